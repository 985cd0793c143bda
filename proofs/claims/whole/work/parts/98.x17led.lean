/-! The ledger: a FILL is refused, the fetch goes out anew. -/
section
variable {κ : Ko} {G : Gh} {hc : Nat → Nat → Bool} {τ ν lam b1 b2 k1 k2 n i J to0 : Nat} {M : List (Nat → Int32)} {Q : List Rq} {Z : Nat → List Fz} {E : Nat → Option (Nat → Int32)} {N : Nat → Nat → Int32} {y x : Fz} {m : Nat → Int32} {had : Int32}
/-- a place has one fetch -/
theorem del_ne (h : LZs G Z E N) (n1 : 1 ≤ n) (n2 : n < 7) (hy : (Z n)[i]? = some y) (hx : x ∈ zDel Z n i n) : ¬ x.2.1 = y.2.1 := by
  rw [show zDel Z n i n = (Z n).eraseIdx i from if_pos rfl] at hx
  obtain ⟨j, hj, hjx⟩ := List.mem_eraseIdx_iff_getElem?.mp hx
  have hp := (h n n1 n2).2
  obtain ⟨li, ei⟩ := List.getElem?_eq_some_iff.mp hy
  obtain ⟨lj, ej⟩ := List.getElem?_eq_some_iff.mp hjx
  have pw := List.pairwise_iff_getElem.mp hp
  rcases Nat.lt_or_gt_of_ne hj with w | w
  · have := (pw j i lj li w).1
    rw [ei, ej] at this
    exact this
  · have := (pw i j li lj w).1
    rw [ei, ej] at this
    exact fun q => this q.symm
theorem one_y (h : LZs G Z E N) (n1 : 1 ≤ n) (n2 : n < 7) (hy : (Z n)[i]? = some y) (hx : x ∈ Z n) (e : x.2.1 = y.2.1) : x = y := by
  obtain ⟨j, hj⟩ := List.mem_iff_getElem?.mp hx
  by_cases w : j = i
  · rw [w, hy] at hj
    cases hj
    rfl
  · have : x ∈ zDel Z n i n := by
      rw [show zDel Z n i n = (Z n).eraseIdx i from if_pos rfl]
      exact List.mem_eraseIdx_iff_getElem?.mpr ⟨j, w, hj⟩
    exact absurd e (del_ne h n1 n2 hy this)
/-- what a FILL that tells 304 says of the entries -/
theorem fill_304 {p : Nat} (hL : LZ G E N n y) (hE : LE G E N) (hv : ¬ G.1 n (nmb y) = 0) (m12 : m 12 = G.1 n (nmb y)) (hp : p < 32) (pt : toldH G N p (fun i => m (12 + i))) (yp : y.2.2 0 = Int32.ofNat p) {e : Nat} {h : Nat → Int32} (hs : sE E y.2.1 (y.2.2 2) (y.2.2 3) e) (he : E e = some h) : (∀ i, i < 9 → h i = m (12 + i)) ∧ v_blocks (h 1) (y.2.2 5) (y.2.2 6) &&& (h 10 ^^^ -1) = 0 := by
  obtain ⟨⟨yf, y0, _, _⟩, _, _, _, _, _, yh⟩ := hL
  obtain ⟨h0, hb⟩ := yh hv e h hs he
  have ep : eP e = p := by
    have : y.2.1 / 4 % 32 = p := ofNat_in (by omega) (by omega) (y0.symm.trans yp)
    rw [← this]
    unfold eP
    have := hs.1
    omega
  obtain ⟨_, _, t1, _⟩ := hE.1 e h he
  rw [ep] at t1
  refine ⟨fun i hi => ?_, hb⟩
  rw [t1 i hi]
  have := pt.1 i hi
  have e0 : (fun i => m (12 + i)) 0 = h 0 := m12.trans h0.symm
  rw [e0] at this
  exact this.symm
theorem wm_mk (ht : toOK n to0) {G0 : Nat → Int32} {wants : Int32} : wM κ (mkM N n to0 G0 wants had) = if n ≤ 2 then κ.1 else w348 κ := by
  show (if (0 : Int32) = 0 then (if Int32.ofNat to0 = 0 then κ.1 else w348 κ) else _) = _
  rw [if_pos rfl]
  rcases ht with ⟨t1, t2⟩ | ⟨t1, t2, t3⟩
  · rw [if_pos t1, t2]
    rfl
  · rw [if_neg (show ¬ Int32.ofNat to0 = 0 from fun q => by
      have := ofNat_in (show to0 < 2147483648 by omega) (show 0 < 2147483648 by decide) q
      omega), if_neg (show ¬ n ≤ 2 by omega)]
theorem tCnt_to (n2 : n < 7) (m0 : m 0 = 1) (m2 : m 2 = Int32.ofNat n) : (if (m 0 = 0 ∧ ¬ m 2 = 0) ∨ (m 0 = 1 ∧ ¬ (m 2 = 1 ∨ m 2 = 2)) then 1 else 0) = if n = 1 ∨ n = 2 then 0 else 1 := by
  have e1 : m 2 = 1 ↔ n = 1 := ⟨fun q => ofNat_in (by omega) (by decide) (m2.symm.trans q), fun q => by rw [m2, q]; rfl⟩
  have e2 : m 2 = 2 ↔ n = 2 := ⟨fun q => ofNat_in (by omega) (by decide) (m2.symm.trans q), fun q => by rw [m2, q]; rfl⟩
  by_cases w : n = 1 ∨ n = 2
  · rw [if_pos w, if_neg (fun q => by
      rcases q with q | q
      · rw [m0] at q; exact absurd q.1 (by decide)
      · exact q.2 (w.imp e1.mpr e2.mpr))]
  · rw [if_neg w, if_pos (Or.inr ⟨m0, fun q => w (q.imp e1.mp e2.mp)⟩)]
theorem Led.clRef : ClRef (Led τ ν lam b1 b2) := by
  intro M1 m M2 Q Z E N k1 k2 n i y to0 la fo had h n1 n2 m0 m2 hy y7 m6 hR hla hfo g2 g3 hto hh
  obtain ⟨hp, G, ⟨a1, a2, a3, a4, a5, a6, a7, a8, c1, c2⟩, p1', p2'⟩ := h
  obtain ⟨u0, ⟨J, j1, hJ⟩, _, _⟩ := a1.2.2.1 n n1 n2
  have hyZ : y ∈ Z n := List.mem_of_getElem? hy
  have hL := (a2 n n1 n2).1 y hyZ
  obtain ⟨⟨yf, y0, g5, g6⟩, yn, y9, y10, ymo, yc, yh⟩ := id hL
  have hb := hp.2.2.2
  have hJl : J < 1000000000 := by omega
  obtain ⟨_, l2⟩ := a1.2.1.cN (by decide)
  obtain ⟨e0, l0⟩ := u0.cN (by omega)
  have sN : seenN N n = cN (N 0 n) := rfl
  obtain ⟨e9, l9⟩ := y9.cN (by omega)
  have ls9 : lst y = cN (y.2.2 9) := rfl
  obtain ⟨hN, e1, e, eo⟩ := mkN_le hJ hJl
  have cause : ∃ c : Bool, (c = false → had = 0 ∧ ∀ e, ¬ sE E y.2.1 (y.2.2 2) (y.2.2 3) e) ∧ ((c = G.2.1 n (nmb y) ∧ lst y < seenN N n) ∨ (c = false ∧ G.2.1 n (nmb y) = true)) := by
    obtain ⟨n', q1, q2, q3, _, q8, qy, w | ⟨_, qb, ⟨p, pp, p4, pt⟩, qa⟩⟩ := (a3 m (by simp)).2.1 m0
    · rcases m6 with q | q <;> rcases w with w | w <;> rw [q] at w <;> exact absurd w (by decide)
    · have en : n' = n := ofNat_in (by omega) (by omega) (q1.symm.trans m2)
      subst en
      obtain ⟨al, amo, a200, a304⟩ := qa y hyZ y7
      obtain ⟨e8, l8⟩ := q8.cN (by omega)
      rcases hR with w | w | ⟨w, w'⟩
      · exfalso
        rw [e8, e9] at w
        have := (i_lt (by show cN (m 8) < 2147483648; omega) (by show cN (y.2.2 9) < 2147483648; omega)).mp w
        omega
      · rw [yf, e8, e0] at w
        have := (i_lt (by show cN (m 8) < 2147483648; omega) (by show cN (N 0 n') < 2147483648; omega)).mp w
        exact ⟨G.2.1 n' (nmb y), fun q => ⟨had_none hh (yc q).2, (yc q).2⟩, Or.inl ⟨rfl, by omega⟩⟩
      · have m12 := a304 w
        have hv : ¬ G.1 n' (nmb y) = 0 := fun q => pt.2.2.1 (m12.trans q)
        have ht : G.2.1 n' (nmb y) = true := by
          cases hq : G.2.1 n' (nmb y) with
          | true => rfl
          | false => exact absurd (yc hq).1 hv
        have no : ∀ e, ¬ sE E y.2.1 (y.2.2 2) (y.2.2 3) e := fun e hs => by
          obtain ⟨s1, hh', s2, s3⟩ := id hs
          obtain ⟨t1, _⟩ := fill_304 hL a7 hv m12 pp pt ((qy y hyZ y7).1.trans p4) hs s2
          have t8 := t1 8 (by decide)
          have t0 := t1 0 (by decide)
          refine w' (e % 8) (by rw [s3, t8]) (by omega) hh' ?_ t0
          rw [← s1, show 8 * (e / 8) + e % 8 = e by omega]
          exact s2
        exact ⟨false, fun _ => ⟨had_none hh no, no⟩, Or.inr ⟨rfl, ht⟩⟩
  obtain ⟨c, hcc, hcost⟩ := cause
  have zs : ∀ m, ∀ x ∈ zDel Z n i m, x ∈ Z m := fun m x hx => (zDel_sl m).subset hx
  have hno : ∀ x ∈ zDel Z n i n, ¬ x.2.1 = y.2.1 := fun x hx => del_ne a2 n1 n2 hy hx
  have a2d : LZs G (zDel Z n i) E N := a2.le NLe.refl (fun _ _ _ _ => Nat.le_refl _) vShr.refl zDel_sl
  have a3d : LM G (M1 ++ M2) (zDel Z n i) N := a3.le NLe.refl (fun x hx => by
    rcases List.mem_append.mp hx with w | w
    · exact List.mem_append_left _ w
    · exact List.mem_append_right _ (List.mem_cons_of_mem _ w)) zs
  obtain ⟨u, hu⟩ : ∃ u, u = mkY N y.1 y.2.1 n to0 y.2.2 := ⟨_, rfl⟩
  have u7 : u.2.2 7 = Int32.ofNat (J + 1) := by rw [hu]; exact mk7 hJ
  have hgs := gs_new (hv := had) (c := c) (o := cN (N 2 0)) a2d hJ hJl u7
  have hZ := LZs.new (fa := y.1) (to0 := to0) (c := c) a2d a7 a1.2.1 a1.1 hp.1 u0 n1 n2 hJ hJl yf y0 g5 g6 hno hh hcc
  have hF := LF.new (E := E) (f := y.2.1) (fa := y.1) (had := had) (c := c) a2d u0 n1 n2 hJ hJl g5 g6 hto hla hfo g2 g3
  have w1 : ∀ κ, sM κ (psh (M1 ++ M2) (mkM N n to0 y.2.2 (Int32.ofNat (la + 4 * fo)) had)) ≤ sM κ (M1 ++ M2) + (if n ≤ 2 then κ.1 else w348 κ) := fun κ => by
    rw [← wm_mk (κ := κ) (N := N) (had := had) hto (G0 := y.2.2) (wants := Int32.ofNat (la + 4 * fo))]
    exact sM_psh
  have ul : lst u = seenN N n := by rw [hu]; unfold lst seenN; rw [mk9]
  have un : nmb u = J + 1 := by rw [hu]; exact mk_nmb hJ hJl
  have up : u.2.1 = y.2.1 := by rw [hu]; rfl
  have ug : ∀ j, j < 7 → u.2.2 j = y.2.2 j := fun j hj => by rw [hu]; exact mk_lo hj
  rw [← hu] at hZ hF ⊢
  have uin : u ∈ zAdd (zDel Z n i) n u n := by
    rw [show zAdd (zDel Z n i) n u n = zDel Z n i n ++ [u] from if_pos rfl]
    exact List.mem_append_right _ List.mem_cons_self
  obtain ⟨G', hG'⟩ : ∃ g, g = gNew G n (J + 1) had c (cN (N 2 0)) := ⟨_, rfl⟩
  have mo' : G'.2.2.1 n (J + 1) = cN (N 2 0) := by rw [hG']; exact if_pos ⟨rfl, rfl⟩
  have hc' : G'.2.1 n (J + 1) = c := by rw [hG']; exact if_pos ⟨rfl, rfl⟩
  have sZn : ∀ κ, sZ κ G'.2.1 (mkN N n) (zAdd (zDel Z n i) n u) = sZ κ G.2.1 N (zDel Z n i) + wZ κ G'.2.1 N n u := fun κ => by rw [hG']; exact sZ_new n1 n2 a2d hJ hJl
  rw [← hG'] at hZ hF hgs
  have own : ∀ x ∈ Q, ownZ G.2.2.1 Z x → ownZ G'.2.2.1 (zAdd (zDel Z n i) n u) x := fun x hx w => by
    have hxn := (a4 x (List.mem_append_left _ hx)).node (a5 x hx).1
    obtain ⟨q1, v, q2, q3, q4, q5, q6, q7, q8⟩ := w
    by_cases pe : x.2.1 = y.2.1
    · have en : x.2.1 / 128 = n := by rw [pe]; exact yf
      rw [en] at q2 q4
      have hv := one_y a2 n1 n2 hy q2 (q3.trans pe)
      rw [hv] at q4 q5 q6 q7 q8
      refine ⟨q1, u, by rw [en]; exact uin, up.trans pe.symm, ?_, (ug 2 (by decide)).trans q5, (ug 3 (by decide)).trans q6, (ug 5 (by decide)).trans q7, (ug 6 (by decide)).trans q8⟩
      rw [en, un, mo']
      exact Nat.le_trans q4 ymo
    · have : ownZ G.2.2.1 (zDel Z n i) x := own_del hy pe ⟨q1, v, q2, q3, q4, q5, q6, q7, q8⟩
      rw [hG']
      exact own_new a2d ⟨hxn.2.2.1, hxn.2.2.2.1⟩ hJ hJl u7 this
  have key : ∀ κ, Pot κ G'.2.2.1 G'.2.1 (psh (M1 ++ M2) (mkM N n to0 y.2.2 (Int32.ofNat (la + 4 * fo)) had)) Q [] (zAdd (zDel Z n i) n u) (mkN N n) + κ.2.2.1 ≤ Pot κ G.2.2.1 G.2.1 (M1 ++ m :: M2) Q [] Z N := fun κ => by
    have v1 := w1 κ
    have v2 := sZ_del (κ := κ) (hc := G.2.1) (N := N) n1 n2 hy
    have v3 := sZn κ
    have v4 := qw_mono (κ := κ) (mo := G.2.2.1) (mo' := G'.2.2.1) (Z := Z) (Z' := zAdd (zDel Z n i) n u) (Q := Q) own []
    have v5 : (if n ≤ 2 then κ.1 else w348 κ) + wZ κ G'.2.1 N n u + κ.2.2.1 ≤ wZ κ G.2.1 N n y := by
      unfold wZ
      rw [un, hc', ul]
      have d1 : w66 κ = κ.2.2.1 + κ.1 := rfl
      have d2 : w367 κ = κ.2.2.1 + w348 κ := rfl
      by_cases q : 3 ≤ n
      · rw [if_pos q, if_pos q, if_neg (show ¬ n ≤ 2 by omega)]
        rcases hcost with ⟨r1, r2⟩ | ⟨r1, r2⟩
        · rw [r1]
          have s60 : seenN N n ≤ 60 := by omega
          have : w367 κ * (60 - seenN N n) + w367 κ ≤ w367 κ * (60 - lst y) := by
            rw [← Nat.mul_succ]
            exact Nat.mul_le_mul_left _ (by omega)
          omega
        · rw [r1, r2, if_pos rfl, if_neg (by decide)]
          have : w367 κ * (60 - seenN N n) ≤ w367 κ * (60 - lst y) := Nat.mul_le_mul_left _ (by omega)
          omega
      · rw [if_neg q, if_neg q, if_pos (show n ≤ 2 by omega), if_neg (Nat.lt_irrefl _)]
        rcases hcost with ⟨r1, r2⟩ | ⟨r1, r2⟩
        · rw [r1, if_pos r2]
          omega
        · rw [r1, r2, if_pos rfl, if_neg (by decide)]
          omega
    have v6 := sM_rem (κ := κ) (M1 := M1) (M2 := M2) (m := m)
    have v7 : rw0 κ (zAdd (zDel Z n i) n u) (mkN N n) [] = 0 := rfl
    have v8 : rw0 κ Z N [] = 0 := rfl
    unfold Pot
    omega
  have ks := key κs
  have kc := key κc
  have es : κs.2.2.1 = 19 := rfl
  have ec : κc.2.2.1 = 1 := rfl
  have m0' : mkM N n to0 y.2.2 (Int32.ofNat (la + 4 * fo)) had 0 = 0 := rfl
  have m2' : mkM N n to0 y.2.2 (Int32.ofNat (la + 4 * fo)) had 2 = Int32.ofNat to0 := rfl
  have t1 := tCnt_psh (M := M1 ++ M2) (m := mkM N n to0 y.2.2 (Int32.ofNat (la + 4 * fo)) had)
  have t2 := tCnt_rem (M1 := M1) (M2 := M2) (m := m)
  rw [tCnt_to n2 m0 m2] at t2
  have t3 : (if (mkM N n to0 y.2.2 (Int32.ofNat (la + 4 * fo)) had 0 = 0 ∧ ¬ mkM N n to0 y.2.2 (Int32.ofNat (la + 4 * fo)) had 2 = 0) ∨ (mkM N n to0 y.2.2 (Int32.ofNat (la + 4 * fo)) had 0 = 1 ∧ ¬ (mkM N n to0 y.2.2 (Int32.ofNat (la + 4 * fo)) had 2 = 1 ∨ mkM N n to0 y.2.2 (Int32.ofNat (la + 4 * fo)) had 2 = 2)) then 1 else 0) ≤ if n = 1 ∨ n = 2 then 0 else 1 := by
    rcases hto with ⟨t1', t2'⟩ | ⟨t1', _, _⟩
    · rw [if_neg (fun w => by
        rcases w with w | w
        · exact w.2 (by rw [m2', t2']; rfl)
        · rw [m0'] at w; exact absurd w.1 (by decide))]
      exact Nat.zero_le _
    · rw [if_neg (show ¬ (n = 1 ∨ n = 2) by omega)]
      split <;> omega
  have o1 : opn (zAdd (zDel Z n i) n u) ([] : List Rq) = 0 := rfl
  refine ⟨hp, G', ⟨?_, hZ, LM.psh (a3d.g hN hgs) (fun _ => hF) (fun w => by rw [m0'] at w; exact absurd w (by decide)) (fun w => by rw [m0'] at w; exact absurd w (by decide)), fun x hx => ?_, fun x hx => ?_, trivial, (a7.le hN vShr.refl).g hgs.1, (a8.le hN (fun k => e 4 k (by decide))).g hgs.1, c1, by omega⟩, by omega, by omega⟩
  · refine ⟨by rw [e 7 0 (by decide)]; exact a1.1, by rw [e 2 0 (by decide)]; exact a1.2.1, fun k k1' k2' => ?_, fun p hp => by rw [e 5 p (by decide)]; exact a1.2.2.2 p hp⟩
    obtain ⟨y1, y2, y3, y4⟩ := a1.2.2.1 k k1' k2'
    have pr := pCnt_rem (M1 := M1) (M2 := M2) (m := m) (n := k)
    rw [e 2 0 (by decide), e 0 k (by decide), e 6 k (by decide), pCnt_psh (by rw [m0']; decide)]
    refine ⟨y1, ?_, y3, by omega⟩
    by_cases w : k = n
    · rw [w, e1]
      exact ⟨J + 1, by omega, rfl⟩
    · rw [eo k w]
      exact y2.le (by omega)
  · exact ((a4 x hx).le NLe.refl zs).g hN hgs
  · obtain ⟨q1, v, v1, v2⟩ := a5 x hx
    by_cases pe : x.2.1 = y.2.1
    · have en : x.2.1 / 128 = n := by rw [pe]; exact yf
      exact ⟨q1, u, by rw [en]; exact uin, up.trans pe.symm⟩
    · refine ⟨q1, v, ?_, v2⟩
      unfold zAdd
      split
      · rename_i q
        rw [q] at v1
        exact List.mem_append_left _ (mem_del hy v1 (fun w => pe (v2.symm.trans w)))
      · rename_i q
        rw [zDel_o q]
        exact v1
end
