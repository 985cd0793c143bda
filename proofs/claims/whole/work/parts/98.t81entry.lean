/-! entry(node, path, variant, which, what). -/
def c608 (S : mS) (e x : Nat) : Nat := if rd S 601 x = 0 then 0 else if ¬ rd S 602 x = rd S 602 e then 0 else if rd S 608 e ≤ rd S 608 x then 0 else 1
def entSw (F : Nat) (x5 x6 x7 : Int32) (S : mS) : Option (Int32 × mS) := cond (decide (x5 = (0 : Int32))) ((D_m_told F x6 (0 : Int32) S).bind fun v21 => some (v21, S)) (cond (decide (x5 = (1 : Int32))) ((D_m_ageOf F x6 S).bind fun v24 => some (v24, S)) (cond (decide (x5 = (2 : Int32))) ((aget 0 7168 S 607 x6).bind fun v27 => some ((F_bc v27), S)) (cond (decide (x5 = (3 : Int32))) ((aget 0 7168 S 604 x6).bind fun v30 => some (v30, S)) (cond (decide (x5 = (4 : Int32))) ((aget 4 7168 S 602 x6).bind fun v33 => (cond (m_c1 .eq v33) (some (0 : Int32)) (some (1 : Int32))).bind fun v38 => some (v38, S)) (cond (decide (x5 = (5 : Int32))) (some (x7, S)) (cond (decide (x5 = (6 : Int32))) ((D_m_told F x6 (8 : Int32) S).bind fun v41 => some (v41, S)) (some (((-1) : Int32), S))))))))
section
variable {I : Iv} {T : tT} {S : mS} {X Y : Nat → List (Nat × Nat)} {Z : Nat → List Fz} {Q : List Rq} {c F n j0 k1 k2 : Nat} {rs : List Nat}
theorem m_entry116 (h2 : n < 7) {x5 : Int32} {e : Nat} (he : e < 7168) : ∀ (m x s : Nat), x + m = 1024 * n + 1024 → 1024 * n ≤ x → ∀ g, m < g → D_m_entry_116 F g (Int32.ofNat n) x5 (Int32.ofNat e) (Int32.ofNat s) (Int32.ofNat x) S = entSw F x5 (Int32.ofNat e) (Int32.ofNat (s + ((List.range' x m).map (c608 S e)).sum)) S := by
  have e' : (1024 : Int32) * Int32.ofNat n + (1024 : Int32) = Int32.ofNat (1024 * n + 1024) := by rw [k1024]; exact i_add (b := 1024)
  intro m
  induction m with
  | zero =>
    intro x s hx hx2 g hg
    obtain ⟨g, rfl⟩ : ∃ y, g = y + 1 := ⟨g - 1, by omega⟩
    conv => lhs; unfold D_m_entry_116
    rw [e', ge_n (by omega) (by omega), decide_eq_true (by omega), cond_true]
    rfl
  | succ m ih =>
    intro x s hx hx2 g hg
    obtain ⟨g, rfl⟩ : ∃ y, g = y + 1 := ⟨g - 1, by omega⟩
    have a1 : aget 4 7168 S 601 (Int32.ofNat x) = some (rd S 601 x) := aget_n (Or.inr rfl) (by omega) (by decide)
    have a2 : aget 4 7168 S 602 (Int32.ofNat x) = some (rd S 602 x) := aget_n (Or.inr rfl) (by omega) (by decide)
    have a3 : aget 4 7168 S 602 (Int32.ofNat e) = some (rd S 602 e) := aget_n (Or.inr rfl) he (by decide)
    have a4 : aget 0 7168 S 608 (Int32.ofNat x) = some (rd S 608 x) := aget_n (Or.inl rfl) (by omega) (by decide)
    have a5 : aget 0 7168 S 608 (Int32.ofNat e) = some (rd S 608 e) := aget_n (Or.inl rfl) he (by decide)
    have v58 : (cond (m_c1 .eq (rd S 601 x)) (some (0 : Int32)) (cond (m_c2 .ne (rd S 602 x) (rd S 602 e)) (some (0 : Int32)) (cond (m_c2 .ge (rd S 608 x) (rd S 608 e)) (some (0 : Int32)) (some (1 : Int32))))) = some (Int32.ofNat (c608 S e x)) := by
      unfold c608
      by_cases w : rd S 601 x = 0
      · rw [w, if_pos rfl]; rfl
      · rw [show m_c1 .eq (rd S 601 x) = false by simp [m_c1, w], if_neg w, cond_false]
        by_cases w2 : rd S 602 x = rd S 602 e
        · rw [show m_c2 .ne (rd S 602 x) (rd S 602 e) = false by simp [m_c2, w2], if_neg (fun q => q w2), cond_false]
          by_cases w3 : rd S 608 e ≤ rd S 608 x
          · rw [show m_c2 .ge (rd S 608 x) (rd S 608 e) = true by simp [m_c2, w3], if_pos w3]; rfl
          · rw [show m_c2 .ge (rd S 608 x) (rd S 608 e) = false by simp [m_c2, w3], if_neg w3]; rfl
        · rw [show m_c2 .ne (rd S 602 x) (rd S 602 e) = true by simp [m_c2, w2], if_pos w2]; rfl
    conv => lhs; unfold D_m_entry_116
    rw [e', ge_n (by omega) (by omega), decide_eq_false (by omega), cond_false]
    simp only [a1, a2, a3, a4, a5, Option.bind_some, v58, i_add, q1]
    rw [rng_succ, ih (x + 1) (s + c608 S e x) (by omega) (by omega) g (by omega), Nat.add_assoc]
/-- how many stand before an entry in its list -/
theorem cnt_before {L : List (Nat × Nat)} {i : Nat} {q : Nat × Nat} {k : Int32} (h2 : n < 7) (hL : ∀ r ∈ L, isEnt T S n r k) (hp : L.Pairwise (fun a b => tn S a.2 < tn S b.2)) (hnd : (L.map Prod.snd).Nodup) (hi : L[i]? = some q) (hall : ∀ e, 1024 * n ≤ e → e < 1024 * n + 1024 → ¬ rd S 601 e = 0 → rd S 602 e = k → ∃ r ∈ L, r.2 = e) {U : Nat} (hU : RTn S U) (hU2 : U < 2147483648) : ((List.range' (1024 * n) 1024).map (c608 S q.2)).sum = i := by
  obtain ⟨i1, i2⟩ := List.getElem?_eq_some_iff.mp hi
  have hq : q ∈ L := List.mem_of_getElem? hi
  have tv : ∀ r ∈ L, ∃ t, t < 2147483648 ∧ rd S 608 r.2 = Int32.ofNat t ∧ tn S r.2 = t := fun r hr => by
    obtain ⟨t, t1, t2⟩ := hU.2 r.2 ((hL r hr).rng h2).2.2 (hL r hr).there.1
    refine ⟨t, by omega, t2, ?_⟩
    unfold tn
    rw [t2]
    exact m_n_cl (by omega)
  have sub : ((L.take i).map Prod.snd).Sublist (L.map Prod.snd) := (List.take_sublist i L).map _
  rw [sum_rng (hnd.sublist sub) (fun e he => ?_) (fun e e1 e2 e3 => ?_), sum_ones, List.length_map, List.length_take]
  · omega
  · intro e he
    obtain ⟨r, r1, r2⟩ := List.mem_map.mp he
    have rL : r ∈ L := List.mem_of_mem_take r1
    obtain ⟨j, hj⟩ := List.mem_iff_getElem?.mp r1
    have hji : j < i := by
      have := (List.getElem?_eq_some_iff.mp hj).1
      rw [List.length_take] at this
      omega
    rw [List.getElem?_take, if_pos hji] at hj
    obtain ⟨j1, j2⟩ := List.getElem?_eq_some_iff.mp hj
    have lt := (List.pairwise_iff_getElem.mp hp) j i j1 i1 hji
    rw [j2, i2] at lt
    obtain ⟨t, t1, t2, t3⟩ := tv r rL
    obtain ⟨u, u1, u2, u3⟩ := tv q hq
    unfold c608
    rw [← r2, if_neg (hL r rL).there.1, (hL r rL).there.2, (hL q hq).there.2, if_neg (fun w => w rfl), t2, u2, if_neg]
    intro w
    have := (@i_le u t (by show u < 2147483648; omega) (by show t < 2147483648; omega)).mp w
    omega
  · obtain ⟨r, r1, r2⟩ := List.mem_map.mp he
    have := (hL r (List.mem_of_mem_take r1)).rng h2
    rw [← r2]
    exact ⟨this.1, this.2.1⟩
  · unfold c608
    by_cases w : rd S 601 e = 0
    · rw [if_pos w]
    · rw [if_neg w]
      by_cases w2 : rd S 602 e = rd S 602 q.2
      · rw [if_neg (fun x => x w2)]
        obtain ⟨r, r1, r2⟩ := hall e e1 e2 w (w2.trans (hL q hq).there.2)
        obtain ⟨t, t1, t2, t3⟩ := tv r r1
        obtain ⟨u, u1, u2, u3⟩ := tv q hq
        rw [← r2, t2, u2, if_pos]
        refine (@i_le u t (by show u < 2147483648; omega) (by show t < 2147483648; omega)).mpr ?_
        obtain ⟨j, hj⟩ := List.mem_iff_getElem?.mp r1
        obtain ⟨j1, j2⟩ := List.getElem?_eq_some_iff.mp hj
        rcases Nat.lt_trichotomy j i with v | v | v
        · exact absurd (List.mem_map.mpr ⟨r, List.mem_of_getElem? (show (L.take i)[j]? = some r by rw [List.getElem?_take, if_pos v]; exact hj), r2⟩) e3
        · subst v
          rw [i2] at j2
          subst j2
          omega
        · have lt := (List.pairwise_iff_getElem.mp hp) i j i1 j1 v
          rw [j2, i2] at lt
          omega
      · rw [if_pos w2]
theorem op_entry (hF : 5000 ≤ F) {x p v w y : Int32} (h : RA I T S X Y Z Q [] [] 0 rs c k1 k2) (hc : c < 2147483648) : ∃ u, D_c_EdgeHouse_entry F 512 x p v w y T = some u ∧ D_m_entry F x p v w y S = some (u, up1 S 0 0) ∧ RA I T (up1 S 0 0) X Y Z Q [] [] 0 rs c k1 k2 := by
  have h0 := h.zero
  obtain ⟨S0, hS0⟩ : ∃ x, x = up1 S 0 0 := ⟨_, rfl⟩
  rw [← hS0] at h0 ⊢
  obtain ⟨hR, hcost, hIv⟩ := id h0
  have hH : T.1 512 = some (house S0.1) := hR.2.1
  unfold D_c_EdgeHouse_entry D_m_entry
  simp only [fput, Option.bind_some]
  rw [← hS0]
  rcases c_isNode (F := F) (T := T) (S := S0) (x := x) with ⟨n, h1, h2, rfl, i1, i2⟩ | ⟨_, i1, i2⟩
  · rw [i1, i2, Option.bind_some, Option.bind_some, show m_c1 .eq (1 : Int32) = false from rfl, cond_false, show m_c1 .ne (1 : Int32) = true from rfl, cond_true]
    obtain ⟨r1, r2, r3, r4, r5, r6, r7, r8, r9, r10⟩ := id hR
    have hRS := (r6.1 n h1 h2).1
    have hlen := (r6.1 n h1 h2).2.1
    have h512 := (r6.1 n h1 h2).2.2
    have hnode := (r5.2.1 n h1 h2).1
    have g5 := r5.get h2
    have e41 : tgr T (527 + 8 * n) 4 1 = some (some (528 + 8 * n)) := tgr_o (x := some (528 + 8 * n)) hnode rfl
    simp only [Hr3 hH, Option.bind_some, g5, e41, hRS.stC.1]
    have no : (∀ a : Nat, a < 32 → ∀ b : Nat, b < 4 → ∀ d : Nat, d < 8 → ¬ (Int32.ofNat a = p ∧ Int32.ofNat b = v ∧ Int32.ofNat d = w)) → D_c_Store_find F (528 + 8 * n) p v w T = some none := fun q => by
      rw [c_find (F := F) (by omega) hRS (by omega), List.find?_eq_none.mpr (fun r hr => by
        intro hd
        have := of_decide_eq_true hd
        exact q (eP r.2) (by unfold eP; omega) (eV r.2) (by unfold eV; omega) (r.2 % 8) (by omega) this)]
      rfl
    have bad : (∀ a : Nat, a < 32 → ∀ b : Nat, b < 4 → ∀ d : Nat, d < 8 → ¬ (Int32.ofNat a = p ∧ Int32.ofNat b = v ∧ Int32.ofNat d = w)) → ∃ u, ((D_c_Store_find F (528 + 8 * n) p v w T).bind fun v31 => nc v31 (some ((-1) : Int32)) fun a35 => (cond (m_c2 .ne y (5 : Int32)) ((tgi T 512 0 14).bind fun v39 => (tcl T a35 11).bind fun _ => (D_c_Entry_tell F a35 y v39 T).bind fun v45 => some v45) ((D_c_Store_placeOf F (528 + 8 * n) (some a35) T).bind fun v52 => some v52))) = some u ∧ (some ((-1 : Int32), S0) : Option (Int32 × mS)) = some (u, S0) ∧ RA I T S0 X Y Z Q [] [] 0 rs c k1 k2 := fun q => by
      rw [no q]
      exact ⟨-1, rfl, rfl, h0⟩
    rcases i_cases p with hp | ⟨a, ha, rfl⟩
    · rw [c1_neg hp, cond_true]
      exact bad (fun a ha b hb d hd q => by rw [← q.1] at hp; exact m_n_neg (by omega) hp)
    rw [show m_c1 .lt (Int32.ofNat a) = false from m_c1_ltf ha, cond_false, show m_c2 .gt (Int32.ofNat a) (31 : Int32) = decide (31 < a) from gt_n ha (by decide)]
    have inj : ∀ {a b : Nat}, a < 2147483648 → b < 2147483648 → Int32.ofNat a = Int32.ofNat b → a = b := fun {a b} ha hb e => by
      have := congrArg Int32.toNatClampNeg e
      rw [m_n_cl ha, m_n_cl hb] at this
      exact this
    by_cases a3 : 31 < a
    · rw [decide_eq_true a3, cond_true]
      exact bad (fun a' ha' b hb d hd q => by have := inj (by omega) ha q.1; omega)
    rw [decide_eq_false a3, cond_false]
    rcases i_cases v with hv | ⟨b, hb, rfl⟩
    · rw [c1_neg hv, cond_true]
      exact bad (fun a ha b hb d hd q => by rw [← q.2.1] at hv; exact m_n_neg (by omega) hv)
    rw [show m_c1 .lt (Int32.ofNat b) = false from m_c1_ltf hb, cond_false, show m_c2 .gt (Int32.ofNat b) (3 : Int32) = decide (3 < b) from gt_n hb (by decide)]
    by_cases b3 : 3 < b
    · rw [decide_eq_true b3, cond_true]
      exact bad (fun a' ha' b' hb' d hd q => by have := inj (by omega) hb q.2.1; omega)
    rw [decide_eq_false b3, cond_false]
    rcases i_cases w with hw | ⟨d, hd, rfl⟩
    · rw [c1_neg hw, cond_true]
      exact bad (fun a ha b hb d hd q => by rw [← q.2.2] at hw; exact m_n_neg (by omega) hw)
    rw [show m_c1 .lt (Int32.ofNat d) = false from m_c1_ltf hd, cond_false, show m_c2 .lt (Int32.ofNat d) (8 : Int32) = decide (d < 8) from lt_n hd (by decide)]
    by_cases d3 : d < 8
    · rw [decide_eq_true d3, cond_true]
      obtain ⟨e, he⟩ : ∃ e, e = 8 * (128 * n + (4 * a + b)) + d := ⟨_, rfl⟩
      have ix : (8 : Int32) * (((128 : Int32) * Int32.ofNat n + (4 : Int32) * Int32.ofNat a) + Int32.ofNat b) + Int32.ofNat d = Int32.ofNat e := by
        rw [k128, k4, i_add, i_add, k8, i_add, he, Nat.add_assoc (128 * n)]
      have e7 : e < 7168 := by omega
      rw [ix]
      have a601 : aget 4 7168 S0 601 (Int32.ofNat e) = some (rd S0 601 e) := aget_n (Or.inr rfl) e7 (by decide)
      have a607 : aget 0 7168 S0 607 (Int32.ofNat e) = some (rd S0 607 e) := aget_n (Or.inl rfl) e7 (by decide)
      rw [a601, Option.bind_some]
      rcases c_findE (F := F) (by omega) hRS (by omega) (show a < 32 by omega) (show b < 4 by omega) d3 with ⟨f1, f2⟩ | ⟨q, q1', q2', q3'⟩
      · rw [← he] at f1
        rw [f1, f2]
        exact ⟨-1, rfl, rfl, h0⟩
      · rw [q3', Option.bind_some]
        rw [← he] at q2'
        obtain ⟨k, hk⟩ := hRS.ent q1'
        obtain ⟨t, t1, t2, t3⟩ := hk.full
        have th := hk.there
        rw [q2'] at t1 t2 t3 th
        rw [show m_c1 .ne (rd S0 601 e) = true by simp [m_c1, th.1], cond_true]
        obtain ⟨U, U1, U2⟩ := r6.2.2.2
        obtain ⟨nd1, nd2, nd3⟩ := hRS.nodup
        obtain ⟨_, _, _, _, a5, a6, a7, a8, a9, _⟩ := id hRS
        -- how many stand before it
        obtain ⟨i, pl, ct⟩ : ∃ i, D_c_Store_placeOf F (528 + 8 * n) (some q.1) T = some (Int32.ofNat i) ∧ ((List.range' (1024 * n) 1024).map (c608 S0 e)).sum = i := by
          rcases List.mem_append.mp q1' with w | w
          · obtain ⟨i, hi⟩ := List.mem_iff_getElem?.mp w
            refine ⟨i, c_placeX (F := F) (by omega) hRS (by omega) hi (h512 q q1'), ?_⟩
            rw [← q2']
            refine cnt_before h2 a5 a7 nd1 hi (fun e' e1 e2 e3 e4 => ?_) U1 (by omega)
            obtain ⟨r, r1', r2'⟩ := a9 e' e1 e2 e3
            rcases r1' with r1' | r1'
            · exact ⟨r, r1', r2'⟩
            · have := (a6 r r1').there.2
              rw [r2', e4] at this
              exact absurd this (by decide)
          · obtain ⟨i, hi⟩ := List.mem_iff_getElem?.mp w
            refine ⟨i, c_placeY (F := F) (by omega) hRS (by omega) hi (h512 q q1'), ?_⟩
            rw [← q2']
            refine cnt_before h2 a6 a8 nd2 hi (fun e' e1 e2 e3 e4 => ?_) U1 (by omega)
            obtain ⟨r, r1', r2'⟩ := a9 e' e1 e2 e3
            rcases r1' with r1' | r1'
            · have := (a5 r r1').there.2
              rw [r2', e4] at this
              exact absurd this (by decide)
            · exact ⟨r, r1', r2'⟩
        have sw : D_m_entry_106 F (Int32.ofNat n) y (Int32.ofNat e) S0 = entSw F y (Int32.ofNat e) (Int32.ofNat i) S0 := by
          have := m_entry116 (F := F) (S := S0) (x5 := y) h2 e7 1024 (1024 * n) 0 rfl (Nat.le_refl _) F (by omega)
          rw [ct, Nat.zero_add] at this
          unfold D_m_entry_106
          rw [k1024]
          exact this
        have agO : D_m_ageOf F (Int32.ofNat e) S0 = some ((rd S0 605 e + S0.1 36) - rd S0 606 e) := m_ageOf e7
        have tell24 : ¬ y = 5 → ∃ u, D_c_Entry_tell_24 F q.1 y (S0.1 36) T = some u ∧ entSw F y (Int32.ofNat e) (Int32.ofNat i) S0 = some (u, S0) := fun y5 => by
          unfold D_c_Entry_tell_24 entSw
          by_cases y0 : y = 0
          · subst y0
            exact ⟨eT S0 e 0, by
              simp only [show decide ((0 : Int32) = 0) = true from rfl, cond_true, Er2 t1, Option.bind_some, Tg1 t2]
              rfl, by
              have := told0 (F := F) (S := S0) e7
              simp only [show decide ((0 : Int32) = 0) = true from rfl, cond_true, this, Option.bind_some]
              rfl⟩
          rw [decide_eq_false y0, cond_false, cond_false]
          by_cases y1 : y = 1
          · subst y1
            exact ⟨_, by
              simp only [show decide ((1 : Int32) = 1) = true from rfl, cond_true, tcl_o t1, Option.bind_some, c_ageAt t1]
              rfl, by
              simp only [show decide ((1 : Int32) = 1) = true from rfl, cond_true, agO, Option.bind_some]
              rfl⟩
          rw [decide_eq_false y1, cond_false, cond_false]
          by_cases y2 : y = 2
          · subst y2
            exact ⟨_, by
              simp only [show decide ((2 : Int32) = 2) = true from rfl, cond_true, Eg7 t1, Option.bind_some]
              rfl, by
              simp only [show decide ((2 : Int32) = 2) = true from rfl, cond_true, a607, Option.bind_some]
              rfl⟩
          rw [decide_eq_false y2, cond_false, cond_false]
          by_cases y3 : y = 3
          · subst y3
            have a604 : aget 0 7168 S0 604 (Int32.ofNat e) = some (rd S0 604 e) := aget_n (Or.inl rfl) e7 (by decide)
            exact ⟨_, by
              simp only [show decide ((3 : Int32) = 3) = true from rfl, cond_true, Eg4 t1, Option.bind_some]
              rfl, by
              simp only [show decide ((3 : Int32) = 3) = true from rfl, cond_true, a604, Option.bind_some]
              rfl⟩
          rw [decide_eq_false y3, cond_false, cond_false]
          by_cases y4 : y = 4
          · subst y4
            have a602 : aget 4 7168 S0 602 (Int32.ofNat e) = some k := (aget_n (Or.inr rfl) e7 (by decide)).trans (by rw [th.2])
            simp only [show decide ((4 : Int32) = 4) = true from rfl, cond_true, Eg8 t1, a602, Option.bind_some]
            cases m_c1 .eq k <;> exact ⟨_, rfl, rfl⟩
          rw [decide_eq_false y4, decide_eq_false y5, cond_false, cond_false, cond_false, cond_false]
          by_cases y6 : y = 6
          · subst y6
            exact ⟨eT S0 e 8, by
              simp only [show decide ((6 : Int32) = 6) = true from rfl, cond_true, Er2 t1, Option.bind_some, Tg9 t2]
              rfl, by
              have := told8 (F := F) (S := S0) e7
              simp only [show decide ((6 : Int32) = 6) = true from rfl, cond_true, this, Option.bind_some]
              rfl⟩
          rw [decide_eq_false y6]
          exact ⟨-1, rfl, rfl⟩
        simp only [nc, Hg14 hH, Option.bind_some, tcl_o t1, sw]
        by_cases y5 : y = 5
        · subst y5
          simp only [show m_c2 .ne (5 : Int32) (5 : Int32) = false from rfl, cond_false, pl, show m_c2 .le (5 : Int32) (15 : Int32) = true from rfl, cond_true]
          exact ⟨Int32.ofNat i, rfl, rfl, h0⟩
        · rw [show m_c2 .ne y (5 : Int32) = true by simp [m_c2, y5], cond_true]
          obtain ⟨u, u1, u2⟩ := tell24 y5
          unfold D_c_Entry_tell
          have le15 : m_c2 .le y (15 : Int32) = m_c2 .lt y (16 : Int32) := by
            rcases i_cases y with hy | ⟨k9, hk9, rfl⟩
            · have e1 : y < 16 := Int32.lt_trans hy (by decide)
              have e2 : y ≤ 15 := Int32.le_of_lt (Int32.lt_trans hy (by decide))
              simp [m_c2, e1, e2]
            · rw [show m_c2 .le (Int32.ofNat k9) (15 : Int32) = decide (k9 ≤ 15) from le_n hk9 (by decide), show m_c2 .lt (Int32.ofNat k9) (16 : Int32) = decide (k9 < 16) from lt_n hk9 (by decide)]
              by_cases q : k9 ≤ 15
              · rw [decide_eq_true q, decide_eq_true (by omega)]
              · rw [decide_eq_false q, decide_eq_false (by omega)]
          rw [le15]
          cases c1 : m_c2 .lt y (16 : Int32) with
          | true =>
            simp only [cond_true, u1, Option.bind_some]
            exact ⟨u, rfl, u2, h0⟩
          | false =>
            cases c2 : m_c2 .ge y (32 : Int32) with
            | true =>
              simp only [cond_false, cond_true, u1, Option.bind_some]
              exact ⟨u, rfl, u2, h0⟩
            | false =>
              simp only [cond_false, Eg7 t1, a607, Option.bind_some]
              exact ⟨_, rfl, rfl, h0⟩
    · rw [decide_eq_false d3, cond_false]
      exact bad (fun a' ha' b' hb' d' hd' q => by have := inj (by omega) hd q.2.2; omega)
  · rw [i1, i2]
    exact ⟨-1, rfl, rfl, h0⟩
end
