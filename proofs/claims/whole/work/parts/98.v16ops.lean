/-! answer and letter, both. -/
/-- what a text may cost -/
def ClTx (I : Iv) (J : Nat → Iv) (m : Nat) : Prop := ∀ m', m ≤ m' → m' ≤ 1400 → ∀ M Q Z E N k1 k2, I M Q [] Z E N k1 k2 → J m' M Q [] Z E N (k1 + ((m' - m) + 2)) (k2 + (2 * (m' - m) + 500))
section
variable {I : Iv} {J : Nat → Iv} {T T' : tT} {S S' : mS} {X Y : Nat → List (Nat × Nat)} {Z : Nat → List Fz} {Q : List Rq} {j0 c r ra s F m m' k1 k2 : Nat} {rs : List Nat} {g : Nat → Int32} {x y : Int32}
theorem Av.rd (h : Av S r g) (hs : ∀ a k, ¬ a = 629 → rd S' a k = rd S a k) : Av S' r g := by
  obtain ⟨h1, h2, h3, h4⟩ := h
  exact ⟨h1, by rw [hs _ _ (by decide)]; exact h2, by rw [hs _ _ (by decide)]; exact h3, h4.row (fun j _ => hs _ _ (by decide)) h3 (fun j _ => hs _ _ (by decide))⟩
theorem RA.tx (h : RA I T S X Y Z Q [] [] 0 rs c k1 k2) (cT : ClTx I J m) (hm : m ≤ m') (h14 : m' ≤ 1400) (hR : RB T' S' X Y Z Q [] [] 0 rs c) (hcs : Cs T T' ((m' - m) + 2) (2 * (m' - m) + 500)) (hi : ∀ i, ¬ i = 0 → ¬ i = 91 → S'.1 i = S.1 i) (hr : ∀ a k, ¬ a = 629 → rd S' a k = rd S a k) : RA (J m') T' S' X Y Z Q [] [] 0 rs c (k1 + ((m' - m) + 2)) (k2 + (2 * (m' - m) + 500)) := by
  obtain ⟨h1, h2, h3⟩ := h
  have ag : ∀ as is, (∀ a ∈ as, ¬ a = 629) → (∀ i ∈ is, ¬ i = 0 ∧ ¬ i = 91) → Ag as is S S' := fun as is p q => ⟨fun a ha k => hr a k (p a ha), fun i hi' => hi i (q i hi').1 (q i hi').2⟩
  refine ⟨hR, cost_step h2 hcs h1.1, ?_⟩
  rw [vM_ag (ag _ _ (by decide) (by decide)), vE_ag (ag _ _ (by decide) (by decide)), vS_ag (ag _ _ (by decide) (by decide))]
  exact cT m' hm h14 _ _ _ _ _ _ _ h3
theorem PI.le (h : PI T m) : m ≤ 1400 := by
  obtain ⟨b, f, ml, n, _, _, q, _⟩ := h
  exact q
theorem RA.same (h : RA I T S X Y Z Q [] [] 0 rs c k1 k2) (cT : ClTx I J m) (hP : PI T m) (hi : ∀ i, ¬ i = 0 → ¬ i = 91 → S'.1 i = S.1 i) (hr : ∀ a k, ¬ a = 629 → rd S' a k = rd S a k) : RA (J m) T S' X Y Z Q [] [] 0 rs c (k1 + ((m - m) + 2)) (k2 + (2 * (m - m) + 500)) := h.tx cT (Nat.le_refl _) hP.le (h.1.sy hi hr) Cs.refl hi hr
/-- what both see of reply k -/
theorem rep_at {k : Nat} (h : RB T S X Y Z Q [] [] 0 rs c) (hk : k < rs.length) : ∃ ra g s, rs[k]? = some ra ∧ T.1 ra = some (cReply g s) ∧ tlg T 524 (Int32.ofNat k) = some ra ∧ tcc T (some ra) 8 = some () ∧ tcl T 512 0 = some () ∧ k < 300 ∧ g 0 = rd S 627 (9 * k + 6) ∧ ((rd S 621 k = 1 ∧ (∀ i, 1 ≤ i → i < 13 → g i = 0) ∧ s = 31) ∨ (rd S 621 k = 0 ∧ Av S k g)) := by
  obtain ⟨h1, h2, h3, h4, h5, h6, h7, h8, h9, h10⟩ := id h
  obtain ⟨⟨cR, e1⟩, e2, e3, e4, e5⟩ := id h9
  obtain ⟨ra, hra⟩ : ∃ ra, rs[k]? = some ra := ⟨_, List.getElem?_eq_getElem hk⟩
  obtain ⟨g, s, q1, q2, q3, q4, q5⟩ := e5 k ra hra
  refine ⟨ra, g, s, hra, q1, ?_, ?_, tcl_o (show T.1 512 = some (house S.1) from h2), by omega, q3, ?_⟩
  · simp only [tlg, tl, e1, Option.bind_some]
    rw [if_neg (m_n_neg (by omega)), m_n_cl (by omega)]
    exact hra
  · exact tcl_o q1
  · rcases q2 with w | w
    · exact Or.inr ⟨w, by omega, w, e4.2.2 k (by omega), (q5 w).1⟩
    · exact Or.inl ⟨w, q4 w⟩
theorem text_no (hg : T.1 ra = some (cReply g 31)) (h1 : g 1 = 0) : D_c_EdgeHouse_textOf F 512 (some ra) T = some (some 31, T) := by
  unfold D_c_EdgeHouse_textOf D_c_EdgeHouse_textOf_44
  have g13 : tgr T ra 8 13 = some (some 31) := tgr_o (x := some 31) hg rfl
  simp only [Option.bind_some, Rg1 hg, h1, show m_c1 .eq (0 : Int32) = true from rfl, cond_true, g13]
theorem tsl31 : tsl F T 31 = some 0 := by
  unfold tsl
  rw [if_pos rfl]
  decide +kernel
theorem write_no {k : Nat} (hk : k < 300) (h : rd S 621 k = 1) : D_m_write F (Int32.ofNat k) S = some (up1 S 91 0) := by
  unfold D_m_write
  have e : aget 4 300 (up1 S 91 0) 621 (Int32.ofNat k) = some 1 := by rw [aget_n (Or.inr rfl) hk (by decide), rd_up1, h]
  rw [show fput S 91 (0 : Int32) = some (up1 S 91 0) from rfl, Option.bind_some, e]
  rfl
theorem sy0 {v : Int32} (hs : Sy (up1 S 0 v) S') : (∀ i, ¬ i = 0 → ¬ i = 91 → S'.1 i = S.1 i) ∧ (∀ a k, ¬ a = 629 → rd S' a k = rd S a k) ∧ S'.1 0 = v := ⟨fun i h0 h1 => by rw [hs.1 i h1, up1_no h0], fun a k ha => by rw [hs.2 a k ha, rd_up1], by rw [hs.1 0 (by decide), up1_at]⟩
theorem up0 {v : Int32} : (∀ i, ¬ i = 0 → ¬ i = 91 → (up1 S 0 v).1 i = S.1 i) ∧ (∀ a k, ¬ a = 629 → rd (up1 S 0 v) a k = rd S a k) ∧ (up1 S 0 v).1 0 = v := sy0 Sy.refl
/-- the answer's good end -/
def GoodE (J : Nat → Iv) (F : Nat) (T : tT) (S : mS) (m : Nat) (X Y : Nat → List (Nat × Nat)) (Z : Nat → List Fz) (Q : List Rq) (rs : List Nat) (c : Nat) (oc : Option (Int32 × tT)) (om : Option (Int32 × mS)) : Prop := ∃ v T' S' m' k1' k2', oc = some (v, T') ∧ om = some (v, S') ∧ S'.1 0 = 0 ∧ S'.1 2 = S.1 2 ∧ RA (J m') T' S' X Y Z Q [] [] 0 rs c k1' k2' ∧ PI T' m' ∧ m ≤ m' ∧ ∀ c n f, T.1 c = some (.inr (.inl (1, n, f))) → T'.1 c = some (.inr (.inl (1, n, f)))
theorem GoodE.same {v : Int32} {oc : Option (Int32 × tT)} {om : Option (Int32 × mS)} (h : RA I T S X Y Z Q [] [] 0 rs c k1 k2) (cT : ClTx I J m) (hP : PI T m) (e1 : oc = some (v, T)) (e2 : om = some (v, S')) (hi : ∀ i, ¬ i = 0 → ¬ i = 91 → S'.1 i = S.1 i) (hr : ∀ a k, ¬ a = 629 → rd S' a k = rd S a k) (h0 : S'.1 0 = 0) : GoodE J F T S m X Y Z Q rs c oc om :=
  ⟨v, T, S', m, _, _, e1, e2, h0, hi 2 (by decide) (by decide), h.same cT hP hi hr, hP, Nat.le_refl _, fun _ _ _ w => w⟩
theorem op_letter (hF : 1000 ≤ F) (cT : ClTx I J m) (hP : PI T m) (h : RA I T S X Y Z Q [] [] 0 rs c k1 k2) : GoodE J F T S m X Y Z Q rs c (D_c_EdgeHouse_letter F 512 x y T) (D_m_letter F x y S) := by
  obtain ⟨cR, e1⟩ := h.1.2.2.2.2.2.2.2.2.1.1
  have e3 := h.1.2.2.2.2.2.2.2.2.1.2.2.1
  have e2 := h.1.2.2.2.2.2.2.2.2.1.2.1
  have e8 : tgr T 512 0 8 = some (some 524) := tgr_o (x := some 524) (show T.1 512 = some (house S.1) from h.1.2.1) rfl
  have ls : tls T 524 = some (Int32.ofNat rs.length) := by simp only [tls, tl, e1, Option.map_some]
  have u70 : (up1 S 0 0).1 70 = Int32.ofNat rs.length := e3
  obtain ⟨u1, u2, u3⟩ := up0 (S := S) (v := 0)
  have fp : fput S 0 (0 : Int32) = some (up1 S 0 0) := rfl
  rcases i_cases x with hx | ⟨k, hk, rfl⟩
  · refine GoodE.same (v := -1) (S' := up1 S 0 0) h cT hP ?_ ?_ u1 u2 u3
    · unfold D_c_EdgeHouse_letter
      rw [c1_neg hx, cond_true]
    · unfold D_m_letter
      rw [fp, Option.bind_some, c1_neg hx, cond_true]
  · have ek : m_c1 .lt (Int32.ofNat k) = false := m_c1_ltf hk
    by_cases hkn : k < rs.length
    · obtain ⟨ra, g, s, r1, r2, r3, r4, r5, r6, r7, r8⟩ := rep_at h.1 hkn
      have cE : ∀ {s9 : Nat} {T9 : tT}, D_c_EdgeHouse_textOf F 512 (some ra) T = some (some s9, T9) → D_c_EdgeHouse_letter F 512 (Int32.ofNat k) y T = cond (m_c1 .lt y) (some (((-1) : Int32), T9)) ((tsl F T9 s9).bind fun v41 => cond (m_c2 .lt y v41) ((tsc F T9 s9 y).bind fun v47 => some (v47, T9)) (some (((-1) : Int32), T9))) := fun et => by
        unfold D_c_EdgeHouse_letter
        simp only [ek, cond_false, e8, Option.bind_some, ls, lt_n hk (show rs.length < 2147483648 by omega), decide_eq_true hkn, cond_true, r3, r4, r5, et, bd2]
      have mE : ∀ {S9 : mS}, D_m_write F (Int32.ofNat k) (up1 S 0 0) = some S9 → D_m_letter F (Int32.ofNat k) y S = (cond (m_c1 .lt y) (some ((-1) : Int32)) (cond (m_c2 .lt y (S9.1 91)) ((aget 0 700 S9 629 y).bind fun v11 => some v11) (some ((-1) : Int32)))).bind fun v13 => some (v13, S9) := fun et => by
        unfold D_m_letter
        rw [fp, Option.bind_some, ek, cond_false, u70, lt_n hk (show rs.length < 2147483648 by omega), decide_eq_true hkn, cond_true, et, Option.bind_some]
      rcases r8 with ⟨w1, w2, w3⟩ | ⟨w1, w2⟩
      · subst w3
        have et := text_no (F := F) r2 (w2 1 (by decide) (by decide))
        have em := write_no (F := F) (S := up1 S 0 0) r6 (by rw [rd_up1]; exact w1)
        have hs : Sy (up1 S 0 0) (up1 (up1 S 0 0) 91 0) := ⟨fun i hi => up1_no hi, fun a k _ => rd_up1⟩
        obtain ⟨q1, q2, q3⟩ := sy0 hs
        have e91 : (up1 (up1 S 0 0) 91 0).1 91 = 0 := up1_at
        refine GoodE.same (v := -1) (S' := up1 (up1 S 0 0) 91 0) h cT hP ?_ ?_ q1 q2 q3
        · rw [cE et, tsl31, Option.bind_some]
          rcases i_cases y with hy | ⟨j, hj, rfl⟩
          · rw [c1_neg hy, cond_true]
          · rw [m_c1_ltf hj, cond_false, show (0 : Int32) = Int32.ofNat 0 from rfl, lt_n hj (by decide), decide_eq_false (Nat.not_lt_zero _), cond_false]
        · rw [mE em, e91]
          rcases i_cases y with hy | ⟨j, hj, rfl⟩
          · rw [c1_neg hy, cond_true]; rfl
          · rw [m_c1_ltf hj, cond_false, show (0 : Int32) = Int32.ofNat 0 from rfl, lt_n hj (by decide), decide_eq_false (Nat.not_lt_zero _), cond_false]; rfl
      · obtain ⟨g', s', T', m', t1, t2, t3, t4, t5, t6, t7, t8, t9⟩ := text_of (F := F) h.1 hP r1 w1 hF
        obtain ⟨lt, l0⟩ := len_txt (t4.ka (F := F))
        obtain ⟨S9, o1, o2, o3⟩ := m_write (F := F) (t4.rd (S' := up1 S 0 0) u2) hF
        obtain ⟨q1, q2, q3⟩ := sy0 o3
        have hE : ∀ {v : Int32}, D_c_EdgeHouse_letter F 512 (Int32.ofNat k) y T = some (v, T') → D_m_letter F (Int32.ofNat k) y S = some (v, S9) → GoodE J F T S m X Y Z Q rs c (D_c_EdgeHouse_letter F 512 (Int32.ofNat k) y T) (D_m_letter F (Int32.ofNat k) y S) := fun a b => ⟨_, T', S9, m', _, _, a, b, q3, q1 2 (by decide) (by decide), h.tx cT t6 t5.le (t8.sy q1 q2) t7 q1 q2, t5, t6, t9⟩
        rcases i_cases y with hy | ⟨j, hj, rfl⟩
        · refine hE (v := -1) ?_ ?_
          · rw [cE t1, c1_neg hy, cond_true]
          · rw [mE o1, c1_neg hy, cond_true]; rfl
        · by_cases hjl : j < (txt g').length
          · obtain ⟨v, hv⟩ : ∃ v, (txt g')[j]? = some v := ⟨_, List.getElem?_eq_getElem hjl⟩
            refine hE (v := v) ?_ ?_
            · rw [cE t1, m_c1_ltf hj, cond_false, tx_len t3 t2 (by omega), Option.bind_some, lt_n hj (by omega), decide_eq_true hjl, cond_true, tx_chr t3 t2 (by omega) hjl, hv, Option.bind_some]
            · rw [mE o1, m_c1_ltf hj, cond_false, o2.1, lt_n hj (by omega), decide_eq_true hjl, cond_true, aget_n (Or.inl rfl) (by omega) (by decide), o2.2 j v hv]
              rfl
          · refine hE (v := -1) ?_ ?_
            · rw [cE t1, m_c1_ltf hj, cond_false, tx_len t3 t2 (by omega), Option.bind_some, lt_n hj (by omega), decide_eq_false hjl, cond_false]
            · rw [mE o1, m_c1_ltf hj, cond_false, o2.1, lt_n hj (by omega), decide_eq_false hjl, cond_false]
              rfl
    · refine GoodE.same (v := -1) (S' := up1 S 0 0) h cT hP ?_ ?_ u1 u2 u3
      · unfold D_c_EdgeHouse_letter
        simp only [ek, cond_false, e8, Option.bind_some, ls, lt_n hk (show rs.length < 2147483648 by omega), decide_eq_false hkn]
      · unfold D_m_letter
        rw [fp, Option.bind_some, ek, cond_false, u70, lt_n hk (show rs.length < 2147483648 by omega), decide_eq_false hkn, cond_false]
/-- a bad call of answer -/
def AnsT (n : Nat) (x y e : Int32) : Prop := (e = 1 ∧ (m_c1 .lt x = true ∨ (m_c1 .lt x = false ∧ m_c2 .lt x (Int32.ofNat n) = false))) ∨ (e = 2 ∧ m_c1 .lt x = false ∧ m_c2 .lt x (Int32.ofNat n) = true ∧ (m_c1 .lt y = true ∨ (m_c1 .lt y = false ∧ m_c2 .le y (8 : Int32) = false)))
theorem op_answer (hF : 1000 ≤ F) (cT : ClTx I J m) (hP : PI T m) (h : RA I T S X Y Z Q [] [] 0 rs c k1 k2) : GoodE J F T S m X Y Z Q rs c (D_c_EdgeHouse_answer F 512 x y T) (D_m_answer F x y S) ∨ ∃ e, AnsT rs.length x y e ∧ D_m_answer F x y S = some (0, up1 S 0 e) ∧ RA (J m) T (up1 S 0 e) X Y Z Q [] [] 0 rs c (k1 + ((m - m) + 2)) (k2 + (2 * (m - m) + 500)) := by
  obtain ⟨cR, e1⟩ := h.1.2.2.2.2.2.2.2.2.1.1
  have e3 := h.1.2.2.2.2.2.2.2.2.1.2.2.1
  have e2 := h.1.2.2.2.2.2.2.2.2.1.2.1
  have e8 : tgr T 512 0 8 = some (some 524) := tgr_o (x := some 524) (show T.1 512 = some (house S.1) from h.1.2.1) rfl
  have ls : tls T 524 = some (Int32.ofNat rs.length) := by simp only [tls, tl, e1, Option.map_some]
  have fp : ∀ v, fput S 0 v = some (up1 S 0 v) := fun v => rfl
  have bad : ∀ e, ¬ e = 0 → AnsT rs.length x y e → (cond (m_c1 .lt x) (some (1 : Int32)) (cond (m_c2 .lt x (S.1 70)) (cond (m_c1 .lt y) (some (2 : Int32)) (cond (m_c2 .le y (8 : Int32)) (some (0 : Int32)) (some (2 : Int32)))) (some (1 : Int32)))) = some e → ∃ e, AnsT rs.length x y e ∧ D_m_answer F x y S = some (0, up1 S 0 e) ∧ RA (J m) T (up1 S 0 e) X Y Z Q [] [] 0 rs c (k1 + ((m - m) + 2)) (k2 + (2 * (m - m) + 500)) := fun e e0 ea eb => by
    obtain ⟨u1, u2, u3⟩ := up0 (S := S) (v := e)
    refine ⟨e, ea, ?_, h.same cT hP u1 u2⟩
    unfold D_m_answer
    rw [eb, Option.bind_some, fp, Option.bind_some, u3, show m_c1 .eq e = false from decide_eq_false e0, cond_false]
  rcases i_cases x with hx | ⟨k, hk, rfl⟩
  · exact Or.inr (bad 1 (by decide) (Or.inl ⟨rfl, Or.inl (c1_neg hx)⟩) (by rw [c1_neg hx, cond_true]))
  have ek : m_c1 .lt (Int32.ofNat k) = false := m_c1_ltf hk
  have ln : m_c2 .lt (Int32.ofNat k) (Int32.ofNat rs.length) = decide (k < rs.length) := lt_n hk (by omega)
  by_cases hkn : k < rs.length
  case neg => exact Or.inr (bad 1 (by decide) (Or.inl ⟨rfl, Or.inr ⟨ek, by rw [ln, decide_eq_false hkn]⟩⟩) (by rw [ek, cond_false, e3, ln, decide_eq_false hkn, cond_false]))
  rcases i_cases y with hy | ⟨j, hj, rfl⟩
  · exact Or.inr (bad 2 (by decide) (Or.inr ⟨rfl, ek, by rw [ln, decide_eq_true hkn], Or.inl (c1_neg hy)⟩) (by rw [ek, cond_false, e3, ln, decide_eq_true hkn, cond_true, c1_neg hy, cond_true]))
  have ej : m_c1 .lt (Int32.ofNat j) = false := m_c1_ltf hj
  have l8 : m_c2 .le (Int32.ofNat j) (8 : Int32) = decide (j ≤ 8) := le_n (b := 8) hj (by decide)
  by_cases h8 : j ≤ 8
  case neg => exact Or.inr (bad 2 (by decide) (Or.inr ⟨rfl, ek, by rw [ln, decide_eq_true hkn], Or.inr ⟨ej, by rw [l8, decide_eq_false h8]⟩⟩) (by rw [ek, cond_false, e3, ln, decide_eq_true hkn, cond_true, ej, cond_false, l8, decide_eq_false h8, cond_false]))
  left
  obtain ⟨ra, g, s, r1, r2, r3, r4, r5, r6, r7, r8⟩ := rep_at h.1 hkn
  obtain ⟨u1, u2, u3⟩ := up0 (S := S) (v := 0)
  obtain ⟨S8, hS8⟩ : ∃ z, z = up1 S 0 0 := ⟨_, rfl⟩
  rw [← hS8] at u1 u2 u3
  have cA : D_c_EdgeHouse_answer F 512 (Int32.ofNat k) (Int32.ofNat j) T = cond (m_c2 .ne (Int32.ofNat j) (5 : Int32)) ((D_c_Reply_tell F ra (Int32.ofNat j) T).bind fun v37 => some (v37, T)) (bd2 (D_c_EdgeHouse_textOf F 512 (some ra) T) fun v44 T45 => (v44).bind fun a49 => (tsl F T45 a49).bind fun v52 => some (v52, T45)) := by
    unfold D_c_EdgeHouse_answer
    simp only [ek, cond_false, e8, Option.bind_some, ls, ln, decide_eq_true hkn, cond_true, ej, l8, decide_eq_true h8, r3, r4, r5, tcl_o r2]
  have mA : D_m_answer F (Int32.ofNat k) (Int32.ofNat j) S = (fun S8 => cond (m_c2 .ne (Int32.ofNat j) (7 : Int32)) ((aget 4 300 S8 621 (Int32.ofNat k)).bind fun v12 => cond (m_c1 .eq v12) (cond (decide (Int32.ofNat j = (0 : Int32))) ((aget 0 2700 S8 627 ((9 : Int32) * Int32.ofNat k)).bind fun v16 => some (v16, S8)) (cond (decide (Int32.ofNat j = (1 : Int32))) ((aget 0 2700 S8 627 (((9 : Int32) * Int32.ofNat k) + (1 : Int32))).bind fun v19 => some (v19, S8)) (cond (decide (Int32.ofNat j = (2 : Int32))) ((aget 0 2700 S8 627 (((9 : Int32) * Int32.ofNat k) + (2 : Int32))).bind fun v22 => some (v22, S8)) (cond (decide (Int32.ofNat j = (3 : Int32))) ((D_m_bytesOf F (Int32.ofNat k) S8).bind fun v25 => some (v25, S8)) (cond (decide (Int32.ofNat j = (4 : Int32))) ((aget 0 2700 S8 627 (((9 : Int32) * Int32.ofNat k) + (4 : Int32))).bind fun v28 => some (v28, S8)) (cond (decide (Int32.ofNat j = (5 : Int32))) ((D_m_write F (Int32.ofNat k) S8).bind fun S31 => some ((S31.1 91), S31)) (cond (decide (Int32.ofNat j = (6 : Int32))) ((aget 0 2700 S8 627 (((9 : Int32) * Int32.ofNat k) + (5 : Int32))).bind fun v34 => some (v34, S8)) (cond (decide (Int32.ofNat j = (7 : Int32))) ((aget 0 2700 S8 627 (((9 : Int32) * Int32.ofNat k) + (5 : Int32))).bind fun v37 => some (v37, S8)) (cond (decide (Int32.ofNat j = (8 : Int32))) ((aget 0 2700 S8 627 (((9 : Int32) * Int32.ofNat k) + (7 : Int32))).bind fun v40 => some (v40, S8)) ((aget 0 2700 S8 627 (((9 : Int32) * Int32.ofNat k) + (5 : Int32))).bind fun v42 => some (v42, S8))))))))))) (some ((0 : Int32), S8))) ((aget 0 2700 S8 627 (((9 : Int32) * Int32.ofNat k) + (6 : Int32))).bind fun v44 => some (v44, S8))) S8 := by
    unfold D_m_answer
    rw [ek, cond_false, e3, ln, decide_eq_true hkn, cond_true, ej, cond_false, l8, decide_eq_true h8, cond_true, Option.bind_some, fp, Option.bind_some, ← hS8, u3, show m_c1 .eq (0 : Int32) = true from rfl, cond_true]
  have a21 : aget 4 300 S8 621 (Int32.ofNat k) = some (rd S 621 k) := by rw [aget_n (Or.inr rfl) r6 (by decide), u2 _ _ (by decide)]
  have a6 : aget 0 2700 S8 627 ((9 : Int32) * Int32.ofNat k + (6 : Int32)) = some (g 0) := by
    rw [r7, ← u2 627 _ (by decide)]
    exact row_i (j := 6) r6 (by decide)
  have fin : ∀ v, D_c_EdgeHouse_answer F 512 (Int32.ofNat k) (Int32.ofNat j) T = some (v, T) → D_m_answer F (Int32.ofNat k) (Int32.ofNat j) S = some (v, S8) → GoodE J F T S m X Y Z Q rs c (D_c_EdgeHouse_answer F 512 (Int32.ofNat k) (Int32.ofNat j) T) (D_m_answer F (Int32.ofNat k) (Int32.ofNat j) S) := fun v a b => GoodE.same h cT hP a b u1 u2 u3
  by_cases h7 : j = 7
  · subst h7
    refine fin (g 0) ?_ ?_
    · rw [cA]
      unfold D_c_Reply_tell
      rw [Rg0 r2]
      rfl
    · rw [mA]
      show (aget 0 2700 S8 627 (((9 : Int32) * Int32.ofNat k) + (6 : Int32))).bind _ = _
      rw [a6, Option.bind_some]
  · have n7 : m_c2 .ne (Int32.ofNat j) (7 : Int32) = true := by
      rw [show (7 : Int32) = Int32.ofNat 7 from rfl, ne_n hj (by decide), decide_eq_true h7]
    rcases r8 with ⟨w1, w2, w3⟩ | ⟨w1, w2⟩
    · subst w3
      have mO : D_m_answer F (Int32.ofNat k) (Int32.ofNat j) S = some (0, S8) := by
        rw [mA]
        show cond (m_c2 .ne (Int32.ofNat j) (7 : Int32)) _ _ = _
        rw [n7, cond_true, a21, w1, Option.bind_some]
        rfl
      refine fin 0 ?_ mO
      rw [cA]
      have et := text_no (F := F) r2 (w2 1 (by decide) (by decide))
      have js : j = 0 ∨ j = 1 ∨ j = 2 ∨ j = 3 ∨ j = 4 ∨ j = 5 ∨ j = 6 ∨ j = 8 := by omega
      unfold D_c_Reply_tell
      rw [Rg1 r2, Rg3 r2, Rg6 r2, Rg10 r2, Rg7 r2, Rg12 r2, Rg4 r2, w2 1 (by decide) (by decide), w2 3 (by decide) (by decide), w2 6 (by decide) (by decide), w2 10 (by decide) (by decide), w2 7 (by decide) (by decide), w2 12 (by decide) (by decide), w2 4 (by decide) (by decide)]
      rcases js with rfl | rfl | rfl | rfl | rfl | rfl | rfl | rfl
      · rfl
      · rfl
      · rfl
      · rfl
      · rfl
      · rw [show m_c2 .ne (Int32.ofNat 5) (5 : Int32) = false from rfl, cond_false, et]
        simp only [bd2, Option.bind_some, tsl31]
      · rfl
      · rfl
    · have mO : ∀ o, (cond (decide (Int32.ofNat j = (0 : Int32))) ((aget 0 2700 S8 627 ((9 : Int32) * Int32.ofNat k)).bind fun v16 => some (v16, S8)) (cond (decide (Int32.ofNat j = (1 : Int32))) ((aget 0 2700 S8 627 (((9 : Int32) * Int32.ofNat k) + (1 : Int32))).bind fun v19 => some (v19, S8)) (cond (decide (Int32.ofNat j = (2 : Int32))) ((aget 0 2700 S8 627 (((9 : Int32) * Int32.ofNat k) + (2 : Int32))).bind fun v22 => some (v22, S8)) (cond (decide (Int32.ofNat j = (3 : Int32))) ((D_m_bytesOf F (Int32.ofNat k) S8).bind fun v25 => some (v25, S8)) (cond (decide (Int32.ofNat j = (4 : Int32))) ((aget 0 2700 S8 627 (((9 : Int32) * Int32.ofNat k) + (4 : Int32))).bind fun v28 => some (v28, S8)) (cond (decide (Int32.ofNat j = (5 : Int32))) ((D_m_write F (Int32.ofNat k) S8).bind fun S31 => some ((S31.1 91), S31)) (cond (decide (Int32.ofNat j = (6 : Int32))) ((aget 0 2700 S8 627 (((9 : Int32) * Int32.ofNat k) + (5 : Int32))).bind fun v34 => some (v34, S8)) (cond (decide (Int32.ofNat j = (7 : Int32))) ((aget 0 2700 S8 627 (((9 : Int32) * Int32.ofNat k) + (5 : Int32))).bind fun v37 => some (v37, S8)) (cond (decide (Int32.ofNat j = (8 : Int32))) ((aget 0 2700 S8 627 (((9 : Int32) * Int32.ofNat k) + (7 : Int32))).bind fun v40 => some (v40, S8)) ((aget 0 2700 S8 627 (((9 : Int32) * Int32.ofNat k) + (5 : Int32))).bind fun v42 => some (v42, S8))))))))))) = o → D_m_answer F (Int32.ofNat k) (Int32.ofNat j) S = o := fun o ho => by
        rw [mA]
        show cond (m_c2 .ne (Int32.ofNat j) (7 : Int32)) _ _ = _
        rw [n7, cond_true, a21, w1, Option.bind_some]
        exact ho
      have av := w2.rd u2
      have js : j = 0 ∨ j = 1 ∨ j = 2 ∨ j = 3 ∨ j = 4 ∨ j = 5 ∨ j = 6 ∨ j = 8 := by omega
      rw [av.g1, av.g3, av.g6, av.bytes, av.g7, av.g12, av.g4] at mO
      rcases js with rfl | rfl | rfl | rfl | rfl | rfl | rfl | rfl
      · refine fin (g 1) ?_ (mO _ rfl)
        rw [cA]; unfold D_c_Reply_tell; rw [Rg1 r2]; rfl
      · refine fin (g 3) ?_ (mO _ rfl)
        rw [cA]; unfold D_c_Reply_tell; rw [Rg3 r2]; rfl
      · refine fin (g 6) ?_ (mO _ rfl)
        rw [cA]; unfold D_c_Reply_tell; rw [Rg6 r2]; rfl
      · refine fin (g 10) ?_ (mO _ rfl)
        rw [cA]; unfold D_c_Reply_tell; rw [Rg10 r2]; rfl
      · refine fin (g 7) ?_ (mO _ rfl)
        rw [cA]; unfold D_c_Reply_tell; rw [Rg7 r2]; rfl
      · obtain ⟨g', s', T', m', t1, t2, t3, t4, t5, t6, t7, t8, t9⟩ := text_of (F := F) h.1 hP r1 w1 hF
        obtain ⟨lt, l0⟩ := len_txt (t4.ka (F := F))
        obtain ⟨S9, o1, o2, o3⟩ := m_write (F := F) (t4.rd (S' := S8) u2) hF
        have q1 : ∀ i, ¬ i = 0 → ¬ i = 91 → S9.1 i = S.1 i := fun i a b => (o3.1 i b).trans (u1 i a b)
        have q2 : ∀ a k, ¬ a = 629 → rd S9 a k = rd S a k := fun a k ha => (o3.2 a k ha).trans (u2 a k ha)
        have q3 : S9.1 0 = 0 := (o3.1 0 (by decide)).trans u3
        refine ⟨Int32.ofNat (txt g').length, T', S9, m', _, _, ?_, mO _ ?_, q3, q1 2 (by decide) (by decide), h.tx cT t6 t5.le (t8.sy q1 q2) t7 q1 q2, t5, t6, t9⟩
        · rw [cA]
          rw [show m_c2 .ne (Int32.ofNat 5) (5 : Int32) = false from rfl, cond_false, t1]
          show (tsl F T' s').bind _ = _
          rw [tx_len t3 t2 (by omega), Option.bind_some]
        · show (D_m_write F (Int32.ofNat k) S8).bind _ = _
          rw [o1, Option.bind_some, o2.1]
      · refine fin (g 12) ?_ (mO _ rfl)
        rw [cA]; unfold D_c_Reply_tell; rw [Rg12 r2]; rfl
      · refine fin (g 4) ?_ (mO _ rfl)
        rw [cA]; unfold D_c_Reply_tell; rw [Rg4 r2]; rfl
end
