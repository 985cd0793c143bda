/-! The words of a thing, on both sides. -/
section
variable {T T' : tT} {S S' : mS} {t : Nat → Nat} {L p s e F k c m n a : Nat} {g g' : Nat → Int32} {r : Option Nat × Option Nat × Option Nat} {K A B : List Nat} {x : Int32} {w : Option Nat}
theorem Td2 (h : T.1 a = some (cTold 0 (tdv S))) (n5 : ¬ a = 513) : tpi (kR T L r g) a 13 2 x = some (kR (tset T a (cTold 0 (tdv (up1 S 23 x)))) L r g) := ((tp_o ((kR_ne n5).trans h) (show 2 < 10 by decide)).trans (by rw [kR_tset n5]; rfl))
theorem Td3 (h : T.1 a = some (cTold 0 (tdv S))) (n5 : ¬ a = 513) : tpi (kR T L r g) a 13 3 x = some (kR (tset T a (cTold 0 (tdv (up1 S 25 x)))) L r g) := ((tp_o ((kR_ne n5).trans h) (show 3 < 10 by decide)).trans (by rw [kR_tset n5]; rfl))
theorem Td4 (h : T.1 a = some (cTold 0 (tdv S))) (n5 : ¬ a = 513) : tpi (kR T L r g) a 13 4 x = some (kR (tset T a (cTold 0 (tdv (up1 S 26 x)))) L r g) := ((tp_o ((kR_ne n5).trans h) (show 4 < 10 by decide)).trans (by rw [kR_tset n5]; rfl))
theorem Td5 (h : T.1 a = some (cTold 0 (tdv S))) (n5 : ¬ a = 513) : tpi (kR T L r g) a 13 5 x = some (kR (tset T a (cTold 0 (tdv (up1 S 27 x)))) L r g) := ((tp_o ((kR_ne n5).trans h) (show 5 < 10 by decide)).trans (by rw [kR_tset n5]; rfl))
theorem Td6 (h : T.1 a = some (cTold 0 (tdv S))) (n5 : ¬ a = 513) : tpz (kR T L r g) a 13 6 1 = some (kR (tset T a (cTold 0 (tdv (up1 S 29 1)))) L r g) := by
  unfold tpz
  rw [if_pos (Or.inr rfl)]
  exact ((tp_o ((kR_ne n5).trans h) (show 6 < 10 by decide)).trans (by rw [kR_tset n5]; rfl))
theorem Td7 (h : T.1 a = some (cTold 0 (tdv S))) (n5 : ¬ a = 513) : tpz (kR T L r g) a 13 7 1 = some (kR (tset T a (cTold 0 (tdv (up1 S 30 1)))) L r g) := by
  unfold tpz
  rw [if_pos (Or.inr rfl)]
  exact ((tp_o ((kR_ne n5).trans h) (show 7 < 10 by decide)).trans (by rw [kR_tset n5]; rfl))
theorem Td8 (h : T.1 a = some (cTold 0 (tdv S))) (n5 : ¬ a = 513) : tpi (kR T L r g) a 13 8 x = some (kR (tset T a (cTold 0 (tdv (up1 S 24 x)))) L r g) := ((tp_o ((kR_ne n5).trans h) (show 8 < 10 by decide)).trans (by rw [kR_tset n5]; rfl))
theorem Td9 (h : T.1 a = some (cTold 0 (tdv S))) (n5 : ¬ a = 513) : tpi (kR T L r g) a 13 9 x = some (kR (tset T a (cTold 0 (tdv (up1 S 28 x)))) L r g) := ((tp_o ((kR_ne n5).trans h) (show 9 < 10 by decide)).trans (by rw [kR_tset n5]; rfl))
theorem Tdg8 (h : T.1 a = some (cTold 0 (tdv S))) (n5 : ¬ a = 513) : tgi (kR T L r g) a 13 8 = some (S.1 24) := tgi_o ((kR_ne n5).trans h) rfl
theorem Tdg9 (h : T.1 a = some (cTold 0 (tdv S))) (n5 : ¬ a = 513) : tgi (kR T L r g) a 13 9 = some (S.1 28) := tgi_o ((kR_ne n5).trans h) rfl
theorem Kr15 : tgr (kR T L r g) 513 1 15 = some r.2.2 := Rr15 kR_at
theorem Td.own (h : T.1 a = some (cTold 0 (tdv S))) : kR (tset T a (cTold 0 (tdv S))) L r g = kR T L r g := by rw [tset_own h]
theorem keep_c (h : Tc t L T) (hT : T.1 a = some (cTold 0 (tdv S))) (n5 : ¬ a = 513) (hr : r.2.2 = some a) (hw : Wo L g S s e w) (hF : 100 < F) : D_c_Reader_countKeeping F 513 (kR T L r g) = some (kR (tset T a (cTold 0 (tdv (thS t s e S)))) L r g) := by
  obtain ⟨w1, w2, w3, w4, w5, w6, w7⟩ := hw
  have wc : ∀ {x cs}, txs x cs → D_c_Reader_isWord F 513 x (kR T L r g) = some (b2i (isW t s e cs)) := fun hx => word_c hx h w1 w2 w3 w4 hF
  unfold D_c_Reader_countKeeping thS
  cases w with
  | none =>
    obtain ⟨q1', q2'⟩ := w7
    rw [if_pos q2', Kg8, q1', Option.bind_some, show m_c1 .eq (1 : Int32) = false from rfl, cond_false, Kcl, Option.bind_some, wc tx_28, Option.bind_some, b_eq0]
    cases wa : isW t s e z_nostore with
    | true =>
      rw [if_pos rfl]
      simp only [Bool.not_true, cond_false, Kr15, hr, Option.bind_some, Td6 hT n5]
    | false =>
      rw [if_neg (by decide)]
      simp only [Bool.not_false, cond_true]
      unfold D_c_Reader_countKeeping_28
      rw [Kg8, q1', Option.bind_some, show m_c1 .eq (1 : Int32) = false from rfl, cond_false, Kcl, Option.bind_some, wc tx_24, Option.bind_some, b_eq0]
      cases wb : isW t s e z_nocache with
      | true =>
        rw [if_pos rfl]
        simp only [Bool.not_true, cond_false, Kr15, hr, Option.bind_some, Td7 hT n5]
      | false =>
        rw [if_neg (by decide), Td.own hT]
        simp only [Bool.not_false, cond_true]
        unfold D_c_Reader_countKeeping_56 D_c_Reader_countKeeping_87 D_c_Reader_countKeeping_118
        simp only [Kg8, q1', Option.bind_some, show m_c1 .ne (1 : Int32) = true from rfl, cond_true]
  | some v =>
    obtain ⟨q1', q2', q3', q4'⟩ := w7
    have ne : ¬ S.1 82 = -1 := by
      rw [q4']
      intro q
      have := congrArg Int32.toInt q
      rw [Int32.toInt_ofNat_of_lt (by omega)] at this
      have e1 : (-1 : Int32).toInt = -1 := rfl
      omega
    rw [if_neg ne, Kg8, q1', Option.bind_some, show m_c1 .eq (0 : Int32) = true from rfl, cond_true]
    unfold D_c_Reader_countKeeping_28
    rw [Kg8, q1', Option.bind_some, show m_c1 .eq (0 : Int32) = true from rfl, cond_true]
    unfold D_c_Reader_countKeeping_56
    rw [Kg8, q1', Option.bind_some, show m_c1 .ne (0 : Int32) = false from rfl, cond_false, Kcl, Option.bind_some, wc tx_26, Option.bind_some, b_eq0]
    cases wa : isW t s e z_maxage with
    | true =>
      rw [if_pos rfl]
      simp only [Bool.not_true, cond_false, Kr15, hr, Option.bind_some, Kg9, q3', Td3 hT n5, q4']
    | false =>
      rw [if_neg (by decide)]
      simp only [Bool.not_false, cond_true]
      unfold D_c_Reader_countKeeping_87
      rw [Kg8, q1', Option.bind_some, show m_c1 .ne (0 : Int32) = false from rfl, cond_false, Kcl, Option.bind_some, wc tx_29, Option.bind_some, b_eq0]
      cases wb : isW t s e z_staleiferror with
      | true =>
        rw [if_pos rfl]
        simp only [Bool.not_true, cond_false, Kr15, hr, Option.bind_some, Kg9, q3', Td4 hT n5, q4']
      | false =>
        rw [if_neg (by decide)]
        simp only [Bool.not_false, cond_true]
        unfold D_c_Reader_countKeeping_118
        rw [Kg8, q1', Option.bind_some, show m_c1 .ne (0 : Int32) = false from rfl, cond_false, Kcl, Option.bind_some, wc tx_30, Option.bind_some, b_eq0]
        cases wd : isW t s e z_stalewhilerevalidate with
        | true =>
          rw [if_pos rfl]
          simp only [Bool.not_true, cond_false, Kr15, hr, Option.bind_some, Kg9, q3', Td5 hT n5, q4']
        | false =>
          rw [if_neg (by decide), Td.own hT]
          simp only [Bool.not_false, cond_true]
theorem okD.th (h : okD S) (hw : Wo L g S s e w) : okD (thS t s e S) := by
  obtain ⟨a1, a2, a3, a4, a5, a6, a7, a8⟩ := h
  obtain ⟨_, _, _, _, _, _, w7⟩ := hw
  have fv : ¬ S.1 82 = -1 → few 100000 (S.1 82) := by
    intro ne
    cases w with
    | none => exact absurd w7.2 ne
    | some v => exact ⟨v, by have := w7.2.1; omega, w7.2.2.2⟩
  unfold thS
  by_cases w : S.1 82 = -1
  · rw [if_pos w]
    by_cases q1' : isW t s e z_nostore = true
    · rw [if_pos q1']; exact ⟨a1, a2, a3, a4, Or.inr rfl, a6, a7, a8⟩
    · rw [if_neg q1']
      by_cases q2' : isW t s e z_nocache = true
      · rw [if_pos q2']; exact ⟨a1, a2, a3, a4, a5, Or.inr rfl, a7, a8⟩
      · rw [if_neg q2']; exact ⟨a1, a2, a3, a4, a5, a6, a7, a8⟩
  · rw [if_neg w]
    by_cases q1' : isW t s e z_maxage = true
    · rw [if_pos q1']; exact ⟨a1, fv w, a3, a4, a5, a6, a7, a8⟩
    · rw [if_neg q1']
      by_cases q2' : isW t s e z_staleiferror = true
      · rw [if_pos q2']; exact ⟨a1, a2, fv w, a4, a5, a6, a7, a8⟩
      · rw [if_neg q2']
        by_cases q3' : isW t s e z_stalewhilerevalidate = true
        · rw [if_pos q3']; exact ⟨a1, a2, a3, fv w, a5, a6, a7, a8⟩
        · rw [if_neg q3']; exact ⟨a1, a2, a3, a4, a5, a6, a7, a8⟩
theorem thS_fr : Fr Kw [585] S (thS t s e S) := by
  unfold thS
  have u : ∀ k x, k ∈ Kw → Fr Kw [585] S (up1 S k x) := fun k x hk => (Fs.up1 hk).fr
  split
  · split
    · exact u _ _ (by decide)
    · split
      · exact u _ _ (by decide)
      · exact Fr.refl
  · split
    · exact u _ _ (by decide)
    · split
      · exact u _ _ (by decide)
      · split
        · exact u _ _ (by decide)
        · exact Fr.refl
theorem Td.fs (h : Td a T S) (f : Fs [4, 80, 81, 82] S S') : Td a T S' := by
  obtain ⟨h1, h2⟩ := h
  have q : ∀ i, ¬ i ∈ [4, 80, 81, 82] → S'.1 i = S.1 i := f.1
  have e1 : tdv S' = tdv S := by
    funext i
    unfold tdv
    split <;> first | rfl | exact q _ (by decide)
  refine ⟨by rw [e1]; exact h1, ?_⟩
  unfold okD
  rw [q 23 (by decide), q 25 (by decide), q 26 (by decide), q 27 (by decide), q 29 (by decide), q 30 (by decide), q 24 (by decide), q 28 (by decide)]
  exact h2
/-- a list of what keeping a thing is bound to -/
theorem P_keeping (h : St t L T S p g) (hR : Td a T S) (na : ¬ a = 513 ∧ ¬ a = 514) (hr : r.2.2 = some a) (hF : 400 < F) :
    (∃ p' g' T1 S', D_c_Reader_readList F 513 3 (kR T L r g) = some (1, kR T1 L r g') ∧ D_m_list F 1 S = some S' ∧ St t L T1 S' p' g' ∧ p < p' ∧ Td a T1 S' ∧ Gs [2, 6, 7, 8, 9] g g' ∧ Fr Kl [585] S S' ∧ Ft [a] T T1 ∧ Cs (kR T L r g) (kR T1 L r g') 0 0) ∨
    (∃ f0 g' T1 S', D_c_Reader_readList F 513 3 (kR T L r g) = some (0, kR T1 L r g') ∧ D_m_list F 1 S = some S' ∧ g' 3 = Int32.ofNat f0 ∧ Fl t L S' f0 ∧ Gs [2, 3, 6, 7, 8, 9] g g' ∧ Fr Km [585] S S' ∧ Ft [a] T T1 ∧ Cs (kR T L r g) (kR T1 L r g') 0 0) := by
  have hL := h.1.1
  have pL := h.2.2.1
  have := P_list (F := F) (t := t) (L := L) (r := r) (B := [a]) (ck := 3) (mk := 1) (cs := D_c_Reader_countKeeping F 513) (ms := D_m_thingWord F) (Rel := Td a)
    ⟨fun q => na.1 (List.mem_singleton.mp q).symm, fun q => na.2 (List.mem_singleton.mp q).symm⟩ (fun n i T => rfl)
    (fun rec2 S h5 => by unfold D_m_list_139; rw [h5]; rfl)
    (fun T S g s e w tc tp wo hR => ⟨_, _, keep_c tc hR.1 na.1 hr wo (by omega), thing_m tp wo.1 wo.2.1 wo.2.2.2.2.1 wo.2.2.2.2.2.1 (by omega), ⟨tset_at, hR.2.th wo⟩, thS_fr, Ft.set (by simp), up_cs (T1 := T) hR.1 na.1 rfl rfl⟩)
    (fun S s e tp h1 h2 h3 h4 => ⟨_, thing_m tp h1 h2 h3 h4 (by omega), thS_fr⟩)
    (fun T S S' hR f => hR.fs f) hF (L - p) p 0 g T S (by omega) (by omega) h hR F F (by omega) (by omega)
  exact this
end
