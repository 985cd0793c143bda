/-! The words of a request, on both sides. -/
/-- a request and its conditions, as the reference has them while it reads -/
def qdv (S : mS) (i : Nat) : Int32 := if i = 3 then (if 0 < rd S 585 4 then 1 else 0) else if i = 5 then 15 else if i = 6 then S.1 18 else if i = 7 then S.1 19 else if i = 8 then S.1 13 else if i = 9 then S.1 15 else if i = 10 then (if S.1 14 = 1000000000 then 1000000 else S.1 14) else 0
def cdv (S : mS) (i : Nat) : Int32 := if i = 0 then S.1 16 else if i = 1 then (if S.1 9 = 0 then 0 else if S.1 9 = 3 then 2 else 1) else if i = 2 then (if S.1 9 = 0 then 0 else S.1 10) else if i = 3 then (if S.1 9 = 1 then S.1 11 else if S.1 9 = 2 then 99999 else 0) else if i = 4 then S.1 17 else if i = 6 then S.1 12 else if i = 7 then S.1 20 else 0
def okQ (S : mS) : Prop := flag (S.1 16) ∧ flag (S.1 17) ∧ flag (S.1 18) ∧ flag (S.1 19) ∧ may (S.1 13) ∧ may (S.1 15) ∧ (may (S.1 14) ∨ S.1 14 = 1000000000) ∧ may (S.1 20) ∧ (S.1 9 = 0 ∨ (few 100000 (S.1 10) ∧ ((S.1 9 = 1 ∧ few 100000 (S.1 11)) ∨ S.1 9 = 2 ∨ S.1 9 = 3))) ∧ (∀ j, j < 5 → few 100000 (rd S 585 j))
def Rqs (aq ac at' : Nat) (T : tT) (S : mS) : Prop := T.1 aq = some (cReq (qdv S) none none none) ∧ T.1 ac = some (cCond (cdv S) at') ∧ (∃ n f, n ≤ 8 ∧ S.1 12 = Int32.ofNat n ∧ T.1 at' = some (.inr (.inl (0, 8, f))) ∧ ∀ i, i < n → m_toI (f i) = rd S 586 i ∧ few 100000 (rd S 586 i)) ∧ (∃ f3, T.1 516 = some (.inr (.inl (0, 4, f3))) ∧ ∀ j, j < 4 → m_toI (f3 j) = rd S 585 j) ∧ okQ S
section
variable {T T' : tT} {S S' : mS} {t : Nat → Nat} {L p s e F k c m n a aq ac at' : Nat} {g g' : Nat → Int32} {r : Option Nat × Option Nat × Option Nat} {x : Int32} {w : Option Nat}
theorem qdv6 : fup (qdv S) 6 1 = qdv (up1 S 18 1) := by
  funext i
  unfold fup qdv
  simp only [up1_1, rd_up1]
  by_cases h : i = 6
  · subst h; rfl
  · simp [h] <;> rfl
theorem qdv7 : fup (qdv S) 7 1 = qdv (up1 S 19 1) := by
  funext i
  unfold fup qdv
  simp only [up1_1, rd_up1]
  by_cases h : i = 7
  · subst h; rfl
  · simp [h] <;> rfl
theorem qdv8 : fup (qdv S) 8 x = qdv (up1 S 13 x) := by
  funext i
  unfold fup qdv
  simp only [up1_1, rd_up1]
  by_cases h : i = 8
  · subst h; rfl
  · simp [h] <;> rfl
theorem qdv9 : fup (qdv S) 9 x = qdv (up1 S 15 x) := by
  funext i
  unfold fup qdv
  simp only [up1_1, rd_up1]
  by_cases h : i = 9
  · subst h; rfl
  · simp [h] <;> rfl
theorem qdvA : fup (qdv S) 10 1000000 = qdv (up1 S 14 1000000000) := by
  funext i
  unfold fup qdv
  simp only [up1_1, rd_up1]
  by_cases h : i = 10
  · subst h; rfl
  · simp [h] <;> rfl
theorem qdv10 (hx : ¬ x = 1000000000) : fup (qdv S) 10 x = qdv (up1 S 14 x) := by
  funext i
  unfold fup qdv
  simp only [up1_1, rd_up1]
  by_cases h : i = 10
  · subst h; simp [hx]
  · simp [h] <;> rfl
theorem qdv3 {b : Int32} (hb : b = if 0 < x then 1 else 0) : fup (qdv S) 3 b = qdv (up2 S 585 4 x) := by
  funext i
  unfold fup qdv
  simp only [up2_1, rd_up2]
  by_cases h : i = 3
  · subst h; simp [hb]
  · simp [h] <;> rfl
theorem qdvL {j : Nat} (hj : j < 4) : qdv (up2 S 585 j x) = qdv S := by
  funext i
  unfold qdv
  simp only [up2_1, rd_up2]
  have nj : ¬ 4 = j := by omega
  simp [nj] <;> rfl
/-- the request's cell behind the reader -/
theorem Kq_put {k : Nat} (h : T.1 aq = some (cReq g none none none)) (n5 : ¬ aq = 513) {y : tC} (hy : tpi (kR T L r g') aq 6 k x = some (tset (kR T L r g') aq y)) : tpi (kR T L r g') aq 6 k x = some (kR (tset T aq y) L r g') := by rw [hy, kR_tset n5]
theorem Kr13 : tgr (kR T L r g) 513 1 13 = some r.1 := Rr13 kR_at
theorem Kr14 : tgr (kR T L r g) 513 1 14 = some r.2.1 := Rr14 kR_at
theorem tpz_i {a ci k : Nat} : tpz T a ci k 1 = tpi T a ci k 1 := by
  unfold tpz
  rw [if_pos (Or.inr rfl)]
  rfl
theorem asked_c (h : Tc t L T) (hT : T.1 aq = some (cReq (qdv S) none none none)) (n5 : ¬ aq = 513) (hr : r.1 = some aq) (hw : Wo L g S s e w) (hF : 100 < F) : D_c_Reader_countAsked F 513 (kR T L r g) = some (kR (tset T aq (cReq (qdv (rqS t s e S)) none none none)) L r g) := by
  obtain ⟨w1, w2, w3, w4, w5, w6, w7⟩ := hw
  have wc : ∀ {x cs}, txs x cs → D_c_Reader_isWord F 513 x (kR T L r g) = some (b2i (isW t s e cs)) := fun hx => word_c hx h w1 w2 w3 w4 hF
  have hT' : (kR T L r g).1 aq = some (cReq (qdv S) none none none) := (kR_ne n5).trans hT
  have own : kR (tset T aq (cReq (qdv S) none none none)) L r g = kR T L r g := by rw [tset_own hT]
  have p6 : tpz (kR T L r g) aq 6 6 1 = some (kR (tset T aq (cReq (qdv (up1 S 18 1)) none none none)) L r g) := by rw [tpz_i, Qp6 hT', kR_tset n5, qdv6]
  have p7 : tpz (kR T L r g) aq 6 7 1 = some (kR (tset T aq (cReq (qdv (up1 S 19 1)) none none none)) L r g) := by rw [tpz_i, Qp7 hT', kR_tset n5, qdv7]
  have p8 : ∀ x, tpi (kR T L r g) aq 6 8 x = some (kR (tset T aq (cReq (qdv (up1 S 13 x)) none none none)) L r g) := fun x => by rw [Qp8 hT', kR_tset n5, qdv8]
  have p9 : ∀ x, tpi (kR T L r g) aq 6 9 x = some (kR (tset T aq (cReq (qdv (up1 S 15 x)) none none none)) L r g) := fun x => by rw [Qp9 hT', kR_tset n5, qdv9]
  have pA : tpi (kR T L r g) aq 6 10 1000000 = some (kR (tset T aq (cReq (qdv (up1 S 14 1000000000)) none none none)) L r g) := by rw [Qp10 hT', kR_tset n5, qdvA]
  have p10 : ∀ x, ¬ x = 1000000000 → tpi (kR T L r g) aq 6 10 x = some (kR (tset T aq (cReq (qdv (up1 S 14 x)) none none none)) L r g) := fun x hx => by rw [Qp10 hT', kR_tset n5, qdv10 hx]
  unfold D_c_Reader_countAsked rqS
  rw [Kcl, Option.bind_some, wc tx_23, Option.bind_some, b_eq0]
  cases w with
  | none =>
    obtain ⟨q1', q2'⟩ := w7
    rw [if_pos q2', Kg8, q1']
    simp only [Option.bind_some, show m_c1 .eq (1 : Int32) = false from rfl, cond_false]
    cases ws : isW t s e z_maxstale with
    | true =>
      rw [isW_one ws (show ¬ z_maxstale = z_nocache by decide), isW_one ws (show ¬ z_maxstale = z_onlyifcached by decide)]
      simp only [Bool.not_true, cond_false, Kr13, hr, Option.bind_some, pA]
      rfl
    | false =>
      simp only [Bool.not_false, cond_true, Kcl, Option.bind_some, wc tx_24, b_eq0]
      cases wn : isW t s e z_nocache with
      | true => simp only [Bool.not_true, cond_false, Kr13, hr, Option.bind_some, p6]; rfl
      | false =>
        simp only [Bool.not_false, cond_true]
        unfold D_c_Reader_countAsked_63
        rw [Kg8, q1']
        simp only [Option.bind_some, show m_c1 .eq (1 : Int32) = false from rfl, cond_false, Kcl, wc tx_25, b_eq0]
        cases wo : isW t s e z_onlyifcached with
        | true => simp only [Bool.not_true, cond_false, Kr13, hr, Option.bind_some, p7]; rfl
        | false =>
          simp only [Bool.not_false, cond_true]
          unfold D_c_Reader_countAsked_91 D_c_Reader_countAsked_122
          rw [Kg8, q1']
          simp only [Option.bind_some, show m_c1 .ne (1 : Int32) = true from rfl, cond_true]
          exact congrArg some own.symm
  | some v =>
    obtain ⟨q1', q2', q3', q4'⟩ := w7
    have nb : ¬ Int32.ofNat v = 1000000000 := by
      intro q
      have := congrArg Int32.toInt q
      rw [Int32.toInt_ofNat_of_lt (by omega)] at this
      have e1 : (1000000000 : Int32).toInt = 1000000000 := rfl
      omega
    rw [if_neg (some_ne q4' q2'), Kg8, q1', q4']
    simp only [Option.bind_some, show m_c1 .eq (0 : Int32) = true from rfl, cond_true]
    cases ws : isW t s e z_maxstale with
    | true =>
      rw [isW_one ws (show ¬ z_maxstale = z_maxage by decide)]
      simp only [Bool.not_true, cond_false, Kr13, hr, Option.bind_some, Kg9, q3', p10 _ nb]
      rfl
    | false =>
      simp only [Bool.not_false, cond_true]
      unfold D_c_Reader_countAsked_63
      rw [Kg8, q1']
      simp only [Option.bind_some, show m_c1 .eq (0 : Int32) = true from rfl, cond_true]
      unfold D_c_Reader_countAsked_91
      rw [Kg8, q1']
      simp only [Option.bind_some, show m_c1 .ne (0 : Int32) = false from rfl, cond_false, Kcl, wc tx_26, b_eq0]
      cases wa : isW t s e z_maxage with
      | true => simp only [Bool.not_true, cond_false, Kr13, hr, Option.bind_some, Kg9, q3', p8]; rfl
      | false =>
        simp only [Bool.not_false, cond_true]
        unfold D_c_Reader_countAsked_122
        rw [Kg8, q1']
        simp only [Option.bind_some, show m_c1 .ne (0 : Int32) = false from rfl, cond_false, Kcl, wc tx_27, b_eq0]
        cases wf : isW t s e z_minfresh with
        | true => simp only [Bool.not_true, cond_false, Kr13, hr, Option.bind_some, Kg9, q3', p9]; rfl
        | false =>
          simp only [Bool.not_false, cond_true]
          exact congrArg some own.symm
end
