/-! The words of a request, the reference. -/
section
variable {T T' : tT} {S S' : mS} {t : Nat → Nat} {L p s e F k c m n a : Nat} {g g' : Nat → Int32} {x : Int32} {w : Option Nat}
/-- a request's word -/
def rqS (t : Nat → Nat) (s e : Nat) (S : mS) : mS := if S.1 82 = -1 then (if isW t s e z_nocache = true then up1 S 18 1 else if isW t s e z_onlyifcached = true then up1 S 19 1 else if isW t s e z_maxstale = true then up1 S 14 1000000000 else S) else (if isW t s e z_maxage = true then up1 S 13 (S.1 82) else if isW t s e z_maxstale = true then up1 S 14 (S.1 82) else if isW t s e z_minfresh = true then up1 S 15 (S.1 82) else S)
theorem request_m (h : Tp t L S) (hs : s ≤ e) (he : e ≤ L) (g6 : S.1 80 = Int32.ofNat s) (g7 : S.1 81 = Int32.ofNat e) (hF : 100 < F) : D_m_requestWord F S = some (rqS t s e S) := by
  have wm : ∀ {x cs S'}, txs x cs → Fs [13, 14, 15, 18, 19] S S' → D_m_isWord F x S' = some (b2i (isW t s e cs)) := fun hx f => word_m hx (h.fs f (by decide)) hs he ((f.1 80 (by decide)).trans g6) ((f.1 81 (by decide)).trans g7) hF
  have f0 : Fs [13, 14, 15, 18, 19] S S := Fs.refl
  have fu : ∀ {k x}, k ∈ [13, 14, 15, 18, 19] → Fs [13, 14, 15, 18, 19] S (up1 S k x) := fun hk => Fs.up1 hk
  have q74 : ∀ S' (x1 : Int32), Fs [13, 14, 15, 18, 19] S S' → D_m_requestWord_74 F x1 S' = (if isW t s e z_maxstale = true then ((cond (m_c1 .eq x1) (some (1000000000 : Int32)) (some (S'.1 82))).bind fun v50 => D_m_requestWord_102 F x1 (up1 S' 14 v50)) else D_m_requestWord_102 F x1 S') := by
    intro S' x1 f
    unfold D_m_requestWord_74
    rw [wm tx_60 f]
    cases isW t s e z_maxstale <;> rfl
  unfold D_m_requestWord rqS
  by_cases w : S.1 82 = -1
  · rw [if_pos w, show m_c2 .eq (S.1 82) ((-1) : Int32) = true from decide_eq_true w, wm tx_57 f0]
    have t102 : ∀ S', D_m_requestWord_102 F 0 S' = some S' := fun S' => rfl
    have q52 : ∀ S', D_m_requestWord_52 F 0 S' = D_m_requestWord_74 F 0 S' := fun S' => rfl
    have q33 : ∀ S', Fs [13, 14, 15, 18, 19] S S' → D_m_requestWord_33 F 0 S' = (if isW t s e z_onlyifcached = true then D_m_requestWord_74 F 0 (up1 S' 19 1) else D_m_requestWord_74 F 0 S') := by
      intro S' f
      unfold D_m_requestWord_33
      rw [wm tx_58 f, q52]
      cases isW t s e z_onlyifcached <;> rfl
    have q0 : ((cond true (some (0 : Int32)) (some (1 : Int32))).bind fun v4 => cond (m_c1 .ne v4) (D_m_requestWord_33 F v4 S) ((some (b2i (isW t s e z_nocache))).bind fun v9 => cond (m_c1 .eq v9) (D_m_requestWord_33 F v4 S) ((fpub S 18 (1 : Int32)).bind fun S15 => D_m_requestWord_33 F v4 S15))) = (if isW t s e z_nocache = true then D_m_requestWord_33 F 0 (up1 S 18 1) else D_m_requestWord_33 F 0 S) := by
      cases isW t s e z_nocache <;> rfl
    rw [q0]
    by_cases w1 : isW t s e z_nocache = true
    · rw [if_pos w1, if_pos w1, q33 _ (fu (by decide)), if_neg (by rw [isW_one w1 (by decide)]; decide), q74 _ _ (fu (by decide)), if_neg (by rw [isW_one w1 (by decide)]; decide), t102]
    · rw [if_neg w1, if_neg w1, q33 _ f0]
      by_cases w2 : isW t s e z_onlyifcached = true
      · rw [if_pos w2, if_pos w2, q74 _ _ (fu (by decide)), if_neg (by rw [isW_one w2 (by decide)]; decide), t102]
      · rw [if_neg w2, if_neg w2, q74 _ _ f0]
        by_cases w3 : isW t s e z_maxstale = true
        · rw [if_pos w3, if_pos w3]
          exact t102 _
        · rw [if_neg w3, if_neg w3, t102]
  · rw [if_neg w, show m_c2 .eq (S.1 82) ((-1) : Int32) = false from decide_eq_false w]
    show D_m_requestWord_33 F 1 S = _
    show D_m_requestWord_52 F 1 S = _
    have q102 : ∀ S', Fs [13, 14, 15, 18, 19] S S' → D_m_requestWord_102 F 1 S' = some (if isW t s e z_minfresh = true then up1 S' 15 (S'.1 82) else S') := by
      intro S' f
      unfold D_m_requestWord_102
      rw [wm tx_61 f]
      cases isW t s e z_minfresh <;> rfl
    have q52 : D_m_requestWord_52 F 1 S = (if isW t s e z_maxage = true then D_m_requestWord_74 F 1 (up1 S 13 (S.1 82)) else D_m_requestWord_74 F 1 S) := by
      unfold D_m_requestWord_52
      rw [wm tx_59 f0]
      cases isW t s e z_maxage <;> rfl
    rw [q52]
    by_cases w1 : isW t s e z_maxage = true
    · rw [if_pos w1, if_pos w1, q74 _ _ (fu (by decide)), if_neg (by rw [isW_one w1 (by decide)]; decide), q102 _ (fu (by decide)), if_neg (by rw [isW_one w1 (by decide)]; decide)]
    · rw [if_neg w1, if_neg w1, q74 _ _ f0]
      by_cases w2 : isW t s e z_maxstale = true
      · rw [if_pos w2, if_pos w2]
        show D_m_requestWord_102 F 1 (up1 S 14 (S.1 82)) = _
        rw [q102 _ (fu (by decide)), if_neg (by rw [isW_one w2 (by decide)]; decide)]
      · rw [if_neg w2, if_neg w2, q102 _ f0]
theorem rqS_fr : Fr Kw [585] S (rqS t s e S) := by
  unfold rqS
  have u : ∀ k x, k ∈ Kw → Fr Kw [585] S (up1 S k x) := fun k x hk => (Fs.up1 hk).fr
  split
  · split
    · exact u _ _ (by decide)
    · split
      · exact u _ _ (by decide)
      · split
        · exact u _ _ (by decide)
        · exact Fr.refl
  · split
    · exact u _ _ (by decide)
    · split
      · exact u _ _ (by decide)
      · split
        · exact u _ _ (by decide)
        · exact Fr.refl
/-- a word's weight -/
def wgt (S : mS) : Int32 := if S.1 82 = -1 then 9 else S.1 82
/-- a language's word, a form's -/
def lnS (t : Nat → Nat) (s e : Nat) (S : mS) : mS := if isW t s e z_en = true then up2 S 585 0 (wgt S) else if isW t s e z_de = true then up2 S 585 1 (wgt S) else if isW t s e z_fr = true then up2 S 585 2 (wgt S) else if isW t s e z_it = true then up2 S 585 3 (wgt S) else S
def fmS (t : Nat → Nat) (s e : Nat) (S : mS) : mS := if isW t s e z_gzip = true then up2 S 585 4 (wgt S) else S
theorem wgt_c : (cond (m_c2 .ne (S.1 82) ((-1) : Int32)) (some (S.1 82)) (some (9 : Int32))) = some (wgt S) := by
  unfold wgt
  by_cases w : S.1 82 = -1
  · rw [if_pos w, show m_c2 .ne (S.1 82) ((-1) : Int32) = false from decide_eq_false (fun q => q w)]
    rfl
  · rw [if_neg w, show m_c2 .ne (S.1 82) ((-1) : Int32) = true from decide_eq_true w]
    rfl
theorem lang_m (h : Tp t L S) (hs : s ≤ e) (he : e ≤ L) (g6 : S.1 80 = Int32.ofNat s) (g7 : S.1 81 = Int32.ofNat e) (hF : 100 < F) : D_m_weighWord F S = some (lnS t s e S) := by
  have wm : ∀ {x cs}, txs x cs → D_m_isWord F x S = some (b2i (isW t s e cs)) := fun hx => word_m hx h hs he g6 g7 hF
  have pt : ∀ k, k < 4 → aput 5 S 585 (Int32.ofNat k) (wgt S) = some (up2 S 585 k (wgt S)) := fun k hk => aput_n (by omega) (by decide)
  have fin : ∀ k, k < 4 → (cond (m_c2 .eq (Int32.ofNat k) ((-1) : Int32)) (some S) ((cond (m_c2 .ne (S.1 82) ((-1) : Int32)) (some (S.1 82)) (some (9 : Int32))).bind fun v23 => (aput 5 S 585 (Int32.ofNat k) v23).bind fun S24 => some S24)) = some (up2 S 585 k (wgt S)) := by
    intro k hk
    rw [show m_c2 .eq (Int32.ofNat k) ((-1) : Int32) = false from decide_eq_false (fun q => m1_ne (show k < 127 by omega) q.symm), cond_false, wgt_c, Option.bind_some, pt k hk]
    rfl
  unfold D_m_weighWord lnS
  rw [wm tx_65, wm tx_66, wm tx_67, wm tx_68]
  simp only [Option.bind_some, b_eq0]
  cases isW t s e z_en with
  | true => exact fin 0 (by decide)
  | false =>
    cases isW t s e z_de with
    | true => exact fin 1 (by decide)
    | false =>
      cases isW t s e z_fr with
      | true => exact fin 2 (by decide)
      | false =>
        cases isW t s e z_it with
        | true => exact fin 3 (by decide)
        | false => rfl
/-- what the reference does of a form's word -/
def fmM (F : Nat) (S : mS) : Option mS := (D_m_isWord F 56 S).bind fun v56 => cond (m_c1 .eq v56) (some S) ((cond (m_c2 .ne (S.1 82) ((-1) : Int32)) (some (S.1 82)) (some (9 : Int32))).bind fun v65 => aput 5 S 585 (4 : Int32) v65)
theorem form_m (h : Tp t L S) (hs : s ≤ e) (he : e ≤ L) (g6 : S.1 80 = Int32.ofNat s) (g7 : S.1 81 = Int32.ofNat e) (hF : 100 < F) : fmM F S = some (fmS t s e S) := by
  unfold fmM fmS
  rw [word_m tx_56 h hs he g6 g7 hF, Option.bind_some, b_eq0]
  cases isW t s e z_gzip with
  | true =>
    rw [if_pos rfl]
    show ((cond (m_c2 .ne (S.1 82) ((-1) : Int32)) (some (S.1 82)) (some (9 : Int32))).bind fun v65 => aput 5 S 585 (Int32.ofNat 4) v65) = _
    rw [wgt_c, Option.bind_some, aput_n (by decide) (by decide)]
  | false => rfl
theorem lnS_fr : Fr Kw [585] S (lnS t s e S) := by
  unfold lnS
  have u : ∀ k x, Fr Kw [585] S (up2 S 585 k x) := fun k x => Fr.up2 (by decide)
  split
  · exact u _ _
  · split
    · exact u _ _
    · split
      · exact u _ _
      · split
        · exact u _ _
        · exact Fr.refl
theorem fmS_fr : Fr Kw [585] S (fmS t s e S) := by
  unfold fmS
  split
  · exact Fr.up2 (by decide)
  · exact Fr.refl
end
