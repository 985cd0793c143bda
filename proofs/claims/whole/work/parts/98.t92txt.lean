/-! The words of texts, and what the words of a thing mean. -/
abbrev z_put_ : List Nat := [80, 85, 84, 32]
abbrev z_length : List Nat := [108, 101, 110, 103, 116, 104]
abbrev z_cachecontrol : List Nat := [99, 97, 99, 104, 101, 45, 99, 111, 110, 116, 114, 111, 108]
abbrev z_vary : List Nat := [118, 97, 114, 121]
abbrev z_keys : List Nat := [107, 101, 121, 115]
abbrev z_range : List Nat := [114, 97, 110, 103, 101]
abbrev z_ifnonematch : List Nat := [105, 102, 45, 110, 111, 110, 101, 45, 109, 97, 116, 99, 104]
abbrev z_ifrange : List Nat := [105, 102, 45, 114, 97, 110, 103, 101]
abbrev z_acceptlanguage : List Nat := [97, 99, 99, 101, 112, 116, 45, 108, 97, 110, 103, 117, 97, 103, 101]
abbrev z_acceptencoding : List Nat := [97, 99, 99, 101, 112, 116, 45, 101, 110, 99, 111, 100, 105, 110, 103]
abbrev z_bytesq : List Nat := [98, 121, 116, 101, 115, 61]
abbrev z_en : List Nat := [101, 110]
abbrev z_de : List Nat := [100, 101]
abbrev z_fr : List Nat := [102, 114]
abbrev z_it : List Nat := [105, 116]
abbrev z_gzip : List Nat := [103, 122, 105, 112]
abbrev z_maxstale : List Nat := [109, 97, 120, 45, 115, 116, 97, 108, 101]
abbrev z_nocache : List Nat := [110, 111, 45, 99, 97, 99, 104, 101]
abbrev z_onlyifcached : List Nat := [111, 110, 108, 121, 45, 105, 102, 45, 99, 97, 99, 104, 101, 100]
abbrev z_maxage : List Nat := [109, 97, 120, 45, 97, 103, 101]
abbrev z_minfresh : List Nat := [109, 105, 110, 45, 102, 114, 101, 115, 104]
abbrev z_nostore : List Nat := [110, 111, 45, 115, 116, 111, 114, 101]
abbrev z_staleiferror : List Nat := [115, 116, 97, 108, 101, 45, 105, 102, 45, 101, 114, 114, 111, 114]
abbrev z_stalewhilerevalidate : List Nat := [115, 116, 97, 108, 101, 45, 119, 104, 105, 108, 101, 45, 114, 101, 118, 97, 108, 105, 100, 97, 116, 101]
abbrev z_head : List Nat := [72, 69, 65, 68]
abbrev z_get : List Nat := [71, 69, 84]
abbrev z_put : List Nat := [80, 85, 84]
theorem txs_of {x : Nat} {cs : List Nat} (h : (decide (xlen x = some (Int32.ofNat cs.length)) && ((List.range cs.length).all fun k => decide (xchr x (Int32.ofNat k) = some (Int32.ofNat (cs.getD k 0))) && (decide (0 < cs.getD k 0) && decide (cs.getD k 0 < 127)))) = true) (hl : cs.length < 100) : txs x cs := by
  rw [Bool.and_eq_true, decide_eq_true_eq] at h
  have h2 := fun k hk => List.all_eq_true.mp h.2 k (List.mem_range.mpr hk)
  refine ⟨h.1, fun k hk => ?_, fun k hk => ?_, hl⟩
  · have := h2 k hk
    rw [Bool.and_eq_true, decide_eq_true_eq] at this
    exact this.1
  · have := h2 k hk
    rw [Bool.and_eq_true, Bool.and_eq_true, decide_eq_true_eq, decide_eq_true_eq] at this
    exact ⟨this.2.1, of_decide_eq_true this.2.2⟩
theorem tx_5 : txs 5 z_put_ := txs_of (by decide +kernel) (by decide)
theorem tx_8 : txs 8 z_length := txs_of (by decide +kernel) (by decide)
theorem tx_9 : txs 9 z_cachecontrol := txs_of (by decide +kernel) (by decide)
theorem tx_10 : txs 10 z_vary := txs_of (by decide +kernel) (by decide)
theorem tx_11 : txs 11 z_keys := txs_of (by decide +kernel) (by decide)
theorem tx_12 : txs 12 z_range := txs_of (by decide +kernel) (by decide)
theorem tx_13 : txs 13 z_ifnonematch := txs_of (by decide +kernel) (by decide)
theorem tx_14 : txs 14 z_ifrange := txs_of (by decide +kernel) (by decide)
theorem tx_15 : txs 15 z_acceptlanguage := txs_of (by decide +kernel) (by decide)
theorem tx_16 : txs 16 z_acceptencoding := txs_of (by decide +kernel) (by decide)
theorem tx_17 : txs 17 z_bytesq := txs_of (by decide +kernel) (by decide)
theorem tx_18 : txs 18 z_en := txs_of (by decide +kernel) (by decide)
theorem tx_19 : txs 19 z_de := txs_of (by decide +kernel) (by decide)
theorem tx_20 : txs 20 z_fr := txs_of (by decide +kernel) (by decide)
theorem tx_21 : txs 21 z_it := txs_of (by decide +kernel) (by decide)
theorem tx_22 : txs 22 z_gzip := txs_of (by decide +kernel) (by decide)
theorem tx_23 : txs 23 z_maxstale := txs_of (by decide +kernel) (by decide)
theorem tx_24 : txs 24 z_nocache := txs_of (by decide +kernel) (by decide)
theorem tx_25 : txs 25 z_onlyifcached := txs_of (by decide +kernel) (by decide)
theorem tx_26 : txs 26 z_maxage := txs_of (by decide +kernel) (by decide)
theorem tx_27 : txs 27 z_minfresh := txs_of (by decide +kernel) (by decide)
theorem tx_28 : txs 28 z_nostore := txs_of (by decide +kernel) (by decide)
theorem tx_29 : txs 29 z_staleiferror := txs_of (by decide +kernel) (by decide)
theorem tx_30 : txs 30 z_stalewhilerevalidate := txs_of (by decide +kernel) (by decide)
theorem tx_55 : txs 55 z_bytesq := txs_of (by decide +kernel) (by decide)
theorem tx_56 : txs 56 z_gzip := txs_of (by decide +kernel) (by decide)
theorem tx_57 : txs 57 z_nocache := txs_of (by decide +kernel) (by decide)
theorem tx_58 : txs 58 z_onlyifcached := txs_of (by decide +kernel) (by decide)
theorem tx_59 : txs 59 z_maxage := txs_of (by decide +kernel) (by decide)
theorem tx_60 : txs 60 z_maxstale := txs_of (by decide +kernel) (by decide)
theorem tx_61 : txs 61 z_minfresh := txs_of (by decide +kernel) (by decide)
theorem tx_62 : txs 62 z_nostore := txs_of (by decide +kernel) (by decide)
theorem tx_63 : txs 63 z_staleiferror := txs_of (by decide +kernel) (by decide)
theorem tx_64 : txs 64 z_stalewhilerevalidate := txs_of (by decide +kernel) (by decide)
theorem tx_65 : txs 65 z_en := txs_of (by decide +kernel) (by decide)
theorem tx_66 : txs 66 z_de := txs_of (by decide +kernel) (by decide)
theorem tx_67 : txs 67 z_fr := txs_of (by decide +kernel) (by decide)
theorem tx_68 : txs 68 z_it := txs_of (by decide +kernel) (by decide)
theorem tx_69 : txs 69 z_acceptlanguage := txs_of (by decide +kernel) (by decide)
theorem tx_70 : txs 70 z_acceptencoding := txs_of (by decide +kernel) (by decide)
theorem tx_71 : txs 71 z_head := txs_of (by decide +kernel) (by decide)
theorem tx_72 : txs 72 z_get := txs_of (by decide +kernel) (by decide)
theorem tx_73 : txs 73 z_put := txs_of (by decide +kernel) (by decide)
theorem tx_74 : txs 74 z_range := txs_of (by decide +kernel) (by decide)
theorem tx_75 : txs 75 z_ifnonematch := txs_of (by decide +kernel) (by decide)
theorem tx_76 : txs 76 z_ifrange := txs_of (by decide +kernel) (by decide)
theorem tx_77 : txs 77 z_vary := txs_of (by decide +kernel) (by decide)
theorem tx_78 : txs 78 z_cachecontrol := txs_of (by decide +kernel) (by decide)
theorem tx_79 : txs 79 z_length := txs_of (by decide +kernel) (by decide)
theorem tx_80 : txs 80 z_keys := txs_of (by decide +kernel) (by decide)
section
variable {T T' : tT} {S S' : mS} {t : Nat → Nat} {L p s e F k c m n : Nat} {g g' : Nat → Int32} {r : Option Nat × Option Nat × Option Nat} {K A B : List Nat}
theorem mt_all {cs : List Nat} : ∀ n k, mt t cs s n k = true → ∀ j, k ≤ j → j < k + n → t (s + j) = cs.getD j 0 := by
  intro n
  induction n with
  | zero => intro k _ j j1 j2; omega
  | succ n ih =>
    intro k h j j1 j2
    unfold mt at h
    rw [Bool.and_eq_true, decide_eq_true_eq] at h
    by_cases w : j = k
    · rw [w]; exact h.1
    · exact ih (k + 1) h.2 j (by omega) (by omega)
theorem isW_one {c1 c2 : List Nat} (h : isW t s e c1 = true) (hn : ¬ c1 = c2) : isW t s e c2 = false := by
  cases h2 : isW t s e c2 with
  | false => rfl
  | true =>
    exfalso
    apply hn
    unfold isW at h h2
    rw [Bool.and_eq_true, decide_eq_true_eq] at h h2
    have a1 := mt_all _ _ h.2
    have a2 := mt_all _ _ h2.2
    refine List.ext_getElem (by omega) (fun i i1 i2 => ?_)
    have b1 := a1 i (Nat.zero_le _) (by omega)
    have b2 := a2 i (Nat.zero_le _) (by omega)
    rw [List.getD_eq_getElem?_getD, List.getElem?_eq_getElem i1] at b1
    rw [List.getD_eq_getElem?_getD, List.getElem?_eq_getElem i2] at b2
    exact b1.symm.trans b2
/-- a thing as it is told, in the reference -/
def tdv (S : mS) : Nat → Int32
  | 0 => 0
  | 1 => S.1 23
  | 2 => S.1 25
  | 3 => S.1 26
  | 4 => S.1 27
  | 5 => S.1 29
  | 6 => S.1 30
  | 7 => S.1 24
  | 8 => S.1 28
  | _ => 0
def okD (S : mS) : Prop := few 256 (S.1 23) ∧ few 100000 (S.1 25) ∧ few 100000 (S.1 26) ∧ few 100000 (S.1 27) ∧ flag (S.1 29) ∧ flag (S.1 30) ∧ few 256 (S.1 24) ∧ few 4 (S.1 28)
def Td (a : Nat) (T : tT) (S : mS) : Prop := T.1 a = some (cTold 0 (tdv S)) ∧ okD S
/-- a thing's word -/
def thS (t : Nat → Nat) (s e : Nat) (S : mS) : mS := if S.1 82 = -1 then (if isW t s e z_nostore = true then up1 S 29 1 else if isW t s e z_nocache = true then up1 S 30 1 else S) else (if isW t s e z_maxage = true then up1 S 25 (S.1 82) else if isW t s e z_staleiferror = true then up1 S 26 (S.1 82) else if isW t s e z_stalewhilerevalidate = true then up1 S 27 (S.1 82) else S)
theorem thing_m (h : Tp t L S) (hs : s ≤ e) (he : e ≤ L) (g6 : S.1 80 = Int32.ofNat s) (g7 : S.1 81 = Int32.ofNat e) (hF : 100 < F) : D_m_thingWord F S = some (thS t s e S) := by
  have wm : ∀ {x cs S'}, txs x cs → Fs [25, 26, 27, 29, 30] S S' → D_m_isWord F x S' = some (b2i (isW t s e cs)) := fun hx f => word_m hx (h.fs f (by decide)) hs he ((f.1 80 (by decide)).trans g6) ((f.1 81 (by decide)).trans g7) hF
  have f0 : Fs [25, 26, 27, 29, 30] S S := Fs.refl
  have fu : ∀ {k x}, k ∈ [25, 26, 27, 29, 30] → Fs [25, 26, 27, 29, 30] S (up1 S k x) := fun hk => Fs.up1 hk
  have u82 : ∀ {k x}, ¬ 82 = k → (up1 S k x).1 82 = S.1 82 := fun hk => up1_no hk
  unfold D_m_thingWord thS
  by_cases w : S.1 82 = -1
  · rw [if_pos w, show m_c2 .eq (S.1 82) ((-1) : Int32) = true from decide_eq_true w, wm tx_62 f0]
    have tail : ∀ S', D_m_thingWord_52 F 0 S' = some S' := fun S' => rfl
    cases wa : isW t s e z_nostore with
    | true =>
      have wb : isW t s e z_nocache = false := isW_one wa (by decide)
      have q : D_m_thingWord_33 F 0 (up1 S 29 1) = some (up1 S 29 1) := by
        unfold D_m_thingWord_33
        rw [wm tx_57 (fu (by decide)), wb, tail]
        rfl
      rw [if_pos rfl]
      exact q
    | false =>
      have q : D_m_thingWord_33 F 0 S = some (if isW t s e z_nocache = true then up1 S 30 1 else S) := by
        unfold D_m_thingWord_33
        rw [wm tx_57 f0, tail]
        cases isW t s e z_nocache with
        | true => exact tail _
        | false => rfl
      rw [if_neg (by decide)]
      exact q
  · rw [if_neg w, show m_c2 .eq (S.1 82) ((-1) : Int32) = false from decide_eq_false w]
    have c0 : (cond false (some (0 : Int32)) (some (1 : Int32))) = some 1 := rfl
    rw [c0, Option.bind_some]
    show D_m_thingWord_33 F 1 S = _
    show D_m_thingWord_52 F 1 S = _
    have q96 : ∀ S', Fs [25, 26, 27, 29, 30] S S' → D_m_thingWord_96 F 1 S' = some (if isW t s e z_stalewhilerevalidate = true then up1 S' 27 (S'.1 82) else S') := by
      intro S' f
      unfold D_m_thingWord_96
      rw [wm tx_64 f]
      cases isW t s e z_stalewhilerevalidate <;> rfl
    have q74 : ∀ S', Fs [25, 26, 27, 29, 30] S S' → D_m_thingWord_74 F 1 S' = (if isW t s e z_staleiferror = true then D_m_thingWord_96 F 1 (up1 S' 26 (S'.1 82)) else D_m_thingWord_96 F 1 S') := by
      intro S' f
      unfold D_m_thingWord_74
      rw [wm tx_63 f]
      cases isW t s e z_staleiferror <;> rfl
    have q52 : D_m_thingWord_52 F 1 S = (if isW t s e z_maxage = true then D_m_thingWord_74 F 1 (up1 S 25 (S.1 82)) else D_m_thingWord_74 F 1 S) := by
      unfold D_m_thingWord_52
      rw [wm tx_59 f0]
      cases isW t s e z_maxage <;> rfl
    rw [q52]
    by_cases w1 : isW t s e z_maxage = true
    · rw [if_pos w1, if_pos w1, q74 _ (fu (by decide)), if_neg (by rw [isW_one w1 (by decide)]; decide), q96 _ (fu (by decide)), if_neg (by rw [isW_one w1 (by decide)]; decide)]
    · rw [if_neg w1, if_neg w1, q74 _ f0]
      by_cases w2 : isW t s e z_staleiferror = true
      · rw [if_pos w2, if_pos w2, q96 _ (fu (by decide)), if_neg (by rw [isW_one w2 (by decide)]; decide)]
      · rw [if_neg w2, if_neg w2, q96 _ f0]
end
