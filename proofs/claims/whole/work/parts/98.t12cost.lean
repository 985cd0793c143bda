/-! What the methods of the class cost at most. Written by wip/tool/kcost.py. -/
theorem K_c_Reader_init {F : Nat} {a0 : Nat} {T : tT} : CsP idT T 3 604 (D_c_Reader_init F a0 T) := by
  unfold D_c_Reader_init
  refine CsP.mono (CsP.dc (K_tna (n := 300) (by decide)) (fun _ T9 => (?_ : CsP _ T9 2 304 _))) (by decide) (by decide)
  refine CsP.b0 K_tpr (fun T9 => ?_)
  refine CsP.b0 K_tpi (fun T9 => ?_)
  refine CsP.mono (CsP.dc (K_tna (n := 300) (by decide)) (fun _ T9 => (?_ : CsP _ T9 1 4 _))) (by decide) (by decide)
  refine CsP.b0 K_tpr (fun T9 => ?_)
  refine CsP.mono (CsP.dc (K_tna (n := 4) (by decide)) (fun _ T9 => (?_ : CsP _ T9 0 0 _))) (by decide) (by decide)
  refine CsP.b0 K_tpr (fun T9 => ?_)
  exact CsP.ret
theorem K_c_Reader_write_71 {F : Nat} {rec28 : Nat → Int64 → Int32 → Int32 → tT → Option (Int32 × tT)} {x0 : Nat} {x1 : Int64} {x3 : Int32} {x4 : Int32} {T : tT} (hrec28 : ∀ (y0 : Nat) (y1 : Int64) (y2 : Int32) (y3 : Int32) (T : tT), CsP Prod.snd T 0 0 (rec28 y0 y1 y2 y3 T)) : CsP Prod.snd T 0 0 (D_c_Reader_write_71 F rec28 x0 x1 x3 x4 T) := by
  unfold D_c_Reader_write_71
  exact CsP.mono (hrec28 _ _ _ _ _) (Nat.zero_le _) (Nat.zero_le _)
theorem K_c_Reader_write_82 {F : Nat} : ∀ (n : Nat) (y0 : Nat) (y1 : Int64) (y2 : Int32) (T : tT), CsP Prod.snd T 0 0 (D_c_Reader_write_82 F n y0 y1 y2 T) := by
  intro n
  induction n with
  | zero => intros; exact CsP.none
  | succ n ih =>
    intros
    unfold D_c_Reader_write_82
    refine CsP.cond ?_ ?_
    · exact CsP.ret2
    · refine CsP.bp (fun _ => ?_)
      refine CsP.bp (fun _ => ?_)
      refine CsP.bp (fun _ => ?_)
      refine CsP.b0 K_tasc (fun T9 => ?_)
      refine CsP.bp (fun _ => ?_)
      refine CsP.b0 K_tpi (fun T9 => ?_)
      exact CsP.mono (ih _ _ _ _) (Nat.zero_le _) (Nat.zero_le _)
theorem K_c_Reader_write_28 {F : Nat} : ∀ (n : Nat) (y0 : Nat) (y1 : Int64) (y2 : Int32) (y3 : Int32) (T : tT), CsP Prod.snd T 0 0 (D_c_Reader_write_28 F n y0 y1 y2 y3 T) := by
  intro n
  induction n with
  | zero => intros; exact CsP.none
  | succ n ih =>
    intros
    unfold D_c_Reader_write_28
    refine CsP.cond ?_ ?_
    · exact CsP.mono (K_c_Reader_write_82 _ _ _ _ _) (by decide) (by decide)
    · refine CsP.cond ?_ ?_
      · exact CsP.mono (K_c_Reader_write_71 ih) (by decide) (by decide)
      · refine CsP.cond ?_ ?_
        · exact CsP.ret2
        · refine CsP.cond ?_ ?_
          · exact CsP.mono (K_c_Reader_write_71 ih) (by decide) (by decide)
          · exact CsP.ret2
theorem K_c_Reader_write {F : Nat} {a0 : Nat} {p0 : Int64} {p1 : Int32} {T : tT} : CsP Prod.snd T 0 0 (D_c_Reader_write F a0 p0 p1 T) := by
  unfold D_c_Reader_write
  refine CsP.cond ?_ ?_
  · exact CsP.ret2
  · refine CsP.cond ?_ ?_
    · exact CsP.ret2
    · refine CsP.bp (fun _ => ?_)
      refine CsP.cond ?_ ?_
      · exact CsP.mono (K_c_Reader_write_28 _ _ _ _ _ _) (by decide) (by decide)
      · exact CsP.ret2
theorem K_c_EdgeHouse_type {F : Nat} {a0 : Nat} {p0 : Int64} {p1 : Int32} {T : tT} : CsP Prod.snd T 0 0 (D_c_EdgeHouse_type F a0 p0 p1 T) := by
  unfold D_c_EdgeHouse_type
  refine CsP.bp (fun _ => ?_)
  refine CsP.bp (fun _ => ?_)
  refine CsP.bp (fun _ => ?_)
  refine CsP.d0 K_c_Reader_write (fun _ T9 => ?_)
  refine CsP.bp (fun _ => ?_)
  exact CsP.ret2
theorem K_c_EdgeHouse_drop {F : Nat} {a0 : Nat} {p0 : Int32} {T : tT} : CsP Prod.snd T 0 0 (D_c_EdgeHouse_drop F a0 p0 T) := by
  unfold D_c_EdgeHouse_drop
  refine CsP.bp (fun _ => ?_)
  refine CsP.cond ?_ ?_
  · exact CsP.ret2
  · refine CsP.bp (fun _ => ?_)
    refine CsP.bp (fun _ => ?_)
    refine CsP.bp (fun _ => ?_)
    refine CsP.nc ?_ (fun _ => ?_)
    · exact CsP.ret2
    · refine CsP.bp (fun _ => ?_)
      refine CsP.bp (fun _ => ?_)
      refine CsP.b0 K_tasr (fun T9 => ?_)
      exact CsP.ret2
theorem K_c_Reader_begin_17 {F : Nat} : ∀ (n : Nat) (y0 : Nat) (y1 : Int32) (T : tT), CsP idT T 0 0 (D_c_Reader_begin_17 F n y0 y1 T) := by
  intro n
  induction n with
  | zero => intros; exact CsP.none
  | succ n ih =>
    intros
    unfold D_c_Reader_begin_17
    refine CsP.bp (fun _ => ?_)
    refine CsP.bp (fun _ => ?_)
    refine CsP.bp (fun _ => ?_)
    refine CsP.cond ?_ ?_
    · exact CsP.ret
    · refine CsP.bp (fun _ => ?_)
      refine CsP.bp (fun _ => ?_)
      refine CsP.b0 K_tasi (fun T9 => ?_)
      exact CsP.mono (ih _ _ _) (Nat.zero_le _) (Nat.zero_le _)
theorem K_c_Reader_begin {F : Nat} {a0 : Nat} {T : tT} : CsP idT T 0 0 (D_c_Reader_begin F a0 T) := by
  unfold D_c_Reader_begin
  refine CsP.b0 K_tpi (fun T9 => ?_)
  refine CsP.b0 K_tpi (fun T9 => ?_)
  refine CsP.b0 K_tpi (fun T9 => ?_)
  exact CsP.mono (K_c_Reader_begin_17 _ _ _ _) (by decide) (by decide)
theorem K_c_Request_init {F : Nat} {a0 : Nat} {T : tT} : CsP idT T 0 0 (D_c_Request_init F a0 T) := by
  unfold D_c_Request_init
  refine CsP.b0 K_tpi (fun T9 => ?_)
  refine CsP.b0 K_tpi (fun T9 => ?_)
  refine CsP.b0 K_tpi (fun T9 => ?_)
  refine CsP.b0 K_tpi (fun T9 => ?_)
  exact CsP.ret
theorem K_c_Conditions_init {F : Nat} {a0 : Nat} {T : tT} : CsP idT T 1 8 (D_c_Conditions_init F a0 T) := by
  unfold D_c_Conditions_init
  refine CsP.b0 K_tpi (fun T9 => ?_)
  refine CsP.mono (CsP.dc (K_tna (n := 8) (by decide)) (fun _ T9 => (?_ : CsP _ T9 0 0 _))) (by decide) (by decide)
  refine CsP.b0 K_tpr (fun T9 => ?_)
  refine CsP.b0 K_tpi (fun T9 => ?_)
  exact CsP.ret
theorem K_c_Reader_no {F : Nat} {a0 : Nat} {p0 : Int32} {T : tT} : CsP Prod.snd T 0 0 (D_c_Reader_no F a0 p0 T) := by
  unfold D_c_Reader_no
  refine CsP.b0 K_tpi (fun T9 => ?_)
  exact CsP.ret2
theorem K_c_Reader_expect {F : Nat} {a0 : Nat} {p0 : Int32} {T : tT} : CsP Prod.snd T 0 0 (D_c_Reader_expect F a0 p0 T) := by
  unfold D_c_Reader_expect
  refine CsP.bp (fun _ => ?_)
  refine CsP.bp (fun _ => ?_)
  refine CsP.cond ?_ ?_
  · refine CsP.bp (fun _ => ?_)
    refine CsP.b0 K_tpi (fun T9 => ?_)
    exact CsP.ret2
  · refine CsP.bp (fun _ => ?_)
    refine CsP.bp (fun _ => ?_)
    refine CsP.d0 K_c_Reader_no (fun _ T9 => ?_)
    refine CsP.bp (fun _ => ?_)
    exact CsP.ret2
theorem K_c_Reader_expectText_2 {F : Nat} : ∀ (n : Nat) (y0 : Nat) (y1 : Nat) (y2 : Int32) (T : tT), CsP Prod.snd T 0 0 (D_c_Reader_expectText_2 F n y0 y1 y2 T) := by
  intro n
  induction n with
  | zero => intros; exact CsP.none
  | succ n ih =>
    intros
    unfold D_c_Reader_expectText_2
    refine CsP.bp (fun _ => ?_)
    refine CsP.cond ?_ ?_
    · exact CsP.ret2
    · refine CsP.bp (fun _ => ?_)
      refine CsP.bp (fun _ => ?_)
      refine CsP.d0 K_c_Reader_expect (fun _ T9 => ?_)
      refine CsP.cond ?_ ?_
      · exact CsP.mono (ih _ _ _ _) (Nat.zero_le _) (Nat.zero_le _)
      · exact CsP.ret2
theorem K_c_Reader_expectText {F : Nat} {a0 : Nat} {p0 : Nat} {T : tT} : CsP Prod.snd T 0 0 (D_c_Reader_expectText F a0 p0 T) := by
  unfold D_c_Reader_expectText
  exact CsP.mono (K_c_Reader_expectText_2 _ _ _ _ _) (by decide) (by decide)
theorem K_c_Reader_readNumber_114 {F : Nat} {x0 : Nat} {T : tT} : CsP Prod.snd T 0 0 (D_c_Reader_readNumber_114 F x0 T) := by
  unfold D_c_Reader_readNumber_114
  exact CsP.ret2
theorem K_c_Reader_readNumber_62 {F : Nat} {x0 : Nat} {x1 : Int32} {x2 : Int32} {T : tT} : CsP Prod.snd T 0 0 (D_c_Reader_readNumber_62 F x0 x1 x2 T) := by
  unfold D_c_Reader_readNumber_62
  refine CsP.bp (fun _ => ?_)
  refine CsP.cond ?_ ?_
  · refine CsP.bp (fun _ => ?_)
    refine CsP.cond ?_ ?_
    · refine CsP.bp (fun _ => ?_)
      refine CsP.bp (fun _ => ?_)
      refine CsP.bp (fun _ => ?_)
      refine CsP.cond ?_ ?_
      · exact CsP.mono K_c_Reader_readNumber_114 (by decide) (by decide)
      · refine CsP.bp (fun _ => ?_)
        refine CsP.bp (fun _ => ?_)
        refine CsP.d0 K_c_Reader_no (fun _ T9 => ?_)
        refine CsP.bp (fun _ => ?_)
        refine CsP.bp (fun _ => ?_)
        exact CsP.ret2
    · refine CsP.bp (fun _ => ?_)
      refine CsP.d0 K_c_Reader_no (fun _ T9 => ?_)
      refine CsP.bp (fun _ => ?_)
      exact CsP.ret2
  · refine CsP.bp (fun _ => ?_)
    refine CsP.bp (fun _ => ?_)
    refine CsP.d0 K_c_Reader_no (fun _ T9 => ?_)
    refine CsP.bp (fun _ => ?_)
    exact CsP.ret2
theorem K_c_Reader_readNumber_12 {F : Nat} : ∀ (n : Nat) (y0 : Nat) (y1 : Int32) (y2 : Int32) (y3 : Int32) (T : tT), CsP Prod.snd T 0 0 (D_c_Reader_readNumber_12 F n y0 y1 y2 y3 T) := by
  intro n
  induction n with
  | zero => intros; exact CsP.none
  | succ n ih =>
    intros
    unfold D_c_Reader_readNumber_12
    refine CsP.cond ?_ ?_
    · exact CsP.mono K_c_Reader_readNumber_62 (by decide) (by decide)
    · refine CsP.bp (fun _ => ?_)
      refine CsP.bp (fun _ => ?_)
      refine CsP.bp (fun _ => ?_)
      refine CsP.cond ?_ ?_
      · exact CsP.mono K_c_Reader_readNumber_62 (by decide) (by decide)
      · refine CsP.bp (fun _ => ?_)
        refine CsP.bp (fun _ => ?_)
        refine CsP.bp (fun _ => ?_)
        refine CsP.b0 K_tpi (fun T9 => ?_)
        refine CsP.bp (fun _ => ?_)
        refine CsP.b0 K_tpi (fun T9 => ?_)
        exact CsP.mono (ih _ _ _ _ _) (Nat.zero_le _) (Nat.zero_le _)
theorem K_c_Reader_readNumber {F : Nat} {a0 : Nat} {p0 : Int32} {T : tT} : CsP Prod.snd T 0 0 (D_c_Reader_readNumber F a0 p0 T) := by
  unfold D_c_Reader_readNumber
  refine CsP.bp (fun _ => ?_)
  refine CsP.b0 K_tpi (fun T9 => ?_)
  exact CsP.mono (K_c_Reader_readNumber_12 _ _ _ _ _ _) (by decide) (by decide)
theorem K_c_Reader_readTarget_74 {F : Nat} {x0 : Nat} {T : tT} : CsP Prod.snd T 0 0 (D_c_Reader_readTarget_74 F x0 T) := by
  unfold D_c_Reader_readTarget_74
  refine CsP.bp (fun _ => ?_)
  refine CsP.d0 K_c_Reader_expect (fun _ T9 => ?_)
  refine CsP.bp (fun _ => ?_)
  exact CsP.ret2
theorem K_c_Reader_readTarget {F : Nat} {a0 : Nat} {p0 : Int32} {T : tT} : CsP Prod.snd T 0 0 (D_c_Reader_readTarget F a0 p0 T) := by
  unfold D_c_Reader_readTarget
  refine CsP.bp (fun _ => ?_)
  refine CsP.d0 K_c_Reader_expect (fun _ T9 => ?_)
  refine CsP.cond ?_ ?_
  · exact CsP.ret2
  · refine CsP.bp (fun _ => ?_)
    refine CsP.d0 K_c_Reader_readNumber (fun _ T9 => ?_)
    refine CsP.cond ?_ ?_
    · refine CsP.bp (fun _ => ?_)
      refine CsP.b0 K_tpi (fun T9 => ?_)
      refine CsP.b0 K_tpi (fun T9 => ?_)
      refine CsP.cond ?_ ?_
      · exact CsP.mono K_c_Reader_readTarget_74 (by decide) (by decide)
      · refine CsP.bp (fun _ => ?_)
        refine CsP.bp (fun _ => ?_)
        refine CsP.cond ?_ ?_
        · exact CsP.mono K_c_Reader_readTarget_74 (by decide) (by decide)
        · refine CsP.bp (fun _ => ?_)
          refine CsP.b0 K_tpi (fun T9 => ?_)
          refine CsP.bp (fun _ => ?_)
          refine CsP.d0 K_c_Reader_readNumber (fun _ T9 => ?_)
          refine CsP.cond ?_ ?_
          · refine CsP.bp (fun _ => ?_)
            refine CsP.b0 K_tpi (fun T9 => ?_)
            exact CsP.mono K_c_Reader_readTarget_74 (by decide) (by decide)
          · exact CsP.ret2
    · exact CsP.ret2
theorem K_c_Reader_skipLetters_38 {F : Nat} {rec0 : Nat → tT → Option (tT)} {x0 : Nat} {T : tT} (hrec0 : ∀ (y0 : Nat) (T : tT), CsP idT T 0 0 (rec0 y0 T)) : CsP idT T 0 0 (D_c_Reader_skipLetters_38 F rec0 x0 T) := by
  unfold D_c_Reader_skipLetters_38
  refine CsP.bp (fun _ => ?_)
  refine CsP.b0 K_tpi (fun T9 => ?_)
  exact CsP.mono (hrec0 _ _) (Nat.zero_le _) (Nat.zero_le _)
theorem K_c_Reader_skipLetters_0 {F : Nat} : ∀ (n : Nat) (y0 : Nat) (T : tT), CsP idT T 0 0 (D_c_Reader_skipLetters_0 F n y0 T) := by
  intro n
  induction n with
  | zero => intros; exact CsP.none
  | succ n ih =>
    intros
    unfold D_c_Reader_skipLetters_0
    refine CsP.bp (fun _ => ?_)
    refine CsP.bp (fun _ => ?_)
    refine CsP.cond ?_ ?_
    · exact CsP.ret
    · refine CsP.bp (fun _ => ?_)
      refine CsP.bp (fun _ => ?_)
      refine CsP.cond ?_ ?_
      · exact CsP.mono (K_c_Reader_skipLetters_38 ih) (by decide) (by decide)
      · refine CsP.bp (fun _ => ?_)
        refine CsP.bp (fun _ => ?_)
        refine CsP.cond ?_ ?_
        · exact CsP.ret
        · refine CsP.bp (fun _ => ?_)
          refine CsP.bp (fun _ => ?_)
          refine CsP.cond ?_ ?_
          · exact CsP.ret
          · exact CsP.mono (K_c_Reader_skipLetters_38 ih) (by decide) (by decide)
theorem K_c_Reader_skipLetters {F : Nat} {a0 : Nat} {T : tT} : CsP idT T 0 0 (D_c_Reader_skipLetters F a0 T) := by
  unfold D_c_Reader_skipLetters
  exact CsP.mono (K_c_Reader_skipLetters_0 _ _ _) (by decide) (by decide)
theorem K_c_Reader_readName_100 {F : Nat} {x0 : Nat} {T : tT} : CsP Prod.snd T 0 0 (D_c_Reader_readName_100 F x0 T) := by
  unfold D_c_Reader_readName_100
  refine CsP.bp (fun _ => ?_)
  refine CsP.bp (fun _ => ?_)
  refine CsP.d0 K_c_Reader_no (fun _ T9 => ?_)
  refine CsP.bp (fun _ => ?_)
  exact CsP.ret2
theorem K_c_Reader_readName {F : Nat} {a0 : Nat} {T : tT} : CsP Prod.snd T 0 0 (D_c_Reader_readName F a0 T) := by
  unfold D_c_Reader_readName
  refine CsP.bp (fun _ => ?_)
  refine CsP.b0 K_tpi (fun T9 => ?_)
  refine CsP.bp (fun _ => ?_)
  refine CsP.b0 K_c_Reader_skipLetters (fun T9 => ?_)
  refine CsP.bp (fun _ => ?_)
  refine CsP.b0 K_tpi (fun T9 => ?_)
  refine CsP.bp (fun _ => ?_)
  refine CsP.bp (fun _ => ?_)
  refine CsP.cond ?_ ?_
  · refine CsP.bp (fun _ => ?_)
    refine CsP.bp (fun _ => ?_)
    refine CsP.cond ?_ ?_
    · refine CsP.bp (fun _ => ?_)
      refine CsP.bp (fun _ => ?_)
      refine CsP.cond ?_ ?_
      · refine CsP.bp (fun _ => ?_)
        refine CsP.bp (fun _ => ?_)
        refine CsP.cond ?_ ?_
        · exact CsP.mono K_c_Reader_readName_100 (by decide) (by decide)
        · refine CsP.bp (fun _ => ?_)
          refine CsP.bp (fun _ => ?_)
          refine CsP.bp (fun _ => ?_)
          refine CsP.bp (fun _ => ?_)
          refine CsP.cond ?_ ?_
          · refine CsP.bp (fun _ => ?_)
            refine CsP.bp (fun _ => ?_)
            refine CsP.bp (fun _ => ?_)
            refine CsP.bp (fun _ => ?_)
            refine CsP.b0 K_tasi (fun T9 => ?_)
            refine CsP.bp (fun _ => ?_)
            refine CsP.b0 K_tpi (fun T9 => ?_)
            refine CsP.bp (fun _ => ?_)
            refine CsP.b0 K_tpi (fun T9 => ?_)
            refine CsP.bp (fun _ => ?_)
            refine CsP.bp (fun _ => ?_)
            refine CsP.cond ?_ ?_
            · exact CsP.ret2
            · refine CsP.bp (fun _ => ?_)
              refine CsP.b0 K_tpi (fun T9 => ?_)
              exact CsP.ret2
          · exact CsP.mono K_c_Reader_readName_100 (by decide) (by decide)
      · refine CsP.bp (fun _ => ?_)
        refine CsP.bp (fun _ => ?_)
        refine CsP.d0 K_c_Reader_no (fun _ T9 => ?_)
        refine CsP.bp (fun _ => ?_)
        exact CsP.ret2
    · refine CsP.bp (fun _ => ?_)
      refine CsP.bp (fun _ => ?_)
      refine CsP.d0 K_c_Reader_no (fun _ T9 => ?_)
      refine CsP.bp (fun _ => ?_)
      exact CsP.ret2
  · refine CsP.bp (fun _ => ?_)
    refine CsP.bp (fun _ => ?_)
    refine CsP.d0 K_c_Reader_no (fun _ T9 => ?_)
    refine CsP.bp (fun _ => ?_)
    exact CsP.ret2
theorem K_c_Reader_readRange_114 {F : Nat} {x0 : Nat} {x1 : Int32} {x2 : Int32} {T : tT} : CsP Prod.snd T 0 0 (D_c_Reader_readRange_114 F x0 x1 x2 T) := by
  unfold D_c_Reader_readRange_114
  refine CsP.cond ?_ ?_
  · exact CsP.ret2
  · refine CsP.bp (fun _ => ?_)
    refine CsP.bp (fun _ => ?_)
    refine CsP.b0 K_tpi (fun T9 => ?_)
    refine CsP.bp (fun _ => ?_)
    refine CsP.bp (fun _ => ?_)
    refine CsP.b0 K_tpi (fun T9 => ?_)
    refine CsP.bp (fun _ => ?_)
    refine CsP.bp (fun _ => ?_)
    refine CsP.b0 K_tpi (fun T9 => ?_)
    exact CsP.ret2
theorem K_c_Reader_readRange {F : Nat} {a0 : Nat} {T : tT} : CsP Prod.snd T 0 0 (D_c_Reader_readRange F a0 T) := by
  unfold D_c_Reader_readRange
  refine CsP.bp (fun _ => ?_)
  refine CsP.d0 K_c_Reader_expectText (fun _ T9 => ?_)
  refine CsP.cond ?_ ?_
  · refine CsP.bp (fun _ => ?_)
    refine CsP.bp (fun _ => ?_)
    refine CsP.cond ?_ ?_
    · refine CsP.bp (fun _ => ?_)
      refine CsP.d0 K_c_Reader_readNumber (fun _ T9 => ?_)
      refine CsP.cond ?_ ?_
      · refine CsP.bp (fun _ => ?_)
        refine CsP.bp (fun _ => ?_)
        refine CsP.d0 K_c_Reader_expect (fun _ T9 => ?_)
        refine CsP.cond ?_ ?_
        · refine CsP.bp (fun _ => ?_)
          refine CsP.bp (fun _ => ?_)
          refine CsP.bp (fun _ => ?_)
          refine CsP.cond ?_ ?_
          · exact CsP.mono K_c_Reader_readRange_114 (by decide) (by decide)
          · refine CsP.bp (fun _ => ?_)
            refine CsP.d0 K_c_Reader_readNumber (fun _ T9 => ?_)
            refine CsP.cond ?_ ?_
            · refine CsP.bp (fun _ => ?_)
              exact CsP.mono K_c_Reader_readRange_114 (by decide) (by decide)
            · exact CsP.ret2
        · exact CsP.ret2
      · exact CsP.ret2
    · refine CsP.bp (fun _ => ?_)
      refine CsP.b0 K_tpi (fun T9 => ?_)
      refine CsP.bp (fun _ => ?_)
      refine CsP.bp (fun _ => ?_)
      refine CsP.b0 K_tpi (fun T9 => ?_)
      refine CsP.bp (fun _ => ?_)
      refine CsP.d0 K_c_Reader_readNumber (fun _ T9 => ?_)
      refine CsP.bp (fun _ => ?_)
      refine CsP.bp (fun _ => ?_)
      refine CsP.bp (fun _ => ?_)
      refine CsP.b0 K_tpi (fun T9 => ?_)
      refine CsP.bp (fun _ => ?_)
      exact CsP.ret2
  · exact CsP.ret2
theorem K_c_Conditions_addTag {F : Nat} {a0 : Nat} {p0 : Int32} {T : tT} : CsP idT T 0 0 (D_c_Conditions_addTag F a0 p0 T) := by
  unfold D_c_Conditions_addTag
  refine CsP.bp (fun _ => ?_)
  refine CsP.bp (fun _ => ?_)
  refine CsP.bp (fun _ => ?_)
  refine CsP.bp (fun _ => ?_)
  refine CsP.cond ?_ ?_
  · exact CsP.ret
  · refine CsP.bp (fun _ => ?_)
    refine CsP.bp (fun _ => ?_)
    refine CsP.bp (fun _ => ?_)
    refine CsP.b0 K_tasi (fun T9 => ?_)
    refine CsP.bp (fun _ => ?_)
    refine CsP.b0 K_tpi (fun T9 => ?_)
    exact CsP.ret
theorem K_c_Reader_readMatch_31 {F : Nat} : ∀ (n : Nat) (y0 : Nat) (y1 : Int32) (T : tT), CsP Prod.snd T 0 0 (D_c_Reader_readMatch_31 F n y0 y1 T) := by
  intro n
  induction n with
  | zero => intros; exact CsP.none
  | succ n ih =>
    intros
    unfold D_c_Reader_readMatch_31
    refine CsP.bp (fun _ => ?_)
    refine CsP.bp (fun _ => ?_)
    refine CsP.bp (fun _ => ?_)
    refine CsP.bp (fun _ => ?_)
    refine CsP.bp (fun _ => ?_)
    refine CsP.cond ?_ ?_
    · exact CsP.ret2
    · refine CsP.bp (fun _ => ?_)
      refine CsP.d0 K_c_Reader_expect (fun _ T9 => ?_)
      refine CsP.cond ?_ ?_
      · exact CsP.ret2
      · refine CsP.bp (fun _ => ?_)
        refine CsP.d0 K_c_Reader_readNumber (fun _ T9 => ?_)
        refine CsP.cond ?_ ?_
        · exact CsP.ret2
        · refine CsP.bp (fun _ => ?_)
          refine CsP.d0 K_c_Reader_expect (fun _ T9 => ?_)
          refine CsP.cond ?_ ?_
          · refine CsP.bp (fun _ => ?_)
            refine CsP.bp (fun _ => ?_)
            refine CsP.bp (fun _ => ?_)
            refine CsP.bp (fun _ => ?_)
            refine CsP.b0 K_c_Conditions_addTag (fun T9 => ?_)
            refine CsP.bp (fun _ => ?_)
            refine CsP.bp (fun _ => ?_)
            refine CsP.bp (fun _ => ?_)
            refine CsP.bp (fun _ => ?_)
            refine CsP.bp (fun _ => ?_)
            refine CsP.cond ?_ ?_
            · exact CsP.ret2
            · refine CsP.bp (fun _ => ?_)
              refine CsP.bp (fun _ => ?_)
              refine CsP.cond ?_ ?_
              · refine CsP.bp (fun _ => ?_)
                refine CsP.b0 K_tpi (fun T9 => ?_)
                refine CsP.bp (fun _ => ?_)
                refine CsP.d0 K_c_Reader_expect (fun _ T9 => ?_)
                refine CsP.cond ?_ ?_
                · exact CsP.mono (ih _ _ _) (Nat.zero_le _) (Nat.zero_le _)
                · exact CsP.ret2
              · exact CsP.ret2
          · exact CsP.ret2
theorem K_c_Reader_readMatch {F : Nat} {a0 : Nat} {T : tT} : CsP Prod.snd T 0 0 (D_c_Reader_readMatch F a0 T) := by
  unfold D_c_Reader_readMatch
  refine CsP.bp (fun _ => ?_)
  refine CsP.bp (fun _ => ?_)
  refine CsP.cond ?_ ?_
  · exact CsP.mono (K_c_Reader_readMatch_31 _ _ _ _) (by decide) (by decide)
  · refine CsP.bp (fun _ => ?_)
    refine CsP.b0 K_tpi (fun T9 => ?_)
    refine CsP.bp (fun _ => ?_)
    refine CsP.bp (fun _ => ?_)
    refine CsP.b0 K_tpz (fun T9 => ?_)
    exact CsP.ret2
theorem K_c_Reader_readWord {F : Nat} {a0 : Nat} {T : tT} : CsP Prod.snd T 0 0 (D_c_Reader_readWord F a0 T) := by
  unfold D_c_Reader_readWord
  refine CsP.bp (fun _ => ?_)
  refine CsP.b0 K_tpi (fun T9 => ?_)
  refine CsP.bp (fun _ => ?_)
  refine CsP.b0 K_c_Reader_skipLetters (fun T9 => ?_)
  refine CsP.bp (fun _ => ?_)
  refine CsP.b0 K_tpi (fun T9 => ?_)
  refine CsP.bp (fun _ => ?_)
  refine CsP.bp (fun _ => ?_)
  refine CsP.cond ?_ ?_
  · refine CsP.bp (fun _ => ?_)
    refine CsP.bp (fun _ => ?_)
    refine CsP.cond ?_ ?_
    · refine CsP.bp (fun _ => ?_)
      refine CsP.bp (fun _ => ?_)
      refine CsP.bp (fun _ => ?_)
      refine CsP.b0 K_tpz (fun T9 => ?_)
      refine CsP.bp (fun _ => ?_)
      refine CsP.cond ?_ ?_
      · refine CsP.bp (fun _ => ?_)
        refine CsP.b0 K_tpi (fun T9 => ?_)
        refine CsP.bp (fun _ => ?_)
        refine CsP.d0 K_c_Reader_readNumber (fun _ T9 => ?_)
        refine CsP.bp (fun _ => ?_)
        exact CsP.ret2
      · exact CsP.ret2
    · refine CsP.bp (fun _ => ?_)
      refine CsP.bp (fun _ => ?_)
      refine CsP.d0 K_c_Reader_no (fun _ T9 => ?_)
      refine CsP.bp (fun _ => ?_)
      exact CsP.ret2
  · refine CsP.bp (fun _ => ?_)
    refine CsP.bp (fun _ => ?_)
    refine CsP.d0 K_c_Reader_no (fun _ T9 => ?_)
    refine CsP.bp (fun _ => ?_)
    exact CsP.ret2
theorem K_c_Reader_weighLanguage {F : Nat} {a0 : Nat} {T : tT} : CsP idT T 0 0 (D_c_Reader_weighLanguage F a0 T) := by
  unfold D_c_Reader_weighLanguage
  refine CsP.bp (fun _ => ?_)
  refine CsP.bp (fun _ => ?_)
  refine CsP.bp (fun _ => ?_)
  refine CsP.bp (fun _ => ?_)
  refine CsP.cond ?_ ?_
  · refine CsP.bp (fun _ => ?_)
    refine CsP.bp (fun _ => ?_)
    refine CsP.cond ?_ ?_
    · refine CsP.bp (fun _ => ?_)
      refine CsP.bp (fun _ => ?_)
      refine CsP.cond ?_ ?_
      · refine CsP.bp (fun _ => ?_)
        refine CsP.bp (fun _ => ?_)
        refine CsP.cond ?_ ?_
        · exact CsP.ret
        · refine CsP.bp (fun _ => ?_)
          refine CsP.bp (fun _ => ?_)
          refine CsP.b0 K_tasi (fun T9 => ?_)
          exact CsP.ret
      · refine CsP.bp (fun _ => ?_)
        refine CsP.bp (fun _ => ?_)
        refine CsP.b0 K_tasi (fun T9 => ?_)
        exact CsP.ret
    · refine CsP.bp (fun _ => ?_)
      refine CsP.bp (fun _ => ?_)
      refine CsP.b0 K_tasi (fun T9 => ?_)
      exact CsP.ret
  · refine CsP.bp (fun _ => ?_)
    refine CsP.bp (fun _ => ?_)
    refine CsP.b0 K_tasi (fun T9 => ?_)
    exact CsP.ret
theorem K_c_Reader_weighForm {F : Nat} {a0 : Nat} {T : tT} : CsP idT T 0 0 (D_c_Reader_weighForm F a0 T) := by
  unfold D_c_Reader_weighForm
  refine CsP.bp (fun _ => ?_)
  refine CsP.bp (fun _ => ?_)
  refine CsP.cond ?_ ?_
  · exact CsP.ret
  · refine CsP.bp (fun _ => ?_)
    refine CsP.bp (fun _ => ?_)
    refine CsP.bp (fun _ => ?_)
    refine CsP.bp (fun _ => ?_)
    refine CsP.b0 K_tpi (fun T9 => ?_)
    exact CsP.ret
theorem K_c_Reader_countAsked_122 {F : Nat} {x0 : Nat} {T : tT} : CsP idT T 0 0 (D_c_Reader_countAsked_122 F x0 T) := by
  unfold D_c_Reader_countAsked_122
  refine CsP.bp (fun _ => ?_)
  refine CsP.cond ?_ ?_
  · exact CsP.ret
  · refine CsP.bp (fun _ => ?_)
    refine CsP.bp (fun _ => ?_)
    refine CsP.cond ?_ ?_
    · exact CsP.ret
    · refine CsP.bp (fun _ => ?_)
      refine CsP.bp (fun _ => ?_)
      refine CsP.bp (fun _ => ?_)
      refine CsP.b0 K_tpi (fun T9 => ?_)
      exact CsP.ret
theorem K_c_Reader_countAsked_91 {F : Nat} {x0 : Nat} {T : tT} : CsP idT T 0 0 (D_c_Reader_countAsked_91 F x0 T) := by
  unfold D_c_Reader_countAsked_91
  refine CsP.bp (fun _ => ?_)
  refine CsP.cond ?_ ?_
  · exact CsP.mono K_c_Reader_countAsked_122 (by decide) (by decide)
  · refine CsP.bp (fun _ => ?_)
    refine CsP.bp (fun _ => ?_)
    refine CsP.cond ?_ ?_
    · exact CsP.mono K_c_Reader_countAsked_122 (by decide) (by decide)
    · refine CsP.bp (fun _ => ?_)
      refine CsP.bp (fun _ => ?_)
      refine CsP.bp (fun _ => ?_)
      refine CsP.b0 K_tpi (fun T9 => ?_)
      exact CsP.ret
theorem K_c_Reader_countAsked_63 {F : Nat} {x0 : Nat} {T : tT} : CsP idT T 0 0 (D_c_Reader_countAsked_63 F x0 T) := by
  unfold D_c_Reader_countAsked_63
  refine CsP.bp (fun _ => ?_)
  refine CsP.cond ?_ ?_
  · exact CsP.mono K_c_Reader_countAsked_91 (by decide) (by decide)
  · refine CsP.bp (fun _ => ?_)
    refine CsP.bp (fun _ => ?_)
    refine CsP.cond ?_ ?_
    · exact CsP.mono K_c_Reader_countAsked_91 (by decide) (by decide)
    · refine CsP.bp (fun _ => ?_)
      refine CsP.bp (fun _ => ?_)
      refine CsP.b0 K_tpz (fun T9 => ?_)
      exact CsP.ret
theorem K_c_Reader_countAsked {F : Nat} {a0 : Nat} {T : tT} : CsP idT T 0 0 (D_c_Reader_countAsked F a0 T) := by
  unfold D_c_Reader_countAsked
  refine CsP.bp (fun _ => ?_)
  refine CsP.bp (fun _ => ?_)
  refine CsP.cond ?_ ?_
  · refine CsP.bp (fun _ => ?_)
    refine CsP.cond ?_ ?_
    · exact CsP.mono K_c_Reader_countAsked_63 (by decide) (by decide)
    · refine CsP.bp (fun _ => ?_)
      refine CsP.bp (fun _ => ?_)
      refine CsP.cond ?_ ?_
      · exact CsP.mono K_c_Reader_countAsked_63 (by decide) (by decide)
      · refine CsP.bp (fun _ => ?_)
        refine CsP.bp (fun _ => ?_)
        refine CsP.b0 K_tpz (fun T9 => ?_)
        exact CsP.ret
  · refine CsP.bp (fun _ => ?_)
    refine CsP.bp (fun _ => ?_)
    refine CsP.bp (fun _ => ?_)
    refine CsP.bp (fun _ => ?_)
    refine CsP.b0 K_tpi (fun T9 => ?_)
    exact CsP.ret
theorem K_c_Reader_countKeeping_118 {F : Nat} {x0 : Nat} {T : tT} : CsP idT T 0 0 (D_c_Reader_countKeeping_118 F x0 T) := by
  unfold D_c_Reader_countKeeping_118
  refine CsP.bp (fun _ => ?_)
  refine CsP.cond ?_ ?_
  · exact CsP.ret
  · refine CsP.bp (fun _ => ?_)
    refine CsP.bp (fun _ => ?_)
    refine CsP.cond ?_ ?_
    · exact CsP.ret
    · refine CsP.bp (fun _ => ?_)
      refine CsP.bp (fun _ => ?_)
      refine CsP.bp (fun _ => ?_)
      refine CsP.b0 K_tpi (fun T9 => ?_)
      exact CsP.ret
theorem K_c_Reader_countKeeping_87 {F : Nat} {x0 : Nat} {T : tT} : CsP idT T 0 0 (D_c_Reader_countKeeping_87 F x0 T) := by
  unfold D_c_Reader_countKeeping_87
  refine CsP.bp (fun _ => ?_)
  refine CsP.cond ?_ ?_
  · exact CsP.mono K_c_Reader_countKeeping_118 (by decide) (by decide)
  · refine CsP.bp (fun _ => ?_)
    refine CsP.bp (fun _ => ?_)
    refine CsP.cond ?_ ?_
    · exact CsP.mono K_c_Reader_countKeeping_118 (by decide) (by decide)
    · refine CsP.bp (fun _ => ?_)
      refine CsP.bp (fun _ => ?_)
      refine CsP.bp (fun _ => ?_)
      refine CsP.b0 K_tpi (fun T9 => ?_)
      exact CsP.ret
theorem K_c_Reader_countKeeping_56 {F : Nat} {x0 : Nat} {T : tT} : CsP idT T 0 0 (D_c_Reader_countKeeping_56 F x0 T) := by
  unfold D_c_Reader_countKeeping_56
  refine CsP.bp (fun _ => ?_)
  refine CsP.cond ?_ ?_
  · exact CsP.mono K_c_Reader_countKeeping_87 (by decide) (by decide)
  · refine CsP.bp (fun _ => ?_)
    refine CsP.bp (fun _ => ?_)
    refine CsP.cond ?_ ?_
    · exact CsP.mono K_c_Reader_countKeeping_87 (by decide) (by decide)
    · refine CsP.bp (fun _ => ?_)
      refine CsP.bp (fun _ => ?_)
      refine CsP.bp (fun _ => ?_)
      refine CsP.b0 K_tpi (fun T9 => ?_)
      exact CsP.ret
theorem K_c_Reader_countKeeping_28 {F : Nat} {x0 : Nat} {T : tT} : CsP idT T 0 0 (D_c_Reader_countKeeping_28 F x0 T) := by
  unfold D_c_Reader_countKeeping_28
  refine CsP.bp (fun _ => ?_)
  refine CsP.cond ?_ ?_
  · exact CsP.mono K_c_Reader_countKeeping_56 (by decide) (by decide)
  · refine CsP.bp (fun _ => ?_)
    refine CsP.bp (fun _ => ?_)
    refine CsP.cond ?_ ?_
    · exact CsP.mono K_c_Reader_countKeeping_56 (by decide) (by decide)
    · refine CsP.bp (fun _ => ?_)
      refine CsP.bp (fun _ => ?_)
      refine CsP.b0 K_tpz (fun T9 => ?_)
      exact CsP.ret
theorem K_c_Reader_countKeeping {F : Nat} {a0 : Nat} {T : tT} : CsP idT T 0 0 (D_c_Reader_countKeeping F a0 T) := by
  unfold D_c_Reader_countKeeping
  refine CsP.bp (fun _ => ?_)
  refine CsP.cond ?_ ?_
  · exact CsP.mono K_c_Reader_countKeeping_28 (by decide) (by decide)
  · refine CsP.bp (fun _ => ?_)
    refine CsP.bp (fun _ => ?_)
    refine CsP.cond ?_ ?_
    · exact CsP.mono K_c_Reader_countKeeping_28 (by decide) (by decide)
    · refine CsP.bp (fun _ => ?_)
      refine CsP.bp (fun _ => ?_)
      refine CsP.b0 K_tpz (fun T9 => ?_)
      exact CsP.ret
theorem K_c_Reader_countVarying_32 {F : Nat} {x0 : Nat} {T : tT} : CsP idT T 0 0 (D_c_Reader_countVarying_32 F x0 T) := by
  unfold D_c_Reader_countVarying_32
  refine CsP.bp (fun _ => ?_)
  refine CsP.cond ?_ ?_
  · exact CsP.ret
  · refine CsP.bp (fun _ => ?_)
    refine CsP.bp (fun _ => ?_)
    refine CsP.cond ?_ ?_
    · exact CsP.ret
    · refine CsP.bp (fun _ => ?_)
      refine CsP.bp (fun _ => ?_)
      refine CsP.bp (fun _ => ?_)
      refine CsP.b0 K_tpi (fun T9 => ?_)
      exact CsP.ret
theorem K_c_Reader_countVarying {F : Nat} {a0 : Nat} {T : tT} : CsP idT T 0 0 (D_c_Reader_countVarying F a0 T) := by
  unfold D_c_Reader_countVarying
  refine CsP.bp (fun _ => ?_)
  refine CsP.cond ?_ ?_
  · exact CsP.mono K_c_Reader_countVarying_32 (by decide) (by decide)
  · refine CsP.bp (fun _ => ?_)
    refine CsP.bp (fun _ => ?_)
    refine CsP.cond ?_ ?_
    · exact CsP.mono K_c_Reader_countVarying_32 (by decide) (by decide)
    · refine CsP.bp (fun _ => ?_)
      refine CsP.bp (fun _ => ?_)
      refine CsP.bp (fun _ => ?_)
      refine CsP.b0 K_tpi (fun T9 => ?_)
      exact CsP.ret
theorem K_c_Reader_readList_69 {F : Nat} {rec2 : Nat → Int32 → Int32 → tT → Option (Int32 × tT)} {x0 : Nat} {x1 : Int32} {x2 : Int32} {T : tT} (hrec2 : ∀ (y0 : Nat) (y1 : Int32) (y2 : Int32) (T : tT), CsP Prod.snd T 0 0 (rec2 y0 y1 y2 T)) : CsP Prod.snd T 0 0 (D_c_Reader_readList_69 F rec2 x0 x1 x2 T) := by
  unfold D_c_Reader_readList_69
  refine CsP.bp (fun _ => ?_)
  refine CsP.bp (fun _ => ?_)
  refine CsP.cond ?_ ?_
  · refine CsP.bp (fun _ => ?_)
    refine CsP.b0 K_tpi (fun T9 => ?_)
    refine CsP.bp (fun _ => ?_)
    refine CsP.d0 K_c_Reader_expect (fun _ T9 => ?_)
    refine CsP.cond ?_ ?_
    · exact CsP.mono (hrec2 _ _ _ _) (Nat.zero_le _) (Nat.zero_le _)
    · exact CsP.ret2
  · exact CsP.ret2
theorem K_c_Reader_readList_2 {F : Nat} : ∀ (n : Nat) (y0 : Nat) (y1 : Int32) (y2 : Int32) (T : tT), CsP Prod.snd T 0 0 (D_c_Reader_readList_2 F n y0 y1 y2 T) := by
  intro n
  induction n with
  | zero => intros; exact CsP.none
  | succ n ih =>
    intros
    unfold D_c_Reader_readList_2
    refine CsP.cond ?_ ?_
    · refine CsP.bp (fun _ => ?_)
      refine CsP.bp (fun _ => ?_)
      refine CsP.d0 K_c_Reader_no (fun _ T9 => ?_)
      refine CsP.bp (fun _ => ?_)
      exact CsP.ret2
    · refine CsP.bp (fun _ => ?_)
      refine CsP.d0 K_c_Reader_readWord (fun _ T9 => ?_)
      refine CsP.cond ?_ ?_
      · refine CsP.cond ?_ ?_
        · refine CsP.cond ?_ ?_
          · refine CsP.cond ?_ ?_
            · refine CsP.cond ?_ ?_
              · refine CsP.bp (fun _ => ?_)
                refine CsP.b0 K_c_Reader_countVarying (fun T9 => ?_)
                exact CsP.mono (K_c_Reader_readList_69 ih) (by decide) (by decide)
              · refine CsP.bp (fun _ => ?_)
                refine CsP.b0 K_c_Reader_countKeeping (fun T9 => ?_)
                exact CsP.mono (K_c_Reader_readList_69 ih) (by decide) (by decide)
            · refine CsP.bp (fun _ => ?_)
              refine CsP.b0 K_c_Reader_countAsked (fun T9 => ?_)
              exact CsP.mono (K_c_Reader_readList_69 ih) (by decide) (by decide)
          · refine CsP.bp (fun _ => ?_)
            refine CsP.b0 K_c_Reader_weighForm (fun T9 => ?_)
            exact CsP.mono (K_c_Reader_readList_69 ih) (by decide) (by decide)
        · refine CsP.bp (fun _ => ?_)
          refine CsP.b0 K_c_Reader_weighLanguage (fun T9 => ?_)
          exact CsP.mono (K_c_Reader_readList_69 ih) (by decide) (by decide)
      · exact CsP.ret2
theorem K_c_Reader_readList {F : Nat} {a0 : Nat} {p0 : Int32} {T : tT} : CsP Prod.snd T 0 0 (D_c_Reader_readList F a0 p0 T) := by
  unfold D_c_Reader_readList
  exact CsP.mono (K_c_Reader_readList_2 _ _ _ _ _) (by decide) (by decide)
theorem K_c_Reader_skipValue_0 {F : Nat} : ∀ (n : Nat) (y0 : Nat) (T : tT), CsP Prod.snd T 0 0 (D_c_Reader_skipValue_0 F n y0 T) := by
  intro n
  induction n with
  | zero => intros; exact CsP.none
  | succ n ih =>
    intros
    unfold D_c_Reader_skipValue_0
    refine CsP.bp (fun _ => ?_)
    refine CsP.bp (fun _ => ?_)
    refine CsP.cond ?_ ?_
    · exact CsP.ret2
    · refine CsP.bp (fun _ => ?_)
      refine CsP.bp (fun _ => ?_)
      refine CsP.cond ?_ ?_
      · exact CsP.ret2
      · refine CsP.bp (fun _ => ?_)
        refine CsP.b0 K_tpi (fun T9 => ?_)
        exact CsP.mono (ih _ _) (Nat.zero_le _) (Nat.zero_le _)
theorem K_c_Reader_skipValue {F : Nat} {a0 : Nat} {T : tT} : CsP Prod.snd T 0 0 (D_c_Reader_skipValue F a0 T) := by
  unfold D_c_Reader_skipValue
  exact CsP.mono (K_c_Reader_skipValue_0 _ _ _) (by decide) (by decide)
theorem K_c_Reader_readAskedValue_69 {F : Nat} {x0 : Nat} {y0 : Int32} {T : tT} : CsP Prod.snd T 0 0 (D_c_Reader_readAskedValue_69 F x0 y0 T) := by
  unfold D_c_Reader_readAskedValue_69
  refine CsP.bp (fun _ => ?_)
  refine CsP.bp (fun _ => ?_)
  refine CsP.bp (fun _ => ?_)
  refine CsP.b0 K_tpi (fun T9 => ?_)
  refine CsP.bp (fun _ => ?_)
  exact CsP.ret2
theorem K_c_Reader_readAskedValue_68 {F : Nat} {x0 : Nat} {T : tT} : CsP Prod.snd T 0 0 (D_c_Reader_readAskedValue_68 F x0 T) := by
  unfold D_c_Reader_readAskedValue_68
  exact CsP.mono K_c_Reader_readAskedValue_69 (by decide) (by decide)
theorem K_c_Reader_readAskedValue {F : Nat} {a0 : Nat} {T : tT} : CsP Prod.snd T 0 0 (D_c_Reader_readAskedValue F a0 T) := by
  unfold D_c_Reader_readAskedValue
  refine CsP.bp (fun _ => ?_)
  refine CsP.bp (fun _ => ?_)
  refine CsP.cond ?_ ?_
  · refine CsP.bp (fun _ => ?_)
    refine CsP.bp (fun _ => ?_)
    refine CsP.cond ?_ ?_
    · refine CsP.bp (fun _ => ?_)
      refine CsP.bp (fun _ => ?_)
      refine CsP.cond ?_ ?_
      · refine CsP.bp (fun _ => ?_)
        refine CsP.bp (fun _ => ?_)
        refine CsP.cond ?_ ?_
        · refine CsP.bp (fun _ => ?_)
          refine CsP.bp (fun _ => ?_)
          refine CsP.cond ?_ ?_
          · refine CsP.bp (fun _ => ?_)
            refine CsP.bp (fun _ => ?_)
            refine CsP.cond ?_ ?_
            · refine CsP.bp (fun _ => ?_)
              refine CsP.d0 K_c_Reader_skipValue (fun _ T9 => ?_)
              refine CsP.bp (fun _ => ?_)
              exact CsP.ret2
            · refine CsP.bp (fun _ => ?_)
              refine CsP.d0 K_c_Reader_readList (fun _ T9 => ?_)
              refine CsP.bp (fun _ => ?_)
              exact CsP.ret2
          · refine CsP.bp (fun _ => ?_)
            refine CsP.d0 K_c_Reader_readList (fun _ T9 => ?_)
            refine CsP.bp (fun _ => ?_)
            exact CsP.ret2
        · refine CsP.bp (fun _ => ?_)
          refine CsP.d0 K_c_Reader_readList (fun _ T9 => ?_)
          refine CsP.bp (fun _ => ?_)
          exact CsP.ret2
      · refine CsP.bp (fun _ => ?_)
        refine CsP.d0 K_c_Reader_expect (fun _ T9 => ?_)
        refine CsP.cond ?_ ?_
        · exact CsP.mono K_c_Reader_readAskedValue_68 (by decide) (by decide)
        · refine CsP.bp (fun _ => ?_)
          refine CsP.d0 K_c_Reader_readNumber (fun _ T9 => ?_)
          refine CsP.cond ?_ ?_
          · exact CsP.mono K_c_Reader_readAskedValue_68 (by decide) (by decide)
          · refine CsP.bp (fun _ => ?_)
            refine CsP.d0 K_c_Reader_expect (fun _ T9 => ?_)
            refine CsP.bp (fun _ => ?_)
            refine CsP.bp (fun _ => ?_)
            refine CsP.bp (fun _ => ?_)
            refine CsP.bp (fun _ => ?_)
            refine CsP.b0 K_tpi (fun T9 => ?_)
            refine CsP.bp (fun _ => ?_)
            exact CsP.ret2
    · refine CsP.bp (fun _ => ?_)
      refine CsP.d0 K_c_Reader_readMatch (fun _ T9 => ?_)
      refine CsP.bp (fun _ => ?_)
      exact CsP.ret2
  · refine CsP.bp (fun _ => ?_)
    refine CsP.d0 K_c_Reader_readRange (fun _ T9 => ?_)
    refine CsP.bp (fun _ => ?_)
    exact CsP.ret2
theorem K_c_Reader_readEnd_31 {F : Nat} {x0 : Nat} {T : tT} : CsP Prod.snd T 0 0 (D_c_Reader_readEnd_31 F x0 T) := by
  unfold D_c_Reader_readEnd_31
  exact CsP.ret2
theorem K_c_Reader_readEnd {F : Nat} {a0 : Nat} {T : tT} : CsP Prod.snd T 0 0 (D_c_Reader_readEnd F a0 T) := by
  unfold D_c_Reader_readEnd
  refine CsP.bp (fun _ => ?_)
  refine CsP.d0 K_c_Reader_expect (fun _ T9 => ?_)
  refine CsP.cond ?_ ?_
  · exact CsP.ret2
  · refine CsP.bp (fun _ => ?_)
    refine CsP.bp (fun _ => ?_)
    refine CsP.cond ?_ ?_
    · exact CsP.mono K_c_Reader_readEnd_31 (by decide) (by decide)
    · refine CsP.bp (fun _ => ?_)
      refine CsP.bp (fun _ => ?_)
      refine CsP.d0 K_c_Reader_no (fun _ T9 => ?_)
      refine CsP.bp (fun _ => ?_)
      refine CsP.bp (fun _ => ?_)
      exact CsP.ret2
theorem K_c_Request_chooseBlocks {F : Nat} {a0 : Nat} {T : tT} : CsP idT T 0 0 (D_c_Request_chooseBlocks F a0 T) := by
  unfold D_c_Request_chooseBlocks
  refine CsP.bp (fun _ => ?_)
  refine CsP.nc ?_ (fun _ => ?_)
  · exact CsP.ret
  · refine CsP.bp (fun _ => ?_)
    refine CsP.bp (fun _ => ?_)
    refine CsP.bp (fun _ => ?_)
    refine CsP.cond ?_ ?_
    · exact CsP.ret
    · refine CsP.bp (fun _ => ?_)
      refine CsP.bp (fun _ => ?_)
      refine CsP.bp (fun _ => ?_)
      refine CsP.cond ?_ ?_
      · exact CsP.ret
      · refine CsP.bp (fun _ => ?_)
        refine CsP.bp (fun _ => ?_)
        refine CsP.bp (fun _ => ?_)
        refine CsP.b0 K_tpi (fun T9 => ?_)
        refine CsP.bp (fun _ => ?_)
        refine CsP.bp (fun _ => ?_)
        refine CsP.bp (fun _ => ?_)
        refine CsP.b0 K_tpi (fun T9 => ?_)
        exact CsP.ret
theorem K_c_Reader_readRequest_135 {F : Nat} {rec87 : Nat → Int32 → Int32 → tT → Option (Option Nat × tT)} {x0 : Nat} {x2 : Int32} {y0 : Int32} {T : tT} (hrec87 : ∀ (y0 : Nat) (y1 : Int32) (y2 : Int32) (T : tT), CsP Prod.snd T 0 0 (rec87 y0 y1 y2 T)) : CsP Prod.snd T 0 0 (D_c_Reader_readRequest_135 F rec87 x0 x2 y0 T) := by
  unfold D_c_Reader_readRequest_135
  exact CsP.mono (hrec87 _ _ _ _) (Nat.zero_le _) (Nat.zero_le _)
theorem K_c_Reader_readRequest_134 {F : Nat} {rec87 : Nat → Int32 → Int32 → tT → Option (Option Nat × tT)} {x0 : Nat} {x2 : Int32} {T : tT} (hrec87 : ∀ (y0 : Nat) (y1 : Int32) (y2 : Int32) (T : tT), CsP Prod.snd T 0 0 (rec87 y0 y1 y2 T)) : CsP Prod.snd T 0 0 (D_c_Reader_readRequest_134 F rec87 x0 x2 T) := by
  unfold D_c_Reader_readRequest_134
  exact CsP.mono (K_c_Reader_readRequest_135 hrec87) (by decide) (by decide)
theorem K_c_Reader_readRequest_153 {F : Nat} {x0 : Nat} {T : tT} : CsP Prod.snd T 0 0 (D_c_Reader_readRequest_153 F x0 T) := by
  unfold D_c_Reader_readRequest_153
  exact CsP.ret2
theorem K_c_Reader_readRequest_142 {F : Nat} {x0 : Nat} {x1 : Int32} {T : tT} : CsP Prod.snd T 0 0 (D_c_Reader_readRequest_142 F x0 x1 T) := by
  unfold D_c_Reader_readRequest_142
  refine CsP.cond ?_ ?_
  · exact CsP.mono K_c_Reader_readRequest_153 (by decide) (by decide)
  · refine CsP.bp (fun _ => ?_)
    refine CsP.d0 K_c_Reader_readEnd (fun _ T9 => ?_)
    refine CsP.cond ?_ ?_
    · refine CsP.bp (fun _ => ?_)
      refine CsP.bp (fun _ => ?_)
      refine CsP.bp (fun _ => ?_)
      refine CsP.b0 K_tpi (fun T9 => ?_)
      refine CsP.bp (fun _ => ?_)
      refine CsP.bp (fun _ => ?_)
      refine CsP.bp (fun _ => ?_)
      refine CsP.b0 K_tpi (fun T9 => ?_)
      refine CsP.bp (fun _ => ?_)
      refine CsP.bp (fun _ => ?_)
      refine CsP.bp (fun _ => ?_)
      refine CsP.bp (fun _ => ?_)
      refine CsP.b0 K_tpi (fun T9 => ?_)
      refine CsP.bp (fun _ => ?_)
      refine CsP.bp (fun _ => ?_)
      refine CsP.bp (fun _ => ?_)
      refine CsP.b0 K_tpr (fun T9 => ?_)
      refine CsP.bp (fun _ => ?_)
      refine CsP.bp (fun _ => ?_)
      refine CsP.bp (fun _ => ?_)
      refine CsP.b0 K_c_Request_chooseBlocks (fun T9 => ?_)
      refine CsP.bp (fun _ => ?_)
      exact CsP.ret2
    · exact CsP.mono K_c_Reader_readRequest_153 (by decide) (by decide)
theorem K_c_Reader_readRequest_87 {F : Nat} : ∀ (n : Nat) (y0 : Nat) (y1 : Int32) (y2 : Int32) (T : tT), CsP Prod.snd T 0 0 (D_c_Reader_readRequest_87 F n y0 y1 y2 T) := by
  intro n
  induction n with
  | zero => intros; exact CsP.none
  | succ n ih =>
    intros
    unfold D_c_Reader_readRequest_87
    refine CsP.cond ?_ ?_
    · exact CsP.mono K_c_Reader_readRequest_142 (by decide) (by decide)
    · refine CsP.cond ?_ ?_
      · exact CsP.mono K_c_Reader_readRequest_142 (by decide) (by decide)
      · refine CsP.bp (fun _ => ?_)
        refine CsP.bp (fun _ => ?_)
        refine CsP.cond ?_ ?_
        · exact CsP.mono K_c_Reader_readRequest_142 (by decide) (by decide)
        · refine CsP.bp (fun _ => ?_)
          refine CsP.d0 K_c_Reader_readName (fun _ T9 => ?_)
          refine CsP.cond ?_ ?_
          · exact CsP.mono (K_c_Reader_readRequest_134 ih) (by decide) (by decide)
          · refine CsP.bp (fun _ => ?_)
            refine CsP.d0 K_c_Reader_readAskedValue (fun _ T9 => ?_)
            refine CsP.cond ?_ ?_
            · exact CsP.mono (K_c_Reader_readRequest_134 ih) (by decide) (by decide)
            · refine CsP.bp (fun _ => ?_)
              refine CsP.d0 K_c_Reader_expect (fun _ T9 => ?_)
              refine CsP.bp (fun _ => ?_)
              exact CsP.mono (ih _ _ _ _) (Nat.zero_le _) (Nat.zero_le _)
theorem K_c_Reader_readRequest_84 {F : Nat} {x0 : Nat} {y0 : Int32} {T : tT} : CsP Prod.snd T 0 0 (D_c_Reader_readRequest_84 F x0 y0 T) := by
  unfold D_c_Reader_readRequest_84
  exact CsP.mono (K_c_Reader_readRequest_87 _ _ _ _ _) (by decide) (by decide)
theorem K_c_Reader_readRequest_83 {F : Nat} {x0 : Nat} {T : tT} : CsP Prod.snd T 0 0 (D_c_Reader_readRequest_83 F x0 T) := by
  unfold D_c_Reader_readRequest_83
  exact CsP.mono K_c_Reader_readRequest_84 (by decide) (by decide)
theorem K_c_Reader_readRequest_65 {F : Nat} {x0 : Nat} {y0 : Nat} {y1 : Option Nat} {T : tT} : CsP Prod.snd T 0 0 (D_c_Reader_readRequest_65 F x0 y0 y1 T) := by
  unfold D_c_Reader_readRequest_65
  refine CsP.bp (fun _ => ?_)
  refine CsP.bp (fun _ => ?_)
  refine CsP.d0 K_c_Reader_expectText (fun _ T9 => ?_)
  refine CsP.cond ?_ ?_
  · exact CsP.mono K_c_Reader_readRequest_83 (by decide) (by decide)
  · refine CsP.bp (fun _ => ?_)
    refine CsP.d0 K_c_Reader_readTarget (fun _ T9 => ?_)
    refine CsP.bp (fun _ => ?_)
    exact CsP.mono (K_c_Reader_readRequest_87 _ _ _ _ _) (by decide) (by decide)
theorem K_c_Reader_readRequest {F : Nat} {a0 : Nat} {T : tT} : CsP Prod.snd T 3 35 (D_c_Reader_readRequest F a0 T) := by
  unfold D_c_Reader_readRequest
  refine CsP.bp (fun _ => ?_)
  refine CsP.b0 K_c_Reader_begin (fun T9 => ?_)
  refine CsP.mono (CsP.dc (K_tnw rfl) (fun _ T9 => (?_ : CsP _ T9 2 16 _))) (by decide) (by decide)
  refine CsP.b0 K_c_Request_init (fun T9 => ?_)
  refine CsP.b0 K_tpr (fun T9 => ?_)
  refine CsP.mono (CsP.dc (K_tnw rfl) (fun _ T9 => (?_ : CsP _ T9 1 8 _))) (by decide) (by decide)
  refine CsP.mono (CsP.bc K_c_Conditions_init (fun T9 => (?_ : CsP _ T9 0 0 _))) (by decide) (by decide)
  refine CsP.b0 K_tpr (fun T9 => ?_)
  refine CsP.bp (fun _ => ?_)
  refine CsP.bp (fun _ => ?_)
  refine CsP.bp (fun _ => ?_)
  refine CsP.bp (fun _ => ?_)
  refine CsP.bp (fun _ => ?_)
  refine CsP.b0 K_tpz (fun T9 => ?_)
  refine CsP.bp (fun _ => ?_)
  refine CsP.bp (fun _ => ?_)
  refine CsP.bp (fun _ => ?_)
  refine CsP.cond ?_ ?_
  · exact CsP.mono K_c_Reader_readRequest_65 (by decide) (by decide)
  · exact CsP.mono K_c_Reader_readRequest_65 (by decide) (by decide)
theorem K_c_Reader_empty {F : Nat} {a0 : Nat} {T : tT} : CsP idT T 0 0 (D_c_Reader_empty F a0 T) := by
  unfold D_c_Reader_empty
  refine CsP.b0 K_tpi (fun T9 => ?_)
  exact CsP.ret
theorem K_c_Reply_init {F : Nat} {a0 : Nat} {T : tT} : CsP idT T 0 0 (D_c_Reply_init F a0 T) := by
  unfold D_c_Reply_init
  refine CsP.b0 K_tpr (fun T9 => ?_)
  exact CsP.ret
theorem K_c_EdgeHouse_close {F : Nat} {a0 : Nat} {p0 : Option Nat} {p1 : Int32} {T : tT} : CsP idT T 0 0 (D_c_EdgeHouse_close F a0 p0 p1 T) := by
  unfold D_c_EdgeHouse_close
  refine CsP.bp (fun _ => ?_)
  refine CsP.b0 K_tpi (fun T9 => ?_)
  refine CsP.bp (fun _ => ?_)
  refine CsP.b0 K_tpi (fun T9 => ?_)
  refine CsP.bp (fun _ => ?_)
  refine CsP.b0 K_tpi (fun T9 => ?_)
  exact CsP.ret
theorem K_c_Store_remove {F : Nat} {a0 : Nat} {p0 : Option Nat} {T : tT} : CsP idT T 0 0 (D_c_Store_remove F a0 p0 T) := by
  unfold D_c_Store_remove
  refine CsP.bp (fun _ => ?_)
  refine CsP.bp (fun _ => ?_)
  refine CsP.cond ?_ ?_
  · refine CsP.bp (fun _ => ?_)
    refine CsP.bp (fun _ => ?_)
    refine CsP.cond ?_ ?_
    · refine CsP.bp (fun _ => ?_)
      refine CsP.bp (fun _ => ?_)
      refine CsP.d0 K_tlr (fun _ T9 => ?_)
      exact CsP.ret
    · refine CsP.bp (fun _ => ?_)
      refine CsP.bp (fun _ => ?_)
      refine CsP.d0 K_tlr (fun _ T9 => ?_)
      exact CsP.ret
  · exact CsP.ret
theorem K_c_Store_balance_126 {F : Nat} {rec76 : Nat → Int32 → tT → Option (tT)} {x0 : Nat} {x2 : Int32} {y0 : Option Nat} {T : tT} (hrec76 : ∀ (y0 : Nat) (y1 : Int32) (T : tT), CsP idT T 0 0 (rec76 y0 y1 T)) : CsP idT T 0 0 (D_c_Store_balance_126 F rec76 x0 x2 y0 T) := by
  unfold D_c_Store_balance_126
  refine CsP.bp (fun _ => ?_)
  refine CsP.bp (fun _ => ?_)
  refine CsP.bp (fun _ => ?_)
  exact CsP.mono (hrec76 _ _ _) (Nat.zero_le _) (Nat.zero_le _)
theorem K_c_Store_balance_76 {F : Nat} : ∀ (n : Nat) (y0 : Nat) (y1 : Int32) (T : tT), CsP idT T 0 0 (D_c_Store_balance_76 F n y0 y1 T) := by
  intro n
  induction n with
  | zero => intros; exact CsP.none
  | succ n ih =>
    intros
    unfold D_c_Store_balance_76
    refine CsP.bp (fun _ => ?_)
    refine CsP.bp (fun _ => ?_)
    refine CsP.cond ?_ ?_
    · exact CsP.ret
    · refine CsP.bp (fun _ => ?_)
      refine CsP.cond ?_ ?_
      · exact CsP.ret
      · refine CsP.bp (fun _ => ?_)
        refine CsP.bp (fun _ => ?_)
        refine CsP.bp (fun _ => ?_)
        refine CsP.cond ?_ ?_
        · refine CsP.bp (fun _ => ?_)
          refine CsP.bp (fun _ => ?_)
          refine CsP.d0 K_tlr (fun _ T9 => ?_)
          refine CsP.bp (fun _ => ?_)
          exact CsP.mono (K_c_Store_balance_126 ih) (by decide) (by decide)
        · refine CsP.bp (fun _ => ?_)
          refine CsP.bp (fun _ => ?_)
          refine CsP.d0 K_tlr (fun _ T9 => ?_)
          refine CsP.bp (fun _ => ?_)
          exact CsP.mono (K_c_Store_balance_126 ih) (by decide) (by decide)
theorem K_c_Store_balance_20 {F : Nat} : ∀ (n : Nat) (y0 : Nat) (y1 : Int32) (y2 : Int32) (T : tT), CsP idT T 0 0 (D_c_Store_balance_20 F n y0 y1 y2 T) := by
  intro n
  induction n with
  | zero => intros; exact CsP.none
  | succ n ih =>
    intros
    unfold D_c_Store_balance_20
    refine CsP.bp (fun _ => ?_)
    refine CsP.bp (fun _ => ?_)
    refine CsP.bp (fun _ => ?_)
    refine CsP.cond ?_ ?_
    · exact CsP.mono (K_c_Store_balance_76 _ _ _ _) (by decide) (by decide)
    · refine CsP.bp (fun _ => ?_)
      refine CsP.cond ?_ ?_
      · exact CsP.mono (K_c_Store_balance_76 _ _ _ _) (by decide) (by decide)
      · refine CsP.bp (fun _ => ?_)
        refine CsP.bp (fun _ => ?_)
        refine CsP.d0 K_tlr (fun _ T9 => ?_)
        refine CsP.bp (fun _ => ?_)
        refine CsP.bp (fun _ => ?_)
        refine CsP.bp (fun _ => ?_)
        refine CsP.b0 K_tpz (fun T9 => ?_)
        refine CsP.bp (fun _ => ?_)
        refine CsP.bp (fun _ => ?_)
        refine CsP.b0 K_tla (fun T9 => ?_)
        exact CsP.mono (ih _ _ _ _) (Nat.zero_le _) (Nat.zero_le _)
theorem K_c_Store_balance {F : Nat} {a0 : Nat} {T : tT} : CsP idT T 0 0 (D_c_Store_balance F a0 T) := by
  unfold D_c_Store_balance
  refine CsP.bp (fun _ => ?_)
  refine CsP.bp (fun _ => ?_)
  refine CsP.bp (fun _ => ?_)
  refine CsP.bp (fun _ => ?_)
  refine CsP.bp (fun _ => ?_)
  refine CsP.bp (fun _ => ?_)
  exact CsP.mono (K_c_Store_balance_20 _ _ _ _ _) (by decide) (by decide)
theorem K_c_Store_use {F : Nat} {a0 : Nat} {p0 : Option Nat} {T : tT} : CsP idT T 0 0 (D_c_Store_use F a0 p0 T) := by
  unfold D_c_Store_use
  refine CsP.bp (fun _ => ?_)
  refine CsP.b0 K_c_Store_remove (fun T9 => ?_)
  refine CsP.bp (fun _ => ?_)
  refine CsP.b0 K_tpz (fun T9 => ?_)
  refine CsP.bp (fun _ => ?_)
  refine CsP.bp (fun _ => ?_)
  refine CsP.b0 K_tla (fun T9 => ?_)
  refine CsP.bp (fun _ => ?_)
  refine CsP.b0 K_c_Store_balance (fun T9 => ?_)
  exact CsP.ret
theorem K_c_Message_init {F : Nat} {a0 : Nat} {p0 : Int32} {p1 : Int32} {p2 : Int32} {p3 : Int32} {T : tT} : CsP idT T 0 0 (D_c_Message_init F a0 p0 p1 p2 p3 T) := by
  unfold D_c_Message_init
  refine CsP.b0 K_tpi (fun T9 => ?_)
  refine CsP.b0 K_tpi (fun T9 => ?_)
  refine CsP.b0 K_tpi (fun T9 => ?_)
  refine CsP.b0 K_tpi (fun T9 => ?_)
  exact CsP.ret
theorem K_c_EdgeHouse_send {F : Nat} {a0 : Nat} {p0 : Option Nat} {T : tT} : CsP idT T 0 0 (D_c_EdgeHouse_send F a0 p0 T) := by
  unfold D_c_EdgeHouse_send
  refine CsP.bp (fun _ => ?_)
  refine CsP.bp (fun _ => ?_)
  refine CsP.bp (fun _ => ?_)
  refine CsP.cond ?_ ?_
  · refine CsP.bp (fun _ => ?_)
    refine CsP.bp (fun _ => ?_)
    refine CsP.b0 K_tpi (fun T9 => ?_)
    refine CsP.bp (fun _ => ?_)
    refine CsP.bp (fun _ => ?_)
    refine CsP.b0 K_tla (fun T9 => ?_)
    exact CsP.ret
  · refine CsP.bp (fun _ => ?_)
    refine CsP.b0 K_tpi (fun T9 => ?_)
    exact CsP.ret
theorem K_c_EdgeHouse_sendFill {F : Nat} {a0 : Nat} {p0 : Int32} {p1 : Option Nat} {p2 : Option Nat} {T : tT} : CsP idT T 1 19 (D_c_EdgeHouse_sendFill F a0 p0 p1 p2 T) := by
  unfold D_c_EdgeHouse_sendFill
  refine CsP.bp (fun _ => ?_)
  refine CsP.bp (fun _ => ?_)
  refine CsP.bp (fun _ => ?_)
  refine CsP.bp (fun _ => ?_)
  refine CsP.bp (fun _ => ?_)
  refine CsP.bp (fun _ => ?_)
  refine CsP.bp (fun _ => ?_)
  refine CsP.mono (CsP.dc (K_tnw rfl) (fun _ T9 => (?_ : CsP _ T9 0 0 _))) (by decide) (by decide)
  refine CsP.bp (fun _ => ?_)
  refine CsP.bp (fun _ => ?_)
  refine CsP.b0 K_c_Message_init (fun T9 => ?_)
  refine CsP.bp (fun _ => ?_)
  refine CsP.b0 K_tpi (fun T9 => ?_)
  refine CsP.bp (fun _ => ?_)
  refine CsP.b0 K_tpi (fun T9 => ?_)
  refine CsP.bp (fun _ => ?_)
  refine CsP.b0 K_tpi (fun T9 => ?_)
  refine CsP.bp (fun _ => ?_)
  refine CsP.b0 K_tpr (fun T9 => ?_)
  refine CsP.bp (fun _ => ?_)
  refine CsP.b0 K_tpi (fun T9 => ?_)
  refine CsP.bp (fun _ => ?_)
  refine CsP.b0 K_tpi (fun T9 => ?_)
  refine CsP.bp (fun _ => ?_)
  refine CsP.bp (fun _ => ?_)
  refine CsP.bp (fun _ => ?_)
  refine CsP.b0 K_tpi (fun T9 => ?_)
  refine CsP.bp (fun _ => ?_)
  refine CsP.b0 K_tpi (fun T9 => ?_)
  refine CsP.bp (fun _ => ?_)
  refine CsP.b0 K_c_EdgeHouse_send (fun T9 => ?_)
  exact CsP.ret
theorem K_c_Reply_fillFrom_170 {F : Nat} {x0 : Nat} {x4 : Int32} {x5 : Int32} {T : tT} : CsP idT T 0 0 (D_c_Reply_fillFrom_170 F x0 x4 x5 T) := by
  unfold D_c_Reply_fillFrom_170
  refine CsP.bp (fun _ => ?_)
  refine CsP.b0 K_tpi (fun T9 => ?_)
  refine CsP.b0 K_tpi (fun T9 => ?_)
  exact CsP.ret
theorem K_c_Reply_fillFrom {F : Nat} {a0 : Nat} {p0 : Option Nat} {p1 : Option Nat} {T : tT} : CsP idT T 0 0 (D_c_Reply_fillFrom F a0 p0 p1 T) := by
  unfold D_c_Reply_fillFrom
  refine CsP.bp (fun _ => ?_)
  refine CsP.bp (fun _ => ?_)
  refine CsP.bp (fun _ => ?_)
  refine CsP.bp (fun _ => ?_)
  refine CsP.bp (fun _ => ?_)
  refine CsP.b0 K_tpz (fun T9 => ?_)
  refine CsP.bp (fun _ => ?_)
  refine CsP.bp (fun _ => ?_)
  refine CsP.bp (fun _ => ?_)
  refine CsP.b0 K_tpi (fun T9 => ?_)
  refine CsP.bp (fun _ => ?_)
  refine CsP.b0 K_tpi (fun T9 => ?_)
  refine CsP.bp (fun _ => ?_)
  refine CsP.bp (fun _ => ?_)
  refine CsP.bp (fun _ => ?_)
  refine CsP.b0 K_tpi (fun T9 => ?_)
  refine CsP.bp (fun _ => ?_)
  refine CsP.bp (fun _ => ?_)
  refine CsP.bp (fun _ => ?_)
  refine CsP.b0 K_tpi (fun T9 => ?_)
  refine CsP.bp (fun _ => ?_)
  refine CsP.bp (fun _ => ?_)
  refine CsP.bp (fun _ => ?_)
  refine CsP.bp (fun _ => ?_)
  refine CsP.b0 K_tpi (fun T9 => ?_)
  refine CsP.bp (fun _ => ?_)
  refine CsP.bp (fun _ => ?_)
  refine CsP.bp (fun _ => ?_)
  refine CsP.bp (fun _ => ?_)
  refine CsP.bp (fun _ => ?_)
  refine CsP.b0 K_tpi (fun T9 => ?_)
  refine CsP.bp (fun _ => ?_)
  refine CsP.bp (fun _ => ?_)
  refine CsP.bp (fun _ => ?_)
  refine CsP.bp (fun _ => ?_)
  refine CsP.bp (fun _ => ?_)
  refine CsP.bp (fun _ => ?_)
  refine CsP.cond ?_ ?_
  · refine CsP.cond ?_ ?_
    · exact CsP.mono K_c_Reply_fillFrom_170 (by decide) (by decide)
    · refine CsP.cond ?_ ?_
      · exact CsP.mono K_c_Reply_fillFrom_170 (by decide) (by decide)
      · refine CsP.b0 K_tpi (fun T9 => ?_)
        exact CsP.ret
  · refine CsP.b0 K_tpi (fun T9 => ?_)
    exact CsP.ret
theorem K_c_EdgeHouse_serve_14 {F : Nat} {x0 : Nat} {x1 : Option Nat} {x2 : Option Nat} {x3 : Option Nat} {T : tT} : CsP idT T 1 19 (D_c_EdgeHouse_serve_14 F x0 x1 x2 x3 T) := by
  unfold D_c_EdgeHouse_serve_14
  refine CsP.bp (fun _ => ?_)
  refine CsP.bp (fun _ => ?_)
  refine CsP.bp (fun _ => ?_)
  refine CsP.mono (CsP.bc K_c_EdgeHouse_sendFill (fun T9 => (?_ : CsP _ T9 0 0 _))) (by decide) (by decide)
  exact CsP.ret
theorem K_c_EdgeHouse_serve {F : Nat} {a0 : Nat} {p0 : Option Nat} {p1 : Option Nat} {p2 : Option Nat} {p3 : Int32} {T : tT} : CsP idT T 1 19 (D_c_EdgeHouse_serve F a0 p0 p1 p2 p3 T) := by
  unfold D_c_EdgeHouse_serve
  refine CsP.bp (fun _ => ?_)
  refine CsP.bp (fun _ => ?_)
  refine CsP.nc ?_ (fun _ => ?_)
  · exact CsP.mono K_c_EdgeHouse_serve_14 (by decide) (by decide)
  · refine CsP.bp (fun _ => ?_)
    refine CsP.nc ?_ (fun _ => ?_)
    · exact CsP.mono K_c_EdgeHouse_serve_14 (by decide) (by decide)
    · refine CsP.bp (fun _ => ?_)
      refine CsP.bp (fun _ => ?_)
      refine CsP.b0 K_tpi (fun T9 => ?_)
      refine CsP.bp (fun _ => ?_)
      refine CsP.bp (fun _ => ?_)
      refine CsP.bp (fun _ => ?_)
      refine CsP.bp (fun _ => ?_)
      refine CsP.bp (fun _ => ?_)
      refine CsP.bp (fun _ => ?_)
      refine CsP.b0 K_tpi (fun T9 => ?_)
      refine CsP.bp (fun _ => ?_)
      refine CsP.bp (fun _ => ?_)
      refine CsP.bp (fun _ => ?_)
      refine CsP.bp (fun _ => ?_)
      refine CsP.b0 K_c_Reply_fillFrom (fun T9 => ?_)
      refine CsP.bp (fun _ => ?_)
      refine CsP.bp (fun _ => ?_)
      refine CsP.bp (fun _ => ?_)
      refine CsP.bp (fun _ => ?_)
      refine CsP.bp (fun _ => ?_)
      refine CsP.b0 K_c_EdgeHouse_close (fun T9 => ?_)
      exact CsP.ret
theorem K_c_Fetch_init {F : Nat} {a0 : Nat} {p0 : Option Nat} {T : tT} : CsP idT T 0 0 (D_c_Fetch_init F a0 p0 T) := by
  unfold D_c_Fetch_init
  refine CsP.bp (fun _ => ?_)
  refine CsP.bp (fun _ => ?_)
  refine CsP.b0 K_tpi (fun T9 => ?_)
  refine CsP.bp (fun _ => ?_)
  refine CsP.b0 K_tpi (fun T9 => ?_)
  refine CsP.bp (fun _ => ?_)
  refine CsP.b0 K_tpi (fun T9 => ?_)
  refine CsP.bp (fun _ => ?_)
  refine CsP.b0 K_tpi (fun T9 => ?_)
  refine CsP.bp (fun _ => ?_)
  refine CsP.b0 K_tpz (fun T9 => ?_)
  refine CsP.bp (fun _ => ?_)
  refine CsP.b0 K_tpi (fun T9 => ?_)
  refine CsP.bp (fun _ => ?_)
  refine CsP.b0 K_tpi (fun T9 => ?_)
  exact CsP.ret
theorem K_c_Message_copyFetch {F : Nat} {a0 : Nat} {p0 : Option Nat} {T : tT} : CsP idT T 0 0 (D_c_Message_copyFetch F a0 p0 T) := by
  unfold D_c_Message_copyFetch
  refine CsP.bp (fun _ => ?_)
  refine CsP.bp (fun _ => ?_)
  refine CsP.b0 K_tpi (fun T9 => ?_)
  refine CsP.bp (fun _ => ?_)
  refine CsP.b0 K_tpi (fun T9 => ?_)
  refine CsP.bp (fun _ => ?_)
  refine CsP.b0 K_tpi (fun T9 => ?_)
  refine CsP.bp (fun _ => ?_)
  refine CsP.b0 K_tpi (fun T9 => ?_)
  refine CsP.bp (fun _ => ?_)
  refine CsP.b0 K_tpi (fun T9 => ?_)
  refine CsP.bp (fun _ => ?_)
  refine CsP.b0 K_tpi (fun T9 => ?_)
  refine CsP.bp (fun _ => ?_)
  refine CsP.b0 K_tpz (fun T9 => ?_)
  refine CsP.bp (fun _ => ?_)
  refine CsP.b0 K_tpi (fun T9 => ?_)
  exact CsP.ret
theorem K_c_EdgeHouse_sendFetch_28 {F : Nat} {x0 : Nat} {x1 : Option Nat} {x2 : Option Nat} {x3 : Int32} {T : tT} : CsP Prod.snd T 1 19 (D_c_EdgeHouse_sendFetch_28 F x0 x1 x2 x3 T) := by
  unfold D_c_EdgeHouse_sendFetch_28
  refine CsP.cond ?_ ?_
  · refine CsP.bp (fun _ => ?_)
    refine CsP.bp (fun _ => ?_)
    refine CsP.b0 K_tpi (fun T9 => ?_)
    refine CsP.bp (fun _ => ?_)
    refine CsP.bp (fun _ => ?_)
    refine CsP.b0 K_tpi (fun T9 => ?_)
    refine CsP.b0 K_tpi (fun T9 => ?_)
    refine CsP.bp (fun _ => ?_)
    refine CsP.b0 K_tpi (fun T9 => ?_)
    refine CsP.bp (fun _ => ?_)
    refine CsP.b0 K_tpi (fun T9 => ?_)
    refine CsP.bp (fun _ => ?_)
    refine CsP.bp (fun _ => ?_)
    refine CsP.b0 K_tla (fun T9 => ?_)
    refine CsP.mono (CsP.dc (K_tnw rfl) (fun _ T9 => (?_ : CsP _ T9 0 0 _))) (by decide) (by decide)
    refine CsP.bp (fun _ => ?_)
    refine CsP.bp (fun _ => ?_)
    refine CsP.b0 K_c_Message_init (fun T9 => ?_)
    refine CsP.bp (fun _ => ?_)
    refine CsP.b0 K_c_Message_copyFetch (fun T9 => ?_)
    refine CsP.bp (fun _ => ?_)
    refine CsP.bp (fun _ => ?_)
    refine CsP.bp (fun _ => ?_)
    refine CsP.bp (fun _ => ?_)
    refine CsP.b0 K_tpi (fun T9 => ?_)
    refine CsP.bp (fun _ => ?_)
    refine CsP.b0 K_c_EdgeHouse_send (fun T9 => ?_)
    exact CsP.ret2
  · exact CsP.ret2
theorem K_c_EdgeHouse_sendFetch {F : Nat} {a0 : Nat} {p0 : Option Nat} {p1 : Option Nat} {T : tT} : CsP Prod.snd T 1 19 (D_c_EdgeHouse_sendFetch F a0 p0 p1 T) := by
  unfold D_c_EdgeHouse_sendFetch
  refine CsP.bp (fun _ => ?_)
  refine CsP.bp (fun _ => ?_)
  refine CsP.bp (fun _ => ?_)
  refine CsP.cond ?_ ?_
  · exact CsP.mono K_c_EdgeHouse_sendFetch_28 (by decide) (by decide)
  · refine CsP.bp (fun _ => ?_)
    refine CsP.bp (fun _ => ?_)
    refine CsP.bp (fun _ => ?_)
    refine CsP.bp (fun _ => ?_)
    refine CsP.bp (fun _ => ?_)
    exact CsP.mono K_c_EdgeHouse_sendFetch_28 (by decide) (by decide)
theorem K_c_EdgeHouse_sendStatus {F : Nat} {a0 : Nat} {p0 : Int32} {p1 : Option Nat} {p2 : Int32} {T : tT} : CsP idT T 1 19 (D_c_EdgeHouse_sendStatus F a0 p0 p1 p2 T) := by
  unfold D_c_EdgeHouse_sendStatus
  refine CsP.mono (CsP.dc (K_tnw rfl) (fun _ T9 => (?_ : CsP _ T9 0 0 _))) (by decide) (by decide)
  refine CsP.bp (fun _ => ?_)
  refine CsP.bp (fun _ => ?_)
  refine CsP.bp (fun _ => ?_)
  refine CsP.b0 K_c_Message_init (fun T9 => ?_)
  refine CsP.bp (fun _ => ?_)
  refine CsP.b0 K_tpi (fun T9 => ?_)
  refine CsP.bp (fun _ => ?_)
  refine CsP.b0 K_tpi (fun T9 => ?_)
  refine CsP.b0 K_tpi (fun T9 => ?_)
  refine CsP.bp (fun _ => ?_)
  refine CsP.b0 K_c_EdgeHouse_send (fun T9 => ?_)
  exact CsP.ret
theorem K_c_EdgeHouse_endAll_40 {F : Nat} {rec3 : Nat → Option Nat → Int32 → Option Nat → tT → Option (tT)} {x0 : Nat} {x1 : Option Nat} {x3 : Int32} {x4 : Option Nat} {T : tT} (hrec3 : ∀ (y0 : Nat) (y1 : Option Nat) (y2 : Int32) (y3 : Option Nat) (T : tT), CsP idT T 0 0 (rec3 y0 y1 y2 y3 T)) : CsP idT T 0 0 (D_c_EdgeHouse_endAll_40 F rec3 x0 x1 x3 x4 T) := by
  unfold D_c_EdgeHouse_endAll_40
  refine CsP.bp (fun _ => ?_)
  refine CsP.bp (fun _ => ?_)
  exact CsP.mono (hrec3 _ _ _ _ _) (Nat.zero_le _) (Nat.zero_le _)
theorem K_c_Fetch_join_28 {F : Nat} {x0 : Nat} {x1 : Option Nat} {T : tT} : CsP idT T 0 0 (D_c_Fetch_join_28 F x0 x1 T) := by
  unfold D_c_Fetch_join_28
  refine CsP.b0 K_tpr (fun T9 => ?_)
  refine CsP.bp (fun _ => ?_)
  refine CsP.b0 K_tpi (fun T9 => ?_)
  exact CsP.ret
theorem K_c_Fetch_join {F : Nat} {a0 : Nat} {p0 : Option Nat} {T : tT} : CsP idT T 0 0 (D_c_Fetch_join F a0 p0 T) := by
  unfold D_c_Fetch_join
  refine CsP.bp (fun _ => ?_)
  refine CsP.b0 K_tpr (fun T9 => ?_)
  refine CsP.bp (fun _ => ?_)
  refine CsP.nc ?_ (fun _ => ?_)
  · refine CsP.b0 K_tpr (fun T9 => ?_)
    exact CsP.mono K_c_Fetch_join_28 (by decide) (by decide)
  · refine CsP.bp (fun _ => ?_)
    refine CsP.bp (fun _ => ?_)
    refine CsP.b0 K_tpr (fun T9 => ?_)
    exact CsP.mono K_c_Fetch_join_28 (by decide) (by decide)
theorem K_c_EdgeHouse_letWait_72 {F : Nat} {x0 : Nat} {x2 : Option Nat} {x5 : Option Nat} {T : tT} : CsP Prod.snd T 0 0 (D_c_EdgeHouse_letWait_72 F x0 x2 x5 T) := by
  unfold D_c_EdgeHouse_letWait_72
  refine CsP.bp (fun _ => ?_)
  refine CsP.bp (fun _ => ?_)
  refine CsP.b0 K_c_Fetch_join (fun T9 => ?_)
  exact CsP.ret2
theorem K_c_EdgeHouse_letWait {F : Nat} {a0 : Nat} {p0 : Option Nat} {p1 : Option Nat} {p2 : Int32} {T : tT} : CsP Prod.snd T 1 14 (D_c_EdgeHouse_letWait F a0 p0 p1 p2 T) := by
  unfold D_c_EdgeHouse_letWait
  refine CsP.bp (fun _ => ?_)
  refine CsP.bp (fun _ => ?_)
  refine CsP.bp (fun _ => ?_)
  refine CsP.bp (fun _ => ?_)
  refine CsP.bp (fun _ => ?_)
  refine CsP.bp (fun _ => ?_)
  refine CsP.nc ?_ (fun _ => ?_)
  · refine CsP.bp (fun _ => ?_)
    refine CsP.b0 K_tpi (fun T9 => ?_)
    refine CsP.mono (CsP.dc (K_tnw rfl) (fun _ T9 => (?_ : CsP _ T9 0 0 _))) (by decide) (by decide)
    refine CsP.b0 K_c_Fetch_init (fun T9 => ?_)
    refine CsP.cond ?_ ?_
    · exact CsP.mono K_c_EdgeHouse_letWait_72 (by decide) (by decide)
    · refine CsP.bp (fun _ => ?_)
      refine CsP.b0 K_tpi (fun T9 => ?_)
      refine CsP.bp (fun _ => ?_)
      refine CsP.b0 K_tpi (fun T9 => ?_)
      exact CsP.mono K_c_EdgeHouse_letWait_72 (by decide) (by decide)
  · refine CsP.bp (fun _ => ?_)
    refine CsP.b0 K_c_Fetch_join (fun T9 => ?_)
    exact CsP.ret2
theorem K_c_EdgeHouse_failAll_95 {F : Nat} {rec2 : Nat → Option Nat → Option Nat → tT → Option (tT)} {x0 : Nat} {x1 : Option Nat} {x3 : Option Nat} {T : tT} (hrec2 : ∀ (y0 : Nat) (y1 : Option Nat) (y2 : Option Nat) (T : tT), CsP idT T 0 0 (rec2 y0 y1 y2 T)) : CsP idT T 0 0 (D_c_EdgeHouse_failAll_95 F rec2 x0 x1 x3 T) := by
  unfold D_c_EdgeHouse_failAll_95
  refine CsP.bp (fun _ => ?_)
  refine CsP.bp (fun _ => ?_)
  exact CsP.mono (hrec2 _ _ _ _) (Nat.zero_le _) (Nat.zero_le _)
theorem K_c_EdgeHouse_failAll_62 {F : Nat} {rec2 : Nat → Option Nat → Option Nat → tT → Option (tT)} {x0 : Nat} {x1 : Option Nat} {x3 : Option Nat} {T : tT} (hrec2 : ∀ (y0 : Nat) (y1 : Option Nat) (y2 : Option Nat) (T : tT), CsP idT T 0 0 (rec2 y0 y1 y2 T)) : CsP idT T 1 19 (D_c_EdgeHouse_failAll_62 F rec2 x0 x1 x3 T) := by
  unfold D_c_EdgeHouse_failAll_62
  refine CsP.bp (fun _ => ?_)
  refine CsP.bp (fun _ => ?_)
  refine CsP.nc ?_ (fun _ => ?_)
  · refine CsP.bp (fun _ => ?_)
    refine CsP.bp (fun _ => ?_)
    refine CsP.bp (fun _ => ?_)
    refine CsP.mono (CsP.bc K_c_EdgeHouse_sendStatus (fun T9 => (?_ : CsP _ T9 0 0 _))) (by decide) (by decide)
    exact CsP.mono (K_c_EdgeHouse_failAll_95 hrec2) (by decide) (by decide)
  · refine CsP.bp (fun _ => ?_)
    refine CsP.bp (fun _ => ?_)
    refine CsP.b0 K_c_EdgeHouse_close (fun T9 => ?_)
    exact CsP.mono (K_c_EdgeHouse_failAll_95 hrec2) (by decide) (by decide)
theorem K_c_Request_init129 {F : Nat} {a0 : Nat} {p0 : Option Nat} {T : tT} : CsP idT T 0 0 (D_c_Request_init129 F a0 p0 T) := by
  unfold D_c_Request_init129
  refine CsP.b0 K_tpi (fun T9 => ?_)
  refine CsP.b0 K_tpi (fun T9 => ?_)
  refine CsP.b0 K_tpi (fun T9 => ?_)
  refine CsP.b0 K_tpi (fun T9 => ?_)
  refine CsP.bp (fun _ => ?_)
  refine CsP.bp (fun _ => ?_)
  refine CsP.b0 K_tpi (fun T9 => ?_)
  refine CsP.bp (fun _ => ?_)
  refine CsP.b0 K_tpi (fun T9 => ?_)
  refine CsP.bp (fun _ => ?_)
  refine CsP.b0 K_tpi (fun T9 => ?_)
  refine CsP.bp (fun _ => ?_)
  refine CsP.b0 K_tpi (fun T9 => ?_)
  refine CsP.bp (fun _ => ?_)
  refine CsP.b0 K_tpi (fun T9 => ?_)
  refine CsP.bp (fun _ => ?_)
  refine CsP.b0 K_tpi (fun T9 => ?_)
  refine CsP.bp (fun _ => ?_)
  refine CsP.b0 K_tpz (fun T9 => ?_)
  refine CsP.bp (fun _ => ?_)
  refine CsP.b0 K_tpi (fun T9 => ?_)
  refine CsP.bp (fun _ => ?_)
  refine CsP.b0 K_tpi (fun T9 => ?_)
  refine CsP.bp (fun _ => ?_)
  refine CsP.b0 K_tpi (fun T9 => ?_)
  refine CsP.bp (fun _ => ?_)
  refine CsP.b0 K_tpi (fun T9 => ?_)
  exact CsP.ret
theorem K_c_Entry_init {F : Nat} {a0 : Nat} {p0 : Int32} {p1 : Int32} {p2 : Option Nat} {p3 : Int32} {T : tT} : CsP idT T 0 0 (D_c_Entry_init F a0 p0 p1 p2 p3 T) := by
  unfold D_c_Entry_init
  refine CsP.b0 K_tpi (fun T9 => ?_)
  refine CsP.b0 K_tpi (fun T9 => ?_)
  refine CsP.b0 K_tpr (fun T9 => ?_)
  refine CsP.b0 K_tpi (fun T9 => ?_)
  exact CsP.ret
theorem K_c_EdgeHouse_takeAtOrigin_62 {F : Nat} {x0 : Nat} {x2 : Option Nat} {y0 : Option Nat} {T : tT} : CsP idT T 2 28 (D_c_EdgeHouse_takeAtOrigin_62 F x0 x2 y0 T) := by
  unfold D_c_EdgeHouse_takeAtOrigin_62
  refine CsP.nc ?_ (fun _ => ?_)
  · refine CsP.bp (fun _ => ?_)
    refine CsP.mono (CsP.bc K_c_EdgeHouse_sendStatus (fun T9 => (?_ : CsP _ T9 1 9 _))) (by decide) (by decide)
    exact CsP.ret
  · refine CsP.mono (CsP.dc (K_tnw rfl) (fun _ T9 => (?_ : CsP _ T9 1 19 _))) (by decide) (by decide)
    refine CsP.bp (fun _ => ?_)
    refine CsP.bp (fun _ => ?_)
    refine CsP.bp (fun _ => ?_)
    refine CsP.bp (fun _ => ?_)
    refine CsP.bp (fun _ => ?_)
    refine CsP.bp (fun _ => ?_)
    refine CsP.bp (fun _ => ?_)
    refine CsP.b0 K_c_Entry_init (fun T9 => ?_)
    refine CsP.bp (fun _ => ?_)
    refine CsP.b0 K_tpi (fun T9 => ?_)
    refine CsP.bp (fun _ => ?_)
    refine CsP.b0 K_tpi (fun T9 => ?_)
    refine CsP.bp (fun _ => ?_)
    refine CsP.bp (fun _ => ?_)
    refine CsP.b0 K_tpi (fun T9 => ?_)
    refine CsP.bp (fun _ => ?_)
    refine CsP.mono (CsP.bc K_c_EdgeHouse_sendFill (fun T9 => (?_ : CsP _ T9 0 0 _))) (by decide) (by decide)
    exact CsP.ret
theorem K_c_EdgeHouse_takeAtOrigin {F : Nat} {a0 : Nat} {p0 : Option Nat} {T : tT} : CsP idT T 3 47 (D_c_EdgeHouse_takeAtOrigin F a0 p0 T) := by
  unfold D_c_EdgeHouse_takeAtOrigin
  refine CsP.bp (fun _ => ?_)
  refine CsP.bp (fun _ => ?_)
  refine CsP.cond ?_ ?_
  · refine CsP.mono (CsP.dc (K_tnw rfl) (fun _ T9 => (?_ : CsP _ T9 2 28 _))) (by decide) (by decide)
    refine CsP.b0 K_c_Request_init129 (fun T9 => ?_)
    refine CsP.bp (fun _ => ?_)
    refine CsP.bp (fun _ => ?_)
    refine CsP.cond ?_ ?_
    · exact CsP.mono K_c_EdgeHouse_takeAtOrigin_62 (by decide) (by decide)
    · refine CsP.bp (fun _ => ?_)
      refine CsP.bp (fun _ => ?_)
      refine CsP.bp (fun _ => ?_)
      refine CsP.bp (fun _ => ?_)
      exact CsP.mono K_c_EdgeHouse_takeAtOrigin_62 (by decide) (by decide)
  · refine CsP.bp (fun _ => ?_)
    refine CsP.bp (fun _ => ?_)
    refine CsP.cond ?_ ?_
    · exact CsP.ret
    · refine CsP.bp (fun _ => ?_)
      refine CsP.b0 K_tpi (fun T9 => ?_)
      exact CsP.ret
theorem K_c_Node_learn_21 {F : Nat} {x0 : Nat} {x1 : Int32} {T : tT} : CsP idT T 0 0 (D_c_Node_learn_21 F x0 x1 T) := by
  unfold D_c_Node_learn_21
  refine CsP.bp (fun _ => ?_)
  refine CsP.b0 K_tpi (fun T9 => ?_)
  exact CsP.ret
theorem K_c_Node_learn {F : Nat} {a0 : Nat} {p0 : Int32} {T : tT} : CsP idT T 0 0 (D_c_Node_learn F a0 p0 T) := by
  unfold D_c_Node_learn
  refine CsP.cond ?_ ?_
  · exact CsP.mono K_c_Node_learn_21 (by decide) (by decide)
  · refine CsP.bp (fun _ => ?_)
    refine CsP.bp (fun _ => ?_)
    refine CsP.bp (fun _ => ?_)
    refine CsP.cond ?_ ?_
    · exact CsP.mono K_c_Node_learn_21 (by decide) (by decide)
    · refine CsP.bp (fun _ => ?_)
      refine CsP.bp (fun _ => ?_)
      refine CsP.b0 K_tasz (fun T9 => ?_)
      exact CsP.mono K_c_Node_learn_21 (by decide) (by decide)
theorem K_c_Store_removeAt_27 {F : Nat} {x0 : Nat} {x1 : Int32} {T : tT} : CsP idT T 0 0 (D_c_Store_removeAt_27 F x0 x1 T) := by
  unfold D_c_Store_removeAt_27
  refine CsP.bp (fun _ => ?_)
  refine CsP.bp (fun _ => ?_)
  refine CsP.bp (fun _ => ?_)
  refine CsP.cond ?_ ?_
  · exact CsP.ret
  · refine CsP.bp (fun _ => ?_)
    refine CsP.bp (fun _ => ?_)
    refine CsP.cond ?_ ?_
    · exact CsP.ret
    · refine CsP.bp (fun _ => ?_)
      refine CsP.bp (fun _ => ?_)
      refine CsP.bp (fun _ => ?_)
      refine CsP.bp (fun _ => ?_)
      refine CsP.bp (fun _ => ?_)
      refine CsP.d0 K_tlr (fun _ T9 => ?_)
      exact CsP.ret
theorem K_c_Store_removeAt {F : Nat} {a0 : Nat} {p0 : Int32} {T : tT} : CsP idT T 0 0 (D_c_Store_removeAt F a0 p0 T) := by
  unfold D_c_Store_removeAt
  refine CsP.cond ?_ ?_
  · exact CsP.mono K_c_Store_removeAt_27 (by decide) (by decide)
  · refine CsP.bp (fun _ => ?_)
    refine CsP.bp (fun _ => ?_)
    refine CsP.bp (fun _ => ?_)
    refine CsP.cond ?_ ?_
    · exact CsP.mono K_c_Store_removeAt_27 (by decide) (by decide)
    · refine CsP.bp (fun _ => ?_)
      refine CsP.bp (fun _ => ?_)
      refine CsP.d0 K_tlr (fun _ T9 => ?_)
      exact CsP.ret
theorem K_c_Store_removePurged_41 {F : Nat} {rec7 : Nat → Int32 → Int32 → Int32 → tT → Option (tT)} {x0 : Nat} {x1 : Int32} {x2 : Int32} {x3 : Int32} {T : tT} (hrec7 : ∀ (y0 : Nat) (y1 : Int32) (y2 : Int32) (y3 : Int32) (T : tT), CsP idT T 0 0 (rec7 y0 y1 y2 y3 T)) : CsP idT T 0 0 (D_c_Store_removePurged_41 F rec7 x0 x1 x2 x3 T) := by
  unfold D_c_Store_removePurged_41
  exact CsP.mono (hrec7 _ _ _ _ _) (Nat.zero_le _) (Nat.zero_le _)
theorem K_c_Store_removePurged_7 {F : Nat} : ∀ (n : Nat) (y0 : Nat) (y1 : Int32) (y2 : Int32) (y3 : Int32) (T : tT), CsP idT T 0 0 (D_c_Store_removePurged_7 F n y0 y1 y2 y3 T) := by
  intro n
  induction n with
  | zero => intros; exact CsP.none
  | succ n ih =>
    intros
    unfold D_c_Store_removePurged_7
    refine CsP.cond ?_ ?_
    · exact CsP.ret
    · refine CsP.bp (fun _ => ?_)
      refine CsP.bp (fun _ => ?_)
      refine CsP.nc ?_ (fun _ => ?_)
      · exact CsP.mono (K_c_Store_removePurged_41 ih) (by decide) (by decide)
      · refine CsP.bp (fun _ => ?_)
        refine CsP.bp (fun _ => ?_)
        refine CsP.bp (fun _ => ?_)
        refine CsP.bp (fun _ => ?_)
        refine CsP.cond ?_ ?_
        · exact CsP.mono (K_c_Store_removePurged_41 ih) (by decide) (by decide)
        · refine CsP.bp (fun _ => ?_)
          refine CsP.b0 K_c_Store_removeAt (fun T9 => ?_)
          exact CsP.mono (K_c_Store_removePurged_41 ih) (by decide) (by decide)
theorem K_c_Store_removePurged {F : Nat} {a0 : Nat} {p0 : Int32} {p1 : Int32} {T : tT} : CsP idT T 0 0 (D_c_Store_removePurged F a0 p0 p1 T) := by
  unfold D_c_Store_removePurged
  refine CsP.bp (fun _ => ?_)
  refine CsP.bp (fun _ => ?_)
  exact CsP.mono (K_c_Store_removePurged_7 _ _ _ _ _ _) (by decide) (by decide)
theorem K_c_EdgeHouse_takePurge {F : Nat} {a0 : Nat} {p0 : Option Nat} {p1 : Option Nat} {T : tT} : CsP idT T 1 19 (D_c_EdgeHouse_takePurge F a0 p0 p1 T) := by
  unfold D_c_EdgeHouse_takePurge
  refine CsP.bp (fun _ => ?_)
  refine CsP.bp (fun _ => ?_)
  refine CsP.bp (fun _ => ?_)
  refine CsP.bp (fun _ => ?_)
  refine CsP.b0 K_c_Node_learn (fun T9 => ?_)
  refine CsP.bp (fun _ => ?_)
  refine CsP.bp (fun _ => ?_)
  refine CsP.bp (fun _ => ?_)
  refine CsP.bp (fun _ => ?_)
  refine CsP.bp (fun _ => ?_)
  refine CsP.b0 K_c_Store_removePurged (fun T9 => ?_)
  refine CsP.mono (CsP.dc (K_tnw rfl) (fun _ T9 => (?_ : CsP _ T9 0 0 _))) (by decide) (by decide)
  refine CsP.bp (fun _ => ?_)
  refine CsP.bp (fun _ => ?_)
  refine CsP.b0 K_c_Message_init (fun T9 => ?_)
  refine CsP.bp (fun _ => ?_)
  refine CsP.b0 K_c_EdgeHouse_send (fun T9 => ?_)
  exact CsP.ret
theorem K_c_Node_takeFetch_2 {F : Nat} : ∀ (n : Nat) (y0 : Nat) (y1 : Int32) (y2 : Int32) (T : tT), CsP Prod.snd T 0 0 (D_c_Node_takeFetch_2 F n y0 y1 y2 T) := by
  intro n
  induction n with
  | zero => intros; exact CsP.none
  | succ n ih =>
    intros
    unfold D_c_Node_takeFetch_2
    refine CsP.bp (fun _ => ?_)
    refine CsP.bp (fun _ => ?_)
    refine CsP.bp (fun _ => ?_)
    refine CsP.cond ?_ ?_
    · exact CsP.ret2
    · refine CsP.bp (fun _ => ?_)
      refine CsP.bp (fun _ => ?_)
      refine CsP.bp (fun _ => ?_)
      refine CsP.bp (fun _ => ?_)
      refine CsP.bp (fun _ => ?_)
      refine CsP.cond ?_ ?_
      · exact CsP.mono (ih _ _ _ _) (Nat.zero_le _) (Nat.zero_le _)
      · refine CsP.bp (fun _ => ?_)
        refine CsP.bp (fun _ => ?_)
        refine CsP.d0 K_tlr (fun _ T9 => ?_)
        refine CsP.bp (fun _ => ?_)
        exact CsP.ret2
theorem K_c_Node_takeFetch {F : Nat} {a0 : Nat} {p0 : Int32} {T : tT} : CsP Prod.snd T 0 0 (D_c_Node_takeFetch F a0 p0 T) := by
  unfold D_c_Node_takeFetch
  exact CsP.mono (K_c_Node_takeFetch_2 _ _ _ _ _) (by decide) (by decide)
theorem K_c_Node_trust {F : Nat} {a0 : Nat} {p0 : Int32} {T : tT} : CsP idT T 0 0 (D_c_Node_trust F a0 p0 T) := by
  unfold D_c_Node_trust
  refine CsP.cond ?_ ?_
  · exact CsP.ret
  · refine CsP.cond ?_ ?_
    · exact CsP.ret
    · refine CsP.bp (fun _ => ?_)
      refine CsP.bp (fun _ => ?_)
      refine CsP.b0 K_tasi (fun T9 => ?_)
      refine CsP.bp (fun _ => ?_)
      refine CsP.bp (fun _ => ?_)
      refine CsP.b0 K_tasi (fun T9 => ?_)
      exact CsP.ret
theorem K_c_Store_removeKey_38 {F : Nat} {rec7 : Nat → Int32 → Int32 → Int32 → tT → Option (tT)} {x0 : Nat} {x1 : Int32} {x2 : Int32} {x3 : Int32} {T : tT} (hrec7 : ∀ (y0 : Nat) (y1 : Int32) (y2 : Int32) (y3 : Int32) (T : tT), CsP idT T 0 0 (rec7 y0 y1 y2 y3 T)) : CsP idT T 0 0 (D_c_Store_removeKey_38 F rec7 x0 x1 x2 x3 T) := by
  unfold D_c_Store_removeKey_38
  exact CsP.mono (hrec7 _ _ _ _ _) (Nat.zero_le _) (Nat.zero_le _)
theorem K_c_Store_removeKey_7 {F : Nat} : ∀ (n : Nat) (y0 : Nat) (y1 : Int32) (y2 : Int32) (y3 : Int32) (T : tT), CsP idT T 0 0 (D_c_Store_removeKey_7 F n y0 y1 y2 y3 T) := by
  intro n
  induction n with
  | zero => intros; exact CsP.none
  | succ n ih =>
    intros
    unfold D_c_Store_removeKey_7
    refine CsP.cond ?_ ?_
    · exact CsP.ret
    · refine CsP.bp (fun _ => ?_)
      refine CsP.bp (fun _ => ?_)
      refine CsP.nc ?_ (fun _ => ?_)
      · exact CsP.mono (K_c_Store_removeKey_38 ih) (by decide) (by decide)
      · refine CsP.bp (fun _ => ?_)
        refine CsP.bp (fun _ => ?_)
        refine CsP.cond ?_ ?_
        · exact CsP.mono (K_c_Store_removeKey_38 ih) (by decide) (by decide)
        · refine CsP.bp (fun _ => ?_)
          refine CsP.b0 K_c_Store_removeAt (fun T9 => ?_)
          exact CsP.mono (K_c_Store_removeKey_38 ih) (by decide) (by decide)
theorem K_c_Store_removeKey {F : Nat} {a0 : Nat} {p0 : Int32} {p1 : Int32} {T : tT} : CsP idT T 0 0 (D_c_Store_removeKey F a0 p0 p1 T) := by
  unfold D_c_Store_removeKey
  refine CsP.bp (fun _ => ?_)
  refine CsP.bp (fun _ => ?_)
  exact CsP.mono (K_c_Store_removeKey_7 _ _ _ _ _ _) (by decide) (by decide)
theorem K_c_Store_removeOtherVary_58 {F : Nat} {rec7 : Nat → Option Nat → Int32 → tT → Option (tT)} {x0 : Nat} {x1 : Option Nat} {x2 : Int32} {T : tT} (hrec7 : ∀ (y0 : Nat) (y1 : Option Nat) (y2 : Int32) (T : tT), CsP idT T 0 0 (rec7 y0 y1 y2 T)) : CsP idT T 0 0 (D_c_Store_removeOtherVary_58 F rec7 x0 x1 x2 T) := by
  unfold D_c_Store_removeOtherVary_58
  exact CsP.mono (hrec7 _ _ _ _) (Nat.zero_le _) (Nat.zero_le _)
theorem K_c_Store_removeOtherVary_7 {F : Nat} : ∀ (n : Nat) (y0 : Nat) (y1 : Option Nat) (y2 : Int32) (T : tT), CsP idT T 0 0 (D_c_Store_removeOtherVary_7 F n y0 y1 y2 T) := by
  intro n
  induction n with
  | zero => intros; exact CsP.none
  | succ n ih =>
    intros
    unfold D_c_Store_removeOtherVary_7
    refine CsP.cond ?_ ?_
    · exact CsP.ret
    · refine CsP.bp (fun _ => ?_)
      refine CsP.bp (fun _ => ?_)
      refine CsP.nc ?_ (fun _ => ?_)
      · exact CsP.mono (K_c_Store_removeOtherVary_58 ih) (by decide) (by decide)
      · refine CsP.bp (fun _ => ?_)
        refine CsP.bp (fun _ => ?_)
        refine CsP.bp (fun _ => ?_)
        refine CsP.bp (fun _ => ?_)
        refine CsP.bp (fun _ => ?_)
        refine CsP.cond ?_ ?_
        · exact CsP.mono (K_c_Store_removeOtherVary_58 ih) (by decide) (by decide)
        · refine CsP.bp (fun _ => ?_)
          refine CsP.bp (fun _ => ?_)
          refine CsP.bp (fun _ => ?_)
          refine CsP.bp (fun _ => ?_)
          refine CsP.bp (fun _ => ?_)
          refine CsP.bp (fun _ => ?_)
          refine CsP.cond ?_ ?_
          · exact CsP.mono (K_c_Store_removeOtherVary_58 ih) (by decide) (by decide)
          · refine CsP.bp (fun _ => ?_)
            refine CsP.b0 K_c_Store_removeAt (fun T9 => ?_)
            exact CsP.mono (K_c_Store_removeOtherVary_58 ih) (by decide) (by decide)
theorem K_c_Store_removeOtherVary {F : Nat} {a0 : Nat} {p0 : Option Nat} {T : tT} : CsP idT T 0 0 (D_c_Store_removeOtherVary F a0 p0 T) := by
  unfold D_c_Store_removeOtherVary
  refine CsP.bp (fun _ => ?_)
  refine CsP.bp (fun _ => ?_)
  exact CsP.mono (K_c_Store_removeOtherVary_7 _ _ _ _ _) (by decide) (by decide)
theorem K_c_EdgeHouse_takeIn_187 {F : Nat} {x0 : Nat} {x5 : Option Nat} {y0 : Int32} {y1 : Option Nat} {T : tT} : CsP Prod.snd T 0 0 (D_c_EdgeHouse_takeIn_187 F x0 x5 y0 y1 T) := by
  unfold D_c_EdgeHouse_takeIn_187
  refine CsP.bp (fun _ => ?_)
  refine CsP.b0 K_tpz (fun T9 => ?_)
  exact CsP.ret2
theorem K_c_EdgeHouse_takeIn_186 {F : Nat} {x0 : Nat} {x5 : Option Nat} {y0 : Option Nat} {T : tT} : CsP Prod.snd T 0 0 (D_c_EdgeHouse_takeIn_186 F x0 x5 y0 T) := by
  unfold D_c_EdgeHouse_takeIn_186
  exact CsP.mono K_c_EdgeHouse_takeIn_187 (by decide) (by decide)
theorem K_c_EdgeHouse_takeIn_167 {F : Nat} {x0 : Nat} {x5 : Option Nat} {x6 : Option Nat} {T : tT} : CsP Prod.snd T 0 0 (D_c_EdgeHouse_takeIn_167 F x0 x5 x6 T) := by
  unfold D_c_EdgeHouse_takeIn_167
  refine CsP.nc ?_ (fun _ => ?_)
  · exact CsP.mono K_c_EdgeHouse_takeIn_186 (by decide) (by decide)
  · refine CsP.bp (fun _ => ?_)
    refine CsP.bp (fun _ => ?_)
    refine CsP.bp (fun _ => ?_)
    refine CsP.b0 K_tpz (fun T9 => ?_)
    exact CsP.ret2
theorem K_c_EdgeHouse_takeIn_153 {F : Nat} {x0 : Nat} {x1 : Option Nat} {x5 : Option Nat} {x6 : Option Nat} {T : tT} : CsP Prod.snd T 0 0 (D_c_EdgeHouse_takeIn_153 F x0 x1 x5 x6 T) := by
  unfold D_c_EdgeHouse_takeIn_153
  refine CsP.nc ?_ (fun _ => ?_)
  · exact CsP.mono K_c_EdgeHouse_takeIn_167 (by decide) (by decide)
  · refine CsP.bp (fun _ => ?_)
    refine CsP.bp (fun _ => ?_)
    refine CsP.bp (fun _ => ?_)
    refine CsP.bp (fun _ => ?_)
    refine CsP.b0 K_c_Store_remove (fun T9 => ?_)
    exact CsP.mono K_c_EdgeHouse_takeIn_167 (by decide) (by decide)
theorem K_c_EdgeHouse_takeIn {F : Nat} {a0 : Nat} {p0 : Option Nat} {p1 : Option Nat} {p2 : Option Nat} {T : tT} : CsP Prod.snd T 1 9 (D_c_EdgeHouse_takeIn F a0 p0 p1 p2 T) := by
  unfold D_c_EdgeHouse_takeIn
  refine CsP.bp (fun _ => ?_)
  refine CsP.bp (fun _ => ?_)
  refine CsP.mono (CsP.dc (K_tnw rfl) (fun _ T9 => (?_ : CsP _ T9 0 0 _))) (by decide) (by decide)
  refine CsP.bp (fun _ => ?_)
  refine CsP.bp (fun _ => ?_)
  refine CsP.bp (fun _ => ?_)
  refine CsP.bp (fun _ => ?_)
  refine CsP.bp (fun _ => ?_)
  refine CsP.bp (fun _ => ?_)
  refine CsP.bp (fun _ => ?_)
  refine CsP.bp (fun _ => ?_)
  refine CsP.b0 K_c_Entry_init (fun T9 => ?_)
  refine CsP.bp (fun _ => ?_)
  refine CsP.b0 K_tpi (fun T9 => ?_)
  refine CsP.bp (fun _ => ?_)
  refine CsP.bp (fun _ => ?_)
  refine CsP.bp (fun _ => ?_)
  refine CsP.b0 K_tpi (fun T9 => ?_)
  refine CsP.bp (fun _ => ?_)
  refine CsP.b0 K_tpi (fun T9 => ?_)
  refine CsP.bp (fun _ => ?_)
  refine CsP.b0 K_tpi (fun T9 => ?_)
  refine CsP.bp (fun _ => ?_)
  refine CsP.bp (fun _ => ?_)
  refine CsP.bp (fun _ => ?_)
  refine CsP.bp (fun _ => ?_)
  refine CsP.b0 K_c_Store_removeOtherVary (fun T9 => ?_)
  refine CsP.bp (fun _ => ?_)
  refine CsP.bp (fun _ => ?_)
  refine CsP.bp (fun _ => ?_)
  refine CsP.bp (fun _ => ?_)
  refine CsP.bp (fun _ => ?_)
  refine CsP.bp (fun _ => ?_)
  refine CsP.bp (fun _ => ?_)
  refine CsP.nc ?_ (fun _ => ?_)
  · exact CsP.mono K_c_EdgeHouse_takeIn_153 (by decide) (by decide)
  · refine CsP.bp (fun _ => ?_)
    refine CsP.bp (fun _ => ?_)
    refine CsP.bp (fun _ => ?_)
    refine CsP.bp (fun _ => ?_)
    refine CsP.cond ?_ ?_
    · exact CsP.mono K_c_EdgeHouse_takeIn_153 (by decide) (by decide)
    · refine CsP.bp (fun _ => ?_)
      refine CsP.bp (fun _ => ?_)
      refine CsP.b0 K_tpi (fun T9 => ?_)
      exact CsP.mono K_c_EdgeHouse_takeIn_153 (by decide) (by decide)
theorem K_c_Store_place_28 {F : Nat} {x0 : Nat} {T : tT} : CsP idT T 0 0 (D_c_Store_place_28 F x0 T) := by
  unfold D_c_Store_place_28
  refine CsP.bp (fun _ => ?_)
  refine CsP.b0 K_c_Store_balance (fun T9 => ?_)
  exact CsP.ret
theorem K_c_Store_place {F : Nat} {a0 : Nat} {p0 : Option Nat} {T : tT} : CsP idT T 0 0 (D_c_Store_place F a0 p0 T) := by
  unfold D_c_Store_place
  refine CsP.bp (fun _ => ?_)
  refine CsP.bp (fun _ => ?_)
  refine CsP.cond ?_ ?_
  · refine CsP.bp (fun _ => ?_)
    refine CsP.bp (fun _ => ?_)
    refine CsP.b0 K_tla (fun T9 => ?_)
    exact CsP.mono K_c_Store_place_28 (by decide) (by decide)
  · refine CsP.bp (fun _ => ?_)
    refine CsP.bp (fun _ => ?_)
    refine CsP.b0 K_tla (fun T9 => ?_)
    exact CsP.mono K_c_Store_place_28 (by decide) (by decide)
theorem K_c_EdgeHouse_takeFill_118 {F : Nat} {x0 : Nat} {T : tT} : CsP Prod.snd T 0 0 (D_c_EdgeHouse_takeFill_118 F x0 T) := by
  unfold D_c_EdgeHouse_takeFill_118
  exact CsP.ret2
theorem K_c_EdgeHouse_takeFill_169 {F : Nat} {x0 : Nat} {x5 : Option Nat} {T : tT} : CsP Prod.snd T 0 0 (D_c_EdgeHouse_takeFill_169 F x0 x5 T) := by
  unfold D_c_EdgeHouse_takeFill_169
  exact CsP.ret2
theorem K_c_EdgeHouse_takeFill_148 {F : Nat} {x0 : Nat} {x1 : Option Nat} {x3 : Option Nat} {x4 : Option Nat} {T : tT} : CsP Prod.snd T 1 19 (D_c_EdgeHouse_takeFill_148 F x0 x1 x3 x4 T) := by
  unfold D_c_EdgeHouse_takeFill_148
  refine CsP.bp (fun _ => ?_)
  refine CsP.bp (fun _ => ?_)
  refine CsP.nc ?_ (fun _ => ?_)
  · exact CsP.mono K_c_EdgeHouse_takeFill_169 (by decide) (by decide)
  · refine CsP.bp (fun _ => ?_)
    refine CsP.bp (fun _ => ?_)
    refine CsP.bp (fun _ => ?_)
    refine CsP.cond ?_ ?_
    · refine CsP.bp (fun _ => ?_)
      refine CsP.mono (CsP.bc K_c_EdgeHouse_serve (fun T9 => (?_ : CsP _ T9 0 0 _))) (by decide) (by decide)
      refine CsP.bp (fun _ => ?_)
      exact CsP.ret2
    · exact CsP.mono K_c_EdgeHouse_takeFill_169 (by decide) (by decide)
theorem K_c_EdgeHouse_lose {F : Nat} {a0 : Nat} {p0 : Int32} {T : tT} : CsP Prod.snd T 0 0 (D_c_EdgeHouse_lose F a0 p0 T) := by
  unfold D_c_EdgeHouse_lose
  refine CsP.cond ?_ ?_
  · exact CsP.ret2
  · refine CsP.bp (fun _ => ?_)
    refine CsP.bp (fun _ => ?_)
    refine CsP.bp (fun _ => ?_)
    refine CsP.cond ?_ ?_
    · refine CsP.bp (fun _ => ?_)
      refine CsP.bp (fun _ => ?_)
      refine CsP.d0 K_tlr (fun _ T9 => ?_)
      refine CsP.bp (fun _ => ?_)
      refine CsP.b0 K_tpi (fun T9 => ?_)
      exact CsP.ret2
    · exact CsP.ret2
theorem K_c_EdgeHouse_purge_140 {F : Nat} {rec85 : Nat → Int32 → Int32 → Int32 → tT → Option (Int32 × tT)} {x0 : Nat} {x1 : Int32} {x2 : Int32} {x4 : Int32} {T : tT} (hrec85 : ∀ (y0 : Nat) (y1 : Int32) (y2 : Int32) (y3 : Int32) (T : tT), CsP Prod.snd T 0 0 (rec85 y0 y1 y2 y3 T)) : CsP Prod.snd T 0 0 (D_c_EdgeHouse_purge_140 F rec85 x0 x1 x2 x4 T) := by
  unfold D_c_EdgeHouse_purge_140
  exact CsP.mono (hrec85 _ _ _ _ _) (Nat.zero_le _) (Nat.zero_le _)
theorem K_c_Store_clear {F : Nat} {a0 : Nat} {T : tT} : CsP idT T 0 0 (D_c_Store_clear F a0 T) := by
  unfold D_c_Store_clear
  refine CsP.bp (fun _ => ?_)
  refine CsP.bp (fun _ => ?_)
  refine CsP.b0 K_tlc (fun T9 => ?_)
  refine CsP.bp (fun _ => ?_)
  refine CsP.bp (fun _ => ?_)
  refine CsP.b0 K_tlc (fun T9 => ?_)
  exact CsP.ret
theorem K_c_Node_goDown_50 {F : Nat} : ∀ (n : Nat) (y0 : Nat) (y1 : Int32) (T : tT), CsP idT T 0 0 (D_c_Node_goDown_50 F n y0 y1 T) := by
  intro n
  induction n with
  | zero => intros; exact CsP.none
  | succ n ih =>
    intros
    unfold D_c_Node_goDown_50
    refine CsP.cond ?_ ?_
    · exact CsP.ret
    · refine CsP.bp (fun _ => ?_)
      refine CsP.b0 K_c_Node_trust (fun T9 => ?_)
      exact CsP.mono (ih _ _ _) (Nat.zero_le _) (Nat.zero_le _)
theorem K_c_Node_goDown_26 {F : Nat} : ∀ (n : Nat) (y0 : Nat) (y1 : Int32) (T : tT), CsP idT T 0 0 (D_c_Node_goDown_26 F n y0 y1 T) := by
  intro n
  induction n with
  | zero => intros; exact CsP.none
  | succ n ih =>
    intros
    unfold D_c_Node_goDown_26
    refine CsP.bp (fun _ => ?_)
    refine CsP.bp (fun _ => ?_)
    refine CsP.bp (fun _ => ?_)
    refine CsP.cond ?_ ?_
    · exact CsP.mono (K_c_Node_goDown_50 _ _ _ _) (by decide) (by decide)
    · refine CsP.bp (fun _ => ?_)
      refine CsP.bp (fun _ => ?_)
      refine CsP.b0 K_tasz (fun T9 => ?_)
      exact CsP.mono (ih _ _ _) (Nat.zero_le _) (Nat.zero_le _)
theorem K_c_Node_goDown {F : Nat} {a0 : Nat} {T : tT} : CsP idT T 0 0 (D_c_Node_goDown F a0 T) := by
  unfold D_c_Node_goDown
  refine CsP.b0 K_tpz (fun T9 => ?_)
  refine CsP.b0 K_tpi (fun T9 => ?_)
  refine CsP.bp (fun _ => ?_)
  refine CsP.bp (fun _ => ?_)
  refine CsP.bp (fun _ => ?_)
  refine CsP.b0 K_c_Store_clear (fun T9 => ?_)
  refine CsP.bp (fun _ => ?_)
  refine CsP.bp (fun _ => ?_)
  refine CsP.b0 K_tlc (fun T9 => ?_)
  exact CsP.mono (K_c_Node_goDown_26 _ _ _ _) (by decide) (by decide)
theorem K_c_EdgeHouse_fail_79 {F : Nat} {rec33 : Nat → Int32 → Option Nat → Int32 → tT → Option (Int32 × tT)} {rec54 : Nat → Int32 → Option Nat → Int32 → Option Nat → tT → Option (Int32 × tT)} {x0 : Nat} {x1 : Int32} {x2 : Option Nat} {x3 : Int32} {x4 : Option Nat} {T : tT} (hrec33 : ∀ (y0 : Nat) (y1 : Int32) (y2 : Option Nat) (y3 : Int32) (T : tT), CsP Prod.snd T 0 0 (rec33 y0 y1 y2 y3 T)) (hrec54 : ∀ (y0 : Nat) (y1 : Int32) (y2 : Option Nat) (y3 : Int32) (y4 : Option Nat) (T : tT), CsP Prod.snd T 0 0 (rec54 y0 y1 y2 y3 y4 T)) : CsP Prod.snd T 0 0 (D_c_EdgeHouse_fail_79 F rec33 rec54 x0 x1 x2 x3 x4 T) := by
  unfold D_c_EdgeHouse_fail_79
  refine CsP.bp (fun _ => ?_)
  refine CsP.bp (fun _ => ?_)
  exact CsP.mono (hrec54 _ _ _ _ _ _) (Nat.zero_le _) (Nat.zero_le _)
theorem K_c_EdgeHouse_fail_54 {F : Nat} {rec33 : Nat → Int32 → Option Nat → Int32 → tT → Option (Int32 × tT)} (hrec33 : ∀ (y0 : Nat) (y1 : Int32) (y2 : Option Nat) (y3 : Int32) (T : tT), CsP Prod.snd T 0 0 (rec33 y0 y1 y2 y3 T)) : ∀ (n : Nat) (y0 : Nat) (y1 : Int32) (y2 : Option Nat) (y3 : Int32) (y4 : Option Nat) (T : tT), CsP Prod.snd T 0 0 (D_c_EdgeHouse_fail_54 F rec33 n y0 y1 y2 y3 y4 T) := by
  intro n
  induction n with
  | zero => intros; exact CsP.none
  | succ n ih =>
    intros
    unfold D_c_EdgeHouse_fail_54
    refine CsP.nc ?_ (fun _ => ?_)
    · exact CsP.mono (hrec33 _ _ _ _ _) (Nat.zero_le _) (Nat.zero_le _)
    · refine CsP.bp (fun _ => ?_)
      refine CsP.nc ?_ (fun _ => ?_)
      · exact CsP.mono (K_c_EdgeHouse_fail_79 hrec33 ih) (by decide) (by decide)
      · refine CsP.bp (fun _ => ?_)
        refine CsP.bp (fun _ => ?_)
        refine CsP.b0 K_c_EdgeHouse_close (fun T9 => ?_)
        exact CsP.mono (K_c_EdgeHouse_fail_79 hrec33 ih) (by decide) (by decide)
theorem K_c_EdgeHouse_fail_33 {F : Nat} : ∀ (n : Nat) (y0 : Nat) (y1 : Int32) (y2 : Option Nat) (y3 : Int32) (T : tT), CsP Prod.snd T 0 0 (D_c_EdgeHouse_fail_33 F n y0 y1 y2 y3 T) := by
  intro n
  induction n with
  | zero => intros; exact CsP.none
  | succ n ih =>
    intros
    unfold D_c_EdgeHouse_fail_33
    refine CsP.bp (fun _ => ?_)
    refine CsP.bp (fun _ => ?_)
    refine CsP.cond ?_ ?_
    · refine CsP.bp (fun _ => ?_)
      refine CsP.bp (fun _ => ?_)
      refine CsP.bp (fun _ => ?_)
      refine CsP.bp (fun _ => ?_)
      refine CsP.bp (fun _ => ?_)
      refine CsP.b0 K_c_Node_goDown (fun T9 => ?_)
      exact CsP.ret2
    · refine CsP.bp (fun _ => ?_)
      refine CsP.bp (fun _ => ?_)
      refine CsP.bp (fun _ => ?_)
      exact CsP.mono (K_c_EdgeHouse_fail_54 ih _ _ _ _ _ _ _) (by decide) (by decide)
theorem K_c_EdgeHouse_fail {F : Nat} {a0 : Nat} {p0 : Int32} {T : tT} : CsP Prod.snd T 0 0 (D_c_EdgeHouse_fail F a0 p0 T) := by
  unfold D_c_EdgeHouse_fail
  refine CsP.bp (fun _ => ?_)
  refine CsP.cond ?_ ?_
  · exact CsP.ret2
  · refine CsP.bp (fun _ => ?_)
    refine CsP.bp (fun _ => ?_)
    refine CsP.bp (fun _ => ?_)
    refine CsP.bp (fun _ => ?_)
    refine CsP.bp (fun _ => ?_)
    refine CsP.cond ?_ ?_
    · refine CsP.bp (fun _ => ?_)
      refine CsP.bp (fun _ => ?_)
      refine CsP.bp (fun _ => ?_)
      refine CsP.bp (fun _ => ?_)
      refine CsP.bp (fun _ => ?_)
      exact CsP.mono (K_c_EdgeHouse_fail_33 _ _ _ _ _ _) (by decide) (by decide)
    · exact CsP.ret2
theorem K_c_EdgeHouse_back_46 {F : Nat} : ∀ (n : Nat) (y0 : Nat) (y1 : Int32) (y2 : Int32) (T : tT), CsP Prod.snd T 0 0 (D_c_EdgeHouse_back_46 F n y0 y1 y2 T) := by
  intro n
  induction n with
  | zero => intros; exact CsP.none
  | succ n ih =>
    intros
    unfold D_c_EdgeHouse_back_46
    refine CsP.cond ?_ ?_
    · exact CsP.ret2
    · refine CsP.bp (fun _ => ?_)
      refine CsP.bp (fun _ => ?_)
      refine CsP.bp (fun _ => ?_)
      refine CsP.bp (fun _ => ?_)
      refine CsP.bp (fun _ => ?_)
      refine CsP.b0 K_c_Node_trust (fun T9 => ?_)
      exact CsP.mono (ih _ _ _ _) (Nat.zero_le _) (Nat.zero_le _)
theorem K_c_EdgeHouse_back {F : Nat} {a0 : Nat} {p0 : Int32} {T : tT} : CsP Prod.snd T 0 0 (D_c_EdgeHouse_back F a0 p0 T) := by
  unfold D_c_EdgeHouse_back
  refine CsP.bp (fun _ => ?_)
  refine CsP.cond ?_ ?_
  · exact CsP.ret2
  · refine CsP.bp (fun _ => ?_)
    refine CsP.bp (fun _ => ?_)
    refine CsP.bp (fun _ => ?_)
    refine CsP.bp (fun _ => ?_)
    refine CsP.bp (fun _ => ?_)
    refine CsP.cond ?_ ?_
    · refine CsP.bp (fun _ => ?_)
      refine CsP.bp (fun _ => ?_)
      refine CsP.bp (fun _ => ?_)
      refine CsP.bp (fun _ => ?_)
      refine CsP.b0 K_tpz (fun T9 => ?_)
      refine CsP.bp (fun _ => ?_)
      refine CsP.bp (fun _ => ?_)
      refine CsP.bp (fun _ => ?_)
      refine CsP.bp (fun _ => ?_)
      refine CsP.bp (fun _ => ?_)
      refine CsP.b0 K_tpi (fun T9 => ?_)
      exact CsP.mono (K_c_EdgeHouse_back_46 _ _ _ _ _) (by decide) (by decide)
    · exact CsP.ret2
theorem K_c_EdgeHouse_budget {F : Nat} {a0 : Nat} {p0 : Int32} {p1 : Int32} {T : tT} : CsP Prod.snd T 0 0 (D_c_EdgeHouse_budget F a0 p0 p1 T) := by
  unfold D_c_EdgeHouse_budget
  refine CsP.bp (fun _ => ?_)
  refine CsP.cond ?_ ?_
  · exact CsP.ret2
  · refine CsP.cond ?_ ?_
    · exact CsP.ret2
    · refine CsP.cond ?_ ?_
      · refine CsP.bp (fun _ => ?_)
        refine CsP.bp (fun _ => ?_)
        refine CsP.bp (fun _ => ?_)
        refine CsP.bp (fun _ => ?_)
        refine CsP.bp (fun _ => ?_)
        refine CsP.bp (fun _ => ?_)
        refine CsP.b0 K_tpi (fun T9 => ?_)
        refine CsP.bp (fun _ => ?_)
        refine CsP.bp (fun _ => ?_)
        refine CsP.bp (fun _ => ?_)
        refine CsP.bp (fun _ => ?_)
        refine CsP.bp (fun _ => ?_)
        refine CsP.bp (fun _ => ?_)
        refine CsP.bp (fun _ => ?_)
        refine CsP.b0 K_c_Store_balance (fun T9 => ?_)
        exact CsP.ret2
      · exact CsP.ret2
theorem K_c_Told_init {F : Nat} {a0 : Nat} {T : tT} : CsP idT T 0 0 (D_c_Told_init F a0 T) := by
  unfold D_c_Told_init
  exact CsP.ret
theorem K_c_Reader_readKeys_25 {F : Nat} {x0 : Nat} {T : tT} : CsP Prod.snd T 0 0 (D_c_Reader_readKeys_25 F x0 T) := by
  unfold D_c_Reader_readKeys_25
  refine CsP.bp (fun _ => ?_)
  refine CsP.bp (fun _ => ?_)
  refine CsP.d0 K_c_Reader_no (fun _ T9 => ?_)
  refine CsP.bp (fun _ => ?_)
  exact CsP.ret2
theorem K_c_Reader_readKeys_2 {F : Nat} : ∀ (n : Nat) (y0 : Nat) (y1 : Int32) (T : tT), CsP Prod.snd T 0 0 (D_c_Reader_readKeys_2 F n y0 y1 T) := by
  intro n
  induction n with
  | zero => intros; exact CsP.none
  | succ n ih =>
    intros
    unfold D_c_Reader_readKeys_2
    refine CsP.cond ?_ ?_
    · exact CsP.ret2
    · refine CsP.bp (fun _ => ?_)
      refine CsP.bp (fun _ => ?_)
      refine CsP.cond ?_ ?_
      · exact CsP.mono K_c_Reader_readKeys_25 (by decide) (by decide)
      · refine CsP.cond ?_ ?_
        · refine CsP.bp (fun _ => ?_)
          refine CsP.bp (fun _ => ?_)
          refine CsP.bp (fun _ => ?_)
          refine CsP.b0 K_tpi (fun T9 => ?_)
          refine CsP.bp (fun _ => ?_)
          refine CsP.b0 K_tpi (fun T9 => ?_)
          refine CsP.cond ?_ ?_
          · exact CsP.ret2
          · refine CsP.bp (fun _ => ?_)
            refine CsP.bp (fun _ => ?_)
            refine CsP.cond ?_ ?_
            · refine CsP.bp (fun _ => ?_)
              refine CsP.b0 K_tpi (fun T9 => ?_)
              exact CsP.mono (ih _ _ _) (Nat.zero_le _) (Nat.zero_le _)
            · exact CsP.ret2
        · exact CsP.mono K_c_Reader_readKeys_25 (by decide) (by decide)
theorem K_c_Reader_readKeys {F : Nat} {a0 : Nat} {T : tT} : CsP Prod.snd T 0 0 (D_c_Reader_readKeys F a0 T) := by
  unfold D_c_Reader_readKeys
  exact CsP.mono (K_c_Reader_readKeys_2 _ _ _ _) (by decide) (by decide)
theorem K_c_Reader_readToldValue {F : Nat} {a0 : Nat} {T : tT} : CsP Prod.snd T 0 0 (D_c_Reader_readToldValue F a0 T) := by
  unfold D_c_Reader_readToldValue
  refine CsP.bp (fun _ => ?_)
  refine CsP.bp (fun _ => ?_)
  refine CsP.cond ?_ ?_
  · refine CsP.bp (fun _ => ?_)
    refine CsP.bp (fun _ => ?_)
    refine CsP.cond ?_ ?_
    · refine CsP.bp (fun _ => ?_)
      refine CsP.bp (fun _ => ?_)
      refine CsP.cond ?_ ?_
      · refine CsP.bp (fun _ => ?_)
        refine CsP.bp (fun _ => ?_)
        refine CsP.cond ?_ ?_
        · refine CsP.bp (fun _ => ?_)
          refine CsP.d0 K_c_Reader_skipValue (fun _ T9 => ?_)
          refine CsP.bp (fun _ => ?_)
          exact CsP.ret2
        · refine CsP.bp (fun _ => ?_)
          refine CsP.d0 K_c_Reader_readKeys (fun _ T9 => ?_)
          refine CsP.bp (fun _ => ?_)
          exact CsP.ret2
      · refine CsP.bp (fun _ => ?_)
        refine CsP.d0 K_c_Reader_readList (fun _ T9 => ?_)
        refine CsP.bp (fun _ => ?_)
        exact CsP.ret2
    · refine CsP.bp (fun _ => ?_)
      refine CsP.d0 K_c_Reader_readList (fun _ T9 => ?_)
      refine CsP.bp (fun _ => ?_)
      exact CsP.ret2
  · refine CsP.bp (fun _ => ?_)
    refine CsP.d0 K_c_Reader_readNumber (fun _ T9 => ?_)
    refine CsP.bp (fun _ => ?_)
    refine CsP.bp (fun _ => ?_)
    refine CsP.bp (fun _ => ?_)
    refine CsP.b0 K_tpi (fun T9 => ?_)
    refine CsP.bp (fun _ => ?_)
    exact CsP.ret2
theorem K_c_Reader_readThing_88 {F : Nat} {rec40 : Nat → Int32 → Int32 → tT → Option (Option Nat × tT)} {x0 : Nat} {x2 : Int32} {y0 : Int32} {T : tT} (hrec40 : ∀ (y0 : Nat) (y1 : Int32) (y2 : Int32) (T : tT), CsP Prod.snd T 0 0 (rec40 y0 y1 y2 T)) : CsP Prod.snd T 0 0 (D_c_Reader_readThing_88 F rec40 x0 x2 y0 T) := by
  unfold D_c_Reader_readThing_88
  exact CsP.mono (hrec40 _ _ _ _) (Nat.zero_le _) (Nat.zero_le _)
theorem K_c_Reader_readThing_87 {F : Nat} {rec40 : Nat → Int32 → Int32 → tT → Option (Option Nat × tT)} {x0 : Nat} {x2 : Int32} {T : tT} (hrec40 : ∀ (y0 : Nat) (y1 : Int32) (y2 : Int32) (T : tT), CsP Prod.snd T 0 0 (rec40 y0 y1 y2 T)) : CsP Prod.snd T 0 0 (D_c_Reader_readThing_87 F rec40 x0 x2 T) := by
  unfold D_c_Reader_readThing_87
  exact CsP.mono (K_c_Reader_readThing_88 hrec40) (by decide) (by decide)
theorem K_c_Reader_readThing_106 {F : Nat} {x0 : Nat} {T : tT} : CsP Prod.snd T 0 0 (D_c_Reader_readThing_106 F x0 T) := by
  unfold D_c_Reader_readThing_106
  exact CsP.ret2
theorem K_c_Reader_readThing_95 {F : Nat} {x0 : Nat} {x1 : Int32} {T : tT} : CsP Prod.snd T 0 0 (D_c_Reader_readThing_95 F x0 x1 T) := by
  unfold D_c_Reader_readThing_95
  refine CsP.cond ?_ ?_
  · exact CsP.mono K_c_Reader_readThing_106 (by decide) (by decide)
  · refine CsP.bp (fun _ => ?_)
    refine CsP.d0 K_c_Reader_readEnd (fun _ T9 => ?_)
    refine CsP.cond ?_ ?_
    · refine CsP.bp (fun _ => ?_)
      refine CsP.bp (fun _ => ?_)
      refine CsP.bp (fun _ => ?_)
      refine CsP.b0 K_tpi (fun T9 => ?_)
      refine CsP.bp (fun _ => ?_)
      exact CsP.ret2
    · exact CsP.mono K_c_Reader_readThing_106 (by decide) (by decide)
theorem K_c_Reader_readThing_40 {F : Nat} : ∀ (n : Nat) (y0 : Nat) (y1 : Int32) (y2 : Int32) (T : tT), CsP Prod.snd T 0 0 (D_c_Reader_readThing_40 F n y0 y1 y2 T) := by
  intro n
  induction n with
  | zero => intros; exact CsP.none
  | succ n ih =>
    intros
    unfold D_c_Reader_readThing_40
    refine CsP.cond ?_ ?_
    · exact CsP.mono K_c_Reader_readThing_95 (by decide) (by decide)
    · refine CsP.cond ?_ ?_
      · exact CsP.mono K_c_Reader_readThing_95 (by decide) (by decide)
      · refine CsP.bp (fun _ => ?_)
        refine CsP.bp (fun _ => ?_)
        refine CsP.cond ?_ ?_
        · exact CsP.mono K_c_Reader_readThing_95 (by decide) (by decide)
        · refine CsP.bp (fun _ => ?_)
          refine CsP.d0 K_c_Reader_readName (fun _ T9 => ?_)
          refine CsP.cond ?_ ?_
          · exact CsP.mono (K_c_Reader_readThing_87 ih) (by decide) (by decide)
          · refine CsP.bp (fun _ => ?_)
            refine CsP.d0 K_c_Reader_readToldValue (fun _ T9 => ?_)
            refine CsP.cond ?_ ?_
            · exact CsP.mono (K_c_Reader_readThing_87 ih) (by decide) (by decide)
            · refine CsP.bp (fun _ => ?_)
              refine CsP.d0 K_c_Reader_expect (fun _ T9 => ?_)
              refine CsP.bp (fun _ => ?_)
              exact CsP.mono (ih _ _ _ _) (Nat.zero_le _) (Nat.zero_le _)
theorem K_c_Reader_readThing_37 {F : Nat} {x0 : Nat} {y0 : Int32} {T : tT} : CsP Prod.snd T 0 0 (D_c_Reader_readThing_37 F x0 y0 T) := by
  unfold D_c_Reader_readThing_37
  exact CsP.mono (K_c_Reader_readThing_40 _ _ _ _ _) (by decide) (by decide)
theorem K_c_Reader_readThing_36 {F : Nat} {x0 : Nat} {T : tT} : CsP Prod.snd T 0 0 (D_c_Reader_readThing_36 F x0 T) := by
  unfold D_c_Reader_readThing_36
  exact CsP.mono K_c_Reader_readThing_37 (by decide) (by decide)
theorem K_c_Reader_readThing {F : Nat} {a0 : Nat} {T : tT} : CsP Prod.snd T 1 10 (D_c_Reader_readThing F a0 T) := by
  unfold D_c_Reader_readThing
  refine CsP.bp (fun _ => ?_)
  refine CsP.b0 K_c_Reader_begin (fun T9 => ?_)
  refine CsP.mono (CsP.dc (K_tnw rfl) (fun _ T9 => (?_ : CsP _ T9 0 0 _))) (by decide) (by decide)
  refine CsP.b0 K_c_Told_init (fun T9 => ?_)
  refine CsP.b0 K_tpr (fun T9 => ?_)
  refine CsP.bp (fun _ => ?_)
  refine CsP.d0 K_c_Reader_expectText (fun _ T9 => ?_)
  refine CsP.cond ?_ ?_
  · exact CsP.mono K_c_Reader_readThing_36 (by decide) (by decide)
  · refine CsP.bp (fun _ => ?_)
    refine CsP.d0 K_c_Reader_readTarget (fun _ T9 => ?_)
    refine CsP.bp (fun _ => ?_)
    exact CsP.mono (K_c_Reader_readThing_40 _ _ _ _ _) (by decide) (by decide)
theorem K_c_EdgeHouse_update_29 {F : Nat} {x0 : Nat} {T : tT} : CsP Prod.snd T 0 0 (D_c_EdgeHouse_update_29 F x0 T) := by
  unfold D_c_EdgeHouse_update_29
  exact CsP.none
theorem K_c_EdgeHouse_update {F : Nat} {a0 : Nat} {T : tT} : CsP Prod.snd T 1 10 (D_c_EdgeHouse_update F a0 T) := by
  unfold D_c_EdgeHouse_update
  refine CsP.bp (fun _ => ?_)
  refine CsP.bp (fun _ => ?_)
  refine CsP.bp (fun _ => ?_)
  refine CsP.mono (CsP.dc K_c_Reader_readThing (fun _ T9 => (?_ : CsP _ T9 0 0 _))) (by decide) (by decide)
  refine CsP.bp (fun _ => ?_)
  refine CsP.bp (fun _ => ?_)
  refine CsP.bp (fun _ => ?_)
  refine CsP.b0 K_c_Reader_empty (fun T9 => ?_)
  refine CsP.nc ?_ (fun _ => ?_)
  · exact CsP.mono K_c_EdgeHouse_update_29 (by decide) (by decide)
  · refine CsP.bp (fun _ => ?_)
    refine CsP.bp (fun _ => ?_)
    refine CsP.cond ?_ ?_
    · refine CsP.bp (fun _ => ?_)
      refine CsP.bp (fun _ => ?_)
      refine CsP.bp (fun _ => ?_)
      refine CsP.bp (fun _ => ?_)
      refine CsP.b0 K_tasi (fun T9 => ?_)
      refine CsP.bp (fun _ => ?_)
      refine CsP.bp (fun _ => ?_)
      refine CsP.bp (fun _ => ?_)
      refine CsP.bp (fun _ => ?_)
      refine CsP.b0 K_tpi (fun T9 => ?_)
      refine CsP.bp (fun _ => ?_)
      refine CsP.bp (fun _ => ?_)
      refine CsP.bp (fun _ => ?_)
      refine CsP.b0 K_tasr (fun T9 => ?_)
      refine CsP.bp (fun _ => ?_)
      exact CsP.ret2
    · exact CsP.mono K_c_EdgeHouse_update_29 (by decide) (by decide)
theorem K_c_Node_strike {F : Nat} {a0 : Nat} {p0 : Int32} {p1 : Int32} {T : tT} : CsP idT T 0 0 (D_c_Node_strike F a0 p0 p1 T) := by
  unfold D_c_Node_strike
  refine CsP.cond ?_ ?_
  · exact CsP.ret
  · refine CsP.cond ?_ ?_
    · refine CsP.bp (fun _ => ?_)
      refine CsP.bp (fun _ => ?_)
      refine CsP.bp (fun _ => ?_)
      refine CsP.b0 K_tasi (fun T9 => ?_)
      refine CsP.bp (fun _ => ?_)
      refine CsP.bp (fun _ => ?_)
      refine CsP.bp (fun _ => ?_)
      refine CsP.cond ?_ ?_
      · exact CsP.ret
      · refine CsP.bp (fun _ => ?_)
        refine CsP.bp (fun _ => ?_)
        refine CsP.b0 K_tasi (fun T9 => ?_)
        refine CsP.bp (fun _ => ?_)
        refine CsP.bp (fun _ => ?_)
        refine CsP.b0 K_tasi (fun T9 => ?_)
        exact CsP.ret
    · exact CsP.ret
theorem K_c_EdgeHouse_tick_11 {F : Nat} {x0 : Nat} {T : tT} : CsP Prod.snd T 0 0 (D_c_EdgeHouse_tick_11 F x0 T) := by
  unfold D_c_EdgeHouse_tick_11
  exact CsP.none
