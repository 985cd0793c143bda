/-! The methods of the class leave texts and bytes as they are. Written by wip/tool/kpage.py. -/
theorem L_c_Reader_init {F : Nat} {a0 : Nat} {T : tT} : KtP idT T (D_c_Reader_init F a0 T) := by
  unfold D_c_Reader_init
  refine KtP.d0 (L_tna (by decide)) (fun _ T9 => ?_)
  refine KtP.b0 (L_tpr (by decide)) (fun T9 => ?_)
  refine KtP.b0 (L_tpi (by decide)) (fun T9 => ?_)
  refine KtP.d0 (L_tna (by decide)) (fun _ T9 => ?_)
  refine KtP.b0 (L_tpr (by decide)) (fun T9 => ?_)
  refine KtP.d0 (L_tna (by decide)) (fun _ T9 => ?_)
  refine KtP.b0 (L_tpr (by decide)) (fun T9 => ?_)
  exact KtP.ret
theorem L_c_Reader_write_71 {F : Nat} {rec28 : Nat → Int64 → Int32 → Int32 → tT → Option (Int32 × tT)} {x0 : Nat} {x1 : Int64} {x3 : Int32} {x4 : Int32} {T : tT} (hrec28 : ∀ (y0 : Nat) (y1 : Int64) (y2 : Int32) (y3 : Int32) (T : tT), KtP Prod.snd T (rec28 y0 y1 y2 y3 T)) : KtP Prod.snd T (D_c_Reader_write_71 F rec28 x0 x1 x3 x4 T) := by
  unfold D_c_Reader_write_71
  exact hrec28 _ _ _ _ _
theorem L_c_Reader_write_82 {F : Nat} : ∀ (n : Nat) (y0 : Nat) (y1 : Int64) (y2 : Int32) (T : tT), KtP Prod.snd T (D_c_Reader_write_82 F n y0 y1 y2 T) := by
  intro n
  induction n with
  | zero => intros; exact KtP.none
  | succ n ih =>
    intros
    unfold D_c_Reader_write_82
    refine KtP.cond ?_ ?_
    · exact KtP.ret2
    · refine KtP.bp (fun _ => ?_)
      refine KtP.bp (fun _ => ?_)
      refine KtP.bp (fun _ => ?_)
      refine KtP.b0 L_tasc (fun T9 => ?_)
      refine KtP.bp (fun _ => ?_)
      refine KtP.b0 (L_tpi (by decide)) (fun T9 => ?_)
      exact ih _ _ _ _
theorem L_c_Reader_write_28 {F : Nat} : ∀ (n : Nat) (y0 : Nat) (y1 : Int64) (y2 : Int32) (y3 : Int32) (T : tT), KtP Prod.snd T (D_c_Reader_write_28 F n y0 y1 y2 y3 T) := by
  intro n
  induction n with
  | zero => intros; exact KtP.none
  | succ n ih =>
    intros
    unfold D_c_Reader_write_28
    refine KtP.cond ?_ ?_
    · exact (L_c_Reader_write_82 _ _ _ _ _)
    · refine KtP.cond ?_ ?_
      · exact (L_c_Reader_write_71 ih)
      · refine KtP.cond ?_ ?_
        · exact KtP.ret2
        · refine KtP.cond ?_ ?_
          · exact (L_c_Reader_write_71 ih)
          · exact KtP.ret2
theorem L_c_Reader_write {F : Nat} {a0 : Nat} {p0 : Int64} {p1 : Int32} {T : tT} : KtP Prod.snd T (D_c_Reader_write F a0 p0 p1 T) := by
  unfold D_c_Reader_write
  refine KtP.cond ?_ ?_
  · exact KtP.ret2
  · refine KtP.cond ?_ ?_
    · exact KtP.ret2
    · refine KtP.bp (fun _ => ?_)
      refine KtP.cond ?_ ?_
      · exact (L_c_Reader_write_28 _ _ _ _ _ _)
      · exact KtP.ret2
theorem L_c_EdgeHouse_type {F : Nat} {a0 : Nat} {p0 : Int64} {p1 : Int32} {T : tT} : KtP Prod.snd T (D_c_EdgeHouse_type F a0 p0 p1 T) := by
  unfold D_c_EdgeHouse_type
  refine KtP.bp (fun _ => ?_)
  refine KtP.bp (fun _ => ?_)
  refine KtP.bp (fun _ => ?_)
  refine KtP.d0 L_c_Reader_write (fun _ T9 => ?_)
  refine KtP.bp (fun _ => ?_)
  exact KtP.ret2
theorem L_c_EdgeHouse_drop {F : Nat} {a0 : Nat} {p0 : Int32} {T : tT} : KtP Prod.snd T (D_c_EdgeHouse_drop F a0 p0 T) := by
  unfold D_c_EdgeHouse_drop
  refine KtP.bp (fun _ => ?_)
  refine KtP.cond ?_ ?_
  · exact KtP.ret2
  · refine KtP.bp (fun _ => ?_)
    refine KtP.bp (fun _ => ?_)
    refine KtP.bp (fun _ => ?_)
    refine KtP.nc ?_ (fun _ => ?_)
    · exact KtP.ret2
    · refine KtP.bp (fun _ => ?_)
      refine KtP.bp (fun _ => ?_)
      refine KtP.b0 (L_tasr (by decide)) (fun T9 => ?_)
      exact KtP.ret2
theorem L_c_Reader_begin_17 {F : Nat} : ∀ (n : Nat) (y0 : Nat) (y1 : Int32) (T : tT), KtP idT T (D_c_Reader_begin_17 F n y0 y1 T) := by
  intro n
  induction n with
  | zero => intros; exact KtP.none
  | succ n ih =>
    intros
    unfold D_c_Reader_begin_17
    refine KtP.bp (fun _ => ?_)
    refine KtP.bp (fun _ => ?_)
    refine KtP.bp (fun _ => ?_)
    refine KtP.cond ?_ ?_
    · exact KtP.ret
    · refine KtP.bp (fun _ => ?_)
      refine KtP.bp (fun _ => ?_)
      refine KtP.b0 L_tasi (fun T9 => ?_)
      exact ih _ _ _
theorem L_c_Reader_begin {F : Nat} {a0 : Nat} {T : tT} : KtP idT T (D_c_Reader_begin F a0 T) := by
  unfold D_c_Reader_begin
  refine KtP.b0 (L_tpi (by decide)) (fun T9 => ?_)
  refine KtP.b0 (L_tpi (by decide)) (fun T9 => ?_)
  refine KtP.b0 (L_tpi (by decide)) (fun T9 => ?_)
  exact (L_c_Reader_begin_17 _ _ _ _)
theorem L_c_Request_init {F : Nat} {a0 : Nat} {T : tT} : KtP idT T (D_c_Request_init F a0 T) := by
  unfold D_c_Request_init
  refine KtP.b0 (L_tpi (by decide)) (fun T9 => ?_)
  refine KtP.b0 (L_tpi (by decide)) (fun T9 => ?_)
  refine KtP.b0 (L_tpi (by decide)) (fun T9 => ?_)
  refine KtP.b0 (L_tpi (by decide)) (fun T9 => ?_)
  exact KtP.ret
theorem L_c_Conditions_init {F : Nat} {a0 : Nat} {T : tT} : KtP idT T (D_c_Conditions_init F a0 T) := by
  unfold D_c_Conditions_init
  refine KtP.b0 (L_tpi (by decide)) (fun T9 => ?_)
  refine KtP.d0 (L_tna (by decide)) (fun _ T9 => ?_)
  refine KtP.b0 (L_tpr (by decide)) (fun T9 => ?_)
  refine KtP.b0 (L_tpi (by decide)) (fun T9 => ?_)
  exact KtP.ret
theorem L_c_Reader_no {F : Nat} {a0 : Nat} {p0 : Int32} {T : tT} : KtP Prod.snd T (D_c_Reader_no F a0 p0 T) := by
  unfold D_c_Reader_no
  refine KtP.b0 (L_tpi (by decide)) (fun T9 => ?_)
  exact KtP.ret2
theorem L_c_Reader_expect {F : Nat} {a0 : Nat} {p0 : Int32} {T : tT} : KtP Prod.snd T (D_c_Reader_expect F a0 p0 T) := by
  unfold D_c_Reader_expect
  refine KtP.bp (fun _ => ?_)
  refine KtP.bp (fun _ => ?_)
  refine KtP.cond ?_ ?_
  · refine KtP.bp (fun _ => ?_)
    refine KtP.b0 (L_tpi (by decide)) (fun T9 => ?_)
    exact KtP.ret2
  · refine KtP.bp (fun _ => ?_)
    refine KtP.bp (fun _ => ?_)
    refine KtP.d0 L_c_Reader_no (fun _ T9 => ?_)
    refine KtP.bp (fun _ => ?_)
    exact KtP.ret2
theorem L_c_Reader_expectText_2 {F : Nat} : ∀ (n : Nat) (y0 : Nat) (y1 : Nat) (y2 : Int32) (T : tT), KtP Prod.snd T (D_c_Reader_expectText_2 F n y0 y1 y2 T) := by
  intro n
  induction n with
  | zero => intros; exact KtP.none
  | succ n ih =>
    intros
    unfold D_c_Reader_expectText_2
    refine KtP.bp (fun _ => ?_)
    refine KtP.cond ?_ ?_
    · exact KtP.ret2
    · refine KtP.bp (fun _ => ?_)
      refine KtP.bp (fun _ => ?_)
      refine KtP.d0 L_c_Reader_expect (fun _ T9 => ?_)
      refine KtP.cond ?_ ?_
      · exact ih _ _ _ _
      · exact KtP.ret2
theorem L_c_Reader_expectText {F : Nat} {a0 : Nat} {p0 : Nat} {T : tT} : KtP Prod.snd T (D_c_Reader_expectText F a0 p0 T) := by
  unfold D_c_Reader_expectText
  exact (L_c_Reader_expectText_2 _ _ _ _ _)
theorem L_c_Reader_readNumber_114 {F : Nat} {x0 : Nat} {T : tT} : KtP Prod.snd T (D_c_Reader_readNumber_114 F x0 T) := by
  unfold D_c_Reader_readNumber_114
  exact KtP.ret2
theorem L_c_Reader_readNumber_62 {F : Nat} {x0 : Nat} {x1 : Int32} {x2 : Int32} {T : tT} : KtP Prod.snd T (D_c_Reader_readNumber_62 F x0 x1 x2 T) := by
  unfold D_c_Reader_readNumber_62
  refine KtP.bp (fun _ => ?_)
  refine KtP.cond ?_ ?_
  · refine KtP.bp (fun _ => ?_)
    refine KtP.cond ?_ ?_
    · refine KtP.bp (fun _ => ?_)
      refine KtP.bp (fun _ => ?_)
      refine KtP.bp (fun _ => ?_)
      refine KtP.cond ?_ ?_
      · exact L_c_Reader_readNumber_114
      · refine KtP.bp (fun _ => ?_)
        refine KtP.bp (fun _ => ?_)
        refine KtP.d0 L_c_Reader_no (fun _ T9 => ?_)
        refine KtP.bp (fun _ => ?_)
        refine KtP.bp (fun _ => ?_)
        exact KtP.ret2
    · refine KtP.bp (fun _ => ?_)
      refine KtP.d0 L_c_Reader_no (fun _ T9 => ?_)
      refine KtP.bp (fun _ => ?_)
      exact KtP.ret2
  · refine KtP.bp (fun _ => ?_)
    refine KtP.bp (fun _ => ?_)
    refine KtP.d0 L_c_Reader_no (fun _ T9 => ?_)
    refine KtP.bp (fun _ => ?_)
    exact KtP.ret2
theorem L_c_Reader_readNumber_12 {F : Nat} : ∀ (n : Nat) (y0 : Nat) (y1 : Int32) (y2 : Int32) (y3 : Int32) (T : tT), KtP Prod.snd T (D_c_Reader_readNumber_12 F n y0 y1 y2 y3 T) := by
  intro n
  induction n with
  | zero => intros; exact KtP.none
  | succ n ih =>
    intros
    unfold D_c_Reader_readNumber_12
    refine KtP.cond ?_ ?_
    · exact L_c_Reader_readNumber_62
    · refine KtP.bp (fun _ => ?_)
      refine KtP.bp (fun _ => ?_)
      refine KtP.bp (fun _ => ?_)
      refine KtP.cond ?_ ?_
      · exact L_c_Reader_readNumber_62
      · refine KtP.bp (fun _ => ?_)
        refine KtP.bp (fun _ => ?_)
        refine KtP.bp (fun _ => ?_)
        refine KtP.b0 (L_tpi (by decide)) (fun T9 => ?_)
        refine KtP.bp (fun _ => ?_)
        refine KtP.b0 (L_tpi (by decide)) (fun T9 => ?_)
        exact ih _ _ _ _ _
theorem L_c_Reader_readNumber {F : Nat} {a0 : Nat} {p0 : Int32} {T : tT} : KtP Prod.snd T (D_c_Reader_readNumber F a0 p0 T) := by
  unfold D_c_Reader_readNumber
  refine KtP.bp (fun _ => ?_)
  refine KtP.b0 (L_tpi (by decide)) (fun T9 => ?_)
  exact (L_c_Reader_readNumber_12 _ _ _ _ _ _)
theorem L_c_Reader_readTarget_74 {F : Nat} {x0 : Nat} {T : tT} : KtP Prod.snd T (D_c_Reader_readTarget_74 F x0 T) := by
  unfold D_c_Reader_readTarget_74
  refine KtP.bp (fun _ => ?_)
  refine KtP.d0 L_c_Reader_expect (fun _ T9 => ?_)
  refine KtP.bp (fun _ => ?_)
  exact KtP.ret2
theorem L_c_Reader_readTarget {F : Nat} {a0 : Nat} {p0 : Int32} {T : tT} : KtP Prod.snd T (D_c_Reader_readTarget F a0 p0 T) := by
  unfold D_c_Reader_readTarget
  refine KtP.bp (fun _ => ?_)
  refine KtP.d0 L_c_Reader_expect (fun _ T9 => ?_)
  refine KtP.cond ?_ ?_
  · exact KtP.ret2
  · refine KtP.bp (fun _ => ?_)
    refine KtP.d0 L_c_Reader_readNumber (fun _ T9 => ?_)
    refine KtP.cond ?_ ?_
    · refine KtP.bp (fun _ => ?_)
      refine KtP.b0 (L_tpi (by decide)) (fun T9 => ?_)
      refine KtP.b0 (L_tpi (by decide)) (fun T9 => ?_)
      refine KtP.cond ?_ ?_
      · exact L_c_Reader_readTarget_74
      · refine KtP.bp (fun _ => ?_)
        refine KtP.bp (fun _ => ?_)
        refine KtP.cond ?_ ?_
        · exact L_c_Reader_readTarget_74
        · refine KtP.bp (fun _ => ?_)
          refine KtP.b0 (L_tpi (by decide)) (fun T9 => ?_)
          refine KtP.bp (fun _ => ?_)
          refine KtP.d0 L_c_Reader_readNumber (fun _ T9 => ?_)
          refine KtP.cond ?_ ?_
          · refine KtP.bp (fun _ => ?_)
            refine KtP.b0 (L_tpi (by decide)) (fun T9 => ?_)
            exact L_c_Reader_readTarget_74
          · exact KtP.ret2
    · exact KtP.ret2
theorem L_c_Reader_skipLetters_38 {F : Nat} {rec0 : Nat → tT → Option (tT)} {x0 : Nat} {T : tT} (hrec0 : ∀ (y0 : Nat) (T : tT), KtP idT T (rec0 y0 T)) : KtP idT T (D_c_Reader_skipLetters_38 F rec0 x0 T) := by
  unfold D_c_Reader_skipLetters_38
  refine KtP.bp (fun _ => ?_)
  refine KtP.b0 (L_tpi (by decide)) (fun T9 => ?_)
  exact hrec0 _ _
theorem L_c_Reader_skipLetters_0 {F : Nat} : ∀ (n : Nat) (y0 : Nat) (T : tT), KtP idT T (D_c_Reader_skipLetters_0 F n y0 T) := by
  intro n
  induction n with
  | zero => intros; exact KtP.none
  | succ n ih =>
    intros
    unfold D_c_Reader_skipLetters_0
    refine KtP.bp (fun _ => ?_)
    refine KtP.bp (fun _ => ?_)
    refine KtP.cond ?_ ?_
    · exact KtP.ret
    · refine KtP.bp (fun _ => ?_)
      refine KtP.bp (fun _ => ?_)
      refine KtP.cond ?_ ?_
      · exact (L_c_Reader_skipLetters_38 ih)
      · refine KtP.bp (fun _ => ?_)
        refine KtP.bp (fun _ => ?_)
        refine KtP.cond ?_ ?_
        · exact KtP.ret
        · refine KtP.bp (fun _ => ?_)
          refine KtP.bp (fun _ => ?_)
          refine KtP.cond ?_ ?_
          · exact KtP.ret
          · exact (L_c_Reader_skipLetters_38 ih)
theorem L_c_Reader_skipLetters {F : Nat} {a0 : Nat} {T : tT} : KtP idT T (D_c_Reader_skipLetters F a0 T) := by
  unfold D_c_Reader_skipLetters
  exact (L_c_Reader_skipLetters_0 _ _ _)
theorem L_c_Reader_readName_100 {F : Nat} {x0 : Nat} {T : tT} : KtP Prod.snd T (D_c_Reader_readName_100 F x0 T) := by
  unfold D_c_Reader_readName_100
  refine KtP.bp (fun _ => ?_)
  refine KtP.bp (fun _ => ?_)
  refine KtP.d0 L_c_Reader_no (fun _ T9 => ?_)
  refine KtP.bp (fun _ => ?_)
  exact KtP.ret2
theorem L_c_Reader_readName {F : Nat} {a0 : Nat} {T : tT} : KtP Prod.snd T (D_c_Reader_readName F a0 T) := by
  unfold D_c_Reader_readName
  refine KtP.bp (fun _ => ?_)
  refine KtP.b0 (L_tpi (by decide)) (fun T9 => ?_)
  refine KtP.bp (fun _ => ?_)
  refine KtP.b0 L_c_Reader_skipLetters (fun T9 => ?_)
  refine KtP.bp (fun _ => ?_)
  refine KtP.b0 (L_tpi (by decide)) (fun T9 => ?_)
  refine KtP.bp (fun _ => ?_)
  refine KtP.bp (fun _ => ?_)
  refine KtP.cond ?_ ?_
  · refine KtP.bp (fun _ => ?_)
    refine KtP.bp (fun _ => ?_)
    refine KtP.cond ?_ ?_
    · refine KtP.bp (fun _ => ?_)
      refine KtP.bp (fun _ => ?_)
      refine KtP.cond ?_ ?_
      · refine KtP.bp (fun _ => ?_)
        refine KtP.bp (fun _ => ?_)
        refine KtP.cond ?_ ?_
        · exact L_c_Reader_readName_100
        · refine KtP.bp (fun _ => ?_)
          refine KtP.bp (fun _ => ?_)
          refine KtP.bp (fun _ => ?_)
          refine KtP.bp (fun _ => ?_)
          refine KtP.cond ?_ ?_
          · refine KtP.bp (fun _ => ?_)
            refine KtP.bp (fun _ => ?_)
            refine KtP.bp (fun _ => ?_)
            refine KtP.bp (fun _ => ?_)
            refine KtP.b0 L_tasi (fun T9 => ?_)
            refine KtP.bp (fun _ => ?_)
            refine KtP.b0 (L_tpi (by decide)) (fun T9 => ?_)
            refine KtP.bp (fun _ => ?_)
            refine KtP.b0 (L_tpi (by decide)) (fun T9 => ?_)
            refine KtP.bp (fun _ => ?_)
            refine KtP.bp (fun _ => ?_)
            refine KtP.cond ?_ ?_
            · exact KtP.ret2
            · refine KtP.bp (fun _ => ?_)
              refine KtP.b0 (L_tpi (by decide)) (fun T9 => ?_)
              exact KtP.ret2
          · exact L_c_Reader_readName_100
      · refine KtP.bp (fun _ => ?_)
        refine KtP.bp (fun _ => ?_)
        refine KtP.d0 L_c_Reader_no (fun _ T9 => ?_)
        refine KtP.bp (fun _ => ?_)
        exact KtP.ret2
    · refine KtP.bp (fun _ => ?_)
      refine KtP.bp (fun _ => ?_)
      refine KtP.d0 L_c_Reader_no (fun _ T9 => ?_)
      refine KtP.bp (fun _ => ?_)
      exact KtP.ret2
  · refine KtP.bp (fun _ => ?_)
    refine KtP.bp (fun _ => ?_)
    refine KtP.d0 L_c_Reader_no (fun _ T9 => ?_)
    refine KtP.bp (fun _ => ?_)
    exact KtP.ret2
theorem L_c_Reader_readRange_114 {F : Nat} {x0 : Nat} {x1 : Int32} {x2 : Int32} {T : tT} : KtP Prod.snd T (D_c_Reader_readRange_114 F x0 x1 x2 T) := by
  unfold D_c_Reader_readRange_114
  refine KtP.cond ?_ ?_
  · exact KtP.ret2
  · refine KtP.bp (fun _ => ?_)
    refine KtP.bp (fun _ => ?_)
    refine KtP.b0 (L_tpi (by decide)) (fun T9 => ?_)
    refine KtP.bp (fun _ => ?_)
    refine KtP.bp (fun _ => ?_)
    refine KtP.b0 (L_tpi (by decide)) (fun T9 => ?_)
    refine KtP.bp (fun _ => ?_)
    refine KtP.bp (fun _ => ?_)
    refine KtP.b0 (L_tpi (by decide)) (fun T9 => ?_)
    exact KtP.ret2
theorem L_c_Reader_readRange {F : Nat} {a0 : Nat} {T : tT} : KtP Prod.snd T (D_c_Reader_readRange F a0 T) := by
  unfold D_c_Reader_readRange
  refine KtP.bp (fun _ => ?_)
  refine KtP.d0 L_c_Reader_expectText (fun _ T9 => ?_)
  refine KtP.cond ?_ ?_
  · refine KtP.bp (fun _ => ?_)
    refine KtP.bp (fun _ => ?_)
    refine KtP.cond ?_ ?_
    · refine KtP.bp (fun _ => ?_)
      refine KtP.d0 L_c_Reader_readNumber (fun _ T9 => ?_)
      refine KtP.cond ?_ ?_
      · refine KtP.bp (fun _ => ?_)
        refine KtP.bp (fun _ => ?_)
        refine KtP.d0 L_c_Reader_expect (fun _ T9 => ?_)
        refine KtP.cond ?_ ?_
        · refine KtP.bp (fun _ => ?_)
          refine KtP.bp (fun _ => ?_)
          refine KtP.bp (fun _ => ?_)
          refine KtP.cond ?_ ?_
          · exact L_c_Reader_readRange_114
          · refine KtP.bp (fun _ => ?_)
            refine KtP.d0 L_c_Reader_readNumber (fun _ T9 => ?_)
            refine KtP.cond ?_ ?_
            · refine KtP.bp (fun _ => ?_)
              exact L_c_Reader_readRange_114
            · exact KtP.ret2
        · exact KtP.ret2
      · exact KtP.ret2
    · refine KtP.bp (fun _ => ?_)
      refine KtP.b0 (L_tpi (by decide)) (fun T9 => ?_)
      refine KtP.bp (fun _ => ?_)
      refine KtP.bp (fun _ => ?_)
      refine KtP.b0 (L_tpi (by decide)) (fun T9 => ?_)
      refine KtP.bp (fun _ => ?_)
      refine KtP.d0 L_c_Reader_readNumber (fun _ T9 => ?_)
      refine KtP.bp (fun _ => ?_)
      refine KtP.bp (fun _ => ?_)
      refine KtP.bp (fun _ => ?_)
      refine KtP.b0 (L_tpi (by decide)) (fun T9 => ?_)
      refine KtP.bp (fun _ => ?_)
      exact KtP.ret2
  · exact KtP.ret2
theorem L_c_Conditions_addTag {F : Nat} {a0 : Nat} {p0 : Int32} {T : tT} : KtP idT T (D_c_Conditions_addTag F a0 p0 T) := by
  unfold D_c_Conditions_addTag
  refine KtP.bp (fun _ => ?_)
  refine KtP.bp (fun _ => ?_)
  refine KtP.bp (fun _ => ?_)
  refine KtP.bp (fun _ => ?_)
  refine KtP.cond ?_ ?_
  · exact KtP.ret
  · refine KtP.bp (fun _ => ?_)
    refine KtP.bp (fun _ => ?_)
    refine KtP.bp (fun _ => ?_)
    refine KtP.b0 L_tasi (fun T9 => ?_)
    refine KtP.bp (fun _ => ?_)
    refine KtP.b0 (L_tpi (by decide)) (fun T9 => ?_)
    exact KtP.ret
theorem L_c_Reader_readMatch_31 {F : Nat} : ∀ (n : Nat) (y0 : Nat) (y1 : Int32) (T : tT), KtP Prod.snd T (D_c_Reader_readMatch_31 F n y0 y1 T) := by
  intro n
  induction n with
  | zero => intros; exact KtP.none
  | succ n ih =>
    intros
    unfold D_c_Reader_readMatch_31
    refine KtP.bp (fun _ => ?_)
    refine KtP.bp (fun _ => ?_)
    refine KtP.bp (fun _ => ?_)
    refine KtP.bp (fun _ => ?_)
    refine KtP.bp (fun _ => ?_)
    refine KtP.cond ?_ ?_
    · exact KtP.ret2
    · refine KtP.bp (fun _ => ?_)
      refine KtP.d0 L_c_Reader_expect (fun _ T9 => ?_)
      refine KtP.cond ?_ ?_
      · exact KtP.ret2
      · refine KtP.bp (fun _ => ?_)
        refine KtP.d0 L_c_Reader_readNumber (fun _ T9 => ?_)
        refine KtP.cond ?_ ?_
        · exact KtP.ret2
        · refine KtP.bp (fun _ => ?_)
          refine KtP.d0 L_c_Reader_expect (fun _ T9 => ?_)
          refine KtP.cond ?_ ?_
          · refine KtP.bp (fun _ => ?_)
            refine KtP.bp (fun _ => ?_)
            refine KtP.bp (fun _ => ?_)
            refine KtP.bp (fun _ => ?_)
            refine KtP.b0 L_c_Conditions_addTag (fun T9 => ?_)
            refine KtP.bp (fun _ => ?_)
            refine KtP.bp (fun _ => ?_)
            refine KtP.bp (fun _ => ?_)
            refine KtP.bp (fun _ => ?_)
            refine KtP.bp (fun _ => ?_)
            refine KtP.cond ?_ ?_
            · exact KtP.ret2
            · refine KtP.bp (fun _ => ?_)
              refine KtP.bp (fun _ => ?_)
              refine KtP.cond ?_ ?_
              · refine KtP.bp (fun _ => ?_)
                refine KtP.b0 (L_tpi (by decide)) (fun T9 => ?_)
                refine KtP.bp (fun _ => ?_)
                refine KtP.d0 L_c_Reader_expect (fun _ T9 => ?_)
                refine KtP.cond ?_ ?_
                · exact ih _ _ _
                · exact KtP.ret2
              · exact KtP.ret2
          · exact KtP.ret2
theorem L_c_Reader_readMatch {F : Nat} {a0 : Nat} {T : tT} : KtP Prod.snd T (D_c_Reader_readMatch F a0 T) := by
  unfold D_c_Reader_readMatch
  refine KtP.bp (fun _ => ?_)
  refine KtP.bp (fun _ => ?_)
  refine KtP.cond ?_ ?_
  · exact (L_c_Reader_readMatch_31 _ _ _ _)
  · refine KtP.bp (fun _ => ?_)
    refine KtP.b0 (L_tpi (by decide)) (fun T9 => ?_)
    refine KtP.bp (fun _ => ?_)
    refine KtP.bp (fun _ => ?_)
    refine KtP.b0 (L_tpz (by decide)) (fun T9 => ?_)
    exact KtP.ret2
theorem L_c_Reader_readWord {F : Nat} {a0 : Nat} {T : tT} : KtP Prod.snd T (D_c_Reader_readWord F a0 T) := by
  unfold D_c_Reader_readWord
  refine KtP.bp (fun _ => ?_)
  refine KtP.b0 (L_tpi (by decide)) (fun T9 => ?_)
  refine KtP.bp (fun _ => ?_)
  refine KtP.b0 L_c_Reader_skipLetters (fun T9 => ?_)
  refine KtP.bp (fun _ => ?_)
  refine KtP.b0 (L_tpi (by decide)) (fun T9 => ?_)
  refine KtP.bp (fun _ => ?_)
  refine KtP.bp (fun _ => ?_)
  refine KtP.cond ?_ ?_
  · refine KtP.bp (fun _ => ?_)
    refine KtP.bp (fun _ => ?_)
    refine KtP.cond ?_ ?_
    · refine KtP.bp (fun _ => ?_)
      refine KtP.bp (fun _ => ?_)
      refine KtP.bp (fun _ => ?_)
      refine KtP.b0 (L_tpz (by decide)) (fun T9 => ?_)
      refine KtP.bp (fun _ => ?_)
      refine KtP.cond ?_ ?_
      · refine KtP.bp (fun _ => ?_)
        refine KtP.b0 (L_tpi (by decide)) (fun T9 => ?_)
        refine KtP.bp (fun _ => ?_)
        refine KtP.d0 L_c_Reader_readNumber (fun _ T9 => ?_)
        refine KtP.bp (fun _ => ?_)
        exact KtP.ret2
      · exact KtP.ret2
    · refine KtP.bp (fun _ => ?_)
      refine KtP.bp (fun _ => ?_)
      refine KtP.d0 L_c_Reader_no (fun _ T9 => ?_)
      refine KtP.bp (fun _ => ?_)
      exact KtP.ret2
  · refine KtP.bp (fun _ => ?_)
    refine KtP.bp (fun _ => ?_)
    refine KtP.d0 L_c_Reader_no (fun _ T9 => ?_)
    refine KtP.bp (fun _ => ?_)
    exact KtP.ret2
theorem L_c_Reader_weighLanguage {F : Nat} {a0 : Nat} {T : tT} : KtP idT T (D_c_Reader_weighLanguage F a0 T) := by
  unfold D_c_Reader_weighLanguage
  refine KtP.bp (fun _ => ?_)
  refine KtP.bp (fun _ => ?_)
  refine KtP.bp (fun _ => ?_)
  refine KtP.bp (fun _ => ?_)
  refine KtP.cond ?_ ?_
  · refine KtP.bp (fun _ => ?_)
    refine KtP.bp (fun _ => ?_)
    refine KtP.cond ?_ ?_
    · refine KtP.bp (fun _ => ?_)
      refine KtP.bp (fun _ => ?_)
      refine KtP.cond ?_ ?_
      · refine KtP.bp (fun _ => ?_)
        refine KtP.bp (fun _ => ?_)
        refine KtP.cond ?_ ?_
        · exact KtP.ret
        · refine KtP.bp (fun _ => ?_)
          refine KtP.bp (fun _ => ?_)
          refine KtP.b0 L_tasi (fun T9 => ?_)
          exact KtP.ret
      · refine KtP.bp (fun _ => ?_)
        refine KtP.bp (fun _ => ?_)
        refine KtP.b0 L_tasi (fun T9 => ?_)
        exact KtP.ret
    · refine KtP.bp (fun _ => ?_)
      refine KtP.bp (fun _ => ?_)
      refine KtP.b0 L_tasi (fun T9 => ?_)
      exact KtP.ret
  · refine KtP.bp (fun _ => ?_)
    refine KtP.bp (fun _ => ?_)
    refine KtP.b0 L_tasi (fun T9 => ?_)
    exact KtP.ret
theorem L_c_Reader_weighForm {F : Nat} {a0 : Nat} {T : tT} : KtP idT T (D_c_Reader_weighForm F a0 T) := by
  unfold D_c_Reader_weighForm
  refine KtP.bp (fun _ => ?_)
  refine KtP.bp (fun _ => ?_)
  refine KtP.cond ?_ ?_
  · exact KtP.ret
  · refine KtP.bp (fun _ => ?_)
    refine KtP.bp (fun _ => ?_)
    refine KtP.bp (fun _ => ?_)
    refine KtP.bp (fun _ => ?_)
    refine KtP.b0 (L_tpi (by decide)) (fun T9 => ?_)
    exact KtP.ret
theorem L_c_Reader_countAsked_122 {F : Nat} {x0 : Nat} {T : tT} : KtP idT T (D_c_Reader_countAsked_122 F x0 T) := by
  unfold D_c_Reader_countAsked_122
  refine KtP.bp (fun _ => ?_)
  refine KtP.cond ?_ ?_
  · exact KtP.ret
  · refine KtP.bp (fun _ => ?_)
    refine KtP.bp (fun _ => ?_)
    refine KtP.cond ?_ ?_
    · exact KtP.ret
    · refine KtP.bp (fun _ => ?_)
      refine KtP.bp (fun _ => ?_)
      refine KtP.bp (fun _ => ?_)
      refine KtP.b0 (L_tpi (by decide)) (fun T9 => ?_)
      exact KtP.ret
theorem L_c_Reader_countAsked_91 {F : Nat} {x0 : Nat} {T : tT} : KtP idT T (D_c_Reader_countAsked_91 F x0 T) := by
  unfold D_c_Reader_countAsked_91
  refine KtP.bp (fun _ => ?_)
  refine KtP.cond ?_ ?_
  · exact L_c_Reader_countAsked_122
  · refine KtP.bp (fun _ => ?_)
    refine KtP.bp (fun _ => ?_)
    refine KtP.cond ?_ ?_
    · exact L_c_Reader_countAsked_122
    · refine KtP.bp (fun _ => ?_)
      refine KtP.bp (fun _ => ?_)
      refine KtP.bp (fun _ => ?_)
      refine KtP.b0 (L_tpi (by decide)) (fun T9 => ?_)
      exact KtP.ret
theorem L_c_Reader_countAsked_63 {F : Nat} {x0 : Nat} {T : tT} : KtP idT T (D_c_Reader_countAsked_63 F x0 T) := by
  unfold D_c_Reader_countAsked_63
  refine KtP.bp (fun _ => ?_)
  refine KtP.cond ?_ ?_
  · exact L_c_Reader_countAsked_91
  · refine KtP.bp (fun _ => ?_)
    refine KtP.bp (fun _ => ?_)
    refine KtP.cond ?_ ?_
    · exact L_c_Reader_countAsked_91
    · refine KtP.bp (fun _ => ?_)
      refine KtP.bp (fun _ => ?_)
      refine KtP.b0 (L_tpz (by decide)) (fun T9 => ?_)
      exact KtP.ret
theorem L_c_Reader_countAsked {F : Nat} {a0 : Nat} {T : tT} : KtP idT T (D_c_Reader_countAsked F a0 T) := by
  unfold D_c_Reader_countAsked
  refine KtP.bp (fun _ => ?_)
  refine KtP.bp (fun _ => ?_)
  refine KtP.cond ?_ ?_
  · refine KtP.bp (fun _ => ?_)
    refine KtP.cond ?_ ?_
    · exact L_c_Reader_countAsked_63
    · refine KtP.bp (fun _ => ?_)
      refine KtP.bp (fun _ => ?_)
      refine KtP.cond ?_ ?_
      · exact L_c_Reader_countAsked_63
      · refine KtP.bp (fun _ => ?_)
        refine KtP.bp (fun _ => ?_)
        refine KtP.b0 (L_tpz (by decide)) (fun T9 => ?_)
        exact KtP.ret
  · refine KtP.bp (fun _ => ?_)
    refine KtP.bp (fun _ => ?_)
    refine KtP.bp (fun _ => ?_)
    refine KtP.bp (fun _ => ?_)
    refine KtP.b0 (L_tpi (by decide)) (fun T9 => ?_)
    exact KtP.ret
theorem L_c_Reader_countKeeping_118 {F : Nat} {x0 : Nat} {T : tT} : KtP idT T (D_c_Reader_countKeeping_118 F x0 T) := by
  unfold D_c_Reader_countKeeping_118
  refine KtP.bp (fun _ => ?_)
  refine KtP.cond ?_ ?_
  · exact KtP.ret
  · refine KtP.bp (fun _ => ?_)
    refine KtP.bp (fun _ => ?_)
    refine KtP.cond ?_ ?_
    · exact KtP.ret
    · refine KtP.bp (fun _ => ?_)
      refine KtP.bp (fun _ => ?_)
      refine KtP.bp (fun _ => ?_)
      refine KtP.b0 (L_tpi (by decide)) (fun T9 => ?_)
      exact KtP.ret
theorem L_c_Reader_countKeeping_87 {F : Nat} {x0 : Nat} {T : tT} : KtP idT T (D_c_Reader_countKeeping_87 F x0 T) := by
  unfold D_c_Reader_countKeeping_87
  refine KtP.bp (fun _ => ?_)
  refine KtP.cond ?_ ?_
  · exact L_c_Reader_countKeeping_118
  · refine KtP.bp (fun _ => ?_)
    refine KtP.bp (fun _ => ?_)
    refine KtP.cond ?_ ?_
    · exact L_c_Reader_countKeeping_118
    · refine KtP.bp (fun _ => ?_)
      refine KtP.bp (fun _ => ?_)
      refine KtP.bp (fun _ => ?_)
      refine KtP.b0 (L_tpi (by decide)) (fun T9 => ?_)
      exact KtP.ret
theorem L_c_Reader_countKeeping_56 {F : Nat} {x0 : Nat} {T : tT} : KtP idT T (D_c_Reader_countKeeping_56 F x0 T) := by
  unfold D_c_Reader_countKeeping_56
  refine KtP.bp (fun _ => ?_)
  refine KtP.cond ?_ ?_
  · exact L_c_Reader_countKeeping_87
  · refine KtP.bp (fun _ => ?_)
    refine KtP.bp (fun _ => ?_)
    refine KtP.cond ?_ ?_
    · exact L_c_Reader_countKeeping_87
    · refine KtP.bp (fun _ => ?_)
      refine KtP.bp (fun _ => ?_)
      refine KtP.bp (fun _ => ?_)
      refine KtP.b0 (L_tpi (by decide)) (fun T9 => ?_)
      exact KtP.ret
theorem L_c_Reader_countKeeping_28 {F : Nat} {x0 : Nat} {T : tT} : KtP idT T (D_c_Reader_countKeeping_28 F x0 T) := by
  unfold D_c_Reader_countKeeping_28
  refine KtP.bp (fun _ => ?_)
  refine KtP.cond ?_ ?_
  · exact L_c_Reader_countKeeping_56
  · refine KtP.bp (fun _ => ?_)
    refine KtP.bp (fun _ => ?_)
    refine KtP.cond ?_ ?_
    · exact L_c_Reader_countKeeping_56
    · refine KtP.bp (fun _ => ?_)
      refine KtP.bp (fun _ => ?_)
      refine KtP.b0 (L_tpz (by decide)) (fun T9 => ?_)
      exact KtP.ret
theorem L_c_Reader_countKeeping {F : Nat} {a0 : Nat} {T : tT} : KtP idT T (D_c_Reader_countKeeping F a0 T) := by
  unfold D_c_Reader_countKeeping
  refine KtP.bp (fun _ => ?_)
  refine KtP.cond ?_ ?_
  · exact L_c_Reader_countKeeping_28
  · refine KtP.bp (fun _ => ?_)
    refine KtP.bp (fun _ => ?_)
    refine KtP.cond ?_ ?_
    · exact L_c_Reader_countKeeping_28
    · refine KtP.bp (fun _ => ?_)
      refine KtP.bp (fun _ => ?_)
      refine KtP.b0 (L_tpz (by decide)) (fun T9 => ?_)
      exact KtP.ret
theorem L_c_Reader_countVarying_32 {F : Nat} {x0 : Nat} {T : tT} : KtP idT T (D_c_Reader_countVarying_32 F x0 T) := by
  unfold D_c_Reader_countVarying_32
  refine KtP.bp (fun _ => ?_)
  refine KtP.cond ?_ ?_
  · exact KtP.ret
  · refine KtP.bp (fun _ => ?_)
    refine KtP.bp (fun _ => ?_)
    refine KtP.cond ?_ ?_
    · exact KtP.ret
    · refine KtP.bp (fun _ => ?_)
      refine KtP.bp (fun _ => ?_)
      refine KtP.bp (fun _ => ?_)
      refine KtP.b0 (L_tpi (by decide)) (fun T9 => ?_)
      exact KtP.ret
theorem L_c_Reader_countVarying {F : Nat} {a0 : Nat} {T : tT} : KtP idT T (D_c_Reader_countVarying F a0 T) := by
  unfold D_c_Reader_countVarying
  refine KtP.bp (fun _ => ?_)
  refine KtP.cond ?_ ?_
  · exact L_c_Reader_countVarying_32
  · refine KtP.bp (fun _ => ?_)
    refine KtP.bp (fun _ => ?_)
    refine KtP.cond ?_ ?_
    · exact L_c_Reader_countVarying_32
    · refine KtP.bp (fun _ => ?_)
      refine KtP.bp (fun _ => ?_)
      refine KtP.bp (fun _ => ?_)
      refine KtP.b0 (L_tpi (by decide)) (fun T9 => ?_)
      exact KtP.ret
theorem L_c_Reader_readList_69 {F : Nat} {rec2 : Nat → Int32 → Int32 → tT → Option (Int32 × tT)} {x0 : Nat} {x1 : Int32} {x2 : Int32} {T : tT} (hrec2 : ∀ (y0 : Nat) (y1 : Int32) (y2 : Int32) (T : tT), KtP Prod.snd T (rec2 y0 y1 y2 T)) : KtP Prod.snd T (D_c_Reader_readList_69 F rec2 x0 x1 x2 T) := by
  unfold D_c_Reader_readList_69
  refine KtP.bp (fun _ => ?_)
  refine KtP.bp (fun _ => ?_)
  refine KtP.cond ?_ ?_
  · refine KtP.bp (fun _ => ?_)
    refine KtP.b0 (L_tpi (by decide)) (fun T9 => ?_)
    refine KtP.bp (fun _ => ?_)
    refine KtP.d0 L_c_Reader_expect (fun _ T9 => ?_)
    refine KtP.cond ?_ ?_
    · exact hrec2 _ _ _ _
    · exact KtP.ret2
  · exact KtP.ret2
theorem L_c_Reader_readList_2 {F : Nat} : ∀ (n : Nat) (y0 : Nat) (y1 : Int32) (y2 : Int32) (T : tT), KtP Prod.snd T (D_c_Reader_readList_2 F n y0 y1 y2 T) := by
  intro n
  induction n with
  | zero => intros; exact KtP.none
  | succ n ih =>
    intros
    unfold D_c_Reader_readList_2
    refine KtP.cond ?_ ?_
    · refine KtP.bp (fun _ => ?_)
      refine KtP.bp (fun _ => ?_)
      refine KtP.d0 L_c_Reader_no (fun _ T9 => ?_)
      refine KtP.bp (fun _ => ?_)
      exact KtP.ret2
    · refine KtP.bp (fun _ => ?_)
      refine KtP.d0 L_c_Reader_readWord (fun _ T9 => ?_)
      refine KtP.cond ?_ ?_
      · refine KtP.cond ?_ ?_
        · refine KtP.cond ?_ ?_
          · refine KtP.cond ?_ ?_
            · refine KtP.cond ?_ ?_
              · refine KtP.bp (fun _ => ?_)
                refine KtP.b0 L_c_Reader_countVarying (fun T9 => ?_)
                exact (L_c_Reader_readList_69 ih)
              · refine KtP.bp (fun _ => ?_)
                refine KtP.b0 L_c_Reader_countKeeping (fun T9 => ?_)
                exact (L_c_Reader_readList_69 ih)
            · refine KtP.bp (fun _ => ?_)
              refine KtP.b0 L_c_Reader_countAsked (fun T9 => ?_)
              exact (L_c_Reader_readList_69 ih)
          · refine KtP.bp (fun _ => ?_)
            refine KtP.b0 L_c_Reader_weighForm (fun T9 => ?_)
            exact (L_c_Reader_readList_69 ih)
        · refine KtP.bp (fun _ => ?_)
          refine KtP.b0 L_c_Reader_weighLanguage (fun T9 => ?_)
          exact (L_c_Reader_readList_69 ih)
      · exact KtP.ret2
theorem L_c_Reader_readList {F : Nat} {a0 : Nat} {p0 : Int32} {T : tT} : KtP Prod.snd T (D_c_Reader_readList F a0 p0 T) := by
  unfold D_c_Reader_readList
  exact (L_c_Reader_readList_2 _ _ _ _ _)
theorem L_c_Reader_skipValue_0 {F : Nat} : ∀ (n : Nat) (y0 : Nat) (T : tT), KtP Prod.snd T (D_c_Reader_skipValue_0 F n y0 T) := by
  intro n
  induction n with
  | zero => intros; exact KtP.none
  | succ n ih =>
    intros
    unfold D_c_Reader_skipValue_0
    refine KtP.bp (fun _ => ?_)
    refine KtP.bp (fun _ => ?_)
    refine KtP.cond ?_ ?_
    · exact KtP.ret2
    · refine KtP.bp (fun _ => ?_)
      refine KtP.bp (fun _ => ?_)
      refine KtP.cond ?_ ?_
      · exact KtP.ret2
      · refine KtP.bp (fun _ => ?_)
        refine KtP.b0 (L_tpi (by decide)) (fun T9 => ?_)
        exact ih _ _
theorem L_c_Reader_skipValue {F : Nat} {a0 : Nat} {T : tT} : KtP Prod.snd T (D_c_Reader_skipValue F a0 T) := by
  unfold D_c_Reader_skipValue
  exact (L_c_Reader_skipValue_0 _ _ _)
theorem L_c_Reader_readAskedValue_69 {F : Nat} {x0 : Nat} {y0 : Int32} {T : tT} : KtP Prod.snd T (D_c_Reader_readAskedValue_69 F x0 y0 T) := by
  unfold D_c_Reader_readAskedValue_69
  refine KtP.bp (fun _ => ?_)
  refine KtP.bp (fun _ => ?_)
  refine KtP.bp (fun _ => ?_)
  refine KtP.b0 (L_tpi (by decide)) (fun T9 => ?_)
  refine KtP.bp (fun _ => ?_)
  exact KtP.ret2
theorem L_c_Reader_readAskedValue_68 {F : Nat} {x0 : Nat} {T : tT} : KtP Prod.snd T (D_c_Reader_readAskedValue_68 F x0 T) := by
  unfold D_c_Reader_readAskedValue_68
  exact L_c_Reader_readAskedValue_69
theorem L_c_Reader_readAskedValue {F : Nat} {a0 : Nat} {T : tT} : KtP Prod.snd T (D_c_Reader_readAskedValue F a0 T) := by
  unfold D_c_Reader_readAskedValue
  refine KtP.bp (fun _ => ?_)
  refine KtP.bp (fun _ => ?_)
  refine KtP.cond ?_ ?_
  · refine KtP.bp (fun _ => ?_)
    refine KtP.bp (fun _ => ?_)
    refine KtP.cond ?_ ?_
    · refine KtP.bp (fun _ => ?_)
      refine KtP.bp (fun _ => ?_)
      refine KtP.cond ?_ ?_
      · refine KtP.bp (fun _ => ?_)
        refine KtP.bp (fun _ => ?_)
        refine KtP.cond ?_ ?_
        · refine KtP.bp (fun _ => ?_)
          refine KtP.bp (fun _ => ?_)
          refine KtP.cond ?_ ?_
          · refine KtP.bp (fun _ => ?_)
            refine KtP.bp (fun _ => ?_)
            refine KtP.cond ?_ ?_
            · refine KtP.bp (fun _ => ?_)
              refine KtP.d0 L_c_Reader_skipValue (fun _ T9 => ?_)
              refine KtP.bp (fun _ => ?_)
              exact KtP.ret2
            · refine KtP.bp (fun _ => ?_)
              refine KtP.d0 L_c_Reader_readList (fun _ T9 => ?_)
              refine KtP.bp (fun _ => ?_)
              exact KtP.ret2
          · refine KtP.bp (fun _ => ?_)
            refine KtP.d0 L_c_Reader_readList (fun _ T9 => ?_)
            refine KtP.bp (fun _ => ?_)
            exact KtP.ret2
        · refine KtP.bp (fun _ => ?_)
          refine KtP.d0 L_c_Reader_readList (fun _ T9 => ?_)
          refine KtP.bp (fun _ => ?_)
          exact KtP.ret2
      · refine KtP.bp (fun _ => ?_)
        refine KtP.d0 L_c_Reader_expect (fun _ T9 => ?_)
        refine KtP.cond ?_ ?_
        · exact L_c_Reader_readAskedValue_68
        · refine KtP.bp (fun _ => ?_)
          refine KtP.d0 L_c_Reader_readNumber (fun _ T9 => ?_)
          refine KtP.cond ?_ ?_
          · exact L_c_Reader_readAskedValue_68
          · refine KtP.bp (fun _ => ?_)
            refine KtP.d0 L_c_Reader_expect (fun _ T9 => ?_)
            refine KtP.bp (fun _ => ?_)
            refine KtP.bp (fun _ => ?_)
            refine KtP.bp (fun _ => ?_)
            refine KtP.bp (fun _ => ?_)
            refine KtP.b0 (L_tpi (by decide)) (fun T9 => ?_)
            refine KtP.bp (fun _ => ?_)
            exact KtP.ret2
    · refine KtP.bp (fun _ => ?_)
      refine KtP.d0 L_c_Reader_readMatch (fun _ T9 => ?_)
      refine KtP.bp (fun _ => ?_)
      exact KtP.ret2
  · refine KtP.bp (fun _ => ?_)
    refine KtP.d0 L_c_Reader_readRange (fun _ T9 => ?_)
    refine KtP.bp (fun _ => ?_)
    exact KtP.ret2
theorem L_c_Reader_readEnd_31 {F : Nat} {x0 : Nat} {T : tT} : KtP Prod.snd T (D_c_Reader_readEnd_31 F x0 T) := by
  unfold D_c_Reader_readEnd_31
  exact KtP.ret2
theorem L_c_Reader_readEnd {F : Nat} {a0 : Nat} {T : tT} : KtP Prod.snd T (D_c_Reader_readEnd F a0 T) := by
  unfold D_c_Reader_readEnd
  refine KtP.bp (fun _ => ?_)
  refine KtP.d0 L_c_Reader_expect (fun _ T9 => ?_)
  refine KtP.cond ?_ ?_
  · exact KtP.ret2
  · refine KtP.bp (fun _ => ?_)
    refine KtP.bp (fun _ => ?_)
    refine KtP.cond ?_ ?_
    · exact L_c_Reader_readEnd_31
    · refine KtP.bp (fun _ => ?_)
      refine KtP.bp (fun _ => ?_)
      refine KtP.d0 L_c_Reader_no (fun _ T9 => ?_)
      refine KtP.bp (fun _ => ?_)
      refine KtP.bp (fun _ => ?_)
      exact KtP.ret2
theorem L_c_Request_chooseBlocks {F : Nat} {a0 : Nat} {T : tT} : KtP idT T (D_c_Request_chooseBlocks F a0 T) := by
  unfold D_c_Request_chooseBlocks
  refine KtP.bp (fun _ => ?_)
  refine KtP.nc ?_ (fun _ => ?_)
  · exact KtP.ret
  · refine KtP.bp (fun _ => ?_)
    refine KtP.bp (fun _ => ?_)
    refine KtP.bp (fun _ => ?_)
    refine KtP.cond ?_ ?_
    · exact KtP.ret
    · refine KtP.bp (fun _ => ?_)
      refine KtP.bp (fun _ => ?_)
      refine KtP.bp (fun _ => ?_)
      refine KtP.cond ?_ ?_
      · exact KtP.ret
      · refine KtP.bp (fun _ => ?_)
        refine KtP.bp (fun _ => ?_)
        refine KtP.bp (fun _ => ?_)
        refine KtP.b0 (L_tpi (by decide)) (fun T9 => ?_)
        refine KtP.bp (fun _ => ?_)
        refine KtP.bp (fun _ => ?_)
        refine KtP.bp (fun _ => ?_)
        refine KtP.b0 (L_tpi (by decide)) (fun T9 => ?_)
        exact KtP.ret
theorem L_c_Reader_readRequest_135 {F : Nat} {rec87 : Nat → Int32 → Int32 → tT → Option (Option Nat × tT)} {x0 : Nat} {x2 : Int32} {y0 : Int32} {T : tT} (hrec87 : ∀ (y0 : Nat) (y1 : Int32) (y2 : Int32) (T : tT), KtP Prod.snd T (rec87 y0 y1 y2 T)) : KtP Prod.snd T (D_c_Reader_readRequest_135 F rec87 x0 x2 y0 T) := by
  unfold D_c_Reader_readRequest_135
  exact hrec87 _ _ _ _
theorem L_c_Reader_readRequest_134 {F : Nat} {rec87 : Nat → Int32 → Int32 → tT → Option (Option Nat × tT)} {x0 : Nat} {x2 : Int32} {T : tT} (hrec87 : ∀ (y0 : Nat) (y1 : Int32) (y2 : Int32) (T : tT), KtP Prod.snd T (rec87 y0 y1 y2 T)) : KtP Prod.snd T (D_c_Reader_readRequest_134 F rec87 x0 x2 T) := by
  unfold D_c_Reader_readRequest_134
  exact (L_c_Reader_readRequest_135 hrec87)
theorem L_c_Reader_readRequest_153 {F : Nat} {x0 : Nat} {T : tT} : KtP Prod.snd T (D_c_Reader_readRequest_153 F x0 T) := by
  unfold D_c_Reader_readRequest_153
  exact KtP.ret2
theorem L_c_Reader_readRequest_142 {F : Nat} {x0 : Nat} {x1 : Int32} {T : tT} : KtP Prod.snd T (D_c_Reader_readRequest_142 F x0 x1 T) := by
  unfold D_c_Reader_readRequest_142
  refine KtP.cond ?_ ?_
  · exact L_c_Reader_readRequest_153
  · refine KtP.bp (fun _ => ?_)
    refine KtP.d0 L_c_Reader_readEnd (fun _ T9 => ?_)
    refine KtP.cond ?_ ?_
    · refine KtP.bp (fun _ => ?_)
      refine KtP.bp (fun _ => ?_)
      refine KtP.bp (fun _ => ?_)
      refine KtP.b0 (L_tpi (by decide)) (fun T9 => ?_)
      refine KtP.bp (fun _ => ?_)
      refine KtP.bp (fun _ => ?_)
      refine KtP.bp (fun _ => ?_)
      refine KtP.b0 (L_tpi (by decide)) (fun T9 => ?_)
      refine KtP.bp (fun _ => ?_)
      refine KtP.bp (fun _ => ?_)
      refine KtP.bp (fun _ => ?_)
      refine KtP.bp (fun _ => ?_)
      refine KtP.b0 (L_tpi (by decide)) (fun T9 => ?_)
      refine KtP.bp (fun _ => ?_)
      refine KtP.bp (fun _ => ?_)
      refine KtP.bp (fun _ => ?_)
      refine KtP.b0 (L_tpr (by decide)) (fun T9 => ?_)
      refine KtP.bp (fun _ => ?_)
      refine KtP.bp (fun _ => ?_)
      refine KtP.bp (fun _ => ?_)
      refine KtP.b0 L_c_Request_chooseBlocks (fun T9 => ?_)
      refine KtP.bp (fun _ => ?_)
      exact KtP.ret2
    · exact L_c_Reader_readRequest_153
theorem L_c_Reader_readRequest_87 {F : Nat} : ∀ (n : Nat) (y0 : Nat) (y1 : Int32) (y2 : Int32) (T : tT), KtP Prod.snd T (D_c_Reader_readRequest_87 F n y0 y1 y2 T) := by
  intro n
  induction n with
  | zero => intros; exact KtP.none
  | succ n ih =>
    intros
    unfold D_c_Reader_readRequest_87
    refine KtP.cond ?_ ?_
    · exact L_c_Reader_readRequest_142
    · refine KtP.cond ?_ ?_
      · exact L_c_Reader_readRequest_142
      · refine KtP.bp (fun _ => ?_)
        refine KtP.bp (fun _ => ?_)
        refine KtP.cond ?_ ?_
        · exact L_c_Reader_readRequest_142
        · refine KtP.bp (fun _ => ?_)
          refine KtP.d0 L_c_Reader_readName (fun _ T9 => ?_)
          refine KtP.cond ?_ ?_
          · exact (L_c_Reader_readRequest_134 ih)
          · refine KtP.bp (fun _ => ?_)
            refine KtP.d0 L_c_Reader_readAskedValue (fun _ T9 => ?_)
            refine KtP.cond ?_ ?_
            · exact (L_c_Reader_readRequest_134 ih)
            · refine KtP.bp (fun _ => ?_)
              refine KtP.d0 L_c_Reader_expect (fun _ T9 => ?_)
              refine KtP.bp (fun _ => ?_)
              exact ih _ _ _ _
theorem L_c_Reader_readRequest_84 {F : Nat} {x0 : Nat} {y0 : Int32} {T : tT} : KtP Prod.snd T (D_c_Reader_readRequest_84 F x0 y0 T) := by
  unfold D_c_Reader_readRequest_84
  exact (L_c_Reader_readRequest_87 _ _ _ _ _)
theorem L_c_Reader_readRequest_83 {F : Nat} {x0 : Nat} {T : tT} : KtP Prod.snd T (D_c_Reader_readRequest_83 F x0 T) := by
  unfold D_c_Reader_readRequest_83
  exact L_c_Reader_readRequest_84
theorem L_c_Reader_readRequest_65 {F : Nat} {x0 : Nat} {y0 : Nat} {y1 : Option Nat} {T : tT} : KtP Prod.snd T (D_c_Reader_readRequest_65 F x0 y0 y1 T) := by
  unfold D_c_Reader_readRequest_65
  refine KtP.bp (fun _ => ?_)
  refine KtP.bp (fun _ => ?_)
  refine KtP.d0 L_c_Reader_expectText (fun _ T9 => ?_)
  refine KtP.cond ?_ ?_
  · exact L_c_Reader_readRequest_83
  · refine KtP.bp (fun _ => ?_)
    refine KtP.d0 L_c_Reader_readTarget (fun _ T9 => ?_)
    refine KtP.bp (fun _ => ?_)
    exact (L_c_Reader_readRequest_87 _ _ _ _ _)
theorem L_c_Reader_readRequest {F : Nat} {a0 : Nat} {T : tT} : KtP Prod.snd T (D_c_Reader_readRequest F a0 T) := by
  unfold D_c_Reader_readRequest
  refine KtP.bp (fun _ => ?_)
  refine KtP.b0 L_c_Reader_begin (fun T9 => ?_)
  refine KtP.d0 (L_tnw (by decide)) (fun _ T9 => ?_)
  refine KtP.b0 L_c_Request_init (fun T9 => ?_)
  refine KtP.b0 (L_tpr (by decide)) (fun T9 => ?_)
  refine KtP.d0 (L_tnw (by decide)) (fun _ T9 => ?_)
  refine KtP.b0 L_c_Conditions_init (fun T9 => ?_)
  refine KtP.b0 (L_tpr (by decide)) (fun T9 => ?_)
  refine KtP.bp (fun _ => ?_)
  refine KtP.bp (fun _ => ?_)
  refine KtP.bp (fun _ => ?_)
  refine KtP.bp (fun _ => ?_)
  refine KtP.bp (fun _ => ?_)
  refine KtP.b0 (L_tpz (by decide)) (fun T9 => ?_)
  refine KtP.bp (fun _ => ?_)
  refine KtP.bp (fun _ => ?_)
  refine KtP.bp (fun _ => ?_)
  refine KtP.cond ?_ ?_
  · exact L_c_Reader_readRequest_65
  · exact L_c_Reader_readRequest_65
theorem L_c_Reader_empty {F : Nat} {a0 : Nat} {T : tT} : KtP idT T (D_c_Reader_empty F a0 T) := by
  unfold D_c_Reader_empty
  refine KtP.b0 (L_tpi (by decide)) (fun T9 => ?_)
  exact KtP.ret
theorem L_c_Reply_init {F : Nat} {a0 : Nat} {T : tT} : KtP idT T (D_c_Reply_init F a0 T) := by
  unfold D_c_Reply_init
  refine KtP.b0 (L_tpr (by decide)) (fun T9 => ?_)
  exact KtP.ret
theorem L_c_EdgeHouse_close {F : Nat} {a0 : Nat} {p0 : Option Nat} {p1 : Int32} {T : tT} : KtP idT T (D_c_EdgeHouse_close F a0 p0 p1 T) := by
  unfold D_c_EdgeHouse_close
  refine KtP.bp (fun _ => ?_)
  refine KtP.b0 (L_tpi (by decide)) (fun T9 => ?_)
  refine KtP.bp (fun _ => ?_)
  refine KtP.b0 (L_tpi (by decide)) (fun T9 => ?_)
  refine KtP.bp (fun _ => ?_)
  refine KtP.b0 (L_tpi (by decide)) (fun T9 => ?_)
  exact KtP.ret
theorem L_c_Store_remove {F : Nat} {a0 : Nat} {p0 : Option Nat} {T : tT} : KtP idT T (D_c_Store_remove F a0 p0 T) := by
  unfold D_c_Store_remove
  refine KtP.bp (fun _ => ?_)
  refine KtP.bp (fun _ => ?_)
  refine KtP.cond ?_ ?_
  · refine KtP.bp (fun _ => ?_)
    refine KtP.bp (fun _ => ?_)
    refine KtP.cond ?_ ?_
    · refine KtP.bp (fun _ => ?_)
      refine KtP.bp (fun _ => ?_)
      refine KtP.d0 L_tlr (fun _ T9 => ?_)
      exact KtP.ret
    · refine KtP.bp (fun _ => ?_)
      refine KtP.bp (fun _ => ?_)
      refine KtP.d0 L_tlr (fun _ T9 => ?_)
      exact KtP.ret
  · exact KtP.ret
theorem L_c_Store_balance_126 {F : Nat} {rec76 : Nat → Int32 → tT → Option (tT)} {x0 : Nat} {x2 : Int32} {y0 : Option Nat} {T : tT} (hrec76 : ∀ (y0 : Nat) (y1 : Int32) (T : tT), KtP idT T (rec76 y0 y1 T)) : KtP idT T (D_c_Store_balance_126 F rec76 x0 x2 y0 T) := by
  unfold D_c_Store_balance_126
  refine KtP.bp (fun _ => ?_)
  refine KtP.bp (fun _ => ?_)
  refine KtP.bp (fun _ => ?_)
  exact hrec76 _ _ _
theorem L_c_Store_balance_76 {F : Nat} : ∀ (n : Nat) (y0 : Nat) (y1 : Int32) (T : tT), KtP idT T (D_c_Store_balance_76 F n y0 y1 T) := by
  intro n
  induction n with
  | zero => intros; exact KtP.none
  | succ n ih =>
    intros
    unfold D_c_Store_balance_76
    refine KtP.bp (fun _ => ?_)
    refine KtP.bp (fun _ => ?_)
    refine KtP.cond ?_ ?_
    · exact KtP.ret
    · refine KtP.bp (fun _ => ?_)
      refine KtP.cond ?_ ?_
      · exact KtP.ret
      · refine KtP.bp (fun _ => ?_)
        refine KtP.bp (fun _ => ?_)
        refine KtP.bp (fun _ => ?_)
        refine KtP.cond ?_ ?_
        · refine KtP.bp (fun _ => ?_)
          refine KtP.bp (fun _ => ?_)
          refine KtP.d0 L_tlr (fun _ T9 => ?_)
          refine KtP.bp (fun _ => ?_)
          exact (L_c_Store_balance_126 ih)
        · refine KtP.bp (fun _ => ?_)
          refine KtP.bp (fun _ => ?_)
          refine KtP.d0 L_tlr (fun _ T9 => ?_)
          refine KtP.bp (fun _ => ?_)
          exact (L_c_Store_balance_126 ih)
theorem L_c_Store_balance_20 {F : Nat} : ∀ (n : Nat) (y0 : Nat) (y1 : Int32) (y2 : Int32) (T : tT), KtP idT T (D_c_Store_balance_20 F n y0 y1 y2 T) := by
  intro n
  induction n with
  | zero => intros; exact KtP.none
  | succ n ih =>
    intros
    unfold D_c_Store_balance_20
    refine KtP.bp (fun _ => ?_)
    refine KtP.bp (fun _ => ?_)
    refine KtP.bp (fun _ => ?_)
    refine KtP.cond ?_ ?_
    · exact (L_c_Store_balance_76 _ _ _ _)
    · refine KtP.bp (fun _ => ?_)
      refine KtP.cond ?_ ?_
      · exact (L_c_Store_balance_76 _ _ _ _)
      · refine KtP.bp (fun _ => ?_)
        refine KtP.bp (fun _ => ?_)
        refine KtP.d0 L_tlr (fun _ T9 => ?_)
        refine KtP.bp (fun _ => ?_)
        refine KtP.bp (fun _ => ?_)
        refine KtP.bp (fun _ => ?_)
        refine KtP.b0 (L_tpz (by decide)) (fun T9 => ?_)
        refine KtP.bp (fun _ => ?_)
        refine KtP.bp (fun _ => ?_)
        refine KtP.b0 L_tla (fun T9 => ?_)
        exact ih _ _ _ _
theorem L_c_Store_balance {F : Nat} {a0 : Nat} {T : tT} : KtP idT T (D_c_Store_balance F a0 T) := by
  unfold D_c_Store_balance
  refine KtP.bp (fun _ => ?_)
  refine KtP.bp (fun _ => ?_)
  refine KtP.bp (fun _ => ?_)
  refine KtP.bp (fun _ => ?_)
  refine KtP.bp (fun _ => ?_)
  refine KtP.bp (fun _ => ?_)
  exact (L_c_Store_balance_20 _ _ _ _ _)
theorem L_c_Store_use {F : Nat} {a0 : Nat} {p0 : Option Nat} {T : tT} : KtP idT T (D_c_Store_use F a0 p0 T) := by
  unfold D_c_Store_use
  refine KtP.bp (fun _ => ?_)
  refine KtP.b0 L_c_Store_remove (fun T9 => ?_)
  refine KtP.bp (fun _ => ?_)
  refine KtP.b0 (L_tpz (by decide)) (fun T9 => ?_)
  refine KtP.bp (fun _ => ?_)
  refine KtP.bp (fun _ => ?_)
  refine KtP.b0 L_tla (fun T9 => ?_)
  refine KtP.bp (fun _ => ?_)
  refine KtP.b0 L_c_Store_balance (fun T9 => ?_)
  exact KtP.ret
theorem L_c_Message_init {F : Nat} {a0 : Nat} {p0 : Int32} {p1 : Int32} {p2 : Int32} {p3 : Int32} {T : tT} : KtP idT T (D_c_Message_init F a0 p0 p1 p2 p3 T) := by
  unfold D_c_Message_init
  refine KtP.b0 (L_tpi (by decide)) (fun T9 => ?_)
  refine KtP.b0 (L_tpi (by decide)) (fun T9 => ?_)
  refine KtP.b0 (L_tpi (by decide)) (fun T9 => ?_)
  refine KtP.b0 (L_tpi (by decide)) (fun T9 => ?_)
  exact KtP.ret
theorem L_c_EdgeHouse_send {F : Nat} {a0 : Nat} {p0 : Option Nat} {T : tT} : KtP idT T (D_c_EdgeHouse_send F a0 p0 T) := by
  unfold D_c_EdgeHouse_send
  refine KtP.bp (fun _ => ?_)
  refine KtP.bp (fun _ => ?_)
  refine KtP.bp (fun _ => ?_)
  refine KtP.cond ?_ ?_
  · refine KtP.bp (fun _ => ?_)
    refine KtP.bp (fun _ => ?_)
    refine KtP.b0 (L_tpi (by decide)) (fun T9 => ?_)
    refine KtP.bp (fun _ => ?_)
    refine KtP.bp (fun _ => ?_)
    refine KtP.b0 L_tla (fun T9 => ?_)
    exact KtP.ret
  · refine KtP.bp (fun _ => ?_)
    refine KtP.b0 (L_tpi (by decide)) (fun T9 => ?_)
    exact KtP.ret
theorem L_c_EdgeHouse_sendFill {F : Nat} {a0 : Nat} {p0 : Int32} {p1 : Option Nat} {p2 : Option Nat} {T : tT} : KtP idT T (D_c_EdgeHouse_sendFill F a0 p0 p1 p2 T) := by
  unfold D_c_EdgeHouse_sendFill
  refine KtP.bp (fun _ => ?_)
  refine KtP.bp (fun _ => ?_)
  refine KtP.bp (fun _ => ?_)
  refine KtP.bp (fun _ => ?_)
  refine KtP.bp (fun _ => ?_)
  refine KtP.bp (fun _ => ?_)
  refine KtP.bp (fun _ => ?_)
  refine KtP.d0 (L_tnw (by decide)) (fun _ T9 => ?_)
  refine KtP.bp (fun _ => ?_)
  refine KtP.bp (fun _ => ?_)
  refine KtP.b0 L_c_Message_init (fun T9 => ?_)
  refine KtP.bp (fun _ => ?_)
  refine KtP.b0 (L_tpi (by decide)) (fun T9 => ?_)
  refine KtP.bp (fun _ => ?_)
  refine KtP.b0 (L_tpi (by decide)) (fun T9 => ?_)
  refine KtP.bp (fun _ => ?_)
  refine KtP.b0 (L_tpi (by decide)) (fun T9 => ?_)
  refine KtP.bp (fun _ => ?_)
  refine KtP.b0 (L_tpr (by decide)) (fun T9 => ?_)
  refine KtP.bp (fun _ => ?_)
  refine KtP.b0 (L_tpi (by decide)) (fun T9 => ?_)
  refine KtP.bp (fun _ => ?_)
  refine KtP.b0 (L_tpi (by decide)) (fun T9 => ?_)
  refine KtP.bp (fun _ => ?_)
  refine KtP.bp (fun _ => ?_)
  refine KtP.bp (fun _ => ?_)
  refine KtP.b0 (L_tpi (by decide)) (fun T9 => ?_)
  refine KtP.bp (fun _ => ?_)
  refine KtP.b0 (L_tpi (by decide)) (fun T9 => ?_)
  refine KtP.bp (fun _ => ?_)
  refine KtP.b0 L_c_EdgeHouse_send (fun T9 => ?_)
  exact KtP.ret
theorem L_c_Reply_fillFrom_170 {F : Nat} {x0 : Nat} {x4 : Int32} {x5 : Int32} {T : tT} : KtP idT T (D_c_Reply_fillFrom_170 F x0 x4 x5 T) := by
  unfold D_c_Reply_fillFrom_170
  refine KtP.bp (fun _ => ?_)
  refine KtP.b0 (L_tpi (by decide)) (fun T9 => ?_)
  refine KtP.b0 (L_tpi (by decide)) (fun T9 => ?_)
  exact KtP.ret
theorem L_c_Reply_fillFrom {F : Nat} {a0 : Nat} {p0 : Option Nat} {p1 : Option Nat} {T : tT} : KtP idT T (D_c_Reply_fillFrom F a0 p0 p1 T) := by
  unfold D_c_Reply_fillFrom
  refine KtP.bp (fun _ => ?_)
  refine KtP.bp (fun _ => ?_)
  refine KtP.bp (fun _ => ?_)
  refine KtP.bp (fun _ => ?_)
  refine KtP.bp (fun _ => ?_)
  refine KtP.b0 (L_tpz (by decide)) (fun T9 => ?_)
  refine KtP.bp (fun _ => ?_)
  refine KtP.bp (fun _ => ?_)
  refine KtP.bp (fun _ => ?_)
  refine KtP.b0 (L_tpi (by decide)) (fun T9 => ?_)
  refine KtP.bp (fun _ => ?_)
  refine KtP.b0 (L_tpi (by decide)) (fun T9 => ?_)
  refine KtP.bp (fun _ => ?_)
  refine KtP.bp (fun _ => ?_)
  refine KtP.bp (fun _ => ?_)
  refine KtP.b0 (L_tpi (by decide)) (fun T9 => ?_)
  refine KtP.bp (fun _ => ?_)
  refine KtP.bp (fun _ => ?_)
  refine KtP.bp (fun _ => ?_)
  refine KtP.b0 (L_tpi (by decide)) (fun T9 => ?_)
  refine KtP.bp (fun _ => ?_)
  refine KtP.bp (fun _ => ?_)
  refine KtP.bp (fun _ => ?_)
  refine KtP.bp (fun _ => ?_)
  refine KtP.b0 (L_tpi (by decide)) (fun T9 => ?_)
  refine KtP.bp (fun _ => ?_)
  refine KtP.bp (fun _ => ?_)
  refine KtP.bp (fun _ => ?_)
  refine KtP.bp (fun _ => ?_)
  refine KtP.bp (fun _ => ?_)
  refine KtP.b0 (L_tpi (by decide)) (fun T9 => ?_)
  refine KtP.bp (fun _ => ?_)
  refine KtP.bp (fun _ => ?_)
  refine KtP.bp (fun _ => ?_)
  refine KtP.bp (fun _ => ?_)
  refine KtP.bp (fun _ => ?_)
  refine KtP.bp (fun _ => ?_)
  refine KtP.cond ?_ ?_
  · refine KtP.cond ?_ ?_
    · exact L_c_Reply_fillFrom_170
    · refine KtP.cond ?_ ?_
      · exact L_c_Reply_fillFrom_170
      · refine KtP.b0 (L_tpi (by decide)) (fun T9 => ?_)
        exact KtP.ret
  · refine KtP.b0 (L_tpi (by decide)) (fun T9 => ?_)
    exact KtP.ret
theorem L_c_EdgeHouse_serve_14 {F : Nat} {x0 : Nat} {x1 : Option Nat} {x2 : Option Nat} {x3 : Option Nat} {T : tT} : KtP idT T (D_c_EdgeHouse_serve_14 F x0 x1 x2 x3 T) := by
  unfold D_c_EdgeHouse_serve_14
  refine KtP.bp (fun _ => ?_)
  refine KtP.bp (fun _ => ?_)
  refine KtP.bp (fun _ => ?_)
  refine KtP.b0 L_c_EdgeHouse_sendFill (fun T9 => ?_)
  exact KtP.ret
theorem L_c_EdgeHouse_serve {F : Nat} {a0 : Nat} {p0 : Option Nat} {p1 : Option Nat} {p2 : Option Nat} {p3 : Int32} {T : tT} : KtP idT T (D_c_EdgeHouse_serve F a0 p0 p1 p2 p3 T) := by
  unfold D_c_EdgeHouse_serve
  refine KtP.bp (fun _ => ?_)
  refine KtP.bp (fun _ => ?_)
  refine KtP.nc ?_ (fun _ => ?_)
  · exact L_c_EdgeHouse_serve_14
  · refine KtP.bp (fun _ => ?_)
    refine KtP.nc ?_ (fun _ => ?_)
    · exact L_c_EdgeHouse_serve_14
    · refine KtP.bp (fun _ => ?_)
      refine KtP.bp (fun _ => ?_)
      refine KtP.b0 (L_tpi (by decide)) (fun T9 => ?_)
      refine KtP.bp (fun _ => ?_)
      refine KtP.bp (fun _ => ?_)
      refine KtP.bp (fun _ => ?_)
      refine KtP.bp (fun _ => ?_)
      refine KtP.bp (fun _ => ?_)
      refine KtP.bp (fun _ => ?_)
      refine KtP.b0 (L_tpi (by decide)) (fun T9 => ?_)
      refine KtP.bp (fun _ => ?_)
      refine KtP.bp (fun _ => ?_)
      refine KtP.bp (fun _ => ?_)
      refine KtP.bp (fun _ => ?_)
      refine KtP.b0 L_c_Reply_fillFrom (fun T9 => ?_)
      refine KtP.bp (fun _ => ?_)
      refine KtP.bp (fun _ => ?_)
      refine KtP.bp (fun _ => ?_)
      refine KtP.bp (fun _ => ?_)
      refine KtP.bp (fun _ => ?_)
      refine KtP.b0 L_c_EdgeHouse_close (fun T9 => ?_)
      exact KtP.ret
theorem L_c_Fetch_init {F : Nat} {a0 : Nat} {p0 : Option Nat} {T : tT} : KtP idT T (D_c_Fetch_init F a0 p0 T) := by
  unfold D_c_Fetch_init
  refine KtP.bp (fun _ => ?_)
  refine KtP.bp (fun _ => ?_)
  refine KtP.b0 (L_tpi (by decide)) (fun T9 => ?_)
  refine KtP.bp (fun _ => ?_)
  refine KtP.b0 (L_tpi (by decide)) (fun T9 => ?_)
  refine KtP.bp (fun _ => ?_)
  refine KtP.b0 (L_tpi (by decide)) (fun T9 => ?_)
  refine KtP.bp (fun _ => ?_)
  refine KtP.b0 (L_tpi (by decide)) (fun T9 => ?_)
  refine KtP.bp (fun _ => ?_)
  refine KtP.b0 (L_tpz (by decide)) (fun T9 => ?_)
  refine KtP.bp (fun _ => ?_)
  refine KtP.b0 (L_tpi (by decide)) (fun T9 => ?_)
  refine KtP.bp (fun _ => ?_)
  refine KtP.b0 (L_tpi (by decide)) (fun T9 => ?_)
  exact KtP.ret
theorem L_c_Message_copyFetch {F : Nat} {a0 : Nat} {p0 : Option Nat} {T : tT} : KtP idT T (D_c_Message_copyFetch F a0 p0 T) := by
  unfold D_c_Message_copyFetch
  refine KtP.bp (fun _ => ?_)
  refine KtP.bp (fun _ => ?_)
  refine KtP.b0 (L_tpi (by decide)) (fun T9 => ?_)
  refine KtP.bp (fun _ => ?_)
  refine KtP.b0 (L_tpi (by decide)) (fun T9 => ?_)
  refine KtP.bp (fun _ => ?_)
  refine KtP.b0 (L_tpi (by decide)) (fun T9 => ?_)
  refine KtP.bp (fun _ => ?_)
  refine KtP.b0 (L_tpi (by decide)) (fun T9 => ?_)
  refine KtP.bp (fun _ => ?_)
  refine KtP.b0 (L_tpi (by decide)) (fun T9 => ?_)
  refine KtP.bp (fun _ => ?_)
  refine KtP.b0 (L_tpi (by decide)) (fun T9 => ?_)
  refine KtP.bp (fun _ => ?_)
  refine KtP.b0 (L_tpz (by decide)) (fun T9 => ?_)
  refine KtP.bp (fun _ => ?_)
  refine KtP.b0 (L_tpi (by decide)) (fun T9 => ?_)
  exact KtP.ret
theorem L_c_EdgeHouse_sendFetch_28 {F : Nat} {x0 : Nat} {x1 : Option Nat} {x2 : Option Nat} {x3 : Int32} {T : tT} : KtP Prod.snd T (D_c_EdgeHouse_sendFetch_28 F x0 x1 x2 x3 T) := by
  unfold D_c_EdgeHouse_sendFetch_28
  refine KtP.cond ?_ ?_
  · refine KtP.bp (fun _ => ?_)
    refine KtP.bp (fun _ => ?_)
    refine KtP.b0 (L_tpi (by decide)) (fun T9 => ?_)
    refine KtP.bp (fun _ => ?_)
    refine KtP.bp (fun _ => ?_)
    refine KtP.b0 (L_tpi (by decide)) (fun T9 => ?_)
    refine KtP.b0 (L_tpi (by decide)) (fun T9 => ?_)
    refine KtP.bp (fun _ => ?_)
    refine KtP.b0 (L_tpi (by decide)) (fun T9 => ?_)
    refine KtP.bp (fun _ => ?_)
    refine KtP.b0 (L_tpi (by decide)) (fun T9 => ?_)
    refine KtP.bp (fun _ => ?_)
    refine KtP.bp (fun _ => ?_)
    refine KtP.b0 L_tla (fun T9 => ?_)
    refine KtP.d0 (L_tnw (by decide)) (fun _ T9 => ?_)
    refine KtP.bp (fun _ => ?_)
    refine KtP.bp (fun _ => ?_)
    refine KtP.b0 L_c_Message_init (fun T9 => ?_)
    refine KtP.bp (fun _ => ?_)
    refine KtP.b0 L_c_Message_copyFetch (fun T9 => ?_)
    refine KtP.bp (fun _ => ?_)
    refine KtP.bp (fun _ => ?_)
    refine KtP.bp (fun _ => ?_)
    refine KtP.bp (fun _ => ?_)
    refine KtP.b0 (L_tpi (by decide)) (fun T9 => ?_)
    refine KtP.bp (fun _ => ?_)
    refine KtP.b0 L_c_EdgeHouse_send (fun T9 => ?_)
    exact KtP.ret2
  · exact KtP.ret2
theorem L_c_EdgeHouse_sendFetch {F : Nat} {a0 : Nat} {p0 : Option Nat} {p1 : Option Nat} {T : tT} : KtP Prod.snd T (D_c_EdgeHouse_sendFetch F a0 p0 p1 T) := by
  unfold D_c_EdgeHouse_sendFetch
  refine KtP.bp (fun _ => ?_)
  refine KtP.bp (fun _ => ?_)
  refine KtP.bp (fun _ => ?_)
  refine KtP.cond ?_ ?_
  · exact L_c_EdgeHouse_sendFetch_28
  · refine KtP.bp (fun _ => ?_)
    refine KtP.bp (fun _ => ?_)
    refine KtP.bp (fun _ => ?_)
    refine KtP.bp (fun _ => ?_)
    refine KtP.bp (fun _ => ?_)
    exact L_c_EdgeHouse_sendFetch_28
theorem L_c_EdgeHouse_sendStatus {F : Nat} {a0 : Nat} {p0 : Int32} {p1 : Option Nat} {p2 : Int32} {T : tT} : KtP idT T (D_c_EdgeHouse_sendStatus F a0 p0 p1 p2 T) := by
  unfold D_c_EdgeHouse_sendStatus
  refine KtP.d0 (L_tnw (by decide)) (fun _ T9 => ?_)
  refine KtP.bp (fun _ => ?_)
  refine KtP.bp (fun _ => ?_)
  refine KtP.bp (fun _ => ?_)
  refine KtP.b0 L_c_Message_init (fun T9 => ?_)
  refine KtP.bp (fun _ => ?_)
  refine KtP.b0 (L_tpi (by decide)) (fun T9 => ?_)
  refine KtP.bp (fun _ => ?_)
  refine KtP.b0 (L_tpi (by decide)) (fun T9 => ?_)
  refine KtP.b0 (L_tpi (by decide)) (fun T9 => ?_)
  refine KtP.bp (fun _ => ?_)
  refine KtP.b0 L_c_EdgeHouse_send (fun T9 => ?_)
  exact KtP.ret
theorem L_c_EdgeHouse_endAll_40 {F : Nat} {rec3 : Nat → Option Nat → Int32 → Option Nat → tT → Option (tT)} {x0 : Nat} {x1 : Option Nat} {x3 : Int32} {x4 : Option Nat} {T : tT} (hrec3 : ∀ (y0 : Nat) (y1 : Option Nat) (y2 : Int32) (y3 : Option Nat) (T : tT), KtP idT T (rec3 y0 y1 y2 y3 T)) : KtP idT T (D_c_EdgeHouse_endAll_40 F rec3 x0 x1 x3 x4 T) := by
  unfold D_c_EdgeHouse_endAll_40
  refine KtP.bp (fun _ => ?_)
  refine KtP.bp (fun _ => ?_)
  exact hrec3 _ _ _ _ _
theorem L_c_EdgeHouse_endAll_3 {F : Nat} : ∀ (n : Nat) (y0 : Nat) (y1 : Option Nat) (y2 : Int32) (y3 : Option Nat) (T : tT), KtP idT T (D_c_EdgeHouse_endAll_3 F n y0 y1 y2 y3 T) := by
  intro n
  induction n with
  | zero => intros; exact KtP.none
  | succ n ih =>
    intros
    unfold D_c_EdgeHouse_endAll_3
    refine KtP.nc ?_ (fun _ => ?_)
    · exact KtP.ret
    · refine KtP.bp (fun _ => ?_)
      refine KtP.nc ?_ (fun _ => ?_)
      · refine KtP.bp (fun _ => ?_)
        refine KtP.bp (fun _ => ?_)
        refine KtP.bp (fun _ => ?_)
        refine KtP.b0 L_c_EdgeHouse_sendStatus (fun T9 => ?_)
        exact (L_c_EdgeHouse_endAll_40 ih)
      · refine KtP.bp (fun _ => ?_)
        refine KtP.bp (fun _ => ?_)
        refine KtP.b0 L_c_EdgeHouse_close (fun T9 => ?_)
        exact (L_c_EdgeHouse_endAll_40 ih)
theorem L_c_EdgeHouse_endAll {F : Nat} {a0 : Nat} {p0 : Option Nat} {p1 : Option Nat} {p2 : Int32} {T : tT} : KtP idT T (D_c_EdgeHouse_endAll F a0 p0 p1 p2 T) := by
  unfold D_c_EdgeHouse_endAll
  exact (L_c_EdgeHouse_endAll_3 _ _ _ _ _ _)
theorem L_c_Fetch_join_28 {F : Nat} {x0 : Nat} {x1 : Option Nat} {T : tT} : KtP idT T (D_c_Fetch_join_28 F x0 x1 T) := by
  unfold D_c_Fetch_join_28
  refine KtP.b0 (L_tpr (by decide)) (fun T9 => ?_)
  refine KtP.bp (fun _ => ?_)
  refine KtP.b0 (L_tpi (by decide)) (fun T9 => ?_)
  exact KtP.ret
theorem L_c_Fetch_join {F : Nat} {a0 : Nat} {p0 : Option Nat} {T : tT} : KtP idT T (D_c_Fetch_join F a0 p0 T) := by
  unfold D_c_Fetch_join
  refine KtP.bp (fun _ => ?_)
  refine KtP.b0 (L_tpr (by decide)) (fun T9 => ?_)
  refine KtP.bp (fun _ => ?_)
  refine KtP.nc ?_ (fun _ => ?_)
  · refine KtP.b0 (L_tpr (by decide)) (fun T9 => ?_)
    exact L_c_Fetch_join_28
  · refine KtP.bp (fun _ => ?_)
    refine KtP.bp (fun _ => ?_)
    refine KtP.b0 (L_tpr (by decide)) (fun T9 => ?_)
    exact L_c_Fetch_join_28
theorem L_c_EdgeHouse_letWait_72 {F : Nat} {x0 : Nat} {x2 : Option Nat} {x5 : Option Nat} {T : tT} : KtP Prod.snd T (D_c_EdgeHouse_letWait_72 F x0 x2 x5 T) := by
  unfold D_c_EdgeHouse_letWait_72
  refine KtP.bp (fun _ => ?_)
  refine KtP.bp (fun _ => ?_)
  refine KtP.b0 L_c_Fetch_join (fun T9 => ?_)
  exact KtP.ret2
theorem L_c_EdgeHouse_letWait {F : Nat} {a0 : Nat} {p0 : Option Nat} {p1 : Option Nat} {p2 : Int32} {T : tT} : KtP Prod.snd T (D_c_EdgeHouse_letWait F a0 p0 p1 p2 T) := by
  unfold D_c_EdgeHouse_letWait
  refine KtP.bp (fun _ => ?_)
  refine KtP.bp (fun _ => ?_)
  refine KtP.bp (fun _ => ?_)
  refine KtP.bp (fun _ => ?_)
  refine KtP.bp (fun _ => ?_)
  refine KtP.bp (fun _ => ?_)
  refine KtP.nc ?_ (fun _ => ?_)
  · refine KtP.bp (fun _ => ?_)
    refine KtP.b0 (L_tpi (by decide)) (fun T9 => ?_)
    refine KtP.d0 (L_tnw (by decide)) (fun _ T9 => ?_)
    refine KtP.b0 L_c_Fetch_init (fun T9 => ?_)
    refine KtP.cond ?_ ?_
    · exact L_c_EdgeHouse_letWait_72
    · refine KtP.bp (fun _ => ?_)
      refine KtP.b0 (L_tpi (by decide)) (fun T9 => ?_)
      refine KtP.bp (fun _ => ?_)
      refine KtP.b0 (L_tpi (by decide)) (fun T9 => ?_)
      exact L_c_EdgeHouse_letWait_72
  · refine KtP.bp (fun _ => ?_)
    refine KtP.b0 L_c_Fetch_join (fun T9 => ?_)
    exact KtP.ret2
theorem L_c_EdgeHouse_failAll_95 {F : Nat} {rec2 : Nat → Option Nat → Option Nat → tT → Option (tT)} {x0 : Nat} {x1 : Option Nat} {x3 : Option Nat} {T : tT} (hrec2 : ∀ (y0 : Nat) (y1 : Option Nat) (y2 : Option Nat) (T : tT), KtP idT T (rec2 y0 y1 y2 T)) : KtP idT T (D_c_EdgeHouse_failAll_95 F rec2 x0 x1 x3 T) := by
  unfold D_c_EdgeHouse_failAll_95
  refine KtP.bp (fun _ => ?_)
  refine KtP.bp (fun _ => ?_)
  exact hrec2 _ _ _ _
theorem L_c_EdgeHouse_failAll_62 {F : Nat} {rec2 : Nat → Option Nat → Option Nat → tT → Option (tT)} {x0 : Nat} {x1 : Option Nat} {x3 : Option Nat} {T : tT} (hrec2 : ∀ (y0 : Nat) (y1 : Option Nat) (y2 : Option Nat) (T : tT), KtP idT T (rec2 y0 y1 y2 T)) : KtP idT T (D_c_EdgeHouse_failAll_62 F rec2 x0 x1 x3 T) := by
  unfold D_c_EdgeHouse_failAll_62
  refine KtP.bp (fun _ => ?_)
  refine KtP.bp (fun _ => ?_)
  refine KtP.nc ?_ (fun _ => ?_)
  · refine KtP.bp (fun _ => ?_)
    refine KtP.bp (fun _ => ?_)
    refine KtP.bp (fun _ => ?_)
    refine KtP.b0 L_c_EdgeHouse_sendStatus (fun T9 => ?_)
    exact (L_c_EdgeHouse_failAll_95 hrec2)
  · refine KtP.bp (fun _ => ?_)
    refine KtP.bp (fun _ => ?_)
    refine KtP.b0 L_c_EdgeHouse_close (fun T9 => ?_)
    exact (L_c_EdgeHouse_failAll_95 hrec2)
theorem L_c_EdgeHouse_failAll_2 {F : Nat} : ∀ (n : Nat) (y0 : Nat) (y1 : Option Nat) (y2 : Option Nat) (T : tT), KtP idT T (D_c_EdgeHouse_failAll_2 F n y0 y1 y2 T) := by
  intro n
  induction n with
  | zero => intros; exact KtP.none
  | succ n ih =>
    intros
    unfold D_c_EdgeHouse_failAll_2
    refine KtP.nc ?_ (fun _ => ?_)
    · exact KtP.ret
    · refine KtP.bp (fun _ => ?_)
      refine KtP.bp (fun _ => ?_)
      refine KtP.bp (fun _ => ?_)
      refine KtP.bp (fun _ => ?_)
      refine KtP.bp (fun _ => ?_)
      refine KtP.nc ?_ (fun _ => ?_)
      · exact (L_c_EdgeHouse_failAll_62 ih)
      · refine KtP.bp (fun _ => ?_)
        refine KtP.bp (fun _ => ?_)
        refine KtP.cond ?_ ?_
        · exact (L_c_EdgeHouse_failAll_62 ih)
        · refine KtP.bp (fun _ => ?_)
          refine KtP.bp (fun _ => ?_)
          refine KtP.bp (fun _ => ?_)
          refine KtP.bp (fun _ => ?_)
          refine KtP.bp (fun _ => ?_)
          refine KtP.bp (fun _ => ?_)
          refine KtP.bp (fun _ => ?_)
          refine KtP.cond ?_ ?_
          · exact (L_c_EdgeHouse_failAll_62 ih)
          · refine KtP.bp (fun _ => ?_)
            refine KtP.b0 L_c_EdgeHouse_serve (fun T9 => ?_)
            exact (L_c_EdgeHouse_failAll_95 ih)
theorem L_c_EdgeHouse_failAll {F : Nat} {a0 : Nat} {p0 : Option Nat} {p1 : Option Nat} {T : tT} : KtP idT T (D_c_EdgeHouse_failAll F a0 p0 p1 T) := by
  unfold D_c_EdgeHouse_failAll
  exact (L_c_EdgeHouse_failAll_2 _ _ _ _ _)
theorem L_c_EdgeHouse_look_199 {F : Nat} {x0 : Nat} {x1 : Option Nat} {x2 : Option Nat} {x6 : Int32} {x7 : Int32} {T : tT} : KtP idT T (D_c_EdgeHouse_look_199 F x0 x1 x2 x6 x7 T) := by
  unfold D_c_EdgeHouse_look_199
  refine KtP.bp (fun _ => ?_)
  refine KtP.bp (fun _ => ?_)
  refine KtP.cond ?_ ?_
  · refine KtP.bp (fun _ => ?_)
    refine KtP.bp (fun _ => ?_)
    refine KtP.d0 L_c_EdgeHouse_letWait (fun _ T9 => ?_)
    refine KtP.nc ?_ (fun _ => ?_)
    · exact KtP.ret
    · refine KtP.bp (fun _ => ?_)
      refine KtP.d0 L_c_EdgeHouse_sendFetch (fun _ T9 => ?_)
      refine KtP.cond ?_ ?_
      · exact KtP.ret
      · refine KtP.bp (fun _ => ?_)
        refine KtP.b0 L_c_EdgeHouse_failAll (fun T9 => ?_)
        exact KtP.ret
  · refine KtP.bp (fun _ => ?_)
    refine KtP.b0 L_c_EdgeHouse_endAll (fun T9 => ?_)
    exact KtP.ret
theorem L_c_EdgeHouse_look_136 {F : Nat} {x0 : Nat} {x1 : Option Nat} {x2 : Option Nat} {x3 : Option Nat} {x4 : Int32} {x5 : Int32} {x6 : Int32} {x7 : Int32} {T : tT} : KtP idT T (D_c_EdgeHouse_look_136 F x0 x1 x2 x3 x4 x5 x6 x7 T) := by
  unfold D_c_EdgeHouse_look_136
  refine KtP.cond ?_ ?_
  · exact L_c_EdgeHouse_look_199
  · refine KtP.cond ?_ ?_
    · exact L_c_EdgeHouse_look_199
    · refine KtP.bp (fun _ => ?_)
      refine KtP.bp (fun _ => ?_)
      refine KtP.bp (fun _ => ?_)
      refine KtP.bp (fun _ => ?_)
      refine KtP.bp (fun _ => ?_)
      refine KtP.cond ?_ ?_
      · exact L_c_EdgeHouse_look_199
      · refine KtP.bp (fun _ => ?_)
        refine KtP.b0 L_c_EdgeHouse_serve (fun T9 => ?_)
        refine KtP.bp (fun _ => ?_)
        refine KtP.bp (fun _ => ?_)
        refine KtP.bp (fun _ => ?_)
        refine KtP.bp (fun _ => ?_)
        refine KtP.bp (fun _ => ?_)
        refine KtP.nc ?_ (fun _ => ?_)
        · refine KtP.d0 (L_tnw (by decide)) (fun _ T9 => ?_)
          refine KtP.b0 L_c_Fetch_init (fun T9 => ?_)
          refine KtP.bp (fun _ => ?_)
          refine KtP.d0 L_c_EdgeHouse_sendFetch (fun _ T9 => ?_)
          exact KtP.ret
        · exact KtP.ret
theorem L_c_EdgeHouse_look_95 {F : Nat} {x0 : Nat} {x1 : Option Nat} {x2 : Option Nat} {x3 : Option Nat} {x4 : Int32} {x5 : Int32} {x6 : Int32} {y0 : Int32} {T : tT} : KtP idT T (D_c_EdgeHouse_look_95 F x0 x1 x2 x3 x4 x5 x6 y0 T) := by
  unfold D_c_EdgeHouse_look_95
  refine KtP.cond ?_ ?_
  · exact L_c_EdgeHouse_look_136
  · refine KtP.cond ?_ ?_
    · exact L_c_EdgeHouse_look_136
    · refine KtP.bp (fun _ => ?_)
      refine KtP.bp (fun _ => ?_)
      refine KtP.b0 (L_tpi (by decide)) (fun T9 => ?_)
      refine KtP.bp (fun _ => ?_)
      refine KtP.bp (fun _ => ?_)
      refine KtP.bp (fun _ => ?_)
      refine KtP.b0 L_c_Store_use (fun T9 => ?_)
      refine KtP.bp (fun _ => ?_)
      refine KtP.b0 L_c_EdgeHouse_serve (fun T9 => ?_)
      exact KtP.ret
theorem L_c_EdgeHouse_look_94 {F : Nat} {x0 : Nat} {x1 : Option Nat} {x2 : Option Nat} {x3 : Option Nat} {x4 : Int32} {x5 : Int32} {x6 : Int32} {T : tT} : KtP idT T (D_c_EdgeHouse_look_94 F x0 x1 x2 x3 x4 x5 x6 T) := by
  unfold D_c_EdgeHouse_look_94
  exact L_c_EdgeHouse_look_95
theorem L_c_EdgeHouse_look_70 {F : Nat} {x0 : Nat} {x1 : Option Nat} {x2 : Option Nat} {x3 : Option Nat} {x4 : Int32} {x5 : Int32} {y0 : Int32} {T : tT} : KtP idT T (D_c_EdgeHouse_look_70 F x0 x1 x2 x3 x4 x5 y0 T) := by
  unfold D_c_EdgeHouse_look_70
  refine KtP.cond ?_ ?_
  · exact L_c_EdgeHouse_look_94
  · refine KtP.bp (fun _ => ?_)
    refine KtP.bp (fun _ => ?_)
    refine KtP.bp (fun _ => ?_)
    refine KtP.bp (fun _ => ?_)
    refine KtP.bp (fun _ => ?_)
    refine KtP.bp (fun _ => ?_)
    refine KtP.cond ?_ ?_
    · exact L_c_EdgeHouse_look_136
    · refine KtP.cond ?_ ?_
      · exact L_c_EdgeHouse_look_136
      · refine KtP.bp (fun _ => ?_)
        refine KtP.bp (fun _ => ?_)
        refine KtP.b0 (L_tpi (by decide)) (fun T9 => ?_)
        refine KtP.bp (fun _ => ?_)
        refine KtP.bp (fun _ => ?_)
        refine KtP.bp (fun _ => ?_)
        refine KtP.b0 L_c_Store_use (fun T9 => ?_)
        refine KtP.bp (fun _ => ?_)
        refine KtP.b0 L_c_EdgeHouse_serve (fun T9 => ?_)
        exact KtP.ret
theorem L_c_EdgeHouse_look_54 {F : Nat} {x0 : Nat} {x1 : Option Nat} {x2 : Option Nat} {x3 : Option Nat} {x4 : Int32} {y0 : Int32} {T : tT} : KtP idT T (D_c_EdgeHouse_look_54 F x0 x1 x2 x3 x4 y0 T) := by
  unfold D_c_EdgeHouse_look_54
  refine KtP.cond ?_ ?_
  · exact L_c_EdgeHouse_look_70
  · refine KtP.bp (fun _ => ?_)
    refine KtP.bp (fun _ => ?_)
    refine KtP.bp (fun _ => ?_)
    exact L_c_EdgeHouse_look_70
theorem L_c_EdgeHouse_look_53 {F : Nat} {x0 : Nat} {x1 : Option Nat} {x2 : Option Nat} {x3 : Option Nat} {x4 : Int32} {T : tT} : KtP idT T (D_c_EdgeHouse_look_53 F x0 x1 x2 x3 x4 T) := by
  unfold D_c_EdgeHouse_look_53
  exact L_c_EdgeHouse_look_54
theorem L_c_EdgeHouse_look_25 {F : Nat} {x0 : Nat} {x1 : Option Nat} {x2 : Option Nat} {x3 : Option Nat} {y0 : Int32} {T : tT} : KtP idT T (D_c_EdgeHouse_look_25 F x0 x1 x2 x3 y0 T) := by
  unfold D_c_EdgeHouse_look_25
  refine KtP.nc ?_ (fun _ => ?_)
  · exact L_c_EdgeHouse_look_53
  · refine KtP.bp (fun _ => ?_)
    refine KtP.bp (fun _ => ?_)
    refine KtP.bp (fun _ => ?_)
    refine KtP.bp (fun _ => ?_)
    refine KtP.bp (fun _ => ?_)
    refine KtP.cond ?_ ?_
    · exact L_c_EdgeHouse_look_136
    · refine KtP.cond ?_ ?_
      · exact L_c_EdgeHouse_look_136
      · refine KtP.bp (fun _ => ?_)
        refine KtP.bp (fun _ => ?_)
        refine KtP.b0 (L_tpi (by decide)) (fun T9 => ?_)
        refine KtP.bp (fun _ => ?_)
        refine KtP.bp (fun _ => ?_)
        refine KtP.bp (fun _ => ?_)
        refine KtP.b0 L_c_Store_use (fun T9 => ?_)
        refine KtP.bp (fun _ => ?_)
        refine KtP.b0 L_c_EdgeHouse_serve (fun T9 => ?_)
        exact KtP.ret
theorem L_c_EdgeHouse_look {F : Nat} {a0 : Nat} {p0 : Option Nat} {p1 : Option Nat} {T : tT} : KtP idT T (D_c_EdgeHouse_look F a0 p0 p1 T) := by
  unfold D_c_EdgeHouse_look
  refine KtP.bp (fun _ => ?_)
  refine KtP.bp (fun _ => ?_)
  refine KtP.bp (fun _ => ?_)
  refine KtP.bp (fun _ => ?_)
  refine KtP.bp (fun _ => ?_)
  refine KtP.nc ?_ (fun _ => ?_)
  · exact L_c_EdgeHouse_look_25
  · refine KtP.bp (fun _ => ?_)
    refine KtP.bp (fun _ => ?_)
    refine KtP.bp (fun _ => ?_)
    exact L_c_EdgeHouse_look_25
theorem L_c_EdgeHouse_ask {F : Nat} {a0 : Nat} {T : tT} : KtP Prod.snd T (D_c_EdgeHouse_ask F a0 T) := by
  unfold D_c_EdgeHouse_ask
  refine KtP.bp (fun _ => ?_)
  refine KtP.bp (fun _ => ?_)
  refine KtP.bp (fun _ => ?_)
  refine KtP.cond ?_ ?_
  · refine KtP.bp (fun _ => ?_)
    refine KtP.bp (fun _ => ?_)
    refine KtP.bp (fun _ => ?_)
    refine KtP.d0 L_c_Reader_readRequest (fun _ T9 => ?_)
    refine KtP.bp (fun _ => ?_)
    refine KtP.bp (fun _ => ?_)
    refine KtP.bp (fun _ => ?_)
    refine KtP.b0 L_c_Reader_empty (fun T9 => ?_)
    refine KtP.d0 (L_tnw (by decide)) (fun _ T9 => ?_)
    refine KtP.b0 L_c_Reply_init (fun T9 => ?_)
    refine KtP.bp (fun _ => ?_)
    refine KtP.bp (fun _ => ?_)
    refine KtP.b0 L_tla (fun T9 => ?_)
    refine KtP.nc ?_ (fun _ => ?_)
    · refine KtP.bp (fun _ => ?_)
      refine KtP.b0 L_c_EdgeHouse_close (fun T9 => ?_)
      exact KtP.ret2
    · refine KtP.b0 (L_tpr (by decide)) (fun T9 => ?_)
      refine KtP.bp (fun _ => ?_)
      refine KtP.bp (fun _ => ?_)
      refine KtP.bp (fun _ => ?_)
      refine KtP.bp (fun _ => ?_)
      refine KtP.cond ?_ ?_
      · refine KtP.b0 (L_tpi (by decide)) (fun T9 => ?_)
        refine KtP.bp (fun _ => ?_)
        refine KtP.bp (fun _ => ?_)
        refine KtP.bp (fun _ => ?_)
        refine KtP.bp (fun _ => ?_)
        refine KtP.b0 L_c_EdgeHouse_look (fun T9 => ?_)
        exact KtP.ret2
      · refine KtP.bp (fun _ => ?_)
        refine KtP.b0 L_c_EdgeHouse_close (fun T9 => ?_)
        exact KtP.ret2
  · exact KtP.ret2
theorem L_c_Request_init129 {F : Nat} {a0 : Nat} {p0 : Option Nat} {T : tT} : KtP idT T (D_c_Request_init129 F a0 p0 T) := by
  unfold D_c_Request_init129
  refine KtP.b0 (L_tpi (by decide)) (fun T9 => ?_)
  refine KtP.b0 (L_tpi (by decide)) (fun T9 => ?_)
  refine KtP.b0 (L_tpi (by decide)) (fun T9 => ?_)
  refine KtP.b0 (L_tpi (by decide)) (fun T9 => ?_)
  refine KtP.bp (fun _ => ?_)
  refine KtP.bp (fun _ => ?_)
  refine KtP.b0 (L_tpi (by decide)) (fun T9 => ?_)
  refine KtP.bp (fun _ => ?_)
  refine KtP.b0 (L_tpi (by decide)) (fun T9 => ?_)
  refine KtP.bp (fun _ => ?_)
  refine KtP.b0 (L_tpi (by decide)) (fun T9 => ?_)
  refine KtP.bp (fun _ => ?_)
  refine KtP.b0 (L_tpi (by decide)) (fun T9 => ?_)
  refine KtP.bp (fun _ => ?_)
  refine KtP.b0 (L_tpi (by decide)) (fun T9 => ?_)
  refine KtP.bp (fun _ => ?_)
  refine KtP.b0 (L_tpi (by decide)) (fun T9 => ?_)
  refine KtP.bp (fun _ => ?_)
  refine KtP.b0 (L_tpz (by decide)) (fun T9 => ?_)
  refine KtP.bp (fun _ => ?_)
  refine KtP.b0 (L_tpi (by decide)) (fun T9 => ?_)
  refine KtP.bp (fun _ => ?_)
  refine KtP.b0 (L_tpi (by decide)) (fun T9 => ?_)
  refine KtP.bp (fun _ => ?_)
  refine KtP.b0 (L_tpi (by decide)) (fun T9 => ?_)
  refine KtP.bp (fun _ => ?_)
  refine KtP.b0 (L_tpi (by decide)) (fun T9 => ?_)
  exact KtP.ret
theorem L_c_Entry_init {F : Nat} {a0 : Nat} {p0 : Int32} {p1 : Int32} {p2 : Option Nat} {p3 : Int32} {T : tT} : KtP idT T (D_c_Entry_init F a0 p0 p1 p2 p3 T) := by
  unfold D_c_Entry_init
  refine KtP.b0 (L_tpi (by decide)) (fun T9 => ?_)
  refine KtP.b0 (L_tpi (by decide)) (fun T9 => ?_)
  refine KtP.b0 (L_tpr (by decide)) (fun T9 => ?_)
  refine KtP.b0 (L_tpi (by decide)) (fun T9 => ?_)
  exact KtP.ret
theorem L_c_EdgeHouse_takeAtOrigin_62 {F : Nat} {x0 : Nat} {x2 : Option Nat} {y0 : Option Nat} {T : tT} : KtP idT T (D_c_EdgeHouse_takeAtOrigin_62 F x0 x2 y0 T) := by
  unfold D_c_EdgeHouse_takeAtOrigin_62
  refine KtP.nc ?_ (fun _ => ?_)
  · refine KtP.bp (fun _ => ?_)
    refine KtP.b0 L_c_EdgeHouse_sendStatus (fun T9 => ?_)
    exact KtP.ret
  · refine KtP.d0 (L_tnw (by decide)) (fun _ T9 => ?_)
    refine KtP.bp (fun _ => ?_)
    refine KtP.bp (fun _ => ?_)
    refine KtP.bp (fun _ => ?_)
    refine KtP.bp (fun _ => ?_)
    refine KtP.bp (fun _ => ?_)
    refine KtP.bp (fun _ => ?_)
    refine KtP.bp (fun _ => ?_)
    refine KtP.b0 L_c_Entry_init (fun T9 => ?_)
    refine KtP.bp (fun _ => ?_)
    refine KtP.b0 (L_tpi (by decide)) (fun T9 => ?_)
    refine KtP.bp (fun _ => ?_)
    refine KtP.b0 (L_tpi (by decide)) (fun T9 => ?_)
    refine KtP.bp (fun _ => ?_)
    refine KtP.bp (fun _ => ?_)
    refine KtP.b0 (L_tpi (by decide)) (fun T9 => ?_)
    refine KtP.bp (fun _ => ?_)
    refine KtP.b0 L_c_EdgeHouse_sendFill (fun T9 => ?_)
    exact KtP.ret
theorem L_c_EdgeHouse_takeAtOrigin {F : Nat} {a0 : Nat} {p0 : Option Nat} {T : tT} : KtP idT T (D_c_EdgeHouse_takeAtOrigin F a0 p0 T) := by
  unfold D_c_EdgeHouse_takeAtOrigin
  refine KtP.bp (fun _ => ?_)
  refine KtP.bp (fun _ => ?_)
  refine KtP.cond ?_ ?_
  · refine KtP.d0 (L_tnw (by decide)) (fun _ T9 => ?_)
    refine KtP.b0 L_c_Request_init129 (fun T9 => ?_)
    refine KtP.bp (fun _ => ?_)
    refine KtP.bp (fun _ => ?_)
    refine KtP.cond ?_ ?_
    · exact L_c_EdgeHouse_takeAtOrigin_62
    · refine KtP.bp (fun _ => ?_)
      refine KtP.bp (fun _ => ?_)
      refine KtP.bp (fun _ => ?_)
      refine KtP.bp (fun _ => ?_)
      exact L_c_EdgeHouse_takeAtOrigin_62
  · refine KtP.bp (fun _ => ?_)
    refine KtP.bp (fun _ => ?_)
    refine KtP.cond ?_ ?_
    · exact KtP.ret
    · refine KtP.bp (fun _ => ?_)
      refine KtP.b0 (L_tpi (by decide)) (fun T9 => ?_)
      exact KtP.ret
theorem L_c_Node_learn_21 {F : Nat} {x0 : Nat} {x1 : Int32} {T : tT} : KtP idT T (D_c_Node_learn_21 F x0 x1 T) := by
  unfold D_c_Node_learn_21
  refine KtP.bp (fun _ => ?_)
  refine KtP.b0 (L_tpi (by decide)) (fun T9 => ?_)
  exact KtP.ret
theorem L_c_Node_learn {F : Nat} {a0 : Nat} {p0 : Int32} {T : tT} : KtP idT T (D_c_Node_learn F a0 p0 T) := by
  unfold D_c_Node_learn
  refine KtP.cond ?_ ?_
  · exact L_c_Node_learn_21
  · refine KtP.bp (fun _ => ?_)
    refine KtP.bp (fun _ => ?_)
    refine KtP.bp (fun _ => ?_)
    refine KtP.cond ?_ ?_
    · exact L_c_Node_learn_21
    · refine KtP.bp (fun _ => ?_)
      refine KtP.bp (fun _ => ?_)
      refine KtP.b0 L_tasz (fun T9 => ?_)
      exact L_c_Node_learn_21
theorem L_c_Store_removeAt_27 {F : Nat} {x0 : Nat} {x1 : Int32} {T : tT} : KtP idT T (D_c_Store_removeAt_27 F x0 x1 T) := by
  unfold D_c_Store_removeAt_27
  refine KtP.bp (fun _ => ?_)
  refine KtP.bp (fun _ => ?_)
  refine KtP.bp (fun _ => ?_)
  refine KtP.cond ?_ ?_
  · exact KtP.ret
  · refine KtP.bp (fun _ => ?_)
    refine KtP.bp (fun _ => ?_)
    refine KtP.cond ?_ ?_
    · exact KtP.ret
    · refine KtP.bp (fun _ => ?_)
      refine KtP.bp (fun _ => ?_)
      refine KtP.bp (fun _ => ?_)
      refine KtP.bp (fun _ => ?_)
      refine KtP.bp (fun _ => ?_)
      refine KtP.d0 L_tlr (fun _ T9 => ?_)
      exact KtP.ret
theorem L_c_Store_removeAt {F : Nat} {a0 : Nat} {p0 : Int32} {T : tT} : KtP idT T (D_c_Store_removeAt F a0 p0 T) := by
  unfold D_c_Store_removeAt
  refine KtP.cond ?_ ?_
  · exact L_c_Store_removeAt_27
  · refine KtP.bp (fun _ => ?_)
    refine KtP.bp (fun _ => ?_)
    refine KtP.bp (fun _ => ?_)
    refine KtP.cond ?_ ?_
    · exact L_c_Store_removeAt_27
    · refine KtP.bp (fun _ => ?_)
      refine KtP.bp (fun _ => ?_)
      refine KtP.d0 L_tlr (fun _ T9 => ?_)
      exact KtP.ret
theorem L_c_Store_removePurged_41 {F : Nat} {rec7 : Nat → Int32 → Int32 → Int32 → tT → Option (tT)} {x0 : Nat} {x1 : Int32} {x2 : Int32} {x3 : Int32} {T : tT} (hrec7 : ∀ (y0 : Nat) (y1 : Int32) (y2 : Int32) (y3 : Int32) (T : tT), KtP idT T (rec7 y0 y1 y2 y3 T)) : KtP idT T (D_c_Store_removePurged_41 F rec7 x0 x1 x2 x3 T) := by
  unfold D_c_Store_removePurged_41
  exact hrec7 _ _ _ _ _
theorem L_c_Store_removePurged_7 {F : Nat} : ∀ (n : Nat) (y0 : Nat) (y1 : Int32) (y2 : Int32) (y3 : Int32) (T : tT), KtP idT T (D_c_Store_removePurged_7 F n y0 y1 y2 y3 T) := by
  intro n
  induction n with
  | zero => intros; exact KtP.none
  | succ n ih =>
    intros
    unfold D_c_Store_removePurged_7
    refine KtP.cond ?_ ?_
    · exact KtP.ret
    · refine KtP.bp (fun _ => ?_)
      refine KtP.bp (fun _ => ?_)
      refine KtP.nc ?_ (fun _ => ?_)
      · exact (L_c_Store_removePurged_41 ih)
      · refine KtP.bp (fun _ => ?_)
        refine KtP.bp (fun _ => ?_)
        refine KtP.bp (fun _ => ?_)
        refine KtP.bp (fun _ => ?_)
        refine KtP.cond ?_ ?_
        · exact (L_c_Store_removePurged_41 ih)
        · refine KtP.bp (fun _ => ?_)
          refine KtP.b0 L_c_Store_removeAt (fun T9 => ?_)
          exact (L_c_Store_removePurged_41 ih)
theorem L_c_Store_removePurged {F : Nat} {a0 : Nat} {p0 : Int32} {p1 : Int32} {T : tT} : KtP idT T (D_c_Store_removePurged F a0 p0 p1 T) := by
  unfold D_c_Store_removePurged
  refine KtP.bp (fun _ => ?_)
  refine KtP.bp (fun _ => ?_)
  exact (L_c_Store_removePurged_7 _ _ _ _ _ _)
theorem L_c_EdgeHouse_takePurge {F : Nat} {a0 : Nat} {p0 : Option Nat} {p1 : Option Nat} {T : tT} : KtP idT T (D_c_EdgeHouse_takePurge F a0 p0 p1 T) := by
  unfold D_c_EdgeHouse_takePurge
  refine KtP.bp (fun _ => ?_)
  refine KtP.bp (fun _ => ?_)
  refine KtP.bp (fun _ => ?_)
  refine KtP.bp (fun _ => ?_)
  refine KtP.b0 L_c_Node_learn (fun T9 => ?_)
  refine KtP.bp (fun _ => ?_)
  refine KtP.bp (fun _ => ?_)
  refine KtP.bp (fun _ => ?_)
  refine KtP.bp (fun _ => ?_)
  refine KtP.bp (fun _ => ?_)
  refine KtP.b0 L_c_Store_removePurged (fun T9 => ?_)
  refine KtP.d0 (L_tnw (by decide)) (fun _ T9 => ?_)
  refine KtP.bp (fun _ => ?_)
  refine KtP.bp (fun _ => ?_)
  refine KtP.b0 L_c_Message_init (fun T9 => ?_)
  refine KtP.bp (fun _ => ?_)
  refine KtP.b0 L_c_EdgeHouse_send (fun T9 => ?_)
  exact KtP.ret
theorem L_c_Node_takeFetch_2 {F : Nat} : ∀ (n : Nat) (y0 : Nat) (y1 : Int32) (y2 : Int32) (T : tT), KtP Prod.snd T (D_c_Node_takeFetch_2 F n y0 y1 y2 T) := by
  intro n
  induction n with
  | zero => intros; exact KtP.none
  | succ n ih =>
    intros
    unfold D_c_Node_takeFetch_2
    refine KtP.bp (fun _ => ?_)
    refine KtP.bp (fun _ => ?_)
    refine KtP.bp (fun _ => ?_)
    refine KtP.cond ?_ ?_
    · exact KtP.ret2
    · refine KtP.bp (fun _ => ?_)
      refine KtP.bp (fun _ => ?_)
      refine KtP.bp (fun _ => ?_)
      refine KtP.bp (fun _ => ?_)
      refine KtP.bp (fun _ => ?_)
      refine KtP.cond ?_ ?_
      · exact ih _ _ _ _
      · refine KtP.bp (fun _ => ?_)
        refine KtP.bp (fun _ => ?_)
        refine KtP.d0 L_tlr (fun _ T9 => ?_)
        refine KtP.bp (fun _ => ?_)
        exact KtP.ret2
theorem L_c_Node_takeFetch {F : Nat} {a0 : Nat} {p0 : Int32} {T : tT} : KtP Prod.snd T (D_c_Node_takeFetch F a0 p0 T) := by
  unfold D_c_Node_takeFetch
  exact (L_c_Node_takeFetch_2 _ _ _ _ _)
theorem L_c_Node_trust {F : Nat} {a0 : Nat} {p0 : Int32} {T : tT} : KtP idT T (D_c_Node_trust F a0 p0 T) := by
  unfold D_c_Node_trust
  refine KtP.cond ?_ ?_
  · exact KtP.ret
  · refine KtP.cond ?_ ?_
    · exact KtP.ret
    · refine KtP.bp (fun _ => ?_)
      refine KtP.bp (fun _ => ?_)
      refine KtP.b0 L_tasi (fun T9 => ?_)
      refine KtP.bp (fun _ => ?_)
      refine KtP.bp (fun _ => ?_)
      refine KtP.b0 L_tasi (fun T9 => ?_)
      exact KtP.ret
theorem L_c_Store_removeKey_38 {F : Nat} {rec7 : Nat → Int32 → Int32 → Int32 → tT → Option (tT)} {x0 : Nat} {x1 : Int32} {x2 : Int32} {x3 : Int32} {T : tT} (hrec7 : ∀ (y0 : Nat) (y1 : Int32) (y2 : Int32) (y3 : Int32) (T : tT), KtP idT T (rec7 y0 y1 y2 y3 T)) : KtP idT T (D_c_Store_removeKey_38 F rec7 x0 x1 x2 x3 T) := by
  unfold D_c_Store_removeKey_38
  exact hrec7 _ _ _ _ _
theorem L_c_Store_removeKey_7 {F : Nat} : ∀ (n : Nat) (y0 : Nat) (y1 : Int32) (y2 : Int32) (y3 : Int32) (T : tT), KtP idT T (D_c_Store_removeKey_7 F n y0 y1 y2 y3 T) := by
  intro n
  induction n with
  | zero => intros; exact KtP.none
  | succ n ih =>
    intros
    unfold D_c_Store_removeKey_7
    refine KtP.cond ?_ ?_
    · exact KtP.ret
    · refine KtP.bp (fun _ => ?_)
      refine KtP.bp (fun _ => ?_)
      refine KtP.nc ?_ (fun _ => ?_)
      · exact (L_c_Store_removeKey_38 ih)
      · refine KtP.bp (fun _ => ?_)
        refine KtP.bp (fun _ => ?_)
        refine KtP.cond ?_ ?_
        · exact (L_c_Store_removeKey_38 ih)
        · refine KtP.bp (fun _ => ?_)
          refine KtP.b0 L_c_Store_removeAt (fun T9 => ?_)
          exact (L_c_Store_removeKey_38 ih)
theorem L_c_Store_removeKey {F : Nat} {a0 : Nat} {p0 : Int32} {p1 : Int32} {T : tT} : KtP idT T (D_c_Store_removeKey F a0 p0 p1 T) := by
  unfold D_c_Store_removeKey
  refine KtP.bp (fun _ => ?_)
  refine KtP.bp (fun _ => ?_)
  exact (L_c_Store_removeKey_7 _ _ _ _ _ _)
theorem L_c_Store_removeOtherVary_58 {F : Nat} {rec7 : Nat → Option Nat → Int32 → tT → Option (tT)} {x0 : Nat} {x1 : Option Nat} {x2 : Int32} {T : tT} (hrec7 : ∀ (y0 : Nat) (y1 : Option Nat) (y2 : Int32) (T : tT), KtP idT T (rec7 y0 y1 y2 T)) : KtP idT T (D_c_Store_removeOtherVary_58 F rec7 x0 x1 x2 T) := by
  unfold D_c_Store_removeOtherVary_58
  exact hrec7 _ _ _ _
theorem L_c_Store_removeOtherVary_7 {F : Nat} : ∀ (n : Nat) (y0 : Nat) (y1 : Option Nat) (y2 : Int32) (T : tT), KtP idT T (D_c_Store_removeOtherVary_7 F n y0 y1 y2 T) := by
  intro n
  induction n with
  | zero => intros; exact KtP.none
  | succ n ih =>
    intros
    unfold D_c_Store_removeOtherVary_7
    refine KtP.cond ?_ ?_
    · exact KtP.ret
    · refine KtP.bp (fun _ => ?_)
      refine KtP.bp (fun _ => ?_)
      refine KtP.nc ?_ (fun _ => ?_)
      · exact (L_c_Store_removeOtherVary_58 ih)
      · refine KtP.bp (fun _ => ?_)
        refine KtP.bp (fun _ => ?_)
        refine KtP.bp (fun _ => ?_)
        refine KtP.bp (fun _ => ?_)
        refine KtP.bp (fun _ => ?_)
        refine KtP.cond ?_ ?_
        · exact (L_c_Store_removeOtherVary_58 ih)
        · refine KtP.bp (fun _ => ?_)
          refine KtP.bp (fun _ => ?_)
          refine KtP.bp (fun _ => ?_)
          refine KtP.bp (fun _ => ?_)
          refine KtP.bp (fun _ => ?_)
          refine KtP.bp (fun _ => ?_)
          refine KtP.cond ?_ ?_
          · exact (L_c_Store_removeOtherVary_58 ih)
          · refine KtP.bp (fun _ => ?_)
            refine KtP.b0 L_c_Store_removeAt (fun T9 => ?_)
            exact (L_c_Store_removeOtherVary_58 ih)
theorem L_c_Store_removeOtherVary {F : Nat} {a0 : Nat} {p0 : Option Nat} {T : tT} : KtP idT T (D_c_Store_removeOtherVary F a0 p0 T) := by
  unfold D_c_Store_removeOtherVary
  refine KtP.bp (fun _ => ?_)
  refine KtP.bp (fun _ => ?_)
  exact (L_c_Store_removeOtherVary_7 _ _ _ _ _)
theorem L_c_EdgeHouse_takeIn_187 {F : Nat} {x0 : Nat} {x5 : Option Nat} {y0 : Int32} {y1 : Option Nat} {T : tT} : KtP Prod.snd T (D_c_EdgeHouse_takeIn_187 F x0 x5 y0 y1 T) := by
  unfold D_c_EdgeHouse_takeIn_187
  refine KtP.bp (fun _ => ?_)
  refine KtP.b0 (L_tpz (by decide)) (fun T9 => ?_)
  exact KtP.ret2
theorem L_c_EdgeHouse_takeIn_186 {F : Nat} {x0 : Nat} {x5 : Option Nat} {y0 : Option Nat} {T : tT} : KtP Prod.snd T (D_c_EdgeHouse_takeIn_186 F x0 x5 y0 T) := by
  unfold D_c_EdgeHouse_takeIn_186
  exact L_c_EdgeHouse_takeIn_187
theorem L_c_EdgeHouse_takeIn_167 {F : Nat} {x0 : Nat} {x5 : Option Nat} {x6 : Option Nat} {T : tT} : KtP Prod.snd T (D_c_EdgeHouse_takeIn_167 F x0 x5 x6 T) := by
  unfold D_c_EdgeHouse_takeIn_167
  refine KtP.nc ?_ (fun _ => ?_)
  · exact L_c_EdgeHouse_takeIn_186
  · refine KtP.bp (fun _ => ?_)
    refine KtP.bp (fun _ => ?_)
    refine KtP.bp (fun _ => ?_)
    refine KtP.b0 (L_tpz (by decide)) (fun T9 => ?_)
    exact KtP.ret2
theorem L_c_EdgeHouse_takeIn_153 {F : Nat} {x0 : Nat} {x1 : Option Nat} {x5 : Option Nat} {x6 : Option Nat} {T : tT} : KtP Prod.snd T (D_c_EdgeHouse_takeIn_153 F x0 x1 x5 x6 T) := by
  unfold D_c_EdgeHouse_takeIn_153
  refine KtP.nc ?_ (fun _ => ?_)
  · exact L_c_EdgeHouse_takeIn_167
  · refine KtP.bp (fun _ => ?_)
    refine KtP.bp (fun _ => ?_)
    refine KtP.bp (fun _ => ?_)
    refine KtP.bp (fun _ => ?_)
    refine KtP.b0 L_c_Store_remove (fun T9 => ?_)
    exact L_c_EdgeHouse_takeIn_167
theorem L_c_EdgeHouse_takeIn {F : Nat} {a0 : Nat} {p0 : Option Nat} {p1 : Option Nat} {p2 : Option Nat} {T : tT} : KtP Prod.snd T (D_c_EdgeHouse_takeIn F a0 p0 p1 p2 T) := by
  unfold D_c_EdgeHouse_takeIn
  refine KtP.bp (fun _ => ?_)
  refine KtP.bp (fun _ => ?_)
  refine KtP.d0 (L_tnw (by decide)) (fun _ T9 => ?_)
  refine KtP.bp (fun _ => ?_)
  refine KtP.bp (fun _ => ?_)
  refine KtP.bp (fun _ => ?_)
  refine KtP.bp (fun _ => ?_)
  refine KtP.bp (fun _ => ?_)
  refine KtP.bp (fun _ => ?_)
  refine KtP.bp (fun _ => ?_)
  refine KtP.bp (fun _ => ?_)
  refine KtP.b0 L_c_Entry_init (fun T9 => ?_)
  refine KtP.bp (fun _ => ?_)
  refine KtP.b0 (L_tpi (by decide)) (fun T9 => ?_)
  refine KtP.bp (fun _ => ?_)
  refine KtP.bp (fun _ => ?_)
  refine KtP.bp (fun _ => ?_)
  refine KtP.b0 (L_tpi (by decide)) (fun T9 => ?_)
  refine KtP.bp (fun _ => ?_)
  refine KtP.b0 (L_tpi (by decide)) (fun T9 => ?_)
  refine KtP.bp (fun _ => ?_)
  refine KtP.b0 (L_tpi (by decide)) (fun T9 => ?_)
  refine KtP.bp (fun _ => ?_)
  refine KtP.bp (fun _ => ?_)
  refine KtP.bp (fun _ => ?_)
  refine KtP.bp (fun _ => ?_)
  refine KtP.b0 L_c_Store_removeOtherVary (fun T9 => ?_)
  refine KtP.bp (fun _ => ?_)
  refine KtP.bp (fun _ => ?_)
  refine KtP.bp (fun _ => ?_)
  refine KtP.bp (fun _ => ?_)
  refine KtP.bp (fun _ => ?_)
  refine KtP.bp (fun _ => ?_)
  refine KtP.bp (fun _ => ?_)
  refine KtP.nc ?_ (fun _ => ?_)
  · exact L_c_EdgeHouse_takeIn_153
  · refine KtP.bp (fun _ => ?_)
    refine KtP.bp (fun _ => ?_)
    refine KtP.bp (fun _ => ?_)
    refine KtP.bp (fun _ => ?_)
    refine KtP.cond ?_ ?_
    · exact L_c_EdgeHouse_takeIn_153
    · refine KtP.bp (fun _ => ?_)
      refine KtP.bp (fun _ => ?_)
      refine KtP.b0 (L_tpi (by decide)) (fun T9 => ?_)
      exact L_c_EdgeHouse_takeIn_153
theorem L_c_Store_place_28 {F : Nat} {x0 : Nat} {T : tT} : KtP idT T (D_c_Store_place_28 F x0 T) := by
  unfold D_c_Store_place_28
  refine KtP.bp (fun _ => ?_)
  refine KtP.b0 L_c_Store_balance (fun T9 => ?_)
  exact KtP.ret
theorem L_c_Store_place {F : Nat} {a0 : Nat} {p0 : Option Nat} {T : tT} : KtP idT T (D_c_Store_place F a0 p0 T) := by
  unfold D_c_Store_place
  refine KtP.bp (fun _ => ?_)
  refine KtP.bp (fun _ => ?_)
  refine KtP.cond ?_ ?_
  · refine KtP.bp (fun _ => ?_)
    refine KtP.bp (fun _ => ?_)
    refine KtP.b0 L_tla (fun T9 => ?_)
    exact L_c_Store_place_28
  · refine KtP.bp (fun _ => ?_)
    refine KtP.bp (fun _ => ?_)
    refine KtP.b0 L_tla (fun T9 => ?_)
    exact L_c_Store_place_28
theorem L_c_EdgeHouse_takeFill_61 {F : Nat} {x0 : Nat} {x1 : Option Nat} {x3 : Option Nat} {T : tT} : KtP Prod.snd T (D_c_EdgeHouse_takeFill_61 F x0 x1 x3 T) := by
  unfold D_c_EdgeHouse_takeFill_61
  refine KtP.bp (fun _ => ?_)
  refine KtP.bp (fun _ => ?_)
  refine KtP.bp (fun _ => ?_)
  refine KtP.bp (fun _ => ?_)
  refine KtP.bp (fun _ => ?_)
  refine KtP.bp (fun _ => ?_)
  refine KtP.bp (fun _ => ?_)
  refine KtP.b0 L_c_Store_removeKey (fun T9 => ?_)
  refine KtP.bp (fun _ => ?_)
  refine KtP.bp (fun _ => ?_)
  refine KtP.b0 L_c_EdgeHouse_endAll (fun T9 => ?_)
  exact KtP.ret2
theorem L_c_EdgeHouse_takeFill_118 {F : Nat} {x0 : Nat} {T : tT} : KtP Prod.snd T (D_c_EdgeHouse_takeFill_118 F x0 T) := by
  unfold D_c_EdgeHouse_takeFill_118
  exact KtP.ret2
theorem L_c_EdgeHouse_takeFill_169 {F : Nat} {x0 : Nat} {x5 : Option Nat} {T : tT} : KtP Prod.snd T (D_c_EdgeHouse_takeFill_169 F x0 x5 T) := by
  unfold D_c_EdgeHouse_takeFill_169
  exact KtP.ret2
theorem L_c_EdgeHouse_takeFill_148 {F : Nat} {x0 : Nat} {x1 : Option Nat} {x3 : Option Nat} {x4 : Option Nat} {T : tT} : KtP Prod.snd T (D_c_EdgeHouse_takeFill_148 F x0 x1 x3 x4 T) := by
  unfold D_c_EdgeHouse_takeFill_148
  refine KtP.bp (fun _ => ?_)
  refine KtP.bp (fun _ => ?_)
  refine KtP.nc ?_ (fun _ => ?_)
  · exact L_c_EdgeHouse_takeFill_169
  · refine KtP.bp (fun _ => ?_)
    refine KtP.bp (fun _ => ?_)
    refine KtP.bp (fun _ => ?_)
    refine KtP.cond ?_ ?_
    · refine KtP.bp (fun _ => ?_)
      refine KtP.b0 L_c_EdgeHouse_serve (fun T9 => ?_)
      refine KtP.bp (fun _ => ?_)
      exact KtP.ret2
    · exact L_c_EdgeHouse_takeFill_169
theorem L_c_EdgeHouse_takeFill {F : Nat} {a0 : Nat} {p0 : Option Nat} {p1 : Option Nat} {T : tT} : KtP Prod.snd T (D_c_EdgeHouse_takeFill F a0 p0 p1 T) := by
  unfold D_c_EdgeHouse_takeFill
  refine KtP.bp (fun _ => ?_)
  refine KtP.bp (fun _ => ?_)
  refine KtP.bp (fun _ => ?_)
  refine KtP.bp (fun _ => ?_)
  refine KtP.d0 L_c_Node_takeFetch (fun _ T9 => ?_)
  refine KtP.nc ?_ (fun _ => ?_)
  · exact KtP.ret2
  · refine KtP.bp (fun _ => ?_)
    refine KtP.cond ?_ ?_
    · refine KtP.bp (fun _ => ?_)
      refine KtP.bp (fun _ => ?_)
      refine KtP.b0 L_c_Node_trust (fun T9 => ?_)
      refine KtP.bp (fun _ => ?_)
      refine KtP.cond ?_ ?_
      · exact L_c_EdgeHouse_takeFill_61
      · refine KtP.bp (fun _ => ?_)
        refine KtP.nc ?_ (fun _ => ?_)
        · exact L_c_EdgeHouse_takeFill_61
        · refine KtP.bp (fun _ => ?_)
          refine KtP.bp (fun _ => ?_)
          refine KtP.cond ?_ ?_
          · refine KtP.bp (fun _ => ?_)
            refine KtP.d0 L_c_EdgeHouse_takeIn (fun _ T9 => ?_)
            refine KtP.bp (fun _ => ?_)
            refine KtP.bp (fun _ => ?_)
            refine KtP.bp (fun _ => ?_)
            refine KtP.cond ?_ ?_
            · exact L_c_EdgeHouse_takeFill_148
            · refine KtP.bp (fun _ => ?_)
              refine KtP.bp (fun _ => ?_)
              refine KtP.bp (fun _ => ?_)
              refine KtP.b0 L_c_Store_place (fun T9 => ?_)
              exact L_c_EdgeHouse_takeFill_148
          · refine KtP.bp (fun _ => ?_)
            refine KtP.d0 L_c_EdgeHouse_sendFetch (fun _ T9 => ?_)
            refine KtP.cond ?_ ?_
            · exact L_c_EdgeHouse_takeFill_118
            · refine KtP.bp (fun _ => ?_)
              refine KtP.bp (fun _ => ?_)
              refine KtP.b0 L_c_EdgeHouse_failAll (fun T9 => ?_)
              exact L_c_EdgeHouse_takeFill_118
    · refine KtP.bp (fun _ => ?_)
      refine KtP.bp (fun _ => ?_)
      refine KtP.b0 L_c_EdgeHouse_failAll (fun T9 => ?_)
      exact KtP.ret2
theorem L_c_EdgeHouse_carry_101 {F : Nat} : ∀ (n : Nat) (y0 : Nat) (y1 : Option Nat) (y2 : Int32) (y3 : Option Nat) (T : tT), KtP idT T (D_c_EdgeHouse_carry_101 F n y0 y1 y2 y3 T) := by
  intro n
  induction n with
  | zero => intros; exact KtP.none
  | succ n ih =>
    intros
    unfold D_c_EdgeHouse_carry_101
    refine KtP.nc ?_ (fun _ => ?_)
    · exact KtP.ret
    · refine KtP.bp (fun _ => ?_)
      refine KtP.b0 (L_tpr (by decide)) (fun T9 => ?_)
      refine KtP.b0 (L_tpz (by decide)) (fun T9 => ?_)
      refine KtP.bp (fun _ => ?_)
      refine KtP.b0 L_c_EdgeHouse_look (fun T9 => ?_)
      exact ih _ _ _ _ _
theorem L_c_EdgeHouse_carry_99 {F : Nat} {x0 : Nat} {x2 : Option Nat} {x3 : Int32} {y0 : Option Nat} {T : tT} : KtP idT T (D_c_EdgeHouse_carry_99 F x0 x2 x3 y0 T) := by
  unfold D_c_EdgeHouse_carry_99
  exact (L_c_EdgeHouse_carry_101 _ _ _ _ _ _)
theorem L_c_EdgeHouse_carry {F : Nat} {a0 : Nat} {p0 : Option Nat} {T : tT} : KtP idT T (D_c_EdgeHouse_carry F a0 p0 T) := by
  unfold D_c_EdgeHouse_carry
  refine KtP.bp (fun _ => ?_)
  refine KtP.bp (fun _ => ?_)
  refine KtP.cond ?_ ?_
  · refine KtP.bp (fun _ => ?_)
    refine KtP.bp (fun _ => ?_)
    refine KtP.cond ?_ ?_
    · exact KtP.ret
    · refine KtP.bp (fun _ => ?_)
      refine KtP.bp (fun _ => ?_)
      refine KtP.bp (fun _ => ?_)
      refine KtP.bp (fun _ => ?_)
      refine KtP.bp (fun _ => ?_)
      refine KtP.bp (fun _ => ?_)
      refine KtP.cond ?_ ?_
      · refine KtP.bp (fun _ => ?_)
        refine KtP.bp (fun _ => ?_)
        refine KtP.bp (fun _ => ?_)
        refine KtP.bp (fun _ => ?_)
        refine KtP.bp (fun _ => ?_)
        refine KtP.cond ?_ ?_
        · refine KtP.bp (fun _ => ?_)
          refine KtP.bp (fun _ => ?_)
          refine KtP.cond ?_ ?_
          · refine KtP.d0 (L_tnw (by decide)) (fun _ T9 => ?_)
            refine KtP.b0 L_c_Request_init129 (fun T9 => ?_)
            exact L_c_EdgeHouse_carry_99
          · refine KtP.bp (fun _ => ?_)
            refine KtP.d0 L_c_EdgeHouse_takeFill (fun _ T9 => ?_)
            exact L_c_EdgeHouse_carry_99
        · refine KtP.bp (fun _ => ?_)
          refine KtP.b0 L_c_EdgeHouse_takePurge (fun T9 => ?_)
          exact KtP.ret
      · exact KtP.ret
  · refine KtP.bp (fun _ => ?_)
    refine KtP.b0 L_c_EdgeHouse_takeAtOrigin (fun T9 => ?_)
    exact KtP.ret
theorem L_c_EdgeHouse_deliver {F : Nat} {a0 : Nat} {p0 : Int32} {T : tT} : KtP Prod.snd T (D_c_EdgeHouse_deliver F a0 p0 T) := by
  unfold D_c_EdgeHouse_deliver
  refine KtP.cond ?_ ?_
  · exact KtP.ret2
  · refine KtP.bp (fun _ => ?_)
    refine KtP.bp (fun _ => ?_)
    refine KtP.bp (fun _ => ?_)
    refine KtP.cond ?_ ?_
    · refine KtP.bp (fun _ => ?_)
      refine KtP.bp (fun _ => ?_)
      refine KtP.d0 L_tlr (fun _ T9 => ?_)
      refine KtP.bp (fun _ => ?_)
      refine KtP.bp (fun _ => ?_)
      refine KtP.b0 L_c_EdgeHouse_carry (fun T9 => ?_)
      exact KtP.ret2
    · exact KtP.ret2
theorem L_c_EdgeHouse_lose {F : Nat} {a0 : Nat} {p0 : Int32} {T : tT} : KtP Prod.snd T (D_c_EdgeHouse_lose F a0 p0 T) := by
  unfold D_c_EdgeHouse_lose
  refine KtP.cond ?_ ?_
  · exact KtP.ret2
  · refine KtP.bp (fun _ => ?_)
    refine KtP.bp (fun _ => ?_)
    refine KtP.bp (fun _ => ?_)
    refine KtP.cond ?_ ?_
    · refine KtP.bp (fun _ => ?_)
      refine KtP.bp (fun _ => ?_)
      refine KtP.d0 L_tlr (fun _ T9 => ?_)
      refine KtP.bp (fun _ => ?_)
      refine KtP.b0 (L_tpi (by decide)) (fun T9 => ?_)
      exact KtP.ret2
    · exact KtP.ret2
theorem L_c_EdgeHouse_settle_2 {F : Nat} : ∀ (n : Nat) (y0 : Nat) (y1 : Int32) (T : tT), KtP Prod.snd T (D_c_EdgeHouse_settle_2 F n y0 y1 T) := by
  intro n
  induction n with
  | zero => intros; exact KtP.none
  | succ n ih =>
    intros
    unfold D_c_EdgeHouse_settle_2
    refine KtP.cond ?_ ?_
    · exact KtP.ret2
    · refine KtP.bp (fun _ => ?_)
      refine KtP.bp (fun _ => ?_)
      refine KtP.bp (fun _ => ?_)
      refine KtP.cond ?_ ?_
      · exact KtP.ret2
      · refine KtP.bp (fun _ => ?_)
        refine KtP.bp (fun _ => ?_)
        refine KtP.d0 L_tlr (fun _ T9 => ?_)
        refine KtP.bp (fun _ => ?_)
        refine KtP.bp (fun _ => ?_)
        refine KtP.b0 L_c_EdgeHouse_carry (fun T9 => ?_)
        exact ih _ _ _
theorem L_c_EdgeHouse_settle {F : Nat} {a0 : Nat} {T : tT} : KtP Prod.snd T (D_c_EdgeHouse_settle F a0 T) := by
  unfold D_c_EdgeHouse_settle
  exact (L_c_EdgeHouse_settle_2 _ _ _ _)
theorem L_c_EdgeHouse_purge_140 {F : Nat} {rec85 : Nat → Int32 → Int32 → Int32 → tT → Option (Int32 × tT)} {x0 : Nat} {x1 : Int32} {x2 : Int32} {x4 : Int32} {T : tT} (hrec85 : ∀ (y0 : Nat) (y1 : Int32) (y2 : Int32) (y3 : Int32) (T : tT), KtP Prod.snd T (rec85 y0 y1 y2 y3 T)) : KtP Prod.snd T (D_c_EdgeHouse_purge_140 F rec85 x0 x1 x2 x4 T) := by
  unfold D_c_EdgeHouse_purge_140
  exact hrec85 _ _ _ _ _
theorem L_c_EdgeHouse_purge_85 {F : Nat} : ∀ (n : Nat) (y0 : Nat) (y1 : Int32) (y2 : Int32) (y3 : Int32) (T : tT), KtP Prod.snd T (D_c_EdgeHouse_purge_85 F n y0 y1 y2 y3 T) := by
  intro n
  induction n with
  | zero => intros; exact KtP.none
  | succ n ih =>
    intros
    unfold D_c_EdgeHouse_purge_85
    refine KtP.cond ?_ ?_
    · refine KtP.bp (fun _ => ?_)
      exact KtP.ret2
    · refine KtP.bp (fun _ => ?_)
      refine KtP.bp (fun _ => ?_)
      refine KtP.bp (fun _ => ?_)
      refine KtP.bp (fun _ => ?_)
      refine KtP.bp (fun _ => ?_)
      refine KtP.cond ?_ ?_
      · exact (L_c_EdgeHouse_purge_140 ih)
      · refine KtP.d0 (L_tnw (by decide)) (fun _ T9 => ?_)
        refine KtP.bp (fun _ => ?_)
        refine KtP.b0 L_c_Message_init (fun T9 => ?_)
        refine KtP.b0 (L_tpi (by decide)) (fun T9 => ?_)
        refine KtP.b0 (L_tpi (by decide)) (fun T9 => ?_)
        refine KtP.bp (fun _ => ?_)
        refine KtP.b0 L_c_EdgeHouse_send (fun T9 => ?_)
        exact (L_c_EdgeHouse_purge_140 ih)
theorem L_c_EdgeHouse_purge {F : Nat} {a0 : Nat} {p0 : Int32} {p1 : Int32} {T : tT} : KtP Prod.snd T (D_c_EdgeHouse_purge F a0 p0 p1 T) := by
  unfold D_c_EdgeHouse_purge
  refine KtP.bp (fun _ => ?_)
  refine KtP.cond ?_ ?_
  · exact KtP.ret2
  · refine KtP.bp (fun _ => ?_)
    refine KtP.cond ?_ ?_
    · refine KtP.bp (fun _ => ?_)
      refine KtP.b0 (L_tpi (by decide)) (fun T9 => ?_)
      refine KtP.b0 (L_tpi (by decide)) (fun T9 => ?_)
      refine KtP.bp (fun _ => ?_)
      refine KtP.bp (fun _ => ?_)
      refine KtP.bp (fun _ => ?_)
      refine KtP.b0 L_tasi (fun T9 => ?_)
      refine KtP.bp (fun _ => ?_)
      refine KtP.bp (fun _ => ?_)
      refine KtP.bp (fun _ => ?_)
      refine KtP.b0 L_tasi (fun T9 => ?_)
      exact (L_c_EdgeHouse_purge_85 _ _ _ _ _ _)
    · exact KtP.ret2
theorem L_c_Store_clear {F : Nat} {a0 : Nat} {T : tT} : KtP idT T (D_c_Store_clear F a0 T) := by
  unfold D_c_Store_clear
  refine KtP.bp (fun _ => ?_)
  refine KtP.bp (fun _ => ?_)
  refine KtP.b0 L_tlc (fun T9 => ?_)
  refine KtP.bp (fun _ => ?_)
  refine KtP.bp (fun _ => ?_)
  refine KtP.b0 L_tlc (fun T9 => ?_)
  exact KtP.ret
theorem L_c_Node_goDown_50 {F : Nat} : ∀ (n : Nat) (y0 : Nat) (y1 : Int32) (T : tT), KtP idT T (D_c_Node_goDown_50 F n y0 y1 T) := by
  intro n
  induction n with
  | zero => intros; exact KtP.none
  | succ n ih =>
    intros
    unfold D_c_Node_goDown_50
    refine KtP.cond ?_ ?_
    · exact KtP.ret
    · refine KtP.bp (fun _ => ?_)
      refine KtP.b0 L_c_Node_trust (fun T9 => ?_)
      exact ih _ _ _
theorem L_c_Node_goDown_26 {F : Nat} : ∀ (n : Nat) (y0 : Nat) (y1 : Int32) (T : tT), KtP idT T (D_c_Node_goDown_26 F n y0 y1 T) := by
  intro n
  induction n with
  | zero => intros; exact KtP.none
  | succ n ih =>
    intros
    unfold D_c_Node_goDown_26
    refine KtP.bp (fun _ => ?_)
    refine KtP.bp (fun _ => ?_)
    refine KtP.bp (fun _ => ?_)
    refine KtP.cond ?_ ?_
    · exact (L_c_Node_goDown_50 _ _ _ _)
    · refine KtP.bp (fun _ => ?_)
      refine KtP.bp (fun _ => ?_)
      refine KtP.b0 L_tasz (fun T9 => ?_)
      exact ih _ _ _
theorem L_c_Node_goDown {F : Nat} {a0 : Nat} {T : tT} : KtP idT T (D_c_Node_goDown F a0 T) := by
  unfold D_c_Node_goDown
  refine KtP.b0 (L_tpz (by decide)) (fun T9 => ?_)
  refine KtP.b0 (L_tpi (by decide)) (fun T9 => ?_)
  refine KtP.bp (fun _ => ?_)
  refine KtP.bp (fun _ => ?_)
  refine KtP.bp (fun _ => ?_)
  refine KtP.b0 L_c_Store_clear (fun T9 => ?_)
  refine KtP.bp (fun _ => ?_)
  refine KtP.bp (fun _ => ?_)
  refine KtP.b0 L_tlc (fun T9 => ?_)
  exact (L_c_Node_goDown_26 _ _ _ _)
theorem L_c_EdgeHouse_fail_79 {F : Nat} {rec33 : Nat → Int32 → Option Nat → Int32 → tT → Option (Int32 × tT)} {rec54 : Nat → Int32 → Option Nat → Int32 → Option Nat → tT → Option (Int32 × tT)} {x0 : Nat} {x1 : Int32} {x2 : Option Nat} {x3 : Int32} {x4 : Option Nat} {T : tT} (hrec33 : ∀ (y0 : Nat) (y1 : Int32) (y2 : Option Nat) (y3 : Int32) (T : tT), KtP Prod.snd T (rec33 y0 y1 y2 y3 T)) (hrec54 : ∀ (y0 : Nat) (y1 : Int32) (y2 : Option Nat) (y3 : Int32) (y4 : Option Nat) (T : tT), KtP Prod.snd T (rec54 y0 y1 y2 y3 y4 T)) : KtP Prod.snd T (D_c_EdgeHouse_fail_79 F rec33 rec54 x0 x1 x2 x3 x4 T) := by
  unfold D_c_EdgeHouse_fail_79
  refine KtP.bp (fun _ => ?_)
  refine KtP.bp (fun _ => ?_)
  exact hrec54 _ _ _ _ _ _
theorem L_c_EdgeHouse_fail_54 {F : Nat} {rec33 : Nat → Int32 → Option Nat → Int32 → tT → Option (Int32 × tT)} (hrec33 : ∀ (y0 : Nat) (y1 : Int32) (y2 : Option Nat) (y3 : Int32) (T : tT), KtP Prod.snd T (rec33 y0 y1 y2 y3 T)) : ∀ (n : Nat) (y0 : Nat) (y1 : Int32) (y2 : Option Nat) (y3 : Int32) (y4 : Option Nat) (T : tT), KtP Prod.snd T (D_c_EdgeHouse_fail_54 F rec33 n y0 y1 y2 y3 y4 T) := by
  intro n
  induction n with
  | zero => intros; exact KtP.none
  | succ n ih =>
    intros
    unfold D_c_EdgeHouse_fail_54
    refine KtP.nc ?_ (fun _ => ?_)
    · exact hrec33 _ _ _ _ _
    · refine KtP.bp (fun _ => ?_)
      refine KtP.nc ?_ (fun _ => ?_)
      · exact (L_c_EdgeHouse_fail_79 hrec33 ih)
      · refine KtP.bp (fun _ => ?_)
        refine KtP.bp (fun _ => ?_)
        refine KtP.b0 L_c_EdgeHouse_close (fun T9 => ?_)
        exact (L_c_EdgeHouse_fail_79 hrec33 ih)
theorem L_c_EdgeHouse_fail_33 {F : Nat} : ∀ (n : Nat) (y0 : Nat) (y1 : Int32) (y2 : Option Nat) (y3 : Int32) (T : tT), KtP Prod.snd T (D_c_EdgeHouse_fail_33 F n y0 y1 y2 y3 T) := by
  intro n
  induction n with
  | zero => intros; exact KtP.none
  | succ n ih =>
    intros
    unfold D_c_EdgeHouse_fail_33
    refine KtP.bp (fun _ => ?_)
    refine KtP.bp (fun _ => ?_)
    refine KtP.cond ?_ ?_
    · refine KtP.bp (fun _ => ?_)
      refine KtP.bp (fun _ => ?_)
      refine KtP.bp (fun _ => ?_)
      refine KtP.bp (fun _ => ?_)
      refine KtP.bp (fun _ => ?_)
      refine KtP.b0 L_c_Node_goDown (fun T9 => ?_)
      exact KtP.ret2
    · refine KtP.bp (fun _ => ?_)
      refine KtP.bp (fun _ => ?_)
      refine KtP.bp (fun _ => ?_)
      exact (L_c_EdgeHouse_fail_54 ih _ _ _ _ _ _ _)
theorem L_c_EdgeHouse_fail {F : Nat} {a0 : Nat} {p0 : Int32} {T : tT} : KtP Prod.snd T (D_c_EdgeHouse_fail F a0 p0 T) := by
  unfold D_c_EdgeHouse_fail
  refine KtP.bp (fun _ => ?_)
  refine KtP.cond ?_ ?_
  · exact KtP.ret2
  · refine KtP.bp (fun _ => ?_)
    refine KtP.bp (fun _ => ?_)
    refine KtP.bp (fun _ => ?_)
    refine KtP.bp (fun _ => ?_)
    refine KtP.bp (fun _ => ?_)
    refine KtP.cond ?_ ?_
    · refine KtP.bp (fun _ => ?_)
      refine KtP.bp (fun _ => ?_)
      refine KtP.bp (fun _ => ?_)
      refine KtP.bp (fun _ => ?_)
      refine KtP.bp (fun _ => ?_)
      exact (L_c_EdgeHouse_fail_33 _ _ _ _ _ _)
    · exact KtP.ret2
theorem L_c_EdgeHouse_back_46 {F : Nat} : ∀ (n : Nat) (y0 : Nat) (y1 : Int32) (y2 : Int32) (T : tT), KtP Prod.snd T (D_c_EdgeHouse_back_46 F n y0 y1 y2 T) := by
  intro n
  induction n with
  | zero => intros; exact KtP.none
  | succ n ih =>
    intros
    unfold D_c_EdgeHouse_back_46
    refine KtP.cond ?_ ?_
    · exact KtP.ret2
    · refine KtP.bp (fun _ => ?_)
      refine KtP.bp (fun _ => ?_)
      refine KtP.bp (fun _ => ?_)
      refine KtP.bp (fun _ => ?_)
      refine KtP.bp (fun _ => ?_)
      refine KtP.b0 L_c_Node_trust (fun T9 => ?_)
      exact ih _ _ _ _
theorem L_c_EdgeHouse_back {F : Nat} {a0 : Nat} {p0 : Int32} {T : tT} : KtP Prod.snd T (D_c_EdgeHouse_back F a0 p0 T) := by
  unfold D_c_EdgeHouse_back
  refine KtP.bp (fun _ => ?_)
  refine KtP.cond ?_ ?_
  · exact KtP.ret2
  · refine KtP.bp (fun _ => ?_)
    refine KtP.bp (fun _ => ?_)
    refine KtP.bp (fun _ => ?_)
    refine KtP.bp (fun _ => ?_)
    refine KtP.bp (fun _ => ?_)
    refine KtP.cond ?_ ?_
    · refine KtP.bp (fun _ => ?_)
      refine KtP.bp (fun _ => ?_)
      refine KtP.bp (fun _ => ?_)
      refine KtP.bp (fun _ => ?_)
      refine KtP.b0 (L_tpz (by decide)) (fun T9 => ?_)
      refine KtP.bp (fun _ => ?_)
      refine KtP.bp (fun _ => ?_)
      refine KtP.bp (fun _ => ?_)
      refine KtP.bp (fun _ => ?_)
      refine KtP.bp (fun _ => ?_)
      refine KtP.b0 (L_tpi (by decide)) (fun T9 => ?_)
      exact (L_c_EdgeHouse_back_46 _ _ _ _ _)
    · exact KtP.ret2
theorem L_c_EdgeHouse_budget {F : Nat} {a0 : Nat} {p0 : Int32} {p1 : Int32} {T : tT} : KtP Prod.snd T (D_c_EdgeHouse_budget F a0 p0 p1 T) := by
  unfold D_c_EdgeHouse_budget
  refine KtP.bp (fun _ => ?_)
  refine KtP.cond ?_ ?_
  · exact KtP.ret2
  · refine KtP.cond ?_ ?_
    · exact KtP.ret2
    · refine KtP.cond ?_ ?_
      · refine KtP.bp (fun _ => ?_)
        refine KtP.bp (fun _ => ?_)
        refine KtP.bp (fun _ => ?_)
        refine KtP.bp (fun _ => ?_)
        refine KtP.bp (fun _ => ?_)
        refine KtP.bp (fun _ => ?_)
        refine KtP.b0 (L_tpi (by decide)) (fun T9 => ?_)
        refine KtP.bp (fun _ => ?_)
        refine KtP.bp (fun _ => ?_)
        refine KtP.bp (fun _ => ?_)
        refine KtP.bp (fun _ => ?_)
        refine KtP.bp (fun _ => ?_)
        refine KtP.bp (fun _ => ?_)
        refine KtP.bp (fun _ => ?_)
        refine KtP.b0 L_c_Store_balance (fun T9 => ?_)
        exact KtP.ret2
      · exact KtP.ret2
theorem L_c_Told_init {F : Nat} {a0 : Nat} {T : tT} : KtP idT T (D_c_Told_init F a0 T) := by
  unfold D_c_Told_init
  exact KtP.ret
theorem L_c_Reader_readKeys_25 {F : Nat} {x0 : Nat} {T : tT} : KtP Prod.snd T (D_c_Reader_readKeys_25 F x0 T) := by
  unfold D_c_Reader_readKeys_25
  refine KtP.bp (fun _ => ?_)
  refine KtP.bp (fun _ => ?_)
  refine KtP.d0 L_c_Reader_no (fun _ T9 => ?_)
  refine KtP.bp (fun _ => ?_)
  exact KtP.ret2
theorem L_c_Reader_readKeys_2 {F : Nat} : ∀ (n : Nat) (y0 : Nat) (y1 : Int32) (T : tT), KtP Prod.snd T (D_c_Reader_readKeys_2 F n y0 y1 T) := by
  intro n
  induction n with
  | zero => intros; exact KtP.none
  | succ n ih =>
    intros
    unfold D_c_Reader_readKeys_2
    refine KtP.cond ?_ ?_
    · exact KtP.ret2
    · refine KtP.bp (fun _ => ?_)
      refine KtP.bp (fun _ => ?_)
      refine KtP.cond ?_ ?_
      · exact L_c_Reader_readKeys_25
      · refine KtP.cond ?_ ?_
        · refine KtP.bp (fun _ => ?_)
          refine KtP.bp (fun _ => ?_)
          refine KtP.bp (fun _ => ?_)
          refine KtP.b0 (L_tpi (by decide)) (fun T9 => ?_)
          refine KtP.bp (fun _ => ?_)
          refine KtP.b0 (L_tpi (by decide)) (fun T9 => ?_)
          refine KtP.cond ?_ ?_
          · exact KtP.ret2
          · refine KtP.bp (fun _ => ?_)
            refine KtP.bp (fun _ => ?_)
            refine KtP.cond ?_ ?_
            · refine KtP.bp (fun _ => ?_)
              refine KtP.b0 (L_tpi (by decide)) (fun T9 => ?_)
              exact ih _ _ _
            · exact KtP.ret2
        · exact L_c_Reader_readKeys_25
theorem L_c_Reader_readKeys {F : Nat} {a0 : Nat} {T : tT} : KtP Prod.snd T (D_c_Reader_readKeys F a0 T) := by
  unfold D_c_Reader_readKeys
  exact (L_c_Reader_readKeys_2 _ _ _ _)
theorem L_c_Reader_readToldValue {F : Nat} {a0 : Nat} {T : tT} : KtP Prod.snd T (D_c_Reader_readToldValue F a0 T) := by
  unfold D_c_Reader_readToldValue
  refine KtP.bp (fun _ => ?_)
  refine KtP.bp (fun _ => ?_)
  refine KtP.cond ?_ ?_
  · refine KtP.bp (fun _ => ?_)
    refine KtP.bp (fun _ => ?_)
    refine KtP.cond ?_ ?_
    · refine KtP.bp (fun _ => ?_)
      refine KtP.bp (fun _ => ?_)
      refine KtP.cond ?_ ?_
      · refine KtP.bp (fun _ => ?_)
        refine KtP.bp (fun _ => ?_)
        refine KtP.cond ?_ ?_
        · refine KtP.bp (fun _ => ?_)
          refine KtP.d0 L_c_Reader_skipValue (fun _ T9 => ?_)
          refine KtP.bp (fun _ => ?_)
          exact KtP.ret2
        · refine KtP.bp (fun _ => ?_)
          refine KtP.d0 L_c_Reader_readKeys (fun _ T9 => ?_)
          refine KtP.bp (fun _ => ?_)
          exact KtP.ret2
      · refine KtP.bp (fun _ => ?_)
        refine KtP.d0 L_c_Reader_readList (fun _ T9 => ?_)
        refine KtP.bp (fun _ => ?_)
        exact KtP.ret2
    · refine KtP.bp (fun _ => ?_)
      refine KtP.d0 L_c_Reader_readList (fun _ T9 => ?_)
      refine KtP.bp (fun _ => ?_)
      exact KtP.ret2
  · refine KtP.bp (fun _ => ?_)
    refine KtP.d0 L_c_Reader_readNumber (fun _ T9 => ?_)
    refine KtP.bp (fun _ => ?_)
    refine KtP.bp (fun _ => ?_)
    refine KtP.bp (fun _ => ?_)
    refine KtP.b0 (L_tpi (by decide)) (fun T9 => ?_)
    refine KtP.bp (fun _ => ?_)
    exact KtP.ret2
theorem L_c_Reader_readThing_88 {F : Nat} {rec40 : Nat → Int32 → Int32 → tT → Option (Option Nat × tT)} {x0 : Nat} {x2 : Int32} {y0 : Int32} {T : tT} (hrec40 : ∀ (y0 : Nat) (y1 : Int32) (y2 : Int32) (T : tT), KtP Prod.snd T (rec40 y0 y1 y2 T)) : KtP Prod.snd T (D_c_Reader_readThing_88 F rec40 x0 x2 y0 T) := by
  unfold D_c_Reader_readThing_88
  exact hrec40 _ _ _ _
theorem L_c_Reader_readThing_87 {F : Nat} {rec40 : Nat → Int32 → Int32 → tT → Option (Option Nat × tT)} {x0 : Nat} {x2 : Int32} {T : tT} (hrec40 : ∀ (y0 : Nat) (y1 : Int32) (y2 : Int32) (T : tT), KtP Prod.snd T (rec40 y0 y1 y2 T)) : KtP Prod.snd T (D_c_Reader_readThing_87 F rec40 x0 x2 T) := by
  unfold D_c_Reader_readThing_87
  exact (L_c_Reader_readThing_88 hrec40)
theorem L_c_Reader_readThing_106 {F : Nat} {x0 : Nat} {T : tT} : KtP Prod.snd T (D_c_Reader_readThing_106 F x0 T) := by
  unfold D_c_Reader_readThing_106
  exact KtP.ret2
theorem L_c_Reader_readThing_95 {F : Nat} {x0 : Nat} {x1 : Int32} {T : tT} : KtP Prod.snd T (D_c_Reader_readThing_95 F x0 x1 T) := by
  unfold D_c_Reader_readThing_95
  refine KtP.cond ?_ ?_
  · exact L_c_Reader_readThing_106
  · refine KtP.bp (fun _ => ?_)
    refine KtP.d0 L_c_Reader_readEnd (fun _ T9 => ?_)
    refine KtP.cond ?_ ?_
    · refine KtP.bp (fun _ => ?_)
      refine KtP.bp (fun _ => ?_)
      refine KtP.bp (fun _ => ?_)
      refine KtP.b0 (L_tpi (by decide)) (fun T9 => ?_)
      refine KtP.bp (fun _ => ?_)
      exact KtP.ret2
    · exact L_c_Reader_readThing_106
theorem L_c_Reader_readThing_40 {F : Nat} : ∀ (n : Nat) (y0 : Nat) (y1 : Int32) (y2 : Int32) (T : tT), KtP Prod.snd T (D_c_Reader_readThing_40 F n y0 y1 y2 T) := by
  intro n
  induction n with
  | zero => intros; exact KtP.none
  | succ n ih =>
    intros
    unfold D_c_Reader_readThing_40
    refine KtP.cond ?_ ?_
    · exact L_c_Reader_readThing_95
    · refine KtP.cond ?_ ?_
      · exact L_c_Reader_readThing_95
      · refine KtP.bp (fun _ => ?_)
        refine KtP.bp (fun _ => ?_)
        refine KtP.cond ?_ ?_
        · exact L_c_Reader_readThing_95
        · refine KtP.bp (fun _ => ?_)
          refine KtP.d0 L_c_Reader_readName (fun _ T9 => ?_)
          refine KtP.cond ?_ ?_
          · exact (L_c_Reader_readThing_87 ih)
          · refine KtP.bp (fun _ => ?_)
            refine KtP.d0 L_c_Reader_readToldValue (fun _ T9 => ?_)
            refine KtP.cond ?_ ?_
            · exact (L_c_Reader_readThing_87 ih)
            · refine KtP.bp (fun _ => ?_)
              refine KtP.d0 L_c_Reader_expect (fun _ T9 => ?_)
              refine KtP.bp (fun _ => ?_)
              exact ih _ _ _ _
theorem L_c_Reader_readThing_37 {F : Nat} {x0 : Nat} {y0 : Int32} {T : tT} : KtP Prod.snd T (D_c_Reader_readThing_37 F x0 y0 T) := by
  unfold D_c_Reader_readThing_37
  exact (L_c_Reader_readThing_40 _ _ _ _ _)
theorem L_c_Reader_readThing_36 {F : Nat} {x0 : Nat} {T : tT} : KtP Prod.snd T (D_c_Reader_readThing_36 F x0 T) := by
  unfold D_c_Reader_readThing_36
  exact L_c_Reader_readThing_37
theorem L_c_Reader_readThing {F : Nat} {a0 : Nat} {T : tT} : KtP Prod.snd T (D_c_Reader_readThing F a0 T) := by
  unfold D_c_Reader_readThing
  refine KtP.bp (fun _ => ?_)
  refine KtP.b0 L_c_Reader_begin (fun T9 => ?_)
  refine KtP.d0 (L_tnw (by decide)) (fun _ T9 => ?_)
  refine KtP.b0 L_c_Told_init (fun T9 => ?_)
  refine KtP.b0 (L_tpr (by decide)) (fun T9 => ?_)
  refine KtP.bp (fun _ => ?_)
  refine KtP.d0 L_c_Reader_expectText (fun _ T9 => ?_)
  refine KtP.cond ?_ ?_
  · exact L_c_Reader_readThing_36
  · refine KtP.bp (fun _ => ?_)
    refine KtP.d0 L_c_Reader_readTarget (fun _ T9 => ?_)
    refine KtP.bp (fun _ => ?_)
    exact (L_c_Reader_readThing_40 _ _ _ _ _)
theorem L_c_EdgeHouse_update_29 {F : Nat} {x0 : Nat} {T : tT} : KtP Prod.snd T (D_c_EdgeHouse_update_29 F x0 T) := by
  unfold D_c_EdgeHouse_update_29
  exact KtP.none
theorem L_c_EdgeHouse_update {F : Nat} {a0 : Nat} {T : tT} : KtP Prod.snd T (D_c_EdgeHouse_update F a0 T) := by
  unfold D_c_EdgeHouse_update
  refine KtP.bp (fun _ => ?_)
  refine KtP.bp (fun _ => ?_)
  refine KtP.bp (fun _ => ?_)
  refine KtP.d0 L_c_Reader_readThing (fun _ T9 => ?_)
  refine KtP.bp (fun _ => ?_)
  refine KtP.bp (fun _ => ?_)
  refine KtP.bp (fun _ => ?_)
  refine KtP.b0 L_c_Reader_empty (fun T9 => ?_)
  refine KtP.nc ?_ (fun _ => ?_)
  · exact L_c_EdgeHouse_update_29
  · refine KtP.bp (fun _ => ?_)
    refine KtP.bp (fun _ => ?_)
    refine KtP.cond ?_ ?_
    · refine KtP.bp (fun _ => ?_)
      refine KtP.bp (fun _ => ?_)
      refine KtP.bp (fun _ => ?_)
      refine KtP.bp (fun _ => ?_)
      refine KtP.b0 L_tasi (fun T9 => ?_)
      refine KtP.bp (fun _ => ?_)
      refine KtP.bp (fun _ => ?_)
      refine KtP.bp (fun _ => ?_)
      refine KtP.bp (fun _ => ?_)
      refine KtP.b0 (L_tpi (by decide)) (fun T9 => ?_)
      refine KtP.bp (fun _ => ?_)
      refine KtP.bp (fun _ => ?_)
      refine KtP.bp (fun _ => ?_)
      refine KtP.b0 (L_tasr (by decide)) (fun T9 => ?_)
      refine KtP.bp (fun _ => ?_)
      exact KtP.ret2
    · exact L_c_EdgeHouse_update_29
theorem L_c_Node_strike {F : Nat} {a0 : Nat} {p0 : Int32} {p1 : Int32} {T : tT} : KtP idT T (D_c_Node_strike F a0 p0 p1 T) := by
  unfold D_c_Node_strike
  refine KtP.cond ?_ ?_
  · exact KtP.ret
  · refine KtP.cond ?_ ?_
    · refine KtP.bp (fun _ => ?_)
      refine KtP.bp (fun _ => ?_)
      refine KtP.bp (fun _ => ?_)
      refine KtP.b0 L_tasi (fun T9 => ?_)
      refine KtP.bp (fun _ => ?_)
      refine KtP.bp (fun _ => ?_)
      refine KtP.bp (fun _ => ?_)
      refine KtP.cond ?_ ?_
      · exact KtP.ret
      · refine KtP.bp (fun _ => ?_)
        refine KtP.bp (fun _ => ?_)
        refine KtP.b0 L_tasi (fun T9 => ?_)
        refine KtP.bp (fun _ => ?_)
        refine KtP.bp (fun _ => ?_)
        refine KtP.b0 L_tasi (fun T9 => ?_)
        exact KtP.ret
    · exact KtP.ret
theorem L_c_EdgeHouse_endOverdue_68 {F : Nat} {rec0 : Nat → Option Nat → tT → Option (tT)} {x0 : Nat} {x1 : Option Nat} {x2 : Option Nat} {T : tT} (hrec0 : ∀ (y0 : Nat) (y1 : Option Nat) (T : tT), KtP idT T (rec0 y0 y1 T)) : KtP idT T (D_c_EdgeHouse_endOverdue_68 F rec0 x0 x1 x2 T) := by
  unfold D_c_EdgeHouse_endOverdue_68
  refine KtP.bp (fun _ => ?_)
  refine KtP.bp (fun _ => ?_)
  refine KtP.bp (fun _ => ?_)
  refine KtP.b0 L_c_EdgeHouse_failAll (fun T9 => ?_)
  exact hrec0 _ _ _
theorem L_c_EdgeHouse_endOverdue_0 {F : Nat} : ∀ (n : Nat) (y0 : Nat) (y1 : Option Nat) (T : tT), KtP idT T (D_c_EdgeHouse_endOverdue_0 F n y0 y1 T) := by
  intro n
  induction n with
  | zero => intros; exact KtP.none
  | succ n ih =>
    intros
    unfold D_c_EdgeHouse_endOverdue_0
    refine KtP.bp (fun _ => ?_)
    refine KtP.bp (fun _ => ?_)
    refine KtP.bp (fun _ => ?_)
    refine KtP.bp (fun _ => ?_)
    refine KtP.cond ?_ ?_
    · exact KtP.ret
    · refine KtP.bp (fun _ => ?_)
      refine KtP.bp (fun _ => ?_)
      refine KtP.bp (fun _ => ?_)
      refine KtP.bp (fun _ => ?_)
      refine KtP.bp (fun _ => ?_)
      refine KtP.bp (fun _ => ?_)
      refine KtP.cond ?_ ?_
      · exact KtP.ret
      · refine KtP.bp (fun _ => ?_)
        refine KtP.bp (fun _ => ?_)
        refine KtP.d0 L_tlr (fun _ T9 => ?_)
        refine KtP.bp (fun _ => ?_)
        refine KtP.bp (fun _ => ?_)
        refine KtP.bp (fun _ => ?_)
        refine KtP.cond ?_ ?_
        · exact (L_c_EdgeHouse_endOverdue_68 ih)
        · refine KtP.bp (fun _ => ?_)
          refine KtP.bp (fun _ => ?_)
          refine KtP.bp (fun _ => ?_)
          refine KtP.b0 L_c_Node_strike (fun T9 => ?_)
          exact (L_c_EdgeHouse_endOverdue_68 ih)
theorem L_c_EdgeHouse_endOverdue {F : Nat} {a0 : Nat} {p0 : Option Nat} {T : tT} : KtP idT T (D_c_EdgeHouse_endOverdue F a0 p0 T) := by
  unfold D_c_EdgeHouse_endOverdue
  exact (L_c_EdgeHouse_endOverdue_0 _ _ _ _)
theorem L_c_EdgeHouse_tick_11 {F : Nat} {x0 : Nat} {T : tT} : KtP Prod.snd T (D_c_EdgeHouse_tick_11 F x0 T) := by
  unfold D_c_EdgeHouse_tick_11
  exact KtP.none
theorem L_c_EdgeHouse_tick_40 {F : Nat} {rec23 : Nat → Int32 → Int32 → tT → Option (Int32 × tT)} (hrec23 : ∀ (y0 : Nat) (y1 : Int32) (y2 : Int32) (T : tT), KtP Prod.snd T (rec23 y0 y1 y2 T)) : ∀ (n : Nat) (y0 : Nat) (y1 : Int32) (y2 : Int32) (y3 : Int32) (T : tT), KtP Prod.snd T (D_c_EdgeHouse_tick_40 F rec23 n y0 y1 y2 y3 T) := by
  intro n
  induction n with
  | zero => intros; exact KtP.none
  | succ n ih =>
    intros
    unfold D_c_EdgeHouse_tick_40
    refine KtP.cond ?_ ?_
    · exact hrec23 _ _ _ _
    · refine KtP.bp (fun _ => ?_)
      refine KtP.bp (fun _ => ?_)
      refine KtP.bp (fun _ => ?_)
      refine KtP.bp (fun _ => ?_)
      refine KtP.b0 L_c_EdgeHouse_endOverdue (fun T9 => ?_)
      exact ih _ _ _ _ _
theorem L_c_EdgeHouse_tick_23 {F : Nat} : ∀ (n : Nat) (y0 : Nat) (y1 : Int32) (y2 : Int32) (T : tT), KtP Prod.snd T (D_c_EdgeHouse_tick_23 F n y0 y1 y2 T) := by
  intro n
  induction n with
  | zero => intros; exact KtP.none
  | succ n ih =>
    intros
    unfold D_c_EdgeHouse_tick_23
    refine KtP.cond ?_ ?_
    · refine KtP.bp (fun _ => ?_)
      exact KtP.ret2
    · refine KtP.bp (fun _ => ?_)
      refine KtP.b0 (L_tpi (by decide)) (fun T9 => ?_)
      exact (L_c_EdgeHouse_tick_40 ih _ _ _ _ _ _)
theorem L_c_EdgeHouse_tick {F : Nat} {a0 : Nat} {p0 : Int32} {T : tT} : KtP Prod.snd T (D_c_EdgeHouse_tick F a0 p0 T) := by
  unfold D_c_EdgeHouse_tick
  refine KtP.cond ?_ ?_
  · exact L_c_EdgeHouse_tick_11
  · refine KtP.cond ?_ ?_
    · exact (L_c_EdgeHouse_tick_23 _ _ _ _ _)
    · exact L_c_EdgeHouse_tick_11
