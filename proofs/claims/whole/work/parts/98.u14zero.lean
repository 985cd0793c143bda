/-! Int 9 is not touched. -/
def ZP9 {α : Type} (π : α → mS) (S : mS) (o : Option α) : Prop := ∀ r, o = some r → (π r).1 9 = S.1 9
section
variable {α β : Type} {π : α → mS} {S : mS}
theorem ZP9.none : ZP9 π S (none : Option α) := fun _ h => by cases h
theorem ZP9.ret : ZP9 (fun S => S) S (some S) := fun r e => by cases e; rfl
theorem ZP9.ret2 {z : α} : ZP9 Prod.snd S (some (z, S)) := fun r e => by cases e; rfl
theorem ZP9.bp {o : Option β} {f : β → Option α} (h : ∀ z, ZP9 π S (f z)) : ZP9 π S (o.bind f) := fun r e => by
  obtain ⟨z, z1, z2⟩ := Option.bind_eq_some_iff.mp e
  exact h z r z2
theorem ZP9.bs {o : Option mS} {f : mS → Option α} (h0 : ZP9 (fun S => S) S o) (h : ∀ S1, ZP9 π S1 (f S1)) : ZP9 π S (o.bind f) := fun r e => by
  obtain ⟨z, z1, z2⟩ := Option.bind_eq_some_iff.mp e
  exact (h z r z2).trans (h0 z z1)
theorem ZP9.b2 {o : Option (β × mS)} {f : β × mS → Option α} (h0 : ZP9 Prod.snd S o) (h : ∀ q, ZP9 π q.2 (f q)) : ZP9 π S (o.bind f) := fun r e => by
  obtain ⟨z, z1, z2⟩ := Option.bind_eq_some_iff.mp e
  exact (h z r z2).trans (h0 z z1)
theorem ZP9.cond {q : Bool} {o p : Option α} (h1 : ZP9 π S o) (h2 : ZP9 π S p) : ZP9 π S (cond q o p) := by
  cases q
  · exact h2
  · exact h1
theorem zp9_aput {N a : Nat} {i x : Int32} : ZP9 (fun S => S) S (aput N S a i x) := fun r e => by
  unfold aput at e
  split at e
  · cases e; rfl
  · cases e
theorem zp9_bput {N a : Nat} {i x : Int32} : ZP9 (fun S => S) S (bput N S a i x) := fun r e => by
  unfold bput at e
  split at e
  · cases e; rfl
  · cases e
theorem zp9_fput {k : Nat} {x : Int32} (h : ¬ 9 = k) : ZP9 (fun S => S) S (fput S k x) := fun r e => by
  cases e
  exact if_neg h
theorem zp9_fpub {k : Nat} {x : Int32} (h : ¬ 9 = k) : ZP9 (fun S => S) S (fpub S k x) := fun r e => by
  unfold fpub at e
  split at e
  · cases e; exact if_neg h
  · cases e
end
theorem Z9_m_wrong {F : Nat} {a0 : Int32} {S : mS} : ZP9 Prod.snd S (D_m_wrong F a0 S) := by
  unfold D_m_wrong
  repeat (with_reducible first | exact ZP9.ret | exact ZP9.ret2 | exact ZP9.none | refine ZP9.bs zp9_aput (fun _ => ?_) | refine ZP9.bs zp9_bput (fun _ => ?_) | refine ZP9.bs (zp9_fput (by decide)) (fun _ => ?_) | exact zp9_aput | exact zp9_bput | exact zp9_fput (by decide) | refine ZP9.bs (zp9_fpub (by decide)) (fun _ => ?_) | exact zp9_fpub (by decide) | refine ZP9.cond ?_ ?_ | refine ZP9.bp (fun _ => ?_))
theorem Z9_m_expect {F : Nat} {a0 : Int32} {S : mS} : ZP9 Prod.snd S (D_m_expect F a0 S) := by
  unfold D_m_expect
  repeat (with_reducible first | exact ZP9.ret | exact ZP9.ret2 | exact ZP9.none | exact (Z9_m_wrong) | refine ZP9.b2 (Z9_m_wrong) (fun _ => ?_) | refine ZP9.bs zp9_aput (fun _ => ?_) | refine ZP9.bs zp9_bput (fun _ => ?_) | refine ZP9.bs (zp9_fput (by decide)) (fun _ => ?_) | exact zp9_aput | exact zp9_bput | exact zp9_fput (by decide) | refine ZP9.bs (zp9_fpub (by decide)) (fun _ => ?_) | exact zp9_fpub (by decide) | refine ZP9.cond ?_ ?_ | refine ZP9.bp (fun _ => ?_))
theorem Z9_m_number_90 {F : Nat} {x3 : Int32} {S : mS} : ZP9 Prod.snd S (D_m_number_90 F x3 S) := by
  unfold D_m_number_90
  repeat (with_reducible first | exact ZP9.ret | exact ZP9.ret2 | exact ZP9.none | refine ZP9.bs zp9_aput (fun _ => ?_) | refine ZP9.bs zp9_bput (fun _ => ?_) | refine ZP9.bs (zp9_fput (by decide)) (fun _ => ?_) | exact zp9_aput | exact zp9_bput | exact zp9_fput (by decide) | refine ZP9.bs (zp9_fpub (by decide)) (fun _ => ?_) | exact zp9_fpub (by decide) | refine ZP9.cond ?_ ?_ | refine ZP9.bp (fun _ => ?_))
theorem Z9_m_number_79 {F : Nat} {x1 : Int32} {x2 : Int32} {x3 : Int32} {S : mS} : ZP9 Prod.snd S (D_m_number_79 F x1 x2 x3 S) := by
  unfold D_m_number_79
  repeat (with_reducible first | exact ZP9.ret | exact ZP9.ret2 | exact ZP9.none | exact (Z9_m_number_90) | refine ZP9.b2 (Z9_m_number_90) (fun _ => ?_) | exact (Z9_m_wrong) | refine ZP9.b2 (Z9_m_wrong) (fun _ => ?_) | refine ZP9.bs zp9_aput (fun _ => ?_) | refine ZP9.bs zp9_bput (fun _ => ?_) | refine ZP9.bs (zp9_fput (by decide)) (fun _ => ?_) | exact zp9_aput | exact zp9_bput | exact zp9_fput (by decide) | refine ZP9.bs (zp9_fpub (by decide)) (fun _ => ?_) | exact zp9_fpub (by decide) | refine ZP9.cond ?_ ?_ | refine ZP9.bp (fun _ => ?_))
theorem Z9_m_number_62 {F : Nat} {x1 : Int32} {x2 : Int32} {x3 : Int32} {S : mS} : ZP9 Prod.snd S (D_m_number_62 F x1 x2 x3 S) := by
  unfold D_m_number_62
  repeat (with_reducible first | exact ZP9.ret | exact ZP9.ret2 | exact ZP9.none | exact (Z9_m_number_79) | refine ZP9.b2 (Z9_m_number_79) (fun _ => ?_) | exact (Z9_m_wrong) | refine ZP9.b2 (Z9_m_wrong) (fun _ => ?_) | refine ZP9.bs zp9_aput (fun _ => ?_) | refine ZP9.bs zp9_bput (fun _ => ?_) | refine ZP9.bs (zp9_fput (by decide)) (fun _ => ?_) | exact zp9_aput | exact zp9_bput | exact zp9_fput (by decide) | refine ZP9.bs (zp9_fpub (by decide)) (fun _ => ?_) | exact zp9_fpub (by decide) | refine ZP9.cond ?_ ?_ | refine ZP9.bp (fun _ => ?_))
theorem Z9_m_number_16 {F : Nat}  : ∀ (n : Nat) (y0 : Int32) (y1 : Int32) (y2 : Int32) (S : mS), ZP9 Prod.snd S (D_m_number_16 F n y0 y1 y2 S) := by
  intro n
  induction n with
  | zero => intro y0 y1 y2 S; exact ZP9.none
  | succ n ih =>
    intro y0 y1 y2 S
    unfold D_m_number_16
    repeat (with_reducible first | exact ZP9.ret | exact ZP9.ret2 | exact ZP9.none | exact (Z9_m_number_62) | refine ZP9.b2 (Z9_m_number_62) (fun _ => ?_) | exact (ih _ _ _ _) | refine ZP9.b2 (ih _ _ _ _) (fun _ => ?_) | refine ZP9.bs zp9_aput (fun _ => ?_) | refine ZP9.bs zp9_bput (fun _ => ?_) | refine ZP9.bs (zp9_fput (by decide)) (fun _ => ?_) | exact zp9_aput | exact zp9_bput | exact zp9_fput (by decide) | refine ZP9.bs (zp9_fpub (by decide)) (fun _ => ?_) | exact zp9_fpub (by decide) | refine ZP9.cond ?_ ?_ | refine ZP9.bp (fun _ => ?_))
theorem Z9_m_number {F : Nat} {a0 : Int32} {S : mS} : ZP9 Prod.snd S (D_m_number F a0 S) := by
  unfold D_m_number
  repeat (with_reducible first | exact ZP9.ret | exact ZP9.ret2 | exact ZP9.none | exact (Z9_m_number_16 _ _ _ _ _) | refine ZP9.b2 (Z9_m_number_16 _ _ _ _ _) (fun _ => ?_) | refine ZP9.bs zp9_aput (fun _ => ?_) | refine ZP9.bs zp9_bput (fun _ => ?_) | refine ZP9.bs (zp9_fput (by decide)) (fun _ => ?_) | exact zp9_aput | exact zp9_bput | exact zp9_fput (by decide) | refine ZP9.bs (zp9_fpub (by decide)) (fun _ => ?_) | exact zp9_fpub (by decide) | refine ZP9.cond ?_ ?_ | refine ZP9.bp (fun _ => ?_))
theorem Z9_m_matching_132 {F : Nat} {rec27 : Int32 → mS → Option (mS)} {x1 : Int32} {S : mS} (hrec27 : ∀ (y0 : Int32) S, ZP9 (fun S => S) S (rec27 y0 S)) : ZP9 (fun S => S) S (D_m_matching_132 F rec27 x1 S) := by
  unfold D_m_matching_132
  repeat (with_reducible first | exact ZP9.ret | exact ZP9.ret2 | exact ZP9.none | exact (hrec27 _ _) | refine ZP9.bs (hrec27 _ _) (fun _ => ?_) | refine ZP9.bs zp9_aput (fun _ => ?_) | refine ZP9.bs zp9_bput (fun _ => ?_) | refine ZP9.bs (zp9_fput (by decide)) (fun _ => ?_) | exact zp9_aput | exact zp9_bput | exact zp9_fput (by decide) | refine ZP9.bs (zp9_fpub (by decide)) (fun _ => ?_) | exact zp9_fpub (by decide) | refine ZP9.cond ?_ ?_ | refine ZP9.bp (fun _ => ?_))
theorem Z9_m_matching_27 {F : Nat}  : ∀ (n : Nat) (y0 : Int32) (S : mS), ZP9 (fun S => S) S (D_m_matching_27 F n y0 S) := by
  intro n
  induction n with
  | zero => intro y0 S; exact ZP9.none
  | succ n ih =>
    intro y0 S
    unfold D_m_matching_27
    repeat (with_reducible first | exact ZP9.ret | exact ZP9.ret2 | exact ZP9.none | exact (Z9_m_expect) | refine ZP9.b2 (Z9_m_expect) (fun _ => ?_) | exact (Z9_m_number) | refine ZP9.b2 (Z9_m_number) (fun _ => ?_) | exact (Z9_m_matching_132 ih) | refine ZP9.bs (Z9_m_matching_132 ih) (fun _ => ?_) | exact (ih _ _) | refine ZP9.bs (ih _ _) (fun _ => ?_) | refine ZP9.bs zp9_aput (fun _ => ?_) | refine ZP9.bs zp9_bput (fun _ => ?_) | refine ZP9.bs (zp9_fput (by decide)) (fun _ => ?_) | exact zp9_aput | exact zp9_bput | exact zp9_fput (by decide) | refine ZP9.bs (zp9_fpub (by decide)) (fun _ => ?_) | exact zp9_fpub (by decide) | refine ZP9.cond ?_ ?_ | refine ZP9.bp (fun _ => ?_))
theorem Z9_m_matching {F : Nat} {S : mS} : ZP9 (fun S => S) S (D_m_matching F S) := by
  unfold D_m_matching
  repeat (with_reducible first | exact ZP9.ret | exact ZP9.ret2 | exact ZP9.none | exact (Z9_m_matching_27 _ _ _) | refine ZP9.bs (Z9_m_matching_27 _ _ _) (fun _ => ?_) | refine ZP9.bs zp9_aput (fun _ => ?_) | refine ZP9.bs zp9_bput (fun _ => ?_) | refine ZP9.bs (zp9_fput (by decide)) (fun _ => ?_) | exact zp9_aput | exact zp9_bput | exact zp9_fput (by decide) | refine ZP9.bs (zp9_fpub (by decide)) (fun _ => ?_) | exact zp9_fpub (by decide) | refine ZP9.cond ?_ ?_ | refine ZP9.bp (fun _ => ?_))
theorem Z9_m_tag {F : Nat} {S : mS} : ZP9 Prod.snd S (D_m_tag F S) := by
  unfold D_m_tag
  repeat (with_reducible first | exact ZP9.ret | exact ZP9.ret2 | exact ZP9.none | exact (Z9_m_expect) | refine ZP9.b2 (Z9_m_expect) (fun _ => ?_) | exact (Z9_m_number) | refine ZP9.b2 (Z9_m_number) (fun _ => ?_) | refine ZP9.bs zp9_aput (fun _ => ?_) | refine ZP9.bs zp9_bput (fun _ => ?_) | refine ZP9.bs (zp9_fput (by decide)) (fun _ => ?_) | exact zp9_aput | exact zp9_bput | exact zp9_fput (by decide) | refine ZP9.bs (zp9_fpub (by decide)) (fun _ => ?_) | exact zp9_fpub (by decide) | refine ZP9.cond ?_ ?_ | refine ZP9.bp (fun _ => ?_))
/-! Int 12 is not touched. -/
def ZP12 {α : Type} (π : α → mS) (S : mS) (o : Option α) : Prop := ∀ r, o = some r → (π r).1 12 = S.1 12
section
variable {α β : Type} {π : α → mS} {S : mS}
theorem ZP12.none : ZP12 π S (none : Option α) := fun _ h => by cases h
theorem ZP12.ret : ZP12 (fun S => S) S (some S) := fun r e => by cases e; rfl
theorem ZP12.ret2 {z : α} : ZP12 Prod.snd S (some (z, S)) := fun r e => by cases e; rfl
theorem ZP12.bp {o : Option β} {f : β → Option α} (h : ∀ z, ZP12 π S (f z)) : ZP12 π S (o.bind f) := fun r e => by
  obtain ⟨z, z1, z2⟩ := Option.bind_eq_some_iff.mp e
  exact h z r z2
theorem ZP12.bs {o : Option mS} {f : mS → Option α} (h0 : ZP12 (fun S => S) S o) (h : ∀ S1, ZP12 π S1 (f S1)) : ZP12 π S (o.bind f) := fun r e => by
  obtain ⟨z, z1, z2⟩ := Option.bind_eq_some_iff.mp e
  exact (h z r z2).trans (h0 z z1)
theorem ZP12.b2 {o : Option (β × mS)} {f : β × mS → Option α} (h0 : ZP12 Prod.snd S o) (h : ∀ q, ZP12 π q.2 (f q)) : ZP12 π S (o.bind f) := fun r e => by
  obtain ⟨z, z1, z2⟩ := Option.bind_eq_some_iff.mp e
  exact (h z r z2).trans (h0 z z1)
theorem ZP12.cond {q : Bool} {o p : Option α} (h1 : ZP12 π S o) (h2 : ZP12 π S p) : ZP12 π S (cond q o p) := by
  cases q
  · exact h2
  · exact h1
theorem zp12_aput {N a : Nat} {i x : Int32} : ZP12 (fun S => S) S (aput N S a i x) := fun r e => by
  unfold aput at e
  split at e
  · cases e; rfl
  · cases e
theorem zp12_bput {N a : Nat} {i x : Int32} : ZP12 (fun S => S) S (bput N S a i x) := fun r e => by
  unfold bput at e
  split at e
  · cases e; rfl
  · cases e
theorem zp12_fput {k : Nat} {x : Int32} (h : ¬ 12 = k) : ZP12 (fun S => S) S (fput S k x) := fun r e => by
  cases e
  exact if_neg h
theorem zp12_fpub {k : Nat} {x : Int32} (h : ¬ 12 = k) : ZP12 (fun S => S) S (fpub S k x) := fun r e => by
  unfold fpub at e
  split at e
  · cases e; exact if_neg h
  · cases e
end
theorem Z12_m_wrong {F : Nat} {a0 : Int32} {S : mS} : ZP12 Prod.snd S (D_m_wrong F a0 S) := by
  unfold D_m_wrong
  repeat (with_reducible first | exact ZP12.ret | exact ZP12.ret2 | exact ZP12.none | refine ZP12.bs zp12_aput (fun _ => ?_) | refine ZP12.bs zp12_bput (fun _ => ?_) | refine ZP12.bs (zp12_fput (by decide)) (fun _ => ?_) | exact zp12_aput | exact zp12_bput | exact zp12_fput (by decide) | refine ZP12.bs (zp12_fpub (by decide)) (fun _ => ?_) | exact zp12_fpub (by decide) | refine ZP12.cond ?_ ?_ | refine ZP12.bp (fun _ => ?_))
theorem Z12_m_expect {F : Nat} {a0 : Int32} {S : mS} : ZP12 Prod.snd S (D_m_expect F a0 S) := by
  unfold D_m_expect
  repeat (with_reducible first | exact ZP12.ret | exact ZP12.ret2 | exact ZP12.none | exact (Z12_m_wrong) | refine ZP12.b2 (Z12_m_wrong) (fun _ => ?_) | refine ZP12.bs zp12_aput (fun _ => ?_) | refine ZP12.bs zp12_bput (fun _ => ?_) | refine ZP12.bs (zp12_fput (by decide)) (fun _ => ?_) | exact zp12_aput | exact zp12_bput | exact zp12_fput (by decide) | refine ZP12.bs (zp12_fpub (by decide)) (fun _ => ?_) | exact zp12_fpub (by decide) | refine ZP12.cond ?_ ?_ | refine ZP12.bp (fun _ => ?_))
theorem Z12_m_number_90 {F : Nat} {x3 : Int32} {S : mS} : ZP12 Prod.snd S (D_m_number_90 F x3 S) := by
  unfold D_m_number_90
  repeat (with_reducible first | exact ZP12.ret | exact ZP12.ret2 | exact ZP12.none | refine ZP12.bs zp12_aput (fun _ => ?_) | refine ZP12.bs zp12_bput (fun _ => ?_) | refine ZP12.bs (zp12_fput (by decide)) (fun _ => ?_) | exact zp12_aput | exact zp12_bput | exact zp12_fput (by decide) | refine ZP12.bs (zp12_fpub (by decide)) (fun _ => ?_) | exact zp12_fpub (by decide) | refine ZP12.cond ?_ ?_ | refine ZP12.bp (fun _ => ?_))
theorem Z12_m_number_79 {F : Nat} {x1 : Int32} {x2 : Int32} {x3 : Int32} {S : mS} : ZP12 Prod.snd S (D_m_number_79 F x1 x2 x3 S) := by
  unfold D_m_number_79
  repeat (with_reducible first | exact ZP12.ret | exact ZP12.ret2 | exact ZP12.none | exact (Z12_m_number_90) | refine ZP12.b2 (Z12_m_number_90) (fun _ => ?_) | exact (Z12_m_wrong) | refine ZP12.b2 (Z12_m_wrong) (fun _ => ?_) | refine ZP12.bs zp12_aput (fun _ => ?_) | refine ZP12.bs zp12_bput (fun _ => ?_) | refine ZP12.bs (zp12_fput (by decide)) (fun _ => ?_) | exact zp12_aput | exact zp12_bput | exact zp12_fput (by decide) | refine ZP12.bs (zp12_fpub (by decide)) (fun _ => ?_) | exact zp12_fpub (by decide) | refine ZP12.cond ?_ ?_ | refine ZP12.bp (fun _ => ?_))
theorem Z12_m_number_62 {F : Nat} {x1 : Int32} {x2 : Int32} {x3 : Int32} {S : mS} : ZP12 Prod.snd S (D_m_number_62 F x1 x2 x3 S) := by
  unfold D_m_number_62
  repeat (with_reducible first | exact ZP12.ret | exact ZP12.ret2 | exact ZP12.none | exact (Z12_m_number_79) | refine ZP12.b2 (Z12_m_number_79) (fun _ => ?_) | exact (Z12_m_wrong) | refine ZP12.b2 (Z12_m_wrong) (fun _ => ?_) | refine ZP12.bs zp12_aput (fun _ => ?_) | refine ZP12.bs zp12_bput (fun _ => ?_) | refine ZP12.bs (zp12_fput (by decide)) (fun _ => ?_) | exact zp12_aput | exact zp12_bput | exact zp12_fput (by decide) | refine ZP12.bs (zp12_fpub (by decide)) (fun _ => ?_) | exact zp12_fpub (by decide) | refine ZP12.cond ?_ ?_ | refine ZP12.bp (fun _ => ?_))
theorem Z12_m_number_16 {F : Nat}  : ∀ (n : Nat) (y0 : Int32) (y1 : Int32) (y2 : Int32) (S : mS), ZP12 Prod.snd S (D_m_number_16 F n y0 y1 y2 S) := by
  intro n
  induction n with
  | zero => intro y0 y1 y2 S; exact ZP12.none
  | succ n ih =>
    intro y0 y1 y2 S
    unfold D_m_number_16
    repeat (with_reducible first | exact ZP12.ret | exact ZP12.ret2 | exact ZP12.none | exact (Z12_m_number_62) | refine ZP12.b2 (Z12_m_number_62) (fun _ => ?_) | exact (ih _ _ _ _) | refine ZP12.b2 (ih _ _ _ _) (fun _ => ?_) | refine ZP12.bs zp12_aput (fun _ => ?_) | refine ZP12.bs zp12_bput (fun _ => ?_) | refine ZP12.bs (zp12_fput (by decide)) (fun _ => ?_) | exact zp12_aput | exact zp12_bput | exact zp12_fput (by decide) | refine ZP12.bs (zp12_fpub (by decide)) (fun _ => ?_) | exact zp12_fpub (by decide) | refine ZP12.cond ?_ ?_ | refine ZP12.bp (fun _ => ?_))
theorem Z12_m_number {F : Nat} {a0 : Int32} {S : mS} : ZP12 Prod.snd S (D_m_number F a0 S) := by
  unfold D_m_number
  repeat (with_reducible first | exact ZP12.ret | exact ZP12.ret2 | exact ZP12.none | exact (Z12_m_number_16 _ _ _ _ _) | refine ZP12.b2 (Z12_m_number_16 _ _ _ _ _) (fun _ => ?_) | refine ZP12.bs zp12_aput (fun _ => ?_) | refine ZP12.bs zp12_bput (fun _ => ?_) | refine ZP12.bs (zp12_fput (by decide)) (fun _ => ?_) | exact zp12_aput | exact zp12_bput | exact zp12_fput (by decide) | refine ZP12.bs (zp12_fpub (by decide)) (fun _ => ?_) | exact zp12_fpub (by decide) | refine ZP12.cond ?_ ?_ | refine ZP12.bp (fun _ => ?_))
theorem Z12_m_expectWord_2 {F : Nat}  : ∀ (n : Nat) (y0 : Nat) (y1 : Int32) (S : mS), ZP12 Prod.snd S (D_m_expectWord_2 F n y0 y1 S) := by
  intro n
  induction n with
  | zero => intro y0 y1 S; exact ZP12.none
  | succ n ih =>
    intro y0 y1 S
    unfold D_m_expectWord_2
    repeat (with_reducible first | exact ZP12.ret | exact ZP12.ret2 | exact ZP12.none | exact (Z12_m_expect) | refine ZP12.b2 (Z12_m_expect) (fun _ => ?_) | exact (ih _ _ _) | refine ZP12.b2 (ih _ _ _) (fun _ => ?_) | refine ZP12.bs zp12_aput (fun _ => ?_) | refine ZP12.bs zp12_bput (fun _ => ?_) | refine ZP12.bs (zp12_fput (by decide)) (fun _ => ?_) | exact zp12_aput | exact zp12_bput | exact zp12_fput (by decide) | refine ZP12.bs (zp12_fpub (by decide)) (fun _ => ?_) | exact zp12_fpub (by decide) | refine ZP12.cond ?_ ?_ | refine ZP12.bp (fun _ => ?_))
theorem Z12_m_expectWord {F : Nat} {a0 : Nat} {S : mS} : ZP12 Prod.snd S (D_m_expectWord F a0 S) := by
  unfold D_m_expectWord
  repeat (with_reducible first | exact ZP12.ret | exact ZP12.ret2 | exact ZP12.none | exact (Z12_m_expectWord_2 _ _ _ _) | refine ZP12.b2 (Z12_m_expectWord_2 _ _ _ _) (fun _ => ?_) | refine ZP12.bs zp12_aput (fun _ => ?_) | refine ZP12.bs zp12_bput (fun _ => ?_) | refine ZP12.bs (zp12_fput (by decide)) (fun _ => ?_) | exact zp12_aput | exact zp12_bput | exact zp12_fput (by decide) | refine ZP12.bs (zp12_fpub (by decide)) (fun _ => ?_) | exact zp12_fpub (by decide) | refine ZP12.cond ?_ ?_ | refine ZP12.bp (fun _ => ?_))
theorem Z12_m_range {F : Nat} {S : mS} : ZP12 (fun S => S) S (D_m_range F S) := by
  unfold D_m_range
  repeat (with_reducible first | exact ZP12.ret | exact ZP12.ret2 | exact ZP12.none | exact (Z12_m_expectWord) | refine ZP12.b2 (Z12_m_expectWord) (fun _ => ?_) | exact (Z12_m_number) | refine ZP12.b2 (Z12_m_number) (fun _ => ?_) | exact (Z12_m_expect) | refine ZP12.b2 (Z12_m_expect) (fun _ => ?_) | refine ZP12.bs zp12_aput (fun _ => ?_) | refine ZP12.bs zp12_bput (fun _ => ?_) | refine ZP12.bs (zp12_fput (by decide)) (fun _ => ?_) | exact zp12_aput | exact zp12_bput | exact zp12_fput (by decide) | refine ZP12.bs (zp12_fpub (by decide)) (fun _ => ?_) | exact zp12_fpub (by decide) | refine ZP12.cond ?_ ?_ | refine ZP12.bp (fun _ => ?_))
theorem Z12_m_tag {F : Nat} {S : mS} : ZP12 Prod.snd S (D_m_tag F S) := by
  unfold D_m_tag
  repeat (with_reducible first | exact ZP12.ret | exact ZP12.ret2 | exact ZP12.none | exact (Z12_m_expect) | refine ZP12.b2 (Z12_m_expect) (fun _ => ?_) | exact (Z12_m_number) | refine ZP12.b2 (Z12_m_number) (fun _ => ?_) | refine ZP12.bs zp12_aput (fun _ => ?_) | refine ZP12.bs zp12_bput (fun _ => ?_) | refine ZP12.bs (zp12_fput (by decide)) (fun _ => ?_) | exact zp12_aput | exact zp12_bput | exact zp12_fput (by decide) | refine ZP12.bs (zp12_fpub (by decide)) (fun _ => ?_) | exact zp12_fpub (by decide) | refine ZP12.cond ?_ ?_ | refine ZP12.bp (fun _ => ?_))
