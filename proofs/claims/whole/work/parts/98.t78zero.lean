/-! What is wrong is not touched. -/
def ZP {α : Type} (π : α → mS) (S : mS) (o : Option α) : Prop := ∀ r, o = some r → (π r).1 0 = S.1 0
section
variable {α β : Type} {π : α → mS} {S : mS}
theorem ZP.none : ZP π S (none : Option α) := fun _ h => by cases h
theorem ZP.ret : ZP (fun S => S) S (some S) := fun r e => by cases e; rfl
theorem ZP.ret2 {z : α} : ZP Prod.snd S (some (z, S)) := fun r e => by cases e; rfl
theorem ZP.bp {o : Option β} {f : β → Option α} (h : ∀ z, ZP π S (f z)) : ZP π S (o.bind f) := fun r e => by
  obtain ⟨z, z1, z2⟩ := Option.bind_eq_some_iff.mp e
  exact h z r z2
theorem ZP.bs {o : Option mS} {f : mS → Option α} (h0 : ZP (fun S => S) S o) (h : ∀ S1, ZP π S1 (f S1)) : ZP π S (o.bind f) := fun r e => by
  obtain ⟨z, z1, z2⟩ := Option.bind_eq_some_iff.mp e
  exact (h z r z2).trans (h0 z z1)
theorem ZP.b2 {o : Option (β × mS)} {f : β × mS → Option α} (h0 : ZP Prod.snd S o) (h : ∀ q, ZP π q.2 (f q)) : ZP π S (o.bind f) := fun r e => by
  obtain ⟨z, z1, z2⟩ := Option.bind_eq_some_iff.mp e
  exact (h z r z2).trans (h0 z z1)
theorem ZP.cond {q : Bool} {o p : Option α} (h1 : ZP π S o) (h2 : ZP π S p) : ZP π S (cond q o p) := by
  cases q
  · exact h2
  · exact h1
theorem zp_aput {N a : Nat} {i x : Int32} : ZP (fun S => S) S (aput N S a i x) := fun r e => by
  unfold aput at e
  split at e
  · cases e; rfl
  · cases e
theorem zp_bput {N a : Nat} {i x : Int32} : ZP (fun S => S) S (bput N S a i x) := fun r e => by
  unfold bput at e
  split at e
  · cases e; rfl
  · cases e
theorem zp_fput {k : Nat} {x : Int32} (h : ¬ 0 = k) : ZP (fun S => S) S (fput S k x) := fun r e => by
  cases e
  exact if_neg h
end
theorem Z_m_close {F : Nat} {a0 : Int32} {a1 : Int32} {a2 : Int32} {a3 : Int32} {S : mS} : ZP (fun S => S) S (D_m_close F a0 a1 a2 a3 S) := by
  unfold D_m_close
  repeat (with_reducible first | exact ZP.ret | exact ZP.ret2 | exact ZP.none | refine ZP.bs zp_aput (fun _ => ?_) | refine ZP.bs zp_bput (fun _ => ?_) | refine ZP.bs (zp_fput (by decide)) (fun _ => ?_) | exact zp_aput | exact zp_bput | exact zp_fput (by decide) | refine ZP.cond ?_ ?_ | refine ZP.bp (fun _ => ?_))
theorem Z_m_blank_3 {F : Nat}  : ∀ (n : Nat) (y0 : Int32) (y1 : Int32) (y2 : Int32) (y3 : Int32) (y4 : Int32) (y5 : Int32) (S : mS), ZP (fun S => S) S (D_m_blank_3 F n y0 y1 y2 y3 y4 y5 S) := by
  intro n
  induction n with
  | zero => intro y0 y1 y2 y3 y4 y5 S; exact ZP.none
  | succ n ih =>
    intro y0 y1 y2 y3 y4 y5 S
    unfold D_m_blank_3
    repeat (with_reducible first | exact ZP.ret | exact ZP.ret2 | exact ZP.none | exact (ih _ _ _ _ _ _ _) | refine ZP.bs (ih _ _ _ _ _ _ _) (fun _ => ?_) | refine ZP.bs zp_aput (fun _ => ?_) | refine ZP.bs zp_bput (fun _ => ?_) | refine ZP.bs (zp_fput (by decide)) (fun _ => ?_) | exact zp_aput | exact zp_bput | exact zp_fput (by decide) | refine ZP.cond ?_ ?_ | refine ZP.bp (fun _ => ?_))
theorem Z_m_blank {F : Nat} {a0 : Int32} {a1 : Int32} {a2 : Int32} {a3 : Int32} {a4 : Int32} {S : mS} : ZP (fun S => S) S (D_m_blank F a0 a1 a2 a3 a4 S) := by
  unfold D_m_blank
  repeat (with_reducible first | exact ZP.ret | exact ZP.ret2 | exact ZP.none | exact (Z_m_blank_3 _ _ _ _ _ _ _ _) | refine ZP.bs (Z_m_blank_3 _ _ _ _ _ _ _ _) (fun _ => ?_) | refine ZP.bs zp_aput (fun _ => ?_) | refine ZP.bs zp_bput (fun _ => ?_) | refine ZP.bs (zp_fput (by decide)) (fun _ => ?_) | exact zp_aput | exact zp_bput | exact zp_fput (by decide) | refine ZP.cond ?_ ?_ | refine ZP.bp (fun _ => ?_))
theorem Z_m_post_22 {F : Nat}  : ∀ (n : Nat) (y0 : Int32) (S : mS), ZP (fun S => S) S (D_m_post_22 F n y0 S) := by
  intro n
  induction n with
  | zero => intro y0 S; exact ZP.none
  | succ n ih =>
    intro y0 S
    unfold D_m_post_22
    repeat (with_reducible first | exact ZP.ret | exact ZP.ret2 | exact ZP.none | exact (ih _ _) | refine ZP.bs (ih _ _) (fun _ => ?_) | refine ZP.bs zp_aput (fun _ => ?_) | refine ZP.bs zp_bput (fun _ => ?_) | refine ZP.bs (zp_fput (by decide)) (fun _ => ?_) | exact zp_aput | exact zp_bput | exact zp_fput (by decide) | refine ZP.cond ?_ ?_ | refine ZP.bp (fun _ => ?_))
theorem Z_m_post {F : Nat} {S : mS} : ZP (fun S => S) S (D_m_post F S) := by
  unfold D_m_post
  repeat (with_reducible first | exact ZP.ret | exact ZP.ret2 | exact ZP.none | exact (Z_m_post_22 _ _ _) | refine ZP.bs (Z_m_post_22 _ _ _) (fun _ => ?_) | refine ZP.bs zp_aput (fun _ => ?_) | refine ZP.bs zp_bput (fun _ => ?_) | refine ZP.bs (zp_fput (by decide)) (fun _ => ?_) | exact zp_aput | exact zp_bput | exact zp_fput (by decide) | refine ZP.cond ?_ ?_ | refine ZP.bp (fun _ => ?_))
theorem Z_m_give_209 {F : Nat}  : ∀ (n : Nat) (y0 : Int32) (S : mS), ZP (fun S => S) S (D_m_give_209 F n y0 S) := by
  intro n
  induction n with
  | zero => intro y0 S; exact ZP.none
  | succ n ih =>
    intro y0 S
    unfold D_m_give_209
    repeat (with_reducible first | exact ZP.ret | exact ZP.ret2 | exact ZP.none | exact (Z_m_post) | refine ZP.bs (Z_m_post) (fun _ => ?_) | exact (ih _ _) | refine ZP.bs (ih _ _) (fun _ => ?_) | refine ZP.bs zp_aput (fun _ => ?_) | refine ZP.bs zp_bput (fun _ => ?_) | refine ZP.bs (zp_fput (by decide)) (fun _ => ?_) | exact zp_aput | exact zp_bput | exact zp_fput (by decide) | refine ZP.cond ?_ ?_ | refine ZP.bp (fun _ => ?_))
theorem Z_m_give {F : Nat} {a0 : Int32} {a1 : Int32} {S : mS} : ZP (fun S => S) S (D_m_give F a0 a1 S) := by
  unfold D_m_give
  repeat (with_reducible first | exact ZP.ret | exact ZP.ret2 | exact ZP.none | exact (Z_m_blank) | refine ZP.bs (Z_m_blank) (fun _ => ?_) | exact (Z_m_give_209 _ _ _) | refine ZP.bs (Z_m_give_209 _ _ _) (fun _ => ?_) | exact (Z_m_close) | refine ZP.bs (Z_m_close) (fun _ => ?_) | refine ZP.bs zp_aput (fun _ => ?_) | refine ZP.bs zp_bput (fun _ => ?_) | refine ZP.bs (zp_fput (by decide)) (fun _ => ?_) | exact zp_aput | exact zp_bput | exact zp_fput (by decide) | refine ZP.cond ?_ ?_ | refine ZP.bp (fun _ => ?_))
theorem Z_m_serve_3 {F : Nat}  : ∀ (n : Nat) (y0 : Int32) (y1 : Int32) (y2 : Int32) (y3 : Int32) (S : mS), ZP (fun S => S) S (D_m_serve_3 F n y0 y1 y2 y3 S) := by
  intro n
  induction n with
  | zero => intro y0 y1 y2 y3 S; exact ZP.none
  | succ n ih =>
    intro y0 y1 y2 y3 S
    unfold D_m_serve_3
    repeat (with_reducible first | exact ZP.ret | exact ZP.ret2 | exact ZP.none | exact (Z_m_give) | refine ZP.bs (Z_m_give) (fun _ => ?_) | exact (ih _ _ _ _ _) | refine ZP.bs (ih _ _ _ _ _) (fun _ => ?_) | refine ZP.bs zp_aput (fun _ => ?_) | refine ZP.bs zp_bput (fun _ => ?_) | refine ZP.bs (zp_fput (by decide)) (fun _ => ?_) | exact zp_aput | exact zp_bput | exact zp_fput (by decide) | refine ZP.cond ?_ ?_ | refine ZP.bp (fun _ => ?_))
theorem Z_m_serve {F : Nat} {a0 : Int32} {a1 : Int32} {a2 : Int32} {S : mS} : ZP (fun S => S) S (D_m_serve F a0 a1 a2 S) := by
  unfold D_m_serve
  repeat (with_reducible first | exact ZP.ret | exact ZP.ret2 | exact ZP.none | exact (Z_m_serve_3 _ _ _ _ _ _) | refine ZP.bs (Z_m_serve_3 _ _ _ _ _ _) (fun _ => ?_) | refine ZP.bs zp_aput (fun _ => ?_) | refine ZP.bs zp_bput (fun _ => ?_) | refine ZP.bs (zp_fput (by decide)) (fun _ => ?_) | exact zp_aput | exact zp_bput | exact zp_fput (by decide) | refine ZP.cond ?_ ?_ | refine ZP.bp (fun _ => ?_))
theorem Z_m_refuse {F : Nat} {a0 : Int32} {a1 : Int32} {S : mS} : ZP (fun S => S) S (D_m_refuse F a0 a1 S) := by
  unfold D_m_refuse
  repeat (with_reducible first | exact ZP.ret | exact ZP.ret2 | exact ZP.none | exact (Z_m_blank) | refine ZP.bs (Z_m_blank) (fun _ => ?_) | exact (Z_m_post) | refine ZP.bs (Z_m_post) (fun _ => ?_) | exact (Z_m_close) | refine ZP.bs (Z_m_close) (fun _ => ?_) | refine ZP.bs zp_aput (fun _ => ?_) | refine ZP.bs zp_bput (fun _ => ?_) | refine ZP.bs (zp_fput (by decide)) (fun _ => ?_) | exact zp_aput | exact zp_bput | exact zp_fput (by decide) | refine ZP.cond ?_ ?_ | refine ZP.bp (fun _ => ?_))
theorem Z_m_giveUp_81 {F : Nat} {x1 : Int32} {S : mS} : ZP (fun S => S) S (D_m_giveUp_81 F x1 S) := by
  unfold D_m_giveUp_81
  repeat (with_reducible first | exact ZP.ret | exact ZP.ret2 | exact ZP.none | exact (Z_m_refuse) | refine ZP.bs (Z_m_refuse) (fun _ => ?_) | refine ZP.bs zp_aput (fun _ => ?_) | refine ZP.bs zp_bput (fun _ => ?_) | refine ZP.bs (zp_fput (by decide)) (fun _ => ?_) | exact zp_aput | exact zp_bput | exact zp_fput (by decide) | refine ZP.cond ?_ ?_ | refine ZP.bp (fun _ => ?_))
theorem Z_m_giveUp {F : Nat} {a0 : Int32} {S : mS} : ZP (fun S => S) S (D_m_giveUp F a0 S) := by
  unfold D_m_giveUp
  repeat (with_reducible first | exact ZP.ret | exact ZP.ret2 | exact ZP.none | exact (Z_m_giveUp_81) | refine ZP.bs (Z_m_giveUp_81) (fun _ => ?_) | exact (Z_m_serve) | refine ZP.bs (Z_m_serve) (fun _ => ?_) | refine ZP.bs zp_aput (fun _ => ?_) | refine ZP.bs zp_bput (fun _ => ?_) | refine ZP.bs (zp_fput (by decide)) (fun _ => ?_) | exact zp_aput | exact zp_bput | exact zp_fput (by decide) | refine ZP.cond ?_ ?_ | refine ZP.bp (fun _ => ?_))
theorem Z_m_take_128 {F : Nat} {rec8 : Int32 → Int32 → Int32 → Int32 → Int32 → mS → Option (Int32 × mS)} {rec62 : Int32 → Int32 → Int32 → Int32 → Int32 → Int32 → Int32 → mS → Option (Int32 × mS)} {x1 : Int32} {x2 : Int32} {x3 : Int32} {x4 : Int32} {x5 : Int32} {x6 : Int32} {x7 : Int32} {S : mS} (hrec8 : ∀ (y0 : Int32) (y1 : Int32) (y2 : Int32) (y3 : Int32) (y4 : Int32) S, ZP Prod.snd S (rec8 y0 y1 y2 y3 y4 S)) (hrec62 : ∀ (y0 : Int32) (y1 : Int32) (y2 : Int32) (y3 : Int32) (y4 : Int32) (y5 : Int32) (y6 : Int32) S, ZP Prod.snd S (rec62 y0 y1 y2 y3 y4 y5 y6 S)) : ZP Prod.snd S (D_m_take_128 F rec8 rec62 x1 x2 x3 x4 x5 x6 x7 S) := by
  unfold D_m_take_128
  repeat (with_reducible first | exact ZP.ret | exact ZP.ret2 | exact ZP.none | exact (hrec8 _ _ _ _ _ _) | refine ZP.b2 (hrec8 _ _ _ _ _ _) (fun _ => ?_) | exact (hrec62 _ _ _ _ _ _ _ _) | refine ZP.b2 (hrec62 _ _ _ _ _ _ _ _) (fun _ => ?_) | refine ZP.bs zp_aput (fun _ => ?_) | refine ZP.bs zp_bput (fun _ => ?_) | refine ZP.bs (zp_fput (by decide)) (fun _ => ?_) | exact zp_aput | exact zp_bput | exact zp_fput (by decide) | refine ZP.cond ?_ ?_ | refine ZP.bp (fun _ => ?_))
theorem Z_m_take_62 {F : Nat} {rec8 : Int32 → Int32 → Int32 → Int32 → Int32 → mS → Option (Int32 × mS)} (hrec8 : ∀ (y0 : Int32) (y1 : Int32) (y2 : Int32) (y3 : Int32) (y4 : Int32) S, ZP Prod.snd S (rec8 y0 y1 y2 y3 y4 S)) : ∀ (n : Nat) (y0 : Int32) (y1 : Int32) (y2 : Int32) (y3 : Int32) (y4 : Int32) (y5 : Int32) (y6 : Int32) (S : mS), ZP Prod.snd S (D_m_take_62 F rec8 n y0 y1 y2 y3 y4 y5 y6 S) := by
  intro n
  induction n with
  | zero => intro y0 y1 y2 y3 y4 y5 y6 S; exact ZP.none
  | succ n ih =>
    intro y0 y1 y2 y3 y4 y5 y6 S
    unfold D_m_take_62
    repeat (with_reducible first | exact ZP.ret | exact ZP.ret2 | exact ZP.none | exact (Z_m_take_128 hrec8 ih) | refine ZP.b2 (Z_m_take_128 hrec8 ih) (fun _ => ?_) | exact (hrec8 _ _ _ _ _ _) | refine ZP.b2 (hrec8 _ _ _ _ _ _) (fun _ => ?_) | exact (ih _ _ _ _ _ _ _ _) | refine ZP.b2 (ih _ _ _ _ _ _ _ _) (fun _ => ?_) | refine ZP.bs zp_aput (fun _ => ?_) | refine ZP.bs zp_bput (fun _ => ?_) | refine ZP.bs (zp_fput (by decide)) (fun _ => ?_) | exact zp_aput | exact zp_bput | exact zp_fput (by decide) | refine ZP.cond ?_ ?_ | refine ZP.bp (fun _ => ?_))
theorem Z_m_take_8 {F : Nat}  : ∀ (n : Nat) (y0 : Int32) (y1 : Int32) (y2 : Int32) (y3 : Int32) (y4 : Int32) (S : mS), ZP Prod.snd S (D_m_take_8 F n y0 y1 y2 y3 y4 S) := by
  intro n
  induction n with
  | zero => intro y0 y1 y2 y3 y4 S; exact ZP.none
  | succ n ih =>
    intro y0 y1 y2 y3 y4 S
    unfold D_m_take_8
    repeat (with_reducible first | exact ZP.ret | exact ZP.ret2 | exact ZP.none | exact (Z_m_take_62 ih _ _ _ _ _ _ _ _ _) | refine ZP.b2 (Z_m_take_62 ih _ _ _ _ _ _ _ _ _) (fun _ => ?_) | exact (ih _ _ _ _ _ _) | refine ZP.b2 (ih _ _ _ _ _ _) (fun _ => ?_) | refine ZP.bs zp_aput (fun _ => ?_) | refine ZP.bs zp_bput (fun _ => ?_) | refine ZP.bs (zp_fput (by decide)) (fun _ => ?_) | exact zp_aput | exact zp_bput | exact zp_fput (by decide) | refine ZP.cond ?_ ?_ | refine ZP.bp (fun _ => ?_))
theorem Z_m_take {F : Nat} {a0 : Int32} {a1 : Int32} {S : mS} : ZP Prod.snd S (D_m_take F a0 a1 S) := by
  unfold D_m_take
  repeat (with_reducible first | exact ZP.ret | exact ZP.ret2 | exact ZP.none | exact (Z_m_take_8 _ _ _ _ _ _ _) | refine ZP.b2 (Z_m_take_8 _ _ _ _ _ _ _) (fun _ => ?_) | refine ZP.bs zp_aput (fun _ => ?_) | refine ZP.bs zp_bput (fun _ => ?_) | refine ZP.bs (zp_fput (by decide)) (fun _ => ?_) | exact zp_aput | exact zp_bput | exact zp_fput (by decide) | refine ZP.cond ?_ ?_ | refine ZP.bp (fun _ => ?_))
theorem Z_m_again_7 {F : Nat}  : ∀ (n : Nat) (y0 : Int32) (y1 : Int32) (y2 : Int32) (S : mS), ZP Prod.snd S (D_m_again_7 F n y0 y1 y2 S) := by
  intro n
  induction n with
  | zero => intro y0 y1 y2 S; exact ZP.none
  | succ n ih =>
    intro y0 y1 y2 S
    unfold D_m_again_7
    repeat (with_reducible first | exact ZP.ret | exact ZP.ret2 | exact ZP.none | exact (ih _ _ _ _) | refine ZP.b2 (ih _ _ _ _) (fun _ => ?_) | refine ZP.bs zp_aput (fun _ => ?_) | refine ZP.bs zp_bput (fun _ => ?_) | refine ZP.bs (zp_fput (by decide)) (fun _ => ?_) | exact zp_aput | exact zp_bput | exact zp_fput (by decide) | refine ZP.cond ?_ ?_ | refine ZP.bp (fun _ => ?_))
theorem Z_m_again {F : Nat} {a0 : Int32} {S : mS} : ZP Prod.snd S (D_m_again F a0 S) := by
  unfold D_m_again
  repeat (with_reducible first | exact ZP.ret | exact ZP.ret2 | exact ZP.none | exact (Z_m_again_7 _ _ _ _ _) | refine ZP.b2 (Z_m_again_7 _ _ _ _ _) (fun _ => ?_) | refine ZP.bs zp_aput (fun _ => ?_) | refine ZP.bs zp_bput (fun _ => ?_) | refine ZP.bs (zp_fput (by decide)) (fun _ => ?_) | exact zp_aput | exact zp_bput | exact zp_fput (by decide) | refine ZP.cond ?_ ?_ | refine ZP.bp (fun _ => ?_))
theorem Z_m_failAll_23 {F : Nat}  : ∀ (n : Nat) (y0 : Int32) (y1 : Int32) (S : mS), ZP (fun S => S) S (D_m_failAll_23 F n y0 y1 S) := by
  intro n
  induction n with
  | zero => intro y0 y1 S; exact ZP.none
  | succ n ih =>
    intro y0 y1 S
    unfold D_m_failAll_23
    repeat (with_reducible first | exact ZP.ret | exact ZP.ret2 | exact ZP.none | exact (Z_m_again) | refine ZP.b2 (Z_m_again) (fun _ => ?_) | exact (Z_m_giveUp) | refine ZP.bs (Z_m_giveUp) (fun _ => ?_) | exact (ih _ _ _) | refine ZP.bs (ih _ _ _) (fun _ => ?_) | refine ZP.bs zp_aput (fun _ => ?_) | refine ZP.bs zp_bput (fun _ => ?_) | refine ZP.bs (zp_fput (by decide)) (fun _ => ?_) | exact zp_aput | exact zp_bput | exact zp_fput (by decide) | refine ZP.cond ?_ ?_ | refine ZP.bp (fun _ => ?_))
theorem Z_m_failAll {F : Nat} {a0 : Int32} {a1 : Int32} {S : mS} : ZP (fun S => S) S (D_m_failAll F a0 a1 S) := by
  unfold D_m_failAll
  repeat (with_reducible first | exact ZP.ret | exact ZP.ret2 | exact ZP.none | exact (Z_m_take) | refine ZP.b2 (Z_m_take) (fun _ => ?_) | exact (Z_m_failAll_23 _ _ _ _) | refine ZP.bs (Z_m_failAll_23 _ _ _ _) (fun _ => ?_) | refine ZP.bs zp_aput (fun _ => ?_) | refine ZP.bs zp_bput (fun _ => ?_) | refine ZP.bs (zp_fput (by decide)) (fun _ => ?_) | exact zp_aput | exact zp_bput | exact zp_fput (by decide) | refine ZP.cond ?_ ?_ | refine ZP.bp (fun _ => ?_))
theorem Z_m_strike {F : Nat} {a0 : Int32} {a1 : Int32} {S : mS} : ZP (fun S => S) S (D_m_strike F a0 a1 S) := by
  unfold D_m_strike
  repeat (with_reducible first | exact ZP.ret | exact ZP.ret2 | exact ZP.none | refine ZP.bs zp_aput (fun _ => ?_) | refine ZP.bs zp_bput (fun _ => ?_) | refine ZP.bs (zp_fput (by decide)) (fun _ => ?_) | exact zp_aput | exact zp_bput | exact zp_fput (by decide) | refine ZP.cond ?_ ?_ | refine ZP.bp (fun _ => ?_))
theorem Z_m_lapse_75 {F : Nat} {rec2 : Int32 → Int32 → mS → Option (mS)} {rec15 : Int32 → Int32 → Int32 → mS → Option (mS)} {x1 : Int32} {x2 : Int32} {x3 : Int32} {S : mS} (hrec2 : ∀ (y0 : Int32) (y1 : Int32) S, ZP (fun S => S) S (rec2 y0 y1 S)) (hrec15 : ∀ (y0 : Int32) (y1 : Int32) (y2 : Int32) S, ZP (fun S => S) S (rec15 y0 y1 y2 S)) : ZP (fun S => S) S (D_m_lapse_75 F rec2 rec15 x1 x2 x3 S) := by
  unfold D_m_lapse_75
  repeat (with_reducible first | exact ZP.ret | exact ZP.ret2 | exact ZP.none | exact (hrec2 _ _ _) | refine ZP.bs (hrec2 _ _ _) (fun _ => ?_) | exact (hrec15 _ _ _ _) | refine ZP.bs (hrec15 _ _ _ _) (fun _ => ?_) | refine ZP.bs zp_aput (fun _ => ?_) | refine ZP.bs zp_bput (fun _ => ?_) | refine ZP.bs (zp_fput (by decide)) (fun _ => ?_) | exact zp_aput | exact zp_bput | exact zp_fput (by decide) | refine ZP.cond ?_ ?_ | refine ZP.bp (fun _ => ?_))
theorem Z_m_lapse_73 {F : Nat} {rec2 : Int32 → Int32 → mS → Option (mS)} {rec15 : Int32 → Int32 → Int32 → mS → Option (mS)} {x1 : Int32} {x3 : Int32} {S : mS} (hrec2 : ∀ (y0 : Int32) (y1 : Int32) S, ZP (fun S => S) S (rec2 y0 y1 S)) (hrec15 : ∀ (y0 : Int32) (y1 : Int32) (y2 : Int32) S, ZP (fun S => S) S (rec15 y0 y1 y2 S)) : ZP (fun S => S) S (D_m_lapse_73 F rec2 rec15 x1 x3 S) := by
  unfold D_m_lapse_73
  repeat (with_reducible first | exact ZP.ret | exact ZP.ret2 | exact ZP.none | exact (Z_m_lapse_75 hrec2 hrec15) | refine ZP.bs (Z_m_lapse_75 hrec2 hrec15) (fun _ => ?_) | exact (hrec2 _ _ _) | refine ZP.bs (hrec2 _ _ _) (fun _ => ?_) | exact (hrec15 _ _ _ _) | refine ZP.bs (hrec15 _ _ _ _) (fun _ => ?_) | refine ZP.bs zp_aput (fun _ => ?_) | refine ZP.bs zp_bput (fun _ => ?_) | refine ZP.bs (zp_fput (by decide)) (fun _ => ?_) | exact zp_aput | exact zp_bput | exact zp_fput (by decide) | refine ZP.cond ?_ ?_ | refine ZP.bp (fun _ => ?_))
theorem Z_m_lapse_105 {F : Nat} {rec2 : Int32 → Int32 → mS → Option (mS)} {x1 : Int32} {x2 : Int32} {S : mS} (hrec2 : ∀ (y0 : Int32) (y1 : Int32) S, ZP (fun S => S) S (rec2 y0 y1 S)) : ZP (fun S => S) S (D_m_lapse_105 F rec2 x1 x2 S) := by
  unfold D_m_lapse_105
  repeat (with_reducible first | exact ZP.ret | exact ZP.ret2 | exact ZP.none | exact (Z_m_failAll) | refine ZP.bs (Z_m_failAll) (fun _ => ?_) | exact (hrec2 _ _ _) | refine ZP.bs (hrec2 _ _ _) (fun _ => ?_) | refine ZP.bs zp_aput (fun _ => ?_) | refine ZP.bs zp_bput (fun _ => ?_) | refine ZP.bs (zp_fput (by decide)) (fun _ => ?_) | exact zp_aput | exact zp_bput | exact zp_fput (by decide) | refine ZP.cond ?_ ?_ | refine ZP.bp (fun _ => ?_))
theorem Z_m_lapse_15 {F : Nat} {rec2 : Int32 → Int32 → mS → Option (mS)} (hrec2 : ∀ (y0 : Int32) (y1 : Int32) S, ZP (fun S => S) S (rec2 y0 y1 S)) : ∀ (n : Nat) (y0 : Int32) (y1 : Int32) (y2 : Int32) (S : mS), ZP (fun S => S) S (D_m_lapse_15 F rec2 n y0 y1 y2 S) := by
  intro n
  induction n with
  | zero => intro y0 y1 y2 S; exact ZP.none
  | succ n ih =>
    intro y0 y1 y2 S
    unfold D_m_lapse_15
    repeat (with_reducible first | exact ZP.ret | exact ZP.ret2 | exact ZP.none | exact (Z_m_lapse_105 hrec2) | refine ZP.bs (Z_m_lapse_105 hrec2) (fun _ => ?_) | exact (Z_m_strike) | refine ZP.bs (Z_m_strike) (fun _ => ?_) | exact (Z_m_lapse_75 hrec2 ih) | refine ZP.bs (Z_m_lapse_75 hrec2 ih) (fun _ => ?_) | exact (Z_m_lapse_73 hrec2 ih) | refine ZP.bs (Z_m_lapse_73 hrec2 ih) (fun _ => ?_) | exact (hrec2 _ _ _) | refine ZP.bs (hrec2 _ _ _) (fun _ => ?_) | exact (ih _ _ _ _) | refine ZP.bs (ih _ _ _ _) (fun _ => ?_) | refine ZP.bs zp_aput (fun _ => ?_) | refine ZP.bs zp_bput (fun _ => ?_) | refine ZP.bs (zp_fput (by decide)) (fun _ => ?_) | exact zp_aput | exact zp_bput | exact zp_fput (by decide) | refine ZP.cond ?_ ?_ | refine ZP.bp (fun _ => ?_))
theorem Z_m_lapse_2 {F : Nat}  : ∀ (n : Nat) (y0 : Int32) (y1 : Int32) (S : mS), ZP (fun S => S) S (D_m_lapse_2 F n y0 y1 S) := by
  intro n
  induction n with
  | zero => intro y0 y1 S; exact ZP.none
  | succ n ih =>
    intro y0 y1 S
    unfold D_m_lapse_2
    repeat (with_reducible first | exact ZP.ret | exact ZP.ret2 | exact ZP.none | exact (Z_m_lapse_15 ih _ _ _ _ _) | refine ZP.bs (Z_m_lapse_15 ih _ _ _ _ _) (fun _ => ?_) | exact (ih _ _ _) | refine ZP.bs (ih _ _ _) (fun _ => ?_) | refine ZP.bs zp_aput (fun _ => ?_) | refine ZP.bs zp_bput (fun _ => ?_) | refine ZP.bs (zp_fput (by decide)) (fun _ => ?_) | exact zp_aput | exact zp_bput | exact zp_fput (by decide) | refine ZP.cond ?_ ?_ | refine ZP.bp (fun _ => ?_))
theorem Z_m_lapse {F : Nat} {a0 : Int32} {S : mS} : ZP (fun S => S) S (D_m_lapse F a0 S) := by
  unfold D_m_lapse
  repeat (with_reducible first | exact ZP.ret | exact ZP.ret2 | exact ZP.none | exact (Z_m_lapse_2 _ _ _ _) | refine ZP.bs (Z_m_lapse_2 _ _ _ _) (fun _ => ?_) | refine ZP.bs zp_aput (fun _ => ?_) | refine ZP.bs zp_bput (fun _ => ?_) | refine ZP.bs (zp_fput (by decide)) (fun _ => ?_) | exact zp_aput | exact zp_bput | exact zp_fput (by decide) | refine ZP.cond ?_ ?_ | refine ZP.bp (fun _ => ?_))
theorem Z_m_tick_48 {F : Nat} {rec31 : Int32 → Int32 → mS → Option (Int32 × mS)} (hrec31 : ∀ (y0 : Int32) (y1 : Int32) S, ZP Prod.snd S (rec31 y0 y1 S)) : ∀ (n : Nat) (y0 : Int32) (y1 : Int32) (y2 : Int32) (S : mS), ZP Prod.snd S (D_m_tick_48 F rec31 n y0 y1 y2 S) := by
  intro n
  induction n with
  | zero => intro y0 y1 y2 S; exact ZP.none
  | succ n ih =>
    intro y0 y1 y2 S
    unfold D_m_tick_48
    repeat (with_reducible first | exact ZP.ret | exact ZP.ret2 | exact ZP.none | exact (Z_m_lapse) | refine ZP.bs (Z_m_lapse) (fun _ => ?_) | exact (hrec31 _ _ _) | refine ZP.b2 (hrec31 _ _ _) (fun _ => ?_) | exact (ih _ _ _ _) | refine ZP.b2 (ih _ _ _ _) (fun _ => ?_) | refine ZP.bs zp_aput (fun _ => ?_) | refine ZP.bs zp_bput (fun _ => ?_) | refine ZP.bs (zp_fput (by decide)) (fun _ => ?_) | exact zp_aput | exact zp_bput | exact zp_fput (by decide) | refine ZP.cond ?_ ?_ | refine ZP.bp (fun _ => ?_))
theorem Z_m_tick_31 {F : Nat}  : ∀ (n : Nat) (y0 : Int32) (y1 : Int32) (S : mS), ZP Prod.snd S (D_m_tick_31 F n y0 y1 S) := by
  intro n
  induction n with
  | zero => intro y0 y1 S; exact ZP.none
  | succ n ih =>
    intro y0 y1 S
    unfold D_m_tick_31
    repeat (with_reducible first | exact ZP.ret | exact ZP.ret2 | exact ZP.none | exact (Z_m_tick_48 ih _ _ _ _ _) | refine ZP.b2 (Z_m_tick_48 ih _ _ _ _ _) (fun _ => ?_) | exact (ih _ _ _) | refine ZP.b2 (ih _ _ _) (fun _ => ?_) | refine ZP.bs zp_aput (fun _ => ?_) | refine ZP.bs zp_bput (fun _ => ?_) | refine ZP.bs (zp_fput (by decide)) (fun _ => ?_) | exact zp_aput | exact zp_bput | exact zp_fput (by decide) | refine ZP.cond ?_ ?_ | refine ZP.bp (fun _ => ?_))
