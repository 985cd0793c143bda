/-! Int 2 is not touched. -/
def ZP2 {α : Type} (π : α → mS) (S : mS) (o : Option α) : Prop := ∀ r, o = some r → (π r).1 2 = S.1 2
section
variable {α β : Type} {π : α → mS} {S : mS}
theorem ZP2.none : ZP2 π S (none : Option α) := fun _ h => by cases h
theorem ZP2.ret : ZP2 (fun S => S) S (some S) := fun r e => by cases e; rfl
theorem ZP2.ret2 {z : α} : ZP2 Prod.snd S (some (z, S)) := fun r e => by cases e; rfl
theorem ZP2.bp {o : Option β} {f : β → Option α} (h : ∀ z, ZP2 π S (f z)) : ZP2 π S (o.bind f) := fun r e => by
  obtain ⟨z, z1, z2⟩ := Option.bind_eq_some_iff.mp e
  exact h z r z2
theorem ZP2.bs {o : Option mS} {f : mS → Option α} (h0 : ZP2 (fun S => S) S o) (h : ∀ S1, ZP2 π S1 (f S1)) : ZP2 π S (o.bind f) := fun r e => by
  obtain ⟨z, z1, z2⟩ := Option.bind_eq_some_iff.mp e
  exact (h z r z2).trans (h0 z z1)
theorem ZP2.b2 {o : Option (β × mS)} {f : β × mS → Option α} (h0 : ZP2 Prod.snd S o) (h : ∀ q, ZP2 π q.2 (f q)) : ZP2 π S (o.bind f) := fun r e => by
  obtain ⟨z, z1, z2⟩ := Option.bind_eq_some_iff.mp e
  exact (h z r z2).trans (h0 z z1)
theorem ZP2.cond {q : Bool} {o p : Option α} (h1 : ZP2 π S o) (h2 : ZP2 π S p) : ZP2 π S (cond q o p) := by
  cases q
  · exact h2
  · exact h1
theorem zp2_aput {N a : Nat} {i x : Int32} : ZP2 (fun S => S) S (aput N S a i x) := fun r e => by
  unfold aput at e
  split at e
  · cases e; rfl
  · cases e
theorem zp2_bput {N a : Nat} {i x : Int32} : ZP2 (fun S => S) S (bput N S a i x) := fun r e => by
  unfold bput at e
  split at e
  · cases e; rfl
  · cases e
theorem zp2_fput {k : Nat} {x : Int32} (h : ¬ 2 = k) : ZP2 (fun S => S) S (fput S k x) := fun r e => by
  cases e
  exact if_neg h
theorem zp2_fpub {k : Nat} {x : Int32} (h : ¬ 2 = k) : ZP2 (fun S => S) S (fpub S k x) := fun r e => by
  unfold fpub at e
  split at e
  · cases e; exact if_neg h
  · cases e
end
theorem Z2_m_drop {F : Nat} {a0 : Int32} {S : mS} : ZP2 Prod.snd S (D_m_drop F a0 S) := by
  unfold D_m_drop
  repeat (with_reducible first | exact ZP2.ret | exact ZP2.ret2 | exact ZP2.none | refine ZP2.bs zp2_aput (fun _ => ?_) | refine ZP2.bs zp2_bput (fun _ => ?_) | refine ZP2.bs (zp2_fput (by decide)) (fun _ => ?_) | exact zp2_aput | exact zp2_bput | exact zp2_fput (by decide) | refine ZP2.bs (zp2_fpub (by decide)) (fun _ => ?_) | exact zp2_fpub (by decide) | refine ZP2.cond ?_ ?_ | refine ZP2.bp (fun _ => ?_))
theorem Z2_m_close {F : Nat} {a0 : Int32} {a1 : Int32} {a2 : Int32} {a3 : Int32} {S : mS} : ZP2 (fun S => S) S (D_m_close F a0 a1 a2 a3 S) := by
  unfold D_m_close
  repeat (with_reducible first | exact ZP2.ret | exact ZP2.ret2 | exact ZP2.none | refine ZP2.bs zp2_aput (fun _ => ?_) | refine ZP2.bs zp2_bput (fun _ => ?_) | refine ZP2.bs (zp2_fput (by decide)) (fun _ => ?_) | exact zp2_aput | exact zp2_bput | exact zp2_fput (by decide) | refine ZP2.bs (zp2_fpub (by decide)) (fun _ => ?_) | exact zp2_fpub (by decide) | refine ZP2.cond ?_ ?_ | refine ZP2.bp (fun _ => ?_))
theorem Z2_m_newest {F : Nat} {a0 : Int32} {S : mS} : ZP2 (fun S => S) S (D_m_newest F a0 S) := by
  unfold D_m_newest
  repeat (with_reducible first | exact ZP2.ret | exact ZP2.ret2 | exact ZP2.none | refine ZP2.bs zp2_aput (fun _ => ?_) | refine ZP2.bs zp2_bput (fun _ => ?_) | refine ZP2.bs (zp2_fput (by decide)) (fun _ => ?_) | exact zp2_aput | exact zp2_bput | exact zp2_fput (by decide) | refine ZP2.bs (zp2_fpub (by decide)) (fun _ => ?_) | exact zp2_fpub (by decide) | refine ZP2.cond ?_ ?_ | refine ZP2.bp (fun _ => ?_))
theorem Z2_m_trim_39 {F : Nat}  : ∀ (n : Nat) (y0 : Int32) (S : mS), ZP2 (fun S => S) S (D_m_trim_39 F n y0 S) := by
  intro n
  induction n with
  | zero => intro y0 S; exact ZP2.none
  | succ n ih =>
    intro y0 S
    unfold D_m_trim_39
    repeat (with_reducible first | exact ZP2.ret | exact ZP2.ret2 | exact ZP2.none | exact (ih _ _) | refine ZP2.bs (ih _ _) (fun _ => ?_) | refine ZP2.bs zp2_aput (fun _ => ?_) | refine ZP2.bs zp2_bput (fun _ => ?_) | refine ZP2.bs (zp2_fput (by decide)) (fun _ => ?_) | exact zp2_aput | exact zp2_bput | exact zp2_fput (by decide) | refine ZP2.bs (zp2_fpub (by decide)) (fun _ => ?_) | exact zp2_fpub (by decide) | refine ZP2.cond ?_ ?_ | refine ZP2.bp (fun _ => ?_))
theorem Z2_m_trim_0 {F : Nat}  : ∀ (n : Nat) (y0 : Int32) (S : mS), ZP2 (fun S => S) S (D_m_trim_0 F n y0 S) := by
  intro n
  induction n with
  | zero => intro y0 S; exact ZP2.none
  | succ n ih =>
    intro y0 S
    unfold D_m_trim_0
    repeat (with_reducible first | exact ZP2.ret | exact ZP2.ret2 | exact ZP2.none | exact (Z2_m_trim_39 _ _ _) | refine ZP2.bs (Z2_m_trim_39 _ _ _) (fun _ => ?_) | exact (Z2_m_newest) | refine ZP2.bs (Z2_m_newest) (fun _ => ?_) | exact (ih _ _) | refine ZP2.bs (ih _ _) (fun _ => ?_) | refine ZP2.bs zp2_aput (fun _ => ?_) | refine ZP2.bs zp2_bput (fun _ => ?_) | refine ZP2.bs (zp2_fput (by decide)) (fun _ => ?_) | exact zp2_aput | exact zp2_bput | exact zp2_fput (by decide) | refine ZP2.bs (zp2_fpub (by decide)) (fun _ => ?_) | exact zp2_fpub (by decide) | refine ZP2.cond ?_ ?_ | refine ZP2.bp (fun _ => ?_))
theorem Z2_m_trim {F : Nat} {a0 : Int32} {S : mS} : ZP2 (fun S => S) S (D_m_trim F a0 S) := by
  unfold D_m_trim
  repeat (with_reducible first | exact ZP2.ret | exact ZP2.ret2 | exact ZP2.none | exact (Z2_m_trim_0 _ _ _) | refine ZP2.bs (Z2_m_trim_0 _ _ _) (fun _ => ?_) | refine ZP2.bs zp2_aput (fun _ => ?_) | refine ZP2.bs zp2_bput (fun _ => ?_) | refine ZP2.bs (zp2_fput (by decide)) (fun _ => ?_) | exact zp2_aput | exact zp2_bput | exact zp2_fput (by decide) | refine ZP2.bs (zp2_fpub (by decide)) (fun _ => ?_) | exact zp2_fpub (by decide) | refine ZP2.cond ?_ ?_ | refine ZP2.bp (fun _ => ?_))
theorem Z2_m_use {F : Nat} {a0 : Int32} {a1 : Int32} {S : mS} : ZP2 (fun S => S) S (D_m_use F a0 a1 S) := by
  unfold D_m_use
  repeat (with_reducible first | exact ZP2.ret | exact ZP2.ret2 | exact ZP2.none | exact (Z2_m_newest) | refine ZP2.bs (Z2_m_newest) (fun _ => ?_) | exact (Z2_m_trim) | refine ZP2.bs (Z2_m_trim) (fun _ => ?_) | refine ZP2.bs zp2_aput (fun _ => ?_) | refine ZP2.bs zp2_bput (fun _ => ?_) | refine ZP2.bs (zp2_fput (by decide)) (fun _ => ?_) | exact zp2_aput | exact zp2_bput | exact zp2_fput (by decide) | refine ZP2.bs (zp2_fpub (by decide)) (fun _ => ?_) | exact zp2_fpub (by decide) | refine ZP2.cond ?_ ?_ | refine ZP2.bp (fun _ => ?_))
theorem Z2_m_blank_3 {F : Nat}  : ∀ (n : Nat) (y0 : Int32) (y1 : Int32) (y2 : Int32) (y3 : Int32) (y4 : Int32) (y5 : Int32) (S : mS), ZP2 (fun S => S) S (D_m_blank_3 F n y0 y1 y2 y3 y4 y5 S) := by
  intro n
  induction n with
  | zero => intro y0 y1 y2 y3 y4 y5 S; exact ZP2.none
  | succ n ih =>
    intro y0 y1 y2 y3 y4 y5 S
    unfold D_m_blank_3
    repeat (with_reducible first | exact ZP2.ret | exact ZP2.ret2 | exact ZP2.none | exact (ih _ _ _ _ _ _ _) | refine ZP2.bs (ih _ _ _ _ _ _ _) (fun _ => ?_) | refine ZP2.bs zp2_aput (fun _ => ?_) | refine ZP2.bs zp2_bput (fun _ => ?_) | refine ZP2.bs (zp2_fput (by decide)) (fun _ => ?_) | exact zp2_aput | exact zp2_bput | exact zp2_fput (by decide) | refine ZP2.bs (zp2_fpub (by decide)) (fun _ => ?_) | exact zp2_fpub (by decide) | refine ZP2.cond ?_ ?_ | refine ZP2.bp (fun _ => ?_))
theorem Z2_m_blank {F : Nat} {a0 : Int32} {a1 : Int32} {a2 : Int32} {a3 : Int32} {a4 : Int32} {S : mS} : ZP2 (fun S => S) S (D_m_blank F a0 a1 a2 a3 a4 S) := by
  unfold D_m_blank
  repeat (with_reducible first | exact ZP2.ret | exact ZP2.ret2 | exact ZP2.none | exact (Z2_m_blank_3 _ _ _ _ _ _ _ _) | refine ZP2.bs (Z2_m_blank_3 _ _ _ _ _ _ _ _) (fun _ => ?_) | refine ZP2.bs zp2_aput (fun _ => ?_) | refine ZP2.bs zp2_bput (fun _ => ?_) | refine ZP2.bs (zp2_fput (by decide)) (fun _ => ?_) | exact zp2_aput | exact zp2_bput | exact zp2_fput (by decide) | refine ZP2.bs (zp2_fpub (by decide)) (fun _ => ?_) | exact zp2_fpub (by decide) | refine ZP2.cond ?_ ?_ | refine ZP2.bp (fun _ => ?_))
theorem Z2_m_post_22 {F : Nat}  : ∀ (n : Nat) (y0 : Int32) (S : mS), ZP2 (fun S => S) S (D_m_post_22 F n y0 S) := by
  intro n
  induction n with
  | zero => intro y0 S; exact ZP2.none
  | succ n ih =>
    intro y0 S
    unfold D_m_post_22
    repeat (with_reducible first | exact ZP2.ret | exact ZP2.ret2 | exact ZP2.none | exact (ih _ _) | refine ZP2.bs (ih _ _) (fun _ => ?_) | refine ZP2.bs zp2_aput (fun _ => ?_) | refine ZP2.bs zp2_bput (fun _ => ?_) | refine ZP2.bs (zp2_fput (by decide)) (fun _ => ?_) | exact zp2_aput | exact zp2_bput | exact zp2_fput (by decide) | refine ZP2.bs (zp2_fpub (by decide)) (fun _ => ?_) | exact zp2_fpub (by decide) | refine ZP2.cond ?_ ?_ | refine ZP2.bp (fun _ => ?_))
theorem Z2_m_post {F : Nat} {S : mS} : ZP2 (fun S => S) S (D_m_post F S) := by
  unfold D_m_post
  repeat (with_reducible first | exact ZP2.ret | exact ZP2.ret2 | exact ZP2.none | exact (Z2_m_post_22 _ _ _) | refine ZP2.bs (Z2_m_post_22 _ _ _) (fun _ => ?_) | refine ZP2.bs zp2_aput (fun _ => ?_) | refine ZP2.bs zp2_bput (fun _ => ?_) | refine ZP2.bs (zp2_fput (by decide)) (fun _ => ?_) | exact zp2_aput | exact zp2_bput | exact zp2_fput (by decide) | refine ZP2.bs (zp2_fpub (by decide)) (fun _ => ?_) | exact zp2_fpub (by decide) | refine ZP2.cond ?_ ?_ | refine ZP2.bp (fun _ => ?_))
theorem Z2_m_give_209 {F : Nat}  : ∀ (n : Nat) (y0 : Int32) (S : mS), ZP2 (fun S => S) S (D_m_give_209 F n y0 S) := by
  intro n
  induction n with
  | zero => intro y0 S; exact ZP2.none
  | succ n ih =>
    intro y0 S
    unfold D_m_give_209
    repeat (with_reducible first | exact ZP2.ret | exact ZP2.ret2 | exact ZP2.none | exact (Z2_m_post) | refine ZP2.bs (Z2_m_post) (fun _ => ?_) | exact (ih _ _) | refine ZP2.bs (ih _ _) (fun _ => ?_) | refine ZP2.bs zp2_aput (fun _ => ?_) | refine ZP2.bs zp2_bput (fun _ => ?_) | refine ZP2.bs (zp2_fput (by decide)) (fun _ => ?_) | exact zp2_aput | exact zp2_bput | exact zp2_fput (by decide) | refine ZP2.bs (zp2_fpub (by decide)) (fun _ => ?_) | exact zp2_fpub (by decide) | refine ZP2.cond ?_ ?_ | refine ZP2.bp (fun _ => ?_))
theorem Z2_m_give {F : Nat} {a0 : Int32} {a1 : Int32} {S : mS} : ZP2 (fun S => S) S (D_m_give F a0 a1 S) := by
  unfold D_m_give
  repeat (with_reducible first | exact ZP2.ret | exact ZP2.ret2 | exact ZP2.none | exact (Z2_m_blank) | refine ZP2.bs (Z2_m_blank) (fun _ => ?_) | exact (Z2_m_give_209 _ _ _) | refine ZP2.bs (Z2_m_give_209 _ _ _) (fun _ => ?_) | exact (Z2_m_close) | refine ZP2.bs (Z2_m_close) (fun _ => ?_) | refine ZP2.bs zp2_aput (fun _ => ?_) | refine ZP2.bs zp2_bput (fun _ => ?_) | refine ZP2.bs (zp2_fput (by decide)) (fun _ => ?_) | exact zp2_aput | exact zp2_bput | exact zp2_fput (by decide) | refine ZP2.bs (zp2_fpub (by decide)) (fun _ => ?_) | exact zp2_fpub (by decide) | refine ZP2.cond ?_ ?_ | refine ZP2.bp (fun _ => ?_))
theorem Z2_m_serve_3 {F : Nat}  : ∀ (n : Nat) (y0 : Int32) (y1 : Int32) (y2 : Int32) (y3 : Int32) (S : mS), ZP2 (fun S => S) S (D_m_serve_3 F n y0 y1 y2 y3 S) := by
  intro n
  induction n with
  | zero => intro y0 y1 y2 y3 S; exact ZP2.none
  | succ n ih =>
    intro y0 y1 y2 y3 S
    unfold D_m_serve_3
    repeat (with_reducible first | exact ZP2.ret | exact ZP2.ret2 | exact ZP2.none | exact (Z2_m_give) | refine ZP2.bs (Z2_m_give) (fun _ => ?_) | exact (ih _ _ _ _ _) | refine ZP2.bs (ih _ _ _ _ _) (fun _ => ?_) | refine ZP2.bs zp2_aput (fun _ => ?_) | refine ZP2.bs zp2_bput (fun _ => ?_) | refine ZP2.bs (zp2_fput (by decide)) (fun _ => ?_) | exact zp2_aput | exact zp2_bput | exact zp2_fput (by decide) | refine ZP2.bs (zp2_fpub (by decide)) (fun _ => ?_) | exact zp2_fpub (by decide) | refine ZP2.cond ?_ ?_ | refine ZP2.bp (fun _ => ?_))
theorem Z2_m_serve {F : Nat} {a0 : Int32} {a1 : Int32} {a2 : Int32} {S : mS} : ZP2 (fun S => S) S (D_m_serve F a0 a1 a2 S) := by
  unfold D_m_serve
  repeat (with_reducible first | exact ZP2.ret | exact ZP2.ret2 | exact ZP2.none | exact (Z2_m_serve_3 _ _ _ _ _ _) | refine ZP2.bs (Z2_m_serve_3 _ _ _ _ _ _) (fun _ => ?_) | refine ZP2.bs zp2_aput (fun _ => ?_) | refine ZP2.bs zp2_bput (fun _ => ?_) | refine ZP2.bs (zp2_fput (by decide)) (fun _ => ?_) | exact zp2_aput | exact zp2_bput | exact zp2_fput (by decide) | refine ZP2.bs (zp2_fpub (by decide)) (fun _ => ?_) | exact zp2_fpub (by decide) | refine ZP2.cond ?_ ?_ | refine ZP2.bp (fun _ => ?_))
theorem Z2_m_send_274 {F : Nat} {S : mS} : ZP2 Prod.snd S (D_m_send_274 F S) := by
  unfold D_m_send_274
  repeat (with_reducible first | exact ZP2.ret | exact ZP2.ret2 | exact ZP2.none | exact (Z2_m_post) | refine ZP2.bs (Z2_m_post) (fun _ => ?_) | refine ZP2.bs zp2_aput (fun _ => ?_) | refine ZP2.bs zp2_bput (fun _ => ?_) | refine ZP2.bs (zp2_fput (by decide)) (fun _ => ?_) | exact zp2_aput | exact zp2_bput | exact zp2_fput (by decide) | refine ZP2.bs (zp2_fpub (by decide)) (fun _ => ?_) | exact zp2_fpub (by decide) | refine ZP2.cond ?_ ?_ | refine ZP2.bp (fun _ => ?_))
theorem Z2_m_send {F : Nat} {a0 : Int32} {S : mS} : ZP2 Prod.snd S (D_m_send F a0 S) := by
  unfold D_m_send
  repeat (with_reducible first | exact ZP2.ret | exact ZP2.ret2 | exact ZP2.none | exact (Z2_m_blank) | refine ZP2.bs (Z2_m_blank) (fun _ => ?_) | exact (Z2_m_send_274) | refine ZP2.b2 (Z2_m_send_274) (fun _ => ?_) | refine ZP2.bs zp2_aput (fun _ => ?_) | refine ZP2.bs zp2_bput (fun _ => ?_) | refine ZP2.bs (zp2_fput (by decide)) (fun _ => ?_) | exact zp2_aput | exact zp2_bput | exact zp2_fput (by decide) | refine ZP2.bs (zp2_fpub (by decide)) (fun _ => ?_) | exact zp2_fpub (by decide) | refine ZP2.cond ?_ ?_ | refine ZP2.bp (fun _ => ?_))
theorem Z2_m_fetch_289 {F : Nat} {x1 : Int32} {x2 : Int32} {S : mS} : ZP2 Prod.snd S (D_m_fetch_289 F x1 x2 S) := by
  unfold D_m_fetch_289
  repeat (with_reducible first | exact ZP2.ret | exact ZP2.ret2 | exact ZP2.none | exact (Z2_m_send) | refine ZP2.b2 (Z2_m_send) (fun _ => ?_) | refine ZP2.bs zp2_aput (fun _ => ?_) | refine ZP2.bs zp2_bput (fun _ => ?_) | refine ZP2.bs (zp2_fput (by decide)) (fun _ => ?_) | exact zp2_aput | exact zp2_bput | exact zp2_fput (by decide) | refine ZP2.bs (zp2_fpub (by decide)) (fun _ => ?_) | exact zp2_fpub (by decide) | refine ZP2.cond ?_ ?_ | refine ZP2.bp (fun _ => ?_))
theorem Z2_m_fetch_184 {F : Nat} {x1 : Int32} {x2 : Int32} {x4 : Int32} {S : mS} : ZP2 Prod.snd S (D_m_fetch_184 F x1 x2 x4 S) := by
  unfold D_m_fetch_184
  repeat (with_reducible first | exact ZP2.ret | exact ZP2.ret2 | exact ZP2.none | exact (Z2_m_fetch_289) | refine ZP2.b2 (Z2_m_fetch_289) (fun _ => ?_) | refine ZP2.bs zp2_aput (fun _ => ?_) | refine ZP2.bs zp2_bput (fun _ => ?_) | refine ZP2.bs (zp2_fput (by decide)) (fun _ => ?_) | exact zp2_aput | exact zp2_bput | exact zp2_fput (by decide) | refine ZP2.bs (zp2_fpub (by decide)) (fun _ => ?_) | exact zp2_fpub (by decide) | refine ZP2.cond ?_ ?_ | refine ZP2.bp (fun _ => ?_))
theorem Z2_m_fetch_109 {F : Nat} {x1 : Int32} {x2 : Int32} {x3 : Int32} {x4 : Int32} {S : mS} : ZP2 Prod.snd S (D_m_fetch_109 F x1 x2 x3 x4 S) := by
  unfold D_m_fetch_109
  repeat (with_reducible first | exact ZP2.ret | exact ZP2.ret2 | exact ZP2.none | exact (Z2_m_fetch_184) | refine ZP2.b2 (Z2_m_fetch_184) (fun _ => ?_) | refine ZP2.bs zp2_aput (fun _ => ?_) | refine ZP2.bs zp2_bput (fun _ => ?_) | refine ZP2.bs (zp2_fput (by decide)) (fun _ => ?_) | exact zp2_aput | exact zp2_bput | exact zp2_fput (by decide) | refine ZP2.bs (zp2_fpub (by decide)) (fun _ => ?_) | exact zp2_fpub (by decide) | refine ZP2.cond ?_ ?_ | refine ZP2.bp (fun _ => ?_))
theorem Z2_m_fetch {F : Nat} {a0 : Int32} {a1 : Int32} {S : mS} : ZP2 Prod.snd S (D_m_fetch F a0 a1 S) := by
  unfold D_m_fetch
  repeat (with_reducible first | exact ZP2.ret | exact ZP2.ret2 | exact ZP2.none | exact (Z2_m_fetch_184) | refine ZP2.b2 (Z2_m_fetch_184) (fun _ => ?_) | exact (Z2_m_fetch_109) | refine ZP2.b2 (Z2_m_fetch_109) (fun _ => ?_) | refine ZP2.bs zp2_aput (fun _ => ?_) | refine ZP2.bs zp2_bput (fun _ => ?_) | refine ZP2.bs (zp2_fput (by decide)) (fun _ => ?_) | exact zp2_aput | exact zp2_bput | exact zp2_fput (by decide) | refine ZP2.bs (zp2_fpub (by decide)) (fun _ => ?_) | exact zp2_fpub (by decide) | refine ZP2.cond ?_ ?_ | refine ZP2.bp (fun _ => ?_))
theorem Z2_m_stay_2 {F : Nat}  : ∀ (n : Nat) (y0 : Int32) (y1 : Int32) (S : mS), ZP2 (fun S => S) S (D_m_stay_2 F n y0 y1 S) := by
  intro n
  induction n with
  | zero => intro y0 y1 S; exact ZP2.none
  | succ n ih =>
    intro y0 y1 S
    unfold D_m_stay_2
    repeat (with_reducible first | exact ZP2.ret | exact ZP2.ret2 | exact ZP2.none | exact (ih _ _ _) | refine ZP2.bs (ih _ _ _) (fun _ => ?_) | refine ZP2.bs zp2_aput (fun _ => ?_) | refine ZP2.bs zp2_bput (fun _ => ?_) | refine ZP2.bs (zp2_fput (by decide)) (fun _ => ?_) | exact zp2_aput | exact zp2_bput | exact zp2_fput (by decide) | refine ZP2.bs (zp2_fpub (by decide)) (fun _ => ?_) | exact zp2_fpub (by decide) | refine ZP2.cond ?_ ?_ | refine ZP2.bp (fun _ => ?_))
theorem Z2_m_stay {F : Nat} {a0 : Int32} {S : mS} : ZP2 (fun S => S) S (D_m_stay F a0 S) := by
  unfold D_m_stay
  repeat (with_reducible first | exact ZP2.ret | exact ZP2.ret2 | exact ZP2.none | exact (Z2_m_stay_2 _ _ _ _) | refine ZP2.bs (Z2_m_stay_2 _ _ _ _) (fun _ => ?_) | refine ZP2.bs zp2_aput (fun _ => ?_) | refine ZP2.bs zp2_bput (fun _ => ?_) | refine ZP2.bs (zp2_fput (by decide)) (fun _ => ?_) | exact zp2_aput | exact zp2_bput | exact zp2_fput (by decide) | refine ZP2.bs (zp2_fpub (by decide)) (fun _ => ?_) | exact zp2_fpub (by decide) | refine ZP2.cond ?_ ?_ | refine ZP2.bp (fun _ => ?_))
theorem Z2_m_refuse {F : Nat} {a0 : Int32} {a1 : Int32} {S : mS} : ZP2 (fun S => S) S (D_m_refuse F a0 a1 S) := by
  unfold D_m_refuse
  repeat (with_reducible first | exact ZP2.ret | exact ZP2.ret2 | exact ZP2.none | exact (Z2_m_blank) | refine ZP2.bs (Z2_m_blank) (fun _ => ?_) | exact (Z2_m_post) | refine ZP2.bs (Z2_m_post) (fun _ => ?_) | exact (Z2_m_close) | refine ZP2.bs (Z2_m_close) (fun _ => ?_) | refine ZP2.bs zp2_aput (fun _ => ?_) | refine ZP2.bs zp2_bput (fun _ => ?_) | refine ZP2.bs (zp2_fput (by decide)) (fun _ => ?_) | exact zp2_aput | exact zp2_bput | exact zp2_fput (by decide) | refine ZP2.bs (zp2_fpub (by decide)) (fun _ => ?_) | exact zp2_fpub (by decide) | refine ZP2.cond ?_ ?_ | refine ZP2.bp (fun _ => ?_))
theorem Z2_m_giveUp_81 {F : Nat} {x1 : Int32} {S : mS} : ZP2 (fun S => S) S (D_m_giveUp_81 F x1 S) := by
  unfold D_m_giveUp_81
  repeat (with_reducible first | exact ZP2.ret | exact ZP2.ret2 | exact ZP2.none | exact (Z2_m_refuse) | refine ZP2.bs (Z2_m_refuse) (fun _ => ?_) | refine ZP2.bs zp2_aput (fun _ => ?_) | refine ZP2.bs zp2_bput (fun _ => ?_) | refine ZP2.bs (zp2_fput (by decide)) (fun _ => ?_) | exact zp2_aput | exact zp2_bput | exact zp2_fput (by decide) | refine ZP2.bs (zp2_fpub (by decide)) (fun _ => ?_) | exact zp2_fpub (by decide) | refine ZP2.cond ?_ ?_ | refine ZP2.bp (fun _ => ?_))
theorem Z2_m_giveUp {F : Nat} {a0 : Int32} {S : mS} : ZP2 (fun S => S) S (D_m_giveUp F a0 S) := by
  unfold D_m_giveUp
  repeat (with_reducible first | exact ZP2.ret | exact ZP2.ret2 | exact ZP2.none | exact (Z2_m_giveUp_81) | refine ZP2.bs (Z2_m_giveUp_81) (fun _ => ?_) | exact (Z2_m_serve) | refine ZP2.bs (Z2_m_serve) (fun _ => ?_) | refine ZP2.bs zp2_aput (fun _ => ?_) | refine ZP2.bs zp2_bput (fun _ => ?_) | refine ZP2.bs (zp2_fput (by decide)) (fun _ => ?_) | exact zp2_aput | exact zp2_bput | exact zp2_fput (by decide) | refine ZP2.bs (zp2_fpub (by decide)) (fun _ => ?_) | exact zp2_fpub (by decide) | refine ZP2.cond ?_ ?_ | refine ZP2.bp (fun _ => ?_))
theorem Z2_m_look_200 {F : Nat} {x1 : Int32} {x2 : Int32} {x3 : Int32} {S : mS} : ZP2 (fun S => S) S (D_m_look_200 F x1 x2 x3 S) := by
  unfold D_m_look_200
  repeat (with_reducible first | exact ZP2.ret | exact ZP2.ret2 | exact ZP2.none | exact (Z2_m_fetch) | refine ZP2.b2 (Z2_m_fetch) (fun _ => ?_) | exact (Z2_m_giveUp) | refine ZP2.bs (Z2_m_giveUp) (fun _ => ?_) | exact (Z2_m_stay) | refine ZP2.bs (Z2_m_stay) (fun _ => ?_) | refine ZP2.bs zp2_aput (fun _ => ?_) | refine ZP2.bs zp2_bput (fun _ => ?_) | refine ZP2.bs (zp2_fput (by decide)) (fun _ => ?_) | exact zp2_aput | exact zp2_bput | exact zp2_fput (by decide) | refine ZP2.bs (zp2_fpub (by decide)) (fun _ => ?_) | exact zp2_fpub (by decide) | refine ZP2.cond ?_ ?_ | refine ZP2.bp (fun _ => ?_))
theorem Z2_m_look_168 {F : Nat} {x1 : Int32} {x2 : Int32} {x3 : Int32} {x5 : Int32} {S : mS} : ZP2 (fun S => S) S (D_m_look_168 F x1 x2 x3 x5 S) := by
  unfold D_m_look_168
  repeat (with_reducible first | exact ZP2.ret | exact ZP2.ret2 | exact ZP2.none | exact (Z2_m_look_200) | refine ZP2.bs (Z2_m_look_200) (fun _ => ?_) | exact (Z2_m_close) | refine ZP2.bs (Z2_m_close) (fun _ => ?_) | refine ZP2.bs zp2_aput (fun _ => ?_) | refine ZP2.bs zp2_bput (fun _ => ?_) | refine ZP2.bs (zp2_fput (by decide)) (fun _ => ?_) | exact zp2_aput | exact zp2_bput | exact zp2_fput (by decide) | refine ZP2.bs (zp2_fpub (by decide)) (fun _ => ?_) | exact zp2_fpub (by decide) | refine ZP2.cond ?_ ?_ | refine ZP2.bp (fun _ => ?_))
theorem Z2_m_look_126 {F : Nat} {x1 : Int32} {x2 : Int32} {x3 : Int32} {x4 : Int32} {x5 : Int32} {x6 : Int32} {S : mS} : ZP2 (fun S => S) S (D_m_look_126 F x1 x2 x3 x4 x5 x6 S) := by
  unfold D_m_look_126
  repeat (with_reducible first | exact ZP2.ret | exact ZP2.ret2 | exact ZP2.none | exact (Z2_m_look_168) | refine ZP2.bs (Z2_m_look_168) (fun _ => ?_) | exact (Z2_m_serve) | refine ZP2.bs (Z2_m_serve) (fun _ => ?_) | exact (Z2_m_fetch) | refine ZP2.b2 (Z2_m_fetch) (fun _ => ?_) | refine ZP2.bs zp2_aput (fun _ => ?_) | refine ZP2.bs zp2_bput (fun _ => ?_) | refine ZP2.bs (zp2_fput (by decide)) (fun _ => ?_) | exact zp2_aput | exact zp2_bput | exact zp2_fput (by decide) | refine ZP2.bs (zp2_fpub (by decide)) (fun _ => ?_) | exact zp2_fpub (by decide) | refine ZP2.cond ?_ ?_ | refine ZP2.bp (fun _ => ?_))
theorem Z2_m_look {F : Nat} {a0 : Int32} {S : mS} : ZP2 (fun S => S) S (D_m_look F a0 S) := by
  unfold D_m_look
  repeat (with_reducible first | exact ZP2.ret | exact ZP2.ret2 | exact ZP2.none | exact (Z2_m_look_126) | refine ZP2.bs (Z2_m_look_126) (fun _ => ?_) | exact (Z2_m_use) | refine ZP2.bs (Z2_m_use) (fun _ => ?_) | exact (Z2_m_serve) | refine ZP2.bs (Z2_m_serve) (fun _ => ?_) | refine ZP2.bs zp2_aput (fun _ => ?_) | refine ZP2.bs zp2_bput (fun _ => ?_) | refine ZP2.bs (zp2_fput (by decide)) (fun _ => ?_) | exact zp2_aput | exact zp2_bput | exact zp2_fput (by decide) | refine ZP2.bs (zp2_fpub (by decide)) (fun _ => ?_) | exact zp2_fpub (by decide) | refine ZP2.cond ?_ ?_ | refine ZP2.bp (fun _ => ?_))
theorem Z2_m_ask_378 {F : Nat}  : ∀ (n : Nat) (y0 : Int32) (y1 : Int32) (y2 : Int32) (y3 : Int32) (y4 : Int32) (y5 : Int32) (S : mS), ZP2 Prod.snd S (D_m_ask_378 F n y0 y1 y2 y3 y4 y5 S) := by
  intro n
  induction n with
  | zero => intro y0 y1 y2 y3 y4 y5 S; exact ZP2.none
  | succ n ih =>
    intro y0 y1 y2 y3 y4 y5 S
    unfold D_m_ask_378
    repeat (with_reducible first | exact ZP2.ret | exact ZP2.ret2 | exact ZP2.none | exact (Z2_m_look) | refine ZP2.bs (Z2_m_look) (fun _ => ?_) | exact (ih _ _ _ _ _ _ _) | refine ZP2.b2 (ih _ _ _ _ _ _ _) (fun _ => ?_) | refine ZP2.bs zp2_aput (fun _ => ?_) | refine ZP2.bs zp2_bput (fun _ => ?_) | refine ZP2.bs (zp2_fput (by decide)) (fun _ => ?_) | exact zp2_aput | exact zp2_bput | exact zp2_fput (by decide) | refine ZP2.bs (zp2_fpub (by decide)) (fun _ => ?_) | exact zp2_fpub (by decide) | refine ZP2.cond ?_ ?_ | refine ZP2.bp (fun _ => ?_))
theorem Z2_m_ask_178 {F : Nat}  : ∀ (n : Nat) (y0 : Int32) (y1 : Int32) (y2 : Int32) (S : mS), ZP2 Prod.snd S (D_m_ask_178 F n y0 y1 y2 S) := by
  intro n
  induction n with
  | zero => intro y0 y1 y2 S; exact ZP2.none
  | succ n ih =>
    intro y0 y1 y2 S
    unfold D_m_ask_178
    repeat (with_reducible first | exact ZP2.ret | exact ZP2.ret2 | exact ZP2.none | exact (Z2_m_ask_378 _ _ _ _ _ _ _ _) | refine ZP2.b2 (Z2_m_ask_378 _ _ _ _ _ _ _ _) (fun _ => ?_) | exact (Z2_m_close) | refine ZP2.bs (Z2_m_close) (fun _ => ?_) | exact (ih _ _ _ _) | refine ZP2.b2 (ih _ _ _ _) (fun _ => ?_) | refine ZP2.bs zp2_aput (fun _ => ?_) | refine ZP2.bs zp2_bput (fun _ => ?_) | refine ZP2.bs (zp2_fput (by decide)) (fun _ => ?_) | exact zp2_aput | exact zp2_bput | exact zp2_fput (by decide) | refine ZP2.bs (zp2_fpub (by decide)) (fun _ => ?_) | exact zp2_fpub (by decide) | refine ZP2.cond ?_ ?_ | refine ZP2.bp (fun _ => ?_))
theorem Z2_m_fault {F : Nat} {S : mS} : ZP2 Prod.snd S (D_m_fault F S) := by
  unfold D_m_fault
  repeat (with_reducible first | exact ZP2.ret | exact ZP2.ret2 | exact ZP2.none | refine ZP2.bs zp2_aput (fun _ => ?_) | refine ZP2.bs zp2_bput (fun _ => ?_) | refine ZP2.bs (zp2_fput (by decide)) (fun _ => ?_) | exact zp2_aput | exact zp2_bput | exact zp2_fput (by decide) | refine ZP2.bs (zp2_fpub (by decide)) (fun _ => ?_) | exact zp2_fpub (by decide) | refine ZP2.cond ?_ ?_ | refine ZP2.bp (fun _ => ?_))
theorem Z2_m_remove_5 {F : Nat}  : ∀ (n : Nat) (y0 : Int32) (S : mS), ZP2 (fun S => S) S (D_m_remove_5 F n y0 S) := by
  intro n
  induction n with
  | zero => intro y0 S; exact ZP2.none
  | succ n ih =>
    intro y0 S
    unfold D_m_remove_5
    repeat (with_reducible first | exact ZP2.ret | exact ZP2.ret2 | exact ZP2.none | exact (ih _ _) | refine ZP2.bs (ih _ _) (fun _ => ?_) | refine ZP2.bs zp2_aput (fun _ => ?_) | refine ZP2.bs zp2_bput (fun _ => ?_) | refine ZP2.bs (zp2_fput (by decide)) (fun _ => ?_) | exact zp2_aput | exact zp2_bput | exact zp2_fput (by decide) | refine ZP2.bs (zp2_fpub (by decide)) (fun _ => ?_) | exact zp2_fpub (by decide) | refine ZP2.cond ?_ ?_ | refine ZP2.bp (fun _ => ?_))
theorem Z2_m_remove {F : Nat} {a0 : Int32} {S : mS} : ZP2 (fun S => S) S (D_m_remove F a0 S) := by
  unfold D_m_remove
  repeat (with_reducible first | exact ZP2.ret | exact ZP2.ret2 | exact ZP2.none | exact (Z2_m_remove_5 _ _ _) | refine ZP2.bs (Z2_m_remove_5 _ _ _) (fun _ => ?_) | refine ZP2.bs zp2_aput (fun _ => ?_) | refine ZP2.bs zp2_bput (fun _ => ?_) | refine ZP2.bs (zp2_fput (by decide)) (fun _ => ?_) | exact zp2_aput | exact zp2_bput | exact zp2_fput (by decide) | refine ZP2.bs (zp2_fpub (by decide)) (fun _ => ?_) | exact zp2_fpub (by decide) | refine ZP2.cond ?_ ?_ | refine ZP2.bp (fun _ => ?_))
theorem Z2_m_bringFetch_441 {F : Nat} {S : mS} : ZP2 (fun S => S) S (D_m_bringFetch_441 F S) := by
  unfold D_m_bringFetch_441
  repeat (with_reducible first | exact ZP2.ret | exact ZP2.ret2 | exact ZP2.none | exact (Z2_m_post) | refine ZP2.bs (Z2_m_post) (fun _ => ?_) | refine ZP2.bs zp2_aput (fun _ => ?_) | refine ZP2.bs zp2_bput (fun _ => ?_) | refine ZP2.bs (zp2_fput (by decide)) (fun _ => ?_) | exact zp2_aput | exact zp2_bput | exact zp2_fput (by decide) | refine ZP2.bs (zp2_fpub (by decide)) (fun _ => ?_) | exact zp2_fpub (by decide) | refine ZP2.cond ?_ ?_ | refine ZP2.bp (fun _ => ?_))
theorem Z2_m_bringFetch_409 {F : Nat}  : ∀ (n : Nat) (y0 : Int32) (y1 : Int32) (S : mS), ZP2 (fun S => S) S (D_m_bringFetch_409 F n y0 y1 S) := by
  intro n
  induction n with
  | zero => intro y0 y1 S; exact ZP2.none
  | succ n ih =>
    intro y0 y1 S
    unfold D_m_bringFetch_409
    repeat (with_reducible first | exact ZP2.ret | exact ZP2.ret2 | exact ZP2.none | exact (Z2_m_bringFetch_441) | refine ZP2.bs (Z2_m_bringFetch_441) (fun _ => ?_) | exact (ih _ _ _) | refine ZP2.bs (ih _ _ _) (fun _ => ?_) | refine ZP2.bs zp2_aput (fun _ => ?_) | refine ZP2.bs zp2_bput (fun _ => ?_) | refine ZP2.bs (zp2_fput (by decide)) (fun _ => ?_) | exact zp2_aput | exact zp2_bput | exact zp2_fput (by decide) | refine ZP2.bs (zp2_fpub (by decide)) (fun _ => ?_) | exact zp2_fpub (by decide) | refine ZP2.cond ?_ ?_ | refine ZP2.bp (fun _ => ?_))
theorem Z2_m_bringFetch {F : Nat} {a0 : Int32} {S : mS} : ZP2 (fun S => S) S (D_m_bringFetch F a0 S) := by
  unfold D_m_bringFetch
  repeat (with_reducible first | exact ZP2.ret | exact ZP2.ret2 | exact ZP2.none | exact (Z2_m_blank) | refine ZP2.bs (Z2_m_blank) (fun _ => ?_) | exact (Z2_m_bringFetch_441) | refine ZP2.bs (Z2_m_bringFetch_441) (fun _ => ?_) | exact (Z2_m_bringFetch_409 _ _ _ _) | refine ZP2.bs (Z2_m_bringFetch_409 _ _ _ _) (fun _ => ?_) | exact (Z2_m_look) | refine ZP2.bs (Z2_m_look) (fun _ => ?_) | refine ZP2.bs zp2_aput (fun _ => ?_) | refine ZP2.bs zp2_bput (fun _ => ?_) | refine ZP2.bs (zp2_fput (by decide)) (fun _ => ?_) | exact zp2_aput | exact zp2_bput | exact zp2_fput (by decide) | refine ZP2.bs (zp2_fpub (by decide)) (fun _ => ?_) | exact zp2_fpub (by decide) | refine ZP2.cond ?_ ?_ | refine ZP2.bp (fun _ => ?_))
theorem Z2_m_forgive {F : Nat} {a0 : Int32} {a1 : Int32} {S : mS} : ZP2 (fun S => S) S (D_m_forgive F a0 a1 S) := by
  unfold D_m_forgive
  repeat (with_reducible first | exact ZP2.ret | exact ZP2.ret2 | exact ZP2.none | refine ZP2.bs zp2_aput (fun _ => ?_) | refine ZP2.bs zp2_bput (fun _ => ?_) | refine ZP2.bs (zp2_fput (by decide)) (fun _ => ?_) | exact zp2_aput | exact zp2_bput | exact zp2_fput (by decide) | refine ZP2.bs (zp2_fpub (by decide)) (fun _ => ?_) | exact zp2_fpub (by decide) | refine ZP2.cond ?_ ?_ | refine ZP2.bp (fun _ => ?_))
theorem Z2_m_take_128 {F : Nat} {rec8 : Int32 → Int32 → Int32 → Int32 → Int32 → mS → Option (Int32 × mS)} {rec62 : Int32 → Int32 → Int32 → Int32 → Int32 → Int32 → Int32 → mS → Option (Int32 × mS)} {x1 : Int32} {x2 : Int32} {x3 : Int32} {x4 : Int32} {x5 : Int32} {x6 : Int32} {x7 : Int32} {S : mS} (hrec8 : ∀ (y0 : Int32) (y1 : Int32) (y2 : Int32) (y3 : Int32) (y4 : Int32) S, ZP2 Prod.snd S (rec8 y0 y1 y2 y3 y4 S)) (hrec62 : ∀ (y0 : Int32) (y1 : Int32) (y2 : Int32) (y3 : Int32) (y4 : Int32) (y5 : Int32) (y6 : Int32) S, ZP2 Prod.snd S (rec62 y0 y1 y2 y3 y4 y5 y6 S)) : ZP2 Prod.snd S (D_m_take_128 F rec8 rec62 x1 x2 x3 x4 x5 x6 x7 S) := by
  unfold D_m_take_128
  repeat (with_reducible first | exact ZP2.ret | exact ZP2.ret2 | exact ZP2.none | exact (hrec8 _ _ _ _ _ _) | refine ZP2.b2 (hrec8 _ _ _ _ _ _) (fun _ => ?_) | exact (hrec62 _ _ _ _ _ _ _ _) | refine ZP2.b2 (hrec62 _ _ _ _ _ _ _ _) (fun _ => ?_) | refine ZP2.bs zp2_aput (fun _ => ?_) | refine ZP2.bs zp2_bput (fun _ => ?_) | refine ZP2.bs (zp2_fput (by decide)) (fun _ => ?_) | exact zp2_aput | exact zp2_bput | exact zp2_fput (by decide) | refine ZP2.bs (zp2_fpub (by decide)) (fun _ => ?_) | exact zp2_fpub (by decide) | refine ZP2.cond ?_ ?_ | refine ZP2.bp (fun _ => ?_))
theorem Z2_m_take_62 {F : Nat} {rec8 : Int32 → Int32 → Int32 → Int32 → Int32 → mS → Option (Int32 × mS)} (hrec8 : ∀ (y0 : Int32) (y1 : Int32) (y2 : Int32) (y3 : Int32) (y4 : Int32) S, ZP2 Prod.snd S (rec8 y0 y1 y2 y3 y4 S)) : ∀ (n : Nat) (y0 : Int32) (y1 : Int32) (y2 : Int32) (y3 : Int32) (y4 : Int32) (y5 : Int32) (y6 : Int32) (S : mS), ZP2 Prod.snd S (D_m_take_62 F rec8 n y0 y1 y2 y3 y4 y5 y6 S) := by
  intro n
  induction n with
  | zero => intro y0 y1 y2 y3 y4 y5 y6 S; exact ZP2.none
  | succ n ih =>
    intro y0 y1 y2 y3 y4 y5 y6 S
    unfold D_m_take_62
    repeat (with_reducible first | exact ZP2.ret | exact ZP2.ret2 | exact ZP2.none | exact (Z2_m_take_128 hrec8 ih) | refine ZP2.b2 (Z2_m_take_128 hrec8 ih) (fun _ => ?_) | exact (hrec8 _ _ _ _ _ _) | refine ZP2.b2 (hrec8 _ _ _ _ _ _) (fun _ => ?_) | exact (ih _ _ _ _ _ _ _ _) | refine ZP2.b2 (ih _ _ _ _ _ _ _ _) (fun _ => ?_) | refine ZP2.bs zp2_aput (fun _ => ?_) | refine ZP2.bs zp2_bput (fun _ => ?_) | refine ZP2.bs (zp2_fput (by decide)) (fun _ => ?_) | exact zp2_aput | exact zp2_bput | exact zp2_fput (by decide) | refine ZP2.bs (zp2_fpub (by decide)) (fun _ => ?_) | exact zp2_fpub (by decide) | refine ZP2.cond ?_ ?_ | refine ZP2.bp (fun _ => ?_))
theorem Z2_m_take_8 {F : Nat}  : ∀ (n : Nat) (y0 : Int32) (y1 : Int32) (y2 : Int32) (y3 : Int32) (y4 : Int32) (S : mS), ZP2 Prod.snd S (D_m_take_8 F n y0 y1 y2 y3 y4 S) := by
  intro n
  induction n with
  | zero => intro y0 y1 y2 y3 y4 S; exact ZP2.none
  | succ n ih =>
    intro y0 y1 y2 y3 y4 S
    unfold D_m_take_8
    repeat (with_reducible first | exact ZP2.ret | exact ZP2.ret2 | exact ZP2.none | exact (Z2_m_take_62 ih _ _ _ _ _ _ _ _ _) | refine ZP2.b2 (Z2_m_take_62 ih _ _ _ _ _ _ _ _ _) (fun _ => ?_) | exact (ih _ _ _ _ _ _) | refine ZP2.b2 (ih _ _ _ _ _ _) (fun _ => ?_) | refine ZP2.bs zp2_aput (fun _ => ?_) | refine ZP2.bs zp2_bput (fun _ => ?_) | refine ZP2.bs (zp2_fput (by decide)) (fun _ => ?_) | exact zp2_aput | exact zp2_bput | exact zp2_fput (by decide) | refine ZP2.bs (zp2_fpub (by decide)) (fun _ => ?_) | exact zp2_fpub (by decide) | refine ZP2.cond ?_ ?_ | refine ZP2.bp (fun _ => ?_))
theorem Z2_m_take {F : Nat} {a0 : Int32} {a1 : Int32} {S : mS} : ZP2 Prod.snd S (D_m_take F a0 a1 S) := by
  unfold D_m_take
  repeat (with_reducible first | exact ZP2.ret | exact ZP2.ret2 | exact ZP2.none | exact (Z2_m_take_8 _ _ _ _ _ _ _) | refine ZP2.b2 (Z2_m_take_8 _ _ _ _ _ _ _) (fun _ => ?_) | refine ZP2.bs zp2_aput (fun _ => ?_) | refine ZP2.bs zp2_bput (fun _ => ?_) | refine ZP2.bs (zp2_fput (by decide)) (fun _ => ?_) | exact zp2_aput | exact zp2_bput | exact zp2_fput (by decide) | refine ZP2.bs (zp2_fpub (by decide)) (fun _ => ?_) | exact zp2_fpub (by decide) | refine ZP2.cond ?_ ?_ | refine ZP2.bp (fun _ => ?_))
theorem Z2_m_again_7 {F : Nat}  : ∀ (n : Nat) (y0 : Int32) (y1 : Int32) (y2 : Int32) (S : mS), ZP2 Prod.snd S (D_m_again_7 F n y0 y1 y2 S) := by
  intro n
  induction n with
  | zero => intro y0 y1 y2 S; exact ZP2.none
  | succ n ih =>
    intro y0 y1 y2 S
    unfold D_m_again_7
    repeat (with_reducible first | exact ZP2.ret | exact ZP2.ret2 | exact ZP2.none | exact (ih _ _ _ _) | refine ZP2.b2 (ih _ _ _ _) (fun _ => ?_) | refine ZP2.bs zp2_aput (fun _ => ?_) | refine ZP2.bs zp2_bput (fun _ => ?_) | refine ZP2.bs (zp2_fput (by decide)) (fun _ => ?_) | exact zp2_aput | exact zp2_bput | exact zp2_fput (by decide) | refine ZP2.bs (zp2_fpub (by decide)) (fun _ => ?_) | exact zp2_fpub (by decide) | refine ZP2.cond ?_ ?_ | refine ZP2.bp (fun _ => ?_))
theorem Z2_m_again {F : Nat} {a0 : Int32} {S : mS} : ZP2 Prod.snd S (D_m_again F a0 S) := by
  unfold D_m_again
  repeat (with_reducible first | exact ZP2.ret | exact ZP2.ret2 | exact ZP2.none | exact (Z2_m_again_7 _ _ _ _ _) | refine ZP2.b2 (Z2_m_again_7 _ _ _ _ _) (fun _ => ?_) | refine ZP2.bs zp2_aput (fun _ => ?_) | refine ZP2.bs zp2_bput (fun _ => ?_) | refine ZP2.bs (zp2_fput (by decide)) (fun _ => ?_) | exact zp2_aput | exact zp2_bput | exact zp2_fput (by decide) | refine ZP2.bs (zp2_fpub (by decide)) (fun _ => ?_) | exact zp2_fpub (by decide) | refine ZP2.cond ?_ ?_ | refine ZP2.bp (fun _ => ?_))
theorem Z2_m_failAll_23 {F : Nat}  : ∀ (n : Nat) (y0 : Int32) (y1 : Int32) (S : mS), ZP2 (fun S => S) S (D_m_failAll_23 F n y0 y1 S) := by
  intro n
  induction n with
  | zero => intro y0 y1 S; exact ZP2.none
  | succ n ih =>
    intro y0 y1 S
    unfold D_m_failAll_23
    repeat (with_reducible first | exact ZP2.ret | exact ZP2.ret2 | exact ZP2.none | exact (Z2_m_again) | refine ZP2.b2 (Z2_m_again) (fun _ => ?_) | exact (Z2_m_giveUp) | refine ZP2.bs (Z2_m_giveUp) (fun _ => ?_) | exact (ih _ _ _) | refine ZP2.bs (ih _ _ _) (fun _ => ?_) | refine ZP2.bs zp2_aput (fun _ => ?_) | refine ZP2.bs zp2_bput (fun _ => ?_) | refine ZP2.bs (zp2_fput (by decide)) (fun _ => ?_) | exact zp2_aput | exact zp2_bput | exact zp2_fput (by decide) | refine ZP2.bs (zp2_fpub (by decide)) (fun _ => ?_) | exact zp2_fpub (by decide) | refine ZP2.cond ?_ ?_ | refine ZP2.bp (fun _ => ?_))
theorem Z2_m_failAll {F : Nat} {a0 : Int32} {a1 : Int32} {S : mS} : ZP2 (fun S => S) S (D_m_failAll F a0 a1 S) := by
  unfold D_m_failAll
  repeat (with_reducible first | exact ZP2.ret | exact ZP2.ret2 | exact ZP2.none | exact (Z2_m_take) | refine ZP2.b2 (Z2_m_take) (fun _ => ?_) | exact (Z2_m_failAll_23 _ _ _ _) | refine ZP2.bs (Z2_m_failAll_23 _ _ _ _) (fun _ => ?_) | refine ZP2.bs zp2_aput (fun _ => ?_) | refine ZP2.bs zp2_bput (fun _ => ?_) | refine ZP2.bs (zp2_fput (by decide)) (fun _ => ?_) | exact zp2_aput | exact zp2_bput | exact zp2_fput (by decide) | refine ZP2.bs (zp2_fpub (by decide)) (fun _ => ?_) | exact zp2_fpub (by decide) | refine ZP2.cond ?_ ?_ | refine ZP2.bp (fun _ => ?_))
theorem Z2_m_takeIn_493 {F : Nat} {rec359 : Int32 → Int32 → Int32 → mS → Option (mS)} {x4 : Int32} {x5 : Int32} {x6 : Int32} {S : mS} (hrec359 : ∀ (y0 : Int32) (y1 : Int32) (y2 : Int32) S, ZP2 (fun S => S) S (rec359 y0 y1 y2 S)) : ZP2 (fun S => S) S (D_m_takeIn_493 F rec359 x4 x5 x6 S) := by
  unfold D_m_takeIn_493
  repeat (with_reducible first | exact ZP2.ret | exact ZP2.ret2 | exact ZP2.none | exact (hrec359 _ _ _ _) | refine ZP2.bs (hrec359 _ _ _ _) (fun _ => ?_) | refine ZP2.bs zp2_aput (fun _ => ?_) | refine ZP2.bs zp2_bput (fun _ => ?_) | refine ZP2.bs (zp2_fput (by decide)) (fun _ => ?_) | exact zp2_aput | exact zp2_bput | exact zp2_fput (by decide) | refine ZP2.bs (zp2_fpub (by decide)) (fun _ => ?_) | exact zp2_fpub (by decide) | refine ZP2.cond ?_ ?_ | refine ZP2.bp (fun _ => ?_))
theorem Z2_m_takeIn_359 {F : Nat}  : ∀ (n : Nat) (y0 : Int32) (y1 : Int32) (y2 : Int32) (S : mS), ZP2 (fun S => S) S (D_m_takeIn_359 F n y0 y1 y2 S) := by
  intro n
  induction n with
  | zero => intro y0 y1 y2 S; exact ZP2.none
  | succ n ih =>
    intro y0 y1 y2 S
    unfold D_m_takeIn_359
    repeat (with_reducible first | exact ZP2.ret | exact ZP2.ret2 | exact ZP2.none | exact (Z2_m_again) | refine ZP2.b2 (Z2_m_again) (fun _ => ?_) | exact (Z2_m_look) | refine ZP2.bs (Z2_m_look) (fun _ => ?_) | exact (Z2_m_takeIn_493 ih) | refine ZP2.bs (Z2_m_takeIn_493 ih) (fun _ => ?_) | exact (Z2_m_give) | refine ZP2.bs (Z2_m_give) (fun _ => ?_) | exact (ih _ _ _ _) | refine ZP2.bs (ih _ _ _ _) (fun _ => ?_) | refine ZP2.bs zp2_aput (fun _ => ?_) | refine ZP2.bs zp2_bput (fun _ => ?_) | refine ZP2.bs (zp2_fput (by decide)) (fun _ => ?_) | exact zp2_aput | exact zp2_bput | exact zp2_fput (by decide) | refine ZP2.bs (zp2_fpub (by decide)) (fun _ => ?_) | exact zp2_fpub (by decide) | refine ZP2.cond ?_ ?_ | refine ZP2.bp (fun _ => ?_))
theorem Z2_m_takeIn_285 {F : Nat}  : ∀ (n : Nat) (y0 : Int32) (y1 : Int32) (y2 : Int32) (y3 : Int32) (S : mS), ZP2 (fun S => S) S (D_m_takeIn_285 F n y0 y1 y2 y3 S) := by
  intro n
  induction n with
  | zero => intro y0 y1 y2 y3 S; exact ZP2.none
  | succ n ih =>
    intro y0 y1 y2 y3 S
    unfold D_m_takeIn_285
    repeat (with_reducible first | exact ZP2.ret | exact ZP2.ret2 | exact ZP2.none | exact (Z2_m_takeIn_359 _ _ _ _ _) | refine ZP2.bs (Z2_m_takeIn_359 _ _ _ _ _) (fun _ => ?_) | exact (ih _ _ _ _ _) | refine ZP2.bs (ih _ _ _ _ _) (fun _ => ?_) | refine ZP2.bs zp2_aput (fun _ => ?_) | refine ZP2.bs zp2_bput (fun _ => ?_) | refine ZP2.bs (zp2_fput (by decide)) (fun _ => ?_) | exact zp2_aput | exact zp2_bput | exact zp2_fput (by decide) | refine ZP2.bs (zp2_fpub (by decide)) (fun _ => ?_) | exact zp2_fpub (by decide) | refine ZP2.cond ?_ ?_ | refine ZP2.bp (fun _ => ?_))
theorem Z2_m_takeIn_270 {F : Nat} {x1 : Int32} {x2 : Int32} {x3 : Int32} {x4 : Int32} {S : mS} : ZP2 (fun S => S) S (D_m_takeIn_270 F x1 x2 x3 x4 S) := by
  unfold D_m_takeIn_270
  repeat (with_reducible first | exact ZP2.ret | exact ZP2.ret2 | exact ZP2.none | exact (Z2_m_take) | refine ZP2.b2 (Z2_m_take) (fun _ => ?_) | exact (Z2_m_takeIn_285 _ _ _ _ _ _) | refine ZP2.bs (Z2_m_takeIn_285 _ _ _ _ _ _) (fun _ => ?_) | refine ZP2.bs zp2_aput (fun _ => ?_) | refine ZP2.bs zp2_bput (fun _ => ?_) | refine ZP2.bs (zp2_fput (by decide)) (fun _ => ?_) | exact zp2_aput | exact zp2_bput | exact zp2_fput (by decide) | refine ZP2.bs (zp2_fpub (by decide)) (fun _ => ?_) | exact zp2_fpub (by decide) | refine ZP2.cond ?_ ?_ | refine ZP2.bp (fun _ => ?_))
theorem Z2_m_takeIn_176 {F : Nat}  : ∀ (n : Nat) (y0 : Int32) (y1 : Int32) (y2 : Int32) (y3 : Int32) (y4 : Int32) (S : mS), ZP2 (fun S => S) S (D_m_takeIn_176 F n y0 y1 y2 y3 y4 S) := by
  intro n
  induction n with
  | zero => intro y0 y1 y2 y3 y4 S; exact ZP2.none
  | succ n ih =>
    intro y0 y1 y2 y3 y4 S
    unfold D_m_takeIn_176
    repeat (with_reducible first | exact ZP2.ret | exact ZP2.ret2 | exact ZP2.none | exact (Z2_m_newest) | refine ZP2.bs (Z2_m_newest) (fun _ => ?_) | exact (Z2_m_trim) | refine ZP2.bs (Z2_m_trim) (fun _ => ?_) | exact (Z2_m_takeIn_270) | refine ZP2.bs (Z2_m_takeIn_270) (fun _ => ?_) | exact (ih _ _ _ _ _ _) | refine ZP2.bs (ih _ _ _ _ _ _) (fun _ => ?_) | refine ZP2.bs zp2_aput (fun _ => ?_) | refine ZP2.bs zp2_bput (fun _ => ?_) | refine ZP2.bs (zp2_fput (by decide)) (fun _ => ?_) | exact zp2_aput | exact zp2_bput | exact zp2_fput (by decide) | refine ZP2.bs (zp2_fpub (by decide)) (fun _ => ?_) | exact zp2_fpub (by decide) | refine ZP2.cond ?_ ?_ | refine ZP2.bp (fun _ => ?_))
theorem Z2_m_takeIn_13 {F : Nat}  : ∀ (n : Nat) (y0 : Int32) (y1 : Int32) (y2 : Int32) (y3 : Int32) (S : mS), ZP2 (fun S => S) S (D_m_takeIn_13 F n y0 y1 y2 y3 S) := by
  intro n
  induction n with
  | zero => intro y0 y1 y2 y3 S; exact ZP2.none
  | succ n ih =>
    intro y0 y1 y2 y3 S
    unfold D_m_takeIn_13
    repeat (with_reducible first | exact ZP2.ret | exact ZP2.ret2 | exact ZP2.none | exact (Z2_m_takeIn_176 _ _ _ _ _ _ _) | refine ZP2.bs (Z2_m_takeIn_176 _ _ _ _ _ _ _) (fun _ => ?_) | exact (Z2_m_takeIn_270) | refine ZP2.bs (Z2_m_takeIn_270) (fun _ => ?_) | exact (ih _ _ _ _ _) | refine ZP2.bs (ih _ _ _ _ _) (fun _ => ?_) | refine ZP2.bs zp2_aput (fun _ => ?_) | refine ZP2.bs zp2_bput (fun _ => ?_) | refine ZP2.bs (zp2_fput (by decide)) (fun _ => ?_) | exact zp2_aput | exact zp2_bput | exact zp2_fput (by decide) | refine ZP2.bs (zp2_fpub (by decide)) (fun _ => ?_) | exact zp2_fpub (by decide) | refine ZP2.cond ?_ ?_ | refine ZP2.bp (fun _ => ?_))
theorem Z2_m_takeIn {F : Nat} {a0 : Int32} {a1 : Int32} {a2 : Int32} {S : mS} : ZP2 (fun S => S) S (D_m_takeIn F a0 a1 a2 S) := by
  unfold D_m_takeIn
  repeat (with_reducible first | exact ZP2.ret | exact ZP2.ret2 | exact ZP2.none | exact (Z2_m_takeIn_13 _ _ _ _ _ _) | refine ZP2.bs (Z2_m_takeIn_13 _ _ _ _ _ _) (fun _ => ?_) | refine ZP2.bs zp2_aput (fun _ => ?_) | refine ZP2.bs zp2_bput (fun _ => ?_) | refine ZP2.bs (zp2_fput (by decide)) (fun _ => ?_) | exact zp2_aput | exact zp2_bput | exact zp2_fput (by decide) | refine ZP2.bs (zp2_fpub (by decide)) (fun _ => ?_) | exact zp2_fpub (by decide) | refine ZP2.cond ?_ ?_ | refine ZP2.bp (fun _ => ?_))
theorem Z2_m_bringFill_161 {F : Nat}  : ∀ (n : Nat) (y0 : Int32) (y1 : Int32) (S : mS), ZP2 (fun S => S) S (D_m_bringFill_161 F n y0 y1 S) := by
  intro n
  induction n with
  | zero => intro y0 y1 S; exact ZP2.none
  | succ n ih =>
    intro y0 y1 S
    unfold D_m_bringFill_161
    repeat (with_reducible first | exact ZP2.ret | exact ZP2.ret2 | exact ZP2.none | exact (Z2_m_again) | refine ZP2.b2 (Z2_m_again) (fun _ => ?_) | exact (Z2_m_refuse) | refine ZP2.bs (Z2_m_refuse) (fun _ => ?_) | exact (ih _ _ _) | refine ZP2.bs (ih _ _ _) (fun _ => ?_) | refine ZP2.bs zp2_aput (fun _ => ?_) | refine ZP2.bs zp2_bput (fun _ => ?_) | refine ZP2.bs (zp2_fput (by decide)) (fun _ => ?_) | exact zp2_aput | exact zp2_bput | exact zp2_fput (by decide) | refine ZP2.bs (zp2_fpub (by decide)) (fun _ => ?_) | exact zp2_fpub (by decide) | refine ZP2.cond ?_ ?_ | refine ZP2.bp (fun _ => ?_))
theorem Z2_m_bringFill_124 {F : Nat}  : ∀ (n : Nat) (y0 : Int32) (y1 : Int32) (y2 : Int32) (y3 : Int32) (S : mS), ZP2 (fun S => S) S (D_m_bringFill_124 F n y0 y1 y2 y3 S) := by
  intro n
  induction n with
  | zero => intro y0 y1 y2 y3 S; exact ZP2.none
  | succ n ih =>
    intro y0 y1 y2 y3 S
    unfold D_m_bringFill_124
    repeat (with_reducible first | exact ZP2.ret | exact ZP2.ret2 | exact ZP2.none | exact (Z2_m_take) | refine ZP2.b2 (Z2_m_take) (fun _ => ?_) | exact (Z2_m_bringFill_161 _ _ _ _) | refine ZP2.bs (Z2_m_bringFill_161 _ _ _ _) (fun _ => ?_) | exact (ih _ _ _ _ _) | refine ZP2.bs (ih _ _ _ _ _) (fun _ => ?_) | refine ZP2.bs zp2_aput (fun _ => ?_) | refine ZP2.bs zp2_bput (fun _ => ?_) | refine ZP2.bs (zp2_fput (by decide)) (fun _ => ?_) | exact zp2_aput | exact zp2_bput | exact zp2_fput (by decide) | refine ZP2.bs (zp2_fpub (by decide)) (fun _ => ?_) | exact zp2_fpub (by decide) | refine ZP2.cond ?_ ?_ | refine ZP2.bp (fun _ => ?_))
theorem Z2_m_bringFill_276 {F : Nat} {x1 : Int32} {x2 : Int32} {x3 : Int32} {S : mS} : ZP2 (fun S => S) S (D_m_bringFill_276 F x1 x2 x3 S) := by
  unfold D_m_bringFill_276
  repeat (with_reducible first | exact ZP2.ret | exact ZP2.ret2 | exact ZP2.none | exact (Z2_m_send) | refine ZP2.b2 (Z2_m_send) (fun _ => ?_) | exact (Z2_m_failAll) | refine ZP2.bs (Z2_m_failAll) (fun _ => ?_) | refine ZP2.bs zp2_aput (fun _ => ?_) | refine ZP2.bs zp2_bput (fun _ => ?_) | refine ZP2.bs (zp2_fput (by decide)) (fun _ => ?_) | exact zp2_aput | exact zp2_bput | exact zp2_fput (by decide) | refine ZP2.bs (zp2_fpub (by decide)) (fun _ => ?_) | exact zp2_fpub (by decide) | refine ZP2.cond ?_ ?_ | refine ZP2.bp (fun _ => ?_))
theorem Z2_m_bringFill_293 {F : Nat} {x1 : Int32} {x3 : Int32} {x4 : Int32} {S : mS} : ZP2 (fun S => S) S (D_m_bringFill_293 F x1 x3 x4 S) := by
  unfold D_m_bringFill_293
  repeat (with_reducible first | exact ZP2.ret | exact ZP2.ret2 | exact ZP2.none | exact (Z2_m_takeIn) | refine ZP2.bs (Z2_m_takeIn) (fun _ => ?_) | refine ZP2.bs zp2_aput (fun _ => ?_) | refine ZP2.bs zp2_bput (fun _ => ?_) | refine ZP2.bs (zp2_fput (by decide)) (fun _ => ?_) | exact zp2_aput | exact zp2_bput | exact zp2_fput (by decide) | refine ZP2.bs (zp2_fpub (by decide)) (fun _ => ?_) | exact zp2_fpub (by decide) | refine ZP2.cond ?_ ?_ | refine ZP2.bp (fun _ => ?_))
theorem Z2_m_bringFill_78 {F : Nat} {x1 : Int32} {x2 : Int32} {x3 : Int32} {S : mS} : ZP2 (fun S => S) S (D_m_bringFill_78 F x1 x2 x3 S) := by
  unfold D_m_bringFill_78
  repeat (with_reducible first | exact ZP2.ret | exact ZP2.ret2 | exact ZP2.none | exact (Z2_m_bringFill_276) | refine ZP2.bs (Z2_m_bringFill_276) (fun _ => ?_) | exact (Z2_m_bringFill_293) | refine ZP2.bs (Z2_m_bringFill_293) (fun _ => ?_) | exact (Z2_m_failAll) | refine ZP2.bs (Z2_m_failAll) (fun _ => ?_) | exact (Z2_m_bringFill_124 _ _ _ _ _ _) | refine ZP2.bs (Z2_m_bringFill_124 _ _ _ _ _ _) (fun _ => ?_) | refine ZP2.bs zp2_aput (fun _ => ?_) | refine ZP2.bs zp2_bput (fun _ => ?_) | refine ZP2.bs (zp2_fput (by decide)) (fun _ => ?_) | exact zp2_aput | exact zp2_bput | exact zp2_fput (by decide) | refine ZP2.bs (zp2_fpub (by decide)) (fun _ => ?_) | exact zp2_fpub (by decide) | refine ZP2.cond ?_ ?_ | refine ZP2.bp (fun _ => ?_))
theorem Z2_m_bringFill {F : Nat} {a0 : Int32} {S : mS} : ZP2 (fun S => S) S (D_m_bringFill F a0 S) := by
  unfold D_m_bringFill
  repeat (with_reducible first | exact ZP2.ret | exact ZP2.ret2 | exact ZP2.none | exact (Z2_m_bringFill_78) | refine ZP2.bs (Z2_m_bringFill_78) (fun _ => ?_) | exact (Z2_m_forgive) | refine ZP2.bs (Z2_m_forgive) (fun _ => ?_) | refine ZP2.bs zp2_aput (fun _ => ?_) | refine ZP2.bs zp2_bput (fun _ => ?_) | refine ZP2.bs (zp2_fput (by decide)) (fun _ => ?_) | exact zp2_aput | exact zp2_bput | exact zp2_fput (by decide) | refine ZP2.bs (zp2_fpub (by decide)) (fun _ => ?_) | exact zp2_fpub (by decide) | refine ZP2.cond ?_ ?_ | refine ZP2.bp (fun _ => ?_))
theorem Z2_m_bringPurge_60 {F : Nat}  : ∀ (n : Nat) (y0 : Int32) (y1 : Int32) (S : mS), ZP2 (fun S => S) S (D_m_bringPurge_60 F n y0 y1 S) := by
  intro n
  induction n with
  | zero => intro y0 y1 S; exact ZP2.none
  | succ n ih =>
    intro y0 y1 S
    unfold D_m_bringPurge_60
    repeat (with_reducible first | exact ZP2.ret | exact ZP2.ret2 | exact ZP2.none | exact (Z2_m_blank) | refine ZP2.bs (Z2_m_blank) (fun _ => ?_) | exact (Z2_m_post) | refine ZP2.bs (Z2_m_post) (fun _ => ?_) | exact (ih _ _ _) | refine ZP2.bs (ih _ _ _) (fun _ => ?_) | refine ZP2.bs zp2_aput (fun _ => ?_) | refine ZP2.bs zp2_bput (fun _ => ?_) | refine ZP2.bs (zp2_fput (by decide)) (fun _ => ?_) | exact zp2_aput | exact zp2_bput | exact zp2_fput (by decide) | refine ZP2.bs (zp2_fpub (by decide)) (fun _ => ?_) | exact zp2_fpub (by decide) | refine ZP2.cond ?_ ?_ | refine ZP2.bp (fun _ => ?_))
theorem Z2_m_bringPurge {F : Nat} {a0 : Int32} {S : mS} : ZP2 (fun S => S) S (D_m_bringPurge F a0 S) := by
  unfold D_m_bringPurge
  repeat (with_reducible first | exact ZP2.ret | exact ZP2.ret2 | exact ZP2.none | exact (Z2_m_bringPurge_60 _ _ _ _) | refine ZP2.bs (Z2_m_bringPurge_60 _ _ _ _) (fun _ => ?_) | refine ZP2.bs zp2_aput (fun _ => ?_) | refine ZP2.bs zp2_bput (fun _ => ?_) | refine ZP2.bs (zp2_fput (by decide)) (fun _ => ?_) | exact zp2_aput | exact zp2_bput | exact zp2_fput (by decide) | refine ZP2.bs (zp2_fpub (by decide)) (fun _ => ?_) | exact zp2_fpub (by decide) | refine ZP2.cond ?_ ?_ | refine ZP2.bp (fun _ => ?_))
theorem Z2_m_bring_57 {F : Nat} {x2 : Int32} {S : mS} : ZP2 (fun S => S) S (D_m_bring_57 F x2 S) := by
  unfold D_m_bring_57
  refine ZP2.bp (fun v14 => ?_)
  refine ZP2.cond (ZP2.bs Z2_m_bringFetch (fun _ => ZP2.ret)) (ZP2.cond (ZP2.bs Z2_m_bringFill (fun _ => ZP2.ret)) (ZP2.cond (ZP2.bs Z2_m_bringPurge (fun _ => ZP2.ret)) ?_))
  refine ZP2.bp (fun _ => ?_)
  refine ZP2.bp (fun _ => ?_)
  exact ZP2.bs (zp2_fput (by decide)) (fun _ => ZP2.ret)
theorem Z2_m_bring_2 {F : Nat}  : ∀ (n : Nat) (y0 : Int32) (y1 : Int32) (S : mS), ZP2 (fun S => S) S (D_m_bring_2 F n y0 y1 S) := by
  intro n
  induction n with
  | zero => intro y0 y1 S; exact ZP2.none
  | succ n ih =>
    intro y0 y1 S
    unfold D_m_bring_2
    repeat (with_reducible first | exact ZP2.ret | exact ZP2.ret2 | exact ZP2.none | exact (Z2_m_remove) | refine ZP2.bs (Z2_m_remove) (fun _ => ?_) | exact (Z2_m_bring_57) | refine ZP2.bs (Z2_m_bring_57) (fun _ => ?_) | exact (ih _ _ _) | refine ZP2.bs (ih _ _ _) (fun _ => ?_) | refine ZP2.bs zp2_aput (fun _ => ?_) | refine ZP2.bs zp2_bput (fun _ => ?_) | refine ZP2.bs (zp2_fput (by decide)) (fun _ => ?_) | exact zp2_aput | exact zp2_bput | exact zp2_fput (by decide) | refine ZP2.bs (zp2_fpub (by decide)) (fun _ => ?_) | exact zp2_fpub (by decide) | refine ZP2.cond ?_ ?_ | refine ZP2.bp (fun _ => ?_))
theorem Z2_m_bring {F : Nat} {a0 : Int32} {S : mS} : ZP2 (fun S => S) S (D_m_bring F a0 S) := by
  unfold D_m_bring
  repeat (with_reducible first | exact ZP2.ret | exact ZP2.ret2 | exact ZP2.none | exact (Z2_m_bring_2 _ _ _ _) | refine ZP2.bs (Z2_m_bring_2 _ _ _ _) (fun _ => ?_) | refine ZP2.bs zp2_aput (fun _ => ?_) | refine ZP2.bs zp2_bput (fun _ => ?_) | refine ZP2.bs (zp2_fput (by decide)) (fun _ => ?_) | exact zp2_aput | exact zp2_bput | exact zp2_fput (by decide) | refine ZP2.bs (zp2_fpub (by decide)) (fun _ => ?_) | exact zp2_fpub (by decide) | refine ZP2.cond ?_ ?_ | refine ZP2.bp (fun _ => ?_))
theorem Z2_m_deliver {F : Nat} {a0 : Int32} {S : mS} : ZP2 Prod.snd S (D_m_deliver F a0 S) := by
  unfold D_m_deliver
  repeat (with_reducible first | exact ZP2.ret | exact ZP2.ret2 | exact ZP2.none | exact (Z2_m_bring) | refine ZP2.bs (Z2_m_bring) (fun _ => ?_) | refine ZP2.bs zp2_aput (fun _ => ?_) | refine ZP2.bs zp2_bput (fun _ => ?_) | refine ZP2.bs (zp2_fput (by decide)) (fun _ => ?_) | exact zp2_aput | exact zp2_bput | exact zp2_fput (by decide) | refine ZP2.bs (zp2_fpub (by decide)) (fun _ => ?_) | exact zp2_fpub (by decide) | refine ZP2.cond ?_ ?_ | refine ZP2.bp (fun _ => ?_))
theorem Z2_m_lose {F : Nat} {a0 : Int32} {S : mS} : ZP2 Prod.snd S (D_m_lose F a0 S) := by
  unfold D_m_lose
  repeat (with_reducible first | exact ZP2.ret | exact ZP2.ret2 | exact ZP2.none | exact (Z2_m_remove) | refine ZP2.bs (Z2_m_remove) (fun _ => ?_) | refine ZP2.bs zp2_aput (fun _ => ?_) | refine ZP2.bs zp2_bput (fun _ => ?_) | refine ZP2.bs (zp2_fput (by decide)) (fun _ => ?_) | exact zp2_aput | exact zp2_bput | exact zp2_fput (by decide) | refine ZP2.bs (zp2_fpub (by decide)) (fun _ => ?_) | exact zp2_fpub (by decide) | refine ZP2.cond ?_ ?_ | refine ZP2.bp (fun _ => ?_))
theorem Z2_m_settle_7 {F : Nat}  : ∀ (n : Nat) (y0 : Int32) (S : mS), ZP2 Prod.snd S (D_m_settle_7 F n y0 S) := by
  intro n
  induction n with
  | zero => intro y0 S; exact ZP2.none
  | succ n ih =>
    intro y0 S
    unfold D_m_settle_7
    repeat (with_reducible first | exact ZP2.ret | exact ZP2.ret2 | exact ZP2.none | exact (Z2_m_bring) | refine ZP2.bs (Z2_m_bring) (fun _ => ?_) | exact (ih _ _) | refine ZP2.b2 (ih _ _) (fun _ => ?_) | refine ZP2.bs zp2_aput (fun _ => ?_) | refine ZP2.bs zp2_bput (fun _ => ?_) | refine ZP2.bs (zp2_fput (by decide)) (fun _ => ?_) | exact zp2_aput | exact zp2_bput | exact zp2_fput (by decide) | refine ZP2.bs (zp2_fpub (by decide)) (fun _ => ?_) | exact zp2_fpub (by decide) | refine ZP2.cond ?_ ?_ | refine ZP2.bp (fun _ => ?_))
theorem Z2_m_settle {F : Nat} {S : mS} : ZP2 Prod.snd S (D_m_settle F S) := by
  unfold D_m_settle
  repeat (with_reducible first | exact ZP2.ret | exact ZP2.ret2 | exact ZP2.none | exact (Z2_m_settle_7 _ _ _) | refine ZP2.b2 (Z2_m_settle_7 _ _ _) (fun _ => ?_) | refine ZP2.bs zp2_aput (fun _ => ?_) | refine ZP2.bs zp2_bput (fun _ => ?_) | refine ZP2.bs (zp2_fput (by decide)) (fun _ => ?_) | exact zp2_aput | exact zp2_bput | exact zp2_fput (by decide) | refine ZP2.bs (zp2_fpub (by decide)) (fun _ => ?_) | exact zp2_fpub (by decide) | refine ZP2.cond ?_ ?_ | refine ZP2.bp (fun _ => ?_))
theorem Z2_m_purge_109 {F : Nat} {rec61 : Int32 → Int32 → Int32 → mS → Option (Int32 × mS)} {x1 : Int32} {x2 : Int32} {x3 : Int32} {S : mS} (hrec61 : ∀ (y0 : Int32) (y1 : Int32) (y2 : Int32) S, ZP2 Prod.snd S (rec61 y0 y1 y2 S)) : ZP2 Prod.snd S (D_m_purge_109 F rec61 x1 x2 x3 S) := by
  unfold D_m_purge_109
  repeat (with_reducible first | exact ZP2.ret | exact ZP2.ret2 | exact ZP2.none | exact (hrec61 _ _ _ _) | refine ZP2.b2 (hrec61 _ _ _ _) (fun _ => ?_) | refine ZP2.bs zp2_aput (fun _ => ?_) | refine ZP2.bs zp2_bput (fun _ => ?_) | refine ZP2.bs (zp2_fput (by decide)) (fun _ => ?_) | exact zp2_aput | exact zp2_bput | exact zp2_fput (by decide) | refine ZP2.bs (zp2_fpub (by decide)) (fun _ => ?_) | exact zp2_fpub (by decide) | refine ZP2.cond ?_ ?_ | refine ZP2.bp (fun _ => ?_))
theorem Z2_m_purge_61 {F : Nat}  : ∀ (n : Nat) (y0 : Int32) (y1 : Int32) (y2 : Int32) (S : mS), ZP2 Prod.snd S (D_m_purge_61 F n y0 y1 y2 S) := by
  intro n
  induction n with
  | zero => intro y0 y1 y2 S; exact ZP2.none
  | succ n ih =>
    intro y0 y1 y2 S
    unfold D_m_purge_61
    repeat (with_reducible first | exact ZP2.ret | exact ZP2.ret2 | exact ZP2.none | exact (Z2_m_blank) | refine ZP2.bs (Z2_m_blank) (fun _ => ?_) | exact (Z2_m_post) | refine ZP2.bs (Z2_m_post) (fun _ => ?_) | exact (Z2_m_purge_109 ih) | refine ZP2.b2 (Z2_m_purge_109 ih) (fun _ => ?_) | exact (ih _ _ _ _) | refine ZP2.b2 (ih _ _ _ _) (fun _ => ?_) | refine ZP2.bs zp2_aput (fun _ => ?_) | refine ZP2.bs zp2_bput (fun _ => ?_) | refine ZP2.bs (zp2_fput (by decide)) (fun _ => ?_) | exact zp2_aput | exact zp2_bput | exact zp2_fput (by decide) | refine ZP2.bs (zp2_fpub (by decide)) (fun _ => ?_) | exact zp2_fpub (by decide) | refine ZP2.cond ?_ ?_ | refine ZP2.bp (fun _ => ?_))
theorem Z2_m_purge {F : Nat} {a0 : Int32} {a1 : Int32} {S : mS} : ZP2 Prod.snd S (D_m_purge F a0 a1 S) := by
  unfold D_m_purge
  repeat (with_reducible first | exact ZP2.ret | exact ZP2.ret2 | exact ZP2.none | exact (Z2_m_purge_61 _ _ _ _ _) | refine ZP2.b2 (Z2_m_purge_61 _ _ _ _ _) (fun _ => ?_) | refine ZP2.bs zp2_aput (fun _ => ?_) | refine ZP2.bs zp2_bput (fun _ => ?_) | refine ZP2.bs (zp2_fput (by decide)) (fun _ => ?_) | exact zp2_aput | exact zp2_bput | exact zp2_fput (by decide) | refine ZP2.bs (zp2_fpub (by decide)) (fun _ => ?_) | exact zp2_fpub (by decide) | refine ZP2.cond ?_ ?_ | refine ZP2.bp (fun _ => ?_))
theorem Z2_m_strike {F : Nat} {a0 : Int32} {a1 : Int32} {S : mS} : ZP2 (fun S => S) S (D_m_strike F a0 a1 S) := by
  unfold D_m_strike
  repeat (with_reducible first | exact ZP2.ret | exact ZP2.ret2 | exact ZP2.none | refine ZP2.bs zp2_aput (fun _ => ?_) | refine ZP2.bs zp2_bput (fun _ => ?_) | refine ZP2.bs (zp2_fput (by decide)) (fun _ => ?_) | exact zp2_aput | exact zp2_bput | exact zp2_fput (by decide) | refine ZP2.bs (zp2_fpub (by decide)) (fun _ => ?_) | exact zp2_fpub (by decide) | refine ZP2.cond ?_ ?_ | refine ZP2.bp (fun _ => ?_))
theorem Z2_m_lapse_75 {F : Nat} {rec2 : Int32 → Int32 → mS → Option (mS)} {rec15 : Int32 → Int32 → Int32 → mS → Option (mS)} {x1 : Int32} {x2 : Int32} {x3 : Int32} {S : mS} (hrec2 : ∀ (y0 : Int32) (y1 : Int32) S, ZP2 (fun S => S) S (rec2 y0 y1 S)) (hrec15 : ∀ (y0 : Int32) (y1 : Int32) (y2 : Int32) S, ZP2 (fun S => S) S (rec15 y0 y1 y2 S)) : ZP2 (fun S => S) S (D_m_lapse_75 F rec2 rec15 x1 x2 x3 S) := by
  unfold D_m_lapse_75
  repeat (with_reducible first | exact ZP2.ret | exact ZP2.ret2 | exact ZP2.none | exact (hrec2 _ _ _) | refine ZP2.bs (hrec2 _ _ _) (fun _ => ?_) | exact (hrec15 _ _ _ _) | refine ZP2.bs (hrec15 _ _ _ _) (fun _ => ?_) | refine ZP2.bs zp2_aput (fun _ => ?_) | refine ZP2.bs zp2_bput (fun _ => ?_) | refine ZP2.bs (zp2_fput (by decide)) (fun _ => ?_) | exact zp2_aput | exact zp2_bput | exact zp2_fput (by decide) | refine ZP2.bs (zp2_fpub (by decide)) (fun _ => ?_) | exact zp2_fpub (by decide) | refine ZP2.cond ?_ ?_ | refine ZP2.bp (fun _ => ?_))
theorem Z2_m_lapse_73 {F : Nat} {rec2 : Int32 → Int32 → mS → Option (mS)} {rec15 : Int32 → Int32 → Int32 → mS → Option (mS)} {x1 : Int32} {x3 : Int32} {S : mS} (hrec2 : ∀ (y0 : Int32) (y1 : Int32) S, ZP2 (fun S => S) S (rec2 y0 y1 S)) (hrec15 : ∀ (y0 : Int32) (y1 : Int32) (y2 : Int32) S, ZP2 (fun S => S) S (rec15 y0 y1 y2 S)) : ZP2 (fun S => S) S (D_m_lapse_73 F rec2 rec15 x1 x3 S) := by
  unfold D_m_lapse_73
  repeat (with_reducible first | exact ZP2.ret | exact ZP2.ret2 | exact ZP2.none | exact (Z2_m_lapse_75 hrec2 hrec15) | refine ZP2.bs (Z2_m_lapse_75 hrec2 hrec15) (fun _ => ?_) | exact (hrec2 _ _ _) | refine ZP2.bs (hrec2 _ _ _) (fun _ => ?_) | exact (hrec15 _ _ _ _) | refine ZP2.bs (hrec15 _ _ _ _) (fun _ => ?_) | refine ZP2.bs zp2_aput (fun _ => ?_) | refine ZP2.bs zp2_bput (fun _ => ?_) | refine ZP2.bs (zp2_fput (by decide)) (fun _ => ?_) | exact zp2_aput | exact zp2_bput | exact zp2_fput (by decide) | refine ZP2.bs (zp2_fpub (by decide)) (fun _ => ?_) | exact zp2_fpub (by decide) | refine ZP2.cond ?_ ?_ | refine ZP2.bp (fun _ => ?_))
theorem Z2_m_lapse_105 {F : Nat} {rec2 : Int32 → Int32 → mS → Option (mS)} {x1 : Int32} {x2 : Int32} {S : mS} (hrec2 : ∀ (y0 : Int32) (y1 : Int32) S, ZP2 (fun S => S) S (rec2 y0 y1 S)) : ZP2 (fun S => S) S (D_m_lapse_105 F rec2 x1 x2 S) := by
  unfold D_m_lapse_105
  repeat (with_reducible first | exact ZP2.ret | exact ZP2.ret2 | exact ZP2.none | exact (Z2_m_failAll) | refine ZP2.bs (Z2_m_failAll) (fun _ => ?_) | exact (hrec2 _ _ _) | refine ZP2.bs (hrec2 _ _ _) (fun _ => ?_) | refine ZP2.bs zp2_aput (fun _ => ?_) | refine ZP2.bs zp2_bput (fun _ => ?_) | refine ZP2.bs (zp2_fput (by decide)) (fun _ => ?_) | exact zp2_aput | exact zp2_bput | exact zp2_fput (by decide) | refine ZP2.bs (zp2_fpub (by decide)) (fun _ => ?_) | exact zp2_fpub (by decide) | refine ZP2.cond ?_ ?_ | refine ZP2.bp (fun _ => ?_))
theorem Z2_m_lapse_15 {F : Nat} {rec2 : Int32 → Int32 → mS → Option (mS)} (hrec2 : ∀ (y0 : Int32) (y1 : Int32) S, ZP2 (fun S => S) S (rec2 y0 y1 S)) : ∀ (n : Nat) (y0 : Int32) (y1 : Int32) (y2 : Int32) (S : mS), ZP2 (fun S => S) S (D_m_lapse_15 F rec2 n y0 y1 y2 S) := by
  intro n
  induction n with
  | zero => intro y0 y1 y2 S; exact ZP2.none
  | succ n ih =>
    intro y0 y1 y2 S
    unfold D_m_lapse_15
    repeat (with_reducible first | exact ZP2.ret | exact ZP2.ret2 | exact ZP2.none | exact (Z2_m_lapse_105 hrec2) | refine ZP2.bs (Z2_m_lapse_105 hrec2) (fun _ => ?_) | exact (Z2_m_strike) | refine ZP2.bs (Z2_m_strike) (fun _ => ?_) | exact (Z2_m_lapse_75 hrec2 ih) | refine ZP2.bs (Z2_m_lapse_75 hrec2 ih) (fun _ => ?_) | exact (Z2_m_lapse_73 hrec2 ih) | refine ZP2.bs (Z2_m_lapse_73 hrec2 ih) (fun _ => ?_) | exact (hrec2 _ _ _) | refine ZP2.bs (hrec2 _ _ _) (fun _ => ?_) | exact (ih _ _ _ _) | refine ZP2.bs (ih _ _ _ _) (fun _ => ?_) | refine ZP2.bs zp2_aput (fun _ => ?_) | refine ZP2.bs zp2_bput (fun _ => ?_) | refine ZP2.bs (zp2_fput (by decide)) (fun _ => ?_) | exact zp2_aput | exact zp2_bput | exact zp2_fput (by decide) | refine ZP2.bs (zp2_fpub (by decide)) (fun _ => ?_) | exact zp2_fpub (by decide) | refine ZP2.cond ?_ ?_ | refine ZP2.bp (fun _ => ?_))
theorem Z2_m_lapse_2 {F : Nat}  : ∀ (n : Nat) (y0 : Int32) (y1 : Int32) (S : mS), ZP2 (fun S => S) S (D_m_lapse_2 F n y0 y1 S) := by
  intro n
  induction n with
  | zero => intro y0 y1 S; exact ZP2.none
  | succ n ih =>
    intro y0 y1 S
    unfold D_m_lapse_2
    repeat (with_reducible first | exact ZP2.ret | exact ZP2.ret2 | exact ZP2.none | exact (Z2_m_lapse_15 ih _ _ _ _ _) | refine ZP2.bs (Z2_m_lapse_15 ih _ _ _ _ _) (fun _ => ?_) | exact (ih _ _ _) | refine ZP2.bs (ih _ _ _) (fun _ => ?_) | refine ZP2.bs zp2_aput (fun _ => ?_) | refine ZP2.bs zp2_bput (fun _ => ?_) | refine ZP2.bs (zp2_fput (by decide)) (fun _ => ?_) | exact zp2_aput | exact zp2_bput | exact zp2_fput (by decide) | refine ZP2.bs (zp2_fpub (by decide)) (fun _ => ?_) | exact zp2_fpub (by decide) | refine ZP2.cond ?_ ?_ | refine ZP2.bp (fun _ => ?_))
theorem Z2_m_lapse {F : Nat} {a0 : Int32} {S : mS} : ZP2 (fun S => S) S (D_m_lapse F a0 S) := by
  unfold D_m_lapse
  repeat (with_reducible first | exact ZP2.ret | exact ZP2.ret2 | exact ZP2.none | exact (Z2_m_lapse_2 _ _ _ _) | refine ZP2.bs (Z2_m_lapse_2 _ _ _ _) (fun _ => ?_) | refine ZP2.bs zp2_aput (fun _ => ?_) | refine ZP2.bs zp2_bput (fun _ => ?_) | refine ZP2.bs (zp2_fput (by decide)) (fun _ => ?_) | exact zp2_aput | exact zp2_bput | exact zp2_fput (by decide) | refine ZP2.bs (zp2_fpub (by decide)) (fun _ => ?_) | exact zp2_fpub (by decide) | refine ZP2.cond ?_ ?_ | refine ZP2.bp (fun _ => ?_))
theorem Z2_m_tick_48 {F : Nat} {rec31 : Int32 → Int32 → mS → Option (Int32 × mS)} (hrec31 : ∀ (y0 : Int32) (y1 : Int32) S, ZP2 Prod.snd S (rec31 y0 y1 S)) : ∀ (n : Nat) (y0 : Int32) (y1 : Int32) (y2 : Int32) (S : mS), ZP2 Prod.snd S (D_m_tick_48 F rec31 n y0 y1 y2 S) := by
  intro n
  induction n with
  | zero => intro y0 y1 y2 S; exact ZP2.none
  | succ n ih =>
    intro y0 y1 y2 S
    unfold D_m_tick_48
    repeat (with_reducible first | exact ZP2.ret | exact ZP2.ret2 | exact ZP2.none | exact (Z2_m_lapse) | refine ZP2.bs (Z2_m_lapse) (fun _ => ?_) | exact (hrec31 _ _ _) | refine ZP2.b2 (hrec31 _ _ _) (fun _ => ?_) | exact (ih _ _ _ _) | refine ZP2.b2 (ih _ _ _ _) (fun _ => ?_) | refine ZP2.bs zp2_aput (fun _ => ?_) | refine ZP2.bs zp2_bput (fun _ => ?_) | refine ZP2.bs (zp2_fput (by decide)) (fun _ => ?_) | exact zp2_aput | exact zp2_bput | exact zp2_fput (by decide) | refine ZP2.bs (zp2_fpub (by decide)) (fun _ => ?_) | exact zp2_fpub (by decide) | refine ZP2.cond ?_ ?_ | refine ZP2.bp (fun _ => ?_))
theorem Z2_m_tick_31 {F : Nat}  : ∀ (n : Nat) (y0 : Int32) (y1 : Int32) (S : mS), ZP2 Prod.snd S (D_m_tick_31 F n y0 y1 S) := by
  intro n
  induction n with
  | zero => intro y0 y1 S; exact ZP2.none
  | succ n ih =>
    intro y0 y1 S
    unfold D_m_tick_31
    repeat (with_reducible first | exact ZP2.ret | exact ZP2.ret2 | exact ZP2.none | exact (Z2_m_tick_48 ih _ _ _ _ _) | refine ZP2.b2 (Z2_m_tick_48 ih _ _ _ _ _) (fun _ => ?_) | exact (ih _ _ _) | refine ZP2.b2 (ih _ _ _) (fun _ => ?_) | refine ZP2.bs zp2_aput (fun _ => ?_) | refine ZP2.bs zp2_bput (fun _ => ?_) | refine ZP2.bs (zp2_fput (by decide)) (fun _ => ?_) | exact zp2_aput | exact zp2_bput | exact zp2_fput (by decide) | refine ZP2.bs (zp2_fpub (by decide)) (fun _ => ?_) | exact zp2_fpub (by decide) | refine ZP2.cond ?_ ?_ | refine ZP2.bp (fun _ => ?_))
theorem Z2_m_tick {F : Nat} {a0 : Int32} {S : mS} : ZP2 Prod.snd S (D_m_tick F a0 S) := by
  unfold D_m_tick
  repeat (with_reducible first | exact ZP2.ret | exact ZP2.ret2 | exact ZP2.none | exact (Z2_m_tick_31 _ _ _ _) | refine ZP2.b2 (Z2_m_tick_31 _ _ _ _) (fun _ => ?_) | refine ZP2.bs zp2_aput (fun _ => ?_) | refine ZP2.bs zp2_bput (fun _ => ?_) | refine ZP2.bs (zp2_fput (by decide)) (fun _ => ?_) | exact zp2_aput | exact zp2_bput | exact zp2_fput (by decide) | refine ZP2.bs (zp2_fpub (by decide)) (fun _ => ?_) | exact zp2_fpub (by decide) | refine ZP2.cond ?_ ?_ | refine ZP2.bp (fun _ => ?_))
theorem Z2_m_fail_181 {F : Nat} {rec141 : Int32 → Int32 → mS → Option (Int32 × mS)} {x2 : Int32} {x3 : Int32} {S : mS} (hrec141 : ∀ (y0 : Int32) (y1 : Int32) S, ZP2 Prod.snd S (rec141 y0 y1 S)) : ZP2 Prod.snd S (D_m_fail_181 F rec141 x2 x3 S) := by
  unfold D_m_fail_181
  repeat (with_reducible first | exact ZP2.ret | exact ZP2.ret2 | exact ZP2.none | exact (hrec141 _ _ _) | refine ZP2.b2 (hrec141 _ _ _) (fun _ => ?_) | refine ZP2.bs zp2_aput (fun _ => ?_) | refine ZP2.bs zp2_bput (fun _ => ?_) | refine ZP2.bs (zp2_fput (by decide)) (fun _ => ?_) | exact zp2_aput | exact zp2_bput | exact zp2_fput (by decide) | refine ZP2.bs (zp2_fpub (by decide)) (fun _ => ?_) | exact zp2_fpub (by decide) | refine ZP2.cond ?_ ?_ | refine ZP2.bp (fun _ => ?_))
theorem Z2_m_fail_141 {F : Nat}  : ∀ (n : Nat) (y0 : Int32) (y1 : Int32) (S : mS), ZP2 Prod.snd S (D_m_fail_141 F n y0 y1 S) := by
  intro n
  induction n with
  | zero => intro y0 y1 S; exact ZP2.none
  | succ n ih =>
    intro y0 y1 S
    unfold D_m_fail_141
    repeat (with_reducible first | exact ZP2.ret | exact ZP2.ret2 | exact ZP2.none | exact (Z2_m_fail_181 ih) | refine ZP2.b2 (Z2_m_fail_181 ih) (fun _ => ?_) | exact (Z2_m_close) | refine ZP2.bs (Z2_m_close) (fun _ => ?_) | exact (ih _ _ _) | refine ZP2.b2 (ih _ _ _) (fun _ => ?_) | refine ZP2.bs zp2_aput (fun _ => ?_) | refine ZP2.bs zp2_bput (fun _ => ?_) | refine ZP2.bs (zp2_fput (by decide)) (fun _ => ?_) | exact zp2_aput | exact zp2_bput | exact zp2_fput (by decide) | refine ZP2.bs (zp2_fpub (by decide)) (fun _ => ?_) | exact zp2_fpub (by decide) | refine ZP2.cond ?_ ?_ | refine ZP2.bp (fun _ => ?_))
theorem Z2_m_fail_118 {F : Nat} {x1 : Int32} {S : mS} : ZP2 Prod.snd S (D_m_fail_118 F x1 S) := by
  unfold D_m_fail_118
  repeat (with_reducible first | exact ZP2.ret | exact ZP2.ret2 | exact ZP2.none | exact (Z2_m_take) | refine ZP2.b2 (Z2_m_take) (fun _ => ?_) | exact (Z2_m_fail_141 _ _ _ _) | refine ZP2.b2 (Z2_m_fail_141 _ _ _ _) (fun _ => ?_) | refine ZP2.bs zp2_aput (fun _ => ?_) | refine ZP2.bs zp2_bput (fun _ => ?_) | refine ZP2.bs (zp2_fput (by decide)) (fun _ => ?_) | exact zp2_aput | exact zp2_bput | exact zp2_fput (by decide) | refine ZP2.bs (zp2_fpub (by decide)) (fun _ => ?_) | exact zp2_fpub (by decide) | refine ZP2.cond ?_ ?_ | refine ZP2.bp (fun _ => ?_))
theorem Z2_m_fail_96 {F : Nat}  : ∀ (n : Nat) (y0 : Int32) (y1 : Int32) (S : mS), ZP2 Prod.snd S (D_m_fail_96 F n y0 y1 S) := by
  intro n
  induction n with
  | zero => intro y0 y1 S; exact ZP2.none
  | succ n ih =>
    intro y0 y1 S
    unfold D_m_fail_96
    repeat (with_reducible first | exact ZP2.ret | exact ZP2.ret2 | exact ZP2.none | exact (Z2_m_fail_118) | refine ZP2.b2 (Z2_m_fail_118) (fun _ => ?_) | exact (Z2_m_forgive) | refine ZP2.bs (Z2_m_forgive) (fun _ => ?_) | exact (ih _ _ _) | refine ZP2.b2 (ih _ _ _) (fun _ => ?_) | refine ZP2.bs zp2_aput (fun _ => ?_) | refine ZP2.bs zp2_bput (fun _ => ?_) | refine ZP2.bs (zp2_fput (by decide)) (fun _ => ?_) | exact zp2_aput | exact zp2_bput | exact zp2_fput (by decide) | refine ZP2.bs (zp2_fpub (by decide)) (fun _ => ?_) | exact zp2_fpub (by decide) | refine ZP2.cond ?_ ?_ | refine ZP2.bp (fun _ => ?_))
theorem Z2_m_fail_68 {F : Nat}  : ∀ (n : Nat) (y0 : Int32) (y1 : Int32) (S : mS), ZP2 Prod.snd S (D_m_fail_68 F n y0 y1 S) := by
  intro n
  induction n with
  | zero => intro y0 y1 S; exact ZP2.none
  | succ n ih =>
    intro y0 y1 S
    unfold D_m_fail_68
    repeat (with_reducible first | exact ZP2.ret | exact ZP2.ret2 | exact ZP2.none | exact (Z2_m_fail_96 _ _ _ _) | refine ZP2.b2 (Z2_m_fail_96 _ _ _ _) (fun _ => ?_) | exact (ih _ _ _) | refine ZP2.b2 (ih _ _ _) (fun _ => ?_) | refine ZP2.bs zp2_aput (fun _ => ?_) | refine ZP2.bs zp2_bput (fun _ => ?_) | refine ZP2.bs (zp2_fput (by decide)) (fun _ => ?_) | exact zp2_aput | exact zp2_bput | exact zp2_fput (by decide) | refine ZP2.bs (zp2_fpub (by decide)) (fun _ => ?_) | exact zp2_fpub (by decide) | refine ZP2.cond ?_ ?_ | refine ZP2.bp (fun _ => ?_))
theorem Z2_m_fail_36 {F : Nat}  : ∀ (n : Nat) (y0 : Int32) (y1 : Int32) (S : mS), ZP2 Prod.snd S (D_m_fail_36 F n y0 y1 S) := by
  intro n
  induction n with
  | zero => intro y0 y1 S; exact ZP2.none
  | succ n ih =>
    intro y0 y1 S
    unfold D_m_fail_36
    repeat (with_reducible first | exact ZP2.ret | exact ZP2.ret2 | exact ZP2.none | exact (Z2_m_fail_68 _ _ _ _) | refine ZP2.b2 (Z2_m_fail_68 _ _ _ _) (fun _ => ?_) | exact (ih _ _ _) | refine ZP2.b2 (ih _ _ _) (fun _ => ?_) | refine ZP2.bs zp2_aput (fun _ => ?_) | refine ZP2.bs zp2_bput (fun _ => ?_) | refine ZP2.bs (zp2_fput (by decide)) (fun _ => ?_) | exact zp2_aput | exact zp2_bput | exact zp2_fput (by decide) | refine ZP2.bs (zp2_fpub (by decide)) (fun _ => ?_) | exact zp2_fpub (by decide) | refine ZP2.cond ?_ ?_ | refine ZP2.bp (fun _ => ?_))
theorem Z2_m_fail {F : Nat} {a0 : Int32} {S : mS} : ZP2 Prod.snd S (D_m_fail F a0 S) := by
  unfold D_m_fail
  repeat (with_reducible first | exact ZP2.ret | exact ZP2.ret2 | exact ZP2.none | exact (Z2_m_fail_36 _ _ _ _) | refine ZP2.b2 (Z2_m_fail_36 _ _ _ _) (fun _ => ?_) | refine ZP2.bs zp2_aput (fun _ => ?_) | refine ZP2.bs zp2_bput (fun _ => ?_) | refine ZP2.bs (zp2_fput (by decide)) (fun _ => ?_) | exact zp2_aput | exact zp2_bput | exact zp2_fput (by decide) | refine ZP2.bs (zp2_fpub (by decide)) (fun _ => ?_) | exact zp2_fpub (by decide) | refine ZP2.cond ?_ ?_ | refine ZP2.bp (fun _ => ?_))
theorem Z2_m_back_42 {F : Nat}  : ∀ (n : Nat) (y0 : Int32) (y1 : Int32) (S : mS), ZP2 Prod.snd S (D_m_back_42 F n y0 y1 S) := by
  intro n
  induction n with
  | zero => intro y0 y1 S; exact ZP2.none
  | succ n ih =>
    intro y0 y1 S
    unfold D_m_back_42
    repeat (with_reducible first | exact ZP2.ret | exact ZP2.ret2 | exact ZP2.none | exact (Z2_m_forgive) | refine ZP2.bs (Z2_m_forgive) (fun _ => ?_) | exact (ih _ _ _) | refine ZP2.b2 (ih _ _ _) (fun _ => ?_) | refine ZP2.bs zp2_aput (fun _ => ?_) | refine ZP2.bs zp2_bput (fun _ => ?_) | refine ZP2.bs (zp2_fput (by decide)) (fun _ => ?_) | exact zp2_aput | exact zp2_bput | exact zp2_fput (by decide) | refine ZP2.bs (zp2_fpub (by decide)) (fun _ => ?_) | exact zp2_fpub (by decide) | refine ZP2.cond ?_ ?_ | refine ZP2.bp (fun _ => ?_))
theorem Z2_m_back {F : Nat} {a0 : Int32} {S : mS} : ZP2 Prod.snd S (D_m_back F a0 S) := by
  unfold D_m_back
  repeat (with_reducible first | exact ZP2.ret | exact ZP2.ret2 | exact ZP2.none | exact (Z2_m_back_42 _ _ _ _) | refine ZP2.b2 (Z2_m_back_42 _ _ _ _) (fun _ => ?_) | refine ZP2.bs zp2_aput (fun _ => ?_) | refine ZP2.bs zp2_bput (fun _ => ?_) | refine ZP2.bs (zp2_fput (by decide)) (fun _ => ?_) | exact zp2_aput | exact zp2_bput | exact zp2_fput (by decide) | refine ZP2.bs (zp2_fpub (by decide)) (fun _ => ?_) | exact zp2_fpub (by decide) | refine ZP2.cond ?_ ?_ | refine ZP2.bp (fun _ => ?_))
theorem Z2_m_budget {F : Nat} {a0 : Int32} {a1 : Int32} {S : mS} : ZP2 Prod.snd S (D_m_budget F a0 a1 S) := by
  unfold D_m_budget
  repeat (with_reducible first | exact ZP2.ret | exact ZP2.ret2 | exact ZP2.none | exact (Z2_m_trim) | refine ZP2.bs (Z2_m_trim) (fun _ => ?_) | refine ZP2.bs zp2_aput (fun _ => ?_) | refine ZP2.bs zp2_bput (fun _ => ?_) | refine ZP2.bs (zp2_fput (by decide)) (fun _ => ?_) | exact zp2_aput | exact zp2_bput | exact zp2_fput (by decide) | refine ZP2.bs (zp2_fpub (by decide)) (fun _ => ?_) | exact zp2_fpub (by decide) | refine ZP2.cond ?_ ?_ | refine ZP2.bp (fun _ => ?_))
theorem Z2_m_node_150 {F : Nat}  : ∀ (n : Nat) (y0 : Int32) (y1 : Int32) (y2 : Int32) (y3 : Int32) (y4 : Int32) (y5 : Int32) (y6 : Int32) (S : mS), ZP2 Prod.snd S (D_m_node_150 F n y0 y1 y2 y3 y4 y5 y6 S) := by
  intro n
  induction n with
  | zero => intro y0 y1 y2 y3 y4 y5 y6 S; exact ZP2.none
  | succ n ih =>
    intro y0 y1 y2 y3 y4 y5 y6 S
    unfold D_m_node_150
    repeat (with_reducible first | exact ZP2.ret | exact ZP2.ret2 | exact ZP2.none | exact (ih _ _ _ _ _ _ _ _) | refine ZP2.b2 (ih _ _ _ _ _ _ _ _) (fun _ => ?_) | refine ZP2.bs zp2_aput (fun _ => ?_) | refine ZP2.bs zp2_bput (fun _ => ?_) | refine ZP2.bs (zp2_fput (by decide)) (fun _ => ?_) | exact zp2_aput | exact zp2_bput | exact zp2_fput (by decide) | refine ZP2.bs (zp2_fpub (by decide)) (fun _ => ?_) | exact zp2_fpub (by decide) | refine ZP2.cond ?_ ?_ | refine ZP2.bp (fun _ => ?_))
theorem Z2_m_node_104 {F : Nat}  : ∀ (n : Nat) (y0 : Int32) (y1 : Int32) (y2 : Int32) (y3 : Int32) (y4 : Int32) (y5 : Int32) (S : mS), ZP2 Prod.snd S (D_m_node_104 F n y0 y1 y2 y3 y4 y5 S) := by
  intro n
  induction n with
  | zero => intro y0 y1 y2 y3 y4 y5 S; exact ZP2.none
  | succ n ih =>
    intro y0 y1 y2 y3 y4 y5 S
    unfold D_m_node_104
    repeat (with_reducible first | exact ZP2.ret | exact ZP2.ret2 | exact ZP2.none | exact (Z2_m_node_150 _ _ _ _ _ _ _ _ _) | refine ZP2.b2 (Z2_m_node_150 _ _ _ _ _ _ _ _ _) (fun _ => ?_) | exact (ih _ _ _ _ _ _ _) | refine ZP2.b2 (ih _ _ _ _ _ _ _) (fun _ => ?_) | refine ZP2.bs zp2_aput (fun _ => ?_) | refine ZP2.bs zp2_bput (fun _ => ?_) | refine ZP2.bs (zp2_fput (by decide)) (fun _ => ?_) | exact zp2_aput | exact zp2_bput | exact zp2_fput (by decide) | refine ZP2.bs (zp2_fpub (by decide)) (fun _ => ?_) | exact zp2_fpub (by decide) | refine ZP2.cond ?_ ?_ | refine ZP2.bp (fun _ => ?_))
theorem Z2_m_node_29 {F : Nat}  : ∀ (n : Nat) (y0 : Int32) (y1 : Int32) (y2 : Int32) (y3 : Int32) (y4 : Int32) (y5 : Int32) (S : mS), ZP2 Prod.snd S (D_m_node_29 F n y0 y1 y2 y3 y4 y5 S) := by
  intro n
  induction n with
  | zero => intro y0 y1 y2 y3 y4 y5 S; exact ZP2.none
  | succ n ih =>
    intro y0 y1 y2 y3 y4 y5 S
    unfold D_m_node_29
    repeat (with_reducible first | exact ZP2.ret | exact ZP2.ret2 | exact ZP2.none | exact (Z2_m_node_104 _ _ _ _ _ _ _ _) | refine ZP2.b2 (Z2_m_node_104 _ _ _ _ _ _ _ _) (fun _ => ?_) | exact (ih _ _ _ _ _ _ _) | refine ZP2.b2 (ih _ _ _ _ _ _ _) (fun _ => ?_) | refine ZP2.bs zp2_aput (fun _ => ?_) | refine ZP2.bs zp2_bput (fun _ => ?_) | refine ZP2.bs (zp2_fput (by decide)) (fun _ => ?_) | exact zp2_aput | exact zp2_bput | exact zp2_fput (by decide) | refine ZP2.bs (zp2_fpub (by decide)) (fun _ => ?_) | exact zp2_fpub (by decide) | refine ZP2.cond ?_ ?_ | refine ZP2.bp (fun _ => ?_))
theorem Z2_m_node {F : Nat} {a0 : Int32} {a1 : Int32} {S : mS} : ZP2 Prod.snd S (D_m_node F a0 a1 S) := by
  unfold D_m_node
  repeat (with_reducible first | exact ZP2.ret | exact ZP2.ret2 | exact ZP2.none | exact (Z2_m_node_29 _ _ _ _ _ _ _ _) | refine ZP2.b2 (Z2_m_node_29 _ _ _ _ _ _ _ _) (fun _ => ?_) | refine ZP2.bs zp2_aput (fun _ => ?_) | refine ZP2.bs zp2_bput (fun _ => ?_) | refine ZP2.bs (zp2_fput (by decide)) (fun _ => ?_) | exact zp2_aput | exact zp2_bput | exact zp2_fput (by decide) | refine ZP2.bs (zp2_fpub (by decide)) (fun _ => ?_) | exact zp2_fpub (by decide) | refine ZP2.cond ?_ ?_ | refine ZP2.bp (fun _ => ?_))
theorem Z2_m_entry_116 {F : Nat}  : ∀ (n : Nat) (y0 : Int32) (y1 : Int32) (y2 : Int32) (y3 : Int32) (y4 : Int32) (S : mS), ZP2 Prod.snd S (D_m_entry_116 F n y0 y1 y2 y3 y4 S) := by
  intro n
  induction n with
  | zero => intro y0 y1 y2 y3 y4 S; exact ZP2.none
  | succ n ih =>
    intro y0 y1 y2 y3 y4 S
    unfold D_m_entry_116
    repeat (with_reducible first | exact ZP2.ret | exact ZP2.ret2 | exact ZP2.none | exact (ih _ _ _ _ _ _) | refine ZP2.b2 (ih _ _ _ _ _ _) (fun _ => ?_) | refine ZP2.bs zp2_aput (fun _ => ?_) | refine ZP2.bs zp2_bput (fun _ => ?_) | refine ZP2.bs (zp2_fput (by decide)) (fun _ => ?_) | exact zp2_aput | exact zp2_bput | exact zp2_fput (by decide) | refine ZP2.bs (zp2_fpub (by decide)) (fun _ => ?_) | exact zp2_fpub (by decide) | refine ZP2.cond ?_ ?_ | refine ZP2.bp (fun _ => ?_))
theorem Z2_m_entry_106 {F : Nat} {x1 : Int32} {x5 : Int32} {x6 : Int32} {S : mS} : ZP2 Prod.snd S (D_m_entry_106 F x1 x5 x6 S) := by
  unfold D_m_entry_106
  repeat (with_reducible first | exact ZP2.ret | exact ZP2.ret2 | exact ZP2.none | exact (Z2_m_entry_116 _ _ _ _ _ _ _) | refine ZP2.b2 (Z2_m_entry_116 _ _ _ _ _ _ _) (fun _ => ?_) | refine ZP2.bs zp2_aput (fun _ => ?_) | refine ZP2.bs zp2_bput (fun _ => ?_) | refine ZP2.bs (zp2_fput (by decide)) (fun _ => ?_) | exact zp2_aput | exact zp2_bput | exact zp2_fput (by decide) | refine ZP2.bs (zp2_fpub (by decide)) (fun _ => ?_) | exact zp2_fpub (by decide) | refine ZP2.cond ?_ ?_ | refine ZP2.bp (fun _ => ?_))
theorem Z2_m_entry {F : Nat} {a0 : Int32} {a1 : Int32} {a2 : Int32} {a3 : Int32} {a4 : Int32} {S : mS} : ZP2 Prod.snd S (D_m_entry F a0 a1 a2 a3 a4 S) := by
  unfold D_m_entry
  repeat (with_reducible first | exact ZP2.ret | exact ZP2.ret2 | exact ZP2.none | exact (Z2_m_entry_106) | refine ZP2.b2 (Z2_m_entry_106) (fun _ => ?_) | refine ZP2.bs zp2_aput (fun _ => ?_) | refine ZP2.bs zp2_bput (fun _ => ?_) | refine ZP2.bs (zp2_fput (by decide)) (fun _ => ?_) | exact zp2_aput | exact zp2_bput | exact zp2_fput (by decide) | refine ZP2.bs (zp2_fpub (by decide)) (fun _ => ?_) | exact zp2_fpub (by decide) | refine ZP2.cond ?_ ?_ | refine ZP2.bp (fun _ => ?_))
theorem Z2_m_message {F : Nat} {a0 : Int32} {a1 : Int32} {S : mS} : ZP2 Prod.snd S (D_m_message F a0 a1 S) := by
  unfold D_m_message
  repeat (with_reducible first | exact ZP2.ret | exact ZP2.ret2 | exact ZP2.none | refine ZP2.bs zp2_aput (fun _ => ?_) | refine ZP2.bs zp2_bput (fun _ => ?_) | refine ZP2.bs (zp2_fput (by decide)) (fun _ => ?_) | exact zp2_aput | exact zp2_bput | exact zp2_fput (by decide) | refine ZP2.bs (zp2_fpub (by decide)) (fun _ => ?_) | exact zp2_fpub (by decide) | refine ZP2.cond ?_ ?_ | refine ZP2.bp (fun _ => ?_))
theorem Z2_m_total {F : Nat} {a0 : Int32} {S : mS} : ZP2 Prod.snd S (D_m_total F a0 S) := by
  unfold D_m_total
  repeat (with_reducible first | exact ZP2.ret | exact ZP2.ret2 | exact ZP2.none | refine ZP2.bs zp2_aput (fun _ => ?_) | refine ZP2.bs zp2_bput (fun _ => ?_) | refine ZP2.bs (zp2_fput (by decide)) (fun _ => ?_) | exact zp2_aput | exact zp2_bput | exact zp2_fput (by decide) | refine ZP2.bs (zp2_fpub (by decide)) (fun _ => ?_) | exact zp2_fpub (by decide) | refine ZP2.cond ?_ ?_ | refine ZP2.bp (fun _ => ?_))
