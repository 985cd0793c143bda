/-! The tape is empty behind a text that was read. -/
def EZ (o : Option (Int32 × mS)) : Prop := ∀ r, o = some r → r.2.1 2 = 0
section
variable {β : Type} {S : mS} {F : Nat} {a : Int32}
theorem EZ.none : EZ (none : Option (Int32 × mS)) := fun _ h => by cases h
theorem EZ.bp {o : Option β} {f : β → Option (Int32 × mS)} (h : ∀ z, EZ (f z)) : EZ (o.bind f) := fun r e => by
  obtain ⟨z, z1, z2⟩ := Option.bind_eq_some_iff.mp e
  exact h z r z2
theorem EZ.cond {q : Bool} {o p : Option (Int32 × mS)} (h1 : EZ o) (h2 : EZ p) : EZ (cond q o p) := by
  cases q
  · exact h2
  · exact h1
theorem E_235 : EZ (D_m_readText_235 F S) := fun r e => by
  unfold D_m_readText_235 at e
  obtain ⟨S92, e1, e⟩ := bS e
  obtain ⟨v97, _, e⟩ := bS e
  obtain ⟨S98, e2, e⟩ := bS e
  obtain ⟨v103, _, e⟩ := bS e
  obtain ⟨v104, _, e⟩ := bS e
  cases e
  have q := zp2_fput (k := 3) (by decide) _ e2
  cases e1
  exact q.trans (by rw [up1_1, if_pos rfl])
theorem E_201 : EZ (D_m_readText_201 F S) := by
  unfold D_m_readText_201
  repeat (with_reducible first | exact E_235 | refine EZ.cond ?_ ?_ | refine EZ.bp (fun _ => ?_))
theorem E_177 : ∀ (n : Nat) (x : Int32) (S : mS), EZ (D_m_readText_177 F n x S) := by
  intro n
  induction n with
  | zero => intro x S; exact EZ.none
  | succ n ih =>
    intro x S
    unfold D_m_readText_177
    repeat (with_reducible first | exact E_201 | exact ih _ _ | refine EZ.cond ?_ ?_ | refine EZ.bp (fun _ => ?_))
theorem E_172 {x : Int32} : EZ (D_m_readText_172 F x S) := by
  unfold D_m_readText_172
  repeat (with_reducible first | exact E_177 _ _ _ | refine EZ.cond ?_ ?_ | refine EZ.bp (fun _ => ?_))
theorem E_168 {x : Int32} {k : Nat} : EZ (D_m_readText_168 F x k S) := by
  unfold D_m_readText_168
  repeat (with_reducible first | exact E_172 | refine EZ.cond ?_ ?_ | refine EZ.bp (fun _ => ?_))
theorem E_154 {x : Int32} : EZ (D_m_readText_154 F x S) := by
  unfold D_m_readText_154
  repeat (with_reducible first | exact E_168 | refine EZ.cond ?_ ?_ | refine EZ.bp (fun _ => ?_))
theorem E_107 : ∀ (n : Nat) (x y : Int32) (S : mS), EZ (D_m_readText_107 F n x y S) := by
  intro n
  induction n with
  | zero => intro x y S; exact EZ.none
  | succ n ih =>
    intro x y S
    unfold D_m_readText_107
    repeat (with_reducible first | exact E_154 | exact E_172 | exact ih _ _ _ | refine EZ.cond ?_ ?_ | refine EZ.bp (fun _ => ?_))
theorem E_read : EZ (D_m_readText F a S) := by
  unfold D_m_readText
  repeat (with_reducible first | exact E_107 _ _ _ _ | refine EZ.bp (fun _ => ?_))
theorem E_update : EZ (D_m_update F S) := fun r e => by
  unfold D_m_update at e
  obtain ⟨q1, e1, e⟩ := bS e
  have h1 := E_read q1 e1
  have h2 : ZP2 Prod.snd q1.2 (cond (m_c1 .ne q1.1) ((fput q1.2 0 (0 : Int32)).bind fun S4 => (aget 0 32 S4 590 (S4.1 7)).bind fun v6 => (aput 32 S4 590 (S4.1 7) (v6 + (1 : Int32))).bind fun S8 => (aget 0 32 S8 590 (S8.1 7)).bind fun v10 => (aput 288 S8 589 ((9 : Int32) * (S4.1 7)) v10).bind fun S12 => (aput 288 S12 589 (((9 : Int32) * (S4.1 7)) + (1 : Int32)) (S12.1 23)).bind fun S14 => (aput 288 S14 589 (((9 : Int32) * (S4.1 7)) + (2 : Int32)) (S14.1 25)).bind fun S16 => (aput 288 S16 589 (((9 : Int32) * (S4.1 7)) + (3 : Int32)) (S16.1 26)).bind fun S18 => (aput 288 S18 589 (((9 : Int32) * (S4.1 7)) + (4 : Int32)) (S18.1 27)).bind fun S20 => (cond (m_c1 .eq (S20.1 29)) (some (0 : Int32)) (some (1 : Int32))).bind fun v25 => (aput 288 S20 589 (((9 : Int32) * (S4.1 7)) + (5 : Int32)) v25).bind fun S26 => (cond (m_c1 .eq (S26.1 30)) (some (0 : Int32)) (some (1 : Int32))).bind fun v31 => (aput 288 S26 589 (((9 : Int32) * (S4.1 7)) + (6 : Int32)) v31).bind fun S32 => (aput 288 S32 589 (((9 : Int32) * (S4.1 7)) + (7 : Int32)) (S32.1 24)).bind fun S34 => (aput 288 S34 589 (((9 : Int32) * (S4.1 7)) + (8 : Int32)) (S34.1 28)).bind fun S36 => (aget 0 32 S36 590 (S36.1 7)).bind fun v38 => some (v38, S36)) ((fput q1.2 0 (1 : Int32)).bind fun S40 => some ((0 : Int32), S40))) := by
    repeat (with_reducible first | exact ZP2.ret2 | refine ZP2.bs zp2_aput (fun _ => ?_) | refine ZP2.bs (zp2_fput (by decide)) (fun _ => ?_) | refine ZP2.cond ?_ ?_ | refine ZP2.bp (fun _ => ?_))
  exact (h2 r e).trans h1
theorem Z2_askB {r : Nat} : ZP2 Prod.snd S (askB F r S) := by
  unfold askB
  repeat (with_reducible first | exact (Z2_m_ask_178 _ _ _ _ _) | exact ZP2.ret2 | refine ZP2.bs zp2_aput (fun _ => ?_) | refine ZP2.bs (zp2_fput (by decide)) (fun _ => ?_) | refine ZP2.cond ?_ ?_ | refine ZP2.bp (fun _ => ?_))
theorem E_ask {r : Nat} (h70 : S.1 70 = Int32.ofNat r) (hr : r < 300) : EZ (D_m_ask F S) := fun x e => by
  rw [m_ask0 h70 hr] at e
  obtain ⟨q8, e1, e⟩ := bS e
  have h1 := E_read q8 e1
  cases hc : m_c1 .ne q8.1 with
  | true =>
    rw [hc, cond_true] at e
    exact (Z2_askB x e).trans h1
  | false =>
    rw [hc, cond_false] at e
    obtain ⟨S35, e2, e⟩ := bS e
    cases e
    exact (Z2_m_close S35 e2).trans h1
end
