/-! Texts and bytes stay. -/
def tk (c : tC) : Bool := match c with
  | .inl (k, _) => decide (k = 3 ∨ k = 12)
  | .inr (.inl (t, _, _)) => decide (t = 3 ∨ t = 1)
  | _ => false
def Ktx (T T' : tT) : Prop := okN T → okN T' ∧ T.2.1 ≤ T'.2.1 ∧ ∀ c x, tk x = true → (T'.1 c = some x ↔ T.1 c = some x)
def KtP {α : Type} (π : α → tT) (T : tT) (o : Option α) : Prop := ∀ r, o = some r → Ktx T (π r)
section
variable {α β : Type} {π : α → tT} {T T1 T2 T' : tT} {a b ci k t m : Nat} {x i : Int32} {y : Option Nat} {v : Value}
theorem Ktx.refl : Ktx T T := fun h => ⟨h, Nat.le_refl _, fun _ _ _ => Iff.rfl⟩
theorem Ktx.trans (h : Ktx T T1) (h2 : Ktx T1 T2) : Ktx T T2 := fun h0 => by
  obtain ⟨a1, a2, a3⟩ := h h0
  obtain ⟨b1, b2, b3⟩ := h2 a1
  exact ⟨b1, Nat.le_trans a2 b2, fun c x hx => (b3 c x hx).trans (a3 c x hx)⟩
theorem Ktx.at {c d : tC} (h : T.1 a = some c) (hc : tk c = false) (hd : tk d = false) (hT : ∀ b, T'.1 b = if b = a then some d else T.1 b) (hn : T.2.1 ≤ T'.2.1) : Ktx T T' := fun h0 => by
  refine ⟨fun b x hb => ?_, hn, fun b x hx => ?_⟩
  · rw [hT] at hb
    by_cases w : b = a
    · rw [w]
      exact Nat.lt_of_lt_of_le (h0 a c h) hn
    · rw [if_neg w] at hb
      exact Nat.lt_of_lt_of_le (h0 b x hb) hn
  · rw [hT]
    by_cases w : b = a
    · rw [if_pos w, w, h]
      constructor
      · intro q
        cases q
        rw [hd] at hx
        cases hx
      · intro q
        cases q
        rw [hc] at hx
        cases hx
    · rw [if_neg w]
theorem Ktx.new {c : tC} (hc : tk c = false) : Ktx T (tadd T c k) := fun h0 => by
  refine ⟨fun b x hb => ?_, Nat.le_succ _, fun b x hx => ?_⟩
  · show b < T.2.1 + 1
    rw [tadd_1] at hb
    by_cases w : b = T.2.1
    · omega
    · rw [if_neg w] at hb
      have := h0 b x hb
      omega
  · rw [tadd_1]
    by_cases w : b = T.2.1
    · rw [if_pos w]
      constructor
      · intro q
        cases q
        rw [hc] at hx
        cases hx
      · intro q
        have := h0 b x q
        omega
    · rw [if_neg w]
theorem KtP.none : KtP π T (none : Option α) := fun _ h => by cases h
theorem KtP.ret : KtP idT T (some T) := fun r e => by cases e; exact Ktx.refl
theorem KtP.ret2 {z : α} : KtP Prod.snd T (some (z, T)) := fun r e => by cases e; exact Ktx.refl
theorem KtP.bp {o : Option β} {f : β → Option α} (h : ∀ z, KtP π T (f z)) : KtP π T (o.bind f) := fun r e => by
  obtain ⟨z, _, e2⟩ := bS e
  exact h z r e2
theorem KtP.b0 {o : Option tT} {f : tT → Option α} (h0 : KtP idT T o) (h : ∀ T1, KtP π T1 (f T1)) : KtP π T (o.bind f) := fun r e => by
  obtain ⟨z, e1, e2⟩ := bS e
  exact (h0 z e1).trans (h z r e2)
theorem KtP.d0 {o : Option (β × tT)} {f : β → tT → Option α} (h0 : KtP Prod.snd T o) (h : ∀ z T1, KtP π T1 (f z T1)) : KtP π T (bd2 o f) := fun r e => by
  obtain ⟨z, e1, e2⟩ := bS e
  exact (h0 z e1).trans (h z.1 z.2 r e2)
theorem KtP.cond {q : Bool} {o p : Option α} (h1 : KtP π T o) (h2 : KtP π T p) : KtP π T (cond q o p) := by
  cases q
  · exact h2
  · exact h1
theorem KtP.nc {o : Option α} {f : Nat → Option α} (h1 : KtP π T o) (h2 : ∀ a, KtP π T (f a)) : KtP π T (nc y o f) := by
  cases y
  · exact h1
  · exact h2 _
theorem tk_c {fs : List Value} (h : ¬ (ci = 3 ∨ ci = 12)) : tk (.inl (ci, fs)) = false := decide_eq_false h
theorem tk_a {n : Nat} {f : Nat → Value} (h : ¬ (t = 3 ∨ t = 1)) : tk (.inr (.inl (t, n, f))) = false := decide_eq_false h
theorem L_tp (hc : ¬ (ci = 3 ∨ ci = 12)) : KtP idT T (tp T a ci k v) := by
  intro r e
  unfold tp at e
  split at e
  · rename_i cj fs h
    split at e
    · rename_i w
      have e2 := Option.some.inj e
      subst e2
      have cj2 : cj = ci := by first | exact w.1 | exact w.1.symm
      subst cj2
      exact Ktx.at h (tk_c hc) (tk_c hc) (fun _ => rfl) (Nat.le_refl _)
    · cases e
  · cases e
theorem L_tpi (hc : ¬ (ci = 3 ∨ ci = 12)) : KtP idT T (tpi T a ci k x) := L_tp hc
theorem L_tpr (hc : ¬ (ci = 3 ∨ ci = 12)) : KtP idT T (tpr T a ci k y) := L_tp hc
theorem L_tpz (hc : ¬ (ci = 3 ∨ ci = 12)) : KtP idT T (tpz T a ci k x) := by
  unfold tpz
  split
  · exact L_tp hc
  · exact KtP.none
theorem L_tas (hc : ¬ (t = 3 ∨ t = 1)) : KtP idT T (tas T a t i v) := by
  intro r e
  unfold tas at e
  split at e
  · rename_i tj n f h
    split at e
    · rename_i w
      have e2 := Option.some.inj e
      subst e2
      have cj2 : tj = t := by first | exact w.1 | exact w.1.symm
      subst cj2
      exact Ktx.at h (tk_a hc) (tk_a hc) (fun _ => rfl) (Nat.le_refl _)
    · cases e
  · cases e
theorem L_tasi : KtP idT T (tasi T a i x) := L_tas (by decide)
theorem L_tasc : KtP idT T (tasc T a i x) := L_tas (by decide)
theorem L_tasz : KtP idT T (tasz T a i x) := by
  unfold tasz
  split
  · exact L_tas (by decide)
  · exact KtP.none
theorem L_tasr (hc : ¬ (t = 3 ∨ t = 1)) : KtP idT T (tasr T a t i y) := by
  unfold tasr
  split
  · exact L_tas hc
  · split
    · split
      · exact L_tas hc
      · exact KtP.none
    · exact KtP.none
theorem L_tlr : KtP Prod.snd T (tlr T a i) := by
  intro r e
  obtain ⟨q, e1, e2⟩ := bS e
  have h := tl_s e1
  split at e2
  · cases e2
  · cases g : q.2[i.toNatClampNeg]? with
    | none => rw [g] at e2; cases e2
    | some b =>
      rw [g] at e2
      cases e2
      exact Ktx.at h rfl rfl (fun _ => rfl) (Nat.le_refl _)
theorem L_tlc : KtP idT T (tlc T a) := by
  intro r e
  unfold tlc at e
  cases g : tl T a with
  | none => rw [g] at e; cases e
  | some q =>
    have h := tl_s g
    rw [g] at e
    cases e
    exact Ktx.at h rfl rfl (fun _ => rfl) (Nat.le_refl _)
theorem L_tla : KtP idT T (tla T a b) := by
  intro r e
  obtain ⟨q, e1, e2⟩ := bS e
  have h := tl_s e1
  split at e2
  · split at e2
    · cases e2
      exact Ktx.at h rfl rfl (fun _ => rfl) (Nat.le_add_right _ _)
    · cases e2
  · cases e2
theorem L_tnw (hc : ¬ (ci = 3 ∨ ci = 12)) : KtP Prod.snd T (tnw T ci) := by
  intro r e
  unfold tnw at e
  cases g : m_fd[ci]? with
  | none => rw [g] at e; cases e
  | some fs =>
    rw [g] at e
    cases e
    exact Ktx.new (tk_c hc)
theorem L_tna (hc : ¬ (t = 3 ∨ t = 1)) : KtP Prod.snd T (tna T t x) := by
  intro r e
  unfold tna at e
  split at e
  · cases e
  · cases e
    exact Ktx.new (tk_a hc)
theorem PI.kt (h : PI T m) (hk : Ktx T T') (hN : okN T) : PI T' m := by
  obtain ⟨b, f, ml, n, ⟨p1', p2', p3'⟩, h1, h2, h3⟩ := h
  obtain ⟨k1', k2', k3'⟩ := hk hN
  refine ⟨b, f, ml, n, ⟨(k3' _ _ rfl).mpr p1', (k3' _ _ rfl).mpr p2', p3'⟩, h1, h2, fun q b' l hq => ?_⟩
  obtain ⟨z1, z2⟩ := h3 q b' l ((k3' _ _ rfl).mp hq)
  exact ⟨z1, Nat.lt_of_lt_of_le z2 k2'⟩
end
