/-! What a call of the class costs: cells and slots beside the rooms of its lists. -/
def Ls : List Nat := [523, 524, 529, 530, 531, 537, 538, 539, 545, 546, 547, 553, 554, 555, 561, 562, 563, 569, 570, 571, 577, 578, 579]
def capC (c : Option tC) : Nat := match c with
  | some (.inr (.inr q)) => q.1
  | _ => 0
def lsC (c : tC) : Bool := match c with
  | .inr (.inr _) => true
  | _ => false
def capS (T : tT) : Nat := (Ls.map (fun b => capC (T.1 b))).sum
def okL (T : tT) : Prop := okN T ∧ ∀ b n xs, T.1 b = some (.inr (.inr (n, xs))) → b ∈ Ls ∧ (n = 0 ∨ 10 ≤ n) ∧ n ≤ 549
def Cs (T T' : tT) (c s : Nat) : Prop := okL T → okL T' ∧ T'.2.1 + capS T ≤ T.2.1 + c + capS T' ∧ T'.2.2 + 4 * capS T ≤ T.2.2 + s + 4 * capS T'
theorem Cs.refl {T : tT} {c s : Nat} : Cs T T c s := fun h => ⟨h, by omega, by omega⟩
theorem Cs.trans {T T1 T2 : tT} {c s c' s' : Nat} (h : Cs T T1 c s) (h2 : Cs T1 T2 c' s') : Cs T T2 (c + c') (s + s') := by
  intro h0
  obtain ⟨a, b, d⟩ := h h0
  obtain ⟨a2, b2, d2⟩ := h2 a
  exact ⟨a2, by omega, by omega⟩
theorem Cs.mono {T T1 : tT} {c s c' s' : Nat} (h : Cs T T1 c s) (h1 : c ≤ c') (h2 : s ≤ s') : Cs T T1 c' s' := by
  intro h0
  obtain ⟨a, b, d⟩ := h h0
  exact ⟨a, by omega, by omega⟩
theorem sum_at {L : List Nat} {f g : Nat → Nat} {a : Nat} (hn : L.Nodup) (ha : a ∈ L) (h : ∀ b, ¬ b = a → g b = f b) : (L.map g).sum + f a = (L.map f).sum + g a := by
  induction L with
  | nil => cases ha
  | cons b L ih =>
    obtain ⟨h1, h2⟩ := List.nodup_cons.mp hn
    simp only [List.map_cons, List.sum_cons]
    by_cases e : a = b
    · subst e
      have : L.map g = L.map f := List.map_congr_left (fun x hx => h x (fun z => h1 (z ▸ hx)))
      rw [this]
      omega
    · have := ih h2 ((List.mem_cons.mp ha).resolve_left e)
      rw [h b (fun z => e z.symm)]
      omega
theorem sum_same {L : List Nat} {f g : Nat → Nat} (h : ∀ b ∈ L, g b = f b) : (L.map g).sum = (L.map f).sum := by
  rw [List.map_congr_left h]
/-- a cell that is no list is put for one that is none -/
theorem Cs.cell {T : tT} {a : Nat} {c d : tC} (h : T.1 a = some c) (hc : lsC c = false) (hd : lsC d = false) : Cs T (tset T a d) 0 0 := by
  intro h0
  have e : capS (tset T a d) = capS T := by
    refine sum_same (fun b _ => ?_)
    rw [tset_1]
    by_cases z : b = a
    · rw [if_pos z, z, h]
      obtain c | c | c := c <;> obtain d | d | d := d <;> first | rfl | exact Bool.noConfusion hc | exact Bool.noConfusion hd
    · rw [if_neg z]
  refine ⟨⟨fun b x hb => ?_, fun b n xs hb => ?_⟩, by rw [e, tset_2]; omega, by rw [e, tset_2]; omega⟩
  · rw [tset_1] at hb
    rw [tset_2]
    by_cases z : b = a
    · rw [z]; exact h0.1 _ _ h
    · rw [if_neg z] at hb; exact h0.1 _ _ hb
  · rw [tset_1] at hb
    by_cases z : b = a
    · rw [if_pos z] at hb
      cases hb
      cases hd
    · rw [if_neg z] at hb; exact h0.2 _ _ _ hb
theorem Ls_nodup : Ls.Nodup := by decide
/-- a list is put for a list -/
theorem Cs.list {T T' : tT} {a n n' c s : Nat} {xs xs' : List Nat} (h : T.1 a = some (.inr (.inr (n, xs)))) (hT : ∀ b, T'.1 b = if b = a then some (.inr (.inr (n', xs'))) else T.1 b) (hn : n' = 0 ∨ 10 ≤ n') (h5 : n' ≤ 549) (hle : T.2.1 ≤ T'.2.1) (h1 : (n = 0 ∨ 10 ≤ n) → T'.2.1 + n ≤ T.2.1 + c + n') (h2 : (n = 0 ∨ 10 ≤ n) → T'.2.2 + 4 * n ≤ T.2.2 + s + 4 * n') : Cs T T' c s := by
  intro h0
  obtain ⟨m1, m2, m3⟩ := h0.2 _ _ _ h
  have e := sum_at (f := fun b => capC (T.1 b)) (g := fun b => capC (T'.1 b)) Ls_nodup m1 (fun b z => by show capC (T'.1 b) = capC (T.1 b); rw [hT, if_neg z])
  have ea : capC (T.1 a) = n := by rw [h]; rfl
  have eb : capC (T'.1 a) = n' := by rw [hT, if_pos rfl]; rfl
  have e9 : capS T' + n = capS T + n' := by
    show (Ls.map (fun b => capC (T'.1 b))).sum + n = (Ls.map (fun b => capC (T.1 b))).sum + n'
    rw [← ea, ← eb]
    exact e
  have h1 := h1 m2
  have h2 := h2 m2
  refine ⟨⟨fun b x hb => ?_, fun b k ys hb => ?_⟩, by omega, by omega⟩
  · rw [hT] at hb
    refine Nat.lt_of_lt_of_le ?_ hle
    by_cases z : b = a
    · rw [z]; exact h0.1 _ _ h
    · rw [if_neg z] at hb; exact h0.1 _ _ hb
  · rw [hT] at hb
    by_cases z : b = a
    · rw [if_pos z] at hb
      cases hb
      rw [z]
      exact ⟨m1, hn, h5⟩
    · rw [if_neg z] at hb; exact h0.2 _ _ _ hb
theorem Cs.new {T : tT} {c : tC} {k : Nat} (hc : lsC c = false) : Cs T (tadd T c k) 1 k := by
  intro h0
  have nn : T.1 T.2.1 = none := by
    cases e : T.1 T.2.1 with
    | none => rfl
    | some x => exact absurd (h0.1 _ _ e) (Nat.lt_irrefl _)
  have e : capS (tadd T c k) = capS T := by
    refine sum_same (fun b _ => ?_)
    rw [tadd_1]
    by_cases z : b = T.2.1
    · rw [if_pos z, z, nn]
      obtain c | c | c := c <;> first | rfl | exact Bool.noConfusion hc
    · rw [if_neg z]
  refine ⟨⟨fun b x hb => ?_, fun b n xs hb => ?_⟩, by rw [e, tadd_2]; exact Nat.le_refl _, by rw [e, tadd_2]; exact Nat.le_refl _⟩
  · rw [tadd_1] at hb
    rw [tadd_2]
    by_cases z : b = T.2.1
    · rw [z]; exact Nat.lt_succ_self _
    · rw [if_neg z] at hb; exact Nat.lt_succ_of_lt (h0.1 _ _ hb)
  · rw [tadd_1] at hb
    by_cases z : b = T.2.1
    · rw [if_pos z] at hb
      cases hb
      cases hc
    · rw [if_neg z] at hb; exact h0.2 _ _ _ hb
/-- what a guarded function may cost -/
def CsP {α : Type} (π : α → tT) (T : tT) (c s : Nat) (o : Option α) : Prop := ∀ r, o = some r → Cs T (π r) c s
def idT (T : tT) : tT := T
section
variable {α β : Type} {π : α → tT} {ρ : β → tT} {T : tT} {c s c' s' a b ci k t : Nat} {x i : Int32} {y : Option Nat} {v : Value}
theorem CsP.none : CsP π T c s (none : Option α) := fun _ h => by cases h
theorem CsP.mono {o : Option α} (h : CsP π T c s o) (h1 : c ≤ c') (h2 : s ≤ s') : CsP π T c' s' o := fun r e => (h r e).mono h1 h2
theorem CsP.ret : CsP idT T c s (some T) := fun r e => by cases e; exact Cs.refl
theorem CsP.ret2 {z : α} : CsP Prod.snd T c s (some (z, T)) := fun r e => by cases e; exact Cs.refl
theorem CsP.bp {o : Option β} {f : β → Option α} (h : ∀ z, CsP π T c s (f z)) : CsP π T c s (o.bind f) := fun r e => by
  obtain ⟨z, _, e2⟩ := bS e
  exact h z r e2
theorem CsP.b0 {o : Option tT} {f : tT → Option α} (h0 : CsP idT T 0 0 o) (h : ∀ T1, CsP π T1 c s (f T1)) : CsP π T c s (o.bind f) := fun r e => by
  obtain ⟨z, e1, e2⟩ := bS e
  exact ((h0 z e1).trans (h z r e2)).mono (by omega) (by omega)
theorem CsP.bc {o : Option tT} {f : tT → Option α} (h0 : CsP idT T c s o) (h : ∀ T1, CsP π T1 c' s' (f T1)) : CsP π T (c + c') (s + s') (o.bind f) := fun r e => by
  obtain ⟨z, e1, e2⟩ := bS e
  exact (h0 z e1).trans (h z r e2)
theorem CsP.d0 {o : Option (β × tT)} {f : β → tT → Option α} (h0 : CsP Prod.snd T 0 0 o) (h : ∀ z T1, CsP π T1 c s (f z T1)) : CsP π T c s (bd2 o f) := fun r e => by
  obtain ⟨z, e1, e2⟩ := bS e
  exact ((h0 z e1).trans (h z.1 z.2 r e2)).mono (by omega) (by omega)
theorem CsP.dc {o : Option (β × tT)} {f : β → tT → Option α} (h0 : CsP Prod.snd T c s o) (h : ∀ z T1, CsP π T1 c' s' (f z T1)) : CsP π T (c + c') (s + s') (bd2 o f) := fun r e => by
  obtain ⟨z, e1, e2⟩ := bS e
  exact (h0 z e1).trans (h z.1 z.2 r e2)
theorem CsP.cond {q : Bool} {o p : Option α} (h1 : CsP π T c s o) (h2 : CsP π T c s p) : CsP π T c s (cond q o p) := by
  cases q
  · exact h2
  · exact h1
theorem CsP.nc {o : Option α} {f : Nat → Option α} (h1 : CsP π T c s o) (h2 : ∀ a, CsP π T c s (f a)) : CsP π T c s (nc y o f) := by
  cases y
  · exact h1
  · exact h2 _
theorem K_tp : CsP idT T 0 0 (tp T a ci k v) := by
  intro r e
  unfold tp at e
  split at e
  · split at e
    · cases e
      rename_i h _
      exact Cs.cell h rfl rfl
    · cases e
  · cases e
theorem K_tpi : CsP idT T 0 0 (tpi T a ci k x) := K_tp
theorem K_tpr : CsP idT T 0 0 (tpr T a ci k y) := K_tp
theorem K_tpz : CsP idT T 0 0 (tpz T a ci k x) := by
  unfold tpz
  split
  · exact K_tp
  · exact CsP.none
theorem K_tas : CsP idT T 0 0 (tas T a t i v) := by
  intro r e
  unfold tas at e
  split at e
  · split at e
    · cases e
      rename_i h _
      exact Cs.cell h rfl rfl
    · cases e
  · cases e
theorem K_tasi : CsP idT T 0 0 (tasi T a i x) := K_tas
theorem K_tasc : CsP idT T 0 0 (tasc T a i x) := K_tas
theorem K_tasz : CsP idT T 0 0 (tasz T a i x) := by
  unfold tasz
  split
  · exact K_tas
  · exact CsP.none
theorem K_tasr : CsP idT T 0 0 (tasr T a t i y) := by
  unfold tasr
  split
  · exact K_tas
  · split
    · split
      · exact K_tas
      · exact CsP.none
    · exact CsP.none
theorem tl_s {q : Nat × List Nat} (h : tl T a = some q) : T.1 a = some (.inr (.inr q)) := by
  unfold tl at h
  split at h
  · cases h
    assumption
  · cases h
theorem K_tlr : CsP Prod.snd T 0 0 (tlr T a i) := by
  intro r e
  obtain ⟨q, e1, e2⟩ := bS e
  have h := tl_s e1
  split at e2
  · cases e2
  · cases g : q.2[i.toNatClampNeg]? with
    | none => rw [g] at e2; cases e2
    | some b =>
      rw [g] at e2
      cases e2
      intro h0
      exact Cs.list (T := T) (n := q.1) (xs := q.2) h (fun _ => rfl) (h0.2 _ _ _ h).2.1 (h0.2 _ _ _ h).2.2 (Nat.le_refl _) (fun _ => Nat.le_refl _) (fun _ => Nat.le_refl _) h0
theorem K_tlc : CsP idT T 0 0 (tlc T a) := by
  intro r e
  unfold tlc at e
  cases g : tl T a with
  | none => rw [g] at e; cases e
  | some q =>
    have h := tl_s g
    rw [g] at e
    cases e
    intro h0
    exact Cs.list (T := T) (n := q.1) (xs := q.2) h (fun _ => rfl) (h0.2 _ _ _ h).2.1 (h0.2 _ _ _ h).2.2 (Nat.le_refl _) (fun _ => Nat.le_refl _) (fun _ => Nat.le_refl _) h0
theorem K_tla : CsP idT T 0 0 (tla T a b) := by
  intro r e
  obtain ⟨q, e1, e2⟩ := bS e
  have h := tl_s e1
  split at e2
  · split at e2
    · rename_i hq
      cases e2
      intro h0
      obtain ⟨_, m2, m3⟩ := h0.2 _ _ _ h
      refine Cs.list (T := T) (n := q.1) (xs := q.2) (n' := l_cap q.1 q.2.length) h (fun _ => rfl) ?_ ?_ (Nat.le_add_right _ _) (fun _ => ?_) (fun _ => ?_) h0
      · unfold l_cap
        split
        · exact m2
        · split <;> omega
      · unfold l_cap
        split
        · exact m3
        · split
          · omega
          · have := hq.1
            omega
      · show T.2.1 + _ + q.1 ≤ T.2.1 + 0 + l_cap q.1 q.2.length
        unfold l_cap
        by_cases z : q.2.length < q.1
        · rw [if_pos z, if_pos z]; omega
        · rw [if_neg z, if_neg z]
          split <;> omega
      · show T.2.2 + _ + 4 * q.1 ≤ T.2.2 + 0 + 4 * l_cap q.1 q.2.length
        unfold l_cap
        by_cases z : q.2.length < q.1
        · rw [if_pos z, if_pos z]; omega
        · rw [if_neg z, if_neg z]
          split <;> omega
    · cases e2
  · cases e2
theorem K_tnw {k : Nat} (hk : (m_fd[ci]?).map List.length = some k) : CsP Prod.snd T 1 k (tnw T ci) := by
  intro r e
  unfold tnw at e
  cases g : m_fd[ci]? with
  | none => rw [g] at e; cases e
  | some fs =>
    rw [g] at e hk
    cases e
    cases hk
    exact Cs.new rfl
theorem K_tna {n : Nat} (hx : x.toNatClampNeg ≤ n) : CsP Prod.snd T 1 n (tna T t x) := by
  intro r e
  unfold tna at e
  split at e
  · cases e
  · cases e
    exact (Cs.new rfl).mono (Nat.le_refl _) hx
end
