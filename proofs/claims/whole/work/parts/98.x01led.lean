/-! The ledger: weights. -/
/-- costs: the origin's answer, an entry taken in, a message, a fetch made -/
abbrev Ko : Type := Nat × Nat × Nat × Nat
def w66 (κ : Ko) : Nat := κ.2.2.1 + κ.1
def w155 (κ : Ko) : Nat := κ.2.2.2 + κ.1 + κ.2.1 + w66 κ
def w348 (κ : Ko) : Nat := 2 * κ.2.2.1 + 2 * w155 κ
def w367 (κ : Ko) : Nat := κ.2.2.1 + w348 κ
def w757 (κ : Ko) : Nat := κ.2.2.2 + w348 κ + κ.2.1 + w367 κ
/-- a message -/
def wM (κ : Ko) (m : Nat → Int32) : Nat := if m 0 = 0 then (if m 2 = 0 then κ.1 else w348 κ) else if m 0 = 2 then (if m 2 = 1 ∨ m 2 = 2 then κ.2.2.1 + 128 * w66 κ else κ.2.2.1) else 0
def sM (κ : Ko) (M : List (Nat → Int32)) : Nat := (M.map (wM κ)).sum
/-- a row: what it costs to answer it, to make a fetch for it -/
def wBs (κ : Ko) (z : Rq) : Nat := match z.2.2.1 with
  | some _ => 0
  | none => κ.2.2.1
def wMk (κ : Ko) (z : Rq) : Nat := match z.2.2.1 with
  | some _ => w757 κ
  | none => w155 κ
def wFu (κ : Ko) (z : Rq) : Nat := wBs κ z + wMk κ z
def sFu (κ : Ko) (R : List Rq) : Nat := (R.map (wFu κ)).sum
noncomputable def cif (p : Prop) (a b : Nat) : Nat := @ite Nat p (Classical.propDecidable p) a b
theorem cif_pos {p : Prop} {a b : Nat} (h : p) : cif p a b = a := if_pos h
theorem cif_neg {p : Prop} {a b : Nat} (h : ¬ p) : cif p a b = b := if_neg h
theorem cif_le {p : Prop} {a b : Nat} (h : a ≤ b) : cif p a b ≤ b := by
  by_cases w : p
  · rw [cif_pos w]; exact h
  · rw [cif_neg w]; exact Nat.le_refl _
/-- a fetch that is out asks for what the row needs -/
def ownZ (mo : Nat → Nat → Nat) (Z : Nat → List Fz) (z : Rq) : Prop := ¬ z.2.2.2.1 12 = 0 ∧ ∃ y ∈ Z (z.2.1 / 128), y.2.1 = z.2.1 ∧ (z.2.2.2.1 11).toNatClampNeg ≤ mo (z.2.1 / 128) (nmb y) ∧ y.2.2 2 = z.2.2.2.1 2 ∧ y.2.2 3 = z.2.2.2.1 3 ∧ y.2.2 5 = z.2.2.2.1 4 ∧ y.2.2 6 = z.2.2.2.1 5
noncomputable def qw (κ : Ko) (mo : Nat → Nat → Nat) (Z : Nat → List Fz) : List Nat → List Rq → Nat
  | _, [] => 0
  | seen, z :: Q => (cif (z.2.1 ∉ seen ∧ ownZ mo Z z) (wBs κ z) (wFu κ z)) + qw κ mo Z (z.2.1 :: seen) Q
def seenN (N : Nat → Nat → Int32) (n : Nat) : Nat := (N 0 n).toNatClampNeg
def lst (y : Fz) : Nat := (y.2.2 9).toNatClampNeg
/-- a fetch that is out -/
def wZ (κ : Ko) (hc : Nat → Nat → Bool) (N : Nat → Nat → Int32) (n : Nat) (y : Fz) : Nat := κ.2.1 + (if 3 ≤ n then (if hc n (nmb y) then w367 κ else 0) + w367 κ * (60 - lst y) else (if hc n (nmb y) then w66 κ else 0) + (if lst y < seenN N n then w66 κ else 0))
def sZn (κ : Ko) (hc : Nat → Nat → Bool) (N : Nat → Nat → Int32) (Z : Nat → List Fz) (n : Nat) : Nat := ((Z n).map (wZ κ hc N n)).sum
def sZ (κ : Ko) (hc : Nat → Nat → Bool) (N : Nat → Nat → Int32) (Z : Nat → List Fz) : Nat := sZn κ hc N Z 1 + sZn κ hc N Z 2 + sZn κ hc N Z 3 + sZn κ hc N Z 4 + sZn κ hc N Z 5 + sZn κ hc N Z 6
noncomputable def purse (κ : Ko) (Z : Nat → List Fz) (N : Nat → Nat → Int32) (f : Nat) : Nat := cif (3 ≤ f / 128 ∧ ∀ y ∈ Z (f / 128), ¬ y.2.1 = f) (w367 κ * (60 - seenN N (f / 128))) 0
/-- the rows that are looked at -/
noncomputable def rw0 (κ : Ko) (Z : Nat → List Fz) (N : Nat → Nat → Int32) : List Rq → Nat
  | [] => 0
  | z :: Pd => wFu κ z + (if 1024 ≤ z.2.1 ∧ z.2.2.2.1 12 = 0 then wMk κ z else 0) + sFu κ Pd + purse κ Z N (z.2.1 % 1024)
noncomputable def Pot (κ : Ko) (mo : Nat → Nat → Nat) (hc : Nat → Nat → Bool) (M : List (Nat → Int32)) (Q R : List Rq) (Z : Nat → List Fz) (N : Nat → Nat → Int32) : Nat := sM κ M + qw κ mo Z [] Q + rw0 κ Z N R + sZ κ hc N Z
section
variable {κ : Ko} {mo mo' : Nat → Nat → Nat} {hc hc' : Nat → Nat → Bool} {M M1 M2 : List (Nat → Int32)} {Q R Pd : List Rq} {Z Z' : Nat → List Fz} {N N' : Nat → Nat → Int32} {n i f : Nat} {y : Fz} {z : Rq} {m : Nat → Int32} {seen : List Nat}
theorem sM_app : sM κ (M1 ++ M2) = sM κ M1 + sM κ M2 := by unfold sM; rw [List.map_append, List.sum_append]
theorem sM_cons : sM κ (m :: M) = wM κ m + sM κ M := rfl
theorem sM_psh : sM κ (psh M m) ≤ sM κ M + wM κ m := by
  unfold psh
  split
  · rw [sM_app]
    exact Nat.le_refl _
  · exact Nat.le_add_right _ _
theorem sM_rem : sM κ (M1 ++ m :: M2) = sM κ (M1 ++ M2) + wM κ m := by rw [sM_app, sM_app, sM_cons]; omega
theorem sFu_cons : sFu κ (z :: R) = wFu κ z + sFu κ R := rfl
theorem qw_le : ∀ (Q : List Rq) (seen : List Nat), qw κ mo Z seen Q ≤ sFu κ Q := by
  intro Q
  induction Q with
  | nil => intro seen; exact Nat.le_refl _
  | cons z Q ih =>
    intro seen
    have h1 := ih (z.2.1 :: seen)
    unfold qw
    rw [sFu_cons]
    have h2 : (cif (z.2.1 ∉ seen ∧ ownZ mo Z z) (wBs κ z) (wFu κ z)) ≤ wFu κ z := cif_le (by unfold wFu; omega)
    omega
/-- a row more at the end -/
theorem qw_snoc : ∀ (Q : List Rq) (seen : List Nat), qw κ mo Z seen (Q ++ [z]) ≤ qw κ mo Z seen Q + wFu κ z := by
  intro Q
  induction Q with
  | nil =>
    intro seen
    have := qw_le (κ := κ) (mo := mo) (Z := Z) [z] seen
    rw [sFu_cons] at this
    exact Nat.le_trans this (by show wFu κ z + 0 ≤ 0 + wFu κ z; omega)
  | cons x Q ih =>
    intro seen
    have h1 := ih (x.2.1 :: seen)
    show (cif (x.2.1 ∉ seen ∧ ownZ mo Z x) (wBs κ x) (wFu κ x)) + qw κ mo Z (x.2.1 :: seen) (Q ++ [z]) ≤ (cif (x.2.1 ∉ seen ∧ ownZ mo Z x) (wBs κ x) (wFu κ x)) + qw κ mo Z (x.2.1 :: seen) Q + wFu κ z
    omega
/-- .. and it is an own one -/
theorem qw_own (hz : ownZ mo Z z) : ∀ (Q : List Rq) (seen : List Nat), z.2.1 ∉ seen → (∀ x ∈ Q, ¬ x.2.1 = z.2.1) → qw κ mo Z seen (Q ++ [z]) = qw κ mo Z seen Q + wBs κ z := by
  intro Q
  induction Q with
  | nil =>
    intro seen hs _
    show (cif (z.2.1 ∉ seen ∧ ownZ mo Z z) (wBs κ z) (wFu κ z)) + 0 = 0 + wBs κ z
    rw [cif_pos ⟨hs, hz⟩]
    omega
  | cons x Q ih =>
    intro seen hs hQ
    have h1 := ih (x.2.1 :: seen) (fun w => by
      rcases List.mem_cons.mp w with q | q
      · exact hQ x List.mem_cons_self q.symm
      · exact hs q) (fun y hy => hQ y (List.mem_cons_of_mem _ hy))
    show (cif (x.2.1 ∉ seen ∧ ownZ mo Z x) (wBs κ x) (wFu κ x)) + qw κ mo Z (x.2.1 :: seen) (Q ++ [z]) = (cif (x.2.1 ∉ seen ∧ ownZ mo Z x) (wBs κ x) (wFu κ x)) + qw κ mo Z (x.2.1 :: seen) Q + wBs κ z
    omega
/-- fetches may become more fitting -/
theorem qw_mono (h : ∀ z ∈ Q, ownZ mo Z z → ownZ mo' Z' z) : ∀ (seen : List Nat), qw κ mo' Z' seen Q ≤ qw κ mo Z seen Q := by
  induction Q with
  | nil => intro seen; exact Nat.le_refl _
  | cons x Q ih =>
    intro seen
    have h1 := ih (fun z hz => h z (List.mem_cons_of_mem _ hz)) (x.2.1 :: seen)
    have h2 : (cif (x.2.1 ∉ seen ∧ ownZ mo' Z' x) (wBs κ x) (wFu κ x)) ≤ (cif (x.2.1 ∉ seen ∧ ownZ mo Z x) (wBs κ x) (wFu κ x)) := by
      by_cases w : x.2.1 ∉ seen ∧ ownZ mo Z x
      · rw [cif_pos w, cif_pos ⟨w.1, h x List.mem_cons_self w.2⟩]
        exact Nat.le_refl _
      · rw [cif_neg w]
        exact cif_le (by unfold wFu; omega)
    show (cif (x.2.1 ∉ seen ∧ ownZ mo' Z' x) (wBs κ x) (wFu κ x)) + qw κ mo' Z' (x.2.1 :: seen) Q ≤ (cif (x.2.1 ∉ seen ∧ ownZ mo Z x) (wBs κ x) (wFu κ x)) + qw κ mo Z (x.2.1 :: seen) Q
    omega
/-- only the places of the rows themselves count -/
theorem qw_seen : ∀ (Q : List Rq) (s t : List Nat), (∀ x ∈ Q, (x.2.1 ∈ s ↔ x.2.1 ∈ t)) → qw κ mo Z s Q = qw κ mo Z t Q := by
  intro Q
  induction Q with
  | nil => intro s t _; rfl
  | cons x Q ih =>
    intro s t h
    have h1 := ih (x.2.1 :: s) (x.2.1 :: t) (fun z hz => by
      have := h z (List.mem_cons_of_mem _ hz)
      simp only [List.mem_cons, this])
    have h2 := h x List.mem_cons_self
    show (cif (x.2.1 ∉ s ∧ ownZ mo Z x) (wBs κ x) (wFu κ x)) + qw κ mo Z (x.2.1 :: s) Q = (cif (x.2.1 ∉ t ∧ ownZ mo Z x) (wBs κ x) (wFu κ x)) + qw κ mo Z (x.2.1 :: t) Q
    rw [h1]
    by_cases w : x.2.1 ∈ s
    · rw [cif_neg (fun q => q.1 w), cif_neg (fun q => q.1 (h2.mp w))]
    · by_cases o : ownZ mo Z x
      · rw [cif_pos ⟨w, o⟩, cif_pos ⟨fun q => w (h2.mpr q), o⟩]
      · rw [cif_neg (fun q => o q.2), cif_neg (fun q => o q.2)]
/-- the rows of a place apart -/
theorem qw_split (f : Nat) : ∀ (Q : List Rq) (seen : List Nat), qw κ mo Z seen Q = qw κ mo Z seen (qOut Q f) + qw κ mo Z seen (qIn Q f) := by
  intro Q
  induction Q with
  | nil => intro seen; rfl
  | cons x Q ih =>
    intro seen
    have h1 := ih (x.2.1 :: seen)
    show (cif (x.2.1 ∉ seen ∧ ownZ mo Z x) (wBs κ x) (wFu κ x)) + qw κ mo Z (x.2.1 :: seen) Q = _
    rw [h1]
    by_cases w : x.2.1 = f
    · have e1 : qOut (x :: Q) f = qOut Q f := by unfold qOut; rw [List.filter_cons, if_neg (by simp [w])]
      have e2 : qIn (x :: Q) f = x :: qIn Q f := by unfold qIn; rw [List.filter_cons, if_pos (by simp [w])]
      rw [e1, e2, qw_seen (qOut Q f) (x.2.1 :: seen) seen (fun z hz => by
        have hz2 : ¬ z.2.1 = f := by
          have := (List.mem_filter.mp hz).2
          simpa using this
        simp only [List.mem_cons]
        exact ⟨fun q => q.elim (fun q => absurd (q.trans w) hz2) id, Or.inr⟩)]
      show _ = qw κ mo Z seen (qOut Q f) + ((cif (x.2.1 ∉ seen ∧ ownZ mo Z x) (wBs κ x) (wFu κ x)) + qw κ mo Z (x.2.1 :: seen) (qIn Q f))
      omega
    · have e1 : qOut (x :: Q) f = x :: qOut Q f := by unfold qOut; rw [List.filter_cons, if_pos (by simp [w])]
      have e2 : qIn (x :: Q) f = qIn Q f := by unfold qIn; rw [List.filter_cons, if_neg (by simp [w])]
      rw [e1, e2, qw_seen (qIn Q f) (x.2.1 :: seen) seen (fun z hz => by
        have hz2 : z.2.1 = f := qIn_nd hz
        simp only [List.mem_cons]
        exact ⟨fun q => q.elim (fun q => absurd (q.symm.trans hz2) w) id, Or.inr⟩)]
      show _ = ((cif (x.2.1 ∉ seen ∧ ownZ mo Z x) (wBs κ x) (wFu κ x)) + qw κ mo Z (x.2.1 :: seen) (qOut Q f)) + qw κ mo Z seen (qIn Q f)
      omega
/-- rows of a place that was seen: all weigh in full -/
theorem qw_full : ∀ (Q : List Rq) (seen : List Nat), (∀ x ∈ Q, x.2.1 ∈ seen) → qw κ mo Z seen Q = sFu κ Q := by
  intro Q
  induction Q with
  | nil => intro seen _; rfl
  | cons x Q ih =>
    intro seen h
    show (cif (x.2.1 ∉ seen ∧ ownZ mo Z x) (wBs κ x) (wFu κ x)) + qw κ mo Z (x.2.1 :: seen) Q = wFu κ x + sFu κ Q
    rw [cif_neg (fun q => q.1 (h x List.mem_cons_self)), ih (x.2.1 :: seen) (fun z hz => List.mem_cons_of_mem _ (h z (List.mem_cons_of_mem _ hz)))]
theorem qw_chain (h : qIn Q f = z :: Pd) : qw κ mo Z [] (qIn Q f) = (cif (ownZ mo Z z) (wBs κ z) (wFu κ z)) + sFu κ Pd := by
  rw [h]
  show (cif (z.2.1 ∉ [] ∧ ownZ mo Z z) (wBs κ z) (wFu κ z)) + qw κ mo Z [z.2.1] Pd = _
  have hz : z.2.1 = f := qIn_nd (by rw [h]; exact List.mem_cons_self)
  rw [qw_full Pd [z.2.1] (fun x hx => by
    have : x.2.1 = f := qIn_nd (by rw [h]; exact List.mem_cons_of_mem _ hx)
    rw [this, hz]
    exact List.mem_cons_self)]
  by_cases o : ownZ mo Z z
  · rw [cif_pos ⟨by simp, o⟩, cif_pos o]
  · rw [cif_neg (fun q => o q.2), cif_neg o]
end
