/-! The ring: the nearest point. -/
def updN (o : Option (Nat × Nat)) (n k : Nat) : Option (Nat × Nat) := match o with
  | none => some (n, k)
  | some (m, l) => if k < l then some (n, k) else some (m, l)
/-- over the points of a node -/
def fN (K : Nat → List Nat) (key : Nat → Nat → Nat) (o : Option (Nat × Nat)) (n : Nat) : Option (Nat × Nat) := (K n).foldl (fun o p => updN o n (key n p)) o
def fL (K : Nat → List Nat) (key : Nat → Nat → Nat) (o : Option (Nat × Nat)) (L : List Nat) : Option (Nat × Nat) := L.foldl (fN K key) o
def sh (c : Nat) (o : Option (Nat × Nat)) : Option (Nat × Nat) := o.map (fun q => (q.1, q.2 + c))
theorem updN_sh {c n k : Nat} {o : Option (Nat × Nat)} : updN (sh c o) n (k + c) = sh c (updN o n k) := by
  cases o with
  | none => rfl
  | some q =>
    show (if k + c < q.2 + c then some (n, k + c) else some (q.1, q.2 + c)) = sh c (if k < q.2 then some (n, k) else some (q.1, q.2))
    by_cases h : k < q.2
    · rw [if_pos h, if_pos (by omega)]
      rfl
    · rw [if_neg h, if_neg (by omega)]
      rfl
theorem fN_sh {K : Nat → List Nat} {key key' : Nat → Nat → Nat} {c n : Nat} (h : ∀ p, key' n p = key n p + c) (o : Option (Nat × Nat)) : fN K key' (sh c o) n = sh c (fN K key o n) := by
  unfold fN
  generalize K n = l
  induction l generalizing o with
  | nil => rfl
  | cons p l ih =>
    rw [List.foldl_cons, List.foldl_cons, h, updN_sh]
    exact ih _
theorem fL_sh {K : Nat → List Nat} {key key' : Nat → Nat → Nat} {c : Nat} {L : List Nat} (h : ∀ n ∈ L, ∀ p, key' n p = key n p + c) (o : Option (Nat × Nat)) : fL K key' (sh c o) L = sh c (fL K key o L) := by
  unfold fL
  induction L generalizing o with
  | nil => rfl
  | cons n L ih =>
    rw [List.foldl_cons, List.foldl_cons, fN_sh (h n List.mem_cons_self)]
    exact ih (fun m hm => h m (List.mem_cons_of_mem _ hm)) _
/-- a fold with some keys far off, beside one without them -/
def Rl (B : Nat) (o1 o2 : Option (Nat × Nat)) : Prop := match o2 with
  | none => ∀ q, o1 = some q → B ≤ q.2
  | some q => o1 = some q ∧ q.2 < B
theorem Rl.near {B n k : Nat} {o1 o2 : Option (Nat × Nat)} (h : Rl B o1 o2) (hk : k < B) : Rl B (updN o1 n k) (updN o2 n k) := by
  cases o2 with
  | none =>
    cases o1 with
    | none => exact ⟨rfl, hk⟩
    | some q =>
      have := h q rfl
      show (if k < q.2 then some (n, k) else some (q.1, q.2)) = some (n, k) ∧ k < B
      rw [if_pos (by omega)]
      exact ⟨rfl, hk⟩
  | some q =>
    obtain ⟨rfl, h2⟩ := h
    show Rl B (updN (some q) n k) (if k < q.2 then some (n, k) else some (q.1, q.2))
    by_cases hz : k < q.2
    · rw [if_pos hz]
      exact ⟨if_pos hz, hk⟩
    · rw [if_neg hz]
      exact ⟨if_neg hz, h2⟩
theorem Rl.far {B n k : Nat} {o1 o2 : Option (Nat × Nat)} (h : Rl B o1 o2) (hk : B ≤ k) : Rl B (updN o1 n k) o2 := by
  cases o2 with
  | none =>
    intro q hq
    cases o1 with
    | none =>
      cases hq
      exact hk
    | some r =>
      have := h r rfl
      have hq' : (if k < r.2 then some (n, k) else some (r.1, r.2)) = some q := hq
      split at hq'
      · cases hq'
        exact hk
      · cases hq'
        exact this
  | some q =>
    obtain ⟨rfl, h2⟩ := h
    refine ⟨?_, h2⟩
    show (if k < q.2 then some (n, k) else some (q.1, q.2)) = some q
    rw [if_neg (by omega)]
theorem Rl_fN {K : Nat → List Nat} {key : Nat → Nat → Nat} {B n : Nat} (hk : ∀ p ∈ K n, key n p < B) {o1 o2 : Option (Nat × Nat)} (h : Rl B o1 o2) : Rl B (fN K key o1 n) (fN K key o2 n) := by
  unfold fN
  generalize K n = l at hk
  induction l generalizing o1 o2 with
  | nil => exact h
  | cons p l ih => exact ih (h.near (hk p List.mem_cons_self)) (fun q hq => hk q (List.mem_cons_of_mem _ hq))
theorem Rl_fF {K : Nat → List Nat} {key : Nat → Nat → Nat} {B n : Nat} (hk : ∀ p ∈ K n, B ≤ key n p) {o1 o2 : Option (Nat × Nat)} (h : Rl B o1 o2) : Rl B (fN K key o1 n) o2 := by
  unfold fN
  generalize K n = l at hk
  induction l generalizing o1 with
  | nil => exact h
  | cons p l ih => exact ih (h.far (hk p List.mem_cons_self)) (fun q hq => hk q (List.mem_cons_of_mem _ hq))
theorem Rl_fL {K : Nat → List Nat} {key : Nat → Nat → Nat} {B : Nat} {far : Nat → Bool} {L : List Nat} (hk : ∀ n ∈ L, ∀ p ∈ K n, if far n then B ≤ key n p else key n p < B) {o1 o2 : Option (Nat × Nat)} (h : Rl B o1 o2) : Rl B (fL K key o1 L) (fL K key o2 (L.filter (fun n => !far n))) := by
  unfold fL
  induction L generalizing o1 o2 with
  | nil => exact h
  | cons n L ih =>
    have h1 := hk n List.mem_cons_self
    cases hf : far n with
    | true =>
      rw [List.filter_cons_of_neg (by simp [hf]), List.foldl_cons]
      rw [hf] at h1
      exact ih (fun m hm => hk m (List.mem_cons_of_mem _ hm)) (Rl_fF h1 h)
    | false =>
      rw [List.filter_cons_of_pos (by simp [hf]), List.foldl_cons, List.foldl_cons]
      rw [hf] at h1
      exact ih (fun m hm => hk m (List.mem_cons_of_mem _ hm)) (Rl_fN h1 h)
theorem updN_some {o : Option (Nat × Nat)} {n k : Nat} : ∃ q, updN o n k = some q := by
  cases o with
  | none => exact ⟨_, rfl⟩
  | some r =>
    show ∃ q, (if k < r.2 then some (n, k) else some (r.1, r.2)) = some q
    split
    · exact ⟨_, rfl⟩
    · exact ⟨_, rfl⟩
theorem fN_some {K : Nat → List Nat} {key : Nat → Nat → Nat} {n : Nat} (h : K n ≠ []) {o : Option (Nat × Nat)} : ∃ q, fN K key o n = some q := by
  unfold fN
  generalize K n = l at h
  induction l generalizing o with
  | nil => exact absurd rfl h
  | cons p l ih =>
    cases l with
    | nil => exact updN_some
    | cons p2 l => exact ih (by simp)
theorem fL_none {K : Nat → List Nat} {key : Nat → Nat → Nat} (h : ∀ n, K n ≠ []) : ∀ {L : List Nat} {o : Option (Nat × Nat)}, fL K key o L = none → o = none ∧ L = [] := by
  intro L
  induction L with
  | nil => intro o ho; exact ⟨ho, rfl⟩
  | cons n L ih =>
    intro o ho
    have := ih (o := fN K key o n) ho
    obtain ⟨q, hq⟩ := fN_some (K := K) (key := key) (o := o) (h n)
    rw [hq] at this
    cases this.1
/-- with a detour for some, or those left out, and if none is left all of them: the same node -/
theorem ring_eq {K : Nat → List Nat} {d : Nat → Nat → Nat} {B s : Nat} {far : Nat → Bool} {L : List Nat} (hK : ∀ n, K n ≠ []) (hd : ∀ n ∈ L, ∀ p ∈ K n, d n p < B) :
    (fL K (fun n p => d n p + (if far n then B else 0)) none L).map Prod.fst = (if (fL K (fun n p => d n p + s) none (L.filter (fun n => !far n))) = none then (fL K (fun n p => d n p + s) none L).map Prod.fst else (fL K (fun n p => d n p + s) none (L.filter (fun n => !far n))).map Prod.fst) := by
  have h1 := Rl_fL (K := K) (key := fun n p => d n p + (if far n then B else 0)) (B := B) (far := far) (L := L) (fun n hn p hp => by
    have := hd n hn p hp
    cases far n with
    | true => simp
    | false => simpa using this) (o1 := none) (o2 := none) (fun q hq => by cases hq)
  have e1 : fL K (fun n p => d n p + (if far n then B else 0)) none (L.filter (fun n => !far n)) = fL K d none (L.filter (fun n => !far n)) := by
    have := fL_sh (K := K) (key := d) (key' := fun n p => d n p + (if far n then B else 0)) (c := 0) (L := L.filter (fun n => !far n)) (fun n hn p => by
      have h9 := (List.mem_filter.mp hn).2
      cases hf : far n with
      | true => rw [hf] at h9; cases h9
      | false => simp) none
    rw [show sh 0 none = none from rfl] at this
    rw [this]
    cases fL K d none (L.filter (fun n => !far n)) with
    | none => rfl
    | some q => rfl
  have e2 : ∀ M : List Nat, fL K (fun n p => d n p + s) none M = sh s (fL K d none M) := fun M => fL_sh (K := K) (key := d) (key' := fun n p => d n p + s) (c := s) (L := M) (fun n _ p => rfl) none
  rw [e2, e2]
  rw [e1] at h1
  cases hz : fL K d none (L.filter (fun n => !far n)) with
  | some q =>
    rw [hz] at h1
    rw [h1.1, if_neg (by intro w; cases w)]
    rfl
  | none =>
    rw [if_pos (show sh s none = none from rfl)]
    have hall : ∀ n ∈ L, far n = true := by
      intro n hn
      have := (fL_none hK hz).2
      cases hf : far n with
      | true => rfl
      | false =>
        have : n ∈ L.filter (fun n => !far n) := List.mem_filter.mpr ⟨hn, by rw [hf]; rfl⟩
        rw [(fL_none hK hz).2] at this
        cases this
    have e3 : fL K (fun n p => d n p + (if far n then B else 0)) none L = sh B (fL K d none L) := fL_sh (K := K) (key := d) (c := B) (L := L) (fun n hn p => by show d n p + (if far n = true then B else 0) = _; rw [hall n hn, if_pos rfl]) none
    rw [e3]
    cases fL K d none L <;> rfl
