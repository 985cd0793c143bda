/-! The class's cells by address: objects, arrays, lists (whose arrays are hidden). -/
abbrev tC : Type := (Nat × List Value) ⊕ ((Nat × Nat × (Nat → Value)) ⊕ (Nat × List Nat))
/-- the cells, the next address, the slots so far -/
abbrev tT : Type := (Nat → Option tC) × Nat × Nat
def rv (x : Option Nat) : Value := match x with
  | none => .null
  | some a => .ref a
def okr (n : Nat) (x : Option Nat) : Prop := ∀ a, x = some a → a < n
theorem okr_none {n : Nat} : okr n none := fun _ h => by cases h
theorem okr_some {n a : Nat} (h : a < n) : okr n (some a) := fun _ e => by cases e; exact h
theorem okm {n k : Nat} {x : Option Nat} (h : okr n x) (hk : n ≤ k) : okr k x := fun a e => Nat.lt_of_lt_of_le (h a e) hk
theorem m_okv_rv {n : Nat} {x : Option Nat} (h : okr (512 + n) x) : m_okv n (rv x) = true := by
  cases x with
  | none => rfl
  | some a => exact decide_eq_true (h a rfl)
theorem m_okv_rn {n a : Nat} (h : okr (512 + n) (some a)) : m_okv n (.ref a) = true := m_okv_rv h
theorem okr_of {n : Nat} {x : Option Nat} (h : m_okv n (rv x) = true) : okr (512 + n) x := by
  cases x with
  | none => exact okr_none
  | some a => exact okr_some (of_decide_eq_true h)
def tset (T : tT) (a : Nat) (c : tC) : tT := (fun b => if b = a then some c else T.1 b, T.2.1, T.2.2)
def tadd (T : tT) (c : tC) (k : Nat) : tT := (fun b => if b = T.2.1 then some c else T.1 b, T.2.1 + 1, T.2.2 + k)
theorem m_AL.fr {w w' : List mM} {a r n : Nat} {xs : List Nat} (h : m_AL w a r n xs) (h1 : ∀ d, m_at w a = some d → m_at w' a = some d) (h2 : ∀ d, m_at w r = some d → m_at w' r = some d) : m_AL w' a r n xs := by
  obtain ⟨mc, g1, g2⟩ := h
  refine ⟨mc, h1 _ g1, g2.imp id ?_⟩
  rintro ⟨els, e1, e2, e3, e4⟩
  exact ⟨els, h2 _ e1, e2, e3, e4⟩
def RTl (own : Nat → Nat) (T : tT) (w : List mM) (a n : Nat) (xs : List Nat) : Prop := a ∉ m_dom ∧ m_AL w a (own a) n xs ∧ (∀ b ∈ xs, ∃ ci fs, T.1 b = some (.inl (ci, fs)) ∧ (ci, 8) ∈ m_asl) ∧ (own a = 0 ∨ (own a ∉ m_dom ∧ T.1 (own a) = none ∧ ∃ d, m_at w (own a) = some d))
/-- the class's cells stand so in the world; own: the hidden arrays of the lists -/
def RTo (own : Nat → Nat) (T : tT) (w : List mM) : Prop :=
  (T.2.1 = 512 + w.length ∧ ∀ d ∈ m_dom, d < 512 + w.length) ∧
  (∀ a ci fs, T.1 a = some (.inl (ci, fs)) → a ∉ m_dom ∧ m_at w a = some (.inr (ci, fs)) ∧ fs.all (m_okv w.length) = true) ∧
  (∀ a t n f, T.1 a = some (.inr (.inl (t, n, f))) → a ∉ m_dom ∧ ∃ els, m_at w a = some (.inl (t, n, els)) ∧ (∀ j, m_el t els j = f j) ∧ ∀ j, m_okv w.length (f j) = true) ∧
  (∀ a n xs, T.1 a = some (.inr (.inr (n, xs))) → RTl own T w a n xs) ∧
  (∀ a n xs a' n' xs', T.1 a = some (.inr (.inr (n, xs))) → T.1 a' = some (.inr (.inr (n', xs'))) → own a = own a' → a = a' ∨ own a = 0)
def RT (T : tT) (w : List mM) : Prop := ∃ own, RTo own T w
/-- the reference's cells stand as they were -/
def m_Fm (w w' : List mM) : Prop := w.length ≤ w'.length ∧ ∀ b ∈ m_dom, ∀ d, m_at w b = some d → m_at w' b = some d
theorem m_Fm.refl {w : List mM} : m_Fm w w := ⟨Nat.le_refl _, fun _ _ _ h => h⟩
theorem m_Fm.trans {w w' w'' : List mM} (h : m_Fm w w') (h2 : m_Fm w' w'') : m_Fm w w'' := ⟨Nat.le_trans h.1 h2.1, fun b hb d hd => h2.2 b hb d (h.2 b hb d hd)⟩
theorem m_at_lt {w : List mM} {a : Nat} {c : mM} (h : m_at w a = some c) : 512 ≤ a ∧ a < 512 + w.length := by
  obtain ⟨h1, h2⟩ := m_at_ok h
  have h3 := (List.getElem?_eq_some_iff.mp h2).1
  omega
theorem RTo.ex {own : Nat → Nat} {T : tT} {w : List mM} (h : RTo own T w) {a : Nat} {c : tC} (ha : T.1 a = some c) : a ∉ m_dom ∧ ∃ d, m_at w a = some d := by
  match c, ha with
  | .inl (ci, fs), ha => exact ⟨(h.2.1 a ci fs ha).1, _, (h.2.1 a ci fs ha).2.1⟩
  | .inr (.inl (t, n, f)), ha =>
    obtain ⟨g1, els, g2, -⟩ := h.2.2.1 a t n f ha
    exact ⟨g1, _, g2⟩
  | .inr (.inr (n, xs)), ha =>
    obtain ⟨g1, ⟨mc, g2, -⟩, -⟩ := h.2.2.2.1 a n xs ha
    exact ⟨g1, _, g2⟩
theorem RTo.fresh {own : Nat → Nat} {T : tT} {w : List mM} (h : RTo own T w) {a : Nat} (ha : 512 + w.length ≤ a) : T.1 a = none := by
  cases e : T.1 a with
  | none => rfl
  | some c =>
    obtain ⟨-, d, hd⟩ := h.ex e
    have := m_at_lt hd
    omega
theorem RTo.own_ne {own : Nat → Nat} {T : tT} {w : List mM} (h : RTo own T w) {a b n : Nat} {xs : List Nat} {c : tC} (ha : T.1 a = some c) (hb : T.1 b = some (.inr (.inr (n, xs)))) : ¬ own b = a := by
  intro e
  obtain ⟨-, d, hd⟩ := h.ex ha
  have h5 := m_at_lt hd
  rcases (h.2.2.2.1 b n xs hb).2.2.2 with g | ⟨-, g, -⟩
  · omega
  · rw [e, ha] at g
    cases g
theorem okl_mono {n k : Nat} {fs : List Value} (h : fs.all (m_okv n) = true) (hk : n ≤ k) : fs.all (m_okv k) = true := by
  rw [List.all_eq_true] at h ⊢
  exact fun v hv => m_okv_mono (h v hv) hk
/-- one object or array changes, or comes -/
theorem RTo.cell {own : Nat → Nat} {T T1 : tT} {w w1 : List mM} {a : Nat} (h : RTo own T w) (hw : w.length ≤ w1.length) (hfr : ∀ b d, m_at w b = some d → ¬ b = a → m_at w1 b = some d) (hT : ∀ b, ¬ b = a → T1.1 b = T.1 b) (hn : T1.2.1 = 512 + w1.length) (hd : a ∉ m_dom)
    (hl : ∀ n xs, ¬ T.1 a = some (.inr (.inr (n, xs)))) (hl1 : ∀ n xs, ¬ T1.1 a = some (.inr (.inr (n, xs)))) (hown : ∀ b n xs, T.1 b = some (.inr (.inr (n, xs))) → ¬ own b = a)
    (hk : ∀ ci fs, T.1 a = some (.inl (ci, fs)) → ∃ fs', T1.1 a = some (.inl (ci, fs')))
    (ho : ∀ ci fs, T1.1 a = some (.inl (ci, fs)) → m_at w1 a = some (.inr (ci, fs)) ∧ fs.all (m_okv w1.length) = true)
    (hA : ∀ t n f, T1.1 a = some (.inr (.inl (t, n, f))) → ∃ els, m_at w1 a = some (.inl (t, n, els)) ∧ (∀ j, m_el t els j = f j) ∧ ∀ j, m_okv w1.length (f j) = true) : RTo own T1 w1 := by
  refine ⟨⟨hn, fun d hd => by have := h.1.2 d hd; omega⟩, ?_, ?_, ?_, ?_⟩
  · intro b ci fs hb
    by_cases e : b = a
    · subst e
      exact ⟨hd, ho ci fs hb⟩
    · rw [hT b e] at hb
      obtain ⟨g1, g2, g3⟩ := h.2.1 b ci fs hb
      exact ⟨g1, hfr b _ g2 e, okl_mono g3 hw⟩
  · intro b t n f hb
    by_cases e : b = a
    · subst e
      exact ⟨hd, hA t n f hb⟩
    · rw [hT b e] at hb
      obtain ⟨g1, els, g2, g3, g4⟩ := h.2.2.1 b t n f hb
      exact ⟨g1, els, hfr b _ g2 e, g3, fun j => m_okv_mono (g4 j) hw⟩
  · intro b n xs hb
    by_cases e : b = a
    · subst e
      exact absurd hb (hl1 n xs)
    · rw [hT b e] at hb
      obtain ⟨g1, g2, g3, g4⟩ := h.2.2.2.1 b n xs hb
      have hne := hown b n xs hb
      refine ⟨g1, g2.fr (fun d hd => hfr b d hd e) (fun d hd => hfr _ d hd hne), ?_, ?_⟩
      · intro c hc
        obtain ⟨ci, fs, k1, k2⟩ := g3 c hc
        by_cases e2 : c = a
        · subst e2
          obtain ⟨fs', k3⟩ := hk ci fs k1
          exact ⟨ci, fs', k3, k2⟩
        · exact ⟨ci, fs, by rw [hT c e2]; exact k1, k2⟩
      · refine g4.imp id ?_
        rintro ⟨k1, k2, d, k3⟩
        exact ⟨k1, by rw [hT _ hne]; exact k2, d, hfr _ d k3 hne⟩
  · intro b n xs b' n' xs' hb hb' e
    have e1 : ¬ b = a := fun z => by subst z; exact hl1 n xs hb
    have e2 : ¬ b' = a := fun z => by subst z; exact hl1 n' xs' hb'
    rw [hT b e1] at hb
    rw [hT b' e2] at hb'
    exact h.2.2.2.2 b n xs b' n' xs' hb hb' e
theorem tset_ne {T : tT} {a b : Nat} {c : tC} (h : ¬ b = a) : (tset T a c).1 b = T.1 b := if_neg h
theorem tset_eq {T : tT} {a : Nat} {c : tC} : (tset T a c).1 a = some c := if_pos rfl
theorem tadd_ne {T : tT} {b k : Nat} {c : tC} (h : ¬ b = T.2.1) : (tadd T c k).1 b = T.1 b := if_neg h
theorem tadd_eq {T : tT} {k : Nat} {c : tC} : (tadd T c k).1 T.2.1 = some c := if_pos rfl
theorem RT.put {T : tT} {w w1 : List mM} {a ci : Nat} {fs fs' : List Value} (h : RT T w) (ha : T.1 a = some (.inl (ci, fs))) (h1 : m_W1 w w1 a (.inr (ci, fs'))) (hok : fs'.all (m_okv w.length) = true) : RT (tset T a (.inl (ci, fs'))) w1 := by
  obtain ⟨own, h⟩ := h
  refine ⟨own, h.cell (a := a) (by rw [h1.1]; exact Nat.le_refl _) h1.2.2 (fun b hb => tset_ne hb) (by rw [h1.1]; exact h.1.1) (h.ex ha).1 (fun n xs e => by rw [ha] at e; cases e) (fun n xs e => by rw [tset_eq] at e; cases e) (fun b n xs hb => h.own_ne ha hb) ?_ ?_ ?_⟩
  · intro cj gs e
    rw [ha] at e
    cases e
    exact ⟨fs', tset_eq⟩
  · intro cj gs e
    rw [tset_eq] at e
    cases e
    exact ⟨h1.2.1, by rw [h1.1]; exact hok⟩
  · intro t n f e
    rw [tset_eq] at e
    cases e
theorem RT.puta {T : tT} {w w1 : List mM} {a t n : Nat} {f f' : Nat → Value} {els : List (Nat × Value)} (h : RT T w) (ha : T.1 a = some (.inr (.inl (t, n, f)))) (h1 : m_W1 w w1 a (.inl (t, n, els))) (he : ∀ j, m_el t els j = f' j) (hok : ∀ j, m_okv w.length (f' j) = true) : RT (tset T a (.inr (.inl (t, n, f')))) w1 := by
  obtain ⟨own, h⟩ := h
  refine ⟨own, h.cell (a := a) (by rw [h1.1]; exact Nat.le_refl _) h1.2.2 (fun b hb => tset_ne hb) (by rw [h1.1]; exact h.1.1) (h.ex ha).1 (fun n xs e => by rw [ha] at e; cases e) (fun n xs e => by rw [tset_eq] at e; cases e) (fun b n xs hb => h.own_ne ha hb) ?_ ?_ ?_⟩
  · intro cj gs e
    rw [ha] at e
    cases e
  · intro cj gs e
    rw [tset_eq] at e
    cases e
  · intro t n f e
    rw [tset_eq] at e
    cases e
    exact ⟨els, h1.2.1, he, by rw [h1.1]; exact hok⟩
theorem RTo.nnew {own : Nat → Nat} {T : tT} {w : List mM} (h : RTo own T w) : T.1 T.2.1 = none ∧ T.2.1 ∉ m_dom ∧ ∀ b n xs, T.1 b = some (.inr (.inr (n, xs))) → ¬ own b = T.2.1 := by
  refine ⟨h.fresh (Nat.le_of_eq h.1.1.symm), fun hd => by have := h.1.2 _ hd; have := h.1.1; omega, fun b n xs hb e => ?_⟩
  rcases (h.2.2.2.1 b n xs hb).2.2.2 with g | ⟨-, -, d, g⟩
  · have := h.1.1; omega
  · have := m_at_lt g; have := h.1.1; omega
theorem RT.new {T : tT} {w w1 : List mM} {n1 ci : Nat} {fs : List Value} (h : RT T w) (h1 : m_WA w w1 n1 (.inr (ci, fs))) (hok : fs.all (m_okv w1.length) = true) : n1 = T.2.1 ∧ RT (tadd T (.inl (ci, fs)) fs.length) w1 := by
  obtain ⟨own, h⟩ := h
  obtain ⟨k1, k2, k3⟩ := h.nnew
  have hn1 : n1 = T.2.1 := by rw [h1.1, h.1.1]
  subst hn1
  refine ⟨rfl, own, h.cell (a := T.2.1) (by rw [h1.2.1]; omega) (fun b d hb _ => h1.2.2.2 b d hb) (fun b hb => tadd_ne hb) (by show T.2.1 + 1 = _; rw [h1.2.1, h.1.1]; omega) k2 (fun n xs e => by rw [k1] at e; cases e) (fun n xs e => by rw [tadd_eq] at e; cases e) k3 ?_ ?_ ?_⟩
  · intro cj gs e
    rw [k1] at e
    cases e
  · intro cj gs e
    rw [tadd_eq] at e
    cases e
    exact ⟨h1.2.2.1, hok⟩
  · intro t n f e
    rw [tadd_eq] at e
    cases e
theorem m_el_nl {t j : Nat} : m_el t [] j = m_zero t := rfl
theorem RT.newa {T : tT} {w w1 : List mM} {n1 t n : Nat} (h : RT T w) (h1 : m_WA w w1 n1 (.inl (t, n, []))) : n1 = T.2.1 ∧ RT (tadd T (.inr (.inl (t, n, fun _ => m_zero t))) n) w1 := by
  obtain ⟨own, h⟩ := h
  obtain ⟨k1, k2, k3⟩ := h.nnew
  have hn1 : n1 = T.2.1 := by rw [h1.1, h.1.1]
  subst hn1
  refine ⟨rfl, own, h.cell (a := T.2.1) (by rw [h1.2.1]; omega) (fun b d hb _ => h1.2.2.2 b d hb) (fun b hb => tadd_ne hb) (by show T.2.1 + 1 = _; rw [h1.2.1, h.1.1]; omega) k2 (fun n xs e => by rw [k1] at e; cases e) (fun n xs e => by rw [tadd_eq] at e; cases e) k3 ?_ ?_ ?_⟩
  · intro cj gs e
    rw [k1] at e
    cases e
  · intro cj gs e
    rw [tadd_eq] at e
    cases e
  · intro t n f e
    rw [tadd_eq] at e
    cases e
    exact ⟨[], h1.2.2.1, fun j => m_el_nl, fun j => m_zero_ok _ _⟩
/-- a list changes -/
theorem RTo.lst {own : Nat → Nat} {T T1 : tT} {w w1 : List mM} {a n n' r' : Nat} {xs xs' : List Nat} (h : RTo own T w) (ha : T.1 a = some (.inr (.inr (n, xs)))) (hF : m_Fr w w1 [a, own a]) (hT : ∀ b, T1.1 b = if b = a then some (.inr (.inr (n', xs'))) else T.1 b) (hn : T1.2.1 = 512 + w1.length)
    (hS : m_AL w1 a r' n' xs') (hr : r' = own a ∨ r' = 512 + w.length) (hx : ∀ b ∈ xs', ∃ ci fs, T.1 b = some (.inl (ci, fs)) ∧ (ci, 8) ∈ m_asl) : RTo (fun x => if x = a then r' else own x) T1 w1 := by
  obtain ⟨a1, a2, a3, a4⟩ := h.2.2.2.1 a n xs ha
  have hTa : ∀ b, ¬ b = a → T1.1 b = T.1 b := fun b hb => by rw [hT, if_neg hb]
  have hvis : ∀ b c, T.1 b = some c → ¬ b = a → ∀ d, m_at w b = some d → m_at w1 b = some d := by
    intro b c hb hne d hd
    refine hF.2 b d hd ?_
    intro hm
    rcases List.mem_cons.mp hm with e | hm
    · exact hne e
    · exact h.own_ne hb ha (List.mem_singleton.mp hm).symm
  have hobj : ∀ b ci fs, T.1 b = some (.inl (ci, fs)) → T1.1 b = some (.inl (ci, fs)) := by
    intro b ci fs hb
    rw [hTa b (fun e => by rw [e, ha] at hb; cases hb)]
    exact hb
  refine ⟨⟨hn, fun d hd => by have := h.1.2 d hd; have := hF.1; omega⟩, ?_, ?_, ?_, ?_⟩
  · intro b ci fs hb
    rw [hT] at hb
    split at hb
    · cases hb
    · rename_i e
      obtain ⟨g1, g2, g3⟩ := h.2.1 b ci fs hb
      exact ⟨g1, hvis b _ hb e _ g2, okl_mono g3 hF.1⟩
  · intro b t m f hb
    rw [hT] at hb
    split at hb
    · cases hb
    · rename_i e
      obtain ⟨g1, els, g2, g3, g4⟩ := h.2.2.1 b t m f hb
      exact ⟨g1, els, hvis b _ hb e _ g2, g3, fun j => m_okv_mono (g4 j) hF.1⟩
  · intro b m ys hb
    rw [hT] at hb
    split at hb
    · rename_i e
      subst e
      cases hb
      refine ⟨a1, ?_, fun c hc => ?_, ?_⟩
      · show m_AL w1 b (if b = b then r' else own b) n' xs'
        rw [if_pos rfl]
        exact hS
      · obtain ⟨ci, fs, k1, k2⟩ := hx c hc
        exact ⟨ci, fs, hobj c ci fs k1, k2⟩
      · show (if b = b then r' else own b) = 0 ∨ _
        simp only [if_true]
        by_cases z : r' = 0
        · exact Or.inl z
        · have hr9 : ∃ d, m_at w1 r' = some d := by
            obtain ⟨mc, -, ⟨z9, -⟩ | ⟨els, z9, -⟩⟩ := hS
            · exact absurd z9 z
            · exact ⟨_, z9⟩
          have hrb : ¬ r' = b := by
            rcases hr with e | e
            · rw [e]
              exact h.own_ne ha ha
            · have hb9 := m_at_lt (h.ex ha).2.choose_spec
              omega
          refine Or.inr ⟨?_, (hTa r' hrb).trans ?_, hr9⟩
          · rcases hr with e | e
            · rcases a4 with g | ⟨g, -⟩
              · exact absurd (e.trans g) z
              · rw [e]; exact g
            · intro hd
              have := h.1.2 _ hd
              omega
          · rcases hr with e | e
            · rcases a4 with g | ⟨-, g, -⟩
              · exact absurd (e.trans g) z
              · rw [e]; exact g
            · exact h.fresh (by omega)
    · rename_i e
      obtain ⟨g1, g2, g3, g4⟩ := h.2.2.2.1 b m ys hb
      have hob : ¬ own b = a := h.own_ne ha hb
      have hown : ∀ d, m_at w (own b) = some d → m_at w1 (own b) = some d := by
        intro d hd
        refine hF.2 _ d hd ?_
        intro hm
        rcases List.mem_cons.mp hm with e2 | hm
        · exact hob e2
        · rcases h.2.2.2.2 b m ys a n xs hb ha (List.mem_singleton.mp hm) with z | z
          · exact e z
          · have := m_at_lt hd
            omega
      refine ⟨g1, ?_, fun c hc => ?_, ?_⟩
      · show m_AL w1 b (if b = a then r' else own b) m ys
        rw [if_neg e]
        exact g2.fr (hvis b _ hb e) hown
      · obtain ⟨ci, fs, k1, k2⟩ := g3 c hc
        exact ⟨ci, fs, hobj c ci fs k1, k2⟩
      · show (if b = a then r' else own b) = 0 ∨ ((if b = a then r' else own b) ∉ m_dom ∧ T1.1 (if b = a then r' else own b) = none ∧ ∃ d, m_at w1 (if b = a then r' else own b) = some d)
        rw [if_neg e]
        refine g4.imp id ?_
        rintro ⟨k1, k2, d, k3⟩
        exact ⟨k1, by rw [hTa _ hob]; exact k2, d, hown d k3⟩
  · intro b m ys b' m' ys' hb hb' e
    have hlt : ∀ c m ys, T.1 c = some (.inr (.inr (m, ys))) → ¬ own c = 512 + w.length := by
      intro c m ys hc z
      rcases (h.2.2.2.1 c m ys hc).2.2.2 with g | ⟨-, -, d, g⟩
      · omega
      · have := m_at_lt g
        omega
    rw [hT] at hb hb'
    have e : (if b = a then r' else own b) = (if b' = a then r' else own b') := e
    show b = b' ∨ (if b = a then r' else own b) = 0
    by_cases e1 : b = a
    · by_cases e2 : b' = a
      · exact Or.inl (e1.trans e2.symm)
      · rw [if_pos e1] at e ⊢
        rw [if_neg e2] at e hb'
        rcases hr with z | z
        · rcases h.2.2.2.2 a n xs b' m' ys' ha hb' (z.symm.trans e) with k | k
          · exact absurd k.symm e2
          · exact Or.inr (z.trans k)
        · exact absurd (e.symm.trans z) (hlt b' m' ys' hb')
    · rw [if_neg e1] at e hb ⊢
      by_cases e2 : b' = a
      · rw [if_pos e2] at e
        rcases hr with z | z
        · rcases h.2.2.2.2 b m ys a n xs hb ha (e.trans z) with k | k
          · exact absurd k e1
          · exact Or.inr k
        · exact absurd (e.trans z) (hlt b m ys hb)
      · rw [if_neg e2] at e hb'
        exact h.2.2.2.2 b m ys b' m' ys' hb hb' e
theorem RTo.dom {own : Nat → Nat} {T : tT} {w w1 : List mM} {a n : Nat} {xs : List Nat} (h : RTo own T w) (ha : T.1 a = some (.inr (.inr (n, xs)))) (hF : m_Fr w w1 [a, own a]) : m_Fm w w1 := by
  refine ⟨hF.1, fun b hb d hd => hF.2 b d hd ?_⟩
  obtain ⟨a1, a2, a3, a4⟩ := h.2.2.2.1 a n xs ha
  intro hm
  rcases List.mem_cons.mp hm with e | hm
  · subst e
    exact a1 hb
  · have e := List.mem_singleton.mp hm
    subst e
    rcases a4 with g | ⟨g, -⟩
    · have := m_at_lt hd
      omega
    · exact g hb
