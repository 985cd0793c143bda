/-! A sign, a text, a target, on both sides. -/
/-- both sides read on at a place -/
def St (t : Nat → Nat) (L : Nat) (T : tT) (S : mS) (p : Nat) (g : Nat → Int32) : Prop := Tc t L T ∧ Tp t L S ∧ p ≤ L ∧ g 2 = Int32.ofNat p ∧ S.1 4 = Int32.ofNat p ∧ S.1 5 = 0
/-- the reference knows that it failed -/
def Dd (S : mS) (f : Nat) : Prop := S.1 5 = 1 ∧ S.1 6 = Int32.ofNat f
/-- a text's signs -/
def txs (x : Nat) (cs : List Nat) : Prop := xlen x = some (Int32.ofNat cs.length) ∧ (∀ k, k < cs.length → xchr x (Int32.ofNat k) = some (Int32.ofNat (cs.getD k 0))) ∧ (∀ k, k < cs.length → 0 < cs.getD k 0 ∧ cs.getD k 0 < 127) ∧ cs.length < 100
section
variable {T : tT} {S S' : mS} {t : Nat → Nat} {L p F k c m : Nat} {g g' : Nat → Int32} {r : Option Nat × Option Nat × Option Nat} {K : List Nat}
theorem St.step (h : St t L T S p g) (hp : k ≤ L) (h2 : g' 2 = Int32.ofNat k) (h4 : S'.1 4 = Int32.ofNat k) (h5 : S'.1 5 = 0) (f : Fs K S S') (n2 : ¬ 2 ∈ K) : St t L T S' k g' := ⟨h.1, h.2.1.fs f n2, hp, h2, h4, h5⟩
theorem St.keep (h : St t L T S p g) (h2 : g' 2 = g 2) (f : Fs K S S') (n2 : ¬ 2 ∈ K) (n4 : ¬ 4 ∈ K) (n5 : ¬ 5 ∈ K) : St t L T S' p g' := ⟨h.1, h.2.1.fs f n2, h.2.2.1, h2.trans h.2.2.2.1, (f.1 4 n4).trans h.2.2.2.2.1, (f.1 5 n5).trans h.2.2.2.2.2⟩
theorem hc_lt (h : hc t L p = c) (c0 : 0 < c) : p < L := by
  by_cases w : p < L
  · exact w
  · unfold hc at h; rw [if_neg w] at h; omega
theorem P_expect (h : St t L T S p g) (c0 : 0 < c) (c1 : c < 127) :
    (hc t L p = c ∧ ∃ g' S', D_c_Reader_expect F 513 (Int32.ofNat c) (kR T L r g) = some (1, kR T L r g') ∧ D_m_expect F (Int32.ofNat c) S = some (1, S') ∧ St t L T S' (p + 1) g' ∧ Gs [2] g g' ∧ Fs [4] S S') ∨
    (∃ f g' S', D_c_Reader_expect F 513 (Int32.ofNat c) (kR T L r g) = some (0, kR T L r g') ∧ D_m_expect F (Int32.ofNat c) S = some (0, S') ∧ g' 3 = Int32.ofNat f ∧ Dd S' f ∧ Gs [3] g g' ∧ Fs [5, 6] S S') := by
  obtain ⟨h1, h2, h3, h4, h5, h6⟩ := id h
  have ec := expect_c (F := F) (r := r) h1 h4 h3 c1
  have em := expect_m (F := F) h2 h5 h3 h6 c0 c1
  by_cases w : hc t L p = c
  · left
    rw [if_pos w] at ec em
    have fs : Fs [4] S (up1 S 4 (Int32.ofNat (p + 1))) := Fs.up1 (by decide)
    exact ⟨w, _, _, ec, em, h.step (hc_lt w c0) fup_eq up1_at ((up1_no (by decide)).trans h6) fs (by decide), Gs.fup (by decide), fs⟩
  · right
    rw [if_neg w] at ec em
    exact ⟨p, _, _, ec, em, fup_eq, ⟨by rw [up1_no (by decide), up1_at], up1_at⟩, Gs.fup (by decide), (Fs.up1 (by decide)).trans (Fs.up1 (by decide))⟩
theorem Fl.expect {f : Nat} (h : Fl t L S f) (h' : Tp t L S) (c0 : 0 < c) (c1 : c < 127) (cd : isD c = false) : ∃ S', D_m_expect F (Int32.ofNat c) S = some (0, S') ∧ Dd S' f ∧ Fs [5, 6] S S' := by
  rcases h with ⟨a1, a2⟩ | ⟨a1, a2, a3, a4⟩
  · exact ⟨S, expect_d a1, ⟨a1, a2⟩, Fs.refl⟩
  · have em := expect_m (F := F) h' a2 (Nat.le_of_lt a3) a1 c0 c1
    rw [if_neg (fun q => by rw [q, cd] at a4; cases a4)] at em
    exact ⟨_, em, ⟨by rw [up1_no (by decide), up1_at], up1_at⟩, (Fs.up1 (by decide)).trans (Fs.up1 (by decide))⟩
theorem Dd.expect {f : Nat} (h : Dd S f) {x : Int32} : D_m_expect F x S = some (0, S) := expect_d h.1
theorem Dd.fs {f : Nat} (h : Dd S f) (fs : Fs K S S') (n5 : ¬ 5 ∈ K) (n6 : ¬ 6 ∈ K) : Dd S' f := ⟨(fs.1 5 n5).trans h.1, (fs.1 6 n6).trans h.2⟩
theorem Fl.fs {f : Nat} (h : Fl t L S f) (fs : Fs K S S') (n4 : ¬ 4 ∈ K) (n5 : ¬ 5 ∈ K) (n6 : ¬ 6 ∈ K) : Fl t L S' f := by
  rcases h with ⟨a1, a2⟩ | ⟨a1, a2, a3, a4⟩
  · exact Or.inl ⟨(fs.1 5 n5).trans a1, (fs.1 6 n6).trans a2⟩
  · exact Or.inr ⟨(fs.1 5 n5).trans a1, (fs.1 4 n4).trans a2, a3, a4⟩
/-- a text: the class may have more to read than the reference -/
theorem P_text {x y : Nat} {cs cx : List Nat} (hx : txs x cx) (hy : txs y cs) (hl : cs.length ≤ cx.length) (he : ∀ k, k < cs.length → cx.getD k 0 = cs.getD k 0) : ∀ (n k p : Nat) (g : Nat → Int32) (S : mS), k + n = cs.length → St t L T S p g → ∀ f f2, cx.length - k < f → n < f2 →
    (∃ g' S' f', cx.length - cs.length < f' ∧ D_c_Reader_expectText_2 F f 513 x (Int32.ofNat k) (kR T L r g) = D_c_Reader_expectText_2 F f' 513 x (Int32.ofNat cs.length) (kR T L r g') ∧ D_m_expectWord_2 F f2 y (Int32.ofNat k) S = some (1, S') ∧ St t L T S' (p + n) g' ∧ Gs [2] g g' ∧ Fs [4] S S') ∨
    (∃ f0 g' S', D_c_Reader_expectText_2 F f 513 x (Int32.ofNat k) (kR T L r g) = some (0, kR T L r g') ∧ D_m_expectWord_2 F f2 y (Int32.ofNat k) S = some (0, S') ∧ g' 3 = Int32.ofNat f0 ∧ Dd S' f0 ∧ Gs [2, 3] g g' ∧ Fs [4, 5, 6] S S') := by
  obtain ⟨x1, x2, x3, x4⟩ := hx
  obtain ⟨y1, y2, y3, y4⟩ := hy
  intro n
  induction n with
  | zero =>
    intro k p g S hk h f f2 hf hf2
    left
    have hk' : k = cs.length := by omega
    obtain ⟨f2, rfl⟩ : ∃ y, f2 = y + 1 := ⟨f2 - 1, by omega⟩
    refine ⟨g, S, f, by omega, by rw [hk'], ?_, h, Gs.refl, Fs.refl⟩
    conv => lhs; unfold D_m_expectWord_2
    rw [y1, Option.bind_some, ge_n (by omega) (by omega), decide_eq_true (by omega), cond_true]
  | succ n ih =>
    intro k p g S hk h f f2 hf hf2
    obtain ⟨f, rfl⟩ : ∃ y, f = y + 1 := ⟨f - 1, by omega⟩
    obtain ⟨f2, rfl⟩ : ∃ y, f2 = y + 1 := ⟨f2 - 1, by omega⟩
    have kl : k < cs.length := by omega
    have e1 : Int32.ofNat k + Int32.ofInt 1 = Int32.ofNat (k + 1) := m_n_add k 1
    have sc : D_c_Reader_expectText_2 F (f + 1) 513 x (Int32.ofNat k) (kR T L r g) = bd2 (D_c_Reader_expect F 513 (Int32.ofNat (cs.getD k 0)) (kR T L r g)) fun v12 T13 => cond (m_c1 .ne v12) (D_c_Reader_expectText_2 F f 513 x (Int32.ofNat (k + 1)) T13) (some ((0 : Int32), T13)) := by
      conv => lhs; unfold D_c_Reader_expectText_2
      rw [x1, Option.bind_some, ge_n (by omega) (by omega), decide_eq_false (by omega), cond_false, x2 k (by omega), he k kl, Option.bind_some, Kcl, Option.bind_some, e1]
    have sm' : D_m_expectWord_2 F (f2 + 1) y (Int32.ofNat k) S = (D_m_expect F (Int32.ofNat (cs.getD k 0)) S).bind fun q6 => cond (m_c1 .ne q6.1) (D_m_expectWord_2 F f2 y (Int32.ofNat (k + 1)) q6.2) (some ((0 : Int32), q6.2)) := by
      conv => lhs; unfold D_m_expectWord_2
      rw [y1, Option.bind_some, ge_n (by omega) (by omega), decide_eq_false (by omega), cond_false, y2 k kl, Option.bind_some, e1]
    rw [sc, sm']
    rcases P_expect (F := F) (r := r) h (y3 k kl).1 (y3 k kl).2 with ⟨w, g1, S1, a1, a2, a3, a4, a5⟩ | ⟨f0, g1, S1, a1, a2, a3, a4, a5, a6⟩
    · have b1 : (bd2 (D_c_Reader_expect F 513 (Int32.ofNat (cs.getD k 0)) (kR T L r g)) fun v12 T13 => cond (m_c1 .ne v12) (D_c_Reader_expectText_2 F f 513 x (Int32.ofNat (k + 1)) T13) (some ((0 : Int32), T13))) = D_c_Reader_expectText_2 F f 513 x (Int32.ofNat (k + 1)) (kR T L r g1) := by rw [a1]; rfl
      have b2 : ((D_m_expect F (Int32.ofNat (cs.getD k 0)) S).bind fun q6 => cond (m_c1 .ne q6.1) (D_m_expectWord_2 F f2 y (Int32.ofNat (k + 1)) q6.2) (some ((0 : Int32), q6.2))) = D_m_expectWord_2 F f2 y (Int32.ofNat (k + 1)) S1 := by rw [a2]; rfl
      rw [b1, b2]
      rcases ih (k + 1) (p + 1) g1 S1 (by omega) a3 f f2 (by omega) (by omega) with ⟨g2, S2, f', d0, d1, d2, d3, d4, d5⟩ | ⟨f0, g2, S2, d1, d2, d3, d4, d5, d6⟩
      · left
        exact ⟨g2, S2, f', d0, d1, d2, by rw [show p + (n + 1) = p + 1 + n by omega]; exact d3, a4.trans d4, a5.trans d5⟩
      · right
        exact ⟨f0, g2, S2, d1, d2, d3, d4, (a4.mono (by decide)).trans d5, (a5.mono (by decide)).trans d6⟩
    · right
      refine ⟨f0, g1, S1, by rw [a1]; rfl, by rw [a2]; rfl, a3, a4, a5.mono (by decide), a6.mono (by decide)⟩
/-- a text that is the same on both sides -/
theorem P_word {x y : Nat} {cs : List Nat} (hx : txs x cs) (hy : txs y cs) (h : St t L T S p g) (hF : 100 < F) :
    (∃ g' S', D_c_Reader_expectText F 513 x (kR T L r g) = some (1, kR T L r g') ∧ D_m_expectWord F y S = some (1, S') ∧ St t L T S' (p + cs.length) g' ∧ Gs [2] g g' ∧ Fs [4] S S') ∨
    (∃ f0 g' S', D_c_Reader_expectText F 513 x (kR T L r g) = some (0, kR T L r g') ∧ D_m_expectWord F y S = some (0, S') ∧ g' 3 = Int32.ofNat f0 ∧ Dd S' f0 ∧ Gs [2, 3] g g' ∧ Fs [4, 5, 6] S S') := by
  have l1 := hx.2.2.2
  rcases P_text (F := F) (r := r) hx hy (Nat.le_refl _) (fun _ _ => rfl) cs.length 0 p g S (by omega) h F F (by omega) (by omega) with ⟨g2, S2, f', d0, d1, d2, d3, d4, d5⟩ | d
  · left
    refine ⟨g2, S2, ?_, d2, d3, d4, d5⟩
    obtain ⟨f', rfl⟩ : ∃ y, f' = y + 1 := ⟨f' - 1, by omega⟩
    refine d1.trans ?_
    conv => lhs; unfold D_c_Reader_expectText_2
    rw [hx.1, Option.bind_some, ge_n (by omega) (by omega), decide_eq_true (Nat.le_refl _), cond_true]
  · exact Or.inr d
/-- the first word with the blank behind it -/
theorem P_first {x y : Nat} {cs : List Nat} (hx : txs x (cs ++ [32])) (hy : txs y cs) (h : St t L T S p g) (hF : 100 < F) :
    (∃ g' S', D_c_Reader_expectText F 513 x (kR T L r g) = some (1, kR T L r g') ∧ (D_m_expectWord F y S).bind (fun q => (D_m_expect F 32 q.2).bind fun q1 => some q1.2) = some S' ∧ St t L T S' (p + cs.length + 1) g' ∧ Gs [2] g g' ∧ Fs [4] S S') ∨
    (∃ f0 g' S', D_c_Reader_expectText F 513 x (kR T L r g) = some (0, kR T L r g') ∧ (D_m_expectWord F y S).bind (fun q => (D_m_expect F 32 q.2).bind fun q1 => some q1.2) = some S' ∧ g' 3 = Int32.ofNat f0 ∧ Dd S' f0 ∧ Gs [2, 3] g g' ∧ Fs [4, 5, 6] S S') := by
  have l1 := hx.2.2.2
  have l2 : (cs ++ [32]).length = cs.length + 1 := by rw [List.length_append]; rfl
  have ge : ∀ k, k < cs.length → (cs ++ [32]).getD k 0 = cs.getD k 0 := fun k hk => by
    rw [List.getD_eq_getElem?_getD, List.getD_eq_getElem?_getD, List.getElem?_append_left hk]
  have gl : (cs ++ [32]).getD cs.length 0 = 32 := by
    rw [List.getD_eq_getElem?_getD, List.getElem?_append_right (Nat.le_refl _), Nat.sub_self]; rfl
  rcases P_text (F := F) (r := r) hx hy (by omega) ge cs.length 0 p g S (by omega) h F F (by omega) (by omega) with ⟨g2, S2, f', d0, d1, d2, d3, d4, d5⟩ | ⟨f0, g2, S2, d1, d2, d3, d4, d5, d6⟩
  · obtain ⟨f', rfl⟩ : ∃ y, f' = y + 1 := ⟨f' - 1, by omega⟩
    obtain ⟨f', rfl⟩ : ∃ y, f' = y + 1 := ⟨f' - 1, by omega⟩
    have e1 : Int32.ofNat cs.length + Int32.ofInt 1 = Int32.ofNat (cs.length + 1) := m_n_add _ 1
    have c2 : D_c_Reader_expectText F 513 x (kR T L r g) = bd2 (D_c_Reader_expect F 513 (Int32.ofNat 32) (kR T L r g2)) fun v12 T13 => cond (m_c1 .ne v12) (some (1, T13)) (some ((0 : Int32), T13)) := by
      refine d1.trans ?_
      conv => lhs; unfold D_c_Reader_expectText_2
      rw [hx.1, Option.bind_some, ge_n (by omega) (by omega), decide_eq_false (by omega), cond_false, hx.2.1 cs.length (by omega), gl, Option.bind_some, Kcl, Option.bind_some, e1]
      congr 1
      funext v12 T13
      congr 1
      conv => lhs; unfold D_c_Reader_expectText_2
      rw [hx.1, Option.bind_some, ge_n (by omega) (by omega), decide_eq_true (by omega), cond_true]
    have m2 : (D_m_expectWord F y S).bind (fun q => (D_m_expect F 32 q.2).bind fun q1 => some q1.2) = (D_m_expect F (Int32.ofNat 32) S2).bind fun q1 => some q1.2 := by
      rw [show D_m_expectWord F y S = some (1, S2) from d2]; rfl
    rw [c2, m2]
    rcases P_expect (F := F) (r := r) d3 (show 0 < 32 by decide) (show 32 < 127 by decide) with ⟨w, g1, S1, a1, a2, a3, a4, a5⟩ | ⟨f0, g1, S1, a1, a2, a3, a4, a5, a6⟩
    · left
      exact ⟨g1, S1, by rw [a1]; rfl, by rw [a2]; rfl, a3, d4.trans a4, d5.trans a5⟩
    · right
      exact ⟨f0, g1, S1, by rw [a1]; rfl, by rw [a2]; rfl, a3, a4, (d4.mono (by decide)).trans (a5.mono (by decide)), (d5.mono (by decide)).trans (a6.mono (by decide))⟩
  · right
    refine ⟨f0, g2, S2, d1, ?_, d3, d4, d5, d6⟩
    rw [show D_m_expectWord F y S = some (0, S2) from d2, Option.bind_some, d4.expect]
    rfl
end
