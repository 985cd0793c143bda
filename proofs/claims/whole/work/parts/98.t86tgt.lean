/-! A sign, a text, a target, on both sides. -/
/-- both sides read on at a place -/
def St (t : Nat → Nat) (L : Nat) (T : tT) (S : mS) (p : Nat) (g : Nat → Int32) : Prop := Tc t L T ∧ Tp t L S ∧ p ≤ L ∧ g 2 = Int32.ofNat p ∧ S.1 4 = Int32.ofNat p ∧ S.1 5 = 0
/-- the reference knows that it failed -/
def Dd (S : mS) (f : Nat) : Prop := S.1 5 = 1 ∧ S.1 6 = Int32.ofNat f
/-- a text's signs -/
def txs (x : Nat) (cs : List Nat) : Prop := xlen x = some (Int32.ofNat cs.length) ∧ (∀ k, k < cs.length → xchr x (Int32.ofNat k) = some (Int32.ofNat (cs.getD k 0))) ∧ (∀ k, k < cs.length → 0 < cs.getD k 0 ∧ cs.getD k 0 < 127) ∧ cs.length < 100
section
variable {T : tT} {S S' : mS} {t : Nat → Nat} {L p F k c m : Nat} {g g' : Nat → Int32} {r : Option Nat × Option Nat × Option Nat} {K : List Nat}
theorem St.step (h : St t L T S p g) (hp : k ≤ L) (h2 : g' 2 = Int32.ofNat k) (h4 : S'.1 4 = Int32.ofNat k) (h5 : S'.1 5 = 0) (f : Fs K S S') (n2 : ¬ 2 ∈ K) : St t L T S' k g' := ⟨h.1, h.2.1.fs f n2, hp, h2, h4, h5⟩
theorem St.keep (h : St t L T S p g) (h2 : g' 2 = g 2) (f : Fs K S S') (n2 : ¬ 2 ∈ K) (n4 : ¬ 4 ∈ K) (n5 : ¬ 5 ∈ K) : St t L T S' p g' := ⟨h.1, h.2.1.fs f n2, h.2.2.1, h2.trans h.2.2.2.1, (f.1 4 n4).trans h.2.2.2.2.1, (f.1 5 n5).trans h.2.2.2.2.2⟩
theorem hc_lt (h : hc t L p = c) (c0 : 0 < c) : p < L := by
  by_cases w : p < L
  · exact w
  · unfold hc at h; rw [if_neg w] at h; omega
theorem P_expect (h : St t L T S p g) (c0 : 0 < c) (c1 : c < 127) :
    (hc t L p = c ∧ ∃ g' S', D_c_Reader_expect F 513 (Int32.ofNat c) (kR T L r g) = some (1, kR T L r g') ∧ D_m_expect F (Int32.ofNat c) S = some (1, S') ∧ St t L T S' (p + 1) g' ∧ Gs [2] g g' ∧ Fs [4] S S') ∨
    (∃ f g' S', D_c_Reader_expect F 513 (Int32.ofNat c) (kR T L r g) = some (0, kR T L r g') ∧ D_m_expect F (Int32.ofNat c) S = some (0, S') ∧ g' 3 = Int32.ofNat f ∧ Dd S' f ∧ Gs [3] g g' ∧ Fs [5, 6] S S') := by
  obtain ⟨h1, h2, h3, h4, h5, h6⟩ := id h
  have ec := expect_c (F := F) (r := r) h1 h4 h3 c1
  have em := expect_m (F := F) h2 h5 h3 h6 c0 c1
  by_cases w : hc t L p = c
  · left
    rw [if_pos w] at ec em
    have fs : Fs [4] S (up1 S 4 (Int32.ofNat (p + 1))) := Fs.up1 (by decide)
    exact ⟨w, _, _, ec, em, h.step (hc_lt w c0) fup_eq up1_at ((up1_no (by decide)).trans h6) fs (by decide), Gs.fup (by decide), fs⟩
  · right
    rw [if_neg w] at ec em
    exact ⟨p, _, _, ec, em, fup_eq, ⟨by rw [up1_no (by decide), up1_at], up1_at⟩, Gs.fup (by decide), (Fs.up1 (by decide)).trans (Fs.up1 (by decide))⟩
theorem Fl.expect {f : Nat} (h : Fl t L S f) (h' : Tp t L S) (c0 : 0 < c) (c1 : c < 127) (cd : isD c = false) : ∃ S', D_m_expect F (Int32.ofNat c) S = some (0, S') ∧ Dd S' f ∧ Fs [5, 6] S S' := by
  rcases h with ⟨a1, a2⟩ | ⟨a1, a2, a3, a4⟩
  · exact ⟨S, expect_d a1, ⟨a1, a2⟩, Fs.refl⟩
  · have em := expect_m (F := F) h' a2 (Nat.le_of_lt a3) a1 c0 c1
    rw [if_neg (fun q => by rw [q, cd] at a4; cases a4)] at em
    exact ⟨_, em, ⟨by rw [up1_no (by decide), up1_at], up1_at⟩, (Fs.up1 (by decide)).trans (Fs.up1 (by decide))⟩
theorem Dd.expect {f : Nat} (h : Dd S f) {x : Int32} : D_m_expect F x S = some (0, S) := expect_d h.1
theorem Dd.fs {f : Nat} (h : Dd S f) (fs : Fs K S S') (n5 : ¬ 5 ∈ K) (n6 : ¬ 6 ∈ K) : Dd S' f := ⟨(fs.1 5 n5).trans h.1, (fs.1 6 n6).trans h.2⟩
theorem Fl.fs {f : Nat} (h : Fl t L S f) (fs : Fs K S S') (n4 : ¬ 4 ∈ K) (n5 : ¬ 5 ∈ K) (n6 : ¬ 6 ∈ K) : Fl t L S' f := by
  rcases h with ⟨a1, a2⟩ | ⟨a1, a2, a3, a4⟩
  · exact Or.inl ⟨(fs.1 5 n5).trans a1, (fs.1 6 n6).trans a2⟩
  · exact Or.inr ⟨(fs.1 5 n5).trans a1, (fs.1 4 n4).trans a2, a3, a4⟩
/-- a text: the class may have more to read than the reference -/
theorem P_text {x y : Nat} {cs cx : List Nat} (hx : txs x cx) (hy : txs y cs) (hl : cs.length ≤ cx.length) (he : ∀ k, k < cs.length → cx.getD k 0 = cs.getD k 0) : ∀ (n k p : Nat) (g : Nat → Int32) (S : mS), k + n = cs.length → St t L T S p g → ∀ f f2, cx.length - k < f → n < f2 →
    (∃ g' S' f', cx.length - cs.length < f' ∧ D_c_Reader_expectText_2 F f 513 x (Int32.ofNat k) (kR T L r g) = D_c_Reader_expectText_2 F f' 513 x (Int32.ofNat cs.length) (kR T L r g') ∧ D_m_expectWord_2 F f2 y (Int32.ofNat k) S = some (1, S') ∧ St t L T S' (p + n) g' ∧ Gs [2] g g' ∧ Fs [4] S S') ∨
    (∃ f0 g' S', D_c_Reader_expectText_2 F f 513 x (Int32.ofNat k) (kR T L r g) = some (0, kR T L r g') ∧ D_m_expectWord_2 F f2 y (Int32.ofNat k) S = some (0, S') ∧ g' 3 = Int32.ofNat f0 ∧ Dd S' f0 ∧ Gs [2, 3] g g' ∧ Fs [4, 5, 6] S S') := by
  obtain ⟨x1, x2, x3, x4⟩ := hx
  obtain ⟨y1, y2, y3, y4⟩ := hy
  intro n
  induction n with
  | zero =>
    intro k p g S hk h f f2 hf hf2
    left
    have hk' : k = cs.length := by omega
    obtain ⟨f2, rfl⟩ : ∃ y, f2 = y + 1 := ⟨f2 - 1, by omega⟩
    refine ⟨g, S, f, by omega, by rw [hk'], ?_, h, Gs.refl, Fs.refl⟩
    conv => lhs; unfold D_m_expectWord_2
    rw [y1, Option.bind_some, ge_n (by omega) (by omega), decide_eq_true (by omega), cond_true]
  | succ n ih =>
    intro k p g S hk h f f2 hf hf2
    obtain ⟨f, rfl⟩ : ∃ y, f = y + 1 := ⟨f - 1, by omega⟩
    obtain ⟨f2, rfl⟩ : ∃ y, f2 = y + 1 := ⟨f2 - 1, by omega⟩
    have kl : k < cs.length := by omega
    have e1 : Int32.ofNat k + Int32.ofInt 1 = Int32.ofNat (k + 1) := m_n_add k 1
    have sc : D_c_Reader_expectText_2 F (f + 1) 513 x (Int32.ofNat k) (kR T L r g) = bd2 (D_c_Reader_expect F 513 (Int32.ofNat (cs.getD k 0)) (kR T L r g)) fun v12 T13 => cond (m_c1 .ne v12) (D_c_Reader_expectText_2 F f 513 x (Int32.ofNat (k + 1)) T13) (some ((0 : Int32), T13)) := by
      conv => lhs; unfold D_c_Reader_expectText_2
      rw [x1, Option.bind_some, ge_n (by omega) (by omega), decide_eq_false (by omega), cond_false, x2 k (by omega), he k kl, Option.bind_some, Kcl, Option.bind_some, e1]
    have sm' : D_m_expectWord_2 F (f2 + 1) y (Int32.ofNat k) S = (D_m_expect F (Int32.ofNat (cs.getD k 0)) S).bind fun q6 => cond (m_c1 .ne q6.1) (D_m_expectWord_2 F f2 y (Int32.ofNat (k + 1)) q6.2) (some ((0 : Int32), q6.2)) := by
      conv => lhs; unfold D_m_expectWord_2
      rw [y1, Option.bind_some, ge_n (by omega) (by omega), decide_eq_false (by omega), cond_false, y2 k kl, Option.bind_some, e1]
    rw [sc, sm']
    rcases P_expect (F := F) (r := r) h (y3 k kl).1 (y3 k kl).2 with ⟨w, g1, S1, a1, a2, a3, a4, a5⟩ | ⟨f0, g1, S1, a1, a2, a3, a4, a5, a6⟩
    · have b1 : (bd2 (D_c_Reader_expect F 513 (Int32.ofNat (cs.getD k 0)) (kR T L r g)) fun v12 T13 => cond (m_c1 .ne v12) (D_c_Reader_expectText_2 F f 513 x (Int32.ofNat (k + 1)) T13) (some ((0 : Int32), T13))) = D_c_Reader_expectText_2 F f 513 x (Int32.ofNat (k + 1)) (kR T L r g1) := by rw [a1]; rfl
      have b2 : ((D_m_expect F (Int32.ofNat (cs.getD k 0)) S).bind fun q6 => cond (m_c1 .ne q6.1) (D_m_expectWord_2 F f2 y (Int32.ofNat (k + 1)) q6.2) (some ((0 : Int32), q6.2))) = D_m_expectWord_2 F f2 y (Int32.ofNat (k + 1)) S1 := by rw [a2]; rfl
      rw [b1, b2]
      rcases ih (k + 1) (p + 1) g1 S1 (by omega) a3 f f2 (by omega) (by omega) with ⟨g2, S2, f', d0, d1, d2, d3, d4, d5⟩ | ⟨f0, g2, S2, d1, d2, d3, d4, d5, d6⟩
      · left
        exact ⟨g2, S2, f', d0, d1, d2, by rw [show p + (n + 1) = p + 1 + n by omega]; exact d3, a4.trans d4, a5.trans d5⟩
      · right
        exact ⟨f0, g2, S2, d1, d2, d3, d4, (a4.mono (by decide)).trans d5, (a5.mono (by decide)).trans d6⟩
    · right
      refine ⟨f0, g1, S1, by rw [a1]; rfl, by rw [a2]; rfl, a3, a4, a5.mono (by decide), a6.mono (by decide)⟩
/-- a text that is the same on both sides -/
theorem P_word {x y : Nat} {cs : List Nat} (hx : txs x cs) (hy : txs y cs) (h : St t L T S p g) (hF : 100 < F) :
    (∃ g' S', D_c_Reader_expectText F 513 x (kR T L r g) = some (1, kR T L r g') ∧ D_m_expectWord F y S = some (1, S') ∧ St t L T S' (p + cs.length) g' ∧ Gs [2] g g' ∧ Fs [4] S S') ∨
    (∃ f0 g' S', D_c_Reader_expectText F 513 x (kR T L r g) = some (0, kR T L r g') ∧ D_m_expectWord F y S = some (0, S') ∧ g' 3 = Int32.ofNat f0 ∧ Dd S' f0 ∧ Gs [2, 3] g g' ∧ Fs [4, 5, 6] S S') := by
  have l1 := hx.2.2.2
  rcases P_text (F := F) (r := r) hx hy (Nat.le_refl _) (fun _ _ => rfl) cs.length 0 p g S (by omega) h F F (by omega) (by omega) with ⟨g2, S2, f', d0, d1, d2, d3, d4, d5⟩ | d
  · left
    refine ⟨g2, S2, ?_, d2, d3, d4, d5⟩
    obtain ⟨f', rfl⟩ : ∃ y, f' = y + 1 := ⟨f' - 1, by omega⟩
    refine d1.trans ?_
    conv => lhs; unfold D_c_Reader_expectText_2
    rw [hx.1, Option.bind_some, ge_n (by omega) (by omega), decide_eq_true (Nat.le_refl _), cond_true]
  · exact Or.inr d
/-- the first word with the blank behind it; the reference may note something between -/
theorem P_first {x y : Nat} {cs : List Nat} {u : mS → mS} (hu : ∀ S, Fs [16] S (u S)) (hx : txs x (cs ++ [32])) (hy : txs y cs) (h : St t L T S p g) (hF : 100 < F) :
    (∃ g' S' S0, D_c_Reader_expectText F 513 x (kR T L r g) = some (1, kR T L r g') ∧ (D_m_expectWord F y S).bind (fun q => (D_m_expect F 32 (u q.2)).bind fun q1 => some q1.2) = some S' ∧ St t L T S' (p + cs.length + 1) g' ∧ Gs [2] g g' ∧ Fs [4, 16] S S' ∧ Fs [4] S S0 ∧ S'.1 16 = (u S0).1 16) ∨
    (∃ f0 g' S', D_c_Reader_expectText F 513 x (kR T L r g) = some (0, kR T L r g') ∧ (D_m_expectWord F y S).bind (fun q => (D_m_expect F 32 (u q.2)).bind fun q1 => some q1.2) = some S' ∧ g' 3 = Int32.ofNat f0 ∧ Dd S' f0 ∧ Gs [2, 3] g g' ∧ Fs [4, 5, 6, 16] S S') := by
  have l1 := hx.2.2.2
  have l2 : (cs ++ [32]).length = cs.length + 1 := by rw [List.length_append]; rfl
  have ge : ∀ k, k < cs.length → (cs ++ [32]).getD k 0 = cs.getD k 0 := fun k hk => by
    rw [List.getD_eq_getElem?_getD, List.getD_eq_getElem?_getD, List.getElem?_append_left hk]
  have gl : (cs ++ [32]).getD cs.length 0 = 32 := by
    rw [List.getD_eq_getElem?_getD, List.getElem?_append_right (Nat.le_refl _), Nat.sub_self]; rfl
  rcases P_text (F := F) (r := r) hx hy (by omega) ge cs.length 0 p g S (by omega) h F F (by omega) (by omega) with ⟨g2, S2, f', d0, d1, d2, d3, d4, d5⟩ | ⟨f0, g2, S2, d1, d2, d3, d4, d5, d6⟩
  · obtain ⟨f', rfl⟩ : ∃ y, f' = y + 1 := ⟨f' - 1, by omega⟩
    obtain ⟨f', rfl⟩ : ∃ y, f' = y + 1 := ⟨f' - 1, by omega⟩
    have e1 : Int32.ofNat cs.length + Int32.ofInt 1 = Int32.ofNat (cs.length + 1) := m_n_add _ 1
    have c2 : D_c_Reader_expectText F 513 x (kR T L r g) = bd2 (D_c_Reader_expect F 513 (Int32.ofNat 32) (kR T L r g2)) fun v12 T13 => cond (m_c1 .ne v12) (some (1, T13)) (some ((0 : Int32), T13)) := by
      refine d1.trans ?_
      conv => lhs; unfold D_c_Reader_expectText_2
      rw [hx.1, Option.bind_some, ge_n (by omega) (by omega), decide_eq_false (by omega), cond_false, hx.2.1 cs.length (by omega), gl, Option.bind_some, Kcl, Option.bind_some, e1]
      congr 1
      funext v12 T13
      congr 1
      conv => lhs; unfold D_c_Reader_expectText_2
      rw [hx.1, Option.bind_some, ge_n (by omega) (by omega), decide_eq_true (by omega), cond_true]
    have m2 : (D_m_expectWord F y S).bind (fun q => (D_m_expect F 32 (u q.2)).bind fun q1 => some q1.2) = (D_m_expect F (Int32.ofNat 32) (u S2)).bind fun q1 => some q1.2 := by
      rw [show D_m_expectWord F y S = some (1, S2) from d2]; rfl
    rw [c2, m2]
    have fu := hu S2
    rcases P_expect (F := F) (r := r) (d3.keep (g' := g2) rfl fu (by decide) (by decide) (by decide)) (show 0 < 32 by decide) (show 32 < 127 by decide) with ⟨w, g1, S1, a1, a2, a3, a4, a5⟩ | ⟨f0, g1, S1, a1, a2, a3, a4, a5, a6⟩
    · left
      exact ⟨g1, S1, S2, by rw [a1]; rfl, by rw [a2]; rfl, a3, d4.trans a4, (d5.mono (by decide)).trans ((fu.mono (by decide)).trans (a5.mono (by decide))), d5, a5.1 16 (by decide)⟩
    · right
      exact ⟨f0, g1, S1, by rw [a1]; rfl, by rw [a2]; rfl, a3, a4, (d4.mono (by decide)).trans (a5.mono (by decide)), (d5.mono (by decide)).trans ((fu.mono (by decide)).trans (a6.mono (by decide)))⟩
  · right
    have fu := hu S2
    have d4' : Dd (u S2) f0 := d4.fs fu (by decide) (by decide)
    refine ⟨f0, g2, u S2, d1, ?_, d3, d4', d5, (d6.mono (by decide)).trans (fu.mono (by decide))⟩
    rw [show D_m_expectWord F y S = some (0, S2) from d2, Option.bind_some, d4'.expect]
    rfl
/-- what the reference does of a target behind the blank -/
def tgB (F : Nat) (a0 : Int32) (S9 : mS) : Option mS := cond (m_c1 .ne (S9.1 5)) (D_m_target_68 F S9) (cond (m_c1 .eq a0) (D_m_target_68 F S9) ((D_m_see F S9).bind fun v19 => cond (m_c2 .ne v19 (47 : Int32)) (D_m_target_68 F S9) ((fput S9 4 ((S9.1 4) + (1 : Int32))).bind fun S25 => (D_m_number F (3 : Int32) S25).bind fun q27 => (fput q27.2 8 q27.1).bind fun S29 => D_m_target_68 F S29)))
def tgA (F : Nat) (a0 : Int32) (S : mS) : Option mS := (D_m_expect F (47 : Int32) S).bind fun q3 => (D_m_number F (31 : Int32) q3.2).bind fun q5 => tgB F a0 (up1 (up1 q5.2 7 q5.1) 8 0)
theorem tg_eq {a0 : Int32} : D_m_target F a0 S = (D_m_expect F (32 : Int32) S).bind fun q1 => tgA F a0 q1.2 := rfl
theorem number_d {x : Int32} (h : S.1 5 = 1) : D_m_number F x S = some (-1, S) := by
  unfold D_m_number
  rw [h]
  rfl
theorem tgB_fl {f : Nat} {a0 : Int32} (h : Fl t L S f) (h' : Tp t L S) : ∃ S', tgB F a0 S = some S' ∧ Dd S' f ∧ Fs [5, 6] S S' := by
  obtain ⟨S', e1, e2, e3⟩ := h.expect (F := F) h' (show 0 < 10 by decide) (show 10 < 127 by decide) rfl
  have e4 : D_m_target_68 F S = some S' := by unfold D_m_target_68; rw [show (10 : Int32) = Int32.ofNat 10 from rfl, e1]; rfl
  refine ⟨S', ?_, e2, e3⟩
  unfold tgB
  rcases h with ⟨a1, a2⟩ | ⟨a1, a2, a3, a4⟩
  · rw [a1]; exact e4
  · have ne : ¬ hc t L f = 47 := fun q => by rw [q] at a4; cases a4
    rw [a1, show m_c1 .ne (0 : Int32) = false from rfl, cond_false, see_v h' a2 (Nat.le_of_lt a3), Option.bind_some, show (47 : Int32) = Int32.ofNat 47 from rfl, sv_ne h' (by decide) (by decide), decide_eq_true ne, cond_true, e4]
    cases m_c1 .eq a0 <;> rfl
theorem tg74 (h : St t L T S p g) :
    (∃ g' S', D_c_Reader_readTarget_74 F 513 (kR T L r g) = some (1, kR T L r g') ∧ D_m_target_68 F S = some S' ∧ St t L T S' (p + 1) g' ∧ Gs [2] g g' ∧ Fs [4] S S') ∨
    (∃ f0 g' S', D_c_Reader_readTarget_74 F 513 (kR T L r g) = some (0, kR T L r g') ∧ D_m_target_68 F S = some S' ∧ g' 3 = Int32.ofNat f0 ∧ Dd S' f0 ∧ Gs [3] g g' ∧ Fs [5, 6] S S') := by
  unfold D_c_Reader_readTarget_74 D_m_target_68
  rw [Kcl, Option.bind_some]
  rcases P_expect (F := F) (r := r) h (show 0 < 10 by decide) (show 10 < 127 by decide) with ⟨w, g1, S1, a1, a2, a3, a4, a5⟩ | ⟨f0, g1, S1, a1, a2, a3, a4, a5, a6⟩
  · left
    refine ⟨g1, S1, ?_, ?_, a3, a4, a5⟩
    · rw [show (10 : Int32) = Int32.ofNat 10 from rfl, a1]; rfl
    · rw [show (10 : Int32) = Int32.ofNat 10 from rfl, a2]; rfl
  · right
    refine ⟨f0, g1, S1, ?_, ?_, a3, a4, a5, a6⟩
    · rw [show (10 : Int32) = Int32.ofNat 10 from rfl, a1]; rfl
    · rw [show (10 : Int32) = Int32.ofNat 10 from rfl, a2]; rfl
theorem Kp10 {x : Int32} : tpi (kR T L r g) 513 1 10 x = some (kR T L r (fup g 10 x)) := (Wp10 kR_at).trans (by rw [kR_set])
theorem Kp11 {x : Int32} : tpi (kR T L r g) 513 1 11 x = some (kR T L r (fup g 11 x)) := (Wp11 kR_at).trans (by rw [kR_set])
theorem P_target {b : Bool} (h : St t L T S p g) (hF : 5 < F) :
    (∃ p' pa va g' S', D_c_Reader_readTarget F 513 (b2i b) (kR T L r g) = some (1, kR T L r g') ∧ tgA F (b2i b) S = some S' ∧ St t L T S' p' g' ∧ p < p' ∧ pa ≤ 31 ∧ va ≤ 3 ∧ (b = false → va = 0) ∧ g' 10 = Int32.ofNat pa ∧ S'.1 7 = Int32.ofNat pa ∧ g' 11 = Int32.ofNat va ∧ S'.1 8 = Int32.ofNat va ∧ Gs [2, 9, 10, 11] g g' ∧ Fs [4, 7, 8] S S') ∨
    (∃ f0 g' S', D_c_Reader_readTarget F 513 (b2i b) (kR T L r g) = some (0, kR T L r g') ∧ tgA F (b2i b) S = some S' ∧ g' 3 = Int32.ofNat f0 ∧ Dd S' f0 ∧ Gs [2, 3, 9, 10, 11] g g' ∧ Fs [4, 5, 6, 7, 8] S S') := by
  rcases P_expect (F := F) (r := r) h (show 0 < 47 by decide) (show 47 < 127 by decide) with ⟨w, g1, S1, a1, a2, a3, a4, a5⟩ | ⟨f0, g1, S1, a1, a2, a3, a4, a5, a6⟩
  · have mA : tgA F (b2i b) S = (D_m_number F (Int32.ofNat 31) S1).bind fun q5 => tgB F (b2i b) (up1 (up1 q5.2 7 q5.1) 8 0) := by
      unfold tgA
      rw [show (47 : Int32) = Int32.ofNat 47 from rfl, a2]; rfl
    rcases P_number (F := F) (r := r) (m := 31) a3.1 a3.2.1 a3.2.2.1 (by decide) a3.2.2.2.1 a3.2.2.2.2.1 a3.2.2.2.2.2 hF with ⟨q, v, g2, S2, b1, b2, b3, b4, b5, b6, b7, b8, b9, b10, b11, b12⟩ | ⟨f, z, g2, S2, b1, b2, b3, b4, b5, b6⟩
    · obtain ⟨g3, hg3⟩ : ∃ z, z = fup (fup g2 10 (Int32.ofNat v)) 11 0 := ⟨_, rfl⟩
      obtain ⟨S3, hS3⟩ : ∃ z, z = up1 (up1 S2 7 (Int32.ofNat v)) 8 0 := ⟨_, rfl⟩
      have gs3 : Gs [10, 11] g2 g3 := by rw [hg3]; exact (Gs.fup (by decide)).trans (Gs.fup (by decide))
      have fs3 : Fs [7, 8] S2 S3 := by rw [hS3]; exact (Fs.up1 (by decide)).trans (Fs.up1 (by decide))
      have st2 : St t L T S2 q g2 := a3.step b7 b3 b5 ((b12.1 5 (by decide)).trans a3.2.2.2.2.2) b12 (by decide)
      have st3 : St t L T S3 q g3 := st2.keep (gs3 2 (by decide)) fs3 (by decide) (by decide) (by decide)
      have g310 : g3 10 = Int32.ofNat v := by rw [hg3]; exact (fup_ne (by decide)).trans fup_eq
      have g311 : g3 11 = Int32.ofNat 0 := by rw [hg3]; exact fup_eq
      have s37 : S3.1 7 = Int32.ofNat v := by rw [hS3]; exact (up1_no (by decide)).trans up1_at
      have s38 : S3.1 8 = Int32.ofNat 0 := by rw [hS3]; exact up1_at
      have G1 : Gs [2, 9, 10, 11] g g3 := ((a4.mono (by decide)).trans (b11.mono (by decide))).trans (gs3.mono (by decide))
      have F1 : Fs [4, 7, 8] S S3 := ((a5.mono (by decide)).trans (b12.mono (by decide))).trans (fs3.mono (by decide))
      have mB : tgA F (b2i b) S = tgB F (b2i b) S3 := by rw [mA, b2, hS3]; rfl
      have cB : D_c_Reader_readTarget F 513 (b2i b) (kR T L r g) = cond (!b) (D_c_Reader_readTarget_74 F 513 (kR T L r g3)) (cond (decide (¬ hc t L q = 47)) (D_c_Reader_readTarget_74 F 513 (kR T L r g3)) ((tpi (kR T L r g3) 513 1 2 (Int32.ofNat q + (1 : Int32))).bind fun T46 => (tcl T46 513 1).bind fun _ => bd2 (D_c_Reader_readNumber F 513 (3 : Int32) T46) fun v53 T54 => cond (m_c1 .ne v53) ((tgi T54 513 1 9).bind fun v60 => (tpi T54 513 1 11 v60).bind fun T63 => D_c_Reader_readTarget_74 F 513 T63) (some ((0 : Int32), T54)))) := by
        unfold D_c_Reader_readTarget
        rw [Kcl, Option.bind_some, show (47 : Int32) = Int32.ofNat 47 from rfl, a1]
        simp only [bd2, Option.bind_some, show m_c1 .eq (1 : Int32) = false from rfl, cond_false, Kcl]
        rw [show (31 : Int32) = Int32.ofNat 31 from rfl, b1]
        simp only [bd2, Option.bind_some, show m_c1 .ne (1 : Int32) = true from rfl, cond_true, Kcl, Kg9, b4, Kp10, Kp11, ← hg3, b_eq0, here_v st3.1 st3.2.2.2.1 st3.2.2.1, Kg2, st3.2.2.2.1]
        rw [ne_n (by have := st3.1.lt (p := q); omega) (by decide)]
      have mC : tgB F (b2i b) S3 = cond (!b) (D_m_target_68 F S3) (cond (decide (¬ hc t L q = 47)) (D_m_target_68 F S3) ((D_m_number F (Int32.ofNat 3) (up1 S3 4 (Int32.ofNat q + 1))).bind fun q27 => D_m_target_68 F (up1 q27.2 8 q27.1))) := by
        unfold tgB
        rw [st3.2.2.2.2.2, show m_c1 .ne (0 : Int32) = false from rfl, cond_false, b_eq0, see_v st3.2.1 st3.2.2.2.2.1 st3.2.2.1, Option.bind_some, show (47 : Int32) = Int32.ofNat 47 from rfl, sv_ne st3.2.1 (by decide) (by decide), st3.2.2.2.2.1]
        rfl
      have fin : ∀ (g4 : Nat → Int32) (S4 : mS) (p4 va : Nat), St t L T S4 p4 g4 → p < p4 → va ≤ 3 → (b = false → va = 0) → g4 10 = Int32.ofNat v → S4.1 7 = Int32.ofNat v → g4 11 = Int32.ofNat va → S4.1 8 = Int32.ofNat va → Gs [2, 9, 10, 11] g g4 → Fs [4, 7, 8] S S4 → D_c_Reader_readTarget F 513 (b2i b) (kR T L r g) = D_c_Reader_readTarget_74 F 513 (kR T L r g4) → tgA F (b2i b) S = D_m_target_68 F S4 → (∃ p' pa va g' S', D_c_Reader_readTarget F 513 (b2i b) (kR T L r g) = some (1, kR T L r g') ∧ tgA F (b2i b) S = some S' ∧ St t L T S' p' g' ∧ p < p' ∧ pa ≤ 31 ∧ va ≤ 3 ∧ (b = false → va = 0) ∧ g' 10 = Int32.ofNat pa ∧ S'.1 7 = Int32.ofNat pa ∧ g' 11 = Int32.ofNat va ∧ S'.1 8 = Int32.ofNat va ∧ Gs [2, 9, 10, 11] g g' ∧ Fs [4, 7, 8] S S') ∨
    (∃ f0 g' S', D_c_Reader_readTarget F 513 (b2i b) (kR T L r g) = some (0, kR T L r g') ∧ tgA F (b2i b) S = some S' ∧ g' 3 = Int32.ofNat f0 ∧ Dd S' f0 ∧ Gs [2, 3, 9, 10, 11] g g' ∧ Fs [4, 5, 6, 7, 8] S S') := by
        intro g4 S4 p4 va c1 c2 c3 c4 c5 c6 c7 c8 c9 c10 c11 c12
        rcases tg74 (F := F) (r := r) c1 with ⟨g5, S5, d1, d2, d3, d4, d5⟩ | ⟨f0, g5, S5, d1, d2, d3, d4, d5, d6⟩
        · left
          exact ⟨p4 + 1, v, va, g5, S5, c11.trans d1, c12.trans d2, d3, by omega, b8, c3, c4, (d4 10 (by decide)).trans c5, (d5.1 7 (by decide)).trans c6, (d4 11 (by decide)).trans c7, (d5.1 8 (by decide)).trans c8, c9.trans (d4.mono (by decide)), c10.trans (d5.mono (by decide))⟩
        · right
          exact ⟨f0, g5, S5, c11.trans d1, c12.trans d2, d3, d4, (c9.mono (by decide)).trans (d5.mono (by decide)), (c10.mono (by decide)).trans (d6.mono (by decide))⟩
      rcases (Bool.eq_false_or_eq_true b).symm with hb | hb
      · exact fin g3 S3 q 0 st3 (by omega) (by decide) (fun _ => rfl) g310 s37 g311 s38 G1 F1 (by rw [cB, hb]; rfl) (by rw [mB, mC, hb]; rfl)
      · by_cases w47 : hc t L q = 47
        · have qL : q < L := hc_lt w47 (by decide)
          have e1 : Int32.ofNat q + 1 = Int32.ofNat (q + 1) := m_n_add q 1
          obtain ⟨g4, hg4⟩ : ∃ z, z = fup g3 2 (Int32.ofNat (q + 1)) := ⟨_, rfl⟩
          obtain ⟨S4, hS4⟩ : ∃ z, z = up1 S3 4 (Int32.ofNat (q + 1)) := ⟨_, rfl⟩
          have gs4 : Gs [2] g3 g4 := by rw [hg4]; exact Gs.fup (by decide)
          have fs4 : Fs [4] S3 S4 := by rw [hS4]; exact Fs.up1 (by decide)
          have st4 : St t L T S4 (q + 1) g4 := st3.step qL (by rw [hg4]; exact fup_eq) (by rw [hS4]; exact up1_at) ((fs4.1 5 (by decide)).trans st3.2.2.2.2.2) fs4 (by decide)
          have cD : D_c_Reader_readTarget F 513 (b2i b) (kR T L r g) = bd2 (D_c_Reader_readNumber F 513 (Int32.ofNat 3) (kR T L r g4)) fun v53 T54 => cond (m_c1 .ne v53) ((tgi T54 513 1 9).bind fun v60 => (tpi T54 513 1 11 v60).bind fun T63 => D_c_Reader_readTarget_74 F 513 T63) (some ((0 : Int32), T54)) := by
            rw [cB, hb, decide_eq_false (show ¬ ¬ hc t L q = 47 from fun n => n w47), e1, Kp2, hg4]
            simp only [Bool.not_true, cond_false, Option.bind_some, Kcl]
            rfl
          have mD : tgA F (b2i b) S = (D_m_number F (Int32.ofNat 3) S4).bind fun q27 => D_m_target_68 F (up1 q27.2 8 q27.1) := by
            rw [mB, mC, hb, decide_eq_false (show ¬ ¬ hc t L q = 47 from fun n => n w47), e1, hS4]
            rfl
          rcases P_number (F := F) (r := r) (m := 3) st4.1 st4.2.1 st4.2.2.1 (by decide) st4.2.2.2.1 st4.2.2.2.2.1 st4.2.2.2.2.2 hF with ⟨q', v', g5, S5, d1, d2, d3, d4, d5, d6, d7, d8, d9, d10, d11, d12⟩ | ⟨f, z, g5, S5, d1, d2, d3, d4, d5, d6⟩
          · have gs6 : Gs [11] g5 (fup g5 11 (Int32.ofNat v')) := Gs.fup (by decide)
            have fs6 : Fs [8] S5 (up1 S5 8 (Int32.ofNat v')) := Fs.up1 (by decide)
            have st5 : St t L T S5 q' g5 := st4.step d7 d3 d5 ((d12.1 5 (by decide)).trans st4.2.2.2.2.2) d12 (by decide)
            refine fin (fup g5 11 (Int32.ofNat v')) (up1 S5 8 (Int32.ofNat v')) q' v' (st5.keep (gs6 2 (by decide)) fs6 (by decide) (by decide) (by decide)) (by omega) d8 (fun e => by rw [hb] at e; cases e) ?_ ?_ fup_eq up1_at ?_ ?_ ?_ ?_
            · rw [gs6 10 (by decide), d11 10 (by decide), gs4 10 (by decide)]; exact g310
            · rw [fs6.1 7 (by decide), d12.1 7 (by decide), fs4.1 7 (by decide)]; exact s37
            · exact ((G1.trans (gs4.mono (by decide))).trans (d11.mono (by decide))).trans (gs6.mono (by decide))
            · exact ((F1.trans (fs4.mono (by decide))).trans (d12.mono (by decide))).trans (fs6.mono (by decide))
            · rw [cD, d1]
              simp only [bd2, Option.bind_some, show m_c1 .ne (1 : Int32) = true from rfl, cond_true, Kg9, d4, Kp11]
            · rw [mD, d2]; rfl
          · right
            obtain ⟨S6, e2, e3, e4⟩ := (d4.fs (Fs.up1 (K := [8]) (k := 8) (x := z) (by decide)) (by decide) (by decide) (by decide)).expect (F := F) ((st4.2.1.fs d6 (by decide)).fs (Fs.up1 (K := [8]) (k := 8) (x := z) (by decide)) (by decide)) (show 0 < 10 by decide) (show 10 < 127 by decide) rfl
            refine ⟨f, g5, S6, ?_, ?_, d3, e3, ((G1.mono (by decide)).trans (gs4.mono (by decide))).trans (d5.mono (by decide)), ((((F1.mono (by decide)).trans (fs4.mono (by decide))).trans (d6.mono (by decide))).trans (Fs.up1 (by decide))).trans (e4.mono (by decide))⟩
            · rw [cD, d1]; rfl
            · rw [mD, d2, Option.bind_some]
              unfold D_m_target_68
              rw [show (10 : Int32) = Int32.ofNat 10 from rfl, e2]; rfl
        · exact fin g3 S3 q 0 st3 (by omega) (by decide) (fun _ => rfl) g310 s37 g311 s38 G1 F1 (by rw [cB, hb, decide_eq_true w47]; rfl) (by rw [mB, mC, hb, decide_eq_true w47]; rfl)
    · right
      have fs1 : Fs [7, 8] S2 (up1 (up1 S2 7 z) 8 0) := (Fs.up1 (by decide)).trans (Fs.up1 (by decide))
      obtain ⟨S3, e1, e2, e3⟩ := tgB_fl (F := F) (a0 := b2i b) (b4.fs fs1 (by decide) (by decide) (by decide)) ((a3.2.1.fs b6 (by decide)).fs fs1 (by decide))
      refine ⟨f, g2, S3, ?_, ?_, b3, e2, (a4.mono (by decide)).trans (b5.mono (by decide)), (((a5.mono (by decide)).trans (b6.mono (by decide))).trans (fs1.mono (by decide))).trans (e3.mono (by decide))⟩
      · unfold D_c_Reader_readTarget
        rw [Kcl, Option.bind_some, show (47 : Int32) = Int32.ofNat 47 from rfl, a1]
        simp only [bd2, Option.bind_some, show m_c1 .eq (1 : Int32) = false from rfl, cond_false, Kcl]
        rw [show (31 : Int32) = Int32.ofNat 31 from rfl, b1]
        rfl
      · rw [mA, b2]; exact e1
  · right
    have fs1 : Fs [7, 8] S1 (up1 (up1 S1 7 (-1)) 8 0) := (Fs.up1 (by decide)).trans (Fs.up1 (by decide))
    have dd := a4.fs fs1 (by decide) (by decide)
    obtain ⟨S3, e1, e2, e3⟩ := tgB_fl (F := F) (a0 := b2i b) (t := t) (L := L) (Or.inl dd) ((h.2.1.fs a6 (by decide)).fs fs1 (by decide))
    refine ⟨f0, g1, S3, ?_, ?_, a3, e2, a5.mono (by decide), ((a6.mono (by decide)).trans (fs1.mono (by decide))).trans (e3.mono (by decide))⟩
    · unfold D_c_Reader_readTarget
      rw [Kcl, Option.bind_some, show (47 : Int32) = Int32.ofNat 47 from rfl, a1]
      rfl
    · unfold tgA
      rw [show (47 : Int32) = Int32.ofNat 47 from rfl, a2, Option.bind_some, number_d a4.1]
      exact e1
end
