/-! The ledger: links. -/
def cN (x : Int32) : Nat := x.toNatClampNeg
def upto (b : Nat) (x : Int32) : Prop := ∃ k, k ≤ b ∧ x = Int32.ofNat k
def pl (z : Rq) : Nat := z.2.1 % 1024
/-- minus a time that was -/
def born (N : Nat → Nat → Int32) (x : Int32) : Prop := ∃ s, s ≤ cN (N 7 0) ∧ x + Int32.ofNat s = 0
/-- what a fetch's token tells as had; whether that may fail; the order of purges when it was sent; what was told of a path's version -/
abbrev Gh : Type := (Nat → Nat → Int32) × (Nat → Nat → Bool) × (Nat → Nat → Nat) × (Nat → Int32 → Nat → Int32)
/-- a fetch that is out -/
def LZ (G : Gh) (E : Nat → Option (Nat → Int32)) (N : Nat → Nat → Int32) (n : Nat) (y : Fz) : Prop :=
  (y.2.1 / 128 = n ∧ y.2.2 0 = Int32.ofNat (y.2.1 / 4 % 32) ∧ few 16 (y.2.2 5) ∧ few 16 (y.2.2 6)) ∧ upto (cN (N 1 n)) (y.2.2 7) ∧ upto (seenN N n) (y.2.2 9) ∧ upto (cN (N 7 0)) (y.2.2 10) ∧ G.2.2.1 n (nmb y) ≤ cN (N 2 0) ∧
  (G.2.1 n (nmb y) = false → G.1 n (nmb y) = 0 ∧ ∀ e, ¬ sE E y.2.1 (y.2.2 2) (y.2.2 3) e) ∧
  (¬ G.1 n (nmb y) = 0 → ∀ e h, sE E y.2.1 (y.2.2 2) (y.2.2 3) e → E e = some h → h 0 = G.1 n (nmb y) ∧ v_blocks (h 1) (y.2.2 5) (y.2.2 6) &&& (h 10 ^^^ -1) = 0)
/-- a FETCH -/
def LF (G : Gh) (Z : Nat → List Fz) (N : Nat → Nat → Int32) (m : Nat → Int32) : Prop := ∃ n, m 1 = Int32.ofNat n ∧ ((1 ≤ n ∧ n ≤ 2 ∧ m 2 = 0) ∨ (3 ≤ n ∧ n ≤ 6 ∧ (m 2 = 1 ∨ m 2 = 2))) ∧ upto (cN (N 1 n)) (m 3) ∧ (upto (cN (N 2 0)) (m 8) ∧ few 16 (m 6) ∧ few 16 (m 7)) ∧ ∀ y ∈ Z n, y.2.2 7 = m 3 → y.2.2 0 = m 4 ∧ y.2.2 1 = m 5 ∧ y.2.2 5 = m 6 ∧ y.2.2 6 = m 7 ∧ y.2.2 9 = m 8 ∧ m 10 = G.1 n (nmb y) ∧ ∃ la fo, la < 4 ∧ fo < 2 ∧ y.2.2 2 = Int32.ofNat la ∧ y.2.2 3 = Int32.ofNat fo ∧ m 21 = Int32.ofNat (la + 4 * fo)
/-- what is told in a FILL or held in an entry -/
def toldH (G : Gh) (N : Nat → Nat → Int32) (p : Nat) (d : Nat → Int32) : Prop := (∀ i, i < 9 → d i = G.2.2.2 p (d 0) i) ∧ upto (cN (N 5 p)) (d 0) ∧ ¬ d 0 = 0 ∧ few 256 (d 1)
/-- a FILL -/
def LI (G : Gh) (Z : Nat → List Fz) (N : Nat → Nat → Int32) (m : Nat → Int32) : Prop := ∃ n, m 2 = Int32.ofNat n ∧ 1 ≤ n ∧ n < 7 ∧ upto (cN (N 1 n)) (m 3) ∧ upto (cN (N 2 0)) (m 8) ∧ (∀ y ∈ Z n, y.2.2 7 = m 3 → y.2.2 0 = m 4 ∧ y.2.2 1 = m 5) ∧
  ((m 6 = 404 ∨ m 6 = 504) ∨ ((m 6 = 200 ∨ m 6 = 304) ∧ born N (m 10) ∧ (∃ p, p < 32 ∧ m 4 = Int32.ofNat p ∧ toldH G N p (fun i => m (12 + i))) ∧
    ∀ y ∈ Z n, y.2.2 7 = m 3 → lst y ≤ cN (m 8) ∧ (n ≤ 2 → G.2.2.1 n (nmb y) ≤ cN (m 8)) ∧ (m 6 = 200 → v_blocks (m 13) (y.2.2 5) (y.2.2 6) &&& (m 11 ^^^ -1) = 0) ∧ (m 6 = 304 → m 12 = G.1 n (nmb y))))
/-- a row -/
def LR (G : Gh) (Z : Nat → List Fz) (N : Nat → Nat → Int32) (z : Rq) : Prop := (pl z < 896 ∧ z.2.2.2.1 0 = Int32.ofNat (pl z / 4 % 32) ∧ upto (cN (N 2 0)) (z.2.2.2.1 11)) ∧ match z.2.2.1, z.2.2.2.2 with
  | none, none => (1 ≤ pl z / 128 ∧ pl z / 128 ≤ 2) ∧ ∃ n, 3 ≤ n ∧ n ≤ 6 ∧ z.2.2.2.1 15 = Int32.ofNat n ∧ upto (cN (N 1 n)) (z.2.2.2.1 16) ∧ ∀ y ∈ Z n, y.2.2 7 = z.2.2.2.1 16 → y.2.2 0 = z.2.2.2.1 0 ∧ y.2.2 1 = z.2.2.2.1 1 ∧ y.2.2 5 = z.2.2.2.1 4 ∧ y.2.2 6 = z.2.2.2.1 5 ∧ y.2.2 9 = z.2.2.2.1 11 ∧ y.2.2 2 = z.2.2.2.1 2 ∧ y.2.2 3 = z.2.2.2.1 3 ∧ z.2.2.2.1 17 = G.1 n (nmb y)
  | some _, some k => (3 ≤ pl z / 128 ∧ pl z / 128 ≤ 6) ∧ z.2.2.2.1 11 = 0 ∧ isGk z.2.2.2.1 k
  | _, _ => False
/-- the entries -/
def LE (G : Gh) (E : Nat → Option (Nat → Int32)) (N : Nat → Nat → Int32) : Prop := (∀ e h, E e = some h → upto (cN (N 2 0)) (h 9) ∧ born N (h 11 - h 12) ∧ toldH G N (eP e) h) ∧ ∀ e e' h h', e / 8 = e' / 8 → E e = some h → E e' = some h' → h 8 = h' 8
/-- the things -/
def LT (G : Gh) (N : Nat → Nat → Int32) : Prop := ∀ p, p < 32 → N 4 (9 * p) = 0 ∨ toldH G N p (fun i => N 4 (9 * p + i))
def pCnt (M : List (Nat → Int32)) (n : Nat) : Nat := (M.filter (fun m => decide (m 0 = 2 ∧ m 2 = Int32.ofNat n))).length
def tCnt (M : List (Nat → Int32)) : Nat := (M.filter (fun m => decide ((m 0 = 0 ∧ ¬ m 2 = 0) ∨ (m 0 = 1 ∧ ¬ (m 2 = 1 ∨ m 2 = 2))))).length
def eCnt (A : List Rq) : Nat := (A.filter (fun z => z.2.2.1.isNone)).length
def cCnt (A : List Rq) : Nat := (A.filter (fun z => z.2.2.1.isSome)).length
noncomputable def opn (Z : Nat → List Fz) : List Rq → Nat
  | [] => 0
  | z :: _ => cif (3 ≤ pl z / 128 ∧ ∀ y ∈ Z (pl z / 128), ¬ y.2.1 = pl z) 1 0
/-- the rows that are looked at: of one place -/
def rOk : List Rq → Prop
  | [] => True
  | z :: Pd => z.2.1 < 2048 ∧ ∀ x ∈ Pd, x.2.1 = pl z
def LN (τ ν : Nat) (M : List (Nat → Int32)) (N : Nat → Nat → Int32) (k2 : Nat) : Prop := upto τ (N 7 0) ∧ upto 60 (N 2 0) ∧ (∀ n, 1 ≤ n → n < 7 → upto (cN (N 2 0)) (N 0 n) ∧ upto k2 (N 1 n) ∧ upto 60 (N 6 n) ∧ cN (N 6 n) + pCnt M n ≤ cN (N 2 0)) ∧ ∀ p, p < 32 → upto ν (N 5 p)
def LZs (G : Gh) (Z : Nat → List Fz) (E : Nat → Option (Nat → Int32)) (N : Nat → Nat → Int32) : Prop := ∀ n, 1 ≤ n → n < 7 → (∀ y ∈ Z n, LZ G E N n y) ∧ (Z n).Pairwise (fun a b => ¬ a.2.1 = b.2.1 ∧ a.2.2 10 ≤ b.2.2 10)
def LM (G : Gh) (M : List (Nat → Int32)) (Z : Nat → List Fz) (N : Nat → Nat → Int32) : Prop := ∀ m ∈ M, (m 0 = 0 → LF G Z N m) ∧ (m 0 = 1 → LI G Z N m) ∧ (m 0 = 2 → upto (cN (N 2 0)) (m 3))
def LQ (Q : List Rq) (Z : Nat → List Fz) : Prop := ∀ z ∈ Q, z.2.1 < 1024 ∧ ∃ y ∈ Z (z.2.1 / 128), y.2.1 = z.2.1
def LC (lam : Nat) (M : List (Nat → Int32)) (Q R : List Rq) (Z : Nat → List Fz) : Prop := cCnt (Q ++ R) ≤ lam ∧ tCnt M + eCnt (Q ++ R) + opn Z R ≤ lam
def Lks (G : Gh) (τ ν lam : Nat) (M : List (Nat → Int32)) (Q R : List Rq) (Z : Nat → List Fz) (E : Nat → Option (Nat → Int32)) (N : Nat → Nat → Int32) (k2 : Nat) : Prop := LN τ ν M N k2 ∧ LZs G Z E N ∧ LM G M Z N ∧ (∀ z ∈ Q ++ R, LR G Z N z) ∧ LQ Q Z ∧ rOk R ∧ LE G E N ∧ LT G N ∧ LC lam M Q R Z
def κs : Ko := (47, 9, 19, 33)
def κc : Ko := (3, 1, 1, 2)
/-- the ledger: clock, versions, looked asks, rooms for cells and slots -/
def Led (τ ν lam b1 b2 : Nat) : Iv := fun M Q R Z E N k1 k2 => (τ ≤ 60000 ∧ ν ≤ 600 ∧ lam ≤ 300 ∧ b2 ≤ 100000000) ∧ ∃ G, Lks G τ ν lam M Q R Z E N k2 ∧ Pot κc G.2.2.1 G.2.1 M Q R Z N + k1 ≤ b1 ∧ Pot κs G.2.2.1 G.2.1 M Q R Z N + k2 ≤ b2
section
variable {G : Gh} {τ ν lam b1 b2 k1 k2 n : Nat} {M M1 M2 : List (Nat → Int32)} {Q R Pd : List Rq} {Z Z' : Nat → List Fz} {E E' : Nat → Option (Nat → Int32)} {N N' : Nat → Nat → Int32} {y : Fz} {z : Rq} {m : Nat → Int32}
theorem upto.le {b b' : Nat} {x : Int32} (h : upto b x) (hb : b ≤ b') : upto b' x := by
  obtain ⟨k, h1, h2⟩ := h
  exact ⟨k, Nat.le_trans h1 hb, h2⟩
theorem upto.cN {b : Nat} {x : Int32} (h : upto b x) (hb : b < 2147483648) : x = Int32.ofNat (cN x) ∧ cN x ≤ b := by
  obtain ⟨k, h1, h2⟩ := h
  have : Jvm.Pilot.CEdgeHouseLaw_law_r9563_fb2754.cN x = k := by rw [h2]; exact m_n_cl (by omega)
  rw [this]
  exact ⟨h2, h1⟩
theorem upto.few {b c : Nat} {x : Int32} (h : upto b x) (hb : b < c) : few c x := by
  obtain ⟨k, h1, h2⟩ := h
  exact ⟨k, by omega, h2⟩
theorem filt_rem {α : Type} (p : α → Bool) {A B : List α} {m : α} : ((A ++ m :: B).filter p).length = ((A ++ B).filter p).length + (if p m then 1 else 0) := by
  rw [List.filter_append, List.filter_append, List.filter_cons, List.length_append, List.length_append]
  by_cases w : p m = true
  · rw [if_pos w, if_pos w, List.length_cons]; omega
  · rw [if_neg w, if_neg w]; omega
theorem sub_len {α : Type} (p : α → Bool) {A B : List α} (h : A.Sublist B) : (A.filter p).length ≤ (B.filter p).length := (h.filter p).length_le
/-- the facts that the ops ask for -/
theorem Led.faJ : FaJ (Led τ ν lam b1 b2) := by
  intro M Q Pd Z E N k1 k2 h n n1 n2
  obtain ⟨⟨_, _, _, hb⟩, G, ⟨⟨_, _, h3, _⟩, hz, _⟩, _, hp⟩ := h
  obtain ⟨_, ⟨J, j1, j2⟩, _⟩ := h3 n n1 n2
  refine ⟨J, j2, by omega, fun y hy => ?_⟩
  obtain ⟨_, ⟨k, q1, q2⟩, _⟩ := (hz n n1 n2).1 y hy
  have e : cN (N 1 n) = J := by rw [j2]; exact m_n_cl (by omega)
  rw [e] at q1
  unfold nmb
  rw [q2, m_n_cl (by omega)]
  exact q1
theorem born.few {x : Int32} (h : born N x) (ht : upto τ (N 7 0)) (h6 : τ ≤ 60000) : few 100000 (x + N 7 0) := by
  obtain ⟨s, s1, s2⟩ := h
  obtain ⟨t, t1, t2⟩ := ht
  have e : cN (N 7 0) = t := by rw [t2]; exact m_n_cl (by omega)
  rw [e] at s1
  refine ⟨t - s, by omega, ?_⟩
  have : Int32.ofNat t = Int32.ofNat (t - s) + Int32.ofNat s := by rw [m_n_add, show t - s + s = t by omega]
  rw [t2, this, ← Int32.add_assoc, Int32.add_comm x, Int32.add_assoc, s2, Int32.add_zero]
theorem Led.faE : FaE (Led τ ν lam b1 b2) := by
  intro M Q Pd Z E N k1 k2 h e g he
  obtain ⟨⟨h6, _, _, hb⟩, G, ⟨⟨ht, _⟩, _, _, _, _, _, hE, _⟩, _⟩ := h
  have := (hE.1 e g he).2.1.few ht h6
  rw [show (g 11 + N 7 0) - g 12 = g 11 - g 12 + N 7 0 by rw [Int32.sub_eq_add_neg, Int32.sub_eq_add_neg, Int32.add_assoc, Int32.add_comm (N 7 0), ← Int32.add_assoc]]
  exact this
theorem Led.faOv : FaOv (Led τ ν lam b1 b2) := by
  intro M Q Pd Z E N k1 k2 h
  obtain ⟨⟨h6, _, _, hb⟩, G, ⟨⟨⟨t, t1, t2⟩, _⟩, hz, _⟩, _⟩ := h
  have e : cN (N 7 0) = t := by rw [t2]; exact m_n_cl (by omega)
  refine ⟨t, t2, by omega, fun n n1 n2 => ⟨fun y hy => ?_, (hz n n1 n2).2.imp (fun {a b} q => q.2)⟩⟩
  obtain ⟨_, _, _, ⟨s, s1, s2⟩, _⟩ := (hz n n1 n2).1 y hy
  exact ⟨s, by rw [← e]; exact s1, s2⟩
theorem Led.faVer (hν : ν ≤ 511) : FaVer (Led τ ν lam b1 b2) := by
  intro M Q Z E N k1 k2 h p hp
  obtain ⟨_, G, ⟨⟨_, _, _, h5⟩, _⟩, _⟩ := h
  exact (h5 p hp).few (by omega)
theorem Led.faPur : FaPur (Led τ ν lam b1 b2) := by
  intro M1 m M2 Q Z E N k1 k2 n h m0 m2 n1 n2
  obtain ⟨_, G, ⟨⟨_, h2, h3, _⟩, _⟩, _⟩ := h
  obtain ⟨_, _, h6, hc⟩ := h3 n n1 n2
  obtain ⟨e6, l6⟩ := h6.cN (by decide)
  obtain ⟨e2, l2⟩ := h2.cN (by decide)
  have : pCnt (M1 ++ m :: M2) n = pCnt (M1 ++ M2) n + 1 := by
    unfold pCnt
    rw [filt_rem, if_pos (decide_eq_true ⟨m0, m2⟩)]
  exact ⟨cN (N 6 n), by omega, e6⟩
theorem Led.faFill2 : FaFill2 (Led τ ν lam b1 b2) := by
  intro M1 m M2 Q Z E N k1 k2 h m0 m6
  obtain ⟨⟨h6, _, _, hb⟩, G, ⟨⟨ht, _⟩, _, hM, _⟩, _⟩ := h
  obtain ⟨n, _, _, _, _, _, _, w | w⟩ := (hM m (by simp)).2.1 m0
  · rcases m6 with q | q <;> rcases w with w | w <;> rw [q] at w <;> exact absurd w (by decide)
  · exact w.2.1.few ht h6
theorem ofNat_in {a b : Nat} (ha : a < 2147483648) (hb : b < 2147483648) (e : Int32.ofNat a = Int32.ofNat b) : a = b := by
  have := congrArg Int32.toNatClampNeg e
  rw [m_n_cl ha, m_n_cl hb] at this
  exact this
theorem Led.faFill : FaFill (Led τ ν lam b1 b2) := by
  intro M1 m M2 Q Z E N k1 k2 h m0 n n1 n2 m2 y hy y7
  obtain ⟨_, G, ⟨⟨_, h2, h3, _⟩, hz, hM, _⟩, _⟩ := h
  obtain ⟨n', q1, q2, q3, _, q8, qy, _⟩ := (hM m (by simp)).2.1 m0
  have en : n' = n := ofNat_in (by omega) (by omega) (q1.symm.trans m2)
  subst en
  obtain ⟨e2, l2⟩ := h2.cN (by decide)
  obtain ⟨e8, l8⟩ := q8.cN (by omega)
  obtain ⟨e0, l0⟩ := (h3 n' n1 n2).1.cN (by omega)
  obtain ⟨_, _, u9, _⟩ := (hz n' n1 n2).1 y hy
  have s9 : seenN N n' = cN (N 0 n') := rfl
  refine ⟨qy y hy y7, (u9.le (show seenN N n' ≤ 60 by omega)).few (by decide), (q8.le l2).few (by decide), ?_⟩
  rw [e2, e8]
  intro q
  have := (i_lt (by show cN (N 2 0) < 2147483648; omega) (by show cN (m 8) < 2147483648; omega)).mp q
  omega
theorem cnt_both (A : List Rq) : A.length = cCnt A + eCnt A := by
  unfold cCnt eCnt
  induction A with
  | nil => rfl
  | cons z A ih =>
    rw [List.filter_cons, List.filter_cons, List.length_cons]
    cases h : z.2.2.1 with
    | none =>
      simp only [Option.isSome_none, Option.isNone_none, if_true, List.length_cons]
      rw [if_neg (by decide)]
      omega
    | some r =>
      simp only [Option.isSome_some, Option.isNone_some, if_true, List.length_cons]
      rw [if_neg (by decide)]
      omega
theorem Led.faRows : FaRows (Led τ ν lam b1 b2) := by
  intro M1 m M2 Q Z E N k1 k2 n h m0 m2 n1 n2
  obtain ⟨⟨_, _, hl, _⟩, G, ⟨_, _, _, _, _, _, _, _, c1, c2⟩, _⟩ := h
  have : tCnt (M1 ++ m :: M2) = tCnt (M1 ++ M2) + 1 := by
    unfold tCnt
    have nz : ¬ m 2 = 0 := fun q => by
      rw [m2] at q
      have := ofNat_in (show n < 2147483648 by omega) (show 0 < 2147483648 by decide) q
      omega
    rw [filt_rem, if_pos (decide_eq_true (Or.inl ⟨m0, nz⟩))]
  rw [List.append_nil] at c1 c2
  have := cnt_both Q
  omega
end
