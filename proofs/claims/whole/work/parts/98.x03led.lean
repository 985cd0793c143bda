/-! The ledger: what stands when something goes, when something comes. -/
/-- numbers only rise -/
def NLe (N N' : Nat → Nat → Int32) : Prop := (∀ n, 1 ≤ n → n < 7 → cN (N 1 n) ≤ cN (N' 1 n)) ∧ cN (N 7 0) ≤ cN (N' 7 0) ∧ cN (N 2 0) ≤ cN (N' 2 0) ∧ ∀ p, p < 32 → cN (N 5 p) ≤ cN (N' 5 p)
section
variable {G G' : Gh} {τ ν lam b1 b2 k1 k2 n : Nat} {M M' M1 M2 : List (Nat → Int32)} {Q Q' R R' Pd : List Rq} {Z Z' : Nat → List Fz} {E E' : Nat → Option (Nat → Int32)} {N N' : Nat → Nat → Int32} {y : Fz} {z : Rq} {m : Nat → Int32}
theorem NLe.refl : NLe N N := ⟨fun _ _ _ => Nat.le_refl _, Nat.le_refl _, Nat.le_refl _, fun _ _ => Nat.le_refl _⟩
theorem born.le {x : Int32} (h : born N x) (hN : NLe N N') : born N' x := by
  obtain ⟨s, s1, s2⟩ := h
  exact ⟨s, Nat.le_trans s1 hN.2.1, s2⟩
theorem toldH.le {p : Nat} {d : Nat → Int32} (h : toldH G N p d) (hp : p < 32) (hN : NLe N N') : toldH G N' p d := ⟨h.1, h.2.1.le (hN.2.2.2 p hp), h.2.2⟩
theorem LF.le (h : LF G Z N m) (hN : NLe N N') (hZ : ∀ n, ∀ y ∈ Z' n, y ∈ Z n) : LF G Z' N' m := by
  obtain ⟨n, h1, h2, h3, h4, h5⟩ := h
  have nn : 1 ≤ n ∧ n < 7 := by omega
  exact ⟨n, h1, h2, h3.le (hN.1 n nn.1 nn.2), ⟨h4.1.le hN.2.2.1, h4.2⟩, fun y hy => h5 y (hZ n y hy)⟩
theorem LI.le (h : LI G Z N m) (hN : NLe N N') (hZ : ∀ n, ∀ y ∈ Z' n, y ∈ Z n) : LI G Z' N' m := by
  obtain ⟨n, h1, h2, h3, h4, h5, h6, h7⟩ := h
  refine ⟨n, h1, h2, h3, h4.le (hN.1 n h2 h3), h5.le hN.2.2.1, fun y hy => h6 y (hZ n y hy), ?_⟩
  rcases h7 with w | ⟨w1, w2, ⟨p, p1', p2', p3'⟩, w4⟩
  · exact Or.inl w
  · exact Or.inr ⟨w1, w2.le hN, ⟨p, p1', p2', p3'.le p1' hN⟩, fun y hy => w4 y (hZ n y hy)⟩
theorem LM.le (h : LM G M Z N) (hN : NLe N N') (hM : ∀ m ∈ M', m ∈ M) (hZ : ∀ n, ∀ y ∈ Z' n, y ∈ Z n) : LM G M' Z' N' := fun m hm => by
  obtain ⟨h1, h2, h3⟩ := h m (hM m hm)
  exact ⟨fun e => (h1 e).le hN hZ, fun e => (h2 e).le hN hZ, fun e => (h3 e).le hN.2.2.1⟩
theorem LR.le (h : LR G Z N z) (hN : NLe N N') (hZ : ∀ n, ∀ y ∈ Z' n, y ∈ Z n) : LR G Z' N' z := by
  obtain ⟨q, f, ro, g, cd⟩ := z
  obtain ⟨⟨a1, a2, a3⟩, h⟩ := h
  refine ⟨⟨a1, a2, a3.le hN.2.2.1⟩, ?_⟩
  cases ro with
  | none =>
    cases cd with
    | none =>
      obtain ⟨b1, n, b2, b3, b4, b5, b6⟩ := h
      exact ⟨b1, n, b2, b3, b4, b5.le (hN.1 n (by omega) (by omega)), fun y hy => b6 y (hZ n y hy)⟩
    | some k => exact h
  | some r =>
    cases cd with
    | none => exact h
    | some k => exact h
theorem sE.shr {f e : Nat} {x w : Int32} (h : sE E' f x w e) (hE : vShr E E') : sE E f x w e := by
  obtain ⟨h1, g, h2, h3⟩ := h
  rcases hE e with q | q
  · rw [q] at h2; cases h2
  · exact ⟨h1, g, by rw [← q]; exact h2, h3⟩
theorem vShr.up {e : Nat} {h : Nat → Int32} (hE : vShr E E') (he : E' e = some h) : E e = some h := by
  rcases hE e with q | q
  · rw [q] at he; cases he
  · rw [← q]; exact he
theorem LZ.le (h : LZ G E N n y) (n1 : 1 ≤ n) (n2 : n < 7) (hN : NLe N N') (hs : seenN N n ≤ seenN N' n) (hE : vShr E E') : LZ G E' N' n y := by
  obtain ⟨h1, h2, h3, h4, h5, h6, h7⟩ := h
  refine ⟨h1, h2.le (hN.1 n n1 n2), h3.le hs, h4.le hN.2.1, Nat.le_trans h5 hN.2.2.1, fun w => ⟨(h6 w).1, fun e q => (h6 w).2 e (q.shr hE)⟩, fun w e g q he => h7 w e g (q.shr hE) (hE.up he)⟩
theorem LZs.le (h : LZs G Z E N) (hN : NLe N N') (hs : ∀ n, 1 ≤ n → n < 7 → (∃ y, y ∈ Z' n) → seenN N n ≤ seenN N' n) (hE : vShr E E') (hZ : ∀ n, (Z' n).Sublist (Z n)) : LZs G Z' E' N' := fun n n1 n2 => by
  obtain ⟨h1, h2⟩ := h n n1 n2
  exact ⟨fun y hy => (h1 y ((hZ n).subset hy)).le n1 n2 hN (hs n n1 n2 ⟨y, hy⟩) hE, h2.sublist (hZ n)⟩
theorem LE.le (h : LE G E N) (hN : NLe N N') (hE : vShr E E') : LE G E' N' := by
  obtain ⟨h1, h2⟩ := h
  refine ⟨fun e g he => ?_, fun e e' g g' q he he' => h2 e e' g g' q (hE.up he) (hE.up he')⟩
  obtain ⟨a1, a2, a3⟩ := h1 e g (hE.up he)
  exact ⟨a1.le hN.2.2.1, a2.le hN, a3.le (by unfold eP; omega) hN⟩
theorem LT.le (h : LT G N) (hN : NLe N N') (h4 : ∀ k, N' 4 k = N 4 k) : LT G N' := fun p hp => by
  rw [h4]
  rcases h p hp with w | w
  · exact Or.inl w
  · right
    have : (fun i => N' 4 (9 * p + i)) = fun i => N 4 (9 * p + i) := funext fun i => h4 _
    rw [this]
    exact w.le hp hN
/-- a message comes -/
theorem LM.psh (h : LM G M Z N) (h0 : m 0 = 0 → LF G Z N m) (h1 : m 0 = 1 → LI G Z N m) (h2 : m 0 = 2 → upto (cN (N 2 0)) (m 3)) : LM G (Jvm.Pilot.CEdgeHouseLaw_law_r9563_fb2754.psh M m) Z N := fun x hx => by
  unfold Jvm.Pilot.CEdgeHouseLaw_law_r9563_fb2754.psh at hx
  split at hx
  · rcases List.mem_append.mp hx with w | w
    · exact h x w
    · rw [List.mem_singleton.mp w]
      exact ⟨h0, h1, h2⟩
  · exact h x hx
theorem tCnt_psh : tCnt (psh M m) ≤ tCnt M + (if (m 0 = 0 ∧ ¬ m 2 = 0) ∨ (m 0 = 1 ∧ ¬ (m 2 = 1 ∨ m 2 = 2)) then 1 else 0) := by
  unfold psh
  split
  · unfold tCnt
    rw [List.filter_append, List.length_append]
    refine Nat.add_le_add_left ?_ _
    rw [List.filter_cons]
    by_cases w : (m 0 = 0 ∧ ¬ m 2 = 0) ∨ (m 0 = 1 ∧ ¬ (m 2 = 1 ∨ m 2 = 2))
    · rw [if_pos w, if_pos (decide_eq_true w)]
      exact Nat.le_refl _
    · rw [if_neg w, if_neg (fun q => w (of_decide_eq_true q))]
      exact Nat.le_refl _
  · exact Nat.le_add_right _ _
theorem pCnt_psh (h : ¬ m 0 = 2) : pCnt (psh M m) n = pCnt M n := by
  unfold psh
  split
  · unfold pCnt
    rw [List.filter_append, List.length_append, List.filter_cons, if_neg (fun q => h (of_decide_eq_true q).1)]
    rfl
  · rfl
theorem pCnt_rem : pCnt (M1 ++ M2) n ≤ pCnt (M1 ++ m :: M2) n := by
  unfold pCnt
  rw [filt_rem]
  exact Nat.le_add_right _ _
theorem tCnt_rem : tCnt (M1 ++ m :: M2) = tCnt (M1 ++ M2) + (if (m 0 = 0 ∧ ¬ m 2 = 0) ∨ (m 0 = 1 ∧ ¬ (m 2 = 1 ∨ m 2 = 2)) then 1 else 0) := by
  unfold tCnt
  rw [filt_rem]
  congr 1
  by_cases w : (m 0 = 0 ∧ ¬ m 2 = 0) ∨ (m 0 = 1 ∧ ¬ (m 2 = 1 ∨ m 2 = 2))
  · rw [if_pos w, if_pos (decide_eq_true w)]
  · rw [if_neg w, if_neg (fun q => w (of_decide_eq_true q))]
theorem LN.le {k2' : Nat} (h : LN τ ν M N k2) (hk : k2 ≤ k2') (hp : ∀ n, pCnt M' n ≤ pCnt M n) : LN τ ν M' N k2' := by
  obtain ⟨h1, h2, h3, h4⟩ := h
  refine ⟨h1, h2, fun n n1 n2 => ?_, h4⟩
  obtain ⟨a1, a2, a3, a4⟩ := h3 n n1 n2
  have := hp n
  exact ⟨a1, a2.le hk, a3, by omega⟩
/-- a message goes -/
theorem Led.clRem : ClRem (Led τ ν lam b1 b2) := by
  intro M1 m M2 Q Z E N k1 k2 h
  obtain ⟨hp, G, ⟨a1, a2, a3, a4, a5, a6, a7, a8, c1, c2⟩, p1', p2'⟩ := h
  have key : ∀ κ, Pot κ G.2.2.1 G.2.1 (M1 ++ M2) Q [] Z N ≤ Pot κ G.2.2.1 G.2.1 (M1 ++ m :: M2) Q [] Z N := fun κ => by
    unfold Pot
    rw [sM_rem (m := m)]
    omega
  refine ⟨hp, G, ⟨a1.le (Nat.le_refl _) (fun n => pCnt_rem), a2, a3.le NLe.refl (fun x hx => ?_) (fun _ _ h => h), a4, a5, a6, a7, a8, c1, ?_⟩, Nat.le_trans (Nat.add_le_add_right (key κc) _) p1', Nat.le_trans (Nat.add_le_add_right (key κs) _) p2'⟩
  · rcases List.mem_append.mp hx with w | w
    · exact List.mem_append_left _ w
    · exact List.mem_append_right _ (List.mem_cons_of_mem _ w)
  · rw [tCnt_rem (m := m)] at c2
    omega
theorem Led.clShr : ClShr (Led τ ν lam b1 b2) := by
  intro M Q Pd Z E E' N k1 k2 h hs
  obtain ⟨hp, G, ⟨a1, a2, a3, a4, a5, a6, a7, a8, a9⟩, p1', p2'⟩ := h
  exact ⟨hp, G, ⟨a1, a2.le NLe.refl (fun _ _ _ _ => Nat.le_refl _) hs (fun _ => List.Sublist.refl _), a3, a4, a5, a6, a7.le NLe.refl hs, a8, a9⟩, p1', p2'⟩
theorem Led.mono {τ' ν' lam' b1' b2' : Nat} (h1 : τ ≤ τ') (h2 : ν ≤ ν') (h3 : lam ≤ lam') (h4 : b1 ≤ b1') (h5 : b2 ≤ b2') (hp : τ' ≤ 60000 ∧ ν' ≤ 600 ∧ lam' ≤ 300 ∧ b2' ≤ 100000000) : Le (Led τ ν lam b1 b2) (Led τ' ν' lam' b1' b2') := by
  intro M Q Pd Z E N k1 k2 h
  obtain ⟨_, G, ⟨⟨n1, n2, n3, n4⟩, a2, a3, a4, a5, a6, a7, a8, c1, c2⟩, p1', p2'⟩ := h
  exact ⟨hp, G, ⟨⟨n1.le h1, n2, n3, fun p q => (n4 p q).le h2⟩, a2, a3, a4, a5, a6, a7, a8, Nat.le_trans c1 h3, Nat.le_trans c2 h3⟩, by omega, by omega⟩
end
