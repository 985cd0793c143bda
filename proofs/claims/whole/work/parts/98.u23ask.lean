/-! ask(). -/
def isAq (g : Nat → Int32) (p v : Nat) : Prop := g 0 = Int32.ofNat p ∧ g 1 = Int32.ofNat v ∧ g 11 = 0 ∧ g 12 = 0 ∧ flag (g 6) ∧ few 16 (g 4) ∧ few 16 (g 5) ∧ ∃ la fo, la < 4 ∧ fo < 2 ∧ g 2 = Int32.ofNat la ∧ g 3 = Int32.ofNat fo
/-- one more was asked -/
def vAsk (N : Nat → Nat → Int32) : Nat → Nat → Int32 := fun j i => if j = 3 then N 3 i + 1 else N j i
def ClAsk (I I' : Iv) : Prop := ∀ M Q Z E N k1 k2, I M Q [] Z E N k1 k2 → I' M Q [] Z E N k1 k2 ∧ I' M Q [] Z E (vAsk N) (k1 + 4) (k2 + 49)
/-- the blocks that are asked for hold what the conditions ask for -/
def kin (k : Nat → Int32) : Prop := k 1 = 0 ∨ ∃ A, A < 100000 ∧ k 2 = Int32.ofNat A ∧ ((k 1 = 1 ∧ ∃ B, B < 100000 ∧ k 3 = Int32.ofNat B) ∨ k 1 = 2)
def isGk (g k : Nat → Int32) : Prop := kin k ∧ ((k 7 = -1 ∧ k 1 = 1 ∧ ∃ A B, A < 100000 ∧ B < 100000 ∧ k 2 = Int32.ofNat A ∧ k 3 = Int32.ofNat B ∧ g 4 = Int32.ofNat (min A 255 / 16) ∧ g 5 = Int32.ofNat (min B 255 / 16)) ∨ (g 4 = 0 ∧ g 5 = 15))
theorem isGk.of {S : mS} {r : Nat} {g k : Nat → Int32} (h : isCl S r k) (b : isBl S r (g 4) (g 5)) : isGk g k := by
  have inj : ∀ {a b : Nat}, a < 100000 → b < 100000 → Int32.ofNat a = Int32.ofNat b → a = b := fun ha hb e => by
    have := congrArg Int32.toNatClampNeg e
    rw [m_n_cl (by omega), m_n_cl (by omega)] at this
    exact this
  refine ⟨by
    rcases h.kinds with q | q
    · exact Or.inl q.1
    · exact Or.inr q, ?_⟩
  obtain ⟨_, _, _, _, h7, hk⟩ := h
  unfold isBl at b
  by_cases c : rd S 620 (23 * r + 21) = -1 ∧ (rd S 620 (23 * r + 3) = 1 ∨ rd S 620 (23 * r + 3) = 2)
  · rw [if_pos c] at b
    obtain ⟨A, a1, a2, a3, a4⟩ := b
    left
    rcases hk with ⟨w, _⟩ | ⟨A', b1, b2, b3, hk⟩
    · rcases c.2 with q | q <;> rw [w] at q <;> exact absurd q (by decide)
    · have eA : A = A' := inj a1 b1 (a2.symm.trans b3)
      subst eA
      rcases hk with ⟨B', d1, d2, d3, d4, d5⟩ | ⟨d1, d2, d3⟩ | ⟨d1, d2⟩
      · rcases a4 with ⟨q, _⟩ | ⟨_, B, f1, f2, f3⟩
        · rw [d2] at q; exact absurd q (by decide)
        · have eB : B = B' := inj f1 d1 (f2.symm.trans d5)
          subst eB
          exact ⟨h7.trans c.1, d3, A, B, a1, d1, b2, d4, a3, f3⟩
      · rcases a4 with ⟨_, q⟩ | ⟨q, _⟩
        · exact ⟨h7.trans c.1, d2, A, 99999, a1, by decide, b2, d3, a3, q⟩
        · rw [d1] at q; exact absurd q (by decide)
      · rcases c.2 with q | q <;> rw [d1] at q <;> exact absurd q (by decide)
  · rw [if_neg c] at b
    exact Or.inr b
def ClLook (I I' : Iv) : Prop := ∀ M Q Z E N k1 k2, I M Q [] Z E N k1 k2 → ∀ r, r < 300 → N 3 0 = Int32.ofNat r → Q.length + 1 ≤ 700 ∧ ∀ a n p v g k, 3 ≤ n → n ≤ 6 → p < 32 → v < 4 → isAq g p v → isGk g k → I' M Q [lk1 (a, 128 * n + (4 * p + v), some r, g, some k)] Z E (vAsk N) (k1 + 4) (k2 + 49)
section
variable {I I' : Iv} {T T' T2 : tT} {S S' S1 : mS} {X Y : Nat → List (Nat × Nat)} {Z : Nat → List Fz} {Q cz Pd : List Rq} {c F n j0 k1 k2 r : Nat} {rs : List Nat}
theorem newrep_views (hi : ∀ i, ¬ i = 70 → ¬ i = 0 → S'.1 i = S.1 i) (h0 : S.1 70 = Int32.ofNat r) (h70 : S'.1 70 = Int32.ofNat (r + 1)) (hr : ∀ b k, ¬ b = 621 → ¬ b = 627 → ¬ b = 620 → rd S' b k = rd S b k) : vM S' = vM S ∧ vE S' = vE S ∧ vS S' = vAsk (vS S) := by
  have ag : ∀ as is, (∀ a ∈ as, ¬ a = 621 ∧ ¬ a = 627 ∧ ¬ a = 620) → (∀ i ∈ is, ¬ i = 70 ∧ ¬ i = 0) → Ag as is S S' := fun as is p q => ⟨fun a ha k => hr a k (p a ha).1 (p a ha).2.1 (p a ha).2.2, fun i hi' => hi i (q i hi').1 (q i hi').2⟩
  refine ⟨vM_ag (ag _ _ (by decide) (by decide)), vE_ag (ag _ _ (by decide) (by decide)), ?_⟩
  funext j k
  have e70 : S'.1 70 = S.1 70 + 1 := by rw [h70, h0]; exact (m_n_add r 1).symm
  unfold vAsk vS
  by_cases w3 : j = 3
  · subst w3
    exact e70
  · simp only [w3, if_false, hr 593 _ (by decide) (by decide) (by decide), hr 596 _ (by decide) (by decide) (by decide), hr 589 _ (by decide) (by decide) (by decide), hr 590 _ (by decide) (by decide) (by decide), hr 597 _ (by decide) (by decide) (by decide), hi 37 (by decide) (by decide), hi 36 (by decide) (by decide)]
def cRep0 : tC := .inl (8, [.int 0, .int 0, .int 0, .int 0, .int 0, .int 0, .int 0, .int 0, .int 0, .int 0, .int 0, .int 0, .int 0, .null])
/-- a reply is made and put behind the others -/
theorem rep_new {cR : Nat} (hL : okL T2) (h24 : T2.1 524 = some (.inr (.inr (cR, rs)))) (hl : rs.length < 300) : ∃ T47 T58 cap, tnw T2 8 = some (T2.2.1, tadd T2 cRep0 14) ∧ D_c_Reply_init F T2.2.1 (tadd T2 cRep0 14) = some T47 ∧ (∀ b x, T2.1 b = some x → T47.1 b = some x) ∧ tla T47 524 T2.2.1 = some T58 ∧ (∀ b, T58.1 b = if b = 524 then some (.inr (.inr (cap, rs ++ [T2.2.1]))) else if b = T2.2.1 then some (cReply (fun _ => 0) 31) else T2.1 b) ∧ Cs T2 T58 1 14 ∧ T2.1 T2.2.1 = none := by
  have hN : okN T2 := hL.1
  have nB : T2.1 T2.2.1 = none := by
    cases q : T2.1 T2.2.1 with
    | none => rfl
    | some x => exact absurd (hN _ _ q) (Nat.lt_irrefl _)
  have lt := hN _ _ h24
  obtain ⟨B, hB⟩ : ∃ B, B = T2.2.1 := ⟨_, rfl⟩
  rw [← hB] at lt nB ⊢
  have h43 : (tadd T2 cRep0 14).1 B = some cRep0 := by rw [tadd_1, if_pos hB]
  obtain ⟨T47, h47⟩ : ∃ z, z = tset (tadd T2 cRep0 14) B (cReply (fun _ => 0) 31) := ⟨_, rfl⟩
  have i47 : D_c_Reply_init F B (tadd T2 cRep0 14) = some T47 := by
    unfold D_c_Reply_init
    rw [show tpr (tadd T2 cRep0 14) B 8 13 (some 31) = some T47 from (tp_o h43 (show 13 < 14 by decide)).trans (by rw [h47]; rfl)]
    rfl
  have b47 : ∀ b, T47.1 b = if b = B then some (cReply (fun _ => 0) 31) else T2.1 b := fun b => by
    rw [h47, tset_1]
    by_cases w : b = B
    · rw [if_pos w, if_pos w]
    · rw [if_neg w, if_neg w, tadd_1, if_neg (fun q => w (q.trans hB.symm))]
  have l47 : T47.1 524 = some (.inr (.inr (cR, rs))) := by rw [b47, if_neg (by omega)]; exact h24
  have r47 : T47.1 B = some (cReply (fun _ => 0) 31) := by rw [b47, if_pos rfl]
  obtain ⟨T58, t58, d58⟩ : ∃ T58, tla T47 524 B = some T58 ∧ T58.1 = (tset T47 524 (.inr (.inr (l_cap cR rs.length, rs ++ [B])))).1 := by
    refine ⟨((tset T47 524 (.inr (.inr (l_cap cR rs.length, rs ++ [B])))).1, T47.2.1 + (if rs.length < cR then 0 else 1), T47.2.2 + (if rs.length < cR then 0 else l_cap cR rs.length)), ?_, rfl⟩
    unfold tla
    simp only [tl, l47, Option.bind_some, r47, cReply]
    rw [if_pos ⟨by omega, by decide⟩]
  refine ⟨T47, T58, l_cap cR rs.length, by rw [hB]; rfl, i47, fun b x hb => ?_, t58, fun b => ?_, ?_, nB⟩
  · rw [b47, if_neg (fun q => by rw [q, nB] at hb; cases hb)]
    exact hb
  · rw [d58, tset_1]
    by_cases w : b = 524
    · rw [if_pos w, if_pos w]
    · rw [if_neg w, if_neg w, b47]
  · have q1' : Cs T2 (tadd T2 cRep0 14) 1 14 := Cs.new rfl
    have q2' : Cs (tadd T2 cRep0 14) T47 0 0 := by rw [h47]; exact Cs.cell h43 rfl rfl
    have q3' : Cs T47 T58 0 0 := K_tla _ t58
    exact ((q1'.trans q2').trans q3').mono (by decide) (by decide)
theorem qch_ne {g k : Nat → Int32} {i : Nat} (h4 : ¬ i = 4) (h5 : ¬ i = 5) : qch g k i = g i := by
  unfold qch
  split
  · rw [fup_ne h5, fup_ne h4]
  · rfl
end
