/-! A fetch fails. -/
def ClRem (I : Iv) : Prop := ∀ M1 m M2 Q Z E N k1 k2, I (M1 ++ m :: M2) Q [] Z E N k1 k2 → I (M1 ++ M2) Q [] Z E N k1 k2
def ClLet (I : Iv) : Prop := ∀ M Q Z E N k1 k2 n i y, I M Q [] Z E N k1 k2 → 1 ≤ n → n < 7 → (Z n)[i]? = some y → Gup I M (qOut Q y.2.1) (qIn Q y.2.1) (zDel Z n i) E N k1 k2
def ClShr (I : Iv) : Prop := ∀ M Q Pd Z E E' N k1 k2, I M Q Pd Z E N k1 k2 → vShr E E' → I M Q Pd Z E' N k1 k2
section
variable {I : Iv} {T : tT} {S : mS} {X Y : Nat → List (Nat × Nat)} {Z : Nat → List Fz} {Q : List Rq} {j0 c F n k1 k2 : Nat} {rs : List Nat} {y : Fz}
theorem RB.j00 (h : RB T S X Y Z Q [] [] j0 rs c) : RB T S X Y Z Q [] [] 0 rs c := by
  obtain ⟨h1, h2, h3, h4, h5, h6, h7, ⟨⟨a1, a2, a3, a4⟩, b1, b2, b3, d⟩, h9⟩ := h
  exact ⟨h1, h2, h3, h4, h5, h6, h7, ⟨⟨a1, a2, Nat.zero_le _, a4⟩, b1, b2, fun k z hk => (by simp at hk), d⟩, h9⟩
theorem RA.j00 (h : RA I T S X Y Z Q [] [] j0 rs c k1 k2) : RA I T S X Y Z Q [] [] 0 rs c k1 k2 := ⟨h.1.j00, h.2⟩
theorem RA.fl (h : RA (Gup I) T S X Y Z Q [] [] j0 rs c k1 k2) : RA I T S X Y Z Q [] [] j0 rs c k1 k2 := ⟨h.1, h.2.1, Gup.nil h.2.2⟩
theorem Gup.shr (h : ClShr I) : ClShr (Gup I) := fun M Q Pd Z E E' N k1 k2 h1 hs => by
  have up : ∀ e g, E' e = some g → E e = some g := fun e g he => by
    rcases hs e with w | w
    · rw [w] at he; cases he
    · rw [← w]; exact he
  refine ⟨fun e g he => h1.1 e g (up e g he), fun ms hl hm => h _ _ _ _ _ _ _ _ _ (h1.2 ms hl (fun i z m e1 e2 => ?_)) hs⟩
  intro hz
  rcases hm i z m e1 e2 hz with w | ⟨e, g, q1, q2⟩
  · exact Or.inl w
  · exact Or.inr ⟨e, g, up e g q1, q2⟩
theorem qIn_nd {f : Nat} {z : Rq} (h : z ∈ qIn Q f) : z.2.1 = f := of_decide_eq_true (List.mem_filter.mp h).2
theorem qIn_len {f : Nat} : (qIn Q f).length ≤ Q.length := List.length_filter_le _ _
theorem P_failAll (hF : 4001 ≤ F) (hI : Clo I) (cL : ClLet I) {p v i : Nat} (hp : p < 32) (hv : v < 4) (h1 : 1 ≤ n) (h2 : n < 7) (hy : (Z n)[i]? = some y) (hf : y.2.1 = 128 * n + (4 * p + v)) (h : RBx T S X Y (zDel Z n i) Q rs c y.2.1) (hno : ∀ m, 1 ≤ m → m < 7 → ∀ x ∈ zDel Z n i m, ¬ x.2.1 = y.2.1) (hcost : T.2.1 ≤ k1 + capS T ∧ T.2.2 ≤ k2 + 4 * capS T) (hIv : I (vM S) Q [] Z (vE S) (vS S) k1 k2) : ∃ T' S' k1' k2', D_c_EdgeHouse_failAll F 512 (some (527 + 8 * n)) (ch Q y.2.1).head? T = some T' ∧ D_m_failAll F (Int32.ofNat n) (Int32.ofNat (4 * p + v)) S = some S' ∧ RA I T' S' X Y (zDel Z n i) (qOut Q y.2.1) [] [] 0 rs c k1' k2' := by
  obtain ⟨fa, f, g⟩ := y
  have hf' : f = 128 * n + (4 * p + v) := hf
  subst hf'
  dsimp only at h hno ⊢
  obtain ⟨o1, o2, o3, o4, o5, o6⟩ := h.off (by omega) hno
  obtain ⟨S2, t1, t2, t3, t4, t5, t6, t7⟩ := o2.take (F := F) hF hp hv h1 h2 o3 hno
  have ql : Q.length ≤ 700 := h.2.2.1.2
  have pl := qIn_len (Q := Q) (f := 128 * n + (4 * p + v))
  have hRA : RA (Gup I) T S2 X Y (zDel Z n i) (qOut Q (128 * n + (4 * p + v))) [] (qIn Q (128 * n + (4 * p + v))) 0 rs c k1 k2 := by
    refine ⟨t2, hcost, ?_⟩
    rw [t3, t4, t5, o4, o5, o6]
    exact cL _ _ _ _ _ _ _ _ _ _ hIv h1 h2 hy
  obtain ⟨T', S', k1', k2', u1, u2, u3⟩ := fail_loop (F := F) (n := n) (by omega) Gup.clF Gup.faE (qIn Q (128 * n + (4 * p + v))) T S2 0 k1 k2 hRA (fun z hz => by rw [qIn_nd hz]; omega) F F (by omega) (by omega)
  refine ⟨T', S', k1', k2', u1, ?_, u3.fl.j00⟩
  unfold D_m_failAll
  rw [k128, i_add, o1, Option.bind_some, t1, Option.bind_some]
  rw [Nat.zero_add] at u2
  exact u2
end
