/-! Those that were taken fail, or end, one after the other. -/
/-- rows that are given up -/
def ClF (I : Iv) : Prop := ∀ M Q Pd Z E N k1 k2 z m, I M Q (z :: Pd) Z E N k1 k2 → okAns E (N 7 0) z m → I (gvM M z m) Q Pd Z E N (k1 + gvC z) (k2 + 19 * gvC z)
def flM : List (Nat → Int32) → List Rq → List (Nat → Int32) → List (Nat → Int32)
  | M, z :: R, m :: ms => flM (gvM M z m) R ms
  | M, _, _ => M
def flC : List Rq → Nat
  | [] => 0
  | z :: R => gvC z + flC R
/-- when all of them will have been given up, I stands -/
def Gup (I : Iv) : Iv := fun M Q R Z E N k1 k2 => (∀ e h, E e = some h → few 100000 ((h 11 + N 7 0) - h 12)) ∧ ∀ ms : List (Nat → Int32), ms.length = R.length → (∀ (i : Nat) z m, R[i]? = some z → ms[i]? = some m → okAns E (N 7 0) z m) → I (flM M R ms) Q [] Z E N (k1 + flC R) (k2 + 19 * flC R)
theorem Gup.clF {I : Iv} : ClF (Gup I) := fun M Q Pd Z E N k1 k2 z m h ha => by
  obtain ⟨h1, h2⟩ := h
  refine ⟨h1, fun ms hl hm => ?_⟩
  have := h2 (m :: ms) (by rw [List.length_cons, List.length_cons, hl]) (fun i => by
    cases i with
    | zero =>
      intro z' m' e1 e2
      cases e1
      cases e2
      exact ha
    | succ i =>
      intro z' m' e1 e2
      exact hm i z' m' e1 e2)
  rw [show k1 + flC (z :: Pd) = k1 + gvC z + flC Pd by show k1 + (gvC z + flC Pd) = _; omega, show k2 + 19 * flC (z :: Pd) = k2 + 19 * gvC z + 19 * flC Pd by show k2 + 19 * (gvC z + flC Pd) = _; omega] at this
  exact this
theorem Gup.faE {I : Iv} : FaE (Gup I) := fun _ _ _ _ _ _ _ _ h => h.1
theorem Gup.nil {I : Iv} {M Q Z E N k1 k2} (h : Gup I M Q [] Z E N k1 k2) : I M Q [] Z E N k1 k2 := h.2 [] rfl (fun i z m e => by simp at e)
section
variable {I : Iv} {T : tT} {S : mS} {X Y : Nat → List (Nat × Nat)} {Z : Nat → List Fz} {Q Pd : List Rq} {j0 c F n k1 k2 : Nat} {rs : List Nat} {z : Rq}
/-- the next of those that were taken is laid out -/
theorem RB.again (hF : 13 ≤ F) (h : RB T S X Y Z Q [] (z :: Pd) j0 rs c) : ∃ S1, D_m_again F (Int32.ofNat j0) S = some (Int32.ofNat (wOf Q), S1) ∧ RB T S1 X Y Z Q [z] Pd (j0 + 1) rs c ∧ vM S1 = vM S ∧ vE S1 = vE S ∧ vS S1 = vS S ∧ (∀ i, S1.1 i = S.1 i) ∧ (∀ a k, ¬ a = 622 → rd S1 a k = rd S a k) ∧ (∀ k, k < 12 * (Q.length + 1) → rd S1 622 k = rd S 622 k) ∧ T.1 z.1 = T.1 z.1 := by
  obtain ⟨r1, r2, r3, r4, r5, r6, r7, ⟨⟨a1, a2, a3, a4⟩, b1, b2, b3, c1, c2, d1, dP, d2⟩, r9, r10⟩ := id h
  have ql : Q.length ≤ 700 := by rw [List.length_append] at a2; omega
  obtain ⟨S1, s1, s2, s3⟩ := m_again (F := F) (S := S) (n := Q.length) (j := j0) hF a1 (by omega) (by simp at a3; omega)
  have hag : ∀ as is, (∀ a ∈ as, ¬ a = 622) → Ag as is S S1 := fun as is q => ⟨fun a ha k => by rw [s3, if_neg (fun w => q a ha w.1)], fun i _ => s2 i⟩
  have low : ∀ k, k < 12 * (Q.length + 1) → rd S1 622 k = rd S 622 k := fun k hk => by rw [s3, if_neg (by omega)]
  have as : Q ++ ([z] ++ Pd) = Q ++ ([] ++ (z :: Pd)) := by simp
  refine ⟨S1, s1, ⟨r1, r2.fr Kq.refl (hag _ _ (by decide)), r3.fr Kq.refl (hag _ _ (by decide)), r4, r5.fr Kq.refl (hag _ _ (by decide)), r6.fr Kq.refl (hag _ _ (by decide)), r7.fr Kq.refl (hag _ _ (by decide)), ?_, r9.fr Kq.refl (hag _ _ (by decide)), r10.fr Kq.refl (hag _ _ (by decide)) (fun k x1 x2 x3 => ?_)⟩, vM_ag (hag _ _ (by decide)), vE_ag (hag _ _ (by decide)), vS_ag (hag _ _ (by decide)), s2, fun a k ha => by rw [s3, if_neg (fun w => ha w.1)], low, rfl⟩
  · have frx : ∀ (x : Rq) row row', isQr T S rs x row → (∀ i, i < 12 → row' i = row i) → isQr T S1 rs x row' := fun x row row' hx hrr => hx.fr Kq.refl (hag _ _ (by decide)) (fun r _ => (hag [621] [] (by decide)).1 621 (by decide) r) hrr
    refine ⟨⟨(s2 74).trans a1, by rw [as]; exact a2, by simp at a3; omega, by simp⟩, fun k x hk => frx x _ _ (b1 k x hk) (fun i hi => ?_), fun x hx => ?_, fun k x hk => ?_, by rw [as]; exact c1, by rw [as]; exact c2, d1, dP.2, fun x hx => by rw [s3, if_neg (by omega)]; exact d2 x hx⟩
    · have := (List.getElem?_eq_some_iff.mp hk).1
      exact low _ (by omega)
    · rw [List.mem_singleton.mp hx]
      refine frx z _ _ (b3 0 z rfl) (fun i hi => ?_)
      rw [s3, if_pos ⟨rfl, by omega, by omega⟩]
      congr 1
      omega
    · refine frx x _ _ (b3 (k + 1) x (by rw [List.getElem?_cons_succ]; exact hk)) (fun i hi => ?_)
      rw [s3, if_neg (by omega)]
      congr 1
      omega
  · have e9 : ∀ i, mRow S1 k i = mRow S k i := fun i => by show rd S1 624 _ = rd S 624 _; rw [s3, if_neg (by omega)]
    exact ⟨k, ⟨by rw [← s2 77]; exact x1, x2⟩, (e9 0).symm.trans x3, e9 3, e9 5, e9 4⟩
/-- the link of the first that was taken -/
theorem RB.lnk1 (h : RB T S X Y Z Q [] (z :: Pd) j0 rs c) : ∃ cc rr, T.1 z.1 = some (cReq z.2.2.2.1 cc rr (Pd.map Prod.fst).head?) := by
  obtain ⟨_, b1, b2, b3, c1, c2, d1, dP, d2⟩ := h.2.2.2.2.2.2.2.1
  obtain ⟨g, cc, rr, hl⟩ := dP.1
  obtain ⟨cc', rr', bb, hq⟩ := (b3 0 z rfl).1.cell
  have hl' : T.1 z.1 = some (cReq g cc rr (Pd.map Prod.fst).head?) := hl
  rw [hq] at hl'
  have e := Option.some.inj hl'
  refine ⟨cc', rr', ?_⟩
  rw [hq, e, cReq_b e.symm ((Pd.map Prod.fst).head?)]
theorem fail_loop (hF : 1100 ≤ F) (hI : ClF I) (fE : FaE I) : ∀ (Pd : List Rq) (T : tT) (S : mS) (j0 k1 k2 : Nat), RA I T S X Y Z Q [] Pd j0 rs c k1 k2 → (∀ z ∈ Pd, z.2.1 / 128 = n) → ∀ f g, Pd.length < f → Pd.length < g → ∃ T' S' k1' k2', D_c_EdgeHouse_failAll_2 F f 512 (some (527 + 8 * n)) (Pd.map Prod.fst).head? T = some T' ∧ D_m_failAll_23 F g (Int32.ofNat (j0 + Pd.length)) (Int32.ofNat j0) S = some S' ∧ RA I T' S' X Y Z Q [] [] (j0 + Pd.length) rs c k1' k2' := by
  intro Pd
  induction Pd with
  | nil =>
    intro T S j0 k1 k2 h hn f g hf hg
    obtain ⟨f, rfl⟩ : ∃ x, f = x + 1 := ⟨f - 1, by omega⟩
    obtain ⟨g, rfl⟩ : ∃ x, g = x + 1 := ⟨g - 1, by omega⟩
    have j700 : j0 ≤ 700 := by have := h.1.2.2.2.2.2.2.2.1.1.2.2.1; simpa using this
    refine ⟨T, S, k1, k2, rfl, ?_, h⟩
    unfold D_m_failAll_23
    rw [ge_n (by omega) (by show j0 + 0 < 2147483648; omega), decide_eq_true (by show j0 + 0 ≤ j0; omega)]
    rfl
  | cons z Pd ih =>
    intro T S j0 k1 k2 h hn f g hf hg
    obtain ⟨f, rfl⟩ : ∃ x, f = x + 1 := ⟨f - 1, by omega⟩
    obtain ⟨g, rfl⟩ : ∃ x, g = x + 1 := ⟨g - 1, by omega⟩
    obtain ⟨hR, hcost, hIv⟩ := h
    have jl : j0 + (z :: Pd).length ≤ 700 := hR.2.2.2.2.2.2.2.1.1.2.2.1
    obtain ⟨S1, a1, a2, a3, a4, a5, a6, a7, a8, _⟩ := hR.again (F := F) (by omega)
    have hA : okAge S1 := fun e h he => by
      rw [a4] at he
      rw [a6]
      exact fE _ _ _ _ _ _ _ _ hIv e h he
    obtain ⟨cc, rr, hq⟩ := hR.lnk1
    obtain ⟨T', S', m, e1, e2, e3, e4, e5, e6, e7, e8, e9, e10⟩ := P_giveUp (F := F) (by omega) a2 hA (hn z List.mem_cons_self)
    have qT := e8.k hq (show (6 : Nat) ∈ kX by decide)
    have hRA : RA I T' S' X Y Z Q [] Pd (j0 + 1) rs c (k1 + gvC z) (k2 + 19 * gvC z) := by
      refine ⟨e3, cost_step hcost e9 hR.1, ?_⟩
      rw [e5, e6, e7, a3, a4, a5]
      rw [a4, a6] at e4
      exact hI _ _ _ _ _ _ _ _ _ _ hIv e4
    obtain ⟨T2, S2, k1', k2', u1, u2, u3⟩ := ih T' S' (j0 + 1) _ _ hRA (fun y hy => hn y (List.mem_cons_of_mem _ hy)) f g (by simp at hf; omega) (by simp at hg; omega)
    have jj : j0 + 1 + Pd.length = j0 + (z :: Pd).length := by simp; omega
    refine ⟨T2, S2, k1', k2', ?_, ?_, by rw [← jj]; exact u3⟩
    · show D_c_EdgeHouse_failAll_2 F (f + 1) 512 (some (527 + 8 * n)) (some z.1) T = some T2
      rw [e1 f, Qr18 qT, Option.bind_some]
      exact u1
    · unfold D_m_failAll_23
      rw [ge_n (by omega) (by omega), decide_eq_false (by simp), cond_false, a1, Option.bind_some]
      simp only [e2, Option.bind_some, q1]
      rw [← jj]
      exact u2
theorem end_loop (hF : 1100 ≤ F) (hI : ClF I) (fE : FaE I) : ∀ (Pd : List Rq) (T : tT) (S : mS) (j0 k1 k2 : Nat), RA I T S X Y Z Q [] Pd j0 rs c k1 k2 → (∀ z ∈ Pd, z.2.1 / 128 = n) → ∀ f g, Pd.length < f → Pd.length < g → ∃ T' S' k1' k2', D_c_EdgeHouse_endAll_3 F f 512 (some (527 + 8 * n)) 404 (Pd.map Prod.fst).head? T = some T' ∧ D_m_bringFill_161 F g (Int32.ofNat (j0 + Pd.length)) (Int32.ofNat j0) S = some S' ∧ RA I T' S' X Y Z Q [] [] (j0 + Pd.length) rs c k1' k2' := by
  intro Pd
  induction Pd with
  | nil =>
    intro T S j0 k1 k2 h hn f g hf hg
    obtain ⟨f, rfl⟩ : ∃ x, f = x + 1 := ⟨f - 1, by omega⟩
    obtain ⟨g, rfl⟩ : ∃ x, g = x + 1 := ⟨g - 1, by omega⟩
    have j700 : j0 ≤ 700 := by have := h.1.2.2.2.2.2.2.2.1.1.2.2.1; simpa using this
    refine ⟨T, S, k1, k2, rfl, ?_, h⟩
    unfold D_m_bringFill_161
    rw [ge_n (by omega) (by show j0 + 0 < 2147483648; omega), decide_eq_true (by show j0 + 0 ≤ j0; omega)]
    rfl
  | cons z Pd ih =>
    intro T S j0 k1 k2 h hn f g hf hg
    obtain ⟨f, rfl⟩ : ∃ x, f = x + 1 := ⟨f - 1, by omega⟩
    obtain ⟨g, rfl⟩ : ∃ x, g = x + 1 := ⟨g - 1, by omega⟩
    obtain ⟨hR, hcost, hIv⟩ := h
    have jl : j0 + (z :: Pd).length ≤ 700 := hR.2.2.2.2.2.2.2.1.1.2.2.1
    obtain ⟨S1, a1, a2, a3, a4, a5, a6, a7, a8, _⟩ := hR.again (F := F) (by omega)
    obtain ⟨cc, rr, hq⟩ := hR.lnk1
    obtain ⟨T', S', m, e1, e2, e3, e4, e5, e6, e7, e8, e9, e10⟩ := P_end (F := F) (st := 404) (by omega) a2 (hn z List.mem_cons_self) (Or.inl rfl)
    have qT := e8.k hq (show (6 : Nat) ∈ kX by decide)
    have hRA : RA I T' S' X Y Z Q [] Pd (j0 + 1) rs c (k1 + gvC z) (k2 + 19 * gvC z) := by
      refine ⟨e3, cost_step hcost e9 hR.1, ?_⟩
      rw [e5, e6, e7, a3, a4, a5]
      rw [a4, a6] at e4
      exact hI _ _ _ _ _ _ _ _ _ _ hIv e4
    obtain ⟨T2, S2, k1', k2', u1, u2, u3⟩ := ih T' S' (j0 + 1) _ _ hRA (fun y hy => hn y (List.mem_cons_of_mem _ hy)) f g (by simp at hf; omega) (by simp at hg; omega)
    have jj : j0 + 1 + Pd.length = j0 + (z :: Pd).length := by simp; omega
    refine ⟨T2, S2, k1', k2', ?_, ?_, by rw [← jj]; exact u3⟩
    · show D_c_EdgeHouse_endAll_3 F (f + 1) 512 (some (527 + 8 * n)) 404 (some z.1) T = some T2
      rw [e1 f, Qr18 qT, Option.bind_some]
      exact u1
    · unfold D_m_bringFill_161
      rw [ge_n (by omega) (by omega), decide_eq_false (by simp), cond_false, a1, Option.bind_some]
      simp only [e2, Option.bind_some, q1]
      rw [← jj]
      exact u2
end
