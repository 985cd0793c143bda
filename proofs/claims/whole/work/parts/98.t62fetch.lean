/-! A FETCH comes to a parent. -/
theorem qM_cut {m : Nat → Int32} {l fo : Nat} : qM (cut m) l fo = qM m l fo := by
  funext i
  rfl
def FaRows (I : Iv) : Prop := ∀ M1 m M2 Q Z E N k1 k2 n, I (M1 ++ m :: M2) Q [] Z E N k1 k2 → m 0 = 0 → m 2 = Int32.ofNat n → 1 ≤ n → n ≤ 2 → Q.length + 1 ≤ 700
def ClFet (I : Iv) : Prop := ∀ M1 m M2 Q Z E N k1 k2 n p v l fo a, I (M1 ++ m :: M2) Q [] Z E N k1 k2 → m 0 = 0 → m 2 = Int32.ofNat n → 1 ≤ n → n ≤ 2 → p < 32 → v < 4 → m 4 = Int32.ofNat p → m 5 = Int32.ofNat v → l < 4 → fo < 2 → m 21 = Int32.ofNat (l + 4 * fo) → I (M1 ++ M2) Q [lk1 (a, 128 * n + (4 * p + v), none, qM m l fo, none)] Z E N (k1 + 1) (k2 + 19)
section
variable {I : Iv} {T T1 : tT} {S S1 : mS} {X Y : Nat → List (Nat × Nat)} {Z : Nat → List Fz} {Q : List Rq} {j0 c F n k1 k2 : Nat} {rs : List Nat} {z : Rq} {M1 M2 : List (Nat → Int32)}
/-- a request that is to be looked at is laid out -/
theorem RB.enter (h : RB T S X Y Z Q [] [] j0 rs c) (hL : okL T1) (st : ∀ b x, T.1 b = some x → T1.1 b = some x) (hi : ∀ i, S1.1 i = S.1 i) (hr : ∀ a k, ¬ (a = 622 ∧ wOf Q ≤ k ∧ k < wOf Q + 12) → rd S1 a k = rd S a k) (hz : isQr T1 S1 rs z (fun i => rd S1 622 (wOf Q + i))) (hl : Q.length + 1 ≤ 700) (hnew : ∀ x ∈ Q, ¬ x.1 = z.1) (hcl : ∀ r, z.2.2.1 = some r → ∀ x ∈ Q, ¬ x.2.2.1 = some r) : RB T1 S1 X Y Z Q [z] [] j0 rs c := by
  obtain ⟨h1, h2, h3, h4, h5, h6, h7, h8, h9, h10⟩ := h
  have ag : ∀ as is, (∀ a ∈ as, ¬ a = 622) → Ag as is S S1 := fun as is p => ⟨fun a ha k => hr a k (fun w => p a ha w.1), fun i _ => hi i⟩
  have kq : ∀ {A K : List Nat}, Kq A K T T1 := fun b x hb _ => st b x hb
  refine ⟨hL, h2.fr kq (ag _ _ (by decide)), h3.fr kq (ag _ _ (by decide)), h4.fr kq, h5.fr kq (ag _ _ (by decide)), h6.fr kq (ag _ _ (by decide)), h7.fr kq (ag _ _ (by decide)), ?_, h9.fr kq (ag _ _ (by decide)), h10.fr kq (ag _ _ (by decide)) (fun k a b d => ?_)⟩
  · obtain ⟨⟨a1, a2, a3, a4⟩, b1, b2, b3, c1, c2, d1, dP, d2⟩ := h8
    have hS' : Ag [620] [] S S1 := ag _ _ (by decide)
    rw [List.nil_append, List.append_nil] at c1 c2 a2
    refine ⟨⟨(hi 74).trans a1, ?_, a3, Nat.le_refl _⟩, fun k x hx => ?_, fun x hx => ?_, fun k x hx => (by simp at hx), ?_, ?_, fun f => (d1 f).fr kq, trivial, fun x hx => by rw [hr 609 _ (by omega)]; exact d2 x hx⟩
    · rw [List.append_nil, List.length_append]
      exact hl
    · have hk : k < Q.length := (List.getElem?_eq_some_iff.mp hx).1
      exact (b1 k x hx).fr kq hS' (fun r _ => hr _ _ (by omega)) (fun i hi => hr _ _ (by unfold wOf; omega))
    · rw [List.mem_singleton.mp hx]
      exact hz
    · rw [List.append_nil, List.map_append, List.nodup_append]
      refine ⟨c1, by simp, fun a ha b hb e => ?_⟩
      obtain ⟨x, x1, x2⟩ := List.mem_map.mp ha
      have : b = z.1 := by simpa using hb
      exact hnew x x1 (x2.trans (e.trans this))
    · rw [List.append_nil, List.filterMap_append, List.nodup_append]
      refine ⟨c2, ?_, fun a ha b hb e => ?_⟩
      · cases hz' : z.2.2.1 <;> simp [hz']
      · obtain ⟨x, x1, x2⟩ := List.mem_filterMap.mp ha
        have hb' : z.2.2.1 = some b := by
          obtain ⟨x', y1, y2⟩ := List.mem_filterMap.mp hb
          rw [List.mem_singleton.mp y1] at y2
          exact y2
        exact hcl b hb' x x1 (by rw [← e]; exact x2)
  · have e9 : ∀ i, mRow S1 k i = mRow S k i := fun i => hr _ _ (by omega)
    exact ⟨k, ⟨by rw [← hi 77]; exact a, b⟩, (e9 0).symm.trans d, e9 3, e9 5, e9 4⟩
theorem m_fet {w p v : Nat} (hn : n < 7) (h1 : 1 ≤ n) (hw : w + 12 ≤ 48000) (sp : D_m_spare F S = some (Int32.ofNat w)) (e4 : came S 4 = Int32.ofNat p) (e5 : came S 5 = Int32.ofNat v) : ∃ S1, D_m_bringFetch F (Int32.ofNat n) S = (D_m_look F (Int32.ofNat w) S1).bind (fun S109 => some S109) ∧ (∀ i, S1.1 i = S.1 i) ∧ (∀ a k, ¬ (a = 622 ∧ w ≤ k ∧ k < w + 12) → rd S1 a k = rd S a k) ∧ ∀ i, i < 12 → rd S1 622 (w + i) = if i = 0 then Int32.ofNat n else if i = 1 then Int32.ofNat (4 * p + v) else if i = 2 then -1 else if i = 3 then came S 1 else if i = 4 then came S 3 else if i = 5 then came S 6 else if i = 6 then came S 7 else if i = 7 then came S 8 else if i = 8 then came S 9 else if i = 9 then came S 10 else if i = 10 then 0 else came S 21 := by
  have key : (4 : Int32) * Int32.ofNat p + Int32.ofNat v = Int32.ofNat (4 * p + v) := by rw [k4, i_add]
  have C : ∀ (X : mS) (k : Nat), k < 22 → (∀ j, rd X 628 j = rd S 628 j) → aget 0 22 X 628 (Int32.ofNat k) = some (came S k) := fun X k hk hX => (aget_n (Or.inl rfl) hk (by decide)).trans (by rw [hX]; rfl)
  have step : ∀ (X : mS) (k : Nat) (x : Int32), k < 12 → (∀ j, rd X 628 j = rd S 628 j) → ∃ X', aput 48000 X 622 (Int32.ofNat (w + k)) x = some X' ∧ (∀ j, rd X' 628 j = rd S 628 j) ∧ (∀ i, X'.1 i = X.1 i) ∧ ∀ a j, rd X' a j = if a = 622 ∧ j = w + k then x else rd X a j := fun X k x hk hX => ⟨_, aput_n (by omega) (by decide), fun j => by rw [rd_up2, if_neg (by omega)]; exact hX j, fun i => by rw [up2_1], fun a j => by rw [rd_up2]⟩
  obtain ⟨A0, b0, c0, d0, f0⟩ := step S 0 (Int32.ofNat n) (by decide) (fun _ => rfl)
  obtain ⟨A1, b1, c1, d1, f1⟩ := step A0 1 (Int32.ofNat (4 * p + v)) (by decide) c0
  obtain ⟨A2, b2, c2, d2, f2⟩ := step A1 2 (-1) (by decide) c1
  obtain ⟨A3, b3, c3, d3, f3⟩ := step A2 3 (came S 1) (by decide) c2
  obtain ⟨A4, b4, c4, d4, f4⟩ := step A3 4 (came S 3) (by decide) c3
  obtain ⟨A5, b5, c5, d5, f5⟩ := step A4 5 (came S 6) (by decide) c4
  obtain ⟨A6, b6, c6, d6, f6⟩ := step A5 6 (came S 7) (by decide) c5
  obtain ⟨A7, b7, c7, d7, f7⟩ := step A6 7 (came S 8) (by decide) c6
  obtain ⟨A8, b8, c8, d8, f8⟩ := step A7 8 (came S 9) (by decide) c7
  obtain ⟨A9, b9, c9, d9, f9⟩ := step A8 9 (came S 10) (by decide) c8
  obtain ⟨A10, b10, c10, d10, f10⟩ := step A9 10 0 (by decide) c9
  obtain ⟨A11, b11, c11, d11, f11⟩ := step A10 11 (came S 21) (by decide) c10
  have x4 : aget 0 22 S 628 (4 : Int32) = some (Int32.ofNat p) := (C S 4 (by decide) (fun _ => rfl)).trans (by rw [e4])
  have x5 : aget 0 22 S 628 (5 : Int32) = some (Int32.ofNat v) := (C S 5 (by decide) (fun _ => rfl)).trans (by rw [e5])
  have g1 : aget 0 22 A2 628 (1 : Int32) = some (came S 1) := C _ 1 (by decide) c2
  have g3 : aget 0 22 A3 628 (3 : Int32) = some (came S 3) := C _ 3 (by decide) c3
  have g6 : aget 0 22 A4 628 (6 : Int32) = some (came S 6) := C _ 6 (by decide) c4
  have g7 : aget 0 22 A5 628 (7 : Int32) = some (came S 7) := C _ 7 (by decide) c5
  have g8 : aget 0 22 A6 628 (8 : Int32) = some (came S 8) := C _ 8 (by decide) c6
  have g9 : aget 0 22 A7 628 (9 : Int32) = some (came S 9) := C _ 9 (by decide) c7
  have g10 : aget 0 22 A8 628 (10 : Int32) = some (came S 10) := C _ 10 (by decide) c8
  have g21 : aget 0 22 A10 628 (21 : Int32) = some (came S 21) := C _ 21 (by decide) c10
  have nle : m_c1 .le (Int32.ofNat n) = false := by
    have : ¬ Int32.ofNat n ≤ 0 := by
      rw [Int32.not_le]
      exact (i_lt (a := 0) (by decide) (by show n < 2147483648; omega)).mpr (by omega)
    simp [m_c1, this]
  have b0' : aput 48000 S 622 (Int32.ofNat w) (Int32.ofNat n) = some A0 := b0
  refine ⟨A11, ?_, fun i => by rw [d11, d10, d9, d8, d7, d6, d5, d4, d3, d2, d1, d0], fun a k hk => by rw [f11, if_neg (by omega), f10, if_neg (by omega), f9, if_neg (by omega), f8, if_neg (by omega), f7, if_neg (by omega), f6, if_neg (by omega), f5, if_neg (by omega), f4, if_neg (by omega), f3, if_neg (by omega), f2, if_neg (by omega), f1, if_neg (by omega), f0, if_neg (by omega)], fun i hi => ?_⟩
  · unfold D_m_bringFetch
    rw [x4, Option.bind_some, x5, Option.bind_some, nle, cond_false, sp, Option.bind_some, b0', Option.bind_some, p1, key, b1, Option.bind_some, p2, b2, Option.bind_some, g1, Option.bind_some, p3, b3, Option.bind_some, g3, Option.bind_some, p4, b4, Option.bind_some, g6, Option.bind_some, p5, b5, Option.bind_some, g7, Option.bind_some, p6, b6, Option.bind_some, g8, Option.bind_some, p7, b7, Option.bind_some, g9, Option.bind_some, p8, b8, Option.bind_some, g10, Option.bind_some, p9, b9, Option.bind_some, p10, b10, Option.bind_some, g21, Option.bind_some, p11, b11, Option.bind_some]
  · have cs : i = 0 ∨ i = 1 ∨ i = 2 ∨ i = 3 ∨ i = 4 ∨ i = 5 ∨ i = 6 ∨ i = 7 ∨ i = 8 ∨ i = 9 ∨ i = 10 ∨ i = 11 := by omega
    rcases cs with z | z | z | z | z | z | z | z | z | z | z | z
    · subst z; rw [f11, if_neg (by omega), f10, if_neg (by omega), f9, if_neg (by omega), f8, if_neg (by omega), f7, if_neg (by omega), f6, if_neg (by omega), f5, if_neg (by omega), f4, if_neg (by omega), f3, if_neg (by omega), f2, if_neg (by omega), f1, if_neg (by omega), f0, if_pos ⟨rfl, rfl⟩]; rfl
    · subst z; rw [f11, if_neg (by omega), f10, if_neg (by omega), f9, if_neg (by omega), f8, if_neg (by omega), f7, if_neg (by omega), f6, if_neg (by omega), f5, if_neg (by omega), f4, if_neg (by omega), f3, if_neg (by omega), f2, if_neg (by omega), f1, if_pos ⟨rfl, rfl⟩]; rfl
    · subst z; rw [f11, if_neg (by omega), f10, if_neg (by omega), f9, if_neg (by omega), f8, if_neg (by omega), f7, if_neg (by omega), f6, if_neg (by omega), f5, if_neg (by omega), f4, if_neg (by omega), f3, if_neg (by omega), f2, if_pos ⟨rfl, rfl⟩]; rfl
    · subst z; rw [f11, if_neg (by omega), f10, if_neg (by omega), f9, if_neg (by omega), f8, if_neg (by omega), f7, if_neg (by omega), f6, if_neg (by omega), f5, if_neg (by omega), f4, if_neg (by omega), f3, if_pos ⟨rfl, rfl⟩]; rfl
    · subst z; rw [f11, if_neg (by omega), f10, if_neg (by omega), f9, if_neg (by omega), f8, if_neg (by omega), f7, if_neg (by omega), f6, if_neg (by omega), f5, if_neg (by omega), f4, if_pos ⟨rfl, rfl⟩]; rfl
    · subst z; rw [f11, if_neg (by omega), f10, if_neg (by omega), f9, if_neg (by omega), f8, if_neg (by omega), f7, if_neg (by omega), f6, if_neg (by omega), f5, if_pos ⟨rfl, rfl⟩]; rfl
    · subst z; rw [f11, if_neg (by omega), f10, if_neg (by omega), f9, if_neg (by omega), f8, if_neg (by omega), f7, if_neg (by omega), f6, if_pos ⟨rfl, rfl⟩]; rfl
    · subst z; rw [f11, if_neg (by omega), f10, if_neg (by omega), f9, if_neg (by omega), f8, if_neg (by omega), f7, if_pos ⟨rfl, rfl⟩]; rfl
    · subst z; rw [f11, if_neg (by omega), f10, if_neg (by omega), f9, if_neg (by omega), f8, if_pos ⟨rfl, rfl⟩]; rfl
    · subst z; rw [f11, if_neg (by omega), f10, if_neg (by omega), f9, if_pos ⟨rfl, rfl⟩]; rfl
    · subst z; rw [f11, if_neg (by omega), f10, if_pos ⟨rfl, rfl⟩]; rfl
    · subst z; rw [f11, if_pos ⟨rfl, rfl⟩]; rfl
theorem P_fetch (hF : 1100 ≤ F) (hI : Clo I) (cR : FaRows I) (cT : ClFet I) (h : RB T S X Y Z Q [] [] j0 rs c) (hc : c + 10 < 2147483648) (hcost : T.2.1 ≤ k1 + capS T ∧ T.2.2 ≤ k2 + 4 * capS T) (hM : vM S = M1 ++ M2) (hIv : I (M1 ++ cut (came S) :: M2) Q [] Z (vE S) (vS S) k1 k2) {am : Nat} (hm : isMsg T am (came S)) (m0 : came S 0 = 0) (m2 : came S 2 = Int32.ofNat n) (h1 : 1 ≤ n) (h2 : n < 7) :
    ∃ T' S' X' Y' Z' Q' k1' k2', (bd2 (tnw T 6) fun a84 T85 => (D_c_Request_init129 F a84 (some am) T85).bind fun T89 => D_c_EdgeHouse_carry_99 F 512 (some (527 + 8 * n)) 0 (some a84) T89) = some T' ∧ D_m_bringFetch F (Int32.ofNat n) S = some S' ∧ RA I T' S' X' Y' Z' Q' [] [] j0 rs (c + 2) k1' k2' := by
  obtain ⟨gm, l, fo, p, v, c1, c2, c3, c4, e8, e9, e11, fl, hp, e4, hv, e5, f6, f7, l1, l2, l3, l4, l5, ea, eb, ea1, eb1, eab⟩ := hm.m0 m0
  have hbn : eb = n := by
    rw [m2] at eb1
    have := congrArg Int32.toNatClampNeg eb1
    rw [m_n_cl (by omega), m_n_cl (by omega)] at this
    exact this.symm
  have hea : 3 ≤ ea ∧ ea ≤ 6 ∧ n ≤ 2 := by omega
  obtain ⟨r1, r2, r3, r4, r5, r6, r7, r8, r9, r10⟩ := id h
  have hN : okN T := r1.1
  have hH : T.1 512 = some (house S.1) := r2
  obtain ⟨m1, m2', m3⟩ := new_req hN
  have rq := c_req129 (F := F) (m := came S) hN c1 c2 c3 c4 e8 e9 e11 l3 l4 fl
  obtain ⟨T1, hT1⟩ : ∃ x, x = tset (tadd T (cReq (fun _ => 0) none none none) 19) T.2.1 (cReq (qM (came S) l fo) none none none) := ⟨_, rfl⟩
  have f1 : ∀ x c9, T.1 x = some c9 → T1.1 x = some c9 := by
    intro x c9 hx
    have : ¬ x = T.2.1 := fun z => by rw [z, m3] at hx; cases hx
    rw [hT1, tset_1, if_neg this, tadd_1, if_neg this]
    exact hx
  have q1' : T1.1 T.2.1 = some (cReq (qM (came S) l fo) none none none) := by rw [hT1]; exact tset_at
  rw [← hT1] at rq
  have cs1 : Cs T T1 1 19 := by
    have k1' : CsP Prod.snd T 1 19 (tnw T 6) := K_tnw rfl
    have := k1' _ m1
    exact (this.trans (K_c_Request_init129 (F := F) _ rq)).mono (by decide) (by decide)
  have hl := cR _ _ _ _ _ _ _ _ _ n hIv m0 m2 h1 hea.2.2
  have hw : wOf Q < 47000 := by unfold wOf; omega
  obtain ⟨w, hw'⟩ : ∃ w, w = wOf Q := ⟨_, rfl⟩
  rw [← hw'] at hw
  have sp : D_m_spare F S = some (Int32.ofNat w) := by
    unfold D_m_spare
    rw [r8.1.1, p1, k12, hw']
    rfl
  obtain ⟨S1, mf, i1, r1w, row⟩ := m_fet (F := F) (n := n) (w := w) (p := p) (v := v) h2 h1 (by omega) sp e4 e5
  have r1' : ∀ a k, ¬ (a = 622 ∧ wOf Q ≤ k ∧ k < wOf Q + 12) → rd S1 a k = rd S a k := fun a k hk => r1w a k (by rw [hw']; exact hk)
  obtain ⟨z, hz⟩ : ∃ z : Rq, z = (T.2.1, 128 * n + (4 * p + v), none, qM (came S) l fo, none) := ⟨_, rfl⟩
  have iq : isQr T1 S1 rs z (fun i => rd S1 622 (wOf Q + i)) := by
    rw [hz, ← hw']
    refine ⟨⟨none, q1'⟩, n, ⟨⟨h1, h2⟩, ⟨p, v, hp, hv, rfl, e4, e5, row 0 (by decide), row 1 (by decide)⟩, ⟨l, fo, l1, l2, rfl, rfl, (row 11 (by decide)).trans l5⟩, Or.inl rfl, row 10 (by decide), fl, f6, f7⟩, hea.2.2, row 2 (by decide), row 3 (by decide), ⟨ea, hea.1, hea.2.1, ea1⟩, row 4 (by decide), row 5 (by decide), row 6 (by decide), row 7 (by decide), row 8 (by decide), row 9 (by decide), rfl, rfl, rfl, rfl⟩
  have hR : RB T1 S1 X Y Z Q [z] [] j0 rs c := by
    refine h.enter (cs1 h.1).1 f1 i1 r1' iq hl (fun x hx e => ?_) (fun r hr => by rw [hz] at hr; cases hr)
    obtain ⟨k, hk⟩ := List.mem_iff_getElem?.mp hx
    obtain ⟨cc, rr, bb, hq⟩ := (r8.2.1 k x hk).1.cell
    rw [e, hz, m3] at hq
    cases hq
  have hRA : RA I T1 S1 X Y Z Q [z] [] j0 rs c (k1 + 1) (k2 + 19) := by
    refine ⟨hR, cost_step hcost cs1 h.1, ?_⟩
    obtain ⟨v1, v2, v3⟩ := row_views (S := S) (S2 := S1) i1 (fun a k ha => r1' a k (fun w => ha w.1))
    rw [v1, v2, v3, hM, hz]
    have := cT _ _ _ _ _ _ _ _ _ n p v l fo T.2.1 hIv m0 m2 h1 hea.2.2 hp hv e4 e5 l1 l2 l5
    rw [qM_cut] at this
    exact this
  obtain ⟨T2, S3, X2, Y2, Z2, Q2, m1', m2'', u1, u2, u3⟩ := look_both (F := F) hF hI hRA hc (n := n) (by rw [hz]; show (128 * n + (4 * p + v)) / 128 = n; omega) ⟨none, none, by rw [hz]; exact q1'⟩
  refine ⟨T2, S3, X2, Y2, Z2, Q2, m1', m2'', ?_, ?_, u3⟩
  · obtain ⟨F', hF'⟩ : ∃ x, F = x + 1 + 1 := ⟨F - 2, by omega⟩
    have z1 : z.1 = T.2.1 := by rw [hz]
    rw [z1] at u1
    simp only [bd2, m1, Option.bind_some, rq, D_c_EdgeHouse_carry_99]
    rw [show D_c_EdgeHouse_carry_101 F F = D_c_EdgeHouse_carry_101 F (F' + 1 + 1) by rw [← hF']]
    unfold D_c_EdgeHouse_carry_101
    have p18 : tpr T1 T.2.1 6 18 none = some T1 := (Qw18 q1').trans (by rw [tset_own q1'])
    have p12 : tpz T1 T.2.1 6 12 0 = some T1 := by
      unfold tpz
      rw [if_pos (Or.inl rfl)]
      refine (Qp12 q1').trans ?_
      rw [tset_own (c := cReq (fup (qM (came S) l fo) 12 0) none none none) q1']
    simp only [nc, Qr18 q1', Option.bind_some, p18, p12, tcl_o (f1 _ _ hH), u1]
    rfl
  · rw [mf, hw', u2]
    rfl
end
