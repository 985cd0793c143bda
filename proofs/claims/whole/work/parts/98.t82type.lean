/-! type(word, n). -/
/-- a byte of a word -/
def bW (x : Int64) (k : Nat) : Int32 := ((x >>> ((((8 : Int32) * Int32.ofNat k) : Int32).toInt64 &&& 63)) &&& ((255) : Int64)).toInt32
theorem sh_bv (x : BitVec 64) (s : Nat) (hs : s ≤ 56) : (x >>> s) &&& 255#64 = (x.sshiftRight s) &&& 255#64 := by
  refine BitVec.eq_of_getLsbD_eq (fun i hi => ?_)
  simp only [BitVec.getLsbD_and, BitVec.getLsbD_ushiftRight, BitVec.getLsbD_sshiftRight]
  by_cases w : i < 8
  · have : s + i < 64 := by omega
    simp [this, hi, Nat.not_le.mpr hi]
  · have : (255#64).getLsbD i = false := by
      have e : (255#64) = BitVec.ofNat 64 (2 ^ 8 - 1) := rfl
      rw [e, BitVec.getLsbD_ofNat, Nat.testBit_two_pow_sub_one]
      simp [w]
    rw [this]
    simp
theorem bW_u (x : Int64) {k : Nat} (hk : k < 8) : (((x : Int64).toUInt64 >>> ((((8 : Int32) * Int32.ofNat k) : Int32).toInt64.toUInt64 &&& Int64.toUInt64 63)).toInt64 &&& ((255) : Int64)).toInt32 = bW x k := by
  unfold bW
  congr 1
  have hs : k = 0 ∨ k = 1 ∨ k = 2 ∨ k = 3 ∨ k = 4 ∨ k = 5 ∨ k = 6 ∨ k = 7 := by omega
  apply Int64.toBitVec_inj.mp
  rcases hs with rfl | rfl | rfl | rfl | rfl | rfl | rfl | rfl
  · exact sh_bv x.toBitVec 0 (by decide)
  · exact sh_bv x.toBitVec 8 (by decide)
  · exact sh_bv x.toBitVec 16 (by decide)
  · exact sh_bv x.toBitVec 24 (by decide)
  · exact sh_bv x.toBitVec 32 (by decide)
  · exact sh_bv x.toBitVec 40 (by decide)
  · exact sh_bv x.toBitVec 48 (by decide)
  · exact sh_bv x.toBitVec 56 (by decide)
theorem chr_all : (List.range 127).all (fun k => decide (vp_nar .char ((((Int32.ofNat k).toUInt32 % 65536).toInt32)) = Int32.ofNat k)) = true := by decide +kernel
theorem chr_id {k : Nat} (hk : k < 127) : vp_nar .char ((((Int32.ofNat k).toUInt32 % 65536).toInt32)) = Int32.ofNat k := of_decide_eq_true (List.all_eq_true.mp chr_all k (List.mem_range.mpr hk))
section
variable {I : Iv} {T T' : tT} {S S' : mS} {X Y : Nat → List (Nat × Nat)} {Z : Nat → List Fz} {Q cz Pd : List Rq} {c F n j0 k1 k2 : Nat} {rs : List Nat}
/-- the reader changes, and what the reference keeps of reading -/
theorem RB.rdr (h : RB T S X Y Z Q cz Pd j0 rs c) (hL : okL T') (st : ∀ b x, T.1 b = some x → ¬ (513 ≤ b ∧ b ≤ 516) → T'.1 b = some x) (hi : ∀ i, 36 ≤ i → ¬ (80 ≤ i ∧ i ≤ 83) → S'.1 i = S.1 i) (hr : ∀ a k, ¬ (584 ≤ a ∧ a ≤ 588) → rd S' a k = rd S a k) (hRd : RRd T' S') : RB T' S' X Y Z Q cz Pd j0 rs c := by
  obtain ⟨r1, r2, r3, r4, r5, r6, r7, r8, r9, r10⟩ := id h
  obtain ⟨f1, f2, f3, L, x2, x5, x6, x7, x8, x9, x10, x11, y13, y14, y15, q1', q2', q3', q4', q5', q6', q7'⟩ := id r10.2.2.2.1
  have rk : ∀ b x, T.1 b = some x → (513 ≤ b ∧ b ≤ 516) → kd x = 1 ∨ (kd x = 20 ∧ ∃ t m f, x = .inr (.inl (t, m, f)) ∧ ¬ ((t = 0 ∧ m = 8) ∨ t = 3)) := by
    intro b x hb w
    have : b = 513 ∨ b = 514 ∨ b = 515 ∨ b = 516 := by omega
    rcases this with q | q | q | q
    · rw [q, q1'] at hb; cases hb; exact Or.inl rfl
    · rw [q, q4'] at hb; cases hb; exact Or.inr ⟨rfl, 2, 300, f1, rfl, by decide⟩
    · rw [q, q5'] at hb; cases hb; exact Or.inr ⟨rfl, 0, 300, f2, rfl, by decide⟩
    · rw [q, q6'] at hb; cases hb; exact Or.inr ⟨rfl, 0, 4, f3, rfl, by decide⟩
  have kq : ∀ {A K : List Nat}, (∀ a ∈ A, ¬ (513 ≤ a ∧ a ≤ 516)) → (1 ∉ K ∧ 20 ∉ K) → Kq A K T T' := by
    intro A K hA hK b x hb hk
    refine st b x hb (fun w => ?_)
    rcases hk with q | q
    · rcases rk b x hb w with v | v
      · exact hK.1 (v ▸ q)
      · exact hK.2 (v.1 ▸ q)
    · exact hA b q w
  have k8 : K8 T T' := fun b t m f hb hf => st b _ hb (fun w => by
    rcases rk b _ hb w with v | ⟨_, t', m', f', v, v2⟩
    · exact absurd v (show ¬ (20 : Nat) = 1 by decide)
    · cases v
      exact v2 hf)
  have ag : ∀ as is, (∀ a ∈ as, ¬ (584 ≤ a ∧ a ≤ 588)) → (∀ i ∈ is, 36 ≤ i ∧ ¬ (80 ≤ i ∧ i ≤ 83)) → Ag as is S S' := fun as is p q => ⟨fun a ha k => hr a k (p a ha), fun i hi' => hi i (q i hi').1 (q i hi').2⟩
  have hN : RNodes T' S' := by
    obtain ⟨⟨f9, n1, n2⟩, n3, n4⟩ := r5
    refine ⟨⟨f9, st _ _ n1 (by omega), n2⟩, fun m m1 m2 => ?_, fun m m1 m2 => ?_⟩
    · have e : nodeC S' m = nodeC S m := by
        unfold nodeC
        rw [hr 591 _ (by omega), hr 593 _ (by omega), hr 594 _ (by omega), hr 595 _ (by omega), hr 596 _ (by omega)]
      rw [e, hr 591 _ (by omega)]
      exact ⟨st _ _ (n3 m m1 m2).1 (by omega), (n3 m m1 m2).2⟩
    · obtain ⟨g', a1, a2, a3⟩ := n4 m m1 m2
      exact ⟨g', st _ _ a1 (by omega), by rw [hr 619 _ (by omega)]; exact a2, by rw [hr 619 _ (by omega)]; exact a3⟩
  have hX : RX T' S' := by
    obtain ⟨e1, e2, e3, e4, e5⟩ := r10
    refine ⟨e1.fr (kq (by decide) (by decide)) (ag _ _ (by decide) (by decide)), e2.fa (kq (by decide) (by decide)) (ag _ _ (by decide) (by decide)), fun m m1 m2 => ?_, hRd, by rw [hr 626 _ (by omega)]; exact e5⟩
    obtain ⟨g', k', a1, a2, a3⟩ := e3 m m1 m2
    refine ⟨g', k', st _ _ a1 (by omega), st _ _ a2 (by omega), ?_⟩
    simp only [hr 618 _ (show ¬ (584 ≤ 618 ∧ 618 ≤ 588) by decide), hr 619 _ (show ¬ (584 ≤ 619 ∧ 619 ≤ 588) by decide)]
    exact a3
  exact ⟨hL, r2.fr (kq (by decide) (by decide)) (ag _ _ (by decide) (by decide)), r3.fr (kq (by decide) (by decide)) (ag _ _ (by decide) (by decide)), r4.fr (kq (by decide) (by decide)), hN, r6.fr (kq (by decide) (by decide)) (ag _ _ (by decide) (by decide)), r7.fr (kq (by decide) (by decide)) (ag _ _ (by decide) (by decide)), r8.fa (kq (by decide) (by decide)) k8 (ag _ _ (by decide) (by decide)), r9.fa (kq (by decide) (by decide)) k8 (ag _ _ (by decide) (by decide)), hX⟩
theorem rdr_views (hi : ∀ i, 36 ≤ i → ¬ (80 ≤ i ∧ i ≤ 83) → S'.1 i = S.1 i) (hr : ∀ a k, ¬ (584 ≤ a ∧ a ≤ 588) → rd S' a k = rd S a k) : vM S' = vM S ∧ vE S' = vE S ∧ vS S' = vS S := by
  have ag : ∀ as is, (∀ a ∈ as, ¬ (584 ≤ a ∧ a ≤ 588)) → (∀ i ∈ is, 36 ≤ i ∧ ¬ (80 ≤ i ∧ i ≤ 83)) → Ag as is S S' := fun as is p q => ⟨fun a ha k => hr a k (p a ha), fun i hi' => hi i (q i hi').1 (q i hi').2⟩
  exact ⟨vM_ag (ag _ _ (by decide) (by decide)), vE_ag (ag _ _ (by decide) (by decide)), vS_ag (ag _ _ (by decide) (by decide))⟩
/-- the reader's cell -/
def cRd (L : Int32) (g : Nat → Int32) (a b d : Option Nat) : tC := .inl (1, [.ref 514, .int L, .int (g 2), .int (g 3), .ref 515, .int (g 5), .int (g 6), .int (g 7), .int (g 8), .int (g 9), .int (g 10), .int (g 11), .ref 516, rv a, rv b, rv d])
theorem type_loop {x : Int64} {g : Nat → Int32} {a b d : Option Nat} : ∀ (m L : Nat) (T : tT) (S : mS) (f1 : Nat → Value), m ≤ 8 → L + m ≤ 300 → T.1 513 = some (cRd (Int32.ofNat L) g a b d) → T.1 514 = some (.inr (.inl (2, 300, f1))) → S.1 2 = Int32.ofNat L → (∀ k, k < m → ∃ j, j < 127 ∧ bW x k = Int32.ofNat j) → (∀ i, i < L → m_toI (f1 i) = rd S 584 i ∧ ∃ k, k < 127 ∧ rd S 584 i = Int32.ofNat k) → ∀ f h, m < f → m < h → ∃ T' S' f1', D_c_Reader_write_82 F f 513 x (Int32.ofNat m - 1) T = some (1, T') ∧ D_m_type_87 F h x (Int32.ofNat m - 1) S = some (1, S') ∧ T'.1 513 = some (cRd (Int32.ofNat (L + m)) g a b d) ∧ T'.1 514 = some (.inr (.inl (2, 300, f1'))) ∧ S'.1 2 = Int32.ofNat (L + m) ∧ (∀ i, i < L + m → m_toI (f1' i) = rd S' 584 i ∧ ∃ k, k < 127 ∧ rd S' 584 i = Int32.ofNat k) ∧ (∀ b, ¬ b = 513 → ¬ b = 514 → T'.1 b = T.1 b) ∧ T'.2 = T.2 ∧ (∀ i, ¬ i = 2 → S'.1 i = S.1 i) ∧ (∀ a k, ¬ a = 584 → rd S' a k = rd S a k) ∧ Cs T T' 0 0 := by
  intro m
  induction m with
  | zero =>
    intro L T S f1 hm hL h1 h2 h3 hx hf f h hf' hh
    obtain ⟨f, rfl⟩ : ∃ y, f = y + 1 := ⟨f - 1, by omega⟩
    obtain ⟨h, rfl⟩ : ∃ y, h = y + 1 := ⟨h - 1, by omega⟩
    exact ⟨T, S, f1, rfl, rfl, h1, h2, h3, hf, fun _ _ _ => rfl, rfl, fun _ _ => rfl, fun _ _ _ => rfl, Cs.refl⟩
  | succ m ih =>
    intro L T S f1 hm hL h1 h2 h3 hx hf f h hf' hh
    obtain ⟨f, rfl⟩ : ∃ y, f = y + 1 := ⟨f - 1, by omega⟩
    obtain ⟨h, rfl⟩ : ∃ y, h = y + 1 := ⟨h - 1, by omega⟩
    obtain ⟨j, j1, j2⟩ := hx m (by omega)
    have ei : Int32.ofNat (m + 1) - 1 = Int32.ofNat m := m_n_sub (a := m + 1) (b := 1) (by omega)
    have ed : Int32.ofNat m + Int32.ofInt (-1) = Int32.ofNat m - 1 := by
      rw [show Int32.ofInt (-1) = (-1 : Int32) from rfl, Int32.sub_eq_add_neg]
    have bu := bW_u x (show m < 8 by omega)
    have bm : ((x >>> ((((8 : Int32) * Int32.ofNat m) : Int32).toInt64 &&& 63)) &&& ((255) : Int64)).toInt32 = Int32.ofNat j := j2
    rw [j2] at bu
    have g0 : tgr T 513 1 0 = some (some 514) := tgr_o (x := some 514) h1 rfl
    have g1 : tgi T 513 1 1 = some (Int32.ofNat L) := tgi_o h1 rfl
    have w1 : tasc T 514 (Int32.ofNat L) (((Int32.ofNat j).toUInt32 % 65536).toInt32) = some (tset T 514 (.inr (.inl (2, 300, fun i => if i = L then .int (Int32.ofNat j) else f1 i)))) := by
      unfold tasc
      rw [chr_id j1]
      exact tas_n h2 (by omega) (by decide)
    obtain ⟨T1, hT1⟩ : ∃ z, z = tset T 514 (.inr (.inl (2, 300, fun i => if i = L then .int (Int32.ofNat j) else f1 i))) := ⟨_, rfl⟩
    rw [← hT1] at w1
    have r1 : T1.1 513 = some (cRd (Int32.ofNat L) g a b d) := by rw [hT1]; exact tset_o h1 (by decide)
    have g1' : tgi T1 513 1 1 = some (Int32.ofNat L) := tgi_o r1 rfl
    have w2 : tpi T1 513 1 1 (Int32.ofNat (L + 1)) = some (tset T1 513 (cRd (Int32.ofNat (L + 1)) g a b d)) := (tp_o r1 (show 1 < 16 by decide)).trans rfl
    obtain ⟨T2, hT2⟩ : ∃ z, z = tset T1 513 (cRd (Int32.ofNat (L + 1)) g a b d) := ⟨_, rfl⟩
    rw [← hT2] at w2
    have a2 : T2.1 514 = some (.inr (.inl (2, 300, fun i => if i = L then .int (Int32.ofNat j) else f1 i))) := by rw [hT2]; exact tset_o (by rw [hT1]; exact tset_at) (by decide)
    have p1' : aput 300 S 584 (Int32.ofNat L) (Int32.ofNat j) = some (up2 S 584 L (Int32.ofNat j)) := aput_n (by omega) (by decide)
    obtain ⟨S2, hS2⟩ : ∃ z, z = up1 (up2 S 584 L (Int32.ofNat j)) 2 (Int32.ofNat (L + 1)) := ⟨_, rfl⟩
    have s2 : S2.1 2 = Int32.ofNat (L + 1) := by rw [hS2, up1_1, if_pos rfl]
    have rS : ∀ a k, rd S2 a k = if a = 584 ∧ k = L then Int32.ofNat j else rd S a k := fun a k => by rw [hS2, rd_up1, rd_up2]
    obtain ⟨T', S', f1', y1, y2, y3, y4, y5, y6, y7, y8, y9, y10, y11⟩ := ih (L + 1) T2 S2 _ (by omega) (by omega) (by rw [hT2]; exact tset_at) a2 s2 (fun k hk => hx k (by omega)) (fun i hi => by
      by_cases w : i = L
      · rw [if_pos w, rS, if_pos ⟨rfl, w⟩]
        exact ⟨rfl, j, j1, rfl⟩
      · rw [if_neg w, rS, if_neg (fun q => w q.2)]
        exact hf i (by omega)) f h (by omega) (by omega)
    have cs : Cs T T2 0 0 := ((K_tasc _ w1).trans (K_tpi _ w2)).mono (by decide) (by decide)
    refine ⟨T', S', f1', ?_, ?_, by rw [show L + (m + 1) = L + 1 + m by omega]; exact y3, y4, by rw [show L + (m + 1) = L + 1 + m by omega]; exact y5, by rw [show L + (m + 1) = L + 1 + m by omega]; exact y6, fun b w1 w2 => ?_, ?_, fun i hi => ?_, fun a k ha => ?_, (cs.trans y11).mono (by decide) (by decide)⟩
    · conv => lhs; unfold D_c_Reader_write_82
      rw [ei, show m_c1 .lt (Int32.ofNat m) = false from m_c1_ltf (by omega), cond_false]
      simp only [g0, g1, Option.bind_some, bu, w1, g1', p1, w2, ed]
      exact y1
    · conv => lhs; unfold D_m_type_87
      rw [ei, show m_c1 .lt (Int32.ofNat m) = false from m_c1_ltf (by omega), cond_false, h3, bm, p1', Option.bind_some]
      simp only [fput, Option.bind_some, ed]
      have e2 : (up2 S 584 L (Int32.ofNat j)).1 2 + 1 = Int32.ofNat (L + 1) := by rw [up2_1, h3, p1]
      rw [e2, ← hS2]
      exact y2
    · rw [y7 b w1 w2, hT2, tset_1, if_neg w1, hT1, tset_1, if_neg w2]
    · rw [y8, hT2, hT1]; rfl
    · rw [y9 i hi, hS2, up1_1, if_neg hi, up2_1]
    · rw [y10 a k ha, rS, if_neg (fun q => ha q.1)]
/-- the test of the bytes -/
theorem type_test {x : Int64} {n : Nat} (hn : n ≤ 8) : ∀ (m i : Nat), i + m = n → ∀ f h, m < f → m < h → ((∀ k, i ≤ k → k < n → ∃ j, j < 127 ∧ bW x k = Int32.ofNat j) ∧ (∀ T : tT, D_c_Reader_write_28 F f 513 x (Int32.ofNat n) (Int32.ofNat i) T = D_c_Reader_write_82 F F 513 x (Int32.ofNat n - 1) T) ∧ ∀ S : mS, D_m_type_33 F h x (Int32.ofNat n) (Int32.ofNat i) S = D_m_type_87 F F x (Int32.ofNat n - 1) S) ∨ ((∀ T : tT, D_c_Reader_write_28 F f 513 x (Int32.ofNat n) (Int32.ofNat i) T = some (0, T)) ∧ ∀ S : mS, D_m_type_33 F h x (Int32.ofNat n) (Int32.ofNat i) S = some (0, S)) := by
  intro m
  induction m with
  | zero =>
    intro i hi f h hf hh
    obtain ⟨f, rfl⟩ : ∃ y, f = y + 1 := ⟨f - 1, by omega⟩
    obtain ⟨h, rfl⟩ : ∃ y, h = y + 1 := ⟨h - 1, by omega⟩
    left
    refine ⟨fun k k1 k2 => by omega, fun T => ?_, fun S => ?_⟩
    · unfold D_c_Reader_write_28
      rw [ge_n (by omega) (by omega), decide_eq_true (by omega), cond_true]
    · unfold D_m_type_33
      rw [ge_n (by omega) (by omega), decide_eq_true (by omega), cond_true]
  | succ m ih =>
    intro i hi f h hf hh
    obtain ⟨f, rfl⟩ : ∃ y, f = y + 1 := ⟨f - 1, by omega⟩
    obtain ⟨h, rfl⟩ : ∃ y, h = y + 1 := ⟨h - 1, by omega⟩
    have bu := bW_u x (show i < 8 by omega)
    have bm : ((x >>> ((((8 : Int32) * Int32.ofNat i) : Int32).toInt64 &&& 63)) &&& ((255) : Int64)).toInt32 = bW x i := rfl
    have uC : ∀ T : tT, D_c_Reader_write_28 F (f + 1) 513 x (Int32.ofNat n) (Int32.ofNat i) T = cond (m_c2 .eq (bW x i) (10 : Int32)) (D_c_Reader_write_28 F f 513 x (Int32.ofNat n) (Int32.ofNat (i + 1)) T) (cond (m_c2 .lt (bW x i) (32 : Int32)) (some ((0 : Int32), T)) (cond (m_c2 .le (bW x i) (126 : Int32)) (D_c_Reader_write_28 F f 513 x (Int32.ofNat n) (Int32.ofNat (i + 1)) T) (some ((0 : Int32), T)))) := fun T => by
      conv => lhs; unfold D_c_Reader_write_28
      rw [ge_n (by omega) (by omega), decide_eq_false (by omega), cond_false]
      simp only [bu, D_c_Reader_write_71, q1]
    have uM : ∀ S : mS, D_m_type_33 F (h + 1) x (Int32.ofNat n) (Int32.ofNat i) S = cond (m_c2 .eq (bW x i) (10 : Int32)) (D_m_type_33 F h x (Int32.ofNat n) (Int32.ofNat (i + 1)) S) (cond (m_c2 .lt (bW x i) (32 : Int32)) (some ((0 : Int32), S)) (cond (m_c2 .le (bW x i) (126 : Int32)) (D_m_type_33 F h x (Int32.ofNat n) (Int32.ofNat (i + 1)) S) (some ((0 : Int32), S)))) := fun S => by
      conv => lhs; unfold D_m_type_33
      rw [ge_n (by omega) (by omega), decide_eq_false (by omega), cond_false]
      simp only [bm, D_m_type_76, q1]
    have go : (∃ j, j < 127 ∧ bW x i = Int32.ofNat j) → (∀ T : tT, D_c_Reader_write_28 F (f + 1) 513 x (Int32.ofNat n) (Int32.ofNat i) T = D_c_Reader_write_28 F f 513 x (Int32.ofNat n) (Int32.ofNat (i + 1)) T) → (∀ S : mS, D_m_type_33 F (h + 1) x (Int32.ofNat n) (Int32.ofNat i) S = D_m_type_33 F h x (Int32.ofNat n) (Int32.ofNat (i + 1)) S) → ((∀ k, i ≤ k → k < n → ∃ j, j < 127 ∧ bW x k = Int32.ofNat j) ∧ (∀ T : tT, D_c_Reader_write_28 F (f + 1) 513 x (Int32.ofNat n) (Int32.ofNat i) T = D_c_Reader_write_82 F F 513 x (Int32.ofNat n - 1) T) ∧ ∀ S : mS, D_m_type_33 F (h + 1) x (Int32.ofNat n) (Int32.ofNat i) S = D_m_type_87 F F x (Int32.ofNat n - 1) S) ∨ ((∀ T : tT, D_c_Reader_write_28 F (f + 1) 513 x (Int32.ofNat n) (Int32.ofNat i) T = some (0, T)) ∧ ∀ S : mS, D_m_type_33 F (h + 1) x (Int32.ofNat n) (Int32.ofNat i) S = some (0, S)) := by
      intro hj hC hM
      rcases ih (i + 1) (by omega) f h (by omega) (by omega) with ⟨v1, v2, v3⟩ | ⟨v1, v2⟩
      · left
        refine ⟨fun k k1 k2 => ?_, fun T => (hC T).trans (v2 T), fun S => (hM S).trans (v3 S)⟩
        by_cases w : k = i
        · rw [w]; exact hj
        · exact v1 k (by omega) k2
      · right
        exact ⟨fun T => (hC T).trans (v1 T), fun S => (hM S).trans (v2 S)⟩
    by_cases w10 : bW x i = 10
    · exact go ⟨10, by decide, w10⟩ (fun T => by rw [uC, w10]; rfl) (fun S => by rw [uM, w10]; rfl)
    · have e10 : m_c2 .eq (bW x i) (10 : Int32) = false := by simp [m_c2, w10]
      by_cases w32 : bW x i < 32
      · right
        have e32 : m_c2 .lt (bW x i) (32 : Int32) = true := by simp [m_c2, w32]
        exact ⟨fun T => by rw [uC, e10, e32]; rfl, fun S => by rw [uM, e10, e32]; rfl⟩
      · have e32 : m_c2 .lt (bW x i) (32 : Int32) = false := by simp [m_c2, w32]
        by_cases w126 : bW x i ≤ 126
        · have e126 : m_c2 .le (bW x i) (126 : Int32) = true := by simp [m_c2, w126]
          have hj : ∃ j, j < 127 ∧ bW x i = Int32.ofNat j := by
            rcases i_cases (bW x i) with q | ⟨k, hk, q⟩
            · exact absurd (Int32.lt_trans q (by decide)) w32
            · rw [q] at w126
              have := (@i_le k 126 (by show k < 2147483648; omega) (by decide)).mp w126
              exact ⟨k, by omega, q⟩
          exact go hj (fun T => by rw [uC, e10, e32, e126]; rfl) (fun S => by rw [uM, e10, e32, e126]; rfl)
        · right
          have e126 : m_c2 .le (bW x i) (126 : Int32) = false := by simp [m_c2, w126]
          exact ⟨fun T => by rw [uC, e10, e32, e126]; rfl, fun S => by rw [uM, e10, e32, e126]; rfl⟩
theorem op_type (hF : 20 ≤ F) {x : Int64} {y : Int32} (h : RA I T S X Y Z Q [] [] 0 rs c k1 k2) : ∃ v T' S', D_c_EdgeHouse_type F 512 x y T = some (v, T') ∧ D_m_type F x y S = some (v, S') ∧ RA I T' S' X Y Z Q [] [] 0 rs c k1 k2 := by
  have h0 := h.zero
  obtain ⟨S0, hS0⟩ : ∃ x, x = up1 S 0 0 := ⟨_, rfl⟩
  rw [← hS0] at h0
  obtain ⟨hR, hcost, hIv⟩ := id h0
  have hH : T.1 512 = some (house S0.1) := hR.2.1
  obtain ⟨f1, f2, f3, L, x2, x5, x6, x7, x8, x9, x10, x11, y13, y14, y15, q1', q2', q3', q4', q5', q6', q7'⟩ := id hR.2.2.2.2.2.2.2.2.2.2.2.2.1
  have cst : D_c_EdgeHouse_type F 512 x y T = (bd2 (D_c_Reader_write F 513 x y T) fun v11 T12 => (bret v11).bind fun v16 => some (v16, T12)) := by
    unfold D_c_EdgeHouse_type
    have e1 : tcl T 513 1 = some () := tcl_o q1'
    simp only [Hr0 hH, Option.bind_some, e1]
  have mst : D_m_type F x y S = cond (m_c2 .lt y (1 : Int32)) (some ((0 : Int32), S0)) (cond (m_c2 .gt y (8 : Int32)) (some ((0 : Int32), S0)) (cond (m_c2 .le ((S0.1 2) + y) (300 : Int32)) (D_m_type_33 F F x y (0 : Int32) S0) (some ((0 : Int32), S0)))) := by
    unfold D_m_type
    simp only [fput, Option.bind_some]
    rw [← hS0]
  have gL : tgi T 513 1 1 = some (Int32.ofNat L) := tgi_o q1' rfl
  have wst : D_c_Reader_write F 513 x y T = cond (m_c2 .lt y (1 : Int32)) (some ((0 : Int32), T)) (cond (m_c2 .gt y (8 : Int32)) (some ((0 : Int32), T)) (cond (m_c2 .le (Int32.ofNat L + y) (300 : Int32)) (D_c_Reader_write_28 F F 513 x y (0 : Int32) T) (some ((0 : Int32), T)))) := by
    unfold D_c_Reader_write
    rw [gL, Option.bind_some]
  have stay : D_c_Reader_write F 513 x y T = some (0, T) → D_m_type F x y S = some (0, S0) → ∃ v T' S', D_c_EdgeHouse_type F 512 x y T = some (v, T') ∧ D_m_type F x y S = some (v, S') ∧ RA I T' S' X Y Z Q [] [] 0 rs c k1 k2 := fun a b => ⟨0, T, S0, by rw [cst, a]; rfl, b, h0⟩
  rw [q3'] at mst
  cases c1 : m_c2 .lt y (1 : Int32) with
  | true => exact stay (by rw [wst, c1]; rfl) (by rw [mst, c1]; rfl)
  | false =>
    cases c2 : m_c2 .gt y (8 : Int32) with
    | true => exact stay (by rw [wst, c1, c2]; rfl) (by rw [mst, c1, c2]; rfl)
    | false =>
      cases c3 : m_c2 .le (Int32.ofNat L + y) (300 : Int32) with
      | false => exact stay (by rw [wst, c1, c2, c3]; rfl) (by rw [mst, c1, c2, c3]; rfl)
      | true =>
        rcases i_cases y with hy | ⟨n, hn, rfl⟩
        · have : y < 1 := Int32.lt_trans hy (by decide)
          simp [m_c2, this] at c1
        · have n1 : 1 ≤ n := by
            rw [show m_c2 .lt (Int32.ofNat n) (1 : Int32) = decide (n < 1) from lt_n hn (by decide)] at c1
            have := of_decide_eq_false c1
            omega
          have n8 : n ≤ 8 := by
            rw [show m_c2 .gt (Int32.ofNat n) (8 : Int32) = decide (8 < n) from gt_n hn (by decide)] at c2
            have := of_decide_eq_false c2
            omega
          have Ln : L + n ≤ 300 := by
            rw [i_add, show m_c2 .le (Int32.ofNat (L + n)) (300 : Int32) = decide (L + n ≤ 300) from le_n (by omega) (by decide)] at c3
            exact of_decide_eq_true c3
          rw [c1, c2, c3, cond_false, cond_false, cond_true] at wst mst
          rcases type_test (F := F) (x := x) (n := n) n8 n 0 (by omega) F F (by omega) (by omega) with ⟨v1, v2, v3⟩ | ⟨v1, v2⟩
          · obtain ⟨g, hg⟩ : ∃ g : Nat → Int32, g = fun i => if i = 2 then x2 else if i = 3 then S0.1 3 else if i = 5 then x5 else if i = 6 then x6 else if i = 7 then x7 else if i = 8 then x8 else if i = 9 then x9 else if i = 10 then x10 else x11 := ⟨_, rfl⟩
            have c513 : T.1 513 = some (cRd (Int32.ofNat L) g y13 y14 y15) := by rw [q1', hg]; rfl
            obtain ⟨T', S', f1', z1, z2, z3, z4, z5, z6, z7, z8, z9, z10, z11⟩ := type_loop (F := F) (x := x) n L T S0 f1 n8 Ln c513 q4' q3' (fun k hk => v1 k (Nat.zero_le _) hk) q7' F F (by omega) (by omega)
            have hi : ∀ i, 36 ≤ i → ¬ (80 ≤ i ∧ i ≤ 83) → S'.1 i = S0.1 i := fun i w _ => z9 i (by omega)
            have hr : ∀ a k, ¬ (584 ≤ a ∧ a ≤ 588) → rd S' a k = rd S0 a k := fun a k w => z10 a k (by omega)
            obtain ⟨u1, u2, u3⟩ := rdr_views hi hr
            refine ⟨1, T', S', ?_, ?_, hR.rdr (z11 hR.1).1 (fun b z hb w => by rw [z7 b (by omega) (by omega)]; exact hb) hi hr ⟨f1', f2, f3, L + n, x2, x5, x6, x7, x8, x9, x10, x11, y13, y14, y15, ?_, Ln, z5, z4, ?_, ?_, z6⟩, (by have := cost_step hcost z11 hR.1; exact ⟨by omega, by omega⟩), by rw [u1, u2, u3]; exact hIv⟩
            · have w' : D_c_Reader_write_28 F F 513 x (Int32.ofNat n) 0 T = some (1, T') := (v2 T).trans z1
              rw [cst, wst, w']
              rfl
            · exact mst.trans ((v3 S0).trans z2)
            · rw [z9 3 (by decide), z3, hg]
              rfl
            · rw [z7 515 (by decide) (by decide)]; exact q5'
            · rw [z7 516 (by decide) (by decide)]; exact q6'
          · exact stay (wst.trans (v1 T)) (mst.trans (v2 S0))
end
