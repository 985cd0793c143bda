/-! A PURGE comes. -/
def acRow (n : Nat) (j : Int32) : Nat → Int32 := fun i => if i = 0 then 3 else if i = 1 then Int32.ofNat n else if i = 3 then j else 0
/-- what a purge makes of the numbers -/
def puN (N : Nat → Nat → Int32) (n : Nat) (j : Int32) : Nat → Nat → Int32 := fun a k => if a = 0 ∧ k = n then (if N 0 n < j then j else N 0 n) else if a = 6 ∧ k = n then N 6 n + 1 else N a k
def FaPur (I : Iv) : Prop := ∀ M1 m M2 Q Z E N k1 k2 n, I (M1 ++ m :: M2) Q [] Z E N k1 k2 → m 0 = 2 → m 2 = Int32.ofNat n → 1 ≤ n → n < 7 → few 60 (N 6 n)
/-- what a purge lets go -/
def vPur (E E' : Nat → Option (Nat → Int32)) (n : Nat) (x y : Int32) : Prop := ∀ e, (E' e = none ∨ E' e = E e) ∧ (e / 1024 = n → ∀ h, E' e = some h → v_purged (Int32.ofNat (eP e)) (h 7) x y = false)
def ClPur (I : Iv) : Prop := ∀ M1 m M2 Q Z E E' N k1 k2 n, I (M1 ++ m :: M2) Q [] Z E N k1 k2 → m 0 = 2 → m 2 = Int32.ofNat n → 1 ≤ n → n < 7 → vPur E E' n (m 5) (m 4) → I (psh (M1 ++ M2) (cut (acRow n (m 3)))) Q [] Z E' (puN N n (m 3)) (k1 + 1) (k2 + 19)
section
variable {T T' : tT} {S S' S3 : mS} {X Y : Nat → List (Nat × Nat)} {Z : Nat → List Fz} {Q cz Pd : List Rq} {j0 c F n k1 k2 : Nat} {rs : List Nat} {I : Iv} {M1 M2 : List (Nat → Int32)}
/-- arrays and nodes change -/
theorem RB.arr2 {B : Nat → Prop} (h : RB T S X Y Z Q cz Pd j0 rs c) (hL : okL T') (st : ∀ b x, T.1 b = some x → ¬ B b → T'.1 b = some x) (hB : ∀ b, B b → ∃ x, T.1 b = some x ∧ (kd x = 4 ∨ ∃ t m f, x = .inr (.inl (t, m, f)) ∧ ¬ ((t = 0 ∧ m = 8) ∨ t = 3))) (hA : ∀ b ∈ aFix, ¬ B b) (hS : Ag [624, 592, 601, 602, 603, 604, 605, 606, 607, 608, 620, 621, 627] [71, 39, 38, 37, 36, 77, 58, 70] S S') (hS2 : Ag [609, 610, 611, 612, 613, 614, 615, 616, 617, 620, 621, 622, 623] [74] S S') (hN : RNodes T' S') (hX : RX T' S') : RB T' S' X Y Z Q cz Pd j0 rs c := by
  obtain ⟨r1, r2, r3, r4, r5, r6, r7, r8, r9, r10⟩ := id h
  have k8 : K8 T T' := fun b t m f hb hf => st b _ hb (fun w => by
    obtain ⟨x, a1, a2⟩ := hB b w
    rw [a1] at hb
    cases hb
    rcases a2 with a2 | ⟨t', m', f', a2, a3⟩
    · exact absurd a2 (show ¬ (20 : Nat) = 4 by decide)
    · cases a2
      exact a3 hf)
  have kq : ∀ {A K : List Nat}, 20 ∉ K → 4 ∉ K → (∀ b ∈ A, b ∈ aFix) → Kq A K T T' := by
    intro A K hK hK4 hA' b x hb hk
    rcases hk with hk | hk
    · refine st b x hb (fun w => ?_)
      obtain ⟨x', a1, a2⟩ := hB b w
      rw [a1] at hb
      cases hb
      rcases a2 with a2 | ⟨t', m', f', a2, a3⟩
      · rw [a2] at hk; exact hK4 hk
      · rw [a2] at hk; exact hK hk
    · exact st b x hb (hA b (hA' b hk))
  exact ⟨hL, r2.fr (kq (by decide) (by decide) (by decide)) (hS.mono (by decide) (by decide)), r3.fr (kq (by decide) (by decide) (by decide)) (hS.mono (by decide) (by decide)), r4.fr (kq (by decide) (by decide) (by decide)), hN, r6.fr (kq (by decide) (by decide) (by decide)) (hS.mono (by decide) (by decide)), r7.fr (kq (by decide) (by decide) (by decide)) (hS2.mono (by decide) (by decide)), r8.fa (kq (by decide) (by decide) (by decide)) k8 (hS2.mono (by decide) (by decide)), r9.fa (kq (by decide) (by decide) (by decide)) k8 (hS.mono (by decide) (by decide)), hX⟩
theorem RB.norm (h : RB T S X Y Z Q cz Pd j0 rs c) (hr : ∀ a k, ¬ a = 601 → rd S' a k = rd S a k) (h6 : ∀ k, rd S' 601 k = 0 ↔ rd S 601 k = 0) (hi : ∀ i, S'.1 i = S.1 i) : RB T S' X Y Z Q cz Pd j0 rs c ∧ vM S' = vM S ∧ vE S' = vE S ∧ vS S' = vS S := by
  obtain ⟨r1, r2, r3, r4, r5, r6, r7, r8, r9, r10⟩ := h
  have ag : ∀ as is, (∀ a ∈ as, ¬ a = 601) → Ag as is S S' := fun as is q => ⟨fun a ha k => hr a k (q a ha), fun i _ => hi i⟩
  obtain ⟨s1, s2, s3, U, s4, s5⟩ := r6
  have et : ∀ e, eT S' e = eT S e := fun e => by funext i; exact hr 603 _ (by decide)
  refine ⟨⟨r1, r2.fr Kq.refl (ag _ _ (by decide)), r3.fr Kq.refl (ag _ _ (by decide)), r4, r5.fr Kq.refl (ag _ _ (by decide)), ⟨fun m m1 m2 => ⟨(s1 m m1 m2).1.norm hr h6, (s1 m m1 m2).2⟩, s2, fun e e' he he' t1 t2 e3 => ?_, U, ⟨(hi 58).trans s4.1, fun e he t => ?_⟩, s5⟩, r7.fr Kq.refl (ag _ _ (by decide)), r8.fr Kq.refl (ag _ _ (by decide)) (fun z _ r _ => hr _ _ (by decide)) (fun k _ => hr _ _ (by decide)), r9.fr Kq.refl (ag _ _ (by decide)), r10.fr Kq.refl (ag _ _ (by decide)) (fun k x1 x2 x3 => ?_)⟩, vM_ag (ag _ _ (by decide)), ?_, vS_ag (ag _ _ (by decide))⟩
  · rw [et, et]
    exact s3 e e' he he' (fun z => t1 ((h6 e).mpr z)) (fun z => t2 ((h6 e').mpr z)) e3
  · rw [hr 608 _ (by decide)]
    exact s4.2 e he (fun z => t ((h6 e).mpr z))
  · have e9 : ∀ i, mRow S' k i = mRow S k i := fun i => hr _ _ (by decide)
    exact ⟨k, ⟨by rw [hi] at x1; exact x1, x2⟩, (e9 0).symm.trans x3, e9 3, e9 5, e9 4⟩
  · funext e
    unfold vE
    simp only [h6, hr 603 _ (show ¬ (603 = 601) by decide), hr 604 _ (show ¬ (604 = 601) by decide), hr 605 _ (show ¬ (605 = 601) by decide), hr 606 _ (show ¬ (606 = 601) by decide), hr 607 _ (show ¬ (607 = 601) by decide)]
/-- an ACK goes out -/
theorem ack_core (hF : 23 ≤ F) (hN : okN T) (hH : RHouse T S) (hP : RPost T S) {j : Int32} (i1 : ∀ i, S3.1 i = S.1 i) (r3 : ∀ a k, ¬ a = 625 → rd S3 a k = rd S a k) (hand : ∀ i, i < 22 → rd S3 625 i = acRow n j i) (h1 : 1 ≤ n) (h2 : n < 7) : ∃ Tb T' S', D_c_Message_init F T.2.1 (3 : Int32) (Int32.ofNat n) (0 : Int32) j (tadd T (cMsg (fun _ => 0) none) 19) = some Tb ∧ tcl Tb 512 0 = some () ∧ D_c_EdgeHouse_send F 512 (some T.2.1) Tb = some T' ∧ D_m_post F S3 = some S' ∧ RHouse T' S' ∧ RPost T' S' ∧ FrC [512, 523] T T' ∧ (∀ i, ¬ i = 77 → ¬ i = 39 → S'.1 i = S.1 i) ∧ (∀ b k, ¬ b = 624 → ¬ b = 625 → rd S' b k = rd S b k) ∧ pst S S' (acRow n j) := by
  obtain ⟨m1, m2, m3⟩ := new_msg hN
  let G : Nat → Int32 := fup (fup (fup (fup (fun _ => 0) 0 3) 1 (Int32.ofNat n)) 2 0) 3 j
  let Tb : tT := tset (tadd T (cMsg (fun _ => 0) none) 19) T.2.1 (cMsg G none)
  have bf : ∀ x c9, T.1 x = some c9 → Tb.1 x = some c9 := by
    intro x c9 hx
    have : ¬ x = T.2.1 := fun z => by rw [z, m3] at hx; cases hx
    show (tset (tadd T (cMsg (fun _ => 0) none) 19) T.2.1 (cMsg G none)).1 x = _
    rw [tset_1, if_neg this, tadd_1, if_neg this]
    exact hx
  have bN : okN Tb := by
    intro x c9 hx
    have hx' : (tset (tadd T (cMsg (fun _ => 0) none) 19) T.2.1 (cMsg G none)).1 x = some c9 := hx
    rw [tset_1, tadd_1] at hx'
    show x < T.2.1 + 1
    split at hx'
    · omega
    · exact Nat.lt_succ_of_lt (hN x c9 hx')
  have bH : RHouse Tb S3 := by
    show Tb.1 512 = some (house S3.1)
    rw [bf 512 _ hH]
    congr 1
    unfold house
    simp only [i1]
  have bP : RPost Tb S3 := by
    obtain ⟨k, cap, ms, z1, z2, z3, z4, z5⟩ := id hP
    refine ⟨k, cap, ms, by rw [i1]; exact z1, z2, bf _ _ z3, z4, fun j dd hd => ?_⟩
    refine ((z5 j dd hd).same (fun x c hx _ => bf x c hx)).ext (fun i hi => ?_)
    exact r3 _ _ (by decide)
  have e0 : rd S3 625 0 = 3 := hand 0 (by decide)
  have e1 : rd S3 625 1 = Int32.ofNat n := hand 1 (by decide)
  have e2 : rd S3 625 2 = 0 := hand 2 (by decide)
  have e3 : rd S3 625 3 = j := hand 3 (by decide)
  have e4 : rd S3 625 4 = 0 := hand 4 (by decide)
  have e5 : rd S3 625 5 = 0 := hand 5 (by decide)
  have e6 : rd S3 625 6 = 0 := hand 6 (by decide)
  have e7 : rd S3 625 7 = 0 := hand 7 (by decide)
  have e8 : rd S3 625 8 = 0 := hand 8 (by decide)
  have e9 : rd S3 625 9 = 0 := hand 9 (by decide)
  have e21 : rd S3 625 21 = 0 := hand 21 (by decide)
  obtain ⟨T', S', s1, s2, s3, s4, s5, s6, s7, s8⟩ := send_both (F := F) (T := Tb) (S := S3) (a := T.2.1) (g := G) (t := none) hF bH bP tset_at (fun cap ms h9 hmem => by
    obtain ⟨k, cap', ms', z1, z2, z3, z4, z5⟩ := id hP
    rw [bf _ _ z3] at h9
    cases h9
    obtain ⟨j, hj⟩ := List.mem_iff_getElem?.mp hmem
    obtain ⟨fs, hc⟩ := (z5 j _ hj).cls
    rw [m3] at hc
    cases hc) (fun T2 h2' hsm => by
    refine ⟨_, none, h2', ?_, e9.symm, e8.symm, Or.inr (Or.inr ⟨rfl, e6, e7, e8, e9, e21, rfl, rfl, rfl, rfl, rfl, Or.inr ⟨e0, e2, n, h1, by omega, e1⟩⟩)⟩
    intro i hi
    match i, hi with
    | 0, _ => exact e0.symm
    | 1, _ => exact e1.symm
    | 2, _ => exact e2.symm
    | 3, _ => exact e3.symm
    | 4, _ => exact e4.symm
    | 5, _ => exact e5.symm)
  refine ⟨Tb, T', S', ?_, tcl_o (bf 512 _ hH), s1, s2, s3, s4, ?_, fun i j1 j2 => by rw [s6 i j1 j2, i1], fun x k hx hy => by rw [s7 x k hx, r3 x k hy], s8.of (i1 77) (fun k => r3 624 k (by decide)) hand⟩
  · simp only [Option.bind_some, D_c_Message_init, Mp0 m2, Mp1 tset_at, Mp2 tset_at, Mp3 tset_at, tset_tset]
    rfl
  · refine ⟨fun x c9 hx hl => s5.1 x c9 (bf x c9 hx) (fun z => ?_), fun _ => s5.2.1 bN, Nat.le_trans (Nat.le_succ _) s5.2.2.1, Nat.le_trans (Nat.le_add_right _ _) s5.2.2.2⟩
    have : ¬ x = T.2.1 := fun e => by rw [e, m3] at hx; cases hx
    simp only [List.mem_cons, List.mem_nil_iff, or_false] at z hl
    rcases z with z | z | z
    · exact hl (Or.inl z)
    · exact hl (Or.inr z)
    · exact this z
/-- the reference's loop over a node's entries -/
def puTail (F : Nat) (n : Nat) (S : mS) : Option mS := (aget 0 22 S 628 (3 : Int32)).bind fun v20 => (aget 0 7 S 593 (Int32.ofNat n)).bind fun v22 => (cond (m_c2 .le v20 v22) ((aget 0 7 S 593 (Int32.ofNat n)).bind fun v27 => some v27) ((aget 0 22 S 628 (3 : Int32)).bind fun v29 => some v29)).bind fun v31 => (aput 7 S 593 (Int32.ofNat n) v31).bind fun S32 => (aget 0 22 S32 628 (3 : Int32)).bind fun v34 => (D_m_blank F (3 : Int32) (Int32.ofNat n) (0 : Int32) v34 (0 : Int32) S32).bind fun S36 => (D_m_post F S36).bind fun S38 => some S38
theorem m_pu_loop (h2 : n < 7) (S0 : mS) (hb : isPu (came S0 5) (came S0 4)) (hk : ∀ e, 1024 * n ≤ e → e < 1024 * n + 1024 → ¬ rd S0 601 e = 0 → few 256 (eT S0 e 7)) : ∀ (m x : Nat) (S : mS), x + m = 1024 → (∀ i, S.1 i = S0.1 i) → (∀ a k, ¬ a = 601 → rd S a k = rd S0 a k) → (∀ k, 1024 * n + x ≤ k → rd S 601 k = rd S0 601 k) → ∀ g, m < g → ∃ S2, D_m_bringPurge_60 F g (Int32.ofNat n) (Int32.ofNat x) S = puTail F n S2 ∧ (∀ i, S2.1 i = S0.1 i) ∧ (∀ a k, ¬ a = 601 → rd S2 a k = rd S0 a k) ∧ ∀ k, rd S2 601 k = if 1024 * n + x ≤ k ∧ k < 1024 * n + 1024 then (if rd S0 601 k = 0 then 0 else if v_purged (Int32.ofNat (eP k)) (eT S0 k 7) (came S0 5) (came S0 4) = true then 0 else 1) else rd S 601 k := by
  intro m
  induction m with
  | zero =>
    intro x S hx hi hr h6 g hg
    obtain ⟨g, rfl⟩ : ∃ y, g = y + 1 := ⟨g - 1, by omega⟩
    refine ⟨S, ?_, hi, hr, fun k => by rw [if_neg (by omega)]⟩
    unfold D_m_bringPurge_60
    rw [show m_c2 .ge (Int32.ofNat x) (1024 : Int32) = decide (1024 ≤ x) from ge_n (by omega) (by decide), decide_eq_true (by omega)]
    rfl
  | succ m ih =>
    intro x S hx hi hr h6 g hg
    obtain ⟨g, rfl⟩ : ∃ y, g = y + 1 := ⟨g - 1, by omega⟩
    obtain ⟨e, he⟩ : ∃ e, e = 1024 * n + x := ⟨_, rfl⟩
    have e7 : e < 7168 := by omega
    have ix : (1024 : Int32) * Int32.ofNat n + Int32.ofNat x = Int32.ofNat e := by rw [k1024, i_add, he]
    have c5 : aget 0 22 S 628 (5 : Int32) = some (came S0 5) := (aget_n (k := 5) (Or.inl rfl) (by decide) (by decide)).trans (by rw [hr 628 5 (by decide)]; rfl)
    have c4 : aget 0 22 S 628 (4 : Int32) = some (came S0 4) := (aget_n (k := 4) (Or.inl rfl) (by decide) (by decide)).trans (by rw [hr 628 4 (by decide)]; rfl)
    have t7 : D_m_told F (Int32.ofNat e) (7 : Int32) S = some (eT S0 e 7) := (told7 e7).trans (by rw [hr 603 _ (by decide)]; rfl)
    have a6 : aget 4 7168 S 601 (Int32.ofNat e) = some (rd S0 601 e) := (aget_n (Or.inr rfl) e7 (by decide)).trans (by rw [h6 e (by omega)])
    have xp : Int32.ofNat x / (8 : Int32) / (4 : Int32) = Int32.ofNat (eP e) := by
      rw [show Int32.ofNat x / (8 : Int32) = Int32.ofNat (x / 8) from m_n_div (b := 8) (by show x < 2147483648; omega) (by show 8 < 2147483648; omega), show Int32.ofNat (x / 8) / (4 : Int32) = Int32.ofNat (x / 8 / 4) from m_n_div (b := 4) (by show x / 8 < 2147483648; omega) (by show 4 < 2147483648; omega)]
      congr 1
      unfold eP
      omega
    obtain ⟨v53, v1, v2⟩ : ∃ v53, (cond (m_c1 .ne (came S0 5)) (cond (m_c2 .ne ((eT S0 e 7 >>> (came S0 4 &&& 31)) &&& (1 : Int32)) (1 : Int32)) (some (0 : Int32)) (some (1 : Int32))) (cond (m_c2 .ne (Int32.ofNat (eP e)) (came S0 4)) (some (0 : Int32)) (some (1 : Int32)))) = some v53 ∧ (¬ rd S0 601 e = 0 → v53 = b2i (v_purged (Int32.ofNat (eP e)) (eT S0 e 7) (came S0 5) (came S0 4))) := by
      have sw : m_c2 .ne (Int32.ofNat (eP e)) (came S0 4) = m_c2 .ne (came S0 4) (Int32.ofNat (eP e)) := by
        by_cases w : Int32.ofNat (eP e) = came S0 4
        · rw [w]
        · have w' : ¬ came S0 4 = Int32.ofNat (eP e) := fun q => w q.symm
          simp [m_c2, w, w']
      rw [sw]
      by_cases w : rd S0 601 e = 0
      · cases m_c1 .ne (came S0 5) <;> cases m_c2 .ne ((eT S0 e 7 >>> (came S0 4 &&& 31)) &&& (1 : Int32)) (1 : Int32) <;> cases m_c2 .ne (came S0 4) (Int32.ofNat (eP e)) <;> exact ⟨_, rfl, fun q => absurd w q⟩
      · exact ⟨_, m_hit (p := Int32.ofNat (eP e)) (hk e (by omega) (by omega) w) hb, fun _ => rfl⟩
    obtain ⟨nv, hnv⟩ : ∃ x : Int32, x = if rd S0 601 e = 0 then 0 else if v_purged (Int32.ofNat (eP e)) (eT S0 e 7) (came S0 5) (came S0 4) = true then 0 else 1 := ⟨_, rfl⟩
    have v60 : (cond (m_c1 .eq (rd S0 601 e)) (some (0 : Int32)) (cond (m_c1 .ne v53) (some (0 : Int32)) (some (1 : Int32)))) = some nv := by
      rw [hnv]
      by_cases w : rd S0 601 e = 0
      · rw [w, if_pos rfl]; rfl
      · rw [if_neg w, v2 w, show m_c1 .eq (rd S0 601 e) = false by simp [m_c1, w], cond_false]
        cases v_purged (Int32.ofNat (eP e)) (eT S0 e 7) (came S0 5) (came S0 4) <;> rfl
    have nvf : nv = 0 ∨ nv = 1 := by
      rw [hnv]
      by_cases w : rd S0 601 e = 0
      · rw [if_pos w]; exact Or.inl rfl
      · rw [if_neg w]
        by_cases w2 : v_purged (Int32.ofNat (eP e)) (eT S0 e 7) (came S0 5) (came S0 4) = true
        · rw [if_pos w2]; exact Or.inl rfl
        · rw [if_neg w2]; exact Or.inr rfl
    have bp : bput 7168 S 601 (Int32.ofNat e) nv = some (up2 S 601 e nv) := bput_n e7 (by decide) nvf
    obtain ⟨S2, s1, s2, s3, s4⟩ := ih (x + 1) (up2 S 601 e nv) (by omega) (fun i => by rw [up2_1]; exact hi i) (fun a k ha => by rw [rd_up2, if_neg (fun q => ha q.1)]; exact hr a k ha) (fun k hk' => by rw [rd_up2, if_neg (by omega)]; exact h6 k (by omega)) g (by omega)
    refine ⟨S2, ?_, s2, s3, fun k => ?_⟩
    · rw [← s1]
      conv => lhs; unfold D_m_bringPurge_60
      rw [show m_c2 .ge (Int32.ofNat x) (1024 : Int32) = decide (1024 ≤ x) from ge_n (by omega) (by decide), decide_eq_false (by omega), cond_false, ix, c5, Option.bind_some]
      simp only [t7, c4, Option.bind_some, xp, v1, a6, v60, bp, q1]
    · rw [s4, rd_up2]
      by_cases w : k = e
      · rw [if_neg (by omega), if_pos ⟨rfl, w⟩, if_pos (by omega), w]
        exact hnv
      · by_cases w2 : 1024 * n + (x + 1) ≤ k ∧ k < 1024 * n + 1024
        · rw [if_pos w2, if_pos (show 1024 * n + x ≤ k ∧ k < 1024 * n + 1024 by omega)]
        · rw [if_neg w2, if_neg (fun q => w q.2), if_neg (by omega)]
end
