/-! purge(by, what). -/
def puRow (n : Nat) (j b w : Int32) : Nat → Int32 := fun i => if i = 0 then 2 else if i = 2 then Int32.ofNat n else if i = 3 then j else if i = 4 then w else if i = 5 then b else 0
def puM (u : Nat → Bool) (j b w : Int32) : Nat → Nat → List (Nat → Int32) → List (Nat → Int32)
  | 0, _, M => M
  | m + 1, x, M => puM u j b w m (x + 1) (if u x = true then psh M (cut (puRow x j b w)) else M)
/-- a call may make the room that is promised larger -/
def Le (I I' : Iv) : Prop := ∀ M Q Pd Z E N k1 k2, I M Q Pd Z E N k1 k2 → I' M Q Pd Z E N k1 k2
def ClPg (I I' : Iv) : Prop := ∀ M Q Z E N k1 k2 o b w u, I M Q [] Z E N k1 k2 → N 2 0 = Int32.ofNat o → o < 60 → isPu b w → I' (puM u (Int32.ofNat (o + 1)) b w 6 1 M) Q [] Z E (fun j k => if j = 2 then Int32.ofNat (o + 1) else N j k) (k1 + 6) (k2 + 114)
section
variable {I : Iv} {T T' : tT} {S S' S3 : mS} {X Y : Nat → List (Nat × Nat)} {Z : Nat → List Fz} {Q cz Pd : List Rq} {j0 c F n k k1 k2 : Nat} {rs : List Nat}
theorem purge_core (hF : 23 ≤ F) (hN : okN T) (hH : RHouse T S) (hP : RPost T S) {j : Nat} {b w : Int32} (hj : S.1 37 = Int32.ofNat j) (j1 : 1 ≤ j) (j2 : j ≤ 60) (hb : isPu b w) (i1 : ∀ i, S3.1 i = S.1 i) (r3 : ∀ a k, ¬ a = 625 → rd S3 a k = rd S a k) (hand : ∀ i, i < 22 → rd S3 625 i = puRow n (Int32.ofNat j) b w i) (h1 : 1 ≤ n) (h2 : n < 7) : ∃ T' S', (bd2 (tnw T 9) fun a100 T101 => (tgi T101 512 0 13).bind fun v105 => (D_c_Message_init F a100 (2 : Int32) (0 : Int32) (Int32.ofNat n) v105 T101).bind fun T108 => (tpi T108 a100 9 4 w).bind fun T112 => (tpi T112 a100 9 5 b).bind fun T116 => (tcl T116 512 0).bind fun _ => D_c_EdgeHouse_send F 512 (some a100) T116) = some T' ∧ D_m_post F S3 = some S' ∧ RHouse T' S' ∧ RPost T' S' ∧ FrC [512, 523] T T' ∧ (∀ i, ¬ i = 77 → ¬ i = 39 → S'.1 i = S.1 i) ∧ (∀ b k, ¬ b = 624 → ¬ b = 625 → rd S' b k = rd S b k) ∧ pst S S' (puRow n (Int32.ofNat j) b w) ∧ Cs T T' 1 19 := by
  obtain ⟨m1, m2, m3⟩ := new_msg hN
  let G : Nat → Int32 := fup (fup (fup (fup (fup (fup (fun _ => 0) 0 2) 1 0) 2 (Int32.ofNat n)) 3 (Int32.ofNat j)) 4 w) 5 b
  let Tb : tT := tset (tadd T (cMsg (fun _ => 0) none) 19) T.2.1 (cMsg G none)
  have bf : ∀ x c9, T.1 x = some c9 → Tb.1 x = some c9 := by
    intro x c9 hx
    have : ¬ x = T.2.1 := fun z => by rw [z, m3] at hx; cases hx
    show (tset (tadd T (cMsg (fun _ => 0) none) 19) T.2.1 (cMsg G none)).1 x = _
    rw [tset_1, if_neg this, tadd_1, if_neg this]
    exact hx
  have fb : ∀ x c9, T.1 x = some c9 → (tadd T (cMsg (fun _ => 0) none) 19).1 x = some c9 := by
    intro x c9 hx
    have : ¬ x = T.2.1 := fun z => by rw [z, m3] at hx; cases hx
    rw [tadd_1, if_neg this]
    exact hx
  have bN : okN Tb := by
    intro x c9 hx
    have hx' : (tset (tadd T (cMsg (fun _ => 0) none) 19) T.2.1 (cMsg G none)).1 x = some c9 := hx
    rw [tset_1, tadd_1] at hx'
    show x < T.2.1 + 1
    split at hx'
    · omega
    · exact Nat.lt_succ_of_lt (hN x c9 hx')
  have bH : RHouse Tb S3 := by
    show Tb.1 512 = some (house S3.1)
    rw [bf 512 _ hH]
    congr 1
    unfold house
    simp only [i1]
  have bP : RPost Tb S3 := by
    obtain ⟨k, cap, ms, z1, z2, z3, z4, z5⟩ := id hP
    refine ⟨k, cap, ms, by rw [i1]; exact z1, z2, bf _ _ z3, z4, fun j dd hd => ?_⟩
    refine ((z5 j dd hd).same (fun x c hx _ => bf x c hx)).ext (fun i hi => ?_)
    exact r3 _ _ (by decide)
  have e0 : rd S3 625 0 = 2 := hand 0 (by decide)
  have e1 : rd S3 625 1 = 0 := hand 1 (by decide)
  have e2 : rd S3 625 2 = Int32.ofNat n := hand 2 (by decide)
  have e3 : rd S3 625 3 = Int32.ofNat j := hand 3 (by decide)
  have e4 : rd S3 625 4 = w := hand 4 (by decide)
  have e5 : rd S3 625 5 = b := hand 5 (by decide)
  have e6 : rd S3 625 6 = 0 := hand 6 (by decide)
  have e7 : rd S3 625 7 = 0 := hand 7 (by decide)
  have e8 : rd S3 625 8 = 0 := hand 8 (by decide)
  have e9 : rd S3 625 9 = 0 := hand 9 (by decide)
  have e21 : rd S3 625 21 = 0 := hand 21 (by decide)
  obtain ⟨T', S', s1, s2, s3, s4, s5, s6, s7, s8⟩ := send_both (F := F) (T := Tb) (S := S3) (a := T.2.1) (g := G) (t := none) hF bH bP tset_at (fun cap ms h9 hmem => by
    obtain ⟨k, cap', ms', z1, z2, z3, z4, z5⟩ := id hP
    rw [bf _ _ z3] at h9
    cases h9
    obtain ⟨j, hj⟩ := List.mem_iff_getElem?.mp hmem
    obtain ⟨fs, hc⟩ := (z5 j _ hj).cls
    rw [m3] at hc
    cases hc) (fun T2 h2' hsm => by
    refine ⟨_, none, h2', ?_, e9.symm, e8.symm, Or.inr (Or.inr ⟨rfl, e6, e7, e8, e9, e21, rfl, rfl, rfl, rfl, rfl, Or.inl ⟨e0, e1, ⟨n, h1, by omega, e2⟩, ⟨j, j1, j2, e3⟩, ?_⟩⟩)⟩
    · intro i hi
      match i, hi with
      | 0, _ => exact e0.symm
      | 1, _ => exact e1.symm
      | 2, _ => exact e2.symm
      | 3, _ => exact e3.symm
      | 4, _ => exact e4.symm
      | 5, _ => exact e5.symm
    · show (rd S3 625 5 = 0 ∧ few 32 (rd S3 625 4)) ∨ (rd S3 625 5 = 1 ∧ few 8 (rd S3 625 4))
      rw [e4, e5]
      exact hb)
  have hT' : (bd2 (tnw T 9) fun a100 T101 => (tgi T101 512 0 13).bind fun v105 => (D_c_Message_init F a100 (2 : Int32) (0 : Int32) (Int32.ofNat n) v105 T101).bind fun T108 => (tpi T108 a100 9 4 w).bind fun T112 => (tpi T112 a100 9 5 b).bind fun T116 => (tcl T116 512 0).bind fun _ => D_c_EdgeHouse_send F 512 (some a100) T116) = some T' := by
    have h13 : tgi (tadd T (cMsg (fun _ => 0) none) 19) 512 0 13 = some (Int32.ofNat j) := (Hg13 (fb 512 _ hH)).trans (by rw [hj])
    simp only [bd2, m1, Option.bind_some, h13, D_c_Message_init, Mp0 m2, Mp1 tset_at, Mp2 tset_at, Mp3 tset_at, Mp4 tset_at, Mp5 tset_at, tset_tset]
    show ((tcl Tb 512 0).bind fun _ => D_c_EdgeHouse_send F 512 (some T.2.1) Tb) = some T'
    rw [tcl_o (bf 512 _ hH), Option.bind_some, s1]
  have cs : Cs T T' 1 19 := by
    have k0 : CsP idT T 1 19 (bd2 (tnw T 9) fun a100 T101 => (tgi T101 512 0 13).bind fun v105 => (D_c_Message_init F a100 (2 : Int32) (0 : Int32) (Int32.ofNat n) v105 T101).bind fun T108 => (tpi T108 a100 9 4 w).bind fun T112 => (tpi T112 a100 9 5 b).bind fun T116 => (tcl T116 512 0).bind fun _ => D_c_EdgeHouse_send F 512 (some a100) T116) := by
      refine CsP.mono (CsP.dc (K_tnw rfl) (fun _ T9 => (?_ : CsP _ T9 0 0 _))) (by decide) (by decide)
      refine CsP.bp (fun _ => ?_)
      refine CsP.b0 K_c_Message_init (fun T9 => ?_)
      refine CsP.b0 K_tpi (fun T9 => ?_)
      refine CsP.b0 K_tpi (fun T9 => ?_)
      refine CsP.bp (fun _ => ?_)
      exact K_c_EdgeHouse_send
    exact k0 _ hT'
  refine ⟨T', S', hT', s2, s3, s4, ?_, fun i j1 j2 => by rw [s6 i j1 j2, i1], fun x k hx hy => by rw [s7 x k hx, r3 x k hy], s8.of (i1 77) (fun k => r3 624 k (by decide)) hand, cs⟩
  refine ⟨fun x c9 hx hl => s5.1 x c9 (bf x c9 hx) (fun z => ?_), fun _ => s5.2.1 bN, Nat.le_trans (Nat.le_succ _) s5.2.2.1, Nat.le_trans (Nat.le_add_right _ _) s5.2.2.2⟩
  have : ¬ x = T.2.1 := fun e => by rw [e, m3] at hx; cases hx
  simp only [List.mem_cons, List.mem_nil_iff, or_false] at z hl
  rcases z with z | z | z
  · exact hl (Or.inl z)
  · exact hl (Or.inr z)
  · exact this z
/-- a PURGE is posted -/
theorem RB.postP (h : RB T S X Y Z Q cz Pd j0 rs c) (hL : okL T') (hH : RHouse T' S') (hP : RPost T' S') (hF : FrC [512, 523] T T') (hi : ∀ i, ¬ i = 77 → ¬ i = 39 → S'.1 i = S.1 i) (hr : ∀ b k, ¬ b = 624 → ¬ b = 625 → rd S' b k = rd S b k) {row : Nat → Int32} (hp : pst S S' row) {o j : Nat} {fb fw : Nat → Value} (ho : S.1 37 = Int32.ofNat o) (ho6 : o ≤ 60) (hb : T.1 521 = some (.inr (.inl (0, 61, fb)))) (hw : T.1 522 = some (.inr (.inl (0, 61, fw)))) (j1 : 1 ≤ j) (j2 : j ≤ o) (q3 : row 3 = Int32.ofNat j) (q5 : row 5 = m_toI (fb j)) (q4 : row 4 = m_toI (fw j)) : RB T' S' X Y Z Q cz Pd j0 rs c := by
  obtain ⟨_, _, h3, h4, h5, h6, h7, h8, h9, h10⟩ := id h
  have ag : ∀ as is, (∀ a ∈ as, ¬ a = 624 ∧ ¬ a = 625) → (∀ i ∈ is, ¬ i = 77 ∧ ¬ i = 39) → Ag as is S S' := fun as is p q => ⟨fun a ha k => hr a k (p a ha).1 (p a ha).2, fun i hi' => hi i (q i hi').1 (q i hi').2⟩
  refine ⟨hL, hH, hP, h4.fr (h.kq hF (by decide) (by decide)), h5.fr (h.kq hF (by decide) (by decide)) (ag _ _ (by decide) (by decide)), h6.fr (h.kq hF (by decide) (by decide)) (ag _ _ (by decide) (by decide)), h7.fr (h.kq hF (by decide) (by decide)) (ag _ _ (by decide) (by decide)), h8.fr (h.kq hF (by decide) (by decide)) (ag _ _ (by decide) (by decide)) (fun z _ r _ => hr _ _ (by decide) (by decide)) (fun k _ => hr _ _ (by decide) (by decide)), h9.fr (h.kq hF (by decide) (by decide)) (ag _ _ (by decide) (by decide)), ?_⟩
  obtain ⟨e1, e2, e3, e4, e5⟩ := h10
  have k20 : ∀ {A K : List Nat}, 512 ∉ A ∧ 523 ∉ A → 0 ∉ K ∧ 21 ∉ K → Kq A K T T' := fun a b => h.kq hF a b
  refine ⟨e1.fr (k20 (by decide) (by decide)) (ag _ _ (by decide) (by decide)), ?_, e3.fr (k20 (by decide) (by decide)) (ag _ _ (by decide) (by decide)), e4.fr (k20 (by decide) (by decide)) (ag _ _ (by decide) (by decide)), by rw [hr 626 _ (by decide) (by decide)]; exact e5⟩
  obtain ⟨o', fb', fw', u1, u2, u3, u4, u5, u6, u7⟩ := id e2
  have oo : o' = o := by
    rw [ho] at u1
    have := congrArg Int32.toNatClampNeg u1
    rw [m_n_cl (by omega), m_n_cl (by omega)] at this
    exact this.symm
  subst oo
  have fbb : fb' = fb := by rw [hb] at u3; cases u3; rfl
  have fww : fw' = fw := by rw [hw] at u4; cases u4; rfl
  subst fbb fww
  have kA : Kq [] [20] T T' := k20 (by decide) (by decide)
  refine ⟨o', fb', fw', (hi 37 (by decide) (by decide)).trans u1, u2, kA.k u3 (show (20 : Nat) ∈ [20] by decide), kA.k u4 (show (20 : Nat) ∈ [20] by decide), u5, fun m m1 m2 => (u6 m m1 m2).fa (k20 ⟨by simp; omega, by simp; omega⟩ (by decide)) (ag _ _ (by decide) (by decide)), fun k' a1 a2 a3 => ?_⟩
  obtain ⟨n, p1, ⟨p2, p3, p4⟩ | ⟨p2, p3, p4⟩⟩ := hp
  · have hk : k' < n + 1 := by
      rw [p3] at a1
      exact (i_lt (by show k' < 2147483648; omega) (by show n + 1 < 2147483648; omega)).mp a1
    by_cases e : k' = n
    · have rw9 : ∀ i, i < 22 → mRow S' k' i = row i := fun i hi' => by
        show rd S' 624 (22 * k' + i) = row i
        rw [p4, if_pos (by omega)]
        congr 1
        omega
      exact ⟨j, j1, j2, (rw9 3 (by decide)).trans q3, (rw9 5 (by decide)).trans q5, (rw9 4 (by decide)).trans q4⟩
    · have e9 : ∀ i, i < 22 → mRow S' k' i = mRow S k' i := fun i hi => by
        show rd S' 624 (22 * k' + i) = rd S 624 (22 * k' + i)
        rw [p4, if_neg (by omega)]
      rw [e9 3 (by decide), e9 5 (by decide), e9 4 (by decide)]
      refine u7 k' ?_ a2 ((e9 0 (by decide)).symm.trans a3)
      rw [p1]
      exact (i_lt (by show k' < 2147483648; omega) (by show n < 2147483648; omega)).mpr (by omega)
  · have e9 : ∀ i, mRow S' k' i = mRow S k' i := fun i => p4 _
    rw [e9 3, e9 5, e9 4]
    exact u7 k' (by rw [← p3]; exact a1) a2 ((e9 0).symm.trans a3)
end
