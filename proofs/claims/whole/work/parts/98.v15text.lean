/-! A reply's text, both. -/
section
variable {T T' : tT} {S S' : mS} {X Y : Nat → List (Nat × Nat)} {Z : Nat → List Fz} {Q cz Pd : List Rq} {j0 c r ra s F m : Nat} {rs : List Nat} {g : Nat → Int32} {cs : List Int32}
theorem len_txt (K : Ka S r g F) : (txt g).length ≤ 480 ∧ 1 ≤ (txt g).length := by
  have st : ∃ st, st < 1000 ∧ g 1 = Int32.ofNat st := by
    rcases K with ⟨b1, b2, b3, b4⟩ | ⟨b0, b1, b2, b3⟩
    · rcases b2 with w | w | w | w | w
      · exact ⟨400, by decide, w⟩
      · exact ⟨404, by decide, w⟩
      · exact ⟨502, by decide, w⟩
      · exact ⟨503, by decide, w⟩
      · exact ⟨504, by decide, w⟩
    · exact b2.1
  obtain ⟨st, st1, st2⟩ := st
  have d1 : (dg (g 1)).length ≤ 6 := by rw [st2]; exact dg_len (by omega)
  have wl : (txW (g 1)).length ≤ 21 := by
    unfold txW
    repeat (first | decide +kernel | (split; decide +kernel))
  have ll : (if g 3 = 0 then [] else txL g).length ≤ 180 := by
    split
    · exact Nat.zero_le _
    · rename_i w
      rcases K with ⟨b1, _⟩ | ⟨_, _, b2, _⟩
      · exact absurd b1 w
      · exact lenL b2
  have lb : (if g 2 = 0 then txB g else []).length ≤ 256 := by
    split
    · unfold txB
      rw [List.length_map, List.length_range]
      rcases K with ⟨b1, b2, b3, b4⟩ | ⟨_, _, b2, _⟩
      · rw [b3]; decide
      · obtain ⟨_, _, _, _, _, _, fr, cn, f1, c1, f2, c2, c3⟩ := b2
        rw [c2, m_n_cl (by omega)]
        exact c1
    · exact Nat.zero_le _
  unfold txt
  rw [List.length_append, List.length_append, List.length_append, List.length_append, List.length_append, List.length_append]
  have n1 : (sC "\n").length = 1 := rfl
  have n2 : (sC " ").length = 1 := rfl
  omega
theorem TX.of31 (h : TX T g s) (hs : ¬ s = 31) : ∃ b n f h0 h1, 512 ≤ s ∧ T.1 s = some (.inl (12, [.ref b, .int 0, .int h0, .int h1])) ∧ T.1 b = some (.inr (.inl (3, n, f))) ∧ n = (txt g).length ∧ ∀ i x, (txt g)[i]? = some x → m_toI (f i) &&& 255 = x := by
  rcases h with h | h
  · exact absurd h hs
  · exact h
theorem tx_len (h : TX T g s) (hs : ¬ s = 31) (hl : (txt g).length ≤ 1000) : tsl F T s = some (Int32.ofNat (txt g).length) := by
  obtain ⟨b, n, f, h0, h1, a1, a2, a3, a4, a5⟩ := h.of31 hs
  have al : tal T b = some (Int32.ofNat n) := by simp only [tal, a3]; rfl
  have e0 : tgr T s 12 0 = some (some b) := tgr_o (x := some b) a2 rfl
  have e1 : tgi T s 12 1 = some 0 := tgi_o a2 rfl
  unfold tsl
  rw [if_neg hs, tcl_o a2, Option.bind_some]
  unfold D_c_String_length D_c_String_coder
  simp only [e0, Option.bind_some, al, tcl_o a2, show m_c1 .eq (1 : Int32) = false from rfl, cond_false, e1, show yret 0 = some 0 from rfl, z31', Int32.shiftRight_zero, a4]
theorem tx_emp (h : TX T g s) (hs : ¬ s = 31) (hl : (txt g).length ≤ 1000) (h0 : 1 ≤ (txt g).length) : tse F T s = some 0 := by
  obtain ⟨b, n, f, h0', h1, a1, a2, a3, a4, a5⟩ := h.of31 hs
  have al : tal T b = some (Int32.ofNat n) := by simp only [tal, a3]; rfl
  have e0 : tgr T s 12 0 = some (some b) := tgr_o (x := some b) a2 rfl
  have ne : m_c1 .ne (Int32.ofNat n) = true := decide_eq_true (fun q => by
    have := congrArg Int32.toNatClampNeg q
    rw [m_n_cl (by omega)] at this
    have z0 : Int32.toNatClampNeg 0 = 0 := rfl
    omega)
  unfold tse
  rw [if_neg hs, tcl_o a2, Option.bind_some]
  unfold D_c_String_isEmpty
  simp only [e0, Option.bind_some, al, ne, cond_true]
  rfl
theorem chr_ok : ∀ k, k < 256 → (((Int32.ofNat k).toUInt32 % 65536).toInt32) = Int32.ofNat k ∧ cret (Int32.ofNat k) = some (Int32.ofNat k) := by decide +kernel
theorem tx_chr {i : Nat} (h : TX T g s) (hs : ¬ s = 31) (hl : (txt g).length ≤ 1000) (hi : i < (txt g).length) : tsc F T s (Int32.ofNat i) = (txt g)[i]? := by
  obtain ⟨b, n, f, h0', h1, a1, a2, a3, a4, a5⟩ := h.of31 hs
  have al : tal T b = some (Int32.ofNat n) := by simp only [tal, a3]; rfl
  have e0 : tgr T s 12 0 = some (some b) := tgr_o (x := some b) a2 rfl
  have e1 : tgi T s 12 1 = some 0 := tgi_o a2 rfl
  obtain ⟨x, hx⟩ : ∃ x, (txt g)[i]? = some x := ⟨_, List.getElem?_eq_getElem hi⟩
  have fx := a5 i x hx
  have gt : tai T b 3 (Int32.ofNat i) = some (m_toI (f i)) := by
    unfold tai ta
    simp only [a3, m_n_cl (show i < 2147483648 by omega)]
    rw [if_pos ⟨trivial, m_n_neg (show i < 2147483648 by omega), (by omega : i < n)⟩]
    rfl
  have ck : cki (Int32.ofNat i) (Int32.ofNat n) = some () := by
    unfold cki
    rw [if_pos ⟨m_n_neg (by omega), (i_lt (by show i < 2147483648; omega) (by show n < 2147483648; omega)).mpr (by omega)⟩]
  obtain ⟨k, k1', k2'⟩ := and255 (m_toI (f i))
  obtain ⟨c1', c2'⟩ := chr_ok k k1'
  unfold tsc
  rw [if_neg hs, tcl_o a2, Option.bind_some]
  unfold D_c_String_charAt D_c_String_isLatin1 D_c_StringLatin1_charAt
  simp only [tcl_o a2, Option.bind_some, show m_c1 .eq (1 : Int32) = false from rfl, cond_false, e1, show m_c1 .ne (0 : Int32) = false from rfl, show bret 1 = some 1 from rfl, e0, al, ck, gt, k2', c1', c2']
  rw [hx, ← fx, k2']
theorem RB.sy (h : RB T S X Y Z Q cz Pd j0 rs c) (hi : ∀ i, ¬ i = 0 → ¬ i = 91 → S'.1 i = S.1 i) (hr : ∀ a k, ¬ a = 629 → rd S' a k = rd S a k) : RB T S' X Y Z Q cz Pd j0 rs c := by
  obtain ⟨h1, h2, h3, h4, h5, h6, h7, h8, h9, h10⟩ := id h
  have ag : ∀ as is, (∀ a ∈ as, ¬ a = 629) → (∀ i ∈ is, ¬ i = 0 ∧ ¬ i = 91) → Ag as is S S' := fun as is p q => ⟨fun a ha k => hr a k (p a ha), fun i hi' => hi i (q i hi').1 (q i hi').2⟩
  refine ⟨h1, h2.fr Kq.refl (ag _ _ (by decide) (by decide)), h3.fr Kq.refl (ag _ _ (by decide) (by decide)), h4, h5.fr Kq.refl (ag _ _ (by decide) (by decide)), h6.fr Kq.refl (ag _ _ (by decide) (by decide)), h7.fr Kq.refl (ag _ _ (by decide) (by decide)), h8.fr Kq.refl (ag _ _ (by decide) (by decide)) (fun _ _ _ _ => hr _ _ (by decide)) (fun _ _ => hr _ _ (by decide)), h9.fr Kq.refl (ag _ _ (by decide) (by decide)), h10.fr Kq.refl (ag _ _ (by decide) (by decide)) (fun k k1 k2 k3 => ?_)⟩
  have e9 : ∀ i, mRow S' k i = mRow S k i := fun i => hr _ _ (by decide)
  exact ⟨k, ⟨by rw [← hi 77 (by decide) (by decide)]; exact k1, k2⟩, (e9 0).symm.trans k3, e9 3, e9 5, e9 4⟩
/-- the text of a reply that was given -/
theorem text_of (h : RB T S X Y Z Q cz Pd j0 rs c) (hP : PI T m) (hra : rs[r]? = some ra) (hr0 : rd S 621 r = 0) (hF : 1000 ≤ F) : ∃ g s' T' m', D_c_EdgeHouse_textOf F 512 (some ra) T = some (some s', T') ∧ ¬ s' = 31 ∧ TX T' g s' ∧ Av S r g ∧ PI T' m' ∧ m ≤ m' ∧ Cs T T' ((m' - m) + 2) (2 * (m' - m) + 500) ∧ RB T' S X Y Z Q cz Pd j0 rs c ∧ ∀ c n f, T.1 c = some (.inr (.inl (1, n, f))) → T'.1 c = some (.inr (.inl (1, n, f))) := by
  obtain ⟨h1, h2, h3, h4, h5, h6, h7, h8, h9, h10⟩ := id h
  obtain ⟨⟨cR, e1⟩, e2, e3, e4, e5⟩ := id h9
  obtain ⟨g, s, q1, q2, q3, q4, q5⟩ := e5 r ra hra
  have rlt := (List.getElem?_eq_some_iff.mp hra).1
  obtain ⟨ia, tx⟩ := q5 hr0
  have hA : Av S r g := ⟨by omega, hr0, e4.2.2 r (by omega), ia⟩
  have ka := hA.ka (F := F)
  obtain ⟨lt, l0⟩ := len_txt ka
  have st0 : ¬ g 1 = 0 := by
    rcases ka with ⟨b1, b2, b3, b4⟩ | ⟨b0, b1, b2, b3⟩
    · rcases b2 with w | w | w | w | w <;> (rw [w]; decide)
    · rcases b1 with w | w | w | w <;> (rw [w]; decide)
  have g13 : ∀ {T : tT} {s : Nat}, T.1 ra = some (cReply g s) → tgr T ra 8 13 = some (some s) := fun hh => tgr_o (x := some _) hh rfl
  have s44 : ∀ {T : tT} {s : Nat}, T.1 ra = some (cReply g s) → D_c_EdgeHouse_textOf_44 F 512 (some ra) T = some (some s, T) := fun hh => by
    unfold D_c_EdgeHouse_textOf_44
    rw [Option.bind_some, g13 hh, Option.bind_some]
  by_cases hs : s = 31
  · obtain ⟨b, f, ml, n, pg, n7, m14, str⟩ := id hP
    obtain ⟨ml', u1, u2, u3⟩ := set_len (F := F) pg (by omega) h1.1 (by omega)
    obtain ⟨pg1, pg2, pg3⟩ := id pg
    have rn5 : ¬ ra = 525 := fun q => by (rw [q, pg1] at q1; cases q1)
    have rnb : ¬ ra = b := fun q => by (rw [q, pg2] at q1; cases q1)
    have bn5 : ¬ b = 525 := fun q => by (rw [q, pg1] at pg2; cases pg2)
    obtain ⟨T40, h40⟩ : ∃ z, z = tset T 525 (SB b ml' 0) := ⟨_, rfl⟩
    rw [← h40] at u1 u2 u3
    have r40 : T40.1 ra = some (cReply g s) := by rw [h40]; exact tset_o q1 rn5
    have L40 : okL T40 := (u3 h1).1
    have P40 : Px T40 b m ra g s T40 b m ml' [] := ⟨u2, Nat.le_refl _, Or.inl rfl, by rw [Nat.sub_self]; exact Gw.refl, ⟨L40, L40⟩, ⟨r40, rn5, rnb⟩, by omega⟩
    have nums : ∃ st fr cn, st < 1000 ∧ g 1 = Int32.ofNat st ∧ fr < 100000 ∧ cn ≤ 256 ∧ g 9 = Int32.ofNat fr ∧ g 10 = Int32.ofNat cn := by
      rcases ka with ⟨b1, b2, b3, b4⟩ | ⟨b0, b1, b2, b3⟩
      · rcases b2 with w | w | w | w | w
        · exact ⟨400, 0, 0, by decide, w, by decide, by decide, b4, b3⟩
        · exact ⟨404, 0, 0, by decide, w, by decide, by decide, b4, b3⟩
        · exact ⟨502, 0, 0, by decide, w, by decide, by decide, b4, b3⟩
        · exact ⟨503, 0, 0, by decide, w, by decide, by decide, b4, b3⟩
        · exact ⟨504, 0, 0, by decide, w, by decide, by decide, b4, b3⟩
      · obtain ⟨⟨st, x1, x2⟩, _, _, _, _, _, fr, cn, f1, c1, f2, c2, c3⟩ := b2
        exact ⟨st, fr, cn, x1, x2, f1, c1, f2, c2⟩
    obtain ⟨st, fr, cn, x1, x2, f1, c1, f2, c2⟩ := nums
    obtain ⟨T51, b1, m1, v1, P51⟩ := render_c (F := F) P40 x1 x2 f1 c1 f2 c2 (fun w => by
      rcases ka with ⟨y1, _⟩ | ⟨_, _, y2, _⟩
      · exact absurd y1 w
      · exact y2) (by omega)
    obtain ⟨w1, w2, w3, w4, ⟨_, L51⟩, _, _⟩ := id P51
    have m15 : m1 ≤ 1400 := by rcases w3 with w | w <;> omega
    obtain ⟨T66, f', y1, y2, y3, y4, y5, y6, y7, y8⟩ := to_str (F := F) w1 L51.1 (by omega) (by omega)
    obtain ⟨A, hA'⟩ : ∃ A, A = T51.2.1 := ⟨_, rfl⟩
    rw [← hA'] at y1 y2 y3 y7 y8
    obtain ⟨fp, ⟨z1, z2, z3⟩, z4, z5⟩ := id w1
    have r51 := P51.rep
    have r66 := y5 _ _ r51
    obtain ⟨T70, h70⟩ : ∃ z, z = tset T66 ra (cReply g A) := ⟨_, rfl⟩
    have pr : tpr T66 ra 8 13 (some A) = some T70 := by
      rw [h70]
      exact (tp_o r66 (show 13 < 14 by decide)).trans rfl
    have r70 : T70.1 ra = some (cReply g A) := by rw [h70]; exact tset_at
    have o70 : ∀ {c : Nat} {x : tC}, T66.1 c = some x → ¬ c = ra → T70.1 c = some x := fun hc hn => by rw [h70]; exact tset_o hc hn
    have A5 : 525 < A := by rw [hA']; exact L51.1 _ _ z1
    have bA : b1 < A := by rw [hA']; exact L51.1 _ _ z2
    have raA : ra < A := by rw [hA']; exact L51.1 _ _ r51
    have sA : T70.1 A = some (.inl (12, [.ref (A + 1), .int 0, .int 0, .int 0])) := o70 y2 (by omega)
    have sB : T70.1 (A + 1) = some (.inr (.inl (3, (txt g).length, f'))) := o70 y3 (by omega)
    have tx70 : TX T70 g A := Or.inr ⟨A + 1, _, f', 0, 0, by omega, sA, sB, rfl, y4⟩
    have Cs70 : Cs T T70 ((m1 - m) + 2) (2 * (m1 - m) + 500) := by
      have k3 : Cs T66 T70 0 0 := by rw [h70]; exact Cs.cell r66 rfl rfl
      exact (((u3.trans w4.2.2.2).trans y6).trans k3).mono (by omega) (by omega)
    have L70 := (Cs70 h1).1
    have back : ∀ (q : Nat) (l : List Value) (b' : Nat), T70.1 q = some (.inl (12, .ref b' :: l)) → q = A ∨ T.1 q = some (.inl (12, .ref b' :: l)) := fun q l b' hq => by
      have nq : ¬ q = ra := fun w => by
        rw [w, r70] at hq
        cases hq
      rw [h70, tset_1, if_neg nq] at hq
      rcases y7 q _ hq with w | w | w
      · exact Or.inl w
      · rw [w, y3] at hq
        cases hq
      · right
        have n5 : ¬ q = 525 := fun w5 => by
          rw [w5, z1] at w
          cases w
        have q40 := w4.2.2.1.2 q _ w rfl n5
        rw [h40, tset_1, if_neg n5] at q40
        exact q40
    have T40n : T40.2.1 = T.2.1 := by rw [h40]; rfl
    refine ⟨g, A, T70, m1, ?_, by omega, tx70, hA, ⟨b1, fp, ml', (txt g).length, ⟨o70 (y5 _ _ z1) (fun w => rn5 w.symm), o70 (y5 _ _ z2) (fun w => by (rw [w, r51] at z2; cases z2)), z3⟩, by omega, m15, fun q b' l hq => ?_⟩, w2, Cs70, ?_, fun c9 n9 f9 h9 => ?_⟩
    · have he : D_c_EdgeHouse_textOf F 512 (some ra) T = D_c_EdgeHouse_textOf_44 F 512 (some ra) T70 := by
        unfold D_c_EdgeHouse_textOf
        have gp : ∀ {T : tT}, T.1 512 = some (house S.1) → tgr T 512 0 9 = some (some 525) := fun hh => tgr_o (x := some 525) hh rfl
        have H0 : T.1 512 = some (house S.1) := h2
        have n512 : ¬ (512 : Nat) = b := fun q => by (rw [← q, H0] at pg2; cases pg2)
        have H40 : T40.1 512 = some (house S.1) := by rw [h40]; exact tset_o H0 (by decide)
        have H51 : T51.1 512 = some (house S.1) := w4.1 _ _ H40 (by decide) n512
        have em : tse F T 31 = some 1 := by unfold tse; rw [if_pos rfl]
        have tc5 : tcl T 525 3 = some () := tcl_o pg1
        have tc51 : tcl T51 525 3 = some () := tcl_o z1
        simp only [Option.bind_some, Rg1 q1, show m_c1 .eq (g 1) = false from decide_eq_false st0, cond_false, g13 q1, hs, em, show m_c1 .eq (1 : Int32) = false from rfl, gp H0, tc5, u1, gp H40, tcl_o r40, v1, gp H51, tc51, y1, bd2, pr]
      rw [he]
      exact s44 r70
    · rcases back q l b' hq with w | w
      · rw [w, sA] at hq
        have eb : b' = A + 1 := congrArg (fun (c : tC) => match c with | .inl (_, .ref k :: _) => (k : Nat) | _ => 0) (Option.some.inj hq.symm)
        refine ⟨by omega, ?_⟩
        rw [h70]
        show b' < T66.2.1
        omega
      · obtain ⟨v2, v3⟩ := str q b' l w
        have le : T.2.1 ≤ A := by rw [hA', ← T40n]; exact w4.2.2.1.1
        refine ⟨fun e => ?_, ?_⟩
        · rcases w4.2.1 with z | z
          · exact v2 (e.trans z)
          · omega
        · rw [h70]
          show b' < T66.2.1
          omega
    · refine h.text hra q1 hr0 L70 pg (fun q b' l hq => (str q b' l hq).1) (fun c x hc n5 nb nr => ?_) r70 tx70 (fun _ _ _ => rfl) (fun _ _ _ => rfl)
      refine o70 (y5 _ _ (w4.1 _ _ ?_ n5 nb)) nr
      rw [h40]
      exact tset_o hc n5
    · have n5 : ¬ c9 = 525 := fun q => by (rw [q, pg1] at h9; cases h9)
      refine o70 (y5 _ _ (w4.1 _ _ ?_ n5 (fun q => by (rw [q, pg2] at h9; cases h9)))) (fun q => by (rw [q, q1] at h9; cases h9))
      rw [h40]
      exact tset_o h9 n5
  · refine ⟨g, s, T, m, ?_, hs, tx, hA, hP, Nat.le_refl _, Cs.refl, h, fun _ _ _ w => w⟩
    unfold D_c_EdgeHouse_textOf
    simp only [Option.bind_some, Rg1 q1, show m_c1 .eq (g 1) = false from decide_eq_false st0, cond_false, g13 q1, tx_emp tx hs (by omega) l0, show m_c1 .eq (0 : Int32) = true from rfl, cond_true, s44 q1]
end
