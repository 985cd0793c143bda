/-! The class sends a FETCH. -/
/-- a store stands as long as its cells do -/
theorem RS.frC {T T' : tT} {S : mS} {n : Nat} {X Y : List (Nat × Nat)} (h : RS T S n X Y) (hf : ∀ b c, T.1 b = some c → (kd c = 5 ∨ kd c = 11 ∨ kd c = 13 ∨ b = 529 + 8 * n ∨ b = 530 + 8 * n) → T'.1 b = some c) : RS T' S n X Y := by
  obtain ⟨hn, h2, ⟨cX, h3⟩, ⟨cY, h4⟩, h5, h6, h7, h8, h9, hb⟩ := h
  have ent : ∀ q k, isEnt T S n q k → isEnt T' S n q k := by
    intro q k he
    obtain ⟨fs, hc⟩ := he.cell
    refine he.fr ?_ (fun x c hx hk => hf x c hx (Or.inr (Or.inr (Or.inl (List.mem_singleton.mp hk))))) (fun _ => rfl) (fun _ _ _ => rfl)
    rw [hc]
    exact hf _ _ hc (Or.inr (Or.inl rfl))
  exact ⟨hn, hf _ _ h2 (Or.inl rfl), ⟨cX, hf _ _ h3 (Or.inr (Or.inr (Or.inr (Or.inl rfl))))⟩, ⟨cY, hf _ _ h4 (Or.inr (Or.inr (Or.inr (Or.inr rfl))))⟩, fun q hq => ent q 0 (h5 q hq), fun q hq => ent q 1 (h6 q hq), h7, h8, h9, hb⟩
def nodeX (S : mS) (n : Nat) (ln : Int32) : tC := .inl (4, [.int (Int32.ofNat n), .ref (528 + 8 * n), .ref (531 + 8 * n), .ref (532 + 8 * n), .ref (533 + 8 * n), .ref (534 + 8 * n), .int (rd S 591 n), .int (rd S 593 n), .int (rd S 594 n), .int (rd S 595 n), .int ln])
/-- the version that is said to be had -/
def v_hadG (S : mS) (n : Nat) (g : Nat → Int32) (o : Option Nat) : Int32 := match o with
  | none => 0
  | some e => if rd S 593 n ≤ rd S 604 e ∧ v_blocks (eT S e 1) (g 5) (g 6) &&& (rd S 607 e ^^^ -1) = 0 then eT S e 0 else 0
section
variable {T : tT} {S : mS} {F n : Nat} {X Y : List (Nat × Nat)}
theorem c_sendF (hF : 400 ≤ F) (hN : okN T) (hH : RHouse T S) (hR : RS T S n X Y) (hV : RV S) (hl : X.length + Y.length < 399) (hnode : T.1 (527 + 8 * n) = some (nodeC S n)) {cap fa to0 p v la fo : Nat} {zs : List Nat} (hlist : T.1 (531 + 8 * n) = some (.inr (.inr (cap, zs)))) (hz : zs.length < 366) {g : Nat → Int32} {hd9 tl9 : Option Nat} (hfa : T.1 fa = some (cFetch g hd9 tl9)) (hto : to0 ≤ 2) (hp : p < 32) (hv : v < 4) (g0 : g 0 = Int32.ofNat p) (g1 : g 1 = Int32.ofNat v) (g2 : g 2 = Int32.ofNat la) (g3 : g 3 = Int32.ofNat fo) (g4 : flag (g 4)) {o : Option Nat} (o1 : ∀ e, o = some e → suitE S (128 * n + (4 * p + v)) la fo e) (o2 : o = none → ∀ e, ¬ suitE S (128 * n + (4 * p + v)) la fo e) : ∃ (Tz : tT) (am : Nat) (G GM : Nat → Int32), D_c_EdgeHouse_sendFetch_28 F 512 (some (527 + 8 * n)) (some fa) (Int32.ofNat to0) T = (D_c_EdgeHouse_send F 512 (some am) Tz).bind (fun T127 => some ((1 : Int32), T127)) ∧ Tz.1 am = some (cMsg GM none) ∧ T.1 am = none ∧ Tz.1 fa = some (cFetch G hd9 tl9) ∧ Tz.1 (527 + 8 * n) = some (nodeX S n (rd S 596 n + 1)) ∧ (∃ c, Tz.1 (531 + 8 * n) = some (.inr (.inr (c, zs ++ [fa])))) ∧ (∀ b c, T.1 b = some c → ¬ b = 527 + 8 * n → ¬ b = fa → ¬ b = 531 + 8 * n → Tz.1 b = some c) ∧ okN Tz ∧ T.2.1 ≤ Tz.2.1 ∧ T.2.2 ≤ Tz.2.2 ∧ G = fup (fup (fup (fup g 7 (rd S 596 n + 1)) 8 (Int32.ofNat to0)) 9 (rd S 593 n)) 10 (S.1 36) ∧ GM = fup (fup (fup (fup (fup (fup (fup (fup (fup (fup (fup (fup (fup (fun _ => 0) 0 0) 1 (Int32.ofNat n)) 2 (Int32.ofNat to0)) 3 (rd S 596 n + 1)) 4 (g 0)) 5 (g 1)) 6 (g 2)) 7 (g 3)) 8 (g 5)) 9 (g 6)) 10 (g 4)) 13 (rd S 593 n)) 11 (v_hadG S n g o) := by
  have hn := hR.1
  have n1 : ¬ fa = 527 + 8 * n := kd_ne hfa hnode (show ¬ (10 : Nat) = 4 by decide)
  have n2 : ¬ fa = 531 + 8 * n := kd_ne hfa hlist (show ¬ (10 : Nat) = 21 by decide)
  have n3 : ¬ 512 = fa := kd_ne (show T.1 512 = some (house S.1) from hH) hfa (show ¬ (0 : Nat) = 10 by decide)
  let N : Nat := 527 + 8 * n
  let num : Int32 := rd S 596 n + 1
  let G : Nat → Int32 := fup (fup (fup (fup g 7 num) 8 (Int32.ofNat to0)) 9 (rd S 593 n)) 10 (S.1 36)
  have p10 : tpi T (527 + 8 * n) 4 10 (rd S 596 n + 1) = some (tset T (527 + 8 * n) (nodeX S n (rd S 596 n + 1))) := (tp_o hnode (show 10 < 11 by decide)).trans rfl
  have gg : tgi T (527 + 8 * n) 4 10 = some (rd S 596 n) := tgi_o hnode rfl
  have nx : ∀ X, (tset (tset T (527 + 8 * n) (nodeX S n (rd S 596 n + 1))) fa X).1 (527 + 8 * n) = some (nodeX S n (rd S 596 n + 1)) := fun X => tset_o tset_at (fun z => n1 z.symm)
  have fx : (tset T (527 + 8 * n) (nodeX S n (rd S 596 n + 1))).1 fa = some (cFetch g hd9 tl9) := tset_o hfa n1
  have hx : ∀ X, (tset (tset T (527 + 8 * n) (nodeX S n (rd S 596 n + 1))) fa X).1 512 = some (house S.1) := fun X => tset_o (tset_o hH (by omega)) n3
  have lx : ∀ X, (tset (tset T (527 + 8 * n) (nodeX S n (rd S 596 n + 1))) fa X).1 (531 + 8 * n) = some (.inr (.inr (cap, zs))) := fun X => tset_o (tset_o hlist (by omega)) (fun z => n2 z.symm)
  let T69 : tT := tset (tset T (527 + 8 * n) (nodeX S n (rd S 596 n + 1))) fa (cFetch G hd9 tl9)
  let T80 : tT := ((tset T69 (531 + 8 * n) (.inr (.inr (l_cap cap zs.length, zs ++ [fa])))).1, T69.2.1 + (if zs.length < cap then 0 else 1), T69.2.2 + (if zs.length < cap then 0 else l_cap cap zs.length))
  have la80 : tla T69 (531 + 8 * n) fa = some T80 := by
    have h9 : T69.1 fa = some (.inl (10, _)) := tset_at
    simp only [tla, tl, show T69.1 (531 + 8 * n) = some (.inr (.inr (cap, zs))) from lx _, Option.bind_some, h9]
    rw [if_pos ⟨hz, by decide⟩]
  have e80 : ∀ b, T80.1 b = if b = 531 + 8 * n then some (.inr (.inr (l_cap cap zs.length, zs ++ [fa]))) else if b = fa then some (cFetch G hd9 tl9) else if b = 527 + 8 * n then some (nodeX S n (rd S 596 n + 1)) else T.1 b := fun b => rfl
  have N80 : okN T80 := by
    intro b c hb
    rw [e80] at hb
    have : b < T.2.1 := by
      by_cases z1 : b = 531 + 8 * n
      · rw [z1]; exact hN _ _ hlist
      · by_cases z2 : b = fa
        · rw [z2]; exact hN _ _ hfa
        · by_cases z3 : b = 527 + 8 * n
          · rw [z3]; exact hN _ _ hnode
          · rw [if_neg z1, if_neg z2, if_neg z3] at hb
            exact hN _ _ hb
    exact Nat.lt_of_lt_of_le this (Nat.le_add_right _ _)
  obtain ⟨m1, m2, m3⟩ := new_msg N80
  have le80 : T.2.1 ≤ T80.2.1 := Nat.le_add_right _ _
  have mT : T.1 T80.2.1 = none := by
    cases e : T.1 T80.2.1 with
    | none => rfl
    | some c =>
      have := hN _ _ e
      omega
  have f80 : T80.1 fa = some (cFetch G hd9 tl9) := by rw [e80, if_neg n2, if_pos rfl]
  have nd80 : T80.1 (527 + 8 * n) = some (nodeX S n (rd S 596 n + 1)) := by rw [e80, if_neg (by omega), if_neg (fun z => n1 z.symm), if_pos rfl]
  have h80 : T80.1 512 = some (house S.1) := by
    rw [e80, if_neg (by omega), if_neg n3, if_neg (by omega)]
    exact hH
  have fa85 : ∀ X b c, T80.1 b = some c → (tset (tadd T80 (cMsg (fun _ => 0) none) 19) T80.2.1 X).1 b = some c := by
    intro X b c hb
    have : ¬ b = T80.2.1 := fun z => by rw [z, m3] at hb; cases hb
    rw [tset_1, if_neg this, tadd_1, if_neg this]
    exact hb
  have fb85 : ∀ b c, T80.1 b = some c → (tadd T80 (cMsg (fun _ => 0) none) 19).1 b = some c := by
    intro b c hb
    have : ¬ b = T80.2.1 := fun z => by rw [z, m3] at hb; cases hb
    rw [tadd_1, if_neg this]
    exact hb
  have old80 : ∀ b c, T.1 b = some c → ¬ b = 527 + 8 * n → ¬ b = fa → ¬ b = 531 + 8 * n → T80.1 b = some c := by
    intro b c hb z1 z2 z3
    rw [e80, if_neg z3, if_neg z2, if_neg z1]
    exact hb
  have rs : ∀ X9, RS (tset (tadd T80 (cMsg (fun _ => 0) none) 19) T80.2.1 X9) S n X Y := fun X9 => hR.frC (fun b c hb hk => fa85 X9 b c (old80 b c hb (fun z => by
      rw [z, hnode] at hb
      cases hb
      rcases hk with hk | hk | hk | hk | hk
      · cases hk
      · cases hk
      · cases hk
      · omega
      · omega) (fun z => by
      rw [z, hfa] at hb
      cases hb
      rcases hk with hk | hk | hk | hk | hk
      · cases hk
      · cases hk
      · cases hk
      · exact kd_ne hfa hR.2.2.1.choose_spec (show ¬ (10 : Nat) = 21 by decide) (by rw [← z]; exact hk)
      · exact kd_ne hfa hR.2.2.2.1.choose_spec (show ¬ (10 : Nat) = 21 by decide) (by rw [← z]; exact hk)) (fun z => by
      rw [z, hlist] at hb
      cases hb
      rcases hk with hk | hk | hk | hk | hk
      · cases hk
      · cases hk
      · cases hk
      · omega
      · omega)))
  have hadv : ∀ X, D_c_Store_versionHad F (528 + 8 * n) (some fa) (tset (tadd T80 (cMsg (fun _ => 0) none) 19) T80.2.1 X) = some (v_hadG S n g o) := fun X => c_hadV (F := F) hF (rs X) hV hl (fa85 X fa _ f80) hp hv g0 g1 g2 g3 o1 o2 |>.trans (by cases o <;> rfl)
  have pz : ∀ (X : tT) (M : Nat → Int32) (t : Option Nat), X.1 T80.2.1 = some (cMsg M t) → tpz X T80.2.1 9 10 (g 4) = some (tset X T80.2.1 (cMsg (fup M 10 (g 4)) t)) := by
    intro X M t hX
    unfold tpz
    rw [if_pos (show g 4 = 0 ∨ g 4 = 1 from g4)]
    exact Mp10 hX
  have q7 : ∀ X, tgi (tset (tset T (527 + 8 * n) (nodeX S n (rd S 596 n + 1))) fa X) (527 + 8 * n) 4 7 = some (rd S 593 n) := fun X => tgi_o (nx X) rfl
  have q2 : ∀ X, tgr (tset (tset T (527 + 8 * n) (nodeX S n (rd S 596 n + 1))) fa X) (527 + 8 * n) 4 2 = some (some (531 + 8 * n)) := fun X => tgr_o (x := some (531 + 8 * n)) (nx X) rfl
  have q10 : tgi (tset T (527 + 8 * n) (nodeX S n (rd S 596 n + 1))) (527 + 8 * n) 4 10 = some (rd S 596 n + 1) := tgi_o tset_at rfl
  have w0 : tgi (tadd T80 (cMsg (fun _ => 0) none) 19) (527 + 8 * n) 4 0 = some (Int32.ofNat n) := tgi_o (fb85 _ _ nd80) rfl
  have w7 : tgi (tadd T80 (cMsg (fun _ => 0) none) 19) fa 10 7 = some (rd S 596 n + 1) := (Fg7 (fb85 _ _ f80)).trans rfl
  have w1 : ∀ X, tgr (tset (tadd T80 (cMsg (fun _ => 0) none) 19) T80.2.1 X) (527 + 8 * n) 4 1 = some (some (528 + 8 * n)) := fun X => tgr_o (x := some (528 + 8 * n)) (fa85 X _ _ nd80) rfl
  have ff := fun X => fa85 X fa _ f80
  have y0 : ∀ X, tgi (tset (tadd T80 (cMsg (fun _ => 0) none) 19) T80.2.1 X) fa 10 0 = some (g 0) := fun X => (Fg0 (ff X)).trans rfl
  have y1 : ∀ X, tgi (tset (tadd T80 (cMsg (fun _ => 0) none) 19) T80.2.1 X) fa 10 1 = some (g 1) := fun X => (Fg1 (ff X)).trans rfl
  have y2 : ∀ X, tgi (tset (tadd T80 (cMsg (fun _ => 0) none) 19) T80.2.1 X) fa 10 2 = some (g 2) := fun X => (Fg2 (ff X)).trans rfl
  have y3 : ∀ X, tgi (tset (tadd T80 (cMsg (fun _ => 0) none) 19) T80.2.1 X) fa 10 3 = some (g 3) := fun X => (Fg3 (ff X)).trans rfl
  have y4 : ∀ X, tgi (tset (tadd T80 (cMsg (fun _ => 0) none) 19) T80.2.1 X) fa 10 4 = some (g 4) := fun X => (Fg4 (ff X)).trans rfl
  have y5 : ∀ X, tgi (tset (tadd T80 (cMsg (fun _ => 0) none) 19) T80.2.1 X) fa 10 5 = some (g 5) := fun X => (Fg5 (ff X)).trans rfl
  have y6 : ∀ X, tgi (tset (tadd T80 (cMsg (fun _ => 0) none) 19) T80.2.1 X) fa 10 6 = some (g 6) := fun X => (Fg6 (ff X)).trans rfl
  have y9 : ∀ X, tgi (tset (tadd T80 (cMsg (fun _ => 0) none) 19) T80.2.1 X) fa 10 9 = some (rd S 593 n) := fun X => (Fg9 (ff X)).trans rfl
  let GM : Nat → Int32 := fup (fup (fup (fup (fup (fup (fup (fup (fup (fup (fup (fup (fup (fun _ => 0) 0 0) 1 (Int32.ofNat n)) 2 (Int32.ofNat to0)) 3 (rd S 596 n + 1)) 4 (g 0)) 5 (g 1)) 6 (g 2)) 7 (g 3)) 8 (g 5)) 9 (g 6)) 10 (g 4)) 13 (rd S 593 n)) 11 (v_hadG S n g o)
  refine ⟨tset (tadd T80 (cMsg (fun _ => 0) none) 19) T80.2.1 (cMsg GM none), T80.2.1, G, GM, ?_, tset_at, mT, fa85 _ _ _ f80, fa85 _ _ _ nd80, ⟨l_cap cap zs.length, fa85 _ _ _ (by rw [e80, if_pos rfl])⟩, fun b c hb z1 z2 z3 => fa85 _ b c (old80 b c hb z1 z2 z3), ?_, Nat.le_trans le80 (Nat.le_succ _), Nat.le_trans (Nat.le_add_right _ _) (Nat.le_add_right _ _), rfl, rfl⟩
  · simp only [D_c_EdgeHouse_sendFetch_28, ne_m1 (show to0 < 2147483648 by omega), cond_true, Option.bind_some, gg, p10, q10, Fp7 fx, Fp8 tset_at, tset_tset, q7, Fp9 tset_at, Hg14 (hx _), Fp10 tset_at, q2]
    rw [show tla (tset (tset T (527 + 8 * n) (nodeX S n (rd S 596 n + 1))) fa (cFetch (fup (fup (fup (fup g 7 (rd S 596 n + 1)) 8 (Int32.ofNat to0)) 9 (rd S 593 n)) 10 (S.1 36)) hd9 tl9)) (531 + 8 * n) fa = some T80 from la80, Option.bind_some]
    simp only [bd2, m1, Option.bind_some, w0, w7, D_c_Message_init, Mp0 m2, Mp1 tset_at, Mp2 tset_at, Mp3 tset_at, tset_tset, D_c_Message_copyFetch, y0, y1, y2, y3, y4, y5, y6, y9, Mp4 tset_at, Mp5 tset_at, Mp6 tset_at, Mp7 tset_at, Mp8 tset_at, Mp9 tset_at, pz _ _ _ tset_at, Mp13 tset_at, tcl_o (tset_at (c := cMsg _ _)), w1, (rs _).stC.1, hadv, Mp11 tset_at, tcl_o (fa85 _ 512 _ h80)]
    rfl
  · intro b c hb
    have hb' : (tset (tadd T80 (cMsg (fun _ => 0) none) 19) T80.2.1 (cMsg GM none)).1 b = some c := hb
    rw [tset_1, tadd_1] at hb'
    show b < T80.2.1 + 1
    split at hb'
    · omega
    · exact Nat.lt_succ_of_lt (N80 b c hb')
end
