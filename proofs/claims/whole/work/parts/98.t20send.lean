/-! A FETCH goes out, in both. -/
def fetRow (n to0 : Nat) (num seen : Int32) (g : Nat → Int32) (wants had : Int32) : Nat → Int32 := fun i => if i = 10 then had else if i = 21 then wants else if i = 9 then g 4 else if i = 8 then seen else if i = 7 then g 6 else if i = 6 then g 5 else if i = 0 then 0 else if i = 1 then Int32.ofNat n else if i = 2 then Int32.ofNat to0 else if i = 3 then num else if i = 4 then g 0 else if i = 5 then g 1 else 0
def Sent (F : Nat) (T : tT) (S : mS) (n fa p v la fo : Nat) (zs : List Nat) (g : Nat → Int32) (hd9 tl9 : Option Nat) : Prop :=
    ∃ (o : Option Nat) (to0 c' : Nat) (T' : tT) (S' : mS), (∀ e, o = some e → suitE S (128 * n + (4 * p + v)) la fo e) ∧ (o = none → ∀ e, ¬ suitE S (128 * n + (4 * p + v)) la fo e) ∧ ((n ≤ 2 ∧ to0 = 0) ∨ (3 ≤ n ∧ 1 ≤ to0 ∧ to0 ≤ 2)) ∧ D_c_EdgeHouse_sendFetch F 512 (some (527 + 8 * n)) (some fa) T = some (1, T') ∧ D_m_send F (Int32.ofNat (128 * n + (4 * p + v))) S = some (1, S') ∧ RHouse T' S' ∧ RPost T' S' ∧ T'.1 fa = some (cFetch (fup (fup (fup (fup g 7 (rd S 596 n + 1)) 8 (Int32.ofNat to0)) 9 (rd S 593 n)) 10 (S.1 36)) hd9 tl9) ∧ T'.1 (527 + 8 * n) = some (nodeX S n (rd S 596 n + 1)) ∧ T'.1 (531 + 8 * n) = some (.inr (.inr (c', zs ++ [fa]))) ∧ (∀ b c, T.1 b = some c → ¬ b = 512 → ¬ b = 523 → ¬ b = 527 + 8 * n → ¬ b = fa → ¬ b = 531 + 8 * n → T'.1 b = some c) ∧
      (∀ i, ¬ i = 77 → ¬ i = 39 → S'.1 i = S.1 i) ∧ (∀ a k, ¬ a = 596 → ¬ a = 609 → ¬ a = 611 → ¬ a = 612 → ¬ a = 615 → ¬ a = 617 → ¬ a = 624 → ¬ a = 625 → rd S' a k = rd S a k) ∧ (∀ k, rd S' 596 k = if k = n then rd S 596 n + 1 else rd S 596 k) ∧ (∀ k, rd S' 609 k = if k = 128 * n + (4 * p + v) then 1 else rd S 609 k) ∧ (∀ k, rd S' 611 k = if k = 128 * n + (4 * p + v) then rd S 596 n + 1 else rd S 611 k) ∧ (∀ k, rd S' 612 k = if k = 128 * n + (4 * p + v) then S.1 36 else rd S 612 k) ∧ (∀ k, rd S' 615 k = if k = 128 * n + (4 * p + v) then rd S 593 n else rd S 615 k) ∧ (∀ k, rd S' 617 k = if k = 128 * n + (4 * p + v) then Int32.ofNat to0 else rd S 617 k) ∧ pst S S' (fetRow n to0 (rd S 596 n + 1) (rd S 593 n) g (Int32.ofNat (la + 4 * fo)) (v_hadG S n g o))
section
variable {T : tT} {S : mS} {F n : Nat} {X Y : List (Nat × Nat)}
theorem up2_up2 {a j : Nat} {x y : Int32} : up2 (up2 S a j x) a j y = up2 S a j y := by
  unfold up2
  refine Prod.ext rfl ?_
  funext b
  by_cases h : b = a
  · simp only [if_pos h, if_true]
    unfold m_sel
    simp [List.filter_filter]
  · simp only [if_neg h]
theorem sendF_both (hF : 400 ≤ F) (hN : okN T) (hH : RHouse T S) (hP : RPost T S) (hPt : RPts T) (hNd : RNodes T S) (hR : RS T S n X Y) (hV : RV S) (hl : X.length + Y.length < 399) {cap fa p v la fo : Nat} {zs : List Nat} (hlist : T.1 (531 + 8 * n) = some (.inr (.inr (cap, zs)))) (hz : zs.length < 366) {g : Nat → Int32} {hd9 tl9 : Option Nat} (hfa : T.1 fa = some (cFetch g hd9 tl9)) (hp : p < 32) (hv : v < 4) (hla : la < 4) (hfo : fo < 2) (g0 : g 0 = Int32.ofNat p) (g1 : g 1 = Int32.ofNat v) (g2 : g 2 = Int32.ofNat la) (g3 : g 3 = Int32.ofNat fo) (g4 : flag (g 4)) (g5 : few 16 (g 5)) (g6 : few 16 (g 6)) (s10 : rd S 610 (128 * n + (4 * p + v)) = g 4) (s13 : rd S 613 (128 * n + (4 * p + v)) = g 5) (s14 : rd S 614 (128 * n + (4 * p + v)) = g 6) (s16 : rd S 616 (128 * n + (4 * p + v)) = Int32.ofNat (la + 4 * fo)) :
    (n ≥ 3 ∧ D_c_EdgeHouse_sendFetch F 512 (some (527 + 8 * n)) (some fa) T = some (0, T) ∧ D_m_send F (Int32.ofNat (128 * n + (4 * p + v))) S = some (0, up2 S 609 (128 * n + (4 * p + v)) 0)) ∨
    Sent F T S n fa p v la fo zs g hd9 tl9 := by
  have hn := hR.1
  have hH' : T.1 512 = some (house S.1) := hH
  have hnode := (hNd.2.1 n hn.1 hn.2).1
  have hup : ∀ n, 1 ≤ n → n < 7 → flag (rd S 591 n) := fun n a b => (hNd.2.1 n a b).2
  have key : (4 * p + v) < 128 := by omega
  have id0 : tgi T (527 + 8 * n) 4 0 = some (Int32.ofNat n) := tgi_o hnode rfl
  have n1 : ¬ fa = 527 + 8 * n := kd_ne hfa hnode (show ¬ (10 : Nat) = 4 by decide)
  have n2 : ¬ fa = 531 + 8 * n := kd_ne hfa hlist (show ¬ (10 : Nat) = 21 by decide)
  have n3 : ¬ 512 = fa := kd_ne hH' hfa (show ¬ (0 : Nat) = 10 by decide)
  have sufx : ∃ o : Option Nat, (∀ S7 : mS, (∀ a k, ¬ a = 609 → rd S7 a k = rd S a k) → D_m_suits F (Int32.ofNat (128 * n + (4 * p + v))) (rd S 616 (128 * n + (4 * p + v))) S7 = some (oI o)) ∧ (∀ e, o = some e → suitE S (128 * n + (4 * p + v)) la fo e) ∧ (o = none → ∀ e, ¬ suitE S (128 * n + (4 * p + v)) la fo e) := by
    have hk : ∀ e, e / 8 = 128 * n + (4 * p + v) → ¬ rd S 601 e = 0 → few 4 (eT S e 8) := by
      intro e he ht
      obtain ⟨q, hq, q2⟩ := hR.2.2.2.2.2.2.2.2.1 e (by omega) (by omega) ht
      have : q ∈ X ++ Y := List.mem_append.mpr hq
      obtain ⟨k, hk⟩ := hR.ent this
      obtain ⟨t, _, _, t3⟩ := hk.full
      rw [q2] at t3
      exact t3.2.2.2.2.2.2.2.2.2
    have base : ∀ S7 : mS, (∀ a k, ¬ a = 609 → rd S7 a k = rd S a k) → ∃ o, D_m_suits F (Int32.ofNat (128 * n + (4 * p + v))) (rd S 616 (128 * n + (4 * p + v))) S7 = some (oI o) ∧ (∀ e, o = some e → suitE S (128 * n + (4 * p + v)) la fo e) ∧ (o = none → ∀ e, ¬ suitE S (128 * n + (4 * p + v)) la fo e) := by
      intro S7 h7
      have e1 : ∀ e, suitE S7 (128 * n + (4 * p + v)) la fo e ↔ suitE S (128 * n + (4 * p + v)) la fo e := fun e => by
        unfold suitE eT
        rw [h7 601 e (by decide), h7 603 (9 * e + 8) (by decide)]
      obtain ⟨o, o1, o2, o3⟩ := m_suits_loop (F := F) (S := S7) (f := 128 * n + (4 * p + v)) (la := la) (fo := fo) (by omega) hla hfo (fun e he ht => by
        have := hk e he (by rw [← h7 601 e (by decide)]; exact ht)
        unfold eT at this ⊢
        rw [h7 603 _ (by decide)]
        exact this) 8 0 rfl (fun j hj => absurd hj (Nat.not_lt_zero _)) F (by omega)
      refine ⟨o, ?_, fun e he => (e1 e).mp (o2 e he), fun ho e he => o3 ho e ((e1 e).mpr he)⟩
      rw [s16]
      exact o1
    obtain ⟨o, o1, o2, o3⟩ := base S (fun _ _ _ => rfl)
    refine ⟨o, fun S7 h7 => ?_, o2, o3⟩
    obtain ⟨o', p1', p2', p3'⟩ := base S7 h7
    have : o' = o := by
      cases o with
      | none =>
        cases o' with
        | none => rfl
        | some e => exact absurd (p2' e rfl) (o3 rfl e)
      | some e =>
        cases o' with
        | none => exact absurd (o2 e rfl) (p3' rfl e)
        | some e' =>
          have a1 := p2' e' rfl
          have a2 := o2 e rfl
          rw [suitE.uniq hV (by have := a1.1; omega) (by have := a2.1; omega) a1 a2]
    rw [p1', this]
  obtain ⟨o, sfx, o1, o2⟩ := sufx
  have cE : ∀ e, o = some e → e < 7168 ∧ few 256 (eT S e 1) := by
    intro e he
    have hs := o1 e he
    obtain ⟨q, hq, q2⟩ := hR.2.2.2.2.2.2.2.2.1 e (by have := hs.1; omega) (by have := hs.1; omega) hs.2.1
    have : q ∈ X ++ Y := List.mem_append.mpr hq
    obtain ⟨k, hk⟩ := hR.ent this
    obtain ⟨t, _, _, t3⟩ := hk.full
    rw [q2] at t3
    exact ⟨by have := hs.1; omega, t3.2.2.1⟩
  -- where it goes
  have go : ∀ to0 : Nat, ((n ≤ 2 ∧ to0 = 0) ∨ (3 ≤ n ∧ 1 ≤ to0 ∧ to0 ≤ 2)) → D_m_goal F (Int32.ofNat n) (Int32.ofNat (4 * p + v)) S = some (Int32.ofNat to0) → D_c_EdgeHouse_sendFetch F 512 (some (527 + 8 * n)) (some fa) T = D_c_EdgeHouse_sendFetch_28 F 512 (some (527 + 8 * n)) (some fa) (Int32.ofNat to0) T → Sent F T S n fa p v la fo zs g hd9 tl9 := by
    intro to0 ht hg hc
    obtain ⟨Tz, am, G, GM, z1, z2, z3, z4, z5, ⟨c', z6⟩, z7, z8, z9, z10, z11, z12⟩ := c_sendF (F := F) hF hN hH hR hV hl hnode hlist hz hfa (show to0 ≤ 2 by omega) hp hv g0 g1 g2 g3 g4 o1 o2
    obtain ⟨S2, y1, y2, y3, y4, y5, y6, y7, y8, y9, y10⟩ := m_sendS (F := F) (S := S) (n := n) (key := 4 * p + v) (to0 := to0) (by omega) hn.2 key (by omega) hg cE sfx (by rw [s13]; exact g5) (by rw [s14]; exact g6) (by rw [s10]; exact g4)
    have nam1 : ¬ (512 : Nat) = am := fun w => by rw [← w, hH'] at z3; cases z3
    have cz : ∀ b c, T.1 b = some c → kd c = 0 ∨ kd c = 9 ∨ kd c = 13 ∨ b = 523 → Tz.1 b = some c := by
      intro b c hb hk
      refine z7 b c hb (fun w => ?_) (fun w => ?_) (fun w => ?_)
      · rw [w, hnode] at hb; cases hb
        rcases hk with k | k | k | k
        · cases k
        · cases k
        · cases k
        · omega
      · rw [w, hfa] at hb; cases hb
        rcases hk with k | k | k | k
        · cases k
        · cases k
        · cases k
        · obtain ⟨_, _, _, _, _, q3, _⟩ := hP
          rw [← k, w, hfa] at q3
          cases q3
      · rw [w, hlist] at hb; cases hb
        rcases hk with k | k | k | k
        · cases k
        · cases k
        · cases k
        · omega
    have hH2 : RHouse Tz S2 := by
      show Tz.1 512 = some (house S2.1)
      rw [cz 512 _ hH' (Or.inl rfl)]
      congr 1
      unfold house
      simp only [y2]
    have hP2 : RPost Tz S2 := hP.fr (fun b c hb hk => cz b c hb (by
      rcases hk with k | k
      · simp only [List.mem_cons, List.mem_nil_iff, or_false] at k
        rcases k with k | k
        · exact Or.inr (Or.inl k)
        · exact Or.inr (Or.inr (Or.inl k))
      · exact Or.inr (Or.inr (Or.inr (List.mem_singleton.mp k))))) ⟨fun a ha k => by rw [List.mem_singleton.mp ha]; exact y3 624 k (by decide) (by decide) (by decide) (by decide) (by decide) (by decide) (by decide), fun i hi => y2 i⟩
    have vh : v_had S n (128 * n + (4 * p + v)) o = v_hadG S n g o := by
      unfold v_had v_hadG
      rw [s13, s14]
      cases o <;> rfl
    have hand : ∀ i, i < 22 → rd S2 625 i = fetRow n to0 (rd S 596 n + 1) (rd S 593 n) g (Int32.ofNat (la + 4 * fo)) (v_hadG S n g o) i := by
      intro i hi
      rw [y10 i hi, vh, s16, s10, s13, s14, show (4 * p + v) / 4 = p by omega, show (4 * p + v) % 4 = v by omega, ← g0, ← g1]
      rfl
    obtain ⟨T', S', w1, w2, w3, w4, w5, w6, w7, w8⟩ := send_both (F := F) (T := Tz) (S := S2) (a := am) (g := GM) (t := none) (by omega) hH2 hP2 z2 (fun cap ms h9 hmem => by
      obtain ⟨k, cap', ms', q1, q2, q3, q4, q5⟩ := id hP
      rw [cz _ _ q3 (Or.inr (Or.inr (Or.inr rfl)))] at h9
      cases h9
      obtain ⟨j, hj⟩ := List.mem_iff_getElem?.mp hmem
      obtain ⟨fs, hc⟩ := (q5 j _ hj).cls
      rw [z3] at hc
      cases hc) (fun T2 h2 _ => by
      refine isMsg.ext (m := fetRow n to0 (rd S 596 n + 1) (rd S 593 n) g (Int32.ofNat (la + 4 * fo)) (v_hadG S n g o)) ?_ (fun i hi => hand i hi)
      refine ⟨_, none, h2, ?_, ?_, ?_, Or.inl ?_⟩
      · intro i hi
        rw [z12]
        match i, hi with
        | 0, _ => rfl
        | 1, _ => rfl
        | 2, _ => rfl
        | 3, _ => rfl
        | 4, _ => rfl
        | 5, _ => rfl
      · rw [z12]; rfl
      · rw [z12]; rfl
      · refine ⟨rfl, rfl, by rw [z12]; rfl, by rw [z12]; rfl, by rw [z12]; rfl, by exact g4, ⟨p, hp, by exact g0⟩, ⟨v, hv, by exact g1⟩, by exact g5, by exact g6, ⟨la, fo, hla, hfo, by rw [z12]; exact g2, by rw [z12]; exact g3, rfl⟩, n, to0, rfl, rfl, ?_⟩
        rcases ht with ht | ht
        · exact Or.inl ⟨hn.1, ht.1, ht.2⟩
        · exact Or.inr ⟨ht.1, by omega, ht.2.1, ht.2.2⟩)
    have out : ∀ b c, Tz.1 b = some c → ¬ b = 512 → ¬ b = 523 → ¬ b = am → T'.1 b = some c := fun b c hb a1 a2 a3 => w5.1 b c hb (by simp; exact ⟨a1, a2, a3⟩)
    have fam : ¬ fa = am := fun w => by rw [w, z3] at hfa; cases hfa
    have f523 : ¬ fa = 523 := by
      obtain ⟨_, _, _, _, _, q3, _⟩ := hP
      exact kd_ne hfa q3 (show ¬ (10 : Nat) = 21 by decide)
    have nam : ¬ 527 + 8 * n = am := fun w => by rw [w, z3] at hnode; cases hnode
    have lam : ¬ 531 + 8 * n = am := fun w => by rw [w, z3] at hlist; cases hlist
    refine ⟨o, to0, c', T', S', o1, o2, ht, ?_, ?_, w3, w4, ?_, out _ _ z5 (by omega) (by omega) nam, out _ _ z6 (by omega) (by omega) lam, fun b c hb a1 a2 a3 a4 a5 => out b c (z7 b c hb a3 a4 a5) a1 a2 (fun w => by rw [w, z3] at hb; cases hb), fun i i1 i2 => (w6 i i1 i2).trans (y2 i), fun a k a1 a2 a3 a4 a5 a6 a7 a8 => (w7 a k a7).trans (y3 a k a1 a2 a3 a4 a5 a6 a8), fun k => (w7 596 k (by decide)).trans (y4 k), fun k => (w7 609 k (by decide)).trans (y5 k), fun k => (w7 611 k (by decide)).trans (y6 k), fun k => (w7 612 k (by decide)).trans (y7 k), fun k => (w7 615 k (by decide)).trans (y8 k), fun k => (w7 617 k (by decide)).trans (y9 k), w8.of (y2 77) (fun k => y3 624 k (by decide) (by decide) (by decide) (by decide) (by decide) (by decide) (by decide)) hand⟩
    · rw [hc, z1, w1]; rfl
    · rw [y1, w2]; rfl
    · rw [← z11]
      exact out _ _ z4 (fun w => n3 w.symm) f523 fam
  have isE : D_c_EdgeHouse_isEdge F (Int32.ofNat n) T = some (b2i (decide (3 ≤ n))) := by
    unfold D_c_EdgeHouse_isEdge
    have : n = 1 ∨ n = 2 ∨ n = 3 ∨ n = 4 ∨ n = 5 ∨ n = 6 := by omega
    rcases this with w | w | w | w | w | w <;> (subst w; rfl)
  by_cases e3 : 3 ≤ n
  · have cr := c_ringS (F := F) (p := p) (v := v) (by omega) hH hPt hNd ⟨e3, hn.2⟩
    have mr := ring_parent_m (F := F) (p := p) (v := v) (by omega) hp hv ⟨e3, hn.2⟩ hup
    rw [← g0, ← g1] at cr
    have hc0 : ∀ x : Int32, D_c_EdgeHouse_ringNode F 512 (1 : Int32) (2 : Int32) (g 0) (g 1) (some (527 + 8 * n)) T = some x → D_c_EdgeHouse_sendFetch F 512 (some (527 + 8 * n)) (some fa) T = D_c_EdgeHouse_sendFetch_28 F 512 (some (527 + 8 * n)) (some fa) x T := by
      intro x hx
      simp only [D_c_EdgeHouse_sendFetch, Option.bind_some, id0, isE, decide_eq_true e3, show m_c1 .eq (b2i true) = false from rfl, cond_false, Fg0 hfa, Fg1 hfa, tcl_o hH', hx]
    cases hA : fL Kp (fun k q => way (pt (64 + p) v) q + (if isSh S n k then 65536 else 0)) none ((List.range' 1 2).filter (isUp S)) with
    | none =>
      rw [hA] at cr mr
      left
      refine ⟨e3, ?_, ?_⟩
      · rw [hc0 _ cr]
        rfl
      · have md : D_m_send F (Int32.ofNat (128 * n + (4 * p + v))) S = _ := rfl
        have e1 : Int32.ofNat (128 * n + (4 * p + v)) / (128 : Int32) = Int32.ofNat n := by
          rw [show (128 : Int32) = Int32.ofNat 128 from rfl, m_n_div (by show _ < 2147483648; omega) (by decide)]
          congr 1
          omega
        have e2 : Int32.ofNat (128 * n + (4 * p + v)) - Int32.ofNat n * (128 : Int32) = Int32.ofNat (4 * p + v) := by
          rw [show (128 : Int32) = Int32.ofNat 128 from rfl, ← Int32.ofNat_mul, ← Int32.ofNat_sub _ _ (by omega)]
          congr 1
          omega
        have b9 : bput 896 S 609 (Int32.ofNat (128 * n + (4 * p + v))) 0 = some (up2 S 609 (128 * n + (4 * p + v)) 0) := bput_n (by omega) (by decide) (Or.inl rfl)
        unfold D_m_send
        simp only [e1, e2, mr, Option.bind_some, cB, Option.map_none, oI, show m_c2 .eq (-1 : Int32) (-1) = true from rfl, cond_true, b9]
        first | rfl | (simp [m_c2, b9]; done) | skip
    | some q =>
      have hq := ring_in hA
      rw [hA] at cr mr
      right
      exact go q.1 (Or.inr ⟨e3, hq.1, by omega⟩) mr (hc0 _ cr)
  · right
    refine go 0 (Or.inl ⟨by omega, rfl⟩) (ring_origin (by omega)) ?_
    simp only [D_c_EdgeHouse_sendFetch, Option.bind_some, id0, isE, decide_eq_false e3, show m_c1 .eq (b2i false) = true from rfl, cond_true]
    rfl
end
