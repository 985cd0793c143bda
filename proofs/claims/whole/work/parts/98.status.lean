/-! Status and FILL messages, in both. -/
section
variable {T : tT} {S : mS} {F w n : Nat}
/-- the row of a request by a FETCH, as far as messages need it -/
def isFq (S : mS) (w n : Nat) (g : Nat → Int32) : Prop := w < 47988 ∧ rd S 622 (w + 2) = -1 ∧ rd S 622 w = Int32.ofNat n ∧ rd S 622 (w + 3) = g 15 ∧ rd S 622 (w + 4) = g 16 ∧ rd S 622 (w + 9) = g 17 ∧ (1 ≤ n ∧ n ≤ 2) ∧ (∃ b, g 15 = Int32.ofNat b ∧ 3 ≤ b ∧ b ≤ 6) ∧ ∃ p v, p < 32 ∧ v < 4 ∧ g 0 = Int32.ofNat p ∧ g 1 = Int32.ofNat v ∧ rd S 622 (w + 1) = Int32.ofNat (4 * p + v)
theorem h625 {S : mS} {k : Nat} {x : Int32} (hk : k < 22) : aput 22 S 625 (Int32.ofNat k) x = some (up2 S 625 k x) := aput_n hk (by decide)
def stRow (n : Nat) (g : Nat → Int32) (st : Int32) : Nat → Int32 := fun i => if i = 6 then st else if i = 0 then 1 else if i = 1 then Int32.ofNat n else if i = 2 then g 15 else if i = 3 then g 16 else if i = 4 then g 0 else if i = 5 then g 1 else 0
/-- sendStatus beside refuse, for a request by a FETCH -/
theorem status_both (hF : 23 ≤ F) (hN : okN T) (hH : RHouse T S) (hP : RPost T S) {q : Nat} {g : Nat → Int32} {c r b : Option Nat} (hq : T.1 q = some (cReq g c r b)) (hw : isFq S w n g) {st : Int32} (hst : st = 404 ∨ st = 504) : ∃ T' S', D_c_EdgeHouse_sendStatus F 512 (Int32.ofNat n) (some q) st T = some T' ∧ D_m_refuse F (Int32.ofNat w) st S = some S' ∧ RHouse T' S' ∧ RPost T' S' ∧ FrC [512, 523] T T' ∧ (∀ i, ¬ i = 77 → ¬ i = 39 → S'.1 i = S.1 i) ∧ (∀ b k, ¬ b = 624 → ¬ b = 625 → rd S' b k = rd S b k) ∧ pst S S' (stRow n g st) := by
  obtain ⟨hw0, w2, w0, w3, w4, w9, hn, ⟨ed, ed1, ed2, ed3⟩, p, v, hp, hv, g0, g1, w1⟩ := hw
  obtain ⟨m1, m2, m3⟩ := new_msg hN
  have hqa : ¬ q = T.2.1 := fun z => by rw [z, m3] at hq; cases hq
  have hHa : ¬ 512 = T.2.1 := fun z => by rw [← z] at m3; rw [show T.1 512 = some (house S.1) from hH] at m3; cases m3
  obtain ⟨S1, b1, b2, b3⟩ := m_blank (F := F) (S := S) (x1 := 1) (x2 := Int32.ofNat n) (x3 := g 15) (x4 := g 16) (key := 4 * p + v) hF (by omega)
  have a0 : aget 0 48000 S 622 (Int32.ofNat w) = some (rd S 622 w) := aget_n (Or.inl rfl) (by omega) (by decide)
  have hS1 : ∀ a k, rd (up2 S1 625 6 st) a k = if a = 625 ∧ k = 6 then st else rd S1 a k := fun a k => rd_up2
  let G : Nat → Int32 := fup (fup (fup (fup (fup (fup (fup (fun _ => 0) 0 1) 1 (Int32.ofNat n)) 2 (g 15)) 3 (g 16)) 4 (g 0)) 5 (g 1)) 12 st
  let Ta : tT := tadd T (cMsg (fun _ => 0) none) 19
  let Tb : tT := tset Ta T.2.1 (cMsg G none)
  have qa : ∀ X, (tset (tadd T (cMsg (fun _ => 0) none) 19) T.2.1 X).1 q = some (cReq g c r b) := fun X => by
    rw [tset_1, if_neg hqa]
    show (tadd _ _ _).1 q = _
    rw [tadd_1, if_neg hqa]
    exact hq
  have qb : (tadd T (cMsg (fun _ => 0) none) 19).1 q = some (cReq g c r b) := by
    show (tadd _ _ _).1 q = _
    rw [tadd_1, if_neg hqa]
    exact hq
  have ba : Tb.1 T.2.1 = some (cMsg G none) := tset_at
  have bf : ∀ x c, T.1 x = some c → Tb.1 x = some c := by
    intro x c hx
    have : ¬ x = T.2.1 := fun z => by rw [z, m3] at hx; cases hx
    show (tset _ _ _).1 x = _
    rw [tset_1, if_neg this]
    show (tadd _ _ _).1 x = _
    rw [tadd_1, if_neg this]
    exact hx
  have bN : okN Tb := by
    intro x c hx
    rw [show Tb.1 x = (tset Ta T.2.1 (cMsg G none)).1 x from rfl, tset_1] at hx
    show x < T.2.1 + 1
    split at hx
    · omega
    · have hx' : (tadd T (cMsg (fun _ => 0) none) 19).1 x = some c := hx
      rw [tadd_1] at hx'
      split at hx'
      · omega
      · exact Nat.lt_succ_of_lt (hN x c hx')
  have bH : RHouse Tb (up2 S1 625 6 st) := by
    show Tb.1 512 = some (house (up2 S1 625 6 st).1)
    rw [bf 512 _ hH]
    congr 1
    unfold house
    simp only [up2_1, b2]
  have bP : RPost Tb (up2 S1 625 6 st) := by
    obtain ⟨k, cap, ms, z1, z2, z3, z4, z5⟩ := id hP
    refine ⟨k, cap, ms, by rw [up2_1, b2]; exact z1, z2, bf _ _ z3, z4, fun j d hd => ?_⟩
    refine ((z5 j d hd).same (fun x c hx _ => bf x c hx)).ext (fun i hi => ?_)
    show rd (up2 S1 625 6 st) 624 (22 * j + i) = rd S 624 (22 * j + i)
    rw [hS1, if_neg (by omega), b3, if_neg (by omega)]
  have hand : ∀ i, rd (up2 S1 625 6 st) 625 i = if i = 6 then st else if i < 22 then (if i = 0 then 1 else if i = 1 then Int32.ofNat n else if i = 2 then g 15 else if i = 3 then g 16 else if i = 4 then Int32.ofNat p else if i = 5 then Int32.ofNat v else 0) else rd S 625 i := by
    intro i
    rw [hS1, b3, show (4 * p + v) / 4 = p by omega, show (4 * p + v) % 4 = v by omega]
    simp only [true_and]
  obtain ⟨T', S', s1, s2, s3, s4, s5, s6, s7, s8⟩ := send_both (F := F) (T := Tb) (S := up2 S1 625 6 st) (a := T.2.1) (g := G) (t := none) hF bH bP ba (fun cap ms h9 hmem => by
    obtain ⟨k, cap', ms', z1, z2, z3, z4, z5⟩ := id hP
    rw [bf _ _ z3] at h9
    cases h9
    obtain ⟨j, hj⟩ := List.mem_iff_getElem?.mp hmem
    obtain ⟨fs, hc⟩ := (z5 j _ hj).cls
    rw [m3] at hc
    cases hc) (fun T2 h2 _ => by
    refine ⟨_, none, h2, ?_, ?_, ?_, Or.inr (Or.inl ?_)⟩
    · intro i hi
      match i, hi with
      | 0, _ => simp [fup, G, hand]
      | 1, _ => simp [fup, G, hand]
      | 2, _ => simp [fup, G, hand]
      | 3, _ => simp [fup, G, hand]
      | 4, _ => simp [fup, G, hand, g0]
      | 5, _ => simp [fup, G, hand, g1]
    · simp [fup, G, hand]
    · simp [fup, G, hand]
    · refine ⟨by simp [hand], by simp [fup, G, hand], by simp [fup, G, hand], by simp [fup, G], by simp [hand], ⟨p, hp, by simp [hand]⟩, ⟨v, hv, by simp [hand]⟩, ⟨n, ed, by simp [hand], by simp [hand, ed1], by omega⟩, Or.inl ⟨rfl, by simp [hand], by simp [hand], ?_⟩⟩
      rcases hst with rfl | rfl
      · exact Or.inl (by simp [hand])
      · exact Or.inr (by simp [hand]))
  refine ⟨T', S', ?_, ?_, s3, s4, ?_, fun i i1 i2 => by rw [s6 i i1 i2, up2_1, b2], fun x k hx hy => by rw [s7 x k hx, hS1, if_neg (fun z => hy z.1), b3, if_neg (fun z => hy z.1)], s8.of (by rw [up2_1, b2]) (fun k => by rw [hS1, if_neg (by omega), b3, if_neg (by omega)]) (fun i hi => by
    rw [hand, stRow, g0, g1, if_pos hi])⟩
  · have cl : tcl Tb 512 0 = some () := tcl_o (bf 512 _ hH)
    simp only [D_c_EdgeHouse_sendStatus, bd2, m1, Option.bind_some, Qg15 qb, Qg16 qb, D_c_Message_init, Mp0 m2, Mp1 tset_at, Mp2 tset_at, Mp3 tset_at, Mp4 tset_at, Mp5 tset_at, Mp12 tset_at, tset_tset, Qg0 (qa _), Qg1 (qa _)]
    show ((tcl Tb 512 0).bind fun _ => (D_c_EdgeHouse_send F 512 (some T.2.1) Tb).bind fun T40 => some T40) = some T'
    rw [cl, Option.bind_some, s1]
    rfl
  · have e1 : aput 22 S1 625 (6 : Int32) st = some (up2 S1 625 6 st) := h625 (k := 6) (by decide)
    unfold D_m_refuse
    rw [wait2 hw0, Option.bind_some, w2, show m_c2 .eq (-1 : Int32) (-1) = true from rfl, cond_true, a0, wait3 hw0, wait4 hw0, wait1 hw0]
    simp only [Option.bind_some, w0, w3, w4, w1, b1, e1, s2]
  · refine ⟨fun x c hx hl => s5.1 x c (bf x c hx) (fun z => ?_), fun _ => s5.2.1 bN, Nat.le_trans (Nat.le_succ _) s5.2.2.1, Nat.le_trans (Nat.le_add_right _ _) s5.2.2.2⟩
    have : ¬ x = T.2.1 := fun e => by rw [e, m3] at hx; cases hx
    simp only [List.mem_cons, List.mem_nil_iff, or_false] at z hl
    rcases z with z | z | z
    · exact hl (Or.inl z)
    · exact hl (Or.inr z)
    · exact this z
end
