/-! The page: a StringBuilder and its bytes. -/
def SB (b : Nat) (ml n : Int32) : tC := .inl (3, [.ref b, .int 0, .int ml, .int n])
def fbt (f : Nat → Value) (m : Nat) : Prop := ∀ i, i < m → fits .byte (.int (m_toI (f i))) = true
def Pg (T : tT) (b m : Nat) (f : Nat → Value) (ml n : Int32) : Prop := T.1 525 = some (SB b ml n) ∧ T.1 b = some (.inr (.inl (3, m, f))) ∧ fbt f m
def b3 (c : tC) : Bool := match c with
  | .inr (.inl (t, _, _)) => decide (t = 3)
  | _ => false
/-- what the page's growing leaves as it was, and what it costs -/
def Gw (T0 : tT) (b0 : Nat) (T : tT) (b d : Nat) : Prop := (∀ c x, T0.1 c = some x → ¬ c = 525 → ¬ c = b0 → T.1 c = some x) ∧ (b = b0 ∨ T0.2.1 ≤ b) ∧ (T0.2.1 ≤ T.2.1 ∧ ∀ c x, T.1 c = some x → b3 x = false → ¬ c = 525 → T0.1 c = some x) ∧ Cs T0 T d (2 * d)
section
variable {T T1 T2 T' : tT} {b b1 b2 m n p k d d1 d2 F : Nat} {f : Nat → Value} {ml x y : Int32} {cs : List Int32}
theorem Sg0 (h : T.1 525 = some (SB b ml x)) : tgr T 525 3 0 = some (some b) := tgr_o (x := some b) h rfl
theorem Sg1 (h : T.1 525 = some (SB b ml x)) : tgi T 525 3 1 = some 0 := tgi_o h rfl
theorem Sg3 (h : T.1 525 = some (SB b ml x)) : tgi T 525 3 3 = some x := tgi_o h rfl
theorem Sp3 (h : T.1 525 = some (SB b ml x)) : tpi T 525 3 3 y = some (tset T 525 (SB b ml y)) := (tp_o h (show 3 < 4 by decide)).trans rfl
theorem Sp0 (h : T.1 525 = some (SB b ml x)) : tpr T 525 3 0 (some k) = some (tset T 525 (SB k ml x)) := (tp_o h (show 0 < 4 by decide)).trans rfl
theorem Sp2 (h : T.1 525 = some (SB b ml x)) : tpz T 525 3 2 1 = some (tset T 525 (SB b 1 x)) := by
  unfold tpz
  rw [if_pos (Or.inr rfl)]
  exact (tp_o h (show 2 < 4 by decide)).trans rfl
theorem Gw.refl : Gw T b T b 0 := ⟨fun _ _ h _ _ => h, Or.inl rfl, ⟨Nat.le_refl _, fun _ _ h _ _ => h⟩, Cs.refl⟩
theorem Gw.trans (h1 : Gw T b T1 b1 d1) (h2 : Gw T1 b1 T2 b2 d2) (hN : okN T) : Gw T b T2 b2 (d1 + d2) := by
  obtain ⟨a1, a2, a3, a4⟩ := h1
  obtain ⟨c1, c2, c3, c4⟩ := h2
  refine ⟨fun c x hc n1 n2 => c1 c x (a1 c x hc n1 n2) n1 (fun q => ?_), ?_, ⟨Nat.le_trans a3.1 c3.1, fun c x h n1 n2 => a3.2 c x (c3.2 c x h n1 n2) n1 n2⟩, (a4.trans c4).mono (Nat.le_refl _) (by omega)⟩
  · rcases a2 with w | w
    · exact n2 (q.trans w)
    · have := hN c x hc
      omega
  · rcases c2 with w | w
    · rw [w]; exact a2
    · exact Or.inr (Nat.le_trans a3.1 w)
theorem sub_le (hp : p < 1073741824) (hm : m < 1073741824) : m_c1 .le (Int32.ofNat p - Int32.ofNat m) = decide (p ≤ m) := by
  have e : (Int32.ofNat p - Int32.ofNat m).toInt = (p : Int) - m := by
    rw [Int32.toInt_sub, Int32.toInt_ofNat_of_lt (by omega), Int32.toInt_ofNat_of_lt (by omega)]
    exact Int.bmod_eq_of_le (by omega) (by omega)
  show decide (Int32.ofNat p - Int32.ofNat m ≤ 0) = _
  have : (Int32.ofNat p - Int32.ofNat m ≤ 0) ↔ p ≤ m := by
    rw [Int32.le_iff_toInt_le, e]
    have : (0 : Int32).toInt = 0 := rfl
    omega
  exact decide_eq_decide.mpr this
theorem z31' : ((0 : Int32) &&& 31) = 0 := by decide
/-- the room a page grows to -/
def grow (m p : Nat) : Nat := m + max (p - m) (m + 2)
theorem newcap (h : T.1 525 = some (SB b ml x)) (hb : T.1 b = some (.inr (.inl (3, m, f)))) (hm : m < p) (hp : p ≤ 100000) : D_c_AbstractStringBuilder_newCapacity F 525 (Int32.ofNat p) T = some (Int32.ofNat (grow m p)) := by
  have al : tal T b = some (Int32.ofNat m) := by simp only [tal, hb]; rfl
  have e1 : Int32.ofNat p - Int32.ofNat m = Int32.ofNat (p - m) := m_n_sub (by omega)
  have e2 : Int32.ofNat m + (2 : Int32) = Int32.ofNat (m + 2) := m_n_add m 2
  have e3 : (if Int32.ofNat (p - m) < Int32.ofNat (m + 2) then Int32.ofNat (m + 2) else Int32.ofNat (p - m)) = Int32.ofNat (max (p - m) (m + 2)) := by
    have q := i_lt (a := p - m) (b := m + 2) (by show p - m < 2147483648; omega) (by show m + 2 < 2147483648; omega)
    by_cases w : p - m < m + 2
    · rw [if_pos (q.mpr w), show max (p - m) (m + 2) = m + 2 by omega]
    · rw [if_neg (fun z => w (q.mp z)), show max (p - m) (m + 2) = p - m by omega]
  have e4 : Int32.ofNat m + Int32.ofNat (max (p - m) (m + 2)) = Int32.ofNat (grow m p) := m_n_add _ _
  have g0 : 0 < grow m p := by unfold grow; omega
  have g1 : grow m p < 400000 := by unfold grow; omega
  unfold D_c_AbstractStringBuilder_newCapacity D_c_ArraysSupport_newLength
  simp only [Sg0 h, Sg1 h, Option.bind_some, al, z31', Int32.shiftLeft_zero, Int32.shiftRight_zero, e1, e2, e3, e4]
  rw [show (0 : Int32) = Int32.ofNat 0 from rfl, ge_n (by decide) (by omega), decide_eq_false (by omega), cond_false, show (2147483639 : Int32) = Int32.ofNat 2147483639 from rfl, show m_c2 .gt (Int32.ofNat (grow m p)) (Int32.ofNat 2147483639) = false from decide_eq_false (fun q => by
    have := (i_lt (a := 2147483639) (b := grow m p) (by decide) (by show grow m p < 2147483648; omega)).mp q
    omega), cond_false, Option.bind_some, show (2147483647 : Int32) = Int32.ofNat 2147483647 from rfl, ne_n (by omega) (by decide), decide_eq_true (by omega), cond_true]
theorem ens_c (h : Pg T b m f ml x) (hN : okN T) (hp : p ≤ 20000) (hm : m ≤ 20000) : ∃ T' b' m' f', D_c_AbstractStringBuilder_ensureCapacityInternal F 525 (Int32.ofNat p) T = some T' ∧ Pg T' b' m' f' ml x ∧ (∀ i, i < m → f' i = f i) ∧ p ≤ m' ∧ m ≤ m' ∧ (m' = m ∨ m' ≤ 2 * p) ∧ Gw T b T' b' (m' - m) := by
  obtain ⟨h1, h2, h3⟩ := id h
  have al : tal T b = some (Int32.ofNat m) := by simp only [tal, h2]; rfl
  unfold D_c_AbstractStringBuilder_ensureCapacityInternal
  simp only [Sg0 h1, Sg1 h1, Option.bind_some, al, z31', Int32.shiftLeft_zero, Int32.shiftRight_zero, sub_le (show p < 1073741824 by omega) (show m < 1073741824 by omega)]
  by_cases w : p ≤ m
  · rw [decide_eq_true w, cond_true]
    exact ⟨T, b, m, f, rfl, h, fun _ _ => rfl, w, Nat.le_refl _, Or.inl rfl, by rw [Nat.sub_self]; exact Gw.refl⟩
  · rw [decide_eq_false w, cond_false]
    have hmp : m < p := by omega
    have g1 : grow m p ≤ 2 * p := by unfold grow; omega
    have g2 : p ≤ grow m p := by unfold grow; omega
    have g3 : 2 * m + 2 ≤ grow m p := by unfold grow; omega
    obtain ⟨m', hm'⟩ : ∃ z, z = grow m p := ⟨_, rfl⟩
    obtain ⟨B, hB⟩ : ∃ B, B = T.2.1 := ⟨_, rfl⟩
    have lb := hN _ _ h2
    have l5 := hN _ _ h1
    have nc : D_c_AbstractStringBuilder_newCapacity F 525 (Int32.ofNat p) T = some (Int32.ofNat m') := by rw [newcap h1 h2 hmp (by omega), hm']
    obtain ⟨T10, h10⟩ : ∃ z, z = tadd T (.inr (.inl (3, m', fun _ => .int 0))) m' := ⟨_, rfl⟩
    have na : tna T 3 (Int32.ofNat m') = some (B, T10) := by
      unfold tna
      rw [if_neg (show ¬ (Int32.ofNat m' < 0 ∨ 65536 < (Int32.ofNat m').toNatClampNeg) from ?_), m_n_cl (by omega), hB, h10]
      · rfl
      · rw [m_n_cl (by omega)]
        intro q
        rcases q with q | q
        · exact m_n_neg (by omega) q
        · omega
    have b10 : ∀ c, T10.1 c = if c = B then some (.inr (.inl (3, m', fun _ => .int 0))) else T.1 c := fun c => by rw [h10, tadd_1, hB]
    have x10 : T10.1 b = some (.inr (.inl (3, m, f))) := by rw [b10, if_neg (by omega)]; exact h2
    have y10 : T10.1 B = some (.inr (.inl (3, m', fun _ => .int 0))) := by rw [b10, if_pos rfl]
    have al10 : tal T10 b = some (Int32.ofNat m) := by simp only [tal, x10]; rfl
    obtain ⟨f', hf'⟩ : ∃ z : Nat → Value, z = fun j => if 0 ≤ j ∧ j < 0 + m then f (0 + (j - 0)) else .int 0 := ⟨_, rfl⟩
    obtain ⟨T17, h17⟩ : ∃ z, z = tset T10 B (.inr (.inl (3, m', f'))) := ⟨_, rfl⟩
    have cp : tcb T10 b 0 B 0 (Int32.ofNat m) = some T17 := by
      unfold tcb
      simp only [x10, y10, m_n_cl (show m < 2147483648 by omega)]
      rw [if_pos ⟨⟨by decide, by decide, m_n_neg (by omega)⟩, ⟨by show 0 + m ≤ m; omega, by show 0 + m ≤ m'; omega⟩, List.all_eq_true.mpr (fun i hi => by
        have := h3 i (List.mem_range.mp hi)
        show fits .byte (.int (m_toI (f (0 + i)))) = true
        rw [Nat.zero_add]
        exact this)⟩, h17, hf']
      rfl
    have mn : (if Int32.ofNat m' < Int32.ofNat m then Int32.ofNat m' else Int32.ofNat m) = Int32.ofNat m := if_neg (fun q => by
      have := (i_lt (a := m') (b := m) (by show m' < 2147483648; omega) (by show m < 2147483648; omega)).mp q
      omega)
    have co : D_c_Arrays_copyOf F (some b) (Int32.ofNat m') T = some (some B, T17) := by
      unfold D_c_Arrays_copyOf
      simp only [Option.bind_some, al, ne_n (show m' < 2147483648 by omega) (show m < 2147483648 by omega), decide_eq_true (show ¬ m' = m by omega), cond_true, na, bd2, al10, mn, cp]
    have b17 : ∀ c, T17.1 c = if c = B then some (.inr (.inl (3, m', f'))) else T.1 c := fun c => by
      rw [h17, tset_1]
      by_cases z : c = B
      · rw [if_pos z, if_pos z]
      · rw [if_neg z, if_neg z, b10, if_neg z]
    have x17 : T17.1 525 = some (SB b ml x) := by rw [b17, if_neg (by omega)]; exact h1
    have fe : ∀ i, i < m → f' i = f i := fun i hi => by
      rw [hf']
      show (if 0 ≤ i ∧ i < 0 + m then f (0 + (i - 0)) else .int 0) = f i
      rw [if_pos ⟨Nat.zero_le _, by omega⟩, Nat.zero_add, Nat.sub_zero]
    simp only [tcl_o h1, nc, Option.bind_some, bd2, co, Sp0 x17]
    refine ⟨tset T17 525 (SB B ml x), B, m', f', rfl, ⟨tset_at, ?_, fun i hi => ?_⟩, fe, by omega, by omega, Or.inr (by omega), fun c x hc n1 n2 => ?_, Or.inr (by omega), ⟨?_, fun c x hc n3 n1 => ?_⟩, ?_⟩
    · rw [tset_1, if_neg (by omega), b17, if_pos rfl]
    · by_cases z : i < m
      · rw [fe i z]; exact h3 i z
      · rw [hf']
        show fits .byte (.int (m_toI (if 0 ≤ i ∧ i < 0 + m then f (0 + (i - 0)) else .int 0))) = true
        rw [if_neg (by omega)]
        decide
    · have := hN c x hc
      rw [tset_1, if_neg n1, b17, if_neg (by omega)]
      exact hc
    · show T.2.1 ≤ T17.2.1
      rw [h17, h10]
      exact Nat.le_succ _
    · rw [tset_1, if_neg n1, b17] at hc
      by_cases z : c = B
      · rw [if_pos z] at hc
        cases hc
        exact Bool.noConfusion (show true = false from n3)
      · rw [if_neg z] at hc
        exact hc
    · have q1' : Cs T T10 1 m' := by rw [h10]; exact Cs.new rfl
      have q2' : Cs T10 T17 0 0 := by rw [h17]; exact Cs.cell y10 rfl rfl
      have q3' : Cs T17 (tset T17 525 (SB B ml x)) 0 0 := Cs.cell x17 rfl rfl
      exact ((q1'.trans q2').trans q3').mono (by omega) (by omega)
/-- the page holds the text cs -/
def Pt (T : tT) (b m : Nat) (ml : Int32) (cs : List Int32) : Prop := ∃ f, Pg T b m f ml (Int32.ofNat cs.length) ∧ cs.length ≤ m ∧ ∀ i x, cs[i]? = some x → m_toI (f i) &&& 255 = x
/-- one step of writing: what it does to the page -/
def Wr (T : tT) (b m : Nat) (ml : Int32) (cs : List Int32) (o : Option (Option Nat × tT)) : Prop := ∃ T' b' m', o = some (some 525, T') ∧ Pt T' b' m' ml cs ∧ m ≤ m' ∧ (m' = m ∨ m' ≤ 2 * cs.length) ∧ Gw T b T' b' (m' - m)
theorem byt_ok : ∀ k, k < 256 → m_toI (.int (vp_nar .byte (Int32.ofNat k).toInt8.toInt32)) &&& 255 = Int32.ofNat k ∧ fits .byte (.int (m_toI (.int (vp_nar .byte (Int32.ofNat k).toInt8.toInt32)))) = true := by decide +kernel
theorem isl (h : T.1 525 = some (SB b ml x)) : D_c_AbstractStringBuilder_isLatin1 F 525 T = some 1 := by
  unfold D_c_AbstractStringBuilder_isLatin1
  simp only [Sg1 h]
  rfl
theorem app_c (h : Pt T b m ml cs) (hN : okN T) (hk : k < 256) (hl : cs.length ≤ 2000) (hm : m ≤ 20000) : Wr T b m ml (cs ++ [Int32.ofNat k]) (D_c_StringBuilder_append214 F 525 (Int32.ofNat k) T) := by
  obtain ⟨f, hg, hlm, ht⟩ := h
  obtain ⟨T7, b7, m7, f7, e1, e2, e3, e4, e5, e6, e7⟩ := ens_c (F := F) (p := cs.length + 1) hg hN (by omega) hm
  obtain ⟨p1', p2', p3'⟩ := id e2
  have i1 : Int32.ofNat cs.length + 1 = Int32.ofNat (cs.length + 1) := m_n_add _ 1
  have nb : ¬ b7 = 525 := fun q => by rw [q, p1'] at p2'; cases p2'
  obtain ⟨v, hv⟩ : ∃ z, z = vp_nar .byte (Int32.ofNat k).toInt8.toInt32 := ⟨_, rfl⟩
  obtain ⟨v1', v2'⟩ := byt_ok k hk
  rw [← hv] at v1' v2'
  obtain ⟨T33, h33⟩ : ∃ z, z = tset T7 525 (SB b7 ml (Int32.ofNat (cs.length + 1))) := ⟨_, rfl⟩
  have x33 : T33.1 b7 = some (.inr (.inl (3, m7, f7))) := by rw [h33]; exact tset_o p2' nb
  obtain ⟨T40, h40⟩ : ∃ z, z = tset T33 b7 (.inr (.inl (3, m7, fun j => if j = cs.length then .int v else f7 j))) := ⟨_, rfl⟩
  have sb : tasb T33 b7 (Int32.ofNat cs.length) ((Int32.ofNat k).toInt8.toInt32) = some T40 := by
    unfold tasb
    rw [tas_n x33 (by omega) (by omega), h40, hv]
  have ce : D_c_StringLatin1_canEncode F (Int32.ofNat k) T7 = some 1 := by
    unfold D_c_StringLatin1_canEncode
    rw [show (255 : Int32) = Int32.ofNat 255 from rfl, show m_c2 .gt (Int32.ofNat k) (Int32.ofNat 255) = false from decide_eq_false (fun q => by
      have := (i_lt (a := 255) (b := k) (by decide) (by show k < 2147483648; omega)).mp q
      omega)]
    rfl
  have e1' : D_c_AbstractStringBuilder_ensureCapacityInternal F 525 (Int32.ofNat cs.length + 1) T = some T7 := by rw [i1]; exact e1
  refine ⟨T40, b7, m7, ?_, ⟨fun j => if j = cs.length then .int v else f7 j, ⟨?_, ?_, fun i hi => ?_⟩, ?_, fun i x hx => ?_⟩, e5, ?_, ?_⟩
  · unfold D_c_StringBuilder_append214 D_c_AbstractStringBuilder_append215
    simp only [tcl_o hg.1, Option.bind_some, Sg3 hg.1, i1, e1, tcl_o p1', isl p1', show m_c1 .eq (1 : Int32) = false from rfl, cond_false, ce, Sg0 p1', Sg3 p1', Sp3 p1', ← h33, sb, bd2]
  · rw [h40, tset_1, if_neg (fun q => nb q.symm), h33, tset_at, List.length_append]
    rfl
  · rw [h40]; exact tset_at
  · by_cases w : i = cs.length
    · show fits .byte (.int (m_toI (if i = cs.length then .int v else f7 i))) = true
      rw [if_pos w]; exact v2'
    · show fits .byte (.int (m_toI (if i = cs.length then .int v else f7 i))) = true
      rw [if_neg w]; exact p3' i hi
  · rw [List.length_append]; exact e4
  · show m_toI (if i = cs.length then .int v else f7 i) &&& 255 = x
    by_cases w : i = cs.length
    · rw [if_pos w, v1']
      rw [w, List.getElem?_append_right (Nat.le_refl _), Nat.sub_self] at hx
      exact Option.some.inj hx
    · rw [if_neg w]
      have lt : i < cs.length := by
        have := (List.getElem?_eq_some_iff.mp hx).1
        rw [List.length_append] at this
        have : i < cs.length + 1 := this
        omega
      rw [List.getElem?_append_left lt] at hx
      rw [e3 i (by omega)]
      exact ht i x hx
  · rw [List.length_append]
    exact e6
  · have q1' : Gw T7 b7 T40 b7 0 := by
      refine ⟨fun c x hc n1 n2 => ?_, Or.inl rfl, ⟨by rw [h40, h33]; exact Nat.le_refl _, fun c x hc n3 n1 => ?_⟩, ?_⟩
      · rw [h40, tset_1, if_neg n2, h33, tset_1, if_neg n1]; exact hc
      · rw [h40, tset_1] at hc
        by_cases z : c = b7
        · rw [if_pos z] at hc
          cases hc
          exact Bool.noConfusion (show true = false from n3)
        · rw [if_neg z, h33, tset_1, if_neg n1] at hc
          exact hc
      · rw [h40, h33]
        exact ((Cs.cell p1' rfl rfl).trans (Cs.cell (by rw [← h33]; exact x33) rfl rfl)).mono (by decide) (by decide)
    have q2' := Gw.trans e7 q1' hN
    rw [Nat.add_zero] at q2'
    exact q2'
theorem m_tx_a : ∀ b ∈ m_xbl, ∀ x ∈ b, x &&& 255 = x := by decide +kernel
theorem app_t {t : Nat} (h : Pt T b m ml cs) (hN : okN T) (ht : 1 ≤ t ∧ t ≤ m_sN) (hl : cs.length ≤ 2000) (hm : m ≤ 20000) : Wr T b m ml (cs ++ m_tx t) (D_c_StringBuilder_append F 525 t T) := by
  obtain ⟨f, hg, hlm, hc⟩ := h
  have tl := m_tx_len ht
  obtain ⟨L, hL⟩ : ∃ z, z = (m_tx t).length := ⟨_, rfl⟩
  rw [← hL] at tl
  obtain ⟨T7, b7, m7, f7, e1, e2, e3, e4, e5, e6, e7⟩ := ens_c (F := F) (p := cs.length + L) hg hN (by omega) hm
  obtain ⟨p1', p2', p3'⟩ := id e2
  have i1 : Int32.ofNat cs.length + Int32.ofNat L = Int32.ofNat (cs.length + L) := m_n_add _ _
  have nb : ¬ b7 = 525 := fun q => by rw [q, p1'] at p2'; cases p2'
  have xl : xlen t = some (Int32.ofNat L) := by unfold xlen; rw [if_pos ht, hL]
  have xc : xcod t = some 0 := by unfold xcod; rw [if_pos ht]
  obtain ⟨f9, hf9⟩ : ∃ z : Nat → Value, z = fun j => if cs.length ≤ j ∧ j < cs.length + L then .int ((m_tx t).getD (j - cs.length) 0) else f7 j := ⟨_, rfl⟩
  obtain ⟨T18, h18⟩ : ∃ z, z = tset T7 b7 (.inr (.inl (3, m7, f9))) := ⟨_, rfl⟩
  have gb : xgb T7 t b7 (Int32.ofNat cs.length) 0 = some T18 := by
    unfold xgb
    simp only [p2', m_n_cl (show cs.length < 2147483648 by omega), ← hL]
    rw [if_pos ⟨ht, trivial, m_n_neg (by omega), e4⟩, h18, hf9]
  have x18 : T18.1 525 = some (SB b7 ml (Int32.ofNat cs.length)) := by rw [h18]; exact tset_o p1' (fun q => nb q.symm)
  obtain ⟨T27, h27⟩ : ∃ z, z = tset T18 525 (SB b7 ml (Int32.ofNat (cs.length + L))) := ⟨_, rfl⟩
  have e1' : D_c_AbstractStringBuilder_ensureCapacityInternal F 525 (Int32.ofNat cs.length + Int32.ofNat L) T = some T7 := by rw [i1]; exact e1
  have inf : D_c_AbstractStringBuilder_inflateIfNeededFor F 525 t T7 = some T7 := by
    unfold D_c_AbstractStringBuilder_inflateIfNeededFor
    simp only [Sg1 p1', xc]
    rfl
  have pa : D_c_AbstractStringBuilder_putStringAt F 525 (Int32.ofNat cs.length) t T7 = some T18 := by
    unfold D_c_AbstractStringBuilder_putStringAt
    simp only [tcl_o p1', Option.bind_some, inf, Sg0 p1', Sg1 p1', gb]
  have ll : (cs ++ m_tx t).length = cs.length + L := by rw [List.length_append, hL]
  refine ⟨T27, b7, m7, ?_, ⟨f9, ⟨?_, ?_, fun i hi => ?_⟩, ?_, fun i x hx => ?_⟩, e5, ?_, ?_⟩
  · unfold D_c_StringBuilder_append D_c_AbstractStringBuilder_append
    simp only [tcl_o hg.1, Option.bind_some, xl, Sg3 hg.1, i1, e1, Sg3 p1', tcl_o p1', pa, Sg3 x18, Sp3 x18, ← h27, bd2]
  · rw [h27, tset_at, ll]
  · rw [h27, tset_1, if_neg nb, h18]; exact tset_at
  · rw [hf9]
    show fits .byte (.int (m_toI (if cs.length ≤ i ∧ i < cs.length + L then .int ((m_tx t).getD (i - cs.length) 0) else f7 i))) = true
    by_cases w : cs.length ≤ i ∧ i < cs.length + L
    · rw [if_pos w]
      exact m_tx_f _ (m_tx_in ht) _ (m_tx_el ht (by omega))
    · rw [if_neg w]; exact p3' i hi
  · rw [ll]; exact e4
  · rw [hf9]
    show m_toI (if cs.length ≤ i ∧ i < cs.length + L then .int ((m_tx t).getD (i - cs.length) 0) else f7 i) &&& 255 = x
    by_cases w : i < cs.length
    · rw [if_neg (by omega), e3 i (by omega)]
      rw [List.getElem?_append_left w] at hx
      exact hc i x hx
    · have lt := (List.getElem?_eq_some_iff.mp hx).1
      rw [ll] at lt
      rw [if_pos ⟨by omega, lt⟩]
      rw [List.getElem?_append_right (by omega)] at hx
      show (m_tx t).getD (i - cs.length) 0 &&& 255 = x
      rw [m_tx_a _ (m_tx_in ht) _ (m_tx_el ht (by omega)), List.getD_eq_getElem?_getD, hx]
      rfl
  · rw [ll]; exact e6
  · have q1' : Gw T7 b7 T27 b7 0 := by
      refine ⟨fun c x hc n1 n2 => ?_, Or.inl rfl, ⟨by rw [h27, h18]; exact Nat.le_refl _, fun c x hc n3 n1 => ?_⟩, ?_⟩
      · rw [h27, tset_1, if_neg n1, h18, tset_1, if_neg n2]; exact hc
      · rw [h27, tset_1, if_neg n1, h18, tset_1] at hc
        by_cases z : c = b7
        · rw [if_pos z] at hc
          cases hc
          exact Bool.noConfusion (show true = false from n3)
        · rw [if_neg z] at hc
          exact hc
      · rw [h27]
        exact ((show Cs T7 T18 0 0 by rw [h18]; exact Cs.cell p2' rfl rfl).trans (Cs.cell x18 rfl rfl)).mono (by decide) (by decide)
    have q2' := Gw.trans e7 q1' hN
    rw [Nat.add_zero] at q2'
    exact q2'
/-- the page is emptied -/
theorem set_len (h : Pg T b m f ml (Int32.ofNat n)) (hn : n < 100000) (hN : okN T) (hm : m ≤ 20000) : ∃ ml', D_c_StringBuilder_setLength F 525 0 T = some (tset T 525 (SB b ml' 0)) ∧ Pt (tset T 525 (SB b ml' 0)) b m ml' [] ∧ Cs T (tset T 525 (SB b ml' 0)) 0 0 := by
  obtain ⟨h1, h2, h3⟩ := id h
  have nb : ¬ b = 525 := fun q => by rw [q, h1] at h2; cases h2
  have en : D_c_AbstractStringBuilder_ensureCapacityInternal F 525 0 T = some T := by
    have al : tal T b = some (Int32.ofNat m) := by simp only [tal, h2]; rfl
    unfold D_c_AbstractStringBuilder_ensureCapacityInternal
    simp only [Sg0 h1, Sg1 h1, Option.bind_some, al, z31', Int32.shiftLeft_zero, Int32.shiftRight_zero]
    rw [show (0 : Int32) = Int32.ofNat 0 from rfl, sub_le (by decide) (by omega), decide_eq_true (Nat.zero_le _)]
    rfl
  have g0 : m_c2 .ge (Int32.ofNat n) (0 : Int32) = true := by
    rw [show (0 : Int32) = Int32.ofNat 0 from rfl, ge_n (by omega) (by decide), decide_eq_true (Nat.zero_le _)]
  have fin : ∀ ml', Pt (tset T 525 (SB b ml' 0)) b m ml' [] := fun ml' => ⟨f, ⟨tset_at, tset_o h2 nb, h3⟩, Nat.zero_le _, fun i x hx => by simp at hx⟩
  by_cases w : n = 0
  · refine ⟨ml, ?_, fin ml, Cs.cell h1 rfl rfl⟩
    unfold D_c_StringBuilder_setLength D_c_AbstractStringBuilder_setLength D_c_AbstractStringBuilder_setLength_76
    have l0 : m_c2 .le (Int32.ofNat n) (0 : Int32) = true := by rw [w]; rfl
    simp only [tcl_o h1, Option.bind_some, show m_c1 .ge (0 : Int32) = true from rfl, cond_true, en, Sg3 h1, g0, l0, Sp3 h1]
  · refine ⟨1, ?_, fin 1, Cs.cell h1 rfl rfl⟩
    unfold D_c_StringBuilder_setLength D_c_AbstractStringBuilder_setLength D_c_AbstractStringBuilder_setLength_76
    have l0 : m_c2 .le (Int32.ofNat n) (0 : Int32) = false := by
      rw [show (0 : Int32) = Int32.ofNat 0 from rfl, le_n (by omega) (by decide), decide_eq_false (by omega)]
    simp only [tcl_o h1, Option.bind_some, show m_c1 .ge (0 : Int32) = true from rfl, cond_true, en, Sg3 h1, g0, l0, cond_false, Sp2 h1, Sp3 (T := tset T 525 (SB b 1 (Int32.ofNat n))) tset_at, tset_tset]
end
