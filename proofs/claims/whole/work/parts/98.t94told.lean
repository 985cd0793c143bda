/-! What varies, keys. -/
section
variable {T T' : tT} {S S' : mS} {t : Nat → Nat} {L p s e F k c m n a : Nat} {g g' : Nat → Int32} {r : Option Nat × Option Nat × Option Nat} {K A B : List Nat} {x : Int32} {w : Option Nat}
def vaS (t : Nat → Nat) (s e : Nat) (S : mS) : mS := if S.1 82 = -1 then (if isW t s e z_acceptlanguage = true then up1 S 28 (S.1 28 ||| 1) else if isW t s e z_acceptencoding = true then up1 S 28 (S.1 28 ||| 2) else up1 S 28 (S.1 28 ||| 0)) else S
theorem vary_m (h : Tp t L S) (hs : s ≤ e) (he : e ≤ L) (g6 : S.1 80 = Int32.ofNat s) (g7 : S.1 81 = Int32.ofNat e) (hF : 100 < F) : D_m_varyWord F S = some (vaS t s e S) := by
  have wm : ∀ {x cs}, txs x cs → D_m_isWord F x S = some (b2i (isW t s e cs)) := fun hx => word_m hx h hs he g6 g7 hF
  unfold D_m_varyWord vaS
  by_cases w : S.1 82 = -1
  · rw [if_pos w, show m_c2 .eq (S.1 82) ((-1) : Int32) = true from decide_eq_true w, cond_true, wm tx_69, Option.bind_some, wm tx_70, Option.bind_some]
    cases wa : isW t s e z_acceptlanguage with
    | true => rfl
    | false => cases wb : isW t s e z_acceptencoding <;> rfl
  · rw [if_neg w, show m_c2 .eq (S.1 82) ((-1) : Int32) = false from decide_eq_false w]
    rfl
theorem some_ne {v : Nat} (q4' : S.1 82 = Int32.ofNat v) (q2' : v ≤ 99999) : ¬ S.1 82 = -1 := by
  rw [q4']
  intro q
  have := congrArg Int32.toInt q
  rw [Int32.toInt_ofNat_of_lt (by omega)] at this
  have e1 : (-1 : Int32).toInt = -1 := rfl
  omega
theorem or0 {x : Int32} : x ||| 0 = x := by
  apply Int32.toBitVec_inj.mp
  simp
theorem vary_c (h : Tc t L T) (hT : T.1 a = some (cTold 0 (tdv S))) (n5 : ¬ a = 513) (hr : r.2.2 = some a) (hw : Wo L g S s e w) (hF : 100 < F) : D_c_Reader_countVarying F 513 (kR T L r g) = some (kR (tset T a (cTold 0 (tdv (vaS t s e S)))) L r g) := by
  obtain ⟨w1, w2, w3, w4, w5, w6, w7⟩ := hw
  have wc : ∀ {x cs}, txs x cs → D_c_Reader_isWord F 513 x (kR T L r g) = some (b2i (isW t s e cs)) := fun hx => word_c hx h w1 w2 w3 w4 hF
  unfold D_c_Reader_countVarying vaS
  cases w with
  | none =>
    obtain ⟨q1', q2'⟩ := w7
    rw [if_pos q2', Kg8, q1', Option.bind_some, show m_c1 .eq (1 : Int32) = false from rfl, cond_false, Kcl, Option.bind_some, wc tx_15, Option.bind_some, b_eq0]
    cases wa : isW t s e z_acceptlanguage with
    | true =>
      rw [if_pos rfl]
      simp only [Bool.not_true, cond_false, Kr15, hr, Option.bind_some, Tdg9 hT n5, Td9 hT n5]
    | false =>
      rw [if_neg (by decide)]
      simp only [Bool.not_false, cond_true]
      unfold D_c_Reader_countVarying_32
      rw [Kg8, q1', Option.bind_some, show m_c1 .eq (1 : Int32) = false from rfl, cond_false, Kcl, Option.bind_some, wc tx_16, Option.bind_some, b_eq0]
      cases wb : isW t s e z_acceptencoding with
      | true =>
        rw [if_pos rfl]
        simp only [Bool.not_true, cond_false, Kr15, hr, Option.bind_some, Tdg9 hT n5, Td9 hT n5]
      | false =>
        have e1 : tdv (up1 S 28 (S.1 28 ||| 0)) = tdv S := by
          funext i
          rw [or0]
          unfold tdv
          split <;> first | rfl | exact up1_no (by decide)
        rw [if_neg (by decide), e1, Td.own hT]
        simp only [Bool.not_false, cond_true]
  | some v =>
    obtain ⟨q1', q2', q3', q4'⟩ := w7
    rw [if_neg (some_ne q4' q2'), Td.own hT, Kg8, q1', Option.bind_some, show m_c1 .eq (0 : Int32) = true from rfl, cond_true]
    unfold D_c_Reader_countVarying_32
    rw [Kg8, q1', Option.bind_some, show m_c1 .eq (0 : Int32) = true from rfl, cond_true]
theorem or4_all : (List.range 4).all (fun k => (List.range 3).all fun j => (List.range 4).any fun i => decide (Int32.ofNat k ||| Int32.ofNat j = Int32.ofNat i)) = true := by decide +kernel
theorem or4 {x : Int32} {j : Nat} (h : few 4 x) (hj : j < 3) : few 4 (x ||| Int32.ofNat j) := by
  obtain ⟨k, k1', k2'⟩ := h
  have := List.all_eq_true.mp (List.all_eq_true.mp or4_all k (List.mem_range.mpr k1')) j (List.mem_range.mpr hj)
  obtain ⟨i, i1, i2⟩ := List.any_eq_true.mp this
  exact ⟨i, List.mem_range.mp i1, by rw [k2']; exact of_decide_eq_true i2⟩
theorem okD.va (h : okD S) : okD (vaS t s e S) := by
  obtain ⟨a1, a2, a3, a4, a5, a6, a7, a8⟩ := h
  unfold vaS
  by_cases w : S.1 82 = -1
  · rw [if_pos w]
    by_cases q1' : isW t s e z_acceptlanguage = true
    · rw [if_pos q1']; exact ⟨a1, a2, a3, a4, a5, a6, a7, or4 (j := 1) a8 (by decide)⟩
    · rw [if_neg q1']
      by_cases q2' : isW t s e z_acceptencoding = true
      · rw [if_pos q2']; exact ⟨a1, a2, a3, a4, a5, a6, a7, or4 (j := 2) a8 (by decide)⟩
      · rw [if_neg q2']; exact ⟨a1, a2, a3, a4, a5, a6, a7, or4 (j := 0) a8 (by decide)⟩
  · rw [if_neg w]; exact ⟨a1, a2, a3, a4, a5, a6, a7, a8⟩
theorem vaS_fr : Fr Kw [585] S (vaS t s e S) := by
  unfold vaS
  have u : ∀ k x, k ∈ Kw → Fr Kw [585] S (up1 S k x) := fun k x hk => (Fs.up1 hk).fr
  split
  · split
    · exact u _ _ (by decide)
    · split
      · exact u _ _ (by decide)
      · exact u _ _ (by decide)
  · exact Fr.refl
/-- a list of what a thing varies by -/
theorem P_varying (h : St t L T S p g) (hR : Td a T S) (na : ¬ a = 513 ∧ ¬ a = 514) (hr : r.2.2 = some a) (hF : 400 < F) :
    (∃ p' g' T1 S', D_c_Reader_readList F 513 4 (kR T L r g) = some (1, kR T1 L r g') ∧ D_m_list F 4 S = some S' ∧ St t L T1 S' p' g' ∧ p < p' ∧ Td a T1 S' ∧ Gs [2, 6, 7, 8, 9] g g' ∧ Fr Kl [585] S S' ∧ Ft [a] T T1 ∧ Cs (kR T L r g) (kR T1 L r g') 0 0) ∨
    (∃ f0 g' T1 S', D_c_Reader_readList F 513 4 (kR T L r g) = some (0, kR T1 L r g') ∧ D_m_list F 4 S = some S' ∧ g' 3 = Int32.ofNat f0 ∧ Fl t L S' f0 ∧ Gs [2, 3, 6, 7, 8, 9] g g' ∧ Fr Km [585] S S' ∧ Ft [a] T T1 ∧ Cs (kR T L r g) (kR T1 L r g') 0 0) := by
  have hL := h.1.1
  have pL := h.2.2.1
  have := P_list (F := F) (t := t) (L := L) (r := r) (B := [a]) (ck := 4) (mk := 4) (cs := D_c_Reader_countVarying F 513) (ms := D_m_varyWord F) (Rel := Td a)
    ⟨fun q => na.1 (List.mem_singleton.mp q).symm, fun q => na.2 (List.mem_singleton.mp q).symm⟩ (fun n i T => rfl)
    (fun rec2 S h5 => by unfold D_m_list_139; rw [h5]; rfl)
    (fun T S g s e w tc tp wo hR => ⟨_, _, vary_c tc hR.1 na.1 hr wo (by omega), vary_m tp wo.1 wo.2.1 wo.2.2.2.2.1 wo.2.2.2.2.2.1 (by omega), ⟨tset_at, hR.2.va⟩, vaS_fr, Ft.set (by simp), up_cs (T1 := T) hR.1 na.1 rfl rfl⟩)
    (fun S s e tp h1 h2 h3 h4 => ⟨_, vary_m tp h1 h2 h3 h4 (by omega), vaS_fr⟩)
    (fun T S S' hR f => hR.fs f) hF (L - p) p 0 g T S (by omega) (by omega) h hR F F (by omega) (by omega)
  exact this
theorem or8_all : (List.range 256).all (fun k => (List.range 8).all fun j => decide (Int32.ofNat k ||| ((1 : Int32) <<< ((Int32.ofNat (97 + j) - 97) &&& 31)) = Int32.ofNat (k ||| 2 ^ j)) && decide (k ||| 2 ^ j < 256)) = true := by decide +kernel
theorem or8 {x : Int32} {j : Nat} (h : few 256 x) (h1 : 97 ≤ j) (h2 : j ≤ 104) : few 256 (x ||| ((1 : Int32) <<< ((Int32.ofNat j - 97) &&& 31))) := by
  obtain ⟨k, k1', k2'⟩ := h
  have := List.all_eq_true.mp (List.all_eq_true.mp or8_all k (List.mem_range.mpr k1')) (j - 97) (List.mem_range.mpr (by omega))
  rw [show 97 + (j - 97) = j by omega, Bool.and_eq_true, decide_eq_true_eq, decide_eq_true_eq] at this
  exact ⟨_, this.2, by rw [k2']; exact this.1⟩
end
