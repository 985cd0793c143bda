/-! Rows for texts: outside texts are copied into bytes. -/
theorem m_mtm {i : Nat} {J : mI} (h : m_mt[i]? = some J) : J ∈ m_mt := List.mem_of_getElem? h
def cki (i n : Int32) : Option Unit := if ¬ i < 0 ∧ i < n then some () else none
theorem cki_ok {i n : Int32} (h : cki i n = some ()) : m_c1 .lt i = false ∧ m_c2 .lt i n = true := by
  unfold cki at h
  split at h
  · rename_i h1
    exact ⟨decide_eq_false h1.1, decide_eq_true h1.2⟩
  · cases h
def xcod (t : Nat) : Option Int32 := if 1 ≤ t ∧ t ≤ m_sN then some 0 else none
theorem xcod_ok {t : Nat} {v : Int32} (h : xcod t = some v) : (1 ≤ t ∧ t ≤ m_sN) ∧ v = 0 := by
  unfold xcod at h
  split at h
  · rename_i h1
    exact ⟨h1, (Option.some.inj h).symm⟩
  · cases h
/-- an outside text's bytes go into the bytes at a1 -/
def xgb (T : tT) (x a1 : Nat) (dp cd : Int32) : Option tT := match T.1 a1 with
  | some (.inr (.inl (3, n1, f1))) => if (1 ≤ x ∧ x ≤ m_sN) ∧ cd = 0 ∧ ¬ dp < 0 ∧ dp.toNatClampNeg + (m_tx x).length ≤ n1 then some (tset T a1 (.inr (.inl (3, n1, fun j => if dp.toNatClampNeg ≤ j ∧ j < dp.toNatClampNeg + (m_tx x).length then .int ((m_tx x).getD (j - dp.toNatClampNeg) 0) else f1 j)))) else none
  | _ => none
def yret (x : Int32) : Option Int32 := if vp_nar .byte x = x then some x else none
theorem m_tx_f : ∀ b ∈ m_xbl, ∀ x ∈ b, fits .byte (.int x) = true := by decide +kernel
theorem q_183 : m_mt[183]? = some M_183 := by rfl
theorem b_183 : m_bOk M_183 := (m_mt_ok M_183 (List.mem_of_getElem? q_183)).body
theorem d_183_0 : m_dn M_183 0 (.aload_n 0) 1 1 := by decide +kernel
theorem d_183_1 : m_dn M_183 1 (.invokevirtual 335) 3 4 := by decide +kernel
theorem d_183_4 : m_dn M_183 4 (.iload_n 3) 1 5 := by decide +kernel
theorem d_183_5 : m_dn M_183 5 (.if_icmp .ne 23) 3 8 := by decide +kernel
theorem d_183_8 : m_dn M_183 8 (.aload_n 0) 1 9 := by decide +kernel
theorem d_183_9 : m_dn M_183 9 (.getfield 9) 3 12 := by decide +kernel
theorem d_183_12 : m_dn M_183 12 (.iconst 0) 1 13 := by decide +kernel
theorem d_183_13 : m_dn M_183 13 (.aload_n 1) 1 14 := by decide +kernel
theorem d_183_14 : m_dn M_183 14 (.iload_n 2) 1 15 := by decide +kernel
theorem d_183_15 : m_dn M_183 15 (.iload_n 3) 1 16 := by decide +kernel
theorem d_183_16 : m_dn M_183 16 .ishl 1 17 := by decide +kernel
theorem d_183_17 : m_dn M_183 17 (.aload_n 0) 1 18 := by decide +kernel
theorem d_183_18 : m_dn M_183 18 (.getfield 9) 3 21 := by decide +kernel
theorem d_183_21 : m_dn M_183 21 .arraylength 1 22 := by decide +kernel
theorem d_183_22 : m_dn M_183 22 (.invokestatic 212) 3 25 := by decide +kernel
theorem d_183_25 : m_dn M_183 25 (.goto 18) 3 28 := by decide +kernel
theorem d_183_43 : m_dn M_183 43 .return_ 1 44 := by decide +kernel
theorem m_shl0 {x : Int32} : x <<< ((0 : Int32) &&& 31) = x := by
  have : ((0 : Int32) &&& 31) = 0 := by decide
  rw [this]
  exact Int32.shiftLeft_zero
theorem O_gb {l : Launch} {w : List mM} {t a N1 : Nat} {e1 : List (Nat × Value)} {dp : Int32} (ht : 1 ≤ t ∧ t ≤ m_sN) (h1 : m_at w a = some (.inl (3, N1, e1))) (g2 : ¬ dp < 0) (g5 : dp.toNatClampNeg + (m_tx t).length ≤ N1) : m_Rs l M_183 (m_ent M_183 [.ref t, .ref a, .int dp, .int 0] w) (fun v w' => v = none ∧ w' = w.set (a - 512) (.inl (3, N1, m_cpl 3 ((m_tx t).mapIdx (fun j b => (j, .int b))) e1 0 dp.toNatClampNeg (m_tx t).length))) 0 0 1 100 := by
  show m_Rs l M_183 (0, [(0, .ref t), (1, .ref a), (2, .int dp), (3, .int 0)], [], w) _ 0 0 1 100
  have hl := m_tx_len ht
  have en : (Int32.ofNat (m_tx t).length).toNatClampNeg = (m_tx t).length := m_n_cl (by omega)
  have oka := m_okv_at h1
  refine m_Rs.n0 b_183 (x_aload_n d_183_0 rfl) ?_
  refine m_Rs.callE b_183 (y_cv d_183_1 rfl q_25 (m_isRecv_out rfl ht) (show m_takeI _ _ = some (_, [_], []) from rfl) (by simp only [m_okf, List.all_cons, List.all_nil, Bool.and_true, Bool.and_self, m_okv_i, m_okv_l, m_okv_0, m_okv_t, m_okv_out (m_tx_lt ht), oka]) rfl) (O_cod ht) rfl ?_ (by decide) (by decide)
  refine m_Rs.n0 b_183 (x_iload_n d_183_4 rfl) ?_
  refine m_Rs.n0 b_183 (x_icf d_183_5 rfl rfl) ?_
  refine m_Rs.n0 b_183 (x_aload_n d_183_8 rfl) ?_
  refine m_Rs.n0 b_183 (x_xgv d_183_9 rfl ht) ?_
  refine m_Rs.n0 b_183 (x_iconst (z := 0) d_183_12 (by decide)) ?_
  refine m_Rs.n0 b_183 (x_aload_n d_183_13 rfl) ?_
  refine m_Rs.n0 b_183 (x_iload_n d_183_14 rfl) ?_
  refine m_Rs.n0 b_183 (x_iload_n d_183_15 rfl) ?_
  refine m_Rs.n0 b_183 (x_ishl d_183_16 rfl) ?_
  refine m_Rs.n0 b_183 (x_aload_n d_183_17 rfl) ?_
  refine m_Rs.n0 b_183 (x_xgv d_183_18 rfl ht) ?_
  refine m_Rs.n0 b_183 (x_xlen d_183_21 ht) ?_
  rw [m_shl0]
  refine m_Rs.stp (m_Step.copyT l b_183 d_183_22.1 (m_gi7 22 rfl rfl) m_cp_n m_cp_s m_cp_i (m_tx_by ht) (fun i hi => m_tx_f _ (m_tx_in ht) _ (m_tx_el ht hi)) h1 (by decide) g2 (m_n_neg (by omega)) (by rw [en]; exact Nat.le_of_eq (Nat.zero_add _)) (by rw [en]; exact g5) (by decide)) ?_ (by decide) (by decide)
  refine m_Rs.n0 b_183 (x_goto d_183_25 rfl) ?_
  refine m_Rs.ret b_183 (m_rt_vr d_183_43 rfl) ⟨rfl, ?_⟩
  rw [en]
  rfl
theorem m_Rs.cxcod {l : Launch} {I : mI} {pc pc' k t : Nat} {lv : List (Nat × Value)} {rest : List Value} {w : List mM} {x : Int32} {P : Option Value → List mM → Prop} {c s f lo : Nat} (hI : m_bOk I) (hd : m_dn I pc (.invokevirtual k) 3 pc') (hc : m_ce I k = some (1, 25, 12)) (ho : m_okf (pc, lv, .ref t :: rest, w) = true) (e : xcod t = some x) (kk : m_Rs l I (pc', lv, .int x :: rest, w) P c s f lo) (h8 : (rest.map fun v => v.category).sum ≤ 8) (hf : 1 ≤ f) (hl : 100 ≤ lo) : m_Rs l I (pc, lv, .ref t :: rest, w) P c s f lo := by
  obtain ⟨ht, rfl⟩ := xcod_ok e
  have h9 : m_takeI M_25 (.ref t :: rest) = some (M_25, [.ref t], rest) := by
    show (if (rest.map fun v => v.category).sum ≤ 8 then some (M_25, [Value.ref t], rest) else none) = _
    rw [if_pos h8]
  have h7 : 8 + (M_25.2.2.1 + 11) ≤ 100 := by decide
  exact m_Rs.callE hI (y_cv hd hc q_25 (m_isRecv_out rfl ht) h9 ho rfl) (O_cod ht) hd.2 kk hf (Nat.le_trans h7 hl)
section
variable {l : Launch} {I J : mI} {pc pc' k t a b x : Nat} {lv : List (Nat × Value)} {st as rest r : List Value} {w w0 : List mM} {P : Option Value → List mM → Prop} {f lo : Nat} {T T1 T' : tT} {i dp cd y : Int32}
theorem m_el_mi {bs : List Int32} {j : Nat} (hj : j < bs.length) : m_el 3 (bs.mapIdx (fun j b => (j, Value.int b))) j = .int (bs.getD j 0) := by
  have hf : (bs.mapIdx (fun j b => (j, Value.int b))).find? (fun q => q.1 == j) = (bs[j]?).map (fun b => (j, Value.int b)) := by
    have key : ∀ (l : List Int32) (o : Nat), (l.mapIdx (fun i b => (o + i, Value.int b))).find? (fun q => q.1 == j) = if o ≤ j then (l[j - o]?).map (fun b => (j, Value.int b)) else none := by
      intro l
      induction l with
      | nil => intro o; simp
      | cons x l ih =>
        intro o
        rw [List.mapIdx_cons]
        by_cases hj : o = j
        · subst hj
          simp
        · have e3 : (fun i b => (o + (i + 1), Value.int b)) = (fun i (b : Int32) => ((o + 1) + i, Value.int b)) := by
            funext i b
            rw [show o + (i + 1) = o + 1 + i by omega]
          rw [List.find?_cons_of_neg (by simpa using hj)]
          show (List.mapIdx (fun i b => (o + (i + 1), Value.int b)) l).find? _ = _
          rw [e3, ih (o + 1)]
          by_cases h2 : o + 1 ≤ j
          · rw [if_pos h2, if_pos (by omega), show j - o = (j - (o + 1)) + 1 by omega, List.getElem?_cons_succ]
          · rw [if_neg h2, if_neg (by omega)]
    have := key bs 0
    simpa using this
  unfold m_el
  rw [hf, List.getD_eq_getElem?_getD, List.getElem?_eq_getElem hj]
  rfl
theorem m_Rb.rxgb (hI : m_bOk I) (hd : m_dn I pc (.invokevirtual k) 3 pc') (hc : m_ce I k = some (1, 183, 12)) (ho : m_okf (pc, lv, .int cd :: .int dp :: .ref a :: .ref x :: rest, w) = true) (h8 : rest.length ≤ 4) (h : RT T w) (hF : m_Fm w0 w) (e : xgb T x a dp cd = some T1) (kk : ∀ w1, RT T1 w1 → m_Fm w0 w1 → T.2.1 ≤ T1.2.1 → m_Rb l I (pc', lv, rest, w1) P T1 T' f lo) (hf : 2 ≤ f) (hl : 200 ≤ lo) : m_Rb l I (pc, lv, .int cd :: .int dp :: .ref a :: .ref x :: rest, w) P T T' f lo := by
  unfold xgb at e
  split at e
  · rename_i n1 f1 h0
    split at e
    · rename_i hcc
      obtain ⟨ht, rfl, g2, g5⟩ := hcc
      cases e
      obtain ⟨e0, x1, x2, x3⟩ := h.arr h0
      have h9 : m_takeI M_183 (.int 0 :: .int dp :: .ref a :: .ref x :: rest) = some (M_183, [.ref x, .ref a, .int dp, .int 0], rest) := by
        show (if (rest.map fun v => v.category).sum ≤ 8 then some (M_183, [Value.ref x, .ref a, .int dp, .int 0], rest) else none) = _
        rw [if_pos (catL h8)]
      have h7 : 8 + (M_183.2.2.1 + 11) ≤ 100 := by decide
      have hW : m_W1 w (w.set (a - 512) (.inl (3, n1, m_cpl 3 ((m_tx x).mapIdx (fun j b => (j, .int b))) e0 0 dp.toNatClampNeg (m_tx x).length))) a (.inl (3, n1, m_cpl 3 ((m_tx x).mapIdx (fun j b => (j, .int b))) e0 0 dp.toNatClampNeg (m_tx x).length)) := m_W1.set x1
      have R1 := h.puta h0 hW (f' := fun j => if dp.toNatClampNeg ≤ j ∧ j < dp.toNatClampNeg + (m_tx x).length then .int ((m_tx x).getD (j - dp.toNatClampNeg) 0) else f1 j) (fun j => by
        rw [m_el_cpl]
        by_cases z : dp.toNatClampNeg ≤ j ∧ j < dp.toNatClampNeg + (m_tx x).length
        · rw [if_pos z, if_pos z, Nat.zero_add, m_el_mi (by omega)]
        · rw [if_neg z, if_neg z, x2]) (fun j => by
        split
        · rfl
        · exact x3 j)
      have k9 := kk _ R1 (hF.put hW (h.ndom h0)) (Nat.le_refl _)
      exact m_Rb.lift (fun c s k => m_Rs.callV hI (y_cv hd hc q_183 (m_isRecv_out rfl ht) h9 ho rfl) (O_gb ht x1 g2 g5) hd.2 k hf (Nat.le_trans (Nat.add_le_add_right h7 _) hl)) (m_Rb.same rfl k9)
    · cases e
  · cases e
theorem x_i2b {ic : mI → mF → Option mR} {x z : Int32} (hd : m_dn I pc .i2b 1 pc') (hz : x.toInt8.toInt32 = z) : m_nx ic I (pc, lv, .int x :: r, w) = some ((pc', lv, .int z :: r, w), 0, 0, 0, 0) := x_ps hd (by rw [← hz]; rfl)
theorem m_Rb.rety (hI : m_bOk I) (hd : m_dn I pc .ireturn 1 pc') (hty : I.2.2.2.2.1 = some .byte) {x : Int32} (e : yret x = some y) (hP : P (some (.int y)) w) : m_Rb l I (pc, lv, [.int x], w) P T T f lo := by
  unfold yret at e
  split at e
  · rename_i h1
    have hn : narrow .byte (.int x) = .int x := congrArg Value.int h1
    have ey : x = y := Option.some.inj e
    subst ey
    exact m_Rb.ret hI (m_rt_ir hd hty hn) hP
  · cases e
theorem m_rt_rra {I : mI} {pc pc' : Nat} {lv : List (Nat × Value)} {w : List mM} {x : Option Nat} {c9 : FieldType} (hd : m_dn I pc .areturn 1 pc') (hty : I.2.2.2.2.1 = some (.array c9)) : m_rt I (pc, lv, [rv x], w) = some (some (rv x)) := by
  cases x with
  | none =>
    unfold m_rt
    simp only [hd.1]
    show m_re I .areturn 1 [.null] = _
    simp only [m_re, hty, if_true]
    rfl
  | some a => exact m_rt_aa hd hty
end
