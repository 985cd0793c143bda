/-! The walk of the law's body. -/
theorem m_ls_una : (Cond.laysStatic "java/lang/Throwable" "UNASSIGNED_STACK" "[Ljava/lang/StackTraceElement;") ∈ lw_tbl := by decide +kernel
theorem m_ls_sup : (Cond.laysStatic "java/lang/Throwable" "SUPPRESSED_SENTINEL" "Ljava/util/List;") ∈ lw_tbl := by decide +kernel
theorem m_dq_h : m_dq M_law [(23, .iload 4, 2), (25, .aload_n 0, 1)] := by decide +kernel
theorem m_dq_h2 : m_dq M_law [(27, .bipush 6, 2), (29, .isub, 1)] := by decide +kernel
theorem m_dl_26 : m_de M_law 26 = some (.arraylength, 1) := by decide +kernel
theorem m_dl_30 : m_de M_law 30 = some (.if_icmp .gt 792, 3) := by decide +kernel
set_option maxRecDepth 8000 in
/-- a script that is too short for a call -/
theorem m_short (l : Launch) (n : Nat) (hn : n < 6) (sc : Nat → Int32) (c0 s0 : Nat) : m_Law l n sc m_F1 c0 s0 := by
  refine m_Law.sq _ m_dq_h (F' := (26, [(4, .int 0), (3, .ref 630), (2, .ref 583), (1, .ref 512), (0, .ref 500)], [.ref 500, .int 0], w_1)) rfl ?_
  refine m_Law.len m_dl_26 ?_
  refine m_Law.sq _ m_dq_h2 (F' := (30, [(4, .int 0), (3, .ref 630), (2, .ref 583), (1, .ref 512), (0, .ref 500)], [.int (Int32.ofNat n - 6), .int 0], w_1)) rfl ?_
  refine m_Law.icmp (t := 822) m_dl_30 (by decide) (fun _ => m_Law.fin) (fun h => ?_)
  exfalso
  have : ∀ k : Nat, k < 6 → m_c2 .gt 0 (Int32.ofNat k - 6) = true := by decide +kernel
  rw [this n hn] at h
  cases h
theorem m_whole (l : Launch) (hfl : l.flags = pinnedFlags ++ [noTraceFlag]) {n : Nat} (hn : n ≤ 6) (sc : Nat → Int32) : m_Law l n sc (0, [(0, .ref 500)], [], []) (119 + 1000) (235564 + 1000000) := by
  obtain ⟨c', s', f', l', h, h1, h2, h3, h4⟩ := m_ck_eq m_begin_k
  have hs := (m_seg_good l m_law_ok _ _ _ _ _ _ _ h).1
  have k : m_Law l n sc m_F1 1000 1000000 := by
    by_cases h6 : n = 6
    · subst h6; exact m_ops l hfl sc
    · exact m_short l n (by omega) sc 1000 1000000
  exact (m_Law.step hs (by omega) (by omega) k).mono (by omega) (by omega)
theorem whole_start {p : Program} {e : Env} {s : State} {m : MethodId} {below : List Frame} {meth : Method} {c : Code} (l : Launch) (hfl : l.flags = pinnedFlags ++ [noTraceFlag]) {b L : Nat} {xs : Nat → Int32} (hL : L ≤ 6) (C0 : lw_At p s m meth c b L xs) : W p l e room_1 s m #[Value.ref b] below meth c s.heap [] 0 0 (lw_Z below #[Value.ref b] s) (entryFrame m ([Value.ref b] : List Value).toArray 7) := by
  obtain ⟨hx, hb, hr, hml, hown, hts, hX, hbl, hlk, hgv, hnm⟩ := C0
  obtain ⟨D, dA, X, hK, hE, h5⟩ := m_start hts hgv hbl
  have hA : ∀ a : Nat, a < s.heap.size → ¬ (fun q : Nat => s.heap.size ≤ q) a := fun a h => Nat.not_le.mpr h
  have hTx : m_Tx (fun q => s.heap.size ≤ q) s s.heap := ⟨m_Tz.of (hts _ m_ls_una) (flat_of_before m_NN hgv _ m_nn_t1) hA, m_Tz.of (hts _ m_ls_sup) (flat_of_before m_NN hgv _ m_nn_t2) hA⟩
  have hl := lv_entry [Value.ref b] (n := 7) (by show 1 ≤ 7; decide)
  rw [lg_entry_eq]
  generalize (lg_sl [Value.ref b] ++ List.replicate (7 - (lg_sl [Value.ref b]).length) Slot.unset).toArray = ls at hl ⊢
  have hl2 : lv_has ls M_law.2.2.1 (m_lvt X [] [(0, .ref 500)]) := by
    have e1 : m_lvt X [] [(0, .ref 500)] = [(0, .ref b)] := by
      show [(0, Value.ref (m_ad X [] 500))] = _
      unfold m_ad
      rw [if_pos (by decide), h5]
    rw [e1]
    exact hl
  have hSt : m_St D dA X (fun q => s.heap.size ≤ q) s.heap s.heap [] [] [] := by
    refine ⟨rfl, (fun q hq => absurd hq List.not_mem_nil), ?_, ⟨?_, ?_⟩, va_S.rf⟩
    · intro k q hk; cases hk
    · intro i j p q hi; cases hi
    · intro k q hk; cases hk
  exact m_whole l hfl hL xs p e s m b below meth c s.heap [] 0 0 ls D dA X [] hx hb hml hown (fun w hw => hts w (m_gt_in hw)) hnm hr hlk hK hE hTx h5 hX hbl hSt hl2 (by show 0 + (119 + 1000) ≤ 600002; decide) (by show 0 + (235564 + 1000000) ≤ 7302232; decide)
