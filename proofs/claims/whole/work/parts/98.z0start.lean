/-! The walk of the law's body. -/
theorem m_ls_una : (Cond.laysStatic "java/lang/Throwable" "UNASSIGNED_STACK" "[Ljava/lang/StackTraceElement;") ∈ lw_tbl := by decide +kernel
theorem m_ls_sup : (Cond.laysStatic "java/lang/Throwable" "SUPPRESSED_SENTINEL" "Ljava/util/List;") ∈ lw_tbl := by decide +kernel
theorem m_nn_nc : (Cond.not (Cond.castable "java/lang/IndexOutOfBoundsException" "java/util/NoSuchElementException")) ∈ flatC m_NN := by decide +kernel
theorem m_whole (l : Launch) (hfl : l.flags = pinnedFlags ++ [noTraceFlag]) {n : Nat} (hn : n ≤ 3072) (sc : Nat → Int32) : m_Law l n sc (0, [(0, .ref 500)], [], []) (119 + 599969) (235564 + 7057000) := by
  obtain ⟨c', s', f', l', h, h1, h2, h3, h4⟩ := m_ck_eq m_begin_k
  have hs := (m_seg_good l m_law_ok _ _ _ _ _ _ _ h).1
  have k : m_Law l n sc m_F1 599969 7057000 := l_loop hfl hn 512 0 (by omega) (by omega) 0 T0 S0 w_1 LInv0 RT0 RM0
  exact (m_Law.step hs (by omega) (by omega) k).mono (by omega) (by omega)
theorem whole_start {p : Program} {e : Env} {s : State} {m : MethodId} {below : List Frame} {meth : Method} {c : Code} (l : Launch) (hfl : l.flags = pinnedFlags ++ [noTraceFlag]) {b L : Nat} {xs : Nat → Int32} (hL : L ≤ 3072) (C0 : lw_At p s m meth c b L xs) : W p l e room_1 s m #[Value.ref b] below meth c s.heap [] 0 0 (lw_Z below #[Value.ref b] s) (entryFrame m ([Value.ref b] : List Value).toArray 7) := by
  obtain ⟨hx, hb, hr, hml, hown, hts, hX, hbl, hlk, hgv, hnm⟩ := C0
  obtain ⟨D, dA, X, hK, hE, h5⟩ := m_start hts hgv hbl
  have hA : ∀ a : Nat, a < s.heap.size → ¬ (fun q : Nat => s.heap.size ≤ q) a := fun a h => Nat.not_le.mpr h
  have hTx : m_Tx (fun q => s.heap.size ≤ q) s s.heap := ⟨m_Tz.of (hts _ m_ls_una) (flat_of_before m_NN hgv _ m_nn_t1) hA, m_Tz.of (hts _ m_ls_sup) (flat_of_before m_NN hgv _ m_nn_t2) hA, m_Nc.of (flat_of_before m_NN hgv _ m_nn_nc)⟩
  have hl := lv_entry [Value.ref b] (n := 7) (by show 1 ≤ 7; decide)
  rw [lg_entry_eq]
  generalize (lg_sl [Value.ref b] ++ List.replicate (7 - (lg_sl [Value.ref b]).length) Slot.unset).toArray = ls at hl ⊢
  have hl2 : lv_has ls M_law.2.2.1 (m_lvt X [] [(0, .ref 500)]) := by
    have e1 : m_lvt X [] [(0, .ref 500)] = [(0, .ref b)] := by
      show [(0, Value.ref (m_ad X [] 500))] = _
      unfold m_ad
      rw [if_pos (by decide), h5]
    rw [e1]
    exact hl
  have hSt : m_St D dA X (fun q => s.heap.size ≤ q) s.heap s.heap [] [] [] := by
    refine ⟨rfl, (fun q hq => absurd hq List.not_mem_nil), ?_, ⟨?_, ?_⟩, va_S.rf⟩
    · intro k q hk; cases hk
    · intro i j p q hi; cases hi
    · intro k q hk; cases hk
  exact m_whole l hfl hL xs p e s m b below meth c s.heap [] 0 0 ls D dA X [] hx hb hml hown (fun w hw => hts w (m_gt_in hw)) hnm hr hlk hK hE hTx h5 hX hbl hSt hl2 (by show 0 + (119 + 599969) ≤ 601024; decide) (by show 0 + (235564 + 7057000) ≤ 7293034; decide)
