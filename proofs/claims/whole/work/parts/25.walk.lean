/-! The law's walk, by the small machine: its script, its calls, its end. -/
theorem m_MQ_mono {below : List Frame} {Qc : Array Value → State → Outcome → State → Prop} {a : Array Value} {s : State} {mc ms mc' ms' : Nat} {free : Addr → Prop} {t : State} (h : MQ below Qc a s mc ms free t) (h1 : mc ≤ mc') (h2 : ms ≤ ms') : MQ below Qc a s mc' ms' free t := by
  obtain ⟨o, g1, g2, g3, L, ⟨f1, f2, f3⟩, g5⟩ := h
  exact ⟨o, g1, g2, g3, L, ⟨f1, f2, f3.mono h1 h2⟩, g5⟩
theorem m_Good_mono {l : Launch} {I : mI} {F : mF} {r : mR} {c s f lo : Nat} (h : m_Good l I F r) (h1 : r.2.2.1 ≤ c) (h2 : r.2.2.2.1 ≤ s) (h3 : r.2.2.2.2.1 ≤ f) (h4 : r.2.2.2.2.2 ≤ lo) : m_Good l I F (r.1, r.2.1, c, s, f, lo) := by
  intro p e R s9 m args below meth c9 H locs cells slots ls D dA X A L0 L1 hx hb hml hown hts hnm hret hlk hK hE hA hS hl hc hs hfr hlo T hT X9
  have hc : cells + c ≤ R.cells := hc
  have hs : slots + s ≤ R.slots := hs
  have hfr : f ≤ R.frames := hfr
  have hlo : lo ≤ R.locals := hlo
  obtain ⟨t, a1, b1⟩ := h p e R s9 m args below meth c9 H locs cells slots ls D dA X A L0 L1 hx hb hml hown hts hnm hret hlk hK hE hA hS hl (by omega) (by omega) (by omega) (by omega) T hT X9
  exact ⟨t, a1, m_MQ_mono b1 (Nat.add_le_add_left h1 _) (Nat.add_le_add_left h2 _)⟩
theorem m_Rq.good {I : mI} {F : mF} {P : Option Value → List mM → Prop} {c s f lo : Nat} (hI : m_bOk I) (h : m_Rq I F P c s f lo) (l : Launch) : ∃ v w', P v w' ∧ m_Good l I F (v, w', c, s, f, lo) := by
  obtain ⟨n, r, h1, h2, h3, h4, h5, h6⟩ := h
  exact ⟨r.1, r.2.1, h2, m_Good_mono (m_exec_good l n I F r hI h1) h3 h4 h5 h6⟩
theorem m_Rq.met {J : mI} {as : List Value} {w : List mM} {P : Option Value → List mM → Prop} {c s f lo : Nat} (hJ : J ∈ m_mt) (hfit : (lg_sl as).length ≤ J.2.2.1) (h : m_Rq J (m_ent J as w) P c s f lo) (l : Launch) : ∃ v w', P v w' ∧ m_Met l J as w (v, w', c, s, f, lo) := by
  obtain ⟨v, w', h1, h2⟩ := h.good (m_mt_ok J hJ).body l
  exact ⟨v, w', h1, m_Met_of (m_mt_ok J hJ) hfit h2⟩
theorem m_stp_step (l : Launch) {I : mI} (hI : m_bOk I) : ∀ (k : Nat) (F F' : mF) (dc ds fr lo : Nat), m_stp I k F = some (F', dc, ds, fr, lo) → m_Step l I F F' dc ds fr lo := by
  intro k
  induction k with
  | zero =>
    intro F F' dc ds fr lo h
    cases h
    intro p e R s m args below meth c H locs cells slots ls D dA X A L Q hx hb hml hown hts hnm hK hE hA hS hl hc hs hfr hlo kk
    have g := kk H locs [] ls (by rw [List.append_nil]; exact hS) (by rw [List.append_nil]; exact hl)
    rw [List.append_nil] at g
    exact g
  | succ k ih =>
    intro F F' dc ds fr lo h
    rw [m_stp_s] at h
    cases h1 : m_nx m_nn I F with
    | none => rw [h1] at h; cases h
    | some q =>
      obtain ⟨F1, c1, s1, f1, l1⟩ := q
      rw [h1] at h
      simp only at h
      obtain ⟨⟨F2, c2, s2, f2, l2⟩, h2, e1⟩ := Option.map_eq_some_iff.mp h
      cases e1
      intro p e R s m args below meth c H locs cells slots ls D dA X A L Q hx hb hml hown hts hnm hK hE hA hS hl hc hs hfr hlo kk
      have hc : cells + (c1 + c2) ≤ R.cells := hc
      have hs : slots + (s1 + s2) ≤ R.slots := hs
      refine m_nx_sound l hI (fun J G r hJ hr => by cases hr) h1 p e R s m args below meth c H locs cells slots ls D dA X A L Q hx hb hml hown hts hnm hK hE hA hS hl (by omega) (by omega) (Nat.le_trans (Nat.le_max_left _ _) hfr) (Nat.le_trans (Nat.le_max_left _ _) hlo) (fun H1 locs1 L2 ls1 hS1 hl1 => ?_)
      refine ih F1 F2 c2 s2 f2 l2 h2 p e R s m args below meth c H1 locs1 (cells + c1) (slots + s1) ls1 D dA X A (L ++ L2) Q hx hb hml hown hts hnm hK hE hA hS1 hl1 (by omega) (by omega) (Nat.le_trans (Nat.le_max_right _ _) hfr) (Nat.le_trans (Nat.le_max_right _ _) hlo) (fun H2 locs2 L3 ls2 hS2 hl2 => ?_)
      have g := kk H2 locs2 (L2 ++ L3) ls2 (by rw [← List.append_assoc]; exact hS2) (by rw [← List.append_assoc]; exact hl2)
      rw [← List.append_assoc, ← Nat.add_assoc, ← Nat.add_assoc] at g
      exact g
/-- from the frame F the law comes to its end with true, with at most c0 cells of s0 slots more -/
def m_Law (l : Launch) (n : Nat) (sc : Nat → Int32) (F : mF) (c0 s0 : Nat) : Prop :=
  ∀ (p : Program) (e : Env) (s : State) (m : MethodId) (b : Nat) (below : List Frame) (meth : Method) (c : Code) (H : Heap) (locs : List Loc) (cells slots : Nat) (ls : Array Slot) (D : va_G) (dA : Nat → ClassId) (X : Nat → Nat) (L : List Nat),
    p.tables.exec = Jvm.exec → c.code = M_law.2.1 → c.maxLocals = M_law.2.2.1 → s.vm.findClass M_law.1.cls = some m.cls → (∀ w ∈ m_gt, w.before #[Value.ref b] s = true) → meth.name = M_law.1.name → meth.sig.returnType = ret → meth.locks = false → m_Kx D dA s → m_Ex X (fun q => s.heap.size ≤ q) s s.heap → m_Tx (fun q => s.heap.size ≤ q) s s.heap → X 500 = b → va_X b n sc s s.heap → b < s.heap.size →
    m_St D dA X (fun q => s.heap.size ≤ q) s.heap H locs L F.2.2.2 → lv_has ls M_law.2.2.1 (m_lvt X L F.2.1) → cells + c0 ≤ room_1.cells → slots + s0 ≤ room_1.slots →
    W p l e room_1 s m #[Value.ref b] below meth c H locs cells slots (lw_Z below #[Value.ref b] s) (F0 m F.1 ls (F.2.2.1.map (m_tr X L)))
theorem m_Law.mono {l : Launch} {n : Nat} {sc : Nat → Int32} {F : mF} {c s c' s' : Nat} (h : m_Law l n sc F c s) (hc : c ≤ c') (hs : s ≤ s') : m_Law l n sc F c' s' := by
  intro p e s9 m b below meth c9 H locs cells slots ls D dA X L g1 g2 g3 g4 g5 g6 g7 g8 g9 g10 g11 g12 g13 g14 g15 g16 g17 g18
  exact h p e s9 m b below meth c9 H locs cells slots ls D dA X L g1 g2 g3 g4 g5 g6 g7 g8 g9 g10 g11 g12 g13 g14 g15 g16 (by omega) (by omega)
theorem m_Law.step {l : Launch} {n : Nat} {sc : Nat → Int32} {F F' : mF} {dc ds fr lo c0 s0 : Nat} (h : m_Step l M_law F F' dc ds fr lo) (hf : fr ≤ 2048) (hl9 : lo ≤ 84000) (k : m_Law l n sc F' c0 s0) : m_Law l n sc F (dc + c0) (ds + s0) := by
  intro p e s9 m b below meth c9 H locs cells slots ls D dA X L g1 g2 g3 g4 g5 g6 g7 g8 g9 g10 g11 g12 g13 g14 g15 g16 g17 g18
  refine h p e room_1 s9 m #[Value.ref b] below meth c9 H locs cells slots ls D dA X (fun q => s9.heap.size ≤ q) L _ g1 g2 g3 g4 g5 g6 g9 g10 (fun q hq => hq) g15 g16 (by omega) (by omega) hf hl9 (fun H1 locs1 L2 ls1 hS1 hl1 => ?_)
  exact k p e s9 m b below meth c9 H1 locs1 (cells + dc) (slots + ds) ls1 D dA X (L ++ L2) g1 g2 g3 g4 g5 g6 g7 g8 g9 g10 g11 g12 g13 g14 hS1 hl1 (by omega) (by omega)
theorem m_Law.blk {l : Launch} {n : Nat} {sc : Nat → Int32} (k : Nat) {F F' : mF} {c0 s0 : Nat} (h : m_stp M_law k F = some (F', 0, 0, 0, 0)) (kk : m_Law l n sc F' c0 s0) : m_Law l n sc F c0 s0 := by
  have := m_Law.step (m_stp_step l m_law_ok k F F' 0 0 0 0 h) (Nat.zero_le _) (Nat.zero_le _) kk
  rw [Nat.zero_add, Nat.zero_add] at this
  exact this
theorem m_Law.sq {l : Launch} {n : Nat} {sc : Nat → Int32} (qs : List (Nat × Instr × Nat)) {F F' : mF} {c0 s0 : Nat} (hd : m_dq M_law qs) (h : m_sq M_law qs F = some F') (kk : m_Law l n sc F' c0 s0) : m_Law l n sc F c0 s0 := by
  have := m_Law.step (m_sq_step l m_law_ok qs F F' hd h) (by decide) (by decide) kk
  rw [Nat.zero_add, Nat.zero_add] at this
  exact this
theorem m_dl_822 : m_de M_law 822 = some (.iconst 1, 1) := by decide +kernel
theorem m_dl_823 : m_de M_law 823 = some (.ireturn, 1) := by decide +kernel
theorem m_dd_823 : decode code 823 = .ok (.ireturn, 1) := by decide +kernel
theorem m_Law.fin {l : Launch} {n : Nat} {sc : Nat → Int32} {lv : List (Nat × Value)} {w : List mM} {c0 s0 : Nat} : m_Law l n sc (822, lv, [], w) c0 s0 := by
  intro p e s9 m b below meth c9 H locs cells slots ls D dA X L g1 g2 g3 g4 g5 g6 g7 g8 g9 g10 g11 g12 g13 g14 g15 g16 g17 g18
  refine lv_iconst (v := 1) g1 g2 (m_de_ok m_law_ok m_dl_822) rfl ?_
  refine va_forget (fun q hq => g15.2.2.2.2.2.2 q hq) ?_
  refine W.widen (k := 601024) (n := 7293034) (by have : cells + c0 ≤ 601024 := g17; omega) (by have : slots + s0 ≤ 7293034 := g18; omega) ?_
  have hd9 : decode code 823 = .ok (.ireturn, 1) := m_dd_823
  have hc9 : c9.code = code := g2
  exact lw_ret (pc := 823) g1 hc9 g7 g8 hd9
theorem m_Law.ld {l : Launch} {n : Nat} {sc : Nat → Int32} {pc : Nat} {lv : List (Nat × Value)} {st : List Value} {w : List mM} {i : Int32} (j : Nat) {c0 s0 : Nat} (hd : m_de M_law pc = some (.iaload, 1)) (hi : ¬ i < 0) (hj : i.toNatClampNeg = j) (hn : j < n) (k : m_Law l n sc (pc + 1, lv, .int (sc j) :: st, w) c0 s0) : m_Law l n sc (pc, lv, .int i :: .ref 500 :: st, w) c0 s0 := by
  intro p e s9 m b below meth c9 H locs cells slots ls D dA X L g1 g2 g3 g4 g5 g6 g7 g8 g9 g10 g11 g12 g13 g14 g15 g16 g17 g18
  have e5 : m_ad X L 500 = b := by rw [← g12]; unfold m_ad; rw [if_pos (by decide)]
  show W p l e room_1 s9 m #[Value.ref b] below meth c9 H locs cells slots _ (F0 m pc ls (.int i :: .ref (m_ad X L 500) :: _))
  rw [e5]
  have hin : vp_in i n := by
    unfold vp_in
    rw [hj]
    exact fun h => h.elim hi (fun h => absurd hn (Nat.not_lt.mpr h))
  refine va_sld (A := fun q => s9.heap.size ≤ q) g1 g2 g13 g14 (Nat.not_le.mpr g14) g15.2.2.2.2 hin (m_de_ok m_law_ok hd) ?_
  rw [hj]
  exact k p e s9 m b below meth c9 H locs cells slots ls D dA X L g1 g2 g3 g4 g5 g6 g7 g8 g9 g10 g11 g12 g13 g14 g15 g16 g17 g18
theorem m_Law.len {l : Launch} {n : Nat} {sc : Nat → Int32} {pc : Nat} {lv : List (Nat × Value)} {st : List Value} {w : List mM} {c0 s0 : Nat} (hd : m_de M_law pc = some (.arraylength, 1)) (k : m_Law l n sc (pc + 1, lv, .int (Int32.ofNat n) :: st, w) c0 s0) : m_Law l n sc (pc, lv, .ref 500 :: st, w) c0 s0 := by
  intro p e s9 m b below meth c9 H locs cells slots ls D dA X L g1 g2 g3 g4 g5 g6 g7 g8 g9 g10 g11 g12 g13 g14 g15 g16 g17 g18
  have e5 : m_ad X L 500 = b := by rw [← g12]; unfold m_ad; rw [if_pos (by decide)]
  show W p l e room_1 s9 m #[Value.ref b] below meth c9 H locs cells slots _ (F0 m pc ls (.ref (m_ad X L 500) :: _))
  rw [e5]
  refine va_slen (A := fun q => s9.heap.size ≤ q) g1 g2 g13 g14 (Nat.not_le.mpr g14) g15.2.2.2.2 (m_de_ok m_law_ok hd) ?_
  exact k p e s9 m b below meth c9 H locs cells slots ls D dA X L g1 g2 g3 g4 g5 g6 g7 g8 g9 g10 g11 g12 g13 g14 g15 g16 g17 g18
theorem m_Law.icmp {l : Launch} {n : Nat} {sc : Nat → Int32} {pc t : Nat} {lv : List (Nat × Value)} {st : List Value} {w : List mM} {cc : ClassFile.Cond} {off : Int} {x y : Int32} {c0 s0 : Nat} (hd : m_de M_law pc = some (.if_icmp cc off, 3)) (hj : m_jmp pc off = some t)
    (k1 : m_c2 cc x y = true → m_Law l n sc (t, lv, st, w) c0 s0) (k2 : m_c2 cc x y = false → m_Law l n sc (pc + 3, lv, st, w) c0 s0) : m_Law l n sc (pc, lv, .int y :: .int x :: st, w) c0 s0 := by
  have e : m_nx m_nn M_law (pc, lv, .int y :: .int x :: st, w) = some ((if m_c2 cc x y = true then t else pc + 3, lv, st, w), 0, 0, 0, 0) := by
    unfold m_nx
    simp only [hd, m_ps, m_lo, m_br, m_bb, hj, if_true, Option.map_some]
  have hs := m_nx_sound l m_law_ok (fun J G r hJ hr => by cases hr) e
  cases hc : m_c2 cc x y with
  | true =>
    rw [hc, if_pos rfl] at hs
    have := m_Law.step hs (Nat.zero_le _) (Nat.zero_le _) (k1 hc)
    rw [Nat.zero_add, Nat.zero_add] at this
    exact this
  | false =>
    rw [hc, if_neg (by decide)] at hs
    have := m_Law.step hs (Nat.zero_le _) (Nat.zero_le _) (k2 hc)
    rw [Nat.zero_add, Nat.zero_add] at this
    exact this
theorem m_at1_inv {I J : mI} {F : mF} {as rest : List Value} (h : m_at1 I F = some (J, as, rest)) : ∃ i, m_de I F.1 = some (i, 3) ∧ m_ca I i F.2.2.1 F.2.2.2 = some (J, as, rest) ∧ m_okf F = true ∧ (lg_sl as).length ≤ J.2.2.1 := by
  unfold m_at1 at h
  cases h1 : m_de I F.1 with
  | none => rw [h1] at h; cases h
  | some a =>
    obtain ⟨i, len⟩ := a
    rw [h1] at h
    simp only at h
    cases h2 : m_ps i F.2.2.1 with
    | some b => rw [h2] at h; cases h
    | none =>
      rw [h2] at h
      simp only at h
      cases h3 : m_lo I.2.2.1 i F.2.1 F.2.2.1 with
      | some b => rw [h3] at h; cases h
      | none =>
        rw [h3] at h
        simp only at h
        cases h4 : m_br F.2.2.2.length F.1 i len F.2.2.1 with
        | some b => rw [h4] at h; cases h
        | none =>
          rw [h4] at h
          simp only at h
          cases h5 : m_hs I i F.2.2.1 F.2.2.2 with
          | some b => rw [h5] at h; cases h
          | none =>
            rw [h5] at h
            simp only at h
            cases h6 : m_xs I i F.2.2.1 F.2.2.2 with
            | some b => rw [h6] at h; cases h
            | none =>
              rw [h6] at h
              simp only at h
              cases h7 : m_c0 I i F.2.2.1 with
              | some b => rw [h7] at h; cases h
              | none =>
                rw [h7] at h
                simp only at h
                cases h8 : m_ca I i F.2.2.1 F.2.2.2 with
                | none => rw [h8] at h; cases h
                | some b =>
                  obtain ⟨J9, as9, rest9⟩ := b
                  rw [h8] at h
                  simp only at h
                  split at h
                  · rename_i h9
                    cases h
                    exact ⟨i, by rw [h9.1], h8, h9.2.1, h9.2.2⟩
                  · cases h
theorem m_call_step (l : Launch) {I J : mI} (hI : m_bOk I) {F : mF} {as rest : List Value} (h : m_at1 I F = some (J, as, rest)) {r : mR} (hM : m_Met l J as F.2.2.2 r) : m_Step l I F (F.1 + 3, F.2.1, r.1.toList ++ rest, r.2.1) r.2.2.1 r.2.2.2.1 (r.2.2.2.2.1 + 1) (8 + (J.2.2.1 + 11) + r.2.2.2.2.2) := by
  obtain ⟨i, hde, hca, hokf, hfit⟩ := m_at1_inv h
  intro p e R s m args below meth c H locs cells slots ls D dA X A L Q hx hb hml hown hts hnm hK hE hA hS hl hc hs hfr hlo kk
  have hlen : L.length = F.2.2.2.length := hS.1
  obtain ⟨hrest, hJm⟩ := m_ca_as hca
  refine m_ca_sound hx hb hml hl.1 hown hts hK hE hA hI hS (m_de_ok hI hde) hca hM hfr hlo hc hs (fun H1 locs1 L2 hS1 => ?_)
  have g := kk H1 locs1 L2 ls hS1 (by rw [m_lvt_ext (fun q hq => by rw [hlen]; exact (m_okf_st hokf).2 q hq)]; exact hl)
  have e9 : rest.map (m_tr X L) = rest.map (m_tr X (L ++ L2)) := (m_trs_ext (fun v hv => by rw [hlen]; exact (m_okf_st hokf).1 v (hrest v hv))).symm
  have e8 : (r.1.map (m_tr X (L ++ L2))).toList ++ rest.map (m_tr X L) = (r.1.toList ++ rest).map (m_tr X (L ++ L2)) := by
    rw [e9, List.map_append]
    cases r.1 <;> rfl
  rw [e8]
  exact g
/-- a call in the law -/
theorem m_Law.call {l : Launch} {n : Nat} {sc : Nat → Int32} {F : mF} {J : mI} {as rest : List Value} {P : Option Value → List mM → Prop} {c s f lo c0 s0 : Nat} (h : m_at1 M_law F = some (J, as, rest)) (hq : m_Rq J (m_ent J as F.2.2.2) P c s f lo) (k : ∀ (v : Option Value) (w : List mM), P v w → m_Law l n sc (F.1 + 3, F.2.1, v.toList ++ rest, w) c0 s0) (hf : f + 1 ≤ 2048) (hl : 8 + (J.2.2.1 + 11) + lo ≤ 84000) : m_Law l n sc F (c + c0) (s + s0) := by
  obtain ⟨i, hde, hca, hokf, hfit⟩ := m_at1_inv h
  obtain ⟨v, w', h1, h2⟩ := hq.met (m_ca_as hca).2 hfit l
  exact m_Law.step (m_call_step l m_law_ok h h2) hf hl (k v w' h1)
/-- a call of a helper -/
theorem m_Law.help {l : Launch} {n : Nat} {sc : Nat → Int32} {pc k9 : Nat} {lv : List (Nat × Value)} {as rest : List Value} {w : List mM} {H : mI} {hs : List (Nat × Nat × Nat × Nat)} {r : mR} {c0 s0 : Nat} (hd : m_de M_law pc = some (.invokestatic k9, 3)) (hok : m_okf (pc, lv, as.reverse ++ rest, w) = true) (hcat : (rest.map fun v => v.category).sum ≤ 8) (hlen : as.length = H.2.2.2.1) (hpar : (parseMethodDescriptor H.1.desc).map (fun d => d.parameters.length) = some H.2.2.2.1)
    (f1 : Cond.methodLink M_law.1.cls k9 H.1 ∈ m_gt) (f2 : Cond.static H.1 ∈ m_gt) (f3 : Cond.initialized H.1.cls ∈ m_gt) (f4 : Cond.codeWith H.1 H.2.1 H.2.2.1 H.2.2.2.2.1 hs ∈ m_gt) (hy : H.1.cls ≠ "java/lang/invoke/MethodHandle" ∧ H.1.cls ≠ "java/lang/invoke/VarHandle") (hM : m_MetW l H hs as w r)
    (hf : r.2.2.2.2.1 + 1 ≤ 2048) (hl9 : 8 + (H.2.2.1 + 11) + r.2.2.2.2.2 ≤ 84000) (k : m_Law l n sc (pc + 3, lv, r.1.toList ++ rest, r.2.1) c0 s0) : m_Law l n sc (pc, lv, as.reverse ++ rest, w) (r.2.2.1 + c0) (r.2.2.2.1 + s0) := by
  intro p e s9 m b below meth c9 HH locs cells slots ls D dA X L g1 g2 g3 g4 g5 g6 g7 g8 g9 g10 g11 g12 g13 g14 g15 g16 g17 g18
  have hlen2 : L.length = w.length := g15.1
  refine m_callW (I := M_law) (J := H) g1 g2 g3 g16.1 g4 g5 g9 g10 g11 (fun q hq => hq) g15 (m_de_ok m_law_ok hd) hcat hlen hpar f1 f2 f3 f4 hy hM hf hl9 (by omega) (by omega) (fun H1 locs1 L2 hS1 => ?_)
  have hokf := m_okf_st hok
  have e9 : rest.map (m_tr X L) = rest.map (m_tr X (L ++ L2)) := (m_trs_ext (fun v hv => by rw [hlen2]; exact hokf.1 v (List.mem_append_right _ hv))).symm
  have e8 : (r.1.map (m_tr X (L ++ L2))).toList ++ rest.map (m_tr X L) = (r.1.toList ++ rest).map (m_tr X (L ++ L2)) := by
    rw [e9, List.map_append]
    cases r.1 <;> rfl
  rw [e8]
  exact k p e s9 m b below meth c9 H1 locs1 (cells + r.2.2.1) (slots + r.2.2.2.1) ls D dA X (L ++ L2) g1 g2 g3 g4 g5 g6 g7 g8 g9 g10 g11 g12 g13 g14 hS1 (by rw [m_lvt_ext (fun q hq => by rw [hlen2]; exact hokf.2 q hq)]; exact g16) (by omega) (by omega)
