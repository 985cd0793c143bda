/-! A reply is written on the page, whole. -/
section
variable {T T0 T1 T' : tT} {b b0 m m0 ra s n k t F : Nat} {g : Nat → Int32} {ml x : Int32} {cs ds : List Int32}
theorem len277 (ok : okG g) : (t277 g).length ≤ 15 := by
  obtain ⟨_, _, _, _, _, _, fr, cn, fr1, cn1, fr2, cn2, cn3⟩ := ok
  have := dg_len (show cn < 1000000 by omega)
  unfold t277
  rw [List.length_append, List.length_append, cn2]
  show 8 + (dg (Int32.ofNat cn)).length + 1 ≤ 15
  omega
theorem len257 (ok : okG g) : (t257 g).length ≤ 15 := by
  unfold t257
  split
  · exact len277 ok
  · exact Nat.zero_le _
theorem len228 (ok : okG g) : (t228 g).length ≤ 45 := by
  have l := len257 ok
  obtain ⟨_, _, _, _, _, ⟨ln, ln1, ln2⟩, _⟩ := ok
  have := dg_len (show ln < 1000000 by omega)
  unfold t228
  rw [List.length_append]
  split
  · rw [List.length_append, List.length_append, ln2]
    show 23 + (dg (Int32.ofNat ln)).length + 1 + _ ≤ 45
    omega
  · show 0 + _ ≤ 45
    omega
theorem len166 (ok : okG g) : (t166 g).length ≤ 90 := by
  have l := len228 ok
  obtain ⟨_, _, _, _, _, ⟨ln, ln1, ln2⟩, fr, cn, fr1, cn1, fr2, cn2, cn3⟩ := ok
  have d1 := dg_len (show ln < 1000000 by omega)
  have d2 := dg_len (show fr < 1000000 by omega)
  unfold t166
  rw [List.length_append]
  split
  · rename_i w
    have c1 := cn3 w
    have d3 := dg_len (show fr + cn - 1 < 1000000 by omega)
    have eN : (Int32.ofNat fr + Int32.ofNat cn) - (1 : Int32) = Int32.ofNat (fr + cn - 1) := by
      rw [m_n_add]
      exact m_n_sub (b := 1) (by omega)
    rw [List.length_append, List.length_append, List.length_append, List.length_append, List.length_append, List.length_append, fr2, cn2, ln2, eN]
    show 21 + (dg (Int32.ofNat fr)).length + 1 + (dg (Int32.ofNat (fr + cn - 1))).length + 1 + (dg (Int32.ofNat ln)).length + 1 + _ ≤ 90
    omega
  · show 0 + _ ≤ 90
    omega
theorem lenVary : (tVary g).length ≤ 45 := by
  unfold tVary
  split
  · exact Nat.zero_le _
  · rw [List.length_append, List.length_append, List.length_append, List.length_append]
    have l1 : (if g 5 &&& 1 = 0 then ([] : List Int32) else sC "accept-language").length ≤ 15 := by split; exact Nat.zero_le _; exact Nat.le_refl _
    have l2 : (if g 5 = 3 then sC ", " else ([] : List Int32)).length ≤ 2 := by split; exact Nat.le_refl _; exact Nat.zero_le _
    have l3 : (if g 5 &&& 2 = 0 then ([] : List Int32) else sC "accept-encoding").length ≤ 15 := by split; exact Nat.zero_le _; exact Nat.le_refl _
    show 6 + _ + _ + _ + 1 ≤ 45
    omega
def tHow (g : Nat → Int32) : List Int32 := if g 7 = 1 then sC "hit" else if g 7 = 2 then sC "stale" else sC "miss"
theorem txL_eq : txL g = sC "etag: \"" ++ dg (8 * g 3 + g 4) ++ sC "\"\n" ++ sC "age: " ++ dg (g 6) ++ sC "\n" ++ sC "cache: " ++ tHow g ++ sC "\n" ++ tVary g ++ t166 g := by
  unfold txL t166 t228 t257 t277 tVary tHow
  simp only [List.append_assoc]
theorem lenL (ok : okG g) : (txL g).length ≤ 180 := by
  have l1 := len166 ok
  have l2 := lenVary (g := g)
  obtain ⟨_, _, ⟨tg, tg1, tg2⟩, _, ⟨ag, ag1, ag2⟩, _⟩ := ok
  have d1 := dg_len (show tg < 1000000 by omega)
  have d2 := dg_len (show ag < 1000000 by omega)
  have l3 : (tHow g).length ≤ 5 := by unfold tHow; split; decide +kernel; split; decide +kernel; decide +kernel
  rw [txL_eq, tg2, ag2]
  rw [List.length_append, List.length_append, List.length_append, List.length_append, List.length_append, List.length_append, List.length_append, List.length_append, List.length_append, List.length_append]
  show 7 + (dg (Int32.ofNat tg)).length + 2 + 5 + (dg (Int32.ofNat ag)).length + 1 + 7 + _ + 1 + _ + _ ≤ 180
  omega
theorem rLines (h : Px T0 b0 m0 ra g s T b m ml cs) (ok : okG g) (hl : cs.length ≤ 200) (hF : 20 < F) : Rn T0 b0 m0 ra g s ml (cs ++ txL g) (D_c_Reply_renderLines F ra (some 525) T) := by
  obtain ⟨⟨st, st1, st2⟩, fl, ⟨tg, tg1, tg2⟩, f5, ⟨ag, ag1, ag2⟩, ⟨ln, ln1, ln2⟩, _⟩ := id ok
  have d1 := dg_len (show tg < 1000000 by omega)
  have d2 := dg_len (show ag < 1000000 by omega)
  obtain ⟨T1, b1, m1, e1, P1⟩ := h.ht (F := F) (t := 32) (by decide) (by rw [tx32]; show cs.length + 7 ≤ 700; omega)
  have l1 : (cs ++ m_tx 32).length = cs.length + 7 := by rw [List.length_append, tx32]; rfl
  obtain ⟨T2, b2, m2, e2, P2⟩ := P1.hn (F := F) (k := tg) (by omega) (by omega) hF
  have l2 : (cs ++ m_tx 32 ++ dg (Int32.ofNat tg)).length ≤ cs.length + 13 := by rw [List.length_append]; omega
  obtain ⟨T3, b3, m3, e3, P3⟩ := P2.ht (F := F) (t := 33) (by decide) (by rw [tx33]; show (cs ++ m_tx 32 ++ dg (Int32.ofNat tg)).length + 2 ≤ 700; omega)
  have l3 : (cs ++ m_tx 32 ++ dg (Int32.ofNat tg) ++ m_tx 33).length ≤ cs.length + 15 := by rw [List.length_append, tx33]; show (cs ++ m_tx 32 ++ dg (Int32.ofNat tg)).length + 2 ≤ _; omega
  obtain ⟨T4, b4, m4, e4, P4⟩ := P3.ht (F := F) (t := 34) (by decide) (by rw [tx34]; show (cs ++ m_tx 32 ++ dg (Int32.ofNat tg) ++ m_tx 33).length + 5 ≤ 700; omega)
  have l4 : (cs ++ m_tx 32 ++ dg (Int32.ofNat tg) ++ m_tx 33 ++ m_tx 34).length ≤ cs.length + 20 := by rw [List.length_append, tx34]; show (cs ++ m_tx 32 ++ dg (Int32.ofNat tg) ++ m_tx 33).length + 5 ≤ _; omega
  obtain ⟨T5, b5, m5, e5, P5⟩ := P4.hn (F := F) (k := ag) (by omega) (by omega) hF
  have l5 : (cs ++ m_tx 32 ++ dg (Int32.ofNat tg) ++ m_tx 33 ++ m_tx 34 ++ dg (Int32.ofNat ag)).length ≤ cs.length + 26 := by rw [List.length_append]; omega
  obtain ⟨T6, b6, m6, e6, P6⟩ := P5.hc (F := F) (k := 10) (by decide) (by omega)
  have l6 : (cs ++ m_tx 32 ++ dg (Int32.ofNat tg) ++ m_tx 33 ++ m_tx 34 ++ dg (Int32.ofNat ag) ++ [Int32.ofNat 10]).length ≤ cs.length + 27 := by rw [List.length_append]; show (cs ++ m_tx 32 ++ dg (Int32.ofNat tg) ++ m_tx 33 ++ m_tx 34 ++ dg (Int32.ofNat ag)).length + 1 ≤ _; omega
  obtain ⟨T7, b7, m7, e7, P7⟩ := P6.ht (F := F) (t := 35) (by decide) (by rw [tx35]; show (cs ++ m_tx 32 ++ dg (Int32.ofNat tg) ++ m_tx 33 ++ m_tx 34 ++ dg (Int32.ofNat ag) ++ [Int32.ofNat 10]).length + 7 ≤ 700; omega)
  have l7 : (cs ++ m_tx 32 ++ dg (Int32.ofNat tg) ++ m_tx 33 ++ m_tx 34 ++ dg (Int32.ofNat ag) ++ [Int32.ofNat 10] ++ m_tx 35).length ≤ cs.length + 34 := by rw [List.length_append, tx35]; show (cs ++ m_tx 32 ++ dg (Int32.ofNat tg) ++ m_tx 33 ++ m_tx 34 ++ dg (Int32.ofNat ag) ++ [Int32.ofNat 10]).length + 7 ≤ _; omega
  have e6' : D_c_StringBuilder_append214 F 525 (10 : Int32) T5 = some (some 525, T6) := e6
  have fin : ∀ t, m_tx t = tHow g → cs ++ m_tx 32 ++ dg (Int32.ofNat tg) ++ m_tx 33 ++ m_tx 34 ++ dg (Int32.ofNat ag) ++ [Int32.ofNat 10] ++ m_tx 35 ++ m_tx t ++ sC "\n" ++ tVary g ++ t166 g = cs ++ txL g := fun t e => by
    rw [txL_eq, tx32, tx33, tx34, tx35, e, tg2, ag2, ← txNL]
    simp only [List.append_assoc]
  unfold D_c_Reply_renderLines
  simp only [Option.bind_some, h.tc, e1, bd2, Rg3 P1.rep, Rg4 P1.rep, tg2, P1.tc, e2, P2.tc, e3, P3.tc, e4, Rg6 P4.rep, ag2, P4.tc, e5, P5.tc, e6', P6.tc, e7, Rg7 P7.rep]
  by_cases w1 : g 7 = 1
  · rw [show m_c2 .ne (g 7) (1 : Int32) = false from decide_eq_false (fun q => q w1), cond_false, ← fin 36 (by rw [tx36]; unfold tHow; rw [if_pos w1])]
    exact r80 P7 ok (by decide) (by decide +kernel) (by omega) hF
  · rw [show m_c2 .ne (g 7) (1 : Int32) = true from decide_eq_true w1, cond_true]
    by_cases w2 : g 7 = 2
    · rw [show m_c2 .ne (g 7) (2 : Int32) = false from decide_eq_false (fun q => q w2), cond_false, ← fin 37 (by rw [tx37]; unfold tHow; rw [if_neg w1, if_pos w2])]
      exact r80 P7 ok (by decide) (by decide +kernel) (by omega) hF
    · rw [show m_c2 .ne (g 7) (2 : Int32) = true from decide_eq_true w2, cond_true, ← fin 38 (by rw [tx38]; unfold tHow; rw [if_neg w1, if_neg w2])]
      exact r80 P7 ok (by decide) (by decide +kernel) (by omega) hF
theorem and255 (x : Int32) : ∃ k, k < 256 ∧ x &&& 255 = Int32.ofNat k := by
  refine ⟨(x &&& 255).toBitVec.toNat, ?_, ?_⟩
  · show (x.toBitVec &&& (255 : Int32).toBitVec).toNat < 256
    rw [BitVec.toNat_and]
    exact Nat.lt_of_le_of_lt Nat.and_le_right (by decide)
  · apply Int32.toBitVec_inj.mp
    rw [Int32.toBitVec_ofNat', BitVec.ofNat_toNat]
    simp
theorem chr_k : ∀ k, k < 256 → (((Int32.ofNat k).toUInt32 % 65536).toInt32) = Int32.ofNat k := by decide +kernel
/-- the j-th byte of what is sent -/
def byB (g : Nat → Int32) (j : Nat) : Int32 := (g 11 + 7 * (g 9 + Int32.ofNat j) + ((g 9 + Int32.ofNat j) >>> ((4 : Int32) &&& 31))) &&& 255
theorem rBytes {fr cn : Nat} (h9 : g 9 = Int32.ofNat fr) (h10 : g 10 = Int32.ofNat cn) (hf : fr < 100000) (hc : cn ≤ 256) : ∀ (j i : Nat) (T : tT) (b m : Nat) (cs : List Int32), i + j = cn → Px T0 b0 m0 ra g s T b m ml cs → cs.length + j ≤ 700 → ∀ fu, j < fu → Rn T0 b0 m0 ra g s ml (cs ++ (if g 2 = 0 then (List.range' i j).map (byB g) else [])) (D_c_Reply_render_50 F fu ra (some 525) (Int32.ofNat (fr + i)) T) := by
  intro j
  induction j with
  | zero =>
    intro i T b m cs hi h hl fu hfu
    obtain ⟨fu, rfl⟩ : ∃ y, fu = y + 1 := ⟨fu - 1, by omega⟩
    unfold D_c_Reply_render_50
    simp only [Rg9 h.rep, Rg10 h.rep, Option.bind_some, h9, h10, m_n_add, ge_n (show fr + i < 2147483648 by omega) (show fr + cn < 2147483648 by omega), decide_eq_true (show fr + cn ≤ fr + i by omega), cond_true]
    refine Rn.of h ?_
    split <;> exact (List.append_nil _).symm
  | succ j ih =>
    intro i T b m cs hi h hl fu hfu
    obtain ⟨fu, rfl⟩ : ∃ y, fu = y + 1 := ⟨fu - 1, by omega⟩
    unfold D_c_Reply_render_50
    simp only [Rg9 h.rep, Rg10 h.rep, Option.bind_some, h9, h10, m_n_add, ge_n (show fr + i < 2147483648 by omega) (show fr + cn < 2147483648 by omega), decide_eq_false (show ¬ fr + cn ≤ fr + i by omega), cond_false, Rg2 h.rep]
    by_cases w : g 2 = 0
    · rw [show m_c1 .ne (g 2) = false from decide_eq_false (fun q => q w), cond_false, if_pos w]
      have bi : byB g i = (g 11 + 7 * Int32.ofNat (fr + i) + (Int32.ofNat (fr + i) >>> ((4 : Int32) &&& 31))) &&& 255 := by unfold byB; rw [h9, m_n_add]
      obtain ⟨k, k1', k2'⟩ := and255 (g 11 + 7 * Int32.ofNat (fr + i) + (Int32.ofNat (fr + i) >>> ((4 : Int32) &&& 31)))
      obtain ⟨T1, b1, m1, e1, P1⟩ := h.hc (F := F) k1' (by omega)
      have i1 : Int32.ofNat (fr + i) + Int32.ofInt 1 = Int32.ofNat (fr + (i + 1)) := m_n_add _ 1
      simp only [Rg11 h.rep, Option.bind_some, h.tc, k2', chr_k k k1', e1, bd2, i1]
      have := ih (i + 1) T1 b1 m1 _ (by omega) P1 (by rw [List.length_append]; show cs.length + 1 + j ≤ 700; omega) fu (by omega)
      rw [if_pos w] at this
      rw [List.range'_succ, List.map_cons, bi, k2', show cs ++ Int32.ofNat k :: List.map (byB g) (List.range' (i + 1) j) = cs ++ [Int32.ofNat k] ++ List.map (byB g) (List.range' (i + 1) j) by simp only [List.append_assoc, List.singleton_append]]
      exact this
    · rw [show m_c1 .ne (g 2) = true from decide_eq_true w, cond_true, if_neg w]
      exact Rn.of h (List.append_nil _).symm
theorem words_c (h : T.1 ra = some (cReply g s)) : ∃ w, D_c_Reply_words F ra T = some (some w) ∧ (46 ≤ w ∧ w ≤ 54) ∧ m_tx w = txW (g 1) := by
  obtain ⟨a1, a2, a3, a4, a5, a6, a7, a8, a9⟩ := txWo
  unfold D_c_Reply_words txW
  simp only [Rg1 h, Option.bind_some]
  by_cases w1 : g 1 = 200
  · rw [decide_eq_true w1, if_pos w1]; exact ⟨46, rfl, by decide, a1⟩
  rw [decide_eq_false w1, if_neg w1, cond_false]
  by_cases w2 : g 1 = 206
  · rw [decide_eq_true w2, if_pos w2]; exact ⟨47, rfl, by decide, a2⟩
  rw [decide_eq_false w2, if_neg w2, cond_false]
  by_cases w3 : g 1 = 304
  · rw [decide_eq_true w3, if_pos w3]; exact ⟨48, rfl, by decide, a3⟩
  rw [decide_eq_false w3, if_neg w3, cond_false]
  by_cases w4 : g 1 = 400
  · rw [decide_eq_true w4, if_pos w4]; exact ⟨49, rfl, by decide, a4⟩
  rw [decide_eq_false w4, if_neg w4, cond_false]
  by_cases w5 : g 1 = 404
  · rw [decide_eq_true w5, if_pos w5]; exact ⟨50, rfl, by decide, a5⟩
  rw [decide_eq_false w5, if_neg w5, cond_false]
  by_cases w6 : g 1 = 416
  · rw [decide_eq_true w6, if_pos w6]; exact ⟨51, rfl, by decide, a6⟩
  rw [decide_eq_false w6, if_neg w6, cond_false]
  by_cases w7 : g 1 = 502
  · rw [decide_eq_true w7, if_pos w7]; exact ⟨52, rfl, by decide, a7⟩
  rw [decide_eq_false w7, if_neg w7, cond_false]
  by_cases w8 : g 1 = 503
  · rw [decide_eq_true w8, if_pos w8]; exact ⟨53, rfl, by decide, a8⟩
  rw [decide_eq_false w8, if_neg w8, cond_false]
  exact ⟨54, rfl, by decide, a9⟩
theorem r38 {fr cn : Nat} (h : Px T0 b0 m0 ra g s T b m ml cs) (h9 : g 9 = Int32.ofNat fr) (h10 : g 10 = Int32.ofNat cn) (hf : fr < 100000) (hc : cn ≤ 256) (hl : cs.length ≤ 400) (hF : 300 < F) : Rn T0 b0 m0 ra g s ml (cs ++ sC "\n" ++ (if g 2 = 0 then txB g else [])) (D_c_Reply_render_38 F ra (some 525) T) := by
  obtain ⟨T1, b1, m1, e1, P1⟩ := h.hc (F := F) (k := 10) (by decide) (by omega)
  have e1' : D_c_StringBuilder_append214 F 525 (10 : Int32) T = some (some 525, T1) := e1
  unfold D_c_Reply_render_38
  simp only [Option.bind_some, h.tc, e1', bd2, Rg9 P1.rep, h9]
  have := rBytes (F := F) h9 h10 hf hc cn 0 T1 b1 m1 _ (by omega) P1 (by rw [List.length_append]; show cs.length + 1 + cn ≤ 700; omega) F (by omega)
  have eB : txB g = (List.range' 0 cn).map (byB g) := by
    unfold txB
    rw [h10, m_n_cl (by omega), List.range_eq_range']
    rfl
  rw [eB, txNL]
  exact this
/-- the whole text -/
theorem render_c {st fr cn : Nat} (h : Px T0 b0 m0 ra g s T b m ml []) (st1 : st < 1000) (st2 : g 1 = Int32.ofNat st) (fr1 : fr < 100000) (cn1 : cn ≤ 256) (fr2 : g 9 = Int32.ofNat fr) (cn2 : g 10 = Int32.ofNat cn) (ok : ¬ g 3 = 0 → okG g) (hF : 300 < F) : Rn T0 b0 m0 ra g s ml (txt g) (D_c_Reply_render F ra (some 525) T) := by
  have d1 := dg_len (show st < 1000000 by omega)
  obtain ⟨T1, b1, m1, e1, P1⟩ := h.hn (F := F) (k := st) (by omega) (by show 0 + 6 ≤ 700; decide) (by omega)
  rw [List.nil_append] at P1
  obtain ⟨T2, b2, m2, e2, P2⟩ := P1.hc (F := F) (k := 32) (by decide) (by omega)
  have l2 : (dg (Int32.ofNat st) ++ [Int32.ofNat 32]).length ≤ 7 := by rw [List.length_append]; show (dg (Int32.ofNat st)).length + 1 ≤ 7; omega
  obtain ⟨w, w1, w2, w3⟩ := words_c (F := F) P2.rep
  have wt : 1 ≤ w ∧ w ≤ m_sN := ⟨by omega, Nat.le_trans w2.2 (by decide)⟩
  have wl : (m_tx w).length ≤ 21 := by
    rw [w3]
    unfold txW
    repeat (first | decide +kernel | (split; decide +kernel))
  obtain ⟨T3, b3, m3, e3, P3⟩ := P2.ht (F := F) (t := w) wt (by omega)
  have l3 : (dg (Int32.ofNat st) ++ [Int32.ofNat 32] ++ m_tx w).length ≤ 28 := by rw [List.length_append]; omega
  obtain ⟨T4, b4, m4, e4, P4⟩ := P3.hc (F := F) (k := 10) (by decide) (by omega)
  have l4 : (dg (Int32.ofNat st) ++ [Int32.ofNat 32] ++ m_tx w ++ [Int32.ofNat 10]).length ≤ 29 := by rw [List.length_append]; show (dg (Int32.ofNat st) ++ [Int32.ofNat 32] ++ m_tx w).length + 1 ≤ 29; omega
  have e2' : D_c_StringBuilder_append214 F 525 (32 : Int32) T1 = some (some 525, T2) := e2
  have e4' : D_c_StringBuilder_append214 F 525 (10 : Int32) T3 = some (some 525, T4) := e4
  have tw : tou w = some () := by unfold tou; rw [if_pos (by omega)]
  have eq1 : ∀ ys, dg (Int32.ofNat st) ++ [Int32.ofNat 32] ++ m_tx w ++ [Int32.ofNat 10] ++ ys ++ sC "\n" ++ (if g 2 = 0 then txB g else []) = dg (g 1) ++ sC " " ++ txW (g 1) ++ sC "\n" ++ ys ++ sC "\n" ++ (if g 2 = 0 then txB g else []) := fun ys => by rw [st2, w3, ← txSP, ← txNL, st2]
  unfold D_c_Reply_render
  simp only [Rg1 h.rep, st2, Option.bind_some, h.tc, e1, bd2, P1.tc, e2', P2.tr, w1, P2.tc, tw, e3, P3.tc, e4', Rg3 P4.rep]
  unfold txt
  by_cases w0 : g 3 = 0
  · rw [show m_c1 .eq (g 3) = true from decide_eq_true w0, cond_true, if_pos w0]
    have := r38 (F := F) P4 fr2 cn2 fr1 cn1 (by omega) hF
    have q := eq1 []
    rw [List.append_nil] at q
    rw [← q]
    exact this
  · rw [show m_c1 .eq (g 3) = false from decide_eq_false w0, cond_false, if_neg w0, P4.tr, Option.bind_some]
    obtain ⟨T5, b5, m5, e5, P5⟩ := rLines (F := F) P4 (ok w0) (by omega) (by omega)
    rw [e5, Option.bind_some, ← eq1]
    have lL := lenL (ok w0)
    exact r38 P5 fr2 cn2 fr1 cn1 (by rw [List.length_append]; omega) hF
end
