/-! A reply is written on the page. -/
theorem tx32 : m_tx 32 = sC "etag: \"" := by decide +kernel
theorem tx33 : m_tx 33 = sC "\"\n" := by decide +kernel
theorem tx34 : m_tx 34 = sC "age: " := by decide +kernel
theorem tx35 : m_tx 35 = sC "cache: " := by decide +kernel
theorem tx36 : m_tx 36 = sC "hit" := by decide +kernel
theorem tx37 : m_tx 37 = sC "stale" := by decide +kernel
theorem tx38 : m_tx 38 = sC "miss" := by decide +kernel
theorem tx39 : m_tx 39 = sC "vary: " := by decide +kernel
theorem tx40 : m_tx 40 = sC "accept-language" := by decide +kernel
theorem tx41 : m_tx 41 = sC ", " := by decide +kernel
theorem tx42 : m_tx 42 = sC "accept-encoding" := by decide +kernel
theorem tx43 : m_tx 43 = sC "content-range: bytes " := by decide +kernel
theorem tx44 : m_tx 44 = sC "content-range: bytes */" := by decide +kernel
theorem tx45 : m_tx 45 = sC "length: " := by decide +kernel
theorem tx31 : m_tx 31 = [] := by decide +kernel
theorem txNL : sC "\n" = [Int32.ofNat 10] := by decide +kernel
theorem txSP : sC " " = [Int32.ofNat 32] := by decide +kernel
theorem txMI : sC "-" = [Int32.ofNat 45] := by decide +kernel
theorem txSL : sC "/" = [Int32.ofNat 47] := by decide +kernel
theorem txWo : m_tx 46 = sC "OK" ∧ m_tx 47 = sC "Partial Content" ∧ m_tx 48 = sC "Not Modified" ∧ m_tx 49 = sC "Bad Request" ∧ m_tx 50 = sC "Not Found" ∧ m_tx 51 = sC "Range Not Satisfiable" ∧ m_tx 52 = sC "Bad Gateway" ∧ m_tx 53 = sC "Service Unavailable" ∧ m_tx 54 = sC "Gateway Timeout" := by decide +kernel
/-- what may be said of a reply's ints -/
def okG (g : Nat → Int32) : Prop := (∃ st, st < 1000 ∧ g 1 = Int32.ofNat st) ∧ True ∧ (∃ tg, tg < 1000000 ∧ 8 * g 3 + g 4 = Int32.ofNat tg) ∧ few 4 (g 5) ∧ few 100000 (g 6) ∧ (∃ ln, ln < 256 ∧ g 8 = Int32.ofNat ln) ∧ ∃ fr cn, fr < 100000 ∧ cn ≤ 256 ∧ g 9 = Int32.ofNat fr ∧ g 10 = Int32.ofNat cn ∧ (g 1 = 206 → 1 ≤ cn)
/-- on the way: the page holds cs, the rest stands -/
def Px (T0 : tT) (b0 m0 ra : Nat) (g : Nat → Int32) (s : Nat) (T : tT) (b m : Nat) (ml : Int32) (cs : List Int32) : Prop := Pt T b m ml cs ∧ m0 ≤ m ∧ (m = m0 ∨ m ≤ 1400) ∧ Gw T0 b0 T b (m - m0) ∧ (okL T0 ∧ okL T) ∧ (T0.1 ra = some (cReply g s) ∧ ¬ ra = 525 ∧ ¬ ra = b0) ∧ m0 ≤ 1500
def Rn (T0 : tT) (b0 m0 ra : Nat) (g : Nat → Int32) (s : Nat) (ml : Int32) (cs : List Int32) (o : Option tT) : Prop := ∃ T' b' m', o = some T' ∧ Px T0 b0 m0 ra g s T' b' m' ml cs
section
variable {T T0 T1 T' : tT} {b b0 m m0 ra s n k t F : Nat} {g : Nat → Int32} {ml x : Int32} {cs ds : List Int32}
theorem Px.rep (h : Px T0 b0 m0 ra g s T b m ml cs) : T.1 ra = some (cReply g s) := h.2.2.2.1.1 _ _ h.2.2.2.2.2.1.1 h.2.2.2.2.2.1.2.1 h.2.2.2.2.2.1.2.2
theorem Px.tc (h : Px T0 b0 m0 ra g s T b m ml cs) : tcl T 525 3 = some () := by
  obtain ⟨f, hg, _⟩ := h.1
  exact tcl_o hg.1
theorem Px.tr (h : Px T0 b0 m0 ra g s T b m ml cs) : tcl T ra 8 = some () := tcl_o h.rep
theorem Px.cast (h : Px T0 b0 m0 ra g s T b m ml cs) (e : cs = ds) : Px T0 b0 m0 ra g s T b m ml ds := e ▸ h
theorem Px.step {o : Option (Option Nat × tT)} (h : Px T0 b0 m0 ra g s T b m ml cs) (hw : Wr T b m ml ds o) (hl : ds.length ≤ 700) : ∃ T' b' m', o = some (some 525, T') ∧ Px T0 b0 m0 ra g s T' b' m' ml ds := by
  obtain ⟨h1, h2, h3, h4, ⟨h5, h5'⟩, h6, h7⟩ := h
  obtain ⟨T', b', m', a1, a2, a3, a4, a5⟩ := hw
  have g2 : Gw T0 b0 T' b' (m' - m0) := by
    have := h4.trans a5 h5.1
    rw [show m - m0 + (m' - m) = m' - m0 by omega] at this
    exact this
  refine ⟨T', b', m', a1, a2, by omega, ?_, g2, ⟨h5, (g2.2.2.2 h5).1⟩, h6, h7⟩
  rcases a4 with w | w
  · rw [w]; exact h3
  · right; omega
theorem Px.hc (h : Px T0 b0 m0 ra g s T b m ml cs) (hk : k < 256) (hl : cs.length + 1 ≤ 700) : ∃ T' b' m', D_c_StringBuilder_append214 F 525 (Int32.ofNat k) T = some (some 525, T') ∧ Px T0 b0 m0 ra g s T' b' m' ml (cs ++ [Int32.ofNat k]) := h.step (app_c h.1 h.2.2.2.2.1.2.1 hk (by omega) (by have := h.2.2.1; have := h.2.2.2.2.2.2; omega)) (by rw [List.length_append]; exact hl)
theorem Px.ht (h : Px T0 b0 m0 ra g s T b m ml cs) (ht : 1 ≤ t ∧ t ≤ m_sN) (hl : cs.length + (m_tx t).length ≤ 700) : ∃ T' b' m', D_c_StringBuilder_append F 525 t T = some (some 525, T') ∧ Px T0 b0 m0 ra g s T' b' m' ml (cs ++ m_tx t) := h.step (app_t h.1 h.2.2.2.2.1.2.1 ht (by omega) (by have := h.2.2.1; have := h.2.2.2.2.2.2; omega)) (by rw [List.length_append]; exact hl)
theorem dg_len (hk : k < 1000000) : (dg (Int32.ofNat k)).length ≤ 6 := by
  have dk : dg (Int32.ofNat k) = dgF 10 k := by unfold dg; rw [m_n_cl (by omega)]
  rw [dk]
  have q : ∀ i, 1 ≤ i → i ≤ 6 → k < 10 ^ i → (i = 1 ∨ 10 ^ (i - 1) ≤ k) → (dgF 10 k).length ≤ 6 := fun i i1 i2 i3 i4 => by
    have := dgF_len 10 i k (by omega) i1 i3 i4
    omega
  by_cases w1 : k < 10
  · exact q 1 (by decide) (by decide) w1 (Or.inl rfl)
  · by_cases w2 : k < 100
    · exact q 2 (by decide) (by decide) w2 (Or.inr (by show 10 ≤ k; omega))
    · by_cases w3 : k < 1000
      · exact q 3 (by decide) (by decide) w3 (Or.inr (by show 100 ≤ k; omega))
      · by_cases w4 : k < 10000
        · exact q 4 (by decide) (by decide) w4 (Or.inr (by show 1000 ≤ k; omega))
        · by_cases w5 : k < 100000
          · exact q 5 (by decide) (by decide) w5 (Or.inr (by show 10000 ≤ k; omega))
          · exact q 6 (by decide) (by decide) hk (Or.inr (by show 100000 ≤ k; omega))
theorem Px.hn (h : Px T0 b0 m0 ra g s T b m ml cs) (hk : k < 1000000) (hl : cs.length + 6 ≤ 700) (hF : 20 < F) : ∃ T' b' m', D_c_StringBuilder_append184 F 525 (Int32.ofNat k) T = some (some 525, T') ∧ Px T0 b0 m0 ra g s T' b' m' ml (cs ++ dg (Int32.ofNat k)) := h.step (app_n h.1 h.2.2.2.2.1.2.1 hk (by omega) (by have := h.2.2.1; have := h.2.2.2.2.2.2; omega) hF) (by rw [List.length_append]; have := dg_len hk; omega)
theorem Rn.of (h : Px T0 b0 m0 ra g s T b m ml cs) (e : cs = ds) : Rn T0 b0 m0 ra g s ml ds (some T) := ⟨T, b, m, rfl, h.cast e⟩
def t277 (g : Nat → Int32) : List Int32 := sC "length: " ++ dg (g 10) ++ sC "\n"
def t257 (g : Nat → Int32) : List Int32 := if g 1 = 200 ∨ g 1 = 206 then t277 g else []
def t228 (g : Nat → Int32) : List Int32 := (if g 1 = 416 then sC "content-range: bytes */" ++ dg (g 8) ++ sC "\n" else []) ++ t257 g
def t166 (g : Nat → Int32) : List Int32 := (if g 1 = 206 then sC "content-range: bytes " ++ dg (g 9) ++ sC "-" ++ dg ((g 9 + g 10) - 1) ++ sC "/" ++ dg (g 8) ++ sC "\n" else []) ++ t228 g
def tVary (g : Nat → Int32) : List Int32 := if g 5 = 0 then [] else sC "vary: " ++ (if g 5 &&& 1 = 0 then [] else sC "accept-language") ++ (if g 5 = 3 then sC ", " else []) ++ (if g 5 &&& 2 = 0 then [] else sC "accept-encoding") ++ sC "\n"
theorem r277 (h : Px T0 b0 m0 ra g s T b m ml cs) (ok : okG g) (hl : cs.length ≤ 600) (hF : 20 < F) : Rn T0 b0 m0 ra g s ml (cs ++ t277 g) (D_c_Reply_renderLines_277 F ra (some 525) T) := by
  obtain ⟨⟨st, st1, st2⟩, fl, ⟨tg, tg1, tg2⟩, f5, f6, ⟨ln, ln1, ln2⟩, fr, cn, fr1, cn1, fr2, cn2, cn3⟩ := ok
  have d1 := dg_len (show cn < 1000000 by omega)
  obtain ⟨T1, b1, m1, e1, P1⟩ := h.ht (F := F) (t := 45) (by decide) (by rw [tx45]; show cs.length + 8 ≤ 700; omega)
  have l1 : (cs ++ m_tx 45).length = cs.length + 8 := by rw [List.length_append, tx45]; rfl
  obtain ⟨T2, b2, m2, e2, P2⟩ := P1.hn (F := F) (k := cn) (by omega) (by omega) hF
  obtain ⟨T3, b3, m3, e3, P3⟩ := P2.hc (F := F) (k := 10) (by decide) (by rw [List.length_append]; omega)
  have e3' : D_c_StringBuilder_append214 F 525 (10 : Int32) T2 = some (some 525, T3) := e3
  unfold D_c_Reply_renderLines_277
  simp only [Option.bind_some, h.tc, e1, bd2, Rg10 P1.rep, cn2, P1.tc, e2, P2.tc, e3']
  refine Rn.of P3 ?_
  rw [tx45, t277, cn2, txNL, List.append_assoc, List.append_assoc, List.append_assoc]
theorem r257 (h : Px T0 b0 m0 ra g s T b m ml cs) (ok : okG g) (hl : cs.length ≤ 600) (hF : 20 < F) : Rn T0 b0 m0 ra g s ml (cs ++ t257 g) (D_c_Reply_renderLines_257 F ra (some 525) T) := by
  unfold D_c_Reply_renderLines_257 t257
  simp only [Rg1 h.rep, Option.bind_some]
  by_cases w1 : g 1 = 200
  · rw [show m_c2 .eq (g 1) (200 : Int32) = true from decide_eq_true w1, cond_true, if_pos (Or.inl w1)]
    exact r277 h ok hl hF
  · rw [show m_c2 .eq (g 1) (200 : Int32) = false from decide_eq_false w1, cond_false]
    by_cases w2 : g 1 = 206
    · rw [show m_c2 .ne (g 1) (206 : Int32) = false from decide_eq_false (fun q => q w2), cond_false, if_pos (Or.inr w2)]
      exact r277 h ok hl hF
    · rw [show m_c2 .ne (g 1) (206 : Int32) = true from decide_eq_true w2, cond_true, if_neg (fun q => by rcases q with q | q; exact w1 q; exact w2 q)]
      exact Rn.of h (List.append_nil _).symm
theorem r228 (h : Px T0 b0 m0 ra g s T b m ml cs) (ok : okG g) (hl : cs.length ≤ 550) (hF : 20 < F) : Rn T0 b0 m0 ra g s ml (cs ++ t228 g) (D_c_Reply_renderLines_228 F ra (some 525) T) := by
  unfold D_c_Reply_renderLines_228 t228
  simp only [Rg1 h.rep, Option.bind_some]
  by_cases w1 : g 1 = 416
  · obtain ⟨⟨st, st1, st2⟩, fl, ⟨tg, tg1, tg2⟩, f5, f6, ⟨ln, ln1, ln2⟩, fr, cn, fr1, cn1, fr2, cn2, cn3⟩ := id ok
    have d1 := dg_len (show ln < 1000000 by omega)
    obtain ⟨T1, b1, m1, e1, P1⟩ := h.ht (F := F) (t := 44) (by decide) (by rw [tx44]; show cs.length + 23 ≤ 700; omega)
    have l1 : (cs ++ m_tx 44).length = cs.length + 23 := by rw [List.length_append, tx44]; rfl
    obtain ⟨T2, b2, m2, e2, P2⟩ := P1.hn (F := F) (k := ln) (by omega) (by omega) hF
    obtain ⟨T3, b3, m3, e3, P3⟩ := P2.hc (F := F) (k := 10) (by decide) (by rw [List.length_append]; omega)
    have e3' : D_c_StringBuilder_append214 F 525 (10 : Int32) T2 = some (some 525, T3) := e3
    rw [show m_c2 .ne (g 1) (416 : Int32) = false from decide_eq_false (fun q => q w1), cond_false, if_pos w1]
    simp only [Option.bind_some, h.tc, e1, bd2, Rg8 P1.rep, ln2, P1.tc, e2, P2.tc, e3']
    have := r257 (F := F) P3 ok (by rw [List.length_append, List.length_append]; show (cs ++ m_tx 44).length + (dg (Int32.ofNat ln)).length + 1 ≤ 600; omega) hF
    rw [tx44, ← txNL] at this
    rw [show cs ++ (sC "content-range: bytes */" ++ dg (Int32.ofNat ln) ++ sC "\n" ++ t257 g) = cs ++ sC "content-range: bytes */" ++ dg (Int32.ofNat ln) ++ sC "\n" ++ t257 g by simp only [List.append_assoc]]
    exact this
  · rw [show m_c2 .ne (g 1) (416 : Int32) = true from decide_eq_true w1, cond_true, if_neg w1, List.nil_append]
    exact r257 h ok (by omega) hF
theorem r166 (h : Px T0 b0 m0 ra g s T b m ml cs) (ok : okG g) (hl : cs.length ≤ 450) (hF : 20 < F) : Rn T0 b0 m0 ra g s ml (cs ++ t166 g) (D_c_Reply_renderLines_166 F ra (some 525) T) := by
  unfold D_c_Reply_renderLines_166 t166
  simp only [Rg1 h.rep, Option.bind_some]
  by_cases w1 : g 1 = 206
  · obtain ⟨⟨st, st1, st2⟩, fl, ⟨tg, tg1, tg2⟩, f5, f6, ⟨ln, ln1, ln2⟩, fr, cn, fr1, cn1, fr2, cn2, cn3⟩ := id ok
    have c1 := cn3 w1
    have d1 := dg_len (show ln < 1000000 by omega)
    have d2 := dg_len (show fr < 1000000 by omega)
    have d3 := dg_len (show fr + cn - 1 < 1000000 by omega)
    have eN : (Int32.ofNat fr + Int32.ofNat cn) - (1 : Int32) = Int32.ofNat (fr + cn - 1) := by
      rw [m_n_add]
      exact m_n_sub (b := 1) (by omega)
    obtain ⟨T1, b1, m1, e1, P1⟩ := h.ht (F := F) (t := 43) (by decide) (by rw [tx43]; show cs.length + 21 ≤ 700; omega)
    have l1 : (cs ++ m_tx 43).length = cs.length + 21 := by rw [List.length_append, tx43]; rfl
    obtain ⟨T2, b2, m2, e2, P2⟩ := P1.hn (F := F) (k := fr) (by omega) (by omega) hF
    have l2 : (cs ++ m_tx 43 ++ dg (Int32.ofNat fr)).length ≤ cs.length + 27 := by rw [List.length_append]; omega
    obtain ⟨T3, b3, m3, e3, P3⟩ := P2.hc (F := F) (k := 45) (by decide) (by omega)
    have l3 : (cs ++ m_tx 43 ++ dg (Int32.ofNat fr) ++ [Int32.ofNat 45]).length ≤ cs.length + 28 := by rw [List.length_append]; show (cs ++ m_tx 43 ++ dg (Int32.ofNat fr)).length + 1 ≤ _; omega
    obtain ⟨T4, b4, m4, e4, P4⟩ := P3.hn (F := F) (k := fr + cn - 1) (by omega) (by omega) hF
    have l4 : (cs ++ m_tx 43 ++ dg (Int32.ofNat fr) ++ [Int32.ofNat 45] ++ dg (Int32.ofNat (fr + cn - 1))).length ≤ cs.length + 34 := by rw [List.length_append]; omega
    obtain ⟨T5, b5, m5, e5, P5⟩ := P4.hc (F := F) (k := 47) (by decide) (by omega)
    have l5 : (cs ++ m_tx 43 ++ dg (Int32.ofNat fr) ++ [Int32.ofNat 45] ++ dg (Int32.ofNat (fr + cn - 1)) ++ [Int32.ofNat 47]).length ≤ cs.length + 35 := by rw [List.length_append]; show (cs ++ m_tx 43 ++ dg (Int32.ofNat fr) ++ [Int32.ofNat 45] ++ dg (Int32.ofNat (fr + cn - 1))).length + 1 ≤ _; omega
    obtain ⟨T6, b6, m6, e6, P6⟩ := P5.hn (F := F) (k := ln) (by omega) (by omega) hF
    have l6 : (cs ++ m_tx 43 ++ dg (Int32.ofNat fr) ++ [Int32.ofNat 45] ++ dg (Int32.ofNat (fr + cn - 1)) ++ [Int32.ofNat 47] ++ dg (Int32.ofNat ln)).length ≤ cs.length + 41 := by rw [List.length_append]; omega
    obtain ⟨T7, b7, m7, e7, P7⟩ := P6.hc (F := F) (k := 10) (by decide) (by omega)
    have e3' : D_c_StringBuilder_append214 F 525 (45 : Int32) T2 = some (some 525, T3) := e3
    have e5' : D_c_StringBuilder_append214 F 525 (47 : Int32) T4 = some (some 525, T5) := e5
    have e7' : D_c_StringBuilder_append214 F 525 (10 : Int32) T6 = some (some 525, T7) := e7
    rw [show m_c2 .ne (g 1) (206 : Int32) = false from decide_eq_false (fun q => q w1), cond_false, if_pos w1]
    simp only [Option.bind_some, h.tc, e1, bd2, Rg9 P1.rep, fr2, P1.tc, e2, P2.tc, e3', Rg9 P3.rep, Rg10 P3.rep, cn2, eN, P3.tc, e4, P4.tc, e5', Rg8 P5.rep, ln2, P5.tc, e6, P6.tc, e7']
    have := r228 (F := F) P7 ok (by rw [List.length_append]; show (cs ++ m_tx 43 ++ dg (Int32.ofNat fr) ++ [Int32.ofNat 45] ++ dg (Int32.ofNat (fr + cn - 1)) ++ [Int32.ofNat 47] ++ dg (Int32.ofNat ln)).length + 1 ≤ 550; omega) hF
    rw [tx43, ← txNL, ← txMI, ← txSL] at this
    rw [show cs ++ (sC "content-range: bytes " ++ dg (Int32.ofNat fr) ++ sC "-" ++ dg (Int32.ofNat (fr + cn - 1)) ++ sC "/" ++ dg (Int32.ofNat ln) ++ sC "\n" ++ t228 g) = cs ++ sC "content-range: bytes " ++ dg (Int32.ofNat fr) ++ sC "-" ++ dg (Int32.ofNat (fr + cn - 1)) ++ sC "/" ++ dg (Int32.ofNat ln) ++ sC "\n" ++ t228 g by simp only [List.append_assoc]]
    exact this
  · rw [show m_c2 .ne (g 1) (206 : Int32) = true from decide_eq_true w1, cond_true, if_neg w1, List.nil_append]
    exact r228 h ok (by omega) hF
theorem r157 (h : Px T0 b0 m0 ra g s T b m ml cs) (ok : okG g) (ht : 1 ≤ t ∧ t ≤ m_sN) (ht2 : (m_tx t).length ≤ 20) (hl : cs.length ≤ 400) (hF : 20 < F) : Rn T0 b0 m0 ra g s ml (cs ++ m_tx t ++ sC "\n" ++ t166 g) (D_c_Reply_renderLines_157 F ra (some 525) t (some 525) T) := by
  obtain ⟨T1, b1, m1, e1, P1⟩ := h.ht (F := F) ht (by omega)
  have l1 : (cs ++ m_tx t).length ≤ cs.length + 20 := by rw [List.length_append]; omega
  obtain ⟨T2, b2, m2, e2, P2⟩ := P1.hc (F := F) (k := 10) (by decide) (by omega)
  have e2' : D_c_StringBuilder_append214 F 525 (10 : Int32) T1 = some (some 525, T2) := e2
  unfold D_c_Reply_renderLines_157
  simp only [Option.bind_some, h.tc, e1, bd2, P1.tc, e2']
  rw [txNL]
  exact r166 P2 ok (by rw [List.length_append]; show (cs ++ m_tx t).length + 1 ≤ 450; omega) hF
theorem r138 (h : Px T0 b0 m0 ra g s T b m ml cs) (ok : okG g) (ht : 1 ≤ t ∧ t ≤ m_sN) (ht2 : (m_tx t).length ≤ 20) (hl : cs.length ≤ 380) (hF : 20 < F) : Rn T0 b0 m0 ra g s ml (cs ++ m_tx t ++ (if g 5 &&& 2 = 0 then [] else sC "accept-encoding") ++ sC "\n" ++ t166 g) (D_c_Reply_renderLines_138 F ra (some 525) t (some 525) T) := by
  obtain ⟨T1, b1, m1, e1, P1⟩ := h.ht (F := F) ht (by omega)
  have l1 : (cs ++ m_tx t).length ≤ cs.length + 20 := by rw [List.length_append]; omega
  unfold D_c_Reply_renderLines_138
  simp only [Option.bind_some, h.tc, e1, bd2, Rg5 P1.rep]
  by_cases w : g 5 &&& 2 = 0
  · rw [show m_c1 .eq (g 5 &&& (2 : Int32)) = true from decide_eq_true w, cond_true, if_pos w]
    have := r157 (F := F) (t := 31) P1 ok (by decide) (by decide +kernel) (by omega) hF
    rw [tx31] at this
    exact this
  · rw [show m_c1 .eq (g 5 &&& (2 : Int32)) = false from decide_eq_false w, cond_false, if_neg w]
    have := r157 (F := F) (t := 42) P1 ok (by decide) (by decide +kernel) (by omega) hF
    rw [tx42] at this
    exact this
theorem r118 (h : Px T0 b0 m0 ra g s T b m ml cs) (ok : okG g) (ht : 1 ≤ t ∧ t ≤ m_sN) (ht2 : (m_tx t).length ≤ 20) (hl : cs.length ≤ 360) (hF : 20 < F) : Rn T0 b0 m0 ra g s ml (cs ++ m_tx t ++ (if g 5 = 3 then sC ", " else []) ++ (if g 5 &&& 2 = 0 then [] else sC "accept-encoding") ++ sC "\n" ++ t166 g) (D_c_Reply_renderLines_118 F ra (some 525) t (some 525) T) := by
  obtain ⟨T1, b1, m1, e1, P1⟩ := h.ht (F := F) ht (by omega)
  have l1 : (cs ++ m_tx t).length ≤ cs.length + 20 := by rw [List.length_append]; omega
  unfold D_c_Reply_renderLines_118
  simp only [Option.bind_some, h.tc, e1, bd2, Rg5 P1.rep]
  by_cases w : g 5 = 3
  · rw [show m_c2 .ne (g 5) (3 : Int32) = false from decide_eq_false (fun q => q w), cond_false, if_pos w]
    have := r138 (F := F) (t := 41) P1 ok (by decide) (by decide +kernel) (by omega) hF
    rw [tx41] at this
    exact this
  · rw [show m_c2 .ne (g 5) (3 : Int32) = true from decide_eq_true w, cond_true, if_neg w]
    have := r138 (F := F) (t := 31) P1 ok (by decide) (by decide +kernel) (by omega) hF
    rw [tx31] at this
    exact this
theorem r80 (h : Px T0 b0 m0 ra g s T b m ml cs) (ok : okG g) (ht : 1 ≤ t ∧ t ≤ m_sN) (ht2 : (m_tx t).length ≤ 20) (hl : cs.length ≤ 320) (hF : 20 < F) : Rn T0 b0 m0 ra g s ml (cs ++ m_tx t ++ sC "\n" ++ tVary g ++ t166 g) (D_c_Reply_renderLines_80 F ra (some 525) t (some 525) T) := by
  obtain ⟨T1, b1, m1, e1, P1⟩ := h.ht (F := F) ht (by omega)
  have l1 : (cs ++ m_tx t).length ≤ cs.length + 20 := by rw [List.length_append]; omega
  obtain ⟨T2, b2, m2, e2, P2⟩ := P1.hc (F := F) (k := 10) (by decide) (by omega)
  have e2' : D_c_StringBuilder_append214 F 525 (10 : Int32) T1 = some (some 525, T2) := e2
  have l2 : (cs ++ m_tx t ++ [Int32.ofNat 10]).length ≤ cs.length + 21 := by rw [List.length_append]; show (cs ++ m_tx t).length + 1 ≤ _; omega
  unfold D_c_Reply_renderLines_80 tVary
  simp only [Option.bind_some, h.tc, e1, bd2, P1.tc, e2', Rg5 P2.rep]
  rw [txNL]
  by_cases w : g 5 = 0
  · rw [show m_c1 .eq (g 5) = true from decide_eq_true w, cond_true, if_pos w, List.append_nil]
    exact r166 P2 ok (by omega) hF
  · obtain ⟨T3, b3, m3, e3, P3⟩ := P2.ht (F := F) (t := 39) (by decide) (by rw [tx39]; show (cs ++ m_tx t ++ [Int32.ofNat 10]).length + 6 ≤ 700; omega)
    have l3 : (cs ++ m_tx t ++ [Int32.ofNat 10] ++ m_tx 39).length ≤ cs.length + 27 := by rw [List.length_append, tx39]; show (cs ++ m_tx t ++ [Int32.ofNat 10]).length + 6 ≤ _; omega
    rw [show m_c1 .eq (g 5) = false from decide_eq_false w, cond_false, if_neg w]
    simp only [P2.tc, Option.bind_some, e3, bd2, Rg5 P3.rep]
    by_cases w1 : g 5 &&& 1 = 0
    · rw [show m_c1 .eq (g 5 &&& (1 : Int32)) = true from decide_eq_true w1, cond_true, if_pos w1]
      have := r118 (F := F) (t := 31) P3 ok (by decide) (by decide +kernel) (by omega) hF
      rw [tx31, tx39, txNL] at this
      rw [show cs ++ m_tx t ++ [Int32.ofNat 10] ++ (sC "vary: " ++ [] ++ (if g 5 = 3 then sC ", " else []) ++ (if g 5 &&& 2 = 0 then [] else sC "accept-encoding") ++ [Int32.ofNat 10]) ++ t166 g = cs ++ m_tx t ++ [Int32.ofNat 10] ++ sC "vary: " ++ [] ++ (if g 5 = 3 then sC ", " else []) ++ (if g 5 &&& 2 = 0 then [] else sC "accept-encoding") ++ [Int32.ofNat 10] ++ t166 g by simp only [List.append_assoc]]
      exact this
    · rw [show m_c1 .eq (g 5 &&& (1 : Int32)) = false from decide_eq_false w1, cond_false, if_neg w1]
      have := r118 (F := F) (t := 40) P3 ok (by decide) (by decide +kernel) (by omega) hF
      rw [tx40, tx39, txNL] at this
      rw [show cs ++ m_tx t ++ [Int32.ofNat 10] ++ (sC "vary: " ++ sC "accept-language" ++ (if g 5 = 3 then sC ", " else []) ++ (if g 5 &&& 2 = 0 then [] else sC "accept-encoding") ++ [Int32.ofNat 10]) ++ t166 g = cs ++ m_tx t ++ [Int32.ofNat 10] ++ sC "vary: " ++ sC "accept-language" ++ (if g 5 = 3 then sC ", " else []) ++ (if g 5 &&& 2 = 0 then [] else sC "accept-encoding") ++ [Int32.ofNat 10] ++ t166 g by simp only [List.append_assoc]]
      exact this
end
