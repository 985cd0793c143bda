/-! The reference writes an answer. -/
theorem tx81 : m_tx 81 = sC "\n" := by decide +kernel
theorem txSo : m_tx 82 = sC " " ++ sC "OK" ++ sC "\n" ∧ m_tx 83 = sC " " ++ sC "Partial Content" ++ sC "\n" ∧ m_tx 84 = sC " " ++ sC "Not Modified" ++ sC "\n" ∧ m_tx 85 = sC " " ++ sC "Bad Request" ++ sC "\n" ∧ m_tx 86 = sC " " ++ sC "Not Found" ++ sC "\n" ∧ m_tx 87 = sC " " ++ sC "Range Not Satisfiable" ++ sC "\n" ∧ m_tx 88 = sC " " ++ sC "Bad Gateway" ++ sC "\n" ∧ m_tx 89 = sC " " ++ sC "Service Unavailable" ++ sC "\n" ∧ m_tx 90 = sC " " ++ sC "Gateway Timeout" ++ sC "\n" := by decide +kernel
theorem tx91 : m_tx 91 = sC "etag: \"" := by decide +kernel
theorem tx92 : m_tx 92 = sC "\"\n" := by decide +kernel
theorem tx93 : m_tx 93 = sC "age: " := by decide +kernel
theorem tx94 : m_tx 94 = sC "cache: " ++ sC "hit" ++ sC "\n" := by decide +kernel
theorem tx95 : m_tx 95 = sC "cache: " ++ sC "stale" ++ sC "\n" := by decide +kernel
theorem tx96 : m_tx 96 = sC "cache: " ++ sC "miss" ++ sC "\n" := by decide +kernel
theorem tx97 : m_tx 97 = sC "vary: " ++ sC "accept-language" ++ [] ++ [] ++ sC "\n" := by decide +kernel
theorem tx98 : m_tx 98 = sC "vary: " ++ [] ++ [] ++ sC "accept-encoding" ++ sC "\n" := by decide +kernel
theorem tx99 : m_tx 99 = sC "vary: " ++ sC "accept-language" ++ sC ", " ++ sC "accept-encoding" ++ sC "\n" := by decide +kernel
theorem tx100 : m_tx 100 = sC "content-range: bytes " := by decide +kernel
theorem tx101 : m_tx 101 = sC "-" := by decide +kernel
theorem tx102 : m_tx 102 = sC "/" := by decide +kernel
theorem tx103 : m_tx 103 = sC "content-range: bytes */" := by decide +kernel
theorem tx104 : m_tx 104 = sC "length: " := by decide +kernel
/-- one step of writing -/
def Wn (S : mS) (cs : List Int32) (o : Option mS) : Prop := ∃ S', o = some S' ∧ Wt S' cs ∧ Sy S S'
section
variable {S S' : mS} {F r t k : Nat} {g : Nat → Int32} {cs ds : List Int32}
theorem Wn.of (h : Wt S cs) (e : cs = ds) : Wn S ds (some S) := ⟨S, rfl, e ▸ h, Sy.refl⟩
theorem Wn.cast {o : Option mS} (h : Wn S cs o) (e : cs = ds) : Wn S ds o := e ▸ h
theorem Wn.pre {o : Option mS} (hs : Sy S S') (h : Wn S' cs o) : Wn S cs o := by
  obtain ⟨S9, a, b, c⟩ := h
  exact ⟨S9, a, b, hs.trans c⟩
theorem say_line (h : Wt S cs) (ht : 1 ≤ t ∧ t ≤ m_sN) (hk : k < 1000000) (hl : cs.length + (m_tx t).length + 7 ≤ 700) (hF : 1000 ≤ F) : Wn S (cs ++ m_tx t ++ dg (Int32.ofNat k) ++ sC "\n") (D_m_sayLine F t (Int32.ofNat k) S) := by
  obtain ⟨S1, e1, w1, s1⟩ := say_t (F := F) h ht (by omega) hF
  have d1 := dg_len hk
  obtain ⟨S2, e2, w2, s2⟩ := say_n (F := F) w1 hk (by rw [List.length_append]; omega) (by omega)
  obtain ⟨S3, e3, w3, s3⟩ := say_t (F := F) (t := 81) w2 (by decide) (by rw [tx81, List.length_append, List.length_append]; show cs.length + (m_tx t).length + (dg (Int32.ofNat k)).length + 1 ≤ 700; omega) hF
  rw [tx81] at w3
  refine ⟨S3, ?_, w3, (s1.trans s2).trans s3⟩
  unfold D_m_sayLine
  rw [e1, Option.bind_some, e2, Option.bind_some, e3]
  rfl
theorem w377 {fr cn : Nat} (h9 : g 9 = Int32.ofNat fr) (h10 : g 10 = Int32.ofNat cn) (hf : fr < 100000) (hc : cn ≤ 256) : ∀ (j i : Nat) (S : mS) (cs : List Int32), i + j = cn → Av S r g → g 11 = ((31 * rd S 620 (23 * r) + 17 * rd S 620 (23 * r + 1)) + 5 * g 4) + 13 * g 3 → Wt S cs → cs.length + j ≤ 700 → ∀ fu, j < fu → Wn S (cs ++ (List.range' i j).map (byB g)) (D_m_write_377 F fu (Int32.ofNat r) ((9 : Int32) * Int32.ofNat r) (g 9) (Int32.ofNat (fr + i)) S) := by
  intro j
  induction j with
  | zero =>
    intro i S cs hi hA h11 h hl fu hfu
    obtain ⟨fu, rfl⟩ : ∃ y, fu = y + 1 := ⟨fu - 1, by omega⟩
    unfold D_m_write_377
    rw [hA.bytes, Option.bind_some, h9, h10, m_n_add, ge_n (show fr + i < 2147483648 by omega) (show fr + cn < 2147483648 by omega), decide_eq_true (show fr + cn ≤ fr + i by omega), cond_true]
    exact Wn.of h (List.append_nil _).symm
  | succ j ih =>
    intro i S cs hi hA h11 h hl fu hfu
    obtain ⟨fu, rfl⟩ : ∃ y, fu = y + 1 := ⟨fu - 1, by omega⟩
    have a0 : D_m_asks F (Int32.ofNat r) (0 : Int32) S = some (rd S 620 (23 * r)) := asks0 hA.1
    have bi : byB g i = (((((((31 : Int32) * rd S 620 (23 * r)) + ((17 : Int32) * rd S 620 (23 * r + 1))) + ((5 : Int32) * g 4)) + ((13 : Int32) * g 3)) + ((7 : Int32) * Int32.ofNat (fr + i))) + (Int32.ofNat (fr + i) >>> ((4 : Int32) &&& 31))) &&& (255 : Int32) := by
      unfold byB
      rw [h9, m_n_add, h11]
    obtain ⟨S9, s1, s2, s3⟩ := say_1 (v := byB g i) h (by omega)
    have i1 : Int32.ofNat (fr + i) + Int32.ofInt 1 = Int32.ofNat (fr + (i + 1)) := m_n_add _ 1
    have q := ih (i + 1) S9 _ (by omega) (hA.sy s3) (by rw [s3.2 _ _ (by decide), s3.2 _ _ (by decide)]; exact h11) s2 (by rw [List.length_append]; show cs.length + 1 + j ≤ 700; omega) fu (by omega)
    conv => arg 3; unfold D_m_write_377
    rw [hA.bytes, Option.bind_some]
    rw [show m_c2 .ge (Int32.ofNat (fr + i)) (g 9 + g 10) = false from by rw [h9, h10, m_n_add, ge_n (show fr + i < 2147483648 by omega) (show fr + cn < 2147483648 by omega), decide_eq_false (show ¬ fr + cn ≤ fr + i by omega)], cond_false, a0, Option.bind_some, asks1 hA.1, Option.bind_some, hA.g4, Option.bind_some, hA.g3, Option.bind_some, ← bi, s1, i1]
    rw [List.range'_succ, List.map_cons, show cs ++ byB g i :: List.map (byB g) (List.range' (i + 1) j) = cs ++ [byB g i] ++ List.map (byB g) (List.range' (i + 1) j) by simp only [List.append_assoc, List.singleton_append]]
    exact q.pre s3
/-- the end: a line, then the bytes -/
theorem w341 {x6 : Int32} (hA : Av S r g) (h : Wt S cs) (hl : cs.length ≤ 400) (hF : 1000 ≤ F) (h6 : g 1 = 200 ∨ g 1 = 206 → x6 = g 9) : Wn S (cs ++ sC "\n" ++ (if g 2 = 0 then txB g else [])) (D_m_write_341 F (Int32.ofNat r) ((9 : Int32) * Int32.ofNat r) (g 1) x6 S) := by
  obtain ⟨S1, e1, w1, s1⟩ := say_t (F := F) (t := 81) h (by decide) (by rw [tx81]; show cs.length + 1 ≤ 700; omega) hF
  rw [tx81] at w1
  have hA1 := hA.sy s1
  unfold D_m_write_341
  rw [e1, Option.bind_some, asks2 hA.1, Option.bind_some]
  have none : txB g = [] → Wn S (cs ++ sC "\n" ++ (if g 2 = 0 then txB g else [])) (some S1) := fun e => by
    rw [e]
    refine Wn.pre s1 (Wn.of w1 ?_)
    split <;> exact (List.append_nil _).symm
  rcases hA1.ka (F := F) with ⟨b1, b2, b3, b4⟩ | ⟨b0, b1, b2, b3, b4, b4', b5, b6, b7, b8, b9⟩
  · have n2 : ¬ g 1 = 200 := fun q => by rcases b2 with w | w | w | w | w <;> rw [w] at q <;> exact absurd q (by decide)
    have n6 : ¬ g 1 = 206 := fun q => by rcases b2 with w | w | w | w | w <;> rw [w] at q <;> exact absurd q (by decide)
    rw [show m_c2 .eq (g 1) (200 : Int32) = false from decide_eq_false n2, cond_false, show m_c2 .eq (g 1) (206 : Int32) = false from decide_eq_false n6, cond_false]
    have := none (by unfold txB; rw [b3]; rfl)
    cases m_c2 .eq (rd S1 620 (23 * r + 2)) (1 : Int32) with
    | true => exact this
    | false => exact this
  · rw [← b4]
    obtain ⟨_, _, _, _, _, _, fr, cn, f1, c1, f2, c2, c3⟩ := b2
    have eB : txB g = (List.range' 0 cn).map (byB g) := by
      unfold txB
      rw [c2, m_n_cl (by omega), List.range_eq_range']
      rfl
    rcases b4' with z | z
    · rw [show m_c2 .eq (g 2) (1 : Int32) = false from by rw [z]; rfl, cond_false, if_pos z]
      have go : x6 = g 9 → Wn S (cs ++ sC "\n" ++ txB g) (D_m_write_373 F (Int32.ofNat r) ((9 : Int32) * Int32.ofNat r) x6 S1) := fun e => by
        unfold D_m_write_373
        have q := w377 (F := F) f2 c2 f1 c1 cn 0 S1 _ (by omega) hA1 b6 w1 (by rw [List.length_append]; show cs.length + 1 + cn ≤ 700; omega) F (by omega)
        rw [e, eB]
        have q' := q.pre s1
        rw [Nat.add_zero, ← f2] at q'
        exact q'
      by_cases n2 : g 1 = 200
      · rw [show m_c2 .eq (g 1) (200 : Int32) = true from decide_eq_true n2, cond_true]
        exact go (h6 (Or.inl n2))
      · rw [show m_c2 .eq (g 1) (200 : Int32) = false from decide_eq_false n2, cond_false]
        by_cases n6 : g 1 = 206
        · rw [show m_c2 .eq (g 1) (206 : Int32) = true from decide_eq_true n6, cond_true]
          exact go (h6 (Or.inr n6))
        · rw [show m_c2 .eq (g 1) (206 : Int32) = false from decide_eq_false n6, cond_false]
          have := none (by unfold txB; rw [b8 n2 n6]; rfl)
          rw [if_pos z] at this
          exact this
    · rw [show m_c2 .eq (g 2) (1 : Int32) = true from decide_eq_true z, cond_true, if_neg (by rw [z]; decide)]
      refine Wn.pre s1 (Wn.of w1 (List.append_nil _).symm)
theorem w315 {x6 : Int32} (hA : Av S r g) (hg : okG g) (h : Wt S cs) (hl : cs.length ≤ 380) (hF : 1000 ≤ F) (h6 : g 1 = 200 ∨ g 1 = 206 → x6 = g 9) : Wn S (cs ++ t257 g ++ sC "\n" ++ (if g 2 = 0 then txB g else [])) (D_m_write_315 F (Int32.ofNat r) ((9 : Int32) * Int32.ofNat r) (g 1) x6 S) := by
  have go : (g 1 = 200 ∨ g 1 = 206) → Wn S (cs ++ t257 g ++ sC "\n" ++ (if g 2 = 0 then txB g else [])) (D_m_write_329 F (Int32.ofNat r) ((9 : Int32) * Int32.ofNat r) (g 1) x6 S) := fun e => by
    obtain ⟨_, _, _, _, _, _, fr, cn, f1, c1, f2, c2, c3⟩ := hg
    unfold D_m_write_329 t257 t277
    rw [hA.bytes, Option.bind_some, if_pos e]
    obtain ⟨S1, e1, w1, s1⟩ := say_line (F := F) (t := 104) (k := cn) h (by decide) (by omega) (by rw [tx104]; show cs.length + 8 + 7 ≤ 700; omega) hF
    have d1 := dg_len (show cn < 1000000 by omega)
    rw [tx104] at w1
    rw [c2, e1, Option.bind_some]
    refine Wn.cast (Wn.pre s1 (w341 (hA.sy s1) w1 (by rw [List.length_append, List.length_append, List.length_append]; show cs.length + 8 + _ + 1 ≤ 400; omega) hF h6)) ?_
    simp only [List.append_assoc]
  unfold D_m_write_315
  by_cases n2 : g 1 = 200
  · rw [show m_c2 .eq (g 1) (200 : Int32) = true from decide_eq_true n2, cond_true]
    exact go (Or.inl n2)
  · rw [show m_c2 .eq (g 1) (200 : Int32) = false from decide_eq_false n2, cond_false]
    by_cases n6 : g 1 = 206
    · rw [show m_c2 .ne (g 1) (206 : Int32) = false from decide_eq_false (fun q => q n6), cond_false]
      exact go (Or.inr n6)
    · rw [show m_c2 .ne (g 1) (206 : Int32) = true from decide_eq_true n6, cond_true, show t257 g = [] from by unfold t257; rw [if_neg (fun q => by rcases q with q | q; exact n2 q; exact n6 q)], List.append_nil]
      exact w341 hA h (by omega) hF h6
theorem w299 {x6 : Int32} (hA : Av S r g) (hg : okG g) (h : Wt S cs) (hl : cs.length ≤ 340) (hF : 1000 ≤ F) (h6 : g 1 = 200 ∨ g 1 = 206 → x6 = g 9) : Wn S (cs ++ t228 g ++ sC "\n" ++ (if g 2 = 0 then txB g else [])) (D_m_write_299 F (Int32.ofNat r) ((9 : Int32) * Int32.ofNat r) (g 1) (g 8) x6 S) := by
  unfold D_m_write_299 t228
  by_cases n4 : g 1 = 416
  · rw [show m_c2 .ne (g 1) (416 : Int32) = false from decide_eq_false (fun q => q n4), cond_false, if_pos n4]
    obtain ⟨_, _, _, _, _, ⟨ln, ln1, ln2⟩, _⟩ := id hg
    obtain ⟨S1, e1, w1, s1⟩ := say_line (F := F) (t := 103) (k := ln) h (by decide) (by omega) (by rw [tx103]; show cs.length + 23 + 7 ≤ 700; omega) hF
    have d1 := dg_len (show ln < 1000000 by omega)
    rw [tx103] at w1
    rw [ln2, e1, Option.bind_some]
    refine Wn.cast (Wn.pre s1 (w315 (hA.sy s1) hg w1 (by rw [List.length_append, List.length_append, List.length_append]; show cs.length + 23 + _ + 1 ≤ 380; omega) hF h6)) ?_
    simp only [List.append_assoc]
  · rw [show m_c2 .ne (g 1) (416 : Int32) = true from decide_eq_true n4, cond_true, if_neg n4, List.nil_append]
    exact w315 hA hg h (by omega) hF h6
theorem w220 (hA : Av S r g) (h3 : ¬ g 3 = 0) (h : Wt S cs) (hl : cs.length ≤ 280) (hF : 1000 ≤ F) : Wn S (cs ++ t166 g ++ sC "\n" ++ (if g 2 = 0 then txB g else [])) (D_m_write_220 F (Int32.ofNat r) ((9 : Int32) * Int32.ofNat r) (g 1) (g 8) S) := by
  rcases hA.ka (F := F) with ⟨b1, b2, b3, b4⟩ | ⟨b0, b1, b2, b3, b4, b4', b5, b6, b7, b8, b9⟩
  · exact absurd b1 h3
  unfold D_m_write_220 t166
  by_cases n6 : g 1 = 206
  · obtain ⟨q1', q2', q3'⟩ := b9 n6
    obtain ⟨_, _, _, _, _, ⟨ln, ln1, ln2⟩, fr, cn, f1, c1, f2, c2, c3⟩ := id b2
    have c1' := c3 n6
    have eN : (g 9 + g 10) - (1 : Int32) = Int32.ofNat (fr + cn - 1) := by
      rw [f2, c2, m_n_add]
      exact m_n_sub (b := 1) (by omega)
    have d1 := dg_len (show ln < 1000000 by omega)
    have d2 := dg_len (show fr < 1000000 by omega)
    have d3 := dg_len (show fr + cn - 1 < 1000000 by omega)
    obtain ⟨S1, e1, w1, s1⟩ := say_t (F := F) (t := 100) h (by decide) (by rw [tx100]; show cs.length + 21 ≤ 700; omega) hF
    have l1 : (cs ++ m_tx 100).length = cs.length + 21 := by rw [List.length_append, tx100]; rfl
    obtain ⟨S2, e2, w2, s2⟩ := say_n (F := F) w1 (show fr < 1000000 by omega) (by omega) (by omega)
    have l2 : (cs ++ m_tx 100 ++ dg (Int32.ofNat fr)).length ≤ cs.length + 27 := by rw [List.length_append]; omega
    obtain ⟨S3, e3, w3, s3⟩ := say_t (F := F) (t := 101) w2 (by decide) (by rw [tx101]; show (cs ++ m_tx 100 ++ dg (Int32.ofNat fr)).length + 1 ≤ 700; omega) hF
    have l3 : (cs ++ m_tx 100 ++ dg (Int32.ofNat fr) ++ m_tx 101).length ≤ cs.length + 28 := by rw [List.length_append, tx101]; show (cs ++ m_tx 100 ++ dg (Int32.ofNat fr)).length + 1 ≤ _; omega
    have t3 := (s1.trans s2).trans s3
    have hA3 := hA.sy t3
    have en3 : D_m_endByte F (Int32.ofNat r) (g 8) (8 * g 3 + g 4) S3 = some (g 9 + g 10) := by
      rcases hA3.ka (F := F) with ⟨y1, _⟩ | ⟨_, _, _, _, _, _, _, _, _, _, y9⟩
      · exact absurd y1 h3
      · exact (y9 n6).2.1
    obtain ⟨S4, e4, w4, s4⟩ := say_n (F := F) w3 (show fr + cn - 1 < 1000000 by omega) (by omega) (by omega)
    have l4 : (cs ++ m_tx 100 ++ dg (Int32.ofNat fr) ++ m_tx 101 ++ dg (Int32.ofNat (fr + cn - 1))).length ≤ cs.length + 34 := by rw [List.length_append]; omega
    obtain ⟨S5, e5, w5, s5⟩ := say_line (F := F) (t := 102) (k := ln) w4 (by decide) (by omega) (by rw [tx102]; show (cs ++ m_tx 100 ++ dg (Int32.ofNat fr) ++ m_tx 101 ++ dg (Int32.ofNat (fr + cn - 1))).length + 1 + 7 ≤ 700; omega) hF
    have t5 := (t3.trans s4).trans s5
    have e4' : D_m_sayNumber F ((g 9 + g 10) - (1 : Int32)) S3 = some S4 := by rw [eN]; exact e4
    have e2' : D_m_sayNumber F (g 9) S1 = some S2 := by rw [f2]; exact e2
    have e5' : D_m_sayLine F 102 (g 8) S4 = some S5 := by rw [ln2]; exact e5
    rw [show m_c2 .ne (g 1) (206 : Int32) = false from decide_eq_false (fun q => q n6), cond_false, hA.tag, Option.bind_some, q1', Option.bind_some, Option.bind_some, cond_false, e1, Option.bind_some, e2', Option.bind_some, e3, Option.bind_some, hA3.tag, Option.bind_some, en3, Option.bind_some, e4', Option.bind_some, e5', Option.bind_some, if_pos n6]
    refine Wn.cast (Wn.pre t5 (w299 (hA.sy t5) b2 w5 (by rw [List.length_append, List.length_append, List.length_append, tx102]; show (cs ++ m_tx 100 ++ dg (Int32.ofNat fr) ++ m_tx 101 ++ dg (Int32.ofNat (fr + cn - 1))).length + 1 + _ + 1 ≤ 340; omega) hF (fun _ => rfl))) ?_
    rw [tx100, tx101, tx102, eN, f2, ln2]
    simp only [List.append_assoc]
  · rw [show m_c2 .ne (g 1) (206 : Int32) = true from decide_eq_true n6, cond_true, Option.bind_some, cond_true, if_neg n6, List.nil_append]
    exact w299 hA b2 h (by omega) hF (fun q => by
      rcases q with q | q
      · exact (b7 q).1.symm
      · exact absurd q n6)
theorem w217 (hA : Av S r g) (h3 : ¬ g 3 = 0) (h : Wt S cs) (ht : 1 ≤ t ∧ t ≤ m_sN) (h4 : (m_tx t).length ≤ 45) (hl : cs.length ≤ 220) (hF : 1000 ≤ F) : Wn S (cs ++ m_tx t ++ t166 g ++ sC "\n" ++ (if g 2 = 0 then txB g else [])) (D_m_write_217 F (Int32.ofNat r) ((9 : Int32) * Int32.ofNat r) (g 1) (g 8) t S) := by
  obtain ⟨S1, e1, w1, s1⟩ := say_t (F := F) h ht (by omega) hF
  unfold D_m_write_217
  rw [e1, Option.bind_some]
  exact Wn.pre s1 (w220 (hA.sy s1) h3 w1 (by rw [List.length_append]; omega) hF)
theorem w160 (hA : Av S r g) (h3 : ¬ g 3 = 0) (h5 : few 4 (g 5)) (h : Wt S cs) (ht : 1 ≤ t ∧ t ≤ m_sN) (h4 : (m_tx t).length ≤ 20) (hl : cs.length ≤ 200) (hF : 1000 ≤ F) : Wn S (cs ++ m_tx t ++ tVary g ++ t166 g ++ sC "\n" ++ (if g 2 = 0 then txB g else [])) (D_m_write_160 F (Int32.ofNat r) ((9 : Int32) * Int32.ofNat r) (g 1) (g 8) t S) := by
  obtain ⟨S1, e1, w1, s1⟩ := say_t (F := F) h ht (by omega) hF
  have hA1 := hA.sy s1
  have l1 : (cs ++ m_tx t).length ≤ 220 := by rw [List.length_append]; omega
  unfold D_m_write_160
  rw [e1, Option.bind_some, hA1.g5, Option.bind_some, Option.bind_some, Option.bind_some]
  obtain ⟨v, v1, v2⟩ := h5
  have vs : v = 0 ∨ v = 1 ∨ v = 2 ∨ v = 3 := by omega
  unfold tVary
  rcases vs with rfl | rfl | rfl | rfl
  · rw [v2, if_pos (show Int32.ofNat 0 = 0 from rfl), List.append_nil]
    exact Wn.pre s1 (w220 hA1 h3 w1 (by omega) hF)
  · have q := Wn.pre s1 (w217 (t := 97) hA1 h3 w1 (by decide) (by decide +kernel) l1 hF)
    rw [tx97] at q
    rw [v2]
    exact q
  · have q := Wn.pre s1 (w217 (t := 98) hA1 h3 w1 (by decide) (by decide +kernel) l1 hF)
    rw [tx98] at q
    rw [v2]
    exact q
  · have q := Wn.pre s1 (w217 (t := 99) hA1 h3 w1 (by decide) (by decide +kernel) l1 hF)
    rw [tx99] at q
    rw [v2]
    exact q
theorem say_sort {st : Nat} (h : Wt S []) (hs : st < 1000) (h2 : g 1 = Int32.ofNat st) (hF : 1000 ≤ F) : Wn S (dg (g 1) ++ sC " " ++ txW (g 1) ++ sC "\n") (D_m_saySort F (g 1) S) := by
  obtain ⟨a1, a2, a3, a4, a5, a6, a7, a8, a9⟩ := txSo
  obtain ⟨S1, e1, w1, s1⟩ := say_n (F := F) h (show st < 1000000 by omega) (by show 0 + 6 ≤ 700; decide) (by omega)
  rw [List.nil_append, ← h2] at w1
  have d1 : (dg (g 1)).length ≤ 6 := by rw [h2]; exact dg_len (by omega)
  have one : ∀ t x, 82 ≤ t → t ≤ 90 → m_tx t = sC " " ++ x ++ sC "\n" → txW (g 1) = x → Wn S (dg (g 1) ++ sC " " ++ txW (g 1) ++ sC "\n") ((D_m_say F t S1).bind fun S4 => some S4) := fun t x t1 t2 e ex => by
    have tl := m_tx_len (t := t) ⟨by omega, Nat.le_trans t2 (by decide)⟩
    have t8 : (m_tx t).length ≤ 600 := by
      have : ∀ t, t ≤ 90 → (m_tx t).length ≤ 600 := by decide +kernel
      exact this t t2
    obtain ⟨S2, e2, w2, s2⟩ := say_t (F := F) (t := t) w1 ⟨by omega, Nat.le_trans t2 (by decide)⟩ (by omega) hF
    refine ⟨S2, by rw [e2]; rfl, ?_, s1.trans s2⟩
    rw [e] at w2
    rw [ex]
    simp only [List.append_assoc] at w2 ⊢
    exact w2
  unfold D_m_saySort
  rw [h2, e1, Option.bind_some, ← h2]
  unfold txW at one ⊢
  by_cases w1 : g 1 = 200
  · rw [decide_eq_true w1, if_pos w1]; rw [if_pos w1] at one; exact one 82 _ (by decide) (by decide) a1 rfl
  rw [decide_eq_false w1, if_neg w1, cond_false]; rw [if_neg w1] at one
  by_cases w2 : g 1 = 206
  · rw [decide_eq_true w2, if_pos w2]; rw [if_pos w2] at one; exact one 83 _ (by decide) (by decide) a2 rfl
  rw [decide_eq_false w2, if_neg w2, cond_false]; rw [if_neg w2] at one
  by_cases w3 : g 1 = 304
  · rw [decide_eq_true w3, if_pos w3]; rw [if_pos w3] at one; exact one 84 _ (by decide) (by decide) a3 rfl
  rw [decide_eq_false w3, if_neg w3, cond_false]; rw [if_neg w3] at one
  by_cases w4 : g 1 = 400
  · rw [decide_eq_true w4, if_pos w4]; rw [if_pos w4] at one; exact one 85 _ (by decide) (by decide) a4 rfl
  rw [decide_eq_false w4, if_neg w4, cond_false]; rw [if_neg w4] at one
  by_cases w5 : g 1 = 404
  · rw [decide_eq_true w5, if_pos w5]; rw [if_pos w5] at one; exact one 86 _ (by decide) (by decide) a5 rfl
  rw [decide_eq_false w5, if_neg w5, cond_false]; rw [if_neg w5] at one
  by_cases w6 : g 1 = 416
  · rw [decide_eq_true w6, if_pos w6]; rw [if_pos w6] at one; exact one 87 _ (by decide) (by decide) a6 rfl
  rw [decide_eq_false w6, if_neg w6, cond_false]; rw [if_neg w6] at one
  by_cases w7 : g 1 = 502
  · rw [decide_eq_true w7, if_pos w7]; rw [if_pos w7] at one; exact one 88 _ (by decide) (by decide) a7 rfl
  rw [decide_eq_false w7, if_neg w7, cond_false]; rw [if_neg w7] at one
  by_cases w8 : g 1 = 503
  · rw [decide_eq_true w8, if_pos w8]; rw [if_pos w8] at one; exact one 89 _ (by decide) (by decide) a8 rfl
  rw [decide_eq_false w8, if_neg w8, cond_false]; rw [if_neg w8] at one
  exact one 90 _ (by decide) (by decide) a9 rfl
/-- the whole text of the reference -/
theorem m_write (hA : Av S r g) (hF : 1000 ≤ F) : Wn S (txt g) (D_m_write F (Int32.ofNat r) S) := by
  obtain ⟨S0, hS0⟩ : ∃ z, z = up1 S 91 0 := ⟨_, rfl⟩
  have s0 : Sy S S0 := ⟨fun i hi => by rw [hS0, up1_no hi], fun a k _ => by rw [hS0, rd_up1]⟩
  have w0 : Wt S0 [] := ⟨by rw [hS0, up1_at]; rfl, fun i x hx => by simp at hx⟩
  have hA0 := hA.sy s0
  have gs : aget 4 300 S0 621 (Int32.ofNat r) = some 0 := by rw [aget_n (Or.inr rfl) hA.1 (by decide), hA0.2.1]
  have st : ∃ st, st < 1000 ∧ g 1 = Int32.ofNat st := by
    rcases hA.ka (F := F) with ⟨b1, b2, b3, b4⟩ | ⟨b0, b1, b2, b3⟩
    · rcases b2 with w | w | w | w | w
      · exact ⟨400, by decide, w⟩
      · exact ⟨404, by decide, w⟩
      · exact ⟨502, by decide, w⟩
      · exact ⟨503, by decide, w⟩
      · exact ⟨504, by decide, w⟩
    · exact b2.1
  obtain ⟨st, st1, st2⟩ := st
  obtain ⟨S1, e1, w1, s1⟩ := say_sort (F := F) w0 st1 st2 hF
  have hA1 := hA0.sy s1
  have t1 := s0.trans s1
  have l1 : (dg (g 1) ++ sC " " ++ txW (g 1) ++ sC "\n").length ≤ 29 := by
    have := dg_len (show st < 1000000 by omega)
    have wl : (txW (g 1)).length ≤ 21 := by
      unfold txW
      repeat (first | decide +kernel | (split; decide +kernel))
    rw [List.length_append, List.length_append, List.length_append, st2, ← st2]
    rw [← st2] at this
    show (dg (g 1)).length + 1 + _ + 1 ≤ 29
    omega
  have go : D_m_write F (Int32.ofNat r) S = (fun S10 => (cond (m_c2 .eq (g 1) (200 : Int32)) (some (1 : Int32)) (cond (m_c2 .eq (g 1) (206 : Int32)) (some (1 : Int32)) (cond (m_c2 .eq (g 1) (304 : Int32)) (some (1 : Int32)) (cond (m_c2 .ne (g 1) (416 : Int32)) (some (0 : Int32)) (some (1 : Int32)))))).bind fun v18 => cond (m_c1 .eq v18) (D_m_write_220 F (Int32.ofNat r) ((9 : Int32) * Int32.ofNat r) (g 1) (rd S0 627 (9 * r + 3)) S10) ((D_m_say F 91 S10).bind fun S23 => (D_m_tagSaid F (Int32.ofNat r) S23).bind fun v25 => (D_m_sayNumber F v25 S23).bind fun S27 => (D_m_say F 92 S27).bind fun S29 => (aget 0 2700 S29 627 (((9 : Int32) * Int32.ofNat r) + (2 : Int32))).bind fun v31 => (D_m_sayLine F 93 v31 S29).bind fun S33 => (aget 0 2700 S33 627 (((9 : Int32) * Int32.ofNat r) + (4 : Int32))).bind fun v35 => cond (m_c2 .ne v35 (1 : Int32)) ((aget 0 2700 S33 627 (((9 : Int32) * Int32.ofNat r) + (4 : Int32))).bind fun v44 => cond (m_c2 .ne v44 (2 : Int32)) (D_m_write_160 F (Int32.ofNat r) ((9 : Int32) * Int32.ofNat r) (g 1) (rd S0 627 (9 * r + 3)) 96 S33) (D_m_write_160 F (Int32.ofNat r) ((9 : Int32) * Int32.ofNat r) (g 1) (rd S0 627 (9 * r + 3)) 95 S33)) (D_m_write_160 F (Int32.ofNat r) ((9 : Int32) * Int32.ofNat r) (g 1) (rd S0 627 (9 * r + 3)) 94 S33))) S1 := by
    unfold D_m_write
    rw [show fput S 91 (0 : Int32) = some S0 by rw [hS0]; rfl, Option.bind_some, gs, Option.bind_some, show m_c1 .eq (0 : Int32) = true from rfl, cond_true, hA0.g1, Option.bind_some, hA0.gz, Option.bind_some, e1, Option.bind_some]
  rw [go]
  show Wn S (txt g) ((cond (m_c2 .eq (g 1) (200 : Int32)) (some (1 : Int32)) _).bind _)
  unfold txt
  rcases hA1.ka (F := F) with ⟨b1, b2, b3, b4⟩ | ⟨b0, b1, b2, b3, b4, b4', b5, b6, b7, b8, b9⟩
  · have n2 : ¬ g 1 = 200 := fun q => by rcases b2 with w | w | w | w | w <;> rw [w] at q <;> exact absurd q (by decide)
    have n6 : ¬ g 1 = 206 := fun q => by rcases b2 with w | w | w | w | w <;> rw [w] at q <;> exact absurd q (by decide)
    have n3 : ¬ g 1 = 304 := fun q => by rcases b2 with w | w | w | w | w <;> rw [w] at q <;> exact absurd q (by decide)
    have n4 : ¬ g 1 = 416 := fun q => by rcases b2 with w | w | w | w | w <;> rw [w] at q <;> exact absurd q (by decide)
    rw [show m_c2 .eq (g 1) (200 : Int32) = false from decide_eq_false n2, cond_false, show m_c2 .eq (g 1) (206 : Int32) = false from decide_eq_false n6, cond_false, show m_c2 .eq (g 1) (304 : Int32) = false from decide_eq_false n3, cond_false, show m_c2 .ne (g 1) (416 : Int32) = true from decide_eq_true n4, cond_true, Option.bind_some, show m_c1 .eq (0 : Int32) = true from rfl, cond_true, if_pos b1, List.append_nil]
    unfold D_m_write_220 D_m_write_299 D_m_write_315
    rw [show m_c2 .ne (g 1) (206 : Int32) = true from decide_eq_true n6, cond_true, Option.bind_some, cond_true, show m_c2 .ne (g 1) (416 : Int32) = true from decide_eq_true n4, cond_true, show m_c2 .eq (g 1) (200 : Int32) = false from decide_eq_false n2, cond_false, cond_true]
    exact Wn.pre t1 (w341 hA1 w1 (by omega) hF (fun q => by rcases q with q | q; exact absurd q n2; exact absurd q n6))
  · have yes : (cond (m_c2 .eq (g 1) (200 : Int32)) (some (1 : Int32)) (cond (m_c2 .eq (g 1) (206 : Int32)) (some (1 : Int32)) (cond (m_c2 .eq (g 1) (304 : Int32)) (some (1 : Int32)) (cond (m_c2 .ne (g 1) (416 : Int32)) (some (0 : Int32)) (some (1 : Int32)))))) = some 1 := by
      rcases b1 with w | w | w | w <;> rw [w] <;> rfl
    obtain ⟨_, _, ⟨tg, tg1, tg2⟩, f5, ⟨ag, ag1, ag2⟩, _⟩ := id b2
    have d1 := dg_len (show tg < 1000000 by omega)
    have d2 := dg_len (show ag < 1000000 by omega)
    obtain ⟨cs, hcs⟩ : ∃ z, z = dg (g 1) ++ sC " " ++ txW (g 1) ++ sC "\n" := ⟨_, rfl⟩
    rw [← hcs] at w1 l1
    obtain ⟨S2, e2, w2, s2⟩ := say_t (F := F) (t := 91) w1 (by decide) (by rw [tx91]; show cs.length + 7 ≤ 700; omega) hF
    have l2 : (cs ++ m_tx 91).length = cs.length + 7 := by rw [List.length_append, tx91]; rfl
    obtain ⟨S3, e3, w3, s3⟩ := say_n (F := F) w2 (show tg < 1000000 by omega) (by omega) (by omega)
    have l3 : (cs ++ m_tx 91 ++ dg (Int32.ofNat tg)).length ≤ cs.length + 13 := by rw [List.length_append]; omega
    obtain ⟨S4, e4, w4, s4⟩ := say_t (F := F) (t := 92) w3 (by decide) (by rw [tx92]; show (cs ++ m_tx 91 ++ dg (Int32.ofNat tg)).length + 2 ≤ 700; omega) hF
    have l4 : (cs ++ m_tx 91 ++ dg (Int32.ofNat tg) ++ m_tx 92).length ≤ cs.length + 15 := by rw [List.length_append, tx92]; show (cs ++ m_tx 91 ++ dg (Int32.ofNat tg)).length + 2 ≤ _; omega
    obtain ⟨S5, e5, w5, s5⟩ := say_line (F := F) (t := 93) (k := ag) w4 (by decide) (by omega) (by rw [tx93]; show (cs ++ m_tx 91 ++ dg (Int32.ofNat tg) ++ m_tx 92).length + 5 + 7 ≤ 700; omega) hF
    have l5 : (cs ++ m_tx 91 ++ dg (Int32.ofNat tg) ++ m_tx 92 ++ m_tx 93 ++ dg (Int32.ofNat ag) ++ sC "\n").length ≤ 60 := by
      rw [List.length_append, List.length_append, List.length_append, tx93]
      show (cs ++ m_tx 91 ++ dg (Int32.ofNat tg) ++ m_tx 92).length + 5 + _ + 1 ≤ 60
      omega
    have hA2 := hA1.sy s2
    have hA4 := (hA2.sy s3).sy s4
    have hA5 := hA4.sy s5
    have t5 := (((t1.trans s2).trans s3).trans s4).trans s5
    have e3' : D_m_sayNumber F (8 * g 3 + g 4) S2 = some S3 := by rw [tg2]; exact e3
    have e5' : D_m_sayLine F 93 (g 6) S4 = some S5 := by rw [ag2]; exact e5
    have z8 : rd S0 627 (9 * r + 3) = g 8 := by rw [← b3, s1.2 _ _ (by decide)]
    rw [yes, Option.bind_some, show m_c1 .eq (1 : Int32) = false from rfl, cond_false, e2, Option.bind_some, hA2.tag, Option.bind_some, e3', Option.bind_some, e4, Option.bind_some, hA4.g6, Option.bind_some, e5', Option.bind_some, hA5.g7, Option.bind_some, Option.bind_some, z8, if_neg b0]
    have fin : ∀ t, 94 ≤ t → t ≤ 96 → m_tx t = sC "cache: " ++ tHow g ++ sC "\n" → Wn S (cs ++ txL g ++ sC "\n" ++ (if g 2 = 0 then txB g else [])) (D_m_write_160 F (Int32.ofNat r) ((9 : Int32) * Int32.ofNat r) (g 1) (g 8) t S5) := fun t ta tb e => by
      have tl : (m_tx t).length ≤ 20 := by
        have : t = 94 ∨ t = 95 ∨ t = 96 := by omega
        rcases this with rfl | rfl | rfl <;> decide +kernel
      refine Wn.cast (Wn.pre t5 (w160 (t := t) hA5 b0 f5 w5 ⟨by omega, Nat.le_trans tb (by decide)⟩ tl (by omega) hF)) ?_
      rw [e, txL_eq, tx91, tx92, tx93, tg2, ag2]
      simp only [List.append_assoc]
    rw [← hcs]
    rcases b5 with w | w | w
    · rw [w]
      exact fin 96 (by decide) (by decide) (by rw [tx96]; unfold tHow; rw [w]; rfl)
    · rw [w]
      exact fin 94 (by decide) (by decide) (by rw [tx94]; unfold tHow; rw [w]; rfl)
    · rw [w]
      exact fin 95 (by decide) (by decide) (by rw [tx95]; unfold tHow; rw [w]; rfl)
end
