/-! One row for each kind of step. Written by wip/tool/rules.py. -/
abbrev m_dn (I : mI) (pc : Nat) (i : Instr) (n pc' : Nat) : Prop := m_de I pc = some (i, n) ∧ pc + n = pc'
section
variable {ic : mI → mF → Option mR} {I : mI} {pc pc' n k : Nat} {k4 : Fin 4} {i : Instr} {lv lv' : List (Nat × Value)} {st st' r : List Value} {w w' : List mM} {x y z : Int32} {u v q : Value}
theorem x_ps (hd : m_dn I pc i n pc') (h : m_ps i st = some (n, st')) : m_nx ic I (pc, lv, st, w) = some ((pc', lv, st', w), 0, 0, 0, 0) := by
  obtain ⟨h1, rfl⟩ := hd
  unfold m_nx
  simp only [h1, h, if_true]
theorem x_lo (hd : m_dn I pc i n pc') (h0 : m_ps i st = none) (h : m_lo I.2.2.1 i lv st = some (n, lv', st')) : m_nx ic I (pc, lv, st, w) = some ((pc', lv', st', w), 0, 0, 0, 0) := by
  obtain ⟨h1, rfl⟩ := hd
  unfold m_nx
  simp only [h1, h0, h, if_true]
theorem x_br {t : Nat} (hd : m_dn I pc i n pc') (h0 : m_ps i st = none) (h1 : m_lo I.2.2.1 i lv st = none) (h : m_br w.length pc i n st = some (t, st')) : m_nx ic I (pc, lv, st, w) = some ((t, lv, st', w), 0, 0, 0, 0) := by
  obtain ⟨h9, rfl⟩ := hd
  unfold m_nx
  simp only [h9, h0, h1, h]
theorem x_hs (hd : m_dn I pc i n pc') (h0 : m_ps i st = none) (h1 : m_lo I.2.2.1 i lv st = none) (h2 : m_br w.length pc i n st = none) (h : m_hs I i st w = some (n, st', w', 0, 0)) : m_nx ic I (pc, lv, st, w) = some ((pc', lv, st', w'), 0, 0, 0, 0) := by
  obtain ⟨h9, rfl⟩ := hd
  unfold m_nx
  simp only [h9, h0, h1, h2, h, true_or, and_true, if_true]
theorem x_b2 {f : Int32 → Int32 → Int32} (hd : m_dn I pc i 1 pc') (h : ∀ st, m_ps i st = m_b2 f st) (hz : f x y = z) : m_nx ic I (pc, lv, .int y :: .int x :: r, w) = some ((pc', lv, .int z :: r, w), 0, 0, 0, 0) := by
  refine x_ps hd ?_
  rw [h, ← hz]
  rfl
theorem x_iadd (hd : m_dn I pc .iadd 1 pc') (hz : x + y = z) : m_nx ic I (pc, lv, .int y :: .int x :: r, w) = some ((pc', lv, .int z :: r, w), 0, 0, 0, 0) := x_b2 hd (fun _ => rfl) hz
theorem x_isub (hd : m_dn I pc .isub 1 pc') (hz : x - y = z) : m_nx ic I (pc, lv, .int y :: .int x :: r, w) = some ((pc', lv, .int z :: r, w), 0, 0, 0, 0) := x_b2 hd (fun _ => rfl) hz
theorem x_imul (hd : m_dn I pc .imul 1 pc') (hz : x * y = z) : m_nx ic I (pc, lv, .int y :: .int x :: r, w) = some ((pc', lv, .int z :: r, w), 0, 0, 0, 0) := x_b2 hd (fun _ => rfl) hz
theorem x_iand (hd : m_dn I pc .iand 1 pc') (hz : x &&& y = z) : m_nx ic I (pc, lv, .int y :: .int x :: r, w) = some ((pc', lv, .int z :: r, w), 0, 0, 0, 0) := x_b2 hd (fun _ => rfl) hz
theorem x_ior (hd : m_dn I pc .ior 1 pc') (hz : x ||| y = z) : m_nx ic I (pc, lv, .int y :: .int x :: r, w) = some ((pc', lv, .int z :: r, w), 0, 0, 0, 0) := x_b2 hd (fun _ => rfl) hz
theorem x_ixor (hd : m_dn I pc .ixor 1 pc') (hz : x ^^^ y = z) : m_nx ic I (pc, lv, .int y :: .int x :: r, w) = some ((pc', lv, .int z :: r, w), 0, 0, 0, 0) := x_b2 hd (fun _ => rfl) hz
theorem x_ishl (hd : m_dn I pc .ishl 1 pc') (hz : x <<< (y &&& 31) = z) : m_nx ic I (pc, lv, .int y :: .int x :: r, w) = some ((pc', lv, .int z :: r, w), 0, 0, 0, 0) := x_b2 hd (fun _ => rfl) hz
theorem x_ishr (hd : m_dn I pc .ishr 1 pc') (hz : x >>> (y &&& 31) = z) : m_nx ic I (pc, lv, .int y :: .int x :: r, w) = some ((pc', lv, .int z :: r, w), 0, 0, 0, 0) := x_b2 hd (fun _ => rfl) hz
theorem x_idiv (hd : m_dn I pc .idiv 1 pc') (hy : ¬ y = 0) (hz : x / y = z) : m_nx ic I (pc, lv, .int y :: .int x :: r, w) = some ((pc', lv, .int z :: r, w), 0, 0, 0, 0) := by
  refine x_ps hd ?_
  rw [← hz]
  simp only [m_ps, m_b2n, if_neg hy]
theorem x_irem (hd : m_dn I pc .irem 1 pc') (hy : ¬ y = 0) (hz : x - x / y * y = z) : m_nx ic I (pc, lv, .int y :: .int x :: r, w) = some ((pc', lv, .int z :: r, w), 0, 0, 0, 0) := by
  refine x_ps hd ?_
  rw [← hz]
  simp only [m_ps, m_b2n, if_neg hy]
theorem x_iconst {m : Int} (hd : m_dn I pc (.iconst m) 1 pc') (hz : Int32.ofInt m = z) : m_nx ic I (pc, lv, st, w) = some ((pc', lv, .int z :: st, w), 0, 0, 0, 0) := by
  refine x_ps hd ?_
  rw [← hz]
  rfl
theorem x_bipush {m : Int} (hd : m_dn I pc (.bipush m) 2 pc') (hz : (Int8.ofInt m).toInt32 = z) : m_nx ic I (pc, lv, st, w) = some ((pc', lv, .int z :: st, w), 0, 0, 0, 0) := by
  refine x_ps hd ?_
  rw [← hz]
  rfl
theorem x_sipush {m : Int} (hd : m_dn I pc (.sipush m) 3 pc') (hz : (Int16.ofInt m).toInt32 = z) : m_nx ic I (pc, lv, st, w) = some ((pc', lv, .int z :: st, w), 0, 0, 0, 0) := by
  refine x_ps hd ?_
  rw [← hz]
  rfl
theorem x_null (hd : m_dn I pc .aconst_null 1 pc') : m_nx ic I (pc, lv, st, w) = some ((pc', lv, .null :: st, w), 0, 0, 0, 0) := x_ps hd rfl
theorem x_i2l {z : Int64} (hd : m_dn I pc .i2l 1 pc') (hz : x.toInt64 = z) : m_nx ic I (pc, lv, .int x :: r, w) = some ((pc', lv, .long z :: r, w), 0, 0, 0, 0) := x_ps hd (by rw [← hz]; rfl)
theorem x_l2i {a : Int64} (hd : m_dn I pc .l2i 1 pc') (hz : a.toInt32 = z) : m_nx ic I (pc, lv, .long a :: r, w) = some ((pc', lv, .int z :: r, w), 0, 0, 0, 0) := x_ps hd (by rw [← hz]; rfl)
theorem x_lcmp {a b : Int64} (hd : m_dn I pc .lcmp 1 pc') (hz : lg_cmp a b = z) : m_nx ic I (pc, lv, .long b :: .long a :: r, w) = some ((pc', lv, .int z :: r, w), 0, 0, 0, 0) := x_ps hd (by rw [← hz]; rfl)
theorem x_i2c (hd : m_dn I pc .i2c 1 pc') (hz : (x.toUInt32 % 65536).toInt32 = z) : m_nx ic I (pc, lv, .int x :: r, w) = some ((pc', lv, .int z :: r, w), 0, 0, 0, 0) := x_ps hd (by rw [← hz]; rfl)
theorem x_land {a b z : Int64} (hd : m_dn I pc .land 1 pc') (hz : a &&& b = z) : m_nx ic I (pc, lv, .long b :: .long a :: r, w) = some ((pc', lv, .long z :: r, w), 0, 0, 0, 0) := x_ps hd (by rw [← hz]; rfl)
theorem x_lor {a b z : Int64} (hd : m_dn I pc .lor 1 pc') (hz : a ||| b = z) : m_nx ic I (pc, lv, .long b :: .long a :: r, w) = some ((pc', lv, .long z :: r, w), 0, 0, 0, 0) := x_ps hd (by rw [← hz]; rfl)
theorem x_ladd {a b z : Int64} (hd : m_dn I pc .ladd 1 pc') (hz : a + b = z) : m_nx ic I (pc, lv, .long b :: .long a :: r, w) = some ((pc', lv, .long z :: r, w), 0, 0, 0, 0) := x_ps hd (by rw [← hz]; rfl)
theorem x_lushr {a z : Int64} (hd : m_dn I pc .lushr 1 pc') (hz : (a.toUInt64 >>> (y.toInt64.toUInt64 &&& Int64.toUInt64 63)).toInt64 = z) : m_nx ic I (pc, lv, .int y :: .long a :: r, w) = some ((pc', lv, .long z :: r, w), 0, 0, 0, 0) := x_ps hd (by rw [← hz]; rfl)
theorem x_lshl {a z : Int64} (hd : m_dn I pc .lshl 1 pc') (hz : a <<< (y.toInt64 &&& 63) = z) : m_nx ic I (pc, lv, .int y :: .long a :: r, w) = some ((pc', lv, .long z :: r, w), 0, 0, 0, 0) := x_ps hd (by rw [← hz]; rfl)
theorem x_lshr {a z : Int64} (hd : m_dn I pc .lshr 1 pc') (hz : a >>> (y.toInt64 &&& 63) = z) : m_nx ic I (pc, lv, .int y :: .long a :: r, w) = some ((pc', lv, .long z :: r, w), 0, 0, 0, 0) := x_ps hd (by rw [← hz]; rfl)
theorem x_dup (hd : m_dn I pc .dup 1 pc') (hv : v.category = 1) : m_nx ic I (pc, lv, v :: r, w) = some ((pc', lv, v :: v :: r, w), 0, 0, 0, 0) := by
  refine x_ps hd ?_
  simp only [m_ps, m_dup, hv, if_true]
theorem x_pop (hd : m_dn I pc .pop 1 pc') (hv : v.category = 1) : m_nx ic I (pc, lv, v :: r, w) = some ((pc', lv, r, w), 0, 0, 0, 0) := by
  refine x_ps hd ?_
  simp only [m_ps, m_pop, hv, if_true]
theorem x_dup_x1 (hd : m_dn I pc .dup_x1 1 pc') (hv : v.category = 1) (hu : u.category = 1) : m_nx ic I (pc, lv, v :: u :: r, w) = some ((pc', lv, v :: u :: v :: r, w), 0, 0, 0, 0) := by
  refine x_ps hd ?_
  simp only [m_ps, m_dupx1, hv, hu, and_self, if_true]
theorem x_dup2 (hd : m_dn I pc .dup2 1 pc') (hv : v.category = 1) (hu : u.category = 1) : m_nx ic I (pc, lv, v :: u :: r, w) = some ((pc', lv, v :: u :: v :: u :: r, w), 0, 0, 0, 0) := by
  refine x_ps hd ?_
  simp only [m_ps, m_dup2, hv, hu, and_self, if_true]
theorem x_iload (hd : m_dn I pc (.iload k) 2 pc') (h : m_lv lv k = some (.int x)) : m_nx ic I (pc, lv, st, w) = some ((pc', lv, .int x :: st, w), 0, 0, 0, 0) := by
  refine x_lo hd rfl ?_
  simp only [m_lo, m_ldi, h]
theorem x_lload {a : Int64} (hd : m_dn I pc (.lload k) 2 pc') (h : m_lv lv k = some (.long a)) : m_nx ic I (pc, lv, st, w) = some ((pc', lv, .long a :: st, w), 0, 0, 0, 0) := by
  refine x_lo hd rfl ?_
  simp only [m_lo, m_ldl, h]
theorem x_aload {a : Nat} (hd : m_dn I pc (.aload k) 2 pc') (h : m_lv lv k = some (.ref a)) : m_nx ic I (pc, lv, st, w) = some ((pc', lv, .ref a :: st, w), 0, 0, 0, 0) := by
  refine x_lo hd rfl ?_
  simp only [m_lo, m_lda, h]
theorem x_aload0 (hd : m_dn I pc (.aload k) 2 pc') (h : m_lv lv k = some .null) : m_nx ic I (pc, lv, st, w) = some ((pc', lv, .null :: st, w), 0, 0, 0, 0) := by
  refine x_lo hd rfl ?_
  simp only [m_lo, m_lda, h]
theorem x_istore (hd : m_dn I pc (.istore k) 2 pc') (hk : decide (k < I.2.2.1) = true) (h : m_put1 lv k (.int x) = lv') : m_nx ic I (pc, lv, .int x :: r, w) = some ((pc', lv', r, w), 0, 0, 0, 0) := by
  refine x_lo hd rfl ?_
  simp only [m_lo, m_sti, of_decide_eq_true hk, h, if_true]
theorem x_astore {a : Nat} (hd : m_dn I pc (.astore k) 2 pc') (hk : decide (k < I.2.2.1) = true) (h : m_put1 lv k (.ref a) = lv') : m_nx ic I (pc, lv, .ref a :: r, w) = some ((pc', lv', r, w), 0, 0, 0, 0) := by
  refine x_lo hd rfl ?_
  simp only [m_lo, m_sta, of_decide_eq_true hk, h, if_true]
theorem x_astore0 (hd : m_dn I pc (.astore k) 2 pc') (hk : decide (k < I.2.2.1) = true) (h : m_put1 lv k .null = lv') : m_nx ic I (pc, lv, .null :: r, w) = some ((pc', lv', r, w), 0, 0, 0, 0) := by
  refine x_lo hd rfl ?_
  simp only [m_lo, m_sta, of_decide_eq_true hk, h, if_true]
theorem x_iload_n (hd : m_dn I pc (.iload_n k4) 1 pc') (h : m_lv lv k4 = some (.int x)) : m_nx ic I (pc, lv, st, w) = some ((pc', lv, .int x :: st, w), 0, 0, 0, 0) := by
  refine x_lo hd rfl ?_
  simp only [m_lo, m_ldi, h]
theorem x_lload_n {a : Int64} (hd : m_dn I pc (.lload_n k4) 1 pc') (h : m_lv lv k4 = some (.long a)) : m_nx ic I (pc, lv, st, w) = some ((pc', lv, .long a :: st, w), 0, 0, 0, 0) := by
  refine x_lo hd rfl ?_
  simp only [m_lo, m_ldl, h]
theorem x_aload_n {a : Nat} (hd : m_dn I pc (.aload_n k4) 1 pc') (h : m_lv lv k4 = some (.ref a)) : m_nx ic I (pc, lv, st, w) = some ((pc', lv, .ref a :: st, w), 0, 0, 0, 0) := by
  refine x_lo hd rfl ?_
  simp only [m_lo, m_lda, h]
theorem x_aload_n0 (hd : m_dn I pc (.aload_n k4) 1 pc') (h : m_lv lv k4 = some .null) : m_nx ic I (pc, lv, st, w) = some ((pc', lv, .null :: st, w), 0, 0, 0, 0) := by
  refine x_lo hd rfl ?_
  simp only [m_lo, m_lda, h]
theorem x_istore_n (hd : m_dn I pc (.istore_n k4) 1 pc') (hk : decide (k4 < I.2.2.1) = true) (h : m_put1 lv k4 (.int x) = lv') : m_nx ic I (pc, lv, .int x :: r, w) = some ((pc', lv', r, w), 0, 0, 0, 0) := by
  refine x_lo hd rfl ?_
  simp only [m_lo, m_sti, of_decide_eq_true hk, h, if_true]
theorem x_astore_n {a : Nat} (hd : m_dn I pc (.astore_n k4) 1 pc') (hk : decide (k4 < I.2.2.1) = true) (h : m_put1 lv k4 (.ref a) = lv') : m_nx ic I (pc, lv, .ref a :: r, w) = some ((pc', lv', r, w), 0, 0, 0, 0) := by
  refine x_lo hd rfl ?_
  simp only [m_lo, m_sta, of_decide_eq_true hk, h, if_true]
theorem x_astore_n0 (hd : m_dn I pc (.astore_n k4) 1 pc') (hk : decide (k4 < I.2.2.1) = true) (h : m_put1 lv k4 .null = lv') : m_nx ic I (pc, lv, .null :: r, w) = some ((pc', lv', r, w), 0, 0, 0, 0) := by
  refine x_lo hd rfl ?_
  simp only [m_lo, m_sta, of_decide_eq_true hk, h, if_true]
theorem x_iinc {m : Int} (hd : m_dn I pc (.iinc k m) 3 pc') (hl : m_lv lv k = some (.int x)) (hk : decide (k < I.2.2.1) = true) (hz : x + Int32.ofInt m = z) (h : m_put1 lv k (.int z) = lv') : m_nx ic I (pc, lv, st, w) = some ((pc', lv', st, w), 0, 0, 0, 0) := by
  refine x_lo hd rfl ?_
  simp only [m_lo, m_inc, hl, hz, h, of_decide_eq_true hk, if_true]
theorem x_goto {off : Int} {t : Nat} (hd : m_dn I pc (.goto off) 3 pc') (hj : m_jmp pc off = some t) : m_nx ic I (pc, lv, st, w) = some ((t, lv, st, w), 0, 0, 0, 0) := by
  refine x_br hd rfl rfl ?_
  show (if 3 = 3 then (m_jmp pc off).map (fun t => (t, st)) else none) = _
  rw [hj]
  rfl
theorem x_if {cc : ClassFile.Cond} {off : Int} {t : Nat} {b : Bool} (hd : m_dn I pc (.ifCond cc off) 3 pc') (hj : m_jmp pc off = some t) (hc : m_c1 cc x = b) : m_nx ic I (pc, lv, .int x :: r, w) = some ((if b = true then t else pc', lv, r, w), 0, 0, 0, 0) := by
  refine x_br hd rfl rfl ?_
  show (if 3 = 3 then (m_jmp pc off).map (fun t => (if m_c1 cc x = true then t else pc + 3, r)) else none) = _
  rw [hj, hc, ← hd.2]
  rfl
theorem x_ift {cc : ClassFile.Cond} {off : Int} {t : Nat} (hd : m_dn I pc (.ifCond cc off) 3 pc') (hj : m_jmp pc off = some t) (hc : m_c1 cc x = true) : m_nx ic I (pc, lv, .int x :: r, w) = some ((t, lv, r, w), 0, 0, 0, 0) := x_if (b := true) hd hj hc
theorem x_iff {cc : ClassFile.Cond} {off : Int} {t : Nat} (hd : m_dn I pc (.ifCond cc off) 3 pc') (hj : m_jmp pc off = some t) (hc : m_c1 cc x = false) : m_nx ic I (pc, lv, .int x :: r, w) = some ((pc', lv, r, w), 0, 0, 0, 0) := x_if (b := false) hd hj hc
theorem x_ic {cc : ClassFile.Cond} {off : Int} {t : Nat} {b : Bool} (hd : m_dn I pc (.if_icmp cc off) 3 pc') (hj : m_jmp pc off = some t) (hc : m_c2 cc x y = b) : m_nx ic I (pc, lv, .int y :: .int x :: r, w) = some ((if b = true then t else pc', lv, r, w), 0, 0, 0, 0) := by
  refine x_br hd rfl rfl ?_
  show (if 3 = 3 then (m_jmp pc off).map (fun t => (if m_c2 cc x y = true then t else pc + 3, r)) else none) = _
  rw [hj, hc, ← hd.2]
  rfl
theorem x_ict {cc : ClassFile.Cond} {off : Int} {t : Nat} (hd : m_dn I pc (.if_icmp cc off) 3 pc') (hj : m_jmp pc off = some t) (hc : m_c2 cc x y = true) : m_nx ic I (pc, lv, .int y :: .int x :: r, w) = some ((t, lv, r, w), 0, 0, 0, 0) := x_ic (b := true) hd hj hc
theorem x_icf {cc : ClassFile.Cond} {off : Int} {t : Nat} (hd : m_dn I pc (.if_icmp cc off) 3 pc') (hj : m_jmp pc off = some t) (hc : m_c2 cc x y = false) : m_nx ic I (pc, lv, .int y :: .int x :: r, w) = some ((pc', lv, r, w), 0, 0, 0, 0) := x_ic (b := false) hd hj hc
theorem x_ifnull0 {off : Int} {t : Nat} (hd : m_dn I pc (.ifnull off) 3 pc') (hj : m_jmp pc off = some t) : m_nx ic I (pc, lv, .null :: r, w) = some ((t, lv, r, w), 0, 0, 0, 0) := by
  refine x_br hd rfl rfl ?_
  show (if 3 = 3 then (m_jmp pc off).map (fun t => (if true = true then t else pc + 3, r)) else none) = _
  rw [hj]
  rfl
theorem x_ifnull1 {off : Int} {t a : Nat} (hd : m_dn I pc (.ifnull off) 3 pc') (hj : m_jmp pc off = some t) : m_nx ic I (pc, lv, .ref a :: r, w) = some ((pc', lv, r, w), 0, 0, 0, 0) := by
  refine x_br hd rfl rfl ?_
  show (if 3 = 3 then (m_jmp pc off).map (fun t => (if true = true then pc + 3 else t, r)) else none) = _
  rw [hj, ← hd.2]
  rfl
theorem x_ifnonnull0 {off : Int} {t : Nat} (hd : m_dn I pc (.ifnonnull off) 3 pc') (hj : m_jmp pc off = some t) : m_nx ic I (pc, lv, .null :: r, w) = some ((pc', lv, r, w), 0, 0, 0, 0) := by
  refine x_br hd rfl rfl ?_
  show (if 3 = 3 then (m_jmp pc off).map (fun t => (if false = true then t else pc + 3, r)) else none) = _
  rw [hj, ← hd.2]
  rfl
theorem x_ifnonnull1 {off : Int} {t a : Nat} (hd : m_dn I pc (.ifnonnull off) 3 pc') (hj : m_jmp pc off = some t) : m_nx ic I (pc, lv, .ref a :: r, w) = some ((t, lv, r, w), 0, 0, 0, 0) := by
  refine x_br hd rfl rfl ?_
  show (if 3 = 3 then (m_jmp pc off).map (fun t => (if false = true then pc + 3 else t, r)) else none) = _
  rw [hj]
  rfl
theorem x_tsw {d lo hi : Int} {offs : Array Int} {t : Nat} (hd : m_dn I pc (.tableswitch d lo hi offs) n pc') (h : m_tsw pc d lo hi offs (.int x :: r) = some (t, r)) : m_nx ic I (pc, lv, .int x :: r, w) = some ((t, lv, r, w), 0, 0, 0, 0) := x_br hd rfl rfl h
theorem x_getf {ci fk fl a : Nat} {fs : List Value} (hd : m_dn I pc (.getfield k) 3 pc') (hf : m_fe I k = some (ci, fk, fl)) (hw : m_at w a = some (.inr (ci, fs))) (hv : fs[fk]? = some v) : m_nx ic I (pc, lv, .ref a :: r, w) = some ((pc', lv, v :: r, w), 0, 0, 0, 0) := by
  refine x_hs hd rfl rfl rfl ?_
  simp only [m_hs, m_getf, hf, hw, hv, if_true]
theorem x_putf {ci fk fl a : Nat} {ty : FieldType} {fs : List Value} (hd : m_dn I pc (.putfield k) 3 pc') (hf : m_fe I k = some (ci, fk, fl)) (hw : m_at w a = some (.inr (ci, fs))) (hty : m_ft ci fk = some ty) (hfl : fl = 1 ∨ fl = 2) (hlen : decide (fk < fs.length) = true) (hn : narrow ty v = v) (hi : fits ty v = true) (hok : m_okv w.length v = true) : m_nx ic I (pc, lv, v :: .ref a :: r, w) = some ((pc', lv, r, w.set (a - 512) (.inr (ci, fs.set fk v))), 0, 0, 0, 0) := by
  refine x_hs hd rfl rfl rfl ?_
  simp only [m_hs, m_putf, hf, hw, hty, hn, hi, hok, of_decide_eq_true hlen, hfl, true_and, and_self, if_true]
theorem m_at_set {a : Nat} {c : mM} (h : m_at w a = some c) : w.set (a - 512) c = w := by
  unfold m_at at h
  split at h
  · cases h
  · apply List.ext_getElem?
    intro j
    rw [List.getElem?_set]
    split
    · rename_i e
      subst e
      split
      · exact h.symm
      · rename_i h2
        rw [List.getElem?_eq_none (Nat.le_of_not_lt h2)]
    · rfl
theorem m_set_same {α : Type} {l : List α} {j : Nat} {a : α} (h : l[j]? = some a) : l.set j a = l := by
  apply List.ext_getElem?
  intro i
  rw [List.getElem?_set]
  split
  · rename_i e
    subst e
    split
    · exact h.symm
    · rename_i h2
      rw [List.getElem?_eq_none (Nat.le_of_not_lt h2)]
  · rfl
theorem x_putfs {ci fk fl a : Nat} {ty : FieldType} {fs : List Value} (hd : m_dn I pc (.putfield k) 3 pc') (hf : m_fe I k = some (ci, fk, fl)) (hw : m_at w a = some (.inr (ci, fs))) (hv : fs[fk]? = some v) (hty : m_ft ci fk = some ty) (hfl : fl = 1 ∨ fl = 2) (hn : narrow ty v = v) (hi : fits ty v = true) (hok : m_okv w.length v = true) : m_nx ic I (pc, lv, v :: .ref a :: r, w) = some ((pc', lv, r, w), 0, 0, 0, 0) := by
  have hlen : fk < fs.length := (List.getElem?_eq_some_iff.mp hv).1
  have := x_putf (ic := ic) (lv := lv) (r := r) hd hf hw hty hfl (decide_eq_true hlen) hn hi hok
  rw [m_set_same hv, m_at_set hw] at this
  exact this
theorem x_alen {t a N : Nat} {els : List (Nat × Value)} {ty : FieldType} (hd : m_dn I pc .arraylength 1 pc') (hw : m_at w a = some (.inl (t, N, els))) (ht : m_tyl[t]? = some ty) (hz : Int32.ofNat N = z) : m_nx ic I (pc, lv, .ref a :: r, w) = some ((pc', lv, .int z :: r, w), 0, 0, 0, 0) := by
  refine x_hs hd rfl rfl rfl ?_
  simp only [m_hs, m_alen, hw, ht, hz]
theorem x_iaload {t a N j : Nat} {els : List (Nat × Value)} (hd : m_dn I pc .iaload 1 pc') (hw : m_at w a = some (.inl (t, N, els))) (ht : decide (t = 0) = true) (hi : ¬ y < 0) (hj : y.toNatClampNeg = j) (hN : j < N) (hv : m_el t els j = .int x) : m_nx ic I (pc, lv, .int y :: .ref a :: r, w) = some ((pc', lv, .int x :: r, w), 0, 0, 0, 0) := by
  refine x_hs hd rfl rfl rfl ?_
  have h1 : ¬ t = 1 := by
    intro e
    subst e
    revert ht
    decide
  have h2 : ¬ (y < 0 ∨ N ≤ j) := fun h => h.elim hi (fun h => absurd hN (Nat.not_lt.mpr h))
  simp only [m_hs, m_ald, hw, hj, hv, m_toI]
  rw [if_pos ⟨ht, h2⟩, if_neg h1]
theorem x_baload {t a N j : Nat} {els : List (Nat × Value)} (hd : m_dn I pc .baload 1 pc') (hw : m_at w a = some (.inl (t, N, els))) (ht : decide (t = 3 ∨ t = 4) = true) (hi : ¬ y < 0) (hj : y.toNatClampNeg = j) (hN : j < N) (hv : m_el t els j = .int x) : m_nx ic I (pc, lv, .int y :: .ref a :: r, w) = some ((pc', lv, .int x :: r, w), 0, 0, 0, 0) := by
  refine x_hs hd rfl rfl rfl ?_
  have h1 : ¬ t = 1 := by
    intro e
    subst e
    revert ht
    decide
  have h2 : ¬ (y < 0 ∨ N ≤ j) := fun h => h.elim hi (fun h => absurd hN (Nat.not_lt.mpr h))
  simp only [m_hs, m_ald, hw, hj, hv, m_toI]
  rw [if_pos ⟨ht, h2⟩, if_neg h1]
theorem x_laload {a N j : Nat} {b : Int64} {els : List (Nat × Value)} (hd : m_dn I pc .laload 1 pc') (hw : m_at w a = some (.inl (1, N, els))) (hi : ¬ y < 0) (hj : y.toNatClampNeg = j) (hN : j < N) (hv : m_el 1 els j = .long b) : m_nx ic I (pc, lv, .int y :: .ref a :: r, w) = some ((pc', lv, .long b :: r, w), 0, 0, 0, 0) := by
  refine x_hs hd rfl rfl rfl ?_
  have h2 : ¬ (y < 0 ∨ N ≤ j) := fun h => h.elim hi (fun h => absurd hN (Nat.not_lt.mpr h))
  simp only [m_hs, m_ald, hw, hj, hv, m_toL]
  rw [if_pos ⟨rfl, h2⟩, if_pos trivial]
theorem x_aaload {t a N j b : Nat} {c : String} {els : List (Nat × Value)} (hd : m_dn I pc .aaload 1 pc') (hw : m_at w a = some (.inl (t, N, els))) (ht : m_tyl[t]? = some (.object c)) (h6 : decide (¬ t < 6) = true) (hi : ¬ y < 0) (hj : y.toNatClampNeg = j) (hN : j < N) (hv : m_el t els j = .ref b) : m_nx ic I (pc, lv, .int y :: .ref a :: r, w) = some ((pc', lv, .ref b :: r, w), 0, 0, 0, 0) := by
  refine x_hs hd rfl rfl rfl ?_
  have h2 : ¬ (y < 0 ∨ N ≤ j) := fun h => h.elim hi (fun h => absurd hN (Nat.not_lt.mpr h))
  simp only [m_hs, m_aald, hw, ht, hj, hv]
  rw [if_pos ⟨of_decide_eq_true h6, h2⟩]
theorem x_aaload0 {t a N j : Nat} {c : String} {els : List (Nat × Value)} (hd : m_dn I pc .aaload 1 pc') (hw : m_at w a = some (.inl (t, N, els))) (ht : m_tyl[t]? = some (.object c)) (h6 : decide (¬ t < 6) = true) (hi : ¬ y < 0) (hj : y.toNatClampNeg = j) (hN : j < N) (hv : m_el t els j = .null) : m_nx ic I (pc, lv, .int y :: .ref a :: r, w) = some ((pc', lv, .null :: r, w), 0, 0, 0, 0) := by
  refine x_hs hd rfl rfl rfl ?_
  have h2 : ¬ (y < 0 ∨ N ≤ j) := fun h => h.elim hi (fun h => absurd hN (Nat.not_lt.mpr h))
  simp only [m_hs, m_aald, hw, ht, hj, hv]
  rw [if_pos ⟨of_decide_eq_true h6, h2⟩]
theorem x_iastore {a N j : Nat} {els : List (Nat × Value)} (hd : m_dn I pc .iastore 1 pc') (hw : m_at w a = some (.inl (0, N, els))) (hi : ¬ y < 0) (hj : y.toNatClampNeg = j) (hN : j < N) (hz : vp_nar .int x = z) : m_nx ic I (pc, lv, .int x :: .int y :: .ref a :: r, w) = some ((pc', lv, r, w.set (a - 512) (.inl (0, N, m_sel els j (.int z)))), 0, 0, 0, 0) := by
  refine x_hs hd rfl rfl rfl ?_
  have h2 : ¬ (y < 0 ∨ N ≤ j) := fun h => h.elim hi (fun h => absurd hN (Nat.not_lt.mpr h))
  simp only [m_hs, m_ast, hw, hj, if_true]
  rw [if_pos h2, hz]
theorem x_castore {a N j : Nat} {els : List (Nat × Value)} (hd : m_dn I pc .castore 1 pc') (hw : m_at w a = some (.inl (2, N, els))) (hi : ¬ y < 0) (hj : y.toNatClampNeg = j) (hN : j < N) (hz : vp_nar .char x = z) : m_nx ic I (pc, lv, .int x :: .int y :: .ref a :: r, w) = some ((pc', lv, r, w.set (a - 512) (.inl (2, N, m_sel els j (.int z)))), 0, 0, 0, 0) := by
  refine x_hs hd rfl rfl rfl ?_
  have h2 : ¬ (y < 0 ∨ N ≤ j) := fun h => h.elim hi (fun h => absurd hN (Nat.not_lt.mpr h))
  simp only [m_hs, m_ast, hw, hj, if_true]
  rw [if_pos h2, hz]
theorem x_lastore {a N j : Nat} {b : Int64} {els : List (Nat × Value)} (hd : m_dn I pc .lastore 1 pc') (hw : m_at w a = some (.inl (1, N, els))) (hi : ¬ y < 0) (hj : y.toNatClampNeg = j) (hN : j < N) : m_nx ic I (pc, lv, .long b :: .int y :: .ref a :: r, w) = some ((pc', lv, r, w.set (a - 512) (.inl (1, N, m_sel els j (.long b)))), 0, 0, 0, 0) := by
  refine x_hs hd rfl rfl rfl ?_
  have h2 : ¬ (y < 0 ∨ N ≤ j) := fun h => h.elim hi (fun h => absurd hN (Nat.not_lt.mpr h))
  simp only [m_hs, m_last, hw, hj]
  rw [if_pos ⟨trivial, h2⟩]
theorem x_ldc2 {kk : Nat} (hd : m_dn I pc (.ldc2_w k) 3 pc') (h : m_oe I 3 k = some (kk, v)) : m_nx ic I (pc, lv, st, w) = some ((pc', lv, v :: st, w), 0, 0, 0, 0) := by
  refine x_hs hd rfl rfl rfl ?_
  simp only [m_hs, m_ldc2, h]
theorem x_ldc {kk : Nat} (hd : m_dn I pc (.ldc k) 2 pc') (h : m_oe I 2 k = some (kk, v)) : m_nx ic I (pc, lv, st, w) = some ((pc', lv, v :: st, w), 0, 0, 0, 0) := by
  refine x_hs hd rfl rfl rfl ?_
  simp only [m_hs, m_ldc, h]
end
theorem m_Rq.n0 {I : mI} {F F' : mF} {P : Option Value → List mM → Prop} {c s f l : Nat} (h : m_nx m_nn I F = some (F', 0, 0, 0, 0)) (k : m_Rq I F' P c s f l) : m_Rq I F P c s f l := by
  have := m_Rq.nx h k (Nat.zero_le _) (Nat.zero_le _)
  rw [Nat.zero_add, Nat.zero_add] at this
  exact this
theorem m_Rq.ir {I : mI} {pc pc' : Nat} {lv : List (Nat × Value)} {x : Int32} {w : List mM} {ty : FieldType} {P : Option Value → List mM → Prop} {c s f l : Nat} (hd : m_dn I pc .ireturn 1 pc') (hty : I.2.2.2.2.1 = some ty) (hn : narrow ty (.int x) = .int x) (hP : P (some (.int x)) w) : m_Rq I (pc, lv, [.int x], w) P c s f l := by
  refine m_Rq.ret (v := some (.int x)) ?_ hP
  unfold m_rt
  simp only [hd.1]
  unfold m_re
  simp only [hty]
  rw [if_pos ⟨trivial, hn⟩]
theorem m_Rq.vr {I : mI} {pc pc' : Nat} {lv : List (Nat × Value)} {w : List mM} {P : Option Value → List mM → Prop} {c s f l : Nat} (hd : m_dn I pc .return_ 1 pc') (hty : I.2.2.2.2.1 = none) (hP : P none w) : m_Rq I (pc, lv, [], w) P c s f l := by
  refine m_Rq.ret (v := none) ?_ hP
  unfold m_rt
  simp only [hd.1]
  unfold m_re
  simp only [hty]
  rfl
theorem m_Rq.nr {I : mI} {pc pc' : Nat} {lv : List (Nat × Value)} {c9 : String} {w : List mM} {P : Option Value → List mM → Prop} {c s f l : Nat} (hd : m_dn I pc .areturn 1 pc') (hty : I.2.2.2.2.1 = some (.object c9)) (hP : P (some .null) w) : m_Rq I (pc, lv, [.null], w) P c s f l := by
  refine m_Rq.ret (v := some .null) ?_ hP
  unfold m_rt
  simp only [hd.1]
  unfold m_re
  simp only [hty]
  rfl
/-- frames whose references are below 512 + n -/
def m_okn (n : Nat) (F : mF) : Bool := F.2.1.all (fun q => m_okv n q.2) && F.2.2.1.all (m_okv n)
theorem m_okn_okf {n : Nat} {F : mF} (h : m_okn n F = true) (hn : n ≤ F.2.2.2.length) : m_okf F = true := by
  unfold m_okn at h
  unfold m_okf
  simp only [Bool.and_eq_true, List.all_eq_true] at h ⊢
  exact ⟨fun q hq => m_okv_mono (h.1 q hq) hn, fun q hq => m_okv_mono (h.2 q hq) hn⟩
section
variable {I J : mI} {pc pc' k mid x9 n : Nat} {lv : List (Nat × Value)} {st as rest : List Value} {w : List mM}
theorem x_cs (hd : m_dn I pc (.invokestatic k) 3 pc') (hc : m_ce I k = some (2, mid, x9)) (hJ : m_mt[mid]? = some J) (ht : m_takeS J st = some (J, as, rest)) (ho : m_okn n (pc, lv, st, w) = true) (hn : n ≤ w.length) (ha : decide ((lg_sl as).length ≤ J.2.2.1) = true) (h0 : m_c0 I (.invokestatic k) st = none) : m_at1 I (pc, lv, st, w) = some (J, as, rest) := by
  unfold m_at1
  have h1 : m_ps (.invokestatic k) st = none := rfl
  have h2 : m_lo I.2.2.1 (.invokestatic k) lv st = none := rfl
  have h3 : m_br w.length pc (.invokestatic k) 3 st = none := rfl
  have h4 : m_hs I (.invokestatic k) st w = none := rfl
  have h5 : m_xs I (.invokestatic k) st w = none := rfl
  have h6 : m_ca I (.invokestatic k) st w = some (J, as, rest) := by
    unfold m_ca
    simp only [hc, hJ, if_true, ht]
  simp only [hd.1, h1, h2, h3, h4, h5, h0, h6]
  rw [if_pos ⟨trivial, m_okn_okf ho hn, of_decide_eq_true ha⟩]
theorem x_cv {ci : Nat} (hd : m_dn I pc (.invokevirtual k) 3 pc') (hc : m_ce I k = some (1, mid, ci)) (hJ : m_mt[mid]? = some J) (hr : m_isRecv st w J.2.2.2.1 ci = true) (ht : m_takeI J st = some (J, as, rest)) (ho : m_okn n (pc, lv, st, w) = true) (hn : n ≤ w.length) (ha : decide ((lg_sl as).length ≤ J.2.2.1) = true) : m_at1 I (pc, lv, st, w) = some (J, as, rest) := by
  unfold m_at1
  have h0 : m_c0 I (.invokevirtual k) st = none := rfl
  have h1 : m_ps (.invokevirtual k) st = none := rfl
  have h2 : m_lo I.2.2.1 (.invokevirtual k) lv st = none := rfl
  have h3 : m_br w.length pc (.invokevirtual k) 3 st = none := rfl
  have h4 : m_hs I (.invokevirtual k) st w = none := rfl
  have h5 : m_xs I (.invokevirtual k) st w = none := rfl
  have h6 : m_ca I (.invokevirtual k) st w = some (J, as, rest) := by
    unfold m_ca
    simp only [hc, hJ, if_true, hr, ht]
  simp only [hd.1, h1, h2, h3, h4, h5, h0, h6]
  rw [if_pos ⟨trivial, m_okn_okf ho hn, of_decide_eq_true ha⟩]
theorem m_isRecv_of {a cj : Nat} {fs : List Value} {m : Nat} (h1 : st[m]? = some (.ref a)) (h2 : m_at w a = some (.inr (cj, fs))) : m_isRecv st w m cj = true := by
  unfold m_isRecv
  rw [h1]
  simp only [h2, decide_true]
end
