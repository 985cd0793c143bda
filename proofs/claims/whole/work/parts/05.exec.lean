/-! The small machine's steps. -/
abbrev mF : Type := Nat × List (Nat × Value) × List Value × List mM
abbrev mR : Type := Option Value × List mM × Nat × Nat × Nat × Nat
def m_fe (I : mI) (k : Nat) : Option (Nat × Nat × Nat) := (I.2.2.2.2.2.1.find? (fun q => q.1 == k)).map (·.2)
def m_ce (I : mI) (k : Nat) : Option (Nat × Nat × Nat) := (I.2.2.2.2.2.2.1.find? (fun q => q.1 == k)).map (·.2)
def m_oe (I : mI) (kd k : Nat) : Option (Nat × Value) := (I.2.2.2.2.2.2.2.1.find? (fun q => q.1 == k && q.2.1 == kd)).map (·.2.2)
def m_de (I : mI) (pc : Nat) : Option (Instr × Nat) := (I.2.2.2.2.2.2.2.2.find? (fun q => q.1 == pc)).map (·.2)
def m_lv (lv : List (Nat × Value)) (i : Nat) : Option Value := (lv.find? (fun q => q.1 == i)).map (·.2)
def m_put1 (lv : List (Nat × Value)) (i : Nat) (v : Value) : List (Nat × Value) := (i, v) :: lv.filter (fun q => !(q.1 == i) && !(q.1 + 1 == i && q.2.category == 2))
def m_put2 (lv : List (Nat × Value)) (i : Nat) (v : Value) : List (Nat × Value) := (i, v) :: lv.filter (fun q => !(q.1 == i) && (!(q.1 == i + 1) && !(q.1 + 1 == i && q.2.category == 2)))
def m_jmp (pc : Nat) (off : Int) : Option Nat := if (((pc : Int) + off).toNat : Int) = (pc : Int) + off then some ((pc : Int) + off).toNat else none
-- the stack alone: the length of the instruction, the new stack
def m_b2 (f : Int32 → Int32 → Int32) (st : List Value) : Option (Nat × List Value) := match st with
  | .int y :: .int x :: r => some (1, .int (f x y) :: r)
  | _ => none
def m_b2n (f : Int32 → Int32 → Int32) (st : List Value) : Option (Nat × List Value) := match st with
  | .int y :: .int x :: r => if y = 0 then none else some (1, .int (f x y) :: r)
  | _ => none
def m_u1 (f : Int32 → Int32) (st : List Value) : Option (Nat × List Value) := match st with
  | .int x :: r => some (1, .int (f x) :: r)
  | _ => none
def m_l2 (f : Int64 → Int64 → Int64) (st : List Value) : Option (Nat × List Value) := match st with
  | .long y :: .long x :: r => some (1, .long (f x y) :: r)
  | _ => none
def m_ls (f : Int64 → Int32 → Int64) (st : List Value) : Option (Nat × List Value) := match st with
  | .int y :: .long x :: r => some (1, .long (f x y) :: r)
  | _ => none
def m_i2l (st : List Value) : Option (Nat × List Value) := match st with
  | .int x :: r => some (1, .long x.toInt64 :: r)
  | _ => none
def m_l2i (st : List Value) : Option (Nat × List Value) := match st with
  | .long x :: r => some (1, .int x.toInt32 :: r)
  | _ => none
def m_lcmp (st : List Value) : Option (Nat × List Value) := match st with
  | .long y :: .long x :: r => some (1, .int (lg_cmp x y) :: r)
  | _ => none
def m_dup (st : List Value) : Option (Nat × List Value) := match st with
  | v :: r => if v.category = 1 then some (1, v :: v :: r) else none
  | _ => none
def m_pop (st : List Value) : Option (Nat × List Value) := match st with
  | v :: r => if v.category = 1 then some (1, r) else none
  | _ => none
def m_dupx1 (st : List Value) : Option (Nat × List Value) := match st with
  | v :: u :: r => if v.category = 1 ∧ u.category = 1 then some (1, v :: u :: v :: r) else none
  | _ => none
def m_dupx2 (st : List Value) : Option (Nat × List Value) := match st with
  | v :: u :: z :: r => if v.category = 1 ∧ u.category = 1 ∧ z.category = 1 then some (1, v :: u :: z :: v :: r) else none
  | _ => none
def m_dup2 (st : List Value) : Option (Nat × List Value) := match st with
  | v :: u :: r => if v.category = 1 ∧ u.category = 1 then some (1, v :: u :: v :: u :: r) else none
  | _ => none
def m_ps (i : Instr) (st : List Value) : Option (Nat × List Value) := match i with
  | .iconst n => some (1, .int (Int32.ofInt n) :: st)
  | .bipush n => some (2, .int (Int8.ofInt n).toInt32 :: st)
  | .sipush n => some (3, .int (Int16.ofInt n).toInt32 :: st)
  | .lconst n => some (1, .long (Int64.ofNat n) :: st)
  | .aconst_null => some (1, .null :: st)
  | .iadd => m_b2 (fun x y => x + y) st
  | .isub => m_b2 (fun x y => x - y) st
  | .imul => m_b2 (fun x y => x * y) st
  | .iand => m_b2 (fun x y => x &&& y) st
  | .ior => m_b2 (fun x y => x ||| y) st
  | .ixor => m_b2 (fun x y => x ^^^ y) st
  | .idiv => m_b2n (fun x y => x / y) st
  | .irem => m_b2n (fun x y => x - x / y * y) st
  | .ishl => m_b2 (fun x y => x <<< (y &&& 31)) st
  | .ishr => m_b2 (fun x y => x >>> (y &&& 31)) st
  | .iushr => m_b2 (fun x y => (x.toUInt32 >>> (y.toUInt32 &&& Int32.toUInt32 31)).toInt32) st
  | .ineg => m_u1 (fun x => -x) st
  | .i2b => m_u1 (fun x => x.toInt8.toInt32) st
  | .i2s => m_u1 (fun x => x.toInt16.toInt32) st
  | .i2c => m_u1 (fun x => (x.toUInt32 % 65536).toInt32) st
  | .ladd => m_l2 (fun x y => x + y) st
  | .lsub => m_l2 (fun x y => x - y) st
  | .land => m_l2 (fun x y => x &&& y) st
  | .lor => m_l2 (fun x y => x ||| y) st
  | .lxor => m_l2 (fun x y => x ^^^ y) st
  | .lushr => m_ls (fun x y => (x.toUInt64 >>> (y.toInt64.toUInt64 &&& Int64.toUInt64 63)).toInt64) st
  | .lshl => m_ls (fun x y => x <<< (y.toInt64 &&& 63)) st
  | .lshr => m_ls (fun x y => x >>> (y.toInt64 &&& 63)) st
  | .i2l => m_i2l st
  | .l2i => m_l2i st
  | .lcmp => m_lcmp st
  | .dup => m_dup st
  | .pop => m_pop st
  | .dup_x1 => m_dupx1 st
  | .dup_x2 => m_dupx2 st
  | .dup2 => m_dup2 st
  | _ => none
-- locals: the length, the new locals, the new stack
def m_ldi (len i : Nat) (lv : List (Nat × Value)) (st : List Value) : Option (Nat × List (Nat × Value) × List Value) := match m_lv lv i with
  | some (.int x) => some (len, lv, .int x :: st)
  | _ => none
def m_ldl (len i : Nat) (lv : List (Nat × Value)) (st : List Value) : Option (Nat × List (Nat × Value) × List Value) := match m_lv lv i with
  | some (.long x) => some (len, lv, .long x :: st)
  | _ => none
def m_lda (len i : Nat) (lv : List (Nat × Value)) (st : List Value) : Option (Nat × List (Nat × Value) × List Value) := match m_lv lv i with
  | some (.ref x) => some (len, lv, .ref x :: st)
  | some .null => some (len, lv, .null :: st)
  | some (.retAddr n) => some (len, lv, .retAddr n :: st)
  | _ => none
def m_sti (nL len i : Nat) (lv : List (Nat × Value)) (st : List Value) : Option (Nat × List (Nat × Value) × List Value) := match st with
  | .int x :: r => if i < nL then some (len, m_put1 lv i (.int x), r) else none
  | _ => none
def m_stl2 (nL len i : Nat) (lv : List (Nat × Value)) (st : List Value) : Option (Nat × List (Nat × Value) × List Value) := match st with
  | .long x :: r => if i + 1 < nL then some (len, m_put2 lv i (.long x), r) else none
  | _ => none
def m_sta (nL len i : Nat) (lv : List (Nat × Value)) (st : List Value) : Option (Nat × List (Nat × Value) × List Value) := match st with
  | .ref x :: r => if i < nL then some (len, m_put1 lv i (.ref x), r) else none
  | .null :: r => if i < nL then some (len, m_put1 lv i .null, r) else none
  | .retAddr n :: r => if i < nL then some (len, m_put1 lv i (.retAddr n), r) else none
  | _ => none
def m_inc (nL i : Nat) (n : Int) (lv : List (Nat × Value)) (st : List Value) : Option (Nat × List (Nat × Value) × List Value) := match m_lv lv i with
  | some (.int x) => if i < nL then some (3, m_put1 lv i (.int (x + Int32.ofInt n)), st) else none
  | _ => none
def m_lo (nL : Nat) (i : Instr) (lv : List (Nat × Value)) (st : List Value) : Option (Nat × List (Nat × Value) × List Value) := match i with
  | .iload k => m_ldi 2 k lv st
  | .iload_n k => m_ldi 1 k lv st
  | .lload k => m_ldl 2 k lv st
  | .lload_n k => m_ldl 1 k lv st
  | .aload k => m_lda 2 k lv st
  | .aload_n k => m_lda 1 k lv st
  | .istore k => m_sti nL 2 k lv st
  | .istore_n k => m_sti nL 1 k lv st
  | .lstore k => m_stl2 nL 2 k lv st
  | .lstore_n k => m_stl2 nL 1 k lv st
  | .astore k => m_sta nL 2 k lv st
  | .astore_n k => m_sta nL 1 k lv st
  | .iinc k n => m_inc nL k n lv st
  | _ => none
-- branches: the new place, the new stack
def m_b1 (pc : Nat) (off : Int) (len : Nat) (f : Int32 → Bool) (st : List Value) : Option (Nat × List Value) := match st with
  | .int x :: r => if len = 3 then (m_jmp pc off).map (fun t => (if f x = true then t else pc + 3, r)) else none
  | _ => none
def m_bb (pc : Nat) (off : Int) (len : Nat) (f : Int32 → Int32 → Bool) (st : List Value) : Option (Nat × List Value) := match st with
  | .int y :: .int x :: r => if len = 3 then (m_jmp pc off).map (fun t => (if f x y = true then t else pc + 3, r)) else none
  | _ => none
def m_c1 (c : ClassFile.Cond) (x : Int32) : Bool := match c with
  | .eq => decide (x = 0)
  | .ne => decide (¬ x = 0)
  | .lt => decide (x < 0)
  | .ge => decide (0 ≤ x)
  | .gt => decide (0 < x)
  | .le => decide (x ≤ 0)
def m_c2 (c : ClassFile.Cond) (x y : Int32) : Bool := match c with
  | .eq => decide (x = y)
  | .ne => decide (¬ x = y)
  | .lt => decide (x < y)
  | .ge => decide (y ≤ x)
  | .gt => decide (y < x)
  | .le => decide (x ≤ y)
def m_bn (pc : Nat) (off : Int) (len : Nat) (onNull : Bool) (st : List Value) : Option (Nat × List Value) := match st with
  | .null :: r => if len = 3 then (m_jmp pc off).map (fun t => (if onNull = true then t else pc + 3, r)) else none
  | .ref _ :: r => if len = 3 then (m_jmp pc off).map (fun t => (if onNull = true then pc + 3 else t, r)) else none
  | _ => none
def m_rf (v : Value) : Option (Option Nat) := match v with
  | .null => some none
  | .ref k => some (some k)
  | _ => none
def m_apart (n : Nat) (a b : Option Nat) : Bool := match a, b with
  | some x, some y => (decide (512 ≤ x) || decide (512 ≤ y)) && decide (x < 512 + n) && decide (y < 512 + n)
  | _, _ => true
def m_ba (n pc : Nat) (off : Int) (len : Nat) (onEq : Bool) (st : List Value) : Option (Nat × List Value) := match st with
  | b :: a :: r => match m_rf a, m_rf b with
    | some x, some y => if len = 3 ∧ (x = y ∨ m_apart n x y = true) then (m_jmp pc off).map (fun t => (if decide (x = y) = onEq then t else pc + 3, r)) else none
    | _, _ => none
  | _ => none
def m_tsw (pc : Nat) (dflt lo hi : Int) (offs : Array Int) (st : List Value) : Option (Nat × List Value) := match st with
  | .int x :: r => if x.toInt < lo ∨ hi < x.toInt then (m_jmp pc dflt).map (fun t => (t, r)) else match offs[(x.toInt - lo).toNat]? with
    | some off => (m_jmp pc off).map (fun t => (t, r))
    | none => none
  | _ => none
def m_lsw (pc : Nat) (dflt : Int) (ps : Array (Int × Int)) (st : List Value) : Option (Nat × List Value) := match st with
  | .int x :: r => if (ps.toList.zip (ps.toList.drop 1)).all (fun (a, next) => a.1 < next.1) = true then (m_jmp pc (Op.lookupswitch.offset ps.toList dflt x.toInt)).map (fun t => (t, r)) else none
  | _ => none
def m_br (n pc : Nat) (i : Instr) (len : Nat) (st : List Value) : Option (Nat × List Value) := match i with
  | .ifCond c off => m_b1 pc off len (m_c1 c) st
  | .if_icmp c off => m_bb pc off len (m_c2 c) st
  | .ifnull off => m_bn pc off len true st
  | .ifnonnull off => m_bn pc off len false st
  | .if_acmp .eq off => m_ba n pc off len true st
  | .if_acmp .ne off => m_ba n pc off len false st
  | .goto off => if len = 3 then (m_jmp pc off).map (fun t => (t, st)) else none
  | .tableswitch dflt lo hi offs => m_tsw pc dflt lo hi offs st
  | .lookupswitch dflt ps => m_lsw pc dflt ps st
  | _ => none
-- the heap: the length, the new stack, the new world, cells, slots
abbrev mH : Type := Option (Nat × List Value × List mM × Nat × Nat)
def m_at (w : List mM) (a : Nat) : Option mM := if a < 512 then none else w[a - 512]?
def m_getf (I : mI) (k : Nat) (st : List Value) (w : List mM) : mH := match st with
  | .ref a :: r => match m_fe I k, m_at w a with
    | some (ci, fk, _), some (.inr (cj, fs)) => if ci = cj then (match fs[fk]? with
      | some v => some (3, v :: r, w, 0, 0)
      | none => none) else none
    | _, _ => none
  | _ => none
def m_ft (ci fk : Nat) : Option FieldType := match m_fl[ci]? with
  | some l => l[fk]?
  | none => none
def m_putf (I : mI) (k : Nat) (st : List Value) (w : List mM) : mH := match st with
  | v :: .ref a :: r => match m_fe I k, m_at w a with
    | some (ci, fk, fl), some (.inr (cj, fs)) => match m_ft ci fk with
      | some ty => if ci = cj ∧ (fl = 1 ∨ fl = 2) ∧ fk < fs.length ∧ narrow ty v = v ∧ fits ty v = true ∧ m_okv w.length v = true then some (3, r, w.set (a - 512) (.inr (ci, fs.set fk v)), 0, 0) else none
      | none => none
    | _, _ => none
  | _ => none
def m_new (I : mI) (k : Nat) (st : List Value) (w : List mM) : mH := match m_oe I 0 k with
  | some (ci, _) => match m_fd[ci]? with
    | some fs => some (3, .ref (512 + w.length) :: st, w ++ [.inr (ci, fs)], 1, fs.length)
    | none => none
  | none => none
def m_aty (t : ArrayType) : Option Nat := match t with
  | .int => some 0
  | .long => some 1
  | .char => some 2
  | .byte => some 3
  | .boolean => some 4
  | _ => none
def m_mka (t len : Nat) (st : List Value) (w : List mM) : mH := match st with
  | .int n :: r => if n < 0 ∨ 65536 < n.toNatClampNeg then none else some (len, .ref (512 + w.length) :: r, w ++ [.inl (t, n.toNatClampNeg, [])], 1, n.toNatClampNeg)
  | _ => none
def m_newa (t : ArrayType) (st : List Value) (w : List mM) : mH := match m_aty t with
  | some t => m_mka t 2 st w
  | none => none
def m_anew (I : mI) (k : Nat) (st : List Value) (w : List mM) : mH := match m_oe I 1 k with
  | some (t, _) => m_mka t 3 st w
  | none => none
def m_alen (st : List Value) (w : List mM) : mH := match st with
  | .ref a :: r => match m_at w a with
    | some (.inl (t, n, _)) => match m_tyl[t]? with
      | some _ => some (1, .int (Int32.ofNat n) :: r, w, 0, 0)
      | none => none
    | _ => none
  | _ => none
def m_ald (ok : Nat → Bool) (st : List Value) (w : List mM) : mH := match st with
  | .int i :: .ref a :: r => match m_at w a with
    | some (.inl (t, n, els)) => if ok t = true ∧ ¬ (i < 0 ∨ n ≤ i.toNatClampNeg) then some (1, (if t = 1 then .long (m_toL (m_el t els i.toNatClampNeg)) else .int (m_toI (m_el t els i.toNatClampNeg))) :: r, w, 0, 0) else none
    | _ => none
  | _ => none
def m_aald (st : List Value) (w : List mM) : mH := match st with
  | .int i :: .ref a :: r => match m_at w a with
    | some (.inl (t, n, els)) => match m_tyl[t]? with
      | some (.object _) => if ¬ t < 6 ∧ ¬ (i < 0 ∨ n ≤ i.toNatClampNeg) then (match m_el t els i.toNatClampNeg with
        | .ref k => some (1, .ref k :: r, w, 0, 0)
        | _ => some (1, .null :: r, w, 0, 0)) else none
      | _ => none
    | _ => none
  | _ => none
def m_ast (ty : Nat → Option FieldType) (st : List Value) (w : List mM) : mH := match st with
  | .int x :: .int i :: .ref a :: r => match m_at w a with
    | some (.inl (t, n, els)) => match ty t with
      | some f => if ¬ (i < 0 ∨ n ≤ i.toNatClampNeg) then some (1, r, w.set (a - 512) (.inl (t, n, m_sel els i.toNatClampNeg (.int (vp_nar f x)))), 0, 0) else none
      | none => none
    | _ => none
  | _ => none
def m_last (st : List Value) (w : List mM) : mH := match st with
  | .long x :: .int i :: .ref a :: r => match m_at w a with
    | some (.inl (t, n, els)) => if t = 1 ∧ ¬ (i < 0 ∨ n ≤ i.toNatClampNeg) then some (1, r, w.set (a - 512) (.inl (t, n, m_sel els i.toNatClampNeg (.long x))), 0, 0) else none
    | _ => none
  | _ => none
def m_aast (st : List Value) (w : List mM) : mH := match st with
  | v :: .int i :: .ref a :: r => match m_at w a with
    | some (.inl (t, n, els)) => match m_tyl[t]? with
      | some (.object _) => if ¬ t < 6 ∧ ¬ (i < 0 ∨ n ≤ i.toNatClampNeg) then (match v with
        | .null => some (1, r, w.set (a - 512) (.inl (t, n, m_sel els i.toNatClampNeg .null)), 0, 0)
        | .ref k => match m_at w k with
          | some (.inr (ci, _)) => if (ci, t) ∈ m_ass ∨ (ci, t) ∈ m_asl then some (1, r, w.set (a - 512) (.inl (t, n, m_sel els i.toNatClampNeg (.ref k))), 0, 0) else none
          | _ => none
        | _ => none) else none
      | _ => none
    | _ => none
  | _ => none
def m_gst (I : mI) (k : Nat) (st : List Value) (w : List mM) : mH := match m_oe I 4 k with
  | some (_, v) => some (3, v :: st, w, 0, 0)
  | none => none
def m_ldc (I : mI) (k len : Nat) (st : List Value) (w : List mM) : mH := match m_oe I 2 k with
  | some (_, v) => some (len, v :: st, w, 0, 0)
  | none => none
def m_ldc2 (I : mI) (k : Nat) (st : List Value) (w : List mM) : mH := match m_oe I 3 k with
  | some (_, v) => some (3, v :: st, w, 0, 0)
  | none => none
def m_hs (I : mI) (i : Instr) (st : List Value) (w : List mM) : mH := match i with
  | .getfield k => m_getf I k st w
  | .putfield k => m_putf I k st w
  | .new k => m_new I k st w
  | .newarray t => m_newa t st w
  | .anewarray k => m_anew I k st w
  | .arraylength => m_alen st w
  | .iaload => m_ald (fun t => decide (t = 0)) st w
  | .laload => m_ald (fun t => decide (t = 1)) st w
  | .caload => m_ald (fun t => decide (t = 2)) st w
  | .baload => m_ald (fun t => decide (t = 3 ∨ t = 4)) st w
  | .aaload => m_aald st w
  | .iastore => m_ast (fun t => if t = 0 then some .int else none) st w
  | .castore => m_ast (fun t => if t = 2 then some .char else none) st w
  | .bastore => m_ast (fun t => if t = 3 then some .byte else if t = 4 then some .boolean else none) st w
  | .lastore => m_last st w
  | .aastore => m_aast st w
  | .getstatic k => m_gst I k st w
  | .ldc k => m_ldc I k 2 st w
  | .ldc_w k => m_ldc I k 3 st w
  | .ldc2_w k => m_ldc2 I k st w
  | _ => none
-- outside cells (the empty list's array, texts and their bytes), texts, casts: the length, the new stack
def m_xget (ci fk a : Nat) : Option Value := if ci = m_sci ∧ 1 ≤ a ∧ a ≤ m_sN then (if fk = 0 then some (.ref (a + 200)) else if fk = 1 then some (.int 0) else none) else none
def m_xby (a : Nat) : Option (List Int32) := if 201 ≤ a ∧ a < 201 + m_sN then m_xbl[a - 201]? else none
def m_xg (I : mI) (k : Nat) (st : List Value) : Option (Nat × List Value) := match st with
  | .ref a :: r => match m_fe I k with
    | some (ci, fk, _) => (m_xget ci fk a).map (fun v => (3, v :: r))
    | none => none
  | _ => none
def m_xl (st : List Value) : Option (Nat × List Value) := match st with
  | .ref a :: r => if a = 0 then some (1, .int 0 :: r) else (m_xby a).map (fun l => (1, .int (Int32.ofNat l.length) :: r))
  | _ => none
def m_xb (st : List Value) : Option (Nat × List Value) := match st with
  | .int i :: .ref a :: r => match m_xby a with
    | some l => if ¬ (i < 0 ∨ l.length ≤ i.toNatClampNeg) then some (1, .int (l.getD i.toNatClampNeg 0) :: r) else none
    | none => none
  | _ => none
def m_xt (I : mI) (k len : Nat) (st : List Value) : Option (Nat × List Value) := (m_oe I 5 k).map (fun q => (len, .ref q.1 :: st))
def m_xc (I : mI) (k : Nat) (st : List Value) (w : List mM) : Option (Nat × List Value) := match st with
  | .null :: r => some (3, .null :: r)
  | .ref a :: r => match m_oe I 6 k, m_at w a with
    | some (ci, _), some (.inr (cj, _)) => if ci = cj then some (3, .ref a :: r) else none
    | _, _ => none
  | _ => none
def m_xs (I : mI) (i : Instr) (st : List Value) (w : List mM) : Option (Nat × List Value) := match i with
  | .getfield k => m_xg I k st
  | .arraylength => m_xl st
  | .baload => m_xb st
  | .ldc k => m_xt I k 2 st
  | .ldc_w k => m_xt I k 3 st
  | .checkcast k => m_xc I k st w
  | _ => none
-- calls that are one step: Object's constructor, Math.max, Math.min: the new stack, room of frames and locals
def m_c0 (I : mI) (i : Instr) (st : List Value) : Option (List Value × Nat × Nat) := match i with
  | .invokespecial k => match m_ce I k, st with
    | some (4, _, _), .ref _ :: r => if (r.map fun v => v.category).sum ≤ 8 then some (r, 1, 20) else none
    | _, _ => none
  | .invokestatic k => match m_ce I k, st with
    | some (5, _, _), .int y :: .int x :: r => if (r.map fun v => v.category).sum ≤ 8 then some (.int (if x < y then y else x) :: r, 1, 21) else none
    | some (6, _, _), .int y :: .int x :: r => if (r.map fun v => v.category).sum ≤ 8 then some (.int (if y < x then y else x) :: r, 1, 21) else none
    | _, _ => none
  | _ => none
-- calls: the callee, the kind, its arguments, what stays on the stack
def m_takeI (J : mI) (st : List Value) : Option (mI × List Value × List Value) := match st[J.2.2.2.1]? with
  | some (.ref a) => if ((st.drop (J.2.2.2.1 + 1)).map fun v => v.category).sum ≤ 8 then some (J, .ref a :: (st.take J.2.2.2.1).reverse, st.drop (J.2.2.2.1 + 1)) else none
  | _ => none
def m_takeS (J : mI) (st : List Value) : Option (mI × List Value × List Value) := if J.2.2.2.1 ≤ st.length ∧ ((st.drop J.2.2.2.1).map fun v => v.category).sum ≤ 8 then some (J, (st.take J.2.2.2.1).reverse, st.drop J.2.2.2.1) else none
def m_isRecv (st : List Value) (w : List mM) (n ci : Nat) : Bool := match st[n]? with
  | some (.ref a) => match m_at w a with
    | some (.inr (cj, _)) => decide (ci = cj)
    | some (.inl _) => false
    | none => decide (ci = m_sci ∧ 1 ≤ a ∧ a ≤ m_sN)
  | _ => false
def m_ca (I : mI) (i : Instr) (st : List Value) (w : List mM) : Option (mI × List Value × List Value) := match i with
  | .invokespecial k => match m_ce I k with
    | some (kd, mid, _) => if kd = 0 ∨ kd = 3 then (match m_mt[mid]? with
      | some J => m_takeI J st
      | none => none) else none
    | none => none
  | .invokevirtual k => match m_ce I k with
    | some (kd, mid, ci) => if kd = 1 then (match m_mt[mid]? with
      | some J => if m_isRecv st w J.2.2.2.1 ci = true then m_takeI J st else none
      | none => none) else none
    | none => none
  | .invokestatic k => match m_ce I k with
    | some (kd, mid, _) => if kd = 2 then (match m_mt[mid]? with
      | some J => m_takeS J st
      | none => none) else none
    | none => none
  | _ => none
-- returns
def m_re (I : mI) (i : Instr) (len : Nat) (st : List Value) : Option (Option Value) := match i, st, I.2.2.2.2.1 with
  | .return_, [], none => if len = 1 then some none else none
  | .ireturn, [.int v], some ty => if len = 1 ∧ narrow ty (.int v) = .int v then some (some (.int v)) else none
  | .lreturn, [.long v], some .long => if len = 1 then some (some (.long v)) else none
  | .areturn, [.null], some (.object _) => if len = 1 then some (some .null) else none
  | .areturn, [.ref k], some (.object _) => if len = 1 then some (some (.ref k)) else none
  | .areturn, [.null], some (.array _) => if len = 1 then some (some .null) else none
  | .areturn, [.ref k], some (.array _) => if len = 1 then some (some (.ref k)) else none
  | _, _, _ => none
def m_okf (F : mF) : Bool := F.2.1.all (fun q => m_okv F.2.2.2.length q.2) && F.2.2.1.all (m_okv F.2.2.2.length)
def m_ent (J : mI) (as : List Value) (w : List mM) : mF := (0, lv_args 0 as, [], w)
def m_add (c s f l : Nat) (r : mR) : mR := (r.1, r.2.1, c + r.2.2.1, s + r.2.2.2.1, max f r.2.2.2.2.1, max l r.2.2.2.2.2)
/-- one step, or a call ('ic' runs the callee): the next place, cells, slots, frames, locals -/
def m_nx (ic : mI → mF → Option mR) (I : mI) (F : mF) : Option (mF × Nat × Nat × Nat × Nat) := match m_de I F.1 with
  | some (i, len) =>
    match m_ps i F.2.2.1 with
    | some (n, st') => if n = len then some ((F.1 + len, F.2.1, st', F.2.2.2), 0, 0, 0, 0) else none
    | none => match m_lo I.2.2.1 i F.2.1 F.2.2.1 with
      | some (n, lv', st') => if n = len then some ((F.1 + len, lv', st', F.2.2.2), 0, 0, 0, 0) else none
      | none => match m_br F.2.2.2.length F.1 i len F.2.2.1 with
        | some (pc', st') => some ((pc', F.2.1, st', F.2.2.2), 0, 0, 0, 0)
        | none => match m_hs I i F.2.2.1 F.2.2.2 with
          | some (n, st', w', dc, ds) => if n = len ∧ (dc = 0 ∨ m_okf F = true) then some ((F.1 + len, F.2.1, st', w'), dc, ds, 0, 0) else none
          | none => match m_xs I i F.2.2.1 F.2.2.2 with
            | some (n, st') => if n = len then some ((F.1 + len, F.2.1, st', F.2.2.2), 0, 0, 0, 0) else none
            | none => match m_c0 I i F.2.2.1 with
              | some (st', f, l) => if len = 3 then some ((F.1 + 3, F.2.1, st', F.2.2.2), 0, 0, f, l) else none
              | none => match m_ca I i F.2.2.1 F.2.2.2 with
                | some (J, as, rest) => if len = 3 ∧ m_okf F = true ∧ (lg_sl as).length ≤ J.2.2.1 then (match ic J (m_ent J as F.2.2.2) with
                  | some r => some ((F.1 + 3, F.2.1, r.1.toList ++ rest, r.2.1), r.2.2.1, r.2.2.2.1, r.2.2.2.2.1 + 1, 8 + (J.2.2.1 + 11) + r.2.2.2.2.2)
                  | none => none) else none
                | none => none
  | none => none
def m_rt (I : mI) (F : mF) : Option (Option Value) := match m_de I F.1 with
  | some (i, len) => m_re I i len F.2.2.1
  | none => none
/-- a method to its end -/
def m_exec (f : Nat) : mI → mF → Option mR := Nat.rec (fun _ _ => none) (fun _ ih I F => match m_nx ih I F with
  | some (F', c, s, f, l) => (ih I F').map (m_add c s f l)
  | none => match m_rt I F with
    | some v => some (v, F.2.2.2, 0, 0, 0, 0)
    | none => none) f
theorem m_exec_s (f : Nat) (I : mI) (F : mF) : m_exec (f + 1) I F = match m_nx (m_exec f) I F with
  | some (F', c, s, f9, l) => (m_exec f I F').map (m_add c s f9 l)
  | none => match m_rt I F with
    | some v => some (v, F.2.2.2, 0, 0, 0, 0)
    | none => none := rfl
/-- a method until it comes to the place 'stop' -/
def m_seg (stop : Nat) (g f : Nat) (I : mI) : mF → Option (mF × Nat × Nat × Nat × Nat) := Nat.rec (fun _ => none) (fun _ ih F => if F.1 = stop then some (F, 0, 0, 0, 0) else match m_nx (m_exec g) I F with
  | some (F', c, s, f, l) => (ih F').map (fun r => (r.1, c + r.2.1, s + r.2.2.1, max f r.2.2.2.1, max l r.2.2.2.2))
  | none => none) f
theorem m_seg_s (stop g f : Nat) (I : mI) (F : mF) : m_seg stop g (f + 1) I F = if F.1 = stop then some (F, 0, 0, 0, 0) else match m_nx (m_exec g) I F with
  | some (F', c, s, f9, l) => (m_seg stop g f I F').map (fun r => (r.1, c + r.2.1, s + r.2.2.1, max f9 r.2.2.2.1, max l r.2.2.2.2))
  | none => none := rfl
