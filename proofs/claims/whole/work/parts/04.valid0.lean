def m_stl : List (String × String × String × Value) := [("java/util/ArrayList", "DEFAULTCAPACITY_EMPTY_ELEMENTDATA", "[Ljava/lang/Object;", .ref 0), ("java/lang/String", "COMPACT_STRINGS", "Z", .int 1)]
/-! The names are right: every class, method and pool entry has its words among the tables': written by wip/tool/gen.py. -/
def m_fOk (y : MethodName) (q : Nat × Nat × Nat × Nat) : Prop := ∃ r : vw_C, m_cl[q.2.1]? = some r ∧ q.2.2.1 < r.2.2 ∧ (∃ ref : String, Cond.fieldLink y.cls q.1 ref (r.2.1 q.2.2.1).2.1 (r.2.1 q.2.2.1).2.2.1 ∈ m_gt ∧ (ref = (r.2.1 q.2.2.1).1 ∨ Cond.sameField ref (r.2.1 q.2.2.1).1 (r.2.1 q.2.2.1).2.1 (r.2.1 q.2.2.1).2.2.1 ∈ m_gt)) ∧ (q.2.2.2 = 1 → (r.2.1 q.2.2.1).2.2.2 = false) ∧ (q.2.2.2 = 2 → (r.2.1 q.2.2.1).2.2.2 = true ∧ y.name = "<init>" ∧ (r.2.1 q.2.2.1).1 = y.cls)
def m_nwk : Cond → Bool
  | .methodLinkNest .. => true
  | .castable .. => true
  | .declares .. => true
  | _ => false
def m_nw : List Cond := lw_tbl.filter m_nwk
def m_cOk (y : MethodName) (q : Nat × Nat × Nat × Nat) : Prop :=
  (q.2.1 = 4 → Cond.methodLink y.cls q.1 objectInit ∈ m_gt) ∧ (q.2.1 = 5 → Cond.methodLink y.cls q.1 Lib.Math.max.name ∈ m_gt) ∧ (q.2.1 = 6 → Cond.methodLink y.cls q.1 Lib.Math.min.name ∈ m_gt) ∧ (q.2.1 < 4 → ∃ J : mI, m_mt[q.2.2.1]? = some J ∧
    (q.2.1 = 0 → J.1.name = "<init>" ∧ J.2.2.2.2.1 = none ∧ Cond.methodLink y.cls q.1 J.1 ∈ m_gt ∧ Cond.instanceMethod J.1 ∈ m_gt) ∧
    (q.2.1 = 1 → Cond.methodLink y.cls q.1 J.1 ∈ m_gt ∧ Cond.instanceMethod J.1 ∈ m_gt ∧ ∃ r : vw_C, m_cl[q.2.2.2]? = some r ∧ r.1 = J.1.cls ∧ Cond.selects J.1.cls J.1 J.1 ∈ m_gt) ∧
    (q.2.1 = 2 → Cond.methodLink y.cls q.1 J.1 ∈ m_gt ∧ Cond.static J.1 ∈ m_gt) ∧
    (q.2.1 = 3 → J.1.name = "<init>" ∧ J.2.2.2.2.1 = none ∧ Cond.instanceMethod J.1 ∈ m_gt ∧ ∃ host : String, Cond.methodLinkNest y.cls q.1 J.1 host ∈ m_nw))
def m_oOk (y : MethodName) (q : Nat × Nat × Nat × Value) : Prop :=
  (q.2.1 = 0 → ∃ r : vw_C, m_cl[q.2.2.1]? = some r ∧ Cond.classLink y.cls q.1 r.1 ∈ m_gt ∧ Cond.instantiable r.1 r.2.2 ∈ m_gt ∧ Cond.initialized r.1 ∈ m_gt) ∧
  (q.2.1 = 1 → ¬ q.2.2.1 < 6 ∧ ∃ C : String, C ∈ m_obl ∧ m_tyl[q.2.2.1]? = some (.object C) ∧ Cond.classLink y.cls q.1 C ∈ m_gt) ∧
  (q.2.1 = 2 → ∃ x : Int32, q.2.2.2 = .int x ∧ Cond.constant y.cls q.1 x ∈ m_gt) ∧
  (q.2.1 = 3 → ∃ x : Int64, q.2.2.2 = .long x ∧ Cond.constantLong y.cls q.1 x ∈ m_gt) ∧
  (q.2.1 = 4 → ∃ C n d : String, (C, n, d, q.2.2.2) ∈ m_stl ∧ Cond.fieldLink y.cls q.1 C n d ∈ m_gt) ∧ q.2.1 < 5
def m_mOk (I : mI) : Prop := Cond.code I.1 I.2.1 I.2.2.1 I.2.2.2.2.1 ∈ m_gt ∧ Cond.initialized I.1.cls ∈ m_gt ∧ plainName I.1.cls = true ∧ (I.1.cls ≠ "java/lang/invoke/MethodHandle" ∧ I.1.cls ≠ "java/lang/invoke/VarHandle") ∧ (parseMethodDescriptor I.1.desc).map (fun d => d.parameters.length) = some I.2.2.2.1 ∧ (∀ q ∈ I.2.2.2.2.2.1, m_fOk I.1 q) ∧ (∀ q ∈ I.2.2.2.2.2.2.1, m_cOk I.1 q) ∧ (∀ q ∈ I.2.2.2.2.2.2.2.1, m_oOk I.1 q) ∧ ∀ q ∈ I.2.2.2.2.2.2.2.2, decode I.2.1 q.1 = .ok (q.2.1, q.2.2)
theorem m_n0 {a b : Nat} {P : Prop} (h : (Nat.beq a b) = false) : a = b → P := fun e => by subst e; simp at h
theorem m_n1 {a b : Nat} {P : Prop} (h : (Nat.ble b a) = true) : a < b → P := fun e => absurd (Nat.le_of_ble_eq_true h) (Nat.not_le.mpr e)
def m_asl : List (Nat × Nat) := [(0, 8), (1, 8), (4, 8), (5, 8), (14, 8), (13, 8), (6, 8), (7, 8), (8, 8), (9, 8), (10, 8), (11, 8), (12, 8)]
def m_ass : List (Nat × Nat) := [(13, 6), (4, 7)]
theorem m_asl_ok : ∀ q ∈ m_asl, ∃ (r : vw_C) (C : String), m_cl[q.1]? = some r ∧ m_tyl[q.2]? = some (.object C) ∧ Cond.castable r.1 C ∈ m_nw := (List.forall_mem_cons.mpr ⟨⟨(R_0, F_0, 15), "java/lang/Object", rfl, rfl, (List.mem_filter.mpr ⟨m_in12 (List.mem_of_getElem? (i := 57) rfl), rfl⟩)⟩, (List.forall_mem_cons.mpr ⟨⟨(R_1, F_1, 16), "java/lang/Object", rfl, rfl, (List.mem_filter.mpr ⟨m_in12 (List.mem_of_getElem? (i := 58) rfl), rfl⟩)⟩, (List.forall_mem_cons.mpr ⟨⟨(R_4, F_4, 11), "java/lang/Object", rfl, rfl, (List.mem_filter.mpr ⟨m_in12 (List.mem_of_getElem? (i := 59) rfl), rfl⟩)⟩, (List.forall_mem_cons.mpr ⟨⟨(R_5, F_5, 3), "java/lang/Object", rfl, rfl, (List.mem_filter.mpr ⟨m_in12 (List.mem_of_getElem? (i := 60) rfl), rfl⟩)⟩, (List.forall_mem_cons.mpr ⟨⟨(R_14, F_14, 92), "java/lang/Object", rfl, rfl, (List.mem_filter.mpr ⟨m_in12 (List.mem_of_getElem? (i := 61) rfl), rfl⟩)⟩, (List.forall_mem_cons.mpr ⟨⟨(R_13, F_13, 10), "java/lang/Object", rfl, rfl, (List.mem_filter.mpr ⟨m_in12 (List.mem_of_getElem? (i := 62) rfl), rfl⟩)⟩, (List.forall_mem_cons.mpr ⟨⟨(R_6, F_6, 19), "java/lang/Object", rfl, rfl, (List.mem_filter.mpr ⟨m_in12 (List.mem_of_getElem? (i := 63) rfl), rfl⟩)⟩, (List.forall_mem_cons.mpr ⟨⟨(R_7, F_7, 8), "java/lang/Object", rfl, rfl, (List.mem_filter.mpr ⟨m_in12 (List.mem_of_getElem? (i := 64) rfl), rfl⟩)⟩, (List.forall_mem_cons.mpr ⟨⟨(R_8, F_8, 14), "java/lang/Object", rfl, rfl, (List.mem_filter.mpr ⟨m_in12 (List.mem_of_getElem? (i := 65) rfl), rfl⟩)⟩, (List.forall_mem_cons.mpr ⟨⟨(R_9, F_9, 19), "java/lang/Object", rfl, rfl, (List.mem_filter.mpr ⟨m_in12 (List.mem_of_getElem? (i := 66) rfl), rfl⟩)⟩, (List.forall_mem_cons.mpr ⟨⟨(R_10, F_10, 14), "java/lang/Object", rfl, rfl, (List.mem_filter.mpr ⟨m_in12 (List.mem_of_getElem? (i := 67) rfl), rfl⟩)⟩, (List.forall_mem_cons.mpr ⟨⟨(R_11, F_11, 9), "java/lang/Object", rfl, rfl, (List.mem_filter.mpr ⟨m_in12 (List.mem_of_getElem? (i := 68) rfl), rfl⟩)⟩, (List.forall_mem_cons.mpr ⟨⟨(R_12, F_12, 4), "java/lang/Object", rfl, rfl, (List.mem_filter.mpr ⟨m_in12 (List.mem_of_getElem? (i := 69) rfl), rfl⟩)⟩, (fun _ h => absurd h List.not_mem_nil)⟩)⟩)⟩)⟩)⟩)⟩)⟩)⟩)⟩)⟩)⟩)⟩)⟩)
theorem m_ass_ok : ∀ q ∈ m_ass, ∃ r : vw_C, m_cl[q.1]? = some r ∧ m_tyl[q.2]? = some (.object r.1) := (List.forall_mem_cons.mpr ⟨⟨(R_13, F_13, 10), rfl, rfl⟩, (List.forall_mem_cons.mpr ⟨⟨(R_4, F_4, 11), rfl, rfl⟩, (fun _ h => absurd h List.not_mem_nil)⟩)⟩)
theorem m_ac_int : Cond.arrayClass .int ∈ m_gt := m_gi1 101 rfl rfl
theorem m_ac_long : Cond.arrayClass .long ∈ m_gt := m_gi12 36 rfl rfl
theorem m_ac_char : Cond.arrayClass .char ∈ m_gt := m_gi1 100 rfl rfl
theorem m_ac_byte : Cond.arrayClass .byte ∈ m_gt := m_gi1 164 rfl rfl
theorem m_ac_boolean : Cond.arrayClass .boolean ∈ m_gt := m_gi1 234 rfl rfl
theorem m_oi_i : Cond.instanceMethod objectInit ∈ m_gt := m_gi1 42 rfl rfl
theorem m_oi_c : Cond.code objectInit ⟨#[0xb1]⟩ 1 none ∈ m_gt := m_gi1 43 rfl rfl
theorem m_max_s : Cond.static Lib.Math.max.name ∈ m_gt := m_gi4 1 rfl rfl
theorem m_max_c : Cond.code Lib.Math.max.name Lib.Math.max.code 2 (some .int) ∈ m_gt := m_gi4 2 rfl rfl
theorem m_min_s : Cond.static Lib.Math.min.name ∈ m_gt := m_gi3 159 rfl rfl
theorem m_min_c : Cond.code Lib.Math.min.name Lib.Math.min.code 2 (some .int) ∈ m_gt := m_gi3 160 rfl rfl
theorem m_math_i : Cond.initialized "java/lang/Math" ∈ m_gt := m_gi1 22 rfl rfl
