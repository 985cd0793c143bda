def m_stl : List (String × String × String × Value) := [("java/util/ArrayList", "DEFAULTCAPACITY_EMPTY_ELEMENTDATA", "[Ljava/lang/Object;", .ref 0), ("java/lang/String", "COMPACT_STRINGS", "Z", .int 1)]
/-! The names are right: every class, method and pool entry has its words among the tables': written by wip/tool/gen.py. -/
def m_fOk (y : MethodName) (q : Nat × Nat × Nat × Nat) : Prop := ∃ r : vw_C, m_cl[q.2.1]? = some r ∧ q.2.2.1 < r.2.2 ∧ (∃ ref : String, Cond.fieldLink y.cls q.1 ref (r.2.1 q.2.2.1).2.1 (r.2.1 q.2.2.1).2.2.1 ∈ m_gt ∧ (ref = (r.2.1 q.2.2.1).1 ∨ Cond.sameField ref (r.2.1 q.2.2.1).1 (r.2.1 q.2.2.1).2.1 (r.2.1 q.2.2.1).2.2.1 ∈ m_gt)) ∧ (q.2.2.2 = 1 → (r.2.1 q.2.2.1).2.2.2 = false) ∧ (q.2.2.2 = 2 → (r.2.1 q.2.2.1).2.2.2 = true ∧ y.name = "<init>" ∧ (r.2.1 q.2.2.1).1 = y.cls)
def m_nwk : Cond → Bool
  | .methodLinkNest .. => true
  | .castable .. => true
  | .declares .. => true
  | _ => false
def m_nw : List Cond := lw_tbl.filter m_nwk
def m_cOk (y : MethodName) (q : Nat × Nat × Nat × Nat) : Prop :=
  (q.2.1 = 4 → Cond.methodLink y.cls q.1 objectInit ∈ m_gt) ∧ (q.2.1 = 5 → Cond.methodLink y.cls q.1 Lib.Math.max.name ∈ m_gt) ∧ (q.2.1 = 6 → Cond.methodLink y.cls q.1 Lib.Math.min.name ∈ m_gt) ∧ (q.2.1 < 4 → ∃ J : mI, m_mt[q.2.2.1]? = some J ∧
    (q.2.1 = 0 → J.1.name = "<init>" ∧ Cond.methodLink y.cls q.1 J.1 ∈ m_gt ∧ Cond.instanceMethod J.1 ∈ m_gt) ∧
    (q.2.1 = 1 → Cond.methodLink y.cls q.1 J.1 ∈ m_gt ∧ Cond.instanceMethod J.1 ∈ m_gt ∧ ∃ r : vw_C, m_cl[q.2.2.2]? = some r ∧ r.1 = J.1.cls ∧ Cond.selects J.1.cls J.1 J.1 ∈ m_gt) ∧
    (q.2.1 = 2 → Cond.methodLink y.cls q.1 J.1 ∈ m_gt ∧ Cond.static J.1 ∈ m_gt) ∧
    (q.2.1 = 3 → J.1.name = "<init>" ∧ Cond.instanceMethod J.1 ∈ m_gt ∧ ∃ host : String, Cond.methodLinkNest y.cls q.1 J.1 host ∈ m_nw))
def m_oOk (y : MethodName) (q : Nat × Nat × Nat × Value) : Prop :=
  (q.2.1 = 0 → ∃ r : vw_C, m_cl[q.2.2.1]? = some r ∧ Cond.classLink y.cls q.1 r.1 ∈ m_gt ∧ Cond.instantiable r.1 r.2.2 ∈ m_gt ∧ Cond.initialized r.1 ∈ m_gt) ∧
  (q.2.1 = 1 → ¬ q.2.2.1 < 6 ∧ ∃ C : String, C ∈ m_obl ∧ m_tyl[q.2.2.1]? = some (.object C) ∧ Cond.classLink y.cls q.1 C ∈ m_gt) ∧
  (q.2.1 = 2 → ∃ x : Int32, q.2.2.2 = .int x ∧ Cond.constant y.cls q.1 x ∈ m_gt) ∧
  (q.2.1 = 3 → ∃ x : Int64, q.2.2.2 = .long x ∧ Cond.constantLong y.cls q.1 x ∈ m_gt) ∧
  (q.2.1 = 4 → ∃ C n d : String, (C, n, d, q.2.2.2) ∈ m_stl ∧ Cond.fieldLink y.cls q.1 C n d ∈ m_gt) ∧ q.2.1 < 5
def m_mOk (I : mI) : Prop := Cond.code I.1 I.2.1 I.2.2.1 I.2.2.2.2.1 ∈ m_gt ∧ Cond.initialized I.1.cls ∈ m_gt ∧ plainName I.1.cls = true ∧ (I.1.cls ≠ "java/lang/invoke/MethodHandle" ∧ I.1.cls ≠ "java/lang/invoke/VarHandle") ∧ (parseMethodDescriptor I.1.desc).map (fun d => d.parameters.length) = some I.2.2.2.1 ∧ (∀ q ∈ I.2.2.2.2.2.1, m_fOk I.1 q) ∧ (∀ q ∈ I.2.2.2.2.2.2.1, m_cOk I.1 q) ∧ (∀ q ∈ I.2.2.2.2.2.2.2.1, m_oOk I.1 q) ∧ ∀ q ∈ I.2.2.2.2.2.2.2.2, decode I.2.1 q.1 = .ok (q.2.1, q.2.2)
theorem m_n0 {a b : Nat} {P : Prop} (h : (Nat.beq a b) = false) : a = b → P := fun e => by subst e; simp at h
theorem m_n1 {a b : Nat} {P : Prop} (h : (Nat.ble b a) = true) : a < b → P := fun e => absurd (Nat.le_of_ble_eq_true h) (Nat.not_le.mpr e)
