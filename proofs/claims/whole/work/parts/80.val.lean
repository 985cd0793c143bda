/-! The values that both machines compute: a thing's row, an entry's, a request's. -/
def cTold (p : Int32) (d : Nat → Int32) : tC := .inl (13, [.int p, .int (d 0), .int (d 1), .int (d 2), .int (d 3), .int (d 4), .int (d 5), .int (d 6), .int (d 7), .int (d 8)])
def v_life (d : Nat → Int32) : Int32 := if d 6 = 0 then d 2 else 0
def v_which (vary la fo : Int32) : Int32 := (if vary &&& 1 = 0 then 0 else la) + (if vary &&& 2 = 0 then 0 else 4 * fo)
def v_blocks (len first last : Int32) : Int32 := (((1 : Int32) <<< ((if ((len + (15 : Int32)) >>> ((4 : Int32) &&& 31)) < (last + (1 : Int32)) then ((len + (15 : Int32)) >>> ((4 : Int32) &&& 31)) else (last + (1 : Int32))) &&& 31)) - (1 : Int32)) &&& (((-1) : Int32) <<< (first &&& 31))
def v_purged (p keys by9 what : Int32) : Bool := if by9 = 0 then decide (p = what) else !decide (keys &&& ((1 : Int32) <<< (what &&& 31)) = 0)
def b2i (b : Bool) : Int32 := if b then 1 else 0
theorem bret_b (b : Bool) : bret (b2i b) = some (b2i b) := by cases b <;> rfl
section
variable {T : tT} {F a : Nat} {p : Int32} {d : Nat → Int32}
theorem c_life (h : T.1 a = some (cTold p d)) : D_c_Told_life F a T = some (v_life d) := by
  simp only [D_c_Told_life, tgi, tgr, tg, tcl, tcc, vi, vr, rv, nc, h, cTold, vi, m_c1, v_life, List.getElem?_cons_succ, List.getElem?_cons_zero, List.getElem?_nil, Option.bind_some, Option.bind_none, if_true, Option.map_some]
  by_cases h0 : d 6 = 0 <;> simp [h0]
theorem c_helps {x : Int32} (h : T.1 a = some (cTold p d)) : D_c_Told_helpsOnError F a x T = some (b2i (decide (x < v_life d + d 3))) := by
  simp only [D_c_Told_helpsOnError, c_life h, tcl, tgi, tgr, tg, tcl, tcc, vi, vr, rv, nc, h, cTold, vi, m_c2, List.getElem?_cons_succ, List.getElem?_cons_zero, List.getElem?_nil, Option.bind_some, Option.bind_none, if_true, Option.map_some]
  by_cases h0 : x < v_life d + d 3
  · have h1 : ¬ v_life d + d 3 ≤ x := Int32.not_le.mpr h0
    simp [h0, h1, b2i, bret]
  · have h1 : v_life d + d 3 ≤ x := Int32.not_lt.mp h0
    simp [h0, h1, b2i, bret]
theorem c_which {la fo : Int32} (h : T.1 a = some (cTold p d)) : D_c_Told_whichFor F a la fo T = some (v_which (d 8) la fo) := by
  simp only [D_c_Told_whichFor, tgi, tgr, tg, tcl, tcc, vi, vr, rv, nc, h, cTold, vi, m_c1, v_which, List.getElem?_cons_succ, List.getElem?_cons_zero, List.getElem?_nil, Option.bind_some, Option.bind_none, if_true, Option.map_some]
  by_cases h0 : d 8 &&& 1 = 0 <;> by_cases h1 : d 8 &&& 2 = 0 <;> simp [h0, h1]
theorem c_blocks {x y : Int32} (h : T.1 a = some (cTold p d)) : D_c_Told_blocks F a x y T = some (v_blocks (d 1) x y) := by
  simp only [D_c_Told_blocks, tgi, tgr, tg, tcl, tcc, vi, vr, rv, nc, h, cTold, vi, v_blocks, List.getElem?_cons_succ, List.getElem?_cons_zero, List.getElem?_nil, Option.bind_some, Option.bind_none, if_true, Option.map_some]
theorem c_purged {x y : Int32} (h : T.1 a = some (cTold p d)) : D_c_Told_isPurgedBy F a x y T = some (b2i (v_purged p (d 7) x y)) := by
  simp only [D_c_Told_isPurgedBy, tgi, tgr, tg, tcl, tcc, vi, vr, rv, nc, h, cTold, vi, v_purged, m_c1, m_c2, List.getElem?_cons_succ, List.getElem?_cons_zero, List.getElem?_nil, Option.bind_some, Option.bind_none, if_true, Option.map_some]
  by_cases h0 : x = 0 <;> by_cases h1 : p = y <;> by_cases h2 : d 7 &&& ((1 : Int32) <<< (y &&& 31)) = 0 <;> simp [h0, h1, h2, b2i, bret]
end
/-- an entry: path, variant, its thing's cell, which, and mark, age, came, blocks, kept -/
def cEntry (p v : Int32) (t : Nat) (wh mk ag cm bl kp : Int32) : tC := .inl (11, [.int p, .int v, .ref t, .int wh, .int mk, .int ag, .int cm, .int bl, .int kp])
section
variable {T : tT} {F a t : Nat} {p v wh mk ag cm bl kp q : Int32} {d : Nat → Int32}
theorem c_isOf {x y : Int32} (h : T.1 a = some (cEntry p v t wh mk ag cm bl kp)) : D_c_Entry_isOf F a x y T = some (b2i (decide (p = x ∧ v = y))) := by
  simp only [D_c_Entry_isOf, tgi, tgr, tg, tcl, tcc, vi, vr, rv, nc, h, cEntry, vi, m_c2, List.getElem?_cons_succ, List.getElem?_cons_zero, List.getElem?_nil, Option.bind_some, Option.bind_none, if_true, Option.map_some]
  by_cases h0 : p = x <;> by_cases h1 : v = y <;> simp [h0, h1, b2i, bret]
theorem c_tag (h : T.1 a = some (cEntry p v t wh mk ag cm bl kp)) (ht : T.1 t = some (cTold q d)) : D_c_Entry_tag F a T = some (8 * d 0 + wh) := by
  simp only [D_c_Entry_tag, tgi, tgr, tg, h, ht, cEntry, cTold, vi, vr, List.getElem?_cons_succ, List.getElem?_cons_zero, List.getElem?_nil, Option.bind_some, Option.bind_none, if_true, Option.map_some]
theorem c_ageAt {x : Int32} (h : T.1 a = some (cEntry p v t wh mk ag cm bl kp)) : D_c_Entry_ageAt F a x T = some ((ag + x) - cm) := by
  simp only [D_c_Entry_ageAt, tgi, tgr, tg, tcl, tcc, vi, vr, rv, nc, h, cEntry, vi, List.getElem?_cons_succ, List.getElem?_cons_zero, List.getElem?_nil, Option.bind_some, Option.bind_none, if_true, Option.map_some]
theorem c_esize (h : T.1 a = some (cEntry p v t wh mk ag cm bl kp)) : D_c_Entry_size F a T = some (16 + 16 * F_bc bl) := by
  simp only [D_c_Entry_size, tgi, tgr, tg, tcl, tcc, vi, vr, rv, nc, h, cEntry, vi, List.getElem?_cons_succ, List.getElem?_cons_zero, List.getElem?_nil, Option.bind_some, Option.bind_none, if_true, Option.map_some]
end

/-- a client's conditions -/
def cCond (g : Nat → Int32) (t : Nat) : tC := .inl (7, [.int (g 0), .int (g 1), .int (g 2), .int (g 3), .int (g 4), .ref t, .int (g 6), .int (g 7)])
def v_counts (g : Nat → Int32) (tag : Int32) : Bool := !decide (g 1 = 0) && (decide (g 7 = -1) || decide (g 7 = tag))
def v_from (g : Nat → Int32) (counts : Bool) (len : Int32) : Int32 := if counts then (if g 1 = 1 then g 2 else if 0 < len - g 2 then len - g 2 else 0) else 0
def v_to (g : Nat → Int32) (counts : Bool) (len : Int32) : Int32 := if counts && decide (g 1 = 1) then (if len - 1 < g 3 then len - 1 else g 3) else len - 1
section
variable {T : tT} {F a t : Nat} {g : Nat → Int32}
theorem c_counts {x : Int32} (h : T.1 a = some (cCond g t)) : D_c_Conditions_rangeCounts F a x T = some (b2i (v_counts g x)) := by
  simp only [D_c_Conditions_rangeCounts, tgi, tgr, tg, tcl, tcc, vi, vr, rv, nc, h, cCond, m_c1, m_c2, List.getElem?_cons_succ, List.getElem?_cons_zero, List.getElem?_nil, Option.bind_some, Option.bind_none, if_true, Option.map_some, v_counts]
  by_cases h0 : g 1 = 0 <;> by_cases h1 : g 7 = -1 <;> by_cases h2 : g 7 = x <;> simp [h0, h1, h2, b2i, bret]
theorem c_from {b : Bool} {x : Int32} (h : T.1 a = some (cCond g t)) : D_c_Conditions_from F a (b2i b) x T = some (v_from g b x) := by
  simp only [D_c_Conditions_from, tgi, tgr, tg, tcl, tcc, vi, vr, rv, nc, h, cCond, m_c1, m_c2, List.getElem?_cons_succ, List.getElem?_cons_zero, List.getElem?_nil, Option.bind_some, Option.bind_none, if_true, Option.map_some, v_from]
  cases b <;> by_cases h1 : g 1 = 1 <;> simp [h1, b2i]
theorem c_to {b : Bool} {x : Int32} (h : T.1 a = some (cCond g t)) : D_c_Conditions_to F a (b2i b) x T = some (v_to g b x) := by
  simp only [D_c_Conditions_to, tgi, tgr, tg, tcl, tcc, vi, vr, rv, nc, h, cCond, m_c1, m_c2, List.getElem?_cons_succ, List.getElem?_cons_zero, List.getElem?_nil, Option.bind_some, Option.bind_none, if_true, Option.map_some, v_to]
  cases b <;> by_cases h1 : g 1 = 1 <;> simp [h1, b2i]
end
/-- a request: its numbers, its conditions, its reply, the one behind -/
def cReq (g : Nat → Int32) (c r b : Option Nat) : tC := .inl (6, [.int (g 0), .int (g 1), .int (g 2), .int (g 3), .int (g 4), .int (g 5), .int (g 6), .int (g 7), .int (g 8), .int (g 9), .int (g 10), .int (g 11), .int (g 12), rv c, rv r, .int (g 15), .int (g 16), .int (g 17), rv b])
theorem vr_rv (x : Option Nat) : vr (rv x) = some x := by cases x <;> rfl
def v_missing (g : Nat → Int32) (cd : Option (Nat → Int32)) (d : Nat → Int32) (wh bl : Int32) : Int32 := match cd with
  | none => v_blocks (d 1) (g 4) (g 5) &&& (bl ^^^ -1)
  | some k => if v_from k (v_counts k (8 * d 0 + wh)) (d 1) ≤ v_to k (v_counts k (8 * d 0 + wh)) (d 1) then v_blocks (d 1) (v_from k (v_counts k (8 * d 0 + wh)) (d 1) >>> ((4 : Int32) &&& 31)) (v_to k (v_counts k (8 * d 0 + wh)) (d 1) >>> ((4 : Int32) &&& 31)) &&& (bl ^^^ -1) else 0
def v_fresh (g d : Nat → Int32) (age : Int32) : Bool := (decide (g 8 = -1) || decide (age ≤ g 8)) && decide (age + (if g 9 < 0 then 0 else g 9) < v_life d)
def v_stale (g d : Nat → Int32) (age : Int32) : Bool := (!decide (g 10 = -1) && decide (age < v_life d + g 10)) || (decide (g 8 = -1) && decide (g 9 = -1) && decide (age < v_life d + d 4))
/-- the conditions that a request has -/
def hasC (T : tT) (c : Option Nat) (cd : Option (Nat → Int32)) : Prop := match c, cd with
  | none, none => True
  | some a, some k => ∃ t, T.1 a = some (cCond k t)
  | _, _ => False
section
variable {T : tT} {F a e t : Nat} {g d : Nat → Int32} {c r b : Option Nat} {cd : Option (Nat → Int32)} {p v wh mk ag cm bl kp q : Int32}
theorem c_missing (h : T.1 a = some (cReq g c r b)) (hc : hasC T c cd) (he : T.1 e = some (cEntry p v t wh mk ag cm bl kp)) (ht : T.1 t = some (cTold q d)) : D_c_Request_missingIn F a (some e) T = some (v_missing g cd d wh bl) := by
  have e1 := c_tag (F := F) he ht
  cases c with
  | none =>
    cases cd with
    | some k => exact hc.elim
    | none => simp only [D_c_Request_missingIn, c_blocks ht, tgi, tgr, tg, tcl, tcc, vi, vr, rv, nc, h, he, ht, cReq, cEntry, cTold, List.getElem?_cons_succ, List.getElem?_cons_zero, List.getElem?_nil, Option.bind_some, Option.bind_none, if_true, Option.map_some, v_missing]
  | some a9 =>
    cases cd with
    | none => exact hc.elim
    | some k =>
      obtain ⟨t9, hc⟩ := hc
      have e2 := fun x => c_counts (F := F) (x := x) hc
      have e3 := fun b x => c_from (F := F) (b := b) (x := x) hc
      have e4 := fun b x => c_to (F := F) (b := b) (x := x) hc
      simp only [D_c_Request_missingIn, e1, e2, e3, e4, c_blocks ht, tgi, tgr, tg, tcl, tcc, vi, vr, rv, nc, h, he, ht, hc, cReq, cEntry, cTold, cCond, List.getElem?_cons_succ, List.getElem?_cons_zero, List.getElem?_nil, Option.bind_some, Option.bind_none, if_true, Option.map_some, m_c1, m_c2, v_missing]
      by_cases h0 : v_from k (v_counts k (8 * d 0 + wh)) (d 1) ≤ v_to k (v_counts k (8 * d 0 + wh)) (d 1) <;> simp [h0]
theorem c_fresh {x : Int32} (h : T.1 a = some (cReq g c r b)) (ht : T.1 t = some (cTold q d)) : D_c_Request_takesFresh F a (some t) x T = some (b2i (v_fresh g d x)) := by
  simp only [D_c_Request_takesFresh, c_life ht, tgi, tgr, tg, tcl, tcc, vi, vr, rv, nc, h, ht, cReq, cTold, List.getElem?_cons_succ, List.getElem?_cons_zero, List.getElem?_nil, Option.bind_some, Option.bind_none, if_true, Option.map_some, m_c1, m_c2, v_fresh]
  by_cases h0 : g 8 = -1
  · by_cases h2 : x + (if g 9 < 0 then 0 else g 9) < v_life d
    · simp [h0, h2, Int32.not_le.mpr h2, b2i, bret]
    · simp [h0, h2, Int32.not_lt.mp h2, b2i, bret]
  · by_cases h1 : x ≤ g 8
    · by_cases h2 : x + (if g 9 < 0 then 0 else g 9) < v_life d
      · simp [h0, h1, h2, Int32.not_lt.mpr h1, Int32.not_le.mpr h2, b2i, bret]
      · simp [h0, h1, h2, Int32.not_lt.mpr h1, Int32.not_lt.mp h2, b2i, bret]
    · simp [h0, h1, Int32.not_le.mp h1, b2i, bret]
theorem c_stale {x : Int32} (h : T.1 a = some (cReq g c r b)) (ht : T.1 t = some (cTold q d)) : D_c_Request_takesStale F a (some t) x T = some (b2i (v_stale g d x)) := by
  have e1 : D_c_Request_takesStale_23 F a (some t) x T = some (b2i (decide (g 8 = -1) && decide (g 9 = -1) && decide (x < v_life d + d 4))) := by
    simp only [D_c_Request_takesStale_23, c_life ht, tgi, tgr, tg, tcl, tcc, vi, vr, rv, nc, h, ht, cReq, cTold, List.getElem?_cons_succ, List.getElem?_cons_zero, List.getElem?_nil, Option.bind_some, Option.bind_none, if_true, Option.map_some, m_c1, m_c2]
    by_cases h0 : g 8 = -1 <;> by_cases h1 : g 9 = -1
    · by_cases h2 : x < v_life d + d 4
      · simp [h0, h1, h2, Int32.not_le.mpr h2, b2i, bret]
      · simp [h0, h1, h2, Int32.not_lt.mp h2, b2i, bret]
    all_goals simp [h0, h1, b2i]
  simp only [D_c_Request_takesStale, e1, c_life ht, tgi, tgr, tg, tcl, tcc, vi, vr, rv, nc, h, ht, cReq, cTold, List.getElem?_cons_succ, List.getElem?_cons_zero, List.getElem?_nil, Option.bind_some, Option.bind_none, if_true, Option.map_some, m_c1, m_c2, v_stale]
  by_cases h0 : g 10 = -1
  · simp [h0]
  · by_cases h2 : x < v_life d + g 10
    · simp [h0, h2, Int32.not_le.mpr h2, b2i]
    · simp [h0, h2, Int32.not_lt.mp h2]
theorem c_suits (h : T.1 a = some (cReq g c r b)) (he : T.1 e = some (cEntry p v t wh mk ag cm bl kp)) (ht : T.1 t = some (cTold q d)) : D_c_Entry_suits F e (some a) T = some (b2i (decide (p = g 0 ∧ v = g 1 ∧ wh = v_which (d 8) (g 2) (g 3)))) := by
  simp only [D_c_Entry_suits, c_isOf he, c_which ht, tgi, tgr, tg, tcl, tcc, vi, vr, rv, nc, h, he, ht, cReq, cEntry, cTold, List.getElem?_cons_succ, List.getElem?_cons_zero, List.getElem?_nil, Option.bind_some, Option.bind_none, if_true, Option.map_some, m_c1, m_c2]
  by_cases h0 : p = g 0 <;> by_cases h1 : v = g 1 <;> by_cases h2 : wh = v_which (d 8) (g 2) (g 3) <;> simp [h0, h1, h2, b2i, bret]
theorem c_enough (h : T.1 a = some (cReq g c r b)) (hc : hasC T c cd) (he : T.1 e = some (cEntry p v t wh mk ag cm bl kp)) (ht : T.1 t = some (cTold q d)) : D_c_Entry_isEnoughFor F e (some a) T = some (b2i (decide (p = g 0 ∧ v = g 1 ∧ wh = v_which (d 8) (g 2) (g 3)) && decide (g 11 ≤ mk) && decide (v_missing g cd d wh bl = 0))) := by
  simp only [D_c_Entry_isEnoughFor, c_suits h he ht, c_missing h hc he ht, tgi, tgr, tg, tcl, tcc, vi, vr, rv, nc, h, he, ht, cReq, cEntry, cTold, List.getElem?_cons_succ, List.getElem?_cons_zero, List.getElem?_nil, Option.bind_some, Option.bind_none, if_true, Option.map_some, m_c1, m_c2]
  generalize v_missing g cd d wh bl = m
  by_cases h0 : p = g 0 ∧ v = g 1 ∧ wh = v_which (d 8) (g 2) (g 3)
  · by_cases h1 : g 11 ≤ mk
    · by_cases h2 : m = 0 <;> simp [h0, h1, h2, Int32.not_lt.mpr h1, b2i, bret]
    · simp [h0, h1, Int32.not_le.mp h1, b2i, bret]
  · simp [h0, b2i]
end
