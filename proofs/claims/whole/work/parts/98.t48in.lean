/-! The taking in: the class makes an entry. -/
section
variable {T : tT} {S : mS} {F n : Nat}
theorem Ep4 {a s : Nat} {p v wh mk ag cm bl kp x : Int32} (h9 : T.1 a = some (cEntry p v s wh mk ag cm bl kp)) : tpi T a 11 4 x = some (tset T a (cEntry p v s wh x ag cm bl kp)) := (tp_o h9 (show 4 < 9 by decide)).trans rfl
theorem Ep5 {a s : Nat} {p v wh mk ag cm bl kp x : Int32} (h9 : T.1 a = some (cEntry p v s wh mk ag cm bl kp)) : tpi T a 11 5 x = some (tset T a (cEntry p v s wh mk x cm bl kp)) := (tp_o h9 (show 5 < 9 by decide)).trans rfl
theorem Ep6 {a s : Nat} {p v wh mk ag cm bl kp x : Int32} (h9 : T.1 a = some (cEntry p v s wh mk ag cm bl kp)) : tpi T a 11 6 x = some (tset T a (cEntry p v s wh mk ag x bl kp)) := (tp_o h9 (show 6 < 9 by decide)).trans rfl
theorem Ep7 {a s : Nat} {p v wh mk ag cm bl kp x : Int32} (h9 : T.1 a = some (cEntry p v s wh mk ag cm bl kp)) : tpi T a 11 7 x = some (tset T a (cEntry p v s wh mk ag cm x kp)) := (tp_o h9 (show 7 < 9 by decide)).trans rfl
/-- a blank entry -/
def eBlank : tC := .inl (11, [.int 0, .int 0, .null, .int 0, .int 0, .int 0, .int 0, .int 0, .int 0])
theorem new_entry (hN : okN T) : tnw T 11 = some (T.2.1, tadd T eBlank 9) ∧ (tadd T eBlank 9).1 T.2.1 = some eBlank ∧ T.1 T.2.1 = none := by
  refine ⟨rfl, tadd_eq, ?_⟩
  cases e : T.1 T.2.1 with
  | none => rfl
  | some c => exact absurd (hN _ _ e) (Nat.lt_irrefl _)
theorem tset_own {a : Nat} {c : tC} (h : T.1 a = some c) : tset T a c = T := by
  obtain ⟨f, r⟩ := T
  have : (fun b => if b = a then some c else f b) = f := funext fun b => by
    by_cases w : b = a
    · rw [if_pos w, w]; exact h.symm
    · rw [if_neg w]
  show ((fun b => if b = a then some c else f b), r) = (f, r)
  rw [this]
theorem e_init (hN : okN T) {p v wh : Int32} {t : Nat} : D_c_Entry_init F T.2.1 p v (some t) wh (tadd T eBlank 9) = some (tset (tadd T eBlank 9) T.2.1 (cEntry p v t wh 0 0 0 0 0)) := by
  obtain ⟨_, m2, _⟩ := new_entry hN
  have w0 : tpi (tadd T eBlank 9) T.2.1 11 0 p = some (tset (tadd T eBlank 9) T.2.1 (.inl (11, [.int p, .int 0, .null, .int 0, .int 0, .int 0, .int 0, .int 0, .int 0]))) := (tp_o m2 (show 0 < 9 by decide)).trans rfl
  have w1 : tpi (tset (tadd T eBlank 9) T.2.1 (.inl (11, [.int p, .int 0, .null, .int 0, .int 0, .int 0, .int 0, .int 0, .int 0]))) T.2.1 11 1 v = some (tset (tadd T eBlank 9) T.2.1 (.inl (11, [.int p, .int v, .null, .int 0, .int 0, .int 0, .int 0, .int 0, .int 0]))) := ((tp_o tset_at (show 1 < 9 by decide)).trans rfl).trans (by rw [tset_tset]; rfl)
  have w2 : tpr (tset (tadd T eBlank 9) T.2.1 (.inl (11, [.int p, .int v, .null, .int 0, .int 0, .int 0, .int 0, .int 0, .int 0]))) T.2.1 11 2 (some t) = some (tset (tadd T eBlank 9) T.2.1 (cEntry p v t 0 0 0 0 0 0)) := ((tp_o tset_at (show 2 < 9 by decide)).trans rfl).trans (by rw [tset_tset]; rfl)
  have w3 : tpi (tset (tadd T eBlank 9) T.2.1 (cEntry p v t 0 0 0 0 0 0)) T.2.1 11 3 wh = some (tset (tadd T eBlank 9) T.2.1 (cEntry p v t wh 0 0 0 0 0)) := ((tp_o (show (tset (tadd T eBlank 9) T.2.1 (cEntry p v t 0 0 0 0 0 0)).1 T.2.1 = some (cEntry p v t 0 0 0 0 0 0) from tset_at) (show 3 < 9 by decide)).trans rfl).trans (by rw [tset_tset]; rfl)
  unfold D_c_Entry_init
  rw [w0, Option.bind_some, w1, Option.bind_some, w2, Option.bind_some, w3, Option.bind_some]
theorem Ez8 {a s : Nat} {p v wh mk ag cm bl kp x : Int32} (hx : flag x) (h9 : T.1 a = some (cEntry p v s wh mk ag cm bl kp)) : tpz T a 11 8 x = some (tset T a (cEntry p v s wh mk ag cm bl x)) := by
  unfold tpz
  rw [if_pos (show x = 0 ∨ x = 1 from hx)]
  exact (tp_o h9 (show 8 < 9 by decide)).trans rfl
/-- the entry that a FILL makes -/
def eNew (S : mS) (pp v t wh : Nat) (bl kp : Int32) : tC := cEntry (Int32.ofNat pp) (Int32.ofNat v) t (Int32.ofNat wh) (came S 8) (came S 10 + S.1 36) (S.1 36) bl kp
theorem c_inPre (hN : okN T) {am fa t pp v la fo wh : Nat} {gm g : Nat → Int32} {hd tl : Option Nat} {pc : Int32} {dc : Nat → Int32} (hm : T.1 am = some (cMsg gm (some t))) (ht : T.1 t = some (cTold pc dc)) (hfa : T.1 fa = some (cFetch g hd tl)) (hH : T.1 512 = some (house S.1)) (g0 : g 0 = Int32.ofNat pp) (g1 : g 1 = Int32.ofNat v) (g2 : g 2 = Int32.ofNat la) (g3 : g 3 = Int32.ofNat fo) (hw : v_which (dc 8) (Int32.ofNat la) (Int32.ofNat fo) = Int32.ofNat wh) (m13 : gm 13 = came S 8) (m16 : gm 16 - gm 18 = came S 10) (m17 : gm 17 = came S 11) (hnode : T.1 (527 + 8 * n) = some (nodeC S n)) (hst : ∃ fs, T.1 (528 + 8 * n) = some (.inl (5, fs))) {T89 : tT} (hrv : D_c_Store_removeOtherVary F (528 + 8 * n) (some T.2.1) (tset (tadd T eBlank 9) T.2.1 (eNew S pp v t wh (came S 11) 0)) = some T89) (node89 : T89.1 (527 + 8 * n) = some (nodeC S n)) (st89 : tcl T89 (528 + 8 * n) 5 = some ()) (e89 : T89.1 T.2.1 = some (eNew S pp v t wh (came S 11) 0)) (t89 : T89.1 t = some (cTold pc dc)) {o : Option Nat} (hfi : D_c_Store_find F (528 + 8 * n) (Int32.ofNat pp) (Int32.ofNat v) (Int32.ofNat wh) T89 = some o) : D_c_EdgeHouse_takeIn F 512 (some (527 + 8 * n)) (some fa) (some am) T = nc o (D_c_EdgeHouse_takeIn_153 F 512 (some (527 + 8 * n)) (some T.2.1) none T89) fun a116 => ((tgr T89 a116 11 2).bind fun v118 => (v118).bind fun a122 => (tgi T89 a122 13 1).bind fun v125 => cond (m_c2 .ne v125 (dc 0)) (D_c_EdgeHouse_takeIn_153 F 512 (some (527 + 8 * n)) (some T.2.1) (some a116) T89) ((tgi T89 a116 11 7).bind fun v140 => D_c_EdgeHouse_takeIn_153 F 512 (some (527 + 8 * n)) (some T.2.1) (some a116) (tset T89 T.2.1 (eNew S pp v t wh (came S 11 ||| v140) 0)))) := by
  obtain ⟨m1, m2, m3⟩ := new_entry hN
  have ne : ∀ {b x}, T.1 b = some x → ¬ b = T.2.1 := fun hb w => by rw [w, m3] at hb; cases hb
  have o9 : ∀ {b x}, T.1 b = some x → (tadd T eBlank 9).1 b = some x := fun hb => by rw [tadd_1, if_neg (ne hb)]; exact hb
  have oo : ∀ {b x} (E : tC), T.1 b = some x → (tset (tadd T eBlank 9) T.2.1 E).1 b = some x := fun E hb => tset_o (o9 hb) (ne hb)
  obtain ⟨fs, hst⟩ := hst
  have wf := c_which (F := F) (la := Int32.ofNat la) (fo := Int32.ofNat fo) (o9 ht)
  rw [hw] at wf
  have f0 : tgi (tadd T eBlank 9) fa 10 0 = some (Int32.ofNat pp) := (Fg0 (o9 hfa)).trans (by rw [g0])
  have f1 : tgi (tadd T eBlank 9) fa 10 1 = some (Int32.ofNat v) := (Fg1 (o9 hfa)).trans (by rw [g1])
  have f2 : tgi (tadd T eBlank 9) fa 10 2 = some (Int32.ofNat la) := (Fg2 (o9 hfa)).trans (by rw [g2])
  have f3 : tgi (tadd T eBlank 9) fa 10 3 = some (Int32.ofNat fo) := (Fg3 (o9 hfa)).trans (by rw [g3])
  have ag9 : gm 16 + S.1 36 - gm 18 = came S 10 + S.1 36 := by
    rw [← m16, Int32.sub_eq_add_neg, Int32.sub_eq_add_neg, Int32.add_assoc, Int32.add_assoc, Int32.add_comm (S.1 36)]
  have p4 := fun E => Mg13 (oo (x := cMsg gm (some t)) E hm)
  have q4 : tpi (tset (tadd T eBlank 9) T.2.1 (cEntry (Int32.ofNat pp) (Int32.ofNat v) t (Int32.ofNat wh) 0 0 0 0 0)) T.2.1 11 4 (gm 13) = some (tset (tadd T eBlank 9) T.2.1 (cEntry (Int32.ofNat pp) (Int32.ofNat v) t (Int32.ofNat wh) (came S 8) 0 0 0 0)) := (Ep4 tset_at).trans (by rw [tset_tset, m13])
  have q5 : tpi (tset (tadd T eBlank 9) T.2.1 (cEntry (Int32.ofNat pp) (Int32.ofNat v) t (Int32.ofNat wh) (came S 8) 0 0 0 0)) T.2.1 11 5 (gm 16 + S.1 36 - gm 18) = some (tset (tadd T eBlank 9) T.2.1 (cEntry (Int32.ofNat pp) (Int32.ofNat v) t (Int32.ofNat wh) (came S 8) (came S 10 + S.1 36) 0 0 0)) := (Ep5 tset_at).trans (by rw [tset_tset, ag9])
  have q6 : tpi (tset (tadd T eBlank 9) T.2.1 (cEntry (Int32.ofNat pp) (Int32.ofNat v) t (Int32.ofNat wh) (came S 8) (came S 10 + S.1 36) 0 0 0)) T.2.1 11 6 (S.1 36) = some (tset (tadd T eBlank 9) T.2.1 (cEntry (Int32.ofNat pp) (Int32.ofNat v) t (Int32.ofNat wh) (came S 8) (came S 10 + S.1 36) (S.1 36) 0 0)) := (Ep6 tset_at).trans (by rw [tset_tset])
  have q7 : tpi (tset (tadd T eBlank 9) T.2.1 (cEntry (Int32.ofNat pp) (Int32.ofNat v) t (Int32.ofNat wh) (came S 8) (came S 10 + S.1 36) (S.1 36) 0 0)) T.2.1 11 7 (gm 17) = some (tset (tadd T eBlank 9) T.2.1 (eNew S pp v t wh (came S 11) 0)) := (Ep7 tset_at).trans (by rw [tset_tset, m17]; rfl)
  have hc : ∀ E, tgi (tset (tadd T eBlank 9) T.2.1 E) 512 0 14 = some (S.1 36) := fun E => tgi_o (oo E hH) rfl
  have g16 : ∀ E, tgi (tset (tadd T eBlank 9) T.2.1 E) am 9 16 = some (gm 16) := fun E => tgi_o (oo E hm) rfl
  have g18 : ∀ E, tgi (tset (tadd T eBlank 9) T.2.1 E) am 9 18 = some (gm 18) := fun E => tgi_o (oo E hm) rfl
  have g17 : ∀ E, tgi (tset (tadd T eBlank 9) T.2.1 E) am 9 17 = some (gm 17) := fun E => tgi_o (oo E hm) rfl
  have nd : ∀ E, tgr (tset (tadd T eBlank 9) T.2.1 E) (527 + 8 * n) 4 1 = some (some (528 + 8 * n)) := fun E => tgr_o (x := some (528 + 8 * n)) (oo E hnode) rfl
  have sc : ∀ E, tcl (tset (tadd T eBlank 9) T.2.1 E) (528 + 8 * n) 5 = some () := fun E => tcl_o (oo E hst)
  have nd89 : tgr T89 (527 + 8 * n) 4 1 = some (some (528 + 8 * n)) := tgr_o (x := some (528 + 8 * n)) node89 rfl
  have pe : ∀ x, tpi T89 T.2.1 11 7 x = some (tset T89 T.2.1 (eNew S pp v t wh x 0)) := fun x => Ep7 e89
  unfold D_c_EdgeHouse_takeIn
  simp only [Option.bind_some, Mr15 hm, m1, bd2, f0, f1, f2, f3, tcl_o (o9 ht), wf, e_init hN, p4, q4, q5, q6, q7, hc, g16, g17, g18, nd, sc, hrv, nd89, st89, Eg0 e89, Eg1 e89, Eg3 e89, hfi, Tg1 t89, Eg7 e89, pe]
end
