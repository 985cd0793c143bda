/-! The reference's methods as guarded functions on its state: what they stand on. -/
def aget (t N : Nat) (S : mS) (a : Nat) (i : Int32) : Option Int32 := if ¬ i < 0 ∧ i.toNatClampNeg < N then some (m_rd t (S.2 a) i) else none
def aput (N : Nat) (S : mS) (a : Nat) (i x : Int32) : Option mS := if ¬ i < 0 ∧ i.toNatClampNeg < N then some (up2 S a i.toNatClampNeg x) else none
def bput (N : Nat) (S : mS) (a : Nat) (i x : Int32) : Option mS := if (¬ i < 0 ∧ i.toNatClampNeg < N) ∧ (x = 0 ∨ x = 1) then some (up2 S a i.toNatClampNeg x) else none
def fput (S : mS) (k : Nat) (x : Int32) : Option mS := some (up1 S k x)
def fpub (S : mS) (k : Nat) (x : Int32) : Option mS := if x = 0 ∨ x = 1 then some (up1 S k x) else none
def bret (x : Int32) : Option Int32 := if x = 0 ∨ x = 1 then some x else none
def idv (x y : Int32) : Option Int32 := if y = 0 then none else some (x / y)
theorem bS {α β : Type} {o : Option α} {k : α → Option β} {r : β} (h : o.bind k = some r) : ∃ v, o = some v ∧ k v = some r := by
  cases o with
  | none => cases h
  | some v => exact ⟨v, rfl, h⟩
theorem cT {α : Type} {c : Bool} {a b : Option α} {r : α} (hc : c = true) (h : cond c a b = some r) : a = some r := by subst hc; exact h
theorem cF {α : Type} {c : Bool} {a b : Option α} {r : α} (hc : c = false) (h : cond c a b = some r) : b = some r := by subst hc; exact h
theorem m_nb_or {x : Int32} (h : x = 0 ∨ x = 1) : m_nb x := by
  rcases h with rfl | rfl
  · exact m_nb0
  · exact m_nb1
theorem bret_ok {x v : Int32} (h : bret x = some v) : v = x ∧ m_nb v := by
  unfold bret at h
  split at h
  · rename_i h1
    obtain rfl := Option.some.inj h
    exact ⟨rfl, m_nb_or h1⟩
  · cases h
section
variable {l : Launch} {I : mI} {pc pc' k fk N j t a : Nat} {lv lv' : List (Nat × Value)} {r st : List Value} {w w0 : List mM} {S S1 : mS} {x y z : Int32} {ty : FieldType} {P : Option Value → List mM → Prop} {c s f lo : Nat} {ic : mI → mF → Option mR}
theorem x_lstore {b : Int64} (hd : m_dn I pc (.lstore k) 2 pc') (hk : decide (k + 1 < I.2.2.1) = true) (h : m_put2 lv k (.long b) = lv') : m_nx ic I (pc, lv, .long b :: r, w) = some ((pc', lv', r, w), 0, 0, 0, 0) := by
  refine x_lo hd rfl ?_
  simp only [m_lo, m_stl2, of_decide_eq_true hk, h, if_true]
theorem x_lstore_n {b : Int64} {k4 : Fin 4} (hd : m_dn I pc (.lstore_n k4) 1 pc') (hk : decide (k4 + 1 < I.2.2.1) = true) (h : m_put2 lv k4 (.long b) = lv') : m_nx ic I (pc, lv, .long b :: r, w) = some ((pc', lv', r, w), 0, 0, 0, 0) := by
  refine x_lo hd rfl ?_
  simp only [m_lo, m_stl2, of_decide_eq_true hk, h, if_true]
theorem m_Rs.dget (hI : m_bOk I) (hd : m_dn I pc .iaload 1 pc') (h : m_RM S w) (k9 : Nat) (hk : m_arrs[k9]? = some (a, 0, N)) (e : aget 0 N S a y = some x) (kk : m_Rs l I (pc', lv, .int x :: r, w) P c s f lo) : m_Rs l I (pc, lv, .int y :: .ref a :: r, w) P c s f lo := by
  unfold aget at e
  split at e
  · rename_i hi
    obtain rfl := Option.some.inj e
    exact m_Rs.n0 hI (x_ldG hd (h.a k9 hk) rfl hi) kk
  · cases e
theorem m_Rs.dgetb (hI : m_bOk I) (hd : m_dn I pc .baload 1 pc') (h : m_RM S w) (k9 : Nat) (hk : m_arrs[k9]? = some (a, 4, N)) (e : aget 4 N S a y = some x) (kk : m_Rs l I (pc', lv, .int x :: r, w) P c s f lo) : m_Rs l I (pc, lv, .int y :: .ref a :: r, w) P c s f lo := by
  unfold aget at e
  split at e
  · rename_i hi
    obtain rfl := Option.some.inj e
    exact m_Rs.n0 hI (x_bdG hd (h.a k9 hk) rfl hi) kk
  · cases e
theorem m_Rs.dput (hI : m_bOk I) (hd : m_dn I pc .iastore 1 pc') (h : m_RM S w) (hF : m_Fq w0 w) (k9 : Nat) (hk : m_arrs[k9]? = some (a, 0, N)) (e : aput N S a y x = some S1) (kk : ∀ w1, m_RM S1 w1 → m_Fq w0 w1 → m_Rs l I (pc', lv, r, w1) P c s f lo) : m_Rs l I (pc, lv, .int x :: .int y :: .ref a :: r, w) P c s f lo := by
  unfold aput at e
  split at e
  · rename_i hi
    obtain rfl := Option.some.inj e
    exact m_Rs.mias hI hd h hF k9 hk hi kk
  · cases e
theorem m_Rs.dputb (hI : m_bOk I) (hd : m_dn I pc .bastore 1 pc') (h : m_RM S w) (hF : m_Fq w0 w) (k9 : Nat) (hk : m_arrs[k9]? = some (a, 4, N)) (e : bput N S a y x = some S1) (kk : ∀ w1, m_RM S1 w1 → m_Fq w0 w1 → m_Rs l I (pc', lv, r, w1) P c s f lo) : m_Rs l I (pc, lv, .int x :: .int y :: .ref a :: r, w) P c s f lo := by
  unfold bput at e
  split at e
  · rename_i hi
    obtain rfl := Option.some.inj e
    refine m_Rs.mbas hI hd h hF k9 hk hi.1 ?_ kk
    rcases hi.2 with rfl | rfl <;> decide
  · cases e
theorem m_Rs.dfput (hI : m_bOk I) (hd : m_dn I pc (.putfield k) 3 pc') (h : m_RM S w) (hF : m_Fq w0 w) (e : fput S fk x = some S1) (hf : m_fe I k = some (14, fk, 1)) (hty : m_ft 14 fk = some ty) (hlen : decide (fk < (f_M S.1).length) = true) (hn : narrow ty (.int x) = .int x) (hi : fits ty (.int x) = true) (hfs : (f_M S.1).set fk (.int x) = f_M (up1 S fk x).1) (kk : ∀ w1, m_RM S1 w1 → m_Fq w0 w1 → m_Rs l I (pc', lv, r, w1) P c s f lo) : m_Rs l I (pc, lv, .int x :: .ref 583 :: r, w) P c s f lo := by
  obtain rfl := Option.some.inj e
  exact m_Rs.mput hI hd h hF hf hty hlen hn hi hfs kk
theorem m_Rs.dfpub (hI : m_bOk I) (hd : m_dn I pc (.putfield k) 3 pc') (h : m_RM S w) (hF : m_Fq w0 w) (e : fpub S fk x = some S1) (hf : m_fe I k = some (14, fk, 1)) (hty : m_ft 14 fk = some .boolean) (hlen : decide (fk < (f_M S.1).length) = true) (hi : fits .boolean (.int x) = true) (hfs : (f_M S.1).set fk (.int x) = f_M (up1 S fk x).1) (kk : ∀ w1, m_RM S1 w1 → m_Fq w0 w1 → m_Rs l I (pc', lv, r, w1) P c s f lo) : m_Rs l I (pc, lv, .int x :: .ref 583 :: r, w) P c s f lo := by
  unfold fpub at e
  split at e
  · rename_i h1
    obtain rfl := Option.some.inj e
    exact m_Rs.mput hI hd h hF hf hty hlen (m_nb_or h1) hi hfs kk
  · cases e
theorem m_Rs.didv (hI : m_bOk I) (hd : m_dn I pc .idiv 1 pc') (e : idv x y = some z) (kk : m_Rs l I (pc', lv, .int z :: r, w) P c s f lo) : m_Rs l I (pc, lv, .int y :: .int x :: r, w) P c s f lo := by
  unfold idv at e
  split at e
  · cases e
  · rename_i hi
    obtain rfl := Option.some.inj e
    exact m_Rs.n0 hI (x_idiv hd hi rfl) kk
theorem m_Rs.retb {v : Int32} (hI : m_bOk I) (hd : m_dn I pc .ireturn 1 pc') (hty : I.2.2.2.2.1 = some .boolean) (e : bret x = some v) (hP : P (some (.int v)) w) : m_Rs l I (pc, lv, [.int x], w) P c s f lo := by
  obtain ⟨e1, e2⟩ := bret_ok e
  rw [e1] at e2 hP
  exact m_Rs.ret hI (m_rt_ir hd hty e2) hP
theorem rP {q : Int32 × mS} (e : some (x, S) = some q) (h : m_RM S w) (hF : m_Fq w0 w) : some (Value.int x) = some (.int q.1) ∧ m_RM q.2 w ∧ m_Fq w0 w := by
  obtain rfl := Option.some.inj e
  exact ⟨rfl, h, hF⟩
theorem rI {q : Int32} (e : some x = some q) (h : m_RM S w) (hF : m_Fq w0 w) : some (Value.int x) = some (.int q) ∧ m_RM S w ∧ m_Fq w0 w := by
  obtain rfl := Option.some.inj e
  exact ⟨rfl, h, hF⟩
theorem rV {q : mS} (e : some S = some q) (h : m_RM S w) (hF : m_Fq w0 w) : (none : Option Value) = none ∧ m_RM q w ∧ m_Fq w0 w := by
  obtain rfl := Option.some.inj e
  exact ⟨rfl, h, hF⟩
end
theorem m_lsw_n {x v : Int32} {k : Int} (h : ¬ x = v) (hk : v.toInt = k) : ¬ k = x.toInt := fun e => h (Int32.toInt_inj.mp (by rw [← e, hk]))
theorem m_lsw_o {x k : Int} : ∀ {ps : List (Int × Int)}, (∀ q ∈ ps, ¬ q.1 = x) → Op.lookupswitch.offset ps k x = k := by
  intro ps
  induction ps with
  | nil => intro _; rfl
  | cons q ps ih =>
    intro h
    show (if q.1 = x then q.2 else Op.lookupswitch.offset ps k x) = k
    rw [if_neg (h q List.mem_cons_self)]
    exact ih (fun q hq => h q (List.mem_cons_of_mem _ hq))
theorem m_lsw_d {pc t : Nat} {d : Int} {ps : Array (Int × Int)} {x : Int32} {r : List Value} (hs : (ps.toList.zip (ps.toList.drop 1)).all (fun (a, next) => a.1 < next.1) = true) (h : ∀ q ∈ ps.toList, ¬ q.1 = x.toInt) (hj : m_jmp pc d = some t) : m_lsw pc d ps (.int x :: r) = some (t, r) := by
  unfold m_lsw
  simp only [hs, if_true, m_lsw_o h, hj, Option.map_some]
/-- the outside text t: its length, its characters -/
def m_tx (t : Nat) : List Int32 := m_xbl.getD (t - 1) []
def xlen (t : Nat) : Option Int32 := if 1 ≤ t ∧ t ≤ m_sN then some (Int32.ofNat (m_tx t).length) else none
def xchr (t : Nat) (i : Int32) : Option Int32 := if (1 ≤ t ∧ t ≤ m_sN) ∧ ¬ i < 0 ∧ i.toNatClampNeg < (m_tx t).length then some ((m_tx t).getD i.toNatClampNeg 0) else none
