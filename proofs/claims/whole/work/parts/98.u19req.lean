/-! A request's text, whole: the beginning. -/
def cCond0 : tC := .inl (7, [.int 0, .int 0, .int 0, .int 0, .int 0, .null, .int 0, .int 0])
abbrev q0v : Nat → Int32 := fup (fup (fup (fup (fun _ => 0) 5 15) 8 (-1)) 9 (-1)) 10 (-1)
abbrev k0v : Nat → Int32 := fup (fun _ => 0) 7 (-1)
section
variable {T T' : tT} {S S' : mS} {t : Nat → Nat} {L p s e F k c m n a aq ac at' : Nat} {g g' : Nat → Int32} {r : Option Nat × Option Nat × Option Nat} {K A B : List Nat} {x : Int32}
theorem new_cond : tnw T 7 = some (T.2.1, tadd T cCond0 8) := rfl
theorem new_requ : tnw T 6 = some (T.2.1, tadd T (cReq (fun _ => 0) none none none) 19) := rfl
theorem new_tags : tna T 0 8 = some (T.2.1, tadd T (.inr (.inl (0, 8, fun _ => .int 0))) 8) := rfl
theorem Kp13 {x : Nat} : tpr (kR T L r g) 513 1 13 (some x) = some (kR T L (some x, r.2.1, r.2.2) g) := by
  unfold tpr
  refine (tp_o kR_at (show 13 < 16 by decide)).trans ?_
  show some (tset (kR T L r g) 513 _) = some (kR T L (some x, r.2.1, r.2.2) g)
  unfold kR
  rw [tset_tset]
  rfl
theorem Kp14 {x : Nat} : tpr (kR T L r g) 513 1 14 (some x) = some (kR T L (r.1, some x, r.2.2) g) := by
  unfold tpr
  refine (tp_o kR_at (show 14 < 16 by decide)).trans ?_
  show some (tset (kR T L r g) 513 _) = some (kR T L (r.1, some x, r.2.2) g)
  unfold kR
  rw [tset_tset]
  rfl
theorem req_init (h : T.1 a = some (cReq (fun _ => 0) none none none)) : D_c_Request_init F a T = some (tset T a (cReq q0v none none none)) := by
  unfold D_c_Request_init
  rw [Qp5 h, Option.bind_some, Qp8 tset_at, Option.bind_some, tset_tset, Qp9 tset_at, Option.bind_some, tset_tset, Qp10 tset_at, Option.bind_some, tset_tset]
theorem cond_init (h : T.1 a = some cCond0) (n : ¬ a = T.2.1) : D_c_Conditions_init F a T = some (tset (tadd T (.inr (.inl (0, 8, fun _ => .int 0))) 8) a (cCond k0v T.2.1)) := by
  have h1 : tpi T a 7 1 0 = some T := by
    refine (tp_o h (show 1 < 8 by decide)).trans ?_
    exact congrArg some (tset_own h)
  have h2 : (tadd T (.inr (.inl (0, 8, fun _ => .int 0))) 8).1 a = some cCond0 := by rw [tadd_1, if_neg n]; exact h
  have h3 : tpr (tadd T (.inr (.inl (0, 8, fun _ => .int 0))) 8) a 7 5 (some T.2.1) = some (tset (tadd T (.inr (.inl (0, 8, fun _ => .int 0))) 8) a (cCond (fun _ => 0) T.2.1)) := by
    unfold tpr
    exact (tp_o h2 (show 5 < 8 by decide)).trans rfl
  unfold D_c_Conditions_init
  rw [h1, Option.bind_some, new_tags]
  simp only [bd2, Option.bind_some, h3]
  rw [Cp7 tset_at, Option.bind_some, tset_tset]
/-- the cells of a request that is read -/
theorem rq_begin {b' c' d' : Option Nat} {f3 : Nat → Value} (h1 : T.1 513 = some (cRd (Int32.ofNat L) g b' c' d')) (h3 : T.1 516 = some (.inr (.inl (0, 4, f3)))) (hC : Tc t L T) (lt : 516 < T.2.1) (hF : 400 < F) :
    ∃ T1 f3' g1, D_c_Reader_readRequest F 513 T = D_c_Reader_readRequest_65 F 513 (if hc t L 0 = 72 then 6 else 7) (some 513) (kR T1 L (some T.2.1, some (T.2.1 + 1), d') g1) ∧ T1.1 T.2.1 = some (cReq q0v none none none) ∧ T1.1 (T.2.1 + 1) = some (cCond (fup k0v 0 (if hc t L 0 = 72 then 1 else 0)) (T.2.1 + 2)) ∧ T1.1 (T.2.1 + 2) = some (.inr (.inl (0, 8, fun _ => .int 0))) ∧ T1.1 516 = some (.inr (.inl (0, 4, f3'))) ∧ (∀ j, j < 4 → m_toI (f3' j) = 0) ∧ (∀ b, ¬ b = 516 → ¬ (T.2.1 ≤ b ∧ b < T.2.1 + 3) → T1.1 b = T.1 b) ∧ g1 2 = 0 ∧ g1 3 = -1 ∧ g1 5 = 0 ∧ Cs T (kR T1 L (some T.2.1, some (T.2.1 + 1), d') g1) 3 35 := by
  obtain ⟨A, hA⟩ : ∃ A, A = T.2.1 := ⟨_, rfl⟩
  rw [← hA] at lt ⊢
  have T0 : T = kR T L (b', c', d') g := (tset_own h1).symm
  obtain ⟨f3', g1, b1, b2, b3, b4, b5, b6⟩ := begin_c (F := F) (T := T) (L := L) (r := (b', c', d')) (g := g) h3 (by omega)
  obtain ⟨Ta, hTa⟩ : ∃ z, z = tset T 516 (.inr (.inl (0, 4, f3'))) := ⟨_, rfl⟩
  have a2 : Ta.2.1 = A := by rw [hTa, hA]; rfl
  obtain ⟨Tb, hTb⟩ : ∃ z, z = tadd Ta (cReq (fun _ => 0) none none none) 19 := ⟨_, rfl⟩
  have b21 : Tb.2.1 = A + 1 := by rw [hTb, ← a2]; rfl
  have bA : Tb.1 A = some (cReq (fun _ => 0) none none none) := by rw [hTb, tadd_1, if_pos a2.symm]
  obtain ⟨Tc', hTc⟩ : ∃ z, z = tset Tb A (cReq q0v none none none) := ⟨_, rfl⟩
  have c21 : Tc'.2.1 = A + 1 := by rw [hTc, ← b21]; rfl
  obtain ⟨Td', hTd⟩ : ∃ z, z = tadd Tc' cCond0 8 := ⟨_, rfl⟩
  have d21 : Td'.2.1 = A + 2 := by rw [hTd]; show Tc'.2.1 + 1 = _; rw [c21]
  have dA : Td'.1 (A + 1) = some cCond0 := by rw [hTd, tadd_1, if_pos c21.symm]
  obtain ⟨Te, hTe⟩ : ∃ z, z = tset (tadd Td' (.inr (.inl (0, 8, fun _ => .int 0))) 8) (A + 1) (cCond k0v (A + 2)) := ⟨_, rfl⟩
  obtain ⟨hd, hhd⟩ : ∃ z : Int32, z = if hc t L 0 = 72 then 1 else 0 := ⟨_, rfl⟩
  rw [← hhd]
  obtain ⟨T1, hT1⟩ : ∃ z, z = tset Te (A + 1) (cCond (fup k0v 0 hd) (A + 2)) := ⟨_, rfl⟩
  have c1 : ∀ b, Te.1 b = if b = A + 1 then some (cCond k0v (A + 2)) else if b = A + 2 then some (.inr (.inl (0, 8, fun _ => .int 0))) else if b = A then some (cReq q0v none none none) else if b = 516 then some (.inr (.inl (0, 4, f3'))) else T.1 b := fun b => by
    rw [hTe, tset_1]
    by_cases w1 : b = A + 1
    · rw [if_pos w1, if_pos w1]
    · rw [if_neg w1, if_neg w1, tadd_1, d21]
      by_cases w2 : b = A + 2
      · rw [if_pos w2, if_pos w2]
      · rw [if_neg w2, if_neg w2, hTd, tadd_1, c21, if_neg w1, hTc, tset_1]
        by_cases w3 : b = A
        · rw [if_pos w3, if_pos w3]
        · rw [if_neg w3, if_neg w3, hTb, tadd_1, a2, if_neg w3, hTa, tset_1]
  have t1 : ∀ b, T1.1 b = if b = A + 1 then some (cCond (fup k0v 0 hd) (A + 2)) else Te.1 b := fun b => by rw [hT1, tset_1]
  have e1 : Te.1 (A + 1) = some (cCond k0v (A + 2)) := by rw [c1, if_pos rfl]
  have tc1 : Tc t L Te := by
    refine ⟨hC.1, ?_⟩
    obtain ⟨_, f1, q1', q2'⟩ := hC
    exact ⟨f1, by rw [c1, if_neg (by omega), if_neg (by omega), if_neg (by omega), if_neg (by decide)]; exact q1', q2'⟩
  have hl := tc1.lt (p := 0)
  have k1' : tadd (kR Ta L (b', c', d') g1) (cReq (fun _ => 0) none none none) 19 = kR Tb L (b', c', d') g1 := by rw [kR_tadd (by omega), hTb]
  have k2' : D_c_Request_init F A (kR Tb L (b', c', d') g1) = some (kR Tc' L (b', c', d') g1) := by rw [req_init ((kR_ne (by omega)).trans bA), kR_tset (by omega), hTc]
  have k3' : tadd (kR Tc' L (some A, c', d') g1) cCond0 8 = kR Td' L (some A, c', d') g1 := by rw [kR_tadd (by omega), hTd]
  have k4' : D_c_Conditions_init F (A + 1) (kR Td' L (some A, c', d') g1) = some (kR Te L (some A, c', d') g1) := by
    have z : (kR Td' L (some A, c', d') g1).2.1 = A + 2 := d21
    rw [cond_init ((kR_ne (by omega)).trans dA) (by omega), z, kR_tadd (by omega), kR_tset (by omega), hTe]
  have k5' : (cond (m_c2 .ne (Int32.ofNat (hc t L 0)) (72 : Int32)) (some (0 : Int32)) (some (1 : Int32))) = some hd := by
    rw [show (72 : Int32) = Int32.ofNat 72 from rfl, ne_n (by omega) (by decide), hhd]
    by_cases w : hc t L 0 = 72
    · rw [decide_eq_false (show ¬ ¬ hc t L 0 = 72 from fun n => n w), if_pos w]; rfl
    · rw [decide_eq_true w, if_neg w]; rfl
  have fl : hd = 0 ∨ hd = 1 := by rw [hhd]; by_cases w : hc t L 0 = 72 <;> simp [w]
  have k6' : tpz (kR Te L (some A, some (A + 1), d') g1) (A + 1) 7 0 hd = some (kR T1 L (some A, some (A + 1), d') g1) := by
    unfold tpz
    rw [if_pos fl]
    exact (Cp0 ((kR_ne (by omega)).trans e1)).trans (by rw [kR_tset (by omega), hT1])
  have k7' : (kR T1 L (some A, some (A + 1), d') g1).1 (A + 1) = some (cCond (fup k0v 0 hd) (A + 2)) := by rw [kR_ne (by omega), t1, if_pos rfl]
  have k8' : D_c_Reader_here F 513 (kR Te L (some A, some (A + 1), d') g1) = some (Int32.ofNat (hc t L 0)) := here_v tc1 (by rw [b3]; rfl) (Nat.zero_le _)
  refine ⟨T1, f3', g1, ?_, ?_, ?_, ?_, ?_, b2, fun b n1 n2 => ?_, b3, b4, b5, ?_⟩
  · unfold D_c_Reader_readRequest
    rw [tcl_o h1, Option.bind_some]
    conv => lhs; rw [T0]
    rw [b1, Option.bind_some, ← hTa, new_requ]
    have z1 : (kR Ta L (b', c', d') g1).2.1 = A := a2
    rw [z1, k1']
    simp only [bd2, Option.bind_some, k2', Kp13]
    rw [new_cond]
    have z2 : (kR Tc' L (some A, c', d') g1).2.1 = A + 1 := c21
    rw [z2, k3']
    simp only [Option.bind_some, k4', Kp14, Kr14, Kcl, k8', k5', k6', Cg0 k7']
    rw [fup_eq, hhd]
    by_cases w : hc t L 0 = 72
    · rw [if_pos w, if_pos w]; rfl
    · rw [if_neg w, if_neg w]; rfl
  · rw [t1, if_neg (by omega), c1, if_neg (by omega), if_neg (by omega), if_pos rfl]
  · rw [t1, if_pos rfl]
  · rw [t1, if_neg (by omega), c1, if_neg (by omega), if_pos rfl]
  · rw [t1, if_neg (by omega), c1, if_neg (by omega), if_neg (by omega), if_neg (by omega), if_pos rfl]
  · rw [t1, if_neg (by omega), c1, if_neg (by omega), if_neg (by omega), if_neg (by omega), if_neg n1]
  · have q1' : Cs T (kR Ta L (b', c', d') g1) 0 0 := by
      have z : Cs T (kR T L (b', c', d') g1) 0 0 := by
        have := kR_cs (T := T) (L := L) (r := (b', c', d')) (g := g) (g' := g1)
        rw [← T0] at this
        exact this
      rw [hTa]
      exact (z.trans (up_cs (T1 := T) h3 (by decide) rfl rfl)).mono (by decide) (by decide)
    have q2' : Cs (kR Ta L (b', c', d') g1) (kR Tb L (b', c', d') g1) 1 19 := by rw [← k1']; exact Cs.new rfl
    have q3' : Cs (kR Tb L (b', c', d') g1) (kR Tc' L (b', c', d') g1) 0 0 := by rw [hTc]; exact up_cs (T1 := T) bA (by omega) rfl rfl
    have q4' : Cs (kR Tc' L (b', c', d') g1) (kR Tc' L (some A, c', d') g1) 0 0 := by
      have := Cs.cell (T := kR Tc' L (b', c', d') g1) (a := 513) (d := cRd (Int32.ofNat L) g1 (some A) c' d') kR_at rfl rfl
      have e : tset (kR Tc' L (b', c', d') g1) 513 (cRd (Int32.ofNat L) g1 (some A) c' d') = kR Tc' L (some A, c', d') g1 := tset_tset
      rw [e] at this
      exact this
    have q5' : Cs (kR Tc' L (some A, c', d') g1) (kR Td' L (some A, c', d') g1) 1 8 := by rw [← k3']; exact Cs.new rfl
    have q6' : Cs (kR Td' L (some A, c', d') g1) (kR Te L (some A, c', d') g1) 1 8 := by
      have z1 : Cs (kR Td' L (some A, c', d') g1) (kR (tadd Td' (.inr (.inl (0, 8, fun _ => .int 0))) 8) L (some A, c', d') g1) 1 8 := by
        rw [← kR_tadd (by omega)]
        exact Cs.new rfl
      have z2 : (tadd Td' (.inr (.inl (0, 8, fun _ => .int 0))) 8).1 (A + 1) = some cCond0 := by rw [tadd_1, if_neg (by omega)]; exact dA
      rw [hTe]
      exact (z1.trans (up_cs (T1 := T) z2 (by omega) rfl rfl)).mono (by decide) (by decide)
    have q7' : Cs (kR Te L (some A, c', d') g1) (kR Te L (some A, some (A + 1), d') g1) 0 0 := by
      have := Cs.cell (T := kR Te L (some A, c', d') g1) (a := 513) (d := cRd (Int32.ofNat L) g1 (some A) (some (A + 1)) d') kR_at rfl rfl
      have e : tset (kR Te L (some A, c', d') g1) 513 (cRd (Int32.ofNat L) g1 (some A) (some (A + 1)) d') = kR Te L (some A, some (A + 1), d') g1 := tset_tset
      rw [e] at this
      exact this
    have q8' : Cs (kR Te L (some A, some (A + 1), d') g1) (kR T1 L (some A, some (A + 1), d') g1) 0 0 := by rw [hT1]; exact up_cs (T1 := T) e1 (by omega) rfl rfl
    exact (((((((q1'.trans q2').trans q3').trans q4').trans q5').trans q6').trans q7').trans q8').mono (by decide) (by decide)
end
