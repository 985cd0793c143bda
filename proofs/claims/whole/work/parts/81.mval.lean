/-! The same values as the reference computes them. -/
theorem k3 (e : Nat) : (3 : Int32) * Int32.ofNat e = Int32.ofNat (3 * e) := m_n_mul 3 e
theorem k4 (e : Nat) : (4 : Int32) * Int32.ofNat e = Int32.ofNat (4 * e) := m_n_mul 4 e
theorem k8 (e : Nat) : (8 : Int32) * Int32.ofNat e = Int32.ofNat (8 * e) := m_n_mul 8 e
theorem k9 (e : Nat) : (9 : Int32) * Int32.ofNat e = Int32.ofNat (9 * e) := m_n_mul 9 e
theorem k12 (e : Nat) : (12 : Int32) * Int32.ofNat e = Int32.ofNat (12 * e) := m_n_mul 12 e
theorem k16 (e : Nat) : (16 : Int32) * Int32.ofNat e = Int32.ofNat (16 * e) := m_n_mul 16 e
theorem k22 (e : Nat) : (22 : Int32) * Int32.ofNat e = Int32.ofNat (22 * e) := m_n_mul 22 e
theorem k23 (e : Nat) : (23 : Int32) * Int32.ofNat e = Int32.ofNat (23 * e) := m_n_mul 23 e
theorem k64 (e : Nat) : (64 : Int32) * Int32.ofNat e = Int32.ofNat (64 * e) := m_n_mul 64 e
theorem k128 (e : Nat) : (128 : Int32) * Int32.ofNat e = Int32.ofNat (128 * e) := m_n_mul 128 e
theorem k1024 (e : Nat) : (1024 : Int32) * Int32.ofNat e = Int32.ofNat (1024 * e) := m_n_mul 1024 e
theorem k2 (e : Nat) : (2 : Int32) * Int32.ofNat e = Int32.ofNat (2 * e) := m_n_mul 2 e
theorem p0 (e : Nat) : Int32.ofNat e + (0 : Int32) = Int32.ofNat (e + 0) := m_n_add e 0
theorem p1 (e : Nat) : Int32.ofNat e + (1 : Int32) = Int32.ofNat (e + 1) := m_n_add e 1
theorem p2 (e : Nat) : Int32.ofNat e + (2 : Int32) = Int32.ofNat (e + 2) := m_n_add e 2
theorem p3 (e : Nat) : Int32.ofNat e + (3 : Int32) = Int32.ofNat (e + 3) := m_n_add e 3
theorem p4 (e : Nat) : Int32.ofNat e + (4 : Int32) = Int32.ofNat (e + 4) := m_n_add e 4
theorem p5 (e : Nat) : Int32.ofNat e + (5 : Int32) = Int32.ofNat (e + 5) := m_n_add e 5
theorem p6 (e : Nat) : Int32.ofNat e + (6 : Int32) = Int32.ofNat (e + 6) := m_n_add e 6
theorem p7 (e : Nat) : Int32.ofNat e + (7 : Int32) = Int32.ofNat (e + 7) := m_n_add e 7
theorem p8 (e : Nat) : Int32.ofNat e + (8 : Int32) = Int32.ofNat (e + 8) := m_n_add e 8
theorem p9 (e : Nat) : Int32.ofNat e + (9 : Int32) = Int32.ofNat (e + 9) := m_n_add e 9
theorem p10 (e : Nat) : Int32.ofNat e + (10 : Int32) = Int32.ofNat (e + 10) := m_n_add e 10
theorem p11 (e : Nat) : Int32.ofNat e + (11 : Int32) = Int32.ofNat (e + 11) := m_n_add e 11
theorem p12 (e : Nat) : Int32.ofNat e + (12 : Int32) = Int32.ofNat (e + 12) := m_n_add e 12
theorem p13 (e : Nat) : Int32.ofNat e + (13 : Int32) = Int32.ofNat (e + 13) := m_n_add e 13
theorem p14 (e : Nat) : Int32.ofNat e + (14 : Int32) = Int32.ofNat (e + 14) := m_n_add e 14
theorem p15 (e : Nat) : Int32.ofNat e + (15 : Int32) = Int32.ofNat (e + 15) := m_n_add e 15
theorem p16 (e : Nat) : Int32.ofNat e + (16 : Int32) = Int32.ofNat (e + 16) := m_n_add e 16
theorem p17 (e : Nat) : Int32.ofNat e + (17 : Int32) = Int32.ofNat (e + 17) := m_n_add e 17
theorem p18 (e : Nat) : Int32.ofNat e + (18 : Int32) = Int32.ofNat (e + 18) := m_n_add e 18
theorem p19 (e : Nat) : Int32.ofNat e + (19 : Int32) = Int32.ofNat (e + 19) := m_n_add e 19
theorem p20 (e : Nat) : Int32.ofNat e + (20 : Int32) = Int32.ofNat (e + 20) := m_n_add e 20
theorem p21 (e : Nat) : Int32.ofNat e + (21 : Int32) = Int32.ofNat (e + 21) := m_n_add e 21
theorem p22 (e : Nat) : Int32.ofNat e + (22 : Int32) = Int32.ofNat (e + 22) := m_n_add e 22
theorem p23 (e : Nat) : Int32.ofNat e + (23 : Int32) = Int32.ofNat (e + 23) := m_n_add e 23
theorem p24 (e : Nat) : Int32.ofNat e + (24 : Int32) = Int32.ofNat (e + 24) := m_n_add e 24
theorem p25 (e : Nat) : Int32.ofNat e + (25 : Int32) = Int32.ofNat (e + 25) := m_n_add e 25
theorem p26 (e : Nat) : Int32.ofNat e + (26 : Int32) = Int32.ofNat (e + 26) := m_n_add e 26
theorem p27 (e : Nat) : Int32.ofNat e + (27 : Int32) = Int32.ofNat (e + 27) := m_n_add e 27
theorem p28 (e : Nat) : Int32.ofNat e + (28 : Int32) = Int32.ofNat (e + 28) := m_n_add e 28
theorem p29 (e : Nat) : Int32.ofNat e + (29 : Int32) = Int32.ofNat (e + 29) := m_n_add e 29
theorem p30 (e : Nat) : Int32.ofNat e + (30 : Int32) = Int32.ofNat (e + 30) := m_n_add e 30
theorem p31 (e : Nat) : Int32.ofNat e + (31 : Int32) = Int32.ofNat (e + 31) := m_n_add e 31
theorem q1 (e : Nat) : Int32.ofNat e + Int32.ofInt 1 = Int32.ofNat (e + 1) := m_n_add e 1
/-- fewer than 2^31 -/
abbrev sm (n : Nat) : Prop := n < 2147483648
theorem m_n_div {a b : Nat} (ha : sm a) (hb : sm b) : Int32.ofNat a / Int32.ofNat b = Int32.ofNat (a / b) := by
  have h1 : a / b ≤ a := Nat.div_le_self a b
  apply Int32.toInt_inj.mp
  rw [Int32.toInt_div, Int32.toInt_ofNat_of_lt ha, Int32.toInt_ofNat_of_lt hb, Int32.toInt_ofNat_of_lt (by unfold sm at ha; omega), ← Int.ofNat_tdiv]
  unfold sm at ha
  generalize a / b = q at h1 ⊢
  rw [Int.bmod_eq_of_le (by omega) (by omega)]
section
variable {S : mS} {F e r w : Nat}
theorem told0 (he : e < 7168) : D_m_told F (Int32.ofNat e) (0 : Int32) S = some (rd S 603 (9 * e + 0)) := by
  unfold D_m_told
  rw [k9, p0, aget_n (by decide) (by omega) (by decide)]
  rfl
theorem told1 (he : e < 7168) : D_m_told F (Int32.ofNat e) (1 : Int32) S = some (rd S 603 (9 * e + 1)) := by
  unfold D_m_told
  rw [k9, p1, aget_n (by decide) (by omega) (by decide)]
  rfl
theorem told2 (he : e < 7168) : D_m_told F (Int32.ofNat e) (2 : Int32) S = some (rd S 603 (9 * e + 2)) := by
  unfold D_m_told
  rw [k9, p2, aget_n (by decide) (by omega) (by decide)]
  rfl
theorem told3 (he : e < 7168) : D_m_told F (Int32.ofNat e) (3 : Int32) S = some (rd S 603 (9 * e + 3)) := by
  unfold D_m_told
  rw [k9, p3, aget_n (by decide) (by omega) (by decide)]
  rfl
theorem told4 (he : e < 7168) : D_m_told F (Int32.ofNat e) (4 : Int32) S = some (rd S 603 (9 * e + 4)) := by
  unfold D_m_told
  rw [k9, p4, aget_n (by decide) (by omega) (by decide)]
  rfl
theorem told5 (he : e < 7168) : D_m_told F (Int32.ofNat e) (5 : Int32) S = some (rd S 603 (9 * e + 5)) := by
  unfold D_m_told
  rw [k9, p5, aget_n (by decide) (by omega) (by decide)]
  rfl
theorem told6 (he : e < 7168) : D_m_told F (Int32.ofNat e) (6 : Int32) S = some (rd S 603 (9 * e + 6)) := by
  unfold D_m_told
  rw [k9, p6, aget_n (by decide) (by omega) (by decide)]
  rfl
theorem told7 (he : e < 7168) : D_m_told F (Int32.ofNat e) (7 : Int32) S = some (rd S 603 (9 * e + 7)) := by
  unfold D_m_told
  rw [k9, p7, aget_n (by decide) (by omega) (by decide)]
  rfl
theorem told8 (he : e < 7168) : D_m_told F (Int32.ofNat e) (8 : Int32) S = some (rd S 603 (9 * e + 8)) := by
  unfold D_m_told
  rw [k9, p8, aget_n (by decide) (by omega) (by decide)]
  rfl
theorem asks0 (he : r < 300) : D_m_asks F (Int32.ofNat r) (0 : Int32) S = some (rd S 620 (23 * r + 0)) := by
  unfold D_m_asks
  rw [k23, p0, aget_n (by decide) (by omega) (by decide)]
  rfl
theorem asks1 (he : r < 300) : D_m_asks F (Int32.ofNat r) (1 : Int32) S = some (rd S 620 (23 * r + 1)) := by
  unfold D_m_asks
  rw [k23, p1, aget_n (by decide) (by omega) (by decide)]
  rfl
theorem asks2 (he : r < 300) : D_m_asks F (Int32.ofNat r) (2 : Int32) S = some (rd S 620 (23 * r + 2)) := by
  unfold D_m_asks
  rw [k23, p2, aget_n (by decide) (by omega) (by decide)]
  rfl
theorem asks3 (he : r < 300) : D_m_asks F (Int32.ofNat r) (3 : Int32) S = some (rd S 620 (23 * r + 3)) := by
  unfold D_m_asks
  rw [k23, p3, aget_n (by decide) (by omega) (by decide)]
  rfl
theorem asks4 (he : r < 300) : D_m_asks F (Int32.ofNat r) (4 : Int32) S = some (rd S 620 (23 * r + 4)) := by
  unfold D_m_asks
  rw [k23, p4, aget_n (by decide) (by omega) (by decide)]
  rfl
theorem asks5 (he : r < 300) : D_m_asks F (Int32.ofNat r) (5 : Int32) S = some (rd S 620 (23 * r + 5)) := by
  unfold D_m_asks
  rw [k23, p5, aget_n (by decide) (by omega) (by decide)]
  rfl
theorem asks6 (he : r < 300) : D_m_asks F (Int32.ofNat r) (6 : Int32) S = some (rd S 620 (23 * r + 6)) := by
  unfold D_m_asks
  rw [k23, p6, aget_n (by decide) (by omega) (by decide)]
  rfl
theorem asks7 (he : r < 300) : D_m_asks F (Int32.ofNat r) (7 : Int32) S = some (rd S 620 (23 * r + 7)) := by
  unfold D_m_asks
  rw [k23, p7, aget_n (by decide) (by omega) (by decide)]
  rfl
theorem asks8 (he : r < 300) : D_m_asks F (Int32.ofNat r) (8 : Int32) S = some (rd S 620 (23 * r + 8)) := by
  unfold D_m_asks
  rw [k23, p8, aget_n (by decide) (by omega) (by decide)]
  rfl
theorem asks9 (he : r < 300) : D_m_asks F (Int32.ofNat r) (9 : Int32) S = some (rd S 620 (23 * r + 9)) := by
  unfold D_m_asks
  rw [k23, p9, aget_n (by decide) (by omega) (by decide)]
  rfl
theorem asks10 (he : r < 300) : D_m_asks F (Int32.ofNat r) (10 : Int32) S = some (rd S 620 (23 * r + 10)) := by
  unfold D_m_asks
  rw [k23, p10, aget_n (by decide) (by omega) (by decide)]
  rfl
theorem asks11 (he : r < 300) : D_m_asks F (Int32.ofNat r) (11 : Int32) S = some (rd S 620 (23 * r + 11)) := by
  unfold D_m_asks
  rw [k23, p11, aget_n (by decide) (by omega) (by decide)]
  rfl
theorem asks12 (he : r < 300) : D_m_asks F (Int32.ofNat r) (12 : Int32) S = some (rd S 620 (23 * r + 12)) := by
  unfold D_m_asks
  rw [k23, p12, aget_n (by decide) (by omega) (by decide)]
  rfl
theorem asks13 (he : r < 300) : D_m_asks F (Int32.ofNat r) (13 : Int32) S = some (rd S 620 (23 * r + 13)) := by
  unfold D_m_asks
  rw [k23, p13, aget_n (by decide) (by omega) (by decide)]
  rfl
theorem asks14 (he : r < 300) : D_m_asks F (Int32.ofNat r) (14 : Int32) S = some (rd S 620 (23 * r + 14)) := by
  unfold D_m_asks
  rw [k23, p14, aget_n (by decide) (by omega) (by decide)]
  rfl
theorem asks15 (he : r < 300) : D_m_asks F (Int32.ofNat r) (15 : Int32) S = some (rd S 620 (23 * r + 15)) := by
  unfold D_m_asks
  rw [k23, p15, aget_n (by decide) (by omega) (by decide)]
  rfl
theorem asks16 (he : r < 300) : D_m_asks F (Int32.ofNat r) (16 : Int32) S = some (rd S 620 (23 * r + 16)) := by
  unfold D_m_asks
  rw [k23, p16, aget_n (by decide) (by omega) (by decide)]
  rfl
theorem asks17 (he : r < 300) : D_m_asks F (Int32.ofNat r) (17 : Int32) S = some (rd S 620 (23 * r + 17)) := by
  unfold D_m_asks
  rw [k23, p17, aget_n (by decide) (by omega) (by decide)]
  rfl
theorem asks18 (he : r < 300) : D_m_asks F (Int32.ofNat r) (18 : Int32) S = some (rd S 620 (23 * r + 18)) := by
  unfold D_m_asks
  rw [k23, p18, aget_n (by decide) (by omega) (by decide)]
  rfl
theorem asks19 (he : r < 300) : D_m_asks F (Int32.ofNat r) (19 : Int32) S = some (rd S 620 (23 * r + 19)) := by
  unfold D_m_asks
  rw [k23, p19, aget_n (by decide) (by omega) (by decide)]
  rfl
theorem asks20 (he : r < 300) : D_m_asks F (Int32.ofNat r) (20 : Int32) S = some (rd S 620 (23 * r + 20)) := by
  unfold D_m_asks
  rw [k23, p20, aget_n (by decide) (by omega) (by decide)]
  rfl
theorem asks21 (he : r < 300) : D_m_asks F (Int32.ofNat r) (21 : Int32) S = some (rd S 620 (23 * r + 21)) := by
  unfold D_m_asks
  rw [k23, p21, aget_n (by decide) (by omega) (by decide)]
  rfl
theorem asks22 (he : r < 300) : D_m_asks F (Int32.ofNat r) (22 : Int32) S = some (rd S 620 (23 * r + 22)) := by
  unfold D_m_asks
  rw [k23, p22, aget_n (by decide) (by omega) (by decide)]
  rfl
theorem wait0 (he : w < 47988) : aget 0 48000 S 622 (Int32.ofNat w + (0 : Int32)) = some (rd S 622 (w + 0)) := by
  rw [p0, aget_n (by decide) (by omega) (by decide)]
theorem wait1 (he : w < 47988) : aget 0 48000 S 622 (Int32.ofNat w + (1 : Int32)) = some (rd S 622 (w + 1)) := by
  rw [p1, aget_n (by decide) (by omega) (by decide)]
theorem wait2 (he : w < 47988) : aget 0 48000 S 622 (Int32.ofNat w + (2 : Int32)) = some (rd S 622 (w + 2)) := by
  rw [p2, aget_n (by decide) (by omega) (by decide)]
theorem wait3 (he : w < 47988) : aget 0 48000 S 622 (Int32.ofNat w + (3 : Int32)) = some (rd S 622 (w + 3)) := by
  rw [p3, aget_n (by decide) (by omega) (by decide)]
theorem wait4 (he : w < 47988) : aget 0 48000 S 622 (Int32.ofNat w + (4 : Int32)) = some (rd S 622 (w + 4)) := by
  rw [p4, aget_n (by decide) (by omega) (by decide)]
theorem wait5 (he : w < 47988) : aget 0 48000 S 622 (Int32.ofNat w + (5 : Int32)) = some (rd S 622 (w + 5)) := by
  rw [p5, aget_n (by decide) (by omega) (by decide)]
theorem wait6 (he : w < 47988) : aget 0 48000 S 622 (Int32.ofNat w + (6 : Int32)) = some (rd S 622 (w + 6)) := by
  rw [p6, aget_n (by decide) (by omega) (by decide)]
theorem wait7 (he : w < 47988) : aget 0 48000 S 622 (Int32.ofNat w + (7 : Int32)) = some (rd S 622 (w + 7)) := by
  rw [p7, aget_n (by decide) (by omega) (by decide)]
theorem wait8 (he : w < 47988) : aget 0 48000 S 622 (Int32.ofNat w + (8 : Int32)) = some (rd S 622 (w + 8)) := by
  rw [p8, aget_n (by decide) (by omega) (by decide)]
theorem wait9 (he : w < 47988) : aget 0 48000 S 622 (Int32.ofNat w + (9 : Int32)) = some (rd S 622 (w + 9)) := by
  rw [p9, aget_n (by decide) (by omega) (by decide)]
theorem wait10 (he : w < 47988) : aget 0 48000 S 622 (Int32.ofNat w + (10 : Int32)) = some (rd S 622 (w + 10)) := by
  rw [p10, aget_n (by decide) (by omega) (by decide)]
theorem wait11 (he : w < 47988) : aget 0 48000 S 622 (Int32.ofNat w + (11 : Int32)) = some (rd S 622 (w + 11)) := by
  rw [p11, aget_n (by decide) (by omega) (by decide)]
theorem m_ageOf (he : e < 7168) : D_m_ageOf F (Int32.ofNat e) S = some ((rd S 605 e + S.1 36) - rd S 606 e) := by
  unfold D_m_ageOf
  rw [aget_n (by decide) he (by decide), aget_n (by decide) he (by decide)]
  rfl
theorem m_sizeOf (he : e < 7168) : D_m_sizeOf F (Int32.ofNat e) S = some (16 + 16 * F_bc (rd S 607 e)) := by
  unfold D_m_sizeOf
  rw [aget_n (by decide) he (by decide)]
  rfl
/-- the row of a thing that an entry holds -/
def eT (S : mS) (e : Nat) : Nat → Int32 := fun i => rd S 603 (9 * e + i)
theorem m_life (he : e < 7168) (hf : eT S e 6 = 0 ∨ eT S e 6 = 1) : D_m_lifeOf F (Int32.ofNat e) S = some (v_life (eT S e)) := by
  have hf : rd S 603 (9 * e + 6) = 0 ∨ rd S 603 (9 * e + 6) = 1 := hf
  simp only [D_m_lifeOf, told6 he, told2 he, List.getElem?_cons_succ, List.getElem?_cons_zero, List.getElem?_nil, Option.bind_some, Option.bind_none, if_true, Option.map_some, m_c2, v_life, eT]
  rcases hf with h | h <;> simp [h]
theorem rem8 {e : Nat} (he : sm e) : Int32.ofNat e - Int32.ofNat e / (8 : Int32) * (8 : Int32) = Int32.ofNat (e % 8) := by
  rw [show Int32.ofNat e / (8 : Int32) = Int32.ofNat (e / 8) from m_n_div he (by decide), show Int32.ofNat (e / 8) * (8 : Int32) = Int32.ofNat (e / 8 * 8) from m_n_mul _ 8, m_n_sub (by omega)]
  congr 1
  omega
theorem m_tagOf (he : e < 7168) : D_m_tagOf F (Int32.ofNat e) S = some (8 * eT S e 0 + Int32.ofNat (e % 8)) := by
  simp only [D_m_tagOf, told0 he, List.getElem?_cons_succ, List.getElem?_cons_zero, List.getElem?_nil, Option.bind_some, Option.bind_none, if_true, Option.map_some, rem8 (show sm e by unfold sm; omega), eT]
end
theorem which_all : (List.range 4).all (fun k => (List.range 4).all fun l => (List.range 2).all fun f => decide ((cond (m_c2 .ne (Int32.ofNat k &&& (1 : Int32)) (1 : Int32)) (0 : Int32) (Int32.ofNat (l + 4 * f) &&& (3 : Int32))) + (cond (m_c2 .ne (Int32.ofNat k &&& (2 : Int32)) (2 : Int32)) (0 : Int32) (Int32.ofNat (l + 4 * f) &&& (4 : Int32))) = v_which (Int32.ofNat k) (Int32.ofNat l) (Int32.ofNat f))) = true := by decide +kernel
theorem m_which {F : Nat} {S : mS} {k l f : Nat} (hk : k < 4) (hl : l < 4) (hf : f < 2) : D_m_whichOf F (Int32.ofNat k) (Int32.ofNat (l + 4 * f)) S = some (v_which (Int32.ofNat k) (Int32.ofNat l) (Int32.ofNat f)) := by
  have h := of_decide_eq_true (List.all_eq_true.mp (List.all_eq_true.mp (List.all_eq_true.mp which_all k (List.mem_range.mpr hk)) l (List.mem_range.mpr hl)) f (List.mem_range.mpr hf))
  rw [← h]
  unfold D_m_whichOf
  cases m_c2 .ne (Int32.ofNat k &&& (1 : Int32)) (1 : Int32) <;> cases m_c2 .ne (Int32.ofNat k &&& (2 : Int32)) (2 : Int32) <;> rfl
/-- k bits from place f -/
def msk (f : Nat) : Nat → Int32
  | 0 => 0
  | k + 1 => msk f k ||| ((1 : Int32) <<< (Int32.ofNat (f + k) &&& 31))
theorem m_span_loop {F : Nat} {S : mS} (f t z : Nat) (ht : t < 16) (hz : z < 256) : ∀ (n k : Nat), f + k ≤ 16 → 17 - (f + k) ≤ n → D_m_span_5 F n (Int32.ofNat t) (Int32.ofNat z) (msk f k) (Int32.ofNat (f + k)) S = some (msk f (max k (min (t + 1) ((z + 15) / 16) - f))) := by
  intro n
  induction n with
  | zero => intro k h1 h2; omega
  | succ n ih =>
    intro k h1 h2
    rw [D_m_span_5, gt_n (by omega) (by omega)]
    by_cases h3 : t < f + k
    · rw [decide_eq_true h3, cond_true, Nat.max_eq_left (by omega)]
    · rw [decide_eq_false h3, cond_false, k16, ge_n (by omega) (by omega)]
      by_cases h4 : z ≤ 16 * (f + k)
      · rw [decide_eq_true h4, cond_true, Nat.max_eq_left (by omega)]
      · rw [decide_eq_false h4, cond_false, q1]
        have := ih (k + 1) (by omega) (by omega)
        rw [show msk f k ||| ((1 : Int32) <<< (Int32.ofNat (f + k) &&& 31)) = msk f (k + 1) from rfl, show f + k + 1 = f + (k + 1) from rfl, this]
        congr 2
        omega
theorem msk_all : (List.range 17).all (fun f => (List.range 17).all fun e => (List.range 17).all fun c => decide (msk f (min e c - f) = ((((1 : Int32) <<< ((if Int32.ofNat c < Int32.ofNat e then Int32.ofNat c else Int32.ofNat e) &&& 31)) - (1 : Int32)) &&& (((-1) : Int32) <<< (Int32.ofNat f &&& 31))))) = true := by decide +kernel
theorem cnt_all : (List.range 256).all (fun z => decide ((Int32.ofNat z + (15 : Int32)) >>> ((4 : Int32) &&& 31) = Int32.ofNat ((z + 15) / 16))) = true := by decide +kernel
theorem m_span {F : Nat} {S : mS} {f t z : Nat} (hF : 17 ≤ F) (hf : f < 17) (ht : t < 16) (hz : z < 256) : D_m_span F (Int32.ofNat f) (Int32.ofNat t) (Int32.ofNat z) S = some (v_blocks (Int32.ofNat z) (Int32.ofNat f) (Int32.ofNat t)) := by
  unfold D_m_span
  have h1 := m_span_loop (F := F) (S := S) f t z ht hz F 0 (by omega) (by omega)
  rw [Nat.add_zero] at h1
  rw [show (0 : Int32) = msk f 0 from rfl, h1, Nat.max_eq_right (Nat.zero_le _)]
  have h2 := of_decide_eq_true (List.all_eq_true.mp (List.all_eq_true.mp (List.all_eq_true.mp msk_all f (List.mem_range.mpr (by omega))) (t + 1) (List.mem_range.mpr (by omega))) ((z + 15) / 16) (List.mem_range.mpr (by omega)))
  have h3 := of_decide_eq_true (List.all_eq_true.mp cnt_all z (List.mem_range.mpr hz))
  rw [h2]
  unfold v_blocks
  rw [h3, p1]
