/-! The rows that the reference writes of a request that is asked. -/
def Wq (S0 : mS) (r : Nat) (f : Nat → Int32) (n : Nat) (S : mS) : Prop := (∀ i, S.1 i = S0.1 i) ∧ ∀ a q, rd S a q = if a = 620 ∧ 23 * r ≤ q ∧ q < 23 * r + n then f (q - 23 * r) else rd S0 a q
def akF (S : mS) (wv : Int32) (k : Nat) : Int32 := if k = 0 then S.1 7 else if k = 1 then S.1 8 else if k = 2 then S.1 16 else if k = 3 then S.1 9 else if k = 4 then S.1 10 else if k = 5 then S.1 11 else if k = 6 then S.1 17 else if k = 7 then S.1 12 else if k < 16 then rd S 586 (k - 8) else if k = 16 then S.1 18 else if k = 17 then S.1 19 else if k = 18 then S.1 13 else if k = 19 then S.1 14 else if k = 20 then S.1 15 else if k = 21 then S.1 20 else wv
def askD (F r : Nat) (S : mS) : Option (Int32 × mS) := (D_m_ring F (3 : Int32) (6 : Int32) (((4 : Int32) * (S.1 7)) + (S.1 8)) (0 : Int32) S).bind fun v62 => cond (m_c2 .ne v62 ((-1) : Int32)) ((aput 2700 S 627 (((9 : Int32) * (Int32.ofNat r)) + (6 : Int32)) v62).bind fun S65 => (D_m_spare F S65).bind fun v67 => D_m_ask_378 F F (Int32.ofNat r) (Int32.ofNat (23 * r)) (((4 : Int32) * (S.1 7)) + (S.1 8)) v62 v67 (0 : Int32) S65) ((D_m_close F (Int32.ofNat r) (503 : Int32) (0 : Int32) (0 : Int32) S).bind fun S69 => some (Int32.ofNat r, S69))
def askC (F r : Nat) (S : mS) : Option (Int32 × mS) := (cond (m_c1 .eq (S.1 18)) (some (0 : Int32)) (some (1 : Int32))).bind fun v41 => (aput 6900 S 620 (Int32.ofNat (23 * r) + (16 : Int32)) v41).bind fun S42 => (cond (m_c1 .eq (S42.1 19)) (some (0 : Int32)) (some (1 : Int32))).bind fun v47 => (aput 6900 S42 620 (Int32.ofNat (23 * r) + (17 : Int32)) v47).bind fun S48 => (aput 6900 S48 620 (Int32.ofNat (23 * r) + (18 : Int32)) (S48.1 13)).bind fun S50 => (aput 6900 S50 620 (Int32.ofNat (23 * r) + (19 : Int32)) (S50.1 14)).bind fun S52 => (aput 6900 S52 620 (Int32.ofNat (23 * r) + (20 : Int32)) (S52.1 15)).bind fun S54 => (aput 6900 S54 620 (Int32.ofNat (23 * r) + (21 : Int32)) (S54.1 20)).bind fun S56 => (D_m_wanted F S56).bind fun v58 => (aput 6900 S56 620 (Int32.ofNat (23 * r) + (22 : Int32)) v58).bind fun S60 => askD F r S60
def askB (F r : Nat) (S : mS) : Option (Int32 × mS) := (aput 6900 S 620 (Int32.ofNat (23 * r)) (S.1 7)).bind fun S11 => (aput 6900 S11 620 (Int32.ofNat (23 * r) + (1 : Int32)) (S11.1 8)).bind fun S13 => (cond (m_c1 .eq (S13.1 16)) (some (0 : Int32)) (some (1 : Int32))).bind fun v18 => (aput 6900 S13 620 (Int32.ofNat (23 * r) + (2 : Int32)) v18).bind fun S19 => (aput 6900 S19 620 (Int32.ofNat (23 * r) + (3 : Int32)) (S19.1 9)).bind fun S21 => (aput 6900 S21 620 (Int32.ofNat (23 * r) + (4 : Int32)) (S21.1 10)).bind fun S23 => (aput 6900 S23 620 (Int32.ofNat (23 * r) + (5 : Int32)) (S23.1 11)).bind fun S25 => (cond (m_c1 .eq (S25.1 17)) (some (0 : Int32)) (some (1 : Int32))).bind fun v30 => (aput 6900 S25 620 (Int32.ofNat (23 * r) + (6 : Int32)) v30).bind fun S31 => (aput 6900 S31 620 (Int32.ofNat (23 * r) + (7 : Int32)) (S31.1 12)).bind fun S33 => D_m_ask_178 F F (Int32.ofNat r) (Int32.ofNat (23 * r)) (0 : Int32) S33
section
variable {S S0 S' : mS} {F r n w key : Nat} {f : Nat → Int32} {x wv : Int32}
theorem Wq.zero : Wq S0 r f 0 S0 := ⟨fun _ => rfl, fun a q => by rw [if_neg (by omega)]⟩
theorem Wq.next (h : Wq S0 r f n S) (hr : r < 300) (hn : n < 23) (hx : x = f n) : ∃ S', aput 6900 S 620 (Int32.ofNat (23 * r) + Int32.ofNat n) x = some S' ∧ Wq S0 r f (n + 1) S' := by
  refine ⟨up2 S 620 (23 * r + n) (f n), ?_, fun i => h.1 i, fun a q => ?_⟩
  · rw [m_n_add, aput_n (by omega) (by decide), hx]
  · rw [rd_up2]
    by_cases w : a = 620 ∧ q = 23 * r + n
    · rw [if_pos w, if_pos ⟨w.1, by omega, by omega⟩, w.2, show 23 * r + n - 23 * r = n by omega]
    · rw [if_neg w, h.2]
      by_cases w2 : a = 620 ∧ 23 * r ≤ q ∧ q < 23 * r + n
      · rw [if_pos w2, if_pos ⟨w2.1, w2.2.1, by omega⟩]
      · rw [if_neg w2, if_neg (show ¬ (a = 620 ∧ 23 * r ≤ q ∧ q < 23 * r + (n + 1)) from fun z => by
          have : ¬ q = 23 * r + n := fun y => w ⟨z.1, y⟩
          exact w2 ⟨z.1, z.2.1, by omega⟩)]
theorem ask_tags (hr : r < 300) (hf : ∀ j, j < 8 → f (8 + j) = rd S0 586 j) : ∀ m j S, j + m = 8 → Wq S0 r f (8 + j) S → ∀ fu, m < fu → ∃ S', D_m_ask_178 F fu (Int32.ofNat r) (Int32.ofNat (23 * r)) (Int32.ofNat j) S = askC F r S' ∧ Wq S0 r f 16 S' := by
  intro m
  induction m with
  | zero =>
    intro j S hj hW fu hfu
    obtain ⟨fu, rfl⟩ : ∃ y, fu = y + 1 := ⟨fu - 1, by omega⟩
    have : j = 8 := by omega
    subst this
    exact ⟨S, rfl, hW⟩
  | succ m ih =>
    intro j S hj hW fu hfu
    obtain ⟨fu, rfl⟩ : ∃ y, fu = y + 1 := ⟨fu - 1, by omega⟩
    have i1 : Int32.ofNat j + Int32.ofInt 1 = Int32.ofNat (j + 1) := m_n_add j 1
    have g1 : aget 0 8 S 586 (Int32.ofNat j) = some (rd S0 586 j) := (aget_n (Or.inl rfl) (by omega) (by decide)).trans (by rw [hW.2, if_neg (by omega)])
    have e1 : (Int32.ofNat (23 * r) + (8 : Int32)) + Int32.ofNat j = Int32.ofNat (23 * r) + Int32.ofNat (8 + j) := by
      have : Int32.ofNat (23 * r) + (8 : Int32) = Int32.ofNat (23 * r + 8) := m_n_add _ 8
      rw [this, m_n_add, m_n_add, Nat.add_assoc]
    obtain ⟨S1, a1, a2⟩ := hW.next (x := rd S0 586 j) hr (by omega) (hf j (by omega)).symm
    obtain ⟨S', y1, y2⟩ := ih (j + 1) S1 (by omega) (by rw [show 8 + (j + 1) = 8 + j + 1 by omega]; exact a2) fu (by omega)
    refine ⟨S', ?_, y2⟩
    conv => lhs; unfold D_m_ask_178
    rw [show (8 : Int32) = Int32.ofNat 8 from rfl, ge_n (by omega) (by decide), decide_eq_false (by omega), cond_false, g1, Option.bind_some]
    show (aput 6900 S 620 ((Int32.ofNat (23 * r) + (8 : Int32)) + Int32.ofNat j) (rd S0 586 j)).bind _ = _
    rw [e1, a1, Option.bind_some, i1]
    exact y1
theorem m_asked (hr : r < 300) (h16 : flag (S.1 16)) (h17 : flag (S.1 17)) (h18 : flag (S.1 18)) (h19 : flag (S.1 19)) (hw : ∀ S', (∀ j, rd S' 585 j = rd S 585 j) → D_m_wanted F S' = some wv) (hF : 10 < F) : ∃ S60, askB F r S = askD F r S60 ∧ Wq S r (akF S wv) 23 S60 := by
  have W0 : Wq S r (akF S wv) 0 S := Wq.zero
  obtain ⟨S11, a0, W1⟩ := W0.next (x := S.1 7) hr (by decide) rfl
  obtain ⟨S13, a1, W2⟩ := W1.next (x := S11.1 8) hr (by decide) (W1.1 8)
  obtain ⟨S19, a2, W3⟩ := W2.next (x := S13.1 16) hr (by decide) (W2.1 16)
  obtain ⟨S21, a3, W4⟩ := W3.next (x := S19.1 9) hr (by decide) (W3.1 9)
  obtain ⟨S23, a4, W5⟩ := W4.next (x := S21.1 10) hr (by decide) (W4.1 10)
  obtain ⟨S25, a5, W6⟩ := W5.next (x := S23.1 11) hr (by decide) (W5.1 11)
  obtain ⟨S31, a6, W7⟩ := W6.next (x := S25.1 17) hr (by decide) (W6.1 17)
  obtain ⟨S33, a7, W8⟩ := W7.next (x := S31.1 12) hr (by decide) (W7.1 12)
  obtain ⟨S41, b1, W16⟩ := ask_tags (F := F) (S0 := S) (f := akF S wv) hr (fun j hj => by
    unfold akF
    rw [if_neg (by omega), if_neg (by omega), if_neg (by omega), if_neg (by omega), if_neg (by omega), if_neg (by omega), if_neg (by omega), if_neg (by omega), if_pos (by omega), show 8 + j - 8 = j by omega]) 8 0 S33 rfl W8 F (by omega)
  obtain ⟨S42, a16, W17⟩ := W16.next (x := S41.1 18) hr (by decide) (W16.1 18)
  obtain ⟨S48, a17, W18⟩ := W17.next (x := S42.1 19) hr (by decide) (W17.1 19)
  obtain ⟨S50, a18, W19⟩ := W18.next (x := S48.1 13) hr (by decide) (W18.1 13)
  obtain ⟨S52, a19, W20⟩ := W19.next (x := S50.1 14) hr (by decide) (W19.1 14)
  obtain ⟨S54, a20, W21⟩ := W20.next (x := S52.1 15) hr (by decide) (W20.1 15)
  obtain ⟨S56, a21, W22⟩ := W21.next (x := S54.1 20) hr (by decide) (W21.1 20)
  obtain ⟨S60, a22, W23⟩ := W22.next (x := wv) hr (by decide) rfl
  have hw' : D_m_wanted F S56 = some wv := hw S56 (fun j => by rw [W22.2, if_neg (by omega)])
  have a0' : aput 6900 S 620 (Int32.ofNat (23 * r)) (S.1 7) = some S11 := by
    have e : Int32.ofNat (23 * r) + Int32.ofNat 0 = Int32.ofNat (23 * r) := m_n_add _ _
    rw [e] at a0
    exact a0
  refine ⟨S60, ?_, W23⟩
  have c1 : askC F r S41 = askD F r S60 := by
    unfold askC
    rw [flag_cond (x := S41.1 18) (by rw [W16.1]; exact h18), Option.bind_some, show (16 : Int32) = Int32.ofNat 16 from rfl, a16, Option.bind_some, flag_cond (x := S42.1 19) (by rw [W17.1]; exact h19), Option.bind_some, show (17 : Int32) = Int32.ofNat 17 from rfl, a17, Option.bind_some, show (18 : Int32) = Int32.ofNat 18 from rfl, a18, Option.bind_some, show (19 : Int32) = Int32.ofNat 19 from rfl, a19, Option.bind_some, show (20 : Int32) = Int32.ofNat 20 from rfl, a20, Option.bind_some, show (21 : Int32) = Int32.ofNat 21 from rfl, a21, Option.bind_some, hw', Option.bind_some, show (22 : Int32) = Int32.ofNat 22 from rfl, a22, Option.bind_some]
  have f16 : (cond (m_c1 .eq (S13.1 16)) (some (0 : Int32)) (some (1 : Int32))) = some (S13.1 16) := flag_cond (by rw [W2.1]; exact h16)
  have f17 : (cond (m_c1 .eq (S25.1 17)) (some (0 : Int32)) (some (1 : Int32))) = some (S25.1 17) := flag_cond (by rw [W6.1]; exact h17)
  unfold askB

  have a1' : aput 6900 S11 620 (Int32.ofNat (23 * r) + (1 : Int32)) (S11.1 8) = some S13 := a1
  have a2' : aput 6900 S13 620 (Int32.ofNat (23 * r) + (2 : Int32)) (S13.1 16) = some S19 := a2
  have a3' : aput 6900 S19 620 (Int32.ofNat (23 * r) + (3 : Int32)) (S19.1 9) = some S21 := a3
  have a4' : aput 6900 S21 620 (Int32.ofNat (23 * r) + (4 : Int32)) (S21.1 10) = some S23 := a4
  have a5' : aput 6900 S23 620 (Int32.ofNat (23 * r) + (5 : Int32)) (S23.1 11) = some S25 := a5
  have a6' : aput 6900 S25 620 (Int32.ofNat (23 * r) + (6 : Int32)) (S25.1 17) = some S31 := a6
  have a7' : aput 6900 S31 620 (Int32.ofNat (23 * r) + (7 : Int32)) (S31.1 12) = some S33 := a7
  rw [a0', Option.bind_some, a1', Option.bind_some, f16, Option.bind_some, a2', Option.bind_some, a3', Option.bind_some, a4', Option.bind_some, a5', Option.bind_some, f17, Option.bind_some, a6', Option.bind_some, a7', Option.bind_some]
  exact b1.trans c1
/-- the row of a request that is looked at -/
theorem ask_zero (hw : w + 12 ≤ 48000) {x1 x2 x3 x4 : Int32} : ∀ m j S, j + m = 12 → (∀ i, S.1 i = S0.1 i) → (∀ a q, rd S a q = if a = 622 ∧ w ≤ q ∧ q < w + j then 0 else rd S0 a q) → ∀ fu, m < fu → ∃ S' fu', D_m_ask_378 F fu x1 x2 x3 x4 (Int32.ofNat w) (Int32.ofNat j) S = D_m_ask_378 F (fu' + 1) x1 x2 x3 x4 (Int32.ofNat w) (Int32.ofNat 12) S' ∧ (∀ i, S'.1 i = S0.1 i) ∧ ∀ a q, rd S' a q = if a = 622 ∧ w ≤ q ∧ q < w + 12 then 0 else rd S0 a q := by
  intro m
  induction m with
  | zero =>
    intro j S hj h1 h2 fu hfu
    obtain ⟨fu, rfl⟩ : ∃ y, fu = y + 1 := ⟨fu - 1, by omega⟩
    have : j = 12 := by omega
    subst this
    exact ⟨S, fu, rfl, h1, h2⟩
  | succ m ih =>
    intro j S hj h1 h2 fu hfu
    obtain ⟨fu, rfl⟩ : ∃ y, fu = y + 1 := ⟨fu - 1, by omega⟩
    have i1 : Int32.ofNat j + Int32.ofInt 1 = Int32.ofNat (j + 1) := m_n_add j 1
    have e1 : Int32.ofNat w + Int32.ofNat j = Int32.ofNat (w + j) := m_n_add _ _
    obtain ⟨S', fu', y1, y2⟩ := ih (j + 1) (up2 S 622 (w + j) 0) (by omega) (fun i => h1 i) (fun a q => by
      rw [rd_up2]
      by_cases z : a = 622 ∧ q = w + j
      · rw [if_pos z, if_pos ⟨z.1, by omega, by omega⟩]
      · rw [if_neg z, h2]
        by_cases z2 : a = 622 ∧ w ≤ q ∧ q < w + j
        · rw [if_pos z2, if_pos ⟨z2.1, z2.2.1, by omega⟩]
        · rw [if_neg z2, if_neg (show ¬ (a = 622 ∧ w ≤ q ∧ q < w + (j + 1)) from fun y => by
            have : ¬ q = w + j := fun u => z ⟨y.1, u⟩
            exact z2 ⟨y.1, y.2.1, by omega⟩)]) fu (by omega)
    refine ⟨S', fu', ?_, y2⟩
    conv => lhs; unfold D_m_ask_378
    rw [show (12 : Int32) = Int32.ofNat 12 from rfl, ge_n (by omega) (by decide), decide_eq_false (by omega), cond_false, e1, aput_n (by omega) (by decide), Option.bind_some, i1]
    exact y1
theorem m_askrow (hw : w + 12 ≤ 48000) (hr : r < 300) (hF : 20 < F) : ∃ S1, D_m_ask_378 F F (Int32.ofNat r) (Int32.ofNat (23 * r)) (Int32.ofNat key) (Int32.ofNat n) (Int32.ofNat w) 0 S = (D_m_look F (Int32.ofNat w) S1).bind (fun S86 => some (Int32.ofNat r, S86)) ∧ (∀ i, S1.1 i = S.1 i) ∧ (∀ a k, ¬ (a = 622 ∧ w ≤ k ∧ k < w + 12) → rd S1 a k = rd S a k) ∧ ∀ i, i < 12 → rd S1 622 (w + i) = if i = 0 then Int32.ofNat n else if i = 1 then Int32.ofNat key else if i = 2 then Int32.ofNat r else if i = 11 then rd S 620 (23 * r + 22) else 0 := by
  obtain ⟨S2, fu, y1, y2, y3⟩ := ask_zero (F := F) (S0 := S) (w := w) (x1 := Int32.ofNat r) (x2 := Int32.ofNat (23 * r)) (x3 := Int32.ofNat key) (x4 := Int32.ofNat n) hw 12 0 S rfl (fun _ => rfl) (fun a q => by rw [if_neg (by omega)]) F (by omega)
  have step : ∀ (Z : mS) (k : Nat) (x : Int32), k < 12 → aput 48000 Z 622 (Int32.ofNat w + Int32.ofNat k) x = some (up2 Z 622 (w + k) x) := fun Z k x hk => by rw [m_n_add, aput_n (by omega) (by decide)]
  obtain ⟨A1, h1⟩ : ∃ z, z = up2 S2 622 (w + 0) (Int32.ofNat n) := ⟨_, rfl⟩
  obtain ⟨A2, h2⟩ : ∃ z, z = up2 A1 622 (w + 1) (Int32.ofNat key) := ⟨_, rfl⟩
  obtain ⟨A3, h3⟩ : ∃ z, z = up2 A2 622 (w + 2) (Int32.ofNat r) := ⟨_, rfl⟩
  obtain ⟨A4, h4⟩ : ∃ z, z = up2 A3 622 (w + 11) (rd S 620 (23 * r + 22)) := ⟨_, rfl⟩
  have r4 : ∀ a q, rd A4 a q = if a = 622 ∧ q = w + 11 then rd S 620 (23 * r + 22) else if a = 622 ∧ q = w + 2 then Int32.ofNat r else if a = 622 ∧ q = w + 1 then Int32.ofNat key else if a = 622 ∧ q = w then Int32.ofNat n else if a = 622 ∧ w ≤ q ∧ q < w + 12 then 0 else rd S a q := fun a q => by
    rw [h4, rd_up2, h3, rd_up2, h2, rd_up2, h1, rd_up2, y3]
    rfl
  have s1 : aput 48000 S2 622 (Int32.ofNat w) (Int32.ofNat n) = some A1 := by
    have := step S2 0 (Int32.ofNat n) (by decide)
    have e : Int32.ofNat w + Int32.ofNat 0 = Int32.ofNat w := m_n_add _ _
    rw [e] at this
    rw [this, h1]
  have s2 : aput 48000 A1 622 (Int32.ofNat w + (1 : Int32)) (Int32.ofNat key) = some A2 := (step A1 1 _ (by decide)).trans (by rw [h2])
  have s3 : aput 48000 A2 622 (Int32.ofNat w + (2 : Int32)) (Int32.ofNat r) = some A3 := (step A2 2 _ (by decide)).trans (by rw [h3])
  have s4 : aput 48000 A3 622 (Int32.ofNat w + (11 : Int32)) (rd S 620 (23 * r + 22)) = some A4 := (step A3 11 _ (by decide)).trans (by rw [h4])
  have g22 : aget 0 6900 A3 620 (Int32.ofNat (23 * r) + (22 : Int32)) = some (rd S 620 (23 * r + 22)) := by
    have e : Int32.ofNat (23 * r) + (22 : Int32) = Int32.ofNat (23 * r + 22) := m_n_add _ 22
    rw [e, aget_n (Or.inl rfl) (by omega) (by decide), h3, rd_up2, if_neg (by omega), h2, rd_up2, if_neg (by omega), h1, rd_up2, if_neg (by omega), y3, if_neg (by omega)]
  refine ⟨A4, ?_, fun i => ?_, fun a k hk => ?_, fun i hi => ?_⟩
  · rw [show (0 : Int32) = Int32.ofNat 0 from rfl, y1]
    conv => lhs; unfold D_m_ask_378
    rw [show (12 : Int32) = Int32.ofNat 12 from rfl, ge_n (by decide) (by decide), decide_eq_true (Nat.le_refl _), cond_true, s1, Option.bind_some, s2, Option.bind_some, s3, Option.bind_some, g22, Option.bind_some, s4, Option.bind_some]
  · rw [h4, up2_1, h3, up2_1, h2, up2_1, h1, up2_1]
    exact y2 i
  · rw [r4, if_neg (by omega), if_neg (by omega), if_neg (by omega), if_neg (by omega), if_neg hk]
  · rw [r4]
    by_cases i11 : i = 11
    · rw [if_pos ⟨rfl, by omega⟩, if_neg (by omega), if_neg (by omega), if_neg (by omega), if_pos i11]
    · rw [if_neg (by omega)]
      by_cases i2 : i = 2
      · rw [if_pos ⟨rfl, by omega⟩, if_neg (by omega), if_neg (by omega), if_pos i2]
      · rw [if_neg (by omega)]
        by_cases i1 : i = 1
        · rw [if_pos ⟨rfl, by omega⟩, if_neg (by omega), if_pos i1]
        · rw [if_neg (by omega)]
          by_cases i0 : i = 0
          · rw [if_pos ⟨rfl, by omega⟩, if_pos i0]
          · rw [if_neg (by omega), if_pos ⟨rfl, by omega, by omega⟩, if_neg i0, if_neg i1, if_neg i2, if_neg i11]
end
