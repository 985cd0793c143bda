/-! The reference makes a fetch for a row. -/
/-- what alone is missing -/
def v_mi (S : mS) (z : Rq) (o : Option Nat) : Int32 := match o with
  | none => 0
  | some e => if z.2.2.2.1 12 = 0 ∧ z.2.2.2.1 11 ≤ rd S 604 e ∧ z.2.2.2.1 6 = 0 ∧ v_fresh z.2.2.2.1 (eT S e) ((rd S 605 e + S.1 36) - rd S 606 e) = true then v_missing z.2.2.2.1 z.2.2.2.2 (eT S e) (Int32.ofNat (e % 8)) (rd S 607 e) else 0
section
variable {S : mS} {F w0 f : Nat} {z : Rq}
theorem flag_ne {x : Int32} (h : flag x) : m_c1 .ne x = decide (x = 1) := by
  rcases h with h | h <;> rw [h] <;> rfl
theorem r_f289 (h : Rw S w0 z) (hf : f < 896) {S1 : mS} (hS : ∀ a k, a = 620 ∨ a = 622 → rd S1 a k = rd S a k) : D_m_fetch_289 F (Int32.ofNat w0) (Int32.ofNat f) S1 = (D_m_send F (Int32.ofNat f) (up2 (up2 S1 610 f (z.2.2.2.1 6)) 616 f (rd S 622 (w0 + 11)))).bind (fun q => (bret q.1).bind fun v => some (v, q.2)) := by
  have h1 := h.ag (S' := S1) hS
  have e1 := r_forced (F := F) h1
  have fl : flag (z.2.2.2.1 6) := by
    obtain ⟨_, n, h2, _⟩ := h
    exact h2.2.2.2.2.2.1
  have e2 : bput 896 S1 610 (Int32.ofNat f) (z.2.2.2.1 6) = some (up2 S1 610 f (z.2.2.2.1 6)) := bput_n hf (by decide) fl
  have e3 := wait11 (S := up2 S1 610 f (z.2.2.2.1 6)) h.1
  rw [rd_up2, if_neg (by omega), hS 622 _ (Or.inr rfl)] at e3
  have e4 : aput 896 (up2 S1 610 f (z.2.2.2.1 6)) 616 (Int32.ofNat f) (rd S 622 (w0 + 11)) = some (up2 (up2 S1 610 f (z.2.2.2.1 6)) 616 f (rd S 622 (w0 + 11))) := aput_n hf (by decide)
  unfold D_m_fetch_289
  rw [e1, Option.bind_some, e2, Option.bind_some, e3, Option.bind_some, e4, Option.bind_some]
theorem r_f184 (hF : 17 ≤ F) (h : Rw S w0 z) (hf : f < 896) {o : Option Nat} (ho : ∀ e, o = some e → e < 7168 ∧ okT (eT S e) ∧ few 100000 ((rd S 605 e + S.1 36) - rd S 606 e)) {S1 : mS} (hS : ∀ a k, ¬ a = 613 → ¬ a = 614 → rd S1 a k = rd S a k) (hi : ∀ i, S1.1 i = S.1 i) (h13 : ∀ k, rd S1 613 k = if k = f then z.2.2.2.1 4 else rd S 613 k) (h14 : ∀ k, rd S1 614 k = if k = f then z.2.2.2.1 5 else rd S 614 k) : ∃ S2, D_m_fetch_184 F (Int32.ofNat w0) (Int32.ofNat f) (oI o) S1 = (D_m_send F (Int32.ofNat f) S2).bind (fun q => (bret q.1).bind fun v => some (v, q.2)) ∧ (∀ i, S2.1 i = S.1 i) ∧ ∀ a k, rd S2 a k = if k = f ∧ a = 613 then newG z.2.2.2.1 (v_mi S z o) 5 else if k = f ∧ a = 614 then newG z.2.2.2.1 (v_mi S z o) 6 else if k = f ∧ a = 610 then z.2.2.2.1 6 else if k = f ∧ a = 616 then rd S 622 (w0 + 11) else rd S a k := by
  have hS' : ∀ a k, a = 620 ∨ a = 622 → rd S1 a k = rd S a k := fun a k ha => hS a k (by omega) (by omega)
  have h1 := h.ag (S' := S1) hS'
  have w10 := wait10 (S := S1) h.1
  have e10 : rd S1 622 (w0 + 10) = z.2.2.2.1 12 := by
    rw [hS' 622 _ (Or.inr rfl)]
    obtain ⟨_, n, h2, _⟩ := h
    exact h2.2.2.2.2.1
  have fl12 : flag (z.2.2.2.1 12) := by
    obtain ⟨_, n, h2, _⟩ := h
    exact h2.2.2.2.1
  have fl6 : flag (z.2.2.2.1 6) := by
    obtain ⟨_, n, h2, _⟩ := h
    exact h2.2.2.2.2.2.1
  rw [e10] at w10
  have fin : ∀ S3 : mS, (∀ i, S3.1 i = S.1 i) → (∀ a k, ¬ a = 613 → ¬ a = 614 → rd S3 a k = rd S a k) → (∀ k, rd S3 613 k = if k = f then newG z.2.2.2.1 (v_mi S z o) 5 else rd S 613 k) → (∀ k, rd S3 614 k = if k = f then newG z.2.2.2.1 (v_mi S z o) 6 else rd S 614 k) → D_m_fetch_184 F (Int32.ofNat w0) (Int32.ofNat f) (oI o) S1 = D_m_fetch_289 F (Int32.ofNat w0) (Int32.ofNat f) S3 → ∃ S2, D_m_fetch_184 F (Int32.ofNat w0) (Int32.ofNat f) (oI o) S1 = (D_m_send F (Int32.ofNat f) S2).bind (fun q => (bret q.1).bind fun v => some (v, q.2)) ∧ (∀ i, S2.1 i = S.1 i) ∧ ∀ a k, rd S2 a k = if k = f ∧ a = 613 then newG z.2.2.2.1 (v_mi S z o) 5 else if k = f ∧ a = 614 then newG z.2.2.2.1 (v_mi S z o) 6 else if k = f ∧ a = 610 then z.2.2.2.1 6 else if k = f ∧ a = 616 then rd S 622 (w0 + 11) else rd S a k := by
    intro S3 i3 r3 r13 r14 e
    refine ⟨_, e.trans (r_f289 h hf (fun a k ha => r3 a k (by omega) (by omega))), fun i => by rw [up2_1, up2_1]; exact i3 i, fun a k => ?_⟩
    rw [rd_up2, rd_up2]
    by_cases a6 : a = 616
    · subst a6
      by_cases kf : k = f
      · simp [kf]
      · simp [kf, r3]
    · by_cases a0 : a = 610
      · subst a0
        by_cases kf : k = f
        · simp [kf]
        · simp [kf, r3]
      · by_cases a3 : a = 613
        · subst a3
          rw [if_neg (by omega), if_neg (by omega), r13]
          by_cases kf : k = f
          · simp [kf]
          · simp [kf]
        · by_cases a4 : a = 614
          · subst a4
            rw [if_neg (by omega), if_neg (by omega), r14]
            by_cases kf : k = f
            · simp [kf]
            · simp [kf]
          · rw [if_neg (fun w => a6 w.1), if_neg (fun w => a0 w.1), r3 a k a3 a4, if_neg (fun w => a3 w.2), if_neg (fun w => a4 w.2), if_neg (fun w => a0 w.2), if_neg (fun w => a6 w.2)]
  have plain : v_mi S z o = 0 → D_m_fetch_184 F (Int32.ofNat w0) (Int32.ofNat f) (oI o) S1 = D_m_fetch_289 F (Int32.ofNat w0) (Int32.ofNat f) S1 → _ := fun e0 e => fin S1 hi hS (fun k => by rw [h13, e0]; rfl) (fun k => by rw [h14, e0]; rfl) e
  have mk := r_marked (F := F) h1 (o := o) (fun e he => (ho e he).1)
  have fo9 := r_forced (F := F) h1
  cases o with
  | none =>
    refine plain rfl ?_
    unfold D_m_fetch_184
    rw [w10, Option.bind_some, flag_ne fl12, mk, Option.bind_some]
    by_cases q12 : z.2.2.2.1 12 = 1
    · rw [decide_eq_true q12]; rfl
    · rw [decide_eq_false q12]; rfl
  | some e =>
    obtain ⟨he, hd, ha⟩ := ho e rfl
    have t603 : ∀ k, rd S1 603 k = rd S 603 k := fun k => hS 603 k (by decide) (by decide)
    have te : eT S1 e = eT S e := by funext i; exact t603 _
    have e604 := hS 604 e (by decide) (by decide)
    have e605 := hS 605 e (by decide) (by decide)
    have e606 := hS 606 e (by decide) (by decide)
    have e607 := hS 607 e (by decide) (by decide)
    have fr := r_fresh (F := F) h1 he (by rw [te]; exact hd) (by rw [e605, e606, hi]; exact ha)
    have wh := r_whole (F := F) hF h1 he (by rw [te]; exact hd.2.2.1)
    rw [te, e605, e606, hi] at fr
    rw [te, e607] at wh
    have mk2 : D_m_isMarked F (Int32.ofNat w0) (oI (some e)) S1 = some (b2i (decide (z.2.2.2.1 11 ≤ rd S 604 e))) := by rw [← e604]; exact mk
    have one : ∀ b : Bool, m_c1 .eq (b2i b) = !b := fun b => by cases b <;> rfl
    have two : ∀ b : Bool, m_c1 .ne (b2i b) = b := fun b => by cases b <;> rfl
    have unf : D_m_fetch_184 F (Int32.ofNat w0) (Int32.ofNat f) (oI (some e)) S1 = D_m_fetch_184 F (Int32.ofNat w0) (Int32.ofNat f) (oI (some e)) S1 := rfl
    conv at unf => rhs; unfold D_m_fetch_184
    rw [w10, Option.bind_some, flag_ne fl12, mk2, Option.bind_some, one, fo9, Option.bind_some, flag_ne fl6] at unf
    simp only [show oI (some e) = Int32.ofNat e from rfl] at unf
    rw [fr, Option.bind_some, one, wh, Option.bind_some, two] at unf
    by_cases q12 : z.2.2.2.1 12 = 1
    · refine plain ?_ ?_
      · show (if _ then _ else (0 : Int32)) = 0
        rw [if_neg (fun w => by rw [q12] at w; exact absurd w.1 (by decide))]
      · exact unf.trans (by rw [decide_eq_true q12]; rfl)
    · have q12' : z.2.2.2.1 12 = 0 := fl12.resolve_right q12
      rw [decide_eq_false q12, cond_false] at unf
      by_cases qm : z.2.2.2.1 11 ≤ rd S 604 e
      · rw [decide_eq_true qm] at unf
        by_cases q6 : z.2.2.2.1 6 = 1
        · refine plain ?_ ?_
          · show (if _ then _ else (0 : Int32)) = 0
            rw [if_neg (fun w => by rw [q6] at w; exact absurd w.2.2.1 (by decide))]
          · exact unf.trans (by rw [decide_eq_true q6]; rfl)
        · have q6' : z.2.2.2.1 6 = 0 := fl6.resolve_right q6
          rw [decide_eq_false q6] at unf
          by_cases qf : v_fresh z.2.2.2.1 (eT S e) ((rd S 605 e + S.1 36) - rd S 606 e) = true
          · have vm : v_mi S z (some e) = v_missing z.2.2.2.1 z.2.2.2.2 (eT S e) (Int32.ofNat (e % 8)) (rd S 607 e) := if_pos ⟨q12', qm, q6', qf⟩
            rw [qf] at unf
            by_cases qw : v_missing z.2.2.2.1 z.2.2.2.2 (eT S e) (Int32.ofNat (e % 8)) (rd S 607 e) = 0
            · refine plain (vm.trans qw) ?_
              exact unf.trans (by rw [decide_eq_true qw]; rfl)
            · rw [decide_eq_false qw] at unf
              obtain ⟨zl, z1, z2⟩ := hd.2.2.1
              have nd := m_needs (F := F) (tag := 8 * eT S e 0 + Int32.ofNat (e % 8)) hF h1.isRow z1
              rw [← z2] at nd
              have t1 : D_m_told F (Int32.ofNat e) 1 S1 = some (eT S e 1) := by rw [← te]; exact told1 he
              have tg := m_tagOf (F := F) (S := S1) he
              rw [te] at tg
              have ag : aget 0 7168 S1 607 (Int32.ofNat e) = some (rd S 607 e) := by rw [← e607]; exact aget_n (Or.inl rfl) he (by decide)
              have ms : v_need z.2.2.2.1 z.2.2.2.2 (eT S e 1) (8 * eT S e 0 + Int32.ofNat (e % 8)) &&& (rd S 607 e ^^^ -1) = v_mi S z (some e) := by rw [vm, v_miss_need]
              have p13 : aput 896 S1 613 (Int32.ofNat f) (v_ntz (v_mi S z (some e))) = some (up2 S1 613 f (v_ntz (v_mi S z (some e)))) := aput_n hf (by decide)
              have p14 : aput 896 (up2 S1 613 f (v_ntz (v_mi S z (some e)))) 614 (Int32.ofNat f) (31 - v_nlz (v_mi S z (some e))) = some (up2 (up2 S1 613 f (v_ntz (v_mi S z (some e)))) 614 f (31 - v_nlz (v_mi S z (some e)))) := aput_n hf (by decide)
              have nz : ¬ v_mi S z (some e) = 0 := by rw [vm]; exact qw
              rw [t1, Option.bind_some, tg, Option.bind_some, nd, Option.bind_some, ag, Option.bind_some, ms, ntz_m, Option.bind_some, p13, Option.bind_some, nlz_m, Option.bind_some, p14, Option.bind_some] at unf
              refine fin (up2 (up2 S1 613 f (v_ntz (v_mi S z (some e)))) 614 f (31 - v_nlz (v_mi S z (some e)))) (fun i => by rw [up2_1, up2_1]; exact hi i) (fun a k a3 a4 => by rw [rd_up2, if_neg (fun w => a4 w.1), rd_up2, if_neg (fun w => a3 w.1)]; exact hS a k a3 a4) (fun k => ?_) (fun k => ?_) unf
              · rw [rd_up2, if_neg (by omega), rd_up2, h13]
                by_cases kf : k = f
                · simp [kf, newG, nz]
                · simp [kf]
              · rw [rd_up2]
                by_cases kf : k = f
                · simp [kf, newG, nz]
                · rw [if_neg (fun w => kf w.2), rd_up2, if_neg (by omega), h14, if_neg kf, if_neg kf]
          · refine plain ?_ ?_
            · show (if _ then _ else (0 : Int32)) = 0
              rw [if_neg (fun w => qf w.2.2.2)]
            · exact unf.trans (by rw [Bool.eq_false_iff.mpr qf]; rfl)
      · refine plain ?_ ?_
        · show (if _ then _ else (0 : Int32)) = 0
          rw [if_neg (fun w => qm w.2.1)]
        · exact unf.trans (by rw [decide_eq_false qm]; rfl)
end
