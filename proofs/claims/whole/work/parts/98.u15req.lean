/-! The value of a request's line. -/
section
variable {T T' : tT} {S S' : mS} {t : Nat → Nat} {L p s e F k c m n a aq ac at' : Nat} {g g' : Nat → Int32} {r : Option Nat × Option Nat × Option Nat} {B B' : List Nat} {Rel : tT → mS → Prop} {cv : Option (Int32 × tT)} {mv : Option mS}
theorem Out.wide (h : Out t L r B Rel T S p g cv mv) (m : ∀ i ∈ B, i ∈ B') : Out t L r B' Rel T S p g cv mv := by
  rcases h with ⟨p', g', T1, S', y1, y2, y3, y4, y5, y6, y7, y8, y9⟩ | ⟨f0, g', T1, S', y1, y2, y3, y4, y5, y6, y7, y8⟩
  · exact Or.inl ⟨p', g', T1, S', y1, y2, y3, y4, y5, y6, y7, y8.mono m, y9⟩
  · exact Or.inr ⟨f0, g', T1, S', y1, y2, y3, y4, y5, y6, y7.mono m, y8⟩
theorem Rqs.sh (h : Rqs aq ac at' T S) : ∃ f3, (kR T L r g).1 516 = some (.inr (.inl (0, 4, f3))) := by
  obtain ⟨f3, q, _⟩ := h.2.2.2.1
  exact ⟨f3, (kR_ne (by decide)).trans q⟩
theorem Out.sh {v : Int32} {T2 : tT} (h : Out t L r B (Rqs aq ac at') T S p g cv mv) (hR : Rqs aq ac at' T S) (nB : ¬ 516 ∈ B) (e : cv = some (v, T2)) : ∃ f3, T2.1 516 = some (.inr (.inl (0, 4, f3))) := by
  rcases h with ⟨p', g', T1, S', y1, y2, y3, y4, y5, y6, y7, y8, y9⟩ | ⟨f0, g', T1, S', y1, y2, y3, y4, y5, y6, y7, y8⟩
  · rw [y1] at e
    cases e
    exact y5.sh
  · rw [y1] at e
    cases e
    obtain ⟨f3, q, _⟩ := hR.2.2.2.1
    exact ⟨f3, (kR_ne (by decide)).trans ((y7.1 516 nB).trans q)⟩
theorem out_bsh {v : Int32} {T2 : tT} (h : Out t L r B (Rqs aq ac at') T S p g cv mv) (hR : Rqs aq ac at' T S) (nB : ¬ 516 ∈ B) (e : (bd2 cv fun v T1 => (bret v).bind fun v' => some (v', T1)) = some (v, T2)) : ∃ f3, T2.1 516 = some (.inr (.inl (0, 4, f3))) := h.bret.sh hR nB e
theorem P_avalue (h : St t L T S p g) (hR : Rqs aq ac at' T S) (hA : Ap aq ac at') (hr : r.1 = some aq) (hr' : r.2.1 = some ac) (hF : 400 < F) (hs : s ≤ e) (he : e ≤ L) (hn : n < 150) (s31 : S.1 31 = Int32.ofNat (n + 1)) (g6 : g 6 = Int32.ofNat s) (g7 : g 7 = Int32.ofNat e) (r6 : rd S 587 n = Int32.ofNat s) (r7 : rd S 588 n = Int32.ofNat e) (u9 : isW t s e z_range = true → S.1 9 = 0) (u12 : isW t s e z_ifnonematch = true → S.1 12 = 0) :
    ∃ mv, (cond (!(isW t s e z_range)) (D_m_line_50 F 1 S) ((D_m_range F S).bind (D_m_line_241 F))) = mv.bind (D_m_line_241 F) ∧ Out t L r [aq, ac, at', 516] (Rqs aq ac at') T S p g (D_c_Reader_readAskedValue F 513 (kR T L r g)) mv ∧ (∀ S', mv = some S' → (isW t s e z_range = false → S'.1 9 = S.1 9) ∧ (isW t s e z_ifnonematch = false → S'.1 12 = S.1 12)) ∧ ∀ v T2, D_c_Reader_readAskedValue F 513 (kR T L r g) = some (v, T2) → ∃ f3, T2.1 516 = some (.inr (.inl (0, 4, f3))) := by
  have hL := h.1.1
  have pL := h.2.2.1
  have wc : ∀ {x cs}, txs x cs → D_c_Reader_isWord F 513 x (kR T L r g) = some (b2i (isW t s e cs)) := fun hx => word_c hx h.1 hs he g6 g7 (by omega)
  have wm : ∀ {x cs}, txs x cs → D_m_isNamed F x S = some (b2i (isW t s e cs)) := fun hx => named_m hx h.2.1 hs he hn s31 r6 r7 (by omega)
  have m0 : D_m_line_50 F 1 S = cond (!(isW t s e z_ifnonematch)) (cond (!(isW t s e z_ifrange)) (cond (!(isW t s e z_acceptlanguage)) (cond (!(isW t s e z_acceptencoding)) (cond (!(isW t s e z_cachecontrol)) ((D_m_anyValue F S).bind (D_m_line_241 F)) ((D_m_list F 0 S).bind (D_m_line_241 F))) ((D_m_list F 3 S).bind (D_m_line_241 F))) ((D_m_list F 2 S).bind (D_m_line_241 F))) (((D_m_tag F S).bind fun q => some (up1 q.2 20 q.1)).bind (D_m_line_241 F))) ((D_m_matching F S).bind (D_m_line_241 F)) := by
    unfold D_m_line_50 D_m_line_71 D_m_line_96 D_m_line_118 D_m_line_140 D_m_line_162 D_m_line_216 D_m_line_237
    rw [wm tx_75, wm tx_76, wm tx_69, wm tx_70, wm tx_78]
    simp only [show m_c1 .ne (1 : Int32) = true from rfl, show m_c1 .eq (1 : Int32) = false from rfl, cond_false, cond_true, Option.bind_some, b_eq0]
    cases isW t s e z_ifnonematch <;> cases isW t s e z_ifrange <;> cases isW t s e z_acceptlanguage <;> cases isW t s e z_acceptencoding <;> cases isW t s e z_cachecontrol <;> first | rfl | (cases D_m_tag F S <;> rfl)
  have c0 : D_c_Reader_readAskedValue F 513 (kR T L r g) = cond (!(isW t s e z_range)) (cond (!(isW t s e z_ifnonematch)) (cond (!(isW t s e z_ifrange)) (cond (!(isW t s e z_acceptlanguage)) (cond (!(isW t s e z_acceptencoding)) (cond (!(isW t s e z_cachecontrol)) (bd2 (D_c_Reader_skipValue F 513 (kR T L r g)) fun v T1 => (bret v).bind fun v' => some (v', T1)) (bd2 (D_c_Reader_readList F 513 2 (kR T L r g)) fun v T1 => (bret v).bind fun v' => some (v', T1))) (bd2 (D_c_Reader_readList F 513 1 (kR T L r g)) fun v T1 => (bret v).bind fun v' => some (v', T1))) (bd2 (D_c_Reader_readList F 513 0 (kR T L r g)) fun v T1 => (bret v).bind fun v' => some (v', T1))) (ifrC F (kR T L r g))) (bd2 (D_c_Reader_readMatch F 513 (kR T L r g)) fun v T1 => (bret v).bind fun v' => some (v', T1))) (bd2 (D_c_Reader_readRange F 513 (kR T L r g)) fun v T1 => (bret v).bind fun v' => some (v', T1)) := by
    unfold D_c_Reader_readAskedValue
    rw [wc tx_12, wc tx_13, wc tx_14, wc tx_15, wc tx_16, wc tx_9]
    simp only [Kcl, Option.bind_some, b_eq0]
    rfl
  obtain ⟨A1, A2, A3, A4, A5, A6⟩ := id hA
  have n1 : ¬ 516 ∈ [ac] := fun q => by have := List.mem_singleton.mp q; omega
  have n2 : ¬ 516 ∈ [ac, at'] := fun q => by simp at q; omega
  have n3 : ¬ 516 ∈ [aq] := fun q => by have := List.mem_singleton.mp q; omega
  rw [c0, m0]
  cases w1 : isW t s e z_range with
  | true => exact ⟨_, rfl, ((P_range h hR hA (u9 w1) hr' hF).wide (by simp)).bret, fun S' e => ⟨fun q => (by cases q), fun _ => Z12_m_range _ e⟩, fun v T2 e => out_bsh (P_range h hR hA (u9 w1) hr' hF) hR n1 e⟩
  | false =>
    cases w2 : isW t s e z_ifnonematch with
    | true => exact ⟨_, rfl, ((P_match h hR hA (u12 w2) hr' hF).wide (by simp)).bret, fun S' e => ⟨fun _ => Z9_m_matching _ e, fun q => (by cases q)⟩, fun v T2 e => out_bsh (P_match h hR hA (u12 w2) hr' hF) hR n2 e⟩
    | false =>
      cases w3 : isW t s e z_ifrange with
      | true =>
        refine ⟨_, rfl, (P_ifr h hR hA hr' hF).wide (by simp), fun S' e => ?_, fun v T2 e => (P_ifr h hR hA hr' hF).sh hR n1 e⟩
        obtain ⟨q, e1, e2⟩ := bS e
        cases e2
        exact ⟨fun _ => (up1_no (by decide)).trans (Z9_m_tag _ e1), fun _ => (up1_no (by decide)).trans (Z12_m_tag _ e1)⟩
      | false =>
        cases w4 : isW t s e z_acceptlanguage with
        | true =>
          refine ⟨_, rfl, ?_⟩
          rcases P_langs (F := F) (r := r) h hR hA hF with ⟨p', g', T1, S', y1, y2, y3, y4, y5, y6, y7, y8, y9⟩ | ⟨f0, g', T1, S', y1, y2, y3, y4, y5, y6, y7, y8, S9, y10⟩
          · exact ⟨Out.bret (Or.inl ⟨p', g', T1, S', y1, y2, y3, by omega, y5, y6, y7.mono (by decide) (by decide), y8.mono (by simp), y9⟩), fun S'' e => by rw [y2] at e; cases e; exact ⟨fun _ => y7.1 9 (by decide), fun _ => y7.1 12 (by decide)⟩, fun v T2 e => (by rw [y1] at e; cases e; exact y5.sh)⟩
          · exact ⟨Out.bret (Or.inr ⟨f0, g', T1, S', y1, y2, y3, y4, y5, y6.mono (by decide) (by decide), y7.mono (by simp), y8⟩), fun S'' e => by rw [y2] at e; cases e; exact ⟨fun _ => y6.1 9 (by decide), fun _ => y6.1 12 (by decide)⟩, fun v T2 e => (by rw [y1] at e; cases e; exact y10.sh)⟩
        | false =>
          cases w5 : isW t s e z_acceptencoding with
          | true =>
            refine ⟨_, rfl, ?_⟩
            rcases P_forms (F := F) (r := r) h hR hA hr hF with ⟨p', g', T1, S', y1, y2, y3, y4, y5, y6, y7, y8, y9⟩ | ⟨f0, g', T1, S', y1, y2, y3, y4, y5, y6, y7, y8⟩
            · exact ⟨Out.bret (Or.inl ⟨p', g', T1, S', y1, y2, y3, by omega, y5, y6, y7.mono (by decide) (by decide), y8.mono (by simp), y9⟩), fun S'' e => by rw [y2] at e; cases e; exact ⟨fun _ => y7.1 9 (by decide), fun _ => y7.1 12 (by decide)⟩, fun v T2 e => (by rw [y1] at e; cases e; exact y5.sh)⟩
            · exact ⟨Out.bret (Or.inr ⟨f0, g', T1, S', y1, y2, y3, y4, y5, y6.mono (by decide) (by decide), y7.mono (by simp), y8⟩), fun S'' e => by rw [y2] at e; cases e; exact ⟨fun _ => y6.1 9 (by decide), fun _ => y6.1 12 (by decide)⟩, fun v T2 e => (by rw [y1] at e; cases e; obtain ⟨f3, q, _⟩ := hR.2.2.2.1; exact ⟨f3, (kR_ne (by decide)).trans ((y7.1 516 n3).trans q)⟩)⟩
          | false =>
            cases w6 : isW t s e z_cachecontrol with
            | true =>
              refine ⟨_, rfl, ?_⟩
              rcases P_asked (F := F) (r := r) h hR hA hr hF with ⟨p', g', T1, S', y1, y2, y3, y4, y5, y6, y7, y8, y9⟩ | ⟨f0, g', T1, S', y1, y2, y3, y4, y5, y6, y7, y8⟩
              · exact ⟨Out.bret (Or.inl ⟨p', g', T1, S', y1, y2, y3, by omega, y5, y6, y7.mono (by decide) (by decide), y8.mono (by simp), y9⟩), fun S'' e => by rw [y2] at e; cases e; exact ⟨fun _ => y7.1 9 (by decide), fun _ => y7.1 12 (by decide)⟩, fun v T2 e => (by rw [y1] at e; cases e; exact y5.sh)⟩
              · exact ⟨Out.bret (Or.inr ⟨f0, g', T1, S', y1, y2, y3, y4, y5, y6.mono (by decide) (by decide), y7.mono (by simp), y8⟩), fun S'' e => by rw [y2] at e; cases e; exact ⟨fun _ => y6.1 9 (by decide), fun _ => y6.1 12 (by decide)⟩, fun v T2 e => (by rw [y1] at e; cases e; obtain ⟨f3, q, _⟩ := hR.2.2.2.1; exact ⟨f3, (kR_ne (by decide)).trans ((y7.1 516 n3).trans q)⟩)⟩
            | false =>
              refine ⟨_, rfl, ?_⟩
              obtain ⟨p', g', S', y1, y2, y3, y4, y5, y6⟩ := P_value (F := F) (r := r) (L - p) p g S (by omega) h F F (by omega) (by omega)
              refine ⟨Out.bret (Or.inl ⟨p', g', T, S', y1, y2, y3, y4, hR.fs y6 (by decide), y5.mono (by decide), y6.to (by decide), Ft.refl, kR_cs⟩), fun S'' e => ?_, fun v T2 e => (by rw [show bd2 (D_c_Reader_skipValue F 513 (kR T L r g)) (fun v T1 => (bret v).bind fun v' => some (v', T1)) = some (1, kR T L r g') by rw [show D_c_Reader_skipValue F 513 (kR T L r g) = some (1, kR T L r g') from y1]; rfl] at e; cases e; exact hR.sh)⟩
              have e' : some S' = some S'' := y2.symm.trans e
              cases e'
              exact ⟨fun _ => y6.1 9 (by decide), fun _ => y6.1 12 (by decide)⟩
end
