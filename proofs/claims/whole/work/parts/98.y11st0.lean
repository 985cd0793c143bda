/-! The start: nothing is there yet. -/
theorem six {n : Nat} (h1 : 1 ≤ n) (h2 : n < 7) : n = 1 ∨ n = 2 ∨ n = 3 ∨ n = 4 ∨ n = 5 ∨ n = 6 := by omega
theorem node0 {n : Nat} (h1 : 1 ≤ n) (h2 : n < 7) : T0.1 (527 + 8 * n) = some (nodeC S0 n) ∧ rd S0 591 n = 1 ∧ T0.1 (528 + 8 * n) = some (.inl (5, [.ref (529 + 8 * n), .ref (530 + 8 * n), .int (rd S0 592 n)])) ∧ rd S0 592 n = 1000 ∧ T0.1 (529 + 8 * n) = some (.inr (.inr (0, []))) ∧ T0.1 (530 + 8 * n) = some (.inr (.inr (0, []))) ∧ T0.1 (531 + 8 * n) = some (.inr (.inr (0, []))) ∧ T0.1 (532 + 8 * n) = some (.inr (.inl (4, 61, m_el 4 []))) ∧ T0.1 (533 + 8 * n) = some (.inr (.inl (0, 3, m_el 0 []))) ∧ T0.1 (534 + 8 * n) = some (.inr (.inl (0, 3, m_el 0 []))) := by
  rcases six h1 h2 with e | e | e | e | e | e
  · subst e; exact ⟨t0_at (a := 535) (by decide) rfl, rfl, t0_at (a := 536) (by decide) rfl, rfl, t0_at (a := 537) (by decide) rfl, t0_at (a := 538) (by decide) rfl, t0_at (a := 539) (by decide) rfl, t0_at (a := 540) (by decide) rfl, t0_at (a := 541) (by decide) rfl, t0_at (a := 542) (by decide) rfl⟩
  · subst e; exact ⟨t0_at (a := 543) (by decide) rfl, rfl, t0_at (a := 544) (by decide) rfl, rfl, t0_at (a := 545) (by decide) rfl, t0_at (a := 546) (by decide) rfl, t0_at (a := 547) (by decide) rfl, t0_at (a := 548) (by decide) rfl, t0_at (a := 549) (by decide) rfl, t0_at (a := 550) (by decide) rfl⟩
  · subst e; exact ⟨t0_at (a := 551) (by decide) rfl, rfl, t0_at (a := 552) (by decide) rfl, rfl, t0_at (a := 553) (by decide) rfl, t0_at (a := 554) (by decide) rfl, t0_at (a := 555) (by decide) rfl, t0_at (a := 556) (by decide) rfl, t0_at (a := 557) (by decide) rfl, t0_at (a := 558) (by decide) rfl⟩
  · subst e; exact ⟨t0_at (a := 559) (by decide) rfl, rfl, t0_at (a := 560) (by decide) rfl, rfl, t0_at (a := 561) (by decide) rfl, t0_at (a := 562) (by decide) rfl, t0_at (a := 563) (by decide) rfl, t0_at (a := 564) (by decide) rfl, t0_at (a := 565) (by decide) rfl, t0_at (a := 566) (by decide) rfl⟩
  · subst e; exact ⟨t0_at (a := 567) (by decide) rfl, rfl, t0_at (a := 568) (by decide) rfl, rfl, t0_at (a := 569) (by decide) rfl, t0_at (a := 570) (by decide) rfl, t0_at (a := 571) (by decide) rfl, t0_at (a := 572) (by decide) rfl, t0_at (a := 573) (by decide) rfl, t0_at (a := 574) (by decide) rfl⟩
  · subst e; exact ⟨t0_at (a := 575) (by decide) rfl, rfl, t0_at (a := 576) (by decide) rfl, rfl, t0_at (a := 577) (by decide) rfl, t0_at (a := 578) (by decide) rfl, t0_at (a := 579) (by decide) rfl, t0_at (a := 580) (by decide) rfl, t0_at (a := 581) (by decide) rfl, t0_at (a := 582) (by decide) rfl⟩
theorem few0 {b : Nat} (h : 0 < b) : few b 0 := ⟨0, h, rfl⟩
theorem fl0 : flag (0 : Int32) := Or.inl rfl
theorem pts0 : RPts T0 := by
  refine ⟨_, t0_at (a := 520) (by decide) rfl, fun n j h1 h2 => ?_⟩
  have : ∀ n, n < 7 → ∀ j, j < 4 → m_toI (m_el 0 [(27, .int 46468), (26, .int 1947), (25, .int 17978), (24, .int 57259), (23, .int 18260), (22, .int 3983), (21, .int 31957), (20, .int 27251), (19, .int 21175), (18, .int 11031), (17, .int 54549), (16, .int 38400), (15, .int 10184), (14, .int 21943), (13, .int 973), (12, .int 38459), (11, .int 62349), (10, .int 60087), (9, .int 53754), (8, .int 13556), (7, .int 38663), (6, .int 40818), (5, .int 24394), (4, .int 51213), (3, .int 522), (2, .int 14165), (1, .int 51516), (0, .int 0)] (4 * n + j)) = Int32.ofNat (pt n j) := by decide +kernel
  exact this n h1 j h2
theorem nodes0 : RNodes T0 S0 := by
  refine ⟨⟨_, t0_at (a := 519) (by decide) rfl, ?_⟩, fun n h1 h2 => ⟨(node0 h1 h2).1, by rw [(node0 h1 h2).2.1]; exact Or.inr rfl⟩, fun n h1 h2 => ⟨_, (node0 (by omega) h2).2.2.2.2.2.2.2.2.2, ?_, ?_⟩⟩
  · intro n h
    have : n = 0 ∨ n = 1 ∨ n = 2 ∨ n = 3 ∨ n = 4 ∨ n = 5 ∨ n = 6 := by omega
    rcases this with e | e | e | e | e | e | e <;> (rw [e]; rfl)
  · rw [rd0 (by decide) (by decide)]; rfl
  · rw [rd0 (by decide) (by decide)]; rfl
theorem st0 : RSt T0 S0 (fun _ => []) (fun _ => []) 0 := by
  refine ⟨fun n h1 h2 => ⟨⟨⟨h1, h2⟩, (node0 h1 h2).2.2.1, ⟨0, (node0 h1 h2).2.2.2.2.1⟩, ⟨0, (node0 h1 h2).2.2.2.2.2.1⟩, fun q hq => (by cases hq), fun q hq => (by cases hq), List.Pairwise.nil, List.Pairwise.nil, fun e _ _ h => absurd (rd0 (by decide) (by decide)) h, 1000, by decide, by decide, (node0 h1 h2).2.2.2.1⟩, (show 0 + 0 ≤ 126 by decide), fun q hq => (by cases hq)⟩, fun n m q r _ _ _ _ hq => (by cases hq), fun e e' _ _ h => absurd (rd0 (by decide) (by decide)) h, 0, ⟨rfl, fun e _ h => absurd (rd0 (by decide) (by decide)) h⟩, by decide⟩
theorem rf0 : RF T0 S0 (fun _ => []) (ch []) := by
  refine ⟨fun n h1 h2 => ⟨⟨0, (node0 h1 h2).2.2.2.2.2.2.1⟩, fun z hz => (by cases hz), List.Pairwise.nil, fun f _ _ h => absurd (rd0 (by decide) (by decide)) h⟩, fun n m z y _ _ _ _ hz => (by cases hz)⟩
theorem rq0 : RQ T0 S0 [] [] [] [] 0 := by
  refine ⟨⟨rfl, by decide, by decide, by decide⟩, fun k z h => (by simp at h), fun z h => (by cases h), fun k z h => (by simp at h), List.nodup_nil, List.nodup_nil, fun f => trivial, trivial, fun z h => (by cases h)⟩
theorem rep0 : RRep T0 S0 [] := by
  refine ⟨⟨0, t0_at (a := 524) (by decide) rfl⟩, by decide, rfl, ⟨List.nodup_nil, fun r _ => rd0 (by decide) (by decide), fun r _ => ?_⟩, fun r a h => (by simp at h)⟩
  rw [rd0 (by decide) (by decide)]
  exact few0 (by decide)
theorem rx0 : RX T0 S0 := by
  refine ⟨⟨⟨_, t0_at (a := 517) (by decide) rfl, fun p _ => Or.inl ⟨rd0 (by decide) (by decide), rfl⟩⟩, _, t0_at (a := 518) (by decide) rfl, fun p _ => ?_⟩, ⟨0, _, _, rfl, by decide, t0_at (a := 521) (by decide) rfl, t0_at (a := 522) (by decide) rfl, fun k h1 h2 => (by omega), fun n h1 h2 => ⟨_, 0, (node0 h1 h2).2.2.2.2.2.2.2.1, rd0 (by decide) (by decide), by decide, fun i h => (by omega), fun j _ _ => Or.inl rfl⟩, fun k h1 h2 => ?_⟩, fun n h1 h2 => ⟨_, _, (node0 h1 h2).2.2.2.2.2.2.2.2.1, (node0 h1 h2).2.2.2.2.2.2.2.2.2, ?_⟩, ?_, ?_⟩
  · rw [rd0 (by decide) (by decide)]; rfl
  · exact absurd h1 (m_n_neg (by omega))
  · simp only [rd0 (a := 618) (by decide) (by decide), rd0 (a := 619) (by decide) (by decide)]
    exact ⟨fl0, fl0, rfl, rfl, rfl, rfl, fun _ => ⟨trivial, trivial, trivial, trivial⟩⟩
  · exact ⟨_, _, _, 0, 0, 0, 0, 0, 0, 0, 0, 0, none, none, none, t0_at (a := 513) (by decide) rfl, by decide, rfl, t0_at (a := 514) (by decide) rfl, t0_at (a := 515) (by decide) rfl, t0_at (a := 516) (by decide) rfl, fun i h => (by omega)⟩
  · rw [rd0 (by decide) (by decide)]
    exact few0 (by decide)
theorem RB0 : RB T0 S0 (fun _ => []) (fun _ => []) (fun _ => []) [] [] [] 0 [] 0 := by
  refine ⟨okL0, t0_at (a := 512) (by decide) rfl, ⟨0, 0, [], rfl, by decide, t0_at (a := 523) (by decide) rfl, rfl, fun k a h => (by simp at h)⟩, pts0, nodes0, st0, rf0, rq0, rep0, rx0⟩
theorem vS0 : vS S0 = fun _ _ => 0 := by
  funext j k
  unfold vS
  simp only [rd0 (a := 593) (by decide) (by decide), rd0 (a := 596) (by decide) (by decide), rd0 (a := 589) (by decide) (by decide), rd0 (a := 590) (by decide) (by decide), rd0 (a := 597) (by decide) (by decide), show S0.1 37 = 0 from rfl, show S0.1 70 = 0 from rfl, show S0.1 36 = 0 from rfl]
  repeat (split <;> try rfl)
theorem vE0 : vE S0 = fun _ => none := by
  funext e
  unfold vE
  rw [if_neg (fun q => q.2 (rd0 (by decide) (by decide)))]
theorem up0z {b : Nat} : upto b (0 : Int32) := ⟨0, Nat.zero_le _, rfl⟩
theorem cN0 : cN (0 : Int32) = 0 := rfl
theorem led0 : Led3 0 0 0 0 631 0 (vM S0) [] [] (fun _ => []) (vE S0) (vS S0) 631 0 := by
  rw [vS0, vE0, show vM S0 = [] from rfl]
  have pot : ∀ κ mo hc, Pot κ mo hc [] [] [] (fun _ => []) (fun _ _ => 0) = 0 := fun κ mo hc => rfl
  refine ⟨0, by decide, by decide, ⟨by decide, by decide, by decide, by decide⟩, (fun _ _ => 0, fun _ _ => false, fun _ _ => 0, fun _ _ _ => 0), ⟨⟨up0z, up0z, fun n _ _ => ⟨up0z, up0z, up0z, Nat.le_refl _⟩, fun p _ => up0z⟩, fun n _ _ => ⟨fun y hy => (by cases hy), List.Pairwise.nil⟩, fun m hm => (by cases hm), fun z hz => (by cases hz), fun z hz => (by cases hz), trivial, ⟨fun e h he => (by cases he), fun e e' h h' _ he => (by cases he)⟩, fun p _ => Or.inl rfl, by decide, ?_⟩, by rw [pot]; decide, by rw [pot]; decide⟩
  exact Nat.le_refl _
theorem LInv0 : LInv 0 0 T0 S0 := by
  refine ⟨fun _ => [], fun _ => [], fun _ => [], [], [], 0, 631, 0, 16, 0, 0, 0, 631, 0, 0, _, ⟨RB0, ⟨Nat.le_add_right _ _, Nat.zero_le _⟩, led0⟩, PI0, t0_at (a := 630) (by decide) rfl, fun _ => rfl, by decide, by decide, by decide, by decide, by decide, by decide, by decide⟩
