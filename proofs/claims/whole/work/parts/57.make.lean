/-! A new cell: the new world is known by what it holds. -/
def m_WA (w w1 : List mM) (n1 : Nat) (c0 : mM) : Prop := n1 = 512 + w.length ∧ w1.length = w.length + 1 ∧ m_at w1 n1 = some c0 ∧ ∀ b d, m_at w b = some d → m_at w1 b = some d
theorem m_WA.of {w : List mM} {c0 : mM} : m_WA w (w ++ [c0]) (512 + w.length) c0 := ⟨rfl, by rw [List.length_append]; rfl, m_at_new, fun b d h => m_at_app h⟩
theorem m_Fr.wa {w w' w1 : List mM} {S : List Nat} {a : Nat} {c : mM} (h : m_Fr w w' S) (h1 : m_WA w' w1 a c) : m_Fr w w1 S := ⟨by rw [h1.2.1]; have := h.1; omega, fun b d hb hn => h1.2.2.2 b d (h.2 b d hb hn)⟩
theorem m_gc_d : Cond.declares m_gcn ∈ m_nw := (List.mem_filter.mpr ⟨m_in12 (List.mem_of_getElem? (i := 56) rfl), rfl⟩)
theorem m_gc_s : Cond.selects "[Ljava/lang/Object;" m_gcn m_gcn ∈ m_gt := m_gi12 55 rfl rfl
theorem m_gc_i : Cond.instanceMethod m_gcn ∈ m_gt := m_gi4 11 rfl rfl
theorem m_gc_n : Cond.native m_gcn ∈ m_gt := m_gi4 33 rfl rfl
section
variable {l : Launch} {I : mI} {pc pc' k N ci ds t9 : Nat} {lv : List (Nat × Value)} {st r : List Value} {w : List mM} {fs : List Value} {y : Int32} {kk9 : Value} {P : Option Value → List mM → Prop} {c s f lo f1 l1 : Nat} {F' : mF} {c0 : mM}
theorem m_Rs.walloc (hI : m_bOk I) (h : m_nx m_nn I (pc, lv, st, w) = some ((pc', lv, .ref (512 + w.length) :: r, w ++ [c0]), 1, ds, 0, 0)) (k : ∀ w1 n1, m_WA w w1 n1 c0 → m_Rs l I (pc', lv, .ref n1 :: r, w1) P c s f lo) : m_Rs l I (pc, lv, st, w) P (1 + c) (ds + s) f lo :=
  m_Rs.nx hI h (k _ _ m_WA.of) (Nat.zero_le _) (Nat.zero_le _)
theorem m_Rs.nz (hI : m_bOk I) (h : m_nx m_nn I (pc, lv, st, w) = some (F', 0, 0, f1, l1)) (k : m_Rs l I F' P c s f lo) (hf : f1 ≤ f) (hl : l1 ≤ lo) : m_Rs l I (pc, lv, st, w) P c s f lo := by
  have := m_Rs.nx hI h k hf hl
  rw [Nat.zero_add, Nat.zero_add] at this
  exact this
theorem x_aload_nt {ic : mI → mF → Option mR} {k4 : Fin 4} {q : Nat} (hd : m_dn I pc (.aload_n k4) 1 pc') (h : m_lv lv k4 = some (.retAddr q)) : m_nx ic I (pc, lv, st, w) = some ((pc', lv, .retAddr q :: st, w), 0, 0, 0, 0) := by
  refine x_lo hd rfl ?_
  simp only [m_lo, m_lda, h]
theorem m_Rs.ldcM (hI : m_bOk I) (hd : m_dn I pc (.ldc k) 2 pc') (f1 : Cond.classLink I.1.cls k "[Ljava/lang/Object;" ∈ m_gt) (kk : m_Rs l I (pc', lv, .retAddr 1 :: st, w) P c s f lo) : m_Rs l I (pc, lv, st, w) P c s f lo := by
  obtain ⟨hd1, rfl⟩ := hd
  exact m_Rs.stp (m_Step.ldcM l hI hd1 f1) kk (Nat.zero_le _) (Nat.zero_le _)
theorem m_Rs.acmpM {off : Int} {t : Nat} (hI : m_bOk I) (hd : m_dn I pc (.if_acmp .ne off) 3 pc') (hj : m_jmp pc off = some t) (kk : m_Rs l I (pc', lv, r, w) P c s f lo) : m_Rs l I (pc, lv, .retAddr 1 :: .retAddr 1 :: r, w) P c s f lo := by
  obtain ⟨hd1, rfl⟩ := hd
  exact m_Rs.stp (m_Step.acmpM l hI hd1 hj) kk (Nat.zero_le _) (Nat.zero_le _)
theorem m_Rs.getC {a : Nat} {els : List (Nat × Value)} (hI : m_bOk I) (hd : m_dn I pc (.invokevirtual k) 3 pc') (f1 : Cond.methodLink I.1.cls k m_gcn ∈ m_gt) (hw : m_at w a = some (.inl (8, N, els))) (hcat : (r.map fun v => v.category).sum ≤ 8) (kk : m_Rs l I (pc', lv, .retAddr 1 :: r, w) P c s f lo) (hf : 1 ≤ f) (hl : 22 ≤ lo) : m_Rs l I (pc, lv, .ref a :: r, w) P c s f lo := by
  obtain ⟨hd1, rfl⟩ := hd
  exact m_Rs.stp (m_Step.getC l hI hd1 f1 m_gc_d m_gc_s m_gc_i m_gc_n hw hcat) kk hf hl
end
