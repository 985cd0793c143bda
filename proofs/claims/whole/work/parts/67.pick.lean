/-! Fewer locals, in another order. -/
theorem m_Rs.pick {l : Launch} {I : mI} {pc : Nat} {lv lv' : List (Nat × Value)} {st : List Value} {w : List mM} {P : Option Value → List mM → Prop} {c s f lo : Nat} (ks : List Nat) (hp : lv_pick lv ks = lv') (h : m_Rs l I (pc, lv', st, w) P c s f lo) : m_Rs l I (pc, lv, st, w) P c s f lo := by
  obtain ⟨v, w', h1, hG⟩ := h
  refine ⟨v, w', h1, ?_⟩
  intro p e R s9 m args below meth c9 H locs cells slots ls D dA X A L0 L1 hx hb hml hown hts hnm hret hlk hK hE hA hS hl hc hs hfr hlo
  refine hG p e R s9 m args below meth c9 H locs cells slots ls D dA X A L0 L1 hx hb hml hown hts hnm hret hlk hK hE hA hS ⟨hl.1, hl.2.1, fun q hq => hl.2.2 q ?_⟩ hc hs hfr hlo
  obtain ⟨q0, hq0, rfl⟩ := List.mem_map.mp hq
  refine List.mem_map.mpr ⟨q0, ?_, rfl⟩
  have h9 : q0 ∈ lv_pick lv ks := by rw [hp]; exact hq0
  obtain ⟨k, -, hk⟩ := List.mem_filterMap.mp h9
  exact List.mem_of_getElem? hk
