/-! The ledger over calls: purges are counted apart. -/
def Led3 (τ ν lam d β1 β2 : Nat) : Iv := fun M Q R Z E N k1 k2 => ∃ q, q ≤ d ∧ q ≤ cN (N 2 0) ∧ Led τ ν lam (β1 + 1036 * q) (β2 + 17124 * q) M Q R Z E N k1 k2
section
variable {τ ν lam d β1 β2 τ' ν' lam' d' β1' β2' b1 b2 b1' b2' k1 k2 k1' k2' : Nat} {M M' : List (Nat → Int32)} {Q Q' R R' : List Rq} {Z Z' : Nat → List Fz} {E E' : Nat → Option (Nat → Int32)} {N N' : Nat → Nat → Int32}
theorem Led.o60 (h : Led τ ν lam b1 b2 M Q R Z E N k1 k2) : cN (N 2 0) ≤ 60 := by
  obtain ⟨_, G, ⟨a1, _⟩, _⟩ := h
  exact (a1.2.1.cN (by decide)).2
theorem Led.cast (e1 : b1' = b1) (e2 : b2' = b2) (h : Led τ ν lam b1 b2 M Q R Z E N k1 k2) : Led τ ν lam b1' b2' M Q R Z E N k1 k2 := by
  rw [e1, e2]
  exact h
theorem Led3.lift (h : Led3 τ ν lam d β1 β2 M Q R Z E N k1 k2) (e : N' 2 0 = N 2 0) (f : ∀ b1 b2, Led τ ν lam b1 b2 M Q R Z E N k1 k2 → Led τ ν lam b1 b2 M' Q' R' Z' E' N' k1' k2') : Led3 τ ν lam d β1 β2 M' Q' R' Z' E' N' k1' k2' := by
  obtain ⟨q, h1, h2, h3⟩ := h
  exact ⟨q, h1, by rw [e]; exact h2, f _ _ h3⟩
theorem Led3.clA : ClA (Led3 τ ν lam d β1 β2) := fun M Q Pd Z E E' N k1 k2 z m h a b => h.lift rfl (fun _ _ h => Led.clA _ _ _ _ _ _ _ _ _ _ _ h a b)
theorem Led3.clB : ClB (Led3 τ ν lam d β1 β2) := fun M Q Pd Z E N k1 k2 z h a => h.lift rfl (fun _ _ h => Led.clB _ _ _ _ _ _ _ _ _ h a)
theorem Led3.clC : ClC (Led3 τ ν lam d β1 β2) := fun M Q Pd Z E N k1 k2 z mi fa to0 la fo had h a => h.lift (if_neg (fun q => absurd q.1 (by decide))) (fun _ _ h => Led.clC _ _ _ _ _ _ _ _ _ _ _ _ _ _ _ h a)
theorem Led3.clC0 : ClC0 (Led3 τ ν lam d β1 β2) := fun M Q Pd Z E N k1 k2 z m h a b => h.lift rfl (fun _ _ h => Led.clC0 _ _ _ _ _ _ _ _ _ _ h a b)
theorem Led3.clD : ClD (Led3 τ ν lam d β1 β2) := fun M Q Pd Z E N k1 k2 z m fa to0 la fo had h a b => h.lift (if_neg (fun q => absurd q.1 (by decide))) (fun _ _ h => Led.clD _ _ _ _ _ _ _ _ _ _ _ _ _ _ _ h a b)
theorem Led3.faJ : FaJ (Led3 τ ν lam d β1 β2) := fun M Q Pd Z E N k1 k2 h => by
  obtain ⟨q, _, _, h⟩ := h
  exact Led.faJ _ _ _ _ _ _ _ _ h
theorem Led3.faE : FaE (Led3 τ ν lam d β1 β2) := fun M Q Pd Z E N k1 k2 h => by
  obtain ⟨q, _, _, h⟩ := h
  exact Led.faE _ _ _ _ _ _ _ _ h
theorem Led3.clo : Clo (Led3 τ ν lam d β1 β2) := ⟨Led3.clA, Led3.clB, Led3.clC, Led3.clC0, Led3.clD, Led3.faJ, Led3.faE⟩
theorem Led3.clG : ClG (Led3 τ ν lam d β1 β2) := fun M Q Pd Z E N k1 k2 z h a => h.lift rfl (fun _ _ h => Led.clG _ _ _ _ _ _ _ _ _ h a)
theorem Led3.clRem : ClRem (Led3 τ ν lam d β1 β2) := fun M1 m M2 Q Z E N k1 k2 h => h.lift rfl (fun _ _ h => Led.clRem _ _ _ _ _ _ _ _ _ h)
theorem Led3.clLet : ClLet (Led3 τ ν lam d β1 β2) := fun M Q Z E N k1 k2 n i y h a b c => by
  obtain ⟨q, h1, h2, h3⟩ := h
  have := Led.clLet _ _ _ _ _ _ _ n i y h3 a b c
  exact ⟨this.1, fun ms u v => ⟨q, h1, h2, this.2 ms u v⟩⟩
theorem Led3.clShr : ClShr (Led3 τ ν lam d β1 β2) := fun M Q Pd Z E E' N k1 k2 h a => h.lift rfl (fun _ _ h => Led.clShr _ _ _ _ _ _ _ _ _ h a)
theorem Led3.clRef : ClRef (Led3 τ ν lam d β1 β2) := fun M1 m M2 Q Z E N k1 k2 n i y to0 la fo had h a1 a2 a3 a4 a5 a6 a7 a8 a9 a10 a11 a12 a13 a14 => h.lift (if_neg (fun q => absurd q.1 (by decide))) (fun _ _ h => Led.clRef _ _ _ _ _ _ _ _ _ _ _ _ _ _ _ _ h a1 a2 a3 a4 a5 a6 a7 a8 a9 a10 a11 a12 a13 a14)
theorem Led3.faFill : FaFill (Led3 τ ν lam d β1 β2) := fun M1 m M2 Q Z E N k1 k2 h => by
  obtain ⟨q, _, _, h⟩ := h
  exact Led.faFill _ _ _ _ _ _ _ _ _ h
theorem Led3.faFill2 : FaFill2 (Led3 τ ν lam d β1 β2) := fun M1 m M2 Q Z E N k1 k2 h => by
  obtain ⟨q, _, _, h⟩ := h
  exact Led.faFill2 _ _ _ _ _ _ _ _ _ h
theorem Led3.clOk1 : ClOk1 (Led3 τ ν lam d β1 β2) := fun M1 m M2 Q Z E E' N k1 k2 n i y wh bl z Pe h a1 a2 a3 a4 a5 a6 a7 a8 a9 a10 => h.lift rfl (fun _ _ h => Led.clOk1 _ _ _ _ _ _ _ _ _ _ _ _ _ _ _ _ _ h a1 a2 a3 a4 a5 a6 a7 a8 a9 a10)
theorem Led3.clOk2 : ClOk2 (Led3 τ ν lam d β1 β2) := fun M1 m M2 Q Z E E' N k1 k2 n i y wh bl h a1 a2 a3 a4 a5 a6 a7 a8 a9 => h.lift rfl (fun _ _ h => Led.clOk2 _ _ _ _ _ _ _ _ _ _ _ _ _ _ _ h a1 a2 a3 a4 a5 a6 a7 a8 a9)
theorem Led3.clOr : ClOr (Led3 τ ν lam d β1 β2) := fun M1 m M2 Q Z E N k1 k2 p l fo h a1 a2 a3 a4 a5 a6 a7 => h.lift rfl (fun _ _ h => Led.clOr _ _ _ _ _ _ _ _ _ _ _ _ h a1 a2 a3 a4 a5 a6 a7)
theorem Led3.faRows : FaRows (Led3 τ ν lam d β1 β2) := fun M1 m M2 Q Z E N k1 k2 n h => by
  obtain ⟨q, _, _, h⟩ := h
  exact Led.faRows _ _ _ _ _ _ _ _ _ n h
theorem Led3.clFet : ClFet (Led3 τ ν lam d β1 β2) := fun M1 m M2 Q Z E N k1 k2 n p v l fo a h a1 a2 a3 a4 a5 a6 a7 a8 a9 a10 a11 => h.lift rfl (fun _ _ h => Led.clFet _ _ _ _ _ _ _ _ _ _ _ _ _ _ _ h a1 a2 a3 a4 a5 a6 a7 a8 a9 a10 a11)
theorem Led3.faPur : FaPur (Led3 τ ν lam d β1 β2) := fun M1 m M2 Q Z E N k1 k2 n h => by
  obtain ⟨q, _, _, h⟩ := h
  exact Led.faPur _ _ _ _ _ _ _ _ _ n h
theorem Led3.clPur : ClPur (Led3 τ ν lam d β1 β2) := fun M1 m M2 Q Z E E' N k1 k2 n h a1 a2 a3 a4 a5 => h.lift (by unfold puN; rfl) (fun _ _ h => Led.clPur _ _ _ _ _ _ _ _ _ _ _ h a1 a2 a3 a4 a5)
theorem Led3.msg : ClMsg (Led3 τ ν lam d β1 β2) := ⟨Led3.clo, Led3.clG, Led3.clLet, Led3.clRem, Led3.clRef, Led3.clShr, Led3.faFill, Led3.faFill2, Led3.clOk1, Led3.clOk2, Led3.clOr, Led3.faRows, Led3.clFet, Led3.faPur, Led3.clPur⟩
theorem Led3.clDrop : ClDrop (Led3 τ ν lam d β1 β2) := fun M Q Z E N k1 k2 p h a => h.lift (if_neg (fun q => absurd q.1 (by decide))) (fun _ _ h => Led.clDrop _ _ _ _ _ _ _ _ h a)
theorem Led3.clFail : ClFail (Led3 τ ν lam d β1 β2) := fun M Q Z E E' N k1 k2 n h a b c => h.lift (if_neg (fun q => by rcases q.1 with w | w <;> exact absurd w (by decide))) (fun _ _ h => Led.clFail _ _ _ _ _ _ _ _ _ h a b c)
theorem Led3.faOv : FaOv (Led3 τ ν lam d β1 β2) := fun M Q Pd Z E N k1 k2 h => by
  obtain ⟨q, _, _, h⟩ := h
  exact Led.faOv _ _ _ _ _ _ _ _ h
theorem Led3.faVer (hν : ν ≤ 511) : FaVer (Led3 τ ν lam d β1 β2) := fun M Q Z E N k1 k2 h => by
  obtain ⟨q, _, _, h⟩ := h
  exact Led.faVer hν _ _ _ _ _ _ _ h
theorem Led3.clTick (ht : τ + 1 ≤ 60000) : ClTick (Led3 τ ν lam d β1 β2) (Led3 (τ + 1) ν lam d β1 β2) := fun M Q Z E N k1 k2 h => by
  obtain ⟨q, h1, h2, h3⟩ := h
  exact ⟨q, h1, h2, Led.clTick ht _ _ _ _ _ _ _ h3⟩
theorem Led3.clPg (hβ : β2 ≤ 50000000) : ClPg (Led3 τ ν lam d β1 β2) (Led3 τ ν lam (d + 1) β1 β2) := fun M Q Z E N k1 k2 o b w u h e ho a => by
  obtain ⟨q, h1, h2, h3⟩ := h
  have eo : cN (N 2 0) = o := by rw [e]; exact m_n_cl (by omega)
  rw [eo] at h2
  refine ⟨q + 1, by omega, ?_, ?_⟩
  · show q + 1 ≤ cN (if (2 : Nat) = 2 then Int32.ofNat (o + 1) else N 2 0)
    rw [if_pos rfl, show cN (Int32.ofNat (o + 1)) = o + 1 from m_n_cl (by omega)]
    omega
  · exact Led.cast (by omega) (by omega) (Led.clPg (by omega) _ _ _ _ _ _ _ o b w u h3 e ho a)
theorem Led3.clBk (hβ : β2 ≤ 50000000) : ClBk (Led3 τ ν lam d β1 β2) (Led3 τ ν lam d (β1 + 512) (β2 + 8448)) := fun M Q Z E N k1 k2 n h a b => by
  obtain ⟨q, h1, h2, h3⟩ := h
  have := h3.o60
  exact ⟨q, h1, h2, Led.cast (by omega) (by omega) (Led.clBk (by omega) _ _ _ _ _ _ _ n h3 a b)⟩
theorem Led3.clUp (hν : ν + 1 ≤ 600) (hβ : β2 ≤ 50000000) : ClUp (Led3 τ ν lam d β1 β2) (Led3 τ (ν + 1) lam d (β1 + 1) (β2 + 10)) := fun M Q Z E N k1 k2 h => by
  obtain ⟨q, h1, h2, h3⟩ := h
  have := h3.o60
  obtain ⟨c1, c2⟩ := Led.clUp hν (by omega) _ _ _ _ _ _ _ h3
  exact ⟨⟨q, h1, h2, Led.cast (by omega) (by omega) c1⟩, fun p d hp hd he => ⟨q, h1, h2, Led.cast (by omega) (by omega) (c2 p d hp hd he)⟩⟩
theorem Led3.clAsk (hβ : β2 ≤ 50000000) : ClAsk (Led3 τ ν lam d β1 β2) (Led3 τ ν lam d (β1 + 4) (β2 + 49)) := fun M Q Z E N k1 k2 h => by
  obtain ⟨q, h1, h2, h3⟩ := h
  have := h3.o60
  obtain ⟨c1, c2⟩ := Led.clAsk (by omega) _ _ _ _ _ _ _ h3
  exact ⟨⟨q, h1, h2, Led.cast (by omega) (by omega) c1⟩, ⟨q, h1, h2, Led.cast (by omega) (by omega) c2⟩⟩
theorem Led3.mono (h1 : τ ≤ τ') (h2 : ν ≤ ν') (h3 : lam ≤ lam') (h4 : d ≤ d') (h5 : β1 ≤ β1') (h6 : β2 ≤ β2') (hp : τ' ≤ 60000 ∧ ν' ≤ 600 ∧ lam' ≤ 300 ∧ β2' ≤ 60000000) : Le (Led3 τ ν lam d β1 β2) (Led3 τ' ν' lam' d' β1' β2') := fun M Q Pd Z E N k1 k2 h => by
  obtain ⟨q, a1, a2, a3⟩ := h
  have := a3.o60
  exact ⟨q, by omega, a2, Led.mono h1 h2 h3 (by omega) (by omega) ⟨hp.1, hp.2.1, hp.2.2.1, by omega⟩ _ _ _ _ _ _ _ _ a3⟩
theorem Led3.clLook (hl : lam + 1 ≤ 300) (hβ : β2 ≤ 50000000) : ClLook (Led3 τ ν lam d β1 β2) (Led3 τ ν (lam + 1) d (β1 + 1480) (β2 + 23583)) := fun M Q Z E N k1 k2 h r hr he => by
  obtain ⟨q, h1, h2, h3⟩ := h
  have := h3.o60
  obtain ⟨c1, c2⟩ := Led.clLook hl (by omega) _ _ _ _ _ _ _ h3 r hr he
  exact ⟨c1, fun a n p v g k a1 a2 a3 a4 a5 a6 => ⟨q, h1, h2, Led.cast (by omega) (by omega) (c2 a n p v g k a1 a2 a3 a4 a5 a6)⟩⟩
theorem Led3.clAskL (hl : lam + 1 ≤ 300) (hτ : τ ≤ 60000 ∧ ν ≤ 600) (hβ : β2 ≤ 50000000) : ClAsk (Led3 τ ν lam d β1 β2) (Led3 τ ν (lam + 1) d (β1 + 1480) (β2 + 23583)) := fun M Q Z E N k1 k2 h => by
  obtain ⟨c1, c2⟩ := Led3.clAsk hβ _ _ _ _ _ _ _ h
  have le := Led3.mono (τ := τ) (τ' := τ) (ν := ν) (ν' := ν) (lam := lam) (lam' := lam + 1) (d := d) (d' := d) (β1 := β1 + 4) (β1' := β1 + 1480) (β2 := β2 + 49) (β2' := β2 + 23583) (by omega) (by omega) (by omega) (by omega) (by omega) (by omega) ⟨hτ.1, hτ.2, hl, by omega⟩
  exact ⟨le _ _ _ _ _ _ _ _ c1, le _ _ _ _ _ _ _ _ c2⟩
theorem Led3.clTx {m : Nat} (hβ : β2 ≤ 50000000) : ClTx (Led3 τ ν lam d β1 β2) (fun m' => Led3 τ ν lam d (β1 + ((m' - m) + 2)) (β2 + (2 * (m' - m) + 500))) m := fun m' hm hm' M Q Z E N k1 k2 h => by
  obtain ⟨q, h1, h2, h3⟩ := h
  have := h3.o60
  exact ⟨q, h1, h2, Led.cast (by omega) (by omega) (Led.clTx (m := m) (by omega) m' hm hm' _ _ _ _ _ _ _ h3)⟩
/-- the end: what was spent -/
theorem Led3.fin (h : Led3 τ ν lam d β1 β2 M Q R Z E N k1 k2) : ∃ q, q ≤ d ∧ q ≤ 60 ∧ k1 ≤ β1 + 1036 * q ∧ k2 ≤ β2 + 17124 * q := by
  obtain ⟨q, h1, h2, h3⟩ := h
  have := h3.o60
  obtain ⟨_, G, _, p1', p2'⟩ := h3
  exact ⟨q, h1, by omega, by omega, by omega⟩
end
