/-! only what the first n have counts -/
theorem ktp_cg {n : Nat} {F F' w w' : Nat → Nat} (hF : ∀ i, i < n → F i = F' i) (hw : ∀ i, i < n → w i = w' i) (s : Nat) : ∀ i, i < n → ktp F s w i = ktp F' s w' i := by
  intro i hi
  unfold ktp
  rw [hF i hi, hw i hi]
theorem kgo_cg {n : Nat} {w w' : Nat → Nat} (hw : ∀ i, i < n → w i = w' i) {s : Nat} (h : kgo n w s) : kgo n w' s := fun i hi hb => by rw [← hw i hi]; exact h i hi hb
theorem KW_cg {n : Nat} {F F' : Nat → Nat} {H : Nat} (hF : ∀ i, i < n → F i = F' i) : ∀ (d : Nat) (w w' : Nat → Nat) (t : Nat), (∀ i, i < n → w i = w' i) → KW n F H d w t → KW n F' H d w' t := by
  intro d
  induction d with
  | zero => intro w w' t _ h; exact h
  | succ d ih =>
    rintro w w' t hw ⟨s, h1, h2, h3, t', h4, h5⟩
    exact ⟨s, h1, h2, kgo_cg hw h3, t', h4, ih _ _ _ (ktp_cg hF hw s) h5⟩
theorem kmv_cg {n : Nat} {F F' : Nat → Nat} {H d : Nat} {w w' : Nat → Nat} (hF : ∀ i, i < n → F i = F' i) (hw : ∀ i, i < n → w i = w' i) : kmv n F H d w = kmv n F' H d w' := by
  have e : KW n F H d w = KW n F' H d w' := funext fun t => propext ⟨KW_cg hF d w w' t hw, KW_cg (fun i hi => (hF i hi).symm) d w' w t fun i hi => (hw i hi).symm⟩
  unfold kmv
  rw [e]
theorem kmc_cg {c n : Nat} {F F' : Nat → Nat} {H d : Nat} {w w' : Nat → Nat} (hF : ∀ i, i < n → F i = F' i) (hw : ∀ i, i < n → w i = w' i) : kmc c n F H d w = kmc c n F' H d w' := by
  unfold kmc
  rw [kmv_cg hF hw]
theorem klc_cg {n : Nat} {F F' : Nat → Nat} {H D : Nat} {w w' : Nat → Nat} (hF : ∀ i, i < n → F i = F' i) (hw : ∀ i, i < n → w i = w' i) : klc n F H D w = klc n F' H D w' := by
  have e : KOP n F H D w = KOP n F' H D w' := by
    funext s
    apply propext
    unfold KOP
    rw [kmc_cg (d := D + 1) hF hw, kmc_cg (d := D) hF (ktp_cg hF hw s)]
    exact ⟨fun h => ⟨h.1, kgo_cg hw h.2.1, h.2.2⟩, fun h => ⟨h.1, kgo_cg (fun i hi => (hw i hi).symm) h.2.1, h.2.2⟩⟩
  unfold klc
  rw [e]
theorem kws_cg {n : Nat} {F F' : Nat → Nat} {H d : Nat} {w w' : Nat → Nat} (hF : ∀ i, i < n → F i = F' i) (hw : ∀ i, i < n → w i = w' i) : ∀ i k, k < n → kws n F H d w i k = kws n F' H d w' i k := by
  intro i
  induction i with
  | zero => exact hw
  | succ i ih =>
    intro k hk
    show ktp F (klc n F H (d - i - 1) (kws n F H d w i)) (kws n F H d w i) k = ktp F' (klc n F' H (d - i - 1) (kws n F' H d w' i)) (kws n F' H d w' i) k
    rw [klc_cg hF ih]
    exact ktp_cg hF ih _ k hk
theorem KA_cg {n : Nat} {F F' : Nat → Nat} {h : Nat} (hF : ∀ i, i < n → F i = F' i) : ∀ k (w w' : Nat → Nat), (∀ i, i < n → w i = w' i) → KA n F h k w → KA n F' h k w' := by
  intro k
  induction k with
  | zero => intro w w' _ _; trivial
  | succ k ih =>
    rintro w w' hw ⟨s, h1, h2, h3, h4⟩
    exact ⟨s, h1, h2, kgo_cg hw h3, ih _ _ (ktp_cg hF hw s) h4⟩
theorem kw0_wa {g : Nat → Int} : kw0 g = kwa g (fun j => g (44 + ksp g j)) := rfl
