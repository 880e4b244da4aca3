def IvS (m : am_M) : Prop := okg (m 54) ∧ (WFG (vw m 2) ∧ nv (vw m 2) = nv (m 54))
def IvI (m : am_M) (i : Nat) : Prop := m 13 i = m 55 i ∧ (m 13 i = 0 ∨ (m 13 i = 1 ∧ okg (img m i) ∧ WFG (vw m (15 + 5 * i)) ∧ nv (vw m (15 + 5 * i)) = nv (img m i)))
def IvR (m : am_M) : Prop := RWM m ∧ ∀ j, j < 4 → row1 m j
def IvT (m : am_M) : Prop := (0 ≤ m 0 1 ∧ m 0 1 ≤ 900) ∧ m 53 5 = m 0 1 ∧ ∀ k, (k : Nat) < m 0 1 → (-128 ≤ m 1 k ∧ m 1 k ≤ 127) ∧ m 56 k = m 1 k % 256
def IvF (m : am_M) : Prop := m 33 7 = m 53 13 ∧ m 33 8 = m 53 14 ∧ TRB m
theorem Inv_mk {m : am_M} (h1 : IvS m) (h2 : ∀ i, i < 2 → IvI m i) (h3 : IvR m) (h4 : IvT m) (h5 : IvF m) : Inv m := ⟨h1.1, h1.2, h2, h3, h4, h5⟩
theorem Inv_S {m : am_M} (h : Inv m) : IvS m := ⟨h.1, h.2.1⟩
theorem Inv_I {m : am_M} (h : Inv m) {i : Nat} (hi : i < 2) : IvI m i := h.2.2.1 i hi
theorem Inv_R {m : am_M} (h : Inv m) : IvR m := h.2.2.2.1
theorem Inv_T {m : am_M} (h : Inv m) : IvT m := h.2.2.2.2.1
theorem Inv_F {m : am_M} (h : Inv m) : IvF m := h.2.2.2.2.2
theorem nv_of {g g' : Nat → Int} (h : ∀ k, k < 56 → g k = g' k) : nv g = nv g' := nv_eq (fun k hk => h k (by omega)) (fun p hp _ => ⟨h _ (by omega), h _ (by omega), h _ (by omega), h _ (by omega)⟩)
theorem WFG_of' {g g' : Nat → Int} (h : ∀ k, k < 56 → g k = g' k) (hw : WFG g') : WFG g := WFG_of (fun k hk => h k (by omega)) (fun p hp => ⟨h _ (by omega), h _ (by omega), h _ (by omega), h _ (by omega)⟩) hw
theorem SLT_of {g g' : Nat → Int} (h : ∀ k, k < 56 → g k = g' k) (hs : SLT g') : SLT g := by
  intro p hp hN hk
  rw [h 0 (by decide)] at hN
  rw [h (8 + p) (by omega)] at hk
  rw [h (20 + p) (by omega)]
  exact hs p hp hN hk
theorem okg_of {g g' : Nat → Int} (h : ∀ k, k < 56 → g k = g' k) (ho : okg g') : okg g := ⟨WFG_of' h ho.1, by rw [h 1 (by decide)]; exact ho.2.1, SLT_of h ho.2.2⟩
theorem IvS_of {m m' : am_M} (h1 : ∀ k, k < 56 → m' 54 k = m 54 k) (h2 : vw m' 2 = vw m 2) (h : IvS m) : IvS m' := by
  refine ⟨okg_of h1 h.1, ?_⟩
  rw [h2, nv_of h1]
  exact h.2
theorem IvI_of {m m' : am_M} {i : Nat} (h1 : m' 13 i = m 13 i) (h2 : m' 55 i = m 55 i) (h3 : ∀ k, k < 56 → m' 54 (56 * (i + 1) + k) = m 54 (56 * (i + 1) + k)) (h4 : vw m' (15 + 5 * i) = vw m (15 + 5 * i)) (h : IvI m i) : IvI m' i := by
  unfold IvI
  rw [h1, h2, h4, nv_of (g := img m' i) (g' := img m i) h3]
  refine ⟨h.1, h.2.imp id fun q => ⟨q.1, okg_of h3 q.2.1, q.2.2⟩⟩
theorem IvR_of {m m' : am_M} (h : ∀ a, (25 ≤ a ∧ a ≤ 32) ∨ (73 ≤ a ∧ a ≤ 75) → m' a = m a) (hR : IvR m) : IvR m' := by
  have e73 : m' 73 = m 73 := h _ (by omega)
  have e74 : m' 74 = m 74 := h _ (by omega)
  have e75 : m' 75 = m 75 := h _ (by omega)
  refine ⟨?_, fun j hj => ?_⟩
  · have := hR.1
    unfold RWM at this ⊢
    rw [e73, e74, e75]
    exact this
  · have hr : m' (25 + 2 * j) = m (25 + 2 * j) := h _ (by omega)
    have hr1 : m' (25 + 2 * j + 1) = m (25 + 2 * j + 1) := h _ (by omega)
    have := hR.2 j hj
    unfold row1 RWC at this ⊢
    rw [e73, e74, e75, hr, hr1]
    exact this
theorem IvT_of {m m' : am_M} (h0 : m' 0 1 = m 0 1) (h1 : m' 1 = m 1) (h2 : m' 53 5 = m 53 5) (h3 : m' 56 = m 56) (h : IvT m) : IvT m' := by
  unfold IvT at h ⊢
  rw [h0, h1, h2, h3]
  exact h
theorem IvF_of {m m' : am_M} (h1 : m' 33 = m 33) (h2 : m' 53 13 = m 53 13) (h3 : m' 53 14 = m 53 14) (h4 : ∀ a k, 8 ≤ a → a ≤ 11 → m' a k = m a k) (h : IvF m) : IvF m' := by
  unfold IvF at h ⊢
  rw [h1, h2, h3]
  exact ⟨h.1, h.2.1, TRB_cg h4 h.2.2⟩
