/-! WHAT HOLDS between calls -/
def img (m : am_M) (i : Nat) : Nat → Int := fun k => m 54 (56 * (i + 1) + k)
def okg (g : Nat → Int) : Prop := WFG g ∧ g 1 ≤ 9999 ∧ SLT g
def row1 (m : am_M) (j : Nat) : Prop := RWC m (25 + 2 * j) ∧ ((m (25 + 2 * j) 2 < 0 ∧ m 73 j = -1) ∨ (0 ≤ m (25 + 2 * j) 2 ∧ m 74 j = m (25 + 2 * j) 2 ∧ m 73 j = m (25 + 2 * j) 1 ∧ ∀ k, (k : Nat) < m 74 j → m 75 (40 * j + k) = m (25 + 2 * j + 1) k))
/-- the arrays of the trial shelf hold what such arrays may -/
def TRB (m : am_M) : Prop := ∀ p, p < 12 → (0 ≤ m 8 p ∧ m 8 p ≤ 3) ∧ (0 ≤ m 9 p ∧ m 9 p ≤ 9) ∧ (0 ≤ m 10 p ∧ m 10 p ≤ 100) ∧ (0 ≤ m 11 p ∧ m 11 p ≤ 99)
theorem TRB_of {m : am_M} (h : WFG (vw m 7)) : TRB m := by
  obtain ⟨-, h1, h2, h3, h4, -⟩ := h
  intro p hp
  have a1 := h1 p hp
  have a2 := h2 p hp
  have a3 := h3 p hp
  have a4 := h4 p hp
  rw [vw_K hp] at a1
  rw [vw_S hp] at a2
  rw [vw_R hp] at a3
  rw [vw_I] at a4
  exact ⟨a1, a2, a3, a4⟩
theorem TRB_cg {m m' : am_M} (h : ∀ a k, 8 ≤ a → a ≤ 11 → m' a k = m a k) (hT : TRB m) : TRB m' := by
  intro p hp
  rw [h 8 p (by decide) (by decide), h 9 p (by decide) (by decide), h 10 p (by decide) (by decide), h 11 p (by decide) (by decide)]
  exact hT p hp
def Inv (m : am_M) : Prop := okg (m 54) ∧ (WFG (vw m 2) ∧ nv (vw m 2) = nv (m 54)) ∧ (∀ i, i < 2 → m 13 i = m 55 i ∧ (m 13 i = 0 ∨ (m 13 i = 1 ∧ okg (img m i) ∧ WFG (vw m (15 + 5 * i)) ∧ nv (vw m (15 + 5 * i)) = nv (img m i)))) ∧ (RWM m ∧ ∀ j, j < 4 → row1 m j) ∧ ((0 ≤ m 0 1 ∧ m 0 1 ≤ 900) ∧ m 53 5 = m 0 1 ∧ ∀ k, (k : Nat) < m 0 1 → (-128 ≤ m 1 k ∧ m 1 k ≤ 127) ∧ m 56 k = m 1 k % 256) ∧ (m 33 7 = m 53 13 ∧ m 33 8 = m 53 14 ∧ TRB m)
/-- what Inv looks at -/
def core (a k : Nat) : Prop := (a = 0 ∧ k = 1) ∨ a = 1 ∨ (2 ≤ a ∧ a ≤ 6) ∨ (8 ≤ a ∧ a ≤ 11) ∨ a = 13 ∨ (15 ≤ a ∧ a ≤ 32) ∨ (a = 33 ∧ (k = 7 ∨ k = 8)) ∨ (a = 53 ∧ (k = 5 ∨ k = 13 ∨ k = 14)) ∨ (54 ≤ a ∧ a ≤ 56) ∨ (73 ≤ a ∧ a ≤ 75)
def kpC (m m' : am_M) : Prop := ∀ a k, core a k → m' a k = m a k
theorem kpC_refl (m : am_M) : kpC m m := fun _ _ _ => rfl
theorem kpC_trans {m m' m2 : am_M} (h1 : kpC m m') (h2 : kpC m' m2) : kpC m m2 := fun a k h => (h2 a k h).trans (h1 a k h)
theorem kpC_f {m m' : am_M} {a : Nat} (h : kpC m m') (ha : a = 1 ∨ (2 ≤ a ∧ a ≤ 6) ∨ a = 13 ∨ (15 ≤ a ∧ a ≤ 32) ∨ (54 ≤ a ∧ a ≤ 56) ∨ (73 ≤ a ∧ a ≤ 75)) : m' a = m a := by
  funext k
  exact h a k (by unfold core; omega)
theorem kpC_vw {m m' : am_M} {s : Nat} (h : kpC m m') (hs : s = 2 ∨ s = 15 ∨ s = 20) : vw m' s = vw m s := vw_same fun a k h1 h2 => h a k (by unfold core; omega)
theorem Inv_kpC {m m' : am_M} (h : kpC m m') (hI : Inv m) : Inv m' := by
  obtain ⟨h1, h2, h3, ⟨h4a, h4⟩, h5, h6⟩ := hI
  have e54 : m' 54 = m 54 := kpC_f h (by omega)
  have e13 : m' 13 = m 13 := kpC_f h (by omega)
  have e55 : m' 55 = m 55 := kpC_f h (by omega)
  have e73 : m' 73 = m 73 := kpC_f h (by omega)
  have e74 : m' 74 = m 74 := kpC_f h (by omega)
  have e75 : m' 75 = m 75 := kpC_f h (by omega)
  refine ⟨?_, ?_, fun i hi => ?_, ⟨?_, fun j hj => ?_⟩, ?_, ?_⟩
  · rw [e54]; exact h1
  · rw [kpC_vw h (by omega), e54]; exact h2
  · have hv : vw m' (15 + 5 * i) = vw m (15 + 5 * i) := kpC_vw h (by omega)
    have hi2 : img m' i = img m i := by unfold img; rw [e54]
    rw [e13, e55, hv, hi2]
    exact h3 i hi
  · unfold RWM at h4a ⊢
    rw [e73, e74, e75]
    exact h4a
  · have hr : m' (25 + 2 * j) = m (25 + 2 * j) := kpC_f h (by omega)
    have hr1 : m' (25 + 2 * j + 1) = m (25 + 2 * j + 1) := kpC_f h (by omega)
    unfold row1 RWC
    rw [e73, e74, e75, hr, hr1]
    exact h4 j hj
  · have e1 : m' 1 = m 1 := kpC_f h (by omega)
    have e56 : m' 56 = m 56 := kpC_f h (by omega)
    rw [h 0 1 (by unfold core; omega), h 53 5 (by unfold core; omega), e1, e56]
    exact h5
  · rw [h 33 7 (by unfold core; omega), h 33 8 (by unfold core; omega), h 53 13 (by unfold core; omega), h 53 14 (by unfold core; omega)]
    exact ⟨h6.1, h6.2.1, TRB_cg (fun a k q1 q2 => h a k (by unfold core; omega)) h6.2.2⟩
theorem kpC_mu {m : am_M} {r k : Nat} {z : Int} (h : ¬ core r k) : kpC m (mu m r k z) := by
  intro a j hc
  by_cases hq : a = r ∧ j = k
  · rw [hq.1, hq.2] at hc
    exact absurd hc h
  · unfold mu
    rw [if_neg hq]
theorem in32 {z : Int} (h : -2147483648 ≤ z ∧ z ≤ 2147483647) : am_s z = z := am_s_id h.1 h.2
theorem Inv_vw {m : am_M} (h : Inv m) : WFG (vw m 2) := h.2.1.1
theorem Inv_nv {m : am_M} (h : Inv m) : nv (vw m 2) = nv (m 54) := h.2.1.2
theorem Inv_wf {m : am_M} (h : Inv m) : WFG (m 54) := h.1.1
theorem Inv_hd {m : am_M} (h : Inv m) {k : Nat} (hk : k < 8) : vw m 2 k = m 54 k := by
  have := congrFun (Inv_nv h) k
  rw [nv_lo hk, nv_lo hk] at this
  exact this
theorem Inv_N {m : am_M} (h : Inv m) : m 2 4 = m 54 0 := Inv_hd h (k := 0) (by decide)
theorem Inv_dt {m : am_M} (h : Inv m) : m 2 11 ≤ 9999 := by
  have : m 2 11 = m 54 1 := Inv_hd h (k := 1) (by decide)
  rw [this]
  exact h.1.2.1
