/-! the two objects as they are made hold together -/
def m00 : am_M := sS_258.2.2
theorem mF_sh : sS_258.1 = am_SH := by decide +kernel
theorem mF_in : ∀ a, a < 76 → ∀ k, k < 64 → sS_258.2.1 a k = am_RF a k := by decide +kernel
theorem mF_rl : ∀ e ∈ am_rfL, e.1.1 < 76 ∧ e.1.2 < 64 := by decide +kernel
theorem mF_rf : sS_258.2.1 = am_RF := by
  funext a k
  by_cases h : a < 76 ∧ k < 64
  · exact mF_in a h.1 k h.2
  · have h1 : sS_258.2.1 a k = none := nb_258 a k (by
      have e : sS_258.1.length = 76 := by decide +kernel
      omega)
    rw [h1]
    cases h2 : am_RF a k with
    | none => rfl
    | some v =>
      have h3 := mF_rl _ (am_look_in h2)
      exact absurd h3 h
theorem mF : sS_258 = st0 m00 := Prod.ext mF_sh (Prod.ext mF_rf rfl)
theorem m54 : ∀ k, k < 56 → m00 54 k = pl0 (fun _ => 0) k := by decide +kernel
theorem m2v : ∀ k, k < 56 → vw m00 2 k = pl0 (fun _ => 0) k := by decide +kernel
theorem m13 : ∀ i, i < 2 → m00 13 i = m00 55 i ∧ m00 13 i = 0 := by decide +kernel
theorem m75 : ∀ j, j < 160 → m00 75 j = 0 := by decide +kernel
theorem m73 : ∀ j, j < 4 → m00 73 j = -1 ∧ m00 74 j = 0 ∧ m00 (25 + 2 * j) 2 = -1 ∧ m00 (25 + 2 * j) 1 = 0 := by decide +kernel
theorem m26 : ∀ j, j < 4 → ∀ k, k < 40 → m00 (25 + 2 * j + 1) k = 0 := by decide +kernel
theorem m01 : m00 0 1 = 0 ∧ m00 53 5 = 0 ∧ m00 33 7 = 0 ∧ m00 53 13 = 0 ∧ m00 33 8 = -1 ∧ m00 53 14 = -1 := by decide +kernel
theorem m8 : ∀ p, p < 12 → m00 8 p = 0 ∧ m00 9 p = 0 ∧ m00 10 p = 0 ∧ m00 11 p = 0 := by decide +kernel
theorem inv00 : Inv m00 := by
  refine ⟨okg_of m54 ⟨HGD_0.1, by show (0 : Int) ≤ 9999; decide, HGD_0.2.1⟩, ⟨WFG_of' m2v HGD_0.1, (nv_of m2v).trans (nv_of m54).symm⟩, fun i hi => ⟨(m13 i hi).1, Or.inl (m13 i hi).2⟩, ⟨fun r hr => ?_, fun j hj => ?_⟩, ?_, ?_⟩
  · obtain ⟨h1, h2, h3, h4⟩ := m73 r hr
    refine ⟨by omega, by omega, fun k hk => ?_⟩
    rw [m75 (40 * r + k) (by omega)]
    rfl
  · obtain ⟨h1, h2, h3, h4⟩ := m73 j hj
    refine ⟨⟨by omega, by omega, fun k hk => ?_⟩, Or.inl ⟨by omega, h1⟩⟩
    rw [m26 j hj k hk]
    rfl
  · obtain ⟨h1, h2, -⟩ := m01
    exact ⟨by omega, by omega, fun k hk => by omega⟩
  · obtain ⟨-, -, h3, h4, h5, h6⟩ := m01
    refine ⟨by omega, by omega, fun p hp => ?_⟩
    have := m8 p hp
    omega
theorem am_goal : am_Goal := by
  intro L xs hL
  have hx : LX L xs (am_fx L xs) := by
    refine ⟨⟨rfl, rfl, fun k hk => ?_⟩, rfl⟩
    unfold am_fx
    rw [if_neg (by omega), if_neg (by omega), if_neg (by omega), if_pos (by omega), show 3000 + k - 3000 = k by omega]
  obtain ⟨S2, hk⟩ := law_loop (cr := (0, 82598)) hx hL (L + 6) 0 m00 (by omega) (by omega) inv00
  have hm := made (fx := am_fx L xs) (o := ([.inl 1], S2)) (by rw [mF]; exact hk.mono (by decide))
  obtain ⟨n, h⟩ := hm
  exact ⟨n, S2, h⟩
