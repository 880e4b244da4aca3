theorem n_167s {fx : am_X0} (m : am_M) (p lo hi : Int) (h1 : am_t lo = lo) (h2 : am_t hi = hi) : rn fx 0 (0, 0) 167 0 (am_ent 6 [.inr (.inl (am_s p)), .inr (.inl lo), .inr (.inl hi)]) [] (st0 m) ([.inl ((if lo ≤ am_s p ∧ am_s p ≤ hi then 1 else 0))], st0 m) := by
  have h := n_167 (fx := fx) m (am_s p) lo hi
  rw [am_t_s, h1, h2] at h
  exact h
theorem n_183s {fx : am_X0} (m : am_M) (p : Int) (hq : WFG (m 54)) : rn fx 1 (0, 0) 183 0 (am_ent 3 [.inr (.inr (some 53)), .inr (.inl (am_s p))]) [] (st0 m) ([.inl ((if 0 ≤ am_s p ∧ am_s p < m 54 0 then 1 else 0))], st0 m) := by
  have h := n_183 (fx := fx) m (am_s p) hq
  rw [am_t_s] at h
  exact h
theorem v_53_ok (m : am_M) (a : Int) : v_53 m a = (if 0 ≤ am_s a ∧ am_s a < 4 then 1 else 0) := by
  unfold v_53
  rw [show am_s 4 = 4 from rfl]
  by_cases h1 : am_s a < 0
  · rw [if_pos h1, if_neg (by omega)]
  · rw [if_neg h1]
    by_cases h2 : 4 ≤ am_s a
    · rw [if_pos h2, if_neg (by omega)]
    · rw [if_neg h2, if_pos (by omega)]
theorem n_53 {fx : am_X0}   (m : am_M) (a : Int)  : rn fx 0 (0, 0) 53 0 (am_ent 1 [.inl a]) [] (st0 m) ([.inl ((if 0 ≤ am_s a ∧ am_s a < 4 then 1 else 0))], st0 m) := by
  have h := c_53 (fx := fx)  m a 
  rw [v_53_ok  m a ] at h
  exact h
/-- the class's rows -/
def RWS (m : am_M) : Prop := ∀ j, j < 4 → RWC m (25 + 2 * j)
/-- why a row is refused -/
def rfu (m : am_M) (a : Int) : Int := if 0 ≤ a ∧ a < 4 then (if m (25 + 2 * a.toNat) 2 < 0 then -6 else 0) else -2
theorem t_59_0n {fx : am_X0} {o : List am_V × am_S} {m : am_M} {a : Int}  (H : ((¬ am_s ((if 0 ≤ am_s a ∧ am_s a < 4 then 1 else 0)) = 0) → (0 ≤ am_s a ∧ am_s a < (4 : Nat)) ∧ ((RWC m (25 + 2 * (am_s a).toNat)) ∧ (∀ y1 : Int, y1 = (if am_s ((if m (25 + 2 * (am_s a).toNat) 2 < 0 then 1 else 0)) = 0 then 0 else (-6)) → o = ([.inl y1], st0 m)))) ∧ (¬ (¬ am_s ((if 0 ≤ am_s a ∧ am_s a < 4 then 1 else 0)) = 0) → o = ([.inl (-2)], st0 m))) : rn fx 1 (0, 0) 59 0 [some (.inr (.inr (some 0))), some (.inl a)] [] (st0 m) o := by
  refine r_ld (pc' := 1) hM_59 d_59_0 rfl rfl ?_
  refine r_cl (pc' := 4) (c := (53, 2)) (a := [.inl a]) (q := []) hM_59 d_59_1 rfl (by decide +kernel) hM_53 rfl rfl rfl (Nat.le_of_ble_eq_true rfl) (Nat.le_of_ble_eq_true rfl) (Or.inl rfl) (n_53  m a) (Nat.le_of_ble_eq_true rfl) ?_
  show rn fx 1 (0, 0) 59 4 [some (.inr (.inr (some 0))), some (.inl a)] [.inl ((if 0 ≤ am_s a ∧ am_s a < 4 then 1 else 0))] (st0 m) o
  refine r_if (pc' := 10) (pc2 := 7) hM_59 d_59_4 (by decide) rfl (fun hz1 => ?_) (fun hz1 => ?_)
  · have H := H.1 hz1
    refine r_ld (pc' := 11) hM_59 d_59_10 rfl rfl ?_
    refine r_gR (pc' := 14) (v := 14) hM_59 d_59_11 rfl (by decide +kernel) ?_
    refine r_ld (pc' := 15) hM_59 d_59_14 rfl rfl ?_
    obtain ⟨H0, H⟩ := H
    have hz2 := H0
    refine r_aa (pc' := 16) (n := 4) hM_59 d_59_15 rfl rfl (by decide) H0 (rfRows H0).1 (shRk (rfRows H0).2).1 ?_
    obtain ⟨hz3, H⟩ := H
    refine r_cl (pc' := 19) (c := (54, 0)) (a := [.inr (.inr (some (25 + 2 * (am_s a).toNat)))]) (q := []) hM_59 d_59_16 rfl (by decide +kernel) hM_54 rfl rfl rfl (Nat.le_of_ble_eq_true rfl) (Nat.le_of_ble_eq_true rfl) (Or.inr (rcvR ((rfRows hz2).2) _)) (n_54 ((rfRows hz2).2) m  hz3) (Nat.le_of_ble_eq_true rfl) ?_
    show rn fx 1 (0, 0) 59 19 [some (.inr (.inr (some 0))), some (.inl a)] [.inl ((if m (25 + 2 * (am_s a).toNat) 2 < 0 then 1 else 0))] (st0 m) o
    have K : ∀ y1 : Int, y1 = (if am_s ((if m (25 + 2 * (am_s a).toNat) 2 < 0 then 1 else 0)) = 0 then 0 else (-6)) → rn fx 1 (0, 0) 59 28 [some (.inr (.inr (some 0))), some (.inl a)] [.inl y1] (st0 m) o := by
      intro y1 hy1
      replace H := H y1 hy1
      subst H
      exact rt_i hM_59 d_59_28 rfl
    replace K := K _ rfl
    clear H
    refine r_if (pc' := 27) (pc2 := 22) hM_59 d_59_19 (by decide) rfl (fun hz4 => ?_) (fun hz4 => ?_)
    · have hz4 : am_s ((if m (25 + 2 * (am_s a).toNat) 2 < 0 then 1 else 0)) = 0 := hz4
      rw [if_pos hz4] at K
      refine r_k (pc' := 28) (v := .inl 0) hM_59 d_59_27 rfl rfl ?_
      exact K
    · have hz4 : ¬ (am_s ((if m (25 + 2 * (am_s a).toNat) 2 < 0 then 1 else 0)) = 0) := hz4
      rw [if_neg hz4] at K
      refine r_k (pc' := 24) (v := .inl (-6)) hM_59 d_59_22 rfl rfl ?_
      refine r_go (pc' := 28) hM_59 d_59_24 (by decide) ?_
      exact K
  · have H := H.2 hz1
    refine r_k (pc' := 9) (v := .inl (-2)) hM_59 d_59_7 rfl rfl ?_
    subst H
    exact rt_i hM_59 d_59_9 rfl
theorem n_59 {fx : am_X0} (m : am_M) (a : Int) (hq : RWS m) : rn fx 1 (0, 0) 59 0 (am_ent 2 [.inr (.inr (some 0)), .inl a]) [] (st0 m) ([.inl (rfu m (am_s a))], st0 m) := by
  have e : v_59 m a = rfu m (am_s a) := by
    unfold v_59 rfu
    rw [v_53_ok]
    simp only [as_ite, nn_iff, ite_n]
  have h := c_59 (fx := fx) m a (by
    unfold q_59
    rw [v_53_ok]
    simp only [as_ite, nn_iff]
    intro h
    exact ⟨by omega, hq _ (by omega)⟩)
  rw [e] at h
  exact h
theorem rfu_rng (m : am_M) (a : Int) : rfu m a = 0 ∨ rfu m a = -6 ∨ rfu m a = -2 := by
  unfold rfu
  split
  · split
    · exact Or.inr (Or.inl rfl)
    · exact Or.inl rfl
  · exact Or.inr (Or.inr rfl)
theorem rfu_0 {m : am_M} {a : Int} : rfu m a = 0 ↔ (0 ≤ a ∧ a < 4) ∧ 0 ≤ m (25 + 2 * a.toNat) 2 := by
  unfold rfu
  by_cases h1 : 0 ≤ a ∧ a < 4
  · rw [if_pos h1]
    by_cases h2 : m (25 + 2 * a.toNat) 2 < 0
    · rw [if_pos h2]
      constructor
      · intro h; omega
      · intro h; omega
    · rw [if_neg h2]
      exact ⟨fun _ => ⟨h1, by omega⟩, fun _ => rfl⟩
  · rw [if_neg h1]
    constructor
    · intro h; omega
    · intro h; exact absurd h.1 h1
theorem rfu_s (m : am_M) (a : Int) : am_s (rfu m a) = rfu m a := by
  rcases rfu_rng m a with h | h | h <;> rw [h] <;> rfl
theorem Inv_RWS {m : am_M} (hI : Inv m) : RWS m := fun j hj => (hI.2.2.2.1.2 j hj).1
theorem Inv_RWM {m : am_M} (hI : Inv m) : RWM m := hI.2.2.2.1.1
/-- a row of the class and of the model -/
theorem Inv_row {m : am_M} (hI : Inv m) {j : Nat} (hj : j < 4) : (m (25 + 2 * j) 2 < 0 ∧ m 73 j = -1) ∨ (0 ≤ m (25 + 2 * j) 2 ∧ m 74 j = m (25 + 2 * j) 2 ∧ m 73 j = m (25 + 2 * j) 1 ∧ ∀ k, (k : Nat) < m 74 j → m 75 (40 * j + k) = m (25 + 2 * j + 1) k) := (hI.2.2.2.1.2 j hj).2
theorem u_258_4 {Q : List am_V → am_M → Prop} {m : am_M} {x : Int} {k : Int}  (H : ((am_s (m 54 0) ≤ am_s k) → Q [.inl x] m) ∧ ((¬ (am_s (m 54 0) ≤ am_s k)) → (0 ≤ am_s (32 + k) ∧ am_s (32 + k) < (168 : Nat)) ∧ (ok 0 258 4 [some (.inr (.inr (some 53))), some (.inl (x + (m 54 ((am_s (32 + k)).toNat)))), some (.inl (k + 1))] [] m Q))) : ok 0 258 4 [some (.inr (.inr (some 53))), some (.inl x), some (.inl k)] [] m Q := by
  refine ok_sg (pc' := 11) (ls' := [some (.inr (.inr (some 53))), some (.inl x), some (.inl k)]) (st' := [.inl (m 54 0), .inl k]) (m' := m) (fun fx hfx o hk => ?_) ?_
  · refine r_ld (pc' := 5) hM_258 d_258_4 rfl rfl ?_
    refine r_ld (pc' := 6) hM_258 d_258_5 rfl rfl ?_
    refine r_gR (pc' := 9) (v := 54) hM_258 d_258_6 rfl (by decide +kernel) ?_
    refine r_k (pc' := 10) (v := .inl 0) hM_258 d_258_9 rfl rfl ?_
    refine r_iae (pc' := 11) (n := 168) (z := (m 54 0)) hM_258 d_258_10 rfl rfl (by decide) (by rw [show (am_s 0).toNat = 0 by decide]) ?_
    exact hk
  refine ok_ic (pc' := 32) (pc2 := 14) hM_258 d_258_11 (by decide) rfl (fun hz1 => ?_) (fun hz1 => ?_)
  · have H := H.1 hz1
    refine ok_sg (pc' := 33) (ls' := [some (.inr (.inr (some 53))), some (.inl x), some (.inl k)]) (st' := [.inl x]) (m' := m) (fun fx hfx o hk => ?_) ?_
    · refine r_ld (pc' := 33) hM_258 d_258_32 rfl rfl ?_
      exact hk
    exact ok_rt (fun fx _ => rt_i hM_258 d_258_33 rfl) H
  · have H := H.2 hz1
    obtain ⟨hz2, H⟩ := H
    refine ok_sg (pc' := 4) (ls' := [some (.inr (.inr (some 53))), some (.inl (x + (m 54 ((am_s (32 + k)).toNat)))), some (.inl (k + 1))]) (st' := []) (m' := m) (fun fx hfx o hk => ?_) ?_
    · refine r_ld (pc' := 15) hM_258 d_258_14 rfl rfl ?_
      refine r_ld (pc' := 16) hM_258 d_258_15 rfl rfl ?_
      refine r_gR (pc' := 19) (v := 54) hM_258 d_258_16 rfl (by decide +kernel) ?_
      refine r_k (pc' := 21) (v := .inl 32) hM_258 d_258_19 rfl rfl ?_
      refine r_ld (pc' := 22) hM_258 d_258_21 rfl rfl ?_
      refine r_b (pc' := 23) (z := (32 + k)) hM_258 d_258_22 rfl rfl ?_
      refine r_ia (pc' := 24) (n := 168) hM_258 d_258_23 rfl rfl hz2 ?_
      refine r_b (pc' := 25) (z := (x + (m 54 ((am_s (32 + k)).toNat)))) hM_258 d_258_24 rfl rfl ?_
      refine r_sto (pc' := 26) (ls' := [some (.inr (.inr (some 53))), some (.inl (x + (m 54 ((am_s (32 + k)).toNat)))), some (.inl k)]) hM_258 d_258_25 rfl rfl ?_
      refine r_sto (pc' := 29) (ls' := [some (.inr (.inr (some 53))), some (.inl (x + (m 54 ((am_s (32 + k)).toNat)))), some (.inl (k + 1))]) hM_258 d_258_26 rfl rfl ?_
      refine r_go (pc' := 4) hM_258 d_258_29 (by decide) ?_
      exact hk
    exact H
theorem u_258_0 {Q : List am_V → am_M → Prop} {m : am_M}   (H : ok 0 258 4 [some (.inr (.inr (some 53))), some (.inl 0), some (.inl 0)] [] m Q) : ok 0 258 0 [some (.inr (.inr (some 53))), none, none] [] m Q := by
  refine ok_sg (pc' := 4) (ls' := [some (.inr (.inr (some 53))), some (.inl 0), some (.inl 0)]) (st' := []) (m' := m) (fun fx hfx o hk => ?_) ?_
  · refine r_k (pc' := 1) (v := .inl 0) hM_258 d_258_0 rfl rfl ?_
    refine r_sto (pc' := 2) (ls' := [some (.inr (.inr (some 53))), some (.inl 0), none]) hM_258 d_258_1 rfl rfl ?_
    refine r_k (pc' := 3) (v := .inl 0) hM_258 d_258_2 rfl rfl ?_
    refine r_sto (pc' := 4) (ls' := [some (.inr (.inr (some 53))), some (.inl 0), some (.inl 0)]) hM_258 d_258_3 rfl rfl ?_
    exact hk
  exact H
theorem u_161_0 {Q : List am_V → am_M → Prop} {m : am_M} {a : Int}  (H : ((am_s a = 0) → Q [.inl (m 2 4)] m) ∧ (((am_s a = 1) → (WFG (vw m 2)) ∧ ((0 ≤ (((brl (nv (vw m 2)) : Nat) : Int)) ∧ (((brl (nv (vw m 2)) : Nat) : Int)) < 4096) ∧ (Q [.inl (((cnt (((brl (nv (vw m 2)) : Nat) : Int)).toNat 12 : Nat) : Int))] m))) ∧ (((am_s a = 2) → (WFG (vw m 2)) ∧ ((0 ≤ (((ons (nv (vw m 2)) (am_s 0) : Nat) : Int)) ∧ (((ons (nv (vw m 2)) (am_s 0) : Nat) : Int)) < 4096) ∧ (Q [.inl (((cnt (((ons (nv (vw m 2)) (am_s 0) : Nat) : Int)).toNat 12 : Nat) : Int))] m))) ∧ (((am_s a = 3) → (WFG (vw m 2)) ∧ (Q [.inl (((ons (nv (vw m 2)) (am_s 1) : Nat) : Int))] m)) ∧ (((am_s a = 4) → Q [.inl (m 2 11)] m) ∧ (((am_s a = 5) → Q [.inl (m 2 7)] m) ∧ (((am_s a = 6) → Q [.inl (m 2 8)] m) ∧ (((am_s a = 7) → Q [.inl (m 2 9)] m) ∧ (((am_s a = 8) → Q [.inl (m 0 1)] m) ∧ (((am_s a = 9) → Q [.inl (m 2 10)] m) ∧ (((am_s a = 10) → Q [.inl (m 2 5)] m) ∧ (((am_s a = 11) → Q [.inl (m 2 6)] m) ∧ (((am_s a = 12) → (WFS m 2) ∧ (Q [.inl ((sm (m (2 + 3)) (m 2 4).toNat))] m)) ∧ (((am_s a < 0 ∨ 12 < am_s a) → Q [.inl (-1)] m))))))))))))))) : ok 2 161 0 [some (.inr (.inr (some 0))), some (.inl a)] [] m Q := by
  refine ok_sg (pc' := 1) (ls' := [some (.inr (.inr (some 0))), some (.inl a)]) (st' := [.inl a]) (m' := m) (fun fx hfx o hk => ?_) ?_
  · refine r_ld (pc' := 1) hM_161 d_161_0 rfl rfl ?_
    exact hk
  by_cases hc : am_s a = 0
  · have H := H.1 hc
    refine ok_sg (pc' := 68) (ls' := [some (.inr (.inr (some 0))), some (.inl a)]) (st' := []) (m' := m) (fun fx hfx o hk => ?_) ?_
    · refine r_tsI (pc' := 68) (off := 0) (t := 67) hM_161 d_161_1 (by rw [hc]; rfl) (by decide) rfl (by decide) ?_
      exact hk
    refine ok_sg (pc' := 75) (ls' := [some (.inr (.inr (some 0))), some (.inl a)]) (st' := [.inl (m 2 4)]) (m' := m) (fun fx hfx o hk => ?_) ?_
    · refine r_ld (pc' := 69) hM_161 d_161_68 rfl rfl ?_
      refine r_gR (pc' := 72) (v := 2) hM_161 d_161_69 rfl (by decide +kernel) ?_
      refine r_gI (pc' := 75) (k0 := 4) hM_161 d_161_72 rfl (by decide +kernel) ?_
      exact hk
    exact ok_rt (fun fx _ => rt_i hM_161 d_161_75 rfl) H
  replace H := H.2
  have hc0 := hc
  clear hc
  by_cases hc : am_s a = 1
  · have H := H.1 hc
    refine ok_sg (pc' := 76) (ls' := [some (.inr (.inr (some 0))), some (.inl a)]) (st' := []) (m' := m) (fun fx hfx o hk => ?_) ?_
    · refine r_tsI (pc' := 76) (off := 1) (t := 75) hM_161 d_161_1 (by rw [hc]; rfl) (by decide) rfl (by decide) ?_
      exact hk
    obtain ⟨hz1, H⟩ := H
    obtain ⟨hz2, H⟩ := H
    refine ok_sg (pc' := 86) (ls' := [some (.inr (.inr (some 0))), some (.inl a)]) (st' := [.inl (((cnt (((brl (nv (vw m 2)) : Nat) : Int)).toNat 12 : Nat) : Int))]) (m' := m) (fun fx hfx o hk => ?_) ?_
    · refine r_ld (pc' := 77) hM_161 d_161_76 rfl rfl ?_
      refine r_gR (pc' := 80) (v := 2) hM_161 d_161_77 rfl (by decide +kernel) ?_
      refine r_cl (pc' := 83) (c := (47, 0)) (a := [.inr (.inr (some 2))]) (q := []) hM_161 d_161_80 rfl (by decide +kernel) hM_47 rfl rfl rfl (Nat.le_of_ble_eq_true rfl) (Nat.le_of_ble_eq_true rfl) (Or.inr rfl) (n_47 (by decide) m  hz1) (Nat.le_of_ble_eq_true rfl) ?_
      show rn fx 2 (0, 0) 161 83 [some (.inr (.inr (some 0))), some (.inl a)] [.inl (((brl (nv (vw m 2)) : Nat) : Int))] (st0 m) o
      refine r_cl (pc' := 86) (c := (72, 2)) (a := [.inl (((brl (nv (vw m 2)) : Nat) : Int))]) (q := []) hM_161 d_161_83 rfl (by decide +kernel) hM_72 rfl rfl rfl (Nat.le_of_ble_eq_true rfl) (Nat.le_of_ble_eq_true rfl) (Or.inl rfl) (n_72  m (((brl (nv (vw m 2)) : Nat) : Int)) hz2) (Nat.le_of_ble_eq_true rfl) ?_
      show rn fx 2 (0, 0) 161 86 [some (.inr (.inr (some 0))), some (.inl a)] [.inl (((cnt (((brl (nv (vw m 2)) : Nat) : Int)).toNat 12 : Nat) : Int))] (st0 m) o
      exact hk
    exact ok_rt (fun fx _ => rt_i hM_161 d_161_86 rfl) H
  replace H := H.2
  have hc1 := hc
  clear hc
  by_cases hc : am_s a = 2
  · have H := H.1 hc
    refine ok_sg (pc' := 87) (ls' := [some (.inr (.inr (some 0))), some (.inl a)]) (st' := []) (m' := m) (fun fx hfx o hk => ?_) ?_
    · refine r_tsI (pc' := 87) (off := 2) (t := 86) hM_161 d_161_1 (by rw [hc]; rfl) (by decide) rfl (by decide) ?_
      exact hk
    obtain ⟨hz3, H⟩ := H
    obtain ⟨hz4, H⟩ := H
    refine ok_sg (pc' := 98) (ls' := [some (.inr (.inr (some 0))), some (.inl a)]) (st' := [.inl (((cnt (((ons (nv (vw m 2)) (am_s 0) : Nat) : Int)).toNat 12 : Nat) : Int))]) (m' := m) (fun fx hfx o hk => ?_) ?_
    · refine r_ld (pc' := 88) hM_161 d_161_87 rfl rfl ?_
      refine r_gR (pc' := 91) (v := 2) hM_161 d_161_88 rfl (by decide +kernel) ?_
      refine r_k (pc' := 92) (v := .inl 0) hM_161 d_161_91 rfl rfl ?_
      refine r_cl (pc' := 95) (c := (48, 0)) (a := [.inr (.inr (some 2)), .inl 0]) (q := []) hM_161 d_161_92 rfl (by decide +kernel) hM_48 rfl rfl rfl (Nat.le_of_ble_eq_true rfl) (Nat.le_of_ble_eq_true rfl) (Or.inr rfl) (n_48 (by decide) m 0 hz3) (Nat.le_of_ble_eq_true rfl) ?_
      show rn fx 2 (0, 0) 161 95 [some (.inr (.inr (some 0))), some (.inl a)] [.inl (((ons (nv (vw m 2)) (am_s 0) : Nat) : Int))] (st0 m) o
      refine r_cl (pc' := 98) (c := (72, 2)) (a := [.inl (((ons (nv (vw m 2)) (am_s 0) : Nat) : Int))]) (q := []) hM_161 d_161_95 rfl (by decide +kernel) hM_72 rfl rfl rfl (Nat.le_of_ble_eq_true rfl) (Nat.le_of_ble_eq_true rfl) (Or.inl rfl) (n_72  m (((ons (nv (vw m 2)) (am_s 0) : Nat) : Int)) hz4) (Nat.le_of_ble_eq_true rfl) ?_
      show rn fx 2 (0, 0) 161 98 [some (.inr (.inr (some 0))), some (.inl a)] [.inl (((cnt (((ons (nv (vw m 2)) (am_s 0) : Nat) : Int)).toNat 12 : Nat) : Int))] (st0 m) o
      exact hk
    exact ok_rt (fun fx _ => rt_i hM_161 d_161_98 rfl) H
  replace H := H.2
  have hc2 := hc
  clear hc
  by_cases hc : am_s a = 3
  · have H := H.1 hc
    refine ok_sg (pc' := 99) (ls' := [some (.inr (.inr (some 0))), some (.inl a)]) (st' := []) (m' := m) (fun fx hfx o hk => ?_) ?_
    · refine r_tsI (pc' := 99) (off := 3) (t := 98) hM_161 d_161_1 (by rw [hc]; rfl) (by decide) rfl (by decide) ?_
      exact hk
    obtain ⟨hz5, H⟩ := H
    refine ok_sg (pc' := 107) (ls' := [some (.inr (.inr (some 0))), some (.inl a)]) (st' := [.inl (((ons (nv (vw m 2)) (am_s 1) : Nat) : Int))]) (m' := m) (fun fx hfx o hk => ?_) ?_
    · refine r_ld (pc' := 100) hM_161 d_161_99 rfl rfl ?_
      refine r_gR (pc' := 103) (v := 2) hM_161 d_161_100 rfl (by decide +kernel) ?_
      refine r_k (pc' := 104) (v := .inl 1) hM_161 d_161_103 rfl rfl ?_
      refine r_cl (pc' := 107) (c := (48, 0)) (a := [.inr (.inr (some 2)), .inl 1]) (q := []) hM_161 d_161_104 rfl (by decide +kernel) hM_48 rfl rfl rfl (Nat.le_of_ble_eq_true rfl) (Nat.le_of_ble_eq_true rfl) (Or.inr rfl) (n_48 (by decide) m 1 hz5) (Nat.le_of_ble_eq_true rfl) ?_
      show rn fx 2 (0, 0) 161 107 [some (.inr (.inr (some 0))), some (.inl a)] [.inl (((ons (nv (vw m 2)) (am_s 1) : Nat) : Int))] (st0 m) o
      exact hk
    exact ok_rt (fun fx _ => rt_i hM_161 d_161_107 rfl) H
  replace H := H.2
  have hc3 := hc
  clear hc
  by_cases hc : am_s a = 4
  · have H := H.1 hc
    refine ok_sg (pc' := 108) (ls' := [some (.inr (.inr (some 0))), some (.inl a)]) (st' := []) (m' := m) (fun fx hfx o hk => ?_) ?_
    · refine r_tsI (pc' := 108) (off := 4) (t := 107) hM_161 d_161_1 (by rw [hc]; rfl) (by decide) rfl (by decide) ?_
      exact hk
    refine ok_sg (pc' := 115) (ls' := [some (.inr (.inr (some 0))), some (.inl a)]) (st' := [.inl (m 2 11)]) (m' := m) (fun fx hfx o hk => ?_) ?_
    · refine r_ld (pc' := 109) hM_161 d_161_108 rfl rfl ?_
      refine r_gR (pc' := 112) (v := 2) hM_161 d_161_109 rfl (by decide +kernel) ?_
      refine r_gI (pc' := 115) (k0 := 11) hM_161 d_161_112 rfl (by decide +kernel) ?_
      exact hk
    exact ok_rt (fun fx _ => rt_i hM_161 d_161_115 rfl) H
  replace H := H.2
  have hc4 := hc
  clear hc
  by_cases hc : am_s a = 5
  · have H := H.1 hc
    refine ok_sg (pc' := 116) (ls' := [some (.inr (.inr (some 0))), some (.inl a)]) (st' := []) (m' := m) (fun fx hfx o hk => ?_) ?_
    · refine r_tsI (pc' := 116) (off := 5) (t := 115) hM_161 d_161_1 (by rw [hc]; rfl) (by decide) rfl (by decide) ?_
      exact hk
    refine ok_sg (pc' := 123) (ls' := [some (.inr (.inr (some 0))), some (.inl a)]) (st' := [.inl (m 2 7)]) (m' := m) (fun fx hfx o hk => ?_) ?_
    · refine r_ld (pc' := 117) hM_161 d_161_116 rfl rfl ?_
      refine r_gR (pc' := 120) (v := 2) hM_161 d_161_117 rfl (by decide +kernel) ?_
      refine r_gI (pc' := 123) (k0 := 7) hM_161 d_161_120 rfl (by decide +kernel) ?_
      exact hk
    exact ok_rt (fun fx _ => rt_i hM_161 d_161_123 rfl) H
  replace H := H.2
  have hc5 := hc
  clear hc
  by_cases hc : am_s a = 6
  · have H := H.1 hc
    refine ok_sg (pc' := 124) (ls' := [some (.inr (.inr (some 0))), some (.inl a)]) (st' := []) (m' := m) (fun fx hfx o hk => ?_) ?_
    · refine r_tsI (pc' := 124) (off := 6) (t := 123) hM_161 d_161_1 (by rw [hc]; rfl) (by decide) rfl (by decide) ?_
      exact hk
    refine ok_sg (pc' := 131) (ls' := [some (.inr (.inr (some 0))), some (.inl a)]) (st' := [.inl (m 2 8)]) (m' := m) (fun fx hfx o hk => ?_) ?_
    · refine r_ld (pc' := 125) hM_161 d_161_124 rfl rfl ?_
      refine r_gR (pc' := 128) (v := 2) hM_161 d_161_125 rfl (by decide +kernel) ?_
      refine r_gI (pc' := 131) (k0 := 8) hM_161 d_161_128 rfl (by decide +kernel) ?_
      exact hk
    exact ok_rt (fun fx _ => rt_i hM_161 d_161_131 rfl) H
  replace H := H.2
  have hc6 := hc
  clear hc
  by_cases hc : am_s a = 7
  · have H := H.1 hc
    refine ok_sg (pc' := 132) (ls' := [some (.inr (.inr (some 0))), some (.inl a)]) (st' := []) (m' := m) (fun fx hfx o hk => ?_) ?_
    · refine r_tsI (pc' := 132) (off := 7) (t := 131) hM_161 d_161_1 (by rw [hc]; rfl) (by decide) rfl (by decide) ?_
      exact hk
    refine ok_sg (pc' := 139) (ls' := [some (.inr (.inr (some 0))), some (.inl a)]) (st' := [.inl (m 2 9)]) (m' := m) (fun fx hfx o hk => ?_) ?_
    · refine r_ld (pc' := 133) hM_161 d_161_132 rfl rfl ?_
      refine r_gR (pc' := 136) (v := 2) hM_161 d_161_133 rfl (by decide +kernel) ?_
      refine r_gI (pc' := 139) (k0 := 9) hM_161 d_161_136 rfl (by decide +kernel) ?_
      exact hk
    exact ok_rt (fun fx _ => rt_i hM_161 d_161_139 rfl) H
  replace H := H.2
  have hc7 := hc
  clear hc
  by_cases hc : am_s a = 8
  · have H := H.1 hc
    refine ok_sg (pc' := 140) (ls' := [some (.inr (.inr (some 0))), some (.inl a)]) (st' := []) (m' := m) (fun fx hfx o hk => ?_) ?_
    · refine r_tsI (pc' := 140) (off := 8) (t := 139) hM_161 d_161_1 (by rw [hc]; rfl) (by decide) rfl (by decide) ?_
      exact hk
    refine ok_sg (pc' := 144) (ls' := [some (.inr (.inr (some 0))), some (.inl a)]) (st' := [.inl (m 0 1)]) (m' := m) (fun fx hfx o hk => ?_) ?_
    · refine r_ld (pc' := 141) hM_161 d_161_140 rfl rfl ?_
      refine r_gI (pc' := 144) (k0 := 1) hM_161 d_161_141 rfl (by decide +kernel) ?_
      exact hk
    exact ok_rt (fun fx _ => rt_i hM_161 d_161_144 rfl) H
  replace H := H.2
  have hc8 := hc
  clear hc
  by_cases hc : am_s a = 9
  · have H := H.1 hc
    refine ok_sg (pc' := 145) (ls' := [some (.inr (.inr (some 0))), some (.inl a)]) (st' := []) (m' := m) (fun fx hfx o hk => ?_) ?_
    · refine r_tsI (pc' := 145) (off := 9) (t := 144) hM_161 d_161_1 (by rw [hc]; rfl) (by decide) rfl (by decide) ?_
      exact hk
    refine ok_sg (pc' := 152) (ls' := [some (.inr (.inr (some 0))), some (.inl a)]) (st' := [.inl (m 2 10)]) (m' := m) (fun fx hfx o hk => ?_) ?_
    · refine r_ld (pc' := 146) hM_161 d_161_145 rfl rfl ?_
      refine r_gR (pc' := 149) (v := 2) hM_161 d_161_146 rfl (by decide +kernel) ?_
      refine r_gI (pc' := 152) (k0 := 10) hM_161 d_161_149 rfl (by decide +kernel) ?_
      exact hk
    exact ok_rt (fun fx _ => rt_i hM_161 d_161_152 rfl) H
  replace H := H.2
  have hc9 := hc
  clear hc
  by_cases hc : am_s a = 10
  · have H := H.1 hc
    refine ok_sg (pc' := 153) (ls' := [some (.inr (.inr (some 0))), some (.inl a)]) (st' := []) (m' := m) (fun fx hfx o hk => ?_) ?_
    · refine r_tsI (pc' := 153) (off := 10) (t := 152) hM_161 d_161_1 (by rw [hc]; rfl) (by decide) rfl (by decide) ?_
      exact hk
    refine ok_sg (pc' := 160) (ls' := [some (.inr (.inr (some 0))), some (.inl a)]) (st' := [.inl (m 2 5)]) (m' := m) (fun fx hfx o hk => ?_) ?_
    · refine r_ld (pc' := 154) hM_161 d_161_153 rfl rfl ?_
      refine r_gR (pc' := 157) (v := 2) hM_161 d_161_154 rfl (by decide +kernel) ?_
      refine r_gI (pc' := 160) (k0 := 5) hM_161 d_161_157 rfl (by decide +kernel) ?_
      exact hk
    exact ok_rt (fun fx _ => rt_i hM_161 d_161_160 rfl) H
  replace H := H.2
  have hc10 := hc
  clear hc
  by_cases hc : am_s a = 11
  · have H := H.1 hc
    refine ok_sg (pc' := 161) (ls' := [some (.inr (.inr (some 0))), some (.inl a)]) (st' := []) (m' := m) (fun fx hfx o hk => ?_) ?_
    · refine r_tsI (pc' := 161) (off := 11) (t := 160) hM_161 d_161_1 (by rw [hc]; rfl) (by decide) rfl (by decide) ?_
      exact hk
    refine ok_sg (pc' := 168) (ls' := [some (.inr (.inr (some 0))), some (.inl a)]) (st' := [.inl (m 2 6)]) (m' := m) (fun fx hfx o hk => ?_) ?_
    · refine r_ld (pc' := 162) hM_161 d_161_161 rfl rfl ?_
      refine r_gR (pc' := 165) (v := 2) hM_161 d_161_162 rfl (by decide +kernel) ?_
      refine r_gI (pc' := 168) (k0 := 6) hM_161 d_161_165 rfl (by decide +kernel) ?_
      exact hk
    exact ok_rt (fun fx _ => rt_i hM_161 d_161_168 rfl) H
  replace H := H.2
  have hc11 := hc
  clear hc
  by_cases hc : am_s a = 12
  · have H := H.1 hc
    refine ok_sg (pc' := 169) (ls' := [some (.inr (.inr (some 0))), some (.inl a)]) (st' := []) (m' := m) (fun fx hfx o hk => ?_) ?_
    · refine r_tsI (pc' := 169) (off := 12) (t := 168) hM_161 d_161_1 (by rw [hc]; rfl) (by decide) rfl (by decide) ?_
      exact hk
    obtain ⟨hz6, H⟩ := H
    refine ok_sg (pc' := 176) (ls' := [some (.inr (.inr (some 0))), some (.inl a)]) (st' := [.inl ((sm (m (2 + 3)) (m 2 4).toNat))]) (m' := m) (fun fx hfx o hk => ?_) ?_
    · refine r_ld (pc' := 170) hM_161 d_161_169 rfl rfl ?_
      refine r_gR (pc' := 173) (v := 2) hM_161 d_161_170 rfl (by decide +kernel) ?_
      refine r_cl (pc' := 176) (c := (162, 0)) (a := [.inr (.inr (some 2))]) (q := []) hM_161 d_161_173 rfl (by decide +kernel) hM_162 rfl rfl rfl (Nat.le_of_ble_eq_true rfl) (Nat.le_of_ble_eq_true rfl) (Or.inr rfl) (c_162 (by decide) m  hz6) (Nat.le_of_ble_eq_true rfl) ?_
      show rn fx 2 (0, 0) 161 176 [some (.inr (.inr (some 0))), some (.inl a)] [.inl ((sm (m (2 + 3)) (m 2 4).toNat))] (st0 m) o
      exact hk
    exact ok_rt (fun fx _ => rt_i hM_161 d_161_176 rfl) H
  replace H := H.2
  have hc12 := hc
  clear hc
  have ho : am_s a < 0 ∨ 12 < am_s a := by omega
  replace H := H ho
  refine ok_sg (pc' := 177) (ls' := [some (.inr (.inr (some 0))), some (.inl a)]) (st' := []) (m' := m) (fun fx hfx o hk => ?_) ?_
  · refine r_tsO (pc' := 177) hM_161 d_161_1 ho (by decide) ?_
    exact hk
  refine ok_sg (pc' := 178) (ls' := [some (.inr (.inr (some 0))), some (.inl a)]) (st' := [.inl (-1)]) (m' := m) (fun fx hfx o hk => ?_) ?_
  · refine r_k (pc' := 178) (v := .inl (-1)) hM_161 d_161_177 rfl rfl ?_
    exact hk
  exact ok_rt (fun fx _ => rt_i hM_161 d_161_178 rfl) H
theorem u_159_0 {Q : List am_V → am_M → Prop} {m : am_M} {i : Int}  (H : ((am_s i < 0) → Q [.inl (-2)] m) ∧ ((¬ (am_s i < 0)) → ((am_s i < 2) → (0 ≤ am_s i ∧ am_s i < (2 : Nat)) ∧ (((15 + 5 * (am_s i).toNat) ≠ 2) ∧ (Q [.inl 0] (mu (tk m (15 + 5 * (am_s i).toNat) 2) 13 ((am_s i).toNat) (am_b1 1))))) ∧ ((¬ (am_s i < 2)) → Q [.inl (-2)] m))) : ok 2 159 0 [some (.inr (.inr (some 0))), some (.inl i)] [] m Q := by
  refine ok_sg (pc' := 1) (ls' := [some (.inr (.inr (some 0))), some (.inl i)]) (st' := [.inl i]) (m' := m) (fun fx hfx o hk => ?_) ?_
  · refine r_ld (pc' := 1) hM_159 d_159_0 rfl rfl ?_
    exact hk
  refine ok_if (pc' := 9) (pc2 := 4) hM_159 d_159_1 (by decide) rfl (fun hz1 => ?_) (fun hz1 => ?_)
  · have H := H.1 hz1
    refine ok_sg (pc' := 11) (ls' := [some (.inr (.inr (some 0))), some (.inl i)]) (st' := [.inl (-2)]) (m' := m) (fun fx hfx o hk => ?_) ?_
    · refine r_k (pc' := 11) (v := .inl (-2)) hM_159 d_159_9 rfl rfl ?_
      exact hk
    exact ok_rt (fun fx _ => rt_i hM_159 d_159_11 rfl) H
  · have H := H.2 hz1
    refine ok_sg (pc' := 6) (ls' := [some (.inr (.inr (some 0))), some (.inl i)]) (st' := [.inl 2, .inl i]) (m' := m) (fun fx hfx o hk => ?_) ?_
    · refine r_ld (pc' := 5) hM_159 d_159_4 rfl rfl ?_
      refine r_k (pc' := 6) (v := .inl 2) hM_159 d_159_5 rfl rfl ?_
      exact hk
    refine ok_ic (pc' := 12) (pc2 := 9) hM_159 d_159_6 (by decide) rfl (fun hz2 => ?_) (fun hz2 => ?_)
    · have H := H.1 hz2
      obtain ⟨hz3, H⟩ := H
      obtain ⟨hz4, H⟩ := H
      refine ok_sg (pc' := 33) (ls' := [some (.inr (.inr (some 0))), some (.inl i)]) (st' := [.inl 0]) (m' := mu (tk m (15 + 5 * (am_s i).toNat) 2) 13 ((am_s i).toNat) (am_b1 1)) (fun fx hfx o hk => ?_) ?_
      · refine r_ld (pc' := 13) hM_159 d_159_12 rfl rfl ?_
        refine r_gR (pc' := 16) (v := 12) hM_159 d_159_13 rfl (by decide +kernel) ?_
        refine r_ld (pc' := 17) hM_159 d_159_16 rfl rfl ?_
        refine r_aa (pc' := 18) (n := 2) hM_159 d_159_17 rfl rfl (by decide) hz3 (rfPics hz3).1 (shSk (rfPics hz3).2).1 ?_
        refine r_ld (pc' := 19) hM_159 d_159_18 rfl rfl ?_
        refine r_gR (pc' := 22) (v := 2) hM_159 d_159_19 rfl (by decide +kernel) ?_
        refine r_cl (pc' := 25) (c := (37, 0)) (a := [.inr (.inr (some (15 + 5 * (am_s i).toNat))), .inr (.inr (some 2))]) (q := []) hM_159 d_159_22 rfl (by decide +kernel) hM_37 rfl rfl rfl (Nat.le_of_ble_eq_true rfl) (Nat.le_of_ble_eq_true rfl) (Or.inr (rcvS ((rfPics hz3).2) _)) (c_37 ((rfPics hz3).2) (by decide) m  hz4) (Nat.le_of_ble_eq_true rfl) ?_
        show rn fx 2 (0, 0) 159 25 [some (.inr (.inr (some 0))), some (.inl i)] [] (st0 (tk m (15 + 5 * (am_s i).toNat) 2)) o
        refine r_ld (pc' := 26) hM_159 d_159_25 rfl rfl ?_
        refine r_gR (pc' := 29) (v := 13) hM_159 d_159_26 rfl (by decide +kernel) ?_
        refine r_ld (pc' := 30) hM_159 d_159_29 rfl rfl ?_
        refine r_k (pc' := 31) (v := .inl 1) hM_159 d_159_30 rfl rfl ?_
        refine r_zs (pc' := 32) (n := 2) hM_159 d_159_31 rfl rfl hz3 ?_
        refine r_k (pc' := 33) (v := .inl 0) hM_159 d_159_32 rfl rfl ?_
        exact hk
      exact ok_rt (fun fx _ => rt_i hM_159 d_159_33 rfl) H
    · have H := H.2 hz2
      refine ok_sg (pc' := 11) (ls' := [some (.inr (.inr (some 0))), some (.inl i)]) (st' := [.inl (-2)]) (m' := m) (fun fx hfx o hk => ?_) ?_
      · refine r_k (pc' := 11) (v := .inl (-2)) hM_159 d_159_9 rfl rfl ?_
        exact hk
      exact ok_rt (fun fx _ => rt_i hM_159 d_159_11 rfl) H
theorem u_160_0 {Q : List am_V → am_M → Prop} {m : am_M} {i : Int}  (H : ((am_s i < 0) → Q [.inl (-2)] m) ∧ ((¬ (am_s i < 0)) → ((am_s i < 2) → (0 ≤ am_s i ∧ am_s i < (2 : Nat)) ∧ (((¬ am_s (m 13 ((am_s i).toNat)) = 0) → (2 ≠ (15 + 5 * (am_s i).toNat)) ∧ (Q [.inl 0] (tk m 2 (15 + 5 * (am_s i).toNat)))) ∧ ((am_s (m 13 ((am_s i).toNat)) = 0) → Q [.inl (-5)] m))) ∧ ((¬ (am_s i < 2)) → Q [.inl (-2)] m))) : ok 2 160 0 [some (.inr (.inr (some 0))), some (.inl i)] [] m Q := by
  refine ok_sg (pc' := 1) (ls' := [some (.inr (.inr (some 0))), some (.inl i)]) (st' := [.inl i]) (m' := m) (fun fx hfx o hk => ?_) ?_
  · refine r_ld (pc' := 1) hM_160 d_160_0 rfl rfl ?_
    exact hk
  refine ok_if (pc' := 9) (pc2 := 4) hM_160 d_160_1 (by decide) rfl (fun hz1 => ?_) (fun hz1 => ?_)
  · have H := H.1 hz1
    refine ok_sg (pc' := 11) (ls' := [some (.inr (.inr (some 0))), some (.inl i)]) (st' := [.inl (-2)]) (m' := m) (fun fx hfx o hk => ?_) ?_
    · refine r_k (pc' := 11) (v := .inl (-2)) hM_160 d_160_9 rfl rfl ?_
      exact hk
    exact ok_rt (fun fx _ => rt_i hM_160 d_160_11 rfl) H
  · have H := H.2 hz1
    refine ok_sg (pc' := 6) (ls' := [some (.inr (.inr (some 0))), some (.inl i)]) (st' := [.inl 2, .inl i]) (m' := m) (fun fx hfx o hk => ?_) ?_
    · refine r_ld (pc' := 5) hM_160 d_160_4 rfl rfl ?_
      refine r_k (pc' := 6) (v := .inl 2) hM_160 d_160_5 rfl rfl ?_
      exact hk
    refine ok_ic (pc' := 12) (pc2 := 9) hM_160 d_160_6 (by decide) rfl (fun hz2 => ?_) (fun hz2 => ?_)
    · have H := H.1 hz2
      obtain ⟨hz3, H⟩ := H
      refine ok_sg (pc' := 18) (ls' := [some (.inr (.inr (some 0))), some (.inl i)]) (st' := [.inl (m 13 ((am_s i).toNat))]) (m' := m) (fun fx hfx o hk => ?_) ?_
      · refine r_ld (pc' := 13) hM_160 d_160_12 rfl rfl ?_
        refine r_gR (pc' := 16) (v := 13) hM_160 d_160_13 rfl (by decide +kernel) ?_
        refine r_ld (pc' := 17) hM_160 d_160_16 rfl rfl ?_
        refine r_ba (pc' := 18) (n := 2) hM_160 d_160_17 rfl rfl (by decide) hz3 ?_
        exact hk
      refine ok_if (pc' := 24) (pc2 := 21) hM_160 d_160_18 (by decide) rfl (fun hz4 => ?_) (fun hz4 => ?_)
      · have H := H.1 hz4
        obtain ⟨hz5, H⟩ := H
        refine ok_sg (pc' := 38) (ls' := [some (.inr (.inr (some 0))), some (.inl i)]) (st' := [.inl 0]) (m' := tk m 2 (15 + 5 * (am_s i).toNat)) (fun fx hfx o hk => ?_) ?_
        · refine r_ld (pc' := 25) hM_160 d_160_24 rfl rfl ?_
          refine r_gR (pc' := 28) (v := 2) hM_160 d_160_25 rfl (by decide +kernel) ?_
          refine r_ld (pc' := 29) hM_160 d_160_28 rfl rfl ?_
          refine r_gR (pc' := 32) (v := 12) hM_160 d_160_29 rfl (by decide +kernel) ?_
          refine r_ld (pc' := 33) hM_160 d_160_32 rfl rfl ?_
          refine r_aa (pc' := 34) (n := 2) hM_160 d_160_33 rfl rfl (by decide) hz3 (rfPics hz3).1 (shSk (rfPics hz3).2).1 ?_
          refine r_cl (pc' := 37) (c := (37, 0)) (a := [.inr (.inr (some 2)), .inr (.inr (some (15 + 5 * (am_s i).toNat)))]) (q := []) hM_160 d_160_34 rfl (by decide +kernel) hM_37 rfl rfl rfl (Nat.le_of_ble_eq_true rfl) (Nat.le_of_ble_eq_true rfl) (Or.inr rfl) (c_37 (by decide) ((rfPics hz3).2) m  hz5) (Nat.le_of_ble_eq_true rfl) ?_
          show rn fx 2 (0, 0) 160 37 [some (.inr (.inr (some 0))), some (.inl i)] [] (st0 (tk m 2 (15 + 5 * (am_s i).toNat))) o
          refine r_k (pc' := 38) (v := .inl 0) hM_160 d_160_37 rfl rfl ?_
          exact hk
        exact ok_rt (fun fx _ => rt_i hM_160 d_160_38 rfl) H
      · have H := H.2 (Decidable.not_not.mp hz4)
        refine ok_sg (pc' := 23) (ls' := [some (.inr (.inr (some 0))), some (.inl i)]) (st' := [.inl (-5)]) (m' := m) (fun fx hfx o hk => ?_) ?_
        · refine r_k (pc' := 23) (v := .inl (-5)) hM_160 d_160_21 rfl rfl ?_
          exact hk
        exact ok_rt (fun fx _ => rt_i hM_160 d_160_23 rfl) H
    · have H := H.2 hz2
      refine ok_sg (pc' := 11) (ls' := [some (.inr (.inr (some 0))), some (.inl i)]) (st' := [.inl (-2)]) (m' := m) (fun fx hfx o hk => ?_) ?_
      · refine r_k (pc' := 11) (v := .inl (-2)) hM_160 d_160_9 rfl rfl ?_
        exact hk
      exact ok_rt (fun fx _ => rt_i hM_160 d_160_11 rfl) H
theorem u_153_0 {Q : List am_V → am_M → Prop} {m : am_M} {r : Int} {a : Int} {n : Int}  (H : ((¬ (0 ≤ am_s r ∧ am_s r < 4)) → Q [.inl (-2)] m) ∧ ((0 ≤ am_s r ∧ am_s r < 4) → ((am_s a < 0) → Q [.inl (-2)] m) ∧ ((¬ (am_s a < 0)) → ((am_s a ≤ 3) → ((am_s n < 0) → Q [.inl (-3)] m) ∧ ((¬ (am_s n < 0)) → ((am_s n ≤ 40) → (0 ≤ am_s r ∧ am_s r < (4 : Nat)) ∧ (Q [.inl 0] (w_154 m (25 + 2 * (am_s r).toNat) a n))) ∧ ((¬ (am_s n ≤ 40)) → Q [.inl (-3)] m))) ∧ ((¬ (am_s a ≤ 3)) → Q [.inl (-2)] m)))) : ok 2 153 0 [some (.inr (.inr (some 0))), some (.inl r), some (.inl a), some (.inl n)] [] m Q := by
  refine ok_sg (pc' := 4) (ls' := [some (.inr (.inr (some 0))), some (.inl r), some (.inl a), some (.inl n)]) (st' := [.inl ((if 0 ≤ am_s r ∧ am_s r < 4 then 1 else 0))]) (m' := m) (fun fx hfx o hk => ?_) ?_
  · refine r_ld (pc' := 1) hM_153 d_153_0 rfl rfl ?_
    refine r_cl (pc' := 4) (c := (53, 2)) (a := [.inl r]) (q := []) hM_153 d_153_1 rfl (by decide +kernel) hM_53 rfl rfl rfl (Nat.le_of_ble_eq_true rfl) (Nat.le_of_ble_eq_true rfl) (Or.inl rfl) (n_53  m r) (Nat.le_of_ble_eq_true rfl) ?_
    show rn fx 2 (0, 0) 153 4 [some (.inr (.inr (some 0))), some (.inl r), some (.inl a), some (.inl n)] [.inl ((if 0 ≤ am_s r ∧ am_s r < 4 then 1 else 0))] (st0 m) o
    exact hk
  refine ok_if (pc' := 16) (pc2 := 7) hM_153 d_153_4 (by decide) rfl (fun hz1 => ?_) (fun hz1 => ?_)
  · have H := H.1 (as_ite.mp hz1)
    refine ok_sg (pc' := 18) (ls' := [some (.inr (.inr (some 0))), some (.inl r), some (.inl a), some (.inl n)]) (st' := [.inl (-2)]) (m' := m) (fun fx hfx o hk => ?_) ?_
    · refine r_k (pc' := 18) (v := .inl (-2)) hM_153 d_153_16 rfl rfl ?_
      exact hk
    exact ok_rt (fun fx _ => rt_i hM_153 d_153_18 rfl) H
  · have H := H.2 (as_iteN.mp hz1)
    refine ok_sg (pc' := 8) (ls' := [some (.inr (.inr (some 0))), some (.inl r), some (.inl a), some (.inl n)]) (st' := [.inl a]) (m' := m) (fun fx hfx o hk => ?_) ?_
    · refine r_ld (pc' := 8) hM_153 d_153_7 rfl rfl ?_
      exact hk
    refine ok_if (pc' := 16) (pc2 := 11) hM_153 d_153_8 (by decide) rfl (fun hz2 => ?_) (fun hz2 => ?_)
    · have H := H.1 hz2
      refine ok_sg (pc' := 18) (ls' := [some (.inr (.inr (some 0))), some (.inl r), some (.inl a), some (.inl n)]) (st' := [.inl (-2)]) (m' := m) (fun fx hfx o hk => ?_) ?_
      · refine r_k (pc' := 18) (v := .inl (-2)) hM_153 d_153_16 rfl rfl ?_
        exact hk
      exact ok_rt (fun fx _ => rt_i hM_153 d_153_18 rfl) H
    · have H := H.2 hz2
      refine ok_sg (pc' := 13) (ls' := [some (.inr (.inr (some 0))), some (.inl r), some (.inl a), some (.inl n)]) (st' := [.inl 3, .inl a]) (m' := m) (fun fx hfx o hk => ?_) ?_
      · refine r_ld (pc' := 12) hM_153 d_153_11 rfl rfl ?_
        refine r_k (pc' := 13) (v := .inl 3) hM_153 d_153_12 rfl rfl ?_
        exact hk
      refine ok_ic (pc' := 19) (pc2 := 16) hM_153 d_153_13 (by decide) rfl (fun hz3 => ?_) (fun hz3 => ?_)
      · have H := H.1 hz3
        refine ok_sg (pc' := 20) (ls' := [some (.inr (.inr (some 0))), some (.inl r), some (.inl a), some (.inl n)]) (st' := [.inl n]) (m' := m) (fun fx hfx o hk => ?_) ?_
        · refine r_ld (pc' := 20) hM_153 d_153_19 rfl rfl ?_
          exact hk
        refine ok_if (pc' := 29) (pc2 := 23) hM_153 d_153_20 (by decide) rfl (fun hz4 => ?_) (fun hz4 => ?_)
        · have H := H.1 hz4
          refine ok_sg (pc' := 31) (ls' := [some (.inr (.inr (some 0))), some (.inl r), some (.inl a), some (.inl n)]) (st' := [.inl (-3)]) (m' := m) (fun fx hfx o hk => ?_) ?_
          · refine r_k (pc' := 31) (v := .inl (-3)) hM_153 d_153_29 rfl rfl ?_
            exact hk
          exact ok_rt (fun fx _ => rt_i hM_153 d_153_31 rfl) H
        · have H := H.2 hz4
          refine ok_sg (pc' := 26) (ls' := [some (.inr (.inr (some 0))), some (.inl r), some (.inl a), some (.inl n)]) (st' := [.inl 40, .inl n]) (m' := m) (fun fx hfx o hk => ?_) ?_
          · refine r_ld (pc' := 24) hM_153 d_153_23 rfl rfl ?_
            refine r_k (pc' := 26) (v := .inl 40) hM_153 d_153_24 rfl rfl ?_
            exact hk
          refine ok_ic (pc' := 32) (pc2 := 29) hM_153 d_153_26 (by decide) rfl (fun hz5 => ?_) (fun hz5 => ?_)
          · have H := H.1 hz5
            obtain ⟨hz6, H⟩ := H
            refine ok_sg (pc' := 44) (ls' := [some (.inr (.inr (some 0))), some (.inl r), some (.inl a), some (.inl n)]) (st' := [.inl 0]) (m' := w_154 m (25 + 2 * (am_s r).toNat) a n) (fun fx hfx o hk => ?_) ?_
            · refine r_ld (pc' := 33) hM_153 d_153_32 rfl rfl ?_
              refine r_gR (pc' := 36) (v := 14) hM_153 d_153_33 rfl (by decide +kernel) ?_
              refine r_ld (pc' := 37) hM_153 d_153_36 rfl rfl ?_
              refine r_aa (pc' := 38) (n := 4) hM_153 d_153_37 rfl rfl (by decide) hz6 (rfRows hz6).1 (shRk (rfRows hz6).2).1 ?_
              refine r_ld (pc' := 39) hM_153 d_153_38 rfl rfl ?_
              refine r_ld (pc' := 40) hM_153 d_153_39 rfl rfl ?_
              refine r_cl (pc' := 43) (c := (154, 0)) (a := [.inr (.inr (some (25 + 2 * (am_s r).toNat))), .inl a, .inl n]) (q := []) hM_153 d_153_40 rfl (by decide +kernel) hM_154 rfl rfl rfl (Nat.le_of_ble_eq_true rfl) (Nat.le_of_ble_eq_true rfl) (Or.inr (rcvR ((rfRows hz6).2) _)) (c_154 ((rfRows hz6).2) m a n) (Nat.le_of_ble_eq_true rfl) ?_
              show rn fx 2 (0, 0) 153 43 [some (.inr (.inr (some 0))), some (.inl r), some (.inl a), some (.inl n)] [] (st0 (w_154 m (25 + 2 * (am_s r).toNat) a n)) o
              refine r_k (pc' := 44) (v := .inl 0) hM_153 d_153_43 rfl rfl ?_
              exact hk
            exact ok_rt (fun fx _ => rt_i hM_153 d_153_44 rfl) H
          · have H := H.2 hz5
            refine ok_sg (pc' := 31) (ls' := [some (.inr (.inr (some 0))), some (.inl r), some (.inl a), some (.inl n)]) (st' := [.inl (-3)]) (m' := m) (fun fx hfx o hk => ?_) ?_
            · refine r_k (pc' := 31) (v := .inl (-3)) hM_153 d_153_29 rfl rfl ?_
              exact hk
            exact ok_rt (fun fx _ => rt_i hM_153 d_153_31 rfl) H
      · have H := H.2 hz3
        refine ok_sg (pc' := 18) (ls' := [some (.inr (.inr (some 0))), some (.inl r), some (.inl a), some (.inl n)]) (st' := [.inl (-2)]) (m' := m) (fun fx hfx o hk => ?_) ?_
        · refine r_k (pc' := 18) (v := .inl (-2)) hM_153 d_153_16 rfl rfl ?_
          exact hk
        exact ok_rt (fun fx _ => rt_i hM_153 d_153_18 rfl) H
theorem u_156_0 {Q : List am_V → am_M → Prop} {m : am_M} {r : Int} {i : Int} {v : Int}  (H : (RWS m) ∧ (((am_s ((rfu m (am_s r))) = 0) → ((am_s i < 0) → Q [.inr (.inl (-7))] m) ∧ ((¬ (am_s i < 0)) → (0 ≤ am_s r ∧ am_s r < (4 : Nat)) ∧ (((am_s i < am_s (m (25 + 2 * (am_s r).toNat) 2)) → (q_157 m (25 + 2 * (am_s r).toNat) i v) ∧ ((RWC (w_157 m (25 + 2 * (am_s r).toNat) i v) (25 + 2 * (am_s r).toNat)) ∧ (Q [.inr (.inl ((rat (w_157 m (25 + 2 * (am_s r).toNat) i v) (25 + 2 * (am_s r).toNat) (am_s i))))] (w_157 m (25 + 2 * (am_s r).toNat) i v)))) ∧ ((¬ (am_s i < am_s (m (25 + 2 * (am_s r).toNat) 2))) → Q [.inr (.inl (-7))] m)))) ∧ ((¬ (am_s ((rfu m (am_s r))) = 0)) → Q [.inr (.inl (am_s ((rfu m (am_s r)))))] m))) : ok 2 156 0 [some (.inr (.inr (some 0))), some (.inl r), some (.inl i), some (.inr (.inl v)), none, none] [] m Q := by
  obtain ⟨hz1, H⟩ := H
  refine ok_sg (pc' := 9) (ls' := [some (.inr (.inr (some 0))), some (.inl r), some (.inl i), some (.inr (.inl v)), none, some (.inl ((rfu m (am_s r))))]) (st' := [.inl ((rfu m (am_s r)))]) (m' := m) (fun fx hfx o hk => ?_) ?_
  · refine r_ld (pc' := 1) hM_156 d_156_0 rfl rfl ?_
    refine r_ld (pc' := 2) hM_156 d_156_1 rfl rfl ?_
    refine r_cl (pc' := 5) (c := (59, 0)) (a := [.inr (.inr (some 0)), .inl r]) (q := []) hM_156 d_156_2 rfl (by decide +kernel) hM_59 rfl rfl rfl (Nat.le_of_ble_eq_true rfl) (Nat.le_of_ble_eq_true rfl) (Or.inr rfl) (n_59  m r hz1) (Nat.le_of_ble_eq_true rfl) ?_
    show rn fx 2 (0, 0) 156 5 [some (.inr (.inr (some 0))), some (.inl r), some (.inl i), some (.inr (.inl v)), none, none] [.inl ((rfu m (am_s r)))] (st0 m) o
    refine r_sto (pc' := 7) (ls' := [some (.inr (.inr (some 0))), some (.inl r), some (.inl i), some (.inr (.inl v)), none, some (.inl ((rfu m (am_s r))))]) hM_156 d_156_5 rfl rfl ?_
    refine r_ld (pc' := 9) hM_156 d_156_7 rfl rfl ?_
    exact hk
  refine ok_if (pc' := 16) (pc2 := 12) hM_156 d_156_9 (by decide) rfl (fun hz2 => ?_) (fun hz2 => ?_)
  · have H := H.1 hz2
    refine ok_sg (pc' := 17) (ls' := [some (.inr (.inr (some 0))), some (.inl r), some (.inl i), some (.inr (.inl v)), none, some (.inl ((rfu m (am_s r))))]) (st' := [.inl i]) (m' := m) (fun fx hfx o hk => ?_) ?_
    · refine r_ld (pc' := 17) hM_156 d_156_16 rfl rfl ?_
      exact hk
    refine ok_if (pc' := 33) (pc2 := 20) hM_156 d_156_17 (by decide) rfl (fun hz3 => ?_) (fun hz3 => ?_)
    · have H := H.1 hz3
      refine ok_sg (pc' := 36) (ls' := [some (.inr (.inr (some 0))), some (.inl r), some (.inl i), some (.inr (.inl v)), none, some (.inl ((rfu m (am_s r))))]) (st' := [.inr (.inl (-7))]) (m' := m) (fun fx hfx o hk => ?_) ?_
      · refine r_k (pc' := 36) (v := .inr (.inl (-7))) hM_156 d_156_33 rfl (by decide +kernel) ?_
        exact hk
      exact ok_rt (fun fx _ => rt_l hM_156 d_156_36 rfl) H
    · have H := H.2 hz3
      obtain ⟨hz4, H⟩ := H
      refine ok_sg (pc' := 30) (ls' := [some (.inr (.inr (some 0))), some (.inl r), some (.inl i), some (.inr (.inl v)), none, some (.inl ((rfu m (am_s r))))]) (st' := [.inl (m (25 + 2 * (am_s r).toNat) 2), .inl i]) (m' := m) (fun fx hfx o hk => ?_) ?_
      · refine r_ld (pc' := 21) hM_156 d_156_20 rfl rfl ?_
        refine r_ld (pc' := 22) hM_156 d_156_21 rfl rfl ?_
        refine r_gR (pc' := 25) (v := 14) hM_156 d_156_22 rfl (by decide +kernel) ?_
        refine r_ld (pc' := 26) hM_156 d_156_25 rfl rfl ?_
        refine r_aa (pc' := 27) (n := 4) hM_156 d_156_26 rfl rfl (by decide) hz4 (rfRows hz4).1 (shRk (rfRows hz4).2).1 ?_
        refine r_gI (pc' := 30) (k0 := 2) hM_156 d_156_27 rfl (gfR_1_144 ((rfRows hz4).2)) ?_
        exact hk
      refine ok_ic (pc' := 37) (pc2 := 33) hM_156 d_156_30 (by decide) rfl (fun hz5 => ?_) (fun hz5 => ?_)
      · have H := H.1 hz5
        obtain ⟨hz6, H⟩ := H
        obtain ⟨hz7, H⟩ := H
        refine ok_sg (pc' := 58) (ls' := [some (.inr (.inr (some 0))), some (.inl r), some (.inl i), some (.inr (.inl v)), none, some (.inl ((rfu m (am_s r))))]) (st' := [.inr (.inl ((rat (w_157 m (25 + 2 * (am_s r).toNat) i v) (25 + 2 * (am_s r).toNat) (am_s i))))]) (m' := w_157 m (25 + 2 * (am_s r).toNat) i v) (fun fx hfx o hk => ?_) ?_
        · refine r_ld (pc' := 38) hM_156 d_156_37 rfl rfl ?_
          refine r_gR (pc' := 41) (v := 14) hM_156 d_156_38 rfl (by decide +kernel) ?_
          refine r_ld (pc' := 42) hM_156 d_156_41 rfl rfl ?_
          refine r_aa (pc' := 43) (n := 4) hM_156 d_156_42 rfl rfl (by decide) hz4 (rfRows hz4).1 (shRk (rfRows hz4).2).1 ?_
          refine r_ld (pc' := 44) hM_156 d_156_43 rfl rfl ?_
          refine r_ld (pc' := 45) hM_156 d_156_44 rfl rfl ?_
          refine r_cl (pc' := 48) (c := (157, 0)) (a := [.inr (.inr (some (25 + 2 * (am_s r).toNat))), .inl i, .inr (.inl v)]) (q := []) hM_156 d_156_45 rfl (by decide +kernel) hM_157 rfl rfl rfl (Nat.le_of_ble_eq_true rfl) (Nat.le_of_ble_eq_true rfl) (Or.inr (rcvR ((rfRows hz4).2) _)) (c_157 ((rfRows hz4).2) m i v hz6) (Nat.le_of_ble_eq_true rfl) ?_
          show rn fx 2 (0, 0) 156 48 [some (.inr (.inr (some 0))), some (.inl r), some (.inl i), some (.inr (.inl v)), none, some (.inl ((rfu m (am_s r))))] [] (st0 (w_157 m (25 + 2 * (am_s r).toNat) i v)) o
          refine r_ld (pc' := 49) hM_156 d_156_48 rfl rfl ?_
          refine r_gR (pc' := 52) (v := 14) hM_156 d_156_49 rfl (by decide +kernel) ?_
          refine r_ld (pc' := 53) hM_156 d_156_52 rfl rfl ?_
          refine r_aa (pc' := 54) (n := 4) hM_156 d_156_53 rfl rfl (by decide) hz4 (rfRows hz4).1 (shRk (rfRows hz4).2).1 ?_
          refine r_ld (pc' := 55) hM_156 d_156_54 rfl rfl ?_
          refine r_cl (pc' := 58) (c := (56, 0)) (a := [.inr (.inr (some (25 + 2 * (am_s r).toNat))), .inl i]) (q := []) hM_156 d_156_55 rfl (by decide +kernel) hM_56 rfl rfl rfl (Nat.le_of_ble_eq_true rfl) (Nat.le_of_ble_eq_true rfl) (Or.inr (rcvR ((rfRows hz4).2) _)) (n_56 ((rfRows hz4).2) (w_157 m (25 + 2 * (am_s r).toNat) i v) i hz7) (Nat.le_of_ble_eq_true rfl) ?_
          show rn fx 2 (0, 0) 156 58 [some (.inr (.inr (some 0))), some (.inl r), some (.inl i), some (.inr (.inl v)), none, some (.inl ((rfu m (am_s r))))] [.inr (.inl ((rat (w_157 m (25 + 2 * (am_s r).toNat) i v) (25 + 2 * (am_s r).toNat) (am_s i))))] (st0 (w_157 m (25 + 2 * (am_s r).toNat) i v)) o
          exact hk
        exact ok_rt (fun fx _ => rt_l hM_156 d_156_58 rfl) H
      · have H := H.2 hz5
        refine ok_sg (pc' := 36) (ls' := [some (.inr (.inr (some 0))), some (.inl r), some (.inl i), some (.inr (.inl v)), none, some (.inl ((rfu m (am_s r))))]) (st' := [.inr (.inl (-7))]) (m' := m) (fun fx hfx o hk => ?_) ?_
        · refine r_k (pc' := 36) (v := .inr (.inl (-7))) hM_156 d_156_33 rfl (by decide +kernel) ?_
          exact hk
        exact ok_rt (fun fx _ => rt_l hM_156 d_156_36 rfl) H
  · have H := H.2 hz2
    refine ok_sg (pc' := 15) (ls' := [some (.inr (.inr (some 0))), some (.inl r), some (.inl i), some (.inr (.inl v)), none, some (.inl ((rfu m (am_s r))))]) (st' := [.inr (.inl (am_s ((rfu m (am_s r)))))]) (m' := m) (fun fx hfx o hk => ?_) ?_
    · refine r_ld (pc' := 14) hM_156 d_156_12 rfl rfl ?_
      refine r_stk (pc' := 15) (st' := [.inr (.inl (am_s ((rfu m (am_s r)))))]) hM_156 d_156_14 rfl rfl ?_
      exact hk
    exact ok_rt (fun fx _ => rt_l hM_156 d_156_15 rfl) H
theorem u_255_20 {Q : List am_V → am_M → Prop} {m : am_M} {i : Int} {k : Int}  (H : ((56 ≤ am_s k) → (0 ≤ am_s i ∧ am_s i < (2 : Nat)) ∧ (Q [.inl 0] (mu m 55 ((am_s i).toNat) (am_b1 1)))) ∧ ((¬ (56 ≤ am_s k)) → (0 ≤ am_s k ∧ am_s k < (168 : Nat)) ∧ ((0 ≤ am_s ((56 * (i + 1)) + k) ∧ am_s ((56 * (i + 1)) + k) < (168 : Nat)) ∧ (ok 1 255 20 [some (.inr (.inr (some 53))), some (.inl i), some (.inl (k + 1))] [] (mu m 54 ((am_s ((56 * (i + 1)) + k)).toNat) (m 54 ((am_s k).toNat))) Q)))) : ok 1 255 20 [some (.inr (.inr (some 53))), some (.inl i), some (.inl k)] [] m Q := by
  refine ok_sg (pc' := 23) (ls' := [some (.inr (.inr (some 53))), some (.inl i), some (.inl k)]) (st' := [.inl 56, .inl k]) (m' := m) (fun fx hfx o hk => ?_) ?_
  · refine r_ld (pc' := 21) hM_255 d_255_20 rfl rfl ?_
    refine r_k (pc' := 23) (v := .inl 56) hM_255 d_255_21 rfl rfl ?_
    exact hk
  refine ok_ic (pc' := 51) (pc2 := 26) hM_255 d_255_23 (by decide) rfl (fun hz1 => ?_) (fun hz1 => ?_)
  · have H := H.1 hz1
    obtain ⟨hz2, H⟩ := H
    refine ok_sg (pc' := 59) (ls' := [some (.inr (.inr (some 53))), some (.inl i), some (.inl k)]) (st' := [.inl 0]) (m' := mu m 55 ((am_s i).toNat) (am_b1 1)) (fun fx hfx o hk => ?_) ?_
    · refine r_ld (pc' := 52) hM_255 d_255_51 rfl rfl ?_
      refine r_gR (pc' := 55) (v := 55) hM_255 d_255_52 rfl (by decide +kernel) ?_
      refine r_ld (pc' := 56) hM_255 d_255_55 rfl rfl ?_
      refine r_k (pc' := 57) (v := .inl 1) hM_255 d_255_56 rfl rfl ?_
      refine r_zs (pc' := 58) (n := 2) hM_255 d_255_57 rfl rfl hz2 ?_
      refine r_k (pc' := 59) (v := .inl 0) hM_255 d_255_58 rfl rfl ?_
      exact hk
    exact ok_rt (fun fx _ => rt_i hM_255 d_255_59 rfl) H
  · have H := H.2 hz1
    obtain ⟨hz3, H⟩ := H
    obtain ⟨hz4, H⟩ := H
    refine ok_sg (pc' := 20) (ls' := [some (.inr (.inr (some 53))), some (.inl i), some (.inl (k + 1))]) (st' := []) (m' := mu m 54 ((am_s ((56 * (i + 1)) + k)).toNat) (m 54 ((am_s k).toNat))) (fun fx hfx o hk => ?_) ?_
    · refine r_ld (pc' := 27) hM_255 d_255_26 rfl rfl ?_
      refine r_gR (pc' := 30) (v := 54) hM_255 d_255_27 rfl (by decide +kernel) ?_
      refine r_k (pc' := 32) (v := .inl 56) hM_255 d_255_30 rfl rfl ?_
      refine r_ld (pc' := 33) hM_255 d_255_32 rfl rfl ?_
      refine r_k (pc' := 34) (v := .inl 1) hM_255 d_255_33 rfl rfl ?_
      refine r_b (pc' := 35) (z := (i + 1)) hM_255 d_255_34 rfl rfl ?_
      refine r_b (pc' := 36) (z := (56 * (i + 1))) hM_255 d_255_35 rfl rfl ?_
      refine r_ld (pc' := 37) hM_255 d_255_36 rfl rfl ?_
      refine r_b (pc' := 38) (z := ((56 * (i + 1)) + k)) hM_255 d_255_37 rfl rfl ?_
      refine r_ld (pc' := 39) hM_255 d_255_38 rfl rfl ?_
      refine r_gR (pc' := 42) (v := 54) hM_255 d_255_39 rfl (by decide +kernel) ?_
      refine r_ld (pc' := 43) hM_255 d_255_42 rfl rfl ?_
      refine r_ia (pc' := 44) (n := 168) hM_255 d_255_43 rfl rfl hz3 ?_
      refine r_is (pc' := 45) (n := 168) hM_255 d_255_44 rfl rfl hz4 ?_
      refine r_sto (pc' := 48) (ls' := [some (.inr (.inr (some 53))), some (.inl i), some (.inl (k + 1))]) hM_255 d_255_45 rfl rfl ?_
      refine r_go (pc' := 20) hM_255 d_255_48 (by decide) ?_
      exact hk
    exact H
theorem u_255_0 {Q : List am_V → am_M → Prop} {m : am_M} {i : Int}  (H : ((0 ≤ am_s i ∧ am_s i ≤ 1) → ok 1 255 20 [some (.inr (.inr (some 53))), some (.inl i), some (.inl 0)] [] (mu m 53 0 0) Q) ∧ ((¬ (0 ≤ am_s i ∧ am_s i ≤ 1)) → Q [.inl (-2)] (mu m 53 0 0))) : ok 1 255 0 [some (.inr (.inr (some 53))), some (.inl i), none] [] m Q := by
  refine ok_sg (pc' := 12) (ls' := [some (.inr (.inr (some 53))), some (.inl i), none]) (st' := [.inl (if 0 ≤ am_s i ∧ am_s i ≤ 1 then 1 else 0)]) (m' := mu m 53 0 0) (fun fx hfx o hk => ?_) ?_
  · refine r_ld (pc' := 1) hM_255 d_255_0 rfl rfl ?_
    refine r_k (pc' := 2) (v := .inl 0) hM_255 d_255_1 rfl rfl ?_
    refine r_pI (pc' := 5) (k0 := 0) hM_255 d_255_2 rfl (by decide +kernel) ?_
    refine r_ld (pc' := 6) hM_255 d_255_5 rfl rfl ?_
    refine r_stk (pc' := 7) (st' := [.inr (.inl (am_s i))]) hM_255 d_255_6 rfl rfl ?_
    refine r_k (pc' := 8) (v := .inr (.inl 0)) hM_255 d_255_7 rfl rfl ?_
    refine r_k (pc' := 9) (v := .inr (.inl 1)) hM_255 d_255_8 rfl rfl ?_
    refine r_cl (pc' := 12) (c := (167, 2)) (a := [.inr (.inl (am_s i)), .inr (.inl 0), .inr (.inl 1)]) (q := []) hM_255 d_255_9 rfl (by decide +kernel) hM_167 rfl rfl rfl (Nat.le_of_ble_eq_true rfl) (Nat.le_of_ble_eq_true rfl) (Or.inl rfl) (n_167s (mu m 53 0 0) i 0 1 rfl rfl) (Nat.le_of_ble_eq_true rfl) ?_
    show rn fx 1 (0, 0) 255 12 [some (.inr (.inr (some 53))), some (.inl i), none] [.inl (if 0 ≤ am_s i ∧ am_s i ≤ 1 then 1 else 0)] (st0 (mu m 53 0 0)) o
    exact hk
  refine ok_if (pc' := 18) (pc2 := 15) hM_255 d_255_12 (by decide) rfl (fun hz1 => ?_) (fun hz1 => ?_)
  · have H := H.1 (as_iteN.mp hz1)
    refine ok_sg (pc' := 20) (ls' := [some (.inr (.inr (some 53))), some (.inl i), some (.inl 0)]) (st' := []) (m' := mu m 53 0 0) (fun fx hfx o hk => ?_) ?_
    · refine r_k (pc' := 19) (v := .inl 0) hM_255 d_255_18 rfl rfl ?_
      refine r_sto (pc' := 20) (ls' := [some (.inr (.inr (some 53))), some (.inl i), some (.inl 0)]) hM_255 d_255_19 rfl rfl ?_
      exact hk
    exact H
  · have H := H.2 (as_ite.mp (Decidable.not_not.mp hz1))
    refine ok_sg (pc' := 17) (ls' := [some (.inr (.inr (some 53))), some (.inl i), none]) (st' := [.inl (-2)]) (m' := mu m 53 0 0) (fun fx hfx o hk => ?_) ?_
    · refine r_k (pc' := 17) (v := .inl (-2)) hM_255 d_255_15 rfl rfl ?_
      exact hk
    exact ok_rt (fun fx _ => rt_i hM_255 d_255_17 rfl) H
theorem u_256_32 {Q : List am_V → am_M → Prop} {m : am_M} {i : Int} {k : Int}  (H : ((56 ≤ am_s k) → Q [.inl 0] m) ∧ ((¬ (56 ≤ am_s k)) → (0 ≤ am_s ((56 * (i + 1)) + k) ∧ am_s ((56 * (i + 1)) + k) < (168 : Nat)) ∧ ((0 ≤ am_s k ∧ am_s k < (168 : Nat)) ∧ (ok 1 256 32 [some (.inr (.inr (some 53))), some (.inl i), some (.inl (k + 1))] [] (mu m 54 ((am_s k).toNat) (m 54 ((am_s ((56 * (i + 1)) + k)).toNat))) Q)))) : ok 1 256 32 [some (.inr (.inr (some 53))), some (.inl i), some (.inl k)] [] m Q := by
  refine ok_sg (pc' := 35) (ls' := [some (.inr (.inr (some 53))), some (.inl i), some (.inl k)]) (st' := [.inl 56, .inl k]) (m' := m) (fun fx hfx o hk => ?_) ?_
  · refine r_ld (pc' := 33) hM_256 d_256_32 rfl rfl ?_
    refine r_k (pc' := 35) (v := .inl 56) hM_256 d_256_33 rfl rfl ?_
    exact hk
  refine ok_ic (pc' := 63) (pc2 := 38) hM_256 d_256_35 (by decide) rfl (fun hz1 => ?_) (fun hz1 => ?_)
  · have H := H.1 hz1
    refine ok_sg (pc' := 64) (ls' := [some (.inr (.inr (some 53))), some (.inl i), some (.inl k)]) (st' := [.inl 0]) (m' := m) (fun fx hfx o hk => ?_) ?_
    · refine r_k (pc' := 64) (v := .inl 0) hM_256 d_256_63 rfl rfl ?_
      exact hk
    exact ok_rt (fun fx _ => rt_i hM_256 d_256_64 rfl) H
  · have H := H.2 hz1
    obtain ⟨hz2, H⟩ := H
    obtain ⟨hz3, H⟩ := H
    refine ok_sg (pc' := 32) (ls' := [some (.inr (.inr (some 53))), some (.inl i), some (.inl (k + 1))]) (st' := []) (m' := mu m 54 ((am_s k).toNat) (m 54 ((am_s ((56 * (i + 1)) + k)).toNat))) (fun fx hfx o hk => ?_) ?_
    · refine r_ld (pc' := 39) hM_256 d_256_38 rfl rfl ?_
      refine r_gR (pc' := 42) (v := 54) hM_256 d_256_39 rfl (by decide +kernel) ?_
      refine r_ld (pc' := 43) hM_256 d_256_42 rfl rfl ?_
      refine r_ld (pc' := 44) hM_256 d_256_43 rfl rfl ?_
      refine r_gR (pc' := 47) (v := 54) hM_256 d_256_44 rfl (by decide +kernel) ?_
      refine r_k (pc' := 49) (v := .inl 56) hM_256 d_256_47 rfl rfl ?_
      refine r_ld (pc' := 50) hM_256 d_256_49 rfl rfl ?_
      refine r_k (pc' := 51) (v := .inl 1) hM_256 d_256_50 rfl rfl ?_
      refine r_b (pc' := 52) (z := (i + 1)) hM_256 d_256_51 rfl rfl ?_
      refine r_b (pc' := 53) (z := (56 * (i + 1))) hM_256 d_256_52 rfl rfl ?_
      refine r_ld (pc' := 54) hM_256 d_256_53 rfl rfl ?_
      refine r_b (pc' := 55) (z := ((56 * (i + 1)) + k)) hM_256 d_256_54 rfl rfl ?_
      refine r_ia (pc' := 56) (n := 168) hM_256 d_256_55 rfl rfl hz2 ?_
      refine r_is (pc' := 57) (n := 168) hM_256 d_256_56 rfl rfl hz3 ?_
      refine r_sto (pc' := 60) (ls' := [some (.inr (.inr (some 53))), some (.inl i), some (.inl (k + 1))]) hM_256 d_256_57 rfl rfl ?_
      refine r_go (pc' := 32) hM_256 d_256_60 (by decide) ?_
      exact hk
    exact H
theorem u_256_0 {Q : List am_V → am_M → Prop} {m : am_M} {i : Int}  (H : ((0 ≤ am_s i ∧ am_s i ≤ 1) → (0 ≤ am_s i ∧ am_s i < (2 : Nat)) ∧ (((¬ am_s (m 55 ((am_s i).toNat)) = 0) → ok 1 256 32 [some (.inr (.inr (some 53))), some (.inl i), some (.inl 0)] [] (mu m 53 0 0) Q) ∧ ((am_s (m 55 ((am_s i).toNat)) = 0) → Q [.inl (-5)] (mu m 53 0 0)))) ∧ ((¬ (0 ≤ am_s i ∧ am_s i ≤ 1)) → Q [.inl (-2)] (mu m 53 0 0))) : ok 1 256 0 [some (.inr (.inr (some 53))), some (.inl i), none] [] m Q := by
  refine ok_sg (pc' := 12) (ls' := [some (.inr (.inr (some 53))), some (.inl i), none]) (st' := [.inl (if 0 ≤ am_s i ∧ am_s i ≤ 1 then 1 else 0)]) (m' := mu m 53 0 0) (fun fx hfx o hk => ?_) ?_
  · refine r_ld (pc' := 1) hM_256 d_256_0 rfl rfl ?_
    refine r_k (pc' := 2) (v := .inl 0) hM_256 d_256_1 rfl rfl ?_
    refine r_pI (pc' := 5) (k0 := 0) hM_256 d_256_2 rfl (by decide +kernel) ?_
    refine r_ld (pc' := 6) hM_256 d_256_5 rfl rfl ?_
    refine r_stk (pc' := 7) (st' := [.inr (.inl (am_s i))]) hM_256 d_256_6 rfl rfl ?_
    refine r_k (pc' := 8) (v := .inr (.inl 0)) hM_256 d_256_7 rfl rfl ?_
    refine r_k (pc' := 9) (v := .inr (.inl 1)) hM_256 d_256_8 rfl rfl ?_
    refine r_cl (pc' := 12) (c := (167, 2)) (a := [.inr (.inl (am_s i)), .inr (.inl 0), .inr (.inl 1)]) (q := []) hM_256 d_256_9 rfl (by decide +kernel) hM_167 rfl rfl rfl (Nat.le_of_ble_eq_true rfl) (Nat.le_of_ble_eq_true rfl) (Or.inl rfl) (n_167s (mu m 53 0 0) i 0 1 rfl rfl) (Nat.le_of_ble_eq_true rfl) ?_
    show rn fx 1 (0, 0) 256 12 [some (.inr (.inr (some 53))), some (.inl i), none] [.inl (if 0 ≤ am_s i ∧ am_s i ≤ 1 then 1 else 0)] (st0 (mu m 53 0 0)) o
    exact hk
  refine ok_if (pc' := 18) (pc2 := 15) hM_256 d_256_12 (by decide) rfl (fun hz1 => ?_) (fun hz1 => ?_)
  · have H := H.1 (as_iteN.mp hz1)
    obtain ⟨hz2, H⟩ := H
    refine ok_sg (pc' := 24) (ls' := [some (.inr (.inr (some 53))), some (.inl i), none]) (st' := [.inl (m 55 ((am_s i).toNat))]) (m' := mu m 53 0 0) (fun fx hfx o hk => ?_) ?_
    · refine r_ld (pc' := 19) hM_256 d_256_18 rfl rfl ?_
      refine r_gR (pc' := 22) (v := 55) hM_256 d_256_19 rfl (by decide +kernel) ?_
      refine r_ld (pc' := 23) hM_256 d_256_22 rfl rfl ?_
      refine r_bae (pc' := 24) (n := 2) (z := (m 55 ((am_s i).toNat))) hM_256 d_256_23 rfl rfl (by decide) hz2 (mu_r (by decide)) ?_
      exact hk
    refine ok_if (pc' := 30) (pc2 := 27) hM_256 d_256_24 (by decide) rfl (fun hz3 => ?_) (fun hz3 => ?_)
    · have H := H.1 hz3
      refine ok_sg (pc' := 32) (ls' := [some (.inr (.inr (some 53))), some (.inl i), some (.inl 0)]) (st' := []) (m' := mu m 53 0 0) (fun fx hfx o hk => ?_) ?_
      · refine r_k (pc' := 31) (v := .inl 0) hM_256 d_256_30 rfl rfl ?_
        refine r_sto (pc' := 32) (ls' := [some (.inr (.inr (some 53))), some (.inl i), some (.inl 0)]) hM_256 d_256_31 rfl rfl ?_
        exact hk
      exact H
    · have H := H.2 (Decidable.not_not.mp hz3)
      refine ok_sg (pc' := 29) (ls' := [some (.inr (.inr (some 53))), some (.inl i), none]) (st' := [.inl (-5)]) (m' := mu m 53 0 0) (fun fx hfx o hk => ?_) ?_
      · refine r_k (pc' := 29) (v := .inl (-5)) hM_256 d_256_27 rfl rfl ?_
        exact hk
      exact ok_rt (fun fx _ => rt_i hM_256 d_256_29 rfl) H
  · have H := H.2 (as_ite.mp (Decidable.not_not.mp hz1))
    refine ok_sg (pc' := 17) (ls' := [some (.inr (.inr (some 53))), some (.inl i), none]) (st' := [.inl (-2)]) (m' := mu m 53 0 0) (fun fx hfx o hk => ?_) ?_
    · refine r_k (pc' := 17) (v := .inl (-2)) hM_256 d_256_15 rfl rfl ?_
      exact hk
    exact ok_rt (fun fx _ => rt_i hM_256 d_256_17 rfl) H
theorem u_251_64 {Q : List am_V → am_M → Prop} {m : am_M} {r : Int} {a : Int} {n : Int} {k : Int}  (H : ((am_s n ≤ am_s k) → Q [.inl 0] m) ∧ ((¬ (am_s n ≤ am_s k)) → (0 ≤ am_s ((40 * r) + k) ∧ am_s ((40 * r) + k) < (160 : Nat)) ∧ (ok 1 251 64 [some (.inr (.inr (some 53))), some (.inl r), some (.inl a), some (.inl n), some (.inl (k + 1))] [] (mu m 75 ((am_s ((40 * r) + k)).toNat) 0) Q))) : ok 1 251 64 [some (.inr (.inr (some 53))), some (.inl r), some (.inl a), some (.inl n), some (.inl k)] [] m Q := by
  refine ok_sg (pc' := 67) (ls' := [some (.inr (.inr (some 53))), some (.inl r), some (.inl a), some (.inl n), some (.inl k)]) (st' := [.inl n, .inl k]) (m' := m) (fun fx hfx o hk => ?_) ?_
  · refine r_ld (pc' := 66) hM_251 d_251_64 rfl rfl ?_
    refine r_ld (pc' := 67) hM_251 d_251_66 rfl rfl ?_
    exact hk
  refine ok_ic (pc' := 89) (pc2 := 70) hM_251 d_251_67 (by decide) rfl (fun hz1 => ?_) (fun hz1 => ?_)
  · have H := H.1 hz1
    refine ok_sg (pc' := 90) (ls' := [some (.inr (.inr (some 53))), some (.inl r), some (.inl a), some (.inl n), some (.inl k)]) (st' := [.inl 0]) (m' := m) (fun fx hfx o hk => ?_) ?_
    · refine r_k (pc' := 90) (v := .inl 0) hM_251 d_251_89 rfl rfl ?_
      exact hk
    exact ok_rt (fun fx _ => rt_i hM_251 d_251_90 rfl) H
  · have H := H.2 hz1
    obtain ⟨hz2, H⟩ := H
    refine ok_sg (pc' := 64) (ls' := [some (.inr (.inr (some 53))), some (.inl r), some (.inl a), some (.inl n), some (.inl (k + 1))]) (st' := []) (m' := mu m 75 ((am_s ((40 * r) + k)).toNat) 0) (fun fx hfx o hk => ?_) ?_
    · refine r_ld (pc' := 71) hM_251 d_251_70 rfl rfl ?_
      refine r_gR (pc' := 74) (v := 75) hM_251 d_251_71 rfl (by decide +kernel) ?_
      refine r_k (pc' := 76) (v := .inl 40) hM_251 d_251_74 rfl rfl ?_
      refine r_ld (pc' := 77) hM_251 d_251_76 rfl rfl ?_
      refine r_b (pc' := 78) (z := (40 * r)) hM_251 d_251_77 rfl rfl ?_
      refine r_ld (pc' := 80) hM_251 d_251_78 rfl rfl ?_
      refine r_b (pc' := 81) (z := ((40 * r) + k)) hM_251 d_251_80 rfl rfl ?_
      refine r_k (pc' := 82) (v := .inr (.inl 0)) hM_251 d_251_81 rfl rfl ?_
      refine r_ls (pc' := 83) (n := 160) hM_251 d_251_82 rfl rfl hz2 ?_
      refine r_sto (pc' := 86) (ls' := [some (.inr (.inr (some 53))), some (.inl r), some (.inl a), some (.inl n), some (.inl (k + 1))]) hM_251 d_251_83 rfl rfl ?_
      refine r_go (pc' := 64) hM_251 d_251_86 (by decide) ?_
      exact hk
    exact H
theorem u_251_0 {Q : List am_V → am_M → Prop} {m : am_M} {r : Int} {a : Int} {n : Int}  (H : ((¬ (0 ≤ am_s r ∧ am_s r ≤ 3)) → Q [.inl (-2)] (mu m 53 0 0)) ∧ ((0 ≤ am_s r ∧ am_s r ≤ 3) → ((0 ≤ am_s a ∧ am_s a ≤ 3) → ((0 ≤ am_s n ∧ am_s n ≤ 40) → (0 ≤ am_s r ∧ am_s r < (4 : Nat)) ∧ (ok 1 251 64 [some (.inr (.inr (some 53))), some (.inl r), some (.inl a), some (.inl n), some (.inl 0)] [] (mu (mu (mu m 53 0 0) 73 ((am_s r).toNat) a) 74 ((am_s r).toNat) n) Q)) ∧ ((¬ (0 ≤ am_s n ∧ am_s n ≤ 40)) → Q [.inl (-3)] (mu m 53 0 0))) ∧ ((¬ (0 ≤ am_s a ∧ am_s a ≤ 3)) → Q [.inl (-2)] (mu m 53 0 0)))) : ok 1 251 0 [some (.inr (.inr (some 53))), some (.inl r), some (.inl a), some (.inl n), none] [] m Q := by
  refine ok_sg (pc' := 14) (ls' := [some (.inr (.inr (some 53))), some (.inl r), some (.inl a), some (.inl n), none]) (st' := [.inl (if 0 ≤ am_s r ∧ am_s r ≤ 3 then 1 else 0)]) (m' := mu m 53 0 0) (fun fx hfx o hk => ?_) ?_
  · refine r_ld (pc' := 1) hM_251 d_251_0 rfl rfl ?_
    refine r_k (pc' := 2) (v := .inl 0) hM_251 d_251_1 rfl rfl ?_
    refine r_pI (pc' := 5) (k0 := 0) hM_251 d_251_2 rfl (by decide +kernel) ?_
    refine r_ld (pc' := 6) hM_251 d_251_5 rfl rfl ?_
    refine r_stk (pc' := 7) (st' := [.inr (.inl (am_s r))]) hM_251 d_251_6 rfl rfl ?_
    refine r_k (pc' := 8) (v := .inr (.inl 0)) hM_251 d_251_7 rfl rfl ?_
    refine r_k (pc' := 11) (v := .inr (.inl 3)) hM_251 d_251_8 rfl (by decide +kernel) ?_
    refine r_cl (pc' := 14) (c := (167, 2)) (a := [.inr (.inl (am_s r)), .inr (.inl 0), .inr (.inl 3)]) (q := []) hM_251 d_251_11 rfl (by decide +kernel) hM_167 rfl rfl rfl (Nat.le_of_ble_eq_true rfl) (Nat.le_of_ble_eq_true rfl) (Or.inl rfl) (n_167s (mu m 53 0 0) r 0 3 rfl rfl) (Nat.le_of_ble_eq_true rfl) ?_
    show rn fx 1 (0, 0) 251 14 [some (.inr (.inr (some 53))), some (.inl r), some (.inl a), some (.inl n), none] [.inl (if 0 ≤ am_s r ∧ am_s r ≤ 3 then 1 else 0)] (st0 (mu m 53 0 0)) o
    exact hk
  refine ok_if (pc' := 29) (pc2 := 17) hM_251 d_251_14 (by decide) rfl (fun hz1 => ?_) (fun hz1 => ?_)
  · have H := H.1 (as_ite.mp hz1)
    refine ok_sg (pc' := 31) (ls' := [some (.inr (.inr (some 53))), some (.inl r), some (.inl a), some (.inl n), none]) (st' := [.inl (-2)]) (m' := mu m 53 0 0) (fun fx hfx o hk => ?_) ?_
    · refine r_k (pc' := 31) (v := .inl (-2)) hM_251 d_251_29 rfl rfl ?_
      exact hk
    exact ok_rt (fun fx _ => rt_i hM_251 d_251_31 rfl) H
  · have H := H.2 (as_iteN.mp hz1)
    refine ok_sg (pc' := 26) (ls' := [some (.inr (.inr (some 53))), some (.inl r), some (.inl a), some (.inl n), none]) (st' := [.inl (if 0 ≤ am_s a ∧ am_s a ≤ 3 then 1 else 0)]) (m' := mu m 53 0 0) (fun fx hfx o hk => ?_) ?_
    · refine r_ld (pc' := 18) hM_251 d_251_17 rfl rfl ?_
      refine r_stk (pc' := 19) (st' := [.inr (.inl (am_s a))]) hM_251 d_251_18 rfl rfl ?_
      refine r_k (pc' := 20) (v := .inr (.inl 0)) hM_251 d_251_19 rfl rfl ?_
      refine r_k (pc' := 23) (v := .inr (.inl 3)) hM_251 d_251_20 rfl (by decide +kernel) ?_
      refine r_cl (pc' := 26) (c := (167, 2)) (a := [.inr (.inl (am_s a)), .inr (.inl 0), .inr (.inl 3)]) (q := []) hM_251 d_251_23 rfl (by decide +kernel) hM_167 rfl rfl rfl (Nat.le_of_ble_eq_true rfl) (Nat.le_of_ble_eq_true rfl) (Or.inl rfl) (n_167s (mu m 53 0 0) a 0 3 rfl rfl) (Nat.le_of_ble_eq_true rfl) ?_
      show rn fx 1 (0, 0) 251 26 [some (.inr (.inr (some 53))), some (.inl r), some (.inl a), some (.inl n), none] [.inl (if 0 ≤ am_s a ∧ am_s a ≤ 3 then 1 else 0)] (st0 (mu m 53 0 0)) o
      exact hk
    refine ok_if (pc' := 32) (pc2 := 29) hM_251 d_251_26 (by decide) rfl (fun hz2 => ?_) (fun hz2 => ?_)
    · have H := H.1 (as_iteN.mp hz2)
      refine ok_sg (pc' := 41) (ls' := [some (.inr (.inr (some 53))), some (.inl r), some (.inl a), some (.inl n), none]) (st' := [.inl (if 0 ≤ am_s n ∧ am_s n ≤ 40 then 1 else 0)]) (m' := mu m 53 0 0) (fun fx hfx o hk => ?_) ?_
      · refine r_ld (pc' := 33) hM_251 d_251_32 rfl rfl ?_
        refine r_stk (pc' := 34) (st' := [.inr (.inl (am_s n))]) hM_251 d_251_33 rfl rfl ?_
        refine r_k (pc' := 35) (v := .inr (.inl 0)) hM_251 d_251_34 rfl rfl ?_
        refine r_k (pc' := 38) (v := .inr (.inl 40)) hM_251 d_251_35 rfl (by decide +kernel) ?_
        refine r_cl (pc' := 41) (c := (167, 2)) (a := [.inr (.inl (am_s n)), .inr (.inl 0), .inr (.inl 40)]) (q := []) hM_251 d_251_38 rfl (by decide +kernel) hM_167 rfl rfl rfl (Nat.le_of_ble_eq_true rfl) (Nat.le_of_ble_eq_true rfl) (Or.inl rfl) (n_167s (mu m 53 0 0) n 0 40 rfl rfl) (Nat.le_of_ble_eq_true rfl) ?_
        show rn fx 1 (0, 0) 251 41 [some (.inr (.inr (some 53))), some (.inl r), some (.inl a), some (.inl n), none] [.inl (if 0 ≤ am_s n ∧ am_s n ≤ 40 then 1 else 0)] (st0 (mu m 53 0 0)) o
        exact hk
      refine ok_if (pc' := 47) (pc2 := 44) hM_251 d_251_41 (by decide) rfl (fun hz3 => ?_) (fun hz3 => ?_)
      · have H := H.1 (as_iteN.mp hz3)
        obtain ⟨hz4, H⟩ := H
        refine ok_sg (pc' := 64) (ls' := [some (.inr (.inr (some 53))), some (.inl r), some (.inl a), some (.inl n), some (.inl 0)]) (st' := []) (m' := mu (mu (mu m 53 0 0) 73 ((am_s r).toNat) a) 74 ((am_s r).toNat) n) (fun fx hfx o hk => ?_) ?_
        · refine r_ld (pc' := 48) hM_251 d_251_47 rfl rfl ?_
          refine r_gR (pc' := 51) (v := 73) hM_251 d_251_48 rfl (by decide +kernel) ?_
          refine r_ld (pc' := 52) hM_251 d_251_51 rfl rfl ?_
          refine r_ld (pc' := 53) hM_251 d_251_52 rfl rfl ?_
          refine r_is (pc' := 54) (n := 4) hM_251 d_251_53 rfl rfl hz4 ?_
          refine r_ld (pc' := 55) hM_251 d_251_54 rfl rfl ?_
          refine r_gR (pc' := 58) (v := 74) hM_251 d_251_55 rfl (by decide +kernel) ?_
          refine r_ld (pc' := 59) hM_251 d_251_58 rfl rfl ?_
          refine r_ld (pc' := 60) hM_251 d_251_59 rfl rfl ?_
          refine r_is (pc' := 61) (n := 4) hM_251 d_251_60 rfl rfl hz4 ?_
          refine r_k (pc' := 62) (v := .inl 0) hM_251 d_251_61 rfl rfl ?_
          refine r_sto (pc' := 64) (ls' := [some (.inr (.inr (some 53))), some (.inl r), some (.inl a), some (.inl n), some (.inl 0)]) hM_251 d_251_62 rfl rfl ?_
          exact hk
        exact H
      · have H := H.2 (as_ite.mp (Decidable.not_not.mp hz3))
        refine ok_sg (pc' := 46) (ls' := [some (.inr (.inr (some 53))), some (.inl r), some (.inl a), some (.inl n), none]) (st' := [.inl (-3)]) (m' := mu m 53 0 0) (fun fx hfx o hk => ?_) ?_
        · refine r_k (pc' := 46) (v := .inl (-3)) hM_251 d_251_44 rfl rfl ?_
          exact hk
        exact ok_rt (fun fx _ => rt_i hM_251 d_251_46 rfl) H
    · have H := H.2 (as_ite.mp (Decidable.not_not.mp hz2))
      refine ok_sg (pc' := 31) (ls' := [some (.inr (.inr (some 53))), some (.inl r), some (.inl a), some (.inl n), none]) (st' := [.inl (-2)]) (m' := mu m 53 0 0) (fun fx hfx o hk => ?_) ?_
      · refine r_k (pc' := 31) (v := .inl (-2)) hM_251 d_251_29 rfl rfl ?_
        exact hk
      exact ok_rt (fun fx _ => rt_i hM_251 d_251_31 rfl) H
theorem t_253_0 {fx : am_X0} {o : List am_V × am_S} {m : am_M} {v : Int} {a : Int}  (H : ∀ y1 : Int, y1 = (if ¬ am_s a = 0 then (if ¬ am_s a = am_s 1 then (if ¬ am_s a = am_s 2 then v else (am_s v)) else (am_s (am_b16 v))) else (am_s (am_b8 v))) → o = ([.inr (.inl y1)], st0 m)) : rn fx 0 (0, 0) 253 0 [some (.inr (.inl v)), none, some (.inl a)] [] (st0 m) o := by
  refine r_ld (pc' := 1) hM_253 d_253_0 rfl rfl ?_
  have K : ∀ y1 : Int, y1 = (if ¬ am_s a = 0 then (if ¬ am_s a = am_s 1 then (if ¬ am_s a = am_s 2 then v else (am_s v)) else (am_s (am_b16 v))) else (am_s (am_b8 v))) → rn fx 0 (0, 0) 253 35 [some (.inr (.inl v)), none, some (.inl a)] [.inr (.inl y1)] (st0 m) o := by
    intro y1 hy1
    replace H := H y1 hy1
    subst H
    exact rt_l hM_253 d_253_35 rfl
  replace K := K _ rfl
  clear H
  refine r_if (pc' := 11) (pc2 := 4) hM_253 d_253_1 (by decide) rfl (fun hz1 => ?_) (fun hz1 => ?_)
  · have hz1 : ¬ am_s a = 0 := hz1
    rw [if_pos hz1] at K
    refine r_ld (pc' := 12) hM_253 d_253_11 rfl rfl ?_
    refine r_k (pc' := 13) (v := .inl 1) hM_253 d_253_12 rfl rfl ?_
    refine r_ic (pc' := 23) (pc2 := 16) hM_253 d_253_13 (by decide) rfl (fun hz2 => ?_) (fun hz2 => ?_)
    · have hz2 : ¬ am_s a = am_s 1 := hz2
      rw [if_pos hz2] at K
      refine r_ld (pc' := 24) hM_253 d_253_23 rfl rfl ?_
      refine r_k (pc' := 25) (v := .inl 2) hM_253 d_253_24 rfl rfl ?_
      refine r_ic (pc' := 34) (pc2 := 28) hM_253 d_253_25 (by decide) rfl (fun hz3 => ?_) (fun hz3 => ?_)
      · have hz3 : ¬ am_s a = am_s 2 := hz3
        rw [if_pos hz3] at K
        refine r_ld (pc' := 35) hM_253 d_253_34 rfl rfl ?_
        exact K
      · have hz3 : ¬ (¬ am_s a = am_s 2) := hz3
        rw [if_neg hz3] at K
        refine r_ld (pc' := 29) hM_253 d_253_28 rfl rfl ?_
        refine r_stk (pc' := 30) (st' := [.inl v]) hM_253 d_253_29 rfl rfl ?_
        refine r_stk (pc' := 31) (st' := [.inr (.inl (am_s v))]) hM_253 d_253_30 rfl rfl ?_
        refine r_go (pc' := 35) hM_253 d_253_31 (by decide) ?_
        exact K
    · have hz2 : ¬ (¬ am_s a = am_s 1) := hz2
      rw [if_neg hz2] at K
      refine r_ld (pc' := 17) hM_253 d_253_16 rfl rfl ?_
      refine r_stk (pc' := 18) (st' := [.inl v]) hM_253 d_253_17 rfl rfl ?_
      refine r_stk (pc' := 19) (st' := [.inl (am_b16 v)]) hM_253 d_253_18 rfl rfl ?_
      refine r_stk (pc' := 20) (st' := [.inr (.inl (am_s (am_b16 v)))]) hM_253 d_253_19 rfl rfl ?_
      refine r_go (pc' := 35) hM_253 d_253_20 (by decide) ?_
      exact K
  · have hz1 : ¬ (¬ am_s a = 0) := hz1
    rw [if_neg hz1] at K
    refine r_ld (pc' := 5) hM_253 d_253_4 rfl rfl ?_
    refine r_stk (pc' := 6) (st' := [.inl v]) hM_253 d_253_5 rfl rfl ?_
    refine r_stk (pc' := 7) (st' := [.inl (am_b8 v)]) hM_253 d_253_6 rfl rfl ?_
    refine r_stk (pc' := 8) (st' := [.inr (.inl (am_s (am_b8 v)))]) hM_253 d_253_7 rfl rfl ?_
    refine r_go (pc' := 35) hM_253 d_253_8 (by decide) ?_
    exact K
def v_253 (m : am_M) (v : Int) (a : Int) : Int := (if ¬ am_s a = 0 then (if ¬ am_s a = am_s 1 then (if ¬ am_s a = am_s 2 then v else (am_s v)) else (am_s (am_b16 v))) else (am_s (am_b8 v)))
/-- HeardBarrelsModel.cut -/
theorem c_253 {fx : am_X0}   (m : am_M) (v : Int) (a : Int)  : rn fx 0 (0, 0) 253 0 (am_ent 3 [.inr (.inl v), .inl a]) [] (st0 m) ([.inr (.inl (v_253 m v a))], st0 m) := by
  show rn fx 0 (0, 0) 253 0 [some (.inr (.inl v)), none, some (.inl a)] [] (st0 m) _
  refine t_253_0  ?_
  intro y1 hy1
  subst hy1
  simp only [v_253]
theorem u_252_0 {Q : List am_V → am_M → Prop} {m : am_M} {r : Int} {i : Int} {v : Int}  (H : ((0 ≤ am_s r ∧ am_s r ≤ 3) → (0 ≤ am_s r ∧ am_s r < (4 : Nat)) ∧ (((¬ am_s (m 73 ((am_s r).toNat)) = (-1)) → ((am_t 0 ≤ am_t (am_s i) ∧ am_t (am_s i) ≤ am_t (am_s ((m 74 ((am_s r).toNat)) - 1))) → (0 ≤ am_s ((40 * r) + i) ∧ am_s ((40 * r) + i) < (160 : Nat)) ∧ (Q [.inr (.inl (v_253 (mu m 53 0 0) v (m 73 ((am_s r).toNat))))] (mu (mu m 53 0 0) 75 ((am_s ((40 * r) + i)).toNat) (v_253 (mu m 53 0 0) v (m 73 ((am_s r).toNat)))))) ∧ ((¬ (am_t 0 ≤ am_t (am_s i) ∧ am_t (am_s i) ≤ am_t (am_s ((m 74 ((am_s r).toNat)) - 1)))) → Q [.inr (.inl (-7))] (mu m 53 0 0))) ∧ ((am_s (m 73 ((am_s r).toNat)) = (-1)) → Q [.inr (.inl (-6))] (mu m 53 0 0)))) ∧ ((¬ (0 ≤ am_s r ∧ am_s r ≤ 3)) → Q [.inr (.inl (-2))] (mu m 53 0 0))) : ok 1 252 0 [some (.inr (.inr (some 53))), some (.inl r), some (.inl i), some (.inr (.inl v)), none] [] m Q := by
  refine ok_sg (pc' := 14) (ls' := [some (.inr (.inr (some 53))), some (.inl r), some (.inl i), some (.inr (.inl v)), none]) (st' := [.inl (if 0 ≤ am_s r ∧ am_s r ≤ 3 then 1 else 0)]) (m' := mu m 53 0 0) (fun fx hfx o hk => ?_) ?_
  · refine r_ld (pc' := 1) hM_252 d_252_0 rfl rfl ?_
    refine r_k (pc' := 2) (v := .inl 0) hM_252 d_252_1 rfl rfl ?_
    refine r_pI (pc' := 5) (k0 := 0) hM_252 d_252_2 rfl (by decide +kernel) ?_
    refine r_ld (pc' := 6) hM_252 d_252_5 rfl rfl ?_
    refine r_stk (pc' := 7) (st' := [.inr (.inl (am_s r))]) hM_252 d_252_6 rfl rfl ?_
    refine r_k (pc' := 8) (v := .inr (.inl 0)) hM_252 d_252_7 rfl rfl ?_
    refine r_k (pc' := 11) (v := .inr (.inl 3)) hM_252 d_252_8 rfl (by decide +kernel) ?_
    refine r_cl (pc' := 14) (c := (167, 2)) (a := [.inr (.inl (am_s r)), .inr (.inl 0), .inr (.inl 3)]) (q := []) hM_252 d_252_11 rfl (by decide +kernel) hM_167 rfl rfl rfl (Nat.le_of_ble_eq_true rfl) (Nat.le_of_ble_eq_true rfl) (Or.inl rfl) (n_167s (mu m 53 0 0) r 0 3 rfl rfl) (Nat.le_of_ble_eq_true rfl) ?_
    show rn fx 1 (0, 0) 252 14 [some (.inr (.inr (some 53))), some (.inl r), some (.inl i), some (.inr (.inl v)), none] [.inl (if 0 ≤ am_s r ∧ am_s r ≤ 3 then 1 else 0)] (st0 (mu m 53 0 0)) o
    exact hk
  refine ok_if (pc' := 21) (pc2 := 17) hM_252 d_252_14 (by decide) rfl (fun hz1 => ?_) (fun hz1 => ?_)
  · have H := H.1 (as_iteN.mp hz1)
    obtain ⟨hz2, H⟩ := H
    refine ok_sg (pc' := 28) (ls' := [some (.inr (.inr (some 53))), some (.inl r), some (.inl i), some (.inr (.inl v)), none]) (st' := [.inl (-1), .inl (m 73 ((am_s r).toNat))]) (m' := mu m 53 0 0) (fun fx hfx o hk => ?_) ?_
    · refine r_ld (pc' := 22) hM_252 d_252_21 rfl rfl ?_
      refine r_gR (pc' := 25) (v := 73) hM_252 d_252_22 rfl (by decide +kernel) ?_
      refine r_ld (pc' := 26) hM_252 d_252_25 rfl rfl ?_
      refine r_iae (pc' := 27) (n := 4) (z := (m 73 ((am_s r).toNat))) hM_252 d_252_26 rfl rfl hz2 (mu_r (by decide)) ?_
      refine r_k (pc' := 28) (v := .inl (-1)) hM_252 d_252_27 rfl rfl ?_
      exact hk
    refine ok_ic (pc' := 35) (pc2 := 31) hM_252 d_252_28 (by decide) rfl (fun hz3 => ?_) (fun hz3 => ?_)
    · have H := H.1 hz3
      refine ok_sg (pc' := 50) (ls' := [some (.inr (.inr (some 53))), some (.inl r), some (.inl i), some (.inr (.inl v)), none]) (st' := [.inl ((if am_t 0 ≤ am_t (am_s i) ∧ am_t (am_s i) ≤ am_t (am_s ((m 74 ((am_s r).toNat)) - 1)) then 1 else 0))]) (m' := mu m 53 0 0) (fun fx hfx o hk => ?_) ?_
      · refine r_ld (pc' := 36) hM_252 d_252_35 rfl rfl ?_
        refine r_stk (pc' := 37) (st' := [.inr (.inl (am_s i))]) hM_252 d_252_36 rfl rfl ?_
        refine r_k (pc' := 38) (v := .inr (.inl 0)) hM_252 d_252_37 rfl rfl ?_
        refine r_ld (pc' := 39) hM_252 d_252_38 rfl rfl ?_
        refine r_gR (pc' := 42) (v := 74) hM_252 d_252_39 rfl (by decide +kernel) ?_
        refine r_ld (pc' := 43) hM_252 d_252_42 rfl rfl ?_
        refine r_iae (pc' := 44) (n := 4) (z := (m 74 ((am_s r).toNat))) hM_252 d_252_43 rfl rfl hz2 (mu_r (by decide)) ?_
        refine r_k (pc' := 45) (v := .inl 1) hM_252 d_252_44 rfl rfl ?_
        refine r_b (pc' := 46) (z := ((m 74 ((am_s r).toNat)) - 1)) hM_252 d_252_45 rfl rfl ?_
        refine r_stk (pc' := 47) (st' := [.inr (.inl (am_s ((m 74 ((am_s r).toNat)) - 1))), .inr (.inl 0), .inr (.inl (am_s i))]) hM_252 d_252_46 rfl rfl ?_
        refine r_cl (pc' := 50) (c := (167, 2)) (a := [.inr (.inl (am_s i)), .inr (.inl 0), .inr (.inl (am_s ((m 74 ((am_s r).toNat)) - 1)))]) (q := []) hM_252 d_252_47 rfl (by decide +kernel) hM_167 rfl rfl rfl (Nat.le_of_ble_eq_true rfl) (Nat.le_of_ble_eq_true rfl) (Or.inl rfl) (n_167  (mu m 53 0 0) (am_s i) 0 (am_s ((m 74 ((am_s r).toNat)) - 1))) (Nat.le_of_ble_eq_true rfl) ?_
        show rn fx 1 (0, 0) 252 50 [some (.inr (.inr (some 53))), some (.inl r), some (.inl i), some (.inr (.inl v)), none] [.inl ((if am_t 0 ≤ am_t (am_s i) ∧ am_t (am_s i) ≤ am_t (am_s ((m 74 ((am_s r).toNat)) - 1)) then 1 else 0))] (st0 (mu m 53 0 0)) o
        exact hk
      refine ok_if (pc' := 57) (pc2 := 53) hM_252 d_252_50 (by decide) rfl (fun hz4 => ?_) (fun hz4 => ?_)
      · have H := H.1 (as_iteN.mp hz4)
        obtain ⟨hz5, H⟩ := H
        refine ok_sg (pc' := 89) (ls' := [some (.inr (.inr (some 53))), some (.inl r), some (.inl i), some (.inr (.inl v)), none]) (st' := [.inr (.inl (v_253 (mu m 53 0 0) v (m 73 ((am_s r).toNat))))]) (m' := mu (mu m 53 0 0) 75 ((am_s ((40 * r) + i)).toNat) (v_253 (mu m 53 0 0) v (m 73 ((am_s r).toNat)))) (fun fx hfx o hk => ?_) ?_
        · refine r_ld (pc' := 58) hM_252 d_252_57 rfl rfl ?_
          refine r_gR (pc' := 61) (v := 75) hM_252 d_252_58 rfl (by decide +kernel) ?_
          refine r_k (pc' := 63) (v := .inl 40) hM_252 d_252_61 rfl rfl ?_
          refine r_ld (pc' := 64) hM_252 d_252_63 rfl rfl ?_
          refine r_b (pc' := 65) (z := (40 * r)) hM_252 d_252_64 rfl rfl ?_
          refine r_ld (pc' := 66) hM_252 d_252_65 rfl rfl ?_
          refine r_b (pc' := 67) (z := ((40 * r) + i)) hM_252 d_252_66 rfl rfl ?_
          refine r_ld (pc' := 68) hM_252 d_252_67 rfl rfl ?_
          refine r_ld (pc' := 69) hM_252 d_252_68 rfl rfl ?_
          refine r_gR (pc' := 72) (v := 73) hM_252 d_252_69 rfl (by decide +kernel) ?_
          refine r_ld (pc' := 73) hM_252 d_252_72 rfl rfl ?_
          refine r_iae (pc' := 74) (n := 4) (z := (m 73 ((am_s r).toNat))) hM_252 d_252_73 rfl rfl hz2 (mu_r (by decide)) ?_
          refine r_cl (pc' := 77) (c := (253, 2)) (a := [.inr (.inl v), .inl (m 73 ((am_s r).toNat))]) (q := [.inl ((40 * r) + i), .inr (.inr (some 75))]) hM_252 d_252_74 rfl (by decide +kernel) hM_253 rfl rfl rfl (Nat.le_of_ble_eq_true rfl) (Nat.le_of_ble_eq_true rfl) (Or.inl rfl) (c_253  (mu m 53 0 0) v (m 73 ((am_s r).toNat))) (Nat.le_of_ble_eq_true rfl) ?_
          show rn fx 1 (0, 0) 252 77 [some (.inr (.inr (some 53))), some (.inl r), some (.inl i), some (.inr (.inl v)), none] [.inr (.inl (v_253 (mu m 53 0 0) v (m 73 ((am_s r).toNat)))), .inl ((40 * r) + i), .inr (.inr (some 75))] (st0 (mu m 53 0 0)) o
          refine r_ls (pc' := 78) (n := 160) hM_252 d_252_77 rfl rfl hz5 ?_
          refine r_ld (pc' := 79) hM_252 d_252_78 rfl rfl ?_
          refine r_gR (pc' := 82) (v := 75) hM_252 d_252_79 rfl (by decide +kernel) ?_
          refine r_k (pc' := 84) (v := .inl 40) hM_252 d_252_82 rfl rfl ?_
          refine r_ld (pc' := 85) hM_252 d_252_84 rfl rfl ?_
          refine r_b (pc' := 86) (z := (40 * r)) hM_252 d_252_85 rfl rfl ?_
          refine r_ld (pc' := 87) hM_252 d_252_86 rfl rfl ?_
          refine r_b (pc' := 88) (z := ((40 * r) + i)) hM_252 d_252_87 rfl rfl ?_
          refine r_lae (pc' := 89) (n := 160) (z := (v_253 (mu m 53 0 0) v (m 73 ((am_s r).toNat)))) hM_252 d_252_88 rfl rfl hz5 (mu_same) ?_
          exact hk
        exact ok_rt (fun fx _ => rt_l hM_252 d_252_89 rfl) H
      · have H := H.2 (as_ite.mp (Decidable.not_not.mp hz4))
        refine ok_sg (pc' := 56) (ls' := [some (.inr (.inr (some 53))), some (.inl r), some (.inl i), some (.inr (.inl v)), none]) (st' := [.inr (.inl (-7))]) (m' := mu m 53 0 0) (fun fx hfx o hk => ?_) ?_
        · refine r_k (pc' := 56) (v := .inr (.inl (-7))) hM_252 d_252_53 rfl (by decide +kernel) ?_
          exact hk
        exact ok_rt (fun fx _ => rt_l hM_252 d_252_56 rfl) H
    · have H := H.2 (Decidable.not_not.mp hz3)
      refine ok_sg (pc' := 34) (ls' := [some (.inr (.inr (some 53))), some (.inl r), some (.inl i), some (.inr (.inl v)), none]) (st' := [.inr (.inl (-6))]) (m' := mu m 53 0 0) (fun fx hfx o hk => ?_) ?_
      · refine r_k (pc' := 34) (v := .inr (.inl (-6))) hM_252 d_252_31 rfl (by decide +kernel) ?_
        exact hk
      exact ok_rt (fun fx _ => rt_l hM_252 d_252_34 rfl) H
  · have H := H.2 (as_ite.mp (Decidable.not_not.mp hz1))
    refine ok_sg (pc' := 20) (ls' := [some (.inr (.inr (some 53))), some (.inl r), some (.inl i), some (.inr (.inl v)), none]) (st' := [.inr (.inl (-2))]) (m' := mu m 53 0 0) (fun fx hfx o hk => ?_) ?_
    · refine r_k (pc' := 20) (v := .inr (.inl (-2))) hM_252 d_252_17 rfl (by decide +kernel) ?_
      exact hk
    exact ok_rt (fun fx _ => rt_l hM_252 d_252_20 rfl) H
theorem z_258   (m : am_M)  (hq : WFG (m 54)) : ok 0 258 0 (am_ent 3 [.inr (.inr (some 53))]) [] m (fun rr m' => rr = [.inl ((sm (fun p => m 54 (32 + p)) (m 54 0).toNat))] ∧ m' = m) := by
  show ok 0 258 0 [some (.inr (.inr (some 53))), none, none] [] m _
  refine u_258_0 ?_
  have hN := hq.1
  refine ok_for (σ := Unit) (fun i _ => [some (.inr (.inr (some 53))), some (.inl (sm (fun p => m 54 (32 + p)) i)), some (.inl (i : Int))]) (fun _ _ M => M = m) (m 54 0).toNat ?_ ?_ () m rfl
  · rintro i hi - M rfl IH
    refine u_258_4 ?_
    have e1 : am_s (32 + (i : Int)) = 32 + (i : Int) := am_s_id (by omega) (by omega)
    have e2 : (32 + (i : Int)).toNat = 32 + i := by omega
    rw [am_s_id (z := M 54 0) (by omega) (by omega), am_s_id (z := (i : Int)) (by omega) (by omega), e1, e2]
    exact ⟨fun q => by omega, fun _ => ⟨by omega, IH () M rfl⟩⟩
  · rintro - M rfl
    refine u_258_4 ?_
    rw [am_s_id (z := M 54 0) (by omega) (by omega), am_s_id (by omega) (by omega)]
    exact ⟨fun _ => ⟨rfl, rfl⟩, fun q => by omega⟩
theorem u_257_0 {Q : List am_V → am_M → Prop} {m : am_M} {a : Int}  (H : ((am_s a = 0) → Q [.inl (m 54 0)] (mu m 53 0 0)) ∧ (((am_s a = 1) → (WFG ((mu m 53 0 0) 54)) ∧ ((0 ≤ (am_s (((brl (nv ((mu m 53 0 0) 54)) : Nat) : Int))) ∧ (am_s (((brl (nv ((mu m 53 0 0) 54)) : Nat) : Int))) < 2147483648) ∧ (Q [.inl (((cnt (am_s (((brl (nv ((mu m 53 0 0) 54)) : Nat) : Int))).toNat 12 : Nat) : Int))] (mu m 53 0 0)))) ∧ (((am_s a = 2) → (WFG ((mu m 53 0 0) 54)) ∧ ((0 ≤ (am_s (((ons (nv ((mu m 53 0 0) 54)) (am_s 0) : Nat) : Int))) ∧ (am_s (((ons (nv ((mu m 53 0 0) 54)) (am_s 0) : Nat) : Int))) < 2147483648) ∧ (Q [.inl (((cnt (am_s (((ons (nv ((mu m 53 0 0) 54)) (am_s 0) : Nat) : Int))).toNat 12 : Nat) : Int))] (mu m 53 0 0)))) ∧ (((am_s a = 3) → (WFG ((mu m 53 0 0) 54)) ∧ (Q [.inl (((ons (nv ((mu m 53 0 0) 54)) (am_s 1) : Nat) : Int))] (mu m 53 0 0))) ∧ (((am_s a = 4) → Q [.inl (m 54 1)] (mu m 53 0 0)) ∧ (((am_s a = 5) → Q [.inl (m 54 4)] (mu m 53 0 0)) ∧ (((am_s a = 6) → Q [.inl (m 54 5)] (mu m 53 0 0)) ∧ (((am_s a = 7) → Q [.inl (m 54 6)] (mu m 53 0 0)) ∧ (((am_s a = 8) → Q [.inl (m 53 5)] (mu m 53 0 0)) ∧ (((am_s a = 9) → Q [.inl (m 54 7)] (mu m 53 0 0)) ∧ (((am_s a = 10) → Q [.inl (m 54 2)] (mu m 53 0 0)) ∧ (((am_s a = 11) → Q [.inl (m 54 3)] (mu m 53 0 0)) ∧ (((am_s a = 12) → (WFG ((mu m 53 0 0) 54)) ∧ (∀ (m1 : am_M), (m1 = (mu m 53 0 0)) → Q [.inl (sm (fun p => (mu m 53 0 0) 54 (32 + p)) ((mu m 53 0 0) 54 0).toNat)] m1)) ∧ (((am_s a < 0 ∨ 12 < am_s a) → Q [.inl (-1)] (mu m 53 0 0)))))))))))))))) : ok 2 257 0 [some (.inr (.inr (some 53))), some (.inl a)] [] m Q := by
  refine ok_sg (pc' := 6) (ls' := [some (.inr (.inr (some 53))), some (.inl a)]) (st' := [.inl a]) (m' := mu m 53 0 0) (fun fx hfx o hk => ?_) ?_
  · refine r_ld (pc' := 1) hM_257 d_257_0 rfl rfl ?_
    refine r_k (pc' := 2) (v := .inl 0) hM_257 d_257_1 rfl rfl ?_
    refine r_pI (pc' := 5) (k0 := 0) hM_257 d_257_2 rfl (by decide +kernel) ?_
    refine r_ld (pc' := 6) hM_257 d_257_5 rfl rfl ?_
    exact hk
  by_cases hc : am_s a = 0
  · have H := H.1 hc
    refine ok_sg (pc' := 72) (ls' := [some (.inr (.inr (some 53))), some (.inl a)]) (st' := []) (m' := mu m 53 0 0) (fun fx hfx o hk => ?_) ?_
    · refine r_tsI (pc' := 72) (off := 0) (t := 66) hM_257 d_257_6 (by rw [hc]; rfl) (by decide) rfl (by decide) ?_
      exact hk
    refine ok_sg (pc' := 78) (ls' := [some (.inr (.inr (some 53))), some (.inl a)]) (st' := [.inl (m 54 0)]) (m' := mu m 53 0 0) (fun fx hfx o hk => ?_) ?_
    · refine r_ld (pc' := 73) hM_257 d_257_72 rfl rfl ?_
      refine r_gR (pc' := 76) (v := 54) hM_257 d_257_73 rfl (by decide +kernel) ?_
      refine r_k (pc' := 77) (v := .inl 0) hM_257 d_257_76 rfl rfl ?_
      refine r_iae (pc' := 78) (n := 168) (z := (m 54 0)) hM_257 d_257_77 rfl rfl (by decide) (by rw [show (am_s 0).toNat = 0 by decide]; exact mu_r (by decide)) ?_
      exact hk
    exact ok_rt (fun fx _ => rt_i hM_257 d_257_78 rfl) H
  replace H := H.2
  have hc0 := hc
  clear hc
  by_cases hc : am_s a = 1
  · have H := H.1 hc
    refine ok_sg (pc' := 79) (ls' := [some (.inr (.inr (some 53))), some (.inl a)]) (st' := []) (m' := mu m 53 0 0) (fun fx hfx o hk => ?_) ?_
    · refine r_tsI (pc' := 79) (off := 1) (t := 73) hM_257 d_257_6 (by rw [hc]; rfl) (by decide) rfl (by decide) ?_
      exact hk
    obtain ⟨hz1, H⟩ := H
    obtain ⟨hz2, H⟩ := H
    refine ok_sg (pc' := 87) (ls' := [some (.inr (.inr (some 53))), some (.inl a)]) (st' := [.inl (((cnt (am_s (((brl (nv ((mu m 53 0 0) 54)) : Nat) : Int))).toNat 12 : Nat) : Int))]) (m' := mu m 53 0 0) (fun fx hfx o hk => ?_) ?_
    · refine r_ld (pc' := 80) hM_257 d_257_79 rfl rfl ?_
      refine r_cl (pc' := 83) (c := (191, 0)) (a := [.inr (.inr (some 53))]) (q := []) hM_257 d_257_80 rfl (by decide +kernel) hM_191 rfl rfl rfl (Nat.le_of_ble_eq_true rfl) (Nat.le_of_ble_eq_true rfl) (Or.inr rfl) (n_191  (mu m 53 0 0)  hz1) (Nat.le_of_ble_eq_true rfl) ?_
      show rn fx 2 (0, 0) 257 83 [some (.inr (.inr (some 53))), some (.inl a)] [.inl (((brl (nv ((mu m 53 0 0) 54)) : Nat) : Int))] (st0 (mu m 53 0 0)) o
      refine r_stk (pc' := 84) (st' := [.inr (.inl (am_s (((brl (nv ((mu m 53 0 0) 54)) : Nat) : Int))))]) hM_257 d_257_83 rfl rfl ?_
      refine r_cl (pc' := 87) (c := (193, 2)) (a := [.inr (.inl (am_s (((brl (nv ((mu m 53 0 0) 54)) : Nat) : Int))))]) (q := []) hM_257 d_257_84 rfl (by decide +kernel) hM_193 rfl rfl rfl (Nat.le_of_ble_eq_true rfl) (Nat.le_of_ble_eq_true rfl) (Or.inl rfl) (c_193  (mu m 53 0 0) (am_s (((brl (nv ((mu m 53 0 0) 54)) : Nat) : Int))) hz2) (Nat.le_of_ble_eq_true rfl) ?_
      show rn fx 2 (0, 0) 257 87 [some (.inr (.inr (some 53))), some (.inl a)] [.inl (((cnt (am_s (((brl (nv ((mu m 53 0 0) 54)) : Nat) : Int))).toNat 12 : Nat) : Int))] (st0 (mu m 53 0 0)) o
      exact hk
    exact ok_rt (fun fx _ => rt_i hM_257 d_257_87 rfl) H
  replace H := H.2
  have hc1 := hc
  clear hc
  by_cases hc : am_s a = 2
  · have H := H.1 hc
    refine ok_sg (pc' := 88) (ls' := [some (.inr (.inr (some 53))), some (.inl a)]) (st' := []) (m' := mu m 53 0 0) (fun fx hfx o hk => ?_) ?_
    · refine r_tsI (pc' := 88) (off := 2) (t := 82) hM_257 d_257_6 (by rw [hc]; rfl) (by decide) rfl (by decide) ?_
      exact hk
    obtain ⟨hz3, H⟩ := H
    obtain ⟨hz4, H⟩ := H
    refine ok_sg (pc' := 97) (ls' := [some (.inr (.inr (some 53))), some (.inl a)]) (st' := [.inl (((cnt (am_s (((ons (nv ((mu m 53 0 0) 54)) (am_s 0) : Nat) : Int))).toNat 12 : Nat) : Int))]) (m' := mu m 53 0 0) (fun fx hfx o hk => ?_) ?_
    · refine r_ld (pc' := 89) hM_257 d_257_88 rfl rfl ?_
      refine r_k (pc' := 90) (v := .inl 0) hM_257 d_257_89 rfl rfl ?_
      refine r_cl (pc' := 93) (c := (192, 0)) (a := [.inr (.inr (some 53)), .inl 0]) (q := []) hM_257 d_257_90 rfl (by decide +kernel) hM_192 rfl rfl rfl (Nat.le_of_ble_eq_true rfl) (Nat.le_of_ble_eq_true rfl) (Or.inr rfl) (c_192  (mu m 53 0 0) 0 hz3) (Nat.le_of_ble_eq_true rfl) ?_
      show rn fx 2 (0, 0) 257 93 [some (.inr (.inr (some 53))), some (.inl a)] [.inl (((ons (nv ((mu m 53 0 0) 54)) (am_s 0) : Nat) : Int))] (st0 (mu m 53 0 0)) o
      refine r_stk (pc' := 94) (st' := [.inr (.inl (am_s (((ons (nv ((mu m 53 0 0) 54)) (am_s 0) : Nat) : Int))))]) hM_257 d_257_93 rfl rfl ?_
      refine r_cl (pc' := 97) (c := (193, 2)) (a := [.inr (.inl (am_s (((ons (nv ((mu m 53 0 0) 54)) (am_s 0) : Nat) : Int))))]) (q := []) hM_257 d_257_94 rfl (by decide +kernel) hM_193 rfl rfl rfl (Nat.le_of_ble_eq_true rfl) (Nat.le_of_ble_eq_true rfl) (Or.inl rfl) (c_193  (mu m 53 0 0) (am_s (((ons (nv ((mu m 53 0 0) 54)) (am_s 0) : Nat) : Int))) hz4) (Nat.le_of_ble_eq_true rfl) ?_
      show rn fx 2 (0, 0) 257 97 [some (.inr (.inr (some 53))), some (.inl a)] [.inl (((cnt (am_s (((ons (nv ((mu m 53 0 0) 54)) (am_s 0) : Nat) : Int))).toNat 12 : Nat) : Int))] (st0 (mu m 53 0 0)) o
      exact hk
    exact ok_rt (fun fx _ => rt_i hM_257 d_257_97 rfl) H
  replace H := H.2
  have hc2 := hc
  clear hc
  by_cases hc : am_s a = 3
  · have H := H.1 hc
    refine ok_sg (pc' := 98) (ls' := [some (.inr (.inr (some 53))), some (.inl a)]) (st' := []) (m' := mu m 53 0 0) (fun fx hfx o hk => ?_) ?_
    · refine r_tsI (pc' := 98) (off := 3) (t := 92) hM_257 d_257_6 (by rw [hc]; rfl) (by decide) rfl (by decide) ?_
      exact hk
    obtain ⟨hz5, H⟩ := H
    refine ok_sg (pc' := 103) (ls' := [some (.inr (.inr (some 53))), some (.inl a)]) (st' := [.inl (((ons (nv ((mu m 53 0 0) 54)) (am_s 1) : Nat) : Int))]) (m' := mu m 53 0 0) (fun fx hfx o hk => ?_) ?_
    · refine r_ld (pc' := 99) hM_257 d_257_98 rfl rfl ?_
      refine r_k (pc' := 100) (v := .inl 1) hM_257 d_257_99 rfl rfl ?_
      refine r_cl (pc' := 103) (c := (192, 0)) (a := [.inr (.inr (some 53)), .inl 1]) (q := []) hM_257 d_257_100 rfl (by decide +kernel) hM_192 rfl rfl rfl (Nat.le_of_ble_eq_true rfl) (Nat.le_of_ble_eq_true rfl) (Or.inr rfl) (c_192  (mu m 53 0 0) 1 hz5) (Nat.le_of_ble_eq_true rfl) ?_
      show rn fx 2 (0, 0) 257 103 [some (.inr (.inr (some 53))), some (.inl a)] [.inl (((ons (nv ((mu m 53 0 0) 54)) (am_s 1) : Nat) : Int))] (st0 (mu m 53 0 0)) o
      exact hk
    exact ok_rt (fun fx _ => rt_i hM_257 d_257_103 rfl) H
  replace H := H.2
  have hc3 := hc
  clear hc
  by_cases hc : am_s a = 4
  · have H := H.1 hc
    refine ok_sg (pc' := 104) (ls' := [some (.inr (.inr (some 53))), some (.inl a)]) (st' := []) (m' := mu m 53 0 0) (fun fx hfx o hk => ?_) ?_
    · refine r_tsI (pc' := 104) (off := 4) (t := 98) hM_257 d_257_6 (by rw [hc]; rfl) (by decide) rfl (by decide) ?_
      exact hk
    refine ok_sg (pc' := 110) (ls' := [some (.inr (.inr (some 53))), some (.inl a)]) (st' := [.inl (m 54 1)]) (m' := mu m 53 0 0) (fun fx hfx o hk => ?_) ?_
    · refine r_ld (pc' := 105) hM_257 d_257_104 rfl rfl ?_
      refine r_gR (pc' := 108) (v := 54) hM_257 d_257_105 rfl (by decide +kernel) ?_
      refine r_k (pc' := 109) (v := .inl 1) hM_257 d_257_108 rfl rfl ?_
      refine r_iae (pc' := 110) (n := 168) (z := (m 54 1)) hM_257 d_257_109 rfl rfl (by decide) (by rw [show (am_s 1).toNat = 1 by decide]; exact mu_r (by decide)) ?_
      exact hk
    exact ok_rt (fun fx _ => rt_i hM_257 d_257_110 rfl) H
  replace H := H.2
  have hc4 := hc
  clear hc
  by_cases hc : am_s a = 5
  · have H := H.1 hc
    refine ok_sg (pc' := 111) (ls' := [some (.inr (.inr (some 53))), some (.inl a)]) (st' := []) (m' := mu m 53 0 0) (fun fx hfx o hk => ?_) ?_
    · refine r_tsI (pc' := 111) (off := 5) (t := 105) hM_257 d_257_6 (by rw [hc]; rfl) (by decide) rfl (by decide) ?_
      exact hk
    refine ok_sg (pc' := 117) (ls' := [some (.inr (.inr (some 53))), some (.inl a)]) (st' := [.inl (m 54 4)]) (m' := mu m 53 0 0) (fun fx hfx o hk => ?_) ?_
    · refine r_ld (pc' := 112) hM_257 d_257_111 rfl rfl ?_
      refine r_gR (pc' := 115) (v := 54) hM_257 d_257_112 rfl (by decide +kernel) ?_
      refine r_k (pc' := 116) (v := .inl 4) hM_257 d_257_115 rfl rfl ?_
      refine r_iae (pc' := 117) (n := 168) (z := (m 54 4)) hM_257 d_257_116 rfl rfl (by decide) (by rw [show (am_s 4).toNat = 4 by decide]; exact mu_r (by decide)) ?_
      exact hk
    exact ok_rt (fun fx _ => rt_i hM_257 d_257_117 rfl) H
  replace H := H.2
  have hc5 := hc
  clear hc
  by_cases hc : am_s a = 6
  · have H := H.1 hc
    refine ok_sg (pc' := 118) (ls' := [some (.inr (.inr (some 53))), some (.inl a)]) (st' := []) (m' := mu m 53 0 0) (fun fx hfx o hk => ?_) ?_
    · refine r_tsI (pc' := 118) (off := 6) (t := 112) hM_257 d_257_6 (by rw [hc]; rfl) (by decide) rfl (by decide) ?_
      exact hk
    refine ok_sg (pc' := 124) (ls' := [some (.inr (.inr (some 53))), some (.inl a)]) (st' := [.inl (m 54 5)]) (m' := mu m 53 0 0) (fun fx hfx o hk => ?_) ?_
    · refine r_ld (pc' := 119) hM_257 d_257_118 rfl rfl ?_
      refine r_gR (pc' := 122) (v := 54) hM_257 d_257_119 rfl (by decide +kernel) ?_
      refine r_k (pc' := 123) (v := .inl 5) hM_257 d_257_122 rfl rfl ?_
      refine r_iae (pc' := 124) (n := 168) (z := (m 54 5)) hM_257 d_257_123 rfl rfl (by decide) (by rw [show (am_s 5).toNat = 5 by decide]; exact mu_r (by decide)) ?_
      exact hk
    exact ok_rt (fun fx _ => rt_i hM_257 d_257_124 rfl) H
  replace H := H.2
  have hc6 := hc
  clear hc
  by_cases hc : am_s a = 7
  · have H := H.1 hc
    refine ok_sg (pc' := 125) (ls' := [some (.inr (.inr (some 53))), some (.inl a)]) (st' := []) (m' := mu m 53 0 0) (fun fx hfx o hk => ?_) ?_
    · refine r_tsI (pc' := 125) (off := 7) (t := 119) hM_257 d_257_6 (by rw [hc]; rfl) (by decide) rfl (by decide) ?_
      exact hk
    refine ok_sg (pc' := 132) (ls' := [some (.inr (.inr (some 53))), some (.inl a)]) (st' := [.inl (m 54 6)]) (m' := mu m 53 0 0) (fun fx hfx o hk => ?_) ?_
    · refine r_ld (pc' := 126) hM_257 d_257_125 rfl rfl ?_
      refine r_gR (pc' := 129) (v := 54) hM_257 d_257_126 rfl (by decide +kernel) ?_
      refine r_k (pc' := 131) (v := .inl 6) hM_257 d_257_129 rfl rfl ?_
      refine r_iae (pc' := 132) (n := 168) (z := (m 54 6)) hM_257 d_257_131 rfl rfl (by decide) (by rw [show (am_s 6).toNat = 6 by decide]; exact mu_r (by decide)) ?_
      exact hk
    exact ok_rt (fun fx _ => rt_i hM_257 d_257_132 rfl) H
  replace H := H.2
  have hc7 := hc
  clear hc
  by_cases hc : am_s a = 8
  · have H := H.1 hc
    refine ok_sg (pc' := 133) (ls' := [some (.inr (.inr (some 53))), some (.inl a)]) (st' := []) (m' := mu m 53 0 0) (fun fx hfx o hk => ?_) ?_
    · refine r_tsI (pc' := 133) (off := 8) (t := 127) hM_257 d_257_6 (by rw [hc]; rfl) (by decide) rfl (by decide) ?_
      exact hk
    refine ok_sg (pc' := 137) (ls' := [some (.inr (.inr (some 53))), some (.inl a)]) (st' := [.inl (m 53 5)]) (m' := mu m 53 0 0) (fun fx hfx o hk => ?_) ?_
    · refine r_ld (pc' := 134) hM_257 d_257_133 rfl rfl ?_
      refine r_gIe (pc' := 137) (k0 := 5) (z := (m 53 5)) hM_257 d_257_134 rfl (by decide +kernel) (mu_k (by omega)) ?_
      exact hk
    exact ok_rt (fun fx _ => rt_i hM_257 d_257_137 rfl) H
  replace H := H.2
  have hc8 := hc
  clear hc
  by_cases hc : am_s a = 9
  · have H := H.1 hc
    refine ok_sg (pc' := 138) (ls' := [some (.inr (.inr (some 53))), some (.inl a)]) (st' := []) (m' := mu m 53 0 0) (fun fx hfx o hk => ?_) ?_
    · refine r_tsI (pc' := 138) (off := 9) (t := 132) hM_257 d_257_6 (by rw [hc]; rfl) (by decide) rfl (by decide) ?_
      exact hk
    refine ok_sg (pc' := 145) (ls' := [some (.inr (.inr (some 53))), some (.inl a)]) (st' := [.inl (m 54 7)]) (m' := mu m 53 0 0) (fun fx hfx o hk => ?_) ?_
    · refine r_ld (pc' := 139) hM_257 d_257_138 rfl rfl ?_
      refine r_gR (pc' := 142) (v := 54) hM_257 d_257_139 rfl (by decide +kernel) ?_
      refine r_k (pc' := 144) (v := .inl 7) hM_257 d_257_142 rfl rfl ?_
      refine r_iae (pc' := 145) (n := 168) (z := (m 54 7)) hM_257 d_257_144 rfl rfl (by decide) (by rw [show (am_s 7).toNat = 7 by decide]; exact mu_r (by decide)) ?_
      exact hk
    exact ok_rt (fun fx _ => rt_i hM_257 d_257_145 rfl) H
  replace H := H.2
  have hc9 := hc
  clear hc
  by_cases hc : am_s a = 10
  · have H := H.1 hc
    refine ok_sg (pc' := 146) (ls' := [some (.inr (.inr (some 53))), some (.inl a)]) (st' := []) (m' := mu m 53 0 0) (fun fx hfx o hk => ?_) ?_
    · refine r_tsI (pc' := 146) (off := 10) (t := 140) hM_257 d_257_6 (by rw [hc]; rfl) (by decide) rfl (by decide) ?_
      exact hk
    refine ok_sg (pc' := 152) (ls' := [some (.inr (.inr (some 53))), some (.inl a)]) (st' := [.inl (m 54 2)]) (m' := mu m 53 0 0) (fun fx hfx o hk => ?_) ?_
    · refine r_ld (pc' := 147) hM_257 d_257_146 rfl rfl ?_
      refine r_gR (pc' := 150) (v := 54) hM_257 d_257_147 rfl (by decide +kernel) ?_
      refine r_k (pc' := 151) (v := .inl 2) hM_257 d_257_150 rfl rfl ?_
      refine r_iae (pc' := 152) (n := 168) (z := (m 54 2)) hM_257 d_257_151 rfl rfl (by decide) (by rw [show (am_s 2).toNat = 2 by decide]; exact mu_r (by decide)) ?_
      exact hk
    exact ok_rt (fun fx _ => rt_i hM_257 d_257_152 rfl) H
  replace H := H.2
  have hc10 := hc
  clear hc
  by_cases hc : am_s a = 11
  · have H := H.1 hc
    refine ok_sg (pc' := 153) (ls' := [some (.inr (.inr (some 53))), some (.inl a)]) (st' := []) (m' := mu m 53 0 0) (fun fx hfx o hk => ?_) ?_
    · refine r_tsI (pc' := 153) (off := 11) (t := 147) hM_257 d_257_6 (by rw [hc]; rfl) (by decide) rfl (by decide) ?_
      exact hk
    refine ok_sg (pc' := 159) (ls' := [some (.inr (.inr (some 53))), some (.inl a)]) (st' := [.inl (m 54 3)]) (m' := mu m 53 0 0) (fun fx hfx o hk => ?_) ?_
    · refine r_ld (pc' := 154) hM_257 d_257_153 rfl rfl ?_
      refine r_gR (pc' := 157) (v := 54) hM_257 d_257_154 rfl (by decide +kernel) ?_
      refine r_k (pc' := 158) (v := .inl 3) hM_257 d_257_157 rfl rfl ?_
      refine r_iae (pc' := 159) (n := 168) (z := (m 54 3)) hM_257 d_257_158 rfl rfl (by decide) (by rw [show (am_s 3).toNat = 3 by decide]; exact mu_r (by decide)) ?_
      exact hk
    exact ok_rt (fun fx _ => rt_i hM_257 d_257_159 rfl) H
  replace H := H.2
  have hc11 := hc
  clear hc
  by_cases hc : am_s a = 12
  · have H := H.1 hc
    refine ok_sg (pc' := 160) (ls' := [some (.inr (.inr (some 53))), some (.inl a)]) (st' := []) (m' := mu m 53 0 0) (fun fx hfx o hk => ?_) ?_
    · refine r_tsI (pc' := 160) (off := 12) (t := 154) hM_257 d_257_6 (by rw [hc]; rfl) (by decide) rfl (by decide) ?_
      exact hk
    obtain ⟨hz6, H⟩ := H
    refine ok_sg (pc' := 161) (ls' := [some (.inr (.inr (some 53))), some (.inl a)]) (st' := [.inr (.inr (some 53))]) (m' := mu m 53 0 0) (fun fx hfx o hk => ?_) ?_
    · refine r_ld (pc' := 161) hM_257 d_257_160 rfl rfl ?_
      exact hk
    refine ok_cl (pc' := 164) (c := (258, 0)) (a := [.inr (.inr (some 53))]) (q := []) hM_257 d_257_161 rfl (by decide +kernel) hM_258 rfl rfl rfl (Nat.le_of_ble_eq_true rfl) (Nat.le_of_ble_eq_true rfl) (Or.inr rfl) (z_258  (mu m 53 0 0)  hz6) (Nat.le_of_ble_eq_true rfl) ?_
    rintro _ m1 ⟨rfl, hz7⟩
    replace H := H  m1 hz7
    show ok 2 257 164 [some (.inr (.inr (some 53))), some (.inl a)] [.inl (sm (fun p => (mu m 53 0 0) 54 (32 + p)) ((mu m 53 0 0) 54 0).toNat)] m1 Q
    exact ok_rt (fun fx _ => rt_i hM_257 d_257_164 rfl) H
  replace H := H.2
  have hc12 := hc
  clear hc
  have ho : am_s a < 0 ∨ 12 < am_s a := by omega
  replace H := H ho
  refine ok_sg (pc' := 165) (ls' := [some (.inr (.inr (some 53))), some (.inl a)]) (st' := []) (m' := mu m 53 0 0) (fun fx hfx o hk => ?_) ?_
  · refine r_tsO (pc' := 165) hM_257 d_257_6 ho (by decide) ?_
    exact hk
  refine ok_sg (pc' := 166) (ls' := [some (.inr (.inr (some 53))), some (.inl a)]) (st' := [.inl (-1)]) (m' := mu m 53 0 0) (fun fx hfx o hk => ?_) ?_
  · refine r_k (pc' := 166) (v := .inl (-1)) hM_257 d_257_165 rfl rfl ?_
    exact hk
  exact ok_rt (fun fx _ => rt_i hM_257 d_257_166 rfl) H
