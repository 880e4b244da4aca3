/-- a row of the class: its length (-1: missing), its kind, its numbers -/
def RWC (m : am_M) (r : Nat) : Prop := (-1 ≤ m r 2 ∧ m r 2 ≤ 40) ∧ (0 ≤ m r 1 ∧ m r 1 ≤ 3) ∧ ∀ k, k < 40 → am_t (m (r + 1) k) = m (r + 1) k
theorem v_54_ok {r : Nat} (hr : r ∈ rowL) (m : am_M) (hq : RWC m r) : v_54 m r = (if m r 2 < 0 then 1 else 0) := by
  have h := hq.1
  unfold v_54
  rw [am_s_id (by omega) (by omega)]
  by_cases h0 : m r 2 < 0
  · rw [if_neg (by omega), if_pos h0]
  · rw [if_pos (by omega), if_neg h0]
theorem q_56_ok {r : Nat} (hr : r ∈ rowL) (m : am_M) (i : Int) (hq : RWC m r) : q_56 m r i := by
  have h := hq.1
  unfold q_56
  rw [am_s_id (z := m r 2) (by omega) (by omega)]
  intro h1 h2
  omega
/-- what a row has at i -/
def rat (m : am_M) (r : Nat) (i : Int) : Int := if 0 ≤ i ∧ i < m r 2 then m (r + 1) i.toNat else 0
theorem v_56_ok {r : Nat} (hr : r ∈ rowL) (m : am_M) (i : Int) (hq : RWC m r) : v_56 m r i = rat m r (am_s i) := by
  have h := hq.1
  unfold v_56 rat
  rw [am_s_id (z := m r 2) (by omega) (by omega)]
  by_cases h1 : am_s i < 0
  · rw [if_pos h1, if_neg (by omega)]
  · rw [if_neg h1]
    by_cases h2 : m r 2 ≤ am_s i
    · rw [if_pos h2, if_neg (by omega)]
    · rw [if_neg h2, if_pos (by omega)]
theorem rat_in {m : am_M} {r k : Nat} (h : (k : Int) < m r 2) : rat m r (k : Int) = m (r + 1) k := by
  unfold rat
  rw [if_pos (by omega), Int.toNat_natCast]
theorem rat_t {m : am_M} {r : Nat} {i : Int} (hq : RWC m r) : am_t (rat m r i) = rat m r i := by
  unfold rat
  split
  · exact hq.2.2 _ (by have := hq.1; omega)
  · rfl
theorem rowL_cases {r : Nat} (h : r ∈ rowL) : r = 25 ∨ r = 27 ∨ r = 29 ∨ r = 31 := by
  simp only [rowL, List.mem_cons, List.not_mem_nil, or_false] at h
  exact h
theorem sr_apart {s r : Nat} (hs : s ∈ shL) (hr : r ∈ rowL) : s + 5 ≤ r := by
  rcases shL_cases hs with rfl | rfl | rfl | rfl <;> rcases rowL_cases hr with rfl | rfl | rfl | rfl <;> omega
theorem n_54 {fx : am_X0} {r : Nat} (hr : r ∈ rowL) (m : am_M)  (hq : RWC m r) : rn fx 0 (0, 0) 54 0 (am_ent 1 [.inr (.inr (some r))]) [] (st0 m) ([.inl ((if m r 2 < 0 then 1 else 0))], st0 m) := by
  have h := c_54 (fx := fx) hr m  
  rw [v_54_ok hr m  hq] at h
  exact h
theorem n_56 {fx : am_X0} {r : Nat} (hr : r ∈ rowL) (m : am_M) (i : Int) (hq : RWC m r) : rn fx 0 (0, 0) 56 0 (am_ent 2 [.inr (.inr (some r)), .inl i]) [] (st0 m) ([.inr (.inl ((rat m r (am_s i))))], st0 m) := by
  have h := c_56 (fx := fx) hr m i (q_56_ok hr m i hq)
  rw [v_56_ok hr m i hq] at h
  exact h
theorem gfR_1_144 {s : Nat} (hs : s ∈ rowL) : am_gf 1 144 s = some (.inl 2) := by
  have h : ∀ s ∈ rowL, am_gf 1 144 s = some (.inl 2) := by decide +kernel
  exact h s hs
theorem t_55_2 {fx : am_X0} {o : List am_V × am_S} {m : am_M} {s : Nat} {r : Nat} {i : Int} (h_s : s ∈ shL) (h_r : r ∈ rowL) (H : ((am_s (m r 2) ≤ am_s i) → o = ([.inl i], st0 m)) ∧ (¬ (am_s (m r 2) ≤ am_s i) → (RWC m r) ∧ (((WFG (vw m s) ∧ m s 11 ≤ 9999) ∧ am_t ((rat m r (am_s i))) = ((rat m r (am_s i)))) ∧ (((¬ am_s ((rfs (nv (vw m s)) ((rat m r (am_s i))))) = 0) → o = ([.inl i], st0 m)) ∧ (¬ (¬ am_s ((rfs (nv (vw m s)) ((rat m r (am_s i))))) = 0) → (WFG (vw m s) ∧ 0 ≤ ((rat m r (am_s i))) ∧ ((rat m r (am_s i))) < 4096) ∧ (rn fx 3 (0, 0) 55 2 [some (.inr (.inr (some s))), some (.inr (.inr (some r))), some (.inl (i + 1))] [] (st0 (pw m s ((rat m r (am_s i))).toNat)) o)))))) : rn fx 3 (0, 0) 55 2 [some (.inr (.inr (some s))), some (.inr (.inr (some r))), some (.inl i)] [] (st0 m) o := by
  refine r_ld (pc' := 3) hM_55 d_55_2 rfl rfl ?_
  refine r_ld (pc' := 4) hM_55 d_55_3 rfl rfl ?_
  refine r_gI (pc' := 7) (k0 := 2) hM_55 d_55_4 rfl (gfR_1_144 h_r) ?_
  refine r_ic (pc' := 39) (pc2 := 10) hM_55 d_55_7 (by decide) rfl (fun hz1 => ?_) (fun hz1 => ?_)
  · have H := H.1 hz1
    refine r_ld (pc' := 40) hM_55 d_55_39 rfl rfl ?_
    subst H
    exact rt_i hM_55 d_55_40 rfl
  · have H := H.2 hz1
    refine r_ld (pc' := 11) hM_55 d_55_10 rfl rfl ?_
    refine r_ld (pc' := 12) hM_55 d_55_11 rfl rfl ?_
    refine r_ld (pc' := 13) hM_55 d_55_12 rfl rfl ?_
    obtain ⟨hz2, H⟩ := H
    refine r_cl (pc' := 16) (c := (56, 0)) (a := [.inr (.inr (some r)), .inl i]) (q := [.inr (.inr (some s))]) hM_55 d_55_13 rfl (by decide +kernel) hM_56 rfl rfl rfl (Nat.le_of_ble_eq_true rfl) (Nat.le_of_ble_eq_true rfl) (Or.inr (rcvR h_r _)) (n_56 h_r m i hz2) (Nat.le_of_ble_eq_true rfl) ?_
    show rn fx 3 (0, 0) 55 16 [some (.inr (.inr (some s))), some (.inr (.inr (some r))), some (.inl i)] [.inr (.inl ((rat m r (am_s i)))), .inr (.inr (some s))] (st0 m) o
    obtain ⟨hz3, H⟩ := H
    refine r_cl (pc' := 19) (c := (46, 0)) (a := [.inr (.inr (some s)), .inr (.inl ((rat m r (am_s i))))]) (q := []) hM_55 d_55_16 rfl (by decide +kernel) hM_46 rfl rfl rfl (Nat.le_of_ble_eq_true rfl) (Nat.le_of_ble_eq_true rfl) (Or.inr (rcvS h_s _)) (n_46 h_s m ((rat m r (am_s i))) hz3) (Nat.le_of_ble_eq_true rfl) ?_
    show rn fx 3 (0, 0) 55 19 [some (.inr (.inr (some s))), some (.inr (.inr (some r))), some (.inl i)] [.inl ((rfs (nv (vw m s)) ((rat m r (am_s i)))))] (st0 m) o
    refine r_if (pc' := 39) (pc2 := 22) hM_55 d_55_19 (by decide) rfl (fun hz4 => ?_) (fun hz4 => ?_)
    · have H := H.1 hz4
      refine r_ld (pc' := 40) hM_55 d_55_39 rfl rfl ?_
      subst H
      exact rt_i hM_55 d_55_40 rfl
    · have H := H.2 hz4
      refine r_ld (pc' := 23) hM_55 d_55_22 rfl rfl ?_
      refine r_ld (pc' := 24) hM_55 d_55_23 rfl rfl ?_
      refine r_ld (pc' := 25) hM_55 d_55_24 rfl rfl ?_
      refine r_cl (pc' := 28) (c := (56, 0)) (a := [.inr (.inr (some r)), .inl i]) (q := [.inr (.inr (some s))]) hM_55 d_55_25 rfl (by decide +kernel) hM_56 rfl rfl rfl (Nat.le_of_ble_eq_true rfl) (Nat.le_of_ble_eq_true rfl) (Or.inr (rcvR h_r _)) (n_56 h_r m i hz2) (Nat.le_of_ble_eq_true rfl) ?_
      show rn fx 3 (0, 0) 55 28 [some (.inr (.inr (some s))), some (.inr (.inr (some r))), some (.inl i)] [.inr (.inl ((rat m r (am_s i)))), .inr (.inr (some s))] (st0 m) o
      refine r_stk (pc' := 29) (st' := [.inl ((rat m r (am_s i))), .inr (.inr (some s))]) hM_55 d_55_28 rfl rfl ?_
      obtain ⟨hz5, H⟩ := H
      refine r_cl (pc' := 32) (c := (50, 0)) (a := [.inr (.inr (some s)), .inl ((rat m r (am_s i)))]) (q := []) hM_55 d_55_29 rfl (by decide +kernel) hM_50 rfl rfl rfl (Nat.le_of_ble_eq_true rfl) (Nat.le_of_ble_eq_true rfl) (Or.inr (rcvS h_s _)) (n_50 h_s m ((rat m r (am_s i))) hz5) (Nat.le_of_ble_eq_true rfl) ?_
      show rn fx 3 (0, 0) 55 32 [some (.inr (.inr (some s))), some (.inr (.inr (some r))), some (.inl i)] [.inl (dyn ((rat m r (am_s i))).toNat (nv (vw m s)))] (st0 (pw m s ((rat m r (am_s i))).toNat)) o
      refine r_stk (pc' := 33) (st' := []) hM_55 d_55_32 rfl rfl ?_
      refine r_sto (pc' := 36) (ls' := [some (.inr (.inr (some s))), some (.inr (.inr (some r))), some (.inl (i + 1))]) hM_55 d_55_33 rfl rfl ?_
      refine r_go (pc' := 2) hM_55 d_55_36 (by decide) ?_
      exact H
theorem t_55_0 {fx : am_X0} {o : List am_V × am_S} {m : am_M} {s : Nat} {r : Nat} (h_s : s ∈ shL) (h_r : r ∈ rowL) (H : rn fx 3 (0, 0) 55 2 [some (.inr (.inr (some s))), some (.inr (.inr (some r))), some (.inl 0)] [] (st0 m) o) : rn fx 3 (0, 0) 55 0 [some (.inr (.inr (some s))), some (.inr (.inr (some r))), none] [] (st0 m) o := by
  refine r_k (pc' := 1) (v := .inl 0) hM_55 d_55_0 rfl rfl ?_
  refine r_sto (pc' := 2) (ls' := [some (.inr (.inr (some s))), some (.inr (.inr (some r))), some (.inl 0)]) hM_55 d_55_1 rfl rfl ?_
  exact H
theorem t_57_4 {fx : am_X0} {o : List am_V × am_S} {m : am_M} {r : Nat} {n : Int} {x2 : Int} {x3 : Int} (h_r : r ∈ rowL) (H : ((am_s n ≤ am_s x3) → o = ([.inl x2], st0 m)) ∧ (¬ (am_s n ≤ am_s x3) → (RWC m r) ∧ ((0 ≤ ((rat m r (am_s x3))) ∧ ((rat m r (am_s x3))) < 4096) ∧ (rn fx 1 (0, 0) 57 4 [some (.inr (.inr (some r))), some (.inl n), some (.inl (x2 + (((cnt ((rat m r (am_s x3))).toNat 12 : Nat) : Int)))), some (.inl (x3 + 1))] [] (st0 m) o)))) : rn fx 1 (0, 0) 57 4 [some (.inr (.inr (some r))), some (.inl n), some (.inl x2), some (.inl x3)] [] (st0 m) o := by
  refine r_ld (pc' := 5) hM_57 d_57_4 rfl rfl ?_
  refine r_ld (pc' := 6) hM_57 d_57_5 rfl rfl ?_
  refine r_ic (pc' := 26) (pc2 := 9) hM_57 d_57_6 (by decide) rfl (fun hz1 => ?_) (fun hz1 => ?_)
  · have H := H.1 hz1
    refine r_ld (pc' := 27) hM_57 d_57_26 rfl rfl ?_
    subst H
    exact rt_i hM_57 d_57_27 rfl
  · have H := H.2 hz1
    refine r_ld (pc' := 10) hM_57 d_57_9 rfl rfl ?_
    refine r_ld (pc' := 11) hM_57 d_57_10 rfl rfl ?_
    refine r_ld (pc' := 12) hM_57 d_57_11 rfl rfl ?_
    obtain ⟨hz2, H⟩ := H
    refine r_cl (pc' := 15) (c := (56, 0)) (a := [.inr (.inr (some r)), .inl x3]) (q := [.inl x2]) hM_57 d_57_12 rfl (by decide +kernel) hM_56 rfl rfl rfl (Nat.le_of_ble_eq_true rfl) (Nat.le_of_ble_eq_true rfl) (Or.inr (rcvR h_r _)) (n_56 h_r m x3 hz2) (Nat.le_of_ble_eq_true rfl) ?_
    show rn fx 1 (0, 0) 57 15 [some (.inr (.inr (some r))), some (.inl n), some (.inl x2), some (.inl x3)] [.inr (.inl ((rat m r (am_s x3)))), .inl x2] (st0 m) o
    obtain ⟨hz3, H⟩ := H
    refine r_cl (pc' := 18) (c := (49, 2)) (a := [.inr (.inl ((rat m r (am_s x3))))]) (q := [.inl x2]) hM_57 d_57_15 rfl (by decide +kernel) hM_49 rfl rfl rfl (Nat.le_of_ble_eq_true rfl) (Nat.le_of_ble_eq_true rfl) (Or.inl rfl) (n_49  m ((rat m r (am_s x3))) hz3) (Nat.le_of_ble_eq_true rfl) ?_
    show rn fx 1 (0, 0) 57 18 [some (.inr (.inr (some r))), some (.inl n), some (.inl x2), some (.inl x3)] [.inl (((cnt ((rat m r (am_s x3))).toNat 12 : Nat) : Int)), .inl x2] (st0 m) o
    refine r_b (pc' := 19) (z := (x2 + (((cnt ((rat m r (am_s x3))).toNat 12 : Nat) : Int)))) hM_57 d_57_18 rfl rfl ?_
    refine r_sto (pc' := 20) (ls' := [some (.inr (.inr (some r))), some (.inl n), some (.inl (x2 + (((cnt ((rat m r (am_s x3))).toNat 12 : Nat) : Int)))), some (.inl x3)]) hM_57 d_57_19 rfl rfl ?_
    refine r_sto (pc' := 23) (ls' := [some (.inr (.inr (some r))), some (.inl n), some (.inl (x2 + (((cnt ((rat m r (am_s x3))).toNat 12 : Nat) : Int)))), some (.inl (x3 + 1))]) hM_57 d_57_20 rfl rfl ?_
    refine r_go (pc' := 4) hM_57 d_57_23 (by decide) ?_
    exact H
theorem t_57_0 {fx : am_X0} {o : List am_V × am_S} {m : am_M} {r : Nat} {n : Int} (h_r : r ∈ rowL) (H : rn fx 1 (0, 0) 57 4 [some (.inr (.inr (some r))), some (.inl n), some (.inl 0), some (.inl 0)] [] (st0 m) o) : rn fx 1 (0, 0) 57 0 [some (.inr (.inr (some r))), some (.inl n), none, none] [] (st0 m) o := by
  refine r_k (pc' := 1) (v := .inl 0) hM_57 d_57_0 rfl rfl ?_
  refine r_sto (pc' := 2) (ls' := [some (.inr (.inr (some r))), some (.inl n), some (.inl 0), none]) hM_57 d_57_1 rfl rfl ?_
  refine r_k (pc' := 3) (v := .inl 0) hM_57 d_57_2 rfl rfl ?_
  refine r_sto (pc' := 4) (ls' := [some (.inr (.inr (some r))), some (.inl n), some (.inl 0), some (.inl 0)]) hM_57 d_57_3 rfl rfl ?_
  exact H
theorem t_64_13 {fx : am_X0} {o : List am_V × am_S} {m : am_M} {r : Nat} {z : Int} {x3 : Int} (h_r : r ∈ rowL) (H : ((am_s (m r 2) ≤ am_s x3) → (WFG (vw m 7)) ∧ (o = ([.inl (((ons (nv (vw m 7)) (am_s 1) : Nat) : Int))], st0 m))) ∧ (¬ (am_s (m r 2) ≤ am_s x3) → ((¬ am_s x3 = am_s z) → (RWC m r)) ∧ (∀ y1 : Int, y1 = (if ¬ am_s x3 = am_s z then ((rat m r (am_s x3))) else 0) → (WFG (vw m 7) ∧ 0 ≤ y1 ∧ y1 < 4096) ∧ (rn fx 2 (0, 0) 64 13 [some (.inr (.inr (some 0))), some (.inr (.inr (some r))), some (.inl z), some (.inl (x3 + 1))] [] (st0 (pw m 7 y1.toNat)) o)))) : rn fx 2 (0, 0) 64 13 [some (.inr (.inr (some 0))), some (.inr (.inr (some r))), some (.inl z), some (.inl x3)] [] (st0 m) o := by
  refine r_ld (pc' := 14) hM_64 d_64_13 rfl rfl ?_
  refine r_ld (pc' := 15) hM_64 d_64_14 rfl rfl ?_
  refine r_gI (pc' := 18) (k0 := 2) hM_64 d_64_15 rfl (gfR_1_144 h_r) ?_
  refine r_ic (pc' := 50) (pc2 := 21) hM_64 d_64_18 (by decide) rfl (fun hz1 => ?_) (fun hz1 => ?_)
  · have H := H.1 hz1
    refine r_ld (pc' := 51) hM_64 d_64_50 rfl rfl ?_
    refine r_gR (pc' := 54) (v := 7) hM_64 d_64_51 rfl (by decide +kernel) ?_
    refine r_k (pc' := 55) (v := .inl 1) hM_64 d_64_54 rfl rfl ?_
    obtain ⟨hz2, H⟩ := H
    refine r_cl (pc' := 58) (c := (48, 0)) (a := [.inr (.inr (some 7)), .inl 1]) (q := []) hM_64 d_64_55 rfl (by decide +kernel) hM_48 rfl rfl rfl (Nat.le_of_ble_eq_true rfl) (Nat.le_of_ble_eq_true rfl) (Or.inr rfl) (n_48 (by decide) m 1 hz2) (Nat.le_of_ble_eq_true rfl) ?_
    show rn fx 2 (0, 0) 64 58 [some (.inr (.inr (some 0))), some (.inr (.inr (some r))), some (.inl z), some (.inl x3)] [.inl (((ons (nv (vw m 7)) (am_s 1) : Nat) : Int))] (st0 m) o
    subst H
    exact rt_i hM_64 d_64_58 rfl
  · have H := H.2 hz1
    refine r_ld (pc' := 22) hM_64 d_64_21 rfl rfl ?_
    refine r_gR (pc' := 25) (v := 7) hM_64 d_64_22 rfl (by decide +kernel) ?_
    refine r_ld (pc' := 26) hM_64 d_64_25 rfl rfl ?_
    refine r_ld (pc' := 27) hM_64 d_64_26 rfl rfl ?_
    obtain ⟨hz4, H⟩ := H
    have K : ∀ y1 : Int, y1 = (if ¬ am_s x3 = am_s z then ((rat m r (am_s x3))) else 0) → rn fx 2 (0, 0) 64 40 [some (.inr (.inr (some 0))), some (.inr (.inr (some r))), some (.inl z), some (.inl x3)] [.inl y1, .inr (.inr (some 7))] (st0 m) o := by
      intro y1 hy1
      replace H := H y1 hy1
      obtain ⟨hz5, H⟩ := H
      refine r_cl (pc' := 43) (c := (50, 0)) (a := [.inr (.inr (some 7)), .inl y1]) (q := []) hM_64 d_64_40 rfl (by decide +kernel) hM_50 rfl rfl rfl (Nat.le_of_ble_eq_true rfl) (Nat.le_of_ble_eq_true rfl) (Or.inr rfl) (n_50 (by decide) m y1 hz5) (Nat.le_of_ble_eq_true rfl) ?_
      show rn fx 2 (0, 0) 64 43 [some (.inr (.inr (some 0))), some (.inr (.inr (some r))), some (.inl z), some (.inl x3)] [.inl (dyn y1.toNat (nv (vw m 7)))] (st0 (pw m 7 y1.toNat)) o
      refine r_stk (pc' := 44) (st' := []) hM_64 d_64_43 rfl rfl ?_
      refine r_sto (pc' := 47) (ls' := [some (.inr (.inr (some 0))), some (.inr (.inr (some r))), some (.inl z), some (.inl (x3 + 1))]) hM_64 d_64_44 rfl rfl ?_
      refine r_go (pc' := 13) hM_64 d_64_47 (by decide) ?_
      exact H
    replace K := K _ rfl
    clear H
    refine r_ic (pc' := 34) (pc2 := 30) hM_64 d_64_27 (by decide) rfl (fun hz3 => ?_) (fun hz3 => ?_)
    · have hz3 : ¬ am_s x3 = am_s z := hz3
      rw [if_pos hz3] at K
      refine r_ld (pc' := 35) hM_64 d_64_34 rfl rfl ?_
      refine r_ld (pc' := 36) hM_64 d_64_35 rfl rfl ?_
      refine r_cl (pc' := 39) (c := (56, 0)) (a := [.inr (.inr (some r)), .inl x3]) (q := [.inr (.inr (some 7))]) hM_64 d_64_36 rfl (by decide +kernel) hM_56 rfl rfl rfl (Nat.le_of_ble_eq_true rfl) (Nat.le_of_ble_eq_true rfl) (Or.inr (rcvR h_r _)) (n_56 h_r m x3 (hz4 hz3)) (Nat.le_of_ble_eq_true rfl) ?_
      show rn fx 2 (0, 0) 64 39 [some (.inr (.inr (some 0))), some (.inr (.inr (some r))), some (.inl z), some (.inl x3)] [.inr (.inl ((rat m r (am_s x3)))), .inr (.inr (some 7))] (st0 m) o
      refine r_stk (pc' := 40) (st' := [.inl ((rat m r (am_s x3))), .inr (.inr (some 7))]) hM_64 d_64_39 rfl rfl ?_
      exact K
    · have hz3 : ¬ (¬ am_s x3 = am_s z) := hz3
      rw [if_neg hz3] at K
      refine r_k (pc' := 31) (v := .inl 0) hM_64 d_64_30 rfl rfl ?_
      refine r_go (pc' := 40) hM_64 d_64_31 (by decide) ?_
      exact K
theorem t_64_0 {fx : am_X0} {o : List am_V × am_S} {m : am_M} {r : Nat} {z : Int} (h_r : r ∈ rowL) (H : (7 ≠ 2) ∧ (rn fx 2 (0, 0) 64 13 [some (.inr (.inr (some 0))), some (.inr (.inr (some r))), some (.inl z), some (.inl 0)] [] (st0 (tk m 7 2)) o)) : rn fx 2 (0, 0) 64 0 [some (.inr (.inr (some 0))), some (.inr (.inr (some r))), some (.inl z), none] [] (st0 m) o := by
  refine r_ld (pc' := 1) hM_64 d_64_0 rfl rfl ?_
  refine r_gR (pc' := 4) (v := 7) hM_64 d_64_1 rfl (by decide +kernel) ?_
  refine r_ld (pc' := 5) hM_64 d_64_4 rfl rfl ?_
  refine r_gR (pc' := 8) (v := 2) hM_64 d_64_5 rfl (by decide +kernel) ?_
  obtain ⟨hz1, H⟩ := H
  refine r_cl (pc' := 11) (c := (37, 0)) (a := [.inr (.inr (some 7)), .inr (.inr (some 2))]) (q := []) hM_64 d_64_8 rfl (by decide +kernel) hM_37 rfl rfl rfl (Nat.le_of_ble_eq_true rfl) (Nat.le_of_ble_eq_true rfl) (Or.inr rfl) (c_37 (by decide) (by decide) m  hz1) (Nat.le_of_ble_eq_true rfl) ?_
  show rn fx 2 (0, 0) 64 11 [some (.inr (.inr (some 0))), some (.inr (.inr (some r))), some (.inl z), none] [] (st0 (tk m 7 2)) o
  refine r_k (pc' := 12) (v := .inl 0) hM_64 d_64_11 rfl rfl ?_
  refine r_sto (pc' := 13) (ls' := [some (.inr (.inr (some 0))), some (.inr (.inr (some r))), some (.inl z), some (.inl 0)]) hM_64 d_64_12 rfl rfl ?_
  exact H
def Q_55 (m : am_M) (s : Nat) (r : Nat)  (m' : am_M) : Prop := nv (vw m' s) = dst (m (r + 1)) (nv (vw m s)) (dlen (m (r + 1)) (nv (vw m s)) (m r 2).toNat) ∧ (WFG (vw m' s) ∧ m' s 11 ≤ 9999) ∧ (SLT (vw m s) → SLT (vw m' s)) ∧ (∀ a, a < s ∨ s + 4 < a → m' a = m a)
noncomputable def W_55 (m : am_M) (s : Nat) (r : Nat)  : am_M := wch 3 55 3 [.inr (.inr (some s)), .inr (.inr (some r))] m [.inl (((dlen (m (r + 1)) (nv (vw m s)) (m r 2).toNat : Nat) : Int))] (Q_55 m s r)
theorem SLT_pw {m : am_M} {s B : Nat} (h : WFG (vw m s)) (hs : SLT (vw m s)) : SLT (vw (pw m s B) s) := by
  intro p hp hl hk
  rw [vw_0, pw_lo (by decide)] at hl
  rw [vw_K hp, pw_K hl] at hk
  rw [vw_S hp, pw_S]
  have := hs p hp (by rw [vw_0]; exact hl) (by rw [vw_K hp]; exact dK_3 hk)
  rw [vw_S hp] at this
  exact this
theorem RWC_of {m m' : am_M} {r : Nat} (h1 : m' r = m r) (h2 : m' (r + 1) = m (r + 1)) (h : RWC m r) : RWC m' r := by
  unfold RWC
  rw [h1, h2]
  exact h
theorem x_55 {s : Nat} {r : Nat} (h_s : s ∈ shL) (h_r : r ∈ rowL) (m : am_M)  (hq : (WFG (vw m s) ∧ m s 11 ≤ 9999) ∧ RWC m r ∧ 0 ≤ m r 2) : ∃ m', wen 3 55 3 [.inr (.inr (some s)), .inr (.inr (some r))] m [.inl (((dlen (m (r + 1)) (nv (vw m s)) (m r 2).toNat : Nat) : Int))] (Q_55 m s r) m' := by
  obtain ⟨⟨hw, hdt⟩, hr, hn⟩ := hq
  have hap := sr_apart h_s h_r
  unfold Q_55 wen
  have hlp := rn_loopE (σ := Unit) (d := 3) (mi := 55) (pc := 2) (fun i _ => [some (.inr (.inr (some s))), some (.inr (.inr (some r))), some (.inl (i : Int))])
    (fun i _ M => dlen (m (r + 1)) (nv (vw m s)) i = i ∧ nv (vw M s) = dst (m (r + 1)) (nv (vw m s)) i ∧ (WFG (vw M s) ∧ M s 11 ≤ 9999) ∧ (SLT (vw m s) → SLT (vw M s)) ∧ (∀ a, a < s ∨ s + 4 < a → M a = m a))
    (fun q M => q = [.inl ((dlen (m (r + 1)) (nv (vw m s)) (m r 2).toNat : Nat) : Int)] ∧ Q_55 m s r M) (m r 2).toNat ?_ ?_ () m ⟨rfl, rfl, ⟨hw, hdt⟩, id, fun a _ => rfl⟩
  · obtain ⟨q, M, ⟨rfl, h1⟩, h2⟩ := hlp
    unfold Q_55 at h1
    exact ⟨M, h1, fun fx => t_55_0 h_s h_r (h2 fx)⟩
  · rintro i hi - M ⟨h1, h2, ⟨h3, hD⟩, h4, h5⟩
    have er : M r = m r := h5 r (by omega)
    have er1 : M (r + 1) = m (r + 1) := h5 (r + 1) (by omega)
    have hb40 := hr.1
    have hrM := RWC_of er er1 hr
    have ei : rat M r (am_s (i : Int)) = m (r + 1) i := by
      rw [am_s_id (by omega) (by omega), rat_in (by rw [er]; omega), er1]
    have ht : am_t (m (r + 1) i) = m (r + 1) i := hr.2.2 i (by omega)
    have hrg := rfs_rng (dst (m (r + 1)) (nv (vw m s)) i) (m (r + 1) i)
    by_cases hz : rfs (dst (m (r + 1)) (nv (vw m s)) i) (m (r + 1) i) = 0
    · left
      obtain ⟨z1, z2, z3, z4⟩ := rfs_0 hz
      have hN0 : dst (m (r + 1)) (nv (vw m s)) i 0 ≤ 12 := by rw [← h2]; exact nv0_le h3
      have hb := brl_lt hN0
      have hs := sub_le z2
      have hd : M s 11 < 9999 := by
        rw [← h2, nv_lo (by decide), vw_1] at z4
        omega
      refine ⟨(), pw M s (m (r + 1) i).toNat, ⟨?_, ?_, ?_, ?_, ?_⟩, fun fx o hnx => ?_⟩
      · rw [dlen_s, if_pos ⟨h1, hz⟩]
      · rw [nv_pw h3, h2, dst_s]
      · exact ⟨WFG_pw h3 (by omega), by rw [pw_11]; omega⟩
      · intro hs
        exact SLT_pw h3 (h4 hs)
      · intro a ha
        rw [pw_r ha]
        exact h5 a ha
      · refine t_55_2 h_s h_r ?_
        rw [ei, h2, er]
        simp (disch := omega) only [am_s_id]
        exact ⟨fun q => by omega, fun _ => ⟨hrM, ⟨⟨h3, hD⟩, ht⟩, fun q => absurd hz q, fun _ => ⟨⟨h3, by omega⟩, hnx⟩⟩⟩
    · right
      have hd := dlen_stop h1 hz (m r 2).toNat (by omega)
      refine ⟨_, M, ⟨rfl, ?_⟩, fun fx => ?_⟩
      · unfold Q_55
        rw [hd]
        exact ⟨h2, ⟨h3, hD⟩, h4, h5⟩
      · refine t_55_2 h_s h_r ?_
        rw [ei, h2, er]
        simp (disch := omega) only [am_s_id]
        refine ⟨fun q => by omega, fun _ => ⟨hrM, ⟨⟨h3, hD⟩, ht⟩, fun q => ?_, fun q => absurd hz q⟩⟩
        rw [hd]
  · rintro - M ⟨h1, h2, h3, h4, h5⟩
    have er : M r = m r := h5 r (by omega)
    have hb40 := hr.1
    refine ⟨_, M, ⟨rfl, ?_⟩, fun fx => ?_⟩
    · unfold Q_55
      rw [h1]
      exact ⟨h2, h3, h4, h5⟩
    · refine t_55_2 h_s h_r ?_
      rw [er]
      simp (disch := omega) only [am_s_id]
      refine ⟨fun _ => ?_, fun q => by omega⟩
      rw [h1]
theorem k_55 {s : Nat} {r : Nat} (h_s : s ∈ shL) (h_r : r ∈ rowL) (m : am_M)  (hq : (WFG (vw m s) ∧ m s 11 ≤ 9999) ∧ RWC m r ∧ 0 ≤ m r 2) : Q_55 m s r (W_55 m s r) := (wch_ok (x_55 h_s h_r m  hq)).1
theorem c_55 {fx : am_X0} {s : Nat} {r : Nat} (h_s : s ∈ shL) (h_r : r ∈ rowL) (m : am_M)  (hq : (WFG (vw m s) ∧ m s 11 ≤ 9999) ∧ RWC m r ∧ 0 ≤ m r 2) : rn fx 3 (0, 0) 55 0 (am_ent 3 [.inr (.inr (some s)), .inr (.inr (some r))]) [] (st0 m) ([.inl (((dlen (m (r + 1)) (nv (vw m s)) (m r 2).toNat : Nat) : Int))], st0 (W_55 m s r)) := (wch_ok (x_55 h_s h_r m  hq)).2 fx
/-- HeardBarrels.turnsOfFirst -/
theorem c_57 {fx : am_X0} {r : Nat} (h_r : r ∈ rowL) (m : am_M) (n : Int) (hq : RWC m r ∧ (0 ≤ n ∧ n ≤ m r 2) ∧ ∀ i, i < n.toNat → 0 ≤ m (r + 1) i ∧ m (r + 1) i < 4096) : rn fx 1 (0, 0) 57 0 (am_ent 4 [.inr (.inr (some r)), .inl n]) [] (st0 m) ([.inl ((sm (fun i => ((cnt (m (r + 1) i).toNat 12 : Nat) : Int)) n.toNat))], st0 (m)) := by
  show rn fx 1 (0, 0) 57 0 [some (.inr (.inr (some r))), some (.inl n), none, none] [] (st0 m) _
  refine t_57_0 h_r ?_
  obtain ⟨hr, hn, hv⟩ := hq
  have hr1 := hr.1
  have hfin := rn_loop (fx := fx) (d := 1) (mi := 57) (pc := 4) (cr := (0, 0)) (fun i => ([some (.inr (.inr (some (r)))), some (.inl (n)), some (.inl ((sm (fun i => ((cnt (m (r + 1) i).toNat 12 : Nat) : Int)) i))), some (.inl ((i : Int)))], m)) (n.toNat) (fun i hi o hnx => ?_) (o := ([.inl ((sm (fun i => ((cnt (m (r + 1) i).toNat 12 : Nat) : Int)) n.toNat))], st0 (m))) ?_
  · exact hfin
  · refine t_57_4 h_r ?_
    have ei : rat m r (i : Int) = m (r + 1) i := rat_in (by omega)
    simp (disch := omega) only [am_s_id, ei]
    exact ⟨fun q => by omega, fun _ => ⟨hr, hv i hi, hnx⟩⟩
  · refine t_57_4 h_r ?_
    simp (disch := omega) only [am_s_id]
    exact ⟨fun _ => by first | trivial | rfl, fun q => by omega⟩
/-- the state behind told days, none turned on one of them -/
def dwo (f : Nat → Int) (g : Nat → Int) (z : Nat) : Nat → (Nat → Int)
  | 0 => g
  | i + 1 => dy (if i = z then 0 else (f i).toNat) (dwo f g z i)
theorem dwo_s {f g : Nat → Int} {z i : Nat} : dwo f g z (i + 1) = dy (if i = z then 0 else (f i).toNat) (dwo f g z i) := rfl
def Q_64 (m : am_M) (r : Nat) (z : Int) (m' : am_M) : Prop := (∀ a, a < 7 ∨ 11 < a → m' a = m a) ∧ WFG (vw m' 7)
noncomputable def W_64 (m : am_M) (r : Nat) (z : Int) : am_M := wch 2 64 4 [.inr (.inr (some 0)), .inr (.inr (some r)), .inl z] m [.inl (((ons (dwo (m (r + 1)) (nv (vw m 2)) z.toNat (m r 2).toNat) 1 : Nat) : Int))] (Q_64 m r z)
theorem x_64 {r : Nat} (h_r : r ∈ rowL) (m : am_M) (z : Int) (hq : (WFG (vw m 2) ∧ m 2 11 ≤ 9999) ∧ (RWC m r ∧ 0 ≤ m r 2) ∧ (0 ≤ z ∧ z < 40) ∧ ∀ i, i < (m r 2).toNat → 0 ≤ m (r + 1) i ∧ m (r + 1) i < 4096) : ∃ m', wen 2 64 4 [.inr (.inr (some 0)), .inr (.inr (some r)), .inl z] m [.inl (((ons (dwo (m (r + 1)) (nv (vw m 2)) z.toNat (m r 2).toNat) 1 : Nat) : Int))] (Q_64 m r z) m' := by
  obtain ⟨⟨hw, hdt⟩, ⟨hr, hn⟩, hz, hv⟩ := hq
  obtain ⟨Z, rfl⟩ : ∃ Z : Nat, z = (Z : Int) := ⟨z.toNat, by omega⟩
  have hap := sr_apart (s := 20) (by decide) h_r
  have hr1 := hr.1
  unfold Q_64 wen
  rw [Int.toNat_natCast]
  have hlp := rn_loopE (σ := Unit) (d := 2) (mi := 64) (pc := 13) (fun i _ => [some (.inr (.inr (some 0))), some (.inr (.inr (some r))), some (.inl (Z : Int)), some (.inl (i : Int))])
    (fun i _ M => nv (vw M 7) = dwo (m (r + 1)) (nv (vw m 2)) Z i ∧ (WFG (vw M 7) ∧ M 7 11 ≤ 9999 + i) ∧ (∀ a, a < 7 ∨ 11 < a → M a = m a))
    (fun q M => q = [.inl ((ons (dwo (m (r + 1)) (nv (vw m 2)) Z (m r 2).toNat) 1 : Nat) : Int)] ∧ (∀ a, a < 7 ∨ 11 < a → M a = m a) ∧ WFG (vw M 7)) (m r 2).toNat ?_ ?_ () (tk m 7 2) ⟨?_, ⟨?_, ?_⟩, ?_⟩
  · obtain ⟨q, M, ⟨rfl, h1⟩, h2⟩ := hlp
    exact ⟨M, h1, fun fx => t_64_0 h_r ⟨by decide, h2 fx⟩⟩
  · rintro i hi - M ⟨h2, ⟨h3, hD⟩, h5⟩
    left
    have er : M r = m r := h5 r (by omega)
    have er1 : M (r + 1) = m (r + 1) := h5 (r + 1) (by omega)
    have hrM := RWC_of er er1 hr
    have ei : rat M r (i : Int) = m (r + 1) i := by
      rw [rat_in (by rw [er]; omega), er1]
    have hvi := hv i hi
    refine ⟨(), pw M 7 (if i = Z then 0 else (m (r + 1) i).toNat), ⟨?_, ⟨?_, ?_⟩, ?_⟩, fun fx o hnx => ?_⟩
    · rw [nv_pw h3, h2, dwo_s]
    · exact WFG_pw h3 (by omega)
    · rw [pw_11]; omega
    · intro a ha
      rw [pw_r (by omega)]
      exact h5 a ha
    · refine t_64_13 h_r ?_
      rw [er]
      simp (disch := omega) only [am_s_id, ei]
      refine ⟨fun q => by omega, fun _ => ⟨fun _ => hrM, fun y hy => ?_⟩⟩
      have ey : y.toNat = (if i = Z then 0 else (m (r + 1) i).toNat) ∧ 0 ≤ y ∧ y < 4096 := by
        rw [hy]
        by_cases hc : i = Z
        · subst hc
          rw [if_neg (by omega), if_pos rfl]
          exact ⟨rfl, by omega⟩
        · rw [if_pos (by omega), if_neg hc]
          exact ⟨rfl, hvi⟩
      rw [ey.1]
      exact ⟨⟨h3, ey.2⟩, hnx⟩
  · rintro - M ⟨h2, ⟨h3, hD⟩, h5⟩
    have er : M r = m r := h5 r (by omega)
    refine ⟨_, M, ⟨rfl, h5, h3⟩, fun fx => ?_⟩
    refine t_64_13 h_r ?_
    rw [er, h2]
    simp (disch := omega) only [am_s_id]
    exact ⟨fun _ => ⟨h3, by first | trivial | rfl⟩, fun q => by omega⟩
  · rw [nv_tk]; rfl
  · exact WFG_tk hw
  · have : tk m 7 2 7 11 = m 2 11 := by
      have := vw_tk_lo (m := m) (s := 7) (t := 2) (k := 1) (by decide)
      exact this
    rw [this]
    omega
  · intro a ha
    exact tk_r (by omega)
theorem k_64 {r : Nat} (h_r : r ∈ rowL) (m : am_M) (z : Int) (hq : (WFG (vw m 2) ∧ m 2 11 ≤ 9999) ∧ (RWC m r ∧ 0 ≤ m r 2) ∧ (0 ≤ z ∧ z < 40) ∧ ∀ i, i < (m r 2).toNat → 0 ≤ m (r + 1) i ∧ m (r + 1) i < 4096) : Q_64 m r z (W_64 m r z) := (wch_ok (x_64 h_r m z hq)).1
theorem c_64 {fx : am_X0} {r : Nat} (h_r : r ∈ rowL) (m : am_M) (z : Int) (hq : (WFG (vw m 2) ∧ m 2 11 ≤ 9999) ∧ (RWC m r ∧ 0 ≤ m r 2) ∧ (0 ≤ z ∧ z < 40) ∧ ∀ i, i < (m r 2).toNat → 0 ≤ m (r + 1) i ∧ m (r + 1) i < 4096) : rn fx 2 (0, 0) 64 0 (am_ent 4 [.inr (.inr (some 0)), .inr (.inr (some r)), .inl z]) [] (st0 m) ([.inl (((ons (dwo (m (r + 1)) (nv (vw m 2)) z.toNat (m r 2).toNat) 1 : Nat) : Int))], st0 (W_64 m r z)) := (wch_ok (x_64 h_r m z hq)).2 fx
