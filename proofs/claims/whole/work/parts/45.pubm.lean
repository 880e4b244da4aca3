theorem t_181_0 {fx : am_X0} {o : List am_V × am_S} {m : am_M} {a : Int}  (H : ∀ y1 : Int, y1 = (if ¬ am_s a = 0 then (if ¬ am_s a = am_s 1 then (-1) else (m 53 14)) else (m 53 13)) → o = ([.inl y1], st0 (mu m 53 0 0))) : rn fx 0 (0, 0) 181 0 [some (.inr (.inr (some 53))), some (.inl a)] [] (st0 m) o := by
  refine r_ld (pc' := 1) hM_181 d_181_0 rfl rfl ?_
  refine r_k (pc' := 2) (v := .inl 0) hM_181 d_181_1 rfl rfl ?_
  refine r_pI (pc' := 5) (k0 := 0) hM_181 d_181_2 rfl (by decide +kernel) ?_
  refine r_ld (pc' := 6) hM_181 d_181_5 rfl rfl ?_
  have K : ∀ y1 : Int, y1 = (if ¬ am_s a = 0 then (if ¬ am_s a = am_s 1 then (-1) else (m 53 14)) else (m 53 13)) → rn fx 0 (0, 0) 181 29 [some (.inr (.inr (some 53))), some (.inl a)] [.inl y1] (st0 (mu m 53 0 0)) o := by
    intro y1 hy1
    replace H := H y1 hy1
    subst H
    exact rt_i hM_181 d_181_29 rfl
  replace K := K _ rfl
  clear H
  refine r_if (pc' := 16) (pc2 := 9) hM_181 d_181_6 (by decide) rfl (fun hz1 => ?_) (fun hz1 => ?_)
  · have hz1 : ¬ am_s a = 0 := hz1
    rw [if_pos hz1] at K
    refine r_ld (pc' := 17) hM_181 d_181_16 rfl rfl ?_
    refine r_k (pc' := 18) (v := .inl 1) hM_181 d_181_17 rfl rfl ?_
    refine r_ic (pc' := 28) (pc2 := 21) hM_181 d_181_18 (by decide) rfl (fun hz2 => ?_) (fun hz2 => ?_)
    · have hz2 : ¬ am_s a = am_s 1 := hz2
      rw [if_pos hz2] at K
      refine r_k (pc' := 29) (v := .inl (-1)) hM_181 d_181_28 rfl rfl ?_
      exact K
    · have hz2 : ¬ (¬ am_s a = am_s 1) := hz2
      rw [if_neg hz2] at K
      refine r_ld (pc' := 22) hM_181 d_181_21 rfl rfl ?_
      refine r_gIe (pc' := 25) (k0 := 14) (z := (m 53 14)) hM_181 d_181_22 rfl (by decide +kernel) (mu_k (by omega)) ?_
      refine r_go (pc' := 29) hM_181 d_181_25 (by decide) ?_
      exact K
  · have hz1 : ¬ (¬ am_s a = 0) := hz1
    rw [if_neg hz1] at K
    refine r_ld (pc' := 10) hM_181 d_181_9 rfl rfl ?_
    refine r_gIe (pc' := 13) (k0 := 13) (z := (m 53 13)) hM_181 d_181_10 rfl (by decide +kernel) (mu_k (by omega)) ?_
    refine r_go (pc' := 29) hM_181 d_181_13 (by decide) ?_
    exact K
def v_181 (m : am_M) (a : Int) : Int := (if ¬ am_s a = 0 then (if ¬ am_s a = am_s 1 then (-1) else (m 53 14)) else (m 53 13))
def w_181 (m : am_M) (a : Int) : am_M := (mu m 53 0 0)
/-- HeardBarrelsModel.fault -/
theorem c_181 {fx : am_X0}   (m : am_M) (a : Int)  : rn fx 0 (0, 0) 181 0 (am_ent 2 [.inr (.inr (some 53)), .inl a]) [] (st0 m) ([.inl (v_181 m a)], st0 (w_181 m a)) := by
  show rn fx 0 (0, 0) 181 0 [some (.inr (.inr (some 53))), some (.inl a)] [] (st0 m) _
  refine t_181_0  ?_
  intro y1 hy1
  subst hy1
  simp only [v_181, w_181]
theorem t_182_0 {fx : am_X0} {o : List am_V × am_S} {m : am_M} {p : Int} {a : Int}  (H : (WFG ((mu m 53 0 0) 54)) ∧ (((¬ (am_s ((if 0 ≤ am_t (am_s p) ∧ am_t (am_s p) < (mu m 53 0 0) 54 0 then 1 else 0)) = 0)) → (¬ (am_s ((if am_t 0 ≤ am_t (am_s a) ∧ am_t (am_s a) ≤ am_t 3 then 1 else 0)) = 0)) → (0 ≤ am_s ((8 + (12 * a)) + p) ∧ am_s ((8 + (12 * a)) + p) < (168 : Nat))) ∧ (∀ y1 : Int, y1 = (if am_s ((if 0 ≤ am_t (am_s p) ∧ am_t (am_s p) < (mu m 53 0 0) 54 0 then 1 else 0)) = 0 then (-2) else (if am_s ((if am_t 0 ≤ am_t (am_s a) ∧ am_t (am_s a) ≤ am_t 3 then 1 else 0)) = 0 then (-2) else (m 54 ((am_s ((8 + (12 * a)) + p)).toNat)))) → o = ([.inl y1], st0 (mu m 53 0 0))))) : rn fx 2 (0, 0) 182 0 [some (.inr (.inr (some 53))), some (.inl p), some (.inl a)] [] (st0 m) o := by
  refine r_ld (pc' := 1) hM_182 d_182_0 rfl rfl ?_
  refine r_k (pc' := 2) (v := .inl 0) hM_182 d_182_1 rfl rfl ?_
  refine r_pI (pc' := 5) (k0 := 0) hM_182 d_182_2 rfl (by decide +kernel) ?_
  refine r_ld (pc' := 6) hM_182 d_182_5 rfl rfl ?_
  refine r_ld (pc' := 7) hM_182 d_182_6 rfl rfl ?_
  refine r_stk (pc' := 8) (st' := [.inr (.inl (am_s p)), .inr (.inr (some 53))]) hM_182 d_182_7 rfl rfl ?_
  obtain ⟨hz1, H⟩ := H
  refine r_cl (pc' := 11) (c := (183, 0)) (a := [.inr (.inr (some 53)), .inr (.inl (am_s p))]) (q := []) hM_182 d_182_8 rfl (by decide +kernel) hM_183 rfl rfl rfl (Nat.le_of_ble_eq_true rfl) (Nat.le_of_ble_eq_true rfl) (Or.inr rfl) (n_183  (mu m 53 0 0) (am_s p) hz1) (Nat.le_of_ble_eq_true rfl) ?_
  show rn fx 2 (0, 0) 182 11 [some (.inr (.inr (some 53))), some (.inl p), some (.inl a)] [.inl ((if 0 ≤ am_t (am_s p) ∧ am_t (am_s p) < (mu m 53 0 0) 54 0 then 1 else 0))] (st0 (mu m 53 0 0)) o
  obtain ⟨hz4, H⟩ := H
  have K : ∀ y1 : Int, y1 = (if am_s ((if 0 ≤ am_t (am_s p) ∧ am_t (am_s p) < (mu m 53 0 0) 54 0 then 1 else 0)) = 0 then (-2) else (if am_s ((if am_t 0 ≤ am_t (am_s a) ∧ am_t (am_s a) ≤ am_t 3 then 1 else 0)) = 0 then (-2) else (m 54 ((am_s ((8 + (12 * a)) + p)).toNat)))) → rn fx 2 (0, 0) 182 45 [some (.inr (.inr (some 53))), some (.inl p), some (.inl a)] [.inl y1] (st0 (mu m 53 0 0)) o := by
    intro y1 hy1
    replace H := H y1 hy1
    subst H
    exact rt_i hM_182 d_182_45 rfl
  replace K := K _ rfl
  clear H
  refine r_if (pc' := 43) (pc2 := 14) hM_182 d_182_11 (by decide) rfl (fun hz2 => ?_) (fun hz2 => ?_)
  · have hz2 : am_s ((if 0 ≤ am_t (am_s p) ∧ am_t (am_s p) < (mu m 53 0 0) 54 0 then 1 else 0)) = 0 := hz2
    rw [if_pos hz2] at K
    refine r_k (pc' := 45) (v := .inl (-2)) hM_182 d_182_43 rfl rfl ?_
    exact K
  · have hz2 : ¬ (am_s ((if 0 ≤ am_t (am_s p) ∧ am_t (am_s p) < (mu m 53 0 0) 54 0 then 1 else 0)) = 0) := hz2
    rw [if_neg hz2] at K
    refine r_ld (pc' := 15) hM_182 d_182_14 rfl rfl ?_
    refine r_stk (pc' := 16) (st' := [.inr (.inl (am_s a))]) hM_182 d_182_15 rfl rfl ?_
    refine r_k (pc' := 17) (v := .inr (.inl 0)) hM_182 d_182_16 rfl rfl ?_
    refine r_k (pc' := 20) (v := .inr (.inl 3)) hM_182 d_182_17 rfl (by decide +kernel) ?_
    refine r_cl (pc' := 23) (c := (167, 2)) (a := [.inr (.inl (am_s a)), .inr (.inl 0), .inr (.inl 3)]) (q := []) hM_182 d_182_20 rfl (by decide +kernel) hM_167 rfl rfl rfl (Nat.le_of_ble_eq_true rfl) (Nat.le_of_ble_eq_true rfl) (Or.inl rfl) (n_167  (mu m 53 0 0) (am_s a) 0 3) (Nat.le_of_ble_eq_true rfl) ?_
    show rn fx 2 (0, 0) 182 23 [some (.inr (.inr (some 53))), some (.inl p), some (.inl a)] [.inl ((if am_t 0 ≤ am_t (am_s a) ∧ am_t (am_s a) ≤ am_t 3 then 1 else 0))] (st0 (mu m 53 0 0)) o
    refine r_if (pc' := 43) (pc2 := 26) hM_182 d_182_23 (by decide) rfl (fun hz3 => ?_) (fun hz3 => ?_)
    · have hz3 : am_s ((if am_t 0 ≤ am_t (am_s a) ∧ am_t (am_s a) ≤ am_t 3 then 1 else 0)) = 0 := hz3
      rw [if_pos hz3] at K
      refine r_k (pc' := 45) (v := .inl (-2)) hM_182 d_182_43 rfl rfl ?_
      exact K
    · have hz3 : ¬ (am_s ((if am_t 0 ≤ am_t (am_s a) ∧ am_t (am_s a) ≤ am_t 3 then 1 else 0)) = 0) := hz3
      rw [if_neg hz3] at K
      refine r_ld (pc' := 27) hM_182 d_182_26 rfl rfl ?_
      refine r_gR (pc' := 30) (v := 54) hM_182 d_182_27 rfl (by decide +kernel) ?_
      refine r_k (pc' := 32) (v := .inl 8) hM_182 d_182_30 rfl rfl ?_
      refine r_k (pc' := 34) (v := .inl 12) hM_182 d_182_32 rfl rfl ?_
      refine r_ld (pc' := 35) hM_182 d_182_34 rfl rfl ?_
      refine r_b (pc' := 36) (z := (12 * a)) hM_182 d_182_35 rfl rfl ?_
      refine r_b (pc' := 37) (z := (8 + (12 * a))) hM_182 d_182_36 rfl rfl ?_
      refine r_ld (pc' := 38) hM_182 d_182_37 rfl rfl ?_
      refine r_b (pc' := 39) (z := ((8 + (12 * a)) + p)) hM_182 d_182_38 rfl rfl ?_
      refine r_iae (pc' := 40) (n := 168) (z := (m 54 ((am_s ((8 + (12 * a)) + p)).toNat))) hM_182 d_182_39 rfl rfl (hz4 hz2 hz3) (mu_r (by decide)) ?_
      refine r_go (pc' := 45) hM_182 d_182_40 (by decide) ?_
      exact K
def v_182 (m : am_M) (p : Int) (a : Int) : Int := (if am_s ((if 0 ≤ am_t (am_s p) ∧ am_t (am_s p) < (mu m 53 0 0) 54 0 then 1 else 0)) = 0 then (-2) else (if am_s ((if am_t 0 ≤ am_t (am_s a) ∧ am_t (am_s a) ≤ am_t 3 then 1 else 0)) = 0 then (-2) else (m 54 ((am_s ((8 + (12 * a)) + p)).toNat))))
def w_182 (m : am_M) (p : Int) (a : Int) : am_M := (mu m 53 0 0)
def q_182 (m : am_M) (p : Int) (a : Int) : Prop := (WFG ((mu m 53 0 0) 54)) ∧ ((¬ (am_s ((if 0 ≤ am_t (am_s p) ∧ am_t (am_s p) < (mu m 53 0 0) 54 0 then 1 else 0)) = 0)) → (¬ (am_s ((if am_t 0 ≤ am_t (am_s a) ∧ am_t (am_s a) ≤ am_t 3 then 1 else 0)) = 0)) → (0 ≤ am_s ((8 + (12 * a)) + p) ∧ am_s ((8 + (12 * a)) + p) < (168 : Nat)))
/-- HeardBarrelsModel.barrel -/
theorem c_182 {fx : am_X0}   (m : am_M) (p : Int) (a : Int) (hq : q_182 m p a) : rn fx 2 (0, 0) 182 0 (am_ent 3 [.inr (.inr (some 53)), .inl p, .inl a]) [] (st0 m) ([.inl (v_182 m p a)], st0 (w_182 m p a)) := by
  unfold q_182 at hq
  show rn fx 2 (0, 0) 182 0 [some (.inr (.inr (some 53))), some (.inl p), some (.inl a)] [] (st0 m) _
  refine t_182_0  ?_
  obtain ⟨hb0_0, hq⟩ := hq
  refine ⟨hb0_0, ?_⟩
  have hb0_0 := hq
  refine ⟨hb0_0, ?_⟩
  intro y1 hy1
  subst hy1
  simp only [v_182, w_182]
theorem t_184_0 {fx : am_X0} {o : List am_V × am_S} {m : am_M} {p : Int} {q : Int}  (H : (WFG ((mu m 53 0 0) 54)) ∧ (((am_s ((if 0 ≤ am_t (am_s p) ∧ am_t (am_s p) < (mu m 53 0 0) 54 0 then 1 else 0)) = 0) → o = ([.inl (-2)], st0 (mu m 53 0 0))) ∧ (¬ (am_s ((if 0 ≤ am_t (am_s p) ∧ am_t (am_s p) < (mu m 53 0 0) 54 0 then 1 else 0)) = 0) → ((¬ am_s ((if 0 ≤ am_t (am_s q) ∧ am_t (am_s q) < (mu m 53 0 0) 54 0 then 1 else 0)) = 0) → (0 ≤ am_s (8 + p) ∧ am_s (8 + p) < (168 : Nat)) ∧ ((0 ≤ am_s (20 + p) ∧ am_s (20 + p) < (168 : Nat)) ∧ ((0 ≤ am_s (32 + p) ∧ am_s (32 + p) < (168 : Nat)) ∧ ((0 ≤ am_s (44 + p) ∧ am_s (44 + p) < (168 : Nat)) ∧ ((0 ≤ am_s (8 + q) ∧ am_s (8 + q) < (168 : Nat)) ∧ ((0 ≤ am_s (20 + q) ∧ am_s (20 + q) < (168 : Nat)) ∧ ((0 ≤ am_s (32 + q) ∧ am_s (32 + q) < (168 : Nat)) ∧ ((0 ≤ am_s (44 + q) ∧ am_s (44 + q) < (168 : Nat)) ∧ ((q_185 (mu m 53 0 0) p (m 54 ((am_s (8 + q)).toNat)) (m 54 ((am_s (20 + q)).toNat)) (m 54 ((am_s (32 + q)).toNat)) (m 54 ((am_s (44 + q)).toNat))) ∧ ((q_185 (w_185 (mu m 53 0 0) p (m 54 ((am_s (8 + q)).toNat)) (m 54 ((am_s (20 + q)).toNat)) (m 54 ((am_s (32 + q)).toNat)) (m 54 ((am_s (44 + q)).toNat))) q (m 54 ((am_s (8 + p)).toNat)) (m 54 ((am_s (20 + p)).toNat)) (m 54 ((am_s (32 + p)).toNat)) (m 54 ((am_s (44 + p)).toNat))) ∧ (o = ([.inl 0], st0 (w_185 (w_185 (mu m 53 0 0) p (m 54 ((am_s (8 + q)).toNat)) (m 54 ((am_s (20 + q)).toNat)) (m 54 ((am_s (32 + q)).toNat)) (m 54 ((am_s (44 + q)).toNat))) q (m 54 ((am_s (8 + p)).toNat)) (m 54 ((am_s (20 + p)).toNat)) (m 54 ((am_s (32 + p)).toNat)) (m 54 ((am_s (44 + p)).toNat))))))))))))))) ∧ (¬ (¬ am_s ((if 0 ≤ am_t (am_s q) ∧ am_t (am_s q) < (mu m 53 0 0) 54 0 then 1 else 0)) = 0) → o = ([.inl (-2)], st0 (mu m 53 0 0)))))) : rn fx 2 (0, 0) 184 0 [some (.inr (.inr (some 53))), some (.inl p), some (.inl q), none, none, none, none] [] (st0 m) o := by
  refine r_ld (pc' := 1) hM_184 d_184_0 rfl rfl ?_
  refine r_k (pc' := 2) (v := .inl 0) hM_184 d_184_1 rfl rfl ?_
  refine r_pI (pc' := 5) (k0 := 0) hM_184 d_184_2 rfl (by decide +kernel) ?_
  refine r_ld (pc' := 6) hM_184 d_184_5 rfl rfl ?_
  refine r_ld (pc' := 7) hM_184 d_184_6 rfl rfl ?_
  refine r_stk (pc' := 8) (st' := [.inr (.inl (am_s p)), .inr (.inr (some 53))]) hM_184 d_184_7 rfl rfl ?_
  obtain ⟨hz1, H⟩ := H
  refine r_cl (pc' := 11) (c := (183, 0)) (a := [.inr (.inr (some 53)), .inr (.inl (am_s p))]) (q := []) hM_184 d_184_8 rfl (by decide +kernel) hM_183 rfl rfl rfl (Nat.le_of_ble_eq_true rfl) (Nat.le_of_ble_eq_true rfl) (Or.inr rfl) (n_183  (mu m 53 0 0) (am_s p) hz1) (Nat.le_of_ble_eq_true rfl) ?_
  show rn fx 2 (0, 0) 184 11 [some (.inr (.inr (some 53))), some (.inl p), some (.inl q), none, none, none, none] [.inl ((if 0 ≤ am_t (am_s p) ∧ am_t (am_s p) < (mu m 53 0 0) 54 0 then 1 else 0))] (st0 (mu m 53 0 0)) o
  refine r_if (pc' := 23) (pc2 := 14) hM_184 d_184_11 (by decide) rfl (fun hz2 => ?_) (fun hz2 => ?_)
  · have H := H.1 hz2
    refine r_k (pc' := 25) (v := .inl (-2)) hM_184 d_184_23 rfl rfl ?_
    subst H
    exact rt_i hM_184 d_184_25 rfl
  · have H := H.2 hz2
    refine r_ld (pc' := 15) hM_184 d_184_14 rfl rfl ?_
    refine r_ld (pc' := 16) hM_184 d_184_15 rfl rfl ?_
    refine r_stk (pc' := 17) (st' := [.inr (.inl (am_s q)), .inr (.inr (some 53))]) hM_184 d_184_16 rfl rfl ?_
    refine r_cl (pc' := 20) (c := (183, 0)) (a := [.inr (.inr (some 53)), .inr (.inl (am_s q))]) (q := []) hM_184 d_184_17 rfl (by decide +kernel) hM_183 rfl rfl rfl (Nat.le_of_ble_eq_true rfl) (Nat.le_of_ble_eq_true rfl) (Or.inr rfl) (n_183  (mu m 53 0 0) (am_s q) hz1) (Nat.le_of_ble_eq_true rfl) ?_
    show rn fx 2 (0, 0) 184 20 [some (.inr (.inr (some 53))), some (.inl p), some (.inl q), none, none, none, none] [.inl ((if 0 ≤ am_t (am_s q) ∧ am_t (am_s q) < (mu m 53 0 0) 54 0 then 1 else 0))] (st0 (mu m 53 0 0)) o
    refine r_if (pc' := 26) (pc2 := 23) hM_184 d_184_20 (by decide) rfl (fun hz3 => ?_) (fun hz3 => ?_)
    · have H := H.1 hz3
      refine r_ld (pc' := 27) hM_184 d_184_26 rfl rfl ?_
      refine r_gR (pc' := 30) (v := 54) hM_184 d_184_27 rfl (by decide +kernel) ?_
      refine r_k (pc' := 32) (v := .inl 8) hM_184 d_184_30 rfl rfl ?_
      refine r_ld (pc' := 33) hM_184 d_184_32 rfl rfl ?_
      refine r_b (pc' := 34) (z := (8 + p)) hM_184 d_184_33 rfl rfl ?_
      obtain ⟨hz4, H⟩ := H
      refine r_iae (pc' := 35) (n := 168) (z := (m 54 ((am_s (8 + p)).toNat))) hM_184 d_184_34 rfl rfl hz4 (mu_r (by decide)) ?_
      refine r_sto (pc' := 36) (ls' := [some (.inr (.inr (some 53))), some (.inl p), some (.inl q), some (.inl (m 54 ((am_s (8 + p)).toNat))), none, none, none]) hM_184 d_184_35 rfl rfl ?_
      refine r_ld (pc' := 37) hM_184 d_184_36 rfl rfl ?_
      refine r_gR (pc' := 40) (v := 54) hM_184 d_184_37 rfl (by decide +kernel) ?_
      refine r_k (pc' := 42) (v := .inl 20) hM_184 d_184_40 rfl rfl ?_
      refine r_ld (pc' := 43) hM_184 d_184_42 rfl rfl ?_
      refine r_b (pc' := 44) (z := (20 + p)) hM_184 d_184_43 rfl rfl ?_
      obtain ⟨hz5, H⟩ := H
      refine r_iae (pc' := 45) (n := 168) (z := (m 54 ((am_s (20 + p)).toNat))) hM_184 d_184_44 rfl rfl hz5 (mu_r (by decide)) ?_
      refine r_sto (pc' := 47) (ls' := [some (.inr (.inr (some 53))), some (.inl p), some (.inl q), some (.inl (m 54 ((am_s (8 + p)).toNat))), some (.inl (m 54 ((am_s (20 + p)).toNat))), none, none]) hM_184 d_184_45 rfl rfl ?_
      refine r_ld (pc' := 48) hM_184 d_184_47 rfl rfl ?_
      refine r_gR (pc' := 51) (v := 54) hM_184 d_184_48 rfl (by decide +kernel) ?_
      refine r_k (pc' := 53) (v := .inl 32) hM_184 d_184_51 rfl rfl ?_
      refine r_ld (pc' := 54) hM_184 d_184_53 rfl rfl ?_
      refine r_b (pc' := 55) (z := (32 + p)) hM_184 d_184_54 rfl rfl ?_
      obtain ⟨hz6, H⟩ := H
      refine r_iae (pc' := 56) (n := 168) (z := (m 54 ((am_s (32 + p)).toNat))) hM_184 d_184_55 rfl rfl hz6 (mu_r (by decide)) ?_
      refine r_sto (pc' := 58) (ls' := [some (.inr (.inr (some 53))), some (.inl p), some (.inl q), some (.inl (m 54 ((am_s (8 + p)).toNat))), some (.inl (m 54 ((am_s (20 + p)).toNat))), some (.inl (m 54 ((am_s (32 + p)).toNat))), none]) hM_184 d_184_56 rfl rfl ?_
      refine r_ld (pc' := 59) hM_184 d_184_58 rfl rfl ?_
      refine r_gR (pc' := 62) (v := 54) hM_184 d_184_59 rfl (by decide +kernel) ?_
      refine r_k (pc' := 64) (v := .inl 44) hM_184 d_184_62 rfl rfl ?_
      refine r_ld (pc' := 65) hM_184 d_184_64 rfl rfl ?_
      refine r_b (pc' := 66) (z := (44 + p)) hM_184 d_184_65 rfl rfl ?_
      obtain ⟨hz7, H⟩ := H
      refine r_iae (pc' := 67) (n := 168) (z := (m 54 ((am_s (44 + p)).toNat))) hM_184 d_184_66 rfl rfl hz7 (mu_r (by decide)) ?_
      refine r_sto (pc' := 69) (ls' := [some (.inr (.inr (some 53))), some (.inl p), some (.inl q), some (.inl (m 54 ((am_s (8 + p)).toNat))), some (.inl (m 54 ((am_s (20 + p)).toNat))), some (.inl (m 54 ((am_s (32 + p)).toNat))), some (.inl (m 54 ((am_s (44 + p)).toNat)))]) hM_184 d_184_67 rfl rfl ?_
      refine r_ld (pc' := 70) hM_184 d_184_69 rfl rfl ?_
      refine r_ld (pc' := 71) hM_184 d_184_70 rfl rfl ?_
      refine r_ld (pc' := 72) hM_184 d_184_71 rfl rfl ?_
      refine r_gR (pc' := 75) (v := 54) hM_184 d_184_72 rfl (by decide +kernel) ?_
      refine r_k (pc' := 77) (v := .inl 8) hM_184 d_184_75 rfl rfl ?_
      refine r_ld (pc' := 78) hM_184 d_184_77 rfl rfl ?_
      refine r_b (pc' := 79) (z := (8 + q)) hM_184 d_184_78 rfl rfl ?_
      obtain ⟨hz8, H⟩ := H
      refine r_iae (pc' := 80) (n := 168) (z := (m 54 ((am_s (8 + q)).toNat))) hM_184 d_184_79 rfl rfl hz8 (mu_r (by decide)) ?_
      refine r_ld (pc' := 81) hM_184 d_184_80 rfl rfl ?_
      refine r_gR (pc' := 84) (v := 54) hM_184 d_184_81 rfl (by decide +kernel) ?_
      refine r_k (pc' := 86) (v := .inl 20) hM_184 d_184_84 rfl rfl ?_
      refine r_ld (pc' := 87) hM_184 d_184_86 rfl rfl ?_
      refine r_b (pc' := 88) (z := (20 + q)) hM_184 d_184_87 rfl rfl ?_
      obtain ⟨hz9, H⟩ := H
      refine r_iae (pc' := 89) (n := 168) (z := (m 54 ((am_s (20 + q)).toNat))) hM_184 d_184_88 rfl rfl hz9 (mu_r (by decide)) ?_
      refine r_ld (pc' := 90) hM_184 d_184_89 rfl rfl ?_
      refine r_gR (pc' := 93) (v := 54) hM_184 d_184_90 rfl (by decide +kernel) ?_
      refine r_k (pc' := 95) (v := .inl 32) hM_184 d_184_93 rfl rfl ?_
      refine r_ld (pc' := 96) hM_184 d_184_95 rfl rfl ?_
      refine r_b (pc' := 97) (z := (32 + q)) hM_184 d_184_96 rfl rfl ?_
      obtain ⟨hz10, H⟩ := H
      refine r_iae (pc' := 98) (n := 168) (z := (m 54 ((am_s (32 + q)).toNat))) hM_184 d_184_97 rfl rfl hz10 (mu_r (by decide)) ?_
      refine r_ld (pc' := 99) hM_184 d_184_98 rfl rfl ?_
      refine r_gR (pc' := 102) (v := 54) hM_184 d_184_99 rfl (by decide +kernel) ?_
      refine r_k (pc' := 104) (v := .inl 44) hM_184 d_184_102 rfl rfl ?_
      refine r_ld (pc' := 105) hM_184 d_184_104 rfl rfl ?_
      refine r_b (pc' := 106) (z := (44 + q)) hM_184 d_184_105 rfl rfl ?_
      obtain ⟨hz11, H⟩ := H
      refine r_iae (pc' := 107) (n := 168) (z := (m 54 ((am_s (44 + q)).toNat))) hM_184 d_184_106 rfl rfl hz11 (mu_r (by decide)) ?_
      obtain ⟨hz12, H⟩ := H
      refine r_cl (pc' := 110) (c := (185, 0)) (a := [.inr (.inr (some 53)), .inl p, .inl (m 54 ((am_s (8 + q)).toNat)), .inl (m 54 ((am_s (20 + q)).toNat)), .inl (m 54 ((am_s (32 + q)).toNat)), .inl (m 54 ((am_s (44 + q)).toNat))]) (q := []) hM_184 d_184_107 rfl (by decide +kernel) hM_185 rfl rfl rfl (Nat.le_of_ble_eq_true rfl) (Nat.le_of_ble_eq_true rfl) (Or.inr rfl) (c_185  (mu m 53 0 0) p (m 54 ((am_s (8 + q)).toNat)) (m 54 ((am_s (20 + q)).toNat)) (m 54 ((am_s (32 + q)).toNat)) (m 54 ((am_s (44 + q)).toNat)) hz12) (Nat.le_of_ble_eq_true rfl) ?_
      show rn fx 2 (0, 0) 184 110 [some (.inr (.inr (some 53))), some (.inl p), some (.inl q), some (.inl (m 54 ((am_s (8 + p)).toNat))), some (.inl (m 54 ((am_s (20 + p)).toNat))), some (.inl (m 54 ((am_s (32 + p)).toNat))), some (.inl (m 54 ((am_s (44 + p)).toNat)))] [] (st0 (w_185 (mu m 53 0 0) p (m 54 ((am_s (8 + q)).toNat)) (m 54 ((am_s (20 + q)).toNat)) (m 54 ((am_s (32 + q)).toNat)) (m 54 ((am_s (44 + q)).toNat)))) o
      refine r_ld (pc' := 111) hM_184 d_184_110 rfl rfl ?_
      refine r_ld (pc' := 112) hM_184 d_184_111 rfl rfl ?_
      refine r_ld (pc' := 113) hM_184 d_184_112 rfl rfl ?_
      refine r_ld (pc' := 115) hM_184 d_184_113 rfl rfl ?_
      refine r_ld (pc' := 117) hM_184 d_184_115 rfl rfl ?_
      refine r_ld (pc' := 119) hM_184 d_184_117 rfl rfl ?_
      obtain ⟨hz13, H⟩ := H
      refine r_cl (pc' := 122) (c := (185, 0)) (a := [.inr (.inr (some 53)), .inl q, .inl (m 54 ((am_s (8 + p)).toNat)), .inl (m 54 ((am_s (20 + p)).toNat)), .inl (m 54 ((am_s (32 + p)).toNat)), .inl (m 54 ((am_s (44 + p)).toNat))]) (q := []) hM_184 d_184_119 rfl (by decide +kernel) hM_185 rfl rfl rfl (Nat.le_of_ble_eq_true rfl) (Nat.le_of_ble_eq_true rfl) (Or.inr rfl) (c_185  (w_185 (mu m 53 0 0) p (m 54 ((am_s (8 + q)).toNat)) (m 54 ((am_s (20 + q)).toNat)) (m 54 ((am_s (32 + q)).toNat)) (m 54 ((am_s (44 + q)).toNat))) q (m 54 ((am_s (8 + p)).toNat)) (m 54 ((am_s (20 + p)).toNat)) (m 54 ((am_s (32 + p)).toNat)) (m 54 ((am_s (44 + p)).toNat)) hz13) (Nat.le_of_ble_eq_true rfl) ?_
      show rn fx 2 (0, 0) 184 122 [some (.inr (.inr (some 53))), some (.inl p), some (.inl q), some (.inl (m 54 ((am_s (8 + p)).toNat))), some (.inl (m 54 ((am_s (20 + p)).toNat))), some (.inl (m 54 ((am_s (32 + p)).toNat))), some (.inl (m 54 ((am_s (44 + p)).toNat)))] [] (st0 (w_185 (w_185 (mu m 53 0 0) p (m 54 ((am_s (8 + q)).toNat)) (m 54 ((am_s (20 + q)).toNat)) (m 54 ((am_s (32 + q)).toNat)) (m 54 ((am_s (44 + q)).toNat))) q (m 54 ((am_s (8 + p)).toNat)) (m 54 ((am_s (20 + p)).toNat)) (m 54 ((am_s (32 + p)).toNat)) (m 54 ((am_s (44 + p)).toNat)))) o
      refine r_k (pc' := 123) (v := .inl 0) hM_184 d_184_122 rfl rfl ?_
      subst H
      exact rt_i hM_184 d_184_123 rfl
    · have H := H.2 hz3
      refine r_k (pc' := 25) (v := .inl (-2)) hM_184 d_184_23 rfl rfl ?_
      subst H
      exact rt_i hM_184 d_184_25 rfl
def v_184 (m : am_M) (p : Int) (q : Int) : Int := (if am_s ((if 0 ≤ am_t (am_s p) ∧ am_t (am_s p) < (mu m 53 0 0) 54 0 then 1 else 0)) = 0 then (-2) else (if ¬ am_s ((if 0 ≤ am_t (am_s q) ∧ am_t (am_s q) < (mu m 53 0 0) 54 0 then 1 else 0)) = 0 then 0 else (-2)))
def w_184 (m : am_M) (p : Int) (q : Int) : am_M := (if am_s ((if 0 ≤ am_t (am_s p) ∧ am_t (am_s p) < (mu m 53 0 0) 54 0 then 1 else 0)) = 0 then (mu m 53 0 0) else (if ¬ am_s ((if 0 ≤ am_t (am_s q) ∧ am_t (am_s q) < (mu m 53 0 0) 54 0 then 1 else 0)) = 0 then (w_185 (w_185 (mu m 53 0 0) p (m 54 ((am_s (8 + q)).toNat)) (m 54 ((am_s (20 + q)).toNat)) (m 54 ((am_s (32 + q)).toNat)) (m 54 ((am_s (44 + q)).toNat))) q (m 54 ((am_s (8 + p)).toNat)) (m 54 ((am_s (20 + p)).toNat)) (m 54 ((am_s (32 + p)).toNat)) (m 54 ((am_s (44 + p)).toNat))) else (mu m 53 0 0)))
def q_184 (m : am_M) (p : Int) (q : Int) : Prop := (WFG ((mu m 53 0 0) 54)) ∧ ((¬ (am_s ((if 0 ≤ am_t (am_s p) ∧ am_t (am_s p) < (mu m 53 0 0) 54 0 then 1 else 0)) = 0) → (((¬ am_s ((if 0 ≤ am_t (am_s q) ∧ am_t (am_s q) < (mu m 53 0 0) 54 0 then 1 else 0)) = 0) → (0 ≤ am_s (8 + p) ∧ am_s (8 + p) < (168 : Nat)) ∧ (0 ≤ am_s (20 + p) ∧ am_s (20 + p) < (168 : Nat)) ∧ (0 ≤ am_s (32 + p) ∧ am_s (32 + p) < (168 : Nat)) ∧ (0 ≤ am_s (44 + p) ∧ am_s (44 + p) < (168 : Nat)) ∧ (0 ≤ am_s (8 + q) ∧ am_s (8 + q) < (168 : Nat)) ∧ (0 ≤ am_s (20 + q) ∧ am_s (20 + q) < (168 : Nat)) ∧ (0 ≤ am_s (32 + q) ∧ am_s (32 + q) < (168 : Nat)) ∧ (0 ≤ am_s (44 + q) ∧ am_s (44 + q) < (168 : Nat)) ∧ (q_185 (mu m 53 0 0) p (m 54 ((am_s (8 + q)).toNat)) (m 54 ((am_s (20 + q)).toNat)) (m 54 ((am_s (32 + q)).toNat)) (m 54 ((am_s (44 + q)).toNat))) ∧ (q_185 (w_185 (mu m 53 0 0) p (m 54 ((am_s (8 + q)).toNat)) (m 54 ((am_s (20 + q)).toNat)) (m 54 ((am_s (32 + q)).toNat)) (m 54 ((am_s (44 + q)).toNat))) q (m 54 ((am_s (8 + p)).toNat)) (m 54 ((am_s (20 + p)).toNat)) (m 54 ((am_s (32 + p)).toNat)) (m 54 ((am_s (44 + p)).toNat)))))))
/-- HeardBarrelsModel.swap -/
theorem c_184 {fx : am_X0}   (m : am_M) (p : Int) (q : Int) (hq : q_184 m p q) : rn fx 2 (0, 0) 184 0 (am_ent 7 [.inr (.inr (some 53)), .inl p, .inl q]) [] (st0 m) ([.inl (v_184 m p q)], st0 (w_184 m p q)) := by
  unfold q_184 at hq
  show rn fx 2 (0, 0) 184 0 [some (.inr (.inr (some 53))), some (.inl p), some (.inl q), none, none, none, none] [] (st0 m) _
  refine t_184_0  ?_
  obtain ⟨hb0_0, hq⟩ := hq
  refine ⟨hb0_0, ?_⟩
  refine ⟨fun hc0 => ?_, fun hc0 => ?_⟩
  · skip
    simp only [v_184, w_184, if_pos hc0]
  · have hq := hq hc0
    refine ⟨fun hc1 => ?_, fun hc1 => ?_⟩
    · have hq := hq hc1
      obtain ⟨hb2_0, hq⟩ := hq
      refine ⟨hb2_0, ?_⟩
      obtain ⟨hb2_0, hq⟩ := hq
      refine ⟨hb2_0, ?_⟩
      obtain ⟨hb2_0, hq⟩ := hq
      refine ⟨hb2_0, ?_⟩
      obtain ⟨hb2_0, hq⟩ := hq
      refine ⟨hb2_0, ?_⟩
      obtain ⟨hb2_0, hq⟩ := hq
      refine ⟨hb2_0, ?_⟩
      obtain ⟨hb2_0, hq⟩ := hq
      refine ⟨hb2_0, ?_⟩
      obtain ⟨hb2_0, hq⟩ := hq
      refine ⟨hb2_0, ?_⟩
      obtain ⟨hb2_0, hq⟩ := hq
      refine ⟨hb2_0, ?_⟩
      obtain ⟨hb2_0, hq⟩ := hq
      refine ⟨hb2_0, ?_⟩
      have hb2_0 := hq
      refine ⟨hb2_0, ?_⟩
      simp only [v_184, w_184, if_neg hc0, if_pos hc1]
    · skip
      simp only [v_184, w_184, if_neg hc0, if_neg hc1]
theorem t_186_0 {fx : am_X0} {o : List am_V × am_S} {m : am_M} {p : Int}  (H : (WFG ((mu m 53 0 0) 54)) ∧ (((¬ am_s ((if 0 ≤ am_t (am_s p) ∧ am_t (am_s p) < (mu m 53 0 0) 54 0 then 1 else 0)) = 0) → ((am_s ((if (0 ≤ am_s p ∧ am_s p < (mu m 53 0 0) 54 0) ∧ nv ((mu m 53 0 0) 54) (8 + (am_s p).toNat) = am_s 0 then 1 else 0)) = 0) → o = ([.inl (-5)], st0 (mu m 53 0 0))) ∧ (¬ (am_s ((if (0 ≤ am_s p ∧ am_s p < (mu m 53 0 0) 54 0) ∧ nv ((mu m 53 0 0) 54) (8 + (am_s p).toNat) = am_s 0 then 1 else 0)) = 0) → (0 ≤ am_s (32 + p) ∧ am_s (32 + p) < (168 : Nat)) ∧ (((am_s 100 ≤ am_s (m 54 ((am_s (32 + p)).toNat))) → (0 ≤ am_s (20 + p) ∧ am_s (20 + p) < (168 : Nat)) ∧ ((q_185 (mu m 53 0 0) p 3 0 0 0) ∧ (o = ([.inl (m 54 ((am_s (20 + p)).toNat))], st0 (w_185 (mu m 53 0 0) p 3 0 0 0))))) ∧ (¬ (am_s 100 ≤ am_s (m 54 ((am_s (32 + p)).toNat))) → o = ([.inl (-5)], st0 (mu m 53 0 0)))))) ∧ (¬ (¬ am_s ((if 0 ≤ am_t (am_s p) ∧ am_t (am_s p) < (mu m 53 0 0) 54 0 then 1 else 0)) = 0) → o = ([.inl (-2)], st0 (mu m 53 0 0))))) : rn fx 3 (0, 0) 186 0 [some (.inr (.inr (some 53))), some (.inl p), none] [] (st0 m) o := by
  refine r_ld (pc' := 1) hM_186 d_186_0 rfl rfl ?_
  refine r_k (pc' := 2) (v := .inl 0) hM_186 d_186_1 rfl rfl ?_
  refine r_pI (pc' := 5) (k0 := 0) hM_186 d_186_2 rfl (by decide +kernel) ?_
  refine r_ld (pc' := 6) hM_186 d_186_5 rfl rfl ?_
  refine r_ld (pc' := 7) hM_186 d_186_6 rfl rfl ?_
  refine r_stk (pc' := 8) (st' := [.inr (.inl (am_s p)), .inr (.inr (some 53))]) hM_186 d_186_7 rfl rfl ?_
  obtain ⟨hz1, H⟩ := H
  refine r_cl (pc' := 11) (c := (183, 0)) (a := [.inr (.inr (some 53)), .inr (.inl (am_s p))]) (q := []) hM_186 d_186_8 rfl (by decide +kernel) hM_183 rfl rfl rfl (Nat.le_of_ble_eq_true rfl) (Nat.le_of_ble_eq_true rfl) (Or.inr rfl) (n_183  (mu m 53 0 0) (am_s p) hz1) (Nat.le_of_ble_eq_true rfl) ?_
  show rn fx 3 (0, 0) 186 11 [some (.inr (.inr (some 53))), some (.inl p), none] [.inl ((if 0 ≤ am_t (am_s p) ∧ am_t (am_s p) < (mu m 53 0 0) 54 0 then 1 else 0))] (st0 (mu m 53 0 0)) o
  refine r_if (pc' := 17) (pc2 := 14) hM_186 d_186_11 (by decide) rfl (fun hz2 => ?_) (fun hz2 => ?_)
  · have H := H.1 hz2
    refine r_ld (pc' := 18) hM_186 d_186_17 rfl rfl ?_
    refine r_ld (pc' := 19) hM_186 d_186_18 rfl rfl ?_
    refine r_k (pc' := 20) (v := .inl 0) hM_186 d_186_19 rfl rfl ?_
    refine r_cl (pc' := 23) (c := (187, 0)) (a := [.inr (.inr (some 53)), .inl p, .inl 0]) (q := []) hM_186 d_186_20 rfl (by decide +kernel) hM_187 rfl rfl rfl (Nat.le_of_ble_eq_true rfl) (Nat.le_of_ble_eq_true rfl) (Or.inr rfl) (n_187  (mu m 53 0 0) p 0 hz1) (Nat.le_of_ble_eq_true rfl) ?_
    show rn fx 3 (0, 0) 186 23 [some (.inr (.inr (some 53))), some (.inl p), none] [.inl ((if (0 ≤ am_s p ∧ am_s p < (mu m 53 0 0) 54 0) ∧ nv ((mu m 53 0 0) 54) (8 + (am_s p).toNat) = am_s 0 then 1 else 0))] (st0 (mu m 53 0 0)) o
    refine r_if (pc' := 40) (pc2 := 26) hM_186 d_186_23 (by decide) rfl (fun hz3 => ?_) (fun hz3 => ?_)
    · have H := H.1 hz3
      refine r_k (pc' := 42) (v := .inl (-5)) hM_186 d_186_40 rfl rfl ?_
      subst H
      exact rt_i hM_186 d_186_42 rfl
    · have H := H.2 hz3
      refine r_ld (pc' := 27) hM_186 d_186_26 rfl rfl ?_
      refine r_gR (pc' := 30) (v := 54) hM_186 d_186_27 rfl (by decide +kernel) ?_
      refine r_k (pc' := 32) (v := .inl 32) hM_186 d_186_30 rfl rfl ?_
      refine r_ld (pc' := 33) hM_186 d_186_32 rfl rfl ?_
      refine r_b (pc' := 34) (z := (32 + p)) hM_186 d_186_33 rfl rfl ?_
      obtain ⟨hz4, H⟩ := H
      refine r_iae (pc' := 35) (n := 168) (z := (m 54 ((am_s (32 + p)).toNat))) hM_186 d_186_34 rfl rfl hz4 (mu_r (by decide)) ?_
      refine r_k (pc' := 37) (v := .inl 100) hM_186 d_186_35 rfl rfl ?_
      refine r_ic (pc' := 43) (pc2 := 40) hM_186 d_186_37 (by decide) rfl (fun hz5 => ?_) (fun hz5 => ?_)
      · have H := H.1 hz5
        refine r_ld (pc' := 44) hM_186 d_186_43 rfl rfl ?_
        refine r_gR (pc' := 47) (v := 54) hM_186 d_186_44 rfl (by decide +kernel) ?_
        refine r_k (pc' := 49) (v := .inl 20) hM_186 d_186_47 rfl rfl ?_
        refine r_ld (pc' := 50) hM_186 d_186_49 rfl rfl ?_
        refine r_b (pc' := 51) (z := (20 + p)) hM_186 d_186_50 rfl rfl ?_
        obtain ⟨hz6, H⟩ := H
        refine r_iae (pc' := 52) (n := 168) (z := (m 54 ((am_s (20 + p)).toNat))) hM_186 d_186_51 rfl rfl hz6 (mu_r (by decide)) ?_
        refine r_sto (pc' := 53) (ls' := [some (.inr (.inr (some 53))), some (.inl p), some (.inl (m 54 ((am_s (20 + p)).toNat)))]) hM_186 d_186_52 rfl rfl ?_
        refine r_ld (pc' := 54) hM_186 d_186_53 rfl rfl ?_
        refine r_ld (pc' := 55) hM_186 d_186_54 rfl rfl ?_
        refine r_k (pc' := 56) (v := .inl 3) hM_186 d_186_55 rfl rfl ?_
        refine r_k (pc' := 57) (v := .inl 0) hM_186 d_186_56 rfl rfl ?_
        refine r_k (pc' := 58) (v := .inl 0) hM_186 d_186_57 rfl rfl ?_
        refine r_k (pc' := 59) (v := .inl 0) hM_186 d_186_58 rfl rfl ?_
        obtain ⟨hz7, H⟩ := H
        refine r_cl (pc' := 62) (c := (185, 0)) (a := [.inr (.inr (some 53)), .inl p, .inl 3, .inl 0, .inl 0, .inl 0]) (q := []) hM_186 d_186_59 rfl (by decide +kernel) hM_185 rfl rfl rfl (Nat.le_of_ble_eq_true rfl) (Nat.le_of_ble_eq_true rfl) (Or.inr rfl) (c_185  (mu m 53 0 0) p 3 0 0 0 hz7) (Nat.le_of_ble_eq_true rfl) ?_
        show rn fx 3 (0, 0) 186 62 [some (.inr (.inr (some 53))), some (.inl p), some (.inl (m 54 ((am_s (20 + p)).toNat)))] [] (st0 (w_185 (mu m 53 0 0) p 3 0 0 0)) o
        refine r_ld (pc' := 63) hM_186 d_186_62 rfl rfl ?_
        subst H
        exact rt_i hM_186 d_186_63 rfl
      · have H := H.2 hz5
        refine r_k (pc' := 42) (v := .inl (-5)) hM_186 d_186_40 rfl rfl ?_
        subst H
        exact rt_i hM_186 d_186_42 rfl
  · have H := H.2 hz2
    refine r_k (pc' := 16) (v := .inl (-2)) hM_186 d_186_14 rfl rfl ?_
    subst H
    exact rt_i hM_186 d_186_16 rfl
def v_186 (m : am_M) (p : Int) : Int := (if ¬ am_s ((if 0 ≤ am_t (am_s p) ∧ am_t (am_s p) < (mu m 53 0 0) 54 0 then 1 else 0)) = 0 then (if am_s ((if (0 ≤ am_s p ∧ am_s p < (mu m 53 0 0) 54 0) ∧ nv ((mu m 53 0 0) 54) (8 + (am_s p).toNat) = am_s 0 then 1 else 0)) = 0 then (-5) else (if am_s 100 ≤ am_s (m 54 ((am_s (32 + p)).toNat)) then (m 54 ((am_s (20 + p)).toNat)) else (-5))) else (-2))
def w_186 (m : am_M) (p : Int) : am_M := (if ¬ am_s ((if 0 ≤ am_t (am_s p) ∧ am_t (am_s p) < (mu m 53 0 0) 54 0 then 1 else 0)) = 0 then (if am_s ((if (0 ≤ am_s p ∧ am_s p < (mu m 53 0 0) 54 0) ∧ nv ((mu m 53 0 0) 54) (8 + (am_s p).toNat) = am_s 0 then 1 else 0)) = 0 then (mu m 53 0 0) else (if am_s 100 ≤ am_s (m 54 ((am_s (32 + p)).toNat)) then (w_185 (mu m 53 0 0) p 3 0 0 0) else (mu m 53 0 0))) else (mu m 53 0 0))
def q_186 (m : am_M) (p : Int) : Prop := (WFG ((mu m 53 0 0) 54)) ∧ (((¬ am_s ((if 0 ≤ am_t (am_s p) ∧ am_t (am_s p) < (mu m 53 0 0) 54 0 then 1 else 0)) = 0) → ((¬ (am_s ((if (0 ≤ am_s p ∧ am_s p < (mu m 53 0 0) 54 0) ∧ nv ((mu m 53 0 0) 54) (8 + (am_s p).toNat) = am_s 0 then 1 else 0)) = 0) → (0 ≤ am_s (32 + p) ∧ am_s (32 + p) < (168 : Nat)) ∧ (((am_s 100 ≤ am_s (m 54 ((am_s (32 + p)).toNat))) → (0 ≤ am_s (20 + p) ∧ am_s (20 + p) < (168 : Nat)) ∧ (q_185 (mu m 53 0 0) p 3 0 0 0)))))))
/-- HeardBarrelsModel.sell -/
theorem c_186 {fx : am_X0}   (m : am_M) (p : Int) (hq : q_186 m p) : rn fx 3 (0, 0) 186 0 (am_ent 3 [.inr (.inr (some 53)), .inl p]) [] (st0 m) ([.inl (v_186 m p)], st0 (w_186 m p)) := by
  unfold q_186 at hq
  show rn fx 3 (0, 0) 186 0 [some (.inr (.inr (some 53))), some (.inl p), none] [] (st0 m) _
  refine t_186_0  ?_
  obtain ⟨hb0_0, hq⟩ := hq
  refine ⟨hb0_0, ?_⟩
  refine ⟨fun hc0 => ?_, fun hc0 => ?_⟩
  · have hq := hq hc0
    refine ⟨fun hc1 => ?_, fun hc1 => ?_⟩
    · skip
      simp only [v_186, w_186, if_pos hc0, if_pos hc1]
    · have hq := hq hc1
      obtain ⟨hb2_0, hq⟩ := hq
      refine ⟨hb2_0, ?_⟩
      refine ⟨fun hc2 => ?_, fun hc2 => ?_⟩
      · have hq := hq hc2
        obtain ⟨hb3_0, hq⟩ := hq
        refine ⟨hb3_0, ?_⟩
        have hb3_0 := hq
        refine ⟨hb3_0, ?_⟩
        simp only [v_186, w_186, if_pos hc0, if_neg hc1, if_pos hc2]
      · skip
        simp only [v_186, w_186, if_pos hc0, if_neg hc1, if_neg hc2]
  · skip
    simp only [v_186, w_186, if_neg hc0]
theorem t_188_0 {fx : am_X0} {o : List am_V × am_S} {m : am_M} {p : Int} {a : Int}  (H : (WFG ((mu m 53 0 0) 54)) ∧ (((¬ am_s ((if 0 ≤ am_t (am_s p) ∧ am_t (am_s p) < (mu m 53 0 0) 54 0 then 1 else 0)) = 0) → ((¬ am_s ((if (0 ≤ am_s p ∧ am_s p < (mu m 53 0 0) 54 0) ∧ nv ((mu m 53 0 0) 54) (8 + (am_s p).toNat) = am_s 3 then 1 else 0)) = 0) → ((¬ am_s ((if am_t 1 ≤ am_t (am_s a) ∧ am_t (am_s a) ≤ am_t 9 then 1 else 0)) = 0) → (q_185 (mu m 53 0 0) p 0 a 0 0) ∧ (o = ([.inl 0], st0 (w_185 (mu m 53 0 0) p 0 a 0 0)))) ∧ (¬ (¬ am_s ((if am_t 1 ≤ am_t (am_s a) ∧ am_t (am_s a) ≤ am_t 9 then 1 else 0)) = 0) → o = ([.inl (-3)], st0 (mu m 53 0 0)))) ∧ (¬ (¬ am_s ((if (0 ≤ am_s p ∧ am_s p < (mu m 53 0 0) 54 0) ∧ nv ((mu m 53 0 0) 54) (8 + (am_s p).toNat) = am_s 3 then 1 else 0)) = 0) → o = ([.inl (-5)], st0 (mu m 53 0 0)))) ∧ (¬ (¬ am_s ((if 0 ≤ am_t (am_s p) ∧ am_t (am_s p) < (mu m 53 0 0) 54 0 then 1 else 0)) = 0) → o = ([.inl (-2)], st0 (mu m 53 0 0))))) : rn fx 3 (0, 0) 188 0 [some (.inr (.inr (some 53))), some (.inl p), some (.inl a)] [] (st0 m) o := by
  refine r_ld (pc' := 1) hM_188 d_188_0 rfl rfl ?_
  refine r_k (pc' := 2) (v := .inl 0) hM_188 d_188_1 rfl rfl ?_
  refine r_pI (pc' := 5) (k0 := 0) hM_188 d_188_2 rfl (by decide +kernel) ?_
  refine r_ld (pc' := 6) hM_188 d_188_5 rfl rfl ?_
  refine r_ld (pc' := 7) hM_188 d_188_6 rfl rfl ?_
  refine r_stk (pc' := 8) (st' := [.inr (.inl (am_s p)), .inr (.inr (some 53))]) hM_188 d_188_7 rfl rfl ?_
  obtain ⟨hz1, H⟩ := H
  refine r_cl (pc' := 11) (c := (183, 0)) (a := [.inr (.inr (some 53)), .inr (.inl (am_s p))]) (q := []) hM_188 d_188_8 rfl (by decide +kernel) hM_183 rfl rfl rfl (Nat.le_of_ble_eq_true rfl) (Nat.le_of_ble_eq_true rfl) (Or.inr rfl) (n_183  (mu m 53 0 0) (am_s p) hz1) (Nat.le_of_ble_eq_true rfl) ?_
  show rn fx 3 (0, 0) 188 11 [some (.inr (.inr (some 53))), some (.inl p), some (.inl a)] [.inl ((if 0 ≤ am_t (am_s p) ∧ am_t (am_s p) < (mu m 53 0 0) 54 0 then 1 else 0))] (st0 (mu m 53 0 0)) o
  refine r_if (pc' := 17) (pc2 := 14) hM_188 d_188_11 (by decide) rfl (fun hz2 => ?_) (fun hz2 => ?_)
  · have H := H.1 hz2
    refine r_ld (pc' := 18) hM_188 d_188_17 rfl rfl ?_
    refine r_ld (pc' := 19) hM_188 d_188_18 rfl rfl ?_
    refine r_k (pc' := 20) (v := .inl 3) hM_188 d_188_19 rfl rfl ?_
    refine r_cl (pc' := 23) (c := (187, 0)) (a := [.inr (.inr (some 53)), .inl p, .inl 3]) (q := []) hM_188 d_188_20 rfl (by decide +kernel) hM_187 rfl rfl rfl (Nat.le_of_ble_eq_true rfl) (Nat.le_of_ble_eq_true rfl) (Or.inr rfl) (n_187  (mu m 53 0 0) p 3 hz1) (Nat.le_of_ble_eq_true rfl) ?_
    show rn fx 3 (0, 0) 188 23 [some (.inr (.inr (some 53))), some (.inl p), some (.inl a)] [.inl ((if (0 ≤ am_s p ∧ am_s p < (mu m 53 0 0) 54 0) ∧ nv ((mu m 53 0 0) 54) (8 + (am_s p).toNat) = am_s 3 then 1 else 0))] (st0 (mu m 53 0 0)) o
    refine r_if (pc' := 29) (pc2 := 26) hM_188 d_188_23 (by decide) rfl (fun hz3 => ?_) (fun hz3 => ?_)
    · have H := H.1 hz3
      refine r_ld (pc' := 30) hM_188 d_188_29 rfl rfl ?_
      refine r_stk (pc' := 31) (st' := [.inr (.inl (am_s a))]) hM_188 d_188_30 rfl rfl ?_
      refine r_k (pc' := 32) (v := .inr (.inl 1)) hM_188 d_188_31 rfl rfl ?_
      refine r_k (pc' := 35) (v := .inr (.inl 9)) hM_188 d_188_32 rfl (by decide +kernel) ?_
      refine r_cl (pc' := 38) (c := (167, 2)) (a := [.inr (.inl (am_s a)), .inr (.inl 1), .inr (.inl 9)]) (q := []) hM_188 d_188_35 rfl (by decide +kernel) hM_167 rfl rfl rfl (Nat.le_of_ble_eq_true rfl) (Nat.le_of_ble_eq_true rfl) (Or.inl rfl) (n_167  (mu m 53 0 0) (am_s a) 1 9) (Nat.le_of_ble_eq_true rfl) ?_
      show rn fx 3 (0, 0) 188 38 [some (.inr (.inr (some 53))), some (.inl p), some (.inl a)] [.inl ((if am_t 1 ≤ am_t (am_s a) ∧ am_t (am_s a) ≤ am_t 9 then 1 else 0))] (st0 (mu m 53 0 0)) o
      refine r_if (pc' := 44) (pc2 := 41) hM_188 d_188_38 (by decide) rfl (fun hz4 => ?_) (fun hz4 => ?_)
      · have H := H.1 hz4
        refine r_ld (pc' := 45) hM_188 d_188_44 rfl rfl ?_
        refine r_ld (pc' := 46) hM_188 d_188_45 rfl rfl ?_
        refine r_k (pc' := 47) (v := .inl 0) hM_188 d_188_46 rfl rfl ?_
        refine r_ld (pc' := 48) hM_188 d_188_47 rfl rfl ?_
        refine r_k (pc' := 49) (v := .inl 0) hM_188 d_188_48 rfl rfl ?_
        refine r_k (pc' := 50) (v := .inl 0) hM_188 d_188_49 rfl rfl ?_
        obtain ⟨hz5, H⟩ := H
        refine r_cl (pc' := 53) (c := (185, 0)) (a := [.inr (.inr (some 53)), .inl p, .inl 0, .inl a, .inl 0, .inl 0]) (q := []) hM_188 d_188_50 rfl (by decide +kernel) hM_185 rfl rfl rfl (Nat.le_of_ble_eq_true rfl) (Nat.le_of_ble_eq_true rfl) (Or.inr rfl) (c_185  (mu m 53 0 0) p 0 a 0 0 hz5) (Nat.le_of_ble_eq_true rfl) ?_
        show rn fx 3 (0, 0) 188 53 [some (.inr (.inr (some 53))), some (.inl p), some (.inl a)] [] (st0 (w_185 (mu m 53 0 0) p 0 a 0 0)) o
        refine r_k (pc' := 54) (v := .inl 0) hM_188 d_188_53 rfl rfl ?_
        subst H
        exact rt_i hM_188 d_188_54 rfl
      · have H := H.2 hz4
        refine r_k (pc' := 43) (v := .inl (-3)) hM_188 d_188_41 rfl rfl ?_
        subst H
        exact rt_i hM_188 d_188_43 rfl
    · have H := H.2 hz3
      refine r_k (pc' := 28) (v := .inl (-5)) hM_188 d_188_26 rfl rfl ?_
      subst H
      exact rt_i hM_188 d_188_28 rfl
  · have H := H.2 hz2
    refine r_k (pc' := 16) (v := .inl (-2)) hM_188 d_188_14 rfl rfl ?_
    subst H
    exact rt_i hM_188 d_188_16 rfl
def v_188 (m : am_M) (p : Int) (a : Int) : Int := (if ¬ am_s ((if 0 ≤ am_t (am_s p) ∧ am_t (am_s p) < (mu m 53 0 0) 54 0 then 1 else 0)) = 0 then (if ¬ am_s ((if (0 ≤ am_s p ∧ am_s p < (mu m 53 0 0) 54 0) ∧ nv ((mu m 53 0 0) 54) (8 + (am_s p).toNat) = am_s 3 then 1 else 0)) = 0 then (if ¬ am_s ((if am_t 1 ≤ am_t (am_s a) ∧ am_t (am_s a) ≤ am_t 9 then 1 else 0)) = 0 then 0 else (-3)) else (-5)) else (-2))
def w_188 (m : am_M) (p : Int) (a : Int) : am_M := (if ¬ am_s ((if 0 ≤ am_t (am_s p) ∧ am_t (am_s p) < (mu m 53 0 0) 54 0 then 1 else 0)) = 0 then (if ¬ am_s ((if (0 ≤ am_s p ∧ am_s p < (mu m 53 0 0) 54 0) ∧ nv ((mu m 53 0 0) 54) (8 + (am_s p).toNat) = am_s 3 then 1 else 0)) = 0 then (if ¬ am_s ((if am_t 1 ≤ am_t (am_s a) ∧ am_t (am_s a) ≤ am_t 9 then 1 else 0)) = 0 then (w_185 (mu m 53 0 0) p 0 a 0 0) else (mu m 53 0 0)) else (mu m 53 0 0)) else (mu m 53 0 0))
def q_188 (m : am_M) (p : Int) (a : Int) : Prop := (WFG ((mu m 53 0 0) 54)) ∧ (((¬ am_s ((if 0 ≤ am_t (am_s p) ∧ am_t (am_s p) < (mu m 53 0 0) 54 0 then 1 else 0)) = 0) → (((¬ am_s ((if (0 ≤ am_s p ∧ am_s p < (mu m 53 0 0) 54 0) ∧ nv ((mu m 53 0 0) 54) (8 + (am_s p).toNat) = am_s 3 then 1 else 0)) = 0) → (((¬ am_s ((if am_t 1 ≤ am_t (am_s a) ∧ am_t (am_s a) ≤ am_t 9 then 1 else 0)) = 0) → (q_185 (mu m 53 0 0) p 0 a 0 0)))))))
/-- HeardBarrelsModel.put -/
theorem c_188 {fx : am_X0}   (m : am_M) (p : Int) (a : Int) (hq : q_188 m p a) : rn fx 3 (0, 0) 188 0 (am_ent 3 [.inr (.inr (some 53)), .inl p, .inl a]) [] (st0 m) ([.inl (v_188 m p a)], st0 (w_188 m p a)) := by
  unfold q_188 at hq
  show rn fx 3 (0, 0) 188 0 [some (.inr (.inr (some 53))), some (.inl p), some (.inl a)] [] (st0 m) _
  refine t_188_0  ?_
  obtain ⟨hb0_0, hq⟩ := hq
  refine ⟨hb0_0, ?_⟩
  refine ⟨fun hc0 => ?_, fun hc0 => ?_⟩
  · have hq := hq hc0
    refine ⟨fun hc1 => ?_, fun hc1 => ?_⟩
    · have hq := hq hc1
      refine ⟨fun hc2 => ?_, fun hc2 => ?_⟩
      · have hq := hq hc2
        have hb3_0 := hq
        refine ⟨hb3_0, ?_⟩
        simp only [v_188, w_188, if_pos hc0, if_pos hc1, if_pos hc2]
      · skip
        simp only [v_188, w_188, if_pos hc0, if_pos hc1, if_neg hc2]
    · skip
      simp only [v_188, w_188, if_pos hc0, if_neg hc1]
  · skip
    simp only [v_188, w_188, if_neg hc0]
theorem t_189_0 {fx : am_X0} {o : List am_V × am_S} {m : am_M} {b : Int}  (H : (WFG ((mu m 53 0 0) 54) ∧ am_t (am_s b) = (am_s b)) ∧ (((¬ am_s ((rfs (nv ((mu m 53 0 0) 54)) (am_s b))) = 0) → ∀ y1 : Int, y1 = (if ¬ am_s ((rfs (nv ((mu m 53 0 0) 54)) (am_s b))) = am_s 1 then (if ¬ am_s ((rfs (nv ((mu m 53 0 0) 54)) (am_s b))) = am_s 2 then (-5) else (-4)) else (-3)) → o = ([.inl y1], st0 (mu m 53 0 0))) ∧ (¬ (¬ am_s ((rfs (nv ((mu m 53 0 0) 54)) (am_s b))) = 0) → (WFG ((mu m 53 0 0) 54) ∧ 0 ≤ b ∧ b < 4096) ∧ (o = ([.inl (dyn b.toNat (nv ((mu m 53 0 0) 54)))], st0 (gw (mu m 53 0 0) b.toNat)))))) : rn fx 3 (0, 0) 189 0 [some (.inr (.inr (some 53))), some (.inl b), none] [] (st0 m) o := by
  refine r_ld (pc' := 1) hM_189 d_189_0 rfl rfl ?_
  refine r_k (pc' := 2) (v := .inl 0) hM_189 d_189_1 rfl rfl ?_
  refine r_pI (pc' := 5) (k0 := 0) hM_189 d_189_2 rfl (by decide +kernel) ?_
  refine r_ld (pc' := 6) hM_189 d_189_5 rfl rfl ?_
  refine r_ld (pc' := 7) hM_189 d_189_6 rfl rfl ?_
  refine r_stk (pc' := 8) (st' := [.inr (.inl (am_s b)), .inr (.inr (some 53))]) hM_189 d_189_7 rfl rfl ?_
  obtain ⟨hz1, H⟩ := H
  refine r_cl (pc' := 11) (c := (190, 0)) (a := [.inr (.inr (some 53)), .inr (.inl (am_s b))]) (q := []) hM_189 d_189_8 rfl (by decide +kernel) hM_190 rfl rfl rfl (Nat.le_of_ble_eq_true rfl) (Nat.le_of_ble_eq_true rfl) (Or.inr rfl) (n_190  (mu m 53 0 0) (am_s b) hz1) (Nat.le_of_ble_eq_true rfl) ?_
  show rn fx 3 (0, 0) 189 11 [some (.inr (.inr (some 53))), some (.inl b), none] [.inl ((rfs (nv ((mu m 53 0 0) 54)) (am_s b)))] (st0 (mu m 53 0 0)) o
  refine r_sto (pc' := 12) (ls' := [some (.inr (.inr (some 53))), some (.inl b), some (.inl ((rfs (nv ((mu m 53 0 0) 54)) (am_s b))))]) hM_189 d_189_11 rfl rfl ?_
  refine r_ld (pc' := 13) hM_189 d_189_12 rfl rfl ?_
  refine r_if (pc' := 24) (pc2 := 16) hM_189 d_189_13 (by decide) rfl (fun hz2 => ?_) (fun hz2 => ?_)
  · have H := H.1 hz2
    refine r_ld (pc' := 25) hM_189 d_189_24 rfl rfl ?_
    refine r_k (pc' := 26) (v := .inl 1) hM_189 d_189_25 rfl rfl ?_
    have K : ∀ y1 : Int, y1 = (if ¬ am_s ((rfs (nv ((mu m 53 0 0) 54)) (am_s b))) = am_s 1 then (if ¬ am_s ((rfs (nv ((mu m 53 0 0) 54)) (am_s b))) = am_s 2 then (-5) else (-4)) else (-3)) → rn fx 3 (0, 0) 189 46 [some (.inr (.inr (some 53))), some (.inl b), some (.inl ((rfs (nv ((mu m 53 0 0) 54)) (am_s b))))] [.inl y1] (st0 (mu m 53 0 0)) o := by
      intro y1 hy1
      replace H := H y1 hy1
      subst H
      exact rt_i hM_189 d_189_46 rfl
    replace K := K _ rfl
    clear H
    refine r_ic (pc' := 34) (pc2 := 29) hM_189 d_189_26 (by decide) rfl (fun hz3 => ?_) (fun hz3 => ?_)
    · have hz3 : ¬ am_s ((rfs (nv ((mu m 53 0 0) 54)) (am_s b))) = am_s 1 := hz3
      rw [if_pos hz3] at K
      refine r_ld (pc' := 35) hM_189 d_189_34 rfl rfl ?_
      refine r_k (pc' := 36) (v := .inl 2) hM_189 d_189_35 rfl rfl ?_
      refine r_ic (pc' := 44) (pc2 := 39) hM_189 d_189_36 (by decide) rfl (fun hz4 => ?_) (fun hz4 => ?_)
      · have hz4 : ¬ am_s ((rfs (nv ((mu m 53 0 0) 54)) (am_s b))) = am_s 2 := hz4
        rw [if_pos hz4] at K
        refine r_k (pc' := 46) (v := .inl (-5)) hM_189 d_189_44 rfl rfl ?_
        exact K
      · have hz4 : ¬ (¬ am_s ((rfs (nv ((mu m 53 0 0) 54)) (am_s b))) = am_s 2) := hz4
        rw [if_neg hz4] at K
        refine r_k (pc' := 41) (v := .inl (-4)) hM_189 d_189_39 rfl rfl ?_
        refine r_go (pc' := 46) hM_189 d_189_41 (by decide) ?_
        exact K
    · have hz3 : ¬ (¬ am_s ((rfs (nv ((mu m 53 0 0) 54)) (am_s b))) = am_s 1) := hz3
      rw [if_neg hz3] at K
      refine r_k (pc' := 31) (v := .inl (-3)) hM_189 d_189_29 rfl rfl ?_
      refine r_go (pc' := 46) hM_189 d_189_31 (by decide) ?_
      exact K
  · have H := H.2 hz2
    refine r_ld (pc' := 17) hM_189 d_189_16 rfl rfl ?_
    refine r_ld (pc' := 18) hM_189 d_189_17 rfl rfl ?_
    obtain ⟨hz5, H⟩ := H
    refine r_cl (pc' := 21) (c := (195, 0)) (a := [.inr (.inr (some 53)), .inl b]) (q := []) hM_189 d_189_18 rfl (by decide +kernel) hM_195 rfl rfl rfl (Nat.le_of_ble_eq_true rfl) (Nat.le_of_ble_eq_true rfl) (Or.inr rfl) (n_195  (mu m 53 0 0) b hz5) (Nat.le_of_ble_eq_true rfl) ?_
    show rn fx 3 (0, 0) 189 21 [some (.inr (.inr (some 53))), some (.inl b), some (.inl ((rfs (nv ((mu m 53 0 0) 54)) (am_s b))))] [.inl (dyn b.toNat (nv ((mu m 53 0 0) 54)))] (st0 (gw (mu m 53 0 0) b.toNat)) o
    refine r_go (pc' := 46) hM_189 d_189_21 (by decide) ?_
    subst H
    exact rt_i hM_189 d_189_46 rfl
def v_189 (m : am_M) (b : Int) : Int := (if ¬ am_s ((rfs (nv ((mu m 53 0 0) 54)) (am_s b))) = 0 then (if ¬ am_s ((rfs (nv ((mu m 53 0 0) 54)) (am_s b))) = am_s 1 then (if ¬ am_s ((rfs (nv ((mu m 53 0 0) 54)) (am_s b))) = am_s 2 then (-5) else (-4)) else (-3)) else (dyn b.toNat (nv ((mu m 53 0 0) 54))))
def w_189 (m : am_M) (b : Int) : am_M := (if ¬ am_s ((rfs (nv ((mu m 53 0 0) 54)) (am_s b))) = 0 then (mu m 53 0 0) else (gw (mu m 53 0 0) b.toNat))
def q_189 (m : am_M) (b : Int) : Prop := (WFG ((mu m 53 0 0) 54) ∧ am_t (am_s b) = (am_s b)) ∧ ((¬ (¬ am_s ((rfs (nv ((mu m 53 0 0) 54)) (am_s b))) = 0) → (WFG ((mu m 53 0 0) 54) ∧ 0 ≤ b ∧ b < 4096)))
/-- HeardBarrelsModel.day -/
theorem c_189 {fx : am_X0}   (m : am_M) (b : Int) (hq : q_189 m b) : rn fx 3 (0, 0) 189 0 (am_ent 3 [.inr (.inr (some 53)), .inl b]) [] (st0 m) ([.inl (v_189 m b)], st0 (w_189 m b)) := by
  unfold q_189 at hq
  show rn fx 3 (0, 0) 189 0 [some (.inr (.inr (some 53))), some (.inl b), none] [] (st0 m) _
  refine t_189_0  ?_
  obtain ⟨hb0_0, hq⟩ := hq
  refine ⟨hb0_0, ?_⟩
  refine ⟨fun hc0 => ?_, fun hc0 => ?_⟩
  · skip
    intro y1 hy1
    subst hy1
    simp only [v_189, w_189, if_pos hc0]
  · have hq := hq hc0
    have hb1_0 := hq
    refine ⟨hb1_0, ?_⟩
    simp only [v_189, w_189, if_neg hc0]
theorem t_207_0 {fx : am_X0} {o : List am_V × am_S} {m : am_M} {p : Int}  (H : (WFG ((mu m 53 0 0) 54)) ∧ (((¬ am_s ((if 0 ≤ am_t (am_s p) ∧ am_t (am_s p) < (mu m 53 0 0) 54 0 then 1 else 0)) = 0) → ((am_s ((if (0 ≤ am_s p ∧ am_s p < (mu m 53 0 0) 54 0) ∧ nv ((mu m 53 0 0) 54) (8 + (am_s p).toNat) = am_s 3 then 1 else 0)) = 0) → (WFG ((mu m 53 0 0) 54) ∧ 0 ≤ p ∧ p < (mu m 53 0 0) 54 0)) ∧ (∀ y1 : Int, y1 = (if am_s ((if (0 ≤ am_s p ∧ am_s p < (mu m 53 0 0) 54 0) ∧ nv ((mu m 53 0 0) 54) (8 + (am_s p).toNat) = am_s 3 then 1 else 0)) = 0 then ((tn (nv ((mu m 53 0 0) 54)) p.toNat (decide (am_s ((if (0 ≤ am_s p ∧ am_s p < (mu m 53 0 0) 54 0) ∧ nv ((mu m 53 0 0) 54) (8 + (am_s p).toNat) = am_s 1 then 1 else 0)) ≠ 0)))) else (-5)) → o = ([.inl y1], st0 (mu m 53 0 0)))) ∧ (¬ (¬ am_s ((if 0 ≤ am_t (am_s p) ∧ am_t (am_s p) < (mu m 53 0 0) 54 0 then 1 else 0)) = 0) → o = ([.inl (-2)], st0 (mu m 53 0 0))))) : rn fx 3 (0, 0) 207 0 [some (.inr (.inr (some 53))), some (.inl p)] [] (st0 m) o := by
  refine r_ld (pc' := 1) hM_207 d_207_0 rfl rfl ?_
  refine r_k (pc' := 2) (v := .inl 0) hM_207 d_207_1 rfl rfl ?_
  refine r_pI (pc' := 5) (k0 := 0) hM_207 d_207_2 rfl (by decide +kernel) ?_
  refine r_ld (pc' := 6) hM_207 d_207_5 rfl rfl ?_
  refine r_ld (pc' := 7) hM_207 d_207_6 rfl rfl ?_
  refine r_stk (pc' := 8) (st' := [.inr (.inl (am_s p)), .inr (.inr (some 53))]) hM_207 d_207_7 rfl rfl ?_
  obtain ⟨hz1, H⟩ := H
  refine r_cl (pc' := 11) (c := (183, 0)) (a := [.inr (.inr (some 53)), .inr (.inl (am_s p))]) (q := []) hM_207 d_207_8 rfl (by decide +kernel) hM_183 rfl rfl rfl (Nat.le_of_ble_eq_true rfl) (Nat.le_of_ble_eq_true rfl) (Or.inr rfl) (n_183  (mu m 53 0 0) (am_s p) hz1) (Nat.le_of_ble_eq_true rfl) ?_
  show rn fx 3 (0, 0) 207 11 [some (.inr (.inr (some 53))), some (.inl p)] [.inl ((if 0 ≤ am_t (am_s p) ∧ am_t (am_s p) < (mu m 53 0 0) 54 0 then 1 else 0))] (st0 (mu m 53 0 0)) o
  refine r_if (pc' := 17) (pc2 := 14) hM_207 d_207_11 (by decide) rfl (fun hz2 => ?_) (fun hz2 => ?_)
  · have H := H.1 hz2
    refine r_ld (pc' := 18) hM_207 d_207_17 rfl rfl ?_
    refine r_ld (pc' := 19) hM_207 d_207_18 rfl rfl ?_
    refine r_k (pc' := 20) (v := .inl 3) hM_207 d_207_19 rfl rfl ?_
    refine r_cl (pc' := 23) (c := (187, 0)) (a := [.inr (.inr (some 53)), .inl p, .inl 3]) (q := []) hM_207 d_207_20 rfl (by decide +kernel) hM_187 rfl rfl rfl (Nat.le_of_ble_eq_true rfl) (Nat.le_of_ble_eq_true rfl) (Or.inr rfl) (n_187  (mu m 53 0 0) p 3 hz1) (Nat.le_of_ble_eq_true rfl) ?_
    show rn fx 3 (0, 0) 207 23 [some (.inr (.inr (some 53))), some (.inl p)] [.inl ((if (0 ≤ am_s p ∧ am_s p < (mu m 53 0 0) 54 0) ∧ nv ((mu m 53 0 0) 54) (8 + (am_s p).toNat) = am_s 3 then 1 else 0))] (st0 (mu m 53 0 0)) o
    obtain ⟨hz4, H⟩ := H
    have K : ∀ y1 : Int, y1 = (if am_s ((if (0 ≤ am_s p ∧ am_s p < (mu m 53 0 0) 54 0) ∧ nv ((mu m 53 0 0) 54) (8 + (am_s p).toNat) = am_s 3 then 1 else 0)) = 0 then ((tn (nv ((mu m 53 0 0) 54)) p.toNat (decide (am_s ((if (0 ≤ am_s p ∧ am_s p < (mu m 53 0 0) 54 0) ∧ nv ((mu m 53 0 0) 54) (8 + (am_s p).toNat) = am_s 1 then 1 else 0)) ≠ 0)))) else (-5)) → rn fx 3 (0, 0) 207 42 [some (.inr (.inr (some 53))), some (.inl p)] [.inl y1] (st0 (mu m 53 0 0)) o := by
      intro y1 hy1
      replace H := H y1 hy1
      subst H
      exact rt_i hM_207 d_207_42 rfl
    replace K := K _ rfl
    clear H
    refine r_if (pc' := 31) (pc2 := 26) hM_207 d_207_23 (by decide) rfl (fun hz3 => ?_) (fun hz3 => ?_)
    · have hz3 : am_s ((if (0 ≤ am_s p ∧ am_s p < (mu m 53 0 0) 54 0) ∧ nv ((mu m 53 0 0) 54) (8 + (am_s p).toNat) = am_s 3 then 1 else 0)) = 0 := hz3
      rw [if_pos hz3] at K
      refine r_ld (pc' := 32) hM_207 d_207_31 rfl rfl ?_
      refine r_ld (pc' := 33) hM_207 d_207_32 rfl rfl ?_
      refine r_ld (pc' := 34) hM_207 d_207_33 rfl rfl ?_
      refine r_ld (pc' := 35) hM_207 d_207_34 rfl rfl ?_
      refine r_k (pc' := 36) (v := .inl 1) hM_207 d_207_35 rfl rfl ?_
      refine r_cl (pc' := 39) (c := (187, 0)) (a := [.inr (.inr (some 53)), .inl p, .inl 1]) (q := [.inl p, .inr (.inr (some 53))]) hM_207 d_207_36 rfl (by decide +kernel) hM_187 rfl rfl rfl (Nat.le_of_ble_eq_true rfl) (Nat.le_of_ble_eq_true rfl) (Or.inr rfl) (n_187  (mu m 53 0 0) p 1 hz1) (Nat.le_of_ble_eq_true rfl) ?_
      show rn fx 3 (0, 0) 207 39 [some (.inr (.inr (some 53))), some (.inl p)] [.inl ((if (0 ≤ am_s p ∧ am_s p < (mu m 53 0 0) 54 0) ∧ nv ((mu m 53 0 0) 54) (8 + (am_s p).toNat) = am_s 1 then 1 else 0)), .inl p, .inr (.inr (some 53))] (st0 (mu m 53 0 0)) o
      refine r_cl (pc' := 42) (c := (208, 0)) (a := [.inr (.inr (some 53)), .inl p, .inl ((if (0 ≤ am_s p ∧ am_s p < (mu m 53 0 0) 54 0) ∧ nv ((mu m 53 0 0) 54) (8 + (am_s p).toNat) = am_s 1 then 1 else 0))]) (q := []) hM_207 d_207_39 rfl (by decide +kernel) hM_208 rfl rfl rfl (Nat.le_of_ble_eq_true rfl) (Nat.le_of_ble_eq_true rfl) (Or.inr rfl) (n_208  (mu m 53 0 0) p ((if (0 ≤ am_s p ∧ am_s p < (mu m 53 0 0) 54 0) ∧ nv ((mu m 53 0 0) 54) (8 + (am_s p).toNat) = am_s 1 then 1 else 0)) (hz4 hz3)) (Nat.le_of_ble_eq_true rfl) ?_
      show rn fx 3 (0, 0) 207 42 [some (.inr (.inr (some 53))), some (.inl p)] [.inl ((tn (nv ((mu m 53 0 0) 54)) p.toNat (decide (am_s ((if (0 ≤ am_s p ∧ am_s p < (mu m 53 0 0) 54 0) ∧ nv ((mu m 53 0 0) 54) (8 + (am_s p).toNat) = am_s 1 then 1 else 0)) ≠ 0))))] (st0 (mu m 53 0 0)) o
      exact K
    · have hz3 : ¬ (am_s ((if (0 ≤ am_s p ∧ am_s p < (mu m 53 0 0) 54 0) ∧ nv ((mu m 53 0 0) 54) (8 + (am_s p).toNat) = am_s 3 then 1 else 0)) = 0) := hz3
      rw [if_neg hz3] at K
      refine r_k (pc' := 28) (v := .inl (-5)) hM_207 d_207_26 rfl rfl ?_
      refine r_go (pc' := 42) hM_207 d_207_28 (by decide) ?_
      exact K
  · have H := H.2 hz2
    refine r_k (pc' := 16) (v := .inl (-2)) hM_207 d_207_14 rfl rfl ?_
    subst H
    exact rt_i hM_207 d_207_16 rfl
def v_207 (m : am_M) (p : Int) : Int := (if ¬ am_s ((if 0 ≤ am_t (am_s p) ∧ am_t (am_s p) < (mu m 53 0 0) 54 0 then 1 else 0)) = 0 then (if am_s ((if (0 ≤ am_s p ∧ am_s p < (mu m 53 0 0) 54 0) ∧ nv ((mu m 53 0 0) 54) (8 + (am_s p).toNat) = am_s 3 then 1 else 0)) = 0 then ((tn (nv ((mu m 53 0 0) 54)) p.toNat (decide (am_s ((if (0 ≤ am_s p ∧ am_s p < (mu m 53 0 0) 54 0) ∧ nv ((mu m 53 0 0) 54) (8 + (am_s p).toNat) = am_s 1 then 1 else 0)) ≠ 0)))) else (-5)) else (-2))
def w_207 (m : am_M) (p : Int) : am_M := (mu m 53 0 0)
def q_207 (m : am_M) (p : Int) : Prop := (WFG ((mu m 53 0 0) 54)) ∧ (((¬ am_s ((if 0 ≤ am_t (am_s p) ∧ am_t (am_s p) < (mu m 53 0 0) 54 0 then 1 else 0)) = 0) → ((am_s ((if (0 ≤ am_s p ∧ am_s p < (mu m 53 0 0) 54 0) ∧ nv ((mu m 53 0 0) 54) (8 + (am_s p).toNat) = am_s 3 then 1 else 0)) = 0) → (WFG ((mu m 53 0 0) 54) ∧ 0 ≤ p ∧ p < (mu m 53 0 0) 54 0))))
/-- HeardBarrelsModel.tone -/
theorem c_207 {fx : am_X0}   (m : am_M) (p : Int) (hq : q_207 m p) : rn fx 3 (0, 0) 207 0 (am_ent 2 [.inr (.inr (some 53)), .inl p]) [] (st0 m) ([.inl (v_207 m p)], st0 (w_207 m p)) := by
  unfold q_207 at hq
  show rn fx 3 (0, 0) 207 0 [some (.inr (.inr (some 53))), some (.inl p)] [] (st0 m) _
  refine t_207_0  ?_
  obtain ⟨hb0_0, hq⟩ := hq
  refine ⟨hb0_0, ?_⟩
  refine ⟨fun hc0 => ?_, fun hc0 => ?_⟩
  · have hq := hq hc0
    have hb1_0 := hq
    refine ⟨hb1_0, ?_⟩
    intro y1 hy1
    subst hy1
    simp only [v_207, w_207, if_pos hc0]
  · skip
    simp only [v_207, w_207, if_neg hc0]
theorem t_209_0 {fx : am_X0} {o : List am_V × am_S} {m : am_M} {p : Int}  (H : (WFG ((mu m 53 0 0) 54)) ∧ (((¬ (am_s ((if (0 ≤ am_s p ∧ am_s p < (mu m 53 0 0) 54 0) ∧ nv ((mu m 53 0 0) 54) (8 + (am_s p).toNat) ≠ 3 then 1 else 0)) = 0)) → (WFG ((mu m 53 0 0) 54) ∧ (0 ≤ p ∧ p < (mu m 53 0 0) 54 0) ∧ 0 ≤ (((ons (nv ((mu m 53 0 0) 54)) (am_s 1) : Nat) : Int)) ∧ (((ons (nv ((mu m 53 0 0) 54)) (am_s 1) : Nat) : Int)) < 2147483648)) ∧ (∀ y1 : Int, y1 = (if am_s ((if (0 ≤ am_s p ∧ am_s p < (mu m 53 0 0) 54 0) ∧ nv ((mu m 53 0 0) 54) (8 + (am_s p).toNat) ≠ 3 then 1 else 0)) = 0 then (-1000) else ((hrd (nv ((mu m 53 0 0) 54)) p.toNat (((ons (nv ((mu m 53 0 0) 54)) (am_s 1) : Nat) : Int)).toNat))) → o = ([.inl y1], st0 (mu m 53 0 0))))) : rn fx 4 (0, 0) 209 0 [some (.inr (.inr (some 53))), some (.inl p)] [] (st0 m) o := by
  refine r_ld (pc' := 1) hM_209 d_209_0 rfl rfl ?_
  refine r_k (pc' := 2) (v := .inl 0) hM_209 d_209_1 rfl rfl ?_
  refine r_pI (pc' := 5) (k0 := 0) hM_209 d_209_2 rfl (by decide +kernel) ?_
  refine r_ld (pc' := 6) hM_209 d_209_5 rfl rfl ?_
  refine r_ld (pc' := 7) hM_209 d_209_6 rfl rfl ?_
  obtain ⟨hz1, H⟩ := H
  refine r_cl (pc' := 10) (c := (206, 0)) (a := [.inr (.inr (some 53)), .inl p]) (q := []) hM_209 d_209_7 rfl (by decide +kernel) hM_206 rfl rfl rfl (Nat.le_of_ble_eq_true rfl) (Nat.le_of_ble_eq_true rfl) (Or.inr rfl) (n_206  (mu m 53 0 0) p hz1) (Nat.le_of_ble_eq_true rfl) ?_
  show rn fx 4 (0, 0) 209 10 [some (.inr (.inr (some 53))), some (.inl p)] [.inl ((if (0 ≤ am_s p ∧ am_s p < (mu m 53 0 0) 54 0) ∧ nv ((mu m 53 0 0) 54) (8 + (am_s p).toNat) ≠ 3 then 1 else 0))] (st0 (mu m 53 0 0)) o
  obtain ⟨hz3, H⟩ := H
  have K : ∀ y1 : Int, y1 = (if am_s ((if (0 ≤ am_s p ∧ am_s p < (mu m 53 0 0) 54 0) ∧ nv ((mu m 53 0 0) 54) (8 + (am_s p).toNat) ≠ 3 then 1 else 0)) = 0 then (-1000) else ((hrd (nv ((mu m 53 0 0) 54)) p.toNat (((ons (nv ((mu m 53 0 0) 54)) (am_s 1) : Nat) : Int)).toNat))) → rn fx 4 (0, 0) 209 29 [some (.inr (.inr (some 53))), some (.inl p)] [.inl y1] (st0 (mu m 53 0 0)) o := by
    intro y1 hy1
    replace H := H y1 hy1
    subst H
    exact rt_i hM_209 d_209_29 rfl
  replace K := K _ rfl
  clear H
  refine r_if (pc' := 26) (pc2 := 13) hM_209 d_209_10 (by decide) rfl (fun hz2 => ?_) (fun hz2 => ?_)
  · have hz2 : am_s ((if (0 ≤ am_s p ∧ am_s p < (mu m 53 0 0) 54 0) ∧ nv ((mu m 53 0 0) 54) (8 + (am_s p).toNat) ≠ 3 then 1 else 0)) = 0 := hz2
    rw [if_pos hz2] at K
    refine r_k (pc' := 29) (v := .inl (-1000)) hM_209 d_209_26 rfl rfl ?_
    exact K
  · have hz2 : ¬ (am_s ((if (0 ≤ am_s p ∧ am_s p < (mu m 53 0 0) 54 0) ∧ nv ((mu m 53 0 0) 54) (8 + (am_s p).toNat) ≠ 3 then 1 else 0)) = 0) := hz2
    rw [if_neg hz2] at K
    refine r_ld (pc' := 14) hM_209 d_209_13 rfl rfl ?_
    refine r_ld (pc' := 15) hM_209 d_209_14 rfl rfl ?_
    refine r_ld (pc' := 16) hM_209 d_209_15 rfl rfl ?_
    refine r_k (pc' := 17) (v := .inl 1) hM_209 d_209_16 rfl rfl ?_
    refine r_cl (pc' := 20) (c := (192, 0)) (a := [.inr (.inr (some 53)), .inl 1]) (q := [.inl p, .inr (.inr (some 53))]) hM_209 d_209_17 rfl (by decide +kernel) hM_192 rfl rfl rfl (Nat.le_of_ble_eq_true rfl) (Nat.le_of_ble_eq_true rfl) (Or.inr rfl) (c_192  (mu m 53 0 0) 1 hz1) (Nat.le_of_ble_eq_true rfl) ?_
    show rn fx 4 (0, 0) 209 20 [some (.inr (.inr (some 53))), some (.inl p)] [.inl (((ons (nv ((mu m 53 0 0) 54)) (am_s 1) : Nat) : Int)), .inl p, .inr (.inr (some 53))] (st0 (mu m 53 0 0)) o
    refine r_cl (pc' := 23) (c := (210, 0)) (a := [.inr (.inr (some 53)), .inl p, .inl (((ons (nv ((mu m 53 0 0) 54)) (am_s 1) : Nat) : Int))]) (q := []) hM_209 d_209_20 rfl (by decide +kernel) hM_210 rfl rfl rfl (Nat.le_of_ble_eq_true rfl) (Nat.le_of_ble_eq_true rfl) (Or.inr rfl) (n_210  (mu m 53 0 0) p (((ons (nv ((mu m 53 0 0) 54)) (am_s 1) : Nat) : Int)) (hz3 hz2)) (Nat.le_of_ble_eq_true rfl) ?_
    show rn fx 4 (0, 0) 209 23 [some (.inr (.inr (some 53))), some (.inl p)] [.inl ((hrd (nv ((mu m 53 0 0) 54)) p.toNat (((ons (nv ((mu m 53 0 0) 54)) (am_s 1) : Nat) : Int)).toNat))] (st0 (mu m 53 0 0)) o
    refine r_go (pc' := 29) hM_209 d_209_23 (by decide) ?_
    exact K
def v_209 (m : am_M) (p : Int) : Int := (if am_s ((if (0 ≤ am_s p ∧ am_s p < (mu m 53 0 0) 54 0) ∧ nv ((mu m 53 0 0) 54) (8 + (am_s p).toNat) ≠ 3 then 1 else 0)) = 0 then (-1000) else ((hrd (nv ((mu m 53 0 0) 54)) p.toNat (((ons (nv ((mu m 53 0 0) 54)) (am_s 1) : Nat) : Int)).toNat)))
def w_209 (m : am_M) (p : Int) : am_M := (mu m 53 0 0)
def q_209 (m : am_M) (p : Int) : Prop := (WFG ((mu m 53 0 0) 54)) ∧ ((¬ (am_s ((if (0 ≤ am_s p ∧ am_s p < (mu m 53 0 0) 54 0) ∧ nv ((mu m 53 0 0) 54) (8 + (am_s p).toNat) ≠ 3 then 1 else 0)) = 0)) → (WFG ((mu m 53 0 0) 54) ∧ (0 ≤ p ∧ p < (mu m 53 0 0) 54 0) ∧ 0 ≤ (((ons (nv ((mu m 53 0 0) 54)) (am_s 1) : Nat) : Int)) ∧ (((ons (nv ((mu m 53 0 0) 54)) (am_s 1) : Nat) : Int)) < 2147483648))
/-- HeardBarrelsModel.knock -/
theorem c_209 {fx : am_X0}   (m : am_M) (p : Int) (hq : q_209 m p) : rn fx 4 (0, 0) 209 0 (am_ent 2 [.inr (.inr (some 53)), .inl p]) [] (st0 m) ([.inl (v_209 m p)], st0 (w_209 m p)) := by
  unfold q_209 at hq
  show rn fx 4 (0, 0) 209 0 [some (.inr (.inr (some 53))), some (.inl p)] [] (st0 m) _
  refine t_209_0  ?_
  obtain ⟨hb0_0, hq⟩ := hq
  refine ⟨hb0_0, ?_⟩
  have hb0_0 := hq
  refine ⟨hb0_0, ?_⟩
  intro y1 hy1
  subst hy1
  simp only [v_209, w_209]
theorem t_211_0 {fx : am_X0} {o : List am_V × am_S} {m : am_M} {p : Int} {b : Int}  (H : (WFG ((mu m 53 0 0) 54)) ∧ (((¬ (am_s ((if (0 ≤ am_s p ∧ am_s p < (mu m 53 0 0) 54 0) ∧ nv ((mu m 53 0 0) 54) (8 + (am_s p).toNat) ≠ 3 then 1 else 0)) = 0)) → (¬ (¬ am_s (am_and b (am_xor (am_or (((ons (nv ((mu m 53 0 0) 54)) (am_s 0) : Nat) : Int)) (((ons (nv ((mu m 53 0 0) 54)) (am_s 1) : Nat) : Int))) (-1))) = 0)) → (WFG ((mu m 53 0 0) 54) ∧ (0 ≤ p ∧ p < (mu m 53 0 0) 54 0) ∧ 0 ≤ b ∧ b < 2147483648)) ∧ (∀ y1 : Int, y1 = (if am_s ((if (0 ≤ am_s p ∧ am_s p < (mu m 53 0 0) 54 0) ∧ nv ((mu m 53 0 0) 54) (8 + (am_s p).toNat) ≠ 3 then 1 else 0)) = 0 then (-1000) else (if ¬ am_s (am_and b (am_xor (am_or (((ons (nv ((mu m 53 0 0) 54)) (am_s 0) : Nat) : Int)) (((ons (nv ((mu m 53 0 0) 54)) (am_s 1) : Nat) : Int))) (-1))) = 0 then (-1000) else ((hrd (nv ((mu m 53 0 0) 54)) p.toNat b.toNat)))) → o = ([.inl y1], st0 (mu m 53 0 0))))) : rn fx 4 (0, 0) 211 0 [some (.inr (.inr (some 53))), some (.inl p), some (.inl b)] [] (st0 m) o := by
  refine r_ld (pc' := 1) hM_211 d_211_0 rfl rfl ?_
  refine r_k (pc' := 2) (v := .inl 0) hM_211 d_211_1 rfl rfl ?_
  refine r_pI (pc' := 5) (k0 := 0) hM_211 d_211_2 rfl (by decide +kernel) ?_
  refine r_ld (pc' := 6) hM_211 d_211_5 rfl rfl ?_
  refine r_ld (pc' := 7) hM_211 d_211_6 rfl rfl ?_
  obtain ⟨hz1, H⟩ := H
  refine r_cl (pc' := 10) (c := (206, 0)) (a := [.inr (.inr (some 53)), .inl p]) (q := []) hM_211 d_211_7 rfl (by decide +kernel) hM_206 rfl rfl rfl (Nat.le_of_ble_eq_true rfl) (Nat.le_of_ble_eq_true rfl) (Or.inr rfl) (n_206  (mu m 53 0 0) p hz1) (Nat.le_of_ble_eq_true rfl) ?_
  show rn fx 4 (0, 0) 211 10 [some (.inr (.inr (some 53))), some (.inl p), some (.inl b)] [.inl ((if (0 ≤ am_s p ∧ am_s p < (mu m 53 0 0) 54 0) ∧ nv ((mu m 53 0 0) 54) (8 + (am_s p).toNat) ≠ 3 then 1 else 0))] (st0 (mu m 53 0 0)) o
  obtain ⟨hz4, H⟩ := H
  have K : ∀ y1 : Int, y1 = (if am_s ((if (0 ≤ am_s p ∧ am_s p < (mu m 53 0 0) 54 0) ∧ nv ((mu m 53 0 0) 54) (8 + (am_s p).toNat) ≠ 3 then 1 else 0)) = 0 then (-1000) else (if ¬ am_s (am_and b (am_xor (am_or (((ons (nv ((mu m 53 0 0) 54)) (am_s 0) : Nat) : Int)) (((ons (nv ((mu m 53 0 0) 54)) (am_s 1) : Nat) : Int))) (-1))) = 0 then (-1000) else ((hrd (nv ((mu m 53 0 0) 54)) p.toNat b.toNat)))) → rn fx 4 (0, 0) 211 43 [some (.inr (.inr (some 53))), some (.inl p), some (.inl b)] [.inl y1] (st0 (mu m 53 0 0)) o := by
    intro y1 hy1
    replace H := H y1 hy1
    subst H
    exact rt_i hM_211 d_211_43 rfl
  replace K := K _ rfl
  clear H
  refine r_if (pc' := 40) (pc2 := 13) hM_211 d_211_10 (by decide) rfl (fun hz2 => ?_) (fun hz2 => ?_)
  · have hz2 : am_s ((if (0 ≤ am_s p ∧ am_s p < (mu m 53 0 0) 54 0) ∧ nv ((mu m 53 0 0) 54) (8 + (am_s p).toNat) ≠ 3 then 1 else 0)) = 0 := hz2
    rw [if_pos hz2] at K
    refine r_k (pc' := 43) (v := .inl (-1000)) hM_211 d_211_40 rfl rfl ?_
    exact K
  · have hz2 : ¬ (am_s ((if (0 ≤ am_s p ∧ am_s p < (mu m 53 0 0) 54 0) ∧ nv ((mu m 53 0 0) 54) (8 + (am_s p).toNat) ≠ 3 then 1 else 0)) = 0) := hz2
    rw [if_neg hz2] at K
    refine r_ld (pc' := 14) hM_211 d_211_13 rfl rfl ?_
    refine r_ld (pc' := 15) hM_211 d_211_14 rfl rfl ?_
    refine r_k (pc' := 16) (v := .inl 0) hM_211 d_211_15 rfl rfl ?_
    refine r_cl (pc' := 19) (c := (192, 0)) (a := [.inr (.inr (some 53)), .inl 0]) (q := [.inl b]) hM_211 d_211_16 rfl (by decide +kernel) hM_192 rfl rfl rfl (Nat.le_of_ble_eq_true rfl) (Nat.le_of_ble_eq_true rfl) (Or.inr rfl) (c_192  (mu m 53 0 0) 0 hz1) (Nat.le_of_ble_eq_true rfl) ?_
    show rn fx 4 (0, 0) 211 19 [some (.inr (.inr (some 53))), some (.inl p), some (.inl b)] [.inl (((ons (nv ((mu m 53 0 0) 54)) (am_s 0) : Nat) : Int)), .inl b] (st0 (mu m 53 0 0)) o
    refine r_ld (pc' := 20) hM_211 d_211_19 rfl rfl ?_
    refine r_k (pc' := 21) (v := .inl 1) hM_211 d_211_20 rfl rfl ?_
    refine r_cl (pc' := 24) (c := (192, 0)) (a := [.inr (.inr (some 53)), .inl 1]) (q := [.inl (((ons (nv ((mu m 53 0 0) 54)) (am_s 0) : Nat) : Int)), .inl b]) hM_211 d_211_21 rfl (by decide +kernel) hM_192 rfl rfl rfl (Nat.le_of_ble_eq_true rfl) (Nat.le_of_ble_eq_true rfl) (Or.inr rfl) (c_192  (mu m 53 0 0) 1 hz1) (Nat.le_of_ble_eq_true rfl) ?_
    show rn fx 4 (0, 0) 211 24 [some (.inr (.inr (some 53))), some (.inl p), some (.inl b)] [.inl (((ons (nv ((mu m 53 0 0) 54)) (am_s 1) : Nat) : Int)), .inl (((ons (nv ((mu m 53 0 0) 54)) (am_s 0) : Nat) : Int)), .inl b] (st0 (mu m 53 0 0)) o
    refine r_b (pc' := 25) (z := (am_or (((ons (nv ((mu m 53 0 0) 54)) (am_s 0) : Nat) : Int)) (((ons (nv ((mu m 53 0 0) 54)) (am_s 1) : Nat) : Int)))) hM_211 d_211_24 rfl rfl ?_
    refine r_k (pc' := 26) (v := .inl (-1)) hM_211 d_211_25 rfl rfl ?_
    refine r_b (pc' := 27) (z := (am_xor (am_or (((ons (nv ((mu m 53 0 0) 54)) (am_s 0) : Nat) : Int)) (((ons (nv ((mu m 53 0 0) 54)) (am_s 1) : Nat) : Int))) (-1))) hM_211 d_211_26 rfl rfl ?_
    refine r_b (pc' := 28) (z := (am_and b (am_xor (am_or (((ons (nv ((mu m 53 0 0) 54)) (am_s 0) : Nat) : Int)) (((ons (nv ((mu m 53 0 0) 54)) (am_s 1) : Nat) : Int))) (-1)))) hM_211 d_211_27 rfl rfl ?_
    refine r_if (pc' := 40) (pc2 := 31) hM_211 d_211_28 (by decide) rfl (fun hz3 => ?_) (fun hz3 => ?_)
    · have hz3 : ¬ am_s (am_and b (am_xor (am_or (((ons (nv ((mu m 53 0 0) 54)) (am_s 0) : Nat) : Int)) (((ons (nv ((mu m 53 0 0) 54)) (am_s 1) : Nat) : Int))) (-1))) = 0 := hz3
      rw [if_pos hz3] at K
      refine r_k (pc' := 43) (v := .inl (-1000)) hM_211 d_211_40 rfl rfl ?_
      exact K
    · have hz3 : ¬ (¬ am_s (am_and b (am_xor (am_or (((ons (nv ((mu m 53 0 0) 54)) (am_s 0) : Nat) : Int)) (((ons (nv ((mu m 53 0 0) 54)) (am_s 1) : Nat) : Int))) (-1))) = 0) := hz3
      rw [if_neg hz3] at K
      refine r_ld (pc' := 32) hM_211 d_211_31 rfl rfl ?_
      refine r_ld (pc' := 33) hM_211 d_211_32 rfl rfl ?_
      refine r_ld (pc' := 34) hM_211 d_211_33 rfl rfl ?_
      refine r_cl (pc' := 37) (c := (210, 0)) (a := [.inr (.inr (some 53)), .inl p, .inl b]) (q := []) hM_211 d_211_34 rfl (by decide +kernel) hM_210 rfl rfl rfl (Nat.le_of_ble_eq_true rfl) (Nat.le_of_ble_eq_true rfl) (Or.inr rfl) (n_210  (mu m 53 0 0) p b (hz4 hz2 hz3)) (Nat.le_of_ble_eq_true rfl) ?_
      show rn fx 4 (0, 0) 211 37 [some (.inr (.inr (some 53))), some (.inl p), some (.inl b)] [.inl ((hrd (nv ((mu m 53 0 0) 54)) p.toNat b.toNat))] (st0 (mu m 53 0 0)) o
      refine r_go (pc' := 43) hM_211 d_211_37 (by decide) ?_
      exact K
def v_211 (m : am_M) (p : Int) (b : Int) : Int := (if am_s ((if (0 ≤ am_s p ∧ am_s p < (mu m 53 0 0) 54 0) ∧ nv ((mu m 53 0 0) 54) (8 + (am_s p).toNat) ≠ 3 then 1 else 0)) = 0 then (-1000) else (if ¬ am_s (am_and b (am_xor (am_or (((ons (nv ((mu m 53 0 0) 54)) (am_s 0) : Nat) : Int)) (((ons (nv ((mu m 53 0 0) 54)) (am_s 1) : Nat) : Int))) (-1))) = 0 then (-1000) else ((hrd (nv ((mu m 53 0 0) 54)) p.toNat b.toNat))))
def w_211 (m : am_M) (p : Int) (b : Int) : am_M := (mu m 53 0 0)
def q_211 (m : am_M) (p : Int) (b : Int) : Prop := (WFG ((mu m 53 0 0) 54)) ∧ ((¬ (am_s ((if (0 ≤ am_s p ∧ am_s p < (mu m 53 0 0) 54 0) ∧ nv ((mu m 53 0 0) 54) (8 + (am_s p).toNat) ≠ 3 then 1 else 0)) = 0)) → (¬ (¬ am_s (am_and b (am_xor (am_or (((ons (nv ((mu m 53 0 0) 54)) (am_s 0) : Nat) : Int)) (((ons (nv ((mu m 53 0 0) 54)) (am_s 1) : Nat) : Int))) (-1))) = 0)) → (WFG ((mu m 53 0 0) 54) ∧ (0 ≤ p ∧ p < (mu m 53 0 0) 54 0) ∧ 0 ≤ b ∧ b < 2147483648))
/-- HeardBarrelsModel.heard -/
theorem c_211 {fx : am_X0}   (m : am_M) (p : Int) (b : Int) (hq : q_211 m p b) : rn fx 4 (0, 0) 211 0 (am_ent 3 [.inr (.inr (some 53)), .inl p, .inl b]) [] (st0 m) ([.inl (v_211 m p b)], st0 (w_211 m p b)) := by
  unfold q_211 at hq
  show rn fx 4 (0, 0) 211 0 [some (.inr (.inr (some 53))), some (.inl p), some (.inl b)] [] (st0 m) _
  refine t_211_0  ?_
  obtain ⟨hb0_0, hq⟩ := hq
  refine ⟨hb0_0, ?_⟩
  have hb0_0 := hq
  refine ⟨hb0_0, ?_⟩
  intro y1 hy1
  subst hy1
  simp only [v_211, w_211]
theorem t_242_0 {fx : am_X0} {o : List am_V × am_S} {m : am_M} {p : Int}  (H : (0 ≤ am_s (32 + p) ∧ am_s (32 + p) < (168 : Nat)) ∧ ((0 ≤ am_s (20 + p) ∧ am_s (20 + p) < (168 : Nat)) ∧ ((am_s (2 * (m 54 ((am_s (20 + p)).toNat))) ≠ 0) ∧ (o = ([.inl (am_div (((100 - (m 54 ((am_s (32 + p)).toNat))) + (2 * (m 54 ((am_s (20 + p)).toNat)))) - 1) (2 * (m 54 ((am_s (20 + p)).toNat))))], st0 m))))) : rn fx 0 (0, 0) 242 0 [some (.inr (.inr (some 53))), some (.inl p), none, none] [] (st0 m) o := by
  refine r_k (pc' := 2) (v := .inl 100) hM_242 d_242_0 rfl rfl ?_
  refine r_ld (pc' := 3) hM_242 d_242_2 rfl rfl ?_
  refine r_gR (pc' := 6) (v := 54) hM_242 d_242_3 rfl (by decide +kernel) ?_
  refine r_k (pc' := 8) (v := .inl 32) hM_242 d_242_6 rfl rfl ?_
  refine r_ld (pc' := 9) hM_242 d_242_8 rfl rfl ?_
  refine r_b (pc' := 10) (z := (32 + p)) hM_242 d_242_9 rfl rfl ?_
  obtain ⟨hz1, H⟩ := H
  refine r_ia (pc' := 11) (n := 168) hM_242 d_242_10 rfl rfl hz1 ?_
  refine r_b (pc' := 12) (z := (100 - (m 54 ((am_s (32 + p)).toNat)))) hM_242 d_242_11 rfl rfl ?_
  refine r_sto (pc' := 13) (ls' := [some (.inr (.inr (some 53))), some (.inl p), some (.inl (100 - (m 54 ((am_s (32 + p)).toNat)))), none]) hM_242 d_242_12 rfl rfl ?_
  refine r_k (pc' := 14) (v := .inl 2) hM_242 d_242_13 rfl rfl ?_
  refine r_ld (pc' := 15) hM_242 d_242_14 rfl rfl ?_
  refine r_gR (pc' := 18) (v := 54) hM_242 d_242_15 rfl (by decide +kernel) ?_
  refine r_k (pc' := 20) (v := .inl 20) hM_242 d_242_18 rfl rfl ?_
  refine r_ld (pc' := 21) hM_242 d_242_20 rfl rfl ?_
  refine r_b (pc' := 22) (z := (20 + p)) hM_242 d_242_21 rfl rfl ?_
  obtain ⟨hz2, H⟩ := H
  refine r_ia (pc' := 23) (n := 168) hM_242 d_242_22 rfl rfl hz2 ?_
  refine r_b (pc' := 24) (z := (2 * (m 54 ((am_s (20 + p)).toNat)))) hM_242 d_242_23 rfl rfl ?_
  refine r_sto (pc' := 25) (ls' := [some (.inr (.inr (some 53))), some (.inl p), some (.inl (100 - (m 54 ((am_s (32 + p)).toNat)))), some (.inl (2 * (m 54 ((am_s (20 + p)).toNat))))]) hM_242 d_242_24 rfl rfl ?_
  refine r_ld (pc' := 26) hM_242 d_242_25 rfl rfl ?_
  refine r_ld (pc' := 27) hM_242 d_242_26 rfl rfl ?_
  refine r_b (pc' := 28) (z := ((100 - (m 54 ((am_s (32 + p)).toNat))) + (2 * (m 54 ((am_s (20 + p)).toNat))))) hM_242 d_242_27 rfl rfl ?_
  refine r_k (pc' := 29) (v := .inl 1) hM_242 d_242_28 rfl rfl ?_
  refine r_b (pc' := 30) (z := (((100 - (m 54 ((am_s (32 + p)).toNat))) + (2 * (m 54 ((am_s (20 + p)).toNat)))) - 1)) hM_242 d_242_29 rfl rfl ?_
  refine r_ld (pc' := 31) hM_242 d_242_30 rfl rfl ?_
  obtain ⟨H0, H⟩ := H
  refine r_div (pc' := 32) hM_242 d_242_31 rfl H0 ?_
  subst H
  exact rt_i hM_242 d_242_32 rfl
def v_242 (m : am_M) (p : Int) : Int := (am_div (((100 - (m 54 ((am_s (32 + p)).toNat))) + (2 * (m 54 ((am_s (20 + p)).toNat)))) - 1) (2 * (m 54 ((am_s (20 + p)).toNat))))
def q_242 (m : am_M) (p : Int) : Prop := (0 ≤ am_s (32 + p) ∧ am_s (32 + p) < (168 : Nat)) ∧ (0 ≤ am_s (20 + p) ∧ am_s (20 + p) < (168 : Nat)) ∧ (am_s (2 * (m 54 ((am_s (20 + p)).toNat))) ≠ 0)
/-- HeardBarrelsModel.ripeInOf -/
theorem c_242 {fx : am_X0}   (m : am_M) (p : Int) (hq : q_242 m p) : rn fx 0 (0, 0) 242 0 (am_ent 4 [.inr (.inr (some 53)), .inl p]) [] (st0 m) ([.inl (v_242 m p)], st0 m) := by
  unfold q_242 at hq
  show rn fx 0 (0, 0) 242 0 [some (.inr (.inr (some 53))), some (.inl p), none, none] [] (st0 m) _
  refine t_242_0  ?_
  obtain ⟨hb0_0, hq⟩ := hq
  refine ⟨hb0_0, ?_⟩
  obtain ⟨hb0_0, hq⟩ := hq
  refine ⟨hb0_0, ?_⟩
  have hb0_0 := hq
  refine ⟨hb0_0, ?_⟩
  simp only [v_242]
theorem t_241_0 {fx : am_X0} {o : List am_V × am_S} {m : am_M} {p : Int}  (H : (WFG ((mu m 53 0 0) 54)) ∧ (((¬ am_s ((if 0 ≤ am_t (am_s p) ∧ am_t (am_s p) < (mu m 53 0 0) 54 0 then 1 else 0)) = 0) → ((¬ (am_s ((if (0 ≤ am_s p ∧ am_s p < (mu m 53 0 0) 54 0) ∧ nv ((mu m 53 0 0) 54) (8 + (am_s p).toNat) = am_s 0 then 1 else 0)) = 0)) → (q_242 (mu m 53 0 0) p)) ∧ (∀ y1 : Int, y1 = (if am_s ((if (0 ≤ am_s p ∧ am_s p < (mu m 53 0 0) 54 0) ∧ nv ((mu m 53 0 0) 54) (8 + (am_s p).toNat) = am_s 0 then 1 else 0)) = 0 then (-1) else (v_242 (mu m 53 0 0) p)) → o = ([.inl y1], st0 (mu m 53 0 0)))) ∧ (¬ (¬ am_s ((if 0 ≤ am_t (am_s p) ∧ am_t (am_s p) < (mu m 53 0 0) 54 0 then 1 else 0)) = 0) → o = ([.inl (-2)], st0 (mu m 53 0 0))))) : rn fx 3 (0, 0) 241 0 [some (.inr (.inr (some 53))), some (.inl p)] [] (st0 m) o := by
  refine r_ld (pc' := 1) hM_241 d_241_0 rfl rfl ?_
  refine r_k (pc' := 2) (v := .inl 0) hM_241 d_241_1 rfl rfl ?_
  refine r_pI (pc' := 5) (k0 := 0) hM_241 d_241_2 rfl (by decide +kernel) ?_
  refine r_ld (pc' := 6) hM_241 d_241_5 rfl rfl ?_
  refine r_ld (pc' := 7) hM_241 d_241_6 rfl rfl ?_
  refine r_stk (pc' := 8) (st' := [.inr (.inl (am_s p)), .inr (.inr (some 53))]) hM_241 d_241_7 rfl rfl ?_
  obtain ⟨hz1, H⟩ := H
  refine r_cl (pc' := 11) (c := (183, 0)) (a := [.inr (.inr (some 53)), .inr (.inl (am_s p))]) (q := []) hM_241 d_241_8 rfl (by decide +kernel) hM_183 rfl rfl rfl (Nat.le_of_ble_eq_true rfl) (Nat.le_of_ble_eq_true rfl) (Or.inr rfl) (n_183  (mu m 53 0 0) (am_s p) hz1) (Nat.le_of_ble_eq_true rfl) ?_
  show rn fx 3 (0, 0) 241 11 [some (.inr (.inr (some 53))), some (.inl p)] [.inl ((if 0 ≤ am_t (am_s p) ∧ am_t (am_s p) < (mu m 53 0 0) 54 0 then 1 else 0))] (st0 (mu m 53 0 0)) o
  refine r_if (pc' := 17) (pc2 := 14) hM_241 d_241_11 (by decide) rfl (fun hz2 => ?_) (fun hz2 => ?_)
  · have H := H.1 hz2
    refine r_ld (pc' := 18) hM_241 d_241_17 rfl rfl ?_
    refine r_ld (pc' := 19) hM_241 d_241_18 rfl rfl ?_
    refine r_k (pc' := 20) (v := .inl 0) hM_241 d_241_19 rfl rfl ?_
    refine r_cl (pc' := 23) (c := (187, 0)) (a := [.inr (.inr (some 53)), .inl p, .inl 0]) (q := []) hM_241 d_241_20 rfl (by decide +kernel) hM_187 rfl rfl rfl (Nat.le_of_ble_eq_true rfl) (Nat.le_of_ble_eq_true rfl) (Or.inr rfl) (n_187  (mu m 53 0 0) p 0 hz1) (Nat.le_of_ble_eq_true rfl) ?_
    show rn fx 3 (0, 0) 241 23 [some (.inr (.inr (some 53))), some (.inl p)] [.inl ((if (0 ≤ am_s p ∧ am_s p < (mu m 53 0 0) 54 0) ∧ nv ((mu m 53 0 0) 54) (8 + (am_s p).toNat) = am_s 0 then 1 else 0))] (st0 (mu m 53 0 0)) o
    obtain ⟨hz4, H⟩ := H
    have K : ∀ y1 : Int, y1 = (if am_s ((if (0 ≤ am_s p ∧ am_s p < (mu m 53 0 0) 54 0) ∧ nv ((mu m 53 0 0) 54) (8 + (am_s p).toNat) = am_s 0 then 1 else 0)) = 0 then (-1) else (v_242 (mu m 53 0 0) p)) → rn fx 3 (0, 0) 241 35 [some (.inr (.inr (some 53))), some (.inl p)] [.inl y1] (st0 (mu m 53 0 0)) o := by
      intro y1 hy1
      replace H := H y1 hy1
      subst H
      exact rt_i hM_241 d_241_35 rfl
    replace K := K _ rfl
    clear H
    refine r_if (pc' := 34) (pc2 := 26) hM_241 d_241_23 (by decide) rfl (fun hz3 => ?_) (fun hz3 => ?_)
    · have hz3 : am_s ((if (0 ≤ am_s p ∧ am_s p < (mu m 53 0 0) 54 0) ∧ nv ((mu m 53 0 0) 54) (8 + (am_s p).toNat) = am_s 0 then 1 else 0)) = 0 := hz3
      rw [if_pos hz3] at K
      refine r_k (pc' := 35) (v := .inl (-1)) hM_241 d_241_34 rfl rfl ?_
      exact K
    · have hz3 : ¬ (am_s ((if (0 ≤ am_s p ∧ am_s p < (mu m 53 0 0) 54 0) ∧ nv ((mu m 53 0 0) 54) (8 + (am_s p).toNat) = am_s 0 then 1 else 0)) = 0) := hz3
      rw [if_neg hz3] at K
      refine r_ld (pc' := 27) hM_241 d_241_26 rfl rfl ?_
      refine r_ld (pc' := 28) hM_241 d_241_27 rfl rfl ?_
      refine r_cl (pc' := 31) (c := (242, 0)) (a := [.inr (.inr (some 53)), .inl p]) (q := []) hM_241 d_241_28 rfl (by decide +kernel) hM_242 rfl rfl rfl (Nat.le_of_ble_eq_true rfl) (Nat.le_of_ble_eq_true rfl) (Or.inr rfl) (c_242  (mu m 53 0 0) p (hz4 hz3)) (Nat.le_of_ble_eq_true rfl) ?_
      show rn fx 3 (0, 0) 241 31 [some (.inr (.inr (some 53))), some (.inl p)] [.inl (v_242 (mu m 53 0 0) p)] (st0 (mu m 53 0 0)) o
      refine r_go (pc' := 35) hM_241 d_241_31 (by decide) ?_
      exact K
  · have H := H.2 hz2
    refine r_k (pc' := 16) (v := .inl (-2)) hM_241 d_241_14 rfl rfl ?_
    subst H
    exact rt_i hM_241 d_241_16 rfl
def v_241 (m : am_M) (p : Int) : Int := (if ¬ am_s ((if 0 ≤ am_t (am_s p) ∧ am_t (am_s p) < (mu m 53 0 0) 54 0 then 1 else 0)) = 0 then (if am_s ((if (0 ≤ am_s p ∧ am_s p < (mu m 53 0 0) 54 0) ∧ nv ((mu m 53 0 0) 54) (8 + (am_s p).toNat) = am_s 0 then 1 else 0)) = 0 then (-1) else (v_242 (mu m 53 0 0) p)) else (-2))
def w_241 (m : am_M) (p : Int) : am_M := (mu m 53 0 0)
def q_241 (m : am_M) (p : Int) : Prop := (WFG ((mu m 53 0 0) 54)) ∧ (((¬ am_s ((if 0 ≤ am_t (am_s p) ∧ am_t (am_s p) < (mu m 53 0 0) 54 0 then 1 else 0)) = 0) → ((¬ (am_s ((if (0 ≤ am_s p ∧ am_s p < (mu m 53 0 0) 54 0) ∧ nv ((mu m 53 0 0) 54) (8 + (am_s p).toNat) = am_s 0 then 1 else 0)) = 0)) → (q_242 (mu m 53 0 0) p))))
/-- HeardBarrelsModel.ripeIn -/
theorem c_241 {fx : am_X0}   (m : am_M) (p : Int) (hq : q_241 m p) : rn fx 3 (0, 0) 241 0 (am_ent 2 [.inr (.inr (some 53)), .inl p]) [] (st0 m) ([.inl (v_241 m p)], st0 (w_241 m p)) := by
  unfold q_241 at hq
  show rn fx 3 (0, 0) 241 0 [some (.inr (.inr (some 53))), some (.inl p)] [] (st0 m) _
  refine t_241_0  ?_
  obtain ⟨hb0_0, hq⟩ := hq
  refine ⟨hb0_0, ?_⟩
  refine ⟨fun hc0 => ?_, fun hc0 => ?_⟩
  · have hq := hq hc0
    have hb1_0 := hq
    refine ⟨hb1_0, ?_⟩
    intro y1 hy1
    subst hy1
    simp only [v_241, w_241, if_pos hc0]
  · skip
    simp only [v_241, w_241, if_neg hc0]
theorem t_258_4 {fx : am_X0} {o : List am_V × am_S} {m : am_M} {x1 : Int} {x2 : Int}  (H : ((am_s (m 54 0) ≤ am_s x2) → o = ([.inl x1], st0 m)) ∧ (¬ (am_s (m 54 0) ≤ am_s x2) → (0 ≤ am_s (32 + x2) ∧ am_s (32 + x2) < (168 : Nat)) ∧ (rn fx 0 (0, 0) 258 4 [some (.inr (.inr (some 53))), some (.inl (x1 + (m 54 ((am_s (32 + x2)).toNat)))), some (.inl (x2 + 1))] [] (st0 m) o))) : rn fx 0 (0, 0) 258 4 [some (.inr (.inr (some 53))), some (.inl x1), some (.inl x2)] [] (st0 m) o := by
  refine r_ld (pc' := 5) hM_258 d_258_4 rfl rfl ?_
  refine r_ld (pc' := 6) hM_258 d_258_5 rfl rfl ?_
  refine r_gR (pc' := 9) (v := 54) hM_258 d_258_6 rfl (by decide +kernel) ?_
  refine r_k (pc' := 10) (v := .inl 0) hM_258 d_258_9 rfl rfl ?_
  refine r_iae (pc' := 11) (n := 168) (z := (m 54 0)) hM_258 d_258_10 rfl rfl (by decide) (by rw [show (am_s 0).toNat = 0 by decide]) ?_
  refine r_ic (pc' := 32) (pc2 := 14) hM_258 d_258_11 (by decide) rfl (fun hz1 => ?_) (fun hz1 => ?_)
  · have H := H.1 hz1
    refine r_ld (pc' := 33) hM_258 d_258_32 rfl rfl ?_
    subst H
    exact rt_i hM_258 d_258_33 rfl
  · have H := H.2 hz1
    refine r_ld (pc' := 15) hM_258 d_258_14 rfl rfl ?_
    refine r_ld (pc' := 16) hM_258 d_258_15 rfl rfl ?_
    refine r_gR (pc' := 19) (v := 54) hM_258 d_258_16 rfl (by decide +kernel) ?_
    refine r_k (pc' := 21) (v := .inl 32) hM_258 d_258_19 rfl rfl ?_
    refine r_ld (pc' := 22) hM_258 d_258_21 rfl rfl ?_
    refine r_b (pc' := 23) (z := (32 + x2)) hM_258 d_258_22 rfl rfl ?_
    obtain ⟨hz2, H⟩ := H
    refine r_ia (pc' := 24) (n := 168) hM_258 d_258_23 rfl rfl hz2 ?_
    refine r_b (pc' := 25) (z := (x1 + (m 54 ((am_s (32 + x2)).toNat)))) hM_258 d_258_24 rfl rfl ?_
    refine r_sto (pc' := 26) (ls' := [some (.inr (.inr (some 53))), some (.inl (x1 + (m 54 ((am_s (32 + x2)).toNat)))), some (.inl x2)]) hM_258 d_258_25 rfl rfl ?_
    refine r_sto (pc' := 29) (ls' := [some (.inr (.inr (some 53))), some (.inl (x1 + (m 54 ((am_s (32 + x2)).toNat)))), some (.inl (x2 + 1))]) hM_258 d_258_26 rfl rfl ?_
    refine r_go (pc' := 4) hM_258 d_258_29 (by decide) ?_
    exact H
theorem t_258_0 {fx : am_X0} {o : List am_V × am_S} {m : am_M}   (H : rn fx 0 (0, 0) 258 4 [some (.inr (.inr (some 53))), some (.inl 0), some (.inl 0)] [] (st0 m) o) : rn fx 0 (0, 0) 258 0 [some (.inr (.inr (some 53))), none, none] [] (st0 m) o := by
  refine r_k (pc' := 1) (v := .inl 0) hM_258 d_258_0 rfl rfl ?_
  refine r_sto (pc' := 2) (ls' := [some (.inr (.inr (some 53))), some (.inl 0), none]) hM_258 d_258_1 rfl rfl ?_
  refine r_k (pc' := 3) (v := .inl 0) hM_258 d_258_2 rfl rfl ?_
  refine r_sto (pc' := 4) (ls' := [some (.inr (.inr (some 53))), some (.inl 0), some (.inl 0)]) hM_258 d_258_3 rfl rfl ?_
  exact H
