theorem gfS_8_40 {s : Nat} (hs : s ∈ shL) : am_gf 8 40 s = some (.inl 8) := by
  have h : ∀ s ∈ shL, am_gf 8 40 s = some (.inl 8) := by decide +kernel
  exact h s hs
theorem gfS_8_46 {s : Nat} (hs : s ∈ shL) : am_gf 8 46 s = some (.inl 10) := by
  have h : ∀ s ∈ shL, am_gf 8 46 s = some (.inl 10) := by decide +kernel
  exact h s hs
theorem t_37_2 {fx : am_X0} {o : List am_V × am_S} {m : am_M} {s : Nat} {t : Nat} {x2 : Int} (hs : s ∈ shL) (h_t : t ∈ shL) (H : ((am_s 12 ≤ am_s x2) → o = ([], st0 (mu (mu (mu (mu (mu (mu (mu (mu m s 4 (m t 4)) s 5 (m t 5)) s 6 (m t 6)) s 7 (m t 7)) s 8 (m t 8)) s 9 (m t 9)) s 10 (m t 10)) s 11 (m t 11)))) ∧ (¬ (am_s 12 ≤ am_s x2) → (0 ≤ am_s x2 ∧ am_s x2 < (12 : Nat)) ∧ ((q_34 m s x2 (m (t + 1) ((am_s x2).toNat)) (m (t + 2) ((am_s x2).toNat)) (m (t + 3) ((am_s x2).toNat)) (m (t + 4) ((am_s x2).toNat))) ∧ (rn fx 1 (0, 0) 37 2 [some (.inr (.inr (some s))), some (.inr (.inr (some t))), some (.inl (x2 + 1))] [] (st0 (w_34 m s x2 (m (t + 1) ((am_s x2).toNat)) (m (t + 2) ((am_s x2).toNat)) (m (t + 3) ((am_s x2).toNat)) (m (t + 4) ((am_s x2).toNat)))) o)))) : rn fx 1 (0, 0) 37 2 [some (.inr (.inr (some s))), some (.inr (.inr (some t))), some (.inl x2)] [] (st0 m) o := by
  refine r_ld (pc' := 3) hM_37 d_37_2 rfl rfl ?_
  refine r_k (pc' := 5) (v := .inl 12) hM_37 d_37_3 rfl rfl ?_
  refine r_ic (pc' := 43) (pc2 := 8) hM_37 d_37_5 (by decide) rfl (fun hz1 => ?_) (fun hz1 => ?_)
  · have H := H.1 hz1
    refine r_ld (pc' := 44) hM_37 d_37_43 rfl rfl ?_
    refine r_ld (pc' := 45) hM_37 d_37_44 rfl rfl ?_
    refine r_gI (pc' := 48) hM_37 d_37_45 rfl (gfS_8_27 h_t) ?_
    refine r_pI (pc' := 51) hM_37 d_37_48 rfl (puS_8_27 hs) ?_
    refine r_ld (pc' := 52) hM_37 d_37_51 rfl rfl ?_
    refine r_ld (pc' := 53) hM_37 d_37_52 rfl rfl ?_
    refine r_gIe (pc' := 56) (z := (m t 5)) hM_37 d_37_53 rfl (gfS_8_31 h_t) (mu_k (by decide)) ?_
    refine r_pI (pc' := 59) hM_37 d_37_56 rfl (puS_8_31 hs) ?_
    refine r_ld (pc' := 60) hM_37 d_37_59 rfl rfl ?_
    refine r_ld (pc' := 61) hM_37 d_37_60 rfl rfl ?_
    refine r_gIe (pc' := 64) (z := (m t 6)) hM_37 d_37_61 rfl (gfS_8_34 h_t) ((mu_k (by decide)).trans (mu_k (by decide))) ?_
    refine r_pI (pc' := 67) hM_37 d_37_64 rfl (puS_8_34 hs) ?_
    refine r_ld (pc' := 68) hM_37 d_37_67 rfl rfl ?_
    refine r_ld (pc' := 69) hM_37 d_37_68 rfl rfl ?_
    refine r_gIe (pc' := 72) (z := (m t 7)) hM_37 d_37_69 rfl (gfS_8_37 h_t) ((mu_k (by decide)).trans ((mu_k (by decide)).trans (mu_k (by decide)))) ?_
    refine r_pI (pc' := 75) hM_37 d_37_72 rfl (puS_8_37 hs) ?_
    refine r_ld (pc' := 76) hM_37 d_37_75 rfl rfl ?_
    refine r_ld (pc' := 77) hM_37 d_37_76 rfl rfl ?_
    refine r_gIe (pc' := 80) (z := (m t 8)) hM_37 d_37_77 rfl (gfS_8_40 h_t) ((mu_k (by decide)).trans ((mu_k (by decide)).trans ((mu_k (by decide)).trans (mu_k (by decide))))) ?_
    refine r_pI (pc' := 83) hM_37 d_37_80 rfl (puS_8_40 hs) ?_
    refine r_ld (pc' := 84) hM_37 d_37_83 rfl rfl ?_
    refine r_ld (pc' := 85) hM_37 d_37_84 rfl rfl ?_
    refine r_gIe (pc' := 88) (z := (m t 9)) hM_37 d_37_85 rfl (gfS_8_43 h_t) ((mu_k (by decide)).trans ((mu_k (by decide)).trans ((mu_k (by decide)).trans ((mu_k (by decide)).trans (mu_k (by decide)))))) ?_
    refine r_pI (pc' := 91) hM_37 d_37_88 rfl (puS_8_43 hs) ?_
    refine r_ld (pc' := 92) hM_37 d_37_91 rfl rfl ?_
    refine r_ld (pc' := 93) hM_37 d_37_92 rfl rfl ?_
    refine r_gIe (pc' := 96) (z := (m t 10)) hM_37 d_37_93 rfl (gfS_8_46 h_t) ((mu_k (by decide)).trans ((mu_k (by decide)).trans ((mu_k (by decide)).trans ((mu_k (by decide)).trans ((mu_k (by decide)).trans (mu_k (by decide))))))) ?_
    refine r_pI (pc' := 99) hM_37 d_37_96 rfl (puS_8_46 hs) ?_
    refine r_ld (pc' := 100) hM_37 d_37_99 rfl rfl ?_
    refine r_ld (pc' := 101) hM_37 d_37_100 rfl rfl ?_
    refine r_gIe (pc' := 104) (z := (m t 11)) hM_37 d_37_101 rfl (gfS_8_49 h_t) ((mu_k (by decide)).trans ((mu_k (by decide)).trans ((mu_k (by decide)).trans ((mu_k (by decide)).trans ((mu_k (by decide)).trans ((mu_k (by decide)).trans (mu_k (by decide)))))))) ?_
    refine r_pI (pc' := 107) hM_37 d_37_104 rfl (puS_8_49 hs) ?_
    subst H
    exact rt_v hM_37 d_37_107 rfl
  · have H := H.2 hz1
    refine r_ld (pc' := 9) hM_37 d_37_8 rfl rfl ?_
    refine r_ld (pc' := 10) hM_37 d_37_9 rfl rfl ?_
    refine r_ld (pc' := 11) hM_37 d_37_10 rfl rfl ?_
    refine r_gR (pc' := 14) hM_37 d_37_11 rfl (gfS_8_9 h_t) ?_
    refine r_ld (pc' := 15) hM_37 d_37_14 rfl rfl ?_
    obtain ⟨hz2, H⟩ := H
    refine r_ia (pc' := 16) (n := 12) hM_37 d_37_15 rfl (shSk h_t).2.1 hz2 ?_
    refine r_ld (pc' := 17) hM_37 d_37_16 rfl rfl ?_
    refine r_gR (pc' := 20) hM_37 d_37_17 rfl (gfS_8_15 h_t) ?_
    refine r_ld (pc' := 21) hM_37 d_37_20 rfl rfl ?_
    refine r_ia (pc' := 22) (n := 12) hM_37 d_37_21 rfl (shSk h_t).2.2.1 hz2 ?_
    refine r_ld (pc' := 23) hM_37 d_37_22 rfl rfl ?_
    refine r_gR (pc' := 26) hM_37 d_37_23 rfl (gfS_8_18 h_t) ?_
    refine r_ld (pc' := 27) hM_37 d_37_26 rfl rfl ?_
    refine r_ia (pc' := 28) (n := 12) hM_37 d_37_27 rfl (shSk h_t).2.2.2.1 hz2 ?_
    refine r_ld (pc' := 29) hM_37 d_37_28 rfl rfl ?_
    refine r_gR (pc' := 32) hM_37 d_37_29 rfl (gfS_8_21 h_t) ?_
    refine r_ld (pc' := 33) hM_37 d_37_32 rfl rfl ?_
    refine r_ia (pc' := 34) (n := 12) hM_37 d_37_33 rfl (shSk h_t).2.2.2.2 hz2 ?_
    obtain ⟨hz3, H⟩ := H
    refine r_cl (pc' := 37) (c := (34, 0)) (a := [.inr (.inr (some s)), .inl x2, .inl (m (t + 1) ((am_s x2).toNat)), .inl (m (t + 2) ((am_s x2).toNat)), .inl (m (t + 3) ((am_s x2).toNat)), .inl (m (t + 4) ((am_s x2).toNat))]) (q := []) hM_37 d_37_34 rfl (by decide +kernel) hM_34 rfl rfl rfl (Nat.le_of_ble_eq_true rfl) (Nat.le_of_ble_eq_true rfl) (Or.inr (rcvS hs _)) (c_34 hs m x2 (m (t + 1) ((am_s x2).toNat)) (m (t + 2) ((am_s x2).toNat)) (m (t + 3) ((am_s x2).toNat)) (m (t + 4) ((am_s x2).toNat)) hz3) (Nat.le_of_ble_eq_true rfl) ?_
    show rn fx 1 (0, 0) 37 37 [some (.inr (.inr (some s))), some (.inr (.inr (some t))), some (.inl x2)] [] (st0 (w_34 m s x2 (m (t + 1) ((am_s x2).toNat)) (m (t + 2) ((am_s x2).toNat)) (m (t + 3) ((am_s x2).toNat)) (m (t + 4) ((am_s x2).toNat)))) o
    refine r_sto (pc' := 40) (ls' := [some (.inr (.inr (some s))), some (.inr (.inr (some t))), some (.inl (x2 + 1))]) hM_37 d_37_37 rfl rfl ?_
    refine r_go (pc' := 2) hM_37 d_37_40 (by decide) ?_
    exact H
theorem t_37_0 {fx : am_X0} {o : List am_V × am_S} {m : am_M} {s : Nat} {t : Nat} (hs : s ∈ shL) (h_t : t ∈ shL) (H : rn fx 1 (0, 0) 37 2 [some (.inr (.inr (some s))), some (.inr (.inr (some t))), some (.inl 0)] [] (st0 m) o) : rn fx 1 (0, 0) 37 0 [some (.inr (.inr (some s))), some (.inr (.inr (some t))), none] [] (st0 m) o := by
  refine r_k (pc' := 1) (v := .inl 0) hM_37 d_37_0 rfl rfl ?_
  refine r_sto (pc' := 2) (ls' := [some (.inr (.inr (some s))), some (.inr (.inr (some t))), some (.inl 0)]) hM_37 d_37_1 rfl rfl ?_
  exact H
theorem t_50_11 {fx : am_X0} {o : List am_V × am_S} {m : am_M} {s : Nat} {b : Int} {x2 : Int} {x3 : Int} {x4 : Int} (hs : s ∈ shL) (H : ((am_s (m s 4) ≤ am_s x4) → o = ([.inl x3], st0 (mu m s 11 ((m s 11) + 1)))) ∧ (¬ (am_s (m s 4) ≤ am_s x4) → (0 ≤ am_s x4 ∧ am_s x4 < (12 : Nat)) ∧ (((¬ am_s (m (s + 1) ((am_s x4).toNat)) = am_s 3) → ((am_s (am_and (am_shr b x4) 1) = 0) → ((¬ am_s (m (s + 1) ((am_s x4).toNat)) = 0) → rn fx 1 (0, 0) 50 11 [some (.inr (.inr (some s))), some (.inl b), some (.inl x2), some (.inl x3), some (.inl (x4 + 1)), none, none, none] [] (st0 (mu m (s + 4) ((am_s x4).toNat) (v_14 m 99 ((m (s + 4) ((am_s x4).toNat)) + 1)))) o) ∧ (¬ (¬ am_s (m (s + 1) ((am_s x4).toNat)) = 0) → ((am_s (am_and (v_51 m x4) x2) = 0) → ((am_s (v_14 m 99 ((m (s + 4) ((am_s x4).toNat)) + 1)) ≤ am_s (m s 8)) → rn fx 1 (0, 0) 50 11 [some (.inr (.inr (some s))), some (.inl b), some (.inl x2), some (.inl x3), some (.inl (x4 + 1)), none, none, none] [] (st0 (mu (mu m (s + 4) ((am_s x4).toNat) (v_14 m 99 ((m (s + 4) ((am_s x4).toNat)) + 1))) (s + 3) ((am_s x4).toNat) (v_14 (mu m (s + 4) ((am_s x4).toNat) (v_14 m 99 ((m (s + 4) ((am_s x4).toNat)) + 1))) 100 ((m (s + 3) ((am_s x4).toNat)) + (1 * (m (s + 2) ((am_s x4).toNat))))))) o) ∧ (¬ (am_s (v_14 m 99 ((m (s + 4) ((am_s x4).toNat)) + 1)) ≤ am_s (m s 8)) → rn fx 1 (0, 0) 50 11 [some (.inr (.inr (some s))), some (.inl b), some (.inl x2), some (.inl (x3 + 1)), some (.inl (x4 + 1)), none, none, none] [] (st0 (mu (mu (mu m (s + 4) ((am_s x4).toNat) (v_14 m 99 ((m (s + 4) ((am_s x4).toNat)) + 1))) (s + 3) ((am_s x4).toNat) (v_14 (mu m (s + 4) ((am_s x4).toNat) (v_14 m 99 ((m (s + 4) ((am_s x4).toNat)) + 1))) 100 ((m (s + 3) ((am_s x4).toNat)) + (1 * (m (s + 2) ((am_s x4).toNat)))))) (s + 1) ((am_s x4).toNat) 1)) o)) ∧ (¬ (am_s (am_and (v_51 m x4) x2) = 0) → ((am_s (v_14 m 99 ((m (s + 4) ((am_s x4).toNat)) + 2)) ≤ am_s (m s 8)) → rn fx 1 (0, 0) 50 11 [some (.inr (.inr (some s))), some (.inl b), some (.inl x2), some (.inl x3), some (.inl (x4 + 1)), none, none, none] [] (st0 (mu (mu m (s + 4) ((am_s x4).toNat) (v_14 m 99 ((m (s + 4) ((am_s x4).toNat)) + 2))) (s + 3) ((am_s x4).toNat) (v_14 (mu m (s + 4) ((am_s x4).toNat) (v_14 m 99 ((m (s + 4) ((am_s x4).toNat)) + 2))) 100 ((m (s + 3) ((am_s x4).toNat)) + (1 * (m (s + 2) ((am_s x4).toNat))))))) o) ∧ (¬ (am_s (v_14 m 99 ((m (s + 4) ((am_s x4).toNat)) + 2)) ≤ am_s (m s 8)) → rn fx 1 (0, 0) 50 11 [some (.inr (.inr (some s))), some (.inl b), some (.inl x2), some (.inl (x3 + 1)), some (.inl (x4 + 1)), none, none, none] [] (st0 (mu (mu (mu m (s + 4) ((am_s x4).toNat) (v_14 m 99 ((m (s + 4) ((am_s x4).toNat)) + 2))) (s + 3) ((am_s x4).toNat) (v_14 (mu m (s + 4) ((am_s x4).toNat) (v_14 m 99 ((m (s + 4) ((am_s x4).toNat)) + 2))) 100 ((m (s + 3) ((am_s x4).toNat)) + (1 * (m (s + 2) ((am_s x4).toNat)))))) (s + 1) ((am_s x4).toNat) 1)) o)))) ∧ (¬ (am_s (am_and (am_shr b x4) 1) = 0) → ((¬ am_s (m (s + 1) ((am_s x4).toNat)) = 0) → rn fx 1 (0, 0) 50 11 [some (.inr (.inr (some s))), some (.inl b), some (.inl x2), some (.inl x3), some (.inl (x4 + 1)), none, none, none] [] (st0 (mu m (s + 4) ((am_s x4).toNat) 0)) o) ∧ (¬ (¬ am_s (m (s + 1) ((am_s x4).toNat)) = 0) → ((am_s (am_and (v_51 m x4) x2) = 0) → ((am_s 0 ≤ am_s (m s 8)) → rn fx 1 (0, 0) 50 11 [some (.inr (.inr (some s))), some (.inl b), some (.inl x2), some (.inl x3), some (.inl (x4 + 1)), none, none, none] [] (st0 (mu (mu m (s + 4) ((am_s x4).toNat) 0) (s + 3) ((am_s x4).toNat) (v_14 (mu m (s + 4) ((am_s x4).toNat) 0) 100 ((m (s + 3) ((am_s x4).toNat)) + (2 * (m (s + 2) ((am_s x4).toNat))))))) o) ∧ (¬ (am_s 0 ≤ am_s (m s 8)) → rn fx 1 (0, 0) 50 11 [some (.inr (.inr (some s))), some (.inl b), some (.inl x2), some (.inl (x3 + 1)), some (.inl (x4 + 1)), none, none, none] [] (st0 (mu (mu (mu m (s + 4) ((am_s x4).toNat) 0) (s + 3) ((am_s x4).toNat) (v_14 (mu m (s + 4) ((am_s x4).toNat) 0) 100 ((m (s + 3) ((am_s x4).toNat)) + (2 * (m (s + 2) ((am_s x4).toNat)))))) (s + 1) ((am_s x4).toNat) 1)) o)) ∧ (¬ (am_s (am_and (v_51 m x4) x2) = 0) → ((am_s 0 ≤ am_s (m s 8)) → rn fx 1 (0, 0) 50 11 [some (.inr (.inr (some s))), some (.inl b), some (.inl x2), some (.inl x3), some (.inl (x4 + 1)), none, none, none] [] (st0 (mu (mu m (s + 4) ((am_s x4).toNat) 0) (s + 3) ((am_s x4).toNat) (v_14 (mu m (s + 4) ((am_s x4).toNat) 0) 100 ((m (s + 3) ((am_s x4).toNat)) + (2 * (m (s + 2) ((am_s x4).toNat))))))) o) ∧ (¬ (am_s 0 ≤ am_s (m s 8)) → rn fx 1 (0, 0) 50 11 [some (.inr (.inr (some s))), some (.inl b), some (.inl x2), some (.inl (x3 + 1)), some (.inl (x4 + 1)), none, none, none] [] (st0 (mu (mu (mu m (s + 4) ((am_s x4).toNat) 0) (s + 3) ((am_s x4).toNat) (v_14 (mu m (s + 4) ((am_s x4).toNat) 0) 100 ((m (s + 3) ((am_s x4).toNat)) + (2 * (m (s + 2) ((am_s x4).toNat)))))) (s + 1) ((am_s x4).toNat) 1)) o))))) ∧ (¬ (¬ am_s (m (s + 1) ((am_s x4).toNat)) = am_s 3) → rn fx 1 (0, 0) 50 11 [some (.inr (.inr (some s))), some (.inl b), some (.inl x2), some (.inl x3), some (.inl (x4 + 1)), none, none, none] [] (st0 m) o)))) : rn fx 1 (0, 0) 50 11 [some (.inr (.inr (some s))), some (.inl b), some (.inl x2), some (.inl x3), some (.inl x4), none, none, none] [] (st0 m) o := by
  refine r_ld (pc' := 13) hM_50 d_50_11 rfl rfl ?_
  refine r_ld (pc' := 14) hM_50 d_50_13 rfl rfl ?_
  refine r_gI (pc' := 17) hM_50 d_50_14 rfl (gfS_8_27 hs) ?_
  refine r_ic (pc' := 194) (pc2 := 20) hM_50 d_50_17 (by decide) rfl (fun hz1 => ?_) (fun hz1 => ?_)
  · have H := H.1 hz1
    refine r_ld (pc' := 195) hM_50 d_50_194 rfl rfl ?_
    refine r_stk (pc' := 196) (st' := [.inr (.inr (some s)), .inr (.inr (some s))]) hM_50 d_50_195 rfl rfl ?_
    refine r_gI (pc' := 199) hM_50 d_50_196 rfl (gfS_8_49 hs) ?_
    refine r_k (pc' := 200) (v := .inl 1) hM_50 d_50_199 rfl rfl ?_
    refine r_b (pc' := 201) (z := ((m s 11) + 1)) hM_50 d_50_200 rfl rfl ?_
    refine r_pI (pc' := 204) hM_50 d_50_201 rfl (puS_8_49 hs) ?_
    refine r_ld (pc' := 205) hM_50 d_50_204 rfl rfl ?_
    subst H
    exact rt_i hM_50 d_50_205 rfl
  · have H := H.2 hz1
    refine r_ld (pc' := 21) hM_50 d_50_20 rfl rfl ?_
    refine r_gR (pc' := 24) hM_50 d_50_21 rfl (gfS_8_9 hs) ?_
    refine r_ld (pc' := 26) hM_50 d_50_24 rfl rfl ?_
    obtain ⟨hz2, H⟩ := H
    refine r_ia (pc' := 27) (n := 12) hM_50 d_50_26 rfl (shSk hs).2.1 hz2 ?_
    refine r_k (pc' := 28) (v := .inl 3) hM_50 d_50_27 rfl rfl ?_
    refine r_ic (pc' := 34) (pc2 := 31) hM_50 d_50_28 (by decide) rfl (fun hz3 => ?_) (fun hz3 => ?_)
    · have H := H.1 hz3
      refine r_ld (pc' := 35) hM_50 d_50_34 rfl rfl ?_
      refine r_ld (pc' := 37) hM_50 d_50_35 rfl rfl ?_
      refine r_b (pc' := 38) (z := (am_shr b x4)) hM_50 d_50_37 rfl rfl ?_
      refine r_k (pc' := 39) (v := .inl 1) hM_50 d_50_38 rfl rfl ?_
      refine r_b (pc' := 40) (z := (am_and (am_shr b x4) 1)) hM_50 d_50_39 rfl rfl ?_
      refine r_if (pc' := 47) (pc2 := 43) hM_50 d_50_40 (by decide) rfl (fun hz4 => ?_) (fun hz4 => ?_)
      · have H := H.1 hz4
        refine r_k (pc' := 48) (v := .inl 0) hM_50 d_50_47 rfl rfl ?_
        refine r_sto (pc' := 50) (ls' := [some (.inr (.inr (some s))), some (.inl b), some (.inl x2), some (.inl x3), some (.inl x4), some (.inl 0), none, none]) hM_50 d_50_48 rfl rfl ?_
        refine r_ld (pc' := 51) hM_50 d_50_50 rfl rfl ?_
        refine r_gR (pc' := 54) hM_50 d_50_51 rfl (gfS_8_9 hs) ?_
        refine r_ld (pc' := 56) hM_50 d_50_54 rfl rfl ?_
        refine r_ia (pc' := 57) (n := 12) hM_50 d_50_56 rfl (shSk hs).2.1 hz2 ?_
        refine r_if (pc' := 64) (pc2 := 60) hM_50 d_50_57 (by decide) rfl (fun hz5 => ?_) (fun hz5 => ?_)
        · have H := H.1 hz5
          refine r_k (pc' := 65) (v := .inl 0) hM_50 d_50_64 rfl rfl ?_
          refine r_sto (pc' := 67) (ls' := [some (.inr (.inr (some s))), some (.inl b), some (.inl x2), some (.inl x3), some (.inl x4), some (.inl 0), some (.inl 0), none]) hM_50 d_50_65 rfl rfl ?_
          refine r_ld (pc' := 69) hM_50 d_50_67 rfl rfl ?_
          refine r_if (pc' := 86) (pc2 := 72) hM_50 d_50_69 (by decide) rfl (fun _ => ?_) (fun hc => absurd (show am_s 0 = 0 by decide) hc)
          refine r_k (pc' := 87) (v := .inl 1) hM_50 d_50_86 rfl rfl ?_
          refine r_sto (pc' := 89) (ls' := [some (.inr (.inr (some s))), some (.inl b), some (.inl x2), some (.inl x3), some (.inl x4), some (.inl 0), some (.inl 0), some (.inl 1)]) hM_50 d_50_87 rfl rfl ?_
          refine r_ld (pc' := 90) hM_50 d_50_89 rfl rfl ?_
          refine r_gR (pc' := 93) hM_50 d_50_90 rfl (gfS_8_21 hs) ?_
          refine r_ld (pc' := 95) hM_50 d_50_93 rfl rfl ?_
          refine r_ld (pc' := 97) hM_50 d_50_95 rfl rfl ?_
          refine r_if (pc' := 104) (pc2 := 100) hM_50 d_50_97 (by decide) rfl (fun _ => ?_) (fun hc => absurd (show am_s 0 = 0 by decide) hc)
          refine r_k (pc' := 106) (v := .inl 99) hM_50 d_50_104 rfl rfl ?_
          refine r_ld (pc' := 107) hM_50 d_50_106 rfl rfl ?_
          refine r_gR (pc' := 110) hM_50 d_50_107 rfl (gfS_8_21 hs) ?_
          refine r_ld (pc' := 112) hM_50 d_50_110 rfl rfl ?_
          refine r_ia (pc' := 113) (n := 12) hM_50 d_50_112 rfl (shSk hs).2.2.2.2 hz2 ?_
          refine r_ld (pc' := 115) hM_50 d_50_113 rfl rfl ?_
          refine r_b (pc' := 116) (z := ((m (s + 4) ((am_s x4).toNat)) + 1)) hM_50 d_50_115 rfl rfl ?_
          refine r_cl (pc' := 119) (c := (14, 2)) (a := [.inl 99, .inl ((m (s + 4) ((am_s x4).toNat)) + 1)]) (q := [.inl x4, .inr (.inr (some (s + 4)))]) hM_50 d_50_116 rfl (by decide +kernel) hM_14 rfl rfl rfl (Nat.le_of_ble_eq_true rfl) (Nat.le_of_ble_eq_true rfl) (Or.inl rfl) (c_14  m 99 ((m (s + 4) ((am_s x4).toNat)) + 1)) (Nat.le_of_ble_eq_true rfl) ?_
          show rn fx 1 (0, 0) 50 119 [some (.inr (.inr (some s))), some (.inl b), some (.inl x2), some (.inl x3), some (.inl x4), some (.inl 0), some (.inl 0), some (.inl 1)] [.inl (v_14 m 99 ((m (s + 4) ((am_s x4).toNat)) + 1)), .inl x4, .inr (.inr (some (s + 4)))] (st0 m) o
          refine r_is (pc' := 120) (n := 12) hM_50 d_50_119 rfl (shSk hs).2.2.2.2 hz2 ?_
          refine r_ld (pc' := 122) hM_50 d_50_120 rfl rfl ?_
          refine r_if (pc' := 188) (pc2 := 125) hM_50 d_50_122 (by decide) rfl (fun _ => ?_) (fun hc => absurd (show am_s 0 = 0 by decide) hc)
          refine r_sto (pc' := 191) (ls' := [some (.inr (.inr (some s))), some (.inl b), some (.inl x2), some (.inl x3), some (.inl (x4 + 1)), some (.inl 0), some (.inl 0), some (.inl 1)]) hM_50 d_50_188 rfl rfl ?_
          refine r_go (pc' := 11) hM_50 d_50_191 (by decide) ?_
          exact rn_wk (by simp only [am_le, and_self]) H
        · have H := H.2 hz5
          refine r_k (pc' := 61) (v := .inl 1) hM_50 d_50_60 rfl rfl ?_
          refine r_go (pc' := 65) hM_50 d_50_61 (by decide) ?_
          refine r_sto (pc' := 67) (ls' := [some (.inr (.inr (some s))), some (.inl b), some (.inl x2), some (.inl x3), some (.inl x4), some (.inl 0), some (.inl 1), none]) hM_50 d_50_65 rfl rfl ?_
          refine r_ld (pc' := 69) hM_50 d_50_67 rfl rfl ?_
          refine r_if (pc' := 86) (pc2 := 72) hM_50 d_50_69 (by decide) rfl (fun hc => absurd hc (show ¬ (am_s 1 = 0) by decide)) (fun _ => ?_)
          refine r_ld (pc' := 74) hM_50 d_50_72 rfl rfl ?_
          refine r_cl (pc' := 77) (c := (51, 2)) (a := [.inl x4]) (q := []) hM_50 d_50_74 rfl (by decide +kernel) hM_51 rfl rfl rfl (Nat.le_of_ble_eq_true rfl) (Nat.le_of_ble_eq_true rfl) (Or.inl rfl) (c_51  m x4) (Nat.le_of_ble_eq_true rfl) ?_
          show rn fx 1 (0, 0) 50 77 [some (.inr (.inr (some s))), some (.inl b), some (.inl x2), some (.inl x3), some (.inl x4), some (.inl 0), some (.inl 1), none] [.inl (v_51 m x4)] (st0 m) o
          refine r_ld (pc' := 78) hM_50 d_50_77 rfl rfl ?_
          refine r_b (pc' := 79) (z := (am_and (v_51 m x4) x2)) hM_50 d_50_78 rfl rfl ?_
          refine r_if (pc' := 86) (pc2 := 82) hM_50 d_50_79 (by decide) rfl (fun hz6 => ?_) (fun hz6 => ?_)
          · have H := H.1 hz6
            refine r_k (pc' := 87) (v := .inl 1) hM_50 d_50_86 rfl rfl ?_
            refine r_sto (pc' := 89) (ls' := [some (.inr (.inr (some s))), some (.inl b), some (.inl x2), some (.inl x3), some (.inl x4), some (.inl 0), some (.inl 1), some (.inl 1)]) hM_50 d_50_87 rfl rfl ?_
            refine r_ld (pc' := 90) hM_50 d_50_89 rfl rfl ?_
            refine r_gR (pc' := 93) hM_50 d_50_90 rfl (gfS_8_21 hs) ?_
            refine r_ld (pc' := 95) hM_50 d_50_93 rfl rfl ?_
            refine r_ld (pc' := 97) hM_50 d_50_95 rfl rfl ?_
            refine r_if (pc' := 104) (pc2 := 100) hM_50 d_50_97 (by decide) rfl (fun _ => ?_) (fun hc => absurd (show am_s 0 = 0 by decide) hc)
            refine r_k (pc' := 106) (v := .inl 99) hM_50 d_50_104 rfl rfl ?_
            refine r_ld (pc' := 107) hM_50 d_50_106 rfl rfl ?_
            refine r_gR (pc' := 110) hM_50 d_50_107 rfl (gfS_8_21 hs) ?_
            refine r_ld (pc' := 112) hM_50 d_50_110 rfl rfl ?_
            refine r_ia (pc' := 113) (n := 12) hM_50 d_50_112 rfl (shSk hs).2.2.2.2 hz2 ?_
            refine r_ld (pc' := 115) hM_50 d_50_113 rfl rfl ?_
            refine r_b (pc' := 116) (z := ((m (s + 4) ((am_s x4).toNat)) + 1)) hM_50 d_50_115 rfl rfl ?_
            refine r_cl (pc' := 119) (c := (14, 2)) (a := [.inl 99, .inl ((m (s + 4) ((am_s x4).toNat)) + 1)]) (q := [.inl x4, .inr (.inr (some (s + 4)))]) hM_50 d_50_116 rfl (by decide +kernel) hM_14 rfl rfl rfl (Nat.le_of_ble_eq_true rfl) (Nat.le_of_ble_eq_true rfl) (Or.inl rfl) (c_14  m 99 ((m (s + 4) ((am_s x4).toNat)) + 1)) (Nat.le_of_ble_eq_true rfl) ?_
            show rn fx 1 (0, 0) 50 119 [some (.inr (.inr (some s))), some (.inl b), some (.inl x2), some (.inl x3), some (.inl x4), some (.inl 0), some (.inl 1), some (.inl 1)] [.inl (v_14 m 99 ((m (s + 4) ((am_s x4).toNat)) + 1)), .inl x4, .inr (.inr (some (s + 4)))] (st0 m) o
            refine r_is (pc' := 120) (n := 12) hM_50 d_50_119 rfl (shSk hs).2.2.2.2 hz2 ?_
            refine r_ld (pc' := 122) hM_50 d_50_120 rfl rfl ?_
            refine r_if (pc' := 188) (pc2 := 125) hM_50 d_50_122 (by decide) rfl (fun hc => absurd hc (show ¬ (am_s 1 = 0) by decide)) (fun _ => ?_)
            refine r_ld (pc' := 126) hM_50 d_50_125 rfl rfl ?_
            refine r_gR (pc' := 129) hM_50 d_50_126 rfl (gfS_8_18 hs) ?_
            refine r_ld (pc' := 131) hM_50 d_50_129 rfl rfl ?_
            refine r_k (pc' := 133) (v := .inl 100) hM_50 d_50_131 rfl rfl ?_
            refine r_ld (pc' := 134) hM_50 d_50_133 rfl rfl ?_
            refine r_gR (pc' := 137) hM_50 d_50_134 rfl (gfS_8_18 hs) ?_
            refine r_ld (pc' := 139) hM_50 d_50_137 rfl rfl ?_
            refine r_iae (pc' := 140) (n := 12) (z := (m (s + 3) ((am_s x4).toNat))) hM_50 d_50_139 rfl (shSk hs).2.2.2.1 hz2 (mu_r (by omega)) ?_
            refine r_ld (pc' := 142) hM_50 d_50_140 rfl rfl ?_
            refine r_if (pc' := 149) (pc2 := 145) hM_50 d_50_142 (by decide) rfl (fun _ => ?_) (fun hc => absurd (show am_s 0 = 0 by decide) hc)
            refine r_k (pc' := 150) (v := .inl 1) hM_50 d_50_149 rfl rfl ?_
            refine r_ld (pc' := 151) hM_50 d_50_150 rfl rfl ?_
            refine r_gR (pc' := 154) hM_50 d_50_151 rfl (gfS_8_15 hs) ?_
            refine r_ld (pc' := 156) hM_50 d_50_154 rfl rfl ?_
            refine r_iae (pc' := 157) (n := 12) (z := (m (s + 2) ((am_s x4).toNat))) hM_50 d_50_156 rfl (shSk hs).2.2.1 hz2 (mu_r (by omega)) ?_
            refine r_b (pc' := 158) (z := (1 * (m (s + 2) ((am_s x4).toNat)))) hM_50 d_50_157 rfl rfl ?_
            refine r_b (pc' := 159) (z := ((m (s + 3) ((am_s x4).toNat)) + (1 * (m (s + 2) ((am_s x4).toNat))))) hM_50 d_50_158 rfl rfl ?_
            refine r_cl (pc' := 162) (c := (14, 2)) (a := [.inl 100, .inl ((m (s + 3) ((am_s x4).toNat)) + (1 * (m (s + 2) ((am_s x4).toNat))))]) (q := [.inl x4, .inr (.inr (some (s + 3)))]) hM_50 d_50_159 rfl (by decide +kernel) hM_14 rfl rfl rfl (Nat.le_of_ble_eq_true rfl) (Nat.le_of_ble_eq_true rfl) (Or.inl rfl) (c_14  (mu m (s + 4) ((am_s x4).toNat) (v_14 m 99 ((m (s + 4) ((am_s x4).toNat)) + 1))) 100 ((m (s + 3) ((am_s x4).toNat)) + (1 * (m (s + 2) ((am_s x4).toNat))))) (Nat.le_of_ble_eq_true rfl) ?_
            show rn fx 1 (0, 0) 50 162 [some (.inr (.inr (some s))), some (.inl b), some (.inl x2), some (.inl x3), some (.inl x4), some (.inl 0), some (.inl 1), some (.inl 1)] [.inl (v_14 (mu m (s + 4) ((am_s x4).toNat) (v_14 m 99 ((m (s + 4) ((am_s x4).toNat)) + 1))) 100 ((m (s + 3) ((am_s x4).toNat)) + (1 * (m (s + 2) ((am_s x4).toNat))))), .inl x4, .inr (.inr (some (s + 3)))] (st0 (mu m (s + 4) ((am_s x4).toNat) (v_14 m 99 ((m (s + 4) ((am_s x4).toNat)) + 1)))) o
            refine r_is (pc' := 163) (n := 12) hM_50 d_50_162 rfl (shSk hs).2.2.2.1 hz2 ?_
            refine r_ld (pc' := 164) hM_50 d_50_163 rfl rfl ?_
            refine r_gR (pc' := 167) hM_50 d_50_164 rfl (gfS_8_21 hs) ?_
            refine r_ld (pc' := 169) hM_50 d_50_167 rfl rfl ?_
            refine r_iae (pc' := 170) (n := 12) (z := (v_14 m 99 ((m (s + 4) ((am_s x4).toNat)) + 1))) hM_50 d_50_169 rfl (shSk hs).2.2.2.2 hz2 ((mu_r (by omega)).trans (mu_same)) ?_
            refine r_ld (pc' := 171) hM_50 d_50_170 rfl rfl ?_
            refine r_gIe (pc' := 174) (z := (m s 8)) hM_50 d_50_171 rfl (gfS_8_40 hs) ((mu_r (by omega)).trans (mu_r (by omega))) ?_
            refine r_ic (pc' := 188) (pc2 := 177) hM_50 d_50_174 (by decide) rfl (fun hz7 => ?_) (fun hz7 => ?_)
            · have H := H.1 hz7
              refine r_sto (pc' := 191) (ls' := [some (.inr (.inr (some s))), some (.inl b), some (.inl x2), some (.inl x3), some (.inl (x4 + 1)), some (.inl 0), some (.inl 1), some (.inl 1)]) hM_50 d_50_188 rfl rfl ?_
              refine r_go (pc' := 11) hM_50 d_50_191 (by decide) ?_
              exact rn_wk (by simp only [am_le, and_self]) H
            · have H := H.2 hz7
              refine r_ld (pc' := 178) hM_50 d_50_177 rfl rfl ?_
              refine r_gR (pc' := 181) hM_50 d_50_178 rfl (gfS_8_9 hs) ?_
              refine r_ld (pc' := 183) hM_50 d_50_181 rfl rfl ?_
              refine r_k (pc' := 184) (v := .inl 1) hM_50 d_50_183 rfl rfl ?_
              refine r_is (pc' := 185) (n := 12) hM_50 d_50_184 rfl (shSk hs).2.1 hz2 ?_
              refine r_sto (pc' := 188) (ls' := [some (.inr (.inr (some s))), some (.inl b), some (.inl x2), some (.inl (x3 + 1)), some (.inl x4), some (.inl 0), some (.inl 1), some (.inl 1)]) hM_50 d_50_185 rfl rfl ?_
              refine r_sto (pc' := 191) (ls' := [some (.inr (.inr (some s))), some (.inl b), some (.inl x2), some (.inl (x3 + 1)), some (.inl (x4 + 1)), some (.inl 0), some (.inl 1), some (.inl 1)]) hM_50 d_50_188 rfl rfl ?_
              refine r_go (pc' := 11) hM_50 d_50_191 (by decide) ?_
              exact rn_wk (by simp only [am_le, and_self]) H
          · have H := H.2 hz6
            refine r_k (pc' := 83) (v := .inl 2) hM_50 d_50_82 rfl rfl ?_
            refine r_go (pc' := 87) hM_50 d_50_83 (by decide) ?_
            refine r_sto (pc' := 89) (ls' := [some (.inr (.inr (some s))), some (.inl b), some (.inl x2), some (.inl x3), some (.inl x4), some (.inl 0), some (.inl 1), some (.inl 2)]) hM_50 d_50_87 rfl rfl ?_
            refine r_ld (pc' := 90) hM_50 d_50_89 rfl rfl ?_
            refine r_gR (pc' := 93) hM_50 d_50_90 rfl (gfS_8_21 hs) ?_
            refine r_ld (pc' := 95) hM_50 d_50_93 rfl rfl ?_
            refine r_ld (pc' := 97) hM_50 d_50_95 rfl rfl ?_
            refine r_if (pc' := 104) (pc2 := 100) hM_50 d_50_97 (by decide) rfl (fun _ => ?_) (fun hc => absurd (show am_s 0 = 0 by decide) hc)
            refine r_k (pc' := 106) (v := .inl 99) hM_50 d_50_104 rfl rfl ?_
            refine r_ld (pc' := 107) hM_50 d_50_106 rfl rfl ?_
            refine r_gR (pc' := 110) hM_50 d_50_107 rfl (gfS_8_21 hs) ?_
            refine r_ld (pc' := 112) hM_50 d_50_110 rfl rfl ?_
            refine r_ia (pc' := 113) (n := 12) hM_50 d_50_112 rfl (shSk hs).2.2.2.2 hz2 ?_
            refine r_ld (pc' := 115) hM_50 d_50_113 rfl rfl ?_
            refine r_b (pc' := 116) (z := ((m (s + 4) ((am_s x4).toNat)) + 2)) hM_50 d_50_115 rfl rfl ?_
            refine r_cl (pc' := 119) (c := (14, 2)) (a := [.inl 99, .inl ((m (s + 4) ((am_s x4).toNat)) + 2)]) (q := [.inl x4, .inr (.inr (some (s + 4)))]) hM_50 d_50_116 rfl (by decide +kernel) hM_14 rfl rfl rfl (Nat.le_of_ble_eq_true rfl) (Nat.le_of_ble_eq_true rfl) (Or.inl rfl) (c_14  m 99 ((m (s + 4) ((am_s x4).toNat)) + 2)) (Nat.le_of_ble_eq_true rfl) ?_
            show rn fx 1 (0, 0) 50 119 [some (.inr (.inr (some s))), some (.inl b), some (.inl x2), some (.inl x3), some (.inl x4), some (.inl 0), some (.inl 1), some (.inl 2)] [.inl (v_14 m 99 ((m (s + 4) ((am_s x4).toNat)) + 2)), .inl x4, .inr (.inr (some (s + 4)))] (st0 m) o
            refine r_is (pc' := 120) (n := 12) hM_50 d_50_119 rfl (shSk hs).2.2.2.2 hz2 ?_
            refine r_ld (pc' := 122) hM_50 d_50_120 rfl rfl ?_
            refine r_if (pc' := 188) (pc2 := 125) hM_50 d_50_122 (by decide) rfl (fun hc => absurd hc (show ¬ (am_s 1 = 0) by decide)) (fun _ => ?_)
            refine r_ld (pc' := 126) hM_50 d_50_125 rfl rfl ?_
            refine r_gR (pc' := 129) hM_50 d_50_126 rfl (gfS_8_18 hs) ?_
            refine r_ld (pc' := 131) hM_50 d_50_129 rfl rfl ?_
            refine r_k (pc' := 133) (v := .inl 100) hM_50 d_50_131 rfl rfl ?_
            refine r_ld (pc' := 134) hM_50 d_50_133 rfl rfl ?_
            refine r_gR (pc' := 137) hM_50 d_50_134 rfl (gfS_8_18 hs) ?_
            refine r_ld (pc' := 139) hM_50 d_50_137 rfl rfl ?_
            refine r_iae (pc' := 140) (n := 12) (z := (m (s + 3) ((am_s x4).toNat))) hM_50 d_50_139 rfl (shSk hs).2.2.2.1 hz2 (mu_r (by omega)) ?_
            refine r_ld (pc' := 142) hM_50 d_50_140 rfl rfl ?_
            refine r_if (pc' := 149) (pc2 := 145) hM_50 d_50_142 (by decide) rfl (fun _ => ?_) (fun hc => absurd (show am_s 0 = 0 by decide) hc)
            refine r_k (pc' := 150) (v := .inl 1) hM_50 d_50_149 rfl rfl ?_
            refine r_ld (pc' := 151) hM_50 d_50_150 rfl rfl ?_
            refine r_gR (pc' := 154) hM_50 d_50_151 rfl (gfS_8_15 hs) ?_
            refine r_ld (pc' := 156) hM_50 d_50_154 rfl rfl ?_
            refine r_iae (pc' := 157) (n := 12) (z := (m (s + 2) ((am_s x4).toNat))) hM_50 d_50_156 rfl (shSk hs).2.2.1 hz2 (mu_r (by omega)) ?_
            refine r_b (pc' := 158) (z := (1 * (m (s + 2) ((am_s x4).toNat)))) hM_50 d_50_157 rfl rfl ?_
            refine r_b (pc' := 159) (z := ((m (s + 3) ((am_s x4).toNat)) + (1 * (m (s + 2) ((am_s x4).toNat))))) hM_50 d_50_158 rfl rfl ?_
            refine r_cl (pc' := 162) (c := (14, 2)) (a := [.inl 100, .inl ((m (s + 3) ((am_s x4).toNat)) + (1 * (m (s + 2) ((am_s x4).toNat))))]) (q := [.inl x4, .inr (.inr (some (s + 3)))]) hM_50 d_50_159 rfl (by decide +kernel) hM_14 rfl rfl rfl (Nat.le_of_ble_eq_true rfl) (Nat.le_of_ble_eq_true rfl) (Or.inl rfl) (c_14  (mu m (s + 4) ((am_s x4).toNat) (v_14 m 99 ((m (s + 4) ((am_s x4).toNat)) + 2))) 100 ((m (s + 3) ((am_s x4).toNat)) + (1 * (m (s + 2) ((am_s x4).toNat))))) (Nat.le_of_ble_eq_true rfl) ?_
            show rn fx 1 (0, 0) 50 162 [some (.inr (.inr (some s))), some (.inl b), some (.inl x2), some (.inl x3), some (.inl x4), some (.inl 0), some (.inl 1), some (.inl 2)] [.inl (v_14 (mu m (s + 4) ((am_s x4).toNat) (v_14 m 99 ((m (s + 4) ((am_s x4).toNat)) + 2))) 100 ((m (s + 3) ((am_s x4).toNat)) + (1 * (m (s + 2) ((am_s x4).toNat))))), .inl x4, .inr (.inr (some (s + 3)))] (st0 (mu m (s + 4) ((am_s x4).toNat) (v_14 m 99 ((m (s + 4) ((am_s x4).toNat)) + 2)))) o
            refine r_is (pc' := 163) (n := 12) hM_50 d_50_162 rfl (shSk hs).2.2.2.1 hz2 ?_
            refine r_ld (pc' := 164) hM_50 d_50_163 rfl rfl ?_
            refine r_gR (pc' := 167) hM_50 d_50_164 rfl (gfS_8_21 hs) ?_
            refine r_ld (pc' := 169) hM_50 d_50_167 rfl rfl ?_
            refine r_iae (pc' := 170) (n := 12) (z := (v_14 m 99 ((m (s + 4) ((am_s x4).toNat)) + 2))) hM_50 d_50_169 rfl (shSk hs).2.2.2.2 hz2 ((mu_r (by omega)).trans (mu_same)) ?_
            refine r_ld (pc' := 171) hM_50 d_50_170 rfl rfl ?_
            refine r_gIe (pc' := 174) (z := (m s 8)) hM_50 d_50_171 rfl (gfS_8_40 hs) ((mu_r (by omega)).trans (mu_r (by omega))) ?_
            refine r_ic (pc' := 188) (pc2 := 177) hM_50 d_50_174 (by decide) rfl (fun hz8 => ?_) (fun hz8 => ?_)
            · have H := H.1 hz8
              refine r_sto (pc' := 191) (ls' := [some (.inr (.inr (some s))), some (.inl b), some (.inl x2), some (.inl x3), some (.inl (x4 + 1)), some (.inl 0), some (.inl 1), some (.inl 2)]) hM_50 d_50_188 rfl rfl ?_
              refine r_go (pc' := 11) hM_50 d_50_191 (by decide) ?_
              exact rn_wk (by simp only [am_le, and_self]) H
            · have H := H.2 hz8
              refine r_ld (pc' := 178) hM_50 d_50_177 rfl rfl ?_
              refine r_gR (pc' := 181) hM_50 d_50_178 rfl (gfS_8_9 hs) ?_
              refine r_ld (pc' := 183) hM_50 d_50_181 rfl rfl ?_
              refine r_k (pc' := 184) (v := .inl 1) hM_50 d_50_183 rfl rfl ?_
              refine r_is (pc' := 185) (n := 12) hM_50 d_50_184 rfl (shSk hs).2.1 hz2 ?_
              refine r_sto (pc' := 188) (ls' := [some (.inr (.inr (some s))), some (.inl b), some (.inl x2), some (.inl (x3 + 1)), some (.inl x4), some (.inl 0), some (.inl 1), some (.inl 2)]) hM_50 d_50_185 rfl rfl ?_
              refine r_sto (pc' := 191) (ls' := [some (.inr (.inr (some s))), some (.inl b), some (.inl x2), some (.inl (x3 + 1)), some (.inl (x4 + 1)), some (.inl 0), some (.inl 1), some (.inl 2)]) hM_50 d_50_188 rfl rfl ?_
              refine r_go (pc' := 11) hM_50 d_50_191 (by decide) ?_
              exact rn_wk (by simp only [am_le, and_self]) H
      · have H := H.2 hz4
        refine r_k (pc' := 44) (v := .inl 1) hM_50 d_50_43 rfl rfl ?_
        refine r_go (pc' := 48) hM_50 d_50_44 (by decide) ?_
        refine r_sto (pc' := 50) (ls' := [some (.inr (.inr (some s))), some (.inl b), some (.inl x2), some (.inl x3), some (.inl x4), some (.inl 1), none, none]) hM_50 d_50_48 rfl rfl ?_
        refine r_ld (pc' := 51) hM_50 d_50_50 rfl rfl ?_
        refine r_gR (pc' := 54) hM_50 d_50_51 rfl (gfS_8_9 hs) ?_
        refine r_ld (pc' := 56) hM_50 d_50_54 rfl rfl ?_
        refine r_ia (pc' := 57) (n := 12) hM_50 d_50_56 rfl (shSk hs).2.1 hz2 ?_
        refine r_if (pc' := 64) (pc2 := 60) hM_50 d_50_57 (by decide) rfl (fun hz9 => ?_) (fun hz9 => ?_)
        · have H := H.1 hz9
          refine r_k (pc' := 65) (v := .inl 0) hM_50 d_50_64 rfl rfl ?_
          refine r_sto (pc' := 67) (ls' := [some (.inr (.inr (some s))), some (.inl b), some (.inl x2), some (.inl x3), some (.inl x4), some (.inl 1), some (.inl 0), none]) hM_50 d_50_65 rfl rfl ?_
          refine r_ld (pc' := 69) hM_50 d_50_67 rfl rfl ?_
          refine r_if (pc' := 86) (pc2 := 72) hM_50 d_50_69 (by decide) rfl (fun _ => ?_) (fun hc => absurd (show am_s 0 = 0 by decide) hc)
          refine r_k (pc' := 87) (v := .inl 1) hM_50 d_50_86 rfl rfl ?_
          refine r_sto (pc' := 89) (ls' := [some (.inr (.inr (some s))), some (.inl b), some (.inl x2), some (.inl x3), some (.inl x4), some (.inl 1), some (.inl 0), some (.inl 1)]) hM_50 d_50_87 rfl rfl ?_
          refine r_ld (pc' := 90) hM_50 d_50_89 rfl rfl ?_
          refine r_gR (pc' := 93) hM_50 d_50_90 rfl (gfS_8_21 hs) ?_
          refine r_ld (pc' := 95) hM_50 d_50_93 rfl rfl ?_
          refine r_ld (pc' := 97) hM_50 d_50_95 rfl rfl ?_
          refine r_if (pc' := 104) (pc2 := 100) hM_50 d_50_97 (by decide) rfl (fun hc => absurd hc (show ¬ (am_s 1 = 0) by decide)) (fun _ => ?_)
          refine r_k (pc' := 101) (v := .inl 0) hM_50 d_50_100 rfl rfl ?_
          refine r_go (pc' := 119) hM_50 d_50_101 (by decide) ?_
          refine r_is (pc' := 120) (n := 12) hM_50 d_50_119 rfl (shSk hs).2.2.2.2 hz2 ?_
          refine r_ld (pc' := 122) hM_50 d_50_120 rfl rfl ?_
          refine r_if (pc' := 188) (pc2 := 125) hM_50 d_50_122 (by decide) rfl (fun _ => ?_) (fun hc => absurd (show am_s 0 = 0 by decide) hc)
          refine r_sto (pc' := 191) (ls' := [some (.inr (.inr (some s))), some (.inl b), some (.inl x2), some (.inl x3), some (.inl (x4 + 1)), some (.inl 1), some (.inl 0), some (.inl 1)]) hM_50 d_50_188 rfl rfl ?_
          refine r_go (pc' := 11) hM_50 d_50_191 (by decide) ?_
          exact rn_wk (by simp only [am_le, and_self]) H
        · have H := H.2 hz9
          refine r_k (pc' := 61) (v := .inl 1) hM_50 d_50_60 rfl rfl ?_
          refine r_go (pc' := 65) hM_50 d_50_61 (by decide) ?_
          refine r_sto (pc' := 67) (ls' := [some (.inr (.inr (some s))), some (.inl b), some (.inl x2), some (.inl x3), some (.inl x4), some (.inl 1), some (.inl 1), none]) hM_50 d_50_65 rfl rfl ?_
          refine r_ld (pc' := 69) hM_50 d_50_67 rfl rfl ?_
          refine r_if (pc' := 86) (pc2 := 72) hM_50 d_50_69 (by decide) rfl (fun hc => absurd hc (show ¬ (am_s 1 = 0) by decide)) (fun _ => ?_)
          refine r_ld (pc' := 74) hM_50 d_50_72 rfl rfl ?_
          refine r_cl (pc' := 77) (c := (51, 2)) (a := [.inl x4]) (q := []) hM_50 d_50_74 rfl (by decide +kernel) hM_51 rfl rfl rfl (Nat.le_of_ble_eq_true rfl) (Nat.le_of_ble_eq_true rfl) (Or.inl rfl) (c_51  m x4) (Nat.le_of_ble_eq_true rfl) ?_
          show rn fx 1 (0, 0) 50 77 [some (.inr (.inr (some s))), some (.inl b), some (.inl x2), some (.inl x3), some (.inl x4), some (.inl 1), some (.inl 1), none] [.inl (v_51 m x4)] (st0 m) o
          refine r_ld (pc' := 78) hM_50 d_50_77 rfl rfl ?_
          refine r_b (pc' := 79) (z := (am_and (v_51 m x4) x2)) hM_50 d_50_78 rfl rfl ?_
          refine r_if (pc' := 86) (pc2 := 82) hM_50 d_50_79 (by decide) rfl (fun hz10 => ?_) (fun hz10 => ?_)
          · have H := H.1 hz10
            refine r_k (pc' := 87) (v := .inl 1) hM_50 d_50_86 rfl rfl ?_
            refine r_sto (pc' := 89) (ls' := [some (.inr (.inr (some s))), some (.inl b), some (.inl x2), some (.inl x3), some (.inl x4), some (.inl 1), some (.inl 1), some (.inl 1)]) hM_50 d_50_87 rfl rfl ?_
            refine r_ld (pc' := 90) hM_50 d_50_89 rfl rfl ?_
            refine r_gR (pc' := 93) hM_50 d_50_90 rfl (gfS_8_21 hs) ?_
            refine r_ld (pc' := 95) hM_50 d_50_93 rfl rfl ?_
            refine r_ld (pc' := 97) hM_50 d_50_95 rfl rfl ?_
            refine r_if (pc' := 104) (pc2 := 100) hM_50 d_50_97 (by decide) rfl (fun hc => absurd hc (show ¬ (am_s 1 = 0) by decide)) (fun _ => ?_)
            refine r_k (pc' := 101) (v := .inl 0) hM_50 d_50_100 rfl rfl ?_
            refine r_go (pc' := 119) hM_50 d_50_101 (by decide) ?_
            refine r_is (pc' := 120) (n := 12) hM_50 d_50_119 rfl (shSk hs).2.2.2.2 hz2 ?_
            refine r_ld (pc' := 122) hM_50 d_50_120 rfl rfl ?_
            refine r_if (pc' := 188) (pc2 := 125) hM_50 d_50_122 (by decide) rfl (fun hc => absurd hc (show ¬ (am_s 1 = 0) by decide)) (fun _ => ?_)
            refine r_ld (pc' := 126) hM_50 d_50_125 rfl rfl ?_
            refine r_gR (pc' := 129) hM_50 d_50_126 rfl (gfS_8_18 hs) ?_
            refine r_ld (pc' := 131) hM_50 d_50_129 rfl rfl ?_
            refine r_k (pc' := 133) (v := .inl 100) hM_50 d_50_131 rfl rfl ?_
            refine r_ld (pc' := 134) hM_50 d_50_133 rfl rfl ?_
            refine r_gR (pc' := 137) hM_50 d_50_134 rfl (gfS_8_18 hs) ?_
            refine r_ld (pc' := 139) hM_50 d_50_137 rfl rfl ?_
            refine r_iae (pc' := 140) (n := 12) (z := (m (s + 3) ((am_s x4).toNat))) hM_50 d_50_139 rfl (shSk hs).2.2.2.1 hz2 (mu_r (by omega)) ?_
            refine r_ld (pc' := 142) hM_50 d_50_140 rfl rfl ?_
            refine r_if (pc' := 149) (pc2 := 145) hM_50 d_50_142 (by decide) rfl (fun hc => absurd hc (show ¬ (am_s 1 = 0) by decide)) (fun _ => ?_)
            refine r_k (pc' := 146) (v := .inl 2) hM_50 d_50_145 rfl rfl ?_
            refine r_go (pc' := 150) hM_50 d_50_146 (by decide) ?_
            refine r_ld (pc' := 151) hM_50 d_50_150 rfl rfl ?_
            refine r_gR (pc' := 154) hM_50 d_50_151 rfl (gfS_8_15 hs) ?_
            refine r_ld (pc' := 156) hM_50 d_50_154 rfl rfl ?_
            refine r_iae (pc' := 157) (n := 12) (z := (m (s + 2) ((am_s x4).toNat))) hM_50 d_50_156 rfl (shSk hs).2.2.1 hz2 (mu_r (by omega)) ?_
            refine r_b (pc' := 158) (z := (2 * (m (s + 2) ((am_s x4).toNat)))) hM_50 d_50_157 rfl rfl ?_
            refine r_b (pc' := 159) (z := ((m (s + 3) ((am_s x4).toNat)) + (2 * (m (s + 2) ((am_s x4).toNat))))) hM_50 d_50_158 rfl rfl ?_
            refine r_cl (pc' := 162) (c := (14, 2)) (a := [.inl 100, .inl ((m (s + 3) ((am_s x4).toNat)) + (2 * (m (s + 2) ((am_s x4).toNat))))]) (q := [.inl x4, .inr (.inr (some (s + 3)))]) hM_50 d_50_159 rfl (by decide +kernel) hM_14 rfl rfl rfl (Nat.le_of_ble_eq_true rfl) (Nat.le_of_ble_eq_true rfl) (Or.inl rfl) (c_14  (mu m (s + 4) ((am_s x4).toNat) 0) 100 ((m (s + 3) ((am_s x4).toNat)) + (2 * (m (s + 2) ((am_s x4).toNat))))) (Nat.le_of_ble_eq_true rfl) ?_
            show rn fx 1 (0, 0) 50 162 [some (.inr (.inr (some s))), some (.inl b), some (.inl x2), some (.inl x3), some (.inl x4), some (.inl 1), some (.inl 1), some (.inl 1)] [.inl (v_14 (mu m (s + 4) ((am_s x4).toNat) 0) 100 ((m (s + 3) ((am_s x4).toNat)) + (2 * (m (s + 2) ((am_s x4).toNat))))), .inl x4, .inr (.inr (some (s + 3)))] (st0 (mu m (s + 4) ((am_s x4).toNat) 0)) o
            refine r_is (pc' := 163) (n := 12) hM_50 d_50_162 rfl (shSk hs).2.2.2.1 hz2 ?_
            refine r_ld (pc' := 164) hM_50 d_50_163 rfl rfl ?_
            refine r_gR (pc' := 167) hM_50 d_50_164 rfl (gfS_8_21 hs) ?_
            refine r_ld (pc' := 169) hM_50 d_50_167 rfl rfl ?_
            refine r_iae (pc' := 170) (n := 12) (z := 0) hM_50 d_50_169 rfl (shSk hs).2.2.2.2 hz2 ((mu_r (by omega)).trans (mu_same)) ?_
            refine r_ld (pc' := 171) hM_50 d_50_170 rfl rfl ?_
            refine r_gIe (pc' := 174) (z := (m s 8)) hM_50 d_50_171 rfl (gfS_8_40 hs) ((mu_r (by omega)).trans (mu_r (by omega))) ?_
            refine r_ic (pc' := 188) (pc2 := 177) hM_50 d_50_174 (by decide) rfl (fun hz11 => ?_) (fun hz11 => ?_)
            · have H := H.1 hz11
              refine r_sto (pc' := 191) (ls' := [some (.inr (.inr (some s))), some (.inl b), some (.inl x2), some (.inl x3), some (.inl (x4 + 1)), some (.inl 1), some (.inl 1), some (.inl 1)]) hM_50 d_50_188 rfl rfl ?_
              refine r_go (pc' := 11) hM_50 d_50_191 (by decide) ?_
              exact rn_wk (by simp only [am_le, and_self]) H
            · have H := H.2 hz11
              refine r_ld (pc' := 178) hM_50 d_50_177 rfl rfl ?_
              refine r_gR (pc' := 181) hM_50 d_50_178 rfl (gfS_8_9 hs) ?_
              refine r_ld (pc' := 183) hM_50 d_50_181 rfl rfl ?_
              refine r_k (pc' := 184) (v := .inl 1) hM_50 d_50_183 rfl rfl ?_
              refine r_is (pc' := 185) (n := 12) hM_50 d_50_184 rfl (shSk hs).2.1 hz2 ?_
              refine r_sto (pc' := 188) (ls' := [some (.inr (.inr (some s))), some (.inl b), some (.inl x2), some (.inl (x3 + 1)), some (.inl x4), some (.inl 1), some (.inl 1), some (.inl 1)]) hM_50 d_50_185 rfl rfl ?_
              refine r_sto (pc' := 191) (ls' := [some (.inr (.inr (some s))), some (.inl b), some (.inl x2), some (.inl (x3 + 1)), some (.inl (x4 + 1)), some (.inl 1), some (.inl 1), some (.inl 1)]) hM_50 d_50_188 rfl rfl ?_
              refine r_go (pc' := 11) hM_50 d_50_191 (by decide) ?_
              exact rn_wk (by simp only [am_le, and_self]) H
          · have H := H.2 hz10
            refine r_k (pc' := 83) (v := .inl 2) hM_50 d_50_82 rfl rfl ?_
            refine r_go (pc' := 87) hM_50 d_50_83 (by decide) ?_
            refine r_sto (pc' := 89) (ls' := [some (.inr (.inr (some s))), some (.inl b), some (.inl x2), some (.inl x3), some (.inl x4), some (.inl 1), some (.inl 1), some (.inl 2)]) hM_50 d_50_87 rfl rfl ?_
            refine r_ld (pc' := 90) hM_50 d_50_89 rfl rfl ?_
            refine r_gR (pc' := 93) hM_50 d_50_90 rfl (gfS_8_21 hs) ?_
            refine r_ld (pc' := 95) hM_50 d_50_93 rfl rfl ?_
            refine r_ld (pc' := 97) hM_50 d_50_95 rfl rfl ?_
            refine r_if (pc' := 104) (pc2 := 100) hM_50 d_50_97 (by decide) rfl (fun hc => absurd hc (show ¬ (am_s 1 = 0) by decide)) (fun _ => ?_)
            refine r_k (pc' := 101) (v := .inl 0) hM_50 d_50_100 rfl rfl ?_
            refine r_go (pc' := 119) hM_50 d_50_101 (by decide) ?_
            refine r_is (pc' := 120) (n := 12) hM_50 d_50_119 rfl (shSk hs).2.2.2.2 hz2 ?_
            refine r_ld (pc' := 122) hM_50 d_50_120 rfl rfl ?_
            refine r_if (pc' := 188) (pc2 := 125) hM_50 d_50_122 (by decide) rfl (fun hc => absurd hc (show ¬ (am_s 1 = 0) by decide)) (fun _ => ?_)
            refine r_ld (pc' := 126) hM_50 d_50_125 rfl rfl ?_
            refine r_gR (pc' := 129) hM_50 d_50_126 rfl (gfS_8_18 hs) ?_
            refine r_ld (pc' := 131) hM_50 d_50_129 rfl rfl ?_
            refine r_k (pc' := 133) (v := .inl 100) hM_50 d_50_131 rfl rfl ?_
            refine r_ld (pc' := 134) hM_50 d_50_133 rfl rfl ?_
            refine r_gR (pc' := 137) hM_50 d_50_134 rfl (gfS_8_18 hs) ?_
            refine r_ld (pc' := 139) hM_50 d_50_137 rfl rfl ?_
            refine r_iae (pc' := 140) (n := 12) (z := (m (s + 3) ((am_s x4).toNat))) hM_50 d_50_139 rfl (shSk hs).2.2.2.1 hz2 (mu_r (by omega)) ?_
            refine r_ld (pc' := 142) hM_50 d_50_140 rfl rfl ?_
            refine r_if (pc' := 149) (pc2 := 145) hM_50 d_50_142 (by decide) rfl (fun hc => absurd hc (show ¬ (am_s 1 = 0) by decide)) (fun _ => ?_)
            refine r_k (pc' := 146) (v := .inl 2) hM_50 d_50_145 rfl rfl ?_
            refine r_go (pc' := 150) hM_50 d_50_146 (by decide) ?_
            refine r_ld (pc' := 151) hM_50 d_50_150 rfl rfl ?_
            refine r_gR (pc' := 154) hM_50 d_50_151 rfl (gfS_8_15 hs) ?_
            refine r_ld (pc' := 156) hM_50 d_50_154 rfl rfl ?_
            refine r_iae (pc' := 157) (n := 12) (z := (m (s + 2) ((am_s x4).toNat))) hM_50 d_50_156 rfl (shSk hs).2.2.1 hz2 (mu_r (by omega)) ?_
            refine r_b (pc' := 158) (z := (2 * (m (s + 2) ((am_s x4).toNat)))) hM_50 d_50_157 rfl rfl ?_
            refine r_b (pc' := 159) (z := ((m (s + 3) ((am_s x4).toNat)) + (2 * (m (s + 2) ((am_s x4).toNat))))) hM_50 d_50_158 rfl rfl ?_
            refine r_cl (pc' := 162) (c := (14, 2)) (a := [.inl 100, .inl ((m (s + 3) ((am_s x4).toNat)) + (2 * (m (s + 2) ((am_s x4).toNat))))]) (q := [.inl x4, .inr (.inr (some (s + 3)))]) hM_50 d_50_159 rfl (by decide +kernel) hM_14 rfl rfl rfl (Nat.le_of_ble_eq_true rfl) (Nat.le_of_ble_eq_true rfl) (Or.inl rfl) (c_14  (mu m (s + 4) ((am_s x4).toNat) 0) 100 ((m (s + 3) ((am_s x4).toNat)) + (2 * (m (s + 2) ((am_s x4).toNat))))) (Nat.le_of_ble_eq_true rfl) ?_
            show rn fx 1 (0, 0) 50 162 [some (.inr (.inr (some s))), some (.inl b), some (.inl x2), some (.inl x3), some (.inl x4), some (.inl 1), some (.inl 1), some (.inl 2)] [.inl (v_14 (mu m (s + 4) ((am_s x4).toNat) 0) 100 ((m (s + 3) ((am_s x4).toNat)) + (2 * (m (s + 2) ((am_s x4).toNat))))), .inl x4, .inr (.inr (some (s + 3)))] (st0 (mu m (s + 4) ((am_s x4).toNat) 0)) o
            refine r_is (pc' := 163) (n := 12) hM_50 d_50_162 rfl (shSk hs).2.2.2.1 hz2 ?_
            refine r_ld (pc' := 164) hM_50 d_50_163 rfl rfl ?_
            refine r_gR (pc' := 167) hM_50 d_50_164 rfl (gfS_8_21 hs) ?_
            refine r_ld (pc' := 169) hM_50 d_50_167 rfl rfl ?_
            refine r_iae (pc' := 170) (n := 12) (z := 0) hM_50 d_50_169 rfl (shSk hs).2.2.2.2 hz2 ((mu_r (by omega)).trans (mu_same)) ?_
            refine r_ld (pc' := 171) hM_50 d_50_170 rfl rfl ?_
            refine r_gIe (pc' := 174) (z := (m s 8)) hM_50 d_50_171 rfl (gfS_8_40 hs) ((mu_r (by omega)).trans (mu_r (by omega))) ?_
            refine r_ic (pc' := 188) (pc2 := 177) hM_50 d_50_174 (by decide) rfl (fun hz12 => ?_) (fun hz12 => ?_)
            · have H := H.1 hz12
              refine r_sto (pc' := 191) (ls' := [some (.inr (.inr (some s))), some (.inl b), some (.inl x2), some (.inl x3), some (.inl (x4 + 1)), some (.inl 1), some (.inl 1), some (.inl 2)]) hM_50 d_50_188 rfl rfl ?_
              refine r_go (pc' := 11) hM_50 d_50_191 (by decide) ?_
              exact rn_wk (by simp only [am_le, and_self]) H
            · have H := H.2 hz12
              refine r_ld (pc' := 178) hM_50 d_50_177 rfl rfl ?_
              refine r_gR (pc' := 181) hM_50 d_50_178 rfl (gfS_8_9 hs) ?_
              refine r_ld (pc' := 183) hM_50 d_50_181 rfl rfl ?_
              refine r_k (pc' := 184) (v := .inl 1) hM_50 d_50_183 rfl rfl ?_
              refine r_is (pc' := 185) (n := 12) hM_50 d_50_184 rfl (shSk hs).2.1 hz2 ?_
              refine r_sto (pc' := 188) (ls' := [some (.inr (.inr (some s))), some (.inl b), some (.inl x2), some (.inl (x3 + 1)), some (.inl x4), some (.inl 1), some (.inl 1), some (.inl 2)]) hM_50 d_50_185 rfl rfl ?_
              refine r_sto (pc' := 191) (ls' := [some (.inr (.inr (some s))), some (.inl b), some (.inl x2), some (.inl (x3 + 1)), some (.inl (x4 + 1)), some (.inl 1), some (.inl 1), some (.inl 2)]) hM_50 d_50_188 rfl rfl ?_
              refine r_go (pc' := 11) hM_50 d_50_191 (by decide) ?_
              exact rn_wk (by simp only [am_le, and_self]) H
    · have H := H.2 hz3
      refine r_go (pc' := 188) hM_50 d_50_31 (by decide) ?_
      refine r_sto (pc' := 191) (ls' := [some (.inr (.inr (some s))), some (.inl b), some (.inl x2), some (.inl x3), some (.inl (x4 + 1)), none, none, none]) hM_50 d_50_188 rfl rfl ?_
      refine r_go (pc' := 11) hM_50 d_50_191 (by decide) ?_
      exact H
theorem t_50_0 {fx : am_X0} {o : List am_V × am_S} {m : am_M} {s : Nat} {b : Int} (hs : s ∈ shL) (H : (WFS m s) ∧ (rn fx 1 (0, 0) 50 11 [some (.inr (.inr (some s))), some (.inl b), some (.inl (((msk (m (s + 1)) (am_s 1) (m s 4).toNat : Nat) : Int))), some (.inl 0), some (.inl 0), none, none, none] [] (st0 m) o)) : rn fx 1 (0, 0) 50 0 [some (.inr (.inr (some s))), some (.inl b), none, none, none, none, none, none] [] (st0 m) o := by
  refine r_ld (pc' := 1) hM_50 d_50_0 rfl rfl ?_
  refine r_k (pc' := 2) (v := .inl 1) hM_50 d_50_1 rfl rfl ?_
  obtain ⟨hz1, H⟩ := H
  refine r_cl (pc' := 5) (c := (48, 0)) (a := [.inr (.inr (some s)), .inl 1]) (q := []) hM_50 d_50_2 rfl (by decide +kernel) hM_48 rfl rfl rfl (Nat.le_of_ble_eq_true rfl) (Nat.le_of_ble_eq_true rfl) (Or.inr (rcvS hs _)) (c_48 hs m 1 hz1) (Nat.le_of_ble_eq_true rfl) ?_
  show rn fx 1 (0, 0) 50 5 [some (.inr (.inr (some s))), some (.inl b), none, none, none, none, none, none] [.inl (((msk (m (s + 1)) (am_s 1) (m s 4).toNat : Nat) : Int))] (st0 m) o
  refine r_sto (pc' := 6) (ls' := [some (.inr (.inr (some s))), some (.inl b), some (.inl (((msk (m (s + 1)) (am_s 1) (m s 4).toNat : Nat) : Int))), none, none, none, none, none]) hM_50 d_50_5 rfl rfl ?_
  refine r_k (pc' := 7) (v := .inl 0) hM_50 d_50_6 rfl rfl ?_
  refine r_sto (pc' := 8) (ls' := [some (.inr (.inr (some s))), some (.inl b), some (.inl (((msk (m (s + 1)) (am_s 1) (m s 4).toNat : Nat) : Int))), some (.inl 0), none, none, none, none]) hM_50 d_50_7 rfl rfl ?_
  refine r_k (pc' := 9) (v := .inl 0) hM_50 d_50_8 rfl rfl ?_
  refine r_sto (pc' := 11) (ls' := [some (.inr (.inr (some s))), some (.inl b), some (.inl (((msk (m (s + 1)) (am_s 1) (m s 4).toNat : Nat) : Int))), some (.inl 0), some (.inl 0), none, none, none]) hM_50 d_50_9 rfl rfl ?_
  exact H
theorem t_162_4 {fx : am_X0} {o : List am_V × am_S} {m : am_M} {s : Nat} {x1 : Int} {x2 : Int} (hs : s ∈ shL) (H : ((am_s (m s 4) ≤ am_s x2) → o = ([.inl x1], st0 m)) ∧ (¬ (am_s (m s 4) ≤ am_s x2) → (0 ≤ am_s x2 ∧ am_s x2 < (12 : Nat)) ∧ (rn fx 0 (0, 0) 162 4 [some (.inr (.inr (some s))), some (.inl (x1 + (m (s + 3) ((am_s x2).toNat)))), some (.inl (x2 + 1))] [] (st0 m) o))) : rn fx 0 (0, 0) 162 4 [some (.inr (.inr (some s))), some (.inl x1), some (.inl x2)] [] (st0 m) o := by
  refine r_ld (pc' := 5) hM_162 d_162_4 rfl rfl ?_
  refine r_ld (pc' := 6) hM_162 d_162_5 rfl rfl ?_
  refine r_gI (pc' := 9) hM_162 d_162_6 rfl (gfS_8_27 hs) ?_
  refine r_ic (pc' := 27) (pc2 := 12) hM_162 d_162_9 (by decide) rfl (fun hz1 => ?_) (fun hz1 => ?_)
  · have H := H.1 hz1
    refine r_ld (pc' := 28) hM_162 d_162_27 rfl rfl ?_
    subst H
    exact rt_i hM_162 d_162_28 rfl
  · have H := H.2 hz1
    refine r_ld (pc' := 13) hM_162 d_162_12 rfl rfl ?_
    refine r_ld (pc' := 14) hM_162 d_162_13 rfl rfl ?_
    refine r_gR (pc' := 17) hM_162 d_162_14 rfl (gfS_8_18 hs) ?_
    refine r_ld (pc' := 18) hM_162 d_162_17 rfl rfl ?_
    obtain ⟨hz2, H⟩ := H
    refine r_ia (pc' := 19) (n := 12) hM_162 d_162_18 rfl (shSk hs).2.2.2.1 hz2 ?_
    refine r_b (pc' := 20) (z := (x1 + (m (s + 3) ((am_s x2).toNat)))) hM_162 d_162_19 rfl rfl ?_
    refine r_sto (pc' := 21) (ls' := [some (.inr (.inr (some s))), some (.inl (x1 + (m (s + 3) ((am_s x2).toNat)))), some (.inl x2)]) hM_162 d_162_20 rfl rfl ?_
    refine r_sto (pc' := 24) (ls' := [some (.inr (.inr (some s))), some (.inl (x1 + (m (s + 3) ((am_s x2).toNat)))), some (.inl (x2 + 1))]) hM_162 d_162_21 rfl rfl ?_
    refine r_go (pc' := 4) hM_162 d_162_24 (by decide) ?_
    exact H
theorem t_162_0 {fx : am_X0} {o : List am_V × am_S} {m : am_M} {s : Nat} (hs : s ∈ shL) (H : rn fx 0 (0, 0) 162 4 [some (.inr (.inr (some s))), some (.inl 0), some (.inl 0)] [] (st0 m) o) : rn fx 0 (0, 0) 162 0 [some (.inr (.inr (some s))), none, none] [] (st0 m) o := by
  refine r_k (pc' := 1) (v := .inl 0) hM_162 d_162_0 rfl rfl ?_
  refine r_sto (pc' := 2) (ls' := [some (.inr (.inr (some s))), some (.inl 0), none]) hM_162 d_162_1 rfl rfl ?_
  refine r_k (pc' := 3) (v := .inl 0) hM_162 d_162_2 rfl rfl ?_
  refine r_sto (pc' := 4) (ls' := [some (.inr (.inr (some s))), some (.inl 0), some (.inl 0)]) hM_162 d_162_3 rfl rfl ?_
  exact H
