theorem u_44_0 {Q : List am_V → am_M → Prop} {m : am_M} {p : Int} {a : Int}  (H : (WFG (vw m 2)) ∧ (((0 ≤ am_s p ∧ am_s p < m 2 4) → (0 ≤ am_s p ∧ am_s p < (12 : Nat)) ∧ (((am_s (m 3 ((am_s p).toNat)) = 3) → ((am_s a < 1) → Q [.inl (-3)] m) ∧ ((¬ (am_s a < 1)) → ((am_s a ≤ 9) → (q_34 m 2 p 0 a 0 0) ∧ (Q [.inl 0] (w_34 m 2 p 0 a 0 0))) ∧ ((¬ (am_s a ≤ 9)) → Q [.inl (-3)] m))) ∧ ((¬ (am_s (m 3 ((am_s p).toNat)) = 3)) → Q [.inl (-5)] m))) ∧ ((¬ (0 ≤ am_s p ∧ am_s p < m 2 4)) → Q [.inl (-2)] m))) : ok 1 44 0 [some (.inr (.inr (some 0))), some (.inl p), some (.inl a)] [] m Q := by
  obtain ⟨hz1, H⟩ := H
  refine ok_sg (pc' := 8) (ls' := [some (.inr (.inr (some 0))), some (.inl p), some (.inl a)]) (st' := [.inl ((if 0 ≤ am_s p ∧ am_s p < m 2 4 then 1 else 0))]) (m' := m) (fun fx hfx o hk => ?_) ?_
  · refine r_ld (pc' := 1) hM_44 d_44_0 rfl rfl ?_
    refine r_gR (pc' := 4) (v := 2) hM_44 d_44_1 rfl (by decide +kernel) ?_
    refine r_ld (pc' := 5) hM_44 d_44_4 rfl rfl ?_
    refine r_cl (pc' := 8) (c := (40, 0)) (a := [.inr (.inr (some 2)), .inl p]) (q := []) hM_44 d_44_5 rfl (by decide +kernel) hM_40 rfl rfl rfl (Nat.le_of_ble_eq_true rfl) (Nat.le_of_ble_eq_true rfl) (Or.inr rfl) (n_40 (by decide) m p hz1) (Nat.le_of_ble_eq_true rfl) ?_
    show rn fx 1 (0, 0) 44 8 [some (.inr (.inr (some 0))), some (.inl p), some (.inl a)] [.inl ((if 0 ≤ am_s p ∧ am_s p < m 2 4 then 1 else 0))] (st0 m) o
    exact hk
  refine ok_if (pc' := 14) (pc2 := 11) hM_44 d_44_8 (by decide) rfl (fun hz2 => ?_) (fun hz2 => ?_)
  · have H := H.1 (as_iteN.mp hz2)
    obtain ⟨hz3, H⟩ := H
    refine ok_sg (pc' := 24) (ls' := [some (.inr (.inr (some 0))), some (.inl p), some (.inl a)]) (st' := [.inl 3, .inl (m 3 ((am_s p).toNat))]) (m' := m) (fun fx hfx o hk => ?_) ?_
    · refine r_ld (pc' := 15) hM_44 d_44_14 rfl rfl ?_
      refine r_gR (pc' := 18) (v := 2) hM_44 d_44_15 rfl (by decide +kernel) ?_
      refine r_gR (pc' := 21) (v := 3) hM_44 d_44_18 rfl (by decide +kernel) ?_
      refine r_ld (pc' := 22) hM_44 d_44_21 rfl rfl ?_
      refine r_ia (pc' := 23) (n := 12) hM_44 d_44_22 rfl rfl hz3 ?_
      refine r_k (pc' := 24) (v := .inl 3) hM_44 d_44_23 rfl rfl ?_
      exact hk
    refine ok_ic (pc' := 30) (pc2 := 27) hM_44 d_44_24 (by decide) rfl (fun hz4 => ?_) (fun hz4 => ?_)
    · have H := H.1 hz4
      refine ok_sg (pc' := 32) (ls' := [some (.inr (.inr (some 0))), some (.inl p), some (.inl a)]) (st' := [.inl 1, .inl a]) (m' := m) (fun fx hfx o hk => ?_) ?_
      · refine r_ld (pc' := 31) hM_44 d_44_30 rfl rfl ?_
        refine r_k (pc' := 32) (v := .inl 1) hM_44 d_44_31 rfl rfl ?_
        exact hk
      refine ok_ic (pc' := 41) (pc2 := 35) hM_44 d_44_32 (by decide) rfl (fun hz5 => ?_) (fun hz5 => ?_)
      · have H := H.1 hz5
        refine ok_sg (pc' := 43) (ls' := [some (.inr (.inr (some 0))), some (.inl p), some (.inl a)]) (st' := [.inl (-3)]) (m' := m) (fun fx hfx o hk => ?_) ?_
        · refine r_k (pc' := 43) (v := .inl (-3)) hM_44 d_44_41 rfl rfl ?_
          exact hk
        exact ok_rt (fun fx _ => rt_i hM_44 d_44_43 rfl) H
      · have H := H.2 hz5
        refine ok_sg (pc' := 38) (ls' := [some (.inr (.inr (some 0))), some (.inl p), some (.inl a)]) (st' := [.inl 9, .inl a]) (m' := m) (fun fx hfx o hk => ?_) ?_
        · refine r_ld (pc' := 36) hM_44 d_44_35 rfl rfl ?_
          refine r_k (pc' := 38) (v := .inl 9) hM_44 d_44_36 rfl rfl ?_
          exact hk
        refine ok_ic (pc' := 44) (pc2 := 41) hM_44 d_44_38 (by decide) rfl (fun hz6 => ?_) (fun hz6 => ?_)
        · have H := H.1 hz6
          obtain ⟨hz7, H⟩ := H
          refine ok_sg (pc' := 57) (ls' := [some (.inr (.inr (some 0))), some (.inl p), some (.inl a)]) (st' := [.inl 0]) (m' := w_34 m 2 p 0 a 0 0) (fun fx hfx o hk => ?_) ?_
          · refine r_ld (pc' := 45) hM_44 d_44_44 rfl rfl ?_
            refine r_gR (pc' := 48) (v := 2) hM_44 d_44_45 rfl (by decide +kernel) ?_
            refine r_ld (pc' := 49) hM_44 d_44_48 rfl rfl ?_
            refine r_k (pc' := 50) (v := .inl 0) hM_44 d_44_49 rfl rfl ?_
            refine r_ld (pc' := 51) hM_44 d_44_50 rfl rfl ?_
            refine r_k (pc' := 52) (v := .inl 0) hM_44 d_44_51 rfl rfl ?_
            refine r_k (pc' := 53) (v := .inl 0) hM_44 d_44_52 rfl rfl ?_
            refine r_cl (pc' := 56) (c := (34, 0)) (a := [.inr (.inr (some 2)), .inl p, .inl 0, .inl a, .inl 0, .inl 0]) (q := []) hM_44 d_44_53 rfl (by decide +kernel) hM_34 rfl rfl rfl (Nat.le_of_ble_eq_true rfl) (Nat.le_of_ble_eq_true rfl) (Or.inr rfl) (c_34 (by decide) m p 0 a 0 0 hz7) (Nat.le_of_ble_eq_true rfl) ?_
            show rn fx 1 (0, 0) 44 56 [some (.inr (.inr (some 0))), some (.inl p), some (.inl a)] [] (st0 (w_34 m 2 p 0 a 0 0)) o
            refine r_k (pc' := 57) (v := .inl 0) hM_44 d_44_56 rfl rfl ?_
            exact hk
          exact ok_rt (fun fx _ => rt_i hM_44 d_44_57 rfl) H
        · have H := H.2 hz6
          refine ok_sg (pc' := 43) (ls' := [some (.inr (.inr (some 0))), some (.inl p), some (.inl a)]) (st' := [.inl (-3)]) (m' := m) (fun fx hfx o hk => ?_) ?_
          · refine r_k (pc' := 43) (v := .inl (-3)) hM_44 d_44_41 rfl rfl ?_
            exact hk
          exact ok_rt (fun fx _ => rt_i hM_44 d_44_43 rfl) H
    · have H := H.2 hz4
      refine ok_sg (pc' := 29) (ls' := [some (.inr (.inr (some 0))), some (.inl p), some (.inl a)]) (st' := [.inl (-5)]) (m' := m) (fun fx hfx o hk => ?_) ?_
      · refine r_k (pc' := 29) (v := .inl (-5)) hM_44 d_44_27 rfl rfl ?_
        exact hk
      exact ok_rt (fun fx _ => rt_i hM_44 d_44_29 rfl) H
  · have H := H.2 (as_ite.mp (Decidable.not_not.mp hz2))
    refine ok_sg (pc' := 13) (ls' := [some (.inr (.inr (some 0))), some (.inl p), some (.inl a)]) (st' := [.inl (-2)]) (m' := m) (fun fx hfx o hk => ?_) ?_
    · refine r_k (pc' := 13) (v := .inl (-2)) hM_44 d_44_11 rfl rfl ?_
      exact hk
    exact ok_rt (fun fx _ => rt_i hM_44 d_44_13 rfl) H
theorem u_188_0 {Q : List am_V → am_M → Prop} {m : am_M} {p : Int} {a : Int}  (H : (WFG ((mu m 53 0 0) 54)) ∧ (((0 ≤ am_t (am_s p) ∧ am_t (am_s p) < (mu m 53 0 0) 54 0) → (((0 ≤ am_s p ∧ am_s p < (mu m 53 0 0) 54 0) ∧ nv ((mu m 53 0 0) 54) (8 + (am_s p).toNat) = am_s 3) → ((am_t 1 ≤ am_t (am_s a) ∧ am_t (am_s a) ≤ am_t 9) → (q_185 (mu m 53 0 0) p 0 a 0 0) ∧ (Q [.inl 0] (w_185 (mu m 53 0 0) p 0 a 0 0))) ∧ ((¬ (am_t 1 ≤ am_t (am_s a) ∧ am_t (am_s a) ≤ am_t 9)) → Q [.inl (-3)] (mu m 53 0 0))) ∧ ((¬ ((0 ≤ am_s p ∧ am_s p < (mu m 53 0 0) 54 0) ∧ nv ((mu m 53 0 0) 54) (8 + (am_s p).toNat) = am_s 3)) → Q [.inl (-5)] (mu m 53 0 0))) ∧ ((¬ (0 ≤ am_t (am_s p) ∧ am_t (am_s p) < (mu m 53 0 0) 54 0)) → Q [.inl (-2)] (mu m 53 0 0)))) : ok 3 188 0 [some (.inr (.inr (some 53))), some (.inl p), some (.inl a)] [] m Q := by
  obtain ⟨hz1, H⟩ := H
  refine ok_sg (pc' := 11) (ls' := [some (.inr (.inr (some 53))), some (.inl p), some (.inl a)]) (st' := [.inl ((if 0 ≤ am_t (am_s p) ∧ am_t (am_s p) < (mu m 53 0 0) 54 0 then 1 else 0))]) (m' := mu m 53 0 0) (fun fx hfx o hk => ?_) ?_
  · refine r_ld (pc' := 1) hM_188 d_188_0 rfl rfl ?_
    refine r_k (pc' := 2) (v := .inl 0) hM_188 d_188_1 rfl rfl ?_
    refine r_pI (pc' := 5) (k0 := 0) hM_188 d_188_2 rfl (by decide +kernel) ?_
    refine r_ld (pc' := 6) hM_188 d_188_5 rfl rfl ?_
    refine r_ld (pc' := 7) hM_188 d_188_6 rfl rfl ?_
    refine r_stk (pc' := 8) (st' := [.inr (.inl (am_s p)), .inr (.inr (some 53))]) hM_188 d_188_7 rfl rfl ?_
    refine r_cl (pc' := 11) (c := (183, 0)) (a := [.inr (.inr (some 53)), .inr (.inl (am_s p))]) (q := []) hM_188 d_188_8 rfl (by decide +kernel) hM_183 rfl rfl rfl (Nat.le_of_ble_eq_true rfl) (Nat.le_of_ble_eq_true rfl) (Or.inr rfl) (n_183  (mu m 53 0 0) (am_s p) hz1) (Nat.le_of_ble_eq_true rfl) ?_
    show rn fx 3 (0, 0) 188 11 [some (.inr (.inr (some 53))), some (.inl p), some (.inl a)] [.inl ((if 0 ≤ am_t (am_s p) ∧ am_t (am_s p) < (mu m 53 0 0) 54 0 then 1 else 0))] (st0 (mu m 53 0 0)) o
    exact hk
  refine ok_if (pc' := 17) (pc2 := 14) hM_188 d_188_11 (by decide) rfl (fun hz2 => ?_) (fun hz2 => ?_)
  · have H := H.1 (as_iteN.mp hz2)
    refine ok_sg (pc' := 23) (ls' := [some (.inr (.inr (some 53))), some (.inl p), some (.inl a)]) (st' := [.inl ((if (0 ≤ am_s p ∧ am_s p < (mu m 53 0 0) 54 0) ∧ nv ((mu m 53 0 0) 54) (8 + (am_s p).toNat) = am_s 3 then 1 else 0))]) (m' := mu m 53 0 0) (fun fx hfx o hk => ?_) ?_
    · refine r_ld (pc' := 18) hM_188 d_188_17 rfl rfl ?_
      refine r_ld (pc' := 19) hM_188 d_188_18 rfl rfl ?_
      refine r_k (pc' := 20) (v := .inl 3) hM_188 d_188_19 rfl rfl ?_
      refine r_cl (pc' := 23) (c := (187, 0)) (a := [.inr (.inr (some 53)), .inl p, .inl 3]) (q := []) hM_188 d_188_20 rfl (by decide +kernel) hM_187 rfl rfl rfl (Nat.le_of_ble_eq_true rfl) (Nat.le_of_ble_eq_true rfl) (Or.inr rfl) (n_187  (mu m 53 0 0) p 3 hz1) (Nat.le_of_ble_eq_true rfl) ?_
      show rn fx 3 (0, 0) 188 23 [some (.inr (.inr (some 53))), some (.inl p), some (.inl a)] [.inl ((if (0 ≤ am_s p ∧ am_s p < (mu m 53 0 0) 54 0) ∧ nv ((mu m 53 0 0) 54) (8 + (am_s p).toNat) = am_s 3 then 1 else 0))] (st0 (mu m 53 0 0)) o
      exact hk
    refine ok_if (pc' := 29) (pc2 := 26) hM_188 d_188_23 (by decide) rfl (fun hz3 => ?_) (fun hz3 => ?_)
    · have H := H.1 (as_iteN.mp hz3)
      refine ok_sg (pc' := 38) (ls' := [some (.inr (.inr (some 53))), some (.inl p), some (.inl a)]) (st' := [.inl ((if am_t 1 ≤ am_t (am_s a) ∧ am_t (am_s a) ≤ am_t 9 then 1 else 0))]) (m' := mu m 53 0 0) (fun fx hfx o hk => ?_) ?_
      · refine r_ld (pc' := 30) hM_188 d_188_29 rfl rfl ?_
        refine r_stk (pc' := 31) (st' := [.inr (.inl (am_s a))]) hM_188 d_188_30 rfl rfl ?_
        refine r_k (pc' := 32) (v := .inr (.inl 1)) hM_188 d_188_31 rfl rfl ?_
        refine r_k (pc' := 35) (v := .inr (.inl 9)) hM_188 d_188_32 rfl (by decide +kernel) ?_
        refine r_cl (pc' := 38) (c := (167, 2)) (a := [.inr (.inl (am_s a)), .inr (.inl 1), .inr (.inl 9)]) (q := []) hM_188 d_188_35 rfl (by decide +kernel) hM_167 rfl rfl rfl (Nat.le_of_ble_eq_true rfl) (Nat.le_of_ble_eq_true rfl) (Or.inl rfl) (n_167  (mu m 53 0 0) (am_s a) 1 9) (Nat.le_of_ble_eq_true rfl) ?_
        show rn fx 3 (0, 0) 188 38 [some (.inr (.inr (some 53))), some (.inl p), some (.inl a)] [.inl ((if am_t 1 ≤ am_t (am_s a) ∧ am_t (am_s a) ≤ am_t 9 then 1 else 0))] (st0 (mu m 53 0 0)) o
        exact hk
      refine ok_if (pc' := 44) (pc2 := 41) hM_188 d_188_38 (by decide) rfl (fun hz4 => ?_) (fun hz4 => ?_)
      · have H := H.1 (as_iteN.mp hz4)
        obtain ⟨hz5, H⟩ := H
        refine ok_sg (pc' := 54) (ls' := [some (.inr (.inr (some 53))), some (.inl p), some (.inl a)]) (st' := [.inl 0]) (m' := w_185 (mu m 53 0 0) p 0 a 0 0) (fun fx hfx o hk => ?_) ?_
        · refine r_ld (pc' := 45) hM_188 d_188_44 rfl rfl ?_
          refine r_ld (pc' := 46) hM_188 d_188_45 rfl rfl ?_
          refine r_k (pc' := 47) (v := .inl 0) hM_188 d_188_46 rfl rfl ?_
          refine r_ld (pc' := 48) hM_188 d_188_47 rfl rfl ?_
          refine r_k (pc' := 49) (v := .inl 0) hM_188 d_188_48 rfl rfl ?_
          refine r_k (pc' := 50) (v := .inl 0) hM_188 d_188_49 rfl rfl ?_
          refine r_cl (pc' := 53) (c := (185, 0)) (a := [.inr (.inr (some 53)), .inl p, .inl 0, .inl a, .inl 0, .inl 0]) (q := []) hM_188 d_188_50 rfl (by decide +kernel) hM_185 rfl rfl rfl (Nat.le_of_ble_eq_true rfl) (Nat.le_of_ble_eq_true rfl) (Or.inr rfl) (c_185  (mu m 53 0 0) p 0 a 0 0 hz5) (Nat.le_of_ble_eq_true rfl) ?_
          show rn fx 3 (0, 0) 188 53 [some (.inr (.inr (some 53))), some (.inl p), some (.inl a)] [] (st0 (w_185 (mu m 53 0 0) p 0 a 0 0)) o
          refine r_k (pc' := 54) (v := .inl 0) hM_188 d_188_53 rfl rfl ?_
          exact hk
        exact ok_rt (fun fx _ => rt_i hM_188 d_188_54 rfl) H
      · have H := H.2 (as_ite.mp (Decidable.not_not.mp hz4))
        refine ok_sg (pc' := 43) (ls' := [some (.inr (.inr (some 53))), some (.inl p), some (.inl a)]) (st' := [.inl (-3)]) (m' := mu m 53 0 0) (fun fx hfx o hk => ?_) ?_
        · refine r_k (pc' := 43) (v := .inl (-3)) hM_188 d_188_41 rfl rfl ?_
          exact hk
        exact ok_rt (fun fx _ => rt_i hM_188 d_188_43 rfl) H
    · have H := H.2 (as_ite.mp (Decidable.not_not.mp hz3))
      refine ok_sg (pc' := 28) (ls' := [some (.inr (.inr (some 53))), some (.inl p), some (.inl a)]) (st' := [.inl (-5)]) (m' := mu m 53 0 0) (fun fx hfx o hk => ?_) ?_
      · refine r_k (pc' := 28) (v := .inl (-5)) hM_188 d_188_26 rfl rfl ?_
        exact hk
      exact ok_rt (fun fx _ => rt_i hM_188 d_188_28 rfl) H
  · have H := H.2 (as_ite.mp (Decidable.not_not.mp hz2))
    refine ok_sg (pc' := 16) (ls' := [some (.inr (.inr (some 53))), some (.inl p), some (.inl a)]) (st' := [.inl (-2)]) (m' := mu m 53 0 0) (fun fx hfx o hk => ?_) ?_
    · refine r_k (pc' := 16) (v := .inl (-2)) hM_188 d_188_14 rfl rfl ?_
      exact hk
    exact ok_rt (fun fx _ => rt_i hM_188 d_188_16 rfl) H
theorem u_41_0 {Q : List am_V → am_M → Prop} {m : am_M} {p : Int} {q : Int}  (H : (WFG (vw m 2)) ∧ (((¬ (0 ≤ am_s p ∧ am_s p < m 2 4)) → Q [.inl (-2)] m) ∧ ((0 ≤ am_s p ∧ am_s p < m 2 4) → ((0 ≤ am_s q ∧ am_s q < m 2 4) → (q_42 m 2 p q) ∧ (Q [.inl 0] (w_42 m 2 p q))) ∧ ((¬ (0 ≤ am_s q ∧ am_s q < m 2 4)) → Q [.inl (-2)] m)))) : ok 2 41 0 [some (.inr (.inr (some 0))), some (.inl p), some (.inl q)] [] m Q := by
  obtain ⟨hz1, H⟩ := H
  refine ok_sg (pc' := 8) (ls' := [some (.inr (.inr (some 0))), some (.inl p), some (.inl q)]) (st' := [.inl ((if 0 ≤ am_s p ∧ am_s p < m 2 4 then 1 else 0))]) (m' := m) (fun fx hfx o hk => ?_) ?_
  · refine r_ld (pc' := 1) hM_41 d_41_0 rfl rfl ?_
    refine r_gR (pc' := 4) (v := 2) hM_41 d_41_1 rfl (by decide +kernel) ?_
    refine r_ld (pc' := 5) hM_41 d_41_4 rfl rfl ?_
    refine r_cl (pc' := 8) (c := (40, 0)) (a := [.inr (.inr (some 2)), .inl p]) (q := []) hM_41 d_41_5 rfl (by decide +kernel) hM_40 rfl rfl rfl (Nat.le_of_ble_eq_true rfl) (Nat.le_of_ble_eq_true rfl) (Or.inr rfl) (n_40 (by decide) m p hz1) (Nat.le_of_ble_eq_true rfl) ?_
    show rn fx 2 (0, 0) 41 8 [some (.inr (.inr (some 0))), some (.inl p), some (.inl q)] [.inl ((if 0 ≤ am_s p ∧ am_s p < m 2 4 then 1 else 0))] (st0 m) o
    exact hk
  refine ok_if (pc' := 22) (pc2 := 11) hM_41 d_41_8 (by decide) rfl (fun hz2 => ?_) (fun hz2 => ?_)
  · have H := H.1 (as_ite.mp hz2)
    refine ok_sg (pc' := 24) (ls' := [some (.inr (.inr (some 0))), some (.inl p), some (.inl q)]) (st' := [.inl (-2)]) (m' := m) (fun fx hfx o hk => ?_) ?_
    · refine r_k (pc' := 24) (v := .inl (-2)) hM_41 d_41_22 rfl rfl ?_
      exact hk
    exact ok_rt (fun fx _ => rt_i hM_41 d_41_24 rfl) H
  · have H := H.2 (as_iteN.mp hz2)
    refine ok_sg (pc' := 19) (ls' := [some (.inr (.inr (some 0))), some (.inl p), some (.inl q)]) (st' := [.inl ((if 0 ≤ am_s q ∧ am_s q < m 2 4 then 1 else 0))]) (m' := m) (fun fx hfx o hk => ?_) ?_
    · refine r_ld (pc' := 12) hM_41 d_41_11 rfl rfl ?_
      refine r_gR (pc' := 15) (v := 2) hM_41 d_41_12 rfl (by decide +kernel) ?_
      refine r_ld (pc' := 16) hM_41 d_41_15 rfl rfl ?_
      refine r_cl (pc' := 19) (c := (40, 0)) (a := [.inr (.inr (some 2)), .inl q]) (q := []) hM_41 d_41_16 rfl (by decide +kernel) hM_40 rfl rfl rfl (Nat.le_of_ble_eq_true rfl) (Nat.le_of_ble_eq_true rfl) (Or.inr rfl) (n_40 (by decide) m q hz1) (Nat.le_of_ble_eq_true rfl) ?_
      show rn fx 2 (0, 0) 41 19 [some (.inr (.inr (some 0))), some (.inl p), some (.inl q)] [.inl ((if 0 ≤ am_s q ∧ am_s q < m 2 4 then 1 else 0))] (st0 m) o
      exact hk
    refine ok_if (pc' := 25) (pc2 := 22) hM_41 d_41_19 (by decide) rfl (fun hz3 => ?_) (fun hz3 => ?_)
    · have H := H.1 (as_iteN.mp hz3)
      obtain ⟨hz4, H⟩ := H
      refine ok_sg (pc' := 35) (ls' := [some (.inr (.inr (some 0))), some (.inl p), some (.inl q)]) (st' := [.inl 0]) (m' := w_42 m 2 p q) (fun fx hfx o hk => ?_) ?_
      · refine r_ld (pc' := 26) hM_41 d_41_25 rfl rfl ?_
        refine r_gR (pc' := 29) (v := 2) hM_41 d_41_26 rfl (by decide +kernel) ?_
        refine r_ld (pc' := 30) hM_41 d_41_29 rfl rfl ?_
        refine r_ld (pc' := 31) hM_41 d_41_30 rfl rfl ?_
        refine r_cl (pc' := 34) (c := (42, 0)) (a := [.inr (.inr (some 2)), .inl p, .inl q]) (q := []) hM_41 d_41_31 rfl (by decide +kernel) hM_42 rfl rfl rfl (Nat.le_of_ble_eq_true rfl) (Nat.le_of_ble_eq_true rfl) (Or.inr rfl) (c_42 (by decide) m p q hz4) (Nat.le_of_ble_eq_true rfl) ?_
        show rn fx 2 (0, 0) 41 34 [some (.inr (.inr (some 0))), some (.inl p), some (.inl q)] [] (st0 (w_42 m 2 p q)) o
        refine r_k (pc' := 35) (v := .inl 0) hM_41 d_41_34 rfl rfl ?_
        exact hk
      exact ok_rt (fun fx _ => rt_i hM_41 d_41_35 rfl) H
    · have H := H.2 (as_ite.mp (Decidable.not_not.mp hz3))
      refine ok_sg (pc' := 24) (ls' := [some (.inr (.inr (some 0))), some (.inl p), some (.inl q)]) (st' := [.inl (-2)]) (m' := m) (fun fx hfx o hk => ?_) ?_
      · refine r_k (pc' := 24) (v := .inl (-2)) hM_41 d_41_22 rfl rfl ?_
        exact hk
      exact ok_rt (fun fx _ => rt_i hM_41 d_41_24 rfl) H
theorem u_184_0 {Q : List am_V → am_M → Prop} {m : am_M} {p : Int} {q : Int}  (H : (WFG ((mu m 53 0 0) 54)) ∧ (((¬ (0 ≤ am_t (am_s p) ∧ am_t (am_s p) < (mu m 53 0 0) 54 0)) → Q [.inl (-2)] (mu m 53 0 0)) ∧ ((0 ≤ am_t (am_s p) ∧ am_t (am_s p) < (mu m 53 0 0) 54 0) → ((0 ≤ am_t (am_s q) ∧ am_t (am_s q) < (mu m 53 0 0) 54 0) → (0 ≤ am_s (8 + p) ∧ am_s (8 + p) < (168 : Nat)) ∧ ((0 ≤ am_s (20 + p) ∧ am_s (20 + p) < (168 : Nat)) ∧ ((0 ≤ am_s (32 + p) ∧ am_s (32 + p) < (168 : Nat)) ∧ ((0 ≤ am_s (44 + p) ∧ am_s (44 + p) < (168 : Nat)) ∧ ((0 ≤ am_s (8 + q) ∧ am_s (8 + q) < (168 : Nat)) ∧ ((0 ≤ am_s (20 + q) ∧ am_s (20 + q) < (168 : Nat)) ∧ ((0 ≤ am_s (32 + q) ∧ am_s (32 + q) < (168 : Nat)) ∧ ((0 ≤ am_s (44 + q) ∧ am_s (44 + q) < (168 : Nat)) ∧ ((q_185 (mu m 53 0 0) p (m 54 ((am_s (8 + q)).toNat)) (m 54 ((am_s (20 + q)).toNat)) (m 54 ((am_s (32 + q)).toNat)) (m 54 ((am_s (44 + q)).toNat))) ∧ ((q_185 (w_185 (mu m 53 0 0) p (m 54 ((am_s (8 + q)).toNat)) (m 54 ((am_s (20 + q)).toNat)) (m 54 ((am_s (32 + q)).toNat)) (m 54 ((am_s (44 + q)).toNat))) q (m 54 ((am_s (8 + p)).toNat)) (m 54 ((am_s (20 + p)).toNat)) (m 54 ((am_s (32 + p)).toNat)) (m 54 ((am_s (44 + p)).toNat))) ∧ (Q [.inl 0] (w_185 (w_185 (mu m 53 0 0) p (m 54 ((am_s (8 + q)).toNat)) (m 54 ((am_s (20 + q)).toNat)) (m 54 ((am_s (32 + q)).toNat)) (m 54 ((am_s (44 + q)).toNat))) q (m 54 ((am_s (8 + p)).toNat)) (m 54 ((am_s (20 + p)).toNat)) (m 54 ((am_s (32 + p)).toNat)) (m 54 ((am_s (44 + p)).toNat)))))))))))))) ∧ ((¬ (0 ≤ am_t (am_s q) ∧ am_t (am_s q) < (mu m 53 0 0) 54 0)) → Q [.inl (-2)] (mu m 53 0 0))))) : ok 2 184 0 [some (.inr (.inr (some 53))), some (.inl p), some (.inl q), none, none, none, none] [] m Q := by
  obtain ⟨hz1, H⟩ := H
  refine ok_sg (pc' := 11) (ls' := [some (.inr (.inr (some 53))), some (.inl p), some (.inl q), none, none, none, none]) (st' := [.inl ((if 0 ≤ am_t (am_s p) ∧ am_t (am_s p) < (mu m 53 0 0) 54 0 then 1 else 0))]) (m' := mu m 53 0 0) (fun fx hfx o hk => ?_) ?_
  · refine r_ld (pc' := 1) hM_184 d_184_0 rfl rfl ?_
    refine r_k (pc' := 2) (v := .inl 0) hM_184 d_184_1 rfl rfl ?_
    refine r_pI (pc' := 5) (k0 := 0) hM_184 d_184_2 rfl (by decide +kernel) ?_
    refine r_ld (pc' := 6) hM_184 d_184_5 rfl rfl ?_
    refine r_ld (pc' := 7) hM_184 d_184_6 rfl rfl ?_
    refine r_stk (pc' := 8) (st' := [.inr (.inl (am_s p)), .inr (.inr (some 53))]) hM_184 d_184_7 rfl rfl ?_
    refine r_cl (pc' := 11) (c := (183, 0)) (a := [.inr (.inr (some 53)), .inr (.inl (am_s p))]) (q := []) hM_184 d_184_8 rfl (by decide +kernel) hM_183 rfl rfl rfl (Nat.le_of_ble_eq_true rfl) (Nat.le_of_ble_eq_true rfl) (Or.inr rfl) (n_183  (mu m 53 0 0) (am_s p) hz1) (Nat.le_of_ble_eq_true rfl) ?_
    show rn fx 2 (0, 0) 184 11 [some (.inr (.inr (some 53))), some (.inl p), some (.inl q), none, none, none, none] [.inl ((if 0 ≤ am_t (am_s p) ∧ am_t (am_s p) < (mu m 53 0 0) 54 0 then 1 else 0))] (st0 (mu m 53 0 0)) o
    exact hk
  refine ok_if (pc' := 23) (pc2 := 14) hM_184 d_184_11 (by decide) rfl (fun hz2 => ?_) (fun hz2 => ?_)
  · have H := H.1 (as_ite.mp hz2)
    refine ok_sg (pc' := 25) (ls' := [some (.inr (.inr (some 53))), some (.inl p), some (.inl q), none, none, none, none]) (st' := [.inl (-2)]) (m' := mu m 53 0 0) (fun fx hfx o hk => ?_) ?_
    · refine r_k (pc' := 25) (v := .inl (-2)) hM_184 d_184_23 rfl rfl ?_
      exact hk
    exact ok_rt (fun fx _ => rt_i hM_184 d_184_25 rfl) H
  · have H := H.2 (as_iteN.mp hz2)
    refine ok_sg (pc' := 20) (ls' := [some (.inr (.inr (some 53))), some (.inl p), some (.inl q), none, none, none, none]) (st' := [.inl ((if 0 ≤ am_t (am_s q) ∧ am_t (am_s q) < (mu m 53 0 0) 54 0 then 1 else 0))]) (m' := mu m 53 0 0) (fun fx hfx o hk => ?_) ?_
    · refine r_ld (pc' := 15) hM_184 d_184_14 rfl rfl ?_
      refine r_ld (pc' := 16) hM_184 d_184_15 rfl rfl ?_
      refine r_stk (pc' := 17) (st' := [.inr (.inl (am_s q)), .inr (.inr (some 53))]) hM_184 d_184_16 rfl rfl ?_
      refine r_cl (pc' := 20) (c := (183, 0)) (a := [.inr (.inr (some 53)), .inr (.inl (am_s q))]) (q := []) hM_184 d_184_17 rfl (by decide +kernel) hM_183 rfl rfl rfl (Nat.le_of_ble_eq_true rfl) (Nat.le_of_ble_eq_true rfl) (Or.inr rfl) (n_183  (mu m 53 0 0) (am_s q) hz1) (Nat.le_of_ble_eq_true rfl) ?_
      show rn fx 2 (0, 0) 184 20 [some (.inr (.inr (some 53))), some (.inl p), some (.inl q), none, none, none, none] [.inl ((if 0 ≤ am_t (am_s q) ∧ am_t (am_s q) < (mu m 53 0 0) 54 0 then 1 else 0))] (st0 (mu m 53 0 0)) o
      exact hk
    refine ok_if (pc' := 26) (pc2 := 23) hM_184 d_184_20 (by decide) rfl (fun hz3 => ?_) (fun hz3 => ?_)
    · have H := H.1 (as_iteN.mp hz3)
      obtain ⟨hz4, H⟩ := H
      obtain ⟨hz5, H⟩ := H
      obtain ⟨hz6, H⟩ := H
      obtain ⟨hz7, H⟩ := H
      obtain ⟨hz8, H⟩ := H
      obtain ⟨hz9, H⟩ := H
      obtain ⟨hz10, H⟩ := H
      obtain ⟨hz11, H⟩ := H
      obtain ⟨hz12, H⟩ := H
      obtain ⟨hz13, H⟩ := H
      refine ok_sg (pc' := 123) (ls' := [some (.inr (.inr (some 53))), some (.inl p), some (.inl q), some (.inl (m 54 ((am_s (8 + p)).toNat))), some (.inl (m 54 ((am_s (20 + p)).toNat))), some (.inl (m 54 ((am_s (32 + p)).toNat))), some (.inl (m 54 ((am_s (44 + p)).toNat)))]) (st' := [.inl 0]) (m' := w_185 (w_185 (mu m 53 0 0) p (m 54 ((am_s (8 + q)).toNat)) (m 54 ((am_s (20 + q)).toNat)) (m 54 ((am_s (32 + q)).toNat)) (m 54 ((am_s (44 + q)).toNat))) q (m 54 ((am_s (8 + p)).toNat)) (m 54 ((am_s (20 + p)).toNat)) (m 54 ((am_s (32 + p)).toNat)) (m 54 ((am_s (44 + p)).toNat))) (fun fx hfx o hk => ?_) ?_
      · refine r_ld (pc' := 27) hM_184 d_184_26 rfl rfl ?_
        refine r_gR (pc' := 30) (v := 54) hM_184 d_184_27 rfl (by decide +kernel) ?_
        refine r_k (pc' := 32) (v := .inl 8) hM_184 d_184_30 rfl rfl ?_
        refine r_ld (pc' := 33) hM_184 d_184_32 rfl rfl ?_
        refine r_b (pc' := 34) (z := (8 + p)) hM_184 d_184_33 rfl rfl ?_
        refine r_iae (pc' := 35) (n := 168) (z := (m 54 ((am_s (8 + p)).toNat))) hM_184 d_184_34 rfl rfl hz4 (mu_r (by decide)) ?_
        refine r_sto (pc' := 36) (ls' := [some (.inr (.inr (some 53))), some (.inl p), some (.inl q), some (.inl (m 54 ((am_s (8 + p)).toNat))), none, none, none]) hM_184 d_184_35 rfl rfl ?_
        refine r_ld (pc' := 37) hM_184 d_184_36 rfl rfl ?_
        refine r_gR (pc' := 40) (v := 54) hM_184 d_184_37 rfl (by decide +kernel) ?_
        refine r_k (pc' := 42) (v := .inl 20) hM_184 d_184_40 rfl rfl ?_
        refine r_ld (pc' := 43) hM_184 d_184_42 rfl rfl ?_
        refine r_b (pc' := 44) (z := (20 + p)) hM_184 d_184_43 rfl rfl ?_
        refine r_iae (pc' := 45) (n := 168) (z := (m 54 ((am_s (20 + p)).toNat))) hM_184 d_184_44 rfl rfl hz5 (mu_r (by decide)) ?_
        refine r_sto (pc' := 47) (ls' := [some (.inr (.inr (some 53))), some (.inl p), some (.inl q), some (.inl (m 54 ((am_s (8 + p)).toNat))), some (.inl (m 54 ((am_s (20 + p)).toNat))), none, none]) hM_184 d_184_45 rfl rfl ?_
        refine r_ld (pc' := 48) hM_184 d_184_47 rfl rfl ?_
        refine r_gR (pc' := 51) (v := 54) hM_184 d_184_48 rfl (by decide +kernel) ?_
        refine r_k (pc' := 53) (v := .inl 32) hM_184 d_184_51 rfl rfl ?_
        refine r_ld (pc' := 54) hM_184 d_184_53 rfl rfl ?_
        refine r_b (pc' := 55) (z := (32 + p)) hM_184 d_184_54 rfl rfl ?_
        refine r_iae (pc' := 56) (n := 168) (z := (m 54 ((am_s (32 + p)).toNat))) hM_184 d_184_55 rfl rfl hz6 (mu_r (by decide)) ?_
        refine r_sto (pc' := 58) (ls' := [some (.inr (.inr (some 53))), some (.inl p), some (.inl q), some (.inl (m 54 ((am_s (8 + p)).toNat))), some (.inl (m 54 ((am_s (20 + p)).toNat))), some (.inl (m 54 ((am_s (32 + p)).toNat))), none]) hM_184 d_184_56 rfl rfl ?_
        refine r_ld (pc' := 59) hM_184 d_184_58 rfl rfl ?_
        refine r_gR (pc' := 62) (v := 54) hM_184 d_184_59 rfl (by decide +kernel) ?_
        refine r_k (pc' := 64) (v := .inl 44) hM_184 d_184_62 rfl rfl ?_
        refine r_ld (pc' := 65) hM_184 d_184_64 rfl rfl ?_
        refine r_b (pc' := 66) (z := (44 + p)) hM_184 d_184_65 rfl rfl ?_
        refine r_iae (pc' := 67) (n := 168) (z := (m 54 ((am_s (44 + p)).toNat))) hM_184 d_184_66 rfl rfl hz7 (mu_r (by decide)) ?_
        refine r_sto (pc' := 69) (ls' := [some (.inr (.inr (some 53))), some (.inl p), some (.inl q), some (.inl (m 54 ((am_s (8 + p)).toNat))), some (.inl (m 54 ((am_s (20 + p)).toNat))), some (.inl (m 54 ((am_s (32 + p)).toNat))), some (.inl (m 54 ((am_s (44 + p)).toNat)))]) hM_184 d_184_67 rfl rfl ?_
        refine r_ld (pc' := 70) hM_184 d_184_69 rfl rfl ?_
        refine r_ld (pc' := 71) hM_184 d_184_70 rfl rfl ?_
        refine r_ld (pc' := 72) hM_184 d_184_71 rfl rfl ?_
        refine r_gR (pc' := 75) (v := 54) hM_184 d_184_72 rfl (by decide +kernel) ?_
        refine r_k (pc' := 77) (v := .inl 8) hM_184 d_184_75 rfl rfl ?_
        refine r_ld (pc' := 78) hM_184 d_184_77 rfl rfl ?_
        refine r_b (pc' := 79) (z := (8 + q)) hM_184 d_184_78 rfl rfl ?_
        refine r_iae (pc' := 80) (n := 168) (z := (m 54 ((am_s (8 + q)).toNat))) hM_184 d_184_79 rfl rfl hz8 (mu_r (by decide)) ?_
        refine r_ld (pc' := 81) hM_184 d_184_80 rfl rfl ?_
        refine r_gR (pc' := 84) (v := 54) hM_184 d_184_81 rfl (by decide +kernel) ?_
        refine r_k (pc' := 86) (v := .inl 20) hM_184 d_184_84 rfl rfl ?_
        refine r_ld (pc' := 87) hM_184 d_184_86 rfl rfl ?_
        refine r_b (pc' := 88) (z := (20 + q)) hM_184 d_184_87 rfl rfl ?_
        refine r_iae (pc' := 89) (n := 168) (z := (m 54 ((am_s (20 + q)).toNat))) hM_184 d_184_88 rfl rfl hz9 (mu_r (by decide)) ?_
        refine r_ld (pc' := 90) hM_184 d_184_89 rfl rfl ?_
        refine r_gR (pc' := 93) (v := 54) hM_184 d_184_90 rfl (by decide +kernel) ?_
        refine r_k (pc' := 95) (v := .inl 32) hM_184 d_184_93 rfl rfl ?_
        refine r_ld (pc' := 96) hM_184 d_184_95 rfl rfl ?_
        refine r_b (pc' := 97) (z := (32 + q)) hM_184 d_184_96 rfl rfl ?_
        refine r_iae (pc' := 98) (n := 168) (z := (m 54 ((am_s (32 + q)).toNat))) hM_184 d_184_97 rfl rfl hz10 (mu_r (by decide)) ?_
        refine r_ld (pc' := 99) hM_184 d_184_98 rfl rfl ?_
        refine r_gR (pc' := 102) (v := 54) hM_184 d_184_99 rfl (by decide +kernel) ?_
        refine r_k (pc' := 104) (v := .inl 44) hM_184 d_184_102 rfl rfl ?_
        refine r_ld (pc' := 105) hM_184 d_184_104 rfl rfl ?_
        refine r_b (pc' := 106) (z := (44 + q)) hM_184 d_184_105 rfl rfl ?_
        refine r_iae (pc' := 107) (n := 168) (z := (m 54 ((am_s (44 + q)).toNat))) hM_184 d_184_106 rfl rfl hz11 (mu_r (by decide)) ?_
        refine r_cl (pc' := 110) (c := (185, 0)) (a := [.inr (.inr (some 53)), .inl p, .inl (m 54 ((am_s (8 + q)).toNat)), .inl (m 54 ((am_s (20 + q)).toNat)), .inl (m 54 ((am_s (32 + q)).toNat)), .inl (m 54 ((am_s (44 + q)).toNat))]) (q := []) hM_184 d_184_107 rfl (by decide +kernel) hM_185 rfl rfl rfl (Nat.le_of_ble_eq_true rfl) (Nat.le_of_ble_eq_true rfl) (Or.inr rfl) (c_185  (mu m 53 0 0) p (m 54 ((am_s (8 + q)).toNat)) (m 54 ((am_s (20 + q)).toNat)) (m 54 ((am_s (32 + q)).toNat)) (m 54 ((am_s (44 + q)).toNat)) hz12) (Nat.le_of_ble_eq_true rfl) ?_
        show rn fx 2 (0, 0) 184 110 [some (.inr (.inr (some 53))), some (.inl p), some (.inl q), some (.inl (m 54 ((am_s (8 + p)).toNat))), some (.inl (m 54 ((am_s (20 + p)).toNat))), some (.inl (m 54 ((am_s (32 + p)).toNat))), some (.inl (m 54 ((am_s (44 + p)).toNat)))] [] (st0 (w_185 (mu m 53 0 0) p (m 54 ((am_s (8 + q)).toNat)) (m 54 ((am_s (20 + q)).toNat)) (m 54 ((am_s (32 + q)).toNat)) (m 54 ((am_s (44 + q)).toNat)))) o
        refine r_ld (pc' := 111) hM_184 d_184_110 rfl rfl ?_
        refine r_ld (pc' := 112) hM_184 d_184_111 rfl rfl ?_
        refine r_ld (pc' := 113) hM_184 d_184_112 rfl rfl ?_
        refine r_ld (pc' := 115) hM_184 d_184_113 rfl rfl ?_
        refine r_ld (pc' := 117) hM_184 d_184_115 rfl rfl ?_
        refine r_ld (pc' := 119) hM_184 d_184_117 rfl rfl ?_
        refine r_cl (pc' := 122) (c := (185, 0)) (a := [.inr (.inr (some 53)), .inl q, .inl (m 54 ((am_s (8 + p)).toNat)), .inl (m 54 ((am_s (20 + p)).toNat)), .inl (m 54 ((am_s (32 + p)).toNat)), .inl (m 54 ((am_s (44 + p)).toNat))]) (q := []) hM_184 d_184_119 rfl (by decide +kernel) hM_185 rfl rfl rfl (Nat.le_of_ble_eq_true rfl) (Nat.le_of_ble_eq_true rfl) (Or.inr rfl) (c_185  (w_185 (mu m 53 0 0) p (m 54 ((am_s (8 + q)).toNat)) (m 54 ((am_s (20 + q)).toNat)) (m 54 ((am_s (32 + q)).toNat)) (m 54 ((am_s (44 + q)).toNat))) q (m 54 ((am_s (8 + p)).toNat)) (m 54 ((am_s (20 + p)).toNat)) (m 54 ((am_s (32 + p)).toNat)) (m 54 ((am_s (44 + p)).toNat)) hz13) (Nat.le_of_ble_eq_true rfl) ?_
        show rn fx 2 (0, 0) 184 122 [some (.inr (.inr (some 53))), some (.inl p), some (.inl q), some (.inl (m 54 ((am_s (8 + p)).toNat))), some (.inl (m 54 ((am_s (20 + p)).toNat))), some (.inl (m 54 ((am_s (32 + p)).toNat))), some (.inl (m 54 ((am_s (44 + p)).toNat)))] [] (st0 (w_185 (w_185 (mu m 53 0 0) p (m 54 ((am_s (8 + q)).toNat)) (m 54 ((am_s (20 + q)).toNat)) (m 54 ((am_s (32 + q)).toNat)) (m 54 ((am_s (44 + q)).toNat))) q (m 54 ((am_s (8 + p)).toNat)) (m 54 ((am_s (20 + p)).toNat)) (m 54 ((am_s (32 + p)).toNat)) (m 54 ((am_s (44 + p)).toNat)))) o
        refine r_k (pc' := 123) (v := .inl 0) hM_184 d_184_122 rfl rfl ?_
        exact hk
      exact ok_rt (fun fx _ => rt_i hM_184 d_184_123 rfl) H
    · have H := H.2 (as_ite.mp (Decidable.not_not.mp hz3))
      refine ok_sg (pc' := 25) (ls' := [some (.inr (.inr (some 53))), some (.inl p), some (.inl q), none, none, none, none]) (st' := [.inl (-2)]) (m' := mu m 53 0 0) (fun fx hfx o hk => ?_) ?_
      · refine r_k (pc' := 25) (v := .inl (-2)) hM_184 d_184_23 rfl rfl ?_
        exact hk
      exact ok_rt (fun fx _ => rt_i hM_184 d_184_25 rfl) H
theorem u_43_0 {Q : List am_V → am_M → Prop} {m : am_M} {p : Int}  (H : (WFG (vw m 2)) ∧ (((0 ≤ am_s p ∧ am_s p < m 2 4) → (0 ≤ am_s p ∧ am_s p < (12 : Nat)) ∧ (((¬ am_s (m 3 ((am_s p).toNat)) = 0) → Q [.inl (-5)] m) ∧ ((am_s (m 3 ((am_s p).toNat)) = 0) → ((am_s (m 5 ((am_s p).toNat)) = 100) → (q_34 m 2 p 3 0 0 0) ∧ (Q [.inl (m 4 ((am_s p).toNat))] (w_34 m 2 p 3 0 0 0))) ∧ ((¬ (am_s (m 5 ((am_s p).toNat)) = 100)) → Q [.inl (-5)] m)))) ∧ ((¬ (0 ≤ am_s p ∧ am_s p < m 2 4)) → Q [.inl (-2)] m))) : ok 1 43 0 [some (.inr (.inr (some 0))), some (.inl p), none] [] m Q := by
  obtain ⟨hz1, H⟩ := H
  refine ok_sg (pc' := 8) (ls' := [some (.inr (.inr (some 0))), some (.inl p), none]) (st' := [.inl ((if 0 ≤ am_s p ∧ am_s p < m 2 4 then 1 else 0))]) (m' := m) (fun fx hfx o hk => ?_) ?_
  · refine r_ld (pc' := 1) hM_43 d_43_0 rfl rfl ?_
    refine r_gR (pc' := 4) (v := 2) hM_43 d_43_1 rfl (by decide +kernel) ?_
    refine r_ld (pc' := 5) hM_43 d_43_4 rfl rfl ?_
    refine r_cl (pc' := 8) (c := (40, 0)) (a := [.inr (.inr (some 2)), .inl p]) (q := []) hM_43 d_43_5 rfl (by decide +kernel) hM_40 rfl rfl rfl (Nat.le_of_ble_eq_true rfl) (Nat.le_of_ble_eq_true rfl) (Or.inr rfl) (n_40 (by decide) m p hz1) (Nat.le_of_ble_eq_true rfl) ?_
    show rn fx 1 (0, 0) 43 8 [some (.inr (.inr (some 0))), some (.inl p), none] [.inl ((if 0 ≤ am_s p ∧ am_s p < m 2 4 then 1 else 0))] (st0 m) o
    exact hk
  refine ok_if (pc' := 14) (pc2 := 11) hM_43 d_43_8 (by decide) rfl (fun hz2 => ?_) (fun hz2 => ?_)
  · have H := H.1 (as_iteN.mp hz2)
    obtain ⟨hz3, H⟩ := H
    refine ok_sg (pc' := 23) (ls' := [some (.inr (.inr (some 0))), some (.inl p), none]) (st' := [.inl (m 3 ((am_s p).toNat))]) (m' := m) (fun fx hfx o hk => ?_) ?_
    · refine r_ld (pc' := 15) hM_43 d_43_14 rfl rfl ?_
      refine r_gR (pc' := 18) (v := 2) hM_43 d_43_15 rfl (by decide +kernel) ?_
      refine r_gR (pc' := 21) (v := 3) hM_43 d_43_18 rfl (by decide +kernel) ?_
      refine r_ld (pc' := 22) hM_43 d_43_21 rfl rfl ?_
      refine r_ia (pc' := 23) (n := 12) hM_43 d_43_22 rfl rfl hz3 ?_
      exact hk
    refine ok_if (pc' := 40) (pc2 := 26) hM_43 d_43_23 (by decide) rfl (fun hz4 => ?_) (fun hz4 => ?_)
    · have H := H.1 hz4
      refine ok_sg (pc' := 42) (ls' := [some (.inr (.inr (some 0))), some (.inl p), none]) (st' := [.inl (-5)]) (m' := m) (fun fx hfx o hk => ?_) ?_
      · refine r_k (pc' := 42) (v := .inl (-5)) hM_43 d_43_40 rfl rfl ?_
        exact hk
      exact ok_rt (fun fx _ => rt_i hM_43 d_43_42 rfl) H
    · have H := H.2 (Decidable.not_not.mp hz4)
      refine ok_sg (pc' := 37) (ls' := [some (.inr (.inr (some 0))), some (.inl p), none]) (st' := [.inl 100, .inl (m 5 ((am_s p).toNat))]) (m' := m) (fun fx hfx o hk => ?_) ?_
      · refine r_ld (pc' := 27) hM_43 d_43_26 rfl rfl ?_
        refine r_gR (pc' := 30) (v := 2) hM_43 d_43_27 rfl (by decide +kernel) ?_
        refine r_gR (pc' := 33) (v := 5) hM_43 d_43_30 rfl (by decide +kernel) ?_
        refine r_ld (pc' := 34) hM_43 d_43_33 rfl rfl ?_
        refine r_ia (pc' := 35) (n := 12) hM_43 d_43_34 rfl rfl hz3 ?_
        refine r_k (pc' := 37) (v := .inl 100) hM_43 d_43_35 rfl rfl ?_
        exact hk
      refine ok_ic (pc' := 43) (pc2 := 40) hM_43 d_43_37 (by decide) rfl (fun hz5 => ?_) (fun hz5 => ?_)
      · have H := H.1 hz5
        obtain ⟨hz6, H⟩ := H
        refine ok_sg (pc' := 66) (ls' := [some (.inr (.inr (some 0))), some (.inl p), some (.inl (m 4 ((am_s p).toNat)))]) (st' := [.inl (m 4 ((am_s p).toNat))]) (m' := w_34 m 2 p 3 0 0 0) (fun fx hfx o hk => ?_) ?_
        · refine r_ld (pc' := 44) hM_43 d_43_43 rfl rfl ?_
          refine r_gR (pc' := 47) (v := 2) hM_43 d_43_44 rfl (by decide +kernel) ?_
          refine r_gR (pc' := 50) (v := 4) hM_43 d_43_47 rfl (by decide +kernel) ?_
          refine r_ld (pc' := 51) hM_43 d_43_50 rfl rfl ?_
          refine r_ia (pc' := 52) (n := 12) hM_43 d_43_51 rfl rfl hz3 ?_
          refine r_sto (pc' := 53) (ls' := [some (.inr (.inr (some 0))), some (.inl p), some (.inl (m 4 ((am_s p).toNat)))]) hM_43 d_43_52 rfl rfl ?_
          refine r_ld (pc' := 54) hM_43 d_43_53 rfl rfl ?_
          refine r_gR (pc' := 57) (v := 2) hM_43 d_43_54 rfl (by decide +kernel) ?_
          refine r_ld (pc' := 58) hM_43 d_43_57 rfl rfl ?_
          refine r_k (pc' := 59) (v := .inl 3) hM_43 d_43_58 rfl rfl ?_
          refine r_k (pc' := 60) (v := .inl 0) hM_43 d_43_59 rfl rfl ?_
          refine r_k (pc' := 61) (v := .inl 0) hM_43 d_43_60 rfl rfl ?_
          refine r_k (pc' := 62) (v := .inl 0) hM_43 d_43_61 rfl rfl ?_
          refine r_cl (pc' := 65) (c := (34, 0)) (a := [.inr (.inr (some 2)), .inl p, .inl 3, .inl 0, .inl 0, .inl 0]) (q := []) hM_43 d_43_62 rfl (by decide +kernel) hM_34 rfl rfl rfl (Nat.le_of_ble_eq_true rfl) (Nat.le_of_ble_eq_true rfl) (Or.inr rfl) (c_34 (by decide) m p 3 0 0 0 hz6) (Nat.le_of_ble_eq_true rfl) ?_
          show rn fx 1 (0, 0) 43 65 [some (.inr (.inr (some 0))), some (.inl p), some (.inl (m 4 ((am_s p).toNat)))] [] (st0 (w_34 m 2 p 3 0 0 0)) o
          refine r_ld (pc' := 66) hM_43 d_43_65 rfl rfl ?_
          exact hk
        exact ok_rt (fun fx _ => rt_i hM_43 d_43_66 rfl) H
      · have H := H.2 hz5
        refine ok_sg (pc' := 42) (ls' := [some (.inr (.inr (some 0))), some (.inl p), none]) (st' := [.inl (-5)]) (m' := m) (fun fx hfx o hk => ?_) ?_
        · refine r_k (pc' := 42) (v := .inl (-5)) hM_43 d_43_40 rfl rfl ?_
          exact hk
        exact ok_rt (fun fx _ => rt_i hM_43 d_43_42 rfl) H
  · have H := H.2 (as_ite.mp (Decidable.not_not.mp hz2))
    refine ok_sg (pc' := 13) (ls' := [some (.inr (.inr (some 0))), some (.inl p), none]) (st' := [.inl (-2)]) (m' := m) (fun fx hfx o hk => ?_) ?_
    · refine r_k (pc' := 13) (v := .inl (-2)) hM_43 d_43_11 rfl rfl ?_
      exact hk
    exact ok_rt (fun fx _ => rt_i hM_43 d_43_13 rfl) H
theorem u_186_0 {Q : List am_V → am_M → Prop} {m : am_M} {p : Int}  (H : (WFG ((mu m 53 0 0) 54)) ∧ (((0 ≤ am_t (am_s p) ∧ am_t (am_s p) < (mu m 53 0 0) 54 0) → ((¬ ((0 ≤ am_s p ∧ am_s p < (mu m 53 0 0) 54 0) ∧ nv ((mu m 53 0 0) 54) (8 + (am_s p).toNat) = am_s 0)) → Q [.inl (-5)] (mu m 53 0 0)) ∧ (((0 ≤ am_s p ∧ am_s p < (mu m 53 0 0) 54 0) ∧ nv ((mu m 53 0 0) 54) (8 + (am_s p).toNat) = am_s 0) → (0 ≤ am_s (32 + p) ∧ am_s (32 + p) < (168 : Nat)) ∧ (((100 ≤ am_s (m 54 ((am_s (32 + p)).toNat))) → (0 ≤ am_s (20 + p) ∧ am_s (20 + p) < (168 : Nat)) ∧ ((q_185 (mu m 53 0 0) p 3 0 0 0) ∧ (Q [.inl (m 54 ((am_s (20 + p)).toNat))] (w_185 (mu m 53 0 0) p 3 0 0 0)))) ∧ ((¬ (100 ≤ am_s (m 54 ((am_s (32 + p)).toNat)))) → Q [.inl (-5)] (mu m 53 0 0))))) ∧ ((¬ (0 ≤ am_t (am_s p) ∧ am_t (am_s p) < (mu m 53 0 0) 54 0)) → Q [.inl (-2)] (mu m 53 0 0)))) : ok 3 186 0 [some (.inr (.inr (some 53))), some (.inl p), none] [] m Q := by
  obtain ⟨hz1, H⟩ := H
  refine ok_sg (pc' := 11) (ls' := [some (.inr (.inr (some 53))), some (.inl p), none]) (st' := [.inl ((if 0 ≤ am_t (am_s p) ∧ am_t (am_s p) < (mu m 53 0 0) 54 0 then 1 else 0))]) (m' := mu m 53 0 0) (fun fx hfx o hk => ?_) ?_
  · refine r_ld (pc' := 1) hM_186 d_186_0 rfl rfl ?_
    refine r_k (pc' := 2) (v := .inl 0) hM_186 d_186_1 rfl rfl ?_
    refine r_pI (pc' := 5) (k0 := 0) hM_186 d_186_2 rfl (by decide +kernel) ?_
    refine r_ld (pc' := 6) hM_186 d_186_5 rfl rfl ?_
    refine r_ld (pc' := 7) hM_186 d_186_6 rfl rfl ?_
    refine r_stk (pc' := 8) (st' := [.inr (.inl (am_s p)), .inr (.inr (some 53))]) hM_186 d_186_7 rfl rfl ?_
    refine r_cl (pc' := 11) (c := (183, 0)) (a := [.inr (.inr (some 53)), .inr (.inl (am_s p))]) (q := []) hM_186 d_186_8 rfl (by decide +kernel) hM_183 rfl rfl rfl (Nat.le_of_ble_eq_true rfl) (Nat.le_of_ble_eq_true rfl) (Or.inr rfl) (n_183  (mu m 53 0 0) (am_s p) hz1) (Nat.le_of_ble_eq_true rfl) ?_
    show rn fx 3 (0, 0) 186 11 [some (.inr (.inr (some 53))), some (.inl p), none] [.inl ((if 0 ≤ am_t (am_s p) ∧ am_t (am_s p) < (mu m 53 0 0) 54 0 then 1 else 0))] (st0 (mu m 53 0 0)) o
    exact hk
  refine ok_if (pc' := 17) (pc2 := 14) hM_186 d_186_11 (by decide) rfl (fun hz2 => ?_) (fun hz2 => ?_)
  · have H := H.1 (as_iteN.mp hz2)
    refine ok_sg (pc' := 23) (ls' := [some (.inr (.inr (some 53))), some (.inl p), none]) (st' := [.inl ((if (0 ≤ am_s p ∧ am_s p < (mu m 53 0 0) 54 0) ∧ nv ((mu m 53 0 0) 54) (8 + (am_s p).toNat) = am_s 0 then 1 else 0))]) (m' := mu m 53 0 0) (fun fx hfx o hk => ?_) ?_
    · refine r_ld (pc' := 18) hM_186 d_186_17 rfl rfl ?_
      refine r_ld (pc' := 19) hM_186 d_186_18 rfl rfl ?_
      refine r_k (pc' := 20) (v := .inl 0) hM_186 d_186_19 rfl rfl ?_
      refine r_cl (pc' := 23) (c := (187, 0)) (a := [.inr (.inr (some 53)), .inl p, .inl 0]) (q := []) hM_186 d_186_20 rfl (by decide +kernel) hM_187 rfl rfl rfl (Nat.le_of_ble_eq_true rfl) (Nat.le_of_ble_eq_true rfl) (Or.inr rfl) (n_187  (mu m 53 0 0) p 0 hz1) (Nat.le_of_ble_eq_true rfl) ?_
      show rn fx 3 (0, 0) 186 23 [some (.inr (.inr (some 53))), some (.inl p), none] [.inl ((if (0 ≤ am_s p ∧ am_s p < (mu m 53 0 0) 54 0) ∧ nv ((mu m 53 0 0) 54) (8 + (am_s p).toNat) = am_s 0 then 1 else 0))] (st0 (mu m 53 0 0)) o
      exact hk
    refine ok_if (pc' := 40) (pc2 := 26) hM_186 d_186_23 (by decide) rfl (fun hz3 => ?_) (fun hz3 => ?_)
    · have H := H.1 (as_ite.mp hz3)
      refine ok_sg (pc' := 42) (ls' := [some (.inr (.inr (some 53))), some (.inl p), none]) (st' := [.inl (-5)]) (m' := mu m 53 0 0) (fun fx hfx o hk => ?_) ?_
      · refine r_k (pc' := 42) (v := .inl (-5)) hM_186 d_186_40 rfl rfl ?_
        exact hk
      exact ok_rt (fun fx _ => rt_i hM_186 d_186_42 rfl) H
    · have H := H.2 (as_iteN.mp hz3)
      obtain ⟨hz4, H⟩ := H
      refine ok_sg (pc' := 37) (ls' := [some (.inr (.inr (some 53))), some (.inl p), none]) (st' := [.inl 100, .inl (m 54 ((am_s (32 + p)).toNat))]) (m' := mu m 53 0 0) (fun fx hfx o hk => ?_) ?_
      · refine r_ld (pc' := 27) hM_186 d_186_26 rfl rfl ?_
        refine r_gR (pc' := 30) (v := 54) hM_186 d_186_27 rfl (by decide +kernel) ?_
        refine r_k (pc' := 32) (v := .inl 32) hM_186 d_186_30 rfl rfl ?_
        refine r_ld (pc' := 33) hM_186 d_186_32 rfl rfl ?_
        refine r_b (pc' := 34) (z := (32 + p)) hM_186 d_186_33 rfl rfl ?_
        refine r_iae (pc' := 35) (n := 168) (z := (m 54 ((am_s (32 + p)).toNat))) hM_186 d_186_34 rfl rfl hz4 (mu_r (by decide)) ?_
        refine r_k (pc' := 37) (v := .inl 100) hM_186 d_186_35 rfl rfl ?_
        exact hk
      refine ok_ic (pc' := 43) (pc2 := 40) hM_186 d_186_37 (by decide) rfl (fun hz5 => ?_) (fun hz5 => ?_)
      · have H := H.1 hz5
        obtain ⟨hz6, H⟩ := H
        obtain ⟨hz7, H⟩ := H
        refine ok_sg (pc' := 63) (ls' := [some (.inr (.inr (some 53))), some (.inl p), some (.inl (m 54 ((am_s (20 + p)).toNat)))]) (st' := [.inl (m 54 ((am_s (20 + p)).toNat))]) (m' := w_185 (mu m 53 0 0) p 3 0 0 0) (fun fx hfx o hk => ?_) ?_
        · refine r_ld (pc' := 44) hM_186 d_186_43 rfl rfl ?_
          refine r_gR (pc' := 47) (v := 54) hM_186 d_186_44 rfl (by decide +kernel) ?_
          refine r_k (pc' := 49) (v := .inl 20) hM_186 d_186_47 rfl rfl ?_
          refine r_ld (pc' := 50) hM_186 d_186_49 rfl rfl ?_
          refine r_b (pc' := 51) (z := (20 + p)) hM_186 d_186_50 rfl rfl ?_
          refine r_iae (pc' := 52) (n := 168) (z := (m 54 ((am_s (20 + p)).toNat))) hM_186 d_186_51 rfl rfl hz6 (mu_r (by decide)) ?_
          refine r_sto (pc' := 53) (ls' := [some (.inr (.inr (some 53))), some (.inl p), some (.inl (m 54 ((am_s (20 + p)).toNat)))]) hM_186 d_186_52 rfl rfl ?_
          refine r_ld (pc' := 54) hM_186 d_186_53 rfl rfl ?_
          refine r_ld (pc' := 55) hM_186 d_186_54 rfl rfl ?_
          refine r_k (pc' := 56) (v := .inl 3) hM_186 d_186_55 rfl rfl ?_
          refine r_k (pc' := 57) (v := .inl 0) hM_186 d_186_56 rfl rfl ?_
          refine r_k (pc' := 58) (v := .inl 0) hM_186 d_186_57 rfl rfl ?_
          refine r_k (pc' := 59) (v := .inl 0) hM_186 d_186_58 rfl rfl ?_
          refine r_cl (pc' := 62) (c := (185, 0)) (a := [.inr (.inr (some 53)), .inl p, .inl 3, .inl 0, .inl 0, .inl 0]) (q := []) hM_186 d_186_59 rfl (by decide +kernel) hM_185 rfl rfl rfl (Nat.le_of_ble_eq_true rfl) (Nat.le_of_ble_eq_true rfl) (Or.inr rfl) (c_185  (mu m 53 0 0) p 3 0 0 0 hz7) (Nat.le_of_ble_eq_true rfl) ?_
          show rn fx 3 (0, 0) 186 62 [some (.inr (.inr (some 53))), some (.inl p), some (.inl (m 54 ((am_s (20 + p)).toNat)))] [] (st0 (w_185 (mu m 53 0 0) p 3 0 0 0)) o
          refine r_ld (pc' := 63) hM_186 d_186_62 rfl rfl ?_
          exact hk
        exact ok_rt (fun fx _ => rt_i hM_186 d_186_63 rfl) H
      · have H := H.2 hz5
        refine ok_sg (pc' := 42) (ls' := [some (.inr (.inr (some 53))), some (.inl p), none]) (st' := [.inl (-5)]) (m' := mu m 53 0 0) (fun fx hfx o hk => ?_) ?_
        · refine r_k (pc' := 42) (v := .inl (-5)) hM_186 d_186_40 rfl rfl ?_
          exact hk
        exact ok_rt (fun fx _ => rt_i hM_186 d_186_42 rfl) H
  · have H := H.2 (as_ite.mp (Decidable.not_not.mp hz2))
    refine ok_sg (pc' := 16) (ls' := [some (.inr (.inr (some 53))), some (.inl p), none]) (st' := [.inl (-2)]) (m' := mu m 53 0 0) (fun fx hfx o hk => ?_) ?_
    · refine r_k (pc' := 16) (v := .inl (-2)) hM_186 d_186_14 rfl rfl ?_
      exact hk
    exact ok_rt (fun fx _ => rt_i hM_186 d_186_16 rfl) H
theorem u_45_0 {Q : List am_V → am_M → Prop} {m : am_M} {b : Int}  (H : ((WFG (vw m 2) ∧ m 2 11 ≤ 9999) ∧ am_t (am_s b) = (am_s b)) ∧ (((am_s ((rfs (nv (vw m 2)) (am_s b))) = 0) → (WFG (vw m 2) ∧ 0 ≤ b ∧ b < 4096) ∧ (Q [.inl (dyn b.toNat (nv (vw m 2)))] (pw m 2 b.toNat))) ∧ (((am_s ((rfs (nv (vw m 2)) (am_s b))) = 1) → Q [.inl (-3)] m) ∧ (((am_s ((rfs (nv (vw m 2)) (am_s b))) = 2) → Q [.inl (-4)] m) ∧ (((am_s ((rfs (nv (vw m 2)) (am_s b))) < 0 ∨ 2 < am_s ((rfs (nv (vw m 2)) (am_s b)))) → Q [.inl (-5)] m)))))) : ok 3 45 0 [some (.inr (.inr (some 0))), some (.inl b)] [] m Q := by
  obtain ⟨hz1, H⟩ := H
  refine ok_sg (pc' := 9) (ls' := [some (.inr (.inr (some 0))), some (.inl b)]) (st' := [.inl ((rfs (nv (vw m 2)) (am_s b)))]) (m' := m) (fun fx hfx o hk => ?_) ?_
  · refine r_ld (pc' := 1) hM_45 d_45_0 rfl rfl ?_
    refine r_gR (pc' := 4) (v := 2) hM_45 d_45_1 rfl (by decide +kernel) ?_
    refine r_ld (pc' := 5) hM_45 d_45_4 rfl rfl ?_
    refine r_stk (pc' := 6) (st' := [.inr (.inl (am_s b)), .inr (.inr (some 2))]) hM_45 d_45_5 rfl rfl ?_
    refine r_cl (pc' := 9) (c := (46, 0)) (a := [.inr (.inr (some 2)), .inr (.inl (am_s b))]) (q := []) hM_45 d_45_6 rfl (by decide +kernel) hM_46 rfl rfl rfl (Nat.le_of_ble_eq_true rfl) (Nat.le_of_ble_eq_true rfl) (Or.inr rfl) (n_46 (by decide) m (am_s b) hz1) (Nat.le_of_ble_eq_true rfl) ?_
    show rn fx 3 (0, 0) 45 9 [some (.inr (.inr (some 0))), some (.inl b)] [.inl ((rfs (nv (vw m 2)) (am_s b)))] (st0 m) o
    exact hk
  by_cases hc : am_s ((rfs (nv (vw m 2)) (am_s b))) = 0
  · have H := H.1 hc
    refine ok_sg (pc' := 36) (ls' := [some (.inr (.inr (some 0))), some (.inl b)]) (st' := []) (m' := m) (fun fx hfx o hk => ?_) ?_
    · refine r_tsI (pc' := 36) (off := 0) (t := 27) hM_45 d_45_9 (by rw [hc]; rfl) (by decide) rfl (by decide) ?_
      exact hk
    obtain ⟨hz2, H⟩ := H
    refine ok_sg (pc' := 44) (ls' := [some (.inr (.inr (some 0))), some (.inl b)]) (st' := [.inl (dyn b.toNat (nv (vw m 2)))]) (m' := pw m 2 b.toNat) (fun fx hfx o hk => ?_) ?_
    · refine r_ld (pc' := 37) hM_45 d_45_36 rfl rfl ?_
      refine r_gR (pc' := 40) (v := 2) hM_45 d_45_37 rfl (by decide +kernel) ?_
      refine r_ld (pc' := 41) hM_45 d_45_40 rfl rfl ?_
      refine r_cl (pc' := 44) (c := (50, 0)) (a := [.inr (.inr (some 2)), .inl b]) (q := []) hM_45 d_45_41 rfl (by decide +kernel) hM_50 rfl rfl rfl (Nat.le_of_ble_eq_true rfl) (Nat.le_of_ble_eq_true rfl) (Or.inr rfl) (n_50 (by decide) m b hz2) (Nat.le_of_ble_eq_true rfl) ?_
      show rn fx 3 (0, 0) 45 44 [some (.inr (.inr (some 0))), some (.inl b)] [.inl (dyn b.toNat (nv (vw m 2)))] (st0 (pw m 2 b.toNat)) o
      exact hk
    exact ok_rt (fun fx _ => rt_i hM_45 d_45_44 rfl) H
  replace H := H.2
  have hc0 := hc
  clear hc
  by_cases hc : am_s ((rfs (nv (vw m 2)) (am_s b))) = 1
  · have H := H.1 hc
    refine ok_sg (pc' := 45) (ls' := [some (.inr (.inr (some 0))), some (.inl b)]) (st' := []) (m' := m) (fun fx hfx o hk => ?_) ?_
    · refine r_tsI (pc' := 45) (off := 1) (t := 36) hM_45 d_45_9 (by rw [hc]; rfl) (by decide) rfl (by decide) ?_
      exact hk
    refine ok_sg (pc' := 47) (ls' := [some (.inr (.inr (some 0))), some (.inl b)]) (st' := [.inl (-3)]) (m' := m) (fun fx hfx o hk => ?_) ?_
    · refine r_k (pc' := 47) (v := .inl (-3)) hM_45 d_45_45 rfl rfl ?_
      exact hk
    exact ok_rt (fun fx _ => rt_i hM_45 d_45_47 rfl) H
  replace H := H.2
  have hc1 := hc
  clear hc
  by_cases hc : am_s ((rfs (nv (vw m 2)) (am_s b))) = 2
  · have H := H.1 hc
    refine ok_sg (pc' := 48) (ls' := [some (.inr (.inr (some 0))), some (.inl b)]) (st' := []) (m' := m) (fun fx hfx o hk => ?_) ?_
    · refine r_tsI (pc' := 48) (off := 2) (t := 39) hM_45 d_45_9 (by rw [hc]; rfl) (by decide) rfl (by decide) ?_
      exact hk
    refine ok_sg (pc' := 50) (ls' := [some (.inr (.inr (some 0))), some (.inl b)]) (st' := [.inl (-4)]) (m' := m) (fun fx hfx o hk => ?_) ?_
    · refine r_k (pc' := 50) (v := .inl (-4)) hM_45 d_45_48 rfl rfl ?_
      exact hk
    exact ok_rt (fun fx _ => rt_i hM_45 d_45_50 rfl) H
  replace H := H.2
  have hc2 := hc
  clear hc
  have ho : am_s ((rfs (nv (vw m 2)) (am_s b))) < 0 ∨ 2 < am_s ((rfs (nv (vw m 2)) (am_s b))) := by omega
  replace H := H ho
  refine ok_sg (pc' := 51) (ls' := [some (.inr (.inr (some 0))), some (.inl b)]) (st' := []) (m' := m) (fun fx hfx o hk => ?_) ?_
  · refine r_tsO (pc' := 51) hM_45 d_45_9 ho (by decide) ?_
    exact hk
  refine ok_sg (pc' := 53) (ls' := [some (.inr (.inr (some 0))), some (.inl b)]) (st' := [.inl (-5)]) (m' := m) (fun fx hfx o hk => ?_) ?_
  · refine r_k (pc' := 53) (v := .inl (-5)) hM_45 d_45_51 rfl rfl ?_
    exact hk
  exact ok_rt (fun fx _ => rt_i hM_45 d_45_53 rfl) H
theorem u_189_0 {Q : List am_V → am_M → Prop} {m : am_M} {b : Int}  (H : (WFG ((mu m 53 0 0) 54) ∧ am_t (am_s b) = (am_s b)) ∧ (((¬ am_s ((rfs (nv ((mu m 53 0 0) 54)) (am_s b))) = 0) → ∀ y1 : Int, y1 = (if ¬ am_s ((rfs (nv ((mu m 53 0 0) 54)) (am_s b))) = 1 then (if ¬ am_s ((rfs (nv ((mu m 53 0 0) 54)) (am_s b))) = am_s 2 then (-5) else (-4)) else (-3)) → Q [.inl y1] (mu m 53 0 0)) ∧ ((am_s ((rfs (nv ((mu m 53 0 0) 54)) (am_s b))) = 0) → (WFG ((mu m 53 0 0) 54) ∧ 0 ≤ b ∧ b < 4096) ∧ (Q [.inl (dyn b.toNat (nv ((mu m 53 0 0) 54)))] (gw (mu m 53 0 0) b.toNat))))) : ok 3 189 0 [some (.inr (.inr (some 53))), some (.inl b), none] [] m Q := by
  obtain ⟨hz1, H⟩ := H
  refine ok_sg (pc' := 13) (ls' := [some (.inr (.inr (some 53))), some (.inl b), some (.inl ((rfs (nv ((mu m 53 0 0) 54)) (am_s b))))]) (st' := [.inl ((rfs (nv ((mu m 53 0 0) 54)) (am_s b)))]) (m' := mu m 53 0 0) (fun fx hfx o hk => ?_) ?_
  · refine r_ld (pc' := 1) hM_189 d_189_0 rfl rfl ?_
    refine r_k (pc' := 2) (v := .inl 0) hM_189 d_189_1 rfl rfl ?_
    refine r_pI (pc' := 5) (k0 := 0) hM_189 d_189_2 rfl (by decide +kernel) ?_
    refine r_ld (pc' := 6) hM_189 d_189_5 rfl rfl ?_
    refine r_ld (pc' := 7) hM_189 d_189_6 rfl rfl ?_
    refine r_stk (pc' := 8) (st' := [.inr (.inl (am_s b)), .inr (.inr (some 53))]) hM_189 d_189_7 rfl rfl ?_
    refine r_cl (pc' := 11) (c := (190, 0)) (a := [.inr (.inr (some 53)), .inr (.inl (am_s b))]) (q := []) hM_189 d_189_8 rfl (by decide +kernel) hM_190 rfl rfl rfl (Nat.le_of_ble_eq_true rfl) (Nat.le_of_ble_eq_true rfl) (Or.inr rfl) (n_190  (mu m 53 0 0) (am_s b) hz1) (Nat.le_of_ble_eq_true rfl) ?_
    show rn fx 3 (0, 0) 189 11 [some (.inr (.inr (some 53))), some (.inl b), none] [.inl ((rfs (nv ((mu m 53 0 0) 54)) (am_s b)))] (st0 (mu m 53 0 0)) o
    refine r_sto (pc' := 12) (ls' := [some (.inr (.inr (some 53))), some (.inl b), some (.inl ((rfs (nv ((mu m 53 0 0) 54)) (am_s b))))]) hM_189 d_189_11 rfl rfl ?_
    refine r_ld (pc' := 13) hM_189 d_189_12 rfl rfl ?_
    exact hk
  refine ok_if (pc' := 24) (pc2 := 16) hM_189 d_189_13 (by decide) rfl (fun hz2 => ?_) (fun hz2 => ?_)
  · have H := H.1 hz2
    refine ok_sg (pc' := 26) (ls' := [some (.inr (.inr (some 53))), some (.inl b), some (.inl ((rfs (nv ((mu m 53 0 0) 54)) (am_s b))))]) (st' := [.inl 1, .inl ((rfs (nv ((mu m 53 0 0) 54)) (am_s b)))]) (m' := mu m 53 0 0) (fun fx hfx o hk => ?_) ?_
    · refine r_ld (pc' := 25) hM_189 d_189_24 rfl rfl ?_
      refine r_k (pc' := 26) (v := .inl 1) hM_189 d_189_25 rfl rfl ?_
      exact hk
    refine ok_sg (pc' := 46) (ls' := [some (.inr (.inr (some 53))), some (.inl b), some (.inl ((rfs (nv ((mu m 53 0 0) 54)) (am_s b))))]) (st' := [.inl (if ¬ am_s ((rfs (nv ((mu m 53 0 0) 54)) (am_s b))) = 1 then (if ¬ am_s ((rfs (nv ((mu m 53 0 0) 54)) (am_s b))) = am_s 2 then (-5) else (-4)) else (-3))]) (m' := mu m 53 0 0) (fun fx hfx o K => ?_) ?_
    · refine r_ic (pc' := 34) (pc2 := 29) hM_189 d_189_26 (by decide) rfl (fun hz3 => ?_) (fun hz3 => ?_)
      · have hz3 : ¬ am_s ((rfs (nv ((mu m 53 0 0) 54)) (am_s b))) = 1 := hz3
        rw [if_pos hz3] at K
        refine r_ld (pc' := 35) hM_189 d_189_34 rfl rfl ?_
        refine r_k (pc' := 36) (v := .inl 2) hM_189 d_189_35 rfl rfl ?_
        refine r_ic (pc' := 44) (pc2 := 39) hM_189 d_189_36 (by decide) rfl (fun hz4 => ?_) (fun hz4 => ?_)
        · have hz4 : ¬ am_s ((rfs (nv ((mu m 53 0 0) 54)) (am_s b))) = am_s 2 := hz4
          rw [if_pos hz4] at K
          refine r_k (pc' := 46) (v := .inl (-5)) hM_189 d_189_44 rfl rfl ?_
          exact K
        · have hz4 : ¬ (¬ am_s ((rfs (nv ((mu m 53 0 0) 54)) (am_s b))) = am_s 2) := hz4
          rw [if_neg hz4] at K
          refine r_k (pc' := 41) (v := .inl (-4)) hM_189 d_189_39 rfl rfl ?_
          refine r_go (pc' := 46) hM_189 d_189_41 (by decide) ?_
          exact K
      · have hz3 : ¬ (¬ am_s ((rfs (nv ((mu m 53 0 0) 54)) (am_s b))) = 1) := hz3
        rw [if_neg hz3] at K
        refine r_k (pc' := 31) (v := .inl (-3)) hM_189 d_189_29 rfl rfl ?_
        refine r_go (pc' := 46) hM_189 d_189_31 (by decide) ?_
        exact K
    have K : ∀ y1 : Int, y1 = (if ¬ am_s ((rfs (nv ((mu m 53 0 0) 54)) (am_s b))) = 1 then (if ¬ am_s ((rfs (nv ((mu m 53 0 0) 54)) (am_s b))) = am_s 2 then (-5) else (-4)) else (-3)) → ok 3 189 46 [some (.inr (.inr (some 53))), some (.inl b), some (.inl ((rfs (nv ((mu m 53 0 0) 54)) (am_s b))))] [.inl y1] (mu m 53 0 0) Q := by
      intro y1 hy1
      replace H := H y1 hy1
      exact ok_rt (fun fx _ => rt_i hM_189 d_189_46 rfl) H
    exact K _ rfl
  · have H := H.2 (Decidable.not_not.mp hz2)
    obtain ⟨hz5, H⟩ := H
    refine ok_sg (pc' := 46) (ls' := [some (.inr (.inr (some 53))), some (.inl b), some (.inl ((rfs (nv ((mu m 53 0 0) 54)) (am_s b))))]) (st' := [.inl (dyn b.toNat (nv ((mu m 53 0 0) 54)))]) (m' := gw (mu m 53 0 0) b.toNat) (fun fx hfx o hk => ?_) ?_
    · refine r_ld (pc' := 17) hM_189 d_189_16 rfl rfl ?_
      refine r_ld (pc' := 18) hM_189 d_189_17 rfl rfl ?_
      refine r_cl (pc' := 21) (c := (195, 0)) (a := [.inr (.inr (some 53)), .inl b]) (q := []) hM_189 d_189_18 rfl (by decide +kernel) hM_195 rfl rfl rfl (Nat.le_of_ble_eq_true rfl) (Nat.le_of_ble_eq_true rfl) (Or.inr rfl) (n_195  (mu m 53 0 0) b hz5) (Nat.le_of_ble_eq_true rfl) ?_
      show rn fx 3 (0, 0) 189 21 [some (.inr (.inr (some 53))), some (.inl b), some (.inl ((rfs (nv ((mu m 53 0 0) 54)) (am_s b))))] [.inl (dyn b.toNat (nv ((mu m 53 0 0) 54)))] (st0 (gw (mu m 53 0 0) b.toNat)) o
      refine r_go (pc' := 46) hM_189 d_189_21 (by decide) ?_
      exact hk
    exact ok_rt (fun fx _ => rt_i hM_189 d_189_46 rfl) H
theorem u_131_0 {Q : List am_V → am_M → Prop} {m : am_M} {p : Int}  (H : (WFG (vw m 2)) ∧ (((¬ (am_s ((if 0 ≤ am_s p ∧ am_s p < m 2 4 then 1 else 0)) = 0)) → (q_132 m 2 p)) ∧ (∀ y1 : Int, y1 = (if am_s ((if 0 ≤ am_s p ∧ am_s p < m 2 4 then 1 else 0)) = 0 then (-2) else (v_132 m 2 p)) → Q [.inl y1] m))) : ok 2 131 0 [some (.inr (.inr (some 0))), some (.inl p)] [] m Q := by
  obtain ⟨hz1, H⟩ := H
  obtain ⟨hz3, H⟩ := H
  refine ok_sg (pc' := 8) (ls' := [some (.inr (.inr (some 0))), some (.inl p)]) (st' := [.inl ((if 0 ≤ am_s p ∧ am_s p < m 2 4 then 1 else 0))]) (m' := m) (fun fx hfx o hk => ?_) ?_
  · refine r_ld (pc' := 1) hM_131 d_131_0 rfl rfl ?_
    refine r_gR (pc' := 4) (v := 2) hM_131 d_131_1 rfl (by decide +kernel) ?_
    refine r_ld (pc' := 5) hM_131 d_131_4 rfl rfl ?_
    refine r_cl (pc' := 8) (c := (40, 0)) (a := [.inr (.inr (some 2)), .inl p]) (q := []) hM_131 d_131_5 rfl (by decide +kernel) hM_40 rfl rfl rfl (Nat.le_of_ble_eq_true rfl) (Nat.le_of_ble_eq_true rfl) (Or.inr rfl) (n_40 (by decide) m p hz1) (Nat.le_of_ble_eq_true rfl) ?_
    show rn fx 2 (0, 0) 131 8 [some (.inr (.inr (some 0))), some (.inl p)] [.inl ((if 0 ≤ am_s p ∧ am_s p < m 2 4 then 1 else 0))] (st0 m) o
    exact hk
  refine ok_sg (pc' := 24) (ls' := [some (.inr (.inr (some 0))), some (.inl p)]) (st' := [.inl (if am_s ((if 0 ≤ am_s p ∧ am_s p < m 2 4 then 1 else 0)) = 0 then (-2) else (v_132 m 2 p))]) (m' := m) (fun fx hfx o K => ?_) ?_
  · refine r_if (pc' := 22) (pc2 := 11) hM_131 d_131_8 (by decide) rfl (fun hz2 => ?_) (fun hz2 => ?_)
    · have hz2 : am_s ((if 0 ≤ am_s p ∧ am_s p < m 2 4 then 1 else 0)) = 0 := hz2
      rw [if_pos hz2] at K
      refine r_k (pc' := 24) (v := .inl (-2)) hM_131 d_131_22 rfl rfl ?_
      exact K
    · have hz2 : ¬ (am_s ((if 0 ≤ am_s p ∧ am_s p < m 2 4 then 1 else 0)) = 0) := hz2
      rw [if_neg hz2] at K
      refine r_ld (pc' := 12) hM_131 d_131_11 rfl rfl ?_
      refine r_gR (pc' := 15) (v := 2) hM_131 d_131_12 rfl (by decide +kernel) ?_
      refine r_ld (pc' := 16) hM_131 d_131_15 rfl rfl ?_
      refine r_cl (pc' := 19) (c := (132, 0)) (a := [.inr (.inr (some 2)), .inl p]) (q := []) hM_131 d_131_16 rfl (by decide +kernel) hM_132 rfl rfl rfl (Nat.le_of_ble_eq_true rfl) (Nat.le_of_ble_eq_true rfl) (Or.inr rfl) (c_132 (by decide) m p (hz3 hz2)) (Nat.le_of_ble_eq_true rfl) ?_
      show rn fx 2 (0, 0) 131 19 [some (.inr (.inr (some 0))), some (.inl p)] [.inl (v_132 m 2 p)] (st0 m) o
      refine r_go (pc' := 24) hM_131 d_131_19 (by decide) ?_
      exact K
  have K : ∀ y1 : Int, y1 = (if am_s ((if 0 ≤ am_s p ∧ am_s p < m 2 4 then 1 else 0)) = 0 then (-2) else (v_132 m 2 p)) → ok 2 131 24 [some (.inr (.inr (some 0))), some (.inl p)] [.inl y1] m Q := by
    intro y1 hy1
    replace H := H y1 hy1
    exact ok_rt (fun fx _ => rt_i hM_131 d_131_24 rfl) H
  exact K _ rfl
theorem u_241_0 {Q : List am_V → am_M → Prop} {m : am_M} {p : Int}  (H : (WFG ((mu m 53 0 0) 54)) ∧ (((0 ≤ am_t (am_s p) ∧ am_t (am_s p) < (mu m 53 0 0) 54 0) → ((¬ (am_s ((if (0 ≤ am_s p ∧ am_s p < (mu m 53 0 0) 54 0) ∧ nv ((mu m 53 0 0) 54) (8 + (am_s p).toNat) = am_s 0 then 1 else 0)) = 0)) → (q_242 (mu m 53 0 0) p)) ∧ (∀ y1 : Int, y1 = (if am_s ((if (0 ≤ am_s p ∧ am_s p < (mu m 53 0 0) 54 0) ∧ nv ((mu m 53 0 0) 54) (8 + (am_s p).toNat) = am_s 0 then 1 else 0)) = 0 then (-1) else (v_242 (mu m 53 0 0) p)) → Q [.inl y1] (mu m 53 0 0))) ∧ ((¬ (0 ≤ am_t (am_s p) ∧ am_t (am_s p) < (mu m 53 0 0) 54 0)) → Q [.inl (-2)] (mu m 53 0 0)))) : ok 3 241 0 [some (.inr (.inr (some 53))), some (.inl p)] [] m Q := by
  obtain ⟨hz1, H⟩ := H
  refine ok_sg (pc' := 11) (ls' := [some (.inr (.inr (some 53))), some (.inl p)]) (st' := [.inl ((if 0 ≤ am_t (am_s p) ∧ am_t (am_s p) < (mu m 53 0 0) 54 0 then 1 else 0))]) (m' := mu m 53 0 0) (fun fx hfx o hk => ?_) ?_
  · refine r_ld (pc' := 1) hM_241 d_241_0 rfl rfl ?_
    refine r_k (pc' := 2) (v := .inl 0) hM_241 d_241_1 rfl rfl ?_
    refine r_pI (pc' := 5) (k0 := 0) hM_241 d_241_2 rfl (by decide +kernel) ?_
    refine r_ld (pc' := 6) hM_241 d_241_5 rfl rfl ?_
    refine r_ld (pc' := 7) hM_241 d_241_6 rfl rfl ?_
    refine r_stk (pc' := 8) (st' := [.inr (.inl (am_s p)), .inr (.inr (some 53))]) hM_241 d_241_7 rfl rfl ?_
    refine r_cl (pc' := 11) (c := (183, 0)) (a := [.inr (.inr (some 53)), .inr (.inl (am_s p))]) (q := []) hM_241 d_241_8 rfl (by decide +kernel) hM_183 rfl rfl rfl (Nat.le_of_ble_eq_true rfl) (Nat.le_of_ble_eq_true rfl) (Or.inr rfl) (n_183  (mu m 53 0 0) (am_s p) hz1) (Nat.le_of_ble_eq_true rfl) ?_
    show rn fx 3 (0, 0) 241 11 [some (.inr (.inr (some 53))), some (.inl p)] [.inl ((if 0 ≤ am_t (am_s p) ∧ am_t (am_s p) < (mu m 53 0 0) 54 0 then 1 else 0))] (st0 (mu m 53 0 0)) o
    exact hk
  refine ok_if (pc' := 17) (pc2 := 14) hM_241 d_241_11 (by decide) rfl (fun hz2 => ?_) (fun hz2 => ?_)
  · have H := H.1 (as_iteN.mp hz2)
    obtain ⟨hz4, H⟩ := H
    refine ok_sg (pc' := 23) (ls' := [some (.inr (.inr (some 53))), some (.inl p)]) (st' := [.inl ((if (0 ≤ am_s p ∧ am_s p < (mu m 53 0 0) 54 0) ∧ nv ((mu m 53 0 0) 54) (8 + (am_s p).toNat) = am_s 0 then 1 else 0))]) (m' := mu m 53 0 0) (fun fx hfx o hk => ?_) ?_
    · refine r_ld (pc' := 18) hM_241 d_241_17 rfl rfl ?_
      refine r_ld (pc' := 19) hM_241 d_241_18 rfl rfl ?_
      refine r_k (pc' := 20) (v := .inl 0) hM_241 d_241_19 rfl rfl ?_
      refine r_cl (pc' := 23) (c := (187, 0)) (a := [.inr (.inr (some 53)), .inl p, .inl 0]) (q := []) hM_241 d_241_20 rfl (by decide +kernel) hM_187 rfl rfl rfl (Nat.le_of_ble_eq_true rfl) (Nat.le_of_ble_eq_true rfl) (Or.inr rfl) (n_187  (mu m 53 0 0) p 0 hz1) (Nat.le_of_ble_eq_true rfl) ?_
      show rn fx 3 (0, 0) 241 23 [some (.inr (.inr (some 53))), some (.inl p)] [.inl ((if (0 ≤ am_s p ∧ am_s p < (mu m 53 0 0) 54 0) ∧ nv ((mu m 53 0 0) 54) (8 + (am_s p).toNat) = am_s 0 then 1 else 0))] (st0 (mu m 53 0 0)) o
      exact hk
    refine ok_sg (pc' := 35) (ls' := [some (.inr (.inr (some 53))), some (.inl p)]) (st' := [.inl (if am_s ((if (0 ≤ am_s p ∧ am_s p < (mu m 53 0 0) 54 0) ∧ nv ((mu m 53 0 0) 54) (8 + (am_s p).toNat) = am_s 0 then 1 else 0)) = 0 then (-1) else (v_242 (mu m 53 0 0) p))]) (m' := mu m 53 0 0) (fun fx hfx o K => ?_) ?_
    · refine r_if (pc' := 34) (pc2 := 26) hM_241 d_241_23 (by decide) rfl (fun hz3 => ?_) (fun hz3 => ?_)
      · have hz3 : am_s ((if (0 ≤ am_s p ∧ am_s p < (mu m 53 0 0) 54 0) ∧ nv ((mu m 53 0 0) 54) (8 + (am_s p).toNat) = am_s 0 then 1 else 0)) = 0 := hz3
        rw [if_pos hz3] at K
        refine r_k (pc' := 35) (v := .inl (-1)) hM_241 d_241_34 rfl rfl ?_
        exact K
      · have hz3 : ¬ (am_s ((if (0 ≤ am_s p ∧ am_s p < (mu m 53 0 0) 54 0) ∧ nv ((mu m 53 0 0) 54) (8 + (am_s p).toNat) = am_s 0 then 1 else 0)) = 0) := hz3
        rw [if_neg hz3] at K
        refine r_ld (pc' := 27) hM_241 d_241_26 rfl rfl ?_
        refine r_ld (pc' := 28) hM_241 d_241_27 rfl rfl ?_
        refine r_cl (pc' := 31) (c := (242, 0)) (a := [.inr (.inr (some 53)), .inl p]) (q := []) hM_241 d_241_28 rfl (by decide +kernel) hM_242 rfl rfl rfl (Nat.le_of_ble_eq_true rfl) (Nat.le_of_ble_eq_true rfl) (Or.inr rfl) (c_242  (mu m 53 0 0) p (hz4 hz3)) (Nat.le_of_ble_eq_true rfl) ?_
        show rn fx 3 (0, 0) 241 31 [some (.inr (.inr (some 53))), some (.inl p)] [.inl (v_242 (mu m 53 0 0) p)] (st0 (mu m 53 0 0)) o
        refine r_go (pc' := 35) hM_241 d_241_31 (by decide) ?_
        exact K
    have K : ∀ y1 : Int, y1 = (if am_s ((if (0 ≤ am_s p ∧ am_s p < (mu m 53 0 0) 54 0) ∧ nv ((mu m 53 0 0) 54) (8 + (am_s p).toNat) = am_s 0 then 1 else 0)) = 0 then (-1) else (v_242 (mu m 53 0 0) p)) → ok 3 241 35 [some (.inr (.inr (some 53))), some (.inl p)] [.inl y1] (mu m 53 0 0) Q := by
      intro y1 hy1
      replace H := H y1 hy1
      exact ok_rt (fun fx _ => rt_i hM_241 d_241_35 rfl) H
    exact K _ rfl
  · have H := H.2 (as_ite.mp (Decidable.not_not.mp hz2))
    refine ok_sg (pc' := 16) (ls' := [some (.inr (.inr (some 53))), some (.inl p)]) (st' := [.inl (-2)]) (m' := mu m 53 0 0) (fun fx hfx o hk => ?_) ?_
    · refine r_k (pc' := 16) (v := .inl (-2)) hM_241 d_241_14 rfl rfl ?_
      exact hk
    exact ok_rt (fun fx _ => rt_i hM_241 d_241_16 rfl) H
