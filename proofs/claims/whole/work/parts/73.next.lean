theorem u_95_36 {Q : List am_V → am_M → Prop} {m : am_M} {x : Int} {s : Int} {i : Int} {p : Int}  (H : ((am_s (m 2 4) ≤ am_s p) → ok 2 95 14 [some (.inr (.inr (some 34))), some (.inl x), some (.inl (v_88 m s)), some (.inl (i + 1)), none] [] m Q) ∧ ((¬ (am_s (m 2 4) ≤ am_s p)) → (0 ≤ am_s ((p * 8) + (v_87 m s p)) ∧ am_s ((p * 8) + (v_87 m s p)) < (96 : Nat)) ∧ (ok 2 95 36 [some (.inr (.inr (some 34))), some (.inl x), some (.inl s), some (.inl i), some (.inl (p + 1))] [] (mu m 37 ((am_s ((p * 8) + (v_87 m s p))).toNat) ((m 37 ((am_s ((p * 8) + (v_87 m s p))).toNat)) + 1)) Q))) : ok 2 95 36 [some (.inr (.inr (some 34))), some (.inl x), some (.inl s), some (.inl i), some (.inl p)] [] m Q := by
  refine ok_sg (pc' := 45) (ls' := [some (.inr (.inr (some 34))), some (.inl x), some (.inl s), some (.inl i), some (.inl p)]) (st' := [.inl (m 2 4), .inl p]) (m' := m) (fun fx hfx o hk => ?_) ?_
  · refine r_ld (pc' := 38) hM_95 d_95_36 rfl rfl ?_
    refine r_ld (pc' := 39) hM_95 d_95_38 rfl rfl ?_
    refine r_gR (pc' := 42) (v := 2) hM_95 d_95_39 rfl (by decide +kernel) ?_
    refine r_gI (pc' := 45) (k0 := 4) hM_95 d_95_42 rfl (by decide +kernel) ?_
    exact hk
  refine ok_ic (pc' := 75) (pc2 := 48) hM_95 d_95_45 (by decide) rfl (fun hz1 => ?_) (fun hz1 => ?_)
  · have H := H.1 hz1
    refine ok_sg (pc' := 14) (ls' := [some (.inr (.inr (some 34))), some (.inl x), some (.inl (v_88 m s)), some (.inl (i + 1)), none]) (st' := []) (m' := m) (fun fx hfx o hk => ?_) ?_
    · refine r_ld (pc' := 76) hM_95 d_95_75 rfl rfl ?_
      refine r_ld (pc' := 77) hM_95 d_95_76 rfl rfl ?_
      refine r_cl (pc' := 80) (c := (88, 0)) (a := [.inr (.inr (some 34)), .inl s]) (q := []) hM_95 d_95_77 rfl (by decide +kernel) hM_88 rfl rfl rfl (Nat.le_of_ble_eq_true rfl) (Nat.le_of_ble_eq_true rfl) (Or.inr rfl) (c_88  m s) (Nat.le_of_ble_eq_true rfl) ?_
      show rn fx 2 (0, 0) 95 80 [some (.inr (.inr (some 34))), some (.inl x), some (.inl s), some (.inl i), some (.inl p)] [.inl (v_88 m s)] (st0 m) o
      refine r_sto (pc' := 81) (ls' := [some (.inr (.inr (some 34))), some (.inl x), some (.inl (v_88 m s)), some (.inl i), some (.inl p)]) hM_95 d_95_80 rfl rfl ?_
      refine r_sto (pc' := 84) (ls' := [some (.inr (.inr (some 34))), some (.inl x), some (.inl (v_88 m s)), some (.inl (i + 1)), some (.inl p)]) hM_95 d_95_81 rfl rfl ?_
      refine r_go (pc' := 14) hM_95 d_95_84 (by decide) ?_
      refine rn_wk (a := [some (.inr (.inr (some 34))), some (.inl x), some (.inl (v_88 m s)), some (.inl (i + 1)), none]) (by simp only [am_le, and_self]) ?_
      exact hk
    exact H
  · have H := H.2 hz1
    obtain ⟨hz2, H⟩ := H
    refine ok_sg (pc' := 36) (ls' := [some (.inr (.inr (some 34))), some (.inl x), some (.inl s), some (.inl i), some (.inl (p + 1))]) (st' := []) (m' := mu m 37 ((am_s ((p * 8) + (v_87 m s p))).toNat) ((m 37 ((am_s ((p * 8) + (v_87 m s p))).toNat)) + 1)) (fun fx hfx o hk => ?_) ?_
    · refine r_ld (pc' := 49) hM_95 d_95_48 rfl rfl ?_
      refine r_gR (pc' := 52) (v := 37) hM_95 d_95_49 rfl (by decide +kernel) ?_
      refine r_ld (pc' := 54) hM_95 d_95_52 rfl rfl ?_
      refine r_k (pc' := 56) (v := .inl 8) hM_95 d_95_54 rfl rfl ?_
      refine r_b (pc' := 57) (z := (p * 8)) hM_95 d_95_56 rfl rfl ?_
      refine r_ld (pc' := 58) hM_95 d_95_57 rfl rfl ?_
      refine r_ld (pc' := 60) hM_95 d_95_58 rfl rfl ?_
      refine r_cl (pc' := 63) (c := (87, 2)) (a := [.inl s, .inl p]) (q := [.inl (p * 8), .inr (.inr (some 37))]) hM_95 d_95_60 rfl (by decide +kernel) hM_87 rfl rfl rfl (Nat.le_of_ble_eq_true rfl) (Nat.le_of_ble_eq_true rfl) (Or.inl rfl) (c_87  m s p) (Nat.le_of_ble_eq_true rfl) ?_
      show rn fx 2 (0, 0) 95 63 [some (.inr (.inr (some 34))), some (.inl x), some (.inl s), some (.inl i), some (.inl p)] [.inl (v_87 m s p), .inl (p * 8), .inr (.inr (some 37))] (st0 m) o
      refine r_b (pc' := 64) (z := ((p * 8) + (v_87 m s p))) hM_95 d_95_63 rfl rfl ?_
      refine r_stk (pc' := 65) (st' := [.inl ((p * 8) + (v_87 m s p)), .inr (.inr (some 37)), .inl ((p * 8) + (v_87 m s p)), .inr (.inr (some 37))]) hM_95 d_95_64 rfl rfl ?_
      refine r_ia (pc' := 66) (n := 96) hM_95 d_95_65 rfl rfl hz2 ?_
      refine r_k (pc' := 67) (v := .inl 1) hM_95 d_95_66 rfl rfl ?_
      refine r_b (pc' := 68) (z := ((m 37 ((am_s ((p * 8) + (v_87 m s p))).toNat)) + 1)) hM_95 d_95_67 rfl rfl ?_
      refine r_is (pc' := 69) (n := 96) hM_95 d_95_68 rfl rfl hz2 ?_
      refine r_sto (pc' := 72) (ls' := [some (.inr (.inr (some 34))), some (.inl x), some (.inl s), some (.inl i), some (.inl (p + 1))]) hM_95 d_95_69 rfl rfl ?_
      refine r_go (pc' := 36) hM_95 d_95_72 (by decide) ?_
      exact hk
    exact H
theorem u_95_14 {Q : List am_V → am_M → Prop} {m : am_M} {x : Int} {s : Int} {i : Int}  (H : ((am_s (m 34 10) ≤ am_s i) → Q [.inl x] m) ∧ ((¬ (am_s (m 34 10) ≤ am_s i)) → (ALW m ∧ 0 ≤ s ∧ s < 4096) ∧ (∀ (m1 : am_M), (m1 = m) → ((¬ (alb m s.toNat (m 2 4).toNat = true)) → ok 2 95 14 [some (.inr (.inr (some 34))), some (.inl x), some (.inl (v_88 m1 s)), some (.inl (i + 1)), none] [] m1 Q) ∧ ((alb m s.toNat (m 2 4).toNat = true) → ok 2 95 36 [some (.inr (.inr (some 34))), some (.inl (x + 1)), some (.inl s), some (.inl i), some (.inl 0)] [] m1 Q)))) : ok 2 95 14 [some (.inr (.inr (some 34))), some (.inl x), some (.inl s), some (.inl i), none] [] m Q := by
  refine ok_sg (pc' := 19) (ls' := [some (.inr (.inr (some 34))), some (.inl x), some (.inl s), some (.inl i), none]) (st' := [.inl (m 34 10), .inl i]) (m' := m) (fun fx hfx o hk => ?_) ?_
  · refine r_ld (pc' := 15) hM_95 d_95_14 rfl rfl ?_
    refine r_ld (pc' := 16) hM_95 d_95_15 rfl rfl ?_
    refine r_gI (pc' := 19) (k0 := 10) hM_95 d_95_16 rfl (by decide +kernel) ?_
    exact hk
  refine ok_ic (pc' := 87) (pc2 := 22) hM_95 d_95_19 (by decide) rfl (fun hz1 => ?_) (fun hz1 => ?_)
  · have H := H.1 hz1
    refine ok_sg (pc' := 88) (ls' := [some (.inr (.inr (some 34))), some (.inl x), some (.inl s), some (.inl i), none]) (st' := [.inl x]) (m' := m) (fun fx hfx o hk => ?_) ?_
    · refine r_ld (pc' := 88) hM_95 d_95_87 rfl rfl ?_
      exact hk
    exact ok_rt (fun fx _ => rt_i hM_95 d_95_88 rfl) H
  · have H := H.2 hz1
    obtain ⟨hz2, H⟩ := H
    refine ok_sg (pc' := 24) (ls' := [some (.inr (.inr (some 34))), some (.inl x), some (.inl s), some (.inl i), none]) (st' := [.inl s, .inr (.inr (some 34))]) (m' := m) (fun fx hfx o hk => ?_) ?_
    · refine r_ld (pc' := 23) hM_95 d_95_22 rfl rfl ?_
      refine r_ld (pc' := 24) hM_95 d_95_23 rfl rfl ?_
      exact hk
    refine ok_cl (pc' := 27) (c := (86, 0)) (a := [.inr (.inr (some 34)), .inl s]) (q := []) hM_95 d_95_24 rfl (by decide +kernel) hM_86 rfl rfl rfl (Nat.le_of_ble_eq_true rfl) (Nat.le_of_ble_eq_true rfl) (Or.inr rfl) (z_86  m s hz2) (Nat.le_of_ble_eq_true rfl) ?_
    rintro _ m1 ⟨rfl, hz3⟩
    replace H := H  m1 hz3
    show ok 2 95 27 [some (.inr (.inr (some 34))), some (.inl x), some (.inl s), some (.inl i), none] [.inl (if alb m s.toNat (m 2 4).toNat = true then 1 else 0)] m1 Q
    refine ok_if (pc' := 75) (pc2 := 30) hM_95 d_95_27 (by decide) rfl (fun hz4 => ?_) (fun hz4 => ?_)
    · have H := H.1 (as_ite.mp hz4)
      refine ok_sg (pc' := 14) (ls' := [some (.inr (.inr (some 34))), some (.inl x), some (.inl (v_88 m1 s)), some (.inl (i + 1)), none]) (st' := []) (m' := m1) (fun fx hfx o hk => ?_) ?_
      · refine r_ld (pc' := 76) hM_95 d_95_75 rfl rfl ?_
        refine r_ld (pc' := 77) hM_95 d_95_76 rfl rfl ?_
        refine r_cl (pc' := 80) (c := (88, 0)) (a := [.inr (.inr (some 34)), .inl s]) (q := []) hM_95 d_95_77 rfl (by decide +kernel) hM_88 rfl rfl rfl (Nat.le_of_ble_eq_true rfl) (Nat.le_of_ble_eq_true rfl) (Or.inr rfl) (c_88  m1 s) (Nat.le_of_ble_eq_true rfl) ?_
        show rn fx 2 (0, 0) 95 80 [some (.inr (.inr (some 34))), some (.inl x), some (.inl s), some (.inl i), none] [.inl (v_88 m1 s)] (st0 m1) o
        refine r_sto (pc' := 81) (ls' := [some (.inr (.inr (some 34))), some (.inl x), some (.inl (v_88 m1 s)), some (.inl i), none]) hM_95 d_95_80 rfl rfl ?_
        refine r_sto (pc' := 84) (ls' := [some (.inr (.inr (some 34))), some (.inl x), some (.inl (v_88 m1 s)), some (.inl (i + 1)), none]) hM_95 d_95_81 rfl rfl ?_
        refine r_go (pc' := 14) hM_95 d_95_84 (by decide) ?_
        exact hk
      exact H
    · have H := H.2 (as_iteN.mp hz4)
      refine ok_sg (pc' := 36) (ls' := [some (.inr (.inr (some 34))), some (.inl (x + 1)), some (.inl s), some (.inl i), some (.inl 0)]) (st' := []) (m' := m1) (fun fx hfx o hk => ?_) ?_
      · refine r_sto (pc' := 33) (ls' := [some (.inr (.inr (some 34))), some (.inl (x + 1)), some (.inl s), some (.inl i), none]) hM_95 d_95_30 rfl rfl ?_
        refine r_k (pc' := 34) (v := .inl 0) hM_95 d_95_33 rfl rfl ?_
        refine r_sto (pc' := 36) (ls' := [some (.inr (.inr (some 34))), some (.inl (x + 1)), some (.inl s), some (.inl i), some (.inl 0)]) hM_95 d_95_34 rfl rfl ?_
        exact hk
      exact H
theorem u_95_0 {Q : List am_V → am_M → Prop} {m : am_M}   (H : ok 2 95 14 [some (.inr (.inr (some 34))), some (.inl 0), some (.inl 0), some (.inl 0), none] [] (flm m 37 96 0) Q) : ok 2 95 0 [some (.inr (.inr (some 34))), none, none, none, none] [] m Q := by
  refine ok_sg (pc' := 14) (ls' := [some (.inr (.inr (some 34))), some (.inl 0), some (.inl 0), some (.inl 0), none]) (st' := []) (m' := flm m 37 96 0) (fun fx hfx o hk => ?_) ?_
  · refine r_ld (pc' := 1) hM_95 d_95_0 rfl rfl ?_
    refine r_gR (pc' := 4) (v := 37) hM_95 d_95_1 rfl (by decide +kernel) ?_
    refine r_k (pc' := 5) (v := .inl 0) hM_95 d_95_4 rfl rfl ?_
    refine r_cl (pc' := 8) (c := (96, 2)) (a := [.inr (.inr (some 37)), .inl 0]) (q := []) hM_95 d_95_5 rfl (by decide +kernel) hM_96 rfl rfl rfl (Nat.le_of_ble_eq_true rfl) (Nat.le_of_ble_eq_true rfl) (Or.inl rfl) (c_96_37 m 0) (Nat.le_of_ble_eq_true rfl) ?_
    show rn fx 2 (0, 0) 95 8 [some (.inr (.inr (some 34))), none, none, none, none] [] (st0 (flm m 37 96 0)) o
    refine r_k (pc' := 9) (v := .inl 0) hM_95 d_95_8 rfl rfl ?_
    refine r_sto (pc' := 10) (ls' := [some (.inr (.inr (some 34))), some (.inl 0), none, none, none]) hM_95 d_95_9 rfl rfl ?_
    refine r_k (pc' := 11) (v := .inl 0) hM_95 d_95_10 rfl rfl ?_
    refine r_sto (pc' := 12) (ls' := [some (.inr (.inr (some 34))), some (.inl 0), some (.inl 0), none, none]) hM_95 d_95_11 rfl rfl ?_
    refine r_k (pc' := 13) (v := .inl 0) hM_95 d_95_12 rfl rfl ?_
    refine r_sto (pc' := 14) (ls' := [some (.inr (.inr (some 34))), some (.inl 0), some (.inl 0), some (.inl 0), none]) hM_95 d_95_13 rfl rfl ?_
    exact hk
  exact H
theorem u_97_26 {Q : List am_V → am_M → Prop} {m : am_M} {p : Int} {x : Int} {a : Int} {y : Int} {b : Int}  (H : ((am_s ((p + 1) * 8) ≤ am_s b) → ok 1 97 7 [some (.inr (.inr (some 34))), some (.inl p), some (.inl (v_74 m x y)), some (.inl (a + 1)), none, none] [] m Q) ∧ ((¬ (am_s ((p + 1) * 8) ≤ am_s b)) → (0 ≤ am_s b ∧ am_s b < (96 : Nat)) ∧ ((0 ≤ am_s a ∧ am_s a < (96 : Nat)) ∧ (((¬ am_s (m 35 ((am_s b).toNat)) = am_s (m 35 ((am_s a).toNat))) → ok 1 97 26 [some (.inr (.inr (some 34))), some (.inl p), some (.inl x), some (.inl a), some (.inl y), some (.inl (b + 1))] [] m Q) ∧ ((am_s (m 35 ((am_s b).toNat)) = am_s (m 35 ((am_s a).toNat))) → ok 1 97 26 [some (.inr (.inr (some 34))), some (.inl p), some (.inl x), some (.inl a), some (.inl (y + (m 37 ((am_s b).toNat)))), some (.inl (b + 1))] [] m Q))))) : ok 1 97 26 [some (.inr (.inr (some 34))), some (.inl p), some (.inl x), some (.inl a), some (.inl y), some (.inl b)] [] m Q := by
  refine ok_sg (pc' := 34) (ls' := [some (.inr (.inr (some 34))), some (.inl p), some (.inl x), some (.inl a), some (.inl y), some (.inl b)]) (st' := [.inl ((p + 1) * 8), .inl b]) (m' := m) (fun fx hfx o hk => ?_) ?_
  · refine r_ld (pc' := 28) hM_97 d_97_26 rfl rfl ?_
    refine r_ld (pc' := 29) hM_97 d_97_28 rfl rfl ?_
    refine r_k (pc' := 30) (v := .inl 1) hM_97 d_97_29 rfl rfl ?_
    refine r_b (pc' := 31) (z := (p + 1)) hM_97 d_97_30 rfl rfl ?_
    refine r_k (pc' := 33) (v := .inl 8) hM_97 d_97_31 rfl rfl ?_
    refine r_b (pc' := 34) (z := ((p + 1) * 8)) hM_97 d_97_33 rfl rfl ?_
    exact hk
  refine ok_ic (pc' := 71) (pc2 := 37) hM_97 d_97_34 (by decide) rfl (fun hz1 => ?_) (fun hz1 => ?_)
  · have H := H.1 hz1
    refine ok_sg (pc' := 7) (ls' := [some (.inr (.inr (some 34))), some (.inl p), some (.inl (v_74 m x y)), some (.inl (a + 1)), none, none]) (st' := []) (m' := m) (fun fx hfx o hk => ?_) ?_
    · refine r_ld (pc' := 72) hM_97 d_97_71 rfl rfl ?_
      refine r_ld (pc' := 74) hM_97 d_97_72 rfl rfl ?_
      refine r_cl (pc' := 77) (c := (74, 2)) (a := [.inl x, .inl y]) (q := []) hM_97 d_97_74 rfl (by decide +kernel) hM_74 rfl rfl rfl (Nat.le_of_ble_eq_true rfl) (Nat.le_of_ble_eq_true rfl) (Or.inl rfl) (c_74  m x y) (Nat.le_of_ble_eq_true rfl) ?_
      show rn fx 1 (0, 0) 97 77 [some (.inr (.inr (some 34))), some (.inl p), some (.inl x), some (.inl a), some (.inl y), some (.inl b)] [.inl (v_74 m x y)] (st0 m) o
      refine r_sto (pc' := 78) (ls' := [some (.inr (.inr (some 34))), some (.inl p), some (.inl (v_74 m x y)), some (.inl a), some (.inl y), some (.inl b)]) hM_97 d_97_77 rfl rfl ?_
      refine r_sto (pc' := 81) (ls' := [some (.inr (.inr (some 34))), some (.inl p), some (.inl (v_74 m x y)), some (.inl (a + 1)), some (.inl y), some (.inl b)]) hM_97 d_97_78 rfl rfl ?_
      refine r_go (pc' := 7) hM_97 d_97_81 (by decide) ?_
      refine rn_wk (a := [some (.inr (.inr (some 34))), some (.inl p), some (.inl (v_74 m x y)), some (.inl (a + 1)), none, none]) (by simp only [am_le, and_self]) ?_
      exact hk
    exact H
  · have H := H.2 hz1
    obtain ⟨hz2, H⟩ := H
    obtain ⟨hz3, H⟩ := H
    refine ok_sg (pc' := 50) (ls' := [some (.inr (.inr (some 34))), some (.inl p), some (.inl x), some (.inl a), some (.inl y), some (.inl b)]) (st' := [.inl (m 35 ((am_s a).toNat)), .inl (m 35 ((am_s b).toNat))]) (m' := m) (fun fx hfx o hk => ?_) ?_
    · refine r_ld (pc' := 38) hM_97 d_97_37 rfl rfl ?_
      refine r_gR (pc' := 41) (v := 35) hM_97 d_97_38 rfl (by decide +kernel) ?_
      refine r_ld (pc' := 43) hM_97 d_97_41 rfl rfl ?_
      refine r_ia (pc' := 44) (n := 96) hM_97 d_97_43 rfl rfl hz2 ?_
      refine r_ld (pc' := 45) hM_97 d_97_44 rfl rfl ?_
      refine r_gR (pc' := 48) (v := 35) hM_97 d_97_45 rfl (by decide +kernel) ?_
      refine r_ld (pc' := 49) hM_97 d_97_48 rfl rfl ?_
      refine r_ia (pc' := 50) (n := 96) hM_97 d_97_49 rfl rfl hz3 ?_
      exact hk
    refine ok_ic (pc' := 65) (pc2 := 53) hM_97 d_97_50 (by decide) rfl (fun hz4 => ?_) (fun hz4 => ?_)
    · have H := H.1 hz4
      refine ok_sg (pc' := 26) (ls' := [some (.inr (.inr (some 34))), some (.inl p), some (.inl x), some (.inl a), some (.inl y), some (.inl (b + 1))]) (st' := []) (m' := m) (fun fx hfx o hk => ?_) ?_
      · refine r_sto (pc' := 68) (ls' := [some (.inr (.inr (some 34))), some (.inl p), some (.inl x), some (.inl a), some (.inl y), some (.inl (b + 1))]) hM_97 d_97_65 rfl rfl ?_
        refine r_go (pc' := 26) hM_97 d_97_68 (by decide) ?_
        exact hk
      exact H
    · have H := H.2 (Decidable.not_not.mp hz4)
      refine ok_sg (pc' := 26) (ls' := [some (.inr (.inr (some 34))), some (.inl p), some (.inl x), some (.inl a), some (.inl (y + (m 37 ((am_s b).toNat)))), some (.inl (b + 1))]) (st' := []) (m' := m) (fun fx hfx o hk => ?_) ?_
      · refine r_ld (pc' := 55) hM_97 d_97_53 rfl rfl ?_
        refine r_ld (pc' := 56) hM_97 d_97_55 rfl rfl ?_
        refine r_gR (pc' := 59) (v := 37) hM_97 d_97_56 rfl (by decide +kernel) ?_
        refine r_ld (pc' := 61) hM_97 d_97_59 rfl rfl ?_
        refine r_ia (pc' := 62) (n := 96) hM_97 d_97_61 rfl rfl hz2 ?_
        refine r_b (pc' := 63) (z := (y + (m 37 ((am_s b).toNat)))) hM_97 d_97_62 rfl rfl ?_
        refine r_sto (pc' := 65) (ls' := [some (.inr (.inr (some 34))), some (.inl p), some (.inl x), some (.inl a), some (.inl (y + (m 37 ((am_s b).toNat)))), some (.inl b)]) hM_97 d_97_63 rfl rfl ?_
        refine r_sto (pc' := 68) (ls' := [some (.inr (.inr (some 34))), some (.inl p), some (.inl x), some (.inl a), some (.inl (y + (m 37 ((am_s b).toNat)))), some (.inl (b + 1))]) hM_97 d_97_65 rfl rfl ?_
        refine r_go (pc' := 26) hM_97 d_97_68 (by decide) ?_
        exact hk
      exact H
theorem u_97_7 {Q : List am_V → am_M → Prop} {m : am_M} {p : Int} {x : Int} {a : Int}  (H : ((am_s ((p + 1) * 8) ≤ am_s a) → Q [.inl x] m) ∧ ((¬ (am_s ((p + 1) * 8) ≤ am_s a)) → ok 1 97 26 [some (.inr (.inr (some 34))), some (.inl p), some (.inl x), some (.inl a), some (.inl 0), some (.inl (p * 8))] [] m Q)) : ok 1 97 7 [some (.inr (.inr (some 34))), some (.inl p), some (.inl x), some (.inl a), none, none] [] m Q := by
  refine ok_sg (pc' := 14) (ls' := [some (.inr (.inr (some 34))), some (.inl p), some (.inl x), some (.inl a), none, none]) (st' := [.inl ((p + 1) * 8), .inl a]) (m' := m) (fun fx hfx o hk => ?_) ?_
  · refine r_ld (pc' := 8) hM_97 d_97_7 rfl rfl ?_
    refine r_ld (pc' := 9) hM_97 d_97_8 rfl rfl ?_
    refine r_k (pc' := 10) (v := .inl 1) hM_97 d_97_9 rfl rfl ?_
    refine r_b (pc' := 11) (z := (p + 1)) hM_97 d_97_10 rfl rfl ?_
    refine r_k (pc' := 13) (v := .inl 8) hM_97 d_97_11 rfl rfl ?_
    refine r_b (pc' := 14) (z := ((p + 1) * 8)) hM_97 d_97_13 rfl rfl ?_
    exact hk
  refine ok_ic (pc' := 84) (pc2 := 17) hM_97 d_97_14 (by decide) rfl (fun hz1 => ?_) (fun hz1 => ?_)
  · have H := H.1 hz1
    refine ok_sg (pc' := 85) (ls' := [some (.inr (.inr (some 34))), some (.inl p), some (.inl x), some (.inl a), none, none]) (st' := [.inl x]) (m' := m) (fun fx hfx o hk => ?_) ?_
    · refine r_ld (pc' := 85) hM_97 d_97_84 rfl rfl ?_
      exact hk
    exact ok_rt (fun fx _ => rt_i hM_97 d_97_85 rfl) H
  · have H := H.2 hz1
    refine ok_sg (pc' := 26) (ls' := [some (.inr (.inr (some 34))), some (.inl p), some (.inl x), some (.inl a), some (.inl 0), some (.inl (p * 8))]) (st' := []) (m' := m) (fun fx hfx o hk => ?_) ?_
    · refine r_k (pc' := 18) (v := .inl 0) hM_97 d_97_17 rfl rfl ?_
      refine r_sto (pc' := 20) (ls' := [some (.inr (.inr (some 34))), some (.inl p), some (.inl x), some (.inl a), some (.inl 0), none]) hM_97 d_97_18 rfl rfl ?_
      refine r_ld (pc' := 21) hM_97 d_97_20 rfl rfl ?_
      refine r_k (pc' := 23) (v := .inl 8) hM_97 d_97_21 rfl rfl ?_
      refine r_b (pc' := 24) (z := (p * 8)) hM_97 d_97_23 rfl rfl ?_
      refine r_sto (pc' := 26) (ls' := [some (.inr (.inr (some 34))), some (.inl p), some (.inl x), some (.inl a), some (.inl 0), some (.inl (p * 8))]) hM_97 d_97_24 rfl rfl ?_
      exact hk
    exact H
theorem u_97_0 {Q : List am_V → am_M → Prop} {m : am_M} {p : Int}  (H : ok 1 97 7 [some (.inr (.inr (some 34))), some (.inl p), some (.inl 0), some (.inl (p * 8)), none, none] [] m Q) : ok 1 97 0 [some (.inr (.inr (some 34))), some (.inl p), none, none, none, none] [] m Q := by
  refine ok_sg (pc' := 7) (ls' := [some (.inr (.inr (some 34))), some (.inl p), some (.inl 0), some (.inl (p * 8)), none, none]) (st' := []) (m' := m) (fun fx hfx o hk => ?_) ?_
  · refine r_k (pc' := 1) (v := .inl 0) hM_97 d_97_0 rfl rfl ?_
    refine r_sto (pc' := 2) (ls' := [some (.inr (.inr (some 34))), some (.inl p), some (.inl 0), none, none, none]) hM_97 d_97_1 rfl rfl ?_
    refine r_ld (pc' := 3) hM_97 d_97_2 rfl rfl ?_
    refine r_k (pc' := 5) (v := .inl 8) hM_97 d_97_3 rfl rfl ?_
    refine r_b (pc' := 6) (z := (p * 8)) hM_97 d_97_5 rfl rfl ?_
    refine r_sto (pc' := 7) (ls' := [some (.inr (.inr (some 34))), some (.inl p), some (.inl 0), some (.inl (p * 8)), none, none]) hM_97 d_97_6 rfl rfl ?_
    exact hk
  exact H
theorem u_219_26 {Q : List am_V → am_M → Prop} {m : am_M} {p : Int} {w : Int} {k : Int}  (H : ((am_s (m 53 19) ≤ am_s k) → Q [.inl w] m) ∧ ((¬ (am_s (m 53 19) ≤ am_s k)) → (0 ≤ am_s k ∧ am_s k < (4096 : Nat)) ∧ ((WFG (m 54) ∧ (0 ≤ p ∧ p < m 54 0) ∧ 0 ≤ (m 59 ((am_s k).toNat)) ∧ (m 59 ((am_s k).toNat)) < 2147483648) ∧ ((0 ≤ am_s (((hrd (nv (m 54)) p.toNat (m 59 ((am_s k).toNat)).toNat)) + 100) ∧ am_s (((hrd (nv (m 54)) p.toNat (m 59 ((am_s k).toNat)).toNat)) + 100) < (256 : Nat)) ∧ (∀ y1 : Int, y1 = (if am_s ((m 60 ((am_s (((hrd (nv (m 54)) p.toNat (m 59 ((am_s k).toNat)).toNat)) + 100)).toNat)) + 1) ≤ am_s w then w else ((m 60 ((am_s (((hrd (nv (m 54)) p.toNat (m 59 ((am_s k).toNat)).toNat)) + 100)).toNat)) + 1)) → ok 3 219 26 [some (.inr (.inr (some 53))), some (.inl p), some (.inl y1), some (.inl (k + 1)), none] [] (mu m 60 ((am_s (((hrd (nv (m 54)) p.toNat (m 59 ((am_s k).toNat)).toNat)) + 100)).toNat) ((m 60 ((am_s (((hrd (nv (m 54)) p.toNat (m 59 ((am_s k).toNat)).toNat)) + 100)).toNat)) + 1)) Q))))) : ok 3 219 26 [some (.inr (.inr (some 53))), some (.inl p), some (.inl w), some (.inl k), none] [] m Q := by
  refine ok_sg (pc' := 31) (ls' := [some (.inr (.inr (some 53))), some (.inl p), some (.inl w), some (.inl k), none]) (st' := [.inl (m 53 19), .inl k]) (m' := m) (fun fx hfx o hk => ?_) ?_
  · refine r_ld (pc' := 27) hM_219 d_219_26 rfl rfl ?_
    refine r_ld (pc' := 28) hM_219 d_219_27 rfl rfl ?_
    refine r_gI (pc' := 31) (k0 := 19) hM_219 d_219_28 rfl (by decide +kernel) ?_
    exact hk
  refine ok_ic (pc' := 90) (pc2 := 34) hM_219 d_219_31 (by decide) rfl (fun hz1 => ?_) (fun hz1 => ?_)
  · have H := H.1 hz1
    refine ok_sg (pc' := 91) (ls' := [some (.inr (.inr (some 53))), some (.inl p), some (.inl w), some (.inl k), none]) (st' := [.inl w]) (m' := m) (fun fx hfx o hk => ?_) ?_
    · refine r_ld (pc' := 91) hM_219 d_219_90 rfl rfl ?_
      exact hk
    exact ok_rt (fun fx _ => rt_i hM_219 d_219_91 rfl) H
  · have H := H.2 hz1
    obtain ⟨hz2, H⟩ := H
    obtain ⟨hz3, H⟩ := H
    obtain ⟨hz4, H⟩ := H
    refine ok_sg (pc' := 69) (ls' := [some (.inr (.inr (some 53))), some (.inl p), some (.inl w), some (.inl k), some (.inl (((hrd (nv (m 54)) p.toNat (m 59 ((am_s k).toNat)).toNat)) + 100))]) (st' := [.inl w, .inl ((m 60 ((am_s (((hrd (nv (m 54)) p.toNat (m 59 ((am_s k).toNat)).toNat)) + 100)).toNat)) + 1)]) (m' := mu m 60 ((am_s (((hrd (nv (m 54)) p.toNat (m 59 ((am_s k).toNat)).toNat)) + 100)).toNat) ((m 60 ((am_s (((hrd (nv (m 54)) p.toNat (m 59 ((am_s k).toNat)).toNat)) + 100)).toNat)) + 1)) (fun fx hfx o hk => ?_) ?_
    · refine r_ld (pc' := 35) hM_219 d_219_34 rfl rfl ?_
      refine r_ld (pc' := 36) hM_219 d_219_35 rfl rfl ?_
      refine r_ld (pc' := 37) hM_219 d_219_36 rfl rfl ?_
      refine r_gR (pc' := 40) (v := 59) hM_219 d_219_37 rfl (by decide +kernel) ?_
      refine r_ld (pc' := 41) hM_219 d_219_40 rfl rfl ?_
      refine r_ia (pc' := 42) (n := 4096) hM_219 d_219_41 rfl rfl hz2 ?_
      refine r_cl (pc' := 45) (c := (210, 0)) (a := [.inr (.inr (some 53)), .inl p, .inl (m 59 ((am_s k).toNat))]) (q := []) hM_219 d_219_42 rfl (by decide +kernel) hM_210 rfl rfl rfl (Nat.le_of_ble_eq_true rfl) (Nat.le_of_ble_eq_true rfl) (Or.inr rfl) (n_210  m p (m 59 ((am_s k).toNat)) hz3) (Nat.le_of_ble_eq_true rfl) ?_
      show rn fx 3 (0, 0) 219 45 [some (.inr (.inr (some 53))), some (.inl p), some (.inl w), some (.inl k), none] [.inl ((hrd (nv (m 54)) p.toNat (m 59 ((am_s k).toNat)).toNat))] (st0 m) o
      refine r_k (pc' := 47) (v := .inl 100) hM_219 d_219_45 rfl rfl ?_
      refine r_b (pc' := 48) (z := (((hrd (nv (m 54)) p.toNat (m 59 ((am_s k).toNat)).toNat)) + 100)) hM_219 d_219_47 rfl rfl ?_
      refine r_sto (pc' := 50) (ls' := [some (.inr (.inr (some 53))), some (.inl p), some (.inl w), some (.inl k), some (.inl (((hrd (nv (m 54)) p.toNat (m 59 ((am_s k).toNat)).toNat)) + 100))]) hM_219 d_219_48 rfl rfl ?_
      refine r_ld (pc' := 51) hM_219 d_219_50 rfl rfl ?_
      refine r_gR (pc' := 54) (v := 60) hM_219 d_219_51 rfl (by decide +kernel) ?_
      refine r_ld (pc' := 56) hM_219 d_219_54 rfl rfl ?_
      refine r_stk (pc' := 57) (st' := [.inl (((hrd (nv (m 54)) p.toNat (m 59 ((am_s k).toNat)).toNat)) + 100), .inr (.inr (some 60)), .inl (((hrd (nv (m 54)) p.toNat (m 59 ((am_s k).toNat)).toNat)) + 100), .inr (.inr (some 60))]) hM_219 d_219_56 rfl rfl ?_
      refine r_ia (pc' := 58) (n := 256) hM_219 d_219_57 rfl rfl hz4 ?_
      refine r_k (pc' := 59) (v := .inl 1) hM_219 d_219_58 rfl rfl ?_
      refine r_b (pc' := 60) (z := ((m 60 ((am_s (((hrd (nv (m 54)) p.toNat (m 59 ((am_s k).toNat)).toNat)) + 100)).toNat)) + 1)) hM_219 d_219_59 rfl rfl ?_
      refine r_is (pc' := 61) (n := 256) hM_219 d_219_60 rfl rfl hz4 ?_
      refine r_ld (pc' := 62) hM_219 d_219_61 rfl rfl ?_
      refine r_gR (pc' := 65) (v := 60) hM_219 d_219_62 rfl (by decide +kernel) ?_
      refine r_ld (pc' := 67) hM_219 d_219_65 rfl rfl ?_
      refine r_iae (pc' := 68) (n := 256) (z := ((m 60 ((am_s (((hrd (nv (m 54)) p.toNat (m 59 ((am_s k).toNat)).toNat)) + 100)).toNat)) + 1)) hM_219 d_219_67 rfl rfl hz4 (mu_same) ?_
      refine r_ld (pc' := 69) hM_219 d_219_68 rfl rfl ?_
      exact hk
    refine ok_sg (pc' := 83) (ls' := [some (.inr (.inr (some 53))), some (.inl p), some (.inl w), some (.inl k), some (.inl (((hrd (nv (m 54)) p.toNat (m 59 ((am_s k).toNat)).toNat)) + 100))]) (st' := [.inl (if am_s ((m 60 ((am_s (((hrd (nv (m 54)) p.toNat (m 59 ((am_s k).toNat)).toNat)) + 100)).toNat)) + 1) ≤ am_s w then w else ((m 60 ((am_s (((hrd (nv (m 54)) p.toNat (m 59 ((am_s k).toNat)).toNat)) + 100)).toNat)) + 1))]) (m' := mu m 60 ((am_s (((hrd (nv (m 54)) p.toNat (m 59 ((am_s k).toNat)).toNat)) + 100)).toNat) ((m 60 ((am_s (((hrd (nv (m 54)) p.toNat (m 59 ((am_s k).toNat)).toNat)) + 100)).toNat)) + 1)) (fun fx hfx o K => ?_) ?_
    · refine r_ic (pc' := 82) (pc2 := 72) hM_219 d_219_69 (by decide) rfl (fun hz5 => ?_) (fun hz5 => ?_)
      · have hz5 : am_s ((m 60 ((am_s (((hrd (nv (m 54)) p.toNat (m 59 ((am_s k).toNat)).toNat)) + 100)).toNat)) + 1) ≤ am_s w := hz5
        rw [if_pos hz5] at K
        refine r_ld (pc' := 83) hM_219 d_219_82 rfl rfl ?_
        exact K
      · have hz5 : ¬ (am_s ((m 60 ((am_s (((hrd (nv (m 54)) p.toNat (m 59 ((am_s k).toNat)).toNat)) + 100)).toNat)) + 1) ≤ am_s w) := hz5
        rw [if_neg hz5] at K
        refine r_ld (pc' := 73) hM_219 d_219_72 rfl rfl ?_
        refine r_gR (pc' := 76) (v := 60) hM_219 d_219_73 rfl (by decide +kernel) ?_
        refine r_ld (pc' := 78) hM_219 d_219_76 rfl rfl ?_
        refine r_iae (pc' := 79) (n := 256) (z := ((m 60 ((am_s (((hrd (nv (m 54)) p.toNat (m 59 ((am_s k).toNat)).toNat)) + 100)).toNat)) + 1)) hM_219 d_219_78 rfl rfl hz4 (mu_same) ?_
        refine r_go (pc' := 83) hM_219 d_219_79 (by decide) ?_
        exact K
    have K : ∀ y1 : Int, y1 = (if am_s ((m 60 ((am_s (((hrd (nv (m 54)) p.toNat (m 59 ((am_s k).toNat)).toNat)) + 100)).toNat)) + 1) ≤ am_s w then w else ((m 60 ((am_s (((hrd (nv (m 54)) p.toNat (m 59 ((am_s k).toNat)).toNat)) + 100)).toNat)) + 1)) → ok 3 219 83 [some (.inr (.inr (some 53))), some (.inl p), some (.inl w), some (.inl k), some (.inl (((hrd (nv (m 54)) p.toNat (m 59 ((am_s k).toNat)).toNat)) + 100))] [.inl y1] (mu m 60 ((am_s (((hrd (nv (m 54)) p.toNat (m 59 ((am_s k).toNat)).toNat)) + 100)).toNat) ((m 60 ((am_s (((hrd (nv (m 54)) p.toNat (m 59 ((am_s k).toNat)).toNat)) + 100)).toNat)) + 1)) Q := by
      intro y1 hy1
      replace H := H y1 hy1
      refine ok_sg (pc' := 26) (ls' := [some (.inr (.inr (some 53))), some (.inl p), some (.inl y1), some (.inl (k + 1)), none]) (st' := []) (m' := mu m 60 ((am_s (((hrd (nv (m 54)) p.toNat (m 59 ((am_s k).toNat)).toNat)) + 100)).toNat) ((m 60 ((am_s (((hrd (nv (m 54)) p.toNat (m 59 ((am_s k).toNat)).toNat)) + 100)).toNat)) + 1)) (fun fx hfx o hk => ?_) ?_
      · refine r_sto (pc' := 84) (ls' := [some (.inr (.inr (some 53))), some (.inl p), some (.inl y1), some (.inl k), some (.inl (((hrd (nv (m 54)) p.toNat (m 59 ((am_s k).toNat)).toNat)) + 100))]) hM_219 d_219_83 rfl rfl ?_
        refine r_sto (pc' := 87) (ls' := [some (.inr (.inr (some 53))), some (.inl p), some (.inl y1), some (.inl (k + 1)), some (.inl (((hrd (nv (m 54)) p.toNat (m 59 ((am_s k).toNat)).toNat)) + 100))]) hM_219 d_219_84 rfl rfl ?_
        refine r_go (pc' := 26) hM_219 d_219_87 (by decide) ?_
        refine rn_wk (a := [some (.inr (.inr (some 53))), some (.inl p), some (.inl y1), some (.inl (k + 1)), none]) (by simp only [am_le, and_self]) ?_
        exact hk
      exact H
    exact K _ rfl
theorem u_219_2 {Q : List am_V → am_M → Prop} {m : am_M} {p : Int} {k : Int}  (H : ((256 ≤ am_s k) → ok 3 219 26 [some (.inr (.inr (some 53))), some (.inl p), some (.inl 0), some (.inl 0), none] [] m Q) ∧ ((¬ (256 ≤ am_s k)) → (0 ≤ am_s k ∧ am_s k < (256 : Nat)) ∧ (ok 3 219 2 [some (.inr (.inr (some 53))), some (.inl p), some (.inl (k + 1)), none, none] [] (mu m 60 ((am_s k).toNat) 0) Q))) : ok 3 219 2 [some (.inr (.inr (some 53))), some (.inl p), some (.inl k), none, none] [] m Q := by
  refine ok_sg (pc' := 6) (ls' := [some (.inr (.inr (some 53))), some (.inl p), some (.inl k), none, none]) (st' := [.inl 256, .inl k]) (m' := m) (fun fx hfx o hk => ?_) ?_
  · refine r_ld (pc' := 3) hM_219 d_219_2 rfl rfl ?_
    refine r_k (pc' := 6) (v := .inl 256) hM_219 d_219_3 rfl rfl ?_
    exact hk
  refine ok_ic (pc' := 22) (pc2 := 9) hM_219 d_219_6 (by decide) rfl (fun hz1 => ?_) (fun hz1 => ?_)
  · have H := H.1 hz1
    refine ok_sg (pc' := 26) (ls' := [some (.inr (.inr (some 53))), some (.inl p), some (.inl 0), some (.inl 0), none]) (st' := []) (m' := m) (fun fx hfx o hk => ?_) ?_
    · refine r_k (pc' := 23) (v := .inl 0) hM_219 d_219_22 rfl rfl ?_
      refine r_sto (pc' := 24) (ls' := [some (.inr (.inr (some 53))), some (.inl p), some (.inl 0), none, none]) hM_219 d_219_23 rfl rfl ?_
      refine r_k (pc' := 25) (v := .inl 0) hM_219 d_219_24 rfl rfl ?_
      refine r_sto (pc' := 26) (ls' := [some (.inr (.inr (some 53))), some (.inl p), some (.inl 0), some (.inl 0), none]) hM_219 d_219_25 rfl rfl ?_
      exact hk
    exact H
  · have H := H.2 hz1
    obtain ⟨hz2, H⟩ := H
    refine ok_sg (pc' := 2) (ls' := [some (.inr (.inr (some 53))), some (.inl p), some (.inl (k + 1)), none, none]) (st' := []) (m' := mu m 60 ((am_s k).toNat) 0) (fun fx hfx o hk => ?_) ?_
    · refine r_ld (pc' := 10) hM_219 d_219_9 rfl rfl ?_
      refine r_gR (pc' := 13) (v := 60) hM_219 d_219_10 rfl (by decide +kernel) ?_
      refine r_ld (pc' := 14) hM_219 d_219_13 rfl rfl ?_
      refine r_k (pc' := 15) (v := .inl 0) hM_219 d_219_14 rfl rfl ?_
      refine r_is (pc' := 16) (n := 256) hM_219 d_219_15 rfl rfl hz2 ?_
      refine r_sto (pc' := 19) (ls' := [some (.inr (.inr (some 53))), some (.inl p), some (.inl (k + 1)), none, none]) hM_219 d_219_16 rfl rfl ?_
      refine r_go (pc' := 2) hM_219 d_219_19 (by decide) ?_
      exact hk
    exact H
theorem u_219_0 {Q : List am_V → am_M → Prop} {m : am_M} {p : Int}  (H : ok 3 219 2 [some (.inr (.inr (some 53))), some (.inl p), some (.inl 0), none, none] [] m Q) : ok 3 219 0 [some (.inr (.inr (some 53))), some (.inl p), none, none, none] [] m Q := by
  refine ok_sg (pc' := 2) (ls' := [some (.inr (.inr (some 53))), some (.inl p), some (.inl 0), none, none]) (st' := []) (m' := m) (fun fx hfx o hk => ?_) ?_
  · refine r_k (pc' := 1) (v := .inl 0) hM_219 d_219_0 rfl rfl ?_
    refine r_sto (pc' := 2) (ls' := [some (.inr (.inr (some 53))), some (.inl p), some (.inl 0), none, none]) hM_219 d_219_1 rfl rfl ?_
    exact hk
  exact H
/-- the greatest of many counts -/
def MX (C : Int → Nat) (W : Nat) : Prop := (∀ v, C v ≤ W) ∧ (W = 0 ∨ ∃ v, C v = W)
theorem MX_fun {C : Int → Nat} {V W : Nat} (h1 : MX C V) (h2 : MX C W) : V = W := by
  have key : ∀ {V W : Nat}, MX C V → MX C W → V ≤ W := by
    intro V W h1 h2
    rcases h1.2 with h | ⟨v, h⟩
    · omega
    · have := h2.1 v
      omega
  have := key h1 h2
  have := key h2 h1
  omega
theorem MX_congr {C C' : Int → Nat} {W : Nat} (h : ∀ v, C v = C' v) (hm : MX C W) : MX C' W := by
  have : C = C' := funext h
  rw [← this]
  exact hm
theorem cf_or {A B : Nat → Bool} (h : ∀ t, ¬ (A t = true ∧ B t = true)) : ∀ b, cf (fun t => A t || B t) b = cf A b + cf B b := by
  intro b
  induction b with
  | zero => rfl
  | succ b ih =>
    rw [cf_s, cf_s, cf_s, ih]
    have := h b
    cases hA : A b <;> cases hB : B b <;> simp [hA, hB] at this ⊢ <;> omega
theorem cf_idx {P Q : Nat → Bool} {f : Nat → Nat} : ∀ b, (∀ t, t < b → Q t = true → f (cf Q t) = t) → cf (fun j => P (f j)) (cf Q b) = cf (fun s => Q s && P s) b := by
  intro b
  induction b with
  | zero => intro _; rfl
  | succ b ih =>
    intro h
    have hi := ih fun t ht => h t (by omega)
    rw [cf_s (Q := fun s => Q s && P s), ← hi, cf_s (Q := Q)]
    cases hq : Q b
    · simp
    · have := h b (by omega) hq
      rw [if_pos rfl, cf_s, this]
      simp
theorem cf_pos {Q : Nat → Bool} {b : Nat} (h : 0 < cf Q b) : ∃ t, t < b ∧ Q t = true := by
  obtain ⟨t, h1, h2, -⟩ := cf_nth b 0 h
  exact ⟨t, h1, h2⟩
def su7 (T Y : Nat → Int) (a : Nat) : Nat → Int
  | 0 => 0
  | b + 1 => su7 T Y a b + if T b = T a then Y b else 0
theorem su7_s {T Y : Nat → Int} {a b : Nat} : su7 T Y a (b + 1) = su7 T Y a b + if T b = T a then Y b else 0 := rfl
def mo7 (T Y : Nat → Int) : Nat → Int
  | 0 => 0
  | a + 1 => max (mo7 T Y a) (su7 T Y a 8)
theorem mo7_s {T Y : Nat → Int} {a : Nat} : mo7 T Y (a + 1) = max (mo7 T Y a) (su7 T Y a 8) := rfl
theorem su7_congr {T Y T' Y' : Nat → Int} {a : Nat} (ha : T a = T' a) : ∀ b, (∀ t, t < b → T t = T' t ∧ Y t = Y' t) → su7 T Y a b = su7 T' Y' a b := by
  intro b
  induction b with
  | zero => intro _; rfl
  | succ b ih =>
    intro h
    rw [su7_s, su7_s, ih fun t ht => h t (by omega), (h b (by omega)).1, (h b (by omega)).2, ha]
theorem mo7_congr {T Y T' Y' : Nat → Int} (h : ∀ t, t < 8 → T t = T' t ∧ Y t = Y' t) : ∀ a, a ≤ 8 → mo7 T Y a = mo7 T' Y' a := by
  intro a
  induction a with
  | zero => intro _; rfl
  | succ a ih =>
    intro ha
    rw [mo7_s, mo7_s, ih (by omega), su7_congr (h a (by omega)).1 8 h]
theorem su7_rng {T Y : Nat → Int} {a : Nat} : ∀ b, (∀ t, t < b → 0 ≤ Y t ∧ Y t ≤ 4096) → 0 ≤ su7 T Y a b ∧ su7 T Y a b ≤ 4096 * (b : Int) := by
  intro b
  induction b with
  | zero => intro _; exact ⟨Int.le_refl _, Int.le_refl _⟩
  | succ b ih =>
    intro h
    have h1 := ih fun t ht => h t (by omega)
    have h2 := h b (by omega)
    rw [su7_s]
    split <;> omega
theorem mo7_rng {T Y : Nat → Int} (h : ∀ t, t < 8 → 0 ≤ Y t ∧ Y t ≤ 4096) : ∀ a, 0 ≤ mo7 T Y a ∧ mo7 T Y a ≤ 32768 := by
  intro a
  induction a with
  | zero => show 0 ≤ (0 : Int) ∧ (0 : Int) ≤ 32768; omega
  | succ a ih =>
    have := su7_rng (T := T) (a := a) 8 h
    rw [mo7_s]
    omega
theorem mo7_ge {T Y : Nat → Int} : ∀ n a, a < n → su7 T Y a 8 ≤ mo7 T Y n := by
  intro n
  induction n with
  | zero => intro a h; exact absurd h (Nat.not_lt_zero _)
  | succ n ih =>
    intro a h
    rw [mo7_s]
    by_cases hh : a = n
    · rw [hh]; omega
    · have := ih a (by omega)
      omega
theorem mo7_at {T Y : Nat → Int} : ∀ n, mo7 T Y n = 0 ∨ ∃ a, a < n ∧ su7 T Y a 8 = mo7 T Y n := by
  intro n
  induction n with
  | zero => exact Or.inl rfl
  | succ n ih =>
    rw [mo7_s]
    by_cases h : su7 T Y n 8 ≤ mo7 T Y n
    · rw [Int.max_eq_left h]
      rcases ih with ih | ⟨a, h1, h2⟩
      · exact Or.inl ih
      · exact Or.inr ⟨a, by omega, h2⟩
    · rw [Int.max_eq_right (by omega)]
      exact Or.inr ⟨n, by omega, rfl⟩
/-- how many that fit have a triple at a place -/
def tly (Q : Nat → Bool) (p t : Nat) : Nat → Bool := fun s => Q s && decide (tri s p = t)
def tlv (Q : Nat → Bool) (b p : Nat) : Nat → Int := fun t => ((cf (tly Q p t) b : Nat) : Int)
theorem su7_cf {T : Nat → Int} {Q : Nat → Bool} {b p a : Nat} : ∀ n, su7 T (tlv Q b p) a n = ((cf (fun s => Q s && decide (tri s p < n ∧ T (tri s p) = T a)) b : Nat) : Int) := by
  intro n
  induction n with
  | zero =>
    rw [cf_none]
    · rfl
    · intro t _ h
      rw [Bool.and_eq_true, decide_eq_true_eq] at h
      exact absurd h.2.1 (Nat.not_lt_zero _)
  | succ n ih =>
    rw [su7_s, ih]
    by_cases hc : T n = T a
    · rw [if_pos hc]
      unfold tlv
      have := cf_or (A := fun s => Q s && decide (tri s p < n ∧ T (tri s p) = T a)) (B := tly Q p n) (by
        intro t h
        unfold tly at h
        rw [Bool.and_eq_true, Bool.and_eq_true, decide_eq_true_eq, decide_eq_true_eq] at h
        omega) b
      rw [← Int.natCast_add, ← this]
      congr 1
      refine cf_congr b fun t _ => ?_
      unfold tly
      cases Q t
      · rfl
      · rw [Bool.true_and, Bool.true_and, Bool.true_and, ← Bool.decide_or]
        apply decide_eq_decide.mpr
        constructor
        · rintro (h | h)
          · exact ⟨by omega, h.2⟩
          · exact ⟨by omega, by rw [h]; exact hc⟩
        · intro h
          by_cases ht : tri t p = n
          · exact Or.inr ht
          · exact Or.inl ⟨by omega, h.2⟩
    · rw [if_neg hc, Int.add_zero]
      congr 1
      refine cf_congr b fun t _ => ?_
      congr 1
      apply decide_eq_decide.mpr
      constructor
      · intro h; exact ⟨by omega, h.2⟩
      · intro h
        refine ⟨?_, h.2⟩
        by_cases ht : tri t p = n
        · rw [ht] at h; exact absurd h.2 hc
        · omega
/-- how many sets are left at worst by a knock -/
def wor (g : Nat → Int) (Q : Nat → Bool) (b p : Nat) : Int := mo7 (tnt g p) (tlv Q b p) 8
theorem wor_rng {g : Nat → Int} {Q : Nat → Bool} {b p : Nat} (hb : b ≤ 4096) : 0 ≤ wor g Q b p ∧ wor g Q b p ≤ 32768 := by
  refine mo7_rng (fun t _ => ?_) 8
  unfold tlv
  have := cf_le (Q := tly Q p t) b
  omega
theorem wor_MX {g : Nat → Int} {Q : Nat → Bool} {b p : Nat} (hg : g (8 + p) ≠ 3) (hb : b ≤ 4096) : MX (fun v => cf (fun s => Q s && decide (hrd g p s = v)) b) (wor g Q b p).toNat := by
  have hr := wor_rng (g := g) (Q := Q) (p := p) hb
  have e : ∀ a, su7 (tnt g p) (tlv Q b p) a 8 = ((cf (fun s => Q s && decide (hrd g p s = tnt g p a)) b : Nat) : Int) := by
    intro a
    rw [su7_cf]
    congr 1
    refine cf_congr b fun t _ => ?_
    congr 1
    apply decide_eq_decide.mpr
    rw [tnt_tri, if_pos hg]
    exact ⟨fun h => h.2, fun h => ⟨tri_lt t p, h⟩⟩
  constructor
  · intro v
    show cf (fun s => Q s && decide (hrd g p s = v)) b ≤ (wor g Q b p).toNat
    by_cases h0 : 0 < cf (fun s => Q s && decide (hrd g p s = v)) b
    · obtain ⟨t, h1, h2⟩ := cf_pos h0
      rw [Bool.and_eq_true, decide_eq_true_eq] at h2
      have h3 := mo7_ge (T := tnt g p) (Y := tlv Q b p) 8 (tri t p) (tri_lt t p)
      rw [e, tnt_tri, if_pos hg, h2.2] at h3
      have : wor g Q b p = mo7 (tnt g p) (tlv Q b p) 8 := rfl
      omega
    · omega
  · rcases mo7_at (T := tnt g p) (Y := tlv Q b p) 8 with h | ⟨a, h1, h2⟩
    · left
      have : wor g Q b p = mo7 (tnt g p) (tlv Q b p) 8 := rfl
      omega
    · right
      refine ⟨tnt g p a, ?_⟩
      rw [e] at h2
      have : wor g Q b p = mo7 (tnt g p) (tlv Q b p) 8 := rfl
      show cf (fun s => Q s && decide (hrd g p s = tnt g p a)) b = (wor g Q b p).toNat
      omega
theorem alb_fr {m M : am_M} (h : ∀ a, a ≤ 36 → M a = m a) {s : Nat} : ∀ n, alb M s n = alb m s n := by
  intro n
  induction n with
  | zero => rfl
  | succ n ih => rw [alb_s, alb_s, ih, h 36 (by omega)]
theorem ALW_fr {m M : am_M} (h : ∀ a, a ≤ 36 → M a = m a) (hA : ALW m) : ALW M := by
  have fv : vw M 2 = vw m 2 := vw_same fun a k q1 q2 => by rw [h a (by omega)]
  unfold ALW
  rw [fv, h 34 (by omega), h 2 (by omega), h 36 (by omega)]
  exact hA
theorem tly_sb {Q : Nat → Bool} {F p t : Nat} (hQ : ∀ s, Q s = true → sb F s) : ∀ s, tly Q p t s = true → sb F s := by
  intro s h
  unfold tly at h
  rw [Bool.and_eq_true] at h
  exact hQ s h.1
theorem z_95   (m : am_M)  (hq : ALW m) : ok 2 95 0 (am_ent 5 [.inr (.inr (some 34))]) [] m (fun rr m' => rr = [.inl (((cf (alq m) ((m 34 9).toNat + 1) : Nat) : Int))] ∧ (∀ p t : Nat, (p : Int) < m 2 4 → t < 8 → m' 37 (8 * p + t) = ((cf (tly (alq m) p t) ((m 34 9).toNat + 1) : Nat) : Int)) ∧ ∀ a, a ≠ 37 → m' a = m a) := by
  show ok 2 95 0 [some (.inr (.inr (some 34))), none, none, none, none] [] m _
  obtain ⟨hw, hF, hc, hb⟩ := id hq
  have hN := vwN hw
  have hFl : (m 34 9).toNat < 4096 := by omega
  have hF9 : m 34 9 = (((m 34 9).toNat : Nat) : Int) := by omega
  have hcp := cp_lt (F := (m 34 9).toNat)
  have e10 : am_s (m 34 10) = ((2 ^ cnt (m 34 9).toNat 12 : Nat) : Int) := by rw [hc]; exact cp_s
  have hsb : ∀ t, alq m t = true → sb (m 34 9).toNat t := fun t h => alq_sb h
  refine u_95_0 ?_
  refine ok_for (σ := Unit) (fun i _ => [some (.inr (.inr (some 34))), some (.inl ((wc (alq m) (m 34 9).toNat i : Nat) : Int)), some (.inl ((en (m 34 9).toNat i : Nat) : Int)), some (.inl (i : Int)), none]) (fun i _ M => (∀ p t : Nat, (p : Int) < m 2 4 → t < 8 → M 37 (8 * p + t) = ((wc (tly (alq m) p t) (m 34 9).toNat i : Nat) : Int)) ∧ ∀ a, a ≠ 37 → M a = m a) (2 ^ cnt (m 34 9).toNat 12) ?_ ?_ () _ ⟨fun p t hp ht => by unfold flm; rw [if_pos ⟨rfl, by omega⟩]; rfl, fun a ha => by funext k; unfold flm; rw [if_neg (fun q => ha q.1)]⟩
  · rintro i hi - M ⟨h1, h2⟩ IH
    have hl := en_lt hFl hi
    have hs := wc_s (Q := alq m) (F := (m 34 9).toNat) (i := i)
    have hA : ALW M := ALW_fr (fun a ha => h2 a (by omega)) hq
    have hal : alb M (en (m 34 9).toNat i) (m 2 4).toNat = alq m (en (m 34 9).toNat i) := by
      rw [alb_fr (fun a ha => h2 a (by omega)), alq_en hFl hi]
    refine u_95_14 ?_
    rw [h2 34 (by decide), e10, am_s_id (z := (i : Int)) (by omega) (by omega), Int.toNat_natCast, h2 2 (by decide), hal]
    refine ⟨fun q => by omega, fun _ => ⟨⟨hA, by omega, by omega⟩, ?_⟩⟩
    intro mx hmx
    obtain rfl := hmx.symm
    refine ⟨fun q => ?_, fun q => ?_⟩
    · rw [if_neg q] at hs
      have := IH () M ⟨fun p t hp ht => ?_, h2⟩
      · rw [hs] at this
        rw [v88 (by rw [h2 34 (by decide)]; exact hF9) hFl]
        exact this
      · rw [h1 p t hp ht, wc_s, if_neg]
        intro k
        unfold tly at k
        rw [Bool.and_eq_true] at k
        exact q k.1
    · rw [if_pos q] at hs
      generalize hS : en (m 34 9).toNat i = S at *
      refine ok_for (σ := Unit) (fun p _ => [some (.inr (.inr (some 34))), some (.inl ((wc (alq m) (m 34 9).toNat i : Nat) + 1 : Int)), some (.inl (S : Int)), some (.inl (i : Int)), some (.inl (p : Int))]) (fun p _ M => (∀ p' t : Nat, (p' : Int) < m 2 4 → t < 8 → M 37 (8 * p' + t) = ((wc (tly (alq m) p' t) (m 34 9).toNat i : Nat) : Int) + if p' < p ∧ tri S p' = t then 1 else 0) ∧ ∀ a, a ≠ 37 → M a = m a) (m 2 4).toNat ?_ ?_ () M ⟨fun p' t hp ht => by rw [h1 p' t hp ht, if_neg (fun q => absurd q.1 (Nat.not_lt_zero _)), Int.add_zero], h2⟩
      · rintro p hp - M' ⟨k1, k2⟩ IH2
        have hlt := tri_lt S p
        have e := v87e (m := M') (p := (p : Int)) (s := (S : Int)) (by omega) (by omega)
        rw [Int.toNat_natCast, Int.toNat_natCast] at e
        have e1 : am_s ((p : Int) * 8 + ((tri S p : Nat) : Int)) = (p : Int) * 8 + ((tri S p : Nat) : Int) := am_s_id (by omega) (by omega)
        have e2 : ((p : Int) * 8 + ((tri S p : Nat) : Int)).toNat = 8 * p + tri S p := by omega
        refine u_95_36 ?_
        rw [k2 2 (by decide), am_s_id (z := m 2 4) (by omega) (by omega), am_s_id (z := (p : Int)) (by omega) (by omega), e, e1, e2]
        refine ⟨fun q => by omega, fun _ => ⟨by omega, IH2 () _ ⟨fun p' t hp' ht => ?_, fun a ha => by rw [mu_rf ha]; exact k2 a ha⟩⟩⟩
        rw [mu_if]
        by_cases h : 8 * p' + t = 8 * p + tri S p
        · have hpp : p' = p := by omega
          have htt : t = tri S p := by omega
          rw [if_pos h, ← h, k1 p' t hp' ht, hpp, htt, if_neg (by omega), if_pos ⟨by omega, rfl⟩, Int.add_zero]
        · rw [if_neg h, k1 p' t hp' ht]
          congr 1
          by_cases hc1 : p' < p ∧ tri S p' = t
          · rw [if_pos hc1, if_pos ⟨by omega, hc1.2⟩]
          · rw [if_neg hc1, if_neg]
            rintro ⟨x1, x2⟩
            by_cases hpp : p' = p
            · rw [hpp] at x2 h
              omega
            · exact hc1 ⟨by omega, x2⟩
      · rintro - M' ⟨k1, k2⟩
        refine u_95_36 ?_
        rw [k2 2 (by decide), am_s_id (z := m 2 4) (by omega) (by omega), am_s_id (z := (((m 2 4).toNat : Nat) : Int)) (by omega) (by omega)]
        refine ⟨fun _ => ?_, fun q => by omega⟩
        have := IH () M' ⟨fun p t hp ht => ?_, k2⟩
        · rw [hs, en_s, hS] at this
          rw [v88 (by rw [k2 34 (by decide)]; exact hF9) hFl]
          exact this
        · rw [k1 p t hp ht, wc_s, hS]
          by_cases h : tri S p = t
          · rw [if_pos ⟨by omega, h⟩, if_pos (by unfold tly; rw [q, Bool.true_and]; exact decide_eq_true h)]
            rfl
          · rw [if_neg (fun k => h k.2), if_neg, Int.add_zero]
            intro k
            unfold tly at k
            rw [Bool.and_eq_true, decide_eq_true_eq] at k
            exact h k.2
  · rintro - M ⟨h1, h2⟩
    refine u_95_14 ?_
    rw [h2 34 (by decide), e10, cp_s, wc_all hFl hsb]
    refine ⟨fun _ => ⟨rfl, fun p t hp ht => ?_, h2⟩, fun q => by omega⟩
    rw [h1 p t hp ht, wc_all hFl (tly_sb hsb)]
theorem z_97   (m : am_M) (p : Int) (hq : (0 ≤ p ∧ p < 12) ∧ (∀ t, t < 8 → am_s (m 35 (8 * p.toNat + t)) = m 35 (8 * p.toNat + t)) ∧ ∀ t, t < 8 → 0 ≤ m 37 (8 * p.toNat + t) ∧ m 37 (8 * p.toNat + t) ≤ 4096) : ok 1 97 0 (am_ent 6 [.inr (.inr (some 34)), .inl p]) [] m (fun rr m' => rr = [.inl ((mo7 (fun t => m 35 (8 * p.toNat + t)) (fun t => m 37 (8 * p.toNat + t)) 8))] ∧ m' = m) := by
  show ok 1 97 0 [some (.inr (.inr (some 34))), some (.inl p), none, none, none, none] [] m _
  obtain ⟨hp, hT, hY⟩ := hq
  obtain ⟨P, rfl⟩ : ∃ P : Nat, p = (P : Int) := ⟨p.toNat, by omega⟩
  rw [Int.toNat_natCast] at hT hY ⊢
  generalize hTv : (fun t => m 35 (8 * P + t)) = T at *
  generalize hYv : (fun t => m 37 (8 * P + t)) = Y at *
  have hTt : ∀ t, m 35 (8 * P + t) = T t := fun t => by rw [← hTv]
  have hYt : ∀ t, m 37 (8 * P + t) = Y t := fun t => by rw [← hYv]
  have hY' : ∀ t, t < 8 → 0 ≤ Y t ∧ Y t ≤ 4096 := fun t ht => by rw [← hYt]; exact hY t ht
  refine u_97_0 ?_
  rw [show (P : Int) * 8 = ((8 * P + 0 : Nat) : Int) by omega]
  refine ok_for (σ := Unit) (fun a _ => [some (.inr (.inr (some 34))), some (.inl (P : Int)), some (.inl (mo7 T Y a)), some (.inl ((8 * P + a : Nat) : Int)), none, none]) (fun a _ M => M = m) 8 ?_ ?_ () m rfl
  · rintro a ha - M rfl IH
    have hm := mo7_rng (T := T) hY' a
    have e1 : am_s (((P : Int) + 1) * 8) = 8 * (P : Int) + 8 := by rw [am_s_id (by omega) (by omega)]; omega
    have e2 : am_s ((8 * P + a : Nat) : Int) = ((8 * P + a : Nat) : Int) := am_s_id (by omega) (by omega)
    refine u_97_7 ?_
    rw [e1, e2]
    refine ⟨fun q => by omega, fun _ => ?_⟩
    rw [show (P : Int) * 8 = ((8 * P + 0 : Nat) : Int) by omega]
    refine ok_for (σ := Unit) (fun b _ => [some (.inr (.inr (some 34))), some (.inl (P : Int)), some (.inl (mo7 T Y a)), some (.inl ((8 * P + a : Nat) : Int)), some (.inl (su7 T Y a b)), some (.inl ((8 * P + b : Nat) : Int))]) (fun b _ M' => M' = M) 8 ?_ ?_ () M rfl
    · rintro b hb - M' rfl IH2
      have e3 : am_s ((8 * P + b : Nat) : Int) = ((8 * P + b : Nat) : Int) := am_s_id (by omega) (by omega)
      have ea := hT a ha
      have eb := hT b hb
      refine u_97_26 ?_
      rw [e1, e2, e3, Int.toNat_natCast, Int.toNat_natCast, ea, eb, hTt, hTt, hYt]
      have := IH2 () M' rfl
      rw [su7_s] at this
      refine ⟨fun q => by omega, fun _ => ⟨by omega, by omega, fun q => ?_, fun q => ?_⟩⟩
      · rw [if_neg q, Int.add_zero] at this
        exact this
      · rw [if_pos q] at this
        exact this
    · rintro - M' rfl
      have hs8 := su7_rng (T := T) (a := a) 8 hY'
      refine u_97_26 ?_
      rw [e1, am_s_id (z := ((8 * P + 8 : Nat) : Int)) (by omega) (by omega), v74 (by omega) (by omega) (by omega) (by omega)]
      exact ⟨fun _ => IH () M' rfl, fun q => by omega⟩
  · rintro - M rfl
    have e1 : am_s (((P : Int) + 1) * 8) = 8 * (P : Int) + 8 := by rw [am_s_id (by omega) (by omega)]; omega
    refine u_97_7 ?_
    rw [e1, am_s_id (z := ((8 * P + 8 : Nat) : Int)) (by omega) (by omega)]
    exact ⟨fun _ => ⟨rfl, rfl⟩, fun q => by omega⟩
theorem z_219   (m : am_M) (p : Int) (hq : WFG (m 54) ∧ (0 ≤ p ∧ p < m 54 0) ∧ (0 ≤ m 53 19 ∧ m 53 19 ≤ 4096) ∧ ∀ k : Nat, (k : Int) < m 53 19 → 0 ≤ m 59 k ∧ m 59 k < 4096) : ok 3 219 0 (am_ent 5 [.inr (.inr (some 53)), .inl p]) [] m (fun rr m' => ∃ v' : Int, rr = [.inl (v')] ∧ ((∃ W : Nat, v' = (W : Int) ∧ MX (fun x => cf (fun j => decide (hrd (nv (m 54)) p.toNat (m 59 j).toNat = x)) (m 53 19).toNat) W) ∧ ∀ a, a ≠ 60 → m' a = m a)) := by
  show ok 3 219 0 [some (.inr (.inr (some 53))), some (.inl p), none, none, none] [] m _
  obtain ⟨hw, hp, hK, hA⟩ := hq
  have hN := hw.1
  have hwn := WFG_nv hw
  obtain ⟨P, rfl⟩ : ∃ P : Nat, p = (P : Int) := ⟨p.toNat, by omega⟩
  rw [Int.toNat_natCast]
  obtain ⟨K, hKv⟩ : ∃ K : Nat, m 53 19 = (K : Int) := ⟨(m 53 19).toNat, by omega⟩
  rw [hKv, Int.toNat_natCast]
  refine u_219_0 ?_
  refine ok_for (σ := Unit) (fun k _ => [some (.inr (.inr (some 53))), some (.inl (P : Int)), some (.inl (k : Int)), none, none]) (fun k _ M => (∀ i, i < k → M 60 i = 0) ∧ ∀ a, a ≠ 60 → M a = m a) 256 ?_ ?_ () m ⟨fun i h => absurd h (Nat.not_lt_zero _), fun _ _ => rfl⟩
  · rintro k hk - M ⟨h1, h2⟩ IH
    refine u_219_2 ?_
    rw [am_s_id (z := (k : Int)) (by omega) (by omega), Int.toNat_natCast]
    refine ⟨fun q => by omega, fun _ => ⟨by omega, IH () _ ⟨fun i hi => ?_, fun a ha => by rw [mu_rf ha]; exact h2 a ha⟩⟩⟩
    rw [mu_if]
    by_cases h : i = k
    · rw [if_pos h]
    · rw [if_neg h]; exact h1 i (by omega)
  · rintro - M0 ⟨h01, h02⟩
    refine u_219_2 ?_
    rw [am_s_id (z := ((256 : Nat) : Int)) (by omega) (by omega)]
    refine ⟨fun _ => ?_, fun q => by omega⟩
    have key := ok_for (d := 3) (mi := 219) (pc := 26) (Q := fun rr m' => ∃ v' : Int, rr = [.inl v'] ∧ ((∃ W : Nat, v' = (W : Int) ∧ MX (fun x => cf (fun j => decide (hrd (nv (m 54)) P (m 59 j).toNat = x)) K) W) ∧ ∀ a, a ≠ 60 → m' a = m a)) (σ := Nat) (fun k W => [some (.inr (.inr (some 53))), some (.inl (P : Int)), some (.inl (W : Int)), some (.inl (k : Int)), none]) (fun k W M => (∀ x : Int, -100 ≤ x → x < 156 → M 60 (x + 100).toNat = ((cf (fun j => decide (hrd (nv (m 54)) P (m 59 j).toNat = x)) k : Nat) : Int)) ∧ MX (fun x => cf (fun j => decide (hrd (nv (m 54)) P (m 59 j).toNat = x)) k) W ∧ ∀ a, a ≠ 60 → M a = m a) K ?_ ?_ 0 M0 ⟨fun x q1 q2 => h01 _ (by omega), ⟨fun _ => Nat.le_refl _, Or.inl rfl⟩, h02⟩
    · exact key
    · rintro k hk W M ⟨h1, ⟨h2, h2'⟩, h3⟩ IH
      obtain ⟨a1, a2⟩ := hA k (by omega)
      obtain ⟨t, ht⟩ : ∃ t : Nat, m 59 k = (t : Int) := ⟨(m 59 k).toNat, by omega⟩
      have hr := hrd_rng (B := t) hwn (p := P) (by omega)
      have e60 := h1 (hrd (nv (m 54)) P t) (by omega) (by omega)
      have hcl := cf_le (Q := fun j => decide (hrd (nv (m 54)) P (m 59 j).toNat = hrd (nv (m 54)) P t)) k
      have hWk : W ≤ k := by
        rcases h2' with h | ⟨v, h⟩
        · omega
        · have := cf_le (Q := fun j => decide (hrd (nv (m 54)) P (m 59 j).toNat = v)) k
          have h : cf (fun j => decide (hrd (nv (m 54)) P (m 59 j).toNat = v)) k = W := h
          omega
      refine u_219_26 ?_
      rw [h3 53 (by decide), hKv, am_s_id (z := (K : Int)) (by omega) (by omega), am_s_id (z := (k : Int)) (by omega) (by omega), Int.toNat_natCast, h3 59 (by decide), ht, h3 54 (by decide), Int.toNat_natCast, Int.toNat_natCast, am_s_id (z := hrd (nv (m 54)) P t + 100) (by omega) (by omega), e60, am_s_id (z := (W : Int)) (by omega) (by omega)]
      refine ⟨fun q => by omega, fun _ => ⟨by omega, ⟨hw, by omega, by omega⟩, by omega, fun y hy => ?_⟩⟩
      rw [am_s_id (by omega) (by omega)] at hy
      have hst : ∀ x, cf (fun j => decide (hrd (nv (m 54)) P (m 59 j).toNat = x)) (k + 1) = cf (fun j => decide (hrd (nv (m 54)) P (m 59 j).toNat = x)) k + if hrd (nv (m 54)) P t = x then 1 else 0 := by
        intro x
        rw [cf_s, ht, Int.toNat_natCast]
        congr 1
        by_cases h : hrd (nv (m 54)) P t = x
        · rw [if_pos h, if_pos (decide_eq_true h)]
        · rw [if_neg h, if_neg (by rw [decide_eq_true_eq]; exact h)]
      have hc1 : ∀ x : Int, -100 ≤ x → x < 156 → (mu M 60 (hrd (nv (m 54)) P t + 100).toNat (((cf (fun j => decide (hrd (nv (m 54)) P (m 59 j).toNat = hrd (nv (m 54)) P t)) k : Nat) : Int) + 1)) 60 (x + 100).toNat = ((cf (fun j => decide (hrd (nv (m 54)) P (m 59 j).toNat = x)) (k + 1) : Nat) : Int) := by
        intro x q1 q2
        rw [hst, mu_if]
        by_cases h : hrd (nv (m 54)) P t = x
        · rw [if_pos (by rw [h]), if_pos h, h]
          rfl
        · rw [if_neg (by omega), if_neg h, h1 x q1 q2]
          rfl
      by_cases hc : ((cf (fun j => decide (hrd (nv (m 54)) P (m 59 j).toNat = hrd (nv (m 54)) P t)) k : Nat) : Int) + 1 ≤ (W : Int)
      · rw [if_pos hc] at hy
        rw [hy]
        refine IH W _ ⟨hc1, ⟨fun x => ?_, ?_⟩, fun a ha => by rw [mu_rf ha]; exact h3 a ha⟩
        · show cf (fun j => decide (hrd (nv (m 54)) P (m 59 j).toNat = x)) (k + 1) ≤ W
          rw [hst]
          have hx : cf (fun j => decide (hrd (nv (m 54)) P (m 59 j).toNat = x)) k ≤ W := h2 x
          by_cases h : hrd (nv (m 54)) P t = x
          · rw [h] at hc
            rw [if_pos h]
            omega
          · rw [if_neg h]
            omega
        · rcases h2' with h | ⟨v, h⟩
          · exact Or.inl h
          · right
            refine ⟨v, ?_⟩
            show cf (fun j => decide (hrd (nv (m 54)) P (m 59 j).toNat = v)) (k + 1) = W
            have h : cf (fun j => decide (hrd (nv (m 54)) P (m 59 j).toNat = v)) k = W := h
            rw [hst, h]
            by_cases h' : hrd (nv (m 54)) P t = v
            · rw [h'] at hc
              omega
            · rw [if_neg h']
              rfl
      · rw [if_neg hc] at hy
        rw [hy]
        have hx0 : cf (fun j => decide (hrd (nv (m 54)) P (m 59 j).toNat = hrd (nv (m 54)) P t)) k ≤ W := h2 _
        have hmx : MX (fun x => cf (fun j => decide (hrd (nv (m 54)) P (m 59 j).toNat = x)) (k + 1)) (W + 1) := by
          refine ⟨fun x => ?_, Or.inr ⟨hrd (nv (m 54)) P t, ?_⟩⟩
          · show cf (fun j => decide (hrd (nv (m 54)) P (m 59 j).toNat = x)) (k + 1) ≤ W + 1
            rw [hst]
            have hx : cf (fun j => decide (hrd (nv (m 54)) P (m 59 j).toNat = x)) k ≤ W := h2 x
            by_cases h : hrd (nv (m 54)) P t = x
            · rw [if_pos h]
              omega
            · rw [if_neg h]
              omega
          · show cf (fun j => decide (hrd (nv (m 54)) P (m 59 j).toNat = hrd (nv (m 54)) P t)) (k + 1) = W + 1
            rw [hst, if_pos rfl]
            omega
        have z := IH (W + 1) _ ⟨hc1, hmx, fun a ha => by rw [mu_rf ha]; exact h3 a ha⟩
        rw [show ((cf (fun j => decide (hrd (nv (m 54)) P (m 59 j).toNat = hrd (nv (m 54)) P t)) k : Nat) : Int) + 1 = ((W + 1 : Nat) : Int) by omega] at z ⊢
        exact z
    · rintro W M ⟨h1, h2, h3⟩
      refine u_219_26 ?_
      rw [h3 53 (by decide), hKv, am_s_id (z := (K : Int)) (by omega) (by omega)]
      exact ⟨fun _ => ⟨_, rfl, ⟨W, rfl, h2⟩, h3⟩, fun q => by omega⟩
