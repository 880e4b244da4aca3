theorem u_108_90 {Q : List am_V → am_M → Prop} {m : am_M} {n : Int} {b : Int} {s : Int}  (H : ((am_s n ≤ am_s s) → ok 1 108 83 [some (.inr (.inr (some 34))), some (.inl n), some (.inl (am_shl b 1)), none] [] m Q) ∧ ((¬ (am_s n ≤ am_s s)) → ((am_s (am_and s b) = 0) → ok 1 108 90 [some (.inr (.inr (some 34))), some (.inl n), some (.inl b), some (.inl (s + 1))] [] m Q) ∧ ((¬ (am_s (am_and s b) = 0)) → (0 ≤ am_s (am_xor s b) ∧ am_s (am_xor s b) < (4096 : Nat)) ∧ (((am_s (m 42 ((am_s (am_xor s b)).toNat)) = 0) → ok 1 108 90 [some (.inr (.inr (some 34))), some (.inl n), some (.inl b), some (.inl (s + 1))] [] m Q) ∧ ((¬ (am_s (m 42 ((am_s (am_xor s b)).toNat)) = 0)) → (0 ≤ am_s s ∧ am_s s < (4096 : Nat)) ∧ (ok 1 108 90 [some (.inr (.inr (some 34))), some (.inl n), some (.inl b), some (.inl (s + 1))] [] (mu m 42 ((am_s s).toNat) (am_b1 1)) Q)))))) : ok 1 108 90 [some (.inr (.inr (some 34))), some (.inl n), some (.inl b), some (.inl s)] [] m Q := by
  refine ok_sg (pc' := 92) (ls' := [some (.inr (.inr (some 34))), some (.inl n), some (.inl b), some (.inl s)]) (st' := [.inl n, .inl s]) (m' := m) (fun fx hfx o hk => ?_) ?_
  · refine r_ld (pc' := 91) hM_108 d_108_90 rfl rfl ?_
    refine r_ld (pc' := 92) hM_108 d_108_91 rfl rfl ?_
    exact hk
  refine ok_ic (pc' := 125) (pc2 := 95) hM_108 d_108_92 (by decide) rfl (fun hz1 => ?_) (fun hz1 => ?_)
  · have H := H.1 hz1
    refine ok_sg (pc' := 83) (ls' := [some (.inr (.inr (some 34))), some (.inl n), some (.inl (am_shl b 1)), none]) (st' := []) (m' := m) (fun fx hfx o hk => ?_) ?_
    · refine r_ld (pc' := 126) hM_108 d_108_125 rfl rfl ?_
      refine r_k (pc' := 127) (v := .inl 1) hM_108 d_108_126 rfl rfl ?_
      refine r_b (pc' := 128) (z := (am_shl b 1)) hM_108 d_108_127 rfl rfl ?_
      refine r_sto (pc' := 129) (ls' := [some (.inr (.inr (some 34))), some (.inl n), some (.inl (am_shl b 1)), some (.inl s)]) hM_108 d_108_128 rfl rfl ?_
      refine r_go (pc' := 83) hM_108 d_108_129 (by decide) ?_
      refine rn_wk (a := [some (.inr (.inr (some 34))), some (.inl n), some (.inl (am_shl b 1)), none]) (by simp only [am_le, and_self]) ?_
      exact hk
    exact H
  · have H := H.2 hz1
    refine ok_sg (pc' := 98) (ls' := [some (.inr (.inr (some 34))), some (.inl n), some (.inl b), some (.inl s)]) (st' := [.inl (am_and s b)]) (m' := m) (fun fx hfx o hk => ?_) ?_
    · refine r_ld (pc' := 96) hM_108 d_108_95 rfl rfl ?_
      refine r_ld (pc' := 97) hM_108 d_108_96 rfl rfl ?_
      refine r_b (pc' := 98) (z := (am_and s b)) hM_108 d_108_97 rfl rfl ?_
      exact hk
    refine ok_if (pc' := 119) (pc2 := 101) hM_108 d_108_98 (by decide) rfl (fun hz2 => ?_) (fun hz2 => ?_)
    · have H := H.1 hz2
      refine ok_sg (pc' := 90) (ls' := [some (.inr (.inr (some 34))), some (.inl n), some (.inl b), some (.inl (s + 1))]) (st' := []) (m' := m) (fun fx hfx o hk => ?_) ?_
      · refine r_sto (pc' := 122) (ls' := [some (.inr (.inr (some 34))), some (.inl n), some (.inl b), some (.inl (s + 1))]) hM_108 d_108_119 rfl rfl ?_
        refine r_go (pc' := 90) hM_108 d_108_122 (by decide) ?_
        exact hk
      exact H
    · have H := H.2 hz2
      obtain ⟨hz3, H⟩ := H
      refine ok_sg (pc' := 109) (ls' := [some (.inr (.inr (some 34))), some (.inl n), some (.inl b), some (.inl s)]) (st' := [.inl (m 42 ((am_s (am_xor s b)).toNat))]) (m' := m) (fun fx hfx o hk => ?_) ?_
      · refine r_ld (pc' := 102) hM_108 d_108_101 rfl rfl ?_
        refine r_gR (pc' := 105) (v := 42) hM_108 d_108_102 rfl (by decide +kernel) ?_
        refine r_ld (pc' := 106) hM_108 d_108_105 rfl rfl ?_
        refine r_ld (pc' := 107) hM_108 d_108_106 rfl rfl ?_
        refine r_b (pc' := 108) (z := (am_xor s b)) hM_108 d_108_107 rfl rfl ?_
        refine r_ba (pc' := 109) (n := 4096) hM_108 d_108_108 rfl rfl (by decide) hz3 ?_
        exact hk
      refine ok_if (pc' := 119) (pc2 := 112) hM_108 d_108_109 (by decide) rfl (fun hz4 => ?_) (fun hz4 => ?_)
      · have H := H.1 hz4
        refine ok_sg (pc' := 90) (ls' := [some (.inr (.inr (some 34))), some (.inl n), some (.inl b), some (.inl (s + 1))]) (st' := []) (m' := m) (fun fx hfx o hk => ?_) ?_
        · refine r_sto (pc' := 122) (ls' := [some (.inr (.inr (some 34))), some (.inl n), some (.inl b), some (.inl (s + 1))]) hM_108 d_108_119 rfl rfl ?_
          refine r_go (pc' := 90) hM_108 d_108_122 (by decide) ?_
          exact hk
        exact H
      · have H := H.2 hz4
        obtain ⟨hz5, H⟩ := H
        refine ok_sg (pc' := 90) (ls' := [some (.inr (.inr (some 34))), some (.inl n), some (.inl b), some (.inl (s + 1))]) (st' := []) (m' := mu m 42 ((am_s s).toNat) (am_b1 1)) (fun fx hfx o hk => ?_) ?_
        · refine r_ld (pc' := 113) hM_108 d_108_112 rfl rfl ?_
          refine r_gR (pc' := 116) (v := 42) hM_108 d_108_113 rfl (by decide +kernel) ?_
          refine r_ld (pc' := 117) hM_108 d_108_116 rfl rfl ?_
          refine r_k (pc' := 118) (v := .inl 1) hM_108 d_108_117 rfl rfl ?_
          refine r_zs (pc' := 119) (n := 4096) hM_108 d_108_118 rfl rfl hz5 ?_
          refine r_sto (pc' := 122) (ls' := [some (.inr (.inr (some 34))), some (.inl n), some (.inl b), some (.inl (s + 1))]) hM_108 d_108_119 rfl rfl ?_
          refine r_go (pc' := 90) hM_108 d_108_122 (by decide) ?_
          exact hk
        exact H
theorem u_108_83 {Q : List am_V → am_M → Prop} {m : am_M} {n : Int} {b : Int}  (H : ((am_s n ≤ am_s b) → Q [] m) ∧ ((¬ (am_s n ≤ am_s b)) → ok 1 108 90 [some (.inr (.inr (some 34))), some (.inl n), some (.inl b), some (.inl 0)] [] m Q)) : ok 1 108 83 [some (.inr (.inr (some 34))), some (.inl n), some (.inl b), none] [] m Q := by
  refine ok_sg (pc' := 85) (ls' := [some (.inr (.inr (some 34))), some (.inl n), some (.inl b), none]) (st' := [.inl n, .inl b]) (m' := m) (fun fx hfx o hk => ?_) ?_
  · refine r_ld (pc' := 84) hM_108 d_108_83 rfl rfl ?_
    refine r_ld (pc' := 85) hM_108 d_108_84 rfl rfl ?_
    exact hk
  refine ok_ic (pc' := 132) (pc2 := 88) hM_108 d_108_85 (by decide) rfl (fun hz1 => ?_) (fun hz1 => ?_)
  · have H := H.1 hz1
    exact ok_rt (fun fx _ => rt_v hM_108 d_108_132 rfl) H
  · have H := H.2 hz1
    refine ok_sg (pc' := 90) (ls' := [some (.inr (.inr (some 34))), some (.inl n), some (.inl b), some (.inl 0)]) (st' := []) (m' := m) (fun fx hfx o hk => ?_) ?_
    · refine r_k (pc' := 89) (v := .inl 0) hM_108 d_108_88 rfl rfl ?_
      refine r_sto (pc' := 90) (ls' := [some (.inr (.inr (some 34))), some (.inl n), some (.inl b), some (.inl 0)]) hM_108 d_108_89 rfl rfl ?_
      exact hk
    exact H
theorem u_108_42 {Q : List am_V → am_M → Prop} {m : am_M} {n : Int} {i : Int} {j : Int}  (H : ((am_s i ≤ am_s j) → ok 1 108 32 [some (.inr (.inr (some 34))), some (.inl n), some (.inl (i + 1)), none] [] m Q) ∧ ((¬ (am_s i ≤ am_s j)) → (0 ≤ am_s i ∧ am_s i < (256 : Nat)) ∧ ((0 ≤ am_s j ∧ am_s j < (256 : Nat)) ∧ ((0 ≤ (am_lxorL (m 41 ((am_s i).toNat)) (m 41 ((am_s j).toNat))) ∧ (am_lxorL (m 41 ((am_s i).toNat)) (m 41 ((am_s j).toNat))) < 281474976710656) ∧ ((0 ≤ am_s (((pnN (am_lxorL (m 41 ((am_s i).toNat)) (m 41 ((am_s j).toNat))).toNat : Nat) : Int)) ∧ am_s (((pnN (am_lxorL (m 41 ((am_s i).toNat)) (m 41 ((am_s j).toNat))).toNat : Nat) : Int)) < (4096 : Nat)) ∧ (ok 1 108 42 [some (.inr (.inr (some 34))), some (.inl n), some (.inl i), some (.inl (j + 1))] [] (mu m 42 ((am_s (((pnN (am_lxorL (m 41 ((am_s i).toNat)) (m 41 ((am_s j).toNat))).toNat : Nat) : Int))).toNat) (am_b1 1)) Q)))))) : ok 1 108 42 [some (.inr (.inr (some 34))), some (.inl n), some (.inl i), some (.inl j)] [] m Q := by
  refine ok_sg (pc' := 44) (ls' := [some (.inr (.inr (some 34))), some (.inl n), some (.inl i), some (.inl j)]) (st' := [.inl i, .inl j]) (m' := m) (fun fx hfx o hk => ?_) ?_
  · refine r_ld (pc' := 43) hM_108 d_108_42 rfl rfl ?_
    refine r_ld (pc' := 44) hM_108 d_108_43 rfl rfl ?_
    exact hk
  refine ok_ic (pc' := 75) (pc2 := 47) hM_108 d_108_44 (by decide) rfl (fun hz1 => ?_) (fun hz1 => ?_)
  · have H := H.1 hz1
    refine ok_sg (pc' := 32) (ls' := [some (.inr (.inr (some 34))), some (.inl n), some (.inl (i + 1)), none]) (st' := []) (m' := m) (fun fx hfx o hk => ?_) ?_
    · refine r_sto (pc' := 78) (ls' := [some (.inr (.inr (some 34))), some (.inl n), some (.inl (i + 1)), some (.inl j)]) hM_108 d_108_75 rfl rfl ?_
      refine r_go (pc' := 32) hM_108 d_108_78 (by decide) ?_
      refine rn_wk (a := [some (.inr (.inr (some 34))), some (.inl n), some (.inl (i + 1)), none]) (by simp only [am_le, and_self]) ?_
      exact hk
    exact H
  · have H := H.2 hz1
    obtain ⟨hz2, H⟩ := H
    obtain ⟨hz3, H⟩ := H
    obtain ⟨hz4, H⟩ := H
    obtain ⟨hz5, H⟩ := H
    refine ok_sg (pc' := 42) (ls' := [some (.inr (.inr (some 34))), some (.inl n), some (.inl i), some (.inl (j + 1))]) (st' := []) (m' := mu m 42 ((am_s (((pnN (am_lxorL (m 41 ((am_s i).toNat)) (m 41 ((am_s j).toNat))).toNat : Nat) : Int))).toNat) (am_b1 1)) (fun fx hfx o hk => ?_) ?_
    · refine r_ld (pc' := 48) hM_108 d_108_47 rfl rfl ?_
      refine r_gR (pc' := 51) (v := 42) hM_108 d_108_48 rfl (by decide +kernel) ?_
      refine r_ld (pc' := 52) hM_108 d_108_51 rfl rfl ?_
      refine r_gR (pc' := 55) (v := 41) hM_108 d_108_52 rfl (by decide +kernel) ?_
      refine r_ld (pc' := 56) hM_108 d_108_55 rfl rfl ?_
      refine r_la (pc' := 57) (n := 256) hM_108 d_108_56 rfl rfl hz2 ?_
      refine r_ld (pc' := 58) hM_108 d_108_57 rfl rfl ?_
      refine r_gR (pc' := 61) (v := 41) hM_108 d_108_58 rfl (by decide +kernel) ?_
      refine r_ld (pc' := 62) hM_108 d_108_61 rfl rfl ?_
      refine r_la (pc' := 63) (n := 256) hM_108 d_108_62 rfl rfl hz3 ?_
      refine r_stk (pc' := 64) (st' := [.inr (.inl (am_lxorL (m 41 ((am_s i).toNat)) (m 41 ((am_s j).toNat)))), .inr (.inr (some 42))]) hM_108 d_108_63 rfl rfl ?_
      refine r_cl (pc' := 67) (c := (109, 2)) (a := [.inr (.inl (am_lxorL (m 41 ((am_s i).toNat)) (m 41 ((am_s j).toNat))))]) (q := [.inr (.inr (some 42))]) hM_108 d_108_64 rfl (by decide +kernel) hM_109 rfl rfl rfl (Nat.le_of_ble_eq_true rfl) (Nat.le_of_ble_eq_true rfl) (Or.inl rfl) (n_109  m (am_lxorL (m 41 ((am_s i).toNat)) (m 41 ((am_s j).toNat))) hz4) (Nat.le_of_ble_eq_true rfl) ?_
      show rn fx 1 (0, 0) 108 67 [some (.inr (.inr (some 34))), some (.inl n), some (.inl i), some (.inl j)] [.inl (((pnN (am_lxorL (m 41 ((am_s i).toNat)) (m 41 ((am_s j).toNat))).toNat : Nat) : Int)), .inr (.inr (some 42))] (st0 m) o
      refine r_k (pc' := 68) (v := .inl 1) hM_108 d_108_67 rfl rfl ?_
      refine r_zs (pc' := 69) (n := 4096) hM_108 d_108_68 rfl rfl hz5 ?_
      refine r_sto (pc' := 72) (ls' := [some (.inr (.inr (some 34))), some (.inl n), some (.inl i), some (.inl (j + 1))]) hM_108 d_108_69 rfl rfl ?_
      refine r_go (pc' := 42) hM_108 d_108_72 (by decide) ?_
      exact hk
    exact H
theorem u_108_32 {Q : List am_V → am_M → Prop} {m : am_M} {n : Int} {i : Int}  (H : ((am_s (m 34 10) ≤ am_s i) → ok 1 108 83 [some (.inr (.inr (some 34))), some (.inl n), some (.inl 1), none] [] m Q) ∧ ((¬ (am_s (m 34 10) ≤ am_s i)) → ok 1 108 42 [some (.inr (.inr (some 34))), some (.inl n), some (.inl i), some (.inl 0)] [] m Q)) : ok 1 108 32 [some (.inr (.inr (some 34))), some (.inl n), some (.inl i), none] [] m Q := by
  refine ok_sg (pc' := 37) (ls' := [some (.inr (.inr (some 34))), some (.inl n), some (.inl i), none]) (st' := [.inl (m 34 10), .inl i]) (m' := m) (fun fx hfx o hk => ?_) ?_
  · refine r_ld (pc' := 33) hM_108 d_108_32 rfl rfl ?_
    refine r_ld (pc' := 34) hM_108 d_108_33 rfl rfl ?_
    refine r_gI (pc' := 37) (k0 := 10) hM_108 d_108_34 rfl (by decide +kernel) ?_
    exact hk
  refine ok_ic (pc' := 81) (pc2 := 40) hM_108 d_108_37 (by decide) rfl (fun hz1 => ?_) (fun hz1 => ?_)
  · have H := H.1 hz1
    refine ok_sg (pc' := 83) (ls' := [some (.inr (.inr (some 34))), some (.inl n), some (.inl 1), none]) (st' := []) (m' := m) (fun fx hfx o hk => ?_) ?_
    · refine r_k (pc' := 82) (v := .inl 1) hM_108 d_108_81 rfl rfl ?_
      refine r_sto (pc' := 83) (ls' := [some (.inr (.inr (some 34))), some (.inl n), some (.inl 1), none]) hM_108 d_108_82 rfl rfl ?_
      exact hk
    exact H
  · have H := H.2 hz1
    refine ok_sg (pc' := 42) (ls' := [some (.inr (.inr (some 34))), some (.inl n), some (.inl i), some (.inl 0)]) (st' := []) (m' := m) (fun fx hfx o hk => ?_) ?_
    · refine r_k (pc' := 41) (v := .inl 0) hM_108 d_108_40 rfl rfl ?_
      refine r_sto (pc' := 42) (ls' := [some (.inr (.inr (some 34))), some (.inl n), some (.inl i), some (.inl 0)]) hM_108 d_108_41 rfl rfl ?_
      exact hk
    exact H
theorem u_108_12 {Q : List am_V → am_M → Prop} {m : am_M} {n : Int} {s : Int}  (H : ((am_s n ≤ am_s s) → ok 1 108 32 [some (.inr (.inr (some 34))), some (.inl n), some (.inl 0), none] [] m Q) ∧ ((¬ (am_s n ≤ am_s s)) → (0 ≤ am_s s ∧ am_s s < (4096 : Nat)) ∧ (ok 1 108 12 [some (.inr (.inr (some 34))), some (.inl n), some (.inl (s + 1)), none] [] (mu m 42 ((am_s s).toNat) (am_b1 0)) Q))) : ok 1 108 12 [some (.inr (.inr (some 34))), some (.inl n), some (.inl s), none] [] m Q := by
  refine ok_sg (pc' := 14) (ls' := [some (.inr (.inr (some 34))), some (.inl n), some (.inl s), none]) (st' := [.inl n, .inl s]) (m' := m) (fun fx hfx o hk => ?_) ?_
  · refine r_ld (pc' := 13) hM_108 d_108_12 rfl rfl ?_
    refine r_ld (pc' := 14) hM_108 d_108_13 rfl rfl ?_
    exact hk
  refine ok_ic (pc' := 30) (pc2 := 17) hM_108 d_108_14 (by decide) rfl (fun hz1 => ?_) (fun hz1 => ?_)
  · have H := H.1 hz1
    refine ok_sg (pc' := 32) (ls' := [some (.inr (.inr (some 34))), some (.inl n), some (.inl 0), none]) (st' := []) (m' := m) (fun fx hfx o hk => ?_) ?_
    · refine r_k (pc' := 31) (v := .inl 0) hM_108 d_108_30 rfl rfl ?_
      refine r_sto (pc' := 32) (ls' := [some (.inr (.inr (some 34))), some (.inl n), some (.inl 0), none]) hM_108 d_108_31 rfl rfl ?_
      exact hk
    exact H
  · have H := H.2 hz1
    obtain ⟨hz2, H⟩ := H
    refine ok_sg (pc' := 12) (ls' := [some (.inr (.inr (some 34))), some (.inl n), some (.inl (s + 1)), none]) (st' := []) (m' := mu m 42 ((am_s s).toNat) (am_b1 0)) (fun fx hfx o hk => ?_) ?_
    · refine r_ld (pc' := 18) hM_108 d_108_17 rfl rfl ?_
      refine r_gR (pc' := 21) (v := 42) hM_108 d_108_18 rfl (by decide +kernel) ?_
      refine r_ld (pc' := 22) hM_108 d_108_21 rfl rfl ?_
      refine r_k (pc' := 23) (v := .inl 0) hM_108 d_108_22 rfl rfl ?_
      refine r_zs (pc' := 24) (n := 4096) hM_108 d_108_23 rfl rfl hz2 ?_
      refine r_sto (pc' := 27) (ls' := [some (.inr (.inr (some 34))), some (.inl n), some (.inl (s + 1)), none]) hM_108 d_108_24 rfl rfl ?_
      refine r_go (pc' := 12) hM_108 d_108_27 (by decide) ?_
      exact hk
    exact H
theorem u_108_0 {Q : List am_V → am_M → Prop} {m : am_M}   (H : ok 1 108 12 [some (.inr (.inr (some 34))), some (.inl (am_shl 1 (m 2 4))), some (.inl 0), none] [] m Q) : ok 1 108 0 [some (.inr (.inr (some 34))), none, none, none] [] m Q := by
  refine ok_sg (pc' := 12) (ls' := [some (.inr (.inr (some 34))), some (.inl (am_shl 1 (m 2 4))), some (.inl 0), none]) (st' := []) (m' := m) (fun fx hfx o hk => ?_) ?_
  · refine r_k (pc' := 1) (v := .inl 1) hM_108 d_108_0 rfl rfl ?_
    refine r_ld (pc' := 2) hM_108 d_108_1 rfl rfl ?_
    refine r_gR (pc' := 5) (v := 2) hM_108 d_108_2 rfl (by decide +kernel) ?_
    refine r_gI (pc' := 8) (k0 := 4) hM_108 d_108_5 rfl (by decide +kernel) ?_
    refine r_b (pc' := 9) (z := (am_shl 1 (m 2 4))) hM_108 d_108_8 rfl rfl ?_
    refine r_sto (pc' := 10) (ls' := [some (.inr (.inr (some 34))), some (.inl (am_shl 1 (m 2 4))), none, none]) hM_108 d_108_9 rfl rfl ?_
    refine r_k (pc' := 11) (v := .inl 0) hM_108 d_108_10 rfl rfl ?_
    refine r_sto (pc' := 12) (ls' := [some (.inr (.inr (some 34))), some (.inl (am_shl 1 (m 2 4))), some (.inl 0), none]) hM_108 d_108_11 rfl rfl ?_
    exact hk
  exact H
/-- what is reached by adding of the first places -/
def RR (BS : Nat → Prop) (p s : Nat) : Prop := ∃ u, BS u ∧ sb s u ∧ ∀ i, p ≤ i → u.testBit i = s.testBit i
theorem xor_bit {s p i : Nat} : (s ^^^ 2 ^ p).testBit i = (s.testBit i ^^ decide (p = i)) := by
  rw [Nat.testBit_xor, Nat.testBit_two_pow]
theorem xor_sb {s p : Nat} (h : s.testBit p = true) : sb s (s ^^^ 2 ^ p) := by
  unfold sb
  rw [nat_sub]
  intro i hi
  rw [xor_bit] at hi
  by_cases hp : p = i
  · rw [← hp]; exact h
  · rw [decide_eq_false hp, Bool.xor_false] at hi
    exact hi
theorem xor_lt {s p : Nat} (h : s.testBit p = true) : s ^^^ 2 ^ p < s := by
  have h1 := sub_le (xor_sb h)
  have h2 : s ^^^ 2 ^ p ≠ s := by
    intro q
    have := xor_bit (s := s) (p := p) (i := p)
    rw [q, h, decide_eq_true rfl] at this
    exact absurd this (by decide)
  omega
theorem RR_s {BS : Nat → Prop} {p s : Nat} : RR BS (p + 1) s ↔ RR BS p s ∨ (s.testBit p = true ∧ RR BS p (s ^^^ 2 ^ p)) := by
  constructor
  · rintro ⟨u, h1, h2, h3⟩
    by_cases hp : u.testBit p = s.testBit p
    · refine Or.inl ⟨u, h1, h2, fun i hi => ?_⟩
      by_cases q : i = p
      · rw [q]; exact hp
      · exact h3 i (by omega)
    · have hs : s.testBit p = true := by
        cases h : s.testBit p
        · cases hu : u.testBit p
          · rw [h, hu] at hp; exact absurd rfl hp
          · have := nat_sub.mp h2 p hu
            rw [h] at this
            exact absurd this (by decide)
        · rfl
      have hu : u.testBit p = false := by
        cases h : u.testBit p
        · rfl
        · rw [h, hs] at hp; exact absurd rfl hp
      refine Or.inr ⟨hs, u, h1, ?_, fun i hi => ?_⟩
      · unfold sb
        rw [nat_sub]
        intro i hi
        rw [xor_bit]
        by_cases q : p = i
        · rw [← q, hu] at hi; exact absurd hi (by decide)
        · rw [decide_eq_false q, Bool.xor_false]
          exact nat_sub.mp h2 i hi
      · rw [xor_bit]
        by_cases q : p = i
        · rw [← q, hu, hs, decide_eq_true rfl]; rfl
        · rw [decide_eq_false q, Bool.xor_false]
          exact h3 i (by omega)
  · rintro (⟨u, h1, h2, h3⟩ | ⟨hs, u, h1, h2, h3⟩)
    · exact ⟨u, h1, h2, fun i hi => h3 i (by omega)⟩
    · refine ⟨u, h1, ?_, fun i hi => ?_⟩
      · unfold sb
        rw [nat_sub]
        intro i hi
        exact nat_sub.mp (xor_sb hs) i (nat_sub.mp h2 i hi)
      · rw [h3 i (by omega), xor_bit, decide_eq_false (by omega), Bool.xor_false]
theorem RR_0 {BS : Nat → Prop} {s : Nat} : RR BS 0 s ↔ BS s := by
  constructor
  · rintro ⟨u, h1, -, h3⟩
    have : u = s := Nat.eq_of_testBit_eq fun i => h3 i (Nat.zero_le _)
    rw [← this]
    exact h1
  · intro h
    exact ⟨s, h, Nat.and_self s, fun _ _ => rfl⟩
theorem RR_n {BS : Nat → Prop} {n s : Nat} (hs : s < 2 ^ n) : RR BS n s ↔ ∃ u, BS u ∧ sb s u := by
  constructor
  · rintro ⟨u, h1, h2, -⟩
    exact ⟨u, h1, h2⟩
  · rintro ⟨u, h1, h2⟩
    refine ⟨u, h1, h2, fun i hi => ?_⟩
    have hu := sub_le h2
    have hp : 2 ^ n ≤ 2 ^ i := Nat.pow_le_pow_right (by decide) hi
    rw [Nat.testBit_lt_two_pow (show u < 2 ^ i by omega), Nat.testBit_lt_two_pow (show s < 2 ^ i by omega)]
theorem shl_1 : ∀ p : Nat, p < 13 → am_shl ((2 ^ p : Nat) : Int) 1 = ((2 ^ (p + 1) : Nat) : Int) := by decide +kernel
theorem and_p2 {s p : Nat} : s &&& 2 ^ p = 0 ↔ s.testBit p = false := by
  constructor
  · intro h
    cases hb : s.testBit p
    · rfl
    · have : (s &&& 2 ^ p).testBit p = true := by rw [Nat.testBit_and, hb, Nat.testBit_two_pow_self]; rfl
      rw [h, Nat.zero_testBit] at this
      exact absurd this (by decide)
  · intro h
    apply Nat.eq_of_testBit_eq
    intro i
    rw [Nat.testBit_and, Nat.testBit_two_pow, Nat.zero_testBit]
    by_cases hi : p = i
    · rw [← hi, h, Bool.false_and]
    · rw [decide_eq_false hi, Bool.and_false]
theorem z_108   (m : am_M)  (hq : (0 ≤ m 2 4 ∧ m 2 4 ≤ 12) ∧ (0 ≤ m 34 10 ∧ m 34 10 ≤ 256) ∧ ∀ i : Nat, (i : Int) < m 34 10 → 0 ≤ m 41 i ∧ m 41 i < 281474976710656) : ok 1 108 0 (am_ent 4 [.inr (.inr (some 34))]) [] m (fun rr m' => rr = [] ∧ (∀ s : Nat, s < 2 ^ (m 2 4).toNat → (m' 42 s = 0 ∨ m' 42 s = 1) ∧ (m' 42 s = 1 ↔ ∃ i j : Nat, j < i ∧ (i : Int) < m 34 10 ∧ sb s (pnN ((m 41 i).toNat ^^^ (m 41 j).toNat)))) ∧ ∀ a, a ≠ 42 → m' a = m a) := by
  show ok 1 108 0 [some (.inr (.inr (some 34))), none, none, none] [] m _
  obtain ⟨hN, hS, hV⟩ := hq
  obtain ⟨N, hNv⟩ : ∃ N : Nat, m 2 4 = (N : Int) := ⟨(m 2 4).toNat, by omega⟩
  obtain ⟨S, hSv⟩ : ∃ S : Nat, m 34 10 = (S : Int) := ⟨(m 34 10).toNat, by omega⟩
  rw [hNv] at hN ⊢
  rw [hSv] at hS hV ⊢
  simp only [Int.toNat_natCast]
  have hp12 : 2 ^ N ≤ 2 ^ 12 := Nat.pow_le_pow_right (by decide) (by omega)
  have hpp := Nat.two_pow_pos N
  have e2N : am_s ((2 ^ N : Nat) : Int) = ((2 ^ N : Nat) : Int) := by
    generalize 2 ^ N = z at *
    exact am_s_id (by omega) (by omega)
  have eS : am_s (S : Int) = (S : Int) := am_s_id (by omega) (by omega)
  have hb0 : am_b1 0 = 0 := by decide +kernel
  have hb1 : am_b1 1 = 1 := by decide +kernel
  refine u_108_0 ?_
  rw [hNv, bx_shl1 N (by omega)]
  generalize hT : 2 ^ N = T at *
  refine ok_for (σ := Unit) (fun s _ => [some (.inr (.inr (some 34))), some (.inl (T : Int)), some (.inl (s : Int)), none]) (fun s _ M => (∀ s', s' < s → M 42 s' = 0) ∧ ∀ a, a ≠ 42 → M a = m a) T ?_ ?_ () m ⟨fun s' h => absurd h (Nat.not_lt_zero _), fun _ _ => rfl⟩
  · rintro s hs - M ⟨h1, h2⟩ IH
    refine u_108_12 ?_
    rw [e2N, am_s_id (z := (s : Int)) (by omega) (by omega), Int.toNat_natCast, hb0]
    refine ⟨fun q => by omega, fun _ => ⟨by omega, IH () _ ⟨fun s' hs' => ?_, fun a ha => by rw [mu_rf ha]; exact h2 a ha⟩⟩⟩
    rw [mu_if]
    by_cases h : s' = s
    · rw [if_pos h]
    · rw [if_neg h]; exact h1 s' (by omega)
  rintro - M0 ⟨h01, h02⟩
  refine u_108_12 ?_
  rw [e2N]
  refine ⟨fun _ => ?_, fun q => by omega⟩
  refine ok_for (σ := Unit) (fun i _ => [some (.inr (.inr (some 34))), some (.inl (T : Int)), some (.inl (i : Int)), none]) (fun i _ M => (∀ u, u < T → (M 42 u = 0 ∨ M 42 u = 1) ∧ (M 42 u = 1 ↔ ∃ x y : Nat, y < x ∧ x < i ∧ pnN ((m 41 x).toNat ^^^ (m 41 y).toNat) = u)) ∧ ∀ a, a ≠ 42 → M a = m a) S ?_ ?_ () M0 ⟨fun u hu => ⟨Or.inl (h01 u hu), by rw [h01 u hu]; exact ⟨fun q => absurd q (by decide), fun ⟨x, y, _, q, _⟩ => absurd q (Nat.not_lt_zero _)⟩⟩, h02⟩
  · rintro i hi - M ⟨h1, h2⟩ IH
    have hvi := hV i (by omega)
    refine u_108_32 ?_
    rw [h2 34 (by decide), hSv, eS, am_s_id (z := (i : Int)) (by omega) (by omega)]
    refine ⟨fun q => by omega, fun _ => ?_⟩
    refine ok_for (σ := Unit) (fun j _ => [some (.inr (.inr (some 34))), some (.inl (T : Int)), some (.inl (i : Int)), some (.inl (j : Int))]) (fun j _ M => (∀ u, u < T → (M 42 u = 0 ∨ M 42 u = 1) ∧ (M 42 u = 1 ↔ ∃ x y : Nat, y < x ∧ (x < i ∨ (x = i ∧ y < j)) ∧ pnN ((m 41 x).toNat ^^^ (m 41 y).toNat) = u)) ∧ ∀ a, a ≠ 42 → M a = m a) i ?_ ?_ () M ⟨fun u hu => ⟨(h1 u hu).1, (h1 u hu).2.trans ⟨fun ⟨x, y, q1, q2, q3⟩ => ⟨x, y, q1, Or.inl q2, q3⟩, fun ⟨x, y, q1, q2, q3⟩ => ⟨x, y, q1, by omega, q3⟩⟩⟩, h2⟩
    · rintro j hj - M1 ⟨k1, k2⟩ IH2
      have hvj := hV j (by omega)
      have e41i : M1 41 i = (((m 41 i).toNat : Nat) : Int) := by rw [k2 41 (by decide)]; omega
      have e41j : M1 41 j = (((m 41 j).toNat : Nat) : Int) := by rw [k2 41 (by decide)]; omega
      have hx : (m 41 i).toNat ^^^ (m 41 j).toNat < 2 ^ 48 := Nat.xor_lt_two_pow (by omega) (by omega)
      have hpl := pnN_lt ((m 41 i).toNat ^^^ (m 41 j).toNat)
      refine u_108_42 ?_
      rw [am_s_id (z := (i : Int)) (by omega) (by omega), am_s_id (z := (j : Int)) (by omega) (by omega), Int.toNat_natCast, Int.toNat_natCast, e41i, e41j, bx_xorL (by omega) (by omega), Int.toNat_natCast, am_s_id (z := ((pnN ((m 41 i).toNat ^^^ (m 41 j).toNat) : Nat) : Int)) (by omega) (by omega), Int.toNat_natCast, hb1]
      refine ⟨fun q => by omega, fun _ => ⟨by omega, by omega, by omega, by omega, IH2 () _ ⟨fun u hu => ?_, fun a ha => by rw [mu_rf ha]; exact k2 a ha⟩⟩⟩
      obtain ⟨z1, z2⟩ := k1 u hu
      rw [mu_if]
      by_cases h : u = pnN ((m 41 i).toNat ^^^ (m 41 j).toNat)
      · rw [if_pos h]
        exact ⟨Or.inr rfl, fun _ => ⟨i, j, hj, Or.inr ⟨rfl, by omega⟩, h.symm⟩, fun _ => rfl⟩
      · rw [if_neg h]
        refine ⟨z1, z2.trans ⟨fun ⟨x, y, q1, q2, q3⟩ => ⟨x, y, q1, by omega, q3⟩, fun ⟨x, y, q1, q2, q3⟩ => ⟨x, y, q1, ?_, q3⟩⟩⟩
        by_cases hxy : x = i ∧ y = j
        · rw [hxy.1, hxy.2] at q3
          exact absurd q3.symm h
        · omega
    · rintro - M1 ⟨k1, k2⟩
      refine u_108_42 ?_
      rw [am_s_id (z := (i : Int)) (by omega) (by omega)]
      refine ⟨fun _ => IH () M1 ⟨fun u hu => ⟨(k1 u hu).1, (k1 u hu).2.trans ⟨fun ⟨x, y, q1, q2, q3⟩ => ⟨x, y, q1, by omega, q3⟩, fun ⟨x, y, q1, q2, q3⟩ => ⟨x, y, q1, by omega, q3⟩⟩⟩, k2⟩, fun q => by omega⟩
  rintro - M2 ⟨h21, h22⟩
  refine u_108_32 ?_
  rw [h22 34 (by decide), hSv, eS]
  refine ⟨fun _ => ?_, fun q => by omega⟩
  have hBS : ∀ u, u < T → (M2 42 u = 0 ∨ M2 42 u = 1) ∧ (M2 42 u = 1 ↔ RR (fun u => ∃ x y : Nat, y < x ∧ x < S ∧ pnN ((m 41 x).toNat ^^^ (m 41 y).toNat) = u) 0 u) := fun u hu => ⟨(h21 u hu).1, by rw [RR_0]; exact (h21 u hu).2⟩
  have hfin : ∀ s, s < T → (RR (fun u => ∃ x y : Nat, y < x ∧ x < S ∧ pnN ((m 41 x).toNat ^^^ (m 41 y).toNat) = u) N s ↔ ∃ i j : Nat, j < i ∧ (i : Int) < (S : Int) ∧ sb s (pnN ((m 41 i).toNat ^^^ (m 41 j).toNat))) := by
    intro s hs
    rw [RR_n (by rw [hT]; exact hs)]
    constructor
    · rintro ⟨u, ⟨x, y, q1, q2, q3⟩, q4⟩
      exact ⟨x, y, q1, by omega, by rw [q3]; exact q4⟩
    · rintro ⟨x, y, q1, q2, q4⟩
      exact ⟨_, ⟨x, y, q1, by omega, rfl⟩, q4⟩
  generalize (fun u => ∃ x y : Nat, y < x ∧ x < S ∧ pnN ((m 41 x).toNat ^^^ (m 41 y).toNat) = u) = BS at *
  have key := ok_for (d := 1) (mi := 108) (pc := 83) (Q := fun rr m' => rr = [] ∧ (∀ s, s < T → (m' 42 s = 0 ∨ m' 42 s = 1) ∧ (m' 42 s = 1 ↔ ∃ i j : Nat, j < i ∧ (i : Int) < (S : Int) ∧ sb s (pnN ((m 41 i).toNat ^^^ (m 41 j).toNat)))) ∧ ∀ a, a ≠ 42 → m' a = m a) (σ := Unit) (fun p _ => [some (.inr (.inr (some 34))), some (.inl (T : Int)), some (.inl ((2 ^ p : Nat) : Int)), none]) (fun p _ M => (∀ u, u < T → (M 42 u = 0 ∨ M 42 u = 1) ∧ (M 42 u = 1 ↔ RR BS p u)) ∧ ∀ a, a ≠ 42 → M a = m a) N ?_ ?_ () M2 ⟨hBS, h22⟩
  · exact key
  · rintro p hp - M ⟨h1, h2⟩ IH
    have hpT : 2 ^ p < T := by
      rw [← hT]
      exact Nat.pow_lt_pow_right (by decide) hp
    have ep : am_s ((2 ^ p : Nat) : Int) = ((2 ^ p : Nat) : Int) := by
      generalize 2 ^ p = z at *
      exact am_s_id (by omega) (by omega)
    have hsh := shl_1 p (by omega)
    refine u_108_83 ?_
    rw [e2N, ep]
    refine ⟨fun q => by omega, fun _ => ?_⟩
    refine ok_for (σ := Unit) (fun s _ => [some (.inr (.inr (some 34))), some (.inl (T : Int)), some (.inl ((2 ^ p : Nat) : Int)), some (.inl (s : Int))]) (fun s _ M => (∀ u, u < T → (M 42 u = 0 ∨ M 42 u = 1) ∧ (u < s → (M 42 u = 1 ↔ RR BS (p + 1) u)) ∧ (s ≤ u → (M 42 u = 1 ↔ RR BS p u))) ∧ ∀ a, a ≠ 42 → M a = m a) T ?_ ?_ () M ⟨fun u hu => ⟨(h1 u hu).1, fun q => absurd q (Nat.not_lt_zero _), fun _ => (h1 u hu).2⟩, h2⟩
    · rintro s hs - M1 ⟨k1, k2⟩ IH2
      have exs : am_xor (s : Int) ((2 ^ p : Nat) : Int) = ((s ^^^ 2 ^ p : Nat) : Int) := bx_xor (k := 12) (by omega) (by omega) (by decide)
      have hxl : s ^^^ 2 ^ p < 2 ^ 12 := Nat.xor_lt_two_pow (by omega) (by omega)
      have hal : s &&& 2 ^ p ≤ s := Nat.and_le_left
      have ean : am_s (am_and (s : Int) ((2 ^ p : Nat) : Int)) = 0 ↔ s.testBit p = false := by
        rw [bx_and (by omega), ← and_p2, am_s_id (by omega) (by omega)]
        omega
      obtain ⟨y1, y2, y3⟩ := k1 s hs
      have y3 := y3 (Nat.le_refl _)
      -- the state where this cell is as it shall be
      have nxt : ∀ M' : am_M, (M' 42 s = 0 ∨ M' 42 s = 1) → (M' 42 s = 1 ↔ RR BS (p + 1) s) → (∀ u, u ≠ s → M' 42 u = M1 42 u) → (∀ a, a ≠ 42 → M' a = m a) → ok 1 108 90 [some (.inr (.inr (some 34))), some (.inl (T : Int)), some (.inl ((2 ^ p : Nat) : Int)), some (.inl ((s : Int) + 1))] [] M' (fun rr m' => rr = [] ∧ (∀ s, s < T → (m' 42 s = 0 ∨ m' 42 s = 1) ∧ (m' 42 s = 1 ↔ ∃ i j : Nat, j < i ∧ (i : Int) < (S : Int) ∧ sb s (pnN ((m 41 i).toNat ^^^ (m 41 j).toNat)))) ∧ ∀ a, a ≠ 42 → m' a = m a) := by
        intro M' z1 z2 z3 z4
        refine IH2 () M' ⟨fun u hu => ?_, z4⟩
        by_cases h : u = s
        · rw [h]
          exact ⟨z1, fun _ => z2, fun q => by omega⟩
        · obtain ⟨x1, x2, x3⟩ := k1 u hu
          rw [z3 u h]
          exact ⟨x1, fun q => x2 (by omega), fun q => x3 (by omega)⟩
      refine u_108_90 ?_
      rw [e2N, am_s_id (z := (s : Int)) (by omega) (by omega), ean, exs, am_s_id (z := ((s ^^^ 2 ^ p : Nat) : Int)) (by omega) (by omega), Int.toNat_natCast, Int.toNat_natCast, hb1]
      refine ⟨fun q => by omega, fun _ => ⟨fun q => nxt M1 y1 ?_ (fun _ _ => rfl) k2, fun q => ⟨by omega, ?_⟩⟩⟩
      · rw [RR_s, y3]
        exact ⟨Or.inl, fun h => h.elim id (fun k => by rw [q] at k; exact absurd k.1 (by decide))⟩
      · have hbt : s.testBit p = true := by
          cases h : s.testBit p
          · exact absurd h q
          · rfl
        have hlt := xor_lt hbt
        obtain ⟨x1, x2, -⟩ := k1 (s ^^^ 2 ^ p) (by omega)
        have x2 := x2 hlt
        have hx0 : (s ^^^ 2 ^ p).testBit p = false := by
          rw [xor_bit, hbt, decide_eq_true rfl]
          rfl
        have x4 : M1 42 (s ^^^ 2 ^ p) = 1 ↔ RR BS p (s ^^^ 2 ^ p) := by
          rw [x2, RR_s]
          exact ⟨fun h => h.elim id (fun k => by rw [hx0] at k; exact absurd k.1 (by decide)), Or.inl⟩
        have e42 : am_s (M1 42 (s ^^^ 2 ^ p)) = M1 42 (s ^^^ 2 ^ p) := by
          rcases x1 with h | h <;> rw [h] <;> rfl
        rw [e42]
        refine ⟨fun q2 => nxt M1 y1 ?_ (fun _ _ => rfl) k2, fun q2 => ⟨by omega, nxt _ (Or.inr mu_same) ?_ (fun u hu => mu_k hu) (fun a ha => by rw [mu_rf ha]; exact k2 a ha)⟩⟩
        · rw [RR_s, y3]
          exact ⟨Or.inl, fun h => h.elim id (fun k => by rw [x4.mpr k.2] at q2; exact absurd q2 (by decide))⟩
        · rw [mu_same, RR_s]
          exact ⟨fun _ => Or.inr ⟨hbt, x4.mp (x1.elim (fun h => absurd h q2) id)⟩, fun _ => rfl⟩
    · rintro - M1 ⟨k1, k2⟩
      refine u_108_90 ?_
      rw [e2N, hsh]
      exact ⟨fun _ => IH () M1 ⟨fun u hu => ⟨(k1 u hu).1, (k1 u hu).2.1 hu⟩, k2⟩, fun q => by omega⟩
  · rintro - M ⟨h1, h2⟩
    refine u_108_83 ?_
    rw [hT, e2N]
    exact ⟨fun _ => ⟨rfl, fun s hs => ⟨(h1 s hs).1, (h1 s hs).2.trans (hfin s hs)⟩, h2⟩, fun q => by omega⟩
