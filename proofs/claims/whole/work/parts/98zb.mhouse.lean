theorem z_164   (m : am_M)   : ok 0 164 0 (am_ent 2 [.inr (.inr (some 57))]) [] m (fun rr m' => rr = [] ∧ (∀ j, j < 56 → m' 57 j = pl0 (fun _ => 0) j) ∧ ∀ a j, ¬ (a = 57 ∧ j < 56) → m' a j = m a j) := by
  show ok 0 164 0 [some (.inr (.inr (some 57))), none] [] m _
  refine u_164_0 ?_
  refine ok_for (σ := Unit) (fun k _ => [some (.inr (.inr (some 57))), some (.inl (k : Int))]) (fun k _ M => (∀ j, j < k → M 57 j = 0) ∧ ∀ a j, ¬ (a = 57 ∧ j < 56) → M a j = m a j) 56 ?_ ?_ () m ⟨fun j h => absurd h (Nat.not_lt_zero _), fun _ _ _ => rfl⟩
  · rintro k hk - M ⟨h1, h2⟩ IH
    refine u_164_2 ?_
    rw [am_s_id (z := (k : Int)) (by omega) (by omega), Int.toNat_natCast]
    refine ⟨fun q => by omega, fun _ => ⟨⟨by omega, by omega⟩, IH () _ ⟨fun j hj => ?_, fun a j hj => by rw [mu_o (by omega)]; exact h2 a j hj⟩⟩⟩
    rw [mu_if]
    by_cases hh : j = k
    · rw [if_pos hh]
    · rw [if_neg hh]; exact h1 j (by omega)
  · rintro - M ⟨h1, h2⟩
    refine u_164_2 ?_
    rw [show am_s ((56 : Nat) : Int) = 56 by decide]
    refine ⟨fun _ => ⟨rfl, fun j hj => ?_, fun a j hj => ?_⟩, fun q => absurd (by decide) q⟩
    · by_cases h8 : j < 8
      · have hc : j = 0 ∨ j = 1 ∨ j = 2 ∨ j = 3 ∨ j = 4 ∨ j = 5 ∨ j = 6 ∨ j = 7 := by omega
        rw [mu_if, mu_if, mu_if, mu_if, h1 j hj]
        rcases hc with rfl | rfl | rfl | rfl | rfl | rfl | rfl | rfl <;> rfl
      · unfold pl0
        rw [if_neg h8, mu_o (by omega), mu_o (by omega), mu_o (by omega), mu_o (by omega), h1 j hj]
    · rw [mu_o (by omega), mu_o (by omega), mu_o (by omega), mu_o (by omega)]
      exact h2 a j hj
theorem u_166_120 {Q : List am_V → am_M → Prop} {m : am_M} {k : Int}  (H : ((56 ≤ am_s k) → Q [.inl (m 54 7)] m) ∧ ((¬ (56 ≤ am_s k)) → (0 ≤ am_s k ∧ am_s k < (56 : Nat)) ∧ ((0 ≤ am_s k ∧ am_s k < (168 : Nat)) ∧ (ok 9 166 120 [some (.inr (.inr (some 53))), none, some (.inl (k + 1))] [] (mu m 54 ((am_s k).toNat) (m 57 ((am_s k).toNat))) Q)))) : ok 9 166 120 [some (.inr (.inr (some 53))), none, some (.inl k)] [] m Q := by
  refine ok_sg (pc' := 123) (ls' := [some (.inr (.inr (some 53))), none, some (.inl k)]) (st' := [.inl 56, .inl k]) (m' := m) (fun fx hfx o hk => ?_) ?_
  · refine r_ld (pc' := 121) hM_166 d_166_120 rfl rfl ?_
    refine r_k (pc' := 123) (v := .inl 56) hM_166 d_166_121 rfl rfl ?_
    exact hk
  refine ok_ic (pc' := 144) (pc2 := 126) hM_166 d_166_123 (by decide) rfl (fun hz1 => ?_) (fun hz1 => ?_)
  · have H := H.1 hz1
    refine ok_sg (pc' := 151) (ls' := [some (.inr (.inr (some 53))), none, some (.inl k)]) (st' := [.inl (m 54 7)]) (m' := m) (fun fx hfx o hk => ?_) ?_
    · refine r_ld (pc' := 145) hM_166 d_166_144 rfl rfl ?_
      refine r_gR (pc' := 148) (v := 54) hM_166 d_166_145 rfl (by decide +kernel) ?_
      refine r_k (pc' := 150) (v := .inl 7) hM_166 d_166_148 rfl rfl ?_
      refine r_iae (pc' := 151) (n := 168) (z := (m 54 7)) hM_166 d_166_150 rfl rfl (by decide) (by rw [show (am_s 7).toNat = 7 by decide]) ?_
      exact hk
    exact ok_rt (fun fx _ => rt_i hM_166 d_166_151 rfl) H
  · have H := H.2 hz1
    obtain ⟨hz2, H⟩ := H
    obtain ⟨hz3, H⟩ := H
    refine ok_sg (pc' := 120) (ls' := [some (.inr (.inr (some 53))), none, some (.inl (k + 1))]) (st' := []) (m' := mu m 54 ((am_s k).toNat) (m 57 ((am_s k).toNat))) (fun fx hfx o hk => ?_) ?_
    · refine r_ld (pc' := 127) hM_166 d_166_126 rfl rfl ?_
      refine r_gR (pc' := 130) (v := 54) hM_166 d_166_127 rfl (by decide +kernel) ?_
      refine r_ld (pc' := 131) hM_166 d_166_130 rfl rfl ?_
      refine r_ld (pc' := 132) hM_166 d_166_131 rfl rfl ?_
      refine r_gR (pc' := 135) (v := 57) hM_166 d_166_132 rfl (by decide +kernel) ?_
      refine r_ld (pc' := 136) hM_166 d_166_135 rfl rfl ?_
      refine r_ia (pc' := 137) (n := 56) hM_166 d_166_136 rfl rfl hz2 ?_
      refine r_is (pc' := 138) (n := 168) hM_166 d_166_137 rfl rfl hz3 ?_
      refine r_sto (pc' := 141) (ls' := [some (.inr (.inr (some 53))), none, some (.inl (k + 1))]) hM_166 d_166_138 rfl rfl ?_
      refine r_go (pc' := 120) hM_166 d_166_141 (by decide) ?_
      exact hk
    exact H
theorem u_166_53 {Q : List am_V → am_M → Prop} {m : am_M}   (H : ((¬ am_s (m 53 11) = 0) → Q [.inl ((-30) - (m 53 11))] (mu (mu m 53 13 (m 53 11)) 53 14 (m 53 12))) ∧ ((am_s (m 53 11) = 0) → ((am_s (m 53 9) = 14) → ok 9 166 120 [some (.inr (.inr (some 53))), none, some (.inl 0)] [] (mu (mu m 53 13 (m 53 11)) 53 14 (-1)) Q) ∧ ((¬ (am_s (m 53 9) = 14)) → (MV m ∧ m 53 11 = 0 ∧ (0 ≤ m 57 0 ∧ m 57 0 ≤ 12) ∧ ZPL (m 57)) ∧ (∀ (m1 : am_M), (((∃ x : (Nat → Int) × TKN, LNR (m 56) (m 53 8).toNat (m 57) (mtok m) = .inr x ∧ m1 57 = up x.1 7 (x.1 7 + 1) ∧ mtok m1 = x.2 ∧ MV m1 ∧ m1 53 11 = 0 ∧ frG m m1) ∨ (∃ f : Int × Int, LNR (m 56) (m 53 8).toNat (m 57) (mtok m) = .inl f ∧ m1 53 11 = f.1 ∧ m1 53 12 = f.2 ∧ (1 ≤ f.1 ∧ f.1 ≤ 4) ∧ MV m1 ∧ frG m m1))) → ok 9 166 53 [some (.inr (.inr (some 53))), none, none] [] m1 Q)))) : ok 9 166 53 [some (.inr (.inr (some 53))), none, none] [] m Q := by
  refine ok_sg (pc' := 57) (ls' := [some (.inr (.inr (some 53))), none, none]) (st' := [.inl (m 53 11)]) (m' := m) (fun fx hfx o hk => ?_) ?_
  · refine r_ld (pc' := 54) hM_166 d_166_53 rfl rfl ?_
    refine r_gI (pc' := 57) (k0 := 11) hM_166 d_166_54 rfl (by decide +kernel) ?_
    exact hk
  refine ok_if (pc' := 76) (pc2 := 60) hM_166 d_166_57 (by decide) rfl (fun hz1 => ?_) (fun hz1 => ?_)
  · have H := H.1 hz1
    refine ok_sg (pc' := 117) (ls' := [some (.inr (.inr (some 53))), none, none]) (st' := [.inl ((-30) - (m 53 11))]) (m' := mu (mu m 53 13 (m 53 11)) 53 14 (m 53 12)) (fun fx hfx o hk => ?_) ?_
    · refine r_ld (pc' := 77) hM_166 d_166_76 rfl rfl ?_
      refine r_ld (pc' := 78) hM_166 d_166_77 rfl rfl ?_
      refine r_gI (pc' := 81) (k0 := 11) hM_166 d_166_78 rfl (by decide +kernel) ?_
      refine r_pI (pc' := 84) (k0 := 13) hM_166 d_166_81 rfl (by decide +kernel) ?_
      refine r_ld (pc' := 85) hM_166 d_166_84 rfl rfl ?_
      refine r_ld (pc' := 86) hM_166 d_166_85 rfl rfl ?_
      refine r_gIe (pc' := 89) (k0 := 11) (z := (m 53 11)) hM_166 d_166_86 rfl (by decide +kernel) (mu_k (by omega)) ?_
      refine r_if (pc' := 96) (pc2 := 92) hM_166 d_166_89 (by decide) rfl (fun _ => ?_) (fun hc => absurd hz1 hc)
      refine r_ld (pc' := 97) hM_166 d_166_96 rfl rfl ?_
      refine r_gIe (pc' := 100) (k0 := 12) (z := (m 53 12)) hM_166 d_166_97 rfl (by decide +kernel) (mu_k (by omega)) ?_
      refine r_pI (pc' := 103) (k0 := 14) hM_166 d_166_100 rfl (by decide +kernel) ?_
      refine r_ld (pc' := 104) hM_166 d_166_103 rfl rfl ?_
      refine r_gIe (pc' := 107) (k0 := 11) (z := (m 53 11)) hM_166 d_166_104 rfl (by decide +kernel) ((mu_k (by omega)).trans (mu_k (by omega))) ?_
      refine r_if (pc' := 118) (pc2 := 110) hM_166 d_166_107 (by decide) rfl (fun hc => absurd hc (fun q => hz1 q)) (fun _ => ?_)
      refine r_k (pc' := 112) (v := .inl (-30)) hM_166 d_166_110 rfl rfl ?_
      refine r_ld (pc' := 113) hM_166 d_166_112 rfl rfl ?_
      refine r_gIe (pc' := 116) (k0 := 11) (z := (m 53 11)) hM_166 d_166_113 rfl (by decide +kernel) ((mu_k (by omega)).trans (mu_k (by omega))) ?_
      refine r_b (pc' := 117) (z := ((-30) - (m 53 11))) hM_166 d_166_116 rfl rfl ?_
      exact hk
    exact ok_rt (fun fx _ => rt_i hM_166 d_166_117 rfl) H
  · have H := H.2 (Decidable.not_not.mp hz1)
    refine ok_sg (pc' := 66) (ls' := [some (.inr (.inr (some 53))), none, none]) (st' := [.inl 14, .inl (m 53 9)]) (m' := m) (fun fx hfx o hk => ?_) ?_
    · refine r_ld (pc' := 61) hM_166 d_166_60 rfl rfl ?_
      refine r_gI (pc' := 64) (k0 := 9) hM_166 d_166_61 rfl (by decide +kernel) ?_
      refine r_k (pc' := 66) (v := .inl 14) hM_166 d_166_64 rfl rfl ?_
      exact hk
    refine ok_ic (pc' := 76) (pc2 := 69) hM_166 d_166_66 (by decide) rfl (fun hz2 => ?_) (fun hz2 => ?_)
    · have H := H.1 hz2
      refine ok_sg (pc' := 120) (ls' := [some (.inr (.inr (some 53))), none, some (.inl 0)]) (st' := []) (m' := mu (mu m 53 13 (m 53 11)) 53 14 (-1)) (fun fx hfx o hk => ?_) ?_
      · refine r_ld (pc' := 77) hM_166 d_166_76 rfl rfl ?_
        refine r_ld (pc' := 78) hM_166 d_166_77 rfl rfl ?_
        refine r_gI (pc' := 81) (k0 := 11) hM_166 d_166_78 rfl (by decide +kernel) ?_
        refine r_pI (pc' := 84) (k0 := 13) hM_166 d_166_81 rfl (by decide +kernel) ?_
        refine r_ld (pc' := 85) hM_166 d_166_84 rfl rfl ?_
        refine r_ld (pc' := 86) hM_166 d_166_85 rfl rfl ?_
        refine r_gIe (pc' := 89) (k0 := 11) (z := (m 53 11)) hM_166 d_166_86 rfl (by decide +kernel) (mu_k (by omega)) ?_
        refine r_if (pc' := 96) (pc2 := 92) hM_166 d_166_89 (by decide) rfl (fun hc => absurd hc hz1) (fun _ => ?_)
        refine r_k (pc' := 93) (v := .inl (-1)) hM_166 d_166_92 rfl rfl ?_
        refine r_go (pc' := 100) hM_166 d_166_93 (by decide) ?_
        refine r_pI (pc' := 103) (k0 := 14) hM_166 d_166_100 rfl (by decide +kernel) ?_
        refine r_ld (pc' := 104) hM_166 d_166_103 rfl rfl ?_
        refine r_gIe (pc' := 107) (k0 := 11) (z := (m 53 11)) hM_166 d_166_104 rfl (by decide +kernel) ((mu_k (by omega)).trans (mu_k (by omega))) ?_
        refine r_if (pc' := 118) (pc2 := 110) hM_166 d_166_107 (by decide) rfl (fun _ => ?_) (fun hc => absurd (Decidable.not_not.mp hz1) hc)
        refine r_k (pc' := 119) (v := .inl 0) hM_166 d_166_118 rfl rfl ?_
        refine r_sto (pc' := 120) (ls' := [some (.inr (.inr (some 53))), none, some (.inl 0)]) hM_166 d_166_119 rfl rfl ?_
        exact hk
      exact H
    · have H := H.2 hz2
      obtain ⟨hz3, H⟩ := H
      refine ok_sg (pc' := 70) (ls' := [some (.inr (.inr (some 53))), none, none]) (st' := [.inr (.inr (some 53))]) (m' := m) (fun fx hfx o hk => ?_) ?_
      · refine r_ld (pc' := 70) hM_166 d_166_69 rfl rfl ?_
        exact hk
      refine ok_cl (pc' := 73) (c := (173, 0)) (a := [.inr (.inr (some 53))]) (q := []) hM_166 d_166_70 rfl (by decide +kernel) hM_173 rfl rfl rfl (Nat.le_of_ble_eq_true rfl) (Nat.le_of_ble_eq_true rfl) (Or.inr rfl) (z_173  m  hz3) (Nat.le_of_ble_eq_true rfl) ?_
      rintro _ m1 ⟨rfl, hz4⟩
      replace H := H  m1 hz4
      show ok 9 166 73 [some (.inr (.inr (some 53))), none, none] [] m1 Q
      refine ok_sg (pc' := 53) (ls' := [some (.inr (.inr (some 53))), none, none]) (st' := []) (m' := m1) (fun fx hfx o hk => ?_) ?_
      · refine r_go (pc' := 53) hM_166 d_166_73 (by decide) ?_
        exact hk
      exact H
theorem u_166_0 {Q : List am_V → am_M → Prop} {m : am_M} {k : Int}  (H : ((am_t 0 ≤ am_t (am_s k) ∧ am_t (am_s k) ≤ am_t (am_s (m 53 5))) → ∀ (m1 : am_M), ((∀ j, j < 56 → m1 57 j = pl0 (fun _ => 0) j) ∧ ∀ a j, ¬ (a = 57 ∧ j < 56) → m1 a j = (mu (mu (mu (mu (mu m 53 0 0) 53 8 k) 53 5 0) 53 7 0) 53 11 0) a j) → (MDR m1) ∧ (∀ (m2 : am_M), (mtok m2 = tok (m1 56) (m1 53 8).toNat (m1 53 7).toNat ∧ MV m2 ∧ frM m1 m2) → ok 9 166 53 [some (.inr (.inr (some 53))), none, none] [] m2 Q)) ∧ ((¬ (am_t 0 ≤ am_t (am_s k) ∧ am_t (am_s k) ≤ am_t (am_s (m 53 5)))) → Q [.inl (-3)] (mu m 53 0 0))) : ok 9 166 0 [some (.inr (.inr (some 53))), some (.inl k), none] [] m Q := by
  refine ok_sg (pc' := 16) (ls' := [some (.inr (.inr (some 53))), some (.inl k), none]) (st' := [.inl ((if am_t 0 ≤ am_t (am_s k) ∧ am_t (am_s k) ≤ am_t (am_s (m 53 5)) then 1 else 0))]) (m' := mu m 53 0 0) (fun fx hfx o hk => ?_) ?_
  · refine r_ld (pc' := 1) hM_166 d_166_0 rfl rfl ?_
    refine r_k (pc' := 2) (v := .inl 0) hM_166 d_166_1 rfl rfl ?_
    refine r_pI (pc' := 5) (k0 := 0) hM_166 d_166_2 rfl (by decide +kernel) ?_
    refine r_ld (pc' := 6) hM_166 d_166_5 rfl rfl ?_
    refine r_stk (pc' := 7) (st' := [.inr (.inl (am_s k))]) hM_166 d_166_6 rfl rfl ?_
    refine r_k (pc' := 8) (v := .inr (.inl 0)) hM_166 d_166_7 rfl rfl ?_
    refine r_ld (pc' := 9) hM_166 d_166_8 rfl rfl ?_
    refine r_gIe (pc' := 12) (k0 := 5) (z := (m 53 5)) hM_166 d_166_9 rfl (by decide +kernel) (mu_k (by omega)) ?_
    refine r_stk (pc' := 13) (st' := [.inr (.inl (am_s (m 53 5))), .inr (.inl 0), .inr (.inl (am_s k))]) hM_166 d_166_12 rfl rfl ?_
    refine r_cl (pc' := 16) (c := (167, 2)) (a := [.inr (.inl (am_s k)), .inr (.inl 0), .inr (.inl (am_s (m 53 5)))]) (q := []) hM_166 d_166_13 rfl (by decide +kernel) hM_167 rfl rfl rfl (Nat.le_of_ble_eq_true rfl) (Nat.le_of_ble_eq_true rfl) (Or.inl rfl) (n_167  (mu m 53 0 0) (am_s k) 0 (am_s (m 53 5))) (Nat.le_of_ble_eq_true rfl) ?_
    show rn fx 9 (0, 0) 166 16 [some (.inr (.inr (some 53))), some (.inl k), none] [.inl ((if am_t 0 ≤ am_t (am_s k) ∧ am_t (am_s k) ≤ am_t (am_s (m 53 5)) then 1 else 0))] (st0 (mu m 53 0 0)) o
    exact hk
  refine ok_if (pc' := 22) (pc2 := 19) hM_166 d_166_16 (by decide) rfl (fun hz1 => ?_) (fun hz1 => ?_)
  · have H := H.1 (as_iteN.mp hz1)
    refine ok_sg (pc' := 46) (ls' := [some (.inr (.inr (some 53))), some (.inl k), none]) (st' := [.inr (.inr (some 57))]) (m' := mu (mu (mu (mu (mu m 53 0 0) 53 8 k) 53 5 0) 53 7 0) 53 11 0) (fun fx hfx o hk => ?_) ?_
    · refine r_ld (pc' := 23) hM_166 d_166_22 rfl rfl ?_
      refine r_ld (pc' := 24) hM_166 d_166_23 rfl rfl ?_
      refine r_pI (pc' := 27) (k0 := 8) hM_166 d_166_24 rfl (by decide +kernel) ?_
      refine r_ld (pc' := 28) hM_166 d_166_27 rfl rfl ?_
      refine r_k (pc' := 29) (v := .inl 0) hM_166 d_166_28 rfl rfl ?_
      refine r_pI (pc' := 32) (k0 := 5) hM_166 d_166_29 rfl (by decide +kernel) ?_
      refine r_ld (pc' := 33) hM_166 d_166_32 rfl rfl ?_
      refine r_k (pc' := 34) (v := .inl 0) hM_166 d_166_33 rfl rfl ?_
      refine r_pI (pc' := 37) (k0 := 7) hM_166 d_166_34 rfl (by decide +kernel) ?_
      refine r_ld (pc' := 38) hM_166 d_166_37 rfl rfl ?_
      refine r_k (pc' := 39) (v := .inl 0) hM_166 d_166_38 rfl rfl ?_
      refine r_pI (pc' := 42) (k0 := 11) hM_166 d_166_39 rfl (by decide +kernel) ?_
      refine r_ld (pc' := 43) hM_166 d_166_42 rfl rfl ?_
      refine r_gR (pc' := 46) (v := 57) hM_166 d_166_43 rfl (by decide +kernel) ?_
      exact hk
    refine ok_cl (pc' := 49) (c := (164, 2)) (a := [.inr (.inr (some 57))]) (q := []) hM_166 d_166_46 rfl (by decide +kernel) hM_164 rfl rfl rfl (Nat.le_of_ble_eq_true rfl) (Nat.le_of_ble_eq_true rfl) (Or.inl rfl) (z_164  (mu (mu (mu (mu (mu m 53 0 0) 53 8 k) 53 5 0) 53 7 0) 53 11 0) ) (Nat.le_of_ble_eq_true rfl) ?_
    rintro _ m1 ⟨rfl, hz2⟩
    replace H := H  m1 hz2
    show ok 9 166 49 [some (.inr (.inr (some 53))), some (.inl k), none] [] m1 Q
    obtain ⟨hz3, H⟩ := H
    refine ok_sg (pc' := 50) (ls' := [some (.inr (.inr (some 53))), some (.inl k), none]) (st' := [.inr (.inr (some 53))]) (m' := m1) (fun fx hfx o hk => ?_) ?_
    · refine r_ld (pc' := 50) hM_166 d_166_49 rfl rfl ?_
      exact hk
    refine ok_cl (pc' := 53) (c := (168, 0)) (a := [.inr (.inr (some 53))]) (q := []) hM_166 d_166_50 rfl (by decide +kernel) hM_168 rfl rfl rfl (Nat.le_of_ble_eq_true rfl) (Nat.le_of_ble_eq_true rfl) (Or.inr rfl) (z_168  m1  hz3) (Nat.le_of_ble_eq_true rfl) ?_
    rintro _ m2 ⟨rfl, hz4⟩
    replace H := H  m2 hz4
    show ok 9 166 53 [some (.inr (.inr (some 53))), some (.inl k), none] [] m2 Q
    refine ok_sg (pc' := 53) (ls' := [some (.inr (.inr (some 53))), none, none]) (st' := []) (m' := m2) (fun fx hfx o hk => ?_) ?_
    · refine rn_wk (a := [some (.inr (.inr (some 53))), none, none]) (by simp only [am_le, and_self]) ?_
      exact hk
    exact H
  · have H := H.2 (as_ite.mp (Decidable.not_not.mp hz1))
    refine ok_sg (pc' := 21) (ls' := [some (.inr (.inr (some 53))), some (.inl k), none]) (st' := [.inl (-3)]) (m' := mu m 53 0 0) (fun fx hfx o hk => ?_) ?_
    · refine r_k (pc' := 21) (v := .inl (-3)) hM_166 d_166_19 rfl rfl ?_
      exact hk
    exact ok_rt (fun fx _ => rt_i hM_166 d_166_21 rfl) H
