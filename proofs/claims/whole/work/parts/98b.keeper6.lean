theorem u_130_27 {Q : List am_V → am_M → Prop} {m : am_M} {s : Int} {p : Int} {b : Int} {c : Int}  {PRE : am_M → Int → Int → Prop} {POST : am_M → Int → Int → Int → am_M → Prop} {h0 : Nat} (hh0 : 2 ≤ h0) (hrec : ∀ (m : am_M) (s p : Int), PRE m s p → ok h0 130 0 (am_ent 6 [.inr (.inr (some 43)), .inl s, .inl p]) [] m (fun rr m' => ∃ v' : Int, rr = [.inl v'] ∧ POST m s p v' m')) (H : ((am_s (am_shl 1 (m 43 3)) ≤ am_s c) → ((0 ≤ s ∧ s < 16777216) ∧ 0 ≤ b ∧ b < 64) ∧ (∀ (m1 : am_M), (∃ j, j < 8192 ∧ m1 = mu m 45 j (s * 64 + b + 1)) → Q [.inl b] m1)) ∧ ((¬ (am_s (am_shl 1 (m 43 3)) ≤ am_s c)) → (0 ≤ c ∧ c < 4096) ∧ (((¬ am_s (((cnt c.toNat 12 : Nat) : Int)) = am_s (m 43 4)) → ok (h0 + 1) 130 27 [some (.inr (.inr (some 43))), some (.inl s), some (.inl p), none, some (.inl b), some (.inl (c + 1))] [] m Q) ∧ ((am_s (((cnt c.toNat 12 : Nat) : Int)) = am_s (m 43 4)) → (KOK m ∧ (0 ≤ s ∧ s < 32768) ∧ (0 ≤ c ∧ c < 4096) ∧ 0 ≤ (8 : Int) ∧ (8 : Int) ≤ 8) ∧ (∀ (v2 : Int) (m2 : am_M), (m2 = m ∧ (v2 = 0 ∨ v2 = 1) ∧ (v2 = 1 ↔ KCH m s.toNat c.toNat (8 : Int).toNat)) → ((am_s v2 = 0) → ok (h0 + 1) 130 27 [some (.inr (.inr (some 43))), some (.inl s), some (.inl p), none, some (.inl b), some (.inl (c + 1))] [] m2 Q) ∧ ((¬ (am_s v2 = 0)) → (KOK m2 ∧ (0 ≤ s ∧ s < 32768) ∧ 0 ≤ c ∧ c < 4096) ∧ (∀ (m3 : am_M), (m3 = m2) → (PRE m3 ((kpk (ktp (kF m2) c.toNat (kfl s.toNat)) (kn m2) : Nat) : Int) (p + 1)) ∧ (∀ (v4 : Int) (m4 : am_M), (POST m3 ((kpk (ktp (kF m2) c.toNat (kfl s.toNat)) (kn m2) : Nat) : Int) (p + 1) v4 m4) → ((am_s (p + (v_74 m4 b (1 + v4))) < 30) → ok (h0 + 1) 130 27 [some (.inr (.inr (some 43))), some (.inl s), some (.inl p), none, some (.inl (v_74 m4 b (1 + v4))), some (.inl (c + 1))] [] m4 Q) ∧ ((¬ (am_s (p + (v_74 m4 b (1 + v4))) < 30)) → Q [.inl (30 - p)] m4))))))))) : ok (h0 + 1) 130 27 [some (.inr (.inr (some 43))), some (.inl s), some (.inl p), none, some (.inl b), some (.inl c)] [] m Q := by
  refine ok_sg (pc' := 35) (ls' := [some (.inr (.inr (some 43))), some (.inl s), some (.inl p), none, some (.inl b), some (.inl c)]) (st' := [.inl (am_shl 1 (m 43 3)), .inl c]) (m' := m) (fun fx hfx o hk => ?_) ?_
  · refine r_ld (pc' := 29) hM_130 d_130_27 rfl rfl ?_
    refine r_k (pc' := 30) (v := .inl 1) hM_130 d_130_29 rfl rfl ?_
    refine r_ld (pc' := 31) hM_130 d_130_30 rfl rfl ?_
    refine r_gI (pc' := 34) (k0 := 3) hM_130 d_130_31 rfl (by decide +kernel) ?_
    refine r_b (pc' := 35) (z := (am_shl 1 (m 43 3))) hM_130 d_130_34 rfl rfl ?_
    exact hk
  refine ok_ic (pc' := 105) (pc2 := 38) hM_130 d_130_35 (by decide) rfl (fun hz1 => ?_) (fun hz1 => ?_)
  · have H := H.1 hz1
    obtain ⟨hz2, H⟩ := H
    refine ok_sg (pc' := 109) (ls' := [some (.inr (.inr (some 43))), some (.inl s), some (.inl p), none, some (.inl b), some (.inl c)]) (st' := [.inl b, .inl s, .inr (.inr (some 43))]) (m' := m) (fun fx hfx o hk => ?_) ?_
    · refine r_ld (pc' := 106) hM_130 d_130_105 rfl rfl ?_
      refine r_ld (pc' := 107) hM_130 d_130_106 rfl rfl ?_
      refine r_ld (pc' := 109) hM_130 d_130_107 rfl rfl ?_
      exact hk
    refine ok_cl (pc' := 112) (c := (124, 0)) (a := [.inr (.inr (some 43)), .inl s, .inl b]) (q := []) hM_130 d_130_109 rfl (by decide +kernel) hM_124 rfl rfl rfl (Nat.le_of_ble_eq_true rfl) (Nat.le_of_ble_eq_true rfl) (Or.inr rfl) (z_124  m s b hz2) (by omega) ?_
    rintro _ m1 ⟨rfl, hz3⟩
    replace H := H  m1 hz3
    show ok (h0 + 1) 130 112 [some (.inr (.inr (some 43))), some (.inl s), some (.inl p), none, some (.inl b), some (.inl c)] [] m1 Q
    refine ok_sg (pc' := 114) (ls' := [some (.inr (.inr (some 43))), some (.inl s), some (.inl p), none, some (.inl b), some (.inl c)]) (st' := [.inl b]) (m' := m1) (fun fx hfx o hk => ?_) ?_
    · refine r_ld (pc' := 114) hM_130 d_130_112 rfl rfl ?_
      exact hk
    exact ok_rt (fun fx _ => rt_i hM_130 d_130_114 rfl) H
  · have H := H.2 hz1
    obtain ⟨hz4, H⟩ := H
    refine ok_sg (pc' := 47) (ls' := [some (.inr (.inr (some 43))), some (.inl s), some (.inl p), none, some (.inl b), some (.inl c)]) (st' := [.inl (m 43 4), .inl (((cnt c.toNat 12 : Nat) : Int))]) (m' := m) (fun fx hfx o hk => ?_) ?_
    · refine r_ld (pc' := 40) hM_130 d_130_38 rfl rfl ?_
      refine r_cl (pc' := 43) (c := (72, 2)) (a := [.inl c]) (q := []) hM_130 d_130_40 rfl (by decide +kernel) hM_72 rfl rfl rfl (Nat.le_of_ble_eq_true rfl) (Nat.le_of_ble_eq_true rfl) (Or.inl rfl) (n_72  m c hz4) (by omega) ?_
      show rn fx (h0 + 1) (0, 0) 130 43 [some (.inr (.inr (some 43))), some (.inl s), some (.inl p), none, some (.inl b), some (.inl c)] [.inl (((cnt c.toNat 12 : Nat) : Int))] (st0 m) o
      refine r_ld (pc' := 44) hM_130 d_130_43 rfl rfl ?_
      refine r_gI (pc' := 47) (k0 := 4) hM_130 d_130_44 rfl (by decide +kernel) ?_
      exact hk
    refine ok_ic (pc' := 99) (pc2 := 50) hM_130 d_130_47 (by decide) rfl (fun hz5 => ?_) (fun hz5 => ?_)
    · have H := H.1 hz5
      refine ok_sg (pc' := 27) (ls' := [some (.inr (.inr (some 43))), some (.inl s), some (.inl p), none, some (.inl b), some (.inl (c + 1))]) (st' := []) (m' := m) (fun fx hfx o hk => ?_) ?_
      · refine r_sto (pc' := 102) (ls' := [some (.inr (.inr (some 43))), some (.inl s), some (.inl p), none, some (.inl b), some (.inl (c + 1))]) hM_130 d_130_99 rfl rfl ?_
        refine r_go (pc' := 27) hM_130 d_130_102 (by decide) ?_
        exact hk
      exact H
    · have H := H.2 (Decidable.not_not.mp hz5)
      obtain ⟨hz6, H⟩ := H
      refine ok_sg (pc' := 56) (ls' := [some (.inr (.inr (some 43))), some (.inl s), some (.inl p), none, some (.inl b), some (.inl c)]) (st' := [.inl 8, .inl c, .inl s, .inr (.inr (some 43))]) (m' := m) (fun fx hfx o hk => ?_) ?_
      · refine r_ld (pc' := 51) hM_130 d_130_50 rfl rfl ?_
        refine r_ld (pc' := 52) hM_130 d_130_51 rfl rfl ?_
        refine r_ld (pc' := 54) hM_130 d_130_52 rfl rfl ?_
        refine r_k (pc' := 56) (v := .inl 8) hM_130 d_130_54 rfl rfl ?_
        exact hk
      refine ok_cl (pc' := 59) (c := (121, 0)) (a := [.inr (.inr (some 43)), .inl s, .inl c, .inl 8]) (q := []) hM_130 d_130_56 rfl (by decide +kernel) hM_121 rfl rfl rfl (Nat.le_of_ble_eq_true rfl) (Nat.le_of_ble_eq_true rfl) (Or.inr rfl) (z_121  m s c 8 hz6) (by omega) ?_
      rintro _ m2 ⟨v2, rfl, hz7⟩
      replace H := H v2 m2 hz7
      show ok (h0 + 1) 130 59 [some (.inr (.inr (some 43))), some (.inl s), some (.inl p), none, some (.inl b), some (.inl c)] [.inl v2] m2 Q
      refine ok_if (pc' := 99) (pc2 := 62) hM_130 d_130_59 (by decide) rfl (fun hz8 => ?_) (fun hz8 => ?_)
      · have H := H.1 hz8
        refine ok_sg (pc' := 27) (ls' := [some (.inr (.inr (some 43))), some (.inl s), some (.inl p), none, some (.inl b), some (.inl (c + 1))]) (st' := []) (m' := m2) (fun fx hfx o hk => ?_) ?_
        · refine r_sto (pc' := 102) (ls' := [some (.inr (.inr (some 43))), some (.inl s), some (.inl p), none, some (.inl b), some (.inl (c + 1))]) hM_130 d_130_99 rfl rfl ?_
          refine r_go (pc' := 27) hM_130 d_130_102 (by decide) ?_
          exact hk
        exact H
      · have H := H.2 hz8
        obtain ⟨hz9, H⟩ := H
        refine ok_sg (pc' := 70) (ls' := [some (.inr (.inr (some 43))), some (.inl s), some (.inl p), none, some (.inl b), some (.inl c)]) (st' := [.inl c, .inl s, .inr (.inr (some 43)), .inr (.inr (some 43)), .inl 1, .inl b]) (m' := m2) (fun fx hfx o hk => ?_) ?_
        · refine r_ld (pc' := 64) hM_130 d_130_62 rfl rfl ?_
          refine r_k (pc' := 65) (v := .inl 1) hM_130 d_130_64 rfl rfl ?_
          refine r_ld (pc' := 66) hM_130 d_130_65 rfl rfl ?_
          refine r_ld (pc' := 67) hM_130 d_130_66 rfl rfl ?_
          refine r_ld (pc' := 68) hM_130 d_130_67 rfl rfl ?_
          refine r_ld (pc' := 70) hM_130 d_130_68 rfl rfl ?_
          exact hk
        refine ok_cl (pc' := 73) (c := (122, 0)) (a := [.inr (.inr (some 43)), .inl s, .inl c]) (q := [.inr (.inr (some 43)), .inl 1, .inl b]) hM_130 d_130_70 rfl (by decide +kernel) hM_122 rfl rfl rfl (Nat.le_of_ble_eq_true rfl) (Nat.le_of_ble_eq_true rfl) (Or.inr rfl) (z_122  m2 s c hz9) (by omega) ?_
        rintro _ m3 ⟨rfl, hz10⟩
        replace H := H  m3 hz10
        show ok (h0 + 1) 130 73 [some (.inr (.inr (some 43))), some (.inl s), some (.inl p), none, some (.inl b), some (.inl c)] [.inl ((kpk (ktp (kF m2) c.toNat (kfl s.toNat)) (kn m2) : Nat) : Int), .inr (.inr (some 43)), .inl 1, .inl b] m3 Q
        obtain ⟨hz11, H⟩ := H
        refine ok_sg (pc' := 76) (ls' := [some (.inr (.inr (some 43))), some (.inl s), some (.inl p), none, some (.inl b), some (.inl c)]) (st' := [.inl (p + 1), .inl ((kpk (ktp (kF m2) c.toNat (kfl s.toNat)) (kn m2) : Nat) : Int), .inr (.inr (some 43)), .inl 1, .inl b]) (m' := m3) (fun fx hfx o hk => ?_) ?_
        · refine r_ld (pc' := 74) hM_130 d_130_73 rfl rfl ?_
          refine r_k (pc' := 75) (v := .inl 1) hM_130 d_130_74 rfl rfl ?_
          refine r_b (pc' := 76) (z := (p + 1)) hM_130 d_130_75 rfl rfl ?_
          exact hk
        refine ok_cl (pc' := 79) (c := (130, 0)) (a := [.inr (.inr (some 43)), .inl ((kpk (ktp (kF m2) c.toNat (kfl s.toNat)) (kn m2) : Nat) : Int), .inl (p + 1)]) (q := [.inl 1, .inl b]) hM_130 d_130_76 rfl (by decide +kernel) hM_130 rfl rfl rfl (Nat.le_of_ble_eq_true rfl) (Nat.le_of_ble_eq_true rfl) (Or.inr rfl) (hrec  m3 ((kpk (ktp (kF m2) c.toNat (kfl s.toNat)) (kn m2) : Nat) : Int) (p + 1) hz11) (by omega) ?_
        rintro _ m4 ⟨v4, rfl, hz12⟩
        replace H := H v4 m4 hz12
        show ok (h0 + 1) 130 79 [some (.inr (.inr (some 43))), some (.inl s), some (.inl p), none, some (.inl b), some (.inl c)] [.inl v4, .inl 1, .inl b] m4 Q
        refine ok_sg (pc' := 91) (ls' := [some (.inr (.inr (some 43))), some (.inl s), some (.inl p), none, some (.inl (v_74 m4 b (1 + v4))), some (.inl c)]) (st' := [.inl 30, .inl (p + (v_74 m4 b (1 + v4)))]) (m' := m4) (fun fx hfx o hk => ?_) ?_
        · refine r_b (pc' := 80) (z := (1 + v4)) hM_130 d_130_79 rfl rfl ?_
          refine r_cl (pc' := 83) (c := (74, 2)) (a := [.inl b, .inl (1 + v4)]) (q := []) hM_130 d_130_80 rfl (by decide +kernel) hM_74 rfl rfl rfl (Nat.le_of_ble_eq_true rfl) (Nat.le_of_ble_eq_true rfl) (Or.inl rfl) (c_74  m4 b (1 + v4)) (by omega) ?_
          show rn fx (h0 + 1) (0, 0) 130 83 [some (.inr (.inr (some 43))), some (.inl s), some (.inl p), none, some (.inl b), some (.inl c)] [.inl (v_74 m4 b (1 + v4))] (st0 m4) o
          refine r_sto (pc' := 85) (ls' := [some (.inr (.inr (some 43))), some (.inl s), some (.inl p), none, some (.inl (v_74 m4 b (1 + v4))), some (.inl c)]) hM_130 d_130_83 rfl rfl ?_
          refine r_ld (pc' := 86) hM_130 d_130_85 rfl rfl ?_
          refine r_ld (pc' := 88) hM_130 d_130_86 rfl rfl ?_
          refine r_b (pc' := 89) (z := (p + (v_74 m4 b (1 + v4)))) hM_130 d_130_88 rfl rfl ?_
          refine r_k (pc' := 91) (v := .inl 30) hM_130 d_130_89 rfl rfl ?_
          exact hk
        refine ok_ic (pc' := 99) (pc2 := 94) hM_130 d_130_91 (by decide) rfl (fun hz13 => ?_) (fun hz13 => ?_)
        · have H := H.1 hz13
          refine ok_sg (pc' := 27) (ls' := [some (.inr (.inr (some 43))), some (.inl s), some (.inl p), none, some (.inl (v_74 m4 b (1 + v4))), some (.inl (c + 1))]) (st' := []) (m' := m4) (fun fx hfx o hk => ?_) ?_
          · refine r_sto (pc' := 102) (ls' := [some (.inr (.inr (some 43))), some (.inl s), some (.inl p), none, some (.inl (v_74 m4 b (1 + v4))), some (.inl (c + 1))]) hM_130 d_130_99 rfl rfl ?_
            refine r_go (pc' := 27) hM_130 d_130_102 (by decide) ?_
            exact hk
          exact H
        · have H := H.2 hz13
          refine ok_sg (pc' := 98) (ls' := [some (.inr (.inr (some 43))), some (.inl s), some (.inl p), none, some (.inl (v_74 m4 b (1 + v4))), some (.inl c)]) (st' := [.inl (30 - p)]) (m' := m4) (fun fx hfx o hk => ?_) ?_
          · refine r_k (pc' := 96) (v := .inl 30) hM_130 d_130_94 rfl rfl ?_
            refine r_ld (pc' := 97) hM_130 d_130_96 rfl rfl ?_
            refine r_b (pc' := 98) (z := (30 - p)) hM_130 d_130_97 rfl rfl ?_
            exact hk
          exact ok_rt (fun fx _ => rt_i hM_130 d_130_98 rfl) H
theorem u_130_0 {Q : List am_V → am_M → Prop} {m : am_M} {s : Int} {p : Int}  {PRE : am_M → Int → Int → Prop} {POST : am_M → Int → Int → Int → am_M → Prop} {h0 : Nat} (hh0 : 2 ≤ h0) (hrec : ∀ (m : am_M) (s p : Int), PRE m s p → ok h0 130 0 (am_ent 6 [.inr (.inr (some 43)), .inl s, .inl p]) [] m (fun rr m' => ∃ v' : Int, rr = [.inl v'] ∧ POST m s p v' m')) (H : ((am_s p < 30) → (TBR m ∧ 0 ≤ s ∧ s < 16777216) ∧ (∀ (v1 : Int) (m1 : am_M), (m1 = m ∧ (v1 = -1 ∨ ∃ j, j < 8192 ∧ m 45 j = s * 64 + v1 + 1 ∧ 0 ≤ v1 ∧ v1 < 64)) → ((am_s v1 = (-1)) → ok (h0 + 1) 130 27 [some (.inr (.inr (some 43))), some (.inl s), some (.inl p), none, some (.inl 0), some (.inl 0)] [] m1 Q) ∧ ((¬ (am_s v1 = (-1))) → Q [.inl v1] m1))) ∧ ((¬ (am_s p < 30)) → Q [.inl 0] m)) : ok (h0 + 1) 130 0 [some (.inr (.inr (some 43))), some (.inl s), some (.inl p), none, none, none] [] m Q := by
  refine ok_sg (pc' := 3) (ls' := [some (.inr (.inr (some 43))), some (.inl s), some (.inl p), none, none, none]) (st' := [.inl 30, .inl p]) (m' := m) (fun fx hfx o hk => ?_) ?_
  · refine r_ld (pc' := 1) hM_130 d_130_0 rfl rfl ?_
    refine r_k (pc' := 3) (v := .inl 30) hM_130 d_130_1 rfl rfl ?_
    exact hk
  refine ok_ic (pc' := 8) (pc2 := 6) hM_130 d_130_3 (by decide) rfl (fun hz1 => ?_) (fun hz1 => ?_)
  · have H := H.1 hz1
    obtain ⟨hz2, H⟩ := H
    refine ok_sg (pc' := 10) (ls' := [some (.inr (.inr (some 43))), some (.inl s), some (.inl p), none, none, none]) (st' := [.inl s, .inr (.inr (some 43))]) (m' := m) (fun fx hfx o hk => ?_) ?_
    · refine r_ld (pc' := 9) hM_130 d_130_8 rfl rfl ?_
      refine r_ld (pc' := 10) hM_130 d_130_9 rfl rfl ?_
      exact hk
    refine ok_cl (pc' := 13) (c := (119, 0)) (a := [.inr (.inr (some 43)), .inl s]) (q := []) hM_130 d_130_10 rfl (by decide +kernel) hM_119 rfl rfl rfl (Nat.le_of_ble_eq_true rfl) (Nat.le_of_ble_eq_true rfl) (Or.inr rfl) (z_119  m s hz2) (by omega) ?_
    rintro _ m1 ⟨v1, rfl, hz3⟩
    replace H := H v1 m1 hz3
    show ok (h0 + 1) 130 13 [some (.inr (.inr (some 43))), some (.inl s), some (.inl p), none, none, none] [.inl v1] m1 Q
    refine ok_sg (pc' := 16) (ls' := [some (.inr (.inr (some 43))), some (.inl s), some (.inl p), some (.inl v1), none, none]) (st' := [.inl (-1), .inl v1]) (m' := m1) (fun fx hfx o hk => ?_) ?_
    · refine r_sto (pc' := 14) (ls' := [some (.inr (.inr (some 43))), some (.inl s), some (.inl p), some (.inl v1), none, none]) hM_130 d_130_13 rfl rfl ?_
      refine r_ld (pc' := 15) hM_130 d_130_14 rfl rfl ?_
      refine r_k (pc' := 16) (v := .inl (-1)) hM_130 d_130_15 rfl rfl ?_
      exact hk
    refine ok_ic (pc' := 21) (pc2 := 19) hM_130 d_130_16 (by decide) rfl (fun hz4 => ?_) (fun hz4 => ?_)
    · have H := H.1 hz4
      refine ok_sg (pc' := 27) (ls' := [some (.inr (.inr (some 43))), some (.inl s), some (.inl p), none, some (.inl 0), some (.inl 0)]) (st' := []) (m' := m1) (fun fx hfx o hk => ?_) ?_
      · refine r_k (pc' := 22) (v := .inl 0) hM_130 d_130_21 rfl rfl ?_
        refine r_sto (pc' := 24) (ls' := [some (.inr (.inr (some 43))), some (.inl s), some (.inl p), some (.inl v1), some (.inl 0), none]) hM_130 d_130_22 rfl rfl ?_
        refine r_k (pc' := 25) (v := .inl 0) hM_130 d_130_24 rfl rfl ?_
        refine r_sto (pc' := 27) (ls' := [some (.inr (.inr (some 43))), some (.inl s), some (.inl p), some (.inl v1), some (.inl 0), some (.inl 0)]) hM_130 d_130_25 rfl rfl ?_
        refine rn_wk (a := [some (.inr (.inr (some 43))), some (.inl s), some (.inl p), none, some (.inl 0), some (.inl 0)]) (by simp only [am_le, and_self]) ?_
        exact hk
      exact H
    · have H := H.2 hz4
      refine ok_sg (pc' := 20) (ls' := [some (.inr (.inr (some 43))), some (.inl s), some (.inl p), some (.inl v1), none, none]) (st' := [.inl v1]) (m' := m1) (fun fx hfx o hk => ?_) ?_
      · refine r_ld (pc' := 20) hM_130 d_130_19 rfl rfl ?_
        exact hk
      exact ok_rt (fun fx _ => rt_i hM_130 d_130_20 rfl) H
  · have H := H.2 hz1
    refine ok_sg (pc' := 7) (ls' := [some (.inr (.inr (some 43))), some (.inl s), some (.inl p), none, none, none]) (st' := [.inl 0]) (m' := m) (fun fx hfx o hk => ?_) ?_
    · refine r_k (pc' := 7) (v := .inl 0) hM_130 d_130_6 rfl rfl ?_
      exact hk
    exact ok_rt (fun fx _ => rt_i hM_130 d_130_7 rfl) H
def KRL (n : Nat) (F : Nat → Nat) (H : Nat) (key v : Nat) : Prop := key < 8 ^ n → (KA n F H v (kfl key) ∧ ¬ KA n F H (v + 1) (kfl key)) ∧ v < 30
def KLR (n : Nat) (F : Nat → Nat) (H : Nat) (w : Nat → Nat) (p v : Int) : Prop := ∃ K : Nat, v = (K : Int) ∧ K ≤ 30 ∧ KA n F H K w ∧ (¬ KA n F H (K + 1) w ∨ (K : Int) = 30 - p)
def KQR (n : Nat) (F : Nat → Nat) (H k : Nat) (m : am_M) (s p : Int) : Prop := KS n F H (KRL n F H) m ∧ (0 ≤ s ∧ s.toNat < 8 ^ n) ∧ p = 30 - (k : Int) ∧ k ≤ 30
def KPO (n : Nat) (F : Nat → Nat) (H : Nat) (m : am_M) (s p v : Int) (m' : am_M) : Prop := KLR n F H (kfl s.toNat) p v ∧ TBS (KRL n F H) m' ∧ ∀ a, a ≠ 45 → m' a = m a
theorem last {n : Nat} {F : Nat → Nat} {H : Nat} (hn : n ≤ 5) : ∀ (k : Nat) (m : am_M) (s p : Int), KQR n F H k m s p → ok (k + 3) 130 0 (am_ent 6 [.inr (.inr (some 43)), .inl s, .inl p]) [] m (fun rr m' => ∃ v' : Int, rr = [.inl v'] ∧ KPO n F H m s p v' m') := by
  intro k
  induction k with
  | zero =>
    rintro m s p ⟨hKS, hs, hp, -⟩
    show ok (2 + 1) 130 0 [some (.inr (.inr (some 43))), some (.inl s), some (.inl p), none, none, none] [] m _
    refine u_130_0 (h0 := 2) (PRE := fun _ _ _ => False) (POST := fun _ _ _ _ _ => True) (by omega) (fun _ _ _ h => absurd h id) ?_
    rw [am_s_id (z := p) (by omega) (by omega)]
    exact ⟨fun q => by omega, fun _ => ⟨0, rfl, ⟨0, rfl, by omega, trivial, Or.inr (by omega)⟩, hKS.2.2.2.2, fun _ _ => rfl⟩⟩
  | succ k ih =>
    rintro m s p ⟨hKS, hs, hp, hk30⟩
    obtain ⟨S, rfl⟩ : ∃ S : Nat, s = (S : Int) := ⟨s.toNat, by omega⟩
    rw [Int.toNat_natCast] at hs
    obtain ⟨hK, e1, e2, e3, hT⟩ := id hKS
    have h15 := kp15 hn
    have hF : ∀ i, F i < 8 := fun i => by rw [← e2]; exact kF_lt
    have hp1 := Nat.two_pow_pos n
    have h32 : 2 ^ n ≤ 32 := Nat.le_trans (Nat.pow_le_pow_right (by decide) hn) (by decide)
    have hloop : ok (k + 3 + 1) 130 27 [some (.inr (.inr (some 43))), some (.inl (S : Int)), some (.inl p), none, some (.inl 0), some (.inl 0)] [] m (fun rr m' => ∃ v' : Int, rr = [.inl v'] ∧ KPO n F H m (S : Int) p v' m') := by
      refine ok_for (σ := Nat) (fun c b => [some (.inr (.inr (some 43))), some (.inl (S : Int)), some (.inl p), none, some (.inl (b : Int)), some (.inl (c : Int))]) (fun c b M => KS n F H (KRL n F H) M ∧ (∀ a, a ≠ 45 → M a = m a) ∧ p + (b : Int) < 30 ∧ KA n F H b (kfl S) ∧ ∀ s', s' < c → cnt s' 12 = H → kgo n (kfl S) s' → ¬ KA n F H b (ktp F s' (kfl S))) (2 ^ n) ?_ ?_ 0 m ⟨hKS, fun _ _ => rfl, by omega, trivial, fun s' h => absurd h (Nat.not_lt_zero _)⟩
      · rintro c hc b M ⟨hS1, hf, hb, hA, hL⟩ IH
        obtain ⟨hK1, f1, f2, f3, hT1⟩ := id hS1
        obtain ⟨hH1, hH2⟩ := KOK_H hK1
        have hcn := cnt_le c 12
        have hb1 := kpk_lt (w := ktp F c (kfl S)) (ktp_lt hF) n
        have hnd : kneed n 8 (kfl S) c := fun i _ _ => kfl_lt
        have hskip : ¬ (cnt c 12 = H ∧ kgo n (kfl S) c) → ∀ s', s' < c + 1 → cnt s' 12 = H → kgo n (kfl S) s' → ¬ KA n F H b (ktp F s' (kfl S)) := by
          intro h s' hs' q1 q2
          by_cases hh : s' = c
          · rw [hh] at q1 q2
            exact absurd ⟨q1, q2⟩ h
          · exact hL s' (by omega) q1 q2
        refine u_130_27 (h0 := k + 3) (PRE := KQR n F H k) (POST := KPO n F H) (by omega) ih ?_
        rw [(KOK_n hK1).1, hH1, hH2, f1, f3, bx_shl1 n (by omega), am_s_id (z := ((2 ^ n : Nat) : Int)) (by omega) (by omega), am_s_id (z := (c : Int)) (by omega) (by omega), show (8 : Int).toNat = 8 from rfl]
        simp only [Int.toNat_natCast]
        rw [am_s_id (z := ((cnt c 12 : Nat) : Int)) (by omega) (by omega)]
        refine ⟨fun q => by omega, fun _ => ⟨⟨by omega, by omega⟩, fun q => IH b M ⟨hS1, hf, hb, hA, hskip fun z => q (by rw [z.1])⟩, fun q => ⟨⟨hK1, ⟨by omega, by omega⟩, ⟨by omega, by omega⟩, by decide, by decide⟩, ?_⟩⟩⟩
        have hcH : cnt c 12 = H := by omega
        rintro v2 mx2 ⟨hmx2, hv, hiff⟩
        obtain rfl := hmx2.symm
        unfold KCH at hiff
        rw [f1, f3] at hiff
        refine ⟨fun q2 => IH b _ ⟨hS1, hf, hb, hA, hskip fun z => ?_⟩, fun q2 => ⟨⟨hK1, ⟨by omega, by omega⟩, by omega, by omega⟩, ?_⟩⟩
        · rw [hiff.mpr ⟨by omega, z.2, hnd⟩] at q2
          exact absurd q2 (by decide)
        · have hv1 : v2 = 1 := by
            rcases hv with h | h
            · rw [h] at q2; exact absurd rfl q2
            · exact h
          obtain ⟨g1, g2, g3⟩ := hiff.mp hv1
          intro mx3 hmx3
          obtain rfl := hmx3.symm
          rw [f1, f2]
          refine ⟨⟨hS1, ⟨by omega, by rw [Int.toNat_natCast]; exact hb1⟩, by omega, by omega⟩, ?_⟩
          rintro v4 m4 ⟨⟨K, hK4, hK5, hK6, hK7⟩, hT4, hf4⟩
          rw [Int.toNat_natCast] at hK6 hK7
          have hcg : ∀ i, i < n → kfl (kpk (ktp F c (kfl S)) n) i = ktp F c (kfl S) i := fun i hi => kfl_pk (ktp_lt hF) n i hi
          have hK6 := KA_congr K _ _ hcg hK6
          have hcg' : ¬ KA n F H (K + 1) (kfl (kpk (ktp F c (kfl S)) n)) → ¬ KA n F H (K + 1) (ktp F c (kfl S)) := fun z y => z (KA_congr (K + 1) _ _ (fun i hi => (hcg i hi).symm) y)
          have hKA : KA n F H (K + 1) (kfl S) := ⟨c, hc, hcH, g2, hK6⟩
          have hS4 := KS_fr hS1 hf4 hT4
          have hfm : ∀ a, a ≠ 45 → m4 a = m a := fun a ha => by rw [hf4 a ha, hf a ha]
          rw [hK4, v74 (by omega) (by omega) (by omega) (by omega), show max (b : Int) (1 + (K : Int)) = ((max b (1 + K) : Nat) : Int) by omega, am_s_id (by omega) (by omega)]
          refine ⟨fun q3 => IH (max b (1 + K)) m4 ⟨hS4, hfm, q3, ?_, fun s' hs' y1 y2 y3 => ?_⟩, fun q3 => ⟨_, rfl, ⟨(30 - p).toNat, by omega, by omega, ?_, Or.inr (by omega)⟩, hT4, hfm⟩⟩
          · by_cases hc1 : 1 + K ≤ b
            · rw [Nat.max_eq_left hc1]; exact hA
            · rw [Nat.max_eq_right (by omega), Nat.add_comm]; exact hKA
          · by_cases hh : s' = c
            · rw [hh] at y3
              rcases hK7 with z | z
              · exact hcg' z (KA_mono (by omega) y3)
              · omega
            · exact hL s' (by omega) y1 y2 (KA_mono (by omega) y3)
          · exact KA_mono (by omega) hKA
      · rintro b M ⟨hS1, hf, hb, hA, hL⟩
        obtain ⟨hK1, f1, f2, f3, hT1⟩ := id hS1
        have hex : ¬ KA n F H (b + 1) (kfl S) := by
          rintro ⟨s', y1, y2, y3, y4⟩
          exact hL s' y1 y2 y3 y4
        refine u_130_27 (h0 := k + 3) (PRE := KQR n F H k) (POST := KPO n F H) (by omega) ih ?_
        rw [(KOK_n hK1).1, f1, bx_shl1 n (by omega), am_s_id (z := ((2 ^ n : Nat) : Int)) (by omega) (by omega)]
        refine ⟨fun _ => ⟨⟨⟨by omega, by omega⟩, by omega, by omega⟩, ?_⟩, fun q => by omega⟩
        rintro mx1 ⟨j, hj, hmx⟩
        refine ⟨_, rfl, ⟨b, rfl, by omega, ?_, Or.inl ?_⟩, TBS_u hT1 (k := S) (v := b) (by omega) (by omega) (fun _ => ⟨⟨hA, hex⟩, by omega⟩) hmx, fun a ha => by rw [hmx, mu_rf ha]; exact hf a ha⟩
        · rw [Int.toNat_natCast]; exact hA
        · rw [Int.toNat_natCast]; exact hex
    show ok (k + 3 + 1) 130 0 [some (.inr (.inr (some 43))), some (.inl (S : Int)), some (.inl p), none, none, none] [] m _
    refine u_130_0 (h0 := k + 3) (PRE := KQR n F H k) (POST := KPO n F H) (by omega) ih ?_
    rw [am_s_id (z := p) (by omega) (by omega)]
    refine ⟨fun _ => ⟨⟨TBS_R hT, by omega, by omega⟩, ?_⟩, fun q => by omega⟩
    rintro v1 mx ⟨hmx, hv⟩
    obtain rfl := hmx.symm
    rcases hv with hv | ⟨j, hj, j1, j2, j3⟩
    · rw [hv]
      exact ⟨fun _ => hloop, fun q => absurd rfl q⟩
    · obtain ⟨V, rfl⟩ : ∃ V : Nat, v1 = (V : Int) := ⟨v1.toNat, by omega⟩
      rw [am_s_id (z := (V : Int)) (by omega) (by omega)]
      obtain ⟨⟨y1, y2⟩, y3⟩ := (hT j hj).2 S V (by omega) j1 hs.2
      refine ⟨fun q => by omega, fun _ => ⟨_, rfl, ⟨V, rfl, by omega, ?_, Or.inl ?_⟩, hT, fun _ _ => rfl⟩⟩
      · rw [Int.toNat_natCast]; exact y1
      · rw [Int.toNat_natCast]; exact y2
theorem z_130 (m : am_M) (s p : Int) (hq : KQR (kn m) (kF m) (kH m) (30 - p).toNat m s p) : ok 33 130 0 (am_ent 6 [.inr (.inr (some 43)), .inl s, .inl p]) [] m (fun rr m' => ∃ v' : Int, rr = [.inl v'] ∧ KPO (kn m) (kF m) (kH m) m s p v' m') :=
  (last (KOK_n hq.1.1).2.1 (30 - p).toNat m s p hq).mono (by have := hq.2.2; omega)
theorem u_129_0 {Q : List am_V → am_M → Prop} {m : am_M}   (H : ((am_s (m 43 4) < am_s (m 43 3)) → (KQR (kn (flm m 45 8192 0)) (kF (flm m 45 8192 0)) (kH (flm m 45 8192 0)) (30 - (0 : Int)).toNat (flm m 45 8192 0) ((flm m 45 8192 0) 43 5) (0 : Int)) ∧ (∀ (v1 : Int) (m1 : am_M), (KPO (kn (flm m 45 8192 0)) (kF (flm m 45 8192 0)) (kH (flm m 45 8192 0)) (flm m 45 8192 0) ((flm m 45 8192 0) 43 5) 0 v1 m1) → Q [.inl v1] m1)) ∧ ((¬ (am_s (m 43 4) < am_s (m 43 3))) → Q [.inl 30] m)) : ok 34 129 0 [some (.inr (.inr (some 43)))] [] m Q := by
  refine ok_sg (pc' := 8) (ls' := [some (.inr (.inr (some 43)))]) (st' := [.inl (m 43 3), .inl (m 43 4)]) (m' := m) (fun fx hfx o hk => ?_) ?_
  · refine r_ld (pc' := 1) hM_129 d_129_0 rfl rfl ?_
    refine r_gI (pc' := 4) (k0 := 4) hM_129 d_129_1 rfl (by decide +kernel) ?_
    refine r_ld (pc' := 5) hM_129 d_129_4 rfl rfl ?_
    refine r_gI (pc' := 8) (k0 := 3) hM_129 d_129_5 rfl (by decide +kernel) ?_
    exact hk
  refine ok_ic (pc' := 14) (pc2 := 11) hM_129 d_129_8 (by decide) rfl (fun hz1 => ?_) (fun hz1 => ?_)
  · have H := H.1 hz1
    obtain ⟨hz2, H⟩ := H
    refine ok_sg (pc' := 28) (ls' := [some (.inr (.inr (some 43)))]) (st' := [.inl 0, .inl ((flm m 45 8192 0) 43 5), .inr (.inr (some 43))]) (m' := flm m 45 8192 0) (fun fx hfx o hk => ?_) ?_
    · refine r_ld (pc' := 15) hM_129 d_129_14 rfl rfl ?_
      refine r_gR (pc' := 18) (v := 45) hM_129 d_129_15 rfl (by decide +kernel) ?_
      refine r_k (pc' := 19) (v := .inl 0) hM_129 d_129_18 rfl rfl ?_
      refine r_cl (pc' := 22) (c := (96, 2)) (a := [.inr (.inr (some 45)), .inl 0]) (q := []) hM_129 d_129_19 rfl (by decide +kernel) hM_96 rfl rfl rfl (Nat.le_of_ble_eq_true rfl) (Nat.le_of_ble_eq_true rfl) (Or.inl rfl) (c_96_45 m 0) (Nat.le_of_ble_eq_true rfl) ?_
      show rn fx 34 (0, 0) 129 22 [some (.inr (.inr (some 43)))] [] (st0 (flm m 45 8192 0)) o
      refine r_ld (pc' := 23) hM_129 d_129_22 rfl rfl ?_
      refine r_ld (pc' := 24) hM_129 d_129_23 rfl rfl ?_
      refine r_gI (pc' := 27) (k0 := 5) hM_129 d_129_24 rfl (by decide +kernel) ?_
      refine r_k (pc' := 28) (v := .inl 0) hM_129 d_129_27 rfl rfl ?_
      exact hk
    refine ok_cl (pc' := 31) (c := (130, 0)) (a := [.inr (.inr (some 43)), .inl ((flm m 45 8192 0) 43 5), .inl 0]) (q := []) hM_129 d_129_28 rfl (by decide +kernel) hM_130 rfl rfl rfl (Nat.le_of_ble_eq_true rfl) (Nat.le_of_ble_eq_true rfl) (Or.inr rfl) (z_130  (flm m 45 8192 0) ((flm m 45 8192 0) 43 5) 0 hz2) (Nat.le_of_ble_eq_true rfl) ?_
    rintro _ m1 ⟨v1, rfl, hz3⟩
    replace H := H v1 m1 hz3
    show ok 34 129 31 [some (.inr (.inr (some 43)))] [.inl v1] m1 Q
    exact ok_rt (fun fx _ => rt_i hM_129 d_129_31 rfl) H
  · have H := H.2 hz1
    refine ok_sg (pc' := 13) (ls' := [some (.inr (.inr (some 43)))]) (st' := [.inl 30]) (m' := m) (fun fx hfx o hk => ?_) ?_
    · refine r_k (pc' := 13) (v := .inl 30) hM_129 d_129_11 rfl rfl ?_
      exact hk
    exact ok_rt (fun fx _ => rt_i hM_129 d_129_13 rfl) H
theorem z_129   (m : am_M)  (hq : KST m) : ok 34 129 0 (am_ent 1 [.inr (.inr (some 43))]) [] m (fun rr m' => ∃ v' : Int, rr = [.inl (v')] ∧ KLR (kn m) (kF m) (min (kH m) (kn m)) (kfl (m 43 5).toNat) 0 v' ∧ ∀ a, a ≠ 45 → m' a = m a) := by
  show ok 34 129 0 [some (.inr (.inr (some 43)))] [] m _
  obtain ⟨hK, h5⟩ := hq
  obtain ⟨hn1, hn2, hn3⟩ := KOK_n hK
  obtain ⟨hH1, hH2⟩ := KOK_H hK
  have e43 : flm m 45 8192 0 43 = m 43 := flm_fr (by decide)
  obtain ⟨g1, g2, g3, g4⟩ := kfr e43
  refine u_129_0 ?_
  rw [hn1, hn3, hH1, hH2]
  refine ⟨fun q => ?_, fun q => ?_⟩
  · rw [e43, g1, g2, g3]
    refine ⟨⟨⟨g4 hK, g1, g2, g3, TBS_0⟩, h5, by decide, by decide⟩, ?_⟩
    rintro v1 m1 ⟨h1, -, h3⟩
    refine ⟨_, rfl, ?_, fun a ha => by rw [h3 a ha, flm_fr ha]⟩
    rw [Nat.min_eq_left (by omega)]
    exact h1
  · refine ⟨_, rfl, ⟨30, rfl, by decide, ?_, Or.inr (by decide)⟩, fun _ _ => rfl⟩
    rw [Nat.min_eq_right (by omega)]
    exact KA_all (by omega) 30 _
