def TRD (m : am_M) : Prop := ∀ s, 1 ≤ s → s < 2 ^ BN (nv (vw m 2)) → ∀ j, j < BN (nv (vw m 2)) → s.testBit j = true → m 52 (8 * s + j) = DD (adj (nv (vw m 2))) (tau (nv (vw m 2))) (BN (nv (vw m 2))) (BN (nv (vw m 2)) - cnt s 12) s j
theorem TRD_BSP {m : am_M} {s : Nat} (hB : BN (nv (vw m 2)) ≤ 8) (hs : s < 2 ^ BN (nv (vw m 2))) (h : ∀ s', s < s' → s' < 2 ^ BN (nv (vw m 2)) → ∀ j, j < BN (nv (vw m 2)) → s'.testBit j = true → m 52 (8 * s' + j) = DD (adj (nv (vw m 2))) (tau (nv (vw m 2))) (BN (nv (vw m 2))) (BN (nv (vw m 2)) - cnt s' 12) s' j) : BSP m s := by
  intro j hj hb
  have hjp : 2 ^ j < 2 ^ BN (nv (vw m 2)) := Nat.pow_lt_pow_right (by decide) hj
  have := h (s ||| 2 ^ j) (or_gt hb) (Nat.or_lt_two_pow hs hjp) j hj (by rw [Nat.testBit_or, Nat.testBit_two_pow_self, Bool.or_true])
  rw [cnt_orb hb (by omega)] at this
  exact this
theorem ex_clear {s B : Nat} (hs : s < 2 ^ B) (h : s ≠ 2 ^ B - 1) : ∃ j, j < B ∧ s.testBit j = false := by
  by_cases hh : ∃ j, j < B ∧ s.testBit j = false
  · exact hh
  · exfalso
    apply h
    apply Nat.eq_of_testBit_eq
    intro i
    rw [Nat.testBit_two_pow_sub_one]
    by_cases hi : i < B
    · rw [decide_eq_true hi]
      cases hb : s.testBit i
      · exact absurd ⟨i, hi, hb⟩ hh
      · rfl
    · rw [decide_eq_false hi]
      exact Nat.testBit_lt_two_pow (Nat.lt_of_lt_of_le hs (Nat.pow_le_pow_right (by decide : 0 < 2) (by omega)))
theorem u_147_17 {Q : List am_V → am_M → Prop} {m : am_M} {a : Int} {s : Int} {l : Int}  (H : ((am_s (m 49 4) ≤ am_s l) → ok 3 147 11 [some (.inr (.inr (some 49))), some (.inl a), some (.inl (s + (-1))), none] [] m Q) ∧ ((¬ (am_s (m 49 4) ≤ am_s l)) → ((am_s (am_and (am_shr s l) 1) = 0) → ok 3 147 17 [some (.inr (.inr (some 49))), some (.inl a), some (.inl s), some (.inl (l + 1))] [] m Q) ∧ ((¬ (am_s (am_and (am_shr s l) 1) = 0)) → ((¬ am_s s = am_s a) → (LYD m ∧ (0 ≤ s ∧ s.toNat < 2 ^ BN (nv (vw m 2))) ∧ cnt s.toNat 12 < BN (nv (vw m 2)) ∧ (l = -1 ∧ cnt s.toNat 12 = 0 ∨ 0 ≤ l ∧ l < ((BN (nv (vw m 2)) : Nat) : Int)) ∧ BSP m s.toNat) ∧ (∀ (m1 : am_M), (m1 = m) → (0 ≤ am_s ((s * 8) + l) ∧ am_s ((s * 8) + l) < (2048 : Nat)) ∧ (ok 3 147 17 [some (.inr (.inr (some 49))), some (.inl a), some (.inl s), some (.inl (l + 1))] [] (mu m1 52 ((am_s ((s * 8) + l)).toNat) (DD (adj (nv (vw m 2))) (tau (nv (vw m 2))) (BN (nv (vw m 2))) (BN (nv (vw m 2)) - cnt s.toNat 12) s.toNat l.toNat)) Q))) ∧ ((am_s s = am_s a) → (0 ≤ am_s ((s * 8) + l) ∧ am_s ((s * 8) + l) < (2048 : Nat)) ∧ (ok 3 147 17 [some (.inr (.inr (some 49))), some (.inl a), some (.inl s), some (.inl (l + 1))] [] (mu m 52 ((am_s ((s * 8) + l)).toNat) 1000) Q))))) : ok 3 147 17 [some (.inr (.inr (some 49))), some (.inl a), some (.inl s), some (.inl l)] [] m Q := by
  refine ok_sg (pc' := 22) (ls' := [some (.inr (.inr (some 49))), some (.inl a), some (.inl s), some (.inl l)]) (st' := [.inl (m 49 4), .inl l]) (m' := m) (fun fx hfx o hk => ?_) ?_
  · refine r_ld (pc' := 18) hM_147 d_147_17 rfl rfl ?_
    refine r_ld (pc' := 19) hM_147 d_147_18 rfl rfl ?_
    refine r_gI (pc' := 22) (k0 := 4) hM_147 d_147_19 rfl (by decide +kernel) ?_
    exact hk
  refine ok_ic (pc' := 67) (pc2 := 25) hM_147 d_147_22 (by decide) rfl (fun hz1 => ?_) (fun hz1 => ?_)
  · have H := H.1 hz1
    refine ok_sg (pc' := 11) (ls' := [some (.inr (.inr (some 49))), some (.inl a), some (.inl (s + (-1))), none]) (st' := []) (m' := m) (fun fx hfx o hk => ?_) ?_
    · refine r_sto (pc' := 70) (ls' := [some (.inr (.inr (some 49))), some (.inl a), some (.inl (s + (-1))), some (.inl l)]) hM_147 d_147_67 rfl rfl ?_
      refine r_go (pc' := 11) hM_147 d_147_70 (by decide) ?_
      refine rn_wk (a := [some (.inr (.inr (some 49))), some (.inl a), some (.inl (s + (-1))), none]) (by simp only [am_le, and_self]) ?_
      exact hk
    exact H
  · have H := H.2 hz1
    refine ok_sg (pc' := 30) (ls' := [some (.inr (.inr (some 49))), some (.inl a), some (.inl s), some (.inl l)]) (st' := [.inl (am_and (am_shr s l) 1)]) (m' := m) (fun fx hfx o hk => ?_) ?_
    · refine r_ld (pc' := 26) hM_147 d_147_25 rfl rfl ?_
      refine r_ld (pc' := 27) hM_147 d_147_26 rfl rfl ?_
      refine r_b (pc' := 28) (z := (am_shr s l)) hM_147 d_147_27 rfl rfl ?_
      refine r_k (pc' := 29) (v := .inl 1) hM_147 d_147_28 rfl rfl ?_
      refine r_b (pc' := 30) (z := (am_and (am_shr s l) 1)) hM_147 d_147_29 rfl rfl ?_
      exact hk
    refine ok_if (pc' := 61) (pc2 := 33) hM_147 d_147_30 (by decide) rfl (fun hz2 => ?_) (fun hz2 => ?_)
    · have H := H.1 hz2
      refine ok_sg (pc' := 17) (ls' := [some (.inr (.inr (some 49))), some (.inl a), some (.inl s), some (.inl (l + 1))]) (st' := []) (m' := m) (fun fx hfx o hk => ?_) ?_
      · refine r_sto (pc' := 64) (ls' := [some (.inr (.inr (some 49))), some (.inl a), some (.inl s), some (.inl (l + 1))]) hM_147 d_147_61 rfl rfl ?_
        refine r_go (pc' := 17) hM_147 d_147_64 (by decide) ?_
        exact hk
      exact H
    · have H := H.2 hz2
      refine ok_sg (pc' := 45) (ls' := [some (.inr (.inr (some 49))), some (.inl a), some (.inl s), some (.inl l)]) (st' := [.inl a, .inl s, .inl ((s * 8) + l), .inr (.inr (some 52))]) (m' := m) (fun fx hfx o hk => ?_) ?_
      · refine r_ld (pc' := 34) hM_147 d_147_33 rfl rfl ?_
        refine r_gR (pc' := 37) (v := 52) hM_147 d_147_34 rfl (by decide +kernel) ?_
        refine r_ld (pc' := 38) hM_147 d_147_37 rfl rfl ?_
        refine r_k (pc' := 40) (v := .inl 8) hM_147 d_147_38 rfl rfl ?_
        refine r_b (pc' := 41) (z := (s * 8)) hM_147 d_147_40 rfl rfl ?_
        refine r_ld (pc' := 42) hM_147 d_147_41 rfl rfl ?_
        refine r_b (pc' := 43) (z := ((s * 8) + l)) hM_147 d_147_42 rfl rfl ?_
        refine r_ld (pc' := 44) hM_147 d_147_43 rfl rfl ?_
        refine r_ld (pc' := 45) hM_147 d_147_44 rfl rfl ?_
        exact hk
      refine ok_ic (pc' := 54) (pc2 := 48) hM_147 d_147_45 (by decide) rfl (fun hz3 => ?_) (fun hz3 => ?_)
      · have H := H.1 hz3
        obtain ⟨hz4, H⟩ := H
        refine ok_sg (pc' := 57) (ls' := [some (.inr (.inr (some 49))), some (.inl a), some (.inl s), some (.inl l)]) (st' := [.inl l, .inl s, .inr (.inr (some 49)), .inl ((s * 8) + l), .inr (.inr (some 52))]) (m' := m) (fun fx hfx o hk => ?_) ?_
        · refine r_ld (pc' := 55) hM_147 d_147_54 rfl rfl ?_
          refine r_ld (pc' := 56) hM_147 d_147_55 rfl rfl ?_
          refine r_ld (pc' := 57) hM_147 d_147_56 rfl rfl ?_
          exact hk
        refine ok_cl (pc' := 60) (c := (148, 0)) (a := [.inr (.inr (some 49)), .inl s, .inl l]) (q := [.inl ((s * 8) + l), .inr (.inr (some 52))]) hM_147 d_147_57 rfl (by decide +kernel) hM_148 rfl rfl rfl (Nat.le_of_ble_eq_true rfl) (Nat.le_of_ble_eq_true rfl) (Or.inr rfl) (z_148  m s l hz4) (Nat.le_of_ble_eq_true rfl) ?_
        rintro _ m1 ⟨rfl, hz5⟩
        replace H := H  m1 hz5
        show ok 3 147 60 [some (.inr (.inr (some 49))), some (.inl a), some (.inl s), some (.inl l)] [.inl (DD (adj (nv (vw m 2))) (tau (nv (vw m 2))) (BN (nv (vw m 2))) (BN (nv (vw m 2)) - cnt s.toNat 12) s.toNat l.toNat), .inl ((s * 8) + l), .inr (.inr (some 52))] m1 Q
        obtain ⟨hz6, H⟩ := H
        refine ok_sg (pc' := 17) (ls' := [some (.inr (.inr (some 49))), some (.inl a), some (.inl s), some (.inl (l + 1))]) (st' := []) (m' := mu m1 52 ((am_s ((s * 8) + l)).toNat) (DD (adj (nv (vw m 2))) (tau (nv (vw m 2))) (BN (nv (vw m 2))) (BN (nv (vw m 2)) - cnt s.toNat 12) s.toNat l.toNat)) (fun fx hfx o hk => ?_) ?_
        · refine r_is (pc' := 61) (n := 2048) hM_147 d_147_60 rfl rfl hz6 ?_
          refine r_sto (pc' := 64) (ls' := [some (.inr (.inr (some 49))), some (.inl a), some (.inl s), some (.inl (l + 1))]) hM_147 d_147_61 rfl rfl ?_
          refine r_go (pc' := 17) hM_147 d_147_64 (by decide) ?_
          exact hk
        exact H
      · have H := H.2 (Decidable.not_not.mp hz3)
        obtain ⟨hz7, H⟩ := H
        refine ok_sg (pc' := 17) (ls' := [some (.inr (.inr (some 49))), some (.inl a), some (.inl s), some (.inl (l + 1))]) (st' := []) (m' := mu m 52 ((am_s ((s * 8) + l)).toNat) 1000) (fun fx hfx o hk => ?_) ?_
        · refine r_k (pc' := 51) (v := .inl 1000) hM_147 d_147_48 rfl rfl ?_
          refine r_go (pc' := 60) hM_147 d_147_51 (by decide) ?_
          refine r_is (pc' := 61) (n := 2048) hM_147 d_147_60 rfl rfl hz7 ?_
          refine r_sto (pc' := 64) (ls' := [some (.inr (.inr (some 49))), some (.inl a), some (.inl s), some (.inl (l + 1))]) hM_147 d_147_61 rfl rfl ?_
          refine r_go (pc' := 17) hM_147 d_147_64 (by decide) ?_
          exact hk
        exact H
theorem u_147_11 {Q : List am_V → am_M → Prop} {m : am_M} {a : Int} {s : Int}  (H : ((am_s s ≤ 0) → ((¬ am_s (m 49 4) = 0) → (LYD m ∧ (0 ≤ (0 : Int) ∧ (0 : Int).toNat < 2 ^ BN (nv (vw m 2))) ∧ cnt (0 : Int).toNat 12 < BN (nv (vw m 2)) ∧ (((-1) : Int) = -1 ∧ cnt (0 : Int).toNat 12 = 0 ∨ 0 ≤ ((-1) : Int) ∧ ((-1) : Int) < ((BN (nv (vw m 2)) : Nat) : Int)) ∧ BSP m (0 : Int).toNat) ∧ (∀ (m1 : am_M), (m1 = m) → Q [.inl (DD (adj (nv (vw m 2))) (tau (nv (vw m 2))) (BN (nv (vw m 2))) (BN (nv (vw m 2)) - cnt (0 : Int).toNat 12) (0 : Int).toNat (-1).toNat)] m1)) ∧ ((am_s (m 49 4) = 0) → Q [.inl 1000] m)) ∧ ((¬ (am_s s ≤ 0)) → ok 3 147 17 [some (.inr (.inr (some 49))), some (.inl a), some (.inl s), some (.inl 0)] [] m Q)) : ok 3 147 11 [some (.inr (.inr (some 49))), some (.inl a), some (.inl s), none] [] m Q := by
  refine ok_sg (pc' := 12) (ls' := [some (.inr (.inr (some 49))), some (.inl a), some (.inl s), none]) (st' := [.inl s]) (m' := m) (fun fx hfx o hk => ?_) ?_
  · refine r_ld (pc' := 12) hM_147 d_147_11 rfl rfl ?_
    exact hk
  refine ok_if (pc' := 73) (pc2 := 15) hM_147 d_147_12 (by decide) rfl (fun hz1 => ?_) (fun hz1 => ?_)
  · have H := H.1 hz1
    refine ok_sg (pc' := 77) (ls' := [some (.inr (.inr (some 49))), some (.inl a), some (.inl s), none]) (st' := [.inl (m 49 4)]) (m' := m) (fun fx hfx o hk => ?_) ?_
    · refine r_ld (pc' := 74) hM_147 d_147_73 rfl rfl ?_
      refine r_gI (pc' := 77) (k0 := 4) hM_147 d_147_74 rfl (by decide +kernel) ?_
      exact hk
    refine ok_if (pc' := 86) (pc2 := 80) hM_147 d_147_77 (by decide) rfl (fun hz2 => ?_) (fun hz2 => ?_)
    · have H := H.1 hz2
      obtain ⟨hz3, H⟩ := H
      refine ok_sg (pc' := 89) (ls' := [some (.inr (.inr (some 49))), some (.inl a), some (.inl s), none]) (st' := [.inl (-1), .inl 0, .inr (.inr (some 49))]) (m' := m) (fun fx hfx o hk => ?_) ?_
      · refine r_ld (pc' := 87) hM_147 d_147_86 rfl rfl ?_
        refine r_k (pc' := 88) (v := .inl 0) hM_147 d_147_87 rfl rfl ?_
        refine r_k (pc' := 89) (v := .inl (-1)) hM_147 d_147_88 rfl rfl ?_
        exact hk
      refine ok_cl (pc' := 92) (c := (148, 0)) (a := [.inr (.inr (some 49)), .inl 0, .inl (-1)]) (q := []) hM_147 d_147_89 rfl (by decide +kernel) hM_148 rfl rfl rfl (Nat.le_of_ble_eq_true rfl) (Nat.le_of_ble_eq_true rfl) (Or.inr rfl) (z_148  m 0 (-1) hz3) (Nat.le_of_ble_eq_true rfl) ?_
      rintro _ m1 ⟨rfl, hz4⟩
      replace H := H  m1 hz4
      show ok 3 147 92 [some (.inr (.inr (some 49))), some (.inl a), some (.inl s), none] [.inl (DD (adj (nv (vw m 2))) (tau (nv (vw m 2))) (BN (nv (vw m 2))) (BN (nv (vw m 2)) - cnt (0 : Int).toNat 12) (0 : Int).toNat (-1).toNat)] m1 Q
      exact ok_rt (fun fx _ => rt_i hM_147 d_147_92 rfl) H
    · have H := H.2 (Decidable.not_not.mp hz2)
      refine ok_sg (pc' := 92) (ls' := [some (.inr (.inr (some 49))), some (.inl a), some (.inl s), none]) (st' := [.inl 1000]) (m' := m) (fun fx hfx o hk => ?_) ?_
      · refine r_k (pc' := 83) (v := .inl 1000) hM_147 d_147_80 rfl rfl ?_
        refine r_go (pc' := 92) hM_147 d_147_83 (by decide) ?_
        exact hk
      exact ok_rt (fun fx _ => rt_i hM_147 d_147_92 rfl) H
  · have H := H.2 hz1
    refine ok_sg (pc' := 17) (ls' := [some (.inr (.inr (some 49))), some (.inl a), some (.inl s), some (.inl 0)]) (st' := []) (m' := m) (fun fx hfx o hk => ?_) ?_
    · refine r_k (pc' := 16) (v := .inl 0) hM_147 d_147_15 rfl rfl ?_
      refine r_sto (pc' := 17) (ls' := [some (.inr (.inr (some 49))), some (.inl a), some (.inl s), some (.inl 0)]) hM_147 d_147_16 rfl rfl ?_
      exact hk
    exact H
theorem u_147_0 {Q : List am_V → am_M → Prop} {m : am_M}   (H : ok 3 147 11 [some (.inr (.inr (some 49))), some (.inl ((am_shl 1 (m 49 4)) - 1)), some (.inl ((am_shl 1 (m 49 4)) - 1)), none] [] m Q) : ok 3 147 0 [some (.inr (.inr (some 49))), none, none, none] [] m Q := by
  refine ok_sg (pc' := 11) (ls' := [some (.inr (.inr (some 49))), some (.inl ((am_shl 1 (m 49 4)) - 1)), some (.inl ((am_shl 1 (m 49 4)) - 1)), none]) (st' := []) (m' := m) (fun fx hfx o hk => ?_) ?_
  · refine r_k (pc' := 1) (v := .inl 1) hM_147 d_147_0 rfl rfl ?_
    refine r_ld (pc' := 2) hM_147 d_147_1 rfl rfl ?_
    refine r_gI (pc' := 5) (k0 := 4) hM_147 d_147_2 rfl (by decide +kernel) ?_
    refine r_b (pc' := 6) (z := (am_shl 1 (m 49 4))) hM_147 d_147_5 rfl rfl ?_
    refine r_k (pc' := 7) (v := .inl 1) hM_147 d_147_6 rfl rfl ?_
    refine r_b (pc' := 8) (z := ((am_shl 1 (m 49 4)) - 1)) hM_147 d_147_7 rfl rfl ?_
    refine r_sto (pc' := 9) (ls' := [some (.inr (.inr (some 49))), some (.inl ((am_shl 1 (m 49 4)) - 1)), none, none]) hM_147 d_147_8 rfl rfl ?_
    refine r_ld (pc' := 10) hM_147 d_147_9 rfl rfl ?_
    refine r_sto (pc' := 11) (ls' := [some (.inr (.inr (some 49))), some (.inl ((am_shl 1 (m 49 4)) - 1)), some (.inl ((am_shl 1 (m 49 4)) - 1)), none]) hM_147 d_147_10 rfl rfl ?_
    exact hk
  exact H
theorem z_147   (m : am_M)  (hq : LYD m) : ok 3 147 0 (am_ent 4 [.inr (.inr (some 49))]) [] m (fun rr m' => rr = [.inl ((DD (adj (nv (vw m 2))) (tau (nv (vw m 2))) (BN (nv (vw m 2))) (BN (nv (vw m 2))) 0 0))] ∧ (LYD m' ∧ TRD m') ∧ ∀ a, a ≠ 52 → m' a = m a) := by
  show ok 3 147 0 [some (.inr (.inr (some 49))), none, none, none] [] m _
  obtain ⟨hw, hB, h49, hcell⟩ := id hq
  obtain ⟨A, hAv⟩ : ∃ A : Nat, 2 ^ BN (nv (vw m 2)) = A + 1 := ⟨2 ^ BN (nv (vw m 2)) - 1, by have := Nat.two_pow_pos (BN (nv (vw m 2))); omega⟩
  have hp8 : 2 ^ BN (nv (vw m 2)) ≤ 2 ^ 8 := Nat.pow_le_pow_right (by decide) hB
  have hfull := cnt_full (B := BN (nv (vw m 2))) (by omega)
  rw [hAv, show A + 1 - 1 = A by omega] at hfull
  have eA : am_shl 1 (m 49 4) - 1 = (A : Int) := by
    rw [h49, bx_shl1 _ (by omega), hAv]
    omega
  refine u_147_0 ?_
  rw [eA]
  have key := ok_for (d := 3) (mi := 147) (pc := 11) (Q := fun rr m' => rr = [.inl (DD (adj (nv (vw m 2))) (tau (nv (vw m 2))) (BN (nv (vw m 2))) (BN (nv (vw m 2))) 0 0)] ∧ ((LYD m' ∧ TRD m') ∧ ∀ a, a ≠ 52 → m' a = m a)) (σ := Unit) (fun i _ => [some (.inr (.inr (some 49))), some (.inl (A : Int)), some (.inl ((A : Int) - (i : Int))), none]) (fun i _ M => (∀ s, A < s + i → s ≤ A → ∀ j, j < BN (nv (vw m 2)) → s.testBit j = true → M 52 (8 * s + j) = DD (adj (nv (vw m 2))) (tau (nv (vw m 2))) (BN (nv (vw m 2))) (BN (nv (vw m 2)) - cnt s 12) s j) ∧ ∀ a, a ≠ 52 → M a = m a) A ?_ ?_ () m ⟨fun s h1 h2 => by omega, fun _ _ => rfl⟩
  · simp only [Int.natCast_zero, Int.sub_zero] at key
    exact key
  · rintro i hi - M ⟨h1, h2⟩ IH
    obtain ⟨s, hs⟩ : ∃ s : Nat, (A : Int) - (i : Int) = (s : Int) := ⟨A - i, by omega⟩
    rw [hs]
    refine u_147_11 ?_
    rw [am_s_id (z := (s : Int)) (by omega) (by omega)]
    refine ⟨fun q => by omega, fun _ => ?_⟩
    refine ok_for (σ := Unit) (fun l _ => [some (.inr (.inr (some 49))), some (.inl (A : Int)), some (.inl (s : Int)), some (.inl (l : Int))]) (fun l _ M => (∀ s', (s < s' ∧ s' ≤ A → ∀ j, j < BN (nv (vw m 2)) → s'.testBit j = true → M 52 (8 * s' + j) = DD (adj (nv (vw m 2))) (tau (nv (vw m 2))) (BN (nv (vw m 2))) (BN (nv (vw m 2)) - cnt s' 12) s' j)) ∧ (∀ j, j < l → s.testBit j = true → M 52 (8 * s + j) = DD (adj (nv (vw m 2))) (tau (nv (vw m 2))) (BN (nv (vw m 2))) (BN (nv (vw m 2)) - cnt s 12) s j) ∧ ∀ a, a ≠ 52 → M a = m a) (BN (nv (vw m 2))) ?_ ?_ () M ⟨fun s' q => h1 s' (by omega) q.2, fun j h => absurd h (Nat.not_lt_zero _), h2⟩
    · rintro l hl - M1 ⟨k1, k2, k3⟩ IH2
      obtain ⟨hL1, fv⟩ := LYD_fr k3 hq
      have ei : am_s ((s : Int) * 8 + (l : Int)) = (s : Int) * 8 + (l : Int) := am_s_id (by omega) (by omega)
      have ni : ((s : Int) * 8 + (l : Int)).toNat = 8 * s + l := by omega
      have lay : ∀ z : Int, (s.testBit l = true → z = DD (adj (nv (vw m 2))) (tau (nv (vw m 2))) (BN (nv (vw m 2))) (BN (nv (vw m 2)) - cnt s 12) s l) → ok 3 147 17 [some (.inr (.inr (some 49))), some (.inl (A : Int)), some (.inl (s : Int)), some (.inl ((l : Int) + 1))] [] (mu M1 52 (8 * s + l) z) (fun rr m' => rr = [.inl (DD (adj (nv (vw m 2))) (tau (nv (vw m 2))) (BN (nv (vw m 2))) (BN (nv (vw m 2))) 0 0)] ∧ ((LYD m' ∧ TRD m') ∧ ∀ a, a ≠ 52 → m' a = m a)) := by
        intro z hz
        refine IH2 () _ ⟨fun s' q j hj hb => ?_, fun j hj hb => ?_, fun a ha => by rw [mu_rf ha]; exact k3 a ha⟩
        · rw [mu_k (by omega)]
          exact k1 s' q j hj hb
        · rw [mu_if]
          by_cases hh : j = l
          · rw [if_pos (by omega), hh, hz (by rw [← hh]; exact hb)]
          · rw [if_neg (by omega)]
            exact k2 j (by omega) hb
      refine u_147_17 ?_
      rw [k3 49 (by decide), h49, am_s_id (z := ((BN (nv (vw m 2)) : Nat) : Int)) (by omega) (by omega), am_s_id (z := (l : Int)) (by omega) (by omega), bx_bit (by omega) (by omega), am_s_id (z := (s : Int)) (by omega) (by omega), am_s_id (z := (A : Int)) (by omega) (by omega), ei, ni, fv, Int.toNat_natCast, Int.toNat_natCast]
      refine ⟨fun q => by omega, fun _ => ⟨fun q => ?_, fun q => ⟨fun q2 => ⟨⟨hL1, ⟨by omega, by omega⟩, ?_, Or.inr ⟨by omega, by omega⟩, ?_⟩, ?_⟩, fun q2 => ⟨by omega, lay _ fun _ => ?_⟩⟩⟩⟩
      · refine IH2 () M1 ⟨k1, fun j hj hb => ?_, k3⟩
        by_cases hh : j = l
        · rw [hh, q] at hb
          exact absurd hb (by decide)
        · exact k2 j (by omega) hb
      · obtain ⟨j, j1, j2⟩ := ex_clear (s := s) (B := BN (nv (vw m 2))) (by omega) (by omega)
        exact cnt_lt (by omega) (by omega) j1 j2
      · have hq2 := TRD_BSP (m := M1) (s := s) (by rw [fv]; exact hB) (by rw [fv]; omega) (by
          rw [fv]
          intro s' q1 q3 j hj hb
          exact k1 s' ⟨q1, by omega⟩ j hj hb)
        exact hq2
      · intro mx hmx
        rw [hmx]
        exact ⟨by omega, lay _ fun _ => rfl⟩
      · have : s = A := by omega
        rw [this, hfull, Nat.sub_self]
        rfl
    · rintro - M1 ⟨k1, k2, k3⟩
      have := IH () M1 ⟨fun s' q1 q2 j hj hb => ?_, k3⟩
      · rw [show (A : Int) - ((i + 1 : Nat) : Int) = (s : Int) + (-1) by omega] at this
        refine u_147_17 ?_
        rw [k3 49 (by decide), h49, am_s_id (z := ((BN (nv (vw m 2)) : Nat) : Int)) (by omega) (by omega)]
        exact ⟨fun _ => this, fun q => by omega⟩
      · by_cases hh : s' = s
        · rw [hh] at hb ⊢
          exact k2 j hj hb
        · exact k1 s' ⟨by omega, q2⟩ j hj hb
  · rintro - M ⟨h1, h2⟩
    obtain ⟨hL1, fv⟩ := LYD_fr h2 hq
    have hT : TRD M := by
      unfold TRD
      rw [fv]
      intro s q1 q2 j hj hb
      exact h1 s (by omega) (by omega) j hj hb
    have c0 : cnt 0 12 = 0 := by decide
    refine u_147_11 ?_
    rw [am_s_id (z := (A : Int) - (A : Int)) (by omega) (by omega), h2 49 (by decide), h49, am_s_id (z := ((BN (nv (vw m 2)) : Nat) : Int)) (by omega) (by omega), fv, show (0 : Int).toNat = 0 from rfl, c0, Nat.sub_zero]
    refine ⟨fun _ => ⟨fun q => ⟨⟨hL1, ⟨by decide, by omega⟩, by omega, Or.inl ⟨rfl, rfl⟩, ?_⟩, ?_⟩, fun q => ⟨?_, ⟨hL1, hT⟩, h2⟩⟩, fun q => by omega⟩
    · exact TRD_BSP (m := M) (s := 0) (by rw [fv]; exact hB) (by rw [fv]; omega) fun s' q1 q2 j hj hb => hT s' q1 q2 j hj hb
    · intro mx hmx
      rw [hmx]
      exact ⟨rfl, ⟨hL1, hT⟩, h2⟩
    · have hB0 : BN (nv (vw m 2)) = 0 := by omega
      rw [hB0]
      rfl
theorem u_152_3 {Q : List am_V → am_M → Prop} {m : am_M} {s : Int} {l : Int} {g : Int} {c : Int}  (H : ((am_s (m 49 4) ≤ am_s c) → Q [.inl 0] m) ∧ ((¬ (am_s (m 49 4) ≤ am_s c)) → ((¬ am_s (am_and (am_shr s c) 1) = 0) → ok 2 152 3 [some (.inr (.inr (some 49))), some (.inl s), some (.inl l), some (.inl g), some (.inl (c + 1))] [] m Q) ∧ ((am_s (am_and (am_shr s c) 1) = 0) → (q_149 m s l c) ∧ (((am_s (v_149 m s l c) < am_s g) → ok 2 152 3 [some (.inr (.inr (some 49))), some (.inl s), some (.inl l), some (.inl g), some (.inl (c + 1))] [] m Q) ∧ ((¬ (am_s (v_149 m s l c) < am_s g)) → Q [.inl c] m))))) : ok 2 152 3 [some (.inr (.inr (some 49))), some (.inl s), some (.inl l), some (.inl g), some (.inl c)] [] m Q := by
  refine ok_sg (pc' := 9) (ls' := [some (.inr (.inr (some 49))), some (.inl s), some (.inl l), some (.inl g), some (.inl c)]) (st' := [.inl (m 49 4), .inl c]) (m' := m) (fun fx hfx o hk => ?_) ?_
  · refine r_ld (pc' := 5) hM_152 d_152_3 rfl rfl ?_
    refine r_ld (pc' := 6) hM_152 d_152_5 rfl rfl ?_
    refine r_gI (pc' := 9) (k0 := 4) hM_152 d_152_6 rfl (by decide +kernel) ?_
    exact hk
  refine ok_ic (pc' := 42) (pc2 := 12) hM_152 d_152_9 (by decide) rfl (fun hz1 => ?_) (fun hz1 => ?_)
  · have H := H.1 hz1
    refine ok_sg (pc' := 43) (ls' := [some (.inr (.inr (some 49))), some (.inl s), some (.inl l), some (.inl g), some (.inl c)]) (st' := [.inl 0]) (m' := m) (fun fx hfx o hk => ?_) ?_
    · refine r_k (pc' := 43) (v := .inl 0) hM_152 d_152_42 rfl rfl ?_
      exact hk
    exact ok_rt (fun fx _ => rt_i hM_152 d_152_43 rfl) H
  · have H := H.2 hz1
    refine ok_sg (pc' := 18) (ls' := [some (.inr (.inr (some 49))), some (.inl s), some (.inl l), some (.inl g), some (.inl c)]) (st' := [.inl (am_and (am_shr s c) 1)]) (m' := m) (fun fx hfx o hk => ?_) ?_
    · refine r_ld (pc' := 13) hM_152 d_152_12 rfl rfl ?_
      refine r_ld (pc' := 15) hM_152 d_152_13 rfl rfl ?_
      refine r_b (pc' := 16) (z := (am_shr s c)) hM_152 d_152_15 rfl rfl ?_
      refine r_k (pc' := 17) (v := .inl 1) hM_152 d_152_16 rfl rfl ?_
      refine r_b (pc' := 18) (z := (am_and (am_shr s c) 1)) hM_152 d_152_17 rfl rfl ?_
      exact hk
    refine ok_if (pc' := 36) (pc2 := 21) hM_152 d_152_18 (by decide) rfl (fun hz2 => ?_) (fun hz2 => ?_)
    · have H := H.1 hz2
      refine ok_sg (pc' := 3) (ls' := [some (.inr (.inr (some 49))), some (.inl s), some (.inl l), some (.inl g), some (.inl (c + 1))]) (st' := []) (m' := m) (fun fx hfx o hk => ?_) ?_
      · refine r_sto (pc' := 39) (ls' := [some (.inr (.inr (some 49))), some (.inl s), some (.inl l), some (.inl g), some (.inl (c + 1))]) hM_152 d_152_36 rfl rfl ?_
        refine r_go (pc' := 3) hM_152 d_152_39 (by decide) ?_
        exact hk
      exact H
    · have H := H.2 (Decidable.not_not.mp hz2)
      obtain ⟨hz3, H⟩ := H
      refine ok_sg (pc' := 30) (ls' := [some (.inr (.inr (some 49))), some (.inl s), some (.inl l), some (.inl g), some (.inl c)]) (st' := [.inl g, .inl (v_149 m s l c)]) (m' := m) (fun fx hfx o hk => ?_) ?_
      · refine r_ld (pc' := 22) hM_152 d_152_21 rfl rfl ?_
        refine r_ld (pc' := 23) hM_152 d_152_22 rfl rfl ?_
        refine r_ld (pc' := 24) hM_152 d_152_23 rfl rfl ?_
        refine r_ld (pc' := 26) hM_152 d_152_24 rfl rfl ?_
        refine r_cl (pc' := 29) (c := (149, 0)) (a := [.inr (.inr (some 49)), .inl s, .inl l, .inl c]) (q := []) hM_152 d_152_26 rfl (by decide +kernel) hM_149 rfl rfl rfl (Nat.le_of_ble_eq_true rfl) (Nat.le_of_ble_eq_true rfl) (Or.inr rfl) (c_149  m s l c hz3) (Nat.le_of_ble_eq_true rfl) ?_
        show rn fx 2 (0, 0) 152 29 [some (.inr (.inr (some 49))), some (.inl s), some (.inl l), some (.inl g), some (.inl c)] [.inl (v_149 m s l c)] (st0 m) o
        refine r_ld (pc' := 30) hM_152 d_152_29 rfl rfl ?_
        exact hk
      refine ok_ic (pc' := 36) (pc2 := 33) hM_152 d_152_30 (by decide) rfl (fun hz4 => ?_) (fun hz4 => ?_)
      · have H := H.1 hz4
        refine ok_sg (pc' := 3) (ls' := [some (.inr (.inr (some 49))), some (.inl s), some (.inl l), some (.inl g), some (.inl (c + 1))]) (st' := []) (m' := m) (fun fx hfx o hk => ?_) ?_
        · refine r_sto (pc' := 39) (ls' := [some (.inr (.inr (some 49))), some (.inl s), some (.inl l), some (.inl g), some (.inl (c + 1))]) hM_152 d_152_36 rfl rfl ?_
          refine r_go (pc' := 3) hM_152 d_152_39 (by decide) ?_
          exact hk
        exact H
      · have H := H.2 hz4
        refine ok_sg (pc' := 35) (ls' := [some (.inr (.inr (some 49))), some (.inl s), some (.inl l), some (.inl g), some (.inl c)]) (st' := [.inl c]) (m' := m) (fun fx hfx o hk => ?_) ?_
        · refine r_ld (pc' := 35) hM_152 d_152_33 rfl rfl ?_
          exact hk
        exact ok_rt (fun fx _ => rt_i hM_152 d_152_35 rfl) H
theorem u_152_0 {Q : List am_V → am_M → Prop} {m : am_M} {s : Int} {l : Int} {g : Int}  (H : ok 2 152 3 [some (.inr (.inr (some 49))), some (.inl s), some (.inl l), some (.inl g), some (.inl 0)] [] m Q) : ok 2 152 0 [some (.inr (.inr (some 49))), some (.inl s), some (.inl l), some (.inl g), none] [] m Q := by
  refine ok_sg (pc' := 3) (ls' := [some (.inr (.inr (some 49))), some (.inl s), some (.inl l), some (.inl g), some (.inl 0)]) (st' := []) (m' := m) (fun fx hfx o hk => ?_) ?_
  · refine r_k (pc' := 1) (v := .inl 0) hM_152 d_152_0 rfl rfl ?_
    refine r_sto (pc' := 3) (ls' := [some (.inr (.inr (some 49))), some (.inl s), some (.inl l), some (.inl g), some (.inl 0)]) hM_152 d_152_1 rfl rfl ?_
    exact hk
  exact H
theorem z_152   (m : am_M) (s : Int) (l : Int) (g : Int) (hq : (LYD m ∧ TRD m) ∧ (0 ≤ s ∧ s.toNat < 2 ^ BN (nv (vw m 2))) ∧ (l = -1 ∧ cnt s.toNat 12 = 0 ∨ 0 ≤ l ∧ l < ((BN (nv (vw m 2)) : Nat) : Int)) ∧ (0 ≤ g ∧ g ≤ 1000) ∧ ∃ j, j < BN (nv (vw m 2)) ∧ NXC (adj (nv (vw m 2))) (tau (nv (vw m 2))) (BN (nv (vw m 2))) g (cnt s.toNat 12) s.toNat l.toNat j) : ok 2 152 0 (am_ent 5 [.inr (.inr (some 49)), .inl s, .inl l, .inl g]) [] m (fun rr m' => rr = [.inl (((nxi (adj (nv (vw m 2))) (tau (nv (vw m 2))) (BN (nv (vw m 2))) g (cnt s.toNat 12) s.toNat l.toNat : Nat) : Int))] ∧ m' = m) := by
  show ok 2 152 0 [some (.inr (.inr (some 49))), some (.inl s), some (.inl l), some (.inl g), none] [] m _
  obtain ⟨⟨hL, hT⟩, hs, hl, hg, hex⟩ := hq
  obtain ⟨S, rfl⟩ : ∃ S : Nat, s = (S : Int) := ⟨s.toNat, by omega⟩
  simp only [Int.toNat_natCast] at hs hl hex ⊢
  have hB := hL.2.1
  have h49 := hL.2.2.1
  have hp8 : 2 ^ BN (nv (vw m 2)) ≤ 2 ^ 8 := Nat.pow_le_pow_right (by decide) hB
  have hbsp := TRD_BSP hB hs.2 fun s' q1 q2 j hj hb => hT s' (by omega) q2 j hj hb
  have hv149 : ∀ c, c < BN (nv (vw m 2)) → S.testBit c = false → q_149 m (S : Int) l (c : Int) ∧ v_149 m (S : Int) l (c : Int) = min (dif (adj (nv (vw m 2))) (tau (nv (vw m 2))) (cnt S 12) l.toNat c) (DD (adj (nv (vw m 2))) (tau (nv (vw m 2))) (BN (nv (vw m 2))) (BN (nv (vw m 2)) - (cnt S 12 + 1)) (S ||| 2 ^ c) c) := fun c hc hbt => v149 hL hs.2 hc hbt hl (hbsp c hc hbt) (DD_rng _ _ _)
  obtain ⟨n1, n2, n3, n4⟩ := nxi_ok hex
  refine u_152_0 ?_
  refine ok_for (σ := Unit) (fun c _ => [some (.inr (.inr (some 49))), some (.inl (S : Int)), some (.inl l), some (.inl g), some (.inl (c : Int))]) (fun c _ M => M = m ∧ ∀ j, j < c → ¬ NXC (adj (nv (vw m 2))) (tau (nv (vw m 2))) (BN (nv (vw m 2))) g (cnt S 12) S l.toNat j) (BN (nv (vw m 2))) ?_ ?_ () m ⟨rfl, fun j h => absurd h (Nat.not_lt_zero _)⟩
  · rintro c hc - M ⟨hM, h1⟩ IH
    rw [hM]
    refine u_152_3 ?_
    rw [h49, am_s_id (z := ((BN (nv (vw m 2)) : Nat) : Int)) (by omega) (by omega), am_s_id (z := (c : Int)) (by omega) (by omega), bx_bit (by omega) (by omega), am_s_id (z := g) (by omega) (by omega)]
    refine ⟨fun q => by omega, fun _ => ⟨fun q => IH () m ⟨rfl, fun j hj h => ?_⟩, fun q => ?_⟩⟩
    · by_cases hh : j = c
      · rw [hh] at h; exact q h.1
      · exact h1 j (by omega) h
    · obtain ⟨z1, z2⟩ := hv149 c hc q
      have a1 := dif_0 (A := adj (nv (vw m 2))) (τ := tau (nv (vw m 2))) (i := cnt S 12) (l := l.toNat) (o := c)
      have a2 := DD_rng (A := adj (nv (vw m 2))) (τ := tau (nv (vw m 2))) (B := BN (nv (vw m 2))) (BN (nv (vw m 2)) - (cnt S 12 + 1)) (S ||| 2 ^ c) c
      rw [z2, am_s_id (by omega) (by omega)]
      refine ⟨z1, fun q2 => IH () m ⟨rfl, fun j hj h => ?_⟩, fun q2 => ⟨?_, rfl⟩⟩
      · by_cases hh : j = c
        · rw [hh] at h
          have := h.2
          omega
        · exact h1 j (by omega) h
      · have hN : NXC (adj (nv (vw m 2))) (tau (nv (vw m 2))) (BN (nv (vw m 2))) g (cnt S 12) S l.toNat c := ⟨q, by omega⟩
        have hp := plv_eq (N := BN (nv (vw m 2))) (Or.inl ⟨c, hc, hN, h1, rfl⟩)
        rw [← n4, hp]
  · rintro - M ⟨hM, h1⟩
    exact absurd n2 (h1 _ n1)
/-- on the way all stays in its bounds -/
theorem SQ_ok {A : Nat → Bool} {τ : Nat → Int} {B : Nat} {γ : Int} (hB : B ≤ 12) {i0 : Nat} {x : Nat × Nat} (h0 : i0 ≤ B ∧ x.1 < 2 ^ B ∧ cnt x.1 12 = i0 ∧ γ ≤ DD A τ B (B - i0) x.1 x.2) : ∀ n, i0 + n ≤ B → (sq A τ B γ i0 x n).1 < 2 ^ B ∧ cnt (sq A τ B γ i0 x n).1 12 = i0 + n ∧ (0 < n → (sq A τ B γ i0 x n).2 < B) ∧ γ ≤ DD A τ B (B - (i0 + n)) (sq A τ B γ i0 x n).1 (sq A τ B γ i0 x n).2 ∧ (i0 + n < B → ∃ j, j < B ∧ NXC A τ B γ (i0 + n) (sq A τ B γ i0 x n).1 (sq A τ B γ i0 x n).2 j) := by
  have ex : ∀ i s l, i < B → s < 2 ^ B → cnt s 12 = i → γ ≤ DD A τ B (B - i) s l → ∃ j, j < B ∧ NXC A τ B γ i s l j := fun i s l h1 h2 h3 h4 => NXC_ex h1 (ex_left hB h2 (by omega)) h4
  intro n
  induction n with
  | zero =>
    intro _
    obtain ⟨a1, a2, a3, a4⟩ := h0
    exact ⟨a2, a3, fun h => absurd h (Nat.lt_irrefl _), a4, fun h => ex _ _ _ h a2 a3 a4⟩
  | succ n ih =>
    intro hn
    obtain ⟨b1, b2, b3, b4, b5⟩ := ih (by omega)
    obtain ⟨n1, ⟨n2, n2'⟩, n3, n4⟩ := nxi_ok (b5 (by omega))
    have hst : sq A τ B γ i0 x (n + 1) = ((sq A τ B γ i0 x n).1 ||| 2 ^ nxi A τ B γ (i0 + n) (sq A τ B γ i0 x n).1 (sq A τ B γ i0 x n).2, nxi A τ B γ (i0 + n) (sq A τ B γ i0 x n).1 (sq A τ B γ i0 x n).2) := rfl
    rw [hst]
    generalize nxi A τ B γ (i0 + n) (sq A τ B γ i0 x n).1 (sq A τ B γ i0 x n).2 = j at *
    have hjp : 2 ^ j < 2 ^ B := Nat.pow_lt_pow_right (by decide) n1
    have c1 : (sq A τ B γ i0 x n).1 ||| 2 ^ j < 2 ^ B := Nat.or_lt_two_pow b1 hjp
    have c2 : cnt ((sq A τ B γ i0 x n).1 ||| 2 ^ j) 12 = i0 + (n + 1) := by
      rw [cnt_orb n2 (by omega)]
      omega
    have c3 : γ ≤ DD A τ B (B - (i0 + (n + 1))) ((sq A τ B γ i0 x n).1 ||| 2 ^ j) j := by
      rw [show i0 + (n + 1) = i0 + n + 1 by omega]
      omega
    exact ⟨c1, c2, fun _ => n1, c3, fun h => ex _ _ _ h c1 c2 c3⟩
/-- whose barrel comes to a place -/
noncomputable def apw (g : Nat → Int) (γ : Int) (p : Nat) : Int := if ngp g p = true then ((spx g (sq (adj g) (tau g) (BN g) γ 0 (0, 0) (cf (ngp g) p + 1)).2 : Nat) : Int) else -1
noncomputable def apg (g : Nat → Int) : Int := DD (adj g) (tau g) (BN g) (BN g) 0 0
theorem u_151_13 {Q : List am_V → am_M → Prop} {m : am_M} {p : Int} {g : Int} {s : Int} {l : Int} {i : Int}  (H : ((am_s (m 49 4) ≤ am_s i) → Q [.inl (-1)] m) ∧ ((¬ (am_s (m 49 4) ≤ am_s i)) → ((LYD m ∧ TRD m) ∧ (0 ≤ s ∧ s.toNat < 2 ^ BN (nv (vw m 2))) ∧ (l = -1 ∧ cnt s.toNat 12 = 0 ∨ 0 ≤ l ∧ l < ((BN (nv (vw m 2)) : Nat) : Int)) ∧ (0 ≤ g ∧ g ≤ 1000) ∧ ∃ j, j < BN (nv (vw m 2)) ∧ NXC (adj (nv (vw m 2))) (tau (nv (vw m 2))) (BN (nv (vw m 2))) g (cnt s.toNat 12) s.toNat l.toNat j) ∧ (∀ (m1 : am_M), (m1 = m) → (0 ≤ am_s i ∧ am_s i < (8 : Nat)) ∧ (((¬ am_s (m1 50 ((am_s i).toNat)) = am_s p) → ok 4 151 13 [some (.inr (.inr (some 49))), some (.inl p), some (.inl g), some (.inl (am_or s (am_shl 1 ((nxi (adj (nv (vw m 2))) (tau (nv (vw m 2))) (BN (nv (vw m 2))) g (cnt s.toNat 12) s.toNat l.toNat : Nat) : Int)))), some (.inl ((nxi (adj (nv (vw m 2))) (tau (nv (vw m 2))) (BN (nv (vw m 2))) g (cnt s.toNat 12) s.toNat l.toNat : Nat) : Int)), some (.inl (i + 1))] [] m1 Q) ∧ ((am_s (m1 50 ((am_s i).toNat)) = am_s p) → (0 ≤ am_s ((nxi (adj (nv (vw m 2))) (tau (nv (vw m 2))) (BN (nv (vw m 2))) g (cnt s.toNat 12) s.toNat l.toNat : Nat) : Int) ∧ am_s ((nxi (adj (nv (vw m 2))) (tau (nv (vw m 2))) (BN (nv (vw m 2))) g (cnt s.toNat 12) s.toNat l.toNat : Nat) : Int) < (8 : Nat)) ∧ (Q [.inl (m1 50 ((am_s ((nxi (adj (nv (vw m 2))) (tau (nv (vw m 2))) (BN (nv (vw m 2))) g (cnt s.toNat 12) s.toNat l.toNat : Nat) : Int)).toNat))] m1)))))) : ok 4 151 13 [some (.inr (.inr (some 49))), some (.inl p), some (.inl g), some (.inl s), some (.inl l), some (.inl i)] [] m Q := by
  refine ok_sg (pc' := 19) (ls' := [some (.inr (.inr (some 49))), some (.inl p), some (.inl g), some (.inl s), some (.inl l), some (.inl i)]) (st' := [.inl (m 49 4), .inl i]) (m' := m) (fun fx hfx o hk => ?_) ?_
  · refine r_ld (pc' := 15) hM_151 d_151_13 rfl rfl ?_
    refine r_ld (pc' := 16) hM_151 d_151_15 rfl rfl ?_
    refine r_gI (pc' := 19) (k0 := 4) hM_151 d_151_16 rfl (by decide +kernel) ?_
    exact hk
  refine ok_ic (pc' := 64) (pc2 := 22) hM_151 d_151_19 (by decide) rfl (fun hz1 => ?_) (fun hz1 => ?_)
  · have H := H.1 hz1
    refine ok_sg (pc' := 65) (ls' := [some (.inr (.inr (some 49))), some (.inl p), some (.inl g), some (.inl s), some (.inl l), some (.inl i)]) (st' := [.inl (-1)]) (m' := m) (fun fx hfx o hk => ?_) ?_
    · refine r_k (pc' := 65) (v := .inl (-1)) hM_151 d_151_64 rfl rfl ?_
      exact hk
    exact ok_rt (fun fx _ => rt_i hM_151 d_151_65 rfl) H
  · have H := H.2 hz1
    obtain ⟨hz2, H⟩ := H
    refine ok_sg (pc' := 27) (ls' := [some (.inr (.inr (some 49))), some (.inl p), some (.inl g), some (.inl s), some (.inl l), some (.inl i)]) (st' := [.inl g, .inl l, .inl s, .inr (.inr (some 49))]) (m' := m) (fun fx hfx o hk => ?_) ?_
    · refine r_ld (pc' := 23) hM_151 d_151_22 rfl rfl ?_
      refine r_ld (pc' := 24) hM_151 d_151_23 rfl rfl ?_
      refine r_ld (pc' := 26) hM_151 d_151_24 rfl rfl ?_
      refine r_ld (pc' := 27) hM_151 d_151_26 rfl rfl ?_
      exact hk
    refine ok_cl (pc' := 30) (c := (152, 0)) (a := [.inr (.inr (some 49)), .inl s, .inl l, .inl g]) (q := []) hM_151 d_151_27 rfl (by decide +kernel) hM_152 rfl rfl rfl (Nat.le_of_ble_eq_true rfl) (Nat.le_of_ble_eq_true rfl) (Or.inr rfl) (z_152  m s l g hz2) (Nat.le_of_ble_eq_true rfl) ?_
    rintro _ m1 ⟨rfl, hz3⟩
    replace H := H  m1 hz3
    show ok 4 151 30 [some (.inr (.inr (some 49))), some (.inl p), some (.inl g), some (.inl s), some (.inl l), some (.inl i)] [.inl ((nxi (adj (nv (vw m 2))) (tau (nv (vw m 2))) (BN (nv (vw m 2))) g (cnt s.toNat 12) s.toNat l.toNat : Nat) : Int)] m1 Q
    obtain ⟨hz4, H⟩ := H
    refine ok_sg (pc' := 47) (ls' := [some (.inr (.inr (some 49))), some (.inl p), some (.inl g), some (.inl (am_or s (am_shl 1 ((nxi (adj (nv (vw m 2))) (tau (nv (vw m 2))) (BN (nv (vw m 2))) g (cnt s.toNat 12) s.toNat l.toNat : Nat) : Int)))), some (.inl ((nxi (adj (nv (vw m 2))) (tau (nv (vw m 2))) (BN (nv (vw m 2))) g (cnt s.toNat 12) s.toNat l.toNat : Nat) : Int)), some (.inl i)]) (st' := [.inl p, .inl (m1 50 ((am_s i).toNat))]) (m' := m1) (fun fx hfx o hk => ?_) ?_
    · refine r_sto (pc' := 32) (ls' := [some (.inr (.inr (some 49))), some (.inl p), some (.inl g), some (.inl s), some (.inl ((nxi (adj (nv (vw m 2))) (tau (nv (vw m 2))) (BN (nv (vw m 2))) g (cnt s.toNat 12) s.toNat l.toNat : Nat) : Int)), some (.inl i)]) hM_151 d_151_30 rfl rfl ?_
      refine r_ld (pc' := 33) hM_151 d_151_32 rfl rfl ?_
      refine r_k (pc' := 34) (v := .inl 1) hM_151 d_151_33 rfl rfl ?_
      refine r_ld (pc' := 36) hM_151 d_151_34 rfl rfl ?_
      refine r_b (pc' := 37) (z := (am_shl 1 ((nxi (adj (nv (vw m 2))) (tau (nv (vw m 2))) (BN (nv (vw m 2))) g (cnt s.toNat 12) s.toNat l.toNat : Nat) : Int))) hM_151 d_151_36 rfl rfl ?_
      refine r_b (pc' := 38) (z := (am_or s (am_shl 1 ((nxi (adj (nv (vw m 2))) (tau (nv (vw m 2))) (BN (nv (vw m 2))) g (cnt s.toNat 12) s.toNat l.toNat : Nat) : Int)))) hM_151 d_151_37 rfl rfl ?_
      refine r_sto (pc' := 39) (ls' := [some (.inr (.inr (some 49))), some (.inl p), some (.inl g), some (.inl (am_or s (am_shl 1 ((nxi (adj (nv (vw m 2))) (tau (nv (vw m 2))) (BN (nv (vw m 2))) g (cnt s.toNat 12) s.toNat l.toNat : Nat) : Int)))), some (.inl ((nxi (adj (nv (vw m 2))) (tau (nv (vw m 2))) (BN (nv (vw m 2))) g (cnt s.toNat 12) s.toNat l.toNat : Nat) : Int)), some (.inl i)]) hM_151 d_151_38 rfl rfl ?_
      refine r_ld (pc' := 40) hM_151 d_151_39 rfl rfl ?_
      refine r_gR (pc' := 43) (v := 50) hM_151 d_151_40 rfl (by decide +kernel) ?_
      refine r_ld (pc' := 45) hM_151 d_151_43 rfl rfl ?_
      refine r_ia (pc' := 46) (n := 8) hM_151 d_151_45 rfl rfl hz4 ?_
      refine r_ld (pc' := 47) hM_151 d_151_46 rfl rfl ?_
      exact hk
    refine ok_ic (pc' := 58) (pc2 := 50) hM_151 d_151_47 (by decide) rfl (fun hz5 => ?_) (fun hz5 => ?_)
    · have H := H.1 hz5
      refine ok_sg (pc' := 13) (ls' := [some (.inr (.inr (some 49))), some (.inl p), some (.inl g), some (.inl (am_or s (am_shl 1 ((nxi (adj (nv (vw m 2))) (tau (nv (vw m 2))) (BN (nv (vw m 2))) g (cnt s.toNat 12) s.toNat l.toNat : Nat) : Int)))), some (.inl ((nxi (adj (nv (vw m 2))) (tau (nv (vw m 2))) (BN (nv (vw m 2))) g (cnt s.toNat 12) s.toNat l.toNat : Nat) : Int)), some (.inl (i + 1))]) (st' := []) (m' := m1) (fun fx hfx o hk => ?_) ?_
      · refine r_sto (pc' := 61) (ls' := [some (.inr (.inr (some 49))), some (.inl p), some (.inl g), some (.inl (am_or s (am_shl 1 ((nxi (adj (nv (vw m 2))) (tau (nv (vw m 2))) (BN (nv (vw m 2))) g (cnt s.toNat 12) s.toNat l.toNat : Nat) : Int)))), some (.inl ((nxi (adj (nv (vw m 2))) (tau (nv (vw m 2))) (BN (nv (vw m 2))) g (cnt s.toNat 12) s.toNat l.toNat : Nat) : Int)), some (.inl (i + 1))]) hM_151 d_151_58 rfl rfl ?_
        refine r_go (pc' := 13) hM_151 d_151_61 (by decide) ?_
        exact hk
      exact H
    · have H := H.2 (Decidable.not_not.mp hz5)
      obtain ⟨hz6, H⟩ := H
      refine ok_sg (pc' := 57) (ls' := [some (.inr (.inr (some 49))), some (.inl p), some (.inl g), some (.inl (am_or s (am_shl 1 ((nxi (adj (nv (vw m 2))) (tau (nv (vw m 2))) (BN (nv (vw m 2))) g (cnt s.toNat 12) s.toNat l.toNat : Nat) : Int)))), some (.inl ((nxi (adj (nv (vw m 2))) (tau (nv (vw m 2))) (BN (nv (vw m 2))) g (cnt s.toNat 12) s.toNat l.toNat : Nat) : Int)), some (.inl i)]) (st' := [.inl (m1 50 ((am_s ((nxi (adj (nv (vw m 2))) (tau (nv (vw m 2))) (BN (nv (vw m 2))) g (cnt s.toNat 12) s.toNat l.toNat : Nat) : Int)).toNat))]) (m' := m1) (fun fx hfx o hk => ?_) ?_
      · refine r_ld (pc' := 51) hM_151 d_151_50 rfl rfl ?_
        refine r_gR (pc' := 54) (v := 50) hM_151 d_151_51 rfl (by decide +kernel) ?_
        refine r_ld (pc' := 56) hM_151 d_151_54 rfl rfl ?_
        refine r_ia (pc' := 57) (n := 8) hM_151 d_151_56 rfl rfl hz6 ?_
        exact hk
      exact ok_rt (fun fx _ => rt_i hM_151 d_151_57 rfl) H
theorem u_151_0 {Q : List am_V → am_M → Prop} {m : am_M} {p : Int}  (H : (LYD m) ∧ (∀ (m1 : am_M), ((LYD m1 ∧ TRD m1) ∧ ∀ a, a ≠ 52 → m1 a = m a) → ok 4 151 13 [some (.inr (.inr (some 49))), some (.inl p), some (.inl (DD (adj (nv (vw m 2))) (tau (nv (vw m 2))) (BN (nv (vw m 2))) (BN (nv (vw m 2))) 0 0)), some (.inl 0), some (.inl (-1)), some (.inl 0)] [] m1 Q)) : ok 4 151 0 [some (.inr (.inr (some 49))), some (.inl p), none, none, none, none] [] m Q := by
  obtain ⟨hz1, H⟩ := H
  refine ok_sg (pc' := 1) (ls' := [some (.inr (.inr (some 49))), some (.inl p), none, none, none, none]) (st' := [.inr (.inr (some 49))]) (m' := m) (fun fx hfx o hk => ?_) ?_
  · refine r_ld (pc' := 1) hM_151 d_151_0 rfl rfl ?_
    exact hk
  refine ok_cl (pc' := 4) (c := (147, 0)) (a := [.inr (.inr (some 49))]) (q := []) hM_151 d_151_1 rfl (by decide +kernel) hM_147 rfl rfl rfl (Nat.le_of_ble_eq_true rfl) (Nat.le_of_ble_eq_true rfl) (Or.inr rfl) (z_147  m  hz1) (Nat.le_of_ble_eq_true rfl) ?_
  rintro _ m1 ⟨rfl, hz2⟩
  replace H := H  m1 hz2
  show ok 4 151 4 [some (.inr (.inr (some 49))), some (.inl p), none, none, none, none] [.inl (DD (adj (nv (vw m 2))) (tau (nv (vw m 2))) (BN (nv (vw m 2))) (BN (nv (vw m 2))) 0 0)] m1 Q
  refine ok_sg (pc' := 13) (ls' := [some (.inr (.inr (some 49))), some (.inl p), some (.inl (DD (adj (nv (vw m 2))) (tau (nv (vw m 2))) (BN (nv (vw m 2))) (BN (nv (vw m 2))) 0 0)), some (.inl 0), some (.inl (-1)), some (.inl 0)]) (st' := []) (m' := m1) (fun fx hfx o hk => ?_) ?_
  · refine r_sto (pc' := 5) (ls' := [some (.inr (.inr (some 49))), some (.inl p), some (.inl (DD (adj (nv (vw m 2))) (tau (nv (vw m 2))) (BN (nv (vw m 2))) (BN (nv (vw m 2))) 0 0)), none, none, none]) hM_151 d_151_4 rfl rfl ?_
    refine r_k (pc' := 6) (v := .inl 0) hM_151 d_151_5 rfl rfl ?_
    refine r_sto (pc' := 7) (ls' := [some (.inr (.inr (some 49))), some (.inl p), some (.inl (DD (adj (nv (vw m 2))) (tau (nv (vw m 2))) (BN (nv (vw m 2))) (BN (nv (vw m 2))) 0 0)), some (.inl 0), none, none]) hM_151 d_151_6 rfl rfl ?_
    refine r_k (pc' := 8) (v := .inl (-1)) hM_151 d_151_7 rfl rfl ?_
    refine r_sto (pc' := 10) (ls' := [some (.inr (.inr (some 49))), some (.inl p), some (.inl (DD (adj (nv (vw m 2))) (tau (nv (vw m 2))) (BN (nv (vw m 2))) (BN (nv (vw m 2))) 0 0)), some (.inl 0), some (.inl (-1)), none]) hM_151 d_151_8 rfl rfl ?_
    refine r_k (pc' := 11) (v := .inl 0) hM_151 d_151_10 rfl rfl ?_
    refine r_sto (pc' := 13) (ls' := [some (.inr (.inr (some 49))), some (.inl p), some (.inl (DD (adj (nv (vw m 2))) (tau (nv (vw m 2))) (BN (nv (vw m 2))) (BN (nv (vw m 2))) 0 0)), some (.inl 0), some (.inl (-1)), some (.inl 0)]) hM_151 d_151_11 rfl rfl ?_
    exact hk
  exact H
theorem z_151   (m : am_M) (p : Int) (hq : LYD m ∧ 0 ≤ p ∧ p < m 2 4) : ok 4 151 0 (am_ent 6 [.inr (.inr (some 49)), .inl p]) [] m (fun rr m' => rr = [.inl ((apw (nv (vw m 2)) (apg (nv (vw m 2))) p.toNat))] ∧ ∀ a, a ≠ 52 → m' a = m a) := by
  show ok 4 151 0 [some (.inr (.inr (some 49))), some (.inl p), none, none, none, none] [] m _
  obtain ⟨hL, hp⟩ := hq
  obtain ⟨P, rfl⟩ : ∃ P : Nat, p = (P : Int) := ⟨p.toNat, by omega⟩
  rw [Int.toNat_natCast]
  have hw := hL.1
  have hN := vwN hw
  have eg0 : (nv (vw m 2) 0).toNat = (m 2 4).toNat := by rw [nv0, vw_0]
  refine u_151_0 ⟨hL, fun m1 hm1 => ?_⟩
  obtain ⟨⟨hL1, hT1⟩, hfr⟩ := hm1
  obtain ⟨-, fv⟩ := LYD_fr hfr hL
  obtain ⟨-, hB, h49, hcell⟩ := id hL1
  rw [fv] at hB h49 hcell
  have hγ := DD_rng (A := adj (nv (vw m 2))) (τ := tau (nv (vw m 2))) (B := BN (nv (vw m 2))) (BN (nv (vw m 2))) 0 0
  have hp8 : 2 ^ BN (nv (vw m 2)) ≤ 2 ^ 8 := Nat.pow_le_pow_right (by decide) hB
  have hSQ := SQ_ok (A := adj (nv (vw m 2))) (τ := tau (nv (vw m 2))) (B := BN (nv (vw m 2))) (γ := apg (nv (vw m 2))) (by omega) (i0 := 0) (x := (0, 0)) ⟨Nat.zero_le _, Nat.two_pow_pos _, by decide, by rw [Nat.sub_zero]; exact Int.le_refl _⟩
  simp only [Nat.zero_add] at hSQ
  have key := ok_for (d := 4) (mi := 151) (pc := 13) (Q := fun rr m' => rr = [.inl (apw (nv (vw m 2)) (apg (nv (vw m 2))) P)] ∧ ∀ a, a ≠ 52 → m' a = m a) (σ := Unit) (fun i _ => [some (.inr (.inr (some 49))), some (.inl (P : Int)), some (.inl (apg (nv (vw m 2)))), some (.inl (((sq (adj (nv (vw m 2))) (tau (nv (vw m 2))) (BN (nv (vw m 2))) (apg (nv (vw m 2))) 0 (0, 0) i).1 : Nat) : Int)), some (.inl (if i = 0 then -1 else (((sq (adj (nv (vw m 2))) (tau (nv (vw m 2))) (BN (nv (vw m 2))) (apg (nv (vw m 2))) 0 (0, 0) i).2 : Nat) : Int))), some (.inl (i : Int))]) (fun i _ M => M = m1 ∧ ∀ j, j < i → spx (nv (vw m 2)) j ≠ P) (BN (nv (vw m 2))) ?_ ?_ () m1 ⟨rfl, fun j h => absurd h (Nat.not_lt_zero _)⟩
  · exact key
  · rintro i hi - M ⟨hM, h1⟩ IH
    rw [hM]
    obtain ⟨b1, b2, b3, b4, b5⟩ := hSQ i (by omega)
    have b5 := b5 hi
    obtain ⟨c1, c2, c3, c4, -⟩ := hSQ (i + 1) (by omega)
    have hst : sq (adj (nv (vw m 2))) (tau (nv (vw m 2))) (BN (nv (vw m 2))) (apg (nv (vw m 2))) 0 (0, 0) (i + 1) = ((sq (adj (nv (vw m 2))) (tau (nv (vw m 2))) (BN (nv (vw m 2))) (apg (nv (vw m 2))) 0 (0, 0) i).1 ||| 2 ^ nxi (adj (nv (vw m 2))) (tau (nv (vw m 2))) (BN (nv (vw m 2))) (apg (nv (vw m 2))) i (sq (adj (nv (vw m 2))) (tau (nv (vw m 2))) (BN (nv (vw m 2))) (apg (nv (vw m 2))) 0 (0, 0) i).1 (sq (adj (nv (vw m 2))) (tau (nv (vw m 2))) (BN (nv (vw m 2))) (apg (nv (vw m 2))) 0 (0, 0) i).2, nxi (adj (nv (vw m 2))) (tau (nv (vw m 2))) (BN (nv (vw m 2))) (apg (nv (vw m 2))) i (sq (adj (nv (vw m 2))) (tau (nv (vw m 2))) (BN (nv (vw m 2))) (apg (nv (vw m 2))) 0 (0, 0) i).1 (sq (adj (nv (vw m 2))) (tau (nv (vw m 2))) (BN (nv (vw m 2))) (apg (nv (vw m 2))) 0 (0, 0) i).2) := by
      rw [sq_s, Nat.zero_add]
      rfl
    have hl2 : (if i = 0 then (-1 : Int) else (((sq (adj (nv (vw m 2))) (tau (nv (vw m 2))) (BN (nv (vw m 2))) (apg (nv (vw m 2))) 0 (0, 0) i).2 : Nat) : Int)).toNat = (sq (adj (nv (vw m 2))) (tau (nv (vw m 2))) (BN (nv (vw m 2))) (apg (nv (vw m 2))) 0 (0, 0) i).2 := by
      by_cases h0 : i = 0
      · rw [if_pos h0, h0]; rfl
      · rw [if_neg h0, Int.toNat_natCast]
    have hl3 : (if i = 0 then (-1 : Int) else (((sq (adj (nv (vw m 2))) (tau (nv (vw m 2))) (BN (nv (vw m 2))) (apg (nv (vw m 2))) 0 (0, 0) i).2 : Nat) : Int)) = -1 ∧ i = 0 ∨ 0 ≤ (if i = 0 then (-1 : Int) else (((sq (adj (nv (vw m 2))) (tau (nv (vw m 2))) (BN (nv (vw m 2))) (apg (nv (vw m 2))) 0 (0, 0) i).2 : Nat) : Int)) ∧ (if i = 0 then (-1 : Int) else (((sq (adj (nv (vw m 2))) (tau (nv (vw m 2))) (BN (nv (vw m 2))) (apg (nv (vw m 2))) 0 (0, 0) i).2 : Nat) : Int)) < ((BN (nv (vw m 2)) : Nat) : Int) := by
      by_cases h0 : i = 0
      · left; rw [if_pos h0]; exact ⟨rfl, h0⟩
      · right; rw [if_neg h0]
        have := b3 (by omega)
        omega
    obtain ⟨x1, x2⟩ := hcell i hi
    obtain ⟨s1, s2, s3⟩ := spx_ok hi
    have hwhole : spx (nv (vw m 2)) i = P → apw (nv (vw m 2)) (apg (nv (vw m 2))) P = ((spx (nv (vw m 2)) (sq (adj (nv (vw m 2))) (tau (nv (vw m 2))) (BN (nv (vw m 2))) (apg (nv (vw m 2))) 0 (0, 0) (i + 1)).2 : Nat) : Int) := by
      intro h
      unfold apw
      rw [← h, if_pos s2, s3]
    have c3' := c3 (by omega)
    refine u_151_13 ?_
    rw [fv, h49, am_s_id (z := ((BN (nv (vw m 2)) : Nat) : Int)) (by omega) (by omega), am_s_id (z := (i : Int)) (by omega) (by omega)]
    simp only [Int.toNat_natCast]
    rw [hl2, b2]
    have nx := fun h => IH () m1 h
    rw [hst] at c1 c3' nx hwhole
    generalize nxi (adj (nv (vw m 2))) (tau (nv (vw m 2))) (BN (nv (vw m 2))) (apg (nv (vw m 2))) i (sq (adj (nv (vw m 2))) (tau (nv (vw m 2))) (BN (nv (vw m 2))) (apg (nv (vw m 2))) 0 (0, 0) i).1 (sq (adj (nv (vw m 2))) (tau (nv (vw m 2))) (BN (nv (vw m 2))) (apg (nv (vw m 2))) 0 (0, 0) i).2 = j at c1 c3' nx hwhole ⊢
    have c3'' : j < BN (nv (vw m 2)) := c3'
    have hjp : 2 ^ j < 2 ^ BN (nv (vw m 2)) := Nat.pow_lt_pow_right (by decide) c3''
    have hor : am_or (((sq (adj (nv (vw m 2))) (tau (nv (vw m 2))) (BN (nv (vw m 2))) (apg (nv (vw m 2))) 0 (0, 0) i).1 : Nat) : Int) (am_shl 1 (j : Int)) = (((sq (adj (nv (vw m 2))) (tau (nv (vw m 2))) (BN (nv (vw m 2))) (apg (nv (vw m 2))) 0 (0, 0) i).1 ||| 2 ^ j : Nat) : Int) := by
      rw [bx_shl1 j (by omega)]
      exact bx_or12 (by omega) (by omega)
    refine ⟨fun q => by omega, fun _ => ⟨⟨⟨hL1, hT1⟩, ⟨by omega, b1⟩, hl3, hγ, b5⟩, ?_⟩⟩
    intro mx hmx
    rw [hmx, x1, am_s_id (z := ((spx (nv (vw m 2)) i : Nat) : Int)) (by omega) (by omega), am_s_id (z := (P : Int)) (by omega) (by omega), am_s_id (z := (j : Int)) (by omega) (by omega), Int.toNat_natCast, hor, (hcell j c3'').1]
    refine ⟨by omega, fun q => ?_, fun q => ⟨by omega, ?_, hfr⟩⟩
    · have nx := nx ⟨rfl, fun x hx => by
        by_cases hh : x = i
        · rw [hh]; omega
        · exact h1 x (by omega)⟩
      rw [if_neg (by omega)] at nx
      exact nx
    · rw [hwhole (by omega)]
  · rintro - M ⟨hM, h1⟩
    rw [hM]
    refine u_151_13 ?_
    rw [h49, am_s_id (z := ((BN (nv (vw m 2)) : Nat) : Int)) (by omega) (by omega)]
    refine ⟨fun _ => ⟨?_, hfr⟩, fun q => by omega⟩
    unfold apw
    rw [if_neg]
    intro hng
    have hPN : P < (nv (vw m 2) 0).toNat := by omega
    exact h1 _ (cf_lt hPN hng) (spx_rk hPN hng)
theorem u_146_0 {Q : List am_V → am_M → Prop} {m : am_M}   (H : (LYD m) ∧ (∀ (m1 : am_M), ((LYD m1 ∧ TRD m1) ∧ ∀ a, a ≠ 52 → m1 a = m a) → ∀ y1 : Int, y1 = (if am_s (DD (adj (nv (vw m 2))) (tau (nv (vw m 2))) (BN (nv (vw m 2))) (BN (nv (vw m 2))) 0 0) < 1000 then (DD (adj (nv (vw m 2))) (tau (nv (vw m 2))) (BN (nv (vw m 2))) (BN (nv (vw m 2))) 0 0) else (-1)) → Q [.inl y1] m1)) : ok 4 146 0 [some (.inr (.inr (some 49))), none] [] m Q := by
  obtain ⟨hz1, H⟩ := H
  refine ok_sg (pc' := 1) (ls' := [some (.inr (.inr (some 49))), none]) (st' := [.inr (.inr (some 49))]) (m' := m) (fun fx hfx o hk => ?_) ?_
  · refine r_ld (pc' := 1) hM_146 d_146_0 rfl rfl ?_
    exact hk
  refine ok_cl (pc' := 4) (c := (147, 0)) (a := [.inr (.inr (some 49))]) (q := []) hM_146 d_146_1 rfl (by decide +kernel) hM_147 rfl rfl rfl (Nat.le_of_ble_eq_true rfl) (Nat.le_of_ble_eq_true rfl) (Or.inr rfl) (z_147  m  hz1) (Nat.le_of_ble_eq_true rfl) ?_
  rintro _ m1 ⟨rfl, hz2⟩
  replace H := H  m1 hz2
  show ok 4 146 4 [some (.inr (.inr (some 49))), none] [.inl (DD (adj (nv (vw m 2))) (tau (nv (vw m 2))) (BN (nv (vw m 2))) (BN (nv (vw m 2))) 0 0)] m1 Q
  refine ok_sg (pc' := 9) (ls' := [some (.inr (.inr (some 49))), some (.inl (DD (adj (nv (vw m 2))) (tau (nv (vw m 2))) (BN (nv (vw m 2))) (BN (nv (vw m 2))) 0 0))]) (st' := [.inl 1000, .inl (DD (adj (nv (vw m 2))) (tau (nv (vw m 2))) (BN (nv (vw m 2))) (BN (nv (vw m 2))) 0 0)]) (m' := m1) (fun fx hfx o hk => ?_) ?_
  · refine r_sto (pc' := 5) (ls' := [some (.inr (.inr (some 49))), some (.inl (DD (adj (nv (vw m 2))) (tau (nv (vw m 2))) (BN (nv (vw m 2))) (BN (nv (vw m 2))) 0 0))]) hM_146 d_146_4 rfl rfl ?_
    refine r_ld (pc' := 6) hM_146 d_146_5 rfl rfl ?_
    refine r_k (pc' := 9) (v := .inl 1000) hM_146 d_146_6 rfl rfl ?_
    exact hk
  refine ok_sg (pc' := 17) (ls' := [some (.inr (.inr (some 49))), some (.inl (DD (adj (nv (vw m 2))) (tau (nv (vw m 2))) (BN (nv (vw m 2))) (BN (nv (vw m 2))) 0 0))]) (st' := [.inl (if am_s (DD (adj (nv (vw m 2))) (tau (nv (vw m 2))) (BN (nv (vw m 2))) (BN (nv (vw m 2))) 0 0) < 1000 then (DD (adj (nv (vw m 2))) (tau (nv (vw m 2))) (BN (nv (vw m 2))) (BN (nv (vw m 2))) 0 0) else (-1))]) (m' := m1) (fun fx hfx o K => ?_) ?_
  · refine r_ic (pc' := 16) (pc2 := 12) hM_146 d_146_9 (by decide) rfl (fun hz3 => ?_) (fun hz3 => ?_)
    · have hz3 : am_s (DD (adj (nv (vw m 2))) (tau (nv (vw m 2))) (BN (nv (vw m 2))) (BN (nv (vw m 2))) 0 0) < 1000 := hz3
      rw [if_pos hz3] at K
      refine r_ld (pc' := 17) hM_146 d_146_16 rfl rfl ?_
      exact K
    · have hz3 : ¬ (am_s (DD (adj (nv (vw m 2))) (tau (nv (vw m 2))) (BN (nv (vw m 2))) (BN (nv (vw m 2))) 0 0) < 1000) := hz3
      rw [if_neg hz3] at K
      refine r_k (pc' := 13) (v := .inl (-1)) hM_146 d_146_12 rfl rfl ?_
      refine r_go (pc' := 17) hM_146 d_146_13 (by decide) ?_
      exact K
  have K : ∀ y1 : Int, y1 = (if am_s (DD (adj (nv (vw m 2))) (tau (nv (vw m 2))) (BN (nv (vw m 2))) (BN (nv (vw m 2))) 0 0) < 1000 then (DD (adj (nv (vw m 2))) (tau (nv (vw m 2))) (BN (nv (vw m 2))) (BN (nv (vw m 2))) 0 0) else (-1)) → ok 4 146 17 [some (.inr (.inr (some 49))), some (.inl (DD (adj (nv (vw m 2))) (tau (nv (vw m 2))) (BN (nv (vw m 2))) (BN (nv (vw m 2))) 0 0))] [.inl y1] m1 Q := by
    intro y1 hy1
    replace H := H y1 hy1
    exact ok_rt (fun fx _ => rt_i hM_146 d_146_17 rfl) H
  exact K _ rfl
theorem z_146   (m : am_M)  (hq : LYD m) : ok 4 146 0 (am_ent 2 [.inr (.inr (some 49))]) [] m (fun rr m' => rr = [.inl ((if 1000 ≤ apg (nv (vw m 2)) then -1 else apg (nv (vw m 2))))] ∧ ∀ a, a ≠ 52 → m' a = m a) := by
  show ok 4 146 0 [some (.inr (.inr (some 49))), none] [] m _
  have hγ := DD_rng (A := adj (nv (vw m 2))) (τ := tau (nv (vw m 2))) (B := BN (nv (vw m 2))) (BN (nv (vw m 2))) 0 0
  refine u_146_0 ⟨hq, fun m1 hm1 y hy => ⟨?_, hm1.2⟩⟩
  rw [am_s_id (by omega) (by omega)] at hy
  rw [hy]
  unfold apg
  by_cases h : DD (adj (nv (vw m 2))) (tau (nv (vw m 2))) (BN (nv (vw m 2))) (BN (nv (vw m 2))) 0 0 < 1000
  · rw [if_pos h, if_neg (by omega)]
  · rw [if_neg h, if_pos (by omega)]
theorem u_144_0 {Q : List am_V → am_M → Prop} {m : am_M} {w : Int}  (H : ((am_s w = 0) → (WFG (vw m 2)) ∧ (∀ (m1 : am_M), ((BN (nv (vw m 2)) ≤ 8 → LYD m1) ∧ ∀ a k, a ≠ 50 → a ≠ 51 → ¬ (a = 49 ∧ k = 4) → m1 a k = m a k) → ((BN (nv (vw m 2)) ≤ 8) → (LYD m1) ∧ (∀ (m2 : am_M), (∀ a, a ≠ 52 → m2 a = m1 a) → Q [.inl (if 1000 ≤ apg (nv (vw m1 2)) then -1 else apg (nv (vw m1 2)))] m2)) ∧ ((¬ (BN (nv (vw m 2)) ≤ 8)) → Q [.inl (-4)] m1))) ∧ ((¬ (am_s w = 0)) → ((am_s w < 10) → Q [.inl (-2)] m) ∧ ((¬ (am_s w < 10)) → ((am_s w < am_s (10 + (m 2 4))) → (WFG (vw m 2)) ∧ (∀ (m3 : am_M), ((BN (nv (vw m 2)) ≤ 8 → LYD m3) ∧ ∀ a k, a ≠ 50 → a ≠ 51 → ¬ (a = 49 ∧ k = 4) → m3 a k = m a k) → ((BN (nv (vw m 2)) ≤ 8) → (LYD m3 ∧ 0 ≤ (w - 10) ∧ (w - 10) < m3 2 4) ∧ (∀ (m4 : am_M), (∀ a, a ≠ 52 → m4 a = m3 a) → Q [.inl (apw (nv (vw m3 2)) (apg (nv (vw m3 2))) (w - 10).toNat)] m4)) ∧ ((¬ (BN (nv (vw m 2)) ≤ 8)) → Q [.inl (-4)] m3))) ∧ ((¬ (am_s w < am_s (10 + (m 2 4)))) → Q [.inl (-2)] m)))) : ok 5 144 0 [some (.inr (.inr (some 0))), some (.inl w)] [] m Q := by
  refine ok_sg (pc' := 1) (ls' := [some (.inr (.inr (some 0))), some (.inl w)]) (st' := [.inl w]) (m' := m) (fun fx hfx o hk => ?_) ?_
  · refine r_ld (pc' := 1) hM_144 d_144_0 rfl rfl ?_
    exact hk
  refine ok_if (pc' := 27) (pc2 := 4) hM_144 d_144_1 (by decide) rfl (fun hz1 => ?_) (fun hz1 => ?_)
  · have H := H.1 hz1
    obtain ⟨hz2, H⟩ := H
    refine ok_sg (pc' := 31) (ls' := [some (.inr (.inr (some 0))), some (.inl w)]) (st' := [.inr (.inr (some 49))]) (m' := m) (fun fx hfx o hk => ?_) ?_
    · refine r_ld (pc' := 28) hM_144 d_144_27 rfl rfl ?_
      refine r_gR (pc' := 31) (v := 49) hM_144 d_144_28 rfl (by decide +kernel) ?_
      exact hk
    refine ok_cl (pc' := 34) (c := (145, 0)) (a := [.inr (.inr (some 49))]) (q := []) hM_144 d_144_31 rfl (by decide +kernel) hM_145 rfl rfl rfl (Nat.le_of_ble_eq_true rfl) (Nat.le_of_ble_eq_true rfl) (Or.inr rfl) (z_145  m  hz2) (Nat.le_of_ble_eq_true rfl) ?_
    rintro _ m1 ⟨rfl, hz3⟩
    replace H := H  m1 hz3
    show ok 5 144 34 [some (.inr (.inr (some 0))), some (.inl w)] [.inl (if BN (nv (vw m 2)) ≤ 8 then 1 else 0)] m1 Q
    refine ok_if (pc' := 40) (pc2 := 37) hM_144 d_144_34 (by decide) rfl (fun hz4 => ?_) (fun hz4 => ?_)
    · have H := H.1 (as_iteN.mp hz4)
      obtain ⟨hz5, H⟩ := H
      refine ok_sg (pc' := 48) (ls' := [some (.inr (.inr (some 0))), some (.inl w)]) (st' := [.inr (.inr (some 49))]) (m' := m1) (fun fx hfx o hk => ?_) ?_
      · refine r_ld (pc' := 41) hM_144 d_144_40 rfl rfl ?_
        refine r_if (pc' := 54) (pc2 := 44) hM_144 d_144_41 (by decide) rfl (fun hc => absurd hc (fun q => q hz1)) (fun _ => ?_)
        refine r_ld (pc' := 45) hM_144 d_144_44 rfl rfl ?_
        refine r_gR (pc' := 48) (v := 49) hM_144 d_144_45 rfl (by decide +kernel) ?_
        exact hk
      refine ok_cl (pc' := 51) (c := (146, 0)) (a := [.inr (.inr (some 49))]) (q := []) hM_144 d_144_48 rfl (by decide +kernel) hM_146 rfl rfl rfl (Nat.le_of_ble_eq_true rfl) (Nat.le_of_ble_eq_true rfl) (Or.inr rfl) (z_146  m1  hz5) (Nat.le_of_ble_eq_true rfl) ?_
      rintro _ m2 ⟨rfl, hz6⟩
      replace H := H  m2 hz6
      show ok 5 144 51 [some (.inr (.inr (some 0))), some (.inl w)] [.inl (if 1000 ≤ apg (nv (vw m1 2)) then -1 else apg (nv (vw m1 2)))] m2 Q
      refine ok_sg (pc' := 65) (ls' := [some (.inr (.inr (some 0))), some (.inl w)]) (st' := [.inl (if 1000 ≤ apg (nv (vw m1 2)) then -1 else apg (nv (vw m1 2)))]) (m' := m2) (fun fx hfx o hk => ?_) ?_
      · refine r_go (pc' := 65) hM_144 d_144_51 (by decide) ?_
        exact hk
      exact ok_rt (fun fx _ => rt_i hM_144 d_144_65 rfl) H
    · have H := H.2 (as_ite.mp (Decidable.not_not.mp hz4))
      refine ok_sg (pc' := 39) (ls' := [some (.inr (.inr (some 0))), some (.inl w)]) (st' := [.inl (-4)]) (m' := m1) (fun fx hfx o hk => ?_) ?_
      · refine r_k (pc' := 39) (v := .inl (-4)) hM_144 d_144_37 rfl rfl ?_
        exact hk
      exact ok_rt (fun fx _ => rt_i hM_144 d_144_39 rfl) H
  · have H := H.2 hz1
    refine ok_sg (pc' := 7) (ls' := [some (.inr (.inr (some 0))), some (.inl w)]) (st' := [.inl 10, .inl w]) (m' := m) (fun fx hfx o hk => ?_) ?_
    · refine r_ld (pc' := 5) hM_144 d_144_4 rfl rfl ?_
      refine r_k (pc' := 7) (v := .inl 10) hM_144 d_144_5 rfl rfl ?_
      exact hk
    refine ok_ic (pc' := 24) (pc2 := 10) hM_144 d_144_7 (by decide) rfl (fun hz7 => ?_) (fun hz7 => ?_)
    · have H := H.1 hz7
      refine ok_sg (pc' := 26) (ls' := [some (.inr (.inr (some 0))), some (.inl w)]) (st' := [.inl (-2)]) (m' := m) (fun fx hfx o hk => ?_) ?_
      · refine r_k (pc' := 26) (v := .inl (-2)) hM_144 d_144_24 rfl rfl ?_
        exact hk
      exact ok_rt (fun fx _ => rt_i hM_144 d_144_26 rfl) H
    · have H := H.2 hz7
      refine ok_sg (pc' := 21) (ls' := [some (.inr (.inr (some 0))), some (.inl w)]) (st' := [.inl (10 + (m 2 4)), .inl w]) (m' := m) (fun fx hfx o hk => ?_) ?_
      · refine r_ld (pc' := 11) hM_144 d_144_10 rfl rfl ?_
        refine r_k (pc' := 13) (v := .inl 10) hM_144 d_144_11 rfl rfl ?_
        refine r_ld (pc' := 14) hM_144 d_144_13 rfl rfl ?_
        refine r_gR (pc' := 17) (v := 2) hM_144 d_144_14 rfl (by decide +kernel) ?_
        refine r_gI (pc' := 20) (k0 := 4) hM_144 d_144_17 rfl (by decide +kernel) ?_
        refine r_b (pc' := 21) (z := (10 + (m 2 4))) hM_144 d_144_20 rfl rfl ?_
        exact hk
      refine ok_ic (pc' := 27) (pc2 := 24) hM_144 d_144_21 (by decide) rfl (fun hz8 => ?_) (fun hz8 => ?_)
      · have H := H.1 hz8
        obtain ⟨hz9, H⟩ := H
        refine ok_sg (pc' := 31) (ls' := [some (.inr (.inr (some 0))), some (.inl w)]) (st' := [.inr (.inr (some 49))]) (m' := m) (fun fx hfx o hk => ?_) ?_
        · refine r_ld (pc' := 28) hM_144 d_144_27 rfl rfl ?_
          refine r_gR (pc' := 31) (v := 49) hM_144 d_144_28 rfl (by decide +kernel) ?_
          exact hk
        refine ok_cl (pc' := 34) (c := (145, 0)) (a := [.inr (.inr (some 49))]) (q := []) hM_144 d_144_31 rfl (by decide +kernel) hM_145 rfl rfl rfl (Nat.le_of_ble_eq_true rfl) (Nat.le_of_ble_eq_true rfl) (Or.inr rfl) (z_145  m  hz9) (Nat.le_of_ble_eq_true rfl) ?_
        rintro _ m3 ⟨rfl, hz10⟩
        replace H := H  m3 hz10
        show ok 5 144 34 [some (.inr (.inr (some 0))), some (.inl w)] [.inl (if BN (nv (vw m 2)) ≤ 8 then 1 else 0)] m3 Q
        refine ok_if (pc' := 40) (pc2 := 37) hM_144 d_144_34 (by decide) rfl (fun hz11 => ?_) (fun hz11 => ?_)
        · have H := H.1 (as_iteN.mp hz11)
          obtain ⟨hz12, H⟩ := H
          refine ok_sg (pc' := 62) (ls' := [some (.inr (.inr (some 0))), some (.inl w)]) (st' := [.inl (w - 10), .inr (.inr (some 49))]) (m' := m3) (fun fx hfx o hk => ?_) ?_
          · refine r_ld (pc' := 41) hM_144 d_144_40 rfl rfl ?_
            refine r_if (pc' := 54) (pc2 := 44) hM_144 d_144_41 (by decide) rfl (fun _ => ?_) (fun hc => absurd hz1 hc)
            refine r_ld (pc' := 55) hM_144 d_144_54 rfl rfl ?_
            refine r_gR (pc' := 58) (v := 49) hM_144 d_144_55 rfl (by decide +kernel) ?_
            refine r_ld (pc' := 59) hM_144 d_144_58 rfl rfl ?_
            refine r_k (pc' := 61) (v := .inl 10) hM_144 d_144_59 rfl rfl ?_
            refine r_b (pc' := 62) (z := (w - 10)) hM_144 d_144_61 rfl rfl ?_
            exact hk
          refine ok_cl (pc' := 65) (c := (151, 0)) (a := [.inr (.inr (some 49)), .inl (w - 10)]) (q := []) hM_144 d_144_62 rfl (by decide +kernel) hM_151 rfl rfl rfl (Nat.le_of_ble_eq_true rfl) (Nat.le_of_ble_eq_true rfl) (Or.inr rfl) (z_151  m3 (w - 10) hz12) (Nat.le_of_ble_eq_true rfl) ?_
          rintro _ m4 ⟨rfl, hz13⟩
          replace H := H  m4 hz13
          show ok 5 144 65 [some (.inr (.inr (some 0))), some (.inl w)] [.inl (apw (nv (vw m3 2)) (apg (nv (vw m3 2))) (w - 10).toNat)] m4 Q
          exact ok_rt (fun fx _ => rt_i hM_144 d_144_65 rfl) H
        · have H := H.2 (as_ite.mp (Decidable.not_not.mp hz11))
          refine ok_sg (pc' := 39) (ls' := [some (.inr (.inr (some 0))), some (.inl w)]) (st' := [.inl (-4)]) (m' := m3) (fun fx hfx o hk => ?_) ?_
          · refine r_k (pc' := 39) (v := .inl (-4)) hM_144 d_144_37 rfl rfl ?_
            exact hk
          exact ok_rt (fun fx _ => rt_i hM_144 d_144_39 rfl) H
      · have H := H.2 hz8
        refine ok_sg (pc' := 26) (ls' := [some (.inr (.inr (some 0))), some (.inl w)]) (st' := [.inl (-2)]) (m' := m) (fun fx hfx o hk => ?_) ?_
        · refine r_k (pc' := 26) (v := .inl (-2)) hM_144 d_144_24 rfl rfl ?_
          exact hk
        exact ok_rt (fun fx _ => rt_i hM_144 d_144_26 rfl) H
theorem t_250_0 {fx : am_X0} {o : List am_V × am_S} {m : am_M} {p : Int}  (H : ((am_s p = 0) → o = ([.inl 1000], st0 m)) ∧ (¬ (am_s p = 0) → (0 ≤ am_s p ∧ am_s p < (12 : Nat)) ∧ (((am_s (m 71 ((am_s p).toNat)) = am_s (-1)) → o = ([.inl 1000], st0 m)) ∧ (¬ (am_s (m 71 ((am_s p).toNat)) = am_s (-1)) → (0 ≤ am_s (p - 1) ∧ am_s (p - 1) < (12 : Nat)) ∧ (((¬ am_s (m 71 ((am_s (p - 1)).toNat)) = am_s (-1)) → (WFG (m 54)) ∧ ((WFG (m 54) ∧ 0 ≤ (m 71 ((am_s p).toNat)) ∧ (m 71 ((am_s p).toNat)) < m 54 0) ∧ ((WFG (m 54) ∧ 0 ≤ (m 71 ((am_s (p - 1)).toNat)) ∧ (m 71 ((am_s (p - 1)).toNat)) < m 54 0) ∧ (∀ y1 : Int, y1 = (if 0 ≤ am_s (((tn (nv (m 54)) (m 71 ((am_s p).toNat)).toNat (decide (am_s ((if (0 ≤ am_s (m 71 ((am_s p).toNat)) ∧ am_s (m 71 ((am_s p).toNat)) < m 54 0) ∧ nv (m 54) (8 + (am_s (m 71 ((am_s p).toNat))).toNat) = am_s 1 then 1 else 0)) ≠ 0)))) - ((tn (nv (m 54)) (m 71 ((am_s (p - 1)).toNat)).toNat (decide (am_s ((if (0 ≤ am_s (m 71 ((am_s (p - 1)).toNat)) ∧ am_s (m 71 ((am_s (p - 1)).toNat)) < m 54 0) ∧ nv (m 54) (8 + (am_s (m 71 ((am_s (p - 1)).toNat))).toNat) = am_s 1 then 1 else 0)) ≠ 0))))) then (((tn (nv (m 54)) (m 71 ((am_s p).toNat)).toNat (decide (am_s ((if (0 ≤ am_s (m 71 ((am_s p).toNat)) ∧ am_s (m 71 ((am_s p).toNat)) < m 54 0) ∧ nv (m 54) (8 + (am_s (m 71 ((am_s p).toNat))).toNat) = am_s 1 then 1 else 0)) ≠ 0)))) - ((tn (nv (m 54)) (m 71 ((am_s (p - 1)).toNat)).toNat (decide (am_s ((if (0 ≤ am_s (m 71 ((am_s (p - 1)).toNat)) ∧ am_s (m 71 ((am_s (p - 1)).toNat)) < m 54 0) ∧ nv (m 54) (8 + (am_s (m 71 ((am_s (p - 1)).toNat))).toNat) = am_s 1 then 1 else 0)) ≠ 0))))) else (-(((tn (nv (m 54)) (m 71 ((am_s p).toNat)).toNat (decide (am_s ((if (0 ≤ am_s (m 71 ((am_s p).toNat)) ∧ am_s (m 71 ((am_s p).toNat)) < m 54 0) ∧ nv (m 54) (8 + (am_s (m 71 ((am_s p).toNat))).toNat) = am_s 1 then 1 else 0)) ≠ 0)))) - ((tn (nv (m 54)) (m 71 ((am_s (p - 1)).toNat)).toNat (decide (am_s ((if (0 ≤ am_s (m 71 ((am_s (p - 1)).toNat)) ∧ am_s (m 71 ((am_s (p - 1)).toNat)) < m 54 0) ∧ nv (m 54) (8 + (am_s (m 71 ((am_s (p - 1)).toNat))).toNat) = am_s 1 then 1 else 0)) ≠ 0))))))) → o = ([.inl y1], st0 m))))) ∧ (¬ (¬ am_s (m 71 ((am_s (p - 1)).toNat)) = am_s (-1)) → o = ([.inl 1000], st0 m))))))) : rn fx 3 (0, 0) 250 0 [some (.inr (.inr (some 53))), some (.inl p), none] [] (st0 m) o := by
  refine r_ld (pc' := 1) hM_250 d_250_0 rfl rfl ?_
  refine r_if (pc' := 26) (pc2 := 4) hM_250 d_250_1 (by decide) rfl (fun hz1 => ?_) (fun hz1 => ?_)
  · have H := H.1 hz1
    refine r_k (pc' := 29) (v := .inl 1000) hM_250 d_250_26 rfl rfl ?_
    subst H
    exact rt_i hM_250 d_250_29 rfl
  · have H := H.2 hz1
    refine r_ld (pc' := 5) hM_250 d_250_4 rfl rfl ?_
    refine r_gR (pc' := 8) (v := 71) hM_250 d_250_5 rfl (by decide +kernel) ?_
    refine r_ld (pc' := 9) hM_250 d_250_8 rfl rfl ?_
    obtain ⟨hz2, H⟩ := H
    refine r_ia (pc' := 10) (n := 12) hM_250 d_250_9 rfl rfl hz2 ?_
    refine r_k (pc' := 11) (v := .inl (-1)) hM_250 d_250_10 rfl rfl ?_
    refine r_ic (pc' := 26) (pc2 := 14) hM_250 d_250_11 (by decide) rfl (fun hz3 => ?_) (fun hz3 => ?_)
    · have H := H.1 hz3
      refine r_k (pc' := 29) (v := .inl 1000) hM_250 d_250_26 rfl rfl ?_
      subst H
      exact rt_i hM_250 d_250_29 rfl
    · have H := H.2 hz3
      refine r_ld (pc' := 15) hM_250 d_250_14 rfl rfl ?_
      refine r_gR (pc' := 18) (v := 71) hM_250 d_250_15 rfl (by decide +kernel) ?_
      refine r_ld (pc' := 19) hM_250 d_250_18 rfl rfl ?_
      refine r_k (pc' := 20) (v := .inl 1) hM_250 d_250_19 rfl rfl ?_
      refine r_b (pc' := 21) (z := (p - 1)) hM_250 d_250_20 rfl rfl ?_
      obtain ⟨hz4, H⟩ := H
      refine r_ia (pc' := 22) (n := 12) hM_250 d_250_21 rfl rfl hz4 ?_
      refine r_k (pc' := 23) (v := .inl (-1)) hM_250 d_250_22 rfl rfl ?_
      refine r_ic (pc' := 30) (pc2 := 26) hM_250 d_250_23 (by decide) rfl (fun hz5 => ?_) (fun hz5 => ?_)
      · have H := H.1 hz5
        refine r_ld (pc' := 31) hM_250 d_250_30 rfl rfl ?_
        refine r_ld (pc' := 32) hM_250 d_250_31 rfl rfl ?_
        refine r_gR (pc' := 35) (v := 71) hM_250 d_250_32 rfl (by decide +kernel) ?_
        refine r_ld (pc' := 36) hM_250 d_250_35 rfl rfl ?_
        refine r_ia (pc' := 37) (n := 12) hM_250 d_250_36 rfl rfl hz2 ?_
        refine r_ld (pc' := 38) hM_250 d_250_37 rfl rfl ?_
        refine r_ld (pc' := 39) hM_250 d_250_38 rfl rfl ?_
        refine r_gR (pc' := 42) (v := 71) hM_250 d_250_39 rfl (by decide +kernel) ?_
        refine r_ld (pc' := 43) hM_250 d_250_42 rfl rfl ?_
        refine r_ia (pc' := 44) (n := 12) hM_250 d_250_43 rfl rfl hz2 ?_
        refine r_k (pc' := 45) (v := .inl 1) hM_250 d_250_44 rfl rfl ?_
        obtain ⟨hz6, H⟩ := H
        refine r_cl (pc' := 48) (c := (187, 0)) (a := [.inr (.inr (some 53)), .inl (m 71 ((am_s p).toNat)), .inl 1]) (q := [.inl (m 71 ((am_s p).toNat)), .inr (.inr (some 53))]) hM_250 d_250_45 rfl (by decide +kernel) hM_187 rfl rfl rfl (Nat.le_of_ble_eq_true rfl) (Nat.le_of_ble_eq_true rfl) (Or.inr rfl) (n_187  m (m 71 ((am_s p).toNat)) 1 hz6) (Nat.le_of_ble_eq_true rfl) ?_
        show rn fx 3 (0, 0) 250 48 [some (.inr (.inr (some 53))), some (.inl p), none] [.inl ((if (0 ≤ am_s (m 71 ((am_s p).toNat)) ∧ am_s (m 71 ((am_s p).toNat)) < m 54 0) ∧ nv (m 54) (8 + (am_s (m 71 ((am_s p).toNat))).toNat) = am_s 1 then 1 else 0)), .inl (m 71 ((am_s p).toNat)), .inr (.inr (some 53))] (st0 m) o
        obtain ⟨hz7, H⟩ := H
        refine r_cl (pc' := 51) (c := (208, 0)) (a := [.inr (.inr (some 53)), .inl (m 71 ((am_s p).toNat)), .inl ((if (0 ≤ am_s (m 71 ((am_s p).toNat)) ∧ am_s (m 71 ((am_s p).toNat)) < m 54 0) ∧ nv (m 54) (8 + (am_s (m 71 ((am_s p).toNat))).toNat) = am_s 1 then 1 else 0))]) (q := []) hM_250 d_250_48 rfl (by decide +kernel) hM_208 rfl rfl rfl (Nat.le_of_ble_eq_true rfl) (Nat.le_of_ble_eq_true rfl) (Or.inr rfl) (n_208  m (m 71 ((am_s p).toNat)) ((if (0 ≤ am_s (m 71 ((am_s p).toNat)) ∧ am_s (m 71 ((am_s p).toNat)) < m 54 0) ∧ nv (m 54) (8 + (am_s (m 71 ((am_s p).toNat))).toNat) = am_s 1 then 1 else 0)) hz7) (Nat.le_of_ble_eq_true rfl) ?_
        show rn fx 3 (0, 0) 250 51 [some (.inr (.inr (some 53))), some (.inl p), none] [.inl ((tn (nv (m 54)) (m 71 ((am_s p).toNat)).toNat (decide (am_s ((if (0 ≤ am_s (m 71 ((am_s p).toNat)) ∧ am_s (m 71 ((am_s p).toNat)) < m 54 0) ∧ nv (m 54) (8 + (am_s (m 71 ((am_s p).toNat))).toNat) = am_s 1 then 1 else 0)) ≠ 0))))] (st0 m) o
        refine r_ld (pc' := 52) hM_250 d_250_51 rfl rfl ?_
        refine r_ld (pc' := 53) hM_250 d_250_52 rfl rfl ?_
        refine r_gR (pc' := 56) (v := 71) hM_250 d_250_53 rfl (by decide +kernel) ?_
        refine r_ld (pc' := 57) hM_250 d_250_56 rfl rfl ?_
        refine r_k (pc' := 58) (v := .inl 1) hM_250 d_250_57 rfl rfl ?_
        refine r_b (pc' := 59) (z := (p - 1)) hM_250 d_250_58 rfl rfl ?_
        refine r_ia (pc' := 60) (n := 12) hM_250 d_250_59 rfl rfl hz4 ?_
        refine r_ld (pc' := 61) hM_250 d_250_60 rfl rfl ?_
        refine r_ld (pc' := 62) hM_250 d_250_61 rfl rfl ?_
        refine r_gR (pc' := 65) (v := 71) hM_250 d_250_62 rfl (by decide +kernel) ?_
        refine r_ld (pc' := 66) hM_250 d_250_65 rfl rfl ?_
        refine r_k (pc' := 67) (v := .inl 1) hM_250 d_250_66 rfl rfl ?_
        refine r_b (pc' := 68) (z := (p - 1)) hM_250 d_250_67 rfl rfl ?_
        refine r_ia (pc' := 69) (n := 12) hM_250 d_250_68 rfl rfl hz4 ?_
        refine r_k (pc' := 70) (v := .inl 1) hM_250 d_250_69 rfl rfl ?_
        refine r_cl (pc' := 73) (c := (187, 0)) (a := [.inr (.inr (some 53)), .inl (m 71 ((am_s (p - 1)).toNat)), .inl 1]) (q := [.inl (m 71 ((am_s (p - 1)).toNat)), .inr (.inr (some 53)), .inl ((tn (nv (m 54)) (m 71 ((am_s p).toNat)).toNat (decide (am_s ((if (0 ≤ am_s (m 71 ((am_s p).toNat)) ∧ am_s (m 71 ((am_s p).toNat)) < m 54 0) ∧ nv (m 54) (8 + (am_s (m 71 ((am_s p).toNat))).toNat) = am_s 1 then 1 else 0)) ≠ 0))))]) hM_250 d_250_70 rfl (by decide +kernel) hM_187 rfl rfl rfl (Nat.le_of_ble_eq_true rfl) (Nat.le_of_ble_eq_true rfl) (Or.inr rfl) (n_187  m (m 71 ((am_s (p - 1)).toNat)) 1 hz6) (Nat.le_of_ble_eq_true rfl) ?_
        show rn fx 3 (0, 0) 250 73 [some (.inr (.inr (some 53))), some (.inl p), none] [.inl ((if (0 ≤ am_s (m 71 ((am_s (p - 1)).toNat)) ∧ am_s (m 71 ((am_s (p - 1)).toNat)) < m 54 0) ∧ nv (m 54) (8 + (am_s (m 71 ((am_s (p - 1)).toNat))).toNat) = am_s 1 then 1 else 0)), .inl (m 71 ((am_s (p - 1)).toNat)), .inr (.inr (some 53)), .inl ((tn (nv (m 54)) (m 71 ((am_s p).toNat)).toNat (decide (am_s ((if (0 ≤ am_s (m 71 ((am_s p).toNat)) ∧ am_s (m 71 ((am_s p).toNat)) < m 54 0) ∧ nv (m 54) (8 + (am_s (m 71 ((am_s p).toNat))).toNat) = am_s 1 then 1 else 0)) ≠ 0))))] (st0 m) o
        obtain ⟨hz8, H⟩ := H
        refine r_cl (pc' := 76) (c := (208, 0)) (a := [.inr (.inr (some 53)), .inl (m 71 ((am_s (p - 1)).toNat)), .inl ((if (0 ≤ am_s (m 71 ((am_s (p - 1)).toNat)) ∧ am_s (m 71 ((am_s (p - 1)).toNat)) < m 54 0) ∧ nv (m 54) (8 + (am_s (m 71 ((am_s (p - 1)).toNat))).toNat) = am_s 1 then 1 else 0))]) (q := [.inl ((tn (nv (m 54)) (m 71 ((am_s p).toNat)).toNat (decide (am_s ((if (0 ≤ am_s (m 71 ((am_s p).toNat)) ∧ am_s (m 71 ((am_s p).toNat)) < m 54 0) ∧ nv (m 54) (8 + (am_s (m 71 ((am_s p).toNat))).toNat) = am_s 1 then 1 else 0)) ≠ 0))))]) hM_250 d_250_73 rfl (by decide +kernel) hM_208 rfl rfl rfl (Nat.le_of_ble_eq_true rfl) (Nat.le_of_ble_eq_true rfl) (Or.inr rfl) (n_208  m (m 71 ((am_s (p - 1)).toNat)) ((if (0 ≤ am_s (m 71 ((am_s (p - 1)).toNat)) ∧ am_s (m 71 ((am_s (p - 1)).toNat)) < m 54 0) ∧ nv (m 54) (8 + (am_s (m 71 ((am_s (p - 1)).toNat))).toNat) = am_s 1 then 1 else 0)) hz8) (Nat.le_of_ble_eq_true rfl) ?_
        show rn fx 3 (0, 0) 250 76 [some (.inr (.inr (some 53))), some (.inl p), none] [.inl ((tn (nv (m 54)) (m 71 ((am_s (p - 1)).toNat)).toNat (decide (am_s ((if (0 ≤ am_s (m 71 ((am_s (p - 1)).toNat)) ∧ am_s (m 71 ((am_s (p - 1)).toNat)) < m 54 0) ∧ nv (m 54) (8 + (am_s (m 71 ((am_s (p - 1)).toNat))).toNat) = am_s 1 then 1 else 0)) ≠ 0)))), .inl ((tn (nv (m 54)) (m 71 ((am_s p).toNat)).toNat (decide (am_s ((if (0 ≤ am_s (m 71 ((am_s p).toNat)) ∧ am_s (m 71 ((am_s p).toNat)) < m 54 0) ∧ nv (m 54) (8 + (am_s (m 71 ((am_s p).toNat))).toNat) = am_s 1 then 1 else 0)) ≠ 0))))] (st0 m) o
        refine r_b (pc' := 77) (z := (((tn (nv (m 54)) (m 71 ((am_s p).toNat)).toNat (decide (am_s ((if (0 ≤ am_s (m 71 ((am_s p).toNat)) ∧ am_s (m 71 ((am_s p).toNat)) < m 54 0) ∧ nv (m 54) (8 + (am_s (m 71 ((am_s p).toNat))).toNat) = am_s 1 then 1 else 0)) ≠ 0)))) - ((tn (nv (m 54)) (m 71 ((am_s (p - 1)).toNat)).toNat (decide (am_s ((if (0 ≤ am_s (m 71 ((am_s (p - 1)).toNat)) ∧ am_s (m 71 ((am_s (p - 1)).toNat)) < m 54 0) ∧ nv (m 54) (8 + (am_s (m 71 ((am_s (p - 1)).toNat))).toNat) = am_s 1 then 1 else 0)) ≠ 0)))))) hM_250 d_250_76 rfl rfl ?_
        refine r_sto (pc' := 78) (ls' := [some (.inr (.inr (some 53))), some (.inl p), some (.inl (((tn (nv (m 54)) (m 71 ((am_s p).toNat)).toNat (decide (am_s ((if (0 ≤ am_s (m 71 ((am_s p).toNat)) ∧ am_s (m 71 ((am_s p).toNat)) < m 54 0) ∧ nv (m 54) (8 + (am_s (m 71 ((am_s p).toNat))).toNat) = am_s 1 then 1 else 0)) ≠ 0)))) - ((tn (nv (m 54)) (m 71 ((am_s (p - 1)).toNat)).toNat (decide (am_s ((if (0 ≤ am_s (m 71 ((am_s (p - 1)).toNat)) ∧ am_s (m 71 ((am_s (p - 1)).toNat)) < m 54 0) ∧ nv (m 54) (8 + (am_s (m 71 ((am_s (p - 1)).toNat))).toNat) = am_s 1 then 1 else 0)) ≠ 0))))))]) hM_250 d_250_77 rfl rfl ?_
        refine r_ld (pc' := 79) hM_250 d_250_78 rfl rfl ?_
        have K : ∀ y1 : Int, y1 = (if 0 ≤ am_s (((tn (nv (m 54)) (m 71 ((am_s p).toNat)).toNat (decide (am_s ((if (0 ≤ am_s (m 71 ((am_s p).toNat)) ∧ am_s (m 71 ((am_s p).toNat)) < m 54 0) ∧ nv (m 54) (8 + (am_s (m 71 ((am_s p).toNat))).toNat) = am_s 1 then 1 else 0)) ≠ 0)))) - ((tn (nv (m 54)) (m 71 ((am_s (p - 1)).toNat)).toNat (decide (am_s ((if (0 ≤ am_s (m 71 ((am_s (p - 1)).toNat)) ∧ am_s (m 71 ((am_s (p - 1)).toNat)) < m 54 0) ∧ nv (m 54) (8 + (am_s (m 71 ((am_s (p - 1)).toNat))).toNat) = am_s 1 then 1 else 0)) ≠ 0))))) then (((tn (nv (m 54)) (m 71 ((am_s p).toNat)).toNat (decide (am_s ((if (0 ≤ am_s (m 71 ((am_s p).toNat)) ∧ am_s (m 71 ((am_s p).toNat)) < m 54 0) ∧ nv (m 54) (8 + (am_s (m 71 ((am_s p).toNat))).toNat) = am_s 1 then 1 else 0)) ≠ 0)))) - ((tn (nv (m 54)) (m 71 ((am_s (p - 1)).toNat)).toNat (decide (am_s ((if (0 ≤ am_s (m 71 ((am_s (p - 1)).toNat)) ∧ am_s (m 71 ((am_s (p - 1)).toNat)) < m 54 0) ∧ nv (m 54) (8 + (am_s (m 71 ((am_s (p - 1)).toNat))).toNat) = am_s 1 then 1 else 0)) ≠ 0))))) else (-(((tn (nv (m 54)) (m 71 ((am_s p).toNat)).toNat (decide (am_s ((if (0 ≤ am_s (m 71 ((am_s p).toNat)) ∧ am_s (m 71 ((am_s p).toNat)) < m 54 0) ∧ nv (m 54) (8 + (am_s (m 71 ((am_s p).toNat))).toNat) = am_s 1 then 1 else 0)) ≠ 0)))) - ((tn (nv (m 54)) (m 71 ((am_s (p - 1)).toNat)).toNat (decide (am_s ((if (0 ≤ am_s (m 71 ((am_s (p - 1)).toNat)) ∧ am_s (m 71 ((am_s (p - 1)).toNat)) < m 54 0) ∧ nv (m 54) (8 + (am_s (m 71 ((am_s (p - 1)).toNat))).toNat) = am_s 1 then 1 else 0)) ≠ 0))))))) → rn fx 3 (0, 0) 250 88 [some (.inr (.inr (some 53))), some (.inl p), some (.inl (((tn (nv (m 54)) (m 71 ((am_s p).toNat)).toNat (decide (am_s ((if (0 ≤ am_s (m 71 ((am_s p).toNat)) ∧ am_s (m 71 ((am_s p).toNat)) < m 54 0) ∧ nv (m 54) (8 + (am_s (m 71 ((am_s p).toNat))).toNat) = am_s 1 then 1 else 0)) ≠ 0)))) - ((tn (nv (m 54)) (m 71 ((am_s (p - 1)).toNat)).toNat (decide (am_s ((if (0 ≤ am_s (m 71 ((am_s (p - 1)).toNat)) ∧ am_s (m 71 ((am_s (p - 1)).toNat)) < m 54 0) ∧ nv (m 54) (8 + (am_s (m 71 ((am_s (p - 1)).toNat))).toNat) = am_s 1 then 1 else 0)) ≠ 0))))))] [.inl y1] (st0 m) o := by
          intro y1 hy1
          replace H := H y1 hy1
          subst H
          exact rt_i hM_250 d_250_88 rfl
        replace K := K _ rfl
        clear H
        refine r_if (pc' := 87) (pc2 := 82) hM_250 d_250_79 (by decide) rfl (fun hz9 => ?_) (fun hz9 => ?_)
        · have hz9 : 0 ≤ am_s (((tn (nv (m 54)) (m 71 ((am_s p).toNat)).toNat (decide (am_s ((if (0 ≤ am_s (m 71 ((am_s p).toNat)) ∧ am_s (m 71 ((am_s p).toNat)) < m 54 0) ∧ nv (m 54) (8 + (am_s (m 71 ((am_s p).toNat))).toNat) = am_s 1 then 1 else 0)) ≠ 0)))) - ((tn (nv (m 54)) (m 71 ((am_s (p - 1)).toNat)).toNat (decide (am_s ((if (0 ≤ am_s (m 71 ((am_s (p - 1)).toNat)) ∧ am_s (m 71 ((am_s (p - 1)).toNat)) < m 54 0) ∧ nv (m 54) (8 + (am_s (m 71 ((am_s (p - 1)).toNat))).toNat) = am_s 1 then 1 else 0)) ≠ 0))))) := hz9
          rw [if_pos hz9] at K
          refine r_ld (pc' := 88) hM_250 d_250_87 rfl rfl ?_
          exact K
        · have hz9 : ¬ (0 ≤ am_s (((tn (nv (m 54)) (m 71 ((am_s p).toNat)).toNat (decide (am_s ((if (0 ≤ am_s (m 71 ((am_s p).toNat)) ∧ am_s (m 71 ((am_s p).toNat)) < m 54 0) ∧ nv (m 54) (8 + (am_s (m 71 ((am_s p).toNat))).toNat) = am_s 1 then 1 else 0)) ≠ 0)))) - ((tn (nv (m 54)) (m 71 ((am_s (p - 1)).toNat)).toNat (decide (am_s ((if (0 ≤ am_s (m 71 ((am_s (p - 1)).toNat)) ∧ am_s (m 71 ((am_s (p - 1)).toNat)) < m 54 0) ∧ nv (m 54) (8 + (am_s (m 71 ((am_s (p - 1)).toNat))).toNat) = am_s 1 then 1 else 0)) ≠ 0)))))) := hz9
          rw [if_neg hz9] at K
          refine r_ld (pc' := 83) hM_250 d_250_82 rfl rfl ?_
          refine r_stk (pc' := 84) (st' := [.inl (-(((tn (nv (m 54)) (m 71 ((am_s p).toNat)).toNat (decide (am_s ((if (0 ≤ am_s (m 71 ((am_s p).toNat)) ∧ am_s (m 71 ((am_s p).toNat)) < m 54 0) ∧ nv (m 54) (8 + (am_s (m 71 ((am_s p).toNat))).toNat) = am_s 1 then 1 else 0)) ≠ 0)))) - ((tn (nv (m 54)) (m 71 ((am_s (p - 1)).toNat)).toNat (decide (am_s ((if (0 ≤ am_s (m 71 ((am_s (p - 1)).toNat)) ∧ am_s (m 71 ((am_s (p - 1)).toNat)) < m 54 0) ∧ nv (m 54) (8 + (am_s (m 71 ((am_s (p - 1)).toNat))).toNat) = am_s 1 then 1 else 0)) ≠ 0))))))]) hM_250 d_250_83 rfl rfl ?_
          refine r_go (pc' := 88) hM_250 d_250_84 (by decide) ?_
          exact K
      · have H := H.2 hz5
        refine r_k (pc' := 29) (v := .inl 1000) hM_250 d_250_26 rfl rfl ?_
        subst H
        exact rt_i hM_250 d_250_29 rfl
def v_250 (m : am_M) (p : Int) : Int := (if am_s p = 0 then 1000 else (if am_s (m 71 ((am_s p).toNat)) = am_s (-1) then 1000 else (if ¬ am_s (m 71 ((am_s (p - 1)).toNat)) = am_s (-1) then (if 0 ≤ am_s (((tn (nv (m 54)) (m 71 ((am_s p).toNat)).toNat (decide (am_s ((if (0 ≤ am_s (m 71 ((am_s p).toNat)) ∧ am_s (m 71 ((am_s p).toNat)) < m 54 0) ∧ nv (m 54) (8 + (am_s (m 71 ((am_s p).toNat))).toNat) = am_s 1 then 1 else 0)) ≠ 0)))) - ((tn (nv (m 54)) (m 71 ((am_s (p - 1)).toNat)).toNat (decide (am_s ((if (0 ≤ am_s (m 71 ((am_s (p - 1)).toNat)) ∧ am_s (m 71 ((am_s (p - 1)).toNat)) < m 54 0) ∧ nv (m 54) (8 + (am_s (m 71 ((am_s (p - 1)).toNat))).toNat) = am_s 1 then 1 else 0)) ≠ 0))))) then (((tn (nv (m 54)) (m 71 ((am_s p).toNat)).toNat (decide (am_s ((if (0 ≤ am_s (m 71 ((am_s p).toNat)) ∧ am_s (m 71 ((am_s p).toNat)) < m 54 0) ∧ nv (m 54) (8 + (am_s (m 71 ((am_s p).toNat))).toNat) = am_s 1 then 1 else 0)) ≠ 0)))) - ((tn (nv (m 54)) (m 71 ((am_s (p - 1)).toNat)).toNat (decide (am_s ((if (0 ≤ am_s (m 71 ((am_s (p - 1)).toNat)) ∧ am_s (m 71 ((am_s (p - 1)).toNat)) < m 54 0) ∧ nv (m 54) (8 + (am_s (m 71 ((am_s (p - 1)).toNat))).toNat) = am_s 1 then 1 else 0)) ≠ 0))))) else (-(((tn (nv (m 54)) (m 71 ((am_s p).toNat)).toNat (decide (am_s ((if (0 ≤ am_s (m 71 ((am_s p).toNat)) ∧ am_s (m 71 ((am_s p).toNat)) < m 54 0) ∧ nv (m 54) (8 + (am_s (m 71 ((am_s p).toNat))).toNat) = am_s 1 then 1 else 0)) ≠ 0)))) - ((tn (nv (m 54)) (m 71 ((am_s (p - 1)).toNat)).toNat (decide (am_s ((if (0 ≤ am_s (m 71 ((am_s (p - 1)).toNat)) ∧ am_s (m 71 ((am_s (p - 1)).toNat)) < m 54 0) ∧ nv (m 54) (8 + (am_s (m 71 ((am_s (p - 1)).toNat))).toNat) = am_s 1 then 1 else 0)) ≠ 0))))))) else 1000)))
def q_250 (m : am_M) (p : Int) : Prop := ((¬ (am_s p = 0) → (0 ≤ am_s p ∧ am_s p < (12 : Nat)) ∧ ((¬ (am_s (m 71 ((am_s p).toNat)) = am_s (-1)) → (0 ≤ am_s (p - 1) ∧ am_s (p - 1) < (12 : Nat)) ∧ (((¬ am_s (m 71 ((am_s (p - 1)).toNat)) = am_s (-1)) → (WFG (m 54)) ∧ (WFG (m 54) ∧ 0 ≤ (m 71 ((am_s p).toNat)) ∧ (m 71 ((am_s p).toNat)) < m 54 0) ∧ (WFG (m 54) ∧ 0 ≤ (m 71 ((am_s (p - 1)).toNat)) ∧ (m 71 ((am_s (p - 1)).toNat)) < m 54 0)))))))
/-- HeardBarrelsModel.apartAt -/
theorem c_250 {fx : am_X0}   (m : am_M) (p : Int) (hq : q_250 m p) : rn fx 3 (0, 0) 250 0 (am_ent 3 [.inr (.inr (some 53)), .inl p]) [] (st0 m) ([.inl (v_250 m p)], st0 m) := by
  unfold q_250 at hq
  show rn fx 3 (0, 0) 250 0 [some (.inr (.inr (some 53))), some (.inl p), none] [] (st0 m) _
  refine t_250_0  ?_
  refine ⟨fun hc0 => ?_, fun hc0 => ?_⟩
  · skip
    simp only [v_250, if_pos hc0]
  · have hq := hq hc0
    obtain ⟨hb1_0, hq⟩ := hq
    refine ⟨hb1_0, ?_⟩
    refine ⟨fun hc1 => ?_, fun hc1 => ?_⟩
    · skip
      simp only [v_250, if_neg hc0, if_pos hc1]
    · have hq := hq hc1
      obtain ⟨hb2_0, hq⟩ := hq
      refine ⟨hb2_0, ?_⟩
      refine ⟨fun hc2 => ?_, fun hc2 => ?_⟩
      · have hq := hq hc2
        obtain ⟨hb3_0, hq⟩ := hq
        refine ⟨hb3_0, ?_⟩
        obtain ⟨hb3_0, hq⟩ := hq
        refine ⟨hb3_0, ?_⟩
        have hb3_0 := hq
        refine ⟨hb3_0, ?_⟩
        intro y1 hy1
        subst hy1
        simp only [v_250, if_neg hc0, if_neg hc1, if_pos hc2]
      · skip
        simp only [v_250, if_neg hc0, if_neg hc1, if_neg hc2]
theorem u_249_39 {Q : List am_V → am_M → Prop} {m : am_M} {p : Int} {u : Int} {x : Int} {k : Int}  {PRE : am_M → Int → Int → Int → Prop} {POST : am_M → Int → Int → Int → am_M → Prop} {h0 : Nat} (hh0 : 4 ≤ h0) (hrec : ∀ (m : am_M) (p u x : Int), PRE m p u x → ok h0 249 0 (am_ent 6 [.inr (.inr (some 53)), .inl p, .inl u, .inl x]) [] m (fun rr m' => rr = [] ∧ POST m p u x m')) (H : ((am_s p ≤ am_s k) → Q [] m) ∧ ((¬ (am_s p ≤ am_s k)) → (0 ≤ am_s k ∧ am_s k < (12 : Nat)) ∧ (ok (h0 + 1) 249 39 [some (.inr (.inr (some 53))), some (.inl p), some (.inl u), some (.inl x), some (.inl (k + 1)), none] [] (mu m 72 ((am_s k).toNat) (m 71 ((am_s k).toNat))) Q))) : ok (h0 + 1) 249 39 [some (.inr (.inr (some 53))), some (.inl p), some (.inl u), some (.inl x), some (.inl k), none] [] m Q := by
  refine ok_sg (pc' := 42) (ls' := [some (.inr (.inr (some 53))), some (.inl p), some (.inl u), some (.inl x), some (.inl k), none]) (st' := [.inl p, .inl k]) (m' := m) (fun fx hfx o hk => ?_) ?_
  · refine r_ld (pc' := 41) hM_249 d_249_39 rfl rfl ?_
    refine r_ld (pc' := 42) hM_249 d_249_41 rfl rfl ?_
    exact hk
  refine ok_ic (pc' := 65) (pc2 := 45) hM_249 d_249_42 (by decide) rfl (fun hz1 => ?_) (fun hz1 => ?_)
  · have H := H.1 hz1
    exact ok_rt (fun fx _ => rt_v hM_249 d_249_65 rfl) H
  · have H := H.2 hz1
    obtain ⟨hz2, H⟩ := H
    refine ok_sg (pc' := 39) (ls' := [some (.inr (.inr (some 53))), some (.inl p), some (.inl u), some (.inl x), some (.inl (k + 1)), none]) (st' := []) (m' := mu m 72 ((am_s k).toNat) (m 71 ((am_s k).toNat))) (fun fx hfx o hk => ?_) ?_
    · refine r_ld (pc' := 46) hM_249 d_249_45 rfl rfl ?_
      refine r_gR (pc' := 49) (v := 72) hM_249 d_249_46 rfl (by decide +kernel) ?_
      refine r_ld (pc' := 51) hM_249 d_249_49 rfl rfl ?_
      refine r_ld (pc' := 52) hM_249 d_249_51 rfl rfl ?_
      refine r_gR (pc' := 55) (v := 71) hM_249 d_249_52 rfl (by decide +kernel) ?_
      refine r_ld (pc' := 57) hM_249 d_249_55 rfl rfl ?_
      refine r_ia (pc' := 58) (n := 12) hM_249 d_249_57 rfl rfl hz2 ?_
      refine r_is (pc' := 59) (n := 12) hM_249 d_249_58 rfl rfl hz2 ?_
      refine r_sto (pc' := 62) (ls' := [some (.inr (.inr (some 53))), some (.inl p), some (.inl u), some (.inl x), some (.inl (k + 1)), none]) hM_249 d_249_59 rfl rfl ?_
      refine r_go (pc' := 39) hM_249 d_249_62 (by decide) ?_
      exact hk
    exact H
theorem u_249_95 {Q : List am_V → am_M → Prop} {m : am_M} {p : Int} {u : Int} {x : Int} {k : Int}  {PRE : am_M → Int → Int → Int → Prop} {POST : am_M → Int → Int → Int → am_M → Prop} {h0 : Nat} (hh0 : 4 ≤ h0) (hrec : ∀ (m : am_M) (p u x : Int), PRE m p u x → ok h0 249 0 (am_ent 6 [.inr (.inr (some 53)), .inl p, .inl u, .inl x]) [] m (fun rr m' => rr = [] ∧ POST m p u x m')) (H : ((am_s (m 54 0) ≤ am_s k) → Q [] m) ∧ ((¬ (am_s (m 54 0) ≤ am_s k)) → ((0 ≤ (am_s u) ∧ (am_s u) < 2147483648) ∧ 0 ≤ k ∧ k < 32) ∧ ((((am_s u).toNat.testBit k.toNat = true) → ok (h0 + 1) 249 95 [some (.inr (.inr (some 53))), some (.inl p), some (.inl u), some (.inl x), some (.inl (k + 1)), none] [] m Q) ∧ ((¬ ((am_s u).toNat.testBit k.toNat = true)) → (WFG (m 54)) ∧ (((¬ ((0 ≤ am_s k ∧ am_s k < m 54 0) ∧ nv (m 54) (8 + (am_s k).toNat) = am_s 3)) → (0 ≤ am_s p ∧ am_s p < (12 : Nat)) ∧ ((q_250 (mu m 71 ((am_s p).toNat) k) p) ∧ (∀ y1 : Int, y1 = (if am_s x ≤ am_s (v_250 (mu m 71 ((am_s p).toNat) k) p) then x else (v_250 (mu m 71 ((am_s p).toNat) k) p)) → (PRE (mu m 71 ((am_s p).toNat) k) (p + 1) (am_or u (am_shl 1 k)) y1) ∧ (∀ (m1 : am_M), (POST (mu m 71 ((am_s p).toNat) k) (p + 1) (am_or u (am_shl 1 k)) y1 m1) → ok (h0 + 1) 249 95 [some (.inr (.inr (some 53))), some (.inl p), some (.inl u), some (.inl x), some (.inl (k + 1)), none] [] m1 Q)))) ∧ (((0 ≤ am_s k ∧ am_s k < m 54 0) ∧ nv (m 54) (8 + (am_s k).toNat) = am_s 3) → ok (h0 + 1) 249 95 [some (.inr (.inr (some 53))), some (.inl p), some (.inl u), some (.inl x), some (.inl (k + 1)), none] [] m Q)))))) : ok (h0 + 1) 249 95 [some (.inr (.inr (some 53))), some (.inl p), some (.inl u), some (.inl x), some (.inl k), none] [] m Q := by
  refine ok_sg (pc' := 103) (ls' := [some (.inr (.inr (some 53))), some (.inl p), some (.inl u), some (.inl x), some (.inl k), none]) (st' := [.inl (m 54 0), .inl k]) (m' := m) (fun fx hfx o hk => ?_) ?_
  · refine r_ld (pc' := 97) hM_249 d_249_95 rfl rfl ?_
    refine r_ld (pc' := 98) hM_249 d_249_97 rfl rfl ?_
    refine r_gR (pc' := 101) (v := 54) hM_249 d_249_98 rfl (by decide +kernel) ?_
    refine r_k (pc' := 102) (v := .inl 0) hM_249 d_249_101 rfl rfl ?_
    refine r_iae (pc' := 103) (n := 168) (z := (m 54 0)) hM_249 d_249_102 rfl rfl (by decide) (by rw [show (am_s 0).toNat = 0 by decide]) ?_
    exact hk
  refine ok_ic (pc' := 175) (pc2 := 106) hM_249 d_249_103 (by decide) rfl (fun hz1 => ?_) (fun hz1 => ?_)
  · have H := H.1 hz1
    exact ok_rt (fun fx _ => rt_v hM_249 d_249_175 rfl) H
  · have H := H.2 hz1
    obtain ⟨hz2, H⟩ := H
    refine ok_sg (pc' := 113) (ls' := [some (.inr (.inr (some 53))), some (.inl p), some (.inl u), some (.inl x), some (.inl k), none]) (st' := [.inl ((if (am_s u).toNat.testBit k.toNat = true then 1 else 0))]) (m' := m) (fun fx hfx o hk => ?_) ?_
    · refine r_ld (pc' := 107) hM_249 d_249_106 rfl rfl ?_
      refine r_stk (pc' := 108) (st' := [.inr (.inl (am_s u))]) hM_249 d_249_107 rfl rfl ?_
      refine r_ld (pc' := 110) hM_249 d_249_108 rfl rfl ?_
      refine r_cl (pc' := 113) (c := (194, 2)) (a := [.inr (.inl (am_s u)), .inl k]) (q := []) hM_249 d_249_110 rfl (by decide +kernel) hM_194 rfl rfl rfl (Nat.le_of_ble_eq_true rfl) (Nat.le_of_ble_eq_true rfl) (Or.inl rfl) (n_194  m (am_s u) k hz2) (by omega) ?_
      show rn fx (h0 + 1) (0, 0) 249 113 [some (.inr (.inr (some 53))), some (.inl p), some (.inl u), some (.inl x), some (.inl k), none] [.inl ((if (am_s u).toNat.testBit k.toNat = true then 1 else 0))] (st0 m) o
      exact hk
    refine ok_if (pc' := 169) (pc2 := 116) hM_249 d_249_113 (by decide) rfl (fun hz3 => ?_) (fun hz3 => ?_)
    · have H := H.1 (as_iteN.mp hz3)
      refine ok_sg (pc' := 95) (ls' := [some (.inr (.inr (some 53))), some (.inl p), some (.inl u), some (.inl x), some (.inl (k + 1)), none]) (st' := []) (m' := m) (fun fx hfx o hk => ?_) ?_
      · refine r_sto (pc' := 172) (ls' := [some (.inr (.inr (some 53))), some (.inl p), some (.inl u), some (.inl x), some (.inl (k + 1)), none]) hM_249 d_249_169 rfl rfl ?_
        refine r_go (pc' := 95) hM_249 d_249_172 (by decide) ?_
        exact hk
      exact H
    · have H := H.2 (as_ite.mp (Decidable.not_not.mp hz3))
      obtain ⟨hz4, H⟩ := H
      refine ok_sg (pc' := 123) (ls' := [some (.inr (.inr (some 53))), some (.inl p), some (.inl u), some (.inl x), some (.inl k), none]) (st' := [.inl ((if (0 ≤ am_s k ∧ am_s k < m 54 0) ∧ nv (m 54) (8 + (am_s k).toNat) = am_s 3 then 1 else 0))]) (m' := m) (fun fx hfx o hk => ?_) ?_
      · refine r_ld (pc' := 117) hM_249 d_249_116 rfl rfl ?_
        refine r_ld (pc' := 119) hM_249 d_249_117 rfl rfl ?_
        refine r_k (pc' := 120) (v := .inl 3) hM_249 d_249_119 rfl rfl ?_
        refine r_cl (pc' := 123) (c := (187, 0)) (a := [.inr (.inr (some 53)), .inl k, .inl 3]) (q := []) hM_249 d_249_120 rfl (by decide +kernel) hM_187 rfl rfl rfl (Nat.le_of_ble_eq_true rfl) (Nat.le_of_ble_eq_true rfl) (Or.inr rfl) (n_187  m k 3 hz4) (by omega) ?_
        show rn fx (h0 + 1) (0, 0) 249 123 [some (.inr (.inr (some 53))), some (.inl p), some (.inl u), some (.inl x), some (.inl k), none] [.inl ((if (0 ≤ am_s k ∧ am_s k < m 54 0) ∧ nv (m 54) (8 + (am_s k).toNat) = am_s 3 then 1 else 0))] (st0 m) o
        exact hk
      refine ok_if (pc' := 129) (pc2 := 126) hM_249 d_249_123 (by decide) rfl (fun hz5 => ?_) (fun hz5 => ?_)
      · have H := H.1 (as_ite.mp hz5)
        obtain ⟨hz6, H⟩ := H
        obtain ⟨hz7, H⟩ := H
        refine ok_sg (pc' := 157) (ls' := [some (.inr (.inr (some 53))), some (.inl p), some (.inl u), some (.inl x), some (.inl k), some (.inl (v_250 (mu m 71 ((am_s p).toNat) k) p))]) (st' := [.inl x, .inl (v_250 (mu m 71 ((am_s p).toNat) k) p), .inl (am_or u (am_shl 1 k)), .inl (p + 1), .inr (.inr (some 53))]) (m' := mu m 71 ((am_s p).toNat) k) (fun fx hfx o hk => ?_) ?_
        · refine r_ld (pc' := 130) hM_249 d_249_129 rfl rfl ?_
          refine r_gR (pc' := 133) (v := 71) hM_249 d_249_130 rfl (by decide +kernel) ?_
          refine r_ld (pc' := 134) hM_249 d_249_133 rfl rfl ?_
          refine r_ld (pc' := 136) hM_249 d_249_134 rfl rfl ?_
          refine r_is (pc' := 137) (n := 12) hM_249 d_249_136 rfl rfl hz6 ?_
          refine r_ld (pc' := 138) hM_249 d_249_137 rfl rfl ?_
          refine r_ld (pc' := 139) hM_249 d_249_138 rfl rfl ?_
          refine r_cl (pc' := 142) (c := (250, 0)) (a := [.inr (.inr (some 53)), .inl p]) (q := []) hM_249 d_249_139 rfl (by decide +kernel) hM_250 rfl rfl rfl (Nat.le_of_ble_eq_true rfl) (Nat.le_of_ble_eq_true rfl) (Or.inr rfl) (c_250  (mu m 71 ((am_s p).toNat) k) p hz7) (by omega) ?_
          show rn fx (h0 + 1) (0, 0) 249 142 [some (.inr (.inr (some 53))), some (.inl p), some (.inl u), some (.inl x), some (.inl k), none] [.inl (v_250 (mu m 71 ((am_s p).toNat) k) p)] (st0 (mu m 71 ((am_s p).toNat) k)) o
          refine r_sto (pc' := 144) (ls' := [some (.inr (.inr (some 53))), some (.inl p), some (.inl u), some (.inl x), some (.inl k), some (.inl (v_250 (mu m 71 ((am_s p).toNat) k) p))]) hM_249 d_249_142 rfl rfl ?_
          refine r_ld (pc' := 145) hM_249 d_249_144 rfl rfl ?_
          refine r_ld (pc' := 146) hM_249 d_249_145 rfl rfl ?_
          refine r_k (pc' := 147) (v := .inl 1) hM_249 d_249_146 rfl rfl ?_
          refine r_b (pc' := 148) (z := (p + 1)) hM_249 d_249_147 rfl rfl ?_
          refine r_ld (pc' := 149) hM_249 d_249_148 rfl rfl ?_
          refine r_k (pc' := 150) (v := .inl 1) hM_249 d_249_149 rfl rfl ?_
          refine r_ld (pc' := 152) hM_249 d_249_150 rfl rfl ?_
          refine r_b (pc' := 153) (z := (am_shl 1 k)) hM_249 d_249_152 rfl rfl ?_
          refine r_b (pc' := 154) (z := (am_or u (am_shl 1 k))) hM_249 d_249_153 rfl rfl ?_
          refine r_ld (pc' := 156) hM_249 d_249_154 rfl rfl ?_
          refine r_ld (pc' := 157) hM_249 d_249_156 rfl rfl ?_
          exact hk
        refine ok_sg (pc' := 166) (ls' := [some (.inr (.inr (some 53))), some (.inl p), some (.inl u), some (.inl x), some (.inl k), some (.inl (v_250 (mu m 71 ((am_s p).toNat) k) p))]) (st' := [.inl (if am_s x ≤ am_s (v_250 (mu m 71 ((am_s p).toNat) k) p) then x else (v_250 (mu m 71 ((am_s p).toNat) k) p)), .inl (am_or u (am_shl 1 k)), .inl (p + 1), .inr (.inr (some 53))]) (m' := mu m 71 ((am_s p).toNat) k) (fun fx hfx o K => ?_) ?_
        · refine r_ic (pc' := 165) (pc2 := 160) hM_249 d_249_157 (by decide) rfl (fun hz8 => ?_) (fun hz8 => ?_)
          · have hz8 : am_s x ≤ am_s (v_250 (mu m 71 ((am_s p).toNat) k) p) := hz8
            rw [if_pos hz8] at K
            refine r_ld (pc' := 166) hM_249 d_249_165 rfl rfl ?_
            exact K
          · have hz8 : ¬ (am_s x ≤ am_s (v_250 (mu m 71 ((am_s p).toNat) k) p)) := hz8
            rw [if_neg hz8] at K
            refine r_ld (pc' := 162) hM_249 d_249_160 rfl rfl ?_
            refine r_go (pc' := 166) hM_249 d_249_162 (by decide) ?_
            exact K
        have K : ∀ y1 : Int, y1 = (if am_s x ≤ am_s (v_250 (mu m 71 ((am_s p).toNat) k) p) then x else (v_250 (mu m 71 ((am_s p).toNat) k) p)) → ok (h0 + 1) 249 166 [some (.inr (.inr (some 53))), some (.inl p), some (.inl u), some (.inl x), some (.inl k), some (.inl (v_250 (mu m 71 ((am_s p).toNat) k) p))] [.inl y1, .inl (am_or u (am_shl 1 k)), .inl (p + 1), .inr (.inr (some 53))] (mu m 71 ((am_s p).toNat) k) Q := by
          intro y1 hy1
          replace H := H y1 hy1
          obtain ⟨hz9, H⟩ := H
          refine ok_cl (pc' := 169) (c := (249, 0)) (a := [.inr (.inr (some 53)), .inl (p + 1), .inl (am_or u (am_shl 1 k)), .inl y1]) (q := []) hM_249 d_249_166 rfl (by decide +kernel) hM_249 rfl rfl rfl (Nat.le_of_ble_eq_true rfl) (Nat.le_of_ble_eq_true rfl) (Or.inr rfl) (hrec  (mu m 71 ((am_s p).toNat) k) (p + 1) (am_or u (am_shl 1 k)) y1 hz9) (by omega) ?_
          rintro _ m1 ⟨rfl, hz10⟩
          replace H := H  m1 hz10
          show ok (h0 + 1) 249 169 [some (.inr (.inr (some 53))), some (.inl p), some (.inl u), some (.inl x), some (.inl k), some (.inl (v_250 (mu m 71 ((am_s p).toNat) k) p))] [] m1 Q
          refine ok_sg (pc' := 95) (ls' := [some (.inr (.inr (some 53))), some (.inl p), some (.inl u), some (.inl x), some (.inl (k + 1)), none]) (st' := []) (m' := m1) (fun fx hfx o hk => ?_) ?_
          · refine r_sto (pc' := 172) (ls' := [some (.inr (.inr (some 53))), some (.inl p), some (.inl u), some (.inl x), some (.inl (k + 1)), some (.inl (v_250 (mu m 71 ((am_s p).toNat) k) p))]) hM_249 d_249_169 rfl rfl ?_
            refine r_go (pc' := 95) hM_249 d_249_172 (by decide) ?_
            refine rn_wk (a := [some (.inr (.inr (some 53))), some (.inl p), some (.inl u), some (.inl x), some (.inl (k + 1)), none]) (by simp only [am_le, and_self]) ?_
            exact hk
          exact H
        exact K _ rfl
      · have H := H.2 (as_iteN.mp hz5)
        refine ok_sg (pc' := 95) (ls' := [some (.inr (.inr (some 53))), some (.inl p), some (.inl u), some (.inl x), some (.inl (k + 1)), none]) (st' := []) (m' := m) (fun fx hfx o hk => ?_) ?_
        · refine r_go (pc' := 169) hM_249 d_249_126 (by decide) ?_
          refine r_sto (pc' := 172) (ls' := [some (.inr (.inr (some 53))), some (.inl p), some (.inl u), some (.inl x), some (.inl (k + 1)), none]) hM_249 d_249_169 rfl rfl ?_
          refine r_go (pc' := 95) hM_249 d_249_172 (by decide) ?_
          exact hk
        exact H
theorem u_249_0 {Q : List am_V → am_M → Prop} {m : am_M} {p : Int} {u : Int} {x : Int}  {PRE : am_M → Int → Int → Int → Prop} {POST : am_M → Int → Int → Int → am_M → Prop} {h0 : Nat} (hh0 : 4 ≤ h0) (hrec : ∀ (m : am_M) (p u x : Int), PRE m p u x → ok h0 249 0 (am_ent 6 [.inr (.inr (some 53)), .inl p, .inl u, .inl x]) [] m (fun rr m' => rr = [] ∧ POST m p u x m')) (H : ((am_s (m 53 36) = 0) → ((¬ am_s p = am_s (m 54 0)) → (WFG (m 54)) ∧ (((¬ ((0 ≤ am_s p ∧ am_s p < m 54 0) ∧ nv (m 54) (8 + (am_s p).toNat) = am_s 3)) → ok (h0 + 1) 249 95 [some (.inr (.inr (some 53))), some (.inl p), some (.inl u), some (.inl x), some (.inl 0), none] [] m Q) ∧ (((0 ≤ am_s p ∧ am_s p < m 54 0) ∧ nv (m 54) (8 + (am_s p).toNat) = am_s 3) → (0 ≤ am_s p ∧ am_s p < (12 : Nat)) ∧ ((PRE (mu m 71 ((am_s p).toNat) (-1)) (p + 1) u x) ∧ (∀ (m1 : am_M), (POST (mu m 71 ((am_s p).toNat) (-1)) (p + 1) u x m1) → Q [] m1))))) ∧ ((am_s p = am_s (m 54 0)) → ok (h0 + 1) 249 39 [some (.inr (.inr (some 53))), some (.inl p), some (.inl u), some (.inl x), some (.inl 0), none] [] (mu (mu m 53 36 1) 53 35 x) Q)) ∧ ((¬ (am_s (m 53 36) = 0)) → ((am_s (m 53 35) < am_s x) → ((¬ am_s p = am_s (m 54 0)) → (WFG (m 54)) ∧ (((¬ ((0 ≤ am_s p ∧ am_s p < m 54 0) ∧ nv (m 54) (8 + (am_s p).toNat) = am_s 3)) → ok (h0 + 1) 249 95 [some (.inr (.inr (some 53))), some (.inl p), some (.inl u), some (.inl x), some (.inl 0), none] [] m Q) ∧ (((0 ≤ am_s p ∧ am_s p < m 54 0) ∧ nv (m 54) (8 + (am_s p).toNat) = am_s 3) → (0 ≤ am_s p ∧ am_s p < (12 : Nat)) ∧ ((PRE (mu m 71 ((am_s p).toNat) (-1)) (p + 1) u x) ∧ (∀ (m2 : am_M), (POST (mu m 71 ((am_s p).toNat) (-1)) (p + 1) u x m2) → Q [] m2))))) ∧ ((am_s p = am_s (m 54 0)) → ok (h0 + 1) 249 39 [some (.inr (.inr (some 53))), some (.inl p), some (.inl u), some (.inl x), some (.inl 0), none] [] (mu (mu m 53 36 1) 53 35 x) Q)) ∧ ((¬ (am_s (m 53 35) < am_s x)) → Q [] m))) : ok (h0 + 1) 249 0 [some (.inr (.inr (some 53))), some (.inl p), some (.inl u), some (.inl x), none, none] [] m Q := by
  refine ok_sg (pc' := 4) (ls' := [some (.inr (.inr (some 53))), some (.inl p), some (.inl u), some (.inl x), none, none]) (st' := [.inl (m 53 36)]) (m' := m) (fun fx hfx o hk => ?_) ?_
  · refine r_ld (pc' := 1) hM_249 d_249_0 rfl rfl ?_
    refine r_gI (pc' := 4) (k0 := 36) hM_249 d_249_1 rfl (by decide +kernel) ?_
    exact hk
  refine ok_if (pc' := 16) (pc2 := 7) hM_249 d_249_4 (by decide) rfl (fun hz1 => ?_) (fun hz1 => ?_)
  · have H := H.1 hz1
    refine ok_sg (pc' := 23) (ls' := [some (.inr (.inr (some 53))), some (.inl p), some (.inl u), some (.inl x), none, none]) (st' := [.inl (m 54 0), .inl p]) (m' := m) (fun fx hfx o hk => ?_) ?_
    · refine r_ld (pc' := 17) hM_249 d_249_16 rfl rfl ?_
      refine r_ld (pc' := 18) hM_249 d_249_17 rfl rfl ?_
      refine r_gR (pc' := 21) (v := 54) hM_249 d_249_18 rfl (by decide +kernel) ?_
      refine r_k (pc' := 22) (v := .inl 0) hM_249 d_249_21 rfl rfl ?_
      refine r_iae (pc' := 23) (n := 168) (z := (m 54 0)) hM_249 d_249_22 rfl rfl (by decide) (by rw [show (am_s 0).toNat = 0 by decide]) ?_
      exact hk
    refine ok_ic (pc' := 66) (pc2 := 26) hM_249 d_249_23 (by decide) rfl (fun hz2 => ?_) (fun hz2 => ?_)
    · have H := H.1 hz2
      obtain ⟨hz3, H⟩ := H
      refine ok_sg (pc' := 72) (ls' := [some (.inr (.inr (some 53))), some (.inl p), some (.inl u), some (.inl x), none, none]) (st' := [.inl ((if (0 ≤ am_s p ∧ am_s p < m 54 0) ∧ nv (m 54) (8 + (am_s p).toNat) = am_s 3 then 1 else 0))]) (m' := m) (fun fx hfx o hk => ?_) ?_
      · refine r_ld (pc' := 67) hM_249 d_249_66 rfl rfl ?_
        refine r_ld (pc' := 68) hM_249 d_249_67 rfl rfl ?_
        refine r_k (pc' := 69) (v := .inl 3) hM_249 d_249_68 rfl rfl ?_
        refine r_cl (pc' := 72) (c := (187, 0)) (a := [.inr (.inr (some 53)), .inl p, .inl 3]) (q := []) hM_249 d_249_69 rfl (by decide +kernel) hM_187 rfl rfl rfl (Nat.le_of_ble_eq_true rfl) (Nat.le_of_ble_eq_true rfl) (Or.inr rfl) (n_187  m p 3 hz3) (by omega) ?_
        show rn fx (h0 + 1) (0, 0) 249 72 [some (.inr (.inr (some 53))), some (.inl p), some (.inl u), some (.inl x), none, none] [.inl ((if (0 ≤ am_s p ∧ am_s p < m 54 0) ∧ nv (m 54) (8 + (am_s p).toNat) = am_s 3 then 1 else 0))] (st0 m) o
        exact hk
      refine ok_if (pc' := 92) (pc2 := 75) hM_249 d_249_72 (by decide) rfl (fun hz4 => ?_) (fun hz4 => ?_)
      · have H := H.1 (as_ite.mp hz4)
        refine ok_sg (pc' := 95) (ls' := [some (.inr (.inr (some 53))), some (.inl p), some (.inl u), some (.inl x), some (.inl 0), none]) (st' := []) (m' := m) (fun fx hfx o hk => ?_) ?_
        · refine r_k (pc' := 93) (v := .inl 0) hM_249 d_249_92 rfl rfl ?_
          refine r_sto (pc' := 95) (ls' := [some (.inr (.inr (some 53))), some (.inl p), some (.inl u), some (.inl x), some (.inl 0), none]) hM_249 d_249_93 rfl rfl ?_
          exact hk
        exact H
      · have H := H.2 (as_iteN.mp hz4)
        obtain ⟨hz5, H⟩ := H
        obtain ⟨hz6, H⟩ := H
        refine ok_sg (pc' := 88) (ls' := [some (.inr (.inr (some 53))), some (.inl p), some (.inl u), some (.inl x), none, none]) (st' := [.inl x, .inl u, .inl (p + 1), .inr (.inr (some 53))]) (m' := mu m 71 ((am_s p).toNat) (-1)) (fun fx hfx o hk => ?_) ?_
        · refine r_ld (pc' := 76) hM_249 d_249_75 rfl rfl ?_
          refine r_gR (pc' := 79) (v := 71) hM_249 d_249_76 rfl (by decide +kernel) ?_
          refine r_ld (pc' := 80) hM_249 d_249_79 rfl rfl ?_
          refine r_k (pc' := 81) (v := .inl (-1)) hM_249 d_249_80 rfl rfl ?_
          refine r_is (pc' := 82) (n := 12) hM_249 d_249_81 rfl rfl hz5 ?_
          refine r_ld (pc' := 83) hM_249 d_249_82 rfl rfl ?_
          refine r_ld (pc' := 84) hM_249 d_249_83 rfl rfl ?_
          refine r_k (pc' := 85) (v := .inl 1) hM_249 d_249_84 rfl rfl ?_
          refine r_b (pc' := 86) (z := (p + 1)) hM_249 d_249_85 rfl rfl ?_
          refine r_ld (pc' := 87) hM_249 d_249_86 rfl rfl ?_
          refine r_ld (pc' := 88) hM_249 d_249_87 rfl rfl ?_
          exact hk
        refine ok_cl (pc' := 91) (c := (249, 0)) (a := [.inr (.inr (some 53)), .inl (p + 1), .inl u, .inl x]) (q := []) hM_249 d_249_88 rfl (by decide +kernel) hM_249 rfl rfl rfl (Nat.le_of_ble_eq_true rfl) (Nat.le_of_ble_eq_true rfl) (Or.inr rfl) (hrec  (mu m 71 ((am_s p).toNat) (-1)) (p + 1) u x hz6) (by omega) ?_
        rintro _ m1 ⟨rfl, hz7⟩
        replace H := H  m1 hz7
        show ok (h0 + 1) 249 91 [some (.inr (.inr (some 53))), some (.inl p), some (.inl u), some (.inl x), none, none] [] m1 Q
        exact ok_rt (fun fx _ => rt_v hM_249 d_249_91 rfl) H
    · have H := H.2 (Decidable.not_not.mp hz2)
      refine ok_sg (pc' := 39) (ls' := [some (.inr (.inr (some 53))), some (.inl p), some (.inl u), some (.inl x), some (.inl 0), none]) (st' := []) (m' := mu (mu m 53 36 1) 53 35 x) (fun fx hfx o hk => ?_) ?_
      · refine r_ld (pc' := 27) hM_249 d_249_26 rfl rfl ?_
        refine r_k (pc' := 28) (v := .inl 1) hM_249 d_249_27 rfl rfl ?_
        refine r_pZ (pc' := 31) (k0 := 36) hM_249 d_249_28 rfl (by decide +kernel) (by decide) ?_
        refine r_ld (pc' := 32) hM_249 d_249_31 rfl rfl ?_
        refine r_ld (pc' := 33) hM_249 d_249_32 rfl rfl ?_
        refine r_pI (pc' := 36) (k0 := 35) hM_249 d_249_33 rfl (by decide +kernel) ?_
        refine r_k (pc' := 37) (v := .inl 0) hM_249 d_249_36 rfl rfl ?_
        refine r_sto (pc' := 39) (ls' := [some (.inr (.inr (some 53))), some (.inl p), some (.inl u), some (.inl x), some (.inl 0), none]) hM_249 d_249_37 rfl rfl ?_
        exact hk
      exact H
  · have H := H.2 hz1
    refine ok_sg (pc' := 12) (ls' := [some (.inr (.inr (some 53))), some (.inl p), some (.inl u), some (.inl x), none, none]) (st' := [.inl (m 53 35), .inl x]) (m' := m) (fun fx hfx o hk => ?_) ?_
    · refine r_ld (pc' := 8) hM_249 d_249_7 rfl rfl ?_
      refine r_ld (pc' := 9) hM_249 d_249_8 rfl rfl ?_
      refine r_gI (pc' := 12) (k0 := 35) hM_249 d_249_9 rfl (by decide +kernel) ?_
      exact hk
    refine ok_ic (pc' := 16) (pc2 := 15) hM_249 d_249_12 (by decide) rfl (fun hz8 => ?_) (fun hz8 => ?_)
    · have H := H.1 hz8
      refine ok_sg (pc' := 23) (ls' := [some (.inr (.inr (some 53))), some (.inl p), some (.inl u), some (.inl x), none, none]) (st' := [.inl (m 54 0), .inl p]) (m' := m) (fun fx hfx o hk => ?_) ?_
      · refine r_ld (pc' := 17) hM_249 d_249_16 rfl rfl ?_
        refine r_ld (pc' := 18) hM_249 d_249_17 rfl rfl ?_
        refine r_gR (pc' := 21) (v := 54) hM_249 d_249_18 rfl (by decide +kernel) ?_
        refine r_k (pc' := 22) (v := .inl 0) hM_249 d_249_21 rfl rfl ?_
        refine r_iae (pc' := 23) (n := 168) (z := (m 54 0)) hM_249 d_249_22 rfl rfl (by decide) (by rw [show (am_s 0).toNat = 0 by decide]) ?_
        exact hk
      refine ok_ic (pc' := 66) (pc2 := 26) hM_249 d_249_23 (by decide) rfl (fun hz9 => ?_) (fun hz9 => ?_)
      · have H := H.1 hz9
        obtain ⟨hz10, H⟩ := H
        refine ok_sg (pc' := 72) (ls' := [some (.inr (.inr (some 53))), some (.inl p), some (.inl u), some (.inl x), none, none]) (st' := [.inl ((if (0 ≤ am_s p ∧ am_s p < m 54 0) ∧ nv (m 54) (8 + (am_s p).toNat) = am_s 3 then 1 else 0))]) (m' := m) (fun fx hfx o hk => ?_) ?_
        · refine r_ld (pc' := 67) hM_249 d_249_66 rfl rfl ?_
          refine r_ld (pc' := 68) hM_249 d_249_67 rfl rfl ?_
          refine r_k (pc' := 69) (v := .inl 3) hM_249 d_249_68 rfl rfl ?_
          refine r_cl (pc' := 72) (c := (187, 0)) (a := [.inr (.inr (some 53)), .inl p, .inl 3]) (q := []) hM_249 d_249_69 rfl (by decide +kernel) hM_187 rfl rfl rfl (Nat.le_of_ble_eq_true rfl) (Nat.le_of_ble_eq_true rfl) (Or.inr rfl) (n_187  m p 3 hz10) (by omega) ?_
          show rn fx (h0 + 1) (0, 0) 249 72 [some (.inr (.inr (some 53))), some (.inl p), some (.inl u), some (.inl x), none, none] [.inl ((if (0 ≤ am_s p ∧ am_s p < m 54 0) ∧ nv (m 54) (8 + (am_s p).toNat) = am_s 3 then 1 else 0))] (st0 m) o
          exact hk
        refine ok_if (pc' := 92) (pc2 := 75) hM_249 d_249_72 (by decide) rfl (fun hz11 => ?_) (fun hz11 => ?_)
        · have H := H.1 (as_ite.mp hz11)
          refine ok_sg (pc' := 95) (ls' := [some (.inr (.inr (some 53))), some (.inl p), some (.inl u), some (.inl x), some (.inl 0), none]) (st' := []) (m' := m) (fun fx hfx o hk => ?_) ?_
          · refine r_k (pc' := 93) (v := .inl 0) hM_249 d_249_92 rfl rfl ?_
            refine r_sto (pc' := 95) (ls' := [some (.inr (.inr (some 53))), some (.inl p), some (.inl u), some (.inl x), some (.inl 0), none]) hM_249 d_249_93 rfl rfl ?_
            exact hk
          exact H
        · have H := H.2 (as_iteN.mp hz11)
          obtain ⟨hz12, H⟩ := H
          obtain ⟨hz13, H⟩ := H
          refine ok_sg (pc' := 88) (ls' := [some (.inr (.inr (some 53))), some (.inl p), some (.inl u), some (.inl x), none, none]) (st' := [.inl x, .inl u, .inl (p + 1), .inr (.inr (some 53))]) (m' := mu m 71 ((am_s p).toNat) (-1)) (fun fx hfx o hk => ?_) ?_
          · refine r_ld (pc' := 76) hM_249 d_249_75 rfl rfl ?_
            refine r_gR (pc' := 79) (v := 71) hM_249 d_249_76 rfl (by decide +kernel) ?_
            refine r_ld (pc' := 80) hM_249 d_249_79 rfl rfl ?_
            refine r_k (pc' := 81) (v := .inl (-1)) hM_249 d_249_80 rfl rfl ?_
            refine r_is (pc' := 82) (n := 12) hM_249 d_249_81 rfl rfl hz12 ?_
            refine r_ld (pc' := 83) hM_249 d_249_82 rfl rfl ?_
            refine r_ld (pc' := 84) hM_249 d_249_83 rfl rfl ?_
            refine r_k (pc' := 85) (v := .inl 1) hM_249 d_249_84 rfl rfl ?_
            refine r_b (pc' := 86) (z := (p + 1)) hM_249 d_249_85 rfl rfl ?_
            refine r_ld (pc' := 87) hM_249 d_249_86 rfl rfl ?_
            refine r_ld (pc' := 88) hM_249 d_249_87 rfl rfl ?_
            exact hk
          refine ok_cl (pc' := 91) (c := (249, 0)) (a := [.inr (.inr (some 53)), .inl (p + 1), .inl u, .inl x]) (q := []) hM_249 d_249_88 rfl (by decide +kernel) hM_249 rfl rfl rfl (Nat.le_of_ble_eq_true rfl) (Nat.le_of_ble_eq_true rfl) (Or.inr rfl) (hrec  (mu m 71 ((am_s p).toNat) (-1)) (p + 1) u x hz13) (by omega) ?_
          rintro _ m2 ⟨rfl, hz14⟩
          replace H := H  m2 hz14
          show ok (h0 + 1) 249 91 [some (.inr (.inr (some 53))), some (.inl p), some (.inl u), some (.inl x), none, none] [] m2 Q
          exact ok_rt (fun fx _ => rt_v hM_249 d_249_91 rfl) H
      · have H := H.2 (Decidable.not_not.mp hz9)
        refine ok_sg (pc' := 39) (ls' := [some (.inr (.inr (some 53))), some (.inl p), some (.inl u), some (.inl x), some (.inl 0), none]) (st' := []) (m' := mu (mu m 53 36 1) 53 35 x) (fun fx hfx o hk => ?_) ?_
        · refine r_ld (pc' := 27) hM_249 d_249_26 rfl rfl ?_
          refine r_k (pc' := 28) (v := .inl 1) hM_249 d_249_27 rfl rfl ?_
          refine r_pZ (pc' := 31) (k0 := 36) hM_249 d_249_28 rfl (by decide +kernel) (by decide) ?_
          refine r_ld (pc' := 32) hM_249 d_249_31 rfl rfl ?_
          refine r_ld (pc' := 33) hM_249 d_249_32 rfl rfl ?_
          refine r_pI (pc' := 36) (k0 := 35) hM_249 d_249_33 rfl (by decide +kernel) ?_
          refine r_k (pc' := 37) (v := .inl 0) hM_249 d_249_36 rfl rfl ?_
          refine r_sto (pc' := 39) (ls' := [some (.inr (.inr (some 53))), some (.inl p), some (.inl u), some (.inl x), some (.inl 0), none]) hM_249 d_249_37 rfl rfl ?_
          exact hk
        exact H
    · have H := H.2 hz8
      exact ok_rt (fun fx _ => rt_v hM_249 d_249_15 rfl) H
