theorem u_240_29 {Q : List am_V → am_M → Prop} {m : am_M} {f : Int} {h : Int} {s : Int}  (H : ((am_s (am_shl 1 (m 53 27)) ≤ am_s s) → Q [.inl 0] m) ∧ ((¬ (am_s (am_shl 1 (m 53 27)) ≤ am_s s)) → (0 ≤ (am_s s) ∧ (am_s s) < 2147483648) ∧ (((¬ am_s (((cnt (am_s s).toNat 12 : Nat) : Int)) = am_s h) → ok 2 240 29 [some (.inr (.inr (some 53))), some (.inl f), some (.inl h), some (.inl (s + 1))] [] m Q) ∧ ((am_s (((cnt (am_s s).toNat 12 : Nat) : Int)) = am_s h) → (MFW (nv (m 54)) m ∧ (0 ≤ s ∧ s < 32) ∧ ∀ j, j < SN (nv (m 54)) → 0 ≤ m 65 j ∧ m 65 j ≤ 99) ∧ (∀ (v1 : Int) (m1 : am_M), (m1 = m ∧ ((kgo (SN (nv (m 54))) (kwa (nv (m 54)) (m 65)) s.toNat ∧ v1 = ks7 (kan (nv (m 54)) s.toNat (m 65)) (SN (nv (m 54)))) ∨ (¬ kgo (SN (nv (m 54))) (kwa (nv (m 54)) (m 65)) s.toNat ∧ v1 = -1))) → ((am_s v1 = (-1)) → ok 2 240 29 [some (.inr (.inr (some 53))), some (.inl f), some (.inl h), some (.inl (s + 1))] [] m1 Q) ∧ ((¬ (am_s v1 = (-1))) → ((¬ am_s f = 0) → Q [.inl 1] m1) ∧ ((am_s f = 0) → (MFW (nv (m1 54)) m1 ∧ (0 ≤ s ∧ s < 32) ∧ ∀ j, j < SN (nv (m1 54)) → 0 ≤ m1 65 j ∧ m1 65 j ≤ 99) ∧ (∀ (v2 : Int) (m2 : am_M), (m2 = m1 ∧ ((kgo (SN (nv (m1 54))) (kwa (nv (m1 54)) (m1 65)) s.toNat ∧ v2 = ks7 (kan (nv (m1 54)) s.toNat (m1 65)) (SN (nv (m1 54)))) ∨ (¬ kgo (SN (nv (m1 54))) (kwa (nv (m1 54)) (m1 65)) s.toNat ∧ v2 = -1))) → (0 ≤ am_s v2 ∧ am_s v2 < (16807 : Nat)) ∧ (((am_s (m2 68 ((am_s v2).toNat)) = 0) → ok 2 240 29 [some (.inr (.inr (some 53))), some (.inl f), some (.inl h), some (.inl (s + 1))] [] m2 Q) ∧ ((¬ (am_s (m2 68 ((am_s v2).toNat)) = 0)) → Q [.inl 1] m2)))))))))) : ok 2 240 29 [some (.inr (.inr (some 53))), some (.inl f), some (.inl h), some (.inl s)] [] m Q := by
  refine ok_sg (pc' := 36) (ls' := [some (.inr (.inr (some 53))), some (.inl f), some (.inl h), some (.inl s)]) (st' := [.inl (am_shl 1 (m 53 27)), .inl s]) (m' := m) (fun fx hfx o hk => ?_) ?_
  · refine r_ld (pc' := 30) hM_240 d_240_29 rfl rfl ?_
    refine r_k (pc' := 31) (v := .inl 1) hM_240 d_240_30 rfl rfl ?_
    refine r_ld (pc' := 32) hM_240 d_240_31 rfl rfl ?_
    refine r_gI (pc' := 35) (k0 := 27) hM_240 d_240_32 rfl (by decide +kernel) ?_
    refine r_b (pc' := 36) (z := (am_shl 1 (m 53 27))) hM_240 d_240_35 rfl rfl ?_
    exact hk
  refine ok_ic (pc' := 82) (pc2 := 39) hM_240 d_240_36 (by decide) rfl (fun hz1 => ?_) (fun hz1 => ?_)
  · have H := H.1 hz1
    refine ok_sg (pc' := 83) (ls' := [some (.inr (.inr (some 53))), some (.inl f), some (.inl h), some (.inl s)]) (st' := [.inl 0]) (m' := m) (fun fx hfx o hk => ?_) ?_
    · refine r_k (pc' := 83) (v := .inl 0) hM_240 d_240_82 rfl rfl ?_
      exact hk
    exact ok_rt (fun fx _ => rt_z hM_240 d_240_83 rfl (by decide)) H
  · have H := H.2 hz1
    obtain ⟨hz2, H⟩ := H
    refine ok_sg (pc' := 45) (ls' := [some (.inr (.inr (some 53))), some (.inl f), some (.inl h), some (.inl s)]) (st' := [.inl h, .inl (((cnt (am_s s).toNat 12 : Nat) : Int))]) (m' := m) (fun fx hfx o hk => ?_) ?_
    · refine r_ld (pc' := 40) hM_240 d_240_39 rfl rfl ?_
      refine r_stk (pc' := 41) (st' := [.inr (.inl (am_s s))]) hM_240 d_240_40 rfl rfl ?_
      refine r_cl (pc' := 44) (c := (193, 2)) (a := [.inr (.inl (am_s s))]) (q := []) hM_240 d_240_41 rfl (by decide +kernel) hM_193 rfl rfl rfl (Nat.le_of_ble_eq_true rfl) (Nat.le_of_ble_eq_true rfl) (Or.inl rfl) (c_193  m (am_s s) hz2) (Nat.le_of_ble_eq_true rfl) ?_
      show rn fx 2 (0, 0) 240 44 [some (.inr (.inr (some 53))), some (.inl f), some (.inl h), some (.inl s)] [.inl (((cnt (am_s s).toNat 12 : Nat) : Int))] (st0 m) o
      refine r_ld (pc' := 45) hM_240 d_240_44 rfl rfl ?_
      exact hk
    refine ok_ic (pc' := 76) (pc2 := 48) hM_240 d_240_45 (by decide) rfl (fun hz3 => ?_) (fun hz3 => ?_)
    · have H := H.1 hz3
      refine ok_sg (pc' := 29) (ls' := [some (.inr (.inr (some 53))), some (.inl f), some (.inl h), some (.inl (s + 1))]) (st' := []) (m' := m) (fun fx hfx o hk => ?_) ?_
      · refine r_sto (pc' := 79) (ls' := [some (.inr (.inr (some 53))), some (.inl f), some (.inl h), some (.inl (s + 1))]) hM_240 d_240_76 rfl rfl ?_
        refine r_go (pc' := 29) hM_240 d_240_79 (by decide) ?_
        exact hk
      exact H
    · have H := H.2 (Decidable.not_not.mp hz3)
      obtain ⟨hz4, H⟩ := H
      refine ok_sg (pc' := 50) (ls' := [some (.inr (.inr (some 53))), some (.inl f), some (.inl h), some (.inl s)]) (st' := [.inl s, .inr (.inr (some 53))]) (m' := m) (fun fx hfx o hk => ?_) ?_
      · refine r_ld (pc' := 49) hM_240 d_240_48 rfl rfl ?_
        refine r_ld (pc' := 50) hM_240 d_240_49 rfl rfl ?_
        exact hk
      refine ok_cl (pc' := 53) (c := (235, 0)) (a := [.inr (.inr (some 53)), .inl s]) (q := []) hM_240 d_240_50 rfl (by decide +kernel) hM_235 rfl rfl rfl (Nat.le_of_ble_eq_true rfl) (Nat.le_of_ble_eq_true rfl) (Or.inr rfl) (z_235  m s hz4) (Nat.le_of_ble_eq_true rfl) ?_
      rintro _ m1 ⟨v1, rfl, hz5⟩
      replace H := H v1 m1 hz5
      show ok 2 240 53 [some (.inr (.inr (some 53))), some (.inl f), some (.inl h), some (.inl s)] [.inl v1] m1 Q
      refine ok_sg (pc' := 54) (ls' := [some (.inr (.inr (some 53))), some (.inl f), some (.inl h), some (.inl s)]) (st' := [.inl (-1), .inl v1]) (m' := m1) (fun fx hfx o hk => ?_) ?_
      · refine r_k (pc' := 54) (v := .inl (-1)) hM_240 d_240_53 rfl rfl ?_
        exact hk
      refine ok_ic (pc' := 76) (pc2 := 57) hM_240 d_240_54 (by decide) rfl (fun hz6 => ?_) (fun hz6 => ?_)
      · have H := H.1 hz6
        refine ok_sg (pc' := 29) (ls' := [some (.inr (.inr (some 53))), some (.inl f), some (.inl h), some (.inl (s + 1))]) (st' := []) (m' := m1) (fun fx hfx o hk => ?_) ?_
        · refine r_sto (pc' := 79) (ls' := [some (.inr (.inr (some 53))), some (.inl f), some (.inl h), some (.inl (s + 1))]) hM_240 d_240_76 rfl rfl ?_
          refine r_go (pc' := 29) hM_240 d_240_79 (by decide) ?_
          exact hk
        exact H
      · have H := H.2 hz6
        refine ok_sg (pc' := 58) (ls' := [some (.inr (.inr (some 53))), some (.inl f), some (.inl h), some (.inl s)]) (st' := [.inl f]) (m' := m1) (fun fx hfx o hk => ?_) ?_
        · refine r_ld (pc' := 58) hM_240 d_240_57 rfl rfl ?_
          exact hk
        refine ok_if (pc' := 74) (pc2 := 61) hM_240 d_240_58 (by decide) rfl (fun hz7 => ?_) (fun hz7 => ?_)
        · have H := H.1 hz7
          refine ok_sg (pc' := 75) (ls' := [some (.inr (.inr (some 53))), some (.inl f), some (.inl h), some (.inl s)]) (st' := [.inl 1]) (m' := m1) (fun fx hfx o hk => ?_) ?_
          · refine r_k (pc' := 75) (v := .inl 1) hM_240 d_240_74 rfl rfl ?_
            exact hk
          exact ok_rt (fun fx _ => rt_z hM_240 d_240_75 rfl (by decide)) H
        · have H := H.2 (Decidable.not_not.mp hz7)
          obtain ⟨hz8, H⟩ := H
          refine ok_sg (pc' := 67) (ls' := [some (.inr (.inr (some 53))), some (.inl f), some (.inl h), some (.inl s)]) (st' := [.inl s, .inr (.inr (some 53)), .inr (.inr (some 68))]) (m' := m1) (fun fx hfx o hk => ?_) ?_
          · refine r_ld (pc' := 62) hM_240 d_240_61 rfl rfl ?_
            refine r_gR (pc' := 65) (v := 68) hM_240 d_240_62 rfl (by decide +kernel) ?_
            refine r_ld (pc' := 66) hM_240 d_240_65 rfl rfl ?_
            refine r_ld (pc' := 67) hM_240 d_240_66 rfl rfl ?_
            exact hk
          refine ok_cl (pc' := 70) (c := (235, 0)) (a := [.inr (.inr (some 53)), .inl s]) (q := [.inr (.inr (some 68))]) hM_240 d_240_67 rfl (by decide +kernel) hM_235 rfl rfl rfl (Nat.le_of_ble_eq_true rfl) (Nat.le_of_ble_eq_true rfl) (Or.inr rfl) (z_235  m1 s hz8) (Nat.le_of_ble_eq_true rfl) ?_
          rintro _ m2 ⟨v2, rfl, hz9⟩
          replace H := H v2 m2 hz9
          show ok 2 240 70 [some (.inr (.inr (some 53))), some (.inl f), some (.inl h), some (.inl s)] [.inl v2, .inr (.inr (some 68))] m2 Q
          obtain ⟨hz10, H⟩ := H
          refine ok_sg (pc' := 71) (ls' := [some (.inr (.inr (some 53))), some (.inl f), some (.inl h), some (.inl s)]) (st' := [.inl (m2 68 ((am_s v2).toNat))]) (m' := m2) (fun fx hfx o hk => ?_) ?_
          · refine r_ba (pc' := 71) (n := 16807) hM_240 d_240_70 rfl rfl (by decide) hz10 ?_
            exact hk
          refine ok_if (pc' := 76) (pc2 := 74) hM_240 d_240_71 (by decide) rfl (fun hz11 => ?_) (fun hz11 => ?_)
          · have H := H.1 hz11
            refine ok_sg (pc' := 29) (ls' := [some (.inr (.inr (some 53))), some (.inl f), some (.inl h), some (.inl (s + 1))]) (st' := []) (m' := m2) (fun fx hfx o hk => ?_) ?_
            · refine r_sto (pc' := 79) (ls' := [some (.inr (.inr (some 53))), some (.inl f), some (.inl h), some (.inl (s + 1))]) hM_240 d_240_76 rfl rfl ?_
              refine r_go (pc' := 29) hM_240 d_240_79 (by decide) ?_
              exact hk
            exact H
          · have H := H.2 hz11
            refine ok_sg (pc' := 75) (ls' := [some (.inr (.inr (some 53))), some (.inl f), some (.inl h), some (.inl s)]) (st' := [.inl 1]) (m' := m2) (fun fx hfx o hk => ?_) ?_
            · refine r_k (pc' := 75) (v := .inl 1) hM_240 d_240_74 rfl rfl ?_
              exact hk
            exact ok_rt (fun fx _ => rt_z hM_240 d_240_75 rfl (by decide)) H
theorem u_240_0 {Q : List am_V → am_M → Prop} {m : am_M} {f : Int}  (H : ∀ y1 : Int, y1 = (if am_s (m 53 27) ≤ am_s (m 54 4) then (m 53 27) else (m 54 4)) → ok 2 240 29 [some (.inr (.inr (some 53))), some (.inl f), some (.inl y1), some (.inl 0)] [] m Q) : ok 2 240 0 [some (.inr (.inr (some 53))), some (.inl f), none, none] [] m Q := by
  refine ok_sg (pc' := 10) (ls' := [some (.inr (.inr (some 53))), some (.inl f), none, none]) (st' := [.inl (m 53 27), .inl (m 54 4)]) (m' := m) (fun fx hfx o hk => ?_) ?_
  · refine r_ld (pc' := 1) hM_240 d_240_0 rfl rfl ?_
    refine r_gR (pc' := 4) (v := 54) hM_240 d_240_1 rfl (by decide +kernel) ?_
    refine r_k (pc' := 5) (v := .inl 4) hM_240 d_240_4 rfl rfl ?_
    refine r_iae (pc' := 6) (n := 168) (z := (m 54 4)) hM_240 d_240_5 rfl rfl (by decide) (by rw [show (am_s 4).toNat = 4 by decide]) ?_
    refine r_ld (pc' := 7) hM_240 d_240_6 rfl rfl ?_
    refine r_gI (pc' := 10) (k0 := 27) hM_240 d_240_7 rfl (by decide +kernel) ?_
    exact hk
  refine ok_sg (pc' := 26) (ls' := [some (.inr (.inr (some 53))), some (.inl f), none, none]) (st' := [.inl (if am_s (m 53 27) ≤ am_s (m 54 4) then (m 53 27) else (m 54 4))]) (m' := m) (fun fx hfx o K => ?_) ?_
  · refine r_ic (pc' := 22) (pc2 := 13) hM_240 d_240_10 (by decide) rfl (fun hz1 => ?_) (fun hz1 => ?_)
    · have hz1 : am_s (m 53 27) ≤ am_s (m 54 4) := hz1
      rw [if_pos hz1] at K
      refine r_ld (pc' := 23) hM_240 d_240_22 rfl rfl ?_
      refine r_gI (pc' := 26) (k0 := 27) hM_240 d_240_23 rfl (by decide +kernel) ?_
      exact K
    · have hz1 : ¬ (am_s (m 53 27) ≤ am_s (m 54 4)) := hz1
      rw [if_neg hz1] at K
      refine r_ld (pc' := 14) hM_240 d_240_13 rfl rfl ?_
      refine r_gR (pc' := 17) (v := 54) hM_240 d_240_14 rfl (by decide +kernel) ?_
      refine r_k (pc' := 18) (v := .inl 4) hM_240 d_240_17 rfl rfl ?_
      refine r_iae (pc' := 19) (n := 168) (z := (m 54 4)) hM_240 d_240_18 rfl rfl (by decide) (by rw [show (am_s 4).toNat = 4 by decide]) ?_
      refine r_go (pc' := 26) hM_240 d_240_19 (by decide) ?_
      exact K
  have K : ∀ y1 : Int, y1 = (if am_s (m 53 27) ≤ am_s (m 54 4) then (m 53 27) else (m 54 4)) → ok 2 240 26 [some (.inr (.inr (some 53))), some (.inl f), none, none] [.inl y1] m Q := by
    intro y1 hy1
    replace H := H y1 hy1
    refine ok_sg (pc' := 29) (ls' := [some (.inr (.inr (some 53))), some (.inl f), some (.inl y1), some (.inl 0)]) (st' := []) (m' := m) (fun fx hfx o hk => ?_) ?_
    · refine r_sto (pc' := 27) (ls' := [some (.inr (.inr (some 53))), some (.inl f), some (.inl y1), none]) hM_240 d_240_26 rfl rfl ?_
      refine r_k (pc' := 28) (v := .inl 0) hM_240 d_240_27 rfl rfl ?_
      refine r_sto (pc' := 29) (ls' := [some (.inr (.inr (some 53))), some (.inl f), some (.inl y1), some (.inl 0)]) hM_240 d_240_28 rfl rfl ?_
      exact hk
    exact H
  exact K _ rfl
def CG (g : Nat → Int) (f : Int) (m : am_M) : Prop := ∃ s, s < 2 ^ SN g ∧ cnt s 12 = min (g 4).toNat (SN g) ∧ kgo (SN g) (kwa g (m 65)) s ∧ (¬ f = 0 ∨ ¬ m 68 (ks7 (kan g s (m 65)) (SN g)).toNat = 0)
def CGP (f : Int) (m : am_M) : Prop := (f = 0 ∨ f = 1) ∧ (f = 0 → ∀ st, st < 7 ^ SN (nv (m 54)) → m 68 st = 0 ∨ m 68 st = 1)
theorem z_240   (m : am_M) (f : Int) (hq : MFW (nv (m 54)) m ∧ (∀ j, j < SN (nv (m 54)) → 0 ≤ m 65 j ∧ m 65 j ≤ 99) ∧ CGP f m) : ok 2 240 0 (am_ent 4 [.inr (.inr (some 53)), .inl f]) [] m (fun rr m' => ∃ v' : Int, rr = [.inl (v')] ∧ m' = m ∧ (v' = 0 ∨ v' = 1) ∧ (v' = 1 ↔ CG (nv (m 54)) f m)) := by
  show ok 2 240 0 [some (.inr (.inr (some 53))), some (.inl f), none, none] [] m _
  obtain ⟨hM0, ha, hf, hT⟩ := hq
  have hp1 := Nat.two_pow_pos (SN (nv (m 54)))
  generalize hgv : nv (m 54) = g at *
  obtain ⟨h5, h27, hsp, hL, h4, hwn⟩ := id hM0
  have w4 := hwn.2.2.2.2.2.2.2.1
  have h32 : 2 ^ SN g ≤ 32 := Nat.le_trans (Nat.pow_le_pow_right (by decide) h5) (by decide)
  have h7 : 7 ^ SN g ≤ 16807 := Nat.le_trans (Nat.pow_le_pow_right (by decide) h5) (by decide)
  refine u_240_0 ?_
  intro y hy
  have hy2 : y = ((min (g 4).toNat (SN g) : Nat) : Int) := by
    rw [hy, h27, h4, am_s_id (z := ((SN g : Nat) : Int)) (by omega) (by omega), am_s_id (z := g 4) (by omega) (by omega)]
    split <;> omega
  rw [hy2]
  clear hy hy2
  have hmn : min (g 4).toNat (SN g) ≤ 5 := by omega
  generalize hh : min (g 4).toNat (SN g) = h at *
  have hno : ∀ s, ¬ (cnt s 12 = h ∧ kgo (SN g) (kwa g (m 65)) s ∧ (¬ f = 0 ∨ ¬ m 68 (ks7 (kan g s (m 65)) (SN g)).toNat = 0)) → ∀ i, (∀ s', s' < i → ¬ (cnt s' 12 = h ∧ kgo (SN g) (kwa g (m 65)) s' ∧ (¬ f = 0 ∨ ¬ m 68 (ks7 (kan g s' (m 65)) (SN g)).toNat = 0))) → s = i → ∀ s', s' < i + 1 → ¬ (cnt s' 12 = h ∧ kgo (SN g) (kwa g (m 65)) s' ∧ (¬ f = 0 ∨ ¬ m 68 (ks7 (kan g s' (m 65)) (SN g)).toNat = 0)) := by
    intro s hs i hi e s' hs'
    by_cases hc : s' = i
    · rw [hc, ← e]; exact hs
    · exact hi s' (by omega)
  refine ok_for (σ := Unit) (fun s _ => [some (.inr (.inr (some 53))), some (.inl f), some (.inl (h : Int)), some (.inl (s : Int))]) (fun s _ M => M = m ∧ ∀ s', s' < s → ¬ (cnt s' 12 = h ∧ kgo (SN g) (kwa g (m 65)) s' ∧ (¬ f = 0 ∨ ¬ m 68 (ks7 (kan g s' (m 65)) (SN g)).toNat = 0))) (2 ^ SN g) ?_ ?_ () m ⟨rfl, fun s' hx => absurd hx (Nat.not_lt_zero _)⟩
  · rintro s hs - M ⟨hM, hQ⟩ IH
    rw [hM]
    have hcn := cnt_le s 12
    refine u_240_29 ?_
    rw [h27, bx_shl1 _ (by omega), am_s_id (z := ((2 ^ SN g : Nat) : Int)) (by omega) (by omega), am_s_id (z := (s : Int)) (by omega) (by omega), am_s_id (z := (h : Int)) (by omega) (by omega), Int.toNat_natCast, am_s_id (z := ((cnt s 12 : Nat) : Int)) (by omega) (by omega), hgv, am_s_id (z := f) (by omega) (by omega)]
    refine ⟨fun q => by omega, fun _ => ⟨⟨by omega, by omega⟩, fun q => IH () m ⟨rfl, hno s (fun zz => q (by rw [zz.1])) s hQ rfl⟩, fun q => ⟨⟨hM0, ⟨by omega, by omega⟩, ha⟩, ?_⟩⟩⟩
    have hcs : cnt s 12 = h := by omega
    rintro v1 mx ⟨hmx, hv⟩
    rw [hmx]
    rcases hv with ⟨g1, g2⟩ | ⟨g1, g2⟩
    · have hk6 := kan_6 hwn ha g1
      have hk7 := ks7_rng _ hk6
      rw [am_s_id (z := v1) (by omega) (by omega), hgv]
      refine ⟨fun q2 => by omega, fun _ => ⟨fun q3 => ⟨_, rfl, rfl, Or.inr rfl, fun _ => ⟨s, hs, by rw [hh]; exact hcs, g1, Or.inl q3⟩, fun _ => rfl⟩, fun q3 => ⟨⟨hM0, ⟨by omega, by omega⟩, ha⟩, ?_⟩⟩⟩
      rintro v2 mx2 ⟨hmx2, hv2⟩
      rw [hmx2]
      have hv3 : v2 = ks7 (kan g s (m 65)) (SN g) := by
        rcases hv2 with yy | yy
        · exact yy.2
        · exact absurd g1 yy.1
      have hv4 : 0 ≤ v2 ∧ v2 < ((7 ^ SN g : Nat) : Int) := by rw [hv3]; exact hk7
      have hb := hT q3 v2.toNat (by omega)
      rw [am_s_id (z := v2) (by omega) (by omega), am_s_id (z := m 68 v2.toNat) (by omega) (by omega)]
      refine ⟨⟨by omega, by omega⟩, fun q4 => IH () m ⟨rfl, hno s (fun zz => ?_) s hQ rfl⟩, fun q4 => ⟨_, rfl, rfl, Or.inr rfl, fun _ => ⟨s, hs, by rw [hh]; exact hcs, g1, Or.inr (by rw [← hv3]; exact q4)⟩, fun _ => rfl⟩⟩
      rcases zz.2.2 with z1 | z1
      · exact z1 q3
      · exact z1 (by rw [← hv3]; exact q4)
    · rw [g2]
      exact ⟨fun _ => IH () m ⟨rfl, hno s (fun zz => g1 zz.2.1) s hQ rfl⟩, fun q2 => absurd rfl q2⟩
  · rintro - M ⟨hM, hQ⟩
    rw [hM]
    refine u_240_29 ?_
    rw [h27, bx_shl1 _ (by omega), am_s_id (z := ((2 ^ SN g : Nat) : Int)) (by omega) (by omega)]
    refine ⟨fun _ => ⟨_, rfl, rfl, Or.inl rfl, fun zz => absurd zz (by decide), fun zz => ?_⟩, fun q => by omega⟩
    obtain ⟨s, a1, a2, a3, a4⟩ := zz
    exact absurd ⟨by rw [← hh]; exact a2, a3, a4⟩ (hQ s a1)
theorem u_239_100 {Q : List am_V → am_M → Prop} {m : am_M} {y : Int} {d : Int} {e : Int} {s : Int}  (H : ((am_s y ≤ am_s s) → ((am_s e = 0) → ok 3 239 22 [some (.inr (.inr (some 53))), some (.inl y), some (.inl (d + 1)), none, none] [] m Q) ∧ ((¬ (am_s e = 0)) → Q [.inl 30] m)) ∧ ((¬ (am_s y ≤ am_s s)) → ((¬ (am_s e = 0)) → (0 ≤ am_s s ∧ am_s s < (16807 : Nat))) ∧ (∀ y1 : Int, y1 = (if am_s e = 0 then 0 else (if ¬ am_s (m 67 ((am_s s).toNat)) = am_s (m 68 ((am_s s).toNat)) then 0 else 1)) → (0 ≤ am_s s ∧ am_s s < (16807 : Nat)) ∧ (ok 3 239 100 [some (.inr (.inr (some 53))), some (.inl y), some (.inl d), some (.inl y1), some (.inl (s + 1))] [] (mu m 68 ((am_s s).toNat) (am_b1 (m 67 ((am_s s).toNat)))) Q)))) : ok 3 239 100 [some (.inr (.inr (some 53))), some (.inl y), some (.inl d), some (.inl e), some (.inl s)] [] m Q := by
  refine ok_sg (pc' := 103) (ls' := [some (.inr (.inr (some 53))), some (.inl y), some (.inl d), some (.inl e), some (.inl s)]) (st' := [.inl y, .inl s]) (m' := m) (fun fx hfx o hk => ?_) ?_
  · refine r_ld (pc' := 102) hM_239 d_239_100 rfl rfl ?_
    refine r_ld (pc' := 103) hM_239 d_239_102 rfl rfl ?_
    exact hk
  refine ok_ic (pc' := 153) (pc2 := 106) hM_239 d_239_103 (by decide) rfl (fun hz1 => ?_) (fun hz1 => ?_)
  · have H := H.1 hz1
    refine ok_sg (pc' := 154) (ls' := [some (.inr (.inr (some 53))), some (.inl y), some (.inl d), some (.inl e), some (.inl s)]) (st' := [.inl e]) (m' := m) (fun fx hfx o hk => ?_) ?_
    · refine r_ld (pc' := 154) hM_239 d_239_153 rfl rfl ?_
      exact hk
    refine ok_if (pc' := 160) (pc2 := 157) hM_239 d_239_154 (by decide) rfl (fun hz2 => ?_) (fun hz2 => ?_)
    · have H := H.1 hz2
      refine ok_sg (pc' := 22) (ls' := [some (.inr (.inr (some 53))), some (.inl y), some (.inl (d + 1)), none, none]) (st' := []) (m' := m) (fun fx hfx o hk => ?_) ?_
      · refine r_sto (pc' := 163) (ls' := [some (.inr (.inr (some 53))), some (.inl y), some (.inl (d + 1)), some (.inl e), some (.inl s)]) hM_239 d_239_160 rfl rfl ?_
        refine r_go (pc' := 22) hM_239 d_239_163 (by decide) ?_
        refine rn_wk (a := [some (.inr (.inr (some 53))), some (.inl y), some (.inl (d + 1)), none, none]) (by simp only [am_le, and_self]) ?_
        exact hk
      exact H
    · have H := H.2 hz2
      refine ok_sg (pc' := 159) (ls' := [some (.inr (.inr (some 53))), some (.inl y), some (.inl d), some (.inl e), some (.inl s)]) (st' := [.inl 30]) (m' := m) (fun fx hfx o hk => ?_) ?_
      · refine r_k (pc' := 159) (v := .inl 30) hM_239 d_239_157 rfl rfl ?_
        exact hk
      exact ok_rt (fun fx _ => rt_i hM_239 d_239_159 rfl) H
  · have H := H.2 hz1
    obtain ⟨hz4, H⟩ := H
    refine ok_sg (pc' := 107) (ls' := [some (.inr (.inr (some 53))), some (.inl y), some (.inl d), some (.inl e), some (.inl s)]) (st' := [.inl e]) (m' := m) (fun fx hfx o hk => ?_) ?_
    · refine r_ld (pc' := 107) hM_239 d_239_106 rfl rfl ?_
      exact hk
    refine ok_sg (pc' := 132) (ls' := [some (.inr (.inr (some 53))), some (.inl y), some (.inl d), some (.inl e), some (.inl s)]) (st' := [.inl (if am_s e = 0 then 0 else (if ¬ am_s (m 67 ((am_s s).toNat)) = am_s (m 68 ((am_s s).toNat)) then 0 else 1))]) (m' := m) (fun fx hfx o K => ?_) ?_
    · refine r_if (pc' := 131) (pc2 := 110) hM_239 d_239_107 (by decide) rfl (fun hz3 => ?_) (fun hz3 => ?_)
      · have hz3 : am_s e = 0 := hz3
        rw [if_pos hz3] at K
        refine r_k (pc' := 132) (v := .inl 0) hM_239 d_239_131 rfl rfl ?_
        exact K
      · have hz3 : ¬ (am_s e = 0) := hz3
        rw [if_neg hz3] at K
        refine r_ld (pc' := 111) hM_239 d_239_110 rfl rfl ?_
        refine r_gR (pc' := 114) (v := 67) hM_239 d_239_111 rfl (by decide +kernel) ?_
        refine r_ld (pc' := 116) hM_239 d_239_114 rfl rfl ?_
        refine r_ba (pc' := 117) (n := 16807) hM_239 d_239_116 rfl rfl (by decide) (hz4 hz3) ?_
        refine r_ld (pc' := 118) hM_239 d_239_117 rfl rfl ?_
        refine r_gR (pc' := 121) (v := 68) hM_239 d_239_118 rfl (by decide +kernel) ?_
        refine r_ld (pc' := 123) hM_239 d_239_121 rfl rfl ?_
        refine r_ba (pc' := 124) (n := 16807) hM_239 d_239_123 rfl rfl (by decide) (hz4 hz3) ?_
        refine r_ic (pc' := 131) (pc2 := 127) hM_239 d_239_124 (by decide) rfl (fun hz5 => ?_) (fun hz5 => ?_)
        · have hz5 : ¬ am_s (m 67 ((am_s s).toNat)) = am_s (m 68 ((am_s s).toNat)) := hz5
          rw [if_pos hz5] at K
          refine r_k (pc' := 132) (v := .inl 0) hM_239 d_239_131 rfl rfl ?_
          exact K
        · have hz5 : ¬ (¬ am_s (m 67 ((am_s s).toNat)) = am_s (m 68 ((am_s s).toNat))) := hz5
          rw [if_neg hz5] at K
          refine r_k (pc' := 128) (v := .inl 1) hM_239 d_239_127 rfl rfl ?_
          refine r_go (pc' := 132) hM_239 d_239_128 (by decide) ?_
          exact K
    have K : ∀ y1 : Int, y1 = (if am_s e = 0 then 0 else (if ¬ am_s (m 67 ((am_s s).toNat)) = am_s (m 68 ((am_s s).toNat)) then 0 else 1)) → ok 3 239 132 [some (.inr (.inr (some 53))), some (.inl y), some (.inl d), some (.inl e), some (.inl s)] [.inl y1] m Q := by
      intro y1 hy1
      replace H := H y1 hy1
      obtain ⟨hz6, H⟩ := H
      refine ok_sg (pc' := 100) (ls' := [some (.inr (.inr (some 53))), some (.inl y), some (.inl d), some (.inl y1), some (.inl (s + 1))]) (st' := []) (m' := mu m 68 ((am_s s).toNat) (am_b1 (m 67 ((am_s s).toNat)))) (fun fx hfx o hk => ?_) ?_
      · refine r_sto (pc' := 133) (ls' := [some (.inr (.inr (some 53))), some (.inl y), some (.inl d), some (.inl y1), some (.inl s)]) hM_239 d_239_132 rfl rfl ?_
        refine r_ld (pc' := 134) hM_239 d_239_133 rfl rfl ?_
        refine r_gR (pc' := 137) (v := 68) hM_239 d_239_134 rfl (by decide +kernel) ?_
        refine r_ld (pc' := 139) hM_239 d_239_137 rfl rfl ?_
        refine r_ld (pc' := 140) hM_239 d_239_139 rfl rfl ?_
        refine r_gR (pc' := 143) (v := 67) hM_239 d_239_140 rfl (by decide +kernel) ?_
        refine r_ld (pc' := 145) hM_239 d_239_143 rfl rfl ?_
        refine r_ba (pc' := 146) (n := 16807) hM_239 d_239_145 rfl rfl (by decide) hz6 ?_
        refine r_zs (pc' := 147) (n := 16807) hM_239 d_239_146 rfl rfl hz6 ?_
        refine r_sto (pc' := 150) (ls' := [some (.inr (.inr (some 53))), some (.inl y), some (.inl d), some (.inl y1), some (.inl (s + 1))]) hM_239 d_239_147 rfl rfl ?_
        refine r_go (pc' := 100) hM_239 d_239_150 (by decide) ?_
        exact hk
      exact H
    exact K _ rfl
theorem u_239_52 {Q : List am_V → am_M → Prop} {m : am_M} {y : Int} {d : Int} {s : Int}  (H : ((am_s y ≤ am_s s) → ok 3 239 100 [some (.inr (.inr (some 53))), some (.inl y), some (.inl d), some (.inl (if am_s d ≤ 0 then 0 else 1)), some (.inl 0)] [] m Q) ∧ ((¬ (am_s y ≤ am_s s)) → ((0 ≤ m 53 27 ∧ m 53 27 ≤ 5) ∧ 0 ≤ s ∧ s < 16807) ∧ (∀ (m1 : am_M), ((∀ j, j < (m 53 27).toNat → m1 65 j = ((s.toNat / 7 ^ j % 7 : Nat) : Int)) ∧ ∀ a, a ≠ 65 → m1 a = m a) → (MFW (nv (m1 54)) m1 ∧ (∀ j, j < SN (nv (m1 54)) → 0 ≤ m1 65 j ∧ m1 65 j ≤ 99) ∧ CGP (if ¬ am_s d = 0 then 0 else 1) m1) ∧ (∀ (v2 : Int) (m2 : am_M), (m2 = m1 ∧ (v2 = 0 ∨ v2 = 1) ∧ (v2 = 1 ↔ CG (nv (m1 54)) (if ¬ am_s d = 0 then 0 else 1) m1)) → (0 ≤ am_s s ∧ am_s s < (16807 : Nat)) ∧ (ok 3 239 52 [some (.inr (.inr (some 53))), some (.inl y), some (.inl d), some (.inl (s + 1)), none] [] (mu m2 67 ((am_s s).toNat) (am_b1 v2)) Q))))) : ok 3 239 52 [some (.inr (.inr (some 53))), some (.inl y), some (.inl d), some (.inl s), none] [] m Q := by
  refine ok_sg (pc' := 54) (ls' := [some (.inr (.inr (some 53))), some (.inl y), some (.inl d), some (.inl s), none]) (st' := [.inl y, .inl s]) (m' := m) (fun fx hfx o hk => ?_) ?_
  · refine r_ld (pc' := 53) hM_239 d_239_52 rfl rfl ?_
    refine r_ld (pc' := 54) hM_239 d_239_53 rfl rfl ?_
    exact hk
  refine ok_ic (pc' := 87) (pc2 := 57) hM_239 d_239_54 (by decide) rfl (fun hz1 => ?_) (fun hz1 => ?_)
  · have H := H.1 hz1
    refine ok_sg (pc' := 88) (ls' := [some (.inr (.inr (some 53))), some (.inl y), some (.inl d), some (.inl s), none]) (st' := [.inl d]) (m' := m) (fun fx hfx o hk => ?_) ?_
    · refine r_ld (pc' := 88) hM_239 d_239_87 rfl rfl ?_
      exact hk
    refine ok_sg (pc' := 96) (ls' := [some (.inr (.inr (some 53))), some (.inl y), some (.inl d), some (.inl s), none]) (st' := [.inl (if am_s d ≤ 0 then 0 else 1)]) (m' := m) (fun fx hfx o K => ?_) ?_
    · refine r_if (pc' := 95) (pc2 := 91) hM_239 d_239_88 (by decide) rfl (fun hz2 => ?_) (fun hz2 => ?_)
      · have hz2 : am_s d ≤ 0 := hz2
        rw [if_pos hz2] at K
        refine r_k (pc' := 96) (v := .inl 0) hM_239 d_239_95 rfl rfl ?_
        exact K
      · have hz2 : ¬ (am_s d ≤ 0) := hz2
        rw [if_neg hz2] at K
        refine r_k (pc' := 92) (v := .inl 1) hM_239 d_239_91 rfl rfl ?_
        refine r_go (pc' := 96) hM_239 d_239_92 (by decide) ?_
        exact K
    refine ok_sg (pc' := 100) (ls' := [some (.inr (.inr (some 53))), some (.inl y), some (.inl d), some (.inl (if am_s d ≤ 0 then 0 else 1)), some (.inl 0)]) (st' := []) (m' := m) (fun fx hfx o hk => ?_) ?_
    · refine r_sto (pc' := 97) (ls' := [some (.inr (.inr (some 53))), some (.inl y), some (.inl d), some (.inl (if am_s d ≤ 0 then 0 else 1)), none]) hM_239 d_239_96 rfl rfl ?_
      refine r_k (pc' := 98) (v := .inl 0) hM_239 d_239_97 rfl rfl ?_
      refine r_sto (pc' := 100) (ls' := [some (.inr (.inr (some 53))), some (.inl y), some (.inl d), some (.inl (if am_s d ≤ 0 then 0 else 1)), some (.inl 0)]) hM_239 d_239_98 rfl rfl ?_
      exact hk
    exact H
  · have H := H.2 hz1
    obtain ⟨hz3, H⟩ := H
    refine ok_sg (pc' := 59) (ls' := [some (.inr (.inr (some 53))), some (.inl y), some (.inl d), some (.inl s), none]) (st' := [.inl s, .inr (.inr (some 53))]) (m' := m) (fun fx hfx o hk => ?_) ?_
    · refine r_ld (pc' := 58) hM_239 d_239_57 rfl rfl ?_
      refine r_ld (pc' := 59) hM_239 d_239_58 rfl rfl ?_
      exact hk
    refine ok_cl (pc' := 62) (c := (233, 0)) (a := [.inr (.inr (some 53)), .inl s]) (q := []) hM_239 d_239_59 rfl (by decide +kernel) hM_233 rfl rfl rfl (Nat.le_of_ble_eq_true rfl) (Nat.le_of_ble_eq_true rfl) (Or.inr rfl) (z_233  m s hz3) (Nat.le_of_ble_eq_true rfl) ?_
    rintro _ m1 ⟨rfl, hz4⟩
    replace H := H  m1 hz4
    show ok 3 239 62 [some (.inr (.inr (some 53))), some (.inl y), some (.inl d), some (.inl s), none] [] m1 Q
    refine ok_sg (pc' := 69) (ls' := [some (.inr (.inr (some 53))), some (.inl y), some (.inl d), some (.inl s), none]) (st' := [.inl d, .inr (.inr (some 53)), .inl s, .inr (.inr (some 67))]) (m' := m1) (fun fx hfx o hk => ?_) ?_
    · refine r_ld (pc' := 63) hM_239 d_239_62 rfl rfl ?_
      refine r_gR (pc' := 66) (v := 67) hM_239 d_239_63 rfl (by decide +kernel) ?_
      refine r_ld (pc' := 67) hM_239 d_239_66 rfl rfl ?_
      refine r_ld (pc' := 68) hM_239 d_239_67 rfl rfl ?_
      refine r_ld (pc' := 69) hM_239 d_239_68 rfl rfl ?_
      exact hk
    refine ok_sg (pc' := 77) (ls' := [some (.inr (.inr (some 53))), some (.inl y), some (.inl d), some (.inl s), none]) (st' := [.inl (if ¬ am_s d = 0 then 0 else 1), .inr (.inr (some 53)), .inl s, .inr (.inr (some 67))]) (m' := m1) (fun fx hfx o K => ?_) ?_
    · refine r_if (pc' := 76) (pc2 := 72) hM_239 d_239_69 (by decide) rfl (fun hz5 => ?_) (fun hz5 => ?_)
      · have hz5 : ¬ am_s d = 0 := hz5
        rw [if_pos hz5] at K
        refine r_k (pc' := 77) (v := .inl 0) hM_239 d_239_76 rfl rfl ?_
        exact K
      · have hz5 : ¬ (¬ am_s d = 0) := hz5
        rw [if_neg hz5] at K
        refine r_k (pc' := 73) (v := .inl 1) hM_239 d_239_72 rfl rfl ?_
        refine r_go (pc' := 77) hM_239 d_239_73 (by decide) ?_
        exact K
    obtain ⟨hz6, H⟩ := H
    refine ok_cl (pc' := 80) (c := (240, 0)) (a := [.inr (.inr (some 53)), .inl (if ¬ am_s d = 0 then 0 else 1)]) (q := [.inl s, .inr (.inr (some 67))]) hM_239 d_239_77 rfl (by decide +kernel) hM_240 rfl rfl rfl (Nat.le_of_ble_eq_true rfl) (Nat.le_of_ble_eq_true rfl) (Or.inr rfl) (z_240  m1 (if ¬ am_s d = 0 then 0 else 1) hz6) (Nat.le_of_ble_eq_true rfl) ?_
    rintro _ m2 ⟨v2, rfl, hz7⟩
    replace H := H v2 m2 hz7
    show ok 3 239 80 [some (.inr (.inr (some 53))), some (.inl y), some (.inl d), some (.inl s), none] [.inl v2, .inl s, .inr (.inr (some 67))] m2 Q
    obtain ⟨hz8, H⟩ := H
    refine ok_sg (pc' := 52) (ls' := [some (.inr (.inr (some 53))), some (.inl y), some (.inl d), some (.inl (s + 1)), none]) (st' := []) (m' := mu m2 67 ((am_s s).toNat) (am_b1 v2)) (fun fx hfx o hk => ?_) ?_
    · refine r_zs (pc' := 81) (n := 16807) hM_239 d_239_80 rfl rfl hz8 ?_
      refine r_sto (pc' := 84) (ls' := [some (.inr (.inr (some 53))), some (.inl y), some (.inl d), some (.inl (s + 1)), none]) hM_239 d_239_81 rfl rfl ?_
      refine r_go (pc' := 52) hM_239 d_239_84 (by decide) ?_
      exact hk
    exact H
theorem u_239_22 {Q : List am_V → am_M → Prop} {m : am_M} {y : Int} {d : Int}  (H : ((30 ≤ am_s d) → Q [.inl 30] m) ∧ ((¬ (30 ≤ am_s d)) → (MFW (nv (m 54)) m ∧ WFG (m 54)) ∧ (∀ (m1 : am_M), ((∀ j, j < SN (nv (m 54)) → m1 65 j = nv (m 54) (44 + ksp (nv (m 54)) j)) ∧ ∀ a, a ≠ 65 → m1 a = m a) → (MFW (nv (m1 54)) m1 ∧ (∀ j, j < SN (nv (m1 54)) → 0 ≤ m1 65 j ∧ m1 65 j ≤ 99) ∧ CGP (if ¬ am_s d = 0 then 0 else 1) m1) ∧ (∀ (v2 : Int) (m2 : am_M), (m2 = m1 ∧ (v2 = 0 ∨ v2 = 1) ∧ (v2 = 1 ↔ CG (nv (m1 54)) (if ¬ am_s d = 0 then 0 else 1) m1)) → ((¬ am_s v2 = 0) → ok 3 239 52 [some (.inr (.inr (some 53))), some (.inl y), some (.inl d), some (.inl 0), none] [] m2 Q) ∧ ((am_s v2 = 0) → Q [.inl d] m2))))) : ok 3 239 22 [some (.inr (.inr (some 53))), some (.inl y), some (.inl d), none, none] [] m Q := by
  refine ok_sg (pc' := 25) (ls' := [some (.inr (.inr (some 53))), some (.inl y), some (.inl d), none, none]) (st' := [.inl 30, .inl d]) (m' := m) (fun fx hfx o hk => ?_) ?_
  · refine r_ld (pc' := 23) hM_239 d_239_22 rfl rfl ?_
    refine r_k (pc' := 25) (v := .inl 30) hM_239 d_239_23 rfl rfl ?_
    exact hk
  refine ok_ic (pc' := 166) (pc2 := 28) hM_239 d_239_25 (by decide) rfl (fun hz1 => ?_) (fun hz1 => ?_)
  · have H := H.1 hz1
    refine ok_sg (pc' := 168) (ls' := [some (.inr (.inr (some 53))), some (.inl y), some (.inl d), none, none]) (st' := [.inl 30]) (m' := m) (fun fx hfx o hk => ?_) ?_
    · refine r_k (pc' := 168) (v := .inl 30) hM_239 d_239_166 rfl rfl ?_
      exact hk
    exact ok_rt (fun fx _ => rt_i hM_239 d_239_168 rfl) H
  · have H := H.2 hz1
    obtain ⟨hz2, H⟩ := H
    refine ok_sg (pc' := 29) (ls' := [some (.inr (.inr (some 53))), some (.inl y), some (.inl d), none, none]) (st' := [.inr (.inr (some 53))]) (m' := m) (fun fx hfx o hk => ?_) ?_
    · refine r_ld (pc' := 29) hM_239 d_239_28 rfl rfl ?_
      exact hk
    refine ok_cl (pc' := 32) (c := (236, 0)) (a := [.inr (.inr (some 53))]) (q := []) hM_239 d_239_29 rfl (by decide +kernel) hM_236 rfl rfl rfl (Nat.le_of_ble_eq_true rfl) (Nat.le_of_ble_eq_true rfl) (Or.inr rfl) (z_236  m  hz2) (Nat.le_of_ble_eq_true rfl) ?_
    rintro _ m1 ⟨rfl, hz3⟩
    replace H := H  m1 hz3
    show ok 3 239 32 [some (.inr (.inr (some 53))), some (.inl y), some (.inl d), none, none] [] m1 Q
    refine ok_sg (pc' := 34) (ls' := [some (.inr (.inr (some 53))), some (.inl y), some (.inl d), none, none]) (st' := [.inl d, .inr (.inr (some 53))]) (m' := m1) (fun fx hfx o hk => ?_) ?_
    · refine r_ld (pc' := 33) hM_239 d_239_32 rfl rfl ?_
      refine r_ld (pc' := 34) hM_239 d_239_33 rfl rfl ?_
      exact hk
    refine ok_sg (pc' := 42) (ls' := [some (.inr (.inr (some 53))), some (.inl y), some (.inl d), none, none]) (st' := [.inl (if ¬ am_s d = 0 then 0 else 1), .inr (.inr (some 53))]) (m' := m1) (fun fx hfx o K => ?_) ?_
    · refine r_if (pc' := 41) (pc2 := 37) hM_239 d_239_34 (by decide) rfl (fun hz4 => ?_) (fun hz4 => ?_)
      · have hz4 : ¬ am_s d = 0 := hz4
        rw [if_pos hz4] at K
        refine r_k (pc' := 42) (v := .inl 0) hM_239 d_239_41 rfl rfl ?_
        exact K
      · have hz4 : ¬ (¬ am_s d = 0) := hz4
        rw [if_neg hz4] at K
        refine r_k (pc' := 38) (v := .inl 1) hM_239 d_239_37 rfl rfl ?_
        refine r_go (pc' := 42) hM_239 d_239_38 (by decide) ?_
        exact K
    obtain ⟨hz5, H⟩ := H
    refine ok_cl (pc' := 45) (c := (240, 0)) (a := [.inr (.inr (some 53)), .inl (if ¬ am_s d = 0 then 0 else 1)]) (q := []) hM_239 d_239_42 rfl (by decide +kernel) hM_240 rfl rfl rfl (Nat.le_of_ble_eq_true rfl) (Nat.le_of_ble_eq_true rfl) (Or.inr rfl) (z_240  m1 (if ¬ am_s d = 0 then 0 else 1) hz5) (Nat.le_of_ble_eq_true rfl) ?_
    rintro _ m2 ⟨v2, rfl, hz6⟩
    replace H := H v2 m2 hz6
    show ok 3 239 45 [some (.inr (.inr (some 53))), some (.inl y), some (.inl d), none, none] [.inl v2] m2 Q
    refine ok_if (pc' := 50) (pc2 := 48) hM_239 d_239_45 (by decide) rfl (fun hz7 => ?_) (fun hz7 => ?_)
    · have H := H.1 hz7
      refine ok_sg (pc' := 52) (ls' := [some (.inr (.inr (some 53))), some (.inl y), some (.inl d), some (.inl 0), none]) (st' := []) (m' := m2) (fun fx hfx o hk => ?_) ?_
      · refine r_k (pc' := 51) (v := .inl 0) hM_239 d_239_50 rfl rfl ?_
        refine r_sto (pc' := 52) (ls' := [some (.inr (.inr (some 53))), some (.inl y), some (.inl d), some (.inl 0), none]) hM_239 d_239_51 rfl rfl ?_
        exact hk
      exact H
    · have H := H.2 (Decidable.not_not.mp hz7)
      refine ok_sg (pc' := 49) (ls' := [some (.inr (.inr (some 53))), some (.inl y), some (.inl d), none, none]) (st' := [.inl d]) (m' := m2) (fun fx hfx o hk => ?_) ?_
      · refine r_ld (pc' := 49) hM_239 d_239_48 rfl rfl ?_
        exact hk
      exact ok_rt (fun fx _ => rt_i hM_239 d_239_49 rfl) H
theorem u_239_0 {Q : List am_V → am_M → Prop} {m : am_M}   (H : (WFG ((mu m 53 0 0) 54)) ∧ (∀ (m1 : am_M), ((SN (nv ((mu m 53 0 0) 54)) ≤ 5 → MFW (nv ((mu m 53 0 0) 54)) m1) ∧ (∀ a, a ≠ 53 → a ≠ 63 → a ≠ 64 → m1 a = (mu m 53 0 0) a) ∧ ∀ k, k ≠ 27 → m1 53 k = (mu m 53 0 0) 53 k) → ((SN (nv ((mu m 53 0 0) 54)) ≤ 5) → (0 ≤ m1 53 27 ∧ m1 53 27 ≤ 5) ∧ (∀ (m2 : am_M), (m2 = m1) → ok 3 239 22 [some (.inr (.inr (some 53))), some (.inl ((7 ^ (m1 53 27).toNat : Nat) : Int)), some (.inl 0), none, none] [] m2 Q)) ∧ ((¬ (SN (nv ((mu m 53 0 0) 54)) ≤ 5)) → Q [.inl (-4)] m1))) : ok 3 239 0 [some (.inr (.inr (some 53))), none, none, none, none] [] m Q := by
  obtain ⟨hz1, H⟩ := H
  refine ok_sg (pc' := 6) (ls' := [some (.inr (.inr (some 53))), none, none, none, none]) (st' := [.inr (.inr (some 53))]) (m' := mu m 53 0 0) (fun fx hfx o hk => ?_) ?_
  · refine r_ld (pc' := 1) hM_239 d_239_0 rfl rfl ?_
    refine r_k (pc' := 2) (v := .inl 0) hM_239 d_239_1 rfl rfl ?_
    refine r_pI (pc' := 5) (k0 := 0) hM_239 d_239_2 rfl (by decide +kernel) ?_
    refine r_ld (pc' := 6) hM_239 d_239_5 rfl rfl ?_
    exact hk
  refine ok_cl (pc' := 9) (c := (230, 0)) (a := [.inr (.inr (some 53))]) (q := []) hM_239 d_239_6 rfl (by decide +kernel) hM_230 rfl rfl rfl (Nat.le_of_ble_eq_true rfl) (Nat.le_of_ble_eq_true rfl) (Or.inr rfl) (z_230  (mu m 53 0 0)  hz1) (Nat.le_of_ble_eq_true rfl) ?_
  rintro _ m1 ⟨rfl, hz2⟩
  replace H := H  m1 hz2
  show ok 3 239 9 [some (.inr (.inr (some 53))), none, none, none, none] [.inl (if SN (nv ((mu m 53 0 0) 54)) ≤ 5 then 1 else 0)] m1 Q
  refine ok_if (pc' := 15) (pc2 := 12) hM_239 d_239_9 (by decide) rfl (fun hz3 => ?_) (fun hz3 => ?_)
  · have H := H.1 (as_iteN.mp hz3)
    obtain ⟨hz4, H⟩ := H
    refine ok_sg (pc' := 16) (ls' := [some (.inr (.inr (some 53))), none, none, none, none]) (st' := [.inr (.inr (some 53))]) (m' := m1) (fun fx hfx o hk => ?_) ?_
    · refine r_ld (pc' := 16) hM_239 d_239_15 rfl rfl ?_
      exact hk
    refine ok_cl (pc' := 19) (c := (232, 0)) (a := [.inr (.inr (some 53))]) (q := []) hM_239 d_239_16 rfl (by decide +kernel) hM_232 rfl rfl rfl (Nat.le_of_ble_eq_true rfl) (Nat.le_of_ble_eq_true rfl) (Or.inr rfl) (z_232  m1  hz4) (Nat.le_of_ble_eq_true rfl) ?_
    rintro _ m2 ⟨rfl, hz5⟩
    replace H := H  m2 hz5
    show ok 3 239 19 [some (.inr (.inr (some 53))), none, none, none, none] [.inl ((7 ^ (m1 53 27).toNat : Nat) : Int)] m2 Q
    refine ok_sg (pc' := 22) (ls' := [some (.inr (.inr (some 53))), some (.inl ((7 ^ (m1 53 27).toNat : Nat) : Int)), some (.inl 0), none, none]) (st' := []) (m' := m2) (fun fx hfx o hk => ?_) ?_
    · refine r_sto (pc' := 20) (ls' := [some (.inr (.inr (some 53))), some (.inl ((7 ^ (m1 53 27).toNat : Nat) : Int)), none, none, none]) hM_239 d_239_19 rfl rfl ?_
      refine r_k (pc' := 21) (v := .inl 0) hM_239 d_239_20 rfl rfl ?_
      refine r_sto (pc' := 22) (ls' := [some (.inr (.inr (some 53))), some (.inl ((7 ^ (m1 53 27).toNat : Nat) : Int)), some (.inl 0), none, none]) hM_239 d_239_21 rfl rfl ?_
      exact hk
    exact H
  · have H := H.2 (as_ite.mp (Decidable.not_not.mp hz3))
    refine ok_sg (pc' := 14) (ls' := [some (.inr (.inr (some 53))), none, none, none, none]) (st' := [.inl (-4)]) (m' := m1) (fun fx hfx o hk => ?_) ?_
    · refine r_k (pc' := 14) (v := .inl (-4)) hM_239 d_239_12 rfl rfl ?_
      exact hk
    exact ok_rt (fun fx _ => rt_i hM_239 d_239_14 rfl) H
