theorem z_249 (m : am_M) (p u x : Int) (hq : DPR m (m 54 0).toNat p u x) : ok 17 249 0 (am_ent 6 [.inr (.inr (some 53)), .inl p, .inl u, .inl x]) [] m (fun rr m' => rr = [] ∧ (DFR m m' p ∧ DPS (nv (m 54)) m m' p.toNat (SI (nv (m 54)) u.toNat) (LI (nv (m 54)) m p.toNat) x)) := by
  have hN := hq.1.1.1
  exact (dfs (nv (m 54)) _ m p u x rfl hq).mono (by omega)
theorem u_248_0 {Q : List am_V → am_M → Prop} {m : am_M} {w : Int}  (H : ((am_s w = 0) → (WFG ((mu m 53 0 0) 54)) ∧ ((0 ≤ (am_s (((brl (nv ((mu m 53 0 0) 54)) : Nat) : Int))) ∧ (am_s (((brl (nv ((mu m 53 0 0) 54)) : Nat) : Int))) < 2147483648) ∧ (((am_s (((cnt (am_s (((brl (nv ((mu m 53 0 0) 54)) : Nat) : Int))).toNat 12 : Nat) : Int)) ≤ 8) → (DPR (mu (mu (mu m 53 0 0) 53 36 0) 53 35 (-1)) ((mu (mu (mu m 53 0 0) 53 36 0) 53 35 (-1)) 54 0).toNat (0 : Int) (0 : Int) (1000 : Int)) ∧ (∀ (m1 : am_M), (DFR (mu (mu (mu m 53 0 0) 53 36 0) 53 35 (-1)) m1 0 ∧ DPS (nv ((mu (mu (mu m 53 0 0) 53 36 0) 53 35 (-1)) 54)) (mu (mu (mu m 53 0 0) 53 36 0) 53 35 (-1)) m1 (0 : Int).toNat (SI (nv ((mu (mu (mu m 53 0 0) 53 36 0) 53 35 (-1)) 54)) (0 : Int).toNat) (LI (nv ((mu (mu (mu m 53 0 0) 53 36 0) 53 35 (-1)) 54)) (mu (mu (mu m 53 0 0) 53 36 0) 53 35 (-1)) (0 : Int).toNat) 1000) → ∀ y1 : Int, y1 = (if ¬ am_s (m1 53 35) = 1000 then (m1 53 35) else (-1)) → Q [.inl y1] m1)) ∧ ((¬ (am_s (((cnt (am_s (((brl (nv ((mu m 53 0 0) 54)) : Nat) : Int))).toNat 12 : Nat) : Int)) ≤ 8)) → Q [.inl (-4)] (mu m 53 0 0))))) ∧ ((¬ (am_s w = 0)) → ((am_t 10 ≤ am_t (am_s w) ∧ am_t (am_s w) ≤ am_t (am_s (9 + (m 54 0)))) → (WFG ((mu m 53 0 0) 54)) ∧ ((0 ≤ (am_s (((brl (nv ((mu m 53 0 0) 54)) : Nat) : Int))) ∧ (am_s (((brl (nv ((mu m 53 0 0) 54)) : Nat) : Int))) < 2147483648) ∧ (((am_s (((cnt (am_s (((brl (nv ((mu m 53 0 0) 54)) : Nat) : Int))).toNat 12 : Nat) : Int)) ≤ 8) → (DPR (mu (mu (mu m 53 0 0) 53 36 0) 53 35 (-1)) ((mu (mu (mu m 53 0 0) 53 36 0) 53 35 (-1)) 54 0).toNat (0 : Int) (0 : Int) (1000 : Int)) ∧ (∀ (m2 : am_M), (DFR (mu (mu (mu m 53 0 0) 53 36 0) 53 35 (-1)) m2 0 ∧ DPS (nv ((mu (mu (mu m 53 0 0) 53 36 0) 53 35 (-1)) 54)) (mu (mu (mu m 53 0 0) 53 36 0) 53 35 (-1)) m2 (0 : Int).toNat (SI (nv ((mu (mu (mu m 53 0 0) 53 36 0) 53 35 (-1)) 54)) (0 : Int).toNat) (LI (nv ((mu (mu (mu m 53 0 0) 53 36 0) 53 35 (-1)) 54)) (mu (mu (mu m 53 0 0) 53 36 0) 53 35 (-1)) (0 : Int).toNat) 1000) → (0 ≤ am_s (w - 10) ∧ am_s (w - 10) < (12 : Nat)) ∧ (Q [.inl (m2 72 ((am_s (w - 10)).toNat))] m2))) ∧ ((¬ (am_s (((cnt (am_s (((brl (nv ((mu m 53 0 0) 54)) : Nat) : Int))).toNat 12 : Nat) : Int)) ≤ 8)) → Q [.inl (-4)] (mu m 53 0 0))))) ∧ ((¬ (am_t 10 ≤ am_t (am_s w) ∧ am_t (am_s w) ≤ am_t (am_s (9 + (m 54 0))))) → Q [.inl (-2)] (mu m 53 0 0)))) : ok 18 248 0 [some (.inr (.inr (some 53))), some (.inl w)] [] m Q := by
  refine ok_sg (pc' := 6) (ls' := [some (.inr (.inr (some 53))), some (.inl w)]) (st' := [.inl w]) (m' := mu m 53 0 0) (fun fx hfx o hk => ?_) ?_
  · refine r_ld (pc' := 1) hM_248 d_248_0 rfl rfl ?_
    refine r_k (pc' := 2) (v := .inl 0) hM_248 d_248_1 rfl rfl ?_
    refine r_pI (pc' := 5) (k0 := 0) hM_248 d_248_2 rfl (by decide +kernel) ?_
    refine r_ld (pc' := 6) hM_248 d_248_5 rfl rfl ?_
    exact hk
  refine ok_if (pc' := 33) (pc2 := 9) hM_248 d_248_6 (by decide) rfl (fun hz1 => ?_) (fun hz1 => ?_)
  · have H := H.1 hz1
    obtain ⟨hz2, H⟩ := H
    obtain ⟨hz3, H⟩ := H
    refine ok_sg (pc' := 43) (ls' := [some (.inr (.inr (some 53))), some (.inl w)]) (st' := [.inl 8, .inl (((cnt (am_s (((brl (nv ((mu m 53 0 0) 54)) : Nat) : Int))).toNat 12 : Nat) : Int))]) (m' := mu m 53 0 0) (fun fx hfx o hk => ?_) ?_
    · refine r_ld (pc' := 34) hM_248 d_248_33 rfl rfl ?_
      refine r_cl (pc' := 37) (c := (191, 0)) (a := [.inr (.inr (some 53))]) (q := []) hM_248 d_248_34 rfl (by decide +kernel) hM_191 rfl rfl rfl (Nat.le_of_ble_eq_true rfl) (Nat.le_of_ble_eq_true rfl) (Or.inr rfl) (n_191  (mu m 53 0 0)  hz2) (Nat.le_of_ble_eq_true rfl) ?_
      show rn fx 18 (0, 0) 248 37 [some (.inr (.inr (some 53))), some (.inl w)] [.inl (((brl (nv ((mu m 53 0 0) 54)) : Nat) : Int))] (st0 (mu m 53 0 0)) o
      refine r_stk (pc' := 38) (st' := [.inr (.inl (am_s (((brl (nv ((mu m 53 0 0) 54)) : Nat) : Int))))]) hM_248 d_248_37 rfl rfl ?_
      refine r_cl (pc' := 41) (c := (193, 2)) (a := [.inr (.inl (am_s (((brl (nv ((mu m 53 0 0) 54)) : Nat) : Int))))]) (q := []) hM_248 d_248_38 rfl (by decide +kernel) hM_193 rfl rfl rfl (Nat.le_of_ble_eq_true rfl) (Nat.le_of_ble_eq_true rfl) (Or.inl rfl) (c_193  (mu m 53 0 0) (am_s (((brl (nv ((mu m 53 0 0) 54)) : Nat) : Int))) hz3) (Nat.le_of_ble_eq_true rfl) ?_
      show rn fx 18 (0, 0) 248 41 [some (.inr (.inr (some 53))), some (.inl w)] [.inl (((cnt (am_s (((brl (nv ((mu m 53 0 0) 54)) : Nat) : Int))).toNat 12 : Nat) : Int))] (st0 (mu m 53 0 0)) o
      refine r_k (pc' := 43) (v := .inl 8) hM_248 d_248_41 rfl rfl ?_
      exact hk
    refine ok_ic (pc' := 49) (pc2 := 46) hM_248 d_248_43 (by decide) rfl (fun hz4 => ?_) (fun hz4 => ?_)
    · have H := H.1 hz4
      obtain ⟨hz5, H⟩ := H
      refine ok_sg (pc' := 65) (ls' := [some (.inr (.inr (some 53))), some (.inl w)]) (st' := [.inl 1000, .inl 0, .inl 0, .inr (.inr (some 53))]) (m' := mu (mu (mu m 53 0 0) 53 36 0) 53 35 (-1)) (fun fx hfx o hk => ?_) ?_
      · refine r_ld (pc' := 50) hM_248 d_248_49 rfl rfl ?_
        refine r_k (pc' := 51) (v := .inl 0) hM_248 d_248_50 rfl rfl ?_
        refine r_pZ (pc' := 54) (k0 := 36) hM_248 d_248_51 rfl (by decide +kernel) (by decide) ?_
        refine r_ld (pc' := 55) hM_248 d_248_54 rfl rfl ?_
        refine r_k (pc' := 56) (v := .inl (-1)) hM_248 d_248_55 rfl rfl ?_
        refine r_pI (pc' := 59) (k0 := 35) hM_248 d_248_56 rfl (by decide +kernel) ?_
        refine r_ld (pc' := 60) hM_248 d_248_59 rfl rfl ?_
        refine r_k (pc' := 61) (v := .inl 0) hM_248 d_248_60 rfl rfl ?_
        refine r_k (pc' := 62) (v := .inl 0) hM_248 d_248_61 rfl rfl ?_
        refine r_k (pc' := 65) (v := .inl 1000) hM_248 d_248_62 rfl rfl ?_
        exact hk
      refine ok_cl (pc' := 68) (c := (249, 0)) (a := [.inr (.inr (some 53)), .inl 0, .inl 0, .inl 1000]) (q := []) hM_248 d_248_65 rfl (by decide +kernel) hM_249 rfl rfl rfl (Nat.le_of_ble_eq_true rfl) (Nat.le_of_ble_eq_true rfl) (Or.inr rfl) (z_249  (mu (mu (mu m 53 0 0) 53 36 0) 53 35 (-1)) 0 0 1000 hz5) (Nat.le_of_ble_eq_true rfl) ?_
      rintro _ m1 ⟨rfl, hz6⟩
      replace H := H  m1 hz6
      show ok 18 248 68 [some (.inr (.inr (some 53))), some (.inl w)] [] m1 Q
      refine ok_sg (pc' := 79) (ls' := [some (.inr (.inr (some 53))), some (.inl w)]) (st' := [.inl 1000, .inl (m1 53 35)]) (m' := m1) (fun fx hfx o hk => ?_) ?_
      · refine r_ld (pc' := 69) hM_248 d_248_68 rfl rfl ?_
        refine r_if (pc' := 91) (pc2 := 72) hM_248 d_248_69 (by decide) rfl (fun hc => absurd hc (fun q => q hz1)) (fun _ => ?_)
        refine r_ld (pc' := 73) hM_248 d_248_72 rfl rfl ?_
        refine r_gI (pc' := 76) (k0 := 35) hM_248 d_248_73 rfl (by decide +kernel) ?_
        refine r_k (pc' := 79) (v := .inl 1000) hM_248 d_248_76 rfl rfl ?_
        exact hk
      refine ok_sg (pc' := 90) (ls' := [some (.inr (.inr (some 53))), some (.inl w)]) (st' := [.inl (if ¬ am_s (m1 53 35) = 1000 then (m1 53 35) else (-1))]) (m' := m1) (fun fx hfx o K => ?_) ?_
      · refine r_ic (pc' := 86) (pc2 := 82) hM_248 d_248_79 (by decide) rfl (fun hz7 => ?_) (fun hz7 => ?_)
        · have hz7 : ¬ am_s (m1 53 35) = 1000 := hz7
          rw [if_pos hz7] at K
          refine r_ld (pc' := 87) hM_248 d_248_86 rfl rfl ?_
          refine r_gI (pc' := 90) (k0 := 35) hM_248 d_248_87 rfl (by decide +kernel) ?_
          exact K
        · have hz7 : ¬ (¬ am_s (m1 53 35) = 1000) := hz7
          rw [if_neg hz7] at K
          refine r_k (pc' := 83) (v := .inl (-1)) hM_248 d_248_82 rfl rfl ?_
          refine r_go (pc' := 90) hM_248 d_248_83 (by decide) ?_
          exact K
      have K : ∀ y1 : Int, y1 = (if ¬ am_s (m1 53 35) = 1000 then (m1 53 35) else (-1)) → ok 18 248 90 [some (.inr (.inr (some 53))), some (.inl w)] [.inl y1] m1 Q := by
        intro y1 hy1
        replace H := H y1 hy1
        exact ok_rt (fun fx _ => rt_i hM_248 d_248_90 rfl) H
      exact K _ rfl
    · have H := H.2 hz4
      refine ok_sg (pc' := 48) (ls' := [some (.inr (.inr (some 53))), some (.inl w)]) (st' := [.inl (-4)]) (m' := mu m 53 0 0) (fun fx hfx o hk => ?_) ?_
      · refine r_k (pc' := 48) (v := .inl (-4)) hM_248 d_248_46 rfl rfl ?_
        exact hk
      exact ok_rt (fun fx _ => rt_i hM_248 d_248_48 rfl) H
  · have H := H.2 hz1
    refine ok_sg (pc' := 27) (ls' := [some (.inr (.inr (some 53))), some (.inl w)]) (st' := [.inl ((if am_t 10 ≤ am_t (am_s w) ∧ am_t (am_s w) ≤ am_t (am_s (9 + (m 54 0))) then 1 else 0))]) (m' := mu m 53 0 0) (fun fx hfx o hk => ?_) ?_
    · refine r_ld (pc' := 10) hM_248 d_248_9 rfl rfl ?_
      refine r_stk (pc' := 11) (st' := [.inr (.inl (am_s w))]) hM_248 d_248_10 rfl rfl ?_
      refine r_k (pc' := 14) (v := .inr (.inl 10)) hM_248 d_248_11 rfl (by decide +kernel) ?_
      refine r_k (pc' := 16) (v := .inl 9) hM_248 d_248_14 rfl rfl ?_
      refine r_ld (pc' := 17) hM_248 d_248_16 rfl rfl ?_
      refine r_gR (pc' := 20) (v := 54) hM_248 d_248_17 rfl (by decide +kernel) ?_
      refine r_k (pc' := 21) (v := .inl 0) hM_248 d_248_20 rfl rfl ?_
      refine r_iae (pc' := 22) (n := 168) (z := (m 54 0)) hM_248 d_248_21 rfl rfl (by decide) (by rw [show (am_s 0).toNat = 0 by decide]; exact mu_r (by decide)) ?_
      refine r_b (pc' := 23) (z := (9 + (m 54 0))) hM_248 d_248_22 rfl rfl ?_
      refine r_stk (pc' := 24) (st' := [.inr (.inl (am_s (9 + (m 54 0)))), .inr (.inl 10), .inr (.inl (am_s w))]) hM_248 d_248_23 rfl rfl ?_
      refine r_cl (pc' := 27) (c := (167, 2)) (a := [.inr (.inl (am_s w)), .inr (.inl 10), .inr (.inl (am_s (9 + (m 54 0))))]) (q := []) hM_248 d_248_24 rfl (by decide +kernel) hM_167 rfl rfl rfl (Nat.le_of_ble_eq_true rfl) (Nat.le_of_ble_eq_true rfl) (Or.inl rfl) (n_167  (mu m 53 0 0) (am_s w) 10 (am_s (9 + (m 54 0)))) (Nat.le_of_ble_eq_true rfl) ?_
      show rn fx 18 (0, 0) 248 27 [some (.inr (.inr (some 53))), some (.inl w)] [.inl ((if am_t 10 ≤ am_t (am_s w) ∧ am_t (am_s w) ≤ am_t (am_s (9 + (m 54 0))) then 1 else 0))] (st0 (mu m 53 0 0)) o
      exact hk
    refine ok_if (pc' := 33) (pc2 := 30) hM_248 d_248_27 (by decide) rfl (fun hz8 => ?_) (fun hz8 => ?_)
    · have H := H.1 (as_iteN.mp hz8)
      obtain ⟨hz9, H⟩ := H
      obtain ⟨hz10, H⟩ := H
      refine ok_sg (pc' := 43) (ls' := [some (.inr (.inr (some 53))), some (.inl w)]) (st' := [.inl 8, .inl (((cnt (am_s (((brl (nv ((mu m 53 0 0) 54)) : Nat) : Int))).toNat 12 : Nat) : Int))]) (m' := mu m 53 0 0) (fun fx hfx o hk => ?_) ?_
      · refine r_ld (pc' := 34) hM_248 d_248_33 rfl rfl ?_
        refine r_cl (pc' := 37) (c := (191, 0)) (a := [.inr (.inr (some 53))]) (q := []) hM_248 d_248_34 rfl (by decide +kernel) hM_191 rfl rfl rfl (Nat.le_of_ble_eq_true rfl) (Nat.le_of_ble_eq_true rfl) (Or.inr rfl) (n_191  (mu m 53 0 0)  hz9) (Nat.le_of_ble_eq_true rfl) ?_
        show rn fx 18 (0, 0) 248 37 [some (.inr (.inr (some 53))), some (.inl w)] [.inl (((brl (nv ((mu m 53 0 0) 54)) : Nat) : Int))] (st0 (mu m 53 0 0)) o
        refine r_stk (pc' := 38) (st' := [.inr (.inl (am_s (((brl (nv ((mu m 53 0 0) 54)) : Nat) : Int))))]) hM_248 d_248_37 rfl rfl ?_
        refine r_cl (pc' := 41) (c := (193, 2)) (a := [.inr (.inl (am_s (((brl (nv ((mu m 53 0 0) 54)) : Nat) : Int))))]) (q := []) hM_248 d_248_38 rfl (by decide +kernel) hM_193 rfl rfl rfl (Nat.le_of_ble_eq_true rfl) (Nat.le_of_ble_eq_true rfl) (Or.inl rfl) (c_193  (mu m 53 0 0) (am_s (((brl (nv ((mu m 53 0 0) 54)) : Nat) : Int))) hz10) (Nat.le_of_ble_eq_true rfl) ?_
        show rn fx 18 (0, 0) 248 41 [some (.inr (.inr (some 53))), some (.inl w)] [.inl (((cnt (am_s (((brl (nv ((mu m 53 0 0) 54)) : Nat) : Int))).toNat 12 : Nat) : Int))] (st0 (mu m 53 0 0)) o
        refine r_k (pc' := 43) (v := .inl 8) hM_248 d_248_41 rfl rfl ?_
        exact hk
      refine ok_ic (pc' := 49) (pc2 := 46) hM_248 d_248_43 (by decide) rfl (fun hz11 => ?_) (fun hz11 => ?_)
      · have H := H.1 hz11
        obtain ⟨hz12, H⟩ := H
        refine ok_sg (pc' := 65) (ls' := [some (.inr (.inr (some 53))), some (.inl w)]) (st' := [.inl 1000, .inl 0, .inl 0, .inr (.inr (some 53))]) (m' := mu (mu (mu m 53 0 0) 53 36 0) 53 35 (-1)) (fun fx hfx o hk => ?_) ?_
        · refine r_ld (pc' := 50) hM_248 d_248_49 rfl rfl ?_
          refine r_k (pc' := 51) (v := .inl 0) hM_248 d_248_50 rfl rfl ?_
          refine r_pZ (pc' := 54) (k0 := 36) hM_248 d_248_51 rfl (by decide +kernel) (by decide) ?_
          refine r_ld (pc' := 55) hM_248 d_248_54 rfl rfl ?_
          refine r_k (pc' := 56) (v := .inl (-1)) hM_248 d_248_55 rfl rfl ?_
          refine r_pI (pc' := 59) (k0 := 35) hM_248 d_248_56 rfl (by decide +kernel) ?_
          refine r_ld (pc' := 60) hM_248 d_248_59 rfl rfl ?_
          refine r_k (pc' := 61) (v := .inl 0) hM_248 d_248_60 rfl rfl ?_
          refine r_k (pc' := 62) (v := .inl 0) hM_248 d_248_61 rfl rfl ?_
          refine r_k (pc' := 65) (v := .inl 1000) hM_248 d_248_62 rfl rfl ?_
          exact hk
        refine ok_cl (pc' := 68) (c := (249, 0)) (a := [.inr (.inr (some 53)), .inl 0, .inl 0, .inl 1000]) (q := []) hM_248 d_248_65 rfl (by decide +kernel) hM_249 rfl rfl rfl (Nat.le_of_ble_eq_true rfl) (Nat.le_of_ble_eq_true rfl) (Or.inr rfl) (z_249  (mu (mu (mu m 53 0 0) 53 36 0) 53 35 (-1)) 0 0 1000 hz12) (Nat.le_of_ble_eq_true rfl) ?_
        rintro _ m2 ⟨rfl, hz13⟩
        replace H := H  m2 hz13
        show ok 18 248 68 [some (.inr (.inr (some 53))), some (.inl w)] [] m2 Q
        obtain ⟨hz14, H⟩ := H
        refine ok_sg (pc' := 100) (ls' := [some (.inr (.inr (some 53))), some (.inl w)]) (st' := [.inl (m2 72 ((am_s (w - 10)).toNat))]) (m' := m2) (fun fx hfx o hk => ?_) ?_
        · refine r_ld (pc' := 69) hM_248 d_248_68 rfl rfl ?_
          refine r_if (pc' := 91) (pc2 := 72) hM_248 d_248_69 (by decide) rfl (fun _ => ?_) (fun hc => absurd hz1 hc)
          refine r_ld (pc' := 92) hM_248 d_248_91 rfl rfl ?_
          refine r_gR (pc' := 95) (v := 72) hM_248 d_248_92 rfl (by decide +kernel) ?_
          refine r_ld (pc' := 96) hM_248 d_248_95 rfl rfl ?_
          refine r_k (pc' := 98) (v := .inl 10) hM_248 d_248_96 rfl rfl ?_
          refine r_b (pc' := 99) (z := (w - 10)) hM_248 d_248_98 rfl rfl ?_
          refine r_ia (pc' := 100) (n := 12) hM_248 d_248_99 rfl rfl hz14 ?_
          exact hk
        exact ok_rt (fun fx _ => rt_i hM_248 d_248_100 rfl) H
      · have H := H.2 hz11
        refine ok_sg (pc' := 48) (ls' := [some (.inr (.inr (some 53))), some (.inl w)]) (st' := [.inl (-4)]) (m' := mu m 53 0 0) (fun fx hfx o hk => ?_) ?_
        · refine r_k (pc' := 48) (v := .inl (-4)) hM_248 d_248_46 rfl rfl ?_
          exact hk
        exact ok_rt (fun fx _ => rt_i hM_248 d_248_48 rfl) H
    · have H := H.2 (as_ite.mp (Decidable.not_not.mp hz8))
      refine ok_sg (pc' := 32) (ls' := [some (.inr (.inr (some 53))), some (.inl w)]) (st' := [.inl (-2)]) (m' := mu m 53 0 0) (fun fx hfx o hk => ?_) ?_
      · refine r_k (pc' := 32) (v := .inl (-2)) hM_248 d_248_30 rfl rfl ?_
        exact hk
      exact ok_rt (fun fx _ => rt_i hM_248 d_248_32 rfl) H
theorem cnt_cf {S : Nat} : ∀ n, cnt S n = cf (fun i => S.testBit i) n := by
  intro n
  induction n with
  | zero => rfl
  | succ n ih => rw [cnt_s, cf_s, ih]
theorem BN_cnt {g : Nat → Int} (h : WFG g) : cnt (brl g) 12 = BN g := by
  have hN := h.1
  have hb : ∀ i, i < (g 0).toNat → (brl g).testBit i = ngp g i := by
    intro i hi
    apply Bool.eq_iff_iff.mpr
    rw [brl_bit h]
    unfold ngp
    rw [decide_eq_true_eq]
    exact ⟨fun q => q.2, fun q => ⟨by omega, q⟩⟩
  have ho : ∀ i, (g 0).toNat ≤ i → ¬ (brl g).testBit i = true := by
    intro i hi q
    have := ((brl_bit h).mp q).1
    omega
  obtain ⟨d, hd⟩ : ∃ d, 12 = (g 0).toNat + d := ⟨12 - (g 0).toNat, by omega⟩
  rw [cnt_cf, hd, cf_add, cf_none d fun t _ => ho _ (by omega), Nat.add_zero]
  exact cf_congr _ fun t ht => hb t ht
theorem SI_0 {g : Nat → Int} : SI g 0 = 0 := by
  apply Nat.eq_of_testBit_eq
  intro i
  rw [Nat.zero_testBit]
  by_cases hi : i < BN g
  · rw [SI_bit hi, Nat.zero_testBit]
  · exact Nat.testBit_lt_two_pow (Nat.lt_of_lt_of_le SI_lt (Nat.pow_le_pow_right (by decide : 0 < 2) (by omega)))
theorem adj_0 {g : Nat → Int} : adj g 0 = false := decide_eq_false (fun h => absurd h.1 (by decide))
theorem P_apart {m : am_M} {w : Int} (hw0 : am_s w = w) (hI : Inv m) : PK 144 2 248 2 [.inl w] m := by
  have hw := Inv_wf hI
  have hv := Inv_vw hI
  have hwn := WFG_nv hw
  have hN := hw.1
  have hBc := BN_cnt hwn
  have hcl := cnt_le (brl (nv (m 54))) 12
  have hbl := brl_lt (g := nv (m 54)) (nv0_le hw)
  have eb : am_s ((brl (nv (m 54)) : Nat) : Int) = ((brl (nv (m 54)) : Nat) : Int) := am_s_id (by omega) (by omega)
  have ec : am_s ((cnt (brl (nv (m 54))) 12 : Nat) : Int) = ((cnt (brl (nv (m 54))) 12 : Nat) : Int) := am_s_id (by omega) (by omega)
  have eN10 : am_s (10 + m 54 0) = 10 + m 54 0 := am_s_id (by omega) (by omega)
  have eN9 : am_s (9 + m 54 0) = 9 + m 54 0 := am_s_id (by omega) (by omega)
  have tN9 : am_t (9 + m 54 0) = 9 + m 54 0 := t32 eN9
  have hkp : ∀ (m1 m2 : am_M), (∀ a k, a ≠ 50 → a ≠ 51 → ¬ (a = 49 ∧ k = 4) → m1 a k = m a k) → (∀ a, a ≠ 52 → m2 a = m1 a) → kpC m m2 := fun m1 m2 h1 h2 a k hc => by
    unfold core at hc
    rw [h2 a (by omega), h1 a k (by omega) (by omega) (by omega)]
  have hvw : ∀ m1 : am_M, (∀ a k, a ≠ 50 → a ≠ 51 → ¬ (a = 49 ∧ k = 4) → m1 a k = m a k) → nv (vw m1 2) = nv (m 54) := fun m1 h1 => by
    rw [← Inv_nv hI]
    congr 1
    exact vw_same fun a k q1 q2 => h1 a k (by omega) (by omega) (by omega)
  by_cases c1 : w = 0 ∨ (10 ≤ w ∧ w < 10 + m 54 0)
  · by_cases c2 : BN (nv (m 54)) ≤ 8
    · refine PK_2 (h1 := 5) (h2 := 18) (v := .inl (if w = 0 then (if 1000 ≤ apg (nv (m 54)) then -1 else apg (nv (m 54))) else apw (nv (m 54)) (apg (nv (m 54))) (w - 10).toNat)) (R := fun m1 => kpC m m1) ?_ ?_ (by decide) (by decide)
      · refine u_144_0 ?_
        rw [hw0, Inv_nv hI, Inv_N hI, eN10]
        refine ⟨fun q => ⟨hv, fun m1 h1 => ⟨fun _ => ⟨h1.1 c2, fun m2 h2 => ⟨?_, hkp m1 m2 h1.2 h2⟩⟩, fun q2 => absurd c2 q2⟩⟩, fun q => ⟨fun q2 => by omega, fun _ => ⟨fun _ => ⟨hv, fun m1 h1 => ⟨fun _ => ⟨⟨h1.1 c2, by omega, ?_⟩, fun m2 h2 => ⟨?_, hkp m1 m2 h1.2 h2⟩⟩, fun q2 => absurd c2 q2⟩⟩, fun q2 => by omega⟩⟩⟩
        · rw [if_pos q, hvw m1 h1.2]
        · rw [h1.2 2 4 (by decide) (by decide) (by omega), Inv_N hI]
          omega
        · rw [if_neg q, hvw m1 h1.2]
      · intro m1 hk
        obtain ⟨w1, w2, w3, w4, w5, w6, w7⟩ := mod_pre (a := 0) hI hk
        have w54 : (mu m1 53 0 0) 54 = m 54 := kpC_f w7 (by omega)
        have e10 : m1 54 0 = m 54 0 := hk 54 0 (by unfold core; omega)
        have w354 : (mu (mu (mu m1 53 0 0) 53 36 0) 53 35 (-1)) 54 = m 54 := by rw [mu_rf (by decide), mu_rf (by decide), w54]
        have h36 : (mu (mu (mu m1 53 0 0) 53 36 0) 53 35 (-1)) 53 36 = 0 := by rw [mu_k (by decide), mu_same]
        have hpre : DPR (mu (mu (mu m1 53 0 0) 53 36 0) 53 35 (-1)) ((mu (mu (mu m1 53 0 0) 53 36 0) 53 35 (-1)) 54 0).toNat (0 : Int) (0 : Int) (1000 : Int) := by
          unfold DPR
          rw [w354, h36, show (0 : Int).toNat = 0 from rfl, SI_0]
          exact ⟨⟨hw, c2⟩, by omega, by omega, rfl, by omega, Or.inl rfl, fun q h => by omega⟩
        have hapr := DD_rng (A := adj (nv (m 54))) (τ := tau (nv (m 54))) (B := BN (nv (m 54))) (BN (nv (m 54))) 0 0
        have main : ∀ m4 : am_M, (DFR (mu (mu (mu m1 53 0 0) 53 36 0) 53 35 (-1)) m4 0 ∧ DPS (nv ((mu (mu (mu m1 53 0 0) 53 36 0) 53 35 (-1)) 54)) (mu (mu (mu m1 53 0 0) 53 36 0) 53 35 (-1)) m4 (0 : Int).toNat (SI (nv ((mu (mu (mu m1 53 0 0) 53 36 0) 53 35 (-1)) 54)) (0 : Int).toNat) (LI (nv ((mu (mu (mu m1 53 0 0) 53 36 0) 53 35 (-1)) 54)) (mu (mu (mu m1 53 0 0) 53 36 0) 53 35 (-1)) (0 : Int).toNat) 1000) → m4 53 35 = apg (nv (m 54)) ∧ (∀ q : Nat, (q : Int) < m 54 0 → m4 72 q = apw (nv (m 54)) (apg (nv (m 54))) q) ∧ Inv m4 := by
          rintro m4 ⟨k1, k2⟩
          rw [w354, show (0 : Int).toNat = 0 from rfl, SI_0] at k2
          generalize LI (nv (m 54)) (mu (mu (mu m1 53 0 0) 53 36 0) 53 35 (-1)) 0 = L at k2
          unfold DPS at k2
          have hz : cf (ngp (nv (m 54))) 0 = 0 := rfl
          have hDD : DD (adj (nv (m 54))) (tau (nv (m 54))) (BN (nv (m 54))) (BN (nv (m 54))) 0 L = apg (nv (m 54)) := DD_L (Or.inr (by rw [Nat.sub_self]; exact adj_0))
          have hW : min (1000 : Int) (apg (nv (m 54))) = apg (nv (m 54)) := by
            have : apg (nv (m 54)) ≤ 1000 := hapr.2
            omega
          rw [hz, Nat.sub_zero, hDD, hW, h36] at k2
          have hI4 : Inv m4 := Inv_kpC (fun a k hc => by
            unfold core at hc
            rw [k1.1 a k (by omega) (by omega) (by omega), mu_o (by omega), mu_o (by omega)]) w6
          rcases k2 with ⟨d1, -⟩ | ⟨-, d2, d3, d4, d5⟩
          · exact absurd d1 (by decide)
          · refine ⟨d3, fun q hq => ?_, hI4⟩
            rw [d5 q (Nat.zero_le _) (by rw [nv0]; exact hq)]
            unfold apw
            by_cases hn : ngp (nv (m 54)) q = true
            · rw [if_pos hn, if_pos hn, Nat.sub_zero, sq_L (l' := 0) adj_0]
            · rw [if_neg hn, if_neg hn]
        have hap1 : am_s (apg (nv (m 54))) = apg (nv (m 54)) := am_s_id (by have := hapr.1; unfold apg; omega) (by have := hapr.2; unfold apg; omega)
        have hap2 : apg (nv (m 54)) ≤ 1000 := hapr.2
        refine u_248_0 ?_
        rw [w54, eb, Int.toNat_natCast, ec, hw0, e10, eN9, tN9, t32 hw0, show am_t 10 = 10 from rfl]
        refine ⟨fun q => ⟨hw, by omega, fun _ => ⟨hpre, fun m4 h4 y hy => ?_⟩, fun q2 => by omega⟩, fun q => ⟨fun _ => ⟨hw, by omega, fun _ => ⟨hpre, fun m4 h4 => ?_⟩, fun q2 => by omega⟩, fun q2 => by omega⟩⟩
        · obtain ⟨x1, x2, x3⟩ := main m4 h4
          refine ⟨?_, x3⟩
          rw [x1, hap1] at hy
          rw [hy, if_pos q]
          by_cases h1 : apg (nv (m 54)) = 1000
          · rw [if_neg (not_not_intro h1), if_pos (by omega)]
          · rw [if_pos h1, if_neg (by omega)]
        · obtain ⟨x1, x2, x3⟩ := main m4 h4
          rw [am_s_id (z := w - 10) (by omega) (by omega), x2 (w - 10).toNat (by omega)]
          exact ⟨by omega, by rw [if_neg q], x3⟩
    · refine PK_2 (h1 := 5) (h2 := 18) (v := .inl (-4)) (R := fun m1 => kpC m m1) ?_ ?_ (by decide) (by decide)
      · refine u_144_0 ?_
        rw [hw0, Inv_nv hI, Inv_N hI, eN10]
        exact ⟨fun q => ⟨hv, fun m1 h1 => ⟨fun q2 => absurd q2 c2, fun _ => ⟨rfl, hkp m1 m1 h1.2 (fun _ _ => rfl)⟩⟩⟩, fun q => ⟨fun q2 => by omega, fun _ => ⟨fun _ => ⟨hv, fun m1 h1 => ⟨fun q2 => absurd q2 c2, fun _ => ⟨rfl, hkp m1 m1 h1.2 (fun _ _ => rfl)⟩⟩⟩, fun q2 => by omega⟩⟩⟩
      · intro m1 hk
        obtain ⟨w1, w2, w3, w4, w5, w6, w7⟩ := mod_pre (a := 0) hI hk
        have w54 : (mu m1 53 0 0) 54 = m 54 := kpC_f w7 (by omega)
        have e10 : m1 54 0 = m 54 0 := hk 54 0 (by unfold core; omega)
        refine u_248_0 ?_
        rw [w54, eb, Int.toNat_natCast, ec, hw0, e10, eN9, tN9, t32 hw0, show am_t 10 = 10 from rfl]
        exact ⟨fun q => ⟨hw, by omega, fun q2 => by omega, fun _ => ⟨rfl, w6⟩⟩, fun q => ⟨fun _ => ⟨hw, by omega, fun q2 => by omega, fun _ => ⟨rfl, w6⟩⟩, fun q2 => by omega⟩⟩
  · refine PK_2 (h1 := 5) (h2 := 18) (v := .inl (-2)) (R := fun m1 => m = m1) ?_ ?_ (by decide) (by decide)
    · refine u_144_0 ?_
      rw [hw0, Inv_N hI, eN10]
      exact ⟨fun q => by omega, fun _ => ⟨fun _ => ⟨rfl, rfl⟩, fun _ => ⟨fun q => by omega, fun _ => ⟨rfl, rfl⟩⟩⟩⟩
    · rintro _ rfl
      refine u_248_0 ?_
      rw [hw0, eN9, tN9, t32 hw0, show am_t 10 = 10 from rfl]
      exact ⟨fun q => by omega, fun _ => ⟨fun q => by omega, fun _ => ⟨rfl, Inv_t hI⟩⟩⟩
