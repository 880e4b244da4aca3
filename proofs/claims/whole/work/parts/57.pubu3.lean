theorem z_55 {s : Nat} {r : Nat} (h_s : s ∈ shL) (h_r : r ∈ rowL) (m : am_M) (hq : (WFG (vw m s) ∧ m s 11 ≤ 9999) ∧ RWC m r ∧ 0 ≤ m r 2) : ok 3 55 0 (am_ent 3 [.inr (.inr (some s)), .inr (.inr (some r))]) [] m (fun q m' => q = [.inl (((dlen (m (r + 1)) (nv (vw m s)) (m r 2).toNat : Nat) : Int))] ∧ Q_55 m s r m') := by
  obtain ⟨m', h1, h2⟩ := x_55 h_s h_r m hq
  exact ⟨_, m', ⟨rfl, h1⟩, fun fx _ => h2 fx⟩
theorem z_64 {r : Nat} (h_r : r ∈ rowL) (m : am_M) (z : Int) (hq : (WFG (vw m 2) ∧ m 2 11 ≤ 9999) ∧ (RWC m r ∧ 0 ≤ m r 2) ∧ (0 ≤ z ∧ z < 40) ∧ ∀ i, i < (m r 2).toNat → 0 ≤ m (r + 1) i ∧ m (r + 1) i < 4096) : ok 2 64 0 (am_ent 4 [.inr (.inr (some 0)), .inr (.inr (some r)), .inl z]) [] m (fun q m' => q = [.inl (((ons (dwo (m (r + 1)) (nv (vw m 2)) z.toNat (m r 2).toNat) 1 : Nat) : Int))] ∧ Q_64 m r z m') := by
  obtain ⟨m', h1, h2⟩ := x_64 h_r m z hq
  exact ⟨_, m', ⟨rfl, h1⟩, fun fx _ => h2 fx⟩
theorem z_199 (m : am_M) (row : Int) (hq : (WFG (m 54) ∧ m 54 1 ≤ 9999) ∧ RWM m ∧ 0 ≤ row ∧ row < 4) : ok 3 199 0 (am_ent 3 [.inr (.inr (some 53)), .inl row]) [] m (fun q m' => q = [.inl ((dlen (rwf m row.toNat) (nv (m 54)) (m 74 row.toNat).toNat : Nat) : Int)] ∧ Q_199 m row m') := by
  obtain ⟨m', h1, h2⟩ := x_199 m row hq
  exact ⟨_, m', ⟨rfl, h1⟩, fun fx _ => h2 fx⟩
theorem u_58_0 {Q : List am_V → am_M → Prop} {m : am_M} {a : Int}  (H : (RWS m) ∧ (((am_s ((rfu m (am_s a))) = 0) → (0 ≤ am_s a ∧ am_s a < (4 : Nat)) ∧ (((WFG (vw m 2) ∧ m 2 11 ≤ 9999) ∧ RWC m (25 + 2 * (am_s a).toNat) ∧ 0 ≤ m (25 + 2 * (am_s a).toNat) 2) ∧ (∀ (m1 : am_M), (Q_55 m 2 (25 + 2 * (am_s a).toNat) m1) → Q [.inl (((dlen (m ((25 + 2 * (am_s a).toNat) + 1)) (nv (vw m 2)) (m (25 + 2 * (am_s a).toNat) 2).toNat : Nat) : Int))] m1))) ∧ ((¬ (am_s ((rfu m (am_s a))) = 0)) → Q [.inl ((rfu m (am_s a)))] m))) : ok 4 58 0 [some (.inr (.inr (some 0))), some (.inl a), none] [] m Q := by
  obtain ⟨hz1, H⟩ := H
  refine ok_sg (pc' := 7) (ls' := [some (.inr (.inr (some 0))), some (.inl a), some (.inl ((rfu m (am_s a))))]) (st' := [.inl ((rfu m (am_s a)))]) (m' := m) (fun fx hfx o hk => ?_) ?_
  · refine r_ld (pc' := 1) hM_58 d_58_0 rfl rfl ?_
    refine r_ld (pc' := 2) hM_58 d_58_1 rfl rfl ?_
    refine r_cl (pc' := 5) (c := (59, 0)) (a := [.inr (.inr (some 0)), .inl a]) (q := []) hM_58 d_58_2 rfl (by decide +kernel) hM_59 rfl rfl rfl (Nat.le_of_ble_eq_true rfl) (Nat.le_of_ble_eq_true rfl) (Or.inr rfl) (n_59  m a hz1) (Nat.le_of_ble_eq_true rfl) ?_
    show rn fx 4 (0, 0) 58 5 [some (.inr (.inr (some 0))), some (.inl a), none] [.inl ((rfu m (am_s a)))] (st0 m) o
    refine r_sto (pc' := 6) (ls' := [some (.inr (.inr (some 0))), some (.inl a), some (.inl ((rfu m (am_s a))))]) hM_58 d_58_5 rfl rfl ?_
    refine r_ld (pc' := 7) hM_58 d_58_6 rfl rfl ?_
    exact hk
  refine ok_if (pc' := 14) (pc2 := 10) hM_58 d_58_7 (by decide) rfl (fun hz2 => ?_) (fun hz2 => ?_)
  · have H := H.1 hz2
    obtain ⟨hz3, H⟩ := H
    obtain ⟨hz4, H⟩ := H
    refine ok_sg (pc' := 24) (ls' := [some (.inr (.inr (some 0))), some (.inl a), some (.inl ((rfu m (am_s a))))]) (st' := [.inr (.inr (some (25 + 2 * (am_s a).toNat))), .inr (.inr (some 2))]) (m' := m) (fun fx hfx o hk => ?_) ?_
    · refine r_ld (pc' := 15) hM_58 d_58_14 rfl rfl ?_
      refine r_gR (pc' := 18) (v := 2) hM_58 d_58_15 rfl (by decide +kernel) ?_
      refine r_ld (pc' := 19) hM_58 d_58_18 rfl rfl ?_
      refine r_gR (pc' := 22) (v := 14) hM_58 d_58_19 rfl (by decide +kernel) ?_
      refine r_ld (pc' := 23) hM_58 d_58_22 rfl rfl ?_
      refine r_aa (pc' := 24) (n := 4) hM_58 d_58_23 rfl rfl (by decide) hz3 (rfRows hz3).1 (shRk (rfRows hz3).2).1 ?_
      exact hk
    refine ok_cl (pc' := 27) (c := (55, 2)) (a := [.inr (.inr (some 2)), .inr (.inr (some (25 + 2 * (am_s a).toNat)))]) (q := []) hM_58 d_58_24 rfl (by decide +kernel) hM_55 rfl rfl rfl (Nat.le_of_ble_eq_true rfl) (Nat.le_of_ble_eq_true rfl) (Or.inl rfl) (z_55 (by decide) ((rfRows hz3).2) m  hz4) (Nat.le_of_ble_eq_true rfl) ?_
    rintro _ m1 ⟨rfl, hz5⟩
    replace H := H  m1 hz5
    show ok 4 58 27 [some (.inr (.inr (some 0))), some (.inl a), some (.inl ((rfu m (am_s a))))] [.inl (((dlen (m ((25 + 2 * (am_s a).toNat) + 1)) (nv (vw m 2)) (m (25 + 2 * (am_s a).toNat) 2).toNat : Nat) : Int))] m1 Q
    exact ok_rt (fun fx _ => rt_i hM_58 d_58_27 rfl) H
  · have H := H.2 hz2
    refine ok_sg (pc' := 27) (ls' := [some (.inr (.inr (some 0))), some (.inl a), some (.inl ((rfu m (am_s a))))]) (st' := [.inl ((rfu m (am_s a)))]) (m' := m) (fun fx hfx o hk => ?_) ?_
    · refine r_ld (pc' := 11) hM_58 d_58_10 rfl rfl ?_
      refine r_go (pc' := 27) hM_58 d_58_11 (by decide) ?_
      exact hk
    exact ok_rt (fun fx _ => rt_i hM_58 d_58_27 rfl) H
theorem u_201_0 {Q : List am_V → am_M → Prop} {m : am_M} {a : Int}  (H : ((0 ≤ am_s a ∧ am_s a ≤ 3) → (0 ≤ am_s a ∧ am_s a < (4 : Nat)) ∧ (((¬ am_s (m 73 ((am_s a).toNat)) = (-1)) → ((WFG ((mu m 53 0 0) 54) ∧ (mu m 53 0 0) 54 1 ≤ 9999) ∧ RWM (mu m 53 0 0) ∧ 0 ≤ a ∧ a < 4) ∧ (∀ (m1 : am_M), (Q_199 (mu m 53 0 0) a m1) → Q [.inl ((dlen (rwf (mu m 53 0 0) a.toNat) (nv ((mu m 53 0 0) 54)) ((mu m 53 0 0) 74 a.toNat).toNat : Nat) : Int)] m1)) ∧ ((am_s (m 73 ((am_s a).toNat)) = (-1)) → Q [.inl (-6)] (mu m 53 0 0)))) ∧ ((¬ (0 ≤ am_s a ∧ am_s a ≤ 3)) → Q [.inl (-2)] (mu m 53 0 0))) : ok 4 201 0 [some (.inr (.inr (some 53))), some (.inl a)] [] m Q := by
  refine ok_sg (pc' := 14) (ls' := [some (.inr (.inr (some 53))), some (.inl a)]) (st' := [.inl (if 0 ≤ am_s a ∧ am_s a ≤ 3 then 1 else 0)]) (m' := mu m 53 0 0) (fun fx hfx o hk => ?_) ?_
  · refine r_ld (pc' := 1) hM_201 d_201_0 rfl rfl ?_
    refine r_k (pc' := 2) (v := .inl 0) hM_201 d_201_1 rfl rfl ?_
    refine r_pI (pc' := 5) (k0 := 0) hM_201 d_201_2 rfl (by decide +kernel) ?_
    refine r_ld (pc' := 6) hM_201 d_201_5 rfl rfl ?_
    refine r_stk (pc' := 7) (st' := [.inr (.inl (am_s a))]) hM_201 d_201_6 rfl rfl ?_
    refine r_k (pc' := 8) (v := .inr (.inl 0)) hM_201 d_201_7 rfl rfl ?_
    refine r_k (pc' := 11) (v := .inr (.inl 3)) hM_201 d_201_8 rfl (by decide +kernel) ?_
    refine r_cl (pc' := 14) (c := (167, 2)) (a := [.inr (.inl (am_s a)), .inr (.inl 0), .inr (.inl 3)]) (q := []) hM_201 d_201_11 rfl (by decide +kernel) hM_167 rfl rfl rfl (Nat.le_of_ble_eq_true rfl) (Nat.le_of_ble_eq_true rfl) (Or.inl rfl) (n_167s (mu m 53 0 0) a 0 3 rfl rfl) (Nat.le_of_ble_eq_true rfl) ?_
    show rn fx 4 (0, 0) 201 14 [some (.inr (.inr (some 53))), some (.inl a)] [.inl (if 0 ≤ am_s a ∧ am_s a ≤ 3 then 1 else 0)] (st0 (mu m 53 0 0)) o
    exact hk
  refine ok_if (pc' := 20) (pc2 := 17) hM_201 d_201_14 (by decide) rfl (fun hz1 => ?_) (fun hz1 => ?_)
  · have H := H.1 (as_iteN.mp hz1)
    obtain ⟨hz2, H⟩ := H
    refine ok_sg (pc' := 27) (ls' := [some (.inr (.inr (some 53))), some (.inl a)]) (st' := [.inl (-1), .inl (m 73 ((am_s a).toNat))]) (m' := mu m 53 0 0) (fun fx hfx o hk => ?_) ?_
    · refine r_ld (pc' := 21) hM_201 d_201_20 rfl rfl ?_
      refine r_gR (pc' := 24) (v := 73) hM_201 d_201_21 rfl (by decide +kernel) ?_
      refine r_ld (pc' := 25) hM_201 d_201_24 rfl rfl ?_
      refine r_iae (pc' := 26) (n := 4) (z := (m 73 ((am_s a).toNat))) hM_201 d_201_25 rfl rfl hz2 (mu_r (by decide)) ?_
      refine r_k (pc' := 27) (v := .inl (-1)) hM_201 d_201_26 rfl rfl ?_
      exact hk
    refine ok_ic (pc' := 35) (pc2 := 30) hM_201 d_201_27 (by decide) rfl (fun hz3 => ?_) (fun hz3 => ?_)
    · have H := H.1 hz3
      obtain ⟨hz4, H⟩ := H
      refine ok_sg (pc' := 37) (ls' := [some (.inr (.inr (some 53))), some (.inl a)]) (st' := [.inl a, .inr (.inr (some 53))]) (m' := mu m 53 0 0) (fun fx hfx o hk => ?_) ?_
      · refine r_ld (pc' := 36) hM_201 d_201_35 rfl rfl ?_
        refine r_ld (pc' := 37) hM_201 d_201_36 rfl rfl ?_
        exact hk
      refine ok_cl (pc' := 40) (c := (199, 0)) (a := [.inr (.inr (some 53)), .inl a]) (q := []) hM_201 d_201_37 rfl (by decide +kernel) hM_199 rfl rfl rfl (Nat.le_of_ble_eq_true rfl) (Nat.le_of_ble_eq_true rfl) (Or.inr rfl) (z_199  (mu m 53 0 0) a hz4) (Nat.le_of_ble_eq_true rfl) ?_
      rintro _ m1 ⟨rfl, hz5⟩
      replace H := H  m1 hz5
      show ok 4 201 40 [some (.inr (.inr (some 53))), some (.inl a)] [.inl ((dlen (rwf (mu m 53 0 0) a.toNat) (nv ((mu m 53 0 0) 54)) ((mu m 53 0 0) 74 a.toNat).toNat : Nat) : Int)] m1 Q
      exact ok_rt (fun fx _ => rt_i hM_201 d_201_40 rfl) H
    · have H := H.2 (Decidable.not_not.mp hz3)
      refine ok_sg (pc' := 40) (ls' := [some (.inr (.inr (some 53))), some (.inl a)]) (st' := [.inl (-6)]) (m' := mu m 53 0 0) (fun fx hfx o hk => ?_) ?_
      · refine r_k (pc' := 32) (v := .inl (-6)) hM_201 d_201_30 rfl rfl ?_
        refine r_go (pc' := 40) hM_201 d_201_32 (by decide) ?_
        exact hk
      exact ok_rt (fun fx _ => rt_i hM_201 d_201_40 rfl) H
  · have H := H.2 (as_ite.mp (Decidable.not_not.mp hz1))
    refine ok_sg (pc' := 19) (ls' := [some (.inr (.inr (some 53))), some (.inl a)]) (st' := [.inl (-2)]) (m' := mu m 53 0 0) (fun fx hfx o hk => ?_) ?_
    · refine r_k (pc' := 19) (v := .inl (-2)) hM_201 d_201_17 rfl rfl ?_
      exact hk
    exact ok_rt (fun fx _ => rt_i hM_201 d_201_19 rfl) H
theorem u_52_0 {Q : List am_V → am_M → Prop} {m : am_M} {r : Int} {a : Int}  (H : ((¬ (0 ≤ am_s r ∧ am_s r < 4)) → Q [.inl (-2)] m) ∧ ((0 ≤ am_s r ∧ am_s r < 4) → ((am_s a < 0) → Q [.inl (-2)] m) ∧ ((¬ (am_s a < 0)) → ((am_s a ≤ 3) → (0 ≤ am_s r ∧ am_s r < (4 : Nat)) ∧ ((RWC m (25 + 2 * (am_s r).toNat)) ∧ (((¬ (m (25 + 2 * (am_s r).toNat) 2 < 0)) → (7 ≠ 2) ∧ (((WFG (vw (tk m 7 2) 7) ∧ (tk m 7 2) 7 11 ≤ 9999) ∧ RWC (tk m 7 2) (25 + 2 * (am_s r).toNat) ∧ 0 ≤ (tk m 7 2) (25 + 2 * (am_s r).toNat) 2) ∧ (∀ (m1 : am_M), (Q_55 (tk m 7 2) 7 (25 + 2 * (am_s r).toNat) m1) → ∀ y1 : Int, y1 = (if ¬ am_s (((dlen ((tk m 7 2) ((25 + 2 * (am_s r).toNat) + 1)) (nv (vw (tk m 7 2) 7)) ((tk m 7 2) (25 + 2 * (am_s r).toNat) 2).toNat : Nat) : Int)) = am_s (m1 (25 + 2 * (am_s r).toNat) 2) then 0 else 1) → ((am_s a = 0) → ∀ y2 : Int, y2 = (if am_s y1 = 0 then (((dlen ((tk m 7 2) ((25 + 2 * (am_s r).toNat) + 1)) (nv (vw (tk m 7 2) 7)) ((tk m 7 2) (25 + 2 * (am_s r).toNat) 2).toNat : Nat) : Int)) else (-1)) → Q [.inl y2] m1) ∧ (((am_s a = 1) → ((am_s y1 = 0) → (RWC m1 (25 + 2 * (am_s r).toNat))) ∧ (((am_s y1 = 0) → ((WFG (vw m1 7) ∧ m1 7 11 ≤ 9999) ∧ am_t ((rat m1 (25 + 2 * (am_s r).toNat) (am_s (((dlen ((tk m 7 2) ((25 + 2 * (am_s r).toNat) + 1)) (nv (vw (tk m 7 2) 7)) ((tk m 7 2) (25 + 2 * (am_s r).toNat) 2).toNat : Nat) : Int))))) = ((rat m1 (25 + 2 * (am_s r).toNat) (am_s (((dlen ((tk m 7 2) ((25 + 2 * (am_s r).toNat) + 1)) (nv (vw (tk m 7 2) 7)) ((tk m 7 2) (25 + 2 * (am_s r).toNat) 2).toNat : Nat) : Int))))))) ∧ (∀ y3 : Int, y3 = (if am_s y1 = 0 then ((rfs (nv (vw m1 7)) ((rat m1 (25 + 2 * (am_s r).toNat) (am_s (((dlen ((tk m 7 2) ((25 + 2 * (am_s r).toNat) + 1)) (nv (vw (tk m 7 2) 7)) ((tk m 7 2) (25 + 2 * (am_s r).toNat) 2).toNat : Nat) : Int))))))) else 0) → Q [.inl y3] m1))) ∧ (((am_s a = 2) → (WFG (vw m1 7)) ∧ (Q [.inl (((ons (nv (vw m1 7)) (am_s 1) : Nat) : Int))] m1)) ∧ (((am_s a < 0 ∨ 2 < am_s a) → (RWC m1 (25 + 2 * (am_s r).toNat) ∧ (0 ≤ (((dlen ((tk m 7 2) ((25 + 2 * (am_s r).toNat) + 1)) (nv (vw (tk m 7 2) 7)) ((tk m 7 2) (25 + 2 * (am_s r).toNat) 2).toNat : Nat) : Int)) ∧ (((dlen ((tk m 7 2) ((25 + 2 * (am_s r).toNat) + 1)) (nv (vw (tk m 7 2) 7)) ((tk m 7 2) (25 + 2 * (am_s r).toNat) 2).toNat : Nat) : Int)) ≤ m1 (25 + 2 * (am_s r).toNat) 2) ∧ ∀ i, i < (((dlen ((tk m 7 2) ((25 + 2 * (am_s r).toNat) + 1)) (nv (vw (tk m 7 2) 7)) ((tk m 7 2) (25 + 2 * (am_s r).toNat) 2).toNat : Nat) : Int)).toNat → 0 ≤ m1 ((25 + 2 * (am_s r).toNat) + 1) i ∧ m1 ((25 + 2 * (am_s r).toNat) + 1) i < 4096) ∧ (Q [.inl ((sm (fun i => ((cnt (m1 ((25 + 2 * (am_s r).toNat) + 1) i).toNat 12 : Nat) : Int)) (((dlen ((tk m 7 2) ((25 + 2 * (am_s r).toNat) + 1)) (nv (vw (tk m 7 2) 7)) ((tk m 7 2) (25 + 2 * (am_s r).toNat) 2).toNat : Nat) : Int)).toNat))] m1)))))))) ∧ ((m (25 + 2 * (am_s r).toNat) 2 < 0) → Q [.inl (-6)] m)))) ∧ ((¬ (am_s a ≤ 3)) → Q [.inl (-2)] m)))) : ok 4 52 0 [some (.inr (.inr (some 0))), some (.inl r), some (.inl a), none, none, none] [] m Q := by
  refine ok_sg (pc' := 4) (ls' := [some (.inr (.inr (some 0))), some (.inl r), some (.inl a), none, none, none]) (st' := [.inl ((if 0 ≤ am_s r ∧ am_s r < 4 then 1 else 0))]) (m' := m) (fun fx hfx o hk => ?_) ?_
  · refine r_ld (pc' := 1) hM_52 d_52_0 rfl rfl ?_
    refine r_cl (pc' := 4) (c := (53, 2)) (a := [.inl r]) (q := []) hM_52 d_52_1 rfl (by decide +kernel) hM_53 rfl rfl rfl (Nat.le_of_ble_eq_true rfl) (Nat.le_of_ble_eq_true rfl) (Or.inl rfl) (n_53  m r) (Nat.le_of_ble_eq_true rfl) ?_
    show rn fx 4 (0, 0) 52 4 [some (.inr (.inr (some 0))), some (.inl r), some (.inl a), none, none, none] [.inl ((if 0 ≤ am_s r ∧ am_s r < 4 then 1 else 0))] (st0 m) o
    exact hk
  refine ok_if (pc' := 16) (pc2 := 7) hM_52 d_52_4 (by decide) rfl (fun hz1 => ?_) (fun hz1 => ?_)
  · have H := H.1 (as_ite.mp hz1)
    refine ok_sg (pc' := 18) (ls' := [some (.inr (.inr (some 0))), some (.inl r), some (.inl a), none, none, none]) (st' := [.inl (-2)]) (m' := m) (fun fx hfx o hk => ?_) ?_
    · refine r_k (pc' := 18) (v := .inl (-2)) hM_52 d_52_16 rfl rfl ?_
      exact hk
    exact ok_rt (fun fx _ => rt_i hM_52 d_52_18 rfl) H
  · have H := H.2 (as_iteN.mp hz1)
    refine ok_sg (pc' := 8) (ls' := [some (.inr (.inr (some 0))), some (.inl r), some (.inl a), none, none, none]) (st' := [.inl a]) (m' := m) (fun fx hfx o hk => ?_) ?_
    · refine r_ld (pc' := 8) hM_52 d_52_7 rfl rfl ?_
      exact hk
    refine ok_if (pc' := 16) (pc2 := 11) hM_52 d_52_8 (by decide) rfl (fun hz2 => ?_) (fun hz2 => ?_)
    · have H := H.1 hz2
      refine ok_sg (pc' := 18) (ls' := [some (.inr (.inr (some 0))), some (.inl r), some (.inl a), none, none, none]) (st' := [.inl (-2)]) (m' := m) (fun fx hfx o hk => ?_) ?_
      · refine r_k (pc' := 18) (v := .inl (-2)) hM_52 d_52_16 rfl rfl ?_
        exact hk
      exact ok_rt (fun fx _ => rt_i hM_52 d_52_18 rfl) H
    · have H := H.2 hz2
      refine ok_sg (pc' := 13) (ls' := [some (.inr (.inr (some 0))), some (.inl r), some (.inl a), none, none, none]) (st' := [.inl 3, .inl a]) (m' := m) (fun fx hfx o hk => ?_) ?_
      · refine r_ld (pc' := 12) hM_52 d_52_11 rfl rfl ?_
        refine r_k (pc' := 13) (v := .inl 3) hM_52 d_52_12 rfl rfl ?_
        exact hk
      refine ok_ic (pc' := 19) (pc2 := 16) hM_52 d_52_13 (by decide) rfl (fun hz3 => ?_) (fun hz3 => ?_)
      · have H := H.1 hz3
        obtain ⟨hz4, H⟩ := H
        obtain ⟨hz5, H⟩ := H
        refine ok_sg (pc' := 30) (ls' := [some (.inr (.inr (some 0))), some (.inl r), some (.inl a), some (.inr (.inr (some (25 + 2 * (am_s r).toNat)))), none, none]) (st' := [.inl ((if m (25 + 2 * (am_s r).toNat) 2 < 0 then 1 else 0))]) (m' := m) (fun fx hfx o hk => ?_) ?_
        · refine r_ld (pc' := 20) hM_52 d_52_19 rfl rfl ?_
          refine r_gR (pc' := 23) (v := 14) hM_52 d_52_20 rfl (by decide +kernel) ?_
          refine r_ld (pc' := 24) hM_52 d_52_23 rfl rfl ?_
          refine r_aa (pc' := 25) (n := 4) hM_52 d_52_24 rfl rfl (by decide) hz4 (rfRows hz4).1 (shRk (rfRows hz4).2).1 ?_
          refine r_sto (pc' := 26) (ls' := [some (.inr (.inr (some 0))), some (.inl r), some (.inl a), some (.inr (.inr (some (25 + 2 * (am_s r).toNat)))), none, none]) hM_52 d_52_25 rfl rfl ?_
          refine r_ld (pc' := 27) hM_52 d_52_26 rfl rfl ?_
          refine r_cl (pc' := 30) (c := (54, 0)) (a := [.inr (.inr (some (25 + 2 * (am_s r).toNat)))]) (q := []) hM_52 d_52_27 rfl (by decide +kernel) hM_54 rfl rfl rfl (Nat.le_of_ble_eq_true rfl) (Nat.le_of_ble_eq_true rfl) (Or.inr (rcvR ((rfRows hz4).2) _)) (n_54 ((rfRows hz4).2) m  hz5) (Nat.le_of_ble_eq_true rfl) ?_
          show rn fx 4 (0, 0) 52 30 [some (.inr (.inr (some 0))), some (.inl r), some (.inl a), some (.inr (.inr (some (25 + 2 * (am_s r).toNat)))), none, none] [.inl ((if m (25 + 2 * (am_s r).toNat) 2 < 0 then 1 else 0))] (st0 m) o
          exact hk
        refine ok_if (pc' := 36) (pc2 := 33) hM_52 d_52_30 (by decide) rfl (fun hz6 => ?_) (fun hz6 => ?_)
        · have H := H.1 (as_ite.mp hz6)
          obtain ⟨hz7, H⟩ := H
          obtain ⟨hz8, H⟩ := H
          refine ok_sg (pc' := 52) (ls' := [some (.inr (.inr (some 0))), some (.inl r), some (.inl a), some (.inr (.inr (some (25 + 2 * (am_s r).toNat)))), none, none]) (st' := [.inr (.inr (some (25 + 2 * (am_s r).toNat))), .inr (.inr (some 7))]) (m' := tk m 7 2) (fun fx hfx o hk => ?_) ?_
          · refine r_ld (pc' := 37) hM_52 d_52_36 rfl rfl ?_
            refine r_gR (pc' := 40) (v := 7) hM_52 d_52_37 rfl (by decide +kernel) ?_
            refine r_ld (pc' := 41) hM_52 d_52_40 rfl rfl ?_
            refine r_gR (pc' := 44) (v := 2) hM_52 d_52_41 rfl (by decide +kernel) ?_
            refine r_cl (pc' := 47) (c := (37, 0)) (a := [.inr (.inr (some 7)), .inr (.inr (some 2))]) (q := []) hM_52 d_52_44 rfl (by decide +kernel) hM_37 rfl rfl rfl (Nat.le_of_ble_eq_true rfl) (Nat.le_of_ble_eq_true rfl) (Or.inr rfl) (c_37 (by decide) (by decide) m  hz7) (Nat.le_of_ble_eq_true rfl) ?_
            show rn fx 4 (0, 0) 52 47 [some (.inr (.inr (some 0))), some (.inl r), some (.inl a), some (.inr (.inr (some (25 + 2 * (am_s r).toNat)))), none, none] [] (st0 (tk m 7 2)) o
            refine r_ld (pc' := 48) hM_52 d_52_47 rfl rfl ?_
            refine r_gR (pc' := 51) (v := 7) hM_52 d_52_48 rfl (by decide +kernel) ?_
            refine r_ld (pc' := 52) hM_52 d_52_51 rfl rfl ?_
            exact hk
          refine ok_cl (pc' := 55) (c := (55, 2)) (a := [.inr (.inr (some 7)), .inr (.inr (some (25 + 2 * (am_s r).toNat)))]) (q := []) hM_52 d_52_52 rfl (by decide +kernel) hM_55 rfl rfl rfl (Nat.le_of_ble_eq_true rfl) (Nat.le_of_ble_eq_true rfl) (Or.inl rfl) (z_55 (by decide) ((rfRows hz4).2) (tk m 7 2)  hz8) (Nat.le_of_ble_eq_true rfl) ?_
          rintro _ m1 ⟨rfl, hz9⟩
          replace H := H  m1 hz9
          show ok 4 52 55 [some (.inr (.inr (some 0))), some (.inl r), some (.inl a), some (.inr (.inr (some (25 + 2 * (am_s r).toNat)))), none, none] [.inl (((dlen ((tk m 7 2) ((25 + 2 * (am_s r).toNat) + 1)) (nv (vw (tk m 7 2) 7)) ((tk m 7 2) (25 + 2 * (am_s r).toNat) 2).toNat : Nat) : Int))] m1 Q
          refine ok_sg (pc' := 63) (ls' := [some (.inr (.inr (some 0))), some (.inl r), some (.inl a), some (.inr (.inr (some (25 + 2 * (am_s r).toNat)))), some (.inl (((dlen ((tk m 7 2) ((25 + 2 * (am_s r).toNat) + 1)) (nv (vw (tk m 7 2) 7)) ((tk m 7 2) (25 + 2 * (am_s r).toNat) 2).toNat : Nat) : Int))), none]) (st' := [.inl (m1 (25 + 2 * (am_s r).toNat) 2), .inl (((dlen ((tk m 7 2) ((25 + 2 * (am_s r).toNat) + 1)) (nv (vw (tk m 7 2) 7)) ((tk m 7 2) (25 + 2 * (am_s r).toNat) 2).toNat : Nat) : Int))]) (m' := m1) (fun fx hfx o hk => ?_) ?_
          · refine r_sto (pc' := 57) (ls' := [some (.inr (.inr (some 0))), some (.inl r), some (.inl a), some (.inr (.inr (some (25 + 2 * (am_s r).toNat)))), some (.inl (((dlen ((tk m 7 2) ((25 + 2 * (am_s r).toNat) + 1)) (nv (vw (tk m 7 2) 7)) ((tk m 7 2) (25 + 2 * (am_s r).toNat) 2).toNat : Nat) : Int))), none]) hM_52 d_52_55 rfl rfl ?_
            refine r_ld (pc' := 59) hM_52 d_52_57 rfl rfl ?_
            refine r_ld (pc' := 60) hM_52 d_52_59 rfl rfl ?_
            refine r_gI (pc' := 63) (k0 := 2) hM_52 d_52_60 rfl (gfR_1_144 ((rfRows hz4).2)) ?_
            exact hk
          refine ok_sg (pc' := 71) (ls' := [some (.inr (.inr (some 0))), some (.inl r), some (.inl a), some (.inr (.inr (some (25 + 2 * (am_s r).toNat)))), some (.inl (((dlen ((tk m 7 2) ((25 + 2 * (am_s r).toNat) + 1)) (nv (vw (tk m 7 2) 7)) ((tk m 7 2) (25 + 2 * (am_s r).toNat) 2).toNat : Nat) : Int))), none]) (st' := [.inl (if ¬ am_s (((dlen ((tk m 7 2) ((25 + 2 * (am_s r).toNat) + 1)) (nv (vw (tk m 7 2) 7)) ((tk m 7 2) (25 + 2 * (am_s r).toNat) 2).toNat : Nat) : Int)) = am_s (m1 (25 + 2 * (am_s r).toNat) 2) then 0 else 1)]) (m' := m1) (fun fx hfx o K => ?_) ?_
          · refine r_ic (pc' := 70) (pc2 := 66) hM_52 d_52_63 (by decide) rfl (fun hz10 => ?_) (fun hz10 => ?_)
            · have hz10 : ¬ am_s (((dlen ((tk m 7 2) ((25 + 2 * (am_s r).toNat) + 1)) (nv (vw (tk m 7 2) 7)) ((tk m 7 2) (25 + 2 * (am_s r).toNat) 2).toNat : Nat) : Int)) = am_s (m1 (25 + 2 * (am_s r).toNat) 2) := hz10
              rw [if_pos hz10] at K
              refine r_k (pc' := 71) (v := .inl 0) hM_52 d_52_70 rfl rfl ?_
              exact K
            · have hz10 : ¬ (¬ am_s (((dlen ((tk m 7 2) ((25 + 2 * (am_s r).toNat) + 1)) (nv (vw (tk m 7 2) 7)) ((tk m 7 2) (25 + 2 * (am_s r).toNat) 2).toNat : Nat) : Int)) = am_s (m1 (25 + 2 * (am_s r).toNat) 2)) := hz10
              rw [if_neg hz10] at K
              refine r_k (pc' := 67) (v := .inl 1) hM_52 d_52_66 rfl rfl ?_
              refine r_go (pc' := 71) hM_52 d_52_67 (by decide) ?_
              exact K
          have K : ∀ y1 : Int, y1 = (if ¬ am_s (((dlen ((tk m 7 2) ((25 + 2 * (am_s r).toNat) + 1)) (nv (vw (tk m 7 2) 7)) ((tk m 7 2) (25 + 2 * (am_s r).toNat) 2).toNat : Nat) : Int)) = am_s (m1 (25 + 2 * (am_s r).toNat) 2) then 0 else 1) → ok 4 52 71 [some (.inr (.inr (some 0))), some (.inl r), some (.inl a), some (.inr (.inr (some (25 + 2 * (am_s r).toNat)))), some (.inl (((dlen ((tk m 7 2) ((25 + 2 * (am_s r).toNat) + 1)) (nv (vw (tk m 7 2) 7)) ((tk m 7 2) (25 + 2 * (am_s r).toNat) 2).toNat : Nat) : Int))), none] [.inl y1] m1 Q := by
            intro y1 hy1
            replace H := H y1 hy1
            refine ok_sg (pc' := 74) (ls' := [some (.inr (.inr (some 0))), some (.inl r), some (.inl a), some (.inr (.inr (some (25 + 2 * (am_s r).toNat)))), some (.inl (((dlen ((tk m 7 2) ((25 + 2 * (am_s r).toNat) + 1)) (nv (vw (tk m 7 2) 7)) ((tk m 7 2) (25 + 2 * (am_s r).toNat) 2).toNat : Nat) : Int))), some (.inl y1)]) (st' := [.inl a]) (m' := m1) (fun fx hfx o hk => ?_) ?_
            · refine r_sto (pc' := 73) (ls' := [some (.inr (.inr (some 0))), some (.inl r), some (.inl a), some (.inr (.inr (some (25 + 2 * (am_s r).toNat)))), some (.inl (((dlen ((tk m 7 2) ((25 + 2 * (am_s r).toNat) + 1)) (nv (vw (tk m 7 2) 7)) ((tk m 7 2) (25 + 2 * (am_s r).toNat) 2).toNat : Nat) : Int))), some (.inl y1)]) hM_52 d_52_71 rfl rfl ?_
              refine r_ld (pc' := 74) hM_52 d_52_73 rfl rfl ?_
              exact hk
            by_cases hc : am_s a = 0
            · have H := H.1 hc
              refine ok_sg (pc' := 100) (ls' := [some (.inr (.inr (some 0))), some (.inl r), some (.inl a), some (.inr (.inr (some (25 + 2 * (am_s r).toNat)))), some (.inl (((dlen ((tk m 7 2) ((25 + 2 * (am_s r).toNat) + 1)) (nv (vw (tk m 7 2) 7)) ((tk m 7 2) (25 + 2 * (am_s r).toNat) 2).toNat : Nat) : Int))), some (.inl y1)]) (st' := []) (m' := m1) (fun fx hfx o hk => ?_) ?_
              · refine r_tsI (pc' := 100) (off := 0) (t := 26) hM_52 d_52_74 (by rw [hc]; rfl) (by decide) rfl (by decide) ?_
                exact hk
              refine ok_sg (pc' := 102) (ls' := [some (.inr (.inr (some 0))), some (.inl r), some (.inl a), some (.inr (.inr (some (25 + 2 * (am_s r).toNat)))), some (.inl (((dlen ((tk m 7 2) ((25 + 2 * (am_s r).toNat) + 1)) (nv (vw (tk m 7 2) 7)) ((tk m 7 2) (25 + 2 * (am_s r).toNat) 2).toNat : Nat) : Int))), some (.inl y1)]) (st' := [.inl y1]) (m' := m1) (fun fx hfx o hk => ?_) ?_
              · refine r_ld (pc' := 102) hM_52 d_52_100 rfl rfl ?_
                exact hk
              refine ok_sg (pc' := 111) (ls' := [some (.inr (.inr (some 0))), some (.inl r), some (.inl a), some (.inr (.inr (some (25 + 2 * (am_s r).toNat)))), some (.inl (((dlen ((tk m 7 2) ((25 + 2 * (am_s r).toNat) + 1)) (nv (vw (tk m 7 2) 7)) ((tk m 7 2) (25 + 2 * (am_s r).toNat) 2).toNat : Nat) : Int))), some (.inl y1)]) (st' := [.inl (if am_s y1 = 0 then (((dlen ((tk m 7 2) ((25 + 2 * (am_s r).toNat) + 1)) (nv (vw (tk m 7 2) 7)) ((tk m 7 2) (25 + 2 * (am_s r).toNat) 2).toNat : Nat) : Int)) else (-1))]) (m' := m1) (fun fx hfx o K => ?_) ?_
              · refine r_if (pc' := 109) (pc2 := 105) hM_52 d_52_102 (by decide) rfl (fun hz11 => ?_) (fun hz11 => ?_)
                · have hz11 : am_s y1 = 0 := hz11
                  rw [if_pos hz11] at K
                  refine r_ld (pc' := 111) hM_52 d_52_109 rfl rfl ?_
                  exact K
                · have hz11 : ¬ (am_s y1 = 0) := hz11
                  rw [if_neg hz11] at K
                  refine r_k (pc' := 106) (v := .inl (-1)) hM_52 d_52_105 rfl rfl ?_
                  refine r_go (pc' := 111) hM_52 d_52_106 (by decide) ?_
                  exact K
              have K : ∀ y2 : Int, y2 = (if am_s y1 = 0 then (((dlen ((tk m 7 2) ((25 + 2 * (am_s r).toNat) + 1)) (nv (vw (tk m 7 2) 7)) ((tk m 7 2) (25 + 2 * (am_s r).toNat) 2).toNat : Nat) : Int)) else (-1)) → ok 4 52 111 [some (.inr (.inr (some 0))), some (.inl r), some (.inl a), some (.inr (.inr (some (25 + 2 * (am_s r).toNat)))), some (.inl (((dlen ((tk m 7 2) ((25 + 2 * (am_s r).toNat) + 1)) (nv (vw (tk m 7 2) 7)) ((tk m 7 2) (25 + 2 * (am_s r).toNat) 2).toNat : Nat) : Int))), some (.inl y1)] [.inl y2] m1 Q := by
                intro y2 hy2
                replace H := H y2 hy2
                exact ok_rt (fun fx _ => rt_i hM_52 d_52_111 rfl) H
              exact K _ rfl
            replace H := H.2
            have hc0 := hc
            clear hc
            by_cases hc : am_s a = 1
            · have H := H.1 hc
              refine ok_sg (pc' := 112) (ls' := [some (.inr (.inr (some 0))), some (.inl r), some (.inl a), some (.inr (.inr (some (25 + 2 * (am_s r).toNat)))), some (.inl (((dlen ((tk m 7 2) ((25 + 2 * (am_s r).toNat) + 1)) (nv (vw (tk m 7 2) 7)) ((tk m 7 2) (25 + 2 * (am_s r).toNat) 2).toNat : Nat) : Int))), some (.inl y1)]) (st' := []) (m' := m1) (fun fx hfx o hk => ?_) ?_
              · refine r_tsI (pc' := 112) (off := 1) (t := 38) hM_52 d_52_74 (by rw [hc]; rfl) (by decide) rfl (by decide) ?_
                exact hk
              obtain ⟨hz13, H⟩ := H
              obtain ⟨hz14, H⟩ := H
              refine ok_sg (pc' := 114) (ls' := [some (.inr (.inr (some 0))), some (.inl r), some (.inl a), some (.inr (.inr (some (25 + 2 * (am_s r).toNat)))), some (.inl (((dlen ((tk m 7 2) ((25 + 2 * (am_s r).toNat) + 1)) (nv (vw (tk m 7 2) 7)) ((tk m 7 2) (25 + 2 * (am_s r).toNat) 2).toNat : Nat) : Int))), some (.inl y1)]) (st' := [.inl y1]) (m' := m1) (fun fx hfx o hk => ?_) ?_
              · refine r_ld (pc' := 114) hM_52 d_52_112 rfl rfl ?_
                exact hk
              refine ok_sg (pc' := 134) (ls' := [some (.inr (.inr (some 0))), some (.inl r), some (.inl a), some (.inr (.inr (some (25 + 2 * (am_s r).toNat)))), some (.inl (((dlen ((tk m 7 2) ((25 + 2 * (am_s r).toNat) + 1)) (nv (vw (tk m 7 2) 7)) ((tk m 7 2) (25 + 2 * (am_s r).toNat) 2).toNat : Nat) : Int))), some (.inl y1)]) (st' := [.inl (if am_s y1 = 0 then ((rfs (nv (vw m1 7)) ((rat m1 (25 + 2 * (am_s r).toNat) (am_s (((dlen ((tk m 7 2) ((25 + 2 * (am_s r).toNat) + 1)) (nv (vw (tk m 7 2) 7)) ((tk m 7 2) (25 + 2 * (am_s r).toNat) 2).toNat : Nat) : Int))))))) else 0)]) (m' := m1) (fun fx hfx o K => ?_) ?_
              · refine r_if (pc' := 121) (pc2 := 117) hM_52 d_52_114 (by decide) rfl (fun hz12 => ?_) (fun hz12 => ?_)
                · have hz12 : am_s y1 = 0 := hz12
                  rw [if_pos hz12] at K
                  refine r_ld (pc' := 122) hM_52 d_52_121 rfl rfl ?_
                  refine r_gR (pc' := 125) (v := 7) hM_52 d_52_122 rfl (by decide +kernel) ?_
                  refine r_ld (pc' := 126) hM_52 d_52_125 rfl rfl ?_
                  refine r_ld (pc' := 128) hM_52 d_52_126 rfl rfl ?_
                  refine r_cl (pc' := 131) (c := (56, 0)) (a := [.inr (.inr (some (25 + 2 * (am_s r).toNat))), .inl (((dlen ((tk m 7 2) ((25 + 2 * (am_s r).toNat) + 1)) (nv (vw (tk m 7 2) 7)) ((tk m 7 2) (25 + 2 * (am_s r).toNat) 2).toNat : Nat) : Int))]) (q := [.inr (.inr (some 7))]) hM_52 d_52_128 rfl (by decide +kernel) hM_56 rfl rfl rfl (Nat.le_of_ble_eq_true rfl) (Nat.le_of_ble_eq_true rfl) (Or.inr (rcvR ((rfRows hz4).2) _)) (n_56 ((rfRows hz4).2) m1 (((dlen ((tk m 7 2) ((25 + 2 * (am_s r).toNat) + 1)) (nv (vw (tk m 7 2) 7)) ((tk m 7 2) (25 + 2 * (am_s r).toNat) 2).toNat : Nat) : Int)) (hz13 hz12)) (Nat.le_of_ble_eq_true rfl) ?_
                  show rn fx 4 (0, 0) 52 131 [some (.inr (.inr (some 0))), some (.inl r), some (.inl a), some (.inr (.inr (some (25 + 2 * (am_s r).toNat)))), some (.inl (((dlen ((tk m 7 2) ((25 + 2 * (am_s r).toNat) + 1)) (nv (vw (tk m 7 2) 7)) ((tk m 7 2) (25 + 2 * (am_s r).toNat) 2).toNat : Nat) : Int))), some (.inl y1)] [.inr (.inl ((rat m1 (25 + 2 * (am_s r).toNat) (am_s (((dlen ((tk m 7 2) ((25 + 2 * (am_s r).toNat) + 1)) (nv (vw (tk m 7 2) 7)) ((tk m 7 2) (25 + 2 * (am_s r).toNat) 2).toNat : Nat) : Int)))))), .inr (.inr (some 7))] (st0 m1) o
                  refine r_cl (pc' := 134) (c := (46, 0)) (a := [.inr (.inr (some 7)), .inr (.inl ((rat m1 (25 + 2 * (am_s r).toNat) (am_s (((dlen ((tk m 7 2) ((25 + 2 * (am_s r).toNat) + 1)) (nv (vw (tk m 7 2) 7)) ((tk m 7 2) (25 + 2 * (am_s r).toNat) 2).toNat : Nat) : Int))))))]) (q := []) hM_52 d_52_131 rfl (by decide +kernel) hM_46 rfl rfl rfl (Nat.le_of_ble_eq_true rfl) (Nat.le_of_ble_eq_true rfl) (Or.inr rfl) (n_46 (by decide) m1 ((rat m1 (25 + 2 * (am_s r).toNat) (am_s (((dlen ((tk m 7 2) ((25 + 2 * (am_s r).toNat) + 1)) (nv (vw (tk m 7 2) 7)) ((tk m 7 2) (25 + 2 * (am_s r).toNat) 2).toNat : Nat) : Int))))) (hz14 hz12)) (Nat.le_of_ble_eq_true rfl) ?_
                  show rn fx 4 (0, 0) 52 134 [some (.inr (.inr (some 0))), some (.inl r), some (.inl a), some (.inr (.inr (some (25 + 2 * (am_s r).toNat)))), some (.inl (((dlen ((tk m 7 2) ((25 + 2 * (am_s r).toNat) + 1)) (nv (vw (tk m 7 2) 7)) ((tk m 7 2) (25 + 2 * (am_s r).toNat) 2).toNat : Nat) : Int))), some (.inl y1)] [.inl ((rfs (nv (vw m1 7)) ((rat m1 (25 + 2 * (am_s r).toNat) (am_s (((dlen ((tk m 7 2) ((25 + 2 * (am_s r).toNat) + 1)) (nv (vw (tk m 7 2) 7)) ((tk m 7 2) (25 + 2 * (am_s r).toNat) 2).toNat : Nat) : Int)))))))] (st0 m1) o
                  exact K
                · have hz12 : ¬ (am_s y1 = 0) := hz12
                  rw [if_neg hz12] at K
                  refine r_k (pc' := 118) (v := .inl 0) hM_52 d_52_117 rfl rfl ?_
                  refine r_go (pc' := 134) hM_52 d_52_118 (by decide) ?_
                  exact K
              have K : ∀ y3 : Int, y3 = (if am_s y1 = 0 then ((rfs (nv (vw m1 7)) ((rat m1 (25 + 2 * (am_s r).toNat) (am_s (((dlen ((tk m 7 2) ((25 + 2 * (am_s r).toNat) + 1)) (nv (vw (tk m 7 2) 7)) ((tk m 7 2) (25 + 2 * (am_s r).toNat) 2).toNat : Nat) : Int))))))) else 0) → ok 4 52 134 [some (.inr (.inr (some 0))), some (.inl r), some (.inl a), some (.inr (.inr (some (25 + 2 * (am_s r).toNat)))), some (.inl (((dlen ((tk m 7 2) ((25 + 2 * (am_s r).toNat) + 1)) (nv (vw (tk m 7 2) 7)) ((tk m 7 2) (25 + 2 * (am_s r).toNat) 2).toNat : Nat) : Int))), some (.inl y1)] [.inl y3] m1 Q := by
                intro y3 hy3
                replace H := H y3 hy3
                exact ok_rt (fun fx _ => rt_i hM_52 d_52_134 rfl) H
              exact K _ rfl
            replace H := H.2
            have hc1 := hc
            clear hc
            by_cases hc : am_s a = 2
            · have H := H.1 hc
              refine ok_sg (pc' := 135) (ls' := [some (.inr (.inr (some 0))), some (.inl r), some (.inl a), some (.inr (.inr (some (25 + 2 * (am_s r).toNat)))), some (.inl (((dlen ((tk m 7 2) ((25 + 2 * (am_s r).toNat) + 1)) (nv (vw (tk m 7 2) 7)) ((tk m 7 2) (25 + 2 * (am_s r).toNat) 2).toNat : Nat) : Int))), some (.inl y1)]) (st' := []) (m' := m1) (fun fx hfx o hk => ?_) ?_
              · refine r_tsI (pc' := 135) (off := 2) (t := 61) hM_52 d_52_74 (by rw [hc]; rfl) (by decide) rfl (by decide) ?_
                exact hk
              obtain ⟨hz15, H⟩ := H
              refine ok_sg (pc' := 143) (ls' := [some (.inr (.inr (some 0))), some (.inl r), some (.inl a), some (.inr (.inr (some (25 + 2 * (am_s r).toNat)))), some (.inl (((dlen ((tk m 7 2) ((25 + 2 * (am_s r).toNat) + 1)) (nv (vw (tk m 7 2) 7)) ((tk m 7 2) (25 + 2 * (am_s r).toNat) 2).toNat : Nat) : Int))), some (.inl y1)]) (st' := [.inl (((ons (nv (vw m1 7)) (am_s 1) : Nat) : Int))]) (m' := m1) (fun fx hfx o hk => ?_) ?_
              · refine r_ld (pc' := 136) hM_52 d_52_135 rfl rfl ?_
                refine r_gR (pc' := 139) (v := 7) hM_52 d_52_136 rfl (by decide +kernel) ?_
                refine r_k (pc' := 140) (v := .inl 1) hM_52 d_52_139 rfl rfl ?_
                refine r_cl (pc' := 143) (c := (48, 0)) (a := [.inr (.inr (some 7)), .inl 1]) (q := []) hM_52 d_52_140 rfl (by decide +kernel) hM_48 rfl rfl rfl (Nat.le_of_ble_eq_true rfl) (Nat.le_of_ble_eq_true rfl) (Or.inr rfl) (n_48 (by decide) m1 1 hz15) (Nat.le_of_ble_eq_true rfl) ?_
                show rn fx 4 (0, 0) 52 143 [some (.inr (.inr (some 0))), some (.inl r), some (.inl a), some (.inr (.inr (some (25 + 2 * (am_s r).toNat)))), some (.inl (((dlen ((tk m 7 2) ((25 + 2 * (am_s r).toNat) + 1)) (nv (vw (tk m 7 2) 7)) ((tk m 7 2) (25 + 2 * (am_s r).toNat) 2).toNat : Nat) : Int))), some (.inl y1)] [.inl (((ons (nv (vw m1 7)) (am_s 1) : Nat) : Int))] (st0 m1) o
                exact hk
              exact ok_rt (fun fx _ => rt_i hM_52 d_52_143 rfl) H
            replace H := H.2
            have hc2 := hc
            clear hc
            have ho : am_s a < 0 ∨ 2 < am_s a := by omega
            replace H := H ho
            refine ok_sg (pc' := 144) (ls' := [some (.inr (.inr (some 0))), some (.inl r), some (.inl a), some (.inr (.inr (some (25 + 2 * (am_s r).toNat)))), some (.inl (((dlen ((tk m 7 2) ((25 + 2 * (am_s r).toNat) + 1)) (nv (vw (tk m 7 2) 7)) ((tk m 7 2) (25 + 2 * (am_s r).toNat) 2).toNat : Nat) : Int))), some (.inl y1)]) (st' := []) (m' := m1) (fun fx hfx o hk => ?_) ?_
            · refine r_tsO (pc' := 144) hM_52 d_52_74 ho (by decide) ?_
              exact hk
            obtain ⟨hz16, H⟩ := H
            refine ok_sg (pc' := 150) (ls' := [some (.inr (.inr (some 0))), some (.inl r), some (.inl a), some (.inr (.inr (some (25 + 2 * (am_s r).toNat)))), some (.inl (((dlen ((tk m 7 2) ((25 + 2 * (am_s r).toNat) + 1)) (nv (vw (tk m 7 2) 7)) ((tk m 7 2) (25 + 2 * (am_s r).toNat) 2).toNat : Nat) : Int))), some (.inl y1)]) (st' := [.inl ((sm (fun i => ((cnt (m1 ((25 + 2 * (am_s r).toNat) + 1) i).toNat 12 : Nat) : Int)) (((dlen ((tk m 7 2) ((25 + 2 * (am_s r).toNat) + 1)) (nv (vw (tk m 7 2) 7)) ((tk m 7 2) (25 + 2 * (am_s r).toNat) 2).toNat : Nat) : Int)).toNat))]) (m' := m1) (fun fx hfx o hk => ?_) ?_
            · refine r_ld (pc' := 145) hM_52 d_52_144 rfl rfl ?_
              refine r_ld (pc' := 147) hM_52 d_52_145 rfl rfl ?_
              refine r_cl (pc' := 150) (c := (57, 2)) (a := [.inr (.inr (some (25 + 2 * (am_s r).toNat))), .inl (((dlen ((tk m 7 2) ((25 + 2 * (am_s r).toNat) + 1)) (nv (vw (tk m 7 2) 7)) ((tk m 7 2) (25 + 2 * (am_s r).toNat) 2).toNat : Nat) : Int))]) (q := []) hM_52 d_52_147 rfl (by decide +kernel) hM_57 rfl rfl rfl (Nat.le_of_ble_eq_true rfl) (Nat.le_of_ble_eq_true rfl) (Or.inl rfl) (c_57 ((rfRows hz4).2) m1 (((dlen ((tk m 7 2) ((25 + 2 * (am_s r).toNat) + 1)) (nv (vw (tk m 7 2) 7)) ((tk m 7 2) (25 + 2 * (am_s r).toNat) 2).toNat : Nat) : Int)) hz16) (Nat.le_of_ble_eq_true rfl) ?_
              show rn fx 4 (0, 0) 52 150 [some (.inr (.inr (some 0))), some (.inl r), some (.inl a), some (.inr (.inr (some (25 + 2 * (am_s r).toNat)))), some (.inl (((dlen ((tk m 7 2) ((25 + 2 * (am_s r).toNat) + 1)) (nv (vw (tk m 7 2) 7)) ((tk m 7 2) (25 + 2 * (am_s r).toNat) 2).toNat : Nat) : Int))), some (.inl y1)] [.inl ((sm (fun i => ((cnt (m1 ((25 + 2 * (am_s r).toNat) + 1) i).toNat 12 : Nat) : Int)) (((dlen ((tk m 7 2) ((25 + 2 * (am_s r).toNat) + 1)) (nv (vw (tk m 7 2) 7)) ((tk m 7 2) (25 + 2 * (am_s r).toNat) 2).toNat : Nat) : Int)).toNat))] (st0 m1) o
              exact hk
            exact ok_rt (fun fx _ => rt_i hM_52 d_52_150 rfl) H
          exact K _ rfl
        · have H := H.2 (as_iteN.mp hz6)
          refine ok_sg (pc' := 35) (ls' := [some (.inr (.inr (some 0))), some (.inl r), some (.inl a), some (.inr (.inr (some (25 + 2 * (am_s r).toNat)))), none, none]) (st' := [.inl (-6)]) (m' := m) (fun fx hfx o hk => ?_) ?_
          · refine r_k (pc' := 35) (v := .inl (-6)) hM_52 d_52_33 rfl rfl ?_
            exact hk
          exact ok_rt (fun fx _ => rt_i hM_52 d_52_35 rfl) H
      · have H := H.2 hz3
        refine ok_sg (pc' := 18) (ls' := [some (.inr (.inr (some 0))), some (.inl r), some (.inl a), none, none, none]) (st' := [.inl (-2)]) (m' := m) (fun fx hfx o hk => ?_) ?_
        · refine r_k (pc' := 18) (v := .inl (-2)) hM_52 d_52_16 rfl rfl ?_
          exact hk
        exact ok_rt (fun fx _ => rt_i hM_52 d_52_18 rfl) H
theorem u_61_26 {Q : List am_V → am_M → Prop} {m : am_M} {n : Int} {i : Int}  (H : ((am_s n ≤ am_s i) → (WFG (vw m 7)) ∧ (Q [.inl (((ons (nv (vw m 7)) (am_s 1) : Nat) : Int))] m)) ∧ ((¬ (am_s n ≤ am_s i)) → (WFG (vw m 7) ∧ 0 ≤ (0 : Int) ∧ (0 : Int) < 4096) ∧ (ok 2 61 26 [some (.inr (.inr (some 0))), some (.inl n), some (.inl (i + 1))] [] (pw m 7 (0 : Int).toNat) Q))) : ok 2 61 26 [some (.inr (.inr (some 0))), some (.inl n), some (.inl i)] [] m Q := by
  refine ok_sg (pc' := 28) (ls' := [some (.inr (.inr (some 0))), some (.inl n), some (.inl i)]) (st' := [.inl n, .inl i]) (m' := m) (fun fx hfx o hk => ?_) ?_
  · refine r_ld (pc' := 27) hM_61 d_61_26 rfl rfl ?_
    refine r_ld (pc' := 28) hM_61 d_61_27 rfl rfl ?_
    exact hk
  refine ok_ic (pc' := 46) (pc2 := 31) hM_61 d_61_28 (by decide) rfl (fun hz1 => ?_) (fun hz1 => ?_)
  · have H := H.1 hz1
    obtain ⟨hz2, H⟩ := H
    refine ok_sg (pc' := 54) (ls' := [some (.inr (.inr (some 0))), some (.inl n), some (.inl i)]) (st' := [.inl (((ons (nv (vw m 7)) (am_s 1) : Nat) : Int))]) (m' := m) (fun fx hfx o hk => ?_) ?_
    · refine r_ld (pc' := 47) hM_61 d_61_46 rfl rfl ?_
      refine r_gR (pc' := 50) (v := 7) hM_61 d_61_47 rfl (by decide +kernel) ?_
      refine r_k (pc' := 51) (v := .inl 1) hM_61 d_61_50 rfl rfl ?_
      refine r_cl (pc' := 54) (c := (48, 0)) (a := [.inr (.inr (some 7)), .inl 1]) (q := []) hM_61 d_61_51 rfl (by decide +kernel) hM_48 rfl rfl rfl (Nat.le_of_ble_eq_true rfl) (Nat.le_of_ble_eq_true rfl) (Or.inr rfl) (n_48 (by decide) m 1 hz2) (Nat.le_of_ble_eq_true rfl) ?_
      show rn fx 2 (0, 0) 61 54 [some (.inr (.inr (some 0))), some (.inl n), some (.inl i)] [.inl (((ons (nv (vw m 7)) (am_s 1) : Nat) : Int))] (st0 m) o
      exact hk
    exact ok_rt (fun fx _ => rt_i hM_61 d_61_54 rfl) H
  · have H := H.2 hz1
    obtain ⟨hz3, H⟩ := H
    refine ok_sg (pc' := 26) (ls' := [some (.inr (.inr (some 0))), some (.inl n), some (.inl (i + 1))]) (st' := []) (m' := pw m 7 (0 : Int).toNat) (fun fx hfx o hk => ?_) ?_
    · refine r_ld (pc' := 32) hM_61 d_61_31 rfl rfl ?_
      refine r_gR (pc' := 35) (v := 7) hM_61 d_61_32 rfl (by decide +kernel) ?_
      refine r_k (pc' := 36) (v := .inl 0) hM_61 d_61_35 rfl rfl ?_
      refine r_cl (pc' := 39) (c := (50, 0)) (a := [.inr (.inr (some 7)), .inl 0]) (q := []) hM_61 d_61_36 rfl (by decide +kernel) hM_50 rfl rfl rfl (Nat.le_of_ble_eq_true rfl) (Nat.le_of_ble_eq_true rfl) (Or.inr rfl) (n_50 (by decide) m 0 hz3) (Nat.le_of_ble_eq_true rfl) ?_
      show rn fx 2 (0, 0) 61 39 [some (.inr (.inr (some 0))), some (.inl n), some (.inl i)] [.inl (dyn (0 : Int).toNat (nv (vw m 7)))] (st0 (pw m 7 (0 : Int).toNat)) o
      refine r_stk (pc' := 40) (st' := []) hM_61 d_61_39 rfl rfl ?_
      refine r_sto (pc' := 43) (ls' := [some (.inr (.inr (some 0))), some (.inl n), some (.inl (i + 1))]) hM_61 d_61_40 rfl rfl ?_
      refine r_go (pc' := 26) hM_61 d_61_43 (by decide) ?_
      exact hk
    exact H
theorem u_61_0 {Q : List am_V → am_M → Prop} {m : am_M} {n : Int}  (H : ((am_s n < 0) → Q [.inl (-3)] m) ∧ ((¬ (am_s n < 0)) → ((am_s n ≤ 30) → (7 ≠ 2) ∧ (ok 2 61 26 [some (.inr (.inr (some 0))), some (.inl n), some (.inl 0)] [] (tk m 7 2) Q)) ∧ ((¬ (am_s n ≤ 30)) → Q [.inl (-3)] m))) : ok 2 61 0 [some (.inr (.inr (some 0))), some (.inl n), none] [] m Q := by
  refine ok_sg (pc' := 1) (ls' := [some (.inr (.inr (some 0))), some (.inl n), none]) (st' := [.inl n]) (m' := m) (fun fx hfx o hk => ?_) ?_
  · refine r_ld (pc' := 1) hM_61 d_61_0 rfl rfl ?_
    exact hk
  refine ok_if (pc' := 10) (pc2 := 4) hM_61 d_61_1 (by decide) rfl (fun hz1 => ?_) (fun hz1 => ?_)
  · have H := H.1 hz1
    refine ok_sg (pc' := 12) (ls' := [some (.inr (.inr (some 0))), some (.inl n), none]) (st' := [.inl (-3)]) (m' := m) (fun fx hfx o hk => ?_) ?_
    · refine r_k (pc' := 12) (v := .inl (-3)) hM_61 d_61_10 rfl rfl ?_
      exact hk
    exact ok_rt (fun fx _ => rt_i hM_61 d_61_12 rfl) H
  · have H := H.2 hz1
    refine ok_sg (pc' := 7) (ls' := [some (.inr (.inr (some 0))), some (.inl n), none]) (st' := [.inl 30, .inl n]) (m' := m) (fun fx hfx o hk => ?_) ?_
    · refine r_ld (pc' := 5) hM_61 d_61_4 rfl rfl ?_
      refine r_k (pc' := 7) (v := .inl 30) hM_61 d_61_5 rfl rfl ?_
      exact hk
    refine ok_ic (pc' := 13) (pc2 := 10) hM_61 d_61_7 (by decide) rfl (fun hz2 => ?_) (fun hz2 => ?_)
    · have H := H.1 hz2
      obtain ⟨hz3, H⟩ := H
      refine ok_sg (pc' := 26) (ls' := [some (.inr (.inr (some 0))), some (.inl n), some (.inl 0)]) (st' := []) (m' := tk m 7 2) (fun fx hfx o hk => ?_) ?_
      · refine r_ld (pc' := 14) hM_61 d_61_13 rfl rfl ?_
        refine r_gR (pc' := 17) (v := 7) hM_61 d_61_14 rfl (by decide +kernel) ?_
        refine r_ld (pc' := 18) hM_61 d_61_17 rfl rfl ?_
        refine r_gR (pc' := 21) (v := 2) hM_61 d_61_18 rfl (by decide +kernel) ?_
        refine r_cl (pc' := 24) (c := (37, 0)) (a := [.inr (.inr (some 7)), .inr (.inr (some 2))]) (q := []) hM_61 d_61_21 rfl (by decide +kernel) hM_37 rfl rfl rfl (Nat.le_of_ble_eq_true rfl) (Nat.le_of_ble_eq_true rfl) (Or.inr rfl) (c_37 (by decide) (by decide) m  hz3) (Nat.le_of_ble_eq_true rfl) ?_
        show rn fx 2 (0, 0) 61 24 [some (.inr (.inr (some 0))), some (.inl n), none] [] (st0 (tk m 7 2)) o
        refine r_k (pc' := 25) (v := .inl 0) hM_61 d_61_24 rfl rfl ?_
        refine r_sto (pc' := 26) (ls' := [some (.inr (.inr (some 0))), some (.inl n), some (.inl 0)]) hM_61 d_61_25 rfl rfl ?_
        exact hk
      exact H
    · have H := H.2 hz2
      refine ok_sg (pc' := 12) (ls' := [some (.inr (.inr (some 0))), some (.inl n), none]) (st' := [.inl (-3)]) (m' := m) (fun fx hfx o hk => ?_) ?_
      · refine r_k (pc' := 12) (v := .inl (-3)) hM_61 d_61_10 rfl rfl ?_
        exact hk
      exact ok_rt (fun fx _ => rt_i hM_61 d_61_12 rfl) H
theorem u_62_84 {Q : List am_V → am_M → Prop} {m : am_M} {r : Int} {b : Int} {told : Nat} {x : Int} {i : Int} (h_told : told ∈ rowL) (H : ((am_s (m told 2) ≤ am_s i) → Q [.inl x] m) ∧ ((¬ (am_s (m told 2) ≤ am_s i)) → ((WFG (vw m 2) ∧ m 2 11 ≤ 9999) ∧ (RWC m told ∧ 0 ≤ m told 2) ∧ (0 ≤ i ∧ i < 40) ∧ ∀ i, i < (m told 2).toNat → 0 ≤ m (told + 1) i ∧ m (told + 1) i < 4096) ∧ (∀ (m1 : am_M), (Q_64 m told i m1) → ((¬ am_s (((ons (dwo (m (told + 1)) (nv (vw m 2)) i.toNat (m told 2).toNat) 1 : Nat) : Int)) = am_s b) → ok 4 62 84 [some (.inr (.inr (some 0))), some (.inl r), some (.inl b), none, some (.inr (.inr (some told))), some (.inl x), some (.inl (i + 1))] [] m1 Q) ∧ ((am_s (((ons (dwo (m (told + 1)) (nv (vw m 2)) i.toNat (m told 2).toNat) 1 : Nat) : Int)) = am_s b) → ok 4 62 84 [some (.inr (.inr (some 0))), some (.inl r), some (.inl b), none, some (.inr (.inr (some told))), some (.inl (am_or x (am_shl 1 i))), some (.inl (i + 1))] [] m1 Q)))) : ok 4 62 84 [some (.inr (.inr (some 0))), some (.inl r), some (.inl b), none, some (.inr (.inr (some told))), some (.inl x), some (.inl i)] [] m Q := by
  refine ok_sg (pc' := 91) (ls' := [some (.inr (.inr (some 0))), some (.inl r), some (.inl b), none, some (.inr (.inr (some told))), some (.inl x), some (.inl i)]) (st' := [.inl (m told 2), .inl i]) (m' := m) (fun fx hfx o hk => ?_) ?_
  · refine r_ld (pc' := 86) hM_62 d_62_84 rfl rfl ?_
    refine r_ld (pc' := 88) hM_62 d_62_86 rfl rfl ?_
    refine r_gI (pc' := 91) (k0 := 2) hM_62 d_62_88 rfl (gfR_1_144 h_told) ?_
    exact hk
  refine ok_ic (pc' := 121) (pc2 := 94) hM_62 d_62_91 (by decide) rfl (fun hz1 => ?_) (fun hz1 => ?_)
  · have H := H.1 hz1
    refine ok_sg (pc' := 123) (ls' := [some (.inr (.inr (some 0))), some (.inl r), some (.inl b), none, some (.inr (.inr (some told))), some (.inl x), some (.inl i)]) (st' := [.inl x]) (m' := m) (fun fx hfx o hk => ?_) ?_
    · refine r_ld (pc' := 123) hM_62 d_62_121 rfl rfl ?_
      exact hk
    exact ok_rt (fun fx _ => rt_i hM_62 d_62_123 rfl) H
  · have H := H.2 hz1
    obtain ⟨hz2, H⟩ := H
    refine ok_sg (pc' := 99) (ls' := [some (.inr (.inr (some 0))), some (.inl r), some (.inl b), none, some (.inr (.inr (some told))), some (.inl x), some (.inl i)]) (st' := [.inl i, .inr (.inr (some told)), .inr (.inr (some 0))]) (m' := m) (fun fx hfx o hk => ?_) ?_
    · refine r_ld (pc' := 95) hM_62 d_62_94 rfl rfl ?_
      refine r_ld (pc' := 97) hM_62 d_62_95 rfl rfl ?_
      refine r_ld (pc' := 99) hM_62 d_62_97 rfl rfl ?_
      exact hk
    refine ok_cl (pc' := 102) (c := (64, 0)) (a := [.inr (.inr (some 0)), .inr (.inr (some told)), .inl i]) (q := []) hM_62 d_62_99 rfl (by decide +kernel) hM_64 rfl rfl rfl (Nat.le_of_ble_eq_true rfl) (Nat.le_of_ble_eq_true rfl) (Or.inr rfl) (z_64 h_told m i hz2) (Nat.le_of_ble_eq_true rfl) ?_
    rintro _ m1 ⟨rfl, hz3⟩
    replace H := H  m1 hz3
    show ok 4 62 102 [some (.inr (.inr (some 0))), some (.inl r), some (.inl b), none, some (.inr (.inr (some told))), some (.inl x), some (.inl i)] [.inl (((ons (dwo (m (told + 1)) (nv (vw m 2)) i.toNat (m told 2).toNat) 1 : Nat) : Int))] m1 Q
    refine ok_sg (pc' := 103) (ls' := [some (.inr (.inr (some 0))), some (.inl r), some (.inl b), none, some (.inr (.inr (some told))), some (.inl x), some (.inl i)]) (st' := [.inl b, .inl (((ons (dwo (m (told + 1)) (nv (vw m 2)) i.toNat (m told 2).toNat) 1 : Nat) : Int))]) (m' := m1) (fun fx hfx o hk => ?_) ?_
    · refine r_ld (pc' := 103) hM_62 d_62_102 rfl rfl ?_
      exact hk
    refine ok_ic (pc' := 115) (pc2 := 106) hM_62 d_62_103 (by decide) rfl (fun hz4 => ?_) (fun hz4 => ?_)
    · have H := H.1 hz4
      refine ok_sg (pc' := 84) (ls' := [some (.inr (.inr (some 0))), some (.inl r), some (.inl b), none, some (.inr (.inr (some told))), some (.inl x), some (.inl (i + 1))]) (st' := []) (m' := m1) (fun fx hfx o hk => ?_) ?_
      · refine r_sto (pc' := 118) (ls' := [some (.inr (.inr (some 0))), some (.inl r), some (.inl b), none, some (.inr (.inr (some told))), some (.inl x), some (.inl (i + 1))]) hM_62 d_62_115 rfl rfl ?_
        refine r_go (pc' := 84) hM_62 d_62_118 (by decide) ?_
        exact hk
      exact H
    · have H := H.2 (Decidable.not_not.mp hz4)
      refine ok_sg (pc' := 84) (ls' := [some (.inr (.inr (some 0))), some (.inl r), some (.inl b), none, some (.inr (.inr (some told))), some (.inl (am_or x (am_shl 1 i))), some (.inl (i + 1))]) (st' := []) (m' := m1) (fun fx hfx o hk => ?_) ?_
      · refine r_ld (pc' := 108) hM_62 d_62_106 rfl rfl ?_
        refine r_k (pc' := 109) (v := .inl 1) hM_62 d_62_108 rfl rfl ?_
        refine r_ld (pc' := 111) hM_62 d_62_109 rfl rfl ?_
        refine r_b (pc' := 112) (z := (am_shl 1 i)) hM_62 d_62_111 rfl rfl ?_
        refine r_b (pc' := 113) (z := (am_or x (am_shl 1 i))) hM_62 d_62_112 rfl rfl ?_
        refine r_sto (pc' := 115) (ls' := [some (.inr (.inr (some 0))), some (.inl r), some (.inl b), none, some (.inr (.inr (some told))), some (.inl (am_or x (am_shl 1 i))), some (.inl i)]) hM_62 d_62_113 rfl rfl ?_
        refine r_sto (pc' := 118) (ls' := [some (.inr (.inr (some 0))), some (.inl r), some (.inl b), none, some (.inr (.inr (some told))), some (.inl (am_or x (am_shl 1 i))), some (.inl (i + 1))]) hM_62 d_62_115 rfl rfl ?_
        refine r_go (pc' := 84) hM_62 d_62_118 (by decide) ?_
        exact hk
      exact H
theorem u_62_0 {Q : List am_V → am_M → Prop} {m : am_M} {r : Int} {b : Int}  (H : (RWS m) ∧ (((am_s ((rfu m (am_s r))) = 0) → (0 ≤ am_s r ∧ am_s r < (4 : Nat)) ∧ (((am_s (m (25 + 2 * (am_s r).toNat) 2) ≤ 12) → (7 ≠ 2) ∧ (((WFG (vw (tk m 7 2) 7) ∧ (tk m 7 2) 7 11 ≤ 9999) ∧ RWC (tk m 7 2) (25 + 2 * (am_s r).toNat) ∧ 0 ≤ (tk m 7 2) (25 + 2 * (am_s r).toNat) 2) ∧ (∀ (m1 : am_M), (Q_55 (tk m 7 2) 7 (25 + 2 * (am_s r).toNat) m1) → ((am_s (m1 (25 + 2 * (am_s r).toNat) 2) ≤ am_s (((dlen ((tk m 7 2) ((25 + 2 * (am_s r).toNat) + 1)) (nv (vw (tk m 7 2) 7)) ((tk m 7 2) (25 + 2 * (am_s r).toNat) 2).toNat : Nat) : Int))) → (WFG (vw m1 2)) ∧ (((0 ≤ am_s b ∧ (am_s b).toNat < 2 ^ (m1 2 4).toNat) → ok 4 62 84 [some (.inr (.inr (some 0))), some (.inl r), some (.inl b), none, some (.inr (.inr (some (25 + 2 * (am_s r).toNat)))), some (.inl 0), some (.inl 0)] [] m1 Q) ∧ ((¬ (0 ≤ am_s b ∧ (am_s b).toNat < 2 ^ (m1 2 4).toNat)) → Q [.inl (-3)] m1))) ∧ ((¬ (am_s (m1 (25 + 2 * (am_s r).toNat) 2) ≤ am_s (((dlen ((tk m 7 2) ((25 + 2 * (am_s r).toNat) + 1)) (nv (vw (tk m 7 2) 7)) ((tk m 7 2) (25 + 2 * (am_s r).toNat) 2).toNat : Nat) : Int)))) → Q [.inl (-5)] m1)))) ∧ ((¬ (am_s (m (25 + 2 * (am_s r).toNat) 2) ≤ 12)) → Q [.inl (-4)] m))) ∧ ((¬ (am_s ((rfu m (am_s r))) = 0)) → Q [.inl ((rfu m (am_s r)))] m))) : ok 4 62 0 [some (.inr (.inr (some 0))), some (.inl r), some (.inl b), none, none, none, none] [] m Q := by
  obtain ⟨hz1, H⟩ := H
  refine ok_sg (pc' := 7) (ls' := [some (.inr (.inr (some 0))), some (.inl r), some (.inl b), some (.inl ((rfu m (am_s r)))), none, none, none]) (st' := [.inl ((rfu m (am_s r)))]) (m' := m) (fun fx hfx o hk => ?_) ?_
  · refine r_ld (pc' := 1) hM_62 d_62_0 rfl rfl ?_
    refine r_ld (pc' := 2) hM_62 d_62_1 rfl rfl ?_
    refine r_cl (pc' := 5) (c := (59, 0)) (a := [.inr (.inr (some 0)), .inl r]) (q := []) hM_62 d_62_2 rfl (by decide +kernel) hM_59 rfl rfl rfl (Nat.le_of_ble_eq_true rfl) (Nat.le_of_ble_eq_true rfl) (Or.inr rfl) (n_59  m r hz1) (Nat.le_of_ble_eq_true rfl) ?_
    show rn fx 4 (0, 0) 62 5 [some (.inr (.inr (some 0))), some (.inl r), some (.inl b), none, none, none, none] [.inl ((rfu m (am_s r)))] (st0 m) o
    refine r_sto (pc' := 6) (ls' := [some (.inr (.inr (some 0))), some (.inl r), some (.inl b), some (.inl ((rfu m (am_s r)))), none, none, none]) hM_62 d_62_5 rfl rfl ?_
    refine r_ld (pc' := 7) hM_62 d_62_6 rfl rfl ?_
    exact hk
  refine ok_if (pc' := 12) (pc2 := 10) hM_62 d_62_7 (by decide) rfl (fun hz2 => ?_) (fun hz2 => ?_)
  · have H := H.1 hz2
    obtain ⟨hz3, H⟩ := H
    refine ok_sg (pc' := 27) (ls' := [some (.inr (.inr (some 0))), some (.inl r), some (.inl b), some (.inl ((rfu m (am_s r)))), some (.inr (.inr (some (25 + 2 * (am_s r).toNat)))), none, none]) (st' := [.inl 12, .inl (m (25 + 2 * (am_s r).toNat) 2)]) (m' := m) (fun fx hfx o hk => ?_) ?_
    · refine r_ld (pc' := 13) hM_62 d_62_12 rfl rfl ?_
      refine r_gR (pc' := 16) (v := 14) hM_62 d_62_13 rfl (by decide +kernel) ?_
      refine r_ld (pc' := 17) hM_62 d_62_16 rfl rfl ?_
      refine r_aa (pc' := 18) (n := 4) hM_62 d_62_17 rfl rfl (by decide) hz3 (rfRows hz3).1 (shRk (rfRows hz3).2).1 ?_
      refine r_sto (pc' := 20) (ls' := [some (.inr (.inr (some 0))), some (.inl r), some (.inl b), some (.inl ((rfu m (am_s r)))), some (.inr (.inr (some (25 + 2 * (am_s r).toNat)))), none, none]) hM_62 d_62_18 rfl rfl ?_
      refine r_ld (pc' := 22) hM_62 d_62_20 rfl rfl ?_
      refine r_gI (pc' := 25) (k0 := 2) hM_62 d_62_22 rfl (gfR_1_144 ((rfRows hz3).2)) ?_
      refine r_k (pc' := 27) (v := .inl 12) hM_62 d_62_25 rfl rfl ?_
      exact hk
    refine ok_ic (pc' := 33) (pc2 := 30) hM_62 d_62_27 (by decide) rfl (fun hz4 => ?_) (fun hz4 => ?_)
    · have H := H.1 hz4
      obtain ⟨hz5, H⟩ := H
      obtain ⟨hz6, H⟩ := H
      refine ok_sg (pc' := 50) (ls' := [some (.inr (.inr (some 0))), some (.inl r), some (.inl b), some (.inl ((rfu m (am_s r)))), some (.inr (.inr (some (25 + 2 * (am_s r).toNat)))), none, none]) (st' := [.inr (.inr (some (25 + 2 * (am_s r).toNat))), .inr (.inr (some 7))]) (m' := tk m 7 2) (fun fx hfx o hk => ?_) ?_
      · refine r_ld (pc' := 34) hM_62 d_62_33 rfl rfl ?_
        refine r_gR (pc' := 37) (v := 7) hM_62 d_62_34 rfl (by decide +kernel) ?_
        refine r_ld (pc' := 38) hM_62 d_62_37 rfl rfl ?_
        refine r_gR (pc' := 41) (v := 2) hM_62 d_62_38 rfl (by decide +kernel) ?_
        refine r_cl (pc' := 44) (c := (37, 0)) (a := [.inr (.inr (some 7)), .inr (.inr (some 2))]) (q := []) hM_62 d_62_41 rfl (by decide +kernel) hM_37 rfl rfl rfl (Nat.le_of_ble_eq_true rfl) (Nat.le_of_ble_eq_true rfl) (Or.inr rfl) (c_37 (by decide) (by decide) m  hz5) (Nat.le_of_ble_eq_true rfl) ?_
        show rn fx 4 (0, 0) 62 44 [some (.inr (.inr (some 0))), some (.inl r), some (.inl b), some (.inl ((rfu m (am_s r)))), some (.inr (.inr (some (25 + 2 * (am_s r).toNat)))), none, none] [] (st0 (tk m 7 2)) o
        refine r_ld (pc' := 45) hM_62 d_62_44 rfl rfl ?_
        refine r_gR (pc' := 48) (v := 7) hM_62 d_62_45 rfl (by decide +kernel) ?_
        refine r_ld (pc' := 50) hM_62 d_62_48 rfl rfl ?_
        exact hk
      refine ok_cl (pc' := 53) (c := (55, 2)) (a := [.inr (.inr (some 7)), .inr (.inr (some (25 + 2 * (am_s r).toNat)))]) (q := []) hM_62 d_62_50 rfl (by decide +kernel) hM_55 rfl rfl rfl (Nat.le_of_ble_eq_true rfl) (Nat.le_of_ble_eq_true rfl) (Or.inl rfl) (z_55 (by decide) ((rfRows hz3).2) (tk m 7 2)  hz6) (Nat.le_of_ble_eq_true rfl) ?_
      rintro _ m1 ⟨rfl, hz7⟩
      replace H := H  m1 hz7
      show ok 4 62 53 [some (.inr (.inr (some 0))), some (.inl r), some (.inl b), some (.inl ((rfu m (am_s r)))), some (.inr (.inr (some (25 + 2 * (am_s r).toNat)))), none, none] [.inl (((dlen ((tk m 7 2) ((25 + 2 * (am_s r).toNat) + 1)) (nv (vw (tk m 7 2) 7)) ((tk m 7 2) (25 + 2 * (am_s r).toNat) 2).toNat : Nat) : Int))] m1 Q
      refine ok_sg (pc' := 58) (ls' := [some (.inr (.inr (some 0))), some (.inl r), some (.inl b), some (.inl ((rfu m (am_s r)))), some (.inr (.inr (some (25 + 2 * (am_s r).toNat)))), none, none]) (st' := [.inl (m1 (25 + 2 * (am_s r).toNat) 2), .inl (((dlen ((tk m 7 2) ((25 + 2 * (am_s r).toNat) + 1)) (nv (vw (tk m 7 2) 7)) ((tk m 7 2) (25 + 2 * (am_s r).toNat) 2).toNat : Nat) : Int))]) (m' := m1) (fun fx hfx o hk => ?_) ?_
      · refine r_ld (pc' := 55) hM_62 d_62_53 rfl rfl ?_
        refine r_gI (pc' := 58) (k0 := 2) hM_62 d_62_55 rfl (gfR_1_144 ((rfRows hz3).2)) ?_
        exact hk
      refine ok_ic (pc' := 64) (pc2 := 61) hM_62 d_62_58 (by decide) rfl (fun hz8 => ?_) (fun hz8 => ?_)
      · have H := H.1 hz8
        obtain ⟨hz9, H⟩ := H
        refine ok_sg (pc' := 72) (ls' := [some (.inr (.inr (some 0))), some (.inl r), some (.inl b), some (.inl ((rfu m (am_s r)))), some (.inr (.inr (some (25 + 2 * (am_s r).toNat)))), none, none]) (st' := [.inl ((if 0 ≤ am_s b ∧ (am_s b).toNat < 2 ^ (m1 2 4).toNat then 1 else 0))]) (m' := m1) (fun fx hfx o hk => ?_) ?_
        · refine r_ld (pc' := 65) hM_62 d_62_64 rfl rfl ?_
          refine r_gR (pc' := 68) (v := 2) hM_62 d_62_65 rfl (by decide +kernel) ?_
          refine r_ld (pc' := 69) hM_62 d_62_68 rfl rfl ?_
          refine r_cl (pc' := 72) (c := (63, 0)) (a := [.inr (.inr (some 2)), .inl b]) (q := []) hM_62 d_62_69 rfl (by decide +kernel) hM_63 rfl rfl rfl (Nat.le_of_ble_eq_true rfl) (Nat.le_of_ble_eq_true rfl) (Or.inr rfl) (n_63 (by decide) m1 b hz9) (Nat.le_of_ble_eq_true rfl) ?_
          show rn fx 4 (0, 0) 62 72 [some (.inr (.inr (some 0))), some (.inl r), some (.inl b), some (.inl ((rfu m (am_s r)))), some (.inr (.inr (some (25 + 2 * (am_s r).toNat)))), none, none] [.inl ((if 0 ≤ am_s b ∧ (am_s b).toNat < 2 ^ (m1 2 4).toNat then 1 else 0))] (st0 m1) o
          exact hk
        refine ok_if (pc' := 78) (pc2 := 75) hM_62 d_62_72 (by decide) rfl (fun hz10 => ?_) (fun hz10 => ?_)
        · have H := H.1 (as_iteN.mp hz10)
          refine ok_sg (pc' := 84) (ls' := [some (.inr (.inr (some 0))), some (.inl r), some (.inl b), none, some (.inr (.inr (some (25 + 2 * (am_s r).toNat)))), some (.inl 0), some (.inl 0)]) (st' := []) (m' := m1) (fun fx hfx o hk => ?_) ?_
          · refine r_k (pc' := 79) (v := .inl 0) hM_62 d_62_78 rfl rfl ?_
            refine r_sto (pc' := 81) (ls' := [some (.inr (.inr (some 0))), some (.inl r), some (.inl b), some (.inl ((rfu m (am_s r)))), some (.inr (.inr (some (25 + 2 * (am_s r).toNat)))), some (.inl 0), none]) hM_62 d_62_79 rfl rfl ?_
            refine r_k (pc' := 82) (v := .inl 0) hM_62 d_62_81 rfl rfl ?_
            refine r_sto (pc' := 84) (ls' := [some (.inr (.inr (some 0))), some (.inl r), some (.inl b), some (.inl ((rfu m (am_s r)))), some (.inr (.inr (some (25 + 2 * (am_s r).toNat)))), some (.inl 0), some (.inl 0)]) hM_62 d_62_82 rfl rfl ?_
            refine rn_wk (a := [some (.inr (.inr (some 0))), some (.inl r), some (.inl b), none, some (.inr (.inr (some (25 + 2 * (am_s r).toNat)))), some (.inl 0), some (.inl 0)]) (by simp only [am_le, and_self]) ?_
            exact hk
          exact H
        · have H := H.2 (as_ite.mp (Decidable.not_not.mp hz10))
          refine ok_sg (pc' := 77) (ls' := [some (.inr (.inr (some 0))), some (.inl r), some (.inl b), some (.inl ((rfu m (am_s r)))), some (.inr (.inr (some (25 + 2 * (am_s r).toNat)))), none, none]) (st' := [.inl (-3)]) (m' := m1) (fun fx hfx o hk => ?_) ?_
          · refine r_k (pc' := 77) (v := .inl (-3)) hM_62 d_62_75 rfl rfl ?_
            exact hk
          exact ok_rt (fun fx _ => rt_i hM_62 d_62_77 rfl) H
      · have H := H.2 hz8
        refine ok_sg (pc' := 63) (ls' := [some (.inr (.inr (some 0))), some (.inl r), some (.inl b), some (.inl ((rfu m (am_s r)))), some (.inr (.inr (some (25 + 2 * (am_s r).toNat)))), none, none]) (st' := [.inl (-5)]) (m' := m1) (fun fx hfx o hk => ?_) ?_
        · refine r_k (pc' := 63) (v := .inl (-5)) hM_62 d_62_61 rfl rfl ?_
          exact hk
        exact ok_rt (fun fx _ => rt_i hM_62 d_62_63 rfl) H
    · have H := H.2 hz4
      refine ok_sg (pc' := 32) (ls' := [some (.inr (.inr (some 0))), some (.inl r), some (.inl b), some (.inl ((rfu m (am_s r)))), some (.inr (.inr (some (25 + 2 * (am_s r).toNat)))), none, none]) (st' := [.inl (-4)]) (m' := m) (fun fx hfx o hk => ?_) ?_
      · refine r_k (pc' := 32) (v := .inl (-4)) hM_62 d_62_30 rfl rfl ?_
        exact hk
      exact ok_rt (fun fx _ => rt_i hM_62 d_62_32 rfl) H
  · have H := H.2 hz2
    refine ok_sg (pc' := 11) (ls' := [some (.inr (.inr (some 0))), some (.inl r), some (.inl b), some (.inl ((rfu m (am_s r)))), none, none, none]) (st' := [.inl ((rfu m (am_s r)))]) (m' := m) (fun fx hfx o hk => ?_) ?_
    · refine r_ld (pc' := 11) hM_62 d_62_10 rfl rfl ?_
      exact hk
    exact ok_rt (fun fx _ => rt_i hM_62 d_62_11 rfl) H
theorem u_197_0 {Q : List am_V → am_M → Prop} {m : am_M} {r : Int} {a : Int}  (H : ((¬ (0 ≤ am_s r ∧ am_s r ≤ 3)) → Q [.inl (-2)] (mu m 53 0 0)) ∧ ((0 ≤ am_s r ∧ am_s r ≤ 3) → ((0 ≤ am_s a ∧ am_s a ≤ 3) → (0 ≤ am_s r ∧ am_s r < (4 : Nat)) ∧ (((¬ am_s (m 73 ((am_s r).toNat)) = (-1)) → ∀ m1 : am_M, m1 = fil (mu m 53 0 0) 58 0 56 ((mu m 53 0 0) 54) → ((WFG (m1 54) ∧ m1 54 1 ≤ 9999) ∧ RWM m1 ∧ 0 ≤ r ∧ r < 4) ∧ (∀ (m2 : am_M), (Q_199 m1 r m2) → (WFG (m2 54)) ∧ (∀ y1 : Int, y1 = (if ¬ am_s a = 0 then (if ¬ am_s a = am_s 1 then (if ¬ am_s a = am_s 2 then ((fil m2 54 0 56 (m2 58)) 53 17) else (((ons (nv (m2 54)) (am_s 1) : Nat) : Int))) else ((fil m2 54 0 56 (m2 58)) 53 16)) else (if ¬ am_s ((fil m2 54 0 56 (m2 58)) 53 16) = 0 then ((dlen (rwf m1 r.toNat) (nv (m1 54)) (m1 74 r.toNat).toNat : Nat) : Int) else (-1))) → Q [.inl y1] (fil m2 54 0 56 (m2 58))))) ∧ ((am_s (m 73 ((am_s r).toNat)) = (-1)) → Q [.inl (-6)] (mu m 53 0 0)))) ∧ ((¬ (0 ≤ am_s a ∧ am_s a ≤ 3)) → Q [.inl (-2)] (mu m 53 0 0)))) : ok 4 197 0 [some (.inr (.inr (some 53))), some (.inl r), some (.inl a), none, none] [] m Q := by
  refine ok_sg (pc' := 14) (ls' := [some (.inr (.inr (some 53))), some (.inl r), some (.inl a), none, none]) (st' := [.inl (if 0 ≤ am_s r ∧ am_s r ≤ 3 then 1 else 0)]) (m' := mu m 53 0 0) (fun fx hfx o hk => ?_) ?_
  · refine r_ld (pc' := 1) hM_197 d_197_0 rfl rfl ?_
    refine r_k (pc' := 2) (v := .inl 0) hM_197 d_197_1 rfl rfl ?_
    refine r_pI (pc' := 5) (k0 := 0) hM_197 d_197_2 rfl (by decide +kernel) ?_
    refine r_ld (pc' := 6) hM_197 d_197_5 rfl rfl ?_
    refine r_stk (pc' := 7) (st' := [.inr (.inl (am_s r))]) hM_197 d_197_6 rfl rfl ?_
    refine r_k (pc' := 8) (v := .inr (.inl 0)) hM_197 d_197_7 rfl rfl ?_
    refine r_k (pc' := 11) (v := .inr (.inl 3)) hM_197 d_197_8 rfl (by decide +kernel) ?_
    refine r_cl (pc' := 14) (c := (167, 2)) (a := [.inr (.inl (am_s r)), .inr (.inl 0), .inr (.inl 3)]) (q := []) hM_197 d_197_11 rfl (by decide +kernel) hM_167 rfl rfl rfl (Nat.le_of_ble_eq_true rfl) (Nat.le_of_ble_eq_true rfl) (Or.inl rfl) (n_167s (mu m 53 0 0) r 0 3 rfl rfl) (Nat.le_of_ble_eq_true rfl) ?_
    show rn fx 4 (0, 0) 197 14 [some (.inr (.inr (some 53))), some (.inl r), some (.inl a), none, none] [.inl (if 0 ≤ am_s r ∧ am_s r ≤ 3 then 1 else 0)] (st0 (mu m 53 0 0)) o
    exact hk
  refine ok_if (pc' := 29) (pc2 := 17) hM_197 d_197_14 (by decide) rfl (fun hz1 => ?_) (fun hz1 => ?_)
  · have H := H.1 (as_ite.mp hz1)
    refine ok_sg (pc' := 31) (ls' := [some (.inr (.inr (some 53))), some (.inl r), some (.inl a), none, none]) (st' := [.inl (-2)]) (m' := mu m 53 0 0) (fun fx hfx o hk => ?_) ?_
    · refine r_k (pc' := 31) (v := .inl (-2)) hM_197 d_197_29 rfl rfl ?_
      exact hk
    exact ok_rt (fun fx _ => rt_i hM_197 d_197_31 rfl) H
  · have H := H.2 (as_iteN.mp hz1)
    refine ok_sg (pc' := 26) (ls' := [some (.inr (.inr (some 53))), some (.inl r), some (.inl a), none, none]) (st' := [.inl (if 0 ≤ am_s a ∧ am_s a ≤ 3 then 1 else 0)]) (m' := mu m 53 0 0) (fun fx hfx o hk => ?_) ?_
    · refine r_ld (pc' := 18) hM_197 d_197_17 rfl rfl ?_
      refine r_stk (pc' := 19) (st' := [.inr (.inl (am_s a))]) hM_197 d_197_18 rfl rfl ?_
      refine r_k (pc' := 20) (v := .inr (.inl 0)) hM_197 d_197_19 rfl rfl ?_
      refine r_k (pc' := 23) (v := .inr (.inl 3)) hM_197 d_197_20 rfl (by decide +kernel) ?_
      refine r_cl (pc' := 26) (c := (167, 2)) (a := [.inr (.inl (am_s a)), .inr (.inl 0), .inr (.inl 3)]) (q := []) hM_197 d_197_23 rfl (by decide +kernel) hM_167 rfl rfl rfl (Nat.le_of_ble_eq_true rfl) (Nat.le_of_ble_eq_true rfl) (Or.inl rfl) (n_167s (mu m 53 0 0) a 0 3 rfl rfl) (Nat.le_of_ble_eq_true rfl) ?_
      show rn fx 4 (0, 0) 197 26 [some (.inr (.inr (some 53))), some (.inl r), some (.inl a), none, none] [.inl (if 0 ≤ am_s a ∧ am_s a ≤ 3 then 1 else 0)] (st0 (mu m 53 0 0)) o
      exact hk
    refine ok_if (pc' := 32) (pc2 := 29) hM_197 d_197_26 (by decide) rfl (fun hz2 => ?_) (fun hz2 => ?_)
    · have H := H.1 (as_iteN.mp hz2)
      obtain ⟨hz3, H⟩ := H
      refine ok_sg (pc' := 39) (ls' := [some (.inr (.inr (some 53))), some (.inl r), some (.inl a), none, none]) (st' := [.inl (-1), .inl (m 73 ((am_s r).toNat))]) (m' := mu m 53 0 0) (fun fx hfx o hk => ?_) ?_
      · refine r_ld (pc' := 33) hM_197 d_197_32 rfl rfl ?_
        refine r_gR (pc' := 36) (v := 73) hM_197 d_197_33 rfl (by decide +kernel) ?_
        refine r_ld (pc' := 37) hM_197 d_197_36 rfl rfl ?_
        refine r_iae (pc' := 38) (n := 4) (z := (m 73 ((am_s r).toNat))) hM_197 d_197_37 rfl rfl hz3 (mu_r (by decide)) ?_
        refine r_k (pc' := 39) (v := .inl (-1)) hM_197 d_197_38 rfl rfl ?_
        exact hk
      refine ok_ic (pc' := 45) (pc2 := 42) hM_197 d_197_39 (by decide) rfl (fun hz4 => ?_) (fun hz4 => ?_)
      · have H := H.1 hz4
        refine ok_sg (pc' := 49) (ls' := [some (.inr (.inr (some 53))), some (.inl r), some (.inl a), none, none]) (st' := []) (m' := fil (mu m 53 0 0) 58 0 56 ((mu m 53 0 0) 54)) (fun fx hfx o hk => ?_) ?_
        · refine r_ld (pc' := 46) hM_197 d_197_45 rfl rfl ?_
          refine r_cl (pc' := 49) (c := (198, 0)) (a := [.inr (.inr (some 53))]) (q := []) hM_197 d_197_46 rfl (by decide +kernel) hM_198 rfl rfl rfl (Nat.le_of_ble_eq_true rfl) (Nat.le_of_ble_eq_true rfl) (Or.inr rfl) (c_198  (mu m 53 0 0) ) (Nat.le_of_ble_eq_true rfl) ?_
          show rn fx 4 (0, 0) 197 49 [some (.inr (.inr (some 53))), some (.inl r), some (.inl a), none, none] [] (st0 (fil (mu m 53 0 0) 58 0 56 ((mu m 53 0 0) 54))) o
          exact hk
        have K : ∀ m1 : am_M, m1 = fil (mu m 53 0 0) 58 0 56 ((mu m 53 0 0) 54) → ok 4 197 49 [some (.inr (.inr (some 53))), some (.inl r), some (.inl a), none, none] [] m1 Q := by
          intro m1 hm1
          replace H := H m1 hm1
          obtain ⟨hz5, H⟩ := H
          refine ok_sg (pc' := 51) (ls' := [some (.inr (.inr (some 53))), some (.inl r), some (.inl a), none, none]) (st' := [.inl r, .inr (.inr (some 53))]) (m' := m1) (fun fx hfx o hk => ?_) ?_
          · refine r_ld (pc' := 50) hM_197 d_197_49 rfl rfl ?_
            refine r_ld (pc' := 51) hM_197 d_197_50 rfl rfl ?_
            exact hk
          refine ok_cl (pc' := 54) (c := (199, 0)) (a := [.inr (.inr (some 53)), .inl r]) (q := []) hM_197 d_197_51 rfl (by decide +kernel) hM_199 rfl rfl rfl (Nat.le_of_ble_eq_true rfl) (Nat.le_of_ble_eq_true rfl) (Or.inr rfl) (z_199  m1 r hz5) (Nat.le_of_ble_eq_true rfl) ?_
          rintro _ m2 ⟨rfl, hz6⟩
          replace H := H  m2 hz6
          show ok 4 197 54 [some (.inr (.inr (some 53))), some (.inl r), some (.inl a), none, none] [.inl ((dlen (rwf m1 r.toNat) (nv (m1 54)) (m1 74 r.toNat).toNat : Nat) : Int)] m2 Q
          obtain ⟨hz7, H⟩ := H
          refine ok_sg (pc' := 67) (ls' := [some (.inr (.inr (some 53))), some (.inl r), some (.inl a), some (.inl ((dlen (rwf m1 r.toNat) (nv (m1 54)) (m1 74 r.toNat).toNat : Nat) : Int)), some (.inl (((ons (nv (m2 54)) (am_s 1) : Nat) : Int)))]) (st' := [.inl a]) (m' := fil m2 54 0 56 (m2 58)) (fun fx hfx o hk => ?_) ?_
          · refine r_sto (pc' := 55) (ls' := [some (.inr (.inr (some 53))), some (.inl r), some (.inl a), some (.inl ((dlen (rwf m1 r.toNat) (nv (m1 54)) (m1 74 r.toNat).toNat : Nat) : Int)), none]) hM_197 d_197_54 rfl rfl ?_
            refine r_ld (pc' := 56) hM_197 d_197_55 rfl rfl ?_
            refine r_k (pc' := 57) (v := .inl 1) hM_197 d_197_56 rfl rfl ?_
            refine r_cl (pc' := 60) (c := (192, 0)) (a := [.inr (.inr (some 53)), .inl 1]) (q := []) hM_197 d_197_57 rfl (by decide +kernel) hM_192 rfl rfl rfl (Nat.le_of_ble_eq_true rfl) (Nat.le_of_ble_eq_true rfl) (Or.inr rfl) (c_192  m2 1 hz7) (Nat.le_of_ble_eq_true rfl) ?_
            show rn fx 4 (0, 0) 197 60 [some (.inr (.inr (some 53))), some (.inl r), some (.inl a), some (.inl ((dlen (rwf m1 r.toNat) (nv (m1 54)) (m1 74 r.toNat).toNat : Nat) : Int)), none] [.inl (((ons (nv (m2 54)) (am_s 1) : Nat) : Int))] (st0 m2) o
            refine r_sto (pc' := 62) (ls' := [some (.inr (.inr (some 53))), some (.inl r), some (.inl a), some (.inl ((dlen (rwf m1 r.toNat) (nv (m1 54)) (m1 74 r.toNat).toNat : Nat) : Int)), some (.inl (((ons (nv (m2 54)) (am_s 1) : Nat) : Int)))]) hM_197 d_197_60 rfl rfl ?_
            refine r_ld (pc' := 63) hM_197 d_197_62 rfl rfl ?_
            refine r_cl (pc' := 66) (c := (200, 0)) (a := [.inr (.inr (some 53))]) (q := []) hM_197 d_197_63 rfl (by decide +kernel) hM_200 rfl rfl rfl (Nat.le_of_ble_eq_true rfl) (Nat.le_of_ble_eq_true rfl) (Or.inr rfl) (c_200  m2 ) (Nat.le_of_ble_eq_true rfl) ?_
            show rn fx 4 (0, 0) 197 66 [some (.inr (.inr (some 53))), some (.inl r), some (.inl a), some (.inl ((dlen (rwf m1 r.toNat) (nv (m1 54)) (m1 74 r.toNat).toNat : Nat) : Int)), some (.inl (((ons (nv (m2 54)) (am_s 1) : Nat) : Int)))] [] (st0 (fil m2 54 0 56 (m2 58))) o
            refine r_ld (pc' := 67) hM_197 d_197_66 rfl rfl ?_
            exact hk
          refine ok_sg (pc' := 111) (ls' := [some (.inr (.inr (some 53))), some (.inl r), some (.inl a), some (.inl ((dlen (rwf m1 r.toNat) (nv (m1 54)) (m1 74 r.toNat).toNat : Nat) : Int)), some (.inl (((ons (nv (m2 54)) (am_s 1) : Nat) : Int)))]) (st' := [.inl (if ¬ am_s a = 0 then (if ¬ am_s a = am_s 1 then (if ¬ am_s a = am_s 2 then ((fil m2 54 0 56 (m2 58)) 53 17) else (((ons (nv (m2 54)) (am_s 1) : Nat) : Int))) else ((fil m2 54 0 56 (m2 58)) 53 16)) else (if ¬ am_s ((fil m2 54 0 56 (m2 58)) 53 16) = 0 then ((dlen (rwf m1 r.toNat) (nv (m1 54)) (m1 74 r.toNat).toNat : Nat) : Int) else (-1)))]) (m' := fil m2 54 0 56 (m2 58)) (fun fx hfx o K => ?_) ?_
          · refine r_if (pc' := 85) (pc2 := 70) hM_197 d_197_67 (by decide) rfl (fun hz8 => ?_) (fun hz8 => ?_)
            · have hz8 : ¬ am_s a = 0 := hz8
              rw [if_pos hz8] at K
              refine r_ld (pc' := 86) hM_197 d_197_85 rfl rfl ?_
              refine r_k (pc' := 87) (v := .inl 1) hM_197 d_197_86 rfl rfl ?_
              refine r_ic (pc' := 97) (pc2 := 90) hM_197 d_197_87 (by decide) rfl (fun hz9 => ?_) (fun hz9 => ?_)
              · have hz9 : ¬ am_s a = am_s 1 := hz9
                rw [if_pos hz9] at K
                refine r_ld (pc' := 98) hM_197 d_197_97 rfl rfl ?_
                refine r_k (pc' := 99) (v := .inl 2) hM_197 d_197_98 rfl rfl ?_
                refine r_ic (pc' := 107) (pc2 := 102) hM_197 d_197_99 (by decide) rfl (fun hz10 => ?_) (fun hz10 => ?_)
                · have hz10 : ¬ am_s a = am_s 2 := hz10
                  rw [if_pos hz10] at K
                  refine r_ld (pc' := 108) hM_197 d_197_107 rfl rfl ?_
                  refine r_gI (pc' := 111) (k0 := 17) hM_197 d_197_108 rfl (by decide +kernel) ?_
                  exact K
                · have hz10 : ¬ (¬ am_s a = am_s 2) := hz10
                  rw [if_neg hz10] at K
                  refine r_ld (pc' := 104) hM_197 d_197_102 rfl rfl ?_
                  refine r_go (pc' := 111) hM_197 d_197_104 (by decide) ?_
                  exact K
              · have hz9 : ¬ (¬ am_s a = am_s 1) := hz9
                rw [if_neg hz9] at K
                refine r_ld (pc' := 91) hM_197 d_197_90 rfl rfl ?_
                refine r_gI (pc' := 94) (k0 := 16) hM_197 d_197_91 rfl (by decide +kernel) ?_
                refine r_go (pc' := 111) hM_197 d_197_94 (by decide) ?_
                exact K
            · have hz8 : ¬ (¬ am_s a = 0) := hz8
              rw [if_neg hz8] at K
              refine r_ld (pc' := 71) hM_197 d_197_70 rfl rfl ?_
              refine r_gI (pc' := 74) (k0 := 16) hM_197 d_197_71 rfl (by decide +kernel) ?_
              refine r_if (pc' := 81) (pc2 := 77) hM_197 d_197_74 (by decide) rfl (fun hz11 => ?_) (fun hz11 => ?_)
              · have hz11 : ¬ am_s ((fil m2 54 0 56 (m2 58)) 53 16) = 0 := hz11
                rw [if_pos hz11] at K
                refine r_ld (pc' := 82) hM_197 d_197_81 rfl rfl ?_
                refine r_go (pc' := 111) hM_197 d_197_82 (by decide) ?_
                exact K
              · have hz11 : ¬ (¬ am_s ((fil m2 54 0 56 (m2 58)) 53 16) = 0) := hz11
                rw [if_neg hz11] at K
                refine r_k (pc' := 78) (v := .inl (-1)) hM_197 d_197_77 rfl rfl ?_
                refine r_go (pc' := 111) hM_197 d_197_78 (by decide) ?_
                exact K
          have K : ∀ y1 : Int, y1 = (if ¬ am_s a = 0 then (if ¬ am_s a = am_s 1 then (if ¬ am_s a = am_s 2 then ((fil m2 54 0 56 (m2 58)) 53 17) else (((ons (nv (m2 54)) (am_s 1) : Nat) : Int))) else ((fil m2 54 0 56 (m2 58)) 53 16)) else (if ¬ am_s ((fil m2 54 0 56 (m2 58)) 53 16) = 0 then ((dlen (rwf m1 r.toNat) (nv (m1 54)) (m1 74 r.toNat).toNat : Nat) : Int) else (-1))) → ok 4 197 111 [some (.inr (.inr (some 53))), some (.inl r), some (.inl a), some (.inl ((dlen (rwf m1 r.toNat) (nv (m1 54)) (m1 74 r.toNat).toNat : Nat) : Int)), some (.inl (((ons (nv (m2 54)) (am_s 1) : Nat) : Int)))] [.inl y1] (fil m2 54 0 56 (m2 58)) Q := by
            intro y1 hy1
            replace H := H y1 hy1
            exact ok_rt (fun fx _ => rt_i hM_197 d_197_111 rfl) H
          exact K _ rfl
        exact K _ rfl
      · have H := H.2 (Decidable.not_not.mp hz4)
        refine ok_sg (pc' := 44) (ls' := [some (.inr (.inr (some 53))), some (.inl r), some (.inl a), none, none]) (st' := [.inl (-6)]) (m' := mu m 53 0 0) (fun fx hfx o hk => ?_) ?_
        · refine r_k (pc' := 44) (v := .inl (-6)) hM_197 d_197_42 rfl rfl ?_
          exact hk
        exact ok_rt (fun fx _ => rt_i hM_197 d_197_44 rfl) H
    · have H := H.2 (as_ite.mp (Decidable.not_not.mp hz2))
      refine ok_sg (pc' := 31) (ls' := [some (.inr (.inr (some 53))), some (.inl r), some (.inl a), none, none]) (st' := [.inl (-2)]) (m' := mu m 53 0 0) (fun fx hfx o hk => ?_) ?_
      · refine r_k (pc' := 31) (v := .inl (-2)) hM_197 d_197_29 rfl rfl ?_
        exact hk
      exact ok_rt (fun fx _ => rt_i hM_197 d_197_31 rfl) H
theorem u_203_26 {Q : List am_V → am_M → Prop} {m : am_M} {n : Int} {i : Int}  (H : ((am_s n ≤ am_s i) → (WFG (m 54)) ∧ (Q [.inl (((ons (nv (m 54)) (am_s 1) : Nat) : Int))] (fil m 54 0 56 (m 58)))) ∧ ((¬ (am_s n ≤ am_s i)) → (WFG (m 54) ∧ 0 ≤ (0 : Int) ∧ (0 : Int) < 4096) ∧ (ok 3 203 26 [some (.inr (.inr (some 53))), some (.inl n), some (.inl (i + 1))] [] (gw m (0 : Int).toNat) Q))) : ok 3 203 26 [some (.inr (.inr (some 53))), some (.inl n), some (.inl i)] [] m Q := by
  refine ok_sg (pc' := 28) (ls' := [some (.inr (.inr (some 53))), some (.inl n), some (.inl i)]) (st' := [.inl n, .inl i]) (m' := m) (fun fx hfx o hk => ?_) ?_
  · refine r_ld (pc' := 27) hM_203 d_203_26 rfl rfl ?_
    refine r_ld (pc' := 28) hM_203 d_203_27 rfl rfl ?_
    exact hk
  refine ok_ic (pc' := 43) (pc2 := 31) hM_203 d_203_28 (by decide) rfl (fun hz1 => ?_) (fun hz1 => ?_)
  · have H := H.1 hz1
    obtain ⟨hz2, H⟩ := H
    refine ok_sg (pc' := 54) (ls' := [some (.inr (.inr (some 53))), some (.inl n), some (.inl (((ons (nv (m 54)) (am_s 1) : Nat) : Int)))]) (st' := [.inl (((ons (nv (m 54)) (am_s 1) : Nat) : Int))]) (m' := fil m 54 0 56 (m 58)) (fun fx hfx o hk => ?_) ?_
    · refine r_ld (pc' := 44) hM_203 d_203_43 rfl rfl ?_
      refine r_k (pc' := 45) (v := .inl 1) hM_203 d_203_44 rfl rfl ?_
      refine r_cl (pc' := 48) (c := (192, 0)) (a := [.inr (.inr (some 53)), .inl 1]) (q := []) hM_203 d_203_45 rfl (by decide +kernel) hM_192 rfl rfl rfl (Nat.le_of_ble_eq_true rfl) (Nat.le_of_ble_eq_true rfl) (Or.inr rfl) (c_192  m 1 hz2) (Nat.le_of_ble_eq_true rfl) ?_
      show rn fx 3 (0, 0) 203 48 [some (.inr (.inr (some 53))), some (.inl n), some (.inl i)] [.inl (((ons (nv (m 54)) (am_s 1) : Nat) : Int))] (st0 m) o
      refine r_sto (pc' := 49) (ls' := [some (.inr (.inr (some 53))), some (.inl n), some (.inl (((ons (nv (m 54)) (am_s 1) : Nat) : Int)))]) hM_203 d_203_48 rfl rfl ?_
      refine r_ld (pc' := 50) hM_203 d_203_49 rfl rfl ?_
      refine r_cl (pc' := 53) (c := (200, 0)) (a := [.inr (.inr (some 53))]) (q := []) hM_203 d_203_50 rfl (by decide +kernel) hM_200 rfl rfl rfl (Nat.le_of_ble_eq_true rfl) (Nat.le_of_ble_eq_true rfl) (Or.inr rfl) (c_200  m ) (Nat.le_of_ble_eq_true rfl) ?_
      show rn fx 3 (0, 0) 203 53 [some (.inr (.inr (some 53))), some (.inl n), some (.inl (((ons (nv (m 54)) (am_s 1) : Nat) : Int)))] [] (st0 (fil m 54 0 56 (m 58))) o
      refine r_ld (pc' := 54) hM_203 d_203_53 rfl rfl ?_
      exact hk
    exact ok_rt (fun fx _ => rt_i hM_203 d_203_54 rfl) H
  · have H := H.2 hz1
    obtain ⟨hz3, H⟩ := H
    refine ok_sg (pc' := 26) (ls' := [some (.inr (.inr (some 53))), some (.inl n), some (.inl (i + 1))]) (st' := []) (m' := gw m (0 : Int).toNat) (fun fx hfx o hk => ?_) ?_
    · refine r_ld (pc' := 32) hM_203 d_203_31 rfl rfl ?_
      refine r_k (pc' := 33) (v := .inl 0) hM_203 d_203_32 rfl rfl ?_
      refine r_cl (pc' := 36) (c := (195, 0)) (a := [.inr (.inr (some 53)), .inl 0]) (q := []) hM_203 d_203_33 rfl (by decide +kernel) hM_195 rfl rfl rfl (Nat.le_of_ble_eq_true rfl) (Nat.le_of_ble_eq_true rfl) (Or.inr rfl) (n_195  m 0 hz3) (Nat.le_of_ble_eq_true rfl) ?_
      show rn fx 3 (0, 0) 203 36 [some (.inr (.inr (some 53))), some (.inl n), some (.inl i)] [.inl (dyn (0 : Int).toNat (nv (m 54)))] (st0 (gw m (0 : Int).toNat)) o
      refine r_stk (pc' := 37) (st' := []) hM_203 d_203_36 rfl rfl ?_
      refine r_sto (pc' := 40) (ls' := [some (.inr (.inr (some 53))), some (.inl n), some (.inl (i + 1))]) hM_203 d_203_37 rfl rfl ?_
      refine r_go (pc' := 26) hM_203 d_203_40 (by decide) ?_
      exact hk
    exact H
theorem u_203_0 {Q : List am_V → am_M → Prop} {m : am_M} {n : Int}  (H : ((0 ≤ am_s n ∧ am_s n ≤ 30) → ∀ m1 : am_M, m1 = fil (mu m 53 0 0) 58 0 56 ((mu m 53 0 0) 54) → ok 3 203 26 [some (.inr (.inr (some 53))), some (.inl n), some (.inl 0)] [] m1 Q) ∧ ((¬ (0 ≤ am_s n ∧ am_s n ≤ 30)) → Q [.inl (-3)] (mu m 53 0 0))) : ok 3 203 0 [some (.inr (.inr (some 53))), some (.inl n), none] [] m Q := by
  refine ok_sg (pc' := 14) (ls' := [some (.inr (.inr (some 53))), some (.inl n), none]) (st' := [.inl (if 0 ≤ am_s n ∧ am_s n ≤ 30 then 1 else 0)]) (m' := mu m 53 0 0) (fun fx hfx o hk => ?_) ?_
  · refine r_ld (pc' := 1) hM_203 d_203_0 rfl rfl ?_
    refine r_k (pc' := 2) (v := .inl 0) hM_203 d_203_1 rfl rfl ?_
    refine r_pI (pc' := 5) (k0 := 0) hM_203 d_203_2 rfl (by decide +kernel) ?_
    refine r_ld (pc' := 6) hM_203 d_203_5 rfl rfl ?_
    refine r_stk (pc' := 7) (st' := [.inr (.inl (am_s n))]) hM_203 d_203_6 rfl rfl ?_
    refine r_k (pc' := 8) (v := .inr (.inl 0)) hM_203 d_203_7 rfl rfl ?_
    refine r_k (pc' := 11) (v := .inr (.inl 30)) hM_203 d_203_8 rfl (by decide +kernel) ?_
    refine r_cl (pc' := 14) (c := (167, 2)) (a := [.inr (.inl (am_s n)), .inr (.inl 0), .inr (.inl 30)]) (q := []) hM_203 d_203_11 rfl (by decide +kernel) hM_167 rfl rfl rfl (Nat.le_of_ble_eq_true rfl) (Nat.le_of_ble_eq_true rfl) (Or.inl rfl) (n_167s (mu m 53 0 0) n 0 30 rfl rfl) (Nat.le_of_ble_eq_true rfl) ?_
    show rn fx 3 (0, 0) 203 14 [some (.inr (.inr (some 53))), some (.inl n), none] [.inl (if 0 ≤ am_s n ∧ am_s n ≤ 30 then 1 else 0)] (st0 (mu m 53 0 0)) o
    exact hk
  refine ok_if (pc' := 20) (pc2 := 17) hM_203 d_203_14 (by decide) rfl (fun hz1 => ?_) (fun hz1 => ?_)
  · have H := H.1 (as_iteN.mp hz1)
    refine ok_sg (pc' := 24) (ls' := [some (.inr (.inr (some 53))), some (.inl n), none]) (st' := []) (m' := fil (mu m 53 0 0) 58 0 56 ((mu m 53 0 0) 54)) (fun fx hfx o hk => ?_) ?_
    · refine r_ld (pc' := 21) hM_203 d_203_20 rfl rfl ?_
      refine r_cl (pc' := 24) (c := (198, 0)) (a := [.inr (.inr (some 53))]) (q := []) hM_203 d_203_21 rfl (by decide +kernel) hM_198 rfl rfl rfl (Nat.le_of_ble_eq_true rfl) (Nat.le_of_ble_eq_true rfl) (Or.inr rfl) (c_198  (mu m 53 0 0) ) (Nat.le_of_ble_eq_true rfl) ?_
      show rn fx 3 (0, 0) 203 24 [some (.inr (.inr (some 53))), some (.inl n), none] [] (st0 (fil (mu m 53 0 0) 58 0 56 ((mu m 53 0 0) 54))) o
      exact hk
    have K : ∀ m1 : am_M, m1 = fil (mu m 53 0 0) 58 0 56 ((mu m 53 0 0) 54) → ok 3 203 24 [some (.inr (.inr (some 53))), some (.inl n), none] [] m1 Q := by
      intro m1 hm1
      replace H := H m1 hm1
      refine ok_sg (pc' := 26) (ls' := [some (.inr (.inr (some 53))), some (.inl n), some (.inl 0)]) (st' := []) (m' := m1) (fun fx hfx o hk => ?_) ?_
      · refine r_k (pc' := 25) (v := .inl 0) hM_203 d_203_24 rfl rfl ?_
        refine r_sto (pc' := 26) (ls' := [some (.inr (.inr (some 53))), some (.inl n), some (.inl 0)]) hM_203 d_203_25 rfl rfl ?_
        exact hk
      exact H
    exact K _ rfl
  · have H := H.2 (as_ite.mp (Decidable.not_not.mp hz1))
    refine ok_sg (pc' := 19) (ls' := [some (.inr (.inr (some 53))), some (.inl n), none]) (st' := [.inl (-3)]) (m' := mu m 53 0 0) (fun fx hfx o hk => ?_) ?_
    · refine r_k (pc' := 19) (v := .inl (-3)) hM_203 d_203_17 rfl rfl ?_
      exact hk
    exact ok_rt (fun fx _ => rt_i hM_203 d_203_19 rfl) H
theorem u_204_113 {Q : List am_V → am_M → Prop} {m : am_M} {r : Int} {b : Int} {x : Int} {k : Int} {j : Int}  (H : (0 ≤ am_s r ∧ am_s r < (4 : Nat)) ∧ (((am_s (m 74 ((am_s r).toNat)) ≤ am_s j) → (WFG (m 54)) ∧ (∀ y1 : Int, y1 = (if ¬ am_s (((ons (nv (m 54)) (am_s 1) : Nat) : Int)) = am_s b then 0 else (am_shl 1 k)) → ok 4 204 99 [some (.inr (.inr (some 53))), some (.inl r), some (.inl b), some (.inl (am_or x y1)), some (.inl (k + 1)), none] [] (fil m 54 0 56 (m 58)) Q)) ∧ ((¬ (am_s (m 74 ((am_s r).toNat)) ≤ am_s j)) → ((¬ am_s j = am_s k) → (0 ≤ am_s ((40 * r) + j) ∧ am_s ((40 * r) + j) < (160 : Nat))) ∧ (∀ y2 : Int, y2 = (if ¬ am_s j = am_s k then (m 75 ((am_s ((40 * r) + j)).toNat)) else 0) → (WFG (m 54) ∧ 0 ≤ y2 ∧ y2 < 4096) ∧ (ok 4 204 113 [some (.inr (.inr (some 53))), some (.inl r), some (.inl b), some (.inl x), some (.inl k), some (.inl (j + 1))] [] (gw m y2.toNat) Q))))) : ok 4 204 113 [some (.inr (.inr (some 53))), some (.inl r), some (.inl b), some (.inl x), some (.inl k), some (.inl j)] [] m Q := by
  obtain ⟨hz1, H⟩ := H
  refine ok_sg (pc' := 121) (ls' := [some (.inr (.inr (some 53))), some (.inl r), some (.inl b), some (.inl x), some (.inl k), some (.inl j)]) (st' := [.inl (m 74 ((am_s r).toNat)), .inl j]) (m' := m) (fun fx hfx o hk => ?_) ?_
  · refine r_ld (pc' := 115) hM_204 d_204_113 rfl rfl ?_
    refine r_ld (pc' := 116) hM_204 d_204_115 rfl rfl ?_
    refine r_gR (pc' := 119) (v := 74) hM_204 d_204_116 rfl (by decide +kernel) ?_
    refine r_ld (pc' := 120) hM_204 d_204_119 rfl rfl ?_
    refine r_ia (pc' := 121) (n := 4) hM_204 d_204_120 rfl rfl hz1 ?_
    exact hk
  refine ok_ic (pc' := 159) (pc2 := 124) hM_204 d_204_121 (by decide) rfl (fun hz2 => ?_) (fun hz2 => ?_)
  · have H := H.1 hz2
    obtain ⟨hz3, H⟩ := H
    refine ok_sg (pc' := 166) (ls' := [some (.inr (.inr (some 53))), some (.inl r), some (.inl b), some (.inl x), some (.inl k), some (.inl j)]) (st' := [.inl b, .inl (((ons (nv (m 54)) (am_s 1) : Nat) : Int)), .inl x]) (m' := m) (fun fx hfx o hk => ?_) ?_
    · refine r_ld (pc' := 160) hM_204 d_204_159 rfl rfl ?_
      refine r_ld (pc' := 161) hM_204 d_204_160 rfl rfl ?_
      refine r_k (pc' := 162) (v := .inl 1) hM_204 d_204_161 rfl rfl ?_
      refine r_cl (pc' := 165) (c := (192, 0)) (a := [.inr (.inr (some 53)), .inl 1]) (q := [.inl x]) hM_204 d_204_162 rfl (by decide +kernel) hM_192 rfl rfl rfl (Nat.le_of_ble_eq_true rfl) (Nat.le_of_ble_eq_true rfl) (Or.inr rfl) (c_192  m 1 hz3) (Nat.le_of_ble_eq_true rfl) ?_
      show rn fx 4 (0, 0) 204 165 [some (.inr (.inr (some 53))), some (.inl r), some (.inl b), some (.inl x), some (.inl k), some (.inl j)] [.inl (((ons (nv (m 54)) (am_s 1) : Nat) : Int)), .inl x] (st0 m) o
      refine r_ld (pc' := 166) hM_204 d_204_165 rfl rfl ?_
      exact hk
    refine ok_sg (pc' := 177) (ls' := [some (.inr (.inr (some 53))), some (.inl r), some (.inl b), some (.inl x), some (.inl k), some (.inl j)]) (st' := [.inl (if ¬ am_s (((ons (nv (m 54)) (am_s 1) : Nat) : Int)) = am_s b then 0 else (am_shl 1 k)), .inl x]) (m' := m) (fun fx hfx o K => ?_) ?_
    · refine r_ic (pc' := 176) (pc2 := 169) hM_204 d_204_166 (by decide) rfl (fun hz4 => ?_) (fun hz4 => ?_)
      · have hz4 : ¬ am_s (((ons (nv (m 54)) (am_s 1) : Nat) : Int)) = am_s b := hz4
        rw [if_pos hz4] at K
        refine r_k (pc' := 177) (v := .inl 0) hM_204 d_204_176 rfl rfl ?_
        exact K
      · have hz4 : ¬ (¬ am_s (((ons (nv (m 54)) (am_s 1) : Nat) : Int)) = am_s b) := hz4
        rw [if_neg hz4] at K
        refine r_k (pc' := 170) (v := .inl 1) hM_204 d_204_169 rfl rfl ?_
        refine r_ld (pc' := 172) hM_204 d_204_170 rfl rfl ?_
        refine r_b (pc' := 173) (z := (am_shl 1 k)) hM_204 d_204_172 rfl rfl ?_
        refine r_go (pc' := 177) hM_204 d_204_173 (by decide) ?_
        exact K
    have K : ∀ y1 : Int, y1 = (if ¬ am_s (((ons (nv (m 54)) (am_s 1) : Nat) : Int)) = am_s b then 0 else (am_shl 1 k)) → ok 4 204 177 [some (.inr (.inr (some 53))), some (.inl r), some (.inl b), some (.inl x), some (.inl k), some (.inl j)] [.inl y1, .inl x] m Q := by
      intro y1 hy1
      replace H := H y1 hy1
      refine ok_sg (pc' := 99) (ls' := [some (.inr (.inr (some 53))), some (.inl r), some (.inl b), some (.inl (am_or x y1)), some (.inl (k + 1)), none]) (st' := []) (m' := fil m 54 0 56 (m 58)) (fun fx hfx o hk => ?_) ?_
      · refine r_b (pc' := 178) (z := (am_or x y1)) hM_204 d_204_177 rfl rfl ?_
        refine r_sto (pc' := 179) (ls' := [some (.inr (.inr (some 53))), some (.inl r), some (.inl b), some (.inl (am_or x y1)), some (.inl k), some (.inl j)]) hM_204 d_204_178 rfl rfl ?_
        refine r_ld (pc' := 180) hM_204 d_204_179 rfl rfl ?_
        refine r_cl (pc' := 183) (c := (200, 0)) (a := [.inr (.inr (some 53))]) (q := []) hM_204 d_204_180 rfl (by decide +kernel) hM_200 rfl rfl rfl (Nat.le_of_ble_eq_true rfl) (Nat.le_of_ble_eq_true rfl) (Or.inr rfl) (c_200  m ) (Nat.le_of_ble_eq_true rfl) ?_
        show rn fx 4 (0, 0) 204 183 [some (.inr (.inr (some 53))), some (.inl r), some (.inl b), some (.inl (am_or x y1)), some (.inl k), some (.inl j)] [] (st0 (fil m 54 0 56 (m 58))) o
        refine r_sto (pc' := 186) (ls' := [some (.inr (.inr (some 53))), some (.inl r), some (.inl b), some (.inl (am_or x y1)), some (.inl (k + 1)), some (.inl j)]) hM_204 d_204_183 rfl rfl ?_
        refine r_go (pc' := 99) hM_204 d_204_186 (by decide) ?_
        refine rn_wk (a := [some (.inr (.inr (some 53))), some (.inl r), some (.inl b), some (.inl (am_or x y1)), some (.inl (k + 1)), none]) (by simp only [am_le, and_self]) ?_
        exact hk
      exact H
    exact K _ rfl
  · have H := H.2 hz2
    obtain ⟨hz6, H⟩ := H
    refine ok_sg (pc' := 129) (ls' := [some (.inr (.inr (some 53))), some (.inl r), some (.inl b), some (.inl x), some (.inl k), some (.inl j)]) (st' := [.inl k, .inl j, .inr (.inr (some 53))]) (m' := m) (fun fx hfx o hk => ?_) ?_
    · refine r_ld (pc' := 125) hM_204 d_204_124 rfl rfl ?_
      refine r_ld (pc' := 127) hM_204 d_204_125 rfl rfl ?_
      refine r_ld (pc' := 129) hM_204 d_204_127 rfl rfl ?_
      exact hk
    refine ok_sg (pc' := 149) (ls' := [some (.inr (.inr (some 53))), some (.inl r), some (.inl b), some (.inl x), some (.inl k), some (.inl j)]) (st' := [.inl (if ¬ am_s j = am_s k then (m 75 ((am_s ((40 * r) + j)).toNat)) else 0), .inr (.inr (some 53))]) (m' := m) (fun fx hfx o K => ?_) ?_
    · refine r_ic (pc' := 136) (pc2 := 132) hM_204 d_204_129 (by decide) rfl (fun hz5 => ?_) (fun hz5 => ?_)
      · have hz5 : ¬ am_s j = am_s k := hz5
        rw [if_pos hz5] at K
        refine r_ld (pc' := 137) hM_204 d_204_136 rfl rfl ?_
        refine r_gR (pc' := 140) (v := 75) hM_204 d_204_137 rfl (by decide +kernel) ?_
        refine r_k (pc' := 142) (v := .inl 40) hM_204 d_204_140 rfl rfl ?_
        refine r_ld (pc' := 143) hM_204 d_204_142 rfl rfl ?_
        refine r_b (pc' := 144) (z := (40 * r)) hM_204 d_204_143 rfl rfl ?_
        refine r_ld (pc' := 146) hM_204 d_204_144 rfl rfl ?_
        refine r_b (pc' := 147) (z := ((40 * r) + j)) hM_204 d_204_146 rfl rfl ?_
        refine r_la (pc' := 148) (n := 160) hM_204 d_204_147 rfl rfl (hz6 hz5) ?_
        refine r_stk (pc' := 149) (st' := [.inl (m 75 ((am_s ((40 * r) + j)).toNat)), .inr (.inr (some 53))]) hM_204 d_204_148 rfl rfl ?_
        exact K
      · have hz5 : ¬ (¬ am_s j = am_s k) := hz5
        rw [if_neg hz5] at K
        refine r_k (pc' := 133) (v := .inl 0) hM_204 d_204_132 rfl rfl ?_
        refine r_go (pc' := 149) hM_204 d_204_133 (by decide) ?_
        exact K
    have K : ∀ y2 : Int, y2 = (if ¬ am_s j = am_s k then (m 75 ((am_s ((40 * r) + j)).toNat)) else 0) → ok 4 204 149 [some (.inr (.inr (some 53))), some (.inl r), some (.inl b), some (.inl x), some (.inl k), some (.inl j)] [.inl y2, .inr (.inr (some 53))] m Q := by
      intro y2 hy2
      replace H := H y2 hy2
      obtain ⟨hz7, H⟩ := H
      refine ok_sg (pc' := 113) (ls' := [some (.inr (.inr (some 53))), some (.inl r), some (.inl b), some (.inl x), some (.inl k), some (.inl (j + 1))]) (st' := []) (m' := gw m y2.toNat) (fun fx hfx o hk => ?_) ?_
      · refine r_cl (pc' := 152) (c := (195, 0)) (a := [.inr (.inr (some 53)), .inl y2]) (q := []) hM_204 d_204_149 rfl (by decide +kernel) hM_195 rfl rfl rfl (Nat.le_of_ble_eq_true rfl) (Nat.le_of_ble_eq_true rfl) (Or.inr rfl) (n_195  m y2 hz7) (Nat.le_of_ble_eq_true rfl) ?_
        show rn fx 4 (0, 0) 204 152 [some (.inr (.inr (some 53))), some (.inl r), some (.inl b), some (.inl x), some (.inl k), some (.inl j)] [.inl (dyn y2.toNat (nv (m 54)))] (st0 (gw m y2.toNat)) o
        refine r_stk (pc' := 153) (st' := []) hM_204 d_204_152 rfl rfl ?_
        refine r_sto (pc' := 156) (ls' := [some (.inr (.inr (some 53))), some (.inl r), some (.inl b), some (.inl x), some (.inl k), some (.inl (j + 1))]) hM_204 d_204_153 rfl rfl ?_
        refine r_go (pc' := 113) hM_204 d_204_156 (by decide) ?_
        exact hk
      exact H
    exact K _ rfl
theorem u_204_99 {Q : List am_V → am_M → Prop} {m : am_M} {r : Int} {b : Int} {x : Int} {k : Int}  (H : (0 ≤ am_s r ∧ am_s r < (4 : Nat)) ∧ (((am_s (m 74 ((am_s r).toNat)) ≤ am_s k) → Q [.inl x] m) ∧ ((¬ (am_s (m 74 ((am_s r).toNat)) ≤ am_s k)) → ok 4 204 113 [some (.inr (.inr (some 53))), some (.inl r), some (.inl b), some (.inl x), some (.inl k), some (.inl 0)] [] m Q))) : ok 4 204 99 [some (.inr (.inr (some 53))), some (.inl r), some (.inl b), some (.inl x), some (.inl k), none] [] m Q := by
  obtain ⟨hz1, H⟩ := H
  refine ok_sg (pc' := 107) (ls' := [some (.inr (.inr (some 53))), some (.inl r), some (.inl b), some (.inl x), some (.inl k), none]) (st' := [.inl (m 74 ((am_s r).toNat)), .inl k]) (m' := m) (fun fx hfx o hk => ?_) ?_
  · refine r_ld (pc' := 101) hM_204 d_204_99 rfl rfl ?_
    refine r_ld (pc' := 102) hM_204 d_204_101 rfl rfl ?_
    refine r_gR (pc' := 105) (v := 74) hM_204 d_204_102 rfl (by decide +kernel) ?_
    refine r_ld (pc' := 106) hM_204 d_204_105 rfl rfl ?_
    refine r_ia (pc' := 107) (n := 4) hM_204 d_204_106 rfl rfl hz1 ?_
    exact hk
  refine ok_ic (pc' := 189) (pc2 := 110) hM_204 d_204_107 (by decide) rfl (fun hz2 => ?_) (fun hz2 => ?_)
  · have H := H.1 hz2
    refine ok_sg (pc' := 190) (ls' := [some (.inr (.inr (some 53))), some (.inl r), some (.inl b), some (.inl x), some (.inl k), none]) (st' := [.inl x]) (m' := m) (fun fx hfx o hk => ?_) ?_
    · refine r_ld (pc' := 190) hM_204 d_204_189 rfl rfl ?_
      exact hk
    exact ok_rt (fun fx _ => rt_i hM_204 d_204_190 rfl) H
  · have H := H.2 hz2
    refine ok_sg (pc' := 113) (ls' := [some (.inr (.inr (some 53))), some (.inl r), some (.inl b), some (.inl x), some (.inl k), some (.inl 0)]) (st' := []) (m' := m) (fun fx hfx o hk => ?_) ?_
    · refine r_k (pc' := 111) (v := .inl 0) hM_204 d_204_110 rfl rfl ?_
      refine r_sto (pc' := 113) (ls' := [some (.inr (.inr (some 53))), some (.inl r), some (.inl b), some (.inl x), some (.inl k), some (.inl 0)]) hM_204 d_204_111 rfl rfl ?_
      exact hk
    exact H
theorem u_204_0 {Q : List am_V → am_M → Prop} {m : am_M} {r : Int} {b : Int}  (H : ((0 ≤ am_s r ∧ am_s r ≤ 3) → (0 ≤ am_s r ∧ am_s r < (4 : Nat)) ∧ (((¬ am_s (m 73 ((am_s r).toNat)) = (-1)) → ((am_s (m 74 ((am_s r).toNat)) ≤ 12) → ∀ m1 : am_M, m1 = fil (mu m 53 0 0) 58 0 56 ((mu m 53 0 0) 54) → ((WFG (m1 54) ∧ m1 54 1 ≤ 9999) ∧ RWM m1 ∧ 0 ≤ r ∧ r < 4) ∧ (∀ (m2 : am_M), (Q_199 m1 r m2) → ((am_s ((fil m2 54 0 56 (m2 58)) 53 16) = 0) → ((am_t 0 ≤ am_t (am_s b) ∧ am_t (am_s b) ≤ am_t (am_s ((am_shl 1 ((fil m2 54 0 56 (m2 58)) 54 0)) - 1))) → ok 4 204 99 [some (.inr (.inr (some 53))), some (.inl r), some (.inl b), some (.inl 0), some (.inl 0), none] [] (fil m2 54 0 56 (m2 58)) Q) ∧ ((¬ (am_t 0 ≤ am_t (am_s b) ∧ am_t (am_s b) ≤ am_t (am_s ((am_shl 1 ((fil m2 54 0 56 (m2 58)) 54 0)) - 1)))) → Q [.inl (-3)] (fil m2 54 0 56 (m2 58)))) ∧ ((¬ (am_s ((fil m2 54 0 56 (m2 58)) 53 16) = 0)) → Q [.inl (-5)] (fil m2 54 0 56 (m2 58))))) ∧ ((¬ (am_s (m 74 ((am_s r).toNat)) ≤ 12)) → Q [.inl (-4)] (mu m 53 0 0))) ∧ ((am_s (m 73 ((am_s r).toNat)) = (-1)) → Q [.inl (-6)] (mu m 53 0 0)))) ∧ ((¬ (0 ≤ am_s r ∧ am_s r ≤ 3)) → Q [.inl (-2)] (mu m 53 0 0))) : ok 4 204 0 [some (.inr (.inr (some 53))), some (.inl r), some (.inl b), none, none, none] [] m Q := by
  refine ok_sg (pc' := 14) (ls' := [some (.inr (.inr (some 53))), some (.inl r), some (.inl b), none, none, none]) (st' := [.inl (if 0 ≤ am_s r ∧ am_s r ≤ 3 then 1 else 0)]) (m' := mu m 53 0 0) (fun fx hfx o hk => ?_) ?_
  · refine r_ld (pc' := 1) hM_204 d_204_0 rfl rfl ?_
    refine r_k (pc' := 2) (v := .inl 0) hM_204 d_204_1 rfl rfl ?_
    refine r_pI (pc' := 5) (k0 := 0) hM_204 d_204_2 rfl (by decide +kernel) ?_
    refine r_ld (pc' := 6) hM_204 d_204_5 rfl rfl ?_
    refine r_stk (pc' := 7) (st' := [.inr (.inl (am_s r))]) hM_204 d_204_6 rfl rfl ?_
    refine r_k (pc' := 8) (v := .inr (.inl 0)) hM_204 d_204_7 rfl rfl ?_
    refine r_k (pc' := 11) (v := .inr (.inl 3)) hM_204 d_204_8 rfl (by decide +kernel) ?_
    refine r_cl (pc' := 14) (c := (167, 2)) (a := [.inr (.inl (am_s r)), .inr (.inl 0), .inr (.inl 3)]) (q := []) hM_204 d_204_11 rfl (by decide +kernel) hM_167 rfl rfl rfl (Nat.le_of_ble_eq_true rfl) (Nat.le_of_ble_eq_true rfl) (Or.inl rfl) (n_167s (mu m 53 0 0) r 0 3 rfl rfl) (Nat.le_of_ble_eq_true rfl) ?_
    show rn fx 4 (0, 0) 204 14 [some (.inr (.inr (some 53))), some (.inl r), some (.inl b), none, none, none] [.inl (if 0 ≤ am_s r ∧ am_s r ≤ 3 then 1 else 0)] (st0 (mu m 53 0 0)) o
    exact hk
  refine ok_if (pc' := 20) (pc2 := 17) hM_204 d_204_14 (by decide) rfl (fun hz1 => ?_) (fun hz1 => ?_)
  · have H := H.1 (as_iteN.mp hz1)
    obtain ⟨hz2, H⟩ := H
    refine ok_sg (pc' := 27) (ls' := [some (.inr (.inr (some 53))), some (.inl r), some (.inl b), none, none, none]) (st' := [.inl (-1), .inl (m 73 ((am_s r).toNat))]) (m' := mu m 53 0 0) (fun fx hfx o hk => ?_) ?_
    · refine r_ld (pc' := 21) hM_204 d_204_20 rfl rfl ?_
      refine r_gR (pc' := 24) (v := 73) hM_204 d_204_21 rfl (by decide +kernel) ?_
      refine r_ld (pc' := 25) hM_204 d_204_24 rfl rfl ?_
      refine r_iae (pc' := 26) (n := 4) (z := (m 73 ((am_s r).toNat))) hM_204 d_204_25 rfl rfl hz2 (mu_r (by decide)) ?_
      refine r_k (pc' := 27) (v := .inl (-1)) hM_204 d_204_26 rfl rfl ?_
      exact hk
    refine ok_ic (pc' := 33) (pc2 := 30) hM_204 d_204_27 (by decide) rfl (fun hz3 => ?_) (fun hz3 => ?_)
    · have H := H.1 hz3
      refine ok_sg (pc' := 41) (ls' := [some (.inr (.inr (some 53))), some (.inl r), some (.inl b), none, none, none]) (st' := [.inl 12, .inl (m 74 ((am_s r).toNat))]) (m' := mu m 53 0 0) (fun fx hfx o hk => ?_) ?_
      · refine r_ld (pc' := 34) hM_204 d_204_33 rfl rfl ?_
        refine r_gR (pc' := 37) (v := 74) hM_204 d_204_34 rfl (by decide +kernel) ?_
        refine r_ld (pc' := 38) hM_204 d_204_37 rfl rfl ?_
        refine r_iae (pc' := 39) (n := 4) (z := (m 74 ((am_s r).toNat))) hM_204 d_204_38 rfl rfl hz2 (mu_r (by decide)) ?_
        refine r_k (pc' := 41) (v := .inl 12) hM_204 d_204_39 rfl rfl ?_
        exact hk
      refine ok_ic (pc' := 47) (pc2 := 44) hM_204 d_204_41 (by decide) rfl (fun hz4 => ?_) (fun hz4 => ?_)
      · have H := H.1 hz4
        refine ok_sg (pc' := 51) (ls' := [some (.inr (.inr (some 53))), some (.inl r), some (.inl b), none, none, none]) (st' := []) (m' := fil (mu m 53 0 0) 58 0 56 ((mu m 53 0 0) 54)) (fun fx hfx o hk => ?_) ?_
        · refine r_ld (pc' := 48) hM_204 d_204_47 rfl rfl ?_
          refine r_cl (pc' := 51) (c := (198, 0)) (a := [.inr (.inr (some 53))]) (q := []) hM_204 d_204_48 rfl (by decide +kernel) hM_198 rfl rfl rfl (Nat.le_of_ble_eq_true rfl) (Nat.le_of_ble_eq_true rfl) (Or.inr rfl) (c_198  (mu m 53 0 0) ) (Nat.le_of_ble_eq_true rfl) ?_
          show rn fx 4 (0, 0) 204 51 [some (.inr (.inr (some 53))), some (.inl r), some (.inl b), none, none, none] [] (st0 (fil (mu m 53 0 0) 58 0 56 ((mu m 53 0 0) 54))) o
          exact hk
        have K : ∀ m1 : am_M, m1 = fil (mu m 53 0 0) 58 0 56 ((mu m 53 0 0) 54) → ok 4 204 51 [some (.inr (.inr (some 53))), some (.inl r), some (.inl b), none, none, none] [] m1 Q := by
          intro m1 hm1
          replace H := H m1 hm1
          obtain ⟨hz5, H⟩ := H
          refine ok_sg (pc' := 53) (ls' := [some (.inr (.inr (some 53))), some (.inl r), some (.inl b), none, none, none]) (st' := [.inl r, .inr (.inr (some 53))]) (m' := m1) (fun fx hfx o hk => ?_) ?_
          · refine r_ld (pc' := 52) hM_204 d_204_51 rfl rfl ?_
            refine r_ld (pc' := 53) hM_204 d_204_52 rfl rfl ?_
            exact hk
          refine ok_cl (pc' := 56) (c := (199, 0)) (a := [.inr (.inr (some 53)), .inl r]) (q := []) hM_204 d_204_53 rfl (by decide +kernel) hM_199 rfl rfl rfl (Nat.le_of_ble_eq_true rfl) (Nat.le_of_ble_eq_true rfl) (Or.inr rfl) (z_199  m1 r hz5) (Nat.le_of_ble_eq_true rfl) ?_
          rintro _ m2 ⟨rfl, hz6⟩
          replace H := H  m2 hz6
          show ok 4 204 56 [some (.inr (.inr (some 53))), some (.inl r), some (.inl b), none, none, none] [.inl ((dlen (rwf m1 r.toNat) (nv (m1 54)) (m1 74 r.toNat).toNat : Nat) : Int)] m2 Q
          refine ok_sg (pc' := 65) (ls' := [some (.inr (.inr (some 53))), some (.inl r), some (.inl b), none, none, none]) (st' := [.inl ((fil m2 54 0 56 (m2 58)) 53 16)]) (m' := fil m2 54 0 56 (m2 58)) (fun fx hfx o hk => ?_) ?_
          · refine r_stk (pc' := 57) (st' := []) hM_204 d_204_56 rfl rfl ?_
            refine r_ld (pc' := 58) hM_204 d_204_57 rfl rfl ?_
            refine r_cl (pc' := 61) (c := (200, 0)) (a := [.inr (.inr (some 53))]) (q := []) hM_204 d_204_58 rfl (by decide +kernel) hM_200 rfl rfl rfl (Nat.le_of_ble_eq_true rfl) (Nat.le_of_ble_eq_true rfl) (Or.inr rfl) (c_200  m2 ) (Nat.le_of_ble_eq_true rfl) ?_
            show rn fx 4 (0, 0) 204 61 [some (.inr (.inr (some 53))), some (.inl r), some (.inl b), none, none, none] [] (st0 (fil m2 54 0 56 (m2 58))) o
            refine r_ld (pc' := 62) hM_204 d_204_61 rfl rfl ?_
            refine r_gI (pc' := 65) (k0 := 16) hM_204 d_204_62 rfl (by decide +kernel) ?_
            exact hk
          refine ok_if (pc' := 71) (pc2 := 68) hM_204 d_204_65 (by decide) rfl (fun hz7 => ?_) (fun hz7 => ?_)
          · have H := H.1 hz7
            refine ok_sg (pc' := 88) (ls' := [some (.inr (.inr (some 53))), some (.inl r), some (.inl b), none, none, none]) (st' := [.inl ((if am_t 0 ≤ am_t (am_s b) ∧ am_t (am_s b) ≤ am_t (am_s ((am_shl 1 ((fil m2 54 0 56 (m2 58)) 54 0)) - 1)) then 1 else 0))]) (m' := fil m2 54 0 56 (m2 58)) (fun fx hfx o hk => ?_) ?_
            · refine r_ld (pc' := 72) hM_204 d_204_71 rfl rfl ?_
              refine r_stk (pc' := 73) (st' := [.inr (.inl (am_s b))]) hM_204 d_204_72 rfl rfl ?_
              refine r_k (pc' := 74) (v := .inr (.inl 0)) hM_204 d_204_73 rfl rfl ?_
              refine r_k (pc' := 75) (v := .inl 1) hM_204 d_204_74 rfl rfl ?_
              refine r_ld (pc' := 76) hM_204 d_204_75 rfl rfl ?_
              refine r_gR (pc' := 79) (v := 54) hM_204 d_204_76 rfl (by decide +kernel) ?_
              refine r_k (pc' := 80) (v := .inl 0) hM_204 d_204_79 rfl rfl ?_
              refine r_iae (pc' := 81) (n := 168) (z := ((fil m2 54 0 56 (m2 58)) 54 0)) hM_204 d_204_80 rfl rfl (by decide) (by rw [show (am_s 0).toNat = 0 by decide]) ?_
              refine r_b (pc' := 82) (z := (am_shl 1 ((fil m2 54 0 56 (m2 58)) 54 0))) hM_204 d_204_81 rfl rfl ?_
              refine r_k (pc' := 83) (v := .inl 1) hM_204 d_204_82 rfl rfl ?_
              refine r_b (pc' := 84) (z := ((am_shl 1 ((fil m2 54 0 56 (m2 58)) 54 0)) - 1)) hM_204 d_204_83 rfl rfl ?_
              refine r_stk (pc' := 85) (st' := [.inr (.inl (am_s ((am_shl 1 ((fil m2 54 0 56 (m2 58)) 54 0)) - 1))), .inr (.inl 0), .inr (.inl (am_s b))]) hM_204 d_204_84 rfl rfl ?_
              refine r_cl (pc' := 88) (c := (167, 2)) (a := [.inr (.inl (am_s b)), .inr (.inl 0), .inr (.inl (am_s ((am_shl 1 ((fil m2 54 0 56 (m2 58)) 54 0)) - 1)))]) (q := []) hM_204 d_204_85 rfl (by decide +kernel) hM_167 rfl rfl rfl (Nat.le_of_ble_eq_true rfl) (Nat.le_of_ble_eq_true rfl) (Or.inl rfl) (n_167  (fil m2 54 0 56 (m2 58)) (am_s b) 0 (am_s ((am_shl 1 ((fil m2 54 0 56 (m2 58)) 54 0)) - 1))) (Nat.le_of_ble_eq_true rfl) ?_
              show rn fx 4 (0, 0) 204 88 [some (.inr (.inr (some 53))), some (.inl r), some (.inl b), none, none, none] [.inl ((if am_t 0 ≤ am_t (am_s b) ∧ am_t (am_s b) ≤ am_t (am_s ((am_shl 1 ((fil m2 54 0 56 (m2 58)) 54 0)) - 1)) then 1 else 0))] (st0 (fil m2 54 0 56 (m2 58))) o
              exact hk
            refine ok_if (pc' := 94) (pc2 := 91) hM_204 d_204_88 (by decide) rfl (fun hz8 => ?_) (fun hz8 => ?_)
            · have H := H.1 (as_iteN.mp hz8)
              refine ok_sg (pc' := 99) (ls' := [some (.inr (.inr (some 53))), some (.inl r), some (.inl b), some (.inl 0), some (.inl 0), none]) (st' := []) (m' := fil m2 54 0 56 (m2 58)) (fun fx hfx o hk => ?_) ?_
              · refine r_k (pc' := 95) (v := .inl 0) hM_204 d_204_94 rfl rfl ?_
                refine r_sto (pc' := 96) (ls' := [some (.inr (.inr (some 53))), some (.inl r), some (.inl b), some (.inl 0), none, none]) hM_204 d_204_95 rfl rfl ?_
                refine r_k (pc' := 97) (v := .inl 0) hM_204 d_204_96 rfl rfl ?_
                refine r_sto (pc' := 99) (ls' := [some (.inr (.inr (some 53))), some (.inl r), some (.inl b), some (.inl 0), some (.inl 0), none]) hM_204 d_204_97 rfl rfl ?_
                exact hk
              exact H
            · have H := H.2 (as_ite.mp (Decidable.not_not.mp hz8))
              refine ok_sg (pc' := 93) (ls' := [some (.inr (.inr (some 53))), some (.inl r), some (.inl b), none, none, none]) (st' := [.inl (-3)]) (m' := fil m2 54 0 56 (m2 58)) (fun fx hfx o hk => ?_) ?_
              · refine r_k (pc' := 93) (v := .inl (-3)) hM_204 d_204_91 rfl rfl ?_
                exact hk
              exact ok_rt (fun fx _ => rt_i hM_204 d_204_93 rfl) H
          · have H := H.2 hz7
            refine ok_sg (pc' := 70) (ls' := [some (.inr (.inr (some 53))), some (.inl r), some (.inl b), none, none, none]) (st' := [.inl (-5)]) (m' := fil m2 54 0 56 (m2 58)) (fun fx hfx o hk => ?_) ?_
            · refine r_k (pc' := 70) (v := .inl (-5)) hM_204 d_204_68 rfl rfl ?_
              exact hk
            exact ok_rt (fun fx _ => rt_i hM_204 d_204_70 rfl) H
        exact K _ rfl
      · have H := H.2 hz4
        refine ok_sg (pc' := 46) (ls' := [some (.inr (.inr (some 53))), some (.inl r), some (.inl b), none, none, none]) (st' := [.inl (-4)]) (m' := mu m 53 0 0) (fun fx hfx o hk => ?_) ?_
        · refine r_k (pc' := 46) (v := .inl (-4)) hM_204 d_204_44 rfl rfl ?_
          exact hk
        exact ok_rt (fun fx _ => rt_i hM_204 d_204_46 rfl) H
    · have H := H.2 (Decidable.not_not.mp hz3)
      refine ok_sg (pc' := 32) (ls' := [some (.inr (.inr (some 53))), some (.inl r), some (.inl b), none, none, none]) (st' := [.inl (-6)]) (m' := mu m 53 0 0) (fun fx hfx o hk => ?_) ?_
      · refine r_k (pc' := 32) (v := .inl (-6)) hM_204 d_204_30 rfl rfl ?_
        exact hk
      exact ok_rt (fun fx _ => rt_i hM_204 d_204_32 rfl) H
  · have H := H.2 (as_ite.mp (Decidable.not_not.mp hz1))
    refine ok_sg (pc' := 19) (ls' := [some (.inr (.inr (some 53))), some (.inl r), some (.inl b), none, none, none]) (st' := [.inl (-2)]) (m' := mu m 53 0 0) (fun fx hfx o hk => ?_) ?_
    · refine r_k (pc' := 19) (v := .inl (-2)) hM_204 d_204_17 rfl rfl ?_
      exact hk
    exact ok_rt (fun fx _ => rt_i hM_204 d_204_19 rfl) H
theorem u_202_57 {Q : List am_V → am_M → Prop} {m : am_M} {a : Int} {n : Int} {x : Int} {y : Int} {i : Int} {b : Int} {p : Int}  (H : ((am_s (m 54 0) ≤ am_s p) → (WFG (m 54) ∧ 0 ≤ b ∧ b < 4096) ∧ (ok 3 202 45 [some (.inr (.inr (some 53))), some (.inl a), some (.inl n), some (.inl x), some (.inl (y + (dyn b.toNat (nv (m 54))))), some (.inl (i + 1)), none, none] [] (gw m b.toNat) Q)) ∧ ((¬ (am_s (m 54 0) ≤ am_s p)) → (0 ≤ am_s (8 + p) ∧ am_s (8 + p) < (168 : Nat)) ∧ (((am_s (m 54 ((am_s (8 + p)).toNat)) = 3) → ok 3 202 57 [some (.inr (.inr (some 53))), some (.inl a), some (.inl n), some (.inl x), some (.inl y), some (.inl i), some (.inl b), some (.inl (p + 1))] [] m Q) ∧ ((¬ (am_s (m 54 ((am_s (8 + p)).toNat)) = 3)) → (0 ≤ (am_s b) ∧ (am_s b) < 2147483648) ∧ (((¬ am_s (((cnt (am_s b).toNat 12 : Nat) : Int)) = am_s (m 54 4)) → ∀ y1 : Int, y1 = (if ¬ am_s (am_rem (am_ushr ((1103515245 * x) + 12345) 16) 2) = 1 then 0 else (am_shl 1 p)) → ok 3 202 57 [some (.inr (.inr (some 53))), some (.inl a), some (.inl n), some (.inl ((1103515245 * x) + 12345)), some (.inl y), some (.inl i), some (.inl (am_or b y1)), some (.inl (p + 1))] [] m Q) ∧ ((am_s (((cnt (am_s b).toNat 12 : Nat) : Int)) = am_s (m 54 4)) → ok 3 202 57 [some (.inr (.inr (some 53))), some (.inl a), some (.inl n), some (.inl x), some (.inl y), some (.inl i), some (.inl b), some (.inl (p + 1))] [] m Q)))))) : ok 3 202 57 [some (.inr (.inr (some 53))), some (.inl a), some (.inl n), some (.inl x), some (.inl y), some (.inl i), some (.inl b), some (.inl p)] [] m Q := by
  refine ok_sg (pc' := 65) (ls' := [some (.inr (.inr (some 53))), some (.inl a), some (.inl n), some (.inl x), some (.inl y), some (.inl i), some (.inl b), some (.inl p)]) (st' := [.inl (m 54 0), .inl p]) (m' := m) (fun fx hfx o hk => ?_) ?_
  · refine r_ld (pc' := 59) hM_202 d_202_57 rfl rfl ?_
    refine r_ld (pc' := 60) hM_202 d_202_59 rfl rfl ?_
    refine r_gR (pc' := 63) (v := 54) hM_202 d_202_60 rfl (by decide +kernel) ?_
    refine r_k (pc' := 64) (v := .inl 0) hM_202 d_202_63 rfl rfl ?_
    refine r_iae (pc' := 65) (n := 168) (z := (m 54 0)) hM_202 d_202_64 rfl rfl (by decide) (by rw [show (am_s 0).toNat = 0 by decide]) ?_
    exact hk
  refine ok_ic (pc' := 138) (pc2 := 68) hM_202 d_202_65 (by decide) rfl (fun hz1 => ?_) (fun hz1 => ?_)
  · have H := H.1 hz1
    obtain ⟨hz2, H⟩ := H
    refine ok_sg (pc' := 45) (ls' := [some (.inr (.inr (some 53))), some (.inl a), some (.inl n), some (.inl x), some (.inl (y + (dyn b.toNat (nv (m 54))))), some (.inl (i + 1)), none, none]) (st' := []) (m' := gw m b.toNat) (fun fx hfx o hk => ?_) ?_
    · refine r_ld (pc' := 140) hM_202 d_202_138 rfl rfl ?_
      refine r_ld (pc' := 141) hM_202 d_202_140 rfl rfl ?_
      refine r_ld (pc' := 143) hM_202 d_202_141 rfl rfl ?_
      refine r_cl (pc' := 146) (c := (195, 0)) (a := [.inr (.inr (some 53)), .inl b]) (q := [.inl y]) hM_202 d_202_143 rfl (by decide +kernel) hM_195 rfl rfl rfl (Nat.le_of_ble_eq_true rfl) (Nat.le_of_ble_eq_true rfl) (Or.inr rfl) (n_195  m b hz2) (Nat.le_of_ble_eq_true rfl) ?_
      show rn fx 3 (0, 0) 202 146 [some (.inr (.inr (some 53))), some (.inl a), some (.inl n), some (.inl x), some (.inl y), some (.inl i), some (.inl b), some (.inl p)] [.inl (dyn b.toNat (nv (m 54))), .inl y] (st0 (gw m b.toNat)) o
      refine r_b (pc' := 147) (z := (y + (dyn b.toNat (nv (m 54))))) hM_202 d_202_146 rfl rfl ?_
      refine r_sto (pc' := 149) (ls' := [some (.inr (.inr (some 53))), some (.inl a), some (.inl n), some (.inl x), some (.inl (y + (dyn b.toNat (nv (m 54))))), some (.inl i), some (.inl b), some (.inl p)]) hM_202 d_202_147 rfl rfl ?_
      refine r_sto (pc' := 152) (ls' := [some (.inr (.inr (some 53))), some (.inl a), some (.inl n), some (.inl x), some (.inl (y + (dyn b.toNat (nv (m 54))))), some (.inl (i + 1)), some (.inl b), some (.inl p)]) hM_202 d_202_149 rfl rfl ?_
      refine r_go (pc' := 45) hM_202 d_202_152 (by decide) ?_
      refine rn_wk (a := [some (.inr (.inr (some 53))), some (.inl a), some (.inl n), some (.inl x), some (.inl (y + (dyn b.toNat (nv (m 54))))), some (.inl (i + 1)), none, none]) (by simp only [am_le, and_self]) ?_
      exact hk
    exact H
  · have H := H.2 hz1
    obtain ⟨hz3, H⟩ := H
    refine ok_sg (pc' := 79) (ls' := [some (.inr (.inr (some 53))), some (.inl a), some (.inl n), some (.inl x), some (.inl y), some (.inl i), some (.inl b), some (.inl p)]) (st' := [.inl 3, .inl (m 54 ((am_s (8 + p)).toNat))]) (m' := m) (fun fx hfx o hk => ?_) ?_
    · refine r_ld (pc' := 69) hM_202 d_202_68 rfl rfl ?_
      refine r_gR (pc' := 72) (v := 54) hM_202 d_202_69 rfl (by decide +kernel) ?_
      refine r_k (pc' := 74) (v := .inl 8) hM_202 d_202_72 rfl rfl ?_
      refine r_ld (pc' := 76) hM_202 d_202_74 rfl rfl ?_
      refine r_b (pc' := 77) (z := (8 + p)) hM_202 d_202_76 rfl rfl ?_
      refine r_ia (pc' := 78) (n := 168) hM_202 d_202_77 rfl rfl hz3 ?_
      refine r_k (pc' := 79) (v := .inl 3) hM_202 d_202_78 rfl rfl ?_
      exact hk
    refine ok_ic (pc' := 132) (pc2 := 82) hM_202 d_202_79 (by decide) rfl (fun hz4 => ?_) (fun hz4 => ?_)
    · have H := H.1 hz4
      refine ok_sg (pc' := 57) (ls' := [some (.inr (.inr (some 53))), some (.inl a), some (.inl n), some (.inl x), some (.inl y), some (.inl i), some (.inl b), some (.inl (p + 1))]) (st' := []) (m' := m) (fun fx hfx o hk => ?_) ?_
      · refine r_sto (pc' := 135) (ls' := [some (.inr (.inr (some 53))), some (.inl a), some (.inl n), some (.inl x), some (.inl y), some (.inl i), some (.inl b), some (.inl (p + 1))]) hM_202 d_202_132 rfl rfl ?_
        refine r_go (pc' := 57) hM_202 d_202_135 (by decide) ?_
        exact hk
      exact H
    · have H := H.2 hz4
      obtain ⟨hz5, H⟩ := H
      refine ok_sg (pc' := 94) (ls' := [some (.inr (.inr (some 53))), some (.inl a), some (.inl n), some (.inl x), some (.inl y), some (.inl i), some (.inl b), some (.inl p)]) (st' := [.inl (m 54 4), .inl (((cnt (am_s b).toNat 12 : Nat) : Int))]) (m' := m) (fun fx hfx o hk => ?_) ?_
      · refine r_ld (pc' := 84) hM_202 d_202_82 rfl rfl ?_
        refine r_stk (pc' := 85) (st' := [.inr (.inl (am_s b))]) hM_202 d_202_84 rfl rfl ?_
        refine r_cl (pc' := 88) (c := (193, 2)) (a := [.inr (.inl (am_s b))]) (q := []) hM_202 d_202_85 rfl (by decide +kernel) hM_193 rfl rfl rfl (Nat.le_of_ble_eq_true rfl) (Nat.le_of_ble_eq_true rfl) (Or.inl rfl) (c_193  m (am_s b) hz5) (Nat.le_of_ble_eq_true rfl) ?_
        show rn fx 3 (0, 0) 202 88 [some (.inr (.inr (some 53))), some (.inl a), some (.inl n), some (.inl x), some (.inl y), some (.inl i), some (.inl b), some (.inl p)] [.inl (((cnt (am_s b).toNat 12 : Nat) : Int))] (st0 m) o
        refine r_ld (pc' := 89) hM_202 d_202_88 rfl rfl ?_
        refine r_gR (pc' := 92) (v := 54) hM_202 d_202_89 rfl (by decide +kernel) ?_
        refine r_k (pc' := 93) (v := .inl 4) hM_202 d_202_92 rfl rfl ?_
        refine r_iae (pc' := 94) (n := 168) (z := (m 54 4)) hM_202 d_202_93 rfl rfl (by decide) (by rw [show (am_s 4).toNat = 4 by decide]) ?_
        exact hk
      refine ok_ic (pc' := 100) (pc2 := 97) hM_202 d_202_94 (by decide) rfl (fun hz6 => ?_) (fun hz6 => ?_)
      · have H := H.1 hz6
        refine ok_sg (pc' := 118) (ls' := [some (.inr (.inr (some 53))), some (.inl a), some (.inl n), some (.inl ((1103515245 * x) + 12345)), some (.inl y), some (.inl i), some (.inl b), some (.inl p)]) (st' := [.inl 1, .inl (am_rem (am_ushr ((1103515245 * x) + 12345) 16) 2), .inl b]) (m' := m) (fun fx hfx o hk => ?_) ?_
        · refine r_k (pc' := 102) (v := .inl 1103515245) hM_202 d_202_100 rfl (by decide +kernel) ?_
          refine r_ld (pc' := 103) hM_202 d_202_102 rfl rfl ?_
          refine r_b (pc' := 104) (z := (1103515245 * x)) hM_202 d_202_103 rfl rfl ?_
          refine r_k (pc' := 107) (v := .inl 12345) hM_202 d_202_104 rfl rfl ?_
          refine r_b (pc' := 108) (z := ((1103515245 * x) + 12345)) hM_202 d_202_107 rfl rfl ?_
          refine r_sto (pc' := 109) (ls' := [some (.inr (.inr (some 53))), some (.inl a), some (.inl n), some (.inl ((1103515245 * x) + 12345)), some (.inl y), some (.inl i), some (.inl b), some (.inl p)]) hM_202 d_202_108 rfl rfl ?_
          refine r_ld (pc' := 111) hM_202 d_202_109 rfl rfl ?_
          refine r_ld (pc' := 112) hM_202 d_202_111 rfl rfl ?_
          refine r_k (pc' := 114) (v := .inl 16) hM_202 d_202_112 rfl rfl ?_
          refine r_b (pc' := 115) (z := (am_ushr ((1103515245 * x) + 12345) 16)) hM_202 d_202_114 rfl rfl ?_
          refine r_k (pc' := 116) (v := .inl 2) hM_202 d_202_115 rfl rfl ?_
          refine r_rem (pc' := 117) hM_202 d_202_116 rfl (by decide) ?_
          refine r_k (pc' := 118) (v := .inl 1) hM_202 d_202_117 rfl rfl ?_
          exact hk
        refine ok_sg (pc' := 129) (ls' := [some (.inr (.inr (some 53))), some (.inl a), some (.inl n), some (.inl ((1103515245 * x) + 12345)), some (.inl y), some (.inl i), some (.inl b), some (.inl p)]) (st' := [.inl (if ¬ am_s (am_rem (am_ushr ((1103515245 * x) + 12345) 16) 2) = 1 then 0 else (am_shl 1 p)), .inl b]) (m' := m) (fun fx hfx o K => ?_) ?_
        · refine r_ic (pc' := 128) (pc2 := 121) hM_202 d_202_118 (by decide) rfl (fun hz7 => ?_) (fun hz7 => ?_)
          · have hz7 : ¬ am_s (am_rem (am_ushr ((1103515245 * x) + 12345) 16) 2) = 1 := hz7
            rw [if_pos hz7] at K
            refine r_k (pc' := 129) (v := .inl 0) hM_202 d_202_128 rfl rfl ?_
            exact K
          · have hz7 : ¬ (¬ am_s (am_rem (am_ushr ((1103515245 * x) + 12345) 16) 2) = 1) := hz7
            rw [if_neg hz7] at K
            refine r_k (pc' := 122) (v := .inl 1) hM_202 d_202_121 rfl rfl ?_
            refine r_ld (pc' := 124) hM_202 d_202_122 rfl rfl ?_
            refine r_b (pc' := 125) (z := (am_shl 1 p)) hM_202 d_202_124 rfl rfl ?_
            refine r_go (pc' := 129) hM_202 d_202_125 (by decide) ?_
            exact K
        have K : ∀ y1 : Int, y1 = (if ¬ am_s (am_rem (am_ushr ((1103515245 * x) + 12345) 16) 2) = 1 then 0 else (am_shl 1 p)) → ok 3 202 129 [some (.inr (.inr (some 53))), some (.inl a), some (.inl n), some (.inl ((1103515245 * x) + 12345)), some (.inl y), some (.inl i), some (.inl b), some (.inl p)] [.inl y1, .inl b] m Q := by
          intro y1 hy1
          replace H := H y1 hy1
          refine ok_sg (pc' := 57) (ls' := [some (.inr (.inr (some 53))), some (.inl a), some (.inl n), some (.inl ((1103515245 * x) + 12345)), some (.inl y), some (.inl i), some (.inl (am_or b y1)), some (.inl (p + 1))]) (st' := []) (m' := m) (fun fx hfx o hk => ?_) ?_
          · refine r_b (pc' := 130) (z := (am_or b y1)) hM_202 d_202_129 rfl rfl ?_
            refine r_sto (pc' := 132) (ls' := [some (.inr (.inr (some 53))), some (.inl a), some (.inl n), some (.inl ((1103515245 * x) + 12345)), some (.inl y), some (.inl i), some (.inl (am_or b y1)), some (.inl p)]) hM_202 d_202_130 rfl rfl ?_
            refine r_sto (pc' := 135) (ls' := [some (.inr (.inr (some 53))), some (.inl a), some (.inl n), some (.inl ((1103515245 * x) + 12345)), some (.inl y), some (.inl i), some (.inl (am_or b y1)), some (.inl (p + 1))]) hM_202 d_202_132 rfl rfl ?_
            refine r_go (pc' := 57) hM_202 d_202_135 (by decide) ?_
            exact hk
          exact H
        exact K _ rfl
      · have H := H.2 (Decidable.not_not.mp hz6)
        refine ok_sg (pc' := 57) (ls' := [some (.inr (.inr (some 53))), some (.inl a), some (.inl n), some (.inl x), some (.inl y), some (.inl i), some (.inl b), some (.inl (p + 1))]) (st' := []) (m' := m) (fun fx hfx o hk => ?_) ?_
        · refine r_go (pc' := 132) hM_202 d_202_97 (by decide) ?_
          refine r_sto (pc' := 135) (ls' := [some (.inr (.inr (some 53))), some (.inl a), some (.inl n), some (.inl x), some (.inl y), some (.inl i), some (.inl b), some (.inl (p + 1))]) hM_202 d_202_132 rfl rfl ?_
          refine r_go (pc' := 57) hM_202 d_202_135 (by decide) ?_
          exact hk
        exact H
theorem u_202_45 {Q : List am_V → am_M → Prop} {m : am_M} {a : Int} {n : Int} {x : Int} {y : Int} {i : Int}  (H : ((am_s n ≤ am_s i) → Q [.inl y] m) ∧ ((¬ (am_s n ≤ am_s i)) → ok 3 202 57 [some (.inr (.inr (some 53))), some (.inl a), some (.inl n), some (.inl x), some (.inl y), some (.inl i), some (.inl 0), some (.inl 0)] [] m Q)) : ok 3 202 45 [some (.inr (.inr (some 53))), some (.inl a), some (.inl n), some (.inl x), some (.inl y), some (.inl i), none, none] [] m Q := by
  refine ok_sg (pc' := 48) (ls' := [some (.inr (.inr (some 53))), some (.inl a), some (.inl n), some (.inl x), some (.inl y), some (.inl i), none, none]) (st' := [.inl n, .inl i]) (m' := m) (fun fx hfx o hk => ?_) ?_
  · refine r_ld (pc' := 47) hM_202 d_202_45 rfl rfl ?_
    refine r_ld (pc' := 48) hM_202 d_202_47 rfl rfl ?_
    exact hk
  refine ok_ic (pc' := 155) (pc2 := 51) hM_202 d_202_48 (by decide) rfl (fun hz1 => ?_) (fun hz1 => ?_)
  · have H := H.1 hz1
    refine ok_sg (pc' := 157) (ls' := [some (.inr (.inr (some 53))), some (.inl a), some (.inl n), some (.inl x), some (.inl y), some (.inl i), none, none]) (st' := [.inl y]) (m' := m) (fun fx hfx o hk => ?_) ?_
    · refine r_ld (pc' := 157) hM_202 d_202_155 rfl rfl ?_
      exact hk
    exact ok_rt (fun fx _ => rt_i hM_202 d_202_157 rfl) H
  · have H := H.2 hz1
    refine ok_sg (pc' := 57) (ls' := [some (.inr (.inr (some 53))), some (.inl a), some (.inl n), some (.inl x), some (.inl y), some (.inl i), some (.inl 0), some (.inl 0)]) (st' := []) (m' := m) (fun fx hfx o hk => ?_) ?_
    · refine r_k (pc' := 52) (v := .inl 0) hM_202 d_202_51 rfl rfl ?_
      refine r_sto (pc' := 54) (ls' := [some (.inr (.inr (some 53))), some (.inl a), some (.inl n), some (.inl x), some (.inl y), some (.inl i), some (.inl 0), none]) hM_202 d_202_52 rfl rfl ?_
      refine r_k (pc' := 55) (v := .inl 0) hM_202 d_202_54 rfl rfl ?_
      refine r_sto (pc' := 57) (ls' := [some (.inr (.inr (some 53))), some (.inl a), some (.inl n), some (.inl x), some (.inl y), some (.inl i), some (.inl 0), some (.inl 0)]) hM_202 d_202_55 rfl rfl ?_
      exact hk
    exact H
theorem u_202_0 {Q : List am_V → am_M → Prop} {m : am_M} {a : Int} {n : Int}  (H : ((1 ≤ am_s n ∧ am_s n ≤ 30) → ((am_s ((m 54 1) + n) ≤ 9999) → ok 3 202 45 [some (.inr (.inr (some 53))), some (.inl a), some (.inl n), some (.inl a), some (.inl 0), some (.inl 0), none, none] [] (mu m 53 0 0) Q) ∧ ((¬ (am_s ((m 54 1) + n) ≤ 9999)) → Q [.inl (-5)] (mu m 53 0 0))) ∧ ((¬ (1 ≤ am_s n ∧ am_s n ≤ 30)) → Q [.inl (-3)] (mu m 53 0 0))) : ok 3 202 0 [some (.inr (.inr (some 53))), some (.inl a), some (.inl n), none, none, none, none, none] [] m Q := by
  refine ok_sg (pc' := 14) (ls' := [some (.inr (.inr (some 53))), some (.inl a), some (.inl n), none, none, none, none, none]) (st' := [.inl (if 1 ≤ am_s n ∧ am_s n ≤ 30 then 1 else 0)]) (m' := mu m 53 0 0) (fun fx hfx o hk => ?_) ?_
  · refine r_ld (pc' := 1) hM_202 d_202_0 rfl rfl ?_
    refine r_k (pc' := 2) (v := .inl 0) hM_202 d_202_1 rfl rfl ?_
    refine r_pI (pc' := 5) (k0 := 0) hM_202 d_202_2 rfl (by decide +kernel) ?_
    refine r_ld (pc' := 6) hM_202 d_202_5 rfl rfl ?_
    refine r_stk (pc' := 7) (st' := [.inr (.inl (am_s n))]) hM_202 d_202_6 rfl rfl ?_
    refine r_k (pc' := 8) (v := .inr (.inl 1)) hM_202 d_202_7 rfl rfl ?_
    refine r_k (pc' := 11) (v := .inr (.inl 30)) hM_202 d_202_8 rfl (by decide +kernel) ?_
    refine r_cl (pc' := 14) (c := (167, 2)) (a := [.inr (.inl (am_s n)), .inr (.inl 1), .inr (.inl 30)]) (q := []) hM_202 d_202_11 rfl (by decide +kernel) hM_167 rfl rfl rfl (Nat.le_of_ble_eq_true rfl) (Nat.le_of_ble_eq_true rfl) (Or.inl rfl) (n_167s (mu m 53 0 0) n 1 30 rfl rfl) (Nat.le_of_ble_eq_true rfl) ?_
    show rn fx 3 (0, 0) 202 14 [some (.inr (.inr (some 53))), some (.inl a), some (.inl n), none, none, none, none, none] [.inl (if 1 ≤ am_s n ∧ am_s n ≤ 30 then 1 else 0)] (st0 (mu m 53 0 0)) o
    exact hk
  refine ok_if (pc' := 20) (pc2 := 17) hM_202 d_202_14 (by decide) rfl (fun hz1 => ?_) (fun hz1 => ?_)
  · have H := H.1 (as_iteN.mp hz1)
    refine ok_sg (pc' := 31) (ls' := [some (.inr (.inr (some 53))), some (.inl a), some (.inl n), none, none, none, none, none]) (st' := [.inl 9999, .inl ((m 54 1) + n)]) (m' := mu m 53 0 0) (fun fx hfx o hk => ?_) ?_
    · refine r_ld (pc' := 21) hM_202 d_202_20 rfl rfl ?_
      refine r_gR (pc' := 24) (v := 54) hM_202 d_202_21 rfl (by decide +kernel) ?_
      refine r_k (pc' := 25) (v := .inl 1) hM_202 d_202_24 rfl rfl ?_
      refine r_iae (pc' := 26) (n := 168) (z := (m 54 1)) hM_202 d_202_25 rfl rfl (by decide) (by rw [show (am_s 1).toNat = 1 by decide]; exact mu_r (by decide)) ?_
      refine r_ld (pc' := 27) hM_202 d_202_26 rfl rfl ?_
      refine r_b (pc' := 28) (z := ((m 54 1) + n)) hM_202 d_202_27 rfl rfl ?_
      refine r_k (pc' := 31) (v := .inl 9999) hM_202 d_202_28 rfl rfl ?_
      exact hk
    refine ok_ic (pc' := 37) (pc2 := 34) hM_202 d_202_31 (by decide) rfl (fun hz2 => ?_) (fun hz2 => ?_)
    · have H := H.1 hz2
      refine ok_sg (pc' := 45) (ls' := [some (.inr (.inr (some 53))), some (.inl a), some (.inl n), some (.inl a), some (.inl 0), some (.inl 0), none, none]) (st' := []) (m' := mu m 53 0 0) (fun fx hfx o hk => ?_) ?_
      · refine r_ld (pc' := 38) hM_202 d_202_37 rfl rfl ?_
        refine r_sto (pc' := 39) (ls' := [some (.inr (.inr (some 53))), some (.inl a), some (.inl n), some (.inl a), none, none, none, none]) hM_202 d_202_38 rfl rfl ?_
        refine r_k (pc' := 40) (v := .inl 0) hM_202 d_202_39 rfl rfl ?_
        refine r_sto (pc' := 42) (ls' := [some (.inr (.inr (some 53))), some (.inl a), some (.inl n), some (.inl a), some (.inl 0), none, none, none]) hM_202 d_202_40 rfl rfl ?_
        refine r_k (pc' := 43) (v := .inl 0) hM_202 d_202_42 rfl rfl ?_
        refine r_sto (pc' := 45) (ls' := [some (.inr (.inr (some 53))), some (.inl a), some (.inl n), some (.inl a), some (.inl 0), some (.inl 0), none, none]) hM_202 d_202_43 rfl rfl ?_
        exact hk
      exact H
    · have H := H.2 hz2
      refine ok_sg (pc' := 36) (ls' := [some (.inr (.inr (some 53))), some (.inl a), some (.inl n), none, none, none, none, none]) (st' := [.inl (-5)]) (m' := mu m 53 0 0) (fun fx hfx o hk => ?_) ?_
      · refine r_k (pc' := 36) (v := .inl (-5)) hM_202 d_202_34 rfl rfl ?_
        exact hk
      exact ok_rt (fun fx _ => rt_i hM_202 d_202_36 rfl) H
  · have H := H.2 (as_ite.mp (Decidable.not_not.mp hz1))
    refine ok_sg (pc' := 19) (ls' := [some (.inr (.inr (some 53))), some (.inl a), some (.inl n), none, none, none, none, none]) (st' := [.inl (-3)]) (m' := mu m 53 0 0) (fun fx hfx o hk => ?_) ?_
    · refine r_k (pc' := 19) (v := .inl (-3)) hM_202 d_202_17 rfl rfl ?_
      exact hk
    exact ok_rt (fun fx _ => rt_i hM_202 d_202_19 rfl) H
theorem u_60_61 {Q : List am_V → am_M → Prop} {m : am_M} {a : Int} {n : Int} {x : Int} {y : Int} {i : Int} {b : Int} {c : Int} {p : Int}  (H : ((am_s (m 2 4) ≤ am_s p) → (WFG (vw m 2) ∧ 0 ≤ b ∧ b < 4096) ∧ (ok 2 60 40 [some (.inr (.inr (some 0))), some (.inl a), some (.inl n), some (.inl x), some (.inl (y + (dyn b.toNat (nv (vw m 2))))), some (.inl (i + 1)), none, none, none] [] (pw m 2 b.toNat) Q)) ∧ ((¬ (am_s (m 2 4) ≤ am_s p)) → ((am_s c ≤ 0) → (WFG (vw m 2) ∧ 0 ≤ b ∧ b < 4096) ∧ (ok 2 60 40 [some (.inr (.inr (some 0))), some (.inl a), some (.inl n), some (.inl x), some (.inl (y + (dyn b.toNat (nv (vw m 2))))), some (.inl (i + 1)), none, none, none] [] (pw m 2 b.toNat) Q)) ∧ ((¬ (am_s c ≤ 0)) → (0 ≤ am_s p ∧ am_s p < (12 : Nat)) ∧ (((¬ am_s (m 3 ((am_s p).toNat)) = 3) → ((¬ am_s (am_rem (am_ushr ((1103515245 * x) + 12345) 16) 2) = 1) → ok 2 60 61 [some (.inr (.inr (some 0))), some (.inl a), some (.inl n), some (.inl ((1103515245 * x) + 12345)), some (.inl y), some (.inl i), some (.inl b), some (.inl c), some (.inl (p + 1))] [] m Q) ∧ ((am_s (am_rem (am_ushr ((1103515245 * x) + 12345) 16) 2) = 1) → ok 2 60 61 [some (.inr (.inr (some 0))), some (.inl a), some (.inl n), some (.inl ((1103515245 * x) + 12345)), some (.inl y), some (.inl i), some (.inl (am_or b (am_shl 1 p))), some (.inl (c + (-1))), some (.inl (p + 1))] [] m Q)) ∧ ((am_s (m 3 ((am_s p).toNat)) = 3) → ok 2 60 61 [some (.inr (.inr (some 0))), some (.inl a), some (.inl n), some (.inl x), some (.inl y), some (.inl i), some (.inl b), some (.inl c), some (.inl (p + 1))] [] m Q))))) : ok 2 60 61 [some (.inr (.inr (some 0))), some (.inl a), some (.inl n), some (.inl x), some (.inl y), some (.inl i), some (.inl b), some (.inl c), some (.inl p)] [] m Q := by
  refine ok_sg (pc' := 70) (ls' := [some (.inr (.inr (some 0))), some (.inl a), some (.inl n), some (.inl x), some (.inl y), some (.inl i), some (.inl b), some (.inl c), some (.inl p)]) (st' := [.inl (m 2 4), .inl p]) (m' := m) (fun fx hfx o hk => ?_) ?_
  · refine r_ld (pc' := 63) hM_60 d_60_61 rfl rfl ?_
    refine r_ld (pc' := 64) hM_60 d_60_63 rfl rfl ?_
    refine r_gR (pc' := 67) (v := 2) hM_60 d_60_64 rfl (by decide +kernel) ?_
    refine r_gI (pc' := 70) (k0 := 4) hM_60 d_60_67 rfl (by decide +kernel) ?_
    exact hk
  refine ok_ic (pc' := 132) (pc2 := 73) hM_60 d_60_70 (by decide) rfl (fun hz1 => ?_) (fun hz1 => ?_)
  · have H := H.1 hz1
    obtain ⟨hz2, H⟩ := H
    refine ok_sg (pc' := 40) (ls' := [some (.inr (.inr (some 0))), some (.inl a), some (.inl n), some (.inl x), some (.inl (y + (dyn b.toNat (nv (vw m 2))))), some (.inl (i + 1)), none, none, none]) (st' := []) (m' := pw m 2 b.toNat) (fun fx hfx o hk => ?_) ?_
    · refine r_ld (pc' := 134) hM_60 d_60_132 rfl rfl ?_
      refine r_ld (pc' := 135) hM_60 d_60_134 rfl rfl ?_
      refine r_gR (pc' := 138) (v := 2) hM_60 d_60_135 rfl (by decide +kernel) ?_
      refine r_ld (pc' := 140) hM_60 d_60_138 rfl rfl ?_
      refine r_cl (pc' := 143) (c := (50, 0)) (a := [.inr (.inr (some 2)), .inl b]) (q := [.inl y]) hM_60 d_60_140 rfl (by decide +kernel) hM_50 rfl rfl rfl (Nat.le_of_ble_eq_true rfl) (Nat.le_of_ble_eq_true rfl) (Or.inr rfl) (n_50 (by decide) m b hz2) (Nat.le_of_ble_eq_true rfl) ?_
      show rn fx 2 (0, 0) 60 143 [some (.inr (.inr (some 0))), some (.inl a), some (.inl n), some (.inl x), some (.inl y), some (.inl i), some (.inl b), some (.inl c), some (.inl p)] [.inl (dyn b.toNat (nv (vw m 2))), .inl y] (st0 (pw m 2 b.toNat)) o
      refine r_b (pc' := 144) (z := (y + (dyn b.toNat (nv (vw m 2))))) hM_60 d_60_143 rfl rfl ?_
      refine r_sto (pc' := 146) (ls' := [some (.inr (.inr (some 0))), some (.inl a), some (.inl n), some (.inl x), some (.inl (y + (dyn b.toNat (nv (vw m 2))))), some (.inl i), some (.inl b), some (.inl c), some (.inl p)]) hM_60 d_60_144 rfl rfl ?_
      refine r_sto (pc' := 149) (ls' := [some (.inr (.inr (some 0))), some (.inl a), some (.inl n), some (.inl x), some (.inl (y + (dyn b.toNat (nv (vw m 2))))), some (.inl (i + 1)), some (.inl b), some (.inl c), some (.inl p)]) hM_60 d_60_146 rfl rfl ?_
      refine r_go (pc' := 40) hM_60 d_60_149 (by decide) ?_
      refine rn_wk (a := [some (.inr (.inr (some 0))), some (.inl a), some (.inl n), some (.inl x), some (.inl (y + (dyn b.toNat (nv (vw m 2))))), some (.inl (i + 1)), none, none, none]) (by simp only [am_le, and_self]) ?_
      exact hk
    exact H
  · have H := H.2 hz1
    refine ok_sg (pc' := 75) (ls' := [some (.inr (.inr (some 0))), some (.inl a), some (.inl n), some (.inl x), some (.inl y), some (.inl i), some (.inl b), some (.inl c), some (.inl p)]) (st' := [.inl c]) (m' := m) (fun fx hfx o hk => ?_) ?_
    · refine r_ld (pc' := 75) hM_60 d_60_73 rfl rfl ?_
      exact hk
    refine ok_if (pc' := 132) (pc2 := 78) hM_60 d_60_75 (by decide) rfl (fun hz3 => ?_) (fun hz3 => ?_)
    · have H := H.1 hz3
      obtain ⟨hz4, H⟩ := H
      refine ok_sg (pc' := 40) (ls' := [some (.inr (.inr (some 0))), some (.inl a), some (.inl n), some (.inl x), some (.inl (y + (dyn b.toNat (nv (vw m 2))))), some (.inl (i + 1)), none, none, none]) (st' := []) (m' := pw m 2 b.toNat) (fun fx hfx o hk => ?_) ?_
      · refine r_ld (pc' := 134) hM_60 d_60_132 rfl rfl ?_
        refine r_ld (pc' := 135) hM_60 d_60_134 rfl rfl ?_
        refine r_gR (pc' := 138) (v := 2) hM_60 d_60_135 rfl (by decide +kernel) ?_
        refine r_ld (pc' := 140) hM_60 d_60_138 rfl rfl ?_
        refine r_cl (pc' := 143) (c := (50, 0)) (a := [.inr (.inr (some 2)), .inl b]) (q := [.inl y]) hM_60 d_60_140 rfl (by decide +kernel) hM_50 rfl rfl rfl (Nat.le_of_ble_eq_true rfl) (Nat.le_of_ble_eq_true rfl) (Or.inr rfl) (n_50 (by decide) m b hz4) (Nat.le_of_ble_eq_true rfl) ?_
        show rn fx 2 (0, 0) 60 143 [some (.inr (.inr (some 0))), some (.inl a), some (.inl n), some (.inl x), some (.inl y), some (.inl i), some (.inl b), some (.inl c), some (.inl p)] [.inl (dyn b.toNat (nv (vw m 2))), .inl y] (st0 (pw m 2 b.toNat)) o
        refine r_b (pc' := 144) (z := (y + (dyn b.toNat (nv (vw m 2))))) hM_60 d_60_143 rfl rfl ?_
        refine r_sto (pc' := 146) (ls' := [some (.inr (.inr (some 0))), some (.inl a), some (.inl n), some (.inl x), some (.inl (y + (dyn b.toNat (nv (vw m 2))))), some (.inl i), some (.inl b), some (.inl c), some (.inl p)]) hM_60 d_60_144 rfl rfl ?_
        refine r_sto (pc' := 149) (ls' := [some (.inr (.inr (some 0))), some (.inl a), some (.inl n), some (.inl x), some (.inl (y + (dyn b.toNat (nv (vw m 2))))), some (.inl (i + 1)), some (.inl b), some (.inl c), some (.inl p)]) hM_60 d_60_146 rfl rfl ?_
        refine r_go (pc' := 40) hM_60 d_60_149 (by decide) ?_
        refine rn_wk (a := [some (.inr (.inr (some 0))), some (.inl a), some (.inl n), some (.inl x), some (.inl (y + (dyn b.toNat (nv (vw m 2))))), some (.inl (i + 1)), none, none, none]) (by simp only [am_le, and_self]) ?_
        exact hk
      exact H
    · have H := H.2 hz3
      obtain ⟨hz5, H⟩ := H
      refine ok_sg (pc' := 89) (ls' := [some (.inr (.inr (some 0))), some (.inl a), some (.inl n), some (.inl x), some (.inl y), some (.inl i), some (.inl b), some (.inl c), some (.inl p)]) (st' := [.inl 3, .inl (m 3 ((am_s p).toNat))]) (m' := m) (fun fx hfx o hk => ?_) ?_
      · refine r_ld (pc' := 79) hM_60 d_60_78 rfl rfl ?_
        refine r_gR (pc' := 82) (v := 2) hM_60 d_60_79 rfl (by decide +kernel) ?_
        refine r_gR (pc' := 85) (v := 3) hM_60 d_60_82 rfl (by decide +kernel) ?_
        refine r_ld (pc' := 87) hM_60 d_60_85 rfl rfl ?_
        refine r_ia (pc' := 88) (n := 12) hM_60 d_60_87 rfl rfl hz5 ?_
        refine r_k (pc' := 89) (v := .inl 3) hM_60 d_60_88 rfl rfl ?_
        exact hk
      refine ok_ic (pc' := 95) (pc2 := 92) hM_60 d_60_89 (by decide) rfl (fun hz6 => ?_) (fun hz6 => ?_)
      · have H := H.1 hz6
        refine ok_sg (pc' := 111) (ls' := [some (.inr (.inr (some 0))), some (.inl a), some (.inl n), some (.inl ((1103515245 * x) + 12345)), some (.inl y), some (.inl i), some (.inl b), some (.inl c), some (.inl p)]) (st' := [.inl 1, .inl (am_rem (am_ushr ((1103515245 * x) + 12345) 16) 2)]) (m' := m) (fun fx hfx o hk => ?_) ?_
        · refine r_k (pc' := 97) (v := .inl 1103515245) hM_60 d_60_95 rfl (by decide +kernel) ?_
          refine r_ld (pc' := 98) hM_60 d_60_97 rfl rfl ?_
          refine r_b (pc' := 99) (z := (1103515245 * x)) hM_60 d_60_98 rfl rfl ?_
          refine r_k (pc' := 102) (v := .inl 12345) hM_60 d_60_99 rfl rfl ?_
          refine r_b (pc' := 103) (z := ((1103515245 * x) + 12345)) hM_60 d_60_102 rfl rfl ?_
          refine r_sto (pc' := 104) (ls' := [some (.inr (.inr (some 0))), some (.inl a), some (.inl n), some (.inl ((1103515245 * x) + 12345)), some (.inl y), some (.inl i), some (.inl b), some (.inl c), some (.inl p)]) hM_60 d_60_103 rfl rfl ?_
          refine r_ld (pc' := 105) hM_60 d_60_104 rfl rfl ?_
          refine r_k (pc' := 107) (v := .inl 16) hM_60 d_60_105 rfl rfl ?_
          refine r_b (pc' := 108) (z := (am_ushr ((1103515245 * x) + 12345) 16)) hM_60 d_60_107 rfl rfl ?_
          refine r_k (pc' := 109) (v := .inl 2) hM_60 d_60_108 rfl rfl ?_
          refine r_rem (pc' := 110) hM_60 d_60_109 rfl (by decide) ?_
          refine r_k (pc' := 111) (v := .inl 1) hM_60 d_60_110 rfl rfl ?_
          exact hk
        refine ok_ic (pc' := 126) (pc2 := 114) hM_60 d_60_111 (by decide) rfl (fun hz7 => ?_) (fun hz7 => ?_)
        · have H := H.1 hz7
          refine ok_sg (pc' := 61) (ls' := [some (.inr (.inr (some 0))), some (.inl a), some (.inl n), some (.inl ((1103515245 * x) + 12345)), some (.inl y), some (.inl i), some (.inl b), some (.inl c), some (.inl (p + 1))]) (st' := []) (m' := m) (fun fx hfx o hk => ?_) ?_
          · refine r_sto (pc' := 129) (ls' := [some (.inr (.inr (some 0))), some (.inl a), some (.inl n), some (.inl ((1103515245 * x) + 12345)), some (.inl y), some (.inl i), some (.inl b), some (.inl c), some (.inl (p + 1))]) hM_60 d_60_126 rfl rfl ?_
            refine r_go (pc' := 61) hM_60 d_60_129 (by decide) ?_
            exact hk
          exact H
        · have H := H.2 (Decidable.not_not.mp hz7)
          refine ok_sg (pc' := 61) (ls' := [some (.inr (.inr (some 0))), some (.inl a), some (.inl n), some (.inl ((1103515245 * x) + 12345)), some (.inl y), some (.inl i), some (.inl (am_or b (am_shl 1 p))), some (.inl (c + (-1))), some (.inl (p + 1))]) (st' := []) (m' := m) (fun fx hfx o hk => ?_) ?_
          · refine r_ld (pc' := 116) hM_60 d_60_114 rfl rfl ?_
            refine r_k (pc' := 117) (v := .inl 1) hM_60 d_60_116 rfl rfl ?_
            refine r_ld (pc' := 119) hM_60 d_60_117 rfl rfl ?_
            refine r_b (pc' := 120) (z := (am_shl 1 p)) hM_60 d_60_119 rfl rfl ?_
            refine r_b (pc' := 121) (z := (am_or b (am_shl 1 p))) hM_60 d_60_120 rfl rfl ?_
            refine r_sto (pc' := 123) (ls' := [some (.inr (.inr (some 0))), some (.inl a), some (.inl n), some (.inl ((1103515245 * x) + 12345)), some (.inl y), some (.inl i), some (.inl (am_or b (am_shl 1 p))), some (.inl c), some (.inl p)]) hM_60 d_60_121 rfl rfl ?_
            refine r_sto (pc' := 126) (ls' := [some (.inr (.inr (some 0))), some (.inl a), some (.inl n), some (.inl ((1103515245 * x) + 12345)), some (.inl y), some (.inl i), some (.inl (am_or b (am_shl 1 p))), some (.inl (c + (-1))), some (.inl p)]) hM_60 d_60_123 rfl rfl ?_
            refine r_sto (pc' := 129) (ls' := [some (.inr (.inr (some 0))), some (.inl a), some (.inl n), some (.inl ((1103515245 * x) + 12345)), some (.inl y), some (.inl i), some (.inl (am_or b (am_shl 1 p))), some (.inl (c + (-1))), some (.inl (p + 1))]) hM_60 d_60_126 rfl rfl ?_
            refine r_go (pc' := 61) hM_60 d_60_129 (by decide) ?_
            exact hk
          exact H
      · have H := H.2 (Decidable.not_not.mp hz6)
        refine ok_sg (pc' := 61) (ls' := [some (.inr (.inr (some 0))), some (.inl a), some (.inl n), some (.inl x), some (.inl y), some (.inl i), some (.inl b), some (.inl c), some (.inl (p + 1))]) (st' := []) (m' := m) (fun fx hfx o hk => ?_) ?_
        · refine r_go (pc' := 126) hM_60 d_60_92 (by decide) ?_
          refine r_sto (pc' := 129) (ls' := [some (.inr (.inr (some 0))), some (.inl a), some (.inl n), some (.inl x), some (.inl y), some (.inl i), some (.inl b), some (.inl c), some (.inl (p + 1))]) hM_60 d_60_126 rfl rfl ?_
          refine r_go (pc' := 61) hM_60 d_60_129 (by decide) ?_
          exact hk
        exact H
theorem u_60_40 {Q : List am_V → am_M → Prop} {m : am_M} {a : Int} {n : Int} {x : Int} {y : Int} {i : Int}  (H : ((am_s n ≤ am_s i) → Q [.inl y] m) ∧ ((¬ (am_s n ≤ am_s i)) → ok 2 60 61 [some (.inr (.inr (some 0))), some (.inl a), some (.inl n), some (.inl x), some (.inl y), some (.inl i), some (.inl 0), some (.inl (m 2 7)), some (.inl 0)] [] m Q)) : ok 2 60 40 [some (.inr (.inr (some 0))), some (.inl a), some (.inl n), some (.inl x), some (.inl y), some (.inl i), none, none, none] [] m Q := by
  refine ok_sg (pc' := 43) (ls' := [some (.inr (.inr (some 0))), some (.inl a), some (.inl n), some (.inl x), some (.inl y), some (.inl i), none, none, none]) (st' := [.inl n, .inl i]) (m' := m) (fun fx hfx o hk => ?_) ?_
  · refine r_ld (pc' := 42) hM_60 d_60_40 rfl rfl ?_
    refine r_ld (pc' := 43) hM_60 d_60_42 rfl rfl ?_
    exact hk
  refine ok_ic (pc' := 152) (pc2 := 46) hM_60 d_60_43 (by decide) rfl (fun hz1 => ?_) (fun hz1 => ?_)
  · have H := H.1 hz1
    refine ok_sg (pc' := 154) (ls' := [some (.inr (.inr (some 0))), some (.inl a), some (.inl n), some (.inl x), some (.inl y), some (.inl i), none, none, none]) (st' := [.inl y]) (m' := m) (fun fx hfx o hk => ?_) ?_
    · refine r_ld (pc' := 154) hM_60 d_60_152 rfl rfl ?_
      exact hk
    exact ok_rt (fun fx _ => rt_i hM_60 d_60_154 rfl) H
  · have H := H.2 hz1
    refine ok_sg (pc' := 61) (ls' := [some (.inr (.inr (some 0))), some (.inl a), some (.inl n), some (.inl x), some (.inl y), some (.inl i), some (.inl 0), some (.inl (m 2 7)), some (.inl 0)]) (st' := []) (m' := m) (fun fx hfx o hk => ?_) ?_
    · refine r_k (pc' := 47) (v := .inl 0) hM_60 d_60_46 rfl rfl ?_
      refine r_sto (pc' := 49) (ls' := [some (.inr (.inr (some 0))), some (.inl a), some (.inl n), some (.inl x), some (.inl y), some (.inl i), some (.inl 0), none, none]) hM_60 d_60_47 rfl rfl ?_
      refine r_ld (pc' := 50) hM_60 d_60_49 rfl rfl ?_
      refine r_gR (pc' := 53) (v := 2) hM_60 d_60_50 rfl (by decide +kernel) ?_
      refine r_gI (pc' := 56) (k0 := 7) hM_60 d_60_53 rfl (by decide +kernel) ?_
      refine r_sto (pc' := 58) (ls' := [some (.inr (.inr (some 0))), some (.inl a), some (.inl n), some (.inl x), some (.inl y), some (.inl i), some (.inl 0), some (.inl (m 2 7)), none]) hM_60 d_60_56 rfl rfl ?_
      refine r_k (pc' := 59) (v := .inl 0) hM_60 d_60_58 rfl rfl ?_
      refine r_sto (pc' := 61) (ls' := [some (.inr (.inr (some 0))), some (.inl a), some (.inl n), some (.inl x), some (.inl y), some (.inl i), some (.inl 0), some (.inl (m 2 7)), some (.inl 0)]) hM_60 d_60_59 rfl rfl ?_
      exact hk
    exact H
theorem u_60_0 {Q : List am_V → am_M → Prop} {m : am_M} {a : Int} {n : Int}  (H : ((am_s n < 1) → Q [.inl (-3)] m) ∧ ((¬ (am_s n < 1)) → ((am_s n ≤ 30) → ((am_s ((m 2 11) + n) ≤ 9999) → ok 2 60 40 [some (.inr (.inr (some 0))), some (.inl a), some (.inl n), some (.inl a), some (.inl 0), some (.inl 0), none, none, none] [] m Q) ∧ ((¬ (am_s ((m 2 11) + n) ≤ 9999)) → Q [.inl (-5)] m)) ∧ ((¬ (am_s n ≤ 30)) → Q [.inl (-3)] m))) : ok 2 60 0 [some (.inr (.inr (some 0))), some (.inl a), some (.inl n), none, none, none, none, none, none] [] m Q := by
  refine ok_sg (pc' := 2) (ls' := [some (.inr (.inr (some 0))), some (.inl a), some (.inl n), none, none, none, none, none, none]) (st' := [.inl 1, .inl n]) (m' := m) (fun fx hfx o hk => ?_) ?_
  · refine r_ld (pc' := 1) hM_60 d_60_0 rfl rfl ?_
    refine r_k (pc' := 2) (v := .inl 1) hM_60 d_60_1 rfl rfl ?_
    exact hk
  refine ok_ic (pc' := 11) (pc2 := 5) hM_60 d_60_2 (by decide) rfl (fun hz1 => ?_) (fun hz1 => ?_)
  · have H := H.1 hz1
    refine ok_sg (pc' := 13) (ls' := [some (.inr (.inr (some 0))), some (.inl a), some (.inl n), none, none, none, none, none, none]) (st' := [.inl (-3)]) (m' := m) (fun fx hfx o hk => ?_) ?_
    · refine r_k (pc' := 13) (v := .inl (-3)) hM_60 d_60_11 rfl rfl ?_
      exact hk
    exact ok_rt (fun fx _ => rt_i hM_60 d_60_13 rfl) H
  · have H := H.2 hz1
    refine ok_sg (pc' := 8) (ls' := [some (.inr (.inr (some 0))), some (.inl a), some (.inl n), none, none, none, none, none, none]) (st' := [.inl 30, .inl n]) (m' := m) (fun fx hfx o hk => ?_) ?_
    · refine r_ld (pc' := 6) hM_60 d_60_5 rfl rfl ?_
      refine r_k (pc' := 8) (v := .inl 30) hM_60 d_60_6 rfl rfl ?_
      exact hk
    refine ok_ic (pc' := 14) (pc2 := 11) hM_60 d_60_8 (by decide) rfl (fun hz2 => ?_) (fun hz2 => ?_)
    · have H := H.1 hz2
      refine ok_sg (pc' := 26) (ls' := [some (.inr (.inr (some 0))), some (.inl a), some (.inl n), none, none, none, none, none, none]) (st' := [.inl 9999, .inl ((m 2 11) + n)]) (m' := m) (fun fx hfx o hk => ?_) ?_
      · refine r_ld (pc' := 15) hM_60 d_60_14 rfl rfl ?_
        refine r_gR (pc' := 18) (v := 2) hM_60 d_60_15 rfl (by decide +kernel) ?_
        refine r_gI (pc' := 21) (k0 := 11) hM_60 d_60_18 rfl (by decide +kernel) ?_
        refine r_ld (pc' := 22) hM_60 d_60_21 rfl rfl ?_
        refine r_b (pc' := 23) (z := ((m 2 11) + n)) hM_60 d_60_22 rfl rfl ?_
        refine r_k (pc' := 26) (v := .inl 9999) hM_60 d_60_23 rfl rfl ?_
        exact hk
      refine ok_ic (pc' := 32) (pc2 := 29) hM_60 d_60_26 (by decide) rfl (fun hz3 => ?_) (fun hz3 => ?_)
      · have H := H.1 hz3
        refine ok_sg (pc' := 40) (ls' := [some (.inr (.inr (some 0))), some (.inl a), some (.inl n), some (.inl a), some (.inl 0), some (.inl 0), none, none, none]) (st' := []) (m' := m) (fun fx hfx o hk => ?_) ?_
        · refine r_ld (pc' := 33) hM_60 d_60_32 rfl rfl ?_
          refine r_sto (pc' := 34) (ls' := [some (.inr (.inr (some 0))), some (.inl a), some (.inl n), some (.inl a), none, none, none, none, none]) hM_60 d_60_33 rfl rfl ?_
          refine r_k (pc' := 35) (v := .inl 0) hM_60 d_60_34 rfl rfl ?_
          refine r_sto (pc' := 37) (ls' := [some (.inr (.inr (some 0))), some (.inl a), some (.inl n), some (.inl a), some (.inl 0), none, none, none, none]) hM_60 d_60_35 rfl rfl ?_
          refine r_k (pc' := 38) (v := .inl 0) hM_60 d_60_37 rfl rfl ?_
          refine r_sto (pc' := 40) (ls' := [some (.inr (.inr (some 0))), some (.inl a), some (.inl n), some (.inl a), some (.inl 0), some (.inl 0), none, none, none]) hM_60 d_60_38 rfl rfl ?_
          exact hk
        exact H
      · have H := H.2 hz3
        refine ok_sg (pc' := 31) (ls' := [some (.inr (.inr (some 0))), some (.inl a), some (.inl n), none, none, none, none, none, none]) (st' := [.inl (-5)]) (m' := m) (fun fx hfx o hk => ?_) ?_
        · refine r_k (pc' := 31) (v := .inl (-5)) hM_60 d_60_29 rfl rfl ?_
          exact hk
        exact ok_rt (fun fx _ => rt_i hM_60 d_60_31 rfl) H
    · have H := H.2 hz2
      refine ok_sg (pc' := 13) (ls' := [some (.inr (.inr (some 0))), some (.inl a), some (.inl n), none, none, none, none, none, none]) (st' := [.inl (-3)]) (m' := m) (fun fx hfx o hk => ?_) ?_
      · refine r_k (pc' := 13) (v := .inl (-3)) hM_60 d_60_11 rfl rfl ?_
        exact hk
      exact ok_rt (fun fx _ => rt_i hM_60 d_60_13 rfl) H
theorem u_65_33 {Q : List am_V → am_M → Prop} {m : am_M} {p : Int} {n : Int} {x : Int} {q : Int}  (H : ((am_s (p + n) ≤ am_s q) → Q [.inl x] m) ∧ ((¬ (am_s (p + n) ≤ am_s q)) → (WFG (vw m 2)) ∧ (((¬ (0 ≤ am_s q ∧ am_s q < m 2 4)) → Q [.inl x] m) ∧ ((0 ≤ am_s q ∧ am_s q < m 2 4) → (0 ≤ am_s q ∧ am_s q < (12 : Nat)) ∧ (((am_s (m 3 ((am_s q).toNat)) = 3) → Q [.inl x] m) ∧ ((¬ (am_s (m 3 ((am_s q).toNat)) = 3)) → ((¬ am_s (m 3 ((am_s q).toNat)) = 0) → ok 1 65 33 [some (.inr (.inr (some 0))), some (.inl p), some (.inl n), some (.inl x), some (.inl (q + 1))] [] m Q) ∧ ((am_s (m 3 ((am_s q).toNat)) = 0) → ((9 ≤ am_s (m 4 ((am_s q).toNat))) → ok 1 65 33 [some (.inr (.inr (some 0))), some (.inl p), some (.inl n), some (.inl x), some (.inl (q + 1))] [] m Q) ∧ ((¬ (9 ≤ am_s (m 4 ((am_s q).toNat)))) → ok 1 65 33 [some (.inr (.inr (some 0))), some (.inl p), some (.inl n), some (.inl (x + 1)), some (.inl (q + 1))] [] (mu m 4 ((am_s q).toNat) ((m 4 ((am_s q).toNat)) + 1)) Q)))))))) : ok 1 65 33 [some (.inr (.inr (some 0))), some (.inl p), some (.inl n), some (.inl x), some (.inl q)] [] m Q := by
  refine ok_sg (pc' := 38) (ls' := [some (.inr (.inr (some 0))), some (.inl p), some (.inl n), some (.inl x), some (.inl q)]) (st' := [.inl (p + n), .inl q]) (m' := m) (fun fx hfx o hk => ?_) ?_
  · refine r_ld (pc' := 35) hM_65 d_65_33 rfl rfl ?_
    refine r_ld (pc' := 36) hM_65 d_65_35 rfl rfl ?_
    refine r_ld (pc' := 37) hM_65 d_65_36 rfl rfl ?_
    refine r_b (pc' := 38) (z := (p + n)) hM_65 d_65_37 rfl rfl ?_
    exact hk
  refine ok_ic (pc' := 118) (pc2 := 41) hM_65 d_65_38 (by decide) rfl (fun hz1 => ?_) (fun hz1 => ?_)
  · have H := H.1 hz1
    refine ok_sg (pc' := 119) (ls' := [some (.inr (.inr (some 0))), some (.inl p), some (.inl n), some (.inl x), some (.inl q)]) (st' := [.inl x]) (m' := m) (fun fx hfx o hk => ?_) ?_
    · refine r_ld (pc' := 119) hM_65 d_65_118 rfl rfl ?_
      exact hk
    exact ok_rt (fun fx _ => rt_i hM_65 d_65_119 rfl) H
  · have H := H.2 hz1
    obtain ⟨hz2, H⟩ := H
    refine ok_sg (pc' := 50) (ls' := [some (.inr (.inr (some 0))), some (.inl p), some (.inl n), some (.inl x), some (.inl q)]) (st' := [.inl ((if 0 ≤ am_s q ∧ am_s q < m 2 4 then 1 else 0))]) (m' := m) (fun fx hfx o hk => ?_) ?_
    · refine r_ld (pc' := 42) hM_65 d_65_41 rfl rfl ?_
      refine r_gR (pc' := 45) (v := 2) hM_65 d_65_42 rfl (by decide +kernel) ?_
      refine r_ld (pc' := 47) hM_65 d_65_45 rfl rfl ?_
      refine r_cl (pc' := 50) (c := (40, 0)) (a := [.inr (.inr (some 2)), .inl q]) (q := []) hM_65 d_65_47 rfl (by decide +kernel) hM_40 rfl rfl rfl (Nat.le_of_ble_eq_true rfl) (Nat.le_of_ble_eq_true rfl) (Or.inr rfl) (n_40 (by decide) m q hz2) (Nat.le_of_ble_eq_true rfl) ?_
      show rn fx 1 (0, 0) 65 50 [some (.inr (.inr (some 0))), some (.inl p), some (.inl n), some (.inl x), some (.inl q)] [.inl ((if 0 ≤ am_s q ∧ am_s q < m 2 4 then 1 else 0))] (st0 m) o
      exact hk
    refine ok_if (pc' := 118) (pc2 := 53) hM_65 d_65_50 (by decide) rfl (fun hz3 => ?_) (fun hz3 => ?_)
    · have H := H.1 (as_ite.mp hz3)
      refine ok_sg (pc' := 119) (ls' := [some (.inr (.inr (some 0))), some (.inl p), some (.inl n), some (.inl x), some (.inl q)]) (st' := [.inl x]) (m' := m) (fun fx hfx o hk => ?_) ?_
      · refine r_ld (pc' := 119) hM_65 d_65_118 rfl rfl ?_
        exact hk
      exact ok_rt (fun fx _ => rt_i hM_65 d_65_119 rfl) H
    · have H := H.2 (as_iteN.mp hz3)
      obtain ⟨hz4, H⟩ := H
      refine ok_sg (pc' := 64) (ls' := [some (.inr (.inr (some 0))), some (.inl p), some (.inl n), some (.inl x), some (.inl q)]) (st' := [.inl 3, .inl (m 3 ((am_s q).toNat))]) (m' := m) (fun fx hfx o hk => ?_) ?_
      · refine r_ld (pc' := 54) hM_65 d_65_53 rfl rfl ?_
        refine r_gR (pc' := 57) (v := 2) hM_65 d_65_54 rfl (by decide +kernel) ?_
        refine r_gR (pc' := 60) (v := 3) hM_65 d_65_57 rfl (by decide +kernel) ?_
        refine r_ld (pc' := 62) hM_65 d_65_60 rfl rfl ?_
        refine r_ia (pc' := 63) (n := 12) hM_65 d_65_62 rfl rfl hz4 ?_
        refine r_k (pc' := 64) (v := .inl 3) hM_65 d_65_63 rfl rfl ?_
        exact hk
      refine ok_ic (pc' := 118) (pc2 := 67) hM_65 d_65_64 (by decide) rfl (fun hz5 => ?_) (fun hz5 => ?_)
      · have H := H.1 hz5
        refine ok_sg (pc' := 119) (ls' := [some (.inr (.inr (some 0))), some (.inl p), some (.inl n), some (.inl x), some (.inl q)]) (st' := [.inl x]) (m' := m) (fun fx hfx o hk => ?_) ?_
        · refine r_ld (pc' := 119) hM_65 d_65_118 rfl rfl ?_
          exact hk
        exact ok_rt (fun fx _ => rt_i hM_65 d_65_119 rfl) H
      · have H := H.2 hz5
        refine ok_sg (pc' := 77) (ls' := [some (.inr (.inr (some 0))), some (.inl p), some (.inl n), some (.inl x), some (.inl q)]) (st' := [.inl (m 3 ((am_s q).toNat))]) (m' := m) (fun fx hfx o hk => ?_) ?_
        · refine r_ld (pc' := 68) hM_65 d_65_67 rfl rfl ?_
          refine r_gR (pc' := 71) (v := 2) hM_65 d_65_68 rfl (by decide +kernel) ?_
          refine r_gR (pc' := 74) (v := 3) hM_65 d_65_71 rfl (by decide +kernel) ?_
          refine r_ld (pc' := 76) hM_65 d_65_74 rfl rfl ?_
          refine r_ia (pc' := 77) (n := 12) hM_65 d_65_76 rfl rfl hz4 ?_
          exact hk
        refine ok_if (pc' := 112) (pc2 := 80) hM_65 d_65_77 (by decide) rfl (fun hz6 => ?_) (fun hz6 => ?_)
        · have H := H.1 hz6
          refine ok_sg (pc' := 33) (ls' := [some (.inr (.inr (some 0))), some (.inl p), some (.inl n), some (.inl x), some (.inl (q + 1))]) (st' := []) (m' := m) (fun fx hfx o hk => ?_) ?_
          · refine r_sto (pc' := 115) (ls' := [some (.inr (.inr (some 0))), some (.inl p), some (.inl n), some (.inl x), some (.inl (q + 1))]) hM_65 d_65_112 rfl rfl ?_
            refine r_go (pc' := 33) hM_65 d_65_115 (by decide) ?_
            exact hk
          exact H
        · have H := H.2 (Decidable.not_not.mp hz6)
          refine ok_sg (pc' := 92) (ls' := [some (.inr (.inr (some 0))), some (.inl p), some (.inl n), some (.inl x), some (.inl q)]) (st' := [.inl 9, .inl (m 4 ((am_s q).toNat))]) (m' := m) (fun fx hfx o hk => ?_) ?_
          · refine r_ld (pc' := 81) hM_65 d_65_80 rfl rfl ?_
            refine r_gR (pc' := 84) (v := 2) hM_65 d_65_81 rfl (by decide +kernel) ?_
            refine r_gR (pc' := 87) (v := 4) hM_65 d_65_84 rfl (by decide +kernel) ?_
            refine r_ld (pc' := 89) hM_65 d_65_87 rfl rfl ?_
            refine r_ia (pc' := 90) (n := 12) hM_65 d_65_89 rfl rfl hz4 ?_
            refine r_k (pc' := 92) (v := .inl 9) hM_65 d_65_90 rfl rfl ?_
            exact hk
          refine ok_ic (pc' := 112) (pc2 := 95) hM_65 d_65_92 (by decide) rfl (fun hz7 => ?_) (fun hz7 => ?_)
          · have H := H.1 hz7
            refine ok_sg (pc' := 33) (ls' := [some (.inr (.inr (some 0))), some (.inl p), some (.inl n), some (.inl x), some (.inl (q + 1))]) (st' := []) (m' := m) (fun fx hfx o hk => ?_) ?_
            · refine r_sto (pc' := 115) (ls' := [some (.inr (.inr (some 0))), some (.inl p), some (.inl n), some (.inl x), some (.inl (q + 1))]) hM_65 d_65_112 rfl rfl ?_
              refine r_go (pc' := 33) hM_65 d_65_115 (by decide) ?_
              exact hk
            exact H
          · have H := H.2 hz7
            refine ok_sg (pc' := 33) (ls' := [some (.inr (.inr (some 0))), some (.inl p), some (.inl n), some (.inl (x + 1)), some (.inl (q + 1))]) (st' := []) (m' := mu m 4 ((am_s q).toNat) ((m 4 ((am_s q).toNat)) + 1)) (fun fx hfx o hk => ?_) ?_
            · refine r_ld (pc' := 96) hM_65 d_65_95 rfl rfl ?_
              refine r_gR (pc' := 99) (v := 2) hM_65 d_65_96 rfl (by decide +kernel) ?_
              refine r_gR (pc' := 102) (v := 4) hM_65 d_65_99 rfl (by decide +kernel) ?_
              refine r_ld (pc' := 104) hM_65 d_65_102 rfl rfl ?_
              refine r_stk (pc' := 105) (st' := [.inl q, .inr (.inr (some 4)), .inl q, .inr (.inr (some 4))]) hM_65 d_65_104 rfl rfl ?_
              refine r_ia (pc' := 106) (n := 12) hM_65 d_65_105 rfl rfl hz4 ?_
              refine r_k (pc' := 107) (v := .inl 1) hM_65 d_65_106 rfl rfl ?_
              refine r_b (pc' := 108) (z := ((m 4 ((am_s q).toNat)) + 1)) hM_65 d_65_107 rfl rfl ?_
              refine r_is (pc' := 109) (n := 12) hM_65 d_65_108 rfl rfl hz4 ?_
              refine r_sto (pc' := 112) (ls' := [some (.inr (.inr (some 0))), some (.inl p), some (.inl n), some (.inl (x + 1)), some (.inl q)]) hM_65 d_65_109 rfl rfl ?_
              refine r_sto (pc' := 115) (ls' := [some (.inr (.inr (some 0))), some (.inl p), some (.inl n), some (.inl (x + 1)), some (.inl (q + 1))]) hM_65 d_65_112 rfl rfl ?_
              refine r_go (pc' := 33) hM_65 d_65_115 (by decide) ?_
              exact hk
            exact H
theorem u_65_0 {Q : List am_V → am_M → Prop} {m : am_M} {p : Int} {n : Int}  (H : (WFG (vw m 2)) ∧ (((0 ≤ am_s p ∧ am_s p < m 2 4) → ((am_s n < 1) → Q [.inl (-3)] m) ∧ ((¬ (am_s n < 1)) → ((am_s n ≤ 12) → ok 1 65 33 [some (.inr (.inr (some 0))), some (.inl p), some (.inl n), some (.inl 0), some (.inl p)] [] m Q) ∧ ((¬ (am_s n ≤ 12)) → Q [.inl (-3)] m))) ∧ ((¬ (0 ≤ am_s p ∧ am_s p < m 2 4)) → Q [.inl (-2)] m))) : ok 1 65 0 [some (.inr (.inr (some 0))), some (.inl p), some (.inl n), none, none] [] m Q := by
  obtain ⟨hz1, H⟩ := H
  refine ok_sg (pc' := 8) (ls' := [some (.inr (.inr (some 0))), some (.inl p), some (.inl n), none, none]) (st' := [.inl ((if 0 ≤ am_s p ∧ am_s p < m 2 4 then 1 else 0))]) (m' := m) (fun fx hfx o hk => ?_) ?_
  · refine r_ld (pc' := 1) hM_65 d_65_0 rfl rfl ?_
    refine r_gR (pc' := 4) (v := 2) hM_65 d_65_1 rfl (by decide +kernel) ?_
    refine r_ld (pc' := 5) hM_65 d_65_4 rfl rfl ?_
    refine r_cl (pc' := 8) (c := (40, 0)) (a := [.inr (.inr (some 2)), .inl p]) (q := []) hM_65 d_65_5 rfl (by decide +kernel) hM_40 rfl rfl rfl (Nat.le_of_ble_eq_true rfl) (Nat.le_of_ble_eq_true rfl) (Or.inr rfl) (n_40 (by decide) m p hz1) (Nat.le_of_ble_eq_true rfl) ?_
    show rn fx 1 (0, 0) 65 8 [some (.inr (.inr (some 0))), some (.inl p), some (.inl n), none, none] [.inl ((if 0 ≤ am_s p ∧ am_s p < m 2 4 then 1 else 0))] (st0 m) o
    exact hk
  refine ok_if (pc' := 14) (pc2 := 11) hM_65 d_65_8 (by decide) rfl (fun hz2 => ?_) (fun hz2 => ?_)
  · have H := H.1 (as_iteN.mp hz2)
    refine ok_sg (pc' := 16) (ls' := [some (.inr (.inr (some 0))), some (.inl p), some (.inl n), none, none]) (st' := [.inl 1, .inl n]) (m' := m) (fun fx hfx o hk => ?_) ?_
    · refine r_ld (pc' := 15) hM_65 d_65_14 rfl rfl ?_
      refine r_k (pc' := 16) (v := .inl 1) hM_65 d_65_15 rfl rfl ?_
      exact hk
    refine ok_ic (pc' := 25) (pc2 := 19) hM_65 d_65_16 (by decide) rfl (fun hz3 => ?_) (fun hz3 => ?_)
    · have H := H.1 hz3
      refine ok_sg (pc' := 27) (ls' := [some (.inr (.inr (some 0))), some (.inl p), some (.inl n), none, none]) (st' := [.inl (-3)]) (m' := m) (fun fx hfx o hk => ?_) ?_
      · refine r_k (pc' := 27) (v := .inl (-3)) hM_65 d_65_25 rfl rfl ?_
        exact hk
      exact ok_rt (fun fx _ => rt_i hM_65 d_65_27 rfl) H
    · have H := H.2 hz3
      refine ok_sg (pc' := 22) (ls' := [some (.inr (.inr (some 0))), some (.inl p), some (.inl n), none, none]) (st' := [.inl 12, .inl n]) (m' := m) (fun fx hfx o hk => ?_) ?_
      · refine r_ld (pc' := 20) hM_65 d_65_19 rfl rfl ?_
        refine r_k (pc' := 22) (v := .inl 12) hM_65 d_65_20 rfl rfl ?_
        exact hk
      refine ok_ic (pc' := 28) (pc2 := 25) hM_65 d_65_22 (by decide) rfl (fun hz4 => ?_) (fun hz4 => ?_)
      · have H := H.1 hz4
        refine ok_sg (pc' := 33) (ls' := [some (.inr (.inr (some 0))), some (.inl p), some (.inl n), some (.inl 0), some (.inl p)]) (st' := []) (m' := m) (fun fx hfx o hk => ?_) ?_
        · refine r_k (pc' := 29) (v := .inl 0) hM_65 d_65_28 rfl rfl ?_
          refine r_sto (pc' := 30) (ls' := [some (.inr (.inr (some 0))), some (.inl p), some (.inl n), some (.inl 0), none]) hM_65 d_65_29 rfl rfl ?_
          refine r_ld (pc' := 31) hM_65 d_65_30 rfl rfl ?_
          refine r_sto (pc' := 33) (ls' := [some (.inr (.inr (some 0))), some (.inl p), some (.inl n), some (.inl 0), some (.inl p)]) hM_65 d_65_31 rfl rfl ?_
          exact hk
        exact H
      · have H := H.2 hz4
        refine ok_sg (pc' := 27) (ls' := [some (.inr (.inr (some 0))), some (.inl p), some (.inl n), none, none]) (st' := [.inl (-3)]) (m' := m) (fun fx hfx o hk => ?_) ?_
        · refine r_k (pc' := 27) (v := .inl (-3)) hM_65 d_65_25 rfl rfl ?_
          exact hk
        exact ok_rt (fun fx _ => rt_i hM_65 d_65_27 rfl) H
  · have H := H.2 (as_ite.mp (Decidable.not_not.mp hz2))
    refine ok_sg (pc' := 13) (ls' := [some (.inr (.inr (some 0))), some (.inl p), some (.inl n), none, none]) (st' := [.inl (-2)]) (m' := m) (fun fx hfx o hk => ?_) ?_
    · refine r_k (pc' := 13) (v := .inl (-2)) hM_65 d_65_11 rfl rfl ?_
      exact hk
    exact ok_rt (fun fx _ => rt_i hM_65 d_65_13 rfl) H
theorem u_205_37 {Q : List am_V → am_M → Prop} {m : am_M} {p : Int} {n : Int} {x : Int} {q : Int}  (H : ((am_s (p + n) ≤ am_s q) → Q [.inl x] m) ∧ ((¬ (am_s (p + n) ≤ am_s q)) → (WFG (m 54)) ∧ (((¬ ((0 ≤ am_s q ∧ am_s q < m 54 0) ∧ nv (m 54) (8 + (am_s q).toNat) ≠ 3)) → Q [.inl x] m) ∧ (((0 ≤ am_s q ∧ am_s q < m 54 0) ∧ nv (m 54) (8 + (am_s q).toNat) ≠ 3) → ((¬ ((0 ≤ am_s q ∧ am_s q < m 54 0) ∧ nv (m 54) (8 + (am_s q).toNat) = am_s 0)) → ok 4 205 37 [some (.inr (.inr (some 53))), some (.inl p), some (.inl n), some (.inl x), some (.inl (q + 1))] [] m Q) ∧ (((0 ≤ am_s q ∧ am_s q < m 54 0) ∧ nv (m 54) (8 + (am_s q).toNat) = am_s 0) → (0 ≤ am_s (20 + q) ∧ am_s (20 + q) < (168 : Nat)) ∧ (((¬ am_s (m 54 ((am_s (20 + q)).toNat)) = 9) → ok 4 205 37 [some (.inr (.inr (some 53))), some (.inl p), some (.inl n), some (.inl (x + 1)), some (.inl (q + 1))] [] (mu m 54 ((am_s (20 + q)).toNat) ((m 54 ((am_s (20 + q)).toNat)) + 1)) Q) ∧ ((am_s (m 54 ((am_s (20 + q)).toNat)) = 9) → ok 4 205 37 [some (.inr (.inr (some 53))), some (.inl p), some (.inl n), some (.inl x), some (.inl (q + 1))] [] m Q))))))) : ok 4 205 37 [some (.inr (.inr (some 53))), some (.inl p), some (.inl n), some (.inl x), some (.inl q)] [] m Q := by
  refine ok_sg (pc' := 42) (ls' := [some (.inr (.inr (some 53))), some (.inl p), some (.inl n), some (.inl x), some (.inl q)]) (st' := [.inl (p + n), .inl q]) (m' := m) (fun fx hfx o hk => ?_) ?_
  · refine r_ld (pc' := 39) hM_205 d_205_37 rfl rfl ?_
    refine r_ld (pc' := 40) hM_205 d_205_39 rfl rfl ?_
    refine r_ld (pc' := 41) hM_205 d_205_40 rfl rfl ?_
    refine r_b (pc' := 42) (z := (p + n)) hM_205 d_205_41 rfl rfl ?_
    exact hk
  refine ok_ic (pc' := 105) (pc2 := 45) hM_205 d_205_42 (by decide) rfl (fun hz1 => ?_) (fun hz1 => ?_)
  · have H := H.1 hz1
    refine ok_sg (pc' := 106) (ls' := [some (.inr (.inr (some 53))), some (.inl p), some (.inl n), some (.inl x), some (.inl q)]) (st' := [.inl x]) (m' := m) (fun fx hfx o hk => ?_) ?_
    · refine r_ld (pc' := 106) hM_205 d_205_105 rfl rfl ?_
      exact hk
    exact ok_rt (fun fx _ => rt_i hM_205 d_205_106 rfl) H
  · have H := H.2 hz1
    obtain ⟨hz2, H⟩ := H
    refine ok_sg (pc' := 51) (ls' := [some (.inr (.inr (some 53))), some (.inl p), some (.inl n), some (.inl x), some (.inl q)]) (st' := [.inl ((if (0 ≤ am_s q ∧ am_s q < m 54 0) ∧ nv (m 54) (8 + (am_s q).toNat) ≠ 3 then 1 else 0))]) (m' := m) (fun fx hfx o hk => ?_) ?_
    · refine r_ld (pc' := 46) hM_205 d_205_45 rfl rfl ?_
      refine r_ld (pc' := 48) hM_205 d_205_46 rfl rfl ?_
      refine r_cl (pc' := 51) (c := (206, 0)) (a := [.inr (.inr (some 53)), .inl q]) (q := []) hM_205 d_205_48 rfl (by decide +kernel) hM_206 rfl rfl rfl (Nat.le_of_ble_eq_true rfl) (Nat.le_of_ble_eq_true rfl) (Or.inr rfl) (n_206  m q hz2) (Nat.le_of_ble_eq_true rfl) ?_
      show rn fx 4 (0, 0) 205 51 [some (.inr (.inr (some 53))), some (.inl p), some (.inl n), some (.inl x), some (.inl q)] [.inl ((if (0 ≤ am_s q ∧ am_s q < m 54 0) ∧ nv (m 54) (8 + (am_s q).toNat) ≠ 3 then 1 else 0))] (st0 m) o
      exact hk
    refine ok_if (pc' := 105) (pc2 := 54) hM_205 d_205_51 (by decide) rfl (fun hz3 => ?_) (fun hz3 => ?_)
    · have H := H.1 (as_ite.mp hz3)
      refine ok_sg (pc' := 106) (ls' := [some (.inr (.inr (some 53))), some (.inl p), some (.inl n), some (.inl x), some (.inl q)]) (st' := [.inl x]) (m' := m) (fun fx hfx o hk => ?_) ?_
      · refine r_ld (pc' := 106) hM_205 d_205_105 rfl rfl ?_
        exact hk
      exact ok_rt (fun fx _ => rt_i hM_205 d_205_106 rfl) H
    · have H := H.2 (as_iteN.mp hz3)
      refine ok_sg (pc' := 61) (ls' := [some (.inr (.inr (some 53))), some (.inl p), some (.inl n), some (.inl x), some (.inl q)]) (st' := [.inl ((if (0 ≤ am_s q ∧ am_s q < m 54 0) ∧ nv (m 54) (8 + (am_s q).toNat) = am_s 0 then 1 else 0))]) (m' := m) (fun fx hfx o hk => ?_) ?_
      · refine r_ld (pc' := 55) hM_205 d_205_54 rfl rfl ?_
        refine r_ld (pc' := 57) hM_205 d_205_55 rfl rfl ?_
        refine r_k (pc' := 58) (v := .inl 0) hM_205 d_205_57 rfl rfl ?_
        refine r_cl (pc' := 61) (c := (187, 0)) (a := [.inr (.inr (some 53)), .inl q, .inl 0]) (q := []) hM_205 d_205_58 rfl (by decide +kernel) hM_187 rfl rfl rfl (Nat.le_of_ble_eq_true rfl) (Nat.le_of_ble_eq_true rfl) (Or.inr rfl) (n_187  m q 0 hz2) (Nat.le_of_ble_eq_true rfl) ?_
        show rn fx 4 (0, 0) 205 61 [some (.inr (.inr (some 53))), some (.inl p), some (.inl n), some (.inl x), some (.inl q)] [.inl ((if (0 ≤ am_s q ∧ am_s q < m 54 0) ∧ nv (m 54) (8 + (am_s q).toNat) = am_s 0 then 1 else 0))] (st0 m) o
        exact hk
      refine ok_if (pc' := 99) (pc2 := 64) hM_205 d_205_61 (by decide) rfl (fun hz4 => ?_) (fun hz4 => ?_)
      · have H := H.1 (as_ite.mp hz4)
        refine ok_sg (pc' := 37) (ls' := [some (.inr (.inr (some 53))), some (.inl p), some (.inl n), some (.inl x), some (.inl (q + 1))]) (st' := []) (m' := m) (fun fx hfx o hk => ?_) ?_
        · refine r_sto (pc' := 102) (ls' := [some (.inr (.inr (some 53))), some (.inl p), some (.inl n), some (.inl x), some (.inl (q + 1))]) hM_205 d_205_99 rfl rfl ?_
          refine r_go (pc' := 37) hM_205 d_205_102 (by decide) ?_
          exact hk
        exact H
      · have H := H.2 (as_iteN.mp hz4)
        obtain ⟨hz5, H⟩ := H
        refine ok_sg (pc' := 76) (ls' := [some (.inr (.inr (some 53))), some (.inl p), some (.inl n), some (.inl x), some (.inl q)]) (st' := [.inl 9, .inl (m 54 ((am_s (20 + q)).toNat))]) (m' := m) (fun fx hfx o hk => ?_) ?_
        · refine r_ld (pc' := 65) hM_205 d_205_64 rfl rfl ?_
          refine r_gR (pc' := 68) (v := 54) hM_205 d_205_65 rfl (by decide +kernel) ?_
          refine r_k (pc' := 70) (v := .inl 20) hM_205 d_205_68 rfl rfl ?_
          refine r_ld (pc' := 72) hM_205 d_205_70 rfl rfl ?_
          refine r_b (pc' := 73) (z := (20 + q)) hM_205 d_205_72 rfl rfl ?_
          refine r_ia (pc' := 74) (n := 168) hM_205 d_205_73 rfl rfl hz5 ?_
          refine r_k (pc' := 76) (v := .inl 9) hM_205 d_205_74 rfl rfl ?_
          exact hk
        refine ok_ic (pc' := 82) (pc2 := 79) hM_205 d_205_76 (by decide) rfl (fun hz6 => ?_) (fun hz6 => ?_)
        · have H := H.1 hz6
          refine ok_sg (pc' := 37) (ls' := [some (.inr (.inr (some 53))), some (.inl p), some (.inl n), some (.inl (x + 1)), some (.inl (q + 1))]) (st' := []) (m' := mu m 54 ((am_s (20 + q)).toNat) ((m 54 ((am_s (20 + q)).toNat)) + 1)) (fun fx hfx o hk => ?_) ?_
          · refine r_ld (pc' := 83) hM_205 d_205_82 rfl rfl ?_
            refine r_gR (pc' := 86) (v := 54) hM_205 d_205_83 rfl (by decide +kernel) ?_
            refine r_k (pc' := 88) (v := .inl 20) hM_205 d_205_86 rfl rfl ?_
            refine r_ld (pc' := 90) hM_205 d_205_88 rfl rfl ?_
            refine r_b (pc' := 91) (z := (20 + q)) hM_205 d_205_90 rfl rfl ?_
            refine r_stk (pc' := 92) (st' := [.inl (20 + q), .inr (.inr (some 54)), .inl (20 + q), .inr (.inr (some 54))]) hM_205 d_205_91 rfl rfl ?_
            refine r_ia (pc' := 93) (n := 168) hM_205 d_205_92 rfl rfl hz5 ?_
            refine r_k (pc' := 94) (v := .inl 1) hM_205 d_205_93 rfl rfl ?_
            refine r_b (pc' := 95) (z := ((m 54 ((am_s (20 + q)).toNat)) + 1)) hM_205 d_205_94 rfl rfl ?_
            refine r_is (pc' := 96) (n := 168) hM_205 d_205_95 rfl rfl hz5 ?_
            refine r_sto (pc' := 99) (ls' := [some (.inr (.inr (some 53))), some (.inl p), some (.inl n), some (.inl (x + 1)), some (.inl q)]) hM_205 d_205_96 rfl rfl ?_
            refine r_sto (pc' := 102) (ls' := [some (.inr (.inr (some 53))), some (.inl p), some (.inl n), some (.inl (x + 1)), some (.inl (q + 1))]) hM_205 d_205_99 rfl rfl ?_
            refine r_go (pc' := 37) hM_205 d_205_102 (by decide) ?_
            exact hk
          exact H
        · have H := H.2 (Decidable.not_not.mp hz6)
          refine ok_sg (pc' := 37) (ls' := [some (.inr (.inr (some 53))), some (.inl p), some (.inl n), some (.inl x), some (.inl (q + 1))]) (st' := []) (m' := m) (fun fx hfx o hk => ?_) ?_
          · refine r_go (pc' := 99) hM_205 d_205_79 (by decide) ?_
            refine r_sto (pc' := 102) (ls' := [some (.inr (.inr (some 53))), some (.inl p), some (.inl n), some (.inl x), some (.inl (q + 1))]) hM_205 d_205_99 rfl rfl ?_
            refine r_go (pc' := 37) hM_205 d_205_102 (by decide) ?_
            exact hk
          exact H
theorem u_205_0 {Q : List am_V → am_M → Prop} {m : am_M} {p : Int} {n : Int}  (H : (WFG ((mu m 53 0 0) 54)) ∧ (((0 ≤ am_s p ∧ am_s p < (mu m 53 0 0) 54 0) → ((1 ≤ am_s n ∧ am_s n ≤ 12) → ok 4 205 37 [some (.inr (.inr (some 53))), some (.inl p), some (.inl n), some (.inl 0), some (.inl p)] [] (mu m 53 0 0) Q) ∧ ((¬ (1 ≤ am_s n ∧ am_s n ≤ 12)) → Q [.inl (-3)] (mu m 53 0 0))) ∧ ((¬ (0 ≤ am_s p ∧ am_s p < (mu m 53 0 0) 54 0)) → Q [.inl (-2)] (mu m 53 0 0)))) : ok 4 205 0 [some (.inr (.inr (some 53))), some (.inl p), some (.inl n), none, none] [] m Q := by
  obtain ⟨hz1, H⟩ := H
  refine ok_sg (pc' := 11) (ls' := [some (.inr (.inr (some 53))), some (.inl p), some (.inl n), none, none]) (st' := [.inl (if 0 ≤ am_s p ∧ am_s p < (mu m 53 0 0) 54 0 then 1 else 0)]) (m' := mu m 53 0 0) (fun fx hfx o hk => ?_) ?_
  · refine r_ld (pc' := 1) hM_205 d_205_0 rfl rfl ?_
    refine r_k (pc' := 2) (v := .inl 0) hM_205 d_205_1 rfl rfl ?_
    refine r_pI (pc' := 5) (k0 := 0) hM_205 d_205_2 rfl (by decide +kernel) ?_
    refine r_ld (pc' := 6) hM_205 d_205_5 rfl rfl ?_
    refine r_ld (pc' := 7) hM_205 d_205_6 rfl rfl ?_
    refine r_stk (pc' := 8) (st' := [.inr (.inl (am_s p)), .inr (.inr (some 53))]) hM_205 d_205_7 rfl rfl ?_
    refine r_cl (pc' := 11) (c := (183, 0)) (a := [.inr (.inr (some 53)), .inr (.inl (am_s p))]) (q := []) hM_205 d_205_8 rfl (by decide +kernel) hM_183 rfl rfl rfl (Nat.le_of_ble_eq_true rfl) (Nat.le_of_ble_eq_true rfl) (Or.inr rfl) (n_183s (mu m 53 0 0) p hz1) (Nat.le_of_ble_eq_true rfl) ?_
    show rn fx 4 (0, 0) 205 11 [some (.inr (.inr (some 53))), some (.inl p), some (.inl n), none, none] [.inl (if 0 ≤ am_s p ∧ am_s p < (mu m 53 0 0) 54 0 then 1 else 0)] (st0 (mu m 53 0 0)) o
    exact hk
  refine ok_if (pc' := 17) (pc2 := 14) hM_205 d_205_11 (by decide) rfl (fun hz2 => ?_) (fun hz2 => ?_)
  · have H := H.1 (as_iteN.mp hz2)
    refine ok_sg (pc' := 26) (ls' := [some (.inr (.inr (some 53))), some (.inl p), some (.inl n), none, none]) (st' := [.inl (if 1 ≤ am_s n ∧ am_s n ≤ 12 then 1 else 0)]) (m' := mu m 53 0 0) (fun fx hfx o hk => ?_) ?_
    · refine r_ld (pc' := 18) hM_205 d_205_17 rfl rfl ?_
      refine r_stk (pc' := 19) (st' := [.inr (.inl (am_s n))]) hM_205 d_205_18 rfl rfl ?_
      refine r_k (pc' := 20) (v := .inr (.inl 1)) hM_205 d_205_19 rfl rfl ?_
      refine r_k (pc' := 23) (v := .inr (.inl 12)) hM_205 d_205_20 rfl (by decide +kernel) ?_
      refine r_cl (pc' := 26) (c := (167, 2)) (a := [.inr (.inl (am_s n)), .inr (.inl 1), .inr (.inl 12)]) (q := []) hM_205 d_205_23 rfl (by decide +kernel) hM_167 rfl rfl rfl (Nat.le_of_ble_eq_true rfl) (Nat.le_of_ble_eq_true rfl) (Or.inl rfl) (n_167s (mu m 53 0 0) n 1 12 rfl rfl) (Nat.le_of_ble_eq_true rfl) ?_
      show rn fx 4 (0, 0) 205 26 [some (.inr (.inr (some 53))), some (.inl p), some (.inl n), none, none] [.inl (if 1 ≤ am_s n ∧ am_s n ≤ 12 then 1 else 0)] (st0 (mu m 53 0 0)) o
      exact hk
    refine ok_if (pc' := 32) (pc2 := 29) hM_205 d_205_26 (by decide) rfl (fun hz3 => ?_) (fun hz3 => ?_)
    · have H := H.1 (as_iteN.mp hz3)
      refine ok_sg (pc' := 37) (ls' := [some (.inr (.inr (some 53))), some (.inl p), some (.inl n), some (.inl 0), some (.inl p)]) (st' := []) (m' := mu m 53 0 0) (fun fx hfx o hk => ?_) ?_
      · refine r_k (pc' := 33) (v := .inl 0) hM_205 d_205_32 rfl rfl ?_
        refine r_sto (pc' := 34) (ls' := [some (.inr (.inr (some 53))), some (.inl p), some (.inl n), some (.inl 0), none]) hM_205 d_205_33 rfl rfl ?_
        refine r_ld (pc' := 35) hM_205 d_205_34 rfl rfl ?_
        refine r_sto (pc' := 37) (ls' := [some (.inr (.inr (some 53))), some (.inl p), some (.inl n), some (.inl 0), some (.inl p)]) hM_205 d_205_35 rfl rfl ?_
        exact hk
      exact H
    · have H := H.2 (as_ite.mp (Decidable.not_not.mp hz3))
      refine ok_sg (pc' := 31) (ls' := [some (.inr (.inr (some 53))), some (.inl p), some (.inl n), none, none]) (st' := [.inl (-3)]) (m' := mu m 53 0 0) (fun fx hfx o hk => ?_) ?_
      · refine r_k (pc' := 31) (v := .inl (-3)) hM_205 d_205_29 rfl rfl ?_
        exact hk
      exact ok_rt (fun fx _ => rt_i hM_205 d_205_31 rfl) H
  · have H := H.2 (as_ite.mp (Decidable.not_not.mp hz2))
    refine ok_sg (pc' := 16) (ls' := [some (.inr (.inr (some 53))), some (.inl p), some (.inl n), none, none]) (st' := [.inl (-2)]) (m' := mu m 53 0 0) (fun fx hfx o hk => ?_) ?_
    · refine r_k (pc' := 16) (v := .inl (-2)) hM_205 d_205_14 rfl rfl ?_
      exact hk
    exact ok_rt (fun fx _ => rt_i hM_205 d_205_16 rfl) H
theorem u_158_76 {Q : List am_V → am_M → Prop} {m : am_M} {r : Int} {into : Nat} {x : Int} {y : Int} {p : Int} (h_into : into ∈ rowL) (H : ((am_s (m 2 4) ≤ am_s p) → Q [.inl (m 2 4)] m) ∧ ((¬ (am_s (m 2 4) ≤ am_s p)) → ((¬ (am_s (am_and (am_shr y p) 1) = 0)) → (WFG (vw m 2) ∧ (0 ≤ p ∧ p < 12) ∧ 0 ≤ x ∧ x < 2147483648)) ∧ (∀ y1 : Int, y1 = (if am_s (am_and (am_shr y p) 1) = 0 then 999 else (am_s ((if p < m 2 4 ∧ nv (vw m 2) (8 + p.toNat) ≠ 3 then hrd (nv (vw m 2)) p.toNat x.toNat else (-1000))))) → (q_157 m into p y1) ∧ (ok 3 158 76 [some (.inr (.inr (some 0))), none, some (.inl r), none, some (.inr (.inr (some into))), some (.inl x), some (.inl y), some (.inl (p + 1))] [] (w_157 m into p y1) Q)))) : ok 3 158 76 [some (.inr (.inr (some 0))), none, some (.inl r), none, some (.inr (.inr (some into))), some (.inl x), some (.inl y), some (.inl p)] [] m Q := by
  refine ok_sg (pc' := 85) (ls' := [some (.inr (.inr (some 0))), none, some (.inl r), none, some (.inr (.inr (some into))), some (.inl x), some (.inl y), some (.inl p)]) (st' := [.inl (m 2 4), .inl p]) (m' := m) (fun fx hfx o hk => ?_) ?_
  · refine r_ld (pc' := 78) hM_158 d_158_76 rfl rfl ?_
    refine r_ld (pc' := 79) hM_158 d_158_78 rfl rfl ?_
    refine r_gR (pc' := 82) (v := 2) hM_158 d_158_79 rfl (by decide +kernel) ?_
    refine r_gI (pc' := 85) (k0 := 4) hM_158 d_158_82 rfl (by decide +kernel) ?_
    exact hk
  refine ok_ic (pc' := 129) (pc2 := 88) hM_158 d_158_85 (by decide) rfl (fun hz1 => ?_) (fun hz1 => ?_)
  · have H := H.1 hz1
    refine ok_sg (pc' := 136) (ls' := [some (.inr (.inr (some 0))), none, some (.inl r), none, some (.inr (.inr (some into))), some (.inl x), some (.inl y), some (.inl p)]) (st' := [.inl (m 2 4)]) (m' := m) (fun fx hfx o hk => ?_) ?_
    · refine r_ld (pc' := 130) hM_158 d_158_129 rfl rfl ?_
      refine r_gR (pc' := 133) (v := 2) hM_158 d_158_130 rfl (by decide +kernel) ?_
      refine r_gI (pc' := 136) (k0 := 4) hM_158 d_158_133 rfl (by decide +kernel) ?_
      exact hk
    exact ok_rt (fun fx _ => rt_i hM_158 d_158_136 rfl) H
  · have H := H.2 hz1
    obtain ⟨hz3, H⟩ := H
    refine ok_sg (pc' := 99) (ls' := [some (.inr (.inr (some 0))), none, some (.inl r), none, some (.inr (.inr (some into))), some (.inl x), some (.inl y), some (.inl p)]) (st' := [.inl (am_and (am_shr y p) 1), .inl p, .inr (.inr (some into))]) (m' := m) (fun fx hfx o hk => ?_) ?_
    · refine r_ld (pc' := 90) hM_158 d_158_88 rfl rfl ?_
      refine r_ld (pc' := 92) hM_158 d_158_90 rfl rfl ?_
      refine r_ld (pc' := 94) hM_158 d_158_92 rfl rfl ?_
      refine r_ld (pc' := 96) hM_158 d_158_94 rfl rfl ?_
      refine r_b (pc' := 97) (z := (am_shr y p)) hM_158 d_158_96 rfl rfl ?_
      refine r_k (pc' := 98) (v := .inl 1) hM_158 d_158_97 rfl rfl ?_
      refine r_b (pc' := 99) (z := (am_and (am_shr y p) 1)) hM_158 d_158_98 rfl rfl ?_
      exact hk
    refine ok_sg (pc' := 120) (ls' := [some (.inr (.inr (some 0))), none, some (.inl r), none, some (.inr (.inr (some into))), some (.inl x), some (.inl y), some (.inl p)]) (st' := [.inr (.inl (if am_s (am_and (am_shr y p) 1) = 0 then 999 else (am_s ((if p < m 2 4 ∧ nv (vw m 2) (8 + p.toNat) ≠ 3 then hrd (nv (vw m 2)) p.toNat x.toNat else (-1000)))))), .inl p, .inr (.inr (some into))]) (m' := m) (fun fx hfx o K => ?_) ?_
    · refine r_if (pc' := 117) (pc2 := 102) hM_158 d_158_99 (by decide) rfl (fun hz2 => ?_) (fun hz2 => ?_)
      · have hz2 : am_s (am_and (am_shr y p) 1) = 0 := hz2
        rw [if_pos hz2] at K
        refine r_k (pc' := 120) (v := .inr (.inl 999)) hM_158 d_158_117 rfl (by decide +kernel) ?_
        exact K
      · have hz2 : ¬ (am_s (am_and (am_shr y p) 1) = 0) := hz2
        rw [if_neg hz2] at K
        refine r_ld (pc' := 103) hM_158 d_158_102 rfl rfl ?_
        refine r_gR (pc' := 106) (v := 2) hM_158 d_158_103 rfl (by decide +kernel) ?_
        refine r_ld (pc' := 108) hM_158 d_158_106 rfl rfl ?_
        refine r_ld (pc' := 110) hM_158 d_158_108 rfl rfl ?_
        refine r_cl (pc' := 113) (c := (71, 0)) (a := [.inr (.inr (some 2)), .inl p, .inl x]) (q := [.inl p, .inr (.inr (some into))]) hM_158 d_158_110 rfl (by decide +kernel) hM_71 rfl rfl rfl (Nat.le_of_ble_eq_true rfl) (Nat.le_of_ble_eq_true rfl) (Or.inr rfl) (n_71 (by decide) m p x (hz3 hz2)) (Nat.le_of_ble_eq_true rfl) ?_
        show rn fx 3 (0, 0) 158 113 [some (.inr (.inr (some 0))), none, some (.inl r), none, some (.inr (.inr (some into))), some (.inl x), some (.inl y), some (.inl p)] [.inl ((if p < m 2 4 ∧ nv (vw m 2) (8 + p.toNat) ≠ 3 then hrd (nv (vw m 2)) p.toNat x.toNat else (-1000))), .inl p, .inr (.inr (some into))] (st0 m) o
        refine r_stk (pc' := 114) (st' := [.inr (.inl (am_s ((if p < m 2 4 ∧ nv (vw m 2) (8 + p.toNat) ≠ 3 then hrd (nv (vw m 2)) p.toNat x.toNat else (-1000))))), .inl p, .inr (.inr (some into))]) hM_158 d_158_113 rfl rfl ?_
        refine r_go (pc' := 120) hM_158 d_158_114 (by decide) ?_
        exact K
    have K : ∀ y1 : Int, y1 = (if am_s (am_and (am_shr y p) 1) = 0 then 999 else (am_s ((if p < m 2 4 ∧ nv (vw m 2) (8 + p.toNat) ≠ 3 then hrd (nv (vw m 2)) p.toNat x.toNat else (-1000))))) → ok 3 158 120 [some (.inr (.inr (some 0))), none, some (.inl r), none, some (.inr (.inr (some into))), some (.inl x), some (.inl y), some (.inl p)] [.inr (.inl y1), .inl p, .inr (.inr (some into))] m Q := by
      intro y1 hy1
      replace H := H y1 hy1
      obtain ⟨hz4, H⟩ := H
      refine ok_sg (pc' := 76) (ls' := [some (.inr (.inr (some 0))), none, some (.inl r), none, some (.inr (.inr (some into))), some (.inl x), some (.inl y), some (.inl (p + 1))]) (st' := []) (m' := w_157 m into p y1) (fun fx hfx o hk => ?_) ?_
      · refine r_cl (pc' := 123) (c := (157, 0)) (a := [.inr (.inr (some into)), .inl p, .inr (.inl y1)]) (q := []) hM_158 d_158_120 rfl (by decide +kernel) hM_157 rfl rfl rfl (Nat.le_of_ble_eq_true rfl) (Nat.le_of_ble_eq_true rfl) (Or.inr (rcvR h_into _)) (c_157 h_into m p y1 hz4) (Nat.le_of_ble_eq_true rfl) ?_
        show rn fx 3 (0, 0) 158 123 [some (.inr (.inr (some 0))), none, some (.inl r), none, some (.inr (.inr (some into))), some (.inl x), some (.inl y), some (.inl p)] [] (st0 (w_157 m into p y1)) o
        refine r_sto (pc' := 126) (ls' := [some (.inr (.inr (some 0))), none, some (.inl r), none, some (.inr (.inr (some into))), some (.inl x), some (.inl y), some (.inl (p + 1))]) hM_158 d_158_123 rfl rfl ?_
        refine r_go (pc' := 76) hM_158 d_158_126 (by decide) ?_
        exact hk
      exact H
    exact K _ rfl
theorem u_158_0 {Q : List am_V → am_M → Prop} {m : am_M} {b : Int} {r : Int}  (H : (RWS m) ∧ (((am_s ((rfu m (am_s r))) = 0) → (0 ≤ am_s r ∧ am_s r < (4 : Nat)) ∧ (((am_s (m 2 4) ≤ am_s (m (25 + 2 * (am_s r).toNat) 2)) → (WFG (vw m 2)) ∧ (((0 ≤ am_s b ∧ (am_s b).toNat < 2 ^ (m 2 4).toNat) → ok 3 158 76 [some (.inr (.inr (some 0))), none, some (.inl r), none, some (.inr (.inr (some (25 + 2 * (am_s r).toNat)))), some (.inl (((ons (nv (vw m 2)) (am_s 1) : Nat) : Int))), some (.inl (am_and b (((brl (nv (vw m 2)) : Nat) : Int)))), some (.inl 0)] [] m Q) ∧ ((¬ (0 ≤ am_s b ∧ (am_s b).toNat < 2 ^ (m 2 4).toNat)) → Q [.inl (-3)] m))) ∧ ((¬ (am_s (m 2 4) ≤ am_s (m (25 + 2 * (am_s r).toNat) 2))) → Q [.inl (-7)] m))) ∧ ((¬ (am_s ((rfu m (am_s r))) = 0)) → Q [.inl ((rfu m (am_s r)))] m))) : ok 3 158 0 [some (.inr (.inr (some 0))), some (.inl b), some (.inl r), none, none, none, none, none] [] m Q := by
  obtain ⟨hz1, H⟩ := H
  refine ok_sg (pc' := 7) (ls' := [some (.inr (.inr (some 0))), some (.inl b), some (.inl r), some (.inl ((rfu m (am_s r)))), none, none, none, none]) (st' := [.inl ((rfu m (am_s r)))]) (m' := m) (fun fx hfx o hk => ?_) ?_
  · refine r_ld (pc' := 1) hM_158 d_158_0 rfl rfl ?_
    refine r_ld (pc' := 2) hM_158 d_158_1 rfl rfl ?_
    refine r_cl (pc' := 5) (c := (59, 0)) (a := [.inr (.inr (some 0)), .inl r]) (q := []) hM_158 d_158_2 rfl (by decide +kernel) hM_59 rfl rfl rfl (Nat.le_of_ble_eq_true rfl) (Nat.le_of_ble_eq_true rfl) (Or.inr rfl) (n_59  m r hz1) (Nat.le_of_ble_eq_true rfl) ?_
    show rn fx 3 (0, 0) 158 5 [some (.inr (.inr (some 0))), some (.inl b), some (.inl r), none, none, none, none, none] [.inl ((rfu m (am_s r)))] (st0 m) o
    refine r_sto (pc' := 6) (ls' := [some (.inr (.inr (some 0))), some (.inl b), some (.inl r), some (.inl ((rfu m (am_s r)))), none, none, none, none]) hM_158 d_158_5 rfl rfl ?_
    refine r_ld (pc' := 7) hM_158 d_158_6 rfl rfl ?_
    exact hk
  refine ok_if (pc' := 12) (pc2 := 10) hM_158 d_158_7 (by decide) rfl (fun hz2 => ?_) (fun hz2 => ?_)
  · have H := H.1 hz2
    obtain ⟨hz3, H⟩ := H
    refine ok_sg (pc' := 32) (ls' := [some (.inr (.inr (some 0))), some (.inl b), some (.inl r), some (.inl ((rfu m (am_s r)))), some (.inr (.inr (some (25 + 2 * (am_s r).toNat)))), none, none, none]) (st' := [.inl (m 2 4), .inl (m (25 + 2 * (am_s r).toNat) 2)]) (m' := m) (fun fx hfx o hk => ?_) ?_
    · refine r_ld (pc' := 13) hM_158 d_158_12 rfl rfl ?_
      refine r_gR (pc' := 16) (v := 14) hM_158 d_158_13 rfl (by decide +kernel) ?_
      refine r_ld (pc' := 17) hM_158 d_158_16 rfl rfl ?_
      refine r_aa (pc' := 18) (n := 4) hM_158 d_158_17 rfl rfl (by decide) hz3 (rfRows hz3).1 (shRk (rfRows hz3).2).1 ?_
      refine r_sto (pc' := 20) (ls' := [some (.inr (.inr (some 0))), some (.inl b), some (.inl r), some (.inl ((rfu m (am_s r)))), some (.inr (.inr (some (25 + 2 * (am_s r).toNat)))), none, none, none]) hM_158 d_158_18 rfl rfl ?_
      refine r_ld (pc' := 22) hM_158 d_158_20 rfl rfl ?_
      refine r_gI (pc' := 25) (k0 := 2) hM_158 d_158_22 rfl (gfR_1_144 ((rfRows hz3).2)) ?_
      refine r_ld (pc' := 26) hM_158 d_158_25 rfl rfl ?_
      refine r_gR (pc' := 29) (v := 2) hM_158 d_158_26 rfl (by decide +kernel) ?_
      refine r_gI (pc' := 32) (k0 := 4) hM_158 d_158_29 rfl (by decide +kernel) ?_
      exact hk
    refine ok_ic (pc' := 38) (pc2 := 35) hM_158 d_158_32 (by decide) rfl (fun hz4 => ?_) (fun hz4 => ?_)
    · have H := H.1 hz4
      obtain ⟨hz5, H⟩ := H
      refine ok_sg (pc' := 46) (ls' := [some (.inr (.inr (some 0))), some (.inl b), some (.inl r), some (.inl ((rfu m (am_s r)))), some (.inr (.inr (some (25 + 2 * (am_s r).toNat)))), none, none, none]) (st' := [.inl ((if 0 ≤ am_s b ∧ (am_s b).toNat < 2 ^ (m 2 4).toNat then 1 else 0))]) (m' := m) (fun fx hfx o hk => ?_) ?_
      · refine r_ld (pc' := 39) hM_158 d_158_38 rfl rfl ?_
        refine r_gR (pc' := 42) (v := 2) hM_158 d_158_39 rfl (by decide +kernel) ?_
        refine r_ld (pc' := 43) hM_158 d_158_42 rfl rfl ?_
        refine r_cl (pc' := 46) (c := (63, 0)) (a := [.inr (.inr (some 2)), .inl b]) (q := []) hM_158 d_158_43 rfl (by decide +kernel) hM_63 rfl rfl rfl (Nat.le_of_ble_eq_true rfl) (Nat.le_of_ble_eq_true rfl) (Or.inr rfl) (n_63 (by decide) m b hz5) (Nat.le_of_ble_eq_true rfl) ?_
        show rn fx 3 (0, 0) 158 46 [some (.inr (.inr (some 0))), some (.inl b), some (.inl r), some (.inl ((rfu m (am_s r)))), some (.inr (.inr (some (25 + 2 * (am_s r).toNat)))), none, none, none] [.inl ((if 0 ≤ am_s b ∧ (am_s b).toNat < 2 ^ (m 2 4).toNat then 1 else 0))] (st0 m) o
        exact hk
      refine ok_if (pc' := 52) (pc2 := 49) hM_158 d_158_46 (by decide) rfl (fun hz6 => ?_) (fun hz6 => ?_)
      · have H := H.1 (as_iteN.mp hz6)
        refine ok_sg (pc' := 76) (ls' := [some (.inr (.inr (some 0))), none, some (.inl r), none, some (.inr (.inr (some (25 + 2 * (am_s r).toNat)))), some (.inl (((ons (nv (vw m 2)) (am_s 1) : Nat) : Int))), some (.inl (am_and b (((brl (nv (vw m 2)) : Nat) : Int)))), some (.inl 0)]) (st' := []) (m' := m) (fun fx hfx o hk => ?_) ?_
        · refine r_ld (pc' := 53) hM_158 d_158_52 rfl rfl ?_
          refine r_gR (pc' := 56) (v := 2) hM_158 d_158_53 rfl (by decide +kernel) ?_
          refine r_k (pc' := 57) (v := .inl 1) hM_158 d_158_56 rfl rfl ?_
          refine r_cl (pc' := 60) (c := (48, 0)) (a := [.inr (.inr (some 2)), .inl 1]) (q := []) hM_158 d_158_57 rfl (by decide +kernel) hM_48 rfl rfl rfl (Nat.le_of_ble_eq_true rfl) (Nat.le_of_ble_eq_true rfl) (Or.inr rfl) (n_48 (by decide) m 1 hz5) (Nat.le_of_ble_eq_true rfl) ?_
          show rn fx 3 (0, 0) 158 60 [some (.inr (.inr (some 0))), some (.inl b), some (.inl r), some (.inl ((rfu m (am_s r)))), some (.inr (.inr (some (25 + 2 * (am_s r).toNat)))), none, none, none] [.inl (((ons (nv (vw m 2)) (am_s 1) : Nat) : Int))] (st0 m) o
          refine r_sto (pc' := 62) (ls' := [some (.inr (.inr (some 0))), some (.inl b), some (.inl r), some (.inl ((rfu m (am_s r)))), some (.inr (.inr (some (25 + 2 * (am_s r).toNat)))), some (.inl (((ons (nv (vw m 2)) (am_s 1) : Nat) : Int))), none, none]) hM_158 d_158_60 rfl rfl ?_
          refine r_ld (pc' := 63) hM_158 d_158_62 rfl rfl ?_
          refine r_ld (pc' := 64) hM_158 d_158_63 rfl rfl ?_
          refine r_gR (pc' := 67) (v := 2) hM_158 d_158_64 rfl (by decide +kernel) ?_
          refine r_cl (pc' := 70) (c := (47, 0)) (a := [.inr (.inr (some 2))]) (q := [.inl b]) hM_158 d_158_67 rfl (by decide +kernel) hM_47 rfl rfl rfl (Nat.le_of_ble_eq_true rfl) (Nat.le_of_ble_eq_true rfl) (Or.inr rfl) (n_47 (by decide) m  hz5) (Nat.le_of_ble_eq_true rfl) ?_
          show rn fx 3 (0, 0) 158 70 [some (.inr (.inr (some 0))), some (.inl b), some (.inl r), some (.inl ((rfu m (am_s r)))), some (.inr (.inr (some (25 + 2 * (am_s r).toNat)))), some (.inl (((ons (nv (vw m 2)) (am_s 1) : Nat) : Int))), none, none] [.inl (((brl (nv (vw m 2)) : Nat) : Int)), .inl b] (st0 m) o
          refine r_b (pc' := 71) (z := (am_and b (((brl (nv (vw m 2)) : Nat) : Int)))) hM_158 d_158_70 rfl rfl ?_
          refine r_sto (pc' := 73) (ls' := [some (.inr (.inr (some 0))), some (.inl b), some (.inl r), some (.inl ((rfu m (am_s r)))), some (.inr (.inr (some (25 + 2 * (am_s r).toNat)))), some (.inl (((ons (nv (vw m 2)) (am_s 1) : Nat) : Int))), some (.inl (am_and b (((brl (nv (vw m 2)) : Nat) : Int)))), none]) hM_158 d_158_71 rfl rfl ?_
          refine r_k (pc' := 74) (v := .inl 0) hM_158 d_158_73 rfl rfl ?_
          refine r_sto (pc' := 76) (ls' := [some (.inr (.inr (some 0))), some (.inl b), some (.inl r), some (.inl ((rfu m (am_s r)))), some (.inr (.inr (some (25 + 2 * (am_s r).toNat)))), some (.inl (((ons (nv (vw m 2)) (am_s 1) : Nat) : Int))), some (.inl (am_and b (((brl (nv (vw m 2)) : Nat) : Int)))), some (.inl 0)]) hM_158 d_158_74 rfl rfl ?_
          refine rn_wk (a := [some (.inr (.inr (some 0))), none, some (.inl r), none, some (.inr (.inr (some (25 + 2 * (am_s r).toNat)))), some (.inl (((ons (nv (vw m 2)) (am_s 1) : Nat) : Int))), some (.inl (am_and b (((brl (nv (vw m 2)) : Nat) : Int)))), some (.inl 0)]) (by simp only [am_le, and_self]) ?_
          exact hk
        exact H
      · have H := H.2 (as_ite.mp (Decidable.not_not.mp hz6))
        refine ok_sg (pc' := 51) (ls' := [some (.inr (.inr (some 0))), some (.inl b), some (.inl r), some (.inl ((rfu m (am_s r)))), some (.inr (.inr (some (25 + 2 * (am_s r).toNat)))), none, none, none]) (st' := [.inl (-3)]) (m' := m) (fun fx hfx o hk => ?_) ?_
        · refine r_k (pc' := 51) (v := .inl (-3)) hM_158 d_158_49 rfl rfl ?_
          exact hk
        exact ok_rt (fun fx _ => rt_i hM_158 d_158_51 rfl) H
    · have H := H.2 hz4
      refine ok_sg (pc' := 37) (ls' := [some (.inr (.inr (some 0))), some (.inl b), some (.inl r), some (.inl ((rfu m (am_s r)))), some (.inr (.inr (some (25 + 2 * (am_s r).toNat)))), none, none, none]) (st' := [.inl (-7)]) (m' := m) (fun fx hfx o hk => ?_) ?_
      · refine r_k (pc' := 37) (v := .inl (-7)) hM_158 d_158_35 rfl rfl ?_
        exact hk
      exact ok_rt (fun fx _ => rt_i hM_158 d_158_37 rfl) H
  · have H := H.2 hz2
    refine ok_sg (pc' := 11) (ls' := [some (.inr (.inr (some 0))), some (.inl b), some (.inl r), some (.inl ((rfu m (am_s r)))), none, none, none, none]) (st' := [.inl ((rfu m (am_s r)))]) (m' := m) (fun fx hfx o hk => ?_) ?_
    · refine r_ld (pc' := 11) hM_158 d_158_10 rfl rfl ?_
      exact hk
    exact ok_rt (fun fx _ => rt_i hM_158 d_158_11 rfl) H
theorem u_254_83 {Q : List am_V → am_M → Prop} {m : am_M} {b : Int} {r : Int} {x : Int} {p : Int}  (H : ((am_s (m 54 0) ≤ am_s p) → Q [.inl (m 54 0)] m) ∧ ((¬ (am_s (m 54 0) ≤ am_s p)) → ((0 ≤ (am_s b) ∧ (am_s b) < 2147483648) ∧ 0 ≤ p ∧ p < 32) ∧ (((¬ (am_s ((if (am_s b).toNat.testBit p.toNat = true then 1 else 0)) = 0)) → (WFG (m 54))) ∧ (((¬ (am_s ((if (am_s b).toNat.testBit p.toNat = true then 1 else 0)) = 0)) → (¬ (¬ am_s ((if (0 ≤ am_s p ∧ am_s p < m 54 0) ∧ nv (m 54) (8 + (am_s p).toNat) = am_s 3 then 1 else 0)) = 0)) → (WFG (m 54) ∧ (0 ≤ p ∧ p < m 54 0) ∧ 0 ≤ x ∧ x < 2147483648)) ∧ (∀ y1 : Int, y1 = (if am_s ((if (am_s b).toNat.testBit p.toNat = true then 1 else 0)) = 0 then 999 else (if ¬ am_s ((if (0 ≤ am_s p ∧ am_s p < m 54 0) ∧ nv (m 54) (8 + (am_s p).toNat) = am_s 3 then 1 else 0)) = 0 then 999 else (am_s ((hrd (nv (m 54)) p.toNat x.toNat))))) → (0 ≤ am_s r ∧ am_s r < (4 : Nat)) ∧ ((0 ≤ am_s ((40 * r) + p) ∧ am_s ((40 * r) + p) < (160 : Nat)) ∧ (ok 3 254 83 [some (.inr (.inr (some 53))), some (.inl b), some (.inl r), some (.inl x), some (.inl (p + 1))] [] (mu m 75 ((am_s ((40 * r) + p)).toNat) (v_253 m y1 (m 73 ((am_s r).toNat)))) Q))))))) : ok 3 254 83 [some (.inr (.inr (some 53))), some (.inl b), some (.inl r), some (.inl x), some (.inl p)] [] m Q := by
  refine ok_sg (pc' := 91) (ls' := [some (.inr (.inr (some 53))), some (.inl b), some (.inl r), some (.inl x), some (.inl p)]) (st' := [.inl (m 54 0), .inl p]) (m' := m) (fun fx hfx o hk => ?_) ?_
  · refine r_ld (pc' := 85) hM_254 d_254_83 rfl rfl ?_
    refine r_ld (pc' := 86) hM_254 d_254_85 rfl rfl ?_
    refine r_gR (pc' := 89) (v := 54) hM_254 d_254_86 rfl (by decide +kernel) ?_
    refine r_k (pc' := 90) (v := .inl 0) hM_254 d_254_89 rfl rfl ?_
    refine r_iae (pc' := 91) (n := 168) (z := (m 54 0)) hM_254 d_254_90 rfl rfl (by decide) (by rw [show (am_s 0).toNat = 0 by decide]) ?_
    exact hk
  refine ok_ic (pc' := 155) (pc2 := 94) hM_254 d_254_91 (by decide) rfl (fun hz1 => ?_) (fun hz1 => ?_)
  · have H := H.1 hz1
    refine ok_sg (pc' := 161) (ls' := [some (.inr (.inr (some 53))), some (.inl b), some (.inl r), some (.inl x), some (.inl p)]) (st' := [.inl (m 54 0)]) (m' := m) (fun fx hfx o hk => ?_) ?_
    · refine r_ld (pc' := 156) hM_254 d_254_155 rfl rfl ?_
      refine r_gR (pc' := 159) (v := 54) hM_254 d_254_156 rfl (by decide +kernel) ?_
      refine r_k (pc' := 160) (v := .inl 0) hM_254 d_254_159 rfl rfl ?_
      refine r_iae (pc' := 161) (n := 168) (z := (m 54 0)) hM_254 d_254_160 rfl rfl (by decide) (by rw [show (am_s 0).toNat = 0 by decide]) ?_
      exact hk
    exact ok_rt (fun fx _ => rt_i hM_254 d_254_161 rfl) H
  · have H := H.2 hz1
    obtain ⟨hz2, H⟩ := H
    obtain ⟨hz4, H⟩ := H
    obtain ⟨hz6, H⟩ := H
    refine ok_sg (pc' := 112) (ls' := [some (.inr (.inr (some 53))), some (.inl b), some (.inl r), some (.inl x), some (.inl p)]) (st' := [.inl ((if (am_s b).toNat.testBit p.toNat = true then 1 else 0)), .inl ((40 * r) + p), .inr (.inr (some 75))]) (m' := m) (fun fx hfx o hk => ?_) ?_
    · refine r_ld (pc' := 95) hM_254 d_254_94 rfl rfl ?_
      refine r_gR (pc' := 98) (v := 75) hM_254 d_254_95 rfl (by decide +kernel) ?_
      refine r_k (pc' := 100) (v := .inl 40) hM_254 d_254_98 rfl rfl ?_
      refine r_ld (pc' := 101) hM_254 d_254_100 rfl rfl ?_
      refine r_b (pc' := 102) (z := (40 * r)) hM_254 d_254_101 rfl rfl ?_
      refine r_ld (pc' := 104) hM_254 d_254_102 rfl rfl ?_
      refine r_b (pc' := 105) (z := ((40 * r) + p)) hM_254 d_254_104 rfl rfl ?_
      refine r_ld (pc' := 106) hM_254 d_254_105 rfl rfl ?_
      refine r_stk (pc' := 107) (st' := [.inr (.inl (am_s b)), .inl ((40 * r) + p), .inr (.inr (some 75))]) hM_254 d_254_106 rfl rfl ?_
      refine r_ld (pc' := 109) hM_254 d_254_107 rfl rfl ?_
      refine r_cl (pc' := 112) (c := (194, 2)) (a := [.inr (.inl (am_s b)), .inl p]) (q := [.inl ((40 * r) + p), .inr (.inr (some 75))]) hM_254 d_254_109 rfl (by decide +kernel) hM_194 rfl rfl rfl (Nat.le_of_ble_eq_true rfl) (Nat.le_of_ble_eq_true rfl) (Or.inl rfl) (n_194  m (am_s b) p hz2) (Nat.le_of_ble_eq_true rfl) ?_
      show rn fx 3 (0, 0) 254 112 [some (.inr (.inr (some 53))), some (.inl b), some (.inl r), some (.inl x), some (.inl p)] [.inl ((if (am_s b).toNat.testBit p.toNat = true then 1 else 0)), .inl ((40 * r) + p), .inr (.inr (some 75))] (st0 m) o
      exact hk
    refine ok_sg (pc' := 139) (ls' := [some (.inr (.inr (some 53))), some (.inl b), some (.inl r), some (.inl x), some (.inl p)]) (st' := [.inr (.inl (if am_s ((if (am_s b).toNat.testBit p.toNat = true then 1 else 0)) = 0 then 999 else (if ¬ am_s ((if (0 ≤ am_s p ∧ am_s p < m 54 0) ∧ nv (m 54) (8 + (am_s p).toNat) = am_s 3 then 1 else 0)) = 0 then 999 else (am_s ((hrd (nv (m 54)) p.toNat x.toNat)))))), .inl ((40 * r) + p), .inr (.inr (some 75))]) (m' := m) (fun fx hfx o K => ?_) ?_
    · refine r_if (pc' := 136) (pc2 := 115) hM_254 d_254_112 (by decide) rfl (fun hz3 => ?_) (fun hz3 => ?_)
      · have hz3 : am_s ((if (am_s b).toNat.testBit p.toNat = true then 1 else 0)) = 0 := hz3
        rw [if_pos hz3] at K
        refine r_k (pc' := 139) (v := .inr (.inl 999)) hM_254 d_254_136 rfl (by decide +kernel) ?_
        exact K
      · have hz3 : ¬ (am_s ((if (am_s b).toNat.testBit p.toNat = true then 1 else 0)) = 0) := hz3
        rw [if_neg hz3] at K
        refine r_ld (pc' := 116) hM_254 d_254_115 rfl rfl ?_
        refine r_ld (pc' := 118) hM_254 d_254_116 rfl rfl ?_
        refine r_k (pc' := 119) (v := .inl 3) hM_254 d_254_118 rfl rfl ?_
        refine r_cl (pc' := 122) (c := (187, 0)) (a := [.inr (.inr (some 53)), .inl p, .inl 3]) (q := [.inl ((40 * r) + p), .inr (.inr (some 75))]) hM_254 d_254_119 rfl (by decide +kernel) hM_187 rfl rfl rfl (Nat.le_of_ble_eq_true rfl) (Nat.le_of_ble_eq_true rfl) (Or.inr rfl) (n_187  m p 3 (hz4 hz3)) (Nat.le_of_ble_eq_true rfl) ?_
        show rn fx 3 (0, 0) 254 122 [some (.inr (.inr (some 53))), some (.inl b), some (.inl r), some (.inl x), some (.inl p)] [.inl ((if (0 ≤ am_s p ∧ am_s p < m 54 0) ∧ nv (m 54) (8 + (am_s p).toNat) = am_s 3 then 1 else 0)), .inl ((40 * r) + p), .inr (.inr (some 75))] (st0 m) o
        refine r_if (pc' := 136) (pc2 := 125) hM_254 d_254_122 (by decide) rfl (fun hz5 => ?_) (fun hz5 => ?_)
        · have hz5 : ¬ am_s ((if (0 ≤ am_s p ∧ am_s p < m 54 0) ∧ nv (m 54) (8 + (am_s p).toNat) = am_s 3 then 1 else 0)) = 0 := hz5
          rw [if_pos hz5] at K
          refine r_k (pc' := 139) (v := .inr (.inl 999)) hM_254 d_254_136 rfl (by decide +kernel) ?_
          exact K
        · have hz5 : ¬ (¬ am_s ((if (0 ≤ am_s p ∧ am_s p < m 54 0) ∧ nv (m 54) (8 + (am_s p).toNat) = am_s 3 then 1 else 0)) = 0) := hz5
          rw [if_neg hz5] at K
          refine r_ld (pc' := 126) hM_254 d_254_125 rfl rfl ?_
          refine r_ld (pc' := 128) hM_254 d_254_126 rfl rfl ?_
          refine r_ld (pc' := 129) hM_254 d_254_128 rfl rfl ?_
          refine r_cl (pc' := 132) (c := (210, 0)) (a := [.inr (.inr (some 53)), .inl p, .inl x]) (q := [.inl ((40 * r) + p), .inr (.inr (some 75))]) hM_254 d_254_129 rfl (by decide +kernel) hM_210 rfl rfl rfl (Nat.le_of_ble_eq_true rfl) (Nat.le_of_ble_eq_true rfl) (Or.inr rfl) (n_210  m p x (hz6 hz3 hz5)) (Nat.le_of_ble_eq_true rfl) ?_
          show rn fx 3 (0, 0) 254 132 [some (.inr (.inr (some 53))), some (.inl b), some (.inl r), some (.inl x), some (.inl p)] [.inl ((hrd (nv (m 54)) p.toNat x.toNat)), .inl ((40 * r) + p), .inr (.inr (some 75))] (st0 m) o
          refine r_stk (pc' := 133) (st' := [.inr (.inl (am_s ((hrd (nv (m 54)) p.toNat x.toNat)))), .inl ((40 * r) + p), .inr (.inr (some 75))]) hM_254 d_254_132 rfl rfl ?_
          refine r_go (pc' := 139) hM_254 d_254_133 (by decide) ?_
          exact K
    have K : ∀ y1 : Int, y1 = (if am_s ((if (am_s b).toNat.testBit p.toNat = true then 1 else 0)) = 0 then 999 else (if ¬ am_s ((if (0 ≤ am_s p ∧ am_s p < m 54 0) ∧ nv (m 54) (8 + (am_s p).toNat) = am_s 3 then 1 else 0)) = 0 then 999 else (am_s ((hrd (nv (m 54)) p.toNat x.toNat))))) → ok 3 254 139 [some (.inr (.inr (some 53))), some (.inl b), some (.inl r), some (.inl x), some (.inl p)] [.inr (.inl y1), .inl ((40 * r) + p), .inr (.inr (some 75))] m Q := by
      intro y1 hy1
      replace H := H y1 hy1
      obtain ⟨hz7, H⟩ := H
      obtain ⟨hz8, H⟩ := H
      refine ok_sg (pc' := 83) (ls' := [some (.inr (.inr (some 53))), some (.inl b), some (.inl r), some (.inl x), some (.inl (p + 1))]) (st' := []) (m' := mu m 75 ((am_s ((40 * r) + p)).toNat) (v_253 m y1 (m 73 ((am_s r).toNat)))) (fun fx hfx o hk => ?_) ?_
      · refine r_ld (pc' := 140) hM_254 d_254_139 rfl rfl ?_
        refine r_gR (pc' := 143) (v := 73) hM_254 d_254_140 rfl (by decide +kernel) ?_
        refine r_ld (pc' := 144) hM_254 d_254_143 rfl rfl ?_
        refine r_ia (pc' := 145) (n := 4) hM_254 d_254_144 rfl rfl hz7 ?_
        refine r_cl (pc' := 148) (c := (253, 2)) (a := [.inr (.inl y1), .inl (m 73 ((am_s r).toNat))]) (q := [.inl ((40 * r) + p), .inr (.inr (some 75))]) hM_254 d_254_145 rfl (by decide +kernel) hM_253 rfl rfl rfl (Nat.le_of_ble_eq_true rfl) (Nat.le_of_ble_eq_true rfl) (Or.inl rfl) (c_253  m y1 (m 73 ((am_s r).toNat))) (Nat.le_of_ble_eq_true rfl) ?_
        show rn fx 3 (0, 0) 254 148 [some (.inr (.inr (some 53))), some (.inl b), some (.inl r), some (.inl x), some (.inl p)] [.inr (.inl (v_253 m y1 (m 73 ((am_s r).toNat)))), .inl ((40 * r) + p), .inr (.inr (some 75))] (st0 m) o
        refine r_ls (pc' := 149) (n := 160) hM_254 d_254_148 rfl rfl hz8 ?_
        refine r_sto (pc' := 152) (ls' := [some (.inr (.inr (some 53))), some (.inl b), some (.inl r), some (.inl x), some (.inl (p + 1))]) hM_254 d_254_149 rfl rfl ?_
        refine r_go (pc' := 83) hM_254 d_254_152 (by decide) ?_
        exact hk
      exact H
    exact K _ rfl
theorem u_254_0 {Q : List am_V → am_M → Prop} {m : am_M} {b : Int} {r : Int}  (H : ((0 ≤ am_s r ∧ am_s r ≤ 3) → (0 ≤ am_s r ∧ am_s r < (4 : Nat)) ∧ (((¬ am_s (m 73 ((am_s r).toNat)) = (-1)) → ((am_s (m 54 0) ≤ am_s (m 74 ((am_s r).toNat))) → ((am_t 0 ≤ am_t (am_s b) ∧ am_t (am_s b) ≤ am_t (am_s ((am_shl 1 (m 54 0)) - 1))) → (WFG ((mu m 53 0 0) 54)) ∧ (ok 3 254 83 [some (.inr (.inr (some 53))), some (.inl b), some (.inl r), some (.inl (((ons (nv ((mu m 53 0 0) 54)) (am_s 1) : Nat) : Int))), some (.inl 0)] [] (mu m 53 0 0) Q)) ∧ ((¬ (am_t 0 ≤ am_t (am_s b) ∧ am_t (am_s b) ≤ am_t (am_s ((am_shl 1 (m 54 0)) - 1)))) → Q [.inl (-3)] (mu m 53 0 0))) ∧ ((¬ (am_s (m 54 0) ≤ am_s (m 74 ((am_s r).toNat)))) → Q [.inl (-7)] (mu m 53 0 0))) ∧ ((am_s (m 73 ((am_s r).toNat)) = (-1)) → Q [.inl (-6)] (mu m 53 0 0)))) ∧ ((¬ (0 ≤ am_s r ∧ am_s r ≤ 3)) → Q [.inl (-2)] (mu m 53 0 0))) : ok 3 254 0 [some (.inr (.inr (some 53))), some (.inl b), some (.inl r), none, none] [] m Q := by
  refine ok_sg (pc' := 14) (ls' := [some (.inr (.inr (some 53))), some (.inl b), some (.inl r), none, none]) (st' := [.inl (if 0 ≤ am_s r ∧ am_s r ≤ 3 then 1 else 0)]) (m' := mu m 53 0 0) (fun fx hfx o hk => ?_) ?_
  · refine r_ld (pc' := 1) hM_254 d_254_0 rfl rfl ?_
    refine r_k (pc' := 2) (v := .inl 0) hM_254 d_254_1 rfl rfl ?_
    refine r_pI (pc' := 5) (k0 := 0) hM_254 d_254_2 rfl (by decide +kernel) ?_
    refine r_ld (pc' := 6) hM_254 d_254_5 rfl rfl ?_
    refine r_stk (pc' := 7) (st' := [.inr (.inl (am_s r))]) hM_254 d_254_6 rfl rfl ?_
    refine r_k (pc' := 8) (v := .inr (.inl 0)) hM_254 d_254_7 rfl rfl ?_
    refine r_k (pc' := 11) (v := .inr (.inl 3)) hM_254 d_254_8 rfl (by decide +kernel) ?_
    refine r_cl (pc' := 14) (c := (167, 2)) (a := [.inr (.inl (am_s r)), .inr (.inl 0), .inr (.inl 3)]) (q := []) hM_254 d_254_11 rfl (by decide +kernel) hM_167 rfl rfl rfl (Nat.le_of_ble_eq_true rfl) (Nat.le_of_ble_eq_true rfl) (Or.inl rfl) (n_167s (mu m 53 0 0) r 0 3 rfl rfl) (Nat.le_of_ble_eq_true rfl) ?_
    show rn fx 3 (0, 0) 254 14 [some (.inr (.inr (some 53))), some (.inl b), some (.inl r), none, none] [.inl (if 0 ≤ am_s r ∧ am_s r ≤ 3 then 1 else 0)] (st0 (mu m 53 0 0)) o
    exact hk
  refine ok_if (pc' := 20) (pc2 := 17) hM_254 d_254_14 (by decide) rfl (fun hz1 => ?_) (fun hz1 => ?_)
  · have H := H.1 (as_iteN.mp hz1)
    obtain ⟨hz2, H⟩ := H
    refine ok_sg (pc' := 27) (ls' := [some (.inr (.inr (some 53))), some (.inl b), some (.inl r), none, none]) (st' := [.inl (-1), .inl (m 73 ((am_s r).toNat))]) (m' := mu m 53 0 0) (fun fx hfx o hk => ?_) ?_
    · refine r_ld (pc' := 21) hM_254 d_254_20 rfl rfl ?_
      refine r_gR (pc' := 24) (v := 73) hM_254 d_254_21 rfl (by decide +kernel) ?_
      refine r_ld (pc' := 25) hM_254 d_254_24 rfl rfl ?_
      refine r_iae (pc' := 26) (n := 4) (z := (m 73 ((am_s r).toNat))) hM_254 d_254_25 rfl rfl hz2 (mu_r (by decide)) ?_
      refine r_k (pc' := 27) (v := .inl (-1)) hM_254 d_254_26 rfl rfl ?_
      exact hk
    refine ok_ic (pc' := 33) (pc2 := 30) hM_254 d_254_27 (by decide) rfl (fun hz3 => ?_) (fun hz3 => ?_)
    · have H := H.1 hz3
      refine ok_sg (pc' := 45) (ls' := [some (.inr (.inr (some 53))), some (.inl b), some (.inl r), none, none]) (st' := [.inl (m 54 0), .inl (m 74 ((am_s r).toNat))]) (m' := mu m 53 0 0) (fun fx hfx o hk => ?_) ?_
      · refine r_ld (pc' := 34) hM_254 d_254_33 rfl rfl ?_
        refine r_gR (pc' := 37) (v := 74) hM_254 d_254_34 rfl (by decide +kernel) ?_
        refine r_ld (pc' := 38) hM_254 d_254_37 rfl rfl ?_
        refine r_iae (pc' := 39) (n := 4) (z := (m 74 ((am_s r).toNat))) hM_254 d_254_38 rfl rfl hz2 (mu_r (by decide)) ?_
        refine r_ld (pc' := 40) hM_254 d_254_39 rfl rfl ?_
        refine r_gR (pc' := 43) (v := 54) hM_254 d_254_40 rfl (by decide +kernel) ?_
        refine r_k (pc' := 44) (v := .inl 0) hM_254 d_254_43 rfl rfl ?_
        refine r_iae (pc' := 45) (n := 168) (z := (m 54 0)) hM_254 d_254_44 rfl rfl (by decide) (by rw [show (am_s 0).toNat = 0 by decide]; exact mu_r (by decide)) ?_
        exact hk
      refine ok_ic (pc' := 51) (pc2 := 48) hM_254 d_254_45 (by decide) rfl (fun hz4 => ?_) (fun hz4 => ?_)
      · have H := H.1 hz4
        refine ok_sg (pc' := 68) (ls' := [some (.inr (.inr (some 53))), some (.inl b), some (.inl r), none, none]) (st' := [.inl ((if am_t 0 ≤ am_t (am_s b) ∧ am_t (am_s b) ≤ am_t (am_s ((am_shl 1 (m 54 0)) - 1)) then 1 else 0))]) (m' := mu m 53 0 0) (fun fx hfx o hk => ?_) ?_
        · refine r_ld (pc' := 52) hM_254 d_254_51 rfl rfl ?_
          refine r_stk (pc' := 53) (st' := [.inr (.inl (am_s b))]) hM_254 d_254_52 rfl rfl ?_
          refine r_k (pc' := 54) (v := .inr (.inl 0)) hM_254 d_254_53 rfl rfl ?_
          refine r_k (pc' := 55) (v := .inl 1) hM_254 d_254_54 rfl rfl ?_
          refine r_ld (pc' := 56) hM_254 d_254_55 rfl rfl ?_
          refine r_gR (pc' := 59) (v := 54) hM_254 d_254_56 rfl (by decide +kernel) ?_
          refine r_k (pc' := 60) (v := .inl 0) hM_254 d_254_59 rfl rfl ?_
          refine r_iae (pc' := 61) (n := 168) (z := (m 54 0)) hM_254 d_254_60 rfl rfl (by decide) (by rw [show (am_s 0).toNat = 0 by decide]; exact mu_r (by decide)) ?_
          refine r_b (pc' := 62) (z := (am_shl 1 (m 54 0))) hM_254 d_254_61 rfl rfl ?_
          refine r_k (pc' := 63) (v := .inl 1) hM_254 d_254_62 rfl rfl ?_
          refine r_b (pc' := 64) (z := ((am_shl 1 (m 54 0)) - 1)) hM_254 d_254_63 rfl rfl ?_
          refine r_stk (pc' := 65) (st' := [.inr (.inl (am_s ((am_shl 1 (m 54 0)) - 1))), .inr (.inl 0), .inr (.inl (am_s b))]) hM_254 d_254_64 rfl rfl ?_
          refine r_cl (pc' := 68) (c := (167, 2)) (a := [.inr (.inl (am_s b)), .inr (.inl 0), .inr (.inl (am_s ((am_shl 1 (m 54 0)) - 1)))]) (q := []) hM_254 d_254_65 rfl (by decide +kernel) hM_167 rfl rfl rfl (Nat.le_of_ble_eq_true rfl) (Nat.le_of_ble_eq_true rfl) (Or.inl rfl) (n_167  (mu m 53 0 0) (am_s b) 0 (am_s ((am_shl 1 (m 54 0)) - 1))) (Nat.le_of_ble_eq_true rfl) ?_
          show rn fx 3 (0, 0) 254 68 [some (.inr (.inr (some 53))), some (.inl b), some (.inl r), none, none] [.inl ((if am_t 0 ≤ am_t (am_s b) ∧ am_t (am_s b) ≤ am_t (am_s ((am_shl 1 (m 54 0)) - 1)) then 1 else 0))] (st0 (mu m 53 0 0)) o
          exact hk
        refine ok_if (pc' := 74) (pc2 := 71) hM_254 d_254_68 (by decide) rfl (fun hz5 => ?_) (fun hz5 => ?_)
        · have H := H.1 (as_iteN.mp hz5)
          obtain ⟨hz6, H⟩ := H
          refine ok_sg (pc' := 83) (ls' := [some (.inr (.inr (some 53))), some (.inl b), some (.inl r), some (.inl (((ons (nv ((mu m 53 0 0) 54)) (am_s 1) : Nat) : Int))), some (.inl 0)]) (st' := []) (m' := mu m 53 0 0) (fun fx hfx o hk => ?_) ?_
          · refine r_ld (pc' := 75) hM_254 d_254_74 rfl rfl ?_
            refine r_k (pc' := 76) (v := .inl 1) hM_254 d_254_75 rfl rfl ?_
            refine r_cl (pc' := 79) (c := (192, 0)) (a := [.inr (.inr (some 53)), .inl 1]) (q := []) hM_254 d_254_76 rfl (by decide +kernel) hM_192 rfl rfl rfl (Nat.le_of_ble_eq_true rfl) (Nat.le_of_ble_eq_true rfl) (Or.inr rfl) (c_192  (mu m 53 0 0) 1 hz6) (Nat.le_of_ble_eq_true rfl) ?_
            show rn fx 3 (0, 0) 254 79 [some (.inr (.inr (some 53))), some (.inl b), some (.inl r), none, none] [.inl (((ons (nv ((mu m 53 0 0) 54)) (am_s 1) : Nat) : Int))] (st0 (mu m 53 0 0)) o
            refine r_sto (pc' := 80) (ls' := [some (.inr (.inr (some 53))), some (.inl b), some (.inl r), some (.inl (((ons (nv ((mu m 53 0 0) 54)) (am_s 1) : Nat) : Int))), none]) hM_254 d_254_79 rfl rfl ?_
            refine r_k (pc' := 81) (v := .inl 0) hM_254 d_254_80 rfl rfl ?_
            refine r_sto (pc' := 83) (ls' := [some (.inr (.inr (some 53))), some (.inl b), some (.inl r), some (.inl (((ons (nv ((mu m 53 0 0) 54)) (am_s 1) : Nat) : Int))), some (.inl 0)]) hM_254 d_254_81 rfl rfl ?_
            exact hk
          exact H
        · have H := H.2 (as_ite.mp (Decidable.not_not.mp hz5))
          refine ok_sg (pc' := 73) (ls' := [some (.inr (.inr (some 53))), some (.inl b), some (.inl r), none, none]) (st' := [.inl (-3)]) (m' := mu m 53 0 0) (fun fx hfx o hk => ?_) ?_
          · refine r_k (pc' := 73) (v := .inl (-3)) hM_254 d_254_71 rfl rfl ?_
            exact hk
          exact ok_rt (fun fx _ => rt_i hM_254 d_254_73 rfl) H
      · have H := H.2 hz4
        refine ok_sg (pc' := 50) (ls' := [some (.inr (.inr (some 53))), some (.inl b), some (.inl r), none, none]) (st' := [.inl (-7)]) (m' := mu m 53 0 0) (fun fx hfx o hk => ?_) ?_
        · refine r_k (pc' := 50) (v := .inl (-7)) hM_254 d_254_48 rfl rfl ?_
          exact hk
        exact ok_rt (fun fx _ => rt_i hM_254 d_254_50 rfl) H
    · have H := H.2 (Decidable.not_not.mp hz3)
      refine ok_sg (pc' := 32) (ls' := [some (.inr (.inr (some 53))), some (.inl b), some (.inl r), none, none]) (st' := [.inl (-6)]) (m' := mu m 53 0 0) (fun fx hfx o hk => ?_) ?_
      · refine r_k (pc' := 32) (v := .inl (-6)) hM_254 d_254_30 rfl rfl ?_
        exact hk
      exact ok_rt (fun fx _ => rt_i hM_254 d_254_32 rfl) H
  · have H := H.2 (as_ite.mp (Decidable.not_not.mp hz1))
    refine ok_sg (pc' := 19) (ls' := [some (.inr (.inr (some 53))), some (.inl b), some (.inl r), none, none]) (st' := [.inl (-2)]) (m' := mu m 53 0 0) (fun fx hfx o hk => ?_) ?_
    · refine r_k (pc' := 19) (v := .inl (-2)) hM_254 d_254_17 rfl rfl ?_
      exact hk
    exact ok_rt (fun fx _ => rt_i hM_254 d_254_19 rfl) H
theorem u_11_3 {Q : List am_V → am_M → Prop} {m : am_M} {a : Int} {x : Int}  (H : ((am_s x < 0) → Q [] m) ∧ ((¬ (am_s x < 0)) → ((900 ≤ am_s (m 0 1)) → Q [] m) ∧ ((¬ (900 ≤ am_s (m 0 1))) → (0 ≤ am_s (m 0 1) ∧ am_s (m 0 1) < (900 : Nat)) ∧ (ok 0 11 3 [some (.inr (.inr (some 0))), some (.inl a), some (.inl (x + (-8)))] [] (mu (mu m 1 ((am_s (m 0 1)).toNat) (am_b8 (am_b8 (am_ushr a x)))) 0 1 ((m 0 1) + 1)) Q)))) : ok 0 11 3 [some (.inr (.inr (some 0))), some (.inl a), some (.inl x)] [] m Q := by
  refine ok_sg (pc' := 4) (ls' := [some (.inr (.inr (some 0))), some (.inl a), some (.inl x)]) (st' := [.inl x]) (m' := m) (fun fx hfx o hk => ?_) ?_
  · refine r_ld (pc' := 4) hM_11 d_11_3 rfl rfl ?_
    exact hk
  refine ok_if (pc' := 46) (pc2 := 7) hM_11 d_11_4 (by decide) rfl (fun hz1 => ?_) (fun hz1 => ?_)
  · have H := H.1 hz1
    exact ok_rt (fun fx _ => rt_v hM_11 d_11_46 rfl) H
  · have H := H.2 hz1
    refine ok_sg (pc' := 14) (ls' := [some (.inr (.inr (some 0))), some (.inl a), some (.inl x)]) (st' := [.inl 900, .inl (m 0 1)]) (m' := m) (fun fx hfx o hk => ?_) ?_
    · refine r_ld (pc' := 8) hM_11 d_11_7 rfl rfl ?_
      refine r_gI (pc' := 11) (k0 := 1) hM_11 d_11_8 rfl (by decide +kernel) ?_
      refine r_k (pc' := 14) (v := .inl 900) hM_11 d_11_11 rfl rfl ?_
      exact hk
    refine ok_ic (pc' := 46) (pc2 := 17) hM_11 d_11_14 (by decide) rfl (fun hz2 => ?_) (fun hz2 => ?_)
    · have H := H.1 hz2
      exact ok_rt (fun fx _ => rt_v hM_11 d_11_46 rfl) H
    · have H := H.2 hz2
      obtain ⟨hz3, H⟩ := H
      refine ok_sg (pc' := 3) (ls' := [some (.inr (.inr (some 0))), some (.inl a), some (.inl (x + (-8)))]) (st' := []) (m' := mu (mu m 1 ((am_s (m 0 1)).toNat) (am_b8 (am_b8 (am_ushr a x)))) 0 1 ((m 0 1) + 1)) (fun fx hfx o hk => ?_) ?_
      · refine r_ld (pc' := 18) hM_11 d_11_17 rfl rfl ?_
        refine r_gR (pc' := 21) (v := 1) hM_11 d_11_18 rfl (by decide +kernel) ?_
        refine r_ld (pc' := 22) hM_11 d_11_21 rfl rfl ?_
        refine r_gI (pc' := 25) (k0 := 1) hM_11 d_11_22 rfl (by decide +kernel) ?_
        refine r_ld (pc' := 26) hM_11 d_11_25 rfl rfl ?_
        refine r_ld (pc' := 27) hM_11 d_11_26 rfl rfl ?_
        refine r_b (pc' := 28) (z := (am_ushr a x)) hM_11 d_11_27 rfl rfl ?_
        refine r_stk (pc' := 29) (st' := [.inl (am_b8 (am_ushr a x)), .inl (m 0 1), .inr (.inr (some 1))]) hM_11 d_11_28 rfl rfl ?_
        refine r_bs (pc' := 30) (n := 900) hM_11 d_11_29 rfl rfl hz3 ?_
        refine r_ld (pc' := 31) hM_11 d_11_30 rfl rfl ?_
        refine r_stk (pc' := 32) (st' := [.inr (.inr (some 0)), .inr (.inr (some 0))]) hM_11 d_11_31 rfl rfl ?_
        refine r_gIe (pc' := 35) (k0 := 1) (z := (m 0 1)) hM_11 d_11_32 rfl (by decide +kernel) (mu_r (by decide)) ?_
        refine r_k (pc' := 36) (v := .inl 1) hM_11 d_11_35 rfl rfl ?_
        refine r_b (pc' := 37) (z := ((m 0 1) + 1)) hM_11 d_11_36 rfl rfl ?_
        refine r_pI (pc' := 40) (k0 := 1) hM_11 d_11_37 rfl (by decide +kernel) ?_
        refine r_sto (pc' := 43) (ls' := [some (.inr (.inr (some 0))), some (.inl a), some (.inl (x + (-8)))]) hM_11 d_11_40 rfl rfl ?_
        refine r_go (pc' := 3) hM_11 d_11_43 (by decide) ?_
        exact hk
      exact H
theorem u_11_0 {Q : List am_V → am_M → Prop} {m : am_M} {a : Int}  (H : ok 0 11 3 [some (.inr (.inr (some 0))), some (.inl a), some (.inl 24)] [] m Q) : ok 0 11 0 [some (.inr (.inr (some 0))), some (.inl a), none] [] m Q := by
  refine ok_sg (pc' := 3) (ls' := [some (.inr (.inr (some 0))), some (.inl a), some (.inl 24)]) (st' := []) (m' := m) (fun fx hfx o hk => ?_) ?_
  · refine r_k (pc' := 2) (v := .inl 24) hM_11 d_11_0 rfl rfl ?_
    refine r_sto (pc' := 3) (ls' := [some (.inr (.inr (some 0))), some (.inl a), some (.inl 24)]) hM_11 d_11_2 rfl rfl ?_
    exact hk
  exact H
theorem u_165_24 {Q : List am_V → am_M → Prop} {m : am_M} {a : Int} {b : Int} {c : Int} {d : Int} {e : Int} {k : Int}  (H : ((20 ≤ am_s k) → Q [.inl (m 53 5)] m) ∧ ((¬ (20 ≤ am_s k)) → ∀ y1 : Int, y1 = (if 4 ≤ am_s k then (if am_s 8 ≤ am_s k then (if am_s 12 ≤ am_s k then (if am_s 16 ≤ am_s k then e else d) else c) else b) else a) → (0 ≤ am_s (m 53 5) ∧ am_s (m 53 5) < (900 : Nat)) ∧ (ok 0 165 24 [some (.inr (.inr (some 53))), some (.inl a), some (.inl b), some (.inl c), some (.inl d), some (.inl e), some (.inl (k + 1)), none] [] (mu (mu m 56 ((am_s (m 53 5)).toNat) (am_and (am_shr y1 (24 - (8 * (am_rem k 4)))) 255)) 53 5 ((m 53 5) + 1)) Q))) : ok 0 165 24 [some (.inr (.inr (some 53))), some (.inl a), some (.inl b), some (.inl c), some (.inl d), some (.inl e), some (.inl k), none] [] m Q := by
  refine ok_sg (pc' := 28) (ls' := [some (.inr (.inr (some 53))), some (.inl a), some (.inl b), some (.inl c), some (.inl d), some (.inl e), some (.inl k), none]) (st' := [.inl 20, .inl k]) (m' := m) (fun fx hfx o hk => ?_) ?_
  · refine r_ld (pc' := 26) hM_165 d_165_24 rfl rfl ?_
    refine r_k (pc' := 28) (v := .inl 20) hM_165 d_165_26 rfl rfl ?_
    exact hk
  refine ok_ic (pc' := 121) (pc2 := 31) hM_165 d_165_28 (by decide) rfl (fun hz1 => ?_) (fun hz1 => ?_)
  · have H := H.1 hz1
    refine ok_sg (pc' := 125) (ls' := [some (.inr (.inr (some 53))), some (.inl a), some (.inl b), some (.inl c), some (.inl d), some (.inl e), some (.inl k), none]) (st' := [.inl (m 53 5)]) (m' := m) (fun fx hfx o hk => ?_) ?_
    · refine r_ld (pc' := 122) hM_165 d_165_121 rfl rfl ?_
      refine r_gI (pc' := 125) (k0 := 5) hM_165 d_165_122 rfl (by decide +kernel) ?_
      exact hk
    exact ok_rt (fun fx _ => rt_i hM_165 d_165_125 rfl) H
  · have H := H.2 hz1
    refine ok_sg (pc' := 34) (ls' := [some (.inr (.inr (some 53))), some (.inl a), some (.inl b), some (.inl c), some (.inl d), some (.inl e), some (.inl k), none]) (st' := [.inl 4, .inl k]) (m' := m) (fun fx hfx o hk => ?_) ?_
    · refine r_ld (pc' := 33) hM_165 d_165_31 rfl rfl ?_
      refine r_k (pc' := 34) (v := .inl 4) hM_165 d_165_33 rfl rfl ?_
      exact hk
    refine ok_sg (pc' := 77) (ls' := [some (.inr (.inr (some 53))), some (.inl a), some (.inl b), some (.inl c), some (.inl d), some (.inl e), some (.inl k), none]) (st' := [.inl (if 4 ≤ am_s k then (if am_s 8 ≤ am_s k then (if am_s 12 ≤ am_s k then (if am_s 16 ≤ am_s k then e else d) else c) else b) else a)]) (m' := m) (fun fx hfx o K => ?_) ?_
    · refine r_ic (pc' := 41) (pc2 := 37) hM_165 d_165_34 (by decide) rfl (fun hz2 => ?_) (fun hz2 => ?_)
      · have hz2 : 4 ≤ am_s k := hz2
        rw [if_pos hz2] at K
        refine r_ld (pc' := 43) hM_165 d_165_41 rfl rfl ?_
        refine r_k (pc' := 45) (v := .inl 8) hM_165 d_165_43 rfl rfl ?_
        refine r_ic (pc' := 52) (pc2 := 48) hM_165 d_165_45 (by decide) rfl (fun hz3 => ?_) (fun hz3 => ?_)
        · have hz3 : am_s 8 ≤ am_s k := hz3
          rw [if_pos hz3] at K
          refine r_ld (pc' := 54) hM_165 d_165_52 rfl rfl ?_
          refine r_k (pc' := 56) (v := .inl 12) hM_165 d_165_54 rfl rfl ?_
          refine r_ic (pc' := 63) (pc2 := 59) hM_165 d_165_56 (by decide) rfl (fun hz4 => ?_) (fun hz4 => ?_)
          · have hz4 : am_s 12 ≤ am_s k := hz4
            rw [if_pos hz4] at K
            refine r_ld (pc' := 65) hM_165 d_165_63 rfl rfl ?_
            refine r_k (pc' := 67) (v := .inl 16) hM_165 d_165_65 rfl rfl ?_
            refine r_ic (pc' := 75) (pc2 := 70) hM_165 d_165_67 (by decide) rfl (fun hz5 => ?_) (fun hz5 => ?_)
            · have hz5 : am_s 16 ≤ am_s k := hz5
              rw [if_pos hz5] at K
              refine r_ld (pc' := 77) hM_165 d_165_75 rfl rfl ?_
              exact K
            · have hz5 : ¬ (am_s 16 ≤ am_s k) := hz5
              rw [if_neg hz5] at K
              refine r_ld (pc' := 72) hM_165 d_165_70 rfl rfl ?_
              refine r_go (pc' := 77) hM_165 d_165_72 (by decide) ?_
              exact K
          · have hz4 : ¬ (am_s 12 ≤ am_s k) := hz4
            rw [if_neg hz4] at K
            refine r_ld (pc' := 60) hM_165 d_165_59 rfl rfl ?_
            refine r_go (pc' := 77) hM_165 d_165_60 (by decide) ?_
            exact K
        · have hz3 : ¬ (am_s 8 ≤ am_s k) := hz3
          rw [if_neg hz3] at K
          refine r_ld (pc' := 49) hM_165 d_165_48 rfl rfl ?_
          refine r_go (pc' := 77) hM_165 d_165_49 (by decide) ?_
          exact K
      · have hz2 : ¬ (4 ≤ am_s k) := hz2
        rw [if_neg hz2] at K
        refine r_ld (pc' := 38) hM_165 d_165_37 rfl rfl ?_
        refine r_go (pc' := 77) hM_165 d_165_38 (by decide) ?_
        exact K
    have K : ∀ y1 : Int, y1 = (if 4 ≤ am_s k then (if am_s 8 ≤ am_s k then (if am_s 12 ≤ am_s k then (if am_s 16 ≤ am_s k then e else d) else c) else b) else a) → ok 0 165 77 [some (.inr (.inr (some 53))), some (.inl a), some (.inl b), some (.inl c), some (.inl d), some (.inl e), some (.inl k), none] [.inl y1] m Q := by
      intro y1 hy1
      replace H := H y1 hy1
      obtain ⟨hz6, H⟩ := H
      refine ok_sg (pc' := 24) (ls' := [some (.inr (.inr (some 53))), some (.inl a), some (.inl b), some (.inl c), some (.inl d), some (.inl e), some (.inl (k + 1)), none]) (st' := []) (m' := mu (mu m 56 ((am_s (m 53 5)).toNat) (am_and (am_shr y1 (24 - (8 * (am_rem k 4)))) 255)) 53 5 ((m 53 5) + 1)) (fun fx hfx o hk => ?_) ?_
      · refine r_sto (pc' := 79) (ls' := [some (.inr (.inr (some 53))), some (.inl a), some (.inl b), some (.inl c), some (.inl d), some (.inl e), some (.inl k), some (.inl y1)]) hM_165 d_165_77 rfl rfl ?_
        refine r_ld (pc' := 80) hM_165 d_165_79 rfl rfl ?_
        refine r_gR (pc' := 83) (v := 56) hM_165 d_165_80 rfl (by decide +kernel) ?_
        refine r_ld (pc' := 84) hM_165 d_165_83 rfl rfl ?_
        refine r_gI (pc' := 87) (k0 := 5) hM_165 d_165_84 rfl (by decide +kernel) ?_
        refine r_ld (pc' := 89) hM_165 d_165_87 rfl rfl ?_
        refine r_k (pc' := 91) (v := .inl 24) hM_165 d_165_89 rfl rfl ?_
        refine r_k (pc' := 93) (v := .inl 8) hM_165 d_165_91 rfl rfl ?_
        refine r_ld (pc' := 95) hM_165 d_165_93 rfl rfl ?_
        refine r_k (pc' := 96) (v := .inl 4) hM_165 d_165_95 rfl rfl ?_
        refine r_rem (pc' := 97) hM_165 d_165_96 rfl (by decide) ?_
        refine r_b (pc' := 98) (z := (8 * (am_rem k 4))) hM_165 d_165_97 rfl rfl ?_
        refine r_b (pc' := 99) (z := (24 - (8 * (am_rem k 4)))) hM_165 d_165_98 rfl rfl ?_
        refine r_b (pc' := 100) (z := (am_shr y1 (24 - (8 * (am_rem k 4))))) hM_165 d_165_99 rfl rfl ?_
        refine r_k (pc' := 103) (v := .inl 255) hM_165 d_165_100 rfl rfl ?_
        refine r_b (pc' := 104) (z := (am_and (am_shr y1 (24 - (8 * (am_rem k 4)))) 255)) hM_165 d_165_103 rfl rfl ?_
        refine r_is (pc' := 105) (n := 900) hM_165 d_165_104 rfl rfl hz6 ?_
        refine r_ld (pc' := 106) hM_165 d_165_105 rfl rfl ?_
        refine r_stk (pc' := 107) (st' := [.inr (.inr (some 53)), .inr (.inr (some 53))]) hM_165 d_165_106 rfl rfl ?_
        refine r_gIe (pc' := 110) (k0 := 5) (z := (m 53 5)) hM_165 d_165_107 rfl (by decide +kernel) (mu_r (by decide)) ?_
        refine r_k (pc' := 111) (v := .inl 1) hM_165 d_165_110 rfl rfl ?_
        refine r_b (pc' := 112) (z := ((m 53 5) + 1)) hM_165 d_165_111 rfl rfl ?_
        refine r_pI (pc' := 115) (k0 := 5) hM_165 d_165_112 rfl (by decide +kernel) ?_
        refine r_sto (pc' := 118) (ls' := [some (.inr (.inr (some 53))), some (.inl a), some (.inl b), some (.inl c), some (.inl d), some (.inl e), some (.inl (k + 1)), some (.inl y1)]) hM_165 d_165_115 rfl rfl ?_
        refine r_go (pc' := 24) hM_165 d_165_118 (by decide) ?_
        refine rn_wk (a := [some (.inr (.inr (some 53))), some (.inl a), some (.inl b), some (.inl c), some (.inl d), some (.inl e), some (.inl (k + 1)), none]) (by simp only [am_le, and_self]) ?_
        exact hk
      exact H
    exact K _ rfl
theorem u_165_0 {Q : List am_V → am_M → Prop} {m : am_M} {a : Int} {b : Int} {c : Int} {d : Int} {e : Int}  (H : ((am_s ((m 53 5) + 20) ≤ 900) → ok 0 165 24 [some (.inr (.inr (some 53))), some (.inl a), some (.inl b), some (.inl c), some (.inl d), some (.inl e), some (.inl 0), none] [] (mu m 53 0 0) Q) ∧ ((¬ (am_s ((m 53 5) + 20) ≤ 900)) → Q [.inl (-5)] (mu m 53 0 0))) : ok 0 165 0 [some (.inr (.inr (some 53))), some (.inl a), some (.inl b), some (.inl c), some (.inl d), some (.inl e), none, none] [] m Q := by
  refine ok_sg (pc' := 15) (ls' := [some (.inr (.inr (some 53))), some (.inl a), some (.inl b), some (.inl c), some (.inl d), some (.inl e), none, none]) (st' := [.inl 900, .inl ((m 53 5) + 20)]) (m' := mu m 53 0 0) (fun fx hfx o hk => ?_) ?_
  · refine r_ld (pc' := 1) hM_165 d_165_0 rfl rfl ?_
    refine r_k (pc' := 2) (v := .inl 0) hM_165 d_165_1 rfl rfl ?_
    refine r_pI (pc' := 5) (k0 := 0) hM_165 d_165_2 rfl (by decide +kernel) ?_
    refine r_ld (pc' := 6) hM_165 d_165_5 rfl rfl ?_
    refine r_gIe (pc' := 9) (k0 := 5) (z := (m 53 5)) hM_165 d_165_6 rfl (by decide +kernel) (mu_k (by omega)) ?_
    refine r_k (pc' := 11) (v := .inl 20) hM_165 d_165_9 rfl rfl ?_
    refine r_b (pc' := 12) (z := ((m 53 5) + 20)) hM_165 d_165_11 rfl rfl ?_
    refine r_k (pc' := 15) (v := .inl 900) hM_165 d_165_12 rfl rfl ?_
    exact hk
  refine ok_ic (pc' := 21) (pc2 := 18) hM_165 d_165_15 (by decide) rfl (fun hz1 => ?_) (fun hz1 => ?_)
  · have H := H.1 hz1
    refine ok_sg (pc' := 24) (ls' := [some (.inr (.inr (some 53))), some (.inl a), some (.inl b), some (.inl c), some (.inl d), some (.inl e), some (.inl 0), none]) (st' := []) (m' := mu m 53 0 0) (fun fx hfx o hk => ?_) ?_
    · refine r_k (pc' := 22) (v := .inl 0) hM_165 d_165_21 rfl rfl ?_
      refine r_sto (pc' := 24) (ls' := [some (.inr (.inr (some 53))), some (.inl a), some (.inl b), some (.inl c), some (.inl d), some (.inl e), some (.inl 0), none]) hM_165 d_165_22 rfl rfl ?_
      exact hk
    exact H
  · have H := H.2 hz1
    refine ok_sg (pc' := 20) (ls' := [some (.inr (.inr (some 53))), some (.inl a), some (.inl b), some (.inl c), some (.inl d), some (.inl e), none, none]) (st' := [.inl (-5)]) (m' := mu m 53 0 0) (fun fx hfx o hk => ?_) ?_
    · refine r_k (pc' := 20) (v := .inl (-5)) hM_165 d_165_18 rfl rfl ?_
      exact hk
    exact ok_rt (fun fx _ => rt_i hM_165 d_165_20 rfl) H
