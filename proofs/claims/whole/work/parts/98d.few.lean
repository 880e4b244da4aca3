/-! the model's side of kept -/
def MFW (g : Nat → Int) (m : am_M) : Prop := SN g ≤ 5 ∧ m 53 27 = ((SN g : Nat) : Int) ∧ (∀ j, j < SN g → m 63 j = ((ksp g j : Nat) : Int) ∧ m 64 j = ((kpa g (ksp g j) : Nat) : Int)) ∧ m 54 5 = g 5 ∧ m 54 4 = g 4 ∧ WFG g
theorem MFW_fr {g : Nat → Int} {m m' : am_M} (h : MFW g m) (e1 : m' 53 27 = m 53 27) (e2 : m' 63 = m 63) (e3 : m' 64 = m 64) (e4 : m' 54 = m 54) : MFW g m' := by
  unfold MFW at *
  rw [e1, e2, e3, e4]
  exact h
/-- the waits that stand for idle days -/
noncomputable def kwa (g : Nat → Int) (a : Nat → Int) (j : Nat) : Nat := (g 5 - a j).toNat / kpa g (ksp g j)
def ks7 (a : Nat → Int) : Nat → Int
  | 0 => 0
  | j + 1 => ks7 a j + a j * ((7 ^ j : Nat) : Int)
/-- the idle days behind a day -/
noncomputable def kan (g : Nat → Int) (C : Nat) (a : Nat → Int) (j : Nat) : Int := if C.testBit j = true then 0 else a j + ((kpa g (ksp g j) : Nat) : Int)
theorem kan_w {g : Nat → Int} {C j : Nat} {a : Nat → Int} (ha : 0 ≤ a j) (hg : 0 ≤ g 5) : kwa g (kan g C a) j = ktp (kf0 g) C (kwa g a) j := by
  unfold kwa kan ktp kf0
  have hp := kpa_12 (g := g) (p := ksp g j)
  by_cases hb : C.testBit j = true
  · rw [if_pos hb, if_pos hb, Int.sub_zero]
  · rw [if_neg hb, if_neg hb]
    show (g 5 - (a j + ((kpa g (ksp g j) : Nat) : Int))).toNat / kpa g (ksp g j) = (g 5 - a j).toNat / kpa g (ksp g j) - 1
    rcases hp with hp | hp <;> rw [hp] <;> omega
theorem kgo_a {g : Nat → Int} {j : Nat} {a : Nat → Int} (ha : 0 ≤ a j) : 1 ≤ kwa g a j ↔ a j + ((kpa g (ksp g j) : Nat) : Int) ≤ g 5 := by
  unfold kwa
  rcases kpa_12 (g := g) (p := ksp g j) with hp | hp <;> rw [hp] <;> omega
theorem u_232_4 {Q : List am_V → am_M → Prop} {m : am_M} {x : Int} {k : Int}  (H : ((am_s (m 53 27) ≤ am_s k) → Q [.inl x] m) ∧ ((¬ (am_s (m 53 27) ≤ am_s k)) → ok 0 232 4 [some (.inr (.inr (some 53))), some (.inl (x * 7)), some (.inl (k + 1))] [] m Q)) : ok 0 232 4 [some (.inr (.inr (some 53))), some (.inl x), some (.inl k)] [] m Q := by
  refine ok_sg (pc' := 9) (ls' := [some (.inr (.inr (some 53))), some (.inl x), some (.inl k)]) (st' := [.inl (m 53 27), .inl k]) (m' := m) (fun fx hfx o hk => ?_) ?_
  · refine r_ld (pc' := 5) hM_232 d_232_4 rfl rfl ?_
    refine r_ld (pc' := 6) hM_232 d_232_5 rfl rfl ?_
    refine r_gI (pc' := 9) (k0 := 27) hM_232 d_232_6 rfl (by decide +kernel) ?_
    exact hk
  refine ok_ic (pc' := 23) (pc2 := 12) hM_232 d_232_9 (by decide) rfl (fun hz1 => ?_) (fun hz1 => ?_)
  · have H := H.1 hz1
    refine ok_sg (pc' := 24) (ls' := [some (.inr (.inr (some 53))), some (.inl x), some (.inl k)]) (st' := [.inl x]) (m' := m) (fun fx hfx o hk => ?_) ?_
    · refine r_ld (pc' := 24) hM_232 d_232_23 rfl rfl ?_
      exact hk
    exact ok_rt (fun fx _ => rt_i hM_232 d_232_24 rfl) H
  · have H := H.2 hz1
    refine ok_sg (pc' := 4) (ls' := [some (.inr (.inr (some 53))), some (.inl (x * 7)), some (.inl (k + 1))]) (st' := []) (m' := m) (fun fx hfx o hk => ?_) ?_
    · refine r_ld (pc' := 13) hM_232 d_232_12 rfl rfl ?_
      refine r_k (pc' := 15) (v := .inl 7) hM_232 d_232_13 rfl rfl ?_
      refine r_b (pc' := 16) (z := (x * 7)) hM_232 d_232_15 rfl rfl ?_
      refine r_sto (pc' := 17) (ls' := [some (.inr (.inr (some 53))), some (.inl (x * 7)), some (.inl k)]) hM_232 d_232_16 rfl rfl ?_
      refine r_sto (pc' := 20) (ls' := [some (.inr (.inr (some 53))), some (.inl (x * 7)), some (.inl (k + 1))]) hM_232 d_232_17 rfl rfl ?_
      refine r_go (pc' := 4) hM_232 d_232_20 (by decide) ?_
      exact hk
    exact H
theorem u_232_0 {Q : List am_V → am_M → Prop} {m : am_M}   (H : ok 0 232 4 [some (.inr (.inr (some 53))), some (.inl 1), some (.inl 0)] [] m Q) : ok 0 232 0 [some (.inr (.inr (some 53))), none, none] [] m Q := by
  refine ok_sg (pc' := 4) (ls' := [some (.inr (.inr (some 53))), some (.inl 1), some (.inl 0)]) (st' := []) (m' := m) (fun fx hfx o hk => ?_) ?_
  · refine r_k (pc' := 1) (v := .inl 1) hM_232 d_232_0 rfl rfl ?_
    refine r_sto (pc' := 2) (ls' := [some (.inr (.inr (some 53))), some (.inl 1), none]) hM_232 d_232_1 rfl rfl ?_
    refine r_k (pc' := 3) (v := .inl 0) hM_232 d_232_2 rfl rfl ?_
    refine r_sto (pc' := 4) (ls' := [some (.inr (.inr (some 53))), some (.inl 1), some (.inl 0)]) hM_232 d_232_3 rfl rfl ?_
    exact hk
  exact H
theorem z_232   (m : am_M)  (hq : 0 ≤ m 53 27 ∧ m 53 27 ≤ 5) : ok 0 232 0 (am_ent 3 [.inr (.inr (some 53))]) [] m (fun rr m' => rr = [.inl (((7 ^ (m 53 27).toNat : Nat) : Int))] ∧ m' = m) := by
  show ok 0 232 0 [some (.inr (.inr (some 53))), none, none] [] m _
  obtain ⟨n, hn⟩ : ∃ n : Nat, m 53 27 = (n : Int) := ⟨(m 53 27).toNat, by omega⟩
  have hp : ∀ k, k ≤ 5 → 7 ^ k ≤ 16807 := by decide
  refine u_232_0 ?_
  rw [hn, Int.toNat_natCast]
  refine ok_for (σ := Unit) (fun k _ => [some (.inr (.inr (some 53))), some (.inl ((7 ^ k : Nat) : Int)), some (.inl (k : Int))]) (fun _ _ M => M = m) n ?_ ?_ () m rfl
  · rintro k hk - M hM IH
    rw [hM]
    refine u_232_4 ?_
    rw [hn, am_s_id (z := (n : Int)) (by omega) (by omega), am_s_id (z := (k : Int)) (by omega) (by omega), show ((7 ^ k : Nat) : Int) * 7 = ((7 ^ (k + 1) : Nat) : Int) by rw [Nat.pow_succ, Int.natCast_mul]; rfl]
    exact ⟨fun q => by omega, fun _ => IH () m rfl⟩
  · rintro - M hM
    rw [hM]
    refine u_232_4 ?_
    rw [hn, am_s_id (z := (n : Int)) (by omega) (by omega)]
    exact ⟨fun _ => ⟨rfl, rfl⟩, fun q => by omega⟩
theorem u_233_4 {Q : List am_V → am_M → Prop} {m : am_M} {s : Int} {x : Int} {k : Int}  (H : ((am_s (m 53 27) ≤ am_s k) → Q [] m) ∧ ((¬ (am_s (m 53 27) ≤ am_s k)) → (0 ≤ am_s k ∧ am_s k < (5 : Nat)) ∧ (ok 0 233 4 [some (.inr (.inr (some 53))), some (.inl s), some (.inl (am_div x 7)), some (.inl (k + 1))] [] (mu m 65 ((am_s k).toNat) (am_rem x 7)) Q))) : ok 0 233 4 [some (.inr (.inr (some 53))), some (.inl s), some (.inl x), some (.inl k)] [] m Q := by
  refine ok_sg (pc' := 9) (ls' := [some (.inr (.inr (some 53))), some (.inl s), some (.inl x), some (.inl k)]) (st' := [.inl (m 53 27), .inl k]) (m' := m) (fun fx hfx o hk => ?_) ?_
  · refine r_ld (pc' := 5) hM_233 d_233_4 rfl rfl ?_
    refine r_ld (pc' := 6) hM_233 d_233_5 rfl rfl ?_
    refine r_gI (pc' := 9) (k0 := 27) hM_233 d_233_6 rfl (by decide +kernel) ?_
    exact hk
  refine ok_ic (pc' := 33) (pc2 := 12) hM_233 d_233_9 (by decide) rfl (fun hz1 => ?_) (fun hz1 => ?_)
  · have H := H.1 hz1
    exact ok_rt (fun fx _ => rt_v hM_233 d_233_33 rfl) H
  · have H := H.2 hz1
    obtain ⟨hz2, H⟩ := H
    refine ok_sg (pc' := 4) (ls' := [some (.inr (.inr (some 53))), some (.inl s), some (.inl (am_div x 7)), some (.inl (k + 1))]) (st' := []) (m' := mu m 65 ((am_s k).toNat) (am_rem x 7)) (fun fx hfx o hk => ?_) ?_
    · refine r_ld (pc' := 13) hM_233 d_233_12 rfl rfl ?_
      refine r_gR (pc' := 16) (v := 65) hM_233 d_233_13 rfl (by decide +kernel) ?_
      refine r_ld (pc' := 17) hM_233 d_233_16 rfl rfl ?_
      refine r_ld (pc' := 18) hM_233 d_233_17 rfl rfl ?_
      refine r_k (pc' := 20) (v := .inl 7) hM_233 d_233_18 rfl rfl ?_
      refine r_rem (pc' := 21) hM_233 d_233_20 rfl (by decide) ?_
      refine r_is (pc' := 22) (n := 5) hM_233 d_233_21 rfl rfl hz2 ?_
      refine r_ld (pc' := 23) hM_233 d_233_22 rfl rfl ?_
      refine r_k (pc' := 25) (v := .inl 7) hM_233 d_233_23 rfl rfl ?_
      refine r_div (pc' := 26) hM_233 d_233_25 rfl (by decide) ?_
      refine r_sto (pc' := 27) (ls' := [some (.inr (.inr (some 53))), some (.inl s), some (.inl (am_div x 7)), some (.inl k)]) hM_233 d_233_26 rfl rfl ?_
      refine r_sto (pc' := 30) (ls' := [some (.inr (.inr (some 53))), some (.inl s), some (.inl (am_div x 7)), some (.inl (k + 1))]) hM_233 d_233_27 rfl rfl ?_
      refine r_go (pc' := 4) hM_233 d_233_30 (by decide) ?_
      exact hk
    exact H
theorem u_233_0 {Q : List am_V → am_M → Prop} {m : am_M} {s : Int}  (H : ok 0 233 4 [some (.inr (.inr (some 53))), some (.inl s), some (.inl s), some (.inl 0)] [] m Q) : ok 0 233 0 [some (.inr (.inr (some 53))), some (.inl s), none, none] [] m Q := by
  refine ok_sg (pc' := 4) (ls' := [some (.inr (.inr (some 53))), some (.inl s), some (.inl s), some (.inl 0)]) (st' := []) (m' := m) (fun fx hfx o hk => ?_) ?_
  · refine r_ld (pc' := 1) hM_233 d_233_0 rfl rfl ?_
    refine r_sto (pc' := 2) (ls' := [some (.inr (.inr (some 53))), some (.inl s), some (.inl s), none]) hM_233 d_233_1 rfl rfl ?_
    refine r_k (pc' := 3) (v := .inl 0) hM_233 d_233_2 rfl rfl ?_
    refine r_sto (pc' := 4) (ls' := [some (.inr (.inr (some 53))), some (.inl s), some (.inl s), some (.inl 0)]) hM_233 d_233_3 rfl rfl ?_
    exact hk
  exact H
theorem z_233   (m : am_M) (s : Int) (hq : (0 ≤ m 53 27 ∧ m 53 27 ≤ 5) ∧ 0 ≤ s ∧ s < 16807) : ok 0 233 0 (am_ent 4 [.inr (.inr (some 53)), .inl s]) [] m (fun rr m' => rr = [] ∧ (∀ j, j < (m 53 27).toNat → m' 65 j = ((s.toNat / 7 ^ j % 7 : Nat) : Int)) ∧ ∀ a, a ≠ 65 → m' a = m a) := by
  show ok 0 233 0 [some (.inr (.inr (some 53))), some (.inl s), none, none] [] m _
  obtain ⟨hn0, hs⟩ := hq
  obtain ⟨n, hn⟩ : ∃ n : Nat, m 53 27 = (n : Int) := ⟨(m 53 27).toNat, by omega⟩
  obtain ⟨S, rfl⟩ : ∃ S : Nat, s = (S : Int) := ⟨s.toNat, by omega⟩
  rw [hn, Int.toNat_natCast, Int.toNat_natCast]
  refine u_233_0 ?_
  have key := ok_for (d := 0) (mi := 233) (pc := 4) (Q := fun rr m' => rr = [] ∧ ((∀ j, j < n → m' 65 j = ((S / 7 ^ j % 7 : Nat) : Int)) ∧ ∀ a, a ≠ 65 → m' a = m a)) (σ := Unit) (fun k _ => [some (.inr (.inr (some 53))), some (.inl (S : Int)), some (.inl ((S / 7 ^ k : Nat) : Int)), some (.inl (k : Int))]) (fun k _ M => (∀ j, j < k → M 65 j = ((S / 7 ^ j % 7 : Nat) : Int)) ∧ ∀ a, a ≠ 65 → M a = m a) n ?_ ?_ () m ⟨fun j h => absurd h (Nat.not_lt_zero _), fun _ _ => rfl⟩
  · rw [show S / 7 ^ 0 = S from Nat.div_one S] at key
    exact key
  · rintro k hk - M ⟨h1, h2⟩ IH
    have hd := Nat.div_le_self S (7 ^ k)
    have e1 : am_div ((S / 7 ^ k : Nat) : Int) 7 = ((S / 7 ^ (k + 1) : Nat) : Int) := by
      rw [am_div_nn (Int.natCast_nonneg _) (by omega) (by decide) (by decide), Nat.pow_succ, ← Nat.div_div_eq_div_mul]
      rfl
    have e2 : am_rem ((S / 7 ^ k : Nat) : Int) 7 = ((S / 7 ^ k % 7 : Nat) : Int) := by
      rw [am_rem_nn (Int.natCast_nonneg _) (by omega) (by decide) (by decide)]
      rfl
    refine u_233_4 ?_
    rw [h2 53 (by decide), hn, am_s_id (z := (n : Int)) (by omega) (by omega), am_s_id (z := (k : Int)) (by omega) (by omega), Int.toNat_natCast, e1, e2]
    refine ⟨fun q => by omega, fun _ => ⟨⟨by omega, by omega⟩, IH () _ ⟨fun j hj => ?_, fun a ha => by rw [mu_rf ha]; exact h2 a ha⟩⟩⟩
    rw [mu_if]
    by_cases hh : j = k
    · rw [if_pos hh, hh]
    · rw [if_neg hh]; exact h1 j (by omega)
  · rintro - M ⟨h1, h2⟩
    refine u_233_4 ?_
    rw [h2 53 (by decide), hn, am_s_id (z := (n : Int)) (by omega) (by omega)]
    exact ⟨fun _ => ⟨rfl, h1, h2⟩, fun q => by omega⟩
theorem u_235_7 {Q : List am_V → am_M → Prop} {m : am_M} {c : Int} {x : Int} {y : Int} {k : Int}  (H : ((am_s (m 53 27) ≤ am_s k) → Q [.inl x] m) ∧ ((¬ (am_s (m 53 27) ≤ am_s k)) → ((0 ≤ (am_s c) ∧ (am_s c) < 2147483648) ∧ 0 ≤ k ∧ k < 32) ∧ (((am_s ((if (am_s c).toNat.testBit k.toNat = true then 1 else 0)) = 0) → (0 ≤ am_s k ∧ am_s k < (5 : Nat))) ∧ (∀ y1 : Int, y1 = (if am_s ((if (am_s c).toNat.testBit k.toNat = true then 1 else 0)) = 0 then ((m 65 ((am_s k).toNat)) + (m 64 ((am_s k).toNat))) else 0) → ((am_s y1 ≤ am_s (m 54 5)) → ok 1 235 7 [some (.inr (.inr (some 53))), some (.inl c), some (.inl (x + (y1 * y))), some (.inl (y * 7)), some (.inl (k + 1)), none] [] m Q) ∧ ((¬ (am_s y1 ≤ am_s (m 54 5))) → Q [.inl (-1)] m))))) : ok 1 235 7 [some (.inr (.inr (some 53))), some (.inl c), some (.inl x), some (.inl y), some (.inl k), none] [] m Q := by
  refine ok_sg (pc' := 13) (ls' := [some (.inr (.inr (some 53))), some (.inl c), some (.inl x), some (.inl y), some (.inl k), none]) (st' := [.inl (m 53 27), .inl k]) (m' := m) (fun fx hfx o hk => ?_) ?_
  · refine r_ld (pc' := 9) hM_235 d_235_7 rfl rfl ?_
    refine r_ld (pc' := 10) hM_235 d_235_9 rfl rfl ?_
    refine r_gI (pc' := 13) (k0 := 27) hM_235 d_235_10 rfl (by decide +kernel) ?_
    exact hk
  refine ok_ic (pc' := 78) (pc2 := 16) hM_235 d_235_13 (by decide) rfl (fun hz1 => ?_) (fun hz1 => ?_)
  · have H := H.1 hz1
    refine ok_sg (pc' := 79) (ls' := [some (.inr (.inr (some 53))), some (.inl c), some (.inl x), some (.inl y), some (.inl k), none]) (st' := [.inl x]) (m' := m) (fun fx hfx o hk => ?_) ?_
    · refine r_ld (pc' := 79) hM_235 d_235_78 rfl rfl ?_
      exact hk
    exact ok_rt (fun fx _ => rt_i hM_235 d_235_79 rfl) H
  · have H := H.2 hz1
    obtain ⟨hz2, H⟩ := H
    obtain ⟨hz4, H⟩ := H
    refine ok_sg (pc' := 23) (ls' := [some (.inr (.inr (some 53))), some (.inl c), some (.inl x), some (.inl y), some (.inl k), none]) (st' := [.inl ((if (am_s c).toNat.testBit k.toNat = true then 1 else 0))]) (m' := m) (fun fx hfx o hk => ?_) ?_
    · refine r_ld (pc' := 17) hM_235 d_235_16 rfl rfl ?_
      refine r_stk (pc' := 18) (st' := [.inr (.inl (am_s c))]) hM_235 d_235_17 rfl rfl ?_
      refine r_ld (pc' := 20) hM_235 d_235_18 rfl rfl ?_
      refine r_cl (pc' := 23) (c := (194, 2)) (a := [.inr (.inl (am_s c)), .inl k]) (q := []) hM_235 d_235_20 rfl (by decide +kernel) hM_194 rfl rfl rfl (Nat.le_of_ble_eq_true rfl) (Nat.le_of_ble_eq_true rfl) (Or.inl rfl) (n_194  m (am_s c) k hz2) (Nat.le_of_ble_eq_true rfl) ?_
      show rn fx 1 (0, 0) 235 23 [some (.inr (.inr (some 53))), some (.inl c), some (.inl x), some (.inl y), some (.inl k), none] [.inl ((if (am_s c).toNat.testBit k.toNat = true then 1 else 0))] (st0 m) o
      exact hk
    refine ok_sg (pc' := 45) (ls' := [some (.inr (.inr (some 53))), some (.inl c), some (.inl x), some (.inl y), some (.inl k), none]) (st' := [.inl (if am_s ((if (am_s c).toNat.testBit k.toNat = true then 1 else 0)) = 0 then ((m 65 ((am_s k).toNat)) + (m 64 ((am_s k).toNat))) else 0)]) (m' := m) (fun fx hfx o K => ?_) ?_
    · refine r_if (pc' := 30) (pc2 := 26) hM_235 d_235_23 (by decide) rfl (fun hz3 => ?_) (fun hz3 => ?_)
      · have hz3 : am_s ((if (am_s c).toNat.testBit k.toNat = true then 1 else 0)) = 0 := hz3
        rw [if_pos hz3] at K
        refine r_ld (pc' := 31) hM_235 d_235_30 rfl rfl ?_
        refine r_gR (pc' := 34) (v := 65) hM_235 d_235_31 rfl (by decide +kernel) ?_
        refine r_ld (pc' := 36) hM_235 d_235_34 rfl rfl ?_
        refine r_ia (pc' := 37) (n := 5) hM_235 d_235_36 rfl rfl (hz4 hz3) ?_
        refine r_ld (pc' := 38) hM_235 d_235_37 rfl rfl ?_
        refine r_gR (pc' := 41) (v := 64) hM_235 d_235_38 rfl (by decide +kernel) ?_
        refine r_ld (pc' := 43) hM_235 d_235_41 rfl rfl ?_
        refine r_ia (pc' := 44) (n := 5) hM_235 d_235_43 rfl rfl (hz4 hz3) ?_
        refine r_b (pc' := 45) (z := ((m 65 ((am_s k).toNat)) + (m 64 ((am_s k).toNat)))) hM_235 d_235_44 rfl rfl ?_
        exact K
      · have hz3 : ¬ (am_s ((if (am_s c).toNat.testBit k.toNat = true then 1 else 0)) = 0) := hz3
        rw [if_neg hz3] at K
        refine r_k (pc' := 27) (v := .inl 0) hM_235 d_235_26 rfl rfl ?_
        refine r_go (pc' := 45) hM_235 d_235_27 (by decide) ?_
        exact K
    have K : ∀ y1 : Int, y1 = (if am_s ((if (am_s c).toNat.testBit k.toNat = true then 1 else 0)) = 0 then ((m 65 ((am_s k).toNat)) + (m 64 ((am_s k).toNat))) else 0) → ok 1 235 45 [some (.inr (.inr (some 53))), some (.inl c), some (.inl x), some (.inl y), some (.inl k), none] [.inl y1] m Q := by
      intro y1 hy1
      replace H := H y1 hy1
      refine ok_sg (pc' := 55) (ls' := [some (.inr (.inr (some 53))), some (.inl c), some (.inl x), some (.inl y), some (.inl k), some (.inl y1)]) (st' := [.inl (m 54 5), .inl y1]) (m' := m) (fun fx hfx o hk => ?_) ?_
      · refine r_sto (pc' := 47) (ls' := [some (.inr (.inr (some 53))), some (.inl c), some (.inl x), some (.inl y), some (.inl k), some (.inl y1)]) hM_235 d_235_45 rfl rfl ?_
        refine r_ld (pc' := 49) hM_235 d_235_47 rfl rfl ?_
        refine r_ld (pc' := 50) hM_235 d_235_49 rfl rfl ?_
        refine r_gR (pc' := 53) (v := 54) hM_235 d_235_50 rfl (by decide +kernel) ?_
        refine r_k (pc' := 54) (v := .inl 5) hM_235 d_235_53 rfl rfl ?_
        refine r_iae (pc' := 55) (n := 168) (z := (m 54 5)) hM_235 d_235_54 rfl rfl (by decide) (by rw [show (am_s 5).toNat = 5 by decide]) ?_
        exact hk
      refine ok_ic (pc' := 60) (pc2 := 58) hM_235 d_235_55 (by decide) rfl (fun hz5 => ?_) (fun hz5 => ?_)
      · have H := H.1 hz5
        refine ok_sg (pc' := 7) (ls' := [some (.inr (.inr (some 53))), some (.inl c), some (.inl (x + (y1 * y))), some (.inl (y * 7)), some (.inl (k + 1)), none]) (st' := []) (m' := m) (fun fx hfx o hk => ?_) ?_
        · refine r_ld (pc' := 61) hM_235 d_235_60 rfl rfl ?_
          refine r_ld (pc' := 63) hM_235 d_235_61 rfl rfl ?_
          refine r_ld (pc' := 64) hM_235 d_235_63 rfl rfl ?_
          refine r_b (pc' := 65) (z := (y1 * y)) hM_235 d_235_64 rfl rfl ?_
          refine r_b (pc' := 66) (z := (x + (y1 * y))) hM_235 d_235_65 rfl rfl ?_
          refine r_sto (pc' := 67) (ls' := [some (.inr (.inr (some 53))), some (.inl c), some (.inl (x + (y1 * y))), some (.inl y), some (.inl k), some (.inl y1)]) hM_235 d_235_66 rfl rfl ?_
          refine r_ld (pc' := 68) hM_235 d_235_67 rfl rfl ?_
          refine r_k (pc' := 70) (v := .inl 7) hM_235 d_235_68 rfl rfl ?_
          refine r_b (pc' := 71) (z := (y * 7)) hM_235 d_235_70 rfl rfl ?_
          refine r_sto (pc' := 72) (ls' := [some (.inr (.inr (some 53))), some (.inl c), some (.inl (x + (y1 * y))), some (.inl (y * 7)), some (.inl k), some (.inl y1)]) hM_235 d_235_71 rfl rfl ?_
          refine r_sto (pc' := 75) (ls' := [some (.inr (.inr (some 53))), some (.inl c), some (.inl (x + (y1 * y))), some (.inl (y * 7)), some (.inl (k + 1)), some (.inl y1)]) hM_235 d_235_72 rfl rfl ?_
          refine r_go (pc' := 7) hM_235 d_235_75 (by decide) ?_
          refine rn_wk (a := [some (.inr (.inr (some 53))), some (.inl c), some (.inl (x + (y1 * y))), some (.inl (y * 7)), some (.inl (k + 1)), none]) (by simp only [am_le, and_self]) ?_
          exact hk
        exact H
      · have H := H.2 hz5
        refine ok_sg (pc' := 59) (ls' := [some (.inr (.inr (some 53))), some (.inl c), some (.inl x), some (.inl y), some (.inl k), some (.inl y1)]) (st' := [.inl (-1)]) (m' := m) (fun fx hfx o hk => ?_) ?_
        · refine r_k (pc' := 59) (v := .inl (-1)) hM_235 d_235_58 rfl rfl ?_
          exact hk
        exact ok_rt (fun fx _ => rt_i hM_235 d_235_59 rfl) H
    exact K _ rfl
theorem u_235_0 {Q : List am_V → am_M → Prop} {m : am_M} {c : Int}  (H : ok 1 235 7 [some (.inr (.inr (some 53))), some (.inl c), some (.inl 0), some (.inl 1), some (.inl 0), none] [] m Q) : ok 1 235 0 [some (.inr (.inr (some 53))), some (.inl c), none, none, none, none] [] m Q := by
  refine ok_sg (pc' := 7) (ls' := [some (.inr (.inr (some 53))), some (.inl c), some (.inl 0), some (.inl 1), some (.inl 0), none]) (st' := []) (m' := m) (fun fx hfx o hk => ?_) ?_
  · refine r_k (pc' := 1) (v := .inl 0) hM_235 d_235_0 rfl rfl ?_
    refine r_sto (pc' := 2) (ls' := [some (.inr (.inr (some 53))), some (.inl c), some (.inl 0), none, none, none]) hM_235 d_235_1 rfl rfl ?_
    refine r_k (pc' := 3) (v := .inl 1) hM_235 d_235_2 rfl rfl ?_
    refine r_sto (pc' := 4) (ls' := [some (.inr (.inr (some 53))), some (.inl c), some (.inl 0), some (.inl 1), none, none]) hM_235 d_235_3 rfl rfl ?_
    refine r_k (pc' := 5) (v := .inl 0) hM_235 d_235_4 rfl rfl ?_
    refine r_sto (pc' := 7) (ls' := [some (.inr (.inr (some 53))), some (.inl c), some (.inl 0), some (.inl 1), some (.inl 0), none]) hM_235 d_235_5 rfl rfl ?_
    exact hk
  exact H
theorem z_235   (m : am_M) (c : Int) (hq : MFW (nv (m 54)) m ∧ (0 ≤ c ∧ c < 32) ∧ ∀ j, j < SN (nv (m 54)) → 0 ≤ m 65 j ∧ m 65 j ≤ 99) : ok 1 235 0 (am_ent 6 [.inr (.inr (some 53)), .inl c]) [] m (fun rr m' => ∃ v' : Int, rr = [.inl (v')] ∧ m' = m ∧ ((kgo (SN (nv (m 54))) (kwa (nv (m 54)) (m 65)) c.toNat ∧ v' = ks7 (kan (nv (m 54)) c.toNat (m 65)) (SN (nv (m 54)))) ∨ (¬ kgo (SN (nv (m 54))) (kwa (nv (m 54)) (m 65)) c.toNat ∧ v' = -1))) := by
  show ok 1 235 0 [some (.inr (.inr (some 53))), some (.inl c), none, none, none, none] [] m _
  obtain ⟨hM0, hc, ha⟩ := hq
  generalize nv (m 54) = g at *
  obtain ⟨h5, h27, hsp, hL, h4, hwn⟩ := id hM0
  obtain ⟨C, rfl⟩ : ∃ C : Nat, c = (C : Int) := ⟨c.toNat, by omega⟩
  rw [Int.toNat_natCast]
  have w5 := hwn.2.2.2.2.2.2.2.2.1
  refine u_235_0 ?_
  refine ok_for (σ := Unit) (fun k _ => [some (.inr (.inr (some 53))), some (.inl (C : Int)), some (.inl (ks7 (kan g C (m 65)) k)), some (.inl ((7 ^ k : Nat) : Int)), some (.inl (k : Int)), none]) (fun k _ M => M = m ∧ ∀ j, j < k → C.testBit j = false → 1 ≤ kwa g (m 65) j) (SN g) ?_ ?_ () m ⟨rfl, fun j h => absurd h (Nat.not_lt_zero _)⟩
  · rintro k hk - M ⟨hM, hg⟩ IH
    rw [hM]
    have hm := hsp k hk
    have hak := ha k hk
    have hpa := kpa_12 (g := g) (p := ksp g k)
    have e7 : ((7 ^ k : Nat) : Int) * 7 = ((7 ^ (k + 1) : Nat) : Int) := by rw [Nat.pow_succ, Int.natCast_mul]; rfl
    have hkr : 0 ≤ kan g C (m 65) k ∧ kan g C (m 65) k ≤ 101 := by
      unfold kan
      split <;> omega
    refine u_235_7 ?_
    rw [h27, am_s_id (z := ((SN g : Nat) : Int)) (by omega) (by omega), am_s_id (z := (k : Int)) (by omega) (by omega), am_s_id (z := (C : Int)) (by omega) (by omega), Int.toNat_natCast, Int.toNat_natCast, hL, am_s_id (z := g 5) (by omega) (by omega), e7]
    refine ⟨fun q => by omega, fun _ => ⟨⟨⟨by omega, by omega⟩, by omega, by omega⟩, fun _ => ⟨by omega, by omega⟩, fun y1 hy => ?_⟩⟩
    have hy2 : y1 = kan g C (m 65) k := by
      rw [hy]
      unfold kan
      by_cases hb : C.testBit k = true
      · rw [if_neg (show ¬ am_s (if C.testBit k = true then 1 else 0) = 0 by rw [if_pos hb]; decide), if_pos hb]
      · rw [if_pos (show am_s (if C.testBit k = true then 1 else 0) = 0 by rw [if_neg hb]; rfl), if_neg hb, hm.2]
    rw [hy2, am_s_id (by omega) (by omega)]
    refine ⟨fun q => IH () m ⟨rfl, fun j hj hb => ?_⟩, fun q => ⟨_, rfl, rfl, Or.inr ⟨fun z => ?_, rfl⟩⟩⟩
    · by_cases hh : j = k
      · rw [hh] at hb ⊢
        unfold kan at q
        rw [hb, if_neg (by decide)] at q
        exact (kgo_a hak.1).mpr q
      · exact hg j (by omega) hb
    · unfold kan at q
      cases hb : C.testBit k
      · rw [hb, if_neg (by decide)] at q
        exact q ((kgo_a hak.1).mp (z k hk hb))
      · rw [hb, if_pos rfl] at q
        omega
  · rintro - M ⟨hM, hg⟩
    rw [hM]
    refine u_235_7 ?_
    rw [h27, am_s_id (z := ((SN g : Nat) : Int)) (by omega) (by omega)]
    exact ⟨fun _ => ⟨_, rfl, rfl, Or.inl ⟨hg, rfl⟩⟩, fun q => by omega⟩
theorem u_236_2 {Q : List am_V → am_M → Prop} {m : am_M} {k : Int}  (H : ((am_s (m 53 27) ≤ am_s k) → Q [] m) ∧ ((¬ (am_s (m 53 27) ≤ am_s k)) → (0 ≤ am_s k ∧ am_s k < (5 : Nat)) ∧ ((0 ≤ am_s (44 + (m 63 ((am_s k).toNat))) ∧ am_s (44 + (m 63 ((am_s k).toNat))) < (168 : Nat)) ∧ (ok 0 236 2 [some (.inr (.inr (some 53))), some (.inl (k + 1))] [] (mu m 65 ((am_s k).toNat) (m 54 ((am_s (44 + (m 63 ((am_s k).toNat)))).toNat))) Q)))) : ok 0 236 2 [some (.inr (.inr (some 53))), some (.inl k)] [] m Q := by
  refine ok_sg (pc' := 7) (ls' := [some (.inr (.inr (some 53))), some (.inl k)]) (st' := [.inl (m 53 27), .inl k]) (m' := m) (fun fx hfx o hk => ?_) ?_
  · refine r_ld (pc' := 3) hM_236 d_236_2 rfl rfl ?_
    refine r_ld (pc' := 4) hM_236 d_236_3 rfl rfl ?_
    refine r_gI (pc' := 7) (k0 := 27) hM_236 d_236_4 rfl (by decide +kernel) ?_
    exact hk
  refine ok_ic (pc' := 36) (pc2 := 10) hM_236 d_236_7 (by decide) rfl (fun hz1 => ?_) (fun hz1 => ?_)
  · have H := H.1 hz1
    exact ok_rt (fun fx _ => rt_v hM_236 d_236_36 rfl) H
  · have H := H.2 hz1
    obtain ⟨hz2, H⟩ := H
    obtain ⟨hz3, H⟩ := H
    refine ok_sg (pc' := 2) (ls' := [some (.inr (.inr (some 53))), some (.inl (k + 1))]) (st' := []) (m' := mu m 65 ((am_s k).toNat) (m 54 ((am_s (44 + (m 63 ((am_s k).toNat)))).toNat))) (fun fx hfx o hk => ?_) ?_
    · refine r_ld (pc' := 11) hM_236 d_236_10 rfl rfl ?_
      refine r_gR (pc' := 14) (v := 65) hM_236 d_236_11 rfl (by decide +kernel) ?_
      refine r_ld (pc' := 15) hM_236 d_236_14 rfl rfl ?_
      refine r_ld (pc' := 16) hM_236 d_236_15 rfl rfl ?_
      refine r_gR (pc' := 19) (v := 54) hM_236 d_236_16 rfl (by decide +kernel) ?_
      refine r_k (pc' := 21) (v := .inl 44) hM_236 d_236_19 rfl rfl ?_
      refine r_ld (pc' := 22) hM_236 d_236_21 rfl rfl ?_
      refine r_gR (pc' := 25) (v := 63) hM_236 d_236_22 rfl (by decide +kernel) ?_
      refine r_ld (pc' := 26) hM_236 d_236_25 rfl rfl ?_
      refine r_ia (pc' := 27) (n := 5) hM_236 d_236_26 rfl rfl hz2 ?_
      refine r_b (pc' := 28) (z := (44 + (m 63 ((am_s k).toNat)))) hM_236 d_236_27 rfl rfl ?_
      refine r_ia (pc' := 29) (n := 168) hM_236 d_236_28 rfl rfl hz3 ?_
      refine r_is (pc' := 30) (n := 5) hM_236 d_236_29 rfl rfl hz2 ?_
      refine r_sto (pc' := 33) (ls' := [some (.inr (.inr (some 53))), some (.inl (k + 1))]) hM_236 d_236_30 rfl rfl ?_
      refine r_go (pc' := 2) hM_236 d_236_33 (by decide) ?_
      exact hk
    exact H
theorem u_236_0 {Q : List am_V → am_M → Prop} {m : am_M}   (H : ok 0 236 2 [some (.inr (.inr (some 53))), some (.inl 0)] [] m Q) : ok 0 236 0 [some (.inr (.inr (some 53))), none] [] m Q := by
  refine ok_sg (pc' := 2) (ls' := [some (.inr (.inr (some 53))), some (.inl 0)]) (st' := []) (m' := m) (fun fx hfx o hk => ?_) ?_
  · refine r_k (pc' := 1) (v := .inl 0) hM_236 d_236_0 rfl rfl ?_
    refine r_sto (pc' := 2) (ls' := [some (.inr (.inr (some 53))), some (.inl 0)]) hM_236 d_236_1 rfl rfl ?_
    exact hk
  exact H
theorem z_236   (m : am_M)  (hq : MFW (nv (m 54)) m ∧ WFG (m 54)) : ok 0 236 0 (am_ent 2 [.inr (.inr (some 53))]) [] m (fun rr m' => rr = [] ∧ (∀ j, j < SN (nv (m 54)) → m' 65 j = nv (m 54) (44 + ksp (nv (m 54)) j)) ∧ ∀ a, a ≠ 65 → m' a = m a) := by
  show ok 0 236 0 [some (.inr (.inr (some 53))), none] [] m _
  obtain ⟨hM0, hw⟩ := hq
  have hnv : ∀ p : Nat, p < (nv (m 54) 0).toNat → nv (m 54) (44 + p) = m 54 (44 + p) := fun p hp => by
    have := hw.1
    rw [nv0] at hp
    exact nv_pl (by omega) (by omega) (by omega)
  generalize nv (m 54) = g at *
  obtain ⟨h5, h27, hsp, hL, h4, hwn⟩ := id hM0
  refine u_236_0 ?_
  refine ok_for (σ := Unit) (fun k _ => [some (.inr (.inr (some 53))), some (.inl (k : Int))]) (fun k _ M => (∀ j, j < k → M 65 j = g (44 + ksp g j)) ∧ ∀ a, a ≠ 65 → M a = m a) (SN g) ?_ ?_ () m ⟨fun j h => absurd h (Nat.not_lt_zero _), fun _ _ => rfl⟩
  · rintro k hk - M ⟨h1, h2⟩ IH
    have hm := hsp k hk
    have hks := ksp_ok hk
    have h12 := ksp_12 hwn k
    refine u_236_2 ?_
    rw [h2 53 (by decide), h2 63 (by decide), h2 54 (by decide), h27, am_s_id (z := ((SN g : Nat) : Int)) (by omega) (by omega), am_s_id (z := (k : Int)) (by omega) (by omega), Int.toNat_natCast, hm.1, am_s_id (z := 44 + ((ksp g k : Nat) : Int)) (by omega) (by omega), show (44 + ((ksp g k : Nat) : Int)).toNat = 44 + ksp g k by omega, ← hnv _ hks.1]
    refine ⟨fun q => by omega, fun _ => ⟨⟨by omega, by omega⟩, ⟨by omega, by omega⟩, IH () _ ⟨fun j hj => ?_, fun a hx => by rw [mu_rf hx]; exact h2 a hx⟩⟩⟩
    rw [mu_if]
    by_cases hh : j = k
    · rw [if_pos hh, hh]
    · rw [if_neg hh]; exact h1 j (by omega)
  · rintro - M ⟨h1, h2⟩
    refine u_236_2 ?_
    rw [h2 53 (by decide), h27, am_s_id (z := ((SN g : Nat) : Int)) (by omega) (by omega)]
    exact ⟨fun _ => ⟨rfl, h1, h2⟩, fun q => by omega⟩
theorem u_238_4 {Q : List am_V → am_M → Prop} {m : am_M} {c : Int} {x : Int} {k : Int}  (H : ((am_s (m 53 27) ≤ am_s k) → Q [.inl x] m) ∧ ((¬ (am_s (m 53 27) ≤ am_s k)) → ((0 ≤ (am_s c) ∧ (am_s c) < 2147483648) ∧ 0 ≤ k ∧ k < 32) ∧ (((¬ (am_s ((if (am_s c).toNat.testBit k.toNat = true then 1 else 0)) = 0)) → (0 ≤ am_s k ∧ am_s k < (5 : Nat))) ∧ (∀ y1 : Int, y1 = (if am_s ((if (am_s c).toNat.testBit k.toNat = true then 1 else 0)) = 0 then 0 else (am_shl 1 (m 63 ((am_s k).toNat)))) → ok 1 238 4 [some (.inr (.inr (some 53))), some (.inl c), some (.inl (am_or x y1)), some (.inl (k + 1))] [] m Q)))) : ok 1 238 4 [some (.inr (.inr (some 53))), some (.inl c), some (.inl x), some (.inl k)] [] m Q := by
  refine ok_sg (pc' := 9) (ls' := [some (.inr (.inr (some 53))), some (.inl c), some (.inl x), some (.inl k)]) (st' := [.inl (m 53 27), .inl k]) (m' := m) (fun fx hfx o hk => ?_) ?_
  · refine r_ld (pc' := 5) hM_238 d_238_4 rfl rfl ?_
    refine r_ld (pc' := 6) hM_238 d_238_5 rfl rfl ?_
    refine r_gI (pc' := 9) (k0 := 27) hM_238 d_238_6 rfl (by decide +kernel) ?_
    exact hk
  refine ok_ic (pc' := 42) (pc2 := 12) hM_238 d_238_9 (by decide) rfl (fun hz1 => ?_) (fun hz1 => ?_)
  · have H := H.1 hz1
    refine ok_sg (pc' := 43) (ls' := [some (.inr (.inr (some 53))), some (.inl c), some (.inl x), some (.inl k)]) (st' := [.inl x]) (m' := m) (fun fx hfx o hk => ?_) ?_
    · refine r_ld (pc' := 43) hM_238 d_238_42 rfl rfl ?_
      exact hk
    exact ok_rt (fun fx _ => rt_i hM_238 d_238_43 rfl) H
  · have H := H.2 hz1
    obtain ⟨hz2, H⟩ := H
    obtain ⟨hz4, H⟩ := H
    refine ok_sg (pc' := 19) (ls' := [some (.inr (.inr (some 53))), some (.inl c), some (.inl x), some (.inl k)]) (st' := [.inl ((if (am_s c).toNat.testBit k.toNat = true then 1 else 0)), .inl x]) (m' := m) (fun fx hfx o hk => ?_) ?_
    · refine r_ld (pc' := 13) hM_238 d_238_12 rfl rfl ?_
      refine r_ld (pc' := 14) hM_238 d_238_13 rfl rfl ?_
      refine r_stk (pc' := 15) (st' := [.inr (.inl (am_s c)), .inl x]) hM_238 d_238_14 rfl rfl ?_
      refine r_ld (pc' := 16) hM_238 d_238_15 rfl rfl ?_
      refine r_cl (pc' := 19) (c := (194, 2)) (a := [.inr (.inl (am_s c)), .inl k]) (q := [.inl x]) hM_238 d_238_16 rfl (by decide +kernel) hM_194 rfl rfl rfl (Nat.le_of_ble_eq_true rfl) (Nat.le_of_ble_eq_true rfl) (Or.inl rfl) (n_194  m (am_s c) k hz2) (Nat.le_of_ble_eq_true rfl) ?_
      show rn fx 1 (0, 0) 238 19 [some (.inr (.inr (some 53))), some (.inl c), some (.inl x), some (.inl k)] [.inl ((if (am_s c).toNat.testBit k.toNat = true then 1 else 0)), .inl x] (st0 m) o
      exact hk
    refine ok_sg (pc' := 34) (ls' := [some (.inr (.inr (some 53))), some (.inl c), some (.inl x), some (.inl k)]) (st' := [.inl (if am_s ((if (am_s c).toNat.testBit k.toNat = true then 1 else 0)) = 0 then 0 else (am_shl 1 (m 63 ((am_s k).toNat)))), .inl x]) (m' := m) (fun fx hfx o K => ?_) ?_
    · refine r_if (pc' := 33) (pc2 := 22) hM_238 d_238_19 (by decide) rfl (fun hz3 => ?_) (fun hz3 => ?_)
      · have hz3 : am_s ((if (am_s c).toNat.testBit k.toNat = true then 1 else 0)) = 0 := hz3
        rw [if_pos hz3] at K
        refine r_k (pc' := 34) (v := .inl 0) hM_238 d_238_33 rfl rfl ?_
        exact K
      · have hz3 : ¬ (am_s ((if (am_s c).toNat.testBit k.toNat = true then 1 else 0)) = 0) := hz3
        rw [if_neg hz3] at K
        refine r_k (pc' := 23) (v := .inl 1) hM_238 d_238_22 rfl rfl ?_
        refine r_ld (pc' := 24) hM_238 d_238_23 rfl rfl ?_
        refine r_gR (pc' := 27) (v := 63) hM_238 d_238_24 rfl (by decide +kernel) ?_
        refine r_ld (pc' := 28) hM_238 d_238_27 rfl rfl ?_
        refine r_ia (pc' := 29) (n := 5) hM_238 d_238_28 rfl rfl (hz4 hz3) ?_
        refine r_b (pc' := 30) (z := (am_shl 1 (m 63 ((am_s k).toNat)))) hM_238 d_238_29 rfl rfl ?_
        refine r_go (pc' := 34) hM_238 d_238_30 (by decide) ?_
        exact K
    have K : ∀ y1 : Int, y1 = (if am_s ((if (am_s c).toNat.testBit k.toNat = true then 1 else 0)) = 0 then 0 else (am_shl 1 (m 63 ((am_s k).toNat)))) → ok 1 238 34 [some (.inr (.inr (some 53))), some (.inl c), some (.inl x), some (.inl k)] [.inl y1, .inl x] m Q := by
      intro y1 hy1
      replace H := H y1 hy1
      refine ok_sg (pc' := 4) (ls' := [some (.inr (.inr (some 53))), some (.inl c), some (.inl (am_or x y1)), some (.inl (k + 1))]) (st' := []) (m' := m) (fun fx hfx o hk => ?_) ?_
      · refine r_b (pc' := 35) (z := (am_or x y1)) hM_238 d_238_34 rfl rfl ?_
        refine r_sto (pc' := 36) (ls' := [some (.inr (.inr (some 53))), some (.inl c), some (.inl (am_or x y1)), some (.inl k)]) hM_238 d_238_35 rfl rfl ?_
        refine r_sto (pc' := 39) (ls' := [some (.inr (.inr (some 53))), some (.inl c), some (.inl (am_or x y1)), some (.inl (k + 1))]) hM_238 d_238_36 rfl rfl ?_
        refine r_go (pc' := 4) hM_238 d_238_39 (by decide) ?_
        exact hk
      exact H
    exact K _ rfl
theorem u_238_0 {Q : List am_V → am_M → Prop} {m : am_M} {c : Int}  (H : ok 1 238 4 [some (.inr (.inr (some 53))), some (.inl c), some (.inl 0), some (.inl 0)] [] m Q) : ok 1 238 0 [some (.inr (.inr (some 53))), some (.inl c), none, none] [] m Q := by
  refine ok_sg (pc' := 4) (ls' := [some (.inr (.inr (some 53))), some (.inl c), some (.inl 0), some (.inl 0)]) (st' := []) (m' := m) (fun fx hfx o hk => ?_) ?_
  · refine r_k (pc' := 1) (v := .inl 0) hM_238 d_238_0 rfl rfl ?_
    refine r_sto (pc' := 2) (ls' := [some (.inr (.inr (some 53))), some (.inl c), some (.inl 0), none]) hM_238 d_238_1 rfl rfl ?_
    refine r_k (pc' := 3) (v := .inl 0) hM_238 d_238_2 rfl rfl ?_
    refine r_sto (pc' := 4) (ls' := [some (.inr (.inr (some 53))), some (.inl c), some (.inl 0), some (.inl 0)]) hM_238 d_238_3 rfl rfl ?_
    exact hk
  exact H
theorem z_238   (m : am_M) (c : Int) (hq : MFW (nv (m 54)) m ∧ 0 ≤ c ∧ c < 32) : ok 1 238 0 (am_ent 4 [.inr (.inr (some 53)), .inl c]) [] m (fun rr m' => rr = [.inl (((kpl (m 63) c.toNat (SN (nv (m 54))) : Nat) : Int))] ∧ m' = m) := by
  show ok 1 238 0 [some (.inr (.inr (some 53))), some (.inl c), none, none] [] m _
  obtain ⟨hM0, hc⟩ := hq
  generalize nv (m 54) = g at *
  obtain ⟨h5, h27, hsp, hL, h4, hwn⟩ := id hM0
  obtain ⟨C, rfl⟩ : ∃ C : Nat, c = (C : Int) := ⟨c.toNat, by omega⟩
  rw [Int.toNat_natCast]
  have hs12 : ∀ j, j < SN g → m 63 j < 12 ∧ 0 ≤ m 63 j := fun j hj => by
    have := ksp_12 hwn j
    have := (hsp j hj).1
    omega
  refine u_238_0 ?_
  refine ok_for (σ := Unit) (fun k _ => [some (.inr (.inr (some 53))), some (.inl (C : Int)), some (.inl ((kpl (m 63) C k : Nat) : Int)), some (.inl (k : Int))]) (fun _ _ M => M = m) (SN g) ?_ ?_ () m rfl
  · rintro k hk - M hM IH
    rw [hM]
    have h1 := hs12 k hk
    have h2 := kpl_lt (sp := m 63) (C := C) k fun j hj => hs12 j (by omega)
    have h3 : 2 ^ (m 63 k).toNat < 4096 := show (2 : Nat) ^ (m 63 k).toNat < 2 ^ 12 from Nat.pow_lt_pow_right (by decide) (by omega)
    have e : am_or ((kpl (m 63) C k : Nat) : Int) (am_shl 1 (m 63 k)) = ((kpl (m 63) C k ||| 2 ^ (m 63 k).toNat : Nat) : Int) := by
      rw [show am_shl 1 (m 63 k) = am_shl 1 (((m 63 k).toNat : Nat) : Int) by rw [Int.toNat_of_nonneg (by omega)], bx_shl1 _ (by omega), bx_or12 h2 h3]
    have hkey : ∀ z : Int, z = ((kpl (m 63) C (k + 1) : Nat) : Int) → ok 1 238 4 [some (.inr (.inr (some 53))), some (.inl (C : Int)), some (.inl z), some (.inl ((k : Int) + 1))] [] m (fun rr m' => rr = [.inl ((kpl (m 63) C (SN g) : Nat) : Int)] ∧ m' = m) := by
      intro z hz
      rw [hz]
      exact IH () m rfl
    refine u_238_4 ?_
    rw [h27, am_s_id (z := ((SN g : Nat) : Int)) (by omega) (by omega), am_s_id (z := (k : Int)) (by omega) (by omega), am_s_id (z := (C : Int)) (by omega) (by omega), Int.toNat_natCast, Int.toNat_natCast]
    refine ⟨fun q => by omega, fun _ => ⟨⟨⟨by omega, by omega⟩, by omega, by omega⟩, fun _ => ⟨by omega, by omega⟩, fun y1 hy => hkey _ ?_⟩⟩
    show _ = (((if C.testBit k = true then kpl (m 63) C k ||| 2 ^ (m 63 k).toNat else kpl (m 63) C k : Nat)) : Int)
    rw [hy]
    by_cases hb : C.testBit k = true
    · rw [if_neg (show ¬ am_s (if C.testBit k = true then 1 else 0) = 0 by rw [if_pos hb]; decide), if_pos hb, e]
    · rw [if_pos (show am_s (if C.testBit k = true then 1 else 0) = 0 by rw [if_neg hb]; rfl), if_neg hb, bx_or0 (k := 12) h2 (by decide)]
  · rintro - M hM
    rw [hM]
    refine u_238_4 ?_
    rw [h27, am_s_id (z := ((SN g : Nat) : Int)) (by omega) (by omega)]
    exact ⟨fun _ => ⟨rfl, rfl⟩, fun q => by omega⟩
