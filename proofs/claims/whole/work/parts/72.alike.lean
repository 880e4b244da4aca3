theorem u_224_5 {Q : List am_V → am_M → Prop} {m : am_M} {a : Int} {b : Int} {x : Int} {p : Int}  (H : ((am_s (m 54 0) ≤ am_s p) → Q [.inl x] m) ∧ ((¬ (am_s (m 54 0) ≤ am_s p)) → (WFG (m 54)) ∧ (((¬ (¬ am_s ((if (0 ≤ am_s p ∧ am_s p < m 54 0) ∧ nv (m 54) (8 + (am_s p).toNat) = am_s 3 then 1 else 0)) = 0)) → (WFG (m 54) ∧ (0 ≤ p ∧ p < m 54 0) ∧ 0 ≤ a ∧ a < 2147483648)) ∧ (((¬ (¬ am_s ((if (0 ≤ am_s p ∧ am_s p < m 54 0) ∧ nv (m 54) (8 + (am_s p).toNat) = am_s 3 then 1 else 0)) = 0)) → (WFG (m 54) ∧ (0 ≤ p ∧ p < m 54 0) ∧ 0 ≤ b ∧ b < 2147483648)) ∧ (∀ y1 : Int, y1 = (if ¬ am_s ((if (0 ≤ am_s p ∧ am_s p < m 54 0) ∧ nv (m 54) (8 + (am_s p).toNat) = am_s 3 then 1 else 0)) = 0 then 0 else (if am_s ((hrd (nv (m 54)) p.toNat a.toNat)) = am_s ((hrd (nv (m 54)) p.toNat b.toNat)) then 0 else (am_shl 1 p))) → ok 3 224 5 [some (.inr (.inr (some 53))), some (.inl a), some (.inl b), some (.inl (am_or x y1)), some (.inl (p + 1))] [] m Q))))) : ok 3 224 5 [some (.inr (.inr (some 53))), some (.inl a), some (.inl b), some (.inl x), some (.inl p)] [] m Q := by
  refine ok_sg (pc' := 13) (ls' := [some (.inr (.inr (some 53))), some (.inl a), some (.inl b), some (.inl x), some (.inl p)]) (st' := [.inl (m 54 0), .inl p]) (m' := m) (fun fx hfx o hk => ?_) ?_
  · refine r_ld (pc' := 7) hM_224 d_224_5 rfl rfl ?_
    refine r_ld (pc' := 8) hM_224 d_224_7 rfl rfl ?_
    refine r_gR (pc' := 11) (v := 54) hM_224 d_224_8 rfl (by decide +kernel) ?_
    refine r_k (pc' := 12) (v := .inl 0) hM_224 d_224_11 rfl rfl ?_
    refine r_iae (pc' := 13) (n := 168) (z := (m 54 0)) hM_224 d_224_12 rfl rfl (by decide) (by rw [show (am_s 0).toNat = 0 by decide]) ?_
    exact hk
  refine ok_ic (pc' := 60) (pc2 := 16) hM_224 d_224_13 (by decide) rfl (fun hz1 => ?_) (fun hz1 => ?_)
  · have H := H.1 hz1
    refine ok_sg (pc' := 61) (ls' := [some (.inr (.inr (some 53))), some (.inl a), some (.inl b), some (.inl x), some (.inl p)]) (st' := [.inl x]) (m' := m) (fun fx hfx o hk => ?_) ?_
    · refine r_ld (pc' := 61) hM_224 d_224_60 rfl rfl ?_
      exact hk
    exact ok_rt (fun fx _ => rt_i hM_224 d_224_61 rfl) H
  · have H := H.2 hz1
    obtain ⟨hz2, H⟩ := H
    obtain ⟨hz4, H⟩ := H
    obtain ⟨hz5, H⟩ := H
    refine ok_sg (pc' := 24) (ls' := [some (.inr (.inr (some 53))), some (.inl a), some (.inl b), some (.inl x), some (.inl p)]) (st' := [.inl ((if (0 ≤ am_s p ∧ am_s p < m 54 0) ∧ nv (m 54) (8 + (am_s p).toNat) = am_s 3 then 1 else 0)), .inl x]) (m' := m) (fun fx hfx o hk => ?_) ?_
    · refine r_ld (pc' := 17) hM_224 d_224_16 rfl rfl ?_
      refine r_ld (pc' := 18) hM_224 d_224_17 rfl rfl ?_
      refine r_ld (pc' := 20) hM_224 d_224_18 rfl rfl ?_
      refine r_k (pc' := 21) (v := .inl 3) hM_224 d_224_20 rfl rfl ?_
      refine r_cl (pc' := 24) (c := (187, 0)) (a := [.inr (.inr (some 53)), .inl p, .inl 3]) (q := [.inl x]) hM_224 d_224_21 rfl (by decide +kernel) hM_187 rfl rfl rfl (Nat.le_of_ble_eq_true rfl) (Nat.le_of_ble_eq_true rfl) (Or.inr rfl) (n_187  m p 3 hz2) (Nat.le_of_ble_eq_true rfl) ?_
      show rn fx 3 (0, 0) 224 24 [some (.inr (.inr (some 53))), some (.inl a), some (.inl b), some (.inl x), some (.inl p)] [.inl ((if (0 ≤ am_s p ∧ am_s p < m 54 0) ∧ nv (m 54) (8 + (am_s p).toNat) = am_s 3 then 1 else 0)), .inl x] (st0 m) o
      exact hk
    refine ok_sg (pc' := 52) (ls' := [some (.inr (.inr (some 53))), some (.inl a), some (.inl b), some (.inl x), some (.inl p)]) (st' := [.inl (if ¬ am_s ((if (0 ≤ am_s p ∧ am_s p < m 54 0) ∧ nv (m 54) (8 + (am_s p).toNat) = am_s 3 then 1 else 0)) = 0 then 0 else (if am_s ((hrd (nv (m 54)) p.toNat a.toNat)) = am_s ((hrd (nv (m 54)) p.toNat b.toNat)) then 0 else (am_shl 1 p))), .inl x]) (m' := m) (fun fx hfx o K => ?_) ?_
    · refine r_if (pc' := 51) (pc2 := 27) hM_224 d_224_24 (by decide) rfl (fun hz3 => ?_) (fun hz3 => ?_)
      · have hz3 : ¬ am_s ((if (0 ≤ am_s p ∧ am_s p < m 54 0) ∧ nv (m 54) (8 + (am_s p).toNat) = am_s 3 then 1 else 0)) = 0 := hz3
        rw [if_pos hz3] at K
        refine r_k (pc' := 52) (v := .inl 0) hM_224 d_224_51 rfl rfl ?_
        exact K
      · have hz3 : ¬ (¬ am_s ((if (0 ≤ am_s p ∧ am_s p < m 54 0) ∧ nv (m 54) (8 + (am_s p).toNat) = am_s 3 then 1 else 0)) = 0) := hz3
        rw [if_neg hz3] at K
        refine r_ld (pc' := 28) hM_224 d_224_27 rfl rfl ?_
        refine r_ld (pc' := 30) hM_224 d_224_28 rfl rfl ?_
        refine r_ld (pc' := 31) hM_224 d_224_30 rfl rfl ?_
        refine r_cl (pc' := 34) (c := (210, 0)) (a := [.inr (.inr (some 53)), .inl p, .inl a]) (q := [.inl x]) hM_224 d_224_31 rfl (by decide +kernel) hM_210 rfl rfl rfl (Nat.le_of_ble_eq_true rfl) (Nat.le_of_ble_eq_true rfl) (Or.inr rfl) (n_210  m p a (hz4 hz3)) (Nat.le_of_ble_eq_true rfl) ?_
        show rn fx 3 (0, 0) 224 34 [some (.inr (.inr (some 53))), some (.inl a), some (.inl b), some (.inl x), some (.inl p)] [.inl ((hrd (nv (m 54)) p.toNat a.toNat)), .inl x] (st0 m) o
        refine r_ld (pc' := 35) hM_224 d_224_34 rfl rfl ?_
        refine r_ld (pc' := 37) hM_224 d_224_35 rfl rfl ?_
        refine r_ld (pc' := 38) hM_224 d_224_37 rfl rfl ?_
        refine r_cl (pc' := 41) (c := (210, 0)) (a := [.inr (.inr (some 53)), .inl p, .inl b]) (q := [.inl ((hrd (nv (m 54)) p.toNat a.toNat)), .inl x]) hM_224 d_224_38 rfl (by decide +kernel) hM_210 rfl rfl rfl (Nat.le_of_ble_eq_true rfl) (Nat.le_of_ble_eq_true rfl) (Or.inr rfl) (n_210  m p b (hz5 hz3)) (Nat.le_of_ble_eq_true rfl) ?_
        show rn fx 3 (0, 0) 224 41 [some (.inr (.inr (some 53))), some (.inl a), some (.inl b), some (.inl x), some (.inl p)] [.inl ((hrd (nv (m 54)) p.toNat b.toNat)), .inl ((hrd (nv (m 54)) p.toNat a.toNat)), .inl x] (st0 m) o
        refine r_ic (pc' := 51) (pc2 := 44) hM_224 d_224_41 (by decide) rfl (fun hz6 => ?_) (fun hz6 => ?_)
        · have hz6 : am_s ((hrd (nv (m 54)) p.toNat a.toNat)) = am_s ((hrd (nv (m 54)) p.toNat b.toNat)) := hz6
          rw [if_pos hz6] at K
          refine r_k (pc' := 52) (v := .inl 0) hM_224 d_224_51 rfl rfl ?_
          exact K
        · have hz6 : ¬ (am_s ((hrd (nv (m 54)) p.toNat a.toNat)) = am_s ((hrd (nv (m 54)) p.toNat b.toNat))) := hz6
          rw [if_neg hz6] at K
          refine r_k (pc' := 45) (v := .inl 1) hM_224 d_224_44 rfl rfl ?_
          refine r_ld (pc' := 47) hM_224 d_224_45 rfl rfl ?_
          refine r_b (pc' := 48) (z := (am_shl 1 p)) hM_224 d_224_47 rfl rfl ?_
          refine r_go (pc' := 52) hM_224 d_224_48 (by decide) ?_
          exact K
    have K : ∀ y1 : Int, y1 = (if ¬ am_s ((if (0 ≤ am_s p ∧ am_s p < m 54 0) ∧ nv (m 54) (8 + (am_s p).toNat) = am_s 3 then 1 else 0)) = 0 then 0 else (if am_s ((hrd (nv (m 54)) p.toNat a.toNat)) = am_s ((hrd (nv (m 54)) p.toNat b.toNat)) then 0 else (am_shl 1 p))) → ok 3 224 52 [some (.inr (.inr (some 53))), some (.inl a), some (.inl b), some (.inl x), some (.inl p)] [.inl y1, .inl x] m Q := by
      intro y1 hy1
      replace H := H y1 hy1
      refine ok_sg (pc' := 5) (ls' := [some (.inr (.inr (some 53))), some (.inl a), some (.inl b), some (.inl (am_or x y1)), some (.inl (p + 1))]) (st' := []) (m' := m) (fun fx hfx o hk => ?_) ?_
      · refine r_b (pc' := 53) (z := (am_or x y1)) hM_224 d_224_52 rfl rfl ?_
        refine r_sto (pc' := 54) (ls' := [some (.inr (.inr (some 53))), some (.inl a), some (.inl b), some (.inl (am_or x y1)), some (.inl p)]) hM_224 d_224_53 rfl rfl ?_
        refine r_sto (pc' := 57) (ls' := [some (.inr (.inr (some 53))), some (.inl a), some (.inl b), some (.inl (am_or x y1)), some (.inl (p + 1))]) hM_224 d_224_54 rfl rfl ?_
        refine r_go (pc' := 5) hM_224 d_224_57 (by decide) ?_
        exact hk
      exact H
    exact K _ rfl
theorem u_224_0 {Q : List am_V → am_M → Prop} {m : am_M} {a : Int} {b : Int}  (H : ok 3 224 5 [some (.inr (.inr (some 53))), some (.inl a), some (.inl b), some (.inl 0), some (.inl 0)] [] m Q) : ok 3 224 0 [some (.inr (.inr (some 53))), some (.inl a), some (.inl b), none, none] [] m Q := by
  refine ok_sg (pc' := 5) (ls' := [some (.inr (.inr (some 53))), some (.inl a), some (.inl b), some (.inl 0), some (.inl 0)]) (st' := []) (m' := m) (fun fx hfx o hk => ?_) ?_
  · refine r_k (pc' := 1) (v := .inl 0) hM_224 d_224_0 rfl rfl ?_
    refine r_sto (pc' := 2) (ls' := [some (.inr (.inr (some 53))), some (.inl a), some (.inl b), some (.inl 0), none]) hM_224 d_224_1 rfl rfl ?_
    refine r_k (pc' := 3) (v := .inl 0) hM_224 d_224_2 rfl rfl ?_
    refine r_sto (pc' := 5) (ls' := [some (.inr (.inr (some 53))), some (.inl a), some (.inl b), some (.inl 0), some (.inl 0)]) hM_224 d_224_3 rfl rfl ?_
    exact hk
  exact H
theorem z_224   (m : am_M) (a : Int) (b : Int) (hq : WFG (m 54) ∧ (0 ≤ a ∧ a < 4096) ∧ 0 ≤ b ∧ b < 4096) : ok 3 224 0 (am_ent 5 [.inr (.inr (some 53)), .inl a, .inl b]) [] m (fun rr m' => rr = [.inl (((unl (nv (m 54)) a.toNat b.toNat (m 54 0).toNat : Nat) : Int))] ∧ m' = m) := by
  show ok 3 224 0 [some (.inr (.inr (some 53))), some (.inl a), some (.inl b), none, none] [] m _
  obtain ⟨hw, ha, hb⟩ := hq
  have hN := hw.1
  have hwn := WFG_nv hw
  obtain ⟨A, rfl⟩ : ∃ A : Nat, a = (A : Int) := ⟨a.toNat, by omega⟩
  obtain ⟨B, rfl⟩ : ∃ B : Nat, b = (B : Int) := ⟨b.toNat, by omega⟩
  rw [Int.toNat_natCast, Int.toNat_natCast]
  refine u_224_0 ?_
  refine ok_for (σ := Unit) (fun p _ => [some (.inr (.inr (some 53))), some (.inl (A : Int)), some (.inl (B : Int)), some (.inl ((unl (nv (m 54)) A B p : Nat) : Int)), some (.inl (p : Int))]) (fun p _ M => M = m) (m 54 0).toNat ?_ ?_ () m rfl
  · rintro p hp - M rfl IH
    have hul := unl_lt (nv (M 54)) A B p
    refine u_224_5 ?_
    rw [am_s_id (z := M 54 0) (by omega) (by omega), am_s_id (z := (p : Int)) (by omega) (by omega), Int.toNat_natCast, Int.toNat_natCast, Int.toNat_natCast, hrd_s hwn (by omega), hrd_s hwn (by omega), show am_s 3 = 3 from rfl]
    refine ⟨fun q => by omega, fun _ => ⟨hw, fun _ => ⟨hw, by omega, by omega⟩, fun _ => ⟨hw, by omega, by omega⟩, fun y hy => ?_⟩⟩
    have := IH () M rfl
    rw [unl_s] at this
    by_cases q1 : nv (M 54) (8 + p) = 3
    · rw [if_pos (as_iteN.mpr ⟨by omega, q1⟩)] at hy
      rw [if_pos (Or.inl q1)] at this
      rw [hy, bx_or0 hul (by omega)]
      exact this
    · rw [if_neg (fun k => k (as_ite.mpr (fun k => q1 k.2)))] at hy
      by_cases q2 : hrd (nv (M 54)) p A = hrd (nv (M 54)) p B
      · rw [if_pos q2] at hy
        rw [if_pos (Or.inr q2)] at this
        rw [hy, bx_or0 hul (by omega)]
        exact this
      · rw [if_neg q2] at hy
        rw [if_neg (fun k => k.elim q1 q2)] at this
        rw [hy, bx_or2 hul (by omega)]
        exact this
  · rintro - M rfl
    refine u_224_5 ?_
    rw [am_s_id (z := M 54 0) (by omega) (by omega), am_s_id (z := (((M 54 0).toNat : Nat) : Int)) (by omega) (by omega)]
    exact ⟨fun _ => ⟨rfl, rfl⟩, fun q => by omega⟩
theorem u_103_6 {Q : List am_V → am_M → Prop} {m : am_M} {s : Int} {p : Int}  (H : ((am_s (m 2 4) ≤ am_s p) → (ALW m) ∧ (∀ (m1 : am_M), (m1 = m) → Q [.inl ((cf (alq m) ((m 34 9).toNat + 1) : Nat) : Int)] m1)) ∧ ((¬ (am_s (m 2 4) ≤ am_s p)) → ((0 ≤ p ∧ p < 12) ∧ 0 ≤ s ∧ s < 8192) ∧ (((0 ≤ p ∧ p < 12) ∧ am_t (am_s ((m 35 (8 * p.toNat + tri s.toNat p.toNat)))) = (am_s ((m 35 (8 * p.toNat + tri s.toNat p.toNat)))) ∧ ∀ t : Nat, t < 8 → am_s (m 35 (8 * p.toNat + t)) = m 35 (8 * p.toNat + t)) ∧ (∀ (m2 : am_M), (m2 = mu m 36 p.toNat ((msk (fun t => m 35 (8 * p.toNat + t)) (am_s ((m 35 (8 * p.toNat + tri s.toNat p.toNat)))) 8 : Nat) : Int)) → ok 4 103 6 [some (.inr (.inr (some 34))), some (.inl s), some (.inl (p + 1))] [] m2 Q)))) : ok 4 103 6 [some (.inr (.inr (some 34))), some (.inl s), some (.inl p)] [] m Q := by
  refine ok_sg (pc' := 14) (ls' := [some (.inr (.inr (some 34))), some (.inl s), some (.inl p)]) (st' := [.inl (m 2 4), .inl p]) (m' := m) (fun fx hfx o hk => ?_) ?_
  · refine r_ld (pc' := 7) hM_103 d_103_6 rfl rfl ?_
    refine r_ld (pc' := 8) hM_103 d_103_7 rfl rfl ?_
    refine r_gR (pc' := 11) (v := 2) hM_103 d_103_8 rfl (by decide +kernel) ?_
    refine r_gI (pc' := 14) (k0 := 4) hM_103 d_103_11 rfl (by decide +kernel) ?_
    exact hk
  refine ok_ic (pc' := 35) (pc2 := 17) hM_103 d_103_14 (by decide) rfl (fun hz1 => ?_) (fun hz1 => ?_)
  · have H := H.1 hz1
    obtain ⟨hz2, H⟩ := H
    refine ok_sg (pc' := 36) (ls' := [some (.inr (.inr (some 34))), some (.inl s), some (.inl p)]) (st' := [.inr (.inr (some 34))]) (m' := m) (fun fx hfx o hk => ?_) ?_
    · refine r_ld (pc' := 36) hM_103 d_103_35 rfl rfl ?_
      exact hk
    refine ok_cl (pc' := 39) (c := (85, 0)) (a := [.inr (.inr (some 34))]) (q := []) hM_103 d_103_36 rfl (by decide +kernel) hM_85 rfl rfl rfl (Nat.le_of_ble_eq_true rfl) (Nat.le_of_ble_eq_true rfl) (Or.inr rfl) (z_85  m  hz2) (Nat.le_of_ble_eq_true rfl) ?_
    rintro _ m1 ⟨rfl, hz3⟩
    replace H := H  m1 hz3
    show ok 4 103 39 [some (.inr (.inr (some 34))), some (.inl s), some (.inl p)] [.inl ((cf (alq m) ((m 34 9).toNat + 1) : Nat) : Int)] m1 Q
    exact ok_rt (fun fx _ => rt_i hM_103 d_103_39 rfl) H
  · have H := H.2 hz1
    obtain ⟨hz4, H⟩ := H
    obtain ⟨hz5, H⟩ := H
    refine ok_sg (pc' := 26) (ls' := [some (.inr (.inr (some 34))), some (.inl s), some (.inl p)]) (st' := [.inr (.inl (am_s ((m 35 (8 * p.toNat + tri s.toNat p.toNat))))), .inl p, .inr (.inr (some 34))]) (m' := m) (fun fx hfx o hk => ?_) ?_
    · refine r_ld (pc' := 18) hM_103 d_103_17 rfl rfl ?_
      refine r_ld (pc' := 19) hM_103 d_103_18 rfl rfl ?_
      refine r_ld (pc' := 20) hM_103 d_103_19 rfl rfl ?_
      refine r_ld (pc' := 21) hM_103 d_103_20 rfl rfl ?_
      refine r_ld (pc' := 22) hM_103 d_103_21 rfl rfl ?_
      refine r_cl (pc' := 25) (c := (101, 0)) (a := [.inr (.inr (some 34)), .inl p, .inl s]) (q := [.inl p, .inr (.inr (some 34))]) hM_103 d_103_22 rfl (by decide +kernel) hM_101 rfl rfl rfl (Nat.le_of_ble_eq_true rfl) (Nat.le_of_ble_eq_true rfl) (Or.inr rfl) (n_101  m p s hz4) (Nat.le_of_ble_eq_true rfl) ?_
      show rn fx 4 (0, 0) 103 25 [some (.inr (.inr (some 34))), some (.inl s), some (.inl p)] [.inl ((m 35 (8 * p.toNat + tri s.toNat p.toNat))), .inl p, .inr (.inr (some 34))] (st0 m) o
      refine r_stk (pc' := 26) (st' := [.inr (.inl (am_s ((m 35 (8 * p.toNat + tri s.toNat p.toNat))))), .inl p, .inr (.inr (some 34))]) hM_103 d_103_25 rfl rfl ?_
      exact hk
    refine ok_cl (pc' := 29) (c := (84, 0)) (a := [.inr (.inr (some 34)), .inl p, .inr (.inl (am_s ((m 35 (8 * p.toNat + tri s.toNat p.toNat)))))]) (q := []) hM_103 d_103_26 rfl (by decide +kernel) hM_84 rfl rfl rfl (Nat.le_of_ble_eq_true rfl) (Nat.le_of_ble_eq_true rfl) (Or.inr rfl) (z_84  m p (am_s ((m 35 (8 * p.toNat + tri s.toNat p.toNat)))) hz5) (Nat.le_of_ble_eq_true rfl) ?_
    rintro _ m2 ⟨rfl, hz6⟩
    replace H := H  m2 hz6
    show ok 4 103 29 [some (.inr (.inr (some 34))), some (.inl s), some (.inl p)] [] m2 Q
    refine ok_sg (pc' := 6) (ls' := [some (.inr (.inr (some 34))), some (.inl s), some (.inl (p + 1))]) (st' := []) (m' := m2) (fun fx hfx o hk => ?_) ?_
    · refine r_sto (pc' := 32) (ls' := [some (.inr (.inr (some 34))), some (.inl s), some (.inl (p + 1))]) hM_103 d_103_29 rfl rfl ?_
      refine r_go (pc' := 6) hM_103 d_103_32 (by decide) ?_
      exact hk
    exact H
theorem u_103_0 {Q : List am_V → am_M → Prop} {m : am_M} {s : Int}  (H : (WFG (vw m 2)) ∧ (∀ (m1 : am_M), (LIS m m1) → ok 4 103 6 [some (.inr (.inr (some 34))), some (.inl s), some (.inl 0)] [] m1 Q)) : ok 4 103 0 [some (.inr (.inr (some 34))), some (.inl s), none] [] m Q := by
  obtain ⟨hz1, H⟩ := H
  refine ok_sg (pc' := 1) (ls' := [some (.inr (.inr (some 34))), some (.inl s), none]) (st' := [.inr (.inr (some 34))]) (m' := m) (fun fx hfx o hk => ?_) ?_
  · refine r_ld (pc' := 1) hM_103 d_103_0 rfl rfl ?_
    exact hk
  refine ok_cl (pc' := 4) (c := (83, 0)) (a := [.inr (.inr (some 34))]) (q := []) hM_103 d_103_1 rfl (by decide +kernel) hM_83 rfl rfl rfl (Nat.le_of_ble_eq_true rfl) (Nat.le_of_ble_eq_true rfl) (Or.inr rfl) (z_83  m  hz1) (Nat.le_of_ble_eq_true rfl) ?_
  rintro _ m1 ⟨rfl, hz2⟩
  replace H := H  m1 hz2
  show ok 4 103 4 [some (.inr (.inr (some 34))), some (.inl s), none] [] m1 Q
  refine ok_sg (pc' := 6) (ls' := [some (.inr (.inr (some 34))), some (.inl s), some (.inl 0)]) (st' := []) (m' := m1) (fun fx hfx o hk => ?_) ?_
  · refine r_k (pc' := 5) (v := .inl 0) hM_103 d_103_4 rfl rfl ?_
    refine r_sto (pc' := 6) (ls' := [some (.inr (.inr (some 34))), some (.inl s), some (.inl 0)]) hM_103 d_103_5 rfl rfl ?_
    exact hk
  exact H
theorem z_103   (m : am_M) (s : Int) (hq : WFG (vw m 2) ∧ 0 ≤ s ∧ s < 4096) : ok 4 103 0 (am_ent 3 [.inr (.inr (some 34)), .inl s]) [] m (fun rr m' => rr = [.inl (((cf (lkq (nv (vw m 2)) s.toNat) (may (nv (vw m 2)) + 1) : Nat) : Int))] ∧ ∀ a k, ¬ (a = 34 ∧ (k = 9 ∨ k = 10)) → a ≠ 35 → a ≠ 36 → m' a k = m a k) := by
  show ok 4 103 0 [some (.inr (.inr (some 34))), some (.inl s), none] [] m _
  obtain ⟨hw, hs⟩ := hq
  have hN := vwN hw
  have hwn := WFG_nv hw
  have hFl := may_lt (g := nv (vw m 2)) hwn.1.2
  obtain ⟨S, rfl⟩ : ∃ S : Nat, s = (S : Int) := ⟨s.toNat, by omega⟩
  rw [Int.toNat_natCast]
  have eg0 : nv (vw m 2) 0 = m 2 4 := by rw [nv0, vw_0]
  refine u_103_0 ⟨hw, fun m1 h1 => ?_⟩
  obtain ⟨l1, l2, l3, l4⟩ := id h1
  refine ok_for (σ := Unit) (fun p _ => [some (.inr (.inr (some 34))), some (.inl (S : Int)), some (.inl (p : Int))]) (fun p _ M => (∀ p' : Nat, p' < p → M 36 p' = ((msk (fun t => tnt (nv (vw m 2)) p' t) (tnt (nv (vw m 2)) p' (tri S p')) 8 : Nat) : Int)) ∧ ∀ a, a ≠ 36 → M a = m1 a) (m 2 4).toNat ?_ ?_ () m1 ⟨fun p' h => absurd h (Nat.not_lt_zero _), fun _ _ => rfl⟩
  · rintro p hp - M ⟨h2, h3⟩ IH
    have f2 : M 2 4 = m 2 4 := by rw [h3 2 (by decide), l4 2 4 (by omega) (by omega)]
    have eT : ∀ t : Nat, t < 8 → M 35 (8 * p + t) = tnt (nv (vw m 2)) p t := fun t ht => by rw [h3 35 (by decide)]; exact l3 p t (by omega) ht
    refine u_103_6 ?_
    rw [f2, am_s_id (z := m 2 4) (by omega) (by omega), am_s_id (z := (p : Int)) (by omega) (by omega), Int.toNat_natCast, Int.toNat_natCast, eT _ (tri_lt S p), tnt_s hwn (by omega)]
    refine ⟨fun q => by omega, fun _ => ⟨⟨by omega, by omega, by omega⟩, ⟨by omega, t32 (tnt_s hwn (by omega)), fun t ht => by rw [eT t ht]; exact tnt_s hwn (by omega)⟩, fun m2 hm => ?_⟩⟩
    rw [msk_congr (k' := fun t => tnt (nv (vw m 2)) p t) 8 (fun t ht => eT t ht)] at hm
    rw [hm]
    refine IH () _ ⟨fun p' hp' => ?_, fun a ha => by rw [mu_rf ha]; exact h3 a ha⟩
    rw [mu_if]
    by_cases h : p' = p
    · rw [if_pos h, h]
    · rw [if_neg h]; exact h2 p' (by omega)
  · rintro - M ⟨h2, h3⟩
    have f2 : M 2 4 = m 2 4 := by rw [h3 2 (by decide), l4 2 4 (by omega) (by omega)]
    have f9 : M 34 9 = ((may (nv (vw m 2)) : Nat) : Int) := by rw [h3 34 (by decide), l1]
    have f10 : M 34 10 = ((2 ^ cnt (may (nv (vw m 2))) 12 : Nat) : Int) := by rw [h3 34 (by decide), l2]
    have fv : vw M 2 = vw m 2 := vw_same fun a k q1 q2 => by rw [h3 a (by omega), l4 a k (by omega) (by omega)]
    have hA : ALW M := by
      refine ⟨by rw [fv]; exact hw, by rw [f9]; omega, by rw [f10, f9, Int.toNat_natCast], fun p hp => ?_⟩
      rw [f2] at hp
      rw [h2 p (by omega)]
      have := msk_lt (fun t => tnt (nv (vw m 2)) p t) (tnt (nv (vw m 2)) p (tri S p)) 8
      omega
    have eb : ∀ t n : Nat, (n : Int) ≤ m 2 4 → alb M t n = lkb (nv (vw m 2)) S t n := by
      intro t n
      induction n with
      | zero => intro _; rfl
      | succ n ih =>
        intro hn
        rw [alb_s, lkb_s, ih (by omega), h2 n (by omega), Int.toNat_natCast, msk_bit, decide_eq_true (tri_lt t n), Bool.true_and]
        congr 1
        exact decide_eq_decide.mpr tnt_eq
    have eq : alq M = lkq (nv (vw m 2)) S := by
      funext t
      unfold alq lkq
      rw [f9, Int.toNat_natCast, f2, eb t _ (by omega), eg0]
    refine u_103_6 ?_
    rw [f2, am_s_id (z := m 2 4) (by omega) (by omega), am_s_id (z := (((m 2 4).toNat : Nat) : Int)) (by omega) (by omega)]
    refine ⟨fun _ => ⟨hA, ?_⟩, fun q => by omega⟩
    intro mx hmx
    obtain rfl := hmx.symm
    rw [eq, f9, Int.toNat_natCast]
    exact ⟨rfl, fun a k q1 q2 q3 => by rw [h3 a q3, l4 a k q1 q2]⟩
theorem u_102_0 {Q : List am_V → am_M → Prop} {m : am_M} {s : Int}  (H : (WFG (vw m 2)) ∧ (((¬ (0 ≤ am_s s ∧ (am_s s).toNat &&& may (nv (vw m 2)) = (am_s s).toNat)) → Q [.inl (-3)] m) ∧ ((0 ≤ am_s s ∧ (am_s s).toNat &&& may (nv (vw m 2)) = (am_s s).toNat) → (WFG (vw m 2) ∧ 0 ≤ s ∧ s < 4096) ∧ (∀ (m1 : am_M), (∀ a k, ¬ (a = 34 ∧ (k = 9 ∨ k = 10)) → a ≠ 35 → a ≠ 36 → m1 a k = m a k) → Q [.inl ((cf (lkq (nv (vw m 2)) s.toNat) (may (nv (vw m 2)) + 1) : Nat) : Int)] m1)))) : ok 5 102 0 [some (.inr (.inr (some 0))), some (.inl s)] [] m Q := by
  obtain ⟨hz1, H⟩ := H
  refine ok_sg (pc' := 8) (ls' := [some (.inr (.inr (some 0))), some (.inl s)]) (st' := [.inl ((if 0 ≤ am_s s ∧ (am_s s).toNat &&& may (nv (vw m 2)) = (am_s s).toNat then 1 else 0))]) (m' := m) (fun fx hfx o hk => ?_) ?_
  · refine r_ld (pc' := 1) hM_102 d_102_0 rfl rfl ?_
    refine r_gR (pc' := 4) (v := 2) hM_102 d_102_1 rfl (by decide +kernel) ?_
    refine r_ld (pc' := 5) hM_102 d_102_4 rfl rfl ?_
    refine r_cl (pc' := 8) (c := (77, 0)) (a := [.inr (.inr (some 2)), .inl s]) (q := []) hM_102 d_102_5 rfl (by decide +kernel) hM_77 rfl rfl rfl (Nat.le_of_ble_eq_true rfl) (Nat.le_of_ble_eq_true rfl) (Or.inr rfl) (n_77 (by decide) m s hz1) (Nat.le_of_ble_eq_true rfl) ?_
    show rn fx 5 (0, 0) 102 8 [some (.inr (.inr (some 0))), some (.inl s)] [.inl ((if 0 ≤ am_s s ∧ (am_s s).toNat &&& may (nv (vw m 2)) = (am_s s).toNat then 1 else 0))] (st0 m) o
    exact hk
  refine ok_if (pc' := 22) (pc2 := 11) hM_102 d_102_8 (by decide) rfl (fun hz2 => ?_) (fun hz2 => ?_)
  · have H := H.1 (as_ite.mp hz2)
    refine ok_sg (pc' := 24) (ls' := [some (.inr (.inr (some 0))), some (.inl s)]) (st' := [.inl (-3)]) (m' := m) (fun fx hfx o hk => ?_) ?_
    · refine r_k (pc' := 24) (v := .inl (-3)) hM_102 d_102_22 rfl rfl ?_
      exact hk
    exact ok_rt (fun fx _ => rt_i hM_102 d_102_24 rfl) H
  · have H := H.2 (as_iteN.mp hz2)
    obtain ⟨hz3, H⟩ := H
    refine ok_sg (pc' := 16) (ls' := [some (.inr (.inr (some 0))), some (.inl s)]) (st' := [.inl s, .inr (.inr (some 34))]) (m' := m) (fun fx hfx o hk => ?_) ?_
    · refine r_ld (pc' := 12) hM_102 d_102_11 rfl rfl ?_
      refine r_gR (pc' := 15) (v := 34) hM_102 d_102_12 rfl (by decide +kernel) ?_
      refine r_ld (pc' := 16) hM_102 d_102_15 rfl rfl ?_
      exact hk
    refine ok_cl (pc' := 19) (c := (103, 0)) (a := [.inr (.inr (some 34)), .inl s]) (q := []) hM_102 d_102_16 rfl (by decide +kernel) hM_103 rfl rfl rfl (Nat.le_of_ble_eq_true rfl) (Nat.le_of_ble_eq_true rfl) (Or.inr rfl) (z_103  m s hz3) (Nat.le_of_ble_eq_true rfl) ?_
    rintro _ m1 ⟨rfl, hz4⟩
    replace H := H  m1 hz4
    show ok 5 102 19 [some (.inr (.inr (some 0))), some (.inl s)] [.inl ((cf (lkq (nv (vw m 2)) s.toNat) (may (nv (vw m 2)) + 1) : Nat) : Int)] m1 Q
    refine ok_sg (pc' := 24) (ls' := [some (.inr (.inr (some 0))), some (.inl s)]) (st' := [.inl ((cf (lkq (nv (vw m 2)) s.toNat) (may (nv (vw m 2)) + 1) : Nat) : Int)]) (m' := m1) (fun fx hfx o hk => ?_) ?_
    · refine r_go (pc' := 24) hM_102 d_102_19 (by decide) ?_
      exact hk
    exact ok_rt (fun fx _ => rt_i hM_102 d_102_24 rfl) H
theorem u_223_26 {Q : List am_V → am_M → Prop} {m : am_M} {s : Int} {f : Int} {n : Int} {t : Int}  (H : ((am_s f < am_s t) → Q [.inl n] m) ∧ ((¬ (am_s f < am_s t)) → ((¬ am_s (am_and t (am_xor f (-1))) = 0) → ok 4 223 26 [some (.inr (.inr (some 53))), some (.inl s), some (.inl f), some (.inl (n + 0)), some (.inl (t + 1))] [] m Q) ∧ ((am_s (am_and t (am_xor f (-1))) = 0) → (WFG (m 54) ∧ (0 ≤ s ∧ s < 4096) ∧ 0 ≤ t ∧ t < 4096) ∧ (∀ (m1 : am_M), (m1 = m) → ∀ y1 : Int, y1 = (if ¬ am_s ((unl (nv (m 54)) s.toNat t.toNat (m 54 0).toNat : Nat) : Int) = 0 then 0 else 1) → ok 4 223 26 [some (.inr (.inr (some 53))), some (.inl s), some (.inl f), some (.inl (n + y1)), some (.inl (t + 1))] [] m1 Q)))) : ok 4 223 26 [some (.inr (.inr (some 53))), some (.inl s), some (.inl f), some (.inl n), some (.inl t)] [] m Q := by
  refine ok_sg (pc' := 29) (ls' := [some (.inr (.inr (some 53))), some (.inl s), some (.inl f), some (.inl n), some (.inl t)]) (st' := [.inl f, .inl t]) (m' := m) (fun fx hfx o hk => ?_) ?_
  · refine r_ld (pc' := 28) hM_223 d_223_26 rfl rfl ?_
    refine r_ld (pc' := 29) hM_223 d_223_28 rfl rfl ?_
    exact hk
  refine ok_ic (pc' := 65) (pc2 := 32) hM_223 d_223_29 (by decide) rfl (fun hz1 => ?_) (fun hz1 => ?_)
  · have H := H.1 hz1
    refine ok_sg (pc' := 66) (ls' := [some (.inr (.inr (some 53))), some (.inl s), some (.inl f), some (.inl n), some (.inl t)]) (st' := [.inl n]) (m' := m) (fun fx hfx o hk => ?_) ?_
    · refine r_ld (pc' := 66) hM_223 d_223_65 rfl rfl ?_
      exact hk
    exact ok_rt (fun fx _ => rt_i hM_223 d_223_66 rfl) H
  · have H := H.2 hz1
    refine ok_sg (pc' := 39) (ls' := [some (.inr (.inr (some 53))), some (.inl s), some (.inl f), some (.inl n), some (.inl t)]) (st' := [.inl (am_and t (am_xor f (-1))), .inl n]) (m' := m) (fun fx hfx o hk => ?_) ?_
    · refine r_ld (pc' := 33) hM_223 d_223_32 rfl rfl ?_
      refine r_ld (pc' := 35) hM_223 d_223_33 rfl rfl ?_
      refine r_ld (pc' := 36) hM_223 d_223_35 rfl rfl ?_
      refine r_k (pc' := 37) (v := .inl (-1)) hM_223 d_223_36 rfl rfl ?_
      refine r_b (pc' := 38) (z := (am_xor f (-1))) hM_223 d_223_37 rfl rfl ?_
      refine r_b (pc' := 39) (z := (am_and t (am_xor f (-1)))) hM_223 d_223_38 rfl rfl ?_
      exact hk
    refine ok_if (pc' := 56) (pc2 := 42) hM_223 d_223_39 (by decide) rfl (fun hz2 => ?_) (fun hz2 => ?_)
    · have H := H.1 hz2
      refine ok_sg (pc' := 26) (ls' := [some (.inr (.inr (some 53))), some (.inl s), some (.inl f), some (.inl (n + 0)), some (.inl (t + 1))]) (st' := []) (m' := m) (fun fx hfx o hk => ?_) ?_
      · refine r_k (pc' := 57) (v := .inl 0) hM_223 d_223_56 rfl rfl ?_
        refine r_b (pc' := 58) (z := (n + 0)) hM_223 d_223_57 rfl rfl ?_
        refine r_sto (pc' := 59) (ls' := [some (.inr (.inr (some 53))), some (.inl s), some (.inl f), some (.inl (n + 0)), some (.inl t)]) hM_223 d_223_58 rfl rfl ?_
        refine r_sto (pc' := 62) (ls' := [some (.inr (.inr (some 53))), some (.inl s), some (.inl f), some (.inl (n + 0)), some (.inl (t + 1))]) hM_223 d_223_59 rfl rfl ?_
        refine r_go (pc' := 26) hM_223 d_223_62 (by decide) ?_
        exact hk
      exact H
    · have H := H.2 (Decidable.not_not.mp hz2)
      obtain ⟨hz3, H⟩ := H
      refine ok_sg (pc' := 46) (ls' := [some (.inr (.inr (some 53))), some (.inl s), some (.inl f), some (.inl n), some (.inl t)]) (st' := [.inl t, .inl s, .inr (.inr (some 53)), .inl n]) (m' := m) (fun fx hfx o hk => ?_) ?_
      · refine r_ld (pc' := 43) hM_223 d_223_42 rfl rfl ?_
        refine r_ld (pc' := 44) hM_223 d_223_43 rfl rfl ?_
        refine r_ld (pc' := 46) hM_223 d_223_44 rfl rfl ?_
        exact hk
      refine ok_cl (pc' := 49) (c := (224, 0)) (a := [.inr (.inr (some 53)), .inl s, .inl t]) (q := [.inl n]) hM_223 d_223_46 rfl (by decide +kernel) hM_224 rfl rfl rfl (Nat.le_of_ble_eq_true rfl) (Nat.le_of_ble_eq_true rfl) (Or.inr rfl) (z_224  m s t hz3) (Nat.le_of_ble_eq_true rfl) ?_
      rintro _ m1 ⟨rfl, hz4⟩
      replace H := H  m1 hz4
      show ok 4 223 49 [some (.inr (.inr (some 53))), some (.inl s), some (.inl f), some (.inl n), some (.inl t)] [.inl ((unl (nv (m 54)) s.toNat t.toNat (m 54 0).toNat : Nat) : Int), .inl n] m1 Q
      refine ok_sg (pc' := 57) (ls' := [some (.inr (.inr (some 53))), some (.inl s), some (.inl f), some (.inl n), some (.inl t)]) (st' := [.inl (if ¬ am_s ((unl (nv (m 54)) s.toNat t.toNat (m 54 0).toNat : Nat) : Int) = 0 then 0 else 1), .inl n]) (m' := m1) (fun fx hfx o K => ?_) ?_
      · refine r_if (pc' := 56) (pc2 := 52) hM_223 d_223_49 (by decide) rfl (fun hz5 => ?_) (fun hz5 => ?_)
        · have hz5 : ¬ am_s ((unl (nv (m 54)) s.toNat t.toNat (m 54 0).toNat : Nat) : Int) = 0 := hz5
          rw [if_pos hz5] at K
          refine r_k (pc' := 57) (v := .inl 0) hM_223 d_223_56 rfl rfl ?_
          exact K
        · have hz5 : ¬ (¬ am_s ((unl (nv (m 54)) s.toNat t.toNat (m 54 0).toNat : Nat) : Int) = 0) := hz5
          rw [if_neg hz5] at K
          refine r_k (pc' := 53) (v := .inl 1) hM_223 d_223_52 rfl rfl ?_
          refine r_go (pc' := 57) hM_223 d_223_53 (by decide) ?_
          exact K
      have K : ∀ y1 : Int, y1 = (if ¬ am_s ((unl (nv (m 54)) s.toNat t.toNat (m 54 0).toNat : Nat) : Int) = 0 then 0 else 1) → ok 4 223 57 [some (.inr (.inr (some 53))), some (.inl s), some (.inl f), some (.inl n), some (.inl t)] [.inl y1, .inl n] m1 Q := by
        intro y1 hy1
        replace H := H y1 hy1
        refine ok_sg (pc' := 26) (ls' := [some (.inr (.inr (some 53))), some (.inl s), some (.inl f), some (.inl (n + y1)), some (.inl (t + 1))]) (st' := []) (m' := m1) (fun fx hfx o hk => ?_) ?_
        · refine r_b (pc' := 58) (z := (n + y1)) hM_223 d_223_57 rfl rfl ?_
          refine r_sto (pc' := 59) (ls' := [some (.inr (.inr (some 53))), some (.inl s), some (.inl f), some (.inl (n + y1)), some (.inl t)]) hM_223 d_223_58 rfl rfl ?_
          refine r_sto (pc' := 62) (ls' := [some (.inr (.inr (some 53))), some (.inl s), some (.inl f), some (.inl (n + y1)), some (.inl (t + 1))]) hM_223 d_223_59 rfl rfl ?_
          refine r_go (pc' := 26) hM_223 d_223_62 (by decide) ?_
          exact hk
        exact H
      exact K _ rfl
theorem u_223_0 {Q : List am_V → am_M → Prop} {m : am_M} {s : Int}  (H : (WFG ((mu m 53 0 0) 54)) ∧ (((am_s (am_and s (am_xor (((may (nv ((mu m 53 0 0) 54)) : Nat) : Int)) (-1))) = 0) → ok 4 223 26 [some (.inr (.inr (some 53))), some (.inl s), some (.inl (((may (nv ((mu m 53 0 0) 54)) : Nat) : Int))), some (.inl 0), some (.inl 0)] [] (mu m 53 0 0) Q) ∧ ((¬ (am_s (am_and s (am_xor (((may (nv ((mu m 53 0 0) 54)) : Nat) : Int)) (-1))) = 0)) → Q [.inl (-3)] (mu m 53 0 0)))) : ok 4 223 0 [some (.inr (.inr (some 53))), some (.inl s), none, none, none] [] m Q := by
  obtain ⟨hz1, H⟩ := H
  refine ok_sg (pc' := 15) (ls' := [some (.inr (.inr (some 53))), some (.inl s), some (.inl (((may (nv ((mu m 53 0 0) 54)) : Nat) : Int))), none, none]) (st' := [.inl (am_and s (am_xor (((may (nv ((mu m 53 0 0) 54)) : Nat) : Int)) (-1)))]) (m' := mu m 53 0 0) (fun fx hfx o hk => ?_) ?_
  · refine r_ld (pc' := 1) hM_223 d_223_0 rfl rfl ?_
    refine r_k (pc' := 2) (v := .inl 0) hM_223 d_223_1 rfl rfl ?_
    refine r_pI (pc' := 5) (k0 := 0) hM_223 d_223_2 rfl (by decide +kernel) ?_
    refine r_ld (pc' := 6) hM_223 d_223_5 rfl rfl ?_
    refine r_cl (pc' := 9) (c := (222, 0)) (a := [.inr (.inr (some 53))]) (q := []) hM_223 d_223_6 rfl (by decide +kernel) hM_222 rfl rfl rfl (Nat.le_of_ble_eq_true rfl) (Nat.le_of_ble_eq_true rfl) (Or.inr rfl) (n_222  (mu m 53 0 0)  hz1) (Nat.le_of_ble_eq_true rfl) ?_
    show rn fx 4 (0, 0) 223 9 [some (.inr (.inr (some 53))), some (.inl s), none, none, none] [.inl (((may (nv ((mu m 53 0 0) 54)) : Nat) : Int))] (st0 (mu m 53 0 0)) o
    refine r_sto (pc' := 10) (ls' := [some (.inr (.inr (some 53))), some (.inl s), some (.inl (((may (nv ((mu m 53 0 0) 54)) : Nat) : Int))), none, none]) hM_223 d_223_9 rfl rfl ?_
    refine r_ld (pc' := 11) hM_223 d_223_10 rfl rfl ?_
    refine r_ld (pc' := 12) hM_223 d_223_11 rfl rfl ?_
    refine r_k (pc' := 13) (v := .inl (-1)) hM_223 d_223_12 rfl rfl ?_
    refine r_b (pc' := 14) (z := (am_xor (((may (nv ((mu m 53 0 0) 54)) : Nat) : Int)) (-1))) hM_223 d_223_13 rfl rfl ?_
    refine r_b (pc' := 15) (z := (am_and s (am_xor (((may (nv ((mu m 53 0 0) 54)) : Nat) : Int)) (-1)))) hM_223 d_223_14 rfl rfl ?_
    exact hk
  refine ok_if (pc' := 21) (pc2 := 18) hM_223 d_223_15 (by decide) rfl (fun hz2 => ?_) (fun hz2 => ?_)
  · have H := H.1 hz2
    refine ok_sg (pc' := 26) (ls' := [some (.inr (.inr (some 53))), some (.inl s), some (.inl (((may (nv ((mu m 53 0 0) 54)) : Nat) : Int))), some (.inl 0), some (.inl 0)]) (st' := []) (m' := mu m 53 0 0) (fun fx hfx o hk => ?_) ?_
    · refine r_k (pc' := 22) (v := .inl 0) hM_223 d_223_21 rfl rfl ?_
      refine r_sto (pc' := 23) (ls' := [some (.inr (.inr (some 53))), some (.inl s), some (.inl (((may (nv ((mu m 53 0 0) 54)) : Nat) : Int))), some (.inl 0), none]) hM_223 d_223_22 rfl rfl ?_
      refine r_k (pc' := 24) (v := .inl 0) hM_223 d_223_23 rfl rfl ?_
      refine r_sto (pc' := 26) (ls' := [some (.inr (.inr (some 53))), some (.inl s), some (.inl (((may (nv ((mu m 53 0 0) 54)) : Nat) : Int))), some (.inl 0), some (.inl 0)]) hM_223 d_223_24 rfl rfl ?_
      exact hk
    exact H
  · have H := H.2 hz2
    refine ok_sg (pc' := 20) (ls' := [some (.inr (.inr (some 53))), some (.inl s), some (.inl (((may (nv ((mu m 53 0 0) 54)) : Nat) : Int))), none, none]) (st' := [.inl (-3)]) (m' := mu m 53 0 0) (fun fx hfx o hk => ?_) ?_
    · refine r_k (pc' := 20) (v := .inl (-3)) hM_223 d_223_18 rfl rfl ?_
      exact hk
    exact ok_rt (fun fx _ => rt_i hM_223 d_223_20 rfl) H
theorem lkq_t {g : Nat → Int} {s t : Nat} : lkq g s t = true ↔ sb (may g) t ∧ unl g s t (g 0).toNat = 0 := by
  unfold lkq
  rw [Bool.and_eq_true, decide_eq_true_eq, unl_0]
theorem P_alike {m : am_M} {s : Int} (hs : am_s s = s) (hI : Inv m) : PK 102 2 223 5 [.inl s] m := by
  have hw := Inv_wf hI
  have hwv := Inv_vw hI
  have hN := hw.1
  have hF := may_lt (g := nv (m 54)) (nv0_le hw)
  by_cases c : 0 ≤ s ∧ s.toNat &&& may (nv (m 54)) = s.toNat
  · obtain ⟨S, rfl⟩ : ∃ S : Nat, s = (S : Int) := ⟨s.toNat, by omega⟩
    have c' := c
    rw [Int.toNat_natCast] at c'
    have hle := sub_le c'.2
    refine PK_2 (h1 := 5) (h2 := 4) (v := .inl ((cf (lkq (nv (m 54)) S) (may (nv (m 54)) + 1) : Nat) : Int)) (R := fun m1 => kpC m m1) ?_ ?_ (by decide) (by decide)
    · refine u_102_0 ?_
      rw [hs, Inv_nv hI]
      refine ⟨hwv, fun q => absurd c q, fun _ => ⟨⟨hwv, by omega, by omega⟩, fun m1 h => ⟨by rw [Int.toNat_natCast], fun a k hc => ?_⟩⟩⟩
      unfold core at hc
      exact h a k (by omega) (by omega) (by omega)
    · intro m1 hk
      obtain ⟨w1, w2, w3, w4, w5, w6, w7⟩ := mod_pre (a := 0) hI hk
      have w0 : (mu m1 53 0 0) 54 0 = m 54 0 := w7 54 0 (by unfold core; omega)
      refine u_223_0 ?_
      generalize mu m1 53 0 0 = m2 at *
      rw [w4, bx_sub (by omega), hs]
      refine ⟨w1, fun _ => ?_, fun q => absurd c q⟩
      generalize hFv : may (nv (m 54)) = F at *
      refine ok_for (σ := Unit) (fun t _ => [some (.inr (.inr (some 53))), some (.inl (S : Int)), some (.inl (F : Int)), some (.inl ((cf (lkq (nv (m 54)) S) t : Nat) : Int)), some (.inl (t : Int))]) (fun t _ M => M = m2) (F + 1) ?_ ?_ () m2 rfl
      · rintro t ht - M rfl IH
        have hul := unl_lt (nv (m 54)) S t (m 54 0).toNat
        have hpw : 2 ^ (m 54 0).toNat ≤ 2 ^ 12 := Nat.pow_le_pow_right (by decide) (by omega)
        refine u_223_26 ?_
        rw [am_s_id (z := (F : Int)) (by omega) (by omega), bx_sub (by omega), am_s_id (z := (t : Int)) (by omega) (by omega), Int.toNat_natCast, Int.toNat_natCast, w4, w0, am_s_id (z := ((unl (nv (m 54)) S t (m 54 0).toNat : Nat) : Int)) (by omega) (by omega)]
        have := IH () M rfl
        rw [cf_s] at this
        refine ⟨fun q => by omega, fun _ => ⟨fun q => ?_, fun q => ⟨⟨w1, by omega, by omega⟩, ?_⟩⟩⟩
        · rw [if_neg (fun k => q ⟨by omega, by rw [← hFv]; exact (lkq_t.mp k).1⟩)] at this
          exact this
        · intro mx hmx y hy
          obtain rfl := hmx.symm
          by_cases q2 : unl (nv (m 54)) S t (m 54 0).toNat = 0
          · rw [if_pos (lkq_t.mpr ⟨by rw [hFv]; exact q.2, by rw [nv0]; exact q2⟩)] at this
            rw [hy, if_neg (by omega)]
            exact this
          · rw [if_neg (fun k => q2 (by have := (lkq_t.mp k).2; rw [nv0] at this; exact this))] at this
            rw [hy, if_pos (by omega)]
            exact this
      · rintro - M rfl
        refine u_223_26 ?_
        rw [am_s_id (z := (F : Int)) (by omega) (by omega), am_s_id (z := ((F + 1 : Nat) : Int)) (by omega) (by omega)]
        exact ⟨fun _ => ⟨rfl, w6⟩, fun q => by omega⟩
  · refine PK_2 (h1 := 5) (h2 := 4) (v := .inl (-3)) (R := fun m1 => m = m1) ?_ ?_ (by decide) (by decide)
    · refine u_102_0 ?_
      rw [hs, Inv_nv hI]
      exact ⟨hwv, fun _ => ⟨rfl, rfl⟩, fun q => absurd q c⟩
    · rintro _ rfl
      refine u_223_0 ?_
      rw [mu54, bx_sub (by omega), hs]
      exact ⟨hw, fun q => absurd q c, fun _ => ⟨rfl, Inv_t hI⟩⟩
