theorem u_230_13 {Q : List am_V → am_M → Prop} {m : am_M} {b : Int} {p : Int}  (H : ((am_s (m 54 0) ≤ am_s p) → Q [.inl 1] m) ∧ ((¬ (am_s (m 54 0) ≤ am_s p)) → (0 ≤ am_s (8 + p) ∧ am_s (8 + p) < (168 : Nat)) ∧ (((am_s (m 54 ((am_s (8 + p)).toNat)) = 0) → ((¬ am_s (m 53 27) = 5) → (0 ≤ am_s (m 53 27) ∧ am_s (m 53 27) < (5 : Nat)) ∧ (((0 ≤ b ∧ b < 2147483648) ∧ 0 ≤ p ∧ p < 12) ∧ (∀ y1 : Int, y1 = (if am_s (bsd b.toNat p.toNat) ≤ 0 then 1 else 2) → ok 2 230 13 [some (.inr (.inr (some 53))), some (.inl b), some (.inl (p + 1))] [] (mu (mu (mu m 63 ((am_s (m 53 27)).toNat) p) 64 ((am_s (m 53 27)).toNat) y1) 53 27 ((m 53 27) + 1)) Q))) ∧ ((am_s (m 53 27) = 5) → Q [.inl 0] m)) ∧ ((¬ (am_s (m 54 ((am_s (8 + p)).toNat)) = 0)) → ok 2 230 13 [some (.inr (.inr (some 53))), some (.inl b), some (.inl (p + 1))] [] m Q)))) : ok 2 230 13 [some (.inr (.inr (some 53))), some (.inl b), some (.inl p)] [] m Q := by
  refine ok_sg (pc' := 20) (ls' := [some (.inr (.inr (some 53))), some (.inl b), some (.inl p)]) (st' := [.inl (m 54 0), .inl p]) (m' := m) (fun fx hfx o hk => ?_) ?_
  · refine r_ld (pc' := 14) hM_230 d_230_13 rfl rfl ?_
    refine r_ld (pc' := 15) hM_230 d_230_14 rfl rfl ?_
    refine r_gR (pc' := 18) (v := 54) hM_230 d_230_15 rfl (by decide +kernel) ?_
    refine r_k (pc' := 19) (v := .inl 0) hM_230 d_230_18 rfl rfl ?_
    refine r_iae (pc' := 20) (n := 168) (z := (m 54 0)) hM_230 d_230_19 rfl rfl (by decide) (by rw [show (am_s 0).toNat = 0 by decide]) ?_
    exact hk
  refine ok_ic (pc' := 96) (pc2 := 23) hM_230 d_230_20 (by decide) rfl (fun hz1 => ?_) (fun hz1 => ?_)
  · have H := H.1 hz1
    refine ok_sg (pc' := 97) (ls' := [some (.inr (.inr (some 53))), some (.inl b), some (.inl p)]) (st' := [.inl 1]) (m' := m) (fun fx hfx o hk => ?_) ?_
    · refine r_k (pc' := 97) (v := .inl 1) hM_230 d_230_96 rfl rfl ?_
      exact hk
    exact ok_rt (fun fx _ => rt_z hM_230 d_230_97 rfl (by decide)) H
  · have H := H.2 hz1
    obtain ⟨hz2, H⟩ := H
    refine ok_sg (pc' := 32) (ls' := [some (.inr (.inr (some 53))), some (.inl b), some (.inl p)]) (st' := [.inl (m 54 ((am_s (8 + p)).toNat))]) (m' := m) (fun fx hfx o hk => ?_) ?_
    · refine r_ld (pc' := 24) hM_230 d_230_23 rfl rfl ?_
      refine r_gR (pc' := 27) (v := 54) hM_230 d_230_24 rfl (by decide +kernel) ?_
      refine r_k (pc' := 29) (v := .inl 8) hM_230 d_230_27 rfl rfl ?_
      refine r_ld (pc' := 30) hM_230 d_230_29 rfl rfl ?_
      refine r_b (pc' := 31) (z := (8 + p)) hM_230 d_230_30 rfl rfl ?_
      refine r_ia (pc' := 32) (n := 168) hM_230 d_230_31 rfl rfl hz2 ?_
      exact hk
    refine ok_if (pc' := 38) (pc2 := 35) hM_230 d_230_32 (by decide) rfl (fun hz3 => ?_) (fun hz3 => ?_)
    · have H := H.1 hz3
      refine ok_sg (pc' := 43) (ls' := [some (.inr (.inr (some 53))), some (.inl b), some (.inl p)]) (st' := [.inl 5, .inl (m 53 27)]) (m' := m) (fun fx hfx o hk => ?_) ?_
      · refine r_ld (pc' := 39) hM_230 d_230_38 rfl rfl ?_
        refine r_gI (pc' := 42) (k0 := 27) hM_230 d_230_39 rfl (by decide +kernel) ?_
        refine r_k (pc' := 43) (v := .inl 5) hM_230 d_230_42 rfl rfl ?_
        exact hk
      refine ok_ic (pc' := 48) (pc2 := 46) hM_230 d_230_43 (by decide) rfl (fun hz4 => ?_) (fun hz4 => ?_)
      · have H := H.1 hz4
        obtain ⟨hz5, H⟩ := H
        obtain ⟨hz6, H⟩ := H
        refine ok_sg (pc' := 71) (ls' := [some (.inr (.inr (some 53))), some (.inl b), some (.inl p)]) (st' := [.inl (bsd b.toNat p.toNat), .inl (m 53 27), .inr (.inr (some 64))]) (m' := mu m 63 ((am_s (m 53 27)).toNat) p) (fun fx hfx o hk => ?_) ?_
        · refine r_ld (pc' := 49) hM_230 d_230_48 rfl rfl ?_
          refine r_gR (pc' := 52) (v := 63) hM_230 d_230_49 rfl (by decide +kernel) ?_
          refine r_ld (pc' := 53) hM_230 d_230_52 rfl rfl ?_
          refine r_gI (pc' := 56) (k0 := 27) hM_230 d_230_53 rfl (by decide +kernel) ?_
          refine r_ld (pc' := 57) hM_230 d_230_56 rfl rfl ?_
          refine r_is (pc' := 58) (n := 5) hM_230 d_230_57 rfl rfl hz5 ?_
          refine r_ld (pc' := 59) hM_230 d_230_58 rfl rfl ?_
          refine r_gR (pc' := 62) (v := 64) hM_230 d_230_59 rfl (by decide +kernel) ?_
          refine r_ld (pc' := 63) hM_230 d_230_62 rfl rfl ?_
          refine r_gIe (pc' := 66) (k0 := 27) (z := (m 53 27)) hM_230 d_230_63 rfl (by decide +kernel) (mu_r (by decide)) ?_
          refine r_ld (pc' := 67) hM_230 d_230_66 rfl rfl ?_
          refine r_ld (pc' := 68) hM_230 d_230_67 rfl rfl ?_
          refine r_cl (pc' := 71) (c := (196, 2)) (a := [.inl b, .inl p]) (q := [.inl (m 53 27), .inr (.inr (some 64))]) hM_230 d_230_68 rfl (by decide +kernel) hM_196 rfl rfl rfl (Nat.le_of_ble_eq_true rfl) (Nat.le_of_ble_eq_true rfl) (Or.inl rfl) (n_196  (mu m 63 ((am_s (m 53 27)).toNat) p) b p hz6) (Nat.le_of_ble_eq_true rfl) ?_
          show rn fx 2 (0, 0) 230 71 [some (.inr (.inr (some 53))), some (.inl b), some (.inl p)] [.inl (bsd b.toNat p.toNat), .inl (m 53 27), .inr (.inr (some 64))] (st0 (mu m 63 ((am_s (m 53 27)).toNat) p)) o
          exact hk
        refine ok_sg (pc' := 79) (ls' := [some (.inr (.inr (some 53))), some (.inl b), some (.inl p)]) (st' := [.inl (if am_s (bsd b.toNat p.toNat) ≤ 0 then 1 else 2), .inl (m 53 27), .inr (.inr (some 64))]) (m' := mu m 63 ((am_s (m 53 27)).toNat) p) (fun fx hfx o K => ?_) ?_
        · refine r_if (pc' := 78) (pc2 := 74) hM_230 d_230_71 (by decide) rfl (fun hz7 => ?_) (fun hz7 => ?_)
          · have hz7 : am_s (bsd b.toNat p.toNat) ≤ 0 := hz7
            rw [if_pos hz7] at K
            refine r_k (pc' := 79) (v := .inl 1) hM_230 d_230_78 rfl rfl ?_
            exact K
          · have hz7 : ¬ (am_s (bsd b.toNat p.toNat) ≤ 0) := hz7
            rw [if_neg hz7] at K
            refine r_k (pc' := 75) (v := .inl 2) hM_230 d_230_74 rfl rfl ?_
            refine r_go (pc' := 79) hM_230 d_230_75 (by decide) ?_
            exact K
        have K : ∀ y1 : Int, y1 = (if am_s (bsd b.toNat p.toNat) ≤ 0 then 1 else 2) → ok 2 230 79 [some (.inr (.inr (some 53))), some (.inl b), some (.inl p)] [.inl y1, .inl (m 53 27), .inr (.inr (some 64))] (mu m 63 ((am_s (m 53 27)).toNat) p) Q := by
          intro y1 hy1
          replace H := H y1 hy1
          refine ok_sg (pc' := 13) (ls' := [some (.inr (.inr (some 53))), some (.inl b), some (.inl (p + 1))]) (st' := []) (m' := mu (mu (mu m 63 ((am_s (m 53 27)).toNat) p) 64 ((am_s (m 53 27)).toNat) y1) 53 27 ((m 53 27) + 1)) (fun fx hfx o hk => ?_) ?_
          · refine r_is (pc' := 80) (n := 5) hM_230 d_230_79 rfl rfl hz5 ?_
            refine r_ld (pc' := 81) hM_230 d_230_80 rfl rfl ?_
            refine r_stk (pc' := 82) (st' := [.inr (.inr (some 53)), .inr (.inr (some 53))]) hM_230 d_230_81 rfl rfl ?_
            refine r_gIe (pc' := 85) (k0 := 27) (z := (m 53 27)) hM_230 d_230_82 rfl (by decide +kernel) ((mu_r (by decide)).trans (mu_r (by decide))) ?_
            refine r_k (pc' := 86) (v := .inl 1) hM_230 d_230_85 rfl rfl ?_
            refine r_b (pc' := 87) (z := ((m 53 27) + 1)) hM_230 d_230_86 rfl rfl ?_
            refine r_pI (pc' := 90) (k0 := 27) hM_230 d_230_87 rfl (by decide +kernel) ?_
            refine r_sto (pc' := 93) (ls' := [some (.inr (.inr (some 53))), some (.inl b), some (.inl (p + 1))]) hM_230 d_230_90 rfl rfl ?_
            refine r_go (pc' := 13) hM_230 d_230_93 (by decide) ?_
            exact hk
          exact H
        exact K _ rfl
      · have H := H.2 (Decidable.not_not.mp hz4)
        refine ok_sg (pc' := 47) (ls' := [some (.inr (.inr (some 53))), some (.inl b), some (.inl p)]) (st' := [.inl 0]) (m' := m) (fun fx hfx o hk => ?_) ?_
        · refine r_k (pc' := 47) (v := .inl 0) hM_230 d_230_46 rfl rfl ?_
          exact hk
        exact ok_rt (fun fx _ => rt_z hM_230 d_230_47 rfl (by decide)) H
    · have H := H.2 hz3
      refine ok_sg (pc' := 13) (ls' := [some (.inr (.inr (some 53))), some (.inl b), some (.inl (p + 1))]) (st' := []) (m' := m) (fun fx hfx o hk => ?_) ?_
      · refine r_go (pc' := 90) hM_230 d_230_35 (by decide) ?_
        refine r_sto (pc' := 93) (ls' := [some (.inr (.inr (some 53))), some (.inl b), some (.inl (p + 1))]) hM_230 d_230_90 rfl rfl ?_
        refine r_go (pc' := 13) hM_230 d_230_93 (by decide) ?_
        exact hk
      exact H
theorem u_230_0 {Q : List am_V → am_M → Prop} {m : am_M}   (H : (WFG ((mu m 53 27 0) 54)) ∧ (ok 2 230 13 [some (.inr (.inr (some 53))), some (.inl (((ons (nv ((mu m 53 27 0) 54)) (am_s 1) : Nat) : Int))), some (.inl 0)] [] (mu m 53 27 0) Q)) : ok 2 230 0 [some (.inr (.inr (some 53))), none, none] [] m Q := by
  obtain ⟨hz1, H⟩ := H
  refine ok_sg (pc' := 13) (ls' := [some (.inr (.inr (some 53))), some (.inl (((ons (nv ((mu m 53 27 0) 54)) (am_s 1) : Nat) : Int))), some (.inl 0)]) (st' := []) (m' := mu m 53 27 0) (fun fx hfx o hk => ?_) ?_
  · refine r_ld (pc' := 1) hM_230 d_230_0 rfl rfl ?_
    refine r_k (pc' := 2) (v := .inl 0) hM_230 d_230_1 rfl rfl ?_
    refine r_pI (pc' := 5) (k0 := 27) hM_230 d_230_2 rfl (by decide +kernel) ?_
    refine r_ld (pc' := 6) hM_230 d_230_5 rfl rfl ?_
    refine r_k (pc' := 7) (v := .inl 1) hM_230 d_230_6 rfl rfl ?_
    refine r_cl (pc' := 10) (c := (192, 0)) (a := [.inr (.inr (some 53)), .inl 1]) (q := []) hM_230 d_230_7 rfl (by decide +kernel) hM_192 rfl rfl rfl (Nat.le_of_ble_eq_true rfl) (Nat.le_of_ble_eq_true rfl) (Or.inr rfl) (c_192  (mu m 53 27 0) 1 hz1) (Nat.le_of_ble_eq_true rfl) ?_
    show rn fx 2 (0, 0) 230 10 [some (.inr (.inr (some 53))), none, none] [.inl (((ons (nv ((mu m 53 27 0) 54)) (am_s 1) : Nat) : Int))] (st0 (mu m 53 27 0)) o
    refine r_sto (pc' := 11) (ls' := [some (.inr (.inr (some 53))), some (.inl (((ons (nv ((mu m 53 27 0) 54)) (am_s 1) : Nat) : Int))), none]) hM_230 d_230_10 rfl rfl ?_
    refine r_k (pc' := 12) (v := .inl 0) hM_230 d_230_11 rfl rfl ?_
    refine r_sto (pc' := 13) (ls' := [some (.inr (.inr (some 53))), some (.inl (((ons (nv ((mu m 53 27 0) 54)) (am_s 1) : Nat) : Int))), some (.inl 0)]) hM_230 d_230_12 rfl rfl ?_
    exact hk
  exact H
theorem z_230   (m : am_M)  (hq : WFG (m 54)) : ok 2 230 0 (am_ent 3 [.inr (.inr (some 53))]) [] m (fun rr m' => rr = [.inl ((if SN (nv (m 54)) ≤ 5 then 1 else 0))] ∧ (SN (nv (m 54)) ≤ 5 → MFW (nv (m 54)) m') ∧ (∀ a, a ≠ 53 → a ≠ 63 → a ≠ 64 → m' a = m a) ∧ ∀ k, k ≠ 27 → m' 53 k = m 53 k) := by
  show ok 2 230 0 [some (.inr (.inr (some 53))), none, none] [] m _
  have hN := hq.1
  have hwn := WFG_nv hq
  obtain ⟨N, hNv⟩ : ∃ N : Nat, m 54 0 = (N : Int) := ⟨(m 54 0).toNat, by omega⟩
  have eg0 : (nv (m 54) 0).toNat = N := by rw [nv0, hNv, Int.toNat_natCast]
  have eN : am_s (m 54 0) = (N : Int) := by rw [hNv]; exact am_s_id (by omega) (by omega)
  have hK : ∀ p : Nat, p < N → m 54 (8 + p) = nv (m 54) (8 + p) := fun p hp => (nv_pl (by omega) (by omega) (by omega)).symm
  have h5 : m 54 5 = nv (m 54) 5 := (nv_lo (by decide)).symm
  have h4 : m 54 4 = nv (m 54) 4 := (nv_lo (by decide)).symm
  have hB : ons (nv (m 54)) 1 < 4096 := ons_lt (nv0_le hq)
  refine u_230_0 ?_
  rw [mu_rf (show (54 : Nat) ≠ 53 by decide)]
  refine ⟨hq, ?_⟩
  rw [show am_s 1 = 1 from rfl]
  generalize nv (m 54) = g at *
  have hSN : SN g = cf (sdp g) N := by unfold SN; rw [eg0]
  refine ok_for (σ := Unit) (fun p _ => [some (.inr (.inr (some 53))), some (.inl ((ons g 1 : Nat) : Int)), some (.inl (p : Int))]) (fun p _ M => cf (sdp g) p ≤ 5 ∧ M 53 27 = ((cf (sdp g) p : Nat) : Int) ∧ (∀ j, j < cf (sdp g) p → M 63 j = ((ksp g j : Nat) : Int) ∧ M 64 j = ((kpa g (ksp g j) : Nat) : Int)) ∧ (∀ a, a ≠ 53 → a ≠ 63 → a ≠ 64 → M a = m a) ∧ ∀ k, k ≠ 27 → M 53 k = m 53 k) N ?_ ?_ () _ ⟨Nat.zero_le _, mu_same, fun j h => absurd h (Nat.not_lt_zero _), fun a q1 _ _ => mu_rf q1, fun k hk => mu_k hk⟩
  · rintro p hp - M ⟨h0, h1, h7, h8, h9⟩ IH
    have e54 : M 54 = m 54 := h8 54 (by decide) (by decide) (by decide)
    have hk := hwn.2.1 p (by omega)
    have hst := cf_s (Q := sdp g) (t := p)
    have hbr := bsd_rng (ons g 1) p
    refine u_230_13 ?_
    rw [e54, eN, am_s_id (z := (p : Int)) (by omega) (by omega), am_s_id (z := 8 + (p : Int)) (by omega) (by omega), show (8 + (p : Int)).toNat = 8 + p by omega, hK p hp, am_s_id (z := g (8 + p)) (by omega) (by omega), h1, am_s_id (z := ((cf (sdp g) p : Nat) : Int)) (by omega) (by omega), Int.toNat_natCast, Int.toNat_natCast, Int.toNat_natCast, am_s_id (z := bsd (ons g 1) p) (by omega) (by omega)]
    refine ⟨fun q => by omega, fun _ => ⟨⟨by omega, by omega⟩, fun q => ⟨fun q2 => ⟨⟨by omega, by omega⟩, ⟨⟨by omega, by omega⟩, by omega, by omega⟩, fun y1 hy => ?_⟩, fun q2 => ?_⟩, fun q => ?_⟩⟩
    · have hng : sdp g p = true := decide_eq_true q
      have hrk := ksp_rk (g := g) (p := p) (by omega) hng
      rw [if_pos hng] at hst
      have hy2 : y1 = ((kpa g p : Nat) : Int) := by
        rw [hy]
        unfold kpa
        by_cases hb : nb (ons g 1) p = true
        · have := bsd_nb.mpr hb
          rw [if_neg (by omega), if_pos hb]; rfl
        · have : ¬ 0 < bsd (ons g 1) p := fun z => hb (bsd_nb.mp z)
          rw [if_pos (by omega), if_neg hb]; rfl
      refine IH () _ ⟨by omega, by rw [mu_same, hst]; rfl, fun j hj => ?_, fun a q1 q3 q4 => by rw [mu_rf q1, mu_rf q4, mu_rf q3]; exact h8 a q1 q3 q4, fun k hk => by rw [mu_k hk, mu_r (by decide), mu_r (by decide)]; exact h9 k hk⟩
      rw [mu_r (show (63 : Nat) ≠ 53 by decide), mu_r (show (63 : Nat) ≠ 64 by decide), mu_r (show (64 : Nat) ≠ 53 by decide), mu_if, mu_if, mu_r (show (64 : Nat) ≠ 63 by decide)]
      by_cases hh : j = cf (sdp g) p
      · rw [if_pos hh, if_pos hh, hh, hrk, hy2]
        exact ⟨rfl, rfl⟩
      · rw [if_neg hh, if_neg hh]
        exact h7 j (by omega)
    · have hng : sdp g p = true := decide_eq_true q
      rw [if_pos hng] at hst
      have hm := cf_mono (Q := sdp g) (show p + 1 ≤ N by omega)
      exact ⟨by rw [if_neg (by omega)], fun q3 => by omega, h8, h9⟩
    · have hng : ¬ sdp g p = true := fun k => q (of_decide_eq_true k)
      rw [if_neg hng] at hst
      exact IH () M ⟨by omega, by rw [hst]; exact h1, fun j hj => h7 j (by omega), h8, h9⟩
  · rintro - M ⟨h0, h1, h7, h8, h9⟩
    have e54 : M 54 = m 54 := h8 54 (by decide) (by decide) (by decide)
    refine u_230_13 ?_
    rw [e54, eN, am_s_id (z := (N : Int)) (by omega) (by omega)]
    rw [← hSN] at h0 h1 h7
    exact ⟨fun _ => ⟨by rw [if_pos h0], fun _ => ⟨h0, h1, h7, by rw [e54]; exact h5, by rw [e54]; exact h4, hwn⟩, h8, h9⟩, fun q => by omega⟩
theorem ks7_rng {a : Nat → Int} : ∀ n, (∀ j, j < n → 0 ≤ a j ∧ a j ≤ 6) → 0 ≤ ks7 a n ∧ ks7 a n < ((7 ^ n : Nat) : Int) := by
  intro n
  induction n with
  | zero => intro _; exact ⟨Int.le_refl _, by show (0 : Int) < ((7 ^ 0 : Nat) : Int); decide⟩
  | succ n ih =>
    intro h
    have h1 := ih fun j hj => h j (by omega)
    have h2 := h n (by omega)
    have e : ((7 ^ (n + 1) : Nat) : Int) = ((7 ^ n : Nat) : Int) * 7 := by rw [Nat.pow_succ, Int.natCast_mul]; rfl
    show 0 ≤ ks7 a n + a n * ((7 ^ n : Nat) : Int) ∧ ks7 a n + a n * ((7 ^ n : Nat) : Int) < _
    rw [e]
    have hp : (0 : Int) ≤ ((7 ^ n : Nat) : Int) := Int.natCast_nonneg _
    generalize ((7 ^ n : Nat) : Int) = x at h1 hp ⊢
    have a1 : 0 ≤ a n * x := Int.mul_nonneg h2.1 hp
    have a2 : a n * x ≤ 6 * x := Int.mul_le_mul_of_nonneg_right h2.2 hp
    omega
def KTF (g : Nat → Int) (m : am_M) (D : Nat) : Prop := ∀ a : Nat → Int, (∀ j, j < SN g → 0 ≤ a j ∧ a j ≤ 6) → m 66 (16807 * D + (ks7 a (SN g)).toNat) = kmc 99 (SN g) (kf0 g) (g 4).toNat D (kwa g a)
def KLQ (n : Nat) (F : Nat → Nat) (H d : Nat) (w : Nat → Nat) (i : Nat) (b : Int) : Prop := KLS 99 n H d w (fun s => s < i) (fun s => kmc 99 n F H d (ktp F s w)) b
theorem KLQ_0 {n : Nat} {F : Nat → Nat} {H d : Nat} {w : Nat → Nat} : KLQ n F H d w 0 99 := ⟨fun s h => absurd h (Nat.not_lt_zero _), by decide, Or.inl rfl⟩
theorem KLQ_skip {n : Nat} {F : Nat → Nat} {H d : Nat} {w : Nat → Nat} {i : Nat} {b : Int} (h : KLQ n F H d w i b) (hg : (cnt i 12 ≤ H ∧ kgo n w i) → b ≤ ((cnt i 12 : Nat) : Int) + kmc 99 n F H d (ktp F i w)) : KLQ n F H d w (i + 1) b := by
  obtain ⟨h1, h2, h3⟩ := h
  refine ⟨fun s hs q1 q2 => ?_, h2, ?_⟩
  · have hs : s < i + 1 := hs
    by_cases hh : s = i
    · rw [hh] at q1 q2 ⊢
      exact hg ⟨q1, q2⟩
    · exact h1 s (show s < i by omega) q1 q2
  · rcases h3 with h3 | ⟨s, q1, q2⟩
    · exact Or.inl h3
    · have q1 : s < i := q1
      exact Or.inr ⟨s, show s < i + 1 by omega, q2⟩
theorem KLQ_min {n : Nat} {F : Nat → Nat} {H d : Nat} {w : Nat → Nat} {i : Nat} {b : Int} (h : KLQ n F H d w i b) (q1 : cnt i 12 ≤ H) (q2 : kgo n w i) : KLQ n F H d w (i + 1) (min b (((cnt i 12 : Nat) : Int) + kmc 99 n F H d (ktp F i w))) := by
  by_cases hc : b ≤ ((cnt i 12 : Nat) : Int) + kmc 99 n F H d (ktp F i w)
  · rw [Int.min_eq_left hc]
    exact KLQ_skip h fun _ => hc
  · rw [Int.min_eq_right (by omega)]
    obtain ⟨h1, h2, h3⟩ := h
    refine ⟨fun s hs z1 z2 => ?_, by omega, Or.inr ⟨i, show i < i + 1 by omega, q1, q2, rfl⟩⟩
    have hs : s < i + 1 := hs
    by_cases hh : s = i
    · rw [hh]; exact Int.le_refl _
    · have := h1 s (show s < i by omega) z1 z2
      omega
theorem KLQ_rng {n : Nat} {F : Nat → Nat} {H d : Nat} {w : Nat → Nat} {i : Nat} {b : Int} (hn : n ≤ 5) (hd : d ≤ 8) (h : KLQ n F H d w i b) : 0 ≤ b ∧ b ≤ 99 := by
  obtain ⟨h1, h2, h3⟩ := h
  refine ⟨?_, h2⟩
  rcases h3 with h3 | ⟨s, -, -, -, q⟩
  · omega
  · have := (kmc_rng (c := 99) (F := F) (H := H) (w := ktp F s w) hn hd (by decide)).1
    have q : b = ((cnt s 12 : Nat) : Int) + kmc 99 n F H d (ktp F s w) := q
    omega
/-- where a day leads to -/
theorem kan_6 {g : Nat → Int} {C : Nat} {a : Nat → Int} (hg : WFG g) (ha : ∀ j, j < SN g → 0 ≤ a j ∧ a j ≤ 99) (hgo : kgo (SN g) (kwa g a) C) : ∀ j, j < SN g → 0 ≤ kan g C a j ∧ kan g C a j ≤ 6 := by
  intro j hj
  have w5 := hg.2.2.2.2.2.2.2.2.1
  have := ha j hj
  unfold kan
  cases hb : C.testBit j
  · have := (kgo_a (ha j hj).1).mp (hgo j hj hb)
    rw [if_neg (by decide)]
    omega
  · rw [if_pos rfl]; omega
theorem kan_mc {g : Nat → Int} {C : Nat} {a : Nat → Int} {c H d : Nat} (hg : WFG g) (hn : SN g ≤ 5) (hd : d ≤ 8) (hc : 61 ≤ c) (ha : ∀ j, j < SN g → 0 ≤ a j ∧ a j ≤ 99) : kmc c (SN g) (kf0 g) H d (kwa g (kan g C a)) = kmc c (SN g) (kf0 g) H d (ktp (kf0 g) C (kwa g a)) :=
  kmc_cap hn hd hc fun k hk => by
    have w5 := hg.2.2.2.2.2.2.2.2.1
    rw [kan_w (ha k hk).1 (by omega)]
theorem u_234_5 {Q : List am_V → am_M → Prop} {m : am_M} {d : Int} {b : Int} {s : Int}  (H : ((am_s (am_shl 1 (m 53 27)) ≤ am_s s) → Q [.inl b] m) ∧ ((¬ (am_s (am_shl 1 (m 53 27)) ≤ am_s s)) → (0 ≤ (am_s s) ∧ (am_s s) < 2147483648) ∧ (((am_s (((cnt (am_s s).toNat 12 : Nat) : Int)) ≤ am_s (m 54 4)) → (MFW (nv (m 54)) m ∧ (0 ≤ s ∧ s < 32) ∧ ∀ j, j < SN (nv (m 54)) → 0 ≤ m 65 j ∧ m 65 j ≤ 99) ∧ (∀ (v1 : Int) (m1 : am_M), (m1 = m ∧ ((kgo (SN (nv (m 54))) (kwa (nv (m 54)) (m 65)) s.toNat ∧ v1 = ks7 (kan (nv (m 54)) s.toNat (m 65)) (SN (nv (m 54)))) ∨ (¬ kgo (SN (nv (m 54))) (kwa (nv (m 54)) (m 65)) s.toNat ∧ v1 = -1))) → ((¬ am_s v1 = (-1)) → (0 ≤ am_s ((16807 * (d - 1)) + v1) ∧ am_s ((16807 * (d - 1)) + v1) < (134456 : Nat)) ∧ (∀ y1 : Int, y1 = (if am_s b ≤ am_s ((((cnt (am_s s).toNat 12 : Nat) : Int)) + (m1 66 ((am_s ((16807 * (d - 1)) + v1)).toNat))) then b else ((((cnt (am_s s).toNat 12 : Nat) : Int)) + (m1 66 ((am_s ((16807 * (d - 1)) + v1)).toNat)))) → ok 2 234 5 [some (.inr (.inr (some 53))), some (.inl d), some (.inl y1), some (.inl (s + 1)), none, none] [] m1 Q)) ∧ ((am_s v1 = (-1)) → ok 2 234 5 [some (.inr (.inr (some 53))), some (.inl d), some (.inl b), some (.inl (s + 1)), none, none] [] m1 Q))) ∧ ((¬ (am_s (((cnt (am_s s).toNat 12 : Nat) : Int)) ≤ am_s (m 54 4))) → ok 2 234 5 [some (.inr (.inr (some 53))), some (.inl d), some (.inl b), some (.inl (s + 1)), none, none] [] m Q)))) : ok 2 234 5 [some (.inr (.inr (some 53))), some (.inl d), some (.inl b), some (.inl s), none, none] [] m Q := by
  refine ok_sg (pc' := 12) (ls' := [some (.inr (.inr (some 53))), some (.inl d), some (.inl b), some (.inl s), none, none]) (st' := [.inl (am_shl 1 (m 53 27)), .inl s]) (m' := m) (fun fx hfx o hk => ?_) ?_
  · refine r_ld (pc' := 6) hM_234 d_234_5 rfl rfl ?_
    refine r_k (pc' := 7) (v := .inl 1) hM_234 d_234_6 rfl rfl ?_
    refine r_ld (pc' := 8) hM_234 d_234_7 rfl rfl ?_
    refine r_gI (pc' := 11) (k0 := 27) hM_234 d_234_8 rfl (by decide +kernel) ?_
    refine r_b (pc' := 12) (z := (am_shl 1 (m 53 27))) hM_234 d_234_11 rfl rfl ?_
    exact hk
  refine ok_ic (pc' := 90) (pc2 := 15) hM_234 d_234_12 (by decide) rfl (fun hz1 => ?_) (fun hz1 => ?_)
  · have H := H.1 hz1
    refine ok_sg (pc' := 91) (ls' := [some (.inr (.inr (some 53))), some (.inl d), some (.inl b), some (.inl s), none, none]) (st' := [.inl b]) (m' := m) (fun fx hfx o hk => ?_) ?_
    · refine r_ld (pc' := 91) hM_234 d_234_90 rfl rfl ?_
      exact hk
    exact ok_rt (fun fx _ => rt_i hM_234 d_234_91 rfl) H
  · have H := H.2 hz1
    obtain ⟨hz2, H⟩ := H
    refine ok_sg (pc' := 26) (ls' := [some (.inr (.inr (some 53))), some (.inl d), some (.inl b), some (.inl s), none, none]) (st' := [.inl (m 54 4), .inl (((cnt (am_s s).toNat 12 : Nat) : Int))]) (m' := m) (fun fx hfx o hk => ?_) ?_
    · refine r_ld (pc' := 16) hM_234 d_234_15 rfl rfl ?_
      refine r_stk (pc' := 17) (st' := [.inr (.inl (am_s s))]) hM_234 d_234_16 rfl rfl ?_
      refine r_cl (pc' := 20) (c := (193, 2)) (a := [.inr (.inl (am_s s))]) (q := []) hM_234 d_234_17 rfl (by decide +kernel) hM_193 rfl rfl rfl (Nat.le_of_ble_eq_true rfl) (Nat.le_of_ble_eq_true rfl) (Or.inl rfl) (c_193  m (am_s s) hz2) (Nat.le_of_ble_eq_true rfl) ?_
      show rn fx 2 (0, 0) 234 20 [some (.inr (.inr (some 53))), some (.inl d), some (.inl b), some (.inl s), none, none] [.inl (((cnt (am_s s).toNat 12 : Nat) : Int))] (st0 m) o
      refine r_ld (pc' := 21) hM_234 d_234_20 rfl rfl ?_
      refine r_gR (pc' := 24) (v := 54) hM_234 d_234_21 rfl (by decide +kernel) ?_
      refine r_k (pc' := 25) (v := .inl 4) hM_234 d_234_24 rfl rfl ?_
      refine r_iae (pc' := 26) (n := 168) (z := (m 54 4)) hM_234 d_234_25 rfl rfl (by decide) (by rw [show (am_s 4).toNat = 4 by decide]) ?_
      exact hk
    refine ok_ic (pc' := 32) (pc2 := 29) hM_234 d_234_26 (by decide) rfl (fun hz3 => ?_) (fun hz3 => ?_)
    · have H := H.1 hz3
      obtain ⟨hz4, H⟩ := H
      refine ok_sg (pc' := 34) (ls' := [some (.inr (.inr (some 53))), some (.inl d), some (.inl b), some (.inl s), none, none]) (st' := [.inl s, .inr (.inr (some 53))]) (m' := m) (fun fx hfx o hk => ?_) ?_
      · refine r_ld (pc' := 33) hM_234 d_234_32 rfl rfl ?_
        refine r_ld (pc' := 34) hM_234 d_234_33 rfl rfl ?_
        exact hk
      refine ok_cl (pc' := 37) (c := (235, 0)) (a := [.inr (.inr (some 53)), .inl s]) (q := []) hM_234 d_234_34 rfl (by decide +kernel) hM_235 rfl rfl rfl (Nat.le_of_ble_eq_true rfl) (Nat.le_of_ble_eq_true rfl) (Or.inr rfl) (z_235  m s hz4) (Nat.le_of_ble_eq_true rfl) ?_
      rintro _ m1 ⟨v1, rfl, hz5⟩
      replace H := H v1 m1 hz5
      show ok 2 234 37 [some (.inr (.inr (some 53))), some (.inl d), some (.inl b), some (.inl s), none, none] [.inl v1] m1 Q
      refine ok_sg (pc' := 42) (ls' := [some (.inr (.inr (some 53))), some (.inl d), some (.inl b), some (.inl s), some (.inl v1), none]) (st' := [.inl (-1), .inl v1]) (m' := m1) (fun fx hfx o hk => ?_) ?_
      · refine r_sto (pc' := 39) (ls' := [some (.inr (.inr (some 53))), some (.inl d), some (.inl b), some (.inl s), some (.inl v1), none]) hM_234 d_234_37 rfl rfl ?_
        refine r_ld (pc' := 41) hM_234 d_234_39 rfl rfl ?_
        refine r_k (pc' := 42) (v := .inl (-1)) hM_234 d_234_41 rfl rfl ?_
        exact hk
      refine ok_ic (pc' := 48) (pc2 := 45) hM_234 d_234_42 (by decide) rfl (fun hz6 => ?_) (fun hz6 => ?_)
      · have H := H.1 hz6
        obtain ⟨hz7, H⟩ := H
        refine ok_sg (pc' := 74) (ls' := [some (.inr (.inr (some 53))), some (.inl d), some (.inl b), some (.inl s), some (.inl v1), some (.inl ((((cnt (am_s s).toNat 12 : Nat) : Int)) + (m1 66 ((am_s ((16807 * (d - 1)) + v1)).toNat))))]) (st' := [.inl b, .inl ((((cnt (am_s s).toNat 12 : Nat) : Int)) + (m1 66 ((am_s ((16807 * (d - 1)) + v1)).toNat)))]) (m' := m1) (fun fx hfx o hk => ?_) ?_
        · refine r_ld (pc' := 49) hM_234 d_234_48 rfl rfl ?_
          refine r_stk (pc' := 50) (st' := [.inr (.inl (am_s s))]) hM_234 d_234_49 rfl rfl ?_
          refine r_cl (pc' := 53) (c := (193, 2)) (a := [.inr (.inl (am_s s))]) (q := []) hM_234 d_234_50 rfl (by decide +kernel) hM_193 rfl rfl rfl (Nat.le_of_ble_eq_true rfl) (Nat.le_of_ble_eq_true rfl) (Or.inl rfl) (c_193  m1 (am_s s) hz2) (Nat.le_of_ble_eq_true rfl) ?_
          show rn fx 2 (0, 0) 234 53 [some (.inr (.inr (some 53))), some (.inl d), some (.inl b), some (.inl s), some (.inl v1), none] [.inl (((cnt (am_s s).toNat 12 : Nat) : Int))] (st0 m1) o
          refine r_ld (pc' := 54) hM_234 d_234_53 rfl rfl ?_
          refine r_gR (pc' := 57) (v := 66) hM_234 d_234_54 rfl (by decide +kernel) ?_
          refine r_k (pc' := 60) (v := .inl 16807) hM_234 d_234_57 rfl rfl ?_
          refine r_ld (pc' := 61) hM_234 d_234_60 rfl rfl ?_
          refine r_k (pc' := 62) (v := .inl 1) hM_234 d_234_61 rfl rfl ?_
          refine r_b (pc' := 63) (z := (d - 1)) hM_234 d_234_62 rfl rfl ?_
          refine r_b (pc' := 64) (z := (16807 * (d - 1))) hM_234 d_234_63 rfl rfl ?_
          refine r_ld (pc' := 66) hM_234 d_234_64 rfl rfl ?_
          refine r_b (pc' := 67) (z := ((16807 * (d - 1)) + v1)) hM_234 d_234_66 rfl rfl ?_
          refine r_ba (pc' := 68) (n := 134456) hM_234 d_234_67 rfl rfl (by decide) hz7 ?_
          refine r_b (pc' := 69) (z := ((((cnt (am_s s).toNat 12 : Nat) : Int)) + (m1 66 ((am_s ((16807 * (d - 1)) + v1)).toNat)))) hM_234 d_234_68 rfl rfl ?_
          refine r_sto (pc' := 71) (ls' := [some (.inr (.inr (some 53))), some (.inl d), some (.inl b), some (.inl s), some (.inl v1), some (.inl ((((cnt (am_s s).toNat 12 : Nat) : Int)) + (m1 66 ((am_s ((16807 * (d - 1)) + v1)).toNat))))]) hM_234 d_234_69 rfl rfl ?_
          refine r_ld (pc' := 73) hM_234 d_234_71 rfl rfl ?_
          refine r_ld (pc' := 74) hM_234 d_234_73 rfl rfl ?_
          exact hk
        refine ok_sg (pc' := 83) (ls' := [some (.inr (.inr (some 53))), some (.inl d), some (.inl b), some (.inl s), some (.inl v1), some (.inl ((((cnt (am_s s).toNat 12 : Nat) : Int)) + (m1 66 ((am_s ((16807 * (d - 1)) + v1)).toNat))))]) (st' := [.inl (if am_s b ≤ am_s ((((cnt (am_s s).toNat 12 : Nat) : Int)) + (m1 66 ((am_s ((16807 * (d - 1)) + v1)).toNat))) then b else ((((cnt (am_s s).toNat 12 : Nat) : Int)) + (m1 66 ((am_s ((16807 * (d - 1)) + v1)).toNat))))]) (m' := m1) (fun fx hfx o K => ?_) ?_
        · refine r_ic (pc' := 82) (pc2 := 77) hM_234 d_234_74 (by decide) rfl (fun hz8 => ?_) (fun hz8 => ?_)
          · have hz8 : am_s b ≤ am_s ((((cnt (am_s s).toNat 12 : Nat) : Int)) + (m1 66 ((am_s ((16807 * (d - 1)) + v1)).toNat))) := hz8
            rw [if_pos hz8] at K
            refine r_ld (pc' := 83) hM_234 d_234_82 rfl rfl ?_
            exact K
          · have hz8 : ¬ (am_s b ≤ am_s ((((cnt (am_s s).toNat 12 : Nat) : Int)) + (m1 66 ((am_s ((16807 * (d - 1)) + v1)).toNat)))) := hz8
            rw [if_neg hz8] at K
            refine r_ld (pc' := 79) hM_234 d_234_77 rfl rfl ?_
            refine r_go (pc' := 83) hM_234 d_234_79 (by decide) ?_
            exact K
        have K : ∀ y1 : Int, y1 = (if am_s b ≤ am_s ((((cnt (am_s s).toNat 12 : Nat) : Int)) + (m1 66 ((am_s ((16807 * (d - 1)) + v1)).toNat))) then b else ((((cnt (am_s s).toNat 12 : Nat) : Int)) + (m1 66 ((am_s ((16807 * (d - 1)) + v1)).toNat)))) → ok 2 234 83 [some (.inr (.inr (some 53))), some (.inl d), some (.inl b), some (.inl s), some (.inl v1), some (.inl ((((cnt (am_s s).toNat 12 : Nat) : Int)) + (m1 66 ((am_s ((16807 * (d - 1)) + v1)).toNat))))] [.inl y1] m1 Q := by
          intro y1 hy1
          replace H := H y1 hy1
          refine ok_sg (pc' := 5) (ls' := [some (.inr (.inr (some 53))), some (.inl d), some (.inl y1), some (.inl (s + 1)), none, none]) (st' := []) (m' := m1) (fun fx hfx o hk => ?_) ?_
          · refine r_sto (pc' := 84) (ls' := [some (.inr (.inr (some 53))), some (.inl d), some (.inl y1), some (.inl s), some (.inl v1), some (.inl ((((cnt (am_s s).toNat 12 : Nat) : Int)) + (m1 66 ((am_s ((16807 * (d - 1)) + v1)).toNat))))]) hM_234 d_234_83 rfl rfl ?_
            refine r_sto (pc' := 87) (ls' := [some (.inr (.inr (some 53))), some (.inl d), some (.inl y1), some (.inl (s + 1)), some (.inl v1), some (.inl ((((cnt (am_s s).toNat 12 : Nat) : Int)) + (m1 66 ((am_s ((16807 * (d - 1)) + v1)).toNat))))]) hM_234 d_234_84 rfl rfl ?_
            refine r_go (pc' := 5) hM_234 d_234_87 (by decide) ?_
            refine rn_wk (a := [some (.inr (.inr (some 53))), some (.inl d), some (.inl y1), some (.inl (s + 1)), none, none]) (by simp only [am_le, and_self]) ?_
            exact hk
          exact H
        exact K _ rfl
      · have H := H.2 (Decidable.not_not.mp hz6)
        refine ok_sg (pc' := 5) (ls' := [some (.inr (.inr (some 53))), some (.inl d), some (.inl b), some (.inl (s + 1)), none, none]) (st' := []) (m' := m1) (fun fx hfx o hk => ?_) ?_
        · refine r_go (pc' := 84) hM_234 d_234_45 (by decide) ?_
          refine r_sto (pc' := 87) (ls' := [some (.inr (.inr (some 53))), some (.inl d), some (.inl b), some (.inl (s + 1)), some (.inl v1), none]) hM_234 d_234_84 rfl rfl ?_
          refine r_go (pc' := 5) hM_234 d_234_87 (by decide) ?_
          refine rn_wk (a := [some (.inr (.inr (some 53))), some (.inl d), some (.inl b), some (.inl (s + 1)), none, none]) (by simp only [am_le, and_self]) ?_
          exact hk
        exact H
    · have H := H.2 hz3
      refine ok_sg (pc' := 5) (ls' := [some (.inr (.inr (some 53))), some (.inl d), some (.inl b), some (.inl (s + 1)), none, none]) (st' := []) (m' := m) (fun fx hfx o hk => ?_) ?_
      · refine r_go (pc' := 84) hM_234 d_234_29 (by decide) ?_
        refine r_sto (pc' := 87) (ls' := [some (.inr (.inr (some 53))), some (.inl d), some (.inl b), some (.inl (s + 1)), none, none]) hM_234 d_234_84 rfl rfl ?_
        refine r_go (pc' := 5) hM_234 d_234_87 (by decide) ?_
        exact hk
      exact H
theorem u_234_0 {Q : List am_V → am_M → Prop} {m : am_M} {d : Int}  (H : ok 2 234 5 [some (.inr (.inr (some 53))), some (.inl d), some (.inl 99), some (.inl 0), none, none] [] m Q) : ok 2 234 0 [some (.inr (.inr (some 53))), some (.inl d), none, none, none, none] [] m Q := by
  refine ok_sg (pc' := 5) (ls' := [some (.inr (.inr (some 53))), some (.inl d), some (.inl 99), some (.inl 0), none, none]) (st' := []) (m' := m) (fun fx hfx o hk => ?_) ?_
  · refine r_k (pc' := 2) (v := .inl 99) hM_234 d_234_0 rfl rfl ?_
    refine r_sto (pc' := 3) (ls' := [some (.inr (.inr (some 53))), some (.inl d), some (.inl 99), none, none, none]) hM_234 d_234_2 rfl rfl ?_
    refine r_k (pc' := 4) (v := .inl 0) hM_234 d_234_3 rfl rfl ?_
    refine r_sto (pc' := 5) (ls' := [some (.inr (.inr (some 53))), some (.inl d), some (.inl 99), some (.inl 0), none, none]) hM_234 d_234_4 rfl rfl ?_
    exact hk
  exact H
theorem z_234   (m : am_M) (d : Int) (hq : MFW (nv (m 54)) m ∧ (1 ≤ d ∧ d ≤ 8) ∧ (∀ j, j < SN (nv (m 54)) → 0 ≤ m 65 j ∧ m 65 j ≤ 99) ∧ KTF (nv (m 54)) m (d.toNat - 1)) : ok 2 234 0 (am_ent 6 [.inr (.inr (some 53)), .inl d]) [] m (fun rr m' => rr = [.inl ((kmc 99 (SN (nv (m 54))) (kf0 (nv (m 54))) (nv (m 54) 4).toNat d.toNat (kwa (nv (m 54)) (m 65))))] ∧ m' = m) := by
  show ok 2 234 0 [some (.inr (.inr (some 53))), some (.inl d), none, none, none, none] [] m _
  obtain ⟨hM0, hd, ha, hT⟩ := hq
  obtain ⟨D, rfl⟩ : ∃ D : Nat, d = ((D + 1 : Nat) : Int) := ⟨d.toNat - 1, by omega⟩
  rw [Int.toNat_natCast] at hT ⊢
  rw [show D + 1 - 1 = D by omega] at hT
  generalize hgv : nv (m 54) = g at *
  obtain ⟨h5, h27, hsp, hL, h4, hwn⟩ := id hM0
  have w4 := hwn.2.2.2.2.2.2.2.1
  obtain ⟨H, hH⟩ : ∃ H : Nat, g 4 = (H : Int) := ⟨(g 4).toNat, by omega⟩
  have eH : (g 4).toNat = H := by omega
  unfold KTF at hT
  rw [eH] at hT ⊢
  have hp1 := Nat.two_pow_pos (SN g)
  have h32 : 2 ^ SN g ≤ 32 := Nat.le_trans (Nat.pow_le_pow_right (by decide) h5) (by decide)
  have h7 : 7 ^ SN g ≤ 16807 := Nat.le_trans (Nat.pow_le_pow_right (by decide) h5) (by decide)
  refine u_234_0 ?_
  refine ok_for (σ := Int) (fun s b => [some (.inr (.inr (some 53))), some (.inl ((D + 1 : Nat) : Int)), some (.inl b), some (.inl (s : Int)), none, none]) (fun s b M => M = m ∧ KLQ (SN g) (kf0 g) H D (kwa g (m 65)) s b) (2 ^ SN g) ?_ ?_ 99 m ⟨rfl, KLQ_0⟩
  · rintro s hs b M ⟨hM, hQ⟩ IH
    rw [hM]
    have hb := KLQ_rng h5 (by omega) hQ
    have hcn := cnt_le s 12
    have hr := kmc_rng (c := 99) (F := kf0 g) (H := H) (d := D) (w := ktp (kf0 g) s (kwa g (m 65))) h5 (by omega) (by decide)
    refine u_234_5 ?_
    rw [h27, bx_shl1 _ (by omega), am_s_id (z := ((2 ^ SN g : Nat) : Int)) (by omega) (by omega), am_s_id (z := (s : Int)) (by omega) (by omega), h4, hH, am_s_id (z := (H : Int)) (by omega) (by omega), Int.toNat_natCast, am_s_id (z := ((cnt s 12 : Nat) : Int)) (by omega) (by omega), hgv, am_s_id (z := b) (by omega) (by omega)]
    refine ⟨fun q => by omega, fun _ => ⟨⟨by omega, by omega⟩, fun q => ⟨⟨hM0, ⟨by omega, by omega⟩, ha⟩, ?_⟩, fun q => IH b m ⟨rfl, KLQ_skip hQ fun z => absurd z.1 (by omega)⟩⟩⟩
    rintro v1 mx ⟨hmx, hv⟩
    rw [hmx]
    rcases hv with ⟨g1, g2⟩ | ⟨g1, g2⟩
    · have hk6 := kan_6 hwn ha g1
      have hk7 := ks7_rng _ hk6
      have ht := hT _ hk6
      rw [kan_mc hwn h5 (by omega) (by decide) ha] at ht
      rw [← g2] at hk7 ht
      rw [show (16807 * (((D + 1 : Nat) : Int) - 1) + v1) = ((16807 * D + v1.toNat : Nat) : Int) by omega, am_s_id (z := v1) (by omega) (by omega), am_s_id (z := ((16807 * D + v1.toNat : Nat) : Int)) (by omega) (by omega), Int.toNat_natCast, ht, am_s_id (by omega) (by omega)]
      refine ⟨fun _ => ⟨⟨by omega, by omega⟩, fun y1 hy => ?_⟩, fun q2 => by omega⟩
      have hy2 : y1 = min b (((cnt s 12 : Nat) : Int) + kmc 99 (SN g) (kf0 g) H D (ktp (kf0 g) s (kwa g (m 65)))) := by
        rw [hy]
        split <;> omega
      rw [hy2]
      exact IH _ m ⟨rfl, KLQ_min hQ (by omega) g1⟩
    · rw [g2]
      exact ⟨fun q2 => absurd rfl q2, fun _ => IH b m ⟨rfl, KLQ_skip hQ fun z => absurd z.2 g1⟩⟩
  · rintro b M ⟨hM, hQ⟩
    rw [hM]
    refine u_234_5 ?_
    rw [h27, bx_shl1 _ (by omega), am_s_id (z := ((2 ^ SN g : Nat) : Int)) (by omega) (by omega)]
    refine ⟨fun _ => ⟨?_, rfl⟩, fun q => by omega⟩
    rw [kmc_s h5 (by omega) (by decide) (fun s h => h) (fun s h _ => h) hQ]
theorem u_237_2 {Q : List am_V → am_M → Prop} {m : am_M} {d : Int} {t : Int} {s : Int}  (H : (0 ≤ (am_s s) ∧ (am_s s) < 2147483648) ∧ (((am_s (m 54 4) < am_s (((cnt (am_s s).toNat 12 : Nat) : Int))) → ok 2 237 2 [some (.inr (.inr (some 53))), some (.inl d), some (.inl t), some (.inl (s + 1))] [] m Q) ∧ ((¬ (am_s (m 54 4) < am_s (((cnt (am_s s).toNat 12 : Nat) : Int)))) → (MFW (nv (m 54)) m ∧ (0 ≤ s ∧ s < 32) ∧ ∀ j, j < SN (nv (m 54)) → 0 ≤ m 65 j ∧ m 65 j ≤ 99) ∧ (∀ (v1 : Int) (m1 : am_M), (m1 = m ∧ ((kgo (SN (nv (m 54))) (kwa (nv (m 54)) (m 65)) s.toNat ∧ v1 = ks7 (kan (nv (m 54)) s.toNat (m 65)) (SN (nv (m 54)))) ∨ (¬ kgo (SN (nv (m 54))) (kwa (nv (m 54)) (m 65)) s.toNat ∧ v1 = -1))) → ((am_s v1 = (-1)) → ok 2 237 2 [some (.inr (.inr (some 53))), some (.inl d), some (.inl t), some (.inl (s + 1))] [] m1 Q) ∧ ((¬ (am_s v1 = (-1))) → (MFW (nv (m1 54)) m1 ∧ (0 ≤ s ∧ s < 32) ∧ ∀ j, j < SN (nv (m1 54)) → 0 ≤ m1 65 j ∧ m1 65 j ≤ 99) ∧ (∀ (v2 : Int) (m2 : am_M), (m2 = m1 ∧ ((kgo (SN (nv (m1 54))) (kwa (nv (m1 54)) (m1 65)) s.toNat ∧ v2 = ks7 (kan (nv (m1 54)) s.toNat (m1 65)) (SN (nv (m1 54)))) ∨ (¬ kgo (SN (nv (m1 54))) (kwa (nv (m1 54)) (m1 65)) s.toNat ∧ v2 = -1))) → (0 ≤ am_s ((16807 * (d - 1)) + v2) ∧ am_s ((16807 * (d - 1)) + v2) < (134456 : Nat)) ∧ (((am_s ((((cnt (am_s s).toNat 12 : Nat) : Int)) + (m2 66 ((am_s ((16807 * (d - 1)) + v2)).toNat))) = am_s t) → Q [.inl s] m2) ∧ ((¬ (am_s ((((cnt (am_s s).toNat 12 : Nat) : Int)) + (m2 66 ((am_s ((16807 * (d - 1)) + v2)).toNat))) = am_s t)) → ok 2 237 2 [some (.inr (.inr (some 53))), some (.inl d), some (.inl t), some (.inl (s + 1))] [] m2 Q)))))))) : ok 2 237 2 [some (.inr (.inr (some 53))), some (.inl d), some (.inl t), some (.inl s)] [] m Q := by
  obtain ⟨hz1, H⟩ := H
  refine ok_sg (pc' := 13) (ls' := [some (.inr (.inr (some 53))), some (.inl d), some (.inl t), some (.inl s)]) (st' := [.inl (m 54 4), .inl (((cnt (am_s s).toNat 12 : Nat) : Int))]) (m' := m) (fun fx hfx o hk => ?_) ?_
  · refine r_ld (pc' := 3) hM_237 d_237_2 rfl rfl ?_
    refine r_stk (pc' := 4) (st' := [.inr (.inl (am_s s))]) hM_237 d_237_3 rfl rfl ?_
    refine r_cl (pc' := 7) (c := (193, 2)) (a := [.inr (.inl (am_s s))]) (q := []) hM_237 d_237_4 rfl (by decide +kernel) hM_193 rfl rfl rfl (Nat.le_of_ble_eq_true rfl) (Nat.le_of_ble_eq_true rfl) (Or.inl rfl) (c_193  m (am_s s) hz1) (Nat.le_of_ble_eq_true rfl) ?_
    show rn fx 2 (0, 0) 237 7 [some (.inr (.inr (some 53))), some (.inl d), some (.inl t), some (.inl s)] [.inl (((cnt (am_s s).toNat 12 : Nat) : Int))] (st0 m) o
    refine r_ld (pc' := 8) hM_237 d_237_7 rfl rfl ?_
    refine r_gR (pc' := 11) (v := 54) hM_237 d_237_8 rfl (by decide +kernel) ?_
    refine r_k (pc' := 12) (v := .inl 4) hM_237 d_237_11 rfl rfl ?_
    refine r_iae (pc' := 13) (n := 168) (z := (m 54 4)) hM_237 d_237_12 rfl rfl (by decide) (by rw [show (am_s 4).toNat = 4 by decide]) ?_
    exact hk
  refine ok_ic (pc' := 53) (pc2 := 16) hM_237 d_237_13 (by decide) rfl (fun hz2 => ?_) (fun hz2 => ?_)
  · have H := H.1 hz2
    refine ok_sg (pc' := 2) (ls' := [some (.inr (.inr (some 53))), some (.inl d), some (.inl t), some (.inl (s + 1))]) (st' := []) (m' := m) (fun fx hfx o hk => ?_) ?_
    · refine r_sto (pc' := 56) (ls' := [some (.inr (.inr (some 53))), some (.inl d), some (.inl t), some (.inl (s + 1))]) hM_237 d_237_53 rfl rfl ?_
      refine r_go (pc' := 2) hM_237 d_237_56 (by decide) ?_
      exact hk
    exact H
  · have H := H.2 hz2
    obtain ⟨hz3, H⟩ := H
    refine ok_sg (pc' := 18) (ls' := [some (.inr (.inr (some 53))), some (.inl d), some (.inl t), some (.inl s)]) (st' := [.inl s, .inr (.inr (some 53))]) (m' := m) (fun fx hfx o hk => ?_) ?_
    · refine r_ld (pc' := 17) hM_237 d_237_16 rfl rfl ?_
      refine r_ld (pc' := 18) hM_237 d_237_17 rfl rfl ?_
      exact hk
    refine ok_cl (pc' := 21) (c := (235, 0)) (a := [.inr (.inr (some 53)), .inl s]) (q := []) hM_237 d_237_18 rfl (by decide +kernel) hM_235 rfl rfl rfl (Nat.le_of_ble_eq_true rfl) (Nat.le_of_ble_eq_true rfl) (Or.inr rfl) (z_235  m s hz3) (Nat.le_of_ble_eq_true rfl) ?_
    rintro _ m1 ⟨v1, rfl, hz4⟩
    replace H := H v1 m1 hz4
    show ok 2 237 21 [some (.inr (.inr (some 53))), some (.inl d), some (.inl t), some (.inl s)] [.inl v1] m1 Q
    refine ok_sg (pc' := 22) (ls' := [some (.inr (.inr (some 53))), some (.inl d), some (.inl t), some (.inl s)]) (st' := [.inl (-1), .inl v1]) (m' := m1) (fun fx hfx o hk => ?_) ?_
    · refine r_k (pc' := 22) (v := .inl (-1)) hM_237 d_237_21 rfl rfl ?_
      exact hk
    refine ok_ic (pc' := 53) (pc2 := 25) hM_237 d_237_22 (by decide) rfl (fun hz5 => ?_) (fun hz5 => ?_)
    · have H := H.1 hz5
      refine ok_sg (pc' := 2) (ls' := [some (.inr (.inr (some 53))), some (.inl d), some (.inl t), some (.inl (s + 1))]) (st' := []) (m' := m1) (fun fx hfx o hk => ?_) ?_
      · refine r_sto (pc' := 56) (ls' := [some (.inr (.inr (some 53))), some (.inl d), some (.inl t), some (.inl (s + 1))]) hM_237 d_237_53 rfl rfl ?_
        refine r_go (pc' := 2) hM_237 d_237_56 (by decide) ?_
        exact hk
      exact H
    · have H := H.2 hz5
      obtain ⟨hz6, H⟩ := H
      refine ok_sg (pc' := 43) (ls' := [some (.inr (.inr (some 53))), some (.inl d), some (.inl t), some (.inl s)]) (st' := [.inl s, .inr (.inr (some 53)), .inl (16807 * (d - 1)), .inr (.inr (some 66)), .inl (((cnt (am_s s).toNat 12 : Nat) : Int))]) (m' := m1) (fun fx hfx o hk => ?_) ?_
      · refine r_ld (pc' := 26) hM_237 d_237_25 rfl rfl ?_
        refine r_stk (pc' := 27) (st' := [.inr (.inl (am_s s))]) hM_237 d_237_26 rfl rfl ?_
        refine r_cl (pc' := 30) (c := (193, 2)) (a := [.inr (.inl (am_s s))]) (q := []) hM_237 d_237_27 rfl (by decide +kernel) hM_193 rfl rfl rfl (Nat.le_of_ble_eq_true rfl) (Nat.le_of_ble_eq_true rfl) (Or.inl rfl) (c_193  m1 (am_s s) hz1) (Nat.le_of_ble_eq_true rfl) ?_
        show rn fx 2 (0, 0) 237 30 [some (.inr (.inr (some 53))), some (.inl d), some (.inl t), some (.inl s)] [.inl (((cnt (am_s s).toNat 12 : Nat) : Int))] (st0 m1) o
        refine r_ld (pc' := 31) hM_237 d_237_30 rfl rfl ?_
        refine r_gR (pc' := 34) (v := 66) hM_237 d_237_31 rfl (by decide +kernel) ?_
        refine r_k (pc' := 37) (v := .inl 16807) hM_237 d_237_34 rfl rfl ?_
        refine r_ld (pc' := 38) hM_237 d_237_37 rfl rfl ?_
        refine r_k (pc' := 39) (v := .inl 1) hM_237 d_237_38 rfl rfl ?_
        refine r_b (pc' := 40) (z := (d - 1)) hM_237 d_237_39 rfl rfl ?_
        refine r_b (pc' := 41) (z := (16807 * (d - 1))) hM_237 d_237_40 rfl rfl ?_
        refine r_ld (pc' := 42) hM_237 d_237_41 rfl rfl ?_
        refine r_ld (pc' := 43) hM_237 d_237_42 rfl rfl ?_
        exact hk
      refine ok_cl (pc' := 46) (c := (235, 0)) (a := [.inr (.inr (some 53)), .inl s]) (q := [.inl (16807 * (d - 1)), .inr (.inr (some 66)), .inl (((cnt (am_s s).toNat 12 : Nat) : Int))]) hM_237 d_237_43 rfl (by decide +kernel) hM_235 rfl rfl rfl (Nat.le_of_ble_eq_true rfl) (Nat.le_of_ble_eq_true rfl) (Or.inr rfl) (z_235  m1 s hz6) (Nat.le_of_ble_eq_true rfl) ?_
      rintro _ m2 ⟨v2, rfl, hz7⟩
      replace H := H v2 m2 hz7
      show ok 2 237 46 [some (.inr (.inr (some 53))), some (.inl d), some (.inl t), some (.inl s)] [.inl v2, .inl (16807 * (d - 1)), .inr (.inr (some 66)), .inl (((cnt (am_s s).toNat 12 : Nat) : Int))] m2 Q
      obtain ⟨hz8, H⟩ := H
      refine ok_sg (pc' := 50) (ls' := [some (.inr (.inr (some 53))), some (.inl d), some (.inl t), some (.inl s)]) (st' := [.inl t, .inl ((((cnt (am_s s).toNat 12 : Nat) : Int)) + (m2 66 ((am_s ((16807 * (d - 1)) + v2)).toNat)))]) (m' := m2) (fun fx hfx o hk => ?_) ?_
      · refine r_b (pc' := 47) (z := ((16807 * (d - 1)) + v2)) hM_237 d_237_46 rfl rfl ?_
        refine r_ba (pc' := 48) (n := 134456) hM_237 d_237_47 rfl rfl (by decide) hz8 ?_
        refine r_b (pc' := 49) (z := ((((cnt (am_s s).toNat 12 : Nat) : Int)) + (m2 66 ((am_s ((16807 * (d - 1)) + v2)).toNat)))) hM_237 d_237_48 rfl rfl ?_
        refine r_ld (pc' := 50) hM_237 d_237_49 rfl rfl ?_
        exact hk
      refine ok_ic (pc' := 59) (pc2 := 53) hM_237 d_237_50 (by decide) rfl (fun hz9 => ?_) (fun hz9 => ?_)
      · have H := H.1 hz9
        refine ok_sg (pc' := 60) (ls' := [some (.inr (.inr (some 53))), some (.inl d), some (.inl t), some (.inl s)]) (st' := [.inl s]) (m' := m2) (fun fx hfx o hk => ?_) ?_
        · refine r_ld (pc' := 60) hM_237 d_237_59 rfl rfl ?_
          exact hk
        exact ok_rt (fun fx _ => rt_i hM_237 d_237_60 rfl) H
      · have H := H.2 hz9
        refine ok_sg (pc' := 2) (ls' := [some (.inr (.inr (some 53))), some (.inl d), some (.inl t), some (.inl (s + 1))]) (st' := []) (m' := m2) (fun fx hfx o hk => ?_) ?_
        · refine r_sto (pc' := 56) (ls' := [some (.inr (.inr (some 53))), some (.inl d), some (.inl t), some (.inl (s + 1))]) hM_237 d_237_53 rfl rfl ?_
          refine r_go (pc' := 2) hM_237 d_237_56 (by decide) ?_
          exact hk
        exact H
theorem u_237_0 {Q : List am_V → am_M → Prop} {m : am_M} {d : Int} {t : Int}  (H : ok 2 237 2 [some (.inr (.inr (some 53))), some (.inl d), some (.inl t), some (.inl 0)] [] m Q) : ok 2 237 0 [some (.inr (.inr (some 53))), some (.inl d), some (.inl t), none] [] m Q := by
  refine ok_sg (pc' := 2) (ls' := [some (.inr (.inr (some 53))), some (.inl d), some (.inl t), some (.inl 0)]) (st' := []) (m' := m) (fun fx hfx o hk => ?_) ?_
  · refine r_k (pc' := 1) (v := .inl 0) hM_237 d_237_0 rfl rfl ?_
    refine r_sto (pc' := 2) (ls' := [some (.inr (.inr (some 53))), some (.inl d), some (.inl t), some (.inl 0)]) hM_237 d_237_1 rfl rfl ?_
    exact hk
  exact H
theorem u_231_7 {Q : List am_V → am_M → Prop} {m : am_M} {d : Int} {y : Int} {s : Int}  (H : ((am_s y ≤ am_s s) → ok 3 231 27 [some (.inr (.inr (some 53))), some (.inl d), some (.inl y), some (.inl 1), none] [] m Q) ∧ ((¬ (am_s y ≤ am_s s)) → (0 ≤ am_s s ∧ am_s s < (134456 : Nat)) ∧ (ok 3 231 7 [some (.inr (.inr (some 53))), some (.inl d), some (.inl y), some (.inl (s + 1)), none] [] (mu m 66 ((am_s s).toNat) (am_b8 0)) Q))) : ok 3 231 7 [some (.inr (.inr (some 53))), some (.inl d), some (.inl y), some (.inl s), none] [] m Q := by
  refine ok_sg (pc' := 9) (ls' := [some (.inr (.inr (some 53))), some (.inl d), some (.inl y), some (.inl s), none]) (st' := [.inl y, .inl s]) (m' := m) (fun fx hfx o hk => ?_) ?_
  · refine r_ld (pc' := 8) hM_231 d_231_7 rfl rfl ?_
    refine r_ld (pc' := 9) hM_231 d_231_8 rfl rfl ?_
    exact hk
  refine ok_ic (pc' := 25) (pc2 := 12) hM_231 d_231_9 (by decide) rfl (fun hz1 => ?_) (fun hz1 => ?_)
  · have H := H.1 hz1
    refine ok_sg (pc' := 27) (ls' := [some (.inr (.inr (some 53))), some (.inl d), some (.inl y), some (.inl 1), none]) (st' := []) (m' := m) (fun fx hfx o hk => ?_) ?_
    · refine r_k (pc' := 26) (v := .inl 1) hM_231 d_231_25 rfl rfl ?_
      refine r_sto (pc' := 27) (ls' := [some (.inr (.inr (some 53))), some (.inl d), some (.inl y), some (.inl 1), none]) hM_231 d_231_26 rfl rfl ?_
      exact hk
    exact H
  · have H := H.2 hz1
    obtain ⟨hz2, H⟩ := H
    refine ok_sg (pc' := 7) (ls' := [some (.inr (.inr (some 53))), some (.inl d), some (.inl y), some (.inl (s + 1)), none]) (st' := []) (m' := mu m 66 ((am_s s).toNat) (am_b8 0)) (fun fx hfx o hk => ?_) ?_
    · refine r_ld (pc' := 13) hM_231 d_231_12 rfl rfl ?_
      refine r_gR (pc' := 16) (v := 66) hM_231 d_231_13 rfl (by decide +kernel) ?_
      refine r_ld (pc' := 17) hM_231 d_231_16 rfl rfl ?_
      refine r_k (pc' := 18) (v := .inl 0) hM_231 d_231_17 rfl rfl ?_
      refine r_bs (pc' := 19) (n := 134456) hM_231 d_231_18 rfl rfl hz2 ?_
      refine r_sto (pc' := 22) (ls' := [some (.inr (.inr (some 53))), some (.inl d), some (.inl y), some (.inl (s + 1)), none]) hM_231 d_231_19 rfl rfl ?_
      refine r_go (pc' := 7) hM_231 d_231_22 (by decide) ?_
      exact hk
    exact H
theorem u_231_27 {Q : List am_V → am_M → Prop} {m : am_M} {d : Int} {y : Int} {e : Int}  (H : ((am_s d ≤ am_s e) → Q [] m) ∧ ((¬ (am_s d ≤ am_s e)) → ok 3 231 35 [some (.inr (.inr (some 53))), some (.inl d), some (.inl y), some (.inl e), some (.inl 0)] [] m Q)) : ok 3 231 27 [some (.inr (.inr (some 53))), some (.inl d), some (.inl y), some (.inl e), none] [] m Q := by
  refine ok_sg (pc' := 29) (ls' := [some (.inr (.inr (some 53))), some (.inl d), some (.inl y), some (.inl e), none]) (st' := [.inl d, .inl e]) (m' := m) (fun fx hfx o hk => ?_) ?_
  · refine r_ld (pc' := 28) hM_231 d_231_27 rfl rfl ?_
    refine r_ld (pc' := 29) hM_231 d_231_28 rfl rfl ?_
    exact hk
  refine ok_ic (pc' := 78) (pc2 := 32) hM_231 d_231_29 (by decide) rfl (fun hz1 => ?_) (fun hz1 => ?_)
  · have H := H.1 hz1
    exact ok_rt (fun fx _ => rt_v hM_231 d_231_78 rfl) H
  · have H := H.2 hz1
    refine ok_sg (pc' := 35) (ls' := [some (.inr (.inr (some 53))), some (.inl d), some (.inl y), some (.inl e), some (.inl 0)]) (st' := []) (m' := m) (fun fx hfx o hk => ?_) ?_
    · refine r_k (pc' := 33) (v := .inl 0) hM_231 d_231_32 rfl rfl ?_
      refine r_sto (pc' := 35) (ls' := [some (.inr (.inr (some 53))), some (.inl d), some (.inl y), some (.inl e), some (.inl 0)]) hM_231 d_231_33 rfl rfl ?_
      exact hk
    exact H
theorem u_231_35 {Q : List am_V → am_M → Prop} {m : am_M} {d : Int} {y : Int} {e : Int} {s : Int}  (H : ((am_s y ≤ am_s s) → ok 3 231 27 [some (.inr (.inr (some 53))), some (.inl d), some (.inl y), some (.inl (e + 1)), none] [] m Q) ∧ ((¬ (am_s y ≤ am_s s)) → ((0 ≤ m 53 27 ∧ m 53 27 ≤ 5) ∧ 0 ≤ s ∧ s < 16807) ∧ (∀ (m1 : am_M), ((∀ j, j < (m 53 27).toNat → m1 65 j = ((s.toNat / 7 ^ j % 7 : Nat) : Int)) ∧ ∀ a, a ≠ 65 → m1 a = m a) → (MFW (nv (m1 54)) m1 ∧ (1 ≤ e ∧ e ≤ 8) ∧ (∀ j, j < SN (nv (m1 54)) → 0 ≤ m1 65 j ∧ m1 65 j ≤ 99) ∧ KTF (nv (m1 54)) m1 (e.toNat - 1)) ∧ (∀ (m2 : am_M), (m2 = m1) → (0 ≤ am_s ((16807 * e) + s) ∧ am_s ((16807 * e) + s) < (134456 : Nat)) ∧ (ok 3 231 35 [some (.inr (.inr (some 53))), some (.inl d), some (.inl y), some (.inl e), some (.inl (s + 1))] [] (mu m2 66 ((am_s ((16807 * e) + s)).toNat) (am_b8 (am_b8 (kmc 99 (SN (nv (m1 54))) (kf0 (nv (m1 54))) (nv (m1 54) 4).toNat e.toNat (kwa (nv (m1 54)) (m1 65)))))) Q))))) : ok 3 231 35 [some (.inr (.inr (some 53))), some (.inl d), some (.inl y), some (.inl e), some (.inl s)] [] m Q := by
  refine ok_sg (pc' := 38) (ls' := [some (.inr (.inr (some 53))), some (.inl d), some (.inl y), some (.inl e), some (.inl s)]) (st' := [.inl y, .inl s]) (m' := m) (fun fx hfx o hk => ?_) ?_
  · refine r_ld (pc' := 37) hM_231 d_231_35 rfl rfl ?_
    refine r_ld (pc' := 38) hM_231 d_231_37 rfl rfl ?_
    exact hk
  refine ok_ic (pc' := 72) (pc2 := 41) hM_231 d_231_38 (by decide) rfl (fun hz1 => ?_) (fun hz1 => ?_)
  · have H := H.1 hz1
    refine ok_sg (pc' := 27) (ls' := [some (.inr (.inr (some 53))), some (.inl d), some (.inl y), some (.inl (e + 1)), none]) (st' := []) (m' := m) (fun fx hfx o hk => ?_) ?_
    · refine r_sto (pc' := 75) (ls' := [some (.inr (.inr (some 53))), some (.inl d), some (.inl y), some (.inl (e + 1)), some (.inl s)]) hM_231 d_231_72 rfl rfl ?_
      refine r_go (pc' := 27) hM_231 d_231_75 (by decide) ?_
      refine rn_wk (a := [some (.inr (.inr (some 53))), some (.inl d), some (.inl y), some (.inl (e + 1)), none]) (by simp only [am_le, and_self]) ?_
      exact hk
    exact H
  · have H := H.2 hz1
    obtain ⟨hz2, H⟩ := H
    refine ok_sg (pc' := 44) (ls' := [some (.inr (.inr (some 53))), some (.inl d), some (.inl y), some (.inl e), some (.inl s)]) (st' := [.inl s, .inr (.inr (some 53))]) (m' := m) (fun fx hfx o hk => ?_) ?_
    · refine r_ld (pc' := 42) hM_231 d_231_41 rfl rfl ?_
      refine r_ld (pc' := 44) hM_231 d_231_42 rfl rfl ?_
      exact hk
    refine ok_cl (pc' := 47) (c := (233, 0)) (a := [.inr (.inr (some 53)), .inl s]) (q := []) hM_231 d_231_44 rfl (by decide +kernel) hM_233 rfl rfl rfl (Nat.le_of_ble_eq_true rfl) (Nat.le_of_ble_eq_true rfl) (Or.inr rfl) (z_233  m s hz2) (Nat.le_of_ble_eq_true rfl) ?_
    rintro _ m1 ⟨rfl, hz3⟩
    replace H := H  m1 hz3
    show ok 3 231 47 [some (.inr (.inr (some 53))), some (.inl d), some (.inl y), some (.inl e), some (.inl s)] [] m1 Q
    obtain ⟨hz4, H⟩ := H
    refine ok_sg (pc' := 61) (ls' := [some (.inr (.inr (some 53))), some (.inl d), some (.inl y), some (.inl e), some (.inl s)]) (st' := [.inl e, .inr (.inr (some 53)), .inl ((16807 * e) + s), .inr (.inr (some 66))]) (m' := m1) (fun fx hfx o hk => ?_) ?_
    · refine r_ld (pc' := 48) hM_231 d_231_47 rfl rfl ?_
      refine r_gR (pc' := 51) (v := 66) hM_231 d_231_48 rfl (by decide +kernel) ?_
      refine r_k (pc' := 54) (v := .inl 16807) hM_231 d_231_51 rfl rfl ?_
      refine r_ld (pc' := 55) hM_231 d_231_54 rfl rfl ?_
      refine r_b (pc' := 56) (z := (16807 * e)) hM_231 d_231_55 rfl rfl ?_
      refine r_ld (pc' := 58) hM_231 d_231_56 rfl rfl ?_
      refine r_b (pc' := 59) (z := ((16807 * e) + s)) hM_231 d_231_58 rfl rfl ?_
      refine r_ld (pc' := 60) hM_231 d_231_59 rfl rfl ?_
      refine r_ld (pc' := 61) hM_231 d_231_60 rfl rfl ?_
      exact hk
    refine ok_cl (pc' := 64) (c := (234, 0)) (a := [.inr (.inr (some 53)), .inl e]) (q := [.inl ((16807 * e) + s), .inr (.inr (some 66))]) hM_231 d_231_61 rfl (by decide +kernel) hM_234 rfl rfl rfl (Nat.le_of_ble_eq_true rfl) (Nat.le_of_ble_eq_true rfl) (Or.inr rfl) (z_234  m1 e hz4) (Nat.le_of_ble_eq_true rfl) ?_
    rintro _ m2 ⟨rfl, hz5⟩
    replace H := H  m2 hz5
    show ok 3 231 64 [some (.inr (.inr (some 53))), some (.inl d), some (.inl y), some (.inl e), some (.inl s)] [.inl (kmc 99 (SN (nv (m1 54))) (kf0 (nv (m1 54))) (nv (m1 54) 4).toNat e.toNat (kwa (nv (m1 54)) (m1 65))), .inl ((16807 * e) + s), .inr (.inr (some 66))] m2 Q
    obtain ⟨hz6, H⟩ := H
    refine ok_sg (pc' := 35) (ls' := [some (.inr (.inr (some 53))), some (.inl d), some (.inl y), some (.inl e), some (.inl (s + 1))]) (st' := []) (m' := mu m2 66 ((am_s ((16807 * e) + s)).toNat) (am_b8 (am_b8 (kmc 99 (SN (nv (m1 54))) (kf0 (nv (m1 54))) (nv (m1 54) 4).toNat e.toNat (kwa (nv (m1 54)) (m1 65)))))) (fun fx hfx o hk => ?_) ?_
    · refine r_stk (pc' := 65) (st' := [.inl (am_b8 (kmc 99 (SN (nv (m1 54))) (kf0 (nv (m1 54))) (nv (m1 54) 4).toNat e.toNat (kwa (nv (m1 54)) (m1 65)))), .inl ((16807 * e) + s), .inr (.inr (some 66))]) hM_231 d_231_64 rfl rfl ?_
      refine r_bs (pc' := 66) (n := 134456) hM_231 d_231_65 rfl rfl hz6 ?_
      refine r_sto (pc' := 69) (ls' := [some (.inr (.inr (some 53))), some (.inl d), some (.inl y), some (.inl e), some (.inl (s + 1))]) hM_231 d_231_66 rfl rfl ?_
      refine r_go (pc' := 35) hM_231 d_231_69 (by decide) ?_
      exact hk
    exact H
theorem u_231_0 {Q : List am_V → am_M → Prop} {m : am_M} {d : Int}  (H : (0 ≤ m 53 27 ∧ m 53 27 ≤ 5) ∧ (∀ (m1 : am_M), (m1 = m) → ok 3 231 7 [some (.inr (.inr (some 53))), some (.inl d), some (.inl ((7 ^ (m 53 27).toNat : Nat) : Int)), some (.inl 0), none] [] m1 Q)) : ok 3 231 0 [some (.inr (.inr (some 53))), some (.inl d), none, none, none] [] m Q := by
  obtain ⟨hz1, H⟩ := H
  refine ok_sg (pc' := 1) (ls' := [some (.inr (.inr (some 53))), some (.inl d), none, none, none]) (st' := [.inr (.inr (some 53))]) (m' := m) (fun fx hfx o hk => ?_) ?_
  · refine r_ld (pc' := 1) hM_231 d_231_0 rfl rfl ?_
    exact hk
  refine ok_cl (pc' := 4) (c := (232, 0)) (a := [.inr (.inr (some 53))]) (q := []) hM_231 d_231_1 rfl (by decide +kernel) hM_232 rfl rfl rfl (Nat.le_of_ble_eq_true rfl) (Nat.le_of_ble_eq_true rfl) (Or.inr rfl) (z_232  m  hz1) (Nat.le_of_ble_eq_true rfl) ?_
  rintro _ m1 ⟨rfl, hz2⟩
  replace H := H  m1 hz2
  show ok 3 231 4 [some (.inr (.inr (some 53))), some (.inl d), none, none, none] [.inl ((7 ^ (m 53 27).toNat : Nat) : Int)] m1 Q
  refine ok_sg (pc' := 7) (ls' := [some (.inr (.inr (some 53))), some (.inl d), some (.inl ((7 ^ (m 53 27).toNat : Nat) : Int)), some (.inl 0), none]) (st' := []) (m' := m1) (fun fx hfx o hk => ?_) ?_
  · refine r_sto (pc' := 5) (ls' := [some (.inr (.inr (some 53))), some (.inl d), some (.inl ((7 ^ (m 53 27).toNat : Nat) : Int)), none, none]) hM_231 d_231_4 rfl rfl ?_
    refine r_k (pc' := 6) (v := .inl 0) hM_231 d_231_5 rfl rfl ?_
    refine r_sto (pc' := 7) (ls' := [some (.inr (.inr (some 53))), some (.inl d), some (.inl ((7 ^ (m 53 27).toNat : Nat) : Int)), some (.inl 0), none]) hM_231 d_231_6 rfl rfl ?_
    exact hk
  exact H
