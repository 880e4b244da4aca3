/-- the tones of all triples -/
def TON (g : Nat → Int) (m : am_M) : Prop := ∀ p t : Nat, (p : Int) < g 0 → t < 8 → m 35 (8 * p + t) = if g (8 + p) ≠ 3 then hrd g p (tlay t p) else -1000
def LIS (m m' : am_M) : Prop := m' 34 9 = ((may (nv (vw m 2)) : Nat) : Int) ∧ m' 34 10 = ((2 ^ cnt (may (nv (vw m 2))) 12 : Nat) : Int) ∧ TON (nv (vw m 2)) m' ∧ ∀ a k, ¬ (a = 34 ∧ (k = 9 ∨ k = 10)) → a ≠ 35 → m' a k = m a k
theorem z_83   (m : am_M)  (hq : WFG (vw m 2)) : ok 3 83 0 (am_ent 3 [.inr (.inr (some 34))]) [] m (fun rr m' => rr = [] ∧ LIS m m') := by
  show ok 3 83 0 [some (.inr (.inr (some 34))), none, none] [] m _
  have hw := WFG_nv hq
  have hN := vwN hq
  have hF := may_lt (g := nv (vw m 2)) hw.1.2
  have hcl := cnt_le (may (nv (vw m 2))) 12
  refine u_83_0 ⟨hq, by omega, ?_⟩
  rw [Int.toNat_natCast, bx_shl1 _ (by omega)]
  have h0 : ∀ a k, ¬ (a = 34 ∧ (k = 9 ∨ k = 10)) → (mu (mu m 34 9 ((may (nv (vw m 2)) : Nat) : Int)) 34 10 ((2 ^ cnt (may (nv (vw m 2))) 12 : Nat) : Int)) a k = m a k := fun a k h => by rw [mu_o (by omega), mu_o (by omega)]
  have h9 : (mu (mu m 34 9 ((may (nv (vw m 2)) : Nat) : Int)) 34 10 ((2 ^ cnt (may (nv (vw m 2))) 12 : Nat) : Int)) 34 9 = ((may (nv (vw m 2)) : Nat) : Int) := by rw [mu_k (by decide), mu_same]
  have h10 : (mu (mu m 34 9 ((may (nv (vw m 2)) : Nat) : Int)) 34 10 ((2 ^ cnt (may (nv (vw m 2))) 12 : Nat) : Int)) 34 10 = ((2 ^ cnt (may (nv (vw m 2))) 12 : Nat) : Int) := mu_same
  generalize (mu (mu m 34 9 ((may (nv (vw m 2)) : Nat) : Int)) 34 10 ((2 ^ cnt (may (nv (vw m 2))) 12 : Nat) : Int)) = m0 at h0 h9 h10
  generalize hg : nv (vw m 2) = g at *
  refine ok_for (σ := Unit) (fun p _ => [some (.inr (.inr (some 34))), some (.inl (p : Int)), none]) (fun p _ M => (∀ p' t : Nat, p' < p → t < 8 → M 35 (8 * p' + t) = if g (8 + p') ≠ 3 then hrd g p' (tlay t p') else -1000) ∧ ∀ a, a ≠ 35 → M a = m0 a) (m 2 4).toNat ?_ ?_ () m0 ⟨fun p' t h => absurd h (Nat.not_lt_zero _), fun _ _ => rfl⟩
  · rintro p hp - M ⟨h1, h2⟩ IH
    have f2 : ∀ k, M 2 k = m 2 k := fun k => by rw [h2 2 (by decide), h0 2 k (by omega)]
    refine u_83_26 ?_
    rw [f2, am_s_id (z := m 2 4) (by omega) (by omega), am_s_id (z := (p : Int)) (by omega) (by omega)]
    refine ⟨fun q => by omega, fun _ => ?_⟩
    refine ok_for (σ := Unit) (fun t _ => [some (.inr (.inr (some 34))), some (.inl (p : Int)), some (.inl (t : Int))]) (fun t _ M => (∀ p' t : Nat, p' < p → t < 8 → M 35 (8 * p' + t) = if g (8 + p') ≠ 3 then hrd g p' (tlay t p') else -1000) ∧ (∀ t' : Nat, t' < t → M 35 (8 * p + t') = if g (8 + p) ≠ 3 then hrd g p (tlay t' p) else -1000) ∧ ∀ a, a ≠ 35 → M a = m0 a) 8 ?_ ?_ () M ⟨h1, fun t' h => absurd h (Nat.not_lt_zero _), h2⟩
    · rintro t ht - M' ⟨k1, k2, k3⟩ IH2
      have fv : vw M' 2 = vw m 2 := vw_same fun a k q1 q2 => by rw [k3 a (by omega), h0 a k (by omega)]
      have f2' : ∀ k, M' 2 k = m 2 k := fun k => by rw [k3 2 (by decide), h0 2 k (by omega)]
      have hl := tlay_lt ht (p := p) (by omega)
      have e1 : am_s ((p : Int) * 8 + (t : Int)) = (p : Int) * 8 + (t : Int) := am_s_id (by omega) (by omega)
      have e2 : ((p : Int) * 8 + (t : Int)).toNat = 8 * p + t := by omega
      refine u_83_39 ?_
      rw [fv, hg, f2', am_s_id (z := (t : Int)) (by omega) (by omega), am_tlay p (by omega) t ht, e1, e2, Int.toNat_natCast, Int.toNat_natCast]
      refine ⟨fun q => by omega, fun _ => ⟨⟨hq, by omega, by omega⟩, by omega, IH2 () _ ⟨fun p' t' h ht' => ?_, fun t' h => ?_, fun a h => ?_⟩⟩⟩
      · rw [mu_k (by omega)]; exact k1 p' t' h ht'
      · rw [mu_if]
        by_cases hh : t' = t
        · rw [if_pos (by omega), hh]
          by_cases h3 : g (8 + p) ≠ 3
          · rw [if_pos ⟨by omega, h3⟩, if_pos h3]
          · rw [if_neg (fun q => h3 q.2), if_neg h3]
        · rw [if_neg (by omega)]; exact k2 t' (by omega)
      · rw [mu_rf h, k3 a h]
    · rintro - M' ⟨k1, k2, k3⟩
      refine u_83_39 ?_
      rw [am_s_id (z := ((8 : Nat) : Int)) (by omega) (by omega)]
      refine ⟨fun _ => ?_, fun q => by omega⟩
      exact IH () M' ⟨fun p' t h ht => by
        by_cases hh : p' = p
        · rw [hh]; exact k2 t ht
        · exact k1 p' t (by omega) ht, k3⟩
  · rintro - M ⟨h1, h2⟩
    refine u_83_26 ?_
    rw [h2 2 (by decide), h0 2 4 (by omega), am_s_id (z := m 2 4) (by omega) (by omega), am_s_id (z := (((m 2 4).toNat : Nat) : Int)) (by omega) (by omega)]
    refine ⟨fun _ => ⟨rfl, ?_⟩, fun q => by omega⟩
    unfold LIS
    rw [hg]
    refine ⟨by rw [h2 34 (by decide), h9], by rw [h2 34 (by decide), h10], fun p t hp ht => h1 p t ?_ ht, fun a k h h35 => by rw [h2 a h35, h0 a k h]⟩
    have : g 0 = m 2 4 := by rw [← hg, nv0, vw_0]
    omega
theorem u_84_6 {Q : List am_V → am_M → Prop} {m : am_M} {p : Int} {v : Int} {x : Int} {t : Int}  (H : ((8 ≤ am_s t) → (0 ≤ am_s p ∧ am_s p < (12 : Nat)) ∧ (Q [] (mu m 36 ((am_s p).toNat) x))) ∧ ((¬ (8 ≤ am_s t)) → (0 ≤ am_s ((p * 8) + t) ∧ am_s ((p * 8) + t) < (96 : Nat)) ∧ (((¬ am_s (am_lcmp (am_s (m 35 ((am_s ((p * 8) + t)).toNat))) v) = 0) → ok 0 84 6 [some (.inr (.inr (some 34))), some (.inl p), some (.inr (.inl v)), none, some (.inl x), some (.inl (t + 1))] [] m Q) ∧ ((am_s (am_lcmp (am_s (m 35 ((am_s ((p * 8) + t)).toNat))) v) = 0) → ok 0 84 6 [some (.inr (.inr (some 34))), some (.inl p), some (.inr (.inl v)), none, some (.inl (am_or x (am_shl 1 t))), some (.inl (t + 1))] [] m Q)))) : ok 0 84 6 [some (.inr (.inr (some 34))), some (.inl p), some (.inr (.inl v)), none, some (.inl x), some (.inl t)] [] m Q := by
  refine ok_sg (pc' := 10) (ls' := [some (.inr (.inr (some 34))), some (.inl p), some (.inr (.inl v)), none, some (.inl x), some (.inl t)]) (st' := [.inl 8, .inl t]) (m' := m) (fun fx hfx o hk => ?_) ?_
  · refine r_ld (pc' := 8) hM_84 d_84_6 rfl rfl ?_
    refine r_k (pc' := 10) (v := .inl 8) hM_84 d_84_8 rfl rfl ?_
    exact hk
  refine ok_ic (pc' := 46) (pc2 := 13) hM_84 d_84_10 (by decide) rfl (fun hz1 => ?_) (fun hz1 => ?_)
  · have H := H.1 hz1
    obtain ⟨hz2, H⟩ := H
    refine ok_sg (pc' := 54) (ls' := [some (.inr (.inr (some 34))), some (.inl p), some (.inr (.inl v)), none, some (.inl x), some (.inl t)]) (st' := []) (m' := mu m 36 ((am_s p).toNat) x) (fun fx hfx o hk => ?_) ?_
    · refine r_ld (pc' := 47) hM_84 d_84_46 rfl rfl ?_
      refine r_gR (pc' := 50) (v := 36) hM_84 d_84_47 rfl (by decide +kernel) ?_
      refine r_ld (pc' := 51) hM_84 d_84_50 rfl rfl ?_
      refine r_ld (pc' := 53) hM_84 d_84_51 rfl rfl ?_
      refine r_is (pc' := 54) (n := 12) hM_84 d_84_53 rfl rfl hz2 ?_
      exact hk
    exact ok_rt (fun fx _ => rt_v hM_84 d_84_54 rfl) H
  · have H := H.2 hz1
    obtain ⟨hz3, H⟩ := H
    refine ok_sg (pc' := 28) (ls' := [some (.inr (.inr (some 34))), some (.inl p), some (.inr (.inl v)), none, some (.inl x), some (.inl t)]) (st' := [.inl (am_lcmp (am_s (m 35 ((am_s ((p * 8) + t)).toNat))) v)]) (m' := m) (fun fx hfx o hk => ?_) ?_
    · refine r_ld (pc' := 14) hM_84 d_84_13 rfl rfl ?_
      refine r_gR (pc' := 17) (v := 35) hM_84 d_84_14 rfl (by decide +kernel) ?_
      refine r_ld (pc' := 18) hM_84 d_84_17 rfl rfl ?_
      refine r_k (pc' := 20) (v := .inl 8) hM_84 d_84_18 rfl rfl ?_
      refine r_b (pc' := 21) (z := (p * 8)) hM_84 d_84_20 rfl rfl ?_
      refine r_ld (pc' := 23) hM_84 d_84_21 rfl rfl ?_
      refine r_b (pc' := 24) (z := ((p * 8) + t)) hM_84 d_84_23 rfl rfl ?_
      refine r_ia (pc' := 25) (n := 96) hM_84 d_84_24 rfl rfl hz3 ?_
      refine r_stk (pc' := 26) (st' := [.inr (.inl (am_s (m 35 ((am_s ((p * 8) + t)).toNat))))]) hM_84 d_84_25 rfl rfl ?_
      refine r_ld (pc' := 27) hM_84 d_84_26 rfl rfl ?_
      refine r_stk (pc' := 28) (st' := [.inl (am_lcmp (am_s (m 35 ((am_s ((p * 8) + t)).toNat))) v)]) hM_84 d_84_27 rfl rfl ?_
      exact hk
    refine ok_if (pc' := 40) (pc2 := 31) hM_84 d_84_28 (by decide) rfl (fun hz4 => ?_) (fun hz4 => ?_)
    · have H := H.1 hz4
      refine ok_sg (pc' := 6) (ls' := [some (.inr (.inr (some 34))), some (.inl p), some (.inr (.inl v)), none, some (.inl x), some (.inl (t + 1))]) (st' := []) (m' := m) (fun fx hfx o hk => ?_) ?_
      · refine r_sto (pc' := 43) (ls' := [some (.inr (.inr (some 34))), some (.inl p), some (.inr (.inl v)), none, some (.inl x), some (.inl (t + 1))]) hM_84 d_84_40 rfl rfl ?_
        refine r_go (pc' := 6) hM_84 d_84_43 (by decide) ?_
        exact hk
      exact H
    · have H := H.2 (Decidable.not_not.mp hz4)
      refine ok_sg (pc' := 6) (ls' := [some (.inr (.inr (some 34))), some (.inl p), some (.inr (.inl v)), none, some (.inl (am_or x (am_shl 1 t))), some (.inl (t + 1))]) (st' := []) (m' := m) (fun fx hfx o hk => ?_) ?_
      · refine r_ld (pc' := 33) hM_84 d_84_31 rfl rfl ?_
        refine r_k (pc' := 34) (v := .inl 1) hM_84 d_84_33 rfl rfl ?_
        refine r_ld (pc' := 36) hM_84 d_84_34 rfl rfl ?_
        refine r_b (pc' := 37) (z := (am_shl 1 t)) hM_84 d_84_36 rfl rfl ?_
        refine r_b (pc' := 38) (z := (am_or x (am_shl 1 t))) hM_84 d_84_37 rfl rfl ?_
        refine r_sto (pc' := 40) (ls' := [some (.inr (.inr (some 34))), some (.inl p), some (.inr (.inl v)), none, some (.inl (am_or x (am_shl 1 t))), some (.inl t)]) hM_84 d_84_38 rfl rfl ?_
        refine r_sto (pc' := 43) (ls' := [some (.inr (.inr (some 34))), some (.inl p), some (.inr (.inl v)), none, some (.inl (am_or x (am_shl 1 t))), some (.inl (t + 1))]) hM_84 d_84_40 rfl rfl ?_
        refine r_go (pc' := 6) hM_84 d_84_43 (by decide) ?_
        exact hk
      exact H
theorem u_84_0 {Q : List am_V → am_M → Prop} {m : am_M} {p : Int} {v : Int}  (H : ok 0 84 6 [some (.inr (.inr (some 34))), some (.inl p), some (.inr (.inl v)), none, some (.inl 0), some (.inl 0)] [] m Q) : ok 0 84 0 [some (.inr (.inr (some 34))), some (.inl p), some (.inr (.inl v)), none, none, none] [] m Q := by
  refine ok_sg (pc' := 6) (ls' := [some (.inr (.inr (some 34))), some (.inl p), some (.inr (.inl v)), none, some (.inl 0), some (.inl 0)]) (st' := []) (m' := m) (fun fx hfx o hk => ?_) ?_
  · refine r_k (pc' := 1) (v := .inl 0) hM_84 d_84_0 rfl rfl ?_
    refine r_sto (pc' := 3) (ls' := [some (.inr (.inr (some 34))), some (.inl p), some (.inr (.inl v)), none, some (.inl 0), none]) hM_84 d_84_1 rfl rfl ?_
    refine r_k (pc' := 4) (v := .inl 0) hM_84 d_84_3 rfl rfl ?_
    refine r_sto (pc' := 6) (ls' := [some (.inr (.inr (some 34))), some (.inl p), some (.inr (.inl v)), none, some (.inl 0), some (.inl 0)]) hM_84 d_84_4 rfl rfl ?_
    exact hk
  exact H
theorem z_84   (m : am_M) (p : Int) (v : Int) (hq : (0 ≤ p ∧ p < 12) ∧ am_t v = v ∧ ∀ t : Nat, t < 8 → am_s (m 35 (8 * p.toNat + t)) = m 35 (8 * p.toNat + t)) : ok 0 84 0 (am_ent 6 [.inr (.inr (some 34)), .inl p, .inr (.inl v)]) [] m (fun rr m' => rr = [] ∧ m' = mu m 36 p.toNat ((msk (fun t => m 35 (8 * p.toNat + t)) v 8 : Nat) : Int)) := by
  show ok 0 84 0 [some (.inr (.inr (some 34))), some (.inl p), some (.inr (.inl v)), none, none, none] [] m _
  obtain ⟨hp, hv, ht⟩ := hq
  obtain ⟨P, rfl⟩ : ∃ P : Nat, p = (P : Int) := ⟨p.toNat, by omega⟩
  rw [Int.toNat_natCast] at ht ⊢
  have hml := fun n => msk_lt (fun t => m 35 (8 * P + t)) v n
  refine u_84_0 ?_
  refine ok_for (σ := Unit) (fun t _ => [some (.inr (.inr (some 34))), some (.inl (P : Int)), some (.inr (.inl v)), none, some (.inl ((msk (fun t => m 35 (8 * P + t)) v t : Nat) : Int)), some (.inl (t : Int))]) (fun t _ M => M = m) 8 ?_ ?_ () m rfl
  · rintro t h - M rfl IH
    have e1 : am_s ((P : Int) * 8 + (t : Int)) = (P : Int) * 8 + (t : Int) := am_s_id (by omega) (by omega)
    have e2 : ((P : Int) * 8 + (t : Int)).toNat = 8 * P + t := by omega
    refine u_84_6 ?_
    rw [am_s_id (z := (t : Int)) (by omega) (by omega), e1, e2, lcmp_eq, am_t_s, ht t h, hv]
    have hs : msk (fun t => M 35 (8 * P + t)) v (t + 1) = if M 35 (8 * P + t) = v then msk (fun t => M 35 (8 * P + t)) v t + 2 ^ t else msk (fun t => M 35 (8 * P + t)) v t := msk_s
    refine ⟨fun q => by omega, fun _ => ⟨by omega, fun q => ?_, fun q => ?_⟩⟩
    · have := IH () M rfl
      rw [hs, if_neg q] at this
      exact this
    · have := IH () M rfl
      rw [hs, if_pos q] at this
      rw [bx_or2 (hml t) (by omega)]
      exact this
  · rintro - M rfl
    refine u_84_6 ?_
    rw [am_s_id (z := ((8 : Nat) : Int)) (by omega) (by omega), am_s_id (z := (P : Int)) (by omega) (by omega), Int.toNat_natCast]
    exact ⟨fun _ => ⟨by omega, rfl, rfl⟩, fun q => by omega⟩
theorem u_82_6 {Q : List am_V → am_M → Prop} {m : am_M} {r : Nat} {p : Int} (h_r : r ∈ rowL) (H : ((am_s (m 2 4) ≤ am_s p) → Q [] m) ∧ ((¬ (am_s (m 2 4) ≤ am_s p)) → (RWC m r) ∧ (((¬ am_s (am_lcmp ((rat m r (am_s p))) 999) = 0) → (0 ≤ am_s p ∧ am_s p < (12 : Nat)) ∧ (((¬ am_s (m 3 ((am_s p).toNat)) = 3) → ((0 ≤ p ∧ p < 12) ∧ am_t ((rat m r (am_s p))) = ((rat m r (am_s p))) ∧ ∀ t : Nat, t < 8 → am_s (m 35 (8 * p.toNat + t)) = m 35 (8 * p.toNat + t)) ∧ (∀ (m1 : am_M), (m1 = mu m 36 p.toNat ((msk (fun t => m 35 (8 * p.toNat + t)) ((rat m r (am_s p))) 8 : Nat) : Int)) → ok 4 82 6 [some (.inr (.inr (some 34))), some (.inr (.inr (some r))), some (.inl (p + 1)), none, none] [] m1 Q)) ∧ ((am_s (m 3 ((am_s p).toNat)) = 3) → ok 4 82 6 [some (.inr (.inr (some 34))), some (.inr (.inr (some r))), some (.inl (p + 1)), none, none] [] (mu m 36 ((am_s p).toNat) 0) Q))) ∧ ((am_s (am_lcmp ((rat m r (am_s p))) 999) = 0) → (0 ≤ am_s p ∧ am_s p < (12 : Nat)) ∧ (ok 4 82 6 [some (.inr (.inr (some 34))), some (.inr (.inr (some r))), some (.inl (p + 1)), none, none] [] (mu m 36 ((am_s p).toNat) 255) Q))))) : ok 4 82 6 [some (.inr (.inr (some 34))), some (.inr (.inr (some r))), some (.inl p), none, none] [] m Q := by
  refine ok_sg (pc' := 14) (ls' := [some (.inr (.inr (some 34))), some (.inr (.inr (some r))), some (.inl p), none, none]) (st' := [.inl (m 2 4), .inl p]) (m' := m) (fun fx hfx o hk => ?_) ?_
  · refine r_ld (pc' := 7) hM_82 d_82_6 rfl rfl ?_
    refine r_ld (pc' := 8) hM_82 d_82_7 rfl rfl ?_
    refine r_gR (pc' := 11) (v := 2) hM_82 d_82_8 rfl (by decide +kernel) ?_
    refine r_gI (pc' := 14) (k0 := 4) hM_82 d_82_11 rfl (by decide +kernel) ?_
    exact hk
  refine ok_ic (pc' := 78) (pc2 := 17) hM_82 d_82_14 (by decide) rfl (fun hz1 => ?_) (fun hz1 => ?_)
  · have H := H.1 hz1
    exact ok_rt (fun fx _ => rt_v hM_82 d_82_78 rfl) H
  · have H := H.2 hz1
    obtain ⟨hz2, H⟩ := H
    refine ok_sg (pc' := 28) (ls' := [some (.inr (.inr (some 34))), some (.inr (.inr (some r))), some (.inl p), some (.inr (.inl ((rat m r (am_s p))))), none]) (st' := [.inl (am_lcmp ((rat m r (am_s p))) 999)]) (m' := m) (fun fx hfx o hk => ?_) ?_
    · refine r_ld (pc' := 18) hM_82 d_82_17 rfl rfl ?_
      refine r_ld (pc' := 19) hM_82 d_82_18 rfl rfl ?_
      refine r_cl (pc' := 22) (c := (56, 0)) (a := [.inr (.inr (some r)), .inl p]) (q := []) hM_82 d_82_19 rfl (by decide +kernel) hM_56 rfl rfl rfl (Nat.le_of_ble_eq_true rfl) (Nat.le_of_ble_eq_true rfl) (Or.inr (rcvR h_r _)) (n_56 h_r m p hz2) (Nat.le_of_ble_eq_true rfl) ?_
      show rn fx 4 (0, 0) 82 22 [some (.inr (.inr (some 34))), some (.inr (.inr (some r))), some (.inl p), none, none] [.inr (.inl ((rat m r (am_s p))))] (st0 m) o
      refine r_sto (pc' := 23) (ls' := [some (.inr (.inr (some 34))), some (.inr (.inr (some r))), some (.inl p), some (.inr (.inl ((rat m r (am_s p))))), none]) hM_82 d_82_22 rfl rfl ?_
      refine r_ld (pc' := 24) hM_82 d_82_23 rfl rfl ?_
      refine r_k (pc' := 27) (v := .inr (.inl 999)) hM_82 d_82_24 rfl (by decide +kernel) ?_
      refine r_stk (pc' := 28) (st' := [.inl (am_lcmp ((rat m r (am_s p))) 999)]) hM_82 d_82_27 rfl rfl ?_
      exact hk
    refine ok_if (pc' := 43) (pc2 := 31) hM_82 d_82_28 (by decide) rfl (fun hz3 => ?_) (fun hz3 => ?_)
    · have H := H.1 hz3
      obtain ⟨hz4, H⟩ := H
      refine ok_sg (pc' := 53) (ls' := [some (.inr (.inr (some 34))), some (.inr (.inr (some r))), some (.inl p), some (.inr (.inl ((rat m r (am_s p))))), none]) (st' := [.inl 3, .inl (m 3 ((am_s p).toNat))]) (m' := m) (fun fx hfx o hk => ?_) ?_
      · refine r_ld (pc' := 44) hM_82 d_82_43 rfl rfl ?_
        refine r_gR (pc' := 47) (v := 2) hM_82 d_82_44 rfl (by decide +kernel) ?_
        refine r_gR (pc' := 50) (v := 3) hM_82 d_82_47 rfl (by decide +kernel) ?_
        refine r_ld (pc' := 51) hM_82 d_82_50 rfl rfl ?_
        refine r_ia (pc' := 52) (n := 12) hM_82 d_82_51 rfl rfl hz4 ?_
        refine r_k (pc' := 53) (v := .inl 3) hM_82 d_82_52 rfl rfl ?_
        exact hk
      refine ok_ic (pc' := 66) (pc2 := 56) hM_82 d_82_53 (by decide) rfl (fun hz5 => ?_) (fun hz5 => ?_)
      · have H := H.1 hz5
        obtain ⟨hz6, H⟩ := H
        refine ok_sg (pc' := 69) (ls' := [some (.inr (.inr (some 34))), some (.inr (.inr (some r))), some (.inl p), some (.inr (.inl ((rat m r (am_s p))))), none]) (st' := [.inr (.inl ((rat m r (am_s p)))), .inl p, .inr (.inr (some 34))]) (m' := m) (fun fx hfx o hk => ?_) ?_
        · refine r_ld (pc' := 67) hM_82 d_82_66 rfl rfl ?_
          refine r_ld (pc' := 68) hM_82 d_82_67 rfl rfl ?_
          refine r_ld (pc' := 69) hM_82 d_82_68 rfl rfl ?_
          exact hk
        refine ok_cl (pc' := 72) (c := (84, 0)) (a := [.inr (.inr (some 34)), .inl p, .inr (.inl ((rat m r (am_s p))))]) (q := []) hM_82 d_82_69 rfl (by decide +kernel) hM_84 rfl rfl rfl (Nat.le_of_ble_eq_true rfl) (Nat.le_of_ble_eq_true rfl) (Or.inr rfl) (z_84  m p ((rat m r (am_s p))) hz6) (Nat.le_of_ble_eq_true rfl) ?_
        rintro _ m1 ⟨rfl, hz7⟩
        replace H := H  m1 hz7
        show ok 4 82 72 [some (.inr (.inr (some 34))), some (.inr (.inr (some r))), some (.inl p), some (.inr (.inl ((rat m r (am_s p))))), none] [] m1 Q
        refine ok_sg (pc' := 6) (ls' := [some (.inr (.inr (some 34))), some (.inr (.inr (some r))), some (.inl (p + 1)), none, none]) (st' := []) (m' := m1) (fun fx hfx o hk => ?_) ?_
        · refine r_sto (pc' := 75) (ls' := [some (.inr (.inr (some 34))), some (.inr (.inr (some r))), some (.inl (p + 1)), some (.inr (.inl ((rat m r (am_s p))))), none]) hM_82 d_82_72 rfl rfl ?_
          refine r_go (pc' := 6) hM_82 d_82_75 (by decide) ?_
          refine rn_wk (a := [some (.inr (.inr (some 34))), some (.inr (.inr (some r))), some (.inl (p + 1)), none, none]) (by simp only [am_le, and_self]) ?_
          exact hk
        exact H
      · have H := H.2 (Decidable.not_not.mp hz5)
        refine ok_sg (pc' := 6) (ls' := [some (.inr (.inr (some 34))), some (.inr (.inr (some r))), some (.inl (p + 1)), none, none]) (st' := []) (m' := mu m 36 ((am_s p).toNat) 0) (fun fx hfx o hk => ?_) ?_
        · refine r_ld (pc' := 57) hM_82 d_82_56 rfl rfl ?_
          refine r_gR (pc' := 60) (v := 36) hM_82 d_82_57 rfl (by decide +kernel) ?_
          refine r_ld (pc' := 61) hM_82 d_82_60 rfl rfl ?_
          refine r_k (pc' := 62) (v := .inl 0) hM_82 d_82_61 rfl rfl ?_
          refine r_is (pc' := 63) (n := 12) hM_82 d_82_62 rfl rfl hz4 ?_
          refine r_go (pc' := 72) hM_82 d_82_63 (by decide) ?_
          refine r_sto (pc' := 75) (ls' := [some (.inr (.inr (some 34))), some (.inr (.inr (some r))), some (.inl (p + 1)), some (.inr (.inl ((rat m r (am_s p))))), none]) hM_82 d_82_72 rfl rfl ?_
          refine r_go (pc' := 6) hM_82 d_82_75 (by decide) ?_
          refine rn_wk (a := [some (.inr (.inr (some 34))), some (.inr (.inr (some r))), some (.inl (p + 1)), none, none]) (by simp only [am_le, and_self]) ?_
          exact hk
        exact H
    · have H := H.2 (Decidable.not_not.mp hz3)
      obtain ⟨hz8, H⟩ := H
      refine ok_sg (pc' := 6) (ls' := [some (.inr (.inr (some 34))), some (.inr (.inr (some r))), some (.inl (p + 1)), none, none]) (st' := []) (m' := mu m 36 ((am_s p).toNat) 255) (fun fx hfx o hk => ?_) ?_
      · refine r_ld (pc' := 32) hM_82 d_82_31 rfl rfl ?_
        refine r_gR (pc' := 35) (v := 36) hM_82 d_82_32 rfl (by decide +kernel) ?_
        refine r_ld (pc' := 36) hM_82 d_82_35 rfl rfl ?_
        refine r_k (pc' := 39) (v := .inl 255) hM_82 d_82_36 rfl rfl ?_
        refine r_is (pc' := 40) (n := 12) hM_82 d_82_39 rfl rfl hz8 ?_
        refine r_go (pc' := 72) hM_82 d_82_40 (by decide) ?_
        refine r_sto (pc' := 75) (ls' := [some (.inr (.inr (some 34))), some (.inr (.inr (some r))), some (.inl (p + 1)), some (.inr (.inl ((rat m r (am_s p))))), none]) hM_82 d_82_72 rfl rfl ?_
        refine r_go (pc' := 6) hM_82 d_82_75 (by decide) ?_
        refine rn_wk (a := [some (.inr (.inr (some 34))), some (.inr (.inr (some r))), some (.inl (p + 1)), none, none]) (by simp only [am_le, and_self]) ?_
        exact hk
      exact H
theorem u_82_0 {Q : List am_V → am_M → Prop} {m : am_M} {r : Nat} (h_r : r ∈ rowL) (H : (WFG (vw m 2)) ∧ (∀ (m1 : am_M), (LIS m m1) → ok 4 82 6 [some (.inr (.inr (some 34))), some (.inr (.inr (some r))), some (.inl 0), none, none] [] m1 Q)) : ok 4 82 0 [some (.inr (.inr (some 34))), some (.inr (.inr (some r))), none, none, none] [] m Q := by
  obtain ⟨hz1, H⟩ := H
  refine ok_sg (pc' := 1) (ls' := [some (.inr (.inr (some 34))), some (.inr (.inr (some r))), none, none, none]) (st' := [.inr (.inr (some 34))]) (m' := m) (fun fx hfx o hk => ?_) ?_
  · refine r_ld (pc' := 1) hM_82 d_82_0 rfl rfl ?_
    exact hk
  refine ok_cl (pc' := 4) (c := (83, 0)) (a := [.inr (.inr (some 34))]) (q := []) hM_82 d_82_1 rfl (by decide +kernel) hM_83 rfl rfl rfl (Nat.le_of_ble_eq_true rfl) (Nat.le_of_ble_eq_true rfl) (Or.inr rfl) (z_83  m  hz1) (Nat.le_of_ble_eq_true rfl) ?_
  rintro _ m1 ⟨rfl, hz2⟩
  replace H := H  m1 hz2
  show ok 4 82 4 [some (.inr (.inr (some 34))), some (.inr (.inr (some r))), none, none, none] [] m1 Q
  refine ok_sg (pc' := 6) (ls' := [some (.inr (.inr (some 34))), some (.inr (.inr (some r))), some (.inl 0), none, none]) (st' := []) (m' := m1) (fun fx hfx o hk => ?_) ?_
  · refine r_k (pc' := 5) (v := .inl 0) hM_82 d_82_4 rfl rfl ?_
    refine r_sto (pc' := 6) (ls' := [some (.inr (.inr (some 34))), some (.inr (.inr (some r))), some (.inl 0), none, none]) hM_82 d_82_5 rfl rfl ?_
    exact hk
  exact H
