theorem u_139_17 {Q : List am_V → am_M → Prop} {m : am_M} {r : Nat} {f : Int} {t : Int} {x : Int} {n : Int} {i : Int} (h_r : r ∈ rowL) (H : ((am_s n ≤ am_s i) → Q [.inl x] m) ∧ ((¬ (am_s n ≤ am_s i)) → (0 ≤ am_s i ∧ am_s i < (10 : Nat)) ∧ (((am_s (m 48 ((am_s i).toNat)) < am_s f) → ok 3 139 17 [some (.inr (.inr (some 46))), some (.inr (.inr (some r))), some (.inl f), some (.inl t), some (.inl x), some (.inl n), some (.inl (i + 1))] [] m Q) ∧ ((¬ (am_s (m 48 ((am_s i).toNat)) < am_s f)) → (OPR m r ∧ LKD m r ∧ (0 ≤ (m 48 ((am_s i).toNat)) ∧ (m 48 ((am_s i).toNat)) < m r 2) ∧ 0 ≤ t ∧ t < 4096) ∧ (∀ (m1 : am_M), (m1 = m) → ((am_s ((cT (sdp (nv (vw m 2))) (rpn (nv (vw m 2))) (m 2 4).toNat t.toNat (rat m r (m 48 ((am_s i).toNat))) : Nat) : Int) ≤ am_s x) → ok 3 139 17 [some (.inr (.inr (some 46))), some (.inr (.inr (some r))), some (.inl f), some (.inl t), some (.inl x), some (.inl n), some (.inl (i + 1))] [] m1 Q) ∧ ((¬ (am_s ((cT (sdp (nv (vw m 2))) (rpn (nv (vw m 2))) (m 2 4).toNat t.toNat (rat m r (m 48 ((am_s i).toNat))) : Nat) : Int) ≤ am_s x)) → ok 3 139 17 [some (.inr (.inr (some 46))), some (.inr (.inr (some r))), some (.inl f), some (.inl t), some (.inl (x + 1)), some (.inl n), some (.inl (i + 1))] [] m1 Q)))))) : ok 3 139 17 [some (.inr (.inr (some 46))), some (.inr (.inr (some r))), some (.inl f), some (.inl t), some (.inl x), some (.inl n), some (.inl i)] [] m Q := by
  refine ok_sg (pc' := 21) (ls' := [some (.inr (.inr (some 46))), some (.inr (.inr (some r))), some (.inl f), some (.inl t), some (.inl x), some (.inl n), some (.inl i)]) (st' := [.inl n, .inl i]) (m' := m) (fun fx hfx o hk => ?_) ?_
  · refine r_ld (pc' := 19) hM_139 d_139_17 rfl rfl ?_
    refine r_ld (pc' := 21) hM_139 d_139_19 rfl rfl ?_
    exact hk
  refine ok_ic (pc' := 62) (pc2 := 24) hM_139 d_139_21 (by decide) rfl (fun hz1 => ?_) (fun hz1 => ?_)
  · have H := H.1 hz1
    refine ok_sg (pc' := 64) (ls' := [some (.inr (.inr (some 46))), some (.inr (.inr (some r))), some (.inl f), some (.inl t), some (.inl x), some (.inl n), some (.inl i)]) (st' := [.inl x]) (m' := m) (fun fx hfx o hk => ?_) ?_
    · refine r_ld (pc' := 64) hM_139 d_139_62 rfl rfl ?_
      exact hk
    exact ok_rt (fun fx _ => rt_i hM_139 d_139_64 rfl) H
  · have H := H.2 hz1
    obtain ⟨hz2, H⟩ := H
    refine ok_sg (pc' := 32) (ls' := [some (.inr (.inr (some 46))), some (.inr (.inr (some r))), some (.inl f), some (.inl t), some (.inl x), some (.inl n), some (.inl i)]) (st' := [.inl f, .inl (m 48 ((am_s i).toNat))]) (m' := m) (fun fx hfx o hk => ?_) ?_
    · refine r_ld (pc' := 25) hM_139 d_139_24 rfl rfl ?_
      refine r_gR (pc' := 28) (v := 48) hM_139 d_139_25 rfl (by decide +kernel) ?_
      refine r_ld (pc' := 30) hM_139 d_139_28 rfl rfl ?_
      refine r_ia (pc' := 31) (n := 10) hM_139 d_139_30 rfl rfl hz2 ?_
      refine r_ld (pc' := 32) hM_139 d_139_31 rfl rfl ?_
      exact hk
    refine ok_ic (pc' := 56) (pc2 := 35) hM_139 d_139_32 (by decide) rfl (fun hz3 => ?_) (fun hz3 => ?_)
    · have H := H.1 hz3
      refine ok_sg (pc' := 17) (ls' := [some (.inr (.inr (some 46))), some (.inr (.inr (some r))), some (.inl f), some (.inl t), some (.inl x), some (.inl n), some (.inl (i + 1))]) (st' := []) (m' := m) (fun fx hfx o hk => ?_) ?_
      · refine r_sto (pc' := 59) (ls' := [some (.inr (.inr (some 46))), some (.inr (.inr (some r))), some (.inl f), some (.inl t), some (.inl x), some (.inl n), some (.inl (i + 1))]) hM_139 d_139_56 rfl rfl ?_
        refine r_go (pc' := 17) hM_139 d_139_59 (by decide) ?_
        exact hk
      exact H
    · have H := H.2 hz3
      obtain ⟨hz4, H⟩ := H
      refine ok_sg (pc' := 45) (ls' := [some (.inr (.inr (some 46))), some (.inr (.inr (some r))), some (.inl f), some (.inl t), some (.inl x), some (.inl n), some (.inl i)]) (st' := [.inl t, .inl (m 48 ((am_s i).toNat)), .inr (.inr (some r)), .inr (.inr (some 46))]) (m' := m) (fun fx hfx o hk => ?_) ?_
      · refine r_ld (pc' := 36) hM_139 d_139_35 rfl rfl ?_
        refine r_ld (pc' := 37) hM_139 d_139_36 rfl rfl ?_
        refine r_ld (pc' := 38) hM_139 d_139_37 rfl rfl ?_
        refine r_gR (pc' := 41) (v := 48) hM_139 d_139_38 rfl (by decide +kernel) ?_
        refine r_ld (pc' := 43) hM_139 d_139_41 rfl rfl ?_
        refine r_ia (pc' := 44) (n := 10) hM_139 d_139_43 rfl rfl hz2 ?_
        refine r_ld (pc' := 45) hM_139 d_139_44 rfl rfl ?_
        exact hk
      refine ok_cl (pc' := 48) (c := (140, 0)) (a := [.inr (.inr (some 46)), .inr (.inr (some r)), .inl (m 48 ((am_s i).toNat)), .inl t]) (q := []) hM_139 d_139_45 rfl (by decide +kernel) hM_140 rfl rfl rfl (Nat.le_of_ble_eq_true rfl) (Nat.le_of_ble_eq_true rfl) (Or.inr rfl) (z_140 h_r m (m 48 ((am_s i).toNat)) t hz4) (Nat.le_of_ble_eq_true rfl) ?_
      rintro _ m1 ⟨rfl, hz5⟩
      replace H := H  m1 hz5
      show ok 3 139 48 [some (.inr (.inr (some 46))), some (.inr (.inr (some r))), some (.inl f), some (.inl t), some (.inl x), some (.inl n), some (.inl i)] [.inl ((cT (sdp (nv (vw m 2))) (rpn (nv (vw m 2))) (m 2 4).toNat t.toNat (rat m r (m 48 ((am_s i).toNat))) : Nat) : Int)] m1 Q
      refine ok_sg (pc' := 50) (ls' := [some (.inr (.inr (some 46))), some (.inr (.inr (some r))), some (.inl f), some (.inl t), some (.inl x), some (.inl n), some (.inl i)]) (st' := [.inl x, .inl ((cT (sdp (nv (vw m 2))) (rpn (nv (vw m 2))) (m 2 4).toNat t.toNat (rat m r (m 48 ((am_s i).toNat))) : Nat) : Int)]) (m' := m1) (fun fx hfx o hk => ?_) ?_
      · refine r_ld (pc' := 50) hM_139 d_139_48 rfl rfl ?_
        exact hk
      refine ok_ic (pc' := 56) (pc2 := 53) hM_139 d_139_50 (by decide) rfl (fun hz6 => ?_) (fun hz6 => ?_)
      · have H := H.1 hz6
        refine ok_sg (pc' := 17) (ls' := [some (.inr (.inr (some 46))), some (.inr (.inr (some r))), some (.inl f), some (.inl t), some (.inl x), some (.inl n), some (.inl (i + 1))]) (st' := []) (m' := m1) (fun fx hfx o hk => ?_) ?_
        · refine r_sto (pc' := 59) (ls' := [some (.inr (.inr (some 46))), some (.inr (.inr (some r))), some (.inl f), some (.inl t), some (.inl x), some (.inl n), some (.inl (i + 1))]) hM_139 d_139_56 rfl rfl ?_
          refine r_go (pc' := 17) hM_139 d_139_59 (by decide) ?_
          exact hk
        exact H
      · have H := H.2 hz6
        refine ok_sg (pc' := 17) (ls' := [some (.inr (.inr (some 46))), some (.inr (.inr (some r))), some (.inl f), some (.inl t), some (.inl (x + 1)), some (.inl n), some (.inl (i + 1))]) (st' := []) (m' := m1) (fun fx hfx o hk => ?_) ?_
        · refine r_sto (pc' := 56) (ls' := [some (.inr (.inr (some 46))), some (.inr (.inr (some r))), some (.inl f), some (.inl t), some (.inl (x + 1)), some (.inl n), some (.inl i)]) hM_139 d_139_53 rfl rfl ?_
          refine r_sto (pc' := 59) (ls' := [some (.inr (.inr (some 46))), some (.inr (.inr (some r))), some (.inl f), some (.inl t), some (.inl (x + 1)), some (.inl n), some (.inl (i + 1))]) hM_139 d_139_56 rfl rfl ?_
          refine r_go (pc' := 17) hM_139 d_139_59 (by decide) ?_
          exact hk
        exact H
theorem u_139_0 {Q : List am_V → am_M → Prop} {m : am_M} {r : Nat} {f : Int} {t : Int} (h_r : r ∈ rowL) (H : ok 3 139 17 [some (.inr (.inr (some 46))), some (.inr (.inr (some r))), some (.inl f), some (.inl t), some (.inl 0), some (.inl (v_14 m (m r 2) 10)), some (.inl 0)] [] m Q) : ok 3 139 0 [some (.inr (.inr (some 46))), some (.inr (.inr (some r))), some (.inl f), some (.inl t), none, none, none] [] m Q := by
  refine ok_sg (pc' := 17) (ls' := [some (.inr (.inr (some 46))), some (.inr (.inr (some r))), some (.inl f), some (.inl t), some (.inl 0), some (.inl (v_14 m (m r 2) 10)), some (.inl 0)]) (st' := []) (m' := m) (fun fx hfx o hk => ?_) ?_
  · refine r_k (pc' := 1) (v := .inl 0) hM_139 d_139_0 rfl rfl ?_
    refine r_sto (pc' := 3) (ls' := [some (.inr (.inr (some 46))), some (.inr (.inr (some r))), some (.inl f), some (.inl t), some (.inl 0), none, none]) hM_139 d_139_1 rfl rfl ?_
    refine r_ld (pc' := 4) hM_139 d_139_3 rfl rfl ?_
    refine r_gI (pc' := 7) (k0 := 2) hM_139 d_139_4 rfl (gfR_2_49 h_r) ?_
    refine r_k (pc' := 9) (v := .inl 10) hM_139 d_139_7 rfl rfl ?_
    refine r_cl (pc' := 12) (c := (14, 2)) (a := [.inl (m r 2), .inl 10]) (q := []) hM_139 d_139_9 rfl (by decide +kernel) hM_14 rfl rfl rfl (Nat.le_of_ble_eq_true rfl) (Nat.le_of_ble_eq_true rfl) (Or.inl rfl) (c_14  m (m r 2) 10) (Nat.le_of_ble_eq_true rfl) ?_
    show rn fx 3 (0, 0) 139 12 [some (.inr (.inr (some 46))), some (.inr (.inr (some r))), some (.inl f), some (.inl t), some (.inl 0), none, none] [.inl (v_14 m (m r 2) 10)] (st0 m) o
    refine r_sto (pc' := 14) (ls' := [some (.inr (.inr (some 46))), some (.inr (.inr (some r))), some (.inl f), some (.inl t), some (.inl 0), some (.inl (v_14 m (m r 2) 10)), none]) hM_139 d_139_12 rfl rfl ?_
    refine r_k (pc' := 15) (v := .inl 0) hM_139 d_139_14 rfl rfl ?_
    refine r_sto (pc' := 17) (ls' := [some (.inr (.inr (some 46))), some (.inr (.inr (some r))), some (.inl f), some (.inl t), some (.inl 0), some (.inl (v_14 m (m r 2) 10)), some (.inl 0)]) hM_139 d_139_15 rfl rfl ?_
    exact hk
  exact H
theorem z_139 {r : Nat} (h_r : r ∈ rowL) (m : am_M) (f : Int) (t : Int) (hq : OPR m r ∧ LKD m r ∧ (0 ≤ f ∧ f < 100) ∧ 0 ≤ t ∧ t < 4096) : ok 3 139 0 (am_ent 7 [.inr (.inr (some 46)), .inr (.inr (some r)), .inl f, .inl t]) [] m (fun rr m' => rr = [.inl (((Mv (sdp (nv (vw m 2))) (rpn (nv (vw m 2))) (m 2 4).toNat (fun x => rat m r (x : Int)) (m r 2).toNat f.toNat t.toNat : Nat) : Int))] ∧ m' = m) := by
  show ok 3 139 0 [some (.inr (.inr (some 46))), some (.inr (.inr (some r))), some (.inl f), some (.inl t), none, none, none] [] m _
  obtain ⟨hO, hL, hf, ht⟩ := hq
  have hN := vwN hO.1
  have hn := hO.2.2.2.1
  have hR := hO.2.2.1
  obtain ⟨F, rfl⟩ : ∃ K : Nat, f = (K : Int) := ⟨f.toNat, by omega⟩
  obtain ⟨T, rfl⟩ : ∃ T : Nat, t = (T : Int) := ⟨t.toNat, by omega⟩
  obtain ⟨n, hnv⟩ : ∃ n : Nat, m r 2 = (n : Int) := ⟨(m r 2).toNat, by omega⟩
  obtain ⟨b, l1, l2, l3⟩ := hL.2
  have hnn := hO.2.2.2.2
  simp only [Int.toNat_natCast]
  rw [hnv] at l1 l2 l3 hnn ⊢
  simp only [Int.toNat_natCast] at l2 ⊢
  have hrp : ∀ p, p < (m 2 4).toNat → sdp (nv (vw m 2)) p = true → 0 ≤ rpn (nv (vw m 2)) p := fun p hp hs => (OPR_rp hO (by omega) (of_decide_eq_true hs)).1
  refine u_139_0 h_r ?_
  rw [hnv, v14 (by omega) (by omega) (by omega) (by omega), show min (n : Int) 10 = (n : Int) by omega]
  have hcTl : ∀ x, cT (sdp (nv (vw m 2))) (rpn (nv (vw m 2))) (m 2 4).toNat T x ≤ (m 2 4).toNat := fun x => cf_le _
  have key := ok_for (d := 3) (mi := 139) (pc := 17) (Q := fun rr m' => rr = [.inl ((Mv (sdp (nv (vw m 2))) (rpn (nv (vw m 2))) (m 2 4).toNat (fun k => rat m r (k : Int)) n F T : Nat) : Int)] ∧ m' = m) (σ := Nat) (fun i x => [some (.inr (.inr (some 46))), some (.inr (.inr (some r))), some (.inl (F : Int)), some (.inl (T : Int)), some (.inl (x : Int)), some (.inl (n : Int)), some (.inl (i : Int))]) (fun i h M => M = m ∧ h ≤ i ∧ (∀ x : Int, -1 ≤ x → h ≤ cT (sdp (nv (vw m 2))) (rpn (nv (vw m 2))) (m 2 4).toNat T x + cf (fun i => decide (F ≤ b i) && decide (x < rat m r (b i : Int))) i) ∧ ∃ x : Int, -1 ≤ x ∧ cT (sdp (nv (vw m 2))) (rpn (nv (vw m 2))) (m 2 4).toNat T x + cf (fun i => decide (F ≤ b i) && decide (x < rat m r (b i : Int))) i = h) n ?_ ?_ 0 m ⟨rfl, Nat.le_refl _, fun _ _ => Nat.zero_le _, -1, Int.le_refl _, by rw [cT_m1 hrp]; rfl⟩
  · exact key
  · rintro i hi h M ⟨hM, h0, h1, x0, x1, x2⟩ IH
    rw [hM]
    obtain ⟨y1, y2⟩ := l1 i (by omega)
    have hwb := hnn (b i) (by omega)
    have hst : ∀ x : Int, cf (fun i => decide (F ≤ b i) && decide (x < rat m r (b i : Int))) (i + 1) = cf (fun i => decide (F ≤ b i) && decide (x < rat m r (b i : Int))) i + if F ≤ b i ∧ x < rat m r (b i : Int) then 1 else 0 := by
      intro x
      rw [cf_s]
      congr 1
      by_cases hc : F ≤ b i ∧ x < rat m r (b i : Int)
      · rw [if_pos hc, if_pos (by rw [decide_eq_true hc.1, decide_eq_true hc.2]; rfl)]
      · rw [if_neg hc, if_neg]
        intro q
        rw [Bool.and_eq_true, decide_eq_true_eq, decide_eq_true_eq] at q
        exact hc q
    have hcw := hcTl (rat m r (b i : Int))
    refine u_139_17 h_r ?_
    rw [hnv, am_s_id (z := (n : Int)) (by omega) (by omega), am_s_id (z := (i : Int)) (by omega) (by omega), Int.toNat_natCast, y1, am_s_id (z := ((b i : Nat) : Int)) (by omega) (by omega), am_s_id (z := (F : Int)) (by omega) (by omega), am_s_id (z := (h : Int)) (by omega) (by omega), Int.toNat_natCast, am_s_id (z := ((cT (sdp (nv (vw m 2))) (rpn (nv (vw m 2))) (m 2 4).toNat T (rat m r (b i : Int)) : Nat) : Int)) (by omega) (by omega)]
    refine ⟨fun q => by omega, fun _ => ⟨by omega, fun q => ?_, fun q => ⟨⟨hO, hL, by omega, by omega⟩, ?_⟩⟩⟩
    · refine IH h m ⟨rfl, by omega, fun x hx => ?_, x0, x1, ?_⟩
      · rw [hst, if_neg (by omega)]
        exact h1 x hx
      · rw [hst, if_neg (by omega)]
        exact x2
    · intro mx hmx
      rw [hmx]
      refine ⟨fun q2 => ?_, fun q2 => ?_⟩
      · refine IH h m ⟨rfl, by omega, fun x hx => ?_, rat m r (b i : Int), by omega, ?_⟩
        · have := h1 x hx
          rw [hst]
          omega
        · have hz : cf (fun i => decide (F ≤ b i) && decide (rat m r (b i : Int) < rat m r (b i : Int))) i ≤ i := cf_le i
          have hz2 : cf (fun j => decide (F ≤ b j) && decide (rat m r (b i : Int) < rat m r (b j : Int))) i = 0 := cf_none i fun j hj hq => by
            rw [Bool.and_eq_true, decide_eq_true_eq, decide_eq_true_eq] at hq
            have := l3 j i hj (by omega)
            omega
          have := h1 (rat m r (b i : Int)) (by omega)
          rw [hst, if_neg (by omega)]
          omega
      · refine IH (h + 1) m ⟨rfl, by omega, fun x hx => ?_, x0, x1, ?_⟩
        · have := h1 x hx
          rw [hst]
          by_cases hc : x < rat m r (b i : Int)
          · rw [if_pos ⟨by omega, hc⟩]
            omega
          · have hm := cT_mono (S := sdp (nv (vw m 2))) (r := rpn (nv (vw m 2))) (N := (m 2 4).toNat) (T := T) (show rat m r (b i : Int) ≤ x by omega)
            omega
        · rw [hst]
          by_cases hc : x0 < rat m r (b i : Int)
          · rw [if_pos ⟨by omega, hc⟩]
            omega
          · have hm := cT_mono (S := sdp (nv (vw m 2))) (r := rpn (nv (vw m 2))) (N := (m 2 4).toNat) (T := T) (show rat m r (b i : Int) ≤ x0 by omega)
            omega
  · rintro h M ⟨hM, h0, h1, x0, x1, x2⟩
    rw [hM]
    have hu : ∀ x : Int, cf (fun i => decide (F ≤ b i) && decide (x < rat m r (b i : Int))) n = uK (fun k => rat m r (k : Int)) n F x := fun x => l2 (fun j => decide (F ≤ j) && decide (x < rat m r (j : Int)))
    have hIM : IM (sdp (nv (vw m 2))) (rpn (nv (vw m 2))) (m 2 4).toNat (fun k => rat m r (k : Int)) n F T h := ⟨fun x hx => by rw [← hu]; exact h1 x hx, x0, x1, by rw [← hu]; exact x2⟩
    refine u_139_17 h_r ?_
    rw [am_s_id (z := (n : Int)) (by omega) (by omega), Mv_eq hIM]
    exact ⟨fun _ => ⟨rfl, rfl⟩, fun q => by omega⟩
theorem u_143_3 {Q : List am_V → am_M → Prop} {m : am_M} {r : Nat} {k : Int} {t : Int} {x : Int} {p : Int} (h_r : r ∈ rowL) (H : ((am_s (m 2 4) ≤ am_s p) → Q [.inl (-1)] m) ∧ ((¬ (am_s (m 2 4) ≤ am_s p)) → (q_141 m r k p t) ∧ (((am_s (v_141 m r k p t) = 0) → ok 4 143 3 [some (.inr (.inr (some 46))), some (.inr (.inr (some r))), some (.inl k), some (.inl t), some (.inl x), some (.inl (p + 1))] [] m Q) ∧ ((¬ (am_s (v_141 m r k p t) = 0)) → (OPR m r ∧ LKD m r ∧ (0 ≤ (k + 1) ∧ (k + 1) < 100) ∧ 0 ≤ (am_or t (am_shl 1 p)) ∧ (am_or t (am_shl 1 p)) < 4096) ∧ (∀ (m1 : am_M), (m1 = m) → ((¬ am_s (((Mv (sdp (nv (vw m 2))) (rpn (nv (vw m 2))) (m 2 4).toNat (fun x => rat m r (x : Int)) (m r 2).toNat (k + 1).toNat (am_or t (am_shl 1 p)).toNat : Nat) : Int) + 1) = am_s x) → ok 4 143 3 [some (.inr (.inr (some 46))), some (.inr (.inr (some r))), some (.inl k), some (.inl t), some (.inl x), some (.inl (p + 1))] [] m1 Q) ∧ ((am_s (((Mv (sdp (nv (vw m 2))) (rpn (nv (vw m 2))) (m 2 4).toNat (fun x => rat m r (x : Int)) (m r 2).toNat (k + 1).toNat (am_or t (am_shl 1 p)).toNat : Nat) : Int) + 1) = am_s x) → Q [.inl p] m1)))))) : ok 4 143 3 [some (.inr (.inr (some 46))), some (.inr (.inr (some r))), some (.inl k), some (.inl t), some (.inl x), some (.inl p)] [] m Q := by
  refine ok_sg (pc' := 12) (ls' := [some (.inr (.inr (some 46))), some (.inr (.inr (some r))), some (.inl k), some (.inl t), some (.inl x), some (.inl p)]) (st' := [.inl (m 2 4), .inl p]) (m' := m) (fun fx hfx o hk => ?_) ?_
  · refine r_ld (pc' := 5) hM_143 d_143_3 rfl rfl ?_
    refine r_ld (pc' := 6) hM_143 d_143_5 rfl rfl ?_
    refine r_gR (pc' := 9) (v := 2) hM_143 d_143_6 rfl (by decide +kernel) ?_
    refine r_gI (pc' := 12) (k0 := 4) hM_143 d_143_9 rfl (by decide +kernel) ?_
    exact hk
  refine ok_ic (pc' := 57) (pc2 := 15) hM_143 d_143_12 (by decide) rfl (fun hz1 => ?_) (fun hz1 => ?_)
  · have H := H.1 hz1
    refine ok_sg (pc' := 58) (ls' := [some (.inr (.inr (some 46))), some (.inr (.inr (some r))), some (.inl k), some (.inl t), some (.inl x), some (.inl p)]) (st' := [.inl (-1)]) (m' := m) (fun fx hfx o hk => ?_) ?_
    · refine r_k (pc' := 58) (v := .inl (-1)) hM_143 d_143_57 rfl rfl ?_
      exact hk
    exact ok_rt (fun fx _ => rt_i hM_143 d_143_58 rfl) H
  · have H := H.2 hz1
    obtain ⟨hz2, H⟩ := H
    refine ok_sg (pc' := 24) (ls' := [some (.inr (.inr (some 46))), some (.inr (.inr (some r))), some (.inl k), some (.inl t), some (.inl x), some (.inl p)]) (st' := [.inl (v_141 m r k p t)]) (m' := m) (fun fx hfx o hk => ?_) ?_
    · refine r_ld (pc' := 16) hM_143 d_143_15 rfl rfl ?_
      refine r_ld (pc' := 17) hM_143 d_143_16 rfl rfl ?_
      refine r_ld (pc' := 18) hM_143 d_143_17 rfl rfl ?_
      refine r_ld (pc' := 20) hM_143 d_143_18 rfl rfl ?_
      refine r_ld (pc' := 21) hM_143 d_143_20 rfl rfl ?_
      refine r_cl (pc' := 24) (c := (141, 0)) (a := [.inr (.inr (some 46)), .inr (.inr (some r)), .inl k, .inl p, .inl t]) (q := []) hM_143 d_143_21 rfl (by decide +kernel) hM_141 rfl rfl rfl (Nat.le_of_ble_eq_true rfl) (Nat.le_of_ble_eq_true rfl) (Or.inr rfl) (c_141 h_r m k p t hz2) (Nat.le_of_ble_eq_true rfl) ?_
      show rn fx 4 (0, 0) 143 24 [some (.inr (.inr (some 46))), some (.inr (.inr (some r))), some (.inl k), some (.inl t), some (.inl x), some (.inl p)] [.inl (v_141 m r k p t)] (st0 m) o
      exact hk
    refine ok_if (pc' := 51) (pc2 := 27) hM_143 d_143_24 (by decide) rfl (fun hz3 => ?_) (fun hz3 => ?_)
    · have H := H.1 hz3
      refine ok_sg (pc' := 3) (ls' := [some (.inr (.inr (some 46))), some (.inr (.inr (some r))), some (.inl k), some (.inl t), some (.inl x), some (.inl (p + 1))]) (st' := []) (m' := m) (fun fx hfx o hk => ?_) ?_
      · refine r_sto (pc' := 54) (ls' := [some (.inr (.inr (some 46))), some (.inr (.inr (some r))), some (.inl k), some (.inl t), some (.inl x), some (.inl (p + 1))]) hM_143 d_143_51 rfl rfl ?_
        refine r_go (pc' := 3) hM_143 d_143_54 (by decide) ?_
        exact hk
      exact H
    · have H := H.2 hz3
      obtain ⟨hz4, H⟩ := H
      refine ok_sg (pc' := 38) (ls' := [some (.inr (.inr (some 46))), some (.inr (.inr (some r))), some (.inl k), some (.inl t), some (.inl x), some (.inl p)]) (st' := [.inl (am_or t (am_shl 1 p)), .inl (k + 1), .inr (.inr (some r)), .inr (.inr (some 46))]) (m' := m) (fun fx hfx o hk => ?_) ?_
      · refine r_ld (pc' := 28) hM_143 d_143_27 rfl rfl ?_
        refine r_ld (pc' := 29) hM_143 d_143_28 rfl rfl ?_
        refine r_ld (pc' := 30) hM_143 d_143_29 rfl rfl ?_
        refine r_k (pc' := 31) (v := .inl 1) hM_143 d_143_30 rfl rfl ?_
        refine r_b (pc' := 32) (z := (k + 1)) hM_143 d_143_31 rfl rfl ?_
        refine r_ld (pc' := 33) hM_143 d_143_32 rfl rfl ?_
        refine r_k (pc' := 34) (v := .inl 1) hM_143 d_143_33 rfl rfl ?_
        refine r_ld (pc' := 36) hM_143 d_143_34 rfl rfl ?_
        refine r_b (pc' := 37) (z := (am_shl 1 p)) hM_143 d_143_36 rfl rfl ?_
        refine r_b (pc' := 38) (z := (am_or t (am_shl 1 p))) hM_143 d_143_37 rfl rfl ?_
        exact hk
      refine ok_cl (pc' := 41) (c := (139, 0)) (a := [.inr (.inr (some 46)), .inr (.inr (some r)), .inl (k + 1), .inl (am_or t (am_shl 1 p))]) (q := []) hM_143 d_143_38 rfl (by decide +kernel) hM_139 rfl rfl rfl (Nat.le_of_ble_eq_true rfl) (Nat.le_of_ble_eq_true rfl) (Or.inr rfl) (z_139 h_r m (k + 1) (am_or t (am_shl 1 p)) hz4) (Nat.le_of_ble_eq_true rfl) ?_
      rintro _ m1 ⟨rfl, hz5⟩
      replace H := H  m1 hz5
      show ok 4 143 41 [some (.inr (.inr (some 46))), some (.inr (.inr (some r))), some (.inl k), some (.inl t), some (.inl x), some (.inl p)] [.inl ((Mv (sdp (nv (vw m 2))) (rpn (nv (vw m 2))) (m 2 4).toNat (fun x => rat m r (x : Int)) (m r 2).toNat (k + 1).toNat (am_or t (am_shl 1 p)).toNat : Nat) : Int)] m1 Q
      refine ok_sg (pc' := 45) (ls' := [some (.inr (.inr (some 46))), some (.inr (.inr (some r))), some (.inl k), some (.inl t), some (.inl x), some (.inl p)]) (st' := [.inl x, .inl (((Mv (sdp (nv (vw m 2))) (rpn (nv (vw m 2))) (m 2 4).toNat (fun x => rat m r (x : Int)) (m r 2).toNat (k + 1).toNat (am_or t (am_shl 1 p)).toNat : Nat) : Int) + 1)]) (m' := m1) (fun fx hfx o hk => ?_) ?_
      · refine r_k (pc' := 42) (v := .inl 1) hM_143 d_143_41 rfl rfl ?_
        refine r_b (pc' := 43) (z := (((Mv (sdp (nv (vw m 2))) (rpn (nv (vw m 2))) (m 2 4).toNat (fun x => rat m r (x : Int)) (m r 2).toNat (k + 1).toNat (am_or t (am_shl 1 p)).toNat : Nat) : Int) + 1)) hM_143 d_143_42 rfl rfl ?_
        refine r_ld (pc' := 45) hM_143 d_143_43 rfl rfl ?_
        exact hk
      refine ok_ic (pc' := 51) (pc2 := 48) hM_143 d_143_45 (by decide) rfl (fun hz6 => ?_) (fun hz6 => ?_)
      · have H := H.1 hz6
        refine ok_sg (pc' := 3) (ls' := [some (.inr (.inr (some 46))), some (.inr (.inr (some r))), some (.inl k), some (.inl t), some (.inl x), some (.inl (p + 1))]) (st' := []) (m' := m1) (fun fx hfx o hk => ?_) ?_
        · refine r_sto (pc' := 54) (ls' := [some (.inr (.inr (some 46))), some (.inr (.inr (some r))), some (.inl k), some (.inl t), some (.inl x), some (.inl (p + 1))]) hM_143 d_143_51 rfl rfl ?_
          refine r_go (pc' := 3) hM_143 d_143_54 (by decide) ?_
          exact hk
        exact H
      · have H := H.2 (Decidable.not_not.mp hz6)
        refine ok_sg (pc' := 50) (ls' := [some (.inr (.inr (some 46))), some (.inr (.inr (some r))), some (.inl k), some (.inl t), some (.inl x), some (.inl p)]) (st' := [.inl p]) (m' := m1) (fun fx hfx o hk => ?_) ?_
        · refine r_ld (pc' := 50) hM_143 d_143_48 rfl rfl ?_
          exact hk
        exact ok_rt (fun fx _ => rt_i hM_143 d_143_50 rfl) H
theorem u_143_0 {Q : List am_V → am_M → Prop} {m : am_M} {r : Nat} {k : Int} {t : Int} {x : Int} (h_r : r ∈ rowL) (H : ok 4 143 3 [some (.inr (.inr (some 46))), some (.inr (.inr (some r))), some (.inl k), some (.inl t), some (.inl x), some (.inl 0)] [] m Q) : ok 4 143 0 [some (.inr (.inr (some 46))), some (.inr (.inr (some r))), some (.inl k), some (.inl t), some (.inl x), none] [] m Q := by
  refine ok_sg (pc' := 3) (ls' := [some (.inr (.inr (some 46))), some (.inr (.inr (some r))), some (.inl k), some (.inl t), some (.inl x), some (.inl 0)]) (st' := []) (m' := m) (fun fx hfx o hk => ?_) ?_
  · refine r_k (pc' := 1) (v := .inl 0) hM_143 d_143_0 rfl rfl ?_
    refine r_sto (pc' := 3) (ls' := [some (.inr (.inr (some 46))), some (.inr (.inr (some r))), some (.inl k), some (.inl t), some (.inl x), some (.inl 0)]) hM_143 d_143_1 rfl rfl ?_
    exact hk
  exact H
theorem z_143 {r : Nat} (h_r : r ∈ rowL) (m : am_M) (k : Int) (t : Int) (x : Int) (hq : OPR m r ∧ LKD m r ∧ (0 ≤ k ∧ k < m r 2) ∧ (0 ≤ t ∧ t.toNat < 2 ^ (m 2 4).toNat) ∧ x = ((Mv (sdp (nv (vw m 2))) (rpn (nv (vw m 2))) (m 2 4).toNat (fun u => rat m r (u : Int)) (m r 2).toNat k.toNat t.toNat : Nat) : Int)) : ok 4 143 0 (am_ent 6 [.inr (.inr (some 46)), .inr (.inr (some r)), .inl k, .inl t, .inl x]) [] m (fun rr m' => rr = [.inl ((plv (ORC (sdp (nv (vw m 2))) (rpn (nv (vw m 2))) (m 2 4).toNat (fun u => rat m r (u : Int)) (m r 2).toNat k.toNat t.toNat) (m 2 4).toNat))] ∧ m' = m) := by
  show ok 4 143 0 [some (.inr (.inr (some 46))), some (.inr (.inr (some r))), some (.inl k), some (.inl t), some (.inl x), none] [] m _
  obtain ⟨hO, hL, hk, ht, hx⟩ := hq
  have hN := vwN hO.1
  have hn := hO.2.2.2.1
  obtain ⟨K, rfl⟩ : ∃ K : Nat, k = (K : Int) := ⟨k.toNat, by omega⟩
  obtain ⟨T, rfl⟩ : ∃ T : Nat, t = (T : Int) := ⟨t.toNat, by omega⟩
  rw [Int.toNat_natCast, Int.toNat_natCast] at hx ⊢
  rw [Int.toNat_natCast] at ht
  have hp12 : 2 ^ (m 2 4).toNat ≤ 2 ^ 12 := Nat.pow_le_pow_right (by decide) (by omega)
  have hrp : ∀ p, p < (m 2 4).toNat → sdp (nv (vw m 2)) p = true → 0 ≤ rpn (nv (vw m 2)) p := fun p hp hs => (OPR_rp hO (by omega) (of_decide_eq_true hs)).1
  have hMl : ∀ k T, Mv (sdp (nv (vw m 2))) (rpn (nv (vw m 2))) (m 2 4).toNat (fun x => rat m r (x : Int)) (m r 2).toNat k T ≤ (m r 2).toNat := fun k T => IM_le hrp (Mv_ok _ _ _ _ _ _ _)
  refine u_143_0 h_r ?_
  rw [hx]
  have hMx := hMl K T
  have key := ok_for (d := 4) (mi := 143) (pc := 3) (Q := fun rr m' => rr = [.inl (plv (ORC (sdp (nv (vw m 2))) (rpn (nv (vw m 2))) (m 2 4).toNat (fun x => rat m r (x : Int)) (m r 2).toNat K T) (m 2 4).toNat)] ∧ m' = m) (σ := Unit) (fun p _ => [some (.inr (.inr (some 46))), some (.inr (.inr (some r))), some (.inl (K : Int)), some (.inl (T : Int)), some (.inl ((Mv (sdp (nv (vw m 2))) (rpn (nv (vw m 2))) (m 2 4).toNat (fun x => rat m r (x : Int)) (m r 2).toNat K T : Nat) : Int)), some (.inl (p : Int))]) (fun p _ M => M = m ∧ ∀ q, q < p → ¬ ORC (sdp (nv (vw m 2))) (rpn (nv (vw m 2))) (m 2 4).toNat (fun x => rat m r (x : Int)) (m r 2).toNat K T q) (m 2 4).toNat ?_ ?_ () m ⟨rfl, fun q h => absurd h (Nat.not_lt_zero _)⟩
  · exact key
  · rintro p hp - M ⟨hM, h1⟩ IH
    rw [hM]
    obtain ⟨z1, z2⟩ := v141 hO hL (p := p) (by omega) hk.2 (T := T) (by omega)
    have hpl : 2 ^ p < 2 ^ (m 2 4).toNat := Nat.pow_lt_pow_right (by decide) hp
    have hor : am_or (T : Int) (am_shl 1 (p : Int)) = ((T ||| 2 ^ p : Nat) : Int) := by
      rw [bx_shl1 p (by omega)]
      exact bx_or12 (by omega) (by omega)
    have horl : T ||| 2 ^ p < 2 ^ 12 := Nat.or_lt_two_pow (by omega) (by omega)
    have hMp := hMl (K + 1) (T ||| 2 ^ p)
    refine u_143_3 h_r ?_
    rw [am_s_id (z := m 2 4) (by omega) (by omega), am_s_id (z := (p : Int)) (by omega) (by omega), z2, hor, show (K : Int) + 1 = ((K + 1 : Nat) : Int) from rfl]
    simp only [Int.toNat_natCast]
    rw [am_s_id (z := ((Mv (sdp (nv (vw m 2))) (rpn (nv (vw m 2))) (m 2 4).toNat (fun x => rat m r (x : Int)) (m r 2).toNat (K + 1) (T ||| 2 ^ p) : Nat) : Int) + 1) (by omega) (by omega), am_s_id (z := ((Mv (sdp (nv (vw m 2))) (rpn (nv (vw m 2))) (m 2 4).toNat (fun x => rat m r (x : Int)) (m r 2).toNat K T : Nat) : Int)) (by omega) (by omega)]
    have hcd : (sdp (nv (vw m 2)) p && !T.testBit p && decide (rpn (nv (vw m 2)) p ≤ rat m r (K : Int))) = true ↔ (sdp (nv (vw m 2)) p = true ∧ T.testBit p = false ∧ rpn (nv (vw m 2)) p ≤ rat m r (K : Int)) := by
      rw [Bool.and_eq_true, Bool.and_eq_true, decide_eq_true_eq, Bool.not_eq_true', and_assoc]
    rw [hcd]
    refine ⟨fun q => by omega, fun _ => ⟨z1, fun q => IH () m ⟨rfl, fun x hx h => ?_⟩, fun q => ⟨⟨hO, hL, by omega, by omega⟩, ?_⟩⟩⟩
    · by_cases hh : x = p
      · rw [hh] at h; exact q h.1
      · exact h1 x (by omega) h
    · intro mx hmx
      rw [hmx]
      refine ⟨fun q2 => IH () m ⟨rfl, fun x hx h => ?_⟩, fun q2 => ⟨?_, rfl⟩⟩
      · by_cases hh : x = p
        · rw [hh] at h
          have := h.2
          omega
        · exact h1 x (by omega) h
      · rw [plv_eq (Or.inl ⟨p, hp, ⟨Decidable.not_not.mp q, by omega⟩, h1, rfl⟩)]
  · rintro - M ⟨hM, h1⟩
    rw [hM]
    refine u_143_3 h_r ?_
    rw [am_s_id (z := m 2 4) (by omega) (by omega), am_s_id (z := (((m 2 4).toNat : Nat) : Int)) (by omega) (by omega), plv_eq (Or.inr ⟨h1, rfl⟩)]
    exact ⟨fun _ => ⟨rfl, rfl⟩, fun q => by omega⟩
theorem u_142_32 {Q : List am_V → am_M → Prop} {m : am_M} {r : Nat} {k : Int} {x : Int} {t : Int} {p : Int} {i : Int} (h_r : r ∈ rowL) (H : ((am_s k < am_s i) → Q [.inl p] m) ∧ ((¬ (am_s k < am_s i)) → (OPR m r ∧ LKD m r ∧ (0 ≤ i ∧ i < m r 2) ∧ (0 ≤ t ∧ t.toNat < 2 ^ (m 2 4).toNat) ∧ x = ((Mv (sdp (nv (vw m 2))) (rpn (nv (vw m 2))) (m 2 4).toNat (fun u => rat m r (u : Int)) (m r 2).toNat i.toNat t.toNat : Nat) : Int)) ∧ (∀ (m1 : am_M), (m1 = m) → ((am_s (plv (ORC (sdp (nv (vw m 2))) (rpn (nv (vw m 2))) (m 2 4).toNat (fun u => rat m r (u : Int)) (m r 2).toNat i.toNat t.toNat) (m 2 4).toNat) = (-1)) → ok 5 142 32 [some (.inr (.inr (some 46))), some (.inr (.inr (some r))), some (.inl k), some (.inl x), some (.inl t), some (.inl (plv (ORC (sdp (nv (vw m 2))) (rpn (nv (vw m 2))) (m 2 4).toNat (fun u => rat m r (u : Int)) (m r 2).toNat i.toNat t.toNat) (m 2 4).toNat)), some (.inl (i + 1))] [] m1 Q) ∧ ((¬ (am_s (plv (ORC (sdp (nv (vw m 2))) (rpn (nv (vw m 2))) (m 2 4).toNat (fun u => rat m r (u : Int)) (m r 2).toNat i.toNat t.toNat) (m 2 4).toNat) = (-1))) → ok 5 142 32 [some (.inr (.inr (some 46))), some (.inr (.inr (some r))), some (.inl k), some (.inl (x + (-1))), some (.inl (am_or t (am_shl 1 (plv (ORC (sdp (nv (vw m 2))) (rpn (nv (vw m 2))) (m 2 4).toNat (fun u => rat m r (u : Int)) (m r 2).toNat i.toNat t.toNat) (m 2 4).toNat)))), some (.inl (plv (ORC (sdp (nv (vw m 2))) (rpn (nv (vw m 2))) (m 2 4).toNat (fun u => rat m r (u : Int)) (m r 2).toNat i.toNat t.toNat) (m 2 4).toNat)), some (.inl (i + 1))] [] m1 Q)))) : ok 5 142 32 [some (.inr (.inr (some 46))), some (.inr (.inr (some r))), some (.inl k), some (.inl x), some (.inl t), some (.inl p), some (.inl i)] [] m Q := by
  refine ok_sg (pc' := 35) (ls' := [some (.inr (.inr (some 46))), some (.inr (.inr (some r))), some (.inl k), some (.inl x), some (.inl t), some (.inl p), some (.inl i)]) (st' := [.inl k, .inl i]) (m' := m) (fun fx hfx o hk => ?_) ?_
  · refine r_ld (pc' := 34) hM_142 d_142_32 rfl rfl ?_
    refine r_ld (pc' := 35) hM_142 d_142_34 rfl rfl ?_
    exact hk
  refine ok_ic (pc' := 74) (pc2 := 38) hM_142 d_142_35 (by decide) rfl (fun hz1 => ?_) (fun hz1 => ?_)
  · have H := H.1 hz1
    refine ok_sg (pc' := 76) (ls' := [some (.inr (.inr (some 46))), some (.inr (.inr (some r))), some (.inl k), some (.inl x), some (.inl t), some (.inl p), some (.inl i)]) (st' := [.inl p]) (m' := m) (fun fx hfx o hk => ?_) ?_
    · refine r_ld (pc' := 76) hM_142 d_142_74 rfl rfl ?_
      exact hk
    exact ok_rt (fun fx _ => rt_i hM_142 d_142_76 rfl) H
  · have H := H.2 hz1
    obtain ⟨hz2, H⟩ := H
    refine ok_sg (pc' := 45) (ls' := [some (.inr (.inr (some 46))), some (.inr (.inr (some r))), some (.inl k), some (.inl x), some (.inl t), some (.inl p), some (.inl i)]) (st' := [.inl x, .inl t, .inl i, .inr (.inr (some r)), .inr (.inr (some 46))]) (m' := m) (fun fx hfx o hk => ?_) ?_
    · refine r_ld (pc' := 39) hM_142 d_142_38 rfl rfl ?_
      refine r_ld (pc' := 40) hM_142 d_142_39 rfl rfl ?_
      refine r_ld (pc' := 42) hM_142 d_142_40 rfl rfl ?_
      refine r_ld (pc' := 44) hM_142 d_142_42 rfl rfl ?_
      refine r_ld (pc' := 45) hM_142 d_142_44 rfl rfl ?_
      exact hk
    refine ok_cl (pc' := 48) (c := (143, 0)) (a := [.inr (.inr (some 46)), .inr (.inr (some r)), .inl i, .inl t, .inl x]) (q := []) hM_142 d_142_45 rfl (by decide +kernel) hM_143 rfl rfl rfl (Nat.le_of_ble_eq_true rfl) (Nat.le_of_ble_eq_true rfl) (Or.inr rfl) (z_143 h_r m i t x hz2) (Nat.le_of_ble_eq_true rfl) ?_
    rintro _ m1 ⟨rfl, hz3⟩
    replace H := H  m1 hz3
    show ok 5 142 48 [some (.inr (.inr (some 46))), some (.inr (.inr (some r))), some (.inl k), some (.inl x), some (.inl t), some (.inl p), some (.inl i)] [.inl (plv (ORC (sdp (nv (vw m 2))) (rpn (nv (vw m 2))) (m 2 4).toNat (fun u => rat m r (u : Int)) (m r 2).toNat i.toNat t.toNat) (m 2 4).toNat)] m1 Q
    refine ok_sg (pc' := 53) (ls' := [some (.inr (.inr (some 46))), some (.inr (.inr (some r))), some (.inl k), some (.inl x), some (.inl t), some (.inl (plv (ORC (sdp (nv (vw m 2))) (rpn (nv (vw m 2))) (m 2 4).toNat (fun u => rat m r (u : Int)) (m r 2).toNat i.toNat t.toNat) (m 2 4).toNat)), some (.inl i)]) (st' := [.inl (-1), .inl (plv (ORC (sdp (nv (vw m 2))) (rpn (nv (vw m 2))) (m 2 4).toNat (fun u => rat m r (u : Int)) (m r 2).toNat i.toNat t.toNat) (m 2 4).toNat)]) (m' := m1) (fun fx hfx o hk => ?_) ?_
    · refine r_sto (pc' := 50) (ls' := [some (.inr (.inr (some 46))), some (.inr (.inr (some r))), some (.inl k), some (.inl x), some (.inl t), some (.inl (plv (ORC (sdp (nv (vw m 2))) (rpn (nv (vw m 2))) (m 2 4).toNat (fun u => rat m r (u : Int)) (m r 2).toNat i.toNat t.toNat) (m 2 4).toNat)), some (.inl i)]) hM_142 d_142_48 rfl rfl ?_
      refine r_ld (pc' := 52) hM_142 d_142_50 rfl rfl ?_
      refine r_k (pc' := 53) (v := .inl (-1)) hM_142 d_142_52 rfl rfl ?_
      exact hk
    refine ok_ic (pc' := 68) (pc2 := 56) hM_142 d_142_53 (by decide) rfl (fun hz4 => ?_) (fun hz4 => ?_)
    · have H := H.1 hz4
      refine ok_sg (pc' := 32) (ls' := [some (.inr (.inr (some 46))), some (.inr (.inr (some r))), some (.inl k), some (.inl x), some (.inl t), some (.inl (plv (ORC (sdp (nv (vw m 2))) (rpn (nv (vw m 2))) (m 2 4).toNat (fun u => rat m r (u : Int)) (m r 2).toNat i.toNat t.toNat) (m 2 4).toNat)), some (.inl (i + 1))]) (st' := []) (m' := m1) (fun fx hfx o hk => ?_) ?_
      · refine r_sto (pc' := 71) (ls' := [some (.inr (.inr (some 46))), some (.inr (.inr (some r))), some (.inl k), some (.inl x), some (.inl t), some (.inl (plv (ORC (sdp (nv (vw m 2))) (rpn (nv (vw m 2))) (m 2 4).toNat (fun u => rat m r (u : Int)) (m r 2).toNat i.toNat t.toNat) (m 2 4).toNat)), some (.inl (i + 1))]) hM_142 d_142_68 rfl rfl ?_
        refine r_go (pc' := 32) hM_142 d_142_71 (by decide) ?_
        exact hk
      exact H
    · have H := H.2 hz4
      refine ok_sg (pc' := 32) (ls' := [some (.inr (.inr (some 46))), some (.inr (.inr (some r))), some (.inl k), some (.inl (x + (-1))), some (.inl (am_or t (am_shl 1 (plv (ORC (sdp (nv (vw m 2))) (rpn (nv (vw m 2))) (m 2 4).toNat (fun u => rat m r (u : Int)) (m r 2).toNat i.toNat t.toNat) (m 2 4).toNat)))), some (.inl (plv (ORC (sdp (nv (vw m 2))) (rpn (nv (vw m 2))) (m 2 4).toNat (fun u => rat m r (u : Int)) (m r 2).toNat i.toNat t.toNat) (m 2 4).toNat)), some (.inl (i + 1))]) (st' := []) (m' := m1) (fun fx hfx o hk => ?_) ?_
      · refine r_ld (pc' := 58) hM_142 d_142_56 rfl rfl ?_
        refine r_k (pc' := 59) (v := .inl 1) hM_142 d_142_58 rfl rfl ?_
        refine r_ld (pc' := 61) hM_142 d_142_59 rfl rfl ?_
        refine r_b (pc' := 62) (z := (am_shl 1 (plv (ORC (sdp (nv (vw m 2))) (rpn (nv (vw m 2))) (m 2 4).toNat (fun u => rat m r (u : Int)) (m r 2).toNat i.toNat t.toNat) (m 2 4).toNat))) hM_142 d_142_61 rfl rfl ?_
        refine r_b (pc' := 63) (z := (am_or t (am_shl 1 (plv (ORC (sdp (nv (vw m 2))) (rpn (nv (vw m 2))) (m 2 4).toNat (fun u => rat m r (u : Int)) (m r 2).toNat i.toNat t.toNat) (m 2 4).toNat)))) hM_142 d_142_62 rfl rfl ?_
        refine r_sto (pc' := 65) (ls' := [some (.inr (.inr (some 46))), some (.inr (.inr (some r))), some (.inl k), some (.inl x), some (.inl (am_or t (am_shl 1 (plv (ORC (sdp (nv (vw m 2))) (rpn (nv (vw m 2))) (m 2 4).toNat (fun u => rat m r (u : Int)) (m r 2).toNat i.toNat t.toNat) (m 2 4).toNat)))), some (.inl (plv (ORC (sdp (nv (vw m 2))) (rpn (nv (vw m 2))) (m 2 4).toNat (fun u => rat m r (u : Int)) (m r 2).toNat i.toNat t.toNat) (m 2 4).toNat)), some (.inl i)]) hM_142 d_142_63 rfl rfl ?_
        refine r_sto (pc' := 68) (ls' := [some (.inr (.inr (some 46))), some (.inr (.inr (some r))), some (.inl k), some (.inl (x + (-1))), some (.inl (am_or t (am_shl 1 (plv (ORC (sdp (nv (vw m 2))) (rpn (nv (vw m 2))) (m 2 4).toNat (fun u => rat m r (u : Int)) (m r 2).toNat i.toNat t.toNat) (m 2 4).toNat)))), some (.inl (plv (ORC (sdp (nv (vw m 2))) (rpn (nv (vw m 2))) (m 2 4).toNat (fun u => rat m r (u : Int)) (m r 2).toNat i.toNat t.toNat) (m 2 4).toNat)), some (.inl i)]) hM_142 d_142_65 rfl rfl ?_
        refine r_sto (pc' := 71) (ls' := [some (.inr (.inr (some 46))), some (.inr (.inr (some r))), some (.inl k), some (.inl (x + (-1))), some (.inl (am_or t (am_shl 1 (plv (ORC (sdp (nv (vw m 2))) (rpn (nv (vw m 2))) (m 2 4).toNat (fun u => rat m r (u : Int)) (m r 2).toNat i.toNat t.toNat) (m 2 4).toNat)))), some (.inl (plv (ORC (sdp (nv (vw m 2))) (rpn (nv (vw m 2))) (m 2 4).toNat (fun u => rat m r (u : Int)) (m r 2).toNat i.toNat t.toNat) (m 2 4).toNat)), some (.inl (i + 1))]) hM_142 d_142_68 rfl rfl ?_
        refine r_go (pc' := 32) hM_142 d_142_71 (by decide) ?_
        exact hk
      exact H
theorem u_142_0 {Q : List am_V → am_M → Prop} {m : am_M} {r : Nat} {k : Int} (h_r : r ∈ rowL) (H : ((am_s k < am_s (m r 2)) → (OPR m r) ∧ (∀ (m1 : am_M), (LKD m1 r ∧ ∀ a, a ≠ 47 → a ≠ 48 → m1 a = m a) → (OPR m1 r ∧ LKD m1 r ∧ (0 ≤ (0 : Int) ∧ (0 : Int) < 100) ∧ 0 ≤ (0 : Int) ∧ (0 : Int) < 4096) ∧ (∀ (m2 : am_M), (m2 = m1) → ok 5 142 32 [some (.inr (.inr (some 46))), some (.inr (.inr (some r))), some (.inl k), some (.inl ((Mv (sdp (nv (vw m1 2))) (rpn (nv (vw m1 2))) (m1 2 4).toNat (fun x => rat m1 r (x : Int)) (m1 r 2).toNat (0 : Int).toNat (0 : Int).toNat : Nat) : Int)), some (.inl 0), some (.inl (-1)), some (.inl 0)] [] m2 Q))) ∧ ((¬ (am_s k < am_s (m r 2))) → Q [.inl (-1)] m)) : ok 5 142 0 [some (.inr (.inr (some 46))), some (.inr (.inr (some r))), some (.inl k), none, none, none, none] [] m Q := by
  refine ok_sg (pc' := 5) (ls' := [some (.inr (.inr (some 46))), some (.inr (.inr (some r))), some (.inl k), none, none, none, none]) (st' := [.inl (m r 2), .inl k]) (m' := m) (fun fx hfx o hk => ?_) ?_
  · refine r_ld (pc' := 1) hM_142 d_142_0 rfl rfl ?_
    refine r_ld (pc' := 2) hM_142 d_142_1 rfl rfl ?_
    refine r_gI (pc' := 5) (k0 := 2) hM_142 d_142_2 rfl (gfR_2_49 h_r) ?_
    exact hk
  refine ok_ic (pc' := 10) (pc2 := 8) hM_142 d_142_5 (by decide) rfl (fun hz1 => ?_) (fun hz1 => ?_)
  · have H := H.1 hz1
    obtain ⟨hz2, H⟩ := H
    refine ok_sg (pc' := 12) (ls' := [some (.inr (.inr (some 46))), some (.inr (.inr (some r))), some (.inl k), none, none, none, none]) (st' := [.inr (.inr (some r)), .inr (.inr (some 46))]) (m' := m) (fun fx hfx o hk => ?_) ?_
    · refine r_ld (pc' := 11) hM_142 d_142_10 rfl rfl ?_
      refine r_ld (pc' := 12) hM_142 d_142_11 rfl rfl ?_
      exact hk
    refine ok_cl (pc' := 15) (c := (138, 0)) (a := [.inr (.inr (some 46)), .inr (.inr (some r))]) (q := []) hM_142 d_142_12 rfl (by decide +kernel) hM_138 rfl rfl rfl (Nat.le_of_ble_eq_true rfl) (Nat.le_of_ble_eq_true rfl) (Or.inr rfl) (z_138 h_r m  hz2) (Nat.le_of_ble_eq_true rfl) ?_
    rintro _ m1 ⟨rfl, hz3⟩
    replace H := H  m1 hz3
    show ok 5 142 15 [some (.inr (.inr (some 46))), some (.inr (.inr (some r))), some (.inl k), none, none, none, none] [] m1 Q
    obtain ⟨hz4, H⟩ := H
    refine ok_sg (pc' := 19) (ls' := [some (.inr (.inr (some 46))), some (.inr (.inr (some r))), some (.inl k), none, none, none, none]) (st' := [.inl 0, .inl 0, .inr (.inr (some r)), .inr (.inr (some 46))]) (m' := m1) (fun fx hfx o hk => ?_) ?_
    · refine r_ld (pc' := 16) hM_142 d_142_15 rfl rfl ?_
      refine r_ld (pc' := 17) hM_142 d_142_16 rfl rfl ?_
      refine r_k (pc' := 18) (v := .inl 0) hM_142 d_142_17 rfl rfl ?_
      refine r_k (pc' := 19) (v := .inl 0) hM_142 d_142_18 rfl rfl ?_
      exact hk
    refine ok_cl (pc' := 22) (c := (139, 0)) (a := [.inr (.inr (some 46)), .inr (.inr (some r)), .inl 0, .inl 0]) (q := []) hM_142 d_142_19 rfl (by decide +kernel) hM_139 rfl rfl rfl (Nat.le_of_ble_eq_true rfl) (Nat.le_of_ble_eq_true rfl) (Or.inr rfl) (z_139 h_r m1 0 0 hz4) (Nat.le_of_ble_eq_true rfl) ?_
    rintro _ m2 ⟨rfl, hz5⟩
    replace H := H  m2 hz5
    show ok 5 142 22 [some (.inr (.inr (some 46))), some (.inr (.inr (some r))), some (.inl k), none, none, none, none] [.inl ((Mv (sdp (nv (vw m1 2))) (rpn (nv (vw m1 2))) (m1 2 4).toNat (fun x => rat m1 r (x : Int)) (m1 r 2).toNat (0 : Int).toNat (0 : Int).toNat : Nat) : Int)] m2 Q
    refine ok_sg (pc' := 32) (ls' := [some (.inr (.inr (some 46))), some (.inr (.inr (some r))), some (.inl k), some (.inl ((Mv (sdp (nv (vw m1 2))) (rpn (nv (vw m1 2))) (m1 2 4).toNat (fun x => rat m1 r (x : Int)) (m1 r 2).toNat (0 : Int).toNat (0 : Int).toNat : Nat) : Int)), some (.inl 0), some (.inl (-1)), some (.inl 0)]) (st' := []) (m' := m2) (fun fx hfx o hk => ?_) ?_
    · refine r_sto (pc' := 23) (ls' := [some (.inr (.inr (some 46))), some (.inr (.inr (some r))), some (.inl k), some (.inl ((Mv (sdp (nv (vw m1 2))) (rpn (nv (vw m1 2))) (m1 2 4).toNat (fun x => rat m1 r (x : Int)) (m1 r 2).toNat (0 : Int).toNat (0 : Int).toNat : Nat) : Int)), none, none, none]) hM_142 d_142_22 rfl rfl ?_
      refine r_k (pc' := 24) (v := .inl 0) hM_142 d_142_23 rfl rfl ?_
      refine r_sto (pc' := 26) (ls' := [some (.inr (.inr (some 46))), some (.inr (.inr (some r))), some (.inl k), some (.inl ((Mv (sdp (nv (vw m1 2))) (rpn (nv (vw m1 2))) (m1 2 4).toNat (fun x => rat m1 r (x : Int)) (m1 r 2).toNat (0 : Int).toNat (0 : Int).toNat : Nat) : Int)), some (.inl 0), none, none]) hM_142 d_142_24 rfl rfl ?_
      refine r_k (pc' := 27) (v := .inl (-1)) hM_142 d_142_26 rfl rfl ?_
      refine r_sto (pc' := 29) (ls' := [some (.inr (.inr (some 46))), some (.inr (.inr (some r))), some (.inl k), some (.inl ((Mv (sdp (nv (vw m1 2))) (rpn (nv (vw m1 2))) (m1 2 4).toNat (fun x => rat m1 r (x : Int)) (m1 r 2).toNat (0 : Int).toNat (0 : Int).toNat : Nat) : Int)), some (.inl 0), some (.inl (-1)), none]) hM_142 d_142_27 rfl rfl ?_
      refine r_k (pc' := 30) (v := .inl 0) hM_142 d_142_29 rfl rfl ?_
      refine r_sto (pc' := 32) (ls' := [some (.inr (.inr (some 46))), some (.inr (.inr (some r))), some (.inl k), some (.inl ((Mv (sdp (nv (vw m1 2))) (rpn (nv (vw m1 2))) (m1 2 4).toNat (fun x => rat m1 r (x : Int)) (m1 r 2).toNat (0 : Int).toNat (0 : Int).toNat : Nat) : Int)), some (.inl 0), some (.inl (-1)), some (.inl 0)]) hM_142 d_142_30 rfl rfl ?_
      exact hk
    exact H
  · have H := H.2 hz1
    refine ok_sg (pc' := 9) (ls' := [some (.inr (.inr (some 46))), some (.inr (.inr (some r))), some (.inl k), none, none, none, none]) (st' := [.inl (-1)]) (m' := m) (fun fx hfx o hk => ?_) ?_
    · refine r_k (pc' := 9) (v := .inl (-1)) hM_142 d_142_8 rfl rfl ?_
      exact hk
    exact ok_rt (fun fx _ => rt_i hM_142 d_142_9 rfl) H
theorem OPR_rw {m m1 : am_M} {r : Nat} (hr : r ∈ rowL) (h : ∀ a, a ≠ 47 → a ≠ 48 → m1 a = m a) : (fun u : Nat => rat m1 r (u : Int)) = fun u : Nat => rat m r (u : Int) := funext fun u => (OPR_fr hr h).2.1 (u : Int)
/-- what an order gets, if one gets what it can -/
theorem ORC_next {S : Nat → Bool} {r : Nat → Int} {N : Nat} {w : Nat → Int} {n k : Nat} (hk : k < n) (hw : 0 ≤ w k) : (plv (ORC S r N w n k (tsq S r N w n k)) N = -1 → Mv S r N w n (k + 1) (tsq S r N w n (k + 1)) = Mv S r N w n k (tsq S r N w n k)) ∧ (plv (ORC S r N w n k (tsq S r N w n k)) N ≠ -1 → Mv S r N w n (k + 1) (tsq S r N w n (k + 1)) + 1 = Mv S r N w n k (tsq S r N w n k)) := by
  rw [tsq_s]
  rcases plv_ok (ORC S r N w n k (tsq S r N w n k)) N with ⟨p, a1, a2, a3, a4⟩ | ⟨a1, a2⟩
  · refine ⟨fun q => by omega, fun q => ?_⟩
    rw [if_neg q, a4, Int.toNat_natCast]
    exact a2.2
  · refine ⟨fun q => ?_, fun q => absurd a2 q⟩
    rw [if_pos q]
    exact Mv_none hk hw a1
theorem z_142 {r : Nat} (h_r : r ∈ rowL) (m : am_M) (k : Int) (hq : OPR m r ∧ 0 ≤ k ∧ k < 100) : ok 5 142 0 (am_ent 7 [.inr (.inr (some 46)), .inr (.inr (some r)), .inl k]) [] m (fun rr m' => rr = [.inl ((if k < m r 2 then plv (ORC (sdp (nv (vw m 2))) (rpn (nv (vw m 2))) (m 2 4).toNat (fun u => rat m r (u : Int)) (m r 2).toNat k.toNat (tsq (sdp (nv (vw m 2))) (rpn (nv (vw m 2))) (m 2 4).toNat (fun u => rat m r (u : Int)) (m r 2).toNat k.toNat)) (m 2 4).toNat else -1))] ∧ ∀ a, a ≠ 47 → a ≠ 48 → m' a = m a) := by
  show ok 5 142 0 [some (.inr (.inr (some 46))), some (.inr (.inr (some r))), some (.inl k), none, none, none, none] [] m _
  obtain ⟨hO, hk⟩ := hq
  have hN := vwN hO.1
  have hn := hO.2.2.2.1
  have hnn := hO.2.2.2.2
  obtain ⟨K, rfl⟩ : ∃ K : Nat, k = (K : Int) := ⟨k.toNat, by omega⟩
  rw [Int.toNat_natCast]
  refine u_142_0 h_r ?_
  rw [am_s_id (z := (K : Int)) (by omega) (by omega), am_s_id (z := m r 2) (by omega) (by omega)]
  refine ⟨fun q => ⟨hO, fun m1 hm1 => ?_⟩, fun q => ⟨by rw [if_neg (by omega)], fun _ _ _ => rfl⟩⟩
  obtain ⟨hL1, hfr⟩ := hm1
  obtain ⟨f1, f2, f3, f4⟩ := OPR_fr h_r hfr
  have f5 := OPR_rw h_r hfr
  have f24 : m1 2 = m 2 := hfr 2 (by decide) (by decide)
  have hO1 := f4 hO
  refine ⟨⟨hO1, hL1, by omega, by omega⟩, ?_⟩
  intro m2 hm2
  obtain rfl := hm2.symm
  rw [if_pos q, f1, f24, f5, f3]
  simp only [show (0 : Int).toNat = 0 from rfl]
  have hMl : ∀ k T, Mv (sdp (nv (vw m 2))) (rpn (nv (vw m 2))) (m 2 4).toNat (fun u => rat m r (u : Int)) (m r 2).toNat k T ≤ (m r 2).toNat := fun k T => IM_le (fun p hp hs => (OPR_rp hO (by omega) (of_decide_eq_true hs)).1) (Mv_ok _ _ _ _ _ _ _)
  have hw : ∀ k : Nat, k < (m r 2).toNat → 0 ≤ (fun u : Nat => rat m r (u : Int)) k := fun k hk => hnn k (by omega)
  have hz : m1 r 2 = (((m r 2).toNat : Nat) : Int) := by rw [f3]; omega
  have hNz : m1 2 4 = (((m 2 4).toNat : Nat) : Int) := by rw [f24]; omega
  have hp12 : 2 ^ (m 2 4).toNat ≤ 2 ^ 12 := Nat.pow_le_pow_right (by decide) (by omega)
  have hq' : K < (m r 2).toNat := by omega
  have hN' : (m 2 4).toNat ≤ 12 := by omega
  have hn' : (m r 2).toNat ≤ 10 := by omega
  have h32 := fun (x t p i : Int) (Q : List am_V → am_M → Prop) => u_142_32 (Q := Q) (m := m1) (k := (K : Int)) (x := x) (t := t) (p := p) (i := i) h_r
  rw [f1, f24, f5, f3] at h32
  generalize sdp (nv (vw m 2)) = S at *
  generalize rpn (nv (vw m 2)) = R at *
  generalize (fun u : Nat => rat m r (u : Int)) = w at *
  generalize (m 2 4).toNat = N at *
  generalize hnv : (m r 2).toNat = n at *
  have key := ok_for (d := 5) (mi := 142) (pc := 32) (Q := fun rr m' => rr = [.inl (plv (ORC S R N w n K (tsq S R N w n K)) N)] ∧ ∀ a, a ≠ 47 → a ≠ 48 → m' a = m a) (σ := Int) (fun i x => [some (.inr (.inr (some 46))), some (.inr (.inr (some r))), some (.inl (K : Int)), some (.inl ((Mv S R N w n i (tsq S R N w n i) : Nat) : Int)), some (.inl ((tsq S R N w n i : Nat) : Int)), some (.inl x), some (.inl (i : Int))]) (fun i x M => M = m1 ∧ (0 < i → x = plv (ORC S R N w n (i - 1) (tsq S R N w n (i - 1))) N)) (K + 1) ?_ ?_ (-1) m1 ⟨rfl, fun h => absurd h (Nat.lt_irrefl _)⟩
  · exact key
  · rintro i hi x M ⟨hM, hx⟩ IH
    rw [hM]
    have hts := tsq_lt (S := S) (r := R) (N := N) (w := w) (n := n) i
    have hpr := plv_rng (C := ORC S R N w n i (tsq S R N w n i)) (N := N)
    obtain ⟨n1, n2⟩ := ORC_next (S := S) (r := R) (N := N) (w := w) (n := n) (k := i) (by omega) (hw i (by omega))
    have hMx := hMl i (tsq S R N w n i)
    refine h32 _ _ _ _ _ ?_
    rw [am_s_id (z := (K : Int)) (by omega) (by omega), am_s_id (z := (i : Int)) (by omega) (by omega)]
    simp only [Int.toNat_natCast]
    rw [am_s_id (z := plv (ORC S R N w n i (tsq S R N w n i)) N) (by omega) (by omega)]
    refine ⟨fun q => by omega, fun _ => ⟨⟨hO1, hL1, by omega, ⟨by omega, hts⟩, (by first | rfl | trivial)⟩, ?_⟩⟩
    intro mx hmx
    rw [hmx]
    have nx := IH (plv (ORC S R N w n i (tsq S R N w n i)) N) m1 ⟨rfl, fun _ => rfl⟩
    refine ⟨fun q => ?_, fun q => ?_⟩
    · rw [n1 q, tsq_s, if_pos q] at nx
      exact nx
    · have hor : am_or ((tsq S R N w n i : Nat) : Int) (am_shl 1 (plv (ORC S R N w n i (tsq S R N w n i)) N)) = ((tsq S R N w n i ||| 2 ^ (plv (ORC S R N w n i (tsq S R N w n i)) N).toNat : Nat) : Int) := by
        have hpl : 2 ^ (plv (ORC S R N w n i (tsq S R N w n i)) N).toNat < 2 ^ N := Nat.pow_lt_pow_right (by decide) (by omega)
        obtain ⟨p, hp⟩ : ∃ p : Nat, plv (ORC S R N w n i (tsq S R N w n i)) N = (p : Int) := ⟨(plv (ORC S R N w n i (tsq S R N w n i)) N).toNat, by omega⟩
        rw [hp, Int.toNat_natCast] at hpl ⊢
        rw [bx_shl1 p (by omega)]
        exact bx_or12 (by omega) (by omega)
      have e1 : ((Mv S R N w n (i + 1) (tsq S R N w n (i + 1)) : Nat) : Int) = ((Mv S R N w n i (tsq S R N w n i) : Nat) : Int) + (-1) := by
        have := n2 q
        omega
      rw [e1, tsq_s, if_neg q] at nx
      rw [hor]
      exact nx
  · rintro x M ⟨hM, hx⟩
    rw [hM]
    refine h32 _ _ _ _ _ ?_
    rw [am_s_id (z := (K : Int)) (by omega) (by omega), am_s_id (z := ((K + 1 : Nat) : Int)) (by omega) (by omega)]
    refine ⟨fun _ => ⟨?_, hfr⟩, fun q => by omega⟩
    rw [hx (by omega), show K + 1 - 1 = K by omega]
theorem u_137_0 {Q : List am_V → am_M → Prop} {m : am_M} {r : Nat} (h_r : r ∈ rowL) (H : (OPR m r) ∧ (∀ (m1 : am_M), (LKD m1 r ∧ ∀ a, a ≠ 47 → a ≠ 48 → m1 a = m a) → (OPR m1 r ∧ LKD m1 r ∧ (0 ≤ (0 : Int) ∧ (0 : Int) < 100) ∧ 0 ≤ (0 : Int) ∧ (0 : Int) < 4096) ∧ (∀ (m2 : am_M), (m2 = m1) → Q [.inl ((Mv (sdp (nv (vw m1 2))) (rpn (nv (vw m1 2))) (m1 2 4).toNat (fun x => rat m1 r (x : Int)) (m1 r 2).toNat (0 : Int).toNat (0 : Int).toNat : Nat) : Int)] m2))) : ok 4 137 0 [some (.inr (.inr (some 46))), some (.inr (.inr (some r)))] [] m Q := by
  obtain ⟨hz1, H⟩ := H
  refine ok_sg (pc' := 2) (ls' := [some (.inr (.inr (some 46))), some (.inr (.inr (some r)))]) (st' := [.inr (.inr (some r)), .inr (.inr (some 46))]) (m' := m) (fun fx hfx o hk => ?_) ?_
  · refine r_ld (pc' := 1) hM_137 d_137_0 rfl rfl ?_
    refine r_ld (pc' := 2) hM_137 d_137_1 rfl rfl ?_
    exact hk
  refine ok_cl (pc' := 5) (c := (138, 0)) (a := [.inr (.inr (some 46)), .inr (.inr (some r))]) (q := []) hM_137 d_137_2 rfl (by decide +kernel) hM_138 rfl rfl rfl (Nat.le_of_ble_eq_true rfl) (Nat.le_of_ble_eq_true rfl) (Or.inr rfl) (z_138 h_r m  hz1) (Nat.le_of_ble_eq_true rfl) ?_
  rintro _ m1 ⟨rfl, hz2⟩
  replace H := H  m1 hz2
  show ok 4 137 5 [some (.inr (.inr (some 46))), some (.inr (.inr (some r)))] [] m1 Q
  obtain ⟨hz3, H⟩ := H
  refine ok_sg (pc' := 9) (ls' := [some (.inr (.inr (some 46))), some (.inr (.inr (some r)))]) (st' := [.inl 0, .inl 0, .inr (.inr (some r)), .inr (.inr (some 46))]) (m' := m1) (fun fx hfx o hk => ?_) ?_
  · refine r_ld (pc' := 6) hM_137 d_137_5 rfl rfl ?_
    refine r_ld (pc' := 7) hM_137 d_137_6 rfl rfl ?_
    refine r_k (pc' := 8) (v := .inl 0) hM_137 d_137_7 rfl rfl ?_
    refine r_k (pc' := 9) (v := .inl 0) hM_137 d_137_8 rfl rfl ?_
    exact hk
  refine ok_cl (pc' := 12) (c := (139, 0)) (a := [.inr (.inr (some 46)), .inr (.inr (some r)), .inl 0, .inl 0]) (q := []) hM_137 d_137_9 rfl (by decide +kernel) hM_139 rfl rfl rfl (Nat.le_of_ble_eq_true rfl) (Nat.le_of_ble_eq_true rfl) (Or.inr rfl) (z_139 h_r m1 0 0 hz3) (Nat.le_of_ble_eq_true rfl) ?_
  rintro _ m2 ⟨rfl, hz4⟩
  replace H := H  m2 hz4
  show ok 4 137 12 [some (.inr (.inr (some 46))), some (.inr (.inr (some r)))] [.inl ((Mv (sdp (nv (vw m1 2))) (rpn (nv (vw m1 2))) (m1 2 4).toNat (fun x => rat m1 r (x : Int)) (m1 r 2).toNat (0 : Int).toNat (0 : Int).toNat : Nat) : Int)] m2 Q
  exact ok_rt (fun fx _ => rt_i hM_137 d_137_12 rfl) H
theorem z_137 {r : Nat} (h_r : r ∈ rowL) (m : am_M)  (hq : OPR m r) : ok 4 137 0 (am_ent 2 [.inr (.inr (some 46)), .inr (.inr (some r))]) [] m (fun rr m' => rr = [.inl (((Mv (sdp (nv (vw m 2))) (rpn (nv (vw m 2))) (m 2 4).toNat (fun u => rat m r (u : Int)) (m r 2).toNat 0 0 : Nat) : Int))] ∧ ∀ a, a ≠ 47 → a ≠ 48 → m' a = m a) := by
  show ok 4 137 0 [some (.inr (.inr (some 46))), some (.inr (.inr (some r)))] [] m _
  refine u_137_0 h_r ⟨hq, fun m1 hm1 => ?_⟩
  obtain ⟨hL1, hfr⟩ := hm1
  obtain ⟨f1, f2, f3, f4⟩ := OPR_fr h_r hfr
  refine ⟨⟨f4 hq, hL1, by omega, by omega⟩, ?_⟩
  intro m2 hm2
  rw [hm2, f1, hfr 2 (by decide) (by decide), OPR_rw h_r hfr, f3]
  exact ⟨rfl, hfr⟩
theorem u_136_58 {Q : List am_V → am_M → Prop} {m : am_M} {a : Int} {w : Int} {r : Nat} {i : Int} (h_r : r ∈ rowL) (H : ((am_s (m r 2) ≤ am_s i) → ((¬ am_s w = 0) → (OPR m r ∧ 0 ≤ (w - 10) ∧ (w - 10) < 100) ∧ (∀ (m1 : am_M), (∀ a, a ≠ 47 → a ≠ 48 → m1 a = m a) → Q [.inl (if (w - 10) < m r 2 then plv (ORC (sdp (nv (vw m 2))) (rpn (nv (vw m 2))) (m 2 4).toNat (fun u => rat m r (u : Int)) (m r 2).toNat (w - 10).toNat (tsq (sdp (nv (vw m 2))) (rpn (nv (vw m 2))) (m 2 4).toNat (fun u => rat m r (u : Int)) (m r 2).toNat (w - 10).toNat)) (m 2 4).toNat else -1)] m1)) ∧ ((am_s w = 0) → (OPR m r) ∧ (∀ (m2 : am_M), (∀ a, a ≠ 47 → a ≠ 48 → m2 a = m a) → Q [.inl ((Mv (sdp (nv (vw m 2))) (rpn (nv (vw m 2))) (m 2 4).toNat (fun u => rat m r (u : Int)) (m r 2).toNat 0 0 : Nat) : Int)] m2))) ∧ ((¬ (am_s (m r 2) ≤ am_s i)) → (RWC m r) ∧ (((0 ≤ am_s (am_lcmp ((rat m r (am_s i))) 0)) → ok 6 136 58 [some (.inr (.inr (some 0))), some (.inl a), some (.inl w), some (.inr (.inr (some r))), some (.inl (i + 1))] [] m Q) ∧ ((¬ (0 ≤ am_s (am_lcmp ((rat m r (am_s i))) 0))) → Q [.inl (-3)] m)))) : ok 6 136 58 [some (.inr (.inr (some 0))), some (.inl a), some (.inl w), some (.inr (.inr (some r))), some (.inl i)] [] m Q := by
  refine ok_sg (pc' := 64) (ls' := [some (.inr (.inr (some 0))), some (.inl a), some (.inl w), some (.inr (.inr (some r))), some (.inl i)]) (st' := [.inl (m r 2), .inl i]) (m' := m) (fun fx hfx o hk => ?_) ?_
  · refine r_ld (pc' := 60) hM_136 d_136_58 rfl rfl ?_
    refine r_ld (pc' := 61) hM_136 d_136_60 rfl rfl ?_
    refine r_gI (pc' := 64) (k0 := 2) hM_136 d_136_61 rfl (gfR_1_144 h_r) ?_
    exact hk
  refine ok_ic (pc' := 87) (pc2 := 67) hM_136 d_136_64 (by decide) rfl (fun hz1 => ?_) (fun hz1 => ?_)
  · have H := H.1 hz1
    refine ok_sg (pc' := 88) (ls' := [some (.inr (.inr (some 0))), some (.inl a), some (.inl w), some (.inr (.inr (some r))), some (.inl i)]) (st' := [.inl w]) (m' := m) (fun fx hfx o hk => ?_) ?_
    · refine r_ld (pc' := 88) hM_136 d_136_87 rfl rfl ?_
      exact hk
    refine ok_if (pc' := 102) (pc2 := 91) hM_136 d_136_88 (by decide) rfl (fun hz2 => ?_) (fun hz2 => ?_)
    · have H := H.1 hz2
      obtain ⟨hz3, H⟩ := H
      refine ok_sg (pc' := 111) (ls' := [some (.inr (.inr (some 0))), some (.inl a), some (.inl w), some (.inr (.inr (some r))), some (.inl i)]) (st' := [.inl (w - 10), .inr (.inr (some r)), .inr (.inr (some 46))]) (m' := m) (fun fx hfx o hk => ?_) ?_
      · refine r_ld (pc' := 103) hM_136 d_136_102 rfl rfl ?_
        refine r_gR (pc' := 106) (v := 46) hM_136 d_136_103 rfl (by decide +kernel) ?_
        refine r_ld (pc' := 107) hM_136 d_136_106 rfl rfl ?_
        refine r_ld (pc' := 108) hM_136 d_136_107 rfl rfl ?_
        refine r_k (pc' := 110) (v := .inl 10) hM_136 d_136_108 rfl rfl ?_
        refine r_b (pc' := 111) (z := (w - 10)) hM_136 d_136_110 rfl rfl ?_
        exact hk
      refine ok_cl (pc' := 114) (c := (142, 0)) (a := [.inr (.inr (some 46)), .inr (.inr (some r)), .inl (w - 10)]) (q := []) hM_136 d_136_111 rfl (by decide +kernel) hM_142 rfl rfl rfl (Nat.le_of_ble_eq_true rfl) (Nat.le_of_ble_eq_true rfl) (Or.inr rfl) (z_142 h_r m (w - 10) hz3) (Nat.le_of_ble_eq_true rfl) ?_
      rintro _ m1 ⟨rfl, hz4⟩
      replace H := H  m1 hz4
      show ok 6 136 114 [some (.inr (.inr (some 0))), some (.inl a), some (.inl w), some (.inr (.inr (some r))), some (.inl i)] [.inl (if (w - 10) < m r 2 then plv (ORC (sdp (nv (vw m 2))) (rpn (nv (vw m 2))) (m 2 4).toNat (fun u => rat m r (u : Int)) (m r 2).toNat (w - 10).toNat (tsq (sdp (nv (vw m 2))) (rpn (nv (vw m 2))) (m 2 4).toNat (fun u => rat m r (u : Int)) (m r 2).toNat (w - 10).toNat)) (m 2 4).toNat else -1)] m1 Q
      exact ok_rt (fun fx _ => rt_i hM_136 d_136_114 rfl) H
    · have H := H.2 (Decidable.not_not.mp hz2)
      obtain ⟨hz5, H⟩ := H
      refine ok_sg (pc' := 96) (ls' := [some (.inr (.inr (some 0))), some (.inl a), some (.inl w), some (.inr (.inr (some r))), some (.inl i)]) (st' := [.inr (.inr (some r)), .inr (.inr (some 46))]) (m' := m) (fun fx hfx o hk => ?_) ?_
      · refine r_ld (pc' := 92) hM_136 d_136_91 rfl rfl ?_
        refine r_gR (pc' := 95) (v := 46) hM_136 d_136_92 rfl (by decide +kernel) ?_
        refine r_ld (pc' := 96) hM_136 d_136_95 rfl rfl ?_
        exact hk
      refine ok_cl (pc' := 99) (c := (137, 0)) (a := [.inr (.inr (some 46)), .inr (.inr (some r))]) (q := []) hM_136 d_136_96 rfl (by decide +kernel) hM_137 rfl rfl rfl (Nat.le_of_ble_eq_true rfl) (Nat.le_of_ble_eq_true rfl) (Or.inr rfl) (z_137 h_r m  hz5) (Nat.le_of_ble_eq_true rfl) ?_
      rintro _ m2 ⟨rfl, hz6⟩
      replace H := H  m2 hz6
      show ok 6 136 99 [some (.inr (.inr (some 0))), some (.inl a), some (.inl w), some (.inr (.inr (some r))), some (.inl i)] [.inl ((Mv (sdp (nv (vw m 2))) (rpn (nv (vw m 2))) (m 2 4).toNat (fun u => rat m r (u : Int)) (m r 2).toNat 0 0 : Nat) : Int)] m2 Q
      refine ok_sg (pc' := 114) (ls' := [some (.inr (.inr (some 0))), some (.inl a), some (.inl w), some (.inr (.inr (some r))), some (.inl i)]) (st' := [.inl ((Mv (sdp (nv (vw m 2))) (rpn (nv (vw m 2))) (m 2 4).toNat (fun u => rat m r (u : Int)) (m r 2).toNat 0 0 : Nat) : Int)]) (m' := m2) (fun fx hfx o hk => ?_) ?_
      · refine r_go (pc' := 114) hM_136 d_136_99 (by decide) ?_
        exact hk
      exact ok_rt (fun fx _ => rt_i hM_136 d_136_114 rfl) H
  · have H := H.2 hz1
    obtain ⟨hz7, H⟩ := H
    refine ok_sg (pc' := 75) (ls' := [some (.inr (.inr (some 0))), some (.inl a), some (.inl w), some (.inr (.inr (some r))), some (.inl i)]) (st' := [.inl (am_lcmp ((rat m r (am_s i))) 0)]) (m' := m) (fun fx hfx o hk => ?_) ?_
    · refine r_ld (pc' := 68) hM_136 d_136_67 rfl rfl ?_
      refine r_ld (pc' := 70) hM_136 d_136_68 rfl rfl ?_
      refine r_cl (pc' := 73) (c := (56, 0)) (a := [.inr (.inr (some r)), .inl i]) (q := []) hM_136 d_136_70 rfl (by decide +kernel) hM_56 rfl rfl rfl (Nat.le_of_ble_eq_true rfl) (Nat.le_of_ble_eq_true rfl) (Or.inr (rcvR h_r _)) (n_56 h_r m i hz7) (Nat.le_of_ble_eq_true rfl) ?_
      show rn fx 6 (0, 0) 136 73 [some (.inr (.inr (some 0))), some (.inl a), some (.inl w), some (.inr (.inr (some r))), some (.inl i)] [.inr (.inl ((rat m r (am_s i))))] (st0 m) o
      refine r_k (pc' := 74) (v := .inr (.inl 0)) hM_136 d_136_73 rfl rfl ?_
      refine r_stk (pc' := 75) (st' := [.inl (am_lcmp ((rat m r (am_s i))) 0)]) hM_136 d_136_74 rfl rfl ?_
      exact hk
    refine ok_if (pc' := 81) (pc2 := 78) hM_136 d_136_75 (by decide) rfl (fun hz8 => ?_) (fun hz8 => ?_)
    · have H := H.1 hz8
      refine ok_sg (pc' := 58) (ls' := [some (.inr (.inr (some 0))), some (.inl a), some (.inl w), some (.inr (.inr (some r))), some (.inl (i + 1))]) (st' := []) (m' := m) (fun fx hfx o hk => ?_) ?_
      · refine r_sto (pc' := 84) (ls' := [some (.inr (.inr (some 0))), some (.inl a), some (.inl w), some (.inr (.inr (some r))), some (.inl (i + 1))]) hM_136 d_136_81 rfl rfl ?_
        refine r_go (pc' := 58) hM_136 d_136_84 (by decide) ?_
        exact hk
      exact H
    · have H := H.2 hz8
      refine ok_sg (pc' := 80) (ls' := [some (.inr (.inr (some 0))), some (.inl a), some (.inl w), some (.inr (.inr (some r))), some (.inl i)]) (st' := [.inl (-3)]) (m' := m) (fun fx hfx o hk => ?_) ?_
      · refine r_k (pc' := 80) (v := .inl (-3)) hM_136 d_136_78 rfl rfl ?_
        exact hk
      exact ok_rt (fun fx _ => rt_i hM_136 d_136_80 rfl) H
theorem u_136_0 {Q : List am_V → am_M → Prop} {m : am_M} {a : Int} {w : Int}  (H : ((¬ (0 ≤ am_s a ∧ am_s a < 4)) → Q [.inl (-2)] m) ∧ ((0 ≤ am_s a ∧ am_s a < 4) → ((am_s w = 0) → (0 ≤ am_s a ∧ am_s a < (4 : Nat)) ∧ ((RWC m (25 + 2 * (am_s a).toNat)) ∧ (((¬ (m (25 + 2 * (am_s a).toNat) 2 < 0)) → ((am_s (m (25 + 2 * (am_s a).toNat) 2) ≤ 10) → ok 6 136 58 [some (.inr (.inr (some 0))), some (.inl a), some (.inl w), some (.inr (.inr (some (25 + 2 * (am_s a).toNat)))), some (.inl 0)] [] m Q) ∧ ((¬ (am_s (m (25 + 2 * (am_s a).toNat) 2) ≤ 10)) → Q [.inl (-4)] m)) ∧ ((m (25 + 2 * (am_s a).toNat) 2 < 0) → Q [.inl (-6)] m)))) ∧ ((¬ (am_s w = 0)) → ((am_s w < 10) → Q [.inl (-2)] m) ∧ ((¬ (am_s w < 10)) → ((am_s w ≤ 19) → (0 ≤ am_s a ∧ am_s a < (4 : Nat)) ∧ ((RWC m (25 + 2 * (am_s a).toNat)) ∧ (((¬ (m (25 + 2 * (am_s a).toNat) 2 < 0)) → ((am_s (m (25 + 2 * (am_s a).toNat) 2) ≤ 10) → ok 6 136 58 [some (.inr (.inr (some 0))), some (.inl a), some (.inl w), some (.inr (.inr (some (25 + 2 * (am_s a).toNat)))), some (.inl 0)] [] m Q) ∧ ((¬ (am_s (m (25 + 2 * (am_s a).toNat) 2) ≤ 10)) → Q [.inl (-4)] m)) ∧ ((m (25 + 2 * (am_s a).toNat) 2 < 0) → Q [.inl (-6)] m)))) ∧ ((¬ (am_s w ≤ 19)) → Q [.inl (-2)] m))))) : ok 6 136 0 [some (.inr (.inr (some 0))), some (.inl a), some (.inl w), none, none] [] m Q := by
  refine ok_sg (pc' := 4) (ls' := [some (.inr (.inr (some 0))), some (.inl a), some (.inl w), none, none]) (st' := [.inl ((if 0 ≤ am_s a ∧ am_s a < 4 then 1 else 0))]) (m' := m) (fun fx hfx o hk => ?_) ?_
  · refine r_ld (pc' := 1) hM_136 d_136_0 rfl rfl ?_
    refine r_cl (pc' := 4) (c := (53, 2)) (a := [.inl a]) (q := []) hM_136 d_136_1 rfl (by decide +kernel) hM_53 rfl rfl rfl (Nat.le_of_ble_eq_true rfl) (Nat.le_of_ble_eq_true rfl) (Or.inl rfl) (n_53  m a) (Nat.le_of_ble_eq_true rfl) ?_
    show rn fx 6 (0, 0) 136 4 [some (.inr (.inr (some 0))), some (.inl a), some (.inl w), none, none] [.inl ((if 0 ≤ am_s a ∧ am_s a < 4 then 1 else 0))] (st0 m) o
    exact hk
  refine ok_if (pc' := 23) (pc2 := 7) hM_136 d_136_4 (by decide) rfl (fun hz1 => ?_) (fun hz1 => ?_)
  · have H := H.1 (as_ite.mp hz1)
    refine ok_sg (pc' := 25) (ls' := [some (.inr (.inr (some 0))), some (.inl a), some (.inl w), none, none]) (st' := [.inl (-2)]) (m' := m) (fun fx hfx o hk => ?_) ?_
    · refine r_k (pc' := 25) (v := .inl (-2)) hM_136 d_136_23 rfl rfl ?_
      exact hk
    exact ok_rt (fun fx _ => rt_i hM_136 d_136_25 rfl) H
  · have H := H.2 (as_iteN.mp hz1)
    refine ok_sg (pc' := 8) (ls' := [some (.inr (.inr (some 0))), some (.inl a), some (.inl w), none, none]) (st' := [.inl w]) (m' := m) (fun fx hfx o hk => ?_) ?_
    · refine r_ld (pc' := 8) hM_136 d_136_7 rfl rfl ?_
      exact hk
    refine ok_if (pc' := 26) (pc2 := 11) hM_136 d_136_8 (by decide) rfl (fun hz2 => ?_) (fun hz2 => ?_)
    · have H := H.1 hz2
      obtain ⟨hz3, H⟩ := H
      obtain ⟨hz4, H⟩ := H
      refine ok_sg (pc' := 37) (ls' := [some (.inr (.inr (some 0))), some (.inl a), some (.inl w), some (.inr (.inr (some (25 + 2 * (am_s a).toNat)))), none]) (st' := [.inl ((if m (25 + 2 * (am_s a).toNat) 2 < 0 then 1 else 0))]) (m' := m) (fun fx hfx o hk => ?_) ?_
      · refine r_ld (pc' := 27) hM_136 d_136_26 rfl rfl ?_
        refine r_gR (pc' := 30) (v := 14) hM_136 d_136_27 rfl (by decide +kernel) ?_
        refine r_ld (pc' := 31) hM_136 d_136_30 rfl rfl ?_
        refine r_aa (pc' := 32) (n := 4) hM_136 d_136_31 rfl rfl (by decide) hz3 (rfRows hz3).1 (shRk (rfRows hz3).2).1 ?_
        refine r_sto (pc' := 33) (ls' := [some (.inr (.inr (some 0))), some (.inl a), some (.inl w), some (.inr (.inr (some (25 + 2 * (am_s a).toNat)))), none]) hM_136 d_136_32 rfl rfl ?_
        refine r_ld (pc' := 34) hM_136 d_136_33 rfl rfl ?_
        refine r_cl (pc' := 37) (c := (54, 0)) (a := [.inr (.inr (some (25 + 2 * (am_s a).toNat)))]) (q := []) hM_136 d_136_34 rfl (by decide +kernel) hM_54 rfl rfl rfl (Nat.le_of_ble_eq_true rfl) (Nat.le_of_ble_eq_true rfl) (Or.inr (rcvR ((rfRows hz3).2) _)) (n_54 ((rfRows hz3).2) m  hz4) (Nat.le_of_ble_eq_true rfl) ?_
        show rn fx 6 (0, 0) 136 37 [some (.inr (.inr (some 0))), some (.inl a), some (.inl w), some (.inr (.inr (some (25 + 2 * (am_s a).toNat)))), none] [.inl ((if m (25 + 2 * (am_s a).toNat) 2 < 0 then 1 else 0))] (st0 m) o
        exact hk
      refine ok_if (pc' := 43) (pc2 := 40) hM_136 d_136_37 (by decide) rfl (fun hz5 => ?_) (fun hz5 => ?_)
      · have H := H.1 (as_ite.mp hz5)
        refine ok_sg (pc' := 49) (ls' := [some (.inr (.inr (some 0))), some (.inl a), some (.inl w), some (.inr (.inr (some (25 + 2 * (am_s a).toNat)))), none]) (st' := [.inl 10, .inl (m (25 + 2 * (am_s a).toNat) 2)]) (m' := m) (fun fx hfx o hk => ?_) ?_
        · refine r_ld (pc' := 44) hM_136 d_136_43 rfl rfl ?_
          refine r_gI (pc' := 47) (k0 := 2) hM_136 d_136_44 rfl (gfR_1_144 ((rfRows hz3).2)) ?_
          refine r_k (pc' := 49) (v := .inl 10) hM_136 d_136_47 rfl rfl ?_
          exact hk
        refine ok_ic (pc' := 55) (pc2 := 52) hM_136 d_136_49 (by decide) rfl (fun hz6 => ?_) (fun hz6 => ?_)
        · have H := H.1 hz6
          refine ok_sg (pc' := 58) (ls' := [some (.inr (.inr (some 0))), some (.inl a), some (.inl w), some (.inr (.inr (some (25 + 2 * (am_s a).toNat)))), some (.inl 0)]) (st' := []) (m' := m) (fun fx hfx o hk => ?_) ?_
          · refine r_k (pc' := 56) (v := .inl 0) hM_136 d_136_55 rfl rfl ?_
            refine r_sto (pc' := 58) (ls' := [some (.inr (.inr (some 0))), some (.inl a), some (.inl w), some (.inr (.inr (some (25 + 2 * (am_s a).toNat)))), some (.inl 0)]) hM_136 d_136_56 rfl rfl ?_
            exact hk
          exact H
        · have H := H.2 hz6
          refine ok_sg (pc' := 54) (ls' := [some (.inr (.inr (some 0))), some (.inl a), some (.inl w), some (.inr (.inr (some (25 + 2 * (am_s a).toNat)))), none]) (st' := [.inl (-4)]) (m' := m) (fun fx hfx o hk => ?_) ?_
          · refine r_k (pc' := 54) (v := .inl (-4)) hM_136 d_136_52 rfl rfl ?_
            exact hk
          exact ok_rt (fun fx _ => rt_i hM_136 d_136_54 rfl) H
      · have H := H.2 (as_iteN.mp hz5)
        refine ok_sg (pc' := 42) (ls' := [some (.inr (.inr (some 0))), some (.inl a), some (.inl w), some (.inr (.inr (some (25 + 2 * (am_s a).toNat)))), none]) (st' := [.inl (-6)]) (m' := m) (fun fx hfx o hk => ?_) ?_
        · refine r_k (pc' := 42) (v := .inl (-6)) hM_136 d_136_40 rfl rfl ?_
          exact hk
        exact ok_rt (fun fx _ => rt_i hM_136 d_136_42 rfl) H
    · have H := H.2 hz2
      refine ok_sg (pc' := 14) (ls' := [some (.inr (.inr (some 0))), some (.inl a), some (.inl w), none, none]) (st' := [.inl 10, .inl w]) (m' := m) (fun fx hfx o hk => ?_) ?_
      · refine r_ld (pc' := 12) hM_136 d_136_11 rfl rfl ?_
        refine r_k (pc' := 14) (v := .inl 10) hM_136 d_136_12 rfl rfl ?_
        exact hk
      refine ok_ic (pc' := 23) (pc2 := 17) hM_136 d_136_14 (by decide) rfl (fun hz7 => ?_) (fun hz7 => ?_)
      · have H := H.1 hz7
        refine ok_sg (pc' := 25) (ls' := [some (.inr (.inr (some 0))), some (.inl a), some (.inl w), none, none]) (st' := [.inl (-2)]) (m' := m) (fun fx hfx o hk => ?_) ?_
        · refine r_k (pc' := 25) (v := .inl (-2)) hM_136 d_136_23 rfl rfl ?_
          exact hk
        exact ok_rt (fun fx _ => rt_i hM_136 d_136_25 rfl) H
      · have H := H.2 hz7
        refine ok_sg (pc' := 20) (ls' := [some (.inr (.inr (some 0))), some (.inl a), some (.inl w), none, none]) (st' := [.inl 19, .inl w]) (m' := m) (fun fx hfx o hk => ?_) ?_
        · refine r_ld (pc' := 18) hM_136 d_136_17 rfl rfl ?_
          refine r_k (pc' := 20) (v := .inl 19) hM_136 d_136_18 rfl rfl ?_
          exact hk
        refine ok_ic (pc' := 26) (pc2 := 23) hM_136 d_136_20 (by decide) rfl (fun hz8 => ?_) (fun hz8 => ?_)
        · have H := H.1 hz8
          obtain ⟨hz9, H⟩ := H
          obtain ⟨hz10, H⟩ := H
          refine ok_sg (pc' := 37) (ls' := [some (.inr (.inr (some 0))), some (.inl a), some (.inl w), some (.inr (.inr (some (25 + 2 * (am_s a).toNat)))), none]) (st' := [.inl ((if m (25 + 2 * (am_s a).toNat) 2 < 0 then 1 else 0))]) (m' := m) (fun fx hfx o hk => ?_) ?_
          · refine r_ld (pc' := 27) hM_136 d_136_26 rfl rfl ?_
            refine r_gR (pc' := 30) (v := 14) hM_136 d_136_27 rfl (by decide +kernel) ?_
            refine r_ld (pc' := 31) hM_136 d_136_30 rfl rfl ?_
            refine r_aa (pc' := 32) (n := 4) hM_136 d_136_31 rfl rfl (by decide) hz9 (rfRows hz9).1 (shRk (rfRows hz9).2).1 ?_
            refine r_sto (pc' := 33) (ls' := [some (.inr (.inr (some 0))), some (.inl a), some (.inl w), some (.inr (.inr (some (25 + 2 * (am_s a).toNat)))), none]) hM_136 d_136_32 rfl rfl ?_
            refine r_ld (pc' := 34) hM_136 d_136_33 rfl rfl ?_
            refine r_cl (pc' := 37) (c := (54, 0)) (a := [.inr (.inr (some (25 + 2 * (am_s a).toNat)))]) (q := []) hM_136 d_136_34 rfl (by decide +kernel) hM_54 rfl rfl rfl (Nat.le_of_ble_eq_true rfl) (Nat.le_of_ble_eq_true rfl) (Or.inr (rcvR ((rfRows hz9).2) _)) (n_54 ((rfRows hz9).2) m  hz10) (Nat.le_of_ble_eq_true rfl) ?_
            show rn fx 6 (0, 0) 136 37 [some (.inr (.inr (some 0))), some (.inl a), some (.inl w), some (.inr (.inr (some (25 + 2 * (am_s a).toNat)))), none] [.inl ((if m (25 + 2 * (am_s a).toNat) 2 < 0 then 1 else 0))] (st0 m) o
            exact hk
          refine ok_if (pc' := 43) (pc2 := 40) hM_136 d_136_37 (by decide) rfl (fun hz11 => ?_) (fun hz11 => ?_)
          · have H := H.1 (as_ite.mp hz11)
            refine ok_sg (pc' := 49) (ls' := [some (.inr (.inr (some 0))), some (.inl a), some (.inl w), some (.inr (.inr (some (25 + 2 * (am_s a).toNat)))), none]) (st' := [.inl 10, .inl (m (25 + 2 * (am_s a).toNat) 2)]) (m' := m) (fun fx hfx o hk => ?_) ?_
            · refine r_ld (pc' := 44) hM_136 d_136_43 rfl rfl ?_
              refine r_gI (pc' := 47) (k0 := 2) hM_136 d_136_44 rfl (gfR_1_144 ((rfRows hz9).2)) ?_
              refine r_k (pc' := 49) (v := .inl 10) hM_136 d_136_47 rfl rfl ?_
              exact hk
            refine ok_ic (pc' := 55) (pc2 := 52) hM_136 d_136_49 (by decide) rfl (fun hz12 => ?_) (fun hz12 => ?_)
            · have H := H.1 hz12
              refine ok_sg (pc' := 58) (ls' := [some (.inr (.inr (some 0))), some (.inl a), some (.inl w), some (.inr (.inr (some (25 + 2 * (am_s a).toNat)))), some (.inl 0)]) (st' := []) (m' := m) (fun fx hfx o hk => ?_) ?_
              · refine r_k (pc' := 56) (v := .inl 0) hM_136 d_136_55 rfl rfl ?_
                refine r_sto (pc' := 58) (ls' := [some (.inr (.inr (some 0))), some (.inl a), some (.inl w), some (.inr (.inr (some (25 + 2 * (am_s a).toNat)))), some (.inl 0)]) hM_136 d_136_56 rfl rfl ?_
                exact hk
              exact H
            · have H := H.2 hz12
              refine ok_sg (pc' := 54) (ls' := [some (.inr (.inr (some 0))), some (.inl a), some (.inl w), some (.inr (.inr (some (25 + 2 * (am_s a).toNat)))), none]) (st' := [.inl (-4)]) (m' := m) (fun fx hfx o hk => ?_) ?_
              · refine r_k (pc' := 54) (v := .inl (-4)) hM_136 d_136_52 rfl rfl ?_
                exact hk
              exact ok_rt (fun fx _ => rt_i hM_136 d_136_54 rfl) H
          · have H := H.2 (as_iteN.mp hz11)
            refine ok_sg (pc' := 42) (ls' := [some (.inr (.inr (some 0))), some (.inl a), some (.inl w), some (.inr (.inr (some (25 + 2 * (am_s a).toNat)))), none]) (st' := [.inl (-6)]) (m' := m) (fun fx hfx o hk => ?_) ?_
            · refine r_k (pc' := 42) (v := .inl (-6)) hM_136 d_136_40 rfl rfl ?_
              exact hk
            exact ok_rt (fun fx _ => rt_i hM_136 d_136_42 rfl) H
        · have H := H.2 hz8
          refine ok_sg (pc' := 25) (ls' := [some (.inr (.inr (some 0))), some (.inl a), some (.inl w), none, none]) (st' := [.inl (-2)]) (m' := m) (fun fx hfx o hk => ?_) ?_
          · refine r_k (pc' := 25) (v := .inl (-2)) hM_136 d_136_23 rfl rfl ?_
            exact hk
          exact ok_rt (fun fx _ => rt_i hM_136 d_136_25 rfl) H
