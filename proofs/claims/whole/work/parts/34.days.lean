theorem t_199_12 {fx : am_X0} {o : List am_V × am_S} {m : am_M} {row : Int} {i : Int}  (H : (0 ≤ am_s row ∧ am_s row < (4 : Nat)) ∧ (((am_s (m 74 ((am_s row).toNat)) ≤ am_s i) → o = ([.inl (m 74 ((am_s row).toNat))], st0 m)) ∧ (¬ (am_s (m 74 ((am_s row).toNat)) ≤ am_s i) → (0 ≤ am_s ((40 * row) + i) ∧ am_s ((40 * row) + i) < (160 : Nat)) ∧ ((WFG (m 54) ∧ am_t (m 75 ((am_s ((40 * row) + i)).toNat)) = (m 75 ((am_s ((40 * row) + i)).toNat))) ∧ (((am_s ((rfs (nv (m 54)) (m 75 ((am_s ((40 * row) + i)).toNat)))) = 0) → (0 ≤ (m 75 ((am_s ((40 * row) + i)).toNat)) ∧ (m 75 ((am_s ((40 * row) + i)).toNat)) < 2147483648) ∧ ((WFG ((mu (mu m 53 16 ((rfs (nv (m 54)) (m 75 ((am_s ((40 * row) + i)).toNat))))) 53 17 ((m 53 17) + (((cnt (m 75 ((am_s ((40 * row) + i)).toNat)).toNat 12 : Nat) : Int)))) 54) ∧ 0 ≤ (m 75 ((am_s ((40 * row) + i)).toNat)) ∧ (m 75 ((am_s ((40 * row) + i)).toNat)) < 4096) ∧ (rn fx 3 (0, 0) 199 12 [some (.inr (.inr (some 53))), some (.inl row), some (.inl (i + 1))] [] (st0 (gw (mu (mu m 53 16 ((rfs (nv (m 54)) (m 75 ((am_s ((40 * row) + i)).toNat))))) 53 17 ((m 53 17) + (((cnt (m 75 ((am_s ((40 * row) + i)).toNat)).toNat 12 : Nat) : Int)))) (m 75 ((am_s ((40 * row) + i)).toNat)).toNat)) o))) ∧ (¬ (am_s ((rfs (nv (m 54)) (m 75 ((am_s ((40 * row) + i)).toNat)))) = 0) → o = ([.inl i], st0 (mu m 53 16 ((rfs (nv (m 54)) (m 75 ((am_s ((40 * row) + i)).toNat)))))))))))) : rn fx 3 (0, 0) 199 12 [some (.inr (.inr (some 53))), some (.inl row), some (.inl i)] [] (st0 m) o := by
  refine r_ld (pc' := 13) hM_199 d_199_12 rfl rfl ?_
  refine r_ld (pc' := 14) hM_199 d_199_13 rfl rfl ?_
  refine r_gR (pc' := 17) (v := 74) hM_199 d_199_14 rfl (by decide +kernel) ?_
  refine r_ld (pc' := 18) hM_199 d_199_17 rfl rfl ?_
  obtain ⟨hz1, H⟩ := H
  refine r_ia (pc' := 19) (n := 4) hM_199 d_199_18 rfl rfl hz1 ?_
  refine r_ic (pc' := 96) (pc2 := 22) hM_199 d_199_19 (by decide) rfl (fun hz2 => ?_) (fun hz2 => ?_)
  · have H := H.1 hz2
    refine r_ld (pc' := 97) hM_199 d_199_96 rfl rfl ?_
    refine r_gR (pc' := 100) (v := 74) hM_199 d_199_97 rfl (by decide +kernel) ?_
    refine r_ld (pc' := 101) hM_199 d_199_100 rfl rfl ?_
    refine r_ia (pc' := 102) (n := 4) hM_199 d_199_101 rfl rfl hz1 ?_
    subst H
    exact rt_i hM_199 d_199_102 rfl
  · have H := H.2 hz2
    refine r_ld (pc' := 23) hM_199 d_199_22 rfl rfl ?_
    refine r_ld (pc' := 24) hM_199 d_199_23 rfl rfl ?_
    refine r_ld (pc' := 25) hM_199 d_199_24 rfl rfl ?_
    refine r_gR (pc' := 28) (v := 75) hM_199 d_199_25 rfl (by decide +kernel) ?_
    refine r_k (pc' := 30) (v := .inl 40) hM_199 d_199_28 rfl rfl ?_
    refine r_ld (pc' := 31) hM_199 d_199_30 rfl rfl ?_
    refine r_b (pc' := 32) (z := (40 * row)) hM_199 d_199_31 rfl rfl ?_
    refine r_ld (pc' := 33) hM_199 d_199_32 rfl rfl ?_
    refine r_b (pc' := 34) (z := ((40 * row) + i)) hM_199 d_199_33 rfl rfl ?_
    obtain ⟨hz3, H⟩ := H
    refine r_la (pc' := 35) (n := 160) hM_199 d_199_34 rfl rfl hz3 ?_
    obtain ⟨hz4, H⟩ := H
    refine r_cl (pc' := 38) (c := (190, 0)) (a := [.inr (.inr (some 53)), .inr (.inl (m 75 ((am_s ((40 * row) + i)).toNat)))]) (q := [.inr (.inr (some 53))]) hM_199 d_199_35 rfl (by decide +kernel) hM_190 rfl rfl rfl (Nat.le_of_ble_eq_true rfl) (Nat.le_of_ble_eq_true rfl) (Or.inr rfl) (n_190  m (m 75 ((am_s ((40 * row) + i)).toNat)) hz4) (Nat.le_of_ble_eq_true rfl) ?_
    show rn fx 3 (0, 0) 199 38 [some (.inr (.inr (some 53))), some (.inl row), some (.inl i)] [.inl ((rfs (nv (m 54)) (m 75 ((am_s ((40 * row) + i)).toNat)))), .inr (.inr (some 53))] (st0 m) o
    refine r_pI (pc' := 41) (k0 := 16) hM_199 d_199_38 rfl (by decide +kernel) ?_
    refine r_ld (pc' := 42) hM_199 d_199_41 rfl rfl ?_
    refine r_gIe (pc' := 45) (k0 := 16) (z := ((rfs (nv (m 54)) (m 75 ((am_s ((40 * row) + i)).toNat))))) hM_199 d_199_42 rfl (by decide +kernel) (mu_same) ?_
    refine r_if (pc' := 50) (pc2 := 48) hM_199 d_199_45 (by decide) rfl (fun hz5 => ?_) (fun hz5 => ?_)
    · have H := H.1 hz5
      refine r_ld (pc' := 51) hM_199 d_199_50 rfl rfl ?_
      refine r_stk (pc' := 52) (st' := [.inr (.inr (some 53)), .inr (.inr (some 53))]) hM_199 d_199_51 rfl rfl ?_
      refine r_gIe (pc' := 55) (k0 := 17) (z := (m 53 17)) hM_199 d_199_52 rfl (by decide +kernel) (mu_k (by omega)) ?_
      refine r_ld (pc' := 56) hM_199 d_199_55 rfl rfl ?_
      refine r_gR (pc' := 59) (v := 75) hM_199 d_199_56 rfl (by decide +kernel) ?_
      refine r_k (pc' := 61) (v := .inl 40) hM_199 d_199_59 rfl rfl ?_
      refine r_ld (pc' := 62) hM_199 d_199_61 rfl rfl ?_
      refine r_b (pc' := 63) (z := (40 * row)) hM_199 d_199_62 rfl rfl ?_
      refine r_ld (pc' := 64) hM_199 d_199_63 rfl rfl ?_
      refine r_b (pc' := 65) (z := ((40 * row) + i)) hM_199 d_199_64 rfl rfl ?_
      refine r_lae (pc' := 66) (n := 160) (z := (m 75 ((am_s ((40 * row) + i)).toNat))) hM_199 d_199_65 rfl rfl hz3 (mu_r (by decide)) ?_
      obtain ⟨hz6, H⟩ := H
      refine r_cl (pc' := 69) (c := (193, 2)) (a := [.inr (.inl (m 75 ((am_s ((40 * row) + i)).toNat)))]) (q := [.inl (m 53 17), .inr (.inr (some 53))]) hM_199 d_199_66 rfl (by decide +kernel) hM_193 rfl rfl rfl (Nat.le_of_ble_eq_true rfl) (Nat.le_of_ble_eq_true rfl) (Or.inl rfl) (c_193  (mu m 53 16 ((rfs (nv (m 54)) (m 75 ((am_s ((40 * row) + i)).toNat))))) (m 75 ((am_s ((40 * row) + i)).toNat)) hz6) (Nat.le_of_ble_eq_true rfl) ?_
      show rn fx 3 (0, 0) 199 69 [some (.inr (.inr (some 53))), some (.inl row), some (.inl i)] [.inl (((cnt (m 75 ((am_s ((40 * row) + i)).toNat)).toNat 12 : Nat) : Int)), .inl (m 53 17), .inr (.inr (some 53))] (st0 (mu m 53 16 ((rfs (nv (m 54)) (m 75 ((am_s ((40 * row) + i)).toNat)))))) o
      refine r_b (pc' := 70) (z := ((m 53 17) + (((cnt (m 75 ((am_s ((40 * row) + i)).toNat)).toNat 12 : Nat) : Int)))) hM_199 d_199_69 rfl rfl ?_
      refine r_pI (pc' := 73) (k0 := 17) hM_199 d_199_70 rfl (by decide +kernel) ?_
      refine r_ld (pc' := 74) hM_199 d_199_73 rfl rfl ?_
      refine r_ld (pc' := 75) hM_199 d_199_74 rfl rfl ?_
      refine r_gR (pc' := 78) (v := 75) hM_199 d_199_75 rfl (by decide +kernel) ?_
      refine r_k (pc' := 80) (v := .inl 40) hM_199 d_199_78 rfl rfl ?_
      refine r_ld (pc' := 81) hM_199 d_199_80 rfl rfl ?_
      refine r_b (pc' := 82) (z := (40 * row)) hM_199 d_199_81 rfl rfl ?_
      refine r_ld (pc' := 83) hM_199 d_199_82 rfl rfl ?_
      refine r_b (pc' := 84) (z := ((40 * row) + i)) hM_199 d_199_83 rfl rfl ?_
      refine r_lae (pc' := 85) (n := 160) (z := (m 75 ((am_s ((40 * row) + i)).toNat))) hM_199 d_199_84 rfl rfl hz3 ((mu_r (by decide)).trans (mu_r (by decide))) ?_
      refine r_stk (pc' := 86) (st' := [.inl (m 75 ((am_s ((40 * row) + i)).toNat)), .inr (.inr (some 53))]) hM_199 d_199_85 rfl rfl ?_
      obtain ⟨hz7, H⟩ := H
      refine r_cl (pc' := 89) (c := (195, 0)) (a := [.inr (.inr (some 53)), .inl (m 75 ((am_s ((40 * row) + i)).toNat))]) (q := []) hM_199 d_199_86 rfl (by decide +kernel) hM_195 rfl rfl rfl (Nat.le_of_ble_eq_true rfl) (Nat.le_of_ble_eq_true rfl) (Or.inr rfl) (n_195  (mu (mu m 53 16 ((rfs (nv (m 54)) (m 75 ((am_s ((40 * row) + i)).toNat))))) 53 17 ((m 53 17) + (((cnt (m 75 ((am_s ((40 * row) + i)).toNat)).toNat 12 : Nat) : Int)))) (m 75 ((am_s ((40 * row) + i)).toNat)) hz7) (Nat.le_of_ble_eq_true rfl) ?_
      show rn fx 3 (0, 0) 199 89 [some (.inr (.inr (some 53))), some (.inl row), some (.inl i)] [.inl (dyn (m 75 ((am_s ((40 * row) + i)).toNat)).toNat (nv ((mu (mu m 53 16 ((rfs (nv (m 54)) (m 75 ((am_s ((40 * row) + i)).toNat))))) 53 17 ((m 53 17) + (((cnt (m 75 ((am_s ((40 * row) + i)).toNat)).toNat 12 : Nat) : Int)))) 54)))] (st0 (gw (mu (mu m 53 16 ((rfs (nv (m 54)) (m 75 ((am_s ((40 * row) + i)).toNat))))) 53 17 ((m 53 17) + (((cnt (m 75 ((am_s ((40 * row) + i)).toNat)).toNat 12 : Nat) : Int)))) (m 75 ((am_s ((40 * row) + i)).toNat)).toNat)) o
      refine r_stk (pc' := 90) (st' := []) hM_199 d_199_89 rfl rfl ?_
      refine r_sto (pc' := 93) (ls' := [some (.inr (.inr (some 53))), some (.inl row), some (.inl (i + 1))]) hM_199 d_199_90 rfl rfl ?_
      refine r_go (pc' := 12) hM_199 d_199_93 (by decide) ?_
      exact H
    · have H := H.2 hz5
      refine r_ld (pc' := 49) hM_199 d_199_48 rfl rfl ?_
      subst H
      exact rt_i hM_199 d_199_49 rfl
theorem t_199_0 {fx : am_X0} {o : List am_V × am_S} {m : am_M} {row : Int}  (H : rn fx 3 (0, 0) 199 12 [some (.inr (.inr (some 53))), some (.inl row), some (.inl 0)] [] (st0 (mu (mu m 53 16 0) 53 17 0)) o) : rn fx 3 (0, 0) 199 0 [some (.inr (.inr (some 53))), some (.inl row), none] [] (st0 m) o := by
  refine r_ld (pc' := 1) hM_199 d_199_0 rfl rfl ?_
  refine r_k (pc' := 2) (v := .inl 0) hM_199 d_199_1 rfl rfl ?_
  refine r_pI (pc' := 5) (k0 := 16) hM_199 d_199_2 rfl (by decide +kernel) ?_
  refine r_ld (pc' := 6) hM_199 d_199_5 rfl rfl ?_
  refine r_k (pc' := 7) (v := .inl 0) hM_199 d_199_6 rfl rfl ?_
  refine r_pI (pc' := 10) (k0 := 17) hM_199 d_199_7 rfl (by decide +kernel) ?_
  refine r_k (pc' := 11) (v := .inl 0) hM_199 d_199_10 rfl rfl ?_
  refine r_sto (pc' := 12) (ls' := [some (.inr (.inr (some 53))), some (.inl row), some (.inl 0)]) hM_199 d_199_11 rfl rfl ?_
  exact H
theorem rfs_rng (g : Nat → Int) (b : Int) : 0 ≤ rfs g b ∧ rfs g b ≤ 3 := by
  unfold rfs
  split
  · omega
  · split
    · omega
    · split <;> omega
theorem rfs_0 {g : Nat → Int} {b : Int} (h : rfs g b = 0) : 0 ≤ b ∧ b.toNat &&& brl g = b.toNat ∧ ((cnt b.toNat 12 : Nat) : Int) ≤ g 4 ∧ g 1 ≠ 9999 := by
  unfold rfs at h
  split at h
  · omega
  · rename_i h1
    have h1 := Decidable.not_not.mp h1
    split at h
    · omega
    · split at h
      · omega
      · rename_i h2 h3
        exact ⟨h1.1, h1.2, by omega, h3⟩
/-- told days f from a state g on: the state behind i of them, and how many of the first n can be -/
def dst (f : Nat → Int) (g : Nat → Int) : Nat → (Nat → Int)
  | 0 => g
  | i + 1 => dy (f i).toNat (dst f g i)
def dlen (f : Nat → Int) (g : Nat → Int) : Nat → Nat
  | 0 => 0
  | n + 1 => if dlen f g n = n ∧ rfs (dst f g n) (f n) = 0 then n + 1 else dlen f g n
theorem dst_s {f g : Nat → Int} {i : Nat} : dst f g (i + 1) = dy (f i).toNat (dst f g i) := rfl
theorem dlen_s {f g : Nat → Int} {n : Nat} : dlen f g (n + 1) = if dlen f g n = n ∧ rfs (dst f g n) (f n) = 0 then n + 1 else dlen f g n := rfl
theorem dlen_le (f g : Nat → Int) : ∀ n, dlen f g n ≤ n := by
  intro n
  induction n with
  | zero => exact Nat.le_refl _
  | succ n ih =>
    rw [dlen_s]
    split <;> omega
theorem dlen_stop {f g : Nat → Int} {i : Nat} (h : dlen f g i = i) (hr : rfs (dst f g i) (f i) ≠ 0) : ∀ n, i ≤ n → dlen f g n = i := by
  intro n
  induction n with
  | zero =>
    intro hn
    have : i = 0 := by omega
    subst this
    exact h
  | succ n ih =>
    intro hn
    by_cases hi : i = n + 1
    · rw [← hi]; exact h
    · have h1 := ih (by omega)
      rw [dlen_s, h1]
      split
      · rename_i hc
        rw [hc.1] at hr
        exact absurd hc.2 hr
      · rfl
/-- the model's rows: their kinds, lengths and numbers -/
def RWM (m : am_M) : Prop := ∀ r, r < 4 → (-1 ≤ m 73 r ∧ m 73 r ≤ 3) ∧ (0 ≤ m 74 r ∧ m 74 r ≤ 40) ∧ ∀ k, k < 40 → am_t (m 75 (40 * r + k)) = m 75 (40 * r + k)
/-- the numbers of a row -/
def rwf (m : am_M) (r : Nat) : Nat → Int := fun k => m 75 (40 * r + k)
theorem nv0 {g : Nat → Int} : nv g 0 = g 0 := nv_lo (by decide)
def Q_199 (m : am_M)  (row : Int) (m' : am_M) : Prop := nv (m' 54) = dst (rwf m row.toNat) (nv (m 54)) (dlen (rwf m row.toNat) (nv (m 54)) (m 74 row.toNat).toNat) ∧ (WFG (m' 54) ∧ m' 54 1 ≤ 9999) ∧ (SLT (m 54) → SLT (m' 54)) ∧ (∀ a k, ¬ (a = 54 ∧ k < 56) → ¬ (a = 53 ∧ (k = 16 ∨ k = 17)) → m' a k = m a k) ∧ m' 53 16 = (if dlen (rwf m row.toNat) (nv (m 54)) (m 74 row.toNat).toNat = (m 74 row.toNat).toNat then 0 else rfs (dst (rwf m row.toNat) (nv (m 54)) (dlen (rwf m row.toNat) (nv (m 54)) (m 74 row.toNat).toNat)) (rwf m row.toNat (dlen (rwf m row.toNat) (nv (m 54)) (m 74 row.toNat).toNat))) ∧ m' 53 17 = sm (fun i => ((cnt (rwf m row.toNat i).toNat 12 : Nat) : Int)) (dlen (rwf m row.toNat) (nv (m 54)) (m 74 row.toNat).toNat)
noncomputable def W_199 (m : am_M)  (row : Int) : am_M := wch 3 199 3 [.inr (.inr (some 53)), .inl row] m [.inl (((dlen (rwf m row.toNat) (nv (m 54)) (m 74 row.toNat).toNat : Nat) : Int))] (Q_199 m row)
theorem x_199   (m : am_M) (row : Int) (hq : (WFG (m 54) ∧ m 54 1 ≤ 9999) ∧ RWM m ∧ 0 ≤ row ∧ row < 4) : ∃ m', wen 3 199 3 [.inr (.inr (some 53)), .inl row] m [.inl (((dlen (rwf m row.toNat) (nv (m 54)) (m 74 row.toNat).toNat : Nat) : Int))] (Q_199 m row) m' := by
  obtain ⟨⟨hw, hdt⟩, hr, hr0, hr1⟩ := hq
  obtain ⟨r, rfl⟩ : ∃ r : Nat, row = (r : Int) := ⟨row.toNat, by omega⟩
  unfold Q_199 wen
  rw [Int.toNat_natCast]
  obtain ⟨-, hn, hv⟩ := hr r (by omega)
  have hlp := rn_loopE (σ := Unit) (d := 3) (mi := 199) (pc := 12) (fun i _ => [some (.inr (.inr (some 53))), some (.inl (r : Int)), some (.inl (i : Int))])
    (fun i _ M => dlen (rwf m r) (nv (m 54)) i = i ∧ nv (M 54) = dst (rwf m r) (nv (m 54)) i ∧ (WFG (M 54) ∧ M 54 1 ≤ 9999) ∧ (SLT (m 54) → SLT (M 54)) ∧ (∀ a k, ¬ (a = 54 ∧ k < 56) → ¬ (a = 53 ∧ (k = 16 ∨ k = 17)) → M a k = m a k) ∧ M 53 16 = 0 ∧ M 53 17 = sm (fun i => ((cnt (rwf m r i).toNat 12 : Nat) : Int)) i)
    (fun q M => q = [.inl ((dlen (rwf m r) (nv (m 54)) (m 74 r).toNat : Nat) : Int)] ∧ Q_199 m (r : Int) M) (m 74 r).toNat ?_ ?_ () (mu (mu m 53 16 0) 53 17 0) ?_
  · obtain ⟨q, M, ⟨rfl, h1⟩, h2⟩ := hlp
    unfold Q_199 at h1
    rw [Int.toNat_natCast] at h1
    exact ⟨M, h1, fun fx => t_199_0 (h2 fx)⟩
  · rintro i hi - M ⟨h1, h2, ⟨h3, hD⟩, h4, h5, h6, h7⟩
    have e74 : M 74 r = m 74 r := h5 _ _ (by omega) (by omega)
    have e75 : M 75 (40 * r + i) = rwf m r i := h5 _ _ (by omega) (by omega)
    have ht : am_t (rwf m r i) = rwf m r i := hv i (by omega)
    have hrg := rfs_rng (dst (rwf m r) (nv (m 54)) i) (rwf m r i)
    have ex : ((40 : Int) * (r : Int) + (i : Int)).toNat = 40 * r + i := by omega
    by_cases hz : rfs (dst (rwf m r) (nv (m 54)) i) (rwf m r i) = 0
    · left
      obtain ⟨z1, z2, z3, z4⟩ := rfs_0 hz
      have hN0 : dst (rwf m r) (nv (m 54)) i 0 ≤ 12 := by rw [← h2]; exact nv0_le h3
      have hb := brl_lt hN0
      have hs := sub_le z2
      have hd : M 54 1 < 9999 := by
        rw [← h2, nv_lo (by decide)] at z4
        omega
      have hw2 : WFG ((mu (mu M 53 16 (rfs (nv (M 54)) (rwf m r i))) 53 17 (M 53 17 + ((cnt (rwf m r i).toNat 12 : Nat) : Int))) 54) := by
        rw [mu_rf (by decide), mu_rf (by decide)]
        exact h3
      have e54 : (mu (mu M 53 16 (rfs (nv (M 54)) (rwf m r i))) 53 17 (M 53 17 + ((cnt (rwf m r i).toNat 12 : Nat) : Int))) 54 = M 54 := by
        rw [mu_rf (by decide), mu_rf (by decide)]
      refine ⟨(), gw (mu (mu M 53 16 (rfs (nv (M 54)) (rwf m r i))) 53 17 (M 53 17 + ((cnt (rwf m r i).toNat 12 : Nat) : Int))) (rwf m r i).toNat, ⟨?_, ?_, ?_, ?_, ?_, ?_, ?_⟩, fun fx o hnx => ?_⟩
      · rw [dlen_s, if_pos ⟨h1, hz⟩]
      · rw [nv_gw hw2, e54, h2, dst_s]
      · exact ⟨WFG_gw hw2 (by rw [e54]; omega), by rw [gw_1, e54]; omega⟩
      · intro hs
        exact SLT_gw hw2 (by rw [e54]; exact h4 hs)
      · intro a k ha hb
        by_cases h54 : a = 54
        · subst h54
          rw [gw_hi (by omega) (by rw [e54]; exact h3.1.2), e54]
          exact h5 _ _ ha hb
        · rw [gw_r h54]
          by_cases h53 : a = 53
          · subst h53
            rw [mu_k (by omega), mu_k (by omega)]
            exact h5 _ _ ha hb
          · rw [mu_r h53, mu_r h53]
            exact h5 _ _ ha hb
      · rw [gw_r (by decide), mu_k (by decide), mu_same, h2, hz]
      · rw [gw_r (by decide), mu_same, h7, sm_s]
      · refine t_199_12 ?_
        simp (disch := omega) only [am_s_id, Int.toNat_natCast, ex, e74, e75]
        refine ⟨by omega, fun q => by omega, fun _ => ⟨by omega, ⟨h3, ht⟩, fun _ => ⟨by omega, ⟨hw2, by omega⟩, hnx⟩, fun q => ?_⟩⟩
        rw [h2, hz] at q
        exact absurd rfl q
    · right
      have hd := dlen_stop h1 hz (m 74 r).toNat (by omega)
      refine ⟨_, mu M 53 16 (rfs (nv (M 54)) (rwf m r i)), ⟨rfl, ?_⟩, fun fx => ?_⟩
      · unfold Q_199
        rw [Int.toNat_natCast, hd, mu_rf (by decide), if_neg (by omega), mu_same, mu_k (by decide), h2]
        refine ⟨rfl, ⟨h3, hD⟩, h4, fun a k ha hb => ?_, rfl, h7⟩
        by_cases h53 : a = 53
        · subst h53
          rw [mu_k (by omega)]
          exact h5 _ _ ha hb
        · rw [mu_r h53]
          exact h5 _ _ ha hb
      · refine t_199_12 ?_
        simp (disch := omega) only [am_s_id, Int.toNat_natCast, ex, e74, e75]
        refine ⟨by omega, fun q => by omega, fun _ => ⟨by omega, ⟨h3, ht⟩, fun q => ?_, fun q => ?_⟩⟩
        · rw [h2, am_s_id (by omega) (by omega)] at q
          exact absurd q hz
        · rw [hd]
  · rintro - M ⟨h1, h2, ⟨h3, hD⟩, h4, h5, h6, h7⟩
    have e74 : M 74 r = m 74 r := h5 _ _ (by omega) (by omega)
    refine ⟨_, M, ⟨rfl, ?_⟩, fun fx => ?_⟩
    · unfold Q_199
      rw [Int.toNat_natCast, h1, if_pos rfl]
      exact ⟨h2, ⟨h3, hD⟩, h4, h5, h6, h7⟩
    · refine t_199_12 ?_
      simp (disch := omega) only [am_s_id, Int.toNat_natCast, e74]
      refine ⟨by omega, fun _ => ?_, fun q => by omega⟩
      rw [h1, show (((m 74 r).toNat : Nat) : Int) = m 74 r by omega]
  · refine ⟨rfl, ?_, ?_, ?_, fun a k ha hb => ?_, ?_, ?_⟩
    · rw [mu_rf (by decide), mu_rf (by decide)]; rfl
    · rw [mu_rf (by decide), mu_rf (by decide)]; exact ⟨hw, hdt⟩
    · rw [mu_rf (by decide), mu_rf (by decide)]; exact id
    · by_cases h53 : a = 53
      · subst h53
        rw [mu_k (by omega), mu_k (by omega)]
      · rw [mu_r h53, mu_r h53]
    · rw [mu_k (by decide), mu_same]
    · rw [mu_same]; rfl
theorem k_199   (m : am_M) (row : Int) (hq : (WFG (m 54) ∧ m 54 1 ≤ 9999) ∧ RWM m ∧ 0 ≤ row ∧ row < 4) : Q_199 m row (W_199 m row) := (wch_ok (x_199  m row hq)).1
theorem c_199 {fx : am_X0}   (m : am_M) (row : Int) (hq : (WFG (m 54) ∧ m 54 1 ≤ 9999) ∧ RWM m ∧ 0 ≤ row ∧ row < 4) : rn fx 3 (0, 0) 199 0 (am_ent 3 [.inr (.inr (some 53)), .inl row]) [] (st0 m) ([.inl (((dlen (rwf m row.toNat) (nv (m 54)) (m 74 row.toNat).toNat : Nat) : Int))], st0 (W_199 m row)) := (wch_ok (x_199  m row hq)).2 fx
