theorem gfS_8_34 {s : Nat} (hs : s ∈ shL) : am_gf 8 34 s = some (.inl 6) := by
  have h : ∀ s ∈ shL, am_gf 8 34 s = some (.inl 6) := by decide +kernel
  exact h s hs
theorem gfS_8_37 {s : Nat} (hs : s ∈ shL) : am_gf 8 37 s = some (.inl 7) := by
  have h : ∀ s ∈ shL, am_gf 8 37 s = some (.inl 7) := by decide +kernel
  exact h s hs
theorem gfS_8_40 {s : Nat} (hs : s ∈ shL) : am_gf 8 40 s = some (.inl 8) := by
  have h : ∀ s ∈ shL, am_gf 8 40 s = some (.inl 8) := by decide +kernel
  exact h s hs
theorem gfS_8_43 {s : Nat} (hs : s ∈ shL) : am_gf 8 43 s = some (.inl 9) := by
  have h : ∀ s ∈ shL, am_gf 8 43 s = some (.inl 9) := by decide +kernel
  exact h s hs
theorem gfS_8_46 {s : Nat} (hs : s ∈ shL) : am_gf 8 46 s = some (.inl 10) := by
  have h : ∀ s ∈ shL, am_gf 8 46 s = some (.inl 10) := by decide +kernel
  exact h s hs
theorem gfS_8_49 {s : Nat} (hs : s ∈ shL) : am_gf 8 49 s = some (.inl 11) := by
  have h : ∀ s ∈ shL, am_gf 8 49 s = some (.inl 11) := by decide +kernel
  exact h s hs
theorem t_37_2 {fx : am_X0} {o : List am_V × am_S} {m : am_M} {s : Nat} {t : Nat} {x2 : Int} (hs : s ∈ shL) (h_t : t ∈ shL) (H : ((am_s 12 ≤ am_s x2) → o = ([], st0 (mu (mu (mu (mu (mu (mu (mu (mu m s 4 (m t 4)) s 5 (m t 5)) s 6 (m t 6)) s 7 (m t 7)) s 8 (m t 8)) s 9 (m t 9)) s 10 (m t 10)) s 11 (m t 11)))) ∧ (¬ (am_s 12 ≤ am_s x2) → (0 ≤ am_s x2 ∧ am_s x2 < (12 : Nat)) ∧ ((q_34 m s x2 (m (t + 1) ((am_s x2).toNat)) (m (t + 2) ((am_s x2).toNat)) (m (t + 3) ((am_s x2).toNat)) (m (t + 4) ((am_s x2).toNat))) ∧ (rn fx 1 (0, 0) 37 2 [some (.inr (.inr (some s))), some (.inr (.inr (some t))), some (.inl (x2 + 1))] [] (st0 (w_34 m s x2 (m (t + 1) ((am_s x2).toNat)) (m (t + 2) ((am_s x2).toNat)) (m (t + 3) ((am_s x2).toNat)) (m (t + 4) ((am_s x2).toNat)))) o)))) : rn fx 1 (0, 0) 37 2 [some (.inr (.inr (some s))), some (.inr (.inr (some t))), some (.inl x2)] [] (st0 m) o := by
  refine r_ld (pc' := 3) hM_37 d_37_2 rfl rfl ?_
  refine r_k (pc' := 5) (v := .inl 12) hM_37 d_37_3 rfl rfl ?_
  refine r_ic (pc' := 43) (pc2 := 8) hM_37 d_37_5 (by decide) rfl (fun hz1 => ?_) (fun hz1 => ?_)
  · have H := H.1 hz1
    refine r_ld (pc' := 44) hM_37 d_37_43 rfl rfl ?_
    refine r_ld (pc' := 45) hM_37 d_37_44 rfl rfl ?_
    refine r_gI (pc' := 48) (k0 := 4) hM_37 d_37_45 rfl (gfS_8_27 h_t) ?_
    refine r_pI (pc' := 51) (k0 := 4) hM_37 d_37_48 rfl (puS_8_27 hs) ?_
    refine r_ld (pc' := 52) hM_37 d_37_51 rfl rfl ?_
    refine r_ld (pc' := 53) hM_37 d_37_52 rfl rfl ?_
    refine r_gIe (pc' := 56) (k0 := 5) (z := (m t 5)) hM_37 d_37_53 rfl (gfS_8_31 h_t) (mu_k (by omega)) ?_
    refine r_pI (pc' := 59) (k0 := 5) hM_37 d_37_56 rfl (puS_8_31 hs) ?_
    refine r_ld (pc' := 60) hM_37 d_37_59 rfl rfl ?_
    refine r_ld (pc' := 61) hM_37 d_37_60 rfl rfl ?_
    refine r_gIe (pc' := 64) (k0 := 6) (z := (m t 6)) hM_37 d_37_61 rfl (gfS_8_34 h_t) ((mu_k (by omega)).trans (mu_k (by omega))) ?_
    refine r_pI (pc' := 67) (k0 := 6) hM_37 d_37_64 rfl (puS_8_34 hs) ?_
    refine r_ld (pc' := 68) hM_37 d_37_67 rfl rfl ?_
    refine r_ld (pc' := 69) hM_37 d_37_68 rfl rfl ?_
    refine r_gIe (pc' := 72) (k0 := 7) (z := (m t 7)) hM_37 d_37_69 rfl (gfS_8_37 h_t) ((mu_k (by omega)).trans ((mu_k (by omega)).trans (mu_k (by omega)))) ?_
    refine r_pI (pc' := 75) (k0 := 7) hM_37 d_37_72 rfl (puS_8_37 hs) ?_
    refine r_ld (pc' := 76) hM_37 d_37_75 rfl rfl ?_
    refine r_ld (pc' := 77) hM_37 d_37_76 rfl rfl ?_
    refine r_gIe (pc' := 80) (k0 := 8) (z := (m t 8)) hM_37 d_37_77 rfl (gfS_8_40 h_t) ((mu_k (by omega)).trans ((mu_k (by omega)).trans ((mu_k (by omega)).trans (mu_k (by omega))))) ?_
    refine r_pI (pc' := 83) (k0 := 8) hM_37 d_37_80 rfl (puS_8_40 hs) ?_
    refine r_ld (pc' := 84) hM_37 d_37_83 rfl rfl ?_
    refine r_ld (pc' := 85) hM_37 d_37_84 rfl rfl ?_
    refine r_gIe (pc' := 88) (k0 := 9) (z := (m t 9)) hM_37 d_37_85 rfl (gfS_8_43 h_t) ((mu_k (by omega)).trans ((mu_k (by omega)).trans ((mu_k (by omega)).trans ((mu_k (by omega)).trans (mu_k (by omega)))))) ?_
    refine r_pI (pc' := 91) (k0 := 9) hM_37 d_37_88 rfl (puS_8_43 hs) ?_
    refine r_ld (pc' := 92) hM_37 d_37_91 rfl rfl ?_
    refine r_ld (pc' := 93) hM_37 d_37_92 rfl rfl ?_
    refine r_gIe (pc' := 96) (k0 := 10) (z := (m t 10)) hM_37 d_37_93 rfl (gfS_8_46 h_t) ((mu_k (by omega)).trans ((mu_k (by omega)).trans ((mu_k (by omega)).trans ((mu_k (by omega)).trans ((mu_k (by omega)).trans (mu_k (by omega))))))) ?_
    refine r_pI (pc' := 99) (k0 := 10) hM_37 d_37_96 rfl (puS_8_46 hs) ?_
    refine r_ld (pc' := 100) hM_37 d_37_99 rfl rfl ?_
    refine r_ld (pc' := 101) hM_37 d_37_100 rfl rfl ?_
    refine r_gIe (pc' := 104) (k0 := 11) (z := (m t 11)) hM_37 d_37_101 rfl (gfS_8_49 h_t) ((mu_k (by omega)).trans ((mu_k (by omega)).trans ((mu_k (by omega)).trans ((mu_k (by omega)).trans ((mu_k (by omega)).trans ((mu_k (by omega)).trans (mu_k (by omega)))))))) ?_
    refine r_pI (pc' := 107) (k0 := 11) hM_37 d_37_104 rfl (puS_8_49 hs) ?_
    subst H
    exact rt_v hM_37 d_37_107 rfl
  · have H := H.2 hz1
    refine r_ld (pc' := 9) hM_37 d_37_8 rfl rfl ?_
    refine r_ld (pc' := 10) hM_37 d_37_9 rfl rfl ?_
    refine r_ld (pc' := 11) hM_37 d_37_10 rfl rfl ?_
    refine r_gR (pc' := 14) (v := (t + 1)) hM_37 d_37_11 rfl (gfS_8_9 h_t) ?_
    refine r_ld (pc' := 15) hM_37 d_37_14 rfl rfl ?_
    obtain ⟨hz2, H⟩ := H
    refine r_ia (pc' := 16) (n := 12) hM_37 d_37_15 rfl (shSk h_t).2.1 hz2 ?_
    refine r_ld (pc' := 17) hM_37 d_37_16 rfl rfl ?_
    refine r_gR (pc' := 20) (v := (t + 2)) hM_37 d_37_17 rfl (gfS_8_15 h_t) ?_
    refine r_ld (pc' := 21) hM_37 d_37_20 rfl rfl ?_
    refine r_ia (pc' := 22) (n := 12) hM_37 d_37_21 rfl (shSk h_t).2.2.1 hz2 ?_
    refine r_ld (pc' := 23) hM_37 d_37_22 rfl rfl ?_
    refine r_gR (pc' := 26) (v := (t + 3)) hM_37 d_37_23 rfl (gfS_8_18 h_t) ?_
    refine r_ld (pc' := 27) hM_37 d_37_26 rfl rfl ?_
    refine r_ia (pc' := 28) (n := 12) hM_37 d_37_27 rfl (shSk h_t).2.2.2.1 hz2 ?_
    refine r_ld (pc' := 29) hM_37 d_37_28 rfl rfl ?_
    refine r_gR (pc' := 32) (v := (t + 4)) hM_37 d_37_29 rfl (gfS_8_21 h_t) ?_
    refine r_ld (pc' := 33) hM_37 d_37_32 rfl rfl ?_
    refine r_ia (pc' := 34) (n := 12) hM_37 d_37_33 rfl (shSk h_t).2.2.2.2 hz2 ?_
    obtain ⟨hz3, H⟩ := H
    refine r_cl (pc' := 37) (c := (34, 0)) (a := [.inr (.inr (some s)), .inl x2, .inl (m (t + 1) ((am_s x2).toNat)), .inl (m (t + 2) ((am_s x2).toNat)), .inl (m (t + 3) ((am_s x2).toNat)), .inl (m (t + 4) ((am_s x2).toNat))]) (q := []) hM_37 d_37_34 rfl (by decide +kernel) hM_34 rfl rfl rfl (Nat.le_of_ble_eq_true rfl) (Nat.le_of_ble_eq_true rfl) (Or.inr (rcvS hs _)) (c_34 hs m x2 (m (t + 1) ((am_s x2).toNat)) (m (t + 2) ((am_s x2).toNat)) (m (t + 3) ((am_s x2).toNat)) (m (t + 4) ((am_s x2).toNat)) hz3) (Nat.le_of_ble_eq_true rfl) ?_
    show rn fx 1 (0, 0) 37 37 [some (.inr (.inr (some s))), some (.inr (.inr (some t))), some (.inl x2)] [] (st0 (w_34 m s x2 (m (t + 1) ((am_s x2).toNat)) (m (t + 2) ((am_s x2).toNat)) (m (t + 3) ((am_s x2).toNat)) (m (t + 4) ((am_s x2).toNat)))) o
    refine r_sto (pc' := 40) (ls' := [some (.inr (.inr (some s))), some (.inr (.inr (some t))), some (.inl (x2 + 1))]) hM_37 d_37_37 rfl rfl ?_
    refine r_go (pc' := 2) hM_37 d_37_40 (by decide) ?_
    exact H
theorem t_37_0 {fx : am_X0} {o : List am_V × am_S} {m : am_M} {s : Nat} {t : Nat} (hs : s ∈ shL) (h_t : t ∈ shL) (H : rn fx 1 (0, 0) 37 2 [some (.inr (.inr (some s))), some (.inr (.inr (some t))), some (.inl 0)] [] (st0 m) o) : rn fx 1 (0, 0) 37 0 [some (.inr (.inr (some s))), some (.inr (.inr (some t))), none] [] (st0 m) o := by
  refine r_k (pc' := 1) (v := .inl 0) hM_37 d_37_0 rfl rfl ?_
  refine r_sto (pc' := 2) (ls' := [some (.inr (.inr (some s))), some (.inr (.inr (some t))), some (.inl 0)]) hM_37 d_37_1 rfl rfl ?_
  exact H
theorem shL_cases {s : Nat} (hs : s ∈ shL) : s = 2 ∨ s = 7 ∨ s = 15 ∨ s = 20 := by
  simp only [shL, List.mem_cons, List.not_mem_nil, or_false] at hs
  exact hs
theorem shL_apart {s t : Nat} (hs : s ∈ shL) (ht : t ∈ shL) (h : s ≠ t) : s + 5 ≤ t ∨ t + 5 ≤ s := by
  rcases shL_cases hs with rfl | rfl | rfl | rfl <;> rcases shL_cases ht with rfl | rfl | rfl | rfl <;> omega
/-- the first i places of shelf s as those of t -/
def tka (m : am_M) (s t i : Nat) : am_M := fun a j => if j < i ∧ s + 1 ≤ a ∧ a ≤ s + 4 then m (t + (a - s)) j else m a j
/-- shelf s as shelf t -/
def tk (m : am_M) (s t : Nat) : am_M := fun a j => if a = s ∧ 4 ≤ j ∧ j ≤ 11 then m t j else if j < 12 ∧ s + 1 ≤ a ∧ a ≤ s + 4 then m (t + (a - s)) j else m a j
theorem tka_t {m : am_M} {s t i a j : Nat} (h : a < s + 1 ∨ s + 4 < a) : tka m s t i a j = m a j := by
  unfold tka
  rw [if_neg (by omega)]
theorem tka_0 {m : am_M} {s t : Nat} : tka m s t 0 = m := by
  funext a j
  simp [tka]
theorem tka_s {m : am_M} {s t i : Nat} (hi : i < 12) : w_34 (tka m s t i) s (i : Int) (m (t + 1) i) (m (t + 2) i) (m (t + 3) i) (m (t + 4) i) = tka m s t (i + 1) := by
  unfold w_34
  simp (disch := omega) only [am_s_id]
  rw [if_neg (by omega), if_pos (by omega), Int.toNat_natCast]
  funext a j
  unfold mu tka
  by_cases hj : j = i
  · subst hj
    by_cases h1 : a = s + 1
    · subst h1; rw [if_neg (by omega), if_neg (by omega), if_neg (by omega), if_pos (by omega), if_pos (by omega), show t + (s + 1 - s) = t + 1 by omega]
    by_cases h2 : a = s + 2
    · subst h2; rw [if_neg (by omega), if_neg (by omega), if_pos (by omega), if_pos (by omega), show t + (s + 2 - s) = t + 2 by omega]
    by_cases h3 : a = s + 3
    · subst h3; rw [if_neg (by omega), if_pos (by omega), if_pos (by omega), show t + (s + 3 - s) = t + 3 by omega]
    by_cases h4 : a = s + 4
    · subst h4; rw [if_pos (by omega), if_pos (by omega), show t + (s + 4 - s) = t + 4 by omega]
    rw [if_neg (by omega), if_neg (by omega), if_neg (by omega), if_neg (by omega), if_neg (by omega), if_neg (by omega)]
  · rw [if_neg (by omega), if_neg (by omega), if_neg (by omega), if_neg (by omega)]
    by_cases hk : j < i ∧ s + 1 ≤ a ∧ a ≤ s + 4
    · rw [if_pos hk, if_pos (by omega)]
    · rw [if_neg hk, if_neg (by omega)]
theorem tk_end {m : am_M} {s t : Nat} (h : s + 5 ≤ t ∨ t + 5 ≤ s) : mu (mu (mu (mu (mu (mu (mu (mu (tka m s t 12) s 4 (m t 4)) s 5 (m t 5)) s 6 (m t 6)) s 7 (m t 7)) s 8 (m t 8)) s 9 (m t 9)) s 10 (m t 10)) s 11 (m t 11) = tk m s t := by
  funext a j
  by_cases ha : a = s
  · subst ha
    by_cases hj : 4 ≤ j ∧ j ≤ 11
    · have : j = 4 ∨ j = 5 ∨ j = 6 ∨ j = 7 ∨ j = 8 ∨ j = 9 ∨ j = 10 ∨ j = 11 := by omega
      rcases this with rfl | rfl | rfl | rfl | rfl | rfl | rfl | rfl <;> simp [mu, tk]
    · unfold tk
      rw [if_neg (by omega), if_neg (by omega), mu_k (by omega), mu_k (by omega), mu_k (by omega), mu_k (by omega), mu_k (by omega), mu_k (by omega), mu_k (by omega), mu_k (by omega), tka_t (by omega)]
  · rw [mu_r ha, mu_r ha, mu_r ha, mu_r ha, mu_r ha, mu_r ha, mu_r ha, mu_r ha]
    unfold tk tka
    rw [if_neg (fun q : a = s ∧ 4 ≤ j ∧ j ≤ 11 => ha q.1)]
/-- Shelf.take -/
theorem c_37 {fx : am_X0} {s t : Nat} (hs : s ∈ shL) (ht : t ∈ shL) (m : am_M) (hq : s ≠ t) : rn fx 1 (0, 0) 37 0 (am_ent 3 [.inr (.inr (some s)), .inr (.inr (some t))]) [] (st0 m) ([], st0 (tk m s t)) := by
  show rn fx 1 (0, 0) 37 0 [some (.inr (.inr (some s))), some (.inr (.inr (some t))), none] [] (st0 m) _
  have hap := shL_apart hs ht hq
  refine t_37_0 hs ht ?_
  have h := rn_loop (fx := fx) (d := 1) (mi := 37) (pc := 2) (cr := (0, 0)) (fun i => ([some (.inr (.inr (some s))), some (.inr (.inr (some t))), some (.inl (i : Int))], tka m s t i)) 12 (fun i hi o h => ?_) (o := ([], st0 (tk m s t))) ?_
  · simp only [tka_0] at h
    exact h
  · refine t_37_2 hs ht ?_
    simp (disch := omega) only [am_s_id, Int.toNat_natCast]
    have e1 : tka m s t i (t + 1) i = m (t + 1) i := tka_t (by omega)
    have e2 : tka m s t i (t + 2) i = m (t + 2) i := tka_t (by omega)
    have e3 : tka m s t i (t + 3) i = m (t + 3) i := tka_t (by omega)
    have e4 : tka m s t i (t + 4) i = m (t + 4) i := tka_t (by omega)
    rw [e1, e2, e3, e4, tka_s hi]
    refine ⟨fun q => by omega, fun _ => ⟨by omega, ?_, h⟩⟩
    unfold q_34
    simp (disch := omega) only [am_s_id]
    omega
  · refine t_37_2 hs ht ?_
    simp (disch := omega) only [am_s_id]
    refine ⟨fun _ => ?_, fun q => by omega⟩
    simp only [tka_t (show t < s + 1 ∨ s + 4 < t by omega), tk_end hap]
theorem t_162_4 {fx : am_X0} {o : List am_V × am_S} {m : am_M} {s : Nat} {x1 : Int} {x2 : Int} (hs : s ∈ shL) (H : ((am_s (m s 4) ≤ am_s x2) → o = ([.inl x1], st0 m)) ∧ (¬ (am_s (m s 4) ≤ am_s x2) → (0 ≤ am_s x2 ∧ am_s x2 < (12 : Nat)) ∧ (rn fx 0 (0, 0) 162 4 [some (.inr (.inr (some s))), some (.inl (x1 + (m (s + 3) ((am_s x2).toNat)))), some (.inl (x2 + 1))] [] (st0 m) o))) : rn fx 0 (0, 0) 162 4 [some (.inr (.inr (some s))), some (.inl x1), some (.inl x2)] [] (st0 m) o := by
  refine r_ld (pc' := 5) hM_162 d_162_4 rfl rfl ?_
  refine r_ld (pc' := 6) hM_162 d_162_5 rfl rfl ?_
  refine r_gI (pc' := 9) (k0 := 4) hM_162 d_162_6 rfl (gfS_8_27 hs) ?_
  refine r_ic (pc' := 27) (pc2 := 12) hM_162 d_162_9 (by decide) rfl (fun hz1 => ?_) (fun hz1 => ?_)
  · have H := H.1 hz1
    refine r_ld (pc' := 28) hM_162 d_162_27 rfl rfl ?_
    subst H
    exact rt_i hM_162 d_162_28 rfl
  · have H := H.2 hz1
    refine r_ld (pc' := 13) hM_162 d_162_12 rfl rfl ?_
    refine r_ld (pc' := 14) hM_162 d_162_13 rfl rfl ?_
    refine r_gR (pc' := 17) (v := (s + 3)) hM_162 d_162_14 rfl (gfS_8_18 hs) ?_
    refine r_ld (pc' := 18) hM_162 d_162_17 rfl rfl ?_
    obtain ⟨hz2, H⟩ := H
    refine r_ia (pc' := 19) (n := 12) hM_162 d_162_18 rfl (shSk hs).2.2.2.1 hz2 ?_
    refine r_b (pc' := 20) (z := (x1 + (m (s + 3) ((am_s x2).toNat)))) hM_162 d_162_19 rfl rfl ?_
    refine r_sto (pc' := 21) (ls' := [some (.inr (.inr (some s))), some (.inl (x1 + (m (s + 3) ((am_s x2).toNat)))), some (.inl x2)]) hM_162 d_162_20 rfl rfl ?_
    refine r_sto (pc' := 24) (ls' := [some (.inr (.inr (some s))), some (.inl (x1 + (m (s + 3) ((am_s x2).toNat)))), some (.inl (x2 + 1))]) hM_162 d_162_21 rfl rfl ?_
    refine r_go (pc' := 4) hM_162 d_162_24 (by decide) ?_
    exact H
theorem t_162_0 {fx : am_X0} {o : List am_V × am_S} {m : am_M} {s : Nat} (hs : s ∈ shL) (H : rn fx 0 (0, 0) 162 4 [some (.inr (.inr (some s))), some (.inl 0), some (.inl 0)] [] (st0 m) o) : rn fx 0 (0, 0) 162 0 [some (.inr (.inr (some s))), none, none] [] (st0 m) o := by
  refine r_k (pc' := 1) (v := .inl 0) hM_162 d_162_0 rfl rfl ?_
  refine r_sto (pc' := 2) (ls' := [some (.inr (.inr (some s))), some (.inl 0), none]) hM_162 d_162_1 rfl rfl ?_
  refine r_k (pc' := 3) (v := .inl 0) hM_162 d_162_2 rfl rfl ?_
  refine r_sto (pc' := 4) (ls' := [some (.inr (.inr (some s))), some (.inl 0), some (.inl 0)]) hM_162 d_162_3 rfl rfl ?_
  exact H
/-- the sum of the first n numbers -/
def sm (f : Nat → Int) : Nat → Int
  | 0 => 0
  | n + 1 => sm f n + f n
theorem sm_rng {f : Nat → Int} {b : Nat} : ∀ n, (∀ p, p < n → 0 ≤ f p ∧ f p ≤ b) → 0 ≤ sm f n ∧ sm f n ≤ n * b := by
  intro n
  induction n with
  | zero => intro _; simp [sm]
  | succ n ih =>
    intro h
    have h1 := ih (fun p hp => h p (by omega))
    have h2 := h n (by omega)
    unfold sm
    rw [Int.natCast_succ, Int.add_mul]
    omega
/-- Shelf.ripeOfAll -/
theorem c_162 {fx : am_X0} {s : Nat} (hs : s ∈ shL) (m : am_M) (hq : WFS m s) : rn fx 0 (0, 0) 162 0 (am_ent 3 [.inr (.inr (some s))]) [] (st0 m) ([.inl (sm (m (s + 3)) (m s 4).toNat)], st0 m) := by
  show rn fx 0 (0, 0) 162 0 [some (.inr (.inr (some s))), none, none] [] (st0 m) _
  refine t_162_0 hs ?_
  obtain ⟨hN, -⟩ := hq
  have h := rn_loop (fx := fx) (d := 0) (mi := 162) (pc := 4) (cr := (0, 0)) (fun i => ([some (.inr (.inr (some s))), some (.inl (sm (m (s + 3)) i)), some (.inl (i : Int))], m)) (m s 4).toNat (fun i hi o h => ?_) (o := ([.inl (sm (m (s + 3)) (m s 4).toNat)], st0 m)) ?_
  · exact h
  · refine t_162_4 hs ?_
    simp (disch := omega) only [am_s_id, Int.toNat_natCast]
    exact ⟨fun q => by omega, fun _ => ⟨by omega, h⟩⟩
  · refine t_162_4 hs ?_
    simp (disch := omega) only [am_s_id]
    exact ⟨fun _ => by first | trivial | rfl, fun q => by omega⟩
