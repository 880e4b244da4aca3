theorem kru_kpC {m m' : am_M} {a : Int} (h : kpC m m') : kru m' a = kru m a := by
  by_cases c1 : 0 ≤ a ∧ a < 4
  · have e1 : m' (25 + 2 * a.toNat) = m (25 + 2 * a.toNat) := kpC_f h (by omega)
    have e2 : m' 2 = m 2 := kpC_f h (by omega)
    unfold kru rfu
    rw [e1, e2]
  · have e : ∀ M : am_M, rfu M a = -2 := by
      intro M
      unfold rfu
      rw [if_neg c1]
    unfold kru
    rw [e, e, if_neg (by decide), if_neg (by decide)]
/-- what the model starts from, when the class has left alone all that holds between calls -/
theorem mod_pre {m m1 : am_M} {a : Int} (hI : Inv m) (h : kpC m m1) : WFG ((mu m1 53 0 0) 54) ∧ RWM (mu m1 53 0 0) ∧ krm (mu m1 53 0 0) a = kru m a ∧ nv ((mu m1 53 0 0) 54) = nv (m 54) ∧ (∀ J, rwf (mu m1 53 0 0) J = rwf m J) ∧ Inv (mu m1 53 0 0) ∧ kpC m (mu m1 53 0 0) := by
  have h2 : kpC m (mu m1 53 0 0) := kpC_trans h (kpC_mu (by unfold core; omega))
  have hI2 := Inv_kpC h2 hI
  refine ⟨Inv_wf hI2, Inv_RWM hI2, ?_, ?_, fun J => ?_, hI2, h2⟩
  · rw [kr_eq hI2, kru_kpC h2]
  · rw [kpC_f h2 (a := 54) (by omega)]
  · unfold rwf
    rw [kpC_f h2 (a := 75) (by omega)]
def NTH (Q : Nat → Bool) (F : Nat) (k v : Int) : Prop := (∃ t : Nat, t ≤ F ∧ Q t = true ∧ ((cf Q t : Nat) : Int) = k ∧ v = (t : Int)) ∨ (¬ (0 ≤ k ∧ k < ((cf Q (F + 1) : Nat) : Int)) ∧ v = -1)
theorem NTH_fun {Q : Nat → Bool} {F : Nat} {k v w : Int} (h1 : NTH Q F k v) (h2 : NTH Q F k w) : v = w := by
  rcases h1 with ⟨t, a1, a2, a3, a4⟩ | ⟨a1, a2⟩ <;> rcases h2 with ⟨u, b1, b2, b3, b4⟩ | ⟨b1, b2⟩
  · have : t = u := by
      rcases Nat.lt_trichotomy t u with h | h | h
      · have := cf_lt h a2; omega
      · exact h
      · have := cf_lt h b2; omega
    rw [a4, b4, this]
  · have := cf_lt (show t < F + 1 by omega) a2
    exact absurd ⟨by omega, by omega⟩ b1
  · have := cf_lt (show u < F + 1 by omega) b2
    exact absurd ⟨by omega, by omega⟩ a1
  · rw [a2, b2]
theorem NTH_ex (Q : Nat → Bool) (F : Nat) (k : Int) : ∃ v, NTH Q F k v := by
  by_cases h : 0 ≤ k ∧ k < ((cf Q (F + 1) : Nat) : Int)
  · obtain ⟨t, h1, h2, h3⟩ := cf_nth (Q := Q) (F + 1) k.toNat (by omega)
    exact ⟨(t : Int), Or.inl ⟨t, by omega, h2, by omega, rfl⟩⟩
  · exact ⟨-1, Or.inr ⟨h, rfl⟩⟩
theorem u_79_0 {Q : List am_V → am_M → Prop} {m : am_M} {a : Int}  (H : (RWS m ∧ WFG (vw m 2) ∧ am_s a = a) ∧ (∀ (m1 : am_M), (m1 = m) → ((am_s (kru m a) = 0) → (0 ≤ am_s a ∧ am_s a < (4 : Nat)) ∧ ((WFG (vw m1 2) ∧ RWC m1 (25 + 2 * (am_s a).toNat)) ∧ (∀ (m2 : am_M), (HEA m1 (25 + 2 * (am_s a).toNat) m2) → Q [.inl ((cf (ftq (nv (vw m1 2)) (fun k => rat m1 (25 + 2 * (am_s a).toNat) (k : Int))) (may (nv (vw m1 2)) + 1) : Nat) : Int)] m2))) ∧ ((¬ (am_s (kru m a) = 0)) → Q [.inl (kru m a)] m1))) : ok 6 79 0 [some (.inr (.inr (some 0))), some (.inl a), none] [] m Q := by
  obtain ⟨hz1, H⟩ := H
  refine ok_sg (pc' := 2) (ls' := [some (.inr (.inr (some 0))), some (.inl a), none]) (st' := [.inl a, .inr (.inr (some 0))]) (m' := m) (fun fx hfx o hk => ?_) ?_
  · refine r_ld (pc' := 1) hM_79 d_79_0 rfl rfl ?_
    refine r_ld (pc' := 2) hM_79 d_79_1 rfl rfl ?_
    exact hk
  refine ok_cl (pc' := 5) (c := (80, 0)) (a := [.inr (.inr (some 0)), .inl a]) (q := []) hM_79 d_79_2 rfl (by decide +kernel) hM_80 rfl rfl rfl (Nat.le_of_ble_eq_true rfl) (Nat.le_of_ble_eq_true rfl) (Or.inr rfl) (z_80  m a hz1) (Nat.le_of_ble_eq_true rfl) ?_
  rintro _ m1 ⟨rfl, hz2⟩
  replace H := H  m1 hz2
  show ok 6 79 5 [some (.inr (.inr (some 0))), some (.inl a), none] [.inl (kru m a)] m1 Q
  refine ok_sg (pc' := 7) (ls' := [some (.inr (.inr (some 0))), some (.inl a), some (.inl (kru m a))]) (st' := [.inl (kru m a)]) (m' := m1) (fun fx hfx o hk => ?_) ?_
  · refine r_sto (pc' := 6) (ls' := [some (.inr (.inr (some 0))), some (.inl a), some (.inl (kru m a))]) hM_79 d_79_5 rfl rfl ?_
    refine r_ld (pc' := 7) hM_79 d_79_6 rfl rfl ?_
    exact hk
  refine ok_if (pc' := 14) (pc2 := 10) hM_79 d_79_7 (by decide) rfl (fun hz3 => ?_) (fun hz3 => ?_)
  · have H := H.1 hz3
    obtain ⟨hz4, H⟩ := H
    obtain ⟨hz5, H⟩ := H
    refine ok_sg (pc' := 24) (ls' := [some (.inr (.inr (some 0))), some (.inl a), some (.inl (kru m a))]) (st' := [.inr (.inr (some (25 + 2 * (am_s a).toNat))), .inr (.inr (some 34))]) (m' := m1) (fun fx hfx o hk => ?_) ?_
    · refine r_ld (pc' := 15) hM_79 d_79_14 rfl rfl ?_
      refine r_gR (pc' := 18) (v := 34) hM_79 d_79_15 rfl (by decide +kernel) ?_
      refine r_ld (pc' := 19) hM_79 d_79_18 rfl rfl ?_
      refine r_gR (pc' := 22) (v := 14) hM_79 d_79_19 rfl (by decide +kernel) ?_
      refine r_ld (pc' := 23) hM_79 d_79_22 rfl rfl ?_
      refine r_aa (pc' := 24) (n := 4) hM_79 d_79_23 rfl rfl (by decide) hz4 (rfRows hz4).1 (shRk (rfRows hz4).2).1 ?_
      exact hk
    refine ok_cl (pc' := 27) (c := (81, 0)) (a := [.inr (.inr (some 34)), .inr (.inr (some (25 + 2 * (am_s a).toNat)))]) (q := []) hM_79 d_79_24 rfl (by decide +kernel) hM_81 rfl rfl rfl (Nat.le_of_ble_eq_true rfl) (Nat.le_of_ble_eq_true rfl) (Or.inr rfl) (z_81 ((rfRows hz4).2) m1  hz5) (Nat.le_of_ble_eq_true rfl) ?_
    rintro _ m2 ⟨rfl, hz6⟩
    replace H := H  m2 hz6
    show ok 6 79 27 [some (.inr (.inr (some 0))), some (.inl a), some (.inl (kru m a))] [.inl ((cf (ftq (nv (vw m1 2)) (fun k => rat m1 (25 + 2 * (am_s a).toNat) (k : Int))) (may (nv (vw m1 2)) + 1) : Nat) : Int)] m2 Q
    exact ok_rt (fun fx _ => rt_i hM_79 d_79_27 rfl) H
  · have H := H.2 hz3
    refine ok_sg (pc' := 27) (ls' := [some (.inr (.inr (some 0))), some (.inl a), some (.inl (kru m a))]) (st' := [.inl (kru m a)]) (m' := m1) (fun fx hfx o hk => ?_) ?_
    · refine r_ld (pc' := 11) hM_79 d_79_10 rfl rfl ?_
      refine r_go (pc' := 27) hM_79 d_79_11 (by decide) ?_
      exact hk
    exact ok_rt (fun fx _ => rt_i hM_79 d_79_27 rfl) H
theorem u_212_0 {Q : List am_V → am_M → Prop} {m : am_M} {a : Int}  (H : (WFG ((mu m 53 0 0) 54) ∧ RWM (mu m 53 0 0) ∧ am_s a = a) ∧ (∀ (m1 : am_M), ((krm (mu m 53 0 0) a ≠ 0 → m1 = (mu m 53 0 0)) ∧ (krm (mu m 53 0 0) a = 0 → FITS (mu m 53 0 0) a.toNat m1)) → ∀ y1 : Int, y1 = (if am_s (krm (mu m 53 0 0) a) = 0 then (m1 53 19) else (krm (mu m 53 0 0) a)) → Q [.inl y1] m1)) : ok 5 212 0 [some (.inr (.inr (some 53))), some (.inl a), none] [] m Q := by
  obtain ⟨hz1, H⟩ := H
  refine ok_sg (pc' := 7) (ls' := [some (.inr (.inr (some 53))), some (.inl a), none]) (st' := [.inl a, .inr (.inr (some 53))]) (m' := mu m 53 0 0) (fun fx hfx o hk => ?_) ?_
  · refine r_ld (pc' := 1) hM_212 d_212_0 rfl rfl ?_
    refine r_k (pc' := 2) (v := .inl 0) hM_212 d_212_1 rfl rfl ?_
    refine r_pI (pc' := 5) (k0 := 0) hM_212 d_212_2 rfl (by decide +kernel) ?_
    refine r_ld (pc' := 6) hM_212 d_212_5 rfl rfl ?_
    refine r_ld (pc' := 7) hM_212 d_212_6 rfl rfl ?_
    exact hk
  refine ok_cl (pc' := 10) (c := (213, 0)) (a := [.inr (.inr (some 53)), .inl a]) (q := []) hM_212 d_212_7 rfl (by decide +kernel) hM_213 rfl rfl rfl (Nat.le_of_ble_eq_true rfl) (Nat.le_of_ble_eq_true rfl) (Or.inr rfl) (z_213  (mu m 53 0 0) a hz1) (Nat.le_of_ble_eq_true rfl) ?_
  rintro _ m1 ⟨rfl, hz2⟩
  replace H := H  m1 hz2
  show ok 5 212 10 [some (.inr (.inr (some 53))), some (.inl a), none] [.inl (krm (mu m 53 0 0) a)] m1 Q
  refine ok_sg (pc' := 12) (ls' := [some (.inr (.inr (some 53))), some (.inl a), some (.inl (krm (mu m 53 0 0) a))]) (st' := [.inl (krm (mu m 53 0 0) a)]) (m' := m1) (fun fx hfx o hk => ?_) ?_
  · refine r_sto (pc' := 11) (ls' := [some (.inr (.inr (some 53))), some (.inl a), some (.inl (krm (mu m 53 0 0) a))]) hM_212 d_212_10 rfl rfl ?_
    refine r_ld (pc' := 12) hM_212 d_212_11 rfl rfl ?_
    exact hk
  refine ok_sg (pc' := 23) (ls' := [some (.inr (.inr (some 53))), some (.inl a), some (.inl (krm (mu m 53 0 0) a))]) (st' := [.inl (if am_s (krm (mu m 53 0 0) a) = 0 then (m1 53 19) else (krm (mu m 53 0 0) a))]) (m' := m1) (fun fx hfx o K => ?_) ?_
  · refine r_if (pc' := 19) (pc2 := 15) hM_212 d_212_12 (by decide) rfl (fun hz3 => ?_) (fun hz3 => ?_)
    · have hz3 : am_s (krm (mu m 53 0 0) a) = 0 := hz3
      rw [if_pos hz3] at K
      refine r_ld (pc' := 20) hM_212 d_212_19 rfl rfl ?_
      refine r_gI (pc' := 23) (k0 := 19) hM_212 d_212_20 rfl (by decide +kernel) ?_
      exact K
    · have hz3 : ¬ (am_s (krm (mu m 53 0 0) a) = 0) := hz3
      rw [if_neg hz3] at K
      refine r_ld (pc' := 16) hM_212 d_212_15 rfl rfl ?_
      refine r_go (pc' := 23) hM_212 d_212_16 (by decide) ?_
      exact K
  have K : ∀ y1 : Int, y1 = (if am_s (krm (mu m 53 0 0) a) = 0 then (m1 53 19) else (krm (mu m 53 0 0) a)) → ok 5 212 23 [some (.inr (.inr (some 53))), some (.inl a), some (.inl (krm (mu m 53 0 0) a))] [.inl y1] m1 Q := by
    intro y1 hy1
    replace H := H y1 hy1
    exact ok_rt (fun fx _ => rt_i hM_212 d_212_23 rfl) H
  exact K _ rfl
theorem u_215_0 {Q : List am_V → am_M → Prop} {m : am_M} {a : Int} {k : Int}  (H : (WFG ((mu m 53 0 0) 54) ∧ RWM (mu m 53 0 0) ∧ am_s a = a) ∧ (∀ (m1 : am_M), ((krm (mu m 53 0 0) a ≠ 0 → m1 = (mu m 53 0 0)) ∧ (krm (mu m 53 0 0) a = 0 → FITS (mu m 53 0 0) a.toNat m1)) → ((am_s (krm (mu m 53 0 0) a) = 0) → (¬ (am_s ((if am_t 0 ≤ am_t (am_s k) ∧ am_t (am_s k) ≤ am_t (am_s ((m1 53 19) - 1)) then 1 else 0)) = 0)) → (0 ≤ am_s k ∧ am_s k < (4096 : Nat))) ∧ (∀ y1 : Int, y1 = (if am_s (krm (mu m 53 0 0) a) = 0 then (if am_s ((if am_t 0 ≤ am_t (am_s k) ∧ am_t (am_s k) ≤ am_t (am_s ((m1 53 19) - 1)) then 1 else 0)) = 0 then (-1) else (m1 59 ((am_s k).toNat))) else (krm (mu m 53 0 0) a)) → Q [.inl y1] m1))) : ok 5 215 0 [some (.inr (.inr (some 53))), some (.inl a), some (.inl k), none] [] m Q := by
  obtain ⟨hz1, H⟩ := H
  refine ok_sg (pc' := 7) (ls' := [some (.inr (.inr (some 53))), some (.inl a), some (.inl k), none]) (st' := [.inl a, .inr (.inr (some 53))]) (m' := mu m 53 0 0) (fun fx hfx o hk => ?_) ?_
  · refine r_ld (pc' := 1) hM_215 d_215_0 rfl rfl ?_
    refine r_k (pc' := 2) (v := .inl 0) hM_215 d_215_1 rfl rfl ?_
    refine r_pI (pc' := 5) (k0 := 0) hM_215 d_215_2 rfl (by decide +kernel) ?_
    refine r_ld (pc' := 6) hM_215 d_215_5 rfl rfl ?_
    refine r_ld (pc' := 7) hM_215 d_215_6 rfl rfl ?_
    exact hk
  refine ok_cl (pc' := 10) (c := (213, 0)) (a := [.inr (.inr (some 53)), .inl a]) (q := []) hM_215 d_215_7 rfl (by decide +kernel) hM_213 rfl rfl rfl (Nat.le_of_ble_eq_true rfl) (Nat.le_of_ble_eq_true rfl) (Or.inr rfl) (z_213  (mu m 53 0 0) a hz1) (Nat.le_of_ble_eq_true rfl) ?_
  rintro _ m1 ⟨rfl, hz2⟩
  replace H := H  m1 hz2
  show ok 5 215 10 [some (.inr (.inr (some 53))), some (.inl a), some (.inl k), none] [.inl (krm (mu m 53 0 0) a)] m1 Q
  obtain ⟨hz5, H⟩ := H
  refine ok_sg (pc' := 12) (ls' := [some (.inr (.inr (some 53))), some (.inl a), some (.inl k), some (.inl (krm (mu m 53 0 0) a))]) (st' := [.inl (krm (mu m 53 0 0) a)]) (m' := m1) (fun fx hfx o hk => ?_) ?_
  · refine r_sto (pc' := 11) (ls' := [some (.inr (.inr (some 53))), some (.inl a), some (.inl k), some (.inl (krm (mu m 53 0 0) a))]) hM_215 d_215_10 rfl rfl ?_
    refine r_ld (pc' := 12) hM_215 d_215_11 rfl rfl ?_
    exact hk
  refine ok_sg (pc' := 45) (ls' := [some (.inr (.inr (some 53))), some (.inl a), some (.inl k), some (.inl (krm (mu m 53 0 0) a))]) (st' := [.inl (if am_s (krm (mu m 53 0 0) a) = 0 then (if am_s ((if am_t 0 ≤ am_t (am_s k) ∧ am_t (am_s k) ≤ am_t (am_s ((m1 53 19) - 1)) then 1 else 0)) = 0 then (-1) else (m1 59 ((am_s k).toNat))) else (krm (mu m 53 0 0) a))]) (m' := m1) (fun fx hfx o K => ?_) ?_
  · refine r_if (pc' := 19) (pc2 := 15) hM_215 d_215_12 (by decide) rfl (fun hz3 => ?_) (fun hz3 => ?_)
    · have hz3 : am_s (krm (mu m 53 0 0) a) = 0 := hz3
      rw [if_pos hz3] at K
      refine r_ld (pc' := 20) hM_215 d_215_19 rfl rfl ?_
      refine r_stk (pc' := 21) (st' := [.inr (.inl (am_s k))]) hM_215 d_215_20 rfl rfl ?_
      refine r_k (pc' := 22) (v := .inr (.inl 0)) hM_215 d_215_21 rfl rfl ?_
      refine r_ld (pc' := 23) hM_215 d_215_22 rfl rfl ?_
      refine r_gI (pc' := 26) (k0 := 19) hM_215 d_215_23 rfl (by decide +kernel) ?_
      refine r_k (pc' := 27) (v := .inl 1) hM_215 d_215_26 rfl rfl ?_
      refine r_b (pc' := 28) (z := ((m1 53 19) - 1)) hM_215 d_215_27 rfl rfl ?_
      refine r_stk (pc' := 29) (st' := [.inr (.inl (am_s ((m1 53 19) - 1))), .inr (.inl 0), .inr (.inl (am_s k))]) hM_215 d_215_28 rfl rfl ?_
      refine r_cl (pc' := 32) (c := (167, 2)) (a := [.inr (.inl (am_s k)), .inr (.inl 0), .inr (.inl (am_s ((m1 53 19) - 1)))]) (q := []) hM_215 d_215_29 rfl (by decide +kernel) hM_167 rfl rfl rfl (Nat.le_of_ble_eq_true rfl) (Nat.le_of_ble_eq_true rfl) (Or.inl rfl) (n_167  m1 (am_s k) 0 (am_s ((m1 53 19) - 1))) (Nat.le_of_ble_eq_true rfl) ?_
      show rn fx 5 (0, 0) 215 32 [some (.inr (.inr (some 53))), some (.inl a), some (.inl k), some (.inl (krm (mu m 53 0 0) a))] [.inl ((if am_t 0 ≤ am_t (am_s k) ∧ am_t (am_s k) ≤ am_t (am_s ((m1 53 19) - 1)) then 1 else 0))] (st0 m1) o
      refine r_if (pc' := 44) (pc2 := 35) hM_215 d_215_32 (by decide) rfl (fun hz4 => ?_) (fun hz4 => ?_)
      · have hz4 : am_s ((if am_t 0 ≤ am_t (am_s k) ∧ am_t (am_s k) ≤ am_t (am_s ((m1 53 19) - 1)) then 1 else 0)) = 0 := hz4
        rw [if_pos hz4] at K
        refine r_k (pc' := 45) (v := .inl (-1)) hM_215 d_215_44 rfl rfl ?_
        exact K
      · have hz4 : ¬ (am_s ((if am_t 0 ≤ am_t (am_s k) ∧ am_t (am_s k) ≤ am_t (am_s ((m1 53 19) - 1)) then 1 else 0)) = 0) := hz4
        rw [if_neg hz4] at K
        refine r_ld (pc' := 36) hM_215 d_215_35 rfl rfl ?_
        refine r_gR (pc' := 39) (v := 59) hM_215 d_215_36 rfl (by decide +kernel) ?_
        refine r_ld (pc' := 40) hM_215 d_215_39 rfl rfl ?_
        refine r_ia (pc' := 41) (n := 4096) hM_215 d_215_40 rfl rfl (hz5 hz3 hz4) ?_
        refine r_go (pc' := 45) hM_215 d_215_41 (by decide) ?_
        exact K
    · have hz3 : ¬ (am_s (krm (mu m 53 0 0) a) = 0) := hz3
      rw [if_neg hz3] at K
      refine r_ld (pc' := 16) hM_215 d_215_15 rfl rfl ?_
      refine r_go (pc' := 45) hM_215 d_215_16 (by decide) ?_
      exact K
  have K : ∀ y1 : Int, y1 = (if am_s (krm (mu m 53 0 0) a) = 0 then (if am_s ((if am_t 0 ≤ am_t (am_s k) ∧ am_t (am_s k) ≤ am_t (am_s ((m1 53 19) - 1)) then 1 else 0)) = 0 then (-1) else (m1 59 ((am_s k).toNat))) else (krm (mu m 53 0 0) a)) → ok 5 215 45 [some (.inr (.inr (some 53))), some (.inl a), some (.inl k), some (.inl (krm (mu m 53 0 0) a))] [.inl y1] m1 Q := by
    intro y1 hy1
    replace H := H y1 hy1
    exact ok_rt (fun fx _ => rt_i hM_215 d_215_45 rfl) H
  exact K _ rfl
theorem u_90_13 {Q : List am_V → am_M → Prop} {m : am_M} {r : Nat} {k : Int} {b : Int} {s : Int} {i : Int} (h_r : r ∈ rowL) (H : ((am_s (m 34 10) ≤ am_s i) → Q [.inl (-1)] m) ∧ ((¬ (am_s (m 34 10) ≤ am_s i)) → (ALW m ∧ 0 ≤ s ∧ s < 4096) ∧ (∀ (m1 : am_M), (m1 = m) → ((¬ (alb m s.toNat (m 2 4).toNat = true)) → ok 5 90 13 [some (.inr (.inr (some 34))), some (.inr (.inr (some r))), some (.inl k), some (.inl b), some (.inl (v_88 m1 s)), some (.inl (i + 1))] [] m1 Q) ∧ ((alb m s.toNat (m 2 4).toNat = true) → ((¬ am_s b = am_s k) → ok 5 90 13 [some (.inr (.inr (some 34))), some (.inr (.inr (some r))), some (.inl k), some (.inl (b + 1)), some (.inl (v_88 m1 s)), some (.inl (i + 1))] [] m1 Q) ∧ ((am_s b = am_s k) → Q [.inl s] m1))))) : ok 5 90 13 [some (.inr (.inr (some 34))), some (.inr (.inr (some r))), some (.inl k), some (.inl b), some (.inl s), some (.inl i)] [] m Q := by
  refine ok_sg (pc' := 19) (ls' := [some (.inr (.inr (some 34))), some (.inr (.inr (some r))), some (.inl k), some (.inl b), some (.inl s), some (.inl i)]) (st' := [.inl (m 34 10), .inl i]) (m' := m) (fun fx hfx o hk => ?_) ?_
  · refine r_ld (pc' := 15) hM_90 d_90_13 rfl rfl ?_
    refine r_ld (pc' := 16) hM_90 d_90_15 rfl rfl ?_
    refine r_gI (pc' := 19) (k0 := 10) hM_90 d_90_16 rfl (by decide +kernel) ?_
    exact hk
  refine ok_ic (pc' := 56) (pc2 := 22) hM_90 d_90_19 (by decide) rfl (fun hz1 => ?_) (fun hz1 => ?_)
  · have H := H.1 hz1
    refine ok_sg (pc' := 57) (ls' := [some (.inr (.inr (some 34))), some (.inr (.inr (some r))), some (.inl k), some (.inl b), some (.inl s), some (.inl i)]) (st' := [.inl (-1)]) (m' := m) (fun fx hfx o hk => ?_) ?_
    · refine r_k (pc' := 57) (v := .inl (-1)) hM_90 d_90_56 rfl rfl ?_
      exact hk
    exact ok_rt (fun fx _ => rt_i hM_90 d_90_57 rfl) H
  · have H := H.2 hz1
    obtain ⟨hz2, H⟩ := H
    refine ok_sg (pc' := 25) (ls' := [some (.inr (.inr (some 34))), some (.inr (.inr (some r))), some (.inl k), some (.inl b), some (.inl s), some (.inl i)]) (st' := [.inl s, .inr (.inr (some 34))]) (m' := m) (fun fx hfx o hk => ?_) ?_
    · refine r_ld (pc' := 23) hM_90 d_90_22 rfl rfl ?_
      refine r_ld (pc' := 25) hM_90 d_90_23 rfl rfl ?_
      exact hk
    refine ok_cl (pc' := 28) (c := (86, 0)) (a := [.inr (.inr (some 34)), .inl s]) (q := []) hM_90 d_90_25 rfl (by decide +kernel) hM_86 rfl rfl rfl (Nat.le_of_ble_eq_true rfl) (Nat.le_of_ble_eq_true rfl) (Or.inr rfl) (z_86  m s hz2) (Nat.le_of_ble_eq_true rfl) ?_
    rintro _ m1 ⟨rfl, hz3⟩
    replace H := H  m1 hz3
    show ok 5 90 28 [some (.inr (.inr (some 34))), some (.inr (.inr (some r))), some (.inl k), some (.inl b), some (.inl s), some (.inl i)] [.inl (if alb m s.toNat (m 2 4).toNat = true then 1 else 0)] m1 Q
    refine ok_if (pc' := 42) (pc2 := 31) hM_90 d_90_28 (by decide) rfl (fun hz4 => ?_) (fun hz4 => ?_)
    · have H := H.1 (as_ite.mp hz4)
      refine ok_sg (pc' := 13) (ls' := [some (.inr (.inr (some 34))), some (.inr (.inr (some r))), some (.inl k), some (.inl b), some (.inl (v_88 m1 s)), some (.inl (i + 1))]) (st' := []) (m' := m1) (fun fx hfx o hk => ?_) ?_
      · refine r_ld (pc' := 43) hM_90 d_90_42 rfl rfl ?_
        refine r_ld (pc' := 45) hM_90 d_90_43 rfl rfl ?_
        refine r_cl (pc' := 48) (c := (88, 0)) (a := [.inr (.inr (some 34)), .inl s]) (q := []) hM_90 d_90_45 rfl (by decide +kernel) hM_88 rfl rfl rfl (Nat.le_of_ble_eq_true rfl) (Nat.le_of_ble_eq_true rfl) (Or.inr rfl) (c_88  m1 s) (Nat.le_of_ble_eq_true rfl) ?_
        show rn fx 5 (0, 0) 90 48 [some (.inr (.inr (some 34))), some (.inr (.inr (some r))), some (.inl k), some (.inl b), some (.inl s), some (.inl i)] [.inl (v_88 m1 s)] (st0 m1) o
        refine r_sto (pc' := 50) (ls' := [some (.inr (.inr (some 34))), some (.inr (.inr (some r))), some (.inl k), some (.inl b), some (.inl (v_88 m1 s)), some (.inl i)]) hM_90 d_90_48 rfl rfl ?_
        refine r_sto (pc' := 53) (ls' := [some (.inr (.inr (some 34))), some (.inr (.inr (some r))), some (.inl k), some (.inl b), some (.inl (v_88 m1 s)), some (.inl (i + 1))]) hM_90 d_90_50 rfl rfl ?_
        refine r_go (pc' := 13) hM_90 d_90_53 (by decide) ?_
        exact hk
      exact H
    · have H := H.2 (as_iteN.mp hz4)
      refine ok_sg (pc' := 33) (ls' := [some (.inr (.inr (some 34))), some (.inr (.inr (some r))), some (.inl k), some (.inl b), some (.inl s), some (.inl i)]) (st' := [.inl k, .inl b]) (m' := m1) (fun fx hfx o hk => ?_) ?_
      · refine r_ld (pc' := 32) hM_90 d_90_31 rfl rfl ?_
        refine r_ld (pc' := 33) hM_90 d_90_32 rfl rfl ?_
        exact hk
      refine ok_ic (pc' := 39) (pc2 := 36) hM_90 d_90_33 (by decide) rfl (fun hz5 => ?_) (fun hz5 => ?_)
      · have H := H.1 hz5
        refine ok_sg (pc' := 13) (ls' := [some (.inr (.inr (some 34))), some (.inr (.inr (some r))), some (.inl k), some (.inl (b + 1)), some (.inl (v_88 m1 s)), some (.inl (i + 1))]) (st' := []) (m' := m1) (fun fx hfx o hk => ?_) ?_
        · refine r_sto (pc' := 42) (ls' := [some (.inr (.inr (some 34))), some (.inr (.inr (some r))), some (.inl k), some (.inl (b + 1)), some (.inl s), some (.inl i)]) hM_90 d_90_39 rfl rfl ?_
          refine r_ld (pc' := 43) hM_90 d_90_42 rfl rfl ?_
          refine r_ld (pc' := 45) hM_90 d_90_43 rfl rfl ?_
          refine r_cl (pc' := 48) (c := (88, 0)) (a := [.inr (.inr (some 34)), .inl s]) (q := []) hM_90 d_90_45 rfl (by decide +kernel) hM_88 rfl rfl rfl (Nat.le_of_ble_eq_true rfl) (Nat.le_of_ble_eq_true rfl) (Or.inr rfl) (c_88  m1 s) (Nat.le_of_ble_eq_true rfl) ?_
          show rn fx 5 (0, 0) 90 48 [some (.inr (.inr (some 34))), some (.inr (.inr (some r))), some (.inl k), some (.inl (b + 1)), some (.inl s), some (.inl i)] [.inl (v_88 m1 s)] (st0 m1) o
          refine r_sto (pc' := 50) (ls' := [some (.inr (.inr (some 34))), some (.inr (.inr (some r))), some (.inl k), some (.inl (b + 1)), some (.inl (v_88 m1 s)), some (.inl i)]) hM_90 d_90_48 rfl rfl ?_
          refine r_sto (pc' := 53) (ls' := [some (.inr (.inr (some 34))), some (.inr (.inr (some r))), some (.inl k), some (.inl (b + 1)), some (.inl (v_88 m1 s)), some (.inl (i + 1))]) hM_90 d_90_50 rfl rfl ?_
          refine r_go (pc' := 13) hM_90 d_90_53 (by decide) ?_
          exact hk
        exact H
      · have H := H.2 (Decidable.not_not.mp hz5)
        refine ok_sg (pc' := 38) (ls' := [some (.inr (.inr (some 34))), some (.inr (.inr (some r))), some (.inl k), some (.inl b), some (.inl s), some (.inl i)]) (st' := [.inl s]) (m' := m1) (fun fx hfx o hk => ?_) ?_
        · refine r_ld (pc' := 38) hM_90 d_90_36 rfl rfl ?_
          exact hk
        exact ok_rt (fun fx _ => rt_i hM_90 d_90_38 rfl) H
theorem u_90_0 {Q : List am_V → am_M → Prop} {m : am_M} {r : Nat} {k : Int} (h_r : r ∈ rowL) (H : (WFG (vw m 2) ∧ RWC m r) ∧ (∀ (m1 : am_M), (HEA m r m1) → ok 5 90 13 [some (.inr (.inr (some 34))), some (.inr (.inr (some r))), some (.inl k), some (.inl 0), some (.inl 0), some (.inl 0)] [] m1 Q)) : ok 5 90 0 [some (.inr (.inr (some 34))), some (.inr (.inr (some r))), some (.inl k), none, none, none] [] m Q := by
  obtain ⟨hz1, H⟩ := H
  refine ok_sg (pc' := 2) (ls' := [some (.inr (.inr (some 34))), some (.inr (.inr (some r))), some (.inl k), none, none, none]) (st' := [.inr (.inr (some r)), .inr (.inr (some 34))]) (m' := m) (fun fx hfx o hk => ?_) ?_
  · refine r_ld (pc' := 1) hM_90 d_90_0 rfl rfl ?_
    refine r_ld (pc' := 2) hM_90 d_90_1 rfl rfl ?_
    exact hk
  refine ok_cl (pc' := 5) (c := (82, 0)) (a := [.inr (.inr (some 34)), .inr (.inr (some r))]) (q := []) hM_90 d_90_2 rfl (by decide +kernel) hM_82 rfl rfl rfl (Nat.le_of_ble_eq_true rfl) (Nat.le_of_ble_eq_true rfl) (Or.inr rfl) (z_82 h_r m  hz1) (Nat.le_of_ble_eq_true rfl) ?_
  rintro _ m1 ⟨rfl, hz2⟩
  replace H := H  m1 hz2
  show ok 5 90 5 [some (.inr (.inr (some 34))), some (.inr (.inr (some r))), some (.inl k), none, none, none] [] m1 Q
  refine ok_sg (pc' := 13) (ls' := [some (.inr (.inr (some 34))), some (.inr (.inr (some r))), some (.inl k), some (.inl 0), some (.inl 0), some (.inl 0)]) (st' := []) (m' := m1) (fun fx hfx o hk => ?_) ?_
  · refine r_k (pc' := 6) (v := .inl 0) hM_90 d_90_5 rfl rfl ?_
    refine r_sto (pc' := 7) (ls' := [some (.inr (.inr (some 34))), some (.inr (.inr (some r))), some (.inl k), some (.inl 0), none, none]) hM_90 d_90_6 rfl rfl ?_
    refine r_k (pc' := 8) (v := .inl 0) hM_90 d_90_7 rfl rfl ?_
    refine r_sto (pc' := 10) (ls' := [some (.inr (.inr (some 34))), some (.inr (.inr (some r))), some (.inl k), some (.inl 0), some (.inl 0), none]) hM_90 d_90_8 rfl rfl ?_
    refine r_k (pc' := 11) (v := .inl 0) hM_90 d_90_10 rfl rfl ?_
    refine r_sto (pc' := 13) (ls' := [some (.inr (.inr (some 34))), some (.inr (.inr (some r))), some (.inl k), some (.inl 0), some (.inl 0), some (.inl 0)]) hM_90 d_90_11 rfl rfl ?_
    exact hk
  exact H
theorem z_90 {r : Nat} (h_r : r ∈ rowL) (m : am_M) (k : Int) (hq : WFG (vw m 2) ∧ RWC m r ∧ am_s k = k) : ok 5 90 0 (am_ent 6 [.inr (.inr (some 34)), .inr (.inr (some r)), .inl k]) [] m (fun rr m' => ∃ v' : Int, rr = [.inl (v')] ∧ HEA m r m' ∧ NTH (ftq (nv (vw m 2)) (fun x => rat m r (x : Int))) (may (nv (vw m 2))) k v') := by
  show ok 5 90 0 [some (.inr (.inr (some 34))), some (.inr (.inr (some r))), some (.inl k), none, none, none] [] m _
  obtain ⟨hw, hR, hk⟩ := hq
  refine u_90_0 h_r ⟨⟨hw, hR⟩, fun m1 h1 => ?_⟩
  have hA := HEA_ALW hw h1
  have hFm : may (nv (vw m 2)) = (m1 34 9).toNat := by rw [h1.1, Int.toNat_natCast]
  rw [← HEA_alq hw h1, hFm]
  obtain ⟨hw1, hF, hc, hb⟩ := id hA
  have hFl : (m1 34 9).toNat < 4096 := by omega
  have hF9 : m1 34 9 = (((m1 34 9).toNat : Nat) : Int) := by omega
  have hcp := cp_lt (F := (m1 34 9).toNat)
  have e10 : am_s (m1 34 10) = ((2 ^ cnt (m1 34 9).toNat 12 : Nat) : Int) := by rw [hc]; exact cp_s
  refine ok_for (σ := Unit) (fun i _ => [some (.inr (.inr (some 34))), some (.inr (.inr (some r))), some (.inl k), some (.inl ((wc (alq m1) (m1 34 9).toNat i : Nat) : Int)), some (.inl ((en (m1 34 9).toNat i : Nat) : Int)), some (.inl (i : Int))]) (fun i _ M => M = m1 ∧ ¬ (0 ≤ k ∧ k < ((wc (alq m1) (m1 34 9).toNat i : Nat) : Int))) (2 ^ cnt (m1 34 9).toNat 12) ?_ ?_ () m1 ⟨rfl, by show ¬ (0 ≤ k ∧ k < ((0 : Nat) : Int)); omega⟩
  · rintro i hi - M ⟨rfl, hn⟩ IH
    have hl := en_lt hFl hi
    have hcw := wc_le (Q := alq M) (F := (M 34 9).toNat) i
    have hs := wc_s (Q := alq M) (F := (M 34 9).toNat) (i := i)
    rw [alq_en hFl hi] at hs
    refine u_90_13 h_r ?_
    rw [e10, am_s_id (z := (i : Int)) (by omega) (by omega), Int.toNat_natCast, am_s_id (z := ((wc (alq M) (M 34 9).toNat i : Nat) : Int)) (by omega) (by omega), hk]
    refine ⟨fun q => by omega, fun _ => ⟨⟨hA, by omega, by omega⟩, ?_⟩⟩
    intro mx hmx
    obtain rfl := hmx.symm
    rw [v88 hF9 hFl]
    refine ⟨fun q => ?_, fun q => ⟨fun q2 => ?_, fun q2 => ?_⟩⟩
    · rw [if_neg q] at hs
      have := IH () M ⟨rfl, by rw [hs]; exact hn⟩
      rw [hs] at this
      exact this
    · rw [if_pos q] at hs
      have := IH () M ⟨rfl, by rw [hs]; omega⟩
      rw [hs] at this
      exact this
    · refine ⟨_, rfl, h1, Or.inl ⟨en (M 34 9).toNat i, ?_, ?_, ?_, rfl⟩⟩
      · exact sub_le (en_ok hFl i hi).1
      · rw [alq_en hFl hi]; exact q
      · rw [← wc_cf hFl (fun t h => alq_sb h) hi]; exact q2
  · rintro - M ⟨rfl, hn⟩
    rw [wc_all hFl (fun t h => alq_sb h)] at hn
    refine u_90_13 h_r ?_
    rw [e10, cp_s]
    exact ⟨fun _ => ⟨_, rfl, h1, Or.inr ⟨hn, rfl⟩⟩, fun q => by omega⟩
theorem u_89_0 {Q : List am_V → am_M → Prop} {m : am_M} {a : Int} {k : Int}  (H : (RWS m ∧ WFG (vw m 2) ∧ am_s a = a) ∧ (∀ (m1 : am_M), (m1 = m) → ((am_s (kru m a) = 0) → (0 ≤ am_s a ∧ am_s a < (4 : Nat)) ∧ ((WFG (vw m1 2) ∧ RWC m1 (25 + 2 * (am_s a).toNat) ∧ am_s k = k) ∧ (∀ (v2 : Int) (m2 : am_M), (HEA m1 (25 + 2 * (am_s a).toNat) m2 ∧ NTH (ftq (nv (vw m1 2)) (fun x => rat m1 (25 + 2 * (am_s a).toNat) (x : Int))) (may (nv (vw m1 2))) k v2) → Q [.inl v2] m2))) ∧ ((¬ (am_s (kru m a) = 0)) → Q [.inl (kru m a)] m1))) : ok 6 89 0 [some (.inr (.inr (some 0))), some (.inl a), some (.inl k), none] [] m Q := by
  obtain ⟨hz1, H⟩ := H
  refine ok_sg (pc' := 2) (ls' := [some (.inr (.inr (some 0))), some (.inl a), some (.inl k), none]) (st' := [.inl a, .inr (.inr (some 0))]) (m' := m) (fun fx hfx o hk => ?_) ?_
  · refine r_ld (pc' := 1) hM_89 d_89_0 rfl rfl ?_
    refine r_ld (pc' := 2) hM_89 d_89_1 rfl rfl ?_
    exact hk
  refine ok_cl (pc' := 5) (c := (80, 0)) (a := [.inr (.inr (some 0)), .inl a]) (q := []) hM_89 d_89_2 rfl (by decide +kernel) hM_80 rfl rfl rfl (Nat.le_of_ble_eq_true rfl) (Nat.le_of_ble_eq_true rfl) (Or.inr rfl) (z_80  m a hz1) (Nat.le_of_ble_eq_true rfl) ?_
  rintro _ m1 ⟨rfl, hz2⟩
  replace H := H  m1 hz2
  show ok 6 89 5 [some (.inr (.inr (some 0))), some (.inl a), some (.inl k), none] [.inl (kru m a)] m1 Q
  refine ok_sg (pc' := 7) (ls' := [some (.inr (.inr (some 0))), some (.inl a), some (.inl k), some (.inl (kru m a))]) (st' := [.inl (kru m a)]) (m' := m1) (fun fx hfx o hk => ?_) ?_
  · refine r_sto (pc' := 6) (ls' := [some (.inr (.inr (some 0))), some (.inl a), some (.inl k), some (.inl (kru m a))]) hM_89 d_89_5 rfl rfl ?_
    refine r_ld (pc' := 7) hM_89 d_89_6 rfl rfl ?_
    exact hk
  refine ok_if (pc' := 14) (pc2 := 10) hM_89 d_89_7 (by decide) rfl (fun hz3 => ?_) (fun hz3 => ?_)
  · have H := H.1 hz3
    obtain ⟨hz4, H⟩ := H
    obtain ⟨hz5, H⟩ := H
    refine ok_sg (pc' := 25) (ls' := [some (.inr (.inr (some 0))), some (.inl a), some (.inl k), some (.inl (kru m a))]) (st' := [.inl k, .inr (.inr (some (25 + 2 * (am_s a).toNat))), .inr (.inr (some 34))]) (m' := m1) (fun fx hfx o hk => ?_) ?_
    · refine r_ld (pc' := 15) hM_89 d_89_14 rfl rfl ?_
      refine r_gR (pc' := 18) (v := 34) hM_89 d_89_15 rfl (by decide +kernel) ?_
      refine r_ld (pc' := 19) hM_89 d_89_18 rfl rfl ?_
      refine r_gR (pc' := 22) (v := 14) hM_89 d_89_19 rfl (by decide +kernel) ?_
      refine r_ld (pc' := 23) hM_89 d_89_22 rfl rfl ?_
      refine r_aa (pc' := 24) (n := 4) hM_89 d_89_23 rfl rfl (by decide) hz4 (rfRows hz4).1 (shRk (rfRows hz4).2).1 ?_
      refine r_ld (pc' := 25) hM_89 d_89_24 rfl rfl ?_
      exact hk
    refine ok_cl (pc' := 28) (c := (90, 0)) (a := [.inr (.inr (some 34)), .inr (.inr (some (25 + 2 * (am_s a).toNat))), .inl k]) (q := []) hM_89 d_89_25 rfl (by decide +kernel) hM_90 rfl rfl rfl (Nat.le_of_ble_eq_true rfl) (Nat.le_of_ble_eq_true rfl) (Or.inr rfl) (z_90 ((rfRows hz4).2) m1 k hz5) (Nat.le_of_ble_eq_true rfl) ?_
    rintro _ m2 ⟨v2, rfl, hz6⟩
    replace H := H v2 m2 hz6
    show ok 6 89 28 [some (.inr (.inr (some 0))), some (.inl a), some (.inl k), some (.inl (kru m a))] [.inl v2] m2 Q
    exact ok_rt (fun fx _ => rt_i hM_89 d_89_28 rfl) H
  · have H := H.2 hz3
    refine ok_sg (pc' := 28) (ls' := [some (.inr (.inr (some 0))), some (.inl a), some (.inl k), some (.inl (kru m a))]) (st' := [.inl (kru m a)]) (m' := m1) (fun fx hfx o hk => ?_) ?_
    · refine r_ld (pc' := 11) hM_89 d_89_10 rfl rfl ?_
      refine r_go (pc' := 28) hM_89 d_89_11 (by decide) ?_
      exact hk
    exact ok_rt (fun fx _ => rt_i hM_89 d_89_28 rfl) H
theorem P_fit {m : am_M} {a : Int} (ha : am_s a = a) (hI : Inv m) : PK 79 3 212 3 [.inl a] m := by
  have hR := Inv_RWS hI
  have hv := Inv_vw hI
  by_cases c : kru m a = 0
  · obtain ⟨c1, c2, c3⟩ := kru_0 c
    obtain ⟨J, rfl⟩ : ∃ J : Nat, a = (J : Int) := ⟨a.toNat, by omega⟩
    rw [Int.toNat_natCast] at c2 c3
    refine PK_2 (h1 := 6) (h2 := 5) (v := .inl ((cf (ftq (nv (m 54)) (rwf m J)) (may (nv (m 54)) + 1) : Nat) : Int)) (R := fun m1 => kpC m m1) ?_ ?_ (by decide) (by decide)
    · refine u_79_0 ⟨⟨hR, hv, ha⟩, ?_⟩
      intro mx hmx
      obtain rfl := hmx.symm
      rw [kru_s, ha, Int.toNat_natCast]
      refine ⟨fun _ => ⟨by omega, ⟨hv, hR J (by omega)⟩, fun m2 hm => ⟨?_, HEA_kpC hm⟩⟩, fun q => absurd c q⟩
      rw [Inv_nv hI, ftq_row hI (by omega) c2 c3]
    · intro m1 hk
      obtain ⟨w1, w2, w3, w4, w5, w6, -⟩ := mod_pre (a := (J : Int)) hI hk
      refine u_212_0 ⟨⟨w1, w2, ha⟩, fun m2 hm y hy => ?_⟩
      rw [w3] at hm hy
      have hf := hm.2 c
      have hK := FITS_kpC hf
      rw [kru_s, if_pos c] at hy
      unfold FITS at hf
      rw [Int.toNat_natCast, w4, w5] at hf
      exact ⟨by rw [hy, hf.1], Inv_kpC hK w6⟩
  · refine PK_2 (h1 := 6) (h2 := 5) (v := .inl (kru m a)) (R := fun m1 => m = m1) ?_ ?_ (by decide) (by decide)
    · refine u_79_0 ⟨⟨hR, hv, ha⟩, ?_⟩
      intro mx hmx
      obtain rfl := hmx.symm
      rw [kru_s]
      exact ⟨fun q => absurd q c, fun _ => ⟨rfl, rfl⟩⟩
    · rintro _ rfl
      obtain ⟨w1, w2, w3, w4, w5, w6, -⟩ := mod_pre (a := a) hI (kpC_refl m)
      refine u_212_0 ⟨⟨w1, w2, ha⟩, fun m2 hm y hy => ?_⟩
      rw [w3] at hm hy
      rw [kru_s, if_neg c] at hy
      have hm2 := hm.1 c
      subst hm2
      exact ⟨by rw [hy], w6⟩
