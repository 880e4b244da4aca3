theorem u_30_0 {Q : List am_V → am_M → Prop} {m : am_M} {f : Int}  (H : Q [.inl 0] (mu (mu m 33 7 (if ¬ am_s (m 33 4) = 4 then f else 1)) 33 8 (m 33 5))) : ok 0 30 0 [some (.inr (.inr (some 33))), some (.inl f)] [] m Q := by
  refine ok_sg (pc' := 6) (ls' := [some (.inr (.inr (some 33))), some (.inl f)]) (st' := [.inl 4, .inl (m 33 4), .inr (.inr (some 33))]) (m' := m) (fun fx hfx o hk => ?_) ?_
  · refine r_ld (pc' := 1) hM_30 d_30_0 rfl rfl ?_
    refine r_ld (pc' := 2) hM_30 d_30_1 rfl rfl ?_
    refine r_gI (pc' := 5) (k0 := 4) hM_30 d_30_2 rfl (by decide +kernel) ?_
    refine r_k (pc' := 6) (v := .inl 4) hM_30 d_30_5 rfl rfl ?_
    exact hk
  refine ok_sg (pc' := 14) (ls' := [some (.inr (.inr (some 33))), some (.inl f)]) (st' := [.inl (if ¬ am_s (m 33 4) = 4 then f else 1), .inr (.inr (some 33))]) (m' := m) (fun fx hfx o K => ?_) ?_
  · refine r_ic (pc' := 13) (pc2 := 9) hM_30 d_30_6 (by decide) rfl (fun hz1 => ?_) (fun hz1 => ?_)
    · have hz1 : ¬ am_s (m 33 4) = 4 := hz1
      rw [if_pos hz1] at K
      refine r_ld (pc' := 14) hM_30 d_30_13 rfl rfl ?_
      exact K
    · have hz1 : ¬ (¬ am_s (m 33 4) = 4) := hz1
      rw [if_neg hz1] at K
      refine r_k (pc' := 10) (v := .inl 1) hM_30 d_30_9 rfl rfl ?_
      refine r_go (pc' := 14) hM_30 d_30_10 (by decide) ?_
      exact K
  refine ok_sg (pc' := 26) (ls' := [some (.inr (.inr (some 33))), some (.inl f)]) (st' := [.inl 0]) (m' := mu (mu m 33 7 (if ¬ am_s (m 33 4) = 4 then f else 1)) 33 8 (m 33 5)) (fun fx hfx o hk => ?_) ?_
  · refine r_pI (pc' := 17) (k0 := 7) hM_30 d_30_14 rfl (by decide +kernel) ?_
    refine r_ld (pc' := 18) hM_30 d_30_17 rfl rfl ?_
    refine r_ld (pc' := 19) hM_30 d_30_18 rfl rfl ?_
    refine r_gIe (pc' := 22) (k0 := 5) (z := (m 33 5)) hM_30 d_30_19 rfl (by decide +kernel) (mu_k (by omega)) ?_
    refine r_pI (pc' := 25) (k0 := 8) hM_30 d_30_22 rfl (by decide +kernel) ?_
    refine r_k (pc' := 26) (v := .inl 0) hM_30 d_30_25 rfl rfl ?_
    exact hk
  exact ok_rt (fun fx _ => rt_z hM_30 d_30_26 rfl (by decide)) H
/-! the parser, in pure words -/
abbrev TKN := Nat × Int × Int × Nat
def fk (t : TKN) (f : Int) : Int × Int := (if t.2.1 = 15 then 1 else f, (t.1 : Int))
noncomputable def NR (tx : Nat → Int) (n : Nat) (t : TKN) (lo hi : Int) : (Int × Int) ⊕ (Int × TKN) := if t.2.1 = 12 then (if lo ≤ t.2.2.1 ∧ t.2.2.1 ≤ hi then .inr (t.2.2.1, tok tx n t.2.2.2) else .inl (fk t 3)) else .inl (fk t 2)
noncomputable def OPR1 (tx : Nat → Int) (n : Nat) (t : TKN) (key hi : Int) : (Int × Int) ⊕ (Int × TKN) := if t.2.1 = key then NR tx n (tok tx n t.2.2.2) 0 hi else .inr (0, t)
noncomputable def BDR (tx : Nat → Int) (n : Nat) (t : TKN) : Int × TKN := if t.2.1 = 3 then (1, tok tx n t.2.2.2) else if t.2.1 = 4 then (2, tok tx n t.2.2.2) else (0, t)
theorem NR_y {tx : Nat → Int} {n : Nat} {t : TKN} {lo hi : Int} (h1 : t.2.1 = 12) (h2 : lo ≤ t.2.2.1 ∧ t.2.2.1 ≤ hi) : NR tx n t lo hi = .inr (t.2.2.1, tok tx n t.2.2.2) := by
  unfold NR
  rw [if_pos h1, if_pos h2]
theorem NR_3 {tx : Nat → Int} {n : Nat} {t : TKN} {lo hi : Int} (h1 : t.2.1 = 12) (h2 : ¬ (lo ≤ t.2.2.1 ∧ t.2.2.1 ≤ hi)) : NR tx n t lo hi = .inl (fk t 3) := by
  unfold NR
  rw [if_pos h1, if_neg h2]
theorem NR_2 {tx : Nat → Int} {n : Nat} {t : TKN} {lo hi : Int} (h1 : ¬ t.2.1 = 12) : NR tx n t lo hi = .inl (fk t 2) := by
  unfold NR
  rw [if_neg h1]
theorem mkw_i {w x : Int} (hw : -1 ≤ w ∧ w ≤ 10) (hx : -1 ≤ x ∧ x ≤ 10) (h : mkw w = mkw x) : w = x := by
  have key : ∀ i, i < 12 → ∀ j, j < 12 → mkw (((i : Nat) : Int) - 1) = mkw (((j : Nat) : Int) - 1) → i = j := by decide +kernel
  have := key (w + 1).toNat (by omega) (x + 1).toNat (by omega) (by rw [show (((w + 1).toNat : Nat) : Int) - 1 = w by omega, show (((x + 1).toNat : Nat) : Int) - 1 = x by omega]; exact h)
  omega
theorem ckd_c {m : am_M} (h : RV m) : (m 33 4 = 1 ∧ ckd m = mkw (cwn m) ∧ 0 ≤ ckd m ∧ ckd m ≤ 11) ∨ (m 33 4 = 2 ∧ ckd m = 12) ∨ (m 33 4 = 3 ∧ ckd m = 13) ∨ (m 33 4 = 0 ∧ ckd m = 14) ∨ (m 33 4 = 4 ∧ ckd m = 15) := by
  obtain ⟨-, -, h4, h5, -⟩ := h
  unfold ckd
  have : m 33 4 = 1 ∨ m 33 4 = 2 ∨ m 33 4 = 3 ∨ m 33 4 = 0 ∨ m 33 4 = 4 := by omega
  rcases this with h | h | h | h | h
  · have := mkw_r (h5 h)
    rw [if_pos h]
    exact Or.inl ⟨h, rfl, this⟩
  · rw [if_neg (by omega), if_pos h]
    exact Or.inr (Or.inl ⟨h, rfl⟩)
  · rw [if_neg (by omega), if_neg (by omega), if_pos h]
    exact Or.inr (Or.inr (Or.inl ⟨h, rfl⟩))
  · rw [if_neg (by omega), if_neg (by omega), if_neg (by omega), if_pos h]
    exact Or.inr (Or.inr (Or.inr (Or.inl ⟨h, rfl⟩)))
  · rw [if_neg (by omega), if_neg (by omega), if_neg (by omega), if_neg (by omega)]
    exact Or.inr (Or.inr (Or.inr (Or.inr ⟨h, rfl⟩)))
def frF (m m' : am_M) : Prop := ∀ a k, ¬ (a = 33 ∧ 3 ≤ k ∧ k ≤ 8) → m' a k = m a k
theorem frT_F {m m' : am_M} (h : frT m m') : frF m m' := fun a k hk => h a k (by omega)
theorem frF_t {m m1 m2 : am_M} (h1 : frF m m1) (h2 : frF m1 m2) : frF m m2 := fun a k hk => by rw [h2 a k hk, h1 a k hk]
theorem frT_t {m m1 m2 : am_M} (h1 : frT m m1) (h2 : frT m1 m2) : frT m m2 := fun a k hk => by rw [h2 a k hk, h1 a k hk]
theorem frT_1 {m m' : am_M} (h : frT m m') : m' 1 = m 1 := by
  funext k
  exact h 1 k (by omega)
theorem z_30   (m : am_M) (f : Int) (hq : RV m) : ok 0 30 0 (am_ent 2 [.inr (.inr (some 33)), .inl f]) [] m (fun rr m' => rr = [.inl (0)] ∧ m' 33 7 = (fk (ctok m) f).1 ∧ m' 33 8 = (fk (ctok m) f).2 ∧ frF m m') := by
  show ok 0 30 0 [some (.inr (.inr (some 33))), some (.inl f)] [] m _
  refine u_30_0 ⟨rfl, ?_⟩
  have h4 := hq.2.2.1
  rw [am_s_id (z := m 33 4) (by omega) (by omega)]
  have e2 : (m 33 5) = ((m 33 5).toNat : Int) := by have := hq.2.1; omega
  have e1 : (if ¬ m 33 4 = 4 then f else 1) = (fk (ctok m) f).1 := by
    show _ = if ckd m = 15 then 1 else f
    rcases ckd_c hq with ⟨a, -, b, c⟩ | ⟨a, b⟩ | ⟨a, b⟩ | ⟨a, b⟩ | ⟨a, b⟩
    · rw [if_pos (by omega), if_neg (by omega)]
    · rw [if_pos (by omega), if_neg (by omega)]
    · rw [if_pos (by omega), if_neg (by omega)]
    · rw [if_pos (by omega), if_neg (by omega)]
    · rw [if_neg (by omega), if_pos (by omega)]
  rw [e1]
  refine ⟨by rw [mu_o (by omega), mu_same], by rw [mu_same]; exact e2, fun a k hk => by rw [mu_o (by omega), mu_o (by omega)]⟩
theorem u_32_0 {Q : List am_V → am_M → Prop} {m : am_M} {lo : Int} {hi : Int}  (H : ((am_s (m 33 4) = 2) → ((am_s (m 33 6) < am_s lo) → (RV m) ∧ (∀ (m1 : am_M), (m1 33 7 = (fk (ctok m) 3).1 ∧ m1 33 8 = (fk (ctok m) 3).2 ∧ frF m m1) → Q [.inl (-1)] m1)) ∧ ((¬ (am_s (m 33 6) < am_s lo)) → ((am_s (m 33 6) ≤ am_s hi) → (RDR m) ∧ (∀ (m2 : am_M), (ctok m2 = tok (m 1) (m 33 2).toNat (m 33 3).toNat ∧ RV m2 ∧ frT m m2) → Q [.inl (m 33 6)] m2)) ∧ ((¬ (am_s (m 33 6) ≤ am_s hi)) → (RV m) ∧ (∀ (m3 : am_M), (m3 33 7 = (fk (ctok m) 3).1 ∧ m3 33 8 = (fk (ctok m) 3).2 ∧ frF m m3) → Q [.inl (-1)] m3)))) ∧ ((¬ (am_s (m 33 4) = 2)) → (RV m) ∧ (∀ (m4 : am_M), (m4 33 7 = (fk (ctok m) 2).1 ∧ m4 33 8 = (fk (ctok m) 2).2 ∧ frF m m4) → Q [.inl (-1)] m4))) : ok 7 32 0 [some (.inr (.inr (some 33))), some (.inl lo), some (.inl hi), none] [] m Q := by
  refine ok_sg (pc' := 10) (ls' := [some (.inr (.inr (some 33))), some (.inl lo), some (.inl hi), some (.inl (m 33 6))]) (st' := [.inl 2, .inl (m 33 4)]) (m' := m) (fun fx hfx o hk => ?_) ?_
  · refine r_ld (pc' := 1) hM_32 d_32_0 rfl rfl ?_
    refine r_gI (pc' := 4) (k0 := 6) hM_32 d_32_1 rfl (by decide +kernel) ?_
    refine r_sto (pc' := 5) (ls' := [some (.inr (.inr (some 33))), some (.inl lo), some (.inl hi), some (.inl (m 33 6))]) hM_32 d_32_4 rfl rfl ?_
    refine r_ld (pc' := 6) hM_32 d_32_5 rfl rfl ?_
    refine r_gI (pc' := 9) (k0 := 4) hM_32 d_32_6 rfl (by decide +kernel) ?_
    refine r_k (pc' := 10) (v := .inl 2) hM_32 d_32_9 rfl rfl ?_
    exact hk
  refine ok_ic (pc' := 21) (pc2 := 13) hM_32 d_32_10 (by decide) rfl (fun hz1 => ?_) (fun hz1 => ?_)
  · have H := H.1 hz1
    refine ok_sg (pc' := 23) (ls' := [some (.inr (.inr (some 33))), some (.inl lo), some (.inl hi), some (.inl (m 33 6))]) (st' := [.inl lo, .inl (m 33 6)]) (m' := m) (fun fx hfx o hk => ?_) ?_
    · refine r_ld (pc' := 22) hM_32 d_32_21 rfl rfl ?_
      refine r_ld (pc' := 23) hM_32 d_32_22 rfl rfl ?_
      exact hk
    refine ok_ic (pc' := 31) (pc2 := 26) hM_32 d_32_23 (by decide) rfl (fun hz2 => ?_) (fun hz2 => ?_)
    · have H := H.1 hz2
      obtain ⟨hz3, H⟩ := H
      refine ok_sg (pc' := 33) (ls' := [some (.inr (.inr (some 33))), some (.inl lo), some (.inl hi), some (.inl (m 33 6))]) (st' := [.inl 3, .inr (.inr (some 33))]) (m' := m) (fun fx hfx o hk => ?_) ?_
      · refine r_ld (pc' := 32) hM_32 d_32_31 rfl rfl ?_
        refine r_k (pc' := 33) (v := .inl 3) hM_32 d_32_32 rfl rfl ?_
        exact hk
      refine ok_cl (pc' := 36) (c := (30, 0)) (a := [.inr (.inr (some 33)), .inl 3]) (q := []) hM_32 d_32_33 rfl (by decide +kernel) hM_30 rfl rfl rfl (Nat.le_of_ble_eq_true rfl) (Nat.le_of_ble_eq_true rfl) (Or.inr rfl) (z_30  m 3 hz3) (Nat.le_of_ble_eq_true rfl) ?_
      rintro _ m1 ⟨rfl, hz4⟩
      replace H := H  m1 hz4
      show ok 7 32 36 [some (.inr (.inr (some 33))), some (.inl lo), some (.inl hi), some (.inl (m 33 6))] [.inl 0] m1 Q
      refine ok_sg (pc' := 38) (ls' := [some (.inr (.inr (some 33))), some (.inl lo), some (.inl hi), some (.inl (m 33 6))]) (st' := [.inl (-1)]) (m' := m1) (fun fx hfx o hk => ?_) ?_
      · refine r_stk (pc' := 37) (st' := []) hM_32 d_32_36 rfl rfl ?_
        refine r_k (pc' := 38) (v := .inl (-1)) hM_32 d_32_37 rfl rfl ?_
        exact hk
      exact ok_rt (fun fx _ => rt_i hM_32 d_32_38 rfl) H
    · have H := H.2 hz2
      refine ok_sg (pc' := 28) (ls' := [some (.inr (.inr (some 33))), some (.inl lo), some (.inl hi), some (.inl (m 33 6))]) (st' := [.inl hi, .inl (m 33 6)]) (m' := m) (fun fx hfx o hk => ?_) ?_
      · refine r_ld (pc' := 27) hM_32 d_32_26 rfl rfl ?_
        refine r_ld (pc' := 28) hM_32 d_32_27 rfl rfl ?_
        exact hk
      refine ok_ic (pc' := 39) (pc2 := 31) hM_32 d_32_28 (by decide) rfl (fun hz5 => ?_) (fun hz5 => ?_)
      · have H := H.1 hz5
        obtain ⟨hz6, H⟩ := H
        refine ok_sg (pc' := 40) (ls' := [some (.inr (.inr (some 33))), some (.inl lo), some (.inl hi), some (.inl (m 33 6))]) (st' := [.inr (.inr (some 33))]) (m' := m) (fun fx hfx o hk => ?_) ?_
        · refine r_ld (pc' := 40) hM_32 d_32_39 rfl rfl ?_
          exact hk
        refine ok_cl (pc' := 43) (c := (15, 0)) (a := [.inr (.inr (some 33))]) (q := []) hM_32 d_32_40 rfl (by decide +kernel) hM_15 rfl rfl rfl (Nat.le_of_ble_eq_true rfl) (Nat.le_of_ble_eq_true rfl) (Or.inr rfl) (z_15  m  hz6) (Nat.le_of_ble_eq_true rfl) ?_
        rintro _ m2 ⟨rfl, hz7⟩
        replace H := H  m2 hz7
        show ok 7 32 43 [some (.inr (.inr (some 33))), some (.inl lo), some (.inl hi), some (.inl (m 33 6))] [] m2 Q
        refine ok_sg (pc' := 44) (ls' := [some (.inr (.inr (some 33))), some (.inl lo), some (.inl hi), some (.inl (m 33 6))]) (st' := [.inl (m 33 6)]) (m' := m2) (fun fx hfx o hk => ?_) ?_
        · refine r_ld (pc' := 44) hM_32 d_32_43 rfl rfl ?_
          exact hk
        exact ok_rt (fun fx _ => rt_i hM_32 d_32_44 rfl) H
      · have H := H.2 hz5
        obtain ⟨hz8, H⟩ := H
        refine ok_sg (pc' := 33) (ls' := [some (.inr (.inr (some 33))), some (.inl lo), some (.inl hi), some (.inl (m 33 6))]) (st' := [.inl 3, .inr (.inr (some 33))]) (m' := m) (fun fx hfx o hk => ?_) ?_
        · refine r_ld (pc' := 32) hM_32 d_32_31 rfl rfl ?_
          refine r_k (pc' := 33) (v := .inl 3) hM_32 d_32_32 rfl rfl ?_
          exact hk
        refine ok_cl (pc' := 36) (c := (30, 0)) (a := [.inr (.inr (some 33)), .inl 3]) (q := []) hM_32 d_32_33 rfl (by decide +kernel) hM_30 rfl rfl rfl (Nat.le_of_ble_eq_true rfl) (Nat.le_of_ble_eq_true rfl) (Or.inr rfl) (z_30  m 3 hz8) (Nat.le_of_ble_eq_true rfl) ?_
        rintro _ m3 ⟨rfl, hz9⟩
        replace H := H  m3 hz9
        show ok 7 32 36 [some (.inr (.inr (some 33))), some (.inl lo), some (.inl hi), some (.inl (m 33 6))] [.inl 0] m3 Q
        refine ok_sg (pc' := 38) (ls' := [some (.inr (.inr (some 33))), some (.inl lo), some (.inl hi), some (.inl (m 33 6))]) (st' := [.inl (-1)]) (m' := m3) (fun fx hfx o hk => ?_) ?_
        · refine r_stk (pc' := 37) (st' := []) hM_32 d_32_36 rfl rfl ?_
          refine r_k (pc' := 38) (v := .inl (-1)) hM_32 d_32_37 rfl rfl ?_
          exact hk
        exact ok_rt (fun fx _ => rt_i hM_32 d_32_38 rfl) H
  · have H := H.2 hz1
    obtain ⟨hz10, H⟩ := H
    refine ok_sg (pc' := 15) (ls' := [some (.inr (.inr (some 33))), some (.inl lo), some (.inl hi), some (.inl (m 33 6))]) (st' := [.inl 2, .inr (.inr (some 33))]) (m' := m) (fun fx hfx o hk => ?_) ?_
    · refine r_ld (pc' := 14) hM_32 d_32_13 rfl rfl ?_
      refine r_k (pc' := 15) (v := .inl 2) hM_32 d_32_14 rfl rfl ?_
      exact hk
    refine ok_cl (pc' := 18) (c := (30, 0)) (a := [.inr (.inr (some 33)), .inl 2]) (q := []) hM_32 d_32_15 rfl (by decide +kernel) hM_30 rfl rfl rfl (Nat.le_of_ble_eq_true rfl) (Nat.le_of_ble_eq_true rfl) (Or.inr rfl) (z_30  m 2 hz10) (Nat.le_of_ble_eq_true rfl) ?_
    rintro _ m4 ⟨rfl, hz11⟩
    replace H := H  m4 hz11
    show ok 7 32 18 [some (.inr (.inr (some 33))), some (.inl lo), some (.inl hi), some (.inl (m 33 6))] [.inl 0] m4 Q
    refine ok_sg (pc' := 20) (ls' := [some (.inr (.inr (some 33))), some (.inl lo), some (.inl hi), some (.inl (m 33 6))]) (st' := [.inl (-1)]) (m' := m4) (fun fx hfx o hk => ?_) ?_
    · refine r_stk (pc' := 19) (st' := []) hM_32 d_32_18 rfl rfl ?_
      refine r_k (pc' := 20) (v := .inl (-1)) hM_32 d_32_19 rfl rfl ?_
      exact hk
    exact ok_rt (fun fx _ => rt_i hM_32 d_32_20 rfl) H
theorem u_33_0 {Q : List am_V → am_M → Prop} {m : am_M} {w : Int}  (H : (RV m ∧ (0 : Int) ≤ w ∧ w ≤ (10 : Int)) ∧ (((m 33 4 = 1 ∧ cwn m = w) → (RDR m) ∧ (∀ (m1 : am_M), (ctok m1 = tok (m 1) (m 33 2).toNat (m 33 3).toNat ∧ RV m1 ∧ frT m m1) → Q [.inl 1] m1)) ∧ ((¬ (m 33 4 = 1 ∧ cwn m = w)) → Q [.inl 0] m))) : ok 7 33 0 [some (.inr (.inr (some 33))), some (.inl w)] [] m Q := by
  obtain ⟨hz1, H⟩ := H
  refine ok_sg (pc' := 5) (ls' := [some (.inr (.inr (some 33))), some (.inl w)]) (st' := [.inl (if m 33 4 = 1 ∧ cwn m = w then 1 else 0)]) (m' := m) (fun fx hfx o hk => ?_) ?_
  · refine r_ld (pc' := 1) hM_33 d_33_0 rfl rfl ?_
    refine r_ld (pc' := 2) hM_33 d_33_1 rfl rfl ?_
    refine r_cl (pc' := 5) (c := (19, 0)) (a := [.inr (.inr (some 33)), .inl w]) (q := []) hM_33 d_33_2 rfl (by decide +kernel) hM_19 rfl rfl rfl (Nat.le_of_ble_eq_true rfl) (Nat.le_of_ble_eq_true rfl) (Or.inr rfl) (ok_rnk (zi_19 (m := m) (w := w) hz1) hfx) (Nat.le_of_ble_eq_true rfl) ?_
    show rn fx 7 (0, 0) 33 5 [some (.inr (.inr (some 33))), some (.inl w)] [.inl (if m 33 4 = 1 ∧ cwn m = w then 1 else 0)] (st0 m) o
    exact hk
  refine ok_if (pc' := 10) (pc2 := 8) hM_33 d_33_5 (by decide) rfl (fun hz2 => ?_) (fun hz2 => ?_)
  · have H := H.1 (as_iteN.mp hz2)
    obtain ⟨hz3, H⟩ := H
    refine ok_sg (pc' := 11) (ls' := [some (.inr (.inr (some 33))), some (.inl w)]) (st' := [.inr (.inr (some 33))]) (m' := m) (fun fx hfx o hk => ?_) ?_
    · refine r_ld (pc' := 11) hM_33 d_33_10 rfl rfl ?_
      exact hk
    refine ok_cl (pc' := 14) (c := (15, 0)) (a := [.inr (.inr (some 33))]) (q := []) hM_33 d_33_11 rfl (by decide +kernel) hM_15 rfl rfl rfl (Nat.le_of_ble_eq_true rfl) (Nat.le_of_ble_eq_true rfl) (Or.inr rfl) (z_15  m  hz3) (Nat.le_of_ble_eq_true rfl) ?_
    rintro _ m1 ⟨rfl, hz4⟩
    replace H := H  m1 hz4
    show ok 7 33 14 [some (.inr (.inr (some 33))), some (.inl w)] [] m1 Q
    refine ok_sg (pc' := 15) (ls' := [some (.inr (.inr (some 33))), some (.inl w)]) (st' := [.inl 1]) (m' := m1) (fun fx hfx o hk => ?_) ?_
    · refine r_k (pc' := 15) (v := .inl 1) hM_33 d_33_14 rfl rfl ?_
      exact hk
    exact ok_rt (fun fx _ => rt_z hM_33 d_33_15 rfl (by decide)) H
  · have H := H.2 (as_ite.mp (Decidable.not_not.mp hz2))
    refine ok_sg (pc' := 9) (ls' := [some (.inr (.inr (some 33))), some (.inl w)]) (st' := [.inl 0]) (m' := m) (fun fx hfx o hk => ?_) ?_
    · refine r_k (pc' := 9) (v := .inl 0) hM_33 d_33_8 rfl rfl ?_
      exact hk
    exact ok_rt (fun fx _ => rt_z hM_33 d_33_9 rfl (by decide)) H
theorem z_32   (m : am_M) (lo : Int) (hi : Int) (hq : RV m ∧ (0 ≤ lo ∧ lo ≤ 100) ∧ 0 ≤ hi ∧ hi ≤ 100) : ok 7 32 0 (am_ent 4 [.inr (.inr (some 33)), .inl lo, .inl hi]) [] m (fun rr m' => ∃ v' : Int, rr = [.inl (v')] ∧ ((∃ (x : Int) (t : TKN), NR (m 1) (m 33 2).toNat (ctok m) lo hi = .inr (x, t) ∧ v' = x ∧ (0 ≤ x ∧ x ≤ 999) ∧ ctok m' = t ∧ RV m' ∧ frT m m') ∨ (∃ f : Int × Int, NR (m 1) (m 33 2).toNat (ctok m) lo hi = .inl f ∧ v' = -1 ∧ m' 33 7 = f.1 ∧ m' 33 8 = f.2 ∧ frF m m'))) := by
  show ok 7 32 0 [some (.inr (.inr (some 33))), some (.inl lo), some (.inl hi), none] [] m _
  obtain ⟨hR, hlo, hhi⟩ := hq
  obtain ⟨hRD, h5, h4, h6a, h6b⟩ := id hR
  have hc := ckd_c hR
  refine u_32_0 ?_
  rw [am_s_id (z := m 33 4) (by omega) (by omega), am_s_id (z := lo) (by omega) (by omega), am_s_id (z := hi) (by omega) (by omega)]
  refine ⟨fun q => ?_, fun q => ⟨hR, ?_⟩⟩
  · have hk : ckd m = 12 := by omega
    have hnum := h6b q
    have hv : (ctok m).2.2.1 = m 33 6 := by
      show (if ckd m = 12 then m 33 6 else 0) = _
      rw [if_pos hk]
    rw [am_s_id (z := m 33 6) (by omega) (by omega)]
    refine ⟨fun q2 => ⟨hR, ?_⟩, fun q2 => ⟨fun q3 => ⟨hRD, ?_⟩, fun q3 => ⟨hR, ?_⟩⟩⟩
    · rintro mx ⟨a1, a2, a3⟩
      exact ⟨_, rfl, Or.inr ⟨_, NR_3 hk (by rw [hv]; omega), rfl, a1, a2, a3⟩⟩
    · rintro mx ⟨a1, a2, a3⟩
      refine ⟨_, rfl, Or.inl ⟨_, _, NR_y hk (by rw [hv]; omega), hv.symm, by rw [hv]; exact hnum, a1, a2, a3⟩⟩
    · rintro mx ⟨a1, a2, a3⟩
      exact ⟨_, rfl, Or.inr ⟨_, NR_3 hk (by rw [hv]; omega), rfl, a1, a2, a3⟩⟩
  · rintro mx ⟨a1, a2, a3⟩
    have hk : ¬ ckd m = 12 := by omega
    exact ⟨_, rfl, Or.inr ⟨_, NR_2 hk, rfl, a1, a2, a3⟩⟩
theorem z_33   (m : am_M) (w : Int) (hq : RV m ∧ 0 ≤ w ∧ w ≤ 10) : ok 7 33 0 (am_ent 2 [.inr (.inr (some 33)), .inl w]) [] m (fun rr m' => ∃ v' : Int, rr = [.inl (v')] ∧ (ckd m = mkw w → v' = 1 ∧ ctok m' = tok (m 1) (m 33 2).toNat (ctok m).2.2.2 ∧ RV m' ∧ frT m m') ∧ (¬ ckd m = mkw w → v' = 0 ∧ m' = m)) := by
  show ok 7 33 0 [some (.inr (.inr (some 33))), some (.inl w)] [] m _
  obtain ⟨hR, hw⟩ := hq
  obtain ⟨hRD, h5, h4, h6a, h6b⟩ := id hR
  have hc := ckd_c hR
  have hwr := mkw_r (w := w) (by omega)
  refine u_33_0 ⟨⟨hR, hw⟩, fun q => ⟨hRD, ?_⟩, fun q => ⟨_, rfl, fun hx => ?_, fun _ => ⟨rfl, rfl⟩⟩⟩
  · rintro mx ⟨a1, a2, a3⟩
    have hk : ckd m = mkw (cwn m) := by omega
    exact ⟨_, rfl, fun _ => ⟨rfl, a1, a2, a3⟩, fun hx => absurd (by rw [hk, q.2]) hx⟩
  · exfalso
    have hk1 : m 33 4 = 1 := by omega
    have h6 := h6a hk1
    have hk : ckd m = mkw (cwn m) := by omega
    exact q ⟨hk1, mkw_i h6 (by omega) (by rw [← hk]; exact hx)⟩
theorem u_31_97 {Q : List am_V → am_M → Prop} {m : am_M} {s : Int} {r : Int} {i : Int} {k : Int}  (H : (q_34 m 7 (m 7 4) k s r i) ∧ (Q [.inl 1] (mu (w_34 m 7 (m 7 4) k s r i) 7 4 (((w_34 m 7 (m 7 4) k s r i) 7 4) + 1)))) : ok 8 31 97 [some (.inr (.inr (some 33))), some (.inl s), some (.inl r), some (.inl i), some (.inl k)] [] m Q := by
  obtain ⟨hz1, H⟩ := H
  refine ok_sg (pc' := 130) (ls' := [some (.inr (.inr (some 33))), some (.inl s), some (.inl r), some (.inl i), some (.inl k)]) (st' := [.inl 1]) (m' := mu (w_34 m 7 (m 7 4) k s r i) 7 4 (((w_34 m 7 (m 7 4) k s r i) 7 4) + 1)) (fun fx hfx o hk => ?_) ?_
  · refine r_ld (pc' := 98) hM_31 d_31_97 rfl rfl ?_
    refine r_gR (pc' := 101) (v := 7) hM_31 d_31_98 rfl (by decide +kernel) ?_
    refine r_ld (pc' := 102) hM_31 d_31_101 rfl rfl ?_
    refine r_gR (pc' := 105) (v := 7) hM_31 d_31_102 rfl (by decide +kernel) ?_
    refine r_gI (pc' := 108) (k0 := 4) hM_31 d_31_105 rfl (by decide +kernel) ?_
    refine r_ld (pc' := 110) hM_31 d_31_108 rfl rfl ?_
    refine r_ld (pc' := 111) hM_31 d_31_110 rfl rfl ?_
    refine r_ld (pc' := 112) hM_31 d_31_111 rfl rfl ?_
    refine r_ld (pc' := 113) hM_31 d_31_112 rfl rfl ?_
    refine r_cl (pc' := 116) (c := (34, 0)) (a := [.inr (.inr (some 7)), .inl (m 7 4), .inl k, .inl s, .inl r, .inl i]) (q := []) hM_31 d_31_113 rfl (by decide +kernel) hM_34 rfl rfl rfl (Nat.le_of_ble_eq_true rfl) (Nat.le_of_ble_eq_true rfl) (Or.inr rfl) (c_34 (by decide) m (m 7 4) k s r i hz1) (Nat.le_of_ble_eq_true rfl) ?_
    show rn fx 8 (0, 0) 31 116 [some (.inr (.inr (some 33))), some (.inl s), some (.inl r), some (.inl i), some (.inl k)] [] (st0 (w_34 m 7 (m 7 4) k s r i)) o
    refine r_ld (pc' := 117) hM_31 d_31_116 rfl rfl ?_
    refine r_gR (pc' := 120) (v := 7) hM_31 d_31_117 rfl (by decide +kernel) ?_
    refine r_stk (pc' := 121) (st' := [.inr (.inr (some 7)), .inr (.inr (some 7))]) hM_31 d_31_120 rfl rfl ?_
    refine r_gI (pc' := 124) (k0 := 4) hM_31 d_31_121 rfl (by decide +kernel) ?_
    refine r_k (pc' := 125) (v := .inl 1) hM_31 d_31_124 rfl rfl ?_
    refine r_b (pc' := 126) (z := (((w_34 m 7 (m 7 4) k s r i) 7 4) + 1)) hM_31 d_31_125 rfl rfl ?_
    refine r_pI (pc' := 129) (k0 := 4) hM_31 d_31_126 rfl (by decide +kernel) ?_
    refine r_k (pc' := 130) (v := .inl 1) hM_31 d_31_129 rfl rfl ?_
    exact hk
  exact ok_rt (fun fx _ => rt_z hM_31 d_31_130 rfl (by decide)) H
theorem u_31_62 {Q : List am_V → am_M → Prop} {m : am_M} {s : Int} {r : Int} {i : Int}  (H : ((0 ≤ am_s i) → (RV m ∧ 0 ≤ (9 : Int) ∧ (9 : Int) ≤ 10) ∧ (∀ (v1 : Int) (m1 : am_M), ((ckd m = mkw 9 → v1 = 1 ∧ ctok m1 = tok (m 1) (m 33 2).toNat (ctok m).2.2.2 ∧ RV m1 ∧ frT m m1) ∧ (¬ ckd m = mkw 9 → v1 = 0 ∧ m1 = m)) → ((am_s v1 = 0) → (RV m1 ∧ 0 ≤ (10 : Int) ∧ (10 : Int) ≤ 10) ∧ (∀ (v2 : Int) (m2 : am_M), ((ckd m1 = mkw 10 → v2 = 1 ∧ ctok m2 = tok (m1 1) (m1 33 2).toNat (ctok m1).2.2.2 ∧ RV m2 ∧ frT m1 m2) ∧ (¬ ckd m1 = mkw 10 → v2 = 0 ∧ m2 = m1)) → ok 8 31 97 [some (.inr (.inr (some 33))), some (.inl s), some (.inl r), some (.inl i), some (.inl (if am_s v2 = 0 then 0 else 2))] [] m2 Q)) ∧ ((¬ (am_s v1 = 0)) → ok 8 31 97 [some (.inr (.inr (some 33))), some (.inl s), some (.inl r), some (.inl i), some (.inl 1)] [] m1 Q))) ∧ ((¬ (0 ≤ am_s i)) → Q [.inl 0] m)) : ok 8 31 62 [some (.inr (.inr (some 33))), some (.inl s), some (.inl r), some (.inl i), none] [] m Q := by
  refine ok_sg (pc' := 63) (ls' := [some (.inr (.inr (some 33))), some (.inl s), some (.inl r), some (.inl i), none]) (st' := [.inl i]) (m' := m) (fun fx hfx o hk => ?_) ?_
  · refine r_ld (pc' := 63) hM_31 d_31_62 rfl rfl ?_
    exact hk
  refine ok_if (pc' := 68) (pc2 := 66) hM_31 d_31_63 (by decide) rfl (fun hz1 => ?_) (fun hz1 => ?_)
  · have H := H.1 hz1
    obtain ⟨hz2, H⟩ := H
    refine ok_sg (pc' := 71) (ls' := [some (.inr (.inr (some 33))), some (.inl s), some (.inl r), some (.inl i), none]) (st' := [.inl 9, .inr (.inr (some 33))]) (m' := m) (fun fx hfx o hk => ?_) ?_
    · refine r_ld (pc' := 69) hM_31 d_31_68 rfl rfl ?_
      refine r_k (pc' := 71) (v := .inl 9) hM_31 d_31_69 rfl rfl ?_
      exact hk
    refine ok_cl (pc' := 74) (c := (33, 0)) (a := [.inr (.inr (some 33)), .inl 9]) (q := []) hM_31 d_31_71 rfl (by decide +kernel) hM_33 rfl rfl rfl (Nat.le_of_ble_eq_true rfl) (Nat.le_of_ble_eq_true rfl) (Or.inr rfl) (z_33  m 9 hz2) (Nat.le_of_ble_eq_true rfl) ?_
    rintro _ m1 ⟨v1, rfl, hz3⟩
    replace H := H v1 m1 hz3
    show ok 8 31 74 [some (.inr (.inr (some 33))), some (.inl s), some (.inl r), some (.inl i), none] [.inl v1] m1 Q
    refine ok_if (pc' := 81) (pc2 := 77) hM_31 d_31_74 (by decide) rfl (fun hz4 => ?_) (fun hz4 => ?_)
    · have H := H.1 hz4
      obtain ⟨hz5, H⟩ := H
      refine ok_sg (pc' := 84) (ls' := [some (.inr (.inr (some 33))), some (.inl s), some (.inl r), some (.inl i), none]) (st' := [.inl 10, .inr (.inr (some 33))]) (m' := m1) (fun fx hfx o hk => ?_) ?_
      · refine r_ld (pc' := 82) hM_31 d_31_81 rfl rfl ?_
        refine r_k (pc' := 84) (v := .inl 10) hM_31 d_31_82 rfl rfl ?_
        exact hk
      refine ok_cl (pc' := 87) (c := (33, 0)) (a := [.inr (.inr (some 33)), .inl 10]) (q := []) hM_31 d_31_84 rfl (by decide +kernel) hM_33 rfl rfl rfl (Nat.le_of_ble_eq_true rfl) (Nat.le_of_ble_eq_true rfl) (Or.inr rfl) (z_33  m1 10 hz5) (Nat.le_of_ble_eq_true rfl) ?_
      rintro _ m2 ⟨v2, rfl, hz6⟩
      replace H := H v2 m2 hz6
      show ok 8 31 87 [some (.inr (.inr (some 33))), some (.inl s), some (.inl r), some (.inl i), none] [.inl v2] m2 Q
      refine ok_sg (pc' := 95) (ls' := [some (.inr (.inr (some 33))), some (.inl s), some (.inl r), some (.inl i), none]) (st' := [.inl (if am_s v2 = 0 then 0 else 2)]) (m' := m2) (fun fx hfx o K => ?_) ?_
      · refine r_if (pc' := 94) (pc2 := 90) hM_31 d_31_87 (by decide) rfl (fun hz7 => ?_) (fun hz7 => ?_)
        · have hz7 : am_s v2 = 0 := hz7
          rw [if_pos hz7] at K
          refine r_k (pc' := 95) (v := .inl 0) hM_31 d_31_94 rfl rfl ?_
          exact K
        · have hz7 : ¬ (am_s v2 = 0) := hz7
          rw [if_neg hz7] at K
          refine r_k (pc' := 91) (v := .inl 2) hM_31 d_31_90 rfl rfl ?_
          refine r_go (pc' := 95) hM_31 d_31_91 (by decide) ?_
          exact K
      refine ok_sg (pc' := 97) (ls' := [some (.inr (.inr (some 33))), some (.inl s), some (.inl r), some (.inl i), some (.inl (if am_s v2 = 0 then 0 else 2))]) (st' := []) (m' := m2) (fun fx hfx o hk => ?_) ?_
      · refine r_sto (pc' := 97) (ls' := [some (.inr (.inr (some 33))), some (.inl s), some (.inl r), some (.inl i), some (.inl (if am_s v2 = 0 then 0 else 2))]) hM_31 d_31_95 rfl rfl ?_
        exact hk
      exact H
    · have H := H.2 hz4
      refine ok_sg (pc' := 97) (ls' := [some (.inr (.inr (some 33))), some (.inl s), some (.inl r), some (.inl i), some (.inl 1)]) (st' := []) (m' := m1) (fun fx hfx o hk => ?_) ?_
      · refine r_k (pc' := 78) (v := .inl 1) hM_31 d_31_77 rfl rfl ?_
        refine r_go (pc' := 95) hM_31 d_31_78 (by decide) ?_
        refine r_sto (pc' := 97) (ls' := [some (.inr (.inr (some 33))), some (.inl s), some (.inl r), some (.inl i), some (.inl 1)]) hM_31 d_31_95 rfl rfl ?_
        exact hk
      exact H
  · have H := H.2 hz1
    refine ok_sg (pc' := 67) (ls' := [some (.inr (.inr (some 33))), some (.inl s), some (.inl r), some (.inl i), none]) (st' := [.inl 0]) (m' := m) (fun fx hfx o hk => ?_) ?_
    · refine r_k (pc' := 67) (v := .inl 0) hM_31 d_31_66 rfl rfl ?_
      exact hk
    exact ok_rt (fun fx _ => rt_z hM_31 d_31_67 rfl (by decide)) H
theorem u_31_35 {Q : List am_V → am_M → Prop} {m : am_M} {s : Int} {r : Int}  (H : ((0 ≤ am_s r) → (RV m ∧ 0 ≤ (8 : Int) ∧ (8 : Int) ≤ 10) ∧ (∀ (v1 : Int) (m1 : am_M), ((ckd m = mkw 8 → v1 = 1 ∧ ctok m1 = tok (m 1) (m 33 2).toNat (ctok m).2.2.2 ∧ RV m1 ∧ frT m m1) ∧ (¬ ckd m = mkw 8 → v1 = 0 ∧ m1 = m)) → ((am_s v1 = 0) → ok 8 31 62 [some (.inr (.inr (some 33))), some (.inl s), some (.inl r), some (.inl 0), none] [] m1 Q) ∧ ((¬ (am_s v1 = 0)) → (RV m1 ∧ (0 ≤ (0 : Int) ∧ (0 : Int) ≤ 100) ∧ 0 ≤ (9 : Int) ∧ (9 : Int) ≤ 100) ∧ (∀ (v2 : Int) (m2 : am_M), (((∃ (x : Int) (t : TKN), NR (m1 1) (m1 33 2).toNat (ctok m1) 0 9 = .inr (x, t) ∧ v2 = x ∧ (0 ≤ x ∧ x ≤ 999) ∧ ctok m2 = t ∧ RV m2 ∧ frT m1 m2) ∨ (∃ f : Int × Int, NR (m1 1) (m1 33 2).toNat (ctok m1) 0 9 = .inl f ∧ v2 = -1 ∧ m2 33 7 = f.1 ∧ m2 33 8 = f.2 ∧ frF m1 m2))) → ok 8 31 62 [some (.inr (.inr (some 33))), some (.inl s), some (.inl r), some (.inl v2), none] [] m2 Q)))) ∧ ((¬ (0 ≤ am_s r)) → Q [.inl 0] m)) : ok 8 31 35 [some (.inr (.inr (some 33))), some (.inl s), some (.inl r), none, none] [] m Q := by
  refine ok_sg (pc' := 36) (ls' := [some (.inr (.inr (some 33))), some (.inl s), some (.inl r), none, none]) (st' := [.inl r]) (m' := m) (fun fx hfx o hk => ?_) ?_
  · refine r_ld (pc' := 36) hM_31 d_31_35 rfl rfl ?_
    exact hk
  refine ok_if (pc' := 41) (pc2 := 39) hM_31 d_31_36 (by decide) rfl (fun hz1 => ?_) (fun hz1 => ?_)
  · have H := H.1 hz1
    obtain ⟨hz2, H⟩ := H
    refine ok_sg (pc' := 44) (ls' := [some (.inr (.inr (some 33))), some (.inl s), some (.inl r), none, none]) (st' := [.inl 8, .inr (.inr (some 33))]) (m' := m) (fun fx hfx o hk => ?_) ?_
    · refine r_ld (pc' := 42) hM_31 d_31_41 rfl rfl ?_
      refine r_k (pc' := 44) (v := .inl 8) hM_31 d_31_42 rfl rfl ?_
      exact hk
    refine ok_cl (pc' := 47) (c := (33, 0)) (a := [.inr (.inr (some 33)), .inl 8]) (q := []) hM_31 d_31_44 rfl (by decide +kernel) hM_33 rfl rfl rfl (Nat.le_of_ble_eq_true rfl) (Nat.le_of_ble_eq_true rfl) (Or.inr rfl) (z_33  m 8 hz2) (Nat.le_of_ble_eq_true rfl) ?_
    rintro _ m1 ⟨v1, rfl, hz3⟩
    replace H := H v1 m1 hz3
    show ok 8 31 47 [some (.inr (.inr (some 33))), some (.inl s), some (.inl r), none, none] [.inl v1] m1 Q
    refine ok_if (pc' := 60) (pc2 := 50) hM_31 d_31_47 (by decide) rfl (fun hz4 => ?_) (fun hz4 => ?_)
    · have H := H.1 hz4
      refine ok_sg (pc' := 62) (ls' := [some (.inr (.inr (some 33))), some (.inl s), some (.inl r), some (.inl 0), none]) (st' := []) (m' := m1) (fun fx hfx o hk => ?_) ?_
      · refine r_k (pc' := 61) (v := .inl 0) hM_31 d_31_60 rfl rfl ?_
        refine r_sto (pc' := 62) (ls' := [some (.inr (.inr (some 33))), some (.inl s), some (.inl r), some (.inl 0), none]) hM_31 d_31_61 rfl rfl ?_
        exact hk
      exact H
    · have H := H.2 hz4
      obtain ⟨hz5, H⟩ := H
      refine ok_sg (pc' := 54) (ls' := [some (.inr (.inr (some 33))), some (.inl s), some (.inl r), none, none]) (st' := [.inl 9, .inl 0, .inr (.inr (some 33))]) (m' := m1) (fun fx hfx o hk => ?_) ?_
      · refine r_ld (pc' := 51) hM_31 d_31_50 rfl rfl ?_
        refine r_k (pc' := 52) (v := .inl 0) hM_31 d_31_51 rfl rfl ?_
        refine r_k (pc' := 54) (v := .inl 9) hM_31 d_31_52 rfl rfl ?_
        exact hk
      refine ok_cl (pc' := 57) (c := (32, 0)) (a := [.inr (.inr (some 33)), .inl 0, .inl 9]) (q := []) hM_31 d_31_54 rfl (by decide +kernel) hM_32 rfl rfl rfl (Nat.le_of_ble_eq_true rfl) (Nat.le_of_ble_eq_true rfl) (Or.inr rfl) (z_32  m1 0 9 hz5) (Nat.le_of_ble_eq_true rfl) ?_
      rintro _ m2 ⟨v2, rfl, hz6⟩
      replace H := H v2 m2 hz6
      show ok 8 31 57 [some (.inr (.inr (some 33))), some (.inl s), some (.inl r), none, none] [.inl v2] m2 Q
      refine ok_sg (pc' := 62) (ls' := [some (.inr (.inr (some 33))), some (.inl s), some (.inl r), some (.inl v2), none]) (st' := []) (m' := m2) (fun fx hfx o hk => ?_) ?_
      · refine r_go (pc' := 61) hM_31 d_31_57 (by decide) ?_
        refine r_sto (pc' := 62) (ls' := [some (.inr (.inr (some 33))), some (.inl s), some (.inl r), some (.inl v2), none]) hM_31 d_31_61 rfl rfl ?_
        exact hk
      exact H
  · have H := H.2 hz1
    refine ok_sg (pc' := 40) (ls' := [some (.inr (.inr (some 33))), some (.inl s), some (.inl r), none, none]) (st' := [.inl 0]) (m' := m) (fun fx hfx o hk => ?_) ?_
    · refine r_k (pc' := 40) (v := .inl 0) hM_31 d_31_39 rfl rfl ?_
      exact hk
    exact ok_rt (fun fx _ => rt_z hM_31 d_31_40 rfl (by decide)) H
theorem u_31_0 {Q : List am_V → am_M → Prop} {m : am_M}   (H : (RV m ∧ (0 ≤ (1 : Int) ∧ (1 : Int) ≤ 100) ∧ 0 ≤ (9 : Int) ∧ (9 : Int) ≤ 100) ∧ (∀ (v1 : Int) (m1 : am_M), (((∃ (x : Int) (t : TKN), NR (m 1) (m 33 2).toNat (ctok m) 1 9 = .inr (x, t) ∧ v1 = x ∧ (0 ≤ x ∧ x ≤ 999) ∧ ctok m1 = t ∧ RV m1 ∧ frT m m1) ∨ (∃ f : Int × Int, NR (m 1) (m 33 2).toNat (ctok m) 1 9 = .inl f ∧ v1 = -1 ∧ m1 33 7 = f.1 ∧ m1 33 8 = f.2 ∧ frF m m1))) → ((0 ≤ am_s v1) → (RV m1 ∧ 0 ≤ (7 : Int) ∧ (7 : Int) ≤ 10) ∧ (∀ (v2 : Int) (m2 : am_M), ((ckd m1 = mkw 7 → v2 = 1 ∧ ctok m2 = tok (m1 1) (m1 33 2).toNat (ctok m1).2.2.2 ∧ RV m2 ∧ frT m1 m2) ∧ (¬ ckd m1 = mkw 7 → v2 = 0 ∧ m2 = m1)) → ((am_s v2 = 0) → ok 8 31 35 [some (.inr (.inr (some 33))), some (.inl v1), some (.inl 0), none, none] [] m2 Q) ∧ ((¬ (am_s v2 = 0)) → (RV m2 ∧ (0 ≤ (0 : Int) ∧ (0 : Int) ≤ 100) ∧ 0 ≤ (100 : Int) ∧ (100 : Int) ≤ 100) ∧ (∀ (v3 : Int) (m3 : am_M), (((∃ (x : Int) (t : TKN), NR (m2 1) (m2 33 2).toNat (ctok m2) 0 100 = .inr (x, t) ∧ v3 = x ∧ (0 ≤ x ∧ x ≤ 999) ∧ ctok m3 = t ∧ RV m3 ∧ frT m2 m3) ∨ (∃ f : Int × Int, NR (m2 1) (m2 33 2).toNat (ctok m2) 0 100 = .inl f ∧ v3 = -1 ∧ m3 33 7 = f.1 ∧ m3 33 8 = f.2 ∧ frF m2 m3))) → ok 8 31 35 [some (.inr (.inr (some 33))), some (.inl v1), some (.inl v3), none, none] [] m3 Q)))) ∧ ((¬ (0 ≤ am_s v1)) → Q [.inl 0] m1))) : ok 8 31 0 [some (.inr (.inr (some 33))), none, none, none, none] [] m Q := by
  obtain ⟨hz1, H⟩ := H
  refine ok_sg (pc' := 4) (ls' := [some (.inr (.inr (some 33))), none, none, none, none]) (st' := [.inl 9, .inl 1, .inr (.inr (some 33))]) (m' := m) (fun fx hfx o hk => ?_) ?_
  · refine r_ld (pc' := 1) hM_31 d_31_0 rfl rfl ?_
    refine r_k (pc' := 2) (v := .inl 1) hM_31 d_31_1 rfl rfl ?_
    refine r_k (pc' := 4) (v := .inl 9) hM_31 d_31_2 rfl rfl ?_
    exact hk
  refine ok_cl (pc' := 7) (c := (32, 0)) (a := [.inr (.inr (some 33)), .inl 1, .inl 9]) (q := []) hM_31 d_31_4 rfl (by decide +kernel) hM_32 rfl rfl rfl (Nat.le_of_ble_eq_true rfl) (Nat.le_of_ble_eq_true rfl) (Or.inr rfl) (z_32  m 1 9 hz1) (Nat.le_of_ble_eq_true rfl) ?_
  rintro _ m1 ⟨v1, rfl, hz2⟩
  replace H := H v1 m1 hz2
  show ok 8 31 7 [some (.inr (.inr (some 33))), none, none, none, none] [.inl v1] m1 Q
  refine ok_sg (pc' := 9) (ls' := [some (.inr (.inr (some 33))), some (.inl v1), none, none, none]) (st' := [.inl v1]) (m' := m1) (fun fx hfx o hk => ?_) ?_
  · refine r_sto (pc' := 8) (ls' := [some (.inr (.inr (some 33))), some (.inl v1), none, none, none]) hM_31 d_31_7 rfl rfl ?_
    refine r_ld (pc' := 9) hM_31 d_31_8 rfl rfl ?_
    exact hk
  refine ok_if (pc' := 14) (pc2 := 12) hM_31 d_31_9 (by decide) rfl (fun hz3 => ?_) (fun hz3 => ?_)
  · have H := H.1 hz3
    obtain ⟨hz4, H⟩ := H
    refine ok_sg (pc' := 17) (ls' := [some (.inr (.inr (some 33))), some (.inl v1), none, none, none]) (st' := [.inl 7, .inr (.inr (some 33))]) (m' := m1) (fun fx hfx o hk => ?_) ?_
    · refine r_ld (pc' := 15) hM_31 d_31_14 rfl rfl ?_
      refine r_k (pc' := 17) (v := .inl 7) hM_31 d_31_15 rfl rfl ?_
      exact hk
    refine ok_cl (pc' := 20) (c := (33, 0)) (a := [.inr (.inr (some 33)), .inl 7]) (q := []) hM_31 d_31_17 rfl (by decide +kernel) hM_33 rfl rfl rfl (Nat.le_of_ble_eq_true rfl) (Nat.le_of_ble_eq_true rfl) (Or.inr rfl) (z_33  m1 7 hz4) (Nat.le_of_ble_eq_true rfl) ?_
    rintro _ m2 ⟨v2, rfl, hz5⟩
    replace H := H v2 m2 hz5
    show ok 8 31 20 [some (.inr (.inr (some 33))), some (.inl v1), none, none, none] [.inl v2] m2 Q
    refine ok_if (pc' := 33) (pc2 := 23) hM_31 d_31_20 (by decide) rfl (fun hz6 => ?_) (fun hz6 => ?_)
    · have H := H.1 hz6
      refine ok_sg (pc' := 35) (ls' := [some (.inr (.inr (some 33))), some (.inl v1), some (.inl 0), none, none]) (st' := []) (m' := m2) (fun fx hfx o hk => ?_) ?_
      · refine r_k (pc' := 34) (v := .inl 0) hM_31 d_31_33 rfl rfl ?_
        refine r_sto (pc' := 35) (ls' := [some (.inr (.inr (some 33))), some (.inl v1), some (.inl 0), none, none]) hM_31 d_31_34 rfl rfl ?_
        exact hk
      exact H
    · have H := H.2 hz6
      obtain ⟨hz7, H⟩ := H
      refine ok_sg (pc' := 27) (ls' := [some (.inr (.inr (some 33))), some (.inl v1), none, none, none]) (st' := [.inl 100, .inl 0, .inr (.inr (some 33))]) (m' := m2) (fun fx hfx o hk => ?_) ?_
      · refine r_ld (pc' := 24) hM_31 d_31_23 rfl rfl ?_
        refine r_k (pc' := 25) (v := .inl 0) hM_31 d_31_24 rfl rfl ?_
        refine r_k (pc' := 27) (v := .inl 100) hM_31 d_31_25 rfl rfl ?_
        exact hk
      refine ok_cl (pc' := 30) (c := (32, 0)) (a := [.inr (.inr (some 33)), .inl 0, .inl 100]) (q := []) hM_31 d_31_27 rfl (by decide +kernel) hM_32 rfl rfl rfl (Nat.le_of_ble_eq_true rfl) (Nat.le_of_ble_eq_true rfl) (Or.inr rfl) (z_32  m2 0 100 hz7) (Nat.le_of_ble_eq_true rfl) ?_
      rintro _ m3 ⟨v3, rfl, hz8⟩
      replace H := H v3 m3 hz8
      show ok 8 31 30 [some (.inr (.inr (some 33))), some (.inl v1), none, none, none] [.inl v3] m3 Q
      refine ok_sg (pc' := 35) (ls' := [some (.inr (.inr (some 33))), some (.inl v1), some (.inl v3), none, none]) (st' := []) (m' := m3) (fun fx hfx o hk => ?_) ?_
      · refine r_go (pc' := 34) hM_31 d_31_30 (by decide) ?_
        refine r_sto (pc' := 35) (ls' := [some (.inr (.inr (some 33))), some (.inl v1), some (.inl v3), none, none]) hM_31 d_31_34 rfl rfl ?_
        exact hk
      exact H
  · have H := H.2 hz3
    refine ok_sg (pc' := 13) (ls' := [some (.inr (.inr (some 33))), some (.inl v1), none, none, none]) (st' := [.inl 0]) (m' := m1) (fun fx hfx o hk => ?_) ?_
    · refine r_k (pc' := 13) (v := .inl 0) hM_31 d_31_12 rfl rfl ?_
      exact hk
    exact ok_rt (fun fx _ => rt_z hM_31 d_31_13 rfl (by decide)) H
theorem u_35_0 {Q : List am_V → am_M → Prop} {m : am_M}   (H : (q_34 m 7 (m 7 4) 3 0 0 0) ∧ (Q [.inl 1] (mu (w_34 m 7 (m 7 4) 3 0 0 0) 7 4 (((w_34 m 7 (m 7 4) 3 0 0 0) 7 4) + 1)))) : ok 1 35 0 [some (.inr (.inr (some 33)))] [] m Q := by
  obtain ⟨hz1, H⟩ := H
  refine ok_sg (pc' := 32) (ls' := [some (.inr (.inr (some 33)))]) (st' := [.inl 1]) (m' := mu (w_34 m 7 (m 7 4) 3 0 0 0) 7 4 (((w_34 m 7 (m 7 4) 3 0 0 0) 7 4) + 1)) (fun fx hfx o hk => ?_) ?_
  · refine r_ld (pc' := 1) hM_35 d_35_0 rfl rfl ?_
    refine r_gR (pc' := 4) (v := 7) hM_35 d_35_1 rfl (by decide +kernel) ?_
    refine r_ld (pc' := 5) hM_35 d_35_4 rfl rfl ?_
    refine r_gR (pc' := 8) (v := 7) hM_35 d_35_5 rfl (by decide +kernel) ?_
    refine r_gI (pc' := 11) (k0 := 4) hM_35 d_35_8 rfl (by decide +kernel) ?_
    refine r_k (pc' := 12) (v := .inl 3) hM_35 d_35_11 rfl rfl ?_
    refine r_k (pc' := 13) (v := .inl 0) hM_35 d_35_12 rfl rfl ?_
    refine r_k (pc' := 14) (v := .inl 0) hM_35 d_35_13 rfl rfl ?_
    refine r_k (pc' := 15) (v := .inl 0) hM_35 d_35_14 rfl rfl ?_
    refine r_cl (pc' := 18) (c := (34, 0)) (a := [.inr (.inr (some 7)), .inl (m 7 4), .inl 3, .inl 0, .inl 0, .inl 0]) (q := []) hM_35 d_35_15 rfl (by decide +kernel) hM_34 rfl rfl rfl (Nat.le_of_ble_eq_true rfl) (Nat.le_of_ble_eq_true rfl) (Or.inr rfl) (c_34 (by decide) m (m 7 4) 3 0 0 0 hz1) (Nat.le_of_ble_eq_true rfl) ?_
    show rn fx 1 (0, 0) 35 18 [some (.inr (.inr (some 33)))] [] (st0 (w_34 m 7 (m 7 4) 3 0 0 0)) o
    refine r_ld (pc' := 19) hM_35 d_35_18 rfl rfl ?_
    refine r_gR (pc' := 22) (v := 7) hM_35 d_35_19 rfl (by decide +kernel) ?_
    refine r_stk (pc' := 23) (st' := [.inr (.inr (some 7)), .inr (.inr (some 7))]) hM_35 d_35_22 rfl rfl ?_
    refine r_gI (pc' := 26) (k0 := 4) hM_35 d_35_23 rfl (by decide +kernel) ?_
    refine r_k (pc' := 27) (v := .inl 1) hM_35 d_35_26 rfl rfl ?_
    refine r_b (pc' := 28) (z := (((w_34 m 7 (m 7 4) 3 0 0 0) 7 4) + 1)) hM_35 d_35_27 rfl rfl ?_
    refine r_pI (pc' := 31) (k0 := 4) hM_35 d_35_28 rfl (by decide +kernel) ?_
    refine r_k (pc' := 32) (v := .inl 1) hM_35 d_35_31 rfl rfl ?_
    exact hk
  exact ok_rt (fun fx _ => rt_z hM_35 d_35_32 rfl (by decide)) H
theorem u_36_0 {Q : List am_V → am_M → Prop} {m : am_M} {w : Int}  (H : ((am_s w < 0) → (RV m) ∧ (∀ (m1 : am_M), (m1 33 7 = (fk (ctok m) 2).1 ∧ m1 33 8 = (fk (ctok m) 2).2 ∧ frF m m1) → Q [.inl 0] m1)) ∧ ((¬ (am_s w < 0)) → ((am_s w < 5) → (0 ≤ am_s w ∧ am_s w < (5 : Nat)) ∧ ((RV m ∧ (0 ≤ (((fun j => ([1, 0, 1, 1, 0] : List Int).getD j 0)) (am_s w).toNat) ∧ (((fun j => ([1, 0, 1, 1, 0] : List Int).getD j 0)) (am_s w).toNat) ≤ 100) ∧ 0 ≤ (((fun j => ([40, 20, 12, 6, 9] : List Int).getD j 0)) (am_s w).toNat) ∧ (((fun j => ([40, 20, 12, 6, 9] : List Int).getD j 0)) (am_s w).toNat) ≤ 100) ∧ (∀ (v2 : Int) (m2 : am_M), (((∃ (x : Int) (t : TKN), NR (m 1) (m 33 2).toNat (ctok m) (((fun j => ([1, 0, 1, 1, 0] : List Int).getD j 0)) (am_s w).toNat) (((fun j => ([40, 20, 12, 6, 9] : List Int).getD j 0)) (am_s w).toNat) = .inr (x, t) ∧ v2 = x ∧ (0 ≤ x ∧ x ≤ 999) ∧ ctok m2 = t ∧ RV m2 ∧ frT m m2) ∨ (∃ f : Int × Int, NR (m 1) (m 33 2).toNat (ctok m) (((fun j => ([1, 0, 1, 1, 0] : List Int).getD j 0)) (am_s w).toNat) (((fun j => ([40, 20, 12, 6, 9] : List Int).getD j 0)) (am_s w).toNat) = .inl f ∧ v2 = -1 ∧ m2 33 7 = f.1 ∧ m2 33 8 = f.2 ∧ frF m m2))) → ((am_s w = 0) → Q [.inl (if am_s v2 < 0 then 0 else 1)] (mu m2 7 5 v2)) ∧ (((am_s w = 1) → Q [.inl (if am_s v2 < 0 then 0 else 1)] (mu m2 7 6 v2)) ∧ (((am_s w = 2) → Q [.inl (if am_s v2 < 0 then 0 else 1)] (mu m2 7 7 v2)) ∧ (((am_s w = 3) → Q [.inl (if am_s v2 < 0 then 0 else 1)] (mu m2 7 8 v2)) ∧ (((am_s w < 0 ∨ 3 < am_s w) → Q [.inl (if am_s v2 < 0 then 0 else 1)] (mu m2 7 9 v2))))))))) ∧ ((¬ (am_s w < 5)) → (RV m) ∧ (∀ (m3 : am_M), (m3 33 7 = (fk (ctok m) 2).1 ∧ m3 33 8 = (fk (ctok m) 2).2 ∧ frF m m3) → Q [.inl 0] m3)))) : ok 8 36 0 [some (.inr (.inr (some 33))), some (.inl w), none] [] m Q := by
  refine ok_sg (pc' := 1) (ls' := [some (.inr (.inr (some 33))), some (.inl w), none]) (st' := [.inl w]) (m' := m) (fun fx hfx o hk => ?_) ?_
  · refine r_ld (pc' := 1) hM_36 d_36_0 rfl rfl ?_
    exact hk
  refine ok_if (pc' := 12) (pc2 := 4) hM_36 d_36_1 (by decide) rfl (fun hz1 => ?_) (fun hz1 => ?_)
  · have H := H.1 hz1
    obtain ⟨hz2, H⟩ := H
    refine ok_sg (pc' := 14) (ls' := [some (.inr (.inr (some 33))), some (.inl w), none]) (st' := [.inl 2, .inr (.inr (some 33))]) (m' := m) (fun fx hfx o hk => ?_) ?_
    · refine r_ld (pc' := 13) hM_36 d_36_12 rfl rfl ?_
      refine r_k (pc' := 14) (v := .inl 2) hM_36 d_36_13 rfl rfl ?_
      exact hk
    refine ok_cl (pc' := 17) (c := (30, 0)) (a := [.inr (.inr (some 33)), .inl 2]) (q := []) hM_36 d_36_14 rfl (by decide +kernel) hM_30 rfl rfl rfl (Nat.le_of_ble_eq_true rfl) (Nat.le_of_ble_eq_true rfl) (Or.inr rfl) (z_30  m 2 hz2) (Nat.le_of_ble_eq_true rfl) ?_
    rintro _ m1 ⟨rfl, hz3⟩
    replace H := H  m1 hz3
    show ok 8 36 17 [some (.inr (.inr (some 33))), some (.inl w), none] [.inl 0] m1 Q
    exact ok_rt (fun fx _ => rt_z hM_36 d_36_17 rfl (by decide)) H
  · have H := H.2 hz1
    refine ok_sg (pc' := 9) (ls' := [some (.inr (.inr (some 33))), some (.inl w), none]) (st' := [.inl 5, .inl w]) (m' := m) (fun fx hfx o hk => ?_) ?_
    · refine r_ld (pc' := 5) hM_36 d_36_4 rfl rfl ?_
      refine r_k (pc' := 8) (v := .inr (.inr (some 1001))) hM_36 d_36_5 rfl (by decide +kernel) ?_
      refine r_alF (pc' := 9) (n := 5) hM_36 d_36_8 rfl (by decide) hfx.1 (by decide) ?_
      exact hk
    refine ok_ic (pc' := 18) (pc2 := 12) hM_36 d_36_9 (by decide) rfl (fun hz4 => ?_) (fun hz4 => ?_)
    · have H := H.1 hz4
      obtain ⟨hz5, H⟩ := H
      obtain ⟨hz6, H⟩ := H
      refine ok_sg (pc' := 29) (ls' := [some (.inr (.inr (some 33))), some (.inl w), none]) (st' := [.inl (((fun j => ([40, 20, 12, 6, 9] : List Int).getD j 0)) (am_s w).toNat), .inl (((fun j => ([1, 0, 1, 1, 0] : List Int).getD j 0)) (am_s w).toNat), .inr (.inr (some 33))]) (m' := m) (fun fx hfx o hk => ?_) ?_
      · refine r_ld (pc' := 19) hM_36 d_36_18 rfl rfl ?_
        refine r_k (pc' := 22) (v := .inr (.inr (some 1001))) hM_36 d_36_19 rfl (by decide +kernel) ?_
        refine r_ld (pc' := 23) hM_36 d_36_22 rfl rfl ?_
        refine r_iaF (pc' := 24) (n := 5) (f := (fun j => ([1, 0, 1, 1, 0] : List Int).getD j 0)) hM_36 d_36_23 rfl (by decide) hfx.1 hz5 ?_
        refine r_k (pc' := 27) (v := .inr (.inr (some 1002))) hM_36 d_36_24 rfl (by decide +kernel) ?_
        refine r_ld (pc' := 28) hM_36 d_36_27 rfl rfl ?_
        refine r_iaF (pc' := 29) (n := 5) (f := (fun j => ([40, 20, 12, 6, 9] : List Int).getD j 0)) hM_36 d_36_28 rfl (by decide) hfx.2.1 hz5 ?_
        exact hk
      refine ok_cl (pc' := 32) (c := (32, 0)) (a := [.inr (.inr (some 33)), .inl (((fun j => ([1, 0, 1, 1, 0] : List Int).getD j 0)) (am_s w).toNat), .inl (((fun j => ([40, 20, 12, 6, 9] : List Int).getD j 0)) (am_s w).toNat)]) (q := []) hM_36 d_36_29 rfl (by decide +kernel) hM_32 rfl rfl rfl (Nat.le_of_ble_eq_true rfl) (Nat.le_of_ble_eq_true rfl) (Or.inr rfl) (z_32  m (((fun j => ([1, 0, 1, 1, 0] : List Int).getD j 0)) (am_s w).toNat) (((fun j => ([40, 20, 12, 6, 9] : List Int).getD j 0)) (am_s w).toNat) hz6) (Nat.le_of_ble_eq_true rfl) ?_
      rintro _ m2 ⟨v2, rfl, hz7⟩
      replace H := H v2 m2 hz7
      show ok 8 36 32 [some (.inr (.inr (some 33))), some (.inl w), none] [.inl v2] m2 Q
      refine ok_sg (pc' := 34) (ls' := [some (.inr (.inr (some 33))), some (.inl w), some (.inl v2)]) (st' := [.inl w]) (m' := m2) (fun fx hfx o hk => ?_) ?_
      · refine r_sto (pc' := 33) (ls' := [some (.inr (.inr (some 33))), some (.inl w), some (.inl v2)]) hM_36 d_36_32 rfl rfl ?_
        refine r_ld (pc' := 34) hM_36 d_36_33 rfl rfl ?_
        exact hk
      by_cases hc : am_s w = 0
      · have H := H.1 hc
        refine ok_sg (pc' := 64) (ls' := [some (.inr (.inr (some 33))), some (.inl w), some (.inl v2)]) (st' := []) (m' := m2) (fun fx hfx o hk => ?_) ?_
        · refine r_tsI (pc' := 64) (off := 0) (t := 30) hM_36 d_36_34 (by rw [hc]; rfl) (by decide) rfl (by decide) ?_
          exact hk
        refine ok_sg (pc' := 117) (ls' := [some (.inr (.inr (some 33))), some (.inl w), some (.inl v2)]) (st' := [.inl v2]) (m' := mu m2 7 5 v2) (fun fx hfx o hk => ?_) ?_
        · refine r_ld (pc' := 65) hM_36 d_36_64 rfl rfl ?_
          refine r_gR (pc' := 68) (v := 7) hM_36 d_36_65 rfl (by decide +kernel) ?_
          refine r_ld (pc' := 69) hM_36 d_36_68 rfl rfl ?_
          refine r_pI (pc' := 72) (k0 := 5) hM_36 d_36_69 rfl (by decide +kernel) ?_
          refine r_go (pc' := 116) hM_36 d_36_72 (by decide) ?_
          refine r_ld (pc' := 117) hM_36 d_36_116 rfl rfl ?_
          exact hk
        refine ok_sg (pc' := 125) (ls' := [some (.inr (.inr (some 33))), some (.inl w), some (.inl v2)]) (st' := [.inl (if am_s v2 < 0 then 0 else 1)]) (m' := mu m2 7 5 v2) (fun fx hfx o K => ?_) ?_
        · refine r_if (pc' := 124) (pc2 := 120) hM_36 d_36_117 (by decide) rfl (fun hz8 => ?_) (fun hz8 => ?_)
          · have hz8 : am_s v2 < 0 := hz8
            rw [if_pos hz8] at K
            refine r_k (pc' := 125) (v := .inl 0) hM_36 d_36_124 rfl rfl ?_
            exact K
          · have hz8 : ¬ (am_s v2 < 0) := hz8
            rw [if_neg hz8] at K
            refine r_k (pc' := 121) (v := .inl 1) hM_36 d_36_120 rfl rfl ?_
            refine r_go (pc' := 125) hM_36 d_36_121 (by decide) ?_
            exact K
        refine ok_rt (fun fx _ => ?_) H
        refine rt_z hM_36 d_36_125 rfl ?_
        repeat' first | exact Or.inl rfl | exact Or.inr rfl | apply z01_ite
      replace H := H.2
      have hc0 := hc
      clear hc
      by_cases hc : am_s w = 1
      · have H := H.1 hc
        refine ok_sg (pc' := 75) (ls' := [some (.inr (.inr (some 33))), some (.inl w), some (.inl v2)]) (st' := []) (m' := m2) (fun fx hfx o hk => ?_) ?_
        · refine r_tsI (pc' := 75) (off := 1) (t := 41) hM_36 d_36_34 (by rw [hc]; rfl) (by decide) rfl (by decide) ?_
          exact hk
        refine ok_sg (pc' := 117) (ls' := [some (.inr (.inr (some 33))), some (.inl w), some (.inl v2)]) (st' := [.inl v2]) (m' := mu m2 7 6 v2) (fun fx hfx o hk => ?_) ?_
        · refine r_ld (pc' := 76) hM_36 d_36_75 rfl rfl ?_
          refine r_gR (pc' := 79) (v := 7) hM_36 d_36_76 rfl (by decide +kernel) ?_
          refine r_ld (pc' := 80) hM_36 d_36_79 rfl rfl ?_
          refine r_pI (pc' := 83) (k0 := 6) hM_36 d_36_80 rfl (by decide +kernel) ?_
          refine r_go (pc' := 116) hM_36 d_36_83 (by decide) ?_
          refine r_ld (pc' := 117) hM_36 d_36_116 rfl rfl ?_
          exact hk
        refine ok_sg (pc' := 125) (ls' := [some (.inr (.inr (some 33))), some (.inl w), some (.inl v2)]) (st' := [.inl (if am_s v2 < 0 then 0 else 1)]) (m' := mu m2 7 6 v2) (fun fx hfx o K => ?_) ?_
        · refine r_if (pc' := 124) (pc2 := 120) hM_36 d_36_117 (by decide) rfl (fun hz9 => ?_) (fun hz9 => ?_)
          · have hz9 : am_s v2 < 0 := hz9
            rw [if_pos hz9] at K
            refine r_k (pc' := 125) (v := .inl 0) hM_36 d_36_124 rfl rfl ?_
            exact K
          · have hz9 : ¬ (am_s v2 < 0) := hz9
            rw [if_neg hz9] at K
            refine r_k (pc' := 121) (v := .inl 1) hM_36 d_36_120 rfl rfl ?_
            refine r_go (pc' := 125) hM_36 d_36_121 (by decide) ?_
            exact K
        refine ok_rt (fun fx _ => ?_) H
        refine rt_z hM_36 d_36_125 rfl ?_
        repeat' first | exact Or.inl rfl | exact Or.inr rfl | apply z01_ite
      replace H := H.2
      have hc1 := hc
      clear hc
      by_cases hc : am_s w = 2
      · have H := H.1 hc
        refine ok_sg (pc' := 86) (ls' := [some (.inr (.inr (some 33))), some (.inl w), some (.inl v2)]) (st' := []) (m' := m2) (fun fx hfx o hk => ?_) ?_
        · refine r_tsI (pc' := 86) (off := 2) (t := 52) hM_36 d_36_34 (by rw [hc]; rfl) (by decide) rfl (by decide) ?_
          exact hk
        refine ok_sg (pc' := 117) (ls' := [some (.inr (.inr (some 33))), some (.inl w), some (.inl v2)]) (st' := [.inl v2]) (m' := mu m2 7 7 v2) (fun fx hfx o hk => ?_) ?_
        · refine r_ld (pc' := 87) hM_36 d_36_86 rfl rfl ?_
          refine r_gR (pc' := 90) (v := 7) hM_36 d_36_87 rfl (by decide +kernel) ?_
          refine r_ld (pc' := 91) hM_36 d_36_90 rfl rfl ?_
          refine r_pI (pc' := 94) (k0 := 7) hM_36 d_36_91 rfl (by decide +kernel) ?_
          refine r_go (pc' := 116) hM_36 d_36_94 (by decide) ?_
          refine r_ld (pc' := 117) hM_36 d_36_116 rfl rfl ?_
          exact hk
        refine ok_sg (pc' := 125) (ls' := [some (.inr (.inr (some 33))), some (.inl w), some (.inl v2)]) (st' := [.inl (if am_s v2 < 0 then 0 else 1)]) (m' := mu m2 7 7 v2) (fun fx hfx o K => ?_) ?_
        · refine r_if (pc' := 124) (pc2 := 120) hM_36 d_36_117 (by decide) rfl (fun hz10 => ?_) (fun hz10 => ?_)
          · have hz10 : am_s v2 < 0 := hz10
            rw [if_pos hz10] at K
            refine r_k (pc' := 125) (v := .inl 0) hM_36 d_36_124 rfl rfl ?_
            exact K
          · have hz10 : ¬ (am_s v2 < 0) := hz10
            rw [if_neg hz10] at K
            refine r_k (pc' := 121) (v := .inl 1) hM_36 d_36_120 rfl rfl ?_
            refine r_go (pc' := 125) hM_36 d_36_121 (by decide) ?_
            exact K
        refine ok_rt (fun fx _ => ?_) H
        refine rt_z hM_36 d_36_125 rfl ?_
        repeat' first | exact Or.inl rfl | exact Or.inr rfl | apply z01_ite
      replace H := H.2
      have hc2 := hc
      clear hc
      by_cases hc : am_s w = 3
      · have H := H.1 hc
        refine ok_sg (pc' := 97) (ls' := [some (.inr (.inr (some 33))), some (.inl w), some (.inl v2)]) (st' := []) (m' := m2) (fun fx hfx o hk => ?_) ?_
        · refine r_tsI (pc' := 97) (off := 3) (t := 63) hM_36 d_36_34 (by rw [hc]; rfl) (by decide) rfl (by decide) ?_
          exact hk
        refine ok_sg (pc' := 117) (ls' := [some (.inr (.inr (some 33))), some (.inl w), some (.inl v2)]) (st' := [.inl v2]) (m' := mu m2 7 8 v2) (fun fx hfx o hk => ?_) ?_
        · refine r_ld (pc' := 98) hM_36 d_36_97 rfl rfl ?_
          refine r_gR (pc' := 101) (v := 7) hM_36 d_36_98 rfl (by decide +kernel) ?_
          refine r_ld (pc' := 102) hM_36 d_36_101 rfl rfl ?_
          refine r_pI (pc' := 105) (k0 := 8) hM_36 d_36_102 rfl (by decide +kernel) ?_
          refine r_go (pc' := 116) hM_36 d_36_105 (by decide) ?_
          refine r_ld (pc' := 117) hM_36 d_36_116 rfl rfl ?_
          exact hk
        refine ok_sg (pc' := 125) (ls' := [some (.inr (.inr (some 33))), some (.inl w), some (.inl v2)]) (st' := [.inl (if am_s v2 < 0 then 0 else 1)]) (m' := mu m2 7 8 v2) (fun fx hfx o K => ?_) ?_
        · refine r_if (pc' := 124) (pc2 := 120) hM_36 d_36_117 (by decide) rfl (fun hz11 => ?_) (fun hz11 => ?_)
          · have hz11 : am_s v2 < 0 := hz11
            rw [if_pos hz11] at K
            refine r_k (pc' := 125) (v := .inl 0) hM_36 d_36_124 rfl rfl ?_
            exact K
          · have hz11 : ¬ (am_s v2 < 0) := hz11
            rw [if_neg hz11] at K
            refine r_k (pc' := 121) (v := .inl 1) hM_36 d_36_120 rfl rfl ?_
            refine r_go (pc' := 125) hM_36 d_36_121 (by decide) ?_
            exact K
        refine ok_rt (fun fx _ => ?_) H
        refine rt_z hM_36 d_36_125 rfl ?_
        repeat' first | exact Or.inl rfl | exact Or.inr rfl | apply z01_ite
      replace H := H.2
      have hc3 := hc
      clear hc
      have ho : am_s w < 0 ∨ 3 < am_s w := by omega
      replace H := H ho
      refine ok_sg (pc' := 108) (ls' := [some (.inr (.inr (some 33))), some (.inl w), some (.inl v2)]) (st' := []) (m' := m2) (fun fx hfx o hk => ?_) ?_
      · refine r_tsO (pc' := 108) hM_36 d_36_34 ho (by decide) ?_
        exact hk
      refine ok_sg (pc' := 117) (ls' := [some (.inr (.inr (some 33))), some (.inl w), some (.inl v2)]) (st' := [.inl v2]) (m' := mu m2 7 9 v2) (fun fx hfx o hk => ?_) ?_
      · refine r_ld (pc' := 109) hM_36 d_36_108 rfl rfl ?_
        refine r_gR (pc' := 112) (v := 7) hM_36 d_36_109 rfl (by decide +kernel) ?_
        refine r_ld (pc' := 113) hM_36 d_36_112 rfl rfl ?_
        refine r_pI (pc' := 116) (k0 := 9) hM_36 d_36_113 rfl (by decide +kernel) ?_
        refine r_ld (pc' := 117) hM_36 d_36_116 rfl rfl ?_
        exact hk
      refine ok_sg (pc' := 125) (ls' := [some (.inr (.inr (some 33))), some (.inl w), some (.inl v2)]) (st' := [.inl (if am_s v2 < 0 then 0 else 1)]) (m' := mu m2 7 9 v2) (fun fx hfx o K => ?_) ?_
      · refine r_if (pc' := 124) (pc2 := 120) hM_36 d_36_117 (by decide) rfl (fun hz12 => ?_) (fun hz12 => ?_)
        · have hz12 : am_s v2 < 0 := hz12
          rw [if_pos hz12] at K
          refine r_k (pc' := 125) (v := .inl 0) hM_36 d_36_124 rfl rfl ?_
          exact K
        · have hz12 : ¬ (am_s v2 < 0) := hz12
          rw [if_neg hz12] at K
          refine r_k (pc' := 121) (v := .inl 1) hM_36 d_36_120 rfl rfl ?_
          refine r_go (pc' := 125) hM_36 d_36_121 (by decide) ?_
          exact K
      refine ok_rt (fun fx _ => ?_) H
      refine rt_z hM_36 d_36_125 rfl ?_
      repeat' first | exact Or.inl rfl | exact Or.inr rfl | apply z01_ite
    · have H := H.2 hz4
      obtain ⟨hz13, H⟩ := H
      refine ok_sg (pc' := 14) (ls' := [some (.inr (.inr (some 33))), some (.inl w), none]) (st' := [.inl 2, .inr (.inr (some 33))]) (m' := m) (fun fx hfx o hk => ?_) ?_
      · refine r_ld (pc' := 13) hM_36 d_36_12 rfl rfl ?_
        refine r_k (pc' := 14) (v := .inl 2) hM_36 d_36_13 rfl rfl ?_
        exact hk
      refine ok_cl (pc' := 17) (c := (30, 0)) (a := [.inr (.inr (some 33)), .inl 2]) (q := []) hM_36 d_36_14 rfl (by decide +kernel) hM_30 rfl rfl rfl (Nat.le_of_ble_eq_true rfl) (Nat.le_of_ble_eq_true rfl) (Or.inr rfl) (z_30  m 2 hz13) (Nat.le_of_ble_eq_true rfl) ?_
      rintro _ m3 ⟨rfl, hz14⟩
      replace H := H  m3 hz14
      show ok 8 36 17 [some (.inr (.inr (some 33))), some (.inl w), none] [.inl 0] m3 Q
      exact ok_rt (fun fx _ => rt_z hM_36 d_36_17 rfl (by decide)) H
