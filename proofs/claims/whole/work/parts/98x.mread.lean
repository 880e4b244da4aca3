def WR (m : am_M) : Prop := 0 ≤ m 53 11 ∧ m 53 11 ≤ 4
def frW (m m' : am_M) : Prop := ∀ a k, ¬ (a = 53 ∧ (k = 11 ∨ k = 12)) → m' a k = m a k
def frG (m m' : am_M) : Prop := ∀ a k, ¬ (a = 53 ∧ (k = 6 ∨ k = 7 ∨ k = 9 ∨ k = 10 ∨ k = 11 ∨ k = 12)) → ¬ a = 57 → m' a k = m a k
theorem frM_G {m m' : am_M} (h : frM m m') : frG m m' := fun a k h1 _ => h a k (by omega)
theorem frW_G {m m' : am_M} (h : frW m m') : frG m m' := fun a k h1 _ => h a k (by omega)
theorem frM_t {m m1 m2 : am_M} (h1 : frM m m1) (h2 : frM m1 m2) : frM m m2 := fun a k hk => by rw [h2 a k hk, h1 a k hk]
theorem frG_t {m m1 m2 : am_M} (h1 : frG m m1) (h2 : frG m1 m2) : frG m m2 := fun a k q1 q2 => by rw [h2 a k q1 q2, h1 a k q1 q2]
theorem frM_5 {m m' : am_M} (h : frM m m') : m' 56 = m 56 ∧ m' 53 8 = m 53 8 ∧ m' 53 11 = m 53 11 ∧ m' 57 = m 57 := ⟨funext fun k => h 56 k (by omega), h 53 8 (by omega), h 53 11 (by omega), funext fun k => h 57 k (by omega)⟩
theorem MV_W {m m' : am_M} (h : frW m m') : (MV m → MV m') ∧ mtok m' = mtok m := by
  have e56 : m' 56 = m 56 := funext fun k => h 56 k (by omega)
  unfold MV MDR mtok
  rw [h 53 6 (by omega), h 53 7 (by omega), h 53 8 (by omega), h 53 9 (by omega), h 53 10 (by omega), e56]
  exact ⟨id, rfl⟩
theorem fk_r {t : TKN} {f : Int} (h : 1 ≤ f ∧ f ≤ 4) : 1 ≤ (fk t f).1 ∧ (fk t f).1 ≤ 4 := by
  show 1 ≤ (if t.2.1 = 15 then (1 : Int) else f) ∧ (if t.2.1 = 15 then (1 : Int) else f) ≤ 4
  split <;> omega
theorem z_177   (m : am_M) (f : Int) (hq : MV m ∧ WR m) : ok 0 177 0 (am_ent 2 [.inr (.inr (some 53)), .inl f]) [] m (fun rr m' => rr = [] ∧ (m 53 11 = 0 → m' 53 11 = (fk (mtok m) f).1 ∧ m' 53 12 = (fk (mtok m) f).2 ∧ frW m m') ∧ (¬ m 53 11 = 0 → m' = m)) := by
  show ok 0 177 0 [some (.inr (.inr (some 53))), some (.inl f)] [] m _
  obtain ⟨hV, hW⟩ := hq
  have h9 := hV.2.2.1
  have h6 := hV.2.1
  unfold WR at hW
  refine u_177_0 ?_
  rw [am_s_id (z := m 53 11) (by omega) (by omega), am_s_id (z := m 53 9) (by omega) (by omega)]
  refine ⟨fun q => ⟨rfl, fun _ => ⟨?_, ?_, fun a k hk => ?_⟩, fun q2 => absurd q q2⟩, fun q => ⟨rfl, fun q2 => absurd q2 q, fun _ => rfl⟩⟩
  · rw [mu_o (by omega), mu_same]
    show (if ¬ m 53 9 = 15 then f else 1) = if m 53 9 = 15 then 1 else f
    by_cases h : m 53 9 = 15
    · rw [if_neg (not_not_intro h), if_pos h]
    · rw [if_pos h, if_neg h]
  · rw [mu_same]
    show m 53 6 = (((m 53 6).toNat : Nat) : Int)
    omega
  · rw [mu_o (by omega), mu_o (by omega)]
theorem n_174 {fx : am_X0} (m : am_M) (k : Int) (hq : MV m ∧ WR m ∧ 0 ≤ k ∧ k ≤ 15) : rn fx 0 (0, 0) 174 0 (am_ent 2 [.inr (.inr (some 53)), .inl k]) [] (st0 m) ([.inl (if m 53 11 = 0 ∧ m 53 9 = k then 1 else 0)], st0 m) := by
  have h := c_174 (fx := fx) m k
  obtain ⟨hV, hW, hk⟩ := hq
  have h9 := hV.2.2.1
  unfold WR at hW
  have e : v_174 m k = if m 53 11 = 0 ∧ m 53 9 = k then 1 else 0 := by
    unfold v_174
    rw [am_s_id (z := m 53 11) (by omega) (by omega), am_s_id (z := m 53 9) (by omega) (by omega), am_s_id (z := k) (by omega) (by omega)]
    by_cases h1 : m 53 11 = 0
    · rw [if_neg (not_not_intro h1)]
      by_cases h2 : m 53 9 = k
      · rw [if_neg (not_not_intro h2), if_pos ⟨h1, h2⟩]
      · rw [if_pos h2, if_neg (fun z => h2 z.2)]
    · rw [if_pos h1, if_neg (fun z => h1 z.1)]
  rw [e] at h
  exact h
theorem u_179_0 {Q : List am_V → am_M → Prop} {m : am_M} {k : Int}  (H : (MV m ∧ WR m ∧ 0 ≤ k ∧ k ≤ 15) ∧ (((m 53 11 = 0 ∧ m 53 9 = k) → (MDR m) ∧ (∀ (m1 : am_M), (mtok m1 = tok (m 56) (m 53 8).toNat (m 53 7).toNat ∧ MV m1 ∧ frM m m1) → Q [.inl 1] m1)) ∧ ((¬ (m 53 11 = 0 ∧ m 53 9 = k)) → Q [.inl 0] m))) : ok 6 179 0 [some (.inr (.inr (some 53))), some (.inl k)] [] m Q := by
  obtain ⟨hz1, H⟩ := H
  refine ok_sg (pc' := 5) (ls' := [some (.inr (.inr (some 53))), some (.inl k)]) (st' := [.inl ((if m 53 11 = 0 ∧ m 53 9 = k then 1 else 0))]) (m' := m) (fun fx hfx o hk => ?_) ?_
  · refine r_ld (pc' := 1) hM_179 d_179_0 rfl rfl ?_
    refine r_ld (pc' := 2) hM_179 d_179_1 rfl rfl ?_
    refine r_cl (pc' := 5) (c := (174, 0)) (a := [.inr (.inr (some 53)), .inl k]) (q := []) hM_179 d_179_2 rfl (by decide +kernel) hM_174 rfl rfl rfl (Nat.le_of_ble_eq_true rfl) (Nat.le_of_ble_eq_true rfl) (Or.inr rfl) (n_174  m k hz1) (Nat.le_of_ble_eq_true rfl) ?_
    show rn fx 6 (0, 0) 179 5 [some (.inr (.inr (some 53))), some (.inl k)] [.inl ((if m 53 11 = 0 ∧ m 53 9 = k then 1 else 0))] (st0 m) o
    exact hk
  refine ok_if (pc' := 10) (pc2 := 8) hM_179 d_179_5 (by decide) rfl (fun hz2 => ?_) (fun hz2 => ?_)
  · have H := H.1 (as_iteN.mp hz2)
    obtain ⟨hz3, H⟩ := H
    refine ok_sg (pc' := 11) (ls' := [some (.inr (.inr (some 53))), some (.inl k)]) (st' := [.inr (.inr (some 53))]) (m' := m) (fun fx hfx o hk => ?_) ?_
    · refine r_ld (pc' := 11) hM_179 d_179_10 rfl rfl ?_
      exact hk
    refine ok_cl (pc' := 14) (c := (168, 0)) (a := [.inr (.inr (some 53))]) (q := []) hM_179 d_179_11 rfl (by decide +kernel) hM_168 rfl rfl rfl (Nat.le_of_ble_eq_true rfl) (Nat.le_of_ble_eq_true rfl) (Or.inr rfl) (z_168  m  hz3) (Nat.le_of_ble_eq_true rfl) ?_
    rintro _ m1 ⟨rfl, hz4⟩
    replace H := H  m1 hz4
    show ok 6 179 14 [some (.inr (.inr (some 53))), some (.inl k)] [] m1 Q
    refine ok_sg (pc' := 15) (ls' := [some (.inr (.inr (some 53))), some (.inl k)]) (st' := [.inl 1]) (m' := m1) (fun fx hfx o hk => ?_) ?_
    · refine r_k (pc' := 15) (v := .inl 1) hM_179 d_179_14 rfl rfl ?_
      exact hk
    exact ok_rt (fun fx _ => rt_z hM_179 d_179_15 rfl (by decide)) H
  · have H := H.2 (as_ite.mp (Decidable.not_not.mp hz2))
    refine ok_sg (pc' := 9) (ls' := [some (.inr (.inr (some 53))), some (.inl k)]) (st' := [.inl 0]) (m' := m) (fun fx hfx o hk => ?_) ?_
    · refine r_k (pc' := 9) (v := .inl 0) hM_179 d_179_8 rfl rfl ?_
      exact hk
    exact ok_rt (fun fx _ => rt_z hM_179 d_179_9 rfl (by decide)) H
theorem u_178_0 {Q : List am_V → am_M → Prop} {m : am_M} {lo : Int} {hi : Int}  (H : (MV m ∧ WR m ∧ 0 ≤ (12 : Int) ∧ (12 : Int) ≤ 15) ∧ (((m 53 11 = 0 ∧ m 53 9 = 12) → ((am_t (am_s lo) ≤ am_t (am_s (m 53 10)) ∧ am_t (am_s (m 53 10)) ≤ am_t (am_s hi)) → ((¬ am_s (m 53 11) = 0) → Q [.inl (m 53 10)] m) ∧ ((am_s (m 53 11) = 0) → (MDR m) ∧ (∀ (m1 : am_M), (mtok m1 = tok (m 56) (m 53 8).toNat (m 53 7).toNat ∧ MV m1 ∧ frM m m1) → Q [.inl (m 53 10)] m1))) ∧ ((¬ (am_t (am_s lo) ≤ am_t (am_s (m 53 10)) ∧ am_t (am_s (m 53 10)) ≤ am_t (am_s hi))) → (MV m ∧ WR m) ∧ (∀ (m2 : am_M), ((m 53 11 = 0 → m2 53 11 = (fk (mtok m) 3).1 ∧ m2 53 12 = (fk (mtok m) 3).2 ∧ frW m m2) ∧ (¬ m 53 11 = 0 → m2 = m)) → ((¬ am_s (m2 53 11) = 0) → Q [.inl (m2 53 10)] m2) ∧ ((am_s (m2 53 11) = 0) → (MDR m2) ∧ (∀ (m3 : am_M), (mtok m3 = tok (m2 56) (m2 53 8).toNat (m2 53 7).toNat ∧ MV m3 ∧ frM m2 m3) → Q [.inl (m2 53 10)] m3))))) ∧ ((¬ (m 53 11 = 0 ∧ m 53 9 = 12)) → (MV m ∧ WR m) ∧ (∀ (m4 : am_M), ((m 53 11 = 0 → m4 53 11 = (fk (mtok m) 2).1 ∧ m4 53 12 = (fk (mtok m) 2).2 ∧ frW m m4) ∧ (¬ m 53 11 = 0 → m4 = m)) → ((¬ am_s (m4 53 11) = 0) → Q [.inl (m4 53 10)] m4) ∧ ((am_s (m4 53 11) = 0) → (MDR m4) ∧ (∀ (m5 : am_M), (mtok m5 = tok (m4 56) (m4 53 8).toNat (m4 53 7).toNat ∧ MV m5 ∧ frM m4 m5) → Q [.inl (m4 53 10)] m5)))))) : ok 6 178 0 [some (.inr (.inr (some 53))), some (.inl lo), some (.inl hi), none] [] m Q := by
  obtain ⟨hz1, H⟩ := H
  refine ok_sg (pc' := 6) (ls' := [some (.inr (.inr (some 53))), some (.inl lo), some (.inl hi), none]) (st' := [.inl ((if m 53 11 = 0 ∧ m 53 9 = 12 then 1 else 0))]) (m' := m) (fun fx hfx o hk => ?_) ?_
  · refine r_ld (pc' := 1) hM_178 d_178_0 rfl rfl ?_
    refine r_k (pc' := 3) (v := .inl 12) hM_178 d_178_1 rfl rfl ?_
    refine r_cl (pc' := 6) (c := (174, 0)) (a := [.inr (.inr (some 53)), .inl 12]) (q := []) hM_178 d_178_3 rfl (by decide +kernel) hM_174 rfl rfl rfl (Nat.le_of_ble_eq_true rfl) (Nat.le_of_ble_eq_true rfl) (Or.inr rfl) (n_174  m 12 hz1) (Nat.le_of_ble_eq_true rfl) ?_
    show rn fx 6 (0, 0) 178 6 [some (.inr (.inr (some 53))), some (.inl lo), some (.inl hi), none] [.inl ((if m 53 11 = 0 ∧ m 53 9 = 12 then 1 else 0))] (st0 m) o
    exact hk
  refine ok_if (pc' := 17) (pc2 := 9) hM_178 d_178_6 (by decide) rfl (fun hz2 => ?_) (fun hz2 => ?_)
  · have H := H.1 (as_iteN.mp hz2)
    refine ok_sg (pc' := 29) (ls' := [some (.inr (.inr (some 53))), some (.inl lo), some (.inl hi), none]) (st' := [.inl ((if am_t (am_s lo) ≤ am_t (am_s (m 53 10)) ∧ am_t (am_s (m 53 10)) ≤ am_t (am_s hi) then 1 else 0))]) (m' := m) (fun fx hfx o hk => ?_) ?_
    · refine r_ld (pc' := 18) hM_178 d_178_17 rfl rfl ?_
      refine r_gI (pc' := 21) (k0 := 10) hM_178 d_178_18 rfl (by decide +kernel) ?_
      refine r_stk (pc' := 22) (st' := [.inr (.inl (am_s (m 53 10)))]) hM_178 d_178_21 rfl rfl ?_
      refine r_ld (pc' := 23) hM_178 d_178_22 rfl rfl ?_
      refine r_stk (pc' := 24) (st' := [.inr (.inl (am_s lo)), .inr (.inl (am_s (m 53 10)))]) hM_178 d_178_23 rfl rfl ?_
      refine r_ld (pc' := 25) hM_178 d_178_24 rfl rfl ?_
      refine r_stk (pc' := 26) (st' := [.inr (.inl (am_s hi)), .inr (.inl (am_s lo)), .inr (.inl (am_s (m 53 10)))]) hM_178 d_178_25 rfl rfl ?_
      refine r_cl (pc' := 29) (c := (167, 2)) (a := [.inr (.inl (am_s (m 53 10))), .inr (.inl (am_s lo)), .inr (.inl (am_s hi))]) (q := []) hM_178 d_178_26 rfl (by decide +kernel) hM_167 rfl rfl rfl (Nat.le_of_ble_eq_true rfl) (Nat.le_of_ble_eq_true rfl) (Or.inl rfl) (n_167  m (am_s (m 53 10)) (am_s lo) (am_s hi)) (Nat.le_of_ble_eq_true rfl) ?_
      show rn fx 6 (0, 0) 178 29 [some (.inr (.inr (some 53))), some (.inl lo), some (.inl hi), none] [.inl ((if am_t (am_s lo) ≤ am_t (am_s (m 53 10)) ∧ am_t (am_s (m 53 10)) ≤ am_t (am_s hi) then 1 else 0))] (st0 m) o
      exact hk
    refine ok_if (pc' := 37) (pc2 := 32) hM_178 d_178_29 (by decide) rfl (fun hz3 => ?_) (fun hz3 => ?_)
    · have H := H.1 (as_iteN.mp hz3)
      refine ok_sg (pc' := 46) (ls' := [some (.inr (.inr (some 53))), some (.inl lo), some (.inl hi), some (.inl (m 53 10))]) (st' := [.inl (m 53 11)]) (m' := m) (fun fx hfx o hk => ?_) ?_
      · refine r_ld (pc' := 38) hM_178 d_178_37 rfl rfl ?_
        refine r_gI (pc' := 41) (k0 := 10) hM_178 d_178_38 rfl (by decide +kernel) ?_
        refine r_sto (pc' := 42) (ls' := [some (.inr (.inr (some 53))), some (.inl lo), some (.inl hi), some (.inl (m 53 10))]) hM_178 d_178_41 rfl rfl ?_
        refine r_ld (pc' := 43) hM_178 d_178_42 rfl rfl ?_
        refine r_gI (pc' := 46) (k0 := 11) hM_178 d_178_43 rfl (by decide +kernel) ?_
        exact hk
      refine ok_if (pc' := 53) (pc2 := 49) hM_178 d_178_46 (by decide) rfl (fun hz4 => ?_) (fun hz4 => ?_)
      · have H := H.1 hz4
        refine ok_sg (pc' := 54) (ls' := [some (.inr (.inr (some 53))), some (.inl lo), some (.inl hi), some (.inl (m 53 10))]) (st' := [.inl (m 53 10)]) (m' := m) (fun fx hfx o hk => ?_) ?_
        · refine r_ld (pc' := 54) hM_178 d_178_53 rfl rfl ?_
          exact hk
        exact ok_rt (fun fx _ => rt_i hM_178 d_178_54 rfl) H
      · have H := H.2 (Decidable.not_not.mp hz4)
        obtain ⟨hz5, H⟩ := H
        refine ok_sg (pc' := 50) (ls' := [some (.inr (.inr (some 53))), some (.inl lo), some (.inl hi), some (.inl (m 53 10))]) (st' := [.inr (.inr (some 53))]) (m' := m) (fun fx hfx o hk => ?_) ?_
        · refine r_ld (pc' := 50) hM_178 d_178_49 rfl rfl ?_
          exact hk
        refine ok_cl (pc' := 53) (c := (168, 0)) (a := [.inr (.inr (some 53))]) (q := []) hM_178 d_178_50 rfl (by decide +kernel) hM_168 rfl rfl rfl (Nat.le_of_ble_eq_true rfl) (Nat.le_of_ble_eq_true rfl) (Or.inr rfl) (z_168  m  hz5) (Nat.le_of_ble_eq_true rfl) ?_
        rintro _ m1 ⟨rfl, hz6⟩
        replace H := H  m1 hz6
        show ok 6 178 53 [some (.inr (.inr (some 53))), some (.inl lo), some (.inl hi), some (.inl (m 53 10))] [] m1 Q
        refine ok_sg (pc' := 54) (ls' := [some (.inr (.inr (some 53))), some (.inl lo), some (.inl hi), some (.inl (m 53 10))]) (st' := [.inl (m 53 10)]) (m' := m1) (fun fx hfx o hk => ?_) ?_
        · refine r_ld (pc' := 54) hM_178 d_178_53 rfl rfl ?_
          exact hk
        exact ok_rt (fun fx _ => rt_i hM_178 d_178_54 rfl) H
    · have H := H.2 (as_ite.mp (Decidable.not_not.mp hz3))
      obtain ⟨hz7, H⟩ := H
      refine ok_sg (pc' := 34) (ls' := [some (.inr (.inr (some 53))), some (.inl lo), some (.inl hi), none]) (st' := [.inl 3, .inr (.inr (some 53))]) (m' := m) (fun fx hfx o hk => ?_) ?_
      · refine r_ld (pc' := 33) hM_178 d_178_32 rfl rfl ?_
        refine r_k (pc' := 34) (v := .inl 3) hM_178 d_178_33 rfl rfl ?_
        exact hk
      refine ok_cl (pc' := 37) (c := (177, 0)) (a := [.inr (.inr (some 53)), .inl 3]) (q := []) hM_178 d_178_34 rfl (by decide +kernel) hM_177 rfl rfl rfl (Nat.le_of_ble_eq_true rfl) (Nat.le_of_ble_eq_true rfl) (Or.inr rfl) (z_177  m 3 hz7) (Nat.le_of_ble_eq_true rfl) ?_
      rintro _ m2 ⟨rfl, hz8⟩
      replace H := H  m2 hz8
      show ok 6 178 37 [some (.inr (.inr (some 53))), some (.inl lo), some (.inl hi), none] [] m2 Q
      refine ok_sg (pc' := 46) (ls' := [some (.inr (.inr (some 53))), some (.inl lo), some (.inl hi), some (.inl (m2 53 10))]) (st' := [.inl (m2 53 11)]) (m' := m2) (fun fx hfx o hk => ?_) ?_
      · refine r_ld (pc' := 38) hM_178 d_178_37 rfl rfl ?_
        refine r_gI (pc' := 41) (k0 := 10) hM_178 d_178_38 rfl (by decide +kernel) ?_
        refine r_sto (pc' := 42) (ls' := [some (.inr (.inr (some 53))), some (.inl lo), some (.inl hi), some (.inl (m2 53 10))]) hM_178 d_178_41 rfl rfl ?_
        refine r_ld (pc' := 43) hM_178 d_178_42 rfl rfl ?_
        refine r_gI (pc' := 46) (k0 := 11) hM_178 d_178_43 rfl (by decide +kernel) ?_
        exact hk
      refine ok_if (pc' := 53) (pc2 := 49) hM_178 d_178_46 (by decide) rfl (fun hz9 => ?_) (fun hz9 => ?_)
      · have H := H.1 hz9
        refine ok_sg (pc' := 54) (ls' := [some (.inr (.inr (some 53))), some (.inl lo), some (.inl hi), some (.inl (m2 53 10))]) (st' := [.inl (m2 53 10)]) (m' := m2) (fun fx hfx o hk => ?_) ?_
        · refine r_ld (pc' := 54) hM_178 d_178_53 rfl rfl ?_
          exact hk
        exact ok_rt (fun fx _ => rt_i hM_178 d_178_54 rfl) H
      · have H := H.2 (Decidable.not_not.mp hz9)
        obtain ⟨hz10, H⟩ := H
        refine ok_sg (pc' := 50) (ls' := [some (.inr (.inr (some 53))), some (.inl lo), some (.inl hi), some (.inl (m2 53 10))]) (st' := [.inr (.inr (some 53))]) (m' := m2) (fun fx hfx o hk => ?_) ?_
        · refine r_ld (pc' := 50) hM_178 d_178_49 rfl rfl ?_
          exact hk
        refine ok_cl (pc' := 53) (c := (168, 0)) (a := [.inr (.inr (some 53))]) (q := []) hM_178 d_178_50 rfl (by decide +kernel) hM_168 rfl rfl rfl (Nat.le_of_ble_eq_true rfl) (Nat.le_of_ble_eq_true rfl) (Or.inr rfl) (z_168  m2  hz10) (Nat.le_of_ble_eq_true rfl) ?_
        rintro _ m3 ⟨rfl, hz11⟩
        replace H := H  m3 hz11
        show ok 6 178 53 [some (.inr (.inr (some 53))), some (.inl lo), some (.inl hi), some (.inl (m2 53 10))] [] m3 Q
        refine ok_sg (pc' := 54) (ls' := [some (.inr (.inr (some 53))), some (.inl lo), some (.inl hi), some (.inl (m2 53 10))]) (st' := [.inl (m2 53 10)]) (m' := m3) (fun fx hfx o hk => ?_) ?_
        · refine r_ld (pc' := 54) hM_178 d_178_53 rfl rfl ?_
          exact hk
        exact ok_rt (fun fx _ => rt_i hM_178 d_178_54 rfl) H
  · have H := H.2 (as_ite.mp (Decidable.not_not.mp hz2))
    obtain ⟨hz12, H⟩ := H
    refine ok_sg (pc' := 11) (ls' := [some (.inr (.inr (some 53))), some (.inl lo), some (.inl hi), none]) (st' := [.inl 2, .inr (.inr (some 53))]) (m' := m) (fun fx hfx o hk => ?_) ?_
    · refine r_ld (pc' := 10) hM_178 d_178_9 rfl rfl ?_
      refine r_k (pc' := 11) (v := .inl 2) hM_178 d_178_10 rfl rfl ?_
      exact hk
    refine ok_cl (pc' := 14) (c := (177, 0)) (a := [.inr (.inr (some 53)), .inl 2]) (q := []) hM_178 d_178_11 rfl (by decide +kernel) hM_177 rfl rfl rfl (Nat.le_of_ble_eq_true rfl) (Nat.le_of_ble_eq_true rfl) (Or.inr rfl) (z_177  m 2 hz12) (Nat.le_of_ble_eq_true rfl) ?_
    rintro _ m4 ⟨rfl, hz13⟩
    replace H := H  m4 hz13
    show ok 6 178 14 [some (.inr (.inr (some 53))), some (.inl lo), some (.inl hi), none] [] m4 Q
    refine ok_sg (pc' := 46) (ls' := [some (.inr (.inr (some 53))), some (.inl lo), some (.inl hi), some (.inl (m4 53 10))]) (st' := [.inl (m4 53 11)]) (m' := m4) (fun fx hfx o hk => ?_) ?_
    · refine r_go (pc' := 37) hM_178 d_178_14 (by decide) ?_
      refine r_ld (pc' := 38) hM_178 d_178_37 rfl rfl ?_
      refine r_gI (pc' := 41) (k0 := 10) hM_178 d_178_38 rfl (by decide +kernel) ?_
      refine r_sto (pc' := 42) (ls' := [some (.inr (.inr (some 53))), some (.inl lo), some (.inl hi), some (.inl (m4 53 10))]) hM_178 d_178_41 rfl rfl ?_
      refine r_ld (pc' := 43) hM_178 d_178_42 rfl rfl ?_
      refine r_gI (pc' := 46) (k0 := 11) hM_178 d_178_43 rfl (by decide +kernel) ?_
      exact hk
    refine ok_if (pc' := 53) (pc2 := 49) hM_178 d_178_46 (by decide) rfl (fun hz14 => ?_) (fun hz14 => ?_)
    · have H := H.1 hz14
      refine ok_sg (pc' := 54) (ls' := [some (.inr (.inr (some 53))), some (.inl lo), some (.inl hi), some (.inl (m4 53 10))]) (st' := [.inl (m4 53 10)]) (m' := m4) (fun fx hfx o hk => ?_) ?_
      · refine r_ld (pc' := 54) hM_178 d_178_53 rfl rfl ?_
        exact hk
      exact ok_rt (fun fx _ => rt_i hM_178 d_178_54 rfl) H
    · have H := H.2 (Decidable.not_not.mp hz14)
      obtain ⟨hz15, H⟩ := H
      refine ok_sg (pc' := 50) (ls' := [some (.inr (.inr (some 53))), some (.inl lo), some (.inl hi), some (.inl (m4 53 10))]) (st' := [.inr (.inr (some 53))]) (m' := m4) (fun fx hfx o hk => ?_) ?_
      · refine r_ld (pc' := 50) hM_178 d_178_49 rfl rfl ?_
        exact hk
      refine ok_cl (pc' := 53) (c := (168, 0)) (a := [.inr (.inr (some 53))]) (q := []) hM_178 d_178_50 rfl (by decide +kernel) hM_168 rfl rfl rfl (Nat.le_of_ble_eq_true rfl) (Nat.le_of_ble_eq_true rfl) (Or.inr rfl) (z_168  m4  hz15) (Nat.le_of_ble_eq_true rfl) ?_
      rintro _ m5 ⟨rfl, hz16⟩
      replace H := H  m5 hz16
      show ok 6 178 53 [some (.inr (.inr (some 53))), some (.inl lo), some (.inl hi), some (.inl (m4 53 10))] [] m5 Q
      refine ok_sg (pc' := 54) (ls' := [some (.inr (.inr (some 53))), some (.inl lo), some (.inl hi), some (.inl (m4 53 10))]) (st' := [.inl (m4 53 10)]) (m' := m5) (fun fx hfx o hk => ?_) ?_
      · refine r_ld (pc' := 54) hM_178 d_178_53 rfl rfl ?_
        exact hk
      exact ok_rt (fun fx _ => rt_i hM_178 d_178_54 rfl) H
theorem u_176_0 {Q : List am_V → am_M → Prop} {m : am_M}   (H : ((¬ am_s (m 57 0) = 12) → ((¬ am_s (m 53 11) = 0) → Q [.inl 0] m) ∧ ((am_s (m 53 11) = 0) → (MDR m) ∧ (∀ (m1 : am_M), (mtok m1 = tok (m 56) (m 53 8).toNat (m 53 7).toNat ∧ MV m1 ∧ frM m m1) → Q [.inl (if ¬ am_s (m1 53 11) = 0 then 0 else 1)] m1))) ∧ ((am_s (m 57 0) = 12) → (MV m ∧ WR m) ∧ (∀ (m2 : am_M), ((m 53 11 = 0 → m2 53 11 = (fk (mtok m) 4).1 ∧ m2 53 12 = (fk (mtok m) 4).2 ∧ frW m m2) ∧ (¬ m 53 11 = 0 → m2 = m)) → ((¬ am_s (m2 53 11) = 0) → Q [.inl 0] m2) ∧ ((am_s (m2 53 11) = 0) → (MDR m2) ∧ (∀ (m3 : am_M), (mtok m3 = tok (m2 56) (m2 53 8).toNat (m2 53 7).toNat ∧ MV m3 ∧ frM m2 m3) → Q [.inl (if ¬ am_s (m3 53 11) = 0 then 0 else 1)] m3))))) : ok 6 176 0 [some (.inr (.inr (some 53)))] [] m Q := by
  refine ok_sg (pc' := 8) (ls' := [some (.inr (.inr (some 53)))]) (st' := [.inl 12, .inl (m 57 0)]) (m' := m) (fun fx hfx o hk => ?_) ?_
  · refine r_ld (pc' := 1) hM_176 d_176_0 rfl rfl ?_
    refine r_gR (pc' := 4) (v := 57) hM_176 d_176_1 rfl (by decide +kernel) ?_
    refine r_k (pc' := 5) (v := .inl 0) hM_176 d_176_4 rfl rfl ?_
    refine r_iae (pc' := 6) (n := 56) (z := (m 57 0)) hM_176 d_176_5 rfl rfl (by decide) (by rw [show (am_s 0).toNat = 0 by decide]) ?_
    refine r_k (pc' := 8) (v := .inl 12) hM_176 d_176_6 rfl rfl ?_
    exact hk
  refine ok_ic (pc' := 16) (pc2 := 11) hM_176 d_176_8 (by decide) rfl (fun hz1 => ?_) (fun hz1 => ?_)
  · have H := H.1 hz1
    refine ok_sg (pc' := 20) (ls' := [some (.inr (.inr (some 53)))]) (st' := [.inl (m 53 11)]) (m' := m) (fun fx hfx o hk => ?_) ?_
    · refine r_ld (pc' := 17) hM_176 d_176_16 rfl rfl ?_
      refine r_gI (pc' := 20) (k0 := 11) hM_176 d_176_17 rfl (by decide +kernel) ?_
      exact hk
    refine ok_if (pc' := 27) (pc2 := 23) hM_176 d_176_20 (by decide) rfl (fun hz2 => ?_) (fun hz2 => ?_)
    · have H := H.1 hz2
      refine ok_sg (pc' := 39) (ls' := [some (.inr (.inr (some 53)))]) (st' := [.inl 0]) (m' := m) (fun fx hfx o hk => ?_) ?_
      · refine r_ld (pc' := 28) hM_176 d_176_27 rfl rfl ?_
        refine r_gI (pc' := 31) (k0 := 11) hM_176 d_176_28 rfl (by decide +kernel) ?_
        refine r_if (pc' := 38) (pc2 := 34) hM_176 d_176_31 (by decide) rfl (fun _ => ?_) (fun hc => absurd hz2 hc)
        refine r_k (pc' := 39) (v := .inl 0) hM_176 d_176_38 rfl rfl ?_
        exact hk
      exact ok_rt (fun fx _ => rt_z hM_176 d_176_39 rfl (by decide)) H
    · have H := H.2 (Decidable.not_not.mp hz2)
      obtain ⟨hz3, H⟩ := H
      refine ok_sg (pc' := 24) (ls' := [some (.inr (.inr (some 53)))]) (st' := [.inr (.inr (some 53))]) (m' := m) (fun fx hfx o hk => ?_) ?_
      · refine r_ld (pc' := 24) hM_176 d_176_23 rfl rfl ?_
        exact hk
      refine ok_cl (pc' := 27) (c := (168, 0)) (a := [.inr (.inr (some 53))]) (q := []) hM_176 d_176_24 rfl (by decide +kernel) hM_168 rfl rfl rfl (Nat.le_of_ble_eq_true rfl) (Nat.le_of_ble_eq_true rfl) (Or.inr rfl) (z_168  m  hz3) (Nat.le_of_ble_eq_true rfl) ?_
      rintro _ m1 ⟨rfl, hz4⟩
      replace H := H  m1 hz4
      show ok 6 176 27 [some (.inr (.inr (some 53)))] [] m1 Q
      refine ok_sg (pc' := 31) (ls' := [some (.inr (.inr (some 53)))]) (st' := [.inl (m1 53 11)]) (m' := m1) (fun fx hfx o hk => ?_) ?_
      · refine r_ld (pc' := 28) hM_176 d_176_27 rfl rfl ?_
        refine r_gI (pc' := 31) (k0 := 11) hM_176 d_176_28 rfl (by decide +kernel) ?_
        exact hk
      refine ok_sg (pc' := 39) (ls' := [some (.inr (.inr (some 53)))]) (st' := [.inl (if ¬ am_s (m1 53 11) = 0 then 0 else 1)]) (m' := m1) (fun fx hfx o K => ?_) ?_
      · refine r_if (pc' := 38) (pc2 := 34) hM_176 d_176_31 (by decide) rfl (fun hz5 => ?_) (fun hz5 => ?_)
        · have hz5 : ¬ am_s (m1 53 11) = 0 := hz5
          rw [if_pos hz5] at K
          refine r_k (pc' := 39) (v := .inl 0) hM_176 d_176_38 rfl rfl ?_
          exact K
        · have hz5 : ¬ (¬ am_s (m1 53 11) = 0) := hz5
          rw [if_neg hz5] at K
          refine r_k (pc' := 35) (v := .inl 1) hM_176 d_176_34 rfl rfl ?_
          refine r_go (pc' := 39) hM_176 d_176_35 (by decide) ?_
          exact K
      refine ok_rt (fun fx _ => ?_) H
      refine rt_z hM_176 d_176_39 rfl ?_
      repeat' first | exact Or.inl rfl | exact Or.inr rfl | apply z01_ite
  · have H := H.2 (Decidable.not_not.mp hz1)
    obtain ⟨hz6, H⟩ := H
    refine ok_sg (pc' := 13) (ls' := [some (.inr (.inr (some 53)))]) (st' := [.inl 4, .inr (.inr (some 53))]) (m' := m) (fun fx hfx o hk => ?_) ?_
    · refine r_ld (pc' := 12) hM_176 d_176_11 rfl rfl ?_
      refine r_k (pc' := 13) (v := .inl 4) hM_176 d_176_12 rfl rfl ?_
      exact hk
    refine ok_cl (pc' := 16) (c := (177, 0)) (a := [.inr (.inr (some 53)), .inl 4]) (q := []) hM_176 d_176_13 rfl (by decide +kernel) hM_177 rfl rfl rfl (Nat.le_of_ble_eq_true rfl) (Nat.le_of_ble_eq_true rfl) (Or.inr rfl) (z_177  m 4 hz6) (Nat.le_of_ble_eq_true rfl) ?_
    rintro _ m2 ⟨rfl, hz7⟩
    replace H := H  m2 hz7
    show ok 6 176 16 [some (.inr (.inr (some 53)))] [] m2 Q
    refine ok_sg (pc' := 20) (ls' := [some (.inr (.inr (some 53)))]) (st' := [.inl (m2 53 11)]) (m' := m2) (fun fx hfx o hk => ?_) ?_
    · refine r_ld (pc' := 17) hM_176 d_176_16 rfl rfl ?_
      refine r_gI (pc' := 20) (k0 := 11) hM_176 d_176_17 rfl (by decide +kernel) ?_
      exact hk
    refine ok_if (pc' := 27) (pc2 := 23) hM_176 d_176_20 (by decide) rfl (fun hz8 => ?_) (fun hz8 => ?_)
    · have H := H.1 hz8
      refine ok_sg (pc' := 39) (ls' := [some (.inr (.inr (some 53)))]) (st' := [.inl 0]) (m' := m2) (fun fx hfx o hk => ?_) ?_
      · refine r_ld (pc' := 28) hM_176 d_176_27 rfl rfl ?_
        refine r_gI (pc' := 31) (k0 := 11) hM_176 d_176_28 rfl (by decide +kernel) ?_
        refine r_if (pc' := 38) (pc2 := 34) hM_176 d_176_31 (by decide) rfl (fun _ => ?_) (fun hc => absurd hz8 hc)
        refine r_k (pc' := 39) (v := .inl 0) hM_176 d_176_38 rfl rfl ?_
        exact hk
      exact ok_rt (fun fx _ => rt_z hM_176 d_176_39 rfl (by decide)) H
    · have H := H.2 (Decidable.not_not.mp hz8)
      obtain ⟨hz9, H⟩ := H
      refine ok_sg (pc' := 24) (ls' := [some (.inr (.inr (some 53)))]) (st' := [.inr (.inr (some 53))]) (m' := m2) (fun fx hfx o hk => ?_) ?_
      · refine r_ld (pc' := 24) hM_176 d_176_23 rfl rfl ?_
        exact hk
      refine ok_cl (pc' := 27) (c := (168, 0)) (a := [.inr (.inr (some 53))]) (q := []) hM_176 d_176_24 rfl (by decide +kernel) hM_168 rfl rfl rfl (Nat.le_of_ble_eq_true rfl) (Nat.le_of_ble_eq_true rfl) (Or.inr rfl) (z_168  m2  hz9) (Nat.le_of_ble_eq_true rfl) ?_
      rintro _ m3 ⟨rfl, hz10⟩
      replace H := H  m3 hz10
      show ok 6 176 27 [some (.inr (.inr (some 53)))] [] m3 Q
      refine ok_sg (pc' := 31) (ls' := [some (.inr (.inr (some 53)))]) (st' := [.inl (m3 53 11)]) (m' := m3) (fun fx hfx o hk => ?_) ?_
      · refine r_ld (pc' := 28) hM_176 d_176_27 rfl rfl ?_
        refine r_gI (pc' := 31) (k0 := 11) hM_176 d_176_28 rfl (by decide +kernel) ?_
        exact hk
      refine ok_sg (pc' := 39) (ls' := [some (.inr (.inr (some 53)))]) (st' := [.inl (if ¬ am_s (m3 53 11) = 0 then 0 else 1)]) (m' := m3) (fun fx hfx o K => ?_) ?_
      · refine r_if (pc' := 38) (pc2 := 34) hM_176 d_176_31 (by decide) rfl (fun hz11 => ?_) (fun hz11 => ?_)
        · have hz11 : ¬ am_s (m3 53 11) = 0 := hz11
          rw [if_pos hz11] at K
          refine r_k (pc' := 39) (v := .inl 0) hM_176 d_176_38 rfl rfl ?_
          exact K
        · have hz11 : ¬ (¬ am_s (m3 53 11) = 0) := hz11
          rw [if_neg hz11] at K
          refine r_k (pc' := 35) (v := .inl 1) hM_176 d_176_34 rfl rfl ?_
          refine r_go (pc' := 39) hM_176 d_176_35 (by decide) ?_
          exact K
      refine ok_rt (fun fx _ => ?_) H
      refine rt_z hM_176 d_176_39 rfl ?_
      repeat' first | exact Or.inl rfl | exact Or.inr rfl | apply z01_ite
