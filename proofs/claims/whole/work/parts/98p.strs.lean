/-! the text: Strings -/
theorem r_baFk {fx : am_X0} {d mi pc pc' : Nat} {cr : Nat × Nat} {ls : am_Ls} {st : List am_V} {S : am_S} {o : List am_V × am_S} {M : am_MT} {r n : Nat} {f : Nat → Int} {j z : Int} (hM : am_ms[mi]? = some M) (hd : decode M.2.2.1 pc = .ok (.baload, 1)) (hp : pc + 1 = pc') (hr : 1000 ≤ r) (h : fx r = (102, n, f)) (hj : 0 ≤ am_s j ∧ am_s j < n) (hz : f (am_s j).toNat = z) (k : rn fx d cr mi pc' ls (.inl z :: st) S o) : rn fx d cr mi pc ls (.inl j :: .inr (.inr (some r)) :: st) S o := by
  refine r_baF hM hd hp hr h hj ?_
  rw [hz]
  exact k
/-- an answer that changes nothing -/
theorem ok_rnk {fx : am_X0} {d mi pc : Nat} {ls : am_Ls} {st : List am_V} {m : am_M} {r : List am_V} (h : ok d mi pc ls st m (fun rr m' => rr = r ∧ m' = m)) (hfx : FX fx) : rn fx d (0, 0) mi pc ls st (st0 m) (r, st0 m) := by
  obtain ⟨r1, m1, ⟨h1, h2⟩, h3⟩ := h
  have := h3 fx hfx
  rw [h1, h2] at this
  exact this
theorem usc_0 {Q : List am_V → am_M → Prop} {m : am_M}   (H : Q [.inl 0] m) : ok 0 21 0 [some (.inr (.inr (some 2000)))] [] m Q := by
  refine ok_sg (pc' := 14) (ls' := [some (.inr (.inr (some 2000)))]) (st' := [.inl 0]) (m' := m) (fun fx hfx o hk => ?_) ?_
  · refine r_k (pc' := 3) (v := .inl 1) hM_21 d_21_0 rfl (by decide +kernel) ?_
    refine r_if (pc' := 13) (pc2 := 6) hM_21 d_21_3 (by decide) rfl (fun hc => absurd hc (show ¬ (am_s 1 = 0) by decide)) (fun _ => ?_)
    refine r_ld (pc' := 7) hM_21 d_21_6 rfl rfl ?_
    refine r_gF (pc' := 10) (v := .inl 0) hM_21 d_21_7 rfl (by decide) (by decide +kernel) ?_
    refine r_go (pc' := 14) hM_21 d_21_10 (by decide) ?_
    exact hk
  exact ok_rt (fun fx _ => rt_n hM_21 d_21_14 rfl (by decide) (by decide +kernel)) H
theorem sc_0 {m : am_M} : ok 0 21 0 (am_ent 1 [.inr (.inr (some 2000))]) [] m (fun rr m' => rr = [.inl 0] ∧ m' = m) := usc_0 ⟨rfl, rfl⟩
theorem usl_0 {Q : List am_V → am_M → Prop} {m : am_M}   (H : Q [.inl 1] m) : ok 0 23 0 [some (.inr (.inr (some 2000)))] [] m Q := by
  refine ok_sg (pc' := 18) (ls' := [some (.inr (.inr (some 2000)))]) (st' := [.inl 1]) (m' := m) (fun fx hfx o hk => ?_) ?_
  · refine r_k (pc' := 3) (v := .inl 1) hM_23 d_23_0 rfl (by decide +kernel) ?_
    refine r_if (pc' := 17) (pc2 := 6) hM_23 d_23_3 (by decide) rfl (fun hc => absurd hc (show ¬ (am_s 1 = 0) by decide)) (fun _ => ?_)
    refine r_ld (pc' := 7) hM_23 d_23_6 rfl rfl ?_
    refine r_gF (pc' := 10) (v := .inl 0) hM_23 d_23_7 rfl (by decide) (by decide +kernel) ?_
    refine r_if (pc' := 17) (pc2 := 13) hM_23 d_23_10 (by decide) rfl (fun hc => absurd hc (show ¬ (¬ am_s 0 = 0) by decide)) (fun _ => ?_)
    refine r_k (pc' := 14) (v := .inl 1) hM_23 d_23_13 rfl rfl ?_
    refine r_go (pc' := 18) hM_23 d_23_14 (by decide) ?_
    exact hk
  exact ok_rt (fun fx _ => rt_z hM_23 d_23_18 rfl (by decide)) H
theorem sl_0 {m : am_M} : ok 0 23 0 (am_ent 1 [.inr (.inr (some 2000))]) [] m (fun rr m' => rr = [.inl 1] ∧ m' = m) := usl_0 ⟨rfl, rfl⟩
theorem usc_1 {Q : List am_V → am_M → Prop} {m : am_M}   (H : Q [.inl 0] m) : ok 0 21 0 [some (.inr (.inr (some 2001)))] [] m Q := by
  refine ok_sg (pc' := 14) (ls' := [some (.inr (.inr (some 2001)))]) (st' := [.inl 0]) (m' := m) (fun fx hfx o hk => ?_) ?_
  · refine r_k (pc' := 3) (v := .inl 1) hM_21 d_21_0 rfl (by decide +kernel) ?_
    refine r_if (pc' := 13) (pc2 := 6) hM_21 d_21_3 (by decide) rfl (fun hc => absurd hc (show ¬ (am_s 1 = 0) by decide)) (fun _ => ?_)
    refine r_ld (pc' := 7) hM_21 d_21_6 rfl rfl ?_
    refine r_gF (pc' := 10) (v := .inl 0) hM_21 d_21_7 rfl (by decide) (by decide +kernel) ?_
    refine r_go (pc' := 14) hM_21 d_21_10 (by decide) ?_
    exact hk
  exact ok_rt (fun fx _ => rt_n hM_21 d_21_14 rfl (by decide) (by decide +kernel)) H
theorem sc_1 {m : am_M} : ok 0 21 0 (am_ent 1 [.inr (.inr (some 2001))]) [] m (fun rr m' => rr = [.inl 0] ∧ m' = m) := usc_1 ⟨rfl, rfl⟩
theorem usl_1 {Q : List am_V → am_M → Prop} {m : am_M}   (H : Q [.inl 1] m) : ok 0 23 0 [some (.inr (.inr (some 2001)))] [] m Q := by
  refine ok_sg (pc' := 18) (ls' := [some (.inr (.inr (some 2001)))]) (st' := [.inl 1]) (m' := m) (fun fx hfx o hk => ?_) ?_
  · refine r_k (pc' := 3) (v := .inl 1) hM_23 d_23_0 rfl (by decide +kernel) ?_
    refine r_if (pc' := 17) (pc2 := 6) hM_23 d_23_3 (by decide) rfl (fun hc => absurd hc (show ¬ (am_s 1 = 0) by decide)) (fun _ => ?_)
    refine r_ld (pc' := 7) hM_23 d_23_6 rfl rfl ?_
    refine r_gF (pc' := 10) (v := .inl 0) hM_23 d_23_7 rfl (by decide) (by decide +kernel) ?_
    refine r_if (pc' := 17) (pc2 := 13) hM_23 d_23_10 (by decide) rfl (fun hc => absurd hc (show ¬ (¬ am_s 0 = 0) by decide)) (fun _ => ?_)
    refine r_k (pc' := 14) (v := .inl 1) hM_23 d_23_13 rfl rfl ?_
    refine r_go (pc' := 18) hM_23 d_23_14 (by decide) ?_
    exact hk
  exact ok_rt (fun fx _ => rt_z hM_23 d_23_18 rfl (by decide)) H
theorem sl_1 {m : am_M} : ok 0 23 0 (am_ent 1 [.inr (.inr (some 2001))]) [] m (fun rr m' => rr = [.inl 1] ∧ m' = m) := usl_1 ⟨rfl, rfl⟩
theorem usc_2 {Q : List am_V → am_M → Prop} {m : am_M}   (H : Q [.inl 0] m) : ok 0 21 0 [some (.inr (.inr (some 2002)))] [] m Q := by
  refine ok_sg (pc' := 14) (ls' := [some (.inr (.inr (some 2002)))]) (st' := [.inl 0]) (m' := m) (fun fx hfx o hk => ?_) ?_
  · refine r_k (pc' := 3) (v := .inl 1) hM_21 d_21_0 rfl (by decide +kernel) ?_
    refine r_if (pc' := 13) (pc2 := 6) hM_21 d_21_3 (by decide) rfl (fun hc => absurd hc (show ¬ (am_s 1 = 0) by decide)) (fun _ => ?_)
    refine r_ld (pc' := 7) hM_21 d_21_6 rfl rfl ?_
    refine r_gF (pc' := 10) (v := .inl 0) hM_21 d_21_7 rfl (by decide) (by decide +kernel) ?_
    refine r_go (pc' := 14) hM_21 d_21_10 (by decide) ?_
    exact hk
  exact ok_rt (fun fx _ => rt_n hM_21 d_21_14 rfl (by decide) (by decide +kernel)) H
theorem sc_2 {m : am_M} : ok 0 21 0 (am_ent 1 [.inr (.inr (some 2002))]) [] m (fun rr m' => rr = [.inl 0] ∧ m' = m) := usc_2 ⟨rfl, rfl⟩
theorem usl_2 {Q : List am_V → am_M → Prop} {m : am_M}   (H : Q [.inl 1] m) : ok 0 23 0 [some (.inr (.inr (some 2002)))] [] m Q := by
  refine ok_sg (pc' := 18) (ls' := [some (.inr (.inr (some 2002)))]) (st' := [.inl 1]) (m' := m) (fun fx hfx o hk => ?_) ?_
  · refine r_k (pc' := 3) (v := .inl 1) hM_23 d_23_0 rfl (by decide +kernel) ?_
    refine r_if (pc' := 17) (pc2 := 6) hM_23 d_23_3 (by decide) rfl (fun hc => absurd hc (show ¬ (am_s 1 = 0) by decide)) (fun _ => ?_)
    refine r_ld (pc' := 7) hM_23 d_23_6 rfl rfl ?_
    refine r_gF (pc' := 10) (v := .inl 0) hM_23 d_23_7 rfl (by decide) (by decide +kernel) ?_
    refine r_if (pc' := 17) (pc2 := 13) hM_23 d_23_10 (by decide) rfl (fun hc => absurd hc (show ¬ (¬ am_s 0 = 0) by decide)) (fun _ => ?_)
    refine r_k (pc' := 14) (v := .inl 1) hM_23 d_23_13 rfl rfl ?_
    refine r_go (pc' := 18) hM_23 d_23_14 (by decide) ?_
    exact hk
  exact ok_rt (fun fx _ => rt_z hM_23 d_23_18 rfl (by decide)) H
theorem sl_2 {m : am_M} : ok 0 23 0 (am_ent 1 [.inr (.inr (some 2002))]) [] m (fun rr m' => rr = [.inl 1] ∧ m' = m) := usl_2 ⟨rfl, rfl⟩
theorem usc_3 {Q : List am_V → am_M → Prop} {m : am_M}   (H : Q [.inl 0] m) : ok 0 21 0 [some (.inr (.inr (some 2003)))] [] m Q := by
  refine ok_sg (pc' := 14) (ls' := [some (.inr (.inr (some 2003)))]) (st' := [.inl 0]) (m' := m) (fun fx hfx o hk => ?_) ?_
  · refine r_k (pc' := 3) (v := .inl 1) hM_21 d_21_0 rfl (by decide +kernel) ?_
    refine r_if (pc' := 13) (pc2 := 6) hM_21 d_21_3 (by decide) rfl (fun hc => absurd hc (show ¬ (am_s 1 = 0) by decide)) (fun _ => ?_)
    refine r_ld (pc' := 7) hM_21 d_21_6 rfl rfl ?_
    refine r_gF (pc' := 10) (v := .inl 0) hM_21 d_21_7 rfl (by decide) (by decide +kernel) ?_
    refine r_go (pc' := 14) hM_21 d_21_10 (by decide) ?_
    exact hk
  exact ok_rt (fun fx _ => rt_n hM_21 d_21_14 rfl (by decide) (by decide +kernel)) H
theorem sc_3 {m : am_M} : ok 0 21 0 (am_ent 1 [.inr (.inr (some 2003))]) [] m (fun rr m' => rr = [.inl 0] ∧ m' = m) := usc_3 ⟨rfl, rfl⟩
theorem usl_3 {Q : List am_V → am_M → Prop} {m : am_M}   (H : Q [.inl 1] m) : ok 0 23 0 [some (.inr (.inr (some 2003)))] [] m Q := by
  refine ok_sg (pc' := 18) (ls' := [some (.inr (.inr (some 2003)))]) (st' := [.inl 1]) (m' := m) (fun fx hfx o hk => ?_) ?_
  · refine r_k (pc' := 3) (v := .inl 1) hM_23 d_23_0 rfl (by decide +kernel) ?_
    refine r_if (pc' := 17) (pc2 := 6) hM_23 d_23_3 (by decide) rfl (fun hc => absurd hc (show ¬ (am_s 1 = 0) by decide)) (fun _ => ?_)
    refine r_ld (pc' := 7) hM_23 d_23_6 rfl rfl ?_
    refine r_gF (pc' := 10) (v := .inl 0) hM_23 d_23_7 rfl (by decide) (by decide +kernel) ?_
    refine r_if (pc' := 17) (pc2 := 13) hM_23 d_23_10 (by decide) rfl (fun hc => absurd hc (show ¬ (¬ am_s 0 = 0) by decide)) (fun _ => ?_)
    refine r_k (pc' := 14) (v := .inl 1) hM_23 d_23_13 rfl rfl ?_
    refine r_go (pc' := 18) hM_23 d_23_14 (by decide) ?_
    exact hk
  exact ok_rt (fun fx _ => rt_z hM_23 d_23_18 rfl (by decide)) H
theorem sl_3 {m : am_M} : ok 0 23 0 (am_ent 1 [.inr (.inr (some 2003))]) [] m (fun rr m' => rr = [.inl 1] ∧ m' = m) := usl_3 ⟨rfl, rfl⟩
theorem usc_4 {Q : List am_V → am_M → Prop} {m : am_M}   (H : Q [.inl 0] m) : ok 0 21 0 [some (.inr (.inr (some 2004)))] [] m Q := by
  refine ok_sg (pc' := 14) (ls' := [some (.inr (.inr (some 2004)))]) (st' := [.inl 0]) (m' := m) (fun fx hfx o hk => ?_) ?_
  · refine r_k (pc' := 3) (v := .inl 1) hM_21 d_21_0 rfl (by decide +kernel) ?_
    refine r_if (pc' := 13) (pc2 := 6) hM_21 d_21_3 (by decide) rfl (fun hc => absurd hc (show ¬ (am_s 1 = 0) by decide)) (fun _ => ?_)
    refine r_ld (pc' := 7) hM_21 d_21_6 rfl rfl ?_
    refine r_gF (pc' := 10) (v := .inl 0) hM_21 d_21_7 rfl (by decide) (by decide +kernel) ?_
    refine r_go (pc' := 14) hM_21 d_21_10 (by decide) ?_
    exact hk
  exact ok_rt (fun fx _ => rt_n hM_21 d_21_14 rfl (by decide) (by decide +kernel)) H
theorem sc_4 {m : am_M} : ok 0 21 0 (am_ent 1 [.inr (.inr (some 2004))]) [] m (fun rr m' => rr = [.inl 0] ∧ m' = m) := usc_4 ⟨rfl, rfl⟩
theorem usl_4 {Q : List am_V → am_M → Prop} {m : am_M}   (H : Q [.inl 1] m) : ok 0 23 0 [some (.inr (.inr (some 2004)))] [] m Q := by
  refine ok_sg (pc' := 18) (ls' := [some (.inr (.inr (some 2004)))]) (st' := [.inl 1]) (m' := m) (fun fx hfx o hk => ?_) ?_
  · refine r_k (pc' := 3) (v := .inl 1) hM_23 d_23_0 rfl (by decide +kernel) ?_
    refine r_if (pc' := 17) (pc2 := 6) hM_23 d_23_3 (by decide) rfl (fun hc => absurd hc (show ¬ (am_s 1 = 0) by decide)) (fun _ => ?_)
    refine r_ld (pc' := 7) hM_23 d_23_6 rfl rfl ?_
    refine r_gF (pc' := 10) (v := .inl 0) hM_23 d_23_7 rfl (by decide) (by decide +kernel) ?_
    refine r_if (pc' := 17) (pc2 := 13) hM_23 d_23_10 (by decide) rfl (fun hc => absurd hc (show ¬ (¬ am_s 0 = 0) by decide)) (fun _ => ?_)
    refine r_k (pc' := 14) (v := .inl 1) hM_23 d_23_13 rfl rfl ?_
    refine r_go (pc' := 18) hM_23 d_23_14 (by decide) ?_
    exact hk
  exact ok_rt (fun fx _ => rt_z hM_23 d_23_18 rfl (by decide)) H
theorem sl_4 {m : am_M} : ok 0 23 0 (am_ent 1 [.inr (.inr (some 2004))]) [] m (fun rr m' => rr = [.inl 1] ∧ m' = m) := usl_4 ⟨rfl, rfl⟩
theorem usc_5 {Q : List am_V → am_M → Prop} {m : am_M}   (H : Q [.inl 0] m) : ok 0 21 0 [some (.inr (.inr (some 2005)))] [] m Q := by
  refine ok_sg (pc' := 14) (ls' := [some (.inr (.inr (some 2005)))]) (st' := [.inl 0]) (m' := m) (fun fx hfx o hk => ?_) ?_
  · refine r_k (pc' := 3) (v := .inl 1) hM_21 d_21_0 rfl (by decide +kernel) ?_
    refine r_if (pc' := 13) (pc2 := 6) hM_21 d_21_3 (by decide) rfl (fun hc => absurd hc (show ¬ (am_s 1 = 0) by decide)) (fun _ => ?_)
    refine r_ld (pc' := 7) hM_21 d_21_6 rfl rfl ?_
    refine r_gF (pc' := 10) (v := .inl 0) hM_21 d_21_7 rfl (by decide) (by decide +kernel) ?_
    refine r_go (pc' := 14) hM_21 d_21_10 (by decide) ?_
    exact hk
  exact ok_rt (fun fx _ => rt_n hM_21 d_21_14 rfl (by decide) (by decide +kernel)) H
theorem sc_5 {m : am_M} : ok 0 21 0 (am_ent 1 [.inr (.inr (some 2005))]) [] m (fun rr m' => rr = [.inl 0] ∧ m' = m) := usc_5 ⟨rfl, rfl⟩
theorem usl_5 {Q : List am_V → am_M → Prop} {m : am_M}   (H : Q [.inl 1] m) : ok 0 23 0 [some (.inr (.inr (some 2005)))] [] m Q := by
  refine ok_sg (pc' := 18) (ls' := [some (.inr (.inr (some 2005)))]) (st' := [.inl 1]) (m' := m) (fun fx hfx o hk => ?_) ?_
  · refine r_k (pc' := 3) (v := .inl 1) hM_23 d_23_0 rfl (by decide +kernel) ?_
    refine r_if (pc' := 17) (pc2 := 6) hM_23 d_23_3 (by decide) rfl (fun hc => absurd hc (show ¬ (am_s 1 = 0) by decide)) (fun _ => ?_)
    refine r_ld (pc' := 7) hM_23 d_23_6 rfl rfl ?_
    refine r_gF (pc' := 10) (v := .inl 0) hM_23 d_23_7 rfl (by decide) (by decide +kernel) ?_
    refine r_if (pc' := 17) (pc2 := 13) hM_23 d_23_10 (by decide) rfl (fun hc => absurd hc (show ¬ (¬ am_s 0 = 0) by decide)) (fun _ => ?_)
    refine r_k (pc' := 14) (v := .inl 1) hM_23 d_23_13 rfl rfl ?_
    refine r_go (pc' := 18) hM_23 d_23_14 (by decide) ?_
    exact hk
  exact ok_rt (fun fx _ => rt_z hM_23 d_23_18 rfl (by decide)) H
theorem sl_5 {m : am_M} : ok 0 23 0 (am_ent 1 [.inr (.inr (some 2005))]) [] m (fun rr m' => rr = [.inl 1] ∧ m' = m) := usl_5 ⟨rfl, rfl⟩
theorem usc_6 {Q : List am_V → am_M → Prop} {m : am_M}   (H : Q [.inl 0] m) : ok 0 21 0 [some (.inr (.inr (some 2006)))] [] m Q := by
  refine ok_sg (pc' := 14) (ls' := [some (.inr (.inr (some 2006)))]) (st' := [.inl 0]) (m' := m) (fun fx hfx o hk => ?_) ?_
  · refine r_k (pc' := 3) (v := .inl 1) hM_21 d_21_0 rfl (by decide +kernel) ?_
    refine r_if (pc' := 13) (pc2 := 6) hM_21 d_21_3 (by decide) rfl (fun hc => absurd hc (show ¬ (am_s 1 = 0) by decide)) (fun _ => ?_)
    refine r_ld (pc' := 7) hM_21 d_21_6 rfl rfl ?_
    refine r_gF (pc' := 10) (v := .inl 0) hM_21 d_21_7 rfl (by decide) (by decide +kernel) ?_
    refine r_go (pc' := 14) hM_21 d_21_10 (by decide) ?_
    exact hk
  exact ok_rt (fun fx _ => rt_n hM_21 d_21_14 rfl (by decide) (by decide +kernel)) H
theorem sc_6 {m : am_M} : ok 0 21 0 (am_ent 1 [.inr (.inr (some 2006))]) [] m (fun rr m' => rr = [.inl 0] ∧ m' = m) := usc_6 ⟨rfl, rfl⟩
theorem usl_6 {Q : List am_V → am_M → Prop} {m : am_M}   (H : Q [.inl 1] m) : ok 0 23 0 [some (.inr (.inr (some 2006)))] [] m Q := by
  refine ok_sg (pc' := 18) (ls' := [some (.inr (.inr (some 2006)))]) (st' := [.inl 1]) (m' := m) (fun fx hfx o hk => ?_) ?_
  · refine r_k (pc' := 3) (v := .inl 1) hM_23 d_23_0 rfl (by decide +kernel) ?_
    refine r_if (pc' := 17) (pc2 := 6) hM_23 d_23_3 (by decide) rfl (fun hc => absurd hc (show ¬ (am_s 1 = 0) by decide)) (fun _ => ?_)
    refine r_ld (pc' := 7) hM_23 d_23_6 rfl rfl ?_
    refine r_gF (pc' := 10) (v := .inl 0) hM_23 d_23_7 rfl (by decide) (by decide +kernel) ?_
    refine r_if (pc' := 17) (pc2 := 13) hM_23 d_23_10 (by decide) rfl (fun hc => absurd hc (show ¬ (¬ am_s 0 = 0) by decide)) (fun _ => ?_)
    refine r_k (pc' := 14) (v := .inl 1) hM_23 d_23_13 rfl rfl ?_
    refine r_go (pc' := 18) hM_23 d_23_14 (by decide) ?_
    exact hk
  exact ok_rt (fun fx _ => rt_z hM_23 d_23_18 rfl (by decide)) H
theorem sl_6 {m : am_M} : ok 0 23 0 (am_ent 1 [.inr (.inr (some 2006))]) [] m (fun rr m' => rr = [.inl 1] ∧ m' = m) := usl_6 ⟨rfl, rfl⟩
theorem usc_7 {Q : List am_V → am_M → Prop} {m : am_M}   (H : Q [.inl 0] m) : ok 0 21 0 [some (.inr (.inr (some 2007)))] [] m Q := by
  refine ok_sg (pc' := 14) (ls' := [some (.inr (.inr (some 2007)))]) (st' := [.inl 0]) (m' := m) (fun fx hfx o hk => ?_) ?_
  · refine r_k (pc' := 3) (v := .inl 1) hM_21 d_21_0 rfl (by decide +kernel) ?_
    refine r_if (pc' := 13) (pc2 := 6) hM_21 d_21_3 (by decide) rfl (fun hc => absurd hc (show ¬ (am_s 1 = 0) by decide)) (fun _ => ?_)
    refine r_ld (pc' := 7) hM_21 d_21_6 rfl rfl ?_
    refine r_gF (pc' := 10) (v := .inl 0) hM_21 d_21_7 rfl (by decide) (by decide +kernel) ?_
    refine r_go (pc' := 14) hM_21 d_21_10 (by decide) ?_
    exact hk
  exact ok_rt (fun fx _ => rt_n hM_21 d_21_14 rfl (by decide) (by decide +kernel)) H
theorem sc_7 {m : am_M} : ok 0 21 0 (am_ent 1 [.inr (.inr (some 2007))]) [] m (fun rr m' => rr = [.inl 0] ∧ m' = m) := usc_7 ⟨rfl, rfl⟩
theorem usl_7 {Q : List am_V → am_M → Prop} {m : am_M}   (H : Q [.inl 1] m) : ok 0 23 0 [some (.inr (.inr (some 2007)))] [] m Q := by
  refine ok_sg (pc' := 18) (ls' := [some (.inr (.inr (some 2007)))]) (st' := [.inl 1]) (m' := m) (fun fx hfx o hk => ?_) ?_
  · refine r_k (pc' := 3) (v := .inl 1) hM_23 d_23_0 rfl (by decide +kernel) ?_
    refine r_if (pc' := 17) (pc2 := 6) hM_23 d_23_3 (by decide) rfl (fun hc => absurd hc (show ¬ (am_s 1 = 0) by decide)) (fun _ => ?_)
    refine r_ld (pc' := 7) hM_23 d_23_6 rfl rfl ?_
    refine r_gF (pc' := 10) (v := .inl 0) hM_23 d_23_7 rfl (by decide) (by decide +kernel) ?_
    refine r_if (pc' := 17) (pc2 := 13) hM_23 d_23_10 (by decide) rfl (fun hc => absurd hc (show ¬ (¬ am_s 0 = 0) by decide)) (fun _ => ?_)
    refine r_k (pc' := 14) (v := .inl 1) hM_23 d_23_13 rfl rfl ?_
    refine r_go (pc' := 18) hM_23 d_23_14 (by decide) ?_
    exact hk
  exact ok_rt (fun fx _ => rt_z hM_23 d_23_18 rfl (by decide)) H
theorem sl_7 {m : am_M} : ok 0 23 0 (am_ent 1 [.inr (.inr (some 2007))]) [] m (fun rr m' => rr = [.inl 1] ∧ m' = m) := usl_7 ⟨rfl, rfl⟩
theorem usc_8 {Q : List am_V → am_M → Prop} {m : am_M}   (H : Q [.inl 0] m) : ok 0 21 0 [some (.inr (.inr (some 2008)))] [] m Q := by
  refine ok_sg (pc' := 14) (ls' := [some (.inr (.inr (some 2008)))]) (st' := [.inl 0]) (m' := m) (fun fx hfx o hk => ?_) ?_
  · refine r_k (pc' := 3) (v := .inl 1) hM_21 d_21_0 rfl (by decide +kernel) ?_
    refine r_if (pc' := 13) (pc2 := 6) hM_21 d_21_3 (by decide) rfl (fun hc => absurd hc (show ¬ (am_s 1 = 0) by decide)) (fun _ => ?_)
    refine r_ld (pc' := 7) hM_21 d_21_6 rfl rfl ?_
    refine r_gF (pc' := 10) (v := .inl 0) hM_21 d_21_7 rfl (by decide) (by decide +kernel) ?_
    refine r_go (pc' := 14) hM_21 d_21_10 (by decide) ?_
    exact hk
  exact ok_rt (fun fx _ => rt_n hM_21 d_21_14 rfl (by decide) (by decide +kernel)) H
theorem sc_8 {m : am_M} : ok 0 21 0 (am_ent 1 [.inr (.inr (some 2008))]) [] m (fun rr m' => rr = [.inl 0] ∧ m' = m) := usc_8 ⟨rfl, rfl⟩
theorem usl_8 {Q : List am_V → am_M → Prop} {m : am_M}   (H : Q [.inl 1] m) : ok 0 23 0 [some (.inr (.inr (some 2008)))] [] m Q := by
  refine ok_sg (pc' := 18) (ls' := [some (.inr (.inr (some 2008)))]) (st' := [.inl 1]) (m' := m) (fun fx hfx o hk => ?_) ?_
  · refine r_k (pc' := 3) (v := .inl 1) hM_23 d_23_0 rfl (by decide +kernel) ?_
    refine r_if (pc' := 17) (pc2 := 6) hM_23 d_23_3 (by decide) rfl (fun hc => absurd hc (show ¬ (am_s 1 = 0) by decide)) (fun _ => ?_)
    refine r_ld (pc' := 7) hM_23 d_23_6 rfl rfl ?_
    refine r_gF (pc' := 10) (v := .inl 0) hM_23 d_23_7 rfl (by decide) (by decide +kernel) ?_
    refine r_if (pc' := 17) (pc2 := 13) hM_23 d_23_10 (by decide) rfl (fun hc => absurd hc (show ¬ (¬ am_s 0 = 0) by decide)) (fun _ => ?_)
    refine r_k (pc' := 14) (v := .inl 1) hM_23 d_23_13 rfl rfl ?_
    refine r_go (pc' := 18) hM_23 d_23_14 (by decide) ?_
    exact hk
  exact ok_rt (fun fx _ => rt_z hM_23 d_23_18 rfl (by decide)) H
theorem sl_8 {m : am_M} : ok 0 23 0 (am_ent 1 [.inr (.inr (some 2008))]) [] m (fun rr m' => rr = [.inl 1] ∧ m' = m) := usl_8 ⟨rfl, rfl⟩
theorem usc_9 {Q : List am_V → am_M → Prop} {m : am_M}   (H : Q [.inl 0] m) : ok 0 21 0 [some (.inr (.inr (some 2009)))] [] m Q := by
  refine ok_sg (pc' := 14) (ls' := [some (.inr (.inr (some 2009)))]) (st' := [.inl 0]) (m' := m) (fun fx hfx o hk => ?_) ?_
  · refine r_k (pc' := 3) (v := .inl 1) hM_21 d_21_0 rfl (by decide +kernel) ?_
    refine r_if (pc' := 13) (pc2 := 6) hM_21 d_21_3 (by decide) rfl (fun hc => absurd hc (show ¬ (am_s 1 = 0) by decide)) (fun _ => ?_)
    refine r_ld (pc' := 7) hM_21 d_21_6 rfl rfl ?_
    refine r_gF (pc' := 10) (v := .inl 0) hM_21 d_21_7 rfl (by decide) (by decide +kernel) ?_
    refine r_go (pc' := 14) hM_21 d_21_10 (by decide) ?_
    exact hk
  exact ok_rt (fun fx _ => rt_n hM_21 d_21_14 rfl (by decide) (by decide +kernel)) H
theorem sc_9 {m : am_M} : ok 0 21 0 (am_ent 1 [.inr (.inr (some 2009))]) [] m (fun rr m' => rr = [.inl 0] ∧ m' = m) := usc_9 ⟨rfl, rfl⟩
theorem usl_9 {Q : List am_V → am_M → Prop} {m : am_M}   (H : Q [.inl 1] m) : ok 0 23 0 [some (.inr (.inr (some 2009)))] [] m Q := by
  refine ok_sg (pc' := 18) (ls' := [some (.inr (.inr (some 2009)))]) (st' := [.inl 1]) (m' := m) (fun fx hfx o hk => ?_) ?_
  · refine r_k (pc' := 3) (v := .inl 1) hM_23 d_23_0 rfl (by decide +kernel) ?_
    refine r_if (pc' := 17) (pc2 := 6) hM_23 d_23_3 (by decide) rfl (fun hc => absurd hc (show ¬ (am_s 1 = 0) by decide)) (fun _ => ?_)
    refine r_ld (pc' := 7) hM_23 d_23_6 rfl rfl ?_
    refine r_gF (pc' := 10) (v := .inl 0) hM_23 d_23_7 rfl (by decide) (by decide +kernel) ?_
    refine r_if (pc' := 17) (pc2 := 13) hM_23 d_23_10 (by decide) rfl (fun hc => absurd hc (show ¬ (¬ am_s 0 = 0) by decide)) (fun _ => ?_)
    refine r_k (pc' := 14) (v := .inl 1) hM_23 d_23_13 rfl rfl ?_
    refine r_go (pc' := 18) hM_23 d_23_14 (by decide) ?_
    exact hk
  exact ok_rt (fun fx _ => rt_z hM_23 d_23_18 rfl (by decide)) H
theorem sl_9 {m : am_M} : ok 0 23 0 (am_ent 1 [.inr (.inr (some 2009))]) [] m (fun rr m' => rr = [.inl 1] ∧ m' = m) := usl_9 ⟨rfl, rfl⟩
theorem usc_10 {Q : List am_V → am_M → Prop} {m : am_M}   (H : Q [.inl 0] m) : ok 0 21 0 [some (.inr (.inr (some 2010)))] [] m Q := by
  refine ok_sg (pc' := 14) (ls' := [some (.inr (.inr (some 2010)))]) (st' := [.inl 0]) (m' := m) (fun fx hfx o hk => ?_) ?_
  · refine r_k (pc' := 3) (v := .inl 1) hM_21 d_21_0 rfl (by decide +kernel) ?_
    refine r_if (pc' := 13) (pc2 := 6) hM_21 d_21_3 (by decide) rfl (fun hc => absurd hc (show ¬ (am_s 1 = 0) by decide)) (fun _ => ?_)
    refine r_ld (pc' := 7) hM_21 d_21_6 rfl rfl ?_
    refine r_gF (pc' := 10) (v := .inl 0) hM_21 d_21_7 rfl (by decide) (by decide +kernel) ?_
    refine r_go (pc' := 14) hM_21 d_21_10 (by decide) ?_
    exact hk
  exact ok_rt (fun fx _ => rt_n hM_21 d_21_14 rfl (by decide) (by decide +kernel)) H
theorem sc_10 {m : am_M} : ok 0 21 0 (am_ent 1 [.inr (.inr (some 2010))]) [] m (fun rr m' => rr = [.inl 0] ∧ m' = m) := usc_10 ⟨rfl, rfl⟩
theorem usl_10 {Q : List am_V → am_M → Prop} {m : am_M}   (H : Q [.inl 1] m) : ok 0 23 0 [some (.inr (.inr (some 2010)))] [] m Q := by
  refine ok_sg (pc' := 18) (ls' := [some (.inr (.inr (some 2010)))]) (st' := [.inl 1]) (m' := m) (fun fx hfx o hk => ?_) ?_
  · refine r_k (pc' := 3) (v := .inl 1) hM_23 d_23_0 rfl (by decide +kernel) ?_
    refine r_if (pc' := 17) (pc2 := 6) hM_23 d_23_3 (by decide) rfl (fun hc => absurd hc (show ¬ (am_s 1 = 0) by decide)) (fun _ => ?_)
    refine r_ld (pc' := 7) hM_23 d_23_6 rfl rfl ?_
    refine r_gF (pc' := 10) (v := .inl 0) hM_23 d_23_7 rfl (by decide) (by decide +kernel) ?_
    refine r_if (pc' := 17) (pc2 := 13) hM_23 d_23_10 (by decide) rfl (fun hc => absurd hc (show ¬ (¬ am_s 0 = 0) by decide)) (fun _ => ?_)
    refine r_k (pc' := 14) (v := .inl 1) hM_23 d_23_13 rfl rfl ?_
    refine r_go (pc' := 18) hM_23 d_23_14 (by decide) ?_
    exact hk
  exact ok_rt (fun fx _ => rt_z hM_23 d_23_18 rfl (by decide)) H
theorem sl_10 {m : am_M} : ok 0 23 0 (am_ent 1 [.inr (.inr (some 2010))]) [] m (fun rr m' => rr = [.inl 1] ∧ m' = m) := usl_10 ⟨rfl, rfl⟩
theorem usc_11 {Q : List am_V → am_M → Prop} {m : am_M}   (H : Q [.inl 0] m) : ok 0 21 0 [some (.inr (.inr (some 2011)))] [] m Q := by
  refine ok_sg (pc' := 14) (ls' := [some (.inr (.inr (some 2011)))]) (st' := [.inl 0]) (m' := m) (fun fx hfx o hk => ?_) ?_
  · refine r_k (pc' := 3) (v := .inl 1) hM_21 d_21_0 rfl (by decide +kernel) ?_
    refine r_if (pc' := 13) (pc2 := 6) hM_21 d_21_3 (by decide) rfl (fun hc => absurd hc (show ¬ (am_s 1 = 0) by decide)) (fun _ => ?_)
    refine r_ld (pc' := 7) hM_21 d_21_6 rfl rfl ?_
    refine r_gF (pc' := 10) (v := .inl 0) hM_21 d_21_7 rfl (by decide) (by decide +kernel) ?_
    refine r_go (pc' := 14) hM_21 d_21_10 (by decide) ?_
    exact hk
  exact ok_rt (fun fx _ => rt_n hM_21 d_21_14 rfl (by decide) (by decide +kernel)) H
theorem sc_11 {m : am_M} : ok 0 21 0 (am_ent 1 [.inr (.inr (some 2011))]) [] m (fun rr m' => rr = [.inl 0] ∧ m' = m) := usc_11 ⟨rfl, rfl⟩
theorem usl_11 {Q : List am_V → am_M → Prop} {m : am_M}   (H : Q [.inl 1] m) : ok 0 23 0 [some (.inr (.inr (some 2011)))] [] m Q := by
  refine ok_sg (pc' := 18) (ls' := [some (.inr (.inr (some 2011)))]) (st' := [.inl 1]) (m' := m) (fun fx hfx o hk => ?_) ?_
  · refine r_k (pc' := 3) (v := .inl 1) hM_23 d_23_0 rfl (by decide +kernel) ?_
    refine r_if (pc' := 17) (pc2 := 6) hM_23 d_23_3 (by decide) rfl (fun hc => absurd hc (show ¬ (am_s 1 = 0) by decide)) (fun _ => ?_)
    refine r_ld (pc' := 7) hM_23 d_23_6 rfl rfl ?_
    refine r_gF (pc' := 10) (v := .inl 0) hM_23 d_23_7 rfl (by decide) (by decide +kernel) ?_
    refine r_if (pc' := 17) (pc2 := 13) hM_23 d_23_10 (by decide) rfl (fun hc => absurd hc (show ¬ (¬ am_s 0 = 0) by decide)) (fun _ => ?_)
    refine r_k (pc' := 14) (v := .inl 1) hM_23 d_23_13 rfl rfl ?_
    refine r_go (pc' := 18) hM_23 d_23_14 (by decide) ?_
    exact hk
  exact ok_rt (fun fx _ => rt_z hM_23 d_23_18 rfl (by decide)) H
theorem sl_11 {m : am_M} : ok 0 23 0 (am_ent 1 [.inr (.inr (some 2011))]) [] m (fun rr m' => rr = [.inl 1] ∧ m' = m) := usl_11 ⟨rfl, rfl⟩
theorem usn_0 {Q : List am_V → am_M → Prop} {m : am_M}   (H : Q [.inl 3] m) : ok 1 20 0 [some (.inr (.inr (some 2000)))] [] m Q := by
  refine ok_sg (pc' := 10) (ls' := [some (.inr (.inr (some 2000)))]) (st' := [.inl 3]) (m' := m) (fun fx hfx o hk => ?_) ?_
  · refine r_ld (pc' := 1) hM_20 d_20_0 rfl rfl ?_
    refine r_gF (pc' := 4) (v := .inr (.inr (some 3000))) hM_20 d_20_1 rfl (by decide) (by decide +kernel) ?_
    refine r_alF (pc' := 5) (n := 3) hM_20 d_20_4 rfl (by decide) (hfx.2.2 0 (by decide)) (by decide) ?_
    refine r_ld (pc' := 6) hM_20 d_20_5 rfl rfl ?_
    refine r_cl (pc' := 9) (c := (21, 0)) (a := [.inr (.inr (some 2000))]) (q := [.inl 3]) hM_20 d_20_6 rfl (by decide +kernel) hM_21 rfl rfl rfl (Nat.le_of_ble_eq_true rfl) (Nat.le_of_ble_eq_true rfl) (Or.inr rfl) (ok_rnk (sc_0 (m := m)) hfx) (Nat.le_of_ble_eq_true rfl) ?_
    show rn fx 1 (0, 0) 20 9 [some (.inr (.inr (some 2000)))] [.inl 0, .inl 3] (st0 m) o
    refine r_b (pc' := 10) (z := 3) hM_20 d_20_9 rfl (by decide +kernel) ?_
    exact hk
  exact ok_rt (fun fx _ => rt_i hM_20 d_20_10 rfl) H
theorem sn_0 {m : am_M} : ok 1 20 0 (am_ent 1 [.inr (.inr (some 2000))]) [] m (fun rr m' => rr = [.inl 3] ∧ m' = m) := usn_0 ⟨rfl, rfl⟩
theorem usn_1 {Q : List am_V → am_M → Prop} {m : am_M}   (H : Q [.inl 3] m) : ok 1 20 0 [some (.inr (.inr (some 2001)))] [] m Q := by
  refine ok_sg (pc' := 10) (ls' := [some (.inr (.inr (some 2001)))]) (st' := [.inl 3]) (m' := m) (fun fx hfx o hk => ?_) ?_
  · refine r_ld (pc' := 1) hM_20 d_20_0 rfl rfl ?_
    refine r_gF (pc' := 4) (v := .inr (.inr (some 3001))) hM_20 d_20_1 rfl (by decide) (by decide +kernel) ?_
    refine r_alF (pc' := 5) (n := 3) hM_20 d_20_4 rfl (by decide) (hfx.2.2 1 (by decide)) (by decide) ?_
    refine r_ld (pc' := 6) hM_20 d_20_5 rfl rfl ?_
    refine r_cl (pc' := 9) (c := (21, 0)) (a := [.inr (.inr (some 2001))]) (q := [.inl 3]) hM_20 d_20_6 rfl (by decide +kernel) hM_21 rfl rfl rfl (Nat.le_of_ble_eq_true rfl) (Nat.le_of_ble_eq_true rfl) (Or.inr rfl) (ok_rnk (sc_1 (m := m)) hfx) (Nat.le_of_ble_eq_true rfl) ?_
    show rn fx 1 (0, 0) 20 9 [some (.inr (.inr (some 2001)))] [.inl 0, .inl 3] (st0 m) o
    refine r_b (pc' := 10) (z := 3) hM_20 d_20_9 rfl (by decide +kernel) ?_
    exact hk
  exact ok_rt (fun fx _ => rt_i hM_20 d_20_10 rfl) H
theorem sn_1 {m : am_M} : ok 1 20 0 (am_ent 1 [.inr (.inr (some 2001))]) [] m (fun rr m' => rr = [.inl 3] ∧ m' = m) := usn_1 ⟨rfl, rfl⟩
theorem usn_2 {Q : List am_V → am_M → Prop} {m : am_M}   (H : Q [.inl 5] m) : ok 1 20 0 [some (.inr (.inr (some 2002)))] [] m Q := by
  refine ok_sg (pc' := 10) (ls' := [some (.inr (.inr (some 2002)))]) (st' := [.inl 5]) (m' := m) (fun fx hfx o hk => ?_) ?_
  · refine r_ld (pc' := 1) hM_20 d_20_0 rfl rfl ?_
    refine r_gF (pc' := 4) (v := .inr (.inr (some 3002))) hM_20 d_20_1 rfl (by decide) (by decide +kernel) ?_
    refine r_alF (pc' := 5) (n := 5) hM_20 d_20_4 rfl (by decide) (hfx.2.2 2 (by decide)) (by decide) ?_
    refine r_ld (pc' := 6) hM_20 d_20_5 rfl rfl ?_
    refine r_cl (pc' := 9) (c := (21, 0)) (a := [.inr (.inr (some 2002))]) (q := [.inl 5]) hM_20 d_20_6 rfl (by decide +kernel) hM_21 rfl rfl rfl (Nat.le_of_ble_eq_true rfl) (Nat.le_of_ble_eq_true rfl) (Or.inr rfl) (ok_rnk (sc_2 (m := m)) hfx) (Nat.le_of_ble_eq_true rfl) ?_
    show rn fx 1 (0, 0) 20 9 [some (.inr (.inr (some 2002)))] [.inl 0, .inl 5] (st0 m) o
    refine r_b (pc' := 10) (z := 5) hM_20 d_20_9 rfl (by decide +kernel) ?_
    exact hk
  exact ok_rt (fun fx _ => rt_i hM_20 d_20_10 rfl) H
theorem sn_2 {m : am_M} : ok 1 20 0 (am_ent 1 [.inr (.inr (some 2002))]) [] m (fun rr m' => rr = [.inl 5] ∧ m' = m) := usn_2 ⟨rfl, rfl⟩
theorem usn_3 {Q : List am_V → am_M → Prop} {m : am_M}   (H : Q [.inl 4] m) : ok 1 20 0 [some (.inr (.inr (some 2003)))] [] m Q := by
  refine ok_sg (pc' := 10) (ls' := [some (.inr (.inr (some 2003)))]) (st' := [.inl 4]) (m' := m) (fun fx hfx o hk => ?_) ?_
  · refine r_ld (pc' := 1) hM_20 d_20_0 rfl rfl ?_
    refine r_gF (pc' := 4) (v := .inr (.inr (some 3003))) hM_20 d_20_1 rfl (by decide) (by decide +kernel) ?_
    refine r_alF (pc' := 5) (n := 4) hM_20 d_20_4 rfl (by decide) (hfx.2.2 3 (by decide)) (by decide) ?_
    refine r_ld (pc' := 6) hM_20 d_20_5 rfl rfl ?_
    refine r_cl (pc' := 9) (c := (21, 0)) (a := [.inr (.inr (some 2003))]) (q := [.inl 4]) hM_20 d_20_6 rfl (by decide +kernel) hM_21 rfl rfl rfl (Nat.le_of_ble_eq_true rfl) (Nat.le_of_ble_eq_true rfl) (Or.inr rfl) (ok_rnk (sc_3 (m := m)) hfx) (Nat.le_of_ble_eq_true rfl) ?_
    show rn fx 1 (0, 0) 20 9 [some (.inr (.inr (some 2003)))] [.inl 0, .inl 4] (st0 m) o
    refine r_b (pc' := 10) (z := 4) hM_20 d_20_9 rfl (by decide +kernel) ?_
    exact hk
  exact ok_rt (fun fx _ => rt_i hM_20 d_20_10 rfl) H
theorem sn_3 {m : am_M} : ok 1 20 0 (am_ent 1 [.inr (.inr (some 2003))]) [] m (fun rr m' => rr = [.inl 4] ∧ m' = m) := usn_3 ⟨rfl, rfl⟩
theorem usn_4 {Q : List am_V → am_M → Prop} {m : am_M}   (H : Q [.inl 4] m) : ok 1 20 0 [some (.inr (.inr (some 2004)))] [] m Q := by
  refine ok_sg (pc' := 10) (ls' := [some (.inr (.inr (some 2004)))]) (st' := [.inl 4]) (m' := m) (fun fx hfx o hk => ?_) ?_
  · refine r_ld (pc' := 1) hM_20 d_20_0 rfl rfl ?_
    refine r_gF (pc' := 4) (v := .inr (.inr (some 3004))) hM_20 d_20_1 rfl (by decide) (by decide +kernel) ?_
    refine r_alF (pc' := 5) (n := 4) hM_20 d_20_4 rfl (by decide) (hfx.2.2 4 (by decide)) (by decide) ?_
    refine r_ld (pc' := 6) hM_20 d_20_5 rfl rfl ?_
    refine r_cl (pc' := 9) (c := (21, 0)) (a := [.inr (.inr (some 2004))]) (q := [.inl 4]) hM_20 d_20_6 rfl (by decide +kernel) hM_21 rfl rfl rfl (Nat.le_of_ble_eq_true rfl) (Nat.le_of_ble_eq_true rfl) (Or.inr rfl) (ok_rnk (sc_4 (m := m)) hfx) (Nat.le_of_ble_eq_true rfl) ?_
    show rn fx 1 (0, 0) 20 9 [some (.inr (.inr (some 2004)))] [.inl 0, .inl 4] (st0 m) o
    refine r_b (pc' := 10) (z := 4) hM_20 d_20_9 rfl (by decide +kernel) ?_
    exact hk
  exact ok_rt (fun fx _ => rt_i hM_20 d_20_10 rfl) H
theorem sn_4 {m : am_M} : ok 1 20 0 (am_ent 1 [.inr (.inr (some 2004))]) [] m (fun rr m' => rr = [.inl 4] ∧ m' = m) := usn_4 ⟨rfl, rfl⟩
theorem usn_5 {Q : List am_V → am_M → Prop} {m : am_M}   (H : Q [.inl 6] m) : ok 1 20 0 [some (.inr (.inr (some 2005)))] [] m Q := by
  refine ok_sg (pc' := 10) (ls' := [some (.inr (.inr (some 2005)))]) (st' := [.inl 6]) (m' := m) (fun fx hfx o hk => ?_) ?_
  · refine r_ld (pc' := 1) hM_20 d_20_0 rfl rfl ?_
    refine r_gF (pc' := 4) (v := .inr (.inr (some 3005))) hM_20 d_20_1 rfl (by decide) (by decide +kernel) ?_
    refine r_alF (pc' := 5) (n := 6) hM_20 d_20_4 rfl (by decide) (hfx.2.2 5 (by decide)) (by decide) ?_
    refine r_ld (pc' := 6) hM_20 d_20_5 rfl rfl ?_
    refine r_cl (pc' := 9) (c := (21, 0)) (a := [.inr (.inr (some 2005))]) (q := [.inl 6]) hM_20 d_20_6 rfl (by decide +kernel) hM_21 rfl rfl rfl (Nat.le_of_ble_eq_true rfl) (Nat.le_of_ble_eq_true rfl) (Or.inr rfl) (ok_rnk (sc_5 (m := m)) hfx) (Nat.le_of_ble_eq_true rfl) ?_
    show rn fx 1 (0, 0) 20 9 [some (.inr (.inr (some 2005)))] [.inl 0, .inl 6] (st0 m) o
    refine r_b (pc' := 10) (z := 6) hM_20 d_20_9 rfl (by decide +kernel) ?_
    exact hk
  exact ok_rt (fun fx _ => rt_i hM_20 d_20_10 rfl) H
theorem sn_5 {m : am_M} : ok 1 20 0 (am_ent 1 [.inr (.inr (some 2005))]) [] m (fun rr m' => rr = [.inl 6] ∧ m' = m) := usn_5 ⟨rfl, rfl⟩
theorem usn_6 {Q : List am_V → am_M → Prop} {m : am_M}   (H : Q [.inl 3] m) : ok 1 20 0 [some (.inr (.inr (some 2006)))] [] m Q := by
  refine ok_sg (pc' := 10) (ls' := [some (.inr (.inr (some 2006)))]) (st' := [.inl 3]) (m' := m) (fun fx hfx o hk => ?_) ?_
  · refine r_ld (pc' := 1) hM_20 d_20_0 rfl rfl ?_
    refine r_gF (pc' := 4) (v := .inr (.inr (some 3006))) hM_20 d_20_1 rfl (by decide) (by decide +kernel) ?_
    refine r_alF (pc' := 5) (n := 3) hM_20 d_20_4 rfl (by decide) (hfx.2.2 6 (by decide)) (by decide) ?_
    refine r_ld (pc' := 6) hM_20 d_20_5 rfl rfl ?_
    refine r_cl (pc' := 9) (c := (21, 0)) (a := [.inr (.inr (some 2006))]) (q := [.inl 3]) hM_20 d_20_6 rfl (by decide +kernel) hM_21 rfl rfl rfl (Nat.le_of_ble_eq_true rfl) (Nat.le_of_ble_eq_true rfl) (Or.inr rfl) (ok_rnk (sc_6 (m := m)) hfx) (Nat.le_of_ble_eq_true rfl) ?_
    show rn fx 1 (0, 0) 20 9 [some (.inr (.inr (some 2006)))] [.inl 0, .inl 3] (st0 m) o
    refine r_b (pc' := 10) (z := 3) hM_20 d_20_9 rfl (by decide +kernel) ?_
    exact hk
  exact ok_rt (fun fx _ => rt_i hM_20 d_20_10 rfl) H
theorem sn_6 {m : am_M} : ok 1 20 0 (am_ent 1 [.inr (.inr (some 2006))]) [] m (fun rr m' => rr = [.inl 3] ∧ m' = m) := usn_6 ⟨rfl, rfl⟩
theorem usn_7 {Q : List am_V → am_M → Prop} {m : am_M}   (H : Q [.inl 4] m) : ok 1 20 0 [some (.inr (.inr (some 2007)))] [] m Q := by
  refine ok_sg (pc' := 10) (ls' := [some (.inr (.inr (some 2007)))]) (st' := [.inl 4]) (m' := m) (fun fx hfx o hk => ?_) ?_
  · refine r_ld (pc' := 1) hM_20 d_20_0 rfl rfl ?_
    refine r_gF (pc' := 4) (v := .inr (.inr (some 3007))) hM_20 d_20_1 rfl (by decide) (by decide +kernel) ?_
    refine r_alF (pc' := 5) (n := 4) hM_20 d_20_4 rfl (by decide) (hfx.2.2 7 (by decide)) (by decide) ?_
    refine r_ld (pc' := 6) hM_20 d_20_5 rfl rfl ?_
    refine r_cl (pc' := 9) (c := (21, 0)) (a := [.inr (.inr (some 2007))]) (q := [.inl 4]) hM_20 d_20_6 rfl (by decide +kernel) hM_21 rfl rfl rfl (Nat.le_of_ble_eq_true rfl) (Nat.le_of_ble_eq_true rfl) (Or.inr rfl) (ok_rnk (sc_7 (m := m)) hfx) (Nat.le_of_ble_eq_true rfl) ?_
    show rn fx 1 (0, 0) 20 9 [some (.inr (.inr (some 2007)))] [.inl 0, .inl 4] (st0 m) o
    refine r_b (pc' := 10) (z := 4) hM_20 d_20_9 rfl (by decide +kernel) ?_
    exact hk
  exact ok_rt (fun fx _ => rt_i hM_20 d_20_10 rfl) H
theorem sn_7 {m : am_M} : ok 1 20 0 (am_ent 1 [.inr (.inr (some 2007))]) [] m (fun rr m' => rr = [.inl 4] ∧ m' = m) := usn_7 ⟨rfl, rfl⟩
theorem usn_8 {Q : List am_V → am_M → Prop} {m : am_M}   (H : Q [.inl 4] m) : ok 1 20 0 [some (.inr (.inr (some 2008)))] [] m Q := by
  refine ok_sg (pc' := 10) (ls' := [some (.inr (.inr (some 2008)))]) (st' := [.inl 4]) (m' := m) (fun fx hfx o hk => ?_) ?_
  · refine r_ld (pc' := 1) hM_20 d_20_0 rfl rfl ?_
    refine r_gF (pc' := 4) (v := .inr (.inr (some 3008))) hM_20 d_20_1 rfl (by decide) (by decide +kernel) ?_
    refine r_alF (pc' := 5) (n := 4) hM_20 d_20_4 rfl (by decide) (hfx.2.2 8 (by decide)) (by decide) ?_
    refine r_ld (pc' := 6) hM_20 d_20_5 rfl rfl ?_
    refine r_cl (pc' := 9) (c := (21, 0)) (a := [.inr (.inr (some 2008))]) (q := [.inl 4]) hM_20 d_20_6 rfl (by decide +kernel) hM_21 rfl rfl rfl (Nat.le_of_ble_eq_true rfl) (Nat.le_of_ble_eq_true rfl) (Or.inr rfl) (ok_rnk (sc_8 (m := m)) hfx) (Nat.le_of_ble_eq_true rfl) ?_
    show rn fx 1 (0, 0) 20 9 [some (.inr (.inr (some 2008)))] [.inl 0, .inl 4] (st0 m) o
    refine r_b (pc' := 10) (z := 4) hM_20 d_20_9 rfl (by decide +kernel) ?_
    exact hk
  exact ok_rt (fun fx _ => rt_i hM_20 d_20_10 rfl) H
theorem sn_8 {m : am_M} : ok 1 20 0 (am_ent 1 [.inr (.inr (some 2008))]) [] m (fun rr m' => rr = [.inl 4] ∧ m' = m) := usn_8 ⟨rfl, rfl⟩
theorem usn_9 {Q : List am_V → am_M → Prop} {m : am_M}   (H : Q [.inl 3] m) : ok 1 20 0 [some (.inr (.inr (some 2009)))] [] m Q := by
  refine ok_sg (pc' := 10) (ls' := [some (.inr (.inr (some 2009)))]) (st' := [.inl 3]) (m' := m) (fun fx hfx o hk => ?_) ?_
  · refine r_ld (pc' := 1) hM_20 d_20_0 rfl rfl ?_
    refine r_gF (pc' := 4) (v := .inr (.inr (some 3009))) hM_20 d_20_1 rfl (by decide) (by decide +kernel) ?_
    refine r_alF (pc' := 5) (n := 3) hM_20 d_20_4 rfl (by decide) (hfx.2.2 9 (by decide)) (by decide) ?_
    refine r_ld (pc' := 6) hM_20 d_20_5 rfl rfl ?_
    refine r_cl (pc' := 9) (c := (21, 0)) (a := [.inr (.inr (some 2009))]) (q := [.inl 3]) hM_20 d_20_6 rfl (by decide +kernel) hM_21 rfl rfl rfl (Nat.le_of_ble_eq_true rfl) (Nat.le_of_ble_eq_true rfl) (Or.inr rfl) (ok_rnk (sc_9 (m := m)) hfx) (Nat.le_of_ble_eq_true rfl) ?_
    show rn fx 1 (0, 0) 20 9 [some (.inr (.inr (some 2009)))] [.inl 0, .inl 3] (st0 m) o
    refine r_b (pc' := 10) (z := 3) hM_20 d_20_9 rfl (by decide +kernel) ?_
    exact hk
  exact ok_rt (fun fx _ => rt_i hM_20 d_20_10 rfl) H
theorem sn_9 {m : am_M} : ok 1 20 0 (am_ent 1 [.inr (.inr (some 2009))]) [] m (fun rr m' => rr = [.inl 3] ∧ m' = m) := usn_9 ⟨rfl, rfl⟩
theorem usn_10 {Q : List am_V → am_M → Prop} {m : am_M}   (H : Q [.inl 6] m) : ok 1 20 0 [some (.inr (.inr (some 2010)))] [] m Q := by
  refine ok_sg (pc' := 10) (ls' := [some (.inr (.inr (some 2010)))]) (st' := [.inl 6]) (m' := m) (fun fx hfx o hk => ?_) ?_
  · refine r_ld (pc' := 1) hM_20 d_20_0 rfl rfl ?_
    refine r_gF (pc' := 4) (v := .inr (.inr (some 3010))) hM_20 d_20_1 rfl (by decide) (by decide +kernel) ?_
    refine r_alF (pc' := 5) (n := 6) hM_20 d_20_4 rfl (by decide) (hfx.2.2 10 (by decide)) (by decide) ?_
    refine r_ld (pc' := 6) hM_20 d_20_5 rfl rfl ?_
    refine r_cl (pc' := 9) (c := (21, 0)) (a := [.inr (.inr (some 2010))]) (q := [.inl 6]) hM_20 d_20_6 rfl (by decide +kernel) hM_21 rfl rfl rfl (Nat.le_of_ble_eq_true rfl) (Nat.le_of_ble_eq_true rfl) (Or.inr rfl) (ok_rnk (sc_10 (m := m)) hfx) (Nat.le_of_ble_eq_true rfl) ?_
    show rn fx 1 (0, 0) 20 9 [some (.inr (.inr (some 2010)))] [.inl 0, .inl 6] (st0 m) o
    refine r_b (pc' := 10) (z := 6) hM_20 d_20_9 rfl (by decide +kernel) ?_
    exact hk
  exact ok_rt (fun fx _ => rt_i hM_20 d_20_10 rfl) H
theorem sn_10 {m : am_M} : ok 1 20 0 (am_ent 1 [.inr (.inr (some 2010))]) [] m (fun rr m' => rr = [.inl 6] ∧ m' = m) := usn_10 ⟨rfl, rfl⟩
theorem usn_11 {Q : List am_V → am_M → Prop} {m : am_M}   (H : Q [.inl 57] m) : ok 1 20 0 [some (.inr (.inr (some 2011)))] [] m Q := by
  refine ok_sg (pc' := 10) (ls' := [some (.inr (.inr (some 2011)))]) (st' := [.inl 57]) (m' := m) (fun fx hfx o hk => ?_) ?_
  · refine r_ld (pc' := 1) hM_20 d_20_0 rfl rfl ?_
    refine r_gF (pc' := 4) (v := .inr (.inr (some 3011))) hM_20 d_20_1 rfl (by decide) (by decide +kernel) ?_
    refine r_alF (pc' := 5) (n := 57) hM_20 d_20_4 rfl (by decide) (hfx.2.2 11 (by decide)) (by decide) ?_
    refine r_ld (pc' := 6) hM_20 d_20_5 rfl rfl ?_
    refine r_cl (pc' := 9) (c := (21, 0)) (a := [.inr (.inr (some 2011))]) (q := [.inl 57]) hM_20 d_20_6 rfl (by decide +kernel) hM_21 rfl rfl rfl (Nat.le_of_ble_eq_true rfl) (Nat.le_of_ble_eq_true rfl) (Or.inr rfl) (ok_rnk (sc_11 (m := m)) hfx) (Nat.le_of_ble_eq_true rfl) ?_
    show rn fx 1 (0, 0) 20 9 [some (.inr (.inr (some 2011)))] [.inl 0, .inl 57] (st0 m) o
    refine r_b (pc' := 10) (z := 57) hM_20 d_20_9 rfl (by decide +kernel) ?_
    exact hk
  exact ok_rt (fun fx _ => rt_i hM_20 d_20_10 rfl) H
theorem sn_11 {m : am_M} : ok 1 20 0 (am_ent 1 [.inr (.inr (some 2011))]) [] m (fun rr m' => rr = [.inl 57] ∧ m' = m) := usn_11 ⟨rfl, rfl⟩
theorem usx_0_3 {Q : List am_V → am_M → Prop} {m : am_M}   (H : Q [.inl 0] m) : ok 0 26 0 [some (.inl 0), some (.inl 3), some (.inr (.inr (some 4000)))] [] m Q := by
  refine ok_sg (pc' := 17) (ls' := [some (.inl 0), some (.inl 3), some (.inr (.inr (some 4000)))]) (st' := [.inl 0]) (m' := m) (fun fx hfx o hk => ?_) ?_
  · refine r_ld (pc' := 1) hM_26 d_26_0 rfl rfl ?_
    refine r_if (pc' := 9) (pc2 := 4) hM_26 d_26_1 (by decide) rfl (fun hc => absurd hc (show ¬ (am_s 0 < 0) by decide)) (fun _ => ?_)
    refine r_ld (pc' := 5) hM_26 d_26_4 rfl rfl ?_
    refine r_ld (pc' := 6) hM_26 d_26_5 rfl rfl ?_
    refine r_ic (pc' := 16) (pc2 := 9) hM_26 d_26_6 (by decide) rfl (fun _ => ?_) (fun hc => absurd (show am_s 0 < am_s 3 by decide) hc)
    refine r_ld (pc' := 17) hM_26 d_26_16 rfl rfl ?_
    exact hk
  exact ok_rt (fun fx _ => rt_i hM_26 d_26_17 rfl) H
theorem sx_0_3 {m : am_M} : ok 0 26 0 (am_ent 3 [.inl 0, .inl 3, .inr (.inr (some 4000))]) [] m (fun rr m' => rr = [.inl 0] ∧ m' = m) := usx_0_3 ⟨rfl, rfl⟩
theorem usx_0_4 {Q : List am_V → am_M → Prop} {m : am_M}   (H : Q [.inl 0] m) : ok 0 26 0 [some (.inl 0), some (.inl 4), some (.inr (.inr (some 4000)))] [] m Q := by
  refine ok_sg (pc' := 17) (ls' := [some (.inl 0), some (.inl 4), some (.inr (.inr (some 4000)))]) (st' := [.inl 0]) (m' := m) (fun fx hfx o hk => ?_) ?_
  · refine r_ld (pc' := 1) hM_26 d_26_0 rfl rfl ?_
    refine r_if (pc' := 9) (pc2 := 4) hM_26 d_26_1 (by decide) rfl (fun hc => absurd hc (show ¬ (am_s 0 < 0) by decide)) (fun _ => ?_)
    refine r_ld (pc' := 5) hM_26 d_26_4 rfl rfl ?_
    refine r_ld (pc' := 6) hM_26 d_26_5 rfl rfl ?_
    refine r_ic (pc' := 16) (pc2 := 9) hM_26 d_26_6 (by decide) rfl (fun _ => ?_) (fun hc => absurd (show am_s 0 < am_s 4 by decide) hc)
    refine r_ld (pc' := 17) hM_26 d_26_16 rfl rfl ?_
    exact hk
  exact ok_rt (fun fx _ => rt_i hM_26 d_26_17 rfl) H
theorem sx_0_4 {m : am_M} : ok 0 26 0 (am_ent 3 [.inl 0, .inl 4, .inr (.inr (some 4000))]) [] m (fun rr m' => rr = [.inl 0] ∧ m' = m) := usx_0_4 ⟨rfl, rfl⟩
theorem usx_0_5 {Q : List am_V → am_M → Prop} {m : am_M}   (H : Q [.inl 0] m) : ok 0 26 0 [some (.inl 0), some (.inl 5), some (.inr (.inr (some 4000)))] [] m Q := by
  refine ok_sg (pc' := 17) (ls' := [some (.inl 0), some (.inl 5), some (.inr (.inr (some 4000)))]) (st' := [.inl 0]) (m' := m) (fun fx hfx o hk => ?_) ?_
  · refine r_ld (pc' := 1) hM_26 d_26_0 rfl rfl ?_
    refine r_if (pc' := 9) (pc2 := 4) hM_26 d_26_1 (by decide) rfl (fun hc => absurd hc (show ¬ (am_s 0 < 0) by decide)) (fun _ => ?_)
    refine r_ld (pc' := 5) hM_26 d_26_4 rfl rfl ?_
    refine r_ld (pc' := 6) hM_26 d_26_5 rfl rfl ?_
    refine r_ic (pc' := 16) (pc2 := 9) hM_26 d_26_6 (by decide) rfl (fun _ => ?_) (fun hc => absurd (show am_s 0 < am_s 5 by decide) hc)
    refine r_ld (pc' := 17) hM_26 d_26_16 rfl rfl ?_
    exact hk
  exact ok_rt (fun fx _ => rt_i hM_26 d_26_17 rfl) H
theorem sx_0_5 {m : am_M} : ok 0 26 0 (am_ent 3 [.inl 0, .inl 5, .inr (.inr (some 4000))]) [] m (fun rr m' => rr = [.inl 0] ∧ m' = m) := usx_0_5 ⟨rfl, rfl⟩
theorem usx_0_6 {Q : List am_V → am_M → Prop} {m : am_M}   (H : Q [.inl 0] m) : ok 0 26 0 [some (.inl 0), some (.inl 6), some (.inr (.inr (some 4000)))] [] m Q := by
  refine ok_sg (pc' := 17) (ls' := [some (.inl 0), some (.inl 6), some (.inr (.inr (some 4000)))]) (st' := [.inl 0]) (m' := m) (fun fx hfx o hk => ?_) ?_
  · refine r_ld (pc' := 1) hM_26 d_26_0 rfl rfl ?_
    refine r_if (pc' := 9) (pc2 := 4) hM_26 d_26_1 (by decide) rfl (fun hc => absurd hc (show ¬ (am_s 0 < 0) by decide)) (fun _ => ?_)
    refine r_ld (pc' := 5) hM_26 d_26_4 rfl rfl ?_
    refine r_ld (pc' := 6) hM_26 d_26_5 rfl rfl ?_
    refine r_ic (pc' := 16) (pc2 := 9) hM_26 d_26_6 (by decide) rfl (fun _ => ?_) (fun hc => absurd (show am_s 0 < am_s 6 by decide) hc)
    refine r_ld (pc' := 17) hM_26 d_26_16 rfl rfl ?_
    exact hk
  exact ok_rt (fun fx _ => rt_i hM_26 d_26_17 rfl) H
theorem sx_0_6 {m : am_M} : ok 0 26 0 (am_ent 3 [.inl 0, .inl 6, .inr (.inr (some 4000))]) [] m (fun rr m' => rr = [.inl 0] ∧ m' = m) := usx_0_6 ⟨rfl, rfl⟩
theorem usx_0_57 {Q : List am_V → am_M → Prop} {m : am_M}   (H : Q [.inl 0] m) : ok 0 26 0 [some (.inl 0), some (.inl 57), some (.inr (.inr (some 4000)))] [] m Q := by
  refine ok_sg (pc' := 17) (ls' := [some (.inl 0), some (.inl 57), some (.inr (.inr (some 4000)))]) (st' := [.inl 0]) (m' := m) (fun fx hfx o hk => ?_) ?_
  · refine r_ld (pc' := 1) hM_26 d_26_0 rfl rfl ?_
    refine r_if (pc' := 9) (pc2 := 4) hM_26 d_26_1 (by decide) rfl (fun hc => absurd hc (show ¬ (am_s 0 < 0) by decide)) (fun _ => ?_)
    refine r_ld (pc' := 5) hM_26 d_26_4 rfl rfl ?_
    refine r_ld (pc' := 6) hM_26 d_26_5 rfl rfl ?_
    refine r_ic (pc' := 16) (pc2 := 9) hM_26 d_26_6 (by decide) rfl (fun _ => ?_) (fun hc => absurd (show am_s 0 < am_s 57 by decide) hc)
    refine r_ld (pc' := 17) hM_26 d_26_16 rfl rfl ?_
    exact hk
  exact ok_rt (fun fx _ => rt_i hM_26 d_26_17 rfl) H
theorem sx_0_57 {m : am_M} : ok 0 26 0 (am_ent 3 [.inl 0, .inl 57, .inr (.inr (some 4000))]) [] m (fun rr m' => rr = [.inl 0] ∧ m' = m) := usx_0_57 ⟨rfl, rfl⟩
theorem usx_1_3 {Q : List am_V → am_M → Prop} {m : am_M}   (H : Q [.inl 1] m) : ok 0 26 0 [some (.inl 1), some (.inl 3), some (.inr (.inr (some 4000)))] [] m Q := by
  refine ok_sg (pc' := 17) (ls' := [some (.inl 1), some (.inl 3), some (.inr (.inr (some 4000)))]) (st' := [.inl 1]) (m' := m) (fun fx hfx o hk => ?_) ?_
  · refine r_ld (pc' := 1) hM_26 d_26_0 rfl rfl ?_
    refine r_if (pc' := 9) (pc2 := 4) hM_26 d_26_1 (by decide) rfl (fun hc => absurd hc (show ¬ (am_s 1 < 0) by decide)) (fun _ => ?_)
    refine r_ld (pc' := 5) hM_26 d_26_4 rfl rfl ?_
    refine r_ld (pc' := 6) hM_26 d_26_5 rfl rfl ?_
    refine r_ic (pc' := 16) (pc2 := 9) hM_26 d_26_6 (by decide) rfl (fun _ => ?_) (fun hc => absurd (show am_s 1 < am_s 3 by decide) hc)
    refine r_ld (pc' := 17) hM_26 d_26_16 rfl rfl ?_
    exact hk
  exact ok_rt (fun fx _ => rt_i hM_26 d_26_17 rfl) H
theorem sx_1_3 {m : am_M} : ok 0 26 0 (am_ent 3 [.inl 1, .inl 3, .inr (.inr (some 4000))]) [] m (fun rr m' => rr = [.inl 1] ∧ m' = m) := usx_1_3 ⟨rfl, rfl⟩
theorem usx_1_4 {Q : List am_V → am_M → Prop} {m : am_M}   (H : Q [.inl 1] m) : ok 0 26 0 [some (.inl 1), some (.inl 4), some (.inr (.inr (some 4000)))] [] m Q := by
  refine ok_sg (pc' := 17) (ls' := [some (.inl 1), some (.inl 4), some (.inr (.inr (some 4000)))]) (st' := [.inl 1]) (m' := m) (fun fx hfx o hk => ?_) ?_
  · refine r_ld (pc' := 1) hM_26 d_26_0 rfl rfl ?_
    refine r_if (pc' := 9) (pc2 := 4) hM_26 d_26_1 (by decide) rfl (fun hc => absurd hc (show ¬ (am_s 1 < 0) by decide)) (fun _ => ?_)
    refine r_ld (pc' := 5) hM_26 d_26_4 rfl rfl ?_
    refine r_ld (pc' := 6) hM_26 d_26_5 rfl rfl ?_
    refine r_ic (pc' := 16) (pc2 := 9) hM_26 d_26_6 (by decide) rfl (fun _ => ?_) (fun hc => absurd (show am_s 1 < am_s 4 by decide) hc)
    refine r_ld (pc' := 17) hM_26 d_26_16 rfl rfl ?_
    exact hk
  exact ok_rt (fun fx _ => rt_i hM_26 d_26_17 rfl) H
theorem sx_1_4 {m : am_M} : ok 0 26 0 (am_ent 3 [.inl 1, .inl 4, .inr (.inr (some 4000))]) [] m (fun rr m' => rr = [.inl 1] ∧ m' = m) := usx_1_4 ⟨rfl, rfl⟩
theorem usx_1_5 {Q : List am_V → am_M → Prop} {m : am_M}   (H : Q [.inl 1] m) : ok 0 26 0 [some (.inl 1), some (.inl 5), some (.inr (.inr (some 4000)))] [] m Q := by
  refine ok_sg (pc' := 17) (ls' := [some (.inl 1), some (.inl 5), some (.inr (.inr (some 4000)))]) (st' := [.inl 1]) (m' := m) (fun fx hfx o hk => ?_) ?_
  · refine r_ld (pc' := 1) hM_26 d_26_0 rfl rfl ?_
    refine r_if (pc' := 9) (pc2 := 4) hM_26 d_26_1 (by decide) rfl (fun hc => absurd hc (show ¬ (am_s 1 < 0) by decide)) (fun _ => ?_)
    refine r_ld (pc' := 5) hM_26 d_26_4 rfl rfl ?_
    refine r_ld (pc' := 6) hM_26 d_26_5 rfl rfl ?_
    refine r_ic (pc' := 16) (pc2 := 9) hM_26 d_26_6 (by decide) rfl (fun _ => ?_) (fun hc => absurd (show am_s 1 < am_s 5 by decide) hc)
    refine r_ld (pc' := 17) hM_26 d_26_16 rfl rfl ?_
    exact hk
  exact ok_rt (fun fx _ => rt_i hM_26 d_26_17 rfl) H
theorem sx_1_5 {m : am_M} : ok 0 26 0 (am_ent 3 [.inl 1, .inl 5, .inr (.inr (some 4000))]) [] m (fun rr m' => rr = [.inl 1] ∧ m' = m) := usx_1_5 ⟨rfl, rfl⟩
theorem usx_1_6 {Q : List am_V → am_M → Prop} {m : am_M}   (H : Q [.inl 1] m) : ok 0 26 0 [some (.inl 1), some (.inl 6), some (.inr (.inr (some 4000)))] [] m Q := by
  refine ok_sg (pc' := 17) (ls' := [some (.inl 1), some (.inl 6), some (.inr (.inr (some 4000)))]) (st' := [.inl 1]) (m' := m) (fun fx hfx o hk => ?_) ?_
  · refine r_ld (pc' := 1) hM_26 d_26_0 rfl rfl ?_
    refine r_if (pc' := 9) (pc2 := 4) hM_26 d_26_1 (by decide) rfl (fun hc => absurd hc (show ¬ (am_s 1 < 0) by decide)) (fun _ => ?_)
    refine r_ld (pc' := 5) hM_26 d_26_4 rfl rfl ?_
    refine r_ld (pc' := 6) hM_26 d_26_5 rfl rfl ?_
    refine r_ic (pc' := 16) (pc2 := 9) hM_26 d_26_6 (by decide) rfl (fun _ => ?_) (fun hc => absurd (show am_s 1 < am_s 6 by decide) hc)
    refine r_ld (pc' := 17) hM_26 d_26_16 rfl rfl ?_
    exact hk
  exact ok_rt (fun fx _ => rt_i hM_26 d_26_17 rfl) H
theorem sx_1_6 {m : am_M} : ok 0 26 0 (am_ent 3 [.inl 1, .inl 6, .inr (.inr (some 4000))]) [] m (fun rr m' => rr = [.inl 1] ∧ m' = m) := usx_1_6 ⟨rfl, rfl⟩
theorem usx_1_57 {Q : List am_V → am_M → Prop} {m : am_M}   (H : Q [.inl 1] m) : ok 0 26 0 [some (.inl 1), some (.inl 57), some (.inr (.inr (some 4000)))] [] m Q := by
  refine ok_sg (pc' := 17) (ls' := [some (.inl 1), some (.inl 57), some (.inr (.inr (some 4000)))]) (st' := [.inl 1]) (m' := m) (fun fx hfx o hk => ?_) ?_
  · refine r_ld (pc' := 1) hM_26 d_26_0 rfl rfl ?_
    refine r_if (pc' := 9) (pc2 := 4) hM_26 d_26_1 (by decide) rfl (fun hc => absurd hc (show ¬ (am_s 1 < 0) by decide)) (fun _ => ?_)
    refine r_ld (pc' := 5) hM_26 d_26_4 rfl rfl ?_
    refine r_ld (pc' := 6) hM_26 d_26_5 rfl rfl ?_
    refine r_ic (pc' := 16) (pc2 := 9) hM_26 d_26_6 (by decide) rfl (fun _ => ?_) (fun hc => absurd (show am_s 1 < am_s 57 by decide) hc)
    refine r_ld (pc' := 17) hM_26 d_26_16 rfl rfl ?_
    exact hk
  exact ok_rt (fun fx _ => rt_i hM_26 d_26_17 rfl) H
theorem sx_1_57 {m : am_M} : ok 0 26 0 (am_ent 3 [.inl 1, .inl 57, .inr (.inr (some 4000))]) [] m (fun rr m' => rr = [.inl 1] ∧ m' = m) := usx_1_57 ⟨rfl, rfl⟩
theorem usx_2_3 {Q : List am_V → am_M → Prop} {m : am_M}   (H : Q [.inl 2] m) : ok 0 26 0 [some (.inl 2), some (.inl 3), some (.inr (.inr (some 4000)))] [] m Q := by
  refine ok_sg (pc' := 17) (ls' := [some (.inl 2), some (.inl 3), some (.inr (.inr (some 4000)))]) (st' := [.inl 2]) (m' := m) (fun fx hfx o hk => ?_) ?_
  · refine r_ld (pc' := 1) hM_26 d_26_0 rfl rfl ?_
    refine r_if (pc' := 9) (pc2 := 4) hM_26 d_26_1 (by decide) rfl (fun hc => absurd hc (show ¬ (am_s 2 < 0) by decide)) (fun _ => ?_)
    refine r_ld (pc' := 5) hM_26 d_26_4 rfl rfl ?_
    refine r_ld (pc' := 6) hM_26 d_26_5 rfl rfl ?_
    refine r_ic (pc' := 16) (pc2 := 9) hM_26 d_26_6 (by decide) rfl (fun _ => ?_) (fun hc => absurd (show am_s 2 < am_s 3 by decide) hc)
    refine r_ld (pc' := 17) hM_26 d_26_16 rfl rfl ?_
    exact hk
  exact ok_rt (fun fx _ => rt_i hM_26 d_26_17 rfl) H
theorem sx_2_3 {m : am_M} : ok 0 26 0 (am_ent 3 [.inl 2, .inl 3, .inr (.inr (some 4000))]) [] m (fun rr m' => rr = [.inl 2] ∧ m' = m) := usx_2_3 ⟨rfl, rfl⟩
theorem usx_2_4 {Q : List am_V → am_M → Prop} {m : am_M}   (H : Q [.inl 2] m) : ok 0 26 0 [some (.inl 2), some (.inl 4), some (.inr (.inr (some 4000)))] [] m Q := by
  refine ok_sg (pc' := 17) (ls' := [some (.inl 2), some (.inl 4), some (.inr (.inr (some 4000)))]) (st' := [.inl 2]) (m' := m) (fun fx hfx o hk => ?_) ?_
  · refine r_ld (pc' := 1) hM_26 d_26_0 rfl rfl ?_
    refine r_if (pc' := 9) (pc2 := 4) hM_26 d_26_1 (by decide) rfl (fun hc => absurd hc (show ¬ (am_s 2 < 0) by decide)) (fun _ => ?_)
    refine r_ld (pc' := 5) hM_26 d_26_4 rfl rfl ?_
    refine r_ld (pc' := 6) hM_26 d_26_5 rfl rfl ?_
    refine r_ic (pc' := 16) (pc2 := 9) hM_26 d_26_6 (by decide) rfl (fun _ => ?_) (fun hc => absurd (show am_s 2 < am_s 4 by decide) hc)
    refine r_ld (pc' := 17) hM_26 d_26_16 rfl rfl ?_
    exact hk
  exact ok_rt (fun fx _ => rt_i hM_26 d_26_17 rfl) H
theorem sx_2_4 {m : am_M} : ok 0 26 0 (am_ent 3 [.inl 2, .inl 4, .inr (.inr (some 4000))]) [] m (fun rr m' => rr = [.inl 2] ∧ m' = m) := usx_2_4 ⟨rfl, rfl⟩
theorem usx_2_5 {Q : List am_V → am_M → Prop} {m : am_M}   (H : Q [.inl 2] m) : ok 0 26 0 [some (.inl 2), some (.inl 5), some (.inr (.inr (some 4000)))] [] m Q := by
  refine ok_sg (pc' := 17) (ls' := [some (.inl 2), some (.inl 5), some (.inr (.inr (some 4000)))]) (st' := [.inl 2]) (m' := m) (fun fx hfx o hk => ?_) ?_
  · refine r_ld (pc' := 1) hM_26 d_26_0 rfl rfl ?_
    refine r_if (pc' := 9) (pc2 := 4) hM_26 d_26_1 (by decide) rfl (fun hc => absurd hc (show ¬ (am_s 2 < 0) by decide)) (fun _ => ?_)
    refine r_ld (pc' := 5) hM_26 d_26_4 rfl rfl ?_
    refine r_ld (pc' := 6) hM_26 d_26_5 rfl rfl ?_
    refine r_ic (pc' := 16) (pc2 := 9) hM_26 d_26_6 (by decide) rfl (fun _ => ?_) (fun hc => absurd (show am_s 2 < am_s 5 by decide) hc)
    refine r_ld (pc' := 17) hM_26 d_26_16 rfl rfl ?_
    exact hk
  exact ok_rt (fun fx _ => rt_i hM_26 d_26_17 rfl) H
theorem sx_2_5 {m : am_M} : ok 0 26 0 (am_ent 3 [.inl 2, .inl 5, .inr (.inr (some 4000))]) [] m (fun rr m' => rr = [.inl 2] ∧ m' = m) := usx_2_5 ⟨rfl, rfl⟩
theorem usx_2_6 {Q : List am_V → am_M → Prop} {m : am_M}   (H : Q [.inl 2] m) : ok 0 26 0 [some (.inl 2), some (.inl 6), some (.inr (.inr (some 4000)))] [] m Q := by
  refine ok_sg (pc' := 17) (ls' := [some (.inl 2), some (.inl 6), some (.inr (.inr (some 4000)))]) (st' := [.inl 2]) (m' := m) (fun fx hfx o hk => ?_) ?_
  · refine r_ld (pc' := 1) hM_26 d_26_0 rfl rfl ?_
    refine r_if (pc' := 9) (pc2 := 4) hM_26 d_26_1 (by decide) rfl (fun hc => absurd hc (show ¬ (am_s 2 < 0) by decide)) (fun _ => ?_)
    refine r_ld (pc' := 5) hM_26 d_26_4 rfl rfl ?_
    refine r_ld (pc' := 6) hM_26 d_26_5 rfl rfl ?_
    refine r_ic (pc' := 16) (pc2 := 9) hM_26 d_26_6 (by decide) rfl (fun _ => ?_) (fun hc => absurd (show am_s 2 < am_s 6 by decide) hc)
    refine r_ld (pc' := 17) hM_26 d_26_16 rfl rfl ?_
    exact hk
  exact ok_rt (fun fx _ => rt_i hM_26 d_26_17 rfl) H
theorem sx_2_6 {m : am_M} : ok 0 26 0 (am_ent 3 [.inl 2, .inl 6, .inr (.inr (some 4000))]) [] m (fun rr m' => rr = [.inl 2] ∧ m' = m) := usx_2_6 ⟨rfl, rfl⟩
theorem usx_2_57 {Q : List am_V → am_M → Prop} {m : am_M}   (H : Q [.inl 2] m) : ok 0 26 0 [some (.inl 2), some (.inl 57), some (.inr (.inr (some 4000)))] [] m Q := by
  refine ok_sg (pc' := 17) (ls' := [some (.inl 2), some (.inl 57), some (.inr (.inr (some 4000)))]) (st' := [.inl 2]) (m' := m) (fun fx hfx o hk => ?_) ?_
  · refine r_ld (pc' := 1) hM_26 d_26_0 rfl rfl ?_
    refine r_if (pc' := 9) (pc2 := 4) hM_26 d_26_1 (by decide) rfl (fun hc => absurd hc (show ¬ (am_s 2 < 0) by decide)) (fun _ => ?_)
    refine r_ld (pc' := 5) hM_26 d_26_4 rfl rfl ?_
    refine r_ld (pc' := 6) hM_26 d_26_5 rfl rfl ?_
    refine r_ic (pc' := 16) (pc2 := 9) hM_26 d_26_6 (by decide) rfl (fun _ => ?_) (fun hc => absurd (show am_s 2 < am_s 57 by decide) hc)
    refine r_ld (pc' := 17) hM_26 d_26_16 rfl rfl ?_
    exact hk
  exact ok_rt (fun fx _ => rt_i hM_26 d_26_17 rfl) H
theorem sx_2_57 {m : am_M} : ok 0 26 0 (am_ent 3 [.inl 2, .inl 57, .inr (.inr (some 4000))]) [] m (fun rr m' => rr = [.inl 2] ∧ m' = m) := usx_2_57 ⟨rfl, rfl⟩
theorem usx_3_4 {Q : List am_V → am_M → Prop} {m : am_M}   (H : Q [.inl 3] m) : ok 0 26 0 [some (.inl 3), some (.inl 4), some (.inr (.inr (some 4000)))] [] m Q := by
  refine ok_sg (pc' := 17) (ls' := [some (.inl 3), some (.inl 4), some (.inr (.inr (some 4000)))]) (st' := [.inl 3]) (m' := m) (fun fx hfx o hk => ?_) ?_
  · refine r_ld (pc' := 1) hM_26 d_26_0 rfl rfl ?_
    refine r_if (pc' := 9) (pc2 := 4) hM_26 d_26_1 (by decide) rfl (fun hc => absurd hc (show ¬ (am_s 3 < 0) by decide)) (fun _ => ?_)
    refine r_ld (pc' := 5) hM_26 d_26_4 rfl rfl ?_
    refine r_ld (pc' := 6) hM_26 d_26_5 rfl rfl ?_
    refine r_ic (pc' := 16) (pc2 := 9) hM_26 d_26_6 (by decide) rfl (fun _ => ?_) (fun hc => absurd (show am_s 3 < am_s 4 by decide) hc)
    refine r_ld (pc' := 17) hM_26 d_26_16 rfl rfl ?_
    exact hk
  exact ok_rt (fun fx _ => rt_i hM_26 d_26_17 rfl) H
theorem sx_3_4 {m : am_M} : ok 0 26 0 (am_ent 3 [.inl 3, .inl 4, .inr (.inr (some 4000))]) [] m (fun rr m' => rr = [.inl 3] ∧ m' = m) := usx_3_4 ⟨rfl, rfl⟩
theorem usx_3_5 {Q : List am_V → am_M → Prop} {m : am_M}   (H : Q [.inl 3] m) : ok 0 26 0 [some (.inl 3), some (.inl 5), some (.inr (.inr (some 4000)))] [] m Q := by
  refine ok_sg (pc' := 17) (ls' := [some (.inl 3), some (.inl 5), some (.inr (.inr (some 4000)))]) (st' := [.inl 3]) (m' := m) (fun fx hfx o hk => ?_) ?_
  · refine r_ld (pc' := 1) hM_26 d_26_0 rfl rfl ?_
    refine r_if (pc' := 9) (pc2 := 4) hM_26 d_26_1 (by decide) rfl (fun hc => absurd hc (show ¬ (am_s 3 < 0) by decide)) (fun _ => ?_)
    refine r_ld (pc' := 5) hM_26 d_26_4 rfl rfl ?_
    refine r_ld (pc' := 6) hM_26 d_26_5 rfl rfl ?_
    refine r_ic (pc' := 16) (pc2 := 9) hM_26 d_26_6 (by decide) rfl (fun _ => ?_) (fun hc => absurd (show am_s 3 < am_s 5 by decide) hc)
    refine r_ld (pc' := 17) hM_26 d_26_16 rfl rfl ?_
    exact hk
  exact ok_rt (fun fx _ => rt_i hM_26 d_26_17 rfl) H
theorem sx_3_5 {m : am_M} : ok 0 26 0 (am_ent 3 [.inl 3, .inl 5, .inr (.inr (some 4000))]) [] m (fun rr m' => rr = [.inl 3] ∧ m' = m) := usx_3_5 ⟨rfl, rfl⟩
theorem usx_3_6 {Q : List am_V → am_M → Prop} {m : am_M}   (H : Q [.inl 3] m) : ok 0 26 0 [some (.inl 3), some (.inl 6), some (.inr (.inr (some 4000)))] [] m Q := by
  refine ok_sg (pc' := 17) (ls' := [some (.inl 3), some (.inl 6), some (.inr (.inr (some 4000)))]) (st' := [.inl 3]) (m' := m) (fun fx hfx o hk => ?_) ?_
  · refine r_ld (pc' := 1) hM_26 d_26_0 rfl rfl ?_
    refine r_if (pc' := 9) (pc2 := 4) hM_26 d_26_1 (by decide) rfl (fun hc => absurd hc (show ¬ (am_s 3 < 0) by decide)) (fun _ => ?_)
    refine r_ld (pc' := 5) hM_26 d_26_4 rfl rfl ?_
    refine r_ld (pc' := 6) hM_26 d_26_5 rfl rfl ?_
    refine r_ic (pc' := 16) (pc2 := 9) hM_26 d_26_6 (by decide) rfl (fun _ => ?_) (fun hc => absurd (show am_s 3 < am_s 6 by decide) hc)
    refine r_ld (pc' := 17) hM_26 d_26_16 rfl rfl ?_
    exact hk
  exact ok_rt (fun fx _ => rt_i hM_26 d_26_17 rfl) H
theorem sx_3_6 {m : am_M} : ok 0 26 0 (am_ent 3 [.inl 3, .inl 6, .inr (.inr (some 4000))]) [] m (fun rr m' => rr = [.inl 3] ∧ m' = m) := usx_3_6 ⟨rfl, rfl⟩
theorem usx_3_57 {Q : List am_V → am_M → Prop} {m : am_M}   (H : Q [.inl 3] m) : ok 0 26 0 [some (.inl 3), some (.inl 57), some (.inr (.inr (some 4000)))] [] m Q := by
  refine ok_sg (pc' := 17) (ls' := [some (.inl 3), some (.inl 57), some (.inr (.inr (some 4000)))]) (st' := [.inl 3]) (m' := m) (fun fx hfx o hk => ?_) ?_
  · refine r_ld (pc' := 1) hM_26 d_26_0 rfl rfl ?_
    refine r_if (pc' := 9) (pc2 := 4) hM_26 d_26_1 (by decide) rfl (fun hc => absurd hc (show ¬ (am_s 3 < 0) by decide)) (fun _ => ?_)
    refine r_ld (pc' := 5) hM_26 d_26_4 rfl rfl ?_
    refine r_ld (pc' := 6) hM_26 d_26_5 rfl rfl ?_
    refine r_ic (pc' := 16) (pc2 := 9) hM_26 d_26_6 (by decide) rfl (fun _ => ?_) (fun hc => absurd (show am_s 3 < am_s 57 by decide) hc)
    refine r_ld (pc' := 17) hM_26 d_26_16 rfl rfl ?_
    exact hk
  exact ok_rt (fun fx _ => rt_i hM_26 d_26_17 rfl) H
theorem sx_3_57 {m : am_M} : ok 0 26 0 (am_ent 3 [.inl 3, .inl 57, .inr (.inr (some 4000))]) [] m (fun rr m' => rr = [.inl 3] ∧ m' = m) := usx_3_57 ⟨rfl, rfl⟩
theorem usx_4_5 {Q : List am_V → am_M → Prop} {m : am_M}   (H : Q [.inl 4] m) : ok 0 26 0 [some (.inl 4), some (.inl 5), some (.inr (.inr (some 4000)))] [] m Q := by
  refine ok_sg (pc' := 17) (ls' := [some (.inl 4), some (.inl 5), some (.inr (.inr (some 4000)))]) (st' := [.inl 4]) (m' := m) (fun fx hfx o hk => ?_) ?_
  · refine r_ld (pc' := 1) hM_26 d_26_0 rfl rfl ?_
    refine r_if (pc' := 9) (pc2 := 4) hM_26 d_26_1 (by decide) rfl (fun hc => absurd hc (show ¬ (am_s 4 < 0) by decide)) (fun _ => ?_)
    refine r_ld (pc' := 5) hM_26 d_26_4 rfl rfl ?_
    refine r_ld (pc' := 6) hM_26 d_26_5 rfl rfl ?_
    refine r_ic (pc' := 16) (pc2 := 9) hM_26 d_26_6 (by decide) rfl (fun _ => ?_) (fun hc => absurd (show am_s 4 < am_s 5 by decide) hc)
    refine r_ld (pc' := 17) hM_26 d_26_16 rfl rfl ?_
    exact hk
  exact ok_rt (fun fx _ => rt_i hM_26 d_26_17 rfl) H
theorem sx_4_5 {m : am_M} : ok 0 26 0 (am_ent 3 [.inl 4, .inl 5, .inr (.inr (some 4000))]) [] m (fun rr m' => rr = [.inl 4] ∧ m' = m) := usx_4_5 ⟨rfl, rfl⟩
theorem usx_4_6 {Q : List am_V → am_M → Prop} {m : am_M}   (H : Q [.inl 4] m) : ok 0 26 0 [some (.inl 4), some (.inl 6), some (.inr (.inr (some 4000)))] [] m Q := by
  refine ok_sg (pc' := 17) (ls' := [some (.inl 4), some (.inl 6), some (.inr (.inr (some 4000)))]) (st' := [.inl 4]) (m' := m) (fun fx hfx o hk => ?_) ?_
  · refine r_ld (pc' := 1) hM_26 d_26_0 rfl rfl ?_
    refine r_if (pc' := 9) (pc2 := 4) hM_26 d_26_1 (by decide) rfl (fun hc => absurd hc (show ¬ (am_s 4 < 0) by decide)) (fun _ => ?_)
    refine r_ld (pc' := 5) hM_26 d_26_4 rfl rfl ?_
    refine r_ld (pc' := 6) hM_26 d_26_5 rfl rfl ?_
    refine r_ic (pc' := 16) (pc2 := 9) hM_26 d_26_6 (by decide) rfl (fun _ => ?_) (fun hc => absurd (show am_s 4 < am_s 6 by decide) hc)
    refine r_ld (pc' := 17) hM_26 d_26_16 rfl rfl ?_
    exact hk
  exact ok_rt (fun fx _ => rt_i hM_26 d_26_17 rfl) H
theorem sx_4_6 {m : am_M} : ok 0 26 0 (am_ent 3 [.inl 4, .inl 6, .inr (.inr (some 4000))]) [] m (fun rr m' => rr = [.inl 4] ∧ m' = m) := usx_4_6 ⟨rfl, rfl⟩
theorem usx_4_57 {Q : List am_V → am_M → Prop} {m : am_M}   (H : Q [.inl 4] m) : ok 0 26 0 [some (.inl 4), some (.inl 57), some (.inr (.inr (some 4000)))] [] m Q := by
  refine ok_sg (pc' := 17) (ls' := [some (.inl 4), some (.inl 57), some (.inr (.inr (some 4000)))]) (st' := [.inl 4]) (m' := m) (fun fx hfx o hk => ?_) ?_
  · refine r_ld (pc' := 1) hM_26 d_26_0 rfl rfl ?_
    refine r_if (pc' := 9) (pc2 := 4) hM_26 d_26_1 (by decide) rfl (fun hc => absurd hc (show ¬ (am_s 4 < 0) by decide)) (fun _ => ?_)
    refine r_ld (pc' := 5) hM_26 d_26_4 rfl rfl ?_
    refine r_ld (pc' := 6) hM_26 d_26_5 rfl rfl ?_
    refine r_ic (pc' := 16) (pc2 := 9) hM_26 d_26_6 (by decide) rfl (fun _ => ?_) (fun hc => absurd (show am_s 4 < am_s 57 by decide) hc)
    refine r_ld (pc' := 17) hM_26 d_26_16 rfl rfl ?_
    exact hk
  exact ok_rt (fun fx _ => rt_i hM_26 d_26_17 rfl) H
theorem sx_4_57 {m : am_M} : ok 0 26 0 (am_ent 3 [.inl 4, .inl 57, .inr (.inr (some 4000))]) [] m (fun rr m' => rr = [.inl 4] ∧ m' = m) := usx_4_57 ⟨rfl, rfl⟩
theorem usx_5_6 {Q : List am_V → am_M → Prop} {m : am_M}   (H : Q [.inl 5] m) : ok 0 26 0 [some (.inl 5), some (.inl 6), some (.inr (.inr (some 4000)))] [] m Q := by
  refine ok_sg (pc' := 17) (ls' := [some (.inl 5), some (.inl 6), some (.inr (.inr (some 4000)))]) (st' := [.inl 5]) (m' := m) (fun fx hfx o hk => ?_) ?_
  · refine r_ld (pc' := 1) hM_26 d_26_0 rfl rfl ?_
    refine r_if (pc' := 9) (pc2 := 4) hM_26 d_26_1 (by decide) rfl (fun hc => absurd hc (show ¬ (am_s 5 < 0) by decide)) (fun _ => ?_)
    refine r_ld (pc' := 5) hM_26 d_26_4 rfl rfl ?_
    refine r_ld (pc' := 6) hM_26 d_26_5 rfl rfl ?_
    refine r_ic (pc' := 16) (pc2 := 9) hM_26 d_26_6 (by decide) rfl (fun _ => ?_) (fun hc => absurd (show am_s 5 < am_s 6 by decide) hc)
    refine r_ld (pc' := 17) hM_26 d_26_16 rfl rfl ?_
    exact hk
  exact ok_rt (fun fx _ => rt_i hM_26 d_26_17 rfl) H
theorem sx_5_6 {m : am_M} : ok 0 26 0 (am_ent 3 [.inl 5, .inl 6, .inr (.inr (some 4000))]) [] m (fun rr m' => rr = [.inl 5] ∧ m' = m) := usx_5_6 ⟨rfl, rfl⟩
theorem usx_5_57 {Q : List am_V → am_M → Prop} {m : am_M}   (H : Q [.inl 5] m) : ok 0 26 0 [some (.inl 5), some (.inl 57), some (.inr (.inr (some 4000)))] [] m Q := by
  refine ok_sg (pc' := 17) (ls' := [some (.inl 5), some (.inl 57), some (.inr (.inr (some 4000)))]) (st' := [.inl 5]) (m' := m) (fun fx hfx o hk => ?_) ?_
  · refine r_ld (pc' := 1) hM_26 d_26_0 rfl rfl ?_
    refine r_if (pc' := 9) (pc2 := 4) hM_26 d_26_1 (by decide) rfl (fun hc => absurd hc (show ¬ (am_s 5 < 0) by decide)) (fun _ => ?_)
    refine r_ld (pc' := 5) hM_26 d_26_4 rfl rfl ?_
    refine r_ld (pc' := 6) hM_26 d_26_5 rfl rfl ?_
    refine r_ic (pc' := 16) (pc2 := 9) hM_26 d_26_6 (by decide) rfl (fun _ => ?_) (fun hc => absurd (show am_s 5 < am_s 57 by decide) hc)
    refine r_ld (pc' := 17) hM_26 d_26_16 rfl rfl ?_
    exact hk
  exact ok_rt (fun fx _ => rt_i hM_26 d_26_17 rfl) H
theorem sx_5_57 {m : am_M} : ok 0 26 0 (am_ent 3 [.inl 5, .inl 57, .inr (.inr (some 4000))]) [] m (fun rr m' => rr = [.inl 5] ∧ m' = m) := usx_5_57 ⟨rfl, rfl⟩
theorem usx_6_57 {Q : List am_V → am_M → Prop} {m : am_M}   (H : Q [.inl 6] m) : ok 0 26 0 [some (.inl 6), some (.inl 57), some (.inr (.inr (some 4000)))] [] m Q := by
  refine ok_sg (pc' := 17) (ls' := [some (.inl 6), some (.inl 57), some (.inr (.inr (some 4000)))]) (st' := [.inl 6]) (m' := m) (fun fx hfx o hk => ?_) ?_
  · refine r_ld (pc' := 1) hM_26 d_26_0 rfl rfl ?_
    refine r_if (pc' := 9) (pc2 := 4) hM_26 d_26_1 (by decide) rfl (fun hc => absurd hc (show ¬ (am_s 6 < 0) by decide)) (fun _ => ?_)
    refine r_ld (pc' := 5) hM_26 d_26_4 rfl rfl ?_
    refine r_ld (pc' := 6) hM_26 d_26_5 rfl rfl ?_
    refine r_ic (pc' := 16) (pc2 := 9) hM_26 d_26_6 (by decide) rfl (fun _ => ?_) (fun hc => absurd (show am_s 6 < am_s 57 by decide) hc)
    refine r_ld (pc' := 17) hM_26 d_26_16 rfl rfl ?_
    exact hk
  exact ok_rt (fun fx _ => rt_i hM_26 d_26_17 rfl) H
theorem sx_6_57 {m : am_M} : ok 0 26 0 (am_ent 3 [.inl 6, .inl 57, .inr (.inr (some 4000))]) [] m (fun rr m' => rr = [.inl 6] ∧ m' = m) := usx_6_57 ⟨rfl, rfl⟩
theorem usx_7_57 {Q : List am_V → am_M → Prop} {m : am_M}   (H : Q [.inl 7] m) : ok 0 26 0 [some (.inl 7), some (.inl 57), some (.inr (.inr (some 4000)))] [] m Q := by
  refine ok_sg (pc' := 17) (ls' := [some (.inl 7), some (.inl 57), some (.inr (.inr (some 4000)))]) (st' := [.inl 7]) (m' := m) (fun fx hfx o hk => ?_) ?_
  · refine r_ld (pc' := 1) hM_26 d_26_0 rfl rfl ?_
    refine r_if (pc' := 9) (pc2 := 4) hM_26 d_26_1 (by decide) rfl (fun hc => absurd hc (show ¬ (am_s 7 < 0) by decide)) (fun _ => ?_)
    refine r_ld (pc' := 5) hM_26 d_26_4 rfl rfl ?_
    refine r_ld (pc' := 6) hM_26 d_26_5 rfl rfl ?_
    refine r_ic (pc' := 16) (pc2 := 9) hM_26 d_26_6 (by decide) rfl (fun _ => ?_) (fun hc => absurd (show am_s 7 < am_s 57 by decide) hc)
    refine r_ld (pc' := 17) hM_26 d_26_16 rfl rfl ?_
    exact hk
  exact ok_rt (fun fx _ => rt_i hM_26 d_26_17 rfl) H
theorem sx_7_57 {m : am_M} : ok 0 26 0 (am_ent 3 [.inl 7, .inl 57, .inr (.inr (some 4000))]) [] m (fun rr m' => rr = [.inl 7] ∧ m' = m) := usx_7_57 ⟨rfl, rfl⟩
theorem usx_8_57 {Q : List am_V → am_M → Prop} {m : am_M}   (H : Q [.inl 8] m) : ok 0 26 0 [some (.inl 8), some (.inl 57), some (.inr (.inr (some 4000)))] [] m Q := by
  refine ok_sg (pc' := 17) (ls' := [some (.inl 8), some (.inl 57), some (.inr (.inr (some 4000)))]) (st' := [.inl 8]) (m' := m) (fun fx hfx o hk => ?_) ?_
  · refine r_ld (pc' := 1) hM_26 d_26_0 rfl rfl ?_
    refine r_if (pc' := 9) (pc2 := 4) hM_26 d_26_1 (by decide) rfl (fun hc => absurd hc (show ¬ (am_s 8 < 0) by decide)) (fun _ => ?_)
    refine r_ld (pc' := 5) hM_26 d_26_4 rfl rfl ?_
    refine r_ld (pc' := 6) hM_26 d_26_5 rfl rfl ?_
    refine r_ic (pc' := 16) (pc2 := 9) hM_26 d_26_6 (by decide) rfl (fun _ => ?_) (fun hc => absurd (show am_s 8 < am_s 57 by decide) hc)
    refine r_ld (pc' := 17) hM_26 d_26_16 rfl rfl ?_
    exact hk
  exact ok_rt (fun fx _ => rt_i hM_26 d_26_17 rfl) H
theorem sx_8_57 {m : am_M} : ok 0 26 0 (am_ent 3 [.inl 8, .inl 57, .inr (.inr (some 4000))]) [] m (fun rr m' => rr = [.inl 8] ∧ m' = m) := usx_8_57 ⟨rfl, rfl⟩
theorem usx_9_57 {Q : List am_V → am_M → Prop} {m : am_M}   (H : Q [.inl 9] m) : ok 0 26 0 [some (.inl 9), some (.inl 57), some (.inr (.inr (some 4000)))] [] m Q := by
  refine ok_sg (pc' := 17) (ls' := [some (.inl 9), some (.inl 57), some (.inr (.inr (some 4000)))]) (st' := [.inl 9]) (m' := m) (fun fx hfx o hk => ?_) ?_
  · refine r_ld (pc' := 1) hM_26 d_26_0 rfl rfl ?_
    refine r_if (pc' := 9) (pc2 := 4) hM_26 d_26_1 (by decide) rfl (fun hc => absurd hc (show ¬ (am_s 9 < 0) by decide)) (fun _ => ?_)
    refine r_ld (pc' := 5) hM_26 d_26_4 rfl rfl ?_
    refine r_ld (pc' := 6) hM_26 d_26_5 rfl rfl ?_
    refine r_ic (pc' := 16) (pc2 := 9) hM_26 d_26_6 (by decide) rfl (fun _ => ?_) (fun hc => absurd (show am_s 9 < am_s 57 by decide) hc)
    refine r_ld (pc' := 17) hM_26 d_26_16 rfl rfl ?_
    exact hk
  exact ok_rt (fun fx _ => rt_i hM_26 d_26_17 rfl) H
theorem sx_9_57 {m : am_M} : ok 0 26 0 (am_ent 3 [.inl 9, .inl 57, .inr (.inr (some 4000))]) [] m (fun rr m' => rr = [.inl 9] ∧ m' = m) := usx_9_57 ⟨rfl, rfl⟩
theorem usx_10_57 {Q : List am_V → am_M → Prop} {m : am_M}   (H : Q [.inl 10] m) : ok 0 26 0 [some (.inl 10), some (.inl 57), some (.inr (.inr (some 4000)))] [] m Q := by
  refine ok_sg (pc' := 17) (ls' := [some (.inl 10), some (.inl 57), some (.inr (.inr (some 4000)))]) (st' := [.inl 10]) (m' := m) (fun fx hfx o hk => ?_) ?_
  · refine r_ld (pc' := 1) hM_26 d_26_0 rfl rfl ?_
    refine r_if (pc' := 9) (pc2 := 4) hM_26 d_26_1 (by decide) rfl (fun hc => absurd hc (show ¬ (am_s 10 < 0) by decide)) (fun _ => ?_)
    refine r_ld (pc' := 5) hM_26 d_26_4 rfl rfl ?_
    refine r_ld (pc' := 6) hM_26 d_26_5 rfl rfl ?_
    refine r_ic (pc' := 16) (pc2 := 9) hM_26 d_26_6 (by decide) rfl (fun _ => ?_) (fun hc => absurd (show am_s 10 < am_s 57 by decide) hc)
    refine r_ld (pc' := 17) hM_26 d_26_16 rfl rfl ?_
    exact hk
  exact ok_rt (fun fx _ => rt_i hM_26 d_26_17 rfl) H
theorem sx_10_57 {m : am_M} : ok 0 26 0 (am_ent 3 [.inl 10, .inl 57, .inr (.inr (some 4000))]) [] m (fun rr m' => rr = [.inl 10] ∧ m' = m) := usx_10_57 ⟨rfl, rfl⟩
theorem usx_11_57 {Q : List am_V → am_M → Prop} {m : am_M}   (H : Q [.inl 11] m) : ok 0 26 0 [some (.inl 11), some (.inl 57), some (.inr (.inr (some 4000)))] [] m Q := by
  refine ok_sg (pc' := 17) (ls' := [some (.inl 11), some (.inl 57), some (.inr (.inr (some 4000)))]) (st' := [.inl 11]) (m' := m) (fun fx hfx o hk => ?_) ?_
  · refine r_ld (pc' := 1) hM_26 d_26_0 rfl rfl ?_
    refine r_if (pc' := 9) (pc2 := 4) hM_26 d_26_1 (by decide) rfl (fun hc => absurd hc (show ¬ (am_s 11 < 0) by decide)) (fun _ => ?_)
    refine r_ld (pc' := 5) hM_26 d_26_4 rfl rfl ?_
    refine r_ld (pc' := 6) hM_26 d_26_5 rfl rfl ?_
    refine r_ic (pc' := 16) (pc2 := 9) hM_26 d_26_6 (by decide) rfl (fun _ => ?_) (fun hc => absurd (show am_s 11 < am_s 57 by decide) hc)
    refine r_ld (pc' := 17) hM_26 d_26_16 rfl rfl ?_
    exact hk
  exact ok_rt (fun fx _ => rt_i hM_26 d_26_17 rfl) H
theorem sx_11_57 {m : am_M} : ok 0 26 0 (am_ent 3 [.inl 11, .inl 57, .inr (.inr (some 4000))]) [] m (fun rr m' => rr = [.inl 11] ∧ m' = m) := usx_11_57 ⟨rfl, rfl⟩
theorem usx_12_57 {Q : List am_V → am_M → Prop} {m : am_M}   (H : Q [.inl 12] m) : ok 0 26 0 [some (.inl 12), some (.inl 57), some (.inr (.inr (some 4000)))] [] m Q := by
  refine ok_sg (pc' := 17) (ls' := [some (.inl 12), some (.inl 57), some (.inr (.inr (some 4000)))]) (st' := [.inl 12]) (m' := m) (fun fx hfx o hk => ?_) ?_
  · refine r_ld (pc' := 1) hM_26 d_26_0 rfl rfl ?_
    refine r_if (pc' := 9) (pc2 := 4) hM_26 d_26_1 (by decide) rfl (fun hc => absurd hc (show ¬ (am_s 12 < 0) by decide)) (fun _ => ?_)
    refine r_ld (pc' := 5) hM_26 d_26_4 rfl rfl ?_
    refine r_ld (pc' := 6) hM_26 d_26_5 rfl rfl ?_
    refine r_ic (pc' := 16) (pc2 := 9) hM_26 d_26_6 (by decide) rfl (fun _ => ?_) (fun hc => absurd (show am_s 12 < am_s 57 by decide) hc)
    refine r_ld (pc' := 17) hM_26 d_26_16 rfl rfl ?_
    exact hk
  exact ok_rt (fun fx _ => rt_i hM_26 d_26_17 rfl) H
theorem sx_12_57 {m : am_M} : ok 0 26 0 (am_ent 3 [.inl 12, .inl 57, .inr (.inr (some 4000))]) [] m (fun rr m' => rr = [.inl 12] ∧ m' = m) := usx_12_57 ⟨rfl, rfl⟩
theorem usx_13_57 {Q : List am_V → am_M → Prop} {m : am_M}   (H : Q [.inl 13] m) : ok 0 26 0 [some (.inl 13), some (.inl 57), some (.inr (.inr (some 4000)))] [] m Q := by
  refine ok_sg (pc' := 17) (ls' := [some (.inl 13), some (.inl 57), some (.inr (.inr (some 4000)))]) (st' := [.inl 13]) (m' := m) (fun fx hfx o hk => ?_) ?_
  · refine r_ld (pc' := 1) hM_26 d_26_0 rfl rfl ?_
    refine r_if (pc' := 9) (pc2 := 4) hM_26 d_26_1 (by decide) rfl (fun hc => absurd hc (show ¬ (am_s 13 < 0) by decide)) (fun _ => ?_)
    refine r_ld (pc' := 5) hM_26 d_26_4 rfl rfl ?_
    refine r_ld (pc' := 6) hM_26 d_26_5 rfl rfl ?_
    refine r_ic (pc' := 16) (pc2 := 9) hM_26 d_26_6 (by decide) rfl (fun _ => ?_) (fun hc => absurd (show am_s 13 < am_s 57 by decide) hc)
    refine r_ld (pc' := 17) hM_26 d_26_16 rfl rfl ?_
    exact hk
  exact ok_rt (fun fx _ => rt_i hM_26 d_26_17 rfl) H
theorem sx_13_57 {m : am_M} : ok 0 26 0 (am_ent 3 [.inl 13, .inl 57, .inr (.inr (some 4000))]) [] m (fun rr m' => rr = [.inl 13] ∧ m' = m) := usx_13_57 ⟨rfl, rfl⟩
theorem usx_14_57 {Q : List am_V → am_M → Prop} {m : am_M}   (H : Q [.inl 14] m) : ok 0 26 0 [some (.inl 14), some (.inl 57), some (.inr (.inr (some 4000)))] [] m Q := by
  refine ok_sg (pc' := 17) (ls' := [some (.inl 14), some (.inl 57), some (.inr (.inr (some 4000)))]) (st' := [.inl 14]) (m' := m) (fun fx hfx o hk => ?_) ?_
  · refine r_ld (pc' := 1) hM_26 d_26_0 rfl rfl ?_
    refine r_if (pc' := 9) (pc2 := 4) hM_26 d_26_1 (by decide) rfl (fun hc => absurd hc (show ¬ (am_s 14 < 0) by decide)) (fun _ => ?_)
    refine r_ld (pc' := 5) hM_26 d_26_4 rfl rfl ?_
    refine r_ld (pc' := 6) hM_26 d_26_5 rfl rfl ?_
    refine r_ic (pc' := 16) (pc2 := 9) hM_26 d_26_6 (by decide) rfl (fun _ => ?_) (fun hc => absurd (show am_s 14 < am_s 57 by decide) hc)
    refine r_ld (pc' := 17) hM_26 d_26_16 rfl rfl ?_
    exact hk
  exact ok_rt (fun fx _ => rt_i hM_26 d_26_17 rfl) H
theorem sx_14_57 {m : am_M} : ok 0 26 0 (am_ent 3 [.inl 14, .inl 57, .inr (.inr (some 4000))]) [] m (fun rr m' => rr = [.inl 14] ∧ m' = m) := usx_14_57 ⟨rfl, rfl⟩
theorem usx_15_57 {Q : List am_V → am_M → Prop} {m : am_M}   (H : Q [.inl 15] m) : ok 0 26 0 [some (.inl 15), some (.inl 57), some (.inr (.inr (some 4000)))] [] m Q := by
  refine ok_sg (pc' := 17) (ls' := [some (.inl 15), some (.inl 57), some (.inr (.inr (some 4000)))]) (st' := [.inl 15]) (m' := m) (fun fx hfx o hk => ?_) ?_
  · refine r_ld (pc' := 1) hM_26 d_26_0 rfl rfl ?_
    refine r_if (pc' := 9) (pc2 := 4) hM_26 d_26_1 (by decide) rfl (fun hc => absurd hc (show ¬ (am_s 15 < 0) by decide)) (fun _ => ?_)
    refine r_ld (pc' := 5) hM_26 d_26_4 rfl rfl ?_
    refine r_ld (pc' := 6) hM_26 d_26_5 rfl rfl ?_
    refine r_ic (pc' := 16) (pc2 := 9) hM_26 d_26_6 (by decide) rfl (fun _ => ?_) (fun hc => absurd (show am_s 15 < am_s 57 by decide) hc)
    refine r_ld (pc' := 17) hM_26 d_26_16 rfl rfl ?_
    exact hk
  exact ok_rt (fun fx _ => rt_i hM_26 d_26_17 rfl) H
theorem sx_15_57 {m : am_M} : ok 0 26 0 (am_ent 3 [.inl 15, .inl 57, .inr (.inr (some 4000))]) [] m (fun rr m' => rr = [.inl 15] ∧ m' = m) := usx_15_57 ⟨rfl, rfl⟩
theorem usx_16_57 {Q : List am_V → am_M → Prop} {m : am_M}   (H : Q [.inl 16] m) : ok 0 26 0 [some (.inl 16), some (.inl 57), some (.inr (.inr (some 4000)))] [] m Q := by
  refine ok_sg (pc' := 17) (ls' := [some (.inl 16), some (.inl 57), some (.inr (.inr (some 4000)))]) (st' := [.inl 16]) (m' := m) (fun fx hfx o hk => ?_) ?_
  · refine r_ld (pc' := 1) hM_26 d_26_0 rfl rfl ?_
    refine r_if (pc' := 9) (pc2 := 4) hM_26 d_26_1 (by decide) rfl (fun hc => absurd hc (show ¬ (am_s 16 < 0) by decide)) (fun _ => ?_)
    refine r_ld (pc' := 5) hM_26 d_26_4 rfl rfl ?_
    refine r_ld (pc' := 6) hM_26 d_26_5 rfl rfl ?_
    refine r_ic (pc' := 16) (pc2 := 9) hM_26 d_26_6 (by decide) rfl (fun _ => ?_) (fun hc => absurd (show am_s 16 < am_s 57 by decide) hc)
    refine r_ld (pc' := 17) hM_26 d_26_16 rfl rfl ?_
    exact hk
  exact ok_rt (fun fx _ => rt_i hM_26 d_26_17 rfl) H
theorem sx_16_57 {m : am_M} : ok 0 26 0 (am_ent 3 [.inl 16, .inl 57, .inr (.inr (some 4000))]) [] m (fun rr m' => rr = [.inl 16] ∧ m' = m) := usx_16_57 ⟨rfl, rfl⟩
theorem usx_17_57 {Q : List am_V → am_M → Prop} {m : am_M}   (H : Q [.inl 17] m) : ok 0 26 0 [some (.inl 17), some (.inl 57), some (.inr (.inr (some 4000)))] [] m Q := by
  refine ok_sg (pc' := 17) (ls' := [some (.inl 17), some (.inl 57), some (.inr (.inr (some 4000)))]) (st' := [.inl 17]) (m' := m) (fun fx hfx o hk => ?_) ?_
  · refine r_ld (pc' := 1) hM_26 d_26_0 rfl rfl ?_
    refine r_if (pc' := 9) (pc2 := 4) hM_26 d_26_1 (by decide) rfl (fun hc => absurd hc (show ¬ (am_s 17 < 0) by decide)) (fun _ => ?_)
    refine r_ld (pc' := 5) hM_26 d_26_4 rfl rfl ?_
    refine r_ld (pc' := 6) hM_26 d_26_5 rfl rfl ?_
    refine r_ic (pc' := 16) (pc2 := 9) hM_26 d_26_6 (by decide) rfl (fun _ => ?_) (fun hc => absurd (show am_s 17 < am_s 57 by decide) hc)
    refine r_ld (pc' := 17) hM_26 d_26_16 rfl rfl ?_
    exact hk
  exact ok_rt (fun fx _ => rt_i hM_26 d_26_17 rfl) H
theorem sx_17_57 {m : am_M} : ok 0 26 0 (am_ent 3 [.inl 17, .inl 57, .inr (.inr (some 4000))]) [] m (fun rr m' => rr = [.inl 17] ∧ m' = m) := usx_17_57 ⟨rfl, rfl⟩
theorem usx_18_57 {Q : List am_V → am_M → Prop} {m : am_M}   (H : Q [.inl 18] m) : ok 0 26 0 [some (.inl 18), some (.inl 57), some (.inr (.inr (some 4000)))] [] m Q := by
  refine ok_sg (pc' := 17) (ls' := [some (.inl 18), some (.inl 57), some (.inr (.inr (some 4000)))]) (st' := [.inl 18]) (m' := m) (fun fx hfx o hk => ?_) ?_
  · refine r_ld (pc' := 1) hM_26 d_26_0 rfl rfl ?_
    refine r_if (pc' := 9) (pc2 := 4) hM_26 d_26_1 (by decide) rfl (fun hc => absurd hc (show ¬ (am_s 18 < 0) by decide)) (fun _ => ?_)
    refine r_ld (pc' := 5) hM_26 d_26_4 rfl rfl ?_
    refine r_ld (pc' := 6) hM_26 d_26_5 rfl rfl ?_
    refine r_ic (pc' := 16) (pc2 := 9) hM_26 d_26_6 (by decide) rfl (fun _ => ?_) (fun hc => absurd (show am_s 18 < am_s 57 by decide) hc)
    refine r_ld (pc' := 17) hM_26 d_26_16 rfl rfl ?_
    exact hk
  exact ok_rt (fun fx _ => rt_i hM_26 d_26_17 rfl) H
theorem sx_18_57 {m : am_M} : ok 0 26 0 (am_ent 3 [.inl 18, .inl 57, .inr (.inr (some 4000))]) [] m (fun rr m' => rr = [.inl 18] ∧ m' = m) := usx_18_57 ⟨rfl, rfl⟩
theorem usx_19_57 {Q : List am_V → am_M → Prop} {m : am_M}   (H : Q [.inl 19] m) : ok 0 26 0 [some (.inl 19), some (.inl 57), some (.inr (.inr (some 4000)))] [] m Q := by
  refine ok_sg (pc' := 17) (ls' := [some (.inl 19), some (.inl 57), some (.inr (.inr (some 4000)))]) (st' := [.inl 19]) (m' := m) (fun fx hfx o hk => ?_) ?_
  · refine r_ld (pc' := 1) hM_26 d_26_0 rfl rfl ?_
    refine r_if (pc' := 9) (pc2 := 4) hM_26 d_26_1 (by decide) rfl (fun hc => absurd hc (show ¬ (am_s 19 < 0) by decide)) (fun _ => ?_)
    refine r_ld (pc' := 5) hM_26 d_26_4 rfl rfl ?_
    refine r_ld (pc' := 6) hM_26 d_26_5 rfl rfl ?_
    refine r_ic (pc' := 16) (pc2 := 9) hM_26 d_26_6 (by decide) rfl (fun _ => ?_) (fun hc => absurd (show am_s 19 < am_s 57 by decide) hc)
    refine r_ld (pc' := 17) hM_26 d_26_16 rfl rfl ?_
    exact hk
  exact ok_rt (fun fx _ => rt_i hM_26 d_26_17 rfl) H
theorem sx_19_57 {m : am_M} : ok 0 26 0 (am_ent 3 [.inl 19, .inl 57, .inr (.inr (some 4000))]) [] m (fun rr m' => rr = [.inl 19] ∧ m' = m) := usx_19_57 ⟨rfl, rfl⟩
theorem usx_20_57 {Q : List am_V → am_M → Prop} {m : am_M}   (H : Q [.inl 20] m) : ok 0 26 0 [some (.inl 20), some (.inl 57), some (.inr (.inr (some 4000)))] [] m Q := by
  refine ok_sg (pc' := 17) (ls' := [some (.inl 20), some (.inl 57), some (.inr (.inr (some 4000)))]) (st' := [.inl 20]) (m' := m) (fun fx hfx o hk => ?_) ?_
  · refine r_ld (pc' := 1) hM_26 d_26_0 rfl rfl ?_
    refine r_if (pc' := 9) (pc2 := 4) hM_26 d_26_1 (by decide) rfl (fun hc => absurd hc (show ¬ (am_s 20 < 0) by decide)) (fun _ => ?_)
    refine r_ld (pc' := 5) hM_26 d_26_4 rfl rfl ?_
    refine r_ld (pc' := 6) hM_26 d_26_5 rfl rfl ?_
    refine r_ic (pc' := 16) (pc2 := 9) hM_26 d_26_6 (by decide) rfl (fun _ => ?_) (fun hc => absurd (show am_s 20 < am_s 57 by decide) hc)
    refine r_ld (pc' := 17) hM_26 d_26_16 rfl rfl ?_
    exact hk
  exact ok_rt (fun fx _ => rt_i hM_26 d_26_17 rfl) H
theorem sx_20_57 {m : am_M} : ok 0 26 0 (am_ent 3 [.inl 20, .inl 57, .inr (.inr (some 4000))]) [] m (fun rr m' => rr = [.inl 20] ∧ m' = m) := usx_20_57 ⟨rfl, rfl⟩
theorem usx_21_57 {Q : List am_V → am_M → Prop} {m : am_M}   (H : Q [.inl 21] m) : ok 0 26 0 [some (.inl 21), some (.inl 57), some (.inr (.inr (some 4000)))] [] m Q := by
  refine ok_sg (pc' := 17) (ls' := [some (.inl 21), some (.inl 57), some (.inr (.inr (some 4000)))]) (st' := [.inl 21]) (m' := m) (fun fx hfx o hk => ?_) ?_
  · refine r_ld (pc' := 1) hM_26 d_26_0 rfl rfl ?_
    refine r_if (pc' := 9) (pc2 := 4) hM_26 d_26_1 (by decide) rfl (fun hc => absurd hc (show ¬ (am_s 21 < 0) by decide)) (fun _ => ?_)
    refine r_ld (pc' := 5) hM_26 d_26_4 rfl rfl ?_
    refine r_ld (pc' := 6) hM_26 d_26_5 rfl rfl ?_
    refine r_ic (pc' := 16) (pc2 := 9) hM_26 d_26_6 (by decide) rfl (fun _ => ?_) (fun hc => absurd (show am_s 21 < am_s 57 by decide) hc)
    refine r_ld (pc' := 17) hM_26 d_26_16 rfl rfl ?_
    exact hk
  exact ok_rt (fun fx _ => rt_i hM_26 d_26_17 rfl) H
theorem sx_21_57 {m : am_M} : ok 0 26 0 (am_ent 3 [.inl 21, .inl 57, .inr (.inr (some 4000))]) [] m (fun rr m' => rr = [.inl 21] ∧ m' = m) := usx_21_57 ⟨rfl, rfl⟩
theorem usx_22_57 {Q : List am_V → am_M → Prop} {m : am_M}   (H : Q [.inl 22] m) : ok 0 26 0 [some (.inl 22), some (.inl 57), some (.inr (.inr (some 4000)))] [] m Q := by
  refine ok_sg (pc' := 17) (ls' := [some (.inl 22), some (.inl 57), some (.inr (.inr (some 4000)))]) (st' := [.inl 22]) (m' := m) (fun fx hfx o hk => ?_) ?_
  · refine r_ld (pc' := 1) hM_26 d_26_0 rfl rfl ?_
    refine r_if (pc' := 9) (pc2 := 4) hM_26 d_26_1 (by decide) rfl (fun hc => absurd hc (show ¬ (am_s 22 < 0) by decide)) (fun _ => ?_)
    refine r_ld (pc' := 5) hM_26 d_26_4 rfl rfl ?_
    refine r_ld (pc' := 6) hM_26 d_26_5 rfl rfl ?_
    refine r_ic (pc' := 16) (pc2 := 9) hM_26 d_26_6 (by decide) rfl (fun _ => ?_) (fun hc => absurd (show am_s 22 < am_s 57 by decide) hc)
    refine r_ld (pc' := 17) hM_26 d_26_16 rfl rfl ?_
    exact hk
  exact ok_rt (fun fx _ => rt_i hM_26 d_26_17 rfl) H
theorem sx_22_57 {m : am_M} : ok 0 26 0 (am_ent 3 [.inl 22, .inl 57, .inr (.inr (some 4000))]) [] m (fun rr m' => rr = [.inl 22] ∧ m' = m) := usx_22_57 ⟨rfl, rfl⟩
theorem usx_23_57 {Q : List am_V → am_M → Prop} {m : am_M}   (H : Q [.inl 23] m) : ok 0 26 0 [some (.inl 23), some (.inl 57), some (.inr (.inr (some 4000)))] [] m Q := by
  refine ok_sg (pc' := 17) (ls' := [some (.inl 23), some (.inl 57), some (.inr (.inr (some 4000)))]) (st' := [.inl 23]) (m' := m) (fun fx hfx o hk => ?_) ?_
  · refine r_ld (pc' := 1) hM_26 d_26_0 rfl rfl ?_
    refine r_if (pc' := 9) (pc2 := 4) hM_26 d_26_1 (by decide) rfl (fun hc => absurd hc (show ¬ (am_s 23 < 0) by decide)) (fun _ => ?_)
    refine r_ld (pc' := 5) hM_26 d_26_4 rfl rfl ?_
    refine r_ld (pc' := 6) hM_26 d_26_5 rfl rfl ?_
    refine r_ic (pc' := 16) (pc2 := 9) hM_26 d_26_6 (by decide) rfl (fun _ => ?_) (fun hc => absurd (show am_s 23 < am_s 57 by decide) hc)
    refine r_ld (pc' := 17) hM_26 d_26_16 rfl rfl ?_
    exact hk
  exact ok_rt (fun fx _ => rt_i hM_26 d_26_17 rfl) H
theorem sx_23_57 {m : am_M} : ok 0 26 0 (am_ent 3 [.inl 23, .inl 57, .inr (.inr (some 4000))]) [] m (fun rr m' => rr = [.inl 23] ∧ m' = m) := usx_23_57 ⟨rfl, rfl⟩
theorem usx_24_57 {Q : List am_V → am_M → Prop} {m : am_M}   (H : Q [.inl 24] m) : ok 0 26 0 [some (.inl 24), some (.inl 57), some (.inr (.inr (some 4000)))] [] m Q := by
  refine ok_sg (pc' := 17) (ls' := [some (.inl 24), some (.inl 57), some (.inr (.inr (some 4000)))]) (st' := [.inl 24]) (m' := m) (fun fx hfx o hk => ?_) ?_
  · refine r_ld (pc' := 1) hM_26 d_26_0 rfl rfl ?_
    refine r_if (pc' := 9) (pc2 := 4) hM_26 d_26_1 (by decide) rfl (fun hc => absurd hc (show ¬ (am_s 24 < 0) by decide)) (fun _ => ?_)
    refine r_ld (pc' := 5) hM_26 d_26_4 rfl rfl ?_
    refine r_ld (pc' := 6) hM_26 d_26_5 rfl rfl ?_
    refine r_ic (pc' := 16) (pc2 := 9) hM_26 d_26_6 (by decide) rfl (fun _ => ?_) (fun hc => absurd (show am_s 24 < am_s 57 by decide) hc)
    refine r_ld (pc' := 17) hM_26 d_26_16 rfl rfl ?_
    exact hk
  exact ok_rt (fun fx _ => rt_i hM_26 d_26_17 rfl) H
theorem sx_24_57 {m : am_M} : ok 0 26 0 (am_ent 3 [.inl 24, .inl 57, .inr (.inr (some 4000))]) [] m (fun rr m' => rr = [.inl 24] ∧ m' = m) := usx_24_57 ⟨rfl, rfl⟩
theorem usx_25_57 {Q : List am_V → am_M → Prop} {m : am_M}   (H : Q [.inl 25] m) : ok 0 26 0 [some (.inl 25), some (.inl 57), some (.inr (.inr (some 4000)))] [] m Q := by
  refine ok_sg (pc' := 17) (ls' := [some (.inl 25), some (.inl 57), some (.inr (.inr (some 4000)))]) (st' := [.inl 25]) (m' := m) (fun fx hfx o hk => ?_) ?_
  · refine r_ld (pc' := 1) hM_26 d_26_0 rfl rfl ?_
    refine r_if (pc' := 9) (pc2 := 4) hM_26 d_26_1 (by decide) rfl (fun hc => absurd hc (show ¬ (am_s 25 < 0) by decide)) (fun _ => ?_)
    refine r_ld (pc' := 5) hM_26 d_26_4 rfl rfl ?_
    refine r_ld (pc' := 6) hM_26 d_26_5 rfl rfl ?_
    refine r_ic (pc' := 16) (pc2 := 9) hM_26 d_26_6 (by decide) rfl (fun _ => ?_) (fun hc => absurd (show am_s 25 < am_s 57 by decide) hc)
    refine r_ld (pc' := 17) hM_26 d_26_16 rfl rfl ?_
    exact hk
  exact ok_rt (fun fx _ => rt_i hM_26 d_26_17 rfl) H
theorem sx_25_57 {m : am_M} : ok 0 26 0 (am_ent 3 [.inl 25, .inl 57, .inr (.inr (some 4000))]) [] m (fun rr m' => rr = [.inl 25] ∧ m' = m) := usx_25_57 ⟨rfl, rfl⟩
theorem usx_26_57 {Q : List am_V → am_M → Prop} {m : am_M}   (H : Q [.inl 26] m) : ok 0 26 0 [some (.inl 26), some (.inl 57), some (.inr (.inr (some 4000)))] [] m Q := by
  refine ok_sg (pc' := 17) (ls' := [some (.inl 26), some (.inl 57), some (.inr (.inr (some 4000)))]) (st' := [.inl 26]) (m' := m) (fun fx hfx o hk => ?_) ?_
  · refine r_ld (pc' := 1) hM_26 d_26_0 rfl rfl ?_
    refine r_if (pc' := 9) (pc2 := 4) hM_26 d_26_1 (by decide) rfl (fun hc => absurd hc (show ¬ (am_s 26 < 0) by decide)) (fun _ => ?_)
    refine r_ld (pc' := 5) hM_26 d_26_4 rfl rfl ?_
    refine r_ld (pc' := 6) hM_26 d_26_5 rfl rfl ?_
    refine r_ic (pc' := 16) (pc2 := 9) hM_26 d_26_6 (by decide) rfl (fun _ => ?_) (fun hc => absurd (show am_s 26 < am_s 57 by decide) hc)
    refine r_ld (pc' := 17) hM_26 d_26_16 rfl rfl ?_
    exact hk
  exact ok_rt (fun fx _ => rt_i hM_26 d_26_17 rfl) H
theorem sx_26_57 {m : am_M} : ok 0 26 0 (am_ent 3 [.inl 26, .inl 57, .inr (.inr (some 4000))]) [] m (fun rr m' => rr = [.inl 26] ∧ m' = m) := usx_26_57 ⟨rfl, rfl⟩
theorem usx_27_57 {Q : List am_V → am_M → Prop} {m : am_M}   (H : Q [.inl 27] m) : ok 0 26 0 [some (.inl 27), some (.inl 57), some (.inr (.inr (some 4000)))] [] m Q := by
  refine ok_sg (pc' := 17) (ls' := [some (.inl 27), some (.inl 57), some (.inr (.inr (some 4000)))]) (st' := [.inl 27]) (m' := m) (fun fx hfx o hk => ?_) ?_
  · refine r_ld (pc' := 1) hM_26 d_26_0 rfl rfl ?_
    refine r_if (pc' := 9) (pc2 := 4) hM_26 d_26_1 (by decide) rfl (fun hc => absurd hc (show ¬ (am_s 27 < 0) by decide)) (fun _ => ?_)
    refine r_ld (pc' := 5) hM_26 d_26_4 rfl rfl ?_
    refine r_ld (pc' := 6) hM_26 d_26_5 rfl rfl ?_
    refine r_ic (pc' := 16) (pc2 := 9) hM_26 d_26_6 (by decide) rfl (fun _ => ?_) (fun hc => absurd (show am_s 27 < am_s 57 by decide) hc)
    refine r_ld (pc' := 17) hM_26 d_26_16 rfl rfl ?_
    exact hk
  exact ok_rt (fun fx _ => rt_i hM_26 d_26_17 rfl) H
theorem sx_27_57 {m : am_M} : ok 0 26 0 (am_ent 3 [.inl 27, .inl 57, .inr (.inr (some 4000))]) [] m (fun rr m' => rr = [.inl 27] ∧ m' = m) := usx_27_57 ⟨rfl, rfl⟩
theorem usx_28_57 {Q : List am_V → am_M → Prop} {m : am_M}   (H : Q [.inl 28] m) : ok 0 26 0 [some (.inl 28), some (.inl 57), some (.inr (.inr (some 4000)))] [] m Q := by
  refine ok_sg (pc' := 17) (ls' := [some (.inl 28), some (.inl 57), some (.inr (.inr (some 4000)))]) (st' := [.inl 28]) (m' := m) (fun fx hfx o hk => ?_) ?_
  · refine r_ld (pc' := 1) hM_26 d_26_0 rfl rfl ?_
    refine r_if (pc' := 9) (pc2 := 4) hM_26 d_26_1 (by decide) rfl (fun hc => absurd hc (show ¬ (am_s 28 < 0) by decide)) (fun _ => ?_)
    refine r_ld (pc' := 5) hM_26 d_26_4 rfl rfl ?_
    refine r_ld (pc' := 6) hM_26 d_26_5 rfl rfl ?_
    refine r_ic (pc' := 16) (pc2 := 9) hM_26 d_26_6 (by decide) rfl (fun _ => ?_) (fun hc => absurd (show am_s 28 < am_s 57 by decide) hc)
    refine r_ld (pc' := 17) hM_26 d_26_16 rfl rfl ?_
    exact hk
  exact ok_rt (fun fx _ => rt_i hM_26 d_26_17 rfl) H
theorem sx_28_57 {m : am_M} : ok 0 26 0 (am_ent 3 [.inl 28, .inl 57, .inr (.inr (some 4000))]) [] m (fun rr m' => rr = [.inl 28] ∧ m' = m) := usx_28_57 ⟨rfl, rfl⟩
theorem usx_29_57 {Q : List am_V → am_M → Prop} {m : am_M}   (H : Q [.inl 29] m) : ok 0 26 0 [some (.inl 29), some (.inl 57), some (.inr (.inr (some 4000)))] [] m Q := by
  refine ok_sg (pc' := 17) (ls' := [some (.inl 29), some (.inl 57), some (.inr (.inr (some 4000)))]) (st' := [.inl 29]) (m' := m) (fun fx hfx o hk => ?_) ?_
  · refine r_ld (pc' := 1) hM_26 d_26_0 rfl rfl ?_
    refine r_if (pc' := 9) (pc2 := 4) hM_26 d_26_1 (by decide) rfl (fun hc => absurd hc (show ¬ (am_s 29 < 0) by decide)) (fun _ => ?_)
    refine r_ld (pc' := 5) hM_26 d_26_4 rfl rfl ?_
    refine r_ld (pc' := 6) hM_26 d_26_5 rfl rfl ?_
    refine r_ic (pc' := 16) (pc2 := 9) hM_26 d_26_6 (by decide) rfl (fun _ => ?_) (fun hc => absurd (show am_s 29 < am_s 57 by decide) hc)
    refine r_ld (pc' := 17) hM_26 d_26_16 rfl rfl ?_
    exact hk
  exact ok_rt (fun fx _ => rt_i hM_26 d_26_17 rfl) H
theorem sx_29_57 {m : am_M} : ok 0 26 0 (am_ent 3 [.inl 29, .inl 57, .inr (.inr (some 4000))]) [] m (fun rr m' => rr = [.inl 29] ∧ m' = m) := usx_29_57 ⟨rfl, rfl⟩
theorem usx_30_57 {Q : List am_V → am_M → Prop} {m : am_M}   (H : Q [.inl 30] m) : ok 0 26 0 [some (.inl 30), some (.inl 57), some (.inr (.inr (some 4000)))] [] m Q := by
  refine ok_sg (pc' := 17) (ls' := [some (.inl 30), some (.inl 57), some (.inr (.inr (some 4000)))]) (st' := [.inl 30]) (m' := m) (fun fx hfx o hk => ?_) ?_
  · refine r_ld (pc' := 1) hM_26 d_26_0 rfl rfl ?_
    refine r_if (pc' := 9) (pc2 := 4) hM_26 d_26_1 (by decide) rfl (fun hc => absurd hc (show ¬ (am_s 30 < 0) by decide)) (fun _ => ?_)
    refine r_ld (pc' := 5) hM_26 d_26_4 rfl rfl ?_
    refine r_ld (pc' := 6) hM_26 d_26_5 rfl rfl ?_
    refine r_ic (pc' := 16) (pc2 := 9) hM_26 d_26_6 (by decide) rfl (fun _ => ?_) (fun hc => absurd (show am_s 30 < am_s 57 by decide) hc)
    refine r_ld (pc' := 17) hM_26 d_26_16 rfl rfl ?_
    exact hk
  exact ok_rt (fun fx _ => rt_i hM_26 d_26_17 rfl) H
theorem sx_30_57 {m : am_M} : ok 0 26 0 (am_ent 3 [.inl 30, .inl 57, .inr (.inr (some 4000))]) [] m (fun rr m' => rr = [.inl 30] ∧ m' = m) := usx_30_57 ⟨rfl, rfl⟩
theorem usx_31_57 {Q : List am_V → am_M → Prop} {m : am_M}   (H : Q [.inl 31] m) : ok 0 26 0 [some (.inl 31), some (.inl 57), some (.inr (.inr (some 4000)))] [] m Q := by
  refine ok_sg (pc' := 17) (ls' := [some (.inl 31), some (.inl 57), some (.inr (.inr (some 4000)))]) (st' := [.inl 31]) (m' := m) (fun fx hfx o hk => ?_) ?_
  · refine r_ld (pc' := 1) hM_26 d_26_0 rfl rfl ?_
    refine r_if (pc' := 9) (pc2 := 4) hM_26 d_26_1 (by decide) rfl (fun hc => absurd hc (show ¬ (am_s 31 < 0) by decide)) (fun _ => ?_)
    refine r_ld (pc' := 5) hM_26 d_26_4 rfl rfl ?_
    refine r_ld (pc' := 6) hM_26 d_26_5 rfl rfl ?_
    refine r_ic (pc' := 16) (pc2 := 9) hM_26 d_26_6 (by decide) rfl (fun _ => ?_) (fun hc => absurd (show am_s 31 < am_s 57 by decide) hc)
    refine r_ld (pc' := 17) hM_26 d_26_16 rfl rfl ?_
    exact hk
  exact ok_rt (fun fx _ => rt_i hM_26 d_26_17 rfl) H
theorem sx_31_57 {m : am_M} : ok 0 26 0 (am_ent 3 [.inl 31, .inl 57, .inr (.inr (some 4000))]) [] m (fun rr m' => rr = [.inl 31] ∧ m' = m) := usx_31_57 ⟨rfl, rfl⟩
theorem usx_32_57 {Q : List am_V → am_M → Prop} {m : am_M}   (H : Q [.inl 32] m) : ok 0 26 0 [some (.inl 32), some (.inl 57), some (.inr (.inr (some 4000)))] [] m Q := by
  refine ok_sg (pc' := 17) (ls' := [some (.inl 32), some (.inl 57), some (.inr (.inr (some 4000)))]) (st' := [.inl 32]) (m' := m) (fun fx hfx o hk => ?_) ?_
  · refine r_ld (pc' := 1) hM_26 d_26_0 rfl rfl ?_
    refine r_if (pc' := 9) (pc2 := 4) hM_26 d_26_1 (by decide) rfl (fun hc => absurd hc (show ¬ (am_s 32 < 0) by decide)) (fun _ => ?_)
    refine r_ld (pc' := 5) hM_26 d_26_4 rfl rfl ?_
    refine r_ld (pc' := 6) hM_26 d_26_5 rfl rfl ?_
    refine r_ic (pc' := 16) (pc2 := 9) hM_26 d_26_6 (by decide) rfl (fun _ => ?_) (fun hc => absurd (show am_s 32 < am_s 57 by decide) hc)
    refine r_ld (pc' := 17) hM_26 d_26_16 rfl rfl ?_
    exact hk
  exact ok_rt (fun fx _ => rt_i hM_26 d_26_17 rfl) H
theorem sx_32_57 {m : am_M} : ok 0 26 0 (am_ent 3 [.inl 32, .inl 57, .inr (.inr (some 4000))]) [] m (fun rr m' => rr = [.inl 32] ∧ m' = m) := usx_32_57 ⟨rfl, rfl⟩
theorem usx_33_57 {Q : List am_V → am_M → Prop} {m : am_M}   (H : Q [.inl 33] m) : ok 0 26 0 [some (.inl 33), some (.inl 57), some (.inr (.inr (some 4000)))] [] m Q := by
  refine ok_sg (pc' := 17) (ls' := [some (.inl 33), some (.inl 57), some (.inr (.inr (some 4000)))]) (st' := [.inl 33]) (m' := m) (fun fx hfx o hk => ?_) ?_
  · refine r_ld (pc' := 1) hM_26 d_26_0 rfl rfl ?_
    refine r_if (pc' := 9) (pc2 := 4) hM_26 d_26_1 (by decide) rfl (fun hc => absurd hc (show ¬ (am_s 33 < 0) by decide)) (fun _ => ?_)
    refine r_ld (pc' := 5) hM_26 d_26_4 rfl rfl ?_
    refine r_ld (pc' := 6) hM_26 d_26_5 rfl rfl ?_
    refine r_ic (pc' := 16) (pc2 := 9) hM_26 d_26_6 (by decide) rfl (fun _ => ?_) (fun hc => absurd (show am_s 33 < am_s 57 by decide) hc)
    refine r_ld (pc' := 17) hM_26 d_26_16 rfl rfl ?_
    exact hk
  exact ok_rt (fun fx _ => rt_i hM_26 d_26_17 rfl) H
theorem sx_33_57 {m : am_M} : ok 0 26 0 (am_ent 3 [.inl 33, .inl 57, .inr (.inr (some 4000))]) [] m (fun rr m' => rr = [.inl 33] ∧ m' = m) := usx_33_57 ⟨rfl, rfl⟩
theorem usx_34_57 {Q : List am_V → am_M → Prop} {m : am_M}   (H : Q [.inl 34] m) : ok 0 26 0 [some (.inl 34), some (.inl 57), some (.inr (.inr (some 4000)))] [] m Q := by
  refine ok_sg (pc' := 17) (ls' := [some (.inl 34), some (.inl 57), some (.inr (.inr (some 4000)))]) (st' := [.inl 34]) (m' := m) (fun fx hfx o hk => ?_) ?_
  · refine r_ld (pc' := 1) hM_26 d_26_0 rfl rfl ?_
    refine r_if (pc' := 9) (pc2 := 4) hM_26 d_26_1 (by decide) rfl (fun hc => absurd hc (show ¬ (am_s 34 < 0) by decide)) (fun _ => ?_)
    refine r_ld (pc' := 5) hM_26 d_26_4 rfl rfl ?_
    refine r_ld (pc' := 6) hM_26 d_26_5 rfl rfl ?_
    refine r_ic (pc' := 16) (pc2 := 9) hM_26 d_26_6 (by decide) rfl (fun _ => ?_) (fun hc => absurd (show am_s 34 < am_s 57 by decide) hc)
    refine r_ld (pc' := 17) hM_26 d_26_16 rfl rfl ?_
    exact hk
  exact ok_rt (fun fx _ => rt_i hM_26 d_26_17 rfl) H
theorem sx_34_57 {m : am_M} : ok 0 26 0 (am_ent 3 [.inl 34, .inl 57, .inr (.inr (some 4000))]) [] m (fun rr m' => rr = [.inl 34] ∧ m' = m) := usx_34_57 ⟨rfl, rfl⟩
theorem usx_35_57 {Q : List am_V → am_M → Prop} {m : am_M}   (H : Q [.inl 35] m) : ok 0 26 0 [some (.inl 35), some (.inl 57), some (.inr (.inr (some 4000)))] [] m Q := by
  refine ok_sg (pc' := 17) (ls' := [some (.inl 35), some (.inl 57), some (.inr (.inr (some 4000)))]) (st' := [.inl 35]) (m' := m) (fun fx hfx o hk => ?_) ?_
  · refine r_ld (pc' := 1) hM_26 d_26_0 rfl rfl ?_
    refine r_if (pc' := 9) (pc2 := 4) hM_26 d_26_1 (by decide) rfl (fun hc => absurd hc (show ¬ (am_s 35 < 0) by decide)) (fun _ => ?_)
    refine r_ld (pc' := 5) hM_26 d_26_4 rfl rfl ?_
    refine r_ld (pc' := 6) hM_26 d_26_5 rfl rfl ?_
    refine r_ic (pc' := 16) (pc2 := 9) hM_26 d_26_6 (by decide) rfl (fun _ => ?_) (fun hc => absurd (show am_s 35 < am_s 57 by decide) hc)
    refine r_ld (pc' := 17) hM_26 d_26_16 rfl rfl ?_
    exact hk
  exact ok_rt (fun fx _ => rt_i hM_26 d_26_17 rfl) H
theorem sx_35_57 {m : am_M} : ok 0 26 0 (am_ent 3 [.inl 35, .inl 57, .inr (.inr (some 4000))]) [] m (fun rr m' => rr = [.inl 35] ∧ m' = m) := usx_35_57 ⟨rfl, rfl⟩
theorem usx_36_57 {Q : List am_V → am_M → Prop} {m : am_M}   (H : Q [.inl 36] m) : ok 0 26 0 [some (.inl 36), some (.inl 57), some (.inr (.inr (some 4000)))] [] m Q := by
  refine ok_sg (pc' := 17) (ls' := [some (.inl 36), some (.inl 57), some (.inr (.inr (some 4000)))]) (st' := [.inl 36]) (m' := m) (fun fx hfx o hk => ?_) ?_
  · refine r_ld (pc' := 1) hM_26 d_26_0 rfl rfl ?_
    refine r_if (pc' := 9) (pc2 := 4) hM_26 d_26_1 (by decide) rfl (fun hc => absurd hc (show ¬ (am_s 36 < 0) by decide)) (fun _ => ?_)
    refine r_ld (pc' := 5) hM_26 d_26_4 rfl rfl ?_
    refine r_ld (pc' := 6) hM_26 d_26_5 rfl rfl ?_
    refine r_ic (pc' := 16) (pc2 := 9) hM_26 d_26_6 (by decide) rfl (fun _ => ?_) (fun hc => absurd (show am_s 36 < am_s 57 by decide) hc)
    refine r_ld (pc' := 17) hM_26 d_26_16 rfl rfl ?_
    exact hk
  exact ok_rt (fun fx _ => rt_i hM_26 d_26_17 rfl) H
theorem sx_36_57 {m : am_M} : ok 0 26 0 (am_ent 3 [.inl 36, .inl 57, .inr (.inr (some 4000))]) [] m (fun rr m' => rr = [.inl 36] ∧ m' = m) := usx_36_57 ⟨rfl, rfl⟩
theorem usx_37_57 {Q : List am_V → am_M → Prop} {m : am_M}   (H : Q [.inl 37] m) : ok 0 26 0 [some (.inl 37), some (.inl 57), some (.inr (.inr (some 4000)))] [] m Q := by
  refine ok_sg (pc' := 17) (ls' := [some (.inl 37), some (.inl 57), some (.inr (.inr (some 4000)))]) (st' := [.inl 37]) (m' := m) (fun fx hfx o hk => ?_) ?_
  · refine r_ld (pc' := 1) hM_26 d_26_0 rfl rfl ?_
    refine r_if (pc' := 9) (pc2 := 4) hM_26 d_26_1 (by decide) rfl (fun hc => absurd hc (show ¬ (am_s 37 < 0) by decide)) (fun _ => ?_)
    refine r_ld (pc' := 5) hM_26 d_26_4 rfl rfl ?_
    refine r_ld (pc' := 6) hM_26 d_26_5 rfl rfl ?_
    refine r_ic (pc' := 16) (pc2 := 9) hM_26 d_26_6 (by decide) rfl (fun _ => ?_) (fun hc => absurd (show am_s 37 < am_s 57 by decide) hc)
    refine r_ld (pc' := 17) hM_26 d_26_16 rfl rfl ?_
    exact hk
  exact ok_rt (fun fx _ => rt_i hM_26 d_26_17 rfl) H
theorem sx_37_57 {m : am_M} : ok 0 26 0 (am_ent 3 [.inl 37, .inl 57, .inr (.inr (some 4000))]) [] m (fun rr m' => rr = [.inl 37] ∧ m' = m) := usx_37_57 ⟨rfl, rfl⟩
theorem usx_38_57 {Q : List am_V → am_M → Prop} {m : am_M}   (H : Q [.inl 38] m) : ok 0 26 0 [some (.inl 38), some (.inl 57), some (.inr (.inr (some 4000)))] [] m Q := by
  refine ok_sg (pc' := 17) (ls' := [some (.inl 38), some (.inl 57), some (.inr (.inr (some 4000)))]) (st' := [.inl 38]) (m' := m) (fun fx hfx o hk => ?_) ?_
  · refine r_ld (pc' := 1) hM_26 d_26_0 rfl rfl ?_
    refine r_if (pc' := 9) (pc2 := 4) hM_26 d_26_1 (by decide) rfl (fun hc => absurd hc (show ¬ (am_s 38 < 0) by decide)) (fun _ => ?_)
    refine r_ld (pc' := 5) hM_26 d_26_4 rfl rfl ?_
    refine r_ld (pc' := 6) hM_26 d_26_5 rfl rfl ?_
    refine r_ic (pc' := 16) (pc2 := 9) hM_26 d_26_6 (by decide) rfl (fun _ => ?_) (fun hc => absurd (show am_s 38 < am_s 57 by decide) hc)
    refine r_ld (pc' := 17) hM_26 d_26_16 rfl rfl ?_
    exact hk
  exact ok_rt (fun fx _ => rt_i hM_26 d_26_17 rfl) H
theorem sx_38_57 {m : am_M} : ok 0 26 0 (am_ent 3 [.inl 38, .inl 57, .inr (.inr (some 4000))]) [] m (fun rr m' => rr = [.inl 38] ∧ m' = m) := usx_38_57 ⟨rfl, rfl⟩
theorem usx_39_57 {Q : List am_V → am_M → Prop} {m : am_M}   (H : Q [.inl 39] m) : ok 0 26 0 [some (.inl 39), some (.inl 57), some (.inr (.inr (some 4000)))] [] m Q := by
  refine ok_sg (pc' := 17) (ls' := [some (.inl 39), some (.inl 57), some (.inr (.inr (some 4000)))]) (st' := [.inl 39]) (m' := m) (fun fx hfx o hk => ?_) ?_
  · refine r_ld (pc' := 1) hM_26 d_26_0 rfl rfl ?_
    refine r_if (pc' := 9) (pc2 := 4) hM_26 d_26_1 (by decide) rfl (fun hc => absurd hc (show ¬ (am_s 39 < 0) by decide)) (fun _ => ?_)
    refine r_ld (pc' := 5) hM_26 d_26_4 rfl rfl ?_
    refine r_ld (pc' := 6) hM_26 d_26_5 rfl rfl ?_
    refine r_ic (pc' := 16) (pc2 := 9) hM_26 d_26_6 (by decide) rfl (fun _ => ?_) (fun hc => absurd (show am_s 39 < am_s 57 by decide) hc)
    refine r_ld (pc' := 17) hM_26 d_26_16 rfl rfl ?_
    exact hk
  exact ok_rt (fun fx _ => rt_i hM_26 d_26_17 rfl) H
theorem sx_39_57 {m : am_M} : ok 0 26 0 (am_ent 3 [.inl 39, .inl 57, .inr (.inr (some 4000))]) [] m (fun rr m' => rr = [.inl 39] ∧ m' = m) := usx_39_57 ⟨rfl, rfl⟩
theorem usx_40_57 {Q : List am_V → am_M → Prop} {m : am_M}   (H : Q [.inl 40] m) : ok 0 26 0 [some (.inl 40), some (.inl 57), some (.inr (.inr (some 4000)))] [] m Q := by
  refine ok_sg (pc' := 17) (ls' := [some (.inl 40), some (.inl 57), some (.inr (.inr (some 4000)))]) (st' := [.inl 40]) (m' := m) (fun fx hfx o hk => ?_) ?_
  · refine r_ld (pc' := 1) hM_26 d_26_0 rfl rfl ?_
    refine r_if (pc' := 9) (pc2 := 4) hM_26 d_26_1 (by decide) rfl (fun hc => absurd hc (show ¬ (am_s 40 < 0) by decide)) (fun _ => ?_)
    refine r_ld (pc' := 5) hM_26 d_26_4 rfl rfl ?_
    refine r_ld (pc' := 6) hM_26 d_26_5 rfl rfl ?_
    refine r_ic (pc' := 16) (pc2 := 9) hM_26 d_26_6 (by decide) rfl (fun _ => ?_) (fun hc => absurd (show am_s 40 < am_s 57 by decide) hc)
    refine r_ld (pc' := 17) hM_26 d_26_16 rfl rfl ?_
    exact hk
  exact ok_rt (fun fx _ => rt_i hM_26 d_26_17 rfl) H
theorem sx_40_57 {m : am_M} : ok 0 26 0 (am_ent 3 [.inl 40, .inl 57, .inr (.inr (some 4000))]) [] m (fun rr m' => rr = [.inl 40] ∧ m' = m) := usx_40_57 ⟨rfl, rfl⟩
theorem usx_41_57 {Q : List am_V → am_M → Prop} {m : am_M}   (H : Q [.inl 41] m) : ok 0 26 0 [some (.inl 41), some (.inl 57), some (.inr (.inr (some 4000)))] [] m Q := by
  refine ok_sg (pc' := 17) (ls' := [some (.inl 41), some (.inl 57), some (.inr (.inr (some 4000)))]) (st' := [.inl 41]) (m' := m) (fun fx hfx o hk => ?_) ?_
  · refine r_ld (pc' := 1) hM_26 d_26_0 rfl rfl ?_
    refine r_if (pc' := 9) (pc2 := 4) hM_26 d_26_1 (by decide) rfl (fun hc => absurd hc (show ¬ (am_s 41 < 0) by decide)) (fun _ => ?_)
    refine r_ld (pc' := 5) hM_26 d_26_4 rfl rfl ?_
    refine r_ld (pc' := 6) hM_26 d_26_5 rfl rfl ?_
    refine r_ic (pc' := 16) (pc2 := 9) hM_26 d_26_6 (by decide) rfl (fun _ => ?_) (fun hc => absurd (show am_s 41 < am_s 57 by decide) hc)
    refine r_ld (pc' := 17) hM_26 d_26_16 rfl rfl ?_
    exact hk
  exact ok_rt (fun fx _ => rt_i hM_26 d_26_17 rfl) H
theorem sx_41_57 {m : am_M} : ok 0 26 0 (am_ent 3 [.inl 41, .inl 57, .inr (.inr (some 4000))]) [] m (fun rr m' => rr = [.inl 41] ∧ m' = m) := usx_41_57 ⟨rfl, rfl⟩
theorem usx_42_57 {Q : List am_V → am_M → Prop} {m : am_M}   (H : Q [.inl 42] m) : ok 0 26 0 [some (.inl 42), some (.inl 57), some (.inr (.inr (some 4000)))] [] m Q := by
  refine ok_sg (pc' := 17) (ls' := [some (.inl 42), some (.inl 57), some (.inr (.inr (some 4000)))]) (st' := [.inl 42]) (m' := m) (fun fx hfx o hk => ?_) ?_
  · refine r_ld (pc' := 1) hM_26 d_26_0 rfl rfl ?_
    refine r_if (pc' := 9) (pc2 := 4) hM_26 d_26_1 (by decide) rfl (fun hc => absurd hc (show ¬ (am_s 42 < 0) by decide)) (fun _ => ?_)
    refine r_ld (pc' := 5) hM_26 d_26_4 rfl rfl ?_
    refine r_ld (pc' := 6) hM_26 d_26_5 rfl rfl ?_
    refine r_ic (pc' := 16) (pc2 := 9) hM_26 d_26_6 (by decide) rfl (fun _ => ?_) (fun hc => absurd (show am_s 42 < am_s 57 by decide) hc)
    refine r_ld (pc' := 17) hM_26 d_26_16 rfl rfl ?_
    exact hk
  exact ok_rt (fun fx _ => rt_i hM_26 d_26_17 rfl) H
theorem sx_42_57 {m : am_M} : ok 0 26 0 (am_ent 3 [.inl 42, .inl 57, .inr (.inr (some 4000))]) [] m (fun rr m' => rr = [.inl 42] ∧ m' = m) := usx_42_57 ⟨rfl, rfl⟩
theorem usx_43_57 {Q : List am_V → am_M → Prop} {m : am_M}   (H : Q [.inl 43] m) : ok 0 26 0 [some (.inl 43), some (.inl 57), some (.inr (.inr (some 4000)))] [] m Q := by
  refine ok_sg (pc' := 17) (ls' := [some (.inl 43), some (.inl 57), some (.inr (.inr (some 4000)))]) (st' := [.inl 43]) (m' := m) (fun fx hfx o hk => ?_) ?_
  · refine r_ld (pc' := 1) hM_26 d_26_0 rfl rfl ?_
    refine r_if (pc' := 9) (pc2 := 4) hM_26 d_26_1 (by decide) rfl (fun hc => absurd hc (show ¬ (am_s 43 < 0) by decide)) (fun _ => ?_)
    refine r_ld (pc' := 5) hM_26 d_26_4 rfl rfl ?_
    refine r_ld (pc' := 6) hM_26 d_26_5 rfl rfl ?_
    refine r_ic (pc' := 16) (pc2 := 9) hM_26 d_26_6 (by decide) rfl (fun _ => ?_) (fun hc => absurd (show am_s 43 < am_s 57 by decide) hc)
    refine r_ld (pc' := 17) hM_26 d_26_16 rfl rfl ?_
    exact hk
  exact ok_rt (fun fx _ => rt_i hM_26 d_26_17 rfl) H
theorem sx_43_57 {m : am_M} : ok 0 26 0 (am_ent 3 [.inl 43, .inl 57, .inr (.inr (some 4000))]) [] m (fun rr m' => rr = [.inl 43] ∧ m' = m) := usx_43_57 ⟨rfl, rfl⟩
theorem usx_44_57 {Q : List am_V → am_M → Prop} {m : am_M}   (H : Q [.inl 44] m) : ok 0 26 0 [some (.inl 44), some (.inl 57), some (.inr (.inr (some 4000)))] [] m Q := by
  refine ok_sg (pc' := 17) (ls' := [some (.inl 44), some (.inl 57), some (.inr (.inr (some 4000)))]) (st' := [.inl 44]) (m' := m) (fun fx hfx o hk => ?_) ?_
  · refine r_ld (pc' := 1) hM_26 d_26_0 rfl rfl ?_
    refine r_if (pc' := 9) (pc2 := 4) hM_26 d_26_1 (by decide) rfl (fun hc => absurd hc (show ¬ (am_s 44 < 0) by decide)) (fun _ => ?_)
    refine r_ld (pc' := 5) hM_26 d_26_4 rfl rfl ?_
    refine r_ld (pc' := 6) hM_26 d_26_5 rfl rfl ?_
    refine r_ic (pc' := 16) (pc2 := 9) hM_26 d_26_6 (by decide) rfl (fun _ => ?_) (fun hc => absurd (show am_s 44 < am_s 57 by decide) hc)
    refine r_ld (pc' := 17) hM_26 d_26_16 rfl rfl ?_
    exact hk
  exact ok_rt (fun fx _ => rt_i hM_26 d_26_17 rfl) H
theorem sx_44_57 {m : am_M} : ok 0 26 0 (am_ent 3 [.inl 44, .inl 57, .inr (.inr (some 4000))]) [] m (fun rr m' => rr = [.inl 44] ∧ m' = m) := usx_44_57 ⟨rfl, rfl⟩
theorem usx_45_57 {Q : List am_V → am_M → Prop} {m : am_M}   (H : Q [.inl 45] m) : ok 0 26 0 [some (.inl 45), some (.inl 57), some (.inr (.inr (some 4000)))] [] m Q := by
  refine ok_sg (pc' := 17) (ls' := [some (.inl 45), some (.inl 57), some (.inr (.inr (some 4000)))]) (st' := [.inl 45]) (m' := m) (fun fx hfx o hk => ?_) ?_
  · refine r_ld (pc' := 1) hM_26 d_26_0 rfl rfl ?_
    refine r_if (pc' := 9) (pc2 := 4) hM_26 d_26_1 (by decide) rfl (fun hc => absurd hc (show ¬ (am_s 45 < 0) by decide)) (fun _ => ?_)
    refine r_ld (pc' := 5) hM_26 d_26_4 rfl rfl ?_
    refine r_ld (pc' := 6) hM_26 d_26_5 rfl rfl ?_
    refine r_ic (pc' := 16) (pc2 := 9) hM_26 d_26_6 (by decide) rfl (fun _ => ?_) (fun hc => absurd (show am_s 45 < am_s 57 by decide) hc)
    refine r_ld (pc' := 17) hM_26 d_26_16 rfl rfl ?_
    exact hk
  exact ok_rt (fun fx _ => rt_i hM_26 d_26_17 rfl) H
theorem sx_45_57 {m : am_M} : ok 0 26 0 (am_ent 3 [.inl 45, .inl 57, .inr (.inr (some 4000))]) [] m (fun rr m' => rr = [.inl 45] ∧ m' = m) := usx_45_57 ⟨rfl, rfl⟩
theorem usx_46_57 {Q : List am_V → am_M → Prop} {m : am_M}   (H : Q [.inl 46] m) : ok 0 26 0 [some (.inl 46), some (.inl 57), some (.inr (.inr (some 4000)))] [] m Q := by
  refine ok_sg (pc' := 17) (ls' := [some (.inl 46), some (.inl 57), some (.inr (.inr (some 4000)))]) (st' := [.inl 46]) (m' := m) (fun fx hfx o hk => ?_) ?_
  · refine r_ld (pc' := 1) hM_26 d_26_0 rfl rfl ?_
    refine r_if (pc' := 9) (pc2 := 4) hM_26 d_26_1 (by decide) rfl (fun hc => absurd hc (show ¬ (am_s 46 < 0) by decide)) (fun _ => ?_)
    refine r_ld (pc' := 5) hM_26 d_26_4 rfl rfl ?_
    refine r_ld (pc' := 6) hM_26 d_26_5 rfl rfl ?_
    refine r_ic (pc' := 16) (pc2 := 9) hM_26 d_26_6 (by decide) rfl (fun _ => ?_) (fun hc => absurd (show am_s 46 < am_s 57 by decide) hc)
    refine r_ld (pc' := 17) hM_26 d_26_16 rfl rfl ?_
    exact hk
  exact ok_rt (fun fx _ => rt_i hM_26 d_26_17 rfl) H
theorem sx_46_57 {m : am_M} : ok 0 26 0 (am_ent 3 [.inl 46, .inl 57, .inr (.inr (some 4000))]) [] m (fun rr m' => rr = [.inl 46] ∧ m' = m) := usx_46_57 ⟨rfl, rfl⟩
theorem usx_47_57 {Q : List am_V → am_M → Prop} {m : am_M}   (H : Q [.inl 47] m) : ok 0 26 0 [some (.inl 47), some (.inl 57), some (.inr (.inr (some 4000)))] [] m Q := by
  refine ok_sg (pc' := 17) (ls' := [some (.inl 47), some (.inl 57), some (.inr (.inr (some 4000)))]) (st' := [.inl 47]) (m' := m) (fun fx hfx o hk => ?_) ?_
  · refine r_ld (pc' := 1) hM_26 d_26_0 rfl rfl ?_
    refine r_if (pc' := 9) (pc2 := 4) hM_26 d_26_1 (by decide) rfl (fun hc => absurd hc (show ¬ (am_s 47 < 0) by decide)) (fun _ => ?_)
    refine r_ld (pc' := 5) hM_26 d_26_4 rfl rfl ?_
    refine r_ld (pc' := 6) hM_26 d_26_5 rfl rfl ?_
    refine r_ic (pc' := 16) (pc2 := 9) hM_26 d_26_6 (by decide) rfl (fun _ => ?_) (fun hc => absurd (show am_s 47 < am_s 57 by decide) hc)
    refine r_ld (pc' := 17) hM_26 d_26_16 rfl rfl ?_
    exact hk
  exact ok_rt (fun fx _ => rt_i hM_26 d_26_17 rfl) H
theorem sx_47_57 {m : am_M} : ok 0 26 0 (am_ent 3 [.inl 47, .inl 57, .inr (.inr (some 4000))]) [] m (fun rr m' => rr = [.inl 47] ∧ m' = m) := usx_47_57 ⟨rfl, rfl⟩
theorem usx_48_57 {Q : List am_V → am_M → Prop} {m : am_M}   (H : Q [.inl 48] m) : ok 0 26 0 [some (.inl 48), some (.inl 57), some (.inr (.inr (some 4000)))] [] m Q := by
  refine ok_sg (pc' := 17) (ls' := [some (.inl 48), some (.inl 57), some (.inr (.inr (some 4000)))]) (st' := [.inl 48]) (m' := m) (fun fx hfx o hk => ?_) ?_
  · refine r_ld (pc' := 1) hM_26 d_26_0 rfl rfl ?_
    refine r_if (pc' := 9) (pc2 := 4) hM_26 d_26_1 (by decide) rfl (fun hc => absurd hc (show ¬ (am_s 48 < 0) by decide)) (fun _ => ?_)
    refine r_ld (pc' := 5) hM_26 d_26_4 rfl rfl ?_
    refine r_ld (pc' := 6) hM_26 d_26_5 rfl rfl ?_
    refine r_ic (pc' := 16) (pc2 := 9) hM_26 d_26_6 (by decide) rfl (fun _ => ?_) (fun hc => absurd (show am_s 48 < am_s 57 by decide) hc)
    refine r_ld (pc' := 17) hM_26 d_26_16 rfl rfl ?_
    exact hk
  exact ok_rt (fun fx _ => rt_i hM_26 d_26_17 rfl) H
theorem sx_48_57 {m : am_M} : ok 0 26 0 (am_ent 3 [.inl 48, .inl 57, .inr (.inr (some 4000))]) [] m (fun rr m' => rr = [.inl 48] ∧ m' = m) := usx_48_57 ⟨rfl, rfl⟩
theorem usx_49_57 {Q : List am_V → am_M → Prop} {m : am_M}   (H : Q [.inl 49] m) : ok 0 26 0 [some (.inl 49), some (.inl 57), some (.inr (.inr (some 4000)))] [] m Q := by
  refine ok_sg (pc' := 17) (ls' := [some (.inl 49), some (.inl 57), some (.inr (.inr (some 4000)))]) (st' := [.inl 49]) (m' := m) (fun fx hfx o hk => ?_) ?_
  · refine r_ld (pc' := 1) hM_26 d_26_0 rfl rfl ?_
    refine r_if (pc' := 9) (pc2 := 4) hM_26 d_26_1 (by decide) rfl (fun hc => absurd hc (show ¬ (am_s 49 < 0) by decide)) (fun _ => ?_)
    refine r_ld (pc' := 5) hM_26 d_26_4 rfl rfl ?_
    refine r_ld (pc' := 6) hM_26 d_26_5 rfl rfl ?_
    refine r_ic (pc' := 16) (pc2 := 9) hM_26 d_26_6 (by decide) rfl (fun _ => ?_) (fun hc => absurd (show am_s 49 < am_s 57 by decide) hc)
    refine r_ld (pc' := 17) hM_26 d_26_16 rfl rfl ?_
    exact hk
  exact ok_rt (fun fx _ => rt_i hM_26 d_26_17 rfl) H
theorem sx_49_57 {m : am_M} : ok 0 26 0 (am_ent 3 [.inl 49, .inl 57, .inr (.inr (some 4000))]) [] m (fun rr m' => rr = [.inl 49] ∧ m' = m) := usx_49_57 ⟨rfl, rfl⟩
theorem usx_50_57 {Q : List am_V → am_M → Prop} {m : am_M}   (H : Q [.inl 50] m) : ok 0 26 0 [some (.inl 50), some (.inl 57), some (.inr (.inr (some 4000)))] [] m Q := by
  refine ok_sg (pc' := 17) (ls' := [some (.inl 50), some (.inl 57), some (.inr (.inr (some 4000)))]) (st' := [.inl 50]) (m' := m) (fun fx hfx o hk => ?_) ?_
  · refine r_ld (pc' := 1) hM_26 d_26_0 rfl rfl ?_
    refine r_if (pc' := 9) (pc2 := 4) hM_26 d_26_1 (by decide) rfl (fun hc => absurd hc (show ¬ (am_s 50 < 0) by decide)) (fun _ => ?_)
    refine r_ld (pc' := 5) hM_26 d_26_4 rfl rfl ?_
    refine r_ld (pc' := 6) hM_26 d_26_5 rfl rfl ?_
    refine r_ic (pc' := 16) (pc2 := 9) hM_26 d_26_6 (by decide) rfl (fun _ => ?_) (fun hc => absurd (show am_s 50 < am_s 57 by decide) hc)
    refine r_ld (pc' := 17) hM_26 d_26_16 rfl rfl ?_
    exact hk
  exact ok_rt (fun fx _ => rt_i hM_26 d_26_17 rfl) H
theorem sx_50_57 {m : am_M} : ok 0 26 0 (am_ent 3 [.inl 50, .inl 57, .inr (.inr (some 4000))]) [] m (fun rr m' => rr = [.inl 50] ∧ m' = m) := usx_50_57 ⟨rfl, rfl⟩
theorem usx_51_57 {Q : List am_V → am_M → Prop} {m : am_M}   (H : Q [.inl 51] m) : ok 0 26 0 [some (.inl 51), some (.inl 57), some (.inr (.inr (some 4000)))] [] m Q := by
  refine ok_sg (pc' := 17) (ls' := [some (.inl 51), some (.inl 57), some (.inr (.inr (some 4000)))]) (st' := [.inl 51]) (m' := m) (fun fx hfx o hk => ?_) ?_
  · refine r_ld (pc' := 1) hM_26 d_26_0 rfl rfl ?_
    refine r_if (pc' := 9) (pc2 := 4) hM_26 d_26_1 (by decide) rfl (fun hc => absurd hc (show ¬ (am_s 51 < 0) by decide)) (fun _ => ?_)
    refine r_ld (pc' := 5) hM_26 d_26_4 rfl rfl ?_
    refine r_ld (pc' := 6) hM_26 d_26_5 rfl rfl ?_
    refine r_ic (pc' := 16) (pc2 := 9) hM_26 d_26_6 (by decide) rfl (fun _ => ?_) (fun hc => absurd (show am_s 51 < am_s 57 by decide) hc)
    refine r_ld (pc' := 17) hM_26 d_26_16 rfl rfl ?_
    exact hk
  exact ok_rt (fun fx _ => rt_i hM_26 d_26_17 rfl) H
theorem sx_51_57 {m : am_M} : ok 0 26 0 (am_ent 3 [.inl 51, .inl 57, .inr (.inr (some 4000))]) [] m (fun rr m' => rr = [.inl 51] ∧ m' = m) := usx_51_57 ⟨rfl, rfl⟩
theorem usx_52_57 {Q : List am_V → am_M → Prop} {m : am_M}   (H : Q [.inl 52] m) : ok 0 26 0 [some (.inl 52), some (.inl 57), some (.inr (.inr (some 4000)))] [] m Q := by
  refine ok_sg (pc' := 17) (ls' := [some (.inl 52), some (.inl 57), some (.inr (.inr (some 4000)))]) (st' := [.inl 52]) (m' := m) (fun fx hfx o hk => ?_) ?_
  · refine r_ld (pc' := 1) hM_26 d_26_0 rfl rfl ?_
    refine r_if (pc' := 9) (pc2 := 4) hM_26 d_26_1 (by decide) rfl (fun hc => absurd hc (show ¬ (am_s 52 < 0) by decide)) (fun _ => ?_)
    refine r_ld (pc' := 5) hM_26 d_26_4 rfl rfl ?_
    refine r_ld (pc' := 6) hM_26 d_26_5 rfl rfl ?_
    refine r_ic (pc' := 16) (pc2 := 9) hM_26 d_26_6 (by decide) rfl (fun _ => ?_) (fun hc => absurd (show am_s 52 < am_s 57 by decide) hc)
    refine r_ld (pc' := 17) hM_26 d_26_16 rfl rfl ?_
    exact hk
  exact ok_rt (fun fx _ => rt_i hM_26 d_26_17 rfl) H
theorem sx_52_57 {m : am_M} : ok 0 26 0 (am_ent 3 [.inl 52, .inl 57, .inr (.inr (some 4000))]) [] m (fun rr m' => rr = [.inl 52] ∧ m' = m) := usx_52_57 ⟨rfl, rfl⟩
theorem usx_53_57 {Q : List am_V → am_M → Prop} {m : am_M}   (H : Q [.inl 53] m) : ok 0 26 0 [some (.inl 53), some (.inl 57), some (.inr (.inr (some 4000)))] [] m Q := by
  refine ok_sg (pc' := 17) (ls' := [some (.inl 53), some (.inl 57), some (.inr (.inr (some 4000)))]) (st' := [.inl 53]) (m' := m) (fun fx hfx o hk => ?_) ?_
  · refine r_ld (pc' := 1) hM_26 d_26_0 rfl rfl ?_
    refine r_if (pc' := 9) (pc2 := 4) hM_26 d_26_1 (by decide) rfl (fun hc => absurd hc (show ¬ (am_s 53 < 0) by decide)) (fun _ => ?_)
    refine r_ld (pc' := 5) hM_26 d_26_4 rfl rfl ?_
    refine r_ld (pc' := 6) hM_26 d_26_5 rfl rfl ?_
    refine r_ic (pc' := 16) (pc2 := 9) hM_26 d_26_6 (by decide) rfl (fun _ => ?_) (fun hc => absurd (show am_s 53 < am_s 57 by decide) hc)
    refine r_ld (pc' := 17) hM_26 d_26_16 rfl rfl ?_
    exact hk
  exact ok_rt (fun fx _ => rt_i hM_26 d_26_17 rfl) H
theorem sx_53_57 {m : am_M} : ok 0 26 0 (am_ent 3 [.inl 53, .inl 57, .inr (.inr (some 4000))]) [] m (fun rr m' => rr = [.inl 53] ∧ m' = m) := usx_53_57 ⟨rfl, rfl⟩
theorem usx_54_57 {Q : List am_V → am_M → Prop} {m : am_M}   (H : Q [.inl 54] m) : ok 0 26 0 [some (.inl 54), some (.inl 57), some (.inr (.inr (some 4000)))] [] m Q := by
  refine ok_sg (pc' := 17) (ls' := [some (.inl 54), some (.inl 57), some (.inr (.inr (some 4000)))]) (st' := [.inl 54]) (m' := m) (fun fx hfx o hk => ?_) ?_
  · refine r_ld (pc' := 1) hM_26 d_26_0 rfl rfl ?_
    refine r_if (pc' := 9) (pc2 := 4) hM_26 d_26_1 (by decide) rfl (fun hc => absurd hc (show ¬ (am_s 54 < 0) by decide)) (fun _ => ?_)
    refine r_ld (pc' := 5) hM_26 d_26_4 rfl rfl ?_
    refine r_ld (pc' := 6) hM_26 d_26_5 rfl rfl ?_
    refine r_ic (pc' := 16) (pc2 := 9) hM_26 d_26_6 (by decide) rfl (fun _ => ?_) (fun hc => absurd (show am_s 54 < am_s 57 by decide) hc)
    refine r_ld (pc' := 17) hM_26 d_26_16 rfl rfl ?_
    exact hk
  exact ok_rt (fun fx _ => rt_i hM_26 d_26_17 rfl) H
theorem sx_54_57 {m : am_M} : ok 0 26 0 (am_ent 3 [.inl 54, .inl 57, .inr (.inr (some 4000))]) [] m (fun rr m' => rr = [.inl 54] ∧ m' = m) := usx_54_57 ⟨rfl, rfl⟩
theorem usx_55_57 {Q : List am_V → am_M → Prop} {m : am_M}   (H : Q [.inl 55] m) : ok 0 26 0 [some (.inl 55), some (.inl 57), some (.inr (.inr (some 4000)))] [] m Q := by
  refine ok_sg (pc' := 17) (ls' := [some (.inl 55), some (.inl 57), some (.inr (.inr (some 4000)))]) (st' := [.inl 55]) (m' := m) (fun fx hfx o hk => ?_) ?_
  · refine r_ld (pc' := 1) hM_26 d_26_0 rfl rfl ?_
    refine r_if (pc' := 9) (pc2 := 4) hM_26 d_26_1 (by decide) rfl (fun hc => absurd hc (show ¬ (am_s 55 < 0) by decide)) (fun _ => ?_)
    refine r_ld (pc' := 5) hM_26 d_26_4 rfl rfl ?_
    refine r_ld (pc' := 6) hM_26 d_26_5 rfl rfl ?_
    refine r_ic (pc' := 16) (pc2 := 9) hM_26 d_26_6 (by decide) rfl (fun _ => ?_) (fun hc => absurd (show am_s 55 < am_s 57 by decide) hc)
    refine r_ld (pc' := 17) hM_26 d_26_16 rfl rfl ?_
    exact hk
  exact ok_rt (fun fx _ => rt_i hM_26 d_26_17 rfl) H
theorem sx_55_57 {m : am_M} : ok 0 26 0 (am_ent 3 [.inl 55, .inl 57, .inr (.inr (some 4000))]) [] m (fun rr m' => rr = [.inl 55] ∧ m' = m) := usx_55_57 ⟨rfl, rfl⟩
theorem usx_56_57 {Q : List am_V → am_M → Prop} {m : am_M}   (H : Q [.inl 56] m) : ok 0 26 0 [some (.inl 56), some (.inl 57), some (.inr (.inr (some 4000)))] [] m Q := by
  refine ok_sg (pc' := 17) (ls' := [some (.inl 56), some (.inl 57), some (.inr (.inr (some 4000)))]) (st' := [.inl 56]) (m' := m) (fun fx hfx o hk => ?_) ?_
  · refine r_ld (pc' := 1) hM_26 d_26_0 rfl rfl ?_
    refine r_if (pc' := 9) (pc2 := 4) hM_26 d_26_1 (by decide) rfl (fun hc => absurd hc (show ¬ (am_s 56 < 0) by decide)) (fun _ => ?_)
    refine r_ld (pc' := 5) hM_26 d_26_4 rfl rfl ?_
    refine r_ld (pc' := 6) hM_26 d_26_5 rfl rfl ?_
    refine r_ic (pc' := 16) (pc2 := 9) hM_26 d_26_6 (by decide) rfl (fun _ => ?_) (fun hc => absurd (show am_s 56 < am_s 57 by decide) hc)
    refine r_ld (pc' := 17) hM_26 d_26_16 rfl rfl ?_
    exact hk
  exact ok_rt (fun fx _ => rt_i hM_26 d_26_17 rfl) H
theorem sx_56_57 {m : am_M} : ok 0 26 0 (am_ent 3 [.inl 56, .inl 57, .inr (.inr (some 4000))]) [] m (fun rr m' => rr = [.inl 56] ∧ m' = m) := usx_56_57 ⟨rfl, rfl⟩
theorem usy_0_3 {Q : List am_V → am_M → Prop} {m : am_M}   (H : Q [] m) : ok 1 25 0 [some (.inl 0), some (.inl 3)] [] m Q := by
  refine ok_sg (pc' := 9) (ls' := [some (.inl 0), some (.inl 3)]) (st' := []) (m' := m) (fun fx hfx o hk => ?_) ?_
  · refine r_ld (pc' := 1) hM_25 d_25_0 rfl rfl ?_
    refine r_ld (pc' := 2) hM_25 d_25_1 rfl rfl ?_
    refine r_k (pc' := 5) (v := .inr (.inr (some 4000))) hM_25 d_25_2 rfl (by decide +kernel) ?_
    refine r_cl (pc' := 8) (c := (26, 2)) (a := [.inl 0, .inl 3, .inr (.inr (some 4000))]) (q := []) hM_25 d_25_5 rfl (by decide +kernel) hM_26 rfl rfl rfl (Nat.le_of_ble_eq_true rfl) (Nat.le_of_ble_eq_true rfl) (Or.inl rfl) (ok_rnk (sx_0_3 (m := m)) hfx) (Nat.le_of_ble_eq_true rfl) ?_
    show rn fx 1 (0, 0) 25 8 [some (.inl 0), some (.inl 3)] [.inl 0] (st0 m) o
    refine r_stk (pc' := 9) (st' := []) hM_25 d_25_8 rfl rfl ?_
    exact hk
  exact ok_rt (fun fx _ => rt_v hM_25 d_25_9 rfl) H
theorem sy_0_3 {m : am_M} : ok 1 25 0 (am_ent 2 [.inl 0, .inl 3]) [] m (fun rr m' => rr = [] ∧ m' = m) := usy_0_3 ⟨rfl, rfl⟩
theorem usy_0_4 {Q : List am_V → am_M → Prop} {m : am_M}   (H : Q [] m) : ok 1 25 0 [some (.inl 0), some (.inl 4)] [] m Q := by
  refine ok_sg (pc' := 9) (ls' := [some (.inl 0), some (.inl 4)]) (st' := []) (m' := m) (fun fx hfx o hk => ?_) ?_
  · refine r_ld (pc' := 1) hM_25 d_25_0 rfl rfl ?_
    refine r_ld (pc' := 2) hM_25 d_25_1 rfl rfl ?_
    refine r_k (pc' := 5) (v := .inr (.inr (some 4000))) hM_25 d_25_2 rfl (by decide +kernel) ?_
    refine r_cl (pc' := 8) (c := (26, 2)) (a := [.inl 0, .inl 4, .inr (.inr (some 4000))]) (q := []) hM_25 d_25_5 rfl (by decide +kernel) hM_26 rfl rfl rfl (Nat.le_of_ble_eq_true rfl) (Nat.le_of_ble_eq_true rfl) (Or.inl rfl) (ok_rnk (sx_0_4 (m := m)) hfx) (Nat.le_of_ble_eq_true rfl) ?_
    show rn fx 1 (0, 0) 25 8 [some (.inl 0), some (.inl 4)] [.inl 0] (st0 m) o
    refine r_stk (pc' := 9) (st' := []) hM_25 d_25_8 rfl rfl ?_
    exact hk
  exact ok_rt (fun fx _ => rt_v hM_25 d_25_9 rfl) H
theorem sy_0_4 {m : am_M} : ok 1 25 0 (am_ent 2 [.inl 0, .inl 4]) [] m (fun rr m' => rr = [] ∧ m' = m) := usy_0_4 ⟨rfl, rfl⟩
theorem usy_0_5 {Q : List am_V → am_M → Prop} {m : am_M}   (H : Q [] m) : ok 1 25 0 [some (.inl 0), some (.inl 5)] [] m Q := by
  refine ok_sg (pc' := 9) (ls' := [some (.inl 0), some (.inl 5)]) (st' := []) (m' := m) (fun fx hfx o hk => ?_) ?_
  · refine r_ld (pc' := 1) hM_25 d_25_0 rfl rfl ?_
    refine r_ld (pc' := 2) hM_25 d_25_1 rfl rfl ?_
    refine r_k (pc' := 5) (v := .inr (.inr (some 4000))) hM_25 d_25_2 rfl (by decide +kernel) ?_
    refine r_cl (pc' := 8) (c := (26, 2)) (a := [.inl 0, .inl 5, .inr (.inr (some 4000))]) (q := []) hM_25 d_25_5 rfl (by decide +kernel) hM_26 rfl rfl rfl (Nat.le_of_ble_eq_true rfl) (Nat.le_of_ble_eq_true rfl) (Or.inl rfl) (ok_rnk (sx_0_5 (m := m)) hfx) (Nat.le_of_ble_eq_true rfl) ?_
    show rn fx 1 (0, 0) 25 8 [some (.inl 0), some (.inl 5)] [.inl 0] (st0 m) o
    refine r_stk (pc' := 9) (st' := []) hM_25 d_25_8 rfl rfl ?_
    exact hk
  exact ok_rt (fun fx _ => rt_v hM_25 d_25_9 rfl) H
theorem sy_0_5 {m : am_M} : ok 1 25 0 (am_ent 2 [.inl 0, .inl 5]) [] m (fun rr m' => rr = [] ∧ m' = m) := usy_0_5 ⟨rfl, rfl⟩
theorem usy_0_6 {Q : List am_V → am_M → Prop} {m : am_M}   (H : Q [] m) : ok 1 25 0 [some (.inl 0), some (.inl 6)] [] m Q := by
  refine ok_sg (pc' := 9) (ls' := [some (.inl 0), some (.inl 6)]) (st' := []) (m' := m) (fun fx hfx o hk => ?_) ?_
  · refine r_ld (pc' := 1) hM_25 d_25_0 rfl rfl ?_
    refine r_ld (pc' := 2) hM_25 d_25_1 rfl rfl ?_
    refine r_k (pc' := 5) (v := .inr (.inr (some 4000))) hM_25 d_25_2 rfl (by decide +kernel) ?_
    refine r_cl (pc' := 8) (c := (26, 2)) (a := [.inl 0, .inl 6, .inr (.inr (some 4000))]) (q := []) hM_25 d_25_5 rfl (by decide +kernel) hM_26 rfl rfl rfl (Nat.le_of_ble_eq_true rfl) (Nat.le_of_ble_eq_true rfl) (Or.inl rfl) (ok_rnk (sx_0_6 (m := m)) hfx) (Nat.le_of_ble_eq_true rfl) ?_
    show rn fx 1 (0, 0) 25 8 [some (.inl 0), some (.inl 6)] [.inl 0] (st0 m) o
    refine r_stk (pc' := 9) (st' := []) hM_25 d_25_8 rfl rfl ?_
    exact hk
  exact ok_rt (fun fx _ => rt_v hM_25 d_25_9 rfl) H
theorem sy_0_6 {m : am_M} : ok 1 25 0 (am_ent 2 [.inl 0, .inl 6]) [] m (fun rr m' => rr = [] ∧ m' = m) := usy_0_6 ⟨rfl, rfl⟩
theorem usy_0_57 {Q : List am_V → am_M → Prop} {m : am_M}   (H : Q [] m) : ok 1 25 0 [some (.inl 0), some (.inl 57)] [] m Q := by
  refine ok_sg (pc' := 9) (ls' := [some (.inl 0), some (.inl 57)]) (st' := []) (m' := m) (fun fx hfx o hk => ?_) ?_
  · refine r_ld (pc' := 1) hM_25 d_25_0 rfl rfl ?_
    refine r_ld (pc' := 2) hM_25 d_25_1 rfl rfl ?_
    refine r_k (pc' := 5) (v := .inr (.inr (some 4000))) hM_25 d_25_2 rfl (by decide +kernel) ?_
    refine r_cl (pc' := 8) (c := (26, 2)) (a := [.inl 0, .inl 57, .inr (.inr (some 4000))]) (q := []) hM_25 d_25_5 rfl (by decide +kernel) hM_26 rfl rfl rfl (Nat.le_of_ble_eq_true rfl) (Nat.le_of_ble_eq_true rfl) (Or.inl rfl) (ok_rnk (sx_0_57 (m := m)) hfx) (Nat.le_of_ble_eq_true rfl) ?_
    show rn fx 1 (0, 0) 25 8 [some (.inl 0), some (.inl 57)] [.inl 0] (st0 m) o
    refine r_stk (pc' := 9) (st' := []) hM_25 d_25_8 rfl rfl ?_
    exact hk
  exact ok_rt (fun fx _ => rt_v hM_25 d_25_9 rfl) H
theorem sy_0_57 {m : am_M} : ok 1 25 0 (am_ent 2 [.inl 0, .inl 57]) [] m (fun rr m' => rr = [] ∧ m' = m) := usy_0_57 ⟨rfl, rfl⟩
theorem usy_1_3 {Q : List am_V → am_M → Prop} {m : am_M}   (H : Q [] m) : ok 1 25 0 [some (.inl 1), some (.inl 3)] [] m Q := by
  refine ok_sg (pc' := 9) (ls' := [some (.inl 1), some (.inl 3)]) (st' := []) (m' := m) (fun fx hfx o hk => ?_) ?_
  · refine r_ld (pc' := 1) hM_25 d_25_0 rfl rfl ?_
    refine r_ld (pc' := 2) hM_25 d_25_1 rfl rfl ?_
    refine r_k (pc' := 5) (v := .inr (.inr (some 4000))) hM_25 d_25_2 rfl (by decide +kernel) ?_
    refine r_cl (pc' := 8) (c := (26, 2)) (a := [.inl 1, .inl 3, .inr (.inr (some 4000))]) (q := []) hM_25 d_25_5 rfl (by decide +kernel) hM_26 rfl rfl rfl (Nat.le_of_ble_eq_true rfl) (Nat.le_of_ble_eq_true rfl) (Or.inl rfl) (ok_rnk (sx_1_3 (m := m)) hfx) (Nat.le_of_ble_eq_true rfl) ?_
    show rn fx 1 (0, 0) 25 8 [some (.inl 1), some (.inl 3)] [.inl 1] (st0 m) o
    refine r_stk (pc' := 9) (st' := []) hM_25 d_25_8 rfl rfl ?_
    exact hk
  exact ok_rt (fun fx _ => rt_v hM_25 d_25_9 rfl) H
theorem sy_1_3 {m : am_M} : ok 1 25 0 (am_ent 2 [.inl 1, .inl 3]) [] m (fun rr m' => rr = [] ∧ m' = m) := usy_1_3 ⟨rfl, rfl⟩
theorem usy_1_4 {Q : List am_V → am_M → Prop} {m : am_M}   (H : Q [] m) : ok 1 25 0 [some (.inl 1), some (.inl 4)] [] m Q := by
  refine ok_sg (pc' := 9) (ls' := [some (.inl 1), some (.inl 4)]) (st' := []) (m' := m) (fun fx hfx o hk => ?_) ?_
  · refine r_ld (pc' := 1) hM_25 d_25_0 rfl rfl ?_
    refine r_ld (pc' := 2) hM_25 d_25_1 rfl rfl ?_
    refine r_k (pc' := 5) (v := .inr (.inr (some 4000))) hM_25 d_25_2 rfl (by decide +kernel) ?_
    refine r_cl (pc' := 8) (c := (26, 2)) (a := [.inl 1, .inl 4, .inr (.inr (some 4000))]) (q := []) hM_25 d_25_5 rfl (by decide +kernel) hM_26 rfl rfl rfl (Nat.le_of_ble_eq_true rfl) (Nat.le_of_ble_eq_true rfl) (Or.inl rfl) (ok_rnk (sx_1_4 (m := m)) hfx) (Nat.le_of_ble_eq_true rfl) ?_
    show rn fx 1 (0, 0) 25 8 [some (.inl 1), some (.inl 4)] [.inl 1] (st0 m) o
    refine r_stk (pc' := 9) (st' := []) hM_25 d_25_8 rfl rfl ?_
    exact hk
  exact ok_rt (fun fx _ => rt_v hM_25 d_25_9 rfl) H
theorem sy_1_4 {m : am_M} : ok 1 25 0 (am_ent 2 [.inl 1, .inl 4]) [] m (fun rr m' => rr = [] ∧ m' = m) := usy_1_4 ⟨rfl, rfl⟩
theorem usy_1_5 {Q : List am_V → am_M → Prop} {m : am_M}   (H : Q [] m) : ok 1 25 0 [some (.inl 1), some (.inl 5)] [] m Q := by
  refine ok_sg (pc' := 9) (ls' := [some (.inl 1), some (.inl 5)]) (st' := []) (m' := m) (fun fx hfx o hk => ?_) ?_
  · refine r_ld (pc' := 1) hM_25 d_25_0 rfl rfl ?_
    refine r_ld (pc' := 2) hM_25 d_25_1 rfl rfl ?_
    refine r_k (pc' := 5) (v := .inr (.inr (some 4000))) hM_25 d_25_2 rfl (by decide +kernel) ?_
    refine r_cl (pc' := 8) (c := (26, 2)) (a := [.inl 1, .inl 5, .inr (.inr (some 4000))]) (q := []) hM_25 d_25_5 rfl (by decide +kernel) hM_26 rfl rfl rfl (Nat.le_of_ble_eq_true rfl) (Nat.le_of_ble_eq_true rfl) (Or.inl rfl) (ok_rnk (sx_1_5 (m := m)) hfx) (Nat.le_of_ble_eq_true rfl) ?_
    show rn fx 1 (0, 0) 25 8 [some (.inl 1), some (.inl 5)] [.inl 1] (st0 m) o
    refine r_stk (pc' := 9) (st' := []) hM_25 d_25_8 rfl rfl ?_
    exact hk
  exact ok_rt (fun fx _ => rt_v hM_25 d_25_9 rfl) H
theorem sy_1_5 {m : am_M} : ok 1 25 0 (am_ent 2 [.inl 1, .inl 5]) [] m (fun rr m' => rr = [] ∧ m' = m) := usy_1_5 ⟨rfl, rfl⟩
theorem usy_1_6 {Q : List am_V → am_M → Prop} {m : am_M}   (H : Q [] m) : ok 1 25 0 [some (.inl 1), some (.inl 6)] [] m Q := by
  refine ok_sg (pc' := 9) (ls' := [some (.inl 1), some (.inl 6)]) (st' := []) (m' := m) (fun fx hfx o hk => ?_) ?_
  · refine r_ld (pc' := 1) hM_25 d_25_0 rfl rfl ?_
    refine r_ld (pc' := 2) hM_25 d_25_1 rfl rfl ?_
    refine r_k (pc' := 5) (v := .inr (.inr (some 4000))) hM_25 d_25_2 rfl (by decide +kernel) ?_
    refine r_cl (pc' := 8) (c := (26, 2)) (a := [.inl 1, .inl 6, .inr (.inr (some 4000))]) (q := []) hM_25 d_25_5 rfl (by decide +kernel) hM_26 rfl rfl rfl (Nat.le_of_ble_eq_true rfl) (Nat.le_of_ble_eq_true rfl) (Or.inl rfl) (ok_rnk (sx_1_6 (m := m)) hfx) (Nat.le_of_ble_eq_true rfl) ?_
    show rn fx 1 (0, 0) 25 8 [some (.inl 1), some (.inl 6)] [.inl 1] (st0 m) o
    refine r_stk (pc' := 9) (st' := []) hM_25 d_25_8 rfl rfl ?_
    exact hk
  exact ok_rt (fun fx _ => rt_v hM_25 d_25_9 rfl) H
theorem sy_1_6 {m : am_M} : ok 1 25 0 (am_ent 2 [.inl 1, .inl 6]) [] m (fun rr m' => rr = [] ∧ m' = m) := usy_1_6 ⟨rfl, rfl⟩
theorem usy_1_57 {Q : List am_V → am_M → Prop} {m : am_M}   (H : Q [] m) : ok 1 25 0 [some (.inl 1), some (.inl 57)] [] m Q := by
  refine ok_sg (pc' := 9) (ls' := [some (.inl 1), some (.inl 57)]) (st' := []) (m' := m) (fun fx hfx o hk => ?_) ?_
  · refine r_ld (pc' := 1) hM_25 d_25_0 rfl rfl ?_
    refine r_ld (pc' := 2) hM_25 d_25_1 rfl rfl ?_
    refine r_k (pc' := 5) (v := .inr (.inr (some 4000))) hM_25 d_25_2 rfl (by decide +kernel) ?_
    refine r_cl (pc' := 8) (c := (26, 2)) (a := [.inl 1, .inl 57, .inr (.inr (some 4000))]) (q := []) hM_25 d_25_5 rfl (by decide +kernel) hM_26 rfl rfl rfl (Nat.le_of_ble_eq_true rfl) (Nat.le_of_ble_eq_true rfl) (Or.inl rfl) (ok_rnk (sx_1_57 (m := m)) hfx) (Nat.le_of_ble_eq_true rfl) ?_
    show rn fx 1 (0, 0) 25 8 [some (.inl 1), some (.inl 57)] [.inl 1] (st0 m) o
    refine r_stk (pc' := 9) (st' := []) hM_25 d_25_8 rfl rfl ?_
    exact hk
  exact ok_rt (fun fx _ => rt_v hM_25 d_25_9 rfl) H
theorem sy_1_57 {m : am_M} : ok 1 25 0 (am_ent 2 [.inl 1, .inl 57]) [] m (fun rr m' => rr = [] ∧ m' = m) := usy_1_57 ⟨rfl, rfl⟩
theorem usy_2_3 {Q : List am_V → am_M → Prop} {m : am_M}   (H : Q [] m) : ok 1 25 0 [some (.inl 2), some (.inl 3)] [] m Q := by
  refine ok_sg (pc' := 9) (ls' := [some (.inl 2), some (.inl 3)]) (st' := []) (m' := m) (fun fx hfx o hk => ?_) ?_
  · refine r_ld (pc' := 1) hM_25 d_25_0 rfl rfl ?_
    refine r_ld (pc' := 2) hM_25 d_25_1 rfl rfl ?_
    refine r_k (pc' := 5) (v := .inr (.inr (some 4000))) hM_25 d_25_2 rfl (by decide +kernel) ?_
    refine r_cl (pc' := 8) (c := (26, 2)) (a := [.inl 2, .inl 3, .inr (.inr (some 4000))]) (q := []) hM_25 d_25_5 rfl (by decide +kernel) hM_26 rfl rfl rfl (Nat.le_of_ble_eq_true rfl) (Nat.le_of_ble_eq_true rfl) (Or.inl rfl) (ok_rnk (sx_2_3 (m := m)) hfx) (Nat.le_of_ble_eq_true rfl) ?_
    show rn fx 1 (0, 0) 25 8 [some (.inl 2), some (.inl 3)] [.inl 2] (st0 m) o
    refine r_stk (pc' := 9) (st' := []) hM_25 d_25_8 rfl rfl ?_
    exact hk
  exact ok_rt (fun fx _ => rt_v hM_25 d_25_9 rfl) H
theorem sy_2_3 {m : am_M} : ok 1 25 0 (am_ent 2 [.inl 2, .inl 3]) [] m (fun rr m' => rr = [] ∧ m' = m) := usy_2_3 ⟨rfl, rfl⟩
theorem usy_2_4 {Q : List am_V → am_M → Prop} {m : am_M}   (H : Q [] m) : ok 1 25 0 [some (.inl 2), some (.inl 4)] [] m Q := by
  refine ok_sg (pc' := 9) (ls' := [some (.inl 2), some (.inl 4)]) (st' := []) (m' := m) (fun fx hfx o hk => ?_) ?_
  · refine r_ld (pc' := 1) hM_25 d_25_0 rfl rfl ?_
    refine r_ld (pc' := 2) hM_25 d_25_1 rfl rfl ?_
    refine r_k (pc' := 5) (v := .inr (.inr (some 4000))) hM_25 d_25_2 rfl (by decide +kernel) ?_
    refine r_cl (pc' := 8) (c := (26, 2)) (a := [.inl 2, .inl 4, .inr (.inr (some 4000))]) (q := []) hM_25 d_25_5 rfl (by decide +kernel) hM_26 rfl rfl rfl (Nat.le_of_ble_eq_true rfl) (Nat.le_of_ble_eq_true rfl) (Or.inl rfl) (ok_rnk (sx_2_4 (m := m)) hfx) (Nat.le_of_ble_eq_true rfl) ?_
    show rn fx 1 (0, 0) 25 8 [some (.inl 2), some (.inl 4)] [.inl 2] (st0 m) o
    refine r_stk (pc' := 9) (st' := []) hM_25 d_25_8 rfl rfl ?_
    exact hk
  exact ok_rt (fun fx _ => rt_v hM_25 d_25_9 rfl) H
theorem sy_2_4 {m : am_M} : ok 1 25 0 (am_ent 2 [.inl 2, .inl 4]) [] m (fun rr m' => rr = [] ∧ m' = m) := usy_2_4 ⟨rfl, rfl⟩
theorem usy_2_5 {Q : List am_V → am_M → Prop} {m : am_M}   (H : Q [] m) : ok 1 25 0 [some (.inl 2), some (.inl 5)] [] m Q := by
  refine ok_sg (pc' := 9) (ls' := [some (.inl 2), some (.inl 5)]) (st' := []) (m' := m) (fun fx hfx o hk => ?_) ?_
  · refine r_ld (pc' := 1) hM_25 d_25_0 rfl rfl ?_
    refine r_ld (pc' := 2) hM_25 d_25_1 rfl rfl ?_
    refine r_k (pc' := 5) (v := .inr (.inr (some 4000))) hM_25 d_25_2 rfl (by decide +kernel) ?_
    refine r_cl (pc' := 8) (c := (26, 2)) (a := [.inl 2, .inl 5, .inr (.inr (some 4000))]) (q := []) hM_25 d_25_5 rfl (by decide +kernel) hM_26 rfl rfl rfl (Nat.le_of_ble_eq_true rfl) (Nat.le_of_ble_eq_true rfl) (Or.inl rfl) (ok_rnk (sx_2_5 (m := m)) hfx) (Nat.le_of_ble_eq_true rfl) ?_
    show rn fx 1 (0, 0) 25 8 [some (.inl 2), some (.inl 5)] [.inl 2] (st0 m) o
    refine r_stk (pc' := 9) (st' := []) hM_25 d_25_8 rfl rfl ?_
    exact hk
  exact ok_rt (fun fx _ => rt_v hM_25 d_25_9 rfl) H
theorem sy_2_5 {m : am_M} : ok 1 25 0 (am_ent 2 [.inl 2, .inl 5]) [] m (fun rr m' => rr = [] ∧ m' = m) := usy_2_5 ⟨rfl, rfl⟩
theorem usy_2_6 {Q : List am_V → am_M → Prop} {m : am_M}   (H : Q [] m) : ok 1 25 0 [some (.inl 2), some (.inl 6)] [] m Q := by
  refine ok_sg (pc' := 9) (ls' := [some (.inl 2), some (.inl 6)]) (st' := []) (m' := m) (fun fx hfx o hk => ?_) ?_
  · refine r_ld (pc' := 1) hM_25 d_25_0 rfl rfl ?_
    refine r_ld (pc' := 2) hM_25 d_25_1 rfl rfl ?_
    refine r_k (pc' := 5) (v := .inr (.inr (some 4000))) hM_25 d_25_2 rfl (by decide +kernel) ?_
    refine r_cl (pc' := 8) (c := (26, 2)) (a := [.inl 2, .inl 6, .inr (.inr (some 4000))]) (q := []) hM_25 d_25_5 rfl (by decide +kernel) hM_26 rfl rfl rfl (Nat.le_of_ble_eq_true rfl) (Nat.le_of_ble_eq_true rfl) (Or.inl rfl) (ok_rnk (sx_2_6 (m := m)) hfx) (Nat.le_of_ble_eq_true rfl) ?_
    show rn fx 1 (0, 0) 25 8 [some (.inl 2), some (.inl 6)] [.inl 2] (st0 m) o
    refine r_stk (pc' := 9) (st' := []) hM_25 d_25_8 rfl rfl ?_
    exact hk
  exact ok_rt (fun fx _ => rt_v hM_25 d_25_9 rfl) H
theorem sy_2_6 {m : am_M} : ok 1 25 0 (am_ent 2 [.inl 2, .inl 6]) [] m (fun rr m' => rr = [] ∧ m' = m) := usy_2_6 ⟨rfl, rfl⟩
theorem usy_2_57 {Q : List am_V → am_M → Prop} {m : am_M}   (H : Q [] m) : ok 1 25 0 [some (.inl 2), some (.inl 57)] [] m Q := by
  refine ok_sg (pc' := 9) (ls' := [some (.inl 2), some (.inl 57)]) (st' := []) (m' := m) (fun fx hfx o hk => ?_) ?_
  · refine r_ld (pc' := 1) hM_25 d_25_0 rfl rfl ?_
    refine r_ld (pc' := 2) hM_25 d_25_1 rfl rfl ?_
    refine r_k (pc' := 5) (v := .inr (.inr (some 4000))) hM_25 d_25_2 rfl (by decide +kernel) ?_
    refine r_cl (pc' := 8) (c := (26, 2)) (a := [.inl 2, .inl 57, .inr (.inr (some 4000))]) (q := []) hM_25 d_25_5 rfl (by decide +kernel) hM_26 rfl rfl rfl (Nat.le_of_ble_eq_true rfl) (Nat.le_of_ble_eq_true rfl) (Or.inl rfl) (ok_rnk (sx_2_57 (m := m)) hfx) (Nat.le_of_ble_eq_true rfl) ?_
    show rn fx 1 (0, 0) 25 8 [some (.inl 2), some (.inl 57)] [.inl 2] (st0 m) o
    refine r_stk (pc' := 9) (st' := []) hM_25 d_25_8 rfl rfl ?_
    exact hk
  exact ok_rt (fun fx _ => rt_v hM_25 d_25_9 rfl) H
theorem sy_2_57 {m : am_M} : ok 1 25 0 (am_ent 2 [.inl 2, .inl 57]) [] m (fun rr m' => rr = [] ∧ m' = m) := usy_2_57 ⟨rfl, rfl⟩
theorem usy_3_4 {Q : List am_V → am_M → Prop} {m : am_M}   (H : Q [] m) : ok 1 25 0 [some (.inl 3), some (.inl 4)] [] m Q := by
  refine ok_sg (pc' := 9) (ls' := [some (.inl 3), some (.inl 4)]) (st' := []) (m' := m) (fun fx hfx o hk => ?_) ?_
  · refine r_ld (pc' := 1) hM_25 d_25_0 rfl rfl ?_
    refine r_ld (pc' := 2) hM_25 d_25_1 rfl rfl ?_
    refine r_k (pc' := 5) (v := .inr (.inr (some 4000))) hM_25 d_25_2 rfl (by decide +kernel) ?_
    refine r_cl (pc' := 8) (c := (26, 2)) (a := [.inl 3, .inl 4, .inr (.inr (some 4000))]) (q := []) hM_25 d_25_5 rfl (by decide +kernel) hM_26 rfl rfl rfl (Nat.le_of_ble_eq_true rfl) (Nat.le_of_ble_eq_true rfl) (Or.inl rfl) (ok_rnk (sx_3_4 (m := m)) hfx) (Nat.le_of_ble_eq_true rfl) ?_
    show rn fx 1 (0, 0) 25 8 [some (.inl 3), some (.inl 4)] [.inl 3] (st0 m) o
    refine r_stk (pc' := 9) (st' := []) hM_25 d_25_8 rfl rfl ?_
    exact hk
  exact ok_rt (fun fx _ => rt_v hM_25 d_25_9 rfl) H
theorem sy_3_4 {m : am_M} : ok 1 25 0 (am_ent 2 [.inl 3, .inl 4]) [] m (fun rr m' => rr = [] ∧ m' = m) := usy_3_4 ⟨rfl, rfl⟩
theorem usy_3_5 {Q : List am_V → am_M → Prop} {m : am_M}   (H : Q [] m) : ok 1 25 0 [some (.inl 3), some (.inl 5)] [] m Q := by
  refine ok_sg (pc' := 9) (ls' := [some (.inl 3), some (.inl 5)]) (st' := []) (m' := m) (fun fx hfx o hk => ?_) ?_
  · refine r_ld (pc' := 1) hM_25 d_25_0 rfl rfl ?_
    refine r_ld (pc' := 2) hM_25 d_25_1 rfl rfl ?_
    refine r_k (pc' := 5) (v := .inr (.inr (some 4000))) hM_25 d_25_2 rfl (by decide +kernel) ?_
    refine r_cl (pc' := 8) (c := (26, 2)) (a := [.inl 3, .inl 5, .inr (.inr (some 4000))]) (q := []) hM_25 d_25_5 rfl (by decide +kernel) hM_26 rfl rfl rfl (Nat.le_of_ble_eq_true rfl) (Nat.le_of_ble_eq_true rfl) (Or.inl rfl) (ok_rnk (sx_3_5 (m := m)) hfx) (Nat.le_of_ble_eq_true rfl) ?_
    show rn fx 1 (0, 0) 25 8 [some (.inl 3), some (.inl 5)] [.inl 3] (st0 m) o
    refine r_stk (pc' := 9) (st' := []) hM_25 d_25_8 rfl rfl ?_
    exact hk
  exact ok_rt (fun fx _ => rt_v hM_25 d_25_9 rfl) H
theorem sy_3_5 {m : am_M} : ok 1 25 0 (am_ent 2 [.inl 3, .inl 5]) [] m (fun rr m' => rr = [] ∧ m' = m) := usy_3_5 ⟨rfl, rfl⟩
theorem usy_3_6 {Q : List am_V → am_M → Prop} {m : am_M}   (H : Q [] m) : ok 1 25 0 [some (.inl 3), some (.inl 6)] [] m Q := by
  refine ok_sg (pc' := 9) (ls' := [some (.inl 3), some (.inl 6)]) (st' := []) (m' := m) (fun fx hfx o hk => ?_) ?_
  · refine r_ld (pc' := 1) hM_25 d_25_0 rfl rfl ?_
    refine r_ld (pc' := 2) hM_25 d_25_1 rfl rfl ?_
    refine r_k (pc' := 5) (v := .inr (.inr (some 4000))) hM_25 d_25_2 rfl (by decide +kernel) ?_
    refine r_cl (pc' := 8) (c := (26, 2)) (a := [.inl 3, .inl 6, .inr (.inr (some 4000))]) (q := []) hM_25 d_25_5 rfl (by decide +kernel) hM_26 rfl rfl rfl (Nat.le_of_ble_eq_true rfl) (Nat.le_of_ble_eq_true rfl) (Or.inl rfl) (ok_rnk (sx_3_6 (m := m)) hfx) (Nat.le_of_ble_eq_true rfl) ?_
    show rn fx 1 (0, 0) 25 8 [some (.inl 3), some (.inl 6)] [.inl 3] (st0 m) o
    refine r_stk (pc' := 9) (st' := []) hM_25 d_25_8 rfl rfl ?_
    exact hk
  exact ok_rt (fun fx _ => rt_v hM_25 d_25_9 rfl) H
theorem sy_3_6 {m : am_M} : ok 1 25 0 (am_ent 2 [.inl 3, .inl 6]) [] m (fun rr m' => rr = [] ∧ m' = m) := usy_3_6 ⟨rfl, rfl⟩
theorem usy_3_57 {Q : List am_V → am_M → Prop} {m : am_M}   (H : Q [] m) : ok 1 25 0 [some (.inl 3), some (.inl 57)] [] m Q := by
  refine ok_sg (pc' := 9) (ls' := [some (.inl 3), some (.inl 57)]) (st' := []) (m' := m) (fun fx hfx o hk => ?_) ?_
  · refine r_ld (pc' := 1) hM_25 d_25_0 rfl rfl ?_
    refine r_ld (pc' := 2) hM_25 d_25_1 rfl rfl ?_
    refine r_k (pc' := 5) (v := .inr (.inr (some 4000))) hM_25 d_25_2 rfl (by decide +kernel) ?_
    refine r_cl (pc' := 8) (c := (26, 2)) (a := [.inl 3, .inl 57, .inr (.inr (some 4000))]) (q := []) hM_25 d_25_5 rfl (by decide +kernel) hM_26 rfl rfl rfl (Nat.le_of_ble_eq_true rfl) (Nat.le_of_ble_eq_true rfl) (Or.inl rfl) (ok_rnk (sx_3_57 (m := m)) hfx) (Nat.le_of_ble_eq_true rfl) ?_
    show rn fx 1 (0, 0) 25 8 [some (.inl 3), some (.inl 57)] [.inl 3] (st0 m) o
    refine r_stk (pc' := 9) (st' := []) hM_25 d_25_8 rfl rfl ?_
    exact hk
  exact ok_rt (fun fx _ => rt_v hM_25 d_25_9 rfl) H
theorem sy_3_57 {m : am_M} : ok 1 25 0 (am_ent 2 [.inl 3, .inl 57]) [] m (fun rr m' => rr = [] ∧ m' = m) := usy_3_57 ⟨rfl, rfl⟩
theorem usy_4_5 {Q : List am_V → am_M → Prop} {m : am_M}   (H : Q [] m) : ok 1 25 0 [some (.inl 4), some (.inl 5)] [] m Q := by
  refine ok_sg (pc' := 9) (ls' := [some (.inl 4), some (.inl 5)]) (st' := []) (m' := m) (fun fx hfx o hk => ?_) ?_
  · refine r_ld (pc' := 1) hM_25 d_25_0 rfl rfl ?_
    refine r_ld (pc' := 2) hM_25 d_25_1 rfl rfl ?_
    refine r_k (pc' := 5) (v := .inr (.inr (some 4000))) hM_25 d_25_2 rfl (by decide +kernel) ?_
    refine r_cl (pc' := 8) (c := (26, 2)) (a := [.inl 4, .inl 5, .inr (.inr (some 4000))]) (q := []) hM_25 d_25_5 rfl (by decide +kernel) hM_26 rfl rfl rfl (Nat.le_of_ble_eq_true rfl) (Nat.le_of_ble_eq_true rfl) (Or.inl rfl) (ok_rnk (sx_4_5 (m := m)) hfx) (Nat.le_of_ble_eq_true rfl) ?_
    show rn fx 1 (0, 0) 25 8 [some (.inl 4), some (.inl 5)] [.inl 4] (st0 m) o
    refine r_stk (pc' := 9) (st' := []) hM_25 d_25_8 rfl rfl ?_
    exact hk
  exact ok_rt (fun fx _ => rt_v hM_25 d_25_9 rfl) H
theorem sy_4_5 {m : am_M} : ok 1 25 0 (am_ent 2 [.inl 4, .inl 5]) [] m (fun rr m' => rr = [] ∧ m' = m) := usy_4_5 ⟨rfl, rfl⟩
theorem usy_4_6 {Q : List am_V → am_M → Prop} {m : am_M}   (H : Q [] m) : ok 1 25 0 [some (.inl 4), some (.inl 6)] [] m Q := by
  refine ok_sg (pc' := 9) (ls' := [some (.inl 4), some (.inl 6)]) (st' := []) (m' := m) (fun fx hfx o hk => ?_) ?_
  · refine r_ld (pc' := 1) hM_25 d_25_0 rfl rfl ?_
    refine r_ld (pc' := 2) hM_25 d_25_1 rfl rfl ?_
    refine r_k (pc' := 5) (v := .inr (.inr (some 4000))) hM_25 d_25_2 rfl (by decide +kernel) ?_
    refine r_cl (pc' := 8) (c := (26, 2)) (a := [.inl 4, .inl 6, .inr (.inr (some 4000))]) (q := []) hM_25 d_25_5 rfl (by decide +kernel) hM_26 rfl rfl rfl (Nat.le_of_ble_eq_true rfl) (Nat.le_of_ble_eq_true rfl) (Or.inl rfl) (ok_rnk (sx_4_6 (m := m)) hfx) (Nat.le_of_ble_eq_true rfl) ?_
    show rn fx 1 (0, 0) 25 8 [some (.inl 4), some (.inl 6)] [.inl 4] (st0 m) o
    refine r_stk (pc' := 9) (st' := []) hM_25 d_25_8 rfl rfl ?_
    exact hk
  exact ok_rt (fun fx _ => rt_v hM_25 d_25_9 rfl) H
theorem sy_4_6 {m : am_M} : ok 1 25 0 (am_ent 2 [.inl 4, .inl 6]) [] m (fun rr m' => rr = [] ∧ m' = m) := usy_4_6 ⟨rfl, rfl⟩
theorem usy_4_57 {Q : List am_V → am_M → Prop} {m : am_M}   (H : Q [] m) : ok 1 25 0 [some (.inl 4), some (.inl 57)] [] m Q := by
  refine ok_sg (pc' := 9) (ls' := [some (.inl 4), some (.inl 57)]) (st' := []) (m' := m) (fun fx hfx o hk => ?_) ?_
  · refine r_ld (pc' := 1) hM_25 d_25_0 rfl rfl ?_
    refine r_ld (pc' := 2) hM_25 d_25_1 rfl rfl ?_
    refine r_k (pc' := 5) (v := .inr (.inr (some 4000))) hM_25 d_25_2 rfl (by decide +kernel) ?_
    refine r_cl (pc' := 8) (c := (26, 2)) (a := [.inl 4, .inl 57, .inr (.inr (some 4000))]) (q := []) hM_25 d_25_5 rfl (by decide +kernel) hM_26 rfl rfl rfl (Nat.le_of_ble_eq_true rfl) (Nat.le_of_ble_eq_true rfl) (Or.inl rfl) (ok_rnk (sx_4_57 (m := m)) hfx) (Nat.le_of_ble_eq_true rfl) ?_
    show rn fx 1 (0, 0) 25 8 [some (.inl 4), some (.inl 57)] [.inl 4] (st0 m) o
    refine r_stk (pc' := 9) (st' := []) hM_25 d_25_8 rfl rfl ?_
    exact hk
  exact ok_rt (fun fx _ => rt_v hM_25 d_25_9 rfl) H
theorem sy_4_57 {m : am_M} : ok 1 25 0 (am_ent 2 [.inl 4, .inl 57]) [] m (fun rr m' => rr = [] ∧ m' = m) := usy_4_57 ⟨rfl, rfl⟩
theorem usy_5_6 {Q : List am_V → am_M → Prop} {m : am_M}   (H : Q [] m) : ok 1 25 0 [some (.inl 5), some (.inl 6)] [] m Q := by
  refine ok_sg (pc' := 9) (ls' := [some (.inl 5), some (.inl 6)]) (st' := []) (m' := m) (fun fx hfx o hk => ?_) ?_
  · refine r_ld (pc' := 1) hM_25 d_25_0 rfl rfl ?_
    refine r_ld (pc' := 2) hM_25 d_25_1 rfl rfl ?_
    refine r_k (pc' := 5) (v := .inr (.inr (some 4000))) hM_25 d_25_2 rfl (by decide +kernel) ?_
    refine r_cl (pc' := 8) (c := (26, 2)) (a := [.inl 5, .inl 6, .inr (.inr (some 4000))]) (q := []) hM_25 d_25_5 rfl (by decide +kernel) hM_26 rfl rfl rfl (Nat.le_of_ble_eq_true rfl) (Nat.le_of_ble_eq_true rfl) (Or.inl rfl) (ok_rnk (sx_5_6 (m := m)) hfx) (Nat.le_of_ble_eq_true rfl) ?_
    show rn fx 1 (0, 0) 25 8 [some (.inl 5), some (.inl 6)] [.inl 5] (st0 m) o
    refine r_stk (pc' := 9) (st' := []) hM_25 d_25_8 rfl rfl ?_
    exact hk
  exact ok_rt (fun fx _ => rt_v hM_25 d_25_9 rfl) H
theorem sy_5_6 {m : am_M} : ok 1 25 0 (am_ent 2 [.inl 5, .inl 6]) [] m (fun rr m' => rr = [] ∧ m' = m) := usy_5_6 ⟨rfl, rfl⟩
theorem usy_5_57 {Q : List am_V → am_M → Prop} {m : am_M}   (H : Q [] m) : ok 1 25 0 [some (.inl 5), some (.inl 57)] [] m Q := by
  refine ok_sg (pc' := 9) (ls' := [some (.inl 5), some (.inl 57)]) (st' := []) (m' := m) (fun fx hfx o hk => ?_) ?_
  · refine r_ld (pc' := 1) hM_25 d_25_0 rfl rfl ?_
    refine r_ld (pc' := 2) hM_25 d_25_1 rfl rfl ?_
    refine r_k (pc' := 5) (v := .inr (.inr (some 4000))) hM_25 d_25_2 rfl (by decide +kernel) ?_
    refine r_cl (pc' := 8) (c := (26, 2)) (a := [.inl 5, .inl 57, .inr (.inr (some 4000))]) (q := []) hM_25 d_25_5 rfl (by decide +kernel) hM_26 rfl rfl rfl (Nat.le_of_ble_eq_true rfl) (Nat.le_of_ble_eq_true rfl) (Or.inl rfl) (ok_rnk (sx_5_57 (m := m)) hfx) (Nat.le_of_ble_eq_true rfl) ?_
    show rn fx 1 (0, 0) 25 8 [some (.inl 5), some (.inl 57)] [.inl 5] (st0 m) o
    refine r_stk (pc' := 9) (st' := []) hM_25 d_25_8 rfl rfl ?_
    exact hk
  exact ok_rt (fun fx _ => rt_v hM_25 d_25_9 rfl) H
theorem sy_5_57 {m : am_M} : ok 1 25 0 (am_ent 2 [.inl 5, .inl 57]) [] m (fun rr m' => rr = [] ∧ m' = m) := usy_5_57 ⟨rfl, rfl⟩
theorem usy_6_57 {Q : List am_V → am_M → Prop} {m : am_M}   (H : Q [] m) : ok 1 25 0 [some (.inl 6), some (.inl 57)] [] m Q := by
  refine ok_sg (pc' := 9) (ls' := [some (.inl 6), some (.inl 57)]) (st' := []) (m' := m) (fun fx hfx o hk => ?_) ?_
  · refine r_ld (pc' := 1) hM_25 d_25_0 rfl rfl ?_
    refine r_ld (pc' := 2) hM_25 d_25_1 rfl rfl ?_
    refine r_k (pc' := 5) (v := .inr (.inr (some 4000))) hM_25 d_25_2 rfl (by decide +kernel) ?_
    refine r_cl (pc' := 8) (c := (26, 2)) (a := [.inl 6, .inl 57, .inr (.inr (some 4000))]) (q := []) hM_25 d_25_5 rfl (by decide +kernel) hM_26 rfl rfl rfl (Nat.le_of_ble_eq_true rfl) (Nat.le_of_ble_eq_true rfl) (Or.inl rfl) (ok_rnk (sx_6_57 (m := m)) hfx) (Nat.le_of_ble_eq_true rfl) ?_
    show rn fx 1 (0, 0) 25 8 [some (.inl 6), some (.inl 57)] [.inl 6] (st0 m) o
    refine r_stk (pc' := 9) (st' := []) hM_25 d_25_8 rfl rfl ?_
    exact hk
  exact ok_rt (fun fx _ => rt_v hM_25 d_25_9 rfl) H
theorem sy_6_57 {m : am_M} : ok 1 25 0 (am_ent 2 [.inl 6, .inl 57]) [] m (fun rr m' => rr = [] ∧ m' = m) := usy_6_57 ⟨rfl, rfl⟩
theorem usy_7_57 {Q : List am_V → am_M → Prop} {m : am_M}   (H : Q [] m) : ok 1 25 0 [some (.inl 7), some (.inl 57)] [] m Q := by
  refine ok_sg (pc' := 9) (ls' := [some (.inl 7), some (.inl 57)]) (st' := []) (m' := m) (fun fx hfx o hk => ?_) ?_
  · refine r_ld (pc' := 1) hM_25 d_25_0 rfl rfl ?_
    refine r_ld (pc' := 2) hM_25 d_25_1 rfl rfl ?_
    refine r_k (pc' := 5) (v := .inr (.inr (some 4000))) hM_25 d_25_2 rfl (by decide +kernel) ?_
    refine r_cl (pc' := 8) (c := (26, 2)) (a := [.inl 7, .inl 57, .inr (.inr (some 4000))]) (q := []) hM_25 d_25_5 rfl (by decide +kernel) hM_26 rfl rfl rfl (Nat.le_of_ble_eq_true rfl) (Nat.le_of_ble_eq_true rfl) (Or.inl rfl) (ok_rnk (sx_7_57 (m := m)) hfx) (Nat.le_of_ble_eq_true rfl) ?_
    show rn fx 1 (0, 0) 25 8 [some (.inl 7), some (.inl 57)] [.inl 7] (st0 m) o
    refine r_stk (pc' := 9) (st' := []) hM_25 d_25_8 rfl rfl ?_
    exact hk
  exact ok_rt (fun fx _ => rt_v hM_25 d_25_9 rfl) H
theorem sy_7_57 {m : am_M} : ok 1 25 0 (am_ent 2 [.inl 7, .inl 57]) [] m (fun rr m' => rr = [] ∧ m' = m) := usy_7_57 ⟨rfl, rfl⟩
theorem usy_8_57 {Q : List am_V → am_M → Prop} {m : am_M}   (H : Q [] m) : ok 1 25 0 [some (.inl 8), some (.inl 57)] [] m Q := by
  refine ok_sg (pc' := 9) (ls' := [some (.inl 8), some (.inl 57)]) (st' := []) (m' := m) (fun fx hfx o hk => ?_) ?_
  · refine r_ld (pc' := 1) hM_25 d_25_0 rfl rfl ?_
    refine r_ld (pc' := 2) hM_25 d_25_1 rfl rfl ?_
    refine r_k (pc' := 5) (v := .inr (.inr (some 4000))) hM_25 d_25_2 rfl (by decide +kernel) ?_
    refine r_cl (pc' := 8) (c := (26, 2)) (a := [.inl 8, .inl 57, .inr (.inr (some 4000))]) (q := []) hM_25 d_25_5 rfl (by decide +kernel) hM_26 rfl rfl rfl (Nat.le_of_ble_eq_true rfl) (Nat.le_of_ble_eq_true rfl) (Or.inl rfl) (ok_rnk (sx_8_57 (m := m)) hfx) (Nat.le_of_ble_eq_true rfl) ?_
    show rn fx 1 (0, 0) 25 8 [some (.inl 8), some (.inl 57)] [.inl 8] (st0 m) o
    refine r_stk (pc' := 9) (st' := []) hM_25 d_25_8 rfl rfl ?_
    exact hk
  exact ok_rt (fun fx _ => rt_v hM_25 d_25_9 rfl) H
theorem sy_8_57 {m : am_M} : ok 1 25 0 (am_ent 2 [.inl 8, .inl 57]) [] m (fun rr m' => rr = [] ∧ m' = m) := usy_8_57 ⟨rfl, rfl⟩
theorem usy_9_57 {Q : List am_V → am_M → Prop} {m : am_M}   (H : Q [] m) : ok 1 25 0 [some (.inl 9), some (.inl 57)] [] m Q := by
  refine ok_sg (pc' := 9) (ls' := [some (.inl 9), some (.inl 57)]) (st' := []) (m' := m) (fun fx hfx o hk => ?_) ?_
  · refine r_ld (pc' := 1) hM_25 d_25_0 rfl rfl ?_
    refine r_ld (pc' := 2) hM_25 d_25_1 rfl rfl ?_
    refine r_k (pc' := 5) (v := .inr (.inr (some 4000))) hM_25 d_25_2 rfl (by decide +kernel) ?_
    refine r_cl (pc' := 8) (c := (26, 2)) (a := [.inl 9, .inl 57, .inr (.inr (some 4000))]) (q := []) hM_25 d_25_5 rfl (by decide +kernel) hM_26 rfl rfl rfl (Nat.le_of_ble_eq_true rfl) (Nat.le_of_ble_eq_true rfl) (Or.inl rfl) (ok_rnk (sx_9_57 (m := m)) hfx) (Nat.le_of_ble_eq_true rfl) ?_
    show rn fx 1 (0, 0) 25 8 [some (.inl 9), some (.inl 57)] [.inl 9] (st0 m) o
    refine r_stk (pc' := 9) (st' := []) hM_25 d_25_8 rfl rfl ?_
    exact hk
  exact ok_rt (fun fx _ => rt_v hM_25 d_25_9 rfl) H
theorem sy_9_57 {m : am_M} : ok 1 25 0 (am_ent 2 [.inl 9, .inl 57]) [] m (fun rr m' => rr = [] ∧ m' = m) := usy_9_57 ⟨rfl, rfl⟩
theorem usy_10_57 {Q : List am_V → am_M → Prop} {m : am_M}   (H : Q [] m) : ok 1 25 0 [some (.inl 10), some (.inl 57)] [] m Q := by
  refine ok_sg (pc' := 9) (ls' := [some (.inl 10), some (.inl 57)]) (st' := []) (m' := m) (fun fx hfx o hk => ?_) ?_
  · refine r_ld (pc' := 1) hM_25 d_25_0 rfl rfl ?_
    refine r_ld (pc' := 2) hM_25 d_25_1 rfl rfl ?_
    refine r_k (pc' := 5) (v := .inr (.inr (some 4000))) hM_25 d_25_2 rfl (by decide +kernel) ?_
    refine r_cl (pc' := 8) (c := (26, 2)) (a := [.inl 10, .inl 57, .inr (.inr (some 4000))]) (q := []) hM_25 d_25_5 rfl (by decide +kernel) hM_26 rfl rfl rfl (Nat.le_of_ble_eq_true rfl) (Nat.le_of_ble_eq_true rfl) (Or.inl rfl) (ok_rnk (sx_10_57 (m := m)) hfx) (Nat.le_of_ble_eq_true rfl) ?_
    show rn fx 1 (0, 0) 25 8 [some (.inl 10), some (.inl 57)] [.inl 10] (st0 m) o
    refine r_stk (pc' := 9) (st' := []) hM_25 d_25_8 rfl rfl ?_
    exact hk
  exact ok_rt (fun fx _ => rt_v hM_25 d_25_9 rfl) H
theorem sy_10_57 {m : am_M} : ok 1 25 0 (am_ent 2 [.inl 10, .inl 57]) [] m (fun rr m' => rr = [] ∧ m' = m) := usy_10_57 ⟨rfl, rfl⟩
theorem usy_11_57 {Q : List am_V → am_M → Prop} {m : am_M}   (H : Q [] m) : ok 1 25 0 [some (.inl 11), some (.inl 57)] [] m Q := by
  refine ok_sg (pc' := 9) (ls' := [some (.inl 11), some (.inl 57)]) (st' := []) (m' := m) (fun fx hfx o hk => ?_) ?_
  · refine r_ld (pc' := 1) hM_25 d_25_0 rfl rfl ?_
    refine r_ld (pc' := 2) hM_25 d_25_1 rfl rfl ?_
    refine r_k (pc' := 5) (v := .inr (.inr (some 4000))) hM_25 d_25_2 rfl (by decide +kernel) ?_
    refine r_cl (pc' := 8) (c := (26, 2)) (a := [.inl 11, .inl 57, .inr (.inr (some 4000))]) (q := []) hM_25 d_25_5 rfl (by decide +kernel) hM_26 rfl rfl rfl (Nat.le_of_ble_eq_true rfl) (Nat.le_of_ble_eq_true rfl) (Or.inl rfl) (ok_rnk (sx_11_57 (m := m)) hfx) (Nat.le_of_ble_eq_true rfl) ?_
    show rn fx 1 (0, 0) 25 8 [some (.inl 11), some (.inl 57)] [.inl 11] (st0 m) o
    refine r_stk (pc' := 9) (st' := []) hM_25 d_25_8 rfl rfl ?_
    exact hk
  exact ok_rt (fun fx _ => rt_v hM_25 d_25_9 rfl) H
theorem sy_11_57 {m : am_M} : ok 1 25 0 (am_ent 2 [.inl 11, .inl 57]) [] m (fun rr m' => rr = [] ∧ m' = m) := usy_11_57 ⟨rfl, rfl⟩
theorem usy_12_57 {Q : List am_V → am_M → Prop} {m : am_M}   (H : Q [] m) : ok 1 25 0 [some (.inl 12), some (.inl 57)] [] m Q := by
  refine ok_sg (pc' := 9) (ls' := [some (.inl 12), some (.inl 57)]) (st' := []) (m' := m) (fun fx hfx o hk => ?_) ?_
  · refine r_ld (pc' := 1) hM_25 d_25_0 rfl rfl ?_
    refine r_ld (pc' := 2) hM_25 d_25_1 rfl rfl ?_
    refine r_k (pc' := 5) (v := .inr (.inr (some 4000))) hM_25 d_25_2 rfl (by decide +kernel) ?_
    refine r_cl (pc' := 8) (c := (26, 2)) (a := [.inl 12, .inl 57, .inr (.inr (some 4000))]) (q := []) hM_25 d_25_5 rfl (by decide +kernel) hM_26 rfl rfl rfl (Nat.le_of_ble_eq_true rfl) (Nat.le_of_ble_eq_true rfl) (Or.inl rfl) (ok_rnk (sx_12_57 (m := m)) hfx) (Nat.le_of_ble_eq_true rfl) ?_
    show rn fx 1 (0, 0) 25 8 [some (.inl 12), some (.inl 57)] [.inl 12] (st0 m) o
    refine r_stk (pc' := 9) (st' := []) hM_25 d_25_8 rfl rfl ?_
    exact hk
  exact ok_rt (fun fx _ => rt_v hM_25 d_25_9 rfl) H
theorem sy_12_57 {m : am_M} : ok 1 25 0 (am_ent 2 [.inl 12, .inl 57]) [] m (fun rr m' => rr = [] ∧ m' = m) := usy_12_57 ⟨rfl, rfl⟩
theorem usy_13_57 {Q : List am_V → am_M → Prop} {m : am_M}   (H : Q [] m) : ok 1 25 0 [some (.inl 13), some (.inl 57)] [] m Q := by
  refine ok_sg (pc' := 9) (ls' := [some (.inl 13), some (.inl 57)]) (st' := []) (m' := m) (fun fx hfx o hk => ?_) ?_
  · refine r_ld (pc' := 1) hM_25 d_25_0 rfl rfl ?_
    refine r_ld (pc' := 2) hM_25 d_25_1 rfl rfl ?_
    refine r_k (pc' := 5) (v := .inr (.inr (some 4000))) hM_25 d_25_2 rfl (by decide +kernel) ?_
    refine r_cl (pc' := 8) (c := (26, 2)) (a := [.inl 13, .inl 57, .inr (.inr (some 4000))]) (q := []) hM_25 d_25_5 rfl (by decide +kernel) hM_26 rfl rfl rfl (Nat.le_of_ble_eq_true rfl) (Nat.le_of_ble_eq_true rfl) (Or.inl rfl) (ok_rnk (sx_13_57 (m := m)) hfx) (Nat.le_of_ble_eq_true rfl) ?_
    show rn fx 1 (0, 0) 25 8 [some (.inl 13), some (.inl 57)] [.inl 13] (st0 m) o
    refine r_stk (pc' := 9) (st' := []) hM_25 d_25_8 rfl rfl ?_
    exact hk
  exact ok_rt (fun fx _ => rt_v hM_25 d_25_9 rfl) H
theorem sy_13_57 {m : am_M} : ok 1 25 0 (am_ent 2 [.inl 13, .inl 57]) [] m (fun rr m' => rr = [] ∧ m' = m) := usy_13_57 ⟨rfl, rfl⟩
theorem usy_14_57 {Q : List am_V → am_M → Prop} {m : am_M}   (H : Q [] m) : ok 1 25 0 [some (.inl 14), some (.inl 57)] [] m Q := by
  refine ok_sg (pc' := 9) (ls' := [some (.inl 14), some (.inl 57)]) (st' := []) (m' := m) (fun fx hfx o hk => ?_) ?_
  · refine r_ld (pc' := 1) hM_25 d_25_0 rfl rfl ?_
    refine r_ld (pc' := 2) hM_25 d_25_1 rfl rfl ?_
    refine r_k (pc' := 5) (v := .inr (.inr (some 4000))) hM_25 d_25_2 rfl (by decide +kernel) ?_
    refine r_cl (pc' := 8) (c := (26, 2)) (a := [.inl 14, .inl 57, .inr (.inr (some 4000))]) (q := []) hM_25 d_25_5 rfl (by decide +kernel) hM_26 rfl rfl rfl (Nat.le_of_ble_eq_true rfl) (Nat.le_of_ble_eq_true rfl) (Or.inl rfl) (ok_rnk (sx_14_57 (m := m)) hfx) (Nat.le_of_ble_eq_true rfl) ?_
    show rn fx 1 (0, 0) 25 8 [some (.inl 14), some (.inl 57)] [.inl 14] (st0 m) o
    refine r_stk (pc' := 9) (st' := []) hM_25 d_25_8 rfl rfl ?_
    exact hk
  exact ok_rt (fun fx _ => rt_v hM_25 d_25_9 rfl) H
theorem sy_14_57 {m : am_M} : ok 1 25 0 (am_ent 2 [.inl 14, .inl 57]) [] m (fun rr m' => rr = [] ∧ m' = m) := usy_14_57 ⟨rfl, rfl⟩
theorem usy_15_57 {Q : List am_V → am_M → Prop} {m : am_M}   (H : Q [] m) : ok 1 25 0 [some (.inl 15), some (.inl 57)] [] m Q := by
  refine ok_sg (pc' := 9) (ls' := [some (.inl 15), some (.inl 57)]) (st' := []) (m' := m) (fun fx hfx o hk => ?_) ?_
  · refine r_ld (pc' := 1) hM_25 d_25_0 rfl rfl ?_
    refine r_ld (pc' := 2) hM_25 d_25_1 rfl rfl ?_
    refine r_k (pc' := 5) (v := .inr (.inr (some 4000))) hM_25 d_25_2 rfl (by decide +kernel) ?_
    refine r_cl (pc' := 8) (c := (26, 2)) (a := [.inl 15, .inl 57, .inr (.inr (some 4000))]) (q := []) hM_25 d_25_5 rfl (by decide +kernel) hM_26 rfl rfl rfl (Nat.le_of_ble_eq_true rfl) (Nat.le_of_ble_eq_true rfl) (Or.inl rfl) (ok_rnk (sx_15_57 (m := m)) hfx) (Nat.le_of_ble_eq_true rfl) ?_
    show rn fx 1 (0, 0) 25 8 [some (.inl 15), some (.inl 57)] [.inl 15] (st0 m) o
    refine r_stk (pc' := 9) (st' := []) hM_25 d_25_8 rfl rfl ?_
    exact hk
  exact ok_rt (fun fx _ => rt_v hM_25 d_25_9 rfl) H
theorem sy_15_57 {m : am_M} : ok 1 25 0 (am_ent 2 [.inl 15, .inl 57]) [] m (fun rr m' => rr = [] ∧ m' = m) := usy_15_57 ⟨rfl, rfl⟩
theorem usy_16_57 {Q : List am_V → am_M → Prop} {m : am_M}   (H : Q [] m) : ok 1 25 0 [some (.inl 16), some (.inl 57)] [] m Q := by
  refine ok_sg (pc' := 9) (ls' := [some (.inl 16), some (.inl 57)]) (st' := []) (m' := m) (fun fx hfx o hk => ?_) ?_
  · refine r_ld (pc' := 1) hM_25 d_25_0 rfl rfl ?_
    refine r_ld (pc' := 2) hM_25 d_25_1 rfl rfl ?_
    refine r_k (pc' := 5) (v := .inr (.inr (some 4000))) hM_25 d_25_2 rfl (by decide +kernel) ?_
    refine r_cl (pc' := 8) (c := (26, 2)) (a := [.inl 16, .inl 57, .inr (.inr (some 4000))]) (q := []) hM_25 d_25_5 rfl (by decide +kernel) hM_26 rfl rfl rfl (Nat.le_of_ble_eq_true rfl) (Nat.le_of_ble_eq_true rfl) (Or.inl rfl) (ok_rnk (sx_16_57 (m := m)) hfx) (Nat.le_of_ble_eq_true rfl) ?_
    show rn fx 1 (0, 0) 25 8 [some (.inl 16), some (.inl 57)] [.inl 16] (st0 m) o
    refine r_stk (pc' := 9) (st' := []) hM_25 d_25_8 rfl rfl ?_
    exact hk
  exact ok_rt (fun fx _ => rt_v hM_25 d_25_9 rfl) H
theorem sy_16_57 {m : am_M} : ok 1 25 0 (am_ent 2 [.inl 16, .inl 57]) [] m (fun rr m' => rr = [] ∧ m' = m) := usy_16_57 ⟨rfl, rfl⟩
theorem usy_17_57 {Q : List am_V → am_M → Prop} {m : am_M}   (H : Q [] m) : ok 1 25 0 [some (.inl 17), some (.inl 57)] [] m Q := by
  refine ok_sg (pc' := 9) (ls' := [some (.inl 17), some (.inl 57)]) (st' := []) (m' := m) (fun fx hfx o hk => ?_) ?_
  · refine r_ld (pc' := 1) hM_25 d_25_0 rfl rfl ?_
    refine r_ld (pc' := 2) hM_25 d_25_1 rfl rfl ?_
    refine r_k (pc' := 5) (v := .inr (.inr (some 4000))) hM_25 d_25_2 rfl (by decide +kernel) ?_
    refine r_cl (pc' := 8) (c := (26, 2)) (a := [.inl 17, .inl 57, .inr (.inr (some 4000))]) (q := []) hM_25 d_25_5 rfl (by decide +kernel) hM_26 rfl rfl rfl (Nat.le_of_ble_eq_true rfl) (Nat.le_of_ble_eq_true rfl) (Or.inl rfl) (ok_rnk (sx_17_57 (m := m)) hfx) (Nat.le_of_ble_eq_true rfl) ?_
    show rn fx 1 (0, 0) 25 8 [some (.inl 17), some (.inl 57)] [.inl 17] (st0 m) o
    refine r_stk (pc' := 9) (st' := []) hM_25 d_25_8 rfl rfl ?_
    exact hk
  exact ok_rt (fun fx _ => rt_v hM_25 d_25_9 rfl) H
theorem sy_17_57 {m : am_M} : ok 1 25 0 (am_ent 2 [.inl 17, .inl 57]) [] m (fun rr m' => rr = [] ∧ m' = m) := usy_17_57 ⟨rfl, rfl⟩
theorem usy_18_57 {Q : List am_V → am_M → Prop} {m : am_M}   (H : Q [] m) : ok 1 25 0 [some (.inl 18), some (.inl 57)] [] m Q := by
  refine ok_sg (pc' := 9) (ls' := [some (.inl 18), some (.inl 57)]) (st' := []) (m' := m) (fun fx hfx o hk => ?_) ?_
  · refine r_ld (pc' := 1) hM_25 d_25_0 rfl rfl ?_
    refine r_ld (pc' := 2) hM_25 d_25_1 rfl rfl ?_
    refine r_k (pc' := 5) (v := .inr (.inr (some 4000))) hM_25 d_25_2 rfl (by decide +kernel) ?_
    refine r_cl (pc' := 8) (c := (26, 2)) (a := [.inl 18, .inl 57, .inr (.inr (some 4000))]) (q := []) hM_25 d_25_5 rfl (by decide +kernel) hM_26 rfl rfl rfl (Nat.le_of_ble_eq_true rfl) (Nat.le_of_ble_eq_true rfl) (Or.inl rfl) (ok_rnk (sx_18_57 (m := m)) hfx) (Nat.le_of_ble_eq_true rfl) ?_
    show rn fx 1 (0, 0) 25 8 [some (.inl 18), some (.inl 57)] [.inl 18] (st0 m) o
    refine r_stk (pc' := 9) (st' := []) hM_25 d_25_8 rfl rfl ?_
    exact hk
  exact ok_rt (fun fx _ => rt_v hM_25 d_25_9 rfl) H
theorem sy_18_57 {m : am_M} : ok 1 25 0 (am_ent 2 [.inl 18, .inl 57]) [] m (fun rr m' => rr = [] ∧ m' = m) := usy_18_57 ⟨rfl, rfl⟩
theorem usy_19_57 {Q : List am_V → am_M → Prop} {m : am_M}   (H : Q [] m) : ok 1 25 0 [some (.inl 19), some (.inl 57)] [] m Q := by
  refine ok_sg (pc' := 9) (ls' := [some (.inl 19), some (.inl 57)]) (st' := []) (m' := m) (fun fx hfx o hk => ?_) ?_
  · refine r_ld (pc' := 1) hM_25 d_25_0 rfl rfl ?_
    refine r_ld (pc' := 2) hM_25 d_25_1 rfl rfl ?_
    refine r_k (pc' := 5) (v := .inr (.inr (some 4000))) hM_25 d_25_2 rfl (by decide +kernel) ?_
    refine r_cl (pc' := 8) (c := (26, 2)) (a := [.inl 19, .inl 57, .inr (.inr (some 4000))]) (q := []) hM_25 d_25_5 rfl (by decide +kernel) hM_26 rfl rfl rfl (Nat.le_of_ble_eq_true rfl) (Nat.le_of_ble_eq_true rfl) (Or.inl rfl) (ok_rnk (sx_19_57 (m := m)) hfx) (Nat.le_of_ble_eq_true rfl) ?_
    show rn fx 1 (0, 0) 25 8 [some (.inl 19), some (.inl 57)] [.inl 19] (st0 m) o
    refine r_stk (pc' := 9) (st' := []) hM_25 d_25_8 rfl rfl ?_
    exact hk
  exact ok_rt (fun fx _ => rt_v hM_25 d_25_9 rfl) H
theorem sy_19_57 {m : am_M} : ok 1 25 0 (am_ent 2 [.inl 19, .inl 57]) [] m (fun rr m' => rr = [] ∧ m' = m) := usy_19_57 ⟨rfl, rfl⟩
theorem usy_20_57 {Q : List am_V → am_M → Prop} {m : am_M}   (H : Q [] m) : ok 1 25 0 [some (.inl 20), some (.inl 57)] [] m Q := by
  refine ok_sg (pc' := 9) (ls' := [some (.inl 20), some (.inl 57)]) (st' := []) (m' := m) (fun fx hfx o hk => ?_) ?_
  · refine r_ld (pc' := 1) hM_25 d_25_0 rfl rfl ?_
    refine r_ld (pc' := 2) hM_25 d_25_1 rfl rfl ?_
    refine r_k (pc' := 5) (v := .inr (.inr (some 4000))) hM_25 d_25_2 rfl (by decide +kernel) ?_
    refine r_cl (pc' := 8) (c := (26, 2)) (a := [.inl 20, .inl 57, .inr (.inr (some 4000))]) (q := []) hM_25 d_25_5 rfl (by decide +kernel) hM_26 rfl rfl rfl (Nat.le_of_ble_eq_true rfl) (Nat.le_of_ble_eq_true rfl) (Or.inl rfl) (ok_rnk (sx_20_57 (m := m)) hfx) (Nat.le_of_ble_eq_true rfl) ?_
    show rn fx 1 (0, 0) 25 8 [some (.inl 20), some (.inl 57)] [.inl 20] (st0 m) o
    refine r_stk (pc' := 9) (st' := []) hM_25 d_25_8 rfl rfl ?_
    exact hk
  exact ok_rt (fun fx _ => rt_v hM_25 d_25_9 rfl) H
theorem sy_20_57 {m : am_M} : ok 1 25 0 (am_ent 2 [.inl 20, .inl 57]) [] m (fun rr m' => rr = [] ∧ m' = m) := usy_20_57 ⟨rfl, rfl⟩
theorem usy_21_57 {Q : List am_V → am_M → Prop} {m : am_M}   (H : Q [] m) : ok 1 25 0 [some (.inl 21), some (.inl 57)] [] m Q := by
  refine ok_sg (pc' := 9) (ls' := [some (.inl 21), some (.inl 57)]) (st' := []) (m' := m) (fun fx hfx o hk => ?_) ?_
  · refine r_ld (pc' := 1) hM_25 d_25_0 rfl rfl ?_
    refine r_ld (pc' := 2) hM_25 d_25_1 rfl rfl ?_
    refine r_k (pc' := 5) (v := .inr (.inr (some 4000))) hM_25 d_25_2 rfl (by decide +kernel) ?_
    refine r_cl (pc' := 8) (c := (26, 2)) (a := [.inl 21, .inl 57, .inr (.inr (some 4000))]) (q := []) hM_25 d_25_5 rfl (by decide +kernel) hM_26 rfl rfl rfl (Nat.le_of_ble_eq_true rfl) (Nat.le_of_ble_eq_true rfl) (Or.inl rfl) (ok_rnk (sx_21_57 (m := m)) hfx) (Nat.le_of_ble_eq_true rfl) ?_
    show rn fx 1 (0, 0) 25 8 [some (.inl 21), some (.inl 57)] [.inl 21] (st0 m) o
    refine r_stk (pc' := 9) (st' := []) hM_25 d_25_8 rfl rfl ?_
    exact hk
  exact ok_rt (fun fx _ => rt_v hM_25 d_25_9 rfl) H
theorem sy_21_57 {m : am_M} : ok 1 25 0 (am_ent 2 [.inl 21, .inl 57]) [] m (fun rr m' => rr = [] ∧ m' = m) := usy_21_57 ⟨rfl, rfl⟩
theorem usy_22_57 {Q : List am_V → am_M → Prop} {m : am_M}   (H : Q [] m) : ok 1 25 0 [some (.inl 22), some (.inl 57)] [] m Q := by
  refine ok_sg (pc' := 9) (ls' := [some (.inl 22), some (.inl 57)]) (st' := []) (m' := m) (fun fx hfx o hk => ?_) ?_
  · refine r_ld (pc' := 1) hM_25 d_25_0 rfl rfl ?_
    refine r_ld (pc' := 2) hM_25 d_25_1 rfl rfl ?_
    refine r_k (pc' := 5) (v := .inr (.inr (some 4000))) hM_25 d_25_2 rfl (by decide +kernel) ?_
    refine r_cl (pc' := 8) (c := (26, 2)) (a := [.inl 22, .inl 57, .inr (.inr (some 4000))]) (q := []) hM_25 d_25_5 rfl (by decide +kernel) hM_26 rfl rfl rfl (Nat.le_of_ble_eq_true rfl) (Nat.le_of_ble_eq_true rfl) (Or.inl rfl) (ok_rnk (sx_22_57 (m := m)) hfx) (Nat.le_of_ble_eq_true rfl) ?_
    show rn fx 1 (0, 0) 25 8 [some (.inl 22), some (.inl 57)] [.inl 22] (st0 m) o
    refine r_stk (pc' := 9) (st' := []) hM_25 d_25_8 rfl rfl ?_
    exact hk
  exact ok_rt (fun fx _ => rt_v hM_25 d_25_9 rfl) H
theorem sy_22_57 {m : am_M} : ok 1 25 0 (am_ent 2 [.inl 22, .inl 57]) [] m (fun rr m' => rr = [] ∧ m' = m) := usy_22_57 ⟨rfl, rfl⟩
theorem usy_23_57 {Q : List am_V → am_M → Prop} {m : am_M}   (H : Q [] m) : ok 1 25 0 [some (.inl 23), some (.inl 57)] [] m Q := by
  refine ok_sg (pc' := 9) (ls' := [some (.inl 23), some (.inl 57)]) (st' := []) (m' := m) (fun fx hfx o hk => ?_) ?_
  · refine r_ld (pc' := 1) hM_25 d_25_0 rfl rfl ?_
    refine r_ld (pc' := 2) hM_25 d_25_1 rfl rfl ?_
    refine r_k (pc' := 5) (v := .inr (.inr (some 4000))) hM_25 d_25_2 rfl (by decide +kernel) ?_
    refine r_cl (pc' := 8) (c := (26, 2)) (a := [.inl 23, .inl 57, .inr (.inr (some 4000))]) (q := []) hM_25 d_25_5 rfl (by decide +kernel) hM_26 rfl rfl rfl (Nat.le_of_ble_eq_true rfl) (Nat.le_of_ble_eq_true rfl) (Or.inl rfl) (ok_rnk (sx_23_57 (m := m)) hfx) (Nat.le_of_ble_eq_true rfl) ?_
    show rn fx 1 (0, 0) 25 8 [some (.inl 23), some (.inl 57)] [.inl 23] (st0 m) o
    refine r_stk (pc' := 9) (st' := []) hM_25 d_25_8 rfl rfl ?_
    exact hk
  exact ok_rt (fun fx _ => rt_v hM_25 d_25_9 rfl) H
theorem sy_23_57 {m : am_M} : ok 1 25 0 (am_ent 2 [.inl 23, .inl 57]) [] m (fun rr m' => rr = [] ∧ m' = m) := usy_23_57 ⟨rfl, rfl⟩
theorem usy_24_57 {Q : List am_V → am_M → Prop} {m : am_M}   (H : Q [] m) : ok 1 25 0 [some (.inl 24), some (.inl 57)] [] m Q := by
  refine ok_sg (pc' := 9) (ls' := [some (.inl 24), some (.inl 57)]) (st' := []) (m' := m) (fun fx hfx o hk => ?_) ?_
  · refine r_ld (pc' := 1) hM_25 d_25_0 rfl rfl ?_
    refine r_ld (pc' := 2) hM_25 d_25_1 rfl rfl ?_
    refine r_k (pc' := 5) (v := .inr (.inr (some 4000))) hM_25 d_25_2 rfl (by decide +kernel) ?_
    refine r_cl (pc' := 8) (c := (26, 2)) (a := [.inl 24, .inl 57, .inr (.inr (some 4000))]) (q := []) hM_25 d_25_5 rfl (by decide +kernel) hM_26 rfl rfl rfl (Nat.le_of_ble_eq_true rfl) (Nat.le_of_ble_eq_true rfl) (Or.inl rfl) (ok_rnk (sx_24_57 (m := m)) hfx) (Nat.le_of_ble_eq_true rfl) ?_
    show rn fx 1 (0, 0) 25 8 [some (.inl 24), some (.inl 57)] [.inl 24] (st0 m) o
    refine r_stk (pc' := 9) (st' := []) hM_25 d_25_8 rfl rfl ?_
    exact hk
  exact ok_rt (fun fx _ => rt_v hM_25 d_25_9 rfl) H
theorem sy_24_57 {m : am_M} : ok 1 25 0 (am_ent 2 [.inl 24, .inl 57]) [] m (fun rr m' => rr = [] ∧ m' = m) := usy_24_57 ⟨rfl, rfl⟩
theorem usy_25_57 {Q : List am_V → am_M → Prop} {m : am_M}   (H : Q [] m) : ok 1 25 0 [some (.inl 25), some (.inl 57)] [] m Q := by
  refine ok_sg (pc' := 9) (ls' := [some (.inl 25), some (.inl 57)]) (st' := []) (m' := m) (fun fx hfx o hk => ?_) ?_
  · refine r_ld (pc' := 1) hM_25 d_25_0 rfl rfl ?_
    refine r_ld (pc' := 2) hM_25 d_25_1 rfl rfl ?_
    refine r_k (pc' := 5) (v := .inr (.inr (some 4000))) hM_25 d_25_2 rfl (by decide +kernel) ?_
    refine r_cl (pc' := 8) (c := (26, 2)) (a := [.inl 25, .inl 57, .inr (.inr (some 4000))]) (q := []) hM_25 d_25_5 rfl (by decide +kernel) hM_26 rfl rfl rfl (Nat.le_of_ble_eq_true rfl) (Nat.le_of_ble_eq_true rfl) (Or.inl rfl) (ok_rnk (sx_25_57 (m := m)) hfx) (Nat.le_of_ble_eq_true rfl) ?_
    show rn fx 1 (0, 0) 25 8 [some (.inl 25), some (.inl 57)] [.inl 25] (st0 m) o
    refine r_stk (pc' := 9) (st' := []) hM_25 d_25_8 rfl rfl ?_
    exact hk
  exact ok_rt (fun fx _ => rt_v hM_25 d_25_9 rfl) H
theorem sy_25_57 {m : am_M} : ok 1 25 0 (am_ent 2 [.inl 25, .inl 57]) [] m (fun rr m' => rr = [] ∧ m' = m) := usy_25_57 ⟨rfl, rfl⟩
theorem usy_26_57 {Q : List am_V → am_M → Prop} {m : am_M}   (H : Q [] m) : ok 1 25 0 [some (.inl 26), some (.inl 57)] [] m Q := by
  refine ok_sg (pc' := 9) (ls' := [some (.inl 26), some (.inl 57)]) (st' := []) (m' := m) (fun fx hfx o hk => ?_) ?_
  · refine r_ld (pc' := 1) hM_25 d_25_0 rfl rfl ?_
    refine r_ld (pc' := 2) hM_25 d_25_1 rfl rfl ?_
    refine r_k (pc' := 5) (v := .inr (.inr (some 4000))) hM_25 d_25_2 rfl (by decide +kernel) ?_
    refine r_cl (pc' := 8) (c := (26, 2)) (a := [.inl 26, .inl 57, .inr (.inr (some 4000))]) (q := []) hM_25 d_25_5 rfl (by decide +kernel) hM_26 rfl rfl rfl (Nat.le_of_ble_eq_true rfl) (Nat.le_of_ble_eq_true rfl) (Or.inl rfl) (ok_rnk (sx_26_57 (m := m)) hfx) (Nat.le_of_ble_eq_true rfl) ?_
    show rn fx 1 (0, 0) 25 8 [some (.inl 26), some (.inl 57)] [.inl 26] (st0 m) o
    refine r_stk (pc' := 9) (st' := []) hM_25 d_25_8 rfl rfl ?_
    exact hk
  exact ok_rt (fun fx _ => rt_v hM_25 d_25_9 rfl) H
theorem sy_26_57 {m : am_M} : ok 1 25 0 (am_ent 2 [.inl 26, .inl 57]) [] m (fun rr m' => rr = [] ∧ m' = m) := usy_26_57 ⟨rfl, rfl⟩
theorem usy_27_57 {Q : List am_V → am_M → Prop} {m : am_M}   (H : Q [] m) : ok 1 25 0 [some (.inl 27), some (.inl 57)] [] m Q := by
  refine ok_sg (pc' := 9) (ls' := [some (.inl 27), some (.inl 57)]) (st' := []) (m' := m) (fun fx hfx o hk => ?_) ?_
  · refine r_ld (pc' := 1) hM_25 d_25_0 rfl rfl ?_
    refine r_ld (pc' := 2) hM_25 d_25_1 rfl rfl ?_
    refine r_k (pc' := 5) (v := .inr (.inr (some 4000))) hM_25 d_25_2 rfl (by decide +kernel) ?_
    refine r_cl (pc' := 8) (c := (26, 2)) (a := [.inl 27, .inl 57, .inr (.inr (some 4000))]) (q := []) hM_25 d_25_5 rfl (by decide +kernel) hM_26 rfl rfl rfl (Nat.le_of_ble_eq_true rfl) (Nat.le_of_ble_eq_true rfl) (Or.inl rfl) (ok_rnk (sx_27_57 (m := m)) hfx) (Nat.le_of_ble_eq_true rfl) ?_
    show rn fx 1 (0, 0) 25 8 [some (.inl 27), some (.inl 57)] [.inl 27] (st0 m) o
    refine r_stk (pc' := 9) (st' := []) hM_25 d_25_8 rfl rfl ?_
    exact hk
  exact ok_rt (fun fx _ => rt_v hM_25 d_25_9 rfl) H
theorem sy_27_57 {m : am_M} : ok 1 25 0 (am_ent 2 [.inl 27, .inl 57]) [] m (fun rr m' => rr = [] ∧ m' = m) := usy_27_57 ⟨rfl, rfl⟩
theorem usy_28_57 {Q : List am_V → am_M → Prop} {m : am_M}   (H : Q [] m) : ok 1 25 0 [some (.inl 28), some (.inl 57)] [] m Q := by
  refine ok_sg (pc' := 9) (ls' := [some (.inl 28), some (.inl 57)]) (st' := []) (m' := m) (fun fx hfx o hk => ?_) ?_
  · refine r_ld (pc' := 1) hM_25 d_25_0 rfl rfl ?_
    refine r_ld (pc' := 2) hM_25 d_25_1 rfl rfl ?_
    refine r_k (pc' := 5) (v := .inr (.inr (some 4000))) hM_25 d_25_2 rfl (by decide +kernel) ?_
    refine r_cl (pc' := 8) (c := (26, 2)) (a := [.inl 28, .inl 57, .inr (.inr (some 4000))]) (q := []) hM_25 d_25_5 rfl (by decide +kernel) hM_26 rfl rfl rfl (Nat.le_of_ble_eq_true rfl) (Nat.le_of_ble_eq_true rfl) (Or.inl rfl) (ok_rnk (sx_28_57 (m := m)) hfx) (Nat.le_of_ble_eq_true rfl) ?_
    show rn fx 1 (0, 0) 25 8 [some (.inl 28), some (.inl 57)] [.inl 28] (st0 m) o
    refine r_stk (pc' := 9) (st' := []) hM_25 d_25_8 rfl rfl ?_
    exact hk
  exact ok_rt (fun fx _ => rt_v hM_25 d_25_9 rfl) H
theorem sy_28_57 {m : am_M} : ok 1 25 0 (am_ent 2 [.inl 28, .inl 57]) [] m (fun rr m' => rr = [] ∧ m' = m) := usy_28_57 ⟨rfl, rfl⟩
theorem usy_29_57 {Q : List am_V → am_M → Prop} {m : am_M}   (H : Q [] m) : ok 1 25 0 [some (.inl 29), some (.inl 57)] [] m Q := by
  refine ok_sg (pc' := 9) (ls' := [some (.inl 29), some (.inl 57)]) (st' := []) (m' := m) (fun fx hfx o hk => ?_) ?_
  · refine r_ld (pc' := 1) hM_25 d_25_0 rfl rfl ?_
    refine r_ld (pc' := 2) hM_25 d_25_1 rfl rfl ?_
    refine r_k (pc' := 5) (v := .inr (.inr (some 4000))) hM_25 d_25_2 rfl (by decide +kernel) ?_
    refine r_cl (pc' := 8) (c := (26, 2)) (a := [.inl 29, .inl 57, .inr (.inr (some 4000))]) (q := []) hM_25 d_25_5 rfl (by decide +kernel) hM_26 rfl rfl rfl (Nat.le_of_ble_eq_true rfl) (Nat.le_of_ble_eq_true rfl) (Or.inl rfl) (ok_rnk (sx_29_57 (m := m)) hfx) (Nat.le_of_ble_eq_true rfl) ?_
    show rn fx 1 (0, 0) 25 8 [some (.inl 29), some (.inl 57)] [.inl 29] (st0 m) o
    refine r_stk (pc' := 9) (st' := []) hM_25 d_25_8 rfl rfl ?_
    exact hk
  exact ok_rt (fun fx _ => rt_v hM_25 d_25_9 rfl) H
theorem sy_29_57 {m : am_M} : ok 1 25 0 (am_ent 2 [.inl 29, .inl 57]) [] m (fun rr m' => rr = [] ∧ m' = m) := usy_29_57 ⟨rfl, rfl⟩
theorem usy_30_57 {Q : List am_V → am_M → Prop} {m : am_M}   (H : Q [] m) : ok 1 25 0 [some (.inl 30), some (.inl 57)] [] m Q := by
  refine ok_sg (pc' := 9) (ls' := [some (.inl 30), some (.inl 57)]) (st' := []) (m' := m) (fun fx hfx o hk => ?_) ?_
  · refine r_ld (pc' := 1) hM_25 d_25_0 rfl rfl ?_
    refine r_ld (pc' := 2) hM_25 d_25_1 rfl rfl ?_
    refine r_k (pc' := 5) (v := .inr (.inr (some 4000))) hM_25 d_25_2 rfl (by decide +kernel) ?_
    refine r_cl (pc' := 8) (c := (26, 2)) (a := [.inl 30, .inl 57, .inr (.inr (some 4000))]) (q := []) hM_25 d_25_5 rfl (by decide +kernel) hM_26 rfl rfl rfl (Nat.le_of_ble_eq_true rfl) (Nat.le_of_ble_eq_true rfl) (Or.inl rfl) (ok_rnk (sx_30_57 (m := m)) hfx) (Nat.le_of_ble_eq_true rfl) ?_
    show rn fx 1 (0, 0) 25 8 [some (.inl 30), some (.inl 57)] [.inl 30] (st0 m) o
    refine r_stk (pc' := 9) (st' := []) hM_25 d_25_8 rfl rfl ?_
    exact hk
  exact ok_rt (fun fx _ => rt_v hM_25 d_25_9 rfl) H
theorem sy_30_57 {m : am_M} : ok 1 25 0 (am_ent 2 [.inl 30, .inl 57]) [] m (fun rr m' => rr = [] ∧ m' = m) := usy_30_57 ⟨rfl, rfl⟩
theorem usy_31_57 {Q : List am_V → am_M → Prop} {m : am_M}   (H : Q [] m) : ok 1 25 0 [some (.inl 31), some (.inl 57)] [] m Q := by
  refine ok_sg (pc' := 9) (ls' := [some (.inl 31), some (.inl 57)]) (st' := []) (m' := m) (fun fx hfx o hk => ?_) ?_
  · refine r_ld (pc' := 1) hM_25 d_25_0 rfl rfl ?_
    refine r_ld (pc' := 2) hM_25 d_25_1 rfl rfl ?_
    refine r_k (pc' := 5) (v := .inr (.inr (some 4000))) hM_25 d_25_2 rfl (by decide +kernel) ?_
    refine r_cl (pc' := 8) (c := (26, 2)) (a := [.inl 31, .inl 57, .inr (.inr (some 4000))]) (q := []) hM_25 d_25_5 rfl (by decide +kernel) hM_26 rfl rfl rfl (Nat.le_of_ble_eq_true rfl) (Nat.le_of_ble_eq_true rfl) (Or.inl rfl) (ok_rnk (sx_31_57 (m := m)) hfx) (Nat.le_of_ble_eq_true rfl) ?_
    show rn fx 1 (0, 0) 25 8 [some (.inl 31), some (.inl 57)] [.inl 31] (st0 m) o
    refine r_stk (pc' := 9) (st' := []) hM_25 d_25_8 rfl rfl ?_
    exact hk
  exact ok_rt (fun fx _ => rt_v hM_25 d_25_9 rfl) H
theorem sy_31_57 {m : am_M} : ok 1 25 0 (am_ent 2 [.inl 31, .inl 57]) [] m (fun rr m' => rr = [] ∧ m' = m) := usy_31_57 ⟨rfl, rfl⟩
theorem usy_32_57 {Q : List am_V → am_M → Prop} {m : am_M}   (H : Q [] m) : ok 1 25 0 [some (.inl 32), some (.inl 57)] [] m Q := by
  refine ok_sg (pc' := 9) (ls' := [some (.inl 32), some (.inl 57)]) (st' := []) (m' := m) (fun fx hfx o hk => ?_) ?_
  · refine r_ld (pc' := 1) hM_25 d_25_0 rfl rfl ?_
    refine r_ld (pc' := 2) hM_25 d_25_1 rfl rfl ?_
    refine r_k (pc' := 5) (v := .inr (.inr (some 4000))) hM_25 d_25_2 rfl (by decide +kernel) ?_
    refine r_cl (pc' := 8) (c := (26, 2)) (a := [.inl 32, .inl 57, .inr (.inr (some 4000))]) (q := []) hM_25 d_25_5 rfl (by decide +kernel) hM_26 rfl rfl rfl (Nat.le_of_ble_eq_true rfl) (Nat.le_of_ble_eq_true rfl) (Or.inl rfl) (ok_rnk (sx_32_57 (m := m)) hfx) (Nat.le_of_ble_eq_true rfl) ?_
    show rn fx 1 (0, 0) 25 8 [some (.inl 32), some (.inl 57)] [.inl 32] (st0 m) o
    refine r_stk (pc' := 9) (st' := []) hM_25 d_25_8 rfl rfl ?_
    exact hk
  exact ok_rt (fun fx _ => rt_v hM_25 d_25_9 rfl) H
theorem sy_32_57 {m : am_M} : ok 1 25 0 (am_ent 2 [.inl 32, .inl 57]) [] m (fun rr m' => rr = [] ∧ m' = m) := usy_32_57 ⟨rfl, rfl⟩
theorem usy_33_57 {Q : List am_V → am_M → Prop} {m : am_M}   (H : Q [] m) : ok 1 25 0 [some (.inl 33), some (.inl 57)] [] m Q := by
  refine ok_sg (pc' := 9) (ls' := [some (.inl 33), some (.inl 57)]) (st' := []) (m' := m) (fun fx hfx o hk => ?_) ?_
  · refine r_ld (pc' := 1) hM_25 d_25_0 rfl rfl ?_
    refine r_ld (pc' := 2) hM_25 d_25_1 rfl rfl ?_
    refine r_k (pc' := 5) (v := .inr (.inr (some 4000))) hM_25 d_25_2 rfl (by decide +kernel) ?_
    refine r_cl (pc' := 8) (c := (26, 2)) (a := [.inl 33, .inl 57, .inr (.inr (some 4000))]) (q := []) hM_25 d_25_5 rfl (by decide +kernel) hM_26 rfl rfl rfl (Nat.le_of_ble_eq_true rfl) (Nat.le_of_ble_eq_true rfl) (Or.inl rfl) (ok_rnk (sx_33_57 (m := m)) hfx) (Nat.le_of_ble_eq_true rfl) ?_
    show rn fx 1 (0, 0) 25 8 [some (.inl 33), some (.inl 57)] [.inl 33] (st0 m) o
    refine r_stk (pc' := 9) (st' := []) hM_25 d_25_8 rfl rfl ?_
    exact hk
  exact ok_rt (fun fx _ => rt_v hM_25 d_25_9 rfl) H
theorem sy_33_57 {m : am_M} : ok 1 25 0 (am_ent 2 [.inl 33, .inl 57]) [] m (fun rr m' => rr = [] ∧ m' = m) := usy_33_57 ⟨rfl, rfl⟩
theorem usy_34_57 {Q : List am_V → am_M → Prop} {m : am_M}   (H : Q [] m) : ok 1 25 0 [some (.inl 34), some (.inl 57)] [] m Q := by
  refine ok_sg (pc' := 9) (ls' := [some (.inl 34), some (.inl 57)]) (st' := []) (m' := m) (fun fx hfx o hk => ?_) ?_
  · refine r_ld (pc' := 1) hM_25 d_25_0 rfl rfl ?_
    refine r_ld (pc' := 2) hM_25 d_25_1 rfl rfl ?_
    refine r_k (pc' := 5) (v := .inr (.inr (some 4000))) hM_25 d_25_2 rfl (by decide +kernel) ?_
    refine r_cl (pc' := 8) (c := (26, 2)) (a := [.inl 34, .inl 57, .inr (.inr (some 4000))]) (q := []) hM_25 d_25_5 rfl (by decide +kernel) hM_26 rfl rfl rfl (Nat.le_of_ble_eq_true rfl) (Nat.le_of_ble_eq_true rfl) (Or.inl rfl) (ok_rnk (sx_34_57 (m := m)) hfx) (Nat.le_of_ble_eq_true rfl) ?_
    show rn fx 1 (0, 0) 25 8 [some (.inl 34), some (.inl 57)] [.inl 34] (st0 m) o
    refine r_stk (pc' := 9) (st' := []) hM_25 d_25_8 rfl rfl ?_
    exact hk
  exact ok_rt (fun fx _ => rt_v hM_25 d_25_9 rfl) H
theorem sy_34_57 {m : am_M} : ok 1 25 0 (am_ent 2 [.inl 34, .inl 57]) [] m (fun rr m' => rr = [] ∧ m' = m) := usy_34_57 ⟨rfl, rfl⟩
theorem usy_35_57 {Q : List am_V → am_M → Prop} {m : am_M}   (H : Q [] m) : ok 1 25 0 [some (.inl 35), some (.inl 57)] [] m Q := by
  refine ok_sg (pc' := 9) (ls' := [some (.inl 35), some (.inl 57)]) (st' := []) (m' := m) (fun fx hfx o hk => ?_) ?_
  · refine r_ld (pc' := 1) hM_25 d_25_0 rfl rfl ?_
    refine r_ld (pc' := 2) hM_25 d_25_1 rfl rfl ?_
    refine r_k (pc' := 5) (v := .inr (.inr (some 4000))) hM_25 d_25_2 rfl (by decide +kernel) ?_
    refine r_cl (pc' := 8) (c := (26, 2)) (a := [.inl 35, .inl 57, .inr (.inr (some 4000))]) (q := []) hM_25 d_25_5 rfl (by decide +kernel) hM_26 rfl rfl rfl (Nat.le_of_ble_eq_true rfl) (Nat.le_of_ble_eq_true rfl) (Or.inl rfl) (ok_rnk (sx_35_57 (m := m)) hfx) (Nat.le_of_ble_eq_true rfl) ?_
    show rn fx 1 (0, 0) 25 8 [some (.inl 35), some (.inl 57)] [.inl 35] (st0 m) o
    refine r_stk (pc' := 9) (st' := []) hM_25 d_25_8 rfl rfl ?_
    exact hk
  exact ok_rt (fun fx _ => rt_v hM_25 d_25_9 rfl) H
theorem sy_35_57 {m : am_M} : ok 1 25 0 (am_ent 2 [.inl 35, .inl 57]) [] m (fun rr m' => rr = [] ∧ m' = m) := usy_35_57 ⟨rfl, rfl⟩
theorem usy_36_57 {Q : List am_V → am_M → Prop} {m : am_M}   (H : Q [] m) : ok 1 25 0 [some (.inl 36), some (.inl 57)] [] m Q := by
  refine ok_sg (pc' := 9) (ls' := [some (.inl 36), some (.inl 57)]) (st' := []) (m' := m) (fun fx hfx o hk => ?_) ?_
  · refine r_ld (pc' := 1) hM_25 d_25_0 rfl rfl ?_
    refine r_ld (pc' := 2) hM_25 d_25_1 rfl rfl ?_
    refine r_k (pc' := 5) (v := .inr (.inr (some 4000))) hM_25 d_25_2 rfl (by decide +kernel) ?_
    refine r_cl (pc' := 8) (c := (26, 2)) (a := [.inl 36, .inl 57, .inr (.inr (some 4000))]) (q := []) hM_25 d_25_5 rfl (by decide +kernel) hM_26 rfl rfl rfl (Nat.le_of_ble_eq_true rfl) (Nat.le_of_ble_eq_true rfl) (Or.inl rfl) (ok_rnk (sx_36_57 (m := m)) hfx) (Nat.le_of_ble_eq_true rfl) ?_
    show rn fx 1 (0, 0) 25 8 [some (.inl 36), some (.inl 57)] [.inl 36] (st0 m) o
    refine r_stk (pc' := 9) (st' := []) hM_25 d_25_8 rfl rfl ?_
    exact hk
  exact ok_rt (fun fx _ => rt_v hM_25 d_25_9 rfl) H
theorem sy_36_57 {m : am_M} : ok 1 25 0 (am_ent 2 [.inl 36, .inl 57]) [] m (fun rr m' => rr = [] ∧ m' = m) := usy_36_57 ⟨rfl, rfl⟩
theorem usy_37_57 {Q : List am_V → am_M → Prop} {m : am_M}   (H : Q [] m) : ok 1 25 0 [some (.inl 37), some (.inl 57)] [] m Q := by
  refine ok_sg (pc' := 9) (ls' := [some (.inl 37), some (.inl 57)]) (st' := []) (m' := m) (fun fx hfx o hk => ?_) ?_
  · refine r_ld (pc' := 1) hM_25 d_25_0 rfl rfl ?_
    refine r_ld (pc' := 2) hM_25 d_25_1 rfl rfl ?_
    refine r_k (pc' := 5) (v := .inr (.inr (some 4000))) hM_25 d_25_2 rfl (by decide +kernel) ?_
    refine r_cl (pc' := 8) (c := (26, 2)) (a := [.inl 37, .inl 57, .inr (.inr (some 4000))]) (q := []) hM_25 d_25_5 rfl (by decide +kernel) hM_26 rfl rfl rfl (Nat.le_of_ble_eq_true rfl) (Nat.le_of_ble_eq_true rfl) (Or.inl rfl) (ok_rnk (sx_37_57 (m := m)) hfx) (Nat.le_of_ble_eq_true rfl) ?_
    show rn fx 1 (0, 0) 25 8 [some (.inl 37), some (.inl 57)] [.inl 37] (st0 m) o
    refine r_stk (pc' := 9) (st' := []) hM_25 d_25_8 rfl rfl ?_
    exact hk
  exact ok_rt (fun fx _ => rt_v hM_25 d_25_9 rfl) H
theorem sy_37_57 {m : am_M} : ok 1 25 0 (am_ent 2 [.inl 37, .inl 57]) [] m (fun rr m' => rr = [] ∧ m' = m) := usy_37_57 ⟨rfl, rfl⟩
theorem usy_38_57 {Q : List am_V → am_M → Prop} {m : am_M}   (H : Q [] m) : ok 1 25 0 [some (.inl 38), some (.inl 57)] [] m Q := by
  refine ok_sg (pc' := 9) (ls' := [some (.inl 38), some (.inl 57)]) (st' := []) (m' := m) (fun fx hfx o hk => ?_) ?_
  · refine r_ld (pc' := 1) hM_25 d_25_0 rfl rfl ?_
    refine r_ld (pc' := 2) hM_25 d_25_1 rfl rfl ?_
    refine r_k (pc' := 5) (v := .inr (.inr (some 4000))) hM_25 d_25_2 rfl (by decide +kernel) ?_
    refine r_cl (pc' := 8) (c := (26, 2)) (a := [.inl 38, .inl 57, .inr (.inr (some 4000))]) (q := []) hM_25 d_25_5 rfl (by decide +kernel) hM_26 rfl rfl rfl (Nat.le_of_ble_eq_true rfl) (Nat.le_of_ble_eq_true rfl) (Or.inl rfl) (ok_rnk (sx_38_57 (m := m)) hfx) (Nat.le_of_ble_eq_true rfl) ?_
    show rn fx 1 (0, 0) 25 8 [some (.inl 38), some (.inl 57)] [.inl 38] (st0 m) o
    refine r_stk (pc' := 9) (st' := []) hM_25 d_25_8 rfl rfl ?_
    exact hk
  exact ok_rt (fun fx _ => rt_v hM_25 d_25_9 rfl) H
theorem sy_38_57 {m : am_M} : ok 1 25 0 (am_ent 2 [.inl 38, .inl 57]) [] m (fun rr m' => rr = [] ∧ m' = m) := usy_38_57 ⟨rfl, rfl⟩
theorem usy_39_57 {Q : List am_V → am_M → Prop} {m : am_M}   (H : Q [] m) : ok 1 25 0 [some (.inl 39), some (.inl 57)] [] m Q := by
  refine ok_sg (pc' := 9) (ls' := [some (.inl 39), some (.inl 57)]) (st' := []) (m' := m) (fun fx hfx o hk => ?_) ?_
  · refine r_ld (pc' := 1) hM_25 d_25_0 rfl rfl ?_
    refine r_ld (pc' := 2) hM_25 d_25_1 rfl rfl ?_
    refine r_k (pc' := 5) (v := .inr (.inr (some 4000))) hM_25 d_25_2 rfl (by decide +kernel) ?_
    refine r_cl (pc' := 8) (c := (26, 2)) (a := [.inl 39, .inl 57, .inr (.inr (some 4000))]) (q := []) hM_25 d_25_5 rfl (by decide +kernel) hM_26 rfl rfl rfl (Nat.le_of_ble_eq_true rfl) (Nat.le_of_ble_eq_true rfl) (Or.inl rfl) (ok_rnk (sx_39_57 (m := m)) hfx) (Nat.le_of_ble_eq_true rfl) ?_
    show rn fx 1 (0, 0) 25 8 [some (.inl 39), some (.inl 57)] [.inl 39] (st0 m) o
    refine r_stk (pc' := 9) (st' := []) hM_25 d_25_8 rfl rfl ?_
    exact hk
  exact ok_rt (fun fx _ => rt_v hM_25 d_25_9 rfl) H
theorem sy_39_57 {m : am_M} : ok 1 25 0 (am_ent 2 [.inl 39, .inl 57]) [] m (fun rr m' => rr = [] ∧ m' = m) := usy_39_57 ⟨rfl, rfl⟩
theorem usy_40_57 {Q : List am_V → am_M → Prop} {m : am_M}   (H : Q [] m) : ok 1 25 0 [some (.inl 40), some (.inl 57)] [] m Q := by
  refine ok_sg (pc' := 9) (ls' := [some (.inl 40), some (.inl 57)]) (st' := []) (m' := m) (fun fx hfx o hk => ?_) ?_
  · refine r_ld (pc' := 1) hM_25 d_25_0 rfl rfl ?_
    refine r_ld (pc' := 2) hM_25 d_25_1 rfl rfl ?_
    refine r_k (pc' := 5) (v := .inr (.inr (some 4000))) hM_25 d_25_2 rfl (by decide +kernel) ?_
    refine r_cl (pc' := 8) (c := (26, 2)) (a := [.inl 40, .inl 57, .inr (.inr (some 4000))]) (q := []) hM_25 d_25_5 rfl (by decide +kernel) hM_26 rfl rfl rfl (Nat.le_of_ble_eq_true rfl) (Nat.le_of_ble_eq_true rfl) (Or.inl rfl) (ok_rnk (sx_40_57 (m := m)) hfx) (Nat.le_of_ble_eq_true rfl) ?_
    show rn fx 1 (0, 0) 25 8 [some (.inl 40), some (.inl 57)] [.inl 40] (st0 m) o
    refine r_stk (pc' := 9) (st' := []) hM_25 d_25_8 rfl rfl ?_
    exact hk
  exact ok_rt (fun fx _ => rt_v hM_25 d_25_9 rfl) H
theorem sy_40_57 {m : am_M} : ok 1 25 0 (am_ent 2 [.inl 40, .inl 57]) [] m (fun rr m' => rr = [] ∧ m' = m) := usy_40_57 ⟨rfl, rfl⟩
theorem usy_41_57 {Q : List am_V → am_M → Prop} {m : am_M}   (H : Q [] m) : ok 1 25 0 [some (.inl 41), some (.inl 57)] [] m Q := by
  refine ok_sg (pc' := 9) (ls' := [some (.inl 41), some (.inl 57)]) (st' := []) (m' := m) (fun fx hfx o hk => ?_) ?_
  · refine r_ld (pc' := 1) hM_25 d_25_0 rfl rfl ?_
    refine r_ld (pc' := 2) hM_25 d_25_1 rfl rfl ?_
    refine r_k (pc' := 5) (v := .inr (.inr (some 4000))) hM_25 d_25_2 rfl (by decide +kernel) ?_
    refine r_cl (pc' := 8) (c := (26, 2)) (a := [.inl 41, .inl 57, .inr (.inr (some 4000))]) (q := []) hM_25 d_25_5 rfl (by decide +kernel) hM_26 rfl rfl rfl (Nat.le_of_ble_eq_true rfl) (Nat.le_of_ble_eq_true rfl) (Or.inl rfl) (ok_rnk (sx_41_57 (m := m)) hfx) (Nat.le_of_ble_eq_true rfl) ?_
    show rn fx 1 (0, 0) 25 8 [some (.inl 41), some (.inl 57)] [.inl 41] (st0 m) o
    refine r_stk (pc' := 9) (st' := []) hM_25 d_25_8 rfl rfl ?_
    exact hk
  exact ok_rt (fun fx _ => rt_v hM_25 d_25_9 rfl) H
theorem sy_41_57 {m : am_M} : ok 1 25 0 (am_ent 2 [.inl 41, .inl 57]) [] m (fun rr m' => rr = [] ∧ m' = m) := usy_41_57 ⟨rfl, rfl⟩
theorem usy_42_57 {Q : List am_V → am_M → Prop} {m : am_M}   (H : Q [] m) : ok 1 25 0 [some (.inl 42), some (.inl 57)] [] m Q := by
  refine ok_sg (pc' := 9) (ls' := [some (.inl 42), some (.inl 57)]) (st' := []) (m' := m) (fun fx hfx o hk => ?_) ?_
  · refine r_ld (pc' := 1) hM_25 d_25_0 rfl rfl ?_
    refine r_ld (pc' := 2) hM_25 d_25_1 rfl rfl ?_
    refine r_k (pc' := 5) (v := .inr (.inr (some 4000))) hM_25 d_25_2 rfl (by decide +kernel) ?_
    refine r_cl (pc' := 8) (c := (26, 2)) (a := [.inl 42, .inl 57, .inr (.inr (some 4000))]) (q := []) hM_25 d_25_5 rfl (by decide +kernel) hM_26 rfl rfl rfl (Nat.le_of_ble_eq_true rfl) (Nat.le_of_ble_eq_true rfl) (Or.inl rfl) (ok_rnk (sx_42_57 (m := m)) hfx) (Nat.le_of_ble_eq_true rfl) ?_
    show rn fx 1 (0, 0) 25 8 [some (.inl 42), some (.inl 57)] [.inl 42] (st0 m) o
    refine r_stk (pc' := 9) (st' := []) hM_25 d_25_8 rfl rfl ?_
    exact hk
  exact ok_rt (fun fx _ => rt_v hM_25 d_25_9 rfl) H
theorem sy_42_57 {m : am_M} : ok 1 25 0 (am_ent 2 [.inl 42, .inl 57]) [] m (fun rr m' => rr = [] ∧ m' = m) := usy_42_57 ⟨rfl, rfl⟩
theorem usy_43_57 {Q : List am_V → am_M → Prop} {m : am_M}   (H : Q [] m) : ok 1 25 0 [some (.inl 43), some (.inl 57)] [] m Q := by
  refine ok_sg (pc' := 9) (ls' := [some (.inl 43), some (.inl 57)]) (st' := []) (m' := m) (fun fx hfx o hk => ?_) ?_
  · refine r_ld (pc' := 1) hM_25 d_25_0 rfl rfl ?_
    refine r_ld (pc' := 2) hM_25 d_25_1 rfl rfl ?_
    refine r_k (pc' := 5) (v := .inr (.inr (some 4000))) hM_25 d_25_2 rfl (by decide +kernel) ?_
    refine r_cl (pc' := 8) (c := (26, 2)) (a := [.inl 43, .inl 57, .inr (.inr (some 4000))]) (q := []) hM_25 d_25_5 rfl (by decide +kernel) hM_26 rfl rfl rfl (Nat.le_of_ble_eq_true rfl) (Nat.le_of_ble_eq_true rfl) (Or.inl rfl) (ok_rnk (sx_43_57 (m := m)) hfx) (Nat.le_of_ble_eq_true rfl) ?_
    show rn fx 1 (0, 0) 25 8 [some (.inl 43), some (.inl 57)] [.inl 43] (st0 m) o
    refine r_stk (pc' := 9) (st' := []) hM_25 d_25_8 rfl rfl ?_
    exact hk
  exact ok_rt (fun fx _ => rt_v hM_25 d_25_9 rfl) H
theorem sy_43_57 {m : am_M} : ok 1 25 0 (am_ent 2 [.inl 43, .inl 57]) [] m (fun rr m' => rr = [] ∧ m' = m) := usy_43_57 ⟨rfl, rfl⟩
theorem usy_44_57 {Q : List am_V → am_M → Prop} {m : am_M}   (H : Q [] m) : ok 1 25 0 [some (.inl 44), some (.inl 57)] [] m Q := by
  refine ok_sg (pc' := 9) (ls' := [some (.inl 44), some (.inl 57)]) (st' := []) (m' := m) (fun fx hfx o hk => ?_) ?_
  · refine r_ld (pc' := 1) hM_25 d_25_0 rfl rfl ?_
    refine r_ld (pc' := 2) hM_25 d_25_1 rfl rfl ?_
    refine r_k (pc' := 5) (v := .inr (.inr (some 4000))) hM_25 d_25_2 rfl (by decide +kernel) ?_
    refine r_cl (pc' := 8) (c := (26, 2)) (a := [.inl 44, .inl 57, .inr (.inr (some 4000))]) (q := []) hM_25 d_25_5 rfl (by decide +kernel) hM_26 rfl rfl rfl (Nat.le_of_ble_eq_true rfl) (Nat.le_of_ble_eq_true rfl) (Or.inl rfl) (ok_rnk (sx_44_57 (m := m)) hfx) (Nat.le_of_ble_eq_true rfl) ?_
    show rn fx 1 (0, 0) 25 8 [some (.inl 44), some (.inl 57)] [.inl 44] (st0 m) o
    refine r_stk (pc' := 9) (st' := []) hM_25 d_25_8 rfl rfl ?_
    exact hk
  exact ok_rt (fun fx _ => rt_v hM_25 d_25_9 rfl) H
theorem sy_44_57 {m : am_M} : ok 1 25 0 (am_ent 2 [.inl 44, .inl 57]) [] m (fun rr m' => rr = [] ∧ m' = m) := usy_44_57 ⟨rfl, rfl⟩
theorem usy_45_57 {Q : List am_V → am_M → Prop} {m : am_M}   (H : Q [] m) : ok 1 25 0 [some (.inl 45), some (.inl 57)] [] m Q := by
  refine ok_sg (pc' := 9) (ls' := [some (.inl 45), some (.inl 57)]) (st' := []) (m' := m) (fun fx hfx o hk => ?_) ?_
  · refine r_ld (pc' := 1) hM_25 d_25_0 rfl rfl ?_
    refine r_ld (pc' := 2) hM_25 d_25_1 rfl rfl ?_
    refine r_k (pc' := 5) (v := .inr (.inr (some 4000))) hM_25 d_25_2 rfl (by decide +kernel) ?_
    refine r_cl (pc' := 8) (c := (26, 2)) (a := [.inl 45, .inl 57, .inr (.inr (some 4000))]) (q := []) hM_25 d_25_5 rfl (by decide +kernel) hM_26 rfl rfl rfl (Nat.le_of_ble_eq_true rfl) (Nat.le_of_ble_eq_true rfl) (Or.inl rfl) (ok_rnk (sx_45_57 (m := m)) hfx) (Nat.le_of_ble_eq_true rfl) ?_
    show rn fx 1 (0, 0) 25 8 [some (.inl 45), some (.inl 57)] [.inl 45] (st0 m) o
    refine r_stk (pc' := 9) (st' := []) hM_25 d_25_8 rfl rfl ?_
    exact hk
  exact ok_rt (fun fx _ => rt_v hM_25 d_25_9 rfl) H
theorem sy_45_57 {m : am_M} : ok 1 25 0 (am_ent 2 [.inl 45, .inl 57]) [] m (fun rr m' => rr = [] ∧ m' = m) := usy_45_57 ⟨rfl, rfl⟩
theorem usy_46_57 {Q : List am_V → am_M → Prop} {m : am_M}   (H : Q [] m) : ok 1 25 0 [some (.inl 46), some (.inl 57)] [] m Q := by
  refine ok_sg (pc' := 9) (ls' := [some (.inl 46), some (.inl 57)]) (st' := []) (m' := m) (fun fx hfx o hk => ?_) ?_
  · refine r_ld (pc' := 1) hM_25 d_25_0 rfl rfl ?_
    refine r_ld (pc' := 2) hM_25 d_25_1 rfl rfl ?_
    refine r_k (pc' := 5) (v := .inr (.inr (some 4000))) hM_25 d_25_2 rfl (by decide +kernel) ?_
    refine r_cl (pc' := 8) (c := (26, 2)) (a := [.inl 46, .inl 57, .inr (.inr (some 4000))]) (q := []) hM_25 d_25_5 rfl (by decide +kernel) hM_26 rfl rfl rfl (Nat.le_of_ble_eq_true rfl) (Nat.le_of_ble_eq_true rfl) (Or.inl rfl) (ok_rnk (sx_46_57 (m := m)) hfx) (Nat.le_of_ble_eq_true rfl) ?_
    show rn fx 1 (0, 0) 25 8 [some (.inl 46), some (.inl 57)] [.inl 46] (st0 m) o
    refine r_stk (pc' := 9) (st' := []) hM_25 d_25_8 rfl rfl ?_
    exact hk
  exact ok_rt (fun fx _ => rt_v hM_25 d_25_9 rfl) H
theorem sy_46_57 {m : am_M} : ok 1 25 0 (am_ent 2 [.inl 46, .inl 57]) [] m (fun rr m' => rr = [] ∧ m' = m) := usy_46_57 ⟨rfl, rfl⟩
theorem usy_47_57 {Q : List am_V → am_M → Prop} {m : am_M}   (H : Q [] m) : ok 1 25 0 [some (.inl 47), some (.inl 57)] [] m Q := by
  refine ok_sg (pc' := 9) (ls' := [some (.inl 47), some (.inl 57)]) (st' := []) (m' := m) (fun fx hfx o hk => ?_) ?_
  · refine r_ld (pc' := 1) hM_25 d_25_0 rfl rfl ?_
    refine r_ld (pc' := 2) hM_25 d_25_1 rfl rfl ?_
    refine r_k (pc' := 5) (v := .inr (.inr (some 4000))) hM_25 d_25_2 rfl (by decide +kernel) ?_
    refine r_cl (pc' := 8) (c := (26, 2)) (a := [.inl 47, .inl 57, .inr (.inr (some 4000))]) (q := []) hM_25 d_25_5 rfl (by decide +kernel) hM_26 rfl rfl rfl (Nat.le_of_ble_eq_true rfl) (Nat.le_of_ble_eq_true rfl) (Or.inl rfl) (ok_rnk (sx_47_57 (m := m)) hfx) (Nat.le_of_ble_eq_true rfl) ?_
    show rn fx 1 (0, 0) 25 8 [some (.inl 47), some (.inl 57)] [.inl 47] (st0 m) o
    refine r_stk (pc' := 9) (st' := []) hM_25 d_25_8 rfl rfl ?_
    exact hk
  exact ok_rt (fun fx _ => rt_v hM_25 d_25_9 rfl) H
theorem sy_47_57 {m : am_M} : ok 1 25 0 (am_ent 2 [.inl 47, .inl 57]) [] m (fun rr m' => rr = [] ∧ m' = m) := usy_47_57 ⟨rfl, rfl⟩
theorem usy_48_57 {Q : List am_V → am_M → Prop} {m : am_M}   (H : Q [] m) : ok 1 25 0 [some (.inl 48), some (.inl 57)] [] m Q := by
  refine ok_sg (pc' := 9) (ls' := [some (.inl 48), some (.inl 57)]) (st' := []) (m' := m) (fun fx hfx o hk => ?_) ?_
  · refine r_ld (pc' := 1) hM_25 d_25_0 rfl rfl ?_
    refine r_ld (pc' := 2) hM_25 d_25_1 rfl rfl ?_
    refine r_k (pc' := 5) (v := .inr (.inr (some 4000))) hM_25 d_25_2 rfl (by decide +kernel) ?_
    refine r_cl (pc' := 8) (c := (26, 2)) (a := [.inl 48, .inl 57, .inr (.inr (some 4000))]) (q := []) hM_25 d_25_5 rfl (by decide +kernel) hM_26 rfl rfl rfl (Nat.le_of_ble_eq_true rfl) (Nat.le_of_ble_eq_true rfl) (Or.inl rfl) (ok_rnk (sx_48_57 (m := m)) hfx) (Nat.le_of_ble_eq_true rfl) ?_
    show rn fx 1 (0, 0) 25 8 [some (.inl 48), some (.inl 57)] [.inl 48] (st0 m) o
    refine r_stk (pc' := 9) (st' := []) hM_25 d_25_8 rfl rfl ?_
    exact hk
  exact ok_rt (fun fx _ => rt_v hM_25 d_25_9 rfl) H
theorem sy_48_57 {m : am_M} : ok 1 25 0 (am_ent 2 [.inl 48, .inl 57]) [] m (fun rr m' => rr = [] ∧ m' = m) := usy_48_57 ⟨rfl, rfl⟩
theorem usy_49_57 {Q : List am_V → am_M → Prop} {m : am_M}   (H : Q [] m) : ok 1 25 0 [some (.inl 49), some (.inl 57)] [] m Q := by
  refine ok_sg (pc' := 9) (ls' := [some (.inl 49), some (.inl 57)]) (st' := []) (m' := m) (fun fx hfx o hk => ?_) ?_
  · refine r_ld (pc' := 1) hM_25 d_25_0 rfl rfl ?_
    refine r_ld (pc' := 2) hM_25 d_25_1 rfl rfl ?_
    refine r_k (pc' := 5) (v := .inr (.inr (some 4000))) hM_25 d_25_2 rfl (by decide +kernel) ?_
    refine r_cl (pc' := 8) (c := (26, 2)) (a := [.inl 49, .inl 57, .inr (.inr (some 4000))]) (q := []) hM_25 d_25_5 rfl (by decide +kernel) hM_26 rfl rfl rfl (Nat.le_of_ble_eq_true rfl) (Nat.le_of_ble_eq_true rfl) (Or.inl rfl) (ok_rnk (sx_49_57 (m := m)) hfx) (Nat.le_of_ble_eq_true rfl) ?_
    show rn fx 1 (0, 0) 25 8 [some (.inl 49), some (.inl 57)] [.inl 49] (st0 m) o
    refine r_stk (pc' := 9) (st' := []) hM_25 d_25_8 rfl rfl ?_
    exact hk
  exact ok_rt (fun fx _ => rt_v hM_25 d_25_9 rfl) H
theorem sy_49_57 {m : am_M} : ok 1 25 0 (am_ent 2 [.inl 49, .inl 57]) [] m (fun rr m' => rr = [] ∧ m' = m) := usy_49_57 ⟨rfl, rfl⟩
theorem usy_50_57 {Q : List am_V → am_M → Prop} {m : am_M}   (H : Q [] m) : ok 1 25 0 [some (.inl 50), some (.inl 57)] [] m Q := by
  refine ok_sg (pc' := 9) (ls' := [some (.inl 50), some (.inl 57)]) (st' := []) (m' := m) (fun fx hfx o hk => ?_) ?_
  · refine r_ld (pc' := 1) hM_25 d_25_0 rfl rfl ?_
    refine r_ld (pc' := 2) hM_25 d_25_1 rfl rfl ?_
    refine r_k (pc' := 5) (v := .inr (.inr (some 4000))) hM_25 d_25_2 rfl (by decide +kernel) ?_
    refine r_cl (pc' := 8) (c := (26, 2)) (a := [.inl 50, .inl 57, .inr (.inr (some 4000))]) (q := []) hM_25 d_25_5 rfl (by decide +kernel) hM_26 rfl rfl rfl (Nat.le_of_ble_eq_true rfl) (Nat.le_of_ble_eq_true rfl) (Or.inl rfl) (ok_rnk (sx_50_57 (m := m)) hfx) (Nat.le_of_ble_eq_true rfl) ?_
    show rn fx 1 (0, 0) 25 8 [some (.inl 50), some (.inl 57)] [.inl 50] (st0 m) o
    refine r_stk (pc' := 9) (st' := []) hM_25 d_25_8 rfl rfl ?_
    exact hk
  exact ok_rt (fun fx _ => rt_v hM_25 d_25_9 rfl) H
theorem sy_50_57 {m : am_M} : ok 1 25 0 (am_ent 2 [.inl 50, .inl 57]) [] m (fun rr m' => rr = [] ∧ m' = m) := usy_50_57 ⟨rfl, rfl⟩
theorem usy_51_57 {Q : List am_V → am_M → Prop} {m : am_M}   (H : Q [] m) : ok 1 25 0 [some (.inl 51), some (.inl 57)] [] m Q := by
  refine ok_sg (pc' := 9) (ls' := [some (.inl 51), some (.inl 57)]) (st' := []) (m' := m) (fun fx hfx o hk => ?_) ?_
  · refine r_ld (pc' := 1) hM_25 d_25_0 rfl rfl ?_
    refine r_ld (pc' := 2) hM_25 d_25_1 rfl rfl ?_
    refine r_k (pc' := 5) (v := .inr (.inr (some 4000))) hM_25 d_25_2 rfl (by decide +kernel) ?_
    refine r_cl (pc' := 8) (c := (26, 2)) (a := [.inl 51, .inl 57, .inr (.inr (some 4000))]) (q := []) hM_25 d_25_5 rfl (by decide +kernel) hM_26 rfl rfl rfl (Nat.le_of_ble_eq_true rfl) (Nat.le_of_ble_eq_true rfl) (Or.inl rfl) (ok_rnk (sx_51_57 (m := m)) hfx) (Nat.le_of_ble_eq_true rfl) ?_
    show rn fx 1 (0, 0) 25 8 [some (.inl 51), some (.inl 57)] [.inl 51] (st0 m) o
    refine r_stk (pc' := 9) (st' := []) hM_25 d_25_8 rfl rfl ?_
    exact hk
  exact ok_rt (fun fx _ => rt_v hM_25 d_25_9 rfl) H
theorem sy_51_57 {m : am_M} : ok 1 25 0 (am_ent 2 [.inl 51, .inl 57]) [] m (fun rr m' => rr = [] ∧ m' = m) := usy_51_57 ⟨rfl, rfl⟩
theorem usy_52_57 {Q : List am_V → am_M → Prop} {m : am_M}   (H : Q [] m) : ok 1 25 0 [some (.inl 52), some (.inl 57)] [] m Q := by
  refine ok_sg (pc' := 9) (ls' := [some (.inl 52), some (.inl 57)]) (st' := []) (m' := m) (fun fx hfx o hk => ?_) ?_
  · refine r_ld (pc' := 1) hM_25 d_25_0 rfl rfl ?_
    refine r_ld (pc' := 2) hM_25 d_25_1 rfl rfl ?_
    refine r_k (pc' := 5) (v := .inr (.inr (some 4000))) hM_25 d_25_2 rfl (by decide +kernel) ?_
    refine r_cl (pc' := 8) (c := (26, 2)) (a := [.inl 52, .inl 57, .inr (.inr (some 4000))]) (q := []) hM_25 d_25_5 rfl (by decide +kernel) hM_26 rfl rfl rfl (Nat.le_of_ble_eq_true rfl) (Nat.le_of_ble_eq_true rfl) (Or.inl rfl) (ok_rnk (sx_52_57 (m := m)) hfx) (Nat.le_of_ble_eq_true rfl) ?_
    show rn fx 1 (0, 0) 25 8 [some (.inl 52), some (.inl 57)] [.inl 52] (st0 m) o
    refine r_stk (pc' := 9) (st' := []) hM_25 d_25_8 rfl rfl ?_
    exact hk
  exact ok_rt (fun fx _ => rt_v hM_25 d_25_9 rfl) H
theorem sy_52_57 {m : am_M} : ok 1 25 0 (am_ent 2 [.inl 52, .inl 57]) [] m (fun rr m' => rr = [] ∧ m' = m) := usy_52_57 ⟨rfl, rfl⟩
theorem usy_53_57 {Q : List am_V → am_M → Prop} {m : am_M}   (H : Q [] m) : ok 1 25 0 [some (.inl 53), some (.inl 57)] [] m Q := by
  refine ok_sg (pc' := 9) (ls' := [some (.inl 53), some (.inl 57)]) (st' := []) (m' := m) (fun fx hfx o hk => ?_) ?_
  · refine r_ld (pc' := 1) hM_25 d_25_0 rfl rfl ?_
    refine r_ld (pc' := 2) hM_25 d_25_1 rfl rfl ?_
    refine r_k (pc' := 5) (v := .inr (.inr (some 4000))) hM_25 d_25_2 rfl (by decide +kernel) ?_
    refine r_cl (pc' := 8) (c := (26, 2)) (a := [.inl 53, .inl 57, .inr (.inr (some 4000))]) (q := []) hM_25 d_25_5 rfl (by decide +kernel) hM_26 rfl rfl rfl (Nat.le_of_ble_eq_true rfl) (Nat.le_of_ble_eq_true rfl) (Or.inl rfl) (ok_rnk (sx_53_57 (m := m)) hfx) (Nat.le_of_ble_eq_true rfl) ?_
    show rn fx 1 (0, 0) 25 8 [some (.inl 53), some (.inl 57)] [.inl 53] (st0 m) o
    refine r_stk (pc' := 9) (st' := []) hM_25 d_25_8 rfl rfl ?_
    exact hk
  exact ok_rt (fun fx _ => rt_v hM_25 d_25_9 rfl) H
theorem sy_53_57 {m : am_M} : ok 1 25 0 (am_ent 2 [.inl 53, .inl 57]) [] m (fun rr m' => rr = [] ∧ m' = m) := usy_53_57 ⟨rfl, rfl⟩
theorem usy_54_57 {Q : List am_V → am_M → Prop} {m : am_M}   (H : Q [] m) : ok 1 25 0 [some (.inl 54), some (.inl 57)] [] m Q := by
  refine ok_sg (pc' := 9) (ls' := [some (.inl 54), some (.inl 57)]) (st' := []) (m' := m) (fun fx hfx o hk => ?_) ?_
  · refine r_ld (pc' := 1) hM_25 d_25_0 rfl rfl ?_
    refine r_ld (pc' := 2) hM_25 d_25_1 rfl rfl ?_
    refine r_k (pc' := 5) (v := .inr (.inr (some 4000))) hM_25 d_25_2 rfl (by decide +kernel) ?_
    refine r_cl (pc' := 8) (c := (26, 2)) (a := [.inl 54, .inl 57, .inr (.inr (some 4000))]) (q := []) hM_25 d_25_5 rfl (by decide +kernel) hM_26 rfl rfl rfl (Nat.le_of_ble_eq_true rfl) (Nat.le_of_ble_eq_true rfl) (Or.inl rfl) (ok_rnk (sx_54_57 (m := m)) hfx) (Nat.le_of_ble_eq_true rfl) ?_
    show rn fx 1 (0, 0) 25 8 [some (.inl 54), some (.inl 57)] [.inl 54] (st0 m) o
    refine r_stk (pc' := 9) (st' := []) hM_25 d_25_8 rfl rfl ?_
    exact hk
  exact ok_rt (fun fx _ => rt_v hM_25 d_25_9 rfl) H
theorem sy_54_57 {m : am_M} : ok 1 25 0 (am_ent 2 [.inl 54, .inl 57]) [] m (fun rr m' => rr = [] ∧ m' = m) := usy_54_57 ⟨rfl, rfl⟩
theorem usy_55_57 {Q : List am_V → am_M → Prop} {m : am_M}   (H : Q [] m) : ok 1 25 0 [some (.inl 55), some (.inl 57)] [] m Q := by
  refine ok_sg (pc' := 9) (ls' := [some (.inl 55), some (.inl 57)]) (st' := []) (m' := m) (fun fx hfx o hk => ?_) ?_
  · refine r_ld (pc' := 1) hM_25 d_25_0 rfl rfl ?_
    refine r_ld (pc' := 2) hM_25 d_25_1 rfl rfl ?_
    refine r_k (pc' := 5) (v := .inr (.inr (some 4000))) hM_25 d_25_2 rfl (by decide +kernel) ?_
    refine r_cl (pc' := 8) (c := (26, 2)) (a := [.inl 55, .inl 57, .inr (.inr (some 4000))]) (q := []) hM_25 d_25_5 rfl (by decide +kernel) hM_26 rfl rfl rfl (Nat.le_of_ble_eq_true rfl) (Nat.le_of_ble_eq_true rfl) (Or.inl rfl) (ok_rnk (sx_55_57 (m := m)) hfx) (Nat.le_of_ble_eq_true rfl) ?_
    show rn fx 1 (0, 0) 25 8 [some (.inl 55), some (.inl 57)] [.inl 55] (st0 m) o
    refine r_stk (pc' := 9) (st' := []) hM_25 d_25_8 rfl rfl ?_
    exact hk
  exact ok_rt (fun fx _ => rt_v hM_25 d_25_9 rfl) H
theorem sy_55_57 {m : am_M} : ok 1 25 0 (am_ent 2 [.inl 55, .inl 57]) [] m (fun rr m' => rr = [] ∧ m' = m) := usy_55_57 ⟨rfl, rfl⟩
theorem usy_56_57 {Q : List am_V → am_M → Prop} {m : am_M}   (H : Q [] m) : ok 1 25 0 [some (.inl 56), some (.inl 57)] [] m Q := by
  refine ok_sg (pc' := 9) (ls' := [some (.inl 56), some (.inl 57)]) (st' := []) (m' := m) (fun fx hfx o hk => ?_) ?_
  · refine r_ld (pc' := 1) hM_25 d_25_0 rfl rfl ?_
    refine r_ld (pc' := 2) hM_25 d_25_1 rfl rfl ?_
    refine r_k (pc' := 5) (v := .inr (.inr (some 4000))) hM_25 d_25_2 rfl (by decide +kernel) ?_
    refine r_cl (pc' := 8) (c := (26, 2)) (a := [.inl 56, .inl 57, .inr (.inr (some 4000))]) (q := []) hM_25 d_25_5 rfl (by decide +kernel) hM_26 rfl rfl rfl (Nat.le_of_ble_eq_true rfl) (Nat.le_of_ble_eq_true rfl) (Or.inl rfl) (ok_rnk (sx_56_57 (m := m)) hfx) (Nat.le_of_ble_eq_true rfl) ?_
    show rn fx 1 (0, 0) 25 8 [some (.inl 56), some (.inl 57)] [.inl 56] (st0 m) o
    refine r_stk (pc' := 9) (st' := []) hM_25 d_25_8 rfl rfl ?_
    exact hk
  exact ok_rt (fun fx _ => rt_v hM_25 d_25_9 rfl) H
theorem sy_56_57 {m : am_M} : ok 1 25 0 (am_ent 2 [.inl 56, .inl 57]) [] m (fun rr m' => rr = [] ∧ m' = m) := usy_56_57 ⟨rfl, rfl⟩
theorem usb_0_0 {Q : List am_V → am_M → Prop} {m : am_M}   (H : Q [.inl 108] m) : ok 2 24 0 [some (.inr (.inr (some 3000))), some (.inl 0)] [] m Q := by
  refine ok_sg (pc' := 14) (ls' := [some (.inr (.inr (some 3000))), some (.inl 0)]) (st' := [.inl 108]) (m' := m) (fun fx hfx o hk => ?_) ?_
  · refine r_ld (pc' := 1) hM_24 d_24_0 rfl rfl ?_
    refine r_ld (pc' := 2) hM_24 d_24_1 rfl rfl ?_
    refine r_alF (pc' := 3) (n := 3) hM_24 d_24_2 rfl (by decide) (hfx.2.2 0 (by decide)) (by decide) ?_
    refine r_cl (pc' := 6) (c := (25, 2)) (a := [.inl 0, .inl 3]) (q := []) hM_24 d_24_3 rfl (by decide +kernel) hM_25 rfl rfl rfl (Nat.le_of_ble_eq_true rfl) (Nat.le_of_ble_eq_true rfl) (Or.inl rfl) (ok_rnk (sy_0_3 (m := m)) hfx) (Nat.le_of_ble_eq_true rfl) ?_
    show rn fx 2 (0, 0) 24 6 [some (.inr (.inr (some 3000))), some (.inl 0)] [] (st0 m) o
    refine r_ld (pc' := 7) hM_24 d_24_6 rfl rfl ?_
    refine r_ld (pc' := 8) hM_24 d_24_7 rfl rfl ?_
    refine r_baFk (pc' := 9) (n := 3) (z := 108) hM_24 d_24_8 rfl (by decide) (hfx.2.2 0 (by decide)) (by decide) (by decide +kernel) ?_
    refine r_k (pc' := 12) (v := .inl 255) hM_24 d_24_9 rfl rfl ?_
    refine r_b (pc' := 13) (z := 108) hM_24 d_24_12 rfl (by decide +kernel) ?_
    refine r_stk (pc' := 14) (st' := [.inl 108]) hM_24 d_24_13 rfl (by decide +kernel) ?_
    exact hk
  exact ok_rt (fun fx _ => rt_n hM_24 d_24_14 rfl (by decide) (by decide +kernel)) H
theorem sb_0_0 {m : am_M} : ok 2 24 0 (am_ent 2 [.inr (.inr (some 3000)), .inl 0]) [] m (fun rr m' => rr = [.inl 108] ∧ m' = m) := usb_0_0 ⟨rfl, rfl⟩
theorem usb_0_1 {Q : List am_V → am_M → Prop} {m : am_M}   (H : Q [.inl 111] m) : ok 2 24 0 [some (.inr (.inr (some 3000))), some (.inl 1)] [] m Q := by
  refine ok_sg (pc' := 14) (ls' := [some (.inr (.inr (some 3000))), some (.inl 1)]) (st' := [.inl 111]) (m' := m) (fun fx hfx o hk => ?_) ?_
  · refine r_ld (pc' := 1) hM_24 d_24_0 rfl rfl ?_
    refine r_ld (pc' := 2) hM_24 d_24_1 rfl rfl ?_
    refine r_alF (pc' := 3) (n := 3) hM_24 d_24_2 rfl (by decide) (hfx.2.2 0 (by decide)) (by decide) ?_
    refine r_cl (pc' := 6) (c := (25, 2)) (a := [.inl 1, .inl 3]) (q := []) hM_24 d_24_3 rfl (by decide +kernel) hM_25 rfl rfl rfl (Nat.le_of_ble_eq_true rfl) (Nat.le_of_ble_eq_true rfl) (Or.inl rfl) (ok_rnk (sy_1_3 (m := m)) hfx) (Nat.le_of_ble_eq_true rfl) ?_
    show rn fx 2 (0, 0) 24 6 [some (.inr (.inr (some 3000))), some (.inl 1)] [] (st0 m) o
    refine r_ld (pc' := 7) hM_24 d_24_6 rfl rfl ?_
    refine r_ld (pc' := 8) hM_24 d_24_7 rfl rfl ?_
    refine r_baFk (pc' := 9) (n := 3) (z := 111) hM_24 d_24_8 rfl (by decide) (hfx.2.2 0 (by decide)) (by decide) (by decide +kernel) ?_
    refine r_k (pc' := 12) (v := .inl 255) hM_24 d_24_9 rfl rfl ?_
    refine r_b (pc' := 13) (z := 111) hM_24 d_24_12 rfl (by decide +kernel) ?_
    refine r_stk (pc' := 14) (st' := [.inl 111]) hM_24 d_24_13 rfl (by decide +kernel) ?_
    exact hk
  exact ok_rt (fun fx _ => rt_n hM_24 d_24_14 rfl (by decide) (by decide +kernel)) H
theorem sb_0_1 {m : am_M} : ok 2 24 0 (am_ent 2 [.inr (.inr (some 3000)), .inl 1]) [] m (fun rr m' => rr = [.inl 111] ∧ m' = m) := usb_0_1 ⟨rfl, rfl⟩
theorem usb_0_2 {Q : List am_V → am_M → Prop} {m : am_M}   (H : Q [.inl 119] m) : ok 2 24 0 [some (.inr (.inr (some 3000))), some (.inl 2)] [] m Q := by
  refine ok_sg (pc' := 14) (ls' := [some (.inr (.inr (some 3000))), some (.inl 2)]) (st' := [.inl 119]) (m' := m) (fun fx hfx o hk => ?_) ?_
  · refine r_ld (pc' := 1) hM_24 d_24_0 rfl rfl ?_
    refine r_ld (pc' := 2) hM_24 d_24_1 rfl rfl ?_
    refine r_alF (pc' := 3) (n := 3) hM_24 d_24_2 rfl (by decide) (hfx.2.2 0 (by decide)) (by decide) ?_
    refine r_cl (pc' := 6) (c := (25, 2)) (a := [.inl 2, .inl 3]) (q := []) hM_24 d_24_3 rfl (by decide +kernel) hM_25 rfl rfl rfl (Nat.le_of_ble_eq_true rfl) (Nat.le_of_ble_eq_true rfl) (Or.inl rfl) (ok_rnk (sy_2_3 (m := m)) hfx) (Nat.le_of_ble_eq_true rfl) ?_
    show rn fx 2 (0, 0) 24 6 [some (.inr (.inr (some 3000))), some (.inl 2)] [] (st0 m) o
    refine r_ld (pc' := 7) hM_24 d_24_6 rfl rfl ?_
    refine r_ld (pc' := 8) hM_24 d_24_7 rfl rfl ?_
    refine r_baFk (pc' := 9) (n := 3) (z := 119) hM_24 d_24_8 rfl (by decide) (hfx.2.2 0 (by decide)) (by decide) (by decide +kernel) ?_
    refine r_k (pc' := 12) (v := .inl 255) hM_24 d_24_9 rfl rfl ?_
    refine r_b (pc' := 13) (z := 119) hM_24 d_24_12 rfl (by decide +kernel) ?_
    refine r_stk (pc' := 14) (st' := [.inl 119]) hM_24 d_24_13 rfl (by decide +kernel) ?_
    exact hk
  exact ok_rt (fun fx _ => rt_n hM_24 d_24_14 rfl (by decide) (by decide +kernel)) H
theorem sb_0_2 {m : am_M} : ok 2 24 0 (am_ent 2 [.inr (.inr (some 3000)), .inl 2]) [] m (fun rr m' => rr = [.inl 119] ∧ m' = m) := usb_0_2 ⟨rfl, rfl⟩
theorem usb_1_0 {Q : List am_V → am_M → Prop} {m : am_M}   (H : Q [.inl 108] m) : ok 2 24 0 [some (.inr (.inr (some 3001))), some (.inl 0)] [] m Q := by
  refine ok_sg (pc' := 14) (ls' := [some (.inr (.inr (some 3001))), some (.inl 0)]) (st' := [.inl 108]) (m' := m) (fun fx hfx o hk => ?_) ?_
  · refine r_ld (pc' := 1) hM_24 d_24_0 rfl rfl ?_
    refine r_ld (pc' := 2) hM_24 d_24_1 rfl rfl ?_
    refine r_alF (pc' := 3) (n := 3) hM_24 d_24_2 rfl (by decide) (hfx.2.2 1 (by decide)) (by decide) ?_
    refine r_cl (pc' := 6) (c := (25, 2)) (a := [.inl 0, .inl 3]) (q := []) hM_24 d_24_3 rfl (by decide +kernel) hM_25 rfl rfl rfl (Nat.le_of_ble_eq_true rfl) (Nat.le_of_ble_eq_true rfl) (Or.inl rfl) (ok_rnk (sy_0_3 (m := m)) hfx) (Nat.le_of_ble_eq_true rfl) ?_
    show rn fx 2 (0, 0) 24 6 [some (.inr (.inr (some 3001))), some (.inl 0)] [] (st0 m) o
    refine r_ld (pc' := 7) hM_24 d_24_6 rfl rfl ?_
    refine r_ld (pc' := 8) hM_24 d_24_7 rfl rfl ?_
    refine r_baFk (pc' := 9) (n := 3) (z := 108) hM_24 d_24_8 rfl (by decide) (hfx.2.2 1 (by decide)) (by decide) (by decide +kernel) ?_
    refine r_k (pc' := 12) (v := .inl 255) hM_24 d_24_9 rfl rfl ?_
    refine r_b (pc' := 13) (z := 108) hM_24 d_24_12 rfl (by decide +kernel) ?_
    refine r_stk (pc' := 14) (st' := [.inl 108]) hM_24 d_24_13 rfl (by decide +kernel) ?_
    exact hk
  exact ok_rt (fun fx _ => rt_n hM_24 d_24_14 rfl (by decide) (by decide +kernel)) H
theorem sb_1_0 {m : am_M} : ok 2 24 0 (am_ent 2 [.inr (.inr (some 3001)), .inl 0]) [] m (fun rr m' => rr = [.inl 108] ∧ m' = m) := usb_1_0 ⟨rfl, rfl⟩
theorem usb_1_1 {Q : List am_V → am_M → Prop} {m : am_M}   (H : Q [.inl 105] m) : ok 2 24 0 [some (.inr (.inr (some 3001))), some (.inl 1)] [] m Q := by
  refine ok_sg (pc' := 14) (ls' := [some (.inr (.inr (some 3001))), some (.inl 1)]) (st' := [.inl 105]) (m' := m) (fun fx hfx o hk => ?_) ?_
  · refine r_ld (pc' := 1) hM_24 d_24_0 rfl rfl ?_
    refine r_ld (pc' := 2) hM_24 d_24_1 rfl rfl ?_
    refine r_alF (pc' := 3) (n := 3) hM_24 d_24_2 rfl (by decide) (hfx.2.2 1 (by decide)) (by decide) ?_
    refine r_cl (pc' := 6) (c := (25, 2)) (a := [.inl 1, .inl 3]) (q := []) hM_24 d_24_3 rfl (by decide +kernel) hM_25 rfl rfl rfl (Nat.le_of_ble_eq_true rfl) (Nat.le_of_ble_eq_true rfl) (Or.inl rfl) (ok_rnk (sy_1_3 (m := m)) hfx) (Nat.le_of_ble_eq_true rfl) ?_
    show rn fx 2 (0, 0) 24 6 [some (.inr (.inr (some 3001))), some (.inl 1)] [] (st0 m) o
    refine r_ld (pc' := 7) hM_24 d_24_6 rfl rfl ?_
    refine r_ld (pc' := 8) hM_24 d_24_7 rfl rfl ?_
    refine r_baFk (pc' := 9) (n := 3) (z := 105) hM_24 d_24_8 rfl (by decide) (hfx.2.2 1 (by decide)) (by decide) (by decide +kernel) ?_
    refine r_k (pc' := 12) (v := .inl 255) hM_24 d_24_9 rfl rfl ?_
    refine r_b (pc' := 13) (z := 105) hM_24 d_24_12 rfl (by decide +kernel) ?_
    refine r_stk (pc' := 14) (st' := [.inl 105]) hM_24 d_24_13 rfl (by decide +kernel) ?_
    exact hk
  exact ok_rt (fun fx _ => rt_n hM_24 d_24_14 rfl (by decide) (by decide +kernel)) H
theorem sb_1_1 {m : am_M} : ok 2 24 0 (am_ent 2 [.inr (.inr (some 3001)), .inl 1]) [] m (fun rr m' => rr = [.inl 105] ∧ m' = m) := usb_1_1 ⟨rfl, rfl⟩
theorem usb_1_2 {Q : List am_V → am_M → Prop} {m : am_M}   (H : Q [.inl 101] m) : ok 2 24 0 [some (.inr (.inr (some 3001))), some (.inl 2)] [] m Q := by
  refine ok_sg (pc' := 14) (ls' := [some (.inr (.inr (some 3001))), some (.inl 2)]) (st' := [.inl 101]) (m' := m) (fun fx hfx o hk => ?_) ?_
  · refine r_ld (pc' := 1) hM_24 d_24_0 rfl rfl ?_
    refine r_ld (pc' := 2) hM_24 d_24_1 rfl rfl ?_
    refine r_alF (pc' := 3) (n := 3) hM_24 d_24_2 rfl (by decide) (hfx.2.2 1 (by decide)) (by decide) ?_
    refine r_cl (pc' := 6) (c := (25, 2)) (a := [.inl 2, .inl 3]) (q := []) hM_24 d_24_3 rfl (by decide +kernel) hM_25 rfl rfl rfl (Nat.le_of_ble_eq_true rfl) (Nat.le_of_ble_eq_true rfl) (Or.inl rfl) (ok_rnk (sy_2_3 (m := m)) hfx) (Nat.le_of_ble_eq_true rfl) ?_
    show rn fx 2 (0, 0) 24 6 [some (.inr (.inr (some 3001))), some (.inl 2)] [] (st0 m) o
    refine r_ld (pc' := 7) hM_24 d_24_6 rfl rfl ?_
    refine r_ld (pc' := 8) hM_24 d_24_7 rfl rfl ?_
    refine r_baFk (pc' := 9) (n := 3) (z := 101) hM_24 d_24_8 rfl (by decide) (hfx.2.2 1 (by decide)) (by decide) (by decide +kernel) ?_
    refine r_k (pc' := 12) (v := .inl 255) hM_24 d_24_9 rfl rfl ?_
    refine r_b (pc' := 13) (z := 101) hM_24 d_24_12 rfl (by decide +kernel) ?_
    refine r_stk (pc' := 14) (st' := [.inl 101]) hM_24 d_24_13 rfl (by decide +kernel) ?_
    exact hk
  exact ok_rt (fun fx _ => rt_n hM_24 d_24_14 rfl (by decide) (by decide +kernel)) H
theorem sb_1_2 {m : am_M} : ok 2 24 0 (am_ent 2 [.inr (.inr (some 3001)), .inl 2]) [] m (fun rr m' => rr = [.inl 101] ∧ m' = m) := usb_1_2 ⟨rfl, rfl⟩
theorem usb_2_0 {Q : List am_V → am_M → Prop} {m : am_M}   (H : Q [.inl 104] m) : ok 2 24 0 [some (.inr (.inr (some 3002))), some (.inl 0)] [] m Q := by
  refine ok_sg (pc' := 14) (ls' := [some (.inr (.inr (some 3002))), some (.inl 0)]) (st' := [.inl 104]) (m' := m) (fun fx hfx o hk => ?_) ?_
  · refine r_ld (pc' := 1) hM_24 d_24_0 rfl rfl ?_
    refine r_ld (pc' := 2) hM_24 d_24_1 rfl rfl ?_
    refine r_alF (pc' := 3) (n := 5) hM_24 d_24_2 rfl (by decide) (hfx.2.2 2 (by decide)) (by decide) ?_
    refine r_cl (pc' := 6) (c := (25, 2)) (a := [.inl 0, .inl 5]) (q := []) hM_24 d_24_3 rfl (by decide +kernel) hM_25 rfl rfl rfl (Nat.le_of_ble_eq_true rfl) (Nat.le_of_ble_eq_true rfl) (Or.inl rfl) (ok_rnk (sy_0_5 (m := m)) hfx) (Nat.le_of_ble_eq_true rfl) ?_
    show rn fx 2 (0, 0) 24 6 [some (.inr (.inr (some 3002))), some (.inl 0)] [] (st0 m) o
    refine r_ld (pc' := 7) hM_24 d_24_6 rfl rfl ?_
    refine r_ld (pc' := 8) hM_24 d_24_7 rfl rfl ?_
    refine r_baFk (pc' := 9) (n := 5) (z := 104) hM_24 d_24_8 rfl (by decide) (hfx.2.2 2 (by decide)) (by decide) (by decide +kernel) ?_
    refine r_k (pc' := 12) (v := .inl 255) hM_24 d_24_9 rfl rfl ?_
    refine r_b (pc' := 13) (z := 104) hM_24 d_24_12 rfl (by decide +kernel) ?_
    refine r_stk (pc' := 14) (st' := [.inl 104]) hM_24 d_24_13 rfl (by decide +kernel) ?_
    exact hk
  exact ok_rt (fun fx _ => rt_n hM_24 d_24_14 rfl (by decide) (by decide +kernel)) H
theorem sb_2_0 {m : am_M} : ok 2 24 0 (am_ent 2 [.inr (.inr (some 3002)), .inl 0]) [] m (fun rr m' => rr = [.inl 104] ∧ m' = m) := usb_2_0 ⟨rfl, rfl⟩
theorem usb_2_1 {Q : List am_V → am_M → Prop} {m : am_M}   (H : Q [.inl 97] m) : ok 2 24 0 [some (.inr (.inr (some 3002))), some (.inl 1)] [] m Q := by
  refine ok_sg (pc' := 14) (ls' := [some (.inr (.inr (some 3002))), some (.inl 1)]) (st' := [.inl 97]) (m' := m) (fun fx hfx o hk => ?_) ?_
  · refine r_ld (pc' := 1) hM_24 d_24_0 rfl rfl ?_
    refine r_ld (pc' := 2) hM_24 d_24_1 rfl rfl ?_
    refine r_alF (pc' := 3) (n := 5) hM_24 d_24_2 rfl (by decide) (hfx.2.2 2 (by decide)) (by decide) ?_
    refine r_cl (pc' := 6) (c := (25, 2)) (a := [.inl 1, .inl 5]) (q := []) hM_24 d_24_3 rfl (by decide +kernel) hM_25 rfl rfl rfl (Nat.le_of_ble_eq_true rfl) (Nat.le_of_ble_eq_true rfl) (Or.inl rfl) (ok_rnk (sy_1_5 (m := m)) hfx) (Nat.le_of_ble_eq_true rfl) ?_
    show rn fx 2 (0, 0) 24 6 [some (.inr (.inr (some 3002))), some (.inl 1)] [] (st0 m) o
    refine r_ld (pc' := 7) hM_24 d_24_6 rfl rfl ?_
    refine r_ld (pc' := 8) hM_24 d_24_7 rfl rfl ?_
    refine r_baFk (pc' := 9) (n := 5) (z := 97) hM_24 d_24_8 rfl (by decide) (hfx.2.2 2 (by decide)) (by decide) (by decide +kernel) ?_
    refine r_k (pc' := 12) (v := .inl 255) hM_24 d_24_9 rfl rfl ?_
    refine r_b (pc' := 13) (z := 97) hM_24 d_24_12 rfl (by decide +kernel) ?_
    refine r_stk (pc' := 14) (st' := [.inl 97]) hM_24 d_24_13 rfl (by decide +kernel) ?_
    exact hk
  exact ok_rt (fun fx _ => rt_n hM_24 d_24_14 rfl (by decide) (by decide +kernel)) H
theorem sb_2_1 {m : am_M} : ok 2 24 0 (am_ent 2 [.inr (.inr (some 3002)), .inl 1]) [] m (fun rr m' => rr = [.inl 97] ∧ m' = m) := usb_2_1 ⟨rfl, rfl⟩
theorem usb_2_2 {Q : List am_V → am_M → Prop} {m : am_M}   (H : Q [.inl 110] m) : ok 2 24 0 [some (.inr (.inr (some 3002))), some (.inl 2)] [] m Q := by
  refine ok_sg (pc' := 14) (ls' := [some (.inr (.inr (some 3002))), some (.inl 2)]) (st' := [.inl 110]) (m' := m) (fun fx hfx o hk => ?_) ?_
  · refine r_ld (pc' := 1) hM_24 d_24_0 rfl rfl ?_
    refine r_ld (pc' := 2) hM_24 d_24_1 rfl rfl ?_
    refine r_alF (pc' := 3) (n := 5) hM_24 d_24_2 rfl (by decide) (hfx.2.2 2 (by decide)) (by decide) ?_
    refine r_cl (pc' := 6) (c := (25, 2)) (a := [.inl 2, .inl 5]) (q := []) hM_24 d_24_3 rfl (by decide +kernel) hM_25 rfl rfl rfl (Nat.le_of_ble_eq_true rfl) (Nat.le_of_ble_eq_true rfl) (Or.inl rfl) (ok_rnk (sy_2_5 (m := m)) hfx) (Nat.le_of_ble_eq_true rfl) ?_
    show rn fx 2 (0, 0) 24 6 [some (.inr (.inr (some 3002))), some (.inl 2)] [] (st0 m) o
    refine r_ld (pc' := 7) hM_24 d_24_6 rfl rfl ?_
    refine r_ld (pc' := 8) hM_24 d_24_7 rfl rfl ?_
    refine r_baFk (pc' := 9) (n := 5) (z := 110) hM_24 d_24_8 rfl (by decide) (hfx.2.2 2 (by decide)) (by decide) (by decide +kernel) ?_
    refine r_k (pc' := 12) (v := .inl 255) hM_24 d_24_9 rfl rfl ?_
    refine r_b (pc' := 13) (z := 110) hM_24 d_24_12 rfl (by decide +kernel) ?_
    refine r_stk (pc' := 14) (st' := [.inl 110]) hM_24 d_24_13 rfl (by decide +kernel) ?_
    exact hk
  exact ok_rt (fun fx _ => rt_n hM_24 d_24_14 rfl (by decide) (by decide +kernel)) H
theorem sb_2_2 {m : am_M} : ok 2 24 0 (am_ent 2 [.inr (.inr (some 3002)), .inl 2]) [] m (fun rr m' => rr = [.inl 110] ∧ m' = m) := usb_2_2 ⟨rfl, rfl⟩
theorem usb_2_3 {Q : List am_V → am_M → Prop} {m : am_M}   (H : Q [.inl 100] m) : ok 2 24 0 [some (.inr (.inr (some 3002))), some (.inl 3)] [] m Q := by
  refine ok_sg (pc' := 14) (ls' := [some (.inr (.inr (some 3002))), some (.inl 3)]) (st' := [.inl 100]) (m' := m) (fun fx hfx o hk => ?_) ?_
  · refine r_ld (pc' := 1) hM_24 d_24_0 rfl rfl ?_
    refine r_ld (pc' := 2) hM_24 d_24_1 rfl rfl ?_
    refine r_alF (pc' := 3) (n := 5) hM_24 d_24_2 rfl (by decide) (hfx.2.2 2 (by decide)) (by decide) ?_
    refine r_cl (pc' := 6) (c := (25, 2)) (a := [.inl 3, .inl 5]) (q := []) hM_24 d_24_3 rfl (by decide +kernel) hM_25 rfl rfl rfl (Nat.le_of_ble_eq_true rfl) (Nat.le_of_ble_eq_true rfl) (Or.inl rfl) (ok_rnk (sy_3_5 (m := m)) hfx) (Nat.le_of_ble_eq_true rfl) ?_
    show rn fx 2 (0, 0) 24 6 [some (.inr (.inr (some 3002))), some (.inl 3)] [] (st0 m) o
    refine r_ld (pc' := 7) hM_24 d_24_6 rfl rfl ?_
    refine r_ld (pc' := 8) hM_24 d_24_7 rfl rfl ?_
    refine r_baFk (pc' := 9) (n := 5) (z := 100) hM_24 d_24_8 rfl (by decide) (hfx.2.2 2 (by decide)) (by decide) (by decide +kernel) ?_
    refine r_k (pc' := 12) (v := .inl 255) hM_24 d_24_9 rfl rfl ?_
    refine r_b (pc' := 13) (z := 100) hM_24 d_24_12 rfl (by decide +kernel) ?_
    refine r_stk (pc' := 14) (st' := [.inl 100]) hM_24 d_24_13 rfl (by decide +kernel) ?_
    exact hk
  exact ok_rt (fun fx _ => rt_n hM_24 d_24_14 rfl (by decide) (by decide +kernel)) H
theorem sb_2_3 {m : am_M} : ok 2 24 0 (am_ent 2 [.inr (.inr (some 3002)), .inl 3]) [] m (fun rr m' => rr = [.inl 100] ∧ m' = m) := usb_2_3 ⟨rfl, rfl⟩
theorem usb_2_4 {Q : List am_V → am_M → Prop} {m : am_M}   (H : Q [.inl 115] m) : ok 2 24 0 [some (.inr (.inr (some 3002))), some (.inl 4)] [] m Q := by
  refine ok_sg (pc' := 14) (ls' := [some (.inr (.inr (some 3002))), some (.inl 4)]) (st' := [.inl 115]) (m' := m) (fun fx hfx o hk => ?_) ?_
  · refine r_ld (pc' := 1) hM_24 d_24_0 rfl rfl ?_
    refine r_ld (pc' := 2) hM_24 d_24_1 rfl rfl ?_
    refine r_alF (pc' := 3) (n := 5) hM_24 d_24_2 rfl (by decide) (hfx.2.2 2 (by decide)) (by decide) ?_
    refine r_cl (pc' := 6) (c := (25, 2)) (a := [.inl 4, .inl 5]) (q := []) hM_24 d_24_3 rfl (by decide +kernel) hM_25 rfl rfl rfl (Nat.le_of_ble_eq_true rfl) (Nat.le_of_ble_eq_true rfl) (Or.inl rfl) (ok_rnk (sy_4_5 (m := m)) hfx) (Nat.le_of_ble_eq_true rfl) ?_
    show rn fx 2 (0, 0) 24 6 [some (.inr (.inr (some 3002))), some (.inl 4)] [] (st0 m) o
    refine r_ld (pc' := 7) hM_24 d_24_6 rfl rfl ?_
    refine r_ld (pc' := 8) hM_24 d_24_7 rfl rfl ?_
    refine r_baFk (pc' := 9) (n := 5) (z := 115) hM_24 d_24_8 rfl (by decide) (hfx.2.2 2 (by decide)) (by decide) (by decide +kernel) ?_
    refine r_k (pc' := 12) (v := .inl 255) hM_24 d_24_9 rfl rfl ?_
    refine r_b (pc' := 13) (z := 115) hM_24 d_24_12 rfl (by decide +kernel) ?_
    refine r_stk (pc' := 14) (st' := [.inl 115]) hM_24 d_24_13 rfl (by decide +kernel) ?_
    exact hk
  exact ok_rt (fun fx _ => rt_n hM_24 d_24_14 rfl (by decide) (by decide +kernel)) H
theorem sb_2_4 {m : am_M} : ok 2 24 0 (am_ent 2 [.inr (.inr (some 3002)), .inl 4]) [] m (fun rr m' => rr = [.inl 115] ∧ m' = m) := usb_2_4 ⟨rfl, rfl⟩
theorem usb_3_0 {Q : List am_V → am_M → Prop} {m : am_M}   (H : Q [.inl 108] m) : ok 2 24 0 [some (.inr (.inr (some 3003))), some (.inl 0)] [] m Q := by
  refine ok_sg (pc' := 14) (ls' := [some (.inr (.inr (some 3003))), some (.inl 0)]) (st' := [.inl 108]) (m' := m) (fun fx hfx o hk => ?_) ?_
  · refine r_ld (pc' := 1) hM_24 d_24_0 rfl rfl ?_
    refine r_ld (pc' := 2) hM_24 d_24_1 rfl rfl ?_
    refine r_alF (pc' := 3) (n := 4) hM_24 d_24_2 rfl (by decide) (hfx.2.2 3 (by decide)) (by decide) ?_
    refine r_cl (pc' := 6) (c := (25, 2)) (a := [.inl 0, .inl 4]) (q := []) hM_24 d_24_3 rfl (by decide +kernel) hM_25 rfl rfl rfl (Nat.le_of_ble_eq_true rfl) (Nat.le_of_ble_eq_true rfl) (Or.inl rfl) (ok_rnk (sy_0_4 (m := m)) hfx) (Nat.le_of_ble_eq_true rfl) ?_
    show rn fx 2 (0, 0) 24 6 [some (.inr (.inr (some 3003))), some (.inl 0)] [] (st0 m) o
    refine r_ld (pc' := 7) hM_24 d_24_6 rfl rfl ?_
    refine r_ld (pc' := 8) hM_24 d_24_7 rfl rfl ?_
    refine r_baFk (pc' := 9) (n := 4) (z := 108) hM_24 d_24_8 rfl (by decide) (hfx.2.2 3 (by decide)) (by decide) (by decide +kernel) ?_
    refine r_k (pc' := 12) (v := .inl 255) hM_24 d_24_9 rfl rfl ?_
    refine r_b (pc' := 13) (z := 108) hM_24 d_24_12 rfl (by decide +kernel) ?_
    refine r_stk (pc' := 14) (st' := [.inl 108]) hM_24 d_24_13 rfl (by decide +kernel) ?_
    exact hk
  exact ok_rt (fun fx _ => rt_n hM_24 d_24_14 rfl (by decide) (by decide +kernel)) H
theorem sb_3_0 {m : am_M} : ok 2 24 0 (am_ent 2 [.inr (.inr (some 3003)), .inl 0]) [] m (fun rr m' => rr = [.inl 108] ∧ m' = m) := usb_3_0 ⟨rfl, rfl⟩
theorem usb_3_1 {Q : List am_V → am_M → Prop} {m : am_M}   (H : Q [.inl 101] m) : ok 2 24 0 [some (.inr (.inr (some 3003))), some (.inl 1)] [] m Q := by
  refine ok_sg (pc' := 14) (ls' := [some (.inr (.inr (some 3003))), some (.inl 1)]) (st' := [.inl 101]) (m' := m) (fun fx hfx o hk => ?_) ?_
  · refine r_ld (pc' := 1) hM_24 d_24_0 rfl rfl ?_
    refine r_ld (pc' := 2) hM_24 d_24_1 rfl rfl ?_
    refine r_alF (pc' := 3) (n := 4) hM_24 d_24_2 rfl (by decide) (hfx.2.2 3 (by decide)) (by decide) ?_
    refine r_cl (pc' := 6) (c := (25, 2)) (a := [.inl 1, .inl 4]) (q := []) hM_24 d_24_3 rfl (by decide +kernel) hM_25 rfl rfl rfl (Nat.le_of_ble_eq_true rfl) (Nat.le_of_ble_eq_true rfl) (Or.inl rfl) (ok_rnk (sy_1_4 (m := m)) hfx) (Nat.le_of_ble_eq_true rfl) ?_
    show rn fx 2 (0, 0) 24 6 [some (.inr (.inr (some 3003))), some (.inl 1)] [] (st0 m) o
    refine r_ld (pc' := 7) hM_24 d_24_6 rfl rfl ?_
    refine r_ld (pc' := 8) hM_24 d_24_7 rfl rfl ?_
    refine r_baFk (pc' := 9) (n := 4) (z := 101) hM_24 d_24_8 rfl (by decide) (hfx.2.2 3 (by decide)) (by decide) (by decide +kernel) ?_
    refine r_k (pc' := 12) (v := .inl 255) hM_24 d_24_9 rfl rfl ?_
    refine r_b (pc' := 13) (z := 101) hM_24 d_24_12 rfl (by decide +kernel) ?_
    refine r_stk (pc' := 14) (st' := [.inl 101]) hM_24 d_24_13 rfl (by decide +kernel) ?_
    exact hk
  exact ok_rt (fun fx _ => rt_n hM_24 d_24_14 rfl (by decide) (by decide +kernel)) H
theorem sb_3_1 {m : am_M} : ok 2 24 0 (am_ent 2 [.inr (.inr (some 3003)), .inl 1]) [] m (fun rr m' => rr = [.inl 101] ∧ m' = m) := usb_3_1 ⟨rfl, rfl⟩
theorem usb_3_2 {Q : List am_V → am_M → Prop} {m : am_M}   (H : Q [.inl 102] m) : ok 2 24 0 [some (.inr (.inr (some 3003))), some (.inl 2)] [] m Q := by
  refine ok_sg (pc' := 14) (ls' := [some (.inr (.inr (some 3003))), some (.inl 2)]) (st' := [.inl 102]) (m' := m) (fun fx hfx o hk => ?_) ?_
  · refine r_ld (pc' := 1) hM_24 d_24_0 rfl rfl ?_
    refine r_ld (pc' := 2) hM_24 d_24_1 rfl rfl ?_
    refine r_alF (pc' := 3) (n := 4) hM_24 d_24_2 rfl (by decide) (hfx.2.2 3 (by decide)) (by decide) ?_
    refine r_cl (pc' := 6) (c := (25, 2)) (a := [.inl 2, .inl 4]) (q := []) hM_24 d_24_3 rfl (by decide +kernel) hM_25 rfl rfl rfl (Nat.le_of_ble_eq_true rfl) (Nat.le_of_ble_eq_true rfl) (Or.inl rfl) (ok_rnk (sy_2_4 (m := m)) hfx) (Nat.le_of_ble_eq_true rfl) ?_
    show rn fx 2 (0, 0) 24 6 [some (.inr (.inr (some 3003))), some (.inl 2)] [] (st0 m) o
    refine r_ld (pc' := 7) hM_24 d_24_6 rfl rfl ?_
    refine r_ld (pc' := 8) hM_24 d_24_7 rfl rfl ?_
    refine r_baFk (pc' := 9) (n := 4) (z := 102) hM_24 d_24_8 rfl (by decide) (hfx.2.2 3 (by decide)) (by decide) (by decide +kernel) ?_
    refine r_k (pc' := 12) (v := .inl 255) hM_24 d_24_9 rfl rfl ?_
    refine r_b (pc' := 13) (z := 102) hM_24 d_24_12 rfl (by decide +kernel) ?_
    refine r_stk (pc' := 14) (st' := [.inl 102]) hM_24 d_24_13 rfl (by decide +kernel) ?_
    exact hk
  exact ok_rt (fun fx _ => rt_n hM_24 d_24_14 rfl (by decide) (by decide +kernel)) H
theorem sb_3_2 {m : am_M} : ok 2 24 0 (am_ent 2 [.inr (.inr (some 3003)), .inl 2]) [] m (fun rr m' => rr = [.inl 102] ∧ m' = m) := usb_3_2 ⟨rfl, rfl⟩
theorem usb_3_3 {Q : List am_V → am_M → Prop} {m : am_M}   (H : Q [.inl 116] m) : ok 2 24 0 [some (.inr (.inr (some 3003))), some (.inl 3)] [] m Q := by
  refine ok_sg (pc' := 14) (ls' := [some (.inr (.inr (some 3003))), some (.inl 3)]) (st' := [.inl 116]) (m' := m) (fun fx hfx o hk => ?_) ?_
  · refine r_ld (pc' := 1) hM_24 d_24_0 rfl rfl ?_
    refine r_ld (pc' := 2) hM_24 d_24_1 rfl rfl ?_
    refine r_alF (pc' := 3) (n := 4) hM_24 d_24_2 rfl (by decide) (hfx.2.2 3 (by decide)) (by decide) ?_
    refine r_cl (pc' := 6) (c := (25, 2)) (a := [.inl 3, .inl 4]) (q := []) hM_24 d_24_3 rfl (by decide +kernel) hM_25 rfl rfl rfl (Nat.le_of_ble_eq_true rfl) (Nat.le_of_ble_eq_true rfl) (Or.inl rfl) (ok_rnk (sy_3_4 (m := m)) hfx) (Nat.le_of_ble_eq_true rfl) ?_
    show rn fx 2 (0, 0) 24 6 [some (.inr (.inr (some 3003))), some (.inl 3)] [] (st0 m) o
    refine r_ld (pc' := 7) hM_24 d_24_6 rfl rfl ?_
    refine r_ld (pc' := 8) hM_24 d_24_7 rfl rfl ?_
    refine r_baFk (pc' := 9) (n := 4) (z := 116) hM_24 d_24_8 rfl (by decide) (hfx.2.2 3 (by decide)) (by decide) (by decide +kernel) ?_
    refine r_k (pc' := 12) (v := .inl 255) hM_24 d_24_9 rfl rfl ?_
    refine r_b (pc' := 13) (z := 116) hM_24 d_24_12 rfl (by decide +kernel) ?_
    refine r_stk (pc' := 14) (st' := [.inl 116]) hM_24 d_24_13 rfl (by decide +kernel) ?_
    exact hk
  exact ok_rt (fun fx _ => rt_n hM_24 d_24_14 rfl (by decide) (by decide +kernel)) H
theorem sb_3_3 {m : am_M} : ok 2 24 0 (am_ent 2 [.inr (.inr (some 3003)), .inl 3]) [] m (fun rr m' => rr = [.inl 116] ∧ m' = m) := usb_3_3 ⟨rfl, rfl⟩
theorem usb_4_0 {Q : List am_V → am_M → Prop} {m : am_M}   (H : Q [.inl 99] m) : ok 2 24 0 [some (.inr (.inr (some 3004))), some (.inl 0)] [] m Q := by
  refine ok_sg (pc' := 14) (ls' := [some (.inr (.inr (some 3004))), some (.inl 0)]) (st' := [.inl 99]) (m' := m) (fun fx hfx o hk => ?_) ?_
  · refine r_ld (pc' := 1) hM_24 d_24_0 rfl rfl ?_
    refine r_ld (pc' := 2) hM_24 d_24_1 rfl rfl ?_
    refine r_alF (pc' := 3) (n := 4) hM_24 d_24_2 rfl (by decide) (hfx.2.2 4 (by decide)) (by decide) ?_
    refine r_cl (pc' := 6) (c := (25, 2)) (a := [.inl 0, .inl 4]) (q := []) hM_24 d_24_3 rfl (by decide +kernel) hM_25 rfl rfl rfl (Nat.le_of_ble_eq_true rfl) (Nat.le_of_ble_eq_true rfl) (Or.inl rfl) (ok_rnk (sy_0_4 (m := m)) hfx) (Nat.le_of_ble_eq_true rfl) ?_
    show rn fx 2 (0, 0) 24 6 [some (.inr (.inr (some 3004))), some (.inl 0)] [] (st0 m) o
    refine r_ld (pc' := 7) hM_24 d_24_6 rfl rfl ?_
    refine r_ld (pc' := 8) hM_24 d_24_7 rfl rfl ?_
    refine r_baFk (pc' := 9) (n := 4) (z := 99) hM_24 d_24_8 rfl (by decide) (hfx.2.2 4 (by decide)) (by decide) (by decide +kernel) ?_
    refine r_k (pc' := 12) (v := .inl 255) hM_24 d_24_9 rfl rfl ?_
    refine r_b (pc' := 13) (z := 99) hM_24 d_24_12 rfl (by decide +kernel) ?_
    refine r_stk (pc' := 14) (st' := [.inl 99]) hM_24 d_24_13 rfl (by decide +kernel) ?_
    exact hk
  exact ok_rt (fun fx _ => rt_n hM_24 d_24_14 rfl (by decide) (by decide +kernel)) H
theorem sb_4_0 {m : am_M} : ok 2 24 0 (am_ent 2 [.inr (.inr (some 3004)), .inl 0]) [] m (fun rr m' => rr = [.inl 99] ∧ m' = m) := usb_4_0 ⟨rfl, rfl⟩
theorem usb_4_1 {Q : List am_V → am_M → Prop} {m : am_M}   (H : Q [.inl 111] m) : ok 2 24 0 [some (.inr (.inr (some 3004))), some (.inl 1)] [] m Q := by
  refine ok_sg (pc' := 14) (ls' := [some (.inr (.inr (some 3004))), some (.inl 1)]) (st' := [.inl 111]) (m' := m) (fun fx hfx o hk => ?_) ?_
  · refine r_ld (pc' := 1) hM_24 d_24_0 rfl rfl ?_
    refine r_ld (pc' := 2) hM_24 d_24_1 rfl rfl ?_
    refine r_alF (pc' := 3) (n := 4) hM_24 d_24_2 rfl (by decide) (hfx.2.2 4 (by decide)) (by decide) ?_
    refine r_cl (pc' := 6) (c := (25, 2)) (a := [.inl 1, .inl 4]) (q := []) hM_24 d_24_3 rfl (by decide +kernel) hM_25 rfl rfl rfl (Nat.le_of_ble_eq_true rfl) (Nat.le_of_ble_eq_true rfl) (Or.inl rfl) (ok_rnk (sy_1_4 (m := m)) hfx) (Nat.le_of_ble_eq_true rfl) ?_
    show rn fx 2 (0, 0) 24 6 [some (.inr (.inr (some 3004))), some (.inl 1)] [] (st0 m) o
    refine r_ld (pc' := 7) hM_24 d_24_6 rfl rfl ?_
    refine r_ld (pc' := 8) hM_24 d_24_7 rfl rfl ?_
    refine r_baFk (pc' := 9) (n := 4) (z := 111) hM_24 d_24_8 rfl (by decide) (hfx.2.2 4 (by decide)) (by decide) (by decide +kernel) ?_
    refine r_k (pc' := 12) (v := .inl 255) hM_24 d_24_9 rfl rfl ?_
    refine r_b (pc' := 13) (z := 111) hM_24 d_24_12 rfl (by decide +kernel) ?_
    refine r_stk (pc' := 14) (st' := [.inl 111]) hM_24 d_24_13 rfl (by decide +kernel) ?_
    exact hk
  exact ok_rt (fun fx _ => rt_n hM_24 d_24_14 rfl (by decide) (by decide +kernel)) H
theorem sb_4_1 {m : am_M} : ok 2 24 0 (am_ent 2 [.inr (.inr (some 3004)), .inl 1]) [] m (fun rr m' => rr = [.inl 111] ∧ m' = m) := usb_4_1 ⟨rfl, rfl⟩
theorem usb_4_2 {Q : List am_V → am_M → Prop} {m : am_M}   (H : Q [.inl 108] m) : ok 2 24 0 [some (.inr (.inr (some 3004))), some (.inl 2)] [] m Q := by
  refine ok_sg (pc' := 14) (ls' := [some (.inr (.inr (some 3004))), some (.inl 2)]) (st' := [.inl 108]) (m' := m) (fun fx hfx o hk => ?_) ?_
  · refine r_ld (pc' := 1) hM_24 d_24_0 rfl rfl ?_
    refine r_ld (pc' := 2) hM_24 d_24_1 rfl rfl ?_
    refine r_alF (pc' := 3) (n := 4) hM_24 d_24_2 rfl (by decide) (hfx.2.2 4 (by decide)) (by decide) ?_
    refine r_cl (pc' := 6) (c := (25, 2)) (a := [.inl 2, .inl 4]) (q := []) hM_24 d_24_3 rfl (by decide +kernel) hM_25 rfl rfl rfl (Nat.le_of_ble_eq_true rfl) (Nat.le_of_ble_eq_true rfl) (Or.inl rfl) (ok_rnk (sy_2_4 (m := m)) hfx) (Nat.le_of_ble_eq_true rfl) ?_
    show rn fx 2 (0, 0) 24 6 [some (.inr (.inr (some 3004))), some (.inl 2)] [] (st0 m) o
    refine r_ld (pc' := 7) hM_24 d_24_6 rfl rfl ?_
    refine r_ld (pc' := 8) hM_24 d_24_7 rfl rfl ?_
    refine r_baFk (pc' := 9) (n := 4) (z := 108) hM_24 d_24_8 rfl (by decide) (hfx.2.2 4 (by decide)) (by decide) (by decide +kernel) ?_
    refine r_k (pc' := 12) (v := .inl 255) hM_24 d_24_9 rfl rfl ?_
    refine r_b (pc' := 13) (z := 108) hM_24 d_24_12 rfl (by decide +kernel) ?_
    refine r_stk (pc' := 14) (st' := [.inl 108]) hM_24 d_24_13 rfl (by decide +kernel) ?_
    exact hk
  exact ok_rt (fun fx _ => rt_n hM_24 d_24_14 rfl (by decide) (by decide +kernel)) H
theorem sb_4_2 {m : am_M} : ok 2 24 0 (am_ent 2 [.inr (.inr (some 3004)), .inl 2]) [] m (fun rr m' => rr = [.inl 108] ∧ m' = m) := usb_4_2 ⟨rfl, rfl⟩
theorem usb_4_3 {Q : List am_V → am_M → Prop} {m : am_M}   (H : Q [.inl 100] m) : ok 2 24 0 [some (.inr (.inr (some 3004))), some (.inl 3)] [] m Q := by
  refine ok_sg (pc' := 14) (ls' := [some (.inr (.inr (some 3004))), some (.inl 3)]) (st' := [.inl 100]) (m' := m) (fun fx hfx o hk => ?_) ?_
  · refine r_ld (pc' := 1) hM_24 d_24_0 rfl rfl ?_
    refine r_ld (pc' := 2) hM_24 d_24_1 rfl rfl ?_
    refine r_alF (pc' := 3) (n := 4) hM_24 d_24_2 rfl (by decide) (hfx.2.2 4 (by decide)) (by decide) ?_
    refine r_cl (pc' := 6) (c := (25, 2)) (a := [.inl 3, .inl 4]) (q := []) hM_24 d_24_3 rfl (by decide +kernel) hM_25 rfl rfl rfl (Nat.le_of_ble_eq_true rfl) (Nat.le_of_ble_eq_true rfl) (Or.inl rfl) (ok_rnk (sy_3_4 (m := m)) hfx) (Nat.le_of_ble_eq_true rfl) ?_
    show rn fx 2 (0, 0) 24 6 [some (.inr (.inr (some 3004))), some (.inl 3)] [] (st0 m) o
    refine r_ld (pc' := 7) hM_24 d_24_6 rfl rfl ?_
    refine r_ld (pc' := 8) hM_24 d_24_7 rfl rfl ?_
    refine r_baFk (pc' := 9) (n := 4) (z := 100) hM_24 d_24_8 rfl (by decide) (hfx.2.2 4 (by decide)) (by decide) (by decide +kernel) ?_
    refine r_k (pc' := 12) (v := .inl 255) hM_24 d_24_9 rfl rfl ?_
    refine r_b (pc' := 13) (z := 100) hM_24 d_24_12 rfl (by decide +kernel) ?_
    refine r_stk (pc' := 14) (st' := [.inl 100]) hM_24 d_24_13 rfl (by decide +kernel) ?_
    exact hk
  exact ok_rt (fun fx _ => rt_n hM_24 d_24_14 rfl (by decide) (by decide +kernel)) H
theorem sb_4_3 {m : am_M} : ok 2 24 0 (am_ent 2 [.inr (.inr (some 3004)), .inl 3]) [] m (fun rr m' => rr = [.inl 100] ∧ m' = m) := usb_4_3 ⟨rfl, rfl⟩
theorem usb_5_0 {Q : List am_V → am_M → Prop} {m : am_M}   (H : Q [.inl 98] m) : ok 2 24 0 [some (.inr (.inr (some 3005))), some (.inl 0)] [] m Q := by
  refine ok_sg (pc' := 14) (ls' := [some (.inr (.inr (some 3005))), some (.inl 0)]) (st' := [.inl 98]) (m' := m) (fun fx hfx o hk => ?_) ?_
  · refine r_ld (pc' := 1) hM_24 d_24_0 rfl rfl ?_
    refine r_ld (pc' := 2) hM_24 d_24_1 rfl rfl ?_
    refine r_alF (pc' := 3) (n := 6) hM_24 d_24_2 rfl (by decide) (hfx.2.2 5 (by decide)) (by decide) ?_
    refine r_cl (pc' := 6) (c := (25, 2)) (a := [.inl 0, .inl 6]) (q := []) hM_24 d_24_3 rfl (by decide +kernel) hM_25 rfl rfl rfl (Nat.le_of_ble_eq_true rfl) (Nat.le_of_ble_eq_true rfl) (Or.inl rfl) (ok_rnk (sy_0_6 (m := m)) hfx) (Nat.le_of_ble_eq_true rfl) ?_
    show rn fx 2 (0, 0) 24 6 [some (.inr (.inr (some 3005))), some (.inl 0)] [] (st0 m) o
    refine r_ld (pc' := 7) hM_24 d_24_6 rfl rfl ?_
    refine r_ld (pc' := 8) hM_24 d_24_7 rfl rfl ?_
    refine r_baFk (pc' := 9) (n := 6) (z := 98) hM_24 d_24_8 rfl (by decide) (hfx.2.2 5 (by decide)) (by decide) (by decide +kernel) ?_
    refine r_k (pc' := 12) (v := .inl 255) hM_24 d_24_9 rfl rfl ?_
    refine r_b (pc' := 13) (z := 98) hM_24 d_24_12 rfl (by decide +kernel) ?_
    refine r_stk (pc' := 14) (st' := [.inl 98]) hM_24 d_24_13 rfl (by decide +kernel) ?_
    exact hk
  exact ok_rt (fun fx _ => rt_n hM_24 d_24_14 rfl (by decide) (by decide +kernel)) H
theorem sb_5_0 {m : am_M} : ok 2 24 0 (am_ent 2 [.inr (.inr (some 3005)), .inl 0]) [] m (fun rr m' => rr = [.inl 98] ∧ m' = m) := usb_5_0 ⟨rfl, rfl⟩
theorem usb_5_1 {Q : List am_V → am_M → Prop} {m : am_M}   (H : Q [.inl 97] m) : ok 2 24 0 [some (.inr (.inr (some 3005))), some (.inl 1)] [] m Q := by
  refine ok_sg (pc' := 14) (ls' := [some (.inr (.inr (some 3005))), some (.inl 1)]) (st' := [.inl 97]) (m' := m) (fun fx hfx o hk => ?_) ?_
  · refine r_ld (pc' := 1) hM_24 d_24_0 rfl rfl ?_
    refine r_ld (pc' := 2) hM_24 d_24_1 rfl rfl ?_
    refine r_alF (pc' := 3) (n := 6) hM_24 d_24_2 rfl (by decide) (hfx.2.2 5 (by decide)) (by decide) ?_
    refine r_cl (pc' := 6) (c := (25, 2)) (a := [.inl 1, .inl 6]) (q := []) hM_24 d_24_3 rfl (by decide +kernel) hM_25 rfl rfl rfl (Nat.le_of_ble_eq_true rfl) (Nat.le_of_ble_eq_true rfl) (Or.inl rfl) (ok_rnk (sy_1_6 (m := m)) hfx) (Nat.le_of_ble_eq_true rfl) ?_
    show rn fx 2 (0, 0) 24 6 [some (.inr (.inr (some 3005))), some (.inl 1)] [] (st0 m) o
    refine r_ld (pc' := 7) hM_24 d_24_6 rfl rfl ?_
    refine r_ld (pc' := 8) hM_24 d_24_7 rfl rfl ?_
    refine r_baFk (pc' := 9) (n := 6) (z := 97) hM_24 d_24_8 rfl (by decide) (hfx.2.2 5 (by decide)) (by decide) (by decide +kernel) ?_
    refine r_k (pc' := 12) (v := .inl 255) hM_24 d_24_9 rfl rfl ?_
    refine r_b (pc' := 13) (z := 97) hM_24 d_24_12 rfl (by decide +kernel) ?_
    refine r_stk (pc' := 14) (st' := [.inl 97]) hM_24 d_24_13 rfl (by decide +kernel) ?_
    exact hk
  exact ok_rt (fun fx _ => rt_n hM_24 d_24_14 rfl (by decide) (by decide +kernel)) H
theorem sb_5_1 {m : am_M} : ok 2 24 0 (am_ent 2 [.inr (.inr (some 3005)), .inl 1]) [] m (fun rr m' => rr = [.inl 97] ∧ m' = m) := usb_5_1 ⟨rfl, rfl⟩
theorem usb_5_2 {Q : List am_V → am_M → Prop} {m : am_M}   (H : Q [.inl 114] m) : ok 2 24 0 [some (.inr (.inr (some 3005))), some (.inl 2)] [] m Q := by
  refine ok_sg (pc' := 14) (ls' := [some (.inr (.inr (some 3005))), some (.inl 2)]) (st' := [.inl 114]) (m' := m) (fun fx hfx o hk => ?_) ?_
  · refine r_ld (pc' := 1) hM_24 d_24_0 rfl rfl ?_
    refine r_ld (pc' := 2) hM_24 d_24_1 rfl rfl ?_
    refine r_alF (pc' := 3) (n := 6) hM_24 d_24_2 rfl (by decide) (hfx.2.2 5 (by decide)) (by decide) ?_
    refine r_cl (pc' := 6) (c := (25, 2)) (a := [.inl 2, .inl 6]) (q := []) hM_24 d_24_3 rfl (by decide +kernel) hM_25 rfl rfl rfl (Nat.le_of_ble_eq_true rfl) (Nat.le_of_ble_eq_true rfl) (Or.inl rfl) (ok_rnk (sy_2_6 (m := m)) hfx) (Nat.le_of_ble_eq_true rfl) ?_
    show rn fx 2 (0, 0) 24 6 [some (.inr (.inr (some 3005))), some (.inl 2)] [] (st0 m) o
    refine r_ld (pc' := 7) hM_24 d_24_6 rfl rfl ?_
    refine r_ld (pc' := 8) hM_24 d_24_7 rfl rfl ?_
    refine r_baFk (pc' := 9) (n := 6) (z := 114) hM_24 d_24_8 rfl (by decide) (hfx.2.2 5 (by decide)) (by decide) (by decide +kernel) ?_
    refine r_k (pc' := 12) (v := .inl 255) hM_24 d_24_9 rfl rfl ?_
    refine r_b (pc' := 13) (z := 114) hM_24 d_24_12 rfl (by decide +kernel) ?_
    refine r_stk (pc' := 14) (st' := [.inl 114]) hM_24 d_24_13 rfl (by decide +kernel) ?_
    exact hk
  exact ok_rt (fun fx _ => rt_n hM_24 d_24_14 rfl (by decide) (by decide +kernel)) H
theorem sb_5_2 {m : am_M} : ok 2 24 0 (am_ent 2 [.inr (.inr (some 3005)), .inl 2]) [] m (fun rr m' => rr = [.inl 114] ∧ m' = m) := usb_5_2 ⟨rfl, rfl⟩
theorem usb_5_3 {Q : List am_V → am_M → Prop} {m : am_M}   (H : Q [.inl 114] m) : ok 2 24 0 [some (.inr (.inr (some 3005))), some (.inl 3)] [] m Q := by
  refine ok_sg (pc' := 14) (ls' := [some (.inr (.inr (some 3005))), some (.inl 3)]) (st' := [.inl 114]) (m' := m) (fun fx hfx o hk => ?_) ?_
  · refine r_ld (pc' := 1) hM_24 d_24_0 rfl rfl ?_
    refine r_ld (pc' := 2) hM_24 d_24_1 rfl rfl ?_
    refine r_alF (pc' := 3) (n := 6) hM_24 d_24_2 rfl (by decide) (hfx.2.2 5 (by decide)) (by decide) ?_
    refine r_cl (pc' := 6) (c := (25, 2)) (a := [.inl 3, .inl 6]) (q := []) hM_24 d_24_3 rfl (by decide +kernel) hM_25 rfl rfl rfl (Nat.le_of_ble_eq_true rfl) (Nat.le_of_ble_eq_true rfl) (Or.inl rfl) (ok_rnk (sy_3_6 (m := m)) hfx) (Nat.le_of_ble_eq_true rfl) ?_
    show rn fx 2 (0, 0) 24 6 [some (.inr (.inr (some 3005))), some (.inl 3)] [] (st0 m) o
    refine r_ld (pc' := 7) hM_24 d_24_6 rfl rfl ?_
    refine r_ld (pc' := 8) hM_24 d_24_7 rfl rfl ?_
    refine r_baFk (pc' := 9) (n := 6) (z := 114) hM_24 d_24_8 rfl (by decide) (hfx.2.2 5 (by decide)) (by decide) (by decide +kernel) ?_
    refine r_k (pc' := 12) (v := .inl 255) hM_24 d_24_9 rfl rfl ?_
    refine r_b (pc' := 13) (z := 114) hM_24 d_24_12 rfl (by decide +kernel) ?_
    refine r_stk (pc' := 14) (st' := [.inl 114]) hM_24 d_24_13 rfl (by decide +kernel) ?_
    exact hk
  exact ok_rt (fun fx _ => rt_n hM_24 d_24_14 rfl (by decide) (by decide +kernel)) H
theorem sb_5_3 {m : am_M} : ok 2 24 0 (am_ent 2 [.inr (.inr (some 3005)), .inl 3]) [] m (fun rr m' => rr = [.inl 114] ∧ m' = m) := usb_5_3 ⟨rfl, rfl⟩
theorem usb_5_4 {Q : List am_V → am_M → Prop} {m : am_M}   (H : Q [.inl 101] m) : ok 2 24 0 [some (.inr (.inr (some 3005))), some (.inl 4)] [] m Q := by
  refine ok_sg (pc' := 14) (ls' := [some (.inr (.inr (some 3005))), some (.inl 4)]) (st' := [.inl 101]) (m' := m) (fun fx hfx o hk => ?_) ?_
  · refine r_ld (pc' := 1) hM_24 d_24_0 rfl rfl ?_
    refine r_ld (pc' := 2) hM_24 d_24_1 rfl rfl ?_
    refine r_alF (pc' := 3) (n := 6) hM_24 d_24_2 rfl (by decide) (hfx.2.2 5 (by decide)) (by decide) ?_
    refine r_cl (pc' := 6) (c := (25, 2)) (a := [.inl 4, .inl 6]) (q := []) hM_24 d_24_3 rfl (by decide +kernel) hM_25 rfl rfl rfl (Nat.le_of_ble_eq_true rfl) (Nat.le_of_ble_eq_true rfl) (Or.inl rfl) (ok_rnk (sy_4_6 (m := m)) hfx) (Nat.le_of_ble_eq_true rfl) ?_
    show rn fx 2 (0, 0) 24 6 [some (.inr (.inr (some 3005))), some (.inl 4)] [] (st0 m) o
    refine r_ld (pc' := 7) hM_24 d_24_6 rfl rfl ?_
    refine r_ld (pc' := 8) hM_24 d_24_7 rfl rfl ?_
    refine r_baFk (pc' := 9) (n := 6) (z := 101) hM_24 d_24_8 rfl (by decide) (hfx.2.2 5 (by decide)) (by decide) (by decide +kernel) ?_
    refine r_k (pc' := 12) (v := .inl 255) hM_24 d_24_9 rfl rfl ?_
    refine r_b (pc' := 13) (z := 101) hM_24 d_24_12 rfl (by decide +kernel) ?_
    refine r_stk (pc' := 14) (st' := [.inl 101]) hM_24 d_24_13 rfl (by decide +kernel) ?_
    exact hk
  exact ok_rt (fun fx _ => rt_n hM_24 d_24_14 rfl (by decide) (by decide +kernel)) H
theorem sb_5_4 {m : am_M} : ok 2 24 0 (am_ent 2 [.inr (.inr (some 3005)), .inl 4]) [] m (fun rr m' => rr = [.inl 101] ∧ m' = m) := usb_5_4 ⟨rfl, rfl⟩
theorem usb_5_5 {Q : List am_V → am_M → Prop} {m : am_M}   (H : Q [.inl 108] m) : ok 2 24 0 [some (.inr (.inr (some 3005))), some (.inl 5)] [] m Q := by
  refine ok_sg (pc' := 14) (ls' := [some (.inr (.inr (some 3005))), some (.inl 5)]) (st' := [.inl 108]) (m' := m) (fun fx hfx o hk => ?_) ?_
  · refine r_ld (pc' := 1) hM_24 d_24_0 rfl rfl ?_
    refine r_ld (pc' := 2) hM_24 d_24_1 rfl rfl ?_
    refine r_alF (pc' := 3) (n := 6) hM_24 d_24_2 rfl (by decide) (hfx.2.2 5 (by decide)) (by decide) ?_
    refine r_cl (pc' := 6) (c := (25, 2)) (a := [.inl 5, .inl 6]) (q := []) hM_24 d_24_3 rfl (by decide +kernel) hM_25 rfl rfl rfl (Nat.le_of_ble_eq_true rfl) (Nat.le_of_ble_eq_true rfl) (Or.inl rfl) (ok_rnk (sy_5_6 (m := m)) hfx) (Nat.le_of_ble_eq_true rfl) ?_
    show rn fx 2 (0, 0) 24 6 [some (.inr (.inr (some 3005))), some (.inl 5)] [] (st0 m) o
    refine r_ld (pc' := 7) hM_24 d_24_6 rfl rfl ?_
    refine r_ld (pc' := 8) hM_24 d_24_7 rfl rfl ?_
    refine r_baFk (pc' := 9) (n := 6) (z := 108) hM_24 d_24_8 rfl (by decide) (hfx.2.2 5 (by decide)) (by decide) (by decide +kernel) ?_
    refine r_k (pc' := 12) (v := .inl 255) hM_24 d_24_9 rfl rfl ?_
    refine r_b (pc' := 13) (z := 108) hM_24 d_24_12 rfl (by decide +kernel) ?_
    refine r_stk (pc' := 14) (st' := [.inl 108]) hM_24 d_24_13 rfl (by decide +kernel) ?_
    exact hk
  exact ok_rt (fun fx _ => rt_n hM_24 d_24_14 rfl (by decide) (by decide +kernel)) H
theorem sb_5_5 {m : am_M} : ok 2 24 0 (am_ent 2 [.inr (.inr (some 3005)), .inl 5]) [] m (fun rr m' => rr = [.inl 108] ∧ m' = m) := usb_5_5 ⟨rfl, rfl⟩
theorem usb_6_0 {Q : List am_V → am_M → Prop} {m : am_M}   (H : Q [.inl 103] m) : ok 2 24 0 [some (.inr (.inr (some 3006))), some (.inl 0)] [] m Q := by
  refine ok_sg (pc' := 14) (ls' := [some (.inr (.inr (some 3006))), some (.inl 0)]) (st' := [.inl 103]) (m' := m) (fun fx hfx o hk => ?_) ?_
  · refine r_ld (pc' := 1) hM_24 d_24_0 rfl rfl ?_
    refine r_ld (pc' := 2) hM_24 d_24_1 rfl rfl ?_
    refine r_alF (pc' := 3) (n := 3) hM_24 d_24_2 rfl (by decide) (hfx.2.2 6 (by decide)) (by decide) ?_
    refine r_cl (pc' := 6) (c := (25, 2)) (a := [.inl 0, .inl 3]) (q := []) hM_24 d_24_3 rfl (by decide +kernel) hM_25 rfl rfl rfl (Nat.le_of_ble_eq_true rfl) (Nat.le_of_ble_eq_true rfl) (Or.inl rfl) (ok_rnk (sy_0_3 (m := m)) hfx) (Nat.le_of_ble_eq_true rfl) ?_
    show rn fx 2 (0, 0) 24 6 [some (.inr (.inr (some 3006))), some (.inl 0)] [] (st0 m) o
    refine r_ld (pc' := 7) hM_24 d_24_6 rfl rfl ?_
    refine r_ld (pc' := 8) hM_24 d_24_7 rfl rfl ?_
    refine r_baFk (pc' := 9) (n := 3) (z := 103) hM_24 d_24_8 rfl (by decide) (hfx.2.2 6 (by decide)) (by decide) (by decide +kernel) ?_
    refine r_k (pc' := 12) (v := .inl 255) hM_24 d_24_9 rfl rfl ?_
    refine r_b (pc' := 13) (z := 103) hM_24 d_24_12 rfl (by decide +kernel) ?_
    refine r_stk (pc' := 14) (st' := [.inl 103]) hM_24 d_24_13 rfl (by decide +kernel) ?_
    exact hk
  exact ok_rt (fun fx _ => rt_n hM_24 d_24_14 rfl (by decide) (by decide +kernel)) H
theorem sb_6_0 {m : am_M} : ok 2 24 0 (am_ent 2 [.inr (.inr (some 3006)), .inl 0]) [] m (fun rr m' => rr = [.inl 103] ∧ m' = m) := usb_6_0 ⟨rfl, rfl⟩
theorem usb_6_1 {Q : List am_V → am_M → Prop} {m : am_M}   (H : Q [.inl 97] m) : ok 2 24 0 [some (.inr (.inr (some 3006))), some (.inl 1)] [] m Q := by
  refine ok_sg (pc' := 14) (ls' := [some (.inr (.inr (some 3006))), some (.inl 1)]) (st' := [.inl 97]) (m' := m) (fun fx hfx o hk => ?_) ?_
  · refine r_ld (pc' := 1) hM_24 d_24_0 rfl rfl ?_
    refine r_ld (pc' := 2) hM_24 d_24_1 rfl rfl ?_
    refine r_alF (pc' := 3) (n := 3) hM_24 d_24_2 rfl (by decide) (hfx.2.2 6 (by decide)) (by decide) ?_
    refine r_cl (pc' := 6) (c := (25, 2)) (a := [.inl 1, .inl 3]) (q := []) hM_24 d_24_3 rfl (by decide +kernel) hM_25 rfl rfl rfl (Nat.le_of_ble_eq_true rfl) (Nat.le_of_ble_eq_true rfl) (Or.inl rfl) (ok_rnk (sy_1_3 (m := m)) hfx) (Nat.le_of_ble_eq_true rfl) ?_
    show rn fx 2 (0, 0) 24 6 [some (.inr (.inr (some 3006))), some (.inl 1)] [] (st0 m) o
    refine r_ld (pc' := 7) hM_24 d_24_6 rfl rfl ?_
    refine r_ld (pc' := 8) hM_24 d_24_7 rfl rfl ?_
    refine r_baFk (pc' := 9) (n := 3) (z := 97) hM_24 d_24_8 rfl (by decide) (hfx.2.2 6 (by decide)) (by decide) (by decide +kernel) ?_
    refine r_k (pc' := 12) (v := .inl 255) hM_24 d_24_9 rfl rfl ?_
    refine r_b (pc' := 13) (z := 97) hM_24 d_24_12 rfl (by decide +kernel) ?_
    refine r_stk (pc' := 14) (st' := [.inl 97]) hM_24 d_24_13 rfl (by decide +kernel) ?_
    exact hk
  exact ok_rt (fun fx _ => rt_n hM_24 d_24_14 rfl (by decide) (by decide +kernel)) H
theorem sb_6_1 {m : am_M} : ok 2 24 0 (am_ent 2 [.inr (.inr (some 3006)), .inl 1]) [] m (fun rr m' => rr = [.inl 97] ∧ m' = m) := usb_6_1 ⟨rfl, rfl⟩
theorem usb_6_2 {Q : List am_V → am_M → Prop} {m : am_M}   (H : Q [.inl 112] m) : ok 2 24 0 [some (.inr (.inr (some 3006))), some (.inl 2)] [] m Q := by
  refine ok_sg (pc' := 14) (ls' := [some (.inr (.inr (some 3006))), some (.inl 2)]) (st' := [.inl 112]) (m' := m) (fun fx hfx o hk => ?_) ?_
  · refine r_ld (pc' := 1) hM_24 d_24_0 rfl rfl ?_
    refine r_ld (pc' := 2) hM_24 d_24_1 rfl rfl ?_
    refine r_alF (pc' := 3) (n := 3) hM_24 d_24_2 rfl (by decide) (hfx.2.2 6 (by decide)) (by decide) ?_
    refine r_cl (pc' := 6) (c := (25, 2)) (a := [.inl 2, .inl 3]) (q := []) hM_24 d_24_3 rfl (by decide +kernel) hM_25 rfl rfl rfl (Nat.le_of_ble_eq_true rfl) (Nat.le_of_ble_eq_true rfl) (Or.inl rfl) (ok_rnk (sy_2_3 (m := m)) hfx) (Nat.le_of_ble_eq_true rfl) ?_
    show rn fx 2 (0, 0) 24 6 [some (.inr (.inr (some 3006))), some (.inl 2)] [] (st0 m) o
    refine r_ld (pc' := 7) hM_24 d_24_6 rfl rfl ?_
    refine r_ld (pc' := 8) hM_24 d_24_7 rfl rfl ?_
    refine r_baFk (pc' := 9) (n := 3) (z := 112) hM_24 d_24_8 rfl (by decide) (hfx.2.2 6 (by decide)) (by decide) (by decide +kernel) ?_
    refine r_k (pc' := 12) (v := .inl 255) hM_24 d_24_9 rfl rfl ?_
    refine r_b (pc' := 13) (z := 112) hM_24 d_24_12 rfl (by decide +kernel) ?_
    refine r_stk (pc' := 14) (st' := [.inl 112]) hM_24 d_24_13 rfl (by decide +kernel) ?_
    exact hk
  exact ok_rt (fun fx _ => rt_n hM_24 d_24_14 rfl (by decide) (by decide +kernel)) H
theorem sb_6_2 {m : am_M} : ok 2 24 0 (am_ent 2 [.inr (.inr (some 3006)), .inl 2]) [] m (fun rr m' => rr = [.inl 112] ∧ m' = m) := usb_6_2 ⟨rfl, rfl⟩
theorem usb_7_0 {Q : List am_V → am_M → Prop} {m : am_M}   (H : Q [.inl 114] m) : ok 2 24 0 [some (.inr (.inr (some 3007))), some (.inl 0)] [] m Q := by
  refine ok_sg (pc' := 14) (ls' := [some (.inr (.inr (some 3007))), some (.inl 0)]) (st' := [.inl 114]) (m' := m) (fun fx hfx o hk => ?_) ?_
  · refine r_ld (pc' := 1) hM_24 d_24_0 rfl rfl ?_
    refine r_ld (pc' := 2) hM_24 d_24_1 rfl rfl ?_
    refine r_alF (pc' := 3) (n := 4) hM_24 d_24_2 rfl (by decide) (hfx.2.2 7 (by decide)) (by decide) ?_
    refine r_cl (pc' := 6) (c := (25, 2)) (a := [.inl 0, .inl 4]) (q := []) hM_24 d_24_3 rfl (by decide +kernel) hM_25 rfl rfl rfl (Nat.le_of_ble_eq_true rfl) (Nat.le_of_ble_eq_true rfl) (Or.inl rfl) (ok_rnk (sy_0_4 (m := m)) hfx) (Nat.le_of_ble_eq_true rfl) ?_
    show rn fx 2 (0, 0) 24 6 [some (.inr (.inr (some 3007))), some (.inl 0)] [] (st0 m) o
    refine r_ld (pc' := 7) hM_24 d_24_6 rfl rfl ?_
    refine r_ld (pc' := 8) hM_24 d_24_7 rfl rfl ?_
    refine r_baFk (pc' := 9) (n := 4) (z := 114) hM_24 d_24_8 rfl (by decide) (hfx.2.2 7 (by decide)) (by decide) (by decide +kernel) ?_
    refine r_k (pc' := 12) (v := .inl 255) hM_24 d_24_9 rfl rfl ?_
    refine r_b (pc' := 13) (z := 114) hM_24 d_24_12 rfl (by decide +kernel) ?_
    refine r_stk (pc' := 14) (st' := [.inl 114]) hM_24 d_24_13 rfl (by decide +kernel) ?_
    exact hk
  exact ok_rt (fun fx _ => rt_n hM_24 d_24_14 rfl (by decide) (by decide +kernel)) H
theorem sb_7_0 {m : am_M} : ok 2 24 0 (am_ent 2 [.inr (.inr (some 3007)), .inl 0]) [] m (fun rr m' => rr = [.inl 114] ∧ m' = m) := usb_7_0 ⟨rfl, rfl⟩
theorem usb_7_1 {Q : List am_V → am_M → Prop} {m : am_M}   (H : Q [.inl 105] m) : ok 2 24 0 [some (.inr (.inr (some 3007))), some (.inl 1)] [] m Q := by
  refine ok_sg (pc' := 14) (ls' := [some (.inr (.inr (some 3007))), some (.inl 1)]) (st' := [.inl 105]) (m' := m) (fun fx hfx o hk => ?_) ?_
  · refine r_ld (pc' := 1) hM_24 d_24_0 rfl rfl ?_
    refine r_ld (pc' := 2) hM_24 d_24_1 rfl rfl ?_
    refine r_alF (pc' := 3) (n := 4) hM_24 d_24_2 rfl (by decide) (hfx.2.2 7 (by decide)) (by decide) ?_
    refine r_cl (pc' := 6) (c := (25, 2)) (a := [.inl 1, .inl 4]) (q := []) hM_24 d_24_3 rfl (by decide +kernel) hM_25 rfl rfl rfl (Nat.le_of_ble_eq_true rfl) (Nat.le_of_ble_eq_true rfl) (Or.inl rfl) (ok_rnk (sy_1_4 (m := m)) hfx) (Nat.le_of_ble_eq_true rfl) ?_
    show rn fx 2 (0, 0) 24 6 [some (.inr (.inr (some 3007))), some (.inl 1)] [] (st0 m) o
    refine r_ld (pc' := 7) hM_24 d_24_6 rfl rfl ?_
    refine r_ld (pc' := 8) hM_24 d_24_7 rfl rfl ?_
    refine r_baFk (pc' := 9) (n := 4) (z := 105) hM_24 d_24_8 rfl (by decide) (hfx.2.2 7 (by decide)) (by decide) (by decide +kernel) ?_
    refine r_k (pc' := 12) (v := .inl 255) hM_24 d_24_9 rfl rfl ?_
    refine r_b (pc' := 13) (z := 105) hM_24 d_24_12 rfl (by decide +kernel) ?_
    refine r_stk (pc' := 14) (st' := [.inl 105]) hM_24 d_24_13 rfl (by decide +kernel) ?_
    exact hk
  exact ok_rt (fun fx _ => rt_n hM_24 d_24_14 rfl (by decide) (by decide +kernel)) H
theorem sb_7_1 {m : am_M} : ok 2 24 0 (am_ent 2 [.inr (.inr (some 3007)), .inl 1]) [] m (fun rr m' => rr = [.inl 105] ∧ m' = m) := usb_7_1 ⟨rfl, rfl⟩
theorem usb_7_2 {Q : List am_V → am_M → Prop} {m : am_M}   (H : Q [.inl 112] m) : ok 2 24 0 [some (.inr (.inr (some 3007))), some (.inl 2)] [] m Q := by
  refine ok_sg (pc' := 14) (ls' := [some (.inr (.inr (some 3007))), some (.inl 2)]) (st' := [.inl 112]) (m' := m) (fun fx hfx o hk => ?_) ?_
  · refine r_ld (pc' := 1) hM_24 d_24_0 rfl rfl ?_
    refine r_ld (pc' := 2) hM_24 d_24_1 rfl rfl ?_
    refine r_alF (pc' := 3) (n := 4) hM_24 d_24_2 rfl (by decide) (hfx.2.2 7 (by decide)) (by decide) ?_
    refine r_cl (pc' := 6) (c := (25, 2)) (a := [.inl 2, .inl 4]) (q := []) hM_24 d_24_3 rfl (by decide +kernel) hM_25 rfl rfl rfl (Nat.le_of_ble_eq_true rfl) (Nat.le_of_ble_eq_true rfl) (Or.inl rfl) (ok_rnk (sy_2_4 (m := m)) hfx) (Nat.le_of_ble_eq_true rfl) ?_
    show rn fx 2 (0, 0) 24 6 [some (.inr (.inr (some 3007))), some (.inl 2)] [] (st0 m) o
    refine r_ld (pc' := 7) hM_24 d_24_6 rfl rfl ?_
    refine r_ld (pc' := 8) hM_24 d_24_7 rfl rfl ?_
    refine r_baFk (pc' := 9) (n := 4) (z := 112) hM_24 d_24_8 rfl (by decide) (hfx.2.2 7 (by decide)) (by decide) (by decide +kernel) ?_
    refine r_k (pc' := 12) (v := .inl 255) hM_24 d_24_9 rfl rfl ?_
    refine r_b (pc' := 13) (z := 112) hM_24 d_24_12 rfl (by decide +kernel) ?_
    refine r_stk (pc' := 14) (st' := [.inl 112]) hM_24 d_24_13 rfl (by decide +kernel) ?_
    exact hk
  exact ok_rt (fun fx _ => rt_n hM_24 d_24_14 rfl (by decide) (by decide +kernel)) H
theorem sb_7_2 {m : am_M} : ok 2 24 0 (am_ent 2 [.inr (.inr (some 3007)), .inl 2]) [] m (fun rr m' => rr = [.inl 112] ∧ m' = m) := usb_7_2 ⟨rfl, rfl⟩
theorem usb_7_3 {Q : List am_V → am_M → Prop} {m : am_M}   (H : Q [.inl 101] m) : ok 2 24 0 [some (.inr (.inr (some 3007))), some (.inl 3)] [] m Q := by
  refine ok_sg (pc' := 14) (ls' := [some (.inr (.inr (some 3007))), some (.inl 3)]) (st' := [.inl 101]) (m' := m) (fun fx hfx o hk => ?_) ?_
  · refine r_ld (pc' := 1) hM_24 d_24_0 rfl rfl ?_
    refine r_ld (pc' := 2) hM_24 d_24_1 rfl rfl ?_
    refine r_alF (pc' := 3) (n := 4) hM_24 d_24_2 rfl (by decide) (hfx.2.2 7 (by decide)) (by decide) ?_
    refine r_cl (pc' := 6) (c := (25, 2)) (a := [.inl 3, .inl 4]) (q := []) hM_24 d_24_3 rfl (by decide +kernel) hM_25 rfl rfl rfl (Nat.le_of_ble_eq_true rfl) (Nat.le_of_ble_eq_true rfl) (Or.inl rfl) (ok_rnk (sy_3_4 (m := m)) hfx) (Nat.le_of_ble_eq_true rfl) ?_
    show rn fx 2 (0, 0) 24 6 [some (.inr (.inr (some 3007))), some (.inl 3)] [] (st0 m) o
    refine r_ld (pc' := 7) hM_24 d_24_6 rfl rfl ?_
    refine r_ld (pc' := 8) hM_24 d_24_7 rfl rfl ?_
    refine r_baFk (pc' := 9) (n := 4) (z := 101) hM_24 d_24_8 rfl (by decide) (hfx.2.2 7 (by decide)) (by decide) (by decide +kernel) ?_
    refine r_k (pc' := 12) (v := .inl 255) hM_24 d_24_9 rfl rfl ?_
    refine r_b (pc' := 13) (z := 101) hM_24 d_24_12 rfl (by decide +kernel) ?_
    refine r_stk (pc' := 14) (st' := [.inl 101]) hM_24 d_24_13 rfl (by decide +kernel) ?_
    exact hk
  exact ok_rt (fun fx _ => rt_n hM_24 d_24_14 rfl (by decide) (by decide +kernel)) H
theorem sb_7_3 {m : am_M} : ok 2 24 0 (am_ent 2 [.inr (.inr (some 3007)), .inl 3]) [] m (fun rr m' => rr = [.inl 101] ∧ m' = m) := usb_7_3 ⟨rfl, rfl⟩
theorem usb_8_0 {Q : List am_V → am_M → Prop} {m : am_M}   (H : Q [.inl 105] m) : ok 2 24 0 [some (.inr (.inr (some 3008))), some (.inl 0)] [] m Q := by
  refine ok_sg (pc' := 14) (ls' := [some (.inr (.inr (some 3008))), some (.inl 0)]) (st' := [.inl 105]) (m' := m) (fun fx hfx o hk => ?_) ?_
  · refine r_ld (pc' := 1) hM_24 d_24_0 rfl rfl ?_
    refine r_ld (pc' := 2) hM_24 d_24_1 rfl rfl ?_
    refine r_alF (pc' := 3) (n := 4) hM_24 d_24_2 rfl (by decide) (hfx.2.2 8 (by decide)) (by decide) ?_
    refine r_cl (pc' := 6) (c := (25, 2)) (a := [.inl 0, .inl 4]) (q := []) hM_24 d_24_3 rfl (by decide +kernel) hM_25 rfl rfl rfl (Nat.le_of_ble_eq_true rfl) (Nat.le_of_ble_eq_true rfl) (Or.inl rfl) (ok_rnk (sy_0_4 (m := m)) hfx) (Nat.le_of_ble_eq_true rfl) ?_
    show rn fx 2 (0, 0) 24 6 [some (.inr (.inr (some 3008))), some (.inl 0)] [] (st0 m) o
    refine r_ld (pc' := 7) hM_24 d_24_6 rfl rfl ?_
    refine r_ld (pc' := 8) hM_24 d_24_7 rfl rfl ?_
    refine r_baFk (pc' := 9) (n := 4) (z := 105) hM_24 d_24_8 rfl (by decide) (hfx.2.2 8 (by decide)) (by decide) (by decide +kernel) ?_
    refine r_k (pc' := 12) (v := .inl 255) hM_24 d_24_9 rfl rfl ?_
    refine r_b (pc' := 13) (z := 105) hM_24 d_24_12 rfl (by decide +kernel) ?_
    refine r_stk (pc' := 14) (st' := [.inl 105]) hM_24 d_24_13 rfl (by decide +kernel) ?_
    exact hk
  exact ok_rt (fun fx _ => rt_n hM_24 d_24_14 rfl (by decide) (by decide +kernel)) H
theorem sb_8_0 {m : am_M} : ok 2 24 0 (am_ent 2 [.inr (.inr (some 3008)), .inl 0]) [] m (fun rr m' => rr = [.inl 105] ∧ m' = m) := usb_8_0 ⟨rfl, rfl⟩
theorem usb_8_1 {Q : List am_V → am_M → Prop} {m : am_M}   (H : Q [.inl 100] m) : ok 2 24 0 [some (.inr (.inr (some 3008))), some (.inl 1)] [] m Q := by
  refine ok_sg (pc' := 14) (ls' := [some (.inr (.inr (some 3008))), some (.inl 1)]) (st' := [.inl 100]) (m' := m) (fun fx hfx o hk => ?_) ?_
  · refine r_ld (pc' := 1) hM_24 d_24_0 rfl rfl ?_
    refine r_ld (pc' := 2) hM_24 d_24_1 rfl rfl ?_
    refine r_alF (pc' := 3) (n := 4) hM_24 d_24_2 rfl (by decide) (hfx.2.2 8 (by decide)) (by decide) ?_
    refine r_cl (pc' := 6) (c := (25, 2)) (a := [.inl 1, .inl 4]) (q := []) hM_24 d_24_3 rfl (by decide +kernel) hM_25 rfl rfl rfl (Nat.le_of_ble_eq_true rfl) (Nat.le_of_ble_eq_true rfl) (Or.inl rfl) (ok_rnk (sy_1_4 (m := m)) hfx) (Nat.le_of_ble_eq_true rfl) ?_
    show rn fx 2 (0, 0) 24 6 [some (.inr (.inr (some 3008))), some (.inl 1)] [] (st0 m) o
    refine r_ld (pc' := 7) hM_24 d_24_6 rfl rfl ?_
    refine r_ld (pc' := 8) hM_24 d_24_7 rfl rfl ?_
    refine r_baFk (pc' := 9) (n := 4) (z := 100) hM_24 d_24_8 rfl (by decide) (hfx.2.2 8 (by decide)) (by decide) (by decide +kernel) ?_
    refine r_k (pc' := 12) (v := .inl 255) hM_24 d_24_9 rfl rfl ?_
    refine r_b (pc' := 13) (z := 100) hM_24 d_24_12 rfl (by decide +kernel) ?_
    refine r_stk (pc' := 14) (st' := [.inl 100]) hM_24 d_24_13 rfl (by decide +kernel) ?_
    exact hk
  exact ok_rt (fun fx _ => rt_n hM_24 d_24_14 rfl (by decide) (by decide +kernel)) H
theorem sb_8_1 {m : am_M} : ok 2 24 0 (am_ent 2 [.inr (.inr (some 3008)), .inl 1]) [] m (fun rr m' => rr = [.inl 100] ∧ m' = m) := usb_8_1 ⟨rfl, rfl⟩
theorem usb_8_2 {Q : List am_V → am_M → Prop} {m : am_M}   (H : Q [.inl 108] m) : ok 2 24 0 [some (.inr (.inr (some 3008))), some (.inl 2)] [] m Q := by
  refine ok_sg (pc' := 14) (ls' := [some (.inr (.inr (some 3008))), some (.inl 2)]) (st' := [.inl 108]) (m' := m) (fun fx hfx o hk => ?_) ?_
  · refine r_ld (pc' := 1) hM_24 d_24_0 rfl rfl ?_
    refine r_ld (pc' := 2) hM_24 d_24_1 rfl rfl ?_
    refine r_alF (pc' := 3) (n := 4) hM_24 d_24_2 rfl (by decide) (hfx.2.2 8 (by decide)) (by decide) ?_
    refine r_cl (pc' := 6) (c := (25, 2)) (a := [.inl 2, .inl 4]) (q := []) hM_24 d_24_3 rfl (by decide +kernel) hM_25 rfl rfl rfl (Nat.le_of_ble_eq_true rfl) (Nat.le_of_ble_eq_true rfl) (Or.inl rfl) (ok_rnk (sy_2_4 (m := m)) hfx) (Nat.le_of_ble_eq_true rfl) ?_
    show rn fx 2 (0, 0) 24 6 [some (.inr (.inr (some 3008))), some (.inl 2)] [] (st0 m) o
    refine r_ld (pc' := 7) hM_24 d_24_6 rfl rfl ?_
    refine r_ld (pc' := 8) hM_24 d_24_7 rfl rfl ?_
    refine r_baFk (pc' := 9) (n := 4) (z := 108) hM_24 d_24_8 rfl (by decide) (hfx.2.2 8 (by decide)) (by decide) (by decide +kernel) ?_
    refine r_k (pc' := 12) (v := .inl 255) hM_24 d_24_9 rfl rfl ?_
    refine r_b (pc' := 13) (z := 108) hM_24 d_24_12 rfl (by decide +kernel) ?_
    refine r_stk (pc' := 14) (st' := [.inl 108]) hM_24 d_24_13 rfl (by decide +kernel) ?_
    exact hk
  exact ok_rt (fun fx _ => rt_n hM_24 d_24_14 rfl (by decide) (by decide +kernel)) H
theorem sb_8_2 {m : am_M} : ok 2 24 0 (am_ent 2 [.inr (.inr (some 3008)), .inl 2]) [] m (fun rr m' => rr = [.inl 108] ∧ m' = m) := usb_8_2 ⟨rfl, rfl⟩
theorem usb_8_3 {Q : List am_V → am_M → Prop} {m : am_M}   (H : Q [.inl 101] m) : ok 2 24 0 [some (.inr (.inr (some 3008))), some (.inl 3)] [] m Q := by
  refine ok_sg (pc' := 14) (ls' := [some (.inr (.inr (some 3008))), some (.inl 3)]) (st' := [.inl 101]) (m' := m) (fun fx hfx o hk => ?_) ?_
  · refine r_ld (pc' := 1) hM_24 d_24_0 rfl rfl ?_
    refine r_ld (pc' := 2) hM_24 d_24_1 rfl rfl ?_
    refine r_alF (pc' := 3) (n := 4) hM_24 d_24_2 rfl (by decide) (hfx.2.2 8 (by decide)) (by decide) ?_
    refine r_cl (pc' := 6) (c := (25, 2)) (a := [.inl 3, .inl 4]) (q := []) hM_24 d_24_3 rfl (by decide +kernel) hM_25 rfl rfl rfl (Nat.le_of_ble_eq_true rfl) (Nat.le_of_ble_eq_true rfl) (Or.inl rfl) (ok_rnk (sy_3_4 (m := m)) hfx) (Nat.le_of_ble_eq_true rfl) ?_
    show rn fx 2 (0, 0) 24 6 [some (.inr (.inr (some 3008))), some (.inl 3)] [] (st0 m) o
    refine r_ld (pc' := 7) hM_24 d_24_6 rfl rfl ?_
    refine r_ld (pc' := 8) hM_24 d_24_7 rfl rfl ?_
    refine r_baFk (pc' := 9) (n := 4) (z := 101) hM_24 d_24_8 rfl (by decide) (hfx.2.2 8 (by decide)) (by decide) (by decide +kernel) ?_
    refine r_k (pc' := 12) (v := .inl 255) hM_24 d_24_9 rfl rfl ?_
    refine r_b (pc' := 13) (z := 101) hM_24 d_24_12 rfl (by decide +kernel) ?_
    refine r_stk (pc' := 14) (st' := [.inl 101]) hM_24 d_24_13 rfl (by decide +kernel) ?_
    exact hk
  exact ok_rt (fun fx _ => rt_n hM_24 d_24_14 rfl (by decide) (by decide +kernel)) H
theorem sb_8_3 {m : am_M} : ok 2 24 0 (am_ent 2 [.inr (.inr (some 3008)), .inl 3]) [] m (fun rr m' => rr = [.inl 101] ∧ m' = m) := usb_8_3 ⟨rfl, rfl⟩
theorem usb_9_0 {Q : List am_V → am_M → Prop} {m : am_M}   (H : Q [.inl 98] m) : ok 2 24 0 [some (.inr (.inr (some 3009))), some (.inl 0)] [] m Q := by
  refine ok_sg (pc' := 14) (ls' := [some (.inr (.inr (some 3009))), some (.inl 0)]) (st' := [.inl 98]) (m' := m) (fun fx hfx o hk => ?_) ?_
  · refine r_ld (pc' := 1) hM_24 d_24_0 rfl rfl ?_
    refine r_ld (pc' := 2) hM_24 d_24_1 rfl rfl ?_
    refine r_alF (pc' := 3) (n := 3) hM_24 d_24_2 rfl (by decide) (hfx.2.2 9 (by decide)) (by decide) ?_
    refine r_cl (pc' := 6) (c := (25, 2)) (a := [.inl 0, .inl 3]) (q := []) hM_24 d_24_3 rfl (by decide +kernel) hM_25 rfl rfl rfl (Nat.le_of_ble_eq_true rfl) (Nat.le_of_ble_eq_true rfl) (Or.inl rfl) (ok_rnk (sy_0_3 (m := m)) hfx) (Nat.le_of_ble_eq_true rfl) ?_
    show rn fx 2 (0, 0) 24 6 [some (.inr (.inr (some 3009))), some (.inl 0)] [] (st0 m) o
    refine r_ld (pc' := 7) hM_24 d_24_6 rfl rfl ?_
    refine r_ld (pc' := 8) hM_24 d_24_7 rfl rfl ?_
    refine r_baFk (pc' := 9) (n := 3) (z := 98) hM_24 d_24_8 rfl (by decide) (hfx.2.2 9 (by decide)) (by decide) (by decide +kernel) ?_
    refine r_k (pc' := 12) (v := .inl 255) hM_24 d_24_9 rfl rfl ?_
    refine r_b (pc' := 13) (z := 98) hM_24 d_24_12 rfl (by decide +kernel) ?_
    refine r_stk (pc' := 14) (st' := [.inl 98]) hM_24 d_24_13 rfl (by decide +kernel) ?_
    exact hk
  exact ok_rt (fun fx _ => rt_n hM_24 d_24_14 rfl (by decide) (by decide +kernel)) H
theorem sb_9_0 {m : am_M} : ok 2 24 0 (am_ent 2 [.inr (.inr (some 3009)), .inl 0]) [] m (fun rr m' => rr = [.inl 98] ∧ m' = m) := usb_9_0 ⟨rfl, rfl⟩
theorem usb_9_1 {Q : List am_V → am_M → Prop} {m : am_M}   (H : Q [.inl 97] m) : ok 2 24 0 [some (.inr (.inr (some 3009))), some (.inl 1)] [] m Q := by
  refine ok_sg (pc' := 14) (ls' := [some (.inr (.inr (some 3009))), some (.inl 1)]) (st' := [.inl 97]) (m' := m) (fun fx hfx o hk => ?_) ?_
  · refine r_ld (pc' := 1) hM_24 d_24_0 rfl rfl ?_
    refine r_ld (pc' := 2) hM_24 d_24_1 rfl rfl ?_
    refine r_alF (pc' := 3) (n := 3) hM_24 d_24_2 rfl (by decide) (hfx.2.2 9 (by decide)) (by decide) ?_
    refine r_cl (pc' := 6) (c := (25, 2)) (a := [.inl 1, .inl 3]) (q := []) hM_24 d_24_3 rfl (by decide +kernel) hM_25 rfl rfl rfl (Nat.le_of_ble_eq_true rfl) (Nat.le_of_ble_eq_true rfl) (Or.inl rfl) (ok_rnk (sy_1_3 (m := m)) hfx) (Nat.le_of_ble_eq_true rfl) ?_
    show rn fx 2 (0, 0) 24 6 [some (.inr (.inr (some 3009))), some (.inl 1)] [] (st0 m) o
    refine r_ld (pc' := 7) hM_24 d_24_6 rfl rfl ?_
    refine r_ld (pc' := 8) hM_24 d_24_7 rfl rfl ?_
    refine r_baFk (pc' := 9) (n := 3) (z := 97) hM_24 d_24_8 rfl (by decide) (hfx.2.2 9 (by decide)) (by decide) (by decide +kernel) ?_
    refine r_k (pc' := 12) (v := .inl 255) hM_24 d_24_9 rfl rfl ?_
    refine r_b (pc' := 13) (z := 97) hM_24 d_24_12 rfl (by decide +kernel) ?_
    refine r_stk (pc' := 14) (st' := [.inl 97]) hM_24 d_24_13 rfl (by decide +kernel) ?_
    exact hk
  exact ok_rt (fun fx _ => rt_n hM_24 d_24_14 rfl (by decide) (by decide +kernel)) H
theorem sb_9_1 {m : am_M} : ok 2 24 0 (am_ent 2 [.inr (.inr (some 3009)), .inl 1]) [] m (fun rr m' => rr = [.inl 97] ∧ m' = m) := usb_9_1 ⟨rfl, rfl⟩
theorem usb_9_2 {Q : List am_V → am_M → Prop} {m : am_M}   (H : Q [.inl 100] m) : ok 2 24 0 [some (.inr (.inr (some 3009))), some (.inl 2)] [] m Q := by
  refine ok_sg (pc' := 14) (ls' := [some (.inr (.inr (some 3009))), some (.inl 2)]) (st' := [.inl 100]) (m' := m) (fun fx hfx o hk => ?_) ?_
  · refine r_ld (pc' := 1) hM_24 d_24_0 rfl rfl ?_
    refine r_ld (pc' := 2) hM_24 d_24_1 rfl rfl ?_
    refine r_alF (pc' := 3) (n := 3) hM_24 d_24_2 rfl (by decide) (hfx.2.2 9 (by decide)) (by decide) ?_
    refine r_cl (pc' := 6) (c := (25, 2)) (a := [.inl 2, .inl 3]) (q := []) hM_24 d_24_3 rfl (by decide +kernel) hM_25 rfl rfl rfl (Nat.le_of_ble_eq_true rfl) (Nat.le_of_ble_eq_true rfl) (Or.inl rfl) (ok_rnk (sy_2_3 (m := m)) hfx) (Nat.le_of_ble_eq_true rfl) ?_
    show rn fx 2 (0, 0) 24 6 [some (.inr (.inr (some 3009))), some (.inl 2)] [] (st0 m) o
    refine r_ld (pc' := 7) hM_24 d_24_6 rfl rfl ?_
    refine r_ld (pc' := 8) hM_24 d_24_7 rfl rfl ?_
    refine r_baFk (pc' := 9) (n := 3) (z := 100) hM_24 d_24_8 rfl (by decide) (hfx.2.2 9 (by decide)) (by decide) (by decide +kernel) ?_
    refine r_k (pc' := 12) (v := .inl 255) hM_24 d_24_9 rfl rfl ?_
    refine r_b (pc' := 13) (z := 100) hM_24 d_24_12 rfl (by decide +kernel) ?_
    refine r_stk (pc' := 14) (st' := [.inl 100]) hM_24 d_24_13 rfl (by decide +kernel) ?_
    exact hk
  exact ok_rt (fun fx _ => rt_n hM_24 d_24_14 rfl (by decide) (by decide +kernel)) H
theorem sb_9_2 {m : am_M} : ok 2 24 0 (am_ent 2 [.inr (.inr (some 3009)), .inl 2]) [] m (fun rr m' => rr = [.inl 100] ∧ m' = m) := usb_9_2 ⟨rfl, rfl⟩
theorem usb_10_0 {Q : List am_V → am_M → Prop} {m : am_M}   (H : Q [.inl 115] m) : ok 2 24 0 [some (.inr (.inr (some 3010))), some (.inl 0)] [] m Q := by
  refine ok_sg (pc' := 14) (ls' := [some (.inr (.inr (some 3010))), some (.inl 0)]) (st' := [.inl 115]) (m' := m) (fun fx hfx o hk => ?_) ?_
  · refine r_ld (pc' := 1) hM_24 d_24_0 rfl rfl ?_
    refine r_ld (pc' := 2) hM_24 d_24_1 rfl rfl ?_
    refine r_alF (pc' := 3) (n := 6) hM_24 d_24_2 rfl (by decide) (hfx.2.2 10 (by decide)) (by decide) ?_
    refine r_cl (pc' := 6) (c := (25, 2)) (a := [.inl 0, .inl 6]) (q := []) hM_24 d_24_3 rfl (by decide +kernel) hM_25 rfl rfl rfl (Nat.le_of_ble_eq_true rfl) (Nat.le_of_ble_eq_true rfl) (Or.inl rfl) (ok_rnk (sy_0_6 (m := m)) hfx) (Nat.le_of_ble_eq_true rfl) ?_
    show rn fx 2 (0, 0) 24 6 [some (.inr (.inr (some 3010))), some (.inl 0)] [] (st0 m) o
    refine r_ld (pc' := 7) hM_24 d_24_6 rfl rfl ?_
    refine r_ld (pc' := 8) hM_24 d_24_7 rfl rfl ?_
    refine r_baFk (pc' := 9) (n := 6) (z := 115) hM_24 d_24_8 rfl (by decide) (hfx.2.2 10 (by decide)) (by decide) (by decide +kernel) ?_
    refine r_k (pc' := 12) (v := .inl 255) hM_24 d_24_9 rfl rfl ?_
    refine r_b (pc' := 13) (z := 115) hM_24 d_24_12 rfl (by decide +kernel) ?_
    refine r_stk (pc' := 14) (st' := [.inl 115]) hM_24 d_24_13 rfl (by decide +kernel) ?_
    exact hk
  exact ok_rt (fun fx _ => rt_n hM_24 d_24_14 rfl (by decide) (by decide +kernel)) H
theorem sb_10_0 {m : am_M} : ok 2 24 0 (am_ent 2 [.inr (.inr (some 3010)), .inl 0]) [] m (fun rr m' => rr = [.inl 115] ∧ m' = m) := usb_10_0 ⟨rfl, rfl⟩
theorem usb_10_1 {Q : List am_V → am_M → Prop} {m : am_M}   (H : Q [.inl 116] m) : ok 2 24 0 [some (.inr (.inr (some 3010))), some (.inl 1)] [] m Q := by
  refine ok_sg (pc' := 14) (ls' := [some (.inr (.inr (some 3010))), some (.inl 1)]) (st' := [.inl 116]) (m' := m) (fun fx hfx o hk => ?_) ?_
  · refine r_ld (pc' := 1) hM_24 d_24_0 rfl rfl ?_
    refine r_ld (pc' := 2) hM_24 d_24_1 rfl rfl ?_
    refine r_alF (pc' := 3) (n := 6) hM_24 d_24_2 rfl (by decide) (hfx.2.2 10 (by decide)) (by decide) ?_
    refine r_cl (pc' := 6) (c := (25, 2)) (a := [.inl 1, .inl 6]) (q := []) hM_24 d_24_3 rfl (by decide +kernel) hM_25 rfl rfl rfl (Nat.le_of_ble_eq_true rfl) (Nat.le_of_ble_eq_true rfl) (Or.inl rfl) (ok_rnk (sy_1_6 (m := m)) hfx) (Nat.le_of_ble_eq_true rfl) ?_
    show rn fx 2 (0, 0) 24 6 [some (.inr (.inr (some 3010))), some (.inl 1)] [] (st0 m) o
    refine r_ld (pc' := 7) hM_24 d_24_6 rfl rfl ?_
    refine r_ld (pc' := 8) hM_24 d_24_7 rfl rfl ?_
    refine r_baFk (pc' := 9) (n := 6) (z := 116) hM_24 d_24_8 rfl (by decide) (hfx.2.2 10 (by decide)) (by decide) (by decide +kernel) ?_
    refine r_k (pc' := 12) (v := .inl 255) hM_24 d_24_9 rfl rfl ?_
    refine r_b (pc' := 13) (z := 116) hM_24 d_24_12 rfl (by decide +kernel) ?_
    refine r_stk (pc' := 14) (st' := [.inl 116]) hM_24 d_24_13 rfl (by decide +kernel) ?_
    exact hk
  exact ok_rt (fun fx _ => rt_n hM_24 d_24_14 rfl (by decide) (by decide +kernel)) H
theorem sb_10_1 {m : am_M} : ok 2 24 0 (am_ent 2 [.inr (.inr (some 3010)), .inl 1]) [] m (fun rr m' => rr = [.inl 116] ∧ m' = m) := usb_10_1 ⟨rfl, rfl⟩
theorem usb_10_2 {Q : List am_V → am_M → Prop} {m : am_M}   (H : Q [.inl 111] m) : ok 2 24 0 [some (.inr (.inr (some 3010))), some (.inl 2)] [] m Q := by
  refine ok_sg (pc' := 14) (ls' := [some (.inr (.inr (some 3010))), some (.inl 2)]) (st' := [.inl 111]) (m' := m) (fun fx hfx o hk => ?_) ?_
  · refine r_ld (pc' := 1) hM_24 d_24_0 rfl rfl ?_
    refine r_ld (pc' := 2) hM_24 d_24_1 rfl rfl ?_
    refine r_alF (pc' := 3) (n := 6) hM_24 d_24_2 rfl (by decide) (hfx.2.2 10 (by decide)) (by decide) ?_
    refine r_cl (pc' := 6) (c := (25, 2)) (a := [.inl 2, .inl 6]) (q := []) hM_24 d_24_3 rfl (by decide +kernel) hM_25 rfl rfl rfl (Nat.le_of_ble_eq_true rfl) (Nat.le_of_ble_eq_true rfl) (Or.inl rfl) (ok_rnk (sy_2_6 (m := m)) hfx) (Nat.le_of_ble_eq_true rfl) ?_
    show rn fx 2 (0, 0) 24 6 [some (.inr (.inr (some 3010))), some (.inl 2)] [] (st0 m) o
    refine r_ld (pc' := 7) hM_24 d_24_6 rfl rfl ?_
    refine r_ld (pc' := 8) hM_24 d_24_7 rfl rfl ?_
    refine r_baFk (pc' := 9) (n := 6) (z := 111) hM_24 d_24_8 rfl (by decide) (hfx.2.2 10 (by decide)) (by decide) (by decide +kernel) ?_
    refine r_k (pc' := 12) (v := .inl 255) hM_24 d_24_9 rfl rfl ?_
    refine r_b (pc' := 13) (z := 111) hM_24 d_24_12 rfl (by decide +kernel) ?_
    refine r_stk (pc' := 14) (st' := [.inl 111]) hM_24 d_24_13 rfl (by decide +kernel) ?_
    exact hk
  exact ok_rt (fun fx _ => rt_n hM_24 d_24_14 rfl (by decide) (by decide +kernel)) H
theorem sb_10_2 {m : am_M} : ok 2 24 0 (am_ent 2 [.inr (.inr (some 3010)), .inl 2]) [] m (fun rr m' => rr = [.inl 111] ∧ m' = m) := usb_10_2 ⟨rfl, rfl⟩
theorem usb_10_3 {Q : List am_V → am_M → Prop} {m : am_M}   (H : Q [.inl 110] m) : ok 2 24 0 [some (.inr (.inr (some 3010))), some (.inl 3)] [] m Q := by
  refine ok_sg (pc' := 14) (ls' := [some (.inr (.inr (some 3010))), some (.inl 3)]) (st' := [.inl 110]) (m' := m) (fun fx hfx o hk => ?_) ?_
  · refine r_ld (pc' := 1) hM_24 d_24_0 rfl rfl ?_
    refine r_ld (pc' := 2) hM_24 d_24_1 rfl rfl ?_
    refine r_alF (pc' := 3) (n := 6) hM_24 d_24_2 rfl (by decide) (hfx.2.2 10 (by decide)) (by decide) ?_
    refine r_cl (pc' := 6) (c := (25, 2)) (a := [.inl 3, .inl 6]) (q := []) hM_24 d_24_3 rfl (by decide +kernel) hM_25 rfl rfl rfl (Nat.le_of_ble_eq_true rfl) (Nat.le_of_ble_eq_true rfl) (Or.inl rfl) (ok_rnk (sy_3_6 (m := m)) hfx) (Nat.le_of_ble_eq_true rfl) ?_
    show rn fx 2 (0, 0) 24 6 [some (.inr (.inr (some 3010))), some (.inl 3)] [] (st0 m) o
    refine r_ld (pc' := 7) hM_24 d_24_6 rfl rfl ?_
    refine r_ld (pc' := 8) hM_24 d_24_7 rfl rfl ?_
    refine r_baFk (pc' := 9) (n := 6) (z := 110) hM_24 d_24_8 rfl (by decide) (hfx.2.2 10 (by decide)) (by decide) (by decide +kernel) ?_
    refine r_k (pc' := 12) (v := .inl 255) hM_24 d_24_9 rfl rfl ?_
    refine r_b (pc' := 13) (z := 110) hM_24 d_24_12 rfl (by decide +kernel) ?_
    refine r_stk (pc' := 14) (st' := [.inl 110]) hM_24 d_24_13 rfl (by decide +kernel) ?_
    exact hk
  exact ok_rt (fun fx _ => rt_n hM_24 d_24_14 rfl (by decide) (by decide +kernel)) H
theorem sb_10_3 {m : am_M} : ok 2 24 0 (am_ent 2 [.inr (.inr (some 3010)), .inl 3]) [] m (fun rr m' => rr = [.inl 110] ∧ m' = m) := usb_10_3 ⟨rfl, rfl⟩
theorem usb_10_4 {Q : List am_V → am_M → Prop} {m : am_M}   (H : Q [.inl 101] m) : ok 2 24 0 [some (.inr (.inr (some 3010))), some (.inl 4)] [] m Q := by
  refine ok_sg (pc' := 14) (ls' := [some (.inr (.inr (some 3010))), some (.inl 4)]) (st' := [.inl 101]) (m' := m) (fun fx hfx o hk => ?_) ?_
  · refine r_ld (pc' := 1) hM_24 d_24_0 rfl rfl ?_
    refine r_ld (pc' := 2) hM_24 d_24_1 rfl rfl ?_
    refine r_alF (pc' := 3) (n := 6) hM_24 d_24_2 rfl (by decide) (hfx.2.2 10 (by decide)) (by decide) ?_
    refine r_cl (pc' := 6) (c := (25, 2)) (a := [.inl 4, .inl 6]) (q := []) hM_24 d_24_3 rfl (by decide +kernel) hM_25 rfl rfl rfl (Nat.le_of_ble_eq_true rfl) (Nat.le_of_ble_eq_true rfl) (Or.inl rfl) (ok_rnk (sy_4_6 (m := m)) hfx) (Nat.le_of_ble_eq_true rfl) ?_
    show rn fx 2 (0, 0) 24 6 [some (.inr (.inr (some 3010))), some (.inl 4)] [] (st0 m) o
    refine r_ld (pc' := 7) hM_24 d_24_6 rfl rfl ?_
    refine r_ld (pc' := 8) hM_24 d_24_7 rfl rfl ?_
    refine r_baFk (pc' := 9) (n := 6) (z := 101) hM_24 d_24_8 rfl (by decide) (hfx.2.2 10 (by decide)) (by decide) (by decide +kernel) ?_
    refine r_k (pc' := 12) (v := .inl 255) hM_24 d_24_9 rfl rfl ?_
    refine r_b (pc' := 13) (z := 101) hM_24 d_24_12 rfl (by decide +kernel) ?_
    refine r_stk (pc' := 14) (st' := [.inl 101]) hM_24 d_24_13 rfl (by decide +kernel) ?_
    exact hk
  exact ok_rt (fun fx _ => rt_n hM_24 d_24_14 rfl (by decide) (by decide +kernel)) H
theorem sb_10_4 {m : am_M} : ok 2 24 0 (am_ent 2 [.inr (.inr (some 3010)), .inl 4]) [] m (fun rr m' => rr = [.inl 101] ∧ m' = m) := usb_10_4 ⟨rfl, rfl⟩
theorem usb_10_5 {Q : List am_V → am_M → Prop} {m : am_M}   (H : Q [.inl 115] m) : ok 2 24 0 [some (.inr (.inr (some 3010))), some (.inl 5)] [] m Q := by
  refine ok_sg (pc' := 14) (ls' := [some (.inr (.inr (some 3010))), some (.inl 5)]) (st' := [.inl 115]) (m' := m) (fun fx hfx o hk => ?_) ?_
  · refine r_ld (pc' := 1) hM_24 d_24_0 rfl rfl ?_
    refine r_ld (pc' := 2) hM_24 d_24_1 rfl rfl ?_
    refine r_alF (pc' := 3) (n := 6) hM_24 d_24_2 rfl (by decide) (hfx.2.2 10 (by decide)) (by decide) ?_
    refine r_cl (pc' := 6) (c := (25, 2)) (a := [.inl 5, .inl 6]) (q := []) hM_24 d_24_3 rfl (by decide +kernel) hM_25 rfl rfl rfl (Nat.le_of_ble_eq_true rfl) (Nat.le_of_ble_eq_true rfl) (Or.inl rfl) (ok_rnk (sy_5_6 (m := m)) hfx) (Nat.le_of_ble_eq_true rfl) ?_
    show rn fx 2 (0, 0) 24 6 [some (.inr (.inr (some 3010))), some (.inl 5)] [] (st0 m) o
    refine r_ld (pc' := 7) hM_24 d_24_6 rfl rfl ?_
    refine r_ld (pc' := 8) hM_24 d_24_7 rfl rfl ?_
    refine r_baFk (pc' := 9) (n := 6) (z := 115) hM_24 d_24_8 rfl (by decide) (hfx.2.2 10 (by decide)) (by decide) (by decide +kernel) ?_
    refine r_k (pc' := 12) (v := .inl 255) hM_24 d_24_9 rfl rfl ?_
    refine r_b (pc' := 13) (z := 115) hM_24 d_24_12 rfl (by decide +kernel) ?_
    refine r_stk (pc' := 14) (st' := [.inl 115]) hM_24 d_24_13 rfl (by decide +kernel) ?_
    exact hk
  exact ok_rt (fun fx _ => rt_n hM_24 d_24_14 rfl (by decide) (by decide +kernel)) H
theorem sb_10_5 {m : am_M} : ok 2 24 0 (am_ent 2 [.inr (.inr (some 3010)), .inl 5]) [] m (fun rr m' => rr = [.inl 115] ∧ m' = m) := usb_10_5 ⟨rfl, rfl⟩
theorem usb_11_0 {Q : List am_V → am_M → Prop} {m : am_M}   (H : Q [.inl 32] m) : ok 2 24 0 [some (.inr (.inr (some 3011))), some (.inl 0)] [] m Q := by
  refine ok_sg (pc' := 14) (ls' := [some (.inr (.inr (some 3011))), some (.inl 0)]) (st' := [.inl 32]) (m' := m) (fun fx hfx o hk => ?_) ?_
  · refine r_ld (pc' := 1) hM_24 d_24_0 rfl rfl ?_
    refine r_ld (pc' := 2) hM_24 d_24_1 rfl rfl ?_
    refine r_alF (pc' := 3) (n := 57) hM_24 d_24_2 rfl (by decide) (hfx.2.2 11 (by decide)) (by decide) ?_
    refine r_cl (pc' := 6) (c := (25, 2)) (a := [.inl 0, .inl 57]) (q := []) hM_24 d_24_3 rfl (by decide +kernel) hM_25 rfl rfl rfl (Nat.le_of_ble_eq_true rfl) (Nat.le_of_ble_eq_true rfl) (Or.inl rfl) (ok_rnk (sy_0_57 (m := m)) hfx) (Nat.le_of_ble_eq_true rfl) ?_
    show rn fx 2 (0, 0) 24 6 [some (.inr (.inr (some 3011))), some (.inl 0)] [] (st0 m) o
    refine r_ld (pc' := 7) hM_24 d_24_6 rfl rfl ?_
    refine r_ld (pc' := 8) hM_24 d_24_7 rfl rfl ?_
    refine r_baFk (pc' := 9) (n := 57) (z := 32) hM_24 d_24_8 rfl (by decide) (hfx.2.2 11 (by decide)) (by decide) (by decide +kernel) ?_
    refine r_k (pc' := 12) (v := .inl 255) hM_24 d_24_9 rfl rfl ?_
    refine r_b (pc' := 13) (z := 32) hM_24 d_24_12 rfl (by decide +kernel) ?_
    refine r_stk (pc' := 14) (st' := [.inl 32]) hM_24 d_24_13 rfl (by decide +kernel) ?_
    exact hk
  exact ok_rt (fun fx _ => rt_n hM_24 d_24_14 rfl (by decide) (by decide +kernel)) H
theorem sb_11_0 {m : am_M} : ok 2 24 0 (am_ent 2 [.inr (.inr (some 3011)), .inl 0]) [] m (fun rr m' => rr = [.inl 32] ∧ m' = m) := usb_11_0 ⟨rfl, rfl⟩
theorem usb_11_1 {Q : List am_V → am_M → Prop} {m : am_M}   (H : Q [.inl 98] m) : ok 2 24 0 [some (.inr (.inr (some 3011))), some (.inl 1)] [] m Q := by
  refine ok_sg (pc' := 14) (ls' := [some (.inr (.inr (some 3011))), some (.inl 1)]) (st' := [.inl 98]) (m' := m) (fun fx hfx o hk => ?_) ?_
  · refine r_ld (pc' := 1) hM_24 d_24_0 rfl rfl ?_
    refine r_ld (pc' := 2) hM_24 d_24_1 rfl rfl ?_
    refine r_alF (pc' := 3) (n := 57) hM_24 d_24_2 rfl (by decide) (hfx.2.2 11 (by decide)) (by decide) ?_
    refine r_cl (pc' := 6) (c := (25, 2)) (a := [.inl 1, .inl 57]) (q := []) hM_24 d_24_3 rfl (by decide +kernel) hM_25 rfl rfl rfl (Nat.le_of_ble_eq_true rfl) (Nat.le_of_ble_eq_true rfl) (Or.inl rfl) (ok_rnk (sy_1_57 (m := m)) hfx) (Nat.le_of_ble_eq_true rfl) ?_
    show rn fx 2 (0, 0) 24 6 [some (.inr (.inr (some 3011))), some (.inl 1)] [] (st0 m) o
    refine r_ld (pc' := 7) hM_24 d_24_6 rfl rfl ?_
    refine r_ld (pc' := 8) hM_24 d_24_7 rfl rfl ?_
    refine r_baFk (pc' := 9) (n := 57) (z := 98) hM_24 d_24_8 rfl (by decide) (hfx.2.2 11 (by decide)) (by decide) (by decide +kernel) ?_
    refine r_k (pc' := 12) (v := .inl 255) hM_24 d_24_9 rfl rfl ?_
    refine r_b (pc' := 13) (z := 98) hM_24 d_24_12 rfl (by decide +kernel) ?_
    refine r_stk (pc' := 14) (st' := [.inl 98]) hM_24 d_24_13 rfl (by decide +kernel) ?_
    exact hk
  exact ok_rt (fun fx _ => rt_n hM_24 d_24_14 rfl (by decide) (by decide +kernel)) H
theorem sb_11_1 {m : am_M} : ok 2 24 0 (am_ent 2 [.inr (.inr (some 3011)), .inl 1]) [] m (fun rr m' => rr = [.inl 98] ∧ m' = m) := usb_11_1 ⟨rfl, rfl⟩
theorem usb_11_2 {Q : List am_V → am_M → Prop} {m : am_M}   (H : Q [.inl 97] m) : ok 2 24 0 [some (.inr (.inr (some 3011))), some (.inl 2)] [] m Q := by
  refine ok_sg (pc' := 14) (ls' := [some (.inr (.inr (some 3011))), some (.inl 2)]) (st' := [.inl 97]) (m' := m) (fun fx hfx o hk => ?_) ?_
  · refine r_ld (pc' := 1) hM_24 d_24_0 rfl rfl ?_
    refine r_ld (pc' := 2) hM_24 d_24_1 rfl rfl ?_
    refine r_alF (pc' := 3) (n := 57) hM_24 d_24_2 rfl (by decide) (hfx.2.2 11 (by decide)) (by decide) ?_
    refine r_cl (pc' := 6) (c := (25, 2)) (a := [.inl 2, .inl 57]) (q := []) hM_24 d_24_3 rfl (by decide +kernel) hM_25 rfl rfl rfl (Nat.le_of_ble_eq_true rfl) (Nat.le_of_ble_eq_true rfl) (Or.inl rfl) (ok_rnk (sy_2_57 (m := m)) hfx) (Nat.le_of_ble_eq_true rfl) ?_
    show rn fx 2 (0, 0) 24 6 [some (.inr (.inr (some 3011))), some (.inl 2)] [] (st0 m) o
    refine r_ld (pc' := 7) hM_24 d_24_6 rfl rfl ?_
    refine r_ld (pc' := 8) hM_24 d_24_7 rfl rfl ?_
    refine r_baFk (pc' := 9) (n := 57) (z := 97) hM_24 d_24_8 rfl (by decide) (hfx.2.2 11 (by decide)) (by decide) (by decide +kernel) ?_
    refine r_k (pc' := 12) (v := .inl 255) hM_24 d_24_9 rfl rfl ?_
    refine r_b (pc' := 13) (z := 97) hM_24 d_24_12 rfl (by decide +kernel) ?_
    refine r_stk (pc' := 14) (st' := [.inl 97]) hM_24 d_24_13 rfl (by decide +kernel) ?_
    exact hk
  exact ok_rt (fun fx _ => rt_n hM_24 d_24_14 rfl (by decide) (by decide +kernel)) H
theorem sb_11_2 {m : am_M} : ok 2 24 0 (am_ent 2 [.inr (.inr (some 3011)), .inl 2]) [] m (fun rr m' => rr = [.inl 97] ∧ m' = m) := usb_11_2 ⟨rfl, rfl⟩
theorem usb_11_3 {Q : List am_V → am_M → Prop} {m : am_M}   (H : Q [.inl 114] m) : ok 2 24 0 [some (.inr (.inr (some 3011))), some (.inl 3)] [] m Q := by
  refine ok_sg (pc' := 14) (ls' := [some (.inr (.inr (some 3011))), some (.inl 3)]) (st' := [.inl 114]) (m' := m) (fun fx hfx o hk => ?_) ?_
  · refine r_ld (pc' := 1) hM_24 d_24_0 rfl rfl ?_
    refine r_ld (pc' := 2) hM_24 d_24_1 rfl rfl ?_
    refine r_alF (pc' := 3) (n := 57) hM_24 d_24_2 rfl (by decide) (hfx.2.2 11 (by decide)) (by decide) ?_
    refine r_cl (pc' := 6) (c := (25, 2)) (a := [.inl 3, .inl 57]) (q := []) hM_24 d_24_3 rfl (by decide +kernel) hM_25 rfl rfl rfl (Nat.le_of_ble_eq_true rfl) (Nat.le_of_ble_eq_true rfl) (Or.inl rfl) (ok_rnk (sy_3_57 (m := m)) hfx) (Nat.le_of_ble_eq_true rfl) ?_
    show rn fx 2 (0, 0) 24 6 [some (.inr (.inr (some 3011))), some (.inl 3)] [] (st0 m) o
    refine r_ld (pc' := 7) hM_24 d_24_6 rfl rfl ?_
    refine r_ld (pc' := 8) hM_24 d_24_7 rfl rfl ?_
    refine r_baFk (pc' := 9) (n := 57) (z := 114) hM_24 d_24_8 rfl (by decide) (hfx.2.2 11 (by decide)) (by decide) (by decide +kernel) ?_
    refine r_k (pc' := 12) (v := .inl 255) hM_24 d_24_9 rfl rfl ?_
    refine r_b (pc' := 13) (z := 114) hM_24 d_24_12 rfl (by decide +kernel) ?_
    refine r_stk (pc' := 14) (st' := [.inl 114]) hM_24 d_24_13 rfl (by decide +kernel) ?_
    exact hk
  exact ok_rt (fun fx _ => rt_n hM_24 d_24_14 rfl (by decide) (by decide +kernel)) H
theorem sb_11_3 {m : am_M} : ok 2 24 0 (am_ent 2 [.inr (.inr (some 3011)), .inl 3]) [] m (fun rr m' => rr = [.inl 114] ∧ m' = m) := usb_11_3 ⟨rfl, rfl⟩
theorem usb_11_4 {Q : List am_V → am_M → Prop} {m : am_M}   (H : Q [.inl 114] m) : ok 2 24 0 [some (.inr (.inr (some 3011))), some (.inl 4)] [] m Q := by
  refine ok_sg (pc' := 14) (ls' := [some (.inr (.inr (some 3011))), some (.inl 4)]) (st' := [.inl 114]) (m' := m) (fun fx hfx o hk => ?_) ?_
  · refine r_ld (pc' := 1) hM_24 d_24_0 rfl rfl ?_
    refine r_ld (pc' := 2) hM_24 d_24_1 rfl rfl ?_
    refine r_alF (pc' := 3) (n := 57) hM_24 d_24_2 rfl (by decide) (hfx.2.2 11 (by decide)) (by decide) ?_
    refine r_cl (pc' := 6) (c := (25, 2)) (a := [.inl 4, .inl 57]) (q := []) hM_24 d_24_3 rfl (by decide +kernel) hM_25 rfl rfl rfl (Nat.le_of_ble_eq_true rfl) (Nat.le_of_ble_eq_true rfl) (Or.inl rfl) (ok_rnk (sy_4_57 (m := m)) hfx) (Nat.le_of_ble_eq_true rfl) ?_
    show rn fx 2 (0, 0) 24 6 [some (.inr (.inr (some 3011))), some (.inl 4)] [] (st0 m) o
    refine r_ld (pc' := 7) hM_24 d_24_6 rfl rfl ?_
    refine r_ld (pc' := 8) hM_24 d_24_7 rfl rfl ?_
    refine r_baFk (pc' := 9) (n := 57) (z := 114) hM_24 d_24_8 rfl (by decide) (hfx.2.2 11 (by decide)) (by decide) (by decide +kernel) ?_
    refine r_k (pc' := 12) (v := .inl 255) hM_24 d_24_9 rfl rfl ?_
    refine r_b (pc' := 13) (z := 114) hM_24 d_24_12 rfl (by decide +kernel) ?_
    refine r_stk (pc' := 14) (st' := [.inl 114]) hM_24 d_24_13 rfl (by decide +kernel) ?_
    exact hk
  exact ok_rt (fun fx _ => rt_n hM_24 d_24_14 rfl (by decide) (by decide +kernel)) H
theorem sb_11_4 {m : am_M} : ok 2 24 0 (am_ent 2 [.inr (.inr (some 3011)), .inl 4]) [] m (fun rr m' => rr = [.inl 114] ∧ m' = m) := usb_11_4 ⟨rfl, rfl⟩
theorem usb_11_5 {Q : List am_V → am_M → Prop} {m : am_M}   (H : Q [.inl 101] m) : ok 2 24 0 [some (.inr (.inr (some 3011))), some (.inl 5)] [] m Q := by
  refine ok_sg (pc' := 14) (ls' := [some (.inr (.inr (some 3011))), some (.inl 5)]) (st' := [.inl 101]) (m' := m) (fun fx hfx o hk => ?_) ?_
  · refine r_ld (pc' := 1) hM_24 d_24_0 rfl rfl ?_
    refine r_ld (pc' := 2) hM_24 d_24_1 rfl rfl ?_
    refine r_alF (pc' := 3) (n := 57) hM_24 d_24_2 rfl (by decide) (hfx.2.2 11 (by decide)) (by decide) ?_
    refine r_cl (pc' := 6) (c := (25, 2)) (a := [.inl 5, .inl 57]) (q := []) hM_24 d_24_3 rfl (by decide +kernel) hM_25 rfl rfl rfl (Nat.le_of_ble_eq_true rfl) (Nat.le_of_ble_eq_true rfl) (Or.inl rfl) (ok_rnk (sy_5_57 (m := m)) hfx) (Nat.le_of_ble_eq_true rfl) ?_
    show rn fx 2 (0, 0) 24 6 [some (.inr (.inr (some 3011))), some (.inl 5)] [] (st0 m) o
    refine r_ld (pc' := 7) hM_24 d_24_6 rfl rfl ?_
    refine r_ld (pc' := 8) hM_24 d_24_7 rfl rfl ?_
    refine r_baFk (pc' := 9) (n := 57) (z := 101) hM_24 d_24_8 rfl (by decide) (hfx.2.2 11 (by decide)) (by decide) (by decide +kernel) ?_
    refine r_k (pc' := 12) (v := .inl 255) hM_24 d_24_9 rfl rfl ?_
    refine r_b (pc' := 13) (z := 101) hM_24 d_24_12 rfl (by decide +kernel) ?_
    refine r_stk (pc' := 14) (st' := [.inl 101]) hM_24 d_24_13 rfl (by decide +kernel) ?_
    exact hk
  exact ok_rt (fun fx _ => rt_n hM_24 d_24_14 rfl (by decide) (by decide +kernel)) H
theorem sb_11_5 {m : am_M} : ok 2 24 0 (am_ent 2 [.inr (.inr (some 3011)), .inl 5]) [] m (fun rr m' => rr = [.inl 101] ∧ m' = m) := usb_11_5 ⟨rfl, rfl⟩
theorem usb_11_6 {Q : List am_V → am_M → Prop} {m : am_M}   (H : Q [.inl 108] m) : ok 2 24 0 [some (.inr (.inr (some 3011))), some (.inl 6)] [] m Q := by
  refine ok_sg (pc' := 14) (ls' := [some (.inr (.inr (some 3011))), some (.inl 6)]) (st' := [.inl 108]) (m' := m) (fun fx hfx o hk => ?_) ?_
  · refine r_ld (pc' := 1) hM_24 d_24_0 rfl rfl ?_
    refine r_ld (pc' := 2) hM_24 d_24_1 rfl rfl ?_
    refine r_alF (pc' := 3) (n := 57) hM_24 d_24_2 rfl (by decide) (hfx.2.2 11 (by decide)) (by decide) ?_
    refine r_cl (pc' := 6) (c := (25, 2)) (a := [.inl 6, .inl 57]) (q := []) hM_24 d_24_3 rfl (by decide +kernel) hM_25 rfl rfl rfl (Nat.le_of_ble_eq_true rfl) (Nat.le_of_ble_eq_true rfl) (Or.inl rfl) (ok_rnk (sy_6_57 (m := m)) hfx) (Nat.le_of_ble_eq_true rfl) ?_
    show rn fx 2 (0, 0) 24 6 [some (.inr (.inr (some 3011))), some (.inl 6)] [] (st0 m) o
    refine r_ld (pc' := 7) hM_24 d_24_6 rfl rfl ?_
    refine r_ld (pc' := 8) hM_24 d_24_7 rfl rfl ?_
    refine r_baFk (pc' := 9) (n := 57) (z := 108) hM_24 d_24_8 rfl (by decide) (hfx.2.2 11 (by decide)) (by decide) (by decide +kernel) ?_
    refine r_k (pc' := 12) (v := .inl 255) hM_24 d_24_9 rfl rfl ?_
    refine r_b (pc' := 13) (z := 108) hM_24 d_24_12 rfl (by decide +kernel) ?_
    refine r_stk (pc' := 14) (st' := [.inl 108]) hM_24 d_24_13 rfl (by decide +kernel) ?_
    exact hk
  exact ok_rt (fun fx _ => rt_n hM_24 d_24_14 rfl (by decide) (by decide +kernel)) H
theorem sb_11_6 {m : am_M} : ok 2 24 0 (am_ent 2 [.inr (.inr (some 3011)), .inl 6]) [] m (fun rr m' => rr = [.inl 108] ∧ m' = m) := usb_11_6 ⟨rfl, rfl⟩
theorem usb_11_7 {Q : List am_V → am_M → Prop} {m : am_M}   (H : Q [.inl 32] m) : ok 2 24 0 [some (.inr (.inr (some 3011))), some (.inl 7)] [] m Q := by
  refine ok_sg (pc' := 14) (ls' := [some (.inr (.inr (some 3011))), some (.inl 7)]) (st' := [.inl 32]) (m' := m) (fun fx hfx o hk => ?_) ?_
  · refine r_ld (pc' := 1) hM_24 d_24_0 rfl rfl ?_
    refine r_ld (pc' := 2) hM_24 d_24_1 rfl rfl ?_
    refine r_alF (pc' := 3) (n := 57) hM_24 d_24_2 rfl (by decide) (hfx.2.2 11 (by decide)) (by decide) ?_
    refine r_cl (pc' := 6) (c := (25, 2)) (a := [.inl 7, .inl 57]) (q := []) hM_24 d_24_3 rfl (by decide +kernel) hM_25 rfl rfl rfl (Nat.le_of_ble_eq_true rfl) (Nat.le_of_ble_eq_true rfl) (Or.inl rfl) (ok_rnk (sy_7_57 (m := m)) hfx) (Nat.le_of_ble_eq_true rfl) ?_
    show rn fx 2 (0, 0) 24 6 [some (.inr (.inr (some 3011))), some (.inl 7)] [] (st0 m) o
    refine r_ld (pc' := 7) hM_24 d_24_6 rfl rfl ?_
    refine r_ld (pc' := 8) hM_24 d_24_7 rfl rfl ?_
    refine r_baFk (pc' := 9) (n := 57) (z := 32) hM_24 d_24_8 rfl (by decide) (hfx.2.2 11 (by decide)) (by decide) (by decide +kernel) ?_
    refine r_k (pc' := 12) (v := .inl 255) hM_24 d_24_9 rfl rfl ?_
    refine r_b (pc' := 13) (z := 32) hM_24 d_24_12 rfl (by decide +kernel) ?_
    refine r_stk (pc' := 14) (st' := [.inl 32]) hM_24 d_24_13 rfl (by decide +kernel) ?_
    exact hk
  exact ok_rt (fun fx _ => rt_n hM_24 d_24_14 rfl (by decide) (by decide +kernel)) H
theorem sb_11_7 {m : am_M} : ok 2 24 0 (am_ent 2 [.inr (.inr (some 3011)), .inl 7]) [] m (fun rr m' => rr = [.inl 32] ∧ m' = m) := usb_11_7 ⟨rfl, rfl⟩
theorem usb_11_8 {Q : List am_V → am_M → Prop} {m : am_M}   (H : Q [.inl 114] m) : ok 2 24 0 [some (.inr (.inr (some 3011))), some (.inl 8)] [] m Q := by
  refine ok_sg (pc' := 14) (ls' := [some (.inr (.inr (some 3011))), some (.inl 8)]) (st' := [.inl 114]) (m' := m) (fun fx hfx o hk => ?_) ?_
  · refine r_ld (pc' := 1) hM_24 d_24_0 rfl rfl ?_
    refine r_ld (pc' := 2) hM_24 d_24_1 rfl rfl ?_
    refine r_alF (pc' := 3) (n := 57) hM_24 d_24_2 rfl (by decide) (hfx.2.2 11 (by decide)) (by decide) ?_
    refine r_cl (pc' := 6) (c := (25, 2)) (a := [.inl 8, .inl 57]) (q := []) hM_24 d_24_3 rfl (by decide +kernel) hM_25 rfl rfl rfl (Nat.le_of_ble_eq_true rfl) (Nat.le_of_ble_eq_true rfl) (Or.inl rfl) (ok_rnk (sy_8_57 (m := m)) hfx) (Nat.le_of_ble_eq_true rfl) ?_
    show rn fx 2 (0, 0) 24 6 [some (.inr (.inr (some 3011))), some (.inl 8)] [] (st0 m) o
    refine r_ld (pc' := 7) hM_24 d_24_6 rfl rfl ?_
    refine r_ld (pc' := 8) hM_24 d_24_7 rfl rfl ?_
    refine r_baFk (pc' := 9) (n := 57) (z := 114) hM_24 d_24_8 rfl (by decide) (hfx.2.2 11 (by decide)) (by decide) (by decide +kernel) ?_
    refine r_k (pc' := 12) (v := .inl 255) hM_24 d_24_9 rfl rfl ?_
    refine r_b (pc' := 13) (z := 114) hM_24 d_24_12 rfl (by decide +kernel) ?_
    refine r_stk (pc' := 14) (st' := [.inl 114]) hM_24 d_24_13 rfl (by decide +kernel) ?_
    exact hk
  exact ok_rt (fun fx _ => rt_n hM_24 d_24_14 rfl (by decide) (by decide +kernel)) H
theorem sb_11_8 {m : am_M} : ok 2 24 0 (am_ent 2 [.inr (.inr (some 3011)), .inl 8]) [] m (fun rr m' => rr = [.inl 114] ∧ m' = m) := usb_11_8 ⟨rfl, rfl⟩
theorem usb_11_9 {Q : List am_V → am_M → Prop} {m : am_M}   (H : Q [.inl 105] m) : ok 2 24 0 [some (.inr (.inr (some 3011))), some (.inl 9)] [] m Q := by
  refine ok_sg (pc' := 14) (ls' := [some (.inr (.inr (some 3011))), some (.inl 9)]) (st' := [.inl 105]) (m' := m) (fun fx hfx o hk => ?_) ?_
  · refine r_ld (pc' := 1) hM_24 d_24_0 rfl rfl ?_
    refine r_ld (pc' := 2) hM_24 d_24_1 rfl rfl ?_
    refine r_alF (pc' := 3) (n := 57) hM_24 d_24_2 rfl (by decide) (hfx.2.2 11 (by decide)) (by decide) ?_
    refine r_cl (pc' := 6) (c := (25, 2)) (a := [.inl 9, .inl 57]) (q := []) hM_24 d_24_3 rfl (by decide +kernel) hM_25 rfl rfl rfl (Nat.le_of_ble_eq_true rfl) (Nat.le_of_ble_eq_true rfl) (Or.inl rfl) (ok_rnk (sy_9_57 (m := m)) hfx) (Nat.le_of_ble_eq_true rfl) ?_
    show rn fx 2 (0, 0) 24 6 [some (.inr (.inr (some 3011))), some (.inl 9)] [] (st0 m) o
    refine r_ld (pc' := 7) hM_24 d_24_6 rfl rfl ?_
    refine r_ld (pc' := 8) hM_24 d_24_7 rfl rfl ?_
    refine r_baFk (pc' := 9) (n := 57) (z := 105) hM_24 d_24_8 rfl (by decide) (hfx.2.2 11 (by decide)) (by decide) (by decide +kernel) ?_
    refine r_k (pc' := 12) (v := .inl 255) hM_24 d_24_9 rfl rfl ?_
    refine r_b (pc' := 13) (z := 105) hM_24 d_24_12 rfl (by decide +kernel) ?_
    refine r_stk (pc' := 14) (st' := [.inl 105]) hM_24 d_24_13 rfl (by decide +kernel) ?_
    exact hk
  exact ok_rt (fun fx _ => rt_n hM_24 d_24_14 rfl (by decide) (by decide +kernel)) H
theorem sb_11_9 {m : am_M} : ok 2 24 0 (am_ent 2 [.inr (.inr (some 3011)), .inl 9]) [] m (fun rr m' => rr = [.inl 105] ∧ m' = m) := usb_11_9 ⟨rfl, rfl⟩
theorem usb_11_10 {Q : List am_V → am_M → Prop} {m : am_M}   (H : Q [.inl 112] m) : ok 2 24 0 [some (.inr (.inr (some 3011))), some (.inl 10)] [] m Q := by
  refine ok_sg (pc' := 14) (ls' := [some (.inr (.inr (some 3011))), some (.inl 10)]) (st' := [.inl 112]) (m' := m) (fun fx hfx o hk => ?_) ?_
  · refine r_ld (pc' := 1) hM_24 d_24_0 rfl rfl ?_
    refine r_ld (pc' := 2) hM_24 d_24_1 rfl rfl ?_
    refine r_alF (pc' := 3) (n := 57) hM_24 d_24_2 rfl (by decide) (hfx.2.2 11 (by decide)) (by decide) ?_
    refine r_cl (pc' := 6) (c := (25, 2)) (a := [.inl 10, .inl 57]) (q := []) hM_24 d_24_3 rfl (by decide +kernel) hM_25 rfl rfl rfl (Nat.le_of_ble_eq_true rfl) (Nat.le_of_ble_eq_true rfl) (Or.inl rfl) (ok_rnk (sy_10_57 (m := m)) hfx) (Nat.le_of_ble_eq_true rfl) ?_
    show rn fx 2 (0, 0) 24 6 [some (.inr (.inr (some 3011))), some (.inl 10)] [] (st0 m) o
    refine r_ld (pc' := 7) hM_24 d_24_6 rfl rfl ?_
    refine r_ld (pc' := 8) hM_24 d_24_7 rfl rfl ?_
    refine r_baFk (pc' := 9) (n := 57) (z := 112) hM_24 d_24_8 rfl (by decide) (hfx.2.2 11 (by decide)) (by decide) (by decide +kernel) ?_
    refine r_k (pc' := 12) (v := .inl 255) hM_24 d_24_9 rfl rfl ?_
    refine r_b (pc' := 13) (z := 112) hM_24 d_24_12 rfl (by decide +kernel) ?_
    refine r_stk (pc' := 14) (st' := [.inl 112]) hM_24 d_24_13 rfl (by decide +kernel) ?_
    exact hk
  exact ok_rt (fun fx _ => rt_n hM_24 d_24_14 rfl (by decide) (by decide +kernel)) H
theorem sb_11_10 {m : am_M} : ok 2 24 0 (am_ent 2 [.inr (.inr (some 3011)), .inl 10]) [] m (fun rr m' => rr = [.inl 112] ∧ m' = m) := usb_11_10 ⟨rfl, rfl⟩
theorem usb_11_11 {Q : List am_V → am_M → Prop} {m : am_M}   (H : Q [.inl 101] m) : ok 2 24 0 [some (.inr (.inr (some 3011))), some (.inl 11)] [] m Q := by
  refine ok_sg (pc' := 14) (ls' := [some (.inr (.inr (some 3011))), some (.inl 11)]) (st' := [.inl 101]) (m' := m) (fun fx hfx o hk => ?_) ?_
  · refine r_ld (pc' := 1) hM_24 d_24_0 rfl rfl ?_
    refine r_ld (pc' := 2) hM_24 d_24_1 rfl rfl ?_
    refine r_alF (pc' := 3) (n := 57) hM_24 d_24_2 rfl (by decide) (hfx.2.2 11 (by decide)) (by decide) ?_
    refine r_cl (pc' := 6) (c := (25, 2)) (a := [.inl 11, .inl 57]) (q := []) hM_24 d_24_3 rfl (by decide +kernel) hM_25 rfl rfl rfl (Nat.le_of_ble_eq_true rfl) (Nat.le_of_ble_eq_true rfl) (Or.inl rfl) (ok_rnk (sy_11_57 (m := m)) hfx) (Nat.le_of_ble_eq_true rfl) ?_
    show rn fx 2 (0, 0) 24 6 [some (.inr (.inr (some 3011))), some (.inl 11)] [] (st0 m) o
    refine r_ld (pc' := 7) hM_24 d_24_6 rfl rfl ?_
    refine r_ld (pc' := 8) hM_24 d_24_7 rfl rfl ?_
    refine r_baFk (pc' := 9) (n := 57) (z := 101) hM_24 d_24_8 rfl (by decide) (hfx.2.2 11 (by decide)) (by decide) (by decide +kernel) ?_
    refine r_k (pc' := 12) (v := .inl 255) hM_24 d_24_9 rfl rfl ?_
    refine r_b (pc' := 13) (z := 101) hM_24 d_24_12 rfl (by decide +kernel) ?_
    refine r_stk (pc' := 14) (st' := [.inl 101]) hM_24 d_24_13 rfl (by decide +kernel) ?_
    exact hk
  exact ok_rt (fun fx _ => rt_n hM_24 d_24_14 rfl (by decide) (by decide +kernel)) H
theorem sb_11_11 {m : am_M} : ok 2 24 0 (am_ent 2 [.inr (.inr (some 3011)), .inl 11]) [] m (fun rr m' => rr = [.inl 101] ∧ m' = m) := usb_11_11 ⟨rfl, rfl⟩
theorem usb_11_12 {Q : List am_V → am_M → Prop} {m : am_M}   (H : Q [.inl 32] m) : ok 2 24 0 [some (.inr (.inr (some 3011))), some (.inl 12)] [] m Q := by
  refine ok_sg (pc' := 14) (ls' := [some (.inr (.inr (some 3011))), some (.inl 12)]) (st' := [.inl 32]) (m' := m) (fun fx hfx o hk => ?_) ?_
  · refine r_ld (pc' := 1) hM_24 d_24_0 rfl rfl ?_
    refine r_ld (pc' := 2) hM_24 d_24_1 rfl rfl ?_
    refine r_alF (pc' := 3) (n := 57) hM_24 d_24_2 rfl (by decide) (hfx.2.2 11 (by decide)) (by decide) ?_
    refine r_cl (pc' := 6) (c := (25, 2)) (a := [.inl 12, .inl 57]) (q := []) hM_24 d_24_3 rfl (by decide +kernel) hM_25 rfl rfl rfl (Nat.le_of_ble_eq_true rfl) (Nat.le_of_ble_eq_true rfl) (Or.inl rfl) (ok_rnk (sy_12_57 (m := m)) hfx) (Nat.le_of_ble_eq_true rfl) ?_
    show rn fx 2 (0, 0) 24 6 [some (.inr (.inr (some 3011))), some (.inl 12)] [] (st0 m) o
    refine r_ld (pc' := 7) hM_24 d_24_6 rfl rfl ?_
    refine r_ld (pc' := 8) hM_24 d_24_7 rfl rfl ?_
    refine r_baFk (pc' := 9) (n := 57) (z := 32) hM_24 d_24_8 rfl (by decide) (hfx.2.2 11 (by decide)) (by decide) (by decide +kernel) ?_
    refine r_k (pc' := 12) (v := .inl 255) hM_24 d_24_9 rfl rfl ?_
    refine r_b (pc' := 13) (z := 32) hM_24 d_24_12 rfl (by decide +kernel) ?_
    refine r_stk (pc' := 14) (st' := [.inl 32]) hM_24 d_24_13 rfl (by decide +kernel) ?_
    exact hk
  exact ok_rt (fun fx _ => rt_n hM_24 d_24_14 rfl (by decide) (by decide +kernel)) H
theorem sb_11_12 {m : am_M} : ok 2 24 0 (am_ent 2 [.inr (.inr (some 3011)), .inl 12]) [] m (fun rr m' => rr = [.inl 32] ∧ m' = m) := usb_11_12 ⟨rfl, rfl⟩
theorem usb_11_13 {Q : List am_V → am_M → Prop} {m : am_M}   (H : Q [.inl 105] m) : ok 2 24 0 [some (.inr (.inr (some 3011))), some (.inl 13)] [] m Q := by
  refine ok_sg (pc' := 14) (ls' := [some (.inr (.inr (some 3011))), some (.inl 13)]) (st' := [.inl 105]) (m' := m) (fun fx hfx o hk => ?_) ?_
  · refine r_ld (pc' := 1) hM_24 d_24_0 rfl rfl ?_
    refine r_ld (pc' := 2) hM_24 d_24_1 rfl rfl ?_
    refine r_alF (pc' := 3) (n := 57) hM_24 d_24_2 rfl (by decide) (hfx.2.2 11 (by decide)) (by decide) ?_
    refine r_cl (pc' := 6) (c := (25, 2)) (a := [.inl 13, .inl 57]) (q := []) hM_24 d_24_3 rfl (by decide +kernel) hM_25 rfl rfl rfl (Nat.le_of_ble_eq_true rfl) (Nat.le_of_ble_eq_true rfl) (Or.inl rfl) (ok_rnk (sy_13_57 (m := m)) hfx) (Nat.le_of_ble_eq_true rfl) ?_
    show rn fx 2 (0, 0) 24 6 [some (.inr (.inr (some 3011))), some (.inl 13)] [] (st0 m) o
    refine r_ld (pc' := 7) hM_24 d_24_6 rfl rfl ?_
    refine r_ld (pc' := 8) hM_24 d_24_7 rfl rfl ?_
    refine r_baFk (pc' := 9) (n := 57) (z := 105) hM_24 d_24_8 rfl (by decide) (hfx.2.2 11 (by decide)) (by decide) (by decide +kernel) ?_
    refine r_k (pc' := 12) (v := .inl 255) hM_24 d_24_9 rfl rfl ?_
    refine r_b (pc' := 13) (z := 105) hM_24 d_24_12 rfl (by decide +kernel) ?_
    refine r_stk (pc' := 14) (st' := [.inl 105]) hM_24 d_24_13 rfl (by decide +kernel) ?_
    exact hk
  exact ok_rt (fun fx _ => rt_n hM_24 d_24_14 rfl (by decide) (by decide +kernel)) H
theorem sb_11_13 {m : am_M} : ok 2 24 0 (am_ent 2 [.inr (.inr (some 3011)), .inl 13]) [] m (fun rr m' => rr = [.inl 105] ∧ m' = m) := usb_11_13 ⟨rfl, rfl⟩
theorem usb_11_14 {Q : List am_V → am_M → Prop} {m : am_M}   (H : Q [.inl 100] m) : ok 2 24 0 [some (.inr (.inr (some 3011))), some (.inl 14)] [] m Q := by
  refine ok_sg (pc' := 14) (ls' := [some (.inr (.inr (some 3011))), some (.inl 14)]) (st' := [.inl 100]) (m' := m) (fun fx hfx o hk => ?_) ?_
  · refine r_ld (pc' := 1) hM_24 d_24_0 rfl rfl ?_
    refine r_ld (pc' := 2) hM_24 d_24_1 rfl rfl ?_
    refine r_alF (pc' := 3) (n := 57) hM_24 d_24_2 rfl (by decide) (hfx.2.2 11 (by decide)) (by decide) ?_
    refine r_cl (pc' := 6) (c := (25, 2)) (a := [.inl 14, .inl 57]) (q := []) hM_24 d_24_3 rfl (by decide +kernel) hM_25 rfl rfl rfl (Nat.le_of_ble_eq_true rfl) (Nat.le_of_ble_eq_true rfl) (Or.inl rfl) (ok_rnk (sy_14_57 (m := m)) hfx) (Nat.le_of_ble_eq_true rfl) ?_
    show rn fx 2 (0, 0) 24 6 [some (.inr (.inr (some 3011))), some (.inl 14)] [] (st0 m) o
    refine r_ld (pc' := 7) hM_24 d_24_6 rfl rfl ?_
    refine r_ld (pc' := 8) hM_24 d_24_7 rfl rfl ?_
    refine r_baFk (pc' := 9) (n := 57) (z := 100) hM_24 d_24_8 rfl (by decide) (hfx.2.2 11 (by decide)) (by decide) (by decide +kernel) ?_
    refine r_k (pc' := 12) (v := .inl 255) hM_24 d_24_9 rfl rfl ?_
    refine r_b (pc' := 13) (z := 100) hM_24 d_24_12 rfl (by decide +kernel) ?_
    refine r_stk (pc' := 14) (st' := [.inl 100]) hM_24 d_24_13 rfl (by decide +kernel) ?_
    exact hk
  exact ok_rt (fun fx _ => rt_n hM_24 d_24_14 rfl (by decide) (by decide +kernel)) H
theorem sb_11_14 {m : am_M} : ok 2 24 0 (am_ent 2 [.inr (.inr (some 3011)), .inl 14]) [] m (fun rr m' => rr = [.inl 100] ∧ m' = m) := usb_11_14 ⟨rfl, rfl⟩
theorem usb_11_15 {Q : List am_V → am_M → Prop} {m : am_M}   (H : Q [.inl 108] m) : ok 2 24 0 [some (.inr (.inr (some 3011))), some (.inl 15)] [] m Q := by
  refine ok_sg (pc' := 14) (ls' := [some (.inr (.inr (some 3011))), some (.inl 15)]) (st' := [.inl 108]) (m' := m) (fun fx hfx o hk => ?_) ?_
  · refine r_ld (pc' := 1) hM_24 d_24_0 rfl rfl ?_
    refine r_ld (pc' := 2) hM_24 d_24_1 rfl rfl ?_
    refine r_alF (pc' := 3) (n := 57) hM_24 d_24_2 rfl (by decide) (hfx.2.2 11 (by decide)) (by decide) ?_
    refine r_cl (pc' := 6) (c := (25, 2)) (a := [.inl 15, .inl 57]) (q := []) hM_24 d_24_3 rfl (by decide +kernel) hM_25 rfl rfl rfl (Nat.le_of_ble_eq_true rfl) (Nat.le_of_ble_eq_true rfl) (Or.inl rfl) (ok_rnk (sy_15_57 (m := m)) hfx) (Nat.le_of_ble_eq_true rfl) ?_
    show rn fx 2 (0, 0) 24 6 [some (.inr (.inr (some 3011))), some (.inl 15)] [] (st0 m) o
    refine r_ld (pc' := 7) hM_24 d_24_6 rfl rfl ?_
    refine r_ld (pc' := 8) hM_24 d_24_7 rfl rfl ?_
    refine r_baFk (pc' := 9) (n := 57) (z := 108) hM_24 d_24_8 rfl (by decide) (hfx.2.2 11 (by decide)) (by decide) (by decide +kernel) ?_
    refine r_k (pc' := 12) (v := .inl 255) hM_24 d_24_9 rfl rfl ?_
    refine r_b (pc' := 13) (z := 108) hM_24 d_24_12 rfl (by decide +kernel) ?_
    refine r_stk (pc' := 14) (st' := [.inl 108]) hM_24 d_24_13 rfl (by decide +kernel) ?_
    exact hk
  exact ok_rt (fun fx _ => rt_n hM_24 d_24_14 rfl (by decide) (by decide +kernel)) H
theorem sb_11_15 {m : am_M} : ok 2 24 0 (am_ent 2 [.inr (.inr (some 3011)), .inl 15]) [] m (fun rr m' => rr = [.inl 108] ∧ m' = m) := usb_11_15 ⟨rfl, rfl⟩
theorem usb_11_16 {Q : List am_V → am_M → Prop} {m : am_M}   (H : Q [.inl 101] m) : ok 2 24 0 [some (.inr (.inr (some 3011))), some (.inl 16)] [] m Q := by
  refine ok_sg (pc' := 14) (ls' := [some (.inr (.inr (some 3011))), some (.inl 16)]) (st' := [.inl 101]) (m' := m) (fun fx hfx o hk => ?_) ?_
  · refine r_ld (pc' := 1) hM_24 d_24_0 rfl rfl ?_
    refine r_ld (pc' := 2) hM_24 d_24_1 rfl rfl ?_
    refine r_alF (pc' := 3) (n := 57) hM_24 d_24_2 rfl (by decide) (hfx.2.2 11 (by decide)) (by decide) ?_
    refine r_cl (pc' := 6) (c := (25, 2)) (a := [.inl 16, .inl 57]) (q := []) hM_24 d_24_3 rfl (by decide +kernel) hM_25 rfl rfl rfl (Nat.le_of_ble_eq_true rfl) (Nat.le_of_ble_eq_true rfl) (Or.inl rfl) (ok_rnk (sy_16_57 (m := m)) hfx) (Nat.le_of_ble_eq_true rfl) ?_
    show rn fx 2 (0, 0) 24 6 [some (.inr (.inr (some 3011))), some (.inl 16)] [] (st0 m) o
    refine r_ld (pc' := 7) hM_24 d_24_6 rfl rfl ?_
    refine r_ld (pc' := 8) hM_24 d_24_7 rfl rfl ?_
    refine r_baFk (pc' := 9) (n := 57) (z := 101) hM_24 d_24_8 rfl (by decide) (hfx.2.2 11 (by decide)) (by decide) (by decide +kernel) ?_
    refine r_k (pc' := 12) (v := .inl 255) hM_24 d_24_9 rfl rfl ?_
    refine r_b (pc' := 13) (z := 101) hM_24 d_24_12 rfl (by decide +kernel) ?_
    refine r_stk (pc' := 14) (st' := [.inl 101]) hM_24 d_24_13 rfl (by decide +kernel) ?_
    exact hk
  exact ok_rt (fun fx _ => rt_n hM_24 d_24_14 rfl (by decide) (by decide +kernel)) H
theorem sb_11_16 {m : am_M} : ok 2 24 0 (am_ent 2 [.inr (.inr (some 3011)), .inl 16]) [] m (fun rr m' => rr = [.inl 101] ∧ m' = m) := usb_11_16 ⟨rfl, rfl⟩
theorem usb_11_17 {Q : List am_V → am_M → Prop} {m : am_M}   (H : Q [.inl 32] m) : ok 2 24 0 [some (.inr (.inr (some 3011))), some (.inl 17)] [] m Q := by
  refine ok_sg (pc' := 14) (ls' := [some (.inr (.inr (some 3011))), some (.inl 17)]) (st' := [.inl 32]) (m' := m) (fun fx hfx o hk => ?_) ?_
  · refine r_ld (pc' := 1) hM_24 d_24_0 rfl rfl ?_
    refine r_ld (pc' := 2) hM_24 d_24_1 rfl rfl ?_
    refine r_alF (pc' := 3) (n := 57) hM_24 d_24_2 rfl (by decide) (hfx.2.2 11 (by decide)) (by decide) ?_
    refine r_cl (pc' := 6) (c := (25, 2)) (a := [.inl 17, .inl 57]) (q := []) hM_24 d_24_3 rfl (by decide +kernel) hM_25 rfl rfl rfl (Nat.le_of_ble_eq_true rfl) (Nat.le_of_ble_eq_true rfl) (Or.inl rfl) (ok_rnk (sy_17_57 (m := m)) hfx) (Nat.le_of_ble_eq_true rfl) ?_
    show rn fx 2 (0, 0) 24 6 [some (.inr (.inr (some 3011))), some (.inl 17)] [] (st0 m) o
    refine r_ld (pc' := 7) hM_24 d_24_6 rfl rfl ?_
    refine r_ld (pc' := 8) hM_24 d_24_7 rfl rfl ?_
    refine r_baFk (pc' := 9) (n := 57) (z := 32) hM_24 d_24_8 rfl (by decide) (hfx.2.2 11 (by decide)) (by decide) (by decide +kernel) ?_
    refine r_k (pc' := 12) (v := .inl 255) hM_24 d_24_9 rfl rfl ?_
    refine r_b (pc' := 13) (z := 32) hM_24 d_24_12 rfl (by decide +kernel) ?_
    refine r_stk (pc' := 14) (st' := [.inl 32]) hM_24 d_24_13 rfl (by decide +kernel) ?_
    exact hk
  exact ok_rt (fun fx _ => rt_n hM_24 d_24_14 rfl (by decide) (by decide +kernel)) H
theorem sb_11_17 {m : am_M} : ok 2 24 0 (am_ent 2 [.inr (.inr (some 3011)), .inl 17]) [] m (fun rr m' => rr = [.inl 32] ∧ m' = m) := usb_11_17 ⟨rfl, rfl⟩
theorem usb_11_18 {Q : List am_V → am_M → Prop} {m : am_M}   (H : Q [.inl 98] m) : ok 2 24 0 [some (.inr (.inr (some 3011))), some (.inl 18)] [] m Q := by
  refine ok_sg (pc' := 14) (ls' := [some (.inr (.inr (some 3011))), some (.inl 18)]) (st' := [.inl 98]) (m' := m) (fun fx hfx o hk => ?_) ?_
  · refine r_ld (pc' := 1) hM_24 d_24_0 rfl rfl ?_
    refine r_ld (pc' := 2) hM_24 d_24_1 rfl rfl ?_
    refine r_alF (pc' := 3) (n := 57) hM_24 d_24_2 rfl (by decide) (hfx.2.2 11 (by decide)) (by decide) ?_
    refine r_cl (pc' := 6) (c := (25, 2)) (a := [.inl 18, .inl 57]) (q := []) hM_24 d_24_3 rfl (by decide +kernel) hM_25 rfl rfl rfl (Nat.le_of_ble_eq_true rfl) (Nat.le_of_ble_eq_true rfl) (Or.inl rfl) (ok_rnk (sy_18_57 (m := m)) hfx) (Nat.le_of_ble_eq_true rfl) ?_
    show rn fx 2 (0, 0) 24 6 [some (.inr (.inr (some 3011))), some (.inl 18)] [] (st0 m) o
    refine r_ld (pc' := 7) hM_24 d_24_6 rfl rfl ?_
    refine r_ld (pc' := 8) hM_24 d_24_7 rfl rfl ?_
    refine r_baFk (pc' := 9) (n := 57) (z := 98) hM_24 d_24_8 rfl (by decide) (hfx.2.2 11 (by decide)) (by decide) (by decide +kernel) ?_
    refine r_k (pc' := 12) (v := .inl 255) hM_24 d_24_9 rfl rfl ?_
    refine r_b (pc' := 13) (z := 98) hM_24 d_24_12 rfl (by decide +kernel) ?_
    refine r_stk (pc' := 14) (st' := [.inl 98]) hM_24 d_24_13 rfl (by decide +kernel) ?_
    exact hk
  exact ok_rt (fun fx _ => rt_n hM_24 d_24_14 rfl (by decide) (by decide +kernel)) H
theorem sb_11_18 {m : am_M} : ok 2 24 0 (am_ent 2 [.inr (.inr (some 3011)), .inl 18]) [] m (fun rr m' => rr = [.inl 98] ∧ m' = m) := usb_11_18 ⟨rfl, rfl⟩
theorem usb_11_19 {Q : List am_V → am_M → Prop} {m : am_M}   (H : Q [.inl 97] m) : ok 2 24 0 [some (.inr (.inr (some 3011))), some (.inl 19)] [] m Q := by
  refine ok_sg (pc' := 14) (ls' := [some (.inr (.inr (some 3011))), some (.inl 19)]) (st' := [.inl 97]) (m' := m) (fun fx hfx o hk => ?_) ?_
  · refine r_ld (pc' := 1) hM_24 d_24_0 rfl rfl ?_
    refine r_ld (pc' := 2) hM_24 d_24_1 rfl rfl ?_
    refine r_alF (pc' := 3) (n := 57) hM_24 d_24_2 rfl (by decide) (hfx.2.2 11 (by decide)) (by decide) ?_
    refine r_cl (pc' := 6) (c := (25, 2)) (a := [.inl 19, .inl 57]) (q := []) hM_24 d_24_3 rfl (by decide +kernel) hM_25 rfl rfl rfl (Nat.le_of_ble_eq_true rfl) (Nat.le_of_ble_eq_true rfl) (Or.inl rfl) (ok_rnk (sy_19_57 (m := m)) hfx) (Nat.le_of_ble_eq_true rfl) ?_
    show rn fx 2 (0, 0) 24 6 [some (.inr (.inr (some 3011))), some (.inl 19)] [] (st0 m) o
    refine r_ld (pc' := 7) hM_24 d_24_6 rfl rfl ?_
    refine r_ld (pc' := 8) hM_24 d_24_7 rfl rfl ?_
    refine r_baFk (pc' := 9) (n := 57) (z := 97) hM_24 d_24_8 rfl (by decide) (hfx.2.2 11 (by decide)) (by decide) (by decide +kernel) ?_
    refine r_k (pc' := 12) (v := .inl 255) hM_24 d_24_9 rfl rfl ?_
    refine r_b (pc' := 13) (z := 97) hM_24 d_24_12 rfl (by decide +kernel) ?_
    refine r_stk (pc' := 14) (st' := [.inl 97]) hM_24 d_24_13 rfl (by decide +kernel) ?_
    exact hk
  exact ok_rt (fun fx _ => rt_n hM_24 d_24_14 rfl (by decide) (by decide +kernel)) H
theorem sb_11_19 {m : am_M} : ok 2 24 0 (am_ent 2 [.inr (.inr (some 3011)), .inl 19]) [] m (fun rr m' => rr = [.inl 97] ∧ m' = m) := usb_11_19 ⟨rfl, rfl⟩
theorem usb_11_20 {Q : List am_V → am_M → Prop} {m : am_M}   (H : Q [.inl 100] m) : ok 2 24 0 [some (.inr (.inr (some 3011))), some (.inl 20)] [] m Q := by
  refine ok_sg (pc' := 14) (ls' := [some (.inr (.inr (some 3011))), some (.inl 20)]) (st' := [.inl 100]) (m' := m) (fun fx hfx o hk => ?_) ?_
  · refine r_ld (pc' := 1) hM_24 d_24_0 rfl rfl ?_
    refine r_ld (pc' := 2) hM_24 d_24_1 rfl rfl ?_
    refine r_alF (pc' := 3) (n := 57) hM_24 d_24_2 rfl (by decide) (hfx.2.2 11 (by decide)) (by decide) ?_
    refine r_cl (pc' := 6) (c := (25, 2)) (a := [.inl 20, .inl 57]) (q := []) hM_24 d_24_3 rfl (by decide +kernel) hM_25 rfl rfl rfl (Nat.le_of_ble_eq_true rfl) (Nat.le_of_ble_eq_true rfl) (Or.inl rfl) (ok_rnk (sy_20_57 (m := m)) hfx) (Nat.le_of_ble_eq_true rfl) ?_
    show rn fx 2 (0, 0) 24 6 [some (.inr (.inr (some 3011))), some (.inl 20)] [] (st0 m) o
    refine r_ld (pc' := 7) hM_24 d_24_6 rfl rfl ?_
    refine r_ld (pc' := 8) hM_24 d_24_7 rfl rfl ?_
    refine r_baFk (pc' := 9) (n := 57) (z := 100) hM_24 d_24_8 rfl (by decide) (hfx.2.2 11 (by decide)) (by decide) (by decide +kernel) ?_
    refine r_k (pc' := 12) (v := .inl 255) hM_24 d_24_9 rfl rfl ?_
    refine r_b (pc' := 13) (z := 100) hM_24 d_24_12 rfl (by decide +kernel) ?_
    refine r_stk (pc' := 14) (st' := [.inl 100]) hM_24 d_24_13 rfl (by decide +kernel) ?_
    exact hk
  exact ok_rt (fun fx _ => rt_n hM_24 d_24_14 rfl (by decide) (by decide +kernel)) H
theorem sb_11_20 {m : am_M} : ok 2 24 0 (am_ent 2 [.inr (.inr (some 3011)), .inl 20]) [] m (fun rr m' => rr = [.inl 100] ∧ m' = m) := usb_11_20 ⟨rfl, rfl⟩
theorem usb_11_21 {Q : List am_V → am_M → Prop} {m : am_M}   (H : Q [.inl 32] m) : ok 2 24 0 [some (.inr (.inr (some 3011))), some (.inl 21)] [] m Q := by
  refine ok_sg (pc' := 14) (ls' := [some (.inr (.inr (some 3011))), some (.inl 21)]) (st' := [.inl 32]) (m' := m) (fun fx hfx o hk => ?_) ?_
  · refine r_ld (pc' := 1) hM_24 d_24_0 rfl rfl ?_
    refine r_ld (pc' := 2) hM_24 d_24_1 rfl rfl ?_
    refine r_alF (pc' := 3) (n := 57) hM_24 d_24_2 rfl (by decide) (hfx.2.2 11 (by decide)) (by decide) ?_
    refine r_cl (pc' := 6) (c := (25, 2)) (a := [.inl 21, .inl 57]) (q := []) hM_24 d_24_3 rfl (by decide +kernel) hM_25 rfl rfl rfl (Nat.le_of_ble_eq_true rfl) (Nat.le_of_ble_eq_true rfl) (Or.inl rfl) (ok_rnk (sy_21_57 (m := m)) hfx) (Nat.le_of_ble_eq_true rfl) ?_
    show rn fx 2 (0, 0) 24 6 [some (.inr (.inr (some 3011))), some (.inl 21)] [] (st0 m) o
    refine r_ld (pc' := 7) hM_24 d_24_6 rfl rfl ?_
    refine r_ld (pc' := 8) hM_24 d_24_7 rfl rfl ?_
    refine r_baFk (pc' := 9) (n := 57) (z := 32) hM_24 d_24_8 rfl (by decide) (hfx.2.2 11 (by decide)) (by decide) (by decide +kernel) ?_
    refine r_k (pc' := 12) (v := .inl 255) hM_24 d_24_9 rfl rfl ?_
    refine r_b (pc' := 13) (z := 32) hM_24 d_24_12 rfl (by decide +kernel) ?_
    refine r_stk (pc' := 14) (st' := [.inl 32]) hM_24 d_24_13 rfl (by decide +kernel) ?_
    exact hk
  exact ok_rt (fun fx _ => rt_n hM_24 d_24_14 rfl (by decide) (by decide +kernel)) H
theorem sb_11_21 {m : am_M} : ok 2 24 0 (am_ent 2 [.inr (.inr (some 3011)), .inl 21]) [] m (fun rr m' => rr = [.inl 32] ∧ m' = m) := usb_11_21 ⟨rfl, rfl⟩
theorem usb_11_22 {Q : List am_V → am_M → Prop} {m : am_M}   (H : Q [.inl 115] m) : ok 2 24 0 [some (.inr (.inr (some 3011))), some (.inl 22)] [] m Q := by
  refine ok_sg (pc' := 14) (ls' := [some (.inr (.inr (some 3011))), some (.inl 22)]) (st' := [.inl 115]) (m' := m) (fun fx hfx o hk => ?_) ?_
  · refine r_ld (pc' := 1) hM_24 d_24_0 rfl rfl ?_
    refine r_ld (pc' := 2) hM_24 d_24_1 rfl rfl ?_
    refine r_alF (pc' := 3) (n := 57) hM_24 d_24_2 rfl (by decide) (hfx.2.2 11 (by decide)) (by decide) ?_
    refine r_cl (pc' := 6) (c := (25, 2)) (a := [.inl 22, .inl 57]) (q := []) hM_24 d_24_3 rfl (by decide +kernel) hM_25 rfl rfl rfl (Nat.le_of_ble_eq_true rfl) (Nat.le_of_ble_eq_true rfl) (Or.inl rfl) (ok_rnk (sy_22_57 (m := m)) hfx) (Nat.le_of_ble_eq_true rfl) ?_
    show rn fx 2 (0, 0) 24 6 [some (.inr (.inr (some 3011))), some (.inl 22)] [] (st0 m) o
    refine r_ld (pc' := 7) hM_24 d_24_6 rfl rfl ?_
    refine r_ld (pc' := 8) hM_24 d_24_7 rfl rfl ?_
    refine r_baFk (pc' := 9) (n := 57) (z := 115) hM_24 d_24_8 rfl (by decide) (hfx.2.2 11 (by decide)) (by decide) (by decide +kernel) ?_
    refine r_k (pc' := 12) (v := .inl 255) hM_24 d_24_9 rfl rfl ?_
    refine r_b (pc' := 13) (z := 115) hM_24 d_24_12 rfl (by decide +kernel) ?_
    refine r_stk (pc' := 14) (st' := [.inl 115]) hM_24 d_24_13 rfl (by decide +kernel) ?_
    exact hk
  exact ok_rt (fun fx _ => rt_n hM_24 d_24_14 rfl (by decide) (by decide +kernel)) H
theorem sb_11_22 {m : am_M} : ok 2 24 0 (am_ent 2 [.inr (.inr (some 3011)), .inl 22]) [] m (fun rr m' => rr = [.inl 115] ∧ m' = m) := usb_11_22 ⟨rfl, rfl⟩
theorem usb_11_23 {Q : List am_V → am_M → Prop} {m : am_M}   (H : Q [.inl 116] m) : ok 2 24 0 [some (.inr (.inr (some 3011))), some (.inl 23)] [] m Q := by
  refine ok_sg (pc' := 14) (ls' := [some (.inr (.inr (some 3011))), some (.inl 23)]) (st' := [.inl 116]) (m' := m) (fun fx hfx o hk => ?_) ?_
  · refine r_ld (pc' := 1) hM_24 d_24_0 rfl rfl ?_
    refine r_ld (pc' := 2) hM_24 d_24_1 rfl rfl ?_
    refine r_alF (pc' := 3) (n := 57) hM_24 d_24_2 rfl (by decide) (hfx.2.2 11 (by decide)) (by decide) ?_
    refine r_cl (pc' := 6) (c := (25, 2)) (a := [.inl 23, .inl 57]) (q := []) hM_24 d_24_3 rfl (by decide +kernel) hM_25 rfl rfl rfl (Nat.le_of_ble_eq_true rfl) (Nat.le_of_ble_eq_true rfl) (Or.inl rfl) (ok_rnk (sy_23_57 (m := m)) hfx) (Nat.le_of_ble_eq_true rfl) ?_
    show rn fx 2 (0, 0) 24 6 [some (.inr (.inr (some 3011))), some (.inl 23)] [] (st0 m) o
    refine r_ld (pc' := 7) hM_24 d_24_6 rfl rfl ?_
    refine r_ld (pc' := 8) hM_24 d_24_7 rfl rfl ?_
    refine r_baFk (pc' := 9) (n := 57) (z := 116) hM_24 d_24_8 rfl (by decide) (hfx.2.2 11 (by decide)) (by decide) (by decide +kernel) ?_
    refine r_k (pc' := 12) (v := .inl 255) hM_24 d_24_9 rfl rfl ?_
    refine r_b (pc' := 13) (z := 116) hM_24 d_24_12 rfl (by decide +kernel) ?_
    refine r_stk (pc' := 14) (st' := [.inl 116]) hM_24 d_24_13 rfl (by decide +kernel) ?_
    exact hk
  exact ok_rt (fun fx _ => rt_n hM_24 d_24_14 rfl (by decide) (by decide +kernel)) H
theorem sb_11_23 {m : am_M} : ok 2 24 0 (am_ent 2 [.inr (.inr (some 3011)), .inl 23]) [] m (fun rr m' => rr = [.inl 116] ∧ m' = m) := usb_11_23 ⟨rfl, rfl⟩
theorem usb_11_24 {Q : List am_V → am_M → Prop} {m : am_M}   (H : Q [.inl 111] m) : ok 2 24 0 [some (.inr (.inr (some 3011))), some (.inl 24)] [] m Q := by
  refine ok_sg (pc' := 14) (ls' := [some (.inr (.inr (some 3011))), some (.inl 24)]) (st' := [.inl 111]) (m' := m) (fun fx hfx o hk => ?_) ?_
  · refine r_ld (pc' := 1) hM_24 d_24_0 rfl rfl ?_
    refine r_ld (pc' := 2) hM_24 d_24_1 rfl rfl ?_
    refine r_alF (pc' := 3) (n := 57) hM_24 d_24_2 rfl (by decide) (hfx.2.2 11 (by decide)) (by decide) ?_
    refine r_cl (pc' := 6) (c := (25, 2)) (a := [.inl 24, .inl 57]) (q := []) hM_24 d_24_3 rfl (by decide +kernel) hM_25 rfl rfl rfl (Nat.le_of_ble_eq_true rfl) (Nat.le_of_ble_eq_true rfl) (Or.inl rfl) (ok_rnk (sy_24_57 (m := m)) hfx) (Nat.le_of_ble_eq_true rfl) ?_
    show rn fx 2 (0, 0) 24 6 [some (.inr (.inr (some 3011))), some (.inl 24)] [] (st0 m) o
    refine r_ld (pc' := 7) hM_24 d_24_6 rfl rfl ?_
    refine r_ld (pc' := 8) hM_24 d_24_7 rfl rfl ?_
    refine r_baFk (pc' := 9) (n := 57) (z := 111) hM_24 d_24_8 rfl (by decide) (hfx.2.2 11 (by decide)) (by decide) (by decide +kernel) ?_
    refine r_k (pc' := 12) (v := .inl 255) hM_24 d_24_9 rfl rfl ?_
    refine r_b (pc' := 13) (z := 111) hM_24 d_24_12 rfl (by decide +kernel) ?_
    refine r_stk (pc' := 14) (st' := [.inl 111]) hM_24 d_24_13 rfl (by decide +kernel) ?_
    exact hk
  exact ok_rt (fun fx _ => rt_n hM_24 d_24_14 rfl (by decide) (by decide +kernel)) H
theorem sb_11_24 {m : am_M} : ok 2 24 0 (am_ent 2 [.inr (.inr (some 3011)), .inl 24]) [] m (fun rr m' => rr = [.inl 111] ∧ m' = m) := usb_11_24 ⟨rfl, rfl⟩
theorem usb_11_25 {Q : List am_V → am_M → Prop} {m : am_M}   (H : Q [.inl 110] m) : ok 2 24 0 [some (.inr (.inr (some 3011))), some (.inl 25)] [] m Q := by
  refine ok_sg (pc' := 14) (ls' := [some (.inr (.inr (some 3011))), some (.inl 25)]) (st' := [.inl 110]) (m' := m) (fun fx hfx o hk => ?_) ?_
  · refine r_ld (pc' := 1) hM_24 d_24_0 rfl rfl ?_
    refine r_ld (pc' := 2) hM_24 d_24_1 rfl rfl ?_
    refine r_alF (pc' := 3) (n := 57) hM_24 d_24_2 rfl (by decide) (hfx.2.2 11 (by decide)) (by decide) ?_
    refine r_cl (pc' := 6) (c := (25, 2)) (a := [.inl 25, .inl 57]) (q := []) hM_24 d_24_3 rfl (by decide +kernel) hM_25 rfl rfl rfl (Nat.le_of_ble_eq_true rfl) (Nat.le_of_ble_eq_true rfl) (Or.inl rfl) (ok_rnk (sy_25_57 (m := m)) hfx) (Nat.le_of_ble_eq_true rfl) ?_
    show rn fx 2 (0, 0) 24 6 [some (.inr (.inr (some 3011))), some (.inl 25)] [] (st0 m) o
    refine r_ld (pc' := 7) hM_24 d_24_6 rfl rfl ?_
    refine r_ld (pc' := 8) hM_24 d_24_7 rfl rfl ?_
    refine r_baFk (pc' := 9) (n := 57) (z := 110) hM_24 d_24_8 rfl (by decide) (hfx.2.2 11 (by decide)) (by decide) (by decide +kernel) ?_
    refine r_k (pc' := 12) (v := .inl 255) hM_24 d_24_9 rfl rfl ?_
    refine r_b (pc' := 13) (z := 110) hM_24 d_24_12 rfl (by decide +kernel) ?_
    refine r_stk (pc' := 14) (st' := [.inl 110]) hM_24 d_24_13 rfl (by decide +kernel) ?_
    exact hk
  exact ok_rt (fun fx _ => rt_n hM_24 d_24_14 rfl (by decide) (by decide +kernel)) H
theorem sb_11_25 {m : am_M} : ok 2 24 0 (am_ent 2 [.inr (.inr (some 3011)), .inl 25]) [] m (fun rr m' => rr = [.inl 110] ∧ m' = m) := usb_11_25 ⟨rfl, rfl⟩
theorem usb_11_26 {Q : List am_V → am_M → Prop} {m : am_M}   (H : Q [.inl 101] m) : ok 2 24 0 [some (.inr (.inr (some 3011))), some (.inl 26)] [] m Q := by
  refine ok_sg (pc' := 14) (ls' := [some (.inr (.inr (some 3011))), some (.inl 26)]) (st' := [.inl 101]) (m' := m) (fun fx hfx o hk => ?_) ?_
  · refine r_ld (pc' := 1) hM_24 d_24_0 rfl rfl ?_
    refine r_ld (pc' := 2) hM_24 d_24_1 rfl rfl ?_
    refine r_alF (pc' := 3) (n := 57) hM_24 d_24_2 rfl (by decide) (hfx.2.2 11 (by decide)) (by decide) ?_
    refine r_cl (pc' := 6) (c := (25, 2)) (a := [.inl 26, .inl 57]) (q := []) hM_24 d_24_3 rfl (by decide +kernel) hM_25 rfl rfl rfl (Nat.le_of_ble_eq_true rfl) (Nat.le_of_ble_eq_true rfl) (Or.inl rfl) (ok_rnk (sy_26_57 (m := m)) hfx) (Nat.le_of_ble_eq_true rfl) ?_
    show rn fx 2 (0, 0) 24 6 [some (.inr (.inr (some 3011))), some (.inl 26)] [] (st0 m) o
    refine r_ld (pc' := 7) hM_24 d_24_6 rfl rfl ?_
    refine r_ld (pc' := 8) hM_24 d_24_7 rfl rfl ?_
    refine r_baFk (pc' := 9) (n := 57) (z := 101) hM_24 d_24_8 rfl (by decide) (hfx.2.2 11 (by decide)) (by decide) (by decide +kernel) ?_
    refine r_k (pc' := 12) (v := .inl 255) hM_24 d_24_9 rfl rfl ?_
    refine r_b (pc' := 13) (z := 101) hM_24 d_24_12 rfl (by decide +kernel) ?_
    refine r_stk (pc' := 14) (st' := [.inl 101]) hM_24 d_24_13 rfl (by decide +kernel) ?_
    exact hk
  exact ok_rt (fun fx _ => rt_n hM_24 d_24_14 rfl (by decide) (by decide +kernel)) H
theorem sb_11_26 {m : am_M} : ok 2 24 0 (am_ent 2 [.inr (.inr (some 3011)), .inl 26]) [] m (fun rr m' => rr = [.inl 101] ∧ m' = m) := usb_11_26 ⟨rfl, rfl⟩
theorem usb_11_27 {Q : List am_V → am_M → Prop} {m : am_M}   (H : Q [.inl 115] m) : ok 2 24 0 [some (.inr (.inr (some 3011))), some (.inl 27)] [] m Q := by
  refine ok_sg (pc' := 14) (ls' := [some (.inr (.inr (some 3011))), some (.inl 27)]) (st' := [.inl 115]) (m' := m) (fun fx hfx o hk => ?_) ?_
  · refine r_ld (pc' := 1) hM_24 d_24_0 rfl rfl ?_
    refine r_ld (pc' := 2) hM_24 d_24_1 rfl rfl ?_
    refine r_alF (pc' := 3) (n := 57) hM_24 d_24_2 rfl (by decide) (hfx.2.2 11 (by decide)) (by decide) ?_
    refine r_cl (pc' := 6) (c := (25, 2)) (a := [.inl 27, .inl 57]) (q := []) hM_24 d_24_3 rfl (by decide +kernel) hM_25 rfl rfl rfl (Nat.le_of_ble_eq_true rfl) (Nat.le_of_ble_eq_true rfl) (Or.inl rfl) (ok_rnk (sy_27_57 (m := m)) hfx) (Nat.le_of_ble_eq_true rfl) ?_
    show rn fx 2 (0, 0) 24 6 [some (.inr (.inr (some 3011))), some (.inl 27)] [] (st0 m) o
    refine r_ld (pc' := 7) hM_24 d_24_6 rfl rfl ?_
    refine r_ld (pc' := 8) hM_24 d_24_7 rfl rfl ?_
    refine r_baFk (pc' := 9) (n := 57) (z := 115) hM_24 d_24_8 rfl (by decide) (hfx.2.2 11 (by decide)) (by decide) (by decide +kernel) ?_
    refine r_k (pc' := 12) (v := .inl 255) hM_24 d_24_9 rfl rfl ?_
    refine r_b (pc' := 13) (z := 115) hM_24 d_24_12 rfl (by decide +kernel) ?_
    refine r_stk (pc' := 14) (st' := [.inl 115]) hM_24 d_24_13 rfl (by decide +kernel) ?_
    exact hk
  exact ok_rt (fun fx _ => rt_n hM_24 d_24_14 rfl (by decide) (by decide +kernel)) H
theorem sb_11_27 {m : am_M} : ok 2 24 0 (am_ent 2 [.inr (.inr (some 3011)), .inl 27]) [] m (fun rr m' => rr = [.inl 115] ∧ m' = m) := usb_11_27 ⟨rfl, rfl⟩
theorem usb_11_28 {Q : List am_V → am_M → Prop} {m : am_M}   (H : Q [.inl 32] m) : ok 2 24 0 [some (.inr (.inr (some 3011))), some (.inl 28)] [] m Q := by
  refine ok_sg (pc' := 14) (ls' := [some (.inr (.inr (some 3011))), some (.inl 28)]) (st' := [.inl 32]) (m' := m) (fun fx hfx o hk => ?_) ?_
  · refine r_ld (pc' := 1) hM_24 d_24_0 rfl rfl ?_
    refine r_ld (pc' := 2) hM_24 d_24_1 rfl rfl ?_
    refine r_alF (pc' := 3) (n := 57) hM_24 d_24_2 rfl (by decide) (hfx.2.2 11 (by decide)) (by decide) ?_
    refine r_cl (pc' := 6) (c := (25, 2)) (a := [.inl 28, .inl 57]) (q := []) hM_24 d_24_3 rfl (by decide +kernel) hM_25 rfl rfl rfl (Nat.le_of_ble_eq_true rfl) (Nat.le_of_ble_eq_true rfl) (Or.inl rfl) (ok_rnk (sy_28_57 (m := m)) hfx) (Nat.le_of_ble_eq_true rfl) ?_
    show rn fx 2 (0, 0) 24 6 [some (.inr (.inr (some 3011))), some (.inl 28)] [] (st0 m) o
    refine r_ld (pc' := 7) hM_24 d_24_6 rfl rfl ?_
    refine r_ld (pc' := 8) hM_24 d_24_7 rfl rfl ?_
    refine r_baFk (pc' := 9) (n := 57) (z := 32) hM_24 d_24_8 rfl (by decide) (hfx.2.2 11 (by decide)) (by decide) (by decide +kernel) ?_
    refine r_k (pc' := 12) (v := .inl 255) hM_24 d_24_9 rfl rfl ?_
    refine r_b (pc' := 13) (z := 32) hM_24 d_24_12 rfl (by decide +kernel) ?_
    refine r_stk (pc' := 14) (st' := [.inl 32]) hM_24 d_24_13 rfl (by decide +kernel) ?_
    exact hk
  exact ok_rt (fun fx _ => rt_n hM_24 d_24_14 rfl (by decide) (by decide +kernel)) H
theorem sb_11_28 {m : am_M} : ok 2 24 0 (am_ent 2 [.inr (.inr (some 3011)), .inl 28]) [] m (fun rr m' => rr = [.inl 32] ∧ m' = m) := usb_11_28 ⟨rfl, rfl⟩
theorem usb_11_29 {Q : List am_V → am_M → Prop} {m : am_M}   (H : Q [.inl 103] m) : ok 2 24 0 [some (.inr (.inr (some 3011))), some (.inl 29)] [] m Q := by
  refine ok_sg (pc' := 14) (ls' := [some (.inr (.inr (some 3011))), some (.inl 29)]) (st' := [.inl 103]) (m' := m) (fun fx hfx o hk => ?_) ?_
  · refine r_ld (pc' := 1) hM_24 d_24_0 rfl rfl ?_
    refine r_ld (pc' := 2) hM_24 d_24_1 rfl rfl ?_
    refine r_alF (pc' := 3) (n := 57) hM_24 d_24_2 rfl (by decide) (hfx.2.2 11 (by decide)) (by decide) ?_
    refine r_cl (pc' := 6) (c := (25, 2)) (a := [.inl 29, .inl 57]) (q := []) hM_24 d_24_3 rfl (by decide +kernel) hM_25 rfl rfl rfl (Nat.le_of_ble_eq_true rfl) (Nat.le_of_ble_eq_true rfl) (Or.inl rfl) (ok_rnk (sy_29_57 (m := m)) hfx) (Nat.le_of_ble_eq_true rfl) ?_
    show rn fx 2 (0, 0) 24 6 [some (.inr (.inr (some 3011))), some (.inl 29)] [] (st0 m) o
    refine r_ld (pc' := 7) hM_24 d_24_6 rfl rfl ?_
    refine r_ld (pc' := 8) hM_24 d_24_7 rfl rfl ?_
    refine r_baFk (pc' := 9) (n := 57) (z := 103) hM_24 d_24_8 rfl (by decide) (hfx.2.2 11 (by decide)) (by decide) (by decide +kernel) ?_
    refine r_k (pc' := 12) (v := .inl 255) hM_24 d_24_9 rfl rfl ?_
    refine r_b (pc' := 13) (z := 103) hM_24 d_24_12 rfl (by decide +kernel) ?_
    refine r_stk (pc' := 14) (st' := [.inl 103]) hM_24 d_24_13 rfl (by decide +kernel) ?_
    exact hk
  exact ok_rt (fun fx _ => rt_n hM_24 d_24_14 rfl (by decide) (by decide +kernel)) H
theorem sb_11_29 {m : am_M} : ok 2 24 0 (am_ent 2 [.inr (.inr (some 3011)), .inl 29]) [] m (fun rr m' => rr = [.inl 103] ∧ m' = m) := usb_11_29 ⟨rfl, rfl⟩
theorem usb_11_30 {Q : List am_V → am_M → Prop} {m : am_M}   (H : Q [.inl 97] m) : ok 2 24 0 [some (.inr (.inr (some 3011))), some (.inl 30)] [] m Q := by
  refine ok_sg (pc' := 14) (ls' := [some (.inr (.inr (some 3011))), some (.inl 30)]) (st' := [.inl 97]) (m' := m) (fun fx hfx o hk => ?_) ?_
  · refine r_ld (pc' := 1) hM_24 d_24_0 rfl rfl ?_
    refine r_ld (pc' := 2) hM_24 d_24_1 rfl rfl ?_
    refine r_alF (pc' := 3) (n := 57) hM_24 d_24_2 rfl (by decide) (hfx.2.2 11 (by decide)) (by decide) ?_
    refine r_cl (pc' := 6) (c := (25, 2)) (a := [.inl 30, .inl 57]) (q := []) hM_24 d_24_3 rfl (by decide +kernel) hM_25 rfl rfl rfl (Nat.le_of_ble_eq_true rfl) (Nat.le_of_ble_eq_true rfl) (Or.inl rfl) (ok_rnk (sy_30_57 (m := m)) hfx) (Nat.le_of_ble_eq_true rfl) ?_
    show rn fx 2 (0, 0) 24 6 [some (.inr (.inr (some 3011))), some (.inl 30)] [] (st0 m) o
    refine r_ld (pc' := 7) hM_24 d_24_6 rfl rfl ?_
    refine r_ld (pc' := 8) hM_24 d_24_7 rfl rfl ?_
    refine r_baFk (pc' := 9) (n := 57) (z := 97) hM_24 d_24_8 rfl (by decide) (hfx.2.2 11 (by decide)) (by decide) (by decide +kernel) ?_
    refine r_k (pc' := 12) (v := .inl 255) hM_24 d_24_9 rfl rfl ?_
    refine r_b (pc' := 13) (z := 97) hM_24 d_24_12 rfl (by decide +kernel) ?_
    refine r_stk (pc' := 14) (st' := [.inl 97]) hM_24 d_24_13 rfl (by decide +kernel) ?_
    exact hk
  exact ok_rt (fun fx _ => rt_n hM_24 d_24_14 rfl (by decide) (by decide +kernel)) H
theorem sb_11_30 {m : am_M} : ok 2 24 0 (am_ent 2 [.inr (.inr (some 3011)), .inl 30]) [] m (fun rr m' => rr = [.inl 97] ∧ m' = m) := usb_11_30 ⟨rfl, rfl⟩
theorem usb_11_31 {Q : List am_V → am_M → Prop} {m : am_M}   (H : Q [.inl 112] m) : ok 2 24 0 [some (.inr (.inr (some 3011))), some (.inl 31)] [] m Q := by
  refine ok_sg (pc' := 14) (ls' := [some (.inr (.inr (some 3011))), some (.inl 31)]) (st' := [.inl 112]) (m' := m) (fun fx hfx o hk => ?_) ?_
  · refine r_ld (pc' := 1) hM_24 d_24_0 rfl rfl ?_
    refine r_ld (pc' := 2) hM_24 d_24_1 rfl rfl ?_
    refine r_alF (pc' := 3) (n := 57) hM_24 d_24_2 rfl (by decide) (hfx.2.2 11 (by decide)) (by decide) ?_
    refine r_cl (pc' := 6) (c := (25, 2)) (a := [.inl 31, .inl 57]) (q := []) hM_24 d_24_3 rfl (by decide +kernel) hM_25 rfl rfl rfl (Nat.le_of_ble_eq_true rfl) (Nat.le_of_ble_eq_true rfl) (Or.inl rfl) (ok_rnk (sy_31_57 (m := m)) hfx) (Nat.le_of_ble_eq_true rfl) ?_
    show rn fx 2 (0, 0) 24 6 [some (.inr (.inr (some 3011))), some (.inl 31)] [] (st0 m) o
    refine r_ld (pc' := 7) hM_24 d_24_6 rfl rfl ?_
    refine r_ld (pc' := 8) hM_24 d_24_7 rfl rfl ?_
    refine r_baFk (pc' := 9) (n := 57) (z := 112) hM_24 d_24_8 rfl (by decide) (hfx.2.2 11 (by decide)) (by decide) (by decide +kernel) ?_
    refine r_k (pc' := 12) (v := .inl 255) hM_24 d_24_9 rfl rfl ?_
    refine r_b (pc' := 13) (z := 112) hM_24 d_24_12 rfl (by decide +kernel) ?_
    refine r_stk (pc' := 14) (st' := [.inl 112]) hM_24 d_24_13 rfl (by decide +kernel) ?_
    exact hk
  exact ok_rt (fun fx _ => rt_n hM_24 d_24_14 rfl (by decide) (by decide +kernel)) H
theorem sb_11_31 {m : am_M} : ok 2 24 0 (am_ent 2 [.inr (.inr (some 3011)), .inl 31]) [] m (fun rr m' => rr = [.inl 112] ∧ m' = m) := usb_11_31 ⟨rfl, rfl⟩
theorem usb_11_32 {Q : List am_V → am_M → Prop} {m : am_M}   (H : Q [.inl 32] m) : ok 2 24 0 [some (.inr (.inr (some 3011))), some (.inl 32)] [] m Q := by
  refine ok_sg (pc' := 14) (ls' := [some (.inr (.inr (some 3011))), some (.inl 32)]) (st' := [.inl 32]) (m' := m) (fun fx hfx o hk => ?_) ?_
  · refine r_ld (pc' := 1) hM_24 d_24_0 rfl rfl ?_
    refine r_ld (pc' := 2) hM_24 d_24_1 rfl rfl ?_
    refine r_alF (pc' := 3) (n := 57) hM_24 d_24_2 rfl (by decide) (hfx.2.2 11 (by decide)) (by decide) ?_
    refine r_cl (pc' := 6) (c := (25, 2)) (a := [.inl 32, .inl 57]) (q := []) hM_24 d_24_3 rfl (by decide +kernel) hM_25 rfl rfl rfl (Nat.le_of_ble_eq_true rfl) (Nat.le_of_ble_eq_true rfl) (Or.inl rfl) (ok_rnk (sy_32_57 (m := m)) hfx) (Nat.le_of_ble_eq_true rfl) ?_
    show rn fx 2 (0, 0) 24 6 [some (.inr (.inr (some 3011))), some (.inl 32)] [] (st0 m) o
    refine r_ld (pc' := 7) hM_24 d_24_6 rfl rfl ?_
    refine r_ld (pc' := 8) hM_24 d_24_7 rfl rfl ?_
    refine r_baFk (pc' := 9) (n := 57) (z := 32) hM_24 d_24_8 rfl (by decide) (hfx.2.2 11 (by decide)) (by decide) (by decide +kernel) ?_
    refine r_k (pc' := 12) (v := .inl 255) hM_24 d_24_9 rfl rfl ?_
    refine r_b (pc' := 13) (z := 32) hM_24 d_24_12 rfl (by decide +kernel) ?_
    refine r_stk (pc' := 14) (st' := [.inl 32]) hM_24 d_24_13 rfl (by decide +kernel) ?_
    exact hk
  exact ok_rt (fun fx _ => rt_n hM_24 d_24_14 rfl (by decide) (by decide +kernel)) H
theorem sb_11_32 {m : am_M} : ok 2 24 0 (am_ent 2 [.inr (.inr (some 3011)), .inl 32]) [] m (fun rr m' => rr = [.inl 32] ∧ m' = m) := usb_11_32 ⟨rfl, rfl⟩
theorem usb_11_33 {Q : List am_V → am_M → Prop} {m : am_M}   (H : Q [.inl 108] m) : ok 2 24 0 [some (.inr (.inr (some 3011))), some (.inl 33)] [] m Q := by
  refine ok_sg (pc' := 14) (ls' := [some (.inr (.inr (some 3011))), some (.inl 33)]) (st' := [.inl 108]) (m' := m) (fun fx hfx o hk => ?_) ?_
  · refine r_ld (pc' := 1) hM_24 d_24_0 rfl rfl ?_
    refine r_ld (pc' := 2) hM_24 d_24_1 rfl rfl ?_
    refine r_alF (pc' := 3) (n := 57) hM_24 d_24_2 rfl (by decide) (hfx.2.2 11 (by decide)) (by decide) ?_
    refine r_cl (pc' := 6) (c := (25, 2)) (a := [.inl 33, .inl 57]) (q := []) hM_24 d_24_3 rfl (by decide +kernel) hM_25 rfl rfl rfl (Nat.le_of_ble_eq_true rfl) (Nat.le_of_ble_eq_true rfl) (Or.inl rfl) (ok_rnk (sy_33_57 (m := m)) hfx) (Nat.le_of_ble_eq_true rfl) ?_
    show rn fx 2 (0, 0) 24 6 [some (.inr (.inr (some 3011))), some (.inl 33)] [] (st0 m) o
    refine r_ld (pc' := 7) hM_24 d_24_6 rfl rfl ?_
    refine r_ld (pc' := 8) hM_24 d_24_7 rfl rfl ?_
    refine r_baFk (pc' := 9) (n := 57) (z := 108) hM_24 d_24_8 rfl (by decide) (hfx.2.2 11 (by decide)) (by decide) (by decide +kernel) ?_
    refine r_k (pc' := 12) (v := .inl 255) hM_24 d_24_9 rfl rfl ?_
    refine r_b (pc' := 13) (z := 108) hM_24 d_24_12 rfl (by decide +kernel) ?_
    refine r_stk (pc' := 14) (st' := [.inl 108]) hM_24 d_24_13 rfl (by decide +kernel) ?_
    exact hk
  exact ok_rt (fun fx _ => rt_n hM_24 d_24_14 rfl (by decide) (by decide +kernel)) H
theorem sb_11_33 {m : am_M} : ok 2 24 0 (am_ent 2 [.inr (.inr (some 3011)), .inl 33]) [] m (fun rr m' => rr = [.inl 108] ∧ m' = m) := usb_11_33 ⟨rfl, rfl⟩
theorem usb_11_34 {Q : List am_V → am_M → Prop} {m : am_M}   (H : Q [.inl 111] m) : ok 2 24 0 [some (.inr (.inr (some 3011))), some (.inl 34)] [] m Q := by
  refine ok_sg (pc' := 14) (ls' := [some (.inr (.inr (some 3011))), some (.inl 34)]) (st' := [.inl 111]) (m' := m) (fun fx hfx o hk => ?_) ?_
  · refine r_ld (pc' := 1) hM_24 d_24_0 rfl rfl ?_
    refine r_ld (pc' := 2) hM_24 d_24_1 rfl rfl ?_
    refine r_alF (pc' := 3) (n := 57) hM_24 d_24_2 rfl (by decide) (hfx.2.2 11 (by decide)) (by decide) ?_
    refine r_cl (pc' := 6) (c := (25, 2)) (a := [.inl 34, .inl 57]) (q := []) hM_24 d_24_3 rfl (by decide +kernel) hM_25 rfl rfl rfl (Nat.le_of_ble_eq_true rfl) (Nat.le_of_ble_eq_true rfl) (Or.inl rfl) (ok_rnk (sy_34_57 (m := m)) hfx) (Nat.le_of_ble_eq_true rfl) ?_
    show rn fx 2 (0, 0) 24 6 [some (.inr (.inr (some 3011))), some (.inl 34)] [] (st0 m) o
    refine r_ld (pc' := 7) hM_24 d_24_6 rfl rfl ?_
    refine r_ld (pc' := 8) hM_24 d_24_7 rfl rfl ?_
    refine r_baFk (pc' := 9) (n := 57) (z := 111) hM_24 d_24_8 rfl (by decide) (hfx.2.2 11 (by decide)) (by decide) (by decide +kernel) ?_
    refine r_k (pc' := 12) (v := .inl 255) hM_24 d_24_9 rfl rfl ?_
    refine r_b (pc' := 13) (z := 111) hM_24 d_24_12 rfl (by decide +kernel) ?_
    refine r_stk (pc' := 14) (st' := [.inl 111]) hM_24 d_24_13 rfl (by decide +kernel) ?_
    exact hk
  exact ok_rt (fun fx _ => rt_n hM_24 d_24_14 rfl (by decide) (by decide +kernel)) H
theorem sb_11_34 {m : am_M} : ok 2 24 0 (am_ent 2 [.inr (.inr (some 3011)), .inl 34]) [] m (fun rr m' => rr = [.inl 111] ∧ m' = m) := usb_11_34 ⟨rfl, rfl⟩
theorem usb_11_35 {Q : List am_V → am_M → Prop} {m : am_M}   (H : Q [.inl 119] m) : ok 2 24 0 [some (.inr (.inr (some 3011))), some (.inl 35)] [] m Q := by
  refine ok_sg (pc' := 14) (ls' := [some (.inr (.inr (some 3011))), some (.inl 35)]) (st' := [.inl 119]) (m' := m) (fun fx hfx o hk => ?_) ?_
  · refine r_ld (pc' := 1) hM_24 d_24_0 rfl rfl ?_
    refine r_ld (pc' := 2) hM_24 d_24_1 rfl rfl ?_
    refine r_alF (pc' := 3) (n := 57) hM_24 d_24_2 rfl (by decide) (hfx.2.2 11 (by decide)) (by decide) ?_
    refine r_cl (pc' := 6) (c := (25, 2)) (a := [.inl 35, .inl 57]) (q := []) hM_24 d_24_3 rfl (by decide +kernel) hM_25 rfl rfl rfl (Nat.le_of_ble_eq_true rfl) (Nat.le_of_ble_eq_true rfl) (Or.inl rfl) (ok_rnk (sy_35_57 (m := m)) hfx) (Nat.le_of_ble_eq_true rfl) ?_
    show rn fx 2 (0, 0) 24 6 [some (.inr (.inr (some 3011))), some (.inl 35)] [] (st0 m) o
    refine r_ld (pc' := 7) hM_24 d_24_6 rfl rfl ?_
    refine r_ld (pc' := 8) hM_24 d_24_7 rfl rfl ?_
    refine r_baFk (pc' := 9) (n := 57) (z := 119) hM_24 d_24_8 rfl (by decide) (hfx.2.2 11 (by decide)) (by decide) (by decide +kernel) ?_
    refine r_k (pc' := 12) (v := .inl 255) hM_24 d_24_9 rfl rfl ?_
    refine r_b (pc' := 13) (z := 119) hM_24 d_24_12 rfl (by decide +kernel) ?_
    refine r_stk (pc' := 14) (st' := [.inl 119]) hM_24 d_24_13 rfl (by decide +kernel) ?_
    exact hk
  exact ok_rt (fun fx _ => rt_n hM_24 d_24_14 rfl (by decide) (by decide +kernel)) H
theorem sb_11_35 {m : am_M} : ok 2 24 0 (am_ent 2 [.inr (.inr (some 3011)), .inl 35]) [] m (fun rr m' => rr = [.inl 119] ∧ m' = m) := usb_11_35 ⟨rfl, rfl⟩
theorem usb_11_36 {Q : List am_V → am_M → Prop} {m : am_M}   (H : Q [.inl 32] m) : ok 2 24 0 [some (.inr (.inr (some 3011))), some (.inl 36)] [] m Q := by
  refine ok_sg (pc' := 14) (ls' := [some (.inr (.inr (some 3011))), some (.inl 36)]) (st' := [.inl 32]) (m' := m) (fun fx hfx o hk => ?_) ?_
  · refine r_ld (pc' := 1) hM_24 d_24_0 rfl rfl ?_
    refine r_ld (pc' := 2) hM_24 d_24_1 rfl rfl ?_
    refine r_alF (pc' := 3) (n := 57) hM_24 d_24_2 rfl (by decide) (hfx.2.2 11 (by decide)) (by decide) ?_
    refine r_cl (pc' := 6) (c := (25, 2)) (a := [.inl 36, .inl 57]) (q := []) hM_24 d_24_3 rfl (by decide +kernel) hM_25 rfl rfl rfl (Nat.le_of_ble_eq_true rfl) (Nat.le_of_ble_eq_true rfl) (Or.inl rfl) (ok_rnk (sy_36_57 (m := m)) hfx) (Nat.le_of_ble_eq_true rfl) ?_
    show rn fx 2 (0, 0) 24 6 [some (.inr (.inr (some 3011))), some (.inl 36)] [] (st0 m) o
    refine r_ld (pc' := 7) hM_24 d_24_6 rfl rfl ?_
    refine r_ld (pc' := 8) hM_24 d_24_7 rfl rfl ?_
    refine r_baFk (pc' := 9) (n := 57) (z := 32) hM_24 d_24_8 rfl (by decide) (hfx.2.2 11 (by decide)) (by decide) (by decide +kernel) ?_
    refine r_k (pc' := 12) (v := .inl 255) hM_24 d_24_9 rfl rfl ?_
    refine r_b (pc' := 13) (z := 32) hM_24 d_24_12 rfl (by decide +kernel) ?_
    refine r_stk (pc' := 14) (st' := [.inl 32]) hM_24 d_24_13 rfl (by decide +kernel) ?_
    exact hk
  exact ok_rt (fun fx _ => rt_n hM_24 d_24_14 rfl (by decide) (by decide +kernel)) H
theorem sb_11_36 {m : am_M} : ok 2 24 0 (am_ent 2 [.inr (.inr (some 3011)), .inl 36]) [] m (fun rr m' => rr = [.inl 32] ∧ m' = m) := usb_11_36 ⟨rfl, rfl⟩
theorem usb_11_37 {Q : List am_V → am_M → Prop} {m : am_M}   (H : Q [.inl 108] m) : ok 2 24 0 [some (.inr (.inr (some 3011))), some (.inl 37)] [] m Q := by
  refine ok_sg (pc' := 14) (ls' := [some (.inr (.inr (some 3011))), some (.inl 37)]) (st' := [.inl 108]) (m' := m) (fun fx hfx o hk => ?_) ?_
  · refine r_ld (pc' := 1) hM_24 d_24_0 rfl rfl ?_
    refine r_ld (pc' := 2) hM_24 d_24_1 rfl rfl ?_
    refine r_alF (pc' := 3) (n := 57) hM_24 d_24_2 rfl (by decide) (hfx.2.2 11 (by decide)) (by decide) ?_
    refine r_cl (pc' := 6) (c := (25, 2)) (a := [.inl 37, .inl 57]) (q := []) hM_24 d_24_3 rfl (by decide +kernel) hM_25 rfl rfl rfl (Nat.le_of_ble_eq_true rfl) (Nat.le_of_ble_eq_true rfl) (Or.inl rfl) (ok_rnk (sy_37_57 (m := m)) hfx) (Nat.le_of_ble_eq_true rfl) ?_
    show rn fx 2 (0, 0) 24 6 [some (.inr (.inr (some 3011))), some (.inl 37)] [] (st0 m) o
    refine r_ld (pc' := 7) hM_24 d_24_6 rfl rfl ?_
    refine r_ld (pc' := 8) hM_24 d_24_7 rfl rfl ?_
    refine r_baFk (pc' := 9) (n := 57) (z := 108) hM_24 d_24_8 rfl (by decide) (hfx.2.2 11 (by decide)) (by decide) (by decide +kernel) ?_
    refine r_k (pc' := 12) (v := .inl 255) hM_24 d_24_9 rfl rfl ?_
    refine r_b (pc' := 13) (z := 108) hM_24 d_24_12 rfl (by decide +kernel) ?_
    refine r_stk (pc' := 14) (st' := [.inl 108]) hM_24 d_24_13 rfl (by decide +kernel) ?_
    exact hk
  exact ok_rt (fun fx _ => rt_n hM_24 d_24_14 rfl (by decide) (by decide +kernel)) H
theorem sb_11_37 {m : am_M} : ok 2 24 0 (am_ent 2 [.inr (.inr (some 3011)), .inl 37]) [] m (fun rr m' => rr = [.inl 108] ∧ m' = m) := usb_11_37 ⟨rfl, rfl⟩
theorem usb_11_38 {Q : List am_V → am_M → Prop} {m : am_M}   (H : Q [.inl 105] m) : ok 2 24 0 [some (.inr (.inr (some 3011))), some (.inl 38)] [] m Q := by
  refine ok_sg (pc' := 14) (ls' := [some (.inr (.inr (some 3011))), some (.inl 38)]) (st' := [.inl 105]) (m' := m) (fun fx hfx o hk => ?_) ?_
  · refine r_ld (pc' := 1) hM_24 d_24_0 rfl rfl ?_
    refine r_ld (pc' := 2) hM_24 d_24_1 rfl rfl ?_
    refine r_alF (pc' := 3) (n := 57) hM_24 d_24_2 rfl (by decide) (hfx.2.2 11 (by decide)) (by decide) ?_
    refine r_cl (pc' := 6) (c := (25, 2)) (a := [.inl 38, .inl 57]) (q := []) hM_24 d_24_3 rfl (by decide +kernel) hM_25 rfl rfl rfl (Nat.le_of_ble_eq_true rfl) (Nat.le_of_ble_eq_true rfl) (Or.inl rfl) (ok_rnk (sy_38_57 (m := m)) hfx) (Nat.le_of_ble_eq_true rfl) ?_
    show rn fx 2 (0, 0) 24 6 [some (.inr (.inr (some 3011))), some (.inl 38)] [] (st0 m) o
    refine r_ld (pc' := 7) hM_24 d_24_6 rfl rfl ?_
    refine r_ld (pc' := 8) hM_24 d_24_7 rfl rfl ?_
    refine r_baFk (pc' := 9) (n := 57) (z := 105) hM_24 d_24_8 rfl (by decide) (hfx.2.2 11 (by decide)) (by decide) (by decide +kernel) ?_
    refine r_k (pc' := 12) (v := .inl 255) hM_24 d_24_9 rfl rfl ?_
    refine r_b (pc' := 13) (z := 105) hM_24 d_24_12 rfl (by decide +kernel) ?_
    refine r_stk (pc' := 14) (st' := [.inl 105]) hM_24 d_24_13 rfl (by decide +kernel) ?_
    exact hk
  exact ok_rt (fun fx _ => rt_n hM_24 d_24_14 rfl (by decide) (by decide +kernel)) H
theorem sb_11_38 {m : am_M} : ok 2 24 0 (am_ent 2 [.inr (.inr (some 3011)), .inl 38]) [] m (fun rr m' => rr = [.inl 105] ∧ m' = m) := usb_11_38 ⟨rfl, rfl⟩
theorem usb_11_39 {Q : List am_V → am_M → Prop} {m : am_M}   (H : Q [.inl 101] m) : ok 2 24 0 [some (.inr (.inr (some 3011))), some (.inl 39)] [] m Q := by
  refine ok_sg (pc' := 14) (ls' := [some (.inr (.inr (some 3011))), some (.inl 39)]) (st' := [.inl 101]) (m' := m) (fun fx hfx o hk => ?_) ?_
  · refine r_ld (pc' := 1) hM_24 d_24_0 rfl rfl ?_
    refine r_ld (pc' := 2) hM_24 d_24_1 rfl rfl ?_
    refine r_alF (pc' := 3) (n := 57) hM_24 d_24_2 rfl (by decide) (hfx.2.2 11 (by decide)) (by decide) ?_
    refine r_cl (pc' := 6) (c := (25, 2)) (a := [.inl 39, .inl 57]) (q := []) hM_24 d_24_3 rfl (by decide +kernel) hM_25 rfl rfl rfl (Nat.le_of_ble_eq_true rfl) (Nat.le_of_ble_eq_true rfl) (Or.inl rfl) (ok_rnk (sy_39_57 (m := m)) hfx) (Nat.le_of_ble_eq_true rfl) ?_
    show rn fx 2 (0, 0) 24 6 [some (.inr (.inr (some 3011))), some (.inl 39)] [] (st0 m) o
    refine r_ld (pc' := 7) hM_24 d_24_6 rfl rfl ?_
    refine r_ld (pc' := 8) hM_24 d_24_7 rfl rfl ?_
    refine r_baFk (pc' := 9) (n := 57) (z := 101) hM_24 d_24_8 rfl (by decide) (hfx.2.2 11 (by decide)) (by decide) (by decide +kernel) ?_
    refine r_k (pc' := 12) (v := .inl 255) hM_24 d_24_9 rfl rfl ?_
    refine r_b (pc' := 13) (z := 101) hM_24 d_24_12 rfl (by decide +kernel) ?_
    refine r_stk (pc' := 14) (st' := [.inl 101]) hM_24 d_24_13 rfl (by decide +kernel) ?_
    exact hk
  exact ok_rt (fun fx _ => rt_n hM_24 d_24_14 rfl (by decide) (by decide +kernel)) H
theorem sb_11_39 {m : am_M} : ok 2 24 0 (am_ent 2 [.inr (.inr (some 3011)), .inl 39]) [] m (fun rr m' => rr = [.inl 101] ∧ m' = m) := usb_11_39 ⟨rfl, rfl⟩
theorem usb_11_40 {Q : List am_V → am_M → Prop} {m : am_M}   (H : Q [.inl 32] m) : ok 2 24 0 [some (.inr (.inr (some 3011))), some (.inl 40)] [] m Q := by
  refine ok_sg (pc' := 14) (ls' := [some (.inr (.inr (some 3011))), some (.inl 40)]) (st' := [.inl 32]) (m' := m) (fun fx hfx o hk => ?_) ?_
  · refine r_ld (pc' := 1) hM_24 d_24_0 rfl rfl ?_
    refine r_ld (pc' := 2) hM_24 d_24_1 rfl rfl ?_
    refine r_alF (pc' := 3) (n := 57) hM_24 d_24_2 rfl (by decide) (hfx.2.2 11 (by decide)) (by decide) ?_
    refine r_cl (pc' := 6) (c := (25, 2)) (a := [.inl 40, .inl 57]) (q := []) hM_24 d_24_3 rfl (by decide +kernel) hM_25 rfl rfl rfl (Nat.le_of_ble_eq_true rfl) (Nat.le_of_ble_eq_true rfl) (Or.inl rfl) (ok_rnk (sy_40_57 (m := m)) hfx) (Nat.le_of_ble_eq_true rfl) ?_
    show rn fx 2 (0, 0) 24 6 [some (.inr (.inr (some 3011))), some (.inl 40)] [] (st0 m) o
    refine r_ld (pc' := 7) hM_24 d_24_6 rfl rfl ?_
    refine r_ld (pc' := 8) hM_24 d_24_7 rfl rfl ?_
    refine r_baFk (pc' := 9) (n := 57) (z := 32) hM_24 d_24_8 rfl (by decide) (hfx.2.2 11 (by decide)) (by decide) (by decide +kernel) ?_
    refine r_k (pc' := 12) (v := .inl 255) hM_24 d_24_9 rfl rfl ?_
    refine r_b (pc' := 13) (z := 32) hM_24 d_24_12 rfl (by decide +kernel) ?_
    refine r_stk (pc' := 14) (st' := [.inl 32]) hM_24 d_24_13 rfl (by decide +kernel) ?_
    exact hk
  exact ok_rt (fun fx _ => rt_n hM_24 d_24_14 rfl (by decide) (by decide +kernel)) H
theorem sb_11_40 {m : am_M} : ok 2 24 0 (am_ent 2 [.inr (.inr (some 3011)), .inl 40]) [] m (fun rr m' => rr = [.inl 32] ∧ m' = m) := usb_11_40 ⟨rfl, rfl⟩
theorem usb_11_41 {Q : List am_V → am_M → Prop} {m : am_M}   (H : Q [.inl 104] m) : ok 2 24 0 [some (.inr (.inr (some 3011))), some (.inl 41)] [] m Q := by
  refine ok_sg (pc' := 14) (ls' := [some (.inr (.inr (some 3011))), some (.inl 41)]) (st' := [.inl 104]) (m' := m) (fun fx hfx o hk => ?_) ?_
  · refine r_ld (pc' := 1) hM_24 d_24_0 rfl rfl ?_
    refine r_ld (pc' := 2) hM_24 d_24_1 rfl rfl ?_
    refine r_alF (pc' := 3) (n := 57) hM_24 d_24_2 rfl (by decide) (hfx.2.2 11 (by decide)) (by decide) ?_
    refine r_cl (pc' := 6) (c := (25, 2)) (a := [.inl 41, .inl 57]) (q := []) hM_24 d_24_3 rfl (by decide +kernel) hM_25 rfl rfl rfl (Nat.le_of_ble_eq_true rfl) (Nat.le_of_ble_eq_true rfl) (Or.inl rfl) (ok_rnk (sy_41_57 (m := m)) hfx) (Nat.le_of_ble_eq_true rfl) ?_
    show rn fx 2 (0, 0) 24 6 [some (.inr (.inr (some 3011))), some (.inl 41)] [] (st0 m) o
    refine r_ld (pc' := 7) hM_24 d_24_6 rfl rfl ?_
    refine r_ld (pc' := 8) hM_24 d_24_7 rfl rfl ?_
    refine r_baFk (pc' := 9) (n := 57) (z := 104) hM_24 d_24_8 rfl (by decide) (hfx.2.2 11 (by decide)) (by decide) (by decide +kernel) ?_
    refine r_k (pc' := 12) (v := .inl 255) hM_24 d_24_9 rfl rfl ?_
    refine r_b (pc' := 13) (z := 104) hM_24 d_24_12 rfl (by decide +kernel) ?_
    refine r_stk (pc' := 14) (st' := [.inl 104]) hM_24 d_24_13 rfl (by decide +kernel) ?_
    exact hk
  exact ok_rt (fun fx _ => rt_n hM_24 d_24_14 rfl (by decide) (by decide +kernel)) H
theorem sb_11_41 {m : am_M} : ok 2 24 0 (am_ent 2 [.inr (.inr (some 3011)), .inl 41]) [] m (fun rr m' => rr = [.inl 104] ∧ m' = m) := usb_11_41 ⟨rfl, rfl⟩
theorem usb_11_42 {Q : List am_V → am_M → Prop} {m : am_M}   (H : Q [.inl 97] m) : ok 2 24 0 [some (.inr (.inr (some 3011))), some (.inl 42)] [] m Q := by
  refine ok_sg (pc' := 14) (ls' := [some (.inr (.inr (some 3011))), some (.inl 42)]) (st' := [.inl 97]) (m' := m) (fun fx hfx o hk => ?_) ?_
  · refine r_ld (pc' := 1) hM_24 d_24_0 rfl rfl ?_
    refine r_ld (pc' := 2) hM_24 d_24_1 rfl rfl ?_
    refine r_alF (pc' := 3) (n := 57) hM_24 d_24_2 rfl (by decide) (hfx.2.2 11 (by decide)) (by decide) ?_
    refine r_cl (pc' := 6) (c := (25, 2)) (a := [.inl 42, .inl 57]) (q := []) hM_24 d_24_3 rfl (by decide +kernel) hM_25 rfl rfl rfl (Nat.le_of_ble_eq_true rfl) (Nat.le_of_ble_eq_true rfl) (Or.inl rfl) (ok_rnk (sy_42_57 (m := m)) hfx) (Nat.le_of_ble_eq_true rfl) ?_
    show rn fx 2 (0, 0) 24 6 [some (.inr (.inr (some 3011))), some (.inl 42)] [] (st0 m) o
    refine r_ld (pc' := 7) hM_24 d_24_6 rfl rfl ?_
    refine r_ld (pc' := 8) hM_24 d_24_7 rfl rfl ?_
    refine r_baFk (pc' := 9) (n := 57) (z := 97) hM_24 d_24_8 rfl (by decide) (hfx.2.2 11 (by decide)) (by decide) (by decide +kernel) ?_
    refine r_k (pc' := 12) (v := .inl 255) hM_24 d_24_9 rfl rfl ?_
    refine r_b (pc' := 13) (z := 97) hM_24 d_24_12 rfl (by decide +kernel) ?_
    refine r_stk (pc' := 14) (st' := [.inl 97]) hM_24 d_24_13 rfl (by decide +kernel) ?_
    exact hk
  exact ok_rt (fun fx _ => rt_n hM_24 d_24_14 rfl (by decide) (by decide +kernel)) H
theorem sb_11_42 {m : am_M} : ok 2 24 0 (am_ent 2 [.inr (.inr (some 3011)), .inl 42]) [] m (fun rr m' => rr = [.inl 97] ∧ m' = m) := usb_11_42 ⟨rfl, rfl⟩
theorem usb_11_43 {Q : List am_V → am_M → Prop} {m : am_M}   (H : Q [.inl 110] m) : ok 2 24 0 [some (.inr (.inr (some 3011))), some (.inl 43)] [] m Q := by
  refine ok_sg (pc' := 14) (ls' := [some (.inr (.inr (some 3011))), some (.inl 43)]) (st' := [.inl 110]) (m' := m) (fun fx hfx o hk => ?_) ?_
  · refine r_ld (pc' := 1) hM_24 d_24_0 rfl rfl ?_
    refine r_ld (pc' := 2) hM_24 d_24_1 rfl rfl ?_
    refine r_alF (pc' := 3) (n := 57) hM_24 d_24_2 rfl (by decide) (hfx.2.2 11 (by decide)) (by decide) ?_
    refine r_cl (pc' := 6) (c := (25, 2)) (a := [.inl 43, .inl 57]) (q := []) hM_24 d_24_3 rfl (by decide +kernel) hM_25 rfl rfl rfl (Nat.le_of_ble_eq_true rfl) (Nat.le_of_ble_eq_true rfl) (Or.inl rfl) (ok_rnk (sy_43_57 (m := m)) hfx) (Nat.le_of_ble_eq_true rfl) ?_
    show rn fx 2 (0, 0) 24 6 [some (.inr (.inr (some 3011))), some (.inl 43)] [] (st0 m) o
    refine r_ld (pc' := 7) hM_24 d_24_6 rfl rfl ?_
    refine r_ld (pc' := 8) hM_24 d_24_7 rfl rfl ?_
    refine r_baFk (pc' := 9) (n := 57) (z := 110) hM_24 d_24_8 rfl (by decide) (hfx.2.2 11 (by decide)) (by decide) (by decide +kernel) ?_
    refine r_k (pc' := 12) (v := .inl 255) hM_24 d_24_9 rfl rfl ?_
    refine r_b (pc' := 13) (z := 110) hM_24 d_24_12 rfl (by decide +kernel) ?_
    refine r_stk (pc' := 14) (st' := [.inl 110]) hM_24 d_24_13 rfl (by decide +kernel) ?_
    exact hk
  exact ok_rt (fun fx _ => rt_n hM_24 d_24_14 rfl (by decide) (by decide +kernel)) H
theorem sb_11_43 {m : am_M} : ok 2 24 0 (am_ent 2 [.inr (.inr (some 3011)), .inl 43]) [] m (fun rr m' => rr = [.inl 110] ∧ m' = m) := usb_11_43 ⟨rfl, rfl⟩
theorem usb_11_44 {Q : List am_V → am_M → Prop} {m : am_M}   (H : Q [.inl 100] m) : ok 2 24 0 [some (.inr (.inr (some 3011))), some (.inl 44)] [] m Q := by
  refine ok_sg (pc' := 14) (ls' := [some (.inr (.inr (some 3011))), some (.inl 44)]) (st' := [.inl 100]) (m' := m) (fun fx hfx o hk => ?_) ?_
  · refine r_ld (pc' := 1) hM_24 d_24_0 rfl rfl ?_
    refine r_ld (pc' := 2) hM_24 d_24_1 rfl rfl ?_
    refine r_alF (pc' := 3) (n := 57) hM_24 d_24_2 rfl (by decide) (hfx.2.2 11 (by decide)) (by decide) ?_
    refine r_cl (pc' := 6) (c := (25, 2)) (a := [.inl 44, .inl 57]) (q := []) hM_24 d_24_3 rfl (by decide +kernel) hM_25 rfl rfl rfl (Nat.le_of_ble_eq_true rfl) (Nat.le_of_ble_eq_true rfl) (Or.inl rfl) (ok_rnk (sy_44_57 (m := m)) hfx) (Nat.le_of_ble_eq_true rfl) ?_
    show rn fx 2 (0, 0) 24 6 [some (.inr (.inr (some 3011))), some (.inl 44)] [] (st0 m) o
    refine r_ld (pc' := 7) hM_24 d_24_6 rfl rfl ?_
    refine r_ld (pc' := 8) hM_24 d_24_7 rfl rfl ?_
    refine r_baFk (pc' := 9) (n := 57) (z := 100) hM_24 d_24_8 rfl (by decide) (hfx.2.2 11 (by decide)) (by decide) (by decide +kernel) ?_
    refine r_k (pc' := 12) (v := .inl 255) hM_24 d_24_9 rfl rfl ?_
    refine r_b (pc' := 13) (z := 100) hM_24 d_24_12 rfl (by decide +kernel) ?_
    refine r_stk (pc' := 14) (st' := [.inl 100]) hM_24 d_24_13 rfl (by decide +kernel) ?_
    exact hk
  exact ok_rt (fun fx _ => rt_n hM_24 d_24_14 rfl (by decide) (by decide +kernel)) H
theorem sb_11_44 {m : am_M} : ok 2 24 0 (am_ent 2 [.inr (.inr (some 3011)), .inl 44]) [] m (fun rr m' => rr = [.inl 100] ∧ m' = m) := usb_11_44 ⟨rfl, rfl⟩
theorem usb_11_45 {Q : List am_V → am_M → Prop} {m : am_M}   (H : Q [.inl 115] m) : ok 2 24 0 [some (.inr (.inr (some 3011))), some (.inl 45)] [] m Q := by
  refine ok_sg (pc' := 14) (ls' := [some (.inr (.inr (some 3011))), some (.inl 45)]) (st' := [.inl 115]) (m' := m) (fun fx hfx o hk => ?_) ?_
  · refine r_ld (pc' := 1) hM_24 d_24_0 rfl rfl ?_
    refine r_ld (pc' := 2) hM_24 d_24_1 rfl rfl ?_
    refine r_alF (pc' := 3) (n := 57) hM_24 d_24_2 rfl (by decide) (hfx.2.2 11 (by decide)) (by decide) ?_
    refine r_cl (pc' := 6) (c := (25, 2)) (a := [.inl 45, .inl 57]) (q := []) hM_24 d_24_3 rfl (by decide +kernel) hM_25 rfl rfl rfl (Nat.le_of_ble_eq_true rfl) (Nat.le_of_ble_eq_true rfl) (Or.inl rfl) (ok_rnk (sy_45_57 (m := m)) hfx) (Nat.le_of_ble_eq_true rfl) ?_
    show rn fx 2 (0, 0) 24 6 [some (.inr (.inr (some 3011))), some (.inl 45)] [] (st0 m) o
    refine r_ld (pc' := 7) hM_24 d_24_6 rfl rfl ?_
    refine r_ld (pc' := 8) hM_24 d_24_7 rfl rfl ?_
    refine r_baFk (pc' := 9) (n := 57) (z := 115) hM_24 d_24_8 rfl (by decide) (hfx.2.2 11 (by decide)) (by decide) (by decide +kernel) ?_
    refine r_k (pc' := 12) (v := .inl 255) hM_24 d_24_9 rfl rfl ?_
    refine r_b (pc' := 13) (z := 115) hM_24 d_24_12 rfl (by decide +kernel) ?_
    refine r_stk (pc' := 14) (st' := [.inl 115]) hM_24 d_24_13 rfl (by decide +kernel) ?_
    exact hk
  exact ok_rt (fun fx _ => rt_n hM_24 d_24_14 rfl (by decide) (by decide +kernel)) H
theorem sb_11_45 {m : am_M} : ok 2 24 0 (am_ent 2 [.inr (.inr (some 3011)), .inl 45]) [] m (fun rr m' => rr = [.inl 115] ∧ m' = m) := usb_11_45 ⟨rfl, rfl⟩
theorem usb_11_46 {Q : List am_V → am_M → Prop} {m : am_M}   (H : Q [.inl 32] m) : ok 2 24 0 [some (.inr (.inr (some 3011))), some (.inl 46)] [] m Q := by
  refine ok_sg (pc' := 14) (ls' := [some (.inr (.inr (some 3011))), some (.inl 46)]) (st' := [.inl 32]) (m' := m) (fun fx hfx o hk => ?_) ?_
  · refine r_ld (pc' := 1) hM_24 d_24_0 rfl rfl ?_
    refine r_ld (pc' := 2) hM_24 d_24_1 rfl rfl ?_
    refine r_alF (pc' := 3) (n := 57) hM_24 d_24_2 rfl (by decide) (hfx.2.2 11 (by decide)) (by decide) ?_
    refine r_cl (pc' := 6) (c := (25, 2)) (a := [.inl 46, .inl 57]) (q := []) hM_24 d_24_3 rfl (by decide +kernel) hM_25 rfl rfl rfl (Nat.le_of_ble_eq_true rfl) (Nat.le_of_ble_eq_true rfl) (Or.inl rfl) (ok_rnk (sy_46_57 (m := m)) hfx) (Nat.le_of_ble_eq_true rfl) ?_
    show rn fx 2 (0, 0) 24 6 [some (.inr (.inr (some 3011))), some (.inl 46)] [] (st0 m) o
    refine r_ld (pc' := 7) hM_24 d_24_6 rfl rfl ?_
    refine r_ld (pc' := 8) hM_24 d_24_7 rfl rfl ?_
    refine r_baFk (pc' := 9) (n := 57) (z := 32) hM_24 d_24_8 rfl (by decide) (hfx.2.2 11 (by decide)) (by decide) (by decide +kernel) ?_
    refine r_k (pc' := 12) (v := .inl 255) hM_24 d_24_9 rfl rfl ?_
    refine r_b (pc' := 13) (z := 32) hM_24 d_24_12 rfl (by decide +kernel) ?_
    refine r_stk (pc' := 14) (st' := [.inl 32]) hM_24 d_24_13 rfl (by decide +kernel) ?_
    exact hk
  exact ok_rt (fun fx _ => rt_n hM_24 d_24_14 rfl (by decide) (by decide +kernel)) H
theorem sb_11_46 {m : am_M} : ok 2 24 0 (am_ent 2 [.inr (.inr (some 3011)), .inl 46]) [] m (fun rr m' => rr = [.inl 32] ∧ m' = m) := usb_11_46 ⟨rfl, rfl⟩
theorem usb_11_47 {Q : List am_V → am_M → Prop} {m : am_M}   (H : Q [.inl 108] m) : ok 2 24 0 [some (.inr (.inr (some 3011))), some (.inl 47)] [] m Q := by
  refine ok_sg (pc' := 14) (ls' := [some (.inr (.inr (some 3011))), some (.inl 47)]) (st' := [.inl 108]) (m' := m) (fun fx hfx o hk => ?_) ?_
  · refine r_ld (pc' := 1) hM_24 d_24_0 rfl rfl ?_
    refine r_ld (pc' := 2) hM_24 d_24_1 rfl rfl ?_
    refine r_alF (pc' := 3) (n := 57) hM_24 d_24_2 rfl (by decide) (hfx.2.2 11 (by decide)) (by decide) ?_
    refine r_cl (pc' := 6) (c := (25, 2)) (a := [.inl 47, .inl 57]) (q := []) hM_24 d_24_3 rfl (by decide +kernel) hM_25 rfl rfl rfl (Nat.le_of_ble_eq_true rfl) (Nat.le_of_ble_eq_true rfl) (Or.inl rfl) (ok_rnk (sy_47_57 (m := m)) hfx) (Nat.le_of_ble_eq_true rfl) ?_
    show rn fx 2 (0, 0) 24 6 [some (.inr (.inr (some 3011))), some (.inl 47)] [] (st0 m) o
    refine r_ld (pc' := 7) hM_24 d_24_6 rfl rfl ?_
    refine r_ld (pc' := 8) hM_24 d_24_7 rfl rfl ?_
    refine r_baFk (pc' := 9) (n := 57) (z := 108) hM_24 d_24_8 rfl (by decide) (hfx.2.2 11 (by decide)) (by decide) (by decide +kernel) ?_
    refine r_k (pc' := 12) (v := .inl 255) hM_24 d_24_9 rfl rfl ?_
    refine r_b (pc' := 13) (z := 108) hM_24 d_24_12 rfl (by decide +kernel) ?_
    refine r_stk (pc' := 14) (st' := [.inl 108]) hM_24 d_24_13 rfl (by decide +kernel) ?_
    exact hk
  exact ok_rt (fun fx _ => rt_n hM_24 d_24_14 rfl (by decide) (by decide +kernel)) H
theorem sb_11_47 {m : am_M} : ok 2 24 0 (am_ent 2 [.inr (.inr (some 3011)), .inl 47]) [] m (fun rr m' => rr = [.inl 108] ∧ m' = m) := usb_11_47 ⟨rfl, rfl⟩
theorem usb_11_48 {Q : List am_V → am_M → Prop} {m : am_M}   (H : Q [.inl 101] m) : ok 2 24 0 [some (.inr (.inr (some 3011))), some (.inl 48)] [] m Q := by
  refine ok_sg (pc' := 14) (ls' := [some (.inr (.inr (some 3011))), some (.inl 48)]) (st' := [.inl 101]) (m' := m) (fun fx hfx o hk => ?_) ?_
  · refine r_ld (pc' := 1) hM_24 d_24_0 rfl rfl ?_
    refine r_ld (pc' := 2) hM_24 d_24_1 rfl rfl ?_
    refine r_alF (pc' := 3) (n := 57) hM_24 d_24_2 rfl (by decide) (hfx.2.2 11 (by decide)) (by decide) ?_
    refine r_cl (pc' := 6) (c := (25, 2)) (a := [.inl 48, .inl 57]) (q := []) hM_24 d_24_3 rfl (by decide +kernel) hM_25 rfl rfl rfl (Nat.le_of_ble_eq_true rfl) (Nat.le_of_ble_eq_true rfl) (Or.inl rfl) (ok_rnk (sy_48_57 (m := m)) hfx) (Nat.le_of_ble_eq_true rfl) ?_
    show rn fx 2 (0, 0) 24 6 [some (.inr (.inr (some 3011))), some (.inl 48)] [] (st0 m) o
    refine r_ld (pc' := 7) hM_24 d_24_6 rfl rfl ?_
    refine r_ld (pc' := 8) hM_24 d_24_7 rfl rfl ?_
    refine r_baFk (pc' := 9) (n := 57) (z := 101) hM_24 d_24_8 rfl (by decide) (hfx.2.2 11 (by decide)) (by decide) (by decide +kernel) ?_
    refine r_k (pc' := 12) (v := .inl 255) hM_24 d_24_9 rfl rfl ?_
    refine r_b (pc' := 13) (z := 101) hM_24 d_24_12 rfl (by decide +kernel) ?_
    refine r_stk (pc' := 14) (st' := [.inl 101]) hM_24 d_24_13 rfl (by decide +kernel) ?_
    exact hk
  exact ok_rt (fun fx _ => rt_n hM_24 d_24_14 rfl (by decide) (by decide +kernel)) H
theorem sb_11_48 {m : am_M} : ok 2 24 0 (am_ent 2 [.inr (.inr (some 3011)), .inl 48]) [] m (fun rr m' => rr = [.inl 101] ∧ m' = m) := usb_11_48 ⟨rfl, rfl⟩
theorem usb_11_49 {Q : List am_V → am_M → Prop} {m : am_M}   (H : Q [.inl 102] m) : ok 2 24 0 [some (.inr (.inr (some 3011))), some (.inl 49)] [] m Q := by
  refine ok_sg (pc' := 14) (ls' := [some (.inr (.inr (some 3011))), some (.inl 49)]) (st' := [.inl 102]) (m' := m) (fun fx hfx o hk => ?_) ?_
  · refine r_ld (pc' := 1) hM_24 d_24_0 rfl rfl ?_
    refine r_ld (pc' := 2) hM_24 d_24_1 rfl rfl ?_
    refine r_alF (pc' := 3) (n := 57) hM_24 d_24_2 rfl (by decide) (hfx.2.2 11 (by decide)) (by decide) ?_
    refine r_cl (pc' := 6) (c := (25, 2)) (a := [.inl 49, .inl 57]) (q := []) hM_24 d_24_3 rfl (by decide +kernel) hM_25 rfl rfl rfl (Nat.le_of_ble_eq_true rfl) (Nat.le_of_ble_eq_true rfl) (Or.inl rfl) (ok_rnk (sy_49_57 (m := m)) hfx) (Nat.le_of_ble_eq_true rfl) ?_
    show rn fx 2 (0, 0) 24 6 [some (.inr (.inr (some 3011))), some (.inl 49)] [] (st0 m) o
    refine r_ld (pc' := 7) hM_24 d_24_6 rfl rfl ?_
    refine r_ld (pc' := 8) hM_24 d_24_7 rfl rfl ?_
    refine r_baFk (pc' := 9) (n := 57) (z := 102) hM_24 d_24_8 rfl (by decide) (hfx.2.2 11 (by decide)) (by decide) (by decide +kernel) ?_
    refine r_k (pc' := 12) (v := .inl 255) hM_24 d_24_9 rfl rfl ?_
    refine r_b (pc' := 13) (z := 102) hM_24 d_24_12 rfl (by decide +kernel) ?_
    refine r_stk (pc' := 14) (st' := [.inl 102]) hM_24 d_24_13 rfl (by decide +kernel) ?_
    exact hk
  exact ok_rt (fun fx _ => rt_n hM_24 d_24_14 rfl (by decide) (by decide +kernel)) H
theorem sb_11_49 {m : am_M} : ok 2 24 0 (am_ent 2 [.inr (.inr (some 3011)), .inl 49]) [] m (fun rr m' => rr = [.inl 102] ∧ m' = m) := usb_11_49 ⟨rfl, rfl⟩
theorem usb_11_50 {Q : List am_V → am_M → Prop} {m : am_M}   (H : Q [.inl 116] m) : ok 2 24 0 [some (.inr (.inr (some 3011))), some (.inl 50)] [] m Q := by
  refine ok_sg (pc' := 14) (ls' := [some (.inr (.inr (some 3011))), some (.inl 50)]) (st' := [.inl 116]) (m' := m) (fun fx hfx o hk => ?_) ?_
  · refine r_ld (pc' := 1) hM_24 d_24_0 rfl rfl ?_
    refine r_ld (pc' := 2) hM_24 d_24_1 rfl rfl ?_
    refine r_alF (pc' := 3) (n := 57) hM_24 d_24_2 rfl (by decide) (hfx.2.2 11 (by decide)) (by decide) ?_
    refine r_cl (pc' := 6) (c := (25, 2)) (a := [.inl 50, .inl 57]) (q := []) hM_24 d_24_3 rfl (by decide +kernel) hM_25 rfl rfl rfl (Nat.le_of_ble_eq_true rfl) (Nat.le_of_ble_eq_true rfl) (Or.inl rfl) (ok_rnk (sy_50_57 (m := m)) hfx) (Nat.le_of_ble_eq_true rfl) ?_
    show rn fx 2 (0, 0) 24 6 [some (.inr (.inr (some 3011))), some (.inl 50)] [] (st0 m) o
    refine r_ld (pc' := 7) hM_24 d_24_6 rfl rfl ?_
    refine r_ld (pc' := 8) hM_24 d_24_7 rfl rfl ?_
    refine r_baFk (pc' := 9) (n := 57) (z := 116) hM_24 d_24_8 rfl (by decide) (hfx.2.2 11 (by decide)) (by decide) (by decide +kernel) ?_
    refine r_k (pc' := 12) (v := .inl 255) hM_24 d_24_9 rfl rfl ?_
    refine r_b (pc' := 13) (z := 116) hM_24 d_24_12 rfl (by decide +kernel) ?_
    refine r_stk (pc' := 14) (st' := [.inl 116]) hM_24 d_24_13 rfl (by decide +kernel) ?_
    exact hk
  exact ok_rt (fun fx _ => rt_n hM_24 d_24_14 rfl (by decide) (by decide +kernel)) H
theorem sb_11_50 {m : am_M} : ok 2 24 0 (am_ent 2 [.inr (.inr (some 3011)), .inl 50]) [] m (fun rr m' => rr = [.inl 116] ∧ m' = m) := usb_11_50 ⟨rfl, rfl⟩
theorem usb_11_51 {Q : List am_V → am_M → Prop} {m : am_M}   (H : Q [.inl 32] m) : ok 2 24 0 [some (.inr (.inr (some 3011))), some (.inl 51)] [] m Q := by
  refine ok_sg (pc' := 14) (ls' := [some (.inr (.inr (some 3011))), some (.inl 51)]) (st' := [.inl 32]) (m' := m) (fun fx hfx o hk => ?_) ?_
  · refine r_ld (pc' := 1) hM_24 d_24_0 rfl rfl ?_
    refine r_ld (pc' := 2) hM_24 d_24_1 rfl rfl ?_
    refine r_alF (pc' := 3) (n := 57) hM_24 d_24_2 rfl (by decide) (hfx.2.2 11 (by decide)) (by decide) ?_
    refine r_cl (pc' := 6) (c := (25, 2)) (a := [.inl 51, .inl 57]) (q := []) hM_24 d_24_3 rfl (by decide +kernel) hM_25 rfl rfl rfl (Nat.le_of_ble_eq_true rfl) (Nat.le_of_ble_eq_true rfl) (Or.inl rfl) (ok_rnk (sy_51_57 (m := m)) hfx) (Nat.le_of_ble_eq_true rfl) ?_
    show rn fx 2 (0, 0) 24 6 [some (.inr (.inr (some 3011))), some (.inl 51)] [] (st0 m) o
    refine r_ld (pc' := 7) hM_24 d_24_6 rfl rfl ?_
    refine r_ld (pc' := 8) hM_24 d_24_7 rfl rfl ?_
    refine r_baFk (pc' := 9) (n := 57) (z := 32) hM_24 d_24_8 rfl (by decide) (hfx.2.2 11 (by decide)) (by decide) (by decide +kernel) ?_
    refine r_k (pc' := 12) (v := .inl 255) hM_24 d_24_9 rfl rfl ?_
    refine r_b (pc' := 13) (z := 32) hM_24 d_24_12 rfl (by decide +kernel) ?_
    refine r_stk (pc' := 14) (st' := [.inl 32]) hM_24 d_24_13 rfl (by decide +kernel) ?_
    exact hk
  exact ok_rt (fun fx _ => rt_n hM_24 d_24_14 rfl (by decide) (by decide +kernel)) H
theorem sb_11_51 {m : am_M} : ok 2 24 0 (am_ent 2 [.inr (.inr (some 3011)), .inl 51]) [] m (fun rr m' => rr = [.inl 32] ∧ m' = m) := usb_11_51 ⟨rfl, rfl⟩
theorem usb_11_52 {Q : List am_V → am_M → Prop} {m : am_M}   (H : Q [.inl 99] m) : ok 2 24 0 [some (.inr (.inr (some 3011))), some (.inl 52)] [] m Q := by
  refine ok_sg (pc' := 14) (ls' := [some (.inr (.inr (some 3011))), some (.inl 52)]) (st' := [.inl 99]) (m' := m) (fun fx hfx o hk => ?_) ?_
  · refine r_ld (pc' := 1) hM_24 d_24_0 rfl rfl ?_
    refine r_ld (pc' := 2) hM_24 d_24_1 rfl rfl ?_
    refine r_alF (pc' := 3) (n := 57) hM_24 d_24_2 rfl (by decide) (hfx.2.2 11 (by decide)) (by decide) ?_
    refine r_cl (pc' := 6) (c := (25, 2)) (a := [.inl 52, .inl 57]) (q := []) hM_24 d_24_3 rfl (by decide +kernel) hM_25 rfl rfl rfl (Nat.le_of_ble_eq_true rfl) (Nat.le_of_ble_eq_true rfl) (Or.inl rfl) (ok_rnk (sy_52_57 (m := m)) hfx) (Nat.le_of_ble_eq_true rfl) ?_
    show rn fx 2 (0, 0) 24 6 [some (.inr (.inr (some 3011))), some (.inl 52)] [] (st0 m) o
    refine r_ld (pc' := 7) hM_24 d_24_6 rfl rfl ?_
    refine r_ld (pc' := 8) hM_24 d_24_7 rfl rfl ?_
    refine r_baFk (pc' := 9) (n := 57) (z := 99) hM_24 d_24_8 rfl (by decide) (hfx.2.2 11 (by decide)) (by decide) (by decide +kernel) ?_
    refine r_k (pc' := 12) (v := .inl 255) hM_24 d_24_9 rfl rfl ?_
    refine r_b (pc' := 13) (z := 99) hM_24 d_24_12 rfl (by decide +kernel) ?_
    refine r_stk (pc' := 14) (st' := [.inl 99]) hM_24 d_24_13 rfl (by decide +kernel) ?_
    exact hk
  exact ok_rt (fun fx _ => rt_n hM_24 d_24_14 rfl (by decide) (by decide +kernel)) H
theorem sb_11_52 {m : am_M} : ok 2 24 0 (am_ent 2 [.inr (.inr (some 3011)), .inl 52]) [] m (fun rr m' => rr = [.inl 99] ∧ m' = m) := usb_11_52 ⟨rfl, rfl⟩
theorem usb_11_53 {Q : List am_V → am_M → Prop} {m : am_M}   (H : Q [.inl 111] m) : ok 2 24 0 [some (.inr (.inr (some 3011))), some (.inl 53)] [] m Q := by
  refine ok_sg (pc' := 14) (ls' := [some (.inr (.inr (some 3011))), some (.inl 53)]) (st' := [.inl 111]) (m' := m) (fun fx hfx o hk => ?_) ?_
  · refine r_ld (pc' := 1) hM_24 d_24_0 rfl rfl ?_
    refine r_ld (pc' := 2) hM_24 d_24_1 rfl rfl ?_
    refine r_alF (pc' := 3) (n := 57) hM_24 d_24_2 rfl (by decide) (hfx.2.2 11 (by decide)) (by decide) ?_
    refine r_cl (pc' := 6) (c := (25, 2)) (a := [.inl 53, .inl 57]) (q := []) hM_24 d_24_3 rfl (by decide +kernel) hM_25 rfl rfl rfl (Nat.le_of_ble_eq_true rfl) (Nat.le_of_ble_eq_true rfl) (Or.inl rfl) (ok_rnk (sy_53_57 (m := m)) hfx) (Nat.le_of_ble_eq_true rfl) ?_
    show rn fx 2 (0, 0) 24 6 [some (.inr (.inr (some 3011))), some (.inl 53)] [] (st0 m) o
    refine r_ld (pc' := 7) hM_24 d_24_6 rfl rfl ?_
    refine r_ld (pc' := 8) hM_24 d_24_7 rfl rfl ?_
    refine r_baFk (pc' := 9) (n := 57) (z := 111) hM_24 d_24_8 rfl (by decide) (hfx.2.2 11 (by decide)) (by decide) (by decide +kernel) ?_
    refine r_k (pc' := 12) (v := .inl 255) hM_24 d_24_9 rfl rfl ?_
    refine r_b (pc' := 13) (z := 111) hM_24 d_24_12 rfl (by decide +kernel) ?_
    refine r_stk (pc' := 14) (st' := [.inl 111]) hM_24 d_24_13 rfl (by decide +kernel) ?_
    exact hk
  exact ok_rt (fun fx _ => rt_n hM_24 d_24_14 rfl (by decide) (by decide +kernel)) H
theorem sb_11_53 {m : am_M} : ok 2 24 0 (am_ent 2 [.inr (.inr (some 3011)), .inl 53]) [] m (fun rr m' => rr = [.inl 111] ∧ m' = m) := usb_11_53 ⟨rfl, rfl⟩
theorem usb_11_54 {Q : List am_V → am_M → Prop} {m : am_M}   (H : Q [.inl 108] m) : ok 2 24 0 [some (.inr (.inr (some 3011))), some (.inl 54)] [] m Q := by
  refine ok_sg (pc' := 14) (ls' := [some (.inr (.inr (some 3011))), some (.inl 54)]) (st' := [.inl 108]) (m' := m) (fun fx hfx o hk => ?_) ?_
  · refine r_ld (pc' := 1) hM_24 d_24_0 rfl rfl ?_
    refine r_ld (pc' := 2) hM_24 d_24_1 rfl rfl ?_
    refine r_alF (pc' := 3) (n := 57) hM_24 d_24_2 rfl (by decide) (hfx.2.2 11 (by decide)) (by decide) ?_
    refine r_cl (pc' := 6) (c := (25, 2)) (a := [.inl 54, .inl 57]) (q := []) hM_24 d_24_3 rfl (by decide +kernel) hM_25 rfl rfl rfl (Nat.le_of_ble_eq_true rfl) (Nat.le_of_ble_eq_true rfl) (Or.inl rfl) (ok_rnk (sy_54_57 (m := m)) hfx) (Nat.le_of_ble_eq_true rfl) ?_
    show rn fx 2 (0, 0) 24 6 [some (.inr (.inr (some 3011))), some (.inl 54)] [] (st0 m) o
    refine r_ld (pc' := 7) hM_24 d_24_6 rfl rfl ?_
    refine r_ld (pc' := 8) hM_24 d_24_7 rfl rfl ?_
    refine r_baFk (pc' := 9) (n := 57) (z := 108) hM_24 d_24_8 rfl (by decide) (hfx.2.2 11 (by decide)) (by decide) (by decide +kernel) ?_
    refine r_k (pc' := 12) (v := .inl 255) hM_24 d_24_9 rfl rfl ?_
    refine r_b (pc' := 13) (z := 108) hM_24 d_24_12 rfl (by decide +kernel) ?_
    refine r_stk (pc' := 14) (st' := [.inl 108]) hM_24 d_24_13 rfl (by decide +kernel) ?_
    exact hk
  exact ok_rt (fun fx _ => rt_n hM_24 d_24_14 rfl (by decide) (by decide +kernel)) H
theorem sb_11_54 {m : am_M} : ok 2 24 0 (am_ent 2 [.inr (.inr (some 3011)), .inl 54]) [] m (fun rr m' => rr = [.inl 108] ∧ m' = m) := usb_11_54 ⟨rfl, rfl⟩
theorem usb_11_55 {Q : List am_V → am_M → Prop} {m : am_M}   (H : Q [.inl 100] m) : ok 2 24 0 [some (.inr (.inr (some 3011))), some (.inl 55)] [] m Q := by
  refine ok_sg (pc' := 14) (ls' := [some (.inr (.inr (some 3011))), some (.inl 55)]) (st' := [.inl 100]) (m' := m) (fun fx hfx o hk => ?_) ?_
  · refine r_ld (pc' := 1) hM_24 d_24_0 rfl rfl ?_
    refine r_ld (pc' := 2) hM_24 d_24_1 rfl rfl ?_
    refine r_alF (pc' := 3) (n := 57) hM_24 d_24_2 rfl (by decide) (hfx.2.2 11 (by decide)) (by decide) ?_
    refine r_cl (pc' := 6) (c := (25, 2)) (a := [.inl 55, .inl 57]) (q := []) hM_24 d_24_3 rfl (by decide +kernel) hM_25 rfl rfl rfl (Nat.le_of_ble_eq_true rfl) (Nat.le_of_ble_eq_true rfl) (Or.inl rfl) (ok_rnk (sy_55_57 (m := m)) hfx) (Nat.le_of_ble_eq_true rfl) ?_
    show rn fx 2 (0, 0) 24 6 [some (.inr (.inr (some 3011))), some (.inl 55)] [] (st0 m) o
    refine r_ld (pc' := 7) hM_24 d_24_6 rfl rfl ?_
    refine r_ld (pc' := 8) hM_24 d_24_7 rfl rfl ?_
    refine r_baFk (pc' := 9) (n := 57) (z := 100) hM_24 d_24_8 rfl (by decide) (hfx.2.2 11 (by decide)) (by decide) (by decide +kernel) ?_
    refine r_k (pc' := 12) (v := .inl 255) hM_24 d_24_9 rfl rfl ?_
    refine r_b (pc' := 13) (z := 100) hM_24 d_24_12 rfl (by decide +kernel) ?_
    refine r_stk (pc' := 14) (st' := [.inl 100]) hM_24 d_24_13 rfl (by decide +kernel) ?_
    exact hk
  exact ok_rt (fun fx _ => rt_n hM_24 d_24_14 rfl (by decide) (by decide +kernel)) H
theorem sb_11_55 {m : am_M} : ok 2 24 0 (am_ent 2 [.inr (.inr (some 3011)), .inl 55]) [] m (fun rr m' => rr = [.inl 100] ∧ m' = m) := usb_11_55 ⟨rfl, rfl⟩
theorem usb_11_56 {Q : List am_V → am_M → Prop} {m : am_M}   (H : Q [.inl 32] m) : ok 2 24 0 [some (.inr (.inr (some 3011))), some (.inl 56)] [] m Q := by
  refine ok_sg (pc' := 14) (ls' := [some (.inr (.inr (some 3011))), some (.inl 56)]) (st' := [.inl 32]) (m' := m) (fun fx hfx o hk => ?_) ?_
  · refine r_ld (pc' := 1) hM_24 d_24_0 rfl rfl ?_
    refine r_ld (pc' := 2) hM_24 d_24_1 rfl rfl ?_
    refine r_alF (pc' := 3) (n := 57) hM_24 d_24_2 rfl (by decide) (hfx.2.2 11 (by decide)) (by decide) ?_
    refine r_cl (pc' := 6) (c := (25, 2)) (a := [.inl 56, .inl 57]) (q := []) hM_24 d_24_3 rfl (by decide +kernel) hM_25 rfl rfl rfl (Nat.le_of_ble_eq_true rfl) (Nat.le_of_ble_eq_true rfl) (Or.inl rfl) (ok_rnk (sy_56_57 (m := m)) hfx) (Nat.le_of_ble_eq_true rfl) ?_
    show rn fx 2 (0, 0) 24 6 [some (.inr (.inr (some 3011))), some (.inl 56)] [] (st0 m) o
    refine r_ld (pc' := 7) hM_24 d_24_6 rfl rfl ?_
    refine r_ld (pc' := 8) hM_24 d_24_7 rfl rfl ?_
    refine r_baFk (pc' := 9) (n := 57) (z := 32) hM_24 d_24_8 rfl (by decide) (hfx.2.2 11 (by decide)) (by decide) (by decide +kernel) ?_
    refine r_k (pc' := 12) (v := .inl 255) hM_24 d_24_9 rfl rfl ?_
    refine r_b (pc' := 13) (z := 32) hM_24 d_24_12 rfl (by decide +kernel) ?_
    refine r_stk (pc' := 14) (st' := [.inl 32]) hM_24 d_24_13 rfl (by decide +kernel) ?_
    exact hk
  exact ok_rt (fun fx _ => rt_n hM_24 d_24_14 rfl (by decide) (by decide +kernel)) H
theorem sb_11_56 {m : am_M} : ok 2 24 0 (am_ent 2 [.inr (.inr (some 3011)), .inl 56]) [] m (fun rr m' => rr = [.inl 32] ∧ m' = m) := usb_11_56 ⟨rfl, rfl⟩
theorem usa_0_0 {Q : List am_V → am_M → Prop} {m : am_M}   (H : Q [.inl 108] m) : ok 3 22 0 [some (.inr (.inr (some 2000))), some (.inl 0)] [] m Q := by
  refine ok_sg (pc' := 15) (ls' := [some (.inr (.inr (some 2000))), some (.inl 0)]) (st' := [.inl 108]) (m' := m) (fun fx hfx o hk => ?_) ?_
  · refine r_ld (pc' := 1) hM_22 d_22_0 rfl rfl ?_
    refine r_cl (pc' := 4) (c := (23, 0)) (a := [.inr (.inr (some 2000))]) (q := []) hM_22 d_22_1 rfl (by decide +kernel) hM_23 rfl rfl rfl (Nat.le_of_ble_eq_true rfl) (Nat.le_of_ble_eq_true rfl) (Or.inr rfl) (ok_rnk (sl_0 (m := m)) hfx) (Nat.le_of_ble_eq_true rfl) ?_
    show rn fx 3 (0, 0) 22 4 [some (.inr (.inr (some 2000))), some (.inl 0)] [.inl 1] (st0 m) o
    refine r_if (pc' := 16) (pc2 := 7) hM_22 d_22_4 (by decide) rfl (fun hc => absurd hc (show ¬ (am_s 1 = 0) by decide)) (fun _ => ?_)
    refine r_ld (pc' := 8) hM_22 d_22_7 rfl rfl ?_
    refine r_gF (pc' := 11) (v := .inr (.inr (some 3000))) hM_22 d_22_8 rfl (by decide) (by decide +kernel) ?_
    refine r_ld (pc' := 12) hM_22 d_22_11 rfl rfl ?_
    refine r_cl (pc' := 15) (c := (24, 2)) (a := [.inr (.inr (some 3000)), .inl 0]) (q := []) hM_22 d_22_12 rfl (by decide +kernel) hM_24 rfl rfl rfl (Nat.le_of_ble_eq_true rfl) (Nat.le_of_ble_eq_true rfl) (Or.inl rfl) (ok_rnk (sb_0_0 (m := m)) hfx) (Nat.le_of_ble_eq_true rfl) ?_
    show rn fx 3 (0, 0) 22 15 [some (.inr (.inr (some 2000))), some (.inl 0)] [.inl 108] (st0 m) o
    exact hk
  exact ok_rt (fun fx _ => rt_n hM_22 d_22_15 rfl (by decide) (by decide +kernel)) H
theorem sa_0_0 {m : am_M} : ok 3 22 0 (am_ent 2 [.inr (.inr (some 2000)), .inl 0]) [] m (fun rr m' => rr = [.inl 108] ∧ m' = m) := usa_0_0 ⟨rfl, rfl⟩
theorem usa_0_1 {Q : List am_V → am_M → Prop} {m : am_M}   (H : Q [.inl 111] m) : ok 3 22 0 [some (.inr (.inr (some 2000))), some (.inl 1)] [] m Q := by
  refine ok_sg (pc' := 15) (ls' := [some (.inr (.inr (some 2000))), some (.inl 1)]) (st' := [.inl 111]) (m' := m) (fun fx hfx o hk => ?_) ?_
  · refine r_ld (pc' := 1) hM_22 d_22_0 rfl rfl ?_
    refine r_cl (pc' := 4) (c := (23, 0)) (a := [.inr (.inr (some 2000))]) (q := []) hM_22 d_22_1 rfl (by decide +kernel) hM_23 rfl rfl rfl (Nat.le_of_ble_eq_true rfl) (Nat.le_of_ble_eq_true rfl) (Or.inr rfl) (ok_rnk (sl_0 (m := m)) hfx) (Nat.le_of_ble_eq_true rfl) ?_
    show rn fx 3 (0, 0) 22 4 [some (.inr (.inr (some 2000))), some (.inl 1)] [.inl 1] (st0 m) o
    refine r_if (pc' := 16) (pc2 := 7) hM_22 d_22_4 (by decide) rfl (fun hc => absurd hc (show ¬ (am_s 1 = 0) by decide)) (fun _ => ?_)
    refine r_ld (pc' := 8) hM_22 d_22_7 rfl rfl ?_
    refine r_gF (pc' := 11) (v := .inr (.inr (some 3000))) hM_22 d_22_8 rfl (by decide) (by decide +kernel) ?_
    refine r_ld (pc' := 12) hM_22 d_22_11 rfl rfl ?_
    refine r_cl (pc' := 15) (c := (24, 2)) (a := [.inr (.inr (some 3000)), .inl 1]) (q := []) hM_22 d_22_12 rfl (by decide +kernel) hM_24 rfl rfl rfl (Nat.le_of_ble_eq_true rfl) (Nat.le_of_ble_eq_true rfl) (Or.inl rfl) (ok_rnk (sb_0_1 (m := m)) hfx) (Nat.le_of_ble_eq_true rfl) ?_
    show rn fx 3 (0, 0) 22 15 [some (.inr (.inr (some 2000))), some (.inl 1)] [.inl 111] (st0 m) o
    exact hk
  exact ok_rt (fun fx _ => rt_n hM_22 d_22_15 rfl (by decide) (by decide +kernel)) H
theorem sa_0_1 {m : am_M} : ok 3 22 0 (am_ent 2 [.inr (.inr (some 2000)), .inl 1]) [] m (fun rr m' => rr = [.inl 111] ∧ m' = m) := usa_0_1 ⟨rfl, rfl⟩
theorem usa_0_2 {Q : List am_V → am_M → Prop} {m : am_M}   (H : Q [.inl 119] m) : ok 3 22 0 [some (.inr (.inr (some 2000))), some (.inl 2)] [] m Q := by
  refine ok_sg (pc' := 15) (ls' := [some (.inr (.inr (some 2000))), some (.inl 2)]) (st' := [.inl 119]) (m' := m) (fun fx hfx o hk => ?_) ?_
  · refine r_ld (pc' := 1) hM_22 d_22_0 rfl rfl ?_
    refine r_cl (pc' := 4) (c := (23, 0)) (a := [.inr (.inr (some 2000))]) (q := []) hM_22 d_22_1 rfl (by decide +kernel) hM_23 rfl rfl rfl (Nat.le_of_ble_eq_true rfl) (Nat.le_of_ble_eq_true rfl) (Or.inr rfl) (ok_rnk (sl_0 (m := m)) hfx) (Nat.le_of_ble_eq_true rfl) ?_
    show rn fx 3 (0, 0) 22 4 [some (.inr (.inr (some 2000))), some (.inl 2)] [.inl 1] (st0 m) o
    refine r_if (pc' := 16) (pc2 := 7) hM_22 d_22_4 (by decide) rfl (fun hc => absurd hc (show ¬ (am_s 1 = 0) by decide)) (fun _ => ?_)
    refine r_ld (pc' := 8) hM_22 d_22_7 rfl rfl ?_
    refine r_gF (pc' := 11) (v := .inr (.inr (some 3000))) hM_22 d_22_8 rfl (by decide) (by decide +kernel) ?_
    refine r_ld (pc' := 12) hM_22 d_22_11 rfl rfl ?_
    refine r_cl (pc' := 15) (c := (24, 2)) (a := [.inr (.inr (some 3000)), .inl 2]) (q := []) hM_22 d_22_12 rfl (by decide +kernel) hM_24 rfl rfl rfl (Nat.le_of_ble_eq_true rfl) (Nat.le_of_ble_eq_true rfl) (Or.inl rfl) (ok_rnk (sb_0_2 (m := m)) hfx) (Nat.le_of_ble_eq_true rfl) ?_
    show rn fx 3 (0, 0) 22 15 [some (.inr (.inr (some 2000))), some (.inl 2)] [.inl 119] (st0 m) o
    exact hk
  exact ok_rt (fun fx _ => rt_n hM_22 d_22_15 rfl (by decide) (by decide +kernel)) H
theorem sa_0_2 {m : am_M} : ok 3 22 0 (am_ent 2 [.inr (.inr (some 2000)), .inl 2]) [] m (fun rr m' => rr = [.inl 119] ∧ m' = m) := usa_0_2 ⟨rfl, rfl⟩
theorem usa_1_0 {Q : List am_V → am_M → Prop} {m : am_M}   (H : Q [.inl 108] m) : ok 3 22 0 [some (.inr (.inr (some 2001))), some (.inl 0)] [] m Q := by
  refine ok_sg (pc' := 15) (ls' := [some (.inr (.inr (some 2001))), some (.inl 0)]) (st' := [.inl 108]) (m' := m) (fun fx hfx o hk => ?_) ?_
  · refine r_ld (pc' := 1) hM_22 d_22_0 rfl rfl ?_
    refine r_cl (pc' := 4) (c := (23, 0)) (a := [.inr (.inr (some 2001))]) (q := []) hM_22 d_22_1 rfl (by decide +kernel) hM_23 rfl rfl rfl (Nat.le_of_ble_eq_true rfl) (Nat.le_of_ble_eq_true rfl) (Or.inr rfl) (ok_rnk (sl_1 (m := m)) hfx) (Nat.le_of_ble_eq_true rfl) ?_
    show rn fx 3 (0, 0) 22 4 [some (.inr (.inr (some 2001))), some (.inl 0)] [.inl 1] (st0 m) o
    refine r_if (pc' := 16) (pc2 := 7) hM_22 d_22_4 (by decide) rfl (fun hc => absurd hc (show ¬ (am_s 1 = 0) by decide)) (fun _ => ?_)
    refine r_ld (pc' := 8) hM_22 d_22_7 rfl rfl ?_
    refine r_gF (pc' := 11) (v := .inr (.inr (some 3001))) hM_22 d_22_8 rfl (by decide) (by decide +kernel) ?_
    refine r_ld (pc' := 12) hM_22 d_22_11 rfl rfl ?_
    refine r_cl (pc' := 15) (c := (24, 2)) (a := [.inr (.inr (some 3001)), .inl 0]) (q := []) hM_22 d_22_12 rfl (by decide +kernel) hM_24 rfl rfl rfl (Nat.le_of_ble_eq_true rfl) (Nat.le_of_ble_eq_true rfl) (Or.inl rfl) (ok_rnk (sb_1_0 (m := m)) hfx) (Nat.le_of_ble_eq_true rfl) ?_
    show rn fx 3 (0, 0) 22 15 [some (.inr (.inr (some 2001))), some (.inl 0)] [.inl 108] (st0 m) o
    exact hk
  exact ok_rt (fun fx _ => rt_n hM_22 d_22_15 rfl (by decide) (by decide +kernel)) H
theorem sa_1_0 {m : am_M} : ok 3 22 0 (am_ent 2 [.inr (.inr (some 2001)), .inl 0]) [] m (fun rr m' => rr = [.inl 108] ∧ m' = m) := usa_1_0 ⟨rfl, rfl⟩
theorem usa_1_1 {Q : List am_V → am_M → Prop} {m : am_M}   (H : Q [.inl 105] m) : ok 3 22 0 [some (.inr (.inr (some 2001))), some (.inl 1)] [] m Q := by
  refine ok_sg (pc' := 15) (ls' := [some (.inr (.inr (some 2001))), some (.inl 1)]) (st' := [.inl 105]) (m' := m) (fun fx hfx o hk => ?_) ?_
  · refine r_ld (pc' := 1) hM_22 d_22_0 rfl rfl ?_
    refine r_cl (pc' := 4) (c := (23, 0)) (a := [.inr (.inr (some 2001))]) (q := []) hM_22 d_22_1 rfl (by decide +kernel) hM_23 rfl rfl rfl (Nat.le_of_ble_eq_true rfl) (Nat.le_of_ble_eq_true rfl) (Or.inr rfl) (ok_rnk (sl_1 (m := m)) hfx) (Nat.le_of_ble_eq_true rfl) ?_
    show rn fx 3 (0, 0) 22 4 [some (.inr (.inr (some 2001))), some (.inl 1)] [.inl 1] (st0 m) o
    refine r_if (pc' := 16) (pc2 := 7) hM_22 d_22_4 (by decide) rfl (fun hc => absurd hc (show ¬ (am_s 1 = 0) by decide)) (fun _ => ?_)
    refine r_ld (pc' := 8) hM_22 d_22_7 rfl rfl ?_
    refine r_gF (pc' := 11) (v := .inr (.inr (some 3001))) hM_22 d_22_8 rfl (by decide) (by decide +kernel) ?_
    refine r_ld (pc' := 12) hM_22 d_22_11 rfl rfl ?_
    refine r_cl (pc' := 15) (c := (24, 2)) (a := [.inr (.inr (some 3001)), .inl 1]) (q := []) hM_22 d_22_12 rfl (by decide +kernel) hM_24 rfl rfl rfl (Nat.le_of_ble_eq_true rfl) (Nat.le_of_ble_eq_true rfl) (Or.inl rfl) (ok_rnk (sb_1_1 (m := m)) hfx) (Nat.le_of_ble_eq_true rfl) ?_
    show rn fx 3 (0, 0) 22 15 [some (.inr (.inr (some 2001))), some (.inl 1)] [.inl 105] (st0 m) o
    exact hk
  exact ok_rt (fun fx _ => rt_n hM_22 d_22_15 rfl (by decide) (by decide +kernel)) H
theorem sa_1_1 {m : am_M} : ok 3 22 0 (am_ent 2 [.inr (.inr (some 2001)), .inl 1]) [] m (fun rr m' => rr = [.inl 105] ∧ m' = m) := usa_1_1 ⟨rfl, rfl⟩
theorem usa_1_2 {Q : List am_V → am_M → Prop} {m : am_M}   (H : Q [.inl 101] m) : ok 3 22 0 [some (.inr (.inr (some 2001))), some (.inl 2)] [] m Q := by
  refine ok_sg (pc' := 15) (ls' := [some (.inr (.inr (some 2001))), some (.inl 2)]) (st' := [.inl 101]) (m' := m) (fun fx hfx o hk => ?_) ?_
  · refine r_ld (pc' := 1) hM_22 d_22_0 rfl rfl ?_
    refine r_cl (pc' := 4) (c := (23, 0)) (a := [.inr (.inr (some 2001))]) (q := []) hM_22 d_22_1 rfl (by decide +kernel) hM_23 rfl rfl rfl (Nat.le_of_ble_eq_true rfl) (Nat.le_of_ble_eq_true rfl) (Or.inr rfl) (ok_rnk (sl_1 (m := m)) hfx) (Nat.le_of_ble_eq_true rfl) ?_
    show rn fx 3 (0, 0) 22 4 [some (.inr (.inr (some 2001))), some (.inl 2)] [.inl 1] (st0 m) o
    refine r_if (pc' := 16) (pc2 := 7) hM_22 d_22_4 (by decide) rfl (fun hc => absurd hc (show ¬ (am_s 1 = 0) by decide)) (fun _ => ?_)
    refine r_ld (pc' := 8) hM_22 d_22_7 rfl rfl ?_
    refine r_gF (pc' := 11) (v := .inr (.inr (some 3001))) hM_22 d_22_8 rfl (by decide) (by decide +kernel) ?_
    refine r_ld (pc' := 12) hM_22 d_22_11 rfl rfl ?_
    refine r_cl (pc' := 15) (c := (24, 2)) (a := [.inr (.inr (some 3001)), .inl 2]) (q := []) hM_22 d_22_12 rfl (by decide +kernel) hM_24 rfl rfl rfl (Nat.le_of_ble_eq_true rfl) (Nat.le_of_ble_eq_true rfl) (Or.inl rfl) (ok_rnk (sb_1_2 (m := m)) hfx) (Nat.le_of_ble_eq_true rfl) ?_
    show rn fx 3 (0, 0) 22 15 [some (.inr (.inr (some 2001))), some (.inl 2)] [.inl 101] (st0 m) o
    exact hk
  exact ok_rt (fun fx _ => rt_n hM_22 d_22_15 rfl (by decide) (by decide +kernel)) H
theorem sa_1_2 {m : am_M} : ok 3 22 0 (am_ent 2 [.inr (.inr (some 2001)), .inl 2]) [] m (fun rr m' => rr = [.inl 101] ∧ m' = m) := usa_1_2 ⟨rfl, rfl⟩
theorem usa_2_0 {Q : List am_V → am_M → Prop} {m : am_M}   (H : Q [.inl 104] m) : ok 3 22 0 [some (.inr (.inr (some 2002))), some (.inl 0)] [] m Q := by
  refine ok_sg (pc' := 15) (ls' := [some (.inr (.inr (some 2002))), some (.inl 0)]) (st' := [.inl 104]) (m' := m) (fun fx hfx o hk => ?_) ?_
  · refine r_ld (pc' := 1) hM_22 d_22_0 rfl rfl ?_
    refine r_cl (pc' := 4) (c := (23, 0)) (a := [.inr (.inr (some 2002))]) (q := []) hM_22 d_22_1 rfl (by decide +kernel) hM_23 rfl rfl rfl (Nat.le_of_ble_eq_true rfl) (Nat.le_of_ble_eq_true rfl) (Or.inr rfl) (ok_rnk (sl_2 (m := m)) hfx) (Nat.le_of_ble_eq_true rfl) ?_
    show rn fx 3 (0, 0) 22 4 [some (.inr (.inr (some 2002))), some (.inl 0)] [.inl 1] (st0 m) o
    refine r_if (pc' := 16) (pc2 := 7) hM_22 d_22_4 (by decide) rfl (fun hc => absurd hc (show ¬ (am_s 1 = 0) by decide)) (fun _ => ?_)
    refine r_ld (pc' := 8) hM_22 d_22_7 rfl rfl ?_
    refine r_gF (pc' := 11) (v := .inr (.inr (some 3002))) hM_22 d_22_8 rfl (by decide) (by decide +kernel) ?_
    refine r_ld (pc' := 12) hM_22 d_22_11 rfl rfl ?_
    refine r_cl (pc' := 15) (c := (24, 2)) (a := [.inr (.inr (some 3002)), .inl 0]) (q := []) hM_22 d_22_12 rfl (by decide +kernel) hM_24 rfl rfl rfl (Nat.le_of_ble_eq_true rfl) (Nat.le_of_ble_eq_true rfl) (Or.inl rfl) (ok_rnk (sb_2_0 (m := m)) hfx) (Nat.le_of_ble_eq_true rfl) ?_
    show rn fx 3 (0, 0) 22 15 [some (.inr (.inr (some 2002))), some (.inl 0)] [.inl 104] (st0 m) o
    exact hk
  exact ok_rt (fun fx _ => rt_n hM_22 d_22_15 rfl (by decide) (by decide +kernel)) H
theorem sa_2_0 {m : am_M} : ok 3 22 0 (am_ent 2 [.inr (.inr (some 2002)), .inl 0]) [] m (fun rr m' => rr = [.inl 104] ∧ m' = m) := usa_2_0 ⟨rfl, rfl⟩
theorem usa_2_1 {Q : List am_V → am_M → Prop} {m : am_M}   (H : Q [.inl 97] m) : ok 3 22 0 [some (.inr (.inr (some 2002))), some (.inl 1)] [] m Q := by
  refine ok_sg (pc' := 15) (ls' := [some (.inr (.inr (some 2002))), some (.inl 1)]) (st' := [.inl 97]) (m' := m) (fun fx hfx o hk => ?_) ?_
  · refine r_ld (pc' := 1) hM_22 d_22_0 rfl rfl ?_
    refine r_cl (pc' := 4) (c := (23, 0)) (a := [.inr (.inr (some 2002))]) (q := []) hM_22 d_22_1 rfl (by decide +kernel) hM_23 rfl rfl rfl (Nat.le_of_ble_eq_true rfl) (Nat.le_of_ble_eq_true rfl) (Or.inr rfl) (ok_rnk (sl_2 (m := m)) hfx) (Nat.le_of_ble_eq_true rfl) ?_
    show rn fx 3 (0, 0) 22 4 [some (.inr (.inr (some 2002))), some (.inl 1)] [.inl 1] (st0 m) o
    refine r_if (pc' := 16) (pc2 := 7) hM_22 d_22_4 (by decide) rfl (fun hc => absurd hc (show ¬ (am_s 1 = 0) by decide)) (fun _ => ?_)
    refine r_ld (pc' := 8) hM_22 d_22_7 rfl rfl ?_
    refine r_gF (pc' := 11) (v := .inr (.inr (some 3002))) hM_22 d_22_8 rfl (by decide) (by decide +kernel) ?_
    refine r_ld (pc' := 12) hM_22 d_22_11 rfl rfl ?_
    refine r_cl (pc' := 15) (c := (24, 2)) (a := [.inr (.inr (some 3002)), .inl 1]) (q := []) hM_22 d_22_12 rfl (by decide +kernel) hM_24 rfl rfl rfl (Nat.le_of_ble_eq_true rfl) (Nat.le_of_ble_eq_true rfl) (Or.inl rfl) (ok_rnk (sb_2_1 (m := m)) hfx) (Nat.le_of_ble_eq_true rfl) ?_
    show rn fx 3 (0, 0) 22 15 [some (.inr (.inr (some 2002))), some (.inl 1)] [.inl 97] (st0 m) o
    exact hk
  exact ok_rt (fun fx _ => rt_n hM_22 d_22_15 rfl (by decide) (by decide +kernel)) H
theorem sa_2_1 {m : am_M} : ok 3 22 0 (am_ent 2 [.inr (.inr (some 2002)), .inl 1]) [] m (fun rr m' => rr = [.inl 97] ∧ m' = m) := usa_2_1 ⟨rfl, rfl⟩
theorem usa_2_2 {Q : List am_V → am_M → Prop} {m : am_M}   (H : Q [.inl 110] m) : ok 3 22 0 [some (.inr (.inr (some 2002))), some (.inl 2)] [] m Q := by
  refine ok_sg (pc' := 15) (ls' := [some (.inr (.inr (some 2002))), some (.inl 2)]) (st' := [.inl 110]) (m' := m) (fun fx hfx o hk => ?_) ?_
  · refine r_ld (pc' := 1) hM_22 d_22_0 rfl rfl ?_
    refine r_cl (pc' := 4) (c := (23, 0)) (a := [.inr (.inr (some 2002))]) (q := []) hM_22 d_22_1 rfl (by decide +kernel) hM_23 rfl rfl rfl (Nat.le_of_ble_eq_true rfl) (Nat.le_of_ble_eq_true rfl) (Or.inr rfl) (ok_rnk (sl_2 (m := m)) hfx) (Nat.le_of_ble_eq_true rfl) ?_
    show rn fx 3 (0, 0) 22 4 [some (.inr (.inr (some 2002))), some (.inl 2)] [.inl 1] (st0 m) o
    refine r_if (pc' := 16) (pc2 := 7) hM_22 d_22_4 (by decide) rfl (fun hc => absurd hc (show ¬ (am_s 1 = 0) by decide)) (fun _ => ?_)
    refine r_ld (pc' := 8) hM_22 d_22_7 rfl rfl ?_
    refine r_gF (pc' := 11) (v := .inr (.inr (some 3002))) hM_22 d_22_8 rfl (by decide) (by decide +kernel) ?_
    refine r_ld (pc' := 12) hM_22 d_22_11 rfl rfl ?_
    refine r_cl (pc' := 15) (c := (24, 2)) (a := [.inr (.inr (some 3002)), .inl 2]) (q := []) hM_22 d_22_12 rfl (by decide +kernel) hM_24 rfl rfl rfl (Nat.le_of_ble_eq_true rfl) (Nat.le_of_ble_eq_true rfl) (Or.inl rfl) (ok_rnk (sb_2_2 (m := m)) hfx) (Nat.le_of_ble_eq_true rfl) ?_
    show rn fx 3 (0, 0) 22 15 [some (.inr (.inr (some 2002))), some (.inl 2)] [.inl 110] (st0 m) o
    exact hk
  exact ok_rt (fun fx _ => rt_n hM_22 d_22_15 rfl (by decide) (by decide +kernel)) H
theorem sa_2_2 {m : am_M} : ok 3 22 0 (am_ent 2 [.inr (.inr (some 2002)), .inl 2]) [] m (fun rr m' => rr = [.inl 110] ∧ m' = m) := usa_2_2 ⟨rfl, rfl⟩
theorem usa_2_3 {Q : List am_V → am_M → Prop} {m : am_M}   (H : Q [.inl 100] m) : ok 3 22 0 [some (.inr (.inr (some 2002))), some (.inl 3)] [] m Q := by
  refine ok_sg (pc' := 15) (ls' := [some (.inr (.inr (some 2002))), some (.inl 3)]) (st' := [.inl 100]) (m' := m) (fun fx hfx o hk => ?_) ?_
  · refine r_ld (pc' := 1) hM_22 d_22_0 rfl rfl ?_
    refine r_cl (pc' := 4) (c := (23, 0)) (a := [.inr (.inr (some 2002))]) (q := []) hM_22 d_22_1 rfl (by decide +kernel) hM_23 rfl rfl rfl (Nat.le_of_ble_eq_true rfl) (Nat.le_of_ble_eq_true rfl) (Or.inr rfl) (ok_rnk (sl_2 (m := m)) hfx) (Nat.le_of_ble_eq_true rfl) ?_
    show rn fx 3 (0, 0) 22 4 [some (.inr (.inr (some 2002))), some (.inl 3)] [.inl 1] (st0 m) o
    refine r_if (pc' := 16) (pc2 := 7) hM_22 d_22_4 (by decide) rfl (fun hc => absurd hc (show ¬ (am_s 1 = 0) by decide)) (fun _ => ?_)
    refine r_ld (pc' := 8) hM_22 d_22_7 rfl rfl ?_
    refine r_gF (pc' := 11) (v := .inr (.inr (some 3002))) hM_22 d_22_8 rfl (by decide) (by decide +kernel) ?_
    refine r_ld (pc' := 12) hM_22 d_22_11 rfl rfl ?_
    refine r_cl (pc' := 15) (c := (24, 2)) (a := [.inr (.inr (some 3002)), .inl 3]) (q := []) hM_22 d_22_12 rfl (by decide +kernel) hM_24 rfl rfl rfl (Nat.le_of_ble_eq_true rfl) (Nat.le_of_ble_eq_true rfl) (Or.inl rfl) (ok_rnk (sb_2_3 (m := m)) hfx) (Nat.le_of_ble_eq_true rfl) ?_
    show rn fx 3 (0, 0) 22 15 [some (.inr (.inr (some 2002))), some (.inl 3)] [.inl 100] (st0 m) o
    exact hk
  exact ok_rt (fun fx _ => rt_n hM_22 d_22_15 rfl (by decide) (by decide +kernel)) H
theorem sa_2_3 {m : am_M} : ok 3 22 0 (am_ent 2 [.inr (.inr (some 2002)), .inl 3]) [] m (fun rr m' => rr = [.inl 100] ∧ m' = m) := usa_2_3 ⟨rfl, rfl⟩
theorem usa_2_4 {Q : List am_V → am_M → Prop} {m : am_M}   (H : Q [.inl 115] m) : ok 3 22 0 [some (.inr (.inr (some 2002))), some (.inl 4)] [] m Q := by
  refine ok_sg (pc' := 15) (ls' := [some (.inr (.inr (some 2002))), some (.inl 4)]) (st' := [.inl 115]) (m' := m) (fun fx hfx o hk => ?_) ?_
  · refine r_ld (pc' := 1) hM_22 d_22_0 rfl rfl ?_
    refine r_cl (pc' := 4) (c := (23, 0)) (a := [.inr (.inr (some 2002))]) (q := []) hM_22 d_22_1 rfl (by decide +kernel) hM_23 rfl rfl rfl (Nat.le_of_ble_eq_true rfl) (Nat.le_of_ble_eq_true rfl) (Or.inr rfl) (ok_rnk (sl_2 (m := m)) hfx) (Nat.le_of_ble_eq_true rfl) ?_
    show rn fx 3 (0, 0) 22 4 [some (.inr (.inr (some 2002))), some (.inl 4)] [.inl 1] (st0 m) o
    refine r_if (pc' := 16) (pc2 := 7) hM_22 d_22_4 (by decide) rfl (fun hc => absurd hc (show ¬ (am_s 1 = 0) by decide)) (fun _ => ?_)
    refine r_ld (pc' := 8) hM_22 d_22_7 rfl rfl ?_
    refine r_gF (pc' := 11) (v := .inr (.inr (some 3002))) hM_22 d_22_8 rfl (by decide) (by decide +kernel) ?_
    refine r_ld (pc' := 12) hM_22 d_22_11 rfl rfl ?_
    refine r_cl (pc' := 15) (c := (24, 2)) (a := [.inr (.inr (some 3002)), .inl 4]) (q := []) hM_22 d_22_12 rfl (by decide +kernel) hM_24 rfl rfl rfl (Nat.le_of_ble_eq_true rfl) (Nat.le_of_ble_eq_true rfl) (Or.inl rfl) (ok_rnk (sb_2_4 (m := m)) hfx) (Nat.le_of_ble_eq_true rfl) ?_
    show rn fx 3 (0, 0) 22 15 [some (.inr (.inr (some 2002))), some (.inl 4)] [.inl 115] (st0 m) o
    exact hk
  exact ok_rt (fun fx _ => rt_n hM_22 d_22_15 rfl (by decide) (by decide +kernel)) H
theorem sa_2_4 {m : am_M} : ok 3 22 0 (am_ent 2 [.inr (.inr (some 2002)), .inl 4]) [] m (fun rr m' => rr = [.inl 115] ∧ m' = m) := usa_2_4 ⟨rfl, rfl⟩
theorem usa_3_0 {Q : List am_V → am_M → Prop} {m : am_M}   (H : Q [.inl 108] m) : ok 3 22 0 [some (.inr (.inr (some 2003))), some (.inl 0)] [] m Q := by
  refine ok_sg (pc' := 15) (ls' := [some (.inr (.inr (some 2003))), some (.inl 0)]) (st' := [.inl 108]) (m' := m) (fun fx hfx o hk => ?_) ?_
  · refine r_ld (pc' := 1) hM_22 d_22_0 rfl rfl ?_
    refine r_cl (pc' := 4) (c := (23, 0)) (a := [.inr (.inr (some 2003))]) (q := []) hM_22 d_22_1 rfl (by decide +kernel) hM_23 rfl rfl rfl (Nat.le_of_ble_eq_true rfl) (Nat.le_of_ble_eq_true rfl) (Or.inr rfl) (ok_rnk (sl_3 (m := m)) hfx) (Nat.le_of_ble_eq_true rfl) ?_
    show rn fx 3 (0, 0) 22 4 [some (.inr (.inr (some 2003))), some (.inl 0)] [.inl 1] (st0 m) o
    refine r_if (pc' := 16) (pc2 := 7) hM_22 d_22_4 (by decide) rfl (fun hc => absurd hc (show ¬ (am_s 1 = 0) by decide)) (fun _ => ?_)
    refine r_ld (pc' := 8) hM_22 d_22_7 rfl rfl ?_
    refine r_gF (pc' := 11) (v := .inr (.inr (some 3003))) hM_22 d_22_8 rfl (by decide) (by decide +kernel) ?_
    refine r_ld (pc' := 12) hM_22 d_22_11 rfl rfl ?_
    refine r_cl (pc' := 15) (c := (24, 2)) (a := [.inr (.inr (some 3003)), .inl 0]) (q := []) hM_22 d_22_12 rfl (by decide +kernel) hM_24 rfl rfl rfl (Nat.le_of_ble_eq_true rfl) (Nat.le_of_ble_eq_true rfl) (Or.inl rfl) (ok_rnk (sb_3_0 (m := m)) hfx) (Nat.le_of_ble_eq_true rfl) ?_
    show rn fx 3 (0, 0) 22 15 [some (.inr (.inr (some 2003))), some (.inl 0)] [.inl 108] (st0 m) o
    exact hk
  exact ok_rt (fun fx _ => rt_n hM_22 d_22_15 rfl (by decide) (by decide +kernel)) H
theorem sa_3_0 {m : am_M} : ok 3 22 0 (am_ent 2 [.inr (.inr (some 2003)), .inl 0]) [] m (fun rr m' => rr = [.inl 108] ∧ m' = m) := usa_3_0 ⟨rfl, rfl⟩
theorem usa_3_1 {Q : List am_V → am_M → Prop} {m : am_M}   (H : Q [.inl 101] m) : ok 3 22 0 [some (.inr (.inr (some 2003))), some (.inl 1)] [] m Q := by
  refine ok_sg (pc' := 15) (ls' := [some (.inr (.inr (some 2003))), some (.inl 1)]) (st' := [.inl 101]) (m' := m) (fun fx hfx o hk => ?_) ?_
  · refine r_ld (pc' := 1) hM_22 d_22_0 rfl rfl ?_
    refine r_cl (pc' := 4) (c := (23, 0)) (a := [.inr (.inr (some 2003))]) (q := []) hM_22 d_22_1 rfl (by decide +kernel) hM_23 rfl rfl rfl (Nat.le_of_ble_eq_true rfl) (Nat.le_of_ble_eq_true rfl) (Or.inr rfl) (ok_rnk (sl_3 (m := m)) hfx) (Nat.le_of_ble_eq_true rfl) ?_
    show rn fx 3 (0, 0) 22 4 [some (.inr (.inr (some 2003))), some (.inl 1)] [.inl 1] (st0 m) o
    refine r_if (pc' := 16) (pc2 := 7) hM_22 d_22_4 (by decide) rfl (fun hc => absurd hc (show ¬ (am_s 1 = 0) by decide)) (fun _ => ?_)
    refine r_ld (pc' := 8) hM_22 d_22_7 rfl rfl ?_
    refine r_gF (pc' := 11) (v := .inr (.inr (some 3003))) hM_22 d_22_8 rfl (by decide) (by decide +kernel) ?_
    refine r_ld (pc' := 12) hM_22 d_22_11 rfl rfl ?_
    refine r_cl (pc' := 15) (c := (24, 2)) (a := [.inr (.inr (some 3003)), .inl 1]) (q := []) hM_22 d_22_12 rfl (by decide +kernel) hM_24 rfl rfl rfl (Nat.le_of_ble_eq_true rfl) (Nat.le_of_ble_eq_true rfl) (Or.inl rfl) (ok_rnk (sb_3_1 (m := m)) hfx) (Nat.le_of_ble_eq_true rfl) ?_
    show rn fx 3 (0, 0) 22 15 [some (.inr (.inr (some 2003))), some (.inl 1)] [.inl 101] (st0 m) o
    exact hk
  exact ok_rt (fun fx _ => rt_n hM_22 d_22_15 rfl (by decide) (by decide +kernel)) H
theorem sa_3_1 {m : am_M} : ok 3 22 0 (am_ent 2 [.inr (.inr (some 2003)), .inl 1]) [] m (fun rr m' => rr = [.inl 101] ∧ m' = m) := usa_3_1 ⟨rfl, rfl⟩
theorem usa_3_2 {Q : List am_V → am_M → Prop} {m : am_M}   (H : Q [.inl 102] m) : ok 3 22 0 [some (.inr (.inr (some 2003))), some (.inl 2)] [] m Q := by
  refine ok_sg (pc' := 15) (ls' := [some (.inr (.inr (some 2003))), some (.inl 2)]) (st' := [.inl 102]) (m' := m) (fun fx hfx o hk => ?_) ?_
  · refine r_ld (pc' := 1) hM_22 d_22_0 rfl rfl ?_
    refine r_cl (pc' := 4) (c := (23, 0)) (a := [.inr (.inr (some 2003))]) (q := []) hM_22 d_22_1 rfl (by decide +kernel) hM_23 rfl rfl rfl (Nat.le_of_ble_eq_true rfl) (Nat.le_of_ble_eq_true rfl) (Or.inr rfl) (ok_rnk (sl_3 (m := m)) hfx) (Nat.le_of_ble_eq_true rfl) ?_
    show rn fx 3 (0, 0) 22 4 [some (.inr (.inr (some 2003))), some (.inl 2)] [.inl 1] (st0 m) o
    refine r_if (pc' := 16) (pc2 := 7) hM_22 d_22_4 (by decide) rfl (fun hc => absurd hc (show ¬ (am_s 1 = 0) by decide)) (fun _ => ?_)
    refine r_ld (pc' := 8) hM_22 d_22_7 rfl rfl ?_
    refine r_gF (pc' := 11) (v := .inr (.inr (some 3003))) hM_22 d_22_8 rfl (by decide) (by decide +kernel) ?_
    refine r_ld (pc' := 12) hM_22 d_22_11 rfl rfl ?_
    refine r_cl (pc' := 15) (c := (24, 2)) (a := [.inr (.inr (some 3003)), .inl 2]) (q := []) hM_22 d_22_12 rfl (by decide +kernel) hM_24 rfl rfl rfl (Nat.le_of_ble_eq_true rfl) (Nat.le_of_ble_eq_true rfl) (Or.inl rfl) (ok_rnk (sb_3_2 (m := m)) hfx) (Nat.le_of_ble_eq_true rfl) ?_
    show rn fx 3 (0, 0) 22 15 [some (.inr (.inr (some 2003))), some (.inl 2)] [.inl 102] (st0 m) o
    exact hk
  exact ok_rt (fun fx _ => rt_n hM_22 d_22_15 rfl (by decide) (by decide +kernel)) H
theorem sa_3_2 {m : am_M} : ok 3 22 0 (am_ent 2 [.inr (.inr (some 2003)), .inl 2]) [] m (fun rr m' => rr = [.inl 102] ∧ m' = m) := usa_3_2 ⟨rfl, rfl⟩
theorem usa_3_3 {Q : List am_V → am_M → Prop} {m : am_M}   (H : Q [.inl 116] m) : ok 3 22 0 [some (.inr (.inr (some 2003))), some (.inl 3)] [] m Q := by
  refine ok_sg (pc' := 15) (ls' := [some (.inr (.inr (some 2003))), some (.inl 3)]) (st' := [.inl 116]) (m' := m) (fun fx hfx o hk => ?_) ?_
  · refine r_ld (pc' := 1) hM_22 d_22_0 rfl rfl ?_
    refine r_cl (pc' := 4) (c := (23, 0)) (a := [.inr (.inr (some 2003))]) (q := []) hM_22 d_22_1 rfl (by decide +kernel) hM_23 rfl rfl rfl (Nat.le_of_ble_eq_true rfl) (Nat.le_of_ble_eq_true rfl) (Or.inr rfl) (ok_rnk (sl_3 (m := m)) hfx) (Nat.le_of_ble_eq_true rfl) ?_
    show rn fx 3 (0, 0) 22 4 [some (.inr (.inr (some 2003))), some (.inl 3)] [.inl 1] (st0 m) o
    refine r_if (pc' := 16) (pc2 := 7) hM_22 d_22_4 (by decide) rfl (fun hc => absurd hc (show ¬ (am_s 1 = 0) by decide)) (fun _ => ?_)
    refine r_ld (pc' := 8) hM_22 d_22_7 rfl rfl ?_
    refine r_gF (pc' := 11) (v := .inr (.inr (some 3003))) hM_22 d_22_8 rfl (by decide) (by decide +kernel) ?_
    refine r_ld (pc' := 12) hM_22 d_22_11 rfl rfl ?_
    refine r_cl (pc' := 15) (c := (24, 2)) (a := [.inr (.inr (some 3003)), .inl 3]) (q := []) hM_22 d_22_12 rfl (by decide +kernel) hM_24 rfl rfl rfl (Nat.le_of_ble_eq_true rfl) (Nat.le_of_ble_eq_true rfl) (Or.inl rfl) (ok_rnk (sb_3_3 (m := m)) hfx) (Nat.le_of_ble_eq_true rfl) ?_
    show rn fx 3 (0, 0) 22 15 [some (.inr (.inr (some 2003))), some (.inl 3)] [.inl 116] (st0 m) o
    exact hk
  exact ok_rt (fun fx _ => rt_n hM_22 d_22_15 rfl (by decide) (by decide +kernel)) H
theorem sa_3_3 {m : am_M} : ok 3 22 0 (am_ent 2 [.inr (.inr (some 2003)), .inl 3]) [] m (fun rr m' => rr = [.inl 116] ∧ m' = m) := usa_3_3 ⟨rfl, rfl⟩
theorem usa_4_0 {Q : List am_V → am_M → Prop} {m : am_M}   (H : Q [.inl 99] m) : ok 3 22 0 [some (.inr (.inr (some 2004))), some (.inl 0)] [] m Q := by
  refine ok_sg (pc' := 15) (ls' := [some (.inr (.inr (some 2004))), some (.inl 0)]) (st' := [.inl 99]) (m' := m) (fun fx hfx o hk => ?_) ?_
  · refine r_ld (pc' := 1) hM_22 d_22_0 rfl rfl ?_
    refine r_cl (pc' := 4) (c := (23, 0)) (a := [.inr (.inr (some 2004))]) (q := []) hM_22 d_22_1 rfl (by decide +kernel) hM_23 rfl rfl rfl (Nat.le_of_ble_eq_true rfl) (Nat.le_of_ble_eq_true rfl) (Or.inr rfl) (ok_rnk (sl_4 (m := m)) hfx) (Nat.le_of_ble_eq_true rfl) ?_
    show rn fx 3 (0, 0) 22 4 [some (.inr (.inr (some 2004))), some (.inl 0)] [.inl 1] (st0 m) o
    refine r_if (pc' := 16) (pc2 := 7) hM_22 d_22_4 (by decide) rfl (fun hc => absurd hc (show ¬ (am_s 1 = 0) by decide)) (fun _ => ?_)
    refine r_ld (pc' := 8) hM_22 d_22_7 rfl rfl ?_
    refine r_gF (pc' := 11) (v := .inr (.inr (some 3004))) hM_22 d_22_8 rfl (by decide) (by decide +kernel) ?_
    refine r_ld (pc' := 12) hM_22 d_22_11 rfl rfl ?_
    refine r_cl (pc' := 15) (c := (24, 2)) (a := [.inr (.inr (some 3004)), .inl 0]) (q := []) hM_22 d_22_12 rfl (by decide +kernel) hM_24 rfl rfl rfl (Nat.le_of_ble_eq_true rfl) (Nat.le_of_ble_eq_true rfl) (Or.inl rfl) (ok_rnk (sb_4_0 (m := m)) hfx) (Nat.le_of_ble_eq_true rfl) ?_
    show rn fx 3 (0, 0) 22 15 [some (.inr (.inr (some 2004))), some (.inl 0)] [.inl 99] (st0 m) o
    exact hk
  exact ok_rt (fun fx _ => rt_n hM_22 d_22_15 rfl (by decide) (by decide +kernel)) H
theorem sa_4_0 {m : am_M} : ok 3 22 0 (am_ent 2 [.inr (.inr (some 2004)), .inl 0]) [] m (fun rr m' => rr = [.inl 99] ∧ m' = m) := usa_4_0 ⟨rfl, rfl⟩
theorem usa_4_1 {Q : List am_V → am_M → Prop} {m : am_M}   (H : Q [.inl 111] m) : ok 3 22 0 [some (.inr (.inr (some 2004))), some (.inl 1)] [] m Q := by
  refine ok_sg (pc' := 15) (ls' := [some (.inr (.inr (some 2004))), some (.inl 1)]) (st' := [.inl 111]) (m' := m) (fun fx hfx o hk => ?_) ?_
  · refine r_ld (pc' := 1) hM_22 d_22_0 rfl rfl ?_
    refine r_cl (pc' := 4) (c := (23, 0)) (a := [.inr (.inr (some 2004))]) (q := []) hM_22 d_22_1 rfl (by decide +kernel) hM_23 rfl rfl rfl (Nat.le_of_ble_eq_true rfl) (Nat.le_of_ble_eq_true rfl) (Or.inr rfl) (ok_rnk (sl_4 (m := m)) hfx) (Nat.le_of_ble_eq_true rfl) ?_
    show rn fx 3 (0, 0) 22 4 [some (.inr (.inr (some 2004))), some (.inl 1)] [.inl 1] (st0 m) o
    refine r_if (pc' := 16) (pc2 := 7) hM_22 d_22_4 (by decide) rfl (fun hc => absurd hc (show ¬ (am_s 1 = 0) by decide)) (fun _ => ?_)
    refine r_ld (pc' := 8) hM_22 d_22_7 rfl rfl ?_
    refine r_gF (pc' := 11) (v := .inr (.inr (some 3004))) hM_22 d_22_8 rfl (by decide) (by decide +kernel) ?_
    refine r_ld (pc' := 12) hM_22 d_22_11 rfl rfl ?_
    refine r_cl (pc' := 15) (c := (24, 2)) (a := [.inr (.inr (some 3004)), .inl 1]) (q := []) hM_22 d_22_12 rfl (by decide +kernel) hM_24 rfl rfl rfl (Nat.le_of_ble_eq_true rfl) (Nat.le_of_ble_eq_true rfl) (Or.inl rfl) (ok_rnk (sb_4_1 (m := m)) hfx) (Nat.le_of_ble_eq_true rfl) ?_
    show rn fx 3 (0, 0) 22 15 [some (.inr (.inr (some 2004))), some (.inl 1)] [.inl 111] (st0 m) o
    exact hk
  exact ok_rt (fun fx _ => rt_n hM_22 d_22_15 rfl (by decide) (by decide +kernel)) H
theorem sa_4_1 {m : am_M} : ok 3 22 0 (am_ent 2 [.inr (.inr (some 2004)), .inl 1]) [] m (fun rr m' => rr = [.inl 111] ∧ m' = m) := usa_4_1 ⟨rfl, rfl⟩
theorem usa_4_2 {Q : List am_V → am_M → Prop} {m : am_M}   (H : Q [.inl 108] m) : ok 3 22 0 [some (.inr (.inr (some 2004))), some (.inl 2)] [] m Q := by
  refine ok_sg (pc' := 15) (ls' := [some (.inr (.inr (some 2004))), some (.inl 2)]) (st' := [.inl 108]) (m' := m) (fun fx hfx o hk => ?_) ?_
  · refine r_ld (pc' := 1) hM_22 d_22_0 rfl rfl ?_
    refine r_cl (pc' := 4) (c := (23, 0)) (a := [.inr (.inr (some 2004))]) (q := []) hM_22 d_22_1 rfl (by decide +kernel) hM_23 rfl rfl rfl (Nat.le_of_ble_eq_true rfl) (Nat.le_of_ble_eq_true rfl) (Or.inr rfl) (ok_rnk (sl_4 (m := m)) hfx) (Nat.le_of_ble_eq_true rfl) ?_
    show rn fx 3 (0, 0) 22 4 [some (.inr (.inr (some 2004))), some (.inl 2)] [.inl 1] (st0 m) o
    refine r_if (pc' := 16) (pc2 := 7) hM_22 d_22_4 (by decide) rfl (fun hc => absurd hc (show ¬ (am_s 1 = 0) by decide)) (fun _ => ?_)
    refine r_ld (pc' := 8) hM_22 d_22_7 rfl rfl ?_
    refine r_gF (pc' := 11) (v := .inr (.inr (some 3004))) hM_22 d_22_8 rfl (by decide) (by decide +kernel) ?_
    refine r_ld (pc' := 12) hM_22 d_22_11 rfl rfl ?_
    refine r_cl (pc' := 15) (c := (24, 2)) (a := [.inr (.inr (some 3004)), .inl 2]) (q := []) hM_22 d_22_12 rfl (by decide +kernel) hM_24 rfl rfl rfl (Nat.le_of_ble_eq_true rfl) (Nat.le_of_ble_eq_true rfl) (Or.inl rfl) (ok_rnk (sb_4_2 (m := m)) hfx) (Nat.le_of_ble_eq_true rfl) ?_
    show rn fx 3 (0, 0) 22 15 [some (.inr (.inr (some 2004))), some (.inl 2)] [.inl 108] (st0 m) o
    exact hk
  exact ok_rt (fun fx _ => rt_n hM_22 d_22_15 rfl (by decide) (by decide +kernel)) H
theorem sa_4_2 {m : am_M} : ok 3 22 0 (am_ent 2 [.inr (.inr (some 2004)), .inl 2]) [] m (fun rr m' => rr = [.inl 108] ∧ m' = m) := usa_4_2 ⟨rfl, rfl⟩
theorem usa_4_3 {Q : List am_V → am_M → Prop} {m : am_M}   (H : Q [.inl 100] m) : ok 3 22 0 [some (.inr (.inr (some 2004))), some (.inl 3)] [] m Q := by
  refine ok_sg (pc' := 15) (ls' := [some (.inr (.inr (some 2004))), some (.inl 3)]) (st' := [.inl 100]) (m' := m) (fun fx hfx o hk => ?_) ?_
  · refine r_ld (pc' := 1) hM_22 d_22_0 rfl rfl ?_
    refine r_cl (pc' := 4) (c := (23, 0)) (a := [.inr (.inr (some 2004))]) (q := []) hM_22 d_22_1 rfl (by decide +kernel) hM_23 rfl rfl rfl (Nat.le_of_ble_eq_true rfl) (Nat.le_of_ble_eq_true rfl) (Or.inr rfl) (ok_rnk (sl_4 (m := m)) hfx) (Nat.le_of_ble_eq_true rfl) ?_
    show rn fx 3 (0, 0) 22 4 [some (.inr (.inr (some 2004))), some (.inl 3)] [.inl 1] (st0 m) o
    refine r_if (pc' := 16) (pc2 := 7) hM_22 d_22_4 (by decide) rfl (fun hc => absurd hc (show ¬ (am_s 1 = 0) by decide)) (fun _ => ?_)
    refine r_ld (pc' := 8) hM_22 d_22_7 rfl rfl ?_
    refine r_gF (pc' := 11) (v := .inr (.inr (some 3004))) hM_22 d_22_8 rfl (by decide) (by decide +kernel) ?_
    refine r_ld (pc' := 12) hM_22 d_22_11 rfl rfl ?_
    refine r_cl (pc' := 15) (c := (24, 2)) (a := [.inr (.inr (some 3004)), .inl 3]) (q := []) hM_22 d_22_12 rfl (by decide +kernel) hM_24 rfl rfl rfl (Nat.le_of_ble_eq_true rfl) (Nat.le_of_ble_eq_true rfl) (Or.inl rfl) (ok_rnk (sb_4_3 (m := m)) hfx) (Nat.le_of_ble_eq_true rfl) ?_
    show rn fx 3 (0, 0) 22 15 [some (.inr (.inr (some 2004))), some (.inl 3)] [.inl 100] (st0 m) o
    exact hk
  exact ok_rt (fun fx _ => rt_n hM_22 d_22_15 rfl (by decide) (by decide +kernel)) H
theorem sa_4_3 {m : am_M} : ok 3 22 0 (am_ent 2 [.inr (.inr (some 2004)), .inl 3]) [] m (fun rr m' => rr = [.inl 100] ∧ m' = m) := usa_4_3 ⟨rfl, rfl⟩
theorem usa_5_0 {Q : List am_V → am_M → Prop} {m : am_M}   (H : Q [.inl 98] m) : ok 3 22 0 [some (.inr (.inr (some 2005))), some (.inl 0)] [] m Q := by
  refine ok_sg (pc' := 15) (ls' := [some (.inr (.inr (some 2005))), some (.inl 0)]) (st' := [.inl 98]) (m' := m) (fun fx hfx o hk => ?_) ?_
  · refine r_ld (pc' := 1) hM_22 d_22_0 rfl rfl ?_
    refine r_cl (pc' := 4) (c := (23, 0)) (a := [.inr (.inr (some 2005))]) (q := []) hM_22 d_22_1 rfl (by decide +kernel) hM_23 rfl rfl rfl (Nat.le_of_ble_eq_true rfl) (Nat.le_of_ble_eq_true rfl) (Or.inr rfl) (ok_rnk (sl_5 (m := m)) hfx) (Nat.le_of_ble_eq_true rfl) ?_
    show rn fx 3 (0, 0) 22 4 [some (.inr (.inr (some 2005))), some (.inl 0)] [.inl 1] (st0 m) o
    refine r_if (pc' := 16) (pc2 := 7) hM_22 d_22_4 (by decide) rfl (fun hc => absurd hc (show ¬ (am_s 1 = 0) by decide)) (fun _ => ?_)
    refine r_ld (pc' := 8) hM_22 d_22_7 rfl rfl ?_
    refine r_gF (pc' := 11) (v := .inr (.inr (some 3005))) hM_22 d_22_8 rfl (by decide) (by decide +kernel) ?_
    refine r_ld (pc' := 12) hM_22 d_22_11 rfl rfl ?_
    refine r_cl (pc' := 15) (c := (24, 2)) (a := [.inr (.inr (some 3005)), .inl 0]) (q := []) hM_22 d_22_12 rfl (by decide +kernel) hM_24 rfl rfl rfl (Nat.le_of_ble_eq_true rfl) (Nat.le_of_ble_eq_true rfl) (Or.inl rfl) (ok_rnk (sb_5_0 (m := m)) hfx) (Nat.le_of_ble_eq_true rfl) ?_
    show rn fx 3 (0, 0) 22 15 [some (.inr (.inr (some 2005))), some (.inl 0)] [.inl 98] (st0 m) o
    exact hk
  exact ok_rt (fun fx _ => rt_n hM_22 d_22_15 rfl (by decide) (by decide +kernel)) H
theorem sa_5_0 {m : am_M} : ok 3 22 0 (am_ent 2 [.inr (.inr (some 2005)), .inl 0]) [] m (fun rr m' => rr = [.inl 98] ∧ m' = m) := usa_5_0 ⟨rfl, rfl⟩
theorem usa_5_1 {Q : List am_V → am_M → Prop} {m : am_M}   (H : Q [.inl 97] m) : ok 3 22 0 [some (.inr (.inr (some 2005))), some (.inl 1)] [] m Q := by
  refine ok_sg (pc' := 15) (ls' := [some (.inr (.inr (some 2005))), some (.inl 1)]) (st' := [.inl 97]) (m' := m) (fun fx hfx o hk => ?_) ?_
  · refine r_ld (pc' := 1) hM_22 d_22_0 rfl rfl ?_
    refine r_cl (pc' := 4) (c := (23, 0)) (a := [.inr (.inr (some 2005))]) (q := []) hM_22 d_22_1 rfl (by decide +kernel) hM_23 rfl rfl rfl (Nat.le_of_ble_eq_true rfl) (Nat.le_of_ble_eq_true rfl) (Or.inr rfl) (ok_rnk (sl_5 (m := m)) hfx) (Nat.le_of_ble_eq_true rfl) ?_
    show rn fx 3 (0, 0) 22 4 [some (.inr (.inr (some 2005))), some (.inl 1)] [.inl 1] (st0 m) o
    refine r_if (pc' := 16) (pc2 := 7) hM_22 d_22_4 (by decide) rfl (fun hc => absurd hc (show ¬ (am_s 1 = 0) by decide)) (fun _ => ?_)
    refine r_ld (pc' := 8) hM_22 d_22_7 rfl rfl ?_
    refine r_gF (pc' := 11) (v := .inr (.inr (some 3005))) hM_22 d_22_8 rfl (by decide) (by decide +kernel) ?_
    refine r_ld (pc' := 12) hM_22 d_22_11 rfl rfl ?_
    refine r_cl (pc' := 15) (c := (24, 2)) (a := [.inr (.inr (some 3005)), .inl 1]) (q := []) hM_22 d_22_12 rfl (by decide +kernel) hM_24 rfl rfl rfl (Nat.le_of_ble_eq_true rfl) (Nat.le_of_ble_eq_true rfl) (Or.inl rfl) (ok_rnk (sb_5_1 (m := m)) hfx) (Nat.le_of_ble_eq_true rfl) ?_
    show rn fx 3 (0, 0) 22 15 [some (.inr (.inr (some 2005))), some (.inl 1)] [.inl 97] (st0 m) o
    exact hk
  exact ok_rt (fun fx _ => rt_n hM_22 d_22_15 rfl (by decide) (by decide +kernel)) H
theorem sa_5_1 {m : am_M} : ok 3 22 0 (am_ent 2 [.inr (.inr (some 2005)), .inl 1]) [] m (fun rr m' => rr = [.inl 97] ∧ m' = m) := usa_5_1 ⟨rfl, rfl⟩
theorem usa_5_2 {Q : List am_V → am_M → Prop} {m : am_M}   (H : Q [.inl 114] m) : ok 3 22 0 [some (.inr (.inr (some 2005))), some (.inl 2)] [] m Q := by
  refine ok_sg (pc' := 15) (ls' := [some (.inr (.inr (some 2005))), some (.inl 2)]) (st' := [.inl 114]) (m' := m) (fun fx hfx o hk => ?_) ?_
  · refine r_ld (pc' := 1) hM_22 d_22_0 rfl rfl ?_
    refine r_cl (pc' := 4) (c := (23, 0)) (a := [.inr (.inr (some 2005))]) (q := []) hM_22 d_22_1 rfl (by decide +kernel) hM_23 rfl rfl rfl (Nat.le_of_ble_eq_true rfl) (Nat.le_of_ble_eq_true rfl) (Or.inr rfl) (ok_rnk (sl_5 (m := m)) hfx) (Nat.le_of_ble_eq_true rfl) ?_
    show rn fx 3 (0, 0) 22 4 [some (.inr (.inr (some 2005))), some (.inl 2)] [.inl 1] (st0 m) o
    refine r_if (pc' := 16) (pc2 := 7) hM_22 d_22_4 (by decide) rfl (fun hc => absurd hc (show ¬ (am_s 1 = 0) by decide)) (fun _ => ?_)
    refine r_ld (pc' := 8) hM_22 d_22_7 rfl rfl ?_
    refine r_gF (pc' := 11) (v := .inr (.inr (some 3005))) hM_22 d_22_8 rfl (by decide) (by decide +kernel) ?_
    refine r_ld (pc' := 12) hM_22 d_22_11 rfl rfl ?_
    refine r_cl (pc' := 15) (c := (24, 2)) (a := [.inr (.inr (some 3005)), .inl 2]) (q := []) hM_22 d_22_12 rfl (by decide +kernel) hM_24 rfl rfl rfl (Nat.le_of_ble_eq_true rfl) (Nat.le_of_ble_eq_true rfl) (Or.inl rfl) (ok_rnk (sb_5_2 (m := m)) hfx) (Nat.le_of_ble_eq_true rfl) ?_
    show rn fx 3 (0, 0) 22 15 [some (.inr (.inr (some 2005))), some (.inl 2)] [.inl 114] (st0 m) o
    exact hk
  exact ok_rt (fun fx _ => rt_n hM_22 d_22_15 rfl (by decide) (by decide +kernel)) H
theorem sa_5_2 {m : am_M} : ok 3 22 0 (am_ent 2 [.inr (.inr (some 2005)), .inl 2]) [] m (fun rr m' => rr = [.inl 114] ∧ m' = m) := usa_5_2 ⟨rfl, rfl⟩
theorem usa_5_3 {Q : List am_V → am_M → Prop} {m : am_M}   (H : Q [.inl 114] m) : ok 3 22 0 [some (.inr (.inr (some 2005))), some (.inl 3)] [] m Q := by
  refine ok_sg (pc' := 15) (ls' := [some (.inr (.inr (some 2005))), some (.inl 3)]) (st' := [.inl 114]) (m' := m) (fun fx hfx o hk => ?_) ?_
  · refine r_ld (pc' := 1) hM_22 d_22_0 rfl rfl ?_
    refine r_cl (pc' := 4) (c := (23, 0)) (a := [.inr (.inr (some 2005))]) (q := []) hM_22 d_22_1 rfl (by decide +kernel) hM_23 rfl rfl rfl (Nat.le_of_ble_eq_true rfl) (Nat.le_of_ble_eq_true rfl) (Or.inr rfl) (ok_rnk (sl_5 (m := m)) hfx) (Nat.le_of_ble_eq_true rfl) ?_
    show rn fx 3 (0, 0) 22 4 [some (.inr (.inr (some 2005))), some (.inl 3)] [.inl 1] (st0 m) o
    refine r_if (pc' := 16) (pc2 := 7) hM_22 d_22_4 (by decide) rfl (fun hc => absurd hc (show ¬ (am_s 1 = 0) by decide)) (fun _ => ?_)
    refine r_ld (pc' := 8) hM_22 d_22_7 rfl rfl ?_
    refine r_gF (pc' := 11) (v := .inr (.inr (some 3005))) hM_22 d_22_8 rfl (by decide) (by decide +kernel) ?_
    refine r_ld (pc' := 12) hM_22 d_22_11 rfl rfl ?_
    refine r_cl (pc' := 15) (c := (24, 2)) (a := [.inr (.inr (some 3005)), .inl 3]) (q := []) hM_22 d_22_12 rfl (by decide +kernel) hM_24 rfl rfl rfl (Nat.le_of_ble_eq_true rfl) (Nat.le_of_ble_eq_true rfl) (Or.inl rfl) (ok_rnk (sb_5_3 (m := m)) hfx) (Nat.le_of_ble_eq_true rfl) ?_
    show rn fx 3 (0, 0) 22 15 [some (.inr (.inr (some 2005))), some (.inl 3)] [.inl 114] (st0 m) o
    exact hk
  exact ok_rt (fun fx _ => rt_n hM_22 d_22_15 rfl (by decide) (by decide +kernel)) H
theorem sa_5_3 {m : am_M} : ok 3 22 0 (am_ent 2 [.inr (.inr (some 2005)), .inl 3]) [] m (fun rr m' => rr = [.inl 114] ∧ m' = m) := usa_5_3 ⟨rfl, rfl⟩
theorem usa_5_4 {Q : List am_V → am_M → Prop} {m : am_M}   (H : Q [.inl 101] m) : ok 3 22 0 [some (.inr (.inr (some 2005))), some (.inl 4)] [] m Q := by
  refine ok_sg (pc' := 15) (ls' := [some (.inr (.inr (some 2005))), some (.inl 4)]) (st' := [.inl 101]) (m' := m) (fun fx hfx o hk => ?_) ?_
  · refine r_ld (pc' := 1) hM_22 d_22_0 rfl rfl ?_
    refine r_cl (pc' := 4) (c := (23, 0)) (a := [.inr (.inr (some 2005))]) (q := []) hM_22 d_22_1 rfl (by decide +kernel) hM_23 rfl rfl rfl (Nat.le_of_ble_eq_true rfl) (Nat.le_of_ble_eq_true rfl) (Or.inr rfl) (ok_rnk (sl_5 (m := m)) hfx) (Nat.le_of_ble_eq_true rfl) ?_
    show rn fx 3 (0, 0) 22 4 [some (.inr (.inr (some 2005))), some (.inl 4)] [.inl 1] (st0 m) o
    refine r_if (pc' := 16) (pc2 := 7) hM_22 d_22_4 (by decide) rfl (fun hc => absurd hc (show ¬ (am_s 1 = 0) by decide)) (fun _ => ?_)
    refine r_ld (pc' := 8) hM_22 d_22_7 rfl rfl ?_
    refine r_gF (pc' := 11) (v := .inr (.inr (some 3005))) hM_22 d_22_8 rfl (by decide) (by decide +kernel) ?_
    refine r_ld (pc' := 12) hM_22 d_22_11 rfl rfl ?_
    refine r_cl (pc' := 15) (c := (24, 2)) (a := [.inr (.inr (some 3005)), .inl 4]) (q := []) hM_22 d_22_12 rfl (by decide +kernel) hM_24 rfl rfl rfl (Nat.le_of_ble_eq_true rfl) (Nat.le_of_ble_eq_true rfl) (Or.inl rfl) (ok_rnk (sb_5_4 (m := m)) hfx) (Nat.le_of_ble_eq_true rfl) ?_
    show rn fx 3 (0, 0) 22 15 [some (.inr (.inr (some 2005))), some (.inl 4)] [.inl 101] (st0 m) o
    exact hk
  exact ok_rt (fun fx _ => rt_n hM_22 d_22_15 rfl (by decide) (by decide +kernel)) H
theorem sa_5_4 {m : am_M} : ok 3 22 0 (am_ent 2 [.inr (.inr (some 2005)), .inl 4]) [] m (fun rr m' => rr = [.inl 101] ∧ m' = m) := usa_5_4 ⟨rfl, rfl⟩
theorem usa_5_5 {Q : List am_V → am_M → Prop} {m : am_M}   (H : Q [.inl 108] m) : ok 3 22 0 [some (.inr (.inr (some 2005))), some (.inl 5)] [] m Q := by
  refine ok_sg (pc' := 15) (ls' := [some (.inr (.inr (some 2005))), some (.inl 5)]) (st' := [.inl 108]) (m' := m) (fun fx hfx o hk => ?_) ?_
  · refine r_ld (pc' := 1) hM_22 d_22_0 rfl rfl ?_
    refine r_cl (pc' := 4) (c := (23, 0)) (a := [.inr (.inr (some 2005))]) (q := []) hM_22 d_22_1 rfl (by decide +kernel) hM_23 rfl rfl rfl (Nat.le_of_ble_eq_true rfl) (Nat.le_of_ble_eq_true rfl) (Or.inr rfl) (ok_rnk (sl_5 (m := m)) hfx) (Nat.le_of_ble_eq_true rfl) ?_
    show rn fx 3 (0, 0) 22 4 [some (.inr (.inr (some 2005))), some (.inl 5)] [.inl 1] (st0 m) o
    refine r_if (pc' := 16) (pc2 := 7) hM_22 d_22_4 (by decide) rfl (fun hc => absurd hc (show ¬ (am_s 1 = 0) by decide)) (fun _ => ?_)
    refine r_ld (pc' := 8) hM_22 d_22_7 rfl rfl ?_
    refine r_gF (pc' := 11) (v := .inr (.inr (some 3005))) hM_22 d_22_8 rfl (by decide) (by decide +kernel) ?_
    refine r_ld (pc' := 12) hM_22 d_22_11 rfl rfl ?_
    refine r_cl (pc' := 15) (c := (24, 2)) (a := [.inr (.inr (some 3005)), .inl 5]) (q := []) hM_22 d_22_12 rfl (by decide +kernel) hM_24 rfl rfl rfl (Nat.le_of_ble_eq_true rfl) (Nat.le_of_ble_eq_true rfl) (Or.inl rfl) (ok_rnk (sb_5_5 (m := m)) hfx) (Nat.le_of_ble_eq_true rfl) ?_
    show rn fx 3 (0, 0) 22 15 [some (.inr (.inr (some 2005))), some (.inl 5)] [.inl 108] (st0 m) o
    exact hk
  exact ok_rt (fun fx _ => rt_n hM_22 d_22_15 rfl (by decide) (by decide +kernel)) H
theorem sa_5_5 {m : am_M} : ok 3 22 0 (am_ent 2 [.inr (.inr (some 2005)), .inl 5]) [] m (fun rr m' => rr = [.inl 108] ∧ m' = m) := usa_5_5 ⟨rfl, rfl⟩
theorem usa_6_0 {Q : List am_V → am_M → Prop} {m : am_M}   (H : Q [.inl 103] m) : ok 3 22 0 [some (.inr (.inr (some 2006))), some (.inl 0)] [] m Q := by
  refine ok_sg (pc' := 15) (ls' := [some (.inr (.inr (some 2006))), some (.inl 0)]) (st' := [.inl 103]) (m' := m) (fun fx hfx o hk => ?_) ?_
  · refine r_ld (pc' := 1) hM_22 d_22_0 rfl rfl ?_
    refine r_cl (pc' := 4) (c := (23, 0)) (a := [.inr (.inr (some 2006))]) (q := []) hM_22 d_22_1 rfl (by decide +kernel) hM_23 rfl rfl rfl (Nat.le_of_ble_eq_true rfl) (Nat.le_of_ble_eq_true rfl) (Or.inr rfl) (ok_rnk (sl_6 (m := m)) hfx) (Nat.le_of_ble_eq_true rfl) ?_
    show rn fx 3 (0, 0) 22 4 [some (.inr (.inr (some 2006))), some (.inl 0)] [.inl 1] (st0 m) o
    refine r_if (pc' := 16) (pc2 := 7) hM_22 d_22_4 (by decide) rfl (fun hc => absurd hc (show ¬ (am_s 1 = 0) by decide)) (fun _ => ?_)
    refine r_ld (pc' := 8) hM_22 d_22_7 rfl rfl ?_
    refine r_gF (pc' := 11) (v := .inr (.inr (some 3006))) hM_22 d_22_8 rfl (by decide) (by decide +kernel) ?_
    refine r_ld (pc' := 12) hM_22 d_22_11 rfl rfl ?_
    refine r_cl (pc' := 15) (c := (24, 2)) (a := [.inr (.inr (some 3006)), .inl 0]) (q := []) hM_22 d_22_12 rfl (by decide +kernel) hM_24 rfl rfl rfl (Nat.le_of_ble_eq_true rfl) (Nat.le_of_ble_eq_true rfl) (Or.inl rfl) (ok_rnk (sb_6_0 (m := m)) hfx) (Nat.le_of_ble_eq_true rfl) ?_
    show rn fx 3 (0, 0) 22 15 [some (.inr (.inr (some 2006))), some (.inl 0)] [.inl 103] (st0 m) o
    exact hk
  exact ok_rt (fun fx _ => rt_n hM_22 d_22_15 rfl (by decide) (by decide +kernel)) H
theorem sa_6_0 {m : am_M} : ok 3 22 0 (am_ent 2 [.inr (.inr (some 2006)), .inl 0]) [] m (fun rr m' => rr = [.inl 103] ∧ m' = m) := usa_6_0 ⟨rfl, rfl⟩
theorem usa_6_1 {Q : List am_V → am_M → Prop} {m : am_M}   (H : Q [.inl 97] m) : ok 3 22 0 [some (.inr (.inr (some 2006))), some (.inl 1)] [] m Q := by
  refine ok_sg (pc' := 15) (ls' := [some (.inr (.inr (some 2006))), some (.inl 1)]) (st' := [.inl 97]) (m' := m) (fun fx hfx o hk => ?_) ?_
  · refine r_ld (pc' := 1) hM_22 d_22_0 rfl rfl ?_
    refine r_cl (pc' := 4) (c := (23, 0)) (a := [.inr (.inr (some 2006))]) (q := []) hM_22 d_22_1 rfl (by decide +kernel) hM_23 rfl rfl rfl (Nat.le_of_ble_eq_true rfl) (Nat.le_of_ble_eq_true rfl) (Or.inr rfl) (ok_rnk (sl_6 (m := m)) hfx) (Nat.le_of_ble_eq_true rfl) ?_
    show rn fx 3 (0, 0) 22 4 [some (.inr (.inr (some 2006))), some (.inl 1)] [.inl 1] (st0 m) o
    refine r_if (pc' := 16) (pc2 := 7) hM_22 d_22_4 (by decide) rfl (fun hc => absurd hc (show ¬ (am_s 1 = 0) by decide)) (fun _ => ?_)
    refine r_ld (pc' := 8) hM_22 d_22_7 rfl rfl ?_
    refine r_gF (pc' := 11) (v := .inr (.inr (some 3006))) hM_22 d_22_8 rfl (by decide) (by decide +kernel) ?_
    refine r_ld (pc' := 12) hM_22 d_22_11 rfl rfl ?_
    refine r_cl (pc' := 15) (c := (24, 2)) (a := [.inr (.inr (some 3006)), .inl 1]) (q := []) hM_22 d_22_12 rfl (by decide +kernel) hM_24 rfl rfl rfl (Nat.le_of_ble_eq_true rfl) (Nat.le_of_ble_eq_true rfl) (Or.inl rfl) (ok_rnk (sb_6_1 (m := m)) hfx) (Nat.le_of_ble_eq_true rfl) ?_
    show rn fx 3 (0, 0) 22 15 [some (.inr (.inr (some 2006))), some (.inl 1)] [.inl 97] (st0 m) o
    exact hk
  exact ok_rt (fun fx _ => rt_n hM_22 d_22_15 rfl (by decide) (by decide +kernel)) H
theorem sa_6_1 {m : am_M} : ok 3 22 0 (am_ent 2 [.inr (.inr (some 2006)), .inl 1]) [] m (fun rr m' => rr = [.inl 97] ∧ m' = m) := usa_6_1 ⟨rfl, rfl⟩
theorem usa_6_2 {Q : List am_V → am_M → Prop} {m : am_M}   (H : Q [.inl 112] m) : ok 3 22 0 [some (.inr (.inr (some 2006))), some (.inl 2)] [] m Q := by
  refine ok_sg (pc' := 15) (ls' := [some (.inr (.inr (some 2006))), some (.inl 2)]) (st' := [.inl 112]) (m' := m) (fun fx hfx o hk => ?_) ?_
  · refine r_ld (pc' := 1) hM_22 d_22_0 rfl rfl ?_
    refine r_cl (pc' := 4) (c := (23, 0)) (a := [.inr (.inr (some 2006))]) (q := []) hM_22 d_22_1 rfl (by decide +kernel) hM_23 rfl rfl rfl (Nat.le_of_ble_eq_true rfl) (Nat.le_of_ble_eq_true rfl) (Or.inr rfl) (ok_rnk (sl_6 (m := m)) hfx) (Nat.le_of_ble_eq_true rfl) ?_
    show rn fx 3 (0, 0) 22 4 [some (.inr (.inr (some 2006))), some (.inl 2)] [.inl 1] (st0 m) o
    refine r_if (pc' := 16) (pc2 := 7) hM_22 d_22_4 (by decide) rfl (fun hc => absurd hc (show ¬ (am_s 1 = 0) by decide)) (fun _ => ?_)
    refine r_ld (pc' := 8) hM_22 d_22_7 rfl rfl ?_
    refine r_gF (pc' := 11) (v := .inr (.inr (some 3006))) hM_22 d_22_8 rfl (by decide) (by decide +kernel) ?_
    refine r_ld (pc' := 12) hM_22 d_22_11 rfl rfl ?_
    refine r_cl (pc' := 15) (c := (24, 2)) (a := [.inr (.inr (some 3006)), .inl 2]) (q := []) hM_22 d_22_12 rfl (by decide +kernel) hM_24 rfl rfl rfl (Nat.le_of_ble_eq_true rfl) (Nat.le_of_ble_eq_true rfl) (Or.inl rfl) (ok_rnk (sb_6_2 (m := m)) hfx) (Nat.le_of_ble_eq_true rfl) ?_
    show rn fx 3 (0, 0) 22 15 [some (.inr (.inr (some 2006))), some (.inl 2)] [.inl 112] (st0 m) o
    exact hk
  exact ok_rt (fun fx _ => rt_n hM_22 d_22_15 rfl (by decide) (by decide +kernel)) H
theorem sa_6_2 {m : am_M} : ok 3 22 0 (am_ent 2 [.inr (.inr (some 2006)), .inl 2]) [] m (fun rr m' => rr = [.inl 112] ∧ m' = m) := usa_6_2 ⟨rfl, rfl⟩
theorem usa_7_0 {Q : List am_V → am_M → Prop} {m : am_M}   (H : Q [.inl 114] m) : ok 3 22 0 [some (.inr (.inr (some 2007))), some (.inl 0)] [] m Q := by
  refine ok_sg (pc' := 15) (ls' := [some (.inr (.inr (some 2007))), some (.inl 0)]) (st' := [.inl 114]) (m' := m) (fun fx hfx o hk => ?_) ?_
  · refine r_ld (pc' := 1) hM_22 d_22_0 rfl rfl ?_
    refine r_cl (pc' := 4) (c := (23, 0)) (a := [.inr (.inr (some 2007))]) (q := []) hM_22 d_22_1 rfl (by decide +kernel) hM_23 rfl rfl rfl (Nat.le_of_ble_eq_true rfl) (Nat.le_of_ble_eq_true rfl) (Or.inr rfl) (ok_rnk (sl_7 (m := m)) hfx) (Nat.le_of_ble_eq_true rfl) ?_
    show rn fx 3 (0, 0) 22 4 [some (.inr (.inr (some 2007))), some (.inl 0)] [.inl 1] (st0 m) o
    refine r_if (pc' := 16) (pc2 := 7) hM_22 d_22_4 (by decide) rfl (fun hc => absurd hc (show ¬ (am_s 1 = 0) by decide)) (fun _ => ?_)
    refine r_ld (pc' := 8) hM_22 d_22_7 rfl rfl ?_
    refine r_gF (pc' := 11) (v := .inr (.inr (some 3007))) hM_22 d_22_8 rfl (by decide) (by decide +kernel) ?_
    refine r_ld (pc' := 12) hM_22 d_22_11 rfl rfl ?_
    refine r_cl (pc' := 15) (c := (24, 2)) (a := [.inr (.inr (some 3007)), .inl 0]) (q := []) hM_22 d_22_12 rfl (by decide +kernel) hM_24 rfl rfl rfl (Nat.le_of_ble_eq_true rfl) (Nat.le_of_ble_eq_true rfl) (Or.inl rfl) (ok_rnk (sb_7_0 (m := m)) hfx) (Nat.le_of_ble_eq_true rfl) ?_
    show rn fx 3 (0, 0) 22 15 [some (.inr (.inr (some 2007))), some (.inl 0)] [.inl 114] (st0 m) o
    exact hk
  exact ok_rt (fun fx _ => rt_n hM_22 d_22_15 rfl (by decide) (by decide +kernel)) H
theorem sa_7_0 {m : am_M} : ok 3 22 0 (am_ent 2 [.inr (.inr (some 2007)), .inl 0]) [] m (fun rr m' => rr = [.inl 114] ∧ m' = m) := usa_7_0 ⟨rfl, rfl⟩
theorem usa_7_1 {Q : List am_V → am_M → Prop} {m : am_M}   (H : Q [.inl 105] m) : ok 3 22 0 [some (.inr (.inr (some 2007))), some (.inl 1)] [] m Q := by
  refine ok_sg (pc' := 15) (ls' := [some (.inr (.inr (some 2007))), some (.inl 1)]) (st' := [.inl 105]) (m' := m) (fun fx hfx o hk => ?_) ?_
  · refine r_ld (pc' := 1) hM_22 d_22_0 rfl rfl ?_
    refine r_cl (pc' := 4) (c := (23, 0)) (a := [.inr (.inr (some 2007))]) (q := []) hM_22 d_22_1 rfl (by decide +kernel) hM_23 rfl rfl rfl (Nat.le_of_ble_eq_true rfl) (Nat.le_of_ble_eq_true rfl) (Or.inr rfl) (ok_rnk (sl_7 (m := m)) hfx) (Nat.le_of_ble_eq_true rfl) ?_
    show rn fx 3 (0, 0) 22 4 [some (.inr (.inr (some 2007))), some (.inl 1)] [.inl 1] (st0 m) o
    refine r_if (pc' := 16) (pc2 := 7) hM_22 d_22_4 (by decide) rfl (fun hc => absurd hc (show ¬ (am_s 1 = 0) by decide)) (fun _ => ?_)
    refine r_ld (pc' := 8) hM_22 d_22_7 rfl rfl ?_
    refine r_gF (pc' := 11) (v := .inr (.inr (some 3007))) hM_22 d_22_8 rfl (by decide) (by decide +kernel) ?_
    refine r_ld (pc' := 12) hM_22 d_22_11 rfl rfl ?_
    refine r_cl (pc' := 15) (c := (24, 2)) (a := [.inr (.inr (some 3007)), .inl 1]) (q := []) hM_22 d_22_12 rfl (by decide +kernel) hM_24 rfl rfl rfl (Nat.le_of_ble_eq_true rfl) (Nat.le_of_ble_eq_true rfl) (Or.inl rfl) (ok_rnk (sb_7_1 (m := m)) hfx) (Nat.le_of_ble_eq_true rfl) ?_
    show rn fx 3 (0, 0) 22 15 [some (.inr (.inr (some 2007))), some (.inl 1)] [.inl 105] (st0 m) o
    exact hk
  exact ok_rt (fun fx _ => rt_n hM_22 d_22_15 rfl (by decide) (by decide +kernel)) H
theorem sa_7_1 {m : am_M} : ok 3 22 0 (am_ent 2 [.inr (.inr (some 2007)), .inl 1]) [] m (fun rr m' => rr = [.inl 105] ∧ m' = m) := usa_7_1 ⟨rfl, rfl⟩
theorem usa_7_2 {Q : List am_V → am_M → Prop} {m : am_M}   (H : Q [.inl 112] m) : ok 3 22 0 [some (.inr (.inr (some 2007))), some (.inl 2)] [] m Q := by
  refine ok_sg (pc' := 15) (ls' := [some (.inr (.inr (some 2007))), some (.inl 2)]) (st' := [.inl 112]) (m' := m) (fun fx hfx o hk => ?_) ?_
  · refine r_ld (pc' := 1) hM_22 d_22_0 rfl rfl ?_
    refine r_cl (pc' := 4) (c := (23, 0)) (a := [.inr (.inr (some 2007))]) (q := []) hM_22 d_22_1 rfl (by decide +kernel) hM_23 rfl rfl rfl (Nat.le_of_ble_eq_true rfl) (Nat.le_of_ble_eq_true rfl) (Or.inr rfl) (ok_rnk (sl_7 (m := m)) hfx) (Nat.le_of_ble_eq_true rfl) ?_
    show rn fx 3 (0, 0) 22 4 [some (.inr (.inr (some 2007))), some (.inl 2)] [.inl 1] (st0 m) o
    refine r_if (pc' := 16) (pc2 := 7) hM_22 d_22_4 (by decide) rfl (fun hc => absurd hc (show ¬ (am_s 1 = 0) by decide)) (fun _ => ?_)
    refine r_ld (pc' := 8) hM_22 d_22_7 rfl rfl ?_
    refine r_gF (pc' := 11) (v := .inr (.inr (some 3007))) hM_22 d_22_8 rfl (by decide) (by decide +kernel) ?_
    refine r_ld (pc' := 12) hM_22 d_22_11 rfl rfl ?_
    refine r_cl (pc' := 15) (c := (24, 2)) (a := [.inr (.inr (some 3007)), .inl 2]) (q := []) hM_22 d_22_12 rfl (by decide +kernel) hM_24 rfl rfl rfl (Nat.le_of_ble_eq_true rfl) (Nat.le_of_ble_eq_true rfl) (Or.inl rfl) (ok_rnk (sb_7_2 (m := m)) hfx) (Nat.le_of_ble_eq_true rfl) ?_
    show rn fx 3 (0, 0) 22 15 [some (.inr (.inr (some 2007))), some (.inl 2)] [.inl 112] (st0 m) o
    exact hk
  exact ok_rt (fun fx _ => rt_n hM_22 d_22_15 rfl (by decide) (by decide +kernel)) H
theorem sa_7_2 {m : am_M} : ok 3 22 0 (am_ent 2 [.inr (.inr (some 2007)), .inl 2]) [] m (fun rr m' => rr = [.inl 112] ∧ m' = m) := usa_7_2 ⟨rfl, rfl⟩
theorem usa_7_3 {Q : List am_V → am_M → Prop} {m : am_M}   (H : Q [.inl 101] m) : ok 3 22 0 [some (.inr (.inr (some 2007))), some (.inl 3)] [] m Q := by
  refine ok_sg (pc' := 15) (ls' := [some (.inr (.inr (some 2007))), some (.inl 3)]) (st' := [.inl 101]) (m' := m) (fun fx hfx o hk => ?_) ?_
  · refine r_ld (pc' := 1) hM_22 d_22_0 rfl rfl ?_
    refine r_cl (pc' := 4) (c := (23, 0)) (a := [.inr (.inr (some 2007))]) (q := []) hM_22 d_22_1 rfl (by decide +kernel) hM_23 rfl rfl rfl (Nat.le_of_ble_eq_true rfl) (Nat.le_of_ble_eq_true rfl) (Or.inr rfl) (ok_rnk (sl_7 (m := m)) hfx) (Nat.le_of_ble_eq_true rfl) ?_
    show rn fx 3 (0, 0) 22 4 [some (.inr (.inr (some 2007))), some (.inl 3)] [.inl 1] (st0 m) o
    refine r_if (pc' := 16) (pc2 := 7) hM_22 d_22_4 (by decide) rfl (fun hc => absurd hc (show ¬ (am_s 1 = 0) by decide)) (fun _ => ?_)
    refine r_ld (pc' := 8) hM_22 d_22_7 rfl rfl ?_
    refine r_gF (pc' := 11) (v := .inr (.inr (some 3007))) hM_22 d_22_8 rfl (by decide) (by decide +kernel) ?_
    refine r_ld (pc' := 12) hM_22 d_22_11 rfl rfl ?_
    refine r_cl (pc' := 15) (c := (24, 2)) (a := [.inr (.inr (some 3007)), .inl 3]) (q := []) hM_22 d_22_12 rfl (by decide +kernel) hM_24 rfl rfl rfl (Nat.le_of_ble_eq_true rfl) (Nat.le_of_ble_eq_true rfl) (Or.inl rfl) (ok_rnk (sb_7_3 (m := m)) hfx) (Nat.le_of_ble_eq_true rfl) ?_
    show rn fx 3 (0, 0) 22 15 [some (.inr (.inr (some 2007))), some (.inl 3)] [.inl 101] (st0 m) o
    exact hk
  exact ok_rt (fun fx _ => rt_n hM_22 d_22_15 rfl (by decide) (by decide +kernel)) H
theorem sa_7_3 {m : am_M} : ok 3 22 0 (am_ent 2 [.inr (.inr (some 2007)), .inl 3]) [] m (fun rr m' => rr = [.inl 101] ∧ m' = m) := usa_7_3 ⟨rfl, rfl⟩
theorem usa_8_0 {Q : List am_V → am_M → Prop} {m : am_M}   (H : Q [.inl 105] m) : ok 3 22 0 [some (.inr (.inr (some 2008))), some (.inl 0)] [] m Q := by
  refine ok_sg (pc' := 15) (ls' := [some (.inr (.inr (some 2008))), some (.inl 0)]) (st' := [.inl 105]) (m' := m) (fun fx hfx o hk => ?_) ?_
  · refine r_ld (pc' := 1) hM_22 d_22_0 rfl rfl ?_
    refine r_cl (pc' := 4) (c := (23, 0)) (a := [.inr (.inr (some 2008))]) (q := []) hM_22 d_22_1 rfl (by decide +kernel) hM_23 rfl rfl rfl (Nat.le_of_ble_eq_true rfl) (Nat.le_of_ble_eq_true rfl) (Or.inr rfl) (ok_rnk (sl_8 (m := m)) hfx) (Nat.le_of_ble_eq_true rfl) ?_
    show rn fx 3 (0, 0) 22 4 [some (.inr (.inr (some 2008))), some (.inl 0)] [.inl 1] (st0 m) o
    refine r_if (pc' := 16) (pc2 := 7) hM_22 d_22_4 (by decide) rfl (fun hc => absurd hc (show ¬ (am_s 1 = 0) by decide)) (fun _ => ?_)
    refine r_ld (pc' := 8) hM_22 d_22_7 rfl rfl ?_
    refine r_gF (pc' := 11) (v := .inr (.inr (some 3008))) hM_22 d_22_8 rfl (by decide) (by decide +kernel) ?_
    refine r_ld (pc' := 12) hM_22 d_22_11 rfl rfl ?_
    refine r_cl (pc' := 15) (c := (24, 2)) (a := [.inr (.inr (some 3008)), .inl 0]) (q := []) hM_22 d_22_12 rfl (by decide +kernel) hM_24 rfl rfl rfl (Nat.le_of_ble_eq_true rfl) (Nat.le_of_ble_eq_true rfl) (Or.inl rfl) (ok_rnk (sb_8_0 (m := m)) hfx) (Nat.le_of_ble_eq_true rfl) ?_
    show rn fx 3 (0, 0) 22 15 [some (.inr (.inr (some 2008))), some (.inl 0)] [.inl 105] (st0 m) o
    exact hk
  exact ok_rt (fun fx _ => rt_n hM_22 d_22_15 rfl (by decide) (by decide +kernel)) H
theorem sa_8_0 {m : am_M} : ok 3 22 0 (am_ent 2 [.inr (.inr (some 2008)), .inl 0]) [] m (fun rr m' => rr = [.inl 105] ∧ m' = m) := usa_8_0 ⟨rfl, rfl⟩
theorem usa_8_1 {Q : List am_V → am_M → Prop} {m : am_M}   (H : Q [.inl 100] m) : ok 3 22 0 [some (.inr (.inr (some 2008))), some (.inl 1)] [] m Q := by
  refine ok_sg (pc' := 15) (ls' := [some (.inr (.inr (some 2008))), some (.inl 1)]) (st' := [.inl 100]) (m' := m) (fun fx hfx o hk => ?_) ?_
  · refine r_ld (pc' := 1) hM_22 d_22_0 rfl rfl ?_
    refine r_cl (pc' := 4) (c := (23, 0)) (a := [.inr (.inr (some 2008))]) (q := []) hM_22 d_22_1 rfl (by decide +kernel) hM_23 rfl rfl rfl (Nat.le_of_ble_eq_true rfl) (Nat.le_of_ble_eq_true rfl) (Or.inr rfl) (ok_rnk (sl_8 (m := m)) hfx) (Nat.le_of_ble_eq_true rfl) ?_
    show rn fx 3 (0, 0) 22 4 [some (.inr (.inr (some 2008))), some (.inl 1)] [.inl 1] (st0 m) o
    refine r_if (pc' := 16) (pc2 := 7) hM_22 d_22_4 (by decide) rfl (fun hc => absurd hc (show ¬ (am_s 1 = 0) by decide)) (fun _ => ?_)
    refine r_ld (pc' := 8) hM_22 d_22_7 rfl rfl ?_
    refine r_gF (pc' := 11) (v := .inr (.inr (some 3008))) hM_22 d_22_8 rfl (by decide) (by decide +kernel) ?_
    refine r_ld (pc' := 12) hM_22 d_22_11 rfl rfl ?_
    refine r_cl (pc' := 15) (c := (24, 2)) (a := [.inr (.inr (some 3008)), .inl 1]) (q := []) hM_22 d_22_12 rfl (by decide +kernel) hM_24 rfl rfl rfl (Nat.le_of_ble_eq_true rfl) (Nat.le_of_ble_eq_true rfl) (Or.inl rfl) (ok_rnk (sb_8_1 (m := m)) hfx) (Nat.le_of_ble_eq_true rfl) ?_
    show rn fx 3 (0, 0) 22 15 [some (.inr (.inr (some 2008))), some (.inl 1)] [.inl 100] (st0 m) o
    exact hk
  exact ok_rt (fun fx _ => rt_n hM_22 d_22_15 rfl (by decide) (by decide +kernel)) H
theorem sa_8_1 {m : am_M} : ok 3 22 0 (am_ent 2 [.inr (.inr (some 2008)), .inl 1]) [] m (fun rr m' => rr = [.inl 100] ∧ m' = m) := usa_8_1 ⟨rfl, rfl⟩
theorem usa_8_2 {Q : List am_V → am_M → Prop} {m : am_M}   (H : Q [.inl 108] m) : ok 3 22 0 [some (.inr (.inr (some 2008))), some (.inl 2)] [] m Q := by
  refine ok_sg (pc' := 15) (ls' := [some (.inr (.inr (some 2008))), some (.inl 2)]) (st' := [.inl 108]) (m' := m) (fun fx hfx o hk => ?_) ?_
  · refine r_ld (pc' := 1) hM_22 d_22_0 rfl rfl ?_
    refine r_cl (pc' := 4) (c := (23, 0)) (a := [.inr (.inr (some 2008))]) (q := []) hM_22 d_22_1 rfl (by decide +kernel) hM_23 rfl rfl rfl (Nat.le_of_ble_eq_true rfl) (Nat.le_of_ble_eq_true rfl) (Or.inr rfl) (ok_rnk (sl_8 (m := m)) hfx) (Nat.le_of_ble_eq_true rfl) ?_
    show rn fx 3 (0, 0) 22 4 [some (.inr (.inr (some 2008))), some (.inl 2)] [.inl 1] (st0 m) o
    refine r_if (pc' := 16) (pc2 := 7) hM_22 d_22_4 (by decide) rfl (fun hc => absurd hc (show ¬ (am_s 1 = 0) by decide)) (fun _ => ?_)
    refine r_ld (pc' := 8) hM_22 d_22_7 rfl rfl ?_
    refine r_gF (pc' := 11) (v := .inr (.inr (some 3008))) hM_22 d_22_8 rfl (by decide) (by decide +kernel) ?_
    refine r_ld (pc' := 12) hM_22 d_22_11 rfl rfl ?_
    refine r_cl (pc' := 15) (c := (24, 2)) (a := [.inr (.inr (some 3008)), .inl 2]) (q := []) hM_22 d_22_12 rfl (by decide +kernel) hM_24 rfl rfl rfl (Nat.le_of_ble_eq_true rfl) (Nat.le_of_ble_eq_true rfl) (Or.inl rfl) (ok_rnk (sb_8_2 (m := m)) hfx) (Nat.le_of_ble_eq_true rfl) ?_
    show rn fx 3 (0, 0) 22 15 [some (.inr (.inr (some 2008))), some (.inl 2)] [.inl 108] (st0 m) o
    exact hk
  exact ok_rt (fun fx _ => rt_n hM_22 d_22_15 rfl (by decide) (by decide +kernel)) H
theorem sa_8_2 {m : am_M} : ok 3 22 0 (am_ent 2 [.inr (.inr (some 2008)), .inl 2]) [] m (fun rr m' => rr = [.inl 108] ∧ m' = m) := usa_8_2 ⟨rfl, rfl⟩
theorem usa_8_3 {Q : List am_V → am_M → Prop} {m : am_M}   (H : Q [.inl 101] m) : ok 3 22 0 [some (.inr (.inr (some 2008))), some (.inl 3)] [] m Q := by
  refine ok_sg (pc' := 15) (ls' := [some (.inr (.inr (some 2008))), some (.inl 3)]) (st' := [.inl 101]) (m' := m) (fun fx hfx o hk => ?_) ?_
  · refine r_ld (pc' := 1) hM_22 d_22_0 rfl rfl ?_
    refine r_cl (pc' := 4) (c := (23, 0)) (a := [.inr (.inr (some 2008))]) (q := []) hM_22 d_22_1 rfl (by decide +kernel) hM_23 rfl rfl rfl (Nat.le_of_ble_eq_true rfl) (Nat.le_of_ble_eq_true rfl) (Or.inr rfl) (ok_rnk (sl_8 (m := m)) hfx) (Nat.le_of_ble_eq_true rfl) ?_
    show rn fx 3 (0, 0) 22 4 [some (.inr (.inr (some 2008))), some (.inl 3)] [.inl 1] (st0 m) o
    refine r_if (pc' := 16) (pc2 := 7) hM_22 d_22_4 (by decide) rfl (fun hc => absurd hc (show ¬ (am_s 1 = 0) by decide)) (fun _ => ?_)
    refine r_ld (pc' := 8) hM_22 d_22_7 rfl rfl ?_
    refine r_gF (pc' := 11) (v := .inr (.inr (some 3008))) hM_22 d_22_8 rfl (by decide) (by decide +kernel) ?_
    refine r_ld (pc' := 12) hM_22 d_22_11 rfl rfl ?_
    refine r_cl (pc' := 15) (c := (24, 2)) (a := [.inr (.inr (some 3008)), .inl 3]) (q := []) hM_22 d_22_12 rfl (by decide +kernel) hM_24 rfl rfl rfl (Nat.le_of_ble_eq_true rfl) (Nat.le_of_ble_eq_true rfl) (Or.inl rfl) (ok_rnk (sb_8_3 (m := m)) hfx) (Nat.le_of_ble_eq_true rfl) ?_
    show rn fx 3 (0, 0) 22 15 [some (.inr (.inr (some 2008))), some (.inl 3)] [.inl 101] (st0 m) o
    exact hk
  exact ok_rt (fun fx _ => rt_n hM_22 d_22_15 rfl (by decide) (by decide +kernel)) H
theorem sa_8_3 {m : am_M} : ok 3 22 0 (am_ent 2 [.inr (.inr (some 2008)), .inl 3]) [] m (fun rr m' => rr = [.inl 101] ∧ m' = m) := usa_8_3 ⟨rfl, rfl⟩
theorem usa_9_0 {Q : List am_V → am_M → Prop} {m : am_M}   (H : Q [.inl 98] m) : ok 3 22 0 [some (.inr (.inr (some 2009))), some (.inl 0)] [] m Q := by
  refine ok_sg (pc' := 15) (ls' := [some (.inr (.inr (some 2009))), some (.inl 0)]) (st' := [.inl 98]) (m' := m) (fun fx hfx o hk => ?_) ?_
  · refine r_ld (pc' := 1) hM_22 d_22_0 rfl rfl ?_
    refine r_cl (pc' := 4) (c := (23, 0)) (a := [.inr (.inr (some 2009))]) (q := []) hM_22 d_22_1 rfl (by decide +kernel) hM_23 rfl rfl rfl (Nat.le_of_ble_eq_true rfl) (Nat.le_of_ble_eq_true rfl) (Or.inr rfl) (ok_rnk (sl_9 (m := m)) hfx) (Nat.le_of_ble_eq_true rfl) ?_
    show rn fx 3 (0, 0) 22 4 [some (.inr (.inr (some 2009))), some (.inl 0)] [.inl 1] (st0 m) o
    refine r_if (pc' := 16) (pc2 := 7) hM_22 d_22_4 (by decide) rfl (fun hc => absurd hc (show ¬ (am_s 1 = 0) by decide)) (fun _ => ?_)
    refine r_ld (pc' := 8) hM_22 d_22_7 rfl rfl ?_
    refine r_gF (pc' := 11) (v := .inr (.inr (some 3009))) hM_22 d_22_8 rfl (by decide) (by decide +kernel) ?_
    refine r_ld (pc' := 12) hM_22 d_22_11 rfl rfl ?_
    refine r_cl (pc' := 15) (c := (24, 2)) (a := [.inr (.inr (some 3009)), .inl 0]) (q := []) hM_22 d_22_12 rfl (by decide +kernel) hM_24 rfl rfl rfl (Nat.le_of_ble_eq_true rfl) (Nat.le_of_ble_eq_true rfl) (Or.inl rfl) (ok_rnk (sb_9_0 (m := m)) hfx) (Nat.le_of_ble_eq_true rfl) ?_
    show rn fx 3 (0, 0) 22 15 [some (.inr (.inr (some 2009))), some (.inl 0)] [.inl 98] (st0 m) o
    exact hk
  exact ok_rt (fun fx _ => rt_n hM_22 d_22_15 rfl (by decide) (by decide +kernel)) H
theorem sa_9_0 {m : am_M} : ok 3 22 0 (am_ent 2 [.inr (.inr (some 2009)), .inl 0]) [] m (fun rr m' => rr = [.inl 98] ∧ m' = m) := usa_9_0 ⟨rfl, rfl⟩
theorem usa_9_1 {Q : List am_V → am_M → Prop} {m : am_M}   (H : Q [.inl 97] m) : ok 3 22 0 [some (.inr (.inr (some 2009))), some (.inl 1)] [] m Q := by
  refine ok_sg (pc' := 15) (ls' := [some (.inr (.inr (some 2009))), some (.inl 1)]) (st' := [.inl 97]) (m' := m) (fun fx hfx o hk => ?_) ?_
  · refine r_ld (pc' := 1) hM_22 d_22_0 rfl rfl ?_
    refine r_cl (pc' := 4) (c := (23, 0)) (a := [.inr (.inr (some 2009))]) (q := []) hM_22 d_22_1 rfl (by decide +kernel) hM_23 rfl rfl rfl (Nat.le_of_ble_eq_true rfl) (Nat.le_of_ble_eq_true rfl) (Or.inr rfl) (ok_rnk (sl_9 (m := m)) hfx) (Nat.le_of_ble_eq_true rfl) ?_
    show rn fx 3 (0, 0) 22 4 [some (.inr (.inr (some 2009))), some (.inl 1)] [.inl 1] (st0 m) o
    refine r_if (pc' := 16) (pc2 := 7) hM_22 d_22_4 (by decide) rfl (fun hc => absurd hc (show ¬ (am_s 1 = 0) by decide)) (fun _ => ?_)
    refine r_ld (pc' := 8) hM_22 d_22_7 rfl rfl ?_
    refine r_gF (pc' := 11) (v := .inr (.inr (some 3009))) hM_22 d_22_8 rfl (by decide) (by decide +kernel) ?_
    refine r_ld (pc' := 12) hM_22 d_22_11 rfl rfl ?_
    refine r_cl (pc' := 15) (c := (24, 2)) (a := [.inr (.inr (some 3009)), .inl 1]) (q := []) hM_22 d_22_12 rfl (by decide +kernel) hM_24 rfl rfl rfl (Nat.le_of_ble_eq_true rfl) (Nat.le_of_ble_eq_true rfl) (Or.inl rfl) (ok_rnk (sb_9_1 (m := m)) hfx) (Nat.le_of_ble_eq_true rfl) ?_
    show rn fx 3 (0, 0) 22 15 [some (.inr (.inr (some 2009))), some (.inl 1)] [.inl 97] (st0 m) o
    exact hk
  exact ok_rt (fun fx _ => rt_n hM_22 d_22_15 rfl (by decide) (by decide +kernel)) H
theorem sa_9_1 {m : am_M} : ok 3 22 0 (am_ent 2 [.inr (.inr (some 2009)), .inl 1]) [] m (fun rr m' => rr = [.inl 97] ∧ m' = m) := usa_9_1 ⟨rfl, rfl⟩
theorem usa_9_2 {Q : List am_V → am_M → Prop} {m : am_M}   (H : Q [.inl 100] m) : ok 3 22 0 [some (.inr (.inr (some 2009))), some (.inl 2)] [] m Q := by
  refine ok_sg (pc' := 15) (ls' := [some (.inr (.inr (some 2009))), some (.inl 2)]) (st' := [.inl 100]) (m' := m) (fun fx hfx o hk => ?_) ?_
  · refine r_ld (pc' := 1) hM_22 d_22_0 rfl rfl ?_
    refine r_cl (pc' := 4) (c := (23, 0)) (a := [.inr (.inr (some 2009))]) (q := []) hM_22 d_22_1 rfl (by decide +kernel) hM_23 rfl rfl rfl (Nat.le_of_ble_eq_true rfl) (Nat.le_of_ble_eq_true rfl) (Or.inr rfl) (ok_rnk (sl_9 (m := m)) hfx) (Nat.le_of_ble_eq_true rfl) ?_
    show rn fx 3 (0, 0) 22 4 [some (.inr (.inr (some 2009))), some (.inl 2)] [.inl 1] (st0 m) o
    refine r_if (pc' := 16) (pc2 := 7) hM_22 d_22_4 (by decide) rfl (fun hc => absurd hc (show ¬ (am_s 1 = 0) by decide)) (fun _ => ?_)
    refine r_ld (pc' := 8) hM_22 d_22_7 rfl rfl ?_
    refine r_gF (pc' := 11) (v := .inr (.inr (some 3009))) hM_22 d_22_8 rfl (by decide) (by decide +kernel) ?_
    refine r_ld (pc' := 12) hM_22 d_22_11 rfl rfl ?_
    refine r_cl (pc' := 15) (c := (24, 2)) (a := [.inr (.inr (some 3009)), .inl 2]) (q := []) hM_22 d_22_12 rfl (by decide +kernel) hM_24 rfl rfl rfl (Nat.le_of_ble_eq_true rfl) (Nat.le_of_ble_eq_true rfl) (Or.inl rfl) (ok_rnk (sb_9_2 (m := m)) hfx) (Nat.le_of_ble_eq_true rfl) ?_
    show rn fx 3 (0, 0) 22 15 [some (.inr (.inr (some 2009))), some (.inl 2)] [.inl 100] (st0 m) o
    exact hk
  exact ok_rt (fun fx _ => rt_n hM_22 d_22_15 rfl (by decide) (by decide +kernel)) H
theorem sa_9_2 {m : am_M} : ok 3 22 0 (am_ent 2 [.inr (.inr (some 2009)), .inl 2]) [] m (fun rr m' => rr = [.inl 100] ∧ m' = m) := usa_9_2 ⟨rfl, rfl⟩
theorem usa_10_0 {Q : List am_V → am_M → Prop} {m : am_M}   (H : Q [.inl 115] m) : ok 3 22 0 [some (.inr (.inr (some 2010))), some (.inl 0)] [] m Q := by
  refine ok_sg (pc' := 15) (ls' := [some (.inr (.inr (some 2010))), some (.inl 0)]) (st' := [.inl 115]) (m' := m) (fun fx hfx o hk => ?_) ?_
  · refine r_ld (pc' := 1) hM_22 d_22_0 rfl rfl ?_
    refine r_cl (pc' := 4) (c := (23, 0)) (a := [.inr (.inr (some 2010))]) (q := []) hM_22 d_22_1 rfl (by decide +kernel) hM_23 rfl rfl rfl (Nat.le_of_ble_eq_true rfl) (Nat.le_of_ble_eq_true rfl) (Or.inr rfl) (ok_rnk (sl_10 (m := m)) hfx) (Nat.le_of_ble_eq_true rfl) ?_
    show rn fx 3 (0, 0) 22 4 [some (.inr (.inr (some 2010))), some (.inl 0)] [.inl 1] (st0 m) o
    refine r_if (pc' := 16) (pc2 := 7) hM_22 d_22_4 (by decide) rfl (fun hc => absurd hc (show ¬ (am_s 1 = 0) by decide)) (fun _ => ?_)
    refine r_ld (pc' := 8) hM_22 d_22_7 rfl rfl ?_
    refine r_gF (pc' := 11) (v := .inr (.inr (some 3010))) hM_22 d_22_8 rfl (by decide) (by decide +kernel) ?_
    refine r_ld (pc' := 12) hM_22 d_22_11 rfl rfl ?_
    refine r_cl (pc' := 15) (c := (24, 2)) (a := [.inr (.inr (some 3010)), .inl 0]) (q := []) hM_22 d_22_12 rfl (by decide +kernel) hM_24 rfl rfl rfl (Nat.le_of_ble_eq_true rfl) (Nat.le_of_ble_eq_true rfl) (Or.inl rfl) (ok_rnk (sb_10_0 (m := m)) hfx) (Nat.le_of_ble_eq_true rfl) ?_
    show rn fx 3 (0, 0) 22 15 [some (.inr (.inr (some 2010))), some (.inl 0)] [.inl 115] (st0 m) o
    exact hk
  exact ok_rt (fun fx _ => rt_n hM_22 d_22_15 rfl (by decide) (by decide +kernel)) H
theorem sa_10_0 {m : am_M} : ok 3 22 0 (am_ent 2 [.inr (.inr (some 2010)), .inl 0]) [] m (fun rr m' => rr = [.inl 115] ∧ m' = m) := usa_10_0 ⟨rfl, rfl⟩
theorem usa_10_1 {Q : List am_V → am_M → Prop} {m : am_M}   (H : Q [.inl 116] m) : ok 3 22 0 [some (.inr (.inr (some 2010))), some (.inl 1)] [] m Q := by
  refine ok_sg (pc' := 15) (ls' := [some (.inr (.inr (some 2010))), some (.inl 1)]) (st' := [.inl 116]) (m' := m) (fun fx hfx o hk => ?_) ?_
  · refine r_ld (pc' := 1) hM_22 d_22_0 rfl rfl ?_
    refine r_cl (pc' := 4) (c := (23, 0)) (a := [.inr (.inr (some 2010))]) (q := []) hM_22 d_22_1 rfl (by decide +kernel) hM_23 rfl rfl rfl (Nat.le_of_ble_eq_true rfl) (Nat.le_of_ble_eq_true rfl) (Or.inr rfl) (ok_rnk (sl_10 (m := m)) hfx) (Nat.le_of_ble_eq_true rfl) ?_
    show rn fx 3 (0, 0) 22 4 [some (.inr (.inr (some 2010))), some (.inl 1)] [.inl 1] (st0 m) o
    refine r_if (pc' := 16) (pc2 := 7) hM_22 d_22_4 (by decide) rfl (fun hc => absurd hc (show ¬ (am_s 1 = 0) by decide)) (fun _ => ?_)
    refine r_ld (pc' := 8) hM_22 d_22_7 rfl rfl ?_
    refine r_gF (pc' := 11) (v := .inr (.inr (some 3010))) hM_22 d_22_8 rfl (by decide) (by decide +kernel) ?_
    refine r_ld (pc' := 12) hM_22 d_22_11 rfl rfl ?_
    refine r_cl (pc' := 15) (c := (24, 2)) (a := [.inr (.inr (some 3010)), .inl 1]) (q := []) hM_22 d_22_12 rfl (by decide +kernel) hM_24 rfl rfl rfl (Nat.le_of_ble_eq_true rfl) (Nat.le_of_ble_eq_true rfl) (Or.inl rfl) (ok_rnk (sb_10_1 (m := m)) hfx) (Nat.le_of_ble_eq_true rfl) ?_
    show rn fx 3 (0, 0) 22 15 [some (.inr (.inr (some 2010))), some (.inl 1)] [.inl 116] (st0 m) o
    exact hk
  exact ok_rt (fun fx _ => rt_n hM_22 d_22_15 rfl (by decide) (by decide +kernel)) H
theorem sa_10_1 {m : am_M} : ok 3 22 0 (am_ent 2 [.inr (.inr (some 2010)), .inl 1]) [] m (fun rr m' => rr = [.inl 116] ∧ m' = m) := usa_10_1 ⟨rfl, rfl⟩
theorem usa_10_2 {Q : List am_V → am_M → Prop} {m : am_M}   (H : Q [.inl 111] m) : ok 3 22 0 [some (.inr (.inr (some 2010))), some (.inl 2)] [] m Q := by
  refine ok_sg (pc' := 15) (ls' := [some (.inr (.inr (some 2010))), some (.inl 2)]) (st' := [.inl 111]) (m' := m) (fun fx hfx o hk => ?_) ?_
  · refine r_ld (pc' := 1) hM_22 d_22_0 rfl rfl ?_
    refine r_cl (pc' := 4) (c := (23, 0)) (a := [.inr (.inr (some 2010))]) (q := []) hM_22 d_22_1 rfl (by decide +kernel) hM_23 rfl rfl rfl (Nat.le_of_ble_eq_true rfl) (Nat.le_of_ble_eq_true rfl) (Or.inr rfl) (ok_rnk (sl_10 (m := m)) hfx) (Nat.le_of_ble_eq_true rfl) ?_
    show rn fx 3 (0, 0) 22 4 [some (.inr (.inr (some 2010))), some (.inl 2)] [.inl 1] (st0 m) o
    refine r_if (pc' := 16) (pc2 := 7) hM_22 d_22_4 (by decide) rfl (fun hc => absurd hc (show ¬ (am_s 1 = 0) by decide)) (fun _ => ?_)
    refine r_ld (pc' := 8) hM_22 d_22_7 rfl rfl ?_
    refine r_gF (pc' := 11) (v := .inr (.inr (some 3010))) hM_22 d_22_8 rfl (by decide) (by decide +kernel) ?_
    refine r_ld (pc' := 12) hM_22 d_22_11 rfl rfl ?_
    refine r_cl (pc' := 15) (c := (24, 2)) (a := [.inr (.inr (some 3010)), .inl 2]) (q := []) hM_22 d_22_12 rfl (by decide +kernel) hM_24 rfl rfl rfl (Nat.le_of_ble_eq_true rfl) (Nat.le_of_ble_eq_true rfl) (Or.inl rfl) (ok_rnk (sb_10_2 (m := m)) hfx) (Nat.le_of_ble_eq_true rfl) ?_
    show rn fx 3 (0, 0) 22 15 [some (.inr (.inr (some 2010))), some (.inl 2)] [.inl 111] (st0 m) o
    exact hk
  exact ok_rt (fun fx _ => rt_n hM_22 d_22_15 rfl (by decide) (by decide +kernel)) H
theorem sa_10_2 {m : am_M} : ok 3 22 0 (am_ent 2 [.inr (.inr (some 2010)), .inl 2]) [] m (fun rr m' => rr = [.inl 111] ∧ m' = m) := usa_10_2 ⟨rfl, rfl⟩
theorem usa_10_3 {Q : List am_V → am_M → Prop} {m : am_M}   (H : Q [.inl 110] m) : ok 3 22 0 [some (.inr (.inr (some 2010))), some (.inl 3)] [] m Q := by
  refine ok_sg (pc' := 15) (ls' := [some (.inr (.inr (some 2010))), some (.inl 3)]) (st' := [.inl 110]) (m' := m) (fun fx hfx o hk => ?_) ?_
  · refine r_ld (pc' := 1) hM_22 d_22_0 rfl rfl ?_
    refine r_cl (pc' := 4) (c := (23, 0)) (a := [.inr (.inr (some 2010))]) (q := []) hM_22 d_22_1 rfl (by decide +kernel) hM_23 rfl rfl rfl (Nat.le_of_ble_eq_true rfl) (Nat.le_of_ble_eq_true rfl) (Or.inr rfl) (ok_rnk (sl_10 (m := m)) hfx) (Nat.le_of_ble_eq_true rfl) ?_
    show rn fx 3 (0, 0) 22 4 [some (.inr (.inr (some 2010))), some (.inl 3)] [.inl 1] (st0 m) o
    refine r_if (pc' := 16) (pc2 := 7) hM_22 d_22_4 (by decide) rfl (fun hc => absurd hc (show ¬ (am_s 1 = 0) by decide)) (fun _ => ?_)
    refine r_ld (pc' := 8) hM_22 d_22_7 rfl rfl ?_
    refine r_gF (pc' := 11) (v := .inr (.inr (some 3010))) hM_22 d_22_8 rfl (by decide) (by decide +kernel) ?_
    refine r_ld (pc' := 12) hM_22 d_22_11 rfl rfl ?_
    refine r_cl (pc' := 15) (c := (24, 2)) (a := [.inr (.inr (some 3010)), .inl 3]) (q := []) hM_22 d_22_12 rfl (by decide +kernel) hM_24 rfl rfl rfl (Nat.le_of_ble_eq_true rfl) (Nat.le_of_ble_eq_true rfl) (Or.inl rfl) (ok_rnk (sb_10_3 (m := m)) hfx) (Nat.le_of_ble_eq_true rfl) ?_
    show rn fx 3 (0, 0) 22 15 [some (.inr (.inr (some 2010))), some (.inl 3)] [.inl 110] (st0 m) o
    exact hk
  exact ok_rt (fun fx _ => rt_n hM_22 d_22_15 rfl (by decide) (by decide +kernel)) H
theorem sa_10_3 {m : am_M} : ok 3 22 0 (am_ent 2 [.inr (.inr (some 2010)), .inl 3]) [] m (fun rr m' => rr = [.inl 110] ∧ m' = m) := usa_10_3 ⟨rfl, rfl⟩
theorem usa_10_4 {Q : List am_V → am_M → Prop} {m : am_M}   (H : Q [.inl 101] m) : ok 3 22 0 [some (.inr (.inr (some 2010))), some (.inl 4)] [] m Q := by
  refine ok_sg (pc' := 15) (ls' := [some (.inr (.inr (some 2010))), some (.inl 4)]) (st' := [.inl 101]) (m' := m) (fun fx hfx o hk => ?_) ?_
  · refine r_ld (pc' := 1) hM_22 d_22_0 rfl rfl ?_
    refine r_cl (pc' := 4) (c := (23, 0)) (a := [.inr (.inr (some 2010))]) (q := []) hM_22 d_22_1 rfl (by decide +kernel) hM_23 rfl rfl rfl (Nat.le_of_ble_eq_true rfl) (Nat.le_of_ble_eq_true rfl) (Or.inr rfl) (ok_rnk (sl_10 (m := m)) hfx) (Nat.le_of_ble_eq_true rfl) ?_
    show rn fx 3 (0, 0) 22 4 [some (.inr (.inr (some 2010))), some (.inl 4)] [.inl 1] (st0 m) o
    refine r_if (pc' := 16) (pc2 := 7) hM_22 d_22_4 (by decide) rfl (fun hc => absurd hc (show ¬ (am_s 1 = 0) by decide)) (fun _ => ?_)
    refine r_ld (pc' := 8) hM_22 d_22_7 rfl rfl ?_
    refine r_gF (pc' := 11) (v := .inr (.inr (some 3010))) hM_22 d_22_8 rfl (by decide) (by decide +kernel) ?_
    refine r_ld (pc' := 12) hM_22 d_22_11 rfl rfl ?_
    refine r_cl (pc' := 15) (c := (24, 2)) (a := [.inr (.inr (some 3010)), .inl 4]) (q := []) hM_22 d_22_12 rfl (by decide +kernel) hM_24 rfl rfl rfl (Nat.le_of_ble_eq_true rfl) (Nat.le_of_ble_eq_true rfl) (Or.inl rfl) (ok_rnk (sb_10_4 (m := m)) hfx) (Nat.le_of_ble_eq_true rfl) ?_
    show rn fx 3 (0, 0) 22 15 [some (.inr (.inr (some 2010))), some (.inl 4)] [.inl 101] (st0 m) o
    exact hk
  exact ok_rt (fun fx _ => rt_n hM_22 d_22_15 rfl (by decide) (by decide +kernel)) H
theorem sa_10_4 {m : am_M} : ok 3 22 0 (am_ent 2 [.inr (.inr (some 2010)), .inl 4]) [] m (fun rr m' => rr = [.inl 101] ∧ m' = m) := usa_10_4 ⟨rfl, rfl⟩
theorem usa_10_5 {Q : List am_V → am_M → Prop} {m : am_M}   (H : Q [.inl 115] m) : ok 3 22 0 [some (.inr (.inr (some 2010))), some (.inl 5)] [] m Q := by
  refine ok_sg (pc' := 15) (ls' := [some (.inr (.inr (some 2010))), some (.inl 5)]) (st' := [.inl 115]) (m' := m) (fun fx hfx o hk => ?_) ?_
  · refine r_ld (pc' := 1) hM_22 d_22_0 rfl rfl ?_
    refine r_cl (pc' := 4) (c := (23, 0)) (a := [.inr (.inr (some 2010))]) (q := []) hM_22 d_22_1 rfl (by decide +kernel) hM_23 rfl rfl rfl (Nat.le_of_ble_eq_true rfl) (Nat.le_of_ble_eq_true rfl) (Or.inr rfl) (ok_rnk (sl_10 (m := m)) hfx) (Nat.le_of_ble_eq_true rfl) ?_
    show rn fx 3 (0, 0) 22 4 [some (.inr (.inr (some 2010))), some (.inl 5)] [.inl 1] (st0 m) o
    refine r_if (pc' := 16) (pc2 := 7) hM_22 d_22_4 (by decide) rfl (fun hc => absurd hc (show ¬ (am_s 1 = 0) by decide)) (fun _ => ?_)
    refine r_ld (pc' := 8) hM_22 d_22_7 rfl rfl ?_
    refine r_gF (pc' := 11) (v := .inr (.inr (some 3010))) hM_22 d_22_8 rfl (by decide) (by decide +kernel) ?_
    refine r_ld (pc' := 12) hM_22 d_22_11 rfl rfl ?_
    refine r_cl (pc' := 15) (c := (24, 2)) (a := [.inr (.inr (some 3010)), .inl 5]) (q := []) hM_22 d_22_12 rfl (by decide +kernel) hM_24 rfl rfl rfl (Nat.le_of_ble_eq_true rfl) (Nat.le_of_ble_eq_true rfl) (Or.inl rfl) (ok_rnk (sb_10_5 (m := m)) hfx) (Nat.le_of_ble_eq_true rfl) ?_
    show rn fx 3 (0, 0) 22 15 [some (.inr (.inr (some 2010))), some (.inl 5)] [.inl 115] (st0 m) o
    exact hk
  exact ok_rt (fun fx _ => rt_n hM_22 d_22_15 rfl (by decide) (by decide +kernel)) H
theorem sa_10_5 {m : am_M} : ok 3 22 0 (am_ent 2 [.inr (.inr (some 2010)), .inl 5]) [] m (fun rr m' => rr = [.inl 115] ∧ m' = m) := usa_10_5 ⟨rfl, rfl⟩
theorem usa_11_0 {Q : List am_V → am_M → Prop} {m : am_M}   (H : Q [.inl 32] m) : ok 3 22 0 [some (.inr (.inr (some 2011))), some (.inl 0)] [] m Q := by
  refine ok_sg (pc' := 15) (ls' := [some (.inr (.inr (some 2011))), some (.inl 0)]) (st' := [.inl 32]) (m' := m) (fun fx hfx o hk => ?_) ?_
  · refine r_ld (pc' := 1) hM_22 d_22_0 rfl rfl ?_
    refine r_cl (pc' := 4) (c := (23, 0)) (a := [.inr (.inr (some 2011))]) (q := []) hM_22 d_22_1 rfl (by decide +kernel) hM_23 rfl rfl rfl (Nat.le_of_ble_eq_true rfl) (Nat.le_of_ble_eq_true rfl) (Or.inr rfl) (ok_rnk (sl_11 (m := m)) hfx) (Nat.le_of_ble_eq_true rfl) ?_
    show rn fx 3 (0, 0) 22 4 [some (.inr (.inr (some 2011))), some (.inl 0)] [.inl 1] (st0 m) o
    refine r_if (pc' := 16) (pc2 := 7) hM_22 d_22_4 (by decide) rfl (fun hc => absurd hc (show ¬ (am_s 1 = 0) by decide)) (fun _ => ?_)
    refine r_ld (pc' := 8) hM_22 d_22_7 rfl rfl ?_
    refine r_gF (pc' := 11) (v := .inr (.inr (some 3011))) hM_22 d_22_8 rfl (by decide) (by decide +kernel) ?_
    refine r_ld (pc' := 12) hM_22 d_22_11 rfl rfl ?_
    refine r_cl (pc' := 15) (c := (24, 2)) (a := [.inr (.inr (some 3011)), .inl 0]) (q := []) hM_22 d_22_12 rfl (by decide +kernel) hM_24 rfl rfl rfl (Nat.le_of_ble_eq_true rfl) (Nat.le_of_ble_eq_true rfl) (Or.inl rfl) (ok_rnk (sb_11_0 (m := m)) hfx) (Nat.le_of_ble_eq_true rfl) ?_
    show rn fx 3 (0, 0) 22 15 [some (.inr (.inr (some 2011))), some (.inl 0)] [.inl 32] (st0 m) o
    exact hk
  exact ok_rt (fun fx _ => rt_n hM_22 d_22_15 rfl (by decide) (by decide +kernel)) H
theorem sa_11_0 {m : am_M} : ok 3 22 0 (am_ent 2 [.inr (.inr (some 2011)), .inl 0]) [] m (fun rr m' => rr = [.inl 32] ∧ m' = m) := usa_11_0 ⟨rfl, rfl⟩
theorem usa_11_1 {Q : List am_V → am_M → Prop} {m : am_M}   (H : Q [.inl 98] m) : ok 3 22 0 [some (.inr (.inr (some 2011))), some (.inl 1)] [] m Q := by
  refine ok_sg (pc' := 15) (ls' := [some (.inr (.inr (some 2011))), some (.inl 1)]) (st' := [.inl 98]) (m' := m) (fun fx hfx o hk => ?_) ?_
  · refine r_ld (pc' := 1) hM_22 d_22_0 rfl rfl ?_
    refine r_cl (pc' := 4) (c := (23, 0)) (a := [.inr (.inr (some 2011))]) (q := []) hM_22 d_22_1 rfl (by decide +kernel) hM_23 rfl rfl rfl (Nat.le_of_ble_eq_true rfl) (Nat.le_of_ble_eq_true rfl) (Or.inr rfl) (ok_rnk (sl_11 (m := m)) hfx) (Nat.le_of_ble_eq_true rfl) ?_
    show rn fx 3 (0, 0) 22 4 [some (.inr (.inr (some 2011))), some (.inl 1)] [.inl 1] (st0 m) o
    refine r_if (pc' := 16) (pc2 := 7) hM_22 d_22_4 (by decide) rfl (fun hc => absurd hc (show ¬ (am_s 1 = 0) by decide)) (fun _ => ?_)
    refine r_ld (pc' := 8) hM_22 d_22_7 rfl rfl ?_
    refine r_gF (pc' := 11) (v := .inr (.inr (some 3011))) hM_22 d_22_8 rfl (by decide) (by decide +kernel) ?_
    refine r_ld (pc' := 12) hM_22 d_22_11 rfl rfl ?_
    refine r_cl (pc' := 15) (c := (24, 2)) (a := [.inr (.inr (some 3011)), .inl 1]) (q := []) hM_22 d_22_12 rfl (by decide +kernel) hM_24 rfl rfl rfl (Nat.le_of_ble_eq_true rfl) (Nat.le_of_ble_eq_true rfl) (Or.inl rfl) (ok_rnk (sb_11_1 (m := m)) hfx) (Nat.le_of_ble_eq_true rfl) ?_
    show rn fx 3 (0, 0) 22 15 [some (.inr (.inr (some 2011))), some (.inl 1)] [.inl 98] (st0 m) o
    exact hk
  exact ok_rt (fun fx _ => rt_n hM_22 d_22_15 rfl (by decide) (by decide +kernel)) H
theorem sa_11_1 {m : am_M} : ok 3 22 0 (am_ent 2 [.inr (.inr (some 2011)), .inl 1]) [] m (fun rr m' => rr = [.inl 98] ∧ m' = m) := usa_11_1 ⟨rfl, rfl⟩
theorem usa_11_2 {Q : List am_V → am_M → Prop} {m : am_M}   (H : Q [.inl 97] m) : ok 3 22 0 [some (.inr (.inr (some 2011))), some (.inl 2)] [] m Q := by
  refine ok_sg (pc' := 15) (ls' := [some (.inr (.inr (some 2011))), some (.inl 2)]) (st' := [.inl 97]) (m' := m) (fun fx hfx o hk => ?_) ?_
  · refine r_ld (pc' := 1) hM_22 d_22_0 rfl rfl ?_
    refine r_cl (pc' := 4) (c := (23, 0)) (a := [.inr (.inr (some 2011))]) (q := []) hM_22 d_22_1 rfl (by decide +kernel) hM_23 rfl rfl rfl (Nat.le_of_ble_eq_true rfl) (Nat.le_of_ble_eq_true rfl) (Or.inr rfl) (ok_rnk (sl_11 (m := m)) hfx) (Nat.le_of_ble_eq_true rfl) ?_
    show rn fx 3 (0, 0) 22 4 [some (.inr (.inr (some 2011))), some (.inl 2)] [.inl 1] (st0 m) o
    refine r_if (pc' := 16) (pc2 := 7) hM_22 d_22_4 (by decide) rfl (fun hc => absurd hc (show ¬ (am_s 1 = 0) by decide)) (fun _ => ?_)
    refine r_ld (pc' := 8) hM_22 d_22_7 rfl rfl ?_
    refine r_gF (pc' := 11) (v := .inr (.inr (some 3011))) hM_22 d_22_8 rfl (by decide) (by decide +kernel) ?_
    refine r_ld (pc' := 12) hM_22 d_22_11 rfl rfl ?_
    refine r_cl (pc' := 15) (c := (24, 2)) (a := [.inr (.inr (some 3011)), .inl 2]) (q := []) hM_22 d_22_12 rfl (by decide +kernel) hM_24 rfl rfl rfl (Nat.le_of_ble_eq_true rfl) (Nat.le_of_ble_eq_true rfl) (Or.inl rfl) (ok_rnk (sb_11_2 (m := m)) hfx) (Nat.le_of_ble_eq_true rfl) ?_
    show rn fx 3 (0, 0) 22 15 [some (.inr (.inr (some 2011))), some (.inl 2)] [.inl 97] (st0 m) o
    exact hk
  exact ok_rt (fun fx _ => rt_n hM_22 d_22_15 rfl (by decide) (by decide +kernel)) H
theorem sa_11_2 {m : am_M} : ok 3 22 0 (am_ent 2 [.inr (.inr (some 2011)), .inl 2]) [] m (fun rr m' => rr = [.inl 97] ∧ m' = m) := usa_11_2 ⟨rfl, rfl⟩
theorem usa_11_3 {Q : List am_V → am_M → Prop} {m : am_M}   (H : Q [.inl 114] m) : ok 3 22 0 [some (.inr (.inr (some 2011))), some (.inl 3)] [] m Q := by
  refine ok_sg (pc' := 15) (ls' := [some (.inr (.inr (some 2011))), some (.inl 3)]) (st' := [.inl 114]) (m' := m) (fun fx hfx o hk => ?_) ?_
  · refine r_ld (pc' := 1) hM_22 d_22_0 rfl rfl ?_
    refine r_cl (pc' := 4) (c := (23, 0)) (a := [.inr (.inr (some 2011))]) (q := []) hM_22 d_22_1 rfl (by decide +kernel) hM_23 rfl rfl rfl (Nat.le_of_ble_eq_true rfl) (Nat.le_of_ble_eq_true rfl) (Or.inr rfl) (ok_rnk (sl_11 (m := m)) hfx) (Nat.le_of_ble_eq_true rfl) ?_
    show rn fx 3 (0, 0) 22 4 [some (.inr (.inr (some 2011))), some (.inl 3)] [.inl 1] (st0 m) o
    refine r_if (pc' := 16) (pc2 := 7) hM_22 d_22_4 (by decide) rfl (fun hc => absurd hc (show ¬ (am_s 1 = 0) by decide)) (fun _ => ?_)
    refine r_ld (pc' := 8) hM_22 d_22_7 rfl rfl ?_
    refine r_gF (pc' := 11) (v := .inr (.inr (some 3011))) hM_22 d_22_8 rfl (by decide) (by decide +kernel) ?_
    refine r_ld (pc' := 12) hM_22 d_22_11 rfl rfl ?_
    refine r_cl (pc' := 15) (c := (24, 2)) (a := [.inr (.inr (some 3011)), .inl 3]) (q := []) hM_22 d_22_12 rfl (by decide +kernel) hM_24 rfl rfl rfl (Nat.le_of_ble_eq_true rfl) (Nat.le_of_ble_eq_true rfl) (Or.inl rfl) (ok_rnk (sb_11_3 (m := m)) hfx) (Nat.le_of_ble_eq_true rfl) ?_
    show rn fx 3 (0, 0) 22 15 [some (.inr (.inr (some 2011))), some (.inl 3)] [.inl 114] (st0 m) o
    exact hk
  exact ok_rt (fun fx _ => rt_n hM_22 d_22_15 rfl (by decide) (by decide +kernel)) H
theorem sa_11_3 {m : am_M} : ok 3 22 0 (am_ent 2 [.inr (.inr (some 2011)), .inl 3]) [] m (fun rr m' => rr = [.inl 114] ∧ m' = m) := usa_11_3 ⟨rfl, rfl⟩
theorem usa_11_4 {Q : List am_V → am_M → Prop} {m : am_M}   (H : Q [.inl 114] m) : ok 3 22 0 [some (.inr (.inr (some 2011))), some (.inl 4)] [] m Q := by
  refine ok_sg (pc' := 15) (ls' := [some (.inr (.inr (some 2011))), some (.inl 4)]) (st' := [.inl 114]) (m' := m) (fun fx hfx o hk => ?_) ?_
  · refine r_ld (pc' := 1) hM_22 d_22_0 rfl rfl ?_
    refine r_cl (pc' := 4) (c := (23, 0)) (a := [.inr (.inr (some 2011))]) (q := []) hM_22 d_22_1 rfl (by decide +kernel) hM_23 rfl rfl rfl (Nat.le_of_ble_eq_true rfl) (Nat.le_of_ble_eq_true rfl) (Or.inr rfl) (ok_rnk (sl_11 (m := m)) hfx) (Nat.le_of_ble_eq_true rfl) ?_
    show rn fx 3 (0, 0) 22 4 [some (.inr (.inr (some 2011))), some (.inl 4)] [.inl 1] (st0 m) o
    refine r_if (pc' := 16) (pc2 := 7) hM_22 d_22_4 (by decide) rfl (fun hc => absurd hc (show ¬ (am_s 1 = 0) by decide)) (fun _ => ?_)
    refine r_ld (pc' := 8) hM_22 d_22_7 rfl rfl ?_
    refine r_gF (pc' := 11) (v := .inr (.inr (some 3011))) hM_22 d_22_8 rfl (by decide) (by decide +kernel) ?_
    refine r_ld (pc' := 12) hM_22 d_22_11 rfl rfl ?_
    refine r_cl (pc' := 15) (c := (24, 2)) (a := [.inr (.inr (some 3011)), .inl 4]) (q := []) hM_22 d_22_12 rfl (by decide +kernel) hM_24 rfl rfl rfl (Nat.le_of_ble_eq_true rfl) (Nat.le_of_ble_eq_true rfl) (Or.inl rfl) (ok_rnk (sb_11_4 (m := m)) hfx) (Nat.le_of_ble_eq_true rfl) ?_
    show rn fx 3 (0, 0) 22 15 [some (.inr (.inr (some 2011))), some (.inl 4)] [.inl 114] (st0 m) o
    exact hk
  exact ok_rt (fun fx _ => rt_n hM_22 d_22_15 rfl (by decide) (by decide +kernel)) H
theorem sa_11_4 {m : am_M} : ok 3 22 0 (am_ent 2 [.inr (.inr (some 2011)), .inl 4]) [] m (fun rr m' => rr = [.inl 114] ∧ m' = m) := usa_11_4 ⟨rfl, rfl⟩
theorem usa_11_5 {Q : List am_V → am_M → Prop} {m : am_M}   (H : Q [.inl 101] m) : ok 3 22 0 [some (.inr (.inr (some 2011))), some (.inl 5)] [] m Q := by
  refine ok_sg (pc' := 15) (ls' := [some (.inr (.inr (some 2011))), some (.inl 5)]) (st' := [.inl 101]) (m' := m) (fun fx hfx o hk => ?_) ?_
  · refine r_ld (pc' := 1) hM_22 d_22_0 rfl rfl ?_
    refine r_cl (pc' := 4) (c := (23, 0)) (a := [.inr (.inr (some 2011))]) (q := []) hM_22 d_22_1 rfl (by decide +kernel) hM_23 rfl rfl rfl (Nat.le_of_ble_eq_true rfl) (Nat.le_of_ble_eq_true rfl) (Or.inr rfl) (ok_rnk (sl_11 (m := m)) hfx) (Nat.le_of_ble_eq_true rfl) ?_
    show rn fx 3 (0, 0) 22 4 [some (.inr (.inr (some 2011))), some (.inl 5)] [.inl 1] (st0 m) o
    refine r_if (pc' := 16) (pc2 := 7) hM_22 d_22_4 (by decide) rfl (fun hc => absurd hc (show ¬ (am_s 1 = 0) by decide)) (fun _ => ?_)
    refine r_ld (pc' := 8) hM_22 d_22_7 rfl rfl ?_
    refine r_gF (pc' := 11) (v := .inr (.inr (some 3011))) hM_22 d_22_8 rfl (by decide) (by decide +kernel) ?_
    refine r_ld (pc' := 12) hM_22 d_22_11 rfl rfl ?_
    refine r_cl (pc' := 15) (c := (24, 2)) (a := [.inr (.inr (some 3011)), .inl 5]) (q := []) hM_22 d_22_12 rfl (by decide +kernel) hM_24 rfl rfl rfl (Nat.le_of_ble_eq_true rfl) (Nat.le_of_ble_eq_true rfl) (Or.inl rfl) (ok_rnk (sb_11_5 (m := m)) hfx) (Nat.le_of_ble_eq_true rfl) ?_
    show rn fx 3 (0, 0) 22 15 [some (.inr (.inr (some 2011))), some (.inl 5)] [.inl 101] (st0 m) o
    exact hk
  exact ok_rt (fun fx _ => rt_n hM_22 d_22_15 rfl (by decide) (by decide +kernel)) H
theorem sa_11_5 {m : am_M} : ok 3 22 0 (am_ent 2 [.inr (.inr (some 2011)), .inl 5]) [] m (fun rr m' => rr = [.inl 101] ∧ m' = m) := usa_11_5 ⟨rfl, rfl⟩
theorem usa_11_6 {Q : List am_V → am_M → Prop} {m : am_M}   (H : Q [.inl 108] m) : ok 3 22 0 [some (.inr (.inr (some 2011))), some (.inl 6)] [] m Q := by
  refine ok_sg (pc' := 15) (ls' := [some (.inr (.inr (some 2011))), some (.inl 6)]) (st' := [.inl 108]) (m' := m) (fun fx hfx o hk => ?_) ?_
  · refine r_ld (pc' := 1) hM_22 d_22_0 rfl rfl ?_
    refine r_cl (pc' := 4) (c := (23, 0)) (a := [.inr (.inr (some 2011))]) (q := []) hM_22 d_22_1 rfl (by decide +kernel) hM_23 rfl rfl rfl (Nat.le_of_ble_eq_true rfl) (Nat.le_of_ble_eq_true rfl) (Or.inr rfl) (ok_rnk (sl_11 (m := m)) hfx) (Nat.le_of_ble_eq_true rfl) ?_
    show rn fx 3 (0, 0) 22 4 [some (.inr (.inr (some 2011))), some (.inl 6)] [.inl 1] (st0 m) o
    refine r_if (pc' := 16) (pc2 := 7) hM_22 d_22_4 (by decide) rfl (fun hc => absurd hc (show ¬ (am_s 1 = 0) by decide)) (fun _ => ?_)
    refine r_ld (pc' := 8) hM_22 d_22_7 rfl rfl ?_
    refine r_gF (pc' := 11) (v := .inr (.inr (some 3011))) hM_22 d_22_8 rfl (by decide) (by decide +kernel) ?_
    refine r_ld (pc' := 12) hM_22 d_22_11 rfl rfl ?_
    refine r_cl (pc' := 15) (c := (24, 2)) (a := [.inr (.inr (some 3011)), .inl 6]) (q := []) hM_22 d_22_12 rfl (by decide +kernel) hM_24 rfl rfl rfl (Nat.le_of_ble_eq_true rfl) (Nat.le_of_ble_eq_true rfl) (Or.inl rfl) (ok_rnk (sb_11_6 (m := m)) hfx) (Nat.le_of_ble_eq_true rfl) ?_
    show rn fx 3 (0, 0) 22 15 [some (.inr (.inr (some 2011))), some (.inl 6)] [.inl 108] (st0 m) o
    exact hk
  exact ok_rt (fun fx _ => rt_n hM_22 d_22_15 rfl (by decide) (by decide +kernel)) H
theorem sa_11_6 {m : am_M} : ok 3 22 0 (am_ent 2 [.inr (.inr (some 2011)), .inl 6]) [] m (fun rr m' => rr = [.inl 108] ∧ m' = m) := usa_11_6 ⟨rfl, rfl⟩
theorem usa_11_7 {Q : List am_V → am_M → Prop} {m : am_M}   (H : Q [.inl 32] m) : ok 3 22 0 [some (.inr (.inr (some 2011))), some (.inl 7)] [] m Q := by
  refine ok_sg (pc' := 15) (ls' := [some (.inr (.inr (some 2011))), some (.inl 7)]) (st' := [.inl 32]) (m' := m) (fun fx hfx o hk => ?_) ?_
  · refine r_ld (pc' := 1) hM_22 d_22_0 rfl rfl ?_
    refine r_cl (pc' := 4) (c := (23, 0)) (a := [.inr (.inr (some 2011))]) (q := []) hM_22 d_22_1 rfl (by decide +kernel) hM_23 rfl rfl rfl (Nat.le_of_ble_eq_true rfl) (Nat.le_of_ble_eq_true rfl) (Or.inr rfl) (ok_rnk (sl_11 (m := m)) hfx) (Nat.le_of_ble_eq_true rfl) ?_
    show rn fx 3 (0, 0) 22 4 [some (.inr (.inr (some 2011))), some (.inl 7)] [.inl 1] (st0 m) o
    refine r_if (pc' := 16) (pc2 := 7) hM_22 d_22_4 (by decide) rfl (fun hc => absurd hc (show ¬ (am_s 1 = 0) by decide)) (fun _ => ?_)
    refine r_ld (pc' := 8) hM_22 d_22_7 rfl rfl ?_
    refine r_gF (pc' := 11) (v := .inr (.inr (some 3011))) hM_22 d_22_8 rfl (by decide) (by decide +kernel) ?_
    refine r_ld (pc' := 12) hM_22 d_22_11 rfl rfl ?_
    refine r_cl (pc' := 15) (c := (24, 2)) (a := [.inr (.inr (some 3011)), .inl 7]) (q := []) hM_22 d_22_12 rfl (by decide +kernel) hM_24 rfl rfl rfl (Nat.le_of_ble_eq_true rfl) (Nat.le_of_ble_eq_true rfl) (Or.inl rfl) (ok_rnk (sb_11_7 (m := m)) hfx) (Nat.le_of_ble_eq_true rfl) ?_
    show rn fx 3 (0, 0) 22 15 [some (.inr (.inr (some 2011))), some (.inl 7)] [.inl 32] (st0 m) o
    exact hk
  exact ok_rt (fun fx _ => rt_n hM_22 d_22_15 rfl (by decide) (by decide +kernel)) H
theorem sa_11_7 {m : am_M} : ok 3 22 0 (am_ent 2 [.inr (.inr (some 2011)), .inl 7]) [] m (fun rr m' => rr = [.inl 32] ∧ m' = m) := usa_11_7 ⟨rfl, rfl⟩
theorem usa_11_8 {Q : List am_V → am_M → Prop} {m : am_M}   (H : Q [.inl 114] m) : ok 3 22 0 [some (.inr (.inr (some 2011))), some (.inl 8)] [] m Q := by
  refine ok_sg (pc' := 15) (ls' := [some (.inr (.inr (some 2011))), some (.inl 8)]) (st' := [.inl 114]) (m' := m) (fun fx hfx o hk => ?_) ?_
  · refine r_ld (pc' := 1) hM_22 d_22_0 rfl rfl ?_
    refine r_cl (pc' := 4) (c := (23, 0)) (a := [.inr (.inr (some 2011))]) (q := []) hM_22 d_22_1 rfl (by decide +kernel) hM_23 rfl rfl rfl (Nat.le_of_ble_eq_true rfl) (Nat.le_of_ble_eq_true rfl) (Or.inr rfl) (ok_rnk (sl_11 (m := m)) hfx) (Nat.le_of_ble_eq_true rfl) ?_
    show rn fx 3 (0, 0) 22 4 [some (.inr (.inr (some 2011))), some (.inl 8)] [.inl 1] (st0 m) o
    refine r_if (pc' := 16) (pc2 := 7) hM_22 d_22_4 (by decide) rfl (fun hc => absurd hc (show ¬ (am_s 1 = 0) by decide)) (fun _ => ?_)
    refine r_ld (pc' := 8) hM_22 d_22_7 rfl rfl ?_
    refine r_gF (pc' := 11) (v := .inr (.inr (some 3011))) hM_22 d_22_8 rfl (by decide) (by decide +kernel) ?_
    refine r_ld (pc' := 12) hM_22 d_22_11 rfl rfl ?_
    refine r_cl (pc' := 15) (c := (24, 2)) (a := [.inr (.inr (some 3011)), .inl 8]) (q := []) hM_22 d_22_12 rfl (by decide +kernel) hM_24 rfl rfl rfl (Nat.le_of_ble_eq_true rfl) (Nat.le_of_ble_eq_true rfl) (Or.inl rfl) (ok_rnk (sb_11_8 (m := m)) hfx) (Nat.le_of_ble_eq_true rfl) ?_
    show rn fx 3 (0, 0) 22 15 [some (.inr (.inr (some 2011))), some (.inl 8)] [.inl 114] (st0 m) o
    exact hk
  exact ok_rt (fun fx _ => rt_n hM_22 d_22_15 rfl (by decide) (by decide +kernel)) H
theorem sa_11_8 {m : am_M} : ok 3 22 0 (am_ent 2 [.inr (.inr (some 2011)), .inl 8]) [] m (fun rr m' => rr = [.inl 114] ∧ m' = m) := usa_11_8 ⟨rfl, rfl⟩
theorem usa_11_9 {Q : List am_V → am_M → Prop} {m : am_M}   (H : Q [.inl 105] m) : ok 3 22 0 [some (.inr (.inr (some 2011))), some (.inl 9)] [] m Q := by
  refine ok_sg (pc' := 15) (ls' := [some (.inr (.inr (some 2011))), some (.inl 9)]) (st' := [.inl 105]) (m' := m) (fun fx hfx o hk => ?_) ?_
  · refine r_ld (pc' := 1) hM_22 d_22_0 rfl rfl ?_
    refine r_cl (pc' := 4) (c := (23, 0)) (a := [.inr (.inr (some 2011))]) (q := []) hM_22 d_22_1 rfl (by decide +kernel) hM_23 rfl rfl rfl (Nat.le_of_ble_eq_true rfl) (Nat.le_of_ble_eq_true rfl) (Or.inr rfl) (ok_rnk (sl_11 (m := m)) hfx) (Nat.le_of_ble_eq_true rfl) ?_
    show rn fx 3 (0, 0) 22 4 [some (.inr (.inr (some 2011))), some (.inl 9)] [.inl 1] (st0 m) o
    refine r_if (pc' := 16) (pc2 := 7) hM_22 d_22_4 (by decide) rfl (fun hc => absurd hc (show ¬ (am_s 1 = 0) by decide)) (fun _ => ?_)
    refine r_ld (pc' := 8) hM_22 d_22_7 rfl rfl ?_
    refine r_gF (pc' := 11) (v := .inr (.inr (some 3011))) hM_22 d_22_8 rfl (by decide) (by decide +kernel) ?_
    refine r_ld (pc' := 12) hM_22 d_22_11 rfl rfl ?_
    refine r_cl (pc' := 15) (c := (24, 2)) (a := [.inr (.inr (some 3011)), .inl 9]) (q := []) hM_22 d_22_12 rfl (by decide +kernel) hM_24 rfl rfl rfl (Nat.le_of_ble_eq_true rfl) (Nat.le_of_ble_eq_true rfl) (Or.inl rfl) (ok_rnk (sb_11_9 (m := m)) hfx) (Nat.le_of_ble_eq_true rfl) ?_
    show rn fx 3 (0, 0) 22 15 [some (.inr (.inr (some 2011))), some (.inl 9)] [.inl 105] (st0 m) o
    exact hk
  exact ok_rt (fun fx _ => rt_n hM_22 d_22_15 rfl (by decide) (by decide +kernel)) H
theorem sa_11_9 {m : am_M} : ok 3 22 0 (am_ent 2 [.inr (.inr (some 2011)), .inl 9]) [] m (fun rr m' => rr = [.inl 105] ∧ m' = m) := usa_11_9 ⟨rfl, rfl⟩
theorem usa_11_10 {Q : List am_V → am_M → Prop} {m : am_M}   (H : Q [.inl 112] m) : ok 3 22 0 [some (.inr (.inr (some 2011))), some (.inl 10)] [] m Q := by
  refine ok_sg (pc' := 15) (ls' := [some (.inr (.inr (some 2011))), some (.inl 10)]) (st' := [.inl 112]) (m' := m) (fun fx hfx o hk => ?_) ?_
  · refine r_ld (pc' := 1) hM_22 d_22_0 rfl rfl ?_
    refine r_cl (pc' := 4) (c := (23, 0)) (a := [.inr (.inr (some 2011))]) (q := []) hM_22 d_22_1 rfl (by decide +kernel) hM_23 rfl rfl rfl (Nat.le_of_ble_eq_true rfl) (Nat.le_of_ble_eq_true rfl) (Or.inr rfl) (ok_rnk (sl_11 (m := m)) hfx) (Nat.le_of_ble_eq_true rfl) ?_
    show rn fx 3 (0, 0) 22 4 [some (.inr (.inr (some 2011))), some (.inl 10)] [.inl 1] (st0 m) o
    refine r_if (pc' := 16) (pc2 := 7) hM_22 d_22_4 (by decide) rfl (fun hc => absurd hc (show ¬ (am_s 1 = 0) by decide)) (fun _ => ?_)
    refine r_ld (pc' := 8) hM_22 d_22_7 rfl rfl ?_
    refine r_gF (pc' := 11) (v := .inr (.inr (some 3011))) hM_22 d_22_8 rfl (by decide) (by decide +kernel) ?_
    refine r_ld (pc' := 12) hM_22 d_22_11 rfl rfl ?_
    refine r_cl (pc' := 15) (c := (24, 2)) (a := [.inr (.inr (some 3011)), .inl 10]) (q := []) hM_22 d_22_12 rfl (by decide +kernel) hM_24 rfl rfl rfl (Nat.le_of_ble_eq_true rfl) (Nat.le_of_ble_eq_true rfl) (Or.inl rfl) (ok_rnk (sb_11_10 (m := m)) hfx) (Nat.le_of_ble_eq_true rfl) ?_
    show rn fx 3 (0, 0) 22 15 [some (.inr (.inr (some 2011))), some (.inl 10)] [.inl 112] (st0 m) o
    exact hk
  exact ok_rt (fun fx _ => rt_n hM_22 d_22_15 rfl (by decide) (by decide +kernel)) H
theorem sa_11_10 {m : am_M} : ok 3 22 0 (am_ent 2 [.inr (.inr (some 2011)), .inl 10]) [] m (fun rr m' => rr = [.inl 112] ∧ m' = m) := usa_11_10 ⟨rfl, rfl⟩
theorem usa_11_11 {Q : List am_V → am_M → Prop} {m : am_M}   (H : Q [.inl 101] m) : ok 3 22 0 [some (.inr (.inr (some 2011))), some (.inl 11)] [] m Q := by
  refine ok_sg (pc' := 15) (ls' := [some (.inr (.inr (some 2011))), some (.inl 11)]) (st' := [.inl 101]) (m' := m) (fun fx hfx o hk => ?_) ?_
  · refine r_ld (pc' := 1) hM_22 d_22_0 rfl rfl ?_
    refine r_cl (pc' := 4) (c := (23, 0)) (a := [.inr (.inr (some 2011))]) (q := []) hM_22 d_22_1 rfl (by decide +kernel) hM_23 rfl rfl rfl (Nat.le_of_ble_eq_true rfl) (Nat.le_of_ble_eq_true rfl) (Or.inr rfl) (ok_rnk (sl_11 (m := m)) hfx) (Nat.le_of_ble_eq_true rfl) ?_
    show rn fx 3 (0, 0) 22 4 [some (.inr (.inr (some 2011))), some (.inl 11)] [.inl 1] (st0 m) o
    refine r_if (pc' := 16) (pc2 := 7) hM_22 d_22_4 (by decide) rfl (fun hc => absurd hc (show ¬ (am_s 1 = 0) by decide)) (fun _ => ?_)
    refine r_ld (pc' := 8) hM_22 d_22_7 rfl rfl ?_
    refine r_gF (pc' := 11) (v := .inr (.inr (some 3011))) hM_22 d_22_8 rfl (by decide) (by decide +kernel) ?_
    refine r_ld (pc' := 12) hM_22 d_22_11 rfl rfl ?_
    refine r_cl (pc' := 15) (c := (24, 2)) (a := [.inr (.inr (some 3011)), .inl 11]) (q := []) hM_22 d_22_12 rfl (by decide +kernel) hM_24 rfl rfl rfl (Nat.le_of_ble_eq_true rfl) (Nat.le_of_ble_eq_true rfl) (Or.inl rfl) (ok_rnk (sb_11_11 (m := m)) hfx) (Nat.le_of_ble_eq_true rfl) ?_
    show rn fx 3 (0, 0) 22 15 [some (.inr (.inr (some 2011))), some (.inl 11)] [.inl 101] (st0 m) o
    exact hk
  exact ok_rt (fun fx _ => rt_n hM_22 d_22_15 rfl (by decide) (by decide +kernel)) H
theorem sa_11_11 {m : am_M} : ok 3 22 0 (am_ent 2 [.inr (.inr (some 2011)), .inl 11]) [] m (fun rr m' => rr = [.inl 101] ∧ m' = m) := usa_11_11 ⟨rfl, rfl⟩
theorem usa_11_12 {Q : List am_V → am_M → Prop} {m : am_M}   (H : Q [.inl 32] m) : ok 3 22 0 [some (.inr (.inr (some 2011))), some (.inl 12)] [] m Q := by
  refine ok_sg (pc' := 15) (ls' := [some (.inr (.inr (some 2011))), some (.inl 12)]) (st' := [.inl 32]) (m' := m) (fun fx hfx o hk => ?_) ?_
  · refine r_ld (pc' := 1) hM_22 d_22_0 rfl rfl ?_
    refine r_cl (pc' := 4) (c := (23, 0)) (a := [.inr (.inr (some 2011))]) (q := []) hM_22 d_22_1 rfl (by decide +kernel) hM_23 rfl rfl rfl (Nat.le_of_ble_eq_true rfl) (Nat.le_of_ble_eq_true rfl) (Or.inr rfl) (ok_rnk (sl_11 (m := m)) hfx) (Nat.le_of_ble_eq_true rfl) ?_
    show rn fx 3 (0, 0) 22 4 [some (.inr (.inr (some 2011))), some (.inl 12)] [.inl 1] (st0 m) o
    refine r_if (pc' := 16) (pc2 := 7) hM_22 d_22_4 (by decide) rfl (fun hc => absurd hc (show ¬ (am_s 1 = 0) by decide)) (fun _ => ?_)
    refine r_ld (pc' := 8) hM_22 d_22_7 rfl rfl ?_
    refine r_gF (pc' := 11) (v := .inr (.inr (some 3011))) hM_22 d_22_8 rfl (by decide) (by decide +kernel) ?_
    refine r_ld (pc' := 12) hM_22 d_22_11 rfl rfl ?_
    refine r_cl (pc' := 15) (c := (24, 2)) (a := [.inr (.inr (some 3011)), .inl 12]) (q := []) hM_22 d_22_12 rfl (by decide +kernel) hM_24 rfl rfl rfl (Nat.le_of_ble_eq_true rfl) (Nat.le_of_ble_eq_true rfl) (Or.inl rfl) (ok_rnk (sb_11_12 (m := m)) hfx) (Nat.le_of_ble_eq_true rfl) ?_
    show rn fx 3 (0, 0) 22 15 [some (.inr (.inr (some 2011))), some (.inl 12)] [.inl 32] (st0 m) o
    exact hk
  exact ok_rt (fun fx _ => rt_n hM_22 d_22_15 rfl (by decide) (by decide +kernel)) H
theorem sa_11_12 {m : am_M} : ok 3 22 0 (am_ent 2 [.inr (.inr (some 2011)), .inl 12]) [] m (fun rr m' => rr = [.inl 32] ∧ m' = m) := usa_11_12 ⟨rfl, rfl⟩
theorem usa_11_13 {Q : List am_V → am_M → Prop} {m : am_M}   (H : Q [.inl 105] m) : ok 3 22 0 [some (.inr (.inr (some 2011))), some (.inl 13)] [] m Q := by
  refine ok_sg (pc' := 15) (ls' := [some (.inr (.inr (some 2011))), some (.inl 13)]) (st' := [.inl 105]) (m' := m) (fun fx hfx o hk => ?_) ?_
  · refine r_ld (pc' := 1) hM_22 d_22_0 rfl rfl ?_
    refine r_cl (pc' := 4) (c := (23, 0)) (a := [.inr (.inr (some 2011))]) (q := []) hM_22 d_22_1 rfl (by decide +kernel) hM_23 rfl rfl rfl (Nat.le_of_ble_eq_true rfl) (Nat.le_of_ble_eq_true rfl) (Or.inr rfl) (ok_rnk (sl_11 (m := m)) hfx) (Nat.le_of_ble_eq_true rfl) ?_
    show rn fx 3 (0, 0) 22 4 [some (.inr (.inr (some 2011))), some (.inl 13)] [.inl 1] (st0 m) o
    refine r_if (pc' := 16) (pc2 := 7) hM_22 d_22_4 (by decide) rfl (fun hc => absurd hc (show ¬ (am_s 1 = 0) by decide)) (fun _ => ?_)
    refine r_ld (pc' := 8) hM_22 d_22_7 rfl rfl ?_
    refine r_gF (pc' := 11) (v := .inr (.inr (some 3011))) hM_22 d_22_8 rfl (by decide) (by decide +kernel) ?_
    refine r_ld (pc' := 12) hM_22 d_22_11 rfl rfl ?_
    refine r_cl (pc' := 15) (c := (24, 2)) (a := [.inr (.inr (some 3011)), .inl 13]) (q := []) hM_22 d_22_12 rfl (by decide +kernel) hM_24 rfl rfl rfl (Nat.le_of_ble_eq_true rfl) (Nat.le_of_ble_eq_true rfl) (Or.inl rfl) (ok_rnk (sb_11_13 (m := m)) hfx) (Nat.le_of_ble_eq_true rfl) ?_
    show rn fx 3 (0, 0) 22 15 [some (.inr (.inr (some 2011))), some (.inl 13)] [.inl 105] (st0 m) o
    exact hk
  exact ok_rt (fun fx _ => rt_n hM_22 d_22_15 rfl (by decide) (by decide +kernel)) H
theorem sa_11_13 {m : am_M} : ok 3 22 0 (am_ent 2 [.inr (.inr (some 2011)), .inl 13]) [] m (fun rr m' => rr = [.inl 105] ∧ m' = m) := usa_11_13 ⟨rfl, rfl⟩
theorem usa_11_14 {Q : List am_V → am_M → Prop} {m : am_M}   (H : Q [.inl 100] m) : ok 3 22 0 [some (.inr (.inr (some 2011))), some (.inl 14)] [] m Q := by
  refine ok_sg (pc' := 15) (ls' := [some (.inr (.inr (some 2011))), some (.inl 14)]) (st' := [.inl 100]) (m' := m) (fun fx hfx o hk => ?_) ?_
  · refine r_ld (pc' := 1) hM_22 d_22_0 rfl rfl ?_
    refine r_cl (pc' := 4) (c := (23, 0)) (a := [.inr (.inr (some 2011))]) (q := []) hM_22 d_22_1 rfl (by decide +kernel) hM_23 rfl rfl rfl (Nat.le_of_ble_eq_true rfl) (Nat.le_of_ble_eq_true rfl) (Or.inr rfl) (ok_rnk (sl_11 (m := m)) hfx) (Nat.le_of_ble_eq_true rfl) ?_
    show rn fx 3 (0, 0) 22 4 [some (.inr (.inr (some 2011))), some (.inl 14)] [.inl 1] (st0 m) o
    refine r_if (pc' := 16) (pc2 := 7) hM_22 d_22_4 (by decide) rfl (fun hc => absurd hc (show ¬ (am_s 1 = 0) by decide)) (fun _ => ?_)
    refine r_ld (pc' := 8) hM_22 d_22_7 rfl rfl ?_
    refine r_gF (pc' := 11) (v := .inr (.inr (some 3011))) hM_22 d_22_8 rfl (by decide) (by decide +kernel) ?_
    refine r_ld (pc' := 12) hM_22 d_22_11 rfl rfl ?_
    refine r_cl (pc' := 15) (c := (24, 2)) (a := [.inr (.inr (some 3011)), .inl 14]) (q := []) hM_22 d_22_12 rfl (by decide +kernel) hM_24 rfl rfl rfl (Nat.le_of_ble_eq_true rfl) (Nat.le_of_ble_eq_true rfl) (Or.inl rfl) (ok_rnk (sb_11_14 (m := m)) hfx) (Nat.le_of_ble_eq_true rfl) ?_
    show rn fx 3 (0, 0) 22 15 [some (.inr (.inr (some 2011))), some (.inl 14)] [.inl 100] (st0 m) o
    exact hk
  exact ok_rt (fun fx _ => rt_n hM_22 d_22_15 rfl (by decide) (by decide +kernel)) H
theorem sa_11_14 {m : am_M} : ok 3 22 0 (am_ent 2 [.inr (.inr (some 2011)), .inl 14]) [] m (fun rr m' => rr = [.inl 100] ∧ m' = m) := usa_11_14 ⟨rfl, rfl⟩
theorem usa_11_15 {Q : List am_V → am_M → Prop} {m : am_M}   (H : Q [.inl 108] m) : ok 3 22 0 [some (.inr (.inr (some 2011))), some (.inl 15)] [] m Q := by
  refine ok_sg (pc' := 15) (ls' := [some (.inr (.inr (some 2011))), some (.inl 15)]) (st' := [.inl 108]) (m' := m) (fun fx hfx o hk => ?_) ?_
  · refine r_ld (pc' := 1) hM_22 d_22_0 rfl rfl ?_
    refine r_cl (pc' := 4) (c := (23, 0)) (a := [.inr (.inr (some 2011))]) (q := []) hM_22 d_22_1 rfl (by decide +kernel) hM_23 rfl rfl rfl (Nat.le_of_ble_eq_true rfl) (Nat.le_of_ble_eq_true rfl) (Or.inr rfl) (ok_rnk (sl_11 (m := m)) hfx) (Nat.le_of_ble_eq_true rfl) ?_
    show rn fx 3 (0, 0) 22 4 [some (.inr (.inr (some 2011))), some (.inl 15)] [.inl 1] (st0 m) o
    refine r_if (pc' := 16) (pc2 := 7) hM_22 d_22_4 (by decide) rfl (fun hc => absurd hc (show ¬ (am_s 1 = 0) by decide)) (fun _ => ?_)
    refine r_ld (pc' := 8) hM_22 d_22_7 rfl rfl ?_
    refine r_gF (pc' := 11) (v := .inr (.inr (some 3011))) hM_22 d_22_8 rfl (by decide) (by decide +kernel) ?_
    refine r_ld (pc' := 12) hM_22 d_22_11 rfl rfl ?_
    refine r_cl (pc' := 15) (c := (24, 2)) (a := [.inr (.inr (some 3011)), .inl 15]) (q := []) hM_22 d_22_12 rfl (by decide +kernel) hM_24 rfl rfl rfl (Nat.le_of_ble_eq_true rfl) (Nat.le_of_ble_eq_true rfl) (Or.inl rfl) (ok_rnk (sb_11_15 (m := m)) hfx) (Nat.le_of_ble_eq_true rfl) ?_
    show rn fx 3 (0, 0) 22 15 [some (.inr (.inr (some 2011))), some (.inl 15)] [.inl 108] (st0 m) o
    exact hk
  exact ok_rt (fun fx _ => rt_n hM_22 d_22_15 rfl (by decide) (by decide +kernel)) H
theorem sa_11_15 {m : am_M} : ok 3 22 0 (am_ent 2 [.inr (.inr (some 2011)), .inl 15]) [] m (fun rr m' => rr = [.inl 108] ∧ m' = m) := usa_11_15 ⟨rfl, rfl⟩
theorem usa_11_16 {Q : List am_V → am_M → Prop} {m : am_M}   (H : Q [.inl 101] m) : ok 3 22 0 [some (.inr (.inr (some 2011))), some (.inl 16)] [] m Q := by
  refine ok_sg (pc' := 15) (ls' := [some (.inr (.inr (some 2011))), some (.inl 16)]) (st' := [.inl 101]) (m' := m) (fun fx hfx o hk => ?_) ?_
  · refine r_ld (pc' := 1) hM_22 d_22_0 rfl rfl ?_
    refine r_cl (pc' := 4) (c := (23, 0)) (a := [.inr (.inr (some 2011))]) (q := []) hM_22 d_22_1 rfl (by decide +kernel) hM_23 rfl rfl rfl (Nat.le_of_ble_eq_true rfl) (Nat.le_of_ble_eq_true rfl) (Or.inr rfl) (ok_rnk (sl_11 (m := m)) hfx) (Nat.le_of_ble_eq_true rfl) ?_
    show rn fx 3 (0, 0) 22 4 [some (.inr (.inr (some 2011))), some (.inl 16)] [.inl 1] (st0 m) o
    refine r_if (pc' := 16) (pc2 := 7) hM_22 d_22_4 (by decide) rfl (fun hc => absurd hc (show ¬ (am_s 1 = 0) by decide)) (fun _ => ?_)
    refine r_ld (pc' := 8) hM_22 d_22_7 rfl rfl ?_
    refine r_gF (pc' := 11) (v := .inr (.inr (some 3011))) hM_22 d_22_8 rfl (by decide) (by decide +kernel) ?_
    refine r_ld (pc' := 12) hM_22 d_22_11 rfl rfl ?_
    refine r_cl (pc' := 15) (c := (24, 2)) (a := [.inr (.inr (some 3011)), .inl 16]) (q := []) hM_22 d_22_12 rfl (by decide +kernel) hM_24 rfl rfl rfl (Nat.le_of_ble_eq_true rfl) (Nat.le_of_ble_eq_true rfl) (Or.inl rfl) (ok_rnk (sb_11_16 (m := m)) hfx) (Nat.le_of_ble_eq_true rfl) ?_
    show rn fx 3 (0, 0) 22 15 [some (.inr (.inr (some 2011))), some (.inl 16)] [.inl 101] (st0 m) o
    exact hk
  exact ok_rt (fun fx _ => rt_n hM_22 d_22_15 rfl (by decide) (by decide +kernel)) H
theorem sa_11_16 {m : am_M} : ok 3 22 0 (am_ent 2 [.inr (.inr (some 2011)), .inl 16]) [] m (fun rr m' => rr = [.inl 101] ∧ m' = m) := usa_11_16 ⟨rfl, rfl⟩
theorem usa_11_17 {Q : List am_V → am_M → Prop} {m : am_M}   (H : Q [.inl 32] m) : ok 3 22 0 [some (.inr (.inr (some 2011))), some (.inl 17)] [] m Q := by
  refine ok_sg (pc' := 15) (ls' := [some (.inr (.inr (some 2011))), some (.inl 17)]) (st' := [.inl 32]) (m' := m) (fun fx hfx o hk => ?_) ?_
  · refine r_ld (pc' := 1) hM_22 d_22_0 rfl rfl ?_
    refine r_cl (pc' := 4) (c := (23, 0)) (a := [.inr (.inr (some 2011))]) (q := []) hM_22 d_22_1 rfl (by decide +kernel) hM_23 rfl rfl rfl (Nat.le_of_ble_eq_true rfl) (Nat.le_of_ble_eq_true rfl) (Or.inr rfl) (ok_rnk (sl_11 (m := m)) hfx) (Nat.le_of_ble_eq_true rfl) ?_
    show rn fx 3 (0, 0) 22 4 [some (.inr (.inr (some 2011))), some (.inl 17)] [.inl 1] (st0 m) o
    refine r_if (pc' := 16) (pc2 := 7) hM_22 d_22_4 (by decide) rfl (fun hc => absurd hc (show ¬ (am_s 1 = 0) by decide)) (fun _ => ?_)
    refine r_ld (pc' := 8) hM_22 d_22_7 rfl rfl ?_
    refine r_gF (pc' := 11) (v := .inr (.inr (some 3011))) hM_22 d_22_8 rfl (by decide) (by decide +kernel) ?_
    refine r_ld (pc' := 12) hM_22 d_22_11 rfl rfl ?_
    refine r_cl (pc' := 15) (c := (24, 2)) (a := [.inr (.inr (some 3011)), .inl 17]) (q := []) hM_22 d_22_12 rfl (by decide +kernel) hM_24 rfl rfl rfl (Nat.le_of_ble_eq_true rfl) (Nat.le_of_ble_eq_true rfl) (Or.inl rfl) (ok_rnk (sb_11_17 (m := m)) hfx) (Nat.le_of_ble_eq_true rfl) ?_
    show rn fx 3 (0, 0) 22 15 [some (.inr (.inr (some 2011))), some (.inl 17)] [.inl 32] (st0 m) o
    exact hk
  exact ok_rt (fun fx _ => rt_n hM_22 d_22_15 rfl (by decide) (by decide +kernel)) H
theorem sa_11_17 {m : am_M} : ok 3 22 0 (am_ent 2 [.inr (.inr (some 2011)), .inl 17]) [] m (fun rr m' => rr = [.inl 32] ∧ m' = m) := usa_11_17 ⟨rfl, rfl⟩
theorem usa_11_18 {Q : List am_V → am_M → Prop} {m : am_M}   (H : Q [.inl 98] m) : ok 3 22 0 [some (.inr (.inr (some 2011))), some (.inl 18)] [] m Q := by
  refine ok_sg (pc' := 15) (ls' := [some (.inr (.inr (some 2011))), some (.inl 18)]) (st' := [.inl 98]) (m' := m) (fun fx hfx o hk => ?_) ?_
  · refine r_ld (pc' := 1) hM_22 d_22_0 rfl rfl ?_
    refine r_cl (pc' := 4) (c := (23, 0)) (a := [.inr (.inr (some 2011))]) (q := []) hM_22 d_22_1 rfl (by decide +kernel) hM_23 rfl rfl rfl (Nat.le_of_ble_eq_true rfl) (Nat.le_of_ble_eq_true rfl) (Or.inr rfl) (ok_rnk (sl_11 (m := m)) hfx) (Nat.le_of_ble_eq_true rfl) ?_
    show rn fx 3 (0, 0) 22 4 [some (.inr (.inr (some 2011))), some (.inl 18)] [.inl 1] (st0 m) o
    refine r_if (pc' := 16) (pc2 := 7) hM_22 d_22_4 (by decide) rfl (fun hc => absurd hc (show ¬ (am_s 1 = 0) by decide)) (fun _ => ?_)
    refine r_ld (pc' := 8) hM_22 d_22_7 rfl rfl ?_
    refine r_gF (pc' := 11) (v := .inr (.inr (some 3011))) hM_22 d_22_8 rfl (by decide) (by decide +kernel) ?_
    refine r_ld (pc' := 12) hM_22 d_22_11 rfl rfl ?_
    refine r_cl (pc' := 15) (c := (24, 2)) (a := [.inr (.inr (some 3011)), .inl 18]) (q := []) hM_22 d_22_12 rfl (by decide +kernel) hM_24 rfl rfl rfl (Nat.le_of_ble_eq_true rfl) (Nat.le_of_ble_eq_true rfl) (Or.inl rfl) (ok_rnk (sb_11_18 (m := m)) hfx) (Nat.le_of_ble_eq_true rfl) ?_
    show rn fx 3 (0, 0) 22 15 [some (.inr (.inr (some 2011))), some (.inl 18)] [.inl 98] (st0 m) o
    exact hk
  exact ok_rt (fun fx _ => rt_n hM_22 d_22_15 rfl (by decide) (by decide +kernel)) H
theorem sa_11_18 {m : am_M} : ok 3 22 0 (am_ent 2 [.inr (.inr (some 2011)), .inl 18]) [] m (fun rr m' => rr = [.inl 98] ∧ m' = m) := usa_11_18 ⟨rfl, rfl⟩
theorem usa_11_19 {Q : List am_V → am_M → Prop} {m : am_M}   (H : Q [.inl 97] m) : ok 3 22 0 [some (.inr (.inr (some 2011))), some (.inl 19)] [] m Q := by
  refine ok_sg (pc' := 15) (ls' := [some (.inr (.inr (some 2011))), some (.inl 19)]) (st' := [.inl 97]) (m' := m) (fun fx hfx o hk => ?_) ?_
  · refine r_ld (pc' := 1) hM_22 d_22_0 rfl rfl ?_
    refine r_cl (pc' := 4) (c := (23, 0)) (a := [.inr (.inr (some 2011))]) (q := []) hM_22 d_22_1 rfl (by decide +kernel) hM_23 rfl rfl rfl (Nat.le_of_ble_eq_true rfl) (Nat.le_of_ble_eq_true rfl) (Or.inr rfl) (ok_rnk (sl_11 (m := m)) hfx) (Nat.le_of_ble_eq_true rfl) ?_
    show rn fx 3 (0, 0) 22 4 [some (.inr (.inr (some 2011))), some (.inl 19)] [.inl 1] (st0 m) o
    refine r_if (pc' := 16) (pc2 := 7) hM_22 d_22_4 (by decide) rfl (fun hc => absurd hc (show ¬ (am_s 1 = 0) by decide)) (fun _ => ?_)
    refine r_ld (pc' := 8) hM_22 d_22_7 rfl rfl ?_
    refine r_gF (pc' := 11) (v := .inr (.inr (some 3011))) hM_22 d_22_8 rfl (by decide) (by decide +kernel) ?_
    refine r_ld (pc' := 12) hM_22 d_22_11 rfl rfl ?_
    refine r_cl (pc' := 15) (c := (24, 2)) (a := [.inr (.inr (some 3011)), .inl 19]) (q := []) hM_22 d_22_12 rfl (by decide +kernel) hM_24 rfl rfl rfl (Nat.le_of_ble_eq_true rfl) (Nat.le_of_ble_eq_true rfl) (Or.inl rfl) (ok_rnk (sb_11_19 (m := m)) hfx) (Nat.le_of_ble_eq_true rfl) ?_
    show rn fx 3 (0, 0) 22 15 [some (.inr (.inr (some 2011))), some (.inl 19)] [.inl 97] (st0 m) o
    exact hk
  exact ok_rt (fun fx _ => rt_n hM_22 d_22_15 rfl (by decide) (by decide +kernel)) H
theorem sa_11_19 {m : am_M} : ok 3 22 0 (am_ent 2 [.inr (.inr (some 2011)), .inl 19]) [] m (fun rr m' => rr = [.inl 97] ∧ m' = m) := usa_11_19 ⟨rfl, rfl⟩
theorem usa_11_20 {Q : List am_V → am_M → Prop} {m : am_M}   (H : Q [.inl 100] m) : ok 3 22 0 [some (.inr (.inr (some 2011))), some (.inl 20)] [] m Q := by
  refine ok_sg (pc' := 15) (ls' := [some (.inr (.inr (some 2011))), some (.inl 20)]) (st' := [.inl 100]) (m' := m) (fun fx hfx o hk => ?_) ?_
  · refine r_ld (pc' := 1) hM_22 d_22_0 rfl rfl ?_
    refine r_cl (pc' := 4) (c := (23, 0)) (a := [.inr (.inr (some 2011))]) (q := []) hM_22 d_22_1 rfl (by decide +kernel) hM_23 rfl rfl rfl (Nat.le_of_ble_eq_true rfl) (Nat.le_of_ble_eq_true rfl) (Or.inr rfl) (ok_rnk (sl_11 (m := m)) hfx) (Nat.le_of_ble_eq_true rfl) ?_
    show rn fx 3 (0, 0) 22 4 [some (.inr (.inr (some 2011))), some (.inl 20)] [.inl 1] (st0 m) o
    refine r_if (pc' := 16) (pc2 := 7) hM_22 d_22_4 (by decide) rfl (fun hc => absurd hc (show ¬ (am_s 1 = 0) by decide)) (fun _ => ?_)
    refine r_ld (pc' := 8) hM_22 d_22_7 rfl rfl ?_
    refine r_gF (pc' := 11) (v := .inr (.inr (some 3011))) hM_22 d_22_8 rfl (by decide) (by decide +kernel) ?_
    refine r_ld (pc' := 12) hM_22 d_22_11 rfl rfl ?_
    refine r_cl (pc' := 15) (c := (24, 2)) (a := [.inr (.inr (some 3011)), .inl 20]) (q := []) hM_22 d_22_12 rfl (by decide +kernel) hM_24 rfl rfl rfl (Nat.le_of_ble_eq_true rfl) (Nat.le_of_ble_eq_true rfl) (Or.inl rfl) (ok_rnk (sb_11_20 (m := m)) hfx) (Nat.le_of_ble_eq_true rfl) ?_
    show rn fx 3 (0, 0) 22 15 [some (.inr (.inr (some 2011))), some (.inl 20)] [.inl 100] (st0 m) o
    exact hk
  exact ok_rt (fun fx _ => rt_n hM_22 d_22_15 rfl (by decide) (by decide +kernel)) H
theorem sa_11_20 {m : am_M} : ok 3 22 0 (am_ent 2 [.inr (.inr (some 2011)), .inl 20]) [] m (fun rr m' => rr = [.inl 100] ∧ m' = m) := usa_11_20 ⟨rfl, rfl⟩
theorem usa_11_21 {Q : List am_V → am_M → Prop} {m : am_M}   (H : Q [.inl 32] m) : ok 3 22 0 [some (.inr (.inr (some 2011))), some (.inl 21)] [] m Q := by
  refine ok_sg (pc' := 15) (ls' := [some (.inr (.inr (some 2011))), some (.inl 21)]) (st' := [.inl 32]) (m' := m) (fun fx hfx o hk => ?_) ?_
  · refine r_ld (pc' := 1) hM_22 d_22_0 rfl rfl ?_
    refine r_cl (pc' := 4) (c := (23, 0)) (a := [.inr (.inr (some 2011))]) (q := []) hM_22 d_22_1 rfl (by decide +kernel) hM_23 rfl rfl rfl (Nat.le_of_ble_eq_true rfl) (Nat.le_of_ble_eq_true rfl) (Or.inr rfl) (ok_rnk (sl_11 (m := m)) hfx) (Nat.le_of_ble_eq_true rfl) ?_
    show rn fx 3 (0, 0) 22 4 [some (.inr (.inr (some 2011))), some (.inl 21)] [.inl 1] (st0 m) o
    refine r_if (pc' := 16) (pc2 := 7) hM_22 d_22_4 (by decide) rfl (fun hc => absurd hc (show ¬ (am_s 1 = 0) by decide)) (fun _ => ?_)
    refine r_ld (pc' := 8) hM_22 d_22_7 rfl rfl ?_
    refine r_gF (pc' := 11) (v := .inr (.inr (some 3011))) hM_22 d_22_8 rfl (by decide) (by decide +kernel) ?_
    refine r_ld (pc' := 12) hM_22 d_22_11 rfl rfl ?_
    refine r_cl (pc' := 15) (c := (24, 2)) (a := [.inr (.inr (some 3011)), .inl 21]) (q := []) hM_22 d_22_12 rfl (by decide +kernel) hM_24 rfl rfl rfl (Nat.le_of_ble_eq_true rfl) (Nat.le_of_ble_eq_true rfl) (Or.inl rfl) (ok_rnk (sb_11_21 (m := m)) hfx) (Nat.le_of_ble_eq_true rfl) ?_
    show rn fx 3 (0, 0) 22 15 [some (.inr (.inr (some 2011))), some (.inl 21)] [.inl 32] (st0 m) o
    exact hk
  exact ok_rt (fun fx _ => rt_n hM_22 d_22_15 rfl (by decide) (by decide +kernel)) H
theorem sa_11_21 {m : am_M} : ok 3 22 0 (am_ent 2 [.inr (.inr (some 2011)), .inl 21]) [] m (fun rr m' => rr = [.inl 32] ∧ m' = m) := usa_11_21 ⟨rfl, rfl⟩
theorem usa_11_22 {Q : List am_V → am_M → Prop} {m : am_M}   (H : Q [.inl 115] m) : ok 3 22 0 [some (.inr (.inr (some 2011))), some (.inl 22)] [] m Q := by
  refine ok_sg (pc' := 15) (ls' := [some (.inr (.inr (some 2011))), some (.inl 22)]) (st' := [.inl 115]) (m' := m) (fun fx hfx o hk => ?_) ?_
  · refine r_ld (pc' := 1) hM_22 d_22_0 rfl rfl ?_
    refine r_cl (pc' := 4) (c := (23, 0)) (a := [.inr (.inr (some 2011))]) (q := []) hM_22 d_22_1 rfl (by decide +kernel) hM_23 rfl rfl rfl (Nat.le_of_ble_eq_true rfl) (Nat.le_of_ble_eq_true rfl) (Or.inr rfl) (ok_rnk (sl_11 (m := m)) hfx) (Nat.le_of_ble_eq_true rfl) ?_
    show rn fx 3 (0, 0) 22 4 [some (.inr (.inr (some 2011))), some (.inl 22)] [.inl 1] (st0 m) o
    refine r_if (pc' := 16) (pc2 := 7) hM_22 d_22_4 (by decide) rfl (fun hc => absurd hc (show ¬ (am_s 1 = 0) by decide)) (fun _ => ?_)
    refine r_ld (pc' := 8) hM_22 d_22_7 rfl rfl ?_
    refine r_gF (pc' := 11) (v := .inr (.inr (some 3011))) hM_22 d_22_8 rfl (by decide) (by decide +kernel) ?_
    refine r_ld (pc' := 12) hM_22 d_22_11 rfl rfl ?_
    refine r_cl (pc' := 15) (c := (24, 2)) (a := [.inr (.inr (some 3011)), .inl 22]) (q := []) hM_22 d_22_12 rfl (by decide +kernel) hM_24 rfl rfl rfl (Nat.le_of_ble_eq_true rfl) (Nat.le_of_ble_eq_true rfl) (Or.inl rfl) (ok_rnk (sb_11_22 (m := m)) hfx) (Nat.le_of_ble_eq_true rfl) ?_
    show rn fx 3 (0, 0) 22 15 [some (.inr (.inr (some 2011))), some (.inl 22)] [.inl 115] (st0 m) o
    exact hk
  exact ok_rt (fun fx _ => rt_n hM_22 d_22_15 rfl (by decide) (by decide +kernel)) H
theorem sa_11_22 {m : am_M} : ok 3 22 0 (am_ent 2 [.inr (.inr (some 2011)), .inl 22]) [] m (fun rr m' => rr = [.inl 115] ∧ m' = m) := usa_11_22 ⟨rfl, rfl⟩
theorem usa_11_23 {Q : List am_V → am_M → Prop} {m : am_M}   (H : Q [.inl 116] m) : ok 3 22 0 [some (.inr (.inr (some 2011))), some (.inl 23)] [] m Q := by
  refine ok_sg (pc' := 15) (ls' := [some (.inr (.inr (some 2011))), some (.inl 23)]) (st' := [.inl 116]) (m' := m) (fun fx hfx o hk => ?_) ?_
  · refine r_ld (pc' := 1) hM_22 d_22_0 rfl rfl ?_
    refine r_cl (pc' := 4) (c := (23, 0)) (a := [.inr (.inr (some 2011))]) (q := []) hM_22 d_22_1 rfl (by decide +kernel) hM_23 rfl rfl rfl (Nat.le_of_ble_eq_true rfl) (Nat.le_of_ble_eq_true rfl) (Or.inr rfl) (ok_rnk (sl_11 (m := m)) hfx) (Nat.le_of_ble_eq_true rfl) ?_
    show rn fx 3 (0, 0) 22 4 [some (.inr (.inr (some 2011))), some (.inl 23)] [.inl 1] (st0 m) o
    refine r_if (pc' := 16) (pc2 := 7) hM_22 d_22_4 (by decide) rfl (fun hc => absurd hc (show ¬ (am_s 1 = 0) by decide)) (fun _ => ?_)
    refine r_ld (pc' := 8) hM_22 d_22_7 rfl rfl ?_
    refine r_gF (pc' := 11) (v := .inr (.inr (some 3011))) hM_22 d_22_8 rfl (by decide) (by decide +kernel) ?_
    refine r_ld (pc' := 12) hM_22 d_22_11 rfl rfl ?_
    refine r_cl (pc' := 15) (c := (24, 2)) (a := [.inr (.inr (some 3011)), .inl 23]) (q := []) hM_22 d_22_12 rfl (by decide +kernel) hM_24 rfl rfl rfl (Nat.le_of_ble_eq_true rfl) (Nat.le_of_ble_eq_true rfl) (Or.inl rfl) (ok_rnk (sb_11_23 (m := m)) hfx) (Nat.le_of_ble_eq_true rfl) ?_
    show rn fx 3 (0, 0) 22 15 [some (.inr (.inr (some 2011))), some (.inl 23)] [.inl 116] (st0 m) o
    exact hk
  exact ok_rt (fun fx _ => rt_n hM_22 d_22_15 rfl (by decide) (by decide +kernel)) H
theorem sa_11_23 {m : am_M} : ok 3 22 0 (am_ent 2 [.inr (.inr (some 2011)), .inl 23]) [] m (fun rr m' => rr = [.inl 116] ∧ m' = m) := usa_11_23 ⟨rfl, rfl⟩
theorem usa_11_24 {Q : List am_V → am_M → Prop} {m : am_M}   (H : Q [.inl 111] m) : ok 3 22 0 [some (.inr (.inr (some 2011))), some (.inl 24)] [] m Q := by
  refine ok_sg (pc' := 15) (ls' := [some (.inr (.inr (some 2011))), some (.inl 24)]) (st' := [.inl 111]) (m' := m) (fun fx hfx o hk => ?_) ?_
  · refine r_ld (pc' := 1) hM_22 d_22_0 rfl rfl ?_
    refine r_cl (pc' := 4) (c := (23, 0)) (a := [.inr (.inr (some 2011))]) (q := []) hM_22 d_22_1 rfl (by decide +kernel) hM_23 rfl rfl rfl (Nat.le_of_ble_eq_true rfl) (Nat.le_of_ble_eq_true rfl) (Or.inr rfl) (ok_rnk (sl_11 (m := m)) hfx) (Nat.le_of_ble_eq_true rfl) ?_
    show rn fx 3 (0, 0) 22 4 [some (.inr (.inr (some 2011))), some (.inl 24)] [.inl 1] (st0 m) o
    refine r_if (pc' := 16) (pc2 := 7) hM_22 d_22_4 (by decide) rfl (fun hc => absurd hc (show ¬ (am_s 1 = 0) by decide)) (fun _ => ?_)
    refine r_ld (pc' := 8) hM_22 d_22_7 rfl rfl ?_
    refine r_gF (pc' := 11) (v := .inr (.inr (some 3011))) hM_22 d_22_8 rfl (by decide) (by decide +kernel) ?_
    refine r_ld (pc' := 12) hM_22 d_22_11 rfl rfl ?_
    refine r_cl (pc' := 15) (c := (24, 2)) (a := [.inr (.inr (some 3011)), .inl 24]) (q := []) hM_22 d_22_12 rfl (by decide +kernel) hM_24 rfl rfl rfl (Nat.le_of_ble_eq_true rfl) (Nat.le_of_ble_eq_true rfl) (Or.inl rfl) (ok_rnk (sb_11_24 (m := m)) hfx) (Nat.le_of_ble_eq_true rfl) ?_
    show rn fx 3 (0, 0) 22 15 [some (.inr (.inr (some 2011))), some (.inl 24)] [.inl 111] (st0 m) o
    exact hk
  exact ok_rt (fun fx _ => rt_n hM_22 d_22_15 rfl (by decide) (by decide +kernel)) H
theorem sa_11_24 {m : am_M} : ok 3 22 0 (am_ent 2 [.inr (.inr (some 2011)), .inl 24]) [] m (fun rr m' => rr = [.inl 111] ∧ m' = m) := usa_11_24 ⟨rfl, rfl⟩
theorem usa_11_25 {Q : List am_V → am_M → Prop} {m : am_M}   (H : Q [.inl 110] m) : ok 3 22 0 [some (.inr (.inr (some 2011))), some (.inl 25)] [] m Q := by
  refine ok_sg (pc' := 15) (ls' := [some (.inr (.inr (some 2011))), some (.inl 25)]) (st' := [.inl 110]) (m' := m) (fun fx hfx o hk => ?_) ?_
  · refine r_ld (pc' := 1) hM_22 d_22_0 rfl rfl ?_
    refine r_cl (pc' := 4) (c := (23, 0)) (a := [.inr (.inr (some 2011))]) (q := []) hM_22 d_22_1 rfl (by decide +kernel) hM_23 rfl rfl rfl (Nat.le_of_ble_eq_true rfl) (Nat.le_of_ble_eq_true rfl) (Or.inr rfl) (ok_rnk (sl_11 (m := m)) hfx) (Nat.le_of_ble_eq_true rfl) ?_
    show rn fx 3 (0, 0) 22 4 [some (.inr (.inr (some 2011))), some (.inl 25)] [.inl 1] (st0 m) o
    refine r_if (pc' := 16) (pc2 := 7) hM_22 d_22_4 (by decide) rfl (fun hc => absurd hc (show ¬ (am_s 1 = 0) by decide)) (fun _ => ?_)
    refine r_ld (pc' := 8) hM_22 d_22_7 rfl rfl ?_
    refine r_gF (pc' := 11) (v := .inr (.inr (some 3011))) hM_22 d_22_8 rfl (by decide) (by decide +kernel) ?_
    refine r_ld (pc' := 12) hM_22 d_22_11 rfl rfl ?_
    refine r_cl (pc' := 15) (c := (24, 2)) (a := [.inr (.inr (some 3011)), .inl 25]) (q := []) hM_22 d_22_12 rfl (by decide +kernel) hM_24 rfl rfl rfl (Nat.le_of_ble_eq_true rfl) (Nat.le_of_ble_eq_true rfl) (Or.inl rfl) (ok_rnk (sb_11_25 (m := m)) hfx) (Nat.le_of_ble_eq_true rfl) ?_
    show rn fx 3 (0, 0) 22 15 [some (.inr (.inr (some 2011))), some (.inl 25)] [.inl 110] (st0 m) o
    exact hk
  exact ok_rt (fun fx _ => rt_n hM_22 d_22_15 rfl (by decide) (by decide +kernel)) H
theorem sa_11_25 {m : am_M} : ok 3 22 0 (am_ent 2 [.inr (.inr (some 2011)), .inl 25]) [] m (fun rr m' => rr = [.inl 110] ∧ m' = m) := usa_11_25 ⟨rfl, rfl⟩
theorem usa_11_26 {Q : List am_V → am_M → Prop} {m : am_M}   (H : Q [.inl 101] m) : ok 3 22 0 [some (.inr (.inr (some 2011))), some (.inl 26)] [] m Q := by
  refine ok_sg (pc' := 15) (ls' := [some (.inr (.inr (some 2011))), some (.inl 26)]) (st' := [.inl 101]) (m' := m) (fun fx hfx o hk => ?_) ?_
  · refine r_ld (pc' := 1) hM_22 d_22_0 rfl rfl ?_
    refine r_cl (pc' := 4) (c := (23, 0)) (a := [.inr (.inr (some 2011))]) (q := []) hM_22 d_22_1 rfl (by decide +kernel) hM_23 rfl rfl rfl (Nat.le_of_ble_eq_true rfl) (Nat.le_of_ble_eq_true rfl) (Or.inr rfl) (ok_rnk (sl_11 (m := m)) hfx) (Nat.le_of_ble_eq_true rfl) ?_
    show rn fx 3 (0, 0) 22 4 [some (.inr (.inr (some 2011))), some (.inl 26)] [.inl 1] (st0 m) o
    refine r_if (pc' := 16) (pc2 := 7) hM_22 d_22_4 (by decide) rfl (fun hc => absurd hc (show ¬ (am_s 1 = 0) by decide)) (fun _ => ?_)
    refine r_ld (pc' := 8) hM_22 d_22_7 rfl rfl ?_
    refine r_gF (pc' := 11) (v := .inr (.inr (some 3011))) hM_22 d_22_8 rfl (by decide) (by decide +kernel) ?_
    refine r_ld (pc' := 12) hM_22 d_22_11 rfl rfl ?_
    refine r_cl (pc' := 15) (c := (24, 2)) (a := [.inr (.inr (some 3011)), .inl 26]) (q := []) hM_22 d_22_12 rfl (by decide +kernel) hM_24 rfl rfl rfl (Nat.le_of_ble_eq_true rfl) (Nat.le_of_ble_eq_true rfl) (Or.inl rfl) (ok_rnk (sb_11_26 (m := m)) hfx) (Nat.le_of_ble_eq_true rfl) ?_
    show rn fx 3 (0, 0) 22 15 [some (.inr (.inr (some 2011))), some (.inl 26)] [.inl 101] (st0 m) o
    exact hk
  exact ok_rt (fun fx _ => rt_n hM_22 d_22_15 rfl (by decide) (by decide +kernel)) H
theorem sa_11_26 {m : am_M} : ok 3 22 0 (am_ent 2 [.inr (.inr (some 2011)), .inl 26]) [] m (fun rr m' => rr = [.inl 101] ∧ m' = m) := usa_11_26 ⟨rfl, rfl⟩
theorem usa_11_27 {Q : List am_V → am_M → Prop} {m : am_M}   (H : Q [.inl 115] m) : ok 3 22 0 [some (.inr (.inr (some 2011))), some (.inl 27)] [] m Q := by
  refine ok_sg (pc' := 15) (ls' := [some (.inr (.inr (some 2011))), some (.inl 27)]) (st' := [.inl 115]) (m' := m) (fun fx hfx o hk => ?_) ?_
  · refine r_ld (pc' := 1) hM_22 d_22_0 rfl rfl ?_
    refine r_cl (pc' := 4) (c := (23, 0)) (a := [.inr (.inr (some 2011))]) (q := []) hM_22 d_22_1 rfl (by decide +kernel) hM_23 rfl rfl rfl (Nat.le_of_ble_eq_true rfl) (Nat.le_of_ble_eq_true rfl) (Or.inr rfl) (ok_rnk (sl_11 (m := m)) hfx) (Nat.le_of_ble_eq_true rfl) ?_
    show rn fx 3 (0, 0) 22 4 [some (.inr (.inr (some 2011))), some (.inl 27)] [.inl 1] (st0 m) o
    refine r_if (pc' := 16) (pc2 := 7) hM_22 d_22_4 (by decide) rfl (fun hc => absurd hc (show ¬ (am_s 1 = 0) by decide)) (fun _ => ?_)
    refine r_ld (pc' := 8) hM_22 d_22_7 rfl rfl ?_
    refine r_gF (pc' := 11) (v := .inr (.inr (some 3011))) hM_22 d_22_8 rfl (by decide) (by decide +kernel) ?_
    refine r_ld (pc' := 12) hM_22 d_22_11 rfl rfl ?_
    refine r_cl (pc' := 15) (c := (24, 2)) (a := [.inr (.inr (some 3011)), .inl 27]) (q := []) hM_22 d_22_12 rfl (by decide +kernel) hM_24 rfl rfl rfl (Nat.le_of_ble_eq_true rfl) (Nat.le_of_ble_eq_true rfl) (Or.inl rfl) (ok_rnk (sb_11_27 (m := m)) hfx) (Nat.le_of_ble_eq_true rfl) ?_
    show rn fx 3 (0, 0) 22 15 [some (.inr (.inr (some 2011))), some (.inl 27)] [.inl 115] (st0 m) o
    exact hk
  exact ok_rt (fun fx _ => rt_n hM_22 d_22_15 rfl (by decide) (by decide +kernel)) H
theorem sa_11_27 {m : am_M} : ok 3 22 0 (am_ent 2 [.inr (.inr (some 2011)), .inl 27]) [] m (fun rr m' => rr = [.inl 115] ∧ m' = m) := usa_11_27 ⟨rfl, rfl⟩
theorem usa_11_28 {Q : List am_V → am_M → Prop} {m : am_M}   (H : Q [.inl 32] m) : ok 3 22 0 [some (.inr (.inr (some 2011))), some (.inl 28)] [] m Q := by
  refine ok_sg (pc' := 15) (ls' := [some (.inr (.inr (some 2011))), some (.inl 28)]) (st' := [.inl 32]) (m' := m) (fun fx hfx o hk => ?_) ?_
  · refine r_ld (pc' := 1) hM_22 d_22_0 rfl rfl ?_
    refine r_cl (pc' := 4) (c := (23, 0)) (a := [.inr (.inr (some 2011))]) (q := []) hM_22 d_22_1 rfl (by decide +kernel) hM_23 rfl rfl rfl (Nat.le_of_ble_eq_true rfl) (Nat.le_of_ble_eq_true rfl) (Or.inr rfl) (ok_rnk (sl_11 (m := m)) hfx) (Nat.le_of_ble_eq_true rfl) ?_
    show rn fx 3 (0, 0) 22 4 [some (.inr (.inr (some 2011))), some (.inl 28)] [.inl 1] (st0 m) o
    refine r_if (pc' := 16) (pc2 := 7) hM_22 d_22_4 (by decide) rfl (fun hc => absurd hc (show ¬ (am_s 1 = 0) by decide)) (fun _ => ?_)
    refine r_ld (pc' := 8) hM_22 d_22_7 rfl rfl ?_
    refine r_gF (pc' := 11) (v := .inr (.inr (some 3011))) hM_22 d_22_8 rfl (by decide) (by decide +kernel) ?_
    refine r_ld (pc' := 12) hM_22 d_22_11 rfl rfl ?_
    refine r_cl (pc' := 15) (c := (24, 2)) (a := [.inr (.inr (some 3011)), .inl 28]) (q := []) hM_22 d_22_12 rfl (by decide +kernel) hM_24 rfl rfl rfl (Nat.le_of_ble_eq_true rfl) (Nat.le_of_ble_eq_true rfl) (Or.inl rfl) (ok_rnk (sb_11_28 (m := m)) hfx) (Nat.le_of_ble_eq_true rfl) ?_
    show rn fx 3 (0, 0) 22 15 [some (.inr (.inr (some 2011))), some (.inl 28)] [.inl 32] (st0 m) o
    exact hk
  exact ok_rt (fun fx _ => rt_n hM_22 d_22_15 rfl (by decide) (by decide +kernel)) H
theorem sa_11_28 {m : am_M} : ok 3 22 0 (am_ent 2 [.inr (.inr (some 2011)), .inl 28]) [] m (fun rr m' => rr = [.inl 32] ∧ m' = m) := usa_11_28 ⟨rfl, rfl⟩
theorem usa_11_29 {Q : List am_V → am_M → Prop} {m : am_M}   (H : Q [.inl 103] m) : ok 3 22 0 [some (.inr (.inr (some 2011))), some (.inl 29)] [] m Q := by
  refine ok_sg (pc' := 15) (ls' := [some (.inr (.inr (some 2011))), some (.inl 29)]) (st' := [.inl 103]) (m' := m) (fun fx hfx o hk => ?_) ?_
  · refine r_ld (pc' := 1) hM_22 d_22_0 rfl rfl ?_
    refine r_cl (pc' := 4) (c := (23, 0)) (a := [.inr (.inr (some 2011))]) (q := []) hM_22 d_22_1 rfl (by decide +kernel) hM_23 rfl rfl rfl (Nat.le_of_ble_eq_true rfl) (Nat.le_of_ble_eq_true rfl) (Or.inr rfl) (ok_rnk (sl_11 (m := m)) hfx) (Nat.le_of_ble_eq_true rfl) ?_
    show rn fx 3 (0, 0) 22 4 [some (.inr (.inr (some 2011))), some (.inl 29)] [.inl 1] (st0 m) o
    refine r_if (pc' := 16) (pc2 := 7) hM_22 d_22_4 (by decide) rfl (fun hc => absurd hc (show ¬ (am_s 1 = 0) by decide)) (fun _ => ?_)
    refine r_ld (pc' := 8) hM_22 d_22_7 rfl rfl ?_
    refine r_gF (pc' := 11) (v := .inr (.inr (some 3011))) hM_22 d_22_8 rfl (by decide) (by decide +kernel) ?_
    refine r_ld (pc' := 12) hM_22 d_22_11 rfl rfl ?_
    refine r_cl (pc' := 15) (c := (24, 2)) (a := [.inr (.inr (some 3011)), .inl 29]) (q := []) hM_22 d_22_12 rfl (by decide +kernel) hM_24 rfl rfl rfl (Nat.le_of_ble_eq_true rfl) (Nat.le_of_ble_eq_true rfl) (Or.inl rfl) (ok_rnk (sb_11_29 (m := m)) hfx) (Nat.le_of_ble_eq_true rfl) ?_
    show rn fx 3 (0, 0) 22 15 [some (.inr (.inr (some 2011))), some (.inl 29)] [.inl 103] (st0 m) o
    exact hk
  exact ok_rt (fun fx _ => rt_n hM_22 d_22_15 rfl (by decide) (by decide +kernel)) H
theorem sa_11_29 {m : am_M} : ok 3 22 0 (am_ent 2 [.inr (.inr (some 2011)), .inl 29]) [] m (fun rr m' => rr = [.inl 103] ∧ m' = m) := usa_11_29 ⟨rfl, rfl⟩
theorem usa_11_30 {Q : List am_V → am_M → Prop} {m : am_M}   (H : Q [.inl 97] m) : ok 3 22 0 [some (.inr (.inr (some 2011))), some (.inl 30)] [] m Q := by
  refine ok_sg (pc' := 15) (ls' := [some (.inr (.inr (some 2011))), some (.inl 30)]) (st' := [.inl 97]) (m' := m) (fun fx hfx o hk => ?_) ?_
  · refine r_ld (pc' := 1) hM_22 d_22_0 rfl rfl ?_
    refine r_cl (pc' := 4) (c := (23, 0)) (a := [.inr (.inr (some 2011))]) (q := []) hM_22 d_22_1 rfl (by decide +kernel) hM_23 rfl rfl rfl (Nat.le_of_ble_eq_true rfl) (Nat.le_of_ble_eq_true rfl) (Or.inr rfl) (ok_rnk (sl_11 (m := m)) hfx) (Nat.le_of_ble_eq_true rfl) ?_
    show rn fx 3 (0, 0) 22 4 [some (.inr (.inr (some 2011))), some (.inl 30)] [.inl 1] (st0 m) o
    refine r_if (pc' := 16) (pc2 := 7) hM_22 d_22_4 (by decide) rfl (fun hc => absurd hc (show ¬ (am_s 1 = 0) by decide)) (fun _ => ?_)
    refine r_ld (pc' := 8) hM_22 d_22_7 rfl rfl ?_
    refine r_gF (pc' := 11) (v := .inr (.inr (some 3011))) hM_22 d_22_8 rfl (by decide) (by decide +kernel) ?_
    refine r_ld (pc' := 12) hM_22 d_22_11 rfl rfl ?_
    refine r_cl (pc' := 15) (c := (24, 2)) (a := [.inr (.inr (some 3011)), .inl 30]) (q := []) hM_22 d_22_12 rfl (by decide +kernel) hM_24 rfl rfl rfl (Nat.le_of_ble_eq_true rfl) (Nat.le_of_ble_eq_true rfl) (Or.inl rfl) (ok_rnk (sb_11_30 (m := m)) hfx) (Nat.le_of_ble_eq_true rfl) ?_
    show rn fx 3 (0, 0) 22 15 [some (.inr (.inr (some 2011))), some (.inl 30)] [.inl 97] (st0 m) o
    exact hk
  exact ok_rt (fun fx _ => rt_n hM_22 d_22_15 rfl (by decide) (by decide +kernel)) H
theorem sa_11_30 {m : am_M} : ok 3 22 0 (am_ent 2 [.inr (.inr (some 2011)), .inl 30]) [] m (fun rr m' => rr = [.inl 97] ∧ m' = m) := usa_11_30 ⟨rfl, rfl⟩
theorem usa_11_31 {Q : List am_V → am_M → Prop} {m : am_M}   (H : Q [.inl 112] m) : ok 3 22 0 [some (.inr (.inr (some 2011))), some (.inl 31)] [] m Q := by
  refine ok_sg (pc' := 15) (ls' := [some (.inr (.inr (some 2011))), some (.inl 31)]) (st' := [.inl 112]) (m' := m) (fun fx hfx o hk => ?_) ?_
  · refine r_ld (pc' := 1) hM_22 d_22_0 rfl rfl ?_
    refine r_cl (pc' := 4) (c := (23, 0)) (a := [.inr (.inr (some 2011))]) (q := []) hM_22 d_22_1 rfl (by decide +kernel) hM_23 rfl rfl rfl (Nat.le_of_ble_eq_true rfl) (Nat.le_of_ble_eq_true rfl) (Or.inr rfl) (ok_rnk (sl_11 (m := m)) hfx) (Nat.le_of_ble_eq_true rfl) ?_
    show rn fx 3 (0, 0) 22 4 [some (.inr (.inr (some 2011))), some (.inl 31)] [.inl 1] (st0 m) o
    refine r_if (pc' := 16) (pc2 := 7) hM_22 d_22_4 (by decide) rfl (fun hc => absurd hc (show ¬ (am_s 1 = 0) by decide)) (fun _ => ?_)
    refine r_ld (pc' := 8) hM_22 d_22_7 rfl rfl ?_
    refine r_gF (pc' := 11) (v := .inr (.inr (some 3011))) hM_22 d_22_8 rfl (by decide) (by decide +kernel) ?_
    refine r_ld (pc' := 12) hM_22 d_22_11 rfl rfl ?_
    refine r_cl (pc' := 15) (c := (24, 2)) (a := [.inr (.inr (some 3011)), .inl 31]) (q := []) hM_22 d_22_12 rfl (by decide +kernel) hM_24 rfl rfl rfl (Nat.le_of_ble_eq_true rfl) (Nat.le_of_ble_eq_true rfl) (Or.inl rfl) (ok_rnk (sb_11_31 (m := m)) hfx) (Nat.le_of_ble_eq_true rfl) ?_
    show rn fx 3 (0, 0) 22 15 [some (.inr (.inr (some 2011))), some (.inl 31)] [.inl 112] (st0 m) o
    exact hk
  exact ok_rt (fun fx _ => rt_n hM_22 d_22_15 rfl (by decide) (by decide +kernel)) H
theorem sa_11_31 {m : am_M} : ok 3 22 0 (am_ent 2 [.inr (.inr (some 2011)), .inl 31]) [] m (fun rr m' => rr = [.inl 112] ∧ m' = m) := usa_11_31 ⟨rfl, rfl⟩
theorem usa_11_32 {Q : List am_V → am_M → Prop} {m : am_M}   (H : Q [.inl 32] m) : ok 3 22 0 [some (.inr (.inr (some 2011))), some (.inl 32)] [] m Q := by
  refine ok_sg (pc' := 15) (ls' := [some (.inr (.inr (some 2011))), some (.inl 32)]) (st' := [.inl 32]) (m' := m) (fun fx hfx o hk => ?_) ?_
  · refine r_ld (pc' := 1) hM_22 d_22_0 rfl rfl ?_
    refine r_cl (pc' := 4) (c := (23, 0)) (a := [.inr (.inr (some 2011))]) (q := []) hM_22 d_22_1 rfl (by decide +kernel) hM_23 rfl rfl rfl (Nat.le_of_ble_eq_true rfl) (Nat.le_of_ble_eq_true rfl) (Or.inr rfl) (ok_rnk (sl_11 (m := m)) hfx) (Nat.le_of_ble_eq_true rfl) ?_
    show rn fx 3 (0, 0) 22 4 [some (.inr (.inr (some 2011))), some (.inl 32)] [.inl 1] (st0 m) o
    refine r_if (pc' := 16) (pc2 := 7) hM_22 d_22_4 (by decide) rfl (fun hc => absurd hc (show ¬ (am_s 1 = 0) by decide)) (fun _ => ?_)
    refine r_ld (pc' := 8) hM_22 d_22_7 rfl rfl ?_
    refine r_gF (pc' := 11) (v := .inr (.inr (some 3011))) hM_22 d_22_8 rfl (by decide) (by decide +kernel) ?_
    refine r_ld (pc' := 12) hM_22 d_22_11 rfl rfl ?_
    refine r_cl (pc' := 15) (c := (24, 2)) (a := [.inr (.inr (some 3011)), .inl 32]) (q := []) hM_22 d_22_12 rfl (by decide +kernel) hM_24 rfl rfl rfl (Nat.le_of_ble_eq_true rfl) (Nat.le_of_ble_eq_true rfl) (Or.inl rfl) (ok_rnk (sb_11_32 (m := m)) hfx) (Nat.le_of_ble_eq_true rfl) ?_
    show rn fx 3 (0, 0) 22 15 [some (.inr (.inr (some 2011))), some (.inl 32)] [.inl 32] (st0 m) o
    exact hk
  exact ok_rt (fun fx _ => rt_n hM_22 d_22_15 rfl (by decide) (by decide +kernel)) H
theorem sa_11_32 {m : am_M} : ok 3 22 0 (am_ent 2 [.inr (.inr (some 2011)), .inl 32]) [] m (fun rr m' => rr = [.inl 32] ∧ m' = m) := usa_11_32 ⟨rfl, rfl⟩
theorem usa_11_33 {Q : List am_V → am_M → Prop} {m : am_M}   (H : Q [.inl 108] m) : ok 3 22 0 [some (.inr (.inr (some 2011))), some (.inl 33)] [] m Q := by
  refine ok_sg (pc' := 15) (ls' := [some (.inr (.inr (some 2011))), some (.inl 33)]) (st' := [.inl 108]) (m' := m) (fun fx hfx o hk => ?_) ?_
  · refine r_ld (pc' := 1) hM_22 d_22_0 rfl rfl ?_
    refine r_cl (pc' := 4) (c := (23, 0)) (a := [.inr (.inr (some 2011))]) (q := []) hM_22 d_22_1 rfl (by decide +kernel) hM_23 rfl rfl rfl (Nat.le_of_ble_eq_true rfl) (Nat.le_of_ble_eq_true rfl) (Or.inr rfl) (ok_rnk (sl_11 (m := m)) hfx) (Nat.le_of_ble_eq_true rfl) ?_
    show rn fx 3 (0, 0) 22 4 [some (.inr (.inr (some 2011))), some (.inl 33)] [.inl 1] (st0 m) o
    refine r_if (pc' := 16) (pc2 := 7) hM_22 d_22_4 (by decide) rfl (fun hc => absurd hc (show ¬ (am_s 1 = 0) by decide)) (fun _ => ?_)
    refine r_ld (pc' := 8) hM_22 d_22_7 rfl rfl ?_
    refine r_gF (pc' := 11) (v := .inr (.inr (some 3011))) hM_22 d_22_8 rfl (by decide) (by decide +kernel) ?_
    refine r_ld (pc' := 12) hM_22 d_22_11 rfl rfl ?_
    refine r_cl (pc' := 15) (c := (24, 2)) (a := [.inr (.inr (some 3011)), .inl 33]) (q := []) hM_22 d_22_12 rfl (by decide +kernel) hM_24 rfl rfl rfl (Nat.le_of_ble_eq_true rfl) (Nat.le_of_ble_eq_true rfl) (Or.inl rfl) (ok_rnk (sb_11_33 (m := m)) hfx) (Nat.le_of_ble_eq_true rfl) ?_
    show rn fx 3 (0, 0) 22 15 [some (.inr (.inr (some 2011))), some (.inl 33)] [.inl 108] (st0 m) o
    exact hk
  exact ok_rt (fun fx _ => rt_n hM_22 d_22_15 rfl (by decide) (by decide +kernel)) H
theorem sa_11_33 {m : am_M} : ok 3 22 0 (am_ent 2 [.inr (.inr (some 2011)), .inl 33]) [] m (fun rr m' => rr = [.inl 108] ∧ m' = m) := usa_11_33 ⟨rfl, rfl⟩
theorem usa_11_34 {Q : List am_V → am_M → Prop} {m : am_M}   (H : Q [.inl 111] m) : ok 3 22 0 [some (.inr (.inr (some 2011))), some (.inl 34)] [] m Q := by
  refine ok_sg (pc' := 15) (ls' := [some (.inr (.inr (some 2011))), some (.inl 34)]) (st' := [.inl 111]) (m' := m) (fun fx hfx o hk => ?_) ?_
  · refine r_ld (pc' := 1) hM_22 d_22_0 rfl rfl ?_
    refine r_cl (pc' := 4) (c := (23, 0)) (a := [.inr (.inr (some 2011))]) (q := []) hM_22 d_22_1 rfl (by decide +kernel) hM_23 rfl rfl rfl (Nat.le_of_ble_eq_true rfl) (Nat.le_of_ble_eq_true rfl) (Or.inr rfl) (ok_rnk (sl_11 (m := m)) hfx) (Nat.le_of_ble_eq_true rfl) ?_
    show rn fx 3 (0, 0) 22 4 [some (.inr (.inr (some 2011))), some (.inl 34)] [.inl 1] (st0 m) o
    refine r_if (pc' := 16) (pc2 := 7) hM_22 d_22_4 (by decide) rfl (fun hc => absurd hc (show ¬ (am_s 1 = 0) by decide)) (fun _ => ?_)
    refine r_ld (pc' := 8) hM_22 d_22_7 rfl rfl ?_
    refine r_gF (pc' := 11) (v := .inr (.inr (some 3011))) hM_22 d_22_8 rfl (by decide) (by decide +kernel) ?_
    refine r_ld (pc' := 12) hM_22 d_22_11 rfl rfl ?_
    refine r_cl (pc' := 15) (c := (24, 2)) (a := [.inr (.inr (some 3011)), .inl 34]) (q := []) hM_22 d_22_12 rfl (by decide +kernel) hM_24 rfl rfl rfl (Nat.le_of_ble_eq_true rfl) (Nat.le_of_ble_eq_true rfl) (Or.inl rfl) (ok_rnk (sb_11_34 (m := m)) hfx) (Nat.le_of_ble_eq_true rfl) ?_
    show rn fx 3 (0, 0) 22 15 [some (.inr (.inr (some 2011))), some (.inl 34)] [.inl 111] (st0 m) o
    exact hk
  exact ok_rt (fun fx _ => rt_n hM_22 d_22_15 rfl (by decide) (by decide +kernel)) H
theorem sa_11_34 {m : am_M} : ok 3 22 0 (am_ent 2 [.inr (.inr (some 2011)), .inl 34]) [] m (fun rr m' => rr = [.inl 111] ∧ m' = m) := usa_11_34 ⟨rfl, rfl⟩
theorem usa_11_35 {Q : List am_V → am_M → Prop} {m : am_M}   (H : Q [.inl 119] m) : ok 3 22 0 [some (.inr (.inr (some 2011))), some (.inl 35)] [] m Q := by
  refine ok_sg (pc' := 15) (ls' := [some (.inr (.inr (some 2011))), some (.inl 35)]) (st' := [.inl 119]) (m' := m) (fun fx hfx o hk => ?_) ?_
  · refine r_ld (pc' := 1) hM_22 d_22_0 rfl rfl ?_
    refine r_cl (pc' := 4) (c := (23, 0)) (a := [.inr (.inr (some 2011))]) (q := []) hM_22 d_22_1 rfl (by decide +kernel) hM_23 rfl rfl rfl (Nat.le_of_ble_eq_true rfl) (Nat.le_of_ble_eq_true rfl) (Or.inr rfl) (ok_rnk (sl_11 (m := m)) hfx) (Nat.le_of_ble_eq_true rfl) ?_
    show rn fx 3 (0, 0) 22 4 [some (.inr (.inr (some 2011))), some (.inl 35)] [.inl 1] (st0 m) o
    refine r_if (pc' := 16) (pc2 := 7) hM_22 d_22_4 (by decide) rfl (fun hc => absurd hc (show ¬ (am_s 1 = 0) by decide)) (fun _ => ?_)
    refine r_ld (pc' := 8) hM_22 d_22_7 rfl rfl ?_
    refine r_gF (pc' := 11) (v := .inr (.inr (some 3011))) hM_22 d_22_8 rfl (by decide) (by decide +kernel) ?_
    refine r_ld (pc' := 12) hM_22 d_22_11 rfl rfl ?_
    refine r_cl (pc' := 15) (c := (24, 2)) (a := [.inr (.inr (some 3011)), .inl 35]) (q := []) hM_22 d_22_12 rfl (by decide +kernel) hM_24 rfl rfl rfl (Nat.le_of_ble_eq_true rfl) (Nat.le_of_ble_eq_true rfl) (Or.inl rfl) (ok_rnk (sb_11_35 (m := m)) hfx) (Nat.le_of_ble_eq_true rfl) ?_
    show rn fx 3 (0, 0) 22 15 [some (.inr (.inr (some 2011))), some (.inl 35)] [.inl 119] (st0 m) o
    exact hk
  exact ok_rt (fun fx _ => rt_n hM_22 d_22_15 rfl (by decide) (by decide +kernel)) H
theorem sa_11_35 {m : am_M} : ok 3 22 0 (am_ent 2 [.inr (.inr (some 2011)), .inl 35]) [] m (fun rr m' => rr = [.inl 119] ∧ m' = m) := usa_11_35 ⟨rfl, rfl⟩
theorem usa_11_36 {Q : List am_V → am_M → Prop} {m : am_M}   (H : Q [.inl 32] m) : ok 3 22 0 [some (.inr (.inr (some 2011))), some (.inl 36)] [] m Q := by
  refine ok_sg (pc' := 15) (ls' := [some (.inr (.inr (some 2011))), some (.inl 36)]) (st' := [.inl 32]) (m' := m) (fun fx hfx o hk => ?_) ?_
  · refine r_ld (pc' := 1) hM_22 d_22_0 rfl rfl ?_
    refine r_cl (pc' := 4) (c := (23, 0)) (a := [.inr (.inr (some 2011))]) (q := []) hM_22 d_22_1 rfl (by decide +kernel) hM_23 rfl rfl rfl (Nat.le_of_ble_eq_true rfl) (Nat.le_of_ble_eq_true rfl) (Or.inr rfl) (ok_rnk (sl_11 (m := m)) hfx) (Nat.le_of_ble_eq_true rfl) ?_
    show rn fx 3 (0, 0) 22 4 [some (.inr (.inr (some 2011))), some (.inl 36)] [.inl 1] (st0 m) o
    refine r_if (pc' := 16) (pc2 := 7) hM_22 d_22_4 (by decide) rfl (fun hc => absurd hc (show ¬ (am_s 1 = 0) by decide)) (fun _ => ?_)
    refine r_ld (pc' := 8) hM_22 d_22_7 rfl rfl ?_
    refine r_gF (pc' := 11) (v := .inr (.inr (some 3011))) hM_22 d_22_8 rfl (by decide) (by decide +kernel) ?_
    refine r_ld (pc' := 12) hM_22 d_22_11 rfl rfl ?_
    refine r_cl (pc' := 15) (c := (24, 2)) (a := [.inr (.inr (some 3011)), .inl 36]) (q := []) hM_22 d_22_12 rfl (by decide +kernel) hM_24 rfl rfl rfl (Nat.le_of_ble_eq_true rfl) (Nat.le_of_ble_eq_true rfl) (Or.inl rfl) (ok_rnk (sb_11_36 (m := m)) hfx) (Nat.le_of_ble_eq_true rfl) ?_
    show rn fx 3 (0, 0) 22 15 [some (.inr (.inr (some 2011))), some (.inl 36)] [.inl 32] (st0 m) o
    exact hk
  exact ok_rt (fun fx _ => rt_n hM_22 d_22_15 rfl (by decide) (by decide +kernel)) H
theorem sa_11_36 {m : am_M} : ok 3 22 0 (am_ent 2 [.inr (.inr (some 2011)), .inl 36]) [] m (fun rr m' => rr = [.inl 32] ∧ m' = m) := usa_11_36 ⟨rfl, rfl⟩
theorem usa_11_37 {Q : List am_V → am_M → Prop} {m : am_M}   (H : Q [.inl 108] m) : ok 3 22 0 [some (.inr (.inr (some 2011))), some (.inl 37)] [] m Q := by
  refine ok_sg (pc' := 15) (ls' := [some (.inr (.inr (some 2011))), some (.inl 37)]) (st' := [.inl 108]) (m' := m) (fun fx hfx o hk => ?_) ?_
  · refine r_ld (pc' := 1) hM_22 d_22_0 rfl rfl ?_
    refine r_cl (pc' := 4) (c := (23, 0)) (a := [.inr (.inr (some 2011))]) (q := []) hM_22 d_22_1 rfl (by decide +kernel) hM_23 rfl rfl rfl (Nat.le_of_ble_eq_true rfl) (Nat.le_of_ble_eq_true rfl) (Or.inr rfl) (ok_rnk (sl_11 (m := m)) hfx) (Nat.le_of_ble_eq_true rfl) ?_
    show rn fx 3 (0, 0) 22 4 [some (.inr (.inr (some 2011))), some (.inl 37)] [.inl 1] (st0 m) o
    refine r_if (pc' := 16) (pc2 := 7) hM_22 d_22_4 (by decide) rfl (fun hc => absurd hc (show ¬ (am_s 1 = 0) by decide)) (fun _ => ?_)
    refine r_ld (pc' := 8) hM_22 d_22_7 rfl rfl ?_
    refine r_gF (pc' := 11) (v := .inr (.inr (some 3011))) hM_22 d_22_8 rfl (by decide) (by decide +kernel) ?_
    refine r_ld (pc' := 12) hM_22 d_22_11 rfl rfl ?_
    refine r_cl (pc' := 15) (c := (24, 2)) (a := [.inr (.inr (some 3011)), .inl 37]) (q := []) hM_22 d_22_12 rfl (by decide +kernel) hM_24 rfl rfl rfl (Nat.le_of_ble_eq_true rfl) (Nat.le_of_ble_eq_true rfl) (Or.inl rfl) (ok_rnk (sb_11_37 (m := m)) hfx) (Nat.le_of_ble_eq_true rfl) ?_
    show rn fx 3 (0, 0) 22 15 [some (.inr (.inr (some 2011))), some (.inl 37)] [.inl 108] (st0 m) o
    exact hk
  exact ok_rt (fun fx _ => rt_n hM_22 d_22_15 rfl (by decide) (by decide +kernel)) H
theorem sa_11_37 {m : am_M} : ok 3 22 0 (am_ent 2 [.inr (.inr (some 2011)), .inl 37]) [] m (fun rr m' => rr = [.inl 108] ∧ m' = m) := usa_11_37 ⟨rfl, rfl⟩
theorem usa_11_38 {Q : List am_V → am_M → Prop} {m : am_M}   (H : Q [.inl 105] m) : ok 3 22 0 [some (.inr (.inr (some 2011))), some (.inl 38)] [] m Q := by
  refine ok_sg (pc' := 15) (ls' := [some (.inr (.inr (some 2011))), some (.inl 38)]) (st' := [.inl 105]) (m' := m) (fun fx hfx o hk => ?_) ?_
  · refine r_ld (pc' := 1) hM_22 d_22_0 rfl rfl ?_
    refine r_cl (pc' := 4) (c := (23, 0)) (a := [.inr (.inr (some 2011))]) (q := []) hM_22 d_22_1 rfl (by decide +kernel) hM_23 rfl rfl rfl (Nat.le_of_ble_eq_true rfl) (Nat.le_of_ble_eq_true rfl) (Or.inr rfl) (ok_rnk (sl_11 (m := m)) hfx) (Nat.le_of_ble_eq_true rfl) ?_
    show rn fx 3 (0, 0) 22 4 [some (.inr (.inr (some 2011))), some (.inl 38)] [.inl 1] (st0 m) o
    refine r_if (pc' := 16) (pc2 := 7) hM_22 d_22_4 (by decide) rfl (fun hc => absurd hc (show ¬ (am_s 1 = 0) by decide)) (fun _ => ?_)
    refine r_ld (pc' := 8) hM_22 d_22_7 rfl rfl ?_
    refine r_gF (pc' := 11) (v := .inr (.inr (some 3011))) hM_22 d_22_8 rfl (by decide) (by decide +kernel) ?_
    refine r_ld (pc' := 12) hM_22 d_22_11 rfl rfl ?_
    refine r_cl (pc' := 15) (c := (24, 2)) (a := [.inr (.inr (some 3011)), .inl 38]) (q := []) hM_22 d_22_12 rfl (by decide +kernel) hM_24 rfl rfl rfl (Nat.le_of_ble_eq_true rfl) (Nat.le_of_ble_eq_true rfl) (Or.inl rfl) (ok_rnk (sb_11_38 (m := m)) hfx) (Nat.le_of_ble_eq_true rfl) ?_
    show rn fx 3 (0, 0) 22 15 [some (.inr (.inr (some 2011))), some (.inl 38)] [.inl 105] (st0 m) o
    exact hk
  exact ok_rt (fun fx _ => rt_n hM_22 d_22_15 rfl (by decide) (by decide +kernel)) H
theorem sa_11_38 {m : am_M} : ok 3 22 0 (am_ent 2 [.inr (.inr (some 2011)), .inl 38]) [] m (fun rr m' => rr = [.inl 105] ∧ m' = m) := usa_11_38 ⟨rfl, rfl⟩
theorem usa_11_39 {Q : List am_V → am_M → Prop} {m : am_M}   (H : Q [.inl 101] m) : ok 3 22 0 [some (.inr (.inr (some 2011))), some (.inl 39)] [] m Q := by
  refine ok_sg (pc' := 15) (ls' := [some (.inr (.inr (some 2011))), some (.inl 39)]) (st' := [.inl 101]) (m' := m) (fun fx hfx o hk => ?_) ?_
  · refine r_ld (pc' := 1) hM_22 d_22_0 rfl rfl ?_
    refine r_cl (pc' := 4) (c := (23, 0)) (a := [.inr (.inr (some 2011))]) (q := []) hM_22 d_22_1 rfl (by decide +kernel) hM_23 rfl rfl rfl (Nat.le_of_ble_eq_true rfl) (Nat.le_of_ble_eq_true rfl) (Or.inr rfl) (ok_rnk (sl_11 (m := m)) hfx) (Nat.le_of_ble_eq_true rfl) ?_
    show rn fx 3 (0, 0) 22 4 [some (.inr (.inr (some 2011))), some (.inl 39)] [.inl 1] (st0 m) o
    refine r_if (pc' := 16) (pc2 := 7) hM_22 d_22_4 (by decide) rfl (fun hc => absurd hc (show ¬ (am_s 1 = 0) by decide)) (fun _ => ?_)
    refine r_ld (pc' := 8) hM_22 d_22_7 rfl rfl ?_
    refine r_gF (pc' := 11) (v := .inr (.inr (some 3011))) hM_22 d_22_8 rfl (by decide) (by decide +kernel) ?_
    refine r_ld (pc' := 12) hM_22 d_22_11 rfl rfl ?_
    refine r_cl (pc' := 15) (c := (24, 2)) (a := [.inr (.inr (some 3011)), .inl 39]) (q := []) hM_22 d_22_12 rfl (by decide +kernel) hM_24 rfl rfl rfl (Nat.le_of_ble_eq_true rfl) (Nat.le_of_ble_eq_true rfl) (Or.inl rfl) (ok_rnk (sb_11_39 (m := m)) hfx) (Nat.le_of_ble_eq_true rfl) ?_
    show rn fx 3 (0, 0) 22 15 [some (.inr (.inr (some 2011))), some (.inl 39)] [.inl 101] (st0 m) o
    exact hk
  exact ok_rt (fun fx _ => rt_n hM_22 d_22_15 rfl (by decide) (by decide +kernel)) H
theorem sa_11_39 {m : am_M} : ok 3 22 0 (am_ent 2 [.inr (.inr (some 2011)), .inl 39]) [] m (fun rr m' => rr = [.inl 101] ∧ m' = m) := usa_11_39 ⟨rfl, rfl⟩
theorem usa_11_40 {Q : List am_V → am_M → Prop} {m : am_M}   (H : Q [.inl 32] m) : ok 3 22 0 [some (.inr (.inr (some 2011))), some (.inl 40)] [] m Q := by
  refine ok_sg (pc' := 15) (ls' := [some (.inr (.inr (some 2011))), some (.inl 40)]) (st' := [.inl 32]) (m' := m) (fun fx hfx o hk => ?_) ?_
  · refine r_ld (pc' := 1) hM_22 d_22_0 rfl rfl ?_
    refine r_cl (pc' := 4) (c := (23, 0)) (a := [.inr (.inr (some 2011))]) (q := []) hM_22 d_22_1 rfl (by decide +kernel) hM_23 rfl rfl rfl (Nat.le_of_ble_eq_true rfl) (Nat.le_of_ble_eq_true rfl) (Or.inr rfl) (ok_rnk (sl_11 (m := m)) hfx) (Nat.le_of_ble_eq_true rfl) ?_
    show rn fx 3 (0, 0) 22 4 [some (.inr (.inr (some 2011))), some (.inl 40)] [.inl 1] (st0 m) o
    refine r_if (pc' := 16) (pc2 := 7) hM_22 d_22_4 (by decide) rfl (fun hc => absurd hc (show ¬ (am_s 1 = 0) by decide)) (fun _ => ?_)
    refine r_ld (pc' := 8) hM_22 d_22_7 rfl rfl ?_
    refine r_gF (pc' := 11) (v := .inr (.inr (some 3011))) hM_22 d_22_8 rfl (by decide) (by decide +kernel) ?_
    refine r_ld (pc' := 12) hM_22 d_22_11 rfl rfl ?_
    refine r_cl (pc' := 15) (c := (24, 2)) (a := [.inr (.inr (some 3011)), .inl 40]) (q := []) hM_22 d_22_12 rfl (by decide +kernel) hM_24 rfl rfl rfl (Nat.le_of_ble_eq_true rfl) (Nat.le_of_ble_eq_true rfl) (Or.inl rfl) (ok_rnk (sb_11_40 (m := m)) hfx) (Nat.le_of_ble_eq_true rfl) ?_
    show rn fx 3 (0, 0) 22 15 [some (.inr (.inr (some 2011))), some (.inl 40)] [.inl 32] (st0 m) o
    exact hk
  exact ok_rt (fun fx _ => rt_n hM_22 d_22_15 rfl (by decide) (by decide +kernel)) H
theorem sa_11_40 {m : am_M} : ok 3 22 0 (am_ent 2 [.inr (.inr (some 2011)), .inl 40]) [] m (fun rr m' => rr = [.inl 32] ∧ m' = m) := usa_11_40 ⟨rfl, rfl⟩
theorem usa_11_41 {Q : List am_V → am_M → Prop} {m : am_M}   (H : Q [.inl 104] m) : ok 3 22 0 [some (.inr (.inr (some 2011))), some (.inl 41)] [] m Q := by
  refine ok_sg (pc' := 15) (ls' := [some (.inr (.inr (some 2011))), some (.inl 41)]) (st' := [.inl 104]) (m' := m) (fun fx hfx o hk => ?_) ?_
  · refine r_ld (pc' := 1) hM_22 d_22_0 rfl rfl ?_
    refine r_cl (pc' := 4) (c := (23, 0)) (a := [.inr (.inr (some 2011))]) (q := []) hM_22 d_22_1 rfl (by decide +kernel) hM_23 rfl rfl rfl (Nat.le_of_ble_eq_true rfl) (Nat.le_of_ble_eq_true rfl) (Or.inr rfl) (ok_rnk (sl_11 (m := m)) hfx) (Nat.le_of_ble_eq_true rfl) ?_
    show rn fx 3 (0, 0) 22 4 [some (.inr (.inr (some 2011))), some (.inl 41)] [.inl 1] (st0 m) o
    refine r_if (pc' := 16) (pc2 := 7) hM_22 d_22_4 (by decide) rfl (fun hc => absurd hc (show ¬ (am_s 1 = 0) by decide)) (fun _ => ?_)
    refine r_ld (pc' := 8) hM_22 d_22_7 rfl rfl ?_
    refine r_gF (pc' := 11) (v := .inr (.inr (some 3011))) hM_22 d_22_8 rfl (by decide) (by decide +kernel) ?_
    refine r_ld (pc' := 12) hM_22 d_22_11 rfl rfl ?_
    refine r_cl (pc' := 15) (c := (24, 2)) (a := [.inr (.inr (some 3011)), .inl 41]) (q := []) hM_22 d_22_12 rfl (by decide +kernel) hM_24 rfl rfl rfl (Nat.le_of_ble_eq_true rfl) (Nat.le_of_ble_eq_true rfl) (Or.inl rfl) (ok_rnk (sb_11_41 (m := m)) hfx) (Nat.le_of_ble_eq_true rfl) ?_
    show rn fx 3 (0, 0) 22 15 [some (.inr (.inr (some 2011))), some (.inl 41)] [.inl 104] (st0 m) o
    exact hk
  exact ok_rt (fun fx _ => rt_n hM_22 d_22_15 rfl (by decide) (by decide +kernel)) H
theorem sa_11_41 {m : am_M} : ok 3 22 0 (am_ent 2 [.inr (.inr (some 2011)), .inl 41]) [] m (fun rr m' => rr = [.inl 104] ∧ m' = m) := usa_11_41 ⟨rfl, rfl⟩
theorem usa_11_42 {Q : List am_V → am_M → Prop} {m : am_M}   (H : Q [.inl 97] m) : ok 3 22 0 [some (.inr (.inr (some 2011))), some (.inl 42)] [] m Q := by
  refine ok_sg (pc' := 15) (ls' := [some (.inr (.inr (some 2011))), some (.inl 42)]) (st' := [.inl 97]) (m' := m) (fun fx hfx o hk => ?_) ?_
  · refine r_ld (pc' := 1) hM_22 d_22_0 rfl rfl ?_
    refine r_cl (pc' := 4) (c := (23, 0)) (a := [.inr (.inr (some 2011))]) (q := []) hM_22 d_22_1 rfl (by decide +kernel) hM_23 rfl rfl rfl (Nat.le_of_ble_eq_true rfl) (Nat.le_of_ble_eq_true rfl) (Or.inr rfl) (ok_rnk (sl_11 (m := m)) hfx) (Nat.le_of_ble_eq_true rfl) ?_
    show rn fx 3 (0, 0) 22 4 [some (.inr (.inr (some 2011))), some (.inl 42)] [.inl 1] (st0 m) o
    refine r_if (pc' := 16) (pc2 := 7) hM_22 d_22_4 (by decide) rfl (fun hc => absurd hc (show ¬ (am_s 1 = 0) by decide)) (fun _ => ?_)
    refine r_ld (pc' := 8) hM_22 d_22_7 rfl rfl ?_
    refine r_gF (pc' := 11) (v := .inr (.inr (some 3011))) hM_22 d_22_8 rfl (by decide) (by decide +kernel) ?_
    refine r_ld (pc' := 12) hM_22 d_22_11 rfl rfl ?_
    refine r_cl (pc' := 15) (c := (24, 2)) (a := [.inr (.inr (some 3011)), .inl 42]) (q := []) hM_22 d_22_12 rfl (by decide +kernel) hM_24 rfl rfl rfl (Nat.le_of_ble_eq_true rfl) (Nat.le_of_ble_eq_true rfl) (Or.inl rfl) (ok_rnk (sb_11_42 (m := m)) hfx) (Nat.le_of_ble_eq_true rfl) ?_
    show rn fx 3 (0, 0) 22 15 [some (.inr (.inr (some 2011))), some (.inl 42)] [.inl 97] (st0 m) o
    exact hk
  exact ok_rt (fun fx _ => rt_n hM_22 d_22_15 rfl (by decide) (by decide +kernel)) H
theorem sa_11_42 {m : am_M} : ok 3 22 0 (am_ent 2 [.inr (.inr (some 2011)), .inl 42]) [] m (fun rr m' => rr = [.inl 97] ∧ m' = m) := usa_11_42 ⟨rfl, rfl⟩
theorem usa_11_43 {Q : List am_V → am_M → Prop} {m : am_M}   (H : Q [.inl 110] m) : ok 3 22 0 [some (.inr (.inr (some 2011))), some (.inl 43)] [] m Q := by
  refine ok_sg (pc' := 15) (ls' := [some (.inr (.inr (some 2011))), some (.inl 43)]) (st' := [.inl 110]) (m' := m) (fun fx hfx o hk => ?_) ?_
  · refine r_ld (pc' := 1) hM_22 d_22_0 rfl rfl ?_
    refine r_cl (pc' := 4) (c := (23, 0)) (a := [.inr (.inr (some 2011))]) (q := []) hM_22 d_22_1 rfl (by decide +kernel) hM_23 rfl rfl rfl (Nat.le_of_ble_eq_true rfl) (Nat.le_of_ble_eq_true rfl) (Or.inr rfl) (ok_rnk (sl_11 (m := m)) hfx) (Nat.le_of_ble_eq_true rfl) ?_
    show rn fx 3 (0, 0) 22 4 [some (.inr (.inr (some 2011))), some (.inl 43)] [.inl 1] (st0 m) o
    refine r_if (pc' := 16) (pc2 := 7) hM_22 d_22_4 (by decide) rfl (fun hc => absurd hc (show ¬ (am_s 1 = 0) by decide)) (fun _ => ?_)
    refine r_ld (pc' := 8) hM_22 d_22_7 rfl rfl ?_
    refine r_gF (pc' := 11) (v := .inr (.inr (some 3011))) hM_22 d_22_8 rfl (by decide) (by decide +kernel) ?_
    refine r_ld (pc' := 12) hM_22 d_22_11 rfl rfl ?_
    refine r_cl (pc' := 15) (c := (24, 2)) (a := [.inr (.inr (some 3011)), .inl 43]) (q := []) hM_22 d_22_12 rfl (by decide +kernel) hM_24 rfl rfl rfl (Nat.le_of_ble_eq_true rfl) (Nat.le_of_ble_eq_true rfl) (Or.inl rfl) (ok_rnk (sb_11_43 (m := m)) hfx) (Nat.le_of_ble_eq_true rfl) ?_
    show rn fx 3 (0, 0) 22 15 [some (.inr (.inr (some 2011))), some (.inl 43)] [.inl 110] (st0 m) o
    exact hk
  exact ok_rt (fun fx _ => rt_n hM_22 d_22_15 rfl (by decide) (by decide +kernel)) H
theorem sa_11_43 {m : am_M} : ok 3 22 0 (am_ent 2 [.inr (.inr (some 2011)), .inl 43]) [] m (fun rr m' => rr = [.inl 110] ∧ m' = m) := usa_11_43 ⟨rfl, rfl⟩
theorem usa_11_44 {Q : List am_V → am_M → Prop} {m : am_M}   (H : Q [.inl 100] m) : ok 3 22 0 [some (.inr (.inr (some 2011))), some (.inl 44)] [] m Q := by
  refine ok_sg (pc' := 15) (ls' := [some (.inr (.inr (some 2011))), some (.inl 44)]) (st' := [.inl 100]) (m' := m) (fun fx hfx o hk => ?_) ?_
  · refine r_ld (pc' := 1) hM_22 d_22_0 rfl rfl ?_
    refine r_cl (pc' := 4) (c := (23, 0)) (a := [.inr (.inr (some 2011))]) (q := []) hM_22 d_22_1 rfl (by decide +kernel) hM_23 rfl rfl rfl (Nat.le_of_ble_eq_true rfl) (Nat.le_of_ble_eq_true rfl) (Or.inr rfl) (ok_rnk (sl_11 (m := m)) hfx) (Nat.le_of_ble_eq_true rfl) ?_
    show rn fx 3 (0, 0) 22 4 [some (.inr (.inr (some 2011))), some (.inl 44)] [.inl 1] (st0 m) o
    refine r_if (pc' := 16) (pc2 := 7) hM_22 d_22_4 (by decide) rfl (fun hc => absurd hc (show ¬ (am_s 1 = 0) by decide)) (fun _ => ?_)
    refine r_ld (pc' := 8) hM_22 d_22_7 rfl rfl ?_
    refine r_gF (pc' := 11) (v := .inr (.inr (some 3011))) hM_22 d_22_8 rfl (by decide) (by decide +kernel) ?_
    refine r_ld (pc' := 12) hM_22 d_22_11 rfl rfl ?_
    refine r_cl (pc' := 15) (c := (24, 2)) (a := [.inr (.inr (some 3011)), .inl 44]) (q := []) hM_22 d_22_12 rfl (by decide +kernel) hM_24 rfl rfl rfl (Nat.le_of_ble_eq_true rfl) (Nat.le_of_ble_eq_true rfl) (Or.inl rfl) (ok_rnk (sb_11_44 (m := m)) hfx) (Nat.le_of_ble_eq_true rfl) ?_
    show rn fx 3 (0, 0) 22 15 [some (.inr (.inr (some 2011))), some (.inl 44)] [.inl 100] (st0 m) o
    exact hk
  exact ok_rt (fun fx _ => rt_n hM_22 d_22_15 rfl (by decide) (by decide +kernel)) H
theorem sa_11_44 {m : am_M} : ok 3 22 0 (am_ent 2 [.inr (.inr (some 2011)), .inl 44]) [] m (fun rr m' => rr = [.inl 100] ∧ m' = m) := usa_11_44 ⟨rfl, rfl⟩
theorem usa_11_45 {Q : List am_V → am_M → Prop} {m : am_M}   (H : Q [.inl 115] m) : ok 3 22 0 [some (.inr (.inr (some 2011))), some (.inl 45)] [] m Q := by
  refine ok_sg (pc' := 15) (ls' := [some (.inr (.inr (some 2011))), some (.inl 45)]) (st' := [.inl 115]) (m' := m) (fun fx hfx o hk => ?_) ?_
  · refine r_ld (pc' := 1) hM_22 d_22_0 rfl rfl ?_
    refine r_cl (pc' := 4) (c := (23, 0)) (a := [.inr (.inr (some 2011))]) (q := []) hM_22 d_22_1 rfl (by decide +kernel) hM_23 rfl rfl rfl (Nat.le_of_ble_eq_true rfl) (Nat.le_of_ble_eq_true rfl) (Or.inr rfl) (ok_rnk (sl_11 (m := m)) hfx) (Nat.le_of_ble_eq_true rfl) ?_
    show rn fx 3 (0, 0) 22 4 [some (.inr (.inr (some 2011))), some (.inl 45)] [.inl 1] (st0 m) o
    refine r_if (pc' := 16) (pc2 := 7) hM_22 d_22_4 (by decide) rfl (fun hc => absurd hc (show ¬ (am_s 1 = 0) by decide)) (fun _ => ?_)
    refine r_ld (pc' := 8) hM_22 d_22_7 rfl rfl ?_
    refine r_gF (pc' := 11) (v := .inr (.inr (some 3011))) hM_22 d_22_8 rfl (by decide) (by decide +kernel) ?_
    refine r_ld (pc' := 12) hM_22 d_22_11 rfl rfl ?_
    refine r_cl (pc' := 15) (c := (24, 2)) (a := [.inr (.inr (some 3011)), .inl 45]) (q := []) hM_22 d_22_12 rfl (by decide +kernel) hM_24 rfl rfl rfl (Nat.le_of_ble_eq_true rfl) (Nat.le_of_ble_eq_true rfl) (Or.inl rfl) (ok_rnk (sb_11_45 (m := m)) hfx) (Nat.le_of_ble_eq_true rfl) ?_
    show rn fx 3 (0, 0) 22 15 [some (.inr (.inr (some 2011))), some (.inl 45)] [.inl 115] (st0 m) o
    exact hk
  exact ok_rt (fun fx _ => rt_n hM_22 d_22_15 rfl (by decide) (by decide +kernel)) H
theorem sa_11_45 {m : am_M} : ok 3 22 0 (am_ent 2 [.inr (.inr (some 2011)), .inl 45]) [] m (fun rr m' => rr = [.inl 115] ∧ m' = m) := usa_11_45 ⟨rfl, rfl⟩
theorem usa_11_46 {Q : List am_V → am_M → Prop} {m : am_M}   (H : Q [.inl 32] m) : ok 3 22 0 [some (.inr (.inr (some 2011))), some (.inl 46)] [] m Q := by
  refine ok_sg (pc' := 15) (ls' := [some (.inr (.inr (some 2011))), some (.inl 46)]) (st' := [.inl 32]) (m' := m) (fun fx hfx o hk => ?_) ?_
  · refine r_ld (pc' := 1) hM_22 d_22_0 rfl rfl ?_
    refine r_cl (pc' := 4) (c := (23, 0)) (a := [.inr (.inr (some 2011))]) (q := []) hM_22 d_22_1 rfl (by decide +kernel) hM_23 rfl rfl rfl (Nat.le_of_ble_eq_true rfl) (Nat.le_of_ble_eq_true rfl) (Or.inr rfl) (ok_rnk (sl_11 (m := m)) hfx) (Nat.le_of_ble_eq_true rfl) ?_
    show rn fx 3 (0, 0) 22 4 [some (.inr (.inr (some 2011))), some (.inl 46)] [.inl 1] (st0 m) o
    refine r_if (pc' := 16) (pc2 := 7) hM_22 d_22_4 (by decide) rfl (fun hc => absurd hc (show ¬ (am_s 1 = 0) by decide)) (fun _ => ?_)
    refine r_ld (pc' := 8) hM_22 d_22_7 rfl rfl ?_
    refine r_gF (pc' := 11) (v := .inr (.inr (some 3011))) hM_22 d_22_8 rfl (by decide) (by decide +kernel) ?_
    refine r_ld (pc' := 12) hM_22 d_22_11 rfl rfl ?_
    refine r_cl (pc' := 15) (c := (24, 2)) (a := [.inr (.inr (some 3011)), .inl 46]) (q := []) hM_22 d_22_12 rfl (by decide +kernel) hM_24 rfl rfl rfl (Nat.le_of_ble_eq_true rfl) (Nat.le_of_ble_eq_true rfl) (Or.inl rfl) (ok_rnk (sb_11_46 (m := m)) hfx) (Nat.le_of_ble_eq_true rfl) ?_
    show rn fx 3 (0, 0) 22 15 [some (.inr (.inr (some 2011))), some (.inl 46)] [.inl 32] (st0 m) o
    exact hk
  exact ok_rt (fun fx _ => rt_n hM_22 d_22_15 rfl (by decide) (by decide +kernel)) H
theorem sa_11_46 {m : am_M} : ok 3 22 0 (am_ent 2 [.inr (.inr (some 2011)), .inl 46]) [] m (fun rr m' => rr = [.inl 32] ∧ m' = m) := usa_11_46 ⟨rfl, rfl⟩
theorem usa_11_47 {Q : List am_V → am_M → Prop} {m : am_M}   (H : Q [.inl 108] m) : ok 3 22 0 [some (.inr (.inr (some 2011))), some (.inl 47)] [] m Q := by
  refine ok_sg (pc' := 15) (ls' := [some (.inr (.inr (some 2011))), some (.inl 47)]) (st' := [.inl 108]) (m' := m) (fun fx hfx o hk => ?_) ?_
  · refine r_ld (pc' := 1) hM_22 d_22_0 rfl rfl ?_
    refine r_cl (pc' := 4) (c := (23, 0)) (a := [.inr (.inr (some 2011))]) (q := []) hM_22 d_22_1 rfl (by decide +kernel) hM_23 rfl rfl rfl (Nat.le_of_ble_eq_true rfl) (Nat.le_of_ble_eq_true rfl) (Or.inr rfl) (ok_rnk (sl_11 (m := m)) hfx) (Nat.le_of_ble_eq_true rfl) ?_
    show rn fx 3 (0, 0) 22 4 [some (.inr (.inr (some 2011))), some (.inl 47)] [.inl 1] (st0 m) o
    refine r_if (pc' := 16) (pc2 := 7) hM_22 d_22_4 (by decide) rfl (fun hc => absurd hc (show ¬ (am_s 1 = 0) by decide)) (fun _ => ?_)
    refine r_ld (pc' := 8) hM_22 d_22_7 rfl rfl ?_
    refine r_gF (pc' := 11) (v := .inr (.inr (some 3011))) hM_22 d_22_8 rfl (by decide) (by decide +kernel) ?_
    refine r_ld (pc' := 12) hM_22 d_22_11 rfl rfl ?_
    refine r_cl (pc' := 15) (c := (24, 2)) (a := [.inr (.inr (some 3011)), .inl 47]) (q := []) hM_22 d_22_12 rfl (by decide +kernel) hM_24 rfl rfl rfl (Nat.le_of_ble_eq_true rfl) (Nat.le_of_ble_eq_true rfl) (Or.inl rfl) (ok_rnk (sb_11_47 (m := m)) hfx) (Nat.le_of_ble_eq_true rfl) ?_
    show rn fx 3 (0, 0) 22 15 [some (.inr (.inr (some 2011))), some (.inl 47)] [.inl 108] (st0 m) o
    exact hk
  exact ok_rt (fun fx _ => rt_n hM_22 d_22_15 rfl (by decide) (by decide +kernel)) H
theorem sa_11_47 {m : am_M} : ok 3 22 0 (am_ent 2 [.inr (.inr (some 2011)), .inl 47]) [] m (fun rr m' => rr = [.inl 108] ∧ m' = m) := usa_11_47 ⟨rfl, rfl⟩
theorem usa_11_48 {Q : List am_V → am_M → Prop} {m : am_M}   (H : Q [.inl 101] m) : ok 3 22 0 [some (.inr (.inr (some 2011))), some (.inl 48)] [] m Q := by
  refine ok_sg (pc' := 15) (ls' := [some (.inr (.inr (some 2011))), some (.inl 48)]) (st' := [.inl 101]) (m' := m) (fun fx hfx o hk => ?_) ?_
  · refine r_ld (pc' := 1) hM_22 d_22_0 rfl rfl ?_
    refine r_cl (pc' := 4) (c := (23, 0)) (a := [.inr (.inr (some 2011))]) (q := []) hM_22 d_22_1 rfl (by decide +kernel) hM_23 rfl rfl rfl (Nat.le_of_ble_eq_true rfl) (Nat.le_of_ble_eq_true rfl) (Or.inr rfl) (ok_rnk (sl_11 (m := m)) hfx) (Nat.le_of_ble_eq_true rfl) ?_
    show rn fx 3 (0, 0) 22 4 [some (.inr (.inr (some 2011))), some (.inl 48)] [.inl 1] (st0 m) o
    refine r_if (pc' := 16) (pc2 := 7) hM_22 d_22_4 (by decide) rfl (fun hc => absurd hc (show ¬ (am_s 1 = 0) by decide)) (fun _ => ?_)
    refine r_ld (pc' := 8) hM_22 d_22_7 rfl rfl ?_
    refine r_gF (pc' := 11) (v := .inr (.inr (some 3011))) hM_22 d_22_8 rfl (by decide) (by decide +kernel) ?_
    refine r_ld (pc' := 12) hM_22 d_22_11 rfl rfl ?_
    refine r_cl (pc' := 15) (c := (24, 2)) (a := [.inr (.inr (some 3011)), .inl 48]) (q := []) hM_22 d_22_12 rfl (by decide +kernel) hM_24 rfl rfl rfl (Nat.le_of_ble_eq_true rfl) (Nat.le_of_ble_eq_true rfl) (Or.inl rfl) (ok_rnk (sb_11_48 (m := m)) hfx) (Nat.le_of_ble_eq_true rfl) ?_
    show rn fx 3 (0, 0) 22 15 [some (.inr (.inr (some 2011))), some (.inl 48)] [.inl 101] (st0 m) o
    exact hk
  exact ok_rt (fun fx _ => rt_n hM_22 d_22_15 rfl (by decide) (by decide +kernel)) H
theorem sa_11_48 {m : am_M} : ok 3 22 0 (am_ent 2 [.inr (.inr (some 2011)), .inl 48]) [] m (fun rr m' => rr = [.inl 101] ∧ m' = m) := usa_11_48 ⟨rfl, rfl⟩
theorem usa_11_49 {Q : List am_V → am_M → Prop} {m : am_M}   (H : Q [.inl 102] m) : ok 3 22 0 [some (.inr (.inr (some 2011))), some (.inl 49)] [] m Q := by
  refine ok_sg (pc' := 15) (ls' := [some (.inr (.inr (some 2011))), some (.inl 49)]) (st' := [.inl 102]) (m' := m) (fun fx hfx o hk => ?_) ?_
  · refine r_ld (pc' := 1) hM_22 d_22_0 rfl rfl ?_
    refine r_cl (pc' := 4) (c := (23, 0)) (a := [.inr (.inr (some 2011))]) (q := []) hM_22 d_22_1 rfl (by decide +kernel) hM_23 rfl rfl rfl (Nat.le_of_ble_eq_true rfl) (Nat.le_of_ble_eq_true rfl) (Or.inr rfl) (ok_rnk (sl_11 (m := m)) hfx) (Nat.le_of_ble_eq_true rfl) ?_
    show rn fx 3 (0, 0) 22 4 [some (.inr (.inr (some 2011))), some (.inl 49)] [.inl 1] (st0 m) o
    refine r_if (pc' := 16) (pc2 := 7) hM_22 d_22_4 (by decide) rfl (fun hc => absurd hc (show ¬ (am_s 1 = 0) by decide)) (fun _ => ?_)
    refine r_ld (pc' := 8) hM_22 d_22_7 rfl rfl ?_
    refine r_gF (pc' := 11) (v := .inr (.inr (some 3011))) hM_22 d_22_8 rfl (by decide) (by decide +kernel) ?_
    refine r_ld (pc' := 12) hM_22 d_22_11 rfl rfl ?_
    refine r_cl (pc' := 15) (c := (24, 2)) (a := [.inr (.inr (some 3011)), .inl 49]) (q := []) hM_22 d_22_12 rfl (by decide +kernel) hM_24 rfl rfl rfl (Nat.le_of_ble_eq_true rfl) (Nat.le_of_ble_eq_true rfl) (Or.inl rfl) (ok_rnk (sb_11_49 (m := m)) hfx) (Nat.le_of_ble_eq_true rfl) ?_
    show rn fx 3 (0, 0) 22 15 [some (.inr (.inr (some 2011))), some (.inl 49)] [.inl 102] (st0 m) o
    exact hk
  exact ok_rt (fun fx _ => rt_n hM_22 d_22_15 rfl (by decide) (by decide +kernel)) H
theorem sa_11_49 {m : am_M} : ok 3 22 0 (am_ent 2 [.inr (.inr (some 2011)), .inl 49]) [] m (fun rr m' => rr = [.inl 102] ∧ m' = m) := usa_11_49 ⟨rfl, rfl⟩
theorem usa_11_50 {Q : List am_V → am_M → Prop} {m : am_M}   (H : Q [.inl 116] m) : ok 3 22 0 [some (.inr (.inr (some 2011))), some (.inl 50)] [] m Q := by
  refine ok_sg (pc' := 15) (ls' := [some (.inr (.inr (some 2011))), some (.inl 50)]) (st' := [.inl 116]) (m' := m) (fun fx hfx o hk => ?_) ?_
  · refine r_ld (pc' := 1) hM_22 d_22_0 rfl rfl ?_
    refine r_cl (pc' := 4) (c := (23, 0)) (a := [.inr (.inr (some 2011))]) (q := []) hM_22 d_22_1 rfl (by decide +kernel) hM_23 rfl rfl rfl (Nat.le_of_ble_eq_true rfl) (Nat.le_of_ble_eq_true rfl) (Or.inr rfl) (ok_rnk (sl_11 (m := m)) hfx) (Nat.le_of_ble_eq_true rfl) ?_
    show rn fx 3 (0, 0) 22 4 [some (.inr (.inr (some 2011))), some (.inl 50)] [.inl 1] (st0 m) o
    refine r_if (pc' := 16) (pc2 := 7) hM_22 d_22_4 (by decide) rfl (fun hc => absurd hc (show ¬ (am_s 1 = 0) by decide)) (fun _ => ?_)
    refine r_ld (pc' := 8) hM_22 d_22_7 rfl rfl ?_
    refine r_gF (pc' := 11) (v := .inr (.inr (some 3011))) hM_22 d_22_8 rfl (by decide) (by decide +kernel) ?_
    refine r_ld (pc' := 12) hM_22 d_22_11 rfl rfl ?_
    refine r_cl (pc' := 15) (c := (24, 2)) (a := [.inr (.inr (some 3011)), .inl 50]) (q := []) hM_22 d_22_12 rfl (by decide +kernel) hM_24 rfl rfl rfl (Nat.le_of_ble_eq_true rfl) (Nat.le_of_ble_eq_true rfl) (Or.inl rfl) (ok_rnk (sb_11_50 (m := m)) hfx) (Nat.le_of_ble_eq_true rfl) ?_
    show rn fx 3 (0, 0) 22 15 [some (.inr (.inr (some 2011))), some (.inl 50)] [.inl 116] (st0 m) o
    exact hk
  exact ok_rt (fun fx _ => rt_n hM_22 d_22_15 rfl (by decide) (by decide +kernel)) H
theorem sa_11_50 {m : am_M} : ok 3 22 0 (am_ent 2 [.inr (.inr (some 2011)), .inl 50]) [] m (fun rr m' => rr = [.inl 116] ∧ m' = m) := usa_11_50 ⟨rfl, rfl⟩
theorem usa_11_51 {Q : List am_V → am_M → Prop} {m : am_M}   (H : Q [.inl 32] m) : ok 3 22 0 [some (.inr (.inr (some 2011))), some (.inl 51)] [] m Q := by
  refine ok_sg (pc' := 15) (ls' := [some (.inr (.inr (some 2011))), some (.inl 51)]) (st' := [.inl 32]) (m' := m) (fun fx hfx o hk => ?_) ?_
  · refine r_ld (pc' := 1) hM_22 d_22_0 rfl rfl ?_
    refine r_cl (pc' := 4) (c := (23, 0)) (a := [.inr (.inr (some 2011))]) (q := []) hM_22 d_22_1 rfl (by decide +kernel) hM_23 rfl rfl rfl (Nat.le_of_ble_eq_true rfl) (Nat.le_of_ble_eq_true rfl) (Or.inr rfl) (ok_rnk (sl_11 (m := m)) hfx) (Nat.le_of_ble_eq_true rfl) ?_
    show rn fx 3 (0, 0) 22 4 [some (.inr (.inr (some 2011))), some (.inl 51)] [.inl 1] (st0 m) o
    refine r_if (pc' := 16) (pc2 := 7) hM_22 d_22_4 (by decide) rfl (fun hc => absurd hc (show ¬ (am_s 1 = 0) by decide)) (fun _ => ?_)
    refine r_ld (pc' := 8) hM_22 d_22_7 rfl rfl ?_
    refine r_gF (pc' := 11) (v := .inr (.inr (some 3011))) hM_22 d_22_8 rfl (by decide) (by decide +kernel) ?_
    refine r_ld (pc' := 12) hM_22 d_22_11 rfl rfl ?_
    refine r_cl (pc' := 15) (c := (24, 2)) (a := [.inr (.inr (some 3011)), .inl 51]) (q := []) hM_22 d_22_12 rfl (by decide +kernel) hM_24 rfl rfl rfl (Nat.le_of_ble_eq_true rfl) (Nat.le_of_ble_eq_true rfl) (Or.inl rfl) (ok_rnk (sb_11_51 (m := m)) hfx) (Nat.le_of_ble_eq_true rfl) ?_
    show rn fx 3 (0, 0) 22 15 [some (.inr (.inr (some 2011))), some (.inl 51)] [.inl 32] (st0 m) o
    exact hk
  exact ok_rt (fun fx _ => rt_n hM_22 d_22_15 rfl (by decide) (by decide +kernel)) H
theorem sa_11_51 {m : am_M} : ok 3 22 0 (am_ent 2 [.inr (.inr (some 2011)), .inl 51]) [] m (fun rr m' => rr = [.inl 32] ∧ m' = m) := usa_11_51 ⟨rfl, rfl⟩
theorem usa_11_52 {Q : List am_V → am_M → Prop} {m : am_M}   (H : Q [.inl 99] m) : ok 3 22 0 [some (.inr (.inr (some 2011))), some (.inl 52)] [] m Q := by
  refine ok_sg (pc' := 15) (ls' := [some (.inr (.inr (some 2011))), some (.inl 52)]) (st' := [.inl 99]) (m' := m) (fun fx hfx o hk => ?_) ?_
  · refine r_ld (pc' := 1) hM_22 d_22_0 rfl rfl ?_
    refine r_cl (pc' := 4) (c := (23, 0)) (a := [.inr (.inr (some 2011))]) (q := []) hM_22 d_22_1 rfl (by decide +kernel) hM_23 rfl rfl rfl (Nat.le_of_ble_eq_true rfl) (Nat.le_of_ble_eq_true rfl) (Or.inr rfl) (ok_rnk (sl_11 (m := m)) hfx) (Nat.le_of_ble_eq_true rfl) ?_
    show rn fx 3 (0, 0) 22 4 [some (.inr (.inr (some 2011))), some (.inl 52)] [.inl 1] (st0 m) o
    refine r_if (pc' := 16) (pc2 := 7) hM_22 d_22_4 (by decide) rfl (fun hc => absurd hc (show ¬ (am_s 1 = 0) by decide)) (fun _ => ?_)
    refine r_ld (pc' := 8) hM_22 d_22_7 rfl rfl ?_
    refine r_gF (pc' := 11) (v := .inr (.inr (some 3011))) hM_22 d_22_8 rfl (by decide) (by decide +kernel) ?_
    refine r_ld (pc' := 12) hM_22 d_22_11 rfl rfl ?_
    refine r_cl (pc' := 15) (c := (24, 2)) (a := [.inr (.inr (some 3011)), .inl 52]) (q := []) hM_22 d_22_12 rfl (by decide +kernel) hM_24 rfl rfl rfl (Nat.le_of_ble_eq_true rfl) (Nat.le_of_ble_eq_true rfl) (Or.inl rfl) (ok_rnk (sb_11_52 (m := m)) hfx) (Nat.le_of_ble_eq_true rfl) ?_
    show rn fx 3 (0, 0) 22 15 [some (.inr (.inr (some 2011))), some (.inl 52)] [.inl 99] (st0 m) o
    exact hk
  exact ok_rt (fun fx _ => rt_n hM_22 d_22_15 rfl (by decide) (by decide +kernel)) H
theorem sa_11_52 {m : am_M} : ok 3 22 0 (am_ent 2 [.inr (.inr (some 2011)), .inl 52]) [] m (fun rr m' => rr = [.inl 99] ∧ m' = m) := usa_11_52 ⟨rfl, rfl⟩
theorem usa_11_53 {Q : List am_V → am_M → Prop} {m : am_M}   (H : Q [.inl 111] m) : ok 3 22 0 [some (.inr (.inr (some 2011))), some (.inl 53)] [] m Q := by
  refine ok_sg (pc' := 15) (ls' := [some (.inr (.inr (some 2011))), some (.inl 53)]) (st' := [.inl 111]) (m' := m) (fun fx hfx o hk => ?_) ?_
  · refine r_ld (pc' := 1) hM_22 d_22_0 rfl rfl ?_
    refine r_cl (pc' := 4) (c := (23, 0)) (a := [.inr (.inr (some 2011))]) (q := []) hM_22 d_22_1 rfl (by decide +kernel) hM_23 rfl rfl rfl (Nat.le_of_ble_eq_true rfl) (Nat.le_of_ble_eq_true rfl) (Or.inr rfl) (ok_rnk (sl_11 (m := m)) hfx) (Nat.le_of_ble_eq_true rfl) ?_
    show rn fx 3 (0, 0) 22 4 [some (.inr (.inr (some 2011))), some (.inl 53)] [.inl 1] (st0 m) o
    refine r_if (pc' := 16) (pc2 := 7) hM_22 d_22_4 (by decide) rfl (fun hc => absurd hc (show ¬ (am_s 1 = 0) by decide)) (fun _ => ?_)
    refine r_ld (pc' := 8) hM_22 d_22_7 rfl rfl ?_
    refine r_gF (pc' := 11) (v := .inr (.inr (some 3011))) hM_22 d_22_8 rfl (by decide) (by decide +kernel) ?_
    refine r_ld (pc' := 12) hM_22 d_22_11 rfl rfl ?_
    refine r_cl (pc' := 15) (c := (24, 2)) (a := [.inr (.inr (some 3011)), .inl 53]) (q := []) hM_22 d_22_12 rfl (by decide +kernel) hM_24 rfl rfl rfl (Nat.le_of_ble_eq_true rfl) (Nat.le_of_ble_eq_true rfl) (Or.inl rfl) (ok_rnk (sb_11_53 (m := m)) hfx) (Nat.le_of_ble_eq_true rfl) ?_
    show rn fx 3 (0, 0) 22 15 [some (.inr (.inr (some 2011))), some (.inl 53)] [.inl 111] (st0 m) o
    exact hk
  exact ok_rt (fun fx _ => rt_n hM_22 d_22_15 rfl (by decide) (by decide +kernel)) H
theorem sa_11_53 {m : am_M} : ok 3 22 0 (am_ent 2 [.inr (.inr (some 2011)), .inl 53]) [] m (fun rr m' => rr = [.inl 111] ∧ m' = m) := usa_11_53 ⟨rfl, rfl⟩
theorem usa_11_54 {Q : List am_V → am_M → Prop} {m : am_M}   (H : Q [.inl 108] m) : ok 3 22 0 [some (.inr (.inr (some 2011))), some (.inl 54)] [] m Q := by
  refine ok_sg (pc' := 15) (ls' := [some (.inr (.inr (some 2011))), some (.inl 54)]) (st' := [.inl 108]) (m' := m) (fun fx hfx o hk => ?_) ?_
  · refine r_ld (pc' := 1) hM_22 d_22_0 rfl rfl ?_
    refine r_cl (pc' := 4) (c := (23, 0)) (a := [.inr (.inr (some 2011))]) (q := []) hM_22 d_22_1 rfl (by decide +kernel) hM_23 rfl rfl rfl (Nat.le_of_ble_eq_true rfl) (Nat.le_of_ble_eq_true rfl) (Or.inr rfl) (ok_rnk (sl_11 (m := m)) hfx) (Nat.le_of_ble_eq_true rfl) ?_
    show rn fx 3 (0, 0) 22 4 [some (.inr (.inr (some 2011))), some (.inl 54)] [.inl 1] (st0 m) o
    refine r_if (pc' := 16) (pc2 := 7) hM_22 d_22_4 (by decide) rfl (fun hc => absurd hc (show ¬ (am_s 1 = 0) by decide)) (fun _ => ?_)
    refine r_ld (pc' := 8) hM_22 d_22_7 rfl rfl ?_
    refine r_gF (pc' := 11) (v := .inr (.inr (some 3011))) hM_22 d_22_8 rfl (by decide) (by decide +kernel) ?_
    refine r_ld (pc' := 12) hM_22 d_22_11 rfl rfl ?_
    refine r_cl (pc' := 15) (c := (24, 2)) (a := [.inr (.inr (some 3011)), .inl 54]) (q := []) hM_22 d_22_12 rfl (by decide +kernel) hM_24 rfl rfl rfl (Nat.le_of_ble_eq_true rfl) (Nat.le_of_ble_eq_true rfl) (Or.inl rfl) (ok_rnk (sb_11_54 (m := m)) hfx) (Nat.le_of_ble_eq_true rfl) ?_
    show rn fx 3 (0, 0) 22 15 [some (.inr (.inr (some 2011))), some (.inl 54)] [.inl 108] (st0 m) o
    exact hk
  exact ok_rt (fun fx _ => rt_n hM_22 d_22_15 rfl (by decide) (by decide +kernel)) H
theorem sa_11_54 {m : am_M} : ok 3 22 0 (am_ent 2 [.inr (.inr (some 2011)), .inl 54]) [] m (fun rr m' => rr = [.inl 108] ∧ m' = m) := usa_11_54 ⟨rfl, rfl⟩
theorem usa_11_55 {Q : List am_V → am_M → Prop} {m : am_M}   (H : Q [.inl 100] m) : ok 3 22 0 [some (.inr (.inr (some 2011))), some (.inl 55)] [] m Q := by
  refine ok_sg (pc' := 15) (ls' := [some (.inr (.inr (some 2011))), some (.inl 55)]) (st' := [.inl 100]) (m' := m) (fun fx hfx o hk => ?_) ?_
  · refine r_ld (pc' := 1) hM_22 d_22_0 rfl rfl ?_
    refine r_cl (pc' := 4) (c := (23, 0)) (a := [.inr (.inr (some 2011))]) (q := []) hM_22 d_22_1 rfl (by decide +kernel) hM_23 rfl rfl rfl (Nat.le_of_ble_eq_true rfl) (Nat.le_of_ble_eq_true rfl) (Or.inr rfl) (ok_rnk (sl_11 (m := m)) hfx) (Nat.le_of_ble_eq_true rfl) ?_
    show rn fx 3 (0, 0) 22 4 [some (.inr (.inr (some 2011))), some (.inl 55)] [.inl 1] (st0 m) o
    refine r_if (pc' := 16) (pc2 := 7) hM_22 d_22_4 (by decide) rfl (fun hc => absurd hc (show ¬ (am_s 1 = 0) by decide)) (fun _ => ?_)
    refine r_ld (pc' := 8) hM_22 d_22_7 rfl rfl ?_
    refine r_gF (pc' := 11) (v := .inr (.inr (some 3011))) hM_22 d_22_8 rfl (by decide) (by decide +kernel) ?_
    refine r_ld (pc' := 12) hM_22 d_22_11 rfl rfl ?_
    refine r_cl (pc' := 15) (c := (24, 2)) (a := [.inr (.inr (some 3011)), .inl 55]) (q := []) hM_22 d_22_12 rfl (by decide +kernel) hM_24 rfl rfl rfl (Nat.le_of_ble_eq_true rfl) (Nat.le_of_ble_eq_true rfl) (Or.inl rfl) (ok_rnk (sb_11_55 (m := m)) hfx) (Nat.le_of_ble_eq_true rfl) ?_
    show rn fx 3 (0, 0) 22 15 [some (.inr (.inr (some 2011))), some (.inl 55)] [.inl 100] (st0 m) o
    exact hk
  exact ok_rt (fun fx _ => rt_n hM_22 d_22_15 rfl (by decide) (by decide +kernel)) H
theorem sa_11_55 {m : am_M} : ok 3 22 0 (am_ent 2 [.inr (.inr (some 2011)), .inl 55]) [] m (fun rr m' => rr = [.inl 100] ∧ m' = m) := usa_11_55 ⟨rfl, rfl⟩
theorem usa_11_56 {Q : List am_V → am_M → Prop} {m : am_M}   (H : Q [.inl 32] m) : ok 3 22 0 [some (.inr (.inr (some 2011))), some (.inl 56)] [] m Q := by
  refine ok_sg (pc' := 15) (ls' := [some (.inr (.inr (some 2011))), some (.inl 56)]) (st' := [.inl 32]) (m' := m) (fun fx hfx o hk => ?_) ?_
  · refine r_ld (pc' := 1) hM_22 d_22_0 rfl rfl ?_
    refine r_cl (pc' := 4) (c := (23, 0)) (a := [.inr (.inr (some 2011))]) (q := []) hM_22 d_22_1 rfl (by decide +kernel) hM_23 rfl rfl rfl (Nat.le_of_ble_eq_true rfl) (Nat.le_of_ble_eq_true rfl) (Or.inr rfl) (ok_rnk (sl_11 (m := m)) hfx) (Nat.le_of_ble_eq_true rfl) ?_
    show rn fx 3 (0, 0) 22 4 [some (.inr (.inr (some 2011))), some (.inl 56)] [.inl 1] (st0 m) o
    refine r_if (pc' := 16) (pc2 := 7) hM_22 d_22_4 (by decide) rfl (fun hc => absurd hc (show ¬ (am_s 1 = 0) by decide)) (fun _ => ?_)
    refine r_ld (pc' := 8) hM_22 d_22_7 rfl rfl ?_
    refine r_gF (pc' := 11) (v := .inr (.inr (some 3011))) hM_22 d_22_8 rfl (by decide) (by decide +kernel) ?_
    refine r_ld (pc' := 12) hM_22 d_22_11 rfl rfl ?_
    refine r_cl (pc' := 15) (c := (24, 2)) (a := [.inr (.inr (some 3011)), .inl 56]) (q := []) hM_22 d_22_12 rfl (by decide +kernel) hM_24 rfl rfl rfl (Nat.le_of_ble_eq_true rfl) (Nat.le_of_ble_eq_true rfl) (Or.inl rfl) (ok_rnk (sb_11_56 (m := m)) hfx) (Nat.le_of_ble_eq_true rfl) ?_
    show rn fx 3 (0, 0) 22 15 [some (.inr (.inr (some 2011))), some (.inl 56)] [.inl 32] (st0 m) o
    exact hk
  exact ok_rt (fun fx _ => rt_n hM_22 d_22_15 rfl (by decide) (by decide +kernel)) H
theorem sa_11_56 {m : am_M} : ok 3 22 0 (am_ent 2 [.inr (.inr (some 2011)), .inl 56]) [] m (fun rr m' => rr = [.inl 32] ∧ m' = m) := usa_11_56 ⟨rfl, rfl⟩
theorem usp_0 {Q : List am_V → am_M → Prop} {m : am_M}   (H : Q [.inr (.inr (some 2000))] m) : ok 0 18 0 [some (.inl 0)] [] m Q := by
  refine ok_sg (pc' := 58) (ls' := [some (.inl 0)]) (st' := [.inr (.inr (some 2000))]) (m' := m) (fun fx hfx o hk => ?_) ?_
  · refine r_ld (pc' := 1) hM_18 d_18_0 rfl rfl ?_
    refine r_tsI (pc' := 56) (off := 0) (t := 55) hM_18 d_18_1 (by decide) (by decide) rfl (by decide) ?_
    refine r_k (pc' := 58) (v := .inr (.inr (some 2000))) hM_18 d_18_56 rfl (by decide +kernel) ?_
    exact hk
  exact ok_rt (fun fx _ => rt_a hM_18 d_18_58 rfl) H
theorem sp_0 {m : am_M} : ok 0 18 0 (am_ent 1 [.inl 0]) [] m (fun rr m' => rr = [.inr (.inr (some 2000))] ∧ m' = m) := usp_0 ⟨rfl, rfl⟩
theorem usp_1 {Q : List am_V → am_M → Prop} {m : am_M}   (H : Q [.inr (.inr (some 2001))] m) : ok 0 18 0 [some (.inl 1)] [] m Q := by
  refine ok_sg (pc' := 61) (ls' := [some (.inl 1)]) (st' := [.inr (.inr (some 2001))]) (m' := m) (fun fx hfx o hk => ?_) ?_
  · refine r_ld (pc' := 1) hM_18 d_18_0 rfl rfl ?_
    refine r_tsI (pc' := 59) (off := 1) (t := 58) hM_18 d_18_1 (by decide) (by decide) rfl (by decide) ?_
    refine r_k (pc' := 61) (v := .inr (.inr (some 2001))) hM_18 d_18_59 rfl (by decide +kernel) ?_
    exact hk
  exact ok_rt (fun fx _ => rt_a hM_18 d_18_61 rfl) H
theorem sp_1 {m : am_M} : ok 0 18 0 (am_ent 1 [.inl 1]) [] m (fun rr m' => rr = [.inr (.inr (some 2001))] ∧ m' = m) := usp_1 ⟨rfl, rfl⟩
theorem usp_2 {Q : List am_V → am_M → Prop} {m : am_M}   (H : Q [.inr (.inr (some 2002))] m) : ok 0 18 0 [some (.inl 2)] [] m Q := by
  refine ok_sg (pc' := 64) (ls' := [some (.inl 2)]) (st' := [.inr (.inr (some 2002))]) (m' := m) (fun fx hfx o hk => ?_) ?_
  · refine r_ld (pc' := 1) hM_18 d_18_0 rfl rfl ?_
    refine r_tsI (pc' := 62) (off := 2) (t := 61) hM_18 d_18_1 (by decide) (by decide) rfl (by decide) ?_
    refine r_k (pc' := 64) (v := .inr (.inr (some 2002))) hM_18 d_18_62 rfl (by decide +kernel) ?_
    exact hk
  exact ok_rt (fun fx _ => rt_a hM_18 d_18_64 rfl) H
theorem sp_2 {m : am_M} : ok 0 18 0 (am_ent 1 [.inl 2]) [] m (fun rr m' => rr = [.inr (.inr (some 2002))] ∧ m' = m) := usp_2 ⟨rfl, rfl⟩
theorem usp_3 {Q : List am_V → am_M → Prop} {m : am_M}   (H : Q [.inr (.inr (some 2003))] m) : ok 0 18 0 [some (.inl 3)] [] m Q := by
  refine ok_sg (pc' := 67) (ls' := [some (.inl 3)]) (st' := [.inr (.inr (some 2003))]) (m' := m) (fun fx hfx o hk => ?_) ?_
  · refine r_ld (pc' := 1) hM_18 d_18_0 rfl rfl ?_
    refine r_tsI (pc' := 65) (off := 3) (t := 64) hM_18 d_18_1 (by decide) (by decide) rfl (by decide) ?_
    refine r_k (pc' := 67) (v := .inr (.inr (some 2003))) hM_18 d_18_65 rfl (by decide +kernel) ?_
    exact hk
  exact ok_rt (fun fx _ => rt_a hM_18 d_18_67 rfl) H
theorem sp_3 {m : am_M} : ok 0 18 0 (am_ent 1 [.inl 3]) [] m (fun rr m' => rr = [.inr (.inr (some 2003))] ∧ m' = m) := usp_3 ⟨rfl, rfl⟩
theorem usp_4 {Q : List am_V → am_M → Prop} {m : am_M}   (H : Q [.inr (.inr (some 2004))] m) : ok 0 18 0 [some (.inl 4)] [] m Q := by
  refine ok_sg (pc' := 70) (ls' := [some (.inl 4)]) (st' := [.inr (.inr (some 2004))]) (m' := m) (fun fx hfx o hk => ?_) ?_
  · refine r_ld (pc' := 1) hM_18 d_18_0 rfl rfl ?_
    refine r_tsI (pc' := 68) (off := 4) (t := 67) hM_18 d_18_1 (by decide) (by decide) rfl (by decide) ?_
    refine r_k (pc' := 70) (v := .inr (.inr (some 2004))) hM_18 d_18_68 rfl (by decide +kernel) ?_
    exact hk
  exact ok_rt (fun fx _ => rt_a hM_18 d_18_70 rfl) H
theorem sp_4 {m : am_M} : ok 0 18 0 (am_ent 1 [.inl 4]) [] m (fun rr m' => rr = [.inr (.inr (some 2004))] ∧ m' = m) := usp_4 ⟨rfl, rfl⟩
theorem usp_5 {Q : List am_V → am_M → Prop} {m : am_M}   (H : Q [.inr (.inr (some 2005))] m) : ok 0 18 0 [some (.inl 5)] [] m Q := by
  refine ok_sg (pc' := 73) (ls' := [some (.inl 5)]) (st' := [.inr (.inr (some 2005))]) (m' := m) (fun fx hfx o hk => ?_) ?_
  · refine r_ld (pc' := 1) hM_18 d_18_0 rfl rfl ?_
    refine r_tsI (pc' := 71) (off := 5) (t := 70) hM_18 d_18_1 (by decide) (by decide) rfl (by decide) ?_
    refine r_k (pc' := 73) (v := .inr (.inr (some 2005))) hM_18 d_18_71 rfl (by decide +kernel) ?_
    exact hk
  exact ok_rt (fun fx _ => rt_a hM_18 d_18_73 rfl) H
theorem sp_5 {m : am_M} : ok 0 18 0 (am_ent 1 [.inl 5]) [] m (fun rr m' => rr = [.inr (.inr (some 2005))] ∧ m' = m) := usp_5 ⟨rfl, rfl⟩
theorem usp_6 {Q : List am_V → am_M → Prop} {m : am_M}   (H : Q [.inr (.inr (some 2006))] m) : ok 0 18 0 [some (.inl 6)] [] m Q := by
  refine ok_sg (pc' := 76) (ls' := [some (.inl 6)]) (st' := [.inr (.inr (some 2006))]) (m' := m) (fun fx hfx o hk => ?_) ?_
  · refine r_ld (pc' := 1) hM_18 d_18_0 rfl rfl ?_
    refine r_tsI (pc' := 74) (off := 6) (t := 73) hM_18 d_18_1 (by decide) (by decide) rfl (by decide) ?_
    refine r_k (pc' := 76) (v := .inr (.inr (some 2006))) hM_18 d_18_74 rfl (by decide +kernel) ?_
    exact hk
  exact ok_rt (fun fx _ => rt_a hM_18 d_18_76 rfl) H
theorem sp_6 {m : am_M} : ok 0 18 0 (am_ent 1 [.inl 6]) [] m (fun rr m' => rr = [.inr (.inr (some 2006))] ∧ m' = m) := usp_6 ⟨rfl, rfl⟩
theorem usp_7 {Q : List am_V → am_M → Prop} {m : am_M}   (H : Q [.inr (.inr (some 2007))] m) : ok 0 18 0 [some (.inl 7)] [] m Q := by
  refine ok_sg (pc' := 79) (ls' := [some (.inl 7)]) (st' := [.inr (.inr (some 2007))]) (m' := m) (fun fx hfx o hk => ?_) ?_
  · refine r_ld (pc' := 1) hM_18 d_18_0 rfl rfl ?_
    refine r_tsI (pc' := 77) (off := 7) (t := 76) hM_18 d_18_1 (by decide) (by decide) rfl (by decide) ?_
    refine r_k (pc' := 79) (v := .inr (.inr (some 2007))) hM_18 d_18_77 rfl (by decide +kernel) ?_
    exact hk
  exact ok_rt (fun fx _ => rt_a hM_18 d_18_79 rfl) H
theorem sp_7 {m : am_M} : ok 0 18 0 (am_ent 1 [.inl 7]) [] m (fun rr m' => rr = [.inr (.inr (some 2007))] ∧ m' = m) := usp_7 ⟨rfl, rfl⟩
theorem usp_8 {Q : List am_V → am_M → Prop} {m : am_M}   (H : Q [.inr (.inr (some 2008))] m) : ok 0 18 0 [some (.inl 8)] [] m Q := by
  refine ok_sg (pc' := 82) (ls' := [some (.inl 8)]) (st' := [.inr (.inr (some 2008))]) (m' := m) (fun fx hfx o hk => ?_) ?_
  · refine r_ld (pc' := 1) hM_18 d_18_0 rfl rfl ?_
    refine r_tsI (pc' := 80) (off := 8) (t := 79) hM_18 d_18_1 (by decide) (by decide) rfl (by decide) ?_
    refine r_k (pc' := 82) (v := .inr (.inr (some 2008))) hM_18 d_18_80 rfl (by decide +kernel) ?_
    exact hk
  exact ok_rt (fun fx _ => rt_a hM_18 d_18_82 rfl) H
theorem sp_8 {m : am_M} : ok 0 18 0 (am_ent 1 [.inl 8]) [] m (fun rr m' => rr = [.inr (.inr (some 2008))] ∧ m' = m) := usp_8 ⟨rfl, rfl⟩
theorem usp_9 {Q : List am_V → am_M → Prop} {m : am_M}   (H : Q [.inr (.inr (some 2009))] m) : ok 0 18 0 [some (.inl 9)] [] m Q := by
  refine ok_sg (pc' := 85) (ls' := [some (.inl 9)]) (st' := [.inr (.inr (some 2009))]) (m' := m) (fun fx hfx o hk => ?_) ?_
  · refine r_ld (pc' := 1) hM_18 d_18_0 rfl rfl ?_
    refine r_tsI (pc' := 83) (off := 9) (t := 82) hM_18 d_18_1 (by decide) (by decide) rfl (by decide) ?_
    refine r_k (pc' := 85) (v := .inr (.inr (some 2009))) hM_18 d_18_83 rfl (by decide +kernel) ?_
    exact hk
  exact ok_rt (fun fx _ => rt_a hM_18 d_18_85 rfl) H
theorem sp_9 {m : am_M} : ok 0 18 0 (am_ent 1 [.inl 9]) [] m (fun rr m' => rr = [.inr (.inr (some 2009))] ∧ m' = m) := usp_9 ⟨rfl, rfl⟩
theorem usp_10 {Q : List am_V → am_M → Prop} {m : am_M}   (H : Q [.inr (.inr (some 2010))] m) : ok 0 18 0 [some (.inl 10)] [] m Q := by
  refine ok_sg (pc' := 88) (ls' := [some (.inl 10)]) (st' := [.inr (.inr (some 2010))]) (m' := m) (fun fx hfx o hk => ?_) ?_
  · refine r_ld (pc' := 1) hM_18 d_18_0 rfl rfl ?_
    refine r_tsO (pc' := 86) hM_18 d_18_1 (by decide) (by decide) ?_
    refine r_k (pc' := 88) (v := .inr (.inr (some 2010))) hM_18 d_18_86 rfl (by decide +kernel) ?_
    exact hk
  exact ok_rt (fun fx _ => rt_a hM_18 d_18_88 rfl) H
theorem sp_10 {m : am_M} : ok 0 18 0 (am_ent 1 [.inl 10]) [] m (fun rr m' => rr = [.inr (.inr (some 2010))] ∧ m' = m) := usp_10 ⟨rfl, rfl⟩
