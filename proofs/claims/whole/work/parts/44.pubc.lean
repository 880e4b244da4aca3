theorem t_38_0 {fx : am_X0} {o : List am_V × am_S} {m : am_M} {a : Int}  (H : ((am_s a = 0) → o = ([.inl (m 33 7)], st0 m)) ∧ (((am_s a = 1) → o = ([.inl (m 33 8)], st0 m)) ∧ (((¬ am_s a = 0 ∧ ¬ am_s a = 1) → o = ([.inl (-1)], st0 m))))) : rn fx 0 (0, 0) 38 0 [some (.inr (.inr (some 0))), some (.inl a)] [] (st0 m) o := by
  refine r_ld (pc' := 1) hM_38 d_38_0 rfl rfl ?_
  by_cases hc : am_s a = 0
  · have H := H.1 hc
    refine r_br (pc' := 28) (st' := []) hM_38 d_38_1 (by unfold am_br; simp only [hc]; rfl) ?_
    refine r_ld (pc' := 29) hM_38 d_38_28 rfl rfl ?_
    refine r_gR (pc' := 32) (v := 33) hM_38 d_38_29 rfl (by decide +kernel) ?_
    refine r_gI (pc' := 35) (k0 := 7) hM_38 d_38_32 rfl (by decide +kernel) ?_
    subst H
    exact rt_i hM_38 d_38_35 rfl
  replace H := H.2
  have hc0 := hc
  clear hc
  by_cases hc : am_s a = 1
  · have H := H.1 hc
    refine r_br (pc' := 36) (st' := []) hM_38 d_38_1 (by unfold am_br; simp only [hc]; rfl) ?_
    refine r_ld (pc' := 37) hM_38 d_38_36 rfl rfl ?_
    refine r_gR (pc' := 40) (v := 33) hM_38 d_38_37 rfl (by decide +kernel) ?_
    refine r_gI (pc' := 43) (k0 := 8) hM_38 d_38_40 rfl (by decide +kernel) ?_
    subst H
    exact rt_i hM_38 d_38_43 rfl
  replace H := H.2
  have hc1 := hc
  clear hc
  replace H := H ⟨hc0, hc1⟩
  refine r_br (pc' := 44) (st' := []) hM_38 d_38_1 (by simp [am_br, Op.lookupswitch.offset, am_jmp, hc0, hc1, Ne.symm hc0, Ne.symm hc1]) ?_
  refine r_k (pc' := 45) (v := .inl (-1)) hM_38 d_38_44 rfl rfl ?_
  subst H
  exact rt_i hM_38 d_38_45 rfl
def v_38 (m : am_M) (a : Int) : Int := (if am_s a = 0 then (m 33 7) else (if am_s a = 1 then (m 33 8) else (-1)))
/-- HeardBarrels.fault -/
theorem c_38 {fx : am_X0}   (m : am_M) (a : Int)  : rn fx 0 (0, 0) 38 0 (am_ent 2 [.inr (.inr (some 0)), .inl a]) [] (st0 m) ([.inl (v_38 m a)], st0 m) := by
  show rn fx 0 (0, 0) 38 0 [some (.inr (.inr (some 0))), some (.inl a)] [] (st0 m) _
  refine t_38_0  ?_
  refine ⟨fun hc0 => ?_, ?_⟩
  · skip
    simp only [v_38, if_pos hc0]
  · skip
    refine ⟨fun hc1 => ?_, ?_⟩
    · skip
      have hn1_0 : ¬ (am_s a = 0) := by omega
      simp only [v_38, if_neg hn1_0, if_pos hc1]
    · skip
      intro hd
      have hn_0 : ¬ (am_s a = 0) := by omega
      have hn_1 : ¬ (am_s a = 1) := by omega
      simp only [v_38, if_neg hn_0, if_neg hn_1]
theorem t_39_0 {fx : am_X0} {o : List am_V × am_S} {m : am_M} {p : Int} {a : Int}  (H : (WFG (vw m 2)) ∧ (((¬ am_s ((if 0 ≤ am_s p ∧ am_s p < m 2 4 then 1 else 0)) = 0) → ((am_s a = 0) → (0 ≤ am_s p ∧ am_s p < (12 : Nat)) ∧ (o = ([.inl (m 3 ((am_s p).toNat))], st0 m))) ∧ (((am_s a = 1) → (0 ≤ am_s p ∧ am_s p < (12 : Nat)) ∧ (o = ([.inl (m 4 ((am_s p).toNat))], st0 m))) ∧ (((am_s a = 2) → (0 ≤ am_s p ∧ am_s p < (12 : Nat)) ∧ (o = ([.inl (m 5 ((am_s p).toNat))], st0 m))) ∧ (((am_s a = 3) → (0 ≤ am_s p ∧ am_s p < (12 : Nat)) ∧ (o = ([.inl (m 6 ((am_s p).toNat))], st0 m))) ∧ (((am_s a < 0 ∨ 3 < am_s a) → o = ([.inl (-2)], st0 m))))))) ∧ (¬ (¬ am_s ((if 0 ≤ am_s p ∧ am_s p < m 2 4 then 1 else 0)) = 0) → o = ([.inl (-2)], st0 m)))) : rn fx 1 (0, 0) 39 0 [some (.inr (.inr (some 0))), some (.inl p), some (.inl a)] [] (st0 m) o := by
  refine r_ld (pc' := 1) hM_39 d_39_0 rfl rfl ?_
  refine r_gR (pc' := 4) (v := 2) hM_39 d_39_1 rfl (by decide +kernel) ?_
  refine r_ld (pc' := 5) hM_39 d_39_4 rfl rfl ?_
  obtain ⟨hz1, H⟩ := H
  refine r_cl (pc' := 8) (c := (40, 0)) (a := [.inr (.inr (some 2)), .inl p]) (q := []) hM_39 d_39_5 rfl (by decide +kernel) hM_40 rfl rfl rfl (Nat.le_of_ble_eq_true rfl) (Nat.le_of_ble_eq_true rfl) (Or.inr rfl) (n_40 (by decide) m p hz1) (Nat.le_of_ble_eq_true rfl) ?_
  show rn fx 1 (0, 0) 39 8 [some (.inr (.inr (some 0))), some (.inl p), some (.inl a)] [.inl ((if 0 ≤ am_s p ∧ am_s p < m 2 4 then 1 else 0))] (st0 m) o
  refine r_if (pc' := 14) (pc2 := 11) hM_39 d_39_8 (by decide) rfl (fun hz2 => ?_) (fun hz2 => ?_)
  · have H := H.1 hz2
    refine r_ld (pc' := 15) hM_39 d_39_14 rfl rfl ?_
    by_cases hc : am_s a = 0
    · have H := H.1 hc
      refine r_tsI (pc' := 44) (off := 0) (t := 29) hM_39 d_39_15 (by rw [hc]; rfl) (by decide) rfl (by decide) ?_
      refine r_ld (pc' := 45) hM_39 d_39_44 rfl rfl ?_
      refine r_gR (pc' := 48) (v := 2) hM_39 d_39_45 rfl (by decide +kernel) ?_
      refine r_gR (pc' := 51) (v := 3) hM_39 d_39_48 rfl (by decide +kernel) ?_
      refine r_ld (pc' := 52) hM_39 d_39_51 rfl rfl ?_
      obtain ⟨hz3, H⟩ := H
      refine r_ia (pc' := 53) (n := 12) hM_39 d_39_52 rfl rfl hz3 ?_
      subst H
      exact rt_i hM_39 d_39_53 rfl
    replace H := H.2
    have hc0 := hc
    clear hc
    by_cases hc : am_s a = 1
    · have H := H.1 hc
      refine r_tsI (pc' := 54) (off := 1) (t := 39) hM_39 d_39_15 (by rw [hc]; rfl) (by decide) rfl (by decide) ?_
      refine r_ld (pc' := 55) hM_39 d_39_54 rfl rfl ?_
      refine r_gR (pc' := 58) (v := 2) hM_39 d_39_55 rfl (by decide +kernel) ?_
      refine r_gR (pc' := 61) (v := 4) hM_39 d_39_58 rfl (by decide +kernel) ?_
      refine r_ld (pc' := 62) hM_39 d_39_61 rfl rfl ?_
      obtain ⟨hz4, H⟩ := H
      refine r_ia (pc' := 63) (n := 12) hM_39 d_39_62 rfl rfl hz4 ?_
      subst H
      exact rt_i hM_39 d_39_63 rfl
    replace H := H.2
    have hc1 := hc
    clear hc
    by_cases hc : am_s a = 2
    · have H := H.1 hc
      refine r_tsI (pc' := 64) (off := 2) (t := 49) hM_39 d_39_15 (by rw [hc]; rfl) (by decide) rfl (by decide) ?_
      refine r_ld (pc' := 65) hM_39 d_39_64 rfl rfl ?_
      refine r_gR (pc' := 68) (v := 2) hM_39 d_39_65 rfl (by decide +kernel) ?_
      refine r_gR (pc' := 71) (v := 5) hM_39 d_39_68 rfl (by decide +kernel) ?_
      refine r_ld (pc' := 72) hM_39 d_39_71 rfl rfl ?_
      obtain ⟨hz5, H⟩ := H
      refine r_ia (pc' := 73) (n := 12) hM_39 d_39_72 rfl rfl hz5 ?_
      subst H
      exact rt_i hM_39 d_39_73 rfl
    replace H := H.2
    have hc2 := hc
    clear hc
    by_cases hc : am_s a = 3
    · have H := H.1 hc
      refine r_tsI (pc' := 74) (off := 3) (t := 59) hM_39 d_39_15 (by rw [hc]; rfl) (by decide) rfl (by decide) ?_
      refine r_ld (pc' := 75) hM_39 d_39_74 rfl rfl ?_
      refine r_gR (pc' := 78) (v := 2) hM_39 d_39_75 rfl (by decide +kernel) ?_
      refine r_gR (pc' := 81) (v := 6) hM_39 d_39_78 rfl (by decide +kernel) ?_
      refine r_ld (pc' := 82) hM_39 d_39_81 rfl rfl ?_
      obtain ⟨hz6, H⟩ := H
      refine r_ia (pc' := 83) (n := 12) hM_39 d_39_82 rfl rfl hz6 ?_
      subst H
      exact rt_i hM_39 d_39_83 rfl
    replace H := H.2
    have hc3 := hc
    clear hc
    have ho : am_s a < 0 ∨ 3 < am_s a := by omega
    replace H := H ho
    refine r_tsO (pc' := 84) hM_39 d_39_15 ho (by decide) ?_
    refine r_k (pc' := 86) (v := .inl (-2)) hM_39 d_39_84 rfl rfl ?_
    subst H
    exact rt_i hM_39 d_39_86 rfl
  · have H := H.2 hz2
    refine r_k (pc' := 13) (v := .inl (-2)) hM_39 d_39_11 rfl rfl ?_
    subst H
    exact rt_i hM_39 d_39_13 rfl
def v_39 (m : am_M) (p : Int) (a : Int) : Int := (if ¬ am_s ((if 0 ≤ am_s p ∧ am_s p < m 2 4 then 1 else 0)) = 0 then (if am_s a = 0 then (m 3 ((am_s p).toNat)) else (if am_s a = 1 then (m 4 ((am_s p).toNat)) else (if am_s a = 2 then (m 5 ((am_s p).toNat)) else (if am_s a = 3 then (m 6 ((am_s p).toNat)) else (-2))))) else (-2))
def q_39 (m : am_M) (p : Int) (a : Int) : Prop := (WFG (vw m 2)) ∧ (((¬ am_s ((if 0 ≤ am_s p ∧ am_s p < m 2 4 then 1 else 0)) = 0) → (((am_s a = 0) → (0 ≤ am_s p ∧ am_s p < (12 : Nat))) ∧ (((am_s a = 1) → (0 ≤ am_s p ∧ am_s p < (12 : Nat))) ∧ (((am_s a = 2) → (0 ≤ am_s p ∧ am_s p < (12 : Nat))) ∧ (((am_s a = 3) → (0 ≤ am_s p ∧ am_s p < (12 : Nat)))))))))
/-- HeardBarrels.barrel -/
theorem c_39 {fx : am_X0}   (m : am_M) (p : Int) (a : Int) (hq : q_39 m p a) : rn fx 1 (0, 0) 39 0 (am_ent 3 [.inr (.inr (some 0)), .inl p, .inl a]) [] (st0 m) ([.inl (v_39 m p a)], st0 m) := by
  unfold q_39 at hq
  show rn fx 1 (0, 0) 39 0 [some (.inr (.inr (some 0))), some (.inl p), some (.inl a)] [] (st0 m) _
  refine t_39_0  ?_
  obtain ⟨hb0_0, hq⟩ := hq
  refine ⟨hb0_0, ?_⟩
  refine ⟨fun hc0 => ?_, fun hc0 => ?_⟩
  · have hq := hq hc0
    refine ⟨fun hc10 => ?_, ?_⟩
    · have hq := hq.1 hc10
      have hb2_0 := hq
      refine ⟨hb2_0, ?_⟩
      simp only [v_39, if_pos hc0, if_pos hc10]
    · have hq := hq.2
      refine ⟨fun hc11 => ?_, ?_⟩
      · have hq := hq.1 hc11
        have hn11_0 : ¬ (am_s a = 0) := by omega
        have hb3_0 := hq
        refine ⟨hb3_0, ?_⟩
        simp only [v_39, if_pos hc0, if_neg hn11_0, if_pos hc11]
      · have hq := hq.2
        refine ⟨fun hc12 => ?_, ?_⟩
        · have hq := hq.1 hc12
          have hn12_0 : ¬ (am_s a = 0) := by omega
          have hn12_1 : ¬ (am_s a = 1) := by omega
          have hb4_0 := hq
          refine ⟨hb4_0, ?_⟩
          simp only [v_39, if_pos hc0, if_neg hn12_0, if_neg hn12_1, if_pos hc12]
        · have hq := hq.2
          refine ⟨fun hc13 => ?_, ?_⟩
          · have hq := hq hc13
            have hn13_0 : ¬ (am_s a = 0) := by omega
            have hn13_1 : ¬ (am_s a = 1) := by omega
            have hn13_2 : ¬ (am_s a = 2) := by omega
            have hb5_0 := hq
            refine ⟨hb5_0, ?_⟩
            simp only [v_39, if_pos hc0, if_neg hn13_0, if_neg hn13_1, if_neg hn13_2, if_pos hc13]
          · skip
            intro hd
            have hn_0 : ¬ (am_s a = 0) := by omega
            have hn_1 : ¬ (am_s a = 1) := by omega
            have hn_2 : ¬ (am_s a = 2) := by omega
            have hn_3 : ¬ (am_s a = 3) := by omega
            simp only [v_39, if_pos hc0, if_neg hn_0, if_neg hn_1, if_neg hn_2, if_neg hn_3]
  · skip
    simp only [v_39, if_neg hc0]
theorem t_41_0 {fx : am_X0} {o : List am_V × am_S} {m : am_M} {p : Int} {q : Int}  (H : (WFG (vw m 2)) ∧ (((am_s ((if 0 ≤ am_s p ∧ am_s p < m 2 4 then 1 else 0)) = 0) → o = ([.inl (-2)], st0 m)) ∧ (¬ (am_s ((if 0 ≤ am_s p ∧ am_s p < m 2 4 then 1 else 0)) = 0) → ((¬ am_s ((if 0 ≤ am_s q ∧ am_s q < m 2 4 then 1 else 0)) = 0) → (q_42 m 2 p q) ∧ (o = ([.inl 0], st0 (w_42 m 2 p q)))) ∧ (¬ (¬ am_s ((if 0 ≤ am_s q ∧ am_s q < m 2 4 then 1 else 0)) = 0) → o = ([.inl (-2)], st0 m))))) : rn fx 2 (0, 0) 41 0 [some (.inr (.inr (some 0))), some (.inl p), some (.inl q)] [] (st0 m) o := by
  refine r_ld (pc' := 1) hM_41 d_41_0 rfl rfl ?_
  refine r_gR (pc' := 4) (v := 2) hM_41 d_41_1 rfl (by decide +kernel) ?_
  refine r_ld (pc' := 5) hM_41 d_41_4 rfl rfl ?_
  obtain ⟨hz1, H⟩ := H
  refine r_cl (pc' := 8) (c := (40, 0)) (a := [.inr (.inr (some 2)), .inl p]) (q := []) hM_41 d_41_5 rfl (by decide +kernel) hM_40 rfl rfl rfl (Nat.le_of_ble_eq_true rfl) (Nat.le_of_ble_eq_true rfl) (Or.inr rfl) (n_40 (by decide) m p hz1) (Nat.le_of_ble_eq_true rfl) ?_
  show rn fx 2 (0, 0) 41 8 [some (.inr (.inr (some 0))), some (.inl p), some (.inl q)] [.inl ((if 0 ≤ am_s p ∧ am_s p < m 2 4 then 1 else 0))] (st0 m) o
  refine r_if (pc' := 22) (pc2 := 11) hM_41 d_41_8 (by decide) rfl (fun hz2 => ?_) (fun hz2 => ?_)
  · have H := H.1 hz2
    refine r_k (pc' := 24) (v := .inl (-2)) hM_41 d_41_22 rfl rfl ?_
    subst H
    exact rt_i hM_41 d_41_24 rfl
  · have H := H.2 hz2
    refine r_ld (pc' := 12) hM_41 d_41_11 rfl rfl ?_
    refine r_gR (pc' := 15) (v := 2) hM_41 d_41_12 rfl (by decide +kernel) ?_
    refine r_ld (pc' := 16) hM_41 d_41_15 rfl rfl ?_
    refine r_cl (pc' := 19) (c := (40, 0)) (a := [.inr (.inr (some 2)), .inl q]) (q := []) hM_41 d_41_16 rfl (by decide +kernel) hM_40 rfl rfl rfl (Nat.le_of_ble_eq_true rfl) (Nat.le_of_ble_eq_true rfl) (Or.inr rfl) (n_40 (by decide) m q hz1) (Nat.le_of_ble_eq_true rfl) ?_
    show rn fx 2 (0, 0) 41 19 [some (.inr (.inr (some 0))), some (.inl p), some (.inl q)] [.inl ((if 0 ≤ am_s q ∧ am_s q < m 2 4 then 1 else 0))] (st0 m) o
    refine r_if (pc' := 25) (pc2 := 22) hM_41 d_41_19 (by decide) rfl (fun hz3 => ?_) (fun hz3 => ?_)
    · have H := H.1 hz3
      refine r_ld (pc' := 26) hM_41 d_41_25 rfl rfl ?_
      refine r_gR (pc' := 29) (v := 2) hM_41 d_41_26 rfl (by decide +kernel) ?_
      refine r_ld (pc' := 30) hM_41 d_41_29 rfl rfl ?_
      refine r_ld (pc' := 31) hM_41 d_41_30 rfl rfl ?_
      obtain ⟨hz4, H⟩ := H
      refine r_cl (pc' := 34) (c := (42, 0)) (a := [.inr (.inr (some 2)), .inl p, .inl q]) (q := []) hM_41 d_41_31 rfl (by decide +kernel) hM_42 rfl rfl rfl (Nat.le_of_ble_eq_true rfl) (Nat.le_of_ble_eq_true rfl) (Or.inr rfl) (c_42 (by decide) m p q hz4) (Nat.le_of_ble_eq_true rfl) ?_
      show rn fx 2 (0, 0) 41 34 [some (.inr (.inr (some 0))), some (.inl p), some (.inl q)] [] (st0 (w_42 m 2 p q)) o
      refine r_k (pc' := 35) (v := .inl 0) hM_41 d_41_34 rfl rfl ?_
      subst H
      exact rt_i hM_41 d_41_35 rfl
    · have H := H.2 hz3
      refine r_k (pc' := 24) (v := .inl (-2)) hM_41 d_41_22 rfl rfl ?_
      subst H
      exact rt_i hM_41 d_41_24 rfl
def v_41 (m : am_M) (p : Int) (q : Int) : Int := (if am_s ((if 0 ≤ am_s p ∧ am_s p < m 2 4 then 1 else 0)) = 0 then (-2) else (if ¬ am_s ((if 0 ≤ am_s q ∧ am_s q < m 2 4 then 1 else 0)) = 0 then 0 else (-2)))
def w_41 (m : am_M) (p : Int) (q : Int) : am_M := (if am_s ((if 0 ≤ am_s p ∧ am_s p < m 2 4 then 1 else 0)) = 0 then m else (if ¬ am_s ((if 0 ≤ am_s q ∧ am_s q < m 2 4 then 1 else 0)) = 0 then (w_42 m 2 p q) else m))
def q_41 (m : am_M) (p : Int) (q : Int) : Prop := (WFG (vw m 2)) ∧ ((¬ (am_s ((if 0 ≤ am_s p ∧ am_s p < m 2 4 then 1 else 0)) = 0) → (((¬ am_s ((if 0 ≤ am_s q ∧ am_s q < m 2 4 then 1 else 0)) = 0) → (q_42 m 2 p q)))))
/-- HeardBarrels.swap -/
theorem c_41 {fx : am_X0}   (m : am_M) (p : Int) (q : Int) (hq : q_41 m p q) : rn fx 2 (0, 0) 41 0 (am_ent 3 [.inr (.inr (some 0)), .inl p, .inl q]) [] (st0 m) ([.inl (v_41 m p q)], st0 (w_41 m p q)) := by
  unfold q_41 at hq
  show rn fx 2 (0, 0) 41 0 [some (.inr (.inr (some 0))), some (.inl p), some (.inl q)] [] (st0 m) _
  refine t_41_0  ?_
  obtain ⟨hb0_0, hq⟩ := hq
  refine ⟨hb0_0, ?_⟩
  refine ⟨fun hc0 => ?_, fun hc0 => ?_⟩
  · skip
    simp only [v_41, w_41, if_pos hc0]
  · have hq := hq hc0
    refine ⟨fun hc1 => ?_, fun hc1 => ?_⟩
    · have hq := hq hc1
      have hb2_0 := hq
      refine ⟨hb2_0, ?_⟩
      simp only [v_41, w_41, if_neg hc0, if_pos hc1]
    · skip
      simp only [v_41, w_41, if_neg hc0, if_neg hc1]
theorem t_43_0 {fx : am_X0} {o : List am_V × am_S} {m : am_M} {p : Int}  (H : (WFG (vw m 2)) ∧ (((¬ am_s ((if 0 ≤ am_s p ∧ am_s p < m 2 4 then 1 else 0)) = 0) → (0 ≤ am_s p ∧ am_s p < (12 : Nat)) ∧ (((¬ am_s (m 3 ((am_s p).toNat)) = 0) → o = ([.inl (-5)], st0 m)) ∧ (¬ (¬ am_s (m 3 ((am_s p).toNat)) = 0) → ((am_s (m 5 ((am_s p).toNat)) = am_s 100) → (q_34 m 2 p 3 0 0 0) ∧ (o = ([.inl (m 4 ((am_s p).toNat))], st0 (w_34 m 2 p 3 0 0 0)))) ∧ (¬ (am_s (m 5 ((am_s p).toNat)) = am_s 100) → o = ([.inl (-5)], st0 m))))) ∧ (¬ (¬ am_s ((if 0 ≤ am_s p ∧ am_s p < m 2 4 then 1 else 0)) = 0) → o = ([.inl (-2)], st0 m)))) : rn fx 1 (0, 0) 43 0 [some (.inr (.inr (some 0))), some (.inl p), none] [] (st0 m) o := by
  refine r_ld (pc' := 1) hM_43 d_43_0 rfl rfl ?_
  refine r_gR (pc' := 4) (v := 2) hM_43 d_43_1 rfl (by decide +kernel) ?_
  refine r_ld (pc' := 5) hM_43 d_43_4 rfl rfl ?_
  obtain ⟨hz1, H⟩ := H
  refine r_cl (pc' := 8) (c := (40, 0)) (a := [.inr (.inr (some 2)), .inl p]) (q := []) hM_43 d_43_5 rfl (by decide +kernel) hM_40 rfl rfl rfl (Nat.le_of_ble_eq_true rfl) (Nat.le_of_ble_eq_true rfl) (Or.inr rfl) (n_40 (by decide) m p hz1) (Nat.le_of_ble_eq_true rfl) ?_
  show rn fx 1 (0, 0) 43 8 [some (.inr (.inr (some 0))), some (.inl p), none] [.inl ((if 0 ≤ am_s p ∧ am_s p < m 2 4 then 1 else 0))] (st0 m) o
  refine r_if (pc' := 14) (pc2 := 11) hM_43 d_43_8 (by decide) rfl (fun hz2 => ?_) (fun hz2 => ?_)
  · have H := H.1 hz2
    refine r_ld (pc' := 15) hM_43 d_43_14 rfl rfl ?_
    refine r_gR (pc' := 18) (v := 2) hM_43 d_43_15 rfl (by decide +kernel) ?_
    refine r_gR (pc' := 21) (v := 3) hM_43 d_43_18 rfl (by decide +kernel) ?_
    refine r_ld (pc' := 22) hM_43 d_43_21 rfl rfl ?_
    obtain ⟨hz3, H⟩ := H
    refine r_ia (pc' := 23) (n := 12) hM_43 d_43_22 rfl rfl hz3 ?_
    refine r_if (pc' := 40) (pc2 := 26) hM_43 d_43_23 (by decide) rfl (fun hz4 => ?_) (fun hz4 => ?_)
    · have H := H.1 hz4
      refine r_k (pc' := 42) (v := .inl (-5)) hM_43 d_43_40 rfl rfl ?_
      subst H
      exact rt_i hM_43 d_43_42 rfl
    · have H := H.2 hz4
      refine r_ld (pc' := 27) hM_43 d_43_26 rfl rfl ?_
      refine r_gR (pc' := 30) (v := 2) hM_43 d_43_27 rfl (by decide +kernel) ?_
      refine r_gR (pc' := 33) (v := 5) hM_43 d_43_30 rfl (by decide +kernel) ?_
      refine r_ld (pc' := 34) hM_43 d_43_33 rfl rfl ?_
      refine r_ia (pc' := 35) (n := 12) hM_43 d_43_34 rfl rfl hz3 ?_
      refine r_k (pc' := 37) (v := .inl 100) hM_43 d_43_35 rfl rfl ?_
      refine r_ic (pc' := 43) (pc2 := 40) hM_43 d_43_37 (by decide) rfl (fun hz5 => ?_) (fun hz5 => ?_)
      · have H := H.1 hz5
        refine r_ld (pc' := 44) hM_43 d_43_43 rfl rfl ?_
        refine r_gR (pc' := 47) (v := 2) hM_43 d_43_44 rfl (by decide +kernel) ?_
        refine r_gR (pc' := 50) (v := 4) hM_43 d_43_47 rfl (by decide +kernel) ?_
        refine r_ld (pc' := 51) hM_43 d_43_50 rfl rfl ?_
        refine r_ia (pc' := 52) (n := 12) hM_43 d_43_51 rfl rfl hz3 ?_
        refine r_sto (pc' := 53) (ls' := [some (.inr (.inr (some 0))), some (.inl p), some (.inl (m 4 ((am_s p).toNat)))]) hM_43 d_43_52 rfl rfl ?_
        refine r_ld (pc' := 54) hM_43 d_43_53 rfl rfl ?_
        refine r_gR (pc' := 57) (v := 2) hM_43 d_43_54 rfl (by decide +kernel) ?_
        refine r_ld (pc' := 58) hM_43 d_43_57 rfl rfl ?_
        refine r_k (pc' := 59) (v := .inl 3) hM_43 d_43_58 rfl rfl ?_
        refine r_k (pc' := 60) (v := .inl 0) hM_43 d_43_59 rfl rfl ?_
        refine r_k (pc' := 61) (v := .inl 0) hM_43 d_43_60 rfl rfl ?_
        refine r_k (pc' := 62) (v := .inl 0) hM_43 d_43_61 rfl rfl ?_
        obtain ⟨hz6, H⟩ := H
        refine r_cl (pc' := 65) (c := (34, 0)) (a := [.inr (.inr (some 2)), .inl p, .inl 3, .inl 0, .inl 0, .inl 0]) (q := []) hM_43 d_43_62 rfl (by decide +kernel) hM_34 rfl rfl rfl (Nat.le_of_ble_eq_true rfl) (Nat.le_of_ble_eq_true rfl) (Or.inr rfl) (c_34 (by decide) m p 3 0 0 0 hz6) (Nat.le_of_ble_eq_true rfl) ?_
        show rn fx 1 (0, 0) 43 65 [some (.inr (.inr (some 0))), some (.inl p), some (.inl (m 4 ((am_s p).toNat)))] [] (st0 (w_34 m 2 p 3 0 0 0)) o
        refine r_ld (pc' := 66) hM_43 d_43_65 rfl rfl ?_
        subst H
        exact rt_i hM_43 d_43_66 rfl
      · have H := H.2 hz5
        refine r_k (pc' := 42) (v := .inl (-5)) hM_43 d_43_40 rfl rfl ?_
        subst H
        exact rt_i hM_43 d_43_42 rfl
  · have H := H.2 hz2
    refine r_k (pc' := 13) (v := .inl (-2)) hM_43 d_43_11 rfl rfl ?_
    subst H
    exact rt_i hM_43 d_43_13 rfl
def v_43 (m : am_M) (p : Int) : Int := (if ¬ am_s ((if 0 ≤ am_s p ∧ am_s p < m 2 4 then 1 else 0)) = 0 then (if ¬ am_s (m 3 ((am_s p).toNat)) = 0 then (-5) else (if am_s (m 5 ((am_s p).toNat)) = am_s 100 then (m 4 ((am_s p).toNat)) else (-5))) else (-2))
def w_43 (m : am_M) (p : Int) : am_M := (if ¬ am_s ((if 0 ≤ am_s p ∧ am_s p < m 2 4 then 1 else 0)) = 0 then (if ¬ am_s (m 3 ((am_s p).toNat)) = 0 then m else (if am_s (m 5 ((am_s p).toNat)) = am_s 100 then (w_34 m 2 p 3 0 0 0) else m)) else m)
def q_43 (m : am_M) (p : Int) : Prop := (WFG (vw m 2)) ∧ (((¬ am_s ((if 0 ≤ am_s p ∧ am_s p < m 2 4 then 1 else 0)) = 0) → (0 ≤ am_s p ∧ am_s p < (12 : Nat)) ∧ ((¬ (¬ am_s (m 3 ((am_s p).toNat)) = 0) → (((am_s (m 5 ((am_s p).toNat)) = am_s 100) → (q_34 m 2 p 3 0 0 0)))))))
/-- HeardBarrels.sell -/
theorem c_43 {fx : am_X0}   (m : am_M) (p : Int) (hq : q_43 m p) : rn fx 1 (0, 0) 43 0 (am_ent 3 [.inr (.inr (some 0)), .inl p]) [] (st0 m) ([.inl (v_43 m p)], st0 (w_43 m p)) := by
  unfold q_43 at hq
  show rn fx 1 (0, 0) 43 0 [some (.inr (.inr (some 0))), some (.inl p), none] [] (st0 m) _
  refine t_43_0  ?_
  obtain ⟨hb0_0, hq⟩ := hq
  refine ⟨hb0_0, ?_⟩
  refine ⟨fun hc0 => ?_, fun hc0 => ?_⟩
  · have hq := hq hc0
    obtain ⟨hb1_0, hq⟩ := hq
    refine ⟨hb1_0, ?_⟩
    refine ⟨fun hc1 => ?_, fun hc1 => ?_⟩
    · skip
      simp only [v_43, w_43, if_pos hc0, if_pos hc1]
    · have hq := hq hc1
      refine ⟨fun hc2 => ?_, fun hc2 => ?_⟩
      · have hq := hq hc2
        have hb3_0 := hq
        refine ⟨hb3_0, ?_⟩
        simp only [v_43, w_43, if_pos hc0, if_neg hc1, if_pos hc2]
      · skip
        simp only [v_43, w_43, if_pos hc0, if_neg hc1, if_neg hc2]
  · skip
    simp only [v_43, w_43, if_neg hc0]
theorem t_44_0 {fx : am_X0} {o : List am_V × am_S} {m : am_M} {p : Int} {a : Int}  (H : (WFG (vw m 2)) ∧ (((¬ am_s ((if 0 ≤ am_s p ∧ am_s p < m 2 4 then 1 else 0)) = 0) → (0 ≤ am_s p ∧ am_s p < (12 : Nat)) ∧ (((am_s (m 3 ((am_s p).toNat)) = am_s 3) → ((am_s a < am_s 1) → o = ([.inl (-3)], st0 m)) ∧ (¬ (am_s a < am_s 1) → ((am_s a ≤ am_s 9) → (q_34 m 2 p 0 a 0 0) ∧ (o = ([.inl 0], st0 (w_34 m 2 p 0 a 0 0)))) ∧ (¬ (am_s a ≤ am_s 9) → o = ([.inl (-3)], st0 m)))) ∧ (¬ (am_s (m 3 ((am_s p).toNat)) = am_s 3) → o = ([.inl (-5)], st0 m)))) ∧ (¬ (¬ am_s ((if 0 ≤ am_s p ∧ am_s p < m 2 4 then 1 else 0)) = 0) → o = ([.inl (-2)], st0 m)))) : rn fx 1 (0, 0) 44 0 [some (.inr (.inr (some 0))), some (.inl p), some (.inl a)] [] (st0 m) o := by
  refine r_ld (pc' := 1) hM_44 d_44_0 rfl rfl ?_
  refine r_gR (pc' := 4) (v := 2) hM_44 d_44_1 rfl (by decide +kernel) ?_
  refine r_ld (pc' := 5) hM_44 d_44_4 rfl rfl ?_
  obtain ⟨hz1, H⟩ := H
  refine r_cl (pc' := 8) (c := (40, 0)) (a := [.inr (.inr (some 2)), .inl p]) (q := []) hM_44 d_44_5 rfl (by decide +kernel) hM_40 rfl rfl rfl (Nat.le_of_ble_eq_true rfl) (Nat.le_of_ble_eq_true rfl) (Or.inr rfl) (n_40 (by decide) m p hz1) (Nat.le_of_ble_eq_true rfl) ?_
  show rn fx 1 (0, 0) 44 8 [some (.inr (.inr (some 0))), some (.inl p), some (.inl a)] [.inl ((if 0 ≤ am_s p ∧ am_s p < m 2 4 then 1 else 0))] (st0 m) o
  refine r_if (pc' := 14) (pc2 := 11) hM_44 d_44_8 (by decide) rfl (fun hz2 => ?_) (fun hz2 => ?_)
  · have H := H.1 hz2
    refine r_ld (pc' := 15) hM_44 d_44_14 rfl rfl ?_
    refine r_gR (pc' := 18) (v := 2) hM_44 d_44_15 rfl (by decide +kernel) ?_
    refine r_gR (pc' := 21) (v := 3) hM_44 d_44_18 rfl (by decide +kernel) ?_
    refine r_ld (pc' := 22) hM_44 d_44_21 rfl rfl ?_
    obtain ⟨hz3, H⟩ := H
    refine r_ia (pc' := 23) (n := 12) hM_44 d_44_22 rfl rfl hz3 ?_
    refine r_k (pc' := 24) (v := .inl 3) hM_44 d_44_23 rfl rfl ?_
    refine r_ic (pc' := 30) (pc2 := 27) hM_44 d_44_24 (by decide) rfl (fun hz4 => ?_) (fun hz4 => ?_)
    · have H := H.1 hz4
      refine r_ld (pc' := 31) hM_44 d_44_30 rfl rfl ?_
      refine r_k (pc' := 32) (v := .inl 1) hM_44 d_44_31 rfl rfl ?_
      refine r_ic (pc' := 41) (pc2 := 35) hM_44 d_44_32 (by decide) rfl (fun hz5 => ?_) (fun hz5 => ?_)
      · have H := H.1 hz5
        refine r_k (pc' := 43) (v := .inl (-3)) hM_44 d_44_41 rfl rfl ?_
        subst H
        exact rt_i hM_44 d_44_43 rfl
      · have H := H.2 hz5
        refine r_ld (pc' := 36) hM_44 d_44_35 rfl rfl ?_
        refine r_k (pc' := 38) (v := .inl 9) hM_44 d_44_36 rfl rfl ?_
        refine r_ic (pc' := 44) (pc2 := 41) hM_44 d_44_38 (by decide) rfl (fun hz6 => ?_) (fun hz6 => ?_)
        · have H := H.1 hz6
          refine r_ld (pc' := 45) hM_44 d_44_44 rfl rfl ?_
          refine r_gR (pc' := 48) (v := 2) hM_44 d_44_45 rfl (by decide +kernel) ?_
          refine r_ld (pc' := 49) hM_44 d_44_48 rfl rfl ?_
          refine r_k (pc' := 50) (v := .inl 0) hM_44 d_44_49 rfl rfl ?_
          refine r_ld (pc' := 51) hM_44 d_44_50 rfl rfl ?_
          refine r_k (pc' := 52) (v := .inl 0) hM_44 d_44_51 rfl rfl ?_
          refine r_k (pc' := 53) (v := .inl 0) hM_44 d_44_52 rfl rfl ?_
          obtain ⟨hz7, H⟩ := H
          refine r_cl (pc' := 56) (c := (34, 0)) (a := [.inr (.inr (some 2)), .inl p, .inl 0, .inl a, .inl 0, .inl 0]) (q := []) hM_44 d_44_53 rfl (by decide +kernel) hM_34 rfl rfl rfl (Nat.le_of_ble_eq_true rfl) (Nat.le_of_ble_eq_true rfl) (Or.inr rfl) (c_34 (by decide) m p 0 a 0 0 hz7) (Nat.le_of_ble_eq_true rfl) ?_
          show rn fx 1 (0, 0) 44 56 [some (.inr (.inr (some 0))), some (.inl p), some (.inl a)] [] (st0 (w_34 m 2 p 0 a 0 0)) o
          refine r_k (pc' := 57) (v := .inl 0) hM_44 d_44_56 rfl rfl ?_
          subst H
          exact rt_i hM_44 d_44_57 rfl
        · have H := H.2 hz6
          refine r_k (pc' := 43) (v := .inl (-3)) hM_44 d_44_41 rfl rfl ?_
          subst H
          exact rt_i hM_44 d_44_43 rfl
    · have H := H.2 hz4
      refine r_k (pc' := 29) (v := .inl (-5)) hM_44 d_44_27 rfl rfl ?_
      subst H
      exact rt_i hM_44 d_44_29 rfl
  · have H := H.2 hz2
    refine r_k (pc' := 13) (v := .inl (-2)) hM_44 d_44_11 rfl rfl ?_
    subst H
    exact rt_i hM_44 d_44_13 rfl
def v_44 (m : am_M) (p : Int) (a : Int) : Int := (if ¬ am_s ((if 0 ≤ am_s p ∧ am_s p < m 2 4 then 1 else 0)) = 0 then (if am_s (m 3 ((am_s p).toNat)) = am_s 3 then (if am_s a < am_s 1 then (-3) else (if am_s a ≤ am_s 9 then 0 else (-3))) else (-5)) else (-2))
def w_44 (m : am_M) (p : Int) (a : Int) : am_M := (if ¬ am_s ((if 0 ≤ am_s p ∧ am_s p < m 2 4 then 1 else 0)) = 0 then (if am_s (m 3 ((am_s p).toNat)) = am_s 3 then (if am_s a < am_s 1 then m else (if am_s a ≤ am_s 9 then (w_34 m 2 p 0 a 0 0) else m)) else m) else m)
def q_44 (m : am_M) (p : Int) (a : Int) : Prop := (WFG (vw m 2)) ∧ (((¬ am_s ((if 0 ≤ am_s p ∧ am_s p < m 2 4 then 1 else 0)) = 0) → (0 ≤ am_s p ∧ am_s p < (12 : Nat)) ∧ (((am_s (m 3 ((am_s p).toNat)) = am_s 3) → ((¬ (am_s a < am_s 1) → (((am_s a ≤ am_s 9) → (q_34 m 2 p 0 a 0 0)))))))))
/-- HeardBarrels.put -/
theorem c_44 {fx : am_X0}   (m : am_M) (p : Int) (a : Int) (hq : q_44 m p a) : rn fx 1 (0, 0) 44 0 (am_ent 3 [.inr (.inr (some 0)), .inl p, .inl a]) [] (st0 m) ([.inl (v_44 m p a)], st0 (w_44 m p a)) := by
  unfold q_44 at hq
  show rn fx 1 (0, 0) 44 0 [some (.inr (.inr (some 0))), some (.inl p), some (.inl a)] [] (st0 m) _
  refine t_44_0  ?_
  obtain ⟨hb0_0, hq⟩ := hq
  refine ⟨hb0_0, ?_⟩
  refine ⟨fun hc0 => ?_, fun hc0 => ?_⟩
  · have hq := hq hc0
    obtain ⟨hb1_0, hq⟩ := hq
    refine ⟨hb1_0, ?_⟩
    refine ⟨fun hc1 => ?_, fun hc1 => ?_⟩
    · have hq := hq hc1
      refine ⟨fun hc2 => ?_, fun hc2 => ?_⟩
      · skip
        simp only [v_44, w_44, if_pos hc0, if_pos hc1, if_pos hc2]
      · have hq := hq hc2
        refine ⟨fun hc3 => ?_, fun hc3 => ?_⟩
        · have hq := hq hc3
          have hb4_0 := hq
          refine ⟨hb4_0, ?_⟩
          simp only [v_44, w_44, if_pos hc0, if_pos hc1, if_neg hc2, if_pos hc3]
        · skip
          simp only [v_44, w_44, if_pos hc0, if_pos hc1, if_neg hc2, if_neg hc3]
    · skip
      simp only [v_44, w_44, if_pos hc0, if_neg hc1]
  · skip
    simp only [v_44, w_44, if_neg hc0]
theorem t_45_0 {fx : am_X0} {o : List am_V × am_S} {m : am_M} {b : Int}  (H : ((WFG (vw m 2) ∧ m 2 11 ≤ 9999) ∧ am_t (am_s b) = (am_s b)) ∧ (((am_s ((rfs (nv (vw m 2)) (am_s b))) = 0) → (WFG (vw m 2) ∧ 0 ≤ b ∧ b < 4096) ∧ (o = ([.inl (dyn b.toNat (nv (vw m 2)))], st0 (pw m 2 b.toNat)))) ∧ (((am_s ((rfs (nv (vw m 2)) (am_s b))) = 1) → o = ([.inl (-3)], st0 m)) ∧ (((am_s ((rfs (nv (vw m 2)) (am_s b))) = 2) → o = ([.inl (-4)], st0 m)) ∧ (((am_s ((rfs (nv (vw m 2)) (am_s b))) < 0 ∨ 2 < am_s ((rfs (nv (vw m 2)) (am_s b)))) → o = ([.inl (-5)], st0 m))))))) : rn fx 3 (0, 0) 45 0 [some (.inr (.inr (some 0))), some (.inl b)] [] (st0 m) o := by
  refine r_ld (pc' := 1) hM_45 d_45_0 rfl rfl ?_
  refine r_gR (pc' := 4) (v := 2) hM_45 d_45_1 rfl (by decide +kernel) ?_
  refine r_ld (pc' := 5) hM_45 d_45_4 rfl rfl ?_
  refine r_stk (pc' := 6) (st' := [.inr (.inl (am_s b)), .inr (.inr (some 2))]) hM_45 d_45_5 rfl rfl ?_
  obtain ⟨hz1, H⟩ := H
  refine r_cl (pc' := 9) (c := (46, 0)) (a := [.inr (.inr (some 2)), .inr (.inl (am_s b))]) (q := []) hM_45 d_45_6 rfl (by decide +kernel) hM_46 rfl rfl rfl (Nat.le_of_ble_eq_true rfl) (Nat.le_of_ble_eq_true rfl) (Or.inr rfl) (n_46 (by decide) m (am_s b) hz1) (Nat.le_of_ble_eq_true rfl) ?_
  show rn fx 3 (0, 0) 45 9 [some (.inr (.inr (some 0))), some (.inl b)] [.inl ((rfs (nv (vw m 2)) (am_s b)))] (st0 m) o
  by_cases hc : am_s ((rfs (nv (vw m 2)) (am_s b))) = 0
  · have H := H.1 hc
    refine r_tsI (pc' := 36) (off := 0) (t := 27) hM_45 d_45_9 (by rw [hc]; rfl) (by decide) rfl (by decide) ?_
    refine r_ld (pc' := 37) hM_45 d_45_36 rfl rfl ?_
    refine r_gR (pc' := 40) (v := 2) hM_45 d_45_37 rfl (by decide +kernel) ?_
    refine r_ld (pc' := 41) hM_45 d_45_40 rfl rfl ?_
    obtain ⟨hz2, H⟩ := H
    refine r_cl (pc' := 44) (c := (50, 0)) (a := [.inr (.inr (some 2)), .inl b]) (q := []) hM_45 d_45_41 rfl (by decide +kernel) hM_50 rfl rfl rfl (Nat.le_of_ble_eq_true rfl) (Nat.le_of_ble_eq_true rfl) (Or.inr rfl) (n_50 (by decide) m b hz2) (Nat.le_of_ble_eq_true rfl) ?_
    show rn fx 3 (0, 0) 45 44 [some (.inr (.inr (some 0))), some (.inl b)] [.inl (dyn b.toNat (nv (vw m 2)))] (st0 (pw m 2 b.toNat)) o
    subst H
    exact rt_i hM_45 d_45_44 rfl
  replace H := H.2
  have hc0 := hc
  clear hc
  by_cases hc : am_s ((rfs (nv (vw m 2)) (am_s b))) = 1
  · have H := H.1 hc
    refine r_tsI (pc' := 45) (off := 1) (t := 36) hM_45 d_45_9 (by rw [hc]; rfl) (by decide) rfl (by decide) ?_
    refine r_k (pc' := 47) (v := .inl (-3)) hM_45 d_45_45 rfl rfl ?_
    subst H
    exact rt_i hM_45 d_45_47 rfl
  replace H := H.2
  have hc1 := hc
  clear hc
  by_cases hc : am_s ((rfs (nv (vw m 2)) (am_s b))) = 2
  · have H := H.1 hc
    refine r_tsI (pc' := 48) (off := 2) (t := 39) hM_45 d_45_9 (by rw [hc]; rfl) (by decide) rfl (by decide) ?_
    refine r_k (pc' := 50) (v := .inl (-4)) hM_45 d_45_48 rfl rfl ?_
    subst H
    exact rt_i hM_45 d_45_50 rfl
  replace H := H.2
  have hc2 := hc
  clear hc
  have ho : am_s ((rfs (nv (vw m 2)) (am_s b))) < 0 ∨ 2 < am_s ((rfs (nv (vw m 2)) (am_s b))) := by omega
  replace H := H ho
  refine r_tsO (pc' := 51) hM_45 d_45_9 ho (by decide) ?_
  refine r_k (pc' := 53) (v := .inl (-5)) hM_45 d_45_51 rfl rfl ?_
  subst H
  exact rt_i hM_45 d_45_53 rfl
def v_45 (m : am_M) (b : Int) : Int := (if am_s ((rfs (nv (vw m 2)) (am_s b))) = 0 then (dyn b.toNat (nv (vw m 2))) else (if am_s ((rfs (nv (vw m 2)) (am_s b))) = 1 then (-3) else (if am_s ((rfs (nv (vw m 2)) (am_s b))) = 2 then (-4) else (-5))))
def w_45 (m : am_M) (b : Int) : am_M := (if am_s ((rfs (nv (vw m 2)) (am_s b))) = 0 then (pw m 2 b.toNat) else m)
def q_45 (m : am_M) (b : Int) : Prop := ((WFG (vw m 2) ∧ m 2 11 ≤ 9999) ∧ am_t (am_s b) = (am_s b)) ∧ (((am_s ((rfs (nv (vw m 2)) (am_s b))) = 0) → (WFG (vw m 2) ∧ 0 ≤ b ∧ b < 4096)))
/-- HeardBarrels.day -/
theorem c_45 {fx : am_X0}   (m : am_M) (b : Int) (hq : q_45 m b) : rn fx 3 (0, 0) 45 0 (am_ent 2 [.inr (.inr (some 0)), .inl b]) [] (st0 m) ([.inl (v_45 m b)], st0 (w_45 m b)) := by
  unfold q_45 at hq
  show rn fx 3 (0, 0) 45 0 [some (.inr (.inr (some 0))), some (.inl b)] [] (st0 m) _
  refine t_45_0  ?_
  obtain ⟨hb0_0, hq⟩ := hq
  refine ⟨hb0_0, ?_⟩
  refine ⟨fun hc0 => ?_, ?_⟩
  · have hq := hq hc0
    have hb1_0 := hq
    refine ⟨hb1_0, ?_⟩
    simp only [v_45, w_45, if_pos hc0]
  · skip
    refine ⟨fun hc1 => ?_, ?_⟩
    · skip
      have hn1_0 : ¬ (am_s ((rfs (nv (vw m 2)) (am_s b))) = 0) := by omega
      simp only [v_45, w_45, if_neg hn1_0, if_pos hc1]
    · skip
      refine ⟨fun hc2 => ?_, ?_⟩
      · skip
        have hn2_0 : ¬ (am_s ((rfs (nv (vw m 2)) (am_s b))) = 0) := by omega
        have hn2_1 : ¬ (am_s ((rfs (nv (vw m 2)) (am_s b))) = 1) := by omega
        simp only [v_45, w_45, if_neg hn2_0, if_neg hn2_1, if_pos hc2]
      · skip
        intro hd
        have hn_0 : ¬ (am_s ((rfs (nv (vw m 2)) (am_s b))) = 0) := by omega
        have hn_1 : ¬ (am_s ((rfs (nv (vw m 2)) (am_s b))) = 1) := by omega
        have hn_2 : ¬ (am_s ((rfs (nv (vw m 2)) (am_s b))) = 2) := by omega
        simp only [v_45, w_45, if_neg hn_0, if_neg hn_1, if_neg hn_2]
theorem t_66_0 {fx : am_X0} {o : List am_V × am_S} {m : am_M} {p : Int}  (H : (WFG (vw m 2)) ∧ (((¬ am_s ((if 0 ≤ am_s p ∧ am_s p < m 2 4 then 1 else 0)) = 0) → (0 ≤ am_s p ∧ am_s p < (12 : Nat)) ∧ (((¬ am_s (m 3 ((am_s p).toNat)) = am_s 3) → (WFG (vw m 2) ∧ 0 ≤ p ∧ p < m 2 4)) ∧ (∀ y1 : Int, y1 = (if ¬ am_s (m 3 ((am_s p).toNat)) = am_s 3 then ((if nv (vw m 2) (8 + p.toNat) = 3 then 0 else tn (nv (vw m 2)) p.toNat (decide (nv (vw m 2) (8 + p.toNat) = 1)))) else (-5)) → o = ([.inl y1], st0 m)))) ∧ (¬ (¬ am_s ((if 0 ≤ am_s p ∧ am_s p < m 2 4 then 1 else 0)) = 0) → o = ([.inl (-2)], st0 m)))) : rn fx 3 (0, 0) 66 0 [some (.inr (.inr (some 0))), some (.inl p)] [] (st0 m) o := by
  refine r_ld (pc' := 1) hM_66 d_66_0 rfl rfl ?_
  refine r_gR (pc' := 4) (v := 2) hM_66 d_66_1 rfl (by decide +kernel) ?_
  refine r_ld (pc' := 5) hM_66 d_66_4 rfl rfl ?_
  obtain ⟨hz1, H⟩ := H
  refine r_cl (pc' := 8) (c := (40, 0)) (a := [.inr (.inr (some 2)), .inl p]) (q := []) hM_66 d_66_5 rfl (by decide +kernel) hM_40 rfl rfl rfl (Nat.le_of_ble_eq_true rfl) (Nat.le_of_ble_eq_true rfl) (Or.inr rfl) (n_40 (by decide) m p hz1) (Nat.le_of_ble_eq_true rfl) ?_
  show rn fx 3 (0, 0) 66 8 [some (.inr (.inr (some 0))), some (.inl p)] [.inl ((if 0 ≤ am_s p ∧ am_s p < m 2 4 then 1 else 0))] (st0 m) o
  refine r_if (pc' := 14) (pc2 := 11) hM_66 d_66_8 (by decide) rfl (fun hz2 => ?_) (fun hz2 => ?_)
  · have H := H.1 hz2
    refine r_ld (pc' := 15) hM_66 d_66_14 rfl rfl ?_
    refine r_gR (pc' := 18) (v := 2) hM_66 d_66_15 rfl (by decide +kernel) ?_
    refine r_gR (pc' := 21) (v := 3) hM_66 d_66_18 rfl (by decide +kernel) ?_
    refine r_ld (pc' := 22) hM_66 d_66_21 rfl rfl ?_
    obtain ⟨hz3, H⟩ := H
    refine r_ia (pc' := 23) (n := 12) hM_66 d_66_22 rfl rfl hz3 ?_
    refine r_k (pc' := 24) (v := .inl 3) hM_66 d_66_23 rfl rfl ?_
    obtain ⟨hz5, H⟩ := H
    have K : ∀ y1 : Int, y1 = (if ¬ am_s (m 3 ((am_s p).toNat)) = am_s 3 then ((if nv (vw m 2) (8 + p.toNat) = 3 then 0 else tn (nv (vw m 2)) p.toNat (decide (nv (vw m 2) (8 + p.toNat) = 1)))) else (-5)) → rn fx 3 (0, 0) 66 40 [some (.inr (.inr (some 0))), some (.inl p)] [.inl y1] (st0 m) o := by
      intro y1 hy1
      replace H := H y1 hy1
      subst H
      exact rt_i hM_66 d_66_40 rfl
    replace K := K _ rfl
    clear H
    refine r_ic (pc' := 32) (pc2 := 27) hM_66 d_66_24 (by decide) rfl (fun hz4 => ?_) (fun hz4 => ?_)
    · have hz4 : ¬ am_s (m 3 ((am_s p).toNat)) = am_s 3 := hz4
      rw [if_pos hz4] at K
      refine r_ld (pc' := 33) hM_66 d_66_32 rfl rfl ?_
      refine r_gR (pc' := 36) (v := 2) hM_66 d_66_33 rfl (by decide +kernel) ?_
      refine r_ld (pc' := 37) hM_66 d_66_36 rfl rfl ?_
      refine r_cl (pc' := 40) (c := (67, 0)) (a := [.inr (.inr (some 2)), .inl p]) (q := []) hM_66 d_66_37 rfl (by decide +kernel) hM_67 rfl rfl rfl (Nat.le_of_ble_eq_true rfl) (Nat.le_of_ble_eq_true rfl) (Or.inr rfl) (n_67 (by decide) m p (hz5 hz4)) (Nat.le_of_ble_eq_true rfl) ?_
      show rn fx 3 (0, 0) 66 40 [some (.inr (.inr (some 0))), some (.inl p)] [.inl ((if nv (vw m 2) (8 + p.toNat) = 3 then 0 else tn (nv (vw m 2)) p.toNat (decide (nv (vw m 2) (8 + p.toNat) = 1))))] (st0 m) o
      exact K
    · have hz4 : ¬ (¬ am_s (m 3 ((am_s p).toNat)) = am_s 3) := hz4
      rw [if_neg hz4] at K
      refine r_k (pc' := 29) (v := .inl (-5)) hM_66 d_66_27 rfl rfl ?_
      refine r_go (pc' := 40) hM_66 d_66_29 (by decide) ?_
      exact K
  · have H := H.2 hz2
    refine r_k (pc' := 13) (v := .inl (-2)) hM_66 d_66_11 rfl rfl ?_
    subst H
    exact rt_i hM_66 d_66_13 rfl
def v_66 (m : am_M) (p : Int) : Int := (if ¬ am_s ((if 0 ≤ am_s p ∧ am_s p < m 2 4 then 1 else 0)) = 0 then (if ¬ am_s (m 3 ((am_s p).toNat)) = am_s 3 then ((if nv (vw m 2) (8 + p.toNat) = 3 then 0 else tn (nv (vw m 2)) p.toNat (decide (nv (vw m 2) (8 + p.toNat) = 1)))) else (-5)) else (-2))
def q_66 (m : am_M) (p : Int) : Prop := (WFG (vw m 2)) ∧ (((¬ am_s ((if 0 ≤ am_s p ∧ am_s p < m 2 4 then 1 else 0)) = 0) → (0 ≤ am_s p ∧ am_s p < (12 : Nat)) ∧ ((¬ am_s (m 3 ((am_s p).toNat)) = am_s 3) → (WFG (vw m 2) ∧ 0 ≤ p ∧ p < m 2 4))))
/-- HeardBarrels.tone -/
theorem c_66 {fx : am_X0}   (m : am_M) (p : Int) (hq : q_66 m p) : rn fx 3 (0, 0) 66 0 (am_ent 2 [.inr (.inr (some 0)), .inl p]) [] (st0 m) ([.inl (v_66 m p)], st0 m) := by
  unfold q_66 at hq
  show rn fx 3 (0, 0) 66 0 [some (.inr (.inr (some 0))), some (.inl p)] [] (st0 m) _
  refine t_66_0  ?_
  obtain ⟨hb0_0, hq⟩ := hq
  refine ⟨hb0_0, ?_⟩
  refine ⟨fun hc0 => ?_, fun hc0 => ?_⟩
  · have hq := hq hc0
    obtain ⟨hb1_0, hq⟩ := hq
    refine ⟨hb1_0, ?_⟩
    have hb1_0 := hq
    refine ⟨hb1_0, ?_⟩
    intro y1 hy1
    subst hy1
    simp only [v_66, if_pos hc0]
  · skip
    simp only [v_66, if_neg hc0]
theorem t_70_0 {fx : am_X0} {o : List am_V × am_S} {m : am_M} {p : Int}  (H : (WFG (vw m 2)) ∧ (((¬ (am_s ((if (0 ≤ am_s p ∧ am_s p < m 2 4) ∧ nv (vw m 2) (8 + (am_s p).toNat) ≠ 3 then 1 else 0)) = 0)) → (WFG (vw m 2) ∧ (0 ≤ p ∧ p < 12) ∧ 0 ≤ (((ons (nv (vw m 2)) (am_s 1) : Nat) : Int)) ∧ (((ons (nv (vw m 2)) (am_s 1) : Nat) : Int)) < 2147483648)) ∧ (∀ y1 : Int, y1 = (if am_s ((if (0 ≤ am_s p ∧ am_s p < m 2 4) ∧ nv (vw m 2) (8 + (am_s p).toNat) ≠ 3 then 1 else 0)) = 0 then (-1000) else ((if p < m 2 4 ∧ nv (vw m 2) (8 + p.toNat) ≠ 3 then hrd (nv (vw m 2)) p.toNat (((ons (nv (vw m 2)) (am_s 1) : Nat) : Int)).toNat else (-1000)))) → o = ([.inl y1], st0 m)))) : rn fx 3 (0, 0) 70 0 [some (.inr (.inr (some 0))), some (.inl p)] [] (st0 m) o := by
  refine r_ld (pc' := 1) hM_70 d_70_0 rfl rfl ?_
  refine r_gR (pc' := 4) (v := 2) hM_70 d_70_1 rfl (by decide +kernel) ?_
  refine r_ld (pc' := 5) hM_70 d_70_4 rfl rfl ?_
  obtain ⟨hz1, H⟩ := H
  refine r_cl (pc' := 8) (c := (68, 0)) (a := [.inr (.inr (some 2)), .inl p]) (q := []) hM_70 d_70_5 rfl (by decide +kernel) hM_68 rfl rfl rfl (Nat.le_of_ble_eq_true rfl) (Nat.le_of_ble_eq_true rfl) (Or.inr rfl) (n_68 (by decide) m p hz1) (Nat.le_of_ble_eq_true rfl) ?_
  show rn fx 3 (0, 0) 70 8 [some (.inr (.inr (some 0))), some (.inl p)] [.inl ((if (0 ≤ am_s p ∧ am_s p < m 2 4) ∧ nv (vw m 2) (8 + (am_s p).toNat) ≠ 3 then 1 else 0))] (st0 m) o
  obtain ⟨hz3, H⟩ := H
  have K : ∀ y1 : Int, y1 = (if am_s ((if (0 ≤ am_s p ∧ am_s p < m 2 4) ∧ nv (vw m 2) (8 + (am_s p).toNat) ≠ 3 then 1 else 0)) = 0 then (-1000) else ((if p < m 2 4 ∧ nv (vw m 2) (8 + p.toNat) ≠ 3 then hrd (nv (vw m 2)) p.toNat (((ons (nv (vw m 2)) (am_s 1) : Nat) : Int)).toNat else (-1000)))) → rn fx 3 (0, 0) 70 33 [some (.inr (.inr (some 0))), some (.inl p)] [.inl y1] (st0 m) o := by
    intro y1 hy1
    replace H := H y1 hy1
    subst H
    exact rt_i hM_70 d_70_33 rfl
  replace K := K _ rfl
  clear H
  refine r_if (pc' := 30) (pc2 := 11) hM_70 d_70_8 (by decide) rfl (fun hz2 => ?_) (fun hz2 => ?_)
  · have hz2 : am_s ((if (0 ≤ am_s p ∧ am_s p < m 2 4) ∧ nv (vw m 2) (8 + (am_s p).toNat) ≠ 3 then 1 else 0)) = 0 := hz2
    rw [if_pos hz2] at K
    refine r_k (pc' := 33) (v := .inl (-1000)) hM_70 d_70_30 rfl rfl ?_
    exact K
  · have hz2 : ¬ (am_s ((if (0 ≤ am_s p ∧ am_s p < m 2 4) ∧ nv (vw m 2) (8 + (am_s p).toNat) ≠ 3 then 1 else 0)) = 0) := hz2
    rw [if_neg hz2] at K
    refine r_ld (pc' := 12) hM_70 d_70_11 rfl rfl ?_
    refine r_gR (pc' := 15) (v := 2) hM_70 d_70_12 rfl (by decide +kernel) ?_
    refine r_ld (pc' := 16) hM_70 d_70_15 rfl rfl ?_
    refine r_ld (pc' := 17) hM_70 d_70_16 rfl rfl ?_
    refine r_gR (pc' := 20) (v := 2) hM_70 d_70_17 rfl (by decide +kernel) ?_
    refine r_k (pc' := 21) (v := .inl 1) hM_70 d_70_20 rfl rfl ?_
    refine r_cl (pc' := 24) (c := (48, 0)) (a := [.inr (.inr (some 2)), .inl 1]) (q := [.inl p, .inr (.inr (some 2))]) hM_70 d_70_21 rfl (by decide +kernel) hM_48 rfl rfl rfl (Nat.le_of_ble_eq_true rfl) (Nat.le_of_ble_eq_true rfl) (Or.inr rfl) (n_48 (by decide) m 1 hz1) (Nat.le_of_ble_eq_true rfl) ?_
    show rn fx 3 (0, 0) 70 24 [some (.inr (.inr (some 0))), some (.inl p)] [.inl (((ons (nv (vw m 2)) (am_s 1) : Nat) : Int)), .inl p, .inr (.inr (some 2))] (st0 m) o
    refine r_cl (pc' := 27) (c := (71, 0)) (a := [.inr (.inr (some 2)), .inl p, .inl (((ons (nv (vw m 2)) (am_s 1) : Nat) : Int))]) (q := []) hM_70 d_70_24 rfl (by decide +kernel) hM_71 rfl rfl rfl (Nat.le_of_ble_eq_true rfl) (Nat.le_of_ble_eq_true rfl) (Or.inr rfl) (n_71 (by decide) m p (((ons (nv (vw m 2)) (am_s 1) : Nat) : Int)) (hz3 hz2)) (Nat.le_of_ble_eq_true rfl) ?_
    show rn fx 3 (0, 0) 70 27 [some (.inr (.inr (some 0))), some (.inl p)] [.inl ((if p < m 2 4 ∧ nv (vw m 2) (8 + p.toNat) ≠ 3 then hrd (nv (vw m 2)) p.toNat (((ons (nv (vw m 2)) (am_s 1) : Nat) : Int)).toNat else (-1000)))] (st0 m) o
    refine r_go (pc' := 33) hM_70 d_70_27 (by decide) ?_
    exact K
def v_70 (m : am_M) (p : Int) : Int := (if am_s ((if (0 ≤ am_s p ∧ am_s p < m 2 4) ∧ nv (vw m 2) (8 + (am_s p).toNat) ≠ 3 then 1 else 0)) = 0 then (-1000) else ((if p < m 2 4 ∧ nv (vw m 2) (8 + p.toNat) ≠ 3 then hrd (nv (vw m 2)) p.toNat (((ons (nv (vw m 2)) (am_s 1) : Nat) : Int)).toNat else (-1000))))
def q_70 (m : am_M) (p : Int) : Prop := (WFG (vw m 2)) ∧ ((¬ (am_s ((if (0 ≤ am_s p ∧ am_s p < m 2 4) ∧ nv (vw m 2) (8 + (am_s p).toNat) ≠ 3 then 1 else 0)) = 0)) → (WFG (vw m 2) ∧ (0 ≤ p ∧ p < 12) ∧ 0 ≤ (((ons (nv (vw m 2)) (am_s 1) : Nat) : Int)) ∧ (((ons (nv (vw m 2)) (am_s 1) : Nat) : Int)) < 2147483648))
/-- HeardBarrels.knock -/
theorem c_70 {fx : am_X0}   (m : am_M) (p : Int) (hq : q_70 m p) : rn fx 3 (0, 0) 70 0 (am_ent 2 [.inr (.inr (some 0)), .inl p]) [] (st0 m) ([.inl (v_70 m p)], st0 m) := by
  unfold q_70 at hq
  show rn fx 3 (0, 0) 70 0 [some (.inr (.inr (some 0))), some (.inl p)] [] (st0 m) _
  refine t_70_0  ?_
  obtain ⟨hb0_0, hq⟩ := hq
  refine ⟨hb0_0, ?_⟩
  have hb0_0 := hq
  refine ⟨hb0_0, ?_⟩
  intro y1 hy1
  subst hy1
  simp only [v_70]
theorem t_76_0 {fx : am_X0} {o : List am_V × am_S} {m : am_M} {p : Int} {b : Int}  (H : (WFG (vw m 2)) ∧ (((am_s ((if (0 ≤ am_s p ∧ am_s p < m 2 4) ∧ nv (vw m 2) (8 + (am_s p).toNat) ≠ 3 then 1 else 0)) = 0) → o = ([.inl (-1000)], st0 m)) ∧ (¬ (am_s ((if (0 ≤ am_s p ∧ am_s p < m 2 4) ∧ nv (vw m 2) (8 + (am_s p).toNat) ≠ 3 then 1 else 0)) = 0) → ((¬ am_s ((if 0 ≤ am_s b ∧ (am_s b).toNat &&& may (nv (vw m 2)) = (am_s b).toNat then 1 else 0)) = 0) → (WFG (vw m 2) ∧ (0 ≤ p ∧ p < 12) ∧ 0 ≤ b ∧ b < 2147483648) ∧ (o = ([.inl ((if p < m 2 4 ∧ nv (vw m 2) (8 + p.toNat) ≠ 3 then hrd (nv (vw m 2)) p.toNat b.toNat else (-1000)))], st0 m))) ∧ (¬ (¬ am_s ((if 0 ≤ am_s b ∧ (am_s b).toNat &&& may (nv (vw m 2)) = (am_s b).toNat then 1 else 0)) = 0) → o = ([.inl (-1000)], st0 m))))) : rn fx 4 (0, 0) 76 0 [some (.inr (.inr (some 0))), some (.inl p), some (.inl b)] [] (st0 m) o := by
  refine r_ld (pc' := 1) hM_76 d_76_0 rfl rfl ?_
  refine r_gR (pc' := 4) (v := 2) hM_76 d_76_1 rfl (by decide +kernel) ?_
  refine r_ld (pc' := 5) hM_76 d_76_4 rfl rfl ?_
  obtain ⟨hz1, H⟩ := H
  refine r_cl (pc' := 8) (c := (68, 0)) (a := [.inr (.inr (some 2)), .inl p]) (q := []) hM_76 d_76_5 rfl (by decide +kernel) hM_68 rfl rfl rfl (Nat.le_of_ble_eq_true rfl) (Nat.le_of_ble_eq_true rfl) (Or.inr rfl) (n_68 (by decide) m p hz1) (Nat.le_of_ble_eq_true rfl) ?_
  show rn fx 4 (0, 0) 76 8 [some (.inr (.inr (some 0))), some (.inl p), some (.inl b)] [.inl ((if (0 ≤ am_s p ∧ am_s p < m 2 4) ∧ nv (vw m 2) (8 + (am_s p).toNat) ≠ 3 then 1 else 0))] (st0 m) o
  refine r_if (pc' := 22) (pc2 := 11) hM_76 d_76_8 (by decide) rfl (fun hz2 => ?_) (fun hz2 => ?_)
  · have H := H.1 hz2
    refine r_k (pc' := 25) (v := .inl (-1000)) hM_76 d_76_22 rfl rfl ?_
    subst H
    exact rt_i hM_76 d_76_25 rfl
  · have H := H.2 hz2
    refine r_ld (pc' := 12) hM_76 d_76_11 rfl rfl ?_
    refine r_gR (pc' := 15) (v := 2) hM_76 d_76_12 rfl (by decide +kernel) ?_
    refine r_ld (pc' := 16) hM_76 d_76_15 rfl rfl ?_
    refine r_cl (pc' := 19) (c := (77, 0)) (a := [.inr (.inr (some 2)), .inl b]) (q := []) hM_76 d_76_16 rfl (by decide +kernel) hM_77 rfl rfl rfl (Nat.le_of_ble_eq_true rfl) (Nat.le_of_ble_eq_true rfl) (Or.inr rfl) (n_77 (by decide) m b hz1) (Nat.le_of_ble_eq_true rfl) ?_
    show rn fx 4 (0, 0) 76 19 [some (.inr (.inr (some 0))), some (.inl p), some (.inl b)] [.inl ((if 0 ≤ am_s b ∧ (am_s b).toNat &&& may (nv (vw m 2)) = (am_s b).toNat then 1 else 0))] (st0 m) o
    refine r_if (pc' := 26) (pc2 := 22) hM_76 d_76_19 (by decide) rfl (fun hz3 => ?_) (fun hz3 => ?_)
    · have H := H.1 hz3
      refine r_ld (pc' := 27) hM_76 d_76_26 rfl rfl ?_
      refine r_gR (pc' := 30) (v := 2) hM_76 d_76_27 rfl (by decide +kernel) ?_
      refine r_ld (pc' := 31) hM_76 d_76_30 rfl rfl ?_
      refine r_ld (pc' := 32) hM_76 d_76_31 rfl rfl ?_
      obtain ⟨hz4, H⟩ := H
      refine r_cl (pc' := 35) (c := (71, 0)) (a := [.inr (.inr (some 2)), .inl p, .inl b]) (q := []) hM_76 d_76_32 rfl (by decide +kernel) hM_71 rfl rfl rfl (Nat.le_of_ble_eq_true rfl) (Nat.le_of_ble_eq_true rfl) (Or.inr rfl) (n_71 (by decide) m p b hz4) (Nat.le_of_ble_eq_true rfl) ?_
      show rn fx 4 (0, 0) 76 35 [some (.inr (.inr (some 0))), some (.inl p), some (.inl b)] [.inl ((if p < m 2 4 ∧ nv (vw m 2) (8 + p.toNat) ≠ 3 then hrd (nv (vw m 2)) p.toNat b.toNat else (-1000)))] (st0 m) o
      subst H
      exact rt_i hM_76 d_76_35 rfl
    · have H := H.2 hz3
      refine r_k (pc' := 25) (v := .inl (-1000)) hM_76 d_76_22 rfl rfl ?_
      subst H
      exact rt_i hM_76 d_76_25 rfl
def v_76 (m : am_M) (p : Int) (b : Int) : Int := (if am_s ((if (0 ≤ am_s p ∧ am_s p < m 2 4) ∧ nv (vw m 2) (8 + (am_s p).toNat) ≠ 3 then 1 else 0)) = 0 then (-1000) else (if ¬ am_s ((if 0 ≤ am_s b ∧ (am_s b).toNat &&& may (nv (vw m 2)) = (am_s b).toNat then 1 else 0)) = 0 then ((if p < m 2 4 ∧ nv (vw m 2) (8 + p.toNat) ≠ 3 then hrd (nv (vw m 2)) p.toNat b.toNat else (-1000))) else (-1000)))
def q_76 (m : am_M) (p : Int) (b : Int) : Prop := (WFG (vw m 2)) ∧ ((¬ (am_s ((if (0 ≤ am_s p ∧ am_s p < m 2 4) ∧ nv (vw m 2) (8 + (am_s p).toNat) ≠ 3 then 1 else 0)) = 0) → (((¬ am_s ((if 0 ≤ am_s b ∧ (am_s b).toNat &&& may (nv (vw m 2)) = (am_s b).toNat then 1 else 0)) = 0) → (WFG (vw m 2) ∧ (0 ≤ p ∧ p < 12) ∧ 0 ≤ b ∧ b < 2147483648)))))
/-- HeardBarrels.heard -/
theorem c_76 {fx : am_X0}   (m : am_M) (p : Int) (b : Int) (hq : q_76 m p b) : rn fx 4 (0, 0) 76 0 (am_ent 3 [.inr (.inr (some 0)), .inl p, .inl b]) [] (st0 m) ([.inl (v_76 m p b)], st0 m) := by
  unfold q_76 at hq
  show rn fx 4 (0, 0) 76 0 [some (.inr (.inr (some 0))), some (.inl p), some (.inl b)] [] (st0 m) _
  refine t_76_0  ?_
  obtain ⟨hb0_0, hq⟩ := hq
  refine ⟨hb0_0, ?_⟩
  refine ⟨fun hc0 => ?_, fun hc0 => ?_⟩
  · skip
    simp only [v_76, if_pos hc0]
  · have hq := hq hc0
    refine ⟨fun hc1 => ?_, fun hc1 => ?_⟩
    · have hq := hq hc1
      have hb2_0 := hq
      refine ⟨hb2_0, ?_⟩
      simp only [v_76, if_neg hc0, if_pos hc1]
    · skip
      simp only [v_76, if_neg hc0, if_neg hc1]
theorem t_161_0 {fx : am_X0} {o : List am_V × am_S} {m : am_M} {a : Int}  (H : ((am_s a = 0) → o = ([.inl (m 2 4)], st0 m)) ∧ (((am_s a = 1) → (WFG (vw m 2)) ∧ ((0 ≤ (((brl (nv (vw m 2)) : Nat) : Int)) ∧ (((brl (nv (vw m 2)) : Nat) : Int)) < 4096) ∧ (o = ([.inl (((cnt (((brl (nv (vw m 2)) : Nat) : Int)).toNat 12 : Nat) : Int))], st0 m)))) ∧ (((am_s a = 2) → (WFG (vw m 2)) ∧ ((0 ≤ (((ons (nv (vw m 2)) (am_s 0) : Nat) : Int)) ∧ (((ons (nv (vw m 2)) (am_s 0) : Nat) : Int)) < 4096) ∧ (o = ([.inl (((cnt (((ons (nv (vw m 2)) (am_s 0) : Nat) : Int)).toNat 12 : Nat) : Int))], st0 m)))) ∧ (((am_s a = 3) → (WFG (vw m 2)) ∧ (o = ([.inl (((ons (nv (vw m 2)) (am_s 1) : Nat) : Int))], st0 m))) ∧ (((am_s a = 4) → o = ([.inl (m 2 11)], st0 m)) ∧ (((am_s a = 5) → o = ([.inl (m 2 7)], st0 m)) ∧ (((am_s a = 6) → o = ([.inl (m 2 8)], st0 m)) ∧ (((am_s a = 7) → o = ([.inl (m 2 9)], st0 m)) ∧ (((am_s a = 8) → o = ([.inl (m 0 1)], st0 m)) ∧ (((am_s a = 9) → o = ([.inl (m 2 10)], st0 m)) ∧ (((am_s a = 10) → o = ([.inl (m 2 5)], st0 m)) ∧ (((am_s a = 11) → o = ([.inl (m 2 6)], st0 m)) ∧ (((am_s a = 12) → (WFS m 2) ∧ (o = ([.inl ((sm (m (2 + 3)) (m 2 4).toNat))], st0 m))) ∧ (((am_s a < 0 ∨ 12 < am_s a) → o = ([.inl (-1)], st0 m)))))))))))))))) : rn fx 2 (0, 0) 161 0 [some (.inr (.inr (some 0))), some (.inl a)] [] (st0 m) o := by
  refine r_ld (pc' := 1) hM_161 d_161_0 rfl rfl ?_
  by_cases hc : am_s a = 0
  · have H := H.1 hc
    refine r_tsI (pc' := 68) (off := 0) (t := 67) hM_161 d_161_1 (by rw [hc]; rfl) (by decide) rfl (by decide) ?_
    refine r_ld (pc' := 69) hM_161 d_161_68 rfl rfl ?_
    refine r_gR (pc' := 72) (v := 2) hM_161 d_161_69 rfl (by decide +kernel) ?_
    refine r_gI (pc' := 75) (k0 := 4) hM_161 d_161_72 rfl (by decide +kernel) ?_
    subst H
    exact rt_i hM_161 d_161_75 rfl
  replace H := H.2
  have hc0 := hc
  clear hc
  by_cases hc : am_s a = 1
  · have H := H.1 hc
    refine r_tsI (pc' := 76) (off := 1) (t := 75) hM_161 d_161_1 (by rw [hc]; rfl) (by decide) rfl (by decide) ?_
    refine r_ld (pc' := 77) hM_161 d_161_76 rfl rfl ?_
    refine r_gR (pc' := 80) (v := 2) hM_161 d_161_77 rfl (by decide +kernel) ?_
    obtain ⟨hz1, H⟩ := H
    refine r_cl (pc' := 83) (c := (47, 0)) (a := [.inr (.inr (some 2))]) (q := []) hM_161 d_161_80 rfl (by decide +kernel) hM_47 rfl rfl rfl (Nat.le_of_ble_eq_true rfl) (Nat.le_of_ble_eq_true rfl) (Or.inr rfl) (n_47 (by decide) m  hz1) (Nat.le_of_ble_eq_true rfl) ?_
    show rn fx 2 (0, 0) 161 83 [some (.inr (.inr (some 0))), some (.inl a)] [.inl (((brl (nv (vw m 2)) : Nat) : Int))] (st0 m) o
    obtain ⟨hz2, H⟩ := H
    refine r_cl (pc' := 86) (c := (72, 2)) (a := [.inl (((brl (nv (vw m 2)) : Nat) : Int))]) (q := []) hM_161 d_161_83 rfl (by decide +kernel) hM_72 rfl rfl rfl (Nat.le_of_ble_eq_true rfl) (Nat.le_of_ble_eq_true rfl) (Or.inl rfl) (n_72  m (((brl (nv (vw m 2)) : Nat) : Int)) hz2) (Nat.le_of_ble_eq_true rfl) ?_
    show rn fx 2 (0, 0) 161 86 [some (.inr (.inr (some 0))), some (.inl a)] [.inl (((cnt (((brl (nv (vw m 2)) : Nat) : Int)).toNat 12 : Nat) : Int))] (st0 m) o
    subst H
    exact rt_i hM_161 d_161_86 rfl
  replace H := H.2
  have hc1 := hc
  clear hc
  by_cases hc : am_s a = 2
  · have H := H.1 hc
    refine r_tsI (pc' := 87) (off := 2) (t := 86) hM_161 d_161_1 (by rw [hc]; rfl) (by decide) rfl (by decide) ?_
    refine r_ld (pc' := 88) hM_161 d_161_87 rfl rfl ?_
    refine r_gR (pc' := 91) (v := 2) hM_161 d_161_88 rfl (by decide +kernel) ?_
    refine r_k (pc' := 92) (v := .inl 0) hM_161 d_161_91 rfl rfl ?_
    obtain ⟨hz3, H⟩ := H
    refine r_cl (pc' := 95) (c := (48, 0)) (a := [.inr (.inr (some 2)), .inl 0]) (q := []) hM_161 d_161_92 rfl (by decide +kernel) hM_48 rfl rfl rfl (Nat.le_of_ble_eq_true rfl) (Nat.le_of_ble_eq_true rfl) (Or.inr rfl) (n_48 (by decide) m 0 hz3) (Nat.le_of_ble_eq_true rfl) ?_
    show rn fx 2 (0, 0) 161 95 [some (.inr (.inr (some 0))), some (.inl a)] [.inl (((ons (nv (vw m 2)) (am_s 0) : Nat) : Int))] (st0 m) o
    obtain ⟨hz4, H⟩ := H
    refine r_cl (pc' := 98) (c := (72, 2)) (a := [.inl (((ons (nv (vw m 2)) (am_s 0) : Nat) : Int))]) (q := []) hM_161 d_161_95 rfl (by decide +kernel) hM_72 rfl rfl rfl (Nat.le_of_ble_eq_true rfl) (Nat.le_of_ble_eq_true rfl) (Or.inl rfl) (n_72  m (((ons (nv (vw m 2)) (am_s 0) : Nat) : Int)) hz4) (Nat.le_of_ble_eq_true rfl) ?_
    show rn fx 2 (0, 0) 161 98 [some (.inr (.inr (some 0))), some (.inl a)] [.inl (((cnt (((ons (nv (vw m 2)) (am_s 0) : Nat) : Int)).toNat 12 : Nat) : Int))] (st0 m) o
    subst H
    exact rt_i hM_161 d_161_98 rfl
  replace H := H.2
  have hc2 := hc
  clear hc
  by_cases hc : am_s a = 3
  · have H := H.1 hc
    refine r_tsI (pc' := 99) (off := 3) (t := 98) hM_161 d_161_1 (by rw [hc]; rfl) (by decide) rfl (by decide) ?_
    refine r_ld (pc' := 100) hM_161 d_161_99 rfl rfl ?_
    refine r_gR (pc' := 103) (v := 2) hM_161 d_161_100 rfl (by decide +kernel) ?_
    refine r_k (pc' := 104) (v := .inl 1) hM_161 d_161_103 rfl rfl ?_
    obtain ⟨hz5, H⟩ := H
    refine r_cl (pc' := 107) (c := (48, 0)) (a := [.inr (.inr (some 2)), .inl 1]) (q := []) hM_161 d_161_104 rfl (by decide +kernel) hM_48 rfl rfl rfl (Nat.le_of_ble_eq_true rfl) (Nat.le_of_ble_eq_true rfl) (Or.inr rfl) (n_48 (by decide) m 1 hz5) (Nat.le_of_ble_eq_true rfl) ?_
    show rn fx 2 (0, 0) 161 107 [some (.inr (.inr (some 0))), some (.inl a)] [.inl (((ons (nv (vw m 2)) (am_s 1) : Nat) : Int))] (st0 m) o
    subst H
    exact rt_i hM_161 d_161_107 rfl
  replace H := H.2
  have hc3 := hc
  clear hc
  by_cases hc : am_s a = 4
  · have H := H.1 hc
    refine r_tsI (pc' := 108) (off := 4) (t := 107) hM_161 d_161_1 (by rw [hc]; rfl) (by decide) rfl (by decide) ?_
    refine r_ld (pc' := 109) hM_161 d_161_108 rfl rfl ?_
    refine r_gR (pc' := 112) (v := 2) hM_161 d_161_109 rfl (by decide +kernel) ?_
    refine r_gI (pc' := 115) (k0 := 11) hM_161 d_161_112 rfl (by decide +kernel) ?_
    subst H
    exact rt_i hM_161 d_161_115 rfl
  replace H := H.2
  have hc4 := hc
  clear hc
  by_cases hc : am_s a = 5
  · have H := H.1 hc
    refine r_tsI (pc' := 116) (off := 5) (t := 115) hM_161 d_161_1 (by rw [hc]; rfl) (by decide) rfl (by decide) ?_
    refine r_ld (pc' := 117) hM_161 d_161_116 rfl rfl ?_
    refine r_gR (pc' := 120) (v := 2) hM_161 d_161_117 rfl (by decide +kernel) ?_
    refine r_gI (pc' := 123) (k0 := 7) hM_161 d_161_120 rfl (by decide +kernel) ?_
    subst H
    exact rt_i hM_161 d_161_123 rfl
  replace H := H.2
  have hc5 := hc
  clear hc
  by_cases hc : am_s a = 6
  · have H := H.1 hc
    refine r_tsI (pc' := 124) (off := 6) (t := 123) hM_161 d_161_1 (by rw [hc]; rfl) (by decide) rfl (by decide) ?_
    refine r_ld (pc' := 125) hM_161 d_161_124 rfl rfl ?_
    refine r_gR (pc' := 128) (v := 2) hM_161 d_161_125 rfl (by decide +kernel) ?_
    refine r_gI (pc' := 131) (k0 := 8) hM_161 d_161_128 rfl (by decide +kernel) ?_
    subst H
    exact rt_i hM_161 d_161_131 rfl
  replace H := H.2
  have hc6 := hc
  clear hc
  by_cases hc : am_s a = 7
  · have H := H.1 hc
    refine r_tsI (pc' := 132) (off := 7) (t := 131) hM_161 d_161_1 (by rw [hc]; rfl) (by decide) rfl (by decide) ?_
    refine r_ld (pc' := 133) hM_161 d_161_132 rfl rfl ?_
    refine r_gR (pc' := 136) (v := 2) hM_161 d_161_133 rfl (by decide +kernel) ?_
    refine r_gI (pc' := 139) (k0 := 9) hM_161 d_161_136 rfl (by decide +kernel) ?_
    subst H
    exact rt_i hM_161 d_161_139 rfl
  replace H := H.2
  have hc7 := hc
  clear hc
  by_cases hc : am_s a = 8
  · have H := H.1 hc
    refine r_tsI (pc' := 140) (off := 8) (t := 139) hM_161 d_161_1 (by rw [hc]; rfl) (by decide) rfl (by decide) ?_
    refine r_ld (pc' := 141) hM_161 d_161_140 rfl rfl ?_
    refine r_gI (pc' := 144) (k0 := 1) hM_161 d_161_141 rfl (by decide +kernel) ?_
    subst H
    exact rt_i hM_161 d_161_144 rfl
  replace H := H.2
  have hc8 := hc
  clear hc
  by_cases hc : am_s a = 9
  · have H := H.1 hc
    refine r_tsI (pc' := 145) (off := 9) (t := 144) hM_161 d_161_1 (by rw [hc]; rfl) (by decide) rfl (by decide) ?_
    refine r_ld (pc' := 146) hM_161 d_161_145 rfl rfl ?_
    refine r_gR (pc' := 149) (v := 2) hM_161 d_161_146 rfl (by decide +kernel) ?_
    refine r_gI (pc' := 152) (k0 := 10) hM_161 d_161_149 rfl (by decide +kernel) ?_
    subst H
    exact rt_i hM_161 d_161_152 rfl
  replace H := H.2
  have hc9 := hc
  clear hc
  by_cases hc : am_s a = 10
  · have H := H.1 hc
    refine r_tsI (pc' := 153) (off := 10) (t := 152) hM_161 d_161_1 (by rw [hc]; rfl) (by decide) rfl (by decide) ?_
    refine r_ld (pc' := 154) hM_161 d_161_153 rfl rfl ?_
    refine r_gR (pc' := 157) (v := 2) hM_161 d_161_154 rfl (by decide +kernel) ?_
    refine r_gI (pc' := 160) (k0 := 5) hM_161 d_161_157 rfl (by decide +kernel) ?_
    subst H
    exact rt_i hM_161 d_161_160 rfl
  replace H := H.2
  have hc10 := hc
  clear hc
  by_cases hc : am_s a = 11
  · have H := H.1 hc
    refine r_tsI (pc' := 161) (off := 11) (t := 160) hM_161 d_161_1 (by rw [hc]; rfl) (by decide) rfl (by decide) ?_
    refine r_ld (pc' := 162) hM_161 d_161_161 rfl rfl ?_
    refine r_gR (pc' := 165) (v := 2) hM_161 d_161_162 rfl (by decide +kernel) ?_
    refine r_gI (pc' := 168) (k0 := 6) hM_161 d_161_165 rfl (by decide +kernel) ?_
    subst H
    exact rt_i hM_161 d_161_168 rfl
  replace H := H.2
  have hc11 := hc
  clear hc
  by_cases hc : am_s a = 12
  · have H := H.1 hc
    refine r_tsI (pc' := 169) (off := 12) (t := 168) hM_161 d_161_1 (by rw [hc]; rfl) (by decide) rfl (by decide) ?_
    refine r_ld (pc' := 170) hM_161 d_161_169 rfl rfl ?_
    refine r_gR (pc' := 173) (v := 2) hM_161 d_161_170 rfl (by decide +kernel) ?_
    obtain ⟨hz6, H⟩ := H
    refine r_cl (pc' := 176) (c := (162, 0)) (a := [.inr (.inr (some 2))]) (q := []) hM_161 d_161_173 rfl (by decide +kernel) hM_162 rfl rfl rfl (Nat.le_of_ble_eq_true rfl) (Nat.le_of_ble_eq_true rfl) (Or.inr rfl) (c_162 (by decide) m  hz6) (Nat.le_of_ble_eq_true rfl) ?_
    show rn fx 2 (0, 0) 161 176 [some (.inr (.inr (some 0))), some (.inl a)] [.inl ((sm (m (2 + 3)) (m 2 4).toNat))] (st0 m) o
    subst H
    exact rt_i hM_161 d_161_176 rfl
  replace H := H.2
  have hc12 := hc
  clear hc
  have ho : am_s a < 0 ∨ 12 < am_s a := by omega
  replace H := H ho
  refine r_tsO (pc' := 177) hM_161 d_161_1 ho (by decide) ?_
  refine r_k (pc' := 178) (v := .inl (-1)) hM_161 d_161_177 rfl rfl ?_
  subst H
  exact rt_i hM_161 d_161_178 rfl
def v_161 (m : am_M) (a : Int) : Int := (if am_s a = 0 then (m 2 4) else (if am_s a = 1 then (((cnt (((brl (nv (vw m 2)) : Nat) : Int)).toNat 12 : Nat) : Int)) else (if am_s a = 2 then (((cnt (((ons (nv (vw m 2)) (am_s 0) : Nat) : Int)).toNat 12 : Nat) : Int)) else (if am_s a = 3 then (((ons (nv (vw m 2)) (am_s 1) : Nat) : Int)) else (if am_s a = 4 then (m 2 11) else (if am_s a = 5 then (m 2 7) else (if am_s a = 6 then (m 2 8) else (if am_s a = 7 then (m 2 9) else (if am_s a = 8 then (m 0 1) else (if am_s a = 9 then (m 2 10) else (if am_s a = 10 then (m 2 5) else (if am_s a = 11 then (m 2 6) else (if am_s a = 12 then ((sm (m (2 + 3)) (m 2 4).toNat)) else (-1))))))))))))))
def q_161 (m : am_M) (a : Int) : Prop := ((((am_s a = 1) → (WFG (vw m 2)) ∧ (0 ≤ (((brl (nv (vw m 2)) : Nat) : Int)) ∧ (((brl (nv (vw m 2)) : Nat) : Int)) < 4096)) ∧ (((am_s a = 2) → (WFG (vw m 2)) ∧ (0 ≤ (((ons (nv (vw m 2)) (am_s 0) : Nat) : Int)) ∧ (((ons (nv (vw m 2)) (am_s 0) : Nat) : Int)) < 4096)) ∧ (((am_s a = 3) → (WFG (vw m 2))) ∧ (((((((((((am_s a = 12) → (WFS m 2)))))))))))))))
/-- HeardBarrels.count -/
theorem c_161 {fx : am_X0}   (m : am_M) (a : Int) (hq : q_161 m a) : rn fx 2 (0, 0) 161 0 (am_ent 2 [.inr (.inr (some 0)), .inl a]) [] (st0 m) ([.inl (v_161 m a)], st0 m) := by
  unfold q_161 at hq
  show rn fx 2 (0, 0) 161 0 [some (.inr (.inr (some 0))), some (.inl a)] [] (st0 m) _
  refine t_161_0  ?_
  refine ⟨fun hc0 => ?_, ?_⟩
  · skip
    simp only [v_161, if_pos hc0]
  · skip
    refine ⟨fun hc1 => ?_, ?_⟩
    · have hq := hq.1 hc1
      have hn1_0 : ¬ (am_s a = 0) := by omega
      obtain ⟨hb2_0, hq⟩ := hq
      refine ⟨hb2_0, ?_⟩
      have hb2_0 := hq
      refine ⟨hb2_0, ?_⟩
      simp only [v_161, if_neg hn1_0, if_pos hc1]
    · have hq := hq.2
      refine ⟨fun hc2 => ?_, ?_⟩
      · have hq := hq.1 hc2
        have hn2_0 : ¬ (am_s a = 0) := by omega
        have hn2_1 : ¬ (am_s a = 1) := by omega
        obtain ⟨hb3_0, hq⟩ := hq
        refine ⟨hb3_0, ?_⟩
        have hb3_0 := hq
        refine ⟨hb3_0, ?_⟩
        simp only [v_161, if_neg hn2_0, if_neg hn2_1, if_pos hc2]
      · have hq := hq.2
        refine ⟨fun hc3 => ?_, ?_⟩
        · have hq := hq.1 hc3
          have hn3_0 : ¬ (am_s a = 0) := by omega
          have hn3_1 : ¬ (am_s a = 1) := by omega
          have hn3_2 : ¬ (am_s a = 2) := by omega
          have hb4_0 := hq
          refine ⟨hb4_0, ?_⟩
          simp only [v_161, if_neg hn3_0, if_neg hn3_1, if_neg hn3_2, if_pos hc3]
        · have hq := hq.2
          refine ⟨fun hc4 => ?_, ?_⟩
          · skip
            have hn4_0 : ¬ (am_s a = 0) := by omega
            have hn4_1 : ¬ (am_s a = 1) := by omega
            have hn4_2 : ¬ (am_s a = 2) := by omega
            have hn4_3 : ¬ (am_s a = 3) := by omega
            simp only [v_161, if_neg hn4_0, if_neg hn4_1, if_neg hn4_2, if_neg hn4_3, if_pos hc4]
          · skip
            refine ⟨fun hc5 => ?_, ?_⟩
            · skip
              have hn5_0 : ¬ (am_s a = 0) := by omega
              have hn5_1 : ¬ (am_s a = 1) := by omega
              have hn5_2 : ¬ (am_s a = 2) := by omega
              have hn5_3 : ¬ (am_s a = 3) := by omega
              have hn5_4 : ¬ (am_s a = 4) := by omega
              simp only [v_161, if_neg hn5_0, if_neg hn5_1, if_neg hn5_2, if_neg hn5_3, if_neg hn5_4, if_pos hc5]
            · skip
              refine ⟨fun hc6 => ?_, ?_⟩
              · skip
                have hn6_0 : ¬ (am_s a = 0) := by omega
                have hn6_1 : ¬ (am_s a = 1) := by omega
                have hn6_2 : ¬ (am_s a = 2) := by omega
                have hn6_3 : ¬ (am_s a = 3) := by omega
                have hn6_4 : ¬ (am_s a = 4) := by omega
                have hn6_5 : ¬ (am_s a = 5) := by omega
                simp only [v_161, if_neg hn6_0, if_neg hn6_1, if_neg hn6_2, if_neg hn6_3, if_neg hn6_4, if_neg hn6_5, if_pos hc6]
              · skip
                refine ⟨fun hc7 => ?_, ?_⟩
                · skip
                  have hn7_0 : ¬ (am_s a = 0) := by omega
                  have hn7_1 : ¬ (am_s a = 1) := by omega
                  have hn7_2 : ¬ (am_s a = 2) := by omega
                  have hn7_3 : ¬ (am_s a = 3) := by omega
                  have hn7_4 : ¬ (am_s a = 4) := by omega
                  have hn7_5 : ¬ (am_s a = 5) := by omega
                  have hn7_6 : ¬ (am_s a = 6) := by omega
                  simp only [v_161, if_neg hn7_0, if_neg hn7_1, if_neg hn7_2, if_neg hn7_3, if_neg hn7_4, if_neg hn7_5, if_neg hn7_6, if_pos hc7]
                · skip
                  refine ⟨fun hc8 => ?_, ?_⟩
                  · skip
                    have hn8_0 : ¬ (am_s a = 0) := by omega
                    have hn8_1 : ¬ (am_s a = 1) := by omega
                    have hn8_2 : ¬ (am_s a = 2) := by omega
                    have hn8_3 : ¬ (am_s a = 3) := by omega
                    have hn8_4 : ¬ (am_s a = 4) := by omega
                    have hn8_5 : ¬ (am_s a = 5) := by omega
                    have hn8_6 : ¬ (am_s a = 6) := by omega
                    have hn8_7 : ¬ (am_s a = 7) := by omega
                    simp only [v_161, if_neg hn8_0, if_neg hn8_1, if_neg hn8_2, if_neg hn8_3, if_neg hn8_4, if_neg hn8_5, if_neg hn8_6, if_neg hn8_7, if_pos hc8]
                  · skip
                    refine ⟨fun hc9 => ?_, ?_⟩
                    · skip
                      have hn9_0 : ¬ (am_s a = 0) := by omega
                      have hn9_1 : ¬ (am_s a = 1) := by omega
                      have hn9_2 : ¬ (am_s a = 2) := by omega
                      have hn9_3 : ¬ (am_s a = 3) := by omega
                      have hn9_4 : ¬ (am_s a = 4) := by omega
                      have hn9_5 : ¬ (am_s a = 5) := by omega
                      have hn9_6 : ¬ (am_s a = 6) := by omega
                      have hn9_7 : ¬ (am_s a = 7) := by omega
                      have hn9_8 : ¬ (am_s a = 8) := by omega
                      simp only [v_161, if_neg hn9_0, if_neg hn9_1, if_neg hn9_2, if_neg hn9_3, if_neg hn9_4, if_neg hn9_5, if_neg hn9_6, if_neg hn9_7, if_neg hn9_8, if_pos hc9]
                    · skip
                      refine ⟨fun hc10 => ?_, ?_⟩
                      · skip
                        have hn10_0 : ¬ (am_s a = 0) := by omega
                        have hn10_1 : ¬ (am_s a = 1) := by omega
                        have hn10_2 : ¬ (am_s a = 2) := by omega
                        have hn10_3 : ¬ (am_s a = 3) := by omega
                        have hn10_4 : ¬ (am_s a = 4) := by omega
                        have hn10_5 : ¬ (am_s a = 5) := by omega
                        have hn10_6 : ¬ (am_s a = 6) := by omega
                        have hn10_7 : ¬ (am_s a = 7) := by omega
                        have hn10_8 : ¬ (am_s a = 8) := by omega
                        have hn10_9 : ¬ (am_s a = 9) := by omega
                        simp only [v_161, if_neg hn10_0, if_neg hn10_1, if_neg hn10_2, if_neg hn10_3, if_neg hn10_4, if_neg hn10_5, if_neg hn10_6, if_neg hn10_7, if_neg hn10_8, if_neg hn10_9, if_pos hc10]
                      · skip
                        refine ⟨fun hc11 => ?_, ?_⟩
                        · skip
                          have hn11_0 : ¬ (am_s a = 0) := by omega
                          have hn11_1 : ¬ (am_s a = 1) := by omega
                          have hn11_2 : ¬ (am_s a = 2) := by omega
                          have hn11_3 : ¬ (am_s a = 3) := by omega
                          have hn11_4 : ¬ (am_s a = 4) := by omega
                          have hn11_5 : ¬ (am_s a = 5) := by omega
                          have hn11_6 : ¬ (am_s a = 6) := by omega
                          have hn11_7 : ¬ (am_s a = 7) := by omega
                          have hn11_8 : ¬ (am_s a = 8) := by omega
                          have hn11_9 : ¬ (am_s a = 9) := by omega
                          have hn11_10 : ¬ (am_s a = 10) := by omega
                          simp only [v_161, if_neg hn11_0, if_neg hn11_1, if_neg hn11_2, if_neg hn11_3, if_neg hn11_4, if_neg hn11_5, if_neg hn11_6, if_neg hn11_7, if_neg hn11_8, if_neg hn11_9, if_neg hn11_10, if_pos hc11]
                        · skip
                          refine ⟨fun hc12 => ?_, ?_⟩
                          · have hq := hq hc12
                            have hn12_0 : ¬ (am_s a = 0) := by omega
                            have hn12_1 : ¬ (am_s a = 1) := by omega
                            have hn12_2 : ¬ (am_s a = 2) := by omega
                            have hn12_3 : ¬ (am_s a = 3) := by omega
                            have hn12_4 : ¬ (am_s a = 4) := by omega
                            have hn12_5 : ¬ (am_s a = 5) := by omega
                            have hn12_6 : ¬ (am_s a = 6) := by omega
                            have hn12_7 : ¬ (am_s a = 7) := by omega
                            have hn12_8 : ¬ (am_s a = 8) := by omega
                            have hn12_9 : ¬ (am_s a = 9) := by omega
                            have hn12_10 : ¬ (am_s a = 10) := by omega
                            have hn12_11 : ¬ (am_s a = 11) := by omega
                            have hb13_0 := hq
                            refine ⟨hb13_0, ?_⟩
                            simp only [v_161, if_neg hn12_0, if_neg hn12_1, if_neg hn12_2, if_neg hn12_3, if_neg hn12_4, if_neg hn12_5, if_neg hn12_6, if_neg hn12_7, if_neg hn12_8, if_neg hn12_9, if_neg hn12_10, if_neg hn12_11, if_pos hc12]
                          · skip
                            intro hd
                            have hn_0 : ¬ (am_s a = 0) := by omega
                            have hn_1 : ¬ (am_s a = 1) := by omega
                            have hn_2 : ¬ (am_s a = 2) := by omega
                            have hn_3 : ¬ (am_s a = 3) := by omega
                            have hn_4 : ¬ (am_s a = 4) := by omega
                            have hn_5 : ¬ (am_s a = 5) := by omega
                            have hn_6 : ¬ (am_s a = 6) := by omega
                            have hn_7 : ¬ (am_s a = 7) := by omega
                            have hn_8 : ¬ (am_s a = 8) := by omega
                            have hn_9 : ¬ (am_s a = 9) := by omega
                            have hn_10 : ¬ (am_s a = 10) := by omega
                            have hn_11 : ¬ (am_s a = 11) := by omega
                            have hn_12 : ¬ (am_s a = 12) := by omega
                            simp only [v_161, if_neg hn_0, if_neg hn_1, if_neg hn_2, if_neg hn_3, if_neg hn_4, if_neg hn_5, if_neg hn_6, if_neg hn_7, if_neg hn_8, if_neg hn_9, if_neg hn_10, if_neg hn_11, if_neg hn_12]
theorem t_131_0 {fx : am_X0} {o : List am_V × am_S} {m : am_M} {p : Int}  (H : (WFG (vw m 2)) ∧ (((¬ (am_s ((if 0 ≤ am_s p ∧ am_s p < m 2 4 then 1 else 0)) = 0)) → (q_132 m 2 p)) ∧ (∀ y1 : Int, y1 = (if am_s ((if 0 ≤ am_s p ∧ am_s p < m 2 4 then 1 else 0)) = 0 then (-2) else (v_132 m 2 p)) → o = ([.inl y1], st0 m)))) : rn fx 2 (0, 0) 131 0 [some (.inr (.inr (some 0))), some (.inl p)] [] (st0 m) o := by
  refine r_ld (pc' := 1) hM_131 d_131_0 rfl rfl ?_
  refine r_gR (pc' := 4) (v := 2) hM_131 d_131_1 rfl (by decide +kernel) ?_
  refine r_ld (pc' := 5) hM_131 d_131_4 rfl rfl ?_
  obtain ⟨hz1, H⟩ := H
  refine r_cl (pc' := 8) (c := (40, 0)) (a := [.inr (.inr (some 2)), .inl p]) (q := []) hM_131 d_131_5 rfl (by decide +kernel) hM_40 rfl rfl rfl (Nat.le_of_ble_eq_true rfl) (Nat.le_of_ble_eq_true rfl) (Or.inr rfl) (n_40 (by decide) m p hz1) (Nat.le_of_ble_eq_true rfl) ?_
  show rn fx 2 (0, 0) 131 8 [some (.inr (.inr (some 0))), some (.inl p)] [.inl ((if 0 ≤ am_s p ∧ am_s p < m 2 4 then 1 else 0))] (st0 m) o
  obtain ⟨hz3, H⟩ := H
  have K : ∀ y1 : Int, y1 = (if am_s ((if 0 ≤ am_s p ∧ am_s p < m 2 4 then 1 else 0)) = 0 then (-2) else (v_132 m 2 p)) → rn fx 2 (0, 0) 131 24 [some (.inr (.inr (some 0))), some (.inl p)] [.inl y1] (st0 m) o := by
    intro y1 hy1
    replace H := H y1 hy1
    subst H
    exact rt_i hM_131 d_131_24 rfl
  replace K := K _ rfl
  clear H
  refine r_if (pc' := 22) (pc2 := 11) hM_131 d_131_8 (by decide) rfl (fun hz2 => ?_) (fun hz2 => ?_)
  · have hz2 : am_s ((if 0 ≤ am_s p ∧ am_s p < m 2 4 then 1 else 0)) = 0 := hz2
    rw [if_pos hz2] at K
    refine r_k (pc' := 24) (v := .inl (-2)) hM_131 d_131_22 rfl rfl ?_
    exact K
  · have hz2 : ¬ (am_s ((if 0 ≤ am_s p ∧ am_s p < m 2 4 then 1 else 0)) = 0) := hz2
    rw [if_neg hz2] at K
    refine r_ld (pc' := 12) hM_131 d_131_11 rfl rfl ?_
    refine r_gR (pc' := 15) (v := 2) hM_131 d_131_12 rfl (by decide +kernel) ?_
    refine r_ld (pc' := 16) hM_131 d_131_15 rfl rfl ?_
    refine r_cl (pc' := 19) (c := (132, 0)) (a := [.inr (.inr (some 2)), .inl p]) (q := []) hM_131 d_131_16 rfl (by decide +kernel) hM_132 rfl rfl rfl (Nat.le_of_ble_eq_true rfl) (Nat.le_of_ble_eq_true rfl) (Or.inr rfl) (c_132 (by decide) m p (hz3 hz2)) (Nat.le_of_ble_eq_true rfl) ?_
    show rn fx 2 (0, 0) 131 19 [some (.inr (.inr (some 0))), some (.inl p)] [.inl (v_132 m 2 p)] (st0 m) o
    refine r_go (pc' := 24) hM_131 d_131_19 (by decide) ?_
    exact K
def v_131 (m : am_M) (p : Int) : Int := (if am_s ((if 0 ≤ am_s p ∧ am_s p < m 2 4 then 1 else 0)) = 0 then (-2) else (v_132 m 2 p))
def q_131 (m : am_M) (p : Int) : Prop := (WFG (vw m 2)) ∧ ((¬ (am_s ((if 0 ≤ am_s p ∧ am_s p < m 2 4 then 1 else 0)) = 0)) → (q_132 m 2 p))
/-- HeardBarrels.ripeIn -/
theorem c_131 {fx : am_X0}   (m : am_M) (p : Int) (hq : q_131 m p) : rn fx 2 (0, 0) 131 0 (am_ent 2 [.inr (.inr (some 0)), .inl p]) [] (st0 m) ([.inl (v_131 m p)], st0 m) := by
  unfold q_131 at hq
  show rn fx 2 (0, 0) 131 0 [some (.inr (.inr (some 0))), some (.inl p)] [] (st0 m) _
  refine t_131_0  ?_
  obtain ⟨hb0_0, hq⟩ := hq
  refine ⟨hb0_0, ?_⟩
  have hb0_0 := hq
  refine ⟨hb0_0, ?_⟩
  intro y1 hy1
  subst hy1
  simp only [v_131]
theorem t_53_0 {fx : am_X0} {o : List am_V × am_S} {m : am_M} {a : Int}  (H : ∀ y1 : Int, y1 = (if am_s a < 0 then 0 else (if am_s 4 ≤ am_s a then 0 else 1)) → o = ([.inl y1], st0 m)) : rn fx 0 (0, 0) 53 0 [some (.inl a)] [] (st0 m) o := by
  refine r_ld (pc' := 1) hM_53 d_53_0 rfl rfl ?_
  have K : ∀ y1 : Int, y1 = (if am_s a < 0 then 0 else (if am_s 4 ≤ am_s a then 0 else 1)) → rn fx 0 (0, 0) 53 14 [some (.inl a)] [.inl y1] (st0 m) o := by
    intro y1 hy1
    replace H := H y1 hy1
    subst H
    refine rt_z hM_53 d_53_14 rfl ?_
    rw [hy1]
    repeat' first | exact Or.inl rfl | exact Or.inr rfl | apply z01_ite
  replace K := K _ rfl
  clear H
  refine r_if (pc' := 13) (pc2 := 4) hM_53 d_53_1 (by decide) rfl (fun hz1 => ?_) (fun hz1 => ?_)
  · have hz1 : am_s a < 0 := hz1
    rw [if_pos hz1] at K
    refine r_k (pc' := 14) (v := .inl 0) hM_53 d_53_13 rfl rfl ?_
    exact K
  · have hz1 : ¬ (am_s a < 0) := hz1
    rw [if_neg hz1] at K
    refine r_ld (pc' := 5) hM_53 d_53_4 rfl rfl ?_
    refine r_k (pc' := 6) (v := .inl 4) hM_53 d_53_5 rfl rfl ?_
    refine r_ic (pc' := 13) (pc2 := 9) hM_53 d_53_6 (by decide) rfl (fun hz2 => ?_) (fun hz2 => ?_)
    · have hz2 : am_s 4 ≤ am_s a := hz2
      rw [if_pos hz2] at K
      refine r_k (pc' := 14) (v := .inl 0) hM_53 d_53_13 rfl rfl ?_
      exact K
    · have hz2 : ¬ (am_s 4 ≤ am_s a) := hz2
      rw [if_neg hz2] at K
      refine r_k (pc' := 10) (v := .inl 1) hM_53 d_53_9 rfl rfl ?_
      refine r_go (pc' := 14) hM_53 d_53_10 (by decide) ?_
      exact K
def v_53 (m : am_M) (a : Int) : Int := (if am_s a < 0 then 0 else (if am_s 4 ≤ am_s a then 0 else 1))
/-- HeardBarrels.isRow -/
theorem c_53 {fx : am_X0}   (m : am_M) (a : Int)  : rn fx 0 (0, 0) 53 0 (am_ent 1 [.inl a]) [] (st0 m) ([.inl (v_53 m a)], st0 m) := by
  show rn fx 0 (0, 0) 53 0 [some (.inl a)] [] (st0 m) _
  refine t_53_0  ?_
  intro y1 hy1
  subst hy1
  simp only [v_53]
theorem t_59_0 {fx : am_X0} {o : List am_V × am_S} {m : am_M} {a : Int}  (H : ((¬ am_s (v_53 m a) = 0) → (0 ≤ am_s a ∧ am_s a < (4 : Nat)) ∧ ((RWC m (25 + 2 * (am_s a).toNat)) ∧ (∀ y1 : Int, y1 = (if am_s ((if m (25 + 2 * (am_s a).toNat) 2 < 0 then 1 else 0)) = 0 then 0 else (-6)) → o = ([.inl y1], st0 m)))) ∧ (¬ (¬ am_s (v_53 m a) = 0) → o = ([.inl (-2)], st0 m))) : rn fx 1 (0, 0) 59 0 [some (.inr (.inr (some 0))), some (.inl a)] [] (st0 m) o := by
  refine r_ld (pc' := 1) hM_59 d_59_0 rfl rfl ?_
  refine r_cl (pc' := 4) (c := (53, 2)) (a := [.inl a]) (q := []) hM_59 d_59_1 rfl (by decide +kernel) hM_53 rfl rfl rfl (Nat.le_of_ble_eq_true rfl) (Nat.le_of_ble_eq_true rfl) (Or.inl rfl) (c_53  m a) (Nat.le_of_ble_eq_true rfl) ?_
  show rn fx 1 (0, 0) 59 4 [some (.inr (.inr (some 0))), some (.inl a)] [.inl (v_53 m a)] (st0 m) o
  refine r_if (pc' := 10) (pc2 := 7) hM_59 d_59_4 (by decide) rfl (fun hz1 => ?_) (fun hz1 => ?_)
  · have H := H.1 hz1
    refine r_ld (pc' := 11) hM_59 d_59_10 rfl rfl ?_
    refine r_gR (pc' := 14) (v := 14) hM_59 d_59_11 rfl (by decide +kernel) ?_
    refine r_ld (pc' := 15) hM_59 d_59_14 rfl rfl ?_
    obtain ⟨H0, H⟩ := H
    have hz2 := H0
    refine r_aa (pc' := 16) (n := 4) hM_59 d_59_15 rfl rfl (by decide) H0 (rfRows H0).1 (shRk (rfRows H0).2).1 ?_
    obtain ⟨hz3, H⟩ := H
    refine r_cl (pc' := 19) (c := (54, 0)) (a := [.inr (.inr (some (25 + 2 * (am_s a).toNat)))]) (q := []) hM_59 d_59_16 rfl (by decide +kernel) hM_54 rfl rfl rfl (Nat.le_of_ble_eq_true rfl) (Nat.le_of_ble_eq_true rfl) (Or.inr (rcvR ((rfRows hz2).2) _)) (n_54 ((rfRows hz2).2) m  hz3) (Nat.le_of_ble_eq_true rfl) ?_
    show rn fx 1 (0, 0) 59 19 [some (.inr (.inr (some 0))), some (.inl a)] [.inl ((if m (25 + 2 * (am_s a).toNat) 2 < 0 then 1 else 0))] (st0 m) o
    have K : ∀ y1 : Int, y1 = (if am_s ((if m (25 + 2 * (am_s a).toNat) 2 < 0 then 1 else 0)) = 0 then 0 else (-6)) → rn fx 1 (0, 0) 59 28 [some (.inr (.inr (some 0))), some (.inl a)] [.inl y1] (st0 m) o := by
      intro y1 hy1
      replace H := H y1 hy1
      subst H
      exact rt_i hM_59 d_59_28 rfl
    replace K := K _ rfl
    clear H
    refine r_if (pc' := 27) (pc2 := 22) hM_59 d_59_19 (by decide) rfl (fun hz4 => ?_) (fun hz4 => ?_)
    · have hz4 : am_s ((if m (25 + 2 * (am_s a).toNat) 2 < 0 then 1 else 0)) = 0 := hz4
      rw [if_pos hz4] at K
      refine r_k (pc' := 28) (v := .inl 0) hM_59 d_59_27 rfl rfl ?_
      exact K
    · have hz4 : ¬ (am_s ((if m (25 + 2 * (am_s a).toNat) 2 < 0 then 1 else 0)) = 0) := hz4
      rw [if_neg hz4] at K
      refine r_k (pc' := 24) (v := .inl (-6)) hM_59 d_59_22 rfl rfl ?_
      refine r_go (pc' := 28) hM_59 d_59_24 (by decide) ?_
      exact K
  · have H := H.2 hz1
    refine r_k (pc' := 9) (v := .inl (-2)) hM_59 d_59_7 rfl rfl ?_
    subst H
    exact rt_i hM_59 d_59_9 rfl
def v_59 (m : am_M) (a : Int) : Int := (if ¬ am_s (v_53 m a) = 0 then (if am_s ((if m (25 + 2 * (am_s a).toNat) 2 < 0 then 1 else 0)) = 0 then 0 else (-6)) else (-2))
def q_59 (m : am_M) (a : Int) : Prop := (((¬ am_s (v_53 m a) = 0) → (0 ≤ am_s a ∧ am_s a < (4 : Nat)) ∧ (RWC m (25 + 2 * (am_s a).toNat))))
/-- HeardBarrels.rowRefusal -/
theorem c_59 {fx : am_X0}   (m : am_M) (a : Int) (hq : q_59 m a) : rn fx 1 (0, 0) 59 0 (am_ent 2 [.inr (.inr (some 0)), .inl a]) [] (st0 m) ([.inl (v_59 m a)], st0 m) := by
  unfold q_59 at hq
  show rn fx 1 (0, 0) 59 0 [some (.inr (.inr (some 0))), some (.inl a)] [] (st0 m) _
  refine t_59_0  ?_
  refine ⟨fun hc0 => ?_, fun hc0 => ?_⟩
  · have hq := hq hc0
    obtain ⟨hb1_0, hq⟩ := hq
    refine ⟨hb1_0, ?_⟩
    have hb1_0 := hq
    refine ⟨hb1_0, ?_⟩
    intro y1 hy1
    subst hy1
    simp only [v_59, if_pos hc0]
  · skip
    simp only [v_59, if_neg hc0]
theorem t_80_0 {fx : am_X0} {o : List am_V × am_S} {m : am_M} {a : Int}  (H : (q_59 m a) ∧ (((am_s (v_59 m a) = 0) → (0 ≤ am_s a ∧ am_s a < (4 : Nat)) ∧ (∀ y1 : Int, y1 = (if ¬ am_s (m (25 + 2 * (am_s a).toNat) 2) = am_s (m 2 4) then (-7) else 0) → o = ([.inl y1], st0 m))) ∧ (¬ (am_s (v_59 m a) = 0) → o = ([.inl (v_59 m a)], st0 m)))) : rn fx 2 (0, 0) 80 0 [some (.inr (.inr (some 0))), some (.inl a), none] [] (st0 m) o := by
  refine r_ld (pc' := 1) hM_80 d_80_0 rfl rfl ?_
  refine r_ld (pc' := 2) hM_80 d_80_1 rfl rfl ?_
  obtain ⟨hz1, H⟩ := H
  refine r_cl (pc' := 5) (c := (59, 0)) (a := [.inr (.inr (some 0)), .inl a]) (q := []) hM_80 d_80_2 rfl (by decide +kernel) hM_59 rfl rfl rfl (Nat.le_of_ble_eq_true rfl) (Nat.le_of_ble_eq_true rfl) (Or.inr rfl) (c_59  m a hz1) (Nat.le_of_ble_eq_true rfl) ?_
  show rn fx 2 (0, 0) 80 5 [some (.inr (.inr (some 0))), some (.inl a), none] [.inl (v_59 m a)] (st0 m) o
  refine r_sto (pc' := 6) (ls' := [some (.inr (.inr (some 0))), some (.inl a), some (.inl (v_59 m a))]) hM_80 d_80_5 rfl rfl ?_
  refine r_ld (pc' := 7) hM_80 d_80_6 rfl rfl ?_
  refine r_if (pc' := 12) (pc2 := 10) hM_80 d_80_7 (by decide) rfl (fun hz2 => ?_) (fun hz2 => ?_)
  · have H := H.1 hz2
    refine r_ld (pc' := 13) hM_80 d_80_12 rfl rfl ?_
    refine r_gR (pc' := 16) (v := 14) hM_80 d_80_13 rfl (by decide +kernel) ?_
    refine r_ld (pc' := 17) hM_80 d_80_16 rfl rfl ?_
    obtain ⟨H0, H⟩ := H
    have hz3 := H0
    refine r_aa (pc' := 18) (n := 4) hM_80 d_80_17 rfl rfl (by decide) H0 (rfRows H0).1 (shRk (rfRows H0).2).1 ?_
    refine r_gI (pc' := 21) (k0 := 2) hM_80 d_80_18 rfl (gfR_1_144 ((rfRows hz3).2)) ?_
    refine r_ld (pc' := 22) hM_80 d_80_21 rfl rfl ?_
    refine r_gR (pc' := 25) (v := 2) hM_80 d_80_22 rfl (by decide +kernel) ?_
    refine r_gI (pc' := 28) (k0 := 4) hM_80 d_80_25 rfl (by decide +kernel) ?_
    have K : ∀ y1 : Int, y1 = (if ¬ am_s (m (25 + 2 * (am_s a).toNat) 2) = am_s (m 2 4) then (-7) else 0) → rn fx 2 (0, 0) 80 37 [some (.inr (.inr (some 0))), some (.inl a), some (.inl (v_59 m a))] [.inl y1] (st0 m) o := by
      intro y1 hy1
      replace H := H y1 hy1
      subst H
      exact rt_i hM_80 d_80_37 rfl
    replace K := K _ rfl
    clear H
    refine r_ic (pc' := 35) (pc2 := 31) hM_80 d_80_28 (by decide) rfl (fun hz4 => ?_) (fun hz4 => ?_)
    · have hz4 : ¬ am_s (m (25 + 2 * (am_s a).toNat) 2) = am_s (m 2 4) := hz4
      rw [if_pos hz4] at K
      refine r_k (pc' := 37) (v := .inl (-7)) hM_80 d_80_35 rfl rfl ?_
      exact K
    · have hz4 : ¬ (¬ am_s (m (25 + 2 * (am_s a).toNat) 2) = am_s (m 2 4)) := hz4
      rw [if_neg hz4] at K
      refine r_k (pc' := 32) (v := .inl 0) hM_80 d_80_31 rfl rfl ?_
      refine r_go (pc' := 37) hM_80 d_80_32 (by decide) ?_
      exact K
  · have H := H.2 hz2
    refine r_ld (pc' := 11) hM_80 d_80_10 rfl rfl ?_
    subst H
    exact rt_i hM_80 d_80_11 rfl
def v_80 (m : am_M) (a : Int) : Int := (if am_s (v_59 m a) = 0 then (if ¬ am_s (m (25 + 2 * (am_s a).toNat) 2) = am_s (m 2 4) then (-7) else 0) else (v_59 m a))
def q_80 (m : am_M) (a : Int) : Prop := (q_59 m a) ∧ (((am_s (v_59 m a) = 0) → (0 ≤ am_s a ∧ am_s a < (4 : Nat))))
/-- HeardBarrels.knocksRefusal -/
theorem c_80 {fx : am_X0}   (m : am_M) (a : Int) (hq : q_80 m a) : rn fx 2 (0, 0) 80 0 (am_ent 3 [.inr (.inr (some 0)), .inl a]) [] (st0 m) ([.inl (v_80 m a)], st0 m) := by
  unfold q_80 at hq
  show rn fx 2 (0, 0) 80 0 [some (.inr (.inr (some 0))), some (.inl a), none] [] (st0 m) _
  refine t_80_0  ?_
  obtain ⟨hb0_0, hq⟩ := hq
  refine ⟨hb0_0, ?_⟩
  refine ⟨fun hc0 => ?_, fun hc0 => ?_⟩
  · have hq := hq hc0
    have hb1_0 := hq
    refine ⟨hb1_0, ?_⟩
    intro y1 hy1
    subst hy1
    simp only [v_80, if_pos hc0]
  · skip
    simp only [v_80, if_neg hc0]
