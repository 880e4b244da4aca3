theorem t_149_0 {fx : am_X0} {o : List am_V × am_S} {m : am_M} {s : Int} {l : Int} {c : Int}  (H : (0 ≤ am_s (((am_or s (am_shl 1 c)) * 8) + c) ∧ am_s (((am_or s (am_shl 1 c)) * 8) + c) < (2048 : Nat)) ∧ ((0 ≤ s ∧ s < 4096) ∧ (((am_s l < 0) → o = ([.inl (m 52 ((am_s (((am_or s (am_shl 1 c)) * 8) + c)).toNat))], st0 m)) ∧ (¬ (am_s l < 0) → ((am_s (((cnt s.toNat 12 : Nat) : Int)) < am_s 1) → o = ([.inl (m 52 ((am_s (((am_or s (am_shl 1 c)) * 8) + c)).toNat))], st0 m)) ∧ (¬ (am_s (((cnt s.toNat 12 : Nat) : Int)) < am_s 1) → ((am_s (m 49 4) ≤ am_s (((cnt s.toNat 12 : Nat) : Int))) → o = ([.inl (m 52 ((am_s (((am_or s (am_shl 1 c)) * 8) + c)).toNat))], st0 m)) ∧ (¬ (am_s (m 49 4) ≤ am_s (((cnt s.toNat 12 : Nat) : Int))) → (0 ≤ am_s (((cnt s.toNat 12 : Nat) : Int)) ∧ am_s (((cnt s.toNat 12 : Nat) : Int)) < (8 : Nat)) ∧ ((0 ≤ am_s ((((cnt s.toNat 12 : Nat) : Int)) - 1) ∧ am_s ((((cnt s.toNat 12 : Nat) : Int)) - 1) < (8 : Nat)) ∧ (((am_s (m 50 ((am_s (((cnt s.toNat 12 : Nat) : Int))).toNat)) = am_s ((m 50 ((am_s ((((cnt s.toNat 12 : Nat) : Int)) - 1)).toNat)) + 1)) → (0 ≤ am_s l ∧ am_s l < (8 : Nat)) ∧ ((0 ≤ am_s c ∧ am_s c < (8 : Nat)) ∧ (o = ([.inl (v_14 m (m 52 ((am_s (((am_or s (am_shl 1 c)) * 8) + c)).toNat)) (v_150 m ((m 51 ((am_s l).toNat)) - (m 51 ((am_s c).toNat)))))], st0 m)))) ∧ (¬ (am_s (m 50 ((am_s (((cnt s.toNat 12 : Nat) : Int))).toNat)) = am_s ((m 50 ((am_s ((((cnt s.toNat 12 : Nat) : Int)) - 1)).toNat)) + 1)) → o = ([.inl (m 52 ((am_s (((am_or s (am_shl 1 c)) * 8) + c)).toNat))], st0 m)))))))))) : rn fx 1 (0, 0) 149 0 [some (.inr (.inr (some 49))), some (.inl s), some (.inl l), some (.inl c), none, none] [] (st0 m) o := by
  refine r_ld (pc' := 1) hM_149 d_149_0 rfl rfl ?_
  refine r_gR (pc' := 4) (v := 52) hM_149 d_149_1 rfl (by decide +kernel) ?_
  refine r_ld (pc' := 5) hM_149 d_149_4 rfl rfl ?_
  refine r_k (pc' := 6) (v := .inl 1) hM_149 d_149_5 rfl rfl ?_
  refine r_ld (pc' := 7) hM_149 d_149_6 rfl rfl ?_
  refine r_b (pc' := 8) (z := (am_shl 1 c)) hM_149 d_149_7 rfl rfl ?_
  refine r_b (pc' := 9) (z := (am_or s (am_shl 1 c))) hM_149 d_149_8 rfl rfl ?_
  refine r_k (pc' := 11) (v := .inl 8) hM_149 d_149_9 rfl rfl ?_
  refine r_b (pc' := 12) (z := ((am_or s (am_shl 1 c)) * 8)) hM_149 d_149_11 rfl rfl ?_
  refine r_ld (pc' := 13) hM_149 d_149_12 rfl rfl ?_
  refine r_b (pc' := 14) (z := (((am_or s (am_shl 1 c)) * 8) + c)) hM_149 d_149_13 rfl rfl ?_
  obtain ⟨hz1, H⟩ := H
  refine r_ia (pc' := 15) (n := 2048) hM_149 d_149_14 rfl rfl hz1 ?_
  refine r_sto (pc' := 17) (ls' := [some (.inr (.inr (some 49))), some (.inl s), some (.inl l), some (.inl c), some (.inl (m 52 ((am_s (((am_or s (am_shl 1 c)) * 8) + c)).toNat))), none]) hM_149 d_149_15 rfl rfl ?_
  refine r_ld (pc' := 18) hM_149 d_149_17 rfl rfl ?_
  obtain ⟨hz2, H⟩ := H
  refine r_cl (pc' := 21) (c := (72, 2)) (a := [.inl s]) (q := []) hM_149 d_149_18 rfl (by decide +kernel) hM_72 rfl rfl rfl (Nat.le_of_ble_eq_true rfl) (Nat.le_of_ble_eq_true rfl) (Or.inl rfl) (n_72  m s hz2) (Nat.le_of_ble_eq_true rfl) ?_
  show rn fx 1 (0, 0) 149 21 [some (.inr (.inr (some 49))), some (.inl s), some (.inl l), some (.inl c), some (.inl (m 52 ((am_s (((am_or s (am_shl 1 c)) * 8) + c)).toNat))), none] [.inl (((cnt s.toNat 12 : Nat) : Int))] (st0 m) o
  refine r_sto (pc' := 23) (ls' := [some (.inr (.inr (some 49))), some (.inl s), some (.inl l), some (.inl c), some (.inl (m 52 ((am_s (((am_or s (am_shl 1 c)) * 8) + c)).toNat))), some (.inl (((cnt s.toNat 12 : Nat) : Int)))]) hM_149 d_149_21 rfl rfl ?_
  refine r_ld (pc' := 24) hM_149 d_149_23 rfl rfl ?_
  refine r_if (pc' := 63) (pc2 := 27) hM_149 d_149_24 (by decide) rfl (fun hz3 => ?_) (fun hz3 => ?_)
  · have H := H.1 hz3
    refine r_ld (pc' := 65) hM_149 d_149_63 rfl rfl ?_
    subst H
    exact rt_i hM_149 d_149_65 rfl
  · have H := H.2 hz3
    refine r_ld (pc' := 29) hM_149 d_149_27 rfl rfl ?_
    refine r_k (pc' := 30) (v := .inl 1) hM_149 d_149_29 rfl rfl ?_
    refine r_ic (pc' := 63) (pc2 := 33) hM_149 d_149_30 (by decide) rfl (fun hz4 => ?_) (fun hz4 => ?_)
    · have H := H.1 hz4
      refine r_ld (pc' := 65) hM_149 d_149_63 rfl rfl ?_
      subst H
      exact rt_i hM_149 d_149_65 rfl
    · have H := H.2 hz4
      refine r_ld (pc' := 35) hM_149 d_149_33 rfl rfl ?_
      refine r_ld (pc' := 36) hM_149 d_149_35 rfl rfl ?_
      refine r_gI (pc' := 39) (k0 := 4) hM_149 d_149_36 rfl (by decide +kernel) ?_
      refine r_ic (pc' := 63) (pc2 := 42) hM_149 d_149_39 (by decide) rfl (fun hz5 => ?_) (fun hz5 => ?_)
      · have H := H.1 hz5
        refine r_ld (pc' := 65) hM_149 d_149_63 rfl rfl ?_
        subst H
        exact rt_i hM_149 d_149_65 rfl
      · have H := H.2 hz5
        refine r_ld (pc' := 43) hM_149 d_149_42 rfl rfl ?_
        refine r_gR (pc' := 46) (v := 50) hM_149 d_149_43 rfl (by decide +kernel) ?_
        refine r_ld (pc' := 48) hM_149 d_149_46 rfl rfl ?_
        obtain ⟨hz6, H⟩ := H
        refine r_ia (pc' := 49) (n := 8) hM_149 d_149_48 rfl rfl hz6 ?_
        refine r_ld (pc' := 50) hM_149 d_149_49 rfl rfl ?_
        refine r_gR (pc' := 53) (v := 50) hM_149 d_149_50 rfl (by decide +kernel) ?_
        refine r_ld (pc' := 55) hM_149 d_149_53 rfl rfl ?_
        refine r_k (pc' := 56) (v := .inl 1) hM_149 d_149_55 rfl rfl ?_
        refine r_b (pc' := 57) (z := ((((cnt s.toNat 12 : Nat) : Int)) - 1)) hM_149 d_149_56 rfl rfl ?_
        obtain ⟨hz7, H⟩ := H
        refine r_ia (pc' := 58) (n := 8) hM_149 d_149_57 rfl rfl hz7 ?_
        refine r_k (pc' := 59) (v := .inl 1) hM_149 d_149_58 rfl rfl ?_
        refine r_b (pc' := 60) (z := ((m 50 ((am_s ((((cnt s.toNat 12 : Nat) : Int)) - 1)).toNat)) + 1)) hM_149 d_149_59 rfl rfl ?_
        refine r_ic (pc' := 66) (pc2 := 63) hM_149 d_149_60 (by decide) rfl (fun hz8 => ?_) (fun hz8 => ?_)
        · have H := H.1 hz8
          refine r_ld (pc' := 68) hM_149 d_149_66 rfl rfl ?_
          refine r_ld (pc' := 69) hM_149 d_149_68 rfl rfl ?_
          refine r_gR (pc' := 72) (v := 51) hM_149 d_149_69 rfl (by decide +kernel) ?_
          refine r_ld (pc' := 73) hM_149 d_149_72 rfl rfl ?_
          obtain ⟨hz9, H⟩ := H
          refine r_ia (pc' := 74) (n := 8) hM_149 d_149_73 rfl rfl hz9 ?_
          refine r_ld (pc' := 75) hM_149 d_149_74 rfl rfl ?_
          refine r_gR (pc' := 78) (v := 51) hM_149 d_149_75 rfl (by decide +kernel) ?_
          refine r_ld (pc' := 79) hM_149 d_149_78 rfl rfl ?_
          obtain ⟨hz10, H⟩ := H
          refine r_ia (pc' := 80) (n := 8) hM_149 d_149_79 rfl rfl hz10 ?_
          refine r_b (pc' := 81) (z := ((m 51 ((am_s l).toNat)) - (m 51 ((am_s c).toNat)))) hM_149 d_149_80 rfl rfl ?_
          refine r_cl (pc' := 84) (c := (150, 2)) (a := [.inl ((m 51 ((am_s l).toNat)) - (m 51 ((am_s c).toNat)))]) (q := [.inl (m 52 ((am_s (((am_or s (am_shl 1 c)) * 8) + c)).toNat))]) hM_149 d_149_81 rfl (by decide +kernel) hM_150 rfl rfl rfl (Nat.le_of_ble_eq_true rfl) (Nat.le_of_ble_eq_true rfl) (Or.inl rfl) (c_150  m ((m 51 ((am_s l).toNat)) - (m 51 ((am_s c).toNat)))) (Nat.le_of_ble_eq_true rfl) ?_
          show rn fx 1 (0, 0) 149 84 [some (.inr (.inr (some 49))), some (.inl s), some (.inl l), some (.inl c), some (.inl (m 52 ((am_s (((am_or s (am_shl 1 c)) * 8) + c)).toNat))), some (.inl (((cnt s.toNat 12 : Nat) : Int)))] [.inl (v_150 m ((m 51 ((am_s l).toNat)) - (m 51 ((am_s c).toNat)))), .inl (m 52 ((am_s (((am_or s (am_shl 1 c)) * 8) + c)).toNat))] (st0 m) o
          refine r_cl (pc' := 87) (c := (14, 2)) (a := [.inl (m 52 ((am_s (((am_or s (am_shl 1 c)) * 8) + c)).toNat)), .inl (v_150 m ((m 51 ((am_s l).toNat)) - (m 51 ((am_s c).toNat))))]) (q := []) hM_149 d_149_84 rfl (by decide +kernel) hM_14 rfl rfl rfl (Nat.le_of_ble_eq_true rfl) (Nat.le_of_ble_eq_true rfl) (Or.inl rfl) (c_14  m (m 52 ((am_s (((am_or s (am_shl 1 c)) * 8) + c)).toNat)) (v_150 m ((m 51 ((am_s l).toNat)) - (m 51 ((am_s c).toNat))))) (Nat.le_of_ble_eq_true rfl) ?_
          show rn fx 1 (0, 0) 149 87 [some (.inr (.inr (some 49))), some (.inl s), some (.inl l), some (.inl c), some (.inl (m 52 ((am_s (((am_or s (am_shl 1 c)) * 8) + c)).toNat))), some (.inl (((cnt s.toNat 12 : Nat) : Int)))] [.inl (v_14 m (m 52 ((am_s (((am_or s (am_shl 1 c)) * 8) + c)).toNat)) (v_150 m ((m 51 ((am_s l).toNat)) - (m 51 ((am_s c).toNat)))))] (st0 m) o
          subst H
          exact rt_i hM_149 d_149_87 rfl
        · have H := H.2 hz8
          refine r_ld (pc' := 65) hM_149 d_149_63 rfl rfl ?_
          subst H
          exact rt_i hM_149 d_149_65 rfl
def v_149 (m : am_M) (s : Int) (l : Int) (c : Int) : Int := (if am_s l < 0 then (m 52 ((am_s (((am_or s (am_shl 1 c)) * 8) + c)).toNat)) else (if am_s (((cnt s.toNat 12 : Nat) : Int)) < am_s 1 then (m 52 ((am_s (((am_or s (am_shl 1 c)) * 8) + c)).toNat)) else (if am_s (m 49 4) ≤ am_s (((cnt s.toNat 12 : Nat) : Int)) then (m 52 ((am_s (((am_or s (am_shl 1 c)) * 8) + c)).toNat)) else (if am_s (m 50 ((am_s (((cnt s.toNat 12 : Nat) : Int))).toNat)) = am_s ((m 50 ((am_s ((((cnt s.toNat 12 : Nat) : Int)) - 1)).toNat)) + 1) then (v_14 m (m 52 ((am_s (((am_or s (am_shl 1 c)) * 8) + c)).toNat)) (v_150 m ((m 51 ((am_s l).toNat)) - (m 51 ((am_s c).toNat))))) else (m 52 ((am_s (((am_or s (am_shl 1 c)) * 8) + c)).toNat))))))
def q_149 (m : am_M) (s : Int) (l : Int) (c : Int) : Prop := (0 ≤ am_s (((am_or s (am_shl 1 c)) * 8) + c) ∧ am_s (((am_or s (am_shl 1 c)) * 8) + c) < (2048 : Nat)) ∧ (0 ≤ s ∧ s < 4096) ∧ ((¬ (am_s l < 0) → ((¬ (am_s (((cnt s.toNat 12 : Nat) : Int)) < am_s 1) → ((¬ (am_s (m 49 4) ≤ am_s (((cnt s.toNat 12 : Nat) : Int))) → (0 ≤ am_s (((cnt s.toNat 12 : Nat) : Int)) ∧ am_s (((cnt s.toNat 12 : Nat) : Int)) < (8 : Nat)) ∧ (0 ≤ am_s ((((cnt s.toNat 12 : Nat) : Int)) - 1) ∧ am_s ((((cnt s.toNat 12 : Nat) : Int)) - 1) < (8 : Nat)) ∧ (((am_s (m 50 ((am_s (((cnt s.toNat 12 : Nat) : Int))).toNat)) = am_s ((m 50 ((am_s ((((cnt s.toNat 12 : Nat) : Int)) - 1)).toNat)) + 1)) → (0 ≤ am_s l ∧ am_s l < (8 : Nat)) ∧ (0 ≤ am_s c ∧ am_s c < (8 : Nat))))))))))
/-- HeardBarrels$Layer.differenceWith -/
theorem c_149 {fx : am_X0}   (m : am_M) (s : Int) (l : Int) (c : Int) (hq : q_149 m s l c) : rn fx 1 (0, 0) 149 0 (am_ent 6 [.inr (.inr (some 49)), .inl s, .inl l, .inl c]) [] (st0 m) ([.inl (v_149 m s l c)], st0 m) := by
  unfold q_149 at hq
  show rn fx 1 (0, 0) 149 0 [some (.inr (.inr (some 49))), some (.inl s), some (.inl l), some (.inl c), none, none] [] (st0 m) _
  refine t_149_0  ?_
  obtain ⟨hb0_0, hq⟩ := hq
  refine ⟨hb0_0, ?_⟩
  obtain ⟨hb0_0, hq⟩ := hq
  refine ⟨hb0_0, ?_⟩
  refine ⟨fun hc0 => ?_, fun hc0 => ?_⟩
  · skip
    simp only [v_149, if_pos hc0]
  · have hq := hq hc0
    refine ⟨fun hc1 => ?_, fun hc1 => ?_⟩
    · skip
      simp only [v_149, if_neg hc0, if_pos hc1]
    · have hq := hq hc1
      refine ⟨fun hc2 => ?_, fun hc2 => ?_⟩
      · skip
        simp only [v_149, if_neg hc0, if_neg hc1, if_pos hc2]
      · have hq := hq hc2
        obtain ⟨hb3_0, hq⟩ := hq
        refine ⟨hb3_0, ?_⟩
        obtain ⟨hb3_0, hq⟩ := hq
        refine ⟨hb3_0, ?_⟩
        refine ⟨fun hc3 => ?_, fun hc3 => ?_⟩
        · have hq := hq hc3
          obtain ⟨hb4_0, hq⟩ := hq
          refine ⟨hb4_0, ?_⟩
          have hb4_0 := hq
          refine ⟨hb4_0, ?_⟩
          simp only [v_149, if_neg hc0, if_neg hc1, if_neg hc2, if_pos hc3]
        · skip
          simp only [v_149, if_neg hc0, if_neg hc1, if_neg hc2, if_neg hc3]
theorem v149 {m : am_M} {s c : Nat} {l : Int} {rest : Int} (hL : LYD m) (hs : s < 2 ^ BN (nv (vw m 2))) (hc : c < BN (nv (vw m 2))) (hb : s.testBit c = false) (hl : l = -1 ∧ cnt s 12 = 0 ∨ 0 ≤ l ∧ l < ((BN (nv (vw m 2)) : Nat) : Int)) (hr : m 52 (8 * (s ||| 2 ^ c) + c) = rest) (hrr : 0 ≤ rest ∧ rest ≤ 1000) : q_149 m (s : Int) l (c : Int) ∧ v_149 m (s : Int) l (c : Int) = min (dif (adj (nv (vw m 2))) (tau (nv (vw m 2))) (cnt s 12) l.toNat c) rest := by
  obtain ⟨hw, hB, h49, hcell⟩ := hL
  have hN := vwN hw
  have hwn := WFG_nv hw
  have eg0 : nv (vw m 2) 0 = m 2 4 := by rw [nv0, vw_0]
  generalize hBv : BN (nv (vw m 2)) = B at *
  have hp8 : 2 ^ B ≤ 2 ^ 8 := Nat.pow_le_pow_right (by decide) hB
  have hcp : 2 ^ c < 2 ^ B := Nat.pow_lt_pow_right (by decide) hc
  have hor : am_or (s : Int) (am_shl 1 (c : Int)) = ((s ||| 2 ^ c : Nat) : Int) := by
    rw [bx_shl1 c (by omega)]
    exact bx_or12 (by omega) (by omega)
  have horl : s ||| 2 ^ c < 2 ^ B := Nat.or_lt_two_pow hs hcp
  have ei : am_s (((s ||| 2 ^ c : Nat) : Int) * 8 + (c : Int)) = ((s ||| 2 ^ c : Nat) : Int) * 8 + (c : Int) := am_s_id (by omega) (by omega)
  have ni : (((s ||| 2 ^ c : Nat) : Int) * 8 + (c : Int)).toNat = 8 * (s ||| 2 ^ c) + c := by omega
  have hcn := cnt_lt (by omega) hs hc hb
  have el : am_s l = l := am_s_id (by omega) (by omega)
  have ec : am_s (c : Int) = (c : Int) := am_s_id (by omega) (by omega)
  have ecn : am_s ((cnt s 12 : Nat) : Int) = ((cnt s 12 : Nat) : Int) := am_s_id (by omega) (by omega)
  have ecn1 : am_s (((cnt s 12 : Nat) : Int) - 1) = ((cnt s 12 : Nat) : Int) - 1 := am_s_id (by omega) (by omega)
  have hsp : ∀ j, j < B → spx (nv (vw m 2)) j < 12 := fun j hj => by
    have := (spx_ok (g := nv (vw m 2)) (by omega : j < BN (nv (vw m 2)))).1
    omega
  have htau : ∀ j, j < B → 20 ≤ tau (nv (vw m 2)) j ∧ tau (nv (vw m 2)) j ≤ 129 := fun j hj => tno_rng hwn (hsp j hj)
  constructor
  · unfold q_149
    rw [hor, ei, Int.toNat_natCast, el, ecn, ecn1, h49, show am_s 1 = 1 from rfl, ec, am_s_id (z := (B : Int)) (by omega) (by omega)]
    exact ⟨by omega, by omega, fun h1 h2 h3 => ⟨by omega, by omega, fun _ => ⟨by omega, by omega⟩⟩⟩
  · unfold v_149
    rw [hor, ei, ni, hr, Int.toNat_natCast, el, ecn, ecn1, h49, show am_s 1 = 1 from rfl, ec, am_s_id (z := (B : Int)) (by omega) (by omega), Int.toNat_natCast, Int.toNat_natCast]
    have no : adj (nv (vw m 2)) (cnt s 12) = false → rest = min (dif (adj (nv (vw m 2))) (tau (nv (vw m 2))) (cnt s 12) l.toNat c) rest := by
      intro h
      unfold dif
      rw [h, if_neg (by decide)]
      omega
    by_cases c1 : l < 0
    · rw [if_pos c1]
      exact no (decide_eq_false (by omega))
    · rw [if_neg c1]
      by_cases c2 : ((cnt s 12 : Nat) : Int) < 1
      · rw [if_pos c2]
        exact no (decide_eq_false (by omega))
      · rw [if_neg c2, if_neg (by omega)]
        obtain ⟨x1, -⟩ := hcell (cnt s 12) (by omega)
        obtain ⟨x2, -⟩ := hcell (cnt s 12 - 1) (by omega)
        have n1 : (((cnt s 12 : Nat) : Int) - 1).toNat = cnt s 12 - 1 := by omega
        have b1 := hsp (cnt s 12) (by omega)
        have b2 := hsp (cnt s 12 - 1) (by omega)
        rw [n1, x1, x2, am_s_id (z := ((spx (nv (vw m 2)) (cnt s 12) : Nat) : Int)) (by omega) (by omega), am_s_id (z := ((spx (nv (vw m 2)) (cnt s 12 - 1) : Nat) : Int) + 1) (by omega) (by omega)]
        by_cases c3 : spx (nv (vw m 2)) (cnt s 12) = spx (nv (vw m 2)) (cnt s 12 - 1) + 1
        · have hA : adj (nv (vw m 2)) (cnt s 12) = true := decide_eq_true ⟨by omega, c3⟩
          obtain ⟨-, y1⟩ := hcell l.toNat (by omega)
          obtain ⟨-, y2⟩ := hcell c (by omega)
          have t1 := htau l.toNat (by omega)
          have t2 := htau c hc
          have e150 : v_150 m (tau (nv (vw m 2)) l.toNat - tau (nv (vw m 2)) c) = if tau (nv (vw m 2)) l.toNat - tau (nv (vw m 2)) c < 0 then -(tau (nv (vw m 2)) l.toNat - tau (nv (vw m 2)) c) else tau (nv (vw m 2)) l.toNat - tau (nv (vw m 2)) c := by
            unfold v_150
            rw [am_s_id (by omega) (by omega)]
            by_cases hh : tau (nv (vw m 2)) l.toNat - tau (nv (vw m 2)) c < 0
            · rw [if_neg (by omega), if_pos hh]
            · rw [if_pos (by omega), if_neg hh]
          have hab : -1000000 ≤ (if tau (nv (vw m 2)) l.toNat - tau (nv (vw m 2)) c < 0 then -(tau (nv (vw m 2)) l.toNat - tau (nv (vw m 2)) c) else tau (nv (vw m 2)) l.toNat - tau (nv (vw m 2)) c) ∧ (if tau (nv (vw m 2)) l.toNat - tau (nv (vw m 2)) c < 0 then -(tau (nv (vw m 2)) l.toNat - tau (nv (vw m 2)) c) else tau (nv (vw m 2)) l.toNat - tau (nv (vw m 2)) c) ≤ 1000000 := by
            split <;> omega
          rw [if_pos (by omega), y1, y2, e150, v14 (by omega) (by omega) hab.1 hab.2]
          unfold dif
          rw [if_pos hA]
          exact Int.min_comm _ _
        · rw [if_neg (by omega)]
          exact no (decide_eq_false (fun q => c3 q.2))
/-- what is best behind, when one more is laid -/
def BSP (m : am_M) (s : Nat) : Prop := ∀ j, j < BN (nv (vw m 2)) → s.testBit j = false → m 52 (8 * (s ||| 2 ^ j) + j) = DD (adj (nv (vw m 2))) (tau (nv (vw m 2))) (BN (nv (vw m 2))) (BN (nv (vw m 2)) - (cnt s 12 + 1)) (s ||| 2 ^ j) j
theorem u_148_5 {Q : List am_V → am_M → Prop} {m : am_M} {s : Int} {l : Int} {x : Int} {c : Int}  (H : ((am_s (m 49 4) ≤ am_s c) → Q [.inl x] m) ∧ ((¬ (am_s (m 49 4) ≤ am_s c)) → ((¬ am_s (am_and (am_shr s c) 1) = 0) → ok 2 148 5 [some (.inr (.inr (some 49))), some (.inl s), some (.inl l), some (.inl x), some (.inl (c + 1))] [] m Q) ∧ ((am_s (am_and (am_shr s c) 1) = 0) → (q_149 m s l c) ∧ (ok 2 148 5 [some (.inr (.inr (some 49))), some (.inl s), some (.inl l), some (.inl (v_74 m x (v_149 m s l c))), some (.inl (c + 1))] [] m Q)))) : ok 2 148 5 [some (.inr (.inr (some 49))), some (.inl s), some (.inl l), some (.inl x), some (.inl c)] [] m Q := by
  refine ok_sg (pc' := 11) (ls' := [some (.inr (.inr (some 49))), some (.inl s), some (.inl l), some (.inl x), some (.inl c)]) (st' := [.inl (m 49 4), .inl c]) (m' := m) (fun fx hfx o hk => ?_) ?_
  · refine r_ld (pc' := 7) hM_148 d_148_5 rfl rfl ?_
    refine r_ld (pc' := 8) hM_148 d_148_7 rfl rfl ?_
    refine r_gI (pc' := 11) (k0 := 4) hM_148 d_148_8 rfl (by decide +kernel) ?_
    exact hk
  refine ok_ic (pc' := 42) (pc2 := 14) hM_148 d_148_11 (by decide) rfl (fun hz1 => ?_) (fun hz1 => ?_)
  · have H := H.1 hz1
    refine ok_sg (pc' := 43) (ls' := [some (.inr (.inr (some 49))), some (.inl s), some (.inl l), some (.inl x), some (.inl c)]) (st' := [.inl x]) (m' := m) (fun fx hfx o hk => ?_) ?_
    · refine r_ld (pc' := 43) hM_148 d_148_42 rfl rfl ?_
      exact hk
    exact ok_rt (fun fx _ => rt_i hM_148 d_148_43 rfl) H
  · have H := H.2 hz1
    refine ok_sg (pc' := 20) (ls' := [some (.inr (.inr (some 49))), some (.inl s), some (.inl l), some (.inl x), some (.inl c)]) (st' := [.inl (am_and (am_shr s c) 1)]) (m' := m) (fun fx hfx o hk => ?_) ?_
    · refine r_ld (pc' := 15) hM_148 d_148_14 rfl rfl ?_
      refine r_ld (pc' := 17) hM_148 d_148_15 rfl rfl ?_
      refine r_b (pc' := 18) (z := (am_shr s c)) hM_148 d_148_17 rfl rfl ?_
      refine r_k (pc' := 19) (v := .inl 1) hM_148 d_148_18 rfl rfl ?_
      refine r_b (pc' := 20) (z := (am_and (am_shr s c) 1)) hM_148 d_148_19 rfl rfl ?_
      exact hk
    refine ok_if (pc' := 36) (pc2 := 23) hM_148 d_148_20 (by decide) rfl (fun hz2 => ?_) (fun hz2 => ?_)
    · have H := H.1 hz2
      refine ok_sg (pc' := 5) (ls' := [some (.inr (.inr (some 49))), some (.inl s), some (.inl l), some (.inl x), some (.inl (c + 1))]) (st' := []) (m' := m) (fun fx hfx o hk => ?_) ?_
      · refine r_sto (pc' := 39) (ls' := [some (.inr (.inr (some 49))), some (.inl s), some (.inl l), some (.inl x), some (.inl (c + 1))]) hM_148 d_148_36 rfl rfl ?_
        refine r_go (pc' := 5) hM_148 d_148_39 (by decide) ?_
        exact hk
      exact H
    · have H := H.2 (Decidable.not_not.mp hz2)
      obtain ⟨hz3, H⟩ := H
      refine ok_sg (pc' := 5) (ls' := [some (.inr (.inr (some 49))), some (.inl s), some (.inl l), some (.inl (v_74 m x (v_149 m s l c))), some (.inl (c + 1))]) (st' := []) (m' := m) (fun fx hfx o hk => ?_) ?_
      · refine r_ld (pc' := 24) hM_148 d_148_23 rfl rfl ?_
        refine r_ld (pc' := 25) hM_148 d_148_24 rfl rfl ?_
        refine r_ld (pc' := 26) hM_148 d_148_25 rfl rfl ?_
        refine r_ld (pc' := 27) hM_148 d_148_26 rfl rfl ?_
        refine r_ld (pc' := 29) hM_148 d_148_27 rfl rfl ?_
        refine r_cl (pc' := 32) (c := (149, 0)) (a := [.inr (.inr (some 49)), .inl s, .inl l, .inl c]) (q := [.inl x]) hM_148 d_148_29 rfl (by decide +kernel) hM_149 rfl rfl rfl (Nat.le_of_ble_eq_true rfl) (Nat.le_of_ble_eq_true rfl) (Or.inr rfl) (c_149  m s l c hz3) (Nat.le_of_ble_eq_true rfl) ?_
        show rn fx 2 (0, 0) 148 32 [some (.inr (.inr (some 49))), some (.inl s), some (.inl l), some (.inl x), some (.inl c)] [.inl (v_149 m s l c), .inl x] (st0 m) o
        refine r_cl (pc' := 35) (c := (74, 2)) (a := [.inl x, .inl (v_149 m s l c)]) (q := []) hM_148 d_148_32 rfl (by decide +kernel) hM_74 rfl rfl rfl (Nat.le_of_ble_eq_true rfl) (Nat.le_of_ble_eq_true rfl) (Or.inl rfl) (c_74  m x (v_149 m s l c)) (Nat.le_of_ble_eq_true rfl) ?_
        show rn fx 2 (0, 0) 148 35 [some (.inr (.inr (some 49))), some (.inl s), some (.inl l), some (.inl x), some (.inl c)] [.inl (v_74 m x (v_149 m s l c))] (st0 m) o
        refine r_sto (pc' := 36) (ls' := [some (.inr (.inr (some 49))), some (.inl s), some (.inl l), some (.inl (v_74 m x (v_149 m s l c))), some (.inl c)]) hM_148 d_148_35 rfl rfl ?_
        refine r_sto (pc' := 39) (ls' := [some (.inr (.inr (some 49))), some (.inl s), some (.inl l), some (.inl (v_74 m x (v_149 m s l c))), some (.inl (c + 1))]) hM_148 d_148_36 rfl rfl ?_
        refine r_go (pc' := 5) hM_148 d_148_39 (by decide) ?_
        exact hk
      exact H
theorem u_148_0 {Q : List am_V → am_M → Prop} {m : am_M} {s : Int} {l : Int}  (H : ok 2 148 5 [some (.inr (.inr (some 49))), some (.inl s), some (.inl l), some (.inl 0), some (.inl 0)] [] m Q) : ok 2 148 0 [some (.inr (.inr (some 49))), some (.inl s), some (.inl l), none, none] [] m Q := by
  refine ok_sg (pc' := 5) (ls' := [some (.inr (.inr (some 49))), some (.inl s), some (.inl l), some (.inl 0), some (.inl 0)]) (st' := []) (m' := m) (fun fx hfx o hk => ?_) ?_
  · refine r_k (pc' := 1) (v := .inl 0) hM_148 d_148_0 rfl rfl ?_
    refine r_sto (pc' := 2) (ls' := [some (.inr (.inr (some 49))), some (.inl s), some (.inl l), some (.inl 0), none]) hM_148 d_148_1 rfl rfl ?_
    refine r_k (pc' := 3) (v := .inl 0) hM_148 d_148_2 rfl rfl ?_
    refine r_sto (pc' := 5) (ls' := [some (.inr (.inr (some 49))), some (.inl s), some (.inl l), some (.inl 0), some (.inl 0)]) hM_148 d_148_3 rfl rfl ?_
    exact hk
  exact H
theorem z_148   (m : am_M) (s : Int) (l : Int) (hq : LYD m ∧ (0 ≤ s ∧ s.toNat < 2 ^ BN (nv (vw m 2))) ∧ cnt s.toNat 12 < BN (nv (vw m 2)) ∧ (l = -1 ∧ cnt s.toNat 12 = 0 ∨ 0 ≤ l ∧ l < ((BN (nv (vw m 2)) : Nat) : Int)) ∧ BSP m s.toNat) : ok 2 148 0 (am_ent 5 [.inr (.inr (some 49)), .inl s, .inl l]) [] m (fun rr m' => rr = [.inl ((DD (adj (nv (vw m 2))) (tau (nv (vw m 2))) (BN (nv (vw m 2))) (BN (nv (vw m 2)) - cnt s.toNat 12) s.toNat l.toNat))] ∧ m' = m) := by
  show ok 2 148 0 [some (.inr (.inr (some 49))), some (.inl s), some (.inl l), none, none] [] m _
  obtain ⟨hL, hs, hcn, hl, hb⟩ := hq
  obtain ⟨S, rfl⟩ : ∃ S : Nat, s = (S : Int) := ⟨s.toNat, by omega⟩
  simp only [Int.toNat_natCast] at hs hcn hl hb ⊢
  have hB := hL.2.1
  have h49 := hL.2.2.1
  have hp8 : 2 ^ BN (nv (vw m 2)) ≤ 2 ^ 8 := Nat.pow_le_pow_right (by decide) hB
  obtain ⟨k, hk⟩ : ∃ k, BN (nv (vw m 2)) - cnt S 12 = k + 1 := ⟨BN (nv (vw m 2)) - cnt S 12 - 1, by omega⟩
  rw [hk, DD_s, show BN (nv (vw m 2)) - (k + 1) = cnt S 12 by omega]
  have hk' : BN (nv (vw m 2)) - (cnt S 12 + 1) = k := by omega
  unfold BSP at hb
  rw [hk'] at hb
  have hv149 : ∀ c, c < BN (nv (vw m 2)) → S.testBit c = false → q_149 m (S : Int) l (c : Int) ∧ v_149 m (S : Int) l (c : Int) = min (dif (adj (nv (vw m 2))) (tau (nv (vw m 2))) (cnt S 12) l.toNat c) (DD (adj (nv (vw m 2))) (tau (nv (vw m 2))) (BN (nv (vw m 2))) k (S ||| 2 ^ c) c) := fun c hc hbt => v149 hL hs.2 hc hbt hl (hb c hc hbt) (DD_rng _ _ _)
  generalize hBv : BN (nv (vw m 2)) = B at *
  have hfr : ∀ o, 0 ≤ min (dif (adj (nv (vw m 2))) (tau (nv (vw m 2))) (cnt S 12) l.toNat o) (DD (adj (nv (vw m 2))) (tau (nv (vw m 2))) B k (S ||| 2 ^ o) o) ∧ min (dif (adj (nv (vw m 2))) (tau (nv (vw m 2))) (cnt S 12) l.toNat o) (DD (adj (nv (vw m 2))) (tau (nv (vw m 2))) B k (S ||| 2 ^ o) o) ≤ 1000 := fun o => by
    have a1 := dif_0 (A := adj (nv (vw m 2))) (τ := tau (nv (vw m 2))) (i := cnt S 12) (l := l.toNat) (o := o)
    have a2 := DD_rng (A := adj (nv (vw m 2))) (τ := tau (nv (vw m 2))) (B := B) k (S ||| 2 ^ o) o
    omega
  generalize hfv : (fun o => min (dif (adj (nv (vw m 2))) (tau (nv (vw m 2))) (cnt S 12) l.toNat o) (DD (adj (nv (vw m 2))) (tau (nv (vw m 2))) B k (S ||| 2 ^ o) o)) = f at *
  have hft : ∀ o, min (dif (adj (nv (vw m 2))) (tau (nv (vw m 2))) (cnt S 12) l.toNat o) (DD (adj (nv (vw m 2))) (tau (nv (vw m 2))) B k (S ||| 2 ^ o) o) = f o := fun o => by rw [← hfv]
  simp only [hft] at hv149 hfr
  refine u_148_0 ?_
  refine ok_for (σ := Unit) (fun c _ => [some (.inr (.inr (some 49))), some (.inl (S : Int)), some (.inl l), some (.inl (mxf f S c)), some (.inl (c : Int))]) (fun c _ M => M = m) B ?_ ?_ () m rfl
  · rintro c hc - M hM IH
    rw [hM]
    have hm0 := mxf_0 (f := f) (s := S) c
    have hm1 := mxf_le (f := f) (s := S) (c := 1000) (by decide) c fun j _ _ => (hfr j).2
    have hfc := hfr c
    have nx := IH () m rfl
    rw [mxf_s] at nx
    refine u_148_5 ?_
    rw [h49, am_s_id (z := (B : Int)) (by omega) (by omega), am_s_id (z := (c : Int)) (by omega) (by omega), bx_bit (by omega) (by omega)]
    refine ⟨fun q => by omega, fun _ => ⟨fun q => ?_, fun q => ?_⟩⟩
    · rw [if_pos (by cases h : S.testBit c; exact absurd h q; rfl)] at nx
      exact nx
    · obtain ⟨z1, z2⟩ := hv149 c hc q
      rw [if_neg (by rw [q]; decide)] at nx
      rw [z2, v74 (by omega) (by omega) (by omega) (by omega)]
      exact ⟨z1, nx⟩
  · rintro - M hM
    rw [hM]
    refine u_148_5 ?_
    rw [h49, am_s_id (z := (B : Int)) (by omega) (by omega)]
    exact ⟨fun _ => ⟨rfl, rfl⟩, fun q => by omega⟩
