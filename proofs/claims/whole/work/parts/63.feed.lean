theorem b8_bmod (z : Int) : am_b8 z = Int.bmod z 256 := by
  unfold am_b8
  rw [Int8.toInt_toInt32, Int32.toInt_toInt8, Int32.toInt_ofInt]
  exact Int.bmod_bmod_of_dvd (by decide)
theorem byteL (v : BitVec 32) (n : Nat) (hn : n ≤ 24) : (v.sshiftRight n &&& 255#32).toInt = ((v >>> n).toInt) % 256 := by
  have e : v.sshiftRight n &&& 255#32 = (v >>> n) &&& 255#32 := by
    apply BitVec.eq_of_getLsbD_eq
    intro i hi
    have hm : ∀ i, i < 32 → (255#32).getLsbD i = decide (i < 8) := by decide +kernel
    rw [BitVec.getLsbD_and, BitVec.getLsbD_and, BitVec.getLsbD_sshiftRight, BitVec.getLsbD_ushiftRight, hm i hi]
    by_cases h : i < 8
    · have h1 : ¬ 32 ≤ i := by omega
      have h2 : n + i < 32 := by omega
      simp [h, h1, h2]
    · simp [h]
  rw [e, BitVec.toInt_eq_toNat_cond, BitVec.toInt_eq_toNat_cond, BitVec.toNat_and, show (255#32).toNat = 2 ^ 8 - 1 from rfl, Nat.and_two_pow_sub_one_eq_mod]
  have hx := (v >>> n).isLt
  generalize (v >>> n).toNat = x at hx
  have h8 : x % 2 ^ 8 < 2 ^ 8 := Nat.mod_lt _ (by decide)
  rw [if_pos (by omega)]
  split <;> omega
/-- the byte of a number at a shift -/
def byt (a s : Int) : Int := am_b8 (am_b8 (am_ushr a s))
theorem byt_ok {a s : Int} (h : s = 24 ∨ s = 16 ∨ s = 8 ∨ s = 0) : (-128 ≤ byt a s ∧ byt a s ≤ 127) ∧ am_and (am_shr a s) 255 = byt a s % 256 := by
  have hb : ∀ z : Int, (-128 ≤ Int.bmod z 256 ∧ Int.bmod z 256 ≤ 127) ∧ Int.bmod z 256 % 256 = z % 256 := by
    intro z
    rw [Int.bmod_def]
    split <;> omega
  unfold byt
  rw [b8_bmod, b8_bmod]
  refine ⟨(hb _).1, ?_⟩
  rw [(hb _).2, (hb _).2]
  rcases h with rfl | rfl | rfl | rfl
  · have e1 : am_ushr a 24 = ((BitVec.ofInt 32 a) >>> 24).toInt := rfl
    have e2 : am_and (am_shr a 24) 255 = ((BitVec.ofInt 32 a).sshiftRight 24 &&& 255#32).toInt := by
      unfold am_and am_shr
      rw [Int32.ofInt_toInt]
      rfl
    rw [e1, e2]
    exact byteL _ 24 (by decide)
  · have e1 : am_ushr a 16 = ((BitVec.ofInt 32 a) >>> 16).toInt := rfl
    have e2 : am_and (am_shr a 16) 255 = ((BitVec.ofInt 32 a).sshiftRight 16 &&& 255#32).toInt := by
      unfold am_and am_shr
      rw [Int32.ofInt_toInt]
      rfl
    rw [e1, e2]
    exact byteL _ 16 (by decide)
  · have e1 : am_ushr a 8 = ((BitVec.ofInt 32 a) >>> 8).toInt := rfl
    have e2 : am_and (am_shr a 8) 255 = ((BitVec.ofInt 32 a).sshiftRight 8 &&& 255#32).toInt := by
      unfold am_and am_shr
      rw [Int32.ofInt_toInt]
      rfl
    rw [e1, e2]
    exact byteL _ 8 (by decide)
  · have e1 : am_ushr a 0 = ((BitVec.ofInt 32 a) >>> 0).toInt := rfl
    have e2 : am_and (am_shr a 0) 255 = ((BitVec.ofInt 32 a).sshiftRight 0 &&& 255#32).toInt := by
      unfold am_and am_shr
      rw [Int32.ofInt_toInt]
      rfl
    rw [e1, e2]
    exact byteL _ 0 (by decide)
theorem z_11   (m : am_M) (a : Int) (hq : 0 ≤ m 0 1 ∧ m 0 1 ≤ 896) : ok 0 11 0 (am_ent 3 [.inr (.inr (some 0)), .inl a]) [] m (fun rr m' => rr = [] ∧ (m' 0 1 = m 0 1 + 4 ∧ (∀ k, m' 1 k = if (m 0 1).toNat ≤ k ∧ k < (m 0 1).toNat + 4 then byt a (24 - 8 * ((k - (m 0 1).toNat : Nat) : Int)) else m 1 k) ∧ ∀ x, x ≠ 0 → x ≠ 1 → m' x = m x)) := by
  show ok 0 11 0 [some (.inr (.inr (some 0))), some (.inl a), none] [] m _
  refine u_11_0 ?_
  obtain ⟨T, hT⟩ : ∃ T : Nat, m 0 1 = (T : Int) := ⟨(m 0 1).toNat, by omega⟩
  rw [hT, Int.toNat_natCast]
  refine ok_for (σ := Unit) (fun i _ => [some (.inr (.inr (some 0))), some (.inl a), some (.inl (24 - 8 * (i : Int)))]) (fun i _ M => M 0 1 = (T : Int) + (i : Int) ∧ (∀ k, M 1 k = if T ≤ k ∧ k < T + i then byt a (24 - 8 * ((k - T : Nat) : Int)) else m 1 k) ∧ ∀ x, x ≠ 0 → x ≠ 1 → M x = m x) 4 ?_ ?_ () m ⟨by rw [hT]; omega, fun k => by rw [if_neg (by omega)], fun _ _ _ => rfl⟩
  · rintro i hi - M ⟨h1, h2, h3⟩ IH
    refine u_11_3 ?_
    have e1 : am_s ((T : Int) + (i : Int)) = (T : Int) + (i : Int) := am_s_id (by omega) (by omega)
    have e2 : ((T : Int) + (i : Int)).toNat = T + i := by omega
    rw [h1, e1, e2, am_s_id (z := 24 - 8 * (i : Int)) (by omega) (by omega)]
    refine ⟨fun q => by omega, fun _ => ⟨fun q => by omega, fun _ => ⟨by omega, ?_⟩⟩⟩
    have := IH () (mu (mu M 1 (T + i) (byt a (24 - 8 * (i : Int)))) 0 1 ((T : Int) + (i : Int) + 1)) ⟨by rw [mu_same]; omega, fun k => ?_, fun x hx0 hx1 => by rw [mu_rf hx0, mu_rf hx1, h3 x hx0 hx1]⟩
    · rw [show 24 - 8 * ((i + 1 : Nat) : Int) = 24 - 8 * (i : Int) + (-8) by omega] at this
      exact this
    · rw [mu_r (by decide), mu_if, h2]
      by_cases hk : k = T + i
      · rw [if_pos hk, if_pos (by omega), hk, show T + i - T = i by omega]
      · rw [if_neg hk]
        by_cases hk2 : T ≤ k ∧ k < T + i
        · rw [if_pos hk2, if_pos (by omega)]
        · rw [if_neg hk2, if_neg (by omega)]
  · rintro - M ⟨h1, h2, h3⟩
    refine u_11_3 ?_
    rw [am_s_id (z := 24 - 8 * ((4 : Nat) : Int)) (by omega) (by omega)]
    refine ⟨fun _ => ⟨rfl, by rw [h1]; rfl, h2, h3⟩, fun q => by omega⟩
theorem u_10_0 {Q : List am_V → am_M → Prop} {m : am_M} {a : Int} {b : Int} {c : Int} {d : Int} {e : Int}  (H : ((am_s (m 0 1) ≤ 880) → (0 ≤ m 0 1 ∧ m 0 1 ≤ 896) ∧ (∀ (m1 : am_M), ((m1 0 1 = m 0 1 + 4 ∧ (∀ k, m1 1 k = if (m 0 1).toNat ≤ k ∧ k < (m 0 1).toNat + 4 then byt a (24 - 8 * ((k - (m 0 1).toNat : Nat) : Int)) else m 1 k) ∧ ∀ x, x ≠ 0 → x ≠ 1 → m1 x = m x)) → (0 ≤ m1 0 1 ∧ m1 0 1 ≤ 896) ∧ (∀ (m2 : am_M), ((m2 0 1 = m1 0 1 + 4 ∧ (∀ k, m2 1 k = if (m1 0 1).toNat ≤ k ∧ k < (m1 0 1).toNat + 4 then byt b (24 - 8 * ((k - (m1 0 1).toNat : Nat) : Int)) else m1 1 k) ∧ ∀ x, x ≠ 0 → x ≠ 1 → m2 x = m1 x)) → (0 ≤ m2 0 1 ∧ m2 0 1 ≤ 896) ∧ (∀ (m3 : am_M), ((m3 0 1 = m2 0 1 + 4 ∧ (∀ k, m3 1 k = if (m2 0 1).toNat ≤ k ∧ k < (m2 0 1).toNat + 4 then byt c (24 - 8 * ((k - (m2 0 1).toNat : Nat) : Int)) else m2 1 k) ∧ ∀ x, x ≠ 0 → x ≠ 1 → m3 x = m2 x)) → (0 ≤ m3 0 1 ∧ m3 0 1 ≤ 896) ∧ (∀ (m4 : am_M), ((m4 0 1 = m3 0 1 + 4 ∧ (∀ k, m4 1 k = if (m3 0 1).toNat ≤ k ∧ k < (m3 0 1).toNat + 4 then byt d (24 - 8 * ((k - (m3 0 1).toNat : Nat) : Int)) else m3 1 k) ∧ ∀ x, x ≠ 0 → x ≠ 1 → m4 x = m3 x)) → (0 ≤ m4 0 1 ∧ m4 0 1 ≤ 896) ∧ (∀ (m5 : am_M), ((m5 0 1 = m4 0 1 + 4 ∧ (∀ k, m5 1 k = if (m4 0 1).toNat ≤ k ∧ k < (m4 0 1).toNat + 4 then byt e (24 - 8 * ((k - (m4 0 1).toNat : Nat) : Int)) else m4 1 k) ∧ ∀ x, x ≠ 0 → x ≠ 1 → m5 x = m4 x)) → Q [.inl (m5 0 1)] m5)))))) ∧ ((¬ (am_s (m 0 1) ≤ 880)) → Q [.inl (-5)] m)) : ok 1 10 0 [some (.inr (.inr (some 0))), some (.inl a), some (.inl b), some (.inl c), some (.inl d), some (.inl e)] [] m Q := by
  refine ok_sg (pc' := 7) (ls' := [some (.inr (.inr (some 0))), some (.inl a), some (.inl b), some (.inl c), some (.inl d), some (.inl e)]) (st' := [.inl 880, .inl (m 0 1)]) (m' := m) (fun fx hfx o hk => ?_) ?_
  · refine r_ld (pc' := 1) hM_10 d_10_0 rfl rfl ?_
    refine r_gI (pc' := 4) (k0 := 1) hM_10 d_10_1 rfl (by decide +kernel) ?_
    refine r_k (pc' := 7) (v := .inl 880) hM_10 d_10_4 rfl rfl ?_
    exact hk
  refine ok_ic (pc' := 13) (pc2 := 10) hM_10 d_10_7 (by decide) rfl (fun hz1 => ?_) (fun hz1 => ?_)
  · have H := H.1 hz1
    obtain ⟨hz2, H⟩ := H
    refine ok_sg (pc' := 15) (ls' := [some (.inr (.inr (some 0))), some (.inl a), some (.inl b), some (.inl c), some (.inl d), some (.inl e)]) (st' := [.inl a, .inr (.inr (some 0))]) (m' := m) (fun fx hfx o hk => ?_) ?_
    · refine r_ld (pc' := 14) hM_10 d_10_13 rfl rfl ?_
      refine r_ld (pc' := 15) hM_10 d_10_14 rfl rfl ?_
      exact hk
    refine ok_cl (pc' := 18) (c := (11, 0)) (a := [.inr (.inr (some 0)), .inl a]) (q := []) hM_10 d_10_15 rfl (by decide +kernel) hM_11 rfl rfl rfl (Nat.le_of_ble_eq_true rfl) (Nat.le_of_ble_eq_true rfl) (Or.inr rfl) (z_11  m a hz2) (Nat.le_of_ble_eq_true rfl) ?_
    rintro _ m1 ⟨rfl, hz3⟩
    replace H := H  m1 hz3
    show ok 1 10 18 [some (.inr (.inr (some 0))), some (.inl a), some (.inl b), some (.inl c), some (.inl d), some (.inl e)] [] m1 Q
    obtain ⟨hz4, H⟩ := H
    refine ok_sg (pc' := 20) (ls' := [some (.inr (.inr (some 0))), some (.inl a), some (.inl b), some (.inl c), some (.inl d), some (.inl e)]) (st' := [.inl b, .inr (.inr (some 0))]) (m' := m1) (fun fx hfx o hk => ?_) ?_
    · refine r_ld (pc' := 19) hM_10 d_10_18 rfl rfl ?_
      refine r_ld (pc' := 20) hM_10 d_10_19 rfl rfl ?_
      exact hk
    refine ok_cl (pc' := 23) (c := (11, 0)) (a := [.inr (.inr (some 0)), .inl b]) (q := []) hM_10 d_10_20 rfl (by decide +kernel) hM_11 rfl rfl rfl (Nat.le_of_ble_eq_true rfl) (Nat.le_of_ble_eq_true rfl) (Or.inr rfl) (z_11  m1 b hz4) (Nat.le_of_ble_eq_true rfl) ?_
    rintro _ m2 ⟨rfl, hz5⟩
    replace H := H  m2 hz5
    show ok 1 10 23 [some (.inr (.inr (some 0))), some (.inl a), some (.inl b), some (.inl c), some (.inl d), some (.inl e)] [] m2 Q
    obtain ⟨hz6, H⟩ := H
    refine ok_sg (pc' := 25) (ls' := [some (.inr (.inr (some 0))), some (.inl a), some (.inl b), some (.inl c), some (.inl d), some (.inl e)]) (st' := [.inl c, .inr (.inr (some 0))]) (m' := m2) (fun fx hfx o hk => ?_) ?_
    · refine r_ld (pc' := 24) hM_10 d_10_23 rfl rfl ?_
      refine r_ld (pc' := 25) hM_10 d_10_24 rfl rfl ?_
      exact hk
    refine ok_cl (pc' := 28) (c := (11, 0)) (a := [.inr (.inr (some 0)), .inl c]) (q := []) hM_10 d_10_25 rfl (by decide +kernel) hM_11 rfl rfl rfl (Nat.le_of_ble_eq_true rfl) (Nat.le_of_ble_eq_true rfl) (Or.inr rfl) (z_11  m2 c hz6) (Nat.le_of_ble_eq_true rfl) ?_
    rintro _ m3 ⟨rfl, hz7⟩
    replace H := H  m3 hz7
    show ok 1 10 28 [some (.inr (.inr (some 0))), some (.inl a), some (.inl b), some (.inl c), some (.inl d), some (.inl e)] [] m3 Q
    obtain ⟨hz8, H⟩ := H
    refine ok_sg (pc' := 31) (ls' := [some (.inr (.inr (some 0))), some (.inl a), some (.inl b), some (.inl c), some (.inl d), some (.inl e)]) (st' := [.inl d, .inr (.inr (some 0))]) (m' := m3) (fun fx hfx o hk => ?_) ?_
    · refine r_ld (pc' := 29) hM_10 d_10_28 rfl rfl ?_
      refine r_ld (pc' := 31) hM_10 d_10_29 rfl rfl ?_
      exact hk
    refine ok_cl (pc' := 34) (c := (11, 0)) (a := [.inr (.inr (some 0)), .inl d]) (q := []) hM_10 d_10_31 rfl (by decide +kernel) hM_11 rfl rfl rfl (Nat.le_of_ble_eq_true rfl) (Nat.le_of_ble_eq_true rfl) (Or.inr rfl) (z_11  m3 d hz8) (Nat.le_of_ble_eq_true rfl) ?_
    rintro _ m4 ⟨rfl, hz9⟩
    replace H := H  m4 hz9
    show ok 1 10 34 [some (.inr (.inr (some 0))), some (.inl a), some (.inl b), some (.inl c), some (.inl d), some (.inl e)] [] m4 Q
    obtain ⟨hz10, H⟩ := H
    refine ok_sg (pc' := 37) (ls' := [some (.inr (.inr (some 0))), some (.inl a), some (.inl b), some (.inl c), some (.inl d), some (.inl e)]) (st' := [.inl e, .inr (.inr (some 0))]) (m' := m4) (fun fx hfx o hk => ?_) ?_
    · refine r_ld (pc' := 35) hM_10 d_10_34 rfl rfl ?_
      refine r_ld (pc' := 37) hM_10 d_10_35 rfl rfl ?_
      exact hk
    refine ok_cl (pc' := 40) (c := (11, 0)) (a := [.inr (.inr (some 0)), .inl e]) (q := []) hM_10 d_10_37 rfl (by decide +kernel) hM_11 rfl rfl rfl (Nat.le_of_ble_eq_true rfl) (Nat.le_of_ble_eq_true rfl) (Or.inr rfl) (z_11  m4 e hz10) (Nat.le_of_ble_eq_true rfl) ?_
    rintro _ m5 ⟨rfl, hz11⟩
    replace H := H  m5 hz11
    show ok 1 10 40 [some (.inr (.inr (some 0))), some (.inl a), some (.inl b), some (.inl c), some (.inl d), some (.inl e)] [] m5 Q
    refine ok_sg (pc' := 44) (ls' := [some (.inr (.inr (some 0))), some (.inl a), some (.inl b), some (.inl c), some (.inl d), some (.inl e)]) (st' := [.inl (m5 0 1)]) (m' := m5) (fun fx hfx o hk => ?_) ?_
    · refine r_ld (pc' := 41) hM_10 d_10_40 rfl rfl ?_
      refine r_gI (pc' := 44) (k0 := 1) hM_10 d_10_41 rfl (by decide +kernel) ?_
      exact hk
    exact ok_rt (fun fx _ => rt_i hM_10 d_10_44 rfl) H
  · have H := H.2 hz1
    refine ok_sg (pc' := 12) (ls' := [some (.inr (.inr (some 0))), some (.inl a), some (.inl b), some (.inl c), some (.inl d), some (.inl e)]) (st' := [.inl (-5)]) (m' := m) (fun fx hfx o hk => ?_) ?_
    · refine r_k (pc' := 12) (v := .inl (-5)) hM_10 d_10_10 rfl rfl ?_
      exact hk
    exact ok_rt (fun fx _ => rt_i hM_10 d_10_12 rfl) H
/-- which of the five a byte comes from -/
def sel5 (a b c d e : Int) (k : Nat) : Int := if 4 ≤ k then (if 8 ≤ k then (if 12 ≤ k then (if 16 ≤ k then e else d) else c) else b) else a
theorem sel5_if {a b c d e z : Int} {T k : Nat} : (if T + 16 ≤ k ∧ k < T + 16 + 4 then byt e (24 - 8 * ((k - (T + 16) : Nat) : Int)) else if T + 12 ≤ k ∧ k < T + 12 + 4 then byt d (24 - 8 * ((k - (T + 12) : Nat) : Int)) else if T + 8 ≤ k ∧ k < T + 8 + 4 then byt c (24 - 8 * ((k - (T + 8) : Nat) : Int)) else if T + 4 ≤ k ∧ k < T + 4 + 4 then byt b (24 - 8 * ((k - (T + 4) : Nat) : Int)) else if T ≤ k ∧ k < T + 4 then byt a (24 - 8 * ((k - T : Nat) : Int)) else z) = if T ≤ k ∧ k < T + 20 then byt (sel5 a b c d e (k - T)) (24 - 8 * (((k - T) % 4 : Nat) : Int)) else z := by
  unfold sel5
  by_cases h : T ≤ k ∧ k < T + 20
  · rw [if_pos h]
    by_cases k5 : T + 16 ≤ k
    · rw [if_pos (by omega), if_pos (by omega), if_pos (by omega), if_pos (by omega), if_pos (by omega), show (k - T) % 4 = k - (T + 16) by omega]
    rw [if_neg (by omega)]
    by_cases k4 : T + 12 ≤ k
    · rw [if_pos (by omega), if_pos (by omega), if_pos (by omega), if_pos (by omega), if_neg (by omega), show (k - T) % 4 = k - (T + 12) by omega]
    rw [if_neg (by omega)]
    by_cases k3 : T + 8 ≤ k
    · rw [if_pos (by omega), if_pos (by omega), if_pos (by omega), if_neg (by omega), show (k - T) % 4 = k - (T + 8) by omega]
    rw [if_neg (by omega)]
    by_cases k2 : T + 4 ≤ k
    · rw [if_pos (by omega), if_pos (by omega), if_neg (by omega), show (k - T) % 4 = k - (T + 4) by omega]
    rw [if_neg (by omega), if_pos (by omega), if_neg (by omega), show (k - T) % 4 = k - T by omega]
  · rw [if_neg (by omega), if_neg (by omega), if_neg (by omega), if_neg (by omega), if_neg (by omega), if_neg h]
theorem P_feed {m : am_M} {a b c d e : Int} (hI : Inv m) : PK 10 6 165 8 [.inl a, .inl b, .inl c, .inl d, .inl e] m := by
  obtain ⟨⟨t0, t9⟩, t5, tk⟩ := Inv_T hI
  by_cases c1 : m 0 1 ≤ 880
  · obtain ⟨T, hT⟩ : ∃ T : Nat, m 0 1 = (T : Int) := ⟨(m 0 1).toNat, by omega⟩
    refine PK_2 (h1 := 1) (h2 := 0) (v := .inl ((T : Int) + 20)) (R := fun m1 => m1 0 1 = (T : Int) + 20 ∧ (∀ k, m1 1 k = if T ≤ k ∧ k < T + 20 then byt (sel5 a b c d e (k - T)) (24 - 8 * (((k - T) % 4 : Nat) : Int)) else m 1 k) ∧ ∀ x, x ≠ 0 → x ≠ 1 → m1 x = m x) ?_ ?_ (by decide) (by decide)
    · refine u_10_0 ?_
      rw [hT, am_s_id (z := (T : Int)) (by omega) (by omega)]
      refine ⟨fun _ => ⟨by omega, ?_⟩, fun q => by omega⟩
      rintro m1 ⟨a1, a2, a3⟩
      refine ⟨by omega, ?_⟩
      rintro m2 ⟨b1, b2, b3⟩
      rw [a1] at b1 b2
      refine ⟨by omega, ?_⟩
      rintro m3 ⟨c1, c2, c3⟩
      rw [b1] at c1 c2
      refine ⟨by omega, ?_⟩
      rintro m4 ⟨d1, d2, d3⟩
      rw [c1] at d1 d2
      refine ⟨by omega, ?_⟩
      rintro m5 ⟨e1, e2, e3⟩
      rw [d1] at e1 e2
      refine ⟨by rw [e1, show (T : Int) + 4 + 4 + 4 + 4 + 4 = (T : Int) + 20 by omega], by rw [e1]; omega, fun k => ?_, fun x h0 h1 => by rw [e3 x h0 h1, d3 x h0 h1, c3 x h0 h1, b3 x h0 h1, a3 x h0 h1]⟩
      have x1 : ((T : Int) + 4).toNat = T + 4 := by omega
      have x2 : ((T : Int) + 4 + 4).toNat = T + 8 := by omega
      have x3 : ((T : Int) + 4 + 4 + 4).toNat = T + 12 := by omega
      have x4 : ((T : Int) + 4 + 4 + 4 + 4).toNat = T + 16 := by omega
      rw [e2, d2, c2, b2, a2, x1, x2, x3, x4, Int.toNat_natCast]
      exact sel5_if
    · rintro m1 ⟨q1, q2, q3⟩
      have f5 : m1 53 5 = (T : Int) := by rw [q3 53 (by decide) (by decide), t5, hT]
      refine u_165_0 ?_
      rw [f5, am_s_id (z := (T : Int) + 20) (by omega) (by omega)]
      refine ⟨fun _ => ?_, fun q => by omega⟩
      refine ok_for (σ := Unit) (fun k _ => [some (.inr (.inr (some 53))), some (.inl a), some (.inl b), some (.inl c), some (.inl d), some (.inl e), some (.inl (k : Int)), none]) (fun i _ M => M 53 5 = (T : Int) + (i : Int) ∧ (∀ k, M 56 k = if T ≤ k ∧ k < T + i then byt (sel5 a b c d e (k - T)) (24 - 8 * (((k - T) % 4 : Nat) : Int)) % 256 else m 56 k) ∧ ∀ x k, ¬ (x = 53 ∧ (k = 0 ∨ k = 5)) → x ≠ 56 → M x k = m1 x k) 20 ?_ ?_ () _ ⟨by rw [mu_k (by decide), f5]; omega, fun k => by rw [if_neg (by omega), mu_r (by decide), q3 56 (by decide) (by decide)], fun x k h1 h2 => mu_o (by omega)⟩
      · rintro i hi - M ⟨h1, h2, h3⟩ IH
        refine u_165_24 ?_
        have e1 : am_s ((T : Int) + (i : Int)) = (T : Int) + (i : Int) := am_s_id (by omega) (by omega)
        have e2 : ((T : Int) + (i : Int)).toNat = T + i := by omega
        rw [h1, e1, e2, am_s_id (z := (i : Int)) (by omega) (by omega), show am_s 8 = 8 from rfl, show am_s 12 = 12 from rfl, show am_s 16 = 16 from rfl, am_rem_nn (by omega) (by omega) (by decide) (by decide)]
        refine ⟨fun q => by omega, fun _ y hy => ⟨by omega, ?_⟩⟩
        have ey : y = sel5 a b c d e i := by
          rw [hy]
          unfold sel5
          by_cases k1 : 4 ≤ i
          · rw [if_pos (by omega), if_pos k1]
            by_cases k2 : 8 ≤ i
            · rw [if_pos (by omega), if_pos k2]
              by_cases k3 : 12 ≤ i
              · rw [if_pos (by omega), if_pos k3]
                by_cases k4 : 16 ≤ i
                · rw [if_pos (by omega), if_pos k4]
                · rw [if_neg (by omega), if_neg k4]
              · rw [if_neg (by omega), if_neg k3]
            · rw [if_neg (by omega), if_neg k2]
          · rw [if_neg (by omega), if_neg k1]
        have esh : 24 - 8 * ((i : Int) % 4) = 24 - 8 * ((i % 4 : Nat) : Int) := by omega
        rw [ey, esh, (byt_ok (a := sel5 a b c d e i) (s := 24 - 8 * ((i % 4 : Nat) : Int)) (by omega)).2]
        refine IH () _ ⟨by rw [mu_same]; omega, fun k => ?_, fun x k hx hx2 => by rw [mu_o (by omega), mu_r hx2, h3 x k hx hx2]⟩
        rw [mu_r (by decide), mu_if, h2]
        by_cases hk : k = T + i
        · rw [if_pos hk, if_pos (by omega), hk, show T + i - T = i by omega]
        · rw [if_neg hk]
          by_cases hk2 : T ≤ k ∧ k < T + i
          · rw [if_pos hk2, if_pos (by omega)]
          · rw [if_neg hk2, if_neg (by omega)]
      · rintro - M ⟨h1, h2, h3⟩
        refine u_165_24 ?_
        rw [h1, am_s_id (z := ((20 : Nat) : Int)) (by omega) (by omega)]
        refine ⟨fun _ => ⟨rfl, ?_⟩, fun q => by omega⟩
        have hf : ∀ x k, x ≠ 0 → x ≠ 1 → x ≠ 56 → ¬ (x = 53 ∧ (k = 0 ∨ k = 5)) → M x k = m x k := fun x k g0 g1 g2 g3 => by rw [h3 x k g3 g2, q3 x g0 g1]
        refine Inv_mk (IvS_of (fun k hk => hf _ _ (by omega) (by omega) (by omega) (by omega)) (vw_same fun a k q1 q2 => hf _ _ (by omega) (by omega) (by omega) (by omega)) (Inv_S hI)) (fun i hi2 => IvI_of (hf _ _ (by omega) (by omega) (by omega) (by omega)) (hf _ _ (by omega) (by omega) (by omega) (by omega)) (fun k hk => hf _ _ (by omega) (by omega) (by omega) (by omega)) (vw_same fun a k q1 q2 => hf _ _ (by omega) (by omega) (by omega) (by omega)) (Inv_I hI hi2)) (IvR_of (fun a ha => funext fun k => hf _ _ (by omega) (by omega) (by omega) (by omega)) (Inv_R hI)) ?_ (IvF_of (funext fun k => hf _ _ (by omega) (by omega) (by omega) (by omega)) (hf _ _ (by omega) (by omega) (by omega) (by omega)) (hf _ _ (by omega) (by omega) (by omega) (by omega)) (fun a k q1 q2 => hf _ _ (by omega) (by omega) (by omega) (by omega)) (Inv_F hI))
        have e01 : M 0 1 = (T : Int) + 20 := by rw [h3 0 1 (by omega) (by omega), q1]
        refine ⟨by rw [e01]; omega, by rw [e01, h1]; rfl, fun k hk => ?_⟩
        rw [e01] at hk
        rw [h3 1 k (by omega) (by omega), q2, h2]
        by_cases h : T ≤ k ∧ k < T + 20
        · rw [if_pos h, if_pos h]
          exact ⟨(byt_ok (by omega)).1, rfl⟩
        · rw [if_neg h, if_neg h]
          exact tk k (by omega)
  · refine PK_2 (h1 := 1) (h2 := 0) (v := .inl (-5)) (R := fun m1 => m = m1) ?_ ?_ (by decide) (by decide)
    · refine u_10_0 ?_
      rw [am_s_id (z := m 0 1) (by omega) (by omega)]
      exact ⟨fun q => by omega, fun _ => ⟨rfl, rfl⟩⟩
    · rintro _ rfl
      refine u_165_0 ?_
      rw [t5, am_s_id (z := m 0 1 + 20) (by omega) (by omega)]
      exact ⟨fun q => by omega, fun _ => ⟨rfl, Inv_t hI⟩⟩
