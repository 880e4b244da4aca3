/-! the Keeper -/
theorem kx_p : ∀ i : Nat, 2 ^ (3 * i) = 8 ^ i := fun i => by rw [Nat.pow_mul]
theorem kx_f {s i : Nat} (hs : s < 2147483648) (hi : i < 5) : am_and (am_shr (s : Int) (3 * (i : Int))) 7 = ((kfl s i : Nat) : Int) := by
  rw [show (3 * (i : Int)) = ((3 * i : Nat) : Int) by omega, bx_shr hs (by omega), show (7 : Int) = ((7 : Nat) : Int) from rfl, bx_and' (by decide), kx_p, show (7 : Nat) = 2 ^ 3 - 1 from rfl, Nat.and_two_pow_sub_one_eq_mod]
  rfl
theorem kx_l : ∀ w : Nat, w < 8 → ∀ i : Nat, i < 5 → am_shl (w : Int) (3 * (i : Int)) = ((w * 8 ^ i : Nat) : Int) := by decide +kernel
theorem kx_o {x w i : Nat} (hx : x < 8 ^ i) (hw : w < 8) (hi : i < 5) : am_or (x : Int) (am_shl (w : Int) (3 * (i : Int))) = ((x + w * 8 ^ i : Nat) : Int) := by
  have h8 : (8 : Nat) ^ i * 8 ≤ 8 ^ 5 := by
    rw [← Nat.pow_succ]
    exact Nat.pow_le_pow_right (by decide) (by omega)
  have h7 : w * 8 ^ i ≤ 7 * 8 ^ i := Nat.mul_le_mul_right _ (by omega)
  have e : w <<< (3 * i) = w * 8 ^ i := by rw [Nat.shiftLeft_eq, kx_p]
  have h := Nat.shiftLeft_add_eq_or_of_lt (b := x) (i := 3 * i) (by rw [kx_p]; exact hx) w
  rw [e] at h
  rw [kx_l w hw i hi, bx_or (k := 15) (by omega) (by omega) (by decide), Nat.or_comm, ← h, Nat.add_comm]
theorem kx_u {z : Int} : 0 ≤ am_ushr z 19 ∧ am_ushr z 19 < 8192 := by
  have hD : ((Int32.ofInt 19).toUInt32 &&& Int32.toUInt32 31).toNat % 32 = 19 := by decide +kernel
  unfold am_ushr
  generalize (Int32.ofInt z).toUInt32 = u
  have h1 : (u >>> ((Int32.ofInt 19).toUInt32 &&& Int32.toUInt32 31)).toNat < 8192 := by
    rw [UInt32.toNat_shiftRight, hD, Nat.shiftRight_eq_div_pow]
    have := u.toNat_lt
    omega
  generalize u >>> ((Int32.ofInt 19).toUInt32 &&& Int32.toUInt32 31) = y at h1
  have h2 : y.toInt32.toInt = (y.toNat : Int) := by
    show y.toBitVec.toInt = _
    rw [BitVec.toInt_eq_toNat_cond, if_pos (by show 2 * y.toNat < 2 ^ 32; omega)]
    rfl
  rw [h2]
  omega
def kn (m : am_M) : Nat := (m 43 3).toNat
def kF (m : am_M) : Nat → Nat := kfl (m 43 6).toNat
def kH (m : am_M) : Nat := (m 43 4).toNat
def KOK (m : am_M) : Prop := (0 ≤ m 43 3 ∧ m 43 3 ≤ 5) ∧ (0 ≤ m 43 4 ∧ m 43 4 ≤ 100) ∧ 0 ≤ m 43 6 ∧ m 43 6 < 32768
theorem KOK_n {m : am_M} (h : KOK m) : m 43 3 = ((kn m : Nat) : Int) ∧ kn m ≤ 5 ∧ am_s ((kn m : Nat) : Int) = ((kn m : Nat) : Int) := by
  have := h.1
  unfold kn
  refine ⟨by omega, by omega, am_s_id (by omega) (by omega)⟩
theorem KOK_H {m : am_M} (h : KOK m) : m 43 4 = ((kH m : Nat) : Int) ∧ am_s ((kH m : Nat) : Int) = ((kH m : Nat) : Int) := by
  have := h.2.1
  unfold kH
  refine ⟨by omega, am_s_id (by omega) (by omega)⟩
theorem KOK_F {m : am_M} (h : KOK m) {i : Nat} (hi : i < 5) : am_and (am_shr (m 43 6) (3 * (i : Int))) 7 = ((kF m i : Nat) : Int) := by
  have := h.2.2
  unfold kF
  rw [← kx_f (s := (m 43 6).toNat) (by omega) hi, Int.toNat_of_nonneg this.1]
theorem kF_lt {m : am_M} {i : Nat} : kF m i < 8 := kfl_lt
theorem kp15 {n : Nat} (hn : n ≤ 5) : 8 ^ n ≤ 32768 := Nat.le_trans (Nat.pow_le_pow_right (by decide) hn) (by decide)
def KCH (m : am_M) (S C D : Nat) : Prop := cnt C 12 ≤ kH m ∧ kgo (kn m) (kfl S) C ∧ kneed (kn m) D (kfl S) C
theorem u_120_10 {Q : List am_V → am_M → Prop} {m : am_M} {k : Int} {s : Int} {i : Int}  (H : ((8192 ≤ am_s i) → Q [.inl s] m) ∧ ((¬ (8192 ≤ am_s i)) → (0 ≤ am_s s ∧ am_s s < (8192 : Nat)) ∧ (((am_s (m 45 ((am_s s).toNat)) = 0) → Q [.inl s] m) ∧ ((¬ (am_s (m 45 ((am_s s).toNat)) = 0)) → ((¬ am_s (am_shr ((m 45 ((am_s s).toNat)) - 1) 6) = am_s k) → ok 0 120 10 [some (.inr (.inr (some 43))), some (.inl k), some (.inl (am_and (s + 1) (8192 - 1))), some (.inl (i + 1))] [] m Q) ∧ ((am_s (am_shr ((m 45 ((am_s s).toNat)) - 1) 6) = am_s k) → Q [.inl s] m))))) : ok 0 120 10 [some (.inr (.inr (some 43))), some (.inl k), some (.inl s), some (.inl i)] [] m Q := by
  refine ok_sg (pc' := 16) (ls' := [some (.inr (.inr (some 43))), some (.inl k), some (.inl s), some (.inl i)]) (st' := [.inl 8192, .inl i]) (m' := m) (fun fx hfx o hk => ?_) ?_
  · refine r_ld (pc' := 11) hM_120 d_120_10 rfl rfl ?_
    refine r_ld (pc' := 12) hM_120 d_120_11 rfl rfl ?_
    refine r_gR (pc' := 15) (v := 45) hM_120 d_120_12 rfl (by decide +kernel) ?_
    refine r_al (pc' := 16) (n := 8192) hM_120 d_120_15 rfl rfl (by decide) ?_
    exact hk
  refine ok_ic (pc' := 63) (pc2 := 19) hM_120 d_120_16 (by decide) rfl (fun hz1 => ?_) (fun hz1 => ?_)
  · have H := H.1 hz1
    refine ok_sg (pc' := 64) (ls' := [some (.inr (.inr (some 43))), some (.inl k), some (.inl s), some (.inl i)]) (st' := [.inl s]) (m' := m) (fun fx hfx o hk => ?_) ?_
    · refine r_ld (pc' := 64) hM_120 d_120_63 rfl rfl ?_
      exact hk
    exact ok_rt (fun fx _ => rt_i hM_120 d_120_64 rfl) H
  · have H := H.2 hz1
    obtain ⟨hz2, H⟩ := H
    refine ok_sg (pc' := 25) (ls' := [some (.inr (.inr (some 43))), some (.inl k), some (.inl s), some (.inl i)]) (st' := [.inl (m 45 ((am_s s).toNat))]) (m' := m) (fun fx hfx o hk => ?_) ?_
    · refine r_ld (pc' := 20) hM_120 d_120_19 rfl rfl ?_
      refine r_gR (pc' := 23) (v := 45) hM_120 d_120_20 rfl (by decide +kernel) ?_
      refine r_ld (pc' := 24) hM_120 d_120_23 rfl rfl ?_
      refine r_ia (pc' := 25) (n := 8192) hM_120 d_120_24 rfl rfl hz2 ?_
      exact hk
    refine ok_if (pc' := 43) (pc2 := 28) hM_120 d_120_25 (by decide) rfl (fun hz3 => ?_) (fun hz3 => ?_)
    · have H := H.1 hz3
      refine ok_sg (pc' := 44) (ls' := [some (.inr (.inr (some 43))), some (.inl k), some (.inl s), some (.inl i)]) (st' := [.inl s]) (m' := m) (fun fx hfx o hk => ?_) ?_
      · refine r_ld (pc' := 44) hM_120 d_120_43 rfl rfl ?_
        exact hk
      exact ok_rt (fun fx _ => rt_i hM_120 d_120_44 rfl) H
    · have H := H.2 hz3
      refine ok_sg (pc' := 40) (ls' := [some (.inr (.inr (some 43))), some (.inl k), some (.inl s), some (.inl i)]) (st' := [.inl k, .inl (am_shr ((m 45 ((am_s s).toNat)) - 1) 6)]) (m' := m) (fun fx hfx o hk => ?_) ?_
      · refine r_ld (pc' := 29) hM_120 d_120_28 rfl rfl ?_
        refine r_gR (pc' := 32) (v := 45) hM_120 d_120_29 rfl (by decide +kernel) ?_
        refine r_ld (pc' := 33) hM_120 d_120_32 rfl rfl ?_
        refine r_ia (pc' := 34) (n := 8192) hM_120 d_120_33 rfl rfl hz2 ?_
        refine r_k (pc' := 35) (v := .inl 1) hM_120 d_120_34 rfl rfl ?_
        refine r_b (pc' := 36) (z := ((m 45 ((am_s s).toNat)) - 1)) hM_120 d_120_35 rfl rfl ?_
        refine r_k (pc' := 38) (v := .inl 6) hM_120 d_120_36 rfl rfl ?_
        refine r_b (pc' := 39) (z := (am_shr ((m 45 ((am_s s).toNat)) - 1) 6)) hM_120 d_120_38 rfl rfl ?_
        refine r_ld (pc' := 40) hM_120 d_120_39 rfl rfl ?_
        exact hk
      refine ok_ic (pc' := 45) (pc2 := 43) hM_120 d_120_40 (by decide) rfl (fun hz4 => ?_) (fun hz4 => ?_)
      · have H := H.1 hz4
        refine ok_sg (pc' := 10) (ls' := [some (.inr (.inr (some 43))), some (.inl k), some (.inl (am_and (s + 1) (8192 - 1))), some (.inl (i + 1))]) (st' := []) (m' := m) (fun fx hfx o hk => ?_) ?_
        · refine r_ld (pc' := 46) hM_120 d_120_45 rfl rfl ?_
          refine r_k (pc' := 47) (v := .inl 1) hM_120 d_120_46 rfl rfl ?_
          refine r_b (pc' := 48) (z := (s + 1)) hM_120 d_120_47 rfl rfl ?_
          refine r_ld (pc' := 49) hM_120 d_120_48 rfl rfl ?_
          refine r_gR (pc' := 52) (v := 45) hM_120 d_120_49 rfl (by decide +kernel) ?_
          refine r_al (pc' := 53) (n := 8192) hM_120 d_120_52 rfl rfl (by decide) ?_
          refine r_k (pc' := 54) (v := .inl 1) hM_120 d_120_53 rfl rfl ?_
          refine r_b (pc' := 55) (z := (8192 - 1)) hM_120 d_120_54 rfl rfl ?_
          refine r_b (pc' := 56) (z := (am_and (s + 1) (8192 - 1))) hM_120 d_120_55 rfl rfl ?_
          refine r_sto (pc' := 57) (ls' := [some (.inr (.inr (some 43))), some (.inl k), some (.inl (am_and (s + 1) (8192 - 1))), some (.inl i)]) hM_120 d_120_56 rfl rfl ?_
          refine r_sto (pc' := 60) (ls' := [some (.inr (.inr (some 43))), some (.inl k), some (.inl (am_and (s + 1) (8192 - 1))), some (.inl (i + 1))]) hM_120 d_120_57 rfl rfl ?_
          refine r_go (pc' := 10) hM_120 d_120_60 (by decide) ?_
          exact hk
        exact H
      · have H := H.2 (Decidable.not_not.mp hz4)
        refine ok_sg (pc' := 44) (ls' := [some (.inr (.inr (some 43))), some (.inl k), some (.inl s), some (.inl i)]) (st' := [.inl s]) (m' := m) (fun fx hfx o hk => ?_) ?_
        · refine r_ld (pc' := 44) hM_120 d_120_43 rfl rfl ?_
          exact hk
        exact ok_rt (fun fx _ => rt_i hM_120 d_120_44 rfl) H
theorem u_120_0 {Q : List am_V → am_M → Prop} {m : am_M} {k : Int}  (H : ok 0 120 10 [some (.inr (.inr (some 43))), some (.inl k), some (.inl (am_ushr (k * (-1640531535)) 19)), some (.inl 0)] [] m Q) : ok 0 120 0 [some (.inr (.inr (some 43))), some (.inl k), none, none] [] m Q := by
  refine ok_sg (pc' := 10) (ls' := [some (.inr (.inr (some 43))), some (.inl k), some (.inl (am_ushr (k * (-1640531535)) 19)), some (.inl 0)]) (st' := []) (m' := m) (fun fx hfx o hk => ?_) ?_
  · refine r_ld (pc' := 1) hM_120 d_120_0 rfl rfl ?_
    refine r_k (pc' := 3) (v := .inl (-1640531535)) hM_120 d_120_1 rfl (by decide +kernel) ?_
    refine r_b (pc' := 4) (z := (k * (-1640531535))) hM_120 d_120_3 rfl rfl ?_
    refine r_k (pc' := 6) (v := .inl 19) hM_120 d_120_4 rfl rfl ?_
    refine r_b (pc' := 7) (z := (am_ushr (k * (-1640531535)) 19)) hM_120 d_120_6 rfl rfl ?_
    refine r_sto (pc' := 8) (ls' := [some (.inr (.inr (some 43))), some (.inl k), some (.inl (am_ushr (k * (-1640531535)) 19)), none]) hM_120 d_120_7 rfl rfl ?_
    refine r_k (pc' := 9) (v := .inl 0) hM_120 d_120_8 rfl rfl ?_
    refine r_sto (pc' := 10) (ls' := [some (.inr (.inr (some 43))), some (.inl k), some (.inl (am_ushr (k * (-1640531535)) 19)), some (.inl 0)]) hM_120 d_120_9 rfl rfl ?_
    exact hk
  exact H
theorem z_120   (m : am_M) (k : Int)  : ok 0 120 0 (am_ent 4 [.inr (.inr (some 43)), .inl k]) [] m (fun rr m' => ∃ v' : Int, rr = [.inl (v')] ∧ m' = m ∧ 0 ≤ v' ∧ v' < 8192) := by
  show ok 0 120 0 [some (.inr (.inr (some 43))), some (.inl k), none, none] [] m _
  refine u_120_0 ?_
  obtain ⟨z1, z2⟩ := kx_u (z := k * (-1640531535))
  obtain ⟨j, hj⟩ : ∃ j : Nat, am_ushr (k * (-1640531535)) 19 = (j : Int) := ⟨(am_ushr (k * (-1640531535)) 19).toNat, by omega⟩
  rw [hj]
  refine ok_for (σ := Nat) (fun i x => [some (.inr (.inr (some 43))), some (.inl k), some (.inl (x : Int)), some (.inl (i : Int))]) (fun _ x M => M = m ∧ x < 8192) 8192 ?_ ?_ j m ⟨rfl, by omega⟩
  · rintro i hi x M ⟨hM, hx⟩ IH
    rw [hM]
    refine u_120_10 ?_
    rw [am_s_id (z := (i : Int)) (by omega) (by omega), am_s_id (z := (x : Int)) (by omega) (by omega), Int.toNat_natCast, show (x : Int) + 1 = ((x + 1 : Nat) : Int) by omega, show (8192 : Int) - 1 = ((8191 : Nat) : Int) by omega, bx_and (by omega)]
    refine ⟨fun q => by omega, fun _ => ⟨⟨by omega, by omega⟩, fun _ => ⟨_, rfl, rfl, by omega, by omega⟩, fun _ => ⟨fun _ => IH _ m ⟨rfl, ?_⟩, fun _ => ⟨_, rfl, rfl, by omega, by omega⟩⟩⟩⟩
    have := Nat.and_le_right (n := x + 1) (m := 8191)
    omega
  · rintro x M ⟨hM, hx⟩
    rw [hM]
    refine u_120_10 ?_
    rw [am_s_id (z := ((8192 : Nat) : Int)) (by omega) (by omega)]
    exact ⟨fun _ => ⟨_, rfl, rfl, by omega, by omega⟩, fun q => by omega⟩
theorem u_117_13 {Q : List am_V → am_M → Prop} {m : am_M} {s : Int} {d : Int} {x : Int} {i : Int}  (H : ((am_s (m 43 3) ≤ am_s i) → Q [.inl x] m) ∧ ((¬ (am_s (m 43 3) ≤ am_s i)) → ok 1 117 13 [some (.inr (.inr (some 43))), some (.inl s), some (.inl d), some (.inl (am_or x (am_shl (v_14 m d (am_and (am_shr s (3 * i)) 7)) (3 * i)))), some (.inl (i + 1))] [] m Q)) : ok 1 117 13 [some (.inr (.inr (some 43))), some (.inl s), some (.inl d), some (.inl x), some (.inl i)] [] m Q := by
  refine ok_sg (pc' := 19) (ls' := [some (.inr (.inr (some 43))), some (.inl s), some (.inl d), some (.inl x), some (.inl i)]) (st' := [.inl (m 43 3), .inl i]) (m' := m) (fun fx hfx o hk => ?_) ?_
  · refine r_ld (pc' := 15) hM_117 d_117_13 rfl rfl ?_
    refine r_ld (pc' := 16) hM_117 d_117_15 rfl rfl ?_
    refine r_gI (pc' := 19) (k0 := 3) hM_117 d_117_16 rfl (by decide +kernel) ?_
    exact hk
  refine ok_ic (pc' := 49) (pc2 := 22) hM_117 d_117_19 (by decide) rfl (fun hz1 => ?_) (fun hz1 => ?_)
  · have H := H.1 hz1
    refine ok_sg (pc' := 50) (ls' := [some (.inr (.inr (some 43))), some (.inl s), some (.inl d), some (.inl x), some (.inl i)]) (st' := [.inl x]) (m' := m) (fun fx hfx o hk => ?_) ?_
    · refine r_ld (pc' := 50) hM_117 d_117_49 rfl rfl ?_
      exact hk
    exact ok_rt (fun fx _ => rt_i hM_117 d_117_50 rfl) H
  · have H := H.2 hz1
    refine ok_sg (pc' := 13) (ls' := [some (.inr (.inr (some 43))), some (.inl s), some (.inl d), some (.inl (am_or x (am_shl (v_14 m d (am_and (am_shr s (3 * i)) 7)) (3 * i)))), some (.inl (i + 1))]) (st' := []) (m' := m) (fun fx hfx o hk => ?_) ?_
    · refine r_ld (pc' := 23) hM_117 d_117_22 rfl rfl ?_
      refine r_ld (pc' := 24) hM_117 d_117_23 rfl rfl ?_
      refine r_ld (pc' := 25) hM_117 d_117_24 rfl rfl ?_
      refine r_k (pc' := 26) (v := .inl 3) hM_117 d_117_25 rfl rfl ?_
      refine r_ld (pc' := 28) hM_117 d_117_26 rfl rfl ?_
      refine r_b (pc' := 29) (z := (3 * i)) hM_117 d_117_28 rfl rfl ?_
      refine r_b (pc' := 30) (z := (am_shr s (3 * i))) hM_117 d_117_29 rfl rfl ?_
      refine r_k (pc' := 32) (v := .inl 7) hM_117 d_117_30 rfl rfl ?_
      refine r_b (pc' := 33) (z := (am_and (am_shr s (3 * i)) 7)) hM_117 d_117_32 rfl rfl ?_
      refine r_cl (pc' := 36) (c := (14, 2)) (a := [.inl d, .inl (am_and (am_shr s (3 * i)) 7)]) (q := [.inl x]) hM_117 d_117_33 rfl (by decide +kernel) hM_14 rfl rfl rfl (Nat.le_of_ble_eq_true rfl) (Nat.le_of_ble_eq_true rfl) (Or.inl rfl) (c_14  m d (am_and (am_shr s (3 * i)) 7)) (Nat.le_of_ble_eq_true rfl) ?_
      show rn fx 1 (0, 0) 117 36 [some (.inr (.inr (some 43))), some (.inl s), some (.inl d), some (.inl x), some (.inl i)] [.inl (v_14 m d (am_and (am_shr s (3 * i)) 7)), .inl x] (st0 m) o
      refine r_k (pc' := 37) (v := .inl 3) hM_117 d_117_36 rfl rfl ?_
      refine r_ld (pc' := 39) hM_117 d_117_37 rfl rfl ?_
      refine r_b (pc' := 40) (z := (3 * i)) hM_117 d_117_39 rfl rfl ?_
      refine r_b (pc' := 41) (z := (am_shl (v_14 m d (am_and (am_shr s (3 * i)) 7)) (3 * i))) hM_117 d_117_40 rfl rfl ?_
      refine r_b (pc' := 42) (z := (am_or x (am_shl (v_14 m d (am_and (am_shr s (3 * i)) 7)) (3 * i)))) hM_117 d_117_41 rfl rfl ?_
      refine r_sto (pc' := 43) (ls' := [some (.inr (.inr (some 43))), some (.inl s), some (.inl d), some (.inl (am_or x (am_shl (v_14 m d (am_and (am_shr s (3 * i)) 7)) (3 * i)))), some (.inl i)]) hM_117 d_117_42 rfl rfl ?_
      refine r_sto (pc' := 46) (ls' := [some (.inr (.inr (some 43))), some (.inl s), some (.inl d), some (.inl (am_or x (am_shl (v_14 m d (am_and (am_shr s (3 * i)) 7)) (3 * i)))), some (.inl (i + 1))]) hM_117 d_117_43 rfl rfl ?_
      refine r_go (pc' := 13) hM_117 d_117_46 (by decide) ?_
      exact hk
    exact H
theorem u_117_0 {Q : List am_V → am_M → Prop} {m : am_M} {s : Int} {d : Int}  (H : ((am_s d < 7) → ok 1 117 13 [some (.inr (.inr (some 43))), some (.inl s), some (.inl d), some (.inl 0), some (.inl 0)] [] m Q) ∧ ((¬ (am_s d < 7)) → Q [.inl s] m)) : ok 1 117 0 [some (.inr (.inr (some 43))), some (.inl s), some (.inl d), none, none] [] m Q := by
  refine ok_sg (pc' := 3) (ls' := [some (.inr (.inr (some 43))), some (.inl s), some (.inl d), none, none]) (st' := [.inl 7, .inl d]) (m' := m) (fun fx hfx o hk => ?_) ?_
  · refine r_ld (pc' := 1) hM_117 d_117_0 rfl rfl ?_
    refine r_k (pc' := 3) (v := .inl 7) hM_117 d_117_1 rfl rfl ?_
    exact hk
  refine ok_ic (pc' := 8) (pc2 := 6) hM_117 d_117_3 (by decide) rfl (fun hz1 => ?_) (fun hz1 => ?_)
  · have H := H.1 hz1
    refine ok_sg (pc' := 13) (ls' := [some (.inr (.inr (some 43))), some (.inl s), some (.inl d), some (.inl 0), some (.inl 0)]) (st' := []) (m' := m) (fun fx hfx o hk => ?_) ?_
    · refine r_k (pc' := 9) (v := .inl 0) hM_117 d_117_8 rfl rfl ?_
      refine r_sto (pc' := 10) (ls' := [some (.inr (.inr (some 43))), some (.inl s), some (.inl d), some (.inl 0), none]) hM_117 d_117_9 rfl rfl ?_
      refine r_k (pc' := 11) (v := .inl 0) hM_117 d_117_10 rfl rfl ?_
      refine r_sto (pc' := 13) (ls' := [some (.inr (.inr (some 43))), some (.inl s), some (.inl d), some (.inl 0), some (.inl 0)]) hM_117 d_117_11 rfl rfl ?_
      exact hk
    exact H
  · have H := H.2 hz1
    refine ok_sg (pc' := 7) (ls' := [some (.inr (.inr (some 43))), some (.inl s), some (.inl d), none, none]) (st' := [.inl s]) (m' := m) (fun fx hfx o hk => ?_) ?_
    · refine r_ld (pc' := 7) hM_117 d_117_6 rfl rfl ?_
      exact hk
    exact ok_rt (fun fx _ => rt_i hM_117 d_117_7 rfl) H
theorem z_117   (m : am_M) (s : Int) (d : Int) (hq : KOK m ∧ (0 ≤ s ∧ s.toNat < 8 ^ kn m) ∧ 0 ≤ d ∧ d ≤ 8) : ok 1 117 0 (am_ent 5 [.inr (.inr (some 43)), .inl s, .inl d]) [] m (fun rr m' => rr = [.inl (((kpk (fun i => min d.toNat (kfl s.toNat i)) (kn m) : Nat) : Int))] ∧ m' = m) := by
  show ok 1 117 0 [some (.inr (.inr (some 43))), some (.inl s), some (.inl d), none, none] [] m _
  obtain ⟨hK, hs, hd⟩ := hq
  obtain ⟨S, rfl⟩ : ∃ S : Nat, s = (S : Int) := ⟨s.toNat, by omega⟩
  obtain ⟨D, rfl⟩ : ∃ D : Nat, d = (D : Int) := ⟨d.toNat, by omega⟩
  simp only [Int.toNat_natCast] at hs ⊢
  obtain ⟨hn1, hn2, hn3⟩ := KOK_n hK
  have h15 := kp15 hn2
  have hw : ∀ j, min D (kfl S j) < 8 := fun j => by have := kfl_lt (s := S) (i := j); omega
  refine u_117_0 ?_
  rw [am_s_id (z := (D : Int)) (by omega) (by omega)]
  refine ⟨fun q => ?_, fun q => ⟨?_, rfl⟩⟩
  · refine ok_for (σ := Unit) (fun i _ => [some (.inr (.inr (some 43))), some (.inl (S : Int)), some (.inl (D : Int)), some (.inl ((kpk (fun i => min D (kfl S i)) i : Nat) : Int)), some (.inl (i : Int))]) (fun _ _ M => M = m) (kn m) ?_ ?_ () m rfl
    · rintro i hi - M hM IH
      rw [hM]
      have hfl := kfl_lt (s := S) (i := i)
      refine u_117_13 ?_
      rw [hn1, hn3, am_s_id (z := (i : Int)) (by omega) (by omega), kx_f (by omega) (by omega), v14 (by omega) (by omega) (by omega) (by omega), show min (D : Int) ((kfl S i : Nat) : Int) = ((min D (kfl S i) : Nat) : Int) by omega, kx_o (kpk_lt hw i) (hw i) (by omega)]
      exact ⟨fun q => by omega, fun _ => IH () m rfl⟩
    · rintro - M hM
      rw [hM]
      refine u_117_13 ?_
      rw [hn1, hn3]
      exact ⟨fun _ => ⟨rfl, rfl⟩, fun q => by omega⟩
  · rw [kpk_congr (w' := kfl S) (kn m) fun i _ => by have := kfl_lt (s := S) (i := i); omega, kpk_fl, Nat.mod_eq_of_lt hs.2]
theorem u_121_16 {Q : List am_V → am_M → Prop} {m : am_M} {s : Int} {c : Int} {d : Int} {i : Int}  (H : ((am_s (m 43 3) ≤ am_s i) → Q [.inl 1] m) ∧ ((¬ (am_s (m 43 3) ≤ am_s i)) → ∀ y1 : Int, y1 = (if am_s (am_and (am_shr c i) 1) = 0 then 0 else 1) → ((am_s y1 = 0) → ((¬ am_s (am_and (am_shr s (3 * i)) 7) = 0) → ok 1 121 16 [some (.inr (.inr (some 43))), some (.inl s), some (.inl c), some (.inl d), some (.inl (i + 1)), none, none] [] m Q) ∧ ((am_s (am_and (am_shr s (3 * i)) 7) = 0) → Q [.inl 0] m)) ∧ ((¬ (am_s y1 = 0)) → ((am_s (am_and (am_shr s (3 * i)) 7) < am_s d) → ok 1 121 16 [some (.inr (.inr (some 43))), some (.inl s), some (.inl c), some (.inl d), some (.inl (i + 1)), none, none] [] m Q) ∧ ((¬ (am_s (am_and (am_shr s (3 * i)) 7) < am_s d)) → Q [.inl 0] m)))) : ok 1 121 16 [some (.inr (.inr (some 43))), some (.inl s), some (.inl c), some (.inl d), some (.inl i), none, none] [] m Q := by
  refine ok_sg (pc' := 22) (ls' := [some (.inr (.inr (some 43))), some (.inl s), some (.inl c), some (.inl d), some (.inl i), none, none]) (st' := [.inl (m 43 3), .inl i]) (m' := m) (fun fx hfx o hk => ?_) ?_
  · refine r_ld (pc' := 18) hM_121 d_121_16 rfl rfl ?_
    refine r_ld (pc' := 19) hM_121 d_121_18 rfl rfl ?_
    refine r_gI (pc' := 22) (k0 := 3) hM_121 d_121_19 rfl (by decide +kernel) ?_
    exact hk
  refine ok_ic (pc' := 79) (pc2 := 25) hM_121 d_121_22 (by decide) rfl (fun hz1 => ?_) (fun hz1 => ?_)
  · have H := H.1 hz1
    refine ok_sg (pc' := 80) (ls' := [some (.inr (.inr (some 43))), some (.inl s), some (.inl c), some (.inl d), some (.inl i), none, none]) (st' := [.inl 1]) (m' := m) (fun fx hfx o hk => ?_) ?_
    · refine r_k (pc' := 80) (v := .inl 1) hM_121 d_121_79 rfl rfl ?_
      exact hk
    exact ok_rt (fun fx _ => rt_z hM_121 d_121_80 rfl (by decide)) H
  · have H := H.2 hz1
    refine ok_sg (pc' := 42) (ls' := [some (.inr (.inr (some 43))), some (.inl s), some (.inl c), some (.inl d), some (.inl i), some (.inl (am_and (am_shr s (3 * i)) 7)), none]) (st' := [.inl (am_and (am_shr c i) 1)]) (m' := m) (fun fx hfx o hk => ?_) ?_
    · refine r_ld (pc' := 26) hM_121 d_121_25 rfl rfl ?_
      refine r_k (pc' := 27) (v := .inl 3) hM_121 d_121_26 rfl rfl ?_
      refine r_ld (pc' := 29) hM_121 d_121_27 rfl rfl ?_
      refine r_b (pc' := 30) (z := (3 * i)) hM_121 d_121_29 rfl rfl ?_
      refine r_b (pc' := 31) (z := (am_shr s (3 * i))) hM_121 d_121_30 rfl rfl ?_
      refine r_k (pc' := 33) (v := .inl 7) hM_121 d_121_31 rfl rfl ?_
      refine r_b (pc' := 34) (z := (am_and (am_shr s (3 * i)) 7)) hM_121 d_121_33 rfl rfl ?_
      refine r_sto (pc' := 36) (ls' := [some (.inr (.inr (some 43))), some (.inl s), some (.inl c), some (.inl d), some (.inl i), some (.inl (am_and (am_shr s (3 * i)) 7)), none]) hM_121 d_121_34 rfl rfl ?_
      refine r_ld (pc' := 37) hM_121 d_121_36 rfl rfl ?_
      refine r_ld (pc' := 39) hM_121 d_121_37 rfl rfl ?_
      refine r_b (pc' := 40) (z := (am_shr c i)) hM_121 d_121_39 rfl rfl ?_
      refine r_k (pc' := 41) (v := .inl 1) hM_121 d_121_40 rfl rfl ?_
      refine r_b (pc' := 42) (z := (am_and (am_shr c i) 1)) hM_121 d_121_41 rfl rfl ?_
      exact hk
    refine ok_sg (pc' := 50) (ls' := [some (.inr (.inr (some 43))), some (.inl s), some (.inl c), some (.inl d), some (.inl i), some (.inl (am_and (am_shr s (3 * i)) 7)), none]) (st' := [.inl (if am_s (am_and (am_shr c i) 1) = 0 then 0 else 1)]) (m' := m) (fun fx hfx o K => ?_) ?_
    · refine r_if (pc' := 49) (pc2 := 45) hM_121 d_121_42 (by decide) rfl (fun hz2 => ?_) (fun hz2 => ?_)
      · have hz2 : am_s (am_and (am_shr c i) 1) = 0 := hz2
        rw [if_pos hz2] at K
        refine r_k (pc' := 50) (v := .inl 0) hM_121 d_121_49 rfl rfl ?_
        exact K
      · have hz2 : ¬ (am_s (am_and (am_shr c i) 1) = 0) := hz2
        rw [if_neg hz2] at K
        refine r_k (pc' := 46) (v := .inl 1) hM_121 d_121_45 rfl rfl ?_
        refine r_go (pc' := 50) hM_121 d_121_46 (by decide) ?_
        exact K
    have K : ∀ y1 : Int, y1 = (if am_s (am_and (am_shr c i) 1) = 0 then 0 else 1) → ok 1 121 50 [some (.inr (.inr (some 43))), some (.inl s), some (.inl c), some (.inl d), some (.inl i), some (.inl (am_and (am_shr s (3 * i)) 7)), none] [.inl y1] m Q := by
      intro y1 hy1
      replace H := H y1 hy1
      refine ok_sg (pc' := 54) (ls' := [some (.inr (.inr (some 43))), some (.inl s), some (.inl c), some (.inl d), some (.inl i), some (.inl (am_and (am_shr s (3 * i)) 7)), some (.inl y1)]) (st' := [.inl y1]) (m' := m) (fun fx hfx o hk => ?_) ?_
      · refine r_sto (pc' := 52) (ls' := [some (.inr (.inr (some 43))), some (.inl s), some (.inl c), some (.inl d), some (.inl i), some (.inl (am_and (am_shr s (3 * i)) 7)), some (.inl y1)]) hM_121 d_121_50 rfl rfl ?_
        refine r_ld (pc' := 54) hM_121 d_121_52 rfl rfl ?_
        exact hk
      refine ok_if (pc' := 66) (pc2 := 57) hM_121 d_121_54 (by decide) rfl (fun hz3 => ?_) (fun hz3 => ?_)
      · have H := H.1 hz3
        refine ok_sg (pc' := 68) (ls' := [some (.inr (.inr (some 43))), some (.inl s), some (.inl c), some (.inl d), some (.inl i), some (.inl (am_and (am_shr s (3 * i)) 7)), some (.inl y1)]) (st' := [.inl (am_and (am_shr s (3 * i)) 7)]) (m' := m) (fun fx hfx o hk => ?_) ?_
        · refine r_ld (pc' := 68) hM_121 d_121_66 rfl rfl ?_
          exact hk
        refine ok_if (pc' := 73) (pc2 := 71) hM_121 d_121_68 (by decide) rfl (fun hz4 => ?_) (fun hz4 => ?_)
        · have H := H.1 hz4
          refine ok_sg (pc' := 16) (ls' := [some (.inr (.inr (some 43))), some (.inl s), some (.inl c), some (.inl d), some (.inl (i + 1)), none, none]) (st' := []) (m' := m) (fun fx hfx o hk => ?_) ?_
          · refine r_sto (pc' := 76) (ls' := [some (.inr (.inr (some 43))), some (.inl s), some (.inl c), some (.inl d), some (.inl (i + 1)), some (.inl (am_and (am_shr s (3 * i)) 7)), some (.inl y1)]) hM_121 d_121_73 rfl rfl ?_
            refine r_go (pc' := 16) hM_121 d_121_76 (by decide) ?_
            refine rn_wk (a := [some (.inr (.inr (some 43))), some (.inl s), some (.inl c), some (.inl d), some (.inl (i + 1)), none, none]) (by simp only [am_le, and_self]) ?_
            exact hk
          exact H
        · have H := H.2 (Decidable.not_not.mp hz4)
          refine ok_sg (pc' := 72) (ls' := [some (.inr (.inr (some 43))), some (.inl s), some (.inl c), some (.inl d), some (.inl i), some (.inl (am_and (am_shr s (3 * i)) 7)), some (.inl y1)]) (st' := [.inl 0]) (m' := m) (fun fx hfx o hk => ?_) ?_
          · refine r_k (pc' := 72) (v := .inl 0) hM_121 d_121_71 rfl rfl ?_
            exact hk
          exact ok_rt (fun fx _ => rt_z hM_121 d_121_72 rfl (by decide)) H
      · have H := H.2 hz3
        refine ok_sg (pc' := 60) (ls' := [some (.inr (.inr (some 43))), some (.inl s), some (.inl c), some (.inl d), some (.inl i), some (.inl (am_and (am_shr s (3 * i)) 7)), some (.inl y1)]) (st' := [.inl d, .inl (am_and (am_shr s (3 * i)) 7)]) (m' := m) (fun fx hfx o hk => ?_) ?_
        · refine r_ld (pc' := 59) hM_121 d_121_57 rfl rfl ?_
          refine r_ld (pc' := 60) hM_121 d_121_59 rfl rfl ?_
          exact hk
        refine ok_ic (pc' := 73) (pc2 := 63) hM_121 d_121_60 (by decide) rfl (fun hz5 => ?_) (fun hz5 => ?_)
        · have H := H.1 hz5
          refine ok_sg (pc' := 16) (ls' := [some (.inr (.inr (some 43))), some (.inl s), some (.inl c), some (.inl d), some (.inl (i + 1)), none, none]) (st' := []) (m' := m) (fun fx hfx o hk => ?_) ?_
          · refine r_sto (pc' := 76) (ls' := [some (.inr (.inr (some 43))), some (.inl s), some (.inl c), some (.inl d), some (.inl (i + 1)), some (.inl (am_and (am_shr s (3 * i)) 7)), some (.inl y1)]) hM_121 d_121_73 rfl rfl ?_
            refine r_go (pc' := 16) hM_121 d_121_76 (by decide) ?_
            refine rn_wk (a := [some (.inr (.inr (some 43))), some (.inl s), some (.inl c), some (.inl d), some (.inl (i + 1)), none, none]) (by simp only [am_le, and_self]) ?_
            exact hk
          exact H
        · have H := H.2 hz5
          refine ok_sg (pc' := 72) (ls' := [some (.inr (.inr (some 43))), some (.inl s), some (.inl c), some (.inl d), some (.inl i), some (.inl (am_and (am_shr s (3 * i)) 7)), some (.inl y1)]) (st' := [.inl 0]) (m' := m) (fun fx hfx o hk => ?_) ?_
          · refine r_go (pc' := 71) hM_121 d_121_63 (by decide) ?_
            refine r_k (pc' := 72) (v := .inl 0) hM_121 d_121_71 rfl rfl ?_
            exact hk
          exact ok_rt (fun fx _ => rt_z hM_121 d_121_72 rfl (by decide)) H
    exact K _ rfl
theorem u_121_0 {Q : List am_V → am_M → Prop} {m : am_M} {s : Int} {c : Int} {d : Int}  (H : (0 ≤ c ∧ c < 4096) ∧ (((am_s (((cnt c.toNat 12 : Nat) : Int)) ≤ am_s (m 43 4)) → ok 1 121 16 [some (.inr (.inr (some 43))), some (.inl s), some (.inl c), some (.inl d), some (.inl 0), none, none] [] m Q) ∧ ((¬ (am_s (((cnt c.toNat 12 : Nat) : Int)) ≤ am_s (m 43 4))) → Q [.inl 0] m))) : ok 1 121 0 [some (.inr (.inr (some 43))), some (.inl s), some (.inl c), some (.inl d), none, none, none] [] m Q := by
  obtain ⟨hz1, H⟩ := H
  refine ok_sg (pc' := 8) (ls' := [some (.inr (.inr (some 43))), some (.inl s), some (.inl c), some (.inl d), none, none, none]) (st' := [.inl (m 43 4), .inl (((cnt c.toNat 12 : Nat) : Int))]) (m' := m) (fun fx hfx o hk => ?_) ?_
  · refine r_ld (pc' := 1) hM_121 d_121_0 rfl rfl ?_
    refine r_cl (pc' := 4) (c := (72, 2)) (a := [.inl c]) (q := []) hM_121 d_121_1 rfl (by decide +kernel) hM_72 rfl rfl rfl (Nat.le_of_ble_eq_true rfl) (Nat.le_of_ble_eq_true rfl) (Or.inl rfl) (n_72  m c hz1) (Nat.le_of_ble_eq_true rfl) ?_
    show rn fx 1 (0, 0) 121 4 [some (.inr (.inr (some 43))), some (.inl s), some (.inl c), some (.inl d), none, none, none] [.inl (((cnt c.toNat 12 : Nat) : Int))] (st0 m) o
    refine r_ld (pc' := 5) hM_121 d_121_4 rfl rfl ?_
    refine r_gI (pc' := 8) (k0 := 4) hM_121 d_121_5 rfl (by decide +kernel) ?_
    exact hk
  refine ok_ic (pc' := 13) (pc2 := 11) hM_121 d_121_8 (by decide) rfl (fun hz2 => ?_) (fun hz2 => ?_)
  · have H := H.1 hz2
    refine ok_sg (pc' := 16) (ls' := [some (.inr (.inr (some 43))), some (.inl s), some (.inl c), some (.inl d), some (.inl 0), none, none]) (st' := []) (m' := m) (fun fx hfx o hk => ?_) ?_
    · refine r_k (pc' := 14) (v := .inl 0) hM_121 d_121_13 rfl rfl ?_
      refine r_sto (pc' := 16) (ls' := [some (.inr (.inr (some 43))), some (.inl s), some (.inl c), some (.inl d), some (.inl 0), none, none]) hM_121 d_121_14 rfl rfl ?_
      exact hk
    exact H
  · have H := H.2 hz2
    refine ok_sg (pc' := 12) (ls' := [some (.inr (.inr (some 43))), some (.inl s), some (.inl c), some (.inl d), none, none, none]) (st' := [.inl 0]) (m' := m) (fun fx hfx o hk => ?_) ?_
    · refine r_k (pc' := 12) (v := .inl 0) hM_121 d_121_11 rfl rfl ?_
      exact hk
    exact ok_rt (fun fx _ => rt_z hM_121 d_121_12 rfl (by decide)) H
theorem z_121   (m : am_M) (s : Int) (c : Int) (d : Int) (hq : KOK m ∧ (0 ≤ s ∧ s < 32768) ∧ (0 ≤ c ∧ c < 4096) ∧ 0 ≤ d ∧ d ≤ 8) : ok 1 121 0 (am_ent 7 [.inr (.inr (some 43)), .inl s, .inl c, .inl d]) [] m (fun rr m' => ∃ v' : Int, rr = [.inl (v')] ∧ m' = m ∧ (v' = 0 ∨ v' = 1) ∧ (v' = 1 ↔ KCH m s.toNat c.toNat d.toNat)) := by
  show ok 1 121 0 [some (.inr (.inr (some 43))), some (.inl s), some (.inl c), some (.inl d), none, none, none] [] m _
  obtain ⟨hK, hs, hc, hd⟩ := hq
  obtain ⟨S, rfl⟩ : ∃ S : Nat, s = (S : Int) := ⟨s.toNat, by omega⟩
  obtain ⟨C, rfl⟩ : ∃ C : Nat, c = (C : Int) := ⟨c.toNat, by omega⟩
  obtain ⟨D, rfl⟩ : ∃ D : Nat, d = (D : Int) := ⟨d.toNat, by omega⟩
  simp only [Int.toNat_natCast] at hs ⊢
  obtain ⟨hn1, hn2, hn3⟩ := KOK_n hK
  obtain ⟨hH1, hH2⟩ := KOK_H hK
  refine u_121_0 ?_
  rw [hH1, hH2, Int.toNat_natCast, am_s_id (z := ((cnt C 12 : Nat) : Int)) (by omega) (by have := cnt_le C 12; omega)]
  refine ⟨⟨by omega, by omega⟩, fun q => ?_, fun q => ⟨_, rfl, rfl, Or.inl rfl, fun z => absurd z (by decide), fun z => absurd z.1 (by omega)⟩⟩
  refine ok_for (σ := Unit) (fun i _ => [some (.inr (.inr (some 43))), some (.inl (S : Int)), some (.inl (C : Int)), some (.inl (D : Int)), some (.inl (i : Int)), none, none]) (fun i _ M => M = m ∧ (∀ j, j < i → C.testBit j = false → 1 ≤ kfl S j) ∧ ∀ j, j < i → C.testBit j = true → kfl S j < D) (kn m) ?_ ?_ () m ⟨rfl, fun j h => absurd h (Nat.not_lt_zero _), fun j h => absurd h (Nat.not_lt_zero _)⟩
  · rintro i hi - M ⟨hM, g1, g2⟩ IH
    rw [hM]
    have hfl := kfl_lt (s := S) (i := i)
    refine u_121_16 ?_
    rw [hn1, hn3, am_s_id (z := (i : Int)) (by omega) (by omega), kx_f (by omega) (by omega), am_s_id (z := ((kfl S i : Nat) : Int)) (by omega) (by omega), am_s_id (z := (D : Int)) (by omega) (by omega)]
    refine ⟨fun q => by omega, fun _ y1 hy => ?_⟩
    have hb := bx_bit (B := C) (i := i) (by omega) (by omega)
    have stp : (C.testBit i = false → 1 ≤ kfl S i) → (C.testBit i = true → kfl S i < D) → ok 1 121 16 [some (.inr (.inr (some 43))), some (.inl (S : Int)), some (.inl (C : Int)), some (.inl (D : Int)), some (.inl ((i : Int) + 1)), none, none] [] m (fun rr m' => ∃ v' : Int, rr = [.inl v'] ∧ m' = m ∧ (v' = 0 ∨ v' = 1) ∧ (v' = 1 ↔ KCH m S C D)) := by
      intro e1 e2
      refine IH () m ⟨rfl, fun j hj hb => ?_, fun j hj hb => ?_⟩
      · by_cases hh : j = i
        · rw [hh] at hb ⊢; exact e1 hb
        · exact g1 j (by omega) hb
      · by_cases hh : j = i
        · rw [hh] at hb ⊢; exact e2 hb
        · exact g2 j (by omega) hb
    cases hcb : C.testBit i
    · rw [hcb] at stp
      rw [if_pos (hb.mpr hcb)] at hy
      rw [hy]
      refine ⟨fun _ => ⟨fun q => stp (fun _ => by omega) (fun z => absurd z (by decide)), fun q => ⟨_, rfl, rfl, Or.inl rfl, fun z => absurd z (by decide), fun z => ?_⟩⟩, fun z => absurd rfl z⟩
      have := z.2.1 i hi hcb
      omega
    · rw [hcb] at stp
      rw [if_neg (fun z => by rw [hb.mp z] at hcb; exact absurd hcb (by decide))] at hy
      rw [hy]
      refine ⟨fun z => absurd z (by decide), fun _ => ⟨fun q => stp (fun z => absurd z (by decide)) (fun _ => by omega), fun q => ⟨_, rfl, rfl, Or.inl rfl, fun z => absurd z (by decide), fun z => ?_⟩⟩⟩
      have := z.2.2 i hi hcb
      omega
  · rintro - M ⟨hM, g1, g2⟩
    rw [hM]
    refine u_121_16 ?_
    rw [hn1, hn3]
    exact ⟨fun _ => ⟨_, rfl, rfl, Or.inr rfl, fun _ => ⟨by omega, g1, g2⟩, fun _ => rfl⟩, fun q => by omega⟩
theorem u_122_5 {Q : List am_V → am_M → Prop} {m : am_M} {s : Int} {c : Int} {x : Int} {i : Int}  (H : ((am_s (m 43 3) ≤ am_s i) → Q [.inl x] m) ∧ ((¬ (am_s (m 43 3) ≤ am_s i)) → ∀ y1 : Int, y1 = (if am_s (am_and (am_shr c i) 1) = 0 then (v_74 m 0 ((am_and (am_shr s (3 * i)) 7) - 1)) else (am_and (am_shr (m 43 6) (3 * i)) 7)) → ok 1 122 5 [some (.inr (.inr (some 43))), some (.inl s), some (.inl c), some (.inl (am_or x (am_shl y1 (3 * i)))), some (.inl (i + 1)), none, none] [] m Q)) : ok 1 122 5 [some (.inr (.inr (some 43))), some (.inl s), some (.inl c), some (.inl x), some (.inl i), none, none] [] m Q := by
  refine ok_sg (pc' := 11) (ls' := [some (.inr (.inr (some 43))), some (.inl s), some (.inl c), some (.inl x), some (.inl i), none, none]) (st' := [.inl (m 43 3), .inl i]) (m' := m) (fun fx hfx o hk => ?_) ?_
  · refine r_ld (pc' := 7) hM_122 d_122_5 rfl rfl ?_
    refine r_ld (pc' := 8) hM_122 d_122_7 rfl rfl ?_
    refine r_gI (pc' := 11) (k0 := 3) hM_122 d_122_8 rfl (by decide +kernel) ?_
    exact hk
  refine ok_ic (pc' := 71) (pc2 := 14) hM_122 d_122_11 (by decide) rfl (fun hz1 => ?_) (fun hz1 => ?_)
  · have H := H.1 hz1
    refine ok_sg (pc' := 72) (ls' := [some (.inr (.inr (some 43))), some (.inl s), some (.inl c), some (.inl x), some (.inl i), none, none]) (st' := [.inl x]) (m' := m) (fun fx hfx o hk => ?_) ?_
    · refine r_ld (pc' := 72) hM_122 d_122_71 rfl rfl ?_
      exact hk
    exact ok_rt (fun fx _ => rt_i hM_122 d_122_72 rfl) H
  · have H := H.2 hz1
    refine ok_sg (pc' := 26) (ls' := [some (.inr (.inr (some 43))), some (.inl s), some (.inl c), some (.inl x), some (.inl i), some (.inl (3 * i)), none]) (st' := [.inl (am_and (am_shr c i) 1)]) (m' := m) (fun fx hfx o hk => ?_) ?_
    · refine r_k (pc' := 15) (v := .inl 3) hM_122 d_122_14 rfl rfl ?_
      refine r_ld (pc' := 17) hM_122 d_122_15 rfl rfl ?_
      refine r_b (pc' := 18) (z := (3 * i)) hM_122 d_122_17 rfl rfl ?_
      refine r_sto (pc' := 20) (ls' := [some (.inr (.inr (some 43))), some (.inl s), some (.inl c), some (.inl x), some (.inl i), some (.inl (3 * i)), none]) hM_122 d_122_18 rfl rfl ?_
      refine r_ld (pc' := 21) hM_122 d_122_20 rfl rfl ?_
      refine r_ld (pc' := 23) hM_122 d_122_21 rfl rfl ?_
      refine r_b (pc' := 24) (z := (am_shr c i)) hM_122 d_122_23 rfl rfl ?_
      refine r_k (pc' := 25) (v := .inl 1) hM_122 d_122_24 rfl rfl ?_
      refine r_b (pc' := 26) (z := (am_and (am_shr c i) 1)) hM_122 d_122_25 rfl rfl ?_
      exact hk
    refine ok_sg (pc' := 55) (ls' := [some (.inr (.inr (some 43))), some (.inl s), some (.inl c), some (.inl x), some (.inl i), some (.inl (3 * i)), none]) (st' := [.inl (if am_s (am_and (am_shr c i) 1) = 0 then (v_74 m 0 ((am_and (am_shr s (3 * i)) 7) - 1)) else (am_and (am_shr (m 43 6) (3 * i)) 7))]) (m' := m) (fun fx hfx o K => ?_) ?_
    · refine r_if (pc' := 42) (pc2 := 29) hM_122 d_122_26 (by decide) rfl (fun hz2 => ?_) (fun hz2 => ?_)
      · have hz2 : am_s (am_and (am_shr c i) 1) = 0 := hz2
        rw [if_pos hz2] at K
        refine r_k (pc' := 43) (v := .inl 0) hM_122 d_122_42 rfl rfl ?_
        refine r_ld (pc' := 44) hM_122 d_122_43 rfl rfl ?_
        refine r_ld (pc' := 46) hM_122 d_122_44 rfl rfl ?_
        refine r_b (pc' := 47) (z := (am_shr s (3 * i))) hM_122 d_122_46 rfl rfl ?_
        refine r_k (pc' := 49) (v := .inl 7) hM_122 d_122_47 rfl rfl ?_
        refine r_b (pc' := 50) (z := (am_and (am_shr s (3 * i)) 7)) hM_122 d_122_49 rfl rfl ?_
        refine r_k (pc' := 51) (v := .inl 1) hM_122 d_122_50 rfl rfl ?_
        refine r_b (pc' := 52) (z := ((am_and (am_shr s (3 * i)) 7) - 1)) hM_122 d_122_51 rfl rfl ?_
        refine r_cl (pc' := 55) (c := (74, 2)) (a := [.inl 0, .inl ((am_and (am_shr s (3 * i)) 7) - 1)]) (q := []) hM_122 d_122_52 rfl (by decide +kernel) hM_74 rfl rfl rfl (Nat.le_of_ble_eq_true rfl) (Nat.le_of_ble_eq_true rfl) (Or.inl rfl) (c_74  m 0 ((am_and (am_shr s (3 * i)) 7) - 1)) (Nat.le_of_ble_eq_true rfl) ?_
        show rn fx 1 (0, 0) 122 55 [some (.inr (.inr (some 43))), some (.inl s), some (.inl c), some (.inl x), some (.inl i), some (.inl (3 * i)), none] [.inl (v_74 m 0 ((am_and (am_shr s (3 * i)) 7) - 1))] (st0 m) o
        exact K
      · have hz2 : ¬ (am_s (am_and (am_shr c i) 1) = 0) := hz2
        rw [if_neg hz2] at K
        refine r_ld (pc' := 30) hM_122 d_122_29 rfl rfl ?_
        refine r_gI (pc' := 33) (k0 := 6) hM_122 d_122_30 rfl (by decide +kernel) ?_
        refine r_ld (pc' := 35) hM_122 d_122_33 rfl rfl ?_
        refine r_b (pc' := 36) (z := (am_shr (m 43 6) (3 * i))) hM_122 d_122_35 rfl rfl ?_
        refine r_k (pc' := 38) (v := .inl 7) hM_122 d_122_36 rfl rfl ?_
        refine r_b (pc' := 39) (z := (am_and (am_shr (m 43 6) (3 * i)) 7)) hM_122 d_122_38 rfl rfl ?_
        refine r_go (pc' := 55) hM_122 d_122_39 (by decide) ?_
        exact K
    have K : ∀ y1 : Int, y1 = (if am_s (am_and (am_shr c i) 1) = 0 then (v_74 m 0 ((am_and (am_shr s (3 * i)) 7) - 1)) else (am_and (am_shr (m 43 6) (3 * i)) 7)) → ok 1 122 55 [some (.inr (.inr (some 43))), some (.inl s), some (.inl c), some (.inl x), some (.inl i), some (.inl (3 * i)), none] [.inl y1] m Q := by
      intro y1 hy1
      replace H := H y1 hy1
      refine ok_sg (pc' := 5) (ls' := [some (.inr (.inr (some 43))), some (.inl s), some (.inl c), some (.inl (am_or x (am_shl y1 (3 * i)))), some (.inl (i + 1)), none, none]) (st' := []) (m' := m) (fun fx hfx o hk => ?_) ?_
      · refine r_sto (pc' := 57) (ls' := [some (.inr (.inr (some 43))), some (.inl s), some (.inl c), some (.inl x), some (.inl i), some (.inl (3 * i)), some (.inl y1)]) hM_122 d_122_55 rfl rfl ?_
        refine r_ld (pc' := 58) hM_122 d_122_57 rfl rfl ?_
        refine r_ld (pc' := 60) hM_122 d_122_58 rfl rfl ?_
        refine r_ld (pc' := 62) hM_122 d_122_60 rfl rfl ?_
        refine r_b (pc' := 63) (z := (am_shl y1 (3 * i))) hM_122 d_122_62 rfl rfl ?_
        refine r_b (pc' := 64) (z := (am_or x (am_shl y1 (3 * i)))) hM_122 d_122_63 rfl rfl ?_
        refine r_sto (pc' := 65) (ls' := [some (.inr (.inr (some 43))), some (.inl s), some (.inl c), some (.inl (am_or x (am_shl y1 (3 * i)))), some (.inl i), some (.inl (3 * i)), some (.inl y1)]) hM_122 d_122_64 rfl rfl ?_
        refine r_sto (pc' := 68) (ls' := [some (.inr (.inr (some 43))), some (.inl s), some (.inl c), some (.inl (am_or x (am_shl y1 (3 * i)))), some (.inl (i + 1)), some (.inl (3 * i)), some (.inl y1)]) hM_122 d_122_65 rfl rfl ?_
        refine r_go (pc' := 5) hM_122 d_122_68 (by decide) ?_
        refine rn_wk (a := [some (.inr (.inr (some 43))), some (.inl s), some (.inl c), some (.inl (am_or x (am_shl y1 (3 * i)))), some (.inl (i + 1)), none, none]) (by simp only [am_le, and_self]) ?_
        exact hk
      exact H
    exact K _ rfl
theorem u_122_0 {Q : List am_V → am_M → Prop} {m : am_M} {s : Int} {c : Int}  (H : ok 1 122 5 [some (.inr (.inr (some 43))), some (.inl s), some (.inl c), some (.inl 0), some (.inl 0), none, none] [] m Q) : ok 1 122 0 [some (.inr (.inr (some 43))), some (.inl s), some (.inl c), none, none, none, none] [] m Q := by
  refine ok_sg (pc' := 5) (ls' := [some (.inr (.inr (some 43))), some (.inl s), some (.inl c), some (.inl 0), some (.inl 0), none, none]) (st' := []) (m' := m) (fun fx hfx o hk => ?_) ?_
  · refine r_k (pc' := 1) (v := .inl 0) hM_122 d_122_0 rfl rfl ?_
    refine r_sto (pc' := 2) (ls' := [some (.inr (.inr (some 43))), some (.inl s), some (.inl c), some (.inl 0), none, none, none]) hM_122 d_122_1 rfl rfl ?_
    refine r_k (pc' := 3) (v := .inl 0) hM_122 d_122_2 rfl rfl ?_
    refine r_sto (pc' := 5) (ls' := [some (.inr (.inr (some 43))), some (.inl s), some (.inl c), some (.inl 0), some (.inl 0), none, none]) hM_122 d_122_3 rfl rfl ?_
    exact hk
  exact H
theorem z_122   (m : am_M) (s : Int) (c : Int) (hq : KOK m ∧ (0 ≤ s ∧ s < 32768) ∧ 0 ≤ c ∧ c < 4096) : ok 1 122 0 (am_ent 7 [.inr (.inr (some 43)), .inl s, .inl c]) [] m (fun rr m' => rr = [.inl (((kpk (ktp (kF m) c.toNat (kfl s.toNat)) (kn m) : Nat) : Int))] ∧ m' = m) := by
  show ok 1 122 0 [some (.inr (.inr (some 43))), some (.inl s), some (.inl c), none, none, none, none] [] m _
  obtain ⟨hK, hs, hc⟩ := hq
  obtain ⟨S, rfl⟩ : ∃ S : Nat, s = (S : Int) := ⟨s.toNat, by omega⟩
  obtain ⟨C, rfl⟩ : ∃ C : Nat, c = (C : Int) := ⟨c.toNat, by omega⟩
  simp only [Int.toNat_natCast] at hs ⊢
  obtain ⟨hn1, hn2, hn3⟩ := KOK_n hK
  have hw : ∀ j, ktp (kF m) C (kfl S) j < 8 := fun j => by
    have := kfl_lt (s := S) (i := j)
    have := kF_lt (m := m) (i := j)
    unfold ktp
    split <;> omega
  refine u_122_0 ?_
  refine ok_for (σ := Unit) (fun i _ => [some (.inr (.inr (some 43))), some (.inl (S : Int)), some (.inl (C : Int)), some (.inl ((kpk (ktp (kF m) C (kfl S)) i : Nat) : Int)), some (.inl (i : Int)), none, none]) (fun _ _ M => M = m) (kn m) ?_ ?_ () m rfl
  · rintro i hi - M hM IH
    rw [hM]
    have hfl := kfl_lt (s := S) (i := i)
    have hb := bx_bit (B := C) (i := i) (by omega) (by omega)
    refine u_122_5 ?_
    rw [hn1, hn3, am_s_id (z := (i : Int)) (by omega) (by omega), kx_f (by omega) (by omega), KOK_F hK (by omega), v74 (by omega) (by omega) (by omega) (by omega)]
    refine ⟨fun q => by omega, fun _ y1 hy => ?_⟩
    have hy2 : y1 = ((ktp (kF m) C (kfl S) i : Nat) : Int) := by
      rw [hy]
      unfold ktp
      cases hcb : C.testBit i
      · rw [if_pos (hb.mpr hcb), if_neg (by decide)]
        omega
      · rw [if_neg (fun z => by rw [hb.mp z] at hcb; exact absurd hcb (by decide)), if_pos rfl]
    rw [hy2, kx_o (kpk_lt hw i) (hw i) (by omega)]
    exact IH () m rfl
  · rintro - M hM
    rw [hM]
    refine u_122_5 ?_
    rw [hn1, hn3]
    exact ⟨fun _ => ⟨rfl, rfl⟩, fun q => by omega⟩
theorem u_123_5 {Q : List am_V → am_M → Prop} {m : am_M} {s : Int} {d : Int} {x : Int} {i : Int}  (H : ((am_s (m 43 3) ≤ am_s i) → Q [.inl x] m) ∧ ((¬ (am_s (m 43 3) ≤ am_s i)) → ((am_s ((d - (am_and (am_shr s (3 * i)) 7)) - 1) < 0) → ok 0 123 5 [some (.inr (.inr (some 43))), some (.inl s), some (.inl d), some (.inl x), some (.inl (i + 1)), none] [] m Q) ∧ ((¬ (am_s ((d - (am_and (am_shr s (3 * i)) 7)) - 1) < 0)) → (am_s ((am_and (am_shr (m 43 6) (3 * i)) 7) + 1) ≠ 0) ∧ (ok 0 123 5 [some (.inr (.inr (some 43))), some (.inl s), some (.inl d), some (.inl (x + (1 + (am_div ((d - (am_and (am_shr s (3 * i)) 7)) - 1) ((am_and (am_shr (m 43 6) (3 * i)) 7) + 1))))), some (.inl (i + 1)), none] [] m Q)))) : ok 0 123 5 [some (.inr (.inr (some 43))), some (.inl s), some (.inl d), some (.inl x), some (.inl i), none] [] m Q := by
  refine ok_sg (pc' := 11) (ls' := [some (.inr (.inr (some 43))), some (.inl s), some (.inl d), some (.inl x), some (.inl i), none]) (st' := [.inl (m 43 3), .inl i]) (m' := m) (fun fx hfx o hk => ?_) ?_
  · refine r_ld (pc' := 7) hM_123 d_123_5 rfl rfl ?_
    refine r_ld (pc' := 8) hM_123 d_123_7 rfl rfl ?_
    refine r_gI (pc' := 11) (k0 := 3) hM_123 d_123_8 rfl (by decide +kernel) ?_
    exact hk
  refine ok_ic (pc' := 62) (pc2 := 14) hM_123 d_123_11 (by decide) rfl (fun hz1 => ?_) (fun hz1 => ?_)
  · have H := H.1 hz1
    refine ok_sg (pc' := 63) (ls' := [some (.inr (.inr (some 43))), some (.inl s), some (.inl d), some (.inl x), some (.inl i), none]) (st' := [.inl x]) (m' := m) (fun fx hfx o hk => ?_) ?_
    · refine r_ld (pc' := 63) hM_123 d_123_62 rfl rfl ?_
      exact hk
    exact ok_rt (fun fx _ => rt_i hM_123 d_123_63 rfl) H
  · have H := H.2 hz1
    refine ok_sg (pc' := 31) (ls' := [some (.inr (.inr (some 43))), some (.inl s), some (.inl d), some (.inl x), some (.inl i), some (.inl ((d - (am_and (am_shr s (3 * i)) 7)) - 1))]) (st' := [.inl ((d - (am_and (am_shr s (3 * i)) 7)) - 1)]) (m' := m) (fun fx hfx o hk => ?_) ?_
    · refine r_ld (pc' := 15) hM_123 d_123_14 rfl rfl ?_
      refine r_ld (pc' := 16) hM_123 d_123_15 rfl rfl ?_
      refine r_k (pc' := 17) (v := .inl 3) hM_123 d_123_16 rfl rfl ?_
      refine r_ld (pc' := 19) hM_123 d_123_17 rfl rfl ?_
      refine r_b (pc' := 20) (z := (3 * i)) hM_123 d_123_19 rfl rfl ?_
      refine r_b (pc' := 21) (z := (am_shr s (3 * i))) hM_123 d_123_20 rfl rfl ?_
      refine r_k (pc' := 23) (v := .inl 7) hM_123 d_123_21 rfl rfl ?_
      refine r_b (pc' := 24) (z := (am_and (am_shr s (3 * i)) 7)) hM_123 d_123_23 rfl rfl ?_
      refine r_b (pc' := 25) (z := (d - (am_and (am_shr s (3 * i)) 7))) hM_123 d_123_24 rfl rfl ?_
      refine r_k (pc' := 26) (v := .inl 1) hM_123 d_123_25 rfl rfl ?_
      refine r_b (pc' := 27) (z := ((d - (am_and (am_shr s (3 * i)) 7)) - 1)) hM_123 d_123_26 rfl rfl ?_
      refine r_sto (pc' := 29) (ls' := [some (.inr (.inr (some 43))), some (.inl s), some (.inl d), some (.inl x), some (.inl i), some (.inl ((d - (am_and (am_shr s (3 * i)) 7)) - 1))]) hM_123 d_123_27 rfl rfl ?_
      refine r_ld (pc' := 31) hM_123 d_123_29 rfl rfl ?_
      exact hk
    refine ok_if (pc' := 56) (pc2 := 34) hM_123 d_123_31 (by decide) rfl (fun hz2 => ?_) (fun hz2 => ?_)
    · have H := H.1 hz2
      refine ok_sg (pc' := 5) (ls' := [some (.inr (.inr (some 43))), some (.inl s), some (.inl d), some (.inl x), some (.inl (i + 1)), none]) (st' := []) (m' := m) (fun fx hfx o hk => ?_) ?_
      · refine r_sto (pc' := 59) (ls' := [some (.inr (.inr (some 43))), some (.inl s), some (.inl d), some (.inl x), some (.inl (i + 1)), some (.inl ((d - (am_and (am_shr s (3 * i)) 7)) - 1))]) hM_123 d_123_56 rfl rfl ?_
        refine r_go (pc' := 5) hM_123 d_123_59 (by decide) ?_
        refine rn_wk (a := [some (.inr (.inr (some 43))), some (.inl s), some (.inl d), some (.inl x), some (.inl (i + 1)), none]) (by simp only [am_le, and_self]) ?_
        exact hk
      exact H
    · have H := H.2 hz2
      obtain ⟨hz3, H⟩ := H
      refine ok_sg (pc' := 5) (ls' := [some (.inr (.inr (some 43))), some (.inl s), some (.inl d), some (.inl (x + (1 + (am_div ((d - (am_and (am_shr s (3 * i)) 7)) - 1) ((am_and (am_shr (m 43 6) (3 * i)) 7) + 1))))), some (.inl (i + 1)), none]) (st' := []) (m' := m) (fun fx hfx o hk => ?_) ?_
      · refine r_ld (pc' := 35) hM_123 d_123_34 rfl rfl ?_
        refine r_k (pc' := 36) (v := .inl 1) hM_123 d_123_35 rfl rfl ?_
        refine r_ld (pc' := 38) hM_123 d_123_36 rfl rfl ?_
        refine r_ld (pc' := 39) hM_123 d_123_38 rfl rfl ?_
        refine r_gI (pc' := 42) (k0 := 6) hM_123 d_123_39 rfl (by decide +kernel) ?_
        refine r_k (pc' := 43) (v := .inl 3) hM_123 d_123_42 rfl rfl ?_
        refine r_ld (pc' := 45) hM_123 d_123_43 rfl rfl ?_
        refine r_b (pc' := 46) (z := (3 * i)) hM_123 d_123_45 rfl rfl ?_
        refine r_b (pc' := 47) (z := (am_shr (m 43 6) (3 * i))) hM_123 d_123_46 rfl rfl ?_
        refine r_k (pc' := 49) (v := .inl 7) hM_123 d_123_47 rfl rfl ?_
        refine r_b (pc' := 50) (z := (am_and (am_shr (m 43 6) (3 * i)) 7)) hM_123 d_123_49 rfl rfl ?_
        refine r_k (pc' := 51) (v := .inl 1) hM_123 d_123_50 rfl rfl ?_
        refine r_b (pc' := 52) (z := ((am_and (am_shr (m 43 6) (3 * i)) 7) + 1)) hM_123 d_123_51 rfl rfl ?_
        refine r_div (pc' := 53) hM_123 d_123_52 rfl hz3 ?_
        refine r_b (pc' := 54) (z := (1 + (am_div ((d - (am_and (am_shr s (3 * i)) 7)) - 1) ((am_and (am_shr (m 43 6) (3 * i)) 7) + 1)))) hM_123 d_123_53 rfl rfl ?_
        refine r_b (pc' := 55) (z := (x + (1 + (am_div ((d - (am_and (am_shr s (3 * i)) 7)) - 1) ((am_and (am_shr (m 43 6) (3 * i)) 7) + 1))))) hM_123 d_123_54 rfl rfl ?_
        refine r_sto (pc' := 56) (ls' := [some (.inr (.inr (some 43))), some (.inl s), some (.inl d), some (.inl (x + (1 + (am_div ((d - (am_and (am_shr s (3 * i)) 7)) - 1) ((am_and (am_shr (m 43 6) (3 * i)) 7) + 1))))), some (.inl i), some (.inl ((d - (am_and (am_shr s (3 * i)) 7)) - 1))]) hM_123 d_123_55 rfl rfl ?_
        refine r_sto (pc' := 59) (ls' := [some (.inr (.inr (some 43))), some (.inl s), some (.inl d), some (.inl (x + (1 + (am_div ((d - (am_and (am_shr s (3 * i)) 7)) - 1) ((am_and (am_shr (m 43 6) (3 * i)) 7) + 1))))), some (.inl (i + 1)), some (.inl ((d - (am_and (am_shr s (3 * i)) 7)) - 1))]) hM_123 d_123_56 rfl rfl ?_
        refine r_go (pc' := 5) hM_123 d_123_59 (by decide) ?_
        refine rn_wk (a := [some (.inr (.inr (some 43))), some (.inl s), some (.inl d), some (.inl (x + (1 + (am_div ((d - (am_and (am_shr s (3 * i)) 7)) - 1) ((am_and (am_shr (m 43 6) (3 * i)) 7) + 1))))), some (.inl (i + 1)), none]) (by simp only [am_le, and_self]) ?_
        exact hk
      exact H
theorem u_123_0 {Q : List am_V → am_M → Prop} {m : am_M} {s : Int} {d : Int}  (H : ok 0 123 5 [some (.inr (.inr (some 43))), some (.inl s), some (.inl d), some (.inl 0), some (.inl 0), none] [] m Q) : ok 0 123 0 [some (.inr (.inr (some 43))), some (.inl s), some (.inl d), none, none, none] [] m Q := by
  refine ok_sg (pc' := 5) (ls' := [some (.inr (.inr (some 43))), some (.inl s), some (.inl d), some (.inl 0), some (.inl 0), none]) (st' := []) (m' := m) (fun fx hfx o hk => ?_) ?_
  · refine r_k (pc' := 1) (v := .inl 0) hM_123 d_123_0 rfl rfl ?_
    refine r_sto (pc' := 2) (ls' := [some (.inr (.inr (some 43))), some (.inl s), some (.inl d), some (.inl 0), none, none]) hM_123 d_123_1 rfl rfl ?_
    refine r_k (pc' := 3) (v := .inl 0) hM_123 d_123_2 rfl rfl ?_
    refine r_sto (pc' := 5) (ls' := [some (.inr (.inr (some 43))), some (.inl s), some (.inl d), some (.inl 0), some (.inl 0), none]) hM_123 d_123_3 rfl rfl ?_
    exact hk
  exact H
theorem z_123   (m : am_M) (s : Int) (d : Int) (hq : KOK m ∧ (0 ≤ s ∧ s < 32768) ∧ 0 ≤ d ∧ d ≤ 8) : ok 0 123 0 (am_ent 6 [.inr (.inr (some 43)), .inl s, .inl d]) [] m (fun rr m' => rr = [.inl (((kls d.toNat (kfl s.toNat) (kF m) (kn m) : Nat) : Int))] ∧ m' = m) := by
  show ok 0 123 0 [some (.inr (.inr (some 43))), some (.inl s), some (.inl d), none, none, none] [] m _
  obtain ⟨hK, hs, hd⟩ := hq
  obtain ⟨S, rfl⟩ : ∃ S : Nat, s = (S : Int) := ⟨s.toNat, by omega⟩
  obtain ⟨D, rfl⟩ : ∃ D : Nat, d = (D : Int) := ⟨d.toNat, by omega⟩
  simp only [Int.toNat_natCast] at hs ⊢
  obtain ⟨hn1, hn2, hn3⟩ := KOK_n hK
  refine u_123_0 ?_
  refine ok_for (σ := Unit) (fun i _ => [some (.inr (.inr (some 43))), some (.inl (S : Int)), some (.inl (D : Int)), some (.inl ((kls D (kfl S) (kF m) i : Nat) : Int)), some (.inl (i : Int)), none]) (fun _ _ M => M = m) (kn m) ?_ ?_ () m rfl
  · rintro i hi - M hM IH
    rw [hM]
    have hfl := kfl_lt (s := S) (i := i)
    have hFl := kF_lt (m := m) (i := i)
    have hnx : ∀ z : Int, z = ((klp D (kfl S i) (kF m i) : Nat) : Int) → ok 0 123 5 [some (.inr (.inr (some 43))), some (.inl (S : Int)), some (.inl (D : Int)), some (.inl (((kls D (kfl S) (kF m) i : Nat) : Int) + z)), some (.inl ((i : Int) + 1)), none] [] m (fun rr m' => rr = [.inl ((kls D (kfl S) (kF m) (kn m) : Nat) : Int)] ∧ m' = m) := by
      intro z hz
      rw [hz]
      exact IH () m rfl
    refine u_123_5 ?_
    rw [hn1, hn3, am_s_id (z := (i : Int)) (by omega) (by omega), kx_f (by omega) (by omega), KOK_F hK (by omega), am_s_id (z := (D : Int) - ((kfl S i : Nat) : Int) - 1) (by omega) (by omega), am_s_id (z := ((kF m i : Nat) : Int) + 1) (by omega) (by omega)]
    refine ⟨fun q => by omega, fun _ => ⟨fun q => ?_, fun q => ⟨by omega, hnx _ ?_⟩⟩⟩
    · have := hnx 0 (by unfold klp; rw [if_neg (by omega)]; rfl)
      rw [Int.add_zero] at this
      exact this
    · unfold klp
      rw [am_div_nn (by omega) (by omega) (by omega) (by omega), if_pos (by omega), show (D : Int) - ((kfl S i : Nat) : Int) - 1 = ((D - kfl S i - 1 : Nat) : Int) by omega, show ((kF m i : Nat) : Int) + 1 = ((kF m i + 1 : Nat) : Int) by omega, ← Int.natCast_ediv, Int.natCast_add]
      rfl
  · rintro - M hM
    rw [hM]
    refine u_123_5 ?_
    rw [hn1, hn3]
    exact ⟨fun _ => ⟨rfl, rfl⟩, fun q => by omega⟩
