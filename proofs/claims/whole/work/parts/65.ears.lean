/-- the bits of a set at a place and beside it -/
def tri (s p : Nat) : Nat := (2 * s / 2 ^ p) % 8
theorem tri_lt (s p : Nat) : tri s p < 8 := Nat.mod_lt _ (by decide)
theorem tri_bit {s p i : Nat} (hi : i < 3) : (tri s p).testBit i = if 0 < p + i then s.testBit (p + i - 1) else false := by
  unfold tri
  have h8 : (8 : Nat) = 2 ^ 3 := rfl
  rw [h8, Nat.testBit_mod_two_pow, Nat.testBit_div_two_pow, decide_eq_true hi, Bool.true_and]
  by_cases h : 0 < p + i
  · rw [if_pos h, show 2 * s = 2 ^ 1 * s by omega, Nat.testBit_two_pow_mul, decide_eq_true (show i + p ≥ 1 by omega), Bool.true_and, show i + p - 1 = p + i - 1 by omega]
  · rw [if_neg h, show 2 * s = 2 ^ 1 * s by omega, Nat.testBit_two_pow_mul, decide_eq_false (show ¬ i + p ≥ 1 by omega), Bool.false_and]
/-- a triple laid at a place -/
def tlay (t p : Nat) : Nat := t * 2 ^ p / 2
theorem tlay_bit {t p i : Nat} : (tlay t p).testBit i = (decide (p ≤ i + 1) && t.testBit (i + 1 - p)) := by
  unfold tlay
  have h := Nat.testBit_div_two_pow (n := 1) (t * 2 ^ p) i
  rw [Nat.pow_one] at h
  rw [h, Nat.mul_comm, Nat.testBit_two_pow_mul]
theorem tri_hi {s p i : Nat} (hi : 3 ≤ i) : (tri s p).testBit i = false := Nat.testBit_lt_two_pow (Nat.lt_of_lt_of_le (tri_lt s p) (Nat.pow_le_pow_right (by decide : 0 < 2) hi))
theorem hrd_tri {g : Nat → Int} {p s : Nat} : hrd g p (tlay (tri s p) p) = hrd g p s := by
  have b1 : (tlay (tri s p) p).testBit p = s.testBit p := by
    rw [tlay_bit, show p + 1 - p = 1 by omega, tri_bit (by decide), if_pos (by omega)]
    simp
  have b2 : (tlay (tri s p) p).testBit (p + 1) = s.testBit (p + 1) := by
    rw [tlay_bit, show p + 1 + 1 - p = 2 by omega, tri_bit (by decide), if_pos (by omega), show p + 2 - 1 = p + 1 by omega]
    have : decide (p ≤ p + 1 + 1) = true := decide_eq_true (by omega)
    rw [this, Bool.true_and]
  have b0 : 0 < p → (tlay (tri s p) p).testBit (p - 1) = s.testBit (p - 1) := by
    intro h
    rw [tlay_bit, show p - 1 + 1 - p = 0 by omega, tri_bit (by decide), if_pos (by omega), show p + 0 - 1 = p - 1 by omega]
    have : decide (p ≤ p - 1 + 1) = true := decide_eq_true (by omega)
    rw [this, Bool.true_and]
  have hb : bsd (tlay (tri s p) p) p = bsd s p := by
    unfold bsd
    rw [b2]
    by_cases h : 0 < p
    · rw [b0 h]
    · simp [h]
  unfold hrd
  rw [b1, hb]
theorem tlay_lt {t p : Nat} (ht : t < 8) (hp : p < 12) : tlay t p < 16384 := by
  unfold tlay
  have h : t * 2 ^ p ≤ 7 * 2 ^ 11 := Nat.mul_le_mul (by omega) (Nat.pow_le_pow_right (by decide) (by omega))
  have e : 7 * 2 ^ 11 = 14336 := rfl
  omega
theorem am_tri : ∀ p : Nat, p < 12 → ∀ s : Nat, s < 8192 → am_and (am_shr (am_shl (s : Int) 1) (p : Int)) 7 = ((tri s p : Nat) : Int) := by
  intro p hp s hs
  have e1 : am_shl (s : Int) 1 = ((2 * s : Nat) : Int) := by
    have h : nI s <<< (nI 1 &&& 31) = nI (2 * s) := by
      apply Int32.toBitVec_inj.mp
      rw [Int32.toBitVec_shiftLeft]
      apply BitVec.eq_of_toNat_eq
      rw [show ((nI 1 &&& 31).toBitVec.smod 32) = 1#32 by decide +kernel]
      show (BitVec.ofNat 32 s <<< (1#32)).toNat = (BitVec.ofNat 32 (2 * s)).toNat
      rw [show BitVec.ofNat 32 s <<< (1#32) = BitVec.ofNat 32 s <<< 1 from rfl, BitVec.toNat_shiftLeft, BitVec.toNat_ofNat, BitVec.toNat_ofNat, Nat.mod_eq_of_lt (a := s) (by omega), Nat.shiftLeft_eq]
      omega
    rw [am_shl, bx_ofN, show Int32.ofInt 1 = nI 1 from rfl, h]
    exact bx_toI (by omega)
  rw [e1, bx_shr (by omega) (by omega), show (7 : Int) = ((7 : Nat) : Int) from rfl, bx_and (Nat.lt_of_le_of_lt (Nat.div_le_self _ _) (by omega))]
  unfold tri
  rw [show (7 : Nat) = 2 ^ 3 - 1 from rfl, Nat.and_two_pow_sub_one_eq_mod]
theorem am_tlay : ∀ p : Nat, p < 12 → ∀ t : Nat, t < 8 → am_shr (am_shl (t : Int) (p : Int)) 1 = ((tlay t p : Nat) : Int) := by decide +kernel
theorem t_87_0 {fx : am_X0} {o : List am_V × am_S} {m : am_M} {s : Int} {p : Int}  (H : o = ([.inl (am_and (am_shr (am_shl s 1) p) 7)], st0 m)) : rn fx 0 (0, 0) 87 0 [some (.inl s), some (.inl p)] [] (st0 m) o := by
  refine r_ld (pc' := 1) hM_87 d_87_0 rfl rfl ?_
  refine r_k (pc' := 2) (v := .inl 1) hM_87 d_87_1 rfl rfl ?_
  refine r_b (pc' := 3) (z := (am_shl s 1)) hM_87 d_87_2 rfl rfl ?_
  refine r_ld (pc' := 4) hM_87 d_87_3 rfl rfl ?_
  refine r_b (pc' := 5) (z := (am_shr (am_shl s 1) p)) hM_87 d_87_4 rfl rfl ?_
  refine r_k (pc' := 7) (v := .inl 7) hM_87 d_87_5 rfl rfl ?_
  refine r_b (pc' := 8) (z := (am_and (am_shr (am_shl s 1) p) 7)) hM_87 d_87_7 rfl rfl ?_
  subst H
  exact rt_i hM_87 d_87_8 rfl
def v_87 (m : am_M) (s : Int) (p : Int) : Int := (am_and (am_shr (am_shl s 1) p) 7)
/-- HeardBarrels$Ears.tripleOf -/
theorem c_87 {fx : am_X0}   (m : am_M) (s : Int) (p : Int)  : rn fx 0 (0, 0) 87 0 (am_ent 2 [.inl s, .inl p]) [] (st0 m) ([.inl (v_87 m s p)], st0 m) := by
  show rn fx 0 (0, 0) 87 0 [some (.inl s), some (.inl p)] [] (st0 m) _
  refine t_87_0  ?_
  simp only [v_87]
theorem t_88_0 {fx : am_X0} {o : List am_V × am_S} {m : am_M} {s : Int}  (H : o = ([.inl (am_and (s - (m 34 9)) (m 34 9))], st0 m)) : rn fx 0 (0, 0) 88 0 [some (.inr (.inr (some 34))), some (.inl s)] [] (st0 m) o := by
  refine r_ld (pc' := 1) hM_88 d_88_0 rfl rfl ?_
  refine r_ld (pc' := 2) hM_88 d_88_1 rfl rfl ?_
  refine r_gI (pc' := 5) (k0 := 9) hM_88 d_88_2 rfl (by decide +kernel) ?_
  refine r_b (pc' := 6) (z := (s - (m 34 9))) hM_88 d_88_5 rfl rfl ?_
  refine r_ld (pc' := 7) hM_88 d_88_6 rfl rfl ?_
  refine r_gI (pc' := 10) (k0 := 9) hM_88 d_88_7 rfl (by decide +kernel) ?_
  refine r_b (pc' := 11) (z := (am_and (s - (m 34 9)) (m 34 9))) hM_88 d_88_10 rfl rfl ?_
  subst H
  exact rt_i hM_88 d_88_11 rfl
def v_88 (m : am_M) (s : Int) : Int := (am_and (s - (m 34 9)) (m 34 9))
/-- HeardBarrels$Ears.following -/
theorem c_88 {fx : am_X0}   (m : am_M) (s : Int)  : rn fx 0 (0, 0) 88 0 (am_ent 2 [.inr (.inr (some 34)), .inl s]) [] (st0 m) ([.inl (v_88 m s)], st0 m) := by
  show rn fx 0 (0, 0) 88 0 [some (.inr (.inr (some 34))), some (.inl s)] [] (st0 m) _
  refine t_88_0  ?_
  simp only [v_88]
theorem u_83_39 {Q : List am_V → am_M → Prop} {m : am_M} {p : Int} {t : Int}  (H : ((8 ≤ am_s t) → ok 3 83 26 [some (.inr (.inr (some 34))), some (.inl (p + 1)), none] [] m Q) ∧ ((¬ (8 ≤ am_s t)) → (WFG (vw m 2) ∧ (0 ≤ p ∧ p < 12) ∧ 0 ≤ (am_shr (am_shl t p) 1) ∧ (am_shr (am_shl t p) 1) < 2147483648) ∧ ((0 ≤ am_s ((p * 8) + t) ∧ am_s ((p * 8) + t) < (96 : Nat)) ∧ (ok 3 83 39 [some (.inr (.inr (some 34))), some (.inl p), some (.inl (t + 1))] [] (mu m 35 ((am_s ((p * 8) + t)).toNat) ((if p < m 2 4 ∧ nv (vw m 2) (8 + p.toNat) ≠ 3 then hrd (nv (vw m 2)) p.toNat (am_shr (am_shl t p) 1).toNat else (-1000)))) Q)))) : ok 3 83 39 [some (.inr (.inr (some 34))), some (.inl p), some (.inl t)] [] m Q := by
  refine ok_sg (pc' := 42) (ls' := [some (.inr (.inr (some 34))), some (.inl p), some (.inl t)]) (st' := [.inl 8, .inl t]) (m' := m) (fun fx hfx o hk => ?_) ?_
  · refine r_ld (pc' := 40) hM_83 d_83_39 rfl rfl ?_
    refine r_k (pc' := 42) (v := .inl 8) hM_83 d_83_40 rfl rfl ?_
    exact hk
  refine ok_ic (pc' := 75) (pc2 := 45) hM_83 d_83_42 (by decide) rfl (fun hz1 => ?_) (fun hz1 => ?_)
  · have H := H.1 hz1
    refine ok_sg (pc' := 26) (ls' := [some (.inr (.inr (some 34))), some (.inl (p + 1)), none]) (st' := []) (m' := m) (fun fx hfx o hk => ?_) ?_
    · refine r_sto (pc' := 78) (ls' := [some (.inr (.inr (some 34))), some (.inl (p + 1)), some (.inl t)]) hM_83 d_83_75 rfl rfl ?_
      refine r_go (pc' := 26) hM_83 d_83_78 (by decide) ?_
      refine rn_wk (a := [some (.inr (.inr (some 34))), some (.inl (p + 1)), none]) (by simp only [am_le, and_self]) ?_
      exact hk
    exact H
  · have H := H.2 hz1
    obtain ⟨hz2, H⟩ := H
    obtain ⟨hz3, H⟩ := H
    refine ok_sg (pc' := 39) (ls' := [some (.inr (.inr (some 34))), some (.inl p), some (.inl (t + 1))]) (st' := []) (m' := mu m 35 ((am_s ((p * 8) + t)).toNat) ((if p < m 2 4 ∧ nv (vw m 2) (8 + p.toNat) ≠ 3 then hrd (nv (vw m 2)) p.toNat (am_shr (am_shl t p) 1).toNat else (-1000)))) (fun fx hfx o hk => ?_) ?_
    · refine r_ld (pc' := 46) hM_83 d_83_45 rfl rfl ?_
      refine r_gR (pc' := 49) (v := 35) hM_83 d_83_46 rfl (by decide +kernel) ?_
      refine r_ld (pc' := 50) hM_83 d_83_49 rfl rfl ?_
      refine r_k (pc' := 52) (v := .inl 8) hM_83 d_83_50 rfl rfl ?_
      refine r_b (pc' := 53) (z := (p * 8)) hM_83 d_83_52 rfl rfl ?_
      refine r_ld (pc' := 54) hM_83 d_83_53 rfl rfl ?_
      refine r_b (pc' := 55) (z := ((p * 8) + t)) hM_83 d_83_54 rfl rfl ?_
      refine r_ld (pc' := 56) hM_83 d_83_55 rfl rfl ?_
      refine r_gR (pc' := 59) (v := 2) hM_83 d_83_56 rfl (by decide +kernel) ?_
      refine r_ld (pc' := 60) hM_83 d_83_59 rfl rfl ?_
      refine r_ld (pc' := 61) hM_83 d_83_60 rfl rfl ?_
      refine r_ld (pc' := 62) hM_83 d_83_61 rfl rfl ?_
      refine r_b (pc' := 63) (z := (am_shl t p)) hM_83 d_83_62 rfl rfl ?_
      refine r_k (pc' := 64) (v := .inl 1) hM_83 d_83_63 rfl rfl ?_
      refine r_b (pc' := 65) (z := (am_shr (am_shl t p) 1)) hM_83 d_83_64 rfl rfl ?_
      refine r_cl (pc' := 68) (c := (71, 0)) (a := [.inr (.inr (some 2)), .inl p, .inl (am_shr (am_shl t p) 1)]) (q := [.inl ((p * 8) + t), .inr (.inr (some 35))]) hM_83 d_83_65 rfl (by decide +kernel) hM_71 rfl rfl rfl (Nat.le_of_ble_eq_true rfl) (Nat.le_of_ble_eq_true rfl) (Or.inr rfl) (n_71 (by decide) m p (am_shr (am_shl t p) 1) hz2) (Nat.le_of_ble_eq_true rfl) ?_
      show rn fx 3 (0, 0) 83 68 [some (.inr (.inr (some 34))), some (.inl p), some (.inl t)] [.inl ((if p < m 2 4 ∧ nv (vw m 2) (8 + p.toNat) ≠ 3 then hrd (nv (vw m 2)) p.toNat (am_shr (am_shl t p) 1).toNat else (-1000))), .inl ((p * 8) + t), .inr (.inr (some 35))] (st0 m) o
      refine r_is (pc' := 69) (n := 96) hM_83 d_83_68 rfl rfl hz3 ?_
      refine r_sto (pc' := 72) (ls' := [some (.inr (.inr (some 34))), some (.inl p), some (.inl (t + 1))]) hM_83 d_83_69 rfl rfl ?_
      refine r_go (pc' := 39) hM_83 d_83_72 (by decide) ?_
      exact hk
    exact H
theorem u_83_26 {Q : List am_V → am_M → Prop} {m : am_M} {p : Int}  (H : ((am_s (m 2 4) ≤ am_s p) → Q [] m) ∧ ((¬ (am_s (m 2 4) ≤ am_s p)) → ok 3 83 39 [some (.inr (.inr (some 34))), some (.inl p), some (.inl 0)] [] m Q)) : ok 3 83 26 [some (.inr (.inr (some 34))), some (.inl p), none] [] m Q := by
  refine ok_sg (pc' := 34) (ls' := [some (.inr (.inr (some 34))), some (.inl p), none]) (st' := [.inl (m 2 4), .inl p]) (m' := m) (fun fx hfx o hk => ?_) ?_
  · refine r_ld (pc' := 27) hM_83 d_83_26 rfl rfl ?_
    refine r_ld (pc' := 28) hM_83 d_83_27 rfl rfl ?_
    refine r_gR (pc' := 31) (v := 2) hM_83 d_83_28 rfl (by decide +kernel) ?_
    refine r_gI (pc' := 34) (k0 := 4) hM_83 d_83_31 rfl (by decide +kernel) ?_
    exact hk
  refine ok_ic (pc' := 81) (pc2 := 37) hM_83 d_83_34 (by decide) rfl (fun hz1 => ?_) (fun hz1 => ?_)
  · have H := H.1 hz1
    exact ok_rt (fun fx _ => rt_v hM_83 d_83_81 rfl) H
  · have H := H.2 hz1
    refine ok_sg (pc' := 39) (ls' := [some (.inr (.inr (some 34))), some (.inl p), some (.inl 0)]) (st' := []) (m' := m) (fun fx hfx o hk => ?_) ?_
    · refine r_k (pc' := 38) (v := .inl 0) hM_83 d_83_37 rfl rfl ?_
      refine r_sto (pc' := 39) (ls' := [some (.inr (.inr (some 34))), some (.inl p), some (.inl 0)]) hM_83 d_83_38 rfl rfl ?_
      exact hk
    exact H
theorem u_83_0 {Q : List am_V → am_M → Prop} {m : am_M}   (H : (WFG (vw m 2)) ∧ ((0 ≤ (((may (nv (vw m 2)) : Nat) : Int)) ∧ (((may (nv (vw m 2)) : Nat) : Int)) < 4096) ∧ (ok 3 83 26 [some (.inr (.inr (some 34))), some (.inl 0), none] [] (mu (mu m 34 9 (((may (nv (vw m 2)) : Nat) : Int))) 34 10 (am_shl 1 (((cnt (((may (nv (vw m 2)) : Nat) : Int)).toNat 12 : Nat) : Int)))) Q))) : ok 3 83 0 [some (.inr (.inr (some 34))), none, none] [] m Q := by
  obtain ⟨hz1, H⟩ := H
  obtain ⟨hz2, H⟩ := H
  refine ok_sg (pc' := 26) (ls' := [some (.inr (.inr (some 34))), some (.inl 0), none]) (st' := []) (m' := mu (mu m 34 9 (((may (nv (vw m 2)) : Nat) : Int))) 34 10 (am_shl 1 (((cnt (((may (nv (vw m 2)) : Nat) : Int)).toNat 12 : Nat) : Int)))) (fun fx hfx o hk => ?_) ?_
  · refine r_ld (pc' := 1) hM_83 d_83_0 rfl rfl ?_
    refine r_ld (pc' := 2) hM_83 d_83_1 rfl rfl ?_
    refine r_gR (pc' := 5) (v := 2) hM_83 d_83_2 rfl (by decide +kernel) ?_
    refine r_cl (pc' := 8) (c := (78, 0)) (a := [.inr (.inr (some 2))]) (q := [.inr (.inr (some 34))]) hM_83 d_83_5 rfl (by decide +kernel) hM_78 rfl rfl rfl (Nat.le_of_ble_eq_true rfl) (Nat.le_of_ble_eq_true rfl) (Or.inr rfl) (n_78 (by decide) m  hz1) (Nat.le_of_ble_eq_true rfl) ?_
    show rn fx 3 (0, 0) 83 8 [some (.inr (.inr (some 34))), none, none] [.inl (((may (nv (vw m 2)) : Nat) : Int)), .inr (.inr (some 34))] (st0 m) o
    refine r_pI (pc' := 11) (k0 := 9) hM_83 d_83_8 rfl (by decide +kernel) ?_
    refine r_ld (pc' := 12) hM_83 d_83_11 rfl rfl ?_
    refine r_k (pc' := 13) (v := .inl 1) hM_83 d_83_12 rfl rfl ?_
    refine r_ld (pc' := 14) hM_83 d_83_13 rfl rfl ?_
    refine r_gIe (pc' := 17) (k0 := 9) (z := (((may (nv (vw m 2)) : Nat) : Int))) hM_83 d_83_14 rfl (by decide +kernel) (mu_same) ?_
    refine r_cl (pc' := 20) (c := (72, 2)) (a := [.inl (((may (nv (vw m 2)) : Nat) : Int))]) (q := [.inl 1, .inr (.inr (some 34))]) hM_83 d_83_17 rfl (by decide +kernel) hM_72 rfl rfl rfl (Nat.le_of_ble_eq_true rfl) (Nat.le_of_ble_eq_true rfl) (Or.inl rfl) (n_72  (mu m 34 9 (((may (nv (vw m 2)) : Nat) : Int))) (((may (nv (vw m 2)) : Nat) : Int)) hz2) (Nat.le_of_ble_eq_true rfl) ?_
    show rn fx 3 (0, 0) 83 20 [some (.inr (.inr (some 34))), none, none] [.inl (((cnt (((may (nv (vw m 2)) : Nat) : Int)).toNat 12 : Nat) : Int)), .inl 1, .inr (.inr (some 34))] (st0 (mu m 34 9 (((may (nv (vw m 2)) : Nat) : Int)))) o
    refine r_b (pc' := 21) (z := (am_shl 1 (((cnt (((may (nv (vw m 2)) : Nat) : Int)).toNat 12 : Nat) : Int)))) hM_83 d_83_20 rfl rfl ?_
    refine r_pI (pc' := 24) (k0 := 10) hM_83 d_83_21 rfl (by decide +kernel) ?_
    refine r_k (pc' := 25) (v := .inl 0) hM_83 d_83_24 rfl rfl ?_
    refine r_sto (pc' := 26) (ls' := [some (.inr (.inr (some 34))), some (.inl 0), none]) hM_83 d_83_25 rfl rfl ?_
    exact hk
  exact H
