theorem n_48 {fx : am_X0} {s : Nat} (hs : s ∈ shL) (m : am_M) (w : Int) (hq : WFG (vw m s)) : rn fx 0 (0, 0) 48 0 (am_ent 4 [.inr (.inr (some s)), .inl w]) [] (st0 m) ([.inl ((ons (nv (vw m s)) (am_s w) : Nat) : Int)], st0 m) := by
  have h := c_48 (fx := fx) hs m w (WFS_vw.mpr hq)
  have e : msk (m (s + 1)) (am_s w) (m s 4).toNat = ons (nv (vw m s)) (am_s w) := by
    rw [ons_nv hq.1.2]
    unfold ons
    have := hq.1
    refine msk_congr _ fun p hp => ?_
    rw [vw_0] at this
    rw [vw_K (by omega)]
  rw [e] at h
  exact h
theorem vwN {m : am_M} {s : Nat} (h : WFG (vw m s)) : 0 ≤ m s 4 ∧ m s 4 ≤ 12 := h.1
theorem vwK {m : am_M} {s p : Nat} (h : WFG (vw m s)) (hp : p < 12) : 0 ≤ m (s + 1) p ∧ m (s + 1) p ≤ 3 := by
  have := h.2.1 p hp
  rw [vw_K hp] at this
  exact this
theorem nvK {m : am_M} {s p : Nat} (hp : p < 12) (h : (p : Int) < m s 4) : nv (vw m s) (8 + p) = m (s + 1) p := by rw [nv_pl (by omega) hp h, vw_K hp]
theorem nvS {m : am_M} {s p : Nat} (hp : p < 12) (h : (p : Int) < m s 4) : nv (vw m s) (20 + p) = m (s + 2) p := by rw [nv_pl (by omega) hp h, vw_S hp]
theorem nvR {m : am_M} {s p : Nat} (hp : p < 12) (h : (p : Int) < m s 4) : nv (vw m s) (32 + p) = m (s + 3) p := by rw [nv_pl (by omega) hp h, vw_R hp]
theorem nvI {m : am_M} {s p : Nat} (hp : p < 12) (h : (p : Int) < m s 4) : nv (vw m s) (44 + p) = m (s + 4) p := by rw [nv_pl (by omega) hp h, vw_I]
theorem v_40_ok {s : Nat} (hs : s ∈ shL) (m : am_M) (p : Int) (hq : WFG (vw m s)) : v_40 m s p = (if 0 ≤ am_s p ∧ am_s p < m s 4 then 1 else 0) := by
  have hN := vwN hq
  unfold v_40
  rw [am_s_id (z := m s 4) (by omega) (by omega)]
  split
  · rw [if_neg (by omega)]
  · split
    · rw [if_neg (by omega)]
    · rw [if_pos (by omega)]
theorem n_40 {fx : am_X0} {s : Nat} (hs : s ∈ shL) (m : am_M) (p : Int) (hq : WFG (vw m s)) : rn fx 0 (0, 0) 40 0 (am_ent 2 [.inr (.inr (some s)), .inl p]) [] (st0 m) ([.inl ((if 0 ≤ am_s p ∧ am_s p < m s 4 then 1 else 0))], st0 m) := by
  have h := c_40 (fx := fx) hs m p 
  rw [v_40_ok hs m p hq] at h
  exact h
theorem q_68_ok {s : Nat} (hs : s ∈ shL) (m : am_M) (p : Int) (hq : WFG (vw m s)) : q_68 m s p := by
  have hN := vwN hq
  unfold q_68
  rw [v_40_ok hs m p hq, as_ite]
  intro h
  omega
theorem v_68_ok {s : Nat} (hs : s ∈ shL) (m : am_M) (p : Int) (hq : WFG (vw m s)) : v_68 m s p = (if (0 ≤ am_s p ∧ am_s p < m s 4) ∧ nv (vw m s) (8 + (am_s p).toNat) ≠ 3 then 1 else 0) := by
  have hN := vwN hq
  unfold v_68
  simp only [v_40_ok hs m p hq, as_ite]
  by_cases h : 0 ≤ am_s p ∧ am_s p < m s 4
  · have hk := vwK (p := (am_s p).toNat) hq (by omega)
    rw [if_neg (not_not_intro h), nvK (by omega) (by omega), am_s_id (z := m (s + 1) _) (by omega) (by omega), show am_s 3 = 3 from rfl]
    by_cases h2 : m (s + 1) (am_s p).toNat = 3
    · rw [if_pos h2, if_neg (fun q => q.2 h2)]
    · rw [if_neg h2, if_pos ⟨h, h2⟩]
  · rw [if_pos h, if_neg (fun q => h q.1)]
theorem q_73_ok {s : Nat} (hs : s ∈ shL) (m : am_M) (p : Int) (hq : WFG (vw m s)) : q_73 m s p := q_68_ok hs m p hq
theorem v_73_ok {s : Nat} (hs : s ∈ shL) (m : am_M) (p : Int) (hq : WFG (vw m s)) : v_73 m s p = (if (0 ≤ am_s p ∧ am_s p < m s 4) ∧ nv (vw m s) (8 + (am_s p).toNat) = 3 then 1 else 0) := by
  have hN := vwN hq
  unfold v_73
  simp only [v_40_ok hs m p hq, as_ite]
  by_cases h : 0 ≤ am_s p ∧ am_s p < m s 4
  · have hk := vwK (p := (am_s p).toNat) hq (by omega)
    rw [if_neg (not_not_intro h), nvK (by omega) (by omega), am_s_id (z := m (s + 1) _) (by omega) (by omega), show am_s 3 = 3 from rfl]
    by_cases h2 : m (s + 1) (am_s p).toNat = 3
    · rw [if_neg (not_not_intro h2), if_pos ⟨h, h2⟩]
    · rw [if_pos h2, if_neg (fun q => h2 q.2)]
  · rw [if_pos h, if_neg (fun q => h q.1)]
theorem q_69_ok {s : Nat} (hs : s ∈ shL) (m : am_M) (p b : Int) (hq : WFG (vw m s) ∧ 0 ≤ p ∧ p < m s 4) : q_69 m s p b := by
  have hN := vwN hq.1
  unfold q_69
  rw [am_s_id (by omega) (by omega)]
  omega
theorem v_69_ok {s : Nat} (hs : s ∈ shL) (m : am_M) (p b : Int) (hq : WFG (vw m s) ∧ 0 ≤ p ∧ p < m s 4) : v_69 m s p b = tn (nv (vw m s)) p.toNat (decide (am_s b ≠ 0)) := by
  obtain ⟨hw, hp⟩ := hq
  have hN := vwN hw
  obtain ⟨i, rfl⟩ : ∃ i : Nat, p = (i : Int) := ⟨p.toNat, by omega⟩
  have hk := vwK (p := i) hw (by omega)
  have hr := hw.2.2.2.1 i (by omega)
  rw [vw_R (by omega)] at hr
  rw [Int.toNat_natCast]
  unfold v_69 tn
  rw [nvK (by omega) (by omega), nvS (by omega) (by omega), nvR (by omega) (by omega), nv_lo (k := 2) (by decide), vw_2]
  simp (disch := omega) only [am_s_id, Int.toNat_natCast, div2 hr, ite_n]
  congr 2
  by_cases h : am_s b = 0 <;> simp [h]
theorem vg_md (g : Nat → Int) (p : Nat) (c : Prop) [Decidable c] : decide (am_s (if ¬ c then 0 else 1) ≠ 0) = decide c := by
  by_cases h : c
  · rw [if_neg (not_not_intro h)]; simp only [h]; decide
  · rw [if_pos h]; simp only [h]; decide
theorem n_68 {fx : am_X0} {s : Nat} (hs : s ∈ shL) (m : am_M) (p : Int) (hq : WFG (vw m s)) : rn fx 1 (0, 0) 68 0 (am_ent 2 [.inr (.inr (some s)), .inl p]) [] (st0 m) ([.inl ((if (0 ≤ am_s p ∧ am_s p < m s 4) ∧ nv (vw m s) (8 + (am_s p).toNat) ≠ 3 then 1 else 0))], st0 m) := by
  have h := c_68 (fx := fx) hs m p (q_68_ok hs m p hq)
  rw [v_68_ok hs m p hq] at h
  exact h
theorem n_73 {fx : am_X0} {s : Nat} (hs : s ∈ shL) (m : am_M) (p : Int) (hq : WFG (vw m s)) : rn fx 1 (0, 0) 73 0 (am_ent 2 [.inr (.inr (some s)), .inl p]) [] (st0 m) ([.inl ((if (0 ≤ am_s p ∧ am_s p < m s 4) ∧ nv (vw m s) (8 + (am_s p).toNat) = 3 then 1 else 0))], st0 m) := by
  have h := c_73 (fx := fx) hs m p (q_73_ok hs m p hq)
  rw [v_73_ok hs m p hq] at h
  exact h
theorem n_69 {fx : am_X0} {s : Nat} (hs : s ∈ shL) (m : am_M) (p : Int) (b : Int) (hq : WFG (vw m s) ∧ 0 ≤ p ∧ p < m s 4) : rn fx 0 (0, 0) 69 0 (am_ent 3 [.inr (.inr (some s)), .inl p, .inl b]) [] (st0 m) ([.inl ((tn (nv (vw m s)) p.toNat (decide (am_s b ≠ 0))))], st0 m) := by
  have h := c_69 (fx := fx) hs m p b (q_69_ok hs m p b hq)
  rw [v_69_ok hs m p b hq] at h
  exact h
theorem q_67_ok {s : Nat} (hs : s ∈ shL) (m : am_M) (p : Int) (hq : WFG (vw m s) ∧ 0 ≤ p ∧ p < m s 4) : q_67 m s p := by
  have hN := vwN hq.1
  unfold q_67
  refine ⟨q_68_ok hs m p hq.1, fun _ => ⟨?_, q_69_ok hs m _ _ hq⟩⟩
  rw [am_s_id (by omega) (by omega)]
  omega
theorem v_67_ok {s : Nat} (hs : s ∈ shL) (m : am_M) (p : Int) (hq : WFG (vw m s) ∧ 0 ≤ p ∧ p < m s 4) : v_67 m s p = (if nv (vw m s) (8 + p.toNat) = 3 then 0 else tn (nv (vw m s)) p.toNat (decide (nv (vw m s) (8 + p.toNat) = 1))) := by
  have hN := vwN hq.1
  have hp := hq.2
  unfold v_67
  have hk := vwK (p := p.toNat) hq.1 (by omega)
  rw [v_68_ok hs m p hq.1, v_69_ok hs m p _ hq]
  simp (disch := omega) only [am_s_id (z := p), as_ite]
  rw [vg_md (vw m s) 0, nvK (by omega) (by omega), am_s_id (by omega) (by omega), show am_s 1 = 1 from rfl]
  by_cases h2 : m (s + 1) p.toNat = 3
  · rw [if_pos (fun q => q.2 h2), if_pos h2]
  · rw [if_neg (fun q => q ⟨by omega, h2⟩), if_neg h2]
theorem n_67 {fx : am_X0} {s : Nat} (hs : s ∈ shL) (m : am_M) (p : Int) (hq : WFG (vw m s) ∧ 0 ≤ p ∧ p < m s 4) : rn fx 2 (0, 0) 67 0 (am_ent 2 [.inr (.inr (some s)), .inl p]) [] (st0 m) ([.inl ((if nv (vw m s) (8 + p.toNat) = 3 then 0 else tn (nv (vw m s)) p.toNat (decide (nv (vw m s) (8 + p.toNat) = 1))))], st0 m) := by
  have h := c_67 (fx := fx) hs m p (q_67_ok hs m p hq)
  rw [v_67_ok hs m p hq] at h
  exact h
theorem t_47_0 {fx : am_X0} {o : List am_V × am_S} {m : am_M} {s : Nat} (hs : s ∈ shL) (H : (WFG (vw m s)) ∧ (o = ([.inl (am_and ((am_shl 1 (m s 4)) - 1) (am_xor (((ons (nv (vw m s)) (am_s 3) : Nat) : Int)) (-1)))], st0 m))) : rn fx 1 (0, 0) 47 0 [some (.inr (.inr (some s)))] [] (st0 m) o := by
  refine r_k (pc' := 1) (v := .inl 1) hM_47 d_47_0 rfl rfl ?_
  refine r_ld (pc' := 2) hM_47 d_47_1 rfl rfl ?_
  refine r_gI (pc' := 5) (k0 := 4) hM_47 d_47_2 rfl (gfS_8_27 hs) ?_
  refine r_b (pc' := 6) (z := (am_shl 1 (m s 4))) hM_47 d_47_5 rfl rfl ?_
  refine r_k (pc' := 7) (v := .inl 1) hM_47 d_47_6 rfl rfl ?_
  refine r_b (pc' := 8) (z := ((am_shl 1 (m s 4)) - 1)) hM_47 d_47_7 rfl rfl ?_
  refine r_ld (pc' := 9) hM_47 d_47_8 rfl rfl ?_
  refine r_k (pc' := 10) (v := .inl 3) hM_47 d_47_9 rfl rfl ?_
  obtain ⟨hz1, H⟩ := H
  refine r_cl (pc' := 13) (c := (48, 0)) (a := [.inr (.inr (some s)), .inl 3]) (q := [.inl ((am_shl 1 (m s 4)) - 1)]) hM_47 d_47_10 rfl (by decide +kernel) hM_48 rfl rfl rfl (Nat.le_of_ble_eq_true rfl) (Nat.le_of_ble_eq_true rfl) (Or.inr (rcvS hs _)) (n_48 hs m 3 hz1) (Nat.le_of_ble_eq_true rfl) ?_
  show rn fx 1 (0, 0) 47 13 [some (.inr (.inr (some s)))] [.inl (((ons (nv (vw m s)) (am_s 3) : Nat) : Int)), .inl ((am_shl 1 (m s 4)) - 1)] (st0 m) o
  refine r_k (pc' := 14) (v := .inl (-1)) hM_47 d_47_13 rfl rfl ?_
  refine r_b (pc' := 15) (z := (am_xor (((ons (nv (vw m s)) (am_s 3) : Nat) : Int)) (-1))) hM_47 d_47_14 rfl rfl ?_
  refine r_b (pc' := 16) (z := (am_and ((am_shl 1 (m s 4)) - 1) (am_xor (((ons (nv (vw m s)) (am_s 3) : Nat) : Int)) (-1)))) hM_47 d_47_15 rfl rfl ?_
  subst H
  exact rt_i hM_47 d_47_16 rfl
def v_47 (m : am_M) (s : Nat) : Int := (am_and ((am_shl 1 (m s 4)) - 1) (am_xor (((ons (nv (vw m s)) (am_s 3) : Nat) : Int)) (-1)))
def q_47 (m : am_M) (s : Nat) : Prop := (WFG (vw m s))
/-- HeardBarrels$Shelf.barrelPlaces -/
theorem c_47 {fx : am_X0} {s : Nat} (hs : s ∈ shL) (m : am_M)  (hq : q_47 m s) : rn fx 1 (0, 0) 47 0 (am_ent 1 [.inr (.inr (some s))]) [] (st0 m) ([.inl (v_47 m s)], st0 m) := by
  unfold q_47 at hq
  show rn fx 1 (0, 0) 47 0 [some (.inr (.inr (some s)))] [] (st0 m) _
  refine t_47_0 hs ?_
  have hb0_0 := hq
  refine ⟨hb0_0, ?_⟩
  simp only [v_47]
theorem shl_pow {m : am_M} {s : Nat} (h : WFG (vw m s)) : am_shl 1 (m s 4) = ((2 ^ (m s 4).toNat : Nat) : Int) := by
  have hN := vwN h
  have e : m s 4 = (((m s 4).toNat : Nat) : Int) := by omega
  rw [e, bx_shl1 _ (by omega), Int.toNat_natCast]
theorem pow12 {z : Int} (h : z ≤ 12) : 1 ≤ 2 ^ z.toNat ∧ 2 ^ z.toNat ≤ 4096 := by
  have h2 : 2 ^ z.toNat ≤ 2 ^ 12 := Nat.pow_le_pow_right (by decide) (by omega)
  have h3 := Nat.two_pow_pos z.toNat
  omega
/-- a set of places -/
theorem lt_sub {a n : Nat} : a &&& (2 ^ n - 1) = a ↔ a < 2 ^ n := by
  rw [Nat.and_two_pow_sub_one_eq_mod]
  constructor
  · intro h
    rw [← h]
    exact Nat.mod_lt _ (Nat.two_pow_pos n)
  · exact Nat.mod_eq_of_lt
theorem v_63_ok {s : Nat} (hs : s ∈ shL) (m : am_M) (b : Int) (hq : WFG (vw m s)) : v_63 m s b = (if 0 ≤ am_s b ∧ (am_s b).toNat < 2 ^ (m s 4).toNat then 1 else 0) := by
  have hN := vwN hq
  have hp := pow12 hN.2
  unfold v_63
  rw [shl_pow hq, show ((2 ^ (m s 4).toNat : Nat) : Int) - 1 = ((2 ^ (m s 4).toNat - 1 : Nat) : Int) by omega]
  simp only [bx_sub (z := b) (b := 2 ^ (m s 4).toNat - 1) (by omega), lt_sub, ite_n]
theorem tb_hi {a i n : Nat} (h : a < 2 ^ n) (hi : n ≤ i) : a.testBit i = false := Nat.testBit_lt_two_pow (Nat.lt_of_lt_of_le h (Nat.pow_le_pow_right (by decide : 0 < 2) hi))
/-- one set without another -/
def sdf (a b : Nat) : Nat := a &&& (b ^^^ (2 ^ 31 - 1))
theorem sdf_bit {a b i : Nat} (ha : a < 2147483648) : (sdf a b).testBit i = (a.testBit i && !b.testBit i) := by
  unfold sdf
  rw [Nat.testBit_and, Nat.testBit_xor, Nat.testBit_two_pow_sub_one]
  by_cases hi : i < 31
  · simp only [hi, decide_true]; cases a.testBit i <;> cases b.testBit i <;> rfl
  · rw [tb_hi (n := 31) ha (by omega)]; rfl
theorem sdf_le {a b : Nat} : sdf a b ≤ a := Nat.and_le_left
theorem bx_andn {a b : Nat} (ha : a < 2147483648) : am_and (a : Int) (am_xor (b : Int) (-1)) = ((sdf a b : Nat) : Int) := by
  have h1 : Int32.ofInt (am_xor (b : Int) (-1)) = nI b ^^^ (-1) := by
    unfold am_xor
    rw [Int32.ofInt_toInt]
    rfl
  have h2 : nI a &&& (nI b ^^^ (-1)) = nI (sdf a b) := by
    apply Int32.toBitVec_inj.mp
    show BitVec.ofNat 32 a &&& (BitVec.ofNat 32 b ^^^ (-1#32)) = BitVec.ofNat 32 (sdf a b)
    apply BitVec.eq_of_getLsbD_eq
    intro i hi
    have hm : ∀ i, i < 32 → (-1#32).getLsbD i = true := by decide +kernel
    rw [BitVec.getLsbD_and, BitVec.getLsbD_xor, BitVec.getLsbD_ofNat, BitVec.getLsbD_ofNat, BitVec.getLsbD_ofNat, hm i hi, sdf_bit ha]
    simp only [hi, decide_true, Bool.true_and]
    cases a.testBit i <;> cases b.testBit i <;> rfl
  rw [am_and, h1, bx_ofN, h2]
  have := sdf_le (a := a) (b := b)
  exact bx_toI (by omega)
theorem q_47_ok {s : Nat} (hs : s ∈ shL) (m : am_M) (hq : WFG (vw m s)) : q_47 m s := hq
theorem v_47_ok {s : Nat} (hs : s ∈ shL) (m : am_M) (hq : WFG (vw m s)) : v_47 m s = ((brl (nv (vw m s)) : Nat) : Int) := by
  have hN := vwN hq
  have hp := pow12 hN.2
  have hw := WFG_nv hq
  unfold v_47
  rw [shl_pow hq, show ((2 ^ (m s 4).toNat : Nat) : Int) - 1 = ((2 ^ (m s 4).toNat - 1 : Nat) : Int) by omega, bx_andn (by omega), show am_s 3 = 3 from rfl]
  congr 1
  apply Nat.eq_of_testBit_eq
  intro i
  rw [sdf_bit (by omega), Nat.testBit_two_pow_sub_one, ons_bit, Bool.eq_iff_iff, brl_bit hw, nv0, vw_0]
  simp only [Bool.and_eq_true, decide_eq_true_eq, Bool.not_eq_true', Bool.and_eq_false_iff, decide_eq_false_iff_not]
  omega
theorem n_47 {fx : am_X0} {s : Nat} (hs : s ∈ shL) (m : am_M)  (hq : WFG (vw m s)) : rn fx 1 (0, 0) 47 0 (am_ent 1 [.inr (.inr (some s))]) [] (st0 m) ([.inl (((brl (nv (vw m s)) : Nat) : Int))], st0 m) := by
  have h := c_47 (fx := fx) hs m  (q_47_ok hs m  hq)
  rw [v_47_ok hs m  hq] at h
  exact h
theorem n_63 {fx : am_X0} {s : Nat} (hs : s ∈ shL) (m : am_M) (b : Int) (hq : WFG (vw m s)) : rn fx 0 (0, 0) 63 0 (am_ent 2 [.inr (.inr (some s)), .inl b]) [] (st0 m) ([.inl ((if 0 ≤ am_s b ∧ (am_s b).toNat < 2 ^ (m s 4).toNat then 1 else 0))], st0 m) := by
  have h := c_63 (fx := fx) hs m b 
  rw [v_63_ok hs m b hq] at h
  exact h
theorem t_78_0 {fx : am_X0} {o : List am_V × am_S} {m : am_M} {s : Nat} (hs : s ∈ shL) (H : (WFG (vw m s)) ∧ (o = ([.inl (am_and (((brl (nv (vw m s)) : Nat) : Int)) (am_xor (((ons (nv (vw m s)) (am_s 2) : Nat) : Int)) (-1)))], st0 m))) : rn fx 2 (0, 0) 78 0 [some (.inr (.inr (some s)))] [] (st0 m) o := by
  refine r_ld (pc' := 1) hM_78 d_78_0 rfl rfl ?_
  obtain ⟨hz1, H⟩ := H
  refine r_cl (pc' := 4) (c := (47, 0)) (a := [.inr (.inr (some s))]) (q := []) hM_78 d_78_1 rfl (by decide +kernel) hM_47 rfl rfl rfl (Nat.le_of_ble_eq_true rfl) (Nat.le_of_ble_eq_true rfl) (Or.inr (rcvS hs _)) (n_47 hs m  hz1) (Nat.le_of_ble_eq_true rfl) ?_
  show rn fx 2 (0, 0) 78 4 [some (.inr (.inr (some s)))] [.inl (((brl (nv (vw m s)) : Nat) : Int))] (st0 m) o
  refine r_ld (pc' := 5) hM_78 d_78_4 rfl rfl ?_
  refine r_k (pc' := 6) (v := .inl 2) hM_78 d_78_5 rfl rfl ?_
  refine r_cl (pc' := 9) (c := (48, 0)) (a := [.inr (.inr (some s)), .inl 2]) (q := [.inl (((brl (nv (vw m s)) : Nat) : Int))]) hM_78 d_78_6 rfl (by decide +kernel) hM_48 rfl rfl rfl (Nat.le_of_ble_eq_true rfl) (Nat.le_of_ble_eq_true rfl) (Or.inr (rcvS hs _)) (n_48 hs m 2 hz1) (Nat.le_of_ble_eq_true rfl) ?_
  show rn fx 2 (0, 0) 78 9 [some (.inr (.inr (some s)))] [.inl (((ons (nv (vw m s)) (am_s 2) : Nat) : Int)), .inl (((brl (nv (vw m s)) : Nat) : Int))] (st0 m) o
  refine r_k (pc' := 10) (v := .inl (-1)) hM_78 d_78_9 rfl rfl ?_
  refine r_b (pc' := 11) (z := (am_xor (((ons (nv (vw m s)) (am_s 2) : Nat) : Int)) (-1))) hM_78 d_78_10 rfl rfl ?_
  refine r_b (pc' := 12) (z := (am_and (((brl (nv (vw m s)) : Nat) : Int)) (am_xor (((ons (nv (vw m s)) (am_s 2) : Nat) : Int)) (-1)))) hM_78 d_78_11 rfl rfl ?_
  subst H
  exact rt_i hM_78 d_78_12 rfl
def v_78 (m : am_M) (s : Nat) : Int := (am_and (((brl (nv (vw m s)) : Nat) : Int)) (am_xor (((ons (nv (vw m s)) (am_s 2) : Nat) : Int)) (-1)))
def q_78 (m : am_M) (s : Nat) : Prop := (WFG (vw m s))
/-- HeardBarrels$Shelf.fillablePlaces -/
theorem c_78 {fx : am_X0} {s : Nat} (hs : s ∈ shL) (m : am_M)  (hq : q_78 m s) : rn fx 2 (0, 0) 78 0 (am_ent 1 [.inr (.inr (some s))]) [] (st0 m) ([.inl (v_78 m s)], st0 m) := by
  unfold q_78 at hq
  show rn fx 2 (0, 0) 78 0 [some (.inr (.inr (some s)))] [] (st0 m) _
  refine t_78_0 hs ?_
  have hb0_0 := hq
  refine ⟨hb0_0, ?_⟩
  simp only [v_78]
theorem q_78_ok {s : Nat} (hs : s ∈ shL) (m : am_M) (hq : WFG (vw m s)) : q_78 m s := hq
theorem v_78_ok {s : Nat} (hs : s ∈ shL) (m : am_M) (hq : WFG (vw m s)) : v_78 m s = ((may (nv (vw m s)) : Nat) : Int) := by
  have hw := WFG_nv hq
  have hb := brl_lt hw.1.2
  unfold v_78
  rw [bx_andn (by omega), show am_s 2 = 2 from rfl]
  congr 1
  apply Nat.eq_of_testBit_eq
  intro i
  rw [sdf_bit (by omega), ons_bit, Bool.eq_iff_iff, may_bit, Bool.and_eq_true, brl_bit hw]
  simp only [decide_eq_true_eq, Bool.not_eq_true', Bool.and_eq_false_iff, decide_eq_false_iff_not]
  by_cases hi : (i : Int) < nv (vw m s) 0
  · have := hw.2.1 i (by have := hw.1; omega)
    omega
  · omega
theorem n_78 {fx : am_X0} {s : Nat} (hs : s ∈ shL) (m : am_M)  (hq : WFG (vw m s)) : rn fx 2 (0, 0) 78 0 (am_ent 1 [.inr (.inr (some s))]) [] (st0 m) ([.inl (((may (nv (vw m s)) : Nat) : Int))], st0 m) := by
  have h := c_78 (fx := fx) hs m  (q_78_ok hs m  hq)
  rw [v_78_ok hs m  hq] at h
  exact h
theorem t_77_0 {fx : am_X0} {o : List am_V × am_S} {m : am_M} {s : Nat} {b : Int} (hs : s ∈ shL) (H : (WFG (vw m s)) ∧ (∀ y1 : Int, y1 = (if ¬ am_s (am_and b (am_xor (((may (nv (vw m s)) : Nat) : Int)) (-1))) = 0 then 0 else 1) → o = ([.inl y1], st0 m))) : rn fx 3 (0, 0) 77 0 [some (.inr (.inr (some s))), some (.inl b)] [] (st0 m) o := by
  refine r_ld (pc' := 1) hM_77 d_77_0 rfl rfl ?_
  refine r_ld (pc' := 2) hM_77 d_77_1 rfl rfl ?_
  obtain ⟨hz1, H⟩ := H
  refine r_cl (pc' := 5) (c := (78, 0)) (a := [.inr (.inr (some s))]) (q := [.inl b]) hM_77 d_77_2 rfl (by decide +kernel) hM_78 rfl rfl rfl (Nat.le_of_ble_eq_true rfl) (Nat.le_of_ble_eq_true rfl) (Or.inr (rcvS hs _)) (n_78 hs m  hz1) (Nat.le_of_ble_eq_true rfl) ?_
  show rn fx 3 (0, 0) 77 5 [some (.inr (.inr (some s))), some (.inl b)] [.inl (((may (nv (vw m s)) : Nat) : Int)), .inl b] (st0 m) o
  refine r_k (pc' := 6) (v := .inl (-1)) hM_77 d_77_5 rfl rfl ?_
  refine r_b (pc' := 7) (z := (am_xor (((may (nv (vw m s)) : Nat) : Int)) (-1))) hM_77 d_77_6 rfl rfl ?_
  refine r_b (pc' := 8) (z := (am_and b (am_xor (((may (nv (vw m s)) : Nat) : Int)) (-1)))) hM_77 d_77_7 rfl rfl ?_
  have K : ∀ y1 : Int, y1 = (if ¬ am_s (am_and b (am_xor (((may (nv (vw m s)) : Nat) : Int)) (-1))) = 0 then 0 else 1) → rn fx 3 (0, 0) 77 16 [some (.inr (.inr (some s))), some (.inl b)] [.inl y1] (st0 m) o := by
    intro y1 hy1
    replace H := H y1 hy1
    subst H
    refine rt_z hM_77 d_77_16 rfl ?_
    rw [hy1]
    repeat' first | exact Or.inl rfl | exact Or.inr rfl | apply z01_ite
  replace K := K _ rfl
  clear H
  refine r_if (pc' := 15) (pc2 := 11) hM_77 d_77_8 (by decide) rfl (fun hz2 => ?_) (fun hz2 => ?_)
  · have hz2 : ¬ am_s (am_and b (am_xor (((may (nv (vw m s)) : Nat) : Int)) (-1))) = 0 := hz2
    rw [if_pos hz2] at K
    refine r_k (pc' := 16) (v := .inl 0) hM_77 d_77_15 rfl rfl ?_
    exact K
  · have hz2 : ¬ (¬ am_s (am_and b (am_xor (((may (nv (vw m s)) : Nat) : Int)) (-1))) = 0) := hz2
    rw [if_neg hz2] at K
    refine r_k (pc' := 12) (v := .inl 1) hM_77 d_77_11 rfl rfl ?_
    refine r_go (pc' := 16) hM_77 d_77_12 (by decide) ?_
    exact K
def v_77 (m : am_M) (s : Nat) (b : Int) : Int := (if ¬ am_s (am_and b (am_xor (((may (nv (vw m s)) : Nat) : Int)) (-1))) = 0 then 0 else 1)
def q_77 (m : am_M) (s : Nat) (b : Int) : Prop := (WFG (vw m s))
/-- HeardBarrels$Shelf.mayBeBad -/
theorem c_77 {fx : am_X0} {s : Nat} (hs : s ∈ shL) (m : am_M) (b : Int) (hq : q_77 m s b) : rn fx 3 (0, 0) 77 0 (am_ent 2 [.inr (.inr (some s)), .inl b]) [] (st0 m) ([.inl (v_77 m s b)], st0 m) := by
  unfold q_77 at hq
  show rn fx 3 (0, 0) 77 0 [some (.inr (.inr (some s))), some (.inl b)] [] (st0 m) _
  refine t_77_0 hs ?_
  have hb0_0 := hq
  refine ⟨hb0_0, ?_⟩
  intro y1 hy1
  subst hy1
  simp only [v_77]
theorem t_46_0 {fx : am_X0} {o : List am_V × am_S} {m : am_M} {s : Nat} {b : Int} (hs : s ∈ shL) (H : (WFG (vw m s)) ∧ (((am_s (am_lcmp (am_landL b (am_lxorL (am_s (((brl (nv (vw m s)) : Nat) : Int))) (-1))) 0) = 0) → ((am_s (v_49 m b) ≤ am_s (m s 7)) → ∀ y1 : Int, y1 = (if am_s (m s 11) < am_s 9999 then 0 else 3) → o = ([.inl y1], st0 m)) ∧ (¬ (am_s (v_49 m b) ≤ am_s (m s 7)) → o = ([.inl 2], st0 m))) ∧ (¬ (am_s (am_lcmp (am_landL b (am_lxorL (am_s (((brl (nv (vw m s)) : Nat) : Int))) (-1))) 0) = 0) → o = ([.inl 1], st0 m)))) : rn fx 2 (0, 0) 46 0 [some (.inr (.inr (some s))), some (.inr (.inl b)), none] [] (st0 m) o := by
  refine r_ld (pc' := 1) hM_46 d_46_0 rfl rfl ?_
  refine r_ld (pc' := 2) hM_46 d_46_1 rfl rfl ?_
  obtain ⟨hz1, H⟩ := H
  refine r_cl (pc' := 5) (c := (47, 0)) (a := [.inr (.inr (some s))]) (q := [.inr (.inl b)]) hM_46 d_46_2 rfl (by decide +kernel) hM_47 rfl rfl rfl (Nat.le_of_ble_eq_true rfl) (Nat.le_of_ble_eq_true rfl) (Or.inr (rcvS hs _)) (n_47 hs m  hz1) (Nat.le_of_ble_eq_true rfl) ?_
  show rn fx 2 (0, 0) 46 5 [some (.inr (.inr (some s))), some (.inr (.inl b)), none] [.inl (((brl (nv (vw m s)) : Nat) : Int)), .inr (.inl b)] (st0 m) o
  refine r_stk (pc' := 6) (st' := [.inr (.inl (am_s (((brl (nv (vw m s)) : Nat) : Int)))), .inr (.inl b)]) hM_46 d_46_5 rfl rfl ?_
  refine r_k (pc' := 9) (v := .inr (.inl (-1))) hM_46 d_46_6 rfl (by decide +kernel) ?_
  refine r_stk (pc' := 10) (st' := [.inr (.inl (am_lxorL (am_s (((brl (nv (vw m s)) : Nat) : Int))) (-1))), .inr (.inl b)]) hM_46 d_46_9 rfl rfl ?_
  refine r_stk (pc' := 11) (st' := [.inr (.inl (am_landL b (am_lxorL (am_s (((brl (nv (vw m s)) : Nat) : Int))) (-1))))]) hM_46 d_46_10 rfl rfl ?_
  refine r_k (pc' := 12) (v := .inr (.inl 0)) hM_46 d_46_11 rfl rfl ?_
  refine r_stk (pc' := 13) (st' := [.inl (am_lcmp (am_landL b (am_lxorL (am_s (((brl (nv (vw m s)) : Nat) : Int))) (-1))) 0)]) hM_46 d_46_12 rfl rfl ?_
  refine r_if (pc' := 18) (pc2 := 16) hM_46 d_46_13 (by decide) rfl (fun hz2 => ?_) (fun hz2 => ?_)
  · have H := H.1 hz2
    refine r_ld (pc' := 19) hM_46 d_46_18 rfl rfl ?_
    refine r_cl (pc' := 22) (c := (49, 2)) (a := [.inr (.inl b)]) (q := []) hM_46 d_46_19 rfl (by decide +kernel) hM_49 rfl rfl rfl (Nat.le_of_ble_eq_true rfl) (Nat.le_of_ble_eq_true rfl) (Or.inl rfl) (c_49  m b) (Nat.le_of_ble_eq_true rfl) ?_
    show rn fx 2 (0, 0) 46 22 [some (.inr (.inr (some s))), some (.inr (.inl b)), none] [.inl (v_49 m b)] (st0 m) o
    refine r_ld (pc' := 23) hM_46 d_46_22 rfl rfl ?_
    refine r_gI (pc' := 26) (k0 := 7) hM_46 d_46_23 rfl (gfS_8_37 hs) ?_
    refine r_ic (pc' := 31) (pc2 := 29) hM_46 d_46_26 (by decide) rfl (fun hz3 => ?_) (fun hz3 => ?_)
    · have H := H.1 hz3
      refine r_ld (pc' := 32) hM_46 d_46_31 rfl rfl ?_
      refine r_gI (pc' := 35) (k0 := 11) hM_46 d_46_32 rfl (gfS_8_49 hs) ?_
      refine r_k (pc' := 38) (v := .inl 9999) hM_46 d_46_35 rfl rfl ?_
      have K : ∀ y1 : Int, y1 = (if am_s (m s 11) < am_s 9999 then 0 else 3) → rn fx 2 (0, 0) 46 46 [some (.inr (.inr (some s))), some (.inr (.inl b)), none] [.inl y1] (st0 m) o := by
        intro y1 hy1
        replace H := H y1 hy1
        subst H
        exact rt_i hM_46 d_46_46 rfl
      replace K := K _ rfl
      clear H
      refine r_ic (pc' := 45) (pc2 := 41) hM_46 d_46_38 (by decide) rfl (fun hz4 => ?_) (fun hz4 => ?_)
      · have hz4 : am_s (m s 11) < am_s 9999 := hz4
        rw [if_pos hz4] at K
        refine r_k (pc' := 46) (v := .inl 0) hM_46 d_46_45 rfl rfl ?_
        exact K
      · have hz4 : ¬ (am_s (m s 11) < am_s 9999) := hz4
        rw [if_neg hz4] at K
        refine r_k (pc' := 42) (v := .inl 3) hM_46 d_46_41 rfl rfl ?_
        refine r_go (pc' := 46) hM_46 d_46_42 (by decide) ?_
        exact K
    · have H := H.2 hz3
      refine r_k (pc' := 30) (v := .inl 2) hM_46 d_46_29 rfl rfl ?_
      subst H
      exact rt_i hM_46 d_46_30 rfl
  · have H := H.2 hz2
    refine r_k (pc' := 17) (v := .inl 1) hM_46 d_46_16 rfl rfl ?_
    subst H
    exact rt_i hM_46 d_46_17 rfl
def v_46 (m : am_M) (s : Nat) (b : Int) : Int := (if am_s (am_lcmp (am_landL b (am_lxorL (am_s (((brl (nv (vw m s)) : Nat) : Int))) (-1))) 0) = 0 then (if am_s (v_49 m b) ≤ am_s (m s 7) then (if am_s (m s 11) < am_s 9999 then 0 else 3) else 2) else 1)
def q_46 (m : am_M) (s : Nat) (b : Int) : Prop := (WFG (vw m s))
/-- HeardBarrels$Shelf.whyNot -/
theorem c_46 {fx : am_X0} {s : Nat} (hs : s ∈ shL) (m : am_M) (b : Int) (hq : q_46 m s b) : rn fx 2 (0, 0) 46 0 (am_ent 3 [.inr (.inr (some s)), .inr (.inl b)]) [] (st0 m) ([.inl (v_46 m s b)], st0 m) := by
  unfold q_46 at hq
  show rn fx 2 (0, 0) 46 0 [some (.inr (.inr (some s))), some (.inr (.inl b)), none] [] (st0 m) _
  refine t_46_0 hs ?_
  have hb0_0 := hq
  refine ⟨hb0_0, ?_⟩
  refine ⟨fun hc0 => ?_, fun hc0 => ?_⟩
  · skip
    refine ⟨fun hc1 => ?_, fun hc1 => ?_⟩
    · skip
      intro y1 hy1
      subst hy1
      simp only [v_46, if_pos hc0, if_pos hc1]
    · skip
      simp only [v_46, if_pos hc0, if_neg hc1]
  · skip
    simp only [v_46, if_neg hc0]
theorem q_77_ok {s : Nat} (hs : s ∈ shL) (m : am_M) (b : Int) (hq : WFG (vw m s)) : q_77 m s b := hq
theorem v_77_ok {s : Nat} (hs : s ∈ shL) (m : am_M) (b : Int) (hq : WFG (vw m s)) : v_77 m s b = (if 0 ≤ am_s b ∧ (am_s b).toNat &&& may (nv (vw m s)) = (am_s b).toNat then 1 else 0) := by
  have hw := WFG_nv hq
  have hb := may_lt hw.1.2
  unfold v_77
  simp only [bx_sub (z := b) (b := may (nv (vw m s))) (by omega), ite_n]
theorem v_72_ok13 (m : am_M) (a : Int) (hq : 0 ≤ a ∧ a < 8192) : v_72 m a = ((cnt a.toNat 13 : Nat) : Int) := by
  have := bcI (a.toNat / 64) (by omega) (a.toNat % 64) (by omega)
  rw [show 64 * (a.toNat / 64) + a.toNat % 64 = a.toNat by omega, show ((a.toNat : Nat) : Int) = a by omega] at this
  exact this
theorem v_72_ok (m : am_M) (a : Int) (hq : 0 ≤ a ∧ a < 4096) : v_72 m a = ((cnt a.toNat 12 : Nat) : Int) := by
  rw [v_72_ok13 m a (by omega), cnt_s, tb_hi (n := 12) (by omega) (by decide)]
  rfl
theorem v_49_ok (m : am_M) (a : Int) (hq : 0 ≤ a ∧ a < 4096) : v_49 m a = ((cnt a.toNat 12 : Nat) : Int) := by
  have := bcL (a.toNat / 64) (by omega) (a.toNat % 64) (by omega)
  rw [show 64 * (a.toNat / 64) + a.toNat % 64 = a.toNat by omega, show ((a.toNat : Nat) : Int) = a by omega] at this
  exact this
theorem q_46_ok {s : Nat} (hs : s ∈ shL) (m : am_M) (b : Int) (hq : (WFG (vw m s) ∧ m s 11 ≤ 9999) ∧ am_t b = b) : q_46 m s b := hq.1.1
theorem v_46_ok {s : Nat} (hs : s ∈ shL) (m : am_M) (b : Int) (hq : (WFG (vw m s) ∧ m s 11 ≤ 9999) ∧ am_t b = b) : v_46 m s b = rfs (nv (vw m s)) b := by
  obtain ⟨⟨hq, hdt⟩, hb⟩ := hq
  have hw := WFG_nv hq
  have hbl := brl_lt hw.1.2
  obtain ⟨-, -, -, -, -, -, -, h4, -, -, -, h1⟩ := hq
  rw [vw_4] at h4
  rw [vw_1] at h1
  have hc := cnt_le b.toNat 12
  have eb : am_s (am_lcmp (am_landL b (am_lxorL (am_s ((brl (nv (vw m s)) : Nat) : Int)) (-1))) 0) = 0 ↔ 0 ≤ b ∧ b.toNat &&& brl (nv (vw m s)) = b.toNat := by
    rw [lcmp_eq, am_s_id (z := ((brl (nv (vw m s)) : Nat) : Int)) (by omega) (by omega), show am_t 0 = 0 from rfl, bx_subL (by omega), hb]
  unfold v_46 rfs
  simp only [eb]
  rw [nv_lo (k := 4) (by decide), nv_lo (k := 1) (by decide), vw_4, vw_1]
  by_cases c1 : 0 ≤ b ∧ b.toNat &&& brl (nv (vw m s)) = b.toNat
  · rw [if_pos c1, if_neg (not_not_intro c1)]
    have hs := sub_le c1.2
    rw [v_49_ok m b (by omega)]
    simp (disch := omega) only [am_s_id]
    by_cases c2 : m s 7 < (cnt b.toNat 12 : Nat)
    · rw [if_neg (by omega), if_pos c2]
    · rw [if_pos (by omega), if_neg c2]
      by_cases c3 : m s 11 = 9999
      · rw [if_neg (by omega), if_pos c3]
      · rw [if_pos (by omega), if_neg c3]
  · rw [if_neg c1, if_pos c1]
theorem n_77 {fx : am_X0} {s : Nat} (hs : s ∈ shL) (m : am_M) (b : Int) (hq : WFG (vw m s)) : rn fx 3 (0, 0) 77 0 (am_ent 2 [.inr (.inr (some s)), .inl b]) [] (st0 m) ([.inl ((if 0 ≤ am_s b ∧ (am_s b).toNat &&& may (nv (vw m s)) = (am_s b).toNat then 1 else 0))], st0 m) := by
  have h := c_77 (fx := fx) hs m b (q_77_ok hs m b hq)
  rw [v_77_ok hs m b hq] at h
  exact h
theorem n_46 {fx : am_X0} {s : Nat} (hs : s ∈ shL) (m : am_M) (b : Int) (hq : (WFG (vw m s) ∧ m s 11 ≤ 9999) ∧ am_t b = b) : rn fx 2 (0, 0) 46 0 (am_ent 3 [.inr (.inr (some s)), .inr (.inl b)]) [] (st0 m) ([.inl ((rfs (nv (vw m s)) b))], st0 m) := by
  have h := c_46 (fx := fx) hs m b (q_46_ok hs m b hq)
  rw [v_46_ok hs m b hq] at h
  exact h
theorem n_49 {fx : am_X0}   (m : am_M) (a : Int) (hq : 0 ≤ a ∧ a < 4096) : rn fx 0 (0, 0) 49 0 (am_ent 2 [.inr (.inl a)]) [] (st0 m) ([.inl (((cnt a.toNat 12 : Nat) : Int))], st0 m) := by
  have h := c_49 (fx := fx)  m a 
  rw [v_49_ok  m a hq] at h
  exact h
theorem t_71_0 {fx : am_X0} {o : List am_V × am_S} {m : am_M} {s : Nat} {p : Int} {b : Int} (hs : s ∈ shL) (H : (WFG (vw m s)) ∧ (((¬ am_s ((if (0 ≤ am_s p ∧ am_s p < m s 4) ∧ nv (vw m s) (8 + (am_s p).toNat) ≠ 3 then 1 else 0)) = 0) → ∀ y1 : Int, y1 = (if am_s (am_and (am_shr b p) 1) = 0 then 0 else 1) → (WFG (vw m s) ∧ 0 ≤ p ∧ p < m s 4) ∧ (∀ y2 : Int, y2 = (if am_s ((if (0 ≤ am_s (p - 1) ∧ am_s (p - 1) < m s 4) ∧ nv (vw m s) (8 + (am_s (p - 1)).toNat) = 3 then 1 else 0)) = 0 then 0 else 1) → ∀ y3 : Int, y3 = (if am_s ((if (0 ≤ am_s (p + 1) ∧ am_s (p + 1) < m s 4) ∧ nv (vw m s) (8 + (am_s (p + 1)).toNat) = 3 then 1 else 0)) = 0 then 0 else 1) → (q_75 m ((((tn (nv (vw m s)) p.toNat (decide (am_s y1 ≠ 0)))) - ((m s 6) * ((v_72 m (am_and b (v_51 m p)))))) + (y2 + y3)) (v_74 m 1 ((m s 9) + 1))) ∧ (o = ([.inl (v_75 m ((((tn (nv (vw m s)) p.toNat (decide (am_s y1 ≠ 0)))) - ((m s 6) * ((v_72 m (am_and b (v_51 m p)))))) + (y2 + y3)) (v_74 m 1 ((m s 9) + 1)))], st0 m)))) ∧ (¬ (¬ am_s ((if (0 ≤ am_s p ∧ am_s p < m s 4) ∧ nv (vw m s) (8 + (am_s p).toNat) ≠ 3 then 1 else 0)) = 0) → o = ([.inl (-1000)], st0 m)))) : rn fx 2 (0, 0) 71 0 [some (.inr (.inr (some s))), some (.inl p), some (.inl b), none] [] (st0 m) o := by
  refine r_ld (pc' := 1) hM_71 d_71_0 rfl rfl ?_
  refine r_ld (pc' := 2) hM_71 d_71_1 rfl rfl ?_
  obtain ⟨hz1, H⟩ := H
  refine r_cl (pc' := 5) (c := (68, 0)) (a := [.inr (.inr (some s)), .inl p]) (q := []) hM_71 d_71_2 rfl (by decide +kernel) hM_68 rfl rfl rfl (Nat.le_of_ble_eq_true rfl) (Nat.le_of_ble_eq_true rfl) (Or.inr (rcvS hs _)) (n_68 hs m p hz1) (Nat.le_of_ble_eq_true rfl) ?_
  show rn fx 2 (0, 0) 71 5 [some (.inr (.inr (some s))), some (.inl p), some (.inl b), none] [.inl ((if (0 ≤ am_s p ∧ am_s p < m s 4) ∧ nv (vw m s) (8 + (am_s p).toNat) ≠ 3 then 1 else 0))] (st0 m) o
  refine r_if (pc' := 12) (pc2 := 8) hM_71 d_71_5 (by decide) rfl (fun hz2 => ?_) (fun hz2 => ?_)
  · have H := H.1 hz2
    refine r_ld (pc' := 13) hM_71 d_71_12 rfl rfl ?_
    refine r_ld (pc' := 14) hM_71 d_71_13 rfl rfl ?_
    refine r_ld (pc' := 15) hM_71 d_71_14 rfl rfl ?_
    refine r_ld (pc' := 16) hM_71 d_71_15 rfl rfl ?_
    refine r_b (pc' := 17) (z := (am_shr b p)) hM_71 d_71_16 rfl rfl ?_
    refine r_k (pc' := 18) (v := .inl 1) hM_71 d_71_17 rfl rfl ?_
    refine r_b (pc' := 19) (z := (am_and (am_shr b p) 1)) hM_71 d_71_18 rfl rfl ?_
    have K : ∀ y1 : Int, y1 = (if am_s (am_and (am_shr b p) 1) = 0 then 0 else 1) → rn fx 2 (0, 0) 71 27 [some (.inr (.inr (some s))), some (.inl p), some (.inl b), none] [.inl y1, .inl p, .inr (.inr (some s))] (st0 m) o := by
      intro y1 hy1
      replace H := H y1 hy1
      obtain ⟨hz4, H⟩ := H
      refine r_cl (pc' := 30) (c := (69, 0)) (a := [.inr (.inr (some s)), .inl p, .inl y1]) (q := []) hM_71 d_71_27 rfl (by decide +kernel) hM_69 rfl rfl rfl (Nat.le_of_ble_eq_true rfl) (Nat.le_of_ble_eq_true rfl) (Or.inr (rcvS hs _)) (n_69 hs m p y1 hz4) (Nat.le_of_ble_eq_true rfl) ?_
      show rn fx 2 (0, 0) 71 30 [some (.inr (.inr (some s))), some (.inl p), some (.inl b), none] [.inl ((tn (nv (vw m s)) p.toNat (decide (am_s y1 ≠ 0))))] (st0 m) o
      refine r_ld (pc' := 31) hM_71 d_71_30 rfl rfl ?_
      refine r_gI (pc' := 34) (k0 := 6) hM_71 d_71_31 rfl (gfS_8_34 hs) ?_
      refine r_ld (pc' := 35) hM_71 d_71_34 rfl rfl ?_
      refine r_ld (pc' := 36) hM_71 d_71_35 rfl rfl ?_
      refine r_cl (pc' := 39) (c := (51, 2)) (a := [.inl p]) (q := [.inl b, .inl (m s 6), .inl ((tn (nv (vw m s)) p.toNat (decide (am_s y1 ≠ 0))))]) hM_71 d_71_36 rfl (by decide +kernel) hM_51 rfl rfl rfl (Nat.le_of_ble_eq_true rfl) (Nat.le_of_ble_eq_true rfl) (Or.inl rfl) (c_51  m p) (Nat.le_of_ble_eq_true rfl) ?_
      show rn fx 2 (0, 0) 71 39 [some (.inr (.inr (some s))), some (.inl p), some (.inl b), none] [.inl (v_51 m p), .inl b, .inl (m s 6), .inl ((tn (nv (vw m s)) p.toNat (decide (am_s y1 ≠ 0))))] (st0 m) o
      refine r_b (pc' := 40) (z := (am_and b (v_51 m p))) hM_71 d_71_39 rfl rfl ?_
      refine r_cl (pc' := 43) (c := (72, 2)) (a := [.inl (am_and b (v_51 m p))]) (q := [.inl (m s 6), .inl ((tn (nv (vw m s)) p.toNat (decide (am_s y1 ≠ 0))))]) hM_71 d_71_40 rfl (by decide +kernel) hM_72 rfl rfl rfl (Nat.le_of_ble_eq_true rfl) (Nat.le_of_ble_eq_true rfl) (Or.inl rfl) (c_72  m (am_and b (v_51 m p))) (Nat.le_of_ble_eq_true rfl) ?_
      show rn fx 2 (0, 0) 71 43 [some (.inr (.inr (some s))), some (.inl p), some (.inl b), none] [.inl ((v_72 m (am_and b (v_51 m p)))), .inl (m s 6), .inl ((tn (nv (vw m s)) p.toNat (decide (am_s y1 ≠ 0))))] (st0 m) o
      refine r_b (pc' := 44) (z := ((m s 6) * ((v_72 m (am_and b (v_51 m p)))))) hM_71 d_71_43 rfl rfl ?_
      refine r_b (pc' := 45) (z := (((tn (nv (vw m s)) p.toNat (decide (am_s y1 ≠ 0)))) - ((m s 6) * ((v_72 m (am_and b (v_51 m p))))))) hM_71 d_71_44 rfl rfl ?_
      refine r_sto (pc' := 46) (ls' := [some (.inr (.inr (some s))), some (.inl p), some (.inl b), some (.inl (((tn (nv (vw m s)) p.toNat (decide (am_s y1 ≠ 0)))) - ((m s 6) * ((v_72 m (am_and b (v_51 m p)))))))]) hM_71 d_71_45 rfl rfl ?_
      refine r_ld (pc' := 47) hM_71 d_71_46 rfl rfl ?_
      refine r_ld (pc' := 48) hM_71 d_71_47 rfl rfl ?_
      refine r_ld (pc' := 49) hM_71 d_71_48 rfl rfl ?_
      refine r_k (pc' := 50) (v := .inl 1) hM_71 d_71_49 rfl rfl ?_
      refine r_b (pc' := 51) (z := (p - 1)) hM_71 d_71_50 rfl rfl ?_
      refine r_cl (pc' := 54) (c := (73, 0)) (a := [.inr (.inr (some s)), .inl (p - 1)]) (q := [.inl (((tn (nv (vw m s)) p.toNat (decide (am_s y1 ≠ 0)))) - ((m s 6) * ((v_72 m (am_and b (v_51 m p))))))]) hM_71 d_71_51 rfl (by decide +kernel) hM_73 rfl rfl rfl (Nat.le_of_ble_eq_true rfl) (Nat.le_of_ble_eq_true rfl) (Or.inr (rcvS hs _)) (n_73 hs m (p - 1) hz1) (Nat.le_of_ble_eq_true rfl) ?_
      show rn fx 2 (0, 0) 71 54 [some (.inr (.inr (some s))), some (.inl p), some (.inl b), some (.inl (((tn (nv (vw m s)) p.toNat (decide (am_s y1 ≠ 0)))) - ((m s 6) * ((v_72 m (am_and b (v_51 m p)))))))] [.inl ((if (0 ≤ am_s (p - 1) ∧ am_s (p - 1) < m s 4) ∧ nv (vw m s) (8 + (am_s (p - 1)).toNat) = 3 then 1 else 0)), .inl (((tn (nv (vw m s)) p.toNat (decide (am_s y1 ≠ 0)))) - ((m s 6) * ((v_72 m (am_and b (v_51 m p))))))] (st0 m) o
      have K : ∀ y2 : Int, y2 = (if am_s ((if (0 ≤ am_s (p - 1) ∧ am_s (p - 1) < m s 4) ∧ nv (vw m s) (8 + (am_s (p - 1)).toNat) = 3 then 1 else 0)) = 0 then 0 else 1) → rn fx 2 (0, 0) 71 62 [some (.inr (.inr (some s))), some (.inl p), some (.inl b), some (.inl (((tn (nv (vw m s)) p.toNat (decide (am_s y1 ≠ 0)))) - ((m s 6) * ((v_72 m (am_and b (v_51 m p)))))))] [.inl y2, .inl (((tn (nv (vw m s)) p.toNat (decide (am_s y1 ≠ 0)))) - ((m s 6) * ((v_72 m (am_and b (v_51 m p))))))] (st0 m) o := by
        intro y2 hy2
        replace H := H y2 hy2
        refine r_ld (pc' := 63) hM_71 d_71_62 rfl rfl ?_
        refine r_ld (pc' := 64) hM_71 d_71_63 rfl rfl ?_
        refine r_k (pc' := 65) (v := .inl 1) hM_71 d_71_64 rfl rfl ?_
        refine r_b (pc' := 66) (z := (p + 1)) hM_71 d_71_65 rfl rfl ?_
        refine r_cl (pc' := 69) (c := (73, 0)) (a := [.inr (.inr (some s)), .inl (p + 1)]) (q := [.inl y2, .inl (((tn (nv (vw m s)) p.toNat (decide (am_s y1 ≠ 0)))) - ((m s 6) * ((v_72 m (am_and b (v_51 m p))))))]) hM_71 d_71_66 rfl (by decide +kernel) hM_73 rfl rfl rfl (Nat.le_of_ble_eq_true rfl) (Nat.le_of_ble_eq_true rfl) (Or.inr (rcvS hs _)) (n_73 hs m (p + 1) hz1) (Nat.le_of_ble_eq_true rfl) ?_
        show rn fx 2 (0, 0) 71 69 [some (.inr (.inr (some s))), some (.inl p), some (.inl b), some (.inl (((tn (nv (vw m s)) p.toNat (decide (am_s y1 ≠ 0)))) - ((m s 6) * ((v_72 m (am_and b (v_51 m p)))))))] [.inl ((if (0 ≤ am_s (p + 1) ∧ am_s (p + 1) < m s 4) ∧ nv (vw m s) (8 + (am_s (p + 1)).toNat) = 3 then 1 else 0)), .inl y2, .inl (((tn (nv (vw m s)) p.toNat (decide (am_s y1 ≠ 0)))) - ((m s 6) * ((v_72 m (am_and b (v_51 m p))))))] (st0 m) o
        have K : ∀ y3 : Int, y3 = (if am_s ((if (0 ≤ am_s (p + 1) ∧ am_s (p + 1) < m s 4) ∧ nv (vw m s) (8 + (am_s (p + 1)).toNat) = 3 then 1 else 0)) = 0 then 0 else 1) → rn fx 2 (0, 0) 71 77 [some (.inr (.inr (some s))), some (.inl p), some (.inl b), some (.inl (((tn (nv (vw m s)) p.toNat (decide (am_s y1 ≠ 0)))) - ((m s 6) * ((v_72 m (am_and b (v_51 m p)))))))] [.inl y3, .inl y2, .inl (((tn (nv (vw m s)) p.toNat (decide (am_s y1 ≠ 0)))) - ((m s 6) * ((v_72 m (am_and b (v_51 m p))))))] (st0 m) o := by
          intro y3 hy3
          replace H := H y3 hy3
          refine r_b (pc' := 78) (z := (y2 + y3)) hM_71 d_71_77 rfl rfl ?_
          refine r_b (pc' := 79) (z := ((((tn (nv (vw m s)) p.toNat (decide (am_s y1 ≠ 0)))) - ((m s 6) * ((v_72 m (am_and b (v_51 m p)))))) + (y2 + y3))) hM_71 d_71_78 rfl rfl ?_
          refine r_sto (pc' := 80) (ls' := [some (.inr (.inr (some s))), some (.inl p), some (.inl b), some (.inl ((((tn (nv (vw m s)) p.toNat (decide (am_s y1 ≠ 0)))) - ((m s 6) * ((v_72 m (am_and b (v_51 m p)))))) + (y2 + y3)))]) hM_71 d_71_79 rfl rfl ?_
          refine r_ld (pc' := 81) hM_71 d_71_80 rfl rfl ?_
          refine r_k (pc' := 82) (v := .inl 1) hM_71 d_71_81 rfl rfl ?_
          refine r_ld (pc' := 83) hM_71 d_71_82 rfl rfl ?_
          refine r_gI (pc' := 86) (k0 := 9) hM_71 d_71_83 rfl (gfS_8_43 hs) ?_
          refine r_k (pc' := 87) (v := .inl 1) hM_71 d_71_86 rfl rfl ?_
          refine r_b (pc' := 88) (z := ((m s 9) + 1)) hM_71 d_71_87 rfl rfl ?_
          refine r_cl (pc' := 91) (c := (74, 2)) (a := [.inl 1, .inl ((m s 9) + 1)]) (q := [.inl ((((tn (nv (vw m s)) p.toNat (decide (am_s y1 ≠ 0)))) - ((m s 6) * ((v_72 m (am_and b (v_51 m p)))))) + (y2 + y3))]) hM_71 d_71_88 rfl (by decide +kernel) hM_74 rfl rfl rfl (Nat.le_of_ble_eq_true rfl) (Nat.le_of_ble_eq_true rfl) (Or.inl rfl) (c_74  m 1 ((m s 9) + 1)) (Nat.le_of_ble_eq_true rfl) ?_
          show rn fx 2 (0, 0) 71 91 [some (.inr (.inr (some s))), some (.inl p), some (.inl b), some (.inl ((((tn (nv (vw m s)) p.toNat (decide (am_s y1 ≠ 0)))) - ((m s 6) * ((v_72 m (am_and b (v_51 m p)))))) + (y2 + y3)))] [.inl (v_74 m 1 ((m s 9) + 1)), .inl ((((tn (nv (vw m s)) p.toNat (decide (am_s y1 ≠ 0)))) - ((m s 6) * ((v_72 m (am_and b (v_51 m p)))))) + (y2 + y3))] (st0 m) o
          obtain ⟨hz7, H⟩ := H
          refine r_cl (pc' := 94) (c := (75, 2)) (a := [.inl ((((tn (nv (vw m s)) p.toNat (decide (am_s y1 ≠ 0)))) - ((m s 6) * ((v_72 m (am_and b (v_51 m p)))))) + (y2 + y3)), .inl (v_74 m 1 ((m s 9) + 1))]) (q := []) hM_71 d_71_91 rfl (by decide +kernel) hM_75 rfl rfl rfl (Nat.le_of_ble_eq_true rfl) (Nat.le_of_ble_eq_true rfl) (Or.inl rfl) (c_75  m ((((tn (nv (vw m s)) p.toNat (decide (am_s y1 ≠ 0)))) - ((m s 6) * ((v_72 m (am_and b (v_51 m p)))))) + (y2 + y3)) (v_74 m 1 ((m s 9) + 1)) hz7) (Nat.le_of_ble_eq_true rfl) ?_
          show rn fx 2 (0, 0) 71 94 [some (.inr (.inr (some s))), some (.inl p), some (.inl b), some (.inl ((((tn (nv (vw m s)) p.toNat (decide (am_s y1 ≠ 0)))) - ((m s 6) * ((v_72 m (am_and b (v_51 m p)))))) + (y2 + y3)))] [.inl (v_75 m ((((tn (nv (vw m s)) p.toNat (decide (am_s y1 ≠ 0)))) - ((m s 6) * ((v_72 m (am_and b (v_51 m p)))))) + (y2 + y3)) (v_74 m 1 ((m s 9) + 1)))] (st0 m) o
          subst H
          exact rt_i hM_71 d_71_94 rfl
        replace K := K _ rfl
        clear H
        refine r_if (pc' := 76) (pc2 := 72) hM_71 d_71_69 (by decide) rfl (fun hz6 => ?_) (fun hz6 => ?_)
        · have hz6 : am_s ((if (0 ≤ am_s (p + 1) ∧ am_s (p + 1) < m s 4) ∧ nv (vw m s) (8 + (am_s (p + 1)).toNat) = 3 then 1 else 0)) = 0 := hz6
          rw [if_pos hz6] at K
          refine r_k (pc' := 77) (v := .inl 0) hM_71 d_71_76 rfl rfl ?_
          exact K
        · have hz6 : ¬ (am_s ((if (0 ≤ am_s (p + 1) ∧ am_s (p + 1) < m s 4) ∧ nv (vw m s) (8 + (am_s (p + 1)).toNat) = 3 then 1 else 0)) = 0) := hz6
          rw [if_neg hz6] at K
          refine r_k (pc' := 73) (v := .inl 1) hM_71 d_71_72 rfl rfl ?_
          refine r_go (pc' := 77) hM_71 d_71_73 (by decide) ?_
          exact K
      replace K := K _ rfl
      clear H
      refine r_if (pc' := 61) (pc2 := 57) hM_71 d_71_54 (by decide) rfl (fun hz5 => ?_) (fun hz5 => ?_)
      · have hz5 : am_s ((if (0 ≤ am_s (p - 1) ∧ am_s (p - 1) < m s 4) ∧ nv (vw m s) (8 + (am_s (p - 1)).toNat) = 3 then 1 else 0)) = 0 := hz5
        rw [if_pos hz5] at K
        refine r_k (pc' := 62) (v := .inl 0) hM_71 d_71_61 rfl rfl ?_
        exact K
      · have hz5 : ¬ (am_s ((if (0 ≤ am_s (p - 1) ∧ am_s (p - 1) < m s 4) ∧ nv (vw m s) (8 + (am_s (p - 1)).toNat) = 3 then 1 else 0)) = 0) := hz5
        rw [if_neg hz5] at K
        refine r_k (pc' := 58) (v := .inl 1) hM_71 d_71_57 rfl rfl ?_
        refine r_go (pc' := 62) hM_71 d_71_58 (by decide) ?_
        exact K
    replace K := K _ rfl
    clear H
    refine r_if (pc' := 26) (pc2 := 22) hM_71 d_71_19 (by decide) rfl (fun hz3 => ?_) (fun hz3 => ?_)
    · have hz3 : am_s (am_and (am_shr b p) 1) = 0 := hz3
      rw [if_pos hz3] at K
      refine r_k (pc' := 27) (v := .inl 0) hM_71 d_71_26 rfl rfl ?_
      exact K
    · have hz3 : ¬ (am_s (am_and (am_shr b p) 1) = 0) := hz3
      rw [if_neg hz3] at K
      refine r_k (pc' := 23) (v := .inl 1) hM_71 d_71_22 rfl rfl ?_
      refine r_go (pc' := 27) hM_71 d_71_23 (by decide) ?_
      exact K
  · have H := H.2 hz2
    refine r_k (pc' := 11) (v := .inl (-1000)) hM_71 d_71_8 rfl rfl ?_
    subst H
    exact rt_i hM_71 d_71_11 rfl
def v_71 (m : am_M) (s : Nat) (p : Int) (b : Int) : Int := (if ¬ am_s ((if (0 ≤ am_s p ∧ am_s p < m s 4) ∧ nv (vw m s) (8 + (am_s p).toNat) ≠ 3 then 1 else 0)) = 0 then (v_75 m ((((tn (nv (vw m s)) p.toNat (decide (am_s (if am_s (am_and (am_shr b p) 1) = 0 then 0 else 1) ≠ 0)))) - ((m s 6) * ((v_72 m (am_and b (v_51 m p)))))) + ((if am_s ((if (0 ≤ am_s (p - 1) ∧ am_s (p - 1) < m s 4) ∧ nv (vw m s) (8 + (am_s (p - 1)).toNat) = 3 then 1 else 0)) = 0 then 0 else 1) + (if am_s ((if (0 ≤ am_s (p + 1) ∧ am_s (p + 1) < m s 4) ∧ nv (vw m s) (8 + (am_s (p + 1)).toNat) = 3 then 1 else 0)) = 0 then 0 else 1))) (v_74 m 1 ((m s 9) + 1))) else (-1000))
def q_71 (m : am_M) (s : Nat) (p : Int) (b : Int) : Prop := (WFG (vw m s)) ∧ (((¬ am_s ((if (0 ≤ am_s p ∧ am_s p < m s 4) ∧ nv (vw m s) (8 + (am_s p).toNat) ≠ 3 then 1 else 0)) = 0) → (WFG (vw m s) ∧ 0 ≤ p ∧ p < m s 4) ∧ (q_75 m ((((tn (nv (vw m s)) p.toNat (decide (am_s (if am_s (am_and (am_shr b p) 1) = 0 then 0 else 1) ≠ 0)))) - ((m s 6) * ((v_72 m (am_and b (v_51 m p)))))) + ((if am_s ((if (0 ≤ am_s (p - 1) ∧ am_s (p - 1) < m s 4) ∧ nv (vw m s) (8 + (am_s (p - 1)).toNat) = 3 then 1 else 0)) = 0 then 0 else 1) + (if am_s ((if (0 ≤ am_s (p + 1) ∧ am_s (p + 1) < m s 4) ∧ nv (vw m s) (8 + (am_s (p + 1)).toNat) = 3 then 1 else 0)) = 0 then 0 else 1))) (v_74 m 1 ((m s 9) + 1)))))
/-- HeardBarrels$Shelf.sound -/
theorem c_71 {fx : am_X0} {s : Nat} (hs : s ∈ shL) (m : am_M) (p : Int) (b : Int) (hq : q_71 m s p b) : rn fx 2 (0, 0) 71 0 (am_ent 4 [.inr (.inr (some s)), .inl p, .inl b]) [] (st0 m) ([.inl (v_71 m s p b)], st0 m) := by
  unfold q_71 at hq
  show rn fx 2 (0, 0) 71 0 [some (.inr (.inr (some s))), some (.inl p), some (.inl b), none] [] (st0 m) _
  refine t_71_0 hs ?_
  obtain ⟨hb0_0, hq⟩ := hq
  refine ⟨hb0_0, ?_⟩
  refine ⟨fun hc0 => ?_, fun hc0 => ?_⟩
  · have hq := hq hc0
    intro y1 hy1
    subst hy1
    obtain ⟨hb1_0, hq⟩ := hq
    refine ⟨hb1_0, ?_⟩
    intro y2 hy2
    subst hy2
    intro y3 hy3
    subst hy3
    have hb1_0 := hq
    refine ⟨hb1_0, ?_⟩
    simp only [v_71, if_pos hc0]
  · skip
    simp only [v_71, if_neg hc0]
theorem n_72 {fx : am_X0}   (m : am_M) (a : Int) (hq : 0 ≤ a ∧ a < 4096) : rn fx 0 (0, 0) 72 0 (am_ent 1 [.inl a]) [] (st0 m) ([.inl (((cnt a.toNat 12 : Nat) : Int))], st0 m) := by
  have h := c_72 (fx := fx)  m a 
  rw [v_72_ok  m a hq] at h
  exact h
theorem and_pow {b k : Nat} : b &&& 2 ^ k = if b.testBit k = true then 2 ^ k else 0 := by
  apply Nat.eq_of_testBit_eq
  intro i
  rw [Nat.testBit_and, Nat.testBit_two_pow]
  by_cases h : k = i
  · subst h
    cases hb : b.testBit k <;> simp [Nat.testBit_two_pow]
  · cases hb : b.testBit k <;> simp [Nat.testBit_two_pow, h]
theorem and_bsd {b p : Nat} (hp : p < 12) : b &&& (2 ^ (p + 1) ||| 2 ^ p / 2) = (if b.testBit (p + 1) = true then 2 ^ (p + 1) else 0) ||| (if 0 < p ∧ b.testBit (p - 1) = true then 2 ^ (p - 1) else 0) := by
  rw [Nat.and_or_distrib_left, and_pow]
  have e2 : b &&& 2 ^ p / 2 = (if 0 < p ∧ b.testBit (p - 1) = true then 2 ^ (p - 1) else 0) := by
    by_cases h0 : 0 < p
    · have : 2 ^ p / 2 = 2 ^ (p - 1) := by
        obtain ⟨k, rfl⟩ : ∃ k, p = k + 1 := ⟨p - 1, by omega⟩
        rw [Nat.pow_succ, Nat.add_sub_cancel]
        omega
      rw [this, and_pow]
      cases b.testBit (p - 1) <;> simp [h0]
    · have : p = 0 := by omega
      subst this
      simp
  rw [e2]
theorem bc_bsd : ∀ p : Nat, p < 12 → ∀ x y : Bool, ((cnt ((if x = true then 2 ^ (p + 1) else 0) ||| (if 0 < p ∧ y = true then 2 ^ (p - 1) else 0)) 13 : Nat) : Int) = (if 0 < p ∧ y = true then 1 else 0) + (if x = true then 1 else 0) ∧ ((if x = true then 2 ^ (p + 1) else 0) ||| (if 0 < p ∧ y = true then 2 ^ (p - 1) else 0)) < 8192 := by decide +kernel
theorem v_72_bsd {m : am_M} {b i : Nat} (hb : b < 2147483648) (hi : i < 12) : v_72 m (am_and (b : Int) (v_51 m (i : Int))) = bsd b i := by
  have e : v_51 m (i : Int) = ((2 ^ (i + 1) ||| 2 ^ i / 2 : Nat) : Int) := bs_v i hi
  obtain ⟨h1, h2⟩ := bc_bsd i hi (b.testBit (i + 1)) (b.testBit (i - 1))
  rw [e, bx_and hb, and_bsd hi, v_72_ok13 m _ (by omega), Int.toNat_natCast, h1]
  rfl
theorem fdc' {m : am_M} {v c : Int} (hv : -100 ≤ v ∧ v < 156) (hc : 0 ≤ c ∧ c ≤ 9) : v_75 m v (c + 1) = v / (c + 1) := by
  obtain ⟨e, rfl⟩ : ∃ e : Nat, c = (e : Int) := ⟨c.toNat, by omega⟩
  obtain ⟨a, rfl⟩ : ∃ a : Nat, v = (a : Int) - 100 := ⟨(v + 100).toNat, by omega⟩
  exact fdc e (by omega) a (by omega)
theorem v74 {m : am_M} {a b : Int} (ha : -2147483648 ≤ a) (ha' : a ≤ 2147483647) (hb : -2147483648 ≤ b) (hb' : b ≤ 2147483647) : v_74 m a b = max a b := by
  unfold v_74
  rw [am_s_id ha ha', am_s_id hb hb']
  split <;> omega
theorem dec01 {c : Prop} [Decidable c] : decide (am_s (if c then 0 else 1) ≠ 0) = decide (¬ c) := by
  by_cases h : c
  · rw [if_pos h]; simp only [h]; decide
  · rw [if_neg h]; simp only [h]; decide
theorem ite01 {c : Prop} [Decidable c] : (if ¬ c then (0 : Int) else 1) = if c then 1 else 0 := ite_n
theorem q_71_ok {s : Nat} (hs : s ∈ shL) (m : am_M) (p b : Int) (hq : WFG (vw m s) ∧ (0 ≤ p ∧ p < 12) ∧ 0 ≤ b ∧ b < 2147483648) : q_71 m s p b := by
  obtain ⟨hw, hp, hb⟩ := hq
  have hc : 0 ≤ m s 9 ∧ m s 9 ≤ 9 := hw.2.2.2.2.2.2.2.2.2.1
  unfold q_71
  simp only [as_ite]
  rw [am_s_id (z := p) (by omega) (by omega)]
  refine ⟨hw, fun h => ⟨⟨hw, by omega⟩, ?_⟩⟩
  unfold q_75
  rw [v74 (by omega) (by omega) (by omega) (by omega), am_s_id (by omega) (by omega)]
  omega
theorem v_71_ok {s : Nat} (hs : s ∈ shL) (m : am_M) (p b : Int) (hq : WFG (vw m s) ∧ (0 ≤ p ∧ p < 12) ∧ 0 ≤ b ∧ b < 2147483648) : v_71 m s p b = (if p < m s 4 ∧ nv (vw m s) (8 + p.toNat) ≠ 3 then hrd (nv (vw m s)) p.toNat b.toNat else (-1000)) := by
  obtain ⟨hw, hp, hb⟩ := hq
  have hN := vwN hw
  have hc : 0 ≤ m s 9 ∧ m s 9 ≤ 9 := hw.2.2.2.2.2.2.2.2.2.1
  have hl : 0 ≤ m s 6 ∧ m s 6 ≤ 20 := hw.2.2.2.2.2.2.1
  obtain ⟨B, rfl⟩ : ∃ B : Nat, b = (B : Int) := ⟨b.toNat, by omega⟩
  obtain ⟨i, rfl⟩ : ∃ i : Nat, p = (i : Int) := ⟨p.toNat, by omega⟩
  unfold v_71
  simp only [as_ite, nn_iff]
  rw [am_s_id (z := (i : Int)) (by omega) (by omega), am_s_id (z := (i : Int) + 1) (by omega) (by omega), am_s_id (z := (i : Int) - 1) (by omega) (by omega), v_72_bsd (by omega) (by omega), Int.toNat_natCast, Int.toNat_natCast, dec01]
  simp only [bx_bit (B := B) (i := i) (by omega) (by omega), ite01]
  have e1 : decide (¬ B.testBit i = false) = B.testBit i := by cases B.testBit i <;> rfl
  rw [e1, show ((i : Int) + 1).toNat = i + 1 by omega]
  by_cases h : (i : Int) < m s 4 ∧ nv (vw m s) (8 + i) ≠ 3
  · rw [if_pos ⟨by omega, h.2⟩, if_pos h]
    unfold hrd
    have e2 : (if (0 ≤ (i : Int) - 1 ∧ (i : Int) - 1 < m s 4) ∧ nv (vw m s) (8 + ((i : Int) - 1).toNat) = 3 then (1 : Int) else 0) + (if (0 ≤ (i : Int) + 1 ∧ (i : Int) + 1 < m s 4) ∧ nv (vw m s) (8 + (i + 1)) = 3 then 1 else 0) = bsd (ons (nv (vw m s)) 3) i := by
      unfold bsd
      rw [ons_bit, ons_bit, nv0, vw_0]
      simp only [Bool.and_eq_true, decide_eq_true_eq]
      congr 1
      · by_cases h0 : 0 < i
        · rw [show ((i : Int) - 1).toNat = i - 1 by omega]
          by_cases h3 : nv (vw m s) (8 + (i - 1)) = 3
          · rw [if_pos ⟨by omega, h3⟩, if_pos ⟨h0, by omega, h3⟩]
          · rw [if_neg (fun q => h3 q.2), if_neg (fun q => h3 q.2.2)]
        · rw [if_neg (by omega), if_neg (fun q => h0 q.1)]
      · by_cases h3 : nv (vw m s) (8 + (i + 1)) = 3
        · by_cases h4 : (i : Int) + 1 < m s 4
          · rw [if_pos ⟨by omega, h3⟩, if_pos ⟨by omega, h3⟩]
          · rw [if_neg (by omega), if_neg (by omega)]
        · rw [if_neg (fun q => h3 q.2), if_neg (fun q => h3 q.2)]
    rw [e2, v74 (by omega) (by omega) (by omega) (by omega), show max 1 (m s 9 + 1) = m s 9 + 1 by omega, nv_lo (k := 3) (by decide), nv_lo (k := 6) (by decide), vw_3, vw_6]
    have ht := tn_rng (b := B.testBit i) (p := i) (WFG_nv hw) (by omega)
    have hx := bsd_rng B i
    have hy := bsd_rng (ons (nv (vw m s)) 3) i
    generalize tn (nv (vw m s)) i (B.testBit i) = t at ht ⊢
    generalize bsd B i = x at hx ⊢
    generalize bsd (ons (nv (vw m s)) 3) i = y at hy ⊢
    have hu : 0 ≤ m s 6 * x ∧ m s 6 * x ≤ 40 := by
      constructor
      · exact Int.mul_nonneg (by omega) (by omega)
      · have h1 : m s 6 * x ≤ 20 * x := Int.mul_le_mul_of_nonneg_right (by omega) (by omega)
        omega
    generalize m s 6 * x = u at hu ⊢
    exact fdc' (by omega) hc
  · rw [if_neg (fun q => h ⟨by omega, q.2⟩), if_neg h]
theorem n_71 {fx : am_X0} {s : Nat} (hs : s ∈ shL) (m : am_M) (p : Int) (b : Int) (hq : WFG (vw m s) ∧ (0 ≤ p ∧ p < 12) ∧ 0 ≤ b ∧ b < 2147483648) : rn fx 2 (0, 0) 71 0 (am_ent 4 [.inr (.inr (some s)), .inl p, .inl b]) [] (st0 m) ([.inl ((if p < m s 4 ∧ nv (vw m s) (8 + p.toNat) ≠ 3 then hrd (nv (vw m s)) p.toNat b.toNat else (-1000)))], st0 m) := by
  have h := c_71 (fx := fx) hs m p b (q_71_ok hs m p b hq)
  rw [v_71_ok hs m p b hq] at h
  exact h
