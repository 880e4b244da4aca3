theorem t_167_0 {fx : am_X0} {o : List am_V × am_S} {m : am_M} {v : Int} {lo : Int} {hi : Int}  (H : ∀ y1 : Int, y1 = (if am_s (am_lcmp v lo) < 0 then 0 else (if 0 < am_s (am_lcmp v hi) then 0 else 1)) → o = ([.inl y1], st0 m)) : rn fx 0 (0, 0) 167 0 [some (.inr (.inl v)), none, some (.inr (.inl lo)), none, some (.inr (.inl hi)), none] [] (st0 m) o := by
  refine r_ld (pc' := 1) hM_167 d_167_0 rfl rfl ?_
  refine r_ld (pc' := 2) hM_167 d_167_1 rfl rfl ?_
  refine r_stk (pc' := 3) (st' := [.inl (am_lcmp v lo)]) hM_167 d_167_2 rfl rfl ?_
  have K : ∀ y1 : Int, y1 = (if am_s (am_lcmp v lo) < 0 then 0 else (if 0 < am_s (am_lcmp v hi) then 0 else 1)) → rn fx 0 (0, 0) 167 18 [some (.inr (.inl v)), none, some (.inr (.inl lo)), none, some (.inr (.inl hi)), none] [.inl y1] (st0 m) o := by
    intro y1 hy1
    replace H := H y1 hy1
    subst H
    refine rt_z hM_167 d_167_18 rfl ?_
    rw [hy1]
    repeat' first | exact Or.inl rfl | exact Or.inr rfl | apply z01_ite
  replace K := K _ rfl
  clear H
  refine r_if (pc' := 17) (pc2 := 6) hM_167 d_167_3 (by decide) rfl (fun hz1 => ?_) (fun hz1 => ?_)
  · have hz1 : am_s (am_lcmp v lo) < 0 := hz1
    rw [if_pos hz1] at K
    refine r_k (pc' := 18) (v := .inl 0) hM_167 d_167_17 rfl rfl ?_
    exact K
  · have hz1 : ¬ (am_s (am_lcmp v lo) < 0) := hz1
    rw [if_neg hz1] at K
    refine r_ld (pc' := 7) hM_167 d_167_6 rfl rfl ?_
    refine r_ld (pc' := 9) hM_167 d_167_7 rfl rfl ?_
    refine r_stk (pc' := 10) (st' := [.inl (am_lcmp v hi)]) hM_167 d_167_9 rfl rfl ?_
    refine r_if (pc' := 17) (pc2 := 13) hM_167 d_167_10 (by decide) rfl (fun hz2 => ?_) (fun hz2 => ?_)
    · have hz2 : 0 < am_s (am_lcmp v hi) := hz2
      rw [if_pos hz2] at K
      refine r_k (pc' := 18) (v := .inl 0) hM_167 d_167_17 rfl rfl ?_
      exact K
    · have hz2 : ¬ (0 < am_s (am_lcmp v hi)) := hz2
      rw [if_neg hz2] at K
      refine r_k (pc' := 14) (v := .inl 1) hM_167 d_167_13 rfl rfl ?_
      refine r_go (pc' := 18) hM_167 d_167_14 (by decide) ?_
      exact K
def v_167 (m : am_M) (v : Int) (lo : Int) (hi : Int) : Int := (if am_s (am_lcmp v lo) < 0 then 0 else (if 0 < am_s (am_lcmp v hi) then 0 else 1))
/-- HeardBarrelsModel.within -/
theorem c_167 {fx : am_X0}   (m : am_M) (v : Int) (lo : Int) (hi : Int)  : rn fx 0 (0, 0) 167 0 (am_ent 6 [.inr (.inl v), .inr (.inl lo), .inr (.inl hi)]) [] (st0 m) ([.inl (v_167 m v lo hi)], st0 m) := by
  show rn fx 0 (0, 0) 167 0 [some (.inr (.inl v)), none, some (.inr (.inl lo)), none, some (.inr (.inl hi)), none] [] (st0 m) _
  refine t_167_0  ?_
  intro y1 hy1
  subst hy1
  simp only [v_167]
theorem lcmp_lt {a b : Int} : am_s (am_lcmp a b) < 0 ↔ am_t a < am_t b := by
  unfold am_lcmp
  split
  · rename_i h; simp only [h, iff_true]; decide
  · rename_i h
    split
    · simp only [h, iff_false]; decide
    · simp only [h, iff_false]; decide
theorem lcmp_gt {a b : Int} : 0 < am_s (am_lcmp a b) ↔ am_t b < am_t a := by
  unfold am_lcmp
  split
  · rename_i h
    have h2 : ¬ am_t b < am_t a := by omega
    simp only [h2, iff_false]; decide
  · rename_i h
    split
    · rename_i h1
      have h2 : ¬ am_t b < am_t a := by omega
      simp only [h2, iff_false]; decide
    · rename_i h1
      have h2 : am_t b < am_t a := by omega
      simp only [h2, iff_true]; decide
theorem lcmp_eq {a b : Int} : am_s (am_lcmp a b) = 0 ↔ am_t a = am_t b := by
  unfold am_lcmp
  split
  · rename_i h
    have h2 : ¬ am_t a = am_t b := by omega
    simp only [h2, iff_false]; decide
  · rename_i h
    split
    · rename_i h1; simp only [h1, iff_true]; decide
    · rename_i h1; simp only [h1, iff_false]; decide
theorem v_167_ok (m : am_M) (v lo hi : Int) : v_167 m v lo hi = (if am_t lo ≤ am_t v ∧ am_t v ≤ am_t hi then 1 else 0) := by
  unfold v_167
  simp only [lcmp_lt, lcmp_gt]
  by_cases h1 : am_t v < am_t lo
  · rw [if_pos h1, if_neg (by omega)]
  · rw [if_neg h1]
    by_cases h2 : am_t hi < am_t v
    · rw [if_pos h2, if_neg (by omega)]
    · rw [if_neg h2, if_pos (by omega)]
theorem n_167 {fx : am_X0}   (m : am_M) (v : Int) (lo : Int) (hi : Int)  : rn fx 0 (0, 0) 167 0 (am_ent 6 [.inr (.inl v), .inr (.inl lo), .inr (.inl hi)]) [] (st0 m) ([.inl ((if am_t lo ≤ am_t v ∧ am_t v ≤ am_t hi then 1 else 0))], st0 m) := by
  have h := c_167 (fx := fx)  m v lo hi 
  rw [v_167_ok  m v lo hi ] at h
  exact h
theorem t_194_0 {fx : am_X0} {o : List am_V × am_S} {m : am_M} {b : Int} {p : Int}  (H : ∀ y1 : Int, y1 = (if ¬ am_s (am_lcmp (am_landL (am_shrL b p) 1) 1) = 0 then 0 else 1) → o = ([.inl y1], st0 m)) : rn fx 0 (0, 0) 194 0 [some (.inr (.inl b)), none, some (.inl p)] [] (st0 m) o := by
  refine r_ld (pc' := 1) hM_194 d_194_0 rfl rfl ?_
  refine r_ld (pc' := 2) hM_194 d_194_1 rfl rfl ?_
  refine r_stk (pc' := 3) (st' := [.inr (.inl (am_shrL b p))]) hM_194 d_194_2 rfl rfl ?_
  refine r_k (pc' := 4) (v := .inr (.inl 1)) hM_194 d_194_3 rfl rfl ?_
  refine r_stk (pc' := 5) (st' := [.inr (.inl (am_landL (am_shrL b p) 1))]) hM_194 d_194_4 rfl rfl ?_
  refine r_k (pc' := 6) (v := .inr (.inl 1)) hM_194 d_194_5 rfl rfl ?_
  refine r_stk (pc' := 7) (st' := [.inl (am_lcmp (am_landL (am_shrL b p) 1) 1)]) hM_194 d_194_6 rfl rfl ?_
  have K : ∀ y1 : Int, y1 = (if ¬ am_s (am_lcmp (am_landL (am_shrL b p) 1) 1) = 0 then 0 else 1) → rn fx 0 (0, 0) 194 15 [some (.inr (.inl b)), none, some (.inl p)] [.inl y1] (st0 m) o := by
    intro y1 hy1
    replace H := H y1 hy1
    subst H
    refine rt_z hM_194 d_194_15 rfl ?_
    rw [hy1]
    repeat' first | exact Or.inl rfl | exact Or.inr rfl | apply z01_ite
  replace K := K _ rfl
  clear H
  refine r_if (pc' := 14) (pc2 := 10) hM_194 d_194_7 (by decide) rfl (fun hz1 => ?_) (fun hz1 => ?_)
  · have hz1 : ¬ am_s (am_lcmp (am_landL (am_shrL b p) 1) 1) = 0 := hz1
    rw [if_pos hz1] at K
    refine r_k (pc' := 15) (v := .inl 0) hM_194 d_194_14 rfl rfl ?_
    exact K
  · have hz1 : ¬ (¬ am_s (am_lcmp (am_landL (am_shrL b p) 1) 1) = 0) := hz1
    rw [if_neg hz1] at K
    refine r_k (pc' := 11) (v := .inl 1) hM_194 d_194_10 rfl rfl ?_
    refine r_go (pc' := 15) hM_194 d_194_11 (by decide) ?_
    exact K
def v_194 (m : am_M) (b : Int) (p : Int) : Int := (if ¬ am_s (am_lcmp (am_landL (am_shrL b p) 1) 1) = 0 then 0 else 1)
/-- HeardBarrelsModel.isIn -/
theorem c_194 {fx : am_X0}   (m : am_M) (b : Int) (p : Int)  : rn fx 0 (0, 0) 194 0 (am_ent 3 [.inr (.inl b), .inl p]) [] (st0 m) ([.inl (v_194 m b p)], st0 m) := by
  show rn fx 0 (0, 0) 194 0 [some (.inr (.inl b)), none, some (.inl p)] [] (st0 m) _
  refine t_194_0  ?_
  intro y1 hy1
  subst hy1
  simp only [v_194]
theorem lN_of (a : Nat) : Int64.ofInt (a : Int) = lN a := rfl
theorem bt_t {a : Nat} (h : a < 9223372036854775808) : am_t (a : Int) = a := am_t_id (by omega) (by omega)
theorem bx_shrL {a i : Nat} (ha : a < 2 ^ 62) (hi : i < 64) : am_shrL (a : Int) (i : Int) = ((a / 2 ^ i : Nat) : Int) := by
  have hD : ∀ i, i < 64 → ((((nI i).toInt64 &&& 63)).toBitVec.smod 64).toNat = i := by decide +kernel
  have h : lN a >>> ((nI i).toInt64 &&& 63) = lN (a / 2 ^ i) := by
    apply Int64.toBitVec_inj.mp
    rw [Int64.toBitVec_shiftRight]
    apply BitVec.eq_of_toNat_eq
    rw [show ∀ x y : BitVec 64, x.sshiftRight' y = x.sshiftRight y.toNat from fun _ _ => rfl, hD i hi]
    have hm : (lN a).toBitVec.msb = false := by
      rw [BitVec.msb_eq_false_iff_two_mul_lt]
      show 2 * (BitVec.ofNat 64 a).toNat < _
      rw [BitVec.toNat_ofNat, Nat.mod_eq_of_lt (by omega)]
      omega
    rw [BitVec.sshiftRight_eq_of_msb_false hm, BitVec.toNat_ushiftRight]
    show (BitVec.ofNat 64 a).toNat >>> i = (BitVec.ofNat 64 (a / 2 ^ i)).toNat
    rw [BitVec.toNat_ofNat, BitVec.toNat_ofNat, Nat.mod_eq_of_lt (by omega), Nat.shiftRight_eq_div_pow, Nat.mod_eq_of_lt (Nat.lt_of_le_of_lt (Nat.div_le_self _ _) (by omega))]
  rw [am_shrL, lN_of, bx_ofN, h]
  have h2 : a / 2 ^ i ≤ a := Nat.div_le_self _ _
  show am_t ((a / 2 ^ i : Nat) : Int) = _
  exact bt_t (by omega)
theorem bx_andL {a b : Nat} (ha : a < 2 ^ 62) : am_landL (a : Int) (b : Int) = ((a &&& b : Nat) : Int) := by
  have h : lN a &&& lN b = lN (a &&& b) := by
    apply Int64.toBitVec_inj.mp
    show BitVec.ofNat 64 a &&& BitVec.ofNat 64 b = BitVec.ofNat 64 (a &&& b)
    apply BitVec.eq_of_toNat_eq
    simp [BitVec.toNat_ofNat, Nat.and_mod_two_pow]
  rw [am_landL, lN_of, lN_of, h]
  have h2 : a &&& b ≤ a := Nat.and_le_left
  show am_t ((a &&& b : Nat) : Int) = _
  exact bt_t (by omega)
theorem v_194_ok (m : am_M) (b p : Int) (hq : (0 ≤ b ∧ b < 2147483648) ∧ 0 ≤ p ∧ p < 32) : v_194 m b p = (if b.toNat.testBit p.toNat = true then 1 else 0) := by
  obtain ⟨B, rfl⟩ : ∃ B : Nat, b = (B : Int) := ⟨b.toNat, by omega⟩
  obtain ⟨i, rfl⟩ : ∃ i : Nat, p = (i : Int) := ⟨p.toNat, by omega⟩
  unfold v_194
  simp only [lcmp_eq, Int.toNat_natCast]
  have h1 : (1 : Int) = ((1 : Nat) : Int) := rfl
  have h2 : B / 2 ^ i ≤ B := Nat.div_le_self _ _
  rw [bx_shrL (by omega) (by omega), h1, bx_andL (by omega), Nat.and_one_is_mod, bt_t (by omega), bt_t (by omega)]
  have e := Nat.testBit_eq_decide_div_mod_eq (x := B) (i := i)
  by_cases h : B / 2 ^ i % 2 = 1
  · simp [e, h]
  · have h3 : B / 2 ^ i % 2 = 0 := by omega
    simp [e, h3]
theorem n_194 {fx : am_X0}   (m : am_M) (b : Int) (p : Int) (hq : (0 ≤ b ∧ b < 2147483648) ∧ 0 ≤ p ∧ p < 32) : rn fx 0 (0, 0) 194 0 (am_ent 3 [.inr (.inl b), .inl p]) [] (st0 m) ([.inl ((if b.toNat.testBit p.toNat = true then 1 else 0))], st0 m) := by
  have h := c_194 (fx := fx)  m b p 
  rw [v_194_ok  m b p hq] at h
  exact h
theorem t_193_4 {fx : am_X0} {o : List am_V × am_S} {m : am_M} {b : Int} {x2 : Int} {x3 : Int}  (H : ((am_s 12 ≤ am_s x3) → o = ([.inl x2], st0 m)) ∧ (¬ (am_s 12 ≤ am_s x3) → ((0 ≤ b ∧ b < 2147483648) ∧ 0 ≤ x3 ∧ x3 < 32) ∧ (∀ y1 : Int, y1 = (if am_s ((if b.toNat.testBit x3.toNat = true then 1 else 0)) = 0 then 0 else 1) → rn fx 1 (0, 0) 193 4 [some (.inr (.inl b)), none, some (.inl (x2 + y1)), some (.inl (x3 + 1))] [] (st0 m) o))) : rn fx 1 (0, 0) 193 4 [some (.inr (.inl b)), none, some (.inl x2), some (.inl x3)] [] (st0 m) o := by
  refine r_ld (pc' := 5) hM_193 d_193_4 rfl rfl ?_
  refine r_k (pc' := 7) (v := .inl 12) hM_193 d_193_5 rfl rfl ?_
  refine r_ic (pc' := 32) (pc2 := 10) hM_193 d_193_7 (by decide) rfl (fun hz1 => ?_) (fun hz1 => ?_)
  · have H := H.1 hz1
    refine r_ld (pc' := 33) hM_193 d_193_32 rfl rfl ?_
    subst H
    exact rt_i hM_193 d_193_33 rfl
  · have H := H.2 hz1
    refine r_ld (pc' := 11) hM_193 d_193_10 rfl rfl ?_
    refine r_ld (pc' := 12) hM_193 d_193_11 rfl rfl ?_
    refine r_ld (pc' := 13) hM_193 d_193_12 rfl rfl ?_
    obtain ⟨hz2, H⟩ := H
    refine r_cl (pc' := 16) (c := (194, 2)) (a := [.inr (.inl b), .inl x3]) (q := [.inl x2]) hM_193 d_193_13 rfl (by decide +kernel) hM_194 rfl rfl rfl (Nat.le_of_ble_eq_true rfl) (Nat.le_of_ble_eq_true rfl) (Or.inl rfl) (n_194  m b x3 hz2) (Nat.le_of_ble_eq_true rfl) ?_
    show rn fx 1 (0, 0) 193 16 [some (.inr (.inl b)), none, some (.inl x2), some (.inl x3)] [.inl ((if b.toNat.testBit x3.toNat = true then 1 else 0)), .inl x2] (st0 m) o
    have K : ∀ y1 : Int, y1 = (if am_s ((if b.toNat.testBit x3.toNat = true then 1 else 0)) = 0 then 0 else 1) → rn fx 1 (0, 0) 193 24 [some (.inr (.inl b)), none, some (.inl x2), some (.inl x3)] [.inl y1, .inl x2] (st0 m) o := by
      intro y1 hy1
      replace H := H y1 hy1
      refine r_b (pc' := 25) (z := (x2 + y1)) hM_193 d_193_24 rfl rfl ?_
      refine r_sto (pc' := 26) (ls' := [some (.inr (.inl b)), none, some (.inl (x2 + y1)), some (.inl x3)]) hM_193 d_193_25 rfl rfl ?_
      refine r_sto (pc' := 29) (ls' := [some (.inr (.inl b)), none, some (.inl (x2 + y1)), some (.inl (x3 + 1))]) hM_193 d_193_26 rfl rfl ?_
      refine r_go (pc' := 4) hM_193 d_193_29 (by decide) ?_
      exact H
    replace K := K _ rfl
    clear H
    refine r_if (pc' := 23) (pc2 := 19) hM_193 d_193_16 (by decide) rfl (fun hz3 => ?_) (fun hz3 => ?_)
    · have hz3 : am_s ((if b.toNat.testBit x3.toNat = true then 1 else 0)) = 0 := hz3
      rw [if_pos hz3] at K
      refine r_k (pc' := 24) (v := .inl 0) hM_193 d_193_23 rfl rfl ?_
      exact K
    · have hz3 : ¬ (am_s ((if b.toNat.testBit x3.toNat = true then 1 else 0)) = 0) := hz3
      rw [if_neg hz3] at K
      refine r_k (pc' := 20) (v := .inl 1) hM_193 d_193_19 rfl rfl ?_
      refine r_go (pc' := 24) hM_193 d_193_20 (by decide) ?_
      exact K
theorem t_193_0 {fx : am_X0} {o : List am_V × am_S} {m : am_M} {b : Int}  (H : rn fx 1 (0, 0) 193 4 [some (.inr (.inl b)), none, some (.inl 0), some (.inl 0)] [] (st0 m) o) : rn fx 1 (0, 0) 193 0 [some (.inr (.inl b)), none, none, none] [] (st0 m) o := by
  refine r_k (pc' := 1) (v := .inl 0) hM_193 d_193_0 rfl rfl ?_
  refine r_sto (pc' := 2) (ls' := [some (.inr (.inl b)), none, some (.inl 0), none]) hM_193 d_193_1 rfl rfl ?_
  refine r_k (pc' := 3) (v := .inl 0) hM_193 d_193_2 rfl rfl ?_
  refine r_sto (pc' := 4) (ls' := [some (.inr (.inl b)), none, some (.inl 0), some (.inl 0)]) hM_193 d_193_3 rfl rfl ?_
  exact H
/-- HeardBarrelsModel.bitsOf -/
theorem c_193 {fx : am_X0}   (m : am_M) (b : Int) (hq : 0 ≤ b ∧ b < 2147483648) : rn fx 1 (0, 0) 193 0 (am_ent 4 [.inr (.inl b)]) [] (st0 m) ([.inl (((cnt b.toNat 12 : Nat) : Int))], st0 (m)) := by
  show rn fx 1 (0, 0) 193 0 [some (.inr (.inl b)), none, none, none] [] (st0 m) _
  refine t_193_0  ?_
  have hfin := rn_loop (fx := fx) (d := 1) (mi := 193) (pc := 4) (cr := (0, 0)) (fun i => ([some (.inr (.inl (b))), none, some (.inl (((cnt b.toNat i : Nat) : Int))), some (.inl ((i : Int)))], m)) (12) (fun i hi o hnx => ?_) (o := ([.inl (((cnt b.toNat 12 : Nat) : Int))], st0 (m))) ?_
  · exact hfin
  · refine t_193_4 ?_
    simp only [as_ite]
    simp (disch := omega) only [am_s_id, Int.toNat_natCast]
    refine ⟨fun q => by omega, fun _ => ⟨by omega, fun y hy => ?_⟩⟩
    have e : ((cnt b.toNat (i + 1) : Nat) : Int) = (cnt b.toNat i : Nat) + y := by
      rw [cnt, hy, ite_n]
      split <;> omega
    simp only [e] at hnx
    exact hnx
  · refine t_193_4 ?_
    simp (disch := omega) only [am_s_id]
    exact ⟨fun _ => by first | trivial | rfl, fun q => by omega⟩
theorem t_192_4 {fx : am_X0} {o : List am_V × am_S} {m : am_M} {w : Int} {x2 : Int} {i : Nat} (h_i : i < 13) (H : ((am_s (m 54 0) ≤ am_s (i : Int)) → o = ([.inl x2], st0 m)) ∧ (¬ (am_s (m 54 0) ≤ am_s (i : Int)) → ∀ y1 : Int, y1 = (if ¬ am_s (m 54 (8 + i)) = am_s w then 0 else (am_shl 1 (i : Int))) → rn fx 0 (0, 0) 192 4 [some (.inr (.inr (some 53))), some (.inl w), some (.inl (am_or x2 y1)), some (.inl ((i : Int) + 1))] [] (st0 m) o)) : rn fx 0 (0, 0) 192 4 [some (.inr (.inr (some 53))), some (.inl w), some (.inl x2), some (.inl (i : Int))] [] (st0 m) o := by
  refine r_ld (pc' := 5) hM_192 d_192_4 rfl rfl ?_
  refine r_ld (pc' := 6) hM_192 d_192_5 rfl rfl ?_
  refine r_gR (pc' := 9) (v := 54) hM_192 d_192_6 rfl (by decide +kernel) ?_
  refine r_k (pc' := 10) (v := .inl 0) hM_192 d_192_9 rfl rfl ?_
  refine r_iae (pc' := 11) (n := 168) (z := (m 54 0)) hM_192 d_192_10 rfl rfl (by decide) (by rw [show (am_s 0).toNat = 0 by decide]) ?_
  refine r_ic (pc' := 43) (pc2 := 14) hM_192 d_192_11 (by decide) rfl (fun hz1 => ?_) (fun hz1 => ?_)
  · have H := H.1 hz1
    refine r_ld (pc' := 44) hM_192 d_192_43 rfl rfl ?_
    subst H
    exact rt_i hM_192 d_192_44 rfl
  · have H := H.2 hz1
    refine r_ld (pc' := 15) hM_192 d_192_14 rfl rfl ?_
    refine r_ld (pc' := 16) hM_192 d_192_15 rfl rfl ?_
    refine r_gR (pc' := 19) (v := 54) hM_192 d_192_16 rfl (by decide +kernel) ?_
    refine r_k (pc' := 21) (v := .inl 8) hM_192 d_192_19 rfl rfl ?_
    refine r_ld (pc' := 22) hM_192 d_192_21 rfl rfl ?_
    refine r_b (pc' := 23) (z := (8 + (i : Int))) hM_192 d_192_22 rfl rfl ?_
    refine r_iae (pc' := 24) (n := 168) (z := (m 54 (8 + i))) hM_192 d_192_23 rfl rfl (by rw [am_s_id (by omega) (by omega)]; omega) (by rw [show (am_s (8 + (i : Int))).toNat = (8 + i) by rw [am_s_id (by omega) (by omega)]; omega]) ?_
    refine r_ld (pc' := 25) hM_192 d_192_24 rfl rfl ?_
    have K : ∀ y1 : Int, y1 = (if ¬ am_s (m 54 (8 + i)) = am_s w then 0 else (am_shl 1 (i : Int))) → rn fx 0 (0, 0) 192 35 [some (.inr (.inr (some 53))), some (.inl w), some (.inl x2), some (.inl (i : Int))] [.inl y1, .inl x2] (st0 m) o := by
      intro y1 hy1
      replace H := H y1 hy1
      refine r_b (pc' := 36) (z := (am_or x2 y1)) hM_192 d_192_35 rfl rfl ?_
      refine r_sto (pc' := 37) (ls' := [some (.inr (.inr (some 53))), some (.inl w), some (.inl (am_or x2 y1)), some (.inl (i : Int))]) hM_192 d_192_36 rfl rfl ?_
      refine r_sto (pc' := 40) (ls' := [some (.inr (.inr (some 53))), some (.inl w), some (.inl (am_or x2 y1)), some (.inl ((i : Int) + 1))]) hM_192 d_192_37 rfl rfl ?_
      refine r_go (pc' := 4) hM_192 d_192_40 (by decide) ?_
      exact H
    replace K := K _ rfl
    clear H
    refine r_ic (pc' := 34) (pc2 := 28) hM_192 d_192_25 (by decide) rfl (fun hz2 => ?_) (fun hz2 => ?_)
    · have hz2 : ¬ am_s (m 54 (8 + i)) = am_s w := hz2
      rw [if_pos hz2] at K
      refine r_k (pc' := 35) (v := .inl 0) hM_192 d_192_34 rfl rfl ?_
      exact K
    · have hz2 : ¬ (¬ am_s (m 54 (8 + i)) = am_s w) := hz2
      rw [if_neg hz2] at K
      refine r_k (pc' := 29) (v := .inl 1) hM_192 d_192_28 rfl rfl ?_
      refine r_ld (pc' := 30) hM_192 d_192_29 rfl rfl ?_
      refine r_b (pc' := 31) (z := (am_shl 1 (i : Int))) hM_192 d_192_30 rfl rfl ?_
      refine r_go (pc' := 35) hM_192 d_192_31 (by decide) ?_
      exact K
theorem t_192_0 {fx : am_X0} {o : List am_V × am_S} {m : am_M} {w : Int}  (H : rn fx 0 (0, 0) 192 4 [some (.inr (.inr (some 53))), some (.inl w), some (.inl 0), some (.inl 0)] [] (st0 m) o) : rn fx 0 (0, 0) 192 0 [some (.inr (.inr (some 53))), some (.inl w), none, none] [] (st0 m) o := by
  refine r_k (pc' := 1) (v := .inl 0) hM_192 d_192_0 rfl rfl ?_
  refine r_sto (pc' := 2) (ls' := [some (.inr (.inr (some 53))), some (.inl w), some (.inl 0), none]) hM_192 d_192_1 rfl rfl ?_
  refine r_k (pc' := 3) (v := .inl 0) hM_192 d_192_2 rfl rfl ?_
  refine r_sto (pc' := 4) (ls' := [some (.inr (.inr (some 53))), some (.inl w), some (.inl 0), some (.inl 0)]) hM_192 d_192_3 rfl rfl ?_
  exact H
theorem bx_or0 {a k : Nat} (ha : a < 2 ^ k) (hk : k ≤ 31) : am_or (a : Int) 0 = (a : Int) := by
  have := bx_or (a := a) (b := 0) ha (Nat.two_pow_pos k) hk
  rw [Nat.or_zero] at this
  exact this
/-- HeardBarrelsModel.ones -/
theorem c_192 {fx : am_X0}   (m : am_M) (w : Int) (hq : WFG (m 54)) : rn fx 0 (0, 0) 192 0 (am_ent 4 [.inr (.inr (some 53)), .inl w]) [] (st0 m) ([.inl (((ons (nv (m 54)) (am_s w) : Nat) : Int))], st0 (m)) := by
  show rn fx 0 (0, 0) 192 0 [some (.inr (.inr (some 53))), some (.inl w), none, none] [] (st0 m) _
  refine t_192_0  ?_
  obtain ⟨hN, hK, -⟩ := hq
  have hfin := rn_loop (fx := fx) (d := 0) (mi := 192) (pc := 4) (cr := (0, 0)) (fun i => ([some (.inr (.inr (some 53))), some (.inl (w)), some (.inl (((msk (fun p => m 54 (8 + p)) (am_s w) i : Nat) : Int))), some (.inl ((i : Int)))], m)) ((m 54 0).toNat) (fun i hi o hnx => ?_) (o := ([.inl (((ons (nv (m 54)) (am_s w) : Nat) : Int))], st0 (m))) ?_
  · exact hfin
  · have hk := hK i (by omega)
    refine t_192_4 (by omega) ?_
    simp (disch := omega) only [am_s_id]
    refine ⟨fun q => by omega, fun _ y hy => ?_⟩
    have e : am_or ((msk (fun p => m 54 (8 + p)) (am_s w) i : Nat) : Int) y = ((msk (fun p => m 54 (8 + p)) (am_s w) (i + 1) : Nat) : Int) := by
      rw [hy, ite_n, msk_s]
      by_cases hc : m 54 (8 + i) = am_s w
      · rw [if_pos hc, if_pos hc, bx_or2 (msk_lt _ _ i) (by omega)]
      · rw [if_neg hc, if_neg hc, bx_or0 (msk_lt _ _ i) (by omega)]
    rw [e]
    exact hnx
  · refine t_192_4 (by omega) ?_
    simp (disch := omega) only [am_s_id]
    rw [ons_nv hN.2]
    exact ⟨fun _ => by first | trivial | rfl, fun q => by omega⟩
theorem t_196_0 {fx : am_X0} {o : List am_V × am_S} {m : am_M} {b : Int} {p : Int}  (H : ((¬ (am_s p ≤ 0)) → ((0 ≤ (am_s b) ∧ (am_s b) < 2147483648) ∧ 0 ≤ (p - 1) ∧ (p - 1) < 32)) ∧ (∀ y1 : Int, y1 = (if am_s p ≤ 0 then 0 else (if am_s ((if (am_s b).toNat.testBit (p - 1).toNat = true then 1 else 0)) = 0 then 0 else 1)) → ((0 ≤ (am_s b) ∧ (am_s b) < 2147483648) ∧ 0 ≤ (p + 1) ∧ (p + 1) < 32) ∧ (∀ y2 : Int, y2 = (if am_s ((if (am_s b).toNat.testBit (p + 1).toNat = true then 1 else 0)) = 0 then 0 else 1) → o = ([.inl (y1 + y2)], st0 m)))) : rn fx 1 (0, 0) 196 0 [some (.inl b), some (.inl p)] [] (st0 m) o := by
  refine r_ld (pc' := 1) hM_196 d_196_0 rfl rfl ?_
  obtain ⟨hz2, H⟩ := H
  have K : ∀ y1 : Int, y1 = (if am_s p ≤ 0 then 0 else (if am_s ((if (am_s b).toNat.testBit (p - 1).toNat = true then 1 else 0)) = 0 then 0 else 1)) → rn fx 1 (0, 0) 196 20 [some (.inl b), some (.inl p)] [.inl y1] (st0 m) o := by
    intro y1 hy1
    replace H := H y1 hy1
    refine r_ld (pc' := 21) hM_196 d_196_20 rfl rfl ?_
    refine r_stk (pc' := 22) (st' := [.inr (.inl (am_s b)), .inl y1]) hM_196 d_196_21 rfl rfl ?_
    refine r_ld (pc' := 23) hM_196 d_196_22 rfl rfl ?_
    refine r_k (pc' := 24) (v := .inl 1) hM_196 d_196_23 rfl rfl ?_
    refine r_b (pc' := 25) (z := (p + 1)) hM_196 d_196_24 rfl rfl ?_
    obtain ⟨hz4, H⟩ := H
    refine r_cl (pc' := 28) (c := (194, 2)) (a := [.inr (.inl (am_s b)), .inl (p + 1)]) (q := [.inl y1]) hM_196 d_196_25 rfl (by decide +kernel) hM_194 rfl rfl rfl (Nat.le_of_ble_eq_true rfl) (Nat.le_of_ble_eq_true rfl) (Or.inl rfl) (n_194  m (am_s b) (p + 1) hz4) (Nat.le_of_ble_eq_true rfl) ?_
    show rn fx 1 (0, 0) 196 28 [some (.inl b), some (.inl p)] [.inl ((if (am_s b).toNat.testBit (p + 1).toNat = true then 1 else 0)), .inl y1] (st0 m) o
    have K : ∀ y2 : Int, y2 = (if am_s ((if (am_s b).toNat.testBit (p + 1).toNat = true then 1 else 0)) = 0 then 0 else 1) → rn fx 1 (0, 0) 196 36 [some (.inl b), some (.inl p)] [.inl y2, .inl y1] (st0 m) o := by
      intro y2 hy2
      replace H := H y2 hy2
      refine r_b (pc' := 37) (z := (y1 + y2)) hM_196 d_196_36 rfl rfl ?_
      subst H
      exact rt_i hM_196 d_196_37 rfl
    replace K := K _ rfl
    clear H
    refine r_if (pc' := 35) (pc2 := 31) hM_196 d_196_28 (by decide) rfl (fun hz5 => ?_) (fun hz5 => ?_)
    · have hz5 : am_s ((if (am_s b).toNat.testBit (p + 1).toNat = true then 1 else 0)) = 0 := hz5
      rw [if_pos hz5] at K
      refine r_k (pc' := 36) (v := .inl 0) hM_196 d_196_35 rfl rfl ?_
      exact K
    · have hz5 : ¬ (am_s ((if (am_s b).toNat.testBit (p + 1).toNat = true then 1 else 0)) = 0) := hz5
      rw [if_neg hz5] at K
      refine r_k (pc' := 32) (v := .inl 1) hM_196 d_196_31 rfl rfl ?_
      refine r_go (pc' := 36) hM_196 d_196_32 (by decide) ?_
      exact K
  replace K := K _ rfl
  clear H
  refine r_if (pc' := 19) (pc2 := 4) hM_196 d_196_1 (by decide) rfl (fun hz1 => ?_) (fun hz1 => ?_)
  · have hz1 : am_s p ≤ 0 := hz1
    rw [if_pos hz1] at K
    refine r_k (pc' := 20) (v := .inl 0) hM_196 d_196_19 rfl rfl ?_
    exact K
  · have hz1 : ¬ (am_s p ≤ 0) := hz1
    rw [if_neg hz1] at K
    refine r_ld (pc' := 5) hM_196 d_196_4 rfl rfl ?_
    refine r_stk (pc' := 6) (st' := [.inr (.inl (am_s b))]) hM_196 d_196_5 rfl rfl ?_
    refine r_ld (pc' := 7) hM_196 d_196_6 rfl rfl ?_
    refine r_k (pc' := 8) (v := .inl 1) hM_196 d_196_7 rfl rfl ?_
    refine r_b (pc' := 9) (z := (p - 1)) hM_196 d_196_8 rfl rfl ?_
    refine r_cl (pc' := 12) (c := (194, 2)) (a := [.inr (.inl (am_s b)), .inl (p - 1)]) (q := []) hM_196 d_196_9 rfl (by decide +kernel) hM_194 rfl rfl rfl (Nat.le_of_ble_eq_true rfl) (Nat.le_of_ble_eq_true rfl) (Or.inl rfl) (n_194  m (am_s b) (p - 1) (hz2 hz1)) (Nat.le_of_ble_eq_true rfl) ?_
    show rn fx 1 (0, 0) 196 12 [some (.inl b), some (.inl p)] [.inl ((if (am_s b).toNat.testBit (p - 1).toNat = true then 1 else 0))] (st0 m) o
    refine r_if (pc' := 19) (pc2 := 15) hM_196 d_196_12 (by decide) rfl (fun hz3 => ?_) (fun hz3 => ?_)
    · have hz3 : am_s ((if (am_s b).toNat.testBit (p - 1).toNat = true then 1 else 0)) = 0 := hz3
      rw [if_pos hz3] at K
      refine r_k (pc' := 20) (v := .inl 0) hM_196 d_196_19 rfl rfl ?_
      exact K
    · have hz3 : ¬ (am_s ((if (am_s b).toNat.testBit (p - 1).toNat = true then 1 else 0)) = 0) := hz3
      rw [if_neg hz3] at K
      refine r_k (pc' := 16) (v := .inl 1) hM_196 d_196_15 rfl rfl ?_
      refine r_go (pc' := 20) hM_196 d_196_16 (by decide) ?_
      exact K
def v_196 (m : am_M) (b : Int) (p : Int) : Int := ((if am_s p ≤ 0 then 0 else (if am_s ((if (am_s b).toNat.testBit (p - 1).toNat = true then 1 else 0)) = 0 then 0 else 1)) + (if am_s ((if (am_s b).toNat.testBit (p + 1).toNat = true then 1 else 0)) = 0 then 0 else 1))
def q_196 (m : am_M) (b : Int) (p : Int) : Prop := ((¬ (am_s p ≤ 0)) → ((0 ≤ (am_s b) ∧ (am_s b) < 2147483648) ∧ 0 ≤ (p - 1) ∧ (p - 1) < 32)) ∧ ((0 ≤ (am_s b) ∧ (am_s b) < 2147483648) ∧ 0 ≤ (p + 1) ∧ (p + 1) < 32)
/-- HeardBarrelsModel.beside -/
theorem c_196 {fx : am_X0}   (m : am_M) (b : Int) (p : Int) (hq : q_196 m b p) : rn fx 1 (0, 0) 196 0 (am_ent 2 [.inl b, .inl p]) [] (st0 m) ([.inl (v_196 m b p)], st0 m) := by
  unfold q_196 at hq
  show rn fx 1 (0, 0) 196 0 [some (.inl b), some (.inl p)] [] (st0 m) _
  refine t_196_0  ?_
  obtain ⟨hb0_0, hq⟩ := hq
  refine ⟨hb0_0, ?_⟩
  intro y1 hy1
  subst hy1
  have hb0_0 := hq
  refine ⟨hb0_0, ?_⟩
  intro y2 hy2
  subst hy2
  simp only [v_196]
theorem q_196_ok (m : am_M) (b p : Int) (hq : (0 ≤ b ∧ b < 2147483648) ∧ 0 ≤ p ∧ p < 12) : q_196 m b p := by
  unfold q_196
  simp (disch := omega) only [am_s_id]
  refine ⟨fun _ => by omega, by omega⟩
theorem v_196_ok (m : am_M) (b p : Int) (hq : (0 ≤ b ∧ b < 2147483648) ∧ 0 ≤ p ∧ p < 12) : v_196 m b p = bsd b.toNat p.toNat := by
  obtain ⟨i, rfl⟩ : ∃ i : Nat, p = (i : Int) := ⟨p.toNat, by omega⟩
  unfold v_196 bsd
  simp only [as_ite]
  rw [am_s_id (z := b) (by omega) (by omega), am_s_id (z := (i : Int)) (by omega) (by omega), Int.toNat_natCast, show ((i : Int) + 1).toNat = i + 1 by omega, show ((i : Int) - 1).toNat = i - 1 by omega]
  cases h1 : b.toNat.testBit (i + 1) <;> cases h2 : b.toNat.testBit (i - 1) <;> by_cases h3 : 0 < i
  all_goals (have h4 : ((i : Int) ≤ 0) = (¬ 0 < i) := by (apply propext; omega))
  all_goals first | (simp [h3, h4]; done) | (simp [h3, h4]; omega)
theorem n_196 {fx : am_X0}   (m : am_M) (b : Int) (p : Int) (hq : (0 ≤ b ∧ b < 2147483648) ∧ 0 ≤ p ∧ p < 12) : rn fx 1 (0, 0) 196 0 (am_ent 2 [.inl b, .inl p]) [] (st0 m) ([.inl (bsd b.toNat p.toNat)], st0 m) := by
  have h := c_196 (fx := fx)  m b p (q_196_ok  m b p hq)
  rw [v_196_ok  m b p hq] at h
  exact h
theorem t_183_0 {fx : am_X0} {o : List am_V × am_S} {m : am_M} {p : Int}  (H : o = ([.inl ((if am_t 0 ≤ am_t p ∧ am_t p ≤ am_t (am_s ((m 54 0) - 1)) then 1 else 0))], st0 m)) : rn fx 1 (0, 0) 183 0 [some (.inr (.inr (some 53))), some (.inr (.inl p)), none] [] (st0 m) o := by
  refine r_ld (pc' := 1) hM_183 d_183_0 rfl rfl ?_
  refine r_k (pc' := 2) (v := .inr (.inl 0)) hM_183 d_183_1 rfl rfl ?_
  refine r_ld (pc' := 3) hM_183 d_183_2 rfl rfl ?_
  refine r_gR (pc' := 6) (v := 54) hM_183 d_183_3 rfl (by decide +kernel) ?_
  refine r_k (pc' := 7) (v := .inl 0) hM_183 d_183_6 rfl rfl ?_
  refine r_iae (pc' := 8) (n := 168) (z := (m 54 0)) hM_183 d_183_7 rfl rfl (by decide) (by rw [show (am_s 0).toNat = 0 by decide]) ?_
  refine r_k (pc' := 9) (v := .inl 1) hM_183 d_183_8 rfl rfl ?_
  refine r_b (pc' := 10) (z := ((m 54 0) - 1)) hM_183 d_183_9 rfl rfl ?_
  refine r_stk (pc' := 11) (st' := [.inr (.inl (am_s ((m 54 0) - 1))), .inr (.inl 0), .inr (.inl p)]) hM_183 d_183_10 rfl rfl ?_
  refine r_cl (pc' := 14) (c := (167, 2)) (a := [.inr (.inl p), .inr (.inl 0), .inr (.inl (am_s ((m 54 0) - 1)))]) (q := []) hM_183 d_183_11 rfl (by decide +kernel) hM_167 rfl rfl rfl (Nat.le_of_ble_eq_true rfl) (Nat.le_of_ble_eq_true rfl) (Or.inl rfl) (n_167  m p 0 (am_s ((m 54 0) - 1))) (Nat.le_of_ble_eq_true rfl) ?_
  show rn fx 1 (0, 0) 183 14 [some (.inr (.inr (some 53))), some (.inr (.inl p)), none] [.inl ((if am_t 0 ≤ am_t p ∧ am_t p ≤ am_t (am_s ((m 54 0) - 1)) then 1 else 0))] (st0 m) o
  subst H
  refine rt_z hM_183 d_183_14 rfl ?_
  repeat' first | exact Or.inl rfl | exact Or.inr rfl | apply z01_ite
def v_183 (m : am_M) (p : Int) : Int := ((if am_t 0 ≤ am_t p ∧ am_t p ≤ am_t (am_s ((m 54 0) - 1)) then 1 else 0))
/-- HeardBarrelsModel.isPlace -/
theorem c_183 {fx : am_X0}   (m : am_M) (p : Int)  : rn fx 1 (0, 0) 183 0 (am_ent 3 [.inr (.inr (some 53)), .inr (.inl p)]) [] (st0 m) ([.inl (v_183 m p)], st0 m) := by
  show rn fx 1 (0, 0) 183 0 [some (.inr (.inr (some 53))), some (.inr (.inl p)), none] [] (st0 m) _
  refine t_183_0  ?_
  simp only [v_183]
theorem v_183_ok (m : am_M) (p : Int) (hq : WFG (m 54)) : v_183 m p = (if 0 ≤ am_t p ∧ am_t p < m 54 0 then 1 else 0) := by
  obtain ⟨hN, -⟩ := hq
  unfold v_183
  rw [am_t_id (z := 0) (by omega) (by omega), am_s_id (by omega) (by omega), am_t_id (z := m 54 0 - 1) (by omega) (by omega)]
  by_cases h : 0 ≤ am_t p ∧ am_t p < m 54 0
  · rw [if_pos h, if_pos (by omega)]
  · rw [if_neg h, if_neg (by omega)]
theorem n_183 {fx : am_X0}   (m : am_M) (p : Int) (hq : WFG (m 54)) : rn fx 1 (0, 0) 183 0 (am_ent 3 [.inr (.inr (some 53)), .inr (.inl p)]) [] (st0 m) ([.inl ((if 0 ≤ am_t p ∧ am_t p < m 54 0 then 1 else 0))], st0 m) := by
  have h := c_183 (fx := fx)  m p 
  rw [v_183_ok  m p hq] at h
  exact h
theorem t_187_0 {fx : am_X0} {o : List am_V × am_S} {m : am_M} {p : Int} {w : Int}  (H : (WFG (m 54)) ∧ (((¬ (am_s ((if 0 ≤ am_t (am_s p) ∧ am_t (am_s p) < m 54 0 then 1 else 0)) = 0)) → (0 ≤ am_s (8 + p) ∧ am_s (8 + p) < (168 : Nat))) ∧ (∀ y1 : Int, y1 = (if am_s ((if 0 ≤ am_t (am_s p) ∧ am_t (am_s p) < m 54 0 then 1 else 0)) = 0 then 0 else (if ¬ am_s (m 54 ((am_s (8 + p)).toNat)) = am_s w then 0 else 1)) → o = ([.inl y1], st0 m)))) : rn fx 2 (0, 0) 187 0 [some (.inr (.inr (some 53))), some (.inl p), some (.inl w)] [] (st0 m) o := by
  refine r_ld (pc' := 1) hM_187 d_187_0 rfl rfl ?_
  refine r_ld (pc' := 2) hM_187 d_187_1 rfl rfl ?_
  refine r_stk (pc' := 3) (st' := [.inr (.inl (am_s p)), .inr (.inr (some 53))]) hM_187 d_187_2 rfl rfl ?_
  obtain ⟨hz1, H⟩ := H
  refine r_cl (pc' := 6) (c := (183, 0)) (a := [.inr (.inr (some 53)), .inr (.inl (am_s p))]) (q := []) hM_187 d_187_3 rfl (by decide +kernel) hM_183 rfl rfl rfl (Nat.le_of_ble_eq_true rfl) (Nat.le_of_ble_eq_true rfl) (Or.inr rfl) (n_183  m (am_s p) hz1) (Nat.le_of_ble_eq_true rfl) ?_
  show rn fx 2 (0, 0) 187 6 [some (.inr (.inr (some 53))), some (.inl p), some (.inl w)] [.inl ((if 0 ≤ am_t (am_s p) ∧ am_t (am_s p) < m 54 0 then 1 else 0))] (st0 m) o
  obtain ⟨hz3, H⟩ := H
  have K : ∀ y1 : Int, y1 = (if am_s ((if 0 ≤ am_t (am_s p) ∧ am_t (am_s p) < m 54 0 then 1 else 0)) = 0 then 0 else (if ¬ am_s (m 54 ((am_s (8 + p)).toNat)) = am_s w then 0 else 1)) → rn fx 2 (0, 0) 187 27 [some (.inr (.inr (some 53))), some (.inl p), some (.inl w)] [.inl y1] (st0 m) o := by
    intro y1 hy1
    replace H := H y1 hy1
    subst H
    refine rt_z hM_187 d_187_27 rfl ?_
    rw [hy1]
    repeat' first | exact Or.inl rfl | exact Or.inr rfl | apply z01_ite
  replace K := K _ rfl
  clear H
  refine r_if (pc' := 26) (pc2 := 9) hM_187 d_187_6 (by decide) rfl (fun hz2 => ?_) (fun hz2 => ?_)
  · have hz2 : am_s ((if 0 ≤ am_t (am_s p) ∧ am_t (am_s p) < m 54 0 then 1 else 0)) = 0 := hz2
    rw [if_pos hz2] at K
    refine r_k (pc' := 27) (v := .inl 0) hM_187 d_187_26 rfl rfl ?_
    exact K
  · have hz2 : ¬ (am_s ((if 0 ≤ am_t (am_s p) ∧ am_t (am_s p) < m 54 0 then 1 else 0)) = 0) := hz2
    rw [if_neg hz2] at K
    refine r_ld (pc' := 10) hM_187 d_187_9 rfl rfl ?_
    refine r_gR (pc' := 13) (v := 54) hM_187 d_187_10 rfl (by decide +kernel) ?_
    refine r_k (pc' := 15) (v := .inl 8) hM_187 d_187_13 rfl rfl ?_
    refine r_ld (pc' := 16) hM_187 d_187_15 rfl rfl ?_
    refine r_b (pc' := 17) (z := (8 + p)) hM_187 d_187_16 rfl rfl ?_
    refine r_ia (pc' := 18) (n := 168) hM_187 d_187_17 rfl rfl (hz3 hz2) ?_
    refine r_ld (pc' := 19) hM_187 d_187_18 rfl rfl ?_
    refine r_ic (pc' := 26) (pc2 := 22) hM_187 d_187_19 (by decide) rfl (fun hz4 => ?_) (fun hz4 => ?_)
    · have hz4 : ¬ am_s (m 54 ((am_s (8 + p)).toNat)) = am_s w := hz4
      rw [if_pos hz4] at K
      refine r_k (pc' := 27) (v := .inl 0) hM_187 d_187_26 rfl rfl ?_
      exact K
    · have hz4 : ¬ (¬ am_s (m 54 ((am_s (8 + p)).toNat)) = am_s w) := hz4
      rw [if_neg hz4] at K
      refine r_k (pc' := 23) (v := .inl 1) hM_187 d_187_22 rfl rfl ?_
      refine r_go (pc' := 27) hM_187 d_187_23 (by decide) ?_
      exact K
def v_187 (m : am_M) (p : Int) (w : Int) : Int := (if am_s ((if 0 ≤ am_t (am_s p) ∧ am_t (am_s p) < m 54 0 then 1 else 0)) = 0 then 0 else (if ¬ am_s (m 54 ((am_s (8 + p)).toNat)) = am_s w then 0 else 1))
def q_187 (m : am_M) (p : Int) (w : Int) : Prop := (WFG (m 54)) ∧ ((¬ (am_s ((if 0 ≤ am_t (am_s p) ∧ am_t (am_s p) < m 54 0 then 1 else 0)) = 0)) → (0 ≤ am_s (8 + p) ∧ am_s (8 + p) < (168 : Nat)))
/-- HeardBarrelsModel.is -/
theorem c_187 {fx : am_X0}   (m : am_M) (p : Int) (w : Int) (hq : q_187 m p w) : rn fx 2 (0, 0) 187 0 (am_ent 3 [.inr (.inr (some 53)), .inl p, .inl w]) [] (st0 m) ([.inl (v_187 m p w)], st0 m) := by
  unfold q_187 at hq
  show rn fx 2 (0, 0) 187 0 [some (.inr (.inr (some 53))), some (.inl p), some (.inl w)] [] (st0 m) _
  refine t_187_0  ?_
  obtain ⟨hb0_0, hq⟩ := hq
  refine ⟨hb0_0, ?_⟩
  have hb0_0 := hq
  refine ⟨hb0_0, ?_⟩
  intro y1 hy1
  subst hy1
  simp only [v_187]
theorem q_187_ok (m : am_M) (p w : Int) (hq : WFG (m 54)) : q_187 m p w := by
  unfold q_187
  simp only [as_ite, am_t_s]
  refine ⟨hq, fun h => ?_⟩
  have h := Decidable.not_not.mp h
  obtain ⟨hN, -⟩ := hq
  have e : am_s (8 + p) = 8 + am_s p := by
    have e1 : am_s (8 + p) = am_s (8 + am_s p) := by
      unfold am_s
      rw [Int32.ofInt_add, Int32.ofInt_add, Int32.ofInt_toInt]
    rw [e1, am_s_id (by omega) (by omega)]
  omega
theorem v_187_ok (m : am_M) (p w : Int) (hq : WFG (m 54)) : v_187 m p w = (if (0 ≤ am_s p ∧ am_s p < m 54 0) ∧ nv (m 54) (8 + (am_s p).toNat) = am_s w then 1 else 0) := by
  obtain ⟨hN, hK, -⟩ := hq
  unfold v_187
  simp only [as_ite, am_t_s]
  by_cases h : 0 ≤ am_s p ∧ am_s p < m 54 0
  · have e : am_s (8 + p) = 8 + am_s p := by rw [am_s_add, am_s_id (by omega) (by omega)]
    have hk := hK (am_s p).toNat (by omega)
    rw [if_neg (Decidable.not_not.mpr h), e, show (8 + am_s p).toNat = 8 + (am_s p).toNat by omega, am_s_id (z := m 54 (8 + (am_s p).toNat)) (by omega) (by omega), nv_pl (by omega) (by omega) (by omega)]
    by_cases h2 : m 54 (8 + (am_s p).toNat) = am_s w
    · rw [if_neg (Decidable.not_not.mpr h2), if_pos ⟨h, h2⟩]
    · rw [if_pos h2, if_neg (fun q => h2 q.2)]
  · rw [if_pos h, if_neg (fun q => h q.1)]
theorem n_187 {fx : am_X0}   (m : am_M) (p : Int) (w : Int) (hq : WFG (m 54)) : rn fx 2 (0, 0) 187 0 (am_ent 3 [.inr (.inr (some 53)), .inl p, .inl w]) [] (st0 m) ([.inl ((if (0 ≤ am_s p ∧ am_s p < m 54 0) ∧ nv (m 54) (8 + (am_s p).toNat) = am_s w then 1 else 0))], st0 m) := by
  have h := c_187 (fx := fx)  m p w (q_187_ok  m p w hq)
  rw [v_187_ok  m p w hq] at h
  exact h
