theorem bx_orL {a b : Nat} (ha : a < 2 ^ 62) (hb : b < 2 ^ 62) : am_lorL (a : Int) (b : Int) = ((a ||| b : Nat) : Int) := by
  have h : lN a ||| lN b = lN (a ||| b) := by
    apply Int64.toBitVec_inj.mp
    show BitVec.ofNat 64 a ||| BitVec.ofNat 64 b = BitVec.ofNat 64 (a ||| b)
    apply BitVec.eq_of_toNat_eq
    simp [BitVec.toNat_ofNat, Nat.or_mod_two_pow]
  rw [am_lorL, lN_of, lN_of, h]
  have h2 : a ||| b < 2 ^ 62 := Nat.or_lt_two_pow ha hb
  show am_t ((a ||| b : Nat) : Int) = _
  exact bt_t (by omega)
theorem bx_xorL {a b : Nat} (ha : a < 2 ^ 62) (hb : b < 2 ^ 62) : am_lxorL (a : Int) (b : Int) = ((a ^^^ b : Nat) : Int) := by
  have h : lN a ^^^ lN b = lN (a ^^^ b) := by
    apply Int64.toBitVec_inj.mp
    show BitVec.ofNat 64 a ^^^ BitVec.ofNat 64 b = BitVec.ofNat 64 (a ^^^ b)
    apply BitVec.eq_of_toNat_eq
    simp [BitVec.toNat_ofNat, Nat.xor_mod_two_pow]
  rw [am_lxorL, lN_of, lN_of, h]
  have h2 : a ^^^ b < 2 ^ 62 := Nat.xor_lt_two_pow ha hb
  show am_t ((a ^^^ b : Nat) : Int) = _
  exact bt_t (by omega)
theorem bx_ushrL {a i : Nat} (ha : a < 2 ^ 62) (hi : i < 64) : am_ushrL (a : Int) (i : Int) = ((a / 2 ^ i : Nat) : Int) := by
  have hD : ∀ i, i < 64 → ((nI i).toInt64.toUInt64 &&& Int64.toUInt64 63).toNat % 64 = i := by decide +kernel
  have h : (lN a).toUInt64 >>> ((nI i).toInt64.toUInt64 &&& Int64.toUInt64 63) = UInt64.ofNat (a / 2 ^ i) := by
    apply UInt64.toNat_inj.mp
    rw [UInt64.toNat_shiftRight, hD i hi]
    show (BitVec.ofNat 64 a).toNat >>> i = (BitVec.ofNat 64 (a / 2 ^ i)).toNat
    rw [BitVec.toNat_ofNat, BitVec.toNat_ofNat, Nat.mod_eq_of_lt (by omega), Nat.shiftRight_eq_div_pow, Nat.mod_eq_of_lt (Nat.lt_of_le_of_lt (Nat.div_le_self _ _) (by omega))]
  rw [am_ushrL, lN_of, bx_ofN, h]
  have h2 : a / 2 ^ i ≤ a := Nat.div_le_self _ _
  show am_t ((a / 2 ^ i : Nat) : Int) = _
  exact bt_t (by omega)
theorem bx_and' {a b : Nat} (h : b < 2147483648) : am_and (a : Int) (b : Int) = ((a &&& b : Nat) : Int) := by
  rw [am_and, bx_ofN, bx_ofN, nb_and]
  exact bx_toI (Nat.lt_of_le_of_lt Nat.and_le_right h)
theorem bx_xor {a b k : Nat} (ha : a < 2 ^ k) (hb : b < 2 ^ k) (hk : k ≤ 31) : am_xor (a : Int) (b : Int) = ((a ^^^ b : Nat) : Int) := by
  have h : nI a ^^^ nI b = nI (a ^^^ b) := by
    apply Int32.toBitVec_inj.mp
    show BitVec.ofNat 32 a ^^^ BitVec.ofNat 32 b = BitVec.ofNat 32 (a ^^^ b)
    apply BitVec.eq_of_toNat_eq
    simp [BitVec.toNat_ofNat, Nat.xor_mod_two_pow]
  rw [am_xor, bx_ofN, bx_ofN, h]
  have h1 : a ^^^ b < 2 ^ k := Nat.xor_lt_two_pow ha hb
  have h2 : 2 ^ k ≤ 2 ^ 31 := Nat.pow_le_pow_right (by decide) hk
  exact bx_toI (by omega)
/-! twelve groups of four bits, pressed to one bit each -/
def pn1 (X : Nat) : Nat := X ||| X / 2 ^ 1
def pn2 (X : Nat) : Nat := (pn1 X ||| pn1 X / 2 ^ 2) &&& 18764998447377
def pn3 (X : Nat) : Nat := (pn2 X ||| pn2 X / 2 ^ 3) &&& 3311470314243
def pn4 (X : Nat) : Nat := (pn3 X ||| pn3 X / 2 ^ 6) &&& 64425492495
def pnN (X : Nat) : Nat := (pn4 X ||| pn4 X / 2 ^ 12 ||| pn4 X / 2 ^ 24) &&& 4095
theorem mskb {c b : Nat} {P : Nat → Bool} (hc : c < 2 ^ b) (h : ∀ j, j < b → c.testBit j = P j) (hP : ∀ j, b ≤ j → P j = false) : ∀ j, c.testBit j = P j := by
  intro j
  by_cases hj : j < b
  · exact h j hj
  · rw [hP j (by omega)]
    exact Nat.testBit_lt_two_pow (Nat.lt_of_lt_of_le hc (Nat.pow_le_pow_right (by decide : 0 < 2) (by omega)))
theorem mkb2 : ∀ j, (18764998447377 : Nat).testBit j = decide (j < 48 ∧ j % 4 = 0) := mskb (b := 48) (by decide) (by decide +kernel) (fun j hj => decide_eq_false (by omega))
theorem mkb3 : ∀ j, (3311470314243 : Nat).testBit j = decide (j < 48 ∧ j % 8 < 2) := mskb (b := 48) (by decide) (by decide +kernel) (fun j hj => decide_eq_false (by omega))
theorem mkb4 : ∀ j, (64425492495 : Nat).testBit j = decide (j < 48 ∧ j % 16 < 4) := mskb (b := 48) (by decide) (by decide +kernel) (fun j hj => decide_eq_false (by omega))
theorem mkb5 : ∀ j, (4095 : Nat).testBit j = decide (j < 12) := mskb (b := 12) (by decide) (by decide +kernel) (fun j hj => decide_eq_false (by omega))
def nib (X i : Nat) : Bool := X.testBit (4 * i) || X.testBit (4 * i + 1) || X.testBit (4 * i + 2) || X.testBit (4 * i + 3)
theorem pn2_bit {X j : Nat} : (pn2 X).testBit j = (decide (j < 48 ∧ j % 4 = 0) && nib X (j / 4)) := by
  unfold pn2 pn1
  rw [Nat.testBit_and, mkb2, Nat.testBit_or, Nat.testBit_div_two_pow, Nat.testBit_or, Nat.testBit_or, Nat.testBit_div_two_pow, Nat.testBit_div_two_pow]
  by_cases h : j < 48 ∧ j % 4 = 0
  · rw [decide_eq_true h, Bool.and_true, Bool.true_and]
    unfold nib
    rw [show 4 * (j / 4) = j by omega, show j + 2 + 1 = j + 3 by omega]
    cases X.testBit j <;> cases X.testBit (j + 1) <;> rfl
  · rw [decide_eq_false h, Bool.and_false, Bool.false_and]
theorem pn3_bit {X j : Nat} : (pn3 X).testBit j = (decide (j < 48 ∧ j % 8 < 2) && nib X (j / 8 * 2 + j % 8)) := by
  unfold pn3
  rw [Nat.testBit_and, mkb3, Nat.testBit_or, Nat.testBit_div_two_pow, pn2_bit, pn2_bit]
  by_cases h : j < 48 ∧ j % 8 < 2
  · rw [decide_eq_true h, Bool.and_true, Bool.true_and]
    by_cases h0 : j % 8 = 0
    · rw [decide_eq_true (by omega), decide_eq_false (by omega), Bool.true_and, Bool.false_and, Bool.or_false]
      congr 1
      omega
    · rw [decide_eq_false (by omega), decide_eq_true (by omega), Bool.true_and, Bool.false_and, Bool.false_or]
      congr 1
      omega
  · rw [decide_eq_false h, Bool.and_false, Bool.false_and]
theorem pn4_bit {X j : Nat} : (pn4 X).testBit j = (decide (j < 48 ∧ j % 16 < 4) && nib X (j / 16 * 4 + j % 16)) := by
  unfold pn4
  rw [Nat.testBit_and, mkb4, Nat.testBit_or, Nat.testBit_div_two_pow, pn3_bit, pn3_bit]
  by_cases h : j < 48 ∧ j % 16 < 4
  · rw [decide_eq_true h, Bool.and_true, Bool.true_and]
    by_cases h0 : j % 16 < 2
    · rw [decide_eq_true (by omega), decide_eq_false (by omega), Bool.true_and, Bool.false_and, Bool.or_false]
      congr 1
      omega
    · rw [decide_eq_false (by omega), decide_eq_true (by omega), Bool.true_and, Bool.false_and, Bool.false_or]
      congr 1
      omega
  · rw [decide_eq_false h, Bool.and_false, Bool.false_and]
theorem pnN_bit {X i : Nat} : (pnN X).testBit i = (decide (i < 12) && nib X i) := by
  unfold pnN
  rw [Nat.testBit_and, mkb5, Nat.testBit_or, Nat.testBit_or, Nat.testBit_div_two_pow, Nat.testBit_div_two_pow, pn4_bit, pn4_bit, pn4_bit]
  by_cases h : i < 12
  · rw [decide_eq_true h, Bool.and_true, Bool.true_and]
    by_cases h0 : i < 4
    · rw [decide_eq_true (by omega), decide_eq_false (by omega), decide_eq_false (by omega), Bool.true_and, Bool.false_and, Bool.false_and, Bool.or_false, Bool.or_false]
      congr 1
      omega
    · by_cases h1 : i < 8
      · rw [decide_eq_false (by omega), decide_eq_true (by omega), decide_eq_false (by omega), Bool.true_and, Bool.false_and, Bool.false_and, Bool.or_false, Bool.false_or]
        congr 1
        omega
      · rw [decide_eq_false (by omega), decide_eq_false (by omega), decide_eq_true (by omega), Bool.true_and, Bool.false_and, Bool.false_and, Bool.false_or, Bool.false_or]
        congr 1
        omega
  · rw [decide_eq_false h, Bool.and_false, Bool.false_and]
theorem pnN_lt (X : Nat) : pnN X < 4096 := by
  have : pnN X ≤ 4095 := Nat.and_le_right
  omega
theorem t_109_0 {fx : am_X0} {o : List am_V × am_S} {m : am_M} {x : Int}  (H : o = ([.inl (am_and (am_lorL (am_lorL (am_landL (am_lorL (am_landL (am_lorL (am_landL (am_lorL (am_lorL x (am_ushrL x 1)) (am_ushrL (am_lorL x (am_ushrL x 1)) 2)) 18764998447377) (am_ushrL (am_landL (am_lorL (am_lorL x (am_ushrL x 1)) (am_ushrL (am_lorL x (am_ushrL x 1)) 2)) 18764998447377) 3)) 3311470314243) (am_ushrL (am_landL (am_lorL (am_landL (am_lorL (am_lorL x (am_ushrL x 1)) (am_ushrL (am_lorL x (am_ushrL x 1)) 2)) 18764998447377) (am_ushrL (am_landL (am_lorL (am_lorL x (am_ushrL x 1)) (am_ushrL (am_lorL x (am_ushrL x 1)) 2)) 18764998447377) 3)) 3311470314243) 6)) 64425492495) (am_ushrL (am_landL (am_lorL (am_landL (am_lorL (am_landL (am_lorL (am_lorL x (am_ushrL x 1)) (am_ushrL (am_lorL x (am_ushrL x 1)) 2)) 18764998447377) (am_ushrL (am_landL (am_lorL (am_lorL x (am_ushrL x 1)) (am_ushrL (am_lorL x (am_ushrL x 1)) 2)) 18764998447377) 3)) 3311470314243) (am_ushrL (am_landL (am_lorL (am_landL (am_lorL (am_lorL x (am_ushrL x 1)) (am_ushrL (am_lorL x (am_ushrL x 1)) 2)) 18764998447377) (am_ushrL (am_landL (am_lorL (am_lorL x (am_ushrL x 1)) (am_ushrL (am_lorL x (am_ushrL x 1)) 2)) 18764998447377) 3)) 3311470314243) 6)) 64425492495) 12)) (am_ushrL (am_landL (am_lorL (am_landL (am_lorL (am_landL (am_lorL (am_lorL x (am_ushrL x 1)) (am_ushrL (am_lorL x (am_ushrL x 1)) 2)) 18764998447377) (am_ushrL (am_landL (am_lorL (am_lorL x (am_ushrL x 1)) (am_ushrL (am_lorL x (am_ushrL x 1)) 2)) 18764998447377) 3)) 3311470314243) (am_ushrL (am_landL (am_lorL (am_landL (am_lorL (am_lorL x (am_ushrL x 1)) (am_ushrL (am_lorL x (am_ushrL x 1)) 2)) 18764998447377) (am_ushrL (am_landL (am_lorL (am_lorL x (am_ushrL x 1)) (am_ushrL (am_lorL x (am_ushrL x 1)) 2)) 18764998447377) 3)) 3311470314243) 6)) 64425492495) 24)) 4095)], st0 m)) : rn fx 0 (0, 0) 109 0 [some (.inr (.inl x)), none, none, none] [] (st0 m) o := by
  refine r_ld (pc' := 1) hM_109 d_109_0 rfl rfl ?_
  refine r_ld (pc' := 2) hM_109 d_109_1 rfl rfl ?_
  refine r_k (pc' := 3) (v := .inl 1) hM_109 d_109_2 rfl rfl ?_
  refine r_stk (pc' := 4) (st' := [.inr (.inl (am_ushrL x 1)), .inr (.inl x)]) hM_109 d_109_3 rfl rfl ?_
  refine r_stk (pc' := 5) (st' := [.inr (.inl (am_lorL x (am_ushrL x 1)))]) hM_109 d_109_4 rfl rfl ?_
  refine r_sto (pc' := 6) (ls' := [some (.inr (.inl x)), none, some (.inr (.inl (am_lorL x (am_ushrL x 1)))), none]) hM_109 d_109_5 rfl rfl ?_
  refine r_ld (pc' := 7) hM_109 d_109_6 rfl rfl ?_
  refine r_ld (pc' := 8) hM_109 d_109_7 rfl rfl ?_
  refine r_k (pc' := 9) (v := .inl 2) hM_109 d_109_8 rfl rfl ?_
  refine r_stk (pc' := 10) (st' := [.inr (.inl (am_ushrL (am_lorL x (am_ushrL x 1)) 2)), .inr (.inl (am_lorL x (am_ushrL x 1)))]) hM_109 d_109_9 rfl rfl ?_
  refine r_stk (pc' := 11) (st' := [.inr (.inl (am_lorL (am_lorL x (am_ushrL x 1)) (am_ushrL (am_lorL x (am_ushrL x 1)) 2)))]) hM_109 d_109_10 rfl rfl ?_
  refine r_k (pc' := 14) (v := .inr (.inl 18764998447377)) hM_109 d_109_11 rfl (by decide +kernel) ?_
  refine r_stk (pc' := 15) (st' := [.inr (.inl (am_landL (am_lorL (am_lorL x (am_ushrL x 1)) (am_ushrL (am_lorL x (am_ushrL x 1)) 2)) 18764998447377))]) hM_109 d_109_14 rfl rfl ?_
  refine r_sto (pc' := 16) (ls' := [some (.inr (.inl x)), none, some (.inr (.inl (am_landL (am_lorL (am_lorL x (am_ushrL x 1)) (am_ushrL (am_lorL x (am_ushrL x 1)) 2)) 18764998447377))), none]) hM_109 d_109_15 rfl rfl ?_
  refine r_ld (pc' := 17) hM_109 d_109_16 rfl rfl ?_
  refine r_ld (pc' := 18) hM_109 d_109_17 rfl rfl ?_
  refine r_k (pc' := 19) (v := .inl 3) hM_109 d_109_18 rfl rfl ?_
  refine r_stk (pc' := 20) (st' := [.inr (.inl (am_ushrL (am_landL (am_lorL (am_lorL x (am_ushrL x 1)) (am_ushrL (am_lorL x (am_ushrL x 1)) 2)) 18764998447377) 3)), .inr (.inl (am_landL (am_lorL (am_lorL x (am_ushrL x 1)) (am_ushrL (am_lorL x (am_ushrL x 1)) 2)) 18764998447377))]) hM_109 d_109_19 rfl rfl ?_
  refine r_stk (pc' := 21) (st' := [.inr (.inl (am_lorL (am_landL (am_lorL (am_lorL x (am_ushrL x 1)) (am_ushrL (am_lorL x (am_ushrL x 1)) 2)) 18764998447377) (am_ushrL (am_landL (am_lorL (am_lorL x (am_ushrL x 1)) (am_ushrL (am_lorL x (am_ushrL x 1)) 2)) 18764998447377) 3)))]) hM_109 d_109_20 rfl rfl ?_
  refine r_k (pc' := 24) (v := .inr (.inl 3311470314243)) hM_109 d_109_21 rfl (by decide +kernel) ?_
  refine r_stk (pc' := 25) (st' := [.inr (.inl (am_landL (am_lorL (am_landL (am_lorL (am_lorL x (am_ushrL x 1)) (am_ushrL (am_lorL x (am_ushrL x 1)) 2)) 18764998447377) (am_ushrL (am_landL (am_lorL (am_lorL x (am_ushrL x 1)) (am_ushrL (am_lorL x (am_ushrL x 1)) 2)) 18764998447377) 3)) 3311470314243))]) hM_109 d_109_24 rfl rfl ?_
  refine r_sto (pc' := 26) (ls' := [some (.inr (.inl x)), none, some (.inr (.inl (am_landL (am_lorL (am_landL (am_lorL (am_lorL x (am_ushrL x 1)) (am_ushrL (am_lorL x (am_ushrL x 1)) 2)) 18764998447377) (am_ushrL (am_landL (am_lorL (am_lorL x (am_ushrL x 1)) (am_ushrL (am_lorL x (am_ushrL x 1)) 2)) 18764998447377) 3)) 3311470314243))), none]) hM_109 d_109_25 rfl rfl ?_
  refine r_ld (pc' := 27) hM_109 d_109_26 rfl rfl ?_
  refine r_ld (pc' := 28) hM_109 d_109_27 rfl rfl ?_
  refine r_k (pc' := 30) (v := .inl 6) hM_109 d_109_28 rfl rfl ?_
  refine r_stk (pc' := 31) (st' := [.inr (.inl (am_ushrL (am_landL (am_lorL (am_landL (am_lorL (am_lorL x (am_ushrL x 1)) (am_ushrL (am_lorL x (am_ushrL x 1)) 2)) 18764998447377) (am_ushrL (am_landL (am_lorL (am_lorL x (am_ushrL x 1)) (am_ushrL (am_lorL x (am_ushrL x 1)) 2)) 18764998447377) 3)) 3311470314243) 6)), .inr (.inl (am_landL (am_lorL (am_landL (am_lorL (am_lorL x (am_ushrL x 1)) (am_ushrL (am_lorL x (am_ushrL x 1)) 2)) 18764998447377) (am_ushrL (am_landL (am_lorL (am_lorL x (am_ushrL x 1)) (am_ushrL (am_lorL x (am_ushrL x 1)) 2)) 18764998447377) 3)) 3311470314243))]) hM_109 d_109_30 rfl rfl ?_
  refine r_stk (pc' := 32) (st' := [.inr (.inl (am_lorL (am_landL (am_lorL (am_landL (am_lorL (am_lorL x (am_ushrL x 1)) (am_ushrL (am_lorL x (am_ushrL x 1)) 2)) 18764998447377) (am_ushrL (am_landL (am_lorL (am_lorL x (am_ushrL x 1)) (am_ushrL (am_lorL x (am_ushrL x 1)) 2)) 18764998447377) 3)) 3311470314243) (am_ushrL (am_landL (am_lorL (am_landL (am_lorL (am_lorL x (am_ushrL x 1)) (am_ushrL (am_lorL x (am_ushrL x 1)) 2)) 18764998447377) (am_ushrL (am_landL (am_lorL (am_lorL x (am_ushrL x 1)) (am_ushrL (am_lorL x (am_ushrL x 1)) 2)) 18764998447377) 3)) 3311470314243) 6)))]) hM_109 d_109_31 rfl rfl ?_
  refine r_k (pc' := 35) (v := .inr (.inl 64425492495)) hM_109 d_109_32 rfl (by decide +kernel) ?_
  refine r_stk (pc' := 36) (st' := [.inr (.inl (am_landL (am_lorL (am_landL (am_lorL (am_landL (am_lorL (am_lorL x (am_ushrL x 1)) (am_ushrL (am_lorL x (am_ushrL x 1)) 2)) 18764998447377) (am_ushrL (am_landL (am_lorL (am_lorL x (am_ushrL x 1)) (am_ushrL (am_lorL x (am_ushrL x 1)) 2)) 18764998447377) 3)) 3311470314243) (am_ushrL (am_landL (am_lorL (am_landL (am_lorL (am_lorL x (am_ushrL x 1)) (am_ushrL (am_lorL x (am_ushrL x 1)) 2)) 18764998447377) (am_ushrL (am_landL (am_lorL (am_lorL x (am_ushrL x 1)) (am_ushrL (am_lorL x (am_ushrL x 1)) 2)) 18764998447377) 3)) 3311470314243) 6)) 64425492495))]) hM_109 d_109_35 rfl rfl ?_
  refine r_sto (pc' := 37) (ls' := [some (.inr (.inl x)), none, some (.inr (.inl (am_landL (am_lorL (am_landL (am_lorL (am_landL (am_lorL (am_lorL x (am_ushrL x 1)) (am_ushrL (am_lorL x (am_ushrL x 1)) 2)) 18764998447377) (am_ushrL (am_landL (am_lorL (am_lorL x (am_ushrL x 1)) (am_ushrL (am_lorL x (am_ushrL x 1)) 2)) 18764998447377) 3)) 3311470314243) (am_ushrL (am_landL (am_lorL (am_landL (am_lorL (am_lorL x (am_ushrL x 1)) (am_ushrL (am_lorL x (am_ushrL x 1)) 2)) 18764998447377) (am_ushrL (am_landL (am_lorL (am_lorL x (am_ushrL x 1)) (am_ushrL (am_lorL x (am_ushrL x 1)) 2)) 18764998447377) 3)) 3311470314243) 6)) 64425492495))), none]) hM_109 d_109_36 rfl rfl ?_
  refine r_ld (pc' := 38) hM_109 d_109_37 rfl rfl ?_
  refine r_ld (pc' := 39) hM_109 d_109_38 rfl rfl ?_
  refine r_k (pc' := 41) (v := .inl 12) hM_109 d_109_39 rfl rfl ?_
  refine r_stk (pc' := 42) (st' := [.inr (.inl (am_ushrL (am_landL (am_lorL (am_landL (am_lorL (am_landL (am_lorL (am_lorL x (am_ushrL x 1)) (am_ushrL (am_lorL x (am_ushrL x 1)) 2)) 18764998447377) (am_ushrL (am_landL (am_lorL (am_lorL x (am_ushrL x 1)) (am_ushrL (am_lorL x (am_ushrL x 1)) 2)) 18764998447377) 3)) 3311470314243) (am_ushrL (am_landL (am_lorL (am_landL (am_lorL (am_lorL x (am_ushrL x 1)) (am_ushrL (am_lorL x (am_ushrL x 1)) 2)) 18764998447377) (am_ushrL (am_landL (am_lorL (am_lorL x (am_ushrL x 1)) (am_ushrL (am_lorL x (am_ushrL x 1)) 2)) 18764998447377) 3)) 3311470314243) 6)) 64425492495) 12)), .inr (.inl (am_landL (am_lorL (am_landL (am_lorL (am_landL (am_lorL (am_lorL x (am_ushrL x 1)) (am_ushrL (am_lorL x (am_ushrL x 1)) 2)) 18764998447377) (am_ushrL (am_landL (am_lorL (am_lorL x (am_ushrL x 1)) (am_ushrL (am_lorL x (am_ushrL x 1)) 2)) 18764998447377) 3)) 3311470314243) (am_ushrL (am_landL (am_lorL (am_landL (am_lorL (am_lorL x (am_ushrL x 1)) (am_ushrL (am_lorL x (am_ushrL x 1)) 2)) 18764998447377) (am_ushrL (am_landL (am_lorL (am_lorL x (am_ushrL x 1)) (am_ushrL (am_lorL x (am_ushrL x 1)) 2)) 18764998447377) 3)) 3311470314243) 6)) 64425492495))]) hM_109 d_109_41 rfl rfl ?_
  refine r_stk (pc' := 43) (st' := [.inr (.inl (am_lorL (am_landL (am_lorL (am_landL (am_lorL (am_landL (am_lorL (am_lorL x (am_ushrL x 1)) (am_ushrL (am_lorL x (am_ushrL x 1)) 2)) 18764998447377) (am_ushrL (am_landL (am_lorL (am_lorL x (am_ushrL x 1)) (am_ushrL (am_lorL x (am_ushrL x 1)) 2)) 18764998447377) 3)) 3311470314243) (am_ushrL (am_landL (am_lorL (am_landL (am_lorL (am_lorL x (am_ushrL x 1)) (am_ushrL (am_lorL x (am_ushrL x 1)) 2)) 18764998447377) (am_ushrL (am_landL (am_lorL (am_lorL x (am_ushrL x 1)) (am_ushrL (am_lorL x (am_ushrL x 1)) 2)) 18764998447377) 3)) 3311470314243) 6)) 64425492495) (am_ushrL (am_landL (am_lorL (am_landL (am_lorL (am_landL (am_lorL (am_lorL x (am_ushrL x 1)) (am_ushrL (am_lorL x (am_ushrL x 1)) 2)) 18764998447377) (am_ushrL (am_landL (am_lorL (am_lorL x (am_ushrL x 1)) (am_ushrL (am_lorL x (am_ushrL x 1)) 2)) 18764998447377) 3)) 3311470314243) (am_ushrL (am_landL (am_lorL (am_landL (am_lorL (am_lorL x (am_ushrL x 1)) (am_ushrL (am_lorL x (am_ushrL x 1)) 2)) 18764998447377) (am_ushrL (am_landL (am_lorL (am_lorL x (am_ushrL x 1)) (am_ushrL (am_lorL x (am_ushrL x 1)) 2)) 18764998447377) 3)) 3311470314243) 6)) 64425492495) 12)))]) hM_109 d_109_42 rfl rfl ?_
  refine r_ld (pc' := 44) hM_109 d_109_43 rfl rfl ?_
  refine r_k (pc' := 46) (v := .inl 24) hM_109 d_109_44 rfl rfl ?_
  refine r_stk (pc' := 47) (st' := [.inr (.inl (am_ushrL (am_landL (am_lorL (am_landL (am_lorL (am_landL (am_lorL (am_lorL x (am_ushrL x 1)) (am_ushrL (am_lorL x (am_ushrL x 1)) 2)) 18764998447377) (am_ushrL (am_landL (am_lorL (am_lorL x (am_ushrL x 1)) (am_ushrL (am_lorL x (am_ushrL x 1)) 2)) 18764998447377) 3)) 3311470314243) (am_ushrL (am_landL (am_lorL (am_landL (am_lorL (am_lorL x (am_ushrL x 1)) (am_ushrL (am_lorL x (am_ushrL x 1)) 2)) 18764998447377) (am_ushrL (am_landL (am_lorL (am_lorL x (am_ushrL x 1)) (am_ushrL (am_lorL x (am_ushrL x 1)) 2)) 18764998447377) 3)) 3311470314243) 6)) 64425492495) 24)), .inr (.inl (am_lorL (am_landL (am_lorL (am_landL (am_lorL (am_landL (am_lorL (am_lorL x (am_ushrL x 1)) (am_ushrL (am_lorL x (am_ushrL x 1)) 2)) 18764998447377) (am_ushrL (am_landL (am_lorL (am_lorL x (am_ushrL x 1)) (am_ushrL (am_lorL x (am_ushrL x 1)) 2)) 18764998447377) 3)) 3311470314243) (am_ushrL (am_landL (am_lorL (am_landL (am_lorL (am_lorL x (am_ushrL x 1)) (am_ushrL (am_lorL x (am_ushrL x 1)) 2)) 18764998447377) (am_ushrL (am_landL (am_lorL (am_lorL x (am_ushrL x 1)) (am_ushrL (am_lorL x (am_ushrL x 1)) 2)) 18764998447377) 3)) 3311470314243) 6)) 64425492495) (am_ushrL (am_landL (am_lorL (am_landL (am_lorL (am_landL (am_lorL (am_lorL x (am_ushrL x 1)) (am_ushrL (am_lorL x (am_ushrL x 1)) 2)) 18764998447377) (am_ushrL (am_landL (am_lorL (am_lorL x (am_ushrL x 1)) (am_ushrL (am_lorL x (am_ushrL x 1)) 2)) 18764998447377) 3)) 3311470314243) (am_ushrL (am_landL (am_lorL (am_landL (am_lorL (am_lorL x (am_ushrL x 1)) (am_ushrL (am_lorL x (am_ushrL x 1)) 2)) 18764998447377) (am_ushrL (am_landL (am_lorL (am_lorL x (am_ushrL x 1)) (am_ushrL (am_lorL x (am_ushrL x 1)) 2)) 18764998447377) 3)) 3311470314243) 6)) 64425492495) 12)))]) hM_109 d_109_46 rfl rfl ?_
  refine r_stk (pc' := 48) (st' := [.inr (.inl (am_lorL (am_lorL (am_landL (am_lorL (am_landL (am_lorL (am_landL (am_lorL (am_lorL x (am_ushrL x 1)) (am_ushrL (am_lorL x (am_ushrL x 1)) 2)) 18764998447377) (am_ushrL (am_landL (am_lorL (am_lorL x (am_ushrL x 1)) (am_ushrL (am_lorL x (am_ushrL x 1)) 2)) 18764998447377) 3)) 3311470314243) (am_ushrL (am_landL (am_lorL (am_landL (am_lorL (am_lorL x (am_ushrL x 1)) (am_ushrL (am_lorL x (am_ushrL x 1)) 2)) 18764998447377) (am_ushrL (am_landL (am_lorL (am_lorL x (am_ushrL x 1)) (am_ushrL (am_lorL x (am_ushrL x 1)) 2)) 18764998447377) 3)) 3311470314243) 6)) 64425492495) (am_ushrL (am_landL (am_lorL (am_landL (am_lorL (am_landL (am_lorL (am_lorL x (am_ushrL x 1)) (am_ushrL (am_lorL x (am_ushrL x 1)) 2)) 18764998447377) (am_ushrL (am_landL (am_lorL (am_lorL x (am_ushrL x 1)) (am_ushrL (am_lorL x (am_ushrL x 1)) 2)) 18764998447377) 3)) 3311470314243) (am_ushrL (am_landL (am_lorL (am_landL (am_lorL (am_lorL x (am_ushrL x 1)) (am_ushrL (am_lorL x (am_ushrL x 1)) 2)) 18764998447377) (am_ushrL (am_landL (am_lorL (am_lorL x (am_ushrL x 1)) (am_ushrL (am_lorL x (am_ushrL x 1)) 2)) 18764998447377) 3)) 3311470314243) 6)) 64425492495) 12)) (am_ushrL (am_landL (am_lorL (am_landL (am_lorL (am_landL (am_lorL (am_lorL x (am_ushrL x 1)) (am_ushrL (am_lorL x (am_ushrL x 1)) 2)) 18764998447377) (am_ushrL (am_landL (am_lorL (am_lorL x (am_ushrL x 1)) (am_ushrL (am_lorL x (am_ushrL x 1)) 2)) 18764998447377) 3)) 3311470314243) (am_ushrL (am_landL (am_lorL (am_landL (am_lorL (am_lorL x (am_ushrL x 1)) (am_ushrL (am_lorL x (am_ushrL x 1)) 2)) 18764998447377) (am_ushrL (am_landL (am_lorL (am_lorL x (am_ushrL x 1)) (am_ushrL (am_lorL x (am_ushrL x 1)) 2)) 18764998447377) 3)) 3311470314243) 6)) 64425492495) 24)))]) hM_109 d_109_47 rfl rfl ?_
  refine r_stk (pc' := 49) (st' := [.inl (am_lorL (am_lorL (am_landL (am_lorL (am_landL (am_lorL (am_landL (am_lorL (am_lorL x (am_ushrL x 1)) (am_ushrL (am_lorL x (am_ushrL x 1)) 2)) 18764998447377) (am_ushrL (am_landL (am_lorL (am_lorL x (am_ushrL x 1)) (am_ushrL (am_lorL x (am_ushrL x 1)) 2)) 18764998447377) 3)) 3311470314243) (am_ushrL (am_landL (am_lorL (am_landL (am_lorL (am_lorL x (am_ushrL x 1)) (am_ushrL (am_lorL x (am_ushrL x 1)) 2)) 18764998447377) (am_ushrL (am_landL (am_lorL (am_lorL x (am_ushrL x 1)) (am_ushrL (am_lorL x (am_ushrL x 1)) 2)) 18764998447377) 3)) 3311470314243) 6)) 64425492495) (am_ushrL (am_landL (am_lorL (am_landL (am_lorL (am_landL (am_lorL (am_lorL x (am_ushrL x 1)) (am_ushrL (am_lorL x (am_ushrL x 1)) 2)) 18764998447377) (am_ushrL (am_landL (am_lorL (am_lorL x (am_ushrL x 1)) (am_ushrL (am_lorL x (am_ushrL x 1)) 2)) 18764998447377) 3)) 3311470314243) (am_ushrL (am_landL (am_lorL (am_landL (am_lorL (am_lorL x (am_ushrL x 1)) (am_ushrL (am_lorL x (am_ushrL x 1)) 2)) 18764998447377) (am_ushrL (am_landL (am_lorL (am_lorL x (am_ushrL x 1)) (am_ushrL (am_lorL x (am_ushrL x 1)) 2)) 18764998447377) 3)) 3311470314243) 6)) 64425492495) 12)) (am_ushrL (am_landL (am_lorL (am_landL (am_lorL (am_landL (am_lorL (am_lorL x (am_ushrL x 1)) (am_ushrL (am_lorL x (am_ushrL x 1)) 2)) 18764998447377) (am_ushrL (am_landL (am_lorL (am_lorL x (am_ushrL x 1)) (am_ushrL (am_lorL x (am_ushrL x 1)) 2)) 18764998447377) 3)) 3311470314243) (am_ushrL (am_landL (am_lorL (am_landL (am_lorL (am_lorL x (am_ushrL x 1)) (am_ushrL (am_lorL x (am_ushrL x 1)) 2)) 18764998447377) (am_ushrL (am_landL (am_lorL (am_lorL x (am_ushrL x 1)) (am_ushrL (am_lorL x (am_ushrL x 1)) 2)) 18764998447377) 3)) 3311470314243) 6)) 64425492495) 24))]) hM_109 d_109_48 rfl rfl ?_
  refine r_k (pc' := 52) (v := .inl 4095) hM_109 d_109_49 rfl rfl ?_
  refine r_b (pc' := 53) (z := (am_and (am_lorL (am_lorL (am_landL (am_lorL (am_landL (am_lorL (am_landL (am_lorL (am_lorL x (am_ushrL x 1)) (am_ushrL (am_lorL x (am_ushrL x 1)) 2)) 18764998447377) (am_ushrL (am_landL (am_lorL (am_lorL x (am_ushrL x 1)) (am_ushrL (am_lorL x (am_ushrL x 1)) 2)) 18764998447377) 3)) 3311470314243) (am_ushrL (am_landL (am_lorL (am_landL (am_lorL (am_lorL x (am_ushrL x 1)) (am_ushrL (am_lorL x (am_ushrL x 1)) 2)) 18764998447377) (am_ushrL (am_landL (am_lorL (am_lorL x (am_ushrL x 1)) (am_ushrL (am_lorL x (am_ushrL x 1)) 2)) 18764998447377) 3)) 3311470314243) 6)) 64425492495) (am_ushrL (am_landL (am_lorL (am_landL (am_lorL (am_landL (am_lorL (am_lorL x (am_ushrL x 1)) (am_ushrL (am_lorL x (am_ushrL x 1)) 2)) 18764998447377) (am_ushrL (am_landL (am_lorL (am_lorL x (am_ushrL x 1)) (am_ushrL (am_lorL x (am_ushrL x 1)) 2)) 18764998447377) 3)) 3311470314243) (am_ushrL (am_landL (am_lorL (am_landL (am_lorL (am_lorL x (am_ushrL x 1)) (am_ushrL (am_lorL x (am_ushrL x 1)) 2)) 18764998447377) (am_ushrL (am_landL (am_lorL (am_lorL x (am_ushrL x 1)) (am_ushrL (am_lorL x (am_ushrL x 1)) 2)) 18764998447377) 3)) 3311470314243) 6)) 64425492495) 12)) (am_ushrL (am_landL (am_lorL (am_landL (am_lorL (am_landL (am_lorL (am_lorL x (am_ushrL x 1)) (am_ushrL (am_lorL x (am_ushrL x 1)) 2)) 18764998447377) (am_ushrL (am_landL (am_lorL (am_lorL x (am_ushrL x 1)) (am_ushrL (am_lorL x (am_ushrL x 1)) 2)) 18764998447377) 3)) 3311470314243) (am_ushrL (am_landL (am_lorL (am_landL (am_lorL (am_lorL x (am_ushrL x 1)) (am_ushrL (am_lorL x (am_ushrL x 1)) 2)) 18764998447377) (am_ushrL (am_landL (am_lorL (am_lorL x (am_ushrL x 1)) (am_ushrL (am_lorL x (am_ushrL x 1)) 2)) 18764998447377) 3)) 3311470314243) 6)) 64425492495) 24)) 4095)) hM_109 d_109_52 rfl rfl ?_
  subst H
  exact rt_i hM_109 d_109_53 rfl
def v_109 (m : am_M) (x : Int) : Int := (am_and (am_lorL (am_lorL (am_landL (am_lorL (am_landL (am_lorL (am_landL (am_lorL (am_lorL x (am_ushrL x 1)) (am_ushrL (am_lorL x (am_ushrL x 1)) 2)) 18764998447377) (am_ushrL (am_landL (am_lorL (am_lorL x (am_ushrL x 1)) (am_ushrL (am_lorL x (am_ushrL x 1)) 2)) 18764998447377) 3)) 3311470314243) (am_ushrL (am_landL (am_lorL (am_landL (am_lorL (am_lorL x (am_ushrL x 1)) (am_ushrL (am_lorL x (am_ushrL x 1)) 2)) 18764998447377) (am_ushrL (am_landL (am_lorL (am_lorL x (am_ushrL x 1)) (am_ushrL (am_lorL x (am_ushrL x 1)) 2)) 18764998447377) 3)) 3311470314243) 6)) 64425492495) (am_ushrL (am_landL (am_lorL (am_landL (am_lorL (am_landL (am_lorL (am_lorL x (am_ushrL x 1)) (am_ushrL (am_lorL x (am_ushrL x 1)) 2)) 18764998447377) (am_ushrL (am_landL (am_lorL (am_lorL x (am_ushrL x 1)) (am_ushrL (am_lorL x (am_ushrL x 1)) 2)) 18764998447377) 3)) 3311470314243) (am_ushrL (am_landL (am_lorL (am_landL (am_lorL (am_lorL x (am_ushrL x 1)) (am_ushrL (am_lorL x (am_ushrL x 1)) 2)) 18764998447377) (am_ushrL (am_landL (am_lorL (am_lorL x (am_ushrL x 1)) (am_ushrL (am_lorL x (am_ushrL x 1)) 2)) 18764998447377) 3)) 3311470314243) 6)) 64425492495) 12)) (am_ushrL (am_landL (am_lorL (am_landL (am_lorL (am_landL (am_lorL (am_lorL x (am_ushrL x 1)) (am_ushrL (am_lorL x (am_ushrL x 1)) 2)) 18764998447377) (am_ushrL (am_landL (am_lorL (am_lorL x (am_ushrL x 1)) (am_ushrL (am_lorL x (am_ushrL x 1)) 2)) 18764998447377) 3)) 3311470314243) (am_ushrL (am_landL (am_lorL (am_landL (am_lorL (am_lorL x (am_ushrL x 1)) (am_ushrL (am_lorL x (am_ushrL x 1)) 2)) 18764998447377) (am_ushrL (am_landL (am_lorL (am_lorL x (am_ushrL x 1)) (am_ushrL (am_lorL x (am_ushrL x 1)) 2)) 18764998447377) 3)) 3311470314243) 6)) 64425492495) 24)) 4095)
/-- HeardBarrels$Ears.placesOfNibbles -/
theorem c_109 {fx : am_X0}   (m : am_M) (x : Int)  : rn fx 0 (0, 0) 109 0 (am_ent 4 [.inr (.inl x)]) [] (st0 m) ([.inl (v_109 m x)], st0 m) := by
  show rn fx 0 (0, 0) 109 0 [some (.inr (.inl x)), none, none, none] [] (st0 m) _
  refine t_109_0  ?_
  simp only [v_109]
theorem v_109_ok (m : am_M) (x : Int) (hq : 0 ≤ x ∧ x < 281474976710656) : v_109 m x = ((pnN x.toNat : Nat) : Int) := by
  obtain ⟨X, rfl⟩ : ∃ X : Nat, x = (X : Int) := ⟨x.toNat, by omega⟩
  rw [Int.toNat_natCast]
  have hX : X < 2 ^ 48 := by omega
  have d1 : X / 2 ^ 1 ≤ X := Nat.div_le_self _ _
  have l1 : pn1 X < 2 ^ 48 := Nat.or_lt_two_pow hX (by omega)
  have d2 : pn1 X / 2 ^ 2 ≤ pn1 X := Nat.div_le_self _ _
  have l2 : pn2 X < 2 ^ 48 := Nat.lt_of_le_of_lt Nat.and_le_right (by decide)
  have d3 : pn2 X / 2 ^ 3 ≤ pn2 X := Nat.div_le_self _ _
  have l3 : pn3 X < 2 ^ 48 := Nat.lt_of_le_of_lt Nat.and_le_right (by decide)
  have d4 : pn3 X / 2 ^ 6 ≤ pn3 X := Nat.div_le_self _ _
  have l4 : pn4 X < 2 ^ 48 := Nat.lt_of_le_of_lt Nat.and_le_right (by decide)
  have d5 : pn4 X / 2 ^ 12 ≤ pn4 X := Nat.div_le_self _ _
  have d6 : pn4 X / 2 ^ 24 ≤ pn4 X := Nat.div_le_self _ _
  have o2 : pn1 X ||| pn1 X / 2 ^ 2 < 2 ^ 62 := Nat.or_lt_two_pow (by omega) (by omega)
  have o3 : pn2 X ||| pn2 X / 2 ^ 3 < 2 ^ 62 := Nat.or_lt_two_pow (by omega) (by omega)
  have o4 : pn3 X ||| pn3 X / 2 ^ 6 < 2 ^ 62 := Nat.or_lt_two_pow (by omega) (by omega)
  have o5 : pn4 X ||| pn4 X / 2 ^ 12 < 2 ^ 62 := Nat.or_lt_two_pow (by omega) (by omega)
  have e1 : am_lorL (X : Int) (am_ushrL (X : Int) 1) = ((pn1 X : Nat) : Int) := by
    have h := bx_ushrL (a := X) (i := 1) (by omega) (by decide)
    rw [show ((1 : Nat) : Int) = 1 from rfl] at h
    rw [h, bx_orL (by omega) (by omega)]
    rfl
  have e2 : am_landL (am_lorL ((pn1 X : Nat) : Int) (am_ushrL ((pn1 X : Nat) : Int) 2)) 18764998447377 = ((pn2 X : Nat) : Int) := by
    have h := bx_ushrL (a := pn1 X) (i := 2) (by omega) (by decide)
    rw [show ((2 : Nat) : Int) = 2 from rfl] at h
    rw [h, bx_orL (by omega) (by omega), show (18764998447377 : Int) = ((18764998447377 : Nat) : Int) from rfl, bx_andL o2]
    rfl
  have e3 : am_landL (am_lorL ((pn2 X : Nat) : Int) (am_ushrL ((pn2 X : Nat) : Int) 3)) 3311470314243 = ((pn3 X : Nat) : Int) := by
    have h := bx_ushrL (a := pn2 X) (i := 3) (by omega) (by decide)
    rw [show ((3 : Nat) : Int) = 3 from rfl] at h
    rw [h, bx_orL (by omega) (by omega), show (3311470314243 : Int) = ((3311470314243 : Nat) : Int) from rfl, bx_andL o3]
    rfl
  have e4 : am_landL (am_lorL ((pn3 X : Nat) : Int) (am_ushrL ((pn3 X : Nat) : Int) 6)) 64425492495 = ((pn4 X : Nat) : Int) := by
    have h := bx_ushrL (a := pn3 X) (i := 6) (by omega) (by decide)
    rw [show ((6 : Nat) : Int) = 6 from rfl] at h
    rw [h, bx_orL (by omega) (by omega), show (64425492495 : Int) = ((64425492495 : Nat) : Int) from rfl, bx_andL o4]
    rfl
  unfold v_109
  rw [e1, e2, e3, e4]
  have h1 := bx_ushrL (a := pn4 X) (i := 12) (by omega) (by decide)
  have h2 := bx_ushrL (a := pn4 X) (i := 24) (by omega) (by decide)
  rw [show ((12 : Nat) : Int) = 12 from rfl] at h1
  rw [show ((24 : Nat) : Int) = 24 from rfl] at h2
  rw [h1, h2, bx_orL (by omega) (by omega), bx_orL o5 (by omega), show (4095 : Int) = ((4095 : Nat) : Int) from rfl, bx_and' (by decide)]
  rfl
theorem n_109 {fx : am_X0}   (m : am_M) (x : Int) (hq : 0 ≤ x ∧ x < 281474976710656) : rn fx 0 (0, 0) 109 0 (am_ent 4 [.inr (.inl x)]) [] (st0 m) ([.inl (((pnN x.toNat : Nat) : Int))], st0 m) := by
  have h := c_109 (fx := fx)  m x 
  rw [v_109_ok  m x hq] at h
  exact h
def fls (T : Nat → Int) (t : Nat) : Nat → Nat → Nat
  | 0, f => f
  | k + 1, f => if t ≤ f ∨ T f = T t then f else fls T t k (f + 1)
/-- the first triple that is heard as one is -/
def fl (T : Nat → Int) (t : Nat) : Nat := fls T t 8 0
theorem fls_ok {T : Nat → Int} {t : Nat} : ∀ k f, f ≤ t → t ≤ f + k → (∀ x, x < f → T x ≠ T t) → fls T t k f ≤ t ∧ T (fls T t k f) = T t ∧ ∀ x, x < fls T t k f → T x ≠ T t := by
  intro k
  induction k with
  | zero =>
    intro f h1 h2 h3
    have : f = t := by omega
    subst this
    exact ⟨Nat.le_refl _, rfl, h3⟩
  | succ k ih =>
    intro f h1 h2 h3
    unfold fls
    by_cases hc : t ≤ f ∨ T f = T t
    · rw [if_pos hc]
      refine ⟨h1, ?_, h3⟩
      rcases hc with hc | hc
      · have : f = t := by omega
        rw [this]
      · exact hc
    · rw [if_neg hc]
      refine ih (f + 1) (by omega) (by omega) fun x hx => ?_
      by_cases hxf : x = f
      · rw [hxf]; exact fun q => hc (Or.inr q)
      · exact h3 x (by omega)
theorem fl_ok {T : Nat → Int} {t : Nat} (ht : t < 8) : fl T t ≤ t ∧ T (fl T t) = T t ∧ ∀ x, x < fl T t → T x ≠ T t := fls_ok 8 0 (by omega) (by omega) (fun x hx => absurd hx (Nat.not_lt_zero _))
theorem fl_eq {T : Nat → Int} {a b : Nat} (ha : a < 8) (hb : b < 8) : fl T a = fl T b ↔ T a = T b := by
  obtain ⟨a1, a2, a3⟩ := fl_ok (T := T) ha
  obtain ⟨b1, b2, b3⟩ := fl_ok (T := T) hb
  constructor
  · intro h
    rw [← a2, ← b2, h]
  · intro h
    rcases Nat.lt_trichotomy (fl T a) (fl T b) with q | q | q
    · exact absurd (by rw [a2, h]) (b3 _ q)
    · exact q
    · exact absurd (by rw [b2, h]) (a3 _ q)
theorem fls_congr {T T' : Nat → Int} {t : Nat} : ∀ k f, (∀ x, x ≤ t → T x = T' x) → fls T t k f = fls T' t k f := by
  intro k
  induction k with
  | zero => intro f _; rfl
  | succ k ih =>
    intro f h
    unfold fls
    rw [ih (f + 1) h, h t (Nat.le_refl _)]
    by_cases hf : t ≤ f
    · rw [if_pos (Or.inl hf), if_pos (Or.inl hf)]
    · rw [h f (by omega)]
def vo (T : Nat → Nat → Int) (B s : Nat) : Nat → Nat
  | 0 => 0
  | p + 1 => if B.testBit p = true then 2 ^ (4 * p) * fl (T p) (tri s p) + vo T B s p else vo T B s p
theorem vo_s {T : Nat → Nat → Int} {B s p : Nat} : vo T B s (p + 1) = if B.testBit p = true then 2 ^ (4 * p) * fl (T p) (tri s p) + vo T B s p else vo T B s p := rfl
theorem vo_lt {T : Nat → Nat → Int} {B s : Nat} : ∀ n, vo T B s n < 2 ^ (4 * n) := by
  intro n
  induction n with
  | zero => show 0 < 2 ^ 0; decide
  | succ n ih =>
    have h8 := (fl_ok (T := T n) (tri_lt s n)).1
    have ht := tri_lt s n
    have e : 2 ^ (4 * (n + 1)) = 2 ^ (4 * n) * 16 := by rw [show 4 * (n + 1) = 4 * n + 4 by omega, Nat.pow_add]
    rw [vo_s, e]
    generalize 2 ^ (4 * n) = z at *
    split
    · have : z * fl (T n) (tri s n) ≤ z * 7 := Nat.mul_le_mul_left _ (by omega)
      omega
    · omega
theorem vo_bit {T : Nat → Nat → Int} {B s i r : Nat} (hr : r < 4) : ∀ n, (vo T B s n).testBit (4 * i + r) = (decide (i < n) && B.testBit i && (fl (T i) (tri s i)).testBit r) := by
  intro n
  induction n with
  | zero => rw [decide_eq_false (Nat.not_lt_zero _), Bool.false_and, Bool.false_and]; exact Nat.zero_testBit _
  | succ n ih =>
    rw [vo_s]
    by_cases hb : B.testBit n = true
    · rw [if_pos hb, Nat.testBit_two_pow_mul_add _ (vo_lt n)]
      by_cases h : 4 * i + r < 4 * n
      · rw [if_pos h, ih, decide_eq_true (show i < n by omega), decide_eq_true (show i < n + 1 by omega)]
      · rw [if_neg h]
        by_cases hi : i = n
        · subst hi
          rw [decide_eq_true (Nat.lt_succ_self _), hb, Bool.true_and, Bool.true_and, show 4 * i + r - 4 * i = r by omega]
        · have h8 := (fl_ok (T := T n) (tri_lt s n)).1
          have ht := tri_lt s n
          rw [decide_eq_false (show ¬ i < n + 1 by omega), Bool.false_and, Bool.false_and]
          exact Nat.testBit_lt_two_pow (Nat.lt_of_lt_of_le (show fl (T n) (tri s n) < 2 ^ 3 by omega) (Nat.pow_le_pow_right (by decide : 0 < 2) (by omega)))
    · rw [if_neg hb, ih]
      by_cases hi : i = n
      · subst hi
        have : B.testBit i = false := by
          cases h : B.testBit i
          · rfl
          · exact absurd h hb
        rw [this, Bool.and_false, Bool.and_false]
      · congr 2
        exact decide_eq_decide.mpr (by omega)
theorem xr3 : ∀ a : Nat, a < 8 → ∀ b : Nat, b < 8 → ((a.testBit 0 ^^ b.testBit 0) || (a.testBit 1 ^^ b.testBit 1) || (a.testBit 2 ^^ b.testBit 2) || (a.testBit 3 ^^ b.testBit 3)) = decide (¬ a = b) := by decide +kernel
/-- where the voices of two sets differ -/
theorem vo_unl {g : Nat → Int} {a b : Nat} (hw : WFG g) : pnN (vo (tnt g) (brl g) a (g 0).toNat ^^^ vo (tnt g) (brl g) b (g 0).toNat) = unl g a b (g 0).toNat := by
  have hN := hw.1
  apply Nat.eq_of_testBit_eq
  intro i
  rw [pnN_bit, unl_bit]
  unfold nib
  have h0 := fun s => vo_bit (T := tnt g) (B := brl g) (s := s) (i := i) (r := 0) (by decide) (g 0).toNat
  have h1 := fun s => vo_bit (T := tnt g) (B := brl g) (s := s) (i := i) (r := 1) (by decide) (g 0).toNat
  have h2 := fun s => vo_bit (T := tnt g) (B := brl g) (s := s) (i := i) (r := 2) (by decide) (g 0).toNat
  have h3 := fun s => vo_bit (T := tnt g) (B := brl g) (s := s) (i := i) (r := 3) (by decide) (g 0).toNat
  simp only [Nat.add_zero] at h0
  rw [Nat.testBit_xor, Nat.testBit_xor, Nat.testBit_xor, Nat.testBit_xor, h0, h0, h1, h1, h2, h2, h3, h3]
  by_cases hi : i < (g 0).toNat
  · rw [decide_eq_true hi, decide_eq_true (show i < 12 by omega), Bool.true_and, Bool.true_and, Bool.true_and]
    have fa := (fl_ok (T := tnt g i) (tri_lt a i)).1
    have fb := (fl_ok (T := tnt g i) (tri_lt b i)).1
    have ta := tri_lt a i
    have tb := tri_lt b i
    by_cases h3g : g (8 + i) = 3
    · have hb : (brl g).testBit i = false := by
        cases hh : (brl g).testBit i
        · rfl
        · exact absurd h3g ((brl_bit hw).mp hh).2
      rw [hb]
      simp only [Bool.false_and, Bool.xor_false, Bool.or_false]
      exact (decide_eq_false (fun q => q (Or.inl h3g))).symm
    · have hb : (brl g).testBit i = true := (brl_bit hw).mpr ⟨by omega, h3g⟩
      rw [hb]
      simp only [Bool.true_and]
      rw [xr3 _ (by omega) _ (by omega)]
      apply decide_eq_decide.mpr
      rw [fl_eq ta tb, tnt_eq]
  · rw [decide_eq_false hi]
    simp only [Bool.false_and, Bool.xor_false, Bool.or_false, Bool.and_false]
theorem u_107_2 {Q : List am_V → am_M → Prop} {m : am_M} {p : Int} {t : Int} {f : Int}  (H : ((am_s t ≤ am_s f) → Q [.inl f] m) ∧ ((¬ (am_s t ≤ am_s f)) → (0 ≤ am_s ((p * 8) + f) ∧ am_s ((p * 8) + f) < (96 : Nat)) ∧ ((0 ≤ am_s ((p * 8) + t) ∧ am_s ((p * 8) + t) < (96 : Nat)) ∧ (((am_s (m 35 ((am_s ((p * 8) + f)).toNat)) = am_s (m 35 ((am_s ((p * 8) + t)).toNat))) → Q [.inl f] m) ∧ ((¬ (am_s (m 35 ((am_s ((p * 8) + f)).toNat)) = am_s (m 35 ((am_s ((p * 8) + t)).toNat)))) → ok 0 107 2 [some (.inr (.inr (some 34))), some (.inl p), some (.inl t), some (.inl (f + 1))] [] m Q))))) : ok 0 107 2 [some (.inr (.inr (some 34))), some (.inl p), some (.inl t), some (.inl f)] [] m Q := by
  refine ok_sg (pc' := 4) (ls' := [some (.inr (.inr (some 34))), some (.inl p), some (.inl t), some (.inl f)]) (st' := [.inl t, .inl f]) (m' := m) (fun fx hfx o hk => ?_) ?_
  · refine r_ld (pc' := 3) hM_107 d_107_2 rfl rfl ?_
    refine r_ld (pc' := 4) hM_107 d_107_3 rfl rfl ?_
    exact hk
  refine ok_ic (pc' := 38) (pc2 := 7) hM_107 d_107_4 (by decide) rfl (fun hz1 => ?_) (fun hz1 => ?_)
  · have H := H.1 hz1
    refine ok_sg (pc' := 39) (ls' := [some (.inr (.inr (some 34))), some (.inl p), some (.inl t), some (.inl f)]) (st' := [.inl f]) (m' := m) (fun fx hfx o hk => ?_) ?_
    · refine r_ld (pc' := 39) hM_107 d_107_38 rfl rfl ?_
      exact hk
    exact ok_rt (fun fx _ => rt_i hM_107 d_107_39 rfl) H
  · have H := H.2 hz1
    obtain ⟨hz2, H⟩ := H
    obtain ⟨hz3, H⟩ := H
    refine ok_sg (pc' := 29) (ls' := [some (.inr (.inr (some 34))), some (.inl p), some (.inl t), some (.inl f)]) (st' := [.inl (m 35 ((am_s ((p * 8) + t)).toNat)), .inl (m 35 ((am_s ((p * 8) + f)).toNat))]) (m' := m) (fun fx hfx o hk => ?_) ?_
    · refine r_ld (pc' := 8) hM_107 d_107_7 rfl rfl ?_
      refine r_gR (pc' := 11) (v := 35) hM_107 d_107_8 rfl (by decide +kernel) ?_
      refine r_ld (pc' := 12) hM_107 d_107_11 rfl rfl ?_
      refine r_k (pc' := 14) (v := .inl 8) hM_107 d_107_12 rfl rfl ?_
      refine r_b (pc' := 15) (z := (p * 8)) hM_107 d_107_14 rfl rfl ?_
      refine r_ld (pc' := 16) hM_107 d_107_15 rfl rfl ?_
      refine r_b (pc' := 17) (z := ((p * 8) + f)) hM_107 d_107_16 rfl rfl ?_
      refine r_ia (pc' := 18) (n := 96) hM_107 d_107_17 rfl rfl hz2 ?_
      refine r_ld (pc' := 19) hM_107 d_107_18 rfl rfl ?_
      refine r_gR (pc' := 22) (v := 35) hM_107 d_107_19 rfl (by decide +kernel) ?_
      refine r_ld (pc' := 23) hM_107 d_107_22 rfl rfl ?_
      refine r_k (pc' := 25) (v := .inl 8) hM_107 d_107_23 rfl rfl ?_
      refine r_b (pc' := 26) (z := (p * 8)) hM_107 d_107_25 rfl rfl ?_
      refine r_ld (pc' := 27) hM_107 d_107_26 rfl rfl ?_
      refine r_b (pc' := 28) (z := ((p * 8) + t)) hM_107 d_107_27 rfl rfl ?_
      refine r_ia (pc' := 29) (n := 96) hM_107 d_107_28 rfl rfl hz3 ?_
      exact hk
    refine ok_ic (pc' := 38) (pc2 := 32) hM_107 d_107_29 (by decide) rfl (fun hz4 => ?_) (fun hz4 => ?_)
    · have H := H.1 hz4
      refine ok_sg (pc' := 39) (ls' := [some (.inr (.inr (some 34))), some (.inl p), some (.inl t), some (.inl f)]) (st' := [.inl f]) (m' := m) (fun fx hfx o hk => ?_) ?_
      · refine r_ld (pc' := 39) hM_107 d_107_38 rfl rfl ?_
        exact hk
      exact ok_rt (fun fx _ => rt_i hM_107 d_107_39 rfl) H
    · have H := H.2 hz4
      refine ok_sg (pc' := 2) (ls' := [some (.inr (.inr (some 34))), some (.inl p), some (.inl t), some (.inl (f + 1))]) (st' := []) (m' := m) (fun fx hfx o hk => ?_) ?_
      · refine r_sto (pc' := 35) (ls' := [some (.inr (.inr (some 34))), some (.inl p), some (.inl t), some (.inl (f + 1))]) hM_107 d_107_32 rfl rfl ?_
        refine r_go (pc' := 2) hM_107 d_107_35 (by decide) ?_
        exact hk
      exact H
theorem u_107_0 {Q : List am_V → am_M → Prop} {m : am_M} {p : Int} {t : Int}  (H : ok 0 107 2 [some (.inr (.inr (some 34))), some (.inl p), some (.inl t), some (.inl 0)] [] m Q) : ok 0 107 0 [some (.inr (.inr (some 34))), some (.inl p), some (.inl t), none] [] m Q := by
  refine ok_sg (pc' := 2) (ls' := [some (.inr (.inr (some 34))), some (.inl p), some (.inl t), some (.inl 0)]) (st' := []) (m' := m) (fun fx hfx o hk => ?_) ?_
  · refine r_k (pc' := 1) (v := .inl 0) hM_107 d_107_0 rfl rfl ?_
    refine r_sto (pc' := 2) (ls' := [some (.inr (.inr (some 34))), some (.inl p), some (.inl t), some (.inl 0)]) hM_107 d_107_1 rfl rfl ?_
    exact hk
  exact H
theorem z_107   (m : am_M) (p : Int) (t : Int) (hq : (0 ≤ p ∧ p < 12) ∧ (0 ≤ t ∧ t < 8) ∧ ∀ u, u < 8 → am_s (m 35 (8 * p.toNat + u)) = m 35 (8 * p.toNat + u)) : ok 0 107 0 (am_ent 4 [.inr (.inr (some 34)), .inl p, .inl t]) [] m (fun rr m' => rr = [.inl (((fl (fun u => m 35 (8 * p.toNat + u)) t.toNat : Nat) : Int))] ∧ m' = m) := by
  show ok 0 107 0 [some (.inr (.inr (some 34))), some (.inl p), some (.inl t), none] [] m _
  obtain ⟨hp, ht, hT⟩ := hq
  obtain ⟨P, rfl⟩ : ∃ P : Nat, p = (P : Int) := ⟨p.toNat, by omega⟩
  obtain ⟨t', rfl⟩ : ∃ K : Nat, t = (K : Int) := ⟨t.toNat, by omega⟩
  simp only [Int.toNat_natCast] at hT ⊢
  refine u_107_0 ?_
  have key : ∀ k f : Nat, f ≤ t' → t' ≤ f + k → ok 0 107 2 [some (.inr (.inr (some 34))), some (.inl (P : Int)), some (.inl (t' : Int)), some (.inl (f : Int))] [] m (fun rr m' => rr = [.inl ((fls (fun u => m 35 (8 * P + u)) t' k f : Nat) : Int)] ∧ m' = m) := by
    intro k
    induction k with
    | zero =>
      intro f h1 h2
      have : f = t' := by omega
      refine u_107_2 ?_
      rw [am_s_id (z := (f : Int)) (by omega) (by omega), am_s_id (z := (t' : Int)) (by omega) (by omega)]
      exact ⟨fun _ => ⟨rfl, rfl⟩, fun q => by omega⟩
    | succ k ih =>
      intro f h1 h2
      have e1 : am_s ((P : Int) * 8 + (f : Int)) = (P : Int) * 8 + (f : Int) := am_s_id (by omega) (by omega)
      have e2 : ((P : Int) * 8 + (f : Int)).toNat = 8 * P + f := by omega
      have e3 : am_s ((P : Int) * 8 + (t' : Int)) = (P : Int) * 8 + (t' : Int) := am_s_id (by omega) (by omega)
      have e4 : ((P : Int) * 8 + (t' : Int)).toNat = 8 * P + t' := by omega
      refine u_107_2 ?_
      rw [am_s_id (z := (f : Int)) (by omega) (by omega), am_s_id (z := (t' : Int)) (by omega) (by omega), e1, e2, e3, e4]
      unfold fls
      refine ⟨fun q => ⟨by rw [if_pos (Or.inl (by omega))], rfl⟩, fun q => ⟨by omega, by omega, ?_⟩⟩
      rw [hT f (by omega), hT t' (by omega)]
      refine ⟨fun q2 => ⟨by rw [if_pos (Or.inr q2)], rfl⟩, fun q2 => ?_⟩
      rw [if_neg (fun k => k.elim (fun x => by omega) q2)]
      exact ih (f + 1) (by omega) (by omega)
  exact key 8 0 (by omega) (by omega)
theorem u_106_18 {Q : List am_V → am_M → Prop} {m : am_M} {b : Int} {s : Int} {i : Int} {v : Int} {p : Int}  (H : ((am_s (m 2 4) ≤ am_s p) → (0 ≤ am_s i ∧ am_s i < (256 : Nat)) ∧ (ok 1 106 4 [some (.inr (.inr (some 34))), some (.inl b), some (.inl (v_88 (mu m 41 ((am_s i).toNat) v) s)), some (.inl (i + 1)), none, none, none] [] (mu m 41 ((am_s i).toNat) v) Q)) ∧ ((¬ (am_s (m 2 4) ≤ am_s p)) → ((am_s (am_and (am_shr b p) 1) = 0) → ok 1 106 18 [some (.inr (.inr (some 34))), some (.inl b), some (.inl s), some (.inl i), some (.inr (.inl v)), none, some (.inl (p + 1))] [] m Q) ∧ ((¬ (am_s (am_and (am_shr b p) 1) = 0)) → ((0 ≤ p ∧ p < 12) ∧ (0 ≤ (v_87 m s p) ∧ (v_87 m s p) < 8) ∧ ∀ u, u < 8 → am_s (m 35 (8 * p.toNat + u)) = m 35 (8 * p.toNat + u)) ∧ (∀ (m1 : am_M), (m1 = m) → ok 1 106 18 [some (.inr (.inr (some 34))), some (.inl b), some (.inl s), some (.inl i), some (.inr (.inl (am_lorL v (am_shlL (am_s ((fl (fun u => m 35 (8 * p.toNat + u)) (v_87 m s p).toNat : Nat) : Int)) (4 * p))))), none, some (.inl (p + 1))] [] m1 Q)))) : ok 1 106 18 [some (.inr (.inr (some 34))), some (.inl b), some (.inl s), some (.inl i), some (.inr (.inl v)), none, some (.inl p)] [] m Q := by
  refine ok_sg (pc' := 27) (ls' := [some (.inr (.inr (some 34))), some (.inl b), some (.inl s), some (.inl i), some (.inr (.inl v)), none, some (.inl p)]) (st' := [.inl (m 2 4), .inl p]) (m' := m) (fun fx hfx o hk => ?_) ?_
  · refine r_ld (pc' := 20) hM_106 d_106_18 rfl rfl ?_
    refine r_ld (pc' := 21) hM_106 d_106_20 rfl rfl ?_
    refine r_gR (pc' := 24) (v := 2) hM_106 d_106_21 rfl (by decide +kernel) ?_
    refine r_gI (pc' := 27) (k0 := 4) hM_106 d_106_24 rfl (by decide +kernel) ?_
    exact hk
  refine ok_ic (pc' := 68) (pc2 := 30) hM_106 d_106_27 (by decide) rfl (fun hz1 => ?_) (fun hz1 => ?_)
  · have H := H.1 hz1
    obtain ⟨hz2, H⟩ := H
    refine ok_sg (pc' := 4) (ls' := [some (.inr (.inr (some 34))), some (.inl b), some (.inl (v_88 (mu m 41 ((am_s i).toNat) v) s)), some (.inl (i + 1)), none, none, none]) (st' := []) (m' := mu m 41 ((am_s i).toNat) v) (fun fx hfx o hk => ?_) ?_
    · refine r_ld (pc' := 69) hM_106 d_106_68 rfl rfl ?_
      refine r_gR (pc' := 72) (v := 41) hM_106 d_106_69 rfl (by decide +kernel) ?_
      refine r_ld (pc' := 73) hM_106 d_106_72 rfl rfl ?_
      refine r_ld (pc' := 75) hM_106 d_106_73 rfl rfl ?_
      refine r_ls (pc' := 76) (n := 256) hM_106 d_106_75 rfl rfl hz2 ?_
      refine r_ld (pc' := 77) hM_106 d_106_76 rfl rfl ?_
      refine r_ld (pc' := 78) hM_106 d_106_77 rfl rfl ?_
      refine r_cl (pc' := 81) (c := (88, 0)) (a := [.inr (.inr (some 34)), .inl s]) (q := []) hM_106 d_106_78 rfl (by decide +kernel) hM_88 rfl rfl rfl (Nat.le_of_ble_eq_true rfl) (Nat.le_of_ble_eq_true rfl) (Or.inr rfl) (c_88  (mu m 41 ((am_s i).toNat) v) s) (Nat.le_of_ble_eq_true rfl) ?_
      show rn fx 1 (0, 0) 106 81 [some (.inr (.inr (some 34))), some (.inl b), some (.inl s), some (.inl i), some (.inr (.inl v)), none, some (.inl p)] [.inl (v_88 (mu m 41 ((am_s i).toNat) v) s)] (st0 (mu m 41 ((am_s i).toNat) v)) o
      refine r_sto (pc' := 82) (ls' := [some (.inr (.inr (some 34))), some (.inl b), some (.inl (v_88 (mu m 41 ((am_s i).toNat) v) s)), some (.inl i), some (.inr (.inl v)), none, some (.inl p)]) hM_106 d_106_81 rfl rfl ?_
      refine r_sto (pc' := 85) (ls' := [some (.inr (.inr (some 34))), some (.inl b), some (.inl (v_88 (mu m 41 ((am_s i).toNat) v) s)), some (.inl (i + 1)), some (.inr (.inl v)), none, some (.inl p)]) hM_106 d_106_82 rfl rfl ?_
      refine r_go (pc' := 4) hM_106 d_106_85 (by decide) ?_
      refine rn_wk (a := [some (.inr (.inr (some 34))), some (.inl b), some (.inl (v_88 (mu m 41 ((am_s i).toNat) v) s)), some (.inl (i + 1)), none, none, none]) (by simp only [am_le, and_self]) ?_
      exact hk
    exact H
  · have H := H.2 hz1
    refine ok_sg (pc' := 36) (ls' := [some (.inr (.inr (some 34))), some (.inl b), some (.inl s), some (.inl i), some (.inr (.inl v)), none, some (.inl p)]) (st' := [.inl (am_and (am_shr b p) 1)]) (m' := m) (fun fx hfx o hk => ?_) ?_
    · refine r_ld (pc' := 31) hM_106 d_106_30 rfl rfl ?_
      refine r_ld (pc' := 33) hM_106 d_106_31 rfl rfl ?_
      refine r_b (pc' := 34) (z := (am_shr b p)) hM_106 d_106_33 rfl rfl ?_
      refine r_k (pc' := 35) (v := .inl 1) hM_106 d_106_34 rfl rfl ?_
      refine r_b (pc' := 36) (z := (am_and (am_shr b p) 1)) hM_106 d_106_35 rfl rfl ?_
      exact hk
    refine ok_if (pc' := 62) (pc2 := 39) hM_106 d_106_36 (by decide) rfl (fun hz3 => ?_) (fun hz3 => ?_)
    · have H := H.1 hz3
      refine ok_sg (pc' := 18) (ls' := [some (.inr (.inr (some 34))), some (.inl b), some (.inl s), some (.inl i), some (.inr (.inl v)), none, some (.inl (p + 1))]) (st' := []) (m' := m) (fun fx hfx o hk => ?_) ?_
      · refine r_sto (pc' := 65) (ls' := [some (.inr (.inr (some 34))), some (.inl b), some (.inl s), some (.inl i), some (.inr (.inl v)), none, some (.inl (p + 1))]) hM_106 d_106_62 rfl rfl ?_
        refine r_go (pc' := 18) hM_106 d_106_65 (by decide) ?_
        exact hk
      exact H
    · have H := H.2 hz3
      obtain ⟨hz4, H⟩ := H
      refine ok_sg (pc' := 50) (ls' := [some (.inr (.inr (some 34))), some (.inl b), some (.inl s), some (.inl i), some (.inr (.inl v)), none, some (.inl p)]) (st' := [.inl (v_87 m s p), .inl p, .inr (.inr (some 34)), .inr (.inl v)]) (m' := m) (fun fx hfx o hk => ?_) ?_
      · refine r_ld (pc' := 41) hM_106 d_106_39 rfl rfl ?_
        refine r_ld (pc' := 42) hM_106 d_106_41 rfl rfl ?_
        refine r_ld (pc' := 44) hM_106 d_106_42 rfl rfl ?_
        refine r_ld (pc' := 45) hM_106 d_106_44 rfl rfl ?_
        refine r_ld (pc' := 47) hM_106 d_106_45 rfl rfl ?_
        refine r_cl (pc' := 50) (c := (87, 2)) (a := [.inl s, .inl p]) (q := [.inl p, .inr (.inr (some 34)), .inr (.inl v)]) hM_106 d_106_47 rfl (by decide +kernel) hM_87 rfl rfl rfl (Nat.le_of_ble_eq_true rfl) (Nat.le_of_ble_eq_true rfl) (Or.inl rfl) (c_87  m s p) (Nat.le_of_ble_eq_true rfl) ?_
        show rn fx 1 (0, 0) 106 50 [some (.inr (.inr (some 34))), some (.inl b), some (.inl s), some (.inl i), some (.inr (.inl v)), none, some (.inl p)] [.inl (v_87 m s p), .inl p, .inr (.inr (some 34)), .inr (.inl v)] (st0 m) o
        exact hk
      refine ok_cl (pc' := 53) (c := (107, 0)) (a := [.inr (.inr (some 34)), .inl p, .inl (v_87 m s p)]) (q := [.inr (.inl v)]) hM_106 d_106_50 rfl (by decide +kernel) hM_107 rfl rfl rfl (Nat.le_of_ble_eq_true rfl) (Nat.le_of_ble_eq_true rfl) (Or.inr rfl) (z_107  m p (v_87 m s p) hz4) (Nat.le_of_ble_eq_true rfl) ?_
      rintro _ m1 ⟨rfl, hz5⟩
      replace H := H  m1 hz5
      show ok 1 106 53 [some (.inr (.inr (some 34))), some (.inl b), some (.inl s), some (.inl i), some (.inr (.inl v)), none, some (.inl p)] [.inl ((fl (fun u => m 35 (8 * p.toNat + u)) (v_87 m s p).toNat : Nat) : Int), .inr (.inl v)] m1 Q
      refine ok_sg (pc' := 18) (ls' := [some (.inr (.inr (some 34))), some (.inl b), some (.inl s), some (.inl i), some (.inr (.inl (am_lorL v (am_shlL (am_s ((fl (fun u => m 35 (8 * p.toNat + u)) (v_87 m s p).toNat : Nat) : Int)) (4 * p))))), none, some (.inl (p + 1))]) (st' := []) (m' := m1) (fun fx hfx o hk => ?_) ?_
      · refine r_stk (pc' := 54) (st' := [.inr (.inl (am_s ((fl (fun u => m 35 (8 * p.toNat + u)) (v_87 m s p).toNat : Nat) : Int))), .inr (.inl v)]) hM_106 d_106_53 rfl rfl ?_
        refine r_k (pc' := 55) (v := .inl 4) hM_106 d_106_54 rfl rfl ?_
        refine r_ld (pc' := 57) hM_106 d_106_55 rfl rfl ?_
        refine r_b (pc' := 58) (z := (4 * p)) hM_106 d_106_57 rfl rfl ?_
        refine r_stk (pc' := 59) (st' := [.inr (.inl (am_shlL (am_s ((fl (fun u => m 35 (8 * p.toNat + u)) (v_87 m s p).toNat : Nat) : Int)) (4 * p))), .inr (.inl v)]) hM_106 d_106_58 rfl rfl ?_
        refine r_stk (pc' := 60) (st' := [.inr (.inl (am_lorL v (am_shlL (am_s ((fl (fun u => m 35 (8 * p.toNat + u)) (v_87 m s p).toNat : Nat) : Int)) (4 * p))))]) hM_106 d_106_59 rfl rfl ?_
        refine r_sto (pc' := 62) (ls' := [some (.inr (.inr (some 34))), some (.inl b), some (.inl s), some (.inl i), some (.inr (.inl (am_lorL v (am_shlL (am_s ((fl (fun u => m 35 (8 * p.toNat + u)) (v_87 m s p).toNat : Nat) : Int)) (4 * p))))), none, some (.inl p)]) hM_106 d_106_60 rfl rfl ?_
        refine r_sto (pc' := 65) (ls' := [some (.inr (.inr (some 34))), some (.inl b), some (.inl s), some (.inl i), some (.inr (.inl (am_lorL v (am_shlL (am_s ((fl (fun u => m 35 (8 * p.toNat + u)) (v_87 m s p).toNat : Nat) : Int)) (4 * p))))), none, some (.inl (p + 1))]) hM_106 d_106_62 rfl rfl ?_
        refine r_go (pc' := 18) hM_106 d_106_65 (by decide) ?_
        exact hk
      exact H
theorem u_106_4 {Q : List am_V → am_M → Prop} {m : am_M} {b : Int} {s : Int} {i : Int}  (H : ((am_s (m 34 10) ≤ am_s i) → Q [] m) ∧ ((¬ (am_s (m 34 10) ≤ am_s i)) → ok 1 106 18 [some (.inr (.inr (some 34))), some (.inl b), some (.inl s), some (.inl i), some (.inr (.inl 0)), none, some (.inl 0)] [] m Q)) : ok 1 106 4 [some (.inr (.inr (some 34))), some (.inl b), some (.inl s), some (.inl i), none, none, none] [] m Q := by
  refine ok_sg (pc' := 9) (ls' := [some (.inr (.inr (some 34))), some (.inl b), some (.inl s), some (.inl i), none, none, none]) (st' := [.inl (m 34 10), .inl i]) (m' := m) (fun fx hfx o hk => ?_) ?_
  · refine r_ld (pc' := 5) hM_106 d_106_4 rfl rfl ?_
    refine r_ld (pc' := 6) hM_106 d_106_5 rfl rfl ?_
    refine r_gI (pc' := 9) (k0 := 10) hM_106 d_106_6 rfl (by decide +kernel) ?_
    exact hk
  refine ok_ic (pc' := 88) (pc2 := 12) hM_106 d_106_9 (by decide) rfl (fun hz1 => ?_) (fun hz1 => ?_)
  · have H := H.1 hz1
    exact ok_rt (fun fx _ => rt_v hM_106 d_106_88 rfl) H
  · have H := H.2 hz1
    refine ok_sg (pc' := 18) (ls' := [some (.inr (.inr (some 34))), some (.inl b), some (.inl s), some (.inl i), some (.inr (.inl 0)), none, some (.inl 0)]) (st' := []) (m' := m) (fun fx hfx o hk => ?_) ?_
    · refine r_k (pc' := 13) (v := .inr (.inl 0)) hM_106 d_106_12 rfl rfl ?_
      refine r_sto (pc' := 15) (ls' := [some (.inr (.inr (some 34))), some (.inl b), some (.inl s), some (.inl i), some (.inr (.inl 0)), none, none]) hM_106 d_106_13 rfl rfl ?_
      refine r_k (pc' := 16) (v := .inl 0) hM_106 d_106_15 rfl rfl ?_
      refine r_sto (pc' := 18) (ls' := [some (.inr (.inr (some 34))), some (.inl b), some (.inl s), some (.inl i), some (.inr (.inl 0)), none, some (.inl 0)]) hM_106 d_106_16 rfl rfl ?_
      exact hk
    exact H
theorem u_106_0 {Q : List am_V → am_M → Prop} {m : am_M} {b : Int}  (H : ok 1 106 4 [some (.inr (.inr (some 34))), some (.inl b), some (.inl 0), some (.inl 0), none, none, none] [] m Q) : ok 1 106 0 [some (.inr (.inr (some 34))), some (.inl b), none, none, none, none, none] [] m Q := by
  refine ok_sg (pc' := 4) (ls' := [some (.inr (.inr (some 34))), some (.inl b), some (.inl 0), some (.inl 0), none, none, none]) (st' := []) (m' := m) (fun fx hfx o hk => ?_) ?_
  · refine r_k (pc' := 1) (v := .inl 0) hM_106 d_106_0 rfl rfl ?_
    refine r_sto (pc' := 2) (ls' := [some (.inr (.inr (some 34))), some (.inl b), some (.inl 0), none, none, none, none]) hM_106 d_106_1 rfl rfl ?_
    refine r_k (pc' := 3) (v := .inl 0) hM_106 d_106_2 rfl rfl ?_
    refine r_sto (pc' := 4) (ls' := [some (.inr (.inr (some 34))), some (.inl b), some (.inl 0), some (.inl 0), none, none, none]) hM_106 d_106_3 rfl rfl ?_
    exact hk
  exact H
theorem shl4 : ∀ p : Nat, p < 12 → ∀ f : Nat, f < 8 → am_shlL (f : Int) (4 * (p : Int)) = ((2 ^ (4 * p) * f : Nat) : Int) := by decide +kernel
theorem vo_or {a p f : Nat} (ha : a < 2 ^ (4 * p)) (hp : p < 12) (hf : f < 8) : am_lorL (a : Int) (am_shlL (f : Int) (4 * (p : Int))) = ((2 ^ (4 * p) * f + a : Nat) : Int) := by
  have hz : 2 ^ (4 * p) ≤ 2 ^ 44 := Nat.pow_le_pow_right (by decide) (by omega)
  have h1 : 2 ^ (4 * p) * f ≤ 2 ^ 44 * 7 := Nat.mul_le_mul hz (by omega)
  rw [shl4 p hp f hf, bx_orL (by omega) (by omega), Nat.or_comm, Nat.two_pow_add_eq_or_of_lt ha]
theorem z_106   (m : am_M) (b : Int) (hq : (0 ≤ b ∧ b < 4096) ∧ (0 ≤ m 2 4 ∧ m 2 4 ≤ 12) ∧ (0 ≤ m 34 9 ∧ m 34 9 < 4096) ∧ m 34 10 = ((2 ^ cnt (m 34 9).toNat 12 : Nat) : Int) ∧ 2 ^ cnt (m 34 9).toNat 12 ≤ 256 ∧ ∀ x u : Nat, (x : Int) < m 2 4 → u < 8 → am_s (m 35 (8 * x + u)) = m 35 (8 * x + u)) : ok 1 106 0 (am_ent 7 [.inr (.inr (some 34)), .inl b]) [] m (fun rr m' => rr = [] ∧ (∀ i, i < 2 ^ cnt (m 34 9).toNat 12 → m' 41 i = ((vo (fun p u => m 35 (8 * p + u)) b.toNat (en (m 34 9).toNat i) (m 2 4).toNat : Nat) : Int)) ∧ ∀ a, a ≠ 41 → m' a = m a) := by
  show ok 1 106 0 [some (.inr (.inr (some 34))), some (.inl b), none, none, none, none, none] [] m _
  obtain ⟨hb, hN, hF, hc, h256, hT⟩ := hq
  obtain ⟨B, rfl⟩ : ∃ B : Nat, b = (B : Int) := ⟨b.toNat, by omega⟩
  rw [Int.toNat_natCast]
  have hFl : (m 34 9).toNat < 4096 := by omega
  have hF9 : m 34 9 = (((m 34 9).toNat : Nat) : Int) := by omega
  have e10 : am_s (m 34 10) = ((2 ^ cnt (m 34 9).toNat 12 : Nat) : Int) := by rw [hc]; exact cp_s
  generalize hFv : (m 34 9).toNat = F at *
  have eN : am_s (m 2 4) = m 2 4 := am_s_id (by omega) (by omega)
  refine u_106_0 ?_
  refine ok_for (σ := Unit) (fun i _ => [some (.inr (.inr (some 34))), some (.inl (B : Int)), some (.inl ((en F i : Nat) : Int)), some (.inl (i : Int)), none, none, none]) (fun i _ M => (∀ i', i' < i → M 41 i' = ((vo (fun p u => m 35 (8 * p + u)) B (en F i') (m 2 4).toNat : Nat) : Int)) ∧ ∀ a, a ≠ 41 → M a = m a) (2 ^ cnt F 12) ?_ ?_ () m ⟨fun i' h => absurd h (Nat.not_lt_zero _), fun _ _ => rfl⟩
  · rintro i hi - M ⟨h1, h2⟩ IH
    have hl := en_lt hFl hi
    refine u_106_4 ?_
    rw [h2 34 (by decide), e10, am_s_id (z := (i : Int)) (by omega) (by omega)]
    refine ⟨fun q => by omega, fun _ => ?_⟩
    refine ok_for (σ := Unit) (fun p _ => [some (.inr (.inr (some 34))), some (.inl (B : Int)), some (.inl ((en F i : Nat) : Int)), some (.inl (i : Int)), some (.inr (.inl ((vo (fun p u => m 35 (8 * p + u)) B (en F i) p : Nat) : Int))), none, some (.inl (p : Int))]) (fun p _ M' => M' = M) (m 2 4).toNat ?_ ?_ () M rfl
    · rintro p hp - M' rfl IH2
      have ht := tri_lt (en F i) p
      have hf := (fl_ok (T := fun u => m 35 (8 * p + u)) ht).1
      have e87 := v87e (m := M') (p := (p : Int)) (s := ((en F i : Nat) : Int)) (by omega) (by omega)
      rw [Int.toNat_natCast, Int.toNat_natCast] at e87
      refine u_106_18 ?_
      rw [h2 2 (by decide), eN, am_s_id (z := (p : Int)) (by omega) (by omega), bx_bit (by omega) (by omega), e87, Int.toNat_natCast, Int.toNat_natCast, h2 35 (by decide), am_s_id (z := ((fl (fun u => m 35 (8 * p + u)) (tri (en F i) p) : Nat) : Int)) (by omega) (by omega), vo_or (vo_lt p) (by omega) (by omega)]
      have := IH2 () M' rfl
      rw [vo_s] at this
      refine ⟨fun q => by omega, fun _ => ⟨fun q => ?_, fun q => ⟨⟨by omega, by omega, fun u hu => hT p u (by omega) hu⟩, ?_⟩⟩⟩
      · rw [if_neg (by rw [q]; decide)] at this
        exact this
      · intro mx hmx
        obtain rfl := hmx.symm
        rw [if_pos (by cases h : B.testBit p; exact absurd h q; rfl)] at this
        exact this
    · rintro - M' rfl
      refine u_106_18 ?_
      rw [h2 2 (by decide), eN, am_s_id (z := (((m 2 4).toNat : Nat) : Int)) (by omega) (by omega), am_s_id (z := (i : Int)) (by omega) (by omega), Int.toNat_natCast, v88 (F := F) (by rw [mu_r (by decide), h2 34 (by decide)]; exact hF9) hFl]
      refine ⟨fun _ => ⟨by omega, IH () _ ⟨fun i' hi' => ?_, fun a ha => by rw [mu_rf ha]; exact h2 a ha⟩⟩, fun q => by omega⟩
      rw [mu_if]
      by_cases h : i' = i
      · rw [if_pos h, h]
      · rw [if_neg h]; exact h1 i' (by omega)
  · rintro - M ⟨h1, h2⟩
    refine u_106_4 ?_
    rw [h2 34 (by decide), e10, cp_s]
    exact ⟨fun _ => ⟨rfl, h1, h2⟩, fun q => by omega⟩
