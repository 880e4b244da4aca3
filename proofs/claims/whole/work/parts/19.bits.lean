/-! NUMBERS AND BITS of the abstract machine -/
theorem mu_same {m : am_M} {r k : Nat} {z : Int} : mu m r k z r k = z := by simp [mu]
theorem mu_r {m : am_M} {r k a j : Nat} {z : Int} (h : a ≠ r) : mu m r k z a j = m a j := by simp [mu, h]
theorem mu_k {m : am_M} {r k a j : Nat} {z : Int} (h : j ≠ k) : mu m r k z a j = m a j := by simp [mu, h]
theorem mu_id {m : am_M} {r k : Nat} {z : Int} (h : m r k = z) : mu m r k z = m := by
  funext a j
  unfold mu
  split
  · rename_i hc
    rw [hc.1, hc.2, h]
  · rfl
theorem bx_ofN (a : Nat) : Int32.ofInt (a : Int) = nI a := rfl
theorem bx_toI {a : Nat} (h : a < 2147483648) : (nI a).toInt = (a : Int) := nI_toInt (by omega)
theorem bx_s {a : Nat} (h : a < 2147483648) : am_s (a : Int) = a := by rw [am_s, bx_ofN, bx_toI h]
theorem nb_and (a b : Nat) : nI a &&& nI b = nI (a &&& b) := by
  apply Int32.toBitVec_inj.mp
  show BitVec.ofNat 32 a &&& BitVec.ofNat 32 b = BitVec.ofNat 32 (a &&& b)
  apply BitVec.eq_of_toNat_eq
  simp [BitVec.toNat_ofNat, Nat.and_mod_two_pow]
theorem nb_or (a b : Nat) : nI a ||| nI b = nI (a ||| b) := by
  apply Int32.toBitVec_inj.mp
  show BitVec.ofNat 32 a ||| BitVec.ofNat 32 b = BitVec.ofNat 32 (a ||| b)
  apply BitVec.eq_of_toNat_eq
  simp [BitVec.toNat_ofNat, Nat.or_mod_two_pow]
theorem bx_and {a b : Nat} (h : a < 2147483648) : am_and (a : Int) (b : Int) = ((a &&& b : Nat) : Int) := by
  rw [am_and, bx_ofN, bx_ofN, nb_and]
  exact bx_toI (Nat.lt_of_le_of_lt Nat.and_le_left h)
theorem bx_or {a b k : Nat} (ha : a < 2 ^ k) (hb : b < 2 ^ k) (hk : k ≤ 31) : am_or (a : Int) (b : Int) = ((a ||| b : Nat) : Int) := by
  rw [am_or, bx_ofN, bx_ofN, nb_or]
  have h1 : a ||| b < 2 ^ k := Nat.or_lt_two_pow ha hb
  have h2 : 2 ^ k ≤ 2 ^ 31 := Nat.pow_le_pow_right (by decide) hk
  exact bx_toI (by omega)
theorem bx_shl1 : ∀ i : Nat, i < 31 → am_shl 1 (i : Int) = ((2 ^ i : Nat) : Int) := by decide +kernel
theorem bx_shr {a i : Nat} (ha : a < 2147483648) (hi : i < 32) : am_shr (a : Int) (i : Int) = ((a / 2 ^ i : Nat) : Int) := by
  have hs : ∀ i, i < 32 → ((nI i &&& 31).toBitVec.smod 32).toNat = i := by decide +kernel
  have h : nI a >>> (nI i &&& 31) = nI (a / 2 ^ i) := by
    apply Int32.toBitVec_inj.mp
    rw [Int32.toBitVec_shiftRight]
    apply BitVec.eq_of_toNat_eq
    rw [show ∀ x y : BitVec 32, x.sshiftRight' y = x.sshiftRight y.toNat from fun _ _ => rfl, hs i hi]
    have hm : (nI a).toBitVec.msb = false := by
      rw [BitVec.msb_eq_false_iff_two_mul_lt]
      show 2 * (BitVec.ofNat 32 a).toNat < _
      rw [BitVec.toNat_ofNat, Nat.mod_eq_of_lt (by omega)]
      omega
    rw [BitVec.sshiftRight_eq_of_msb_false hm, BitVec.toNat_ushiftRight]
    show (BitVec.ofNat 32 a).toNat >>> i = (BitVec.ofNat 32 (a / 2 ^ i)).toNat
    rw [BitVec.toNat_ofNat, BitVec.toNat_ofNat, Nat.mod_eq_of_lt (by omega), Nat.shiftRight_eq_div_pow, Nat.mod_eq_of_lt (Nat.lt_of_le_of_lt (Nat.div_le_self _ _) (by omega))]
  rw [am_shr, bx_ofN, bx_ofN, h]
  exact bx_toI (Nat.lt_of_le_of_lt (Nat.div_le_self _ _) ha)
theorem bx_or2 {a i : Nat} (ha : a < 2 ^ i) (hi : i < 31) : am_or (a : Int) (am_shl 1 (i : Int)) = ((a + 2 ^ i : Nat) : Int) := by
  rw [bx_shl1 i hi, bx_or (k := i + 1) (by rw [Nat.pow_succ]; omega) (by rw [Nat.pow_succ]; have := Nat.two_pow_pos i; omega) (by omega)]
  congr 1
  have := Nat.two_pow_add_eq_or_of_lt (i := i) ha 1
  rw [Nat.mul_one, Nat.or_comm] at this
  omega
/-- bit i of a 32-bit number -/
def bz (z : Int) (i : Nat) : Bool := (Int32.ofInt z).toBitVec.getLsbD i
theorem bz_n {a i : Nat} (hi : i < 32) : bz (a : Int) i = a.testBit i := by
  unfold bz
  show (BitVec.ofNat 32 a).getLsbD i = _
  rw [BitVec.getLsbD_ofNat]
  simp [hi]
theorem am_s_n (z : Int) (h : 0 ≤ am_s z) : Int32.ofInt z = nI (am_s z).toNat := by
  have h1 : Int32.ofInt z = Int32.ofInt (am_s z) := (Int32.ofInt_toInt _).symm
  rw [h1]
  have h2 : am_s z = ((am_s z).toNat : Int) := by omega
  rw [h2]
  rfl
/-- a set (any int) holds nothing but places of b -/
theorem bx_sub {z : Int} {b : Nat} (hb : b < 2147483648) : am_s (am_and z (am_xor (b : Int) (-1))) = 0 ↔ 0 ≤ am_s z ∧ (am_s z).toNat &&& b = (am_s z).toNat := by
  have e0 : am_s (am_and z (am_xor (b : Int) (-1))) = (Int32.ofInt z &&& (nI b ^^^ (-1))).toInt := by
    unfold am_s am_and am_xor
    rw [Int32.ofInt_toInt, Int32.ofInt_toInt]
    rfl
  rw [e0]
  have e1 : (Int32.ofInt z &&& (nI b ^^^ (-1))).toInt = 0 ↔ Int32.ofInt z &&& (nI b ^^^ (-1)) = 0 := by
    constructor
    · intro h; exact Int32.toInt_inj.mp h
    · intro h; rw [h]; rfl
  rw [e1]
  have bits : Int32.ofInt z &&& (nI b ^^^ (-1)) = 0 ↔ ∀ i, i < 32 → bz z i = true → b.testBit i = true := by
    constructor
    · intro h i hi hz
      have h2 : (Int32.ofInt z &&& (nI b ^^^ (-1))).toBitVec.getLsbD i = false := by rw [h]; simp
      rw [Int32.toBitVec_and, BitVec.getLsbD_and, Int32.toBitVec_xor, BitVec.getLsbD_xor] at h2
      have hm : ∀ i, i < 32 → (-1 : Int32).toBitVec.getLsbD i = true := by decide +kernel
      rw [hm i hi] at h2
      have hz' : (Int32.ofInt z).toBitVec.getLsbD i = true := hz
      rw [hz'] at h2
      have h3 : (nI b).toBitVec.getLsbD i = b.testBit i := bz_n (a := b) hi
      rw [h3] at h2
      simpa using h2
    · intro h
      apply Int32.toBitVec_inj.mp
      apply BitVec.eq_of_getLsbD_eq
      intro i hi
      rw [Int32.toBitVec_and, BitVec.getLsbD_and, Int32.toBitVec_xor, BitVec.getLsbD_xor]
      have hm : ∀ i, i < 32 → (-1 : Int32).toBitVec.getLsbD i = true := by decide +kernel
      rw [hm i hi]
      have h3 : (nI b).toBitVec.getLsbD i = b.testBit i := bz_n (a := b) hi
      rw [h3]
      have h0 : (0 : Int32).toBitVec.getLsbD i = false := by simp
      rw [h0]
      cases hz : (Int32.ofInt z).toBitVec.getLsbD i with
      | false => rfl
      | true => rw [h i hi hz]; rfl
  rw [bits]
  have b31 : b.testBit 31 = false := Nat.testBit_lt_two_pow (by omega)
  constructor
  · intro h
    have hn : 0 ≤ am_s z := by
      rcases Int.lt_or_le (am_s z) 0 with q | q
      · exfalso
        have hm : (Int32.ofInt z).toBitVec.msb = true := by
          rw [BitVec.msb_eq_toInt]
          simpa [am_s] using q
        have := h 31 (by decide) (by unfold bz; rw [← BitVec.msb_eq_getLsbD_last] ; exact hm)
        rw [b31] at this
        cases this
      · exact q
    refine ⟨hn, ?_⟩
    apply Nat.eq_of_testBit_eq
    intro i
    rw [Nat.testBit_and]
    cases ht : (am_s z).toNat.testBit i with
    | false => rfl
    | true =>
      have hlt : (am_s z).toNat < 2 ^ 32 := by have := am_s_rng z; omega
      have hi : i < 32 := by
        rcases Nat.lt_or_ge i 32 with q | q
        · exact q
        · have := Nat.testBit_lt_two_pow (Nat.lt_of_lt_of_le hlt (Nat.pow_le_pow_right (by decide) q))
          rw [this] at ht; cases ht
      have hz : bz z i = true := by
        unfold bz
        rw [am_s_n z hn]
        have := bz_n (a := (am_s z).toNat) hi
        rw [ht] at this
        exact this
      rw [h i hi hz]; rfl
  · rintro ⟨hn, he⟩ i hi hz
    unfold bz at hz
    rw [am_s_n z hn] at hz
    have h1 : (am_s z).toNat.testBit i = true := by
      have := bz_n (a := (am_s z).toNat) hi
      unfold bz at this
      rw [bx_ofN] at this
      rw [← this]; exact hz
    rw [← he, Nat.testBit_and] at h1
    simp at h1
    exact h1.2
theorem rn_loop {fx : am_X0} {d mi pc : Nat} {cr : Nat × Nat} (f : Nat → am_Ls × am_M) (n : Nat) (hs : ∀ i, i < n → ∀ o, rn fx d cr mi pc (f (i + 1)).1 [] (st0 (f (i + 1)).2) o → rn fx d cr mi pc (f i).1 [] (st0 (f i).2) o) {o : List am_V × am_S} (h : rn fx d cr mi pc (f n).1 [] (st0 (f n).2) o) : rn fx d cr mi pc (f 0).1 [] (st0 (f 0).2) o := by
  have key : ∀ k, k ≤ n → rn fx d cr mi pc (f (n - k)).1 [] (st0 (f (n - k)).2) o := by
    intro k
    induction k with
    | zero => intro _; exact h
    | succ k ih =>
      intro hk
      have h1 := ih (by omega)
      have e : n - k = n - (k + 1) + 1 := by omega
      rw [e] at h1
      exact hs _ (by omega) o h1
  have := key n (Nat.le_refl _)
  rw [Nat.sub_self] at this
  exact this
section RE
variable {fx : am_X0} {d mi pc pc' : Nat} {cr : Nat × Nat} {ls : am_Ls} {st : List am_V} {o : List am_V × am_S} {M : am_MT} {m : am_M}
theorem r_gIe {x r k0 : Nat} {z : Int} (hM : am_ms[mi]? = some M) (hd : decode M.2.2.1 pc = .ok (.getfield x, 3)) (hp : pc + 3 = pc') (h : am_gf M.1 x r = some (.inl k0)) (hz : m r k0 = z) (k : rn fx d cr mi pc' ls (.inl z :: st) (st0 m) o) : rn fx d cr mi pc ls (.inr (.inr (some r)) :: st) (st0 m) o := r_gI hM hd hp h (by rw [hz]; exact k)
theorem r_iae {r n : Nat} {j z : Int} (hM : am_ms[mi]? = some M) (hd : decode M.2.2.1 pc = .ok (.iaload, 1)) (hp : pc + 1 = pc') (h : am_SH[r]? = some (100, n)) (hj : 0 ≤ am_s j ∧ am_s j < n) (hz : m r (am_s j).toNat = z) (k : rn fx d cr mi pc' ls (.inl z :: st) (st0 m) o) : rn fx d cr mi pc ls (.inl j :: .inr (.inr (some r)) :: st) (st0 m) o := r_ia hM hd hp h hj (by rw [hz]; exact k)
theorem r_bae {r n t : Nat} {j z : Int} (hM : am_ms[mi]? = some M) (hd : decode M.2.2.1 pc = .ok (.baload, 1)) (hp : pc + 1 = pc') (h : am_SH[r]? = some (t, n)) (ht : t = 102 ∨ t = 103) (hj : 0 ≤ am_s j ∧ am_s j < n) (hz : m r (am_s j).toNat = z) (k : rn fx d cr mi pc' ls (.inl z :: st) (st0 m) o) : rn fx d cr mi pc ls (.inl j :: .inr (.inr (some r)) :: st) (st0 m) o := r_ba hM hd hp h ht hj (by rw [hz]; exact k)
theorem r_lae {r n : Nat} {j z : Int} (hM : am_ms[mi]? = some M) (hd : decode M.2.2.1 pc = .ok (.laload, 1)) (hp : pc + 1 = pc') (h : am_SH[r]? = some (101, n)) (hj : 0 ≤ am_s j ∧ am_s j < n) (hz : m r (am_s j).toNat = z) (k : rn fx d cr mi pc' ls (.inr (.inl z) :: st) (st0 m) o) : rn fx d cr mi pc ls (.inl j :: .inr (.inr (some r)) :: st) (st0 m) o := r_la hM hd hp h hj (by rw [hz]; exact k)
end RE
