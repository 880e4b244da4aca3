/-- the places below n where k is w, as bits -/
def msk (k : Nat → Int) (w : Int) : Nat → Nat
  | 0 => 0
  | n + 1 => if k n = w then msk k w n + 2 ^ n else msk k w n
theorem msk_lt (k : Nat → Int) (w : Int) : ∀ n, msk k w n < 2 ^ n := by
  intro n
  induction n with
  | zero => simp [msk]
  | succ n ih =>
    unfold msk
    rw [Nat.pow_succ]
    split <;> omega
theorem msk_bit (k : Nat → Int) (w : Int) : ∀ n i, (msk k w n).testBit i = (decide (i < n) && decide (k i = w)) := by
  intro n
  induction n with
  | zero => intro i; simp [msk]
  | succ n ih =>
    intro i
    unfold msk
    have hl := msk_lt k w n
    by_cases hk : k n = w
    · rw [if_pos hk]
      have e : msk k w n + 2 ^ n = 2 ^ n * 1 ||| msk k w n := by
        have := Nat.two_pow_add_eq_or_of_lt (i := n) hl 1
        omega
      rw [e, Nat.mul_one, Nat.testBit_or, ih, Nat.testBit_two_pow]
      by_cases h1 : i = n
      · subst h1; simp [hk]
      · by_cases h2 : i < n
        · have h3 : i < n + 1 := by omega
          have h4 : ¬ n = i := fun q => h1 q.symm
          simp [h2, h3, h4]
        · have h3 : ¬ i < n + 1 := by omega
          have h4 : ¬ n = i := fun q => h1 q.symm
          simp [h2, h3, h4]
    · rw [if_neg hk, ih]
      by_cases h1 : i = n
      · subst h1; simp [hk]
      · by_cases h2 : i < n
        · have h3 : i < n + 1 := by omega
          simp [h2, h3]
        · have h3 : ¬ i < n + 1 := by omega
          simp [h2, h3]
/-- the numbers of a shelf at a cell: places, kinds, salts, ripeness, idle days, within their bounds -/
def WFS (m : am_M) (s : Nat) : Prop := (0 ≤ m s 4 ∧ m s 4 ≤ 12) ∧ (∀ p, p < 12 → 0 ≤ m (s + 1) p ∧ m (s + 1) p ≤ 3) ∧ (∀ p, p < 12 → 0 ≤ m (s + 2) p ∧ m (s + 2) p ≤ 9) ∧ (∀ p, p < 12 → 0 ≤ m (s + 3) p ∧ m (s + 3) p ≤ 100) ∧ (∀ p, p < 12 → 0 ≤ m (s + 4) p ∧ m (s + 4) p ≤ 99) ∧ (1 ≤ m s 5 ∧ m s 5 ≤ 40) ∧ (0 ≤ m s 6 ∧ m s 6 ≤ 20) ∧ (1 ≤ m s 7 ∧ m s 7 ≤ 12) ∧ (1 ≤ m s 8 ∧ m s 8 ≤ 6) ∧ (0 ≤ m s 9 ∧ m s 9 ≤ 9) ∧ (0 ≤ m s 10 ∧ m s 10 ≤ 900) ∧ (0 ≤ m s 11 ∧ m s 11 ≤ 20000)
theorem gfS_8_27 {s : Nat} (hs : s ∈ shL) : am_gf 8 27 s = some (.inl 4) := by
  have h : ∀ s ∈ shL, am_gf 8 27 s = some (.inl 4) := by decide +kernel
  exact h s hs
theorem t_40_0 {fx : am_X0} {o : List am_V × am_S} {m : am_M} {s : Nat} {p : Int} (hs : s ∈ shL) (H : ∀ y1 : Int, y1 = (if am_s p < 0 then 0 else (if am_s (m s 4) ≤ am_s p then 0 else 1)) → o = ([.inl y1], st0 m)) : rn fx 0 (0, 0) 40 0 [some (.inr (.inr (some s))), some (.inl p)] [] (st0 m) o := by
  refine r_ld (pc' := 1) hM_40 d_40_0 rfl rfl ?_
  have K : ∀ y1 : Int, y1 = (if am_s p < 0 then 0 else (if am_s (m s 4) ≤ am_s p then 0 else 1)) → rn fx 0 (0, 0) 40 17 [some (.inr (.inr (some s))), some (.inl p)] [.inl y1] (st0 m) o := by
    intro y1 hy1
    replace H := H y1 hy1
    subst H
    refine rt_z hM_40 d_40_17 rfl ?_
    rw [hy1]
    repeat' first | exact Or.inl rfl | exact Or.inr rfl | apply z01_ite
  replace K := K _ rfl
  clear H
  refine r_if (pc' := 16) (pc2 := 4) hM_40 d_40_1 (by decide) rfl (fun hz1 => ?_) (fun hz1 => ?_)
  · have hz1 : am_s p < 0 := hz1
    rw [if_pos hz1] at K
    refine r_k (pc' := 17) (v := .inl 0) hM_40 d_40_16 rfl rfl ?_
    exact K
  · have hz1 : ¬ (am_s p < 0) := hz1
    rw [if_neg hz1] at K
    refine r_ld (pc' := 5) hM_40 d_40_4 rfl rfl ?_
    refine r_ld (pc' := 6) hM_40 d_40_5 rfl rfl ?_
    refine r_gI (pc' := 9) (k0 := 4) hM_40 d_40_6 rfl (gfS_8_27 hs) ?_
    refine r_ic (pc' := 16) (pc2 := 12) hM_40 d_40_9 (by decide) rfl (fun hz2 => ?_) (fun hz2 => ?_)
    · have hz2 : am_s (m s 4) ≤ am_s p := hz2
      rw [if_pos hz2] at K
      refine r_k (pc' := 17) (v := .inl 0) hM_40 d_40_16 rfl rfl ?_
      exact K
    · have hz2 : ¬ (am_s (m s 4) ≤ am_s p) := hz2
      rw [if_neg hz2] at K
      refine r_k (pc' := 13) (v := .inl 1) hM_40 d_40_12 rfl rfl ?_
      refine r_go (pc' := 17) hM_40 d_40_13 (by decide) ?_
      exact K
def v_40 (m : am_M) (s : Nat) (p : Int) : Int := (if am_s p < 0 then 0 else (if am_s (m s 4) ≤ am_s p then 0 else 1))
/-- HeardBarrels$Shelf.has -/
theorem c_40 {fx : am_X0} {s : Nat} (hs : s ∈ shL) (m : am_M) (p : Int)  : rn fx 0 (0, 0) 40 0 (am_ent 2 [.inr (.inr (some s)), .inl p]) [] (st0 m) ([.inl (v_40 m s p)], st0 m) := by
  show rn fx 0 (0, 0) 40 0 [some (.inr (.inr (some s))), some (.inl p)] [] (st0 m) _
  refine t_40_0 hs ?_
  intro y1 hy1
  subst hy1
  simp only [v_40]
theorem puS_8_27 {s : Nat} (hs : s ∈ shL) : am_pu 8 27 s = some (4, false) := by
  have h : ∀ s ∈ shL, am_pu 8 27 s = some (4, false) := by decide +kernel
  exact h s hs
theorem puS_8_31 {s : Nat} (hs : s ∈ shL) : am_pu 8 31 s = some (5, false) := by
  have h : ∀ s ∈ shL, am_pu 8 31 s = some (5, false) := by decide +kernel
  exact h s hs
theorem puS_8_34 {s : Nat} (hs : s ∈ shL) : am_pu 8 34 s = some (6, false) := by
  have h : ∀ s ∈ shL, am_pu 8 34 s = some (6, false) := by decide +kernel
  exact h s hs
theorem puS_8_37 {s : Nat} (hs : s ∈ shL) : am_pu 8 37 s = some (7, false) := by
  have h : ∀ s ∈ shL, am_pu 8 37 s = some (7, false) := by decide +kernel
  exact h s hs
theorem puS_8_40 {s : Nat} (hs : s ∈ shL) : am_pu 8 40 s = some (8, false) := by
  have h : ∀ s ∈ shL, am_pu 8 40 s = some (8, false) := by decide +kernel
  exact h s hs
theorem puS_8_43 {s : Nat} (hs : s ∈ shL) : am_pu 8 43 s = some (9, false) := by
  have h : ∀ s ∈ shL, am_pu 8 43 s = some (9, false) := by decide +kernel
  exact h s hs
theorem puS_8_46 {s : Nat} (hs : s ∈ shL) : am_pu 8 46 s = some (10, false) := by
  have h : ∀ s ∈ shL, am_pu 8 46 s = some (10, false) := by decide +kernel
  exact h s hs
theorem puS_8_49 {s : Nat} (hs : s ∈ shL) : am_pu 8 49 s = some (11, false) := by
  have h : ∀ s ∈ shL, am_pu 8 49 s = some (11, false) := by decide +kernel
  exact h s hs
theorem t_3_0 {fx : am_X0} {o : List am_V × am_S} {m : am_M} {s : Nat} (hs : s ∈ shL) (H : o = ([], st0 (mu (mu (mu (mu (mu (mu (mu (mu m s 4 0) s 5 15) s 6 4) s 7 12) s 8 3) s 9 0) s 10 0) s 11 0))) : rn fx 0 (0, 0) 3 0 [some (.inr (.inr (some s)))] [] (st0 m) o := by
  refine r_ld (pc' := 1) hM_3 d_3_0 rfl rfl ?_
  refine r_k (pc' := 2) (v := .inl 0) hM_3 d_3_1 rfl rfl ?_
  refine r_pI (pc' := 5) (k0 := 4) hM_3 d_3_2 rfl (puS_8_27 hs) ?_
  refine r_ld (pc' := 6) hM_3 d_3_5 rfl rfl ?_
  refine r_k (pc' := 8) (v := .inl 15) hM_3 d_3_6 rfl rfl ?_
  refine r_pI (pc' := 11) (k0 := 5) hM_3 d_3_8 rfl (puS_8_31 hs) ?_
  refine r_ld (pc' := 12) hM_3 d_3_11 rfl rfl ?_
  refine r_k (pc' := 13) (v := .inl 4) hM_3 d_3_12 rfl rfl ?_
  refine r_pI (pc' := 16) (k0 := 6) hM_3 d_3_13 rfl (puS_8_34 hs) ?_
  refine r_ld (pc' := 17) hM_3 d_3_16 rfl rfl ?_
  refine r_k (pc' := 19) (v := .inl 12) hM_3 d_3_17 rfl rfl ?_
  refine r_pI (pc' := 22) (k0 := 7) hM_3 d_3_19 rfl (puS_8_37 hs) ?_
  refine r_ld (pc' := 23) hM_3 d_3_22 rfl rfl ?_
  refine r_k (pc' := 24) (v := .inl 3) hM_3 d_3_23 rfl rfl ?_
  refine r_pI (pc' := 27) (k0 := 8) hM_3 d_3_24 rfl (puS_8_40 hs) ?_
  refine r_ld (pc' := 28) hM_3 d_3_27 rfl rfl ?_
  refine r_k (pc' := 29) (v := .inl 0) hM_3 d_3_28 rfl rfl ?_
  refine r_pI (pc' := 32) (k0 := 9) hM_3 d_3_29 rfl (puS_8_43 hs) ?_
  refine r_ld (pc' := 33) hM_3 d_3_32 rfl rfl ?_
  refine r_k (pc' := 34) (v := .inl 0) hM_3 d_3_33 rfl rfl ?_
  refine r_pI (pc' := 37) (k0 := 10) hM_3 d_3_34 rfl (puS_8_46 hs) ?_
  refine r_ld (pc' := 38) hM_3 d_3_37 rfl rfl ?_
  refine r_k (pc' := 39) (v := .inl 0) hM_3 d_3_38 rfl rfl ?_
  refine r_pI (pc' := 42) (k0 := 11) hM_3 d_3_39 rfl (puS_8_49 hs) ?_
  subst H
  exact rt_v hM_3 d_3_42 rfl
def w_3 (m : am_M) (s : Nat) : am_M := (mu (mu (mu (mu (mu (mu (mu (mu m s 4 0) s 5 15) s 6 4) s 7 12) s 8 3) s 9 0) s 10 0) s 11 0)
/-- HeardBarrels$Shelf.clear -/
theorem c_3 {fx : am_X0} {s : Nat} (hs : s ∈ shL) (m : am_M)   : rn fx 0 (0, 0) 3 0 (am_ent 1 [.inr (.inr (some s))]) [] (st0 m) ([], st0 (w_3 m s)) := by
  show rn fx 0 (0, 0) 3 0 [some (.inr (.inr (some s)))] [] (st0 m) _
  refine t_3_0 hs ?_
  simp only [w_3]
theorem gfS_8_9 {s : Nat} (hs : s ∈ shL) : am_gf 8 9 s = some (.inr (s + 1)) := by
  have h : ∀ s ∈ shL, am_gf 8 9 s = some (.inr (s + 1)) := by decide +kernel
  exact h s hs
theorem gfS_8_15 {s : Nat} (hs : s ∈ shL) : am_gf 8 15 s = some (.inr (s + 2)) := by
  have h : ∀ s ∈ shL, am_gf 8 15 s = some (.inr (s + 2)) := by decide +kernel
  exact h s hs
theorem gfS_8_18 {s : Nat} (hs : s ∈ shL) : am_gf 8 18 s = some (.inr (s + 3)) := by
  have h : ∀ s ∈ shL, am_gf 8 18 s = some (.inr (s + 3)) := by decide +kernel
  exact h s hs
theorem gfS_8_21 {s : Nat} (hs : s ∈ shL) : am_gf 8 21 s = some (.inr (s + 4)) := by
  have h : ∀ s ∈ shL, am_gf 8 21 s = some (.inr (s + 4)) := by decide +kernel
  exact h s hs
theorem t_34_0 {fx : am_X0} {o : List am_V × am_S} {m : am_M} {s : Nat} {p : Int} {a : Int} {b : Int} {c : Int} {e : Int} (hs : s ∈ shL) (H : ((am_s p < 0) → o = ([], st0 m)) ∧ (¬ (am_s p < 0) → ((am_s p < am_s 12) → (0 ≤ am_s p ∧ am_s p < (12 : Nat)) ∧ (o = ([], st0 (mu (mu (mu (mu m (s + 1) ((am_s p).toNat) a) (s + 2) ((am_s p).toNat) b) (s + 3) ((am_s p).toNat) c) (s + 4) ((am_s p).toNat) e)))) ∧ (¬ (am_s p < am_s 12) → o = ([], st0 m)))) : rn fx 0 (0, 0) 34 0 [some (.inr (.inr (some s))), some (.inl p), some (.inl a), some (.inl b), some (.inl c), some (.inl e)] [] (st0 m) o := by
  refine r_ld (pc' := 1) hM_34 d_34_0 rfl rfl ?_
  refine r_if (pc' := 10) (pc2 := 4) hM_34 d_34_1 (by decide) rfl (fun hz1 => ?_) (fun hz1 => ?_)
  · have H := H.1 hz1
    subst H
    exact rt_v hM_34 d_34_10 rfl
  · have H := H.2 hz1
    refine r_ld (pc' := 5) hM_34 d_34_4 rfl rfl ?_
    refine r_k (pc' := 7) (v := .inl 12) hM_34 d_34_5 rfl rfl ?_
    refine r_ic (pc' := 11) (pc2 := 10) hM_34 d_34_7 (by decide) rfl (fun hz2 => ?_) (fun hz2 => ?_)
    · have H := H.1 hz2
      refine r_ld (pc' := 12) hM_34 d_34_11 rfl rfl ?_
      refine r_gR (pc' := 15) (v := (s + 1)) hM_34 d_34_12 rfl (gfS_8_9 hs) ?_
      refine r_ld (pc' := 16) hM_34 d_34_15 rfl rfl ?_
      refine r_ld (pc' := 17) hM_34 d_34_16 rfl rfl ?_
      obtain ⟨hz3, H⟩ := H
      refine r_is (pc' := 18) (n := 12) hM_34 d_34_17 rfl (shSk hs).2.1 hz3 ?_
      refine r_ld (pc' := 19) hM_34 d_34_18 rfl rfl ?_
      refine r_gR (pc' := 22) (v := (s + 2)) hM_34 d_34_19 rfl (gfS_8_15 hs) ?_
      refine r_ld (pc' := 23) hM_34 d_34_22 rfl rfl ?_
      refine r_ld (pc' := 24) hM_34 d_34_23 rfl rfl ?_
      refine r_is (pc' := 25) (n := 12) hM_34 d_34_24 rfl (shSk hs).2.2.1 hz3 ?_
      refine r_ld (pc' := 26) hM_34 d_34_25 rfl rfl ?_
      refine r_gR (pc' := 29) (v := (s + 3)) hM_34 d_34_26 rfl (gfS_8_18 hs) ?_
      refine r_ld (pc' := 30) hM_34 d_34_29 rfl rfl ?_
      refine r_ld (pc' := 32) hM_34 d_34_30 rfl rfl ?_
      refine r_is (pc' := 33) (n := 12) hM_34 d_34_32 rfl (shSk hs).2.2.2.1 hz3 ?_
      refine r_ld (pc' := 34) hM_34 d_34_33 rfl rfl ?_
      refine r_gR (pc' := 37) (v := (s + 4)) hM_34 d_34_34 rfl (gfS_8_21 hs) ?_
      refine r_ld (pc' := 38) hM_34 d_34_37 rfl rfl ?_
      refine r_ld (pc' := 40) hM_34 d_34_38 rfl rfl ?_
      refine r_is (pc' := 41) (n := 12) hM_34 d_34_40 rfl (shSk hs).2.2.2.2 hz3 ?_
      subst H
      exact rt_v hM_34 d_34_41 rfl
    · have H := H.2 hz2
      subst H
      exact rt_v hM_34 d_34_10 rfl
def w_34 (m : am_M) (s : Nat) (p : Int) (a : Int) (b : Int) (c : Int) (e : Int) : am_M := (if am_s p < 0 then m else (if am_s p < am_s 12 then (mu (mu (mu (mu m (s + 1) ((am_s p).toNat) a) (s + 2) ((am_s p).toNat) b) (s + 3) ((am_s p).toNat) c) (s + 4) ((am_s p).toNat) e) else m))
def q_34 (m : am_M) (s : Nat) (p : Int) (a : Int) (b : Int) (c : Int) (e : Int) : Prop := ((¬ (am_s p < 0) → (((am_s p < am_s 12) → (0 ≤ am_s p ∧ am_s p < (12 : Nat))))))
/-- HeardBarrels$Shelf.lay -/
theorem c_34 {fx : am_X0} {s : Nat} (hs : s ∈ shL) (m : am_M) (p : Int) (a : Int) (b : Int) (c : Int) (e : Int) (hq : q_34 m s p a b c e) : rn fx 0 (0, 0) 34 0 (am_ent 6 [.inr (.inr (some s)), .inl p, .inl a, .inl b, .inl c, .inl e]) [] (st0 m) ([], st0 (w_34 m s p a b c e)) := by
  unfold q_34 at hq
  show rn fx 0 (0, 0) 34 0 [some (.inr (.inr (some s))), some (.inl p), some (.inl a), some (.inl b), some (.inl c), some (.inl e)] [] (st0 m) _
  refine t_34_0 hs ?_
  refine ⟨fun hc0 => ?_, fun hc0 => ?_⟩
  · skip
    simp only [w_34, if_pos hc0]
  · have hq := hq hc0
    refine ⟨fun hc1 => ?_, fun hc1 => ?_⟩
    · have hq := hq hc1
      have hb2_0 := hq
      refine ⟨hb2_0, ?_⟩
      simp only [w_34, if_neg hc0, if_pos hc1]
    · skip
      simp only [w_34, if_neg hc0, if_neg hc1]
theorem t_68_0 {fx : am_X0} {o : List am_V × am_S} {m : am_M} {s : Nat} {p : Int} (hs : s ∈ shL) (H : ((¬ (am_s (v_40 m s p) = 0)) → (0 ≤ am_s p ∧ am_s p < (12 : Nat))) ∧ (∀ y1 : Int, y1 = (if am_s (v_40 m s p) = 0 then 0 else (if am_s (m (s + 1) ((am_s p).toNat)) = am_s 3 then 0 else 1)) → o = ([.inl y1], st0 m))) : rn fx 1 (0, 0) 68 0 [some (.inr (.inr (some s))), some (.inl p)] [] (st0 m) o := by
  refine r_ld (pc' := 1) hM_68 d_68_0 rfl rfl ?_
  refine r_ld (pc' := 2) hM_68 d_68_1 rfl rfl ?_
  refine r_cl (pc' := 5) (c := (40, 0)) (a := [.inr (.inr (some s)), .inl p]) (q := []) hM_68 d_68_2 rfl (by decide +kernel) hM_40 rfl rfl rfl (Nat.le_of_ble_eq_true rfl) (Nat.le_of_ble_eq_true rfl) (Or.inr (rcvS hs _)) (c_40 hs m p) (Nat.le_of_ble_eq_true rfl) ?_
  show rn fx 1 (0, 0) 68 5 [some (.inr (.inr (some s))), some (.inl p)] [.inl (v_40 m s p)] (st0 m) o
  obtain ⟨hz2, H⟩ := H
  have K : ∀ y1 : Int, y1 = (if am_s (v_40 m s p) = 0 then 0 else (if am_s (m (s + 1) ((am_s p).toNat)) = am_s 3 then 0 else 1)) → rn fx 1 (0, 0) 68 23 [some (.inr (.inr (some s))), some (.inl p)] [.inl y1] (st0 m) o := by
    intro y1 hy1
    replace H := H y1 hy1
    subst H
    refine rt_z hM_68 d_68_23 rfl ?_
    rw [hy1]
    repeat' first | exact Or.inl rfl | exact Or.inr rfl | apply z01_ite
  replace K := K _ rfl
  clear H
  refine r_if (pc' := 22) (pc2 := 8) hM_68 d_68_5 (by decide) rfl (fun hz1 => ?_) (fun hz1 => ?_)
  · have hz1 : am_s (v_40 m s p) = 0 := hz1
    rw [if_pos hz1] at K
    refine r_k (pc' := 23) (v := .inl 0) hM_68 d_68_22 rfl rfl ?_
    exact K
  · have hz1 : ¬ (am_s (v_40 m s p) = 0) := hz1
    rw [if_neg hz1] at K
    refine r_ld (pc' := 9) hM_68 d_68_8 rfl rfl ?_
    refine r_gR (pc' := 12) (v := (s + 1)) hM_68 d_68_9 rfl (gfS_8_9 hs) ?_
    refine r_ld (pc' := 13) hM_68 d_68_12 rfl rfl ?_
    refine r_ia (pc' := 14) (n := 12) hM_68 d_68_13 rfl (shSk hs).2.1 (hz2 hz1) ?_
    refine r_k (pc' := 15) (v := .inl 3) hM_68 d_68_14 rfl rfl ?_
    refine r_ic (pc' := 22) (pc2 := 18) hM_68 d_68_15 (by decide) rfl (fun hz3 => ?_) (fun hz3 => ?_)
    · have hz3 : am_s (m (s + 1) ((am_s p).toNat)) = am_s 3 := hz3
      rw [if_pos hz3] at K
      refine r_k (pc' := 23) (v := .inl 0) hM_68 d_68_22 rfl rfl ?_
      exact K
    · have hz3 : ¬ (am_s (m (s + 1) ((am_s p).toNat)) = am_s 3) := hz3
      rw [if_neg hz3] at K
      refine r_k (pc' := 19) (v := .inl 1) hM_68 d_68_18 rfl rfl ?_
      refine r_go (pc' := 23) hM_68 d_68_19 (by decide) ?_
      exact K
def v_68 (m : am_M) (s : Nat) (p : Int) : Int := (if am_s (v_40 m s p) = 0 then 0 else (if am_s (m (s + 1) ((am_s p).toNat)) = am_s 3 then 0 else 1))
def q_68 (m : am_M) (s : Nat) (p : Int) : Prop := ((¬ (am_s (v_40 m s p) = 0)) → (0 ≤ am_s p ∧ am_s p < (12 : Nat)))
/-- HeardBarrels$Shelf.hasBarrel -/
theorem c_68 {fx : am_X0} {s : Nat} (hs : s ∈ shL) (m : am_M) (p : Int) (hq : q_68 m s p) : rn fx 1 (0, 0) 68 0 (am_ent 2 [.inr (.inr (some s)), .inl p]) [] (st0 m) ([.inl (v_68 m s p)], st0 m) := by
  unfold q_68 at hq
  show rn fx 1 (0, 0) 68 0 [some (.inr (.inr (some s))), some (.inl p)] [] (st0 m) _
  refine t_68_0 hs ?_
  have hb0_0 := hq
  refine ⟨hb0_0, ?_⟩
  intro y1 hy1
  subst hy1
  simp only [v_68]
theorem t_73_0 {fx : am_X0} {o : List am_V × am_S} {m : am_M} {s : Nat} {p : Int} (hs : s ∈ shL) (H : ((¬ (am_s (v_40 m s p) = 0)) → (0 ≤ am_s p ∧ am_s p < (12 : Nat))) ∧ (∀ y1 : Int, y1 = (if am_s (v_40 m s p) = 0 then 0 else (if ¬ am_s (m (s + 1) ((am_s p).toNat)) = am_s 3 then 0 else 1)) → o = ([.inl y1], st0 m))) : rn fx 1 (0, 0) 73 0 [some (.inr (.inr (some s))), some (.inl p)] [] (st0 m) o := by
  refine r_ld (pc' := 1) hM_73 d_73_0 rfl rfl ?_
  refine r_ld (pc' := 2) hM_73 d_73_1 rfl rfl ?_
  refine r_cl (pc' := 5) (c := (40, 0)) (a := [.inr (.inr (some s)), .inl p]) (q := []) hM_73 d_73_2 rfl (by decide +kernel) hM_40 rfl rfl rfl (Nat.le_of_ble_eq_true rfl) (Nat.le_of_ble_eq_true rfl) (Or.inr (rcvS hs _)) (c_40 hs m p) (Nat.le_of_ble_eq_true rfl) ?_
  show rn fx 1 (0, 0) 73 5 [some (.inr (.inr (some s))), some (.inl p)] [.inl (v_40 m s p)] (st0 m) o
  obtain ⟨hz2, H⟩ := H
  have K : ∀ y1 : Int, y1 = (if am_s (v_40 m s p) = 0 then 0 else (if ¬ am_s (m (s + 1) ((am_s p).toNat)) = am_s 3 then 0 else 1)) → rn fx 1 (0, 0) 73 23 [some (.inr (.inr (some s))), some (.inl p)] [.inl y1] (st0 m) o := by
    intro y1 hy1
    replace H := H y1 hy1
    subst H
    refine rt_z hM_73 d_73_23 rfl ?_
    rw [hy1]
    repeat' first | exact Or.inl rfl | exact Or.inr rfl | apply z01_ite
  replace K := K _ rfl
  clear H
  refine r_if (pc' := 22) (pc2 := 8) hM_73 d_73_5 (by decide) rfl (fun hz1 => ?_) (fun hz1 => ?_)
  · have hz1 : am_s (v_40 m s p) = 0 := hz1
    rw [if_pos hz1] at K
    refine r_k (pc' := 23) (v := .inl 0) hM_73 d_73_22 rfl rfl ?_
    exact K
  · have hz1 : ¬ (am_s (v_40 m s p) = 0) := hz1
    rw [if_neg hz1] at K
    refine r_ld (pc' := 9) hM_73 d_73_8 rfl rfl ?_
    refine r_gR (pc' := 12) (v := (s + 1)) hM_73 d_73_9 rfl (gfS_8_9 hs) ?_
    refine r_ld (pc' := 13) hM_73 d_73_12 rfl rfl ?_
    refine r_ia (pc' := 14) (n := 12) hM_73 d_73_13 rfl (shSk hs).2.1 (hz2 hz1) ?_
    refine r_k (pc' := 15) (v := .inl 3) hM_73 d_73_14 rfl rfl ?_
    refine r_ic (pc' := 22) (pc2 := 18) hM_73 d_73_15 (by decide) rfl (fun hz3 => ?_) (fun hz3 => ?_)
    · have hz3 : ¬ am_s (m (s + 1) ((am_s p).toNat)) = am_s 3 := hz3
      rw [if_pos hz3] at K
      refine r_k (pc' := 23) (v := .inl 0) hM_73 d_73_22 rfl rfl ?_
      exact K
    · have hz3 : ¬ (¬ am_s (m (s + 1) ((am_s p).toNat)) = am_s 3) := hz3
      rw [if_neg hz3] at K
      refine r_k (pc' := 19) (v := .inl 1) hM_73 d_73_18 rfl rfl ?_
      refine r_go (pc' := 23) hM_73 d_73_19 (by decide) ?_
      exact K
def v_73 (m : am_M) (s : Nat) (p : Int) : Int := (if am_s (v_40 m s p) = 0 then 0 else (if ¬ am_s (m (s + 1) ((am_s p).toNat)) = am_s 3 then 0 else 1))
def q_73 (m : am_M) (s : Nat) (p : Int) : Prop := ((¬ (am_s (v_40 m s p) = 0)) → (0 ≤ am_s p ∧ am_s p < (12 : Nat)))
/-- HeardBarrels$Shelf.isGap -/
theorem c_73 {fx : am_X0} {s : Nat} (hs : s ∈ shL) (m : am_M) (p : Int) (hq : q_73 m s p) : rn fx 1 (0, 0) 73 0 (am_ent 2 [.inr (.inr (some s)), .inl p]) [] (st0 m) ([.inl (v_73 m s p)], st0 m) := by
  unfold q_73 at hq
  show rn fx 1 (0, 0) 73 0 [some (.inr (.inr (some s))), some (.inl p)] [] (st0 m) _
  refine t_73_0 hs ?_
  have hb0_0 := hq
  refine ⟨hb0_0, ?_⟩
  intro y1 hy1
  subst hy1
  simp only [v_73]
theorem t_63_0 {fx : am_X0} {o : List am_V × am_S} {m : am_M} {s : Nat} {b : Int} (hs : s ∈ shL) (H : ∀ y1 : Int, y1 = (if ¬ am_s (am_and b (am_xor ((am_shl 1 (m s 4)) - 1) (-1))) = 0 then 0 else 1) → o = ([.inl y1], st0 m)) : rn fx 0 (0, 0) 63 0 [some (.inr (.inr (some s))), some (.inl b)] [] (st0 m) o := by
  refine r_ld (pc' := 1) hM_63 d_63_0 rfl rfl ?_
  refine r_k (pc' := 2) (v := .inl 1) hM_63 d_63_1 rfl rfl ?_
  refine r_ld (pc' := 3) hM_63 d_63_2 rfl rfl ?_
  refine r_gI (pc' := 6) (k0 := 4) hM_63 d_63_3 rfl (gfS_8_27 hs) ?_
  refine r_b (pc' := 7) (z := (am_shl 1 (m s 4))) hM_63 d_63_6 rfl rfl ?_
  refine r_k (pc' := 8) (v := .inl 1) hM_63 d_63_7 rfl rfl ?_
  refine r_b (pc' := 9) (z := ((am_shl 1 (m s 4)) - 1)) hM_63 d_63_8 rfl rfl ?_
  refine r_k (pc' := 10) (v := .inl (-1)) hM_63 d_63_9 rfl rfl ?_
  refine r_b (pc' := 11) (z := (am_xor ((am_shl 1 (m s 4)) - 1) (-1))) hM_63 d_63_10 rfl rfl ?_
  refine r_b (pc' := 12) (z := (am_and b (am_xor ((am_shl 1 (m s 4)) - 1) (-1)))) hM_63 d_63_11 rfl rfl ?_
  have K : ∀ y1 : Int, y1 = (if ¬ am_s (am_and b (am_xor ((am_shl 1 (m s 4)) - 1) (-1))) = 0 then 0 else 1) → rn fx 0 (0, 0) 63 20 [some (.inr (.inr (some s))), some (.inl b)] [.inl y1] (st0 m) o := by
    intro y1 hy1
    replace H := H y1 hy1
    subst H
    refine rt_z hM_63 d_63_20 rfl ?_
    rw [hy1]
    repeat' first | exact Or.inl rfl | exact Or.inr rfl | apply z01_ite
  replace K := K _ rfl
  clear H
  refine r_if (pc' := 19) (pc2 := 15) hM_63 d_63_12 (by decide) rfl (fun hz1 => ?_) (fun hz1 => ?_)
  · have hz1 : ¬ am_s (am_and b (am_xor ((am_shl 1 (m s 4)) - 1) (-1))) = 0 := hz1
    rw [if_pos hz1] at K
    refine r_k (pc' := 20) (v := .inl 0) hM_63 d_63_19 rfl rfl ?_
    exact K
  · have hz1 : ¬ (¬ am_s (am_and b (am_xor ((am_shl 1 (m s 4)) - 1) (-1))) = 0) := hz1
    rw [if_neg hz1] at K
    refine r_k (pc' := 16) (v := .inl 1) hM_63 d_63_15 rfl rfl ?_
    refine r_go (pc' := 20) hM_63 d_63_16 (by decide) ?_
    exact K
def v_63 (m : am_M) (s : Nat) (b : Int) : Int := (if ¬ am_s (am_and b (am_xor ((am_shl 1 (m s 4)) - 1) (-1))) = 0 then 0 else 1)
/-- HeardBarrels$Shelf.isSetOfPlaces -/
theorem c_63 {fx : am_X0} {s : Nat} (hs : s ∈ shL) (m : am_M) (b : Int)  : rn fx 0 (0, 0) 63 0 (am_ent 2 [.inr (.inr (some s)), .inl b]) [] (st0 m) ([.inl (v_63 m s b)], st0 m) := by
  show rn fx 0 (0, 0) 63 0 [some (.inr (.inr (some s))), some (.inl b)] [] (st0 m) _
  refine t_63_0 hs ?_
  intro y1 hy1
  subst hy1
  simp only [v_63]
theorem t_51_0 {fx : am_X0} {o : List am_V × am_S} {m : am_M} {p : Int}  (H : o = ([.inl (am_or (am_shl (am_shl 1 p) 1) (am_shr (am_shl 1 p) 1))], st0 m)) : rn fx 0 (0, 0) 51 0 [some (.inl p)] [] (st0 m) o := by
  refine r_k (pc' := 1) (v := .inl 1) hM_51 d_51_0 rfl rfl ?_
  refine r_ld (pc' := 2) hM_51 d_51_1 rfl rfl ?_
  refine r_b (pc' := 3) (z := (am_shl 1 p)) hM_51 d_51_2 rfl rfl ?_
  refine r_k (pc' := 4) (v := .inl 1) hM_51 d_51_3 rfl rfl ?_
  refine r_b (pc' := 5) (z := (am_shl (am_shl 1 p) 1)) hM_51 d_51_4 rfl rfl ?_
  refine r_k (pc' := 6) (v := .inl 1) hM_51 d_51_5 rfl rfl ?_
  refine r_ld (pc' := 7) hM_51 d_51_6 rfl rfl ?_
  refine r_b (pc' := 8) (z := (am_shl 1 p)) hM_51 d_51_7 rfl rfl ?_
  refine r_k (pc' := 9) (v := .inl 1) hM_51 d_51_8 rfl rfl ?_
  refine r_b (pc' := 10) (z := (am_shr (am_shl 1 p) 1)) hM_51 d_51_9 rfl rfl ?_
  refine r_b (pc' := 11) (z := (am_or (am_shl (am_shl 1 p) 1) (am_shr (am_shl 1 p) 1))) hM_51 d_51_10 rfl rfl ?_
  subst H
  exact rt_i hM_51 d_51_11 rfl
def v_51 (m : am_M) (p : Int) : Int := (am_or (am_shl (am_shl 1 p) 1) (am_shr (am_shl 1 p) 1))
/-- HeardBarrels$Shelf.beside -/
theorem c_51 {fx : am_X0}   (m : am_M) (p : Int)  : rn fx 0 (0, 0) 51 0 (am_ent 1 [.inl p]) [] (st0 m) ([.inl (v_51 m p)], st0 m) := by
  show rn fx 0 (0, 0) 51 0 [some (.inl p)] [] (st0 m) _
  refine t_51_0  ?_
  simp only [v_51]
theorem gfS_8_31 {s : Nat} (hs : s ∈ shL) : am_gf 8 31 s = some (.inl 5) := by
  have h : ∀ s ∈ shL, am_gf 8 31 s = some (.inl 5) := by decide +kernel
  exact h s hs
theorem t_69_0 {fx : am_X0} {o : List am_V × am_S} {m : am_M} {s : Nat} {p : Int} {b : Int} (hs : s ∈ shL) (H : (0 ≤ am_s p ∧ am_s p < (12 : Nat)) ∧ (((¬ am_s (m (s + 1) ((am_s p).toNat)) = am_s 2) → o = ([.inl (((120 - (am_div (m (s + 3) ((am_s p).toNat)) 2)) + (m (s + 2) ((am_s p).toNat))) - (if am_s b = 0 then 0 else (m s 5)))], st0 m)) ∧ (¬ (¬ am_s (m (s + 1) ((am_s p).toNat)) = am_s 2) → o = ([.inl 20], st0 m)))) : rn fx 0 (0, 0) 69 0 [some (.inr (.inr (some s))), some (.inl p), some (.inl b)] [] (st0 m) o := by
  refine r_ld (pc' := 1) hM_69 d_69_0 rfl rfl ?_
  refine r_gR (pc' := 4) (v := (s + 1)) hM_69 d_69_1 rfl (gfS_8_9 hs) ?_
  refine r_ld (pc' := 5) hM_69 d_69_4 rfl rfl ?_
  obtain ⟨hz1, H⟩ := H
  refine r_ia (pc' := 6) (n := 12) hM_69 d_69_5 rfl (shSk hs).2.1 hz1 ?_
  refine r_k (pc' := 7) (v := .inl 2) hM_69 d_69_6 rfl rfl ?_
  refine r_ic (pc' := 13) (pc2 := 10) hM_69 d_69_7 (by decide) rfl (fun hz2 => ?_) (fun hz2 => ?_)
  · have H := H.1 hz2
    refine r_k (pc' := 15) (v := .inl 120) hM_69 d_69_13 rfl rfl ?_
    refine r_ld (pc' := 16) hM_69 d_69_15 rfl rfl ?_
    refine r_gR (pc' := 19) (v := (s + 3)) hM_69 d_69_16 rfl (gfS_8_18 hs) ?_
    refine r_ld (pc' := 20) hM_69 d_69_19 rfl rfl ?_
    refine r_ia (pc' := 21) (n := 12) hM_69 d_69_20 rfl (shSk hs).2.2.2.1 hz1 ?_
    refine r_k (pc' := 22) (v := .inl 2) hM_69 d_69_21 rfl rfl ?_
    refine r_div (pc' := 23) hM_69 d_69_22 rfl (by decide) ?_
    refine r_b (pc' := 24) (z := (120 - (am_div (m (s + 3) ((am_s p).toNat)) 2))) hM_69 d_69_23 rfl rfl ?_
    refine r_ld (pc' := 25) hM_69 d_69_24 rfl rfl ?_
    refine r_gR (pc' := 28) (v := (s + 2)) hM_69 d_69_25 rfl (gfS_8_15 hs) ?_
    refine r_ld (pc' := 29) hM_69 d_69_28 rfl rfl ?_
    refine r_ia (pc' := 30) (n := 12) hM_69 d_69_29 rfl (shSk hs).2.2.1 hz1 ?_
    refine r_b (pc' := 31) (z := ((120 - (am_div (m (s + 3) ((am_s p).toNat)) 2)) + (m (s + 2) ((am_s p).toNat)))) hM_69 d_69_30 rfl rfl ?_
    refine r_ld (pc' := 32) hM_69 d_69_31 rfl rfl ?_
    have K : rn fx 0 (0, 0) 69 43 [some (.inr (.inr (some s))), some (.inl p), some (.inl b)] [.inl (if am_s b = 0 then 0 else (m s 5)), .inl ((120 - (am_div (m (s + 3) ((am_s p).toNat)) 2)) + (m (s + 2) ((am_s p).toNat)))] (st0 m) o := by
      refine r_b (pc' := 44) (z := (((120 - (am_div (m (s + 3) ((am_s p).toNat)) 2)) + (m (s + 2) ((am_s p).toNat))) - (if am_s b = 0 then 0 else (m s 5)))) hM_69 d_69_43 rfl rfl ?_
      subst H
      exact rt_i hM_69 d_69_44 rfl
    clear H
    refine r_if (pc' := 42) (pc2 := 35) hM_69 d_69_32 (by decide) rfl (fun hz3 => ?_) (fun hz3 => ?_)
    · have hz3 : am_s b = 0 := hz3
      rw [if_pos hz3] at K
      refine r_k (pc' := 43) (v := .inl 0) hM_69 d_69_42 rfl rfl ?_
      exact K
    · have hz3 : ¬ (am_s b = 0) := hz3
      rw [if_neg hz3] at K
      refine r_ld (pc' := 36) hM_69 d_69_35 rfl rfl ?_
      refine r_gI (pc' := 39) (k0 := 5) hM_69 d_69_36 rfl (gfS_8_31 hs) ?_
      refine r_go (pc' := 43) hM_69 d_69_39 (by decide) ?_
      exact K
  · have H := H.2 hz2
    refine r_k (pc' := 12) (v := .inl 20) hM_69 d_69_10 rfl rfl ?_
    subst H
    exact rt_i hM_69 d_69_12 rfl
def v_69 (m : am_M) (s : Nat) (p : Int) (b : Int) : Int := (if ¬ am_s (m (s + 1) ((am_s p).toNat)) = am_s 2 then (((120 - (am_div (m (s + 3) ((am_s p).toNat)) 2)) + (m (s + 2) ((am_s p).toNat))) - (if am_s b = 0 then 0 else (m s 5))) else 20)
def q_69 (m : am_M) (s : Nat) (p : Int) (b : Int) : Prop := (0 ≤ am_s p ∧ am_s p < (12 : Nat))
/-- HeardBarrels$Shelf.toneIf -/
theorem c_69 {fx : am_X0} {s : Nat} (hs : s ∈ shL) (m : am_M) (p : Int) (b : Int) (hq : q_69 m s p b) : rn fx 0 (0, 0) 69 0 (am_ent 3 [.inr (.inr (some s)), .inl p, .inl b]) [] (st0 m) ([.inl (v_69 m s p b)], st0 m) := by
  unfold q_69 at hq
  show rn fx 0 (0, 0) 69 0 [some (.inr (.inr (some s))), some (.inl p), some (.inl b)] [] (st0 m) _
  refine t_69_0 hs ?_
  have hb0_0 := hq
  refine ⟨hb0_0, ?_⟩
  refine ⟨fun hc0 => ?_, fun hc0 => ?_⟩
  · skip
    simp only [v_69, if_pos hc0]
  · skip
    simp only [v_69, if_neg hc0]
theorem t_67_0 {fx : am_X0} {o : List am_V × am_S} {m : am_M} {s : Nat} {p : Int} (hs : s ∈ shL) (H : (q_68 m s p) ∧ (((am_s (v_68 m s p) = 0) → o = ([.inl 0], st0 m)) ∧ (¬ (am_s (v_68 m s p) = 0) → (0 ≤ am_s p ∧ am_s p < (12 : Nat)) ∧ (∀ y1 : Int, y1 = (if ¬ am_s (m (s + 1) ((am_s p).toNat)) = am_s 1 then 0 else 1) → (q_69 m s p y1) ∧ (o = ([.inl (v_69 m s p y1)], st0 m)))))) : rn fx 2 (0, 0) 67 0 [some (.inr (.inr (some s))), some (.inl p)] [] (st0 m) o := by
  refine r_ld (pc' := 1) hM_67 d_67_0 rfl rfl ?_
  refine r_ld (pc' := 2) hM_67 d_67_1 rfl rfl ?_
  obtain ⟨hz1, H⟩ := H
  refine r_cl (pc' := 5) (c := (68, 0)) (a := [.inr (.inr (some s)), .inl p]) (q := []) hM_67 d_67_2 rfl (by decide +kernel) hM_68 rfl rfl rfl (Nat.le_of_ble_eq_true rfl) (Nat.le_of_ble_eq_true rfl) (Or.inr (rcvS hs _)) (c_68 hs m p hz1) (Nat.le_of_ble_eq_true rfl) ?_
  show rn fx 2 (0, 0) 67 5 [some (.inr (.inr (some s))), some (.inl p)] [.inl (v_68 m s p)] (st0 m) o
  refine r_if (pc' := 31) (pc2 := 8) hM_67 d_67_5 (by decide) rfl (fun hz2 => ?_) (fun hz2 => ?_)
  · have H := H.1 hz2
    refine r_k (pc' := 32) (v := .inl 0) hM_67 d_67_31 rfl rfl ?_
    subst H
    exact rt_i hM_67 d_67_32 rfl
  · have H := H.2 hz2
    refine r_ld (pc' := 9) hM_67 d_67_8 rfl rfl ?_
    refine r_ld (pc' := 10) hM_67 d_67_9 rfl rfl ?_
    refine r_ld (pc' := 11) hM_67 d_67_10 rfl rfl ?_
    refine r_gR (pc' := 14) (v := (s + 1)) hM_67 d_67_11 rfl (gfS_8_9 hs) ?_
    refine r_ld (pc' := 15) hM_67 d_67_14 rfl rfl ?_
    obtain ⟨hz3, H⟩ := H
    refine r_ia (pc' := 16) (n := 12) hM_67 d_67_15 rfl (shSk hs).2.1 hz3 ?_
    refine r_k (pc' := 17) (v := .inl 1) hM_67 d_67_16 rfl rfl ?_
    have K : ∀ y1 : Int, y1 = (if ¬ am_s (m (s + 1) ((am_s p).toNat)) = am_s 1 then 0 else 1) → rn fx 2 (0, 0) 67 25 [some (.inr (.inr (some s))), some (.inl p)] [.inl y1, .inl p, .inr (.inr (some s))] (st0 m) o := by
      intro y1 hy1
      replace H := H y1 hy1
      obtain ⟨hz5, H⟩ := H
      refine r_cl (pc' := 28) (c := (69, 0)) (a := [.inr (.inr (some s)), .inl p, .inl y1]) (q := []) hM_67 d_67_25 rfl (by decide +kernel) hM_69 rfl rfl rfl (Nat.le_of_ble_eq_true rfl) (Nat.le_of_ble_eq_true rfl) (Or.inr (rcvS hs _)) (c_69 hs m p y1 hz5) (Nat.le_of_ble_eq_true rfl) ?_
      show rn fx 2 (0, 0) 67 28 [some (.inr (.inr (some s))), some (.inl p)] [.inl (v_69 m s p y1)] (st0 m) o
      refine r_go (pc' := 32) hM_67 d_67_28 (by decide) ?_
      subst H
      exact rt_i hM_67 d_67_32 rfl
    replace K := K _ rfl
    clear H
    refine r_ic (pc' := 24) (pc2 := 20) hM_67 d_67_17 (by decide) rfl (fun hz4 => ?_) (fun hz4 => ?_)
    · have hz4 : ¬ am_s (m (s + 1) ((am_s p).toNat)) = am_s 1 := hz4
      rw [if_pos hz4] at K
      refine r_k (pc' := 25) (v := .inl 0) hM_67 d_67_24 rfl rfl ?_
      exact K
    · have hz4 : ¬ (¬ am_s (m (s + 1) ((am_s p).toNat)) = am_s 1) := hz4
      rw [if_neg hz4] at K
      refine r_k (pc' := 21) (v := .inl 1) hM_67 d_67_20 rfl rfl ?_
      refine r_go (pc' := 25) hM_67 d_67_21 (by decide) ?_
      exact K
def v_67 (m : am_M) (s : Nat) (p : Int) : Int := (if am_s (v_68 m s p) = 0 then 0 else (v_69 m s p (if ¬ am_s (m (s + 1) ((am_s p).toNat)) = am_s 1 then 0 else 1)))
def q_67 (m : am_M) (s : Nat) (p : Int) : Prop := (q_68 m s p) ∧ ((¬ (am_s (v_68 m s p) = 0) → (0 ≤ am_s p ∧ am_s p < (12 : Nat)) ∧ (q_69 m s p (if ¬ am_s (m (s + 1) ((am_s p).toNat)) = am_s 1 then 0 else 1))))
/-- HeardBarrels$Shelf.toneNow -/
theorem c_67 {fx : am_X0} {s : Nat} (hs : s ∈ shL) (m : am_M) (p : Int) (hq : q_67 m s p) : rn fx 2 (0, 0) 67 0 (am_ent 2 [.inr (.inr (some s)), .inl p]) [] (st0 m) ([.inl (v_67 m s p)], st0 m) := by
  unfold q_67 at hq
  show rn fx 2 (0, 0) 67 0 [some (.inr (.inr (some s))), some (.inl p)] [] (st0 m) _
  refine t_67_0 hs ?_
  obtain ⟨hb0_0, hq⟩ := hq
  refine ⟨hb0_0, ?_⟩
  refine ⟨fun hc0 => ?_, fun hc0 => ?_⟩
  · skip
    simp only [v_67, if_pos hc0]
  · have hq := hq hc0
    obtain ⟨hb1_0, hq⟩ := hq
    refine ⟨hb1_0, ?_⟩
    intro y1 hy1
    subst hy1
    have hb1_0 := hq
    refine ⟨hb1_0, ?_⟩
    simp only [v_67, if_neg hc0]
theorem t_132_0 {fx : am_X0} {o : List am_V × am_S} {m : am_M} {s : Nat} {p : Int} (hs : s ∈ shL) (H : ((am_s (v_40 m s p) = 0) → o = ([.inl (-1)], st0 m)) ∧ (¬ (am_s (v_40 m s p) = 0) → (0 ≤ am_s p ∧ am_s p < (12 : Nat)) ∧ (((¬ am_s (m (s + 1) ((am_s p).toNat)) = 0) → o = ([.inl (-1)], st0 m)) ∧ (¬ (¬ am_s (m (s + 1) ((am_s p).toNat)) = 0) → ((am_s 1 ≤ am_s (m (s + 2) ((am_s p).toNat))) → (am_s (2 * (m (s + 2) ((am_s p).toNat))) ≠ 0) ∧ (o = ([.inl (am_div (((100 - (m (s + 3) ((am_s p).toNat))) + (2 * (m (s + 2) ((am_s p).toNat)))) - 1) (2 * (m (s + 2) ((am_s p).toNat))))], st0 m))) ∧ (¬ (am_s 1 ≤ am_s (m (s + 2) ((am_s p).toNat))) → o = ([.inl (-1)], st0 m)))))) : rn fx 1 (0, 0) 132 0 [some (.inr (.inr (some s))), some (.inl p), none] [] (st0 m) o := by
  refine r_ld (pc' := 1) hM_132 d_132_0 rfl rfl ?_
  refine r_ld (pc' := 2) hM_132 d_132_1 rfl rfl ?_
  refine r_cl (pc' := 5) (c := (40, 0)) (a := [.inr (.inr (some s)), .inl p]) (q := []) hM_132 d_132_2 rfl (by decide +kernel) hM_40 rfl rfl rfl (Nat.le_of_ble_eq_true rfl) (Nat.le_of_ble_eq_true rfl) (Or.inr (rcvS hs _)) (c_40 hs m p) (Nat.le_of_ble_eq_true rfl) ?_
  show rn fx 1 (0, 0) 132 5 [some (.inr (.inr (some s))), some (.inl p), none] [.inl (v_40 m s p)] (st0 m) o
  refine r_if (pc' := 27) (pc2 := 8) hM_132 d_132_5 (by decide) rfl (fun hz1 => ?_) (fun hz1 => ?_)
  · have H := H.1 hz1
    refine r_k (pc' := 28) (v := .inl (-1)) hM_132 d_132_27 rfl rfl ?_
    subst H
    exact rt_i hM_132 d_132_28 rfl
  · have H := H.2 hz1
    refine r_ld (pc' := 9) hM_132 d_132_8 rfl rfl ?_
    refine r_gR (pc' := 12) (v := (s + 1)) hM_132 d_132_9 rfl (gfS_8_9 hs) ?_
    refine r_ld (pc' := 13) hM_132 d_132_12 rfl rfl ?_
    obtain ⟨hz2, H⟩ := H
    refine r_ia (pc' := 14) (n := 12) hM_132 d_132_13 rfl (shSk hs).2.1 hz2 ?_
    refine r_if (pc' := 27) (pc2 := 17) hM_132 d_132_14 (by decide) rfl (fun hz3 => ?_) (fun hz3 => ?_)
    · have H := H.1 hz3
      refine r_k (pc' := 28) (v := .inl (-1)) hM_132 d_132_27 rfl rfl ?_
      subst H
      exact rt_i hM_132 d_132_28 rfl
    · have H := H.2 hz3
      refine r_ld (pc' := 18) hM_132 d_132_17 rfl rfl ?_
      refine r_gR (pc' := 21) (v := (s + 2)) hM_132 d_132_18 rfl (gfS_8_15 hs) ?_
      refine r_ld (pc' := 22) hM_132 d_132_21 rfl rfl ?_
      refine r_ia (pc' := 23) (n := 12) hM_132 d_132_22 rfl (shSk hs).2.2.1 hz2 ?_
      refine r_k (pc' := 24) (v := .inl 1) hM_132 d_132_23 rfl rfl ?_
      refine r_ic (pc' := 29) (pc2 := 27) hM_132 d_132_24 (by decide) rfl (fun hz4 => ?_) (fun hz4 => ?_)
      · have H := H.1 hz4
        refine r_k (pc' := 30) (v := .inl 2) hM_132 d_132_29 rfl rfl ?_
        refine r_ld (pc' := 31) hM_132 d_132_30 rfl rfl ?_
        refine r_gR (pc' := 34) (v := (s + 2)) hM_132 d_132_31 rfl (gfS_8_15 hs) ?_
        refine r_ld (pc' := 35) hM_132 d_132_34 rfl rfl ?_
        refine r_ia (pc' := 36) (n := 12) hM_132 d_132_35 rfl (shSk hs).2.2.1 hz2 ?_
        refine r_b (pc' := 37) (z := (2 * (m (s + 2) ((am_s p).toNat)))) hM_132 d_132_36 rfl rfl ?_
        refine r_sto (pc' := 38) (ls' := [some (.inr (.inr (some s))), some (.inl p), some (.inl (2 * (m (s + 2) ((am_s p).toNat))))]) hM_132 d_132_37 rfl rfl ?_
        refine r_k (pc' := 40) (v := .inl 100) hM_132 d_132_38 rfl rfl ?_
        refine r_ld (pc' := 41) hM_132 d_132_40 rfl rfl ?_
        refine r_gR (pc' := 44) (v := (s + 3)) hM_132 d_132_41 rfl (gfS_8_18 hs) ?_
        refine r_ld (pc' := 45) hM_132 d_132_44 rfl rfl ?_
        refine r_ia (pc' := 46) (n := 12) hM_132 d_132_45 rfl (shSk hs).2.2.2.1 hz2 ?_
        refine r_b (pc' := 47) (z := (100 - (m (s + 3) ((am_s p).toNat)))) hM_132 d_132_46 rfl rfl ?_
        refine r_ld (pc' := 48) hM_132 d_132_47 rfl rfl ?_
        refine r_b (pc' := 49) (z := ((100 - (m (s + 3) ((am_s p).toNat))) + (2 * (m (s + 2) ((am_s p).toNat))))) hM_132 d_132_48 rfl rfl ?_
        refine r_k (pc' := 50) (v := .inl 1) hM_132 d_132_49 rfl rfl ?_
        refine r_b (pc' := 51) (z := (((100 - (m (s + 3) ((am_s p).toNat))) + (2 * (m (s + 2) ((am_s p).toNat)))) - 1)) hM_132 d_132_50 rfl rfl ?_
        refine r_ld (pc' := 52) hM_132 d_132_51 rfl rfl ?_
        obtain ⟨H0, H⟩ := H
        refine r_div (pc' := 53) hM_132 d_132_52 rfl H0 ?_
        subst H
        exact rt_i hM_132 d_132_53 rfl
      · have H := H.2 hz4
        refine r_k (pc' := 28) (v := .inl (-1)) hM_132 d_132_27 rfl rfl ?_
        subst H
        exact rt_i hM_132 d_132_28 rfl
def v_132 (m : am_M) (s : Nat) (p : Int) : Int := (if am_s (v_40 m s p) = 0 then (-1) else (if ¬ am_s (m (s + 1) ((am_s p).toNat)) = 0 then (-1) else (if am_s 1 ≤ am_s (m (s + 2) ((am_s p).toNat)) then (am_div (((100 - (m (s + 3) ((am_s p).toNat))) + (2 * (m (s + 2) ((am_s p).toNat)))) - 1) (2 * (m (s + 2) ((am_s p).toNat)))) else (-1))))
def q_132 (m : am_M) (s : Nat) (p : Int) : Prop := ((¬ (am_s (v_40 m s p) = 0) → (0 ≤ am_s p ∧ am_s p < (12 : Nat)) ∧ ((¬ (¬ am_s (m (s + 1) ((am_s p).toNat)) = 0) → (((am_s 1 ≤ am_s (m (s + 2) ((am_s p).toNat))) → (am_s (2 * (m (s + 2) ((am_s p).toNat))) ≠ 0)))))))
/-- HeardBarrels$Shelf.daysToRipe -/
theorem c_132 {fx : am_X0} {s : Nat} (hs : s ∈ shL) (m : am_M) (p : Int) (hq : q_132 m s p) : rn fx 1 (0, 0) 132 0 (am_ent 3 [.inr (.inr (some s)), .inl p]) [] (st0 m) ([.inl (v_132 m s p)], st0 m) := by
  unfold q_132 at hq
  show rn fx 1 (0, 0) 132 0 [some (.inr (.inr (some s))), some (.inl p), none] [] (st0 m) _
  refine t_132_0 hs ?_
  refine ⟨fun hc0 => ?_, fun hc0 => ?_⟩
  · skip
    simp only [v_132, if_pos hc0]
  · have hq := hq hc0
    obtain ⟨hb1_0, hq⟩ := hq
    refine ⟨hb1_0, ?_⟩
    refine ⟨fun hc1 => ?_, fun hc1 => ?_⟩
    · skip
      simp only [v_132, if_neg hc0, if_pos hc1]
    · have hq := hq hc1
      refine ⟨fun hc2 => ?_, fun hc2 => ?_⟩
      · have hq := hq hc2
        have hb3_0 := hq
        refine ⟨hb3_0, ?_⟩
        simp only [v_132, if_neg hc0, if_neg hc1, if_pos hc2]
      · skip
        simp only [v_132, if_neg hc0, if_neg hc1, if_neg hc2]
theorem t_135_0 {fx : am_X0} {o : List am_V × am_S} {m : am_M} {s : Nat} {p : Int} {e : Int} (hs : s ∈ shL) (H : ((am_s (v_40 m s p) = 0) → o = ([.inl (e + 1)], st0 m)) ∧ (¬ (am_s (v_40 m s p) = 0) → (0 ≤ am_s p ∧ am_s p < (12 : Nat)) ∧ (((am_s 1 ≤ am_s (m (s + 2) ((am_s p).toNat))) → ((0 < am_s ((100 - (m (s + 3) ((am_s p).toNat))) - (e * (m (s + 2) ((am_s p).toNat))))) → (am_s (m (s + 2) ((am_s p).toNat)) ≠ 0) ∧ (o = ([.inl (am_div ((((100 - (m (s + 3) ((am_s p).toNat))) - (e * (m (s + 2) ((am_s p).toNat)))) + (m (s + 2) ((am_s p).toNat))) - 1) (m (s + 2) ((am_s p).toNat)))], st0 m))) ∧ (¬ (0 < am_s ((100 - (m (s + 3) ((am_s p).toNat))) - (e * (m (s + 2) ((am_s p).toNat))))) → o = ([.inl 0], st0 m))) ∧ (¬ (am_s 1 ≤ am_s (m (s + 2) ((am_s p).toNat))) → o = ([.inl (e + 1)], st0 m))))) : rn fx 1 (0, 0) 135 0 [some (.inr (.inr (some s))), some (.inl p), some (.inl e), none] [] (st0 m) o := by
  refine r_ld (pc' := 1) hM_135 d_135_0 rfl rfl ?_
  refine r_ld (pc' := 2) hM_135 d_135_1 rfl rfl ?_
  refine r_cl (pc' := 5) (c := (40, 0)) (a := [.inr (.inr (some s)), .inl p]) (q := []) hM_135 d_135_2 rfl (by decide +kernel) hM_40 rfl rfl rfl (Nat.le_of_ble_eq_true rfl) (Nat.le_of_ble_eq_true rfl) (Or.inr (rcvS hs _)) (c_40 hs m p) (Nat.le_of_ble_eq_true rfl) ?_
  show rn fx 1 (0, 0) 135 5 [some (.inr (.inr (some s))), some (.inl p), some (.inl e), none] [.inl (v_40 m s p)] (st0 m) o
  refine r_if (pc' := 18) (pc2 := 8) hM_135 d_135_5 (by decide) rfl (fun hz1 => ?_) (fun hz1 => ?_)
  · have H := H.1 hz1
    refine r_ld (pc' := 19) hM_135 d_135_18 rfl rfl ?_
    refine r_k (pc' := 20) (v := .inl 1) hM_135 d_135_19 rfl rfl ?_
    refine r_b (pc' := 21) (z := (e + 1)) hM_135 d_135_20 rfl rfl ?_
    subst H
    exact rt_i hM_135 d_135_21 rfl
  · have H := H.2 hz1
    refine r_ld (pc' := 9) hM_135 d_135_8 rfl rfl ?_
    refine r_gR (pc' := 12) (v := (s + 2)) hM_135 d_135_9 rfl (gfS_8_15 hs) ?_
    refine r_ld (pc' := 13) hM_135 d_135_12 rfl rfl ?_
    obtain ⟨hz2, H⟩ := H
    refine r_ia (pc' := 14) (n := 12) hM_135 d_135_13 rfl (shSk hs).2.2.1 hz2 ?_
    refine r_k (pc' := 15) (v := .inl 1) hM_135 d_135_14 rfl rfl ?_
    refine r_ic (pc' := 22) (pc2 := 18) hM_135 d_135_15 (by decide) rfl (fun hz3 => ?_) (fun hz3 => ?_)
    · have H := H.1 hz3
      refine r_k (pc' := 24) (v := .inl 100) hM_135 d_135_22 rfl rfl ?_
      refine r_ld (pc' := 25) hM_135 d_135_24 rfl rfl ?_
      refine r_gR (pc' := 28) (v := (s + 3)) hM_135 d_135_25 rfl (gfS_8_18 hs) ?_
      refine r_ld (pc' := 29) hM_135 d_135_28 rfl rfl ?_
      refine r_ia (pc' := 30) (n := 12) hM_135 d_135_29 rfl (shSk hs).2.2.2.1 hz2 ?_
      refine r_b (pc' := 31) (z := (100 - (m (s + 3) ((am_s p).toNat)))) hM_135 d_135_30 rfl rfl ?_
      refine r_ld (pc' := 32) hM_135 d_135_31 rfl rfl ?_
      refine r_ld (pc' := 33) hM_135 d_135_32 rfl rfl ?_
      refine r_gR (pc' := 36) (v := (s + 2)) hM_135 d_135_33 rfl (gfS_8_15 hs) ?_
      refine r_ld (pc' := 37) hM_135 d_135_36 rfl rfl ?_
      refine r_ia (pc' := 38) (n := 12) hM_135 d_135_37 rfl (shSk hs).2.2.1 hz2 ?_
      refine r_b (pc' := 39) (z := (e * (m (s + 2) ((am_s p).toNat)))) hM_135 d_135_38 rfl rfl ?_
      refine r_b (pc' := 40) (z := ((100 - (m (s + 3) ((am_s p).toNat))) - (e * (m (s + 2) ((am_s p).toNat))))) hM_135 d_135_39 rfl rfl ?_
      refine r_sto (pc' := 41) (ls' := [some (.inr (.inr (some s))), some (.inl p), some (.inl e), some (.inl ((100 - (m (s + 3) ((am_s p).toNat))) - (e * (m (s + 2) ((am_s p).toNat)))))]) hM_135 d_135_40 rfl rfl ?_
      refine r_ld (pc' := 42) hM_135 d_135_41 rfl rfl ?_
      refine r_if (pc' := 49) (pc2 := 45) hM_135 d_135_42 (by decide) rfl (fun hz4 => ?_) (fun hz4 => ?_)
      · have H := H.1 hz4
        refine r_ld (pc' := 50) hM_135 d_135_49 rfl rfl ?_
        refine r_ld (pc' := 51) hM_135 d_135_50 rfl rfl ?_
        refine r_gR (pc' := 54) (v := (s + 2)) hM_135 d_135_51 rfl (gfS_8_15 hs) ?_
        refine r_ld (pc' := 55) hM_135 d_135_54 rfl rfl ?_
        refine r_ia (pc' := 56) (n := 12) hM_135 d_135_55 rfl (shSk hs).2.2.1 hz2 ?_
        refine r_b (pc' := 57) (z := (((100 - (m (s + 3) ((am_s p).toNat))) - (e * (m (s + 2) ((am_s p).toNat)))) + (m (s + 2) ((am_s p).toNat)))) hM_135 d_135_56 rfl rfl ?_
        refine r_k (pc' := 58) (v := .inl 1) hM_135 d_135_57 rfl rfl ?_
        refine r_b (pc' := 59) (z := ((((100 - (m (s + 3) ((am_s p).toNat))) - (e * (m (s + 2) ((am_s p).toNat)))) + (m (s + 2) ((am_s p).toNat))) - 1)) hM_135 d_135_58 rfl rfl ?_
        refine r_ld (pc' := 60) hM_135 d_135_59 rfl rfl ?_
        refine r_gR (pc' := 63) (v := (s + 2)) hM_135 d_135_60 rfl (gfS_8_15 hs) ?_
        refine r_ld (pc' := 64) hM_135 d_135_63 rfl rfl ?_
        refine r_ia (pc' := 65) (n := 12) hM_135 d_135_64 rfl (shSk hs).2.2.1 hz2 ?_
        obtain ⟨H0, H⟩ := H
        refine r_div (pc' := 66) hM_135 d_135_65 rfl H0 ?_
        subst H
        exact rt_i hM_135 d_135_66 rfl
      · have H := H.2 hz4
        refine r_k (pc' := 46) (v := .inl 0) hM_135 d_135_45 rfl rfl ?_
        refine r_go (pc' := 66) hM_135 d_135_46 (by decide) ?_
        subst H
        exact rt_i hM_135 d_135_66 rfl
    · have H := H.2 hz3
      refine r_ld (pc' := 19) hM_135 d_135_18 rfl rfl ?_
      refine r_k (pc' := 20) (v := .inl 1) hM_135 d_135_19 rfl rfl ?_
      refine r_b (pc' := 21) (z := (e + 1)) hM_135 d_135_20 rfl rfl ?_
      subst H
      exact rt_i hM_135 d_135_21 rfl
def v_135 (m : am_M) (s : Nat) (p : Int) (e : Int) : Int := (if am_s (v_40 m s p) = 0 then (e + 1) else (if am_s 1 ≤ am_s (m (s + 2) ((am_s p).toNat)) then (if 0 < am_s ((100 - (m (s + 3) ((am_s p).toNat))) - (e * (m (s + 2) ((am_s p).toNat)))) then (am_div ((((100 - (m (s + 3) ((am_s p).toNat))) - (e * (m (s + 2) ((am_s p).toNat)))) + (m (s + 2) ((am_s p).toNat))) - 1) (m (s + 2) ((am_s p).toNat))) else 0) else (e + 1)))
def q_135 (m : am_M) (s : Nat) (p : Int) (e : Int) : Prop := ((¬ (am_s (v_40 m s p) = 0) → (0 ≤ am_s p ∧ am_s p < (12 : Nat)) ∧ (((am_s 1 ≤ am_s (m (s + 2) ((am_s p).toNat))) → (((0 < am_s ((100 - (m (s + 3) ((am_s p).toNat))) - (e * (m (s + 2) ((am_s p).toNat))))) → (am_s (m (s + 2) ((am_s p).toNat)) ≠ 0)))))))
/-- HeardBarrels$Shelf.turnsToRipe -/
theorem c_135 {fx : am_X0} {s : Nat} (hs : s ∈ shL) (m : am_M) (p : Int) (e : Int) (hq : q_135 m s p e) : rn fx 1 (0, 0) 135 0 (am_ent 4 [.inr (.inr (some s)), .inl p, .inl e]) [] (st0 m) ([.inl (v_135 m s p e)], st0 m) := by
  unfold q_135 at hq
  show rn fx 1 (0, 0) 135 0 [some (.inr (.inr (some s))), some (.inl p), some (.inl e), none] [] (st0 m) _
  refine t_135_0 hs ?_
  refine ⟨fun hc0 => ?_, fun hc0 => ?_⟩
  · skip
    simp only [v_135, if_pos hc0]
  · have hq := hq hc0
    obtain ⟨hb1_0, hq⟩ := hq
    refine ⟨hb1_0, ?_⟩
    refine ⟨fun hc1 => ?_, fun hc1 => ?_⟩
    · have hq := hq hc1
      refine ⟨fun hc2 => ?_, fun hc2 => ?_⟩
      · have hq := hq hc2
        have hb3_0 := hq
        refine ⟨hb3_0, ?_⟩
        simp only [v_135, if_neg hc0, if_pos hc1, if_pos hc2]
      · skip
        simp only [v_135, if_neg hc0, if_pos hc1, if_neg hc2]
    · skip
      simp only [v_135, if_neg hc0, if_neg hc1]
theorem t_42_0 {fx : am_X0} {o : List am_V × am_S} {m : am_M} {s : Nat} {p : Int} {q : Int} (hs : s ∈ shL) (H : ((am_s (v_40 m s p) = 0) → o = ([], st0 m)) ∧ (¬ (am_s (v_40 m s p) = 0) → ((¬ am_s (v_40 m s q) = 0) → (0 ≤ am_s p ∧ am_s p < (12 : Nat)) ∧ ((0 ≤ am_s q ∧ am_s q < (12 : Nat)) ∧ ((q_34 m s p (m (s + 1) ((am_s q).toNat)) (m (s + 2) ((am_s q).toNat)) (m (s + 3) ((am_s q).toNat)) (m (s + 4) ((am_s q).toNat))) ∧ ((q_34 (w_34 m s p (m (s + 1) ((am_s q).toNat)) (m (s + 2) ((am_s q).toNat)) (m (s + 3) ((am_s q).toNat)) (m (s + 4) ((am_s q).toNat))) s q (m (s + 1) ((am_s p).toNat)) (m (s + 2) ((am_s p).toNat)) (m (s + 3) ((am_s p).toNat)) (m (s + 4) ((am_s p).toNat))) ∧ (o = ([], st0 (w_34 (w_34 m s p (m (s + 1) ((am_s q).toNat)) (m (s + 2) ((am_s q).toNat)) (m (s + 3) ((am_s q).toNat)) (m (s + 4) ((am_s q).toNat))) s q (m (s + 1) ((am_s p).toNat)) (m (s + 2) ((am_s p).toNat)) (m (s + 3) ((am_s p).toNat)) (m (s + 4) ((am_s p).toNat))))))))) ∧ (¬ (¬ am_s (v_40 m s q) = 0) → o = ([], st0 m)))) : rn fx 1 (0, 0) 42 0 [some (.inr (.inr (some s))), some (.inl p), some (.inl q), none, none, none, none] [] (st0 m) o := by
  refine r_ld (pc' := 1) hM_42 d_42_0 rfl rfl ?_
  refine r_ld (pc' := 2) hM_42 d_42_1 rfl rfl ?_
  refine r_cl (pc' := 5) (c := (40, 0)) (a := [.inr (.inr (some s)), .inl p]) (q := []) hM_42 d_42_2 rfl (by decide +kernel) hM_40 rfl rfl rfl (Nat.le_of_ble_eq_true rfl) (Nat.le_of_ble_eq_true rfl) (Or.inr (rcvS hs _)) (c_40 hs m p) (Nat.le_of_ble_eq_true rfl) ?_
  show rn fx 1 (0, 0) 42 5 [some (.inr (.inr (some s))), some (.inl p), some (.inl q), none, none, none, none] [.inl (v_40 m s p)] (st0 m) o
  refine r_if (pc' := 16) (pc2 := 8) hM_42 d_42_5 (by decide) rfl (fun hz1 => ?_) (fun hz1 => ?_)
  · have H := H.1 hz1
    subst H
    exact rt_v hM_42 d_42_16 rfl
  · have H := H.2 hz1
    refine r_ld (pc' := 9) hM_42 d_42_8 rfl rfl ?_
    refine r_ld (pc' := 10) hM_42 d_42_9 rfl rfl ?_
    refine r_cl (pc' := 13) (c := (40, 0)) (a := [.inr (.inr (some s)), .inl q]) (q := []) hM_42 d_42_10 rfl (by decide +kernel) hM_40 rfl rfl rfl (Nat.le_of_ble_eq_true rfl) (Nat.le_of_ble_eq_true rfl) (Or.inr (rcvS hs _)) (c_40 hs m q) (Nat.le_of_ble_eq_true rfl) ?_
    show rn fx 1 (0, 0) 42 13 [some (.inr (.inr (some s))), some (.inl p), some (.inl q), none, none, none, none] [.inl (v_40 m s q)] (st0 m) o
    refine r_if (pc' := 17) (pc2 := 16) hM_42 d_42_13 (by decide) rfl (fun hz2 => ?_) (fun hz2 => ?_)
    · have H := H.1 hz2
      refine r_ld (pc' := 18) hM_42 d_42_17 rfl rfl ?_
      refine r_gR (pc' := 21) (v := (s + 1)) hM_42 d_42_18 rfl (gfS_8_9 hs) ?_
      refine r_ld (pc' := 22) hM_42 d_42_21 rfl rfl ?_
      obtain ⟨hz3, H⟩ := H
      refine r_ia (pc' := 23) (n := 12) hM_42 d_42_22 rfl (shSk hs).2.1 hz3 ?_
      refine r_sto (pc' := 24) (ls' := [some (.inr (.inr (some s))), some (.inl p), some (.inl q), some (.inl (m (s + 1) ((am_s p).toNat))), none, none, none]) hM_42 d_42_23 rfl rfl ?_
      refine r_ld (pc' := 25) hM_42 d_42_24 rfl rfl ?_
      refine r_gR (pc' := 28) (v := (s + 2)) hM_42 d_42_25 rfl (gfS_8_15 hs) ?_
      refine r_ld (pc' := 29) hM_42 d_42_28 rfl rfl ?_
      refine r_ia (pc' := 30) (n := 12) hM_42 d_42_29 rfl (shSk hs).2.2.1 hz3 ?_
      refine r_sto (pc' := 32) (ls' := [some (.inr (.inr (some s))), some (.inl p), some (.inl q), some (.inl (m (s + 1) ((am_s p).toNat))), some (.inl (m (s + 2) ((am_s p).toNat))), none, none]) hM_42 d_42_30 rfl rfl ?_
      refine r_ld (pc' := 33) hM_42 d_42_32 rfl rfl ?_
      refine r_gR (pc' := 36) (v := (s + 3)) hM_42 d_42_33 rfl (gfS_8_18 hs) ?_
      refine r_ld (pc' := 37) hM_42 d_42_36 rfl rfl ?_
      refine r_ia (pc' := 38) (n := 12) hM_42 d_42_37 rfl (shSk hs).2.2.2.1 hz3 ?_
      refine r_sto (pc' := 40) (ls' := [some (.inr (.inr (some s))), some (.inl p), some (.inl q), some (.inl (m (s + 1) ((am_s p).toNat))), some (.inl (m (s + 2) ((am_s p).toNat))), some (.inl (m (s + 3) ((am_s p).toNat))), none]) hM_42 d_42_38 rfl rfl ?_
      refine r_ld (pc' := 41) hM_42 d_42_40 rfl rfl ?_
      refine r_gR (pc' := 44) (v := (s + 4)) hM_42 d_42_41 rfl (gfS_8_21 hs) ?_
      refine r_ld (pc' := 45) hM_42 d_42_44 rfl rfl ?_
      refine r_ia (pc' := 46) (n := 12) hM_42 d_42_45 rfl (shSk hs).2.2.2.2 hz3 ?_
      refine r_sto (pc' := 48) (ls' := [some (.inr (.inr (some s))), some (.inl p), some (.inl q), some (.inl (m (s + 1) ((am_s p).toNat))), some (.inl (m (s + 2) ((am_s p).toNat))), some (.inl (m (s + 3) ((am_s p).toNat))), some (.inl (m (s + 4) ((am_s p).toNat)))]) hM_42 d_42_46 rfl rfl ?_
      refine r_ld (pc' := 49) hM_42 d_42_48 rfl rfl ?_
      refine r_ld (pc' := 50) hM_42 d_42_49 rfl rfl ?_
      refine r_ld (pc' := 51) hM_42 d_42_50 rfl rfl ?_
      refine r_gR (pc' := 54) (v := (s + 1)) hM_42 d_42_51 rfl (gfS_8_9 hs) ?_
      refine r_ld (pc' := 55) hM_42 d_42_54 rfl rfl ?_
      obtain ⟨hz4, H⟩ := H
      refine r_ia (pc' := 56) (n := 12) hM_42 d_42_55 rfl (shSk hs).2.1 hz4 ?_
      refine r_ld (pc' := 57) hM_42 d_42_56 rfl rfl ?_
      refine r_gR (pc' := 60) (v := (s + 2)) hM_42 d_42_57 rfl (gfS_8_15 hs) ?_
      refine r_ld (pc' := 61) hM_42 d_42_60 rfl rfl ?_
      refine r_ia (pc' := 62) (n := 12) hM_42 d_42_61 rfl (shSk hs).2.2.1 hz4 ?_
      refine r_ld (pc' := 63) hM_42 d_42_62 rfl rfl ?_
      refine r_gR (pc' := 66) (v := (s + 3)) hM_42 d_42_63 rfl (gfS_8_18 hs) ?_
      refine r_ld (pc' := 67) hM_42 d_42_66 rfl rfl ?_
      refine r_ia (pc' := 68) (n := 12) hM_42 d_42_67 rfl (shSk hs).2.2.2.1 hz4 ?_
      refine r_ld (pc' := 69) hM_42 d_42_68 rfl rfl ?_
      refine r_gR (pc' := 72) (v := (s + 4)) hM_42 d_42_69 rfl (gfS_8_21 hs) ?_
      refine r_ld (pc' := 73) hM_42 d_42_72 rfl rfl ?_
      refine r_ia (pc' := 74) (n := 12) hM_42 d_42_73 rfl (shSk hs).2.2.2.2 hz4 ?_
      obtain ⟨hz5, H⟩ := H
      refine r_cl (pc' := 77) (c := (34, 0)) (a := [.inr (.inr (some s)), .inl p, .inl (m (s + 1) ((am_s q).toNat)), .inl (m (s + 2) ((am_s q).toNat)), .inl (m (s + 3) ((am_s q).toNat)), .inl (m (s + 4) ((am_s q).toNat))]) (q := []) hM_42 d_42_74 rfl (by decide +kernel) hM_34 rfl rfl rfl (Nat.le_of_ble_eq_true rfl) (Nat.le_of_ble_eq_true rfl) (Or.inr (rcvS hs _)) (c_34 hs m p (m (s + 1) ((am_s q).toNat)) (m (s + 2) ((am_s q).toNat)) (m (s + 3) ((am_s q).toNat)) (m (s + 4) ((am_s q).toNat)) hz5) (Nat.le_of_ble_eq_true rfl) ?_
      show rn fx 1 (0, 0) 42 77 [some (.inr (.inr (some s))), some (.inl p), some (.inl q), some (.inl (m (s + 1) ((am_s p).toNat))), some (.inl (m (s + 2) ((am_s p).toNat))), some (.inl (m (s + 3) ((am_s p).toNat))), some (.inl (m (s + 4) ((am_s p).toNat)))] [] (st0 (w_34 m s p (m (s + 1) ((am_s q).toNat)) (m (s + 2) ((am_s q).toNat)) (m (s + 3) ((am_s q).toNat)) (m (s + 4) ((am_s q).toNat)))) o
      refine r_ld (pc' := 78) hM_42 d_42_77 rfl rfl ?_
      refine r_ld (pc' := 79) hM_42 d_42_78 rfl rfl ?_
      refine r_ld (pc' := 80) hM_42 d_42_79 rfl rfl ?_
      refine r_ld (pc' := 82) hM_42 d_42_80 rfl rfl ?_
      refine r_ld (pc' := 84) hM_42 d_42_82 rfl rfl ?_
      refine r_ld (pc' := 86) hM_42 d_42_84 rfl rfl ?_
      obtain ⟨hz6, H⟩ := H
      refine r_cl (pc' := 89) (c := (34, 0)) (a := [.inr (.inr (some s)), .inl q, .inl (m (s + 1) ((am_s p).toNat)), .inl (m (s + 2) ((am_s p).toNat)), .inl (m (s + 3) ((am_s p).toNat)), .inl (m (s + 4) ((am_s p).toNat))]) (q := []) hM_42 d_42_86 rfl (by decide +kernel) hM_34 rfl rfl rfl (Nat.le_of_ble_eq_true rfl) (Nat.le_of_ble_eq_true rfl) (Or.inr (rcvS hs _)) (c_34 hs (w_34 m s p (m (s + 1) ((am_s q).toNat)) (m (s + 2) ((am_s q).toNat)) (m (s + 3) ((am_s q).toNat)) (m (s + 4) ((am_s q).toNat))) q (m (s + 1) ((am_s p).toNat)) (m (s + 2) ((am_s p).toNat)) (m (s + 3) ((am_s p).toNat)) (m (s + 4) ((am_s p).toNat)) hz6) (Nat.le_of_ble_eq_true rfl) ?_
      show rn fx 1 (0, 0) 42 89 [some (.inr (.inr (some s))), some (.inl p), some (.inl q), some (.inl (m (s + 1) ((am_s p).toNat))), some (.inl (m (s + 2) ((am_s p).toNat))), some (.inl (m (s + 3) ((am_s p).toNat))), some (.inl (m (s + 4) ((am_s p).toNat)))] [] (st0 (w_34 (w_34 m s p (m (s + 1) ((am_s q).toNat)) (m (s + 2) ((am_s q).toNat)) (m (s + 3) ((am_s q).toNat)) (m (s + 4) ((am_s q).toNat))) s q (m (s + 1) ((am_s p).toNat)) (m (s + 2) ((am_s p).toNat)) (m (s + 3) ((am_s p).toNat)) (m (s + 4) ((am_s p).toNat)))) o
      subst H
      exact rt_v hM_42 d_42_89 rfl
    · have H := H.2 hz2
      subst H
      exact rt_v hM_42 d_42_16 rfl
def w_42 (m : am_M) (s : Nat) (p : Int) (q : Int) : am_M := (if am_s (v_40 m s p) = 0 then m else (if ¬ am_s (v_40 m s q) = 0 then (w_34 (w_34 m s p (m (s + 1) ((am_s q).toNat)) (m (s + 2) ((am_s q).toNat)) (m (s + 3) ((am_s q).toNat)) (m (s + 4) ((am_s q).toNat))) s q (m (s + 1) ((am_s p).toNat)) (m (s + 2) ((am_s p).toNat)) (m (s + 3) ((am_s p).toNat)) (m (s + 4) ((am_s p).toNat))) else m))
def q_42 (m : am_M) (s : Nat) (p : Int) (q : Int) : Prop := ((¬ (am_s (v_40 m s p) = 0) → (((¬ am_s (v_40 m s q) = 0) → (0 ≤ am_s p ∧ am_s p < (12 : Nat)) ∧ (0 ≤ am_s q ∧ am_s q < (12 : Nat)) ∧ (q_34 m s p (m (s + 1) ((am_s q).toNat)) (m (s + 2) ((am_s q).toNat)) (m (s + 3) ((am_s q).toNat)) (m (s + 4) ((am_s q).toNat))) ∧ (q_34 (w_34 m s p (m (s + 1) ((am_s q).toNat)) (m (s + 2) ((am_s q).toNat)) (m (s + 3) ((am_s q).toNat)) (m (s + 4) ((am_s q).toNat))) s q (m (s + 1) ((am_s p).toNat)) (m (s + 2) ((am_s p).toNat)) (m (s + 3) ((am_s p).toNat)) (m (s + 4) ((am_s p).toNat)))))))
/-- HeardBarrels$Shelf.exchange -/
theorem c_42 {fx : am_X0} {s : Nat} (hs : s ∈ shL) (m : am_M) (p : Int) (q : Int) (hq : q_42 m s p q) : rn fx 1 (0, 0) 42 0 (am_ent 7 [.inr (.inr (some s)), .inl p, .inl q]) [] (st0 m) ([], st0 (w_42 m s p q)) := by
  unfold q_42 at hq
  show rn fx 1 (0, 0) 42 0 [some (.inr (.inr (some s))), some (.inl p), some (.inl q), none, none, none, none] [] (st0 m) _
  refine t_42_0 hs ?_
  refine ⟨fun hc0 => ?_, fun hc0 => ?_⟩
  · skip
    simp only [w_42, if_pos hc0]
  · have hq := hq hc0
    refine ⟨fun hc1 => ?_, fun hc1 => ?_⟩
    · have hq := hq hc1
      obtain ⟨hb2_0, hq⟩ := hq
      refine ⟨hb2_0, ?_⟩
      obtain ⟨hb2_0, hq⟩ := hq
      refine ⟨hb2_0, ?_⟩
      obtain ⟨hb2_0, hq⟩ := hq
      refine ⟨hb2_0, ?_⟩
      have hb2_0 := hq
      refine ⟨hb2_0, ?_⟩
      simp only [w_42, if_neg hc0, if_pos hc1]
    · skip
      simp only [w_42, if_neg hc0, if_neg hc1]
theorem t_48_4 {fx : am_X0} {o : List am_V × am_S} {m : am_M} {s : Nat} {w : Int} {x2 : Int} {x3 : Int} (hs : s ∈ shL) (H : ((am_s (m s 4) ≤ am_s x3) → o = ([.inl x2], st0 m)) ∧ (¬ (am_s (m s 4) ≤ am_s x3) → (0 ≤ am_s x3 ∧ am_s x3 < (12 : Nat)) ∧ (((¬ am_s (m (s + 1) ((am_s x3).toNat)) = am_s w) → rn fx 0 (0, 0) 48 4 [some (.inr (.inr (some s))), some (.inl w), some (.inl x2), some (.inl (x3 + 1))] [] (st0 m) o) ∧ (¬ (¬ am_s (m (s + 1) ((am_s x3).toNat)) = am_s w) → rn fx 0 (0, 0) 48 4 [some (.inr (.inr (some s))), some (.inl w), some (.inl (am_or x2 (am_shl 1 x3))), some (.inl (x3 + 1))] [] (st0 m) o)))) : rn fx 0 (0, 0) 48 4 [some (.inr (.inr (some s))), some (.inl w), some (.inl x2), some (.inl x3)] [] (st0 m) o := by
  refine r_ld (pc' := 5) hM_48 d_48_4 rfl rfl ?_
  refine r_ld (pc' := 6) hM_48 d_48_5 rfl rfl ?_
  refine r_gI (pc' := 9) (k0 := 4) hM_48 d_48_6 rfl (gfS_8_27 hs) ?_
  refine r_ic (pc' := 34) (pc2 := 12) hM_48 d_48_9 (by decide) rfl (fun hz1 => ?_) (fun hz1 => ?_)
  · have H := H.1 hz1
    refine r_ld (pc' := 35) hM_48 d_48_34 rfl rfl ?_
    subst H
    exact rt_i hM_48 d_48_35 rfl
  · have H := H.2 hz1
    refine r_ld (pc' := 13) hM_48 d_48_12 rfl rfl ?_
    refine r_gR (pc' := 16) (v := (s + 1)) hM_48 d_48_13 rfl (gfS_8_9 hs) ?_
    refine r_ld (pc' := 17) hM_48 d_48_16 rfl rfl ?_
    obtain ⟨hz2, H⟩ := H
    refine r_ia (pc' := 18) (n := 12) hM_48 d_48_17 rfl (shSk hs).2.1 hz2 ?_
    refine r_ld (pc' := 19) hM_48 d_48_18 rfl rfl ?_
    refine r_ic (pc' := 28) (pc2 := 22) hM_48 d_48_19 (by decide) rfl (fun hz3 => ?_) (fun hz3 => ?_)
    · have H := H.1 hz3
      refine r_sto (pc' := 31) (ls' := [some (.inr (.inr (some s))), some (.inl w), some (.inl x2), some (.inl (x3 + 1))]) hM_48 d_48_28 rfl rfl ?_
      refine r_go (pc' := 4) hM_48 d_48_31 (by decide) ?_
      exact H
    · have H := H.2 hz3
      refine r_ld (pc' := 23) hM_48 d_48_22 rfl rfl ?_
      refine r_k (pc' := 24) (v := .inl 1) hM_48 d_48_23 rfl rfl ?_
      refine r_ld (pc' := 25) hM_48 d_48_24 rfl rfl ?_
      refine r_b (pc' := 26) (z := (am_shl 1 x3)) hM_48 d_48_25 rfl rfl ?_
      refine r_b (pc' := 27) (z := (am_or x2 (am_shl 1 x3))) hM_48 d_48_26 rfl rfl ?_
      refine r_sto (pc' := 28) (ls' := [some (.inr (.inr (some s))), some (.inl w), some (.inl (am_or x2 (am_shl 1 x3))), some (.inl x3)]) hM_48 d_48_27 rfl rfl ?_
      refine r_sto (pc' := 31) (ls' := [some (.inr (.inr (some s))), some (.inl w), some (.inl (am_or x2 (am_shl 1 x3))), some (.inl (x3 + 1))]) hM_48 d_48_28 rfl rfl ?_
      refine r_go (pc' := 4) hM_48 d_48_31 (by decide) ?_
      exact H
theorem t_48_0 {fx : am_X0} {o : List am_V × am_S} {m : am_M} {s : Nat} {w : Int} (hs : s ∈ shL) (H : rn fx 0 (0, 0) 48 4 [some (.inr (.inr (some s))), some (.inl w), some (.inl 0), some (.inl 0)] [] (st0 m) o) : rn fx 0 (0, 0) 48 0 [some (.inr (.inr (some s))), some (.inl w), none, none] [] (st0 m) o := by
  refine r_k (pc' := 1) (v := .inl 0) hM_48 d_48_0 rfl rfl ?_
  refine r_sto (pc' := 2) (ls' := [some (.inr (.inr (some s))), some (.inl w), some (.inl 0), none]) hM_48 d_48_1 rfl rfl ?_
  refine r_k (pc' := 3) (v := .inl 0) hM_48 d_48_2 rfl rfl ?_
  refine r_sto (pc' := 4) (ls' := [some (.inr (.inr (some s))), some (.inl w), some (.inl 0), some (.inl 0)]) hM_48 d_48_3 rfl rfl ?_
  exact H
/-- Shelf.placesOf -/
theorem c_48 {fx : am_X0} {s : Nat} (hs : s ∈ shL) (m : am_M) (w : Int) (hq : WFS m s) : rn fx 0 (0, 0) 48 0 (am_ent 4 [.inr (.inr (some s)), .inl w]) [] (st0 m) ([.inl ((msk (m (s + 1)) (am_s w) (m s 4).toNat : Nat) : Int)], st0 m) := by
  show rn fx 0 (0, 0) 48 0 [some (.inr (.inr (some s))), some (.inl w), none, none] [] (st0 m) _
  refine t_48_0 hs ?_
  obtain ⟨hN, hK, -⟩ := hq
  have h := rn_loop (fx := fx) (d := 0) (mi := 48) (pc := 4) (cr := (0, 0)) (fun i => ([some (.inr (.inr (some s))), some (.inl w), some (.inl ((msk (m (s + 1)) (am_s w) i : Nat) : Int)), some (.inl (i : Int))], m)) (m s 4).toNat (fun i hi o h => ?_) (o := ([.inl ((msk (m (s + 1)) (am_s w) (m s 4).toNat : Nat) : Int)], st0 m)) ?_
  · exact h
  · have hk := hK i (by omega)
    refine t_48_4 hs ?_
    simp (disch := omega) only [am_s_id, Int.toNat_natCast]
    refine ⟨fun q => by omega, fun _ => ⟨by omega, fun hc => ?_, fun hc => ?_⟩⟩
    · have e : msk (m (s + 1)) (am_s w) (i + 1) = msk (m (s + 1)) (am_s w) i := if_neg hc
      simp only [e] at h
      exact h
    · rw [bx_or2 (msk_lt _ _ i) (by omega)]
      have e : msk (m (s + 1)) (am_s w) (i + 1) = msk (m (s + 1)) (am_s w) i + 2 ^ i := if_pos (Decidable.not_not.mp hc)
      simp only [e] at h
      exact h
  · refine t_48_4 hs ?_
    simp (disch := omega) only [am_s_id]
    exact ⟨fun _ => by first | trivial | rfl, fun q => by omega⟩
