/-- the places below n where k is w, as bits -/
def msk (k : Nat → Int) (w : Int) : Nat → Nat
  | 0 => 0
  | n + 1 => if k n = w then msk k w n + 2 ^ n else msk k w n
theorem msk_lt (k : Nat → Int) (w : Int) : ∀ n, msk k w n < 2 ^ n := by
  intro n
  induction n with
  | zero => simp [msk]
  | succ n ih =>
    unfold msk
    rw [Nat.pow_succ]
    split <;> omega
theorem msk_bit (k : Nat → Int) (w : Int) : ∀ n i, (msk k w n).testBit i = (decide (i < n) && decide (k i = w)) := by
  intro n
  induction n with
  | zero => intro i; simp [msk]
  | succ n ih =>
    intro i
    unfold msk
    have hl := msk_lt k w n
    by_cases hk : k n = w
    · rw [if_pos hk]
      have e : msk k w n + 2 ^ n = 2 ^ n * 1 ||| msk k w n := by
        have := Nat.two_pow_add_eq_or_of_lt (i := n) hl 1
        omega
      rw [e, Nat.mul_one, Nat.testBit_or, ih, Nat.testBit_two_pow]
      by_cases h1 : i = n
      · subst h1; simp [hk]
      · by_cases h2 : i < n
        · have h3 : i < n + 1 := by omega
          have h4 : ¬ n = i := fun q => h1 q.symm
          simp [h2, h3, h4]
        · have h3 : ¬ i < n + 1 := by omega
          have h4 : ¬ n = i := fun q => h1 q.symm
          simp [h2, h3, h4]
    · rw [if_neg hk, ih]
      by_cases h1 : i = n
      · subst h1; simp [hk]
      · by_cases h2 : i < n
        · have h3 : i < n + 1 := by omega
          simp [h2, h3]
        · have h3 : ¬ i < n + 1 := by omega
          simp [h2, h3]
/-- the numbers of a shelf at a cell: places, kinds, salts, ripeness, idle days, within their bounds -/
def WFS (m : am_M) (s : Nat) : Prop := (0 ≤ m s 4 ∧ m s 4 ≤ 12) ∧ (∀ p, p < 12 → 0 ≤ m (s + 1) p ∧ m (s + 1) p ≤ 3) ∧ (∀ p, p < 12 → 0 ≤ m (s + 2) p ∧ m (s + 2) p ≤ 9) ∧ (∀ p, p < 12 → 0 ≤ m (s + 3) p ∧ m (s + 3) p ≤ 100) ∧ (∀ p, p < 12 → 0 ≤ m (s + 4) p ∧ m (s + 4) p ≤ 99) ∧ (1 ≤ m s 5 ∧ m s 5 ≤ 40) ∧ (0 ≤ m s 6 ∧ m s 6 ≤ 20) ∧ (1 ≤ m s 7 ∧ m s 7 ≤ 12) ∧ (1 ≤ m s 8 ∧ m s 8 ≤ 6) ∧ (0 ≤ m s 9 ∧ m s 9 ≤ 9) ∧ (0 ≤ m s 10 ∧ m s 10 ≤ 900) ∧ (0 ≤ m s 11 ∧ m s 11 ≤ 9999)
theorem gfS_8_27 {s : Nat} (hs : s ∈ shL) : am_gf 8 27 s = some (.inl 4) := by
  have h : ∀ s ∈ shL, am_gf 8 27 s = some (.inl 4) := by decide +kernel
  exact h s hs
theorem t_40_0 {fx : am_X0} {o : List am_V × am_S} {m : am_M} {s : Nat} {p : Int} (hs : s ∈ shL) (H : ∀ y1 : Int, y1 = (if am_s p < 0 then 0 else (if am_s (m s 4) ≤ am_s p then 0 else 1)) → o = ([.inl y1], st0 m)) : rn fx 0 (0, 0) 40 0 [some (.inr (.inr (some s))), some (.inl p)] [] (st0 m) o := by
  refine r_ld (pc' := 1) hM_40 d_40_0 rfl rfl ?_
  have K : ∀ y1 : Int, y1 = (if am_s p < 0 then 0 else (if am_s (m s 4) ≤ am_s p then 0 else 1)) → rn fx 0 (0, 0) 40 17 [some (.inr (.inr (some s))), some (.inl p)] [.inl y1] (st0 m) o := by
    intro y1 hy1
    replace H := H y1 hy1
    subst H
    refine rt_z hM_40 d_40_17 rfl ?_
    rw [hy1]
    repeat' first | exact Or.inl rfl | exact Or.inr rfl | apply z01_ite
  replace K := K _ rfl
  clear H
  refine r_if (pc' := 16) (pc2 := 4) hM_40 d_40_1 (by decide) rfl (fun hz1 => ?_) (fun hz1 => ?_)
  · have hz1 : am_s p < 0 := hz1
    rw [if_pos hz1] at K
    refine r_k (pc' := 17) (v := .inl 0) hM_40 d_40_16 rfl rfl ?_
    exact K
  · have hz1 : ¬ (am_s p < 0) := hz1
    rw [if_neg hz1] at K
    refine r_ld (pc' := 5) hM_40 d_40_4 rfl rfl ?_
    refine r_ld (pc' := 6) hM_40 d_40_5 rfl rfl ?_
    refine r_gI (pc' := 9) (k0 := 4) hM_40 d_40_6 rfl (gfS_8_27 hs) ?_
    refine r_ic (pc' := 16) (pc2 := 12) hM_40 d_40_9 (by decide) rfl (fun hz2 => ?_) (fun hz2 => ?_)
    · have hz2 : am_s (m s 4) ≤ am_s p := hz2
      rw [if_pos hz2] at K
      refine r_k (pc' := 17) (v := .inl 0) hM_40 d_40_16 rfl rfl ?_
      exact K
    · have hz2 : ¬ (am_s (m s 4) ≤ am_s p) := hz2
      rw [if_neg hz2] at K
      refine r_k (pc' := 13) (v := .inl 1) hM_40 d_40_12 rfl rfl ?_
      refine r_go (pc' := 17) hM_40 d_40_13 (by decide) ?_
      exact K
def v_40 (m : am_M) (s : Nat) (p : Int) : Int := (if am_s p < 0 then 0 else (if am_s (m s 4) ≤ am_s p then 0 else 1))
/-- HeardBarrels$Shelf.has -/
theorem c_40 {fx : am_X0} {s : Nat} (hs : s ∈ shL) (m : am_M) (p : Int)  : rn fx 0 (0, 0) 40 0 (am_ent 2 [.inr (.inr (some s)), .inl p]) [] (st0 m) ([.inl (v_40 m s p)], st0 m) := by
  show rn fx 0 (0, 0) 40 0 [some (.inr (.inr (some s))), some (.inl p)] [] (st0 m) _
  refine t_40_0 hs ?_
  intro y1 hy1
  subst hy1
  simp only [v_40]
theorem puS_8_27 {s : Nat} (hs : s ∈ shL) : am_pu 8 27 s = some (4, false) := by
  have h : ∀ s ∈ shL, am_pu 8 27 s = some (4, false) := by decide +kernel
  exact h s hs
theorem puS_8_31 {s : Nat} (hs : s ∈ shL) : am_pu 8 31 s = some (5, false) := by
  have h : ∀ s ∈ shL, am_pu 8 31 s = some (5, false) := by decide +kernel
  exact h s hs
theorem puS_8_34 {s : Nat} (hs : s ∈ shL) : am_pu 8 34 s = some (6, false) := by
  have h : ∀ s ∈ shL, am_pu 8 34 s = some (6, false) := by decide +kernel
  exact h s hs
theorem puS_8_37 {s : Nat} (hs : s ∈ shL) : am_pu 8 37 s = some (7, false) := by
  have h : ∀ s ∈ shL, am_pu 8 37 s = some (7, false) := by decide +kernel
  exact h s hs
theorem puS_8_40 {s : Nat} (hs : s ∈ shL) : am_pu 8 40 s = some (8, false) := by
  have h : ∀ s ∈ shL, am_pu 8 40 s = some (8, false) := by decide +kernel
  exact h s hs
theorem puS_8_43 {s : Nat} (hs : s ∈ shL) : am_pu 8 43 s = some (9, false) := by
  have h : ∀ s ∈ shL, am_pu 8 43 s = some (9, false) := by decide +kernel
  exact h s hs
theorem puS_8_46 {s : Nat} (hs : s ∈ shL) : am_pu 8 46 s = some (10, false) := by
  have h : ∀ s ∈ shL, am_pu 8 46 s = some (10, false) := by decide +kernel
  exact h s hs
theorem puS_8_49 {s : Nat} (hs : s ∈ shL) : am_pu 8 49 s = some (11, false) := by
  have h : ∀ s ∈ shL, am_pu 8 49 s = some (11, false) := by decide +kernel
  exact h s hs
theorem t_3_0 {fx : am_X0} {o : List am_V × am_S} {m : am_M} {s : Nat} (hs : s ∈ shL) (H : o = ([], st0 (mu (mu (mu (mu (mu (mu (mu (mu m s 4 0) s 5 15) s 6 4) s 7 12) s 8 3) s 9 0) s 10 0) s 11 0))) : rn fx 0 (0, 0) 3 0 [some (.inr (.inr (some s)))] [] (st0 m) o := by
  refine r_ld (pc' := 1) hM_3 d_3_0 rfl rfl ?_
  refine r_k (pc' := 2) (v := .inl 0) hM_3 d_3_1 rfl rfl ?_
  refine r_pI (pc' := 5) (k0 := 4) hM_3 d_3_2 rfl (puS_8_27 hs) ?_
  refine r_ld (pc' := 6) hM_3 d_3_5 rfl rfl ?_
  refine r_k (pc' := 8) (v := .inl 15) hM_3 d_3_6 rfl rfl ?_
  refine r_pI (pc' := 11) (k0 := 5) hM_3 d_3_8 rfl (puS_8_31 hs) ?_
  refine r_ld (pc' := 12) hM_3 d_3_11 rfl rfl ?_
  refine r_k (pc' := 13) (v := .inl 4) hM_3 d_3_12 rfl rfl ?_
  refine r_pI (pc' := 16) (k0 := 6) hM_3 d_3_13 rfl (puS_8_34 hs) ?_
  refine r_ld (pc' := 17) hM_3 d_3_16 rfl rfl ?_
  refine r_k (pc' := 19) (v := .inl 12) hM_3 d_3_17 rfl rfl ?_
  refine r_pI (pc' := 22) (k0 := 7) hM_3 d_3_19 rfl (puS_8_37 hs) ?_
  refine r_ld (pc' := 23) hM_3 d_3_22 rfl rfl ?_
  refine r_k (pc' := 24) (v := .inl 3) hM_3 d_3_23 rfl rfl ?_
  refine r_pI (pc' := 27) (k0 := 8) hM_3 d_3_24 rfl (puS_8_40 hs) ?_
  refine r_ld (pc' := 28) hM_3 d_3_27 rfl rfl ?_
  refine r_k (pc' := 29) (v := .inl 0) hM_3 d_3_28 rfl rfl ?_
  refine r_pI (pc' := 32) (k0 := 9) hM_3 d_3_29 rfl (puS_8_43 hs) ?_
  refine r_ld (pc' := 33) hM_3 d_3_32 rfl rfl ?_
  refine r_k (pc' := 34) (v := .inl 0) hM_3 d_3_33 rfl rfl ?_
  refine r_pI (pc' := 37) (k0 := 10) hM_3 d_3_34 rfl (puS_8_46 hs) ?_
  refine r_ld (pc' := 38) hM_3 d_3_37 rfl rfl ?_
  refine r_k (pc' := 39) (v := .inl 0) hM_3 d_3_38 rfl rfl ?_
  refine r_pI (pc' := 42) (k0 := 11) hM_3 d_3_39 rfl (puS_8_49 hs) ?_
  subst H
  exact rt_v hM_3 d_3_42 rfl
def w_3 (m : am_M) (s : Nat) : am_M := (mu (mu (mu (mu (mu (mu (mu (mu m s 4 0) s 5 15) s 6 4) s 7 12) s 8 3) s 9 0) s 10 0) s 11 0)
/-- HeardBarrels$Shelf.clear -/
theorem c_3 {fx : am_X0} {s : Nat} (hs : s ∈ shL) (m : am_M)   : rn fx 0 (0, 0) 3 0 (am_ent 1 [.inr (.inr (some s))]) [] (st0 m) ([], st0 (w_3 m s)) := by
  show rn fx 0 (0, 0) 3 0 [some (.inr (.inr (some s)))] [] (st0 m) _
  refine t_3_0 hs ?_
  simp only [w_3]
theorem gfS_8_9 {s : Nat} (hs : s ∈ shL) : am_gf 8 9 s = some (.inr (s + 1)) := by
  have h : ∀ s ∈ shL, am_gf 8 9 s = some (.inr (s + 1)) := by decide +kernel
  exact h s hs
theorem gfS_8_15 {s : Nat} (hs : s ∈ shL) : am_gf 8 15 s = some (.inr (s + 2)) := by
  have h : ∀ s ∈ shL, am_gf 8 15 s = some (.inr (s + 2)) := by decide +kernel
  exact h s hs
theorem gfS_8_18 {s : Nat} (hs : s ∈ shL) : am_gf 8 18 s = some (.inr (s + 3)) := by
  have h : ∀ s ∈ shL, am_gf 8 18 s = some (.inr (s + 3)) := by decide +kernel
  exact h s hs
theorem gfS_8_21 {s : Nat} (hs : s ∈ shL) : am_gf 8 21 s = some (.inr (s + 4)) := by
  have h : ∀ s ∈ shL, am_gf 8 21 s = some (.inr (s + 4)) := by decide +kernel
  exact h s hs
theorem t_34_0 {fx : am_X0} {o : List am_V × am_S} {m : am_M} {s : Nat} {p : Int} {a : Int} {b : Int} {c : Int} {e : Int} (hs : s ∈ shL) (H : ((am_s p < 0) → o = ([], st0 m)) ∧ (¬ (am_s p < 0) → ((am_s p < am_s 12) → (0 ≤ am_s p ∧ am_s p < (12 : Nat)) ∧ (o = ([], st0 (mu (mu (mu (mu m (s + 1) ((am_s p).toNat) a) (s + 2) ((am_s p).toNat) b) (s + 3) ((am_s p).toNat) c) (s + 4) ((am_s p).toNat) e)))) ∧ (¬ (am_s p < am_s 12) → o = ([], st0 m)))) : rn fx 0 (0, 0) 34 0 [some (.inr (.inr (some s))), some (.inl p), some (.inl a), some (.inl b), some (.inl c), some (.inl e)] [] (st0 m) o := by
  refine r_ld (pc' := 1) hM_34 d_34_0 rfl rfl ?_
  refine r_if (pc' := 10) (pc2 := 4) hM_34 d_34_1 (by decide) rfl (fun hz1 => ?_) (fun hz1 => ?_)
  · have H := H.1 hz1
    subst H
    exact rt_v hM_34 d_34_10 rfl
  · have H := H.2 hz1
    refine r_ld (pc' := 5) hM_34 d_34_4 rfl rfl ?_
    refine r_k (pc' := 7) (v := .inl 12) hM_34 d_34_5 rfl rfl ?_
    refine r_ic (pc' := 11) (pc2 := 10) hM_34 d_34_7 (by decide) rfl (fun hz2 => ?_) (fun hz2 => ?_)
    · have H := H.1 hz2
      refine r_ld (pc' := 12) hM_34 d_34_11 rfl rfl ?_
      refine r_gR (pc' := 15) (v := (s + 1)) hM_34 d_34_12 rfl (gfS_8_9 hs) ?_
      refine r_ld (pc' := 16) hM_34 d_34_15 rfl rfl ?_
      refine r_ld (pc' := 17) hM_34 d_34_16 rfl rfl ?_
      obtain ⟨hz3, H⟩ := H
      refine r_is (pc' := 18) (n := 12) hM_34 d_34_17 rfl (shSk hs).2.1 hz3 ?_
      refine r_ld (pc' := 19) hM_34 d_34_18 rfl rfl ?_
      refine r_gR (pc' := 22) (v := (s + 2)) hM_34 d_34_19 rfl (gfS_8_15 hs) ?_
      refine r_ld (pc' := 23) hM_34 d_34_22 rfl rfl ?_
      refine r_ld (pc' := 24) hM_34 d_34_23 rfl rfl ?_
      refine r_is (pc' := 25) (n := 12) hM_34 d_34_24 rfl (shSk hs).2.2.1 hz3 ?_
      refine r_ld (pc' := 26) hM_34 d_34_25 rfl rfl ?_
      refine r_gR (pc' := 29) (v := (s + 3)) hM_34 d_34_26 rfl (gfS_8_18 hs) ?_
      refine r_ld (pc' := 30) hM_34 d_34_29 rfl rfl ?_
      refine r_ld (pc' := 32) hM_34 d_34_30 rfl rfl ?_
      refine r_is (pc' := 33) (n := 12) hM_34 d_34_32 rfl (shSk hs).2.2.2.1 hz3 ?_
      refine r_ld (pc' := 34) hM_34 d_34_33 rfl rfl ?_
      refine r_gR (pc' := 37) (v := (s + 4)) hM_34 d_34_34 rfl (gfS_8_21 hs) ?_
      refine r_ld (pc' := 38) hM_34 d_34_37 rfl rfl ?_
      refine r_ld (pc' := 40) hM_34 d_34_38 rfl rfl ?_
      refine r_is (pc' := 41) (n := 12) hM_34 d_34_40 rfl (shSk hs).2.2.2.2 hz3 ?_
      subst H
      exact rt_v hM_34 d_34_41 rfl
    · have H := H.2 hz2
      subst H
      exact rt_v hM_34 d_34_10 rfl
def w_34 (m : am_M) (s : Nat) (p : Int) (a : Int) (b : Int) (c : Int) (e : Int) : am_M := (if am_s p < 0 then m else (if am_s p < am_s 12 then (mu (mu (mu (mu m (s + 1) ((am_s p).toNat) a) (s + 2) ((am_s p).toNat) b) (s + 3) ((am_s p).toNat) c) (s + 4) ((am_s p).toNat) e) else m))
def q_34 (m : am_M) (s : Nat) (p : Int) (a : Int) (b : Int) (c : Int) (e : Int) : Prop := ((¬ (am_s p < 0) → (((am_s p < am_s 12) → (0 ≤ am_s p ∧ am_s p < (12 : Nat))))))
/-- HeardBarrels$Shelf.lay -/
theorem c_34 {fx : am_X0} {s : Nat} (hs : s ∈ shL) (m : am_M) (p : Int) (a : Int) (b : Int) (c : Int) (e : Int) (hq : q_34 m s p a b c e) : rn fx 0 (0, 0) 34 0 (am_ent 6 [.inr (.inr (some s)), .inl p, .inl a, .inl b, .inl c, .inl e]) [] (st0 m) ([], st0 (w_34 m s p a b c e)) := by
  unfold q_34 at hq
  show rn fx 0 (0, 0) 34 0 [some (.inr (.inr (some s))), some (.inl p), some (.inl a), some (.inl b), some (.inl c), some (.inl e)] [] (st0 m) _
  refine t_34_0 hs ?_
  refine ⟨fun hc0 => ?_, fun hc0 => ?_⟩
  · skip
    simp only [w_34, if_pos hc0]
  · have hq := hq hc0
    refine ⟨fun hc1 => ?_, fun hc1 => ?_⟩
    · have hq := hq hc1
      have hb2_0 := hq
      refine ⟨hb2_0, ?_⟩
      simp only [w_34, if_neg hc0, if_pos hc1]
    · skip
      simp only [w_34, if_neg hc0, if_neg hc1]
theorem t_68_0 {fx : am_X0} {o : List am_V × am_S} {m : am_M} {s : Nat} {p : Int} (hs : s ∈ shL) (H : ((¬ (am_s (v_40 m s p) = 0)) → (0 ≤ am_s p ∧ am_s p < (12 : Nat))) ∧ (∀ y1 : Int, y1 = (if am_s (v_40 m s p) = 0 then 0 else (if am_s (m (s + 1) ((am_s p).toNat)) = am_s 3 then 0 else 1)) → o = ([.inl y1], st0 m))) : rn fx 1 (0, 0) 68 0 [some (.inr (.inr (some s))), some (.inl p)] [] (st0 m) o := by
  refine r_ld (pc' := 1) hM_68 d_68_0 rfl rfl ?_
  refine r_ld (pc' := 2) hM_68 d_68_1 rfl rfl ?_
  refine r_cl (pc' := 5) (c := (40, 0)) (a := [.inr (.inr (some s)), .inl p]) (q := []) hM_68 d_68_2 rfl (by decide +kernel) hM_40 rfl rfl rfl (Nat.le_of_ble_eq_true rfl) (Nat.le_of_ble_eq_true rfl) (Or.inr (rcvS hs _)) (c_40 hs m p) (Nat.le_of_ble_eq_true rfl) ?_
  show rn fx 1 (0, 0) 68 5 [some (.inr (.inr (some s))), some (.inl p)] [.inl (v_40 m s p)] (st0 m) o
  obtain ⟨hz2, H⟩ := H
  have K : ∀ y1 : Int, y1 = (if am_s (v_40 m s p) = 0 then 0 else (if am_s (m (s + 1) ((am_s p).toNat)) = am_s 3 then 0 else 1)) → rn fx 1 (0, 0) 68 23 [some (.inr (.inr (some s))), some (.inl p)] [.inl y1] (st0 m) o := by
    intro y1 hy1
    replace H := H y1 hy1
    subst H
    refine rt_z hM_68 d_68_23 rfl ?_
    rw [hy1]
    repeat' first | exact Or.inl rfl | exact Or.inr rfl | apply z01_ite
  replace K := K _ rfl
  clear H
  refine r_if (pc' := 22) (pc2 := 8) hM_68 d_68_5 (by decide) rfl (fun hz1 => ?_) (fun hz1 => ?_)
  · have hz1 : am_s (v_40 m s p) = 0 := hz1
    rw [if_pos hz1] at K
    refine r_k (pc' := 23) (v := .inl 0) hM_68 d_68_22 rfl rfl ?_
    exact K
  · have hz1 : ¬ (am_s (v_40 m s p) = 0) := hz1
    rw [if_neg hz1] at K
    refine r_ld (pc' := 9) hM_68 d_68_8 rfl rfl ?_
    refine r_gR (pc' := 12) (v := (s + 1)) hM_68 d_68_9 rfl (gfS_8_9 hs) ?_
    refine r_ld (pc' := 13) hM_68 d_68_12 rfl rfl ?_
    refine r_ia (pc' := 14) (n := 12) hM_68 d_68_13 rfl (shSk hs).2.1 (hz2 hz1) ?_
    refine r_k (pc' := 15) (v := .inl 3) hM_68 d_68_14 rfl rfl ?_
    refine r_ic (pc' := 22) (pc2 := 18) hM_68 d_68_15 (by decide) rfl (fun hz3 => ?_) (fun hz3 => ?_)
    · have hz3 : am_s (m (s + 1) ((am_s p).toNat)) = am_s 3 := hz3
      rw [if_pos hz3] at K
      refine r_k (pc' := 23) (v := .inl 0) hM_68 d_68_22 rfl rfl ?_
      exact K
    · have hz3 : ¬ (am_s (m (s + 1) ((am_s p).toNat)) = am_s 3) := hz3
      rw [if_neg hz3] at K
      refine r_k (pc' := 19) (v := .inl 1) hM_68 d_68_18 rfl rfl ?_
      refine r_go (pc' := 23) hM_68 d_68_19 (by decide) ?_
      exact K
def v_68 (m : am_M) (s : Nat) (p : Int) : Int := (if am_s (v_40 m s p) = 0 then 0 else (if am_s (m (s + 1) ((am_s p).toNat)) = am_s 3 then 0 else 1))
def q_68 (m : am_M) (s : Nat) (p : Int) : Prop := ((¬ (am_s (v_40 m s p) = 0)) → (0 ≤ am_s p ∧ am_s p < (12 : Nat)))
/-- HeardBarrels$Shelf.hasBarrel -/
theorem c_68 {fx : am_X0} {s : Nat} (hs : s ∈ shL) (m : am_M) (p : Int) (hq : q_68 m s p) : rn fx 1 (0, 0) 68 0 (am_ent 2 [.inr (.inr (some s)), .inl p]) [] (st0 m) ([.inl (v_68 m s p)], st0 m) := by
  unfold q_68 at hq
  show rn fx 1 (0, 0) 68 0 [some (.inr (.inr (some s))), some (.inl p)] [] (st0 m) _
  refine t_68_0 hs ?_
  have hb0_0 := hq
  refine ⟨hb0_0, ?_⟩
  intro y1 hy1
  subst hy1
  simp only [v_68]
theorem t_73_0 {fx : am_X0} {o : List am_V × am_S} {m : am_M} {s : Nat} {p : Int} (hs : s ∈ shL) (H : ((¬ (am_s (v_40 m s p) = 0)) → (0 ≤ am_s p ∧ am_s p < (12 : Nat))) ∧ (∀ y1 : Int, y1 = (if am_s (v_40 m s p) = 0 then 0 else (if ¬ am_s (m (s + 1) ((am_s p).toNat)) = am_s 3 then 0 else 1)) → o = ([.inl y1], st0 m))) : rn fx 1 (0, 0) 73 0 [some (.inr (.inr (some s))), some (.inl p)] [] (st0 m) o := by
  refine r_ld (pc' := 1) hM_73 d_73_0 rfl rfl ?_
  refine r_ld (pc' := 2) hM_73 d_73_1 rfl rfl ?_
  refine r_cl (pc' := 5) (c := (40, 0)) (a := [.inr (.inr (some s)), .inl p]) (q := []) hM_73 d_73_2 rfl (by decide +kernel) hM_40 rfl rfl rfl (Nat.le_of_ble_eq_true rfl) (Nat.le_of_ble_eq_true rfl) (Or.inr (rcvS hs _)) (c_40 hs m p) (Nat.le_of_ble_eq_true rfl) ?_
  show rn fx 1 (0, 0) 73 5 [some (.inr (.inr (some s))), some (.inl p)] [.inl (v_40 m s p)] (st0 m) o
  obtain ⟨hz2, H⟩ := H
  have K : ∀ y1 : Int, y1 = (if am_s (v_40 m s p) = 0 then 0 else (if ¬ am_s (m (s + 1) ((am_s p).toNat)) = am_s 3 then 0 else 1)) → rn fx 1 (0, 0) 73 23 [some (.inr (.inr (some s))), some (.inl p)] [.inl y1] (st0 m) o := by
    intro y1 hy1
    replace H := H y1 hy1
    subst H
    refine rt_z hM_73 d_73_23 rfl ?_
    rw [hy1]
    repeat' first | exact Or.inl rfl | exact Or.inr rfl | apply z01_ite
  replace K := K _ rfl
  clear H
  refine r_if (pc' := 22) (pc2 := 8) hM_73 d_73_5 (by decide) rfl (fun hz1 => ?_) (fun hz1 => ?_)
  · have hz1 : am_s (v_40 m s p) = 0 := hz1
    rw [if_pos hz1] at K
    refine r_k (pc' := 23) (v := .inl 0) hM_73 d_73_22 rfl rfl ?_
    exact K
  · have hz1 : ¬ (am_s (v_40 m s p) = 0) := hz1
    rw [if_neg hz1] at K
    refine r_ld (pc' := 9) hM_73 d_73_8 rfl rfl ?_
    refine r_gR (pc' := 12) (v := (s + 1)) hM_73 d_73_9 rfl (gfS_8_9 hs) ?_
    refine r_ld (pc' := 13) hM_73 d_73_12 rfl rfl ?_
    refine r_ia (pc' := 14) (n := 12) hM_73 d_73_13 rfl (shSk hs).2.1 (hz2 hz1) ?_
    refine r_k (pc' := 15) (v := .inl 3) hM_73 d_73_14 rfl rfl ?_
    refine r_ic (pc' := 22) (pc2 := 18) hM_73 d_73_15 (by decide) rfl (fun hz3 => ?_) (fun hz3 => ?_)
    · have hz3 : ¬ am_s (m (s + 1) ((am_s p).toNat)) = am_s 3 := hz3
      rw [if_pos hz3] at K
      refine r_k (pc' := 23) (v := .inl 0) hM_73 d_73_22 rfl rfl ?_
      exact K
    · have hz3 : ¬ (¬ am_s (m (s + 1) ((am_s p).toNat)) = am_s 3) := hz3
      rw [if_neg hz3] at K
      refine r_k (pc' := 19) (v := .inl 1) hM_73 d_73_18 rfl rfl ?_
      refine r_go (pc' := 23) hM_73 d_73_19 (by decide) ?_
      exact K
def v_73 (m : am_M) (s : Nat) (p : Int) : Int := (if am_s (v_40 m s p) = 0 then 0 else (if ¬ am_s (m (s + 1) ((am_s p).toNat)) = am_s 3 then 0 else 1))
def q_73 (m : am_M) (s : Nat) (p : Int) : Prop := ((¬ (am_s (v_40 m s p) = 0)) → (0 ≤ am_s p ∧ am_s p < (12 : Nat)))
/-- HeardBarrels$Shelf.isGap -/
theorem c_73 {fx : am_X0} {s : Nat} (hs : s ∈ shL) (m : am_M) (p : Int) (hq : q_73 m s p) : rn fx 1 (0, 0) 73 0 (am_ent 2 [.inr (.inr (some s)), .inl p]) [] (st0 m) ([.inl (v_73 m s p)], st0 m) := by
  unfold q_73 at hq
  show rn fx 1 (0, 0) 73 0 [some (.inr (.inr (some s))), some (.inl p)] [] (st0 m) _
  refine t_73_0 hs ?_
  have hb0_0 := hq
  refine ⟨hb0_0, ?_⟩
  intro y1 hy1
  subst hy1
  simp only [v_73]
theorem t_63_0 {fx : am_X0} {o : List am_V × am_S} {m : am_M} {s : Nat} {b : Int} (hs : s ∈ shL) (H : ∀ y1 : Int, y1 = (if ¬ am_s (am_and b (am_xor ((am_shl 1 (m s 4)) - 1) (-1))) = 0 then 0 else 1) → o = ([.inl y1], st0 m)) : rn fx 0 (0, 0) 63 0 [some (.inr (.inr (some s))), some (.inl b)] [] (st0 m) o := by
  refine r_ld (pc' := 1) hM_63 d_63_0 rfl rfl ?_
  refine r_k (pc' := 2) (v := .inl 1) hM_63 d_63_1 rfl rfl ?_
  refine r_ld (pc' := 3) hM_63 d_63_2 rfl rfl ?_
  refine r_gI (pc' := 6) (k0 := 4) hM_63 d_63_3 rfl (gfS_8_27 hs) ?_
  refine r_b (pc' := 7) (z := (am_shl 1 (m s 4))) hM_63 d_63_6 rfl rfl ?_
  refine r_k (pc' := 8) (v := .inl 1) hM_63 d_63_7 rfl rfl ?_
  refine r_b (pc' := 9) (z := ((am_shl 1 (m s 4)) - 1)) hM_63 d_63_8 rfl rfl ?_
  refine r_k (pc' := 10) (v := .inl (-1)) hM_63 d_63_9 rfl rfl ?_
  refine r_b (pc' := 11) (z := (am_xor ((am_shl 1 (m s 4)) - 1) (-1))) hM_63 d_63_10 rfl rfl ?_
  refine r_b (pc' := 12) (z := (am_and b (am_xor ((am_shl 1 (m s 4)) - 1) (-1)))) hM_63 d_63_11 rfl rfl ?_
  have K : ∀ y1 : Int, y1 = (if ¬ am_s (am_and b (am_xor ((am_shl 1 (m s 4)) - 1) (-1))) = 0 then 0 else 1) → rn fx 0 (0, 0) 63 20 [some (.inr (.inr (some s))), some (.inl b)] [.inl y1] (st0 m) o := by
    intro y1 hy1
    replace H := H y1 hy1
    subst H
    refine rt_z hM_63 d_63_20 rfl ?_
    rw [hy1]
    repeat' first | exact Or.inl rfl | exact Or.inr rfl | apply z01_ite
  replace K := K _ rfl
  clear H
  refine r_if (pc' := 19) (pc2 := 15) hM_63 d_63_12 (by decide) rfl (fun hz1 => ?_) (fun hz1 => ?_)
  · have hz1 : ¬ am_s (am_and b (am_xor ((am_shl 1 (m s 4)) - 1) (-1))) = 0 := hz1
    rw [if_pos hz1] at K
    refine r_k (pc' := 20) (v := .inl 0) hM_63 d_63_19 rfl rfl ?_
    exact K
  · have hz1 : ¬ (¬ am_s (am_and b (am_xor ((am_shl 1 (m s 4)) - 1) (-1))) = 0) := hz1
    rw [if_neg hz1] at K
    refine r_k (pc' := 16) (v := .inl 1) hM_63 d_63_15 rfl rfl ?_
    refine r_go (pc' := 20) hM_63 d_63_16 (by decide) ?_
    exact K
def v_63 (m : am_M) (s : Nat) (b : Int) : Int := (if ¬ am_s (am_and b (am_xor ((am_shl 1 (m s 4)) - 1) (-1))) = 0 then 0 else 1)
/-- HeardBarrels$Shelf.isSetOfPlaces -/
theorem c_63 {fx : am_X0} {s : Nat} (hs : s ∈ shL) (m : am_M) (b : Int)  : rn fx 0 (0, 0) 63 0 (am_ent 2 [.inr (.inr (some s)), .inl b]) [] (st0 m) ([.inl (v_63 m s b)], st0 m) := by
  show rn fx 0 (0, 0) 63 0 [some (.inr (.inr (some s))), some (.inl b)] [] (st0 m) _
  refine t_63_0 hs ?_
  intro y1 hy1
  subst hy1
  simp only [v_63]
theorem t_51_0 {fx : am_X0} {o : List am_V × am_S} {m : am_M} {p : Int}  (H : o = ([.inl (am_or (am_shl (am_shl 1 p) 1) (am_shr (am_shl 1 p) 1))], st0 m)) : rn fx 0 (0, 0) 51 0 [some (.inl p)] [] (st0 m) o := by
  refine r_k (pc' := 1) (v := .inl 1) hM_51 d_51_0 rfl rfl ?_
  refine r_ld (pc' := 2) hM_51 d_51_1 rfl rfl ?_
  refine r_b (pc' := 3) (z := (am_shl 1 p)) hM_51 d_51_2 rfl rfl ?_
  refine r_k (pc' := 4) (v := .inl 1) hM_51 d_51_3 rfl rfl ?_
  refine r_b (pc' := 5) (z := (am_shl (am_shl 1 p) 1)) hM_51 d_51_4 rfl rfl ?_
  refine r_k (pc' := 6) (v := .inl 1) hM_51 d_51_5 rfl rfl ?_
  refine r_ld (pc' := 7) hM_51 d_51_6 rfl rfl ?_
  refine r_b (pc' := 8) (z := (am_shl 1 p)) hM_51 d_51_7 rfl rfl ?_
  refine r_k (pc' := 9) (v := .inl 1) hM_51 d_51_8 rfl rfl ?_
  refine r_b (pc' := 10) (z := (am_shr (am_shl 1 p) 1)) hM_51 d_51_9 rfl rfl ?_
  refine r_b (pc' := 11) (z := (am_or (am_shl (am_shl 1 p) 1) (am_shr (am_shl 1 p) 1))) hM_51 d_51_10 rfl rfl ?_
  subst H
  exact rt_i hM_51 d_51_11 rfl
def v_51 (m : am_M) (p : Int) : Int := (am_or (am_shl (am_shl 1 p) 1) (am_shr (am_shl 1 p) 1))
/-- HeardBarrels$Shelf.beside -/
theorem c_51 {fx : am_X0}   (m : am_M) (p : Int)  : rn fx 0 (0, 0) 51 0 (am_ent 1 [.inl p]) [] (st0 m) ([.inl (v_51 m p)], st0 m) := by
  show rn fx 0 (0, 0) 51 0 [some (.inl p)] [] (st0 m) _
  refine t_51_0  ?_
  simp only [v_51]
theorem gfS_8_31 {s : Nat} (hs : s ∈ shL) : am_gf 8 31 s = some (.inl 5) := by
  have h : ∀ s ∈ shL, am_gf 8 31 s = some (.inl 5) := by decide +kernel
  exact h s hs
theorem t_69_0 {fx : am_X0} {o : List am_V × am_S} {m : am_M} {s : Nat} {p : Int} {b : Int} (hs : s ∈ shL) (H : (0 ≤ am_s p ∧ am_s p < (12 : Nat)) ∧ (((¬ am_s (m (s + 1) ((am_s p).toNat)) = am_s 2) → o = ([.inl (((120 - (am_div (m (s + 3) ((am_s p).toNat)) 2)) + (m (s + 2) ((am_s p).toNat))) - (if am_s b = 0 then 0 else (m s 5)))], st0 m)) ∧ (¬ (¬ am_s (m (s + 1) ((am_s p).toNat)) = am_s 2) → o = ([.inl 20], st0 m)))) : rn fx 0 (0, 0) 69 0 [some (.inr (.inr (some s))), some (.inl p), some (.inl b)] [] (st0 m) o := by
  refine r_ld (pc' := 1) hM_69 d_69_0 rfl rfl ?_
  refine r_gR (pc' := 4) (v := (s + 1)) hM_69 d_69_1 rfl (gfS_8_9 hs) ?_
  refine r_ld (pc' := 5) hM_69 d_69_4 rfl rfl ?_
  obtain ⟨hz1, H⟩ := H
  refine r_ia (pc' := 6) (n := 12) hM_69 d_69_5 rfl (shSk hs).2.1 hz1 ?_
  refine r_k (pc' := 7) (v := .inl 2) hM_69 d_69_6 rfl rfl ?_
  refine r_ic (pc' := 13) (pc2 := 10) hM_69 d_69_7 (by decide) rfl (fun hz2 => ?_) (fun hz2 => ?_)
  · have H := H.1 hz2
    refine r_k (pc' := 15) (v := .inl 120) hM_69 d_69_13 rfl rfl ?_
    refine r_ld (pc' := 16) hM_69 d_69_15 rfl rfl ?_
    refine r_gR (pc' := 19) (v := (s + 3)) hM_69 d_69_16 rfl (gfS_8_18 hs) ?_
    refine r_ld (pc' := 20) hM_69 d_69_19 rfl rfl ?_
    refine r_ia (pc' := 21) (n := 12) hM_69 d_69_20 rfl (shSk hs).2.2.2.1 hz1 ?_
    refine r_k (pc' := 22) (v := .inl 2) hM_69 d_69_21 rfl rfl ?_
    refine r_div (pc' := 23) hM_69 d_69_22 rfl (by decide) ?_
    refine r_b (pc' := 24) (z := (120 - (am_div (m (s + 3) ((am_s p).toNat)) 2))) hM_69 d_69_23 rfl rfl ?_
    refine r_ld (pc' := 25) hM_69 d_69_24 rfl rfl ?_
    refine r_gR (pc' := 28) (v := (s + 2)) hM_69 d_69_25 rfl (gfS_8_15 hs) ?_
    refine r_ld (pc' := 29) hM_69 d_69_28 rfl rfl ?_
    refine r_ia (pc' := 30) (n := 12) hM_69 d_69_29 rfl (shSk hs).2.2.1 hz1 ?_
    refine r_b (pc' := 31) (z := ((120 - (am_div (m (s + 3) ((am_s p).toNat)) 2)) + (m (s + 2) ((am_s p).toNat)))) hM_69 d_69_30 rfl rfl ?_
    refine r_ld (pc' := 32) hM_69 d_69_31 rfl rfl ?_
    have K : rn fx 0 (0, 0) 69 43 [some (.inr (.inr (some s))), some (.inl p), some (.inl b)] [.inl (if am_s b = 0 then 0 else (m s 5)), .inl ((120 - (am_div (m (s + 3) ((am_s p).toNat)) 2)) + (m (s + 2) ((am_s p).toNat)))] (st0 m) o := by
      refine r_b (pc' := 44) (z := (((120 - (am_div (m (s + 3) ((am_s p).toNat)) 2)) + (m (s + 2) ((am_s p).toNat))) - (if am_s b = 0 then 0 else (m s 5)))) hM_69 d_69_43 rfl rfl ?_
      subst H
      exact rt_i hM_69 d_69_44 rfl
    clear H
    refine r_if (pc' := 42) (pc2 := 35) hM_69 d_69_32 (by decide) rfl (fun hz3 => ?_) (fun hz3 => ?_)
    · have hz3 : am_s b = 0 := hz3
      rw [if_pos hz3] at K
      refine r_k (pc' := 43) (v := .inl 0) hM_69 d_69_42 rfl rfl ?_
      exact K
    · have hz3 : ¬ (am_s b = 0) := hz3
      rw [if_neg hz3] at K
      refine r_ld (pc' := 36) hM_69 d_69_35 rfl rfl ?_
      refine r_gI (pc' := 39) (k0 := 5) hM_69 d_69_36 rfl (gfS_8_31 hs) ?_
      refine r_go (pc' := 43) hM_69 d_69_39 (by decide) ?_
      exact K
  · have H := H.2 hz2
    refine r_k (pc' := 12) (v := .inl 20) hM_69 d_69_10 rfl rfl ?_
    subst H
    exact rt_i hM_69 d_69_12 rfl
def v_69 (m : am_M) (s : Nat) (p : Int) (b : Int) : Int := (if ¬ am_s (m (s + 1) ((am_s p).toNat)) = am_s 2 then (((120 - (am_div (m (s + 3) ((am_s p).toNat)) 2)) + (m (s + 2) ((am_s p).toNat))) - (if am_s b = 0 then 0 else (m s 5))) else 20)
def q_69 (m : am_M) (s : Nat) (p : Int) (b : Int) : Prop := (0 ≤ am_s p ∧ am_s p < (12 : Nat))
/-- HeardBarrels$Shelf.toneIf -/
theorem c_69 {fx : am_X0} {s : Nat} (hs : s ∈ shL) (m : am_M) (p : Int) (b : Int) (hq : q_69 m s p b) : rn fx 0 (0, 0) 69 0 (am_ent 3 [.inr (.inr (some s)), .inl p, .inl b]) [] (st0 m) ([.inl (v_69 m s p b)], st0 m) := by
  unfold q_69 at hq
  show rn fx 0 (0, 0) 69 0 [some (.inr (.inr (some s))), some (.inl p), some (.inl b)] [] (st0 m) _
  refine t_69_0 hs ?_
  have hb0_0 := hq
  refine ⟨hb0_0, ?_⟩
  refine ⟨fun hc0 => ?_, fun hc0 => ?_⟩
  · skip
    simp only [v_69, if_pos hc0]
  · skip
    simp only [v_69, if_neg hc0]
theorem t_67_0 {fx : am_X0} {o : List am_V × am_S} {m : am_M} {s : Nat} {p : Int} (hs : s ∈ shL) (H : (q_68 m s p) ∧ (((am_s (v_68 m s p) = 0) → o = ([.inl 0], st0 m)) ∧ (¬ (am_s (v_68 m s p) = 0) → (0 ≤ am_s p ∧ am_s p < (12 : Nat)) ∧ (∀ y1 : Int, y1 = (if ¬ am_s (m (s + 1) ((am_s p).toNat)) = am_s 1 then 0 else 1) → (q_69 m s p y1) ∧ (o = ([.inl (v_69 m s p y1)], st0 m)))))) : rn fx 2 (0, 0) 67 0 [some (.inr (.inr (some s))), some (.inl p)] [] (st0 m) o := by
  refine r_ld (pc' := 1) hM_67 d_67_0 rfl rfl ?_
  refine r_ld (pc' := 2) hM_67 d_67_1 rfl rfl ?_
  obtain ⟨hz1, H⟩ := H
  refine r_cl (pc' := 5) (c := (68, 0)) (a := [.inr (.inr (some s)), .inl p]) (q := []) hM_67 d_67_2 rfl (by decide +kernel) hM_68 rfl rfl rfl (Nat.le_of_ble_eq_true rfl) (Nat.le_of_ble_eq_true rfl) (Or.inr (rcvS hs _)) (c_68 hs m p hz1) (Nat.le_of_ble_eq_true rfl) ?_
  show rn fx 2 (0, 0) 67 5 [some (.inr (.inr (some s))), some (.inl p)] [.inl (v_68 m s p)] (st0 m) o
  refine r_if (pc' := 31) (pc2 := 8) hM_67 d_67_5 (by decide) rfl (fun hz2 => ?_) (fun hz2 => ?_)
  · have H := H.1 hz2
    refine r_k (pc' := 32) (v := .inl 0) hM_67 d_67_31 rfl rfl ?_
    subst H
    exact rt_i hM_67 d_67_32 rfl
  · have H := H.2 hz2
    refine r_ld (pc' := 9) hM_67 d_67_8 rfl rfl ?_
    refine r_ld (pc' := 10) hM_67 d_67_9 rfl rfl ?_
    refine r_ld (pc' := 11) hM_67 d_67_10 rfl rfl ?_
    refine r_gR (pc' := 14) (v := (s + 1)) hM_67 d_67_11 rfl (gfS_8_9 hs) ?_
    refine r_ld (pc' := 15) hM_67 d_67_14 rfl rfl ?_
    obtain ⟨hz3, H⟩ := H
    refine r_ia (pc' := 16) (n := 12) hM_67 d_67_15 rfl (shSk hs).2.1 hz3 ?_
    refine r_k (pc' := 17) (v := .inl 1) hM_67 d_67_16 rfl rfl ?_
    have K : ∀ y1 : Int, y1 = (if ¬ am_s (m (s + 1) ((am_s p).toNat)) = am_s 1 then 0 else 1) → rn fx 2 (0, 0) 67 25 [some (.inr (.inr (some s))), some (.inl p)] [.inl y1, .inl p, .inr (.inr (some s))] (st0 m) o := by
      intro y1 hy1
      replace H := H y1 hy1
      obtain ⟨hz5, H⟩ := H
      refine r_cl (pc' := 28) (c := (69, 0)) (a := [.inr (.inr (some s)), .inl p, .inl y1]) (q := []) hM_67 d_67_25 rfl (by decide +kernel) hM_69 rfl rfl rfl (Nat.le_of_ble_eq_true rfl) (Nat.le_of_ble_eq_true rfl) (Or.inr (rcvS hs _)) (c_69 hs m p y1 hz5) (Nat.le_of_ble_eq_true rfl) ?_
      show rn fx 2 (0, 0) 67 28 [some (.inr (.inr (some s))), some (.inl p)] [.inl (v_69 m s p y1)] (st0 m) o
      refine r_go (pc' := 32) hM_67 d_67_28 (by decide) ?_
      subst H
      exact rt_i hM_67 d_67_32 rfl
    replace K := K _ rfl
    clear H
    refine r_ic (pc' := 24) (pc2 := 20) hM_67 d_67_17 (by decide) rfl (fun hz4 => ?_) (fun hz4 => ?_)
    · have hz4 : ¬ am_s (m (s + 1) ((am_s p).toNat)) = am_s 1 := hz4
      rw [if_pos hz4] at K
      refine r_k (pc' := 25) (v := .inl 0) hM_67 d_67_24 rfl rfl ?_
      exact K
    · have hz4 : ¬ (¬ am_s (m (s + 1) ((am_s p).toNat)) = am_s 1) := hz4
      rw [if_neg hz4] at K
      refine r_k (pc' := 21) (v := .inl 1) hM_67 d_67_20 rfl rfl ?_
      refine r_go (pc' := 25) hM_67 d_67_21 (by decide) ?_
      exact K
def v_67 (m : am_M) (s : Nat) (p : Int) : Int := (if am_s (v_68 m s p) = 0 then 0 else (v_69 m s p (if ¬ am_s (m (s + 1) ((am_s p).toNat)) = am_s 1 then 0 else 1)))
def q_67 (m : am_M) (s : Nat) (p : Int) : Prop := (q_68 m s p) ∧ ((¬ (am_s (v_68 m s p) = 0) → (0 ≤ am_s p ∧ am_s p < (12 : Nat)) ∧ (q_69 m s p (if ¬ am_s (m (s + 1) ((am_s p).toNat)) = am_s 1 then 0 else 1))))
/-- HeardBarrels$Shelf.toneNow -/
theorem c_67 {fx : am_X0} {s : Nat} (hs : s ∈ shL) (m : am_M) (p : Int) (hq : q_67 m s p) : rn fx 2 (0, 0) 67 0 (am_ent 2 [.inr (.inr (some s)), .inl p]) [] (st0 m) ([.inl (v_67 m s p)], st0 m) := by
  unfold q_67 at hq
  show rn fx 2 (0, 0) 67 0 [some (.inr (.inr (some s))), some (.inl p)] [] (st0 m) _
  refine t_67_0 hs ?_
  obtain ⟨hb0_0, hq⟩ := hq
  refine ⟨hb0_0, ?_⟩
  refine ⟨fun hc0 => ?_, fun hc0 => ?_⟩
  · skip
    simp only [v_67, if_pos hc0]
  · have hq := hq hc0
    obtain ⟨hb1_0, hq⟩ := hq
    refine ⟨hb1_0, ?_⟩
    intro y1 hy1
    subst hy1
    have hb1_0 := hq
    refine ⟨hb1_0, ?_⟩
    simp only [v_67, if_neg hc0]
theorem t_132_0 {fx : am_X0} {o : List am_V × am_S} {m : am_M} {s : Nat} {p : Int} (hs : s ∈ shL) (H : ((am_s (v_40 m s p) = 0) → o = ([.inl (-1)], st0 m)) ∧ (¬ (am_s (v_40 m s p) = 0) → (0 ≤ am_s p ∧ am_s p < (12 : Nat)) ∧ (((¬ am_s (m (s + 1) ((am_s p).toNat)) = 0) → o = ([.inl (-1)], st0 m)) ∧ (¬ (¬ am_s (m (s + 1) ((am_s p).toNat)) = 0) → ((am_s 1 ≤ am_s (m (s + 2) ((am_s p).toNat))) → (am_s (2 * (m (s + 2) ((am_s p).toNat))) ≠ 0) ∧ (o = ([.inl (am_div (((100 - (m (s + 3) ((am_s p).toNat))) + (2 * (m (s + 2) ((am_s p).toNat)))) - 1) (2 * (m (s + 2) ((am_s p).toNat))))], st0 m))) ∧ (¬ (am_s 1 ≤ am_s (m (s + 2) ((am_s p).toNat))) → o = ([.inl (-1)], st0 m)))))) : rn fx 1 (0, 0) 132 0 [some (.inr (.inr (some s))), some (.inl p), none] [] (st0 m) o := by
  refine r_ld (pc' := 1) hM_132 d_132_0 rfl rfl ?_
  refine r_ld (pc' := 2) hM_132 d_132_1 rfl rfl ?_
  refine r_cl (pc' := 5) (c := (40, 0)) (a := [.inr (.inr (some s)), .inl p]) (q := []) hM_132 d_132_2 rfl (by decide +kernel) hM_40 rfl rfl rfl (Nat.le_of_ble_eq_true rfl) (Nat.le_of_ble_eq_true rfl) (Or.inr (rcvS hs _)) (c_40 hs m p) (Nat.le_of_ble_eq_true rfl) ?_
  show rn fx 1 (0, 0) 132 5 [some (.inr (.inr (some s))), some (.inl p), none] [.inl (v_40 m s p)] (st0 m) o
  refine r_if (pc' := 27) (pc2 := 8) hM_132 d_132_5 (by decide) rfl (fun hz1 => ?_) (fun hz1 => ?_)
  · have H := H.1 hz1
    refine r_k (pc' := 28) (v := .inl (-1)) hM_132 d_132_27 rfl rfl ?_
    subst H
    exact rt_i hM_132 d_132_28 rfl
  · have H := H.2 hz1
    refine r_ld (pc' := 9) hM_132 d_132_8 rfl rfl ?_
    refine r_gR (pc' := 12) (v := (s + 1)) hM_132 d_132_9 rfl (gfS_8_9 hs) ?_
    refine r_ld (pc' := 13) hM_132 d_132_12 rfl rfl ?_
    obtain ⟨hz2, H⟩ := H
    refine r_ia (pc' := 14) (n := 12) hM_132 d_132_13 rfl (shSk hs).2.1 hz2 ?_
    refine r_if (pc' := 27) (pc2 := 17) hM_132 d_132_14 (by decide) rfl (fun hz3 => ?_) (fun hz3 => ?_)
    · have H := H.1 hz3
      refine r_k (pc' := 28) (v := .inl (-1)) hM_132 d_132_27 rfl rfl ?_
      subst H
      exact rt_i hM_132 d_132_28 rfl
    · have H := H.2 hz3
      refine r_ld (pc' := 18) hM_132 d_132_17 rfl rfl ?_
      refine r_gR (pc' := 21) (v := (s + 2)) hM_132 d_132_18 rfl (gfS_8_15 hs) ?_
      refine r_ld (pc' := 22) hM_132 d_132_21 rfl rfl ?_
      refine r_ia (pc' := 23) (n := 12) hM_132 d_132_22 rfl (shSk hs).2.2.1 hz2 ?_
      refine r_k (pc' := 24) (v := .inl 1) hM_132 d_132_23 rfl rfl ?_
      refine r_ic (pc' := 29) (pc2 := 27) hM_132 d_132_24 (by decide) rfl (fun hz4 => ?_) (fun hz4 => ?_)
      · have H := H.1 hz4
        refine r_k (pc' := 30) (v := .inl 2) hM_132 d_132_29 rfl rfl ?_
        refine r_ld (pc' := 31) hM_132 d_132_30 rfl rfl ?_
        refine r_gR (pc' := 34) (v := (s + 2)) hM_132 d_132_31 rfl (gfS_8_15 hs) ?_
        refine r_ld (pc' := 35) hM_132 d_132_34 rfl rfl ?_
        refine r_ia (pc' := 36) (n := 12) hM_132 d_132_35 rfl (shSk hs).2.2.1 hz2 ?_
        refine r_b (pc' := 37) (z := (2 * (m (s + 2) ((am_s p).toNat)))) hM_132 d_132_36 rfl rfl ?_
        refine r_sto (pc' := 38) (ls' := [some (.inr (.inr (some s))), some (.inl p), some (.inl (2 * (m (s + 2) ((am_s p).toNat))))]) hM_132 d_132_37 rfl rfl ?_
        refine r_k (pc' := 40) (v := .inl 100) hM_132 d_132_38 rfl rfl ?_
        refine r_ld (pc' := 41) hM_132 d_132_40 rfl rfl ?_
        refine r_gR (pc' := 44) (v := (s + 3)) hM_132 d_132_41 rfl (gfS_8_18 hs) ?_
        refine r_ld (pc' := 45) hM_132 d_132_44 rfl rfl ?_
        refine r_ia (pc' := 46) (n := 12) hM_132 d_132_45 rfl (shSk hs).2.2.2.1 hz2 ?_
        refine r_b (pc' := 47) (z := (100 - (m (s + 3) ((am_s p).toNat)))) hM_132 d_132_46 rfl rfl ?_
        refine r_ld (pc' := 48) hM_132 d_132_47 rfl rfl ?_
        refine r_b (pc' := 49) (z := ((100 - (m (s + 3) ((am_s p).toNat))) + (2 * (m (s + 2) ((am_s p).toNat))))) hM_132 d_132_48 rfl rfl ?_
        refine r_k (pc' := 50) (v := .inl 1) hM_132 d_132_49 rfl rfl ?_
        refine r_b (pc' := 51) (z := (((100 - (m (s + 3) ((am_s p).toNat))) + (2 * (m (s + 2) ((am_s p).toNat)))) - 1)) hM_132 d_132_50 rfl rfl ?_
        refine r_ld (pc' := 52) hM_132 d_132_51 rfl rfl ?_
        obtain ⟨H0, H⟩ := H
        refine r_div (pc' := 53) hM_132 d_132_52 rfl H0 ?_
        subst H
        exact rt_i hM_132 d_132_53 rfl
      · have H := H.2 hz4
        refine r_k (pc' := 28) (v := .inl (-1)) hM_132 d_132_27 rfl rfl ?_
        subst H
        exact rt_i hM_132 d_132_28 rfl
def v_132 (m : am_M) (s : Nat) (p : Int) : Int := (if am_s (v_40 m s p) = 0 then (-1) else (if ¬ am_s (m (s + 1) ((am_s p).toNat)) = 0 then (-1) else (if am_s 1 ≤ am_s (m (s + 2) ((am_s p).toNat)) then (am_div (((100 - (m (s + 3) ((am_s p).toNat))) + (2 * (m (s + 2) ((am_s p).toNat)))) - 1) (2 * (m (s + 2) ((am_s p).toNat)))) else (-1))))
def q_132 (m : am_M) (s : Nat) (p : Int) : Prop := ((¬ (am_s (v_40 m s p) = 0) → (0 ≤ am_s p ∧ am_s p < (12 : Nat)) ∧ ((¬ (¬ am_s (m (s + 1) ((am_s p).toNat)) = 0) → (((am_s 1 ≤ am_s (m (s + 2) ((am_s p).toNat))) → (am_s (2 * (m (s + 2) ((am_s p).toNat))) ≠ 0)))))))
/-- HeardBarrels$Shelf.daysToRipe -/
theorem c_132 {fx : am_X0} {s : Nat} (hs : s ∈ shL) (m : am_M) (p : Int) (hq : q_132 m s p) : rn fx 1 (0, 0) 132 0 (am_ent 3 [.inr (.inr (some s)), .inl p]) [] (st0 m) ([.inl (v_132 m s p)], st0 m) := by
  unfold q_132 at hq
  show rn fx 1 (0, 0) 132 0 [some (.inr (.inr (some s))), some (.inl p), none] [] (st0 m) _
  refine t_132_0 hs ?_
  refine ⟨fun hc0 => ?_, fun hc0 => ?_⟩
  · skip
    simp only [v_132, if_pos hc0]
  · have hq := hq hc0
    obtain ⟨hb1_0, hq⟩ := hq
    refine ⟨hb1_0, ?_⟩
    refine ⟨fun hc1 => ?_, fun hc1 => ?_⟩
    · skip
      simp only [v_132, if_neg hc0, if_pos hc1]
    · have hq := hq hc1
      refine ⟨fun hc2 => ?_, fun hc2 => ?_⟩
      · have hq := hq hc2
        have hb3_0 := hq
        refine ⟨hb3_0, ?_⟩
        simp only [v_132, if_neg hc0, if_neg hc1, if_pos hc2]
      · skip
        simp only [v_132, if_neg hc0, if_neg hc1, if_neg hc2]
theorem t_135_0 {fx : am_X0} {o : List am_V × am_S} {m : am_M} {s : Nat} {p : Int} {e : Int} (hs : s ∈ shL) (H : ((am_s (v_40 m s p) = 0) → o = ([.inl (e + 1)], st0 m)) ∧ (¬ (am_s (v_40 m s p) = 0) → (0 ≤ am_s p ∧ am_s p < (12 : Nat)) ∧ (((am_s 1 ≤ am_s (m (s + 2) ((am_s p).toNat))) → ((0 < am_s ((100 - (m (s + 3) ((am_s p).toNat))) - (e * (m (s + 2) ((am_s p).toNat))))) → (am_s (m (s + 2) ((am_s p).toNat)) ≠ 0) ∧ (o = ([.inl (am_div ((((100 - (m (s + 3) ((am_s p).toNat))) - (e * (m (s + 2) ((am_s p).toNat)))) + (m (s + 2) ((am_s p).toNat))) - 1) (m (s + 2) ((am_s p).toNat)))], st0 m))) ∧ (¬ (0 < am_s ((100 - (m (s + 3) ((am_s p).toNat))) - (e * (m (s + 2) ((am_s p).toNat))))) → o = ([.inl 0], st0 m))) ∧ (¬ (am_s 1 ≤ am_s (m (s + 2) ((am_s p).toNat))) → o = ([.inl (e + 1)], st0 m))))) : rn fx 1 (0, 0) 135 0 [some (.inr (.inr (some s))), some (.inl p), some (.inl e), none] [] (st0 m) o := by
  refine r_ld (pc' := 1) hM_135 d_135_0 rfl rfl ?_
  refine r_ld (pc' := 2) hM_135 d_135_1 rfl rfl ?_
  refine r_cl (pc' := 5) (c := (40, 0)) (a := [.inr (.inr (some s)), .inl p]) (q := []) hM_135 d_135_2 rfl (by decide +kernel) hM_40 rfl rfl rfl (Nat.le_of_ble_eq_true rfl) (Nat.le_of_ble_eq_true rfl) (Or.inr (rcvS hs _)) (c_40 hs m p) (Nat.le_of_ble_eq_true rfl) ?_
  show rn fx 1 (0, 0) 135 5 [some (.inr (.inr (some s))), some (.inl p), some (.inl e), none] [.inl (v_40 m s p)] (st0 m) o
  refine r_if (pc' := 18) (pc2 := 8) hM_135 d_135_5 (by decide) rfl (fun hz1 => ?_) (fun hz1 => ?_)
  · have H := H.1 hz1
    refine r_ld (pc' := 19) hM_135 d_135_18 rfl rfl ?_
    refine r_k (pc' := 20) (v := .inl 1) hM_135 d_135_19 rfl rfl ?_
    refine r_b (pc' := 21) (z := (e + 1)) hM_135 d_135_20 rfl rfl ?_
    subst H
    exact rt_i hM_135 d_135_21 rfl
  · have H := H.2 hz1
    refine r_ld (pc' := 9) hM_135 d_135_8 rfl rfl ?_
    refine r_gR (pc' := 12) (v := (s + 2)) hM_135 d_135_9 rfl (gfS_8_15 hs) ?_
    refine r_ld (pc' := 13) hM_135 d_135_12 rfl rfl ?_
    obtain ⟨hz2, H⟩ := H
    refine r_ia (pc' := 14) (n := 12) hM_135 d_135_13 rfl (shSk hs).2.2.1 hz2 ?_
    refine r_k (pc' := 15) (v := .inl 1) hM_135 d_135_14 rfl rfl ?_
    refine r_ic (pc' := 22) (pc2 := 18) hM_135 d_135_15 (by decide) rfl (fun hz3 => ?_) (fun hz3 => ?_)
    · have H := H.1 hz3
      refine r_k (pc' := 24) (v := .inl 100) hM_135 d_135_22 rfl rfl ?_
      refine r_ld (pc' := 25) hM_135 d_135_24 rfl rfl ?_
      refine r_gR (pc' := 28) (v := (s + 3)) hM_135 d_135_25 rfl (gfS_8_18 hs) ?_
      refine r_ld (pc' := 29) hM_135 d_135_28 rfl rfl ?_
      refine r_ia (pc' := 30) (n := 12) hM_135 d_135_29 rfl (shSk hs).2.2.2.1 hz2 ?_
      refine r_b (pc' := 31) (z := (100 - (m (s + 3) ((am_s p).toNat)))) hM_135 d_135_30 rfl rfl ?_
      refine r_ld (pc' := 32) hM_135 d_135_31 rfl rfl ?_
      refine r_ld (pc' := 33) hM_135 d_135_32 rfl rfl ?_
      refine r_gR (pc' := 36) (v := (s + 2)) hM_135 d_135_33 rfl (gfS_8_15 hs) ?_
      refine r_ld (pc' := 37) hM_135 d_135_36 rfl rfl ?_
      refine r_ia (pc' := 38) (n := 12) hM_135 d_135_37 rfl (shSk hs).2.2.1 hz2 ?_
      refine r_b (pc' := 39) (z := (e * (m (s + 2) ((am_s p).toNat)))) hM_135 d_135_38 rfl rfl ?_
      refine r_b (pc' := 40) (z := ((100 - (m (s + 3) ((am_s p).toNat))) - (e * (m (s + 2) ((am_s p).toNat))))) hM_135 d_135_39 rfl rfl ?_
      refine r_sto (pc' := 41) (ls' := [some (.inr (.inr (some s))), some (.inl p), some (.inl e), some (.inl ((100 - (m (s + 3) ((am_s p).toNat))) - (e * (m (s + 2) ((am_s p).toNat)))))]) hM_135 d_135_40 rfl rfl ?_
      refine r_ld (pc' := 42) hM_135 d_135_41 rfl rfl ?_
      refine r_if (pc' := 49) (pc2 := 45) hM_135 d_135_42 (by decide) rfl (fun hz4 => ?_) (fun hz4 => ?_)
      · have H := H.1 hz4
        refine r_ld (pc' := 50) hM_135 d_135_49 rfl rfl ?_
        refine r_ld (pc' := 51) hM_135 d_135_50 rfl rfl ?_
        refine r_gR (pc' := 54) (v := (s + 2)) hM_135 d_135_51 rfl (gfS_8_15 hs) ?_
        refine r_ld (pc' := 55) hM_135 d_135_54 rfl rfl ?_
        refine r_ia (pc' := 56) (n := 12) hM_135 d_135_55 rfl (shSk hs).2.2.1 hz2 ?_
        refine r_b (pc' := 57) (z := (((100 - (m (s + 3) ((am_s p).toNat))) - (e * (m (s + 2) ((am_s p).toNat)))) + (m (s + 2) ((am_s p).toNat)))) hM_135 d_135_56 rfl rfl ?_
        refine r_k (pc' := 58) (v := .inl 1) hM_135 d_135_57 rfl rfl ?_
        refine r_b (pc' := 59) (z := ((((100 - (m (s + 3) ((am_s p).toNat))) - (e * (m (s + 2) ((am_s p).toNat)))) + (m (s + 2) ((am_s p).toNat))) - 1)) hM_135 d_135_58 rfl rfl ?_
        refine r_ld (pc' := 60) hM_135 d_135_59 rfl rfl ?_
        refine r_gR (pc' := 63) (v := (s + 2)) hM_135 d_135_60 rfl (gfS_8_15 hs) ?_
        refine r_ld (pc' := 64) hM_135 d_135_63 rfl rfl ?_
        refine r_ia (pc' := 65) (n := 12) hM_135 d_135_64 rfl (shSk hs).2.2.1 hz2 ?_
        obtain ⟨H0, H⟩ := H
        refine r_div (pc' := 66) hM_135 d_135_65 rfl H0 ?_
        subst H
        exact rt_i hM_135 d_135_66 rfl
      · have H := H.2 hz4
        refine r_k (pc' := 46) (v := .inl 0) hM_135 d_135_45 rfl rfl ?_
        refine r_go (pc' := 66) hM_135 d_135_46 (by decide) ?_
        subst H
        exact rt_i hM_135 d_135_66 rfl
    · have H := H.2 hz3
      refine r_ld (pc' := 19) hM_135 d_135_18 rfl rfl ?_
      refine r_k (pc' := 20) (v := .inl 1) hM_135 d_135_19 rfl rfl ?_
      refine r_b (pc' := 21) (z := (e + 1)) hM_135 d_135_20 rfl rfl ?_
      subst H
      exact rt_i hM_135 d_135_21 rfl
def v_135 (m : am_M) (s : Nat) (p : Int) (e : Int) : Int := (if am_s (v_40 m s p) = 0 then (e + 1) else (if am_s 1 ≤ am_s (m (s + 2) ((am_s p).toNat)) then (if 0 < am_s ((100 - (m (s + 3) ((am_s p).toNat))) - (e * (m (s + 2) ((am_s p).toNat)))) then (am_div ((((100 - (m (s + 3) ((am_s p).toNat))) - (e * (m (s + 2) ((am_s p).toNat)))) + (m (s + 2) ((am_s p).toNat))) - 1) (m (s + 2) ((am_s p).toNat))) else 0) else (e + 1)))
def q_135 (m : am_M) (s : Nat) (p : Int) (e : Int) : Prop := ((¬ (am_s (v_40 m s p) = 0) → (0 ≤ am_s p ∧ am_s p < (12 : Nat)) ∧ (((am_s 1 ≤ am_s (m (s + 2) ((am_s p).toNat))) → (((0 < am_s ((100 - (m (s + 3) ((am_s p).toNat))) - (e * (m (s + 2) ((am_s p).toNat))))) → (am_s (m (s + 2) ((am_s p).toNat)) ≠ 0)))))))
/-- HeardBarrels$Shelf.turnsToRipe -/
theorem c_135 {fx : am_X0} {s : Nat} (hs : s ∈ shL) (m : am_M) (p : Int) (e : Int) (hq : q_135 m s p e) : rn fx 1 (0, 0) 135 0 (am_ent 4 [.inr (.inr (some s)), .inl p, .inl e]) [] (st0 m) ([.inl (v_135 m s p e)], st0 m) := by
  unfold q_135 at hq
  show rn fx 1 (0, 0) 135 0 [some (.inr (.inr (some s))), some (.inl p), some (.inl e), none] [] (st0 m) _
  refine t_135_0 hs ?_
  refine ⟨fun hc0 => ?_, fun hc0 => ?_⟩
  · skip
    simp only [v_135, if_pos hc0]
  · have hq := hq hc0
    obtain ⟨hb1_0, hq⟩ := hq
    refine ⟨hb1_0, ?_⟩
    refine ⟨fun hc1 => ?_, fun hc1 => ?_⟩
    · have hq := hq hc1
      refine ⟨fun hc2 => ?_, fun hc2 => ?_⟩
      · have hq := hq hc2
        have hb3_0 := hq
        refine ⟨hb3_0, ?_⟩
        simp only [v_135, if_neg hc0, if_pos hc1, if_pos hc2]
      · skip
        simp only [v_135, if_neg hc0, if_pos hc1, if_neg hc2]
    · skip
      simp only [v_135, if_neg hc0, if_neg hc1]
theorem t_42_0 {fx : am_X0} {o : List am_V × am_S} {m : am_M} {s : Nat} {p : Int} {q : Int} (hs : s ∈ shL) (H : ((am_s (v_40 m s p) = 0) → o = ([], st0 m)) ∧ (¬ (am_s (v_40 m s p) = 0) → ((¬ am_s (v_40 m s q) = 0) → (0 ≤ am_s p ∧ am_s p < (12 : Nat)) ∧ ((0 ≤ am_s q ∧ am_s q < (12 : Nat)) ∧ ((q_34 m s p (m (s + 1) ((am_s q).toNat)) (m (s + 2) ((am_s q).toNat)) (m (s + 3) ((am_s q).toNat)) (m (s + 4) ((am_s q).toNat))) ∧ ((q_34 (w_34 m s p (m (s + 1) ((am_s q).toNat)) (m (s + 2) ((am_s q).toNat)) (m (s + 3) ((am_s q).toNat)) (m (s + 4) ((am_s q).toNat))) s q (m (s + 1) ((am_s p).toNat)) (m (s + 2) ((am_s p).toNat)) (m (s + 3) ((am_s p).toNat)) (m (s + 4) ((am_s p).toNat))) ∧ (o = ([], st0 (w_34 (w_34 m s p (m (s + 1) ((am_s q).toNat)) (m (s + 2) ((am_s q).toNat)) (m (s + 3) ((am_s q).toNat)) (m (s + 4) ((am_s q).toNat))) s q (m (s + 1) ((am_s p).toNat)) (m (s + 2) ((am_s p).toNat)) (m (s + 3) ((am_s p).toNat)) (m (s + 4) ((am_s p).toNat))))))))) ∧ (¬ (¬ am_s (v_40 m s q) = 0) → o = ([], st0 m)))) : rn fx 1 (0, 0) 42 0 [some (.inr (.inr (some s))), some (.inl p), some (.inl q), none, none, none, none] [] (st0 m) o := by
  refine r_ld (pc' := 1) hM_42 d_42_0 rfl rfl ?_
  refine r_ld (pc' := 2) hM_42 d_42_1 rfl rfl ?_
  refine r_cl (pc' := 5) (c := (40, 0)) (a := [.inr (.inr (some s)), .inl p]) (q := []) hM_42 d_42_2 rfl (by decide +kernel) hM_40 rfl rfl rfl (Nat.le_of_ble_eq_true rfl) (Nat.le_of_ble_eq_true rfl) (Or.inr (rcvS hs _)) (c_40 hs m p) (Nat.le_of_ble_eq_true rfl) ?_
  show rn fx 1 (0, 0) 42 5 [some (.inr (.inr (some s))), some (.inl p), some (.inl q), none, none, none, none] [.inl (v_40 m s p)] (st0 m) o
  refine r_if (pc' := 16) (pc2 := 8) hM_42 d_42_5 (by decide) rfl (fun hz1 => ?_) (fun hz1 => ?_)
  · have H := H.1 hz1
    subst H
    exact rt_v hM_42 d_42_16 rfl
  · have H := H.2 hz1
    refine r_ld (pc' := 9) hM_42 d_42_8 rfl rfl ?_
    refine r_ld (pc' := 10) hM_42 d_42_9 rfl rfl ?_
    refine r_cl (pc' := 13) (c := (40, 0)) (a := [.inr (.inr (some s)), .inl q]) (q := []) hM_42 d_42_10 rfl (by decide +kernel) hM_40 rfl rfl rfl (Nat.le_of_ble_eq_true rfl) (Nat.le_of_ble_eq_true rfl) (Or.inr (rcvS hs _)) (c_40 hs m q) (Nat.le_of_ble_eq_true rfl) ?_
    show rn fx 1 (0, 0) 42 13 [some (.inr (.inr (some s))), some (.inl p), some (.inl q), none, none, none, none] [.inl (v_40 m s q)] (st0 m) o
    refine r_if (pc' := 17) (pc2 := 16) hM_42 d_42_13 (by decide) rfl (fun hz2 => ?_) (fun hz2 => ?_)
    · have H := H.1 hz2
      refine r_ld (pc' := 18) hM_42 d_42_17 rfl rfl ?_
      refine r_gR (pc' := 21) (v := (s + 1)) hM_42 d_42_18 rfl (gfS_8_9 hs) ?_
      refine r_ld (pc' := 22) hM_42 d_42_21 rfl rfl ?_
      obtain ⟨hz3, H⟩ := H
      refine r_ia (pc' := 23) (n := 12) hM_42 d_42_22 rfl (shSk hs).2.1 hz3 ?_
      refine r_sto (pc' := 24) (ls' := [some (.inr (.inr (some s))), some (.inl p), some (.inl q), some (.inl (m (s + 1) ((am_s p).toNat))), none, none, none]) hM_42 d_42_23 rfl rfl ?_
      refine r_ld (pc' := 25) hM_42 d_42_24 rfl rfl ?_
      refine r_gR (pc' := 28) (v := (s + 2)) hM_42 d_42_25 rfl (gfS_8_15 hs) ?_
      refine r_ld (pc' := 29) hM_42 d_42_28 rfl rfl ?_
      refine r_ia (pc' := 30) (n := 12) hM_42 d_42_29 rfl (shSk hs).2.2.1 hz3 ?_
      refine r_sto (pc' := 32) (ls' := [some (.inr (.inr (some s))), some (.inl p), some (.inl q), some (.inl (m (s + 1) ((am_s p).toNat))), some (.inl (m (s + 2) ((am_s p).toNat))), none, none]) hM_42 d_42_30 rfl rfl ?_
      refine r_ld (pc' := 33) hM_42 d_42_32 rfl rfl ?_
      refine r_gR (pc' := 36) (v := (s + 3)) hM_42 d_42_33 rfl (gfS_8_18 hs) ?_
      refine r_ld (pc' := 37) hM_42 d_42_36 rfl rfl ?_
      refine r_ia (pc' := 38) (n := 12) hM_42 d_42_37 rfl (shSk hs).2.2.2.1 hz3 ?_
      refine r_sto (pc' := 40) (ls' := [some (.inr (.inr (some s))), some (.inl p), some (.inl q), some (.inl (m (s + 1) ((am_s p).toNat))), some (.inl (m (s + 2) ((am_s p).toNat))), some (.inl (m (s + 3) ((am_s p).toNat))), none]) hM_42 d_42_38 rfl rfl ?_
      refine r_ld (pc' := 41) hM_42 d_42_40 rfl rfl ?_
      refine r_gR (pc' := 44) (v := (s + 4)) hM_42 d_42_41 rfl (gfS_8_21 hs) ?_
      refine r_ld (pc' := 45) hM_42 d_42_44 rfl rfl ?_
      refine r_ia (pc' := 46) (n := 12) hM_42 d_42_45 rfl (shSk hs).2.2.2.2 hz3 ?_
      refine r_sto (pc' := 48) (ls' := [some (.inr (.inr (some s))), some (.inl p), some (.inl q), some (.inl (m (s + 1) ((am_s p).toNat))), some (.inl (m (s + 2) ((am_s p).toNat))), some (.inl (m (s + 3) ((am_s p).toNat))), some (.inl (m (s + 4) ((am_s p).toNat)))]) hM_42 d_42_46 rfl rfl ?_
      refine r_ld (pc' := 49) hM_42 d_42_48 rfl rfl ?_
      refine r_ld (pc' := 50) hM_42 d_42_49 rfl rfl ?_
      refine r_ld (pc' := 51) hM_42 d_42_50 rfl rfl ?_
      refine r_gR (pc' := 54) (v := (s + 1)) hM_42 d_42_51 rfl (gfS_8_9 hs) ?_
      refine r_ld (pc' := 55) hM_42 d_42_54 rfl rfl ?_
      obtain ⟨hz4, H⟩ := H
      refine r_ia (pc' := 56) (n := 12) hM_42 d_42_55 rfl (shSk hs).2.1 hz4 ?_
      refine r_ld (pc' := 57) hM_42 d_42_56 rfl rfl ?_
      refine r_gR (pc' := 60) (v := (s + 2)) hM_42 d_42_57 rfl (gfS_8_15 hs) ?_
      refine r_ld (pc' := 61) hM_42 d_42_60 rfl rfl ?_
      refine r_ia (pc' := 62) (n := 12) hM_42 d_42_61 rfl (shSk hs).2.2.1 hz4 ?_
      refine r_ld (pc' := 63) hM_42 d_42_62 rfl rfl ?_
      refine r_gR (pc' := 66) (v := (s + 3)) hM_42 d_42_63 rfl (gfS_8_18 hs) ?_
      refine r_ld (pc' := 67) hM_42 d_42_66 rfl rfl ?_
      refine r_ia (pc' := 68) (n := 12) hM_42 d_42_67 rfl (shSk hs).2.2.2.1 hz4 ?_
      refine r_ld (pc' := 69) hM_42 d_42_68 rfl rfl ?_
      refine r_gR (pc' := 72) (v := (s + 4)) hM_42 d_42_69 rfl (gfS_8_21 hs) ?_
      refine r_ld (pc' := 73) hM_42 d_42_72 rfl rfl ?_
      refine r_ia (pc' := 74) (n := 12) hM_42 d_42_73 rfl (shSk hs).2.2.2.2 hz4 ?_
      obtain ⟨hz5, H⟩ := H
      refine r_cl (pc' := 77) (c := (34, 0)) (a := [.inr (.inr (some s)), .inl p, .inl (m (s + 1) ((am_s q).toNat)), .inl (m (s + 2) ((am_s q).toNat)), .inl (m (s + 3) ((am_s q).toNat)), .inl (m (s + 4) ((am_s q).toNat))]) (q := []) hM_42 d_42_74 rfl (by decide +kernel) hM_34 rfl rfl rfl (Nat.le_of_ble_eq_true rfl) (Nat.le_of_ble_eq_true rfl) (Or.inr (rcvS hs _)) (c_34 hs m p (m (s + 1) ((am_s q).toNat)) (m (s + 2) ((am_s q).toNat)) (m (s + 3) ((am_s q).toNat)) (m (s + 4) ((am_s q).toNat)) hz5) (Nat.le_of_ble_eq_true rfl) ?_
      show rn fx 1 (0, 0) 42 77 [some (.inr (.inr (some s))), some (.inl p), some (.inl q), some (.inl (m (s + 1) ((am_s p).toNat))), some (.inl (m (s + 2) ((am_s p).toNat))), some (.inl (m (s + 3) ((am_s p).toNat))), some (.inl (m (s + 4) ((am_s p).toNat)))] [] (st0 (w_34 m s p (m (s + 1) ((am_s q).toNat)) (m (s + 2) ((am_s q).toNat)) (m (s + 3) ((am_s q).toNat)) (m (s + 4) ((am_s q).toNat)))) o
      refine r_ld (pc' := 78) hM_42 d_42_77 rfl rfl ?_
      refine r_ld (pc' := 79) hM_42 d_42_78 rfl rfl ?_
      refine r_ld (pc' := 80) hM_42 d_42_79 rfl rfl ?_
      refine r_ld (pc' := 82) hM_42 d_42_80 rfl rfl ?_
      refine r_ld (pc' := 84) hM_42 d_42_82 rfl rfl ?_
      refine r_ld (pc' := 86) hM_42 d_42_84 rfl rfl ?_
      obtain ⟨hz6, H⟩ := H
      refine r_cl (pc' := 89) (c := (34, 0)) (a := [.inr (.inr (some s)), .inl q, .inl (m (s + 1) ((am_s p).toNat)), .inl (m (s + 2) ((am_s p).toNat)), .inl (m (s + 3) ((am_s p).toNat)), .inl (m (s + 4) ((am_s p).toNat))]) (q := []) hM_42 d_42_86 rfl (by decide +kernel) hM_34 rfl rfl rfl (Nat.le_of_ble_eq_true rfl) (Nat.le_of_ble_eq_true rfl) (Or.inr (rcvS hs _)) (c_34 hs (w_34 m s p (m (s + 1) ((am_s q).toNat)) (m (s + 2) ((am_s q).toNat)) (m (s + 3) ((am_s q).toNat)) (m (s + 4) ((am_s q).toNat))) q (m (s + 1) ((am_s p).toNat)) (m (s + 2) ((am_s p).toNat)) (m (s + 3) ((am_s p).toNat)) (m (s + 4) ((am_s p).toNat)) hz6) (Nat.le_of_ble_eq_true rfl) ?_
      show rn fx 1 (0, 0) 42 89 [some (.inr (.inr (some s))), some (.inl p), some (.inl q), some (.inl (m (s + 1) ((am_s p).toNat))), some (.inl (m (s + 2) ((am_s p).toNat))), some (.inl (m (s + 3) ((am_s p).toNat))), some (.inl (m (s + 4) ((am_s p).toNat)))] [] (st0 (w_34 (w_34 m s p (m (s + 1) ((am_s q).toNat)) (m (s + 2) ((am_s q).toNat)) (m (s + 3) ((am_s q).toNat)) (m (s + 4) ((am_s q).toNat))) s q (m (s + 1) ((am_s p).toNat)) (m (s + 2) ((am_s p).toNat)) (m (s + 3) ((am_s p).toNat)) (m (s + 4) ((am_s p).toNat)))) o
      subst H
      exact rt_v hM_42 d_42_89 rfl
    · have H := H.2 hz2
      subst H
      exact rt_v hM_42 d_42_16 rfl
def w_42 (m : am_M) (s : Nat) (p : Int) (q : Int) : am_M := (if am_s (v_40 m s p) = 0 then m else (if ¬ am_s (v_40 m s q) = 0 then (w_34 (w_34 m s p (m (s + 1) ((am_s q).toNat)) (m (s + 2) ((am_s q).toNat)) (m (s + 3) ((am_s q).toNat)) (m (s + 4) ((am_s q).toNat))) s q (m (s + 1) ((am_s p).toNat)) (m (s + 2) ((am_s p).toNat)) (m (s + 3) ((am_s p).toNat)) (m (s + 4) ((am_s p).toNat))) else m))
def q_42 (m : am_M) (s : Nat) (p : Int) (q : Int) : Prop := ((¬ (am_s (v_40 m s p) = 0) → (((¬ am_s (v_40 m s q) = 0) → (0 ≤ am_s p ∧ am_s p < (12 : Nat)) ∧ (0 ≤ am_s q ∧ am_s q < (12 : Nat)) ∧ (q_34 m s p (m (s + 1) ((am_s q).toNat)) (m (s + 2) ((am_s q).toNat)) (m (s + 3) ((am_s q).toNat)) (m (s + 4) ((am_s q).toNat))) ∧ (q_34 (w_34 m s p (m (s + 1) ((am_s q).toNat)) (m (s + 2) ((am_s q).toNat)) (m (s + 3) ((am_s q).toNat)) (m (s + 4) ((am_s q).toNat))) s q (m (s + 1) ((am_s p).toNat)) (m (s + 2) ((am_s p).toNat)) (m (s + 3) ((am_s p).toNat)) (m (s + 4) ((am_s p).toNat)))))))
/-- HeardBarrels$Shelf.exchange -/
theorem c_42 {fx : am_X0} {s : Nat} (hs : s ∈ shL) (m : am_M) (p : Int) (q : Int) (hq : q_42 m s p q) : rn fx 1 (0, 0) 42 0 (am_ent 7 [.inr (.inr (some s)), .inl p, .inl q]) [] (st0 m) ([], st0 (w_42 m s p q)) := by
  unfold q_42 at hq
  show rn fx 1 (0, 0) 42 0 [some (.inr (.inr (some s))), some (.inl p), some (.inl q), none, none, none, none] [] (st0 m) _
  refine t_42_0 hs ?_
  refine ⟨fun hc0 => ?_, fun hc0 => ?_⟩
  · skip
    simp only [w_42, if_pos hc0]
  · have hq := hq hc0
    refine ⟨fun hc1 => ?_, fun hc1 => ?_⟩
    · have hq := hq hc1
      obtain ⟨hb2_0, hq⟩ := hq
      refine ⟨hb2_0, ?_⟩
      obtain ⟨hb2_0, hq⟩ := hq
      refine ⟨hb2_0, ?_⟩
      obtain ⟨hb2_0, hq⟩ := hq
      refine ⟨hb2_0, ?_⟩
      have hb2_0 := hq
      refine ⟨hb2_0, ?_⟩
      simp only [w_42, if_neg hc0, if_pos hc1]
    · skip
      simp only [w_42, if_neg hc0, if_neg hc1]
theorem t_48_4 {fx : am_X0} {o : List am_V × am_S} {m : am_M} {s : Nat} {w : Int} {x2 : Int} {x3 : Int} (hs : s ∈ shL) (H : ((am_s (m s 4) ≤ am_s x3) → o = ([.inl x2], st0 m)) ∧ (¬ (am_s (m s 4) ≤ am_s x3) → (0 ≤ am_s x3 ∧ am_s x3 < (12 : Nat)) ∧ (((¬ am_s (m (s + 1) ((am_s x3).toNat)) = am_s w) → rn fx 0 (0, 0) 48 4 [some (.inr (.inr (some s))), some (.inl w), some (.inl x2), some (.inl (x3 + 1))] [] (st0 m) o) ∧ (¬ (¬ am_s (m (s + 1) ((am_s x3).toNat)) = am_s w) → rn fx 0 (0, 0) 48 4 [some (.inr (.inr (some s))), some (.inl w), some (.inl (am_or x2 (am_shl 1 x3))), some (.inl (x3 + 1))] [] (st0 m) o)))) : rn fx 0 (0, 0) 48 4 [some (.inr (.inr (some s))), some (.inl w), some (.inl x2), some (.inl x3)] [] (st0 m) o := by
  refine r_ld (pc' := 5) hM_48 d_48_4 rfl rfl ?_
  refine r_ld (pc' := 6) hM_48 d_48_5 rfl rfl ?_
  refine r_gI (pc' := 9) (k0 := 4) hM_48 d_48_6 rfl (gfS_8_27 hs) ?_
  refine r_ic (pc' := 34) (pc2 := 12) hM_48 d_48_9 (by decide) rfl (fun hz1 => ?_) (fun hz1 => ?_)
  · have H := H.1 hz1
    refine r_ld (pc' := 35) hM_48 d_48_34 rfl rfl ?_
    subst H
    exact rt_i hM_48 d_48_35 rfl
  · have H := H.2 hz1
    refine r_ld (pc' := 13) hM_48 d_48_12 rfl rfl ?_
    refine r_gR (pc' := 16) (v := (s + 1)) hM_48 d_48_13 rfl (gfS_8_9 hs) ?_
    refine r_ld (pc' := 17) hM_48 d_48_16 rfl rfl ?_
    obtain ⟨hz2, H⟩ := H
    refine r_ia (pc' := 18) (n := 12) hM_48 d_48_17 rfl (shSk hs).2.1 hz2 ?_
    refine r_ld (pc' := 19) hM_48 d_48_18 rfl rfl ?_
    refine r_ic (pc' := 28) (pc2 := 22) hM_48 d_48_19 (by decide) rfl (fun hz3 => ?_) (fun hz3 => ?_)
    · have H := H.1 hz3
      refine r_sto (pc' := 31) (ls' := [some (.inr (.inr (some s))), some (.inl w), some (.inl x2), some (.inl (x3 + 1))]) hM_48 d_48_28 rfl rfl ?_
      refine r_go (pc' := 4) hM_48 d_48_31 (by decide) ?_
      exact H
    · have H := H.2 hz3
      refine r_ld (pc' := 23) hM_48 d_48_22 rfl rfl ?_
      refine r_k (pc' := 24) (v := .inl 1) hM_48 d_48_23 rfl rfl ?_
      refine r_ld (pc' := 25) hM_48 d_48_24 rfl rfl ?_
      refine r_b (pc' := 26) (z := (am_shl 1 x3)) hM_48 d_48_25 rfl rfl ?_
      refine r_b (pc' := 27) (z := (am_or x2 (am_shl 1 x3))) hM_48 d_48_26 rfl rfl ?_
      refine r_sto (pc' := 28) (ls' := [some (.inr (.inr (some s))), some (.inl w), some (.inl (am_or x2 (am_shl 1 x3))), some (.inl x3)]) hM_48 d_48_27 rfl rfl ?_
      refine r_sto (pc' := 31) (ls' := [some (.inr (.inr (some s))), some (.inl w), some (.inl (am_or x2 (am_shl 1 x3))), some (.inl (x3 + 1))]) hM_48 d_48_28 rfl rfl ?_
      refine r_go (pc' := 4) hM_48 d_48_31 (by decide) ?_
      exact H
theorem t_48_0 {fx : am_X0} {o : List am_V × am_S} {m : am_M} {s : Nat} {w : Int} (hs : s ∈ shL) (H : rn fx 0 (0, 0) 48 4 [some (.inr (.inr (some s))), some (.inl w), some (.inl 0), some (.inl 0)] [] (st0 m) o) : rn fx 0 (0, 0) 48 0 [some (.inr (.inr (some s))), some (.inl w), none, none] [] (st0 m) o := by
  refine r_k (pc' := 1) (v := .inl 0) hM_48 d_48_0 rfl rfl ?_
  refine r_sto (pc' := 2) (ls' := [some (.inr (.inr (some s))), some (.inl w), some (.inl 0), none]) hM_48 d_48_1 rfl rfl ?_
  refine r_k (pc' := 3) (v := .inl 0) hM_48 d_48_2 rfl rfl ?_
  refine r_sto (pc' := 4) (ls' := [some (.inr (.inr (some s))), some (.inl w), some (.inl 0), some (.inl 0)]) hM_48 d_48_3 rfl rfl ?_
  exact H
/-- Shelf.placesOf -/
theorem c_48 {fx : am_X0} {s : Nat} (hs : s ∈ shL) (m : am_M) (w : Int) (hq : WFS m s) : rn fx 0 (0, 0) 48 0 (am_ent 4 [.inr (.inr (some s)), .inl w]) [] (st0 m) ([.inl ((msk (m (s + 1)) (am_s w) (m s 4).toNat : Nat) : Int)], st0 m) := by
  show rn fx 0 (0, 0) 48 0 [some (.inr (.inr (some s))), some (.inl w), none, none] [] (st0 m) _
  refine t_48_0 hs ?_
  obtain ⟨hN, hK, -⟩ := hq
  have h := rn_loop (fx := fx) (d := 0) (mi := 48) (pc := 4) (cr := (0, 0)) (fun i => ([some (.inr (.inr (some s))), some (.inl w), some (.inl ((msk (m (s + 1)) (am_s w) i : Nat) : Int)), some (.inl (i : Int))], m)) (m s 4).toNat (fun i hi o h => ?_) (o := ([.inl ((msk (m (s + 1)) (am_s w) (m s 4).toNat : Nat) : Int)], st0 m)) ?_
  · exact h
  · have hk := hK i (by omega)
    refine t_48_4 hs ?_
    simp (disch := omega) only [am_s_id, Int.toNat_natCast]
    refine ⟨fun q => by omega, fun _ => ⟨by omega, fun hc => ?_, fun hc => ?_⟩⟩
    · have e : msk (m (s + 1)) (am_s w) (i + 1) = msk (m (s + 1)) (am_s w) i := if_neg hc
      simp only [e] at h
      exact h
    · rw [bx_or2 (msk_lt _ _ i) (by omega)]
      have e : msk (m (s + 1)) (am_s w) (i + 1) = msk (m (s + 1)) (am_s w) i + 2 ^ i := if_pos (Decidable.not_not.mp hc)
      simp only [e] at h
      exact h
  · refine t_48_4 hs ?_
    simp (disch := omega) only [am_s_id]
    exact ⟨fun _ => by first | trivial | rfl, fun q => by omega⟩
theorem t_47_0 {fx : am_X0} {o : List am_V × am_S} {m : am_M} {s : Nat} (hs : s ∈ shL) (H : (WFS m s) ∧ (o = ([.inl (am_and ((am_shl 1 (m s 4)) - 1) (am_xor (((msk (m (s + 1)) (am_s 3) (m s 4).toNat : Nat) : Int)) (-1)))], st0 m))) : rn fx 1 (0, 0) 47 0 [some (.inr (.inr (some s)))] [] (st0 m) o := by
  refine r_k (pc' := 1) (v := .inl 1) hM_47 d_47_0 rfl rfl ?_
  refine r_ld (pc' := 2) hM_47 d_47_1 rfl rfl ?_
  refine r_gI (pc' := 5) (k0 := 4) hM_47 d_47_2 rfl (gfS_8_27 hs) ?_
  refine r_b (pc' := 6) (z := (am_shl 1 (m s 4))) hM_47 d_47_5 rfl rfl ?_
  refine r_k (pc' := 7) (v := .inl 1) hM_47 d_47_6 rfl rfl ?_
  refine r_b (pc' := 8) (z := ((am_shl 1 (m s 4)) - 1)) hM_47 d_47_7 rfl rfl ?_
  refine r_ld (pc' := 9) hM_47 d_47_8 rfl rfl ?_
  refine r_k (pc' := 10) (v := .inl 3) hM_47 d_47_9 rfl rfl ?_
  obtain ⟨hz1, H⟩ := H
  refine r_cl (pc' := 13) (c := (48, 0)) (a := [.inr (.inr (some s)), .inl 3]) (q := [.inl ((am_shl 1 (m s 4)) - 1)]) hM_47 d_47_10 rfl (by decide +kernel) hM_48 rfl rfl rfl (Nat.le_of_ble_eq_true rfl) (Nat.le_of_ble_eq_true rfl) (Or.inr (rcvS hs _)) (c_48 hs m 3 hz1) (Nat.le_of_ble_eq_true rfl) ?_
  show rn fx 1 (0, 0) 47 13 [some (.inr (.inr (some s)))] [.inl (((msk (m (s + 1)) (am_s 3) (m s 4).toNat : Nat) : Int)), .inl ((am_shl 1 (m s 4)) - 1)] (st0 m) o
  refine r_k (pc' := 14) (v := .inl (-1)) hM_47 d_47_13 rfl rfl ?_
  refine r_b (pc' := 15) (z := (am_xor (((msk (m (s + 1)) (am_s 3) (m s 4).toNat : Nat) : Int)) (-1))) hM_47 d_47_14 rfl rfl ?_
  refine r_b (pc' := 16) (z := (am_and ((am_shl 1 (m s 4)) - 1) (am_xor (((msk (m (s + 1)) (am_s 3) (m s 4).toNat : Nat) : Int)) (-1)))) hM_47 d_47_15 rfl rfl ?_
  subst H
  exact rt_i hM_47 d_47_16 rfl
def v_47 (m : am_M) (s : Nat) : Int := (am_and ((am_shl 1 (m s 4)) - 1) (am_xor (((msk (m (s + 1)) (am_s 3) (m s 4).toNat : Nat) : Int)) (-1)))
def q_47 (m : am_M) (s : Nat) : Prop := (WFS m s)
/-- HeardBarrels$Shelf.barrelPlaces -/
theorem c_47 {fx : am_X0} {s : Nat} (hs : s ∈ shL) (m : am_M)  (hq : q_47 m s) : rn fx 1 (0, 0) 47 0 (am_ent 1 [.inr (.inr (some s))]) [] (st0 m) ([.inl (v_47 m s)], st0 m) := by
  unfold q_47 at hq
  show rn fx 1 (0, 0) 47 0 [some (.inr (.inr (some s)))] [] (st0 m) _
  refine t_47_0 hs ?_
  have hb0_0 := hq
  refine ⟨hb0_0, ?_⟩
  simp only [v_47]
theorem t_78_0 {fx : am_X0} {o : List am_V × am_S} {m : am_M} {s : Nat} (hs : s ∈ shL) (H : (q_47 m s) ∧ ((WFS m s) ∧ (o = ([.inl (am_and (v_47 m s) (am_xor (((msk (m (s + 1)) (am_s 2) (m s 4).toNat : Nat) : Int)) (-1)))], st0 m)))) : rn fx 2 (0, 0) 78 0 [some (.inr (.inr (some s)))] [] (st0 m) o := by
  refine r_ld (pc' := 1) hM_78 d_78_0 rfl rfl ?_
  obtain ⟨hz1, H⟩ := H
  refine r_cl (pc' := 4) (c := (47, 0)) (a := [.inr (.inr (some s))]) (q := []) hM_78 d_78_1 rfl (by decide +kernel) hM_47 rfl rfl rfl (Nat.le_of_ble_eq_true rfl) (Nat.le_of_ble_eq_true rfl) (Or.inr (rcvS hs _)) (c_47 hs m  hz1) (Nat.le_of_ble_eq_true rfl) ?_
  show rn fx 2 (0, 0) 78 4 [some (.inr (.inr (some s)))] [.inl (v_47 m s)] (st0 m) o
  refine r_ld (pc' := 5) hM_78 d_78_4 rfl rfl ?_
  refine r_k (pc' := 6) (v := .inl 2) hM_78 d_78_5 rfl rfl ?_
  obtain ⟨hz2, H⟩ := H
  refine r_cl (pc' := 9) (c := (48, 0)) (a := [.inr (.inr (some s)), .inl 2]) (q := [.inl (v_47 m s)]) hM_78 d_78_6 rfl (by decide +kernel) hM_48 rfl rfl rfl (Nat.le_of_ble_eq_true rfl) (Nat.le_of_ble_eq_true rfl) (Or.inr (rcvS hs _)) (c_48 hs m 2 hz2) (Nat.le_of_ble_eq_true rfl) ?_
  show rn fx 2 (0, 0) 78 9 [some (.inr (.inr (some s)))] [.inl (((msk (m (s + 1)) (am_s 2) (m s 4).toNat : Nat) : Int)), .inl (v_47 m s)] (st0 m) o
  refine r_k (pc' := 10) (v := .inl (-1)) hM_78 d_78_9 rfl rfl ?_
  refine r_b (pc' := 11) (z := (am_xor (((msk (m (s + 1)) (am_s 2) (m s 4).toNat : Nat) : Int)) (-1))) hM_78 d_78_10 rfl rfl ?_
  refine r_b (pc' := 12) (z := (am_and (v_47 m s) (am_xor (((msk (m (s + 1)) (am_s 2) (m s 4).toNat : Nat) : Int)) (-1)))) hM_78 d_78_11 rfl rfl ?_
  subst H
  exact rt_i hM_78 d_78_12 rfl
def v_78 (m : am_M) (s : Nat) : Int := (am_and (v_47 m s) (am_xor (((msk (m (s + 1)) (am_s 2) (m s 4).toNat : Nat) : Int)) (-1)))
def q_78 (m : am_M) (s : Nat) : Prop := (q_47 m s) ∧ (WFS m s)
/-- HeardBarrels$Shelf.fillablePlaces -/
theorem c_78 {fx : am_X0} {s : Nat} (hs : s ∈ shL) (m : am_M)  (hq : q_78 m s) : rn fx 2 (0, 0) 78 0 (am_ent 1 [.inr (.inr (some s))]) [] (st0 m) ([.inl (v_78 m s)], st0 m) := by
  unfold q_78 at hq
  show rn fx 2 (0, 0) 78 0 [some (.inr (.inr (some s)))] [] (st0 m) _
  refine t_78_0 hs ?_
  obtain ⟨hb0_0, hq⟩ := hq
  refine ⟨hb0_0, ?_⟩
  have hb0_0 := hq
  refine ⟨hb0_0, ?_⟩
  simp only [v_78]
theorem t_77_0 {fx : am_X0} {o : List am_V × am_S} {m : am_M} {s : Nat} {b : Int} (hs : s ∈ shL) (H : (q_78 m s) ∧ (∀ y1 : Int, y1 = (if ¬ am_s (am_and b (am_xor (v_78 m s) (-1))) = 0 then 0 else 1) → o = ([.inl y1], st0 m))) : rn fx 3 (0, 0) 77 0 [some (.inr (.inr (some s))), some (.inl b)] [] (st0 m) o := by
  refine r_ld (pc' := 1) hM_77 d_77_0 rfl rfl ?_
  refine r_ld (pc' := 2) hM_77 d_77_1 rfl rfl ?_
  obtain ⟨hz1, H⟩ := H
  refine r_cl (pc' := 5) (c := (78, 0)) (a := [.inr (.inr (some s))]) (q := [.inl b]) hM_77 d_77_2 rfl (by decide +kernel) hM_78 rfl rfl rfl (Nat.le_of_ble_eq_true rfl) (Nat.le_of_ble_eq_true rfl) (Or.inr (rcvS hs _)) (c_78 hs m  hz1) (Nat.le_of_ble_eq_true rfl) ?_
  show rn fx 3 (0, 0) 77 5 [some (.inr (.inr (some s))), some (.inl b)] [.inl (v_78 m s), .inl b] (st0 m) o
  refine r_k (pc' := 6) (v := .inl (-1)) hM_77 d_77_5 rfl rfl ?_
  refine r_b (pc' := 7) (z := (am_xor (v_78 m s) (-1))) hM_77 d_77_6 rfl rfl ?_
  refine r_b (pc' := 8) (z := (am_and b (am_xor (v_78 m s) (-1)))) hM_77 d_77_7 rfl rfl ?_
  have K : ∀ y1 : Int, y1 = (if ¬ am_s (am_and b (am_xor (v_78 m s) (-1))) = 0 then 0 else 1) → rn fx 3 (0, 0) 77 16 [some (.inr (.inr (some s))), some (.inl b)] [.inl y1] (st0 m) o := by
    intro y1 hy1
    replace H := H y1 hy1
    subst H
    refine rt_z hM_77 d_77_16 rfl ?_
    rw [hy1]
    repeat' first | exact Or.inl rfl | exact Or.inr rfl | apply z01_ite
  replace K := K _ rfl
  clear H
  refine r_if (pc' := 15) (pc2 := 11) hM_77 d_77_8 (by decide) rfl (fun hz2 => ?_) (fun hz2 => ?_)
  · have hz2 : ¬ am_s (am_and b (am_xor (v_78 m s) (-1))) = 0 := hz2
    rw [if_pos hz2] at K
    refine r_k (pc' := 16) (v := .inl 0) hM_77 d_77_15 rfl rfl ?_
    exact K
  · have hz2 : ¬ (¬ am_s (am_and b (am_xor (v_78 m s) (-1))) = 0) := hz2
    rw [if_neg hz2] at K
    refine r_k (pc' := 12) (v := .inl 1) hM_77 d_77_11 rfl rfl ?_
    refine r_go (pc' := 16) hM_77 d_77_12 (by decide) ?_
    exact K
def v_77 (m : am_M) (s : Nat) (b : Int) : Int := (if ¬ am_s (am_and b (am_xor (v_78 m s) (-1))) = 0 then 0 else 1)
def q_77 (m : am_M) (s : Nat) (b : Int) : Prop := (q_78 m s)
/-- HeardBarrels$Shelf.mayBeBad -/
theorem c_77 {fx : am_X0} {s : Nat} (hs : s ∈ shL) (m : am_M) (b : Int) (hq : q_77 m s b) : rn fx 3 (0, 0) 77 0 (am_ent 2 [.inr (.inr (some s)), .inl b]) [] (st0 m) ([.inl (v_77 m s b)], st0 m) := by
  unfold q_77 at hq
  show rn fx 3 (0, 0) 77 0 [some (.inr (.inr (some s))), some (.inl b)] [] (st0 m) _
  refine t_77_0 hs ?_
  have hb0_0 := hq
  refine ⟨hb0_0, ?_⟩
  intro y1 hy1
  subst hy1
  simp only [v_77]
theorem gfS_8_37 {s : Nat} (hs : s ∈ shL) : am_gf 8 37 s = some (.inl 7) := by
  have h : ∀ s ∈ shL, am_gf 8 37 s = some (.inl 7) := by decide +kernel
  exact h s hs
theorem gfS_8_49 {s : Nat} (hs : s ∈ shL) : am_gf 8 49 s = some (.inl 11) := by
  have h : ∀ s ∈ shL, am_gf 8 49 s = some (.inl 11) := by decide +kernel
  exact h s hs
theorem t_46_0 {fx : am_X0} {o : List am_V × am_S} {m : am_M} {s : Nat} {b : Int} (hs : s ∈ shL) (H : (q_47 m s) ∧ (((am_s (am_lcmp (am_landL b (am_lxorL (am_s (v_47 m s)) (-1))) 0) = 0) → ((am_s (v_49 m b) ≤ am_s (m s 7)) → ∀ y1 : Int, y1 = (if am_s (m s 11) < am_s 9999 then 0 else 3) → o = ([.inl y1], st0 m)) ∧ (¬ (am_s (v_49 m b) ≤ am_s (m s 7)) → o = ([.inl 2], st0 m))) ∧ (¬ (am_s (am_lcmp (am_landL b (am_lxorL (am_s (v_47 m s)) (-1))) 0) = 0) → o = ([.inl 1], st0 m)))) : rn fx 2 (0, 0) 46 0 [some (.inr (.inr (some s))), some (.inr (.inl b)), none] [] (st0 m) o := by
  refine r_ld (pc' := 1) hM_46 d_46_0 rfl rfl ?_
  refine r_ld (pc' := 2) hM_46 d_46_1 rfl rfl ?_
  obtain ⟨hz1, H⟩ := H
  refine r_cl (pc' := 5) (c := (47, 0)) (a := [.inr (.inr (some s))]) (q := [.inr (.inl b)]) hM_46 d_46_2 rfl (by decide +kernel) hM_47 rfl rfl rfl (Nat.le_of_ble_eq_true rfl) (Nat.le_of_ble_eq_true rfl) (Or.inr (rcvS hs _)) (c_47 hs m  hz1) (Nat.le_of_ble_eq_true rfl) ?_
  show rn fx 2 (0, 0) 46 5 [some (.inr (.inr (some s))), some (.inr (.inl b)), none] [.inl (v_47 m s), .inr (.inl b)] (st0 m) o
  refine r_stk (pc' := 6) (st' := [.inr (.inl (am_s (v_47 m s))), .inr (.inl b)]) hM_46 d_46_5 rfl rfl ?_
  refine r_k (pc' := 9) (v := .inr (.inl (-1))) hM_46 d_46_6 rfl (by decide +kernel) ?_
  refine r_stk (pc' := 10) (st' := [.inr (.inl (am_lxorL (am_s (v_47 m s)) (-1))), .inr (.inl b)]) hM_46 d_46_9 rfl rfl ?_
  refine r_stk (pc' := 11) (st' := [.inr (.inl (am_landL b (am_lxorL (am_s (v_47 m s)) (-1))))]) hM_46 d_46_10 rfl rfl ?_
  refine r_k (pc' := 12) (v := .inr (.inl 0)) hM_46 d_46_11 rfl rfl ?_
  refine r_stk (pc' := 13) (st' := [.inl (am_lcmp (am_landL b (am_lxorL (am_s (v_47 m s)) (-1))) 0)]) hM_46 d_46_12 rfl rfl ?_
  refine r_if (pc' := 18) (pc2 := 16) hM_46 d_46_13 (by decide) rfl (fun hz2 => ?_) (fun hz2 => ?_)
  · have H := H.1 hz2
    refine r_ld (pc' := 19) hM_46 d_46_18 rfl rfl ?_
    refine r_cl (pc' := 22) (c := (49, 2)) (a := [.inr (.inl b)]) (q := []) hM_46 d_46_19 rfl (by decide +kernel) hM_49 rfl rfl rfl (Nat.le_of_ble_eq_true rfl) (Nat.le_of_ble_eq_true rfl) (Or.inl rfl) (c_49  m b) (Nat.le_of_ble_eq_true rfl) ?_
    show rn fx 2 (0, 0) 46 22 [some (.inr (.inr (some s))), some (.inr (.inl b)), none] [.inl (v_49 m b)] (st0 m) o
    refine r_ld (pc' := 23) hM_46 d_46_22 rfl rfl ?_
    refine r_gI (pc' := 26) (k0 := 7) hM_46 d_46_23 rfl (gfS_8_37 hs) ?_
    refine r_ic (pc' := 31) (pc2 := 29) hM_46 d_46_26 (by decide) rfl (fun hz3 => ?_) (fun hz3 => ?_)
    · have H := H.1 hz3
      refine r_ld (pc' := 32) hM_46 d_46_31 rfl rfl ?_
      refine r_gI (pc' := 35) (k0 := 11) hM_46 d_46_32 rfl (gfS_8_49 hs) ?_
      refine r_k (pc' := 38) (v := .inl 9999) hM_46 d_46_35 rfl rfl ?_
      have K : ∀ y1 : Int, y1 = (if am_s (m s 11) < am_s 9999 then 0 else 3) → rn fx 2 (0, 0) 46 46 [some (.inr (.inr (some s))), some (.inr (.inl b)), none] [.inl y1] (st0 m) o := by
        intro y1 hy1
        replace H := H y1 hy1
        subst H
        exact rt_i hM_46 d_46_46 rfl
      replace K := K _ rfl
      clear H
      refine r_ic (pc' := 45) (pc2 := 41) hM_46 d_46_38 (by decide) rfl (fun hz4 => ?_) (fun hz4 => ?_)
      · have hz4 : am_s (m s 11) < am_s 9999 := hz4
        rw [if_pos hz4] at K
        refine r_k (pc' := 46) (v := .inl 0) hM_46 d_46_45 rfl rfl ?_
        exact K
      · have hz4 : ¬ (am_s (m s 11) < am_s 9999) := hz4
        rw [if_neg hz4] at K
        refine r_k (pc' := 42) (v := .inl 3) hM_46 d_46_41 rfl rfl ?_
        refine r_go (pc' := 46) hM_46 d_46_42 (by decide) ?_
        exact K
    · have H := H.2 hz3
      refine r_k (pc' := 30) (v := .inl 2) hM_46 d_46_29 rfl rfl ?_
      subst H
      exact rt_i hM_46 d_46_30 rfl
  · have H := H.2 hz2
    refine r_k (pc' := 17) (v := .inl 1) hM_46 d_46_16 rfl rfl ?_
    subst H
    exact rt_i hM_46 d_46_17 rfl
def v_46 (m : am_M) (s : Nat) (b : Int) : Int := (if am_s (am_lcmp (am_landL b (am_lxorL (am_s (v_47 m s)) (-1))) 0) = 0 then (if am_s (v_49 m b) ≤ am_s (m s 7) then (if am_s (m s 11) < am_s 9999 then 0 else 3) else 2) else 1)
def q_46 (m : am_M) (s : Nat) (b : Int) : Prop := (q_47 m s)
/-- HeardBarrels$Shelf.whyNot -/
theorem c_46 {fx : am_X0} {s : Nat} (hs : s ∈ shL) (m : am_M) (b : Int) (hq : q_46 m s b) : rn fx 2 (0, 0) 46 0 (am_ent 3 [.inr (.inr (some s)), .inr (.inl b)]) [] (st0 m) ([.inl (v_46 m s b)], st0 m) := by
  unfold q_46 at hq
  show rn fx 2 (0, 0) 46 0 [some (.inr (.inr (some s))), some (.inr (.inl b)), none] [] (st0 m) _
  refine t_46_0 hs ?_
  have hb0_0 := hq
  refine ⟨hb0_0, ?_⟩
  refine ⟨fun hc0 => ?_, fun hc0 => ?_⟩
  · skip
    refine ⟨fun hc1 => ?_, fun hc1 => ?_⟩
    · skip
      intro y1 hy1
      subst hy1
      simp only [v_46, if_pos hc0, if_pos hc1]
    · skip
      simp only [v_46, if_pos hc0, if_neg hc1]
  · skip
    simp only [v_46, if_neg hc0]
theorem gfS_8_34 {s : Nat} (hs : s ∈ shL) : am_gf 8 34 s = some (.inl 6) := by
  have h : ∀ s ∈ shL, am_gf 8 34 s = some (.inl 6) := by decide +kernel
  exact h s hs
theorem gfS_8_43 {s : Nat} (hs : s ∈ shL) : am_gf 8 43 s = some (.inl 9) := by
  have h : ∀ s ∈ shL, am_gf 8 43 s = some (.inl 9) := by decide +kernel
  exact h s hs
theorem t_71_0 {fx : am_X0} {o : List am_V × am_S} {m : am_M} {s : Nat} {p : Int} {b : Int} (hs : s ∈ shL) (H : (q_68 m s p) ∧ (((¬ am_s (v_68 m s p) = 0) → ∀ y1 : Int, y1 = (if am_s (am_and (am_shr b p) 1) = 0 then 0 else 1) → (q_69 m s p y1) ∧ ((q_73 m s (p - 1)) ∧ (∀ y2 : Int, y2 = (if am_s (v_73 m s (p - 1)) = 0 then 0 else 1) → (q_73 m s (p + 1)) ∧ (∀ y3 : Int, y3 = (if am_s (v_73 m s (p + 1)) = 0 then 0 else 1) → (q_75 m (((v_69 m s p y1) - ((m s 6) * (v_72 m (am_and b (v_51 m p))))) + (y2 + y3)) (v_74 m 1 ((m s 9) + 1))) ∧ (o = ([.inl (v_75 m (((v_69 m s p y1) - ((m s 6) * (v_72 m (am_and b (v_51 m p))))) + (y2 + y3)) (v_74 m 1 ((m s 9) + 1)))], st0 m)))))) ∧ (¬ (¬ am_s (v_68 m s p) = 0) → o = ([.inl (-1000)], st0 m)))) : rn fx 2 (0, 0) 71 0 [some (.inr (.inr (some s))), some (.inl p), some (.inl b), none] [] (st0 m) o := by
  refine r_ld (pc' := 1) hM_71 d_71_0 rfl rfl ?_
  refine r_ld (pc' := 2) hM_71 d_71_1 rfl rfl ?_
  obtain ⟨hz1, H⟩ := H
  refine r_cl (pc' := 5) (c := (68, 0)) (a := [.inr (.inr (some s)), .inl p]) (q := []) hM_71 d_71_2 rfl (by decide +kernel) hM_68 rfl rfl rfl (Nat.le_of_ble_eq_true rfl) (Nat.le_of_ble_eq_true rfl) (Or.inr (rcvS hs _)) (c_68 hs m p hz1) (Nat.le_of_ble_eq_true rfl) ?_
  show rn fx 2 (0, 0) 71 5 [some (.inr (.inr (some s))), some (.inl p), some (.inl b), none] [.inl (v_68 m s p)] (st0 m) o
  refine r_if (pc' := 12) (pc2 := 8) hM_71 d_71_5 (by decide) rfl (fun hz2 => ?_) (fun hz2 => ?_)
  · have H := H.1 hz2
    refine r_ld (pc' := 13) hM_71 d_71_12 rfl rfl ?_
    refine r_ld (pc' := 14) hM_71 d_71_13 rfl rfl ?_
    refine r_ld (pc' := 15) hM_71 d_71_14 rfl rfl ?_
    refine r_ld (pc' := 16) hM_71 d_71_15 rfl rfl ?_
    refine r_b (pc' := 17) (z := (am_shr b p)) hM_71 d_71_16 rfl rfl ?_
    refine r_k (pc' := 18) (v := .inl 1) hM_71 d_71_17 rfl rfl ?_
    refine r_b (pc' := 19) (z := (am_and (am_shr b p) 1)) hM_71 d_71_18 rfl rfl ?_
    have K : ∀ y1 : Int, y1 = (if am_s (am_and (am_shr b p) 1) = 0 then 0 else 1) → rn fx 2 (0, 0) 71 27 [some (.inr (.inr (some s))), some (.inl p), some (.inl b), none] [.inl y1, .inl p, .inr (.inr (some s))] (st0 m) o := by
      intro y1 hy1
      replace H := H y1 hy1
      obtain ⟨hz4, H⟩ := H
      refine r_cl (pc' := 30) (c := (69, 0)) (a := [.inr (.inr (some s)), .inl p, .inl y1]) (q := []) hM_71 d_71_27 rfl (by decide +kernel) hM_69 rfl rfl rfl (Nat.le_of_ble_eq_true rfl) (Nat.le_of_ble_eq_true rfl) (Or.inr (rcvS hs _)) (c_69 hs m p y1 hz4) (Nat.le_of_ble_eq_true rfl) ?_
      show rn fx 2 (0, 0) 71 30 [some (.inr (.inr (some s))), some (.inl p), some (.inl b), none] [.inl (v_69 m s p y1)] (st0 m) o
      refine r_ld (pc' := 31) hM_71 d_71_30 rfl rfl ?_
      refine r_gI (pc' := 34) (k0 := 6) hM_71 d_71_31 rfl (gfS_8_34 hs) ?_
      refine r_ld (pc' := 35) hM_71 d_71_34 rfl rfl ?_
      refine r_ld (pc' := 36) hM_71 d_71_35 rfl rfl ?_
      refine r_cl (pc' := 39) (c := (51, 2)) (a := [.inl p]) (q := [.inl b, .inl (m s 6), .inl (v_69 m s p y1)]) hM_71 d_71_36 rfl (by decide +kernel) hM_51 rfl rfl rfl (Nat.le_of_ble_eq_true rfl) (Nat.le_of_ble_eq_true rfl) (Or.inl rfl) (c_51  m p) (Nat.le_of_ble_eq_true rfl) ?_
      show rn fx 2 (0, 0) 71 39 [some (.inr (.inr (some s))), some (.inl p), some (.inl b), none] [.inl (v_51 m p), .inl b, .inl (m s 6), .inl (v_69 m s p y1)] (st0 m) o
      refine r_b (pc' := 40) (z := (am_and b (v_51 m p))) hM_71 d_71_39 rfl rfl ?_
      refine r_cl (pc' := 43) (c := (72, 2)) (a := [.inl (am_and b (v_51 m p))]) (q := [.inl (m s 6), .inl (v_69 m s p y1)]) hM_71 d_71_40 rfl (by decide +kernel) hM_72 rfl rfl rfl (Nat.le_of_ble_eq_true rfl) (Nat.le_of_ble_eq_true rfl) (Or.inl rfl) (c_72  m (am_and b (v_51 m p))) (Nat.le_of_ble_eq_true rfl) ?_
      show rn fx 2 (0, 0) 71 43 [some (.inr (.inr (some s))), some (.inl p), some (.inl b), none] [.inl (v_72 m (am_and b (v_51 m p))), .inl (m s 6), .inl (v_69 m s p y1)] (st0 m) o
      refine r_b (pc' := 44) (z := ((m s 6) * (v_72 m (am_and b (v_51 m p))))) hM_71 d_71_43 rfl rfl ?_
      refine r_b (pc' := 45) (z := ((v_69 m s p y1) - ((m s 6) * (v_72 m (am_and b (v_51 m p)))))) hM_71 d_71_44 rfl rfl ?_
      refine r_sto (pc' := 46) (ls' := [some (.inr (.inr (some s))), some (.inl p), some (.inl b), some (.inl ((v_69 m s p y1) - ((m s 6) * (v_72 m (am_and b (v_51 m p))))))]) hM_71 d_71_45 rfl rfl ?_
      refine r_ld (pc' := 47) hM_71 d_71_46 rfl rfl ?_
      refine r_ld (pc' := 48) hM_71 d_71_47 rfl rfl ?_
      refine r_ld (pc' := 49) hM_71 d_71_48 rfl rfl ?_
      refine r_k (pc' := 50) (v := .inl 1) hM_71 d_71_49 rfl rfl ?_
      refine r_b (pc' := 51) (z := (p - 1)) hM_71 d_71_50 rfl rfl ?_
      obtain ⟨hz5, H⟩ := H
      refine r_cl (pc' := 54) (c := (73, 0)) (a := [.inr (.inr (some s)), .inl (p - 1)]) (q := [.inl ((v_69 m s p y1) - ((m s 6) * (v_72 m (am_and b (v_51 m p)))))]) hM_71 d_71_51 rfl (by decide +kernel) hM_73 rfl rfl rfl (Nat.le_of_ble_eq_true rfl) (Nat.le_of_ble_eq_true rfl) (Or.inr (rcvS hs _)) (c_73 hs m (p - 1) hz5) (Nat.le_of_ble_eq_true rfl) ?_
      show rn fx 2 (0, 0) 71 54 [some (.inr (.inr (some s))), some (.inl p), some (.inl b), some (.inl ((v_69 m s p y1) - ((m s 6) * (v_72 m (am_and b (v_51 m p))))))] [.inl (v_73 m s (p - 1)), .inl ((v_69 m s p y1) - ((m s 6) * (v_72 m (am_and b (v_51 m p)))))] (st0 m) o
      have K : ∀ y2 : Int, y2 = (if am_s (v_73 m s (p - 1)) = 0 then 0 else 1) → rn fx 2 (0, 0) 71 62 [some (.inr (.inr (some s))), some (.inl p), some (.inl b), some (.inl ((v_69 m s p y1) - ((m s 6) * (v_72 m (am_and b (v_51 m p))))))] [.inl y2, .inl ((v_69 m s p y1) - ((m s 6) * (v_72 m (am_and b (v_51 m p)))))] (st0 m) o := by
        intro y2 hy2
        replace H := H y2 hy2
        refine r_ld (pc' := 63) hM_71 d_71_62 rfl rfl ?_
        refine r_ld (pc' := 64) hM_71 d_71_63 rfl rfl ?_
        refine r_k (pc' := 65) (v := .inl 1) hM_71 d_71_64 rfl rfl ?_
        refine r_b (pc' := 66) (z := (p + 1)) hM_71 d_71_65 rfl rfl ?_
        obtain ⟨hz7, H⟩ := H
        refine r_cl (pc' := 69) (c := (73, 0)) (a := [.inr (.inr (some s)), .inl (p + 1)]) (q := [.inl y2, .inl ((v_69 m s p y1) - ((m s 6) * (v_72 m (am_and b (v_51 m p)))))]) hM_71 d_71_66 rfl (by decide +kernel) hM_73 rfl rfl rfl (Nat.le_of_ble_eq_true rfl) (Nat.le_of_ble_eq_true rfl) (Or.inr (rcvS hs _)) (c_73 hs m (p + 1) hz7) (Nat.le_of_ble_eq_true rfl) ?_
        show rn fx 2 (0, 0) 71 69 [some (.inr (.inr (some s))), some (.inl p), some (.inl b), some (.inl ((v_69 m s p y1) - ((m s 6) * (v_72 m (am_and b (v_51 m p))))))] [.inl (v_73 m s (p + 1)), .inl y2, .inl ((v_69 m s p y1) - ((m s 6) * (v_72 m (am_and b (v_51 m p)))))] (st0 m) o
        have K : ∀ y3 : Int, y3 = (if am_s (v_73 m s (p + 1)) = 0 then 0 else 1) → rn fx 2 (0, 0) 71 77 [some (.inr (.inr (some s))), some (.inl p), some (.inl b), some (.inl ((v_69 m s p y1) - ((m s 6) * (v_72 m (am_and b (v_51 m p))))))] [.inl y3, .inl y2, .inl ((v_69 m s p y1) - ((m s 6) * (v_72 m (am_and b (v_51 m p)))))] (st0 m) o := by
          intro y3 hy3
          replace H := H y3 hy3
          refine r_b (pc' := 78) (z := (y2 + y3)) hM_71 d_71_77 rfl rfl ?_
          refine r_b (pc' := 79) (z := (((v_69 m s p y1) - ((m s 6) * (v_72 m (am_and b (v_51 m p))))) + (y2 + y3))) hM_71 d_71_78 rfl rfl ?_
          refine r_sto (pc' := 80) (ls' := [some (.inr (.inr (some s))), some (.inl p), some (.inl b), some (.inl (((v_69 m s p y1) - ((m s 6) * (v_72 m (am_and b (v_51 m p))))) + (y2 + y3)))]) hM_71 d_71_79 rfl rfl ?_
          refine r_ld (pc' := 81) hM_71 d_71_80 rfl rfl ?_
          refine r_k (pc' := 82) (v := .inl 1) hM_71 d_71_81 rfl rfl ?_
          refine r_ld (pc' := 83) hM_71 d_71_82 rfl rfl ?_
          refine r_gI (pc' := 86) (k0 := 9) hM_71 d_71_83 rfl (gfS_8_43 hs) ?_
          refine r_k (pc' := 87) (v := .inl 1) hM_71 d_71_86 rfl rfl ?_
          refine r_b (pc' := 88) (z := ((m s 9) + 1)) hM_71 d_71_87 rfl rfl ?_
          refine r_cl (pc' := 91) (c := (74, 2)) (a := [.inl 1, .inl ((m s 9) + 1)]) (q := [.inl (((v_69 m s p y1) - ((m s 6) * (v_72 m (am_and b (v_51 m p))))) + (y2 + y3))]) hM_71 d_71_88 rfl (by decide +kernel) hM_74 rfl rfl rfl (Nat.le_of_ble_eq_true rfl) (Nat.le_of_ble_eq_true rfl) (Or.inl rfl) (c_74  m 1 ((m s 9) + 1)) (Nat.le_of_ble_eq_true rfl) ?_
          show rn fx 2 (0, 0) 71 91 [some (.inr (.inr (some s))), some (.inl p), some (.inl b), some (.inl (((v_69 m s p y1) - ((m s 6) * (v_72 m (am_and b (v_51 m p))))) + (y2 + y3)))] [.inl (v_74 m 1 ((m s 9) + 1)), .inl (((v_69 m s p y1) - ((m s 6) * (v_72 m (am_and b (v_51 m p))))) + (y2 + y3))] (st0 m) o
          obtain ⟨hz9, H⟩ := H
          refine r_cl (pc' := 94) (c := (75, 2)) (a := [.inl (((v_69 m s p y1) - ((m s 6) * (v_72 m (am_and b (v_51 m p))))) + (y2 + y3)), .inl (v_74 m 1 ((m s 9) + 1))]) (q := []) hM_71 d_71_91 rfl (by decide +kernel) hM_75 rfl rfl rfl (Nat.le_of_ble_eq_true rfl) (Nat.le_of_ble_eq_true rfl) (Or.inl rfl) (c_75  m (((v_69 m s p y1) - ((m s 6) * (v_72 m (am_and b (v_51 m p))))) + (y2 + y3)) (v_74 m 1 ((m s 9) + 1)) hz9) (Nat.le_of_ble_eq_true rfl) ?_
          show rn fx 2 (0, 0) 71 94 [some (.inr (.inr (some s))), some (.inl p), some (.inl b), some (.inl (((v_69 m s p y1) - ((m s 6) * (v_72 m (am_and b (v_51 m p))))) + (y2 + y3)))] [.inl (v_75 m (((v_69 m s p y1) - ((m s 6) * (v_72 m (am_and b (v_51 m p))))) + (y2 + y3)) (v_74 m 1 ((m s 9) + 1)))] (st0 m) o
          subst H
          exact rt_i hM_71 d_71_94 rfl
        replace K := K _ rfl
        clear H
        refine r_if (pc' := 76) (pc2 := 72) hM_71 d_71_69 (by decide) rfl (fun hz8 => ?_) (fun hz8 => ?_)
        · have hz8 : am_s (v_73 m s (p + 1)) = 0 := hz8
          rw [if_pos hz8] at K
          refine r_k (pc' := 77) (v := .inl 0) hM_71 d_71_76 rfl rfl ?_
          exact K
        · have hz8 : ¬ (am_s (v_73 m s (p + 1)) = 0) := hz8
          rw [if_neg hz8] at K
          refine r_k (pc' := 73) (v := .inl 1) hM_71 d_71_72 rfl rfl ?_
          refine r_go (pc' := 77) hM_71 d_71_73 (by decide) ?_
          exact K
      replace K := K _ rfl
      clear H
      refine r_if (pc' := 61) (pc2 := 57) hM_71 d_71_54 (by decide) rfl (fun hz6 => ?_) (fun hz6 => ?_)
      · have hz6 : am_s (v_73 m s (p - 1)) = 0 := hz6
        rw [if_pos hz6] at K
        refine r_k (pc' := 62) (v := .inl 0) hM_71 d_71_61 rfl rfl ?_
        exact K
      · have hz6 : ¬ (am_s (v_73 m s (p - 1)) = 0) := hz6
        rw [if_neg hz6] at K
        refine r_k (pc' := 58) (v := .inl 1) hM_71 d_71_57 rfl rfl ?_
        refine r_go (pc' := 62) hM_71 d_71_58 (by decide) ?_
        exact K
    replace K := K _ rfl
    clear H
    refine r_if (pc' := 26) (pc2 := 22) hM_71 d_71_19 (by decide) rfl (fun hz3 => ?_) (fun hz3 => ?_)
    · have hz3 : am_s (am_and (am_shr b p) 1) = 0 := hz3
      rw [if_pos hz3] at K
      refine r_k (pc' := 27) (v := .inl 0) hM_71 d_71_26 rfl rfl ?_
      exact K
    · have hz3 : ¬ (am_s (am_and (am_shr b p) 1) = 0) := hz3
      rw [if_neg hz3] at K
      refine r_k (pc' := 23) (v := .inl 1) hM_71 d_71_22 rfl rfl ?_
      refine r_go (pc' := 27) hM_71 d_71_23 (by decide) ?_
      exact K
  · have H := H.2 hz2
    refine r_k (pc' := 11) (v := .inl (-1000)) hM_71 d_71_8 rfl rfl ?_
    subst H
    exact rt_i hM_71 d_71_11 rfl
def v_71 (m : am_M) (s : Nat) (p : Int) (b : Int) : Int := (if ¬ am_s (v_68 m s p) = 0 then (v_75 m (((v_69 m s p (if am_s (am_and (am_shr b p) 1) = 0 then 0 else 1)) - ((m s 6) * (v_72 m (am_and b (v_51 m p))))) + ((if am_s (v_73 m s (p - 1)) = 0 then 0 else 1) + (if am_s (v_73 m s (p + 1)) = 0 then 0 else 1))) (v_74 m 1 ((m s 9) + 1))) else (-1000))
def q_71 (m : am_M) (s : Nat) (p : Int) (b : Int) : Prop := (q_68 m s p) ∧ (((¬ am_s (v_68 m s p) = 0) → (q_69 m s p (if am_s (am_and (am_shr b p) 1) = 0 then 0 else 1)) ∧ (q_73 m s (p - 1)) ∧ (q_73 m s (p + 1)) ∧ (q_75 m (((v_69 m s p (if am_s (am_and (am_shr b p) 1) = 0 then 0 else 1)) - ((m s 6) * (v_72 m (am_and b (v_51 m p))))) + ((if am_s (v_73 m s (p - 1)) = 0 then 0 else 1) + (if am_s (v_73 m s (p + 1)) = 0 then 0 else 1))) (v_74 m 1 ((m s 9) + 1)))))
/-- HeardBarrels$Shelf.sound -/
theorem c_71 {fx : am_X0} {s : Nat} (hs : s ∈ shL) (m : am_M) (p : Int) (b : Int) (hq : q_71 m s p b) : rn fx 2 (0, 0) 71 0 (am_ent 4 [.inr (.inr (some s)), .inl p, .inl b]) [] (st0 m) ([.inl (v_71 m s p b)], st0 m) := by
  unfold q_71 at hq
  show rn fx 2 (0, 0) 71 0 [some (.inr (.inr (some s))), some (.inl p), some (.inl b), none] [] (st0 m) _
  refine t_71_0 hs ?_
  obtain ⟨hb0_0, hq⟩ := hq
  refine ⟨hb0_0, ?_⟩
  refine ⟨fun hc0 => ?_, fun hc0 => ?_⟩
  · have hq := hq hc0
    intro y1 hy1
    subst hy1
    obtain ⟨hb1_0, hq⟩ := hq
    refine ⟨hb1_0, ?_⟩
    obtain ⟨hb1_0, hq⟩ := hq
    refine ⟨hb1_0, ?_⟩
    intro y2 hy2
    subst hy2
    obtain ⟨hb1_0, hq⟩ := hq
    refine ⟨hb1_0, ?_⟩
    intro y3 hy3
    subst hy3
    have hb1_0 := hq
    refine ⟨hb1_0, ?_⟩
    simp only [v_71, if_pos hc0]
  · skip
    simp only [v_71, if_neg hc0]
