/-! THE SHELF LAID ANEW -/
def dif (A : Nat → Bool) (τ : Nat → Int) (i l o : Nat) : Int := if A i = true then (if τ l - τ o < 0 then -(τ l - τ o) else τ l - τ o) else 1000
def mxf (f : Nat → Int) (s : Nat) : Nat → Int
  | 0 => 0
  | j + 1 => if s.testBit j = true then mxf f s j else max (mxf f s j) (f j)
theorem mxf_s {f : Nat → Int} {s j : Nat} : mxf f s (j + 1) = if s.testBit j = true then mxf f s j else max (mxf f s j) (f j) := rfl
theorem mxf_0 {f : Nat → Int} {s : Nat} : ∀ n, 0 ≤ mxf f s n := by
  intro n
  induction n with
  | zero => exact Int.le_refl _
  | succ n ih => rw [mxf_s]; split <;> omega
theorem mxf_le {f : Nat → Int} {s : Nat} {c : Int} (hc : 0 ≤ c) : ∀ n, (∀ j, j < n → s.testBit j = false → f j ≤ c) → mxf f s n ≤ c := by
  intro n
  induction n with
  | zero => intro _; exact hc
  | succ n ih =>
    intro h
    have h1 := ih fun j hj => h j (by omega)
    rw [mxf_s]
    by_cases hb : s.testBit n = true
    · rw [if_pos hb]; exact h1
    · have hb' : s.testBit n = false := by
        cases hh : s.testBit n
        · rfl
        · exact absurd hh hb
      have := h n (by omega) hb'
      rw [if_neg hb]
      omega
theorem mxf_ge {f : Nat → Int} {s j : Nat} (hs : s.testBit j = false) : ∀ n, j < n → f j ≤ mxf f s n := by
  intro n
  induction n with
  | zero => intro h; exact absurd h (Nat.not_lt_zero _)
  | succ n ih =>
    intro h
    rw [mxf_s]
    by_cases hj : j = n
    · subst hj
      rw [hs, if_neg (by decide)]
      omega
    · have := ih (by omega)
      split <;> omega
theorem mxf_at {f : Nat → Int} {s : Nat} : ∀ n, mxf f s n = 0 ∨ ∃ j, j < n ∧ s.testBit j = false ∧ f j = mxf f s n := by
  intro n
  induction n with
  | zero => exact Or.inl rfl
  | succ n ih =>
    rw [mxf_s]
    by_cases hb : s.testBit n = true
    · rw [if_pos hb]
      rcases ih with ih | ⟨j, h1, h2, h3⟩
      · exact Or.inl ih
      · exact Or.inr ⟨j, by omega, h2, h3⟩
    · have hb' : s.testBit n = false := by
        cases hh : s.testBit n
        · rfl
        · exact absurd hh hb
      rw [if_neg hb]
      by_cases hc : f n ≤ mxf f s n
      · rw [Int.max_eq_left hc]
        rcases ih with ih | ⟨j, h1, h2, h3⟩
        · exact Or.inl ih
        · exact Or.inr ⟨j, by omega, h2, h3⟩
      · rw [Int.max_eq_right (by omega)]
        exact Or.inr ⟨n, by omega, hb', rfl⟩
theorem mxf_congr {f f' : Nat → Int} {s : Nat} : ∀ n, (∀ j, j < n → s.testBit j = false → f j = f' j) → mxf f s n = mxf f' s n := by
  intro n
  induction n with
  | zero => intro _; rfl
  | succ n ih =>
    intro h
    rw [mxf_s, mxf_s, ih fun j hj => h j (by omega)]
    cases hh : s.testBit n
    · rw [h n (by omega) hh]
    · rfl
def DD (A : Nat → Bool) (τ : Nat → Int) (B : Nat) : Nat → Nat → Nat → Int
  | 0, _, _ => 1000
  | k + 1, s, l => mxf (fun o => min (dif A τ (B - (k + 1)) l o) (DD A τ B k (s ||| 2 ^ o) o)) s B
theorem DD_s {A : Nat → Bool} {τ : Nat → Int} {B k s l : Nat} : DD A τ B (k + 1) s l = mxf (fun o => min (dif A τ (B - (k + 1)) l o) (DD A τ B k (s ||| 2 ^ o) o)) s B := rfl
theorem dif_0 {A : Nat → Bool} {τ : Nat → Int} {i l o : Nat} : 0 ≤ dif A τ i l o := by
  unfold dif
  split
  · split <;> omega
  · decide
theorem DD_rng {A : Nat → Bool} {τ : Nat → Int} {B : Nat} : ∀ k s l, 0 ≤ DD A τ B k s l ∧ DD A τ B k s l ≤ 1000 := by
  intro k
  induction k with
  | zero => intro s l; show 0 ≤ (1000 : Int) ∧ (1000 : Int) ≤ 1000; omega
  | succ k ih =>
    intro s l
    rw [DD_s]
    refine ⟨mxf_0 B, mxf_le (by decide) B fun j _ _ => ?_⟩
    have := ih (s ||| 2 ^ j) j
    omega
/-- who may come next, if so much is wanted -/
def NXC (A : Nat → Bool) (τ : Nat → Int) (B : Nat) (γ : Int) (i s l j : Nat) : Prop := s.testBit j = false ∧ γ ≤ min (dif A τ i l j) (DD A τ B (B - (i + 1)) (s ||| 2 ^ j) j)
noncomputable def nxi (A : Nat → Bool) (τ : Nat → Int) (B : Nat) (γ : Int) (i s l : Nat) : Nat := (plv (NXC A τ B γ i s l) B).toNat
theorem NXC_ex {A : Nat → Bool} {τ : Nat → Int} {B : Nat} {γ : Int} {i s l : Nat} (hi : i < B) (hs : ∃ j, j < B ∧ s.testBit j = false) (h : γ ≤ DD A τ B (B - i) s l) : ∃ j, j < B ∧ NXC A τ B γ i s l j := by
  obtain ⟨k, hk⟩ : ∃ k, B - i = k + 1 := ⟨B - i - 1, by omega⟩
  rw [hk, DD_s, show B - (k + 1) = i by omega] at h
  rcases mxf_at (f := fun o => min (dif A τ i l o) (DD A τ B k (s ||| 2 ^ o) o)) (s := s) B with hz | ⟨j, h1, h2, h3⟩
  · obtain ⟨j, j1, j2⟩ := hs
    refine ⟨j, j1, j2, ?_⟩
    have a1 := dif_0 (A := A) (τ := τ) (i := i) (l := l) (o := j)
    have a2 := (DD_rng (A := A) (τ := τ) (B := B) (B - (i + 1)) (s ||| 2 ^ j) j).1
    omega
  · refine ⟨j, h1, h2, ?_⟩
    have h3 : min (dif A τ i l j) (DD A τ B k (s ||| 2 ^ j) j) = mxf (fun o => min (dif A τ i l o) (DD A τ B k (s ||| 2 ^ o) o)) s B := h3
    rw [show B - (i + 1) = k by omega, h3]
    exact h
theorem nxi_ok {A : Nat → Bool} {τ : Nat → Int} {B : Nat} {γ : Int} {i s l : Nat} (h : ∃ j, j < B ∧ NXC A τ B γ i s l j) : nxi A τ B γ i s l < B ∧ NXC A τ B γ i s l (nxi A τ B γ i s l) ∧ (∀ q, q < nxi A τ B γ i s l → ¬ NXC A τ B γ i s l q) ∧ plv (NXC A τ B γ i s l) B = ((nxi A τ B γ i s l : Nat) : Int) := by
  unfold nxi
  rcases plv_ok (NXC A τ B γ i s l) B with ⟨p, a1, a2, a3, a4⟩ | ⟨a1, a2⟩
  · rw [a4, Int.toNat_natCast]
    exact ⟨a1, a2, a3, rfl⟩
  · obtain ⟨j, j1, j2⟩ := h
    exact absurd j2 (a1 j j1)
/-- one after the other -/
noncomputable def stq (A : Nat → Bool) (τ : Nat → Int) (B : Nat) (γ : Int) (i : Nat) (x : Nat × Nat) : Nat × Nat := (x.1 ||| 2 ^ nxi A τ B γ i x.1 x.2, nxi A τ B γ i x.1 x.2)
noncomputable def sq (A : Nat → Bool) (τ : Nat → Int) (B : Nat) (γ : Int) (i : Nat) (x : Nat × Nat) : Nat → Nat × Nat
  | 0 => x
  | n + 1 => stq A τ B γ (i + n) (sq A τ B γ i x n)
theorem sq_s {A : Nat → Bool} {τ : Nat → Int} {B : Nat} {γ : Int} {i n : Nat} {x : Nat × Nat} : sq A τ B γ i x (n + 1) = stq A τ B γ (i + n) (sq A τ B γ i x n) := rfl
theorem sq_sh {A : Nat → Bool} {τ : Nat → Int} {B : Nat} {γ : Int} {i : Nat} {x : Nat × Nat} : ∀ n, sq A τ B γ i x (n + 1) = sq A τ B γ (i + 1) (stq A τ B γ i x) n := by
  intro n
  induction n with
  | zero => rfl
  | succ n ih => rw [sq_s, ih, sq_s, show i + (n + 1) = i + 1 + n by omega]
theorem cnt_orb {s j : Nat} (hj : s.testBit j = false) (hn : j < 12) : cnt (s ||| 2 ^ j) 12 = cnt s 12 + 1 := by
  have h := SU_or (c := fun _ => 1) (A := s) (p := j) hj 12
  rw [SU_1, SU_1, if_pos hn] at h
  omega
theorem or_gt {s j : Nat} (hj : s.testBit j = false) : s < s ||| 2 ^ j := by
  have h1 : s ≤ s ||| 2 ^ j := Nat.left_le_or
  have h2 : s ≠ s ||| 2 ^ j := by
    intro q
    have : (s ||| 2 ^ j).testBit j = true := by rw [Nat.testBit_or, Nat.testBit_two_pow_self, Bool.or_true]
    rw [← q, hj] at this
    exact absurd this (by decide)
  omega
theorem cnt_full {B : Nat} (hB : B ≤ 12) : cnt (2 ^ B - 1) 12 = B := by
  have : ∀ B, B ≤ 12 → cnt (2 ^ B - 1) 12 = B := by decide +kernel
  exact this B hB
/-- as long as not all are laid, one is left -/
theorem ex_left {s B : Nat} (hB : B ≤ 12) (hs : s < 2 ^ B) (h : cnt s 12 < B) : ∃ j, j < B ∧ s.testBit j = false := by
  by_cases hh : ∃ j, j < B ∧ s.testBit j = false
  · exact hh
  · exfalso
    have : s = 2 ^ B - 1 := by
      apply Nat.eq_of_testBit_eq
      intro i
      rw [Nat.testBit_two_pow_sub_one]
      by_cases hi : i < B
      · rw [decide_eq_true hi]
        cases hb : s.testBit i
        · exact absurd ⟨i, hi, hb⟩ hh
        · rfl
      · rw [decide_eq_false hi]
        exact Nat.testBit_lt_two_pow (Nat.lt_of_lt_of_le hs (Nat.pow_le_pow_right (by decide : 0 < 2) (by omega)))
    rw [this, cnt_full hB] at h
    omega
theorem cnt_lt {s B j : Nat} (hB : B ≤ 12) (hs : s < 2 ^ B) (hj : j < B) (hb : s.testBit j = false) : cnt s 12 < B := by
  have hm : cnt (s ||| 2 ^ j) 12 ≤ cnt (2 ^ B - 1) 12 := cnt_mono (by
    unfold sb
    rw [nat_sub]
    intro i hi
    rw [Nat.testBit_two_pow_sub_one]
    by_cases h : i < B
    · exact decide_eq_true h
    · rw [Nat.testBit_or, Nat.testBit_two_pow, Nat.testBit_lt_two_pow (Nat.lt_of_lt_of_le hs (Nat.pow_le_pow_right (by decide : 0 < 2) (by omega))), decide_eq_false (by omega)] at hi
      exact absurd hi (by decide))
  rw [cnt_full hB, cnt_orb hb (by omega)] at hm
  omega
def ngp (g : Nat → Int) (p : Nat) : Bool := decide (g (8 + p) ≠ 3)
def BN (g : Nat → Int) : Nat := cf (ngp g) (g 0).toNat
noncomputable def spx (g : Nat → Int) (j : Nat) : Nat := nthf (ngp g) (g 0).toNat j
def tno (g : Nat → Int) (p : Nat) : Int := tn g p (decide (g (8 + p) = 1))
noncomputable def tau (g : Nat → Int) (j : Nat) : Int := tno g (spx g j)
noncomputable def adj (g : Nat → Int) (i : Nat) : Bool := decide (1 ≤ i ∧ spx g i = spx g (i - 1) + 1)
theorem spx_rk {g : Nat → Int} {p : Nat} (hp : p < (g 0).toNat) (h : ngp g p = true) : spx g (cf (ngp g) p) = p := nthf_eq hp h rfl
theorem spx_ok {g : Nat → Int} {j : Nat} (h : j < BN g) : spx g j < (g 0).toNat ∧ ngp g (spx g j) = true ∧ cf (ngp g) (spx g j) = j := by
  obtain ⟨t, h1, h2, h3⟩ := cf_nth (g 0).toNat j h
  have : spx g j = t := nthf_eq h1 h2 h3
  rw [this]
  exact ⟨h1, h2, h3⟩
theorem spx_lt {g : Nat → Int} {i j : Nat} (hi : i < BN g) (hj : j < BN g) : i < j ↔ spx g i < spx g j := by
  obtain ⟨a1, a2, a3⟩ := spx_ok hi
  obtain ⟨b1, b2, b3⟩ := spx_ok hj
  constructor
  · intro h
    rcases Nat.lt_trichotomy (spx g i) (spx g j) with q | q | q
    · exact q
    · rw [q] at a3; omega
    · have := cf_lt q b2; omega
  · intro h
    have := cf_lt h a2
    omega
theorem tno_rng {g : Nat → Int} {p : Nat} (h : WFG g) (hp : p < 12) : 20 ≤ tno g p ∧ tno g p ≤ 129 := tn_rng h hp
/-- the barrels were looked at -/
def LYD (m : am_M) : Prop := WFG (vw m 2) ∧ BN (nv (vw m 2)) ≤ 8 ∧ m 49 4 = ((BN (nv (vw m 2)) : Nat) : Int) ∧ ∀ j, j < BN (nv (vw m 2)) → m 50 j = ((spx (nv (vw m 2)) j : Nat) : Int) ∧ m 51 j = tau (nv (vw m 2)) j
theorem LYD_fr {m m' : am_M} (h : ∀ a, a ≠ 52 → m' a = m a) (hL : LYD m) : LYD m' ∧ vw m' 2 = vw m 2 := by
  have fv : vw m' 2 = vw m 2 := vw_same fun a k q1 q2 => by rw [h a (by omega)]
  unfold LYD
  rw [fv, h 49 (by decide), h 50 (by decide), h 51 (by decide)]
  exact ⟨hL, rfl⟩
theorem u_145_7 {Q : List am_V → am_M → Prop} {m : am_M} {p : Int}  (H : ((am_s (m 2 4) ≤ am_s p) → Q [.inl 1] m) ∧ ((¬ (am_s (m 2 4) ≤ am_s p)) → (0 ≤ am_s p ∧ am_s p < (12 : Nat)) ∧ (((¬ am_s (m 3 ((am_s p).toNat)) = 3) → ((am_s (m 49 4) < 8) → (0 ≤ am_s (m 49 4) ∧ am_s (m 49 4) < (8 : Nat)) ∧ ((WFG (vw (mu m 50 ((am_s (m 49 4)).toNat) p) 2) ∧ 0 ≤ p ∧ p < (mu m 50 ((am_s (m 49 4)).toNat) p) 2 4) ∧ (ok 3 145 7 [some (.inr (.inr (some 49))), some (.inl (p + 1))] [] (mu (mu (mu m 50 ((am_s (m 49 4)).toNat) p) 51 ((am_s (m 49 4)).toNat) ((if nv (vw (mu m 50 ((am_s (m 49 4)).toNat) p) 2) (8 + p.toNat) = 3 then 0 else tn (nv (vw (mu m 50 ((am_s (m 49 4)).toNat) p) 2)) p.toNat (decide (nv (vw (mu m 50 ((am_s (m 49 4)).toNat) p) 2) (8 + p.toNat) = 1))))) 49 4 ((m 49 4) + 1)) Q))) ∧ ((¬ (am_s (m 49 4) < 8)) → Q [.inl 0] m)) ∧ ((am_s (m 3 ((am_s p).toNat)) = 3) → ok 3 145 7 [some (.inr (.inr (some 49))), some (.inl (p + 1))] [] m Q)))) : ok 3 145 7 [some (.inr (.inr (some 49))), some (.inl p)] [] m Q := by
  refine ok_sg (pc' := 15) (ls' := [some (.inr (.inr (some 49))), some (.inl p)]) (st' := [.inl (m 2 4), .inl p]) (m' := m) (fun fx hfx o hk => ?_) ?_
  · refine r_ld (pc' := 8) hM_145 d_145_7 rfl rfl ?_
    refine r_ld (pc' := 9) hM_145 d_145_8 rfl rfl ?_
    refine r_gR (pc' := 12) (v := 2) hM_145 d_145_9 rfl (by decide +kernel) ?_
    refine r_gI (pc' := 15) (k0 := 4) hM_145 d_145_12 rfl (by decide +kernel) ?_
    exact hk
  refine ok_ic (pc' := 88) (pc2 := 18) hM_145 d_145_15 (by decide) rfl (fun hz1 => ?_) (fun hz1 => ?_)
  · have H := H.1 hz1
    refine ok_sg (pc' := 89) (ls' := [some (.inr (.inr (some 49))), some (.inl p)]) (st' := [.inl 1]) (m' := m) (fun fx hfx o hk => ?_) ?_
    · refine r_k (pc' := 89) (v := .inl 1) hM_145 d_145_88 rfl rfl ?_
      exact hk
    exact ok_rt (fun fx _ => rt_z hM_145 d_145_89 rfl (by decide)) H
  · have H := H.2 hz1
    obtain ⟨hz2, H⟩ := H
    refine ok_sg (pc' := 28) (ls' := [some (.inr (.inr (some 49))), some (.inl p)]) (st' := [.inl 3, .inl (m 3 ((am_s p).toNat))]) (m' := m) (fun fx hfx o hk => ?_) ?_
    · refine r_ld (pc' := 19) hM_145 d_145_18 rfl rfl ?_
      refine r_gR (pc' := 22) (v := 2) hM_145 d_145_19 rfl (by decide +kernel) ?_
      refine r_gR (pc' := 25) (v := 3) hM_145 d_145_22 rfl (by decide +kernel) ?_
      refine r_ld (pc' := 26) hM_145 d_145_25 rfl rfl ?_
      refine r_ia (pc' := 27) (n := 12) hM_145 d_145_26 rfl rfl hz2 ?_
      refine r_k (pc' := 28) (v := .inl 3) hM_145 d_145_27 rfl rfl ?_
      exact hk
    refine ok_ic (pc' := 34) (pc2 := 31) hM_145 d_145_28 (by decide) rfl (fun hz3 => ?_) (fun hz3 => ?_)
    · have H := H.1 hz3
      refine ok_sg (pc' := 40) (ls' := [some (.inr (.inr (some 49))), some (.inl p)]) (st' := [.inl 8, .inl (m 49 4)]) (m' := m) (fun fx hfx o hk => ?_) ?_
      · refine r_ld (pc' := 35) hM_145 d_145_34 rfl rfl ?_
        refine r_gI (pc' := 38) (k0 := 4) hM_145 d_145_35 rfl (by decide +kernel) ?_
        refine r_k (pc' := 40) (v := .inl 8) hM_145 d_145_38 rfl rfl ?_
        exact hk
      refine ok_ic (pc' := 45) (pc2 := 43) hM_145 d_145_40 (by decide) rfl (fun hz4 => ?_) (fun hz4 => ?_)
      · have H := H.1 hz4
        obtain ⟨hz5, H⟩ := H
        obtain ⟨hz6, H⟩ := H
        refine ok_sg (pc' := 7) (ls' := [some (.inr (.inr (some 49))), some (.inl (p + 1))]) (st' := []) (m' := mu (mu (mu m 50 ((am_s (m 49 4)).toNat) p) 51 ((am_s (m 49 4)).toNat) ((if nv (vw (mu m 50 ((am_s (m 49 4)).toNat) p) 2) (8 + p.toNat) = 3 then 0 else tn (nv (vw (mu m 50 ((am_s (m 49 4)).toNat) p) 2)) p.toNat (decide (nv (vw (mu m 50 ((am_s (m 49 4)).toNat) p) 2) (8 + p.toNat) = 1))))) 49 4 ((m 49 4) + 1)) (fun fx hfx o hk => ?_) ?_
        · refine r_ld (pc' := 46) hM_145 d_145_45 rfl rfl ?_
          refine r_gR (pc' := 49) (v := 50) hM_145 d_145_46 rfl (by decide +kernel) ?_
          refine r_ld (pc' := 50) hM_145 d_145_49 rfl rfl ?_
          refine r_gI (pc' := 53) (k0 := 4) hM_145 d_145_50 rfl (by decide +kernel) ?_
          refine r_ld (pc' := 54) hM_145 d_145_53 rfl rfl ?_
          refine r_is (pc' := 55) (n := 8) hM_145 d_145_54 rfl rfl hz5 ?_
          refine r_ld (pc' := 56) hM_145 d_145_55 rfl rfl ?_
          refine r_gR (pc' := 59) (v := 51) hM_145 d_145_56 rfl (by decide +kernel) ?_
          refine r_ld (pc' := 60) hM_145 d_145_59 rfl rfl ?_
          refine r_gIe (pc' := 63) (k0 := 4) (z := (m 49 4)) hM_145 d_145_60 rfl (by decide +kernel) (mu_r (by decide)) ?_
          refine r_ld (pc' := 64) hM_145 d_145_63 rfl rfl ?_
          refine r_gR (pc' := 67) (v := 2) hM_145 d_145_64 rfl (by decide +kernel) ?_
          refine r_ld (pc' := 68) hM_145 d_145_67 rfl rfl ?_
          refine r_cl (pc' := 71) (c := (67, 0)) (a := [.inr (.inr (some 2)), .inl p]) (q := [.inl (m 49 4), .inr (.inr (some 51))]) hM_145 d_145_68 rfl (by decide +kernel) hM_67 rfl rfl rfl (Nat.le_of_ble_eq_true rfl) (Nat.le_of_ble_eq_true rfl) (Or.inr rfl) (n_67 (by decide) (mu m 50 ((am_s (m 49 4)).toNat) p) p hz6) (Nat.le_of_ble_eq_true rfl) ?_
          show rn fx 3 (0, 0) 145 71 [some (.inr (.inr (some 49))), some (.inl p)] [.inl ((if nv (vw (mu m 50 ((am_s (m 49 4)).toNat) p) 2) (8 + p.toNat) = 3 then 0 else tn (nv (vw (mu m 50 ((am_s (m 49 4)).toNat) p) 2)) p.toNat (decide (nv (vw (mu m 50 ((am_s (m 49 4)).toNat) p) 2) (8 + p.toNat) = 1)))), .inl (m 49 4), .inr (.inr (some 51))] (st0 (mu m 50 ((am_s (m 49 4)).toNat) p)) o
          refine r_is (pc' := 72) (n := 8) hM_145 d_145_71 rfl rfl hz5 ?_
          refine r_ld (pc' := 73) hM_145 d_145_72 rfl rfl ?_
          refine r_stk (pc' := 74) (st' := [.inr (.inr (some 49)), .inr (.inr (some 49))]) hM_145 d_145_73 rfl rfl ?_
          refine r_gIe (pc' := 77) (k0 := 4) (z := (m 49 4)) hM_145 d_145_74 rfl (by decide +kernel) ((mu_r (by decide)).trans (mu_r (by decide))) ?_
          refine r_k (pc' := 78) (v := .inl 1) hM_145 d_145_77 rfl rfl ?_
          refine r_b (pc' := 79) (z := ((m 49 4) + 1)) hM_145 d_145_78 rfl rfl ?_
          refine r_pI (pc' := 82) (k0 := 4) hM_145 d_145_79 rfl (by decide +kernel) ?_
          refine r_sto (pc' := 85) (ls' := [some (.inr (.inr (some 49))), some (.inl (p + 1))]) hM_145 d_145_82 rfl rfl ?_
          refine r_go (pc' := 7) hM_145 d_145_85 (by decide) ?_
          exact hk
        exact H
      · have H := H.2 hz4
        refine ok_sg (pc' := 44) (ls' := [some (.inr (.inr (some 49))), some (.inl p)]) (st' := [.inl 0]) (m' := m) (fun fx hfx o hk => ?_) ?_
        · refine r_k (pc' := 44) (v := .inl 0) hM_145 d_145_43 rfl rfl ?_
          exact hk
        exact ok_rt (fun fx _ => rt_z hM_145 d_145_44 rfl (by decide)) H
    · have H := H.2 (Decidable.not_not.mp hz3)
      refine ok_sg (pc' := 7) (ls' := [some (.inr (.inr (some 49))), some (.inl (p + 1))]) (st' := []) (m' := m) (fun fx hfx o hk => ?_) ?_
      · refine r_go (pc' := 82) hM_145 d_145_31 (by decide) ?_
        refine r_sto (pc' := 85) (ls' := [some (.inr (.inr (some 49))), some (.inl (p + 1))]) hM_145 d_145_82 rfl rfl ?_
        refine r_go (pc' := 7) hM_145 d_145_85 (by decide) ?_
        exact hk
      exact H
theorem u_145_0 {Q : List am_V → am_M → Prop} {m : am_M}   (H : ok 3 145 7 [some (.inr (.inr (some 49))), some (.inl 0)] [] (mu m 49 4 0) Q) : ok 3 145 0 [some (.inr (.inr (some 49))), none] [] m Q := by
  refine ok_sg (pc' := 7) (ls' := [some (.inr (.inr (some 49))), some (.inl 0)]) (st' := []) (m' := mu m 49 4 0) (fun fx hfx o hk => ?_) ?_
  · refine r_ld (pc' := 1) hM_145 d_145_0 rfl rfl ?_
    refine r_k (pc' := 2) (v := .inl 0) hM_145 d_145_1 rfl rfl ?_
    refine r_pI (pc' := 5) (k0 := 4) hM_145 d_145_2 rfl (by decide +kernel) ?_
    refine r_k (pc' := 6) (v := .inl 0) hM_145 d_145_5 rfl rfl ?_
    refine r_sto (pc' := 7) (ls' := [some (.inr (.inr (some 49))), some (.inl 0)]) hM_145 d_145_6 rfl rfl ?_
    exact hk
  exact H
theorem z_145   (m : am_M)  (hq : WFG (vw m 2)) : ok 3 145 0 (am_ent 2 [.inr (.inr (some 49))]) [] m (fun rr m' => rr = [.inl ((if BN (nv (vw m 2)) ≤ 8 then 1 else 0))] ∧ (BN (nv (vw m 2)) ≤ 8 → LYD m') ∧ ∀ a k, a ≠ 50 → a ≠ 51 → ¬ (a = 49 ∧ k = 4) → m' a k = m a k) := by
  show ok 3 145 0 [some (.inr (.inr (some 49))), none] [] m _
  have hN := vwN hq
  have hwn := WFG_nv hq
  obtain ⟨N, hNv⟩ : ∃ N : Nat, m 2 4 = (N : Int) := ⟨(m 2 4).toNat, by omega⟩
  have eg0 : (nv (vw m 2) 0).toNat = N := by rw [nv0, vw_0, hNv, Int.toNat_natCast]
  have eN : am_s (m 2 4) = (N : Int) := by rw [hNv]; exact am_s_id (by omega) (by omega)
  have hBN : BN (nv (vw m 2)) = cf (ngp (nv (vw m 2))) N := by unfold BN; rw [eg0]
  refine u_145_0 ?_
  refine ok_for (σ := Unit) (fun p _ => [some (.inr (.inr (some 49))), some (.inl (p : Int))]) (fun p _ M => cf (ngp (nv (vw m 2))) p ≤ 8 ∧ M 49 4 = ((cf (ngp (nv (vw m 2))) p : Nat) : Int) ∧ (∀ q, q < p → ngp (nv (vw m 2)) q = true → M 50 (cf (ngp (nv (vw m 2))) q) = (q : Int) ∧ M 51 (cf (ngp (nv (vw m 2))) q) = tno (nv (vw m 2)) q) ∧ ∀ a k, a ≠ 50 → a ≠ 51 → ¬ (a = 49 ∧ k = 4) → M a k = m a k) N ?_ ?_ () _ ⟨Nat.zero_le _, mu_same, fun q h => absurd h (Nat.not_lt_zero _), fun a k _ _ h => mu_o h⟩
  · rintro p hp - M ⟨h0, h1, h2, h3⟩ IH
    have e3 : M 3 p = nv (vw m 2) (8 + p) := by
      rw [h3 3 p (by omega) (by omega) (by omega)]
      exact (nvK (s := 2) (by omega) (by omega)).symm
    have hk := hwn.2.1 p (by omega)
    have hst := cf_s (Q := ngp (nv (vw m 2))) (t := p)
    refine u_145_7 ?_
    rw [h3 2 4 (by omega) (by omega) (by omega), eN, am_s_id (z := (p : Int)) (by omega) (by omega), Int.toNat_natCast, e3, am_s_id (z := nv (vw m 2) (8 + p)) (by omega) (by omega), h1, am_s_id (z := ((cf (ngp (nv (vw m 2))) p : Nat) : Int)) (by omega) (by omega), Int.toNat_natCast]
    have fv : vw (mu M 50 (cf (ngp (nv (vw m 2))) p) (p : Int)) 2 = vw m 2 := vw_same fun a k q1 q2 => by rw [mu_r (by omega), h3 a k (by omega) (by omega) (by omega)]
    rw [fv, mu_r (show (2 : Nat) ≠ 50 by decide), h3 2 4 (by omega) (by omega) (by omega)]
    refine ⟨fun q => by omega, fun _ => ⟨by omega, fun q => ⟨fun q2 => ⟨by omega, ⟨hq, by omega, by omega⟩, ?_⟩, fun q2 => ?_⟩, fun q => ?_⟩⟩
    · have hng : ngp (nv (vw m 2)) p = true := decide_eq_true q
      rw [if_pos hng] at hst
      rw [if_neg q]
      refine IH () _ ⟨by omega, by rw [mu_same, hst]; rfl, fun x hx hxn => ?_, fun a k q1 q2 q3 => by rw [mu_o q3, mu_r q2, mu_r q1]; exact h3 a k q1 q2 q3⟩
      rw [mu_r (show (50 : Nat) ≠ 49 by decide), mu_r (show (50 : Nat) ≠ 51 by decide), mu_r (show (51 : Nat) ≠ 49 by decide), mu_if, mu_if, mu_r (show (51 : Nat) ≠ 50 by decide)]
      by_cases hh : x = p
      · rw [hh, if_pos rfl, if_pos rfl]
        exact ⟨rfl, rfl⟩
      · have := cf_lt (Q := ngp (nv (vw m 2))) (show x < p by omega) hxn
        rw [if_neg (by omega), if_neg (by omega)]
        exact h2 x (by omega) hxn
    · have hng : ngp (nv (vw m 2)) p = true := decide_eq_true q
      rw [if_pos hng] at hst
      have hm := cf_mono (Q := ngp (nv (vw m 2))) (show p + 1 ≤ N by omega)
      refine ⟨by rw [if_neg (by omega)], fun q3 => by omega, h3⟩
    · have hng : ¬ ngp (nv (vw m 2)) p = true := fun k => of_decide_eq_true k q
      rw [if_neg hng] at hst
      refine IH () M ⟨by omega, by rw [hst]; exact h1, fun x hx hxn => ?_, h3⟩
      by_cases hh : x = p
      · rw [hh] at hxn; exact absurd hxn hng
      · exact h2 x (by omega) hxn
  · rintro - M ⟨h0, h1, h2, h3⟩
    refine u_145_7 ?_
    rw [h3 2 4 (by omega) (by omega) (by omega), eN, am_s_id (z := (N : Int)) (by omega) (by omega)]
    have fv : vw M 2 = vw m 2 := vw_same fun a k q1 q2 => h3 a k (by omega) (by omega) (by omega)
    refine ⟨fun _ => ⟨by rw [if_pos (by omega)], fun _ => ?_, h3⟩, fun q => by omega⟩
    unfold LYD
    rw [fv]
    refine ⟨hq, by omega, by rw [h1, hBN], fun j hj => ?_⟩
    obtain ⟨s1, s2, s3⟩ := spx_ok hj
    have := h2 (spx (nv (vw m 2)) j) (by omega) s2
    rw [s3] at this
    exact this
