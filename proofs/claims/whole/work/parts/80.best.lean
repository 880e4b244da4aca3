/-- the sum over a set -/
def SU (c : Nat → Int) (S : Nat) : Nat → Int
  | 0 => 0
  | p + 1 => SU c S p + if S.testBit p = true then c p else 0
theorem SU_s {c : Nat → Int} {S p : Nat} : SU c S (p + 1) = SU c S p + if S.testBit p = true then c p else 0 := rfl
theorem SU_congr {c c' : Nat → Int} {S : Nat} : ∀ n, (∀ p, p < n → S.testBit p = true → c p = c' p) → SU c S n = SU c' S n := by
  intro n
  induction n with
  | zero => intro _; rfl
  | succ n ih =>
    intro h
    rw [SU_s, SU_s, ih fun p hp => h p (by omega)]
    by_cases hb : S.testBit n = true
    · rw [if_pos hb, if_pos hb, h n (by omega) hb]
    · rw [if_neg hb, if_neg hb]
theorem SU_hi {c : Nat → Int} {S N : Nat} (h : ∀ p, N ≤ p → S.testBit p = false) : ∀ n, N ≤ n → SU c S n = SU c S N := by
  intro n
  induction n with
  | zero => intro hn; have : N = 0 := by omega
            rw [this]
  | succ n ih =>
    intro hn
    by_cases hh : N = n + 1
    · rw [hh]
    · rw [SU_s, ih (by omega), h n (by omega), if_neg (by decide), Int.add_zero]
theorem SU_rng {c : Nat → Int} {S : Nat} : ∀ n, (∀ p, p < n → S.testBit p = true → 0 ≤ c p ∧ c p ≤ 1000) → 0 ≤ SU c S n ∧ SU c S n ≤ 1000 * (n : Int) := by
  intro n
  induction n with
  | zero => intro _; exact ⟨Int.le_refl _, Int.le_refl _⟩
  | succ n ih =>
    intro h
    have h1 := ih fun p hp => h p (by omega)
    rw [SU_s]
    by_cases hb : S.testBit n = true
    · have := h n (by omega) hb
      rw [if_pos hb]
      omega
    · rw [if_neg hb]
      omega
theorem SU_t {c : Nat → Int} {t : Int} {S : Nat} : ∀ n, SU (fun p => c p - t) S n = SU c S n - t * ((cnt S n : Nat) : Int) := by
  intro n
  induction n with
  | zero => show (0 : Int) = 0 - t * 0; rw [Int.mul_zero]; rfl
  | succ n ih =>
    rw [SU_s, SU_s, ih, cnt_s]
    by_cases hb : S.testBit n = true
    · rw [if_pos hb, if_pos hb, if_pos hb, Int.natCast_add, Int.mul_add]
      show _ = _ - (_ + t * 1)
      rw [Int.mul_one]
      omega
    · rw [if_neg hb, if_neg hb, if_neg hb, Nat.add_zero]
      omega
theorem SU_1 {S : Nat} : ∀ n, SU (fun _ => 1) S n = ((cnt S n : Nat) : Int) := by
  intro n
  induction n with
  | zero => rfl
  | succ n ih =>
    rw [SU_s, ih, cnt_s]
    by_cases hb : S.testBit n = true
    · rw [if_pos hb, if_pos hb]; rfl
    · rw [if_neg hb, if_neg hb]; rfl
theorem SU_mono {a : Nat → Int} {S G : Nat} : ∀ n, (∀ p, p < n → (if G.testBit p = true then a p else 0) ≤ (if S.testBit p = true then a p else 0)) → SU a G n ≤ SU a S n := by
  intro n
  induction n with
  | zero => intro _; exact Int.le_refl _
  | succ n ih =>
    intro h
    have h1 := ih fun p hp => h p (by omega)
    have h2 := h n (by omega)
    rw [SU_s, SU_s]
    omega
theorem SU_same {a : Nat → Int} {S G : Nat} : ∀ n, (∀ p, p < n → (if G.testBit p = true then a p else 0) ≤ (if S.testBit p = true then a p else 0)) → SU a S n ≤ SU a G n → ∀ p, p < n → (if G.testBit p = true then a p else 0) = (if S.testBit p = true then a p else 0) := by
  intro n
  induction n with
  | zero => intro _ _ p hp; exact absurd hp (Nat.not_lt_zero _)
  | succ n ih =>
    intro h hs p hp
    have h1 := SU_mono n fun p hp => h p (by omega)
    have h2 := h n (by omega)
    rw [SU_s, SU_s] at hs
    by_cases hh : p = n
    · rw [hh]; omega
    · exact ih (fun p hp => h p (by omega)) (by omega) p (by omega)
theorem tb12 {S i : Nat} (h : S < 4096) (hi : 12 ≤ i) : S.testBit i = false := Nat.testBit_lt_two_pow (Nat.lt_of_lt_of_le h (Nat.pow_le_pow_right (by decide : 0 < 2) hi))
/-- a set within another with as many is that one -/
theorem sub_eq {S G : Nat} (hG : G < 4096) (h : sb G S) (hc : cnt G 12 ≤ cnt S 12) : S = G := by
  have hS := sub_le h
  have key := SU_same (a := fun _ => 1) (S := G) (G := S) 12 (fun p _ => by
    cases hs : S.testBit p
    · rw [if_neg (by decide)]
      split <;> decide
    · rw [if_pos rfl, nat_sub.mp h p hs, if_pos rfl]
      decide) (by rw [SU_1, SU_1]; omega)
  apply Nat.eq_of_testBit_eq
  intro i
  by_cases hi : i < 12
  · have := key i hi
    cases hs : S.testBit i <;> cases hg : G.testBit i
    · rfl
    · rw [hs, hg] at this; exact absurd this (by decide)
    · rw [hs, hg] at this; exact absurd this (by decide)
    · rfl
  · rw [tb12 (by omega) (by omega), tb12 hG (by omega)]
theorem cnt_mono {S G : Nat} (h : sb G S) : cnt S 12 ≤ cnt G 12 := by
  have := SU_mono (a := fun _ => 1) (S := G) (G := S) 12 (fun p _ => by
    cases hs : S.testBit p
    · rw [if_neg (by decide)]
      split <;> decide
    · rw [if_pos rfl, nat_sub.mp h p hs, if_pos rfl]
      decide)
  rw [SU_1, SU_1] at this
  omega
/-- sets that differ so that the higher ones are on one side -/
theorem top_le {S G k : Nat} (hG : G < 4096) (hc : cnt S 12 = cnt G 12) (h1 : ∀ p, G.testBit p = true → S.testBit p = false → p < k) (h2 : ∀ p, S.testBit p = true → G.testBit p = false → k ≤ p) : G ≤ S := by
  have hd : sb (S / 2 ^ k) (G / 2 ^ k) := by
    unfold sb
    rw [nat_sub]
    intro i hi
    rw [Nat.testBit_div_two_pow] at hi ⊢
    cases hs : S.testBit (i + k)
    · have := h1 _ hi hs
      omega
    · rfl
  have hle := sub_le hd
  by_cases he : G / 2 ^ k = S / 2 ^ k
  · have : sb G S := by
      unfold sb
      rw [nat_sub]
      intro i hi
      cases hg : G.testBit i
      · have hk := h2 i hi hg
        have := Nat.testBit_div_two_pow (n := k) S (i - k)
        rw [← he, Nat.testBit_div_two_pow, show i - k + k = i by omega, hi, hg] at this
        exact this
      · rfl
    rw [sub_eq hG this (by omega)]
    exact Nat.le_refl _
  · have hlt : G / 2 ^ k < S / 2 ^ k := by omega
    have : G < S := by
      rcases Nat.lt_or_ge G S with h | h
      · exact h
      · have := Nat.div_le_div_right (c := 2 ^ k) h
        omega
    omega
/-- no worse: more, or as many with less, or these with the lower number -/
def NW (c : Nat → Int) (G S : Nat) : Prop := cnt S 12 < cnt G 12 ∨ (cnt S 12 = cnt G 12 ∧ (SU c G 12 < SU c S 12 ∨ (SU c G 12 = SU c S 12 ∧ G ≤ S)))
def RB (c : Nat → Int) (K : Nat) (W : Int) (G : Nat) : Prop := (sb K G ∧ SU c G 12 ≤ W) ∧ ∀ S, sb K S → SU c S 12 ≤ W → NW c G S
theorem RB_fun {c : Nat → Int} {K : Nat} {W : Int} {G G' : Nat} (h1 : RB c K W G) (h2 : RB c K W G') : G = G' := by
  have a := h1.2 G' h2.1.1 h2.1.2
  have b := h2.2 G h1.1.1 h1.1.2
  unfold NW at a b
  omega
theorem RB_all {c : Nat → Int} {K : Nat} {W : Int} (hK : K < 4096) (h : SU c K 12 ≤ W) : RB c K W K := by
  refine ⟨⟨Nat.and_self K, h⟩, fun S hS _ => ?_⟩
  have hm := cnt_mono hS
  by_cases he : cnt S 12 = cnt K 12
  · have := sub_eq hK hS (by omega)
    rw [this]
    exact Or.inr ⟨rfl, Or.inr ⟨rfl, Nat.le_refl _⟩⟩
  · exact Or.inl (by omega)
theorem RB_greedy {c : Nat → Int} {K G k : Nat} {W t : Int} (hK : K < 4096) (hG : ∀ p, G.testBit p = true ↔ K.testBit p = true ∧ (c p < t ∨ (c p = t ∧ p < k))) (hW : SU c G 12 ≤ W) (hf : W < SU c G 12 + t) (ht : 0 ≤ t) : RB c K W G := by
  have hsb : sb K G := by
    unfold sb
    rw [nat_sub]
    exact fun i hi => ((hG i).mp hi).1
  have hGl := sub_le hsb
  refine ⟨⟨hsb, hW⟩, fun S hS hSW => ?_⟩
  have hterm : ∀ p, p < 12 → (if G.testBit p = true then c p - t else 0) ≤ (if S.testBit p = true then c p - t else 0) := by
    intro p _
    by_cases hg : G.testBit p = true
    · rw [if_pos hg]
      by_cases hs : S.testBit p = true
      · rw [if_pos hs]
        exact Int.le_refl _
      · rw [if_neg hs]
        have := ((hG p).mp hg).2
        omega
    · rw [if_neg hg]
      by_cases hs : S.testBit p = true
      · rw [if_pos hs]
        have hk := nat_sub.mp hS p hs
        have : ¬ (c p < t ∨ (c p = t ∧ p < k)) := fun q => hg ((hG p).mpr ⟨hk, q⟩)
        omega
      · rw [if_neg hs]
        exact Int.le_refl _
  have hmono := SU_mono (a := fun p => c p - t) 12 hterm
  rw [SU_t, SU_t] at hmono
  unfold NW
  rcases Nat.lt_trichotomy (cnt S 12) (cnt G 12) with q | q | q
  · exact Or.inl q
  · rw [q] at hmono
    refine Or.inr ⟨q, ?_⟩
    by_cases he : SU c G 12 = SU c S 12
    · refine Or.inr ⟨he, ?_⟩
      have hsame := SU_same (a := fun p => c p - t) 12 hterm (by rw [SU_t, SU_t, q]; omega)
      refine top_le (k := k) (by omega) q (fun p hg hs => ?_) (fun p hs hg => ?_)
      · have hp : p < 12 := by
          by_cases h : p < 12
          · exact h
          · rw [tb12 (by omega) (by omega)] at hg
            exact absurd hg (by decide)
        have := hsame p hp
        rw [hg, hs, if_pos rfl, if_neg (by decide)] at this
        have h2 := ((hG p).mp hg).2
        omega
      · have hp : p < 12 := by
          by_cases h : p < 12
          · exact h
          · have := sub_le hS
            rw [tb12 (by omega) (by omega)] at hs
            exact absurd hs (by decide)
        have := hsame p hp
        rw [hg, hs, if_pos rfl, if_neg (by decide)] at this
        have hk := nat_sub.mp hS p hs
        have : ¬ (c p < t ∨ (c p = t ∧ p < k)) := fun q => by
          rw [(hG p).mpr ⟨hk, q⟩] at hg
          exact absurd hg (by decide)
        omega
    · exact Or.inl (by omega)
  · exfalso
    have h1 : t * (((cnt G 12 : Nat) : Int) + 1) ≤ t * ((cnt S 12 : Nat) : Int) := Int.mul_le_mul_of_nonneg_left (by omega) ht
    rw [Int.mul_add, Int.mul_one] at h1
    omega
theorem dvn : ∀ a : Nat, a < 128 → ∀ b : Nat, b < 10 → b ≠ 0 → am_div (a : Int) (b : Int) = (a : Int) / (b : Int) := by decide +kernel
theorem dvi {a b : Int} (ha : 0 ≤ a ∧ a < 128) (hb : 1 ≤ b ∧ b < 10) : am_div a b = a / b := by
  obtain ⟨x, rfl⟩ : ∃ x : Nat, a = (x : Int) := ⟨a.toNat, by omega⟩
  obtain ⟨y, rfl⟩ : ∃ y : Nat, b = (y : Int) := ⟨b.toNat, by omega⟩
  exact dvn x (by omega) y (by omega) (by omega)
/-- how many turns a barrel wants to be ripe in time -/
def cR (g : Nat → Int) (d : Int) (p : Nat) : Int := if (100 - g (32 + p) + g (20 + p) - 1) / g (20 + p) ≤ d then 0 else (100 - g (32 + p) + g (20 + p) - 1) / g (20 + p) - d
theorem dv9 {r s : Int} (hr : 0 ≤ r ∧ r ≤ 100) (hs : 1 ≤ s ∧ s ≤ 9) : 0 ≤ (100 - r + s - 1) / s ∧ (100 - r + s - 1) / s ≤ 108 := by
  have hc : s = 1 ∨ s = 2 ∨ s = 3 ∨ s = 4 ∨ s = 5 ∨ s = 6 ∨ s = 7 ∨ s = 8 ∨ s = 9 := by omega
  rcases hc with rfl | rfl | rfl | rfl | rfl | rfl | rfl | rfl | rfl <;> omega
theorem cR_lack {r s d : Int} (hr : 0 ≤ r ∧ r ≤ 100) (hs : 1 ≤ s ∧ s ≤ 9) (hd : 1 ≤ d ∧ d ≤ 60) : (if 0 < 100 - r - d * s then am_div (100 - r - d * s + s - 1) s else 0) = (if (100 - r + s - 1) / s ≤ d then 0 else (100 - r + s - 1) / s - d) := by
  have hc : s = 1 ∨ s = 2 ∨ s = 3 ∨ s = 4 ∨ s = 5 ∨ s = 6 ∨ s = 7 ∨ s = 8 ∨ s = 9 := by omega
  by_cases h : 0 < 100 - r - d * s
  · have hds : 1 ≤ d * s := by rcases hc with rfl | rfl | rfl | rfl | rfl | rfl | rfl | rfl | rfl <;> omega
    rw [if_pos h, dvi (by omega) (by omega)]
    clear hds
    rcases hc with rfl | rfl | rfl | rfl | rfl | rfl | rfl | rfl | rfl <;> split <;> omega
  · rw [if_neg h]
    rcases hc with rfl | rfl | rfl | rfl | rfl | rfl | rfl | rfl | rfl <;> split <;> omega
theorem cR_rng {g : Nat → Int} {d : Int} {p : Nat} (hr : 0 ≤ g (32 + p) ∧ g (32 + p) ≤ 100) (hs : 1 ≤ g (20 + p) ∧ g (20 + p) ≤ 9) (hd : 1 ≤ d ∧ d ≤ 60) : 0 ≤ cR g d p ∧ cR g d p ≤ 108 := by
  have := dv9 hr hs
  unfold cR
  split <;> omega
/-- who can be ripe in time at all -/
def Kc (g : Nat → Int) (d : Int) (n : Nat) : Nat := msk (fun p => if g (8 + p) = 0 ∧ cR g d p ≤ d then 1 else 0) 1 n
theorem Kc_bit {g : Nat → Int} {d : Int} {n p : Nat} : (Kc g d n).testBit p = true ↔ p < n ∧ g (8 + p) = 0 ∧ cR g d p ≤ d := by
  unfold Kc
  rw [msk_bit, Bool.and_eq_true, decide_eq_true_eq, decide_eq_true_eq]
  by_cases h : g (8 + p) = 0 ∧ cR g d p ≤ d
  · rw [if_pos h]
    exact ⟨fun q => ⟨q.1, h⟩, fun q => ⟨q.1, rfl⟩⟩
  · rw [if_neg h]
    exact ⟨fun q => absurd q.2 (by decide), fun q => absurd q.2 h⟩
theorem Kc_lt {g : Nat → Int} {d : Int} {n : Nat} (hn : n ≤ 12) : Kc g d n < 4096 := by
  have h1 := msk_lt (fun p => if g (8 + p) = 0 ∧ cR g d p ≤ d then 1 else 0) 1 n
  have h2 : 2 ^ n ≤ 2 ^ 12 := Nat.pow_le_pow_right (by decide) hn
  unfold Kc
  omega
/-- those of a set that come ahead of a place in the order of turns -/
def Lm (c : Nat → Int) (K : Nat) (t : Int) (k : Nat) : Nat := msk (fun q => if K.testBit q = true ∧ (c q < t ∨ (c q = t ∧ q < k)) then 1 else 0) 1 12
theorem Lm_bit {c : Nat → Int} {K k p : Nat} {t : Int} (hK : K < 4096) : (Lm c K t k).testBit p = true ↔ K.testBit p = true ∧ (c p < t ∨ (c p = t ∧ p < k)) := by
  unfold Lm
  rw [msk_bit, Bool.and_eq_true, decide_eq_true_eq, decide_eq_true_eq]
  by_cases h : K.testBit p = true ∧ (c p < t ∨ (c p = t ∧ p < k))
  · rw [if_pos h]
    refine ⟨fun q => h, fun q => ⟨?_, rfl⟩⟩
    by_cases hp : p < 12
    · exact hp
    · have := h.1
      rw [tb12 hK (by omega)] at this
      exact absurd this (by decide)
  · rw [if_neg h]
    exact ⟨fun q => absurd q.2 (by decide), fun q => absurd q h⟩
theorem Lm_lt {c : Nat → Int} {K k : Nat} {t : Int} : Lm c K t k < 4096 := msk_lt _ _ 12
theorem Lm_ext {c : Nat → Int} {K k k' : Nat} {t t' : Int} (hK : K < 4096) (h : ∀ p, K.testBit p = true → ((c p < t ∨ (c p = t ∧ p < k)) ↔ (c p < t' ∨ (c p = t' ∧ p < k')))) : Lm c K t k = Lm c K t' k' := by
  apply Nat.eq_of_testBit_eq
  intro i
  apply Bool.eq_iff_iff.mpr
  rw [Lm_bit hK, Lm_bit hK]
  exact and_congr_right fun hi => h i hi
theorem SU_or {c : Nat → Int} {A p : Nat} (hp : A.testBit p = false) : ∀ n, SU c (A ||| 2 ^ p) n = SU c A n + if p < n then c p else 0 := by
  intro n
  induction n with
  | zero => rw [if_neg (Nat.not_lt_zero _)]; rfl
  | succ n ih =>
    rw [SU_s, SU_s, ih, Nat.testBit_or, Nat.testBit_two_pow]
    by_cases h : p = n
    · subst h
      rw [hp, decide_eq_true rfl, if_neg (Nat.lt_irrefl _), if_pos (Nat.lt_succ_self _), Bool.false_or, if_pos rfl, if_neg (by decide)]
    · rw [decide_eq_false h, Bool.or_false]
      by_cases h2 : p < n
      · rw [if_pos h2, if_pos (show p < n + 1 by omega)]
        omega
      · rw [if_neg h2, if_neg (show ¬ p < n + 1 by omega)]
        omega
