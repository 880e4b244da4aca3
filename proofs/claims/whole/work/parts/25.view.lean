theorem as_ite {c : Prop} [Decidable c] : am_s (if c then 1 else 0) = 0 ↔ ¬ c := by
  by_cases h : c
  · rw [if_pos h]; simp only [h, not_true_eq_false, iff_false]; decide
  · rw [if_neg h]; simp only [h, not_false_eq_true, iff_true]; decide
theorem as_ite0 {c : Prop} [Decidable c] : am_s (if c then 0 else 1) = 0 ↔ c := by
  by_cases h : c
  · rw [if_pos h]; simp only [h, iff_true]; decide
  · rw [if_neg h]; simp only [h, iff_false]; decide
theorem as_ite01 {c : Prop} [Decidable c] : am_s (if c then 1 else 0) = 0 ∨ am_s (if c then 1 else 0) = 1 := by
  by_cases h : c
  · rw [if_pos h]; right; decide
  · rw [if_neg h]; left; decide
theorem ite_n {c : Prop} [Decidable c] {a b : Int} : (if ¬ c then a else b) = (if c then b else a) := by
  by_cases h : c
  · rw [if_pos h, if_neg (not_not_intro h)]
  · rw [if_neg h, if_pos h]
theorem am_t_s (p : Int) : am_t (am_s p) = am_s p := by
  have := am_s_rng p
  exact am_t_id (by omega) (by omega)
theorem am_s_s (p : Int) : am_s (am_s p) = am_s p := by
  have := am_s_rng p
  exact am_s_id (by omega) (by omega)
theorem am_s_add (a p : Int) : am_s (a + p) = am_s (a + am_s p) := by
  unfold am_s
  rw [Int32.ofInt_add, Int32.ofInt_add, Int32.ofInt_toInt]
theorem nn_iff {c : Prop} [Decidable c] : ¬ ¬ c ↔ c := Decidable.not_not
/-! a stretch of one cell written anew -/
def fil (m : am_M) (a lo n : Nat) (f : Nat → Int) : am_M := fun r k => if r = a ∧ lo ≤ k ∧ k < lo + n then f (k - lo) else m r k
theorem fil_0 {m : am_M} {a lo : Nat} {f : Nat → Int} : fil m a lo 0 f = m := by
  funext r k
  unfold fil
  rw [if_neg (by omega)]
theorem fil_st {m : am_M} {a lo n : Nat} {f : Nat → Int} {z : Int} (hz : f n = z) : mu (fil m a lo n f) a (lo + n) z = fil m a lo (n + 1) f := by
  funext r k
  unfold mu fil
  by_cases h : r = a ∧ k = lo + n
  · rw [if_pos h, if_pos (by omega), ← hz]
    congr 1
    omega
  · rw [if_neg h]
    by_cases h2 : r = a ∧ lo ≤ k ∧ k < lo + n
    · rw [if_pos h2, if_pos (by omega)]
    · rw [if_neg h2, if_neg (by omega)]
theorem fil_st0 {m : am_M} {a n : Nat} {f : Nat → Int} {z : Int} (hz : f n = z) : mu (fil m a 0 n f) a n z = fil m a 0 (n + 1) f := by
  have := fil_st (m := m) (a := a) (lo := 0) hz
  rw [Nat.zero_add] at this
  exact this
theorem fil_r {m : am_M} {a lo n r k : Nat} {f : Nat → Int} (h : r ≠ a) : fil m a lo n f r k = m r k := by
  unfold fil
  rw [if_neg (fun q => h q.1)]
theorem fil_k {m : am_M} {a lo n r k : Nat} {f : Nat → Int} (h : k < lo ∨ lo + n ≤ k) : fil m a lo n f r k = m r k := by
  unfold fil
  rw [if_neg (by omega)]
theorem fil_in {m : am_M} {a lo n k : Nat} {f : Nat → Int} (h1 : lo ≤ k) (h2 : k < lo + n) : fil m a lo n f a k = f (k - lo) := by
  unfold fil
  rw [if_pos ⟨rfl, h1, h2⟩]
theorem fil_in0 {m : am_M} {a n k : Nat} {f : Nat → Int} (h2 : k < n) : fil m a 0 n f a k = f k := by
  unfold fil
  rw [if_pos ⟨rfl, by omega, by omega⟩, Nat.sub_zero]
/-! THE VIEW of a state: 56 numbers; what stands at places beyond the last reads as 0 -/
def nv (g : Nat → Int) : Nat → Int := fun k => if k < 8 ∨ (k < 56 ∧ (((k - 8) % 12 : Nat) : Int) < g 0) then g k else 0
theorem nv_lo {g : Nat → Int} {k : Nat} (h : k < 8) : nv g k = g k := by
  unfold nv
  rw [if_pos (Or.inl h)]
theorem nv_pl {g : Nat → Int} {c p : Nat} (hc : c = 8 ∨ c = 20 ∨ c = 32 ∨ c = 44) (hp : p < 12) (h : (p : Int) < g 0) : nv g (c + p) = g (c + p) := by
  unfold nv
  have : (c + p - 8) % 12 = p := by omega
  rw [if_pos (Or.inr ⟨by omega, by rw [this]; exact h⟩)]
theorem nv_out {g : Nat → Int} {c p : Nat} (hc : c = 8 ∨ c = 20 ∨ c = 32 ∨ c = 44) (hp : p < 12) (h : g 0 ≤ (p : Int)) : nv g (c + p) = 0 := by
  unfold nv
  have : (c + p - 8) % 12 = p := by omega
  rw [if_neg (by rw [this]; omega)]
theorem nv_nv (g : Nat → Int) : nv (nv g) = nv g := by
  funext k
  by_cases h : k < 8 ∨ (k < 56 ∧ (((k - 8) % 12 : Nat) : Int) < g 0)
  · have h2 : k < 8 ∨ (k < 56 ∧ (((k - 8) % 12 : Nat) : Int) < nv g 0) := by
      rw [nv_lo (by omega)]
      exact h
    show (if k < 8 ∨ (k < 56 ∧ (((k - 8) % 12 : Nat) : Int) < nv g 0) then nv g k else 0) = nv g k
    rw [if_pos h2]
  · have h2 : ¬ (k < 8 ∨ (k < 56 ∧ (((k - 8) % 12 : Nat) : Int) < nv g 0)) := by
      rw [nv_lo (by omega)]
      exact h
    show (if k < 8 ∨ (k < 56 ∧ (((k - 8) % 12 : Nat) : Int) < nv g 0) then nv g k else 0) = nv g k
    rw [if_neg h2]
    unfold nv
    rw [if_neg h]
/-- two views are one: their heads agree and their places -/
theorem nv_eq {g g' : Nat → Int} (h0 : ∀ k, k < 8 → g k = g' k) (h1 : ∀ p : Nat, p < 12 → (p : Int) < g 0 → g (8 + p) = g' (8 + p) ∧ g (20 + p) = g' (20 + p) ∧ g (32 + p) = g' (32 + p) ∧ g (44 + p) = g' (44 + p)) : nv g = nv g' := by
  funext k
  unfold nv
  rw [← h0 0 (by decide)]
  by_cases h : k < 8 ∨ (k < 56 ∧ (((k - 8) % 12 : Nat) : Int) < g 0)
  · rw [if_pos h, if_pos h]
    by_cases h8 : k < 8
    · exact h0 k h8
    · have hp := h1 ((k - 8) % 12) (by omega) (by omega)
      have hc : (k - 8) / 12 = 0 ∨ (k - 8) / 12 = 1 ∨ (k - 8) / 12 = 2 ∨ (k - 8) / 12 = 3 := by omega
      rcases hc with hc | hc | hc | hc
      · rw [show 8 + (k - 8) % 12 = k by omega] at hp; exact hp.1
      · rw [show 20 + (k - 8) % 12 = k by omega] at hp; exact hp.2.1
      · rw [show 32 + (k - 8) % 12 = k by omega] at hp; exact hp.2.2.1
      · rw [show 44 + (k - 8) % 12 = k by omega] at hp; exact hp.2.2.2
  · rw [if_neg h, if_neg h]
/-- the numbers of a state within their bounds -/
def WFG (g : Nat → Int) : Prop := (0 ≤ g 0 ∧ g 0 ≤ 12) ∧ (∀ p, p < 12 → 0 ≤ g (8 + p) ∧ g (8 + p) ≤ 3) ∧ (∀ p, p < 12 → 0 ≤ g (20 + p) ∧ g (20 + p) ≤ 9) ∧ (∀ p, p < 12 → 0 ≤ g (32 + p) ∧ g (32 + p) ≤ 100) ∧ (∀ p, p < 12 → 0 ≤ g (44 + p) ∧ g (44 + p) ≤ 99) ∧ (1 ≤ g 2 ∧ g 2 ≤ 40) ∧ (0 ≤ g 3 ∧ g 3 ≤ 20) ∧ (1 ≤ g 4 ∧ g 4 ≤ 12) ∧ (1 ≤ g 5 ∧ g 5 ≤ 6) ∧ (0 ≤ g 6 ∧ g 6 ≤ 9) ∧ (0 ≤ g 7 ∧ g 7 ≤ 900) ∧ (0 ≤ g 1 ∧ g 1 ≤ 20000)
theorem WFG_nv {g : Nat → Int} (h : WFG g) : WFG (nv g) := by
  obtain ⟨h0, h1, h2, h3, h4, h5⟩ := h
  have e : ∀ k, k < 8 → nv g k = g k := fun k hk => nv_lo hk
  have q : ∀ c b : Nat, c = 8 ∨ c = 20 ∨ c = 32 ∨ c = 44 → (∀ p, p < 12 → 0 ≤ g (c + p) ∧ g (c + p) ≤ b) → ∀ p, p < 12 → 0 ≤ nv g (c + p) ∧ nv g (c + p) ≤ b := by
    intro c b hc h p hp
    have := h p hp
    by_cases hl : (p : Int) < g 0
    · rw [nv_pl hc hp hl]; exact this
    · rw [nv_out hc hp (by omega)]; omega
  refine ⟨?_, q 8 3 (by omega) h1, q 20 9 (by omega) h2, q 32 100 (by omega) h3, q 44 99 (by omega) h4, ?_⟩
  · rw [e 0 (by decide)]; exact h0
  · rw [e 1 (by decide), e 2 (by decide), e 3 (by decide), e 4 (by decide), e 5 (by decide), e 6 (by decide), e 7 (by decide)]; exact h5
/-- barrels have salt -/
def SLT (g : Nat → Int) : Prop := ∀ p : Nat, p < 12 → (p : Int) < g 0 → g (8 + p) ≠ 3 → 1 ≤ g (20 + p)
theorem SLT_nv {g : Nat → Int} (h : SLT g) : SLT (nv g) := by
  intro p hp hl hk
  rw [nv_lo (by decide)] at hl
  rw [nv_pl (by omega) hp hl] at hk ⊢
  exact h p hp hl hk
/-- the view of the shelf at cell s -/
def vw (m : am_M) (s : Nat) : Nat → Int := fun k => if k < 8 then m s (if k = 0 then 4 else if k = 1 then 11 else 3 + k) else if k < 20 then m (s + 1) (k - 8) else if k < 32 then m (s + 2) (k - 20) else if k < 44 then m (s + 3) (k - 32) else m (s + 4) (k - 44)
theorem vw_0 {m : am_M} {s : Nat} : vw m s 0 = m s 4 := rfl
theorem vw_1 {m : am_M} {s : Nat} : vw m s 1 = m s 11 := rfl
theorem vw_2 {m : am_M} {s : Nat} : vw m s 2 = m s 5 := rfl
theorem vw_3 {m : am_M} {s : Nat} : vw m s 3 = m s 6 := rfl
theorem vw_4 {m : am_M} {s : Nat} : vw m s 4 = m s 7 := rfl
theorem vw_5 {m : am_M} {s : Nat} : vw m s 5 = m s 8 := rfl
theorem vw_6 {m : am_M} {s : Nat} : vw m s 6 = m s 9 := rfl
theorem vw_7 {m : am_M} {s : Nat} : vw m s 7 = m s 10 := rfl
theorem vw_K {m : am_M} {s p : Nat} (h : p < 12) : vw m s (8 + p) = m (s + 1) p := by
  unfold vw
  rw [if_neg (by omega), if_pos (by omega), show 8 + p - 8 = p by omega]
theorem vw_S {m : am_M} {s p : Nat} (h : p < 12) : vw m s (20 + p) = m (s + 2) p := by
  unfold vw
  rw [if_neg (by omega), if_neg (by omega), if_pos (by omega), show 20 + p - 20 = p by omega]
theorem vw_R {m : am_M} {s p : Nat} (h : p < 12) : vw m s (32 + p) = m (s + 3) p := by
  unfold vw
  rw [if_neg (by omega), if_neg (by omega), if_neg (by omega), if_pos (by omega), show 32 + p - 32 = p by omega]
theorem vw_I {m : am_M} {s p : Nat} : vw m s (44 + p) = m (s + 4) p := by
  unfold vw
  rw [if_neg (by omega), if_neg (by omega), if_neg (by omega), if_neg (by omega), show 44 + p - 44 = p by omega]
theorem WFS_vw {m : am_M} {s : Nat} : WFS m s ↔ WFG (vw m s) := by
  constructor
  · rintro ⟨h0, h1, h2, h3, h4, h5⟩
    refine ⟨h0, fun p hp => ?_, fun p hp => ?_, fun p hp => ?_, fun p hp => ?_, h5⟩
    · rw [vw_K hp]; exact h1 p hp
    · rw [vw_S hp]; exact h2 p hp
    · rw [vw_R hp]; exact h3 p hp
    · rw [vw_I]; exact h4 p hp
  · rintro ⟨h0, h1, h2, h3, h4, h5⟩
    refine ⟨h0, fun p hp => ?_, fun p hp => ?_, fun p hp => ?_, fun p hp => ?_, h5⟩
    · have := h1 p hp; rw [vw_K hp] at this; exact this
    · have := h2 p hp; rw [vw_S hp] at this; exact this
    · have := h3 p hp; rw [vw_R hp] at this; exact this
    · have := h4 p hp; rw [vw_I] at this; exact this
theorem msk_congr {k k' : Nat → Int} {w : Int} : ∀ n, (∀ p, p < n → k p = k' p) → msk k w n = msk k' w n := by
  intro n
  induction n with
  | zero => intro _; rfl
  | succ n ih =>
    intro h
    unfold msk
    rw [ih (fun p hp => h p (by omega)), h n (by omega)]
theorem msk_s {k : Nat → Int} {w : Int} {n : Nat} : msk k w (n + 1) = if k n = w then msk k w n + 2 ^ n else msk k w n := rfl
theorem sm_s {f : Nat → Int} {n : Nat} : sm f (n + 1) = sm f n + f n := rfl
theorem fil_rf {m : am_M} {a lo n r : Nat} {f : Nat → Int} (h : r ≠ a) : fil m a lo n f r = m r := by
  funext k
  exact fil_r h
theorem mu_rf {m : am_M} {a k r : Nat} {z : Int} (h : r ≠ a) : mu m a k z r = m r := by
  funext j
  exact mu_r h
/-- the places of a kind, as bits -/
def ons (g : Nat → Int) (w : Int) : Nat := msk (fun p => g (8 + p)) w (g 0).toNat
theorem ons_nv {g : Nat → Int} {w : Int} (h : g 0 ≤ 12) : ons (nv g) w = ons g w := by
  unfold ons
  rw [nv_lo (by decide)]
  exact msk_congr _ fun p hp => nv_pl (by omega) (by omega) (by omega)
theorem ons_bit {g : Nat → Int} {w : Int} {i : Nat} : (ons g w).testBit i = (decide ((i : Int) < g 0) && decide (g (8 + i) = w)) := by
  unfold ons
  rw [msk_bit]
  congr 1
  apply decide_eq_decide.mpr
  omega
theorem ons_lt {g : Nat → Int} {w : Int} (h : g 0 ≤ 12) : ons g w < 4096 := by
  have h1 := msk_lt (fun p => g (8 + p)) w (g 0).toNat
  have h2 : 2 ^ (g 0).toNat ≤ 2 ^ 12 := Nat.pow_le_pow_right (by decide) (by omega)
  unfold ons
  omega
/-- how many of the first n bits are set -/
def cnt (B : Nat) : Nat → Nat
  | 0 => 0
  | n + 1 => cnt B n + (if B.testBit n = true then 1 else 0)
theorem cnt_s {B n : Nat} : cnt B (n + 1) = cnt B n + (if B.testBit n = true then 1 else 0) := rfl
theorem cnt_le (B : Nat) : ∀ n, cnt B n ≤ n := by
  intro n
  induction n with
  | zero => simp [cnt]
  | succ n ih => unfold cnt; split <;> omega
/-- how many neighbours of place i are in the set -/
def bsd (B i : Nat) : Int := (if 0 < i ∧ B.testBit (i - 1) = true then 1 else 0) + (if B.testBit (i + 1) = true then 1 else 0)
theorem bsd_nb {B i : Nat} : 0 < bsd B i ↔ nb B i = true := by
  unfold bsd nb
  cases h1 : B.testBit (i + 1) <;> cases h2 : B.testBit (i - 1) <;> by_cases h3 : 0 < i <;> simp [h3]
theorem bsd_rng (B i : Nat) : 0 ≤ bsd B i ∧ bsd B i ≤ 2 := by
  unfold bsd
  split <;> split <;> omega
/-- the tone of a barrel -/
def tn (g : Nat → Int) (p : Nat) (bad : Bool) : Int := if g (8 + p) = 2 then 20 else 120 - g (32 + p) / 2 + g (20 + p) - (if bad = true then g 2 else 0)
/-- what is heard at a place, if just a set is bad -/
def hrd (g : Nat → Int) (p B : Nat) : Int := (tn g p (B.testBit p) - g 3 * bsd B p + bsd (ons g 3) p) / (g 6 + 1)
theorem hrd_nv {g : Nat → Int} {p B : Nat} (h : g 0 ≤ 12) (hp : (p : Int) < g 0) : hrd (nv g) p B = hrd g p B := by
  unfold hrd tn
  rw [ons_nv h, nv_lo (k := 2) (by decide), nv_lo (k := 3) (by decide), nv_lo (k := 6) (by decide), nv_pl (c := 8) (by omega) (by omega) hp, nv_pl (c := 20) (by omega) (by omega) hp, nv_pl (c := 32) (by omega) (by omega) hp]
theorem tn_nv {g : Nat → Int} {p : Nat} {b : Bool} (h : g 0 ≤ 12) (hp : (p : Int) < g 0) : tn (nv g) p b = tn g p b := by
  unfold tn
  rw [nv_lo (k := 2) (by decide), nv_pl (c := 8) (by omega) (by omega) hp, nv_pl (c := 20) (by omega) (by omega) hp, nv_pl (c := 32) (by omega) (by omega) hp]
theorem tn_rng {g : Nat → Int} {p : Nat} {b : Bool} (h : WFG g) (hp : p < 12) : 20 ≤ tn g p b ∧ tn g p b ≤ 129 := by
  obtain ⟨h0, h1, h2, h3, h4, h5, -⟩ := h
  have := h2 p hp
  have := h3 p hp
  unfold tn
  split
  · omega
  · split <;> omega
theorem hrd_rng {g : Nat → Int} {p B : Nat} (h : WFG g) (hp : p < 12) : -20 ≤ hrd g p B ∧ hrd g p B ≤ 131 := by
  have ht := tn_rng (b := B.testBit p) h hp
  have hb := bsd_rng B p
  have hb2 := bsd_rng (ons g 3) p
  obtain ⟨h0, h1, h2, h3, h4, h5, h6, h7, h8, h9, -⟩ := h
  unfold hrd
  generalize tn g p (B.testBit p) = t at ht ⊢
  generalize bsd B p = x at hb ⊢
  generalize bsd (ons g 3) p = y at hb2 ⊢
  have hx : 0 ≤ g 3 * x ∧ g 3 * x ≤ 40 := by
    constructor
    · exact Int.mul_nonneg (by omega) (by omega)
    · have h1 : g 3 * x ≤ 20 * x := Int.mul_le_mul_of_nonneg_right (by omega) (by omega)
      omega
  generalize g 3 * x = u at hx ⊢
  have hd : 1 ≤ g 6 + 1 ∧ g 6 + 1 ≤ 10 := by omega
  generalize g 6 + 1 = e at hd ⊢
  have hc : e = 1 ∨ e = 2 ∨ e = 3 ∨ e = 4 ∨ e = 5 ∨ e = 6 ∨ e = 7 ∨ e = 8 ∨ e = 9 ∨ e = 10 := by omega
  rcases hc with rfl | rfl | rfl | rfl | rfl | rfl | rfl | rfl | rfl | rfl <;> omega
