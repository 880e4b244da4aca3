/-! SETS within a set, the least first -/
abbrev sb (F t : Nat) : Prop := t &&& F = t
/-- what comes of a walk over the numbers below a bound that are wanted -/
def fr {σ : Type} (st : σ → Nat → σ) (Q : Nat → Bool) (x : σ) : Nat → σ
  | 0 => x
  | t + 1 => if Q t = true then st (fr st Q x t) t else fr st Q x t
theorem fr_s {σ : Type} {st : σ → Nat → σ} {Q : Nat → Bool} {x : σ} {t : Nat} : fr st Q x (t + 1) = if Q t = true then st (fr st Q x t) t else fr st Q x t := rfl
theorem fr_skip {σ : Type} {st : σ → Nat → σ} {Q : Nat → Bool} {x : σ} {a : Nat} : ∀ b, a ≤ b → (∀ u, a ≤ u → u < b → ¬ Q u = true) → fr st Q x b = fr st Q x a := by
  intro b
  induction b with
  | zero =>
    intro h _
    have : a = 0 := by omega
    rw [this]
  | succ b ih =>
    intro h hq
    by_cases hab : a = b + 1
    · rw [hab]
    · rw [fr_s, if_neg (hq b (by omega) (by omega))]
      exact ih (by omega) fun u h1 h2 => hq u h1 (by omega)
theorem fr_congr {σ : Type} {st st' : σ → Nat → σ} {Q Q' : Nat → Bool} {x : σ} : ∀ b, (∀ t, t < b → Q t = Q' t) → (∀ t y, t < b → Q t = true → st y t = st' y t) → fr st Q x b = fr st' Q' x b := by
  intro b
  induction b with
  | zero => intro _ _; rfl
  | succ b ih =>
    intro h1 h2
    rw [fr_s, fr_s, ih (fun t ht => h1 t (by omega)) (fun t y ht => h2 t y (by omega)), ← h1 b (by omega)]
    split
    · rename_i hq
      exact h2 b _ (by omega) hq
    · rfl
def cf (Q : Nat → Bool) : Nat → Nat
  | 0 => 0
  | t + 1 => cf Q t + if Q t = true then 1 else 0
theorem cf_s {Q : Nat → Bool} {t : Nat} : cf Q (t + 1) = cf Q t + if Q t = true then 1 else 0 := rfl
theorem cf_add {Q : Nat → Bool} {a : Nat} : ∀ b, cf Q (a + b) = cf Q a + cf (fun u => Q (a + u)) b := by
  intro b
  induction b with
  | zero => rfl
  | succ b ih => rw [← Nat.add_assoc, cf_s, ih, cf_s]; omega
theorem cf_congr {Q Q' : Nat → Bool} : ∀ b, (∀ t, t < b → Q t = Q' t) → cf Q b = cf Q' b := by
  intro b
  induction b with
  | zero => intro _; rfl
  | succ b ih => intro h; rw [cf_s, cf_s, ih fun t ht => h t (by omega), h b (by omega)]
theorem cf_none {Q : Nat → Bool} : ∀ b, (∀ t, t < b → ¬ Q t = true) → cf Q b = 0 := by
  intro b
  induction b with
  | zero => intro _; rfl
  | succ b ih => intro h; rw [cf_s, ih fun t ht => h t (by omega), if_neg (h b (by omega))]
theorem cf_fr {Q : Nat → Bool} : ∀ b, cf Q b = fr (fun (c : Nat) _ => c + 1) Q 0 b := by
  intro b
  induction b with
  | zero => rfl
  | succ b ih =>
    rw [cf_s, fr_s, ih]
    split <;> omega
theorem cf_mono {Q : Nat → Bool} {a b : Nat} (h : a ≤ b) : cf Q a ≤ cf Q b := by
  obtain ⟨c, rfl⟩ : ∃ c, b = a + c := ⟨b - a, by omega⟩
  rw [cf_add]
  omega
theorem and_m2 (a b : Nat) : (a &&& b) % 2 = if a % 2 = 1 ∧ b % 2 = 1 then 1 else 0 := by
  have h := Nat.and_mod_two_pow (a := a) (b := b) (n := 1)
  rw [show 2 ^ 1 = 2 from rfl] at h
  rw [h]
  have h1 : a % 2 = 0 ∨ a % 2 = 1 := by omega
  have h2 : b % 2 = 0 ∨ b % 2 = 1 := by omega
  rcases h1 with h1 | h1 <;> rcases h2 with h2 | h2 <;> rw [h1, h2] <;> decide
theorem and_d2 (a b : Nat) : (a &&& b) / 2 = (a / 2) &&& (b / 2) := Nat.and_div_two
theorem sb_2 {F t : Nat} : sb F t ↔ sb (F / 2) (t / 2) ∧ (t % 2 = 1 → F % 2 = 1) := by
  unfold sb
  have h1 := and_d2 t F
  have h2 := and_m2 t F
  constructor
  · intro h
    rw [h] at h1 h2
    refine ⟨h1.symm, fun ht => ?_⟩
    rw [ht] at h2
    split at h2
    · rename_i hc; exact hc.2
    · omega
  · intro ⟨h3, h4⟩
    rw [h3] at h1
    by_cases ht : t % 2 = 1
    · rw [if_pos ⟨ht, h4 ht⟩] at h2
      omega
    · rw [if_neg (fun q => ht q.1)] at h2
      omega
def nxn (n F s : Nat) : Nat := (s + 2 ^ n - F) &&& F
theorem and_fill : ∀ n F s, F < 2 ^ n → sb F s → (s + (2 ^ n - 1 - F)) &&& F = s := by
  intro n
  induction n with
  | zero =>
    intro F s hF hs
    have : F = 0 := by rw [Nat.pow_zero] at hF; omega
    subst this
    unfold sb at hs
    rw [Nat.and_zero] at hs ⊢
    exact hs
  | succ n ih =>
    intro F s hF hs
    obtain ⟨h1, h2⟩ := sb_2.mp hs
    rw [Nat.pow_succ] at hF ⊢
    have hi := ih (F / 2) (s / 2) (by omega) h1
    have hd := and_d2 (s + (2 ^ n * 2 - 1 - F)) F
    have hm := and_m2 (s + (2 ^ n * 2 - 1 - F)) F
    by_cases hf : F % 2 = 1
    · have e : (s + (2 ^ n * 2 - 1 - F)) / 2 = s / 2 + (2 ^ n - 1 - F / 2) := by omega
      rw [e, hi] at hd
      by_cases ht : s % 2 = 1
      · rw [if_pos (by omega)] at hm
        omega
      · rw [if_neg (by omega)] at hm
        omega
    · have hs0 : s % 2 = 0 := by
        by_cases ht : s % 2 = 1
        · exact absurd (h2 ht) hf
        · omega
      have e : (s + (2 ^ n * 2 - 1 - F)) / 2 = s / 2 + (2 ^ n - 1 - F / 2) := by omega
      rw [e, hi] at hd
      rw [if_neg (fun q => hf q.2)] at hm
      omega
theorem nx_min : ∀ n F s t, F < 2 ^ n → sb F s → sb F t → s < t → s < nxn n F s ∧ nxn n F s ≤ t := by
  intro n
  induction n with
  | zero =>
    intro F s t hF _ ht hst
    have : F = 0 := by rw [Nat.pow_zero] at hF; omega
    subst this
    unfold sb at ht
    rw [Nat.and_zero] at ht
    omega
  | succ n ih =>
    intro F s t hF hs ht hst
    have hle := sub_le hs
    obtain ⟨h1, h2⟩ := sb_2.mp hs
    obtain ⟨h3, h4⟩ := sb_2.mp ht
    unfold nxn
    rw [Nat.pow_succ] at hF ⊢
    have hle2 := sub_le h1
    have hd := and_d2 (s + 2 ^ n * 2 - F) F
    have hm := and_m2 (s + 2 ^ n * 2 - F) F
    by_cases hf : F % 2 = 1 ∧ s % 2 = 0
    · have e : (s + 2 ^ n * 2 - F) / 2 = s / 2 + (2 ^ n - 1 - F / 2) := by omega
      rw [e, and_fill n (F / 2) (s / 2) (by omega) h1] at hd
      rw [if_pos (by omega)] at hm
      omega
    · have e : (s + 2 ^ n * 2 - F) / 2 = s / 2 + 2 ^ n - F / 2 := by omega
      have hst2 : s / 2 < t / 2 := by
        by_cases hq : s % 2 = 1
        · omega
        · have : ¬ F % 2 = 1 := fun q => hf ⟨q, by omega⟩
          have : ¬ t % 2 = 1 := fun q => this (h4 q)
          omega
      obtain ⟨i1, i2⟩ := ih (F / 2) (s / 2) (t / 2) (by omega) h1 h3 hst2
      unfold nxn at i1 i2
      rw [e] at hd
      rw [if_neg (by omega)] at hm
      omega
def nx (F s : Nat) : Nat := (s + 4096 - F) &&& F
theorem nx_sb {F s : Nat} : sb F (nx F s) := by
  unfold sb nx
  rw [Nat.and_assoc, Nat.and_self]
theorem am_nx {F s : Nat} (hF : F < 4096) : am_and ((s : Int) - (F : Int)) (F : Int) = ((nx F s : Nat) : Int) := by
  have hlt : nx F s < 4096 := Nat.lt_of_le_of_lt Nat.and_le_right hF
  have h : Int32.ofInt ((s : Int) - (F : Int)) &&& nI F = nI (nx F s) := by
    apply Int32.toBitVec_inj.mp
    show BitVec.ofInt 32 ((s : Int) - (F : Int)) &&& BitVec.ofNat 32 F = BitVec.ofNat 32 (nx F s)
    apply BitVec.eq_of_getLsbD_eq
    intro i hi
    rw [BitVec.getLsbD_and, BitVec.getLsbD_ofNat, BitVec.getLsbD_ofNat]
    unfold nx
    rw [Nat.testBit_and]
    by_cases hb : F.testBit i = true
    · have hi12 : i < 12 := by
        by_cases h : i < 12
        · exact h
        · rw [Nat.testBit_lt_two_pow (Nat.lt_of_lt_of_le hF (Nat.pow_le_pow_right (by decide : 0 < 2) (by omega : 12 ≤ i)))] at hb
          exact absurd hb (by decide)
      have e1 : (BitVec.ofInt 32 ((s : Int) - (F : Int))).getLsbD i = (s + 4096 - F).testBit i := by
        rw [← BitVec.testBit_toNat, BitVec.toNat_ofInt]
        have e2 : ((((s : Int) - (F : Int)) % ((2 ^ 32 : Nat) : Int)).toNat) % 2 ^ 12 = (s + 4096 - F) % 2 ^ 12 := by omega
        have t1 := Nat.testBit_mod_two_pow ((((s : Int) - (F : Int)) % ((2 ^ 32 : Nat) : Int)).toNat) 12 i
        have t2 := Nat.testBit_mod_two_pow (s + 4096 - F) 12 i
        rw [e2, t2] at t1
        simp only [hi12, decide_true, Bool.true_and] at t1
        exact t1.symm
      rw [e1, hb]
      simp [hi]
    · have hb : F.testBit i = false := by
        cases h : F.testBit i
        · rfl
        · exact absurd h hb
      rw [hb]
      simp
  rw [am_and, bx_ofN, h]
  exact bx_toI (by omega)
theorem tb_add {s p : Nat} (h : s < 2 ^ p) (i : Nat) : (2 ^ p + s).testBit i = (decide (i = p) || s.testBit i) := by
  have e : 2 ^ p + s = 2 ^ p * 1 ||| s := by
    have := Nat.two_pow_add_eq_or_of_lt (i := p) h 1
    omega
  rw [e, Nat.mul_one, Nat.testBit_or, Nat.testBit_two_pow]
  by_cases hi : p = i
  · subst hi; simp
  · have : ¬ i = p := fun q => hi q.symm
    simp [hi, this]
def sbq (F : Nat) : Nat → Bool := fun t => decide (sb F t)
theorem rk_pow (F : Nat) : ∀ n, cf (sbq F) (2 ^ n) = 2 ^ cnt F n := by
  intro n
  induction n with
  | zero =>
    show cf (sbq F) 1 = 1
    rw [cf_s]
    have : sbq F 0 = true := by
      unfold sbq sb
      rw [Nat.zero_and]
      rfl
    rw [if_pos this]
    rfl
  | succ n ih =>
    rw [Nat.pow_succ, Nat.mul_two, cf_add, ih, cnt_s]
    by_cases hb : F.testBit n = true
    · rw [if_pos hb, Nat.pow_succ, Nat.mul_two, cf_congr (Q' := sbq F) _ fun t ht => ?_, ih]
      unfold sbq
      apply decide_eq_decide.mpr
      unfold sb
      rw [nat_sub, nat_sub]
      constructor
      · intro h i hi
        exact h i (by rw [tb_add ht, hi, Bool.or_true])
      · intro h i hi
        rw [tb_add ht] at hi
        by_cases hin : i = n
        · rw [hin]; exact hb
        · rw [decide_eq_false hin, Bool.false_or] at hi
          exact h i hi
    · rw [if_neg hb, Nat.add_zero, cf_none, Nat.add_zero]
      intro t ht hq
      unfold sbq sb at hq
      have := nat_sub.mp (of_decide_eq_true hq) n (by rw [tb_add ht]; simp)
      exact hb this
theorem rk_all {F : Nat} (hF : F < 4096) : cf (sbq F) (F + 1) = 2 ^ cnt F 12 := by
  rw [← rk_pow F 12, cf_fr, cf_fr]
  refine (fr_skip _ (by omega) fun u h1 h2 hq => ?_).symm
  have := sub_le (of_decide_eq_true (p := sb F u) hq)
  omega
/-- the sets within F one after the other -/
def en (F : Nat) : Nat → Nat
  | 0 => 0
  | i + 1 => nx F (en F i)
theorem en_s {F i : Nat} : en F (i + 1) = nx F (en F i) := rfl
theorem rk_F {F : Nat} (hF : F < 4096) : cf (sbq F) F + 1 = 2 ^ cnt F 12 := by
  rw [← rk_all hF, cf_s, if_pos (by unfold sbq sb; rw [Nat.and_self]; exact decide_eq_true rfl)]
theorem en_ok {F : Nat} (hF : F < 4096) : ∀ i, i < 2 ^ cnt F 12 → sb F (en F i) ∧ cf (sbq F) (en F i) = i := by
  intro i
  induction i with
  | zero => intro _; exact ⟨Nat.zero_and F, rfl⟩
  | succ i ih =>
    intro hi
    obtain ⟨h1, h2⟩ := ih (by omega)
    have hle := sub_le h1
    have hne : en F i ≠ F := by
      intro q
      have := rk_F hF
      rw [q] at h2
      omega
    obtain ⟨h3, h4⟩ := nx_min 12 F (en F i) F hF h1 (Nat.and_self F) (by omega)
    rw [en_s]
    refine ⟨nx_sb, ?_⟩
    have e : cf (sbq F) (nx F (en F i)) = cf (sbq F) (en F i + 1) := by
      rw [cf_fr, cf_fr]
      refine fr_skip _ h3 fun u g1 g2 hq => ?_
      have := (nx_min 12 F (en F i) u hF h1 (of_decide_eq_true (p := sb F u) hq) (by omega)).2
      have e : nxn 12 F (en F i) = nx F (en F i) := rfl
      omega
    rw [e, cf_s, if_pos (show sbq F (en F i) = true from decide_eq_true h1), h2]
def bd (F i : Nat) : Nat := if i < 2 ^ cnt F 12 then en F i else F + 1
theorem bd_0 {F : Nat} : bd F 0 = 0 := by
  unfold bd
  rw [if_pos (Nat.two_pow_pos _)]
  rfl
theorem bd_end {F : Nat} : bd F (2 ^ cnt F 12) = F + 1 := by
  unfold bd
  rw [if_neg (by omega)]
/-- a walk over the sets within F, set by set -/
theorem fr_bd {σ : Type} {st : σ → Nat → σ} {Q : Nat → Bool} {x : σ} {F i : Nat} (hF : F < 4096) (hQ : ∀ t, Q t = true → sb F t) (hi : i < 2 ^ cnt F 12) : fr st Q x (bd F (i + 1)) = if Q (en F i) = true then st (fr st Q x (bd F i)) (en F i) else fr st Q x (bd F i) := by
  obtain ⟨h1, h2⟩ := en_ok hF i hi
  have e1 : bd F i = en F i := by
    unfold bd
    rw [if_pos hi]
  rw [e1, ← fr_s]
  have hle := sub_le h1
  by_cases hl : i + 1 < 2 ^ cnt F 12
  · have e2 : bd F (i + 1) = nx F (en F i) := by
      unfold bd
      rw [if_pos hl]
      rfl
    have hne : en F i ≠ F := by
      intro q
      have := rk_F hF
      rw [q] at h2
      omega
    obtain ⟨h3, h4⟩ := nx_min 12 F (en F i) F hF h1 (Nat.and_self F) (by omega)
    rw [e2]
    refine fr_skip _ h3 fun u g1 g2 hq => ?_
    have := (nx_min 12 F (en F i) u hF h1 (hQ u hq) (by omega)).2
    have e : nxn 12 F (en F i) = nx F (en F i) := rfl
    omega
  · have e2 : bd F (i + 1) = F + 1 := by
      unfold bd
      rw [if_neg hl]
    have he : en F i = F := by
      by_cases q : en F i = F
      · exact q
      · have h3 := cf_mono (Q := sbq F) (show en F i + 1 ≤ F by omega)
        rw [cf_s, if_pos (show sbq F (en F i) = true from decide_eq_true h1), h2] at h3
        have := rk_F hF
        omega
    rw [e2, he]
/-- all sets within F, set by set: what comes of it -/
theorem fr_all {σ : Type} {st : σ → Nat → σ} {Q : Nat → Bool} {x : σ} {F : Nat} (hF : F < 4096) (hQ : ∀ t, Q t = true → sb F t) : ∀ b, F < b → fr st Q x b = fr st Q x (F + 1) := by
  intro b hb
  refine fr_skip _ hb fun u g1 g2 hq => ?_
  have := sub_le (hQ u hq)
  omega
