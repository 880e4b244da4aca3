theorem cf_imp {A B : Nat → Bool} : ∀ b, (∀ t, t < b → A t = true → B t = true) → cf A b ≤ cf B b := by
  intro b
  induction b with
  | zero => intro _; exact Nat.le_refl _
  | succ b ih =>
    intro h
    have h1 := ih fun t ht => h t (by omega)
    rw [cf_s, cf_s]
    by_cases hA : A b = true
    · rw [if_pos hA, if_pos (h b (by omega) hA)]
      omega
    · rw [if_neg hA]
      omega
theorem cf_one {k : Nat} {c : Bool} : ∀ b, cf (fun j => decide (j = k) && c) b = if k < b ∧ c = true then 1 else 0 := by
  intro b
  induction b with
  | zero => rw [if_neg (fun q => absurd q.1 (Nat.not_lt_zero _))]; rfl
  | succ b ih =>
    rw [cf_s, ih]
    cases c
    · rw [if_neg (fun q => absurd q.2 (by decide)), if_neg (by rw [Bool.and_false]; decide), if_neg (fun q => absurd q.2 (by decide))]
    · by_cases h : b = k
      · subst h
        rw [if_neg (fun q => absurd q.1 (Nat.lt_irrefl _)), if_pos (by rw [decide_eq_true rfl]; rfl), if_pos ⟨Nat.lt_succ_self _, rfl⟩]
      · have e : ¬ (decide (b = k) && true) = true := by rw [decide_eq_false h]; decide
        rw [if_neg e]
        by_cases h2 : k < b
        · rw [if_pos (show k < b ∧ true = true from ⟨h2, rfl⟩), if_pos (show k < b + 1 ∧ true = true from ⟨by omega, rfl⟩)]
        · rw [if_neg (show ¬ (k < b ∧ true = true) from fun q => h2 q.1), if_neg (show ¬ (k < b + 1 ∧ true = true) from fun q => by omega)]
/-! ORDERS: how many can be met is the least of: who is ripe by then, and who wants later -/
def cT (S : Nat → Bool) (r : Nat → Int) (N T : Nat) (x : Int) : Nat := cf (fun p => S p && !T.testBit p && decide (r p ≤ x)) N
def uK (w : Nat → Int) (n k : Nat) (x : Int) : Nat := cf (fun j => decide (k ≤ j) && decide (x < w j)) n
theorem cT_mono {S : Nat → Bool} {r : Nat → Int} {N T : Nat} {x y : Int} (h : x ≤ y) : cT S r N T x ≤ cT S r N T y := by
  refine cf_imp N fun t _ ht => ?_
  rw [Bool.and_eq_true, decide_eq_true_eq] at ht ⊢
  exact ⟨ht.1, by omega⟩
theorem cT_m1 {S : Nat → Bool} {r : Nat → Int} {N T : Nat} (h : ∀ p, p < N → S p = true → 0 ≤ r p) : cT S r N T (-1) = 0 := by
  refine cf_none N fun t ht hq => ?_
  rw [Bool.and_eq_true, Bool.and_eq_true, decide_eq_true_eq] at hq
  have := h t ht hq.1.1
  omega
theorem uK_n {w : Nat → Int} {n : Nat} {x : Int} : uK w n n x = 0 := by
  refine cf_none n fun t ht hq => ?_
  rw [Bool.and_eq_true, decide_eq_true_eq] at hq
  omega
theorem uK_le {w : Nat → Int} {n k : Nat} {x : Int} : uK w n k x ≤ n := cf_le n
theorem uK_mono {w : Nat → Int} {n k : Nat} {x y : Int} (h : x ≤ y) : uK w n k y ≤ uK w n k x := by
  refine cf_imp n fun t _ ht => ?_
  rw [Bool.and_eq_true, decide_eq_true_eq, decide_eq_true_eq] at ht ⊢
  exact ⟨ht.1, by omega⟩
theorem uK_s {w : Nat → Int} {n k : Nat} {x : Int} (hk : k < n) : uK w n k x = uK w n (k + 1) x + if x < w k then 1 else 0 := by
  unfold uK
  have h1 : cf (fun j => decide (k ≤ j) && decide (x < w j)) n = cf (fun j => (decide (k + 1 ≤ j) && decide (x < w j)) || (decide (j = k) && decide (x < w k))) n := by
    refine cf_congr n fun t _ => ?_
    by_cases h : t = k
    · subst h
      rw [decide_eq_true (Nat.le_refl t), decide_eq_false (show ¬ t + 1 ≤ t by omega), decide_eq_true (show t = t from rfl), Bool.true_and, Bool.false_and, Bool.false_or]
    · rw [decide_eq_false h, Bool.false_and, Bool.or_false]
      congr 1
      exact decide_eq_decide.mpr (by omega)
  rw [h1, cf_or, cf_one]
  · by_cases h : x < w k
    · rw [if_pos (show k < n ∧ decide (x < w k) = true from ⟨hk, decide_eq_true h⟩), if_pos h]
    · rw [if_neg (show ¬ (k < n ∧ decide (x < w k) = true) from fun q => h (of_decide_eq_true q.2)), if_neg h]
  · intro t h
    rw [Bool.and_eq_true, Bool.and_eq_true, decide_eq_true_eq, decide_eq_true_eq, decide_eq_true_eq, decide_eq_true_eq] at h
    omega
theorem cT_or {S : Nat → Bool} {r : Nat → Int} {N T p : Nat} {x : Int} (hp : p < N) (hs : S p = true) (ht : T.testBit p = false) : cT S r N (T ||| 2 ^ p) x + (if r p ≤ x then 1 else 0) = cT S r N T x := by
  unfold cT
  have h1 : cf (fun q => S q && !T.testBit q && decide (r q ≤ x)) N = cf (fun q => (S q && !(T ||| 2 ^ p).testBit q && decide (r q ≤ x)) || (decide (q = p) && decide (r p ≤ x))) N := by
    refine cf_congr N fun q _ => ?_
    rw [Nat.testBit_or, Nat.testBit_two_pow]
    by_cases h : q = p
    · subst h
      rw [hs, ht, decide_eq_true rfl]
      cases decide (r q ≤ x) <;> rfl
    · rw [decide_eq_false (show ¬ p = q from fun k => h k.symm), decide_eq_false h, Bool.or_false, Bool.false_and, Bool.or_false]
  rw [h1, cf_or, cf_one]
  · by_cases h : r p ≤ x
    · rw [if_pos (show p < N ∧ decide (r p ≤ x) = true from ⟨hp, decide_eq_true h⟩), if_pos h]
    · rw [if_neg (show ¬ (p < N ∧ decide (r p ≤ x) = true) from fun q => h (of_decide_eq_true q.2)), if_neg h]
  · intro q h
    rw [Bool.and_eq_true, Bool.and_eq_true, Bool.and_eq_true, decide_eq_true_eq, Nat.testBit_or, Nat.testBit_two_pow] at h
    obtain ⟨⟨⟨a1, a2⟩, a3⟩, a4, a5⟩ := h
    rw [decide_eq_true (of_decide_eq_true a4).symm, Bool.or_true] at a2
    exact absurd a2 (by decide)
def IM (S : Nat → Bool) (r : Nat → Int) (N : Nat) (w : Nat → Int) (n k T h : Nat) : Prop := (∀ x : Int, -1 ≤ x → h ≤ cT S r N T x + uK w n k x) ∧ ∃ x : Int, -1 ≤ x ∧ cT S r N T x + uK w n k x = h
section
variable {S : Nat → Bool} {r : Nat → Int} {N : Nat} {w : Nat → Int} {n k T h : Nat}
theorem IM_fun {h' : Nat} (h1 : IM S r N w n k T h) (h2 : IM S r N w n k T h') : h = h' := by
  obtain ⟨x, x1, x2⟩ := h1.2
  obtain ⟨y, y1, y2⟩ := h2.2
  have := h1.1 y y1
  have := h2.1 x x1
  omega
theorem ex_min (f : Int → Nat) : ∀ b, ∀ y, -1 ≤ y → f y ≤ b → ∃ x, -1 ≤ x ∧ ∀ z, -1 ≤ z → f x ≤ f z := by
  intro b
  induction b with
  | zero => intro y h1 h2; exact ⟨y, h1, fun z _ => by omega⟩
  | succ b ih =>
    intro y h1 h2
    by_cases hh : ∃ z, -1 ≤ z ∧ f z ≤ b
    · obtain ⟨z, z1, z2⟩ := hh
      exact ih z z1 z2
    · refine ⟨y, h1, fun z hz => ?_⟩
      by_cases hz2 : f z ≤ b
      · exact absurd ⟨z, hz, hz2⟩ hh
      · omega
theorem IM_ex (S : Nat → Bool) (r : Nat → Int) (N : Nat) (w : Nat → Int) (n k T : Nat) : ∃ h, IM S r N w n k T h := by
  obtain ⟨x, x1, x2⟩ := ex_min (fun x => cT S r N T x + uK w n k x) _ (-1) (Int.le_refl _) (Nat.le_refl _)
  exact ⟨_, x2, x, x1, rfl⟩
theorem IM_n (hr : ∀ p, p < N → S p = true → 0 ≤ r p) : IM S r N w n n T 0 := ⟨fun _ _ => Nat.zero_le _, -1, Int.le_refl _, by rw [uK_n, cT_m1 hr]⟩
theorem IM_le (hr : ∀ p, p < N → S p = true → 0 ≤ r p) (h1 : IM S r N w n k T h) : h ≤ n := by
  have := h1.1 (-1) (Int.le_refl _)
  have h2 := uK_le (w := w) (n := n) (k := k) (x := -1)
  rw [cT_m1 hr] at this
  omega
theorem IM_lb (hk : k < n) (h1 : IM S r N w n (k + 1) T h) : ∀ x : Int, -1 ≤ x → h ≤ cT S r N T x + uK w n k x := by
  intro x hx
  have := h1.1 x hx
  rw [uK_s hk]
  omega
theorem IM_lb2 {p : Nat} (hk : k < n) (hp : p < N) (hs : S p = true) (ht : T.testBit p = false) (hw : r p ≤ w k) (h1 : IM S r N w n (k + 1) (T ||| 2 ^ p) h) : ∀ x : Int, -1 ≤ x → h + 1 ≤ cT S r N T x + uK w n k x := by
  intro x hx
  have h2 := h1.1 x hx
  have h3 := cT_or (r := r) (x := x) hp hs ht
  rw [uK_s hk]
  by_cases hc : r p ≤ x
  · rw [if_pos hc] at h3
    omega
  · rw [if_neg hc] at h3
    rw [if_pos (by omega)]
    omega
theorem ex_max (P : Nat → Prop) (r : Nat → Int) : ∀ N, (∀ p, p < N → ¬ P p) ∨ ∃ p, p < N ∧ P p ∧ ∀ q, q < N → P q → r q ≤ r p := by
  intro N
  induction N with
  | zero => exact Or.inl fun p hp => absurd hp (Nat.not_lt_zero _)
  | succ N ih =>
    by_cases hN : P N
    · right
      rcases ih with h | ⟨p, p1, p2, p3⟩
      · refine ⟨N, by omega, hN, fun q hq hP => ?_⟩
        by_cases hh : q = N
        · rw [hh]; exact Int.le_refl _
        · exact absurd hP (h q (by omega))
      · by_cases hc : r p ≤ r N
        · refine ⟨N, by omega, hN, fun q hq hP => ?_⟩
          by_cases hh : q = N
          · rw [hh]; exact Int.le_refl _
          · have := p3 q (by omega) hP
            omega
        · refine ⟨p, by omega, p2, fun q hq hP => ?_⟩
          by_cases hh : q = N
          · rw [hh]; omega
          · exact p3 q (by omega) hP
    · rcases ih with h | ⟨p, p1, p2, p3⟩
      · left
        intro p hp
        by_cases hh : p = N
        · rw [hh]; exact hN
        · exact h p (by omega)
      · right
        refine ⟨p, by omega, p2, fun q hq hP => ?_⟩
        by_cases hh : q = N
        · rw [hh] at hP; exact absurd hP hN
        · exact p3 q (by omega) hP
/-- without an order no more is met, or a barrel is found with which it is -/
theorem IM_core (hk : k < n) (hw : 0 ≤ w k) (h1 : IM S r N w n (k + 1) T h) : (∃ x : Int, -1 ≤ x ∧ cT S r N T x + uK w n k x = h) ∨ ((∃ x : Int, -1 ≤ x ∧ cT S r N T x + uK w n k x = h + 1) ∧ ∃ p, p < N ∧ S p = true ∧ T.testBit p = false ∧ r p ≤ w k ∧ ∀ h', IM S r N w n (k + 1) (T ||| 2 ^ p) h' → h ≤ h') := by
  by_cases hx : ∃ x : Int, -1 ≤ x ∧ cT S r N T x + uK w n (k + 1) x = h ∧ ¬ x < w k
  · obtain ⟨x, x1, x2, x3⟩ := hx
    left
    refine ⟨x, x1, ?_⟩
    rw [uK_s hk, if_neg x3]
    omega
  · have hlt : ∀ x : Int, -1 ≤ x → cT S r N T x + uK w n (k + 1) x = h → x < w k := by
      intro x x1 x2
      by_cases hc : x < w k
      · exact hc
      · exact absurd ⟨x, x1, x2, hc⟩ hx
    obtain ⟨x0, y1, y2⟩ := h1.2
    have hx0 := hlt x0 y1 y2
    right
    refine ⟨⟨x0, y1, ?_⟩, ?_⟩
    · rw [uK_s hk, if_pos hx0]
      omega
    rcases ex_max (fun p => S p = true ∧ T.testBit p = false ∧ r p ≤ w k) r N with hn | ⟨p, p1, ⟨p2, p3, p4⟩, p5⟩
    · exfalso
      have hz : cT S r N T (w k) = 0 := cf_none N fun t ht hq => by
        rw [Bool.and_eq_true, Bool.and_eq_true, decide_eq_true_eq, Bool.not_eq_true'] at hq
        exact hn t ht ⟨hq.1.1, hq.1.2, hq.2⟩
      have hm := uK_mono (w := w) (n := n) (k := k + 1) (show x0 ≤ w k by omega)
      have hl := h1.1 (w k) (by omega)
      have := hlt (w k) (by omega) (by omega)
      omega
    · refine ⟨p, p1, p2, p3, p4, fun h' hh => ?_⟩
      obtain ⟨y, z1, z2⟩ := hh.2
      have h3 := cT_or (r := r) (x := y) p1 p2 p3
      have h4 := h1.1 y z1
      by_cases hc : r p ≤ y
      · rw [if_pos hc] at h3
        by_cases he : cT S r N T y + uK w n (k + 1) y = h
        · exfalso
          have hy := hlt y z1 he
          have hcm : cT S r N T (w k) ≤ cT S r N T y := cf_imp N fun t ht hq => by
            rw [Bool.and_eq_true, Bool.and_eq_true, decide_eq_true_eq, Bool.not_eq_true'] at hq ⊢
            refine ⟨hq.1, ?_⟩
            have := p5 t ht ⟨hq.1.1, hq.1.2, hq.2⟩
            omega
          have hm := uK_mono (w := w) (n := n) (k := k + 1) (show y ≤ w k by omega)
          have hl := h1.1 (w k) (by omega)
          have := hlt (w k) (by omega) (by omega)
          omega
        · omega
      · rw [if_neg hc] at h3
        omega
theorem IM_step {b : Nat} (hk : k < n) (hw : 0 ≤ w k) (h1 : IM S r N w n (k + 1) T h) (hb0 : h ≤ b) (hb1 : ∀ p h', p < N → S p = true → T.testBit p = false → r p ≤ w k → IM S r N w n (k + 1) (T ||| 2 ^ p) h' → 1 + h' ≤ b) (hb2 : ∀ x : Int, -1 ≤ x → b ≤ cT S r N T x + uK w n k x) : IM S r N w n k T b := by
  refine ⟨hb2, ?_⟩
  rcases IM_core hk hw h1 with ⟨x, x1, x2⟩ | ⟨⟨x, x1, x2⟩, p, p1, p2, p3, p4, p5⟩
  · have := hb2 x x1
    exact ⟨x, x1, by omega⟩
  · obtain ⟨h', hh⟩ := IM_ex S r N w n (k + 1) (T ||| 2 ^ p)
    have a1 := p5 h' hh
    have a2 := hb1 p h' p1 p2 p3 p4 hh
    have a3 := hb2 x x1
    exact ⟨x, x1, by omega⟩
end
/-- how many can be met -/
noncomputable def Mv (S : Nat → Bool) (r : Nat → Int) (N : Nat) (w : Nat → Int) (n k T : Nat) : Nat := Classical.choose (IM_ex S r N w n k T)
theorem Mv_ok (S : Nat → Bool) (r : Nat → Int) (N : Nat) (w : Nat → Int) (n k T : Nat) : IM S r N w n k T (Mv S r N w n k T) := Classical.choose_spec (IM_ex S r N w n k T)
theorem Mv_eq {S : Nat → Bool} {r : Nat → Int} {N : Nat} {w : Nat → Int} {n k T h : Nat} (h1 : IM S r N w n k T h) : Mv S r N w n k T = h := IM_fun (Mv_ok S r N w n k T) h1
/-- the least place that is wanted -/
def LPS (C : Nat → Prop) (N : Nat) (v : Int) : Prop := (∃ p : Nat, p < N ∧ C p ∧ (∀ q, q < p → ¬ C q) ∧ v = (p : Int)) ∨ ((∀ p, p < N → ¬ C p) ∧ v = -1)
theorem LPS_fun {C : Nat → Prop} {N : Nat} {v v' : Int} (h1 : LPS C N v) (h2 : LPS C N v') : v = v' := by
  rcases h1 with ⟨p, a1, a2, a3, a4⟩ | ⟨a1, a2⟩ <;> rcases h2 with ⟨q, b1, b2, b3, b4⟩ | ⟨b1, b2⟩
  · rcases Nat.lt_trichotomy p q with h | h | h
    · exact absurd a2 (b3 p h)
    · rw [a4, b4, h]
    · exact absurd b2 (a3 q h)
  · exact absurd a2 (b1 p a1)
  · exact absurd b2 (a1 q b1)
  · rw [a2, b2]
theorem LPS_ex (C : Nat → Prop) : ∀ N, ∃ v, LPS C N v := by
  intro N
  induction N with
  | zero => exact ⟨-1, Or.inr ⟨fun p hp => absurd hp (Nat.not_lt_zero _), rfl⟩⟩
  | succ N ih =>
    obtain ⟨v, hv⟩ := ih
    rcases hv with ⟨p, a1, a2, a3, a4⟩ | ⟨a1, a2⟩
    · exact ⟨v, Or.inl ⟨p, by omega, a2, a3, a4⟩⟩
    · by_cases hN : C N
      · exact ⟨(N : Int), Or.inl ⟨N, by omega, hN, a1, rfl⟩⟩
      · refine ⟨-1, Or.inr ⟨fun p hp => ?_, rfl⟩⟩
        by_cases hh : p = N
        · rw [hh]; exact hN
        · exact a1 p (by omega)
noncomputable def plv (C : Nat → Prop) (N : Nat) : Int := Classical.choose (LPS_ex C N)
theorem plv_ok (C : Nat → Prop) (N : Nat) : LPS C N (plv C N) := Classical.choose_spec (LPS_ex C N)
theorem plv_eq {C : Nat → Prop} {N : Nat} {v : Int} (h : LPS C N v) : plv C N = v := LPS_fun (plv_ok C N) h
theorem plv_rng {C : Nat → Prop} {N : Nat} : -1 ≤ plv C N ∧ plv C N < (N : Int) ∨ plv C N = -1 := by
  rcases plv_ok C N with ⟨p, a1, a2, a3, a4⟩ | ⟨a1, a2⟩
  · left; omega
  · right; exact a2
/-- whose barrel an order gets, if some are given -/
def ORC (S : Nat → Bool) (r : Nat → Int) (N : Nat) (w : Nat → Int) (n k T p : Nat) : Prop := (S p = true ∧ T.testBit p = false ∧ r p ≤ w k) ∧ Mv S r N w n (k + 1) (T ||| 2 ^ p) + 1 = Mv S r N w n k T
noncomputable def tsq (S : Nat → Bool) (r : Nat → Int) (N : Nat) (w : Nat → Int) (n : Nat) : Nat → Nat
  | 0 => 0
  | k + 1 => if plv (ORC S r N w n k (tsq S r N w n k)) N = -1 then tsq S r N w n k else tsq S r N w n k ||| 2 ^ (plv (ORC S r N w n k (tsq S r N w n k)) N).toNat
theorem tsq_s {S : Nat → Bool} {r : Nat → Int} {N : Nat} {w : Nat → Int} {n k : Nat} : tsq S r N w n (k + 1) = if plv (ORC S r N w n k (tsq S r N w n k)) N = -1 then tsq S r N w n k else tsq S r N w n k ||| 2 ^ (plv (ORC S r N w n k (tsq S r N w n k)) N).toNat := rfl
theorem tsq_lt {S : Nat → Bool} {r : Nat → Int} {N : Nat} {w : Nat → Int} {n : Nat} : ∀ k, tsq S r N w n k < 2 ^ N := by
  intro k
  induction k with
  | zero => exact Nat.two_pow_pos N
  | succ k ih =>
    rw [tsq_s]
    split
    · exact ih
    · rename_i hne
      have := plv_rng (C := ORC S r N w n k (tsq S r N w n k)) (N := N)
      have h1 : 2 ^ (plv (ORC S r N w n k (tsq S r N w n k)) N).toNat < 2 ^ N := Nat.pow_lt_pow_right (by decide) (by omega)
      exact Nat.or_lt_two_pow ih h1
/-- if an order gets none, as many are met by the others -/
theorem Mv_none {S : Nat → Bool} {r : Nat → Int} {N : Nat} {w : Nat → Int} {n k T : Nat} (hk : k < n) (hw : 0 ≤ w k) (h : ∀ p, p < N → ¬ ORC S r N w n k T p) : Mv S r N w n (k + 1) T = Mv S r N w n k T := by
  have h1 := Mv_ok S r N w n (k + 1) T
  have h2 := Mv_ok S r N w n k T
  rcases IM_core hk hw h1 with ⟨x, x1, x2⟩ | ⟨⟨x, x1, x2⟩, p, p1, p2, p3, p4, p5⟩
  · exact IM_fun ⟨IM_lb hk h1, x, x1, x2⟩ h2
  · exfalso
    have h3 := Mv_ok S r N w n (k + 1) (T ||| 2 ^ p)
    have a1 := p5 _ h3
    obtain ⟨y, y1, y2⟩ := h2.2
    have a2 := IM_lb2 hk p1 p2 p3 p4 h3 y y1
    have a3 := h2.1 x x1
    exact h p p1 ⟨⟨p2, p3, p4⟩, by omega⟩
