/-! LOOPS by what holds at their head; ends that are chosen -/
theorem rn_loopE {σ : Type} {d mi pc : Nat} (lsf : Nat → σ → am_Ls) (P : Nat → σ → am_M → Prop) (Q : List am_V → am_M → Prop) (n : Nat)
    (hs : ∀ i, i < n → ∀ x m, P i x m → (∃ x' m', P (i + 1) x' m' ∧ ∀ fx o, rn fx d (0, 0) mi pc (lsf (i + 1) x') [] (st0 m') o → rn fx d (0, 0) mi pc (lsf i x) [] (st0 m) o) ∨ (∃ r m', Q r m' ∧ ∀ fx, rn fx d (0, 0) mi pc (lsf i x) [] (st0 m) (r, st0 m')))
    (he : ∀ x m, P n x m → ∃ r m', Q r m' ∧ ∀ fx, rn fx d (0, 0) mi pc (lsf n x) [] (st0 m) (r, st0 m')) : ∀ x m, P 0 x m → ∃ r m', Q r m' ∧ ∀ fx, rn fx d (0, 0) mi pc (lsf 0 x) [] (st0 m) (r, st0 m') := by
  have key : ∀ k, k ≤ n → ∀ x m, P (n - k) x m → ∃ r m', Q r m' ∧ ∀ fx, rn fx d (0, 0) mi pc (lsf (n - k) x) [] (st0 m) (r, st0 m') := by
    intro k
    induction k with
    | zero => intro _ x m h; exact he x m h
    | succ k ih =>
      intro hk x m h
      rcases hs (n - (k + 1)) (by omega) x m h with ⟨x', m', h1, h2⟩ | h1
      · have e : n - (k + 1) + 1 = n - k := by omega
        rw [e] at h1
        obtain ⟨r, m2, h3, h4⟩ := ih (by omega) x' m' h1
        refine ⟨r, m2, h3, fun fx => h2 fx _ ?_⟩
        rw [e]
        exact h4 fx
      · exact h1
  intro x m h
  have := key n (Nat.le_refl _) x m (by rw [Nat.sub_self]; exact h)
  rw [Nat.sub_self] at this
  exact this
/-- a loop that goes through, as a step -/
theorem rn_loopR {σ : Type} {d mi pc : Nat} (lsf : Nat → σ → am_Ls) (P : Nat → σ → am_M → Prop) (n : Nat)
    (hs : ∀ i, i < n → ∀ x m, P i x m → ∃ x' m', P (i + 1) x' m' ∧ ∀ fx o, rn fx d (0, 0) mi pc (lsf (i + 1) x') [] (st0 m') o → rn fx d (0, 0) mi pc (lsf i x) [] (st0 m) o) : ∀ x m, P 0 x m → ∃ x' m', P n x' m' ∧ ∀ fx o, rn fx d (0, 0) mi pc (lsf n x') [] (st0 m') o → rn fx d (0, 0) mi pc (lsf 0 x) [] (st0 m) o := by
  induction n with
  | zero => intro x m h; exact ⟨x, m, h, fun fx o k => k⟩
  | succ n ih =>
    intro x m h
    obtain ⟨x1, m1, h1, k1⟩ := ih (fun i hi => hs i (by omega)) x m h
    obtain ⟨x2, m2, h2, k2⟩ := hs n (by omega) x1 m1 h1
    exact ⟨x2, m2, h2, fun fx o k => k1 fx o (k2 fx o k)⟩
/-- a while loop with a measure -/
theorem rn_loopW {σ : Type} {d mi pc : Nat} (lsf : σ → am_Ls) (P : σ → am_M → Prop) (Q : List am_V → am_M → Prop) (μ : σ → am_M → Nat)
    (hs : ∀ x m, P x m → (∃ x' m', P x' m' ∧ μ x' m' < μ x m ∧ ∀ fx o, rn fx d (0, 0) mi pc (lsf x') [] (st0 m') o → rn fx d (0, 0) mi pc (lsf x) [] (st0 m) o) ∨ (∃ r m', Q r m' ∧ ∀ fx, rn fx d (0, 0) mi pc (lsf x) [] (st0 m) (r, st0 m'))) : ∀ x m, P x m → ∃ r m', Q r m' ∧ ∀ fx, rn fx d (0, 0) mi pc (lsf x) [] (st0 m) (r, st0 m') := by
  have key : ∀ k x m, μ x m ≤ k → P x m → ∃ r m', Q r m' ∧ ∀ fx, rn fx d (0, 0) mi pc (lsf x) [] (st0 m) (r, st0 m') := by
    intro k
    induction k with
    | zero =>
      intro x m hk h
      rcases hs x m h with ⟨x', m', h1, h2, h3⟩ | h1
      · omega
      · exact h1
    | succ k ih =>
      intro x m hk h
      rcases hs x m h with ⟨x', m', h1, h2, h3⟩ | h1
      · obtain ⟨r, m2, h4, h5⟩ := ih x' m' (by omega) h1
        exact ⟨r, m2, h4, fun fx => h3 fx _ (h5 fx)⟩
      · exact h1
  intro x m h
  exact key _ x m (Nat.le_refl _) h
/-- the cells that a method leaves -/
def wen (h mi n : Nat) (a : List am_V) (m : am_M) (r : List am_V) (Q : am_M → Prop) (m' : am_M) : Prop := Q m' ∧ ∀ fx : am_X0, rn fx h (0, 0) mi 0 (am_ent n a) [] (st0 m) (r, st0 m')
noncomputable def wch (h mi n : Nat) (a : List am_V) (m : am_M) (r : List am_V) (Q : am_M → Prop) : am_M := Classical.epsilon (wen h mi n a m r Q)
theorem wch_ok {h mi n : Nat} {a : List am_V} {m : am_M} {r : List am_V} {Q : am_M → Prop} (x : ∃ m', wen h mi n a m r Q m') : wen h mi n a m r Q (wch h mi n a m r Q) := Classical.epsilon_spec x
