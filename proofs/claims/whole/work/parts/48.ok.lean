/-! RUNS by what holds at their end -/
theorem as_iteN {c : Prop} [Decidable c] : ¬ am_s (if c then 1 else 0) = 0 ↔ c := by rw [as_ite]; exact Decidable.not_not
def FX (fx : am_X0) : Prop := fx 1001 = (100, 5, fun j => ([1, 0, 1, 1, 0] : List Int).getD j 0) ∧ fx 1002 = (100, 5, fun j => ([40, 20, 12, 6, 9] : List Int).getD j 0) ∧ ∀ k, k < 12 → fx (3000 + k) = (102, am_len.getD k 0, fun j => (am_strs.getD k []).getD j 0)
def ok (d mi pc : Nat) (ls : am_Ls) (st : List am_V) (m : am_M) (Q : List am_V → am_M → Prop) : Prop := ∃ r m', Q r m' ∧ ∀ fx, FX fx → rn fx d (0, 0) mi pc ls st (st0 m) (r, st0 m')
section
variable {d d' mi pc pc' : Nat} {ls ls' : am_Ls} {st st' : List am_V} {m m' : am_M} {Q Q' : List am_V → am_M → Prop} {M : am_MT} {i : Instr}
theorem ok_sg (h : ∀ fx, FX fx → ∀ o, rn fx d (0, 0) mi pc' ls' st' (st0 m') o → rn fx d (0, 0) mi pc ls st (st0 m) o) (k : ok d mi pc' ls' st' m' Q) : ok d mi pc ls st m Q := by
  obtain ⟨r, m2, h1, h2⟩ := k
  exact ⟨r, m2, h1, fun fx hf => h fx hf _ (h2 fx hf)⟩
theorem ok_rt {r : List am_V} (h : ∀ fx, FX fx → rn fx d (0, 0) mi pc ls st (st0 m) (r, st0 m)) (k : Q r m) : ok d mi pc ls st m Q := ⟨r, m, k, h⟩
theorem ok_ic {cd : Jvm.ClassFile.Cond} {off a b : Int} {pc2 : Nat} (hM : am_ms[mi]? = some M) (hd : decode M.2.2.1 pc = .ok (.if_icmp cd off, 3)) (ht : (pc : Int) + off = (pc' : Int)) (hp : pc + 3 = pc2) (h1 : am_cmp cd a b → ok d mi pc' ls st m Q) (h2 : ¬ am_cmp cd a b → ok d mi pc2 ls st m Q) : ok d mi pc ls (.inl b :: .inl a :: st) m Q := by
  by_cases h : am_cmp cd a b
  · obtain ⟨r, m2, k1, k2⟩ := h1 h
    exact ⟨r, m2, k1, fun fx hf => r_ic hM hd ht hp (fun _ => k2 fx hf) (fun q => absurd h q)⟩
  · obtain ⟨r, m2, k1, k2⟩ := h2 h
    exact ⟨r, m2, k1, fun fx hf => r_ic hM hd ht hp (fun q => absurd q h) (fun _ => k2 fx hf)⟩
theorem ok_if {cd : Jvm.ClassFile.Cond} {off a : Int} {pc2 : Nat} (hM : am_ms[mi]? = some M) (hd : decode M.2.2.1 pc = .ok (.ifCond cd off, 3)) (ht : (pc : Int) + off = (pc' : Int)) (hp : pc + 3 = pc2) (h1 : am_cmz cd a → ok d mi pc' ls st m Q) (h2 : ¬ am_cmz cd a → ok d mi pc2 ls st m Q) : ok d mi pc ls (.inl a :: st) m Q := by
  by_cases h : am_cmz cd a
  · obtain ⟨r, m2, k1, k2⟩ := h1 h
    exact ⟨r, m2, k1, fun fx hf => r_if hM hd ht hp (fun _ => k2 fx hf) (fun q => absurd h q)⟩
  · obtain ⟨r, m2, k1, k2⟩ := h2 h
    exact ⟨r, m2, k1, fun fx hf => r_if hM hd ht hp (fun q => absurd q h) (fun _ => k2 fx hf)⟩
theorem ok_cl {c : Nat × Nat} {N : am_MT} {a q : List am_V} {h : Nat} {Q1 : List am_V → am_M → Prop} (hM : am_ms[mi]? = some M) (hd : decode M.2.2.1 pc = .ok (i, 3)) (hp : pc + 3 = pc') (hc : am_cal M.1 i = some c) (hN : am_ms[c.1]? = some N) (hcr : N.2.2.2.2.2.2.2 = (0, 0)) (hst : am_pop (N.2.2.2.2.2.2.1 + if c.2 = 2 then 0 else 1) st = (a, q)) (hl : a.length = N.2.2.2.2.2.2.1 + if c.2 = 2 then 0 else 1) (hq : (q.map am_cat).sum ≤ 8) (hf : (am_flat a).length ≤ N.2.2.2.1) (hv : c.2 = 2 ∨ am_rcv (st0 m) N.1 (a.headD (.inl 0)) = true) (h1 : ok h c.1 0 (am_ent N.2.2.2.1 a) [] m Q1) (hh : h ≤ d)
    (k : ∀ r m1, Q1 r m1 → ok (d + 1) mi pc' ls (r ++ q) m1 Q) : ok (d + 1) mi pc ls st m Q := by
  obtain ⟨r, m1, k1, k2⟩ := h1
  obtain ⟨r2, m2, k3, k4⟩ := k r m1 k1
  exact ⟨r2, m2, k3, fun fx hx => r_cl hM hd hp hc hN hcr hst hl hq hf hv (k2 fx hx) hh (k4 fx hx)⟩
theorem ok.mono (h : ok d mi pc ls st m Q) (hd : d ≤ d') : ok d' mi pc ls st m Q := by
  obtain ⟨r, m1, k1, k2⟩ := h
  exact ⟨r, m1, k1, fun fx hx => (k2 fx hx).mono hd⟩
theorem ok.imp (h : ok d mi pc ls st m Q) (hQ : ∀ r m, Q r m → Q' r m) : ok d mi pc ls st m Q' := by
  obtain ⟨r, m1, k1, k2⟩ := h
  exact ⟨r, m1, hQ _ _ k1, k2⟩
theorem ok_rn {r : List am_V} (h : ∀ fx : am_X0, rn fx d (0, 0) mi pc ls st (st0 m) (r, st0 m')) (k : Q r m') : ok d mi pc ls st m Q := ⟨r, m', k, fun fx _ => h fx⟩
/-- a loop with a measure -/
theorem ok_lp {σ : Type} (lsf : σ → am_Ls) (P : σ → am_M → Prop) (μ : σ → am_M → Nat)
    (hs : ∀ x m, P x m → (∀ x' m', P x' m' → μ x' m' < μ x m → ok d mi pc (lsf x') [] m' Q) → ok d mi pc (lsf x) [] m Q) : ∀ x m, P x m → ok d mi pc (lsf x) [] m Q := by
  have key : ∀ k x m, μ x m < k → P x m → ok d mi pc (lsf x) [] m Q := by
    intro k
    induction k with
    | zero => intro x m hk; exact absurd hk (Nat.not_lt_zero _)
    | succ k ih => intro x m hk h; exact hs x m h (fun x' m' h' hl => ih x' m' (by omega) h')
  intro x m h
  exact key _ x m (Nat.lt_succ_self _) h
/-- a counted loop -/
theorem ok_for {σ : Type} (lsf : Nat → σ → am_Ls) (P : Nat → σ → am_M → Prop) (n : Nat)
    (hs : ∀ i, i < n → ∀ x m, P i x m → (∀ x' m', P (i + 1) x' m' → ok d mi pc (lsf (i + 1) x') [] m' Q) → ok d mi pc (lsf i x) [] m Q)
    (he : ∀ x m, P n x m → ok d mi pc (lsf n x) [] m Q) (x : σ) (m : am_M) (h : P 0 x m) : ok d mi pc (lsf 0 x) [] m Q := by
  have key : ∀ k, k ≤ n → ∀ x m, P (n - k) x m → ok d mi pc (lsf (n - k) x) [] m Q := by
    intro k
    induction k with
    | zero => intro _ x m h; exact he x m h
    | succ k ih =>
      intro hk x m h
      refine hs (n - (k + 1)) (by omega) x m h ?_
      have e : n - (k + 1) + 1 = n - k := by omega
      rw [e]
      exact ih (by omega)
  have := key n (Nat.le_refl _) x m (by rw [Nat.sub_self]; exact h)
  rw [Nat.sub_self] at this
  exact this
end
/-- class and model answer alike (what the law compares), and what holds between calls holds again -/
def PK (c1 n1 c2 n2 : Nat) (a : List am_V) (m : am_M) : Prop := ok 100 c1 0 (am_ent n1 (.inr (.inr (some 0)) :: a)) [] m (fun r m1 => ∃ v, r = [v] ∧ ok 100 c2 0 (am_ent n2 (.inr (.inr (some 53)) :: a)) [] m1 (fun r2 m2 => r2 = [v] ∧ Inv m2))
theorem PK_of {c1 n1 c2 n2 : Nat} {a : List am_V} {m : am_M} (h : PR c1 n1 c2 n2 a m) : PK c1 n1 c2 n2 a m := by
  obtain ⟨v, m1, m2, h1, h2, h3⟩ := h
  exact ⟨[v], m1, ⟨v, rfl, [v], m2, ⟨rfl, h3⟩, fun fx _ => h2 fx⟩, fun fx _ => h1 fx⟩
theorem PK_i {c1 n1 c2 n2 h1 h2 : Nat} {a : List am_V} {m : am_M} (h : ok h1 c1 0 (am_ent n1 (.inr (.inr (some 0)) :: a)) [] m (fun r m1 => ∃ v, r = [v] ∧ ok h2 c2 0 (am_ent n2 (.inr (.inr (some 53)) :: a)) [] m1 (fun r2 m2 => r2 = [v] ∧ Inv m2))) (l1 : h1 ≤ 100) (l2 : h2 ≤ 100) : PK c1 n1 c2 n2 a m := by
  refine (h.mono l1).imp fun r m1 k => ?_
  obtain ⟨v, e, h'⟩ := k
  exact ⟨v, e, h'.mono l2⟩
/-- a pair by the class's contract, then the model's -/
theorem PK_mk {c1 n1 c2 n2 h1 h2 : Nat} {a : List am_V} {m : am_M} {Q1 : List am_V → am_M → Prop} (k1 : ok h1 c1 0 (am_ent n1 (.inr (.inr (some 0)) :: a)) [] m Q1) (l1 : h1 ≤ 100) (l2 : h2 ≤ 100) (k2 : ∀ r m1, Q1 r m1 → ∃ v, r = [v] ∧ ok h2 c2 0 (am_ent n2 (.inr (.inr (some 53)) :: a)) [] m1 (fun r2 m2 => r2 = [v] ∧ Inv m2)) : PK c1 n1 c2 n2 a m := by
  refine (k1.mono l1).imp fun r m1 h => ?_
  obtain ⟨v, e, h'⟩ := k2 r m1 h
  exact ⟨v, e, h'.mono l2⟩
/-- what Inv needs after the shelf and the model's numbers have changed -/
theorem Inv_sh {m m' : am_M} (hI : Inv m) (h1 : okg (m' 54)) (h2 : WFG (vw m' 2) ∧ nv (vw m' 2) = nv (m' 54)) (h3 : ∀ a k, core a k → ¬ (2 ≤ a ∧ a ≤ 6) → ¬ (a = 54 ∧ k < 56) → m' a k = m a k) : Inv m' := by
  obtain ⟨-, -, g3, ⟨g4a, g4⟩, g5, g6⟩ := hI
  have hf : ∀ a, a = 1 ∨ a = 13 ∨ (15 ≤ a ∧ a ≤ 32) ∨ (55 ≤ a ∧ a ≤ 56) ∨ (73 ≤ a ∧ a ≤ 75) → m' a = m a := by
    intro a ha
    funext k
    exact h3 a k (by unfold core; omega) (by omega) (by omega)
  have e13 : m' 13 = m 13 := hf _ (by omega)
  have e55 : m' 55 = m 55 := hf _ (by omega)
  have e73 : m' 73 = m 73 := hf _ (by omega)
  have e74 : m' 74 = m 74 := hf _ (by omega)
  have e75 : m' 75 = m 75 := hf _ (by omega)
  refine ⟨h1, h2, fun i hi => ?_, ⟨?_, fun j hj => ?_⟩, ?_, ?_⟩
  · have hv : vw m' (15 + 5 * i) = vw m (15 + 5 * i) := vw_same fun a k q1 q2 => by rw [hf a (by omega)]
    have hi2 : img m' i = img m i := by
      funext k
      exact h3 54 _ (by unfold core; omega) (by omega) (by omega)
    rw [e13, e55, hv, hi2]
    exact g3 i hi
  · unfold RWM at g4a ⊢
    rw [e73, e74, e75]
    exact g4a
  · have hr : m' (25 + 2 * j) = m (25 + 2 * j) := hf _ (by omega)
    have hr1 : m' (25 + 2 * j + 1) = m (25 + 2 * j + 1) := hf _ (by omega)
    unfold row1 RWC
    rw [e73, e74, e75, hr, hr1]
    exact g4 j hj
  · have e1 : m' 1 = m 1 := hf _ (by omega)
    have e56 : m' 56 = m 56 := hf _ (by omega)
    rw [h3 0 1 (by unfold core; omega) (by omega) (by omega), h3 53 5 (by unfold core; omega) (by omega) (by omega), e1, e56]
    exact g5
  · rw [h3 33 7 (by unfold core; omega) (by omega) (by omega), h3 33 8 (by unfold core; omega) (by omega) (by omega), h3 53 13 (by unfold core; omega) (by omega) (by omega), h3 53 14 (by unfold core; omega) (by omega) (by omega)]
    exact ⟨g6.1, g6.2.1, TRB_cg (fun a k q1 q2 => h3 a k (by unfold core; omega) (by omega) (by omega)) g6.2.2⟩
