/-! tokens -/
def chl (c : Int) : Bool := decide (97 ≤ c ∧ c ≤ 122)
def chd (c : Int) : Bool := decide (48 ≤ c ∧ c ≤ 57)
def chw (c : Int) : Bool := decide (c = 10 ∨ c = 32)
theorem chl_t {c : Int} : chl c = true ↔ 97 ≤ c ∧ c ≤ 122 := decide_eq_true_iff
theorem chd_t {c : Int} : chd c = true ↔ 48 ≤ c ∧ c ≤ 57 := decide_eq_true_iff
theorem chw_t {c : Int} : chw c = true ↔ c = 10 ∨ c = 32 := decide_eq_true_iff
def spnf (P : Int → Bool) (tx : Nat → Int) (n : Nat) : Nat → Nat → Nat
  | 0, a => a
  | f + 1, a => if a < n ∧ P (tx a) = true then spnf P tx n f (a + 1) else a
/-- where a stretch of such signs ends -/
def spn (P : Int → Bool) (tx : Nat → Int) (n a : Nat) : Nat := spnf P tx n (n - a) a
theorem spn_go {P : Int → Bool} {tx : Nat → Int} {n a : Nat} (h1 : a < n) (h2 : P (tx a) = true) : spn P tx n a = spn P tx n (a + 1) := by
  unfold spn
  rw [show n - a = (n - (a + 1)) + 1 by omega]
  show (if a < n ∧ P (tx a) = true then spnf P tx n (n - (a + 1)) (a + 1) else a) = _
  rw [if_pos ⟨h1, h2⟩]
theorem spn_no {P : Int → Bool} {tx : Nat → Int} {n a : Nat} (h : ¬ (a < n ∧ P (tx a) = true)) : spn P tx n a = a := by
  unfold spn
  cases hk : n - a with
  | zero => rfl
  | succ f =>
    show (if a < n ∧ P (tx a) = true then spnf P tx n f (a + 1) else a) = a
    rw [if_neg h]
theorem spn_bd {P : Int → Bool} {tx : Nat → Int} {n : Nat} : ∀ f a, n - a ≤ f → a ≤ n → a ≤ spn P tx n a ∧ spn P tx n a ≤ n := by
  intro f
  induction f with
  | zero =>
    intro a h1 h2
    rw [spn_no (by omega)]
    omega
  | succ f ih =>
    intro a h1 h2
    by_cases h : a < n ∧ P (tx a) = true
    · rw [spn_go h.1 h.2]
      have := ih (a + 1) (by omega) (by omega)
      omega
    · rw [spn_no h]
      omega
theorem spn_b {P : Int → Bool} {tx : Nat → Int} {n a : Nat} (h : a ≤ n) : a ≤ spn P tx n a ∧ spn P tx n a ≤ n := spn_bd (n - a) a (Nat.le_refl _) h
theorem spn_end {P : Int → Bool} {tx : Nat → Int} {n : Nat} : ∀ f a, n - a ≤ f → a ≤ n → ¬ (spn P tx n a < n ∧ P (tx (spn P tx n a)) = true) := by
  intro f
  induction f with
  | zero =>
    intro a h1 h2
    rw [spn_no (by omega)]
    omega
  | succ f ih =>
    intro a h1 h2
    by_cases h : a < n ∧ P (tx a) = true
    · rw [spn_go h.1 h.2]
      exact ih (a + 1) (by omega) (by omega)
    · rw [spn_no h]
      exact h
theorem spn_cg {P : Int → Bool} {tx ty : Nat → Int} {n : Nat} (h : ∀ k, k < n → P (tx k) = P (ty k)) : ∀ f a, n - a ≤ f → spn P tx n a = spn P ty n a := by
  intro f
  induction f with
  | zero =>
    intro a h1
    rw [spn_no (by omega), spn_no (by omega)]
  | succ f ih =>
    intro a h1
    by_cases hc : a < n ∧ P (tx a) = true
    · rw [spn_go hc.1 hc.2, spn_go hc.1 (by rw [← h a hc.1]; exact hc.2)]
      exact ih (a + 1) (by omega)
    · rw [spn_no hc, spn_no (fun z => hc ⟨z.1, by rw [h a z.1]; exact z.2⟩)]
/-- a word is spelt there -/
def spl (tx : Nat → Int) (p b : Nat) (w : List Int) : Bool := decide (b = p + w.length ∧ ∀ i, i < w.length → tx (p + i) = w.getD i 0)
theorem spl_t {tx : Nat → Int} {p b : Nat} {w : List Int} : spl tx p b w = true ↔ b = p + w.length ∧ ∀ i, i < w.length → tx (p + i) = w.getD i 0 := decide_eq_true_iff
def wrd (j : Nat) : List Int := am_strs.getD j []
theorem wrd_one : ∀ j, j < 11 → ∀ i, i < 11 → (wrd j).length = (wrd i).length → (∀ k, k < (wrd j).length → (wrd j).getD k 0 = (wrd i).getD k 0) → j = i := by decide +kernel
theorem spl_one {tx : Nat → Int} {p b i j : Nat} (hj : j < 11) (hi : i < 11) (h1 : spl tx p b (wrd j) = true) (h2 : spl tx p b (wrd i) = true) : j = i := by
  obtain ⟨a1, a2⟩ := spl_t.mp h1
  obtain ⟨b1, b2⟩ := spl_t.mp h2
  exact wrd_one j hj i hi (by omega) fun k hk => by rw [← a2 k hk, ← b2 k (by omega)]
/-- which word it is, -1: none -/
noncomputable def wno (tx : Nat → Int) (p b : Nat) : Int := plv (fun j => spl tx p b (wrd j) = true) 11
theorem wno_is {tx : Nat → Int} {p b j : Nat} (hj : j < 11) (h : spl tx p b (wrd j) = true) : wno tx p b = (j : Int) := plv_eq (Or.inl ⟨j, hj, h, fun i hi z => by have := spl_one hj (by omega) h z; omega, rfl⟩)
theorem wno_no {tx : Nat → Int} {p b : Nat} (h : ∀ j, j < 11 → ¬ spl tx p b (wrd j) = true) : wno tx p b = -1 := plv_eq (Or.inr ⟨h, rfl⟩)
theorem wno_r {tx : Nat → Int} {p b : Nat} : wno tx p b = -1 ∨ ∃ j, j < 11 ∧ spl tx p b (wrd j) = true ∧ wno tx p b = ((j : Nat) : Int) := by
  rcases plv_ok (fun j => spl tx p b (wrd j) = true) 11 with ⟨j, a1, a2, a3, a4⟩ | ⟨a1, a2⟩
  · exact Or.inr ⟨j, a1, a2, a4⟩
  · exact Or.inl a2
def dvl (tx : Nat → Int) (p : Nat) : Nat → Int
  | 0 => 0
  | k + 1 => 10 * dvl tx p k + tx (p + k) - 48
theorem dvl_s {tx : Nat → Int} {p k : Nat} : dvl tx p (k + 1) = 10 * dvl tx p k + tx (p + k) - 48 := rfl
theorem t_16_0 {fx : am_X0} {o : List am_V × am_S} {m : am_M} {c : Int}  (H : ∀ y1 : Int, y1 = (if am_s c < am_s 97 then 0 else (if am_s 122 < am_s c then 0 else 1)) → o = ([.inl y1], st0 m)) : rn fx 0 (0, 0) 16 0 [some (.inl c)] [] (st0 m) o := by
  refine r_ld (pc' := 1) hM_16 d_16_0 rfl rfl ?_
  refine r_k (pc' := 3) (v := .inl 97) hM_16 d_16_1 rfl rfl ?_
  have K : ∀ y1 : Int, y1 = (if am_s c < am_s 97 then 0 else (if am_s 122 < am_s c then 0 else 1)) → rn fx 0 (0, 0) 16 17 [some (.inl c)] [.inl y1] (st0 m) o := by
    intro y1 hy1
    replace H := H y1 hy1
    subst H
    refine rt_z hM_16 d_16_17 rfl ?_
    rw [hy1]
    repeat' first | exact Or.inl rfl | exact Or.inr rfl | apply z01_ite
  replace K := K _ rfl
  clear H
  refine r_ic (pc' := 16) (pc2 := 6) hM_16 d_16_3 (by decide) rfl (fun hz1 => ?_) (fun hz1 => ?_)
  · have hz1 : am_s c < am_s 97 := hz1
    rw [if_pos hz1] at K
    refine r_k (pc' := 17) (v := .inl 0) hM_16 d_16_16 rfl rfl ?_
    exact K
  · have hz1 : ¬ (am_s c < am_s 97) := hz1
    rw [if_neg hz1] at K
    refine r_ld (pc' := 7) hM_16 d_16_6 rfl rfl ?_
    refine r_k (pc' := 9) (v := .inl 122) hM_16 d_16_7 rfl rfl ?_
    refine r_ic (pc' := 16) (pc2 := 12) hM_16 d_16_9 (by decide) rfl (fun hz2 => ?_) (fun hz2 => ?_)
    · have hz2 : am_s 122 < am_s c := hz2
      rw [if_pos hz2] at K
      refine r_k (pc' := 17) (v := .inl 0) hM_16 d_16_16 rfl rfl ?_
      exact K
    · have hz2 : ¬ (am_s 122 < am_s c) := hz2
      rw [if_neg hz2] at K
      refine r_k (pc' := 13) (v := .inl 1) hM_16 d_16_12 rfl rfl ?_
      refine r_go (pc' := 17) hM_16 d_16_13 (by decide) ?_
      exact K
def v_16 (m : am_M) (c : Int) : Int := (if am_s c < am_s 97 then 0 else (if am_s 122 < am_s c then 0 else 1))
/-- HeardBarrels$Reader.isLetter -/
theorem c_16 {fx : am_X0}   (m : am_M) (c : Int)  : rn fx 0 (0, 0) 16 0 (am_ent 1 [.inl c]) [] (st0 m) ([.inl (v_16 m c)], st0 m) := by
  show rn fx 0 (0, 0) 16 0 [some (.inl c)] [] (st0 m) _
  refine t_16_0  ?_
  intro y1 hy1
  subst hy1
  simp only [v_16]
theorem t_27_0 {fx : am_X0} {o : List am_V × am_S} {m : am_M} {c : Int}  (H : ∀ y1 : Int, y1 = (if am_s c < am_s 48 then 0 else (if am_s 57 < am_s c then 0 else 1)) → o = ([.inl y1], st0 m)) : rn fx 0 (0, 0) 27 0 [some (.inl c)] [] (st0 m) o := by
  refine r_ld (pc' := 1) hM_27 d_27_0 rfl rfl ?_
  refine r_k (pc' := 3) (v := .inl 48) hM_27 d_27_1 rfl rfl ?_
  have K : ∀ y1 : Int, y1 = (if am_s c < am_s 48 then 0 else (if am_s 57 < am_s c then 0 else 1)) → rn fx 0 (0, 0) 27 17 [some (.inl c)] [.inl y1] (st0 m) o := by
    intro y1 hy1
    replace H := H y1 hy1
    subst H
    refine rt_z hM_27 d_27_17 rfl ?_
    rw [hy1]
    repeat' first | exact Or.inl rfl | exact Or.inr rfl | apply z01_ite
  replace K := K _ rfl
  clear H
  refine r_ic (pc' := 16) (pc2 := 6) hM_27 d_27_3 (by decide) rfl (fun hz1 => ?_) (fun hz1 => ?_)
  · have hz1 : am_s c < am_s 48 := hz1
    rw [if_pos hz1] at K
    refine r_k (pc' := 17) (v := .inl 0) hM_27 d_27_16 rfl rfl ?_
    exact K
  · have hz1 : ¬ (am_s c < am_s 48) := hz1
    rw [if_neg hz1] at K
    refine r_ld (pc' := 7) hM_27 d_27_6 rfl rfl ?_
    refine r_k (pc' := 9) (v := .inl 57) hM_27 d_27_7 rfl rfl ?_
    refine r_ic (pc' := 16) (pc2 := 12) hM_27 d_27_9 (by decide) rfl (fun hz2 => ?_) (fun hz2 => ?_)
    · have hz2 : am_s 57 < am_s c := hz2
      rw [if_pos hz2] at K
      refine r_k (pc' := 17) (v := .inl 0) hM_27 d_27_16 rfl rfl ?_
      exact K
    · have hz2 : ¬ (am_s 57 < am_s c) := hz2
      rw [if_neg hz2] at K
      refine r_k (pc' := 13) (v := .inl 1) hM_27 d_27_12 rfl rfl ?_
      refine r_go (pc' := 17) hM_27 d_27_13 (by decide) ?_
      exact K
def v_27 (m : am_M) (c : Int) : Int := (if am_s c < am_s 48 then 0 else (if am_s 57 < am_s c then 0 else 1))
/-- HeardBarrels$Reader.isDigit -/
theorem c_27 {fx : am_X0}   (m : am_M) (c : Int)  : rn fx 0 (0, 0) 27 0 (am_ent 1 [.inl c]) [] (st0 m) ([.inl (v_27 m c)], st0 m) := by
  show rn fx 0 (0, 0) 27 0 [some (.inl c)] [] (st0 m) _
  refine t_27_0  ?_
  intro y1 hy1
  subst hy1
  simp only [v_27]
theorem n_16 {fx : am_X0} (m : am_M) (c : Int) (hq : -128 ≤ c ∧ c ≤ 255) : rn fx 0 (0, 0) 16 0 (am_ent 1 [.inl c]) [] (st0 m) ([.inl (if chl c = true then 1 else 0)], st0 m) := by
  have h := c_16 (fx := fx) m c
  have e : v_16 m c = if chl c = true then 1 else 0 := by
    unfold v_16
    rw [am_s_id (z := c) (by omega) (by omega), show am_s 97 = 97 by decide, show am_s 122 = 122 by decide]
    by_cases h1 : c < 97
    · rw [if_pos h1, if_neg (fun z => by have := chl_t.mp z; omega)]
    · rw [if_neg h1]
      by_cases h2 : 122 < c
      · rw [if_pos h2, if_neg (fun z => by have := chl_t.mp z; omega)]
      · rw [if_neg h2, if_pos (chl_t.mpr (by omega))]
  rw [e] at h
  exact h
theorem n_27 {fx : am_X0} (m : am_M) (c : Int) (hq : -128 ≤ c ∧ c ≤ 255) : rn fx 0 (0, 0) 27 0 (am_ent 1 [.inl c]) [] (st0 m) ([.inl (if chd c = true then 1 else 0)], st0 m) := by
  have h := c_27 (fx := fx) m c
  have e : v_27 m c = if chd c = true then 1 else 0 := by
    unfold v_27
    rw [am_s_id (z := c) (by omega) (by omega), show am_s 48 = 48 by decide, show am_s 57 = 57 by decide]
    by_cases h1 : c < 48
    · rw [if_pos h1, if_neg (fun z => by have := chd_t.mp z; omega)]
    · rw [if_neg h1]
      by_cases h2 : 57 < c
      · rw [if_pos h2, if_neg (fun z => by have := chd_t.mp z; omega)]
      · rw [if_neg h2, if_pos (chd_t.mpr (by omega))]
  rw [e] at h
  exact h
/-- at and tokenPlace within the text -/
def RDR (m : am_M) : Prop := (0 ≤ m 33 3 ∧ m 33 3 ≤ m 33 2 ∧ m 33 2 ≤ 900) ∧ ∀ k : Nat, (k : Int) < m 33 2 → -128 ≤ m 1 k ∧ m 1 k ≤ 127
theorem u_17_0 {Q : List am_V → am_M → Prop} {m : am_M}   (H : ((am_s (m 33 2) ≤ am_s (m 33 3)) → Q [] m) ∧ ((¬ (am_s (m 33 2) ≤ am_s (m 33 3))) → (0 ≤ am_s (m 33 3) ∧ am_s (m 33 3) < (900 : Nat)) ∧ ((-128 ≤ (m 1 ((am_s (m 33 3)).toNat)) ∧ (m 1 ((am_s (m 33 3)).toNat)) ≤ 255) ∧ (((¬ (chl (m 1 ((am_s (m 33 3)).toNat)) = true)) → Q [] m) ∧ ((chl (m 1 ((am_s (m 33 3)).toNat)) = true) → ok 5 17 0 [some (.inr (.inr (some 33)))] [] (mu m 33 3 ((m 33 3) + 1)) Q))))) : ok 5 17 0 [some (.inr (.inr (some 33)))] [] m Q := by
  refine ok_sg (pc' := 8) (ls' := [some (.inr (.inr (some 33)))]) (st' := [.inl (m 33 2), .inl (m 33 3)]) (m' := m) (fun fx hfx o hk => ?_) ?_
  · refine r_ld (pc' := 1) hM_17 d_17_0 rfl rfl ?_
    refine r_gI (pc' := 4) (k0 := 3) hM_17 d_17_1 rfl (by decide +kernel) ?_
    refine r_ld (pc' := 5) hM_17 d_17_4 rfl rfl ?_
    refine r_gI (pc' := 8) (k0 := 2) hM_17 d_17_5 rfl (by decide +kernel) ?_
    exact hk
  refine ok_ic (pc' := 39) (pc2 := 11) hM_17 d_17_8 (by decide) rfl (fun hz1 => ?_) (fun hz1 => ?_)
  · have H := H.1 hz1
    exact ok_rt (fun fx _ => rt_v hM_17 d_17_39 rfl) H
  · have H := H.2 hz1
    obtain ⟨hz2, H⟩ := H
    obtain ⟨hz3, H⟩ := H
    refine ok_sg (pc' := 23) (ls' := [some (.inr (.inr (some 33)))]) (st' := [.inl ((if chl (m 1 ((am_s (m 33 3)).toNat)) = true then 1 else 0))]) (m' := m) (fun fx hfx o hk => ?_) ?_
    · refine r_ld (pc' := 12) hM_17 d_17_11 rfl rfl ?_
      refine r_gR (pc' := 15) (v := 1) hM_17 d_17_12 rfl (by decide +kernel) ?_
      refine r_ld (pc' := 16) hM_17 d_17_15 rfl rfl ?_
      refine r_gI (pc' := 19) (k0 := 3) hM_17 d_17_16 rfl (by decide +kernel) ?_
      refine r_ba (pc' := 20) (n := 900) hM_17 d_17_19 rfl rfl (by decide) hz2 ?_
      refine r_cl (pc' := 23) (c := (16, 2)) (a := [.inl (m 1 ((am_s (m 33 3)).toNat))]) (q := []) hM_17 d_17_20 rfl (by decide +kernel) hM_16 rfl rfl rfl (Nat.le_of_ble_eq_true rfl) (Nat.le_of_ble_eq_true rfl) (Or.inl rfl) (n_16  m (m 1 ((am_s (m 33 3)).toNat)) hz3) (Nat.le_of_ble_eq_true rfl) ?_
      show rn fx 5 (0, 0) 17 23 [some (.inr (.inr (some 33)))] [.inl ((if chl (m 1 ((am_s (m 33 3)).toNat)) = true then 1 else 0))] (st0 m) o
      exact hk
    refine ok_if (pc' := 39) (pc2 := 26) hM_17 d_17_23 (by decide) rfl (fun hz4 => ?_) (fun hz4 => ?_)
    · have H := H.1 (as_ite.mp hz4)
      exact ok_rt (fun fx _ => rt_v hM_17 d_17_39 rfl) H
    · have H := H.2 (as_iteN.mp hz4)
      refine ok_sg (pc' := 0) (ls' := [some (.inr (.inr (some 33)))]) (st' := []) (m' := mu m 33 3 ((m 33 3) + 1)) (fun fx hfx o hk => ?_) ?_
      · refine r_ld (pc' := 27) hM_17 d_17_26 rfl rfl ?_
        refine r_stk (pc' := 28) (st' := [.inr (.inr (some 33)), .inr (.inr (some 33))]) hM_17 d_17_27 rfl rfl ?_
        refine r_gI (pc' := 31) (k0 := 3) hM_17 d_17_28 rfl (by decide +kernel) ?_
        refine r_k (pc' := 32) (v := .inl 1) hM_17 d_17_31 rfl rfl ?_
        refine r_b (pc' := 33) (z := ((m 33 3) + 1)) hM_17 d_17_32 rfl rfl ?_
        refine r_pI (pc' := 36) (k0 := 3) hM_17 d_17_33 rfl (by decide +kernel) ?_
        refine r_go (pc' := 0) hM_17 d_17_36 (by decide) ?_
        exact hk
      exact H
theorem z_17   (m : am_M)  (hq : RDR m) : ok 5 17 0 (am_ent 1 [.inr (.inr (some 33))]) [] m (fun rr m' => rr = [] ∧ m' 33 3 = ((spn chl (m 1) (m 33 2).toNat (m 33 3).toNat : Nat) : Int) ∧ ∀ a k, ¬ (a = 33 ∧ k = 3) → m' a k = m a k) := by
  show ok 5 17 0 [some (.inr (.inr (some 33)))] [] m _
  obtain ⟨⟨w1, w3, w4⟩, hT⟩ := hq
  obtain ⟨n, hn⟩ : ∃ n : Nat, m 33 2 = (n : Int) := ⟨(m 33 2).toNat, by omega⟩
  rw [hn] at w3 w4 hT
  rw [hn]
  simp only [Int.toNat_natCast]
  refine ok_lp (σ := Unit) (fun _ => [some (.inr (.inr (some 33)))]) (fun _ M => (m 33 3 ≤ M 33 3 ∧ M 33 3 ≤ (n : Int)) ∧ spn chl (m 1) n (M 33 3).toNat = spn chl (m 1) n (m 33 3).toNat ∧ ∀ a k, ¬ (a = 33 ∧ k = 3) → M a k = m a k) (fun _ M => ((n : Int) - M 33 3).toNat) ?_ () m ⟨⟨by omega, by omega⟩, rfl, fun _ _ _ => rfl⟩
  rintro - M ⟨hA, hS, hF⟩ IH
  have e2 : M 33 2 = (n : Int) := by rw [hF 33 2 (by omega), hn]
  have e1 : M 1 = m 1 := by
    funext k
    exact hF 1 k (by omega)
  obtain ⟨a, ha⟩ : ∃ a : Nat, M 33 3 = (a : Int) := ⟨(M 33 3).toNat, by omega⟩
  rw [ha] at hA hS
  rw [Int.toNat_natCast] at hS
  have hN0 : ¬ (a < n ∧ chl (m 1 a) = true) → ((a : Nat) : Int) = ((spn chl (m 1) n (m 33 3).toNat : Nat) : Int) ∧ ∀ a k, ¬ (a = 33 ∧ k = 3) → M a k = m a k := by
    intro hno
    rw [← hS, spn_no hno]
    exact ⟨rfl, hF⟩
  refine u_17_0 ?_
  rw [e2, e1, ha, am_s_id (z := (n : Int)) (by omega) (by omega), am_s_id (z := (a : Int)) (by omega) (by omega)]
  simp only [Int.toNat_natCast]
  refine ⟨fun q => ⟨(by first | rfl | trivial), hN0 (fun zz => absurd zz.1 (by omega))⟩, fun q => ⟨⟨by omega, by omega⟩, ⟨by have := hT a (by omega); omega, by have := hT a (by omega); omega⟩, fun q2 => ⟨(by first | rfl | trivial), hN0 (fun zz => q2 zz.2)⟩, fun q2 => ?_⟩⟩
  refine IH () _ ⟨⟨?_, ?_⟩, ?_, fun r k hk => ?_⟩ ?_
  · rw [mu_same]; omega
  · rw [mu_same]; omega
  · rw [mu_same, show ((a : Int) + 1).toNat = a + 1 by omega, ← hS, spn_go (a := a) (by omega) q2]
  · rw [mu_o hk]; exact hF r k hk
  · rw [mu_same, ha]; omega
theorem u_28_2 {Q : List am_V → am_M → Prop} {m : am_M} {x : Int}  (H : ((am_s (m 33 2) ≤ am_s (m 33 3)) → ∀ y1 : Int, y1 = (if am_s ((m 33 3) - (m 33 5)) ≤ 3 then 2 else 4) → Q [] (mu (mu m 33 4 y1) 33 6 x)) ∧ ((¬ (am_s (m 33 2) ≤ am_s (m 33 3))) → (0 ≤ am_s (m 33 3) ∧ am_s (m 33 3) < (900 : Nat)) ∧ ((-128 ≤ (m 1 ((am_s (m 33 3)).toNat)) ∧ (m 1 ((am_s (m 33 3)).toNat)) ≤ 255) ∧ (((¬ (chd (m 1 ((am_s (m 33 3)).toNat)) = true)) → ∀ y2 : Int, y2 = (if am_s ((m 33 3) - (m 33 5)) ≤ 3 then 2 else 4) → Q [] (mu (mu m 33 4 y2) 33 6 x)) ∧ ((chd (m 1 ((am_s (m 33 3)).toNat)) = true) → ok 1 28 2 [some (.inr (.inr (some 33))), some (.inl (v_14 m 1000 (((x * 10) + (m 1 ((am_s (m 33 3)).toNat))) - 48)))] [] (mu m 33 3 ((m 33 3) + 1)) Q))))) : ok 1 28 2 [some (.inr (.inr (some 33))), some (.inl x)] [] m Q := by
  refine ok_sg (pc' := 10) (ls' := [some (.inr (.inr (some 33))), some (.inl x)]) (st' := [.inl (m 33 2), .inl (m 33 3)]) (m' := m) (fun fx hfx o hk => ?_) ?_
  · refine r_ld (pc' := 3) hM_28 d_28_2 rfl rfl ?_
    refine r_gI (pc' := 6) (k0 := 3) hM_28 d_28_3 rfl (by decide +kernel) ?_
    refine r_ld (pc' := 7) hM_28 d_28_6 rfl rfl ?_
    refine r_gI (pc' := 10) (k0 := 2) hM_28 d_28_7 rfl (by decide +kernel) ?_
    exact hk
  refine ok_ic (pc' := 65) (pc2 := 13) hM_28 d_28_10 (by decide) rfl (fun hz1 => ?_) (fun hz1 => ?_)
  · have H := H.1 hz1
    refine ok_sg (pc' := 76) (ls' := [some (.inr (.inr (some 33))), some (.inl x)]) (st' := [.inl 3, .inl ((m 33 3) - (m 33 5)), .inr (.inr (some 33))]) (m' := m) (fun fx hfx o hk => ?_) ?_
    · refine r_ld (pc' := 66) hM_28 d_28_65 rfl rfl ?_
      refine r_ld (pc' := 67) hM_28 d_28_66 rfl rfl ?_
      refine r_gI (pc' := 70) (k0 := 3) hM_28 d_28_67 rfl (by decide +kernel) ?_
      refine r_ld (pc' := 71) hM_28 d_28_70 rfl rfl ?_
      refine r_gI (pc' := 74) (k0 := 5) hM_28 d_28_71 rfl (by decide +kernel) ?_
      refine r_b (pc' := 75) (z := ((m 33 3) - (m 33 5))) hM_28 d_28_74 rfl rfl ?_
      refine r_k (pc' := 76) (v := .inl 3) hM_28 d_28_75 rfl rfl ?_
      exact hk
    refine ok_sg (pc' := 84) (ls' := [some (.inr (.inr (some 33))), some (.inl x)]) (st' := [.inl (if am_s ((m 33 3) - (m 33 5)) ≤ 3 then 2 else 4), .inr (.inr (some 33))]) (m' := m) (fun fx hfx o K => ?_) ?_
    · refine r_ic (pc' := 83) (pc2 := 79) hM_28 d_28_76 (by decide) rfl (fun hz2 => ?_) (fun hz2 => ?_)
      · have hz2 : am_s ((m 33 3) - (m 33 5)) ≤ 3 := hz2
        rw [if_pos hz2] at K
        refine r_k (pc' := 84) (v := .inl 2) hM_28 d_28_83 rfl rfl ?_
        exact K
      · have hz2 : ¬ (am_s ((m 33 3) - (m 33 5)) ≤ 3) := hz2
        rw [if_neg hz2] at K
        refine r_k (pc' := 80) (v := .inl 4) hM_28 d_28_79 rfl rfl ?_
        refine r_go (pc' := 84) hM_28 d_28_80 (by decide) ?_
        exact K
    have K : ∀ y1 : Int, y1 = (if am_s ((m 33 3) - (m 33 5)) ≤ 3 then 2 else 4) → ok 1 28 84 [some (.inr (.inr (some 33))), some (.inl x)] [.inl y1, .inr (.inr (some 33))] m Q := by
      intro y1 hy1
      replace H := H y1 hy1
      refine ok_sg (pc' := 92) (ls' := [some (.inr (.inr (some 33))), some (.inl x)]) (st' := []) (m' := mu (mu m 33 4 y1) 33 6 x) (fun fx hfx o hk => ?_) ?_
      · refine r_pI (pc' := 87) (k0 := 4) hM_28 d_28_84 rfl (by decide +kernel) ?_
        refine r_ld (pc' := 88) hM_28 d_28_87 rfl rfl ?_
        refine r_ld (pc' := 89) hM_28 d_28_88 rfl rfl ?_
        refine r_pI (pc' := 92) (k0 := 6) hM_28 d_28_89 rfl (by decide +kernel) ?_
        exact hk
      exact ok_rt (fun fx _ => rt_v hM_28 d_28_92 rfl) H
    exact K _ rfl
  · have H := H.2 hz1
    obtain ⟨hz3, H⟩ := H
    obtain ⟨hz4, H⟩ := H
    refine ok_sg (pc' := 25) (ls' := [some (.inr (.inr (some 33))), some (.inl x)]) (st' := [.inl ((if chd (m 1 ((am_s (m 33 3)).toNat)) = true then 1 else 0))]) (m' := m) (fun fx hfx o hk => ?_) ?_
    · refine r_ld (pc' := 14) hM_28 d_28_13 rfl rfl ?_
      refine r_gR (pc' := 17) (v := 1) hM_28 d_28_14 rfl (by decide +kernel) ?_
      refine r_ld (pc' := 18) hM_28 d_28_17 rfl rfl ?_
      refine r_gI (pc' := 21) (k0 := 3) hM_28 d_28_18 rfl (by decide +kernel) ?_
      refine r_ba (pc' := 22) (n := 900) hM_28 d_28_21 rfl rfl (by decide) hz3 ?_
      refine r_cl (pc' := 25) (c := (27, 2)) (a := [.inl (m 1 ((am_s (m 33 3)).toNat))]) (q := []) hM_28 d_28_22 rfl (by decide +kernel) hM_27 rfl rfl rfl (Nat.le_of_ble_eq_true rfl) (Nat.le_of_ble_eq_true rfl) (Or.inl rfl) (n_27  m (m 1 ((am_s (m 33 3)).toNat)) hz4) (Nat.le_of_ble_eq_true rfl) ?_
      show rn fx 1 (0, 0) 28 25 [some (.inr (.inr (some 33))), some (.inl x)] [.inl ((if chd (m 1 ((am_s (m 33 3)).toNat)) = true then 1 else 0))] (st0 m) o
      exact hk
    refine ok_if (pc' := 65) (pc2 := 28) hM_28 d_28_25 (by decide) rfl (fun hz5 => ?_) (fun hz5 => ?_)
    · have H := H.1 (as_ite.mp hz5)
      refine ok_sg (pc' := 76) (ls' := [some (.inr (.inr (some 33))), some (.inl x)]) (st' := [.inl 3, .inl ((m 33 3) - (m 33 5)), .inr (.inr (some 33))]) (m' := m) (fun fx hfx o hk => ?_) ?_
      · refine r_ld (pc' := 66) hM_28 d_28_65 rfl rfl ?_
        refine r_ld (pc' := 67) hM_28 d_28_66 rfl rfl ?_
        refine r_gI (pc' := 70) (k0 := 3) hM_28 d_28_67 rfl (by decide +kernel) ?_
        refine r_ld (pc' := 71) hM_28 d_28_70 rfl rfl ?_
        refine r_gI (pc' := 74) (k0 := 5) hM_28 d_28_71 rfl (by decide +kernel) ?_
        refine r_b (pc' := 75) (z := ((m 33 3) - (m 33 5))) hM_28 d_28_74 rfl rfl ?_
        refine r_k (pc' := 76) (v := .inl 3) hM_28 d_28_75 rfl rfl ?_
        exact hk
      refine ok_sg (pc' := 84) (ls' := [some (.inr (.inr (some 33))), some (.inl x)]) (st' := [.inl (if am_s ((m 33 3) - (m 33 5)) ≤ 3 then 2 else 4), .inr (.inr (some 33))]) (m' := m) (fun fx hfx o K => ?_) ?_
      · refine r_ic (pc' := 83) (pc2 := 79) hM_28 d_28_76 (by decide) rfl (fun hz6 => ?_) (fun hz6 => ?_)
        · have hz6 : am_s ((m 33 3) - (m 33 5)) ≤ 3 := hz6
          rw [if_pos hz6] at K
          refine r_k (pc' := 84) (v := .inl 2) hM_28 d_28_83 rfl rfl ?_
          exact K
        · have hz6 : ¬ (am_s ((m 33 3) - (m 33 5)) ≤ 3) := hz6
          rw [if_neg hz6] at K
          refine r_k (pc' := 80) (v := .inl 4) hM_28 d_28_79 rfl rfl ?_
          refine r_go (pc' := 84) hM_28 d_28_80 (by decide) ?_
          exact K
      have K : ∀ y2 : Int, y2 = (if am_s ((m 33 3) - (m 33 5)) ≤ 3 then 2 else 4) → ok 1 28 84 [some (.inr (.inr (some 33))), some (.inl x)] [.inl y2, .inr (.inr (some 33))] m Q := by
        intro y2 hy2
        replace H := H y2 hy2
        refine ok_sg (pc' := 92) (ls' := [some (.inr (.inr (some 33))), some (.inl x)]) (st' := []) (m' := mu (mu m 33 4 y2) 33 6 x) (fun fx hfx o hk => ?_) ?_
        · refine r_pI (pc' := 87) (k0 := 4) hM_28 d_28_84 rfl (by decide +kernel) ?_
          refine r_ld (pc' := 88) hM_28 d_28_87 rfl rfl ?_
          refine r_ld (pc' := 89) hM_28 d_28_88 rfl rfl ?_
          refine r_pI (pc' := 92) (k0 := 6) hM_28 d_28_89 rfl (by decide +kernel) ?_
          exact hk
        exact ok_rt (fun fx _ => rt_v hM_28 d_28_92 rfl) H
      exact K _ rfl
    · have H := H.2 (as_iteN.mp hz5)
      refine ok_sg (pc' := 2) (ls' := [some (.inr (.inr (some 33))), some (.inl (v_14 m 1000 (((x * 10) + (m 1 ((am_s (m 33 3)).toNat))) - 48)))]) (st' := []) (m' := mu m 33 3 ((m 33 3) + 1)) (fun fx hfx o hk => ?_) ?_
      · refine r_k (pc' := 31) (v := .inl 1000) hM_28 d_28_28 rfl rfl ?_
        refine r_ld (pc' := 32) hM_28 d_28_31 rfl rfl ?_
        refine r_k (pc' := 34) (v := .inl 10) hM_28 d_28_32 rfl rfl ?_
        refine r_b (pc' := 35) (z := (x * 10)) hM_28 d_28_34 rfl rfl ?_
        refine r_ld (pc' := 36) hM_28 d_28_35 rfl rfl ?_
        refine r_gR (pc' := 39) (v := 1) hM_28 d_28_36 rfl (by decide +kernel) ?_
        refine r_ld (pc' := 40) hM_28 d_28_39 rfl rfl ?_
        refine r_gI (pc' := 43) (k0 := 3) hM_28 d_28_40 rfl (by decide +kernel) ?_
        refine r_ba (pc' := 44) (n := 900) hM_28 d_28_43 rfl rfl (by decide) hz3 ?_
        refine r_b (pc' := 45) (z := ((x * 10) + (m 1 ((am_s (m 33 3)).toNat)))) hM_28 d_28_44 rfl rfl ?_
        refine r_k (pc' := 47) (v := .inl 48) hM_28 d_28_45 rfl rfl ?_
        refine r_b (pc' := 48) (z := (((x * 10) + (m 1 ((am_s (m 33 3)).toNat))) - 48)) hM_28 d_28_47 rfl rfl ?_
        refine r_cl (pc' := 51) (c := (14, 2)) (a := [.inl 1000, .inl (((x * 10) + (m 1 ((am_s (m 33 3)).toNat))) - 48)]) (q := []) hM_28 d_28_48 rfl (by decide +kernel) hM_14 rfl rfl rfl (Nat.le_of_ble_eq_true rfl) (Nat.le_of_ble_eq_true rfl) (Or.inl rfl) (c_14  m 1000 (((x * 10) + (m 1 ((am_s (m 33 3)).toNat))) - 48)) (Nat.le_of_ble_eq_true rfl) ?_
        show rn fx 1 (0, 0) 28 51 [some (.inr (.inr (some 33))), some (.inl x)] [.inl (v_14 m 1000 (((x * 10) + (m 1 ((am_s (m 33 3)).toNat))) - 48))] (st0 m) o
        refine r_sto (pc' := 52) (ls' := [some (.inr (.inr (some 33))), some (.inl (v_14 m 1000 (((x * 10) + (m 1 ((am_s (m 33 3)).toNat))) - 48)))]) hM_28 d_28_51 rfl rfl ?_
        refine r_ld (pc' := 53) hM_28 d_28_52 rfl rfl ?_
        refine r_stk (pc' := 54) (st' := [.inr (.inr (some 33)), .inr (.inr (some 33))]) hM_28 d_28_53 rfl rfl ?_
        refine r_gI (pc' := 57) (k0 := 3) hM_28 d_28_54 rfl (by decide +kernel) ?_
        refine r_k (pc' := 58) (v := .inl 1) hM_28 d_28_57 rfl rfl ?_
        refine r_b (pc' := 59) (z := ((m 33 3) + 1)) hM_28 d_28_58 rfl rfl ?_
        refine r_pI (pc' := 62) (k0 := 3) hM_28 d_28_59 rfl (by decide +kernel) ?_
        refine r_go (pc' := 2) hM_28 d_28_62 (by decide) ?_
        exact hk
      exact H
theorem u_28_0 {Q : List am_V → am_M → Prop} {m : am_M}   (H : ok 1 28 2 [some (.inr (.inr (some 33))), some (.inl 0)] [] m Q) : ok 1 28 0 [some (.inr (.inr (some 33))), none] [] m Q := by
  refine ok_sg (pc' := 2) (ls' := [some (.inr (.inr (some 33))), some (.inl 0)]) (st' := []) (m' := m) (fun fx hfx o hk => ?_) ?_
  · refine r_k (pc' := 1) (v := .inl 0) hM_28 d_28_0 rfl rfl ?_
    refine r_sto (pc' := 2) (ls' := [some (.inr (.inr (some 33))), some (.inl 0)]) hM_28 d_28_1 rfl rfl ?_
    exact hk
  exact H
theorem z_28   (m : am_M)  (hq : RDR m ∧ m 33 5 = m 33 3) : ok 1 28 0 (am_ent 2 [.inr (.inr (some 33))]) [] m (fun rr m' => rr = [] ∧ m' 33 3 = ((spn chd (m 1) (m 33 2).toNat (m 33 3).toNat : Nat) : Int) ∧ m' 33 4 = (if spn chd (m 1) (m 33 2).toNat (m 33 3).toNat - (m 33 3).toNat ≤ 3 then 2 else 4) ∧ (spn chd (m 1) (m 33 2).toNat (m 33 3).toNat - (m 33 3).toNat ≤ 3 → m' 33 6 = dvl (m 1) (m 33 3).toNat (spn chd (m 1) (m 33 2).toNat (m 33 3).toNat - (m 33 3).toNat)) ∧ ∀ a k, ¬ (a = 33 ∧ (k = 3 ∨ k = 4 ∨ k = 6)) → m' a k = m a k) := by
  show ok 1 28 0 [some (.inr (.inr (some 33))), none] [] m _
  obtain ⟨⟨⟨w1, w3, w4⟩, hT⟩, w5⟩ := hq
  obtain ⟨n, hn⟩ : ∃ n : Nat, m 33 2 = (n : Int) := ⟨(m 33 2).toNat, by omega⟩
  obtain ⟨p, hp⟩ : ∃ p : Nat, m 33 3 = (p : Int) := ⟨(m 33 3).toNat, by omega⟩
  rw [hn] at w3 w4 hT
  rw [hp] at w1 w3 w5
  rw [hn, hp]
  simp only [Int.toNat_natCast]
  refine u_28_0 ?_
  refine ok_lp (σ := Int) (fun x => [some (.inr (.inr (some 33))), some (.inl x)]) (fun x M => ∃ k : Nat, M 33 3 = ((p + k : Nat) : Int) ∧ p + k ≤ n ∧ (k ≤ 3 → x = dvl (m 1) p k) ∧ (0 ≤ x ∧ x ≤ 1000 ∧ (k = 0 → x ≤ 0) ∧ (k = 1 → x ≤ 9) ∧ (k = 2 → x ≤ 99)) ∧ spn chd (m 1) n (p + k) = spn chd (m 1) n p ∧ ∀ a k, ¬ (a = 33 ∧ k = 3) → M a k = m a k) (fun _ M => ((n : Int) - M 33 3).toNat) ?_ 0 m ⟨0, by rw [hp]; rfl, by omega, fun _ => rfl, by omega, rfl, fun _ _ _ => rfl⟩
  rintro x M ⟨k, hA, hA2, hx, hxb, hS, hF⟩ IH
  have e2 : M 33 2 = (n : Int) := by rw [hF 33 2 (by omega), hn]
  have e5 : M 33 5 = (p : Int) := by rw [hF 33 5 (by omega), ← w5]
  have e1 : M 1 = m 1 := by
    funext j
    exact hF 1 j (by omega)
  have hEnd : ¬ (p + k < n ∧ chd (m 1 (p + k)) = true) → ∀ y : Int, y = (if ((p + k : Nat) : Int) - (p : Int) ≤ 3 then 2 else 4) → mu (mu M 33 4 y) 33 6 x 33 3 = ((spn chd (m 1) n p : Nat) : Int) ∧ mu (mu M 33 4 y) 33 6 x 33 4 = (if spn chd (m 1) n p - p ≤ 3 then 2 else 4) ∧ (spn chd (m 1) n p - p ≤ 3 → mu (mu M 33 4 y) 33 6 x 33 6 = dvl (m 1) p (spn chd (m 1) n p - p)) ∧ ∀ a k, ¬ (a = 33 ∧ (k = 3 ∨ k = 4 ∨ k = 6)) → mu (mu M 33 4 y) 33 6 x a k = m a k := by
    intro hno y hy
    rw [← hS, spn_no hno, show p + k - p = k by omega]
    refine ⟨by rw [mu_o (by omega), mu_o (by omega), hA], ?_, fun h3 => by rw [mu_same, hx h3], fun r j hj => ?_⟩
    · rw [mu_o (by omega), mu_same, hy]
      by_cases h3 : k ≤ 3
      · rw [if_pos h3, if_pos (by omega)]
      · rw [if_neg h3, if_neg (by omega)]
    · rw [mu_o (by omega), mu_o (by omega)]
      exact hF r j (by omega)
  refine u_28_2 ?_
  rw [e2, e5, e1, hA, am_s_id (z := (n : Int)) (by omega) (by omega), am_s_id (z := ((p + k : Nat) : Int)) (by omega) (by omega), am_s_id (z := ((p + k : Nat) : Int) - (p : Int)) (by omega) (by omega)]
  simp only [Int.toNat_natCast]
  refine ⟨fun q y hy => ⟨(by first | rfl | trivial), hEnd (fun zz => absurd zz.1 (by omega)) y hy⟩, fun q => ⟨⟨by omega, by omega⟩, ⟨by have := hT (p + k) (by omega); omega, by have := hT (p + k) (by omega); omega⟩, fun q2 y hy => ⟨(by first | rfl | trivial), hEnd (fun zz => q2 zz.2) y hy⟩, fun q2 => ?_⟩⟩
  have hd := chd_t.mp q2
  rw [v14 (by omega) (by omega) (by omega) (by omega)]
  refine IH _ _ ⟨k + 1, ?_, by omega, fun h3 => ?_, ?_, ?_, fun r j hj => ?_⟩ ?_
  · rw [mu_same]; omega
  · rw [dvl_s, ← hx (by omega)]
    have : k = 0 ∨ k = 1 ∨ k = 2 := by omega
    omega
  · omega
  · rw [← hS, spn_go (a := p + k) (by omega) q2, Nat.add_assoc]
  · rw [mu_o hj]; exact hF r j hj
  · rw [mu_same, hA]; omega
theorem u_15_60 {Q : List am_V → am_M → Prop} {m : am_M}   (H : ((am_s (m 33 3) < am_s (m 33 2)) → (0 ≤ am_s (m 33 3) ∧ am_s (m 33 3) < (900 : Nat)) ∧ ((-128 ≤ (m 1 ((am_s (m 33 3)).toNat)) ∧ (m 1 ((am_s (m 33 3)).toNat)) ≤ 255) ∧ (((¬ (chl (m 1 ((am_s (m 33 3)).toNat)) = true)) → ((¬ (chd (m 1 ((am_s (m 33 3)).toNat)) = true)) → ∀ y1 : Int, y1 = (if ¬ am_s (m 1 ((am_s (m 33 3)).toNat)) = 59 then 4 else 3) → Q [] (mu (mu m 33 4 y1) 33 3 ((m 33 3) + 1))) ∧ ((chd (m 1 ((am_s (m 33 3)).toNat)) = true) → (RDR m ∧ m 33 5 = m 33 3) ∧ (∀ (m1 : am_M), (m1 33 3 = ((spn chd (m 1) (m 33 2).toNat (m 33 3).toNat : Nat) : Int) ∧ m1 33 4 = (if spn chd (m 1) (m 33 2).toNat (m 33 3).toNat - (m 33 3).toNat ≤ 3 then 2 else 4) ∧ (spn chd (m 1) (m 33 2).toNat (m 33 3).toNat - (m 33 3).toNat ≤ 3 → m1 33 6 = dvl (m 1) (m 33 3).toNat (spn chd (m 1) (m 33 2).toNat (m 33 3).toNat - (m 33 3).toNat)) ∧ ∀ a k, ¬ (a = 33 ∧ (k = 3 ∨ k = 4 ∨ k = 6)) → m1 a k = m a k) → Q [] m1))) ∧ ((chl (m 1 ((am_s (m 33 3)).toNat)) = true) → (RDR (mu m 33 4 1)) ∧ (∀ (m2 : am_M), (m2 33 3 = ((spn chl ((mu m 33 4 1) 1) ((mu m 33 4 1) 33 2).toNat ((mu m 33 4 1) 33 3).toNat : Nat) : Int) ∧ ∀ a k, ¬ (a = 33 ∧ k = 3) → m2 a k = (mu m 33 4 1) a k) → Q [] m2))))) ∧ ((¬ (am_s (m 33 3) < am_s (m 33 2))) → Q [] (mu m 33 4 0))) : ok 6 15 60 [some (.inr (.inr (some 33)))] [] m Q := by
  refine ok_sg (pc' := 68) (ls' := [some (.inr (.inr (some 33)))]) (st' := [.inl (m 33 2), .inl (m 33 3)]) (m' := m) (fun fx hfx o hk => ?_) ?_
  · refine r_ld (pc' := 61) hM_15 d_15_60 rfl rfl ?_
    refine r_gI (pc' := 64) (k0 := 3) hM_15 d_15_61 rfl (by decide +kernel) ?_
    refine r_ld (pc' := 65) hM_15 d_15_64 rfl rfl ?_
    refine r_gI (pc' := 68) (k0 := 2) hM_15 d_15_65 rfl (by decide +kernel) ?_
    exact hk
  refine ok_ic (pc' := 79) (pc2 := 71) hM_15 d_15_68 (by decide) rfl (fun hz1 => ?_) (fun hz1 => ?_)
  · have H := H.1 hz1
    obtain ⟨hz2, H⟩ := H
    obtain ⟨hz3, H⟩ := H
    refine ok_sg (pc' := 91) (ls' := [some (.inr (.inr (some 33)))]) (st' := [.inl ((if chl (m 1 ((am_s (m 33 3)).toNat)) = true then 1 else 0))]) (m' := m) (fun fx hfx o hk => ?_) ?_
    · refine r_ld (pc' := 80) hM_15 d_15_79 rfl rfl ?_
      refine r_gR (pc' := 83) (v := 1) hM_15 d_15_80 rfl (by decide +kernel) ?_
      refine r_ld (pc' := 84) hM_15 d_15_83 rfl rfl ?_
      refine r_gI (pc' := 87) (k0 := 3) hM_15 d_15_84 rfl (by decide +kernel) ?_
      refine r_ba (pc' := 88) (n := 900) hM_15 d_15_87 rfl rfl (by decide) hz2 ?_
      refine r_cl (pc' := 91) (c := (16, 2)) (a := [.inl (m 1 ((am_s (m 33 3)).toNat))]) (q := []) hM_15 d_15_88 rfl (by decide +kernel) hM_16 rfl rfl rfl (Nat.le_of_ble_eq_true rfl) (Nat.le_of_ble_eq_true rfl) (Or.inl rfl) (n_16  m (m 1 ((am_s (m 33 3)).toNat)) hz3) (Nat.le_of_ble_eq_true rfl) ?_
      show rn fx 6 (0, 0) 15 91 [some (.inr (.inr (some 33)))] [.inl ((if chl (m 1 ((am_s (m 33 3)).toNat)) = true then 1 else 0))] (st0 m) o
      exact hk
    refine ok_if (pc' := 106) (pc2 := 94) hM_15 d_15_91 (by decide) rfl (fun hz4 => ?_) (fun hz4 => ?_)
    · have H := H.1 (as_ite.mp hz4)
      refine ok_sg (pc' := 118) (ls' := [some (.inr (.inr (some 33)))]) (st' := [.inl ((if chd (m 1 ((am_s (m 33 3)).toNat)) = true then 1 else 0))]) (m' := m) (fun fx hfx o hk => ?_) ?_
      · refine r_ld (pc' := 107) hM_15 d_15_106 rfl rfl ?_
        refine r_gR (pc' := 110) (v := 1) hM_15 d_15_107 rfl (by decide +kernel) ?_
        refine r_ld (pc' := 111) hM_15 d_15_110 rfl rfl ?_
        refine r_gI (pc' := 114) (k0 := 3) hM_15 d_15_111 rfl (by decide +kernel) ?_
        refine r_ba (pc' := 115) (n := 900) hM_15 d_15_114 rfl rfl (by decide) hz2 ?_
        refine r_cl (pc' := 118) (c := (27, 2)) (a := [.inl (m 1 ((am_s (m 33 3)).toNat))]) (q := []) hM_15 d_15_115 rfl (by decide +kernel) hM_27 rfl rfl rfl (Nat.le_of_ble_eq_true rfl) (Nat.le_of_ble_eq_true rfl) (Or.inl rfl) (n_27  m (m 1 ((am_s (m 33 3)).toNat)) hz3) (Nat.le_of_ble_eq_true rfl) ?_
        show rn fx 6 (0, 0) 15 118 [some (.inr (.inr (some 33)))] [.inl ((if chd (m 1 ((am_s (m 33 3)).toNat)) = true then 1 else 0))] (st0 m) o
        exact hk
      refine ok_if (pc' := 128) (pc2 := 121) hM_15 d_15_118 (by decide) rfl (fun hz5 => ?_) (fun hz5 => ?_)
      · have H := H.1 (as_ite.mp hz5)
        refine ok_sg (pc' := 140) (ls' := [some (.inr (.inr (some 33)))]) (st' := [.inl 59, .inl (m 1 ((am_s (m 33 3)).toNat)), .inr (.inr (some 33))]) (m' := m) (fun fx hfx o hk => ?_) ?_
        · refine r_ld (pc' := 129) hM_15 d_15_128 rfl rfl ?_
          refine r_ld (pc' := 130) hM_15 d_15_129 rfl rfl ?_
          refine r_gR (pc' := 133) (v := 1) hM_15 d_15_130 rfl (by decide +kernel) ?_
          refine r_ld (pc' := 134) hM_15 d_15_133 rfl rfl ?_
          refine r_gI (pc' := 137) (k0 := 3) hM_15 d_15_134 rfl (by decide +kernel) ?_
          refine r_ba (pc' := 138) (n := 900) hM_15 d_15_137 rfl rfl (by decide) hz2 ?_
          refine r_k (pc' := 140) (v := .inl 59) hM_15 d_15_138 rfl rfl ?_
          exact hk
        refine ok_sg (pc' := 148) (ls' := [some (.inr (.inr (some 33)))]) (st' := [.inl (if ¬ am_s (m 1 ((am_s (m 33 3)).toNat)) = 59 then 4 else 3), .inr (.inr (some 33))]) (m' := m) (fun fx hfx o K => ?_) ?_
        · refine r_ic (pc' := 147) (pc2 := 143) hM_15 d_15_140 (by decide) rfl (fun hz6 => ?_) (fun hz6 => ?_)
          · have hz6 : ¬ am_s (m 1 ((am_s (m 33 3)).toNat)) = 59 := hz6
            rw [if_pos hz6] at K
            refine r_k (pc' := 148) (v := .inl 4) hM_15 d_15_147 rfl rfl ?_
            exact K
          · have hz6 : ¬ (¬ am_s (m 1 ((am_s (m 33 3)).toNat)) = 59) := hz6
            rw [if_neg hz6] at K
            refine r_k (pc' := 144) (v := .inl 3) hM_15 d_15_143 rfl rfl ?_
            refine r_go (pc' := 148) hM_15 d_15_144 (by decide) ?_
            exact K
        have K : ∀ y1 : Int, y1 = (if ¬ am_s (m 1 ((am_s (m 33 3)).toNat)) = 59 then 4 else 3) → ok 6 15 148 [some (.inr (.inr (some 33)))] [.inl y1, .inr (.inr (some 33))] m Q := by
          intro y1 hy1
          replace H := H y1 hy1
          refine ok_sg (pc' := 161) (ls' := [some (.inr (.inr (some 33)))]) (st' := []) (m' := mu (mu m 33 4 y1) 33 3 ((m 33 3) + 1)) (fun fx hfx o hk => ?_) ?_
          · refine r_pI (pc' := 151) (k0 := 4) hM_15 d_15_148 rfl (by decide +kernel) ?_
            refine r_ld (pc' := 152) hM_15 d_15_151 rfl rfl ?_
            refine r_stk (pc' := 153) (st' := [.inr (.inr (some 33)), .inr (.inr (some 33))]) hM_15 d_15_152 rfl rfl ?_
            refine r_gIe (pc' := 156) (k0 := 3) (z := (m 33 3)) hM_15 d_15_153 rfl (by decide +kernel) (mu_k (by omega)) ?_
            refine r_k (pc' := 157) (v := .inl 1) hM_15 d_15_156 rfl rfl ?_
            refine r_b (pc' := 158) (z := ((m 33 3) + 1)) hM_15 d_15_157 rfl rfl ?_
            refine r_pI (pc' := 161) (k0 := 3) hM_15 d_15_158 rfl (by decide +kernel) ?_
            exact hk
          exact ok_rt (fun fx _ => rt_v hM_15 d_15_161 rfl) H
        exact K _ rfl
      · have H := H.2 (as_iteN.mp hz5)
        obtain ⟨hz7, H⟩ := H
        refine ok_sg (pc' := 122) (ls' := [some (.inr (.inr (some 33)))]) (st' := [.inr (.inr (some 33))]) (m' := m) (fun fx hfx o hk => ?_) ?_
        · refine r_ld (pc' := 122) hM_15 d_15_121 rfl rfl ?_
          exact hk
        refine ok_cl (pc' := 125) (c := (28, 0)) (a := [.inr (.inr (some 33))]) (q := []) hM_15 d_15_122 rfl (by decide +kernel) hM_28 rfl rfl rfl (Nat.le_of_ble_eq_true rfl) (Nat.le_of_ble_eq_true rfl) (Or.inr rfl) (z_28  m  hz7) (Nat.le_of_ble_eq_true rfl) ?_
        rintro _ m1 ⟨rfl, hz8⟩
        replace H := H  m1 hz8
        show ok 6 15 125 [some (.inr (.inr (some 33)))] [] m1 Q
        refine ok_sg (pc' := 161) (ls' := [some (.inr (.inr (some 33)))]) (st' := []) (m' := m1) (fun fx hfx o hk => ?_) ?_
        · refine r_go (pc' := 161) hM_15 d_15_125 (by decide) ?_
          exact hk
        exact ok_rt (fun fx _ => rt_v hM_15 d_15_161 rfl) H
    · have H := H.2 (as_iteN.mp hz4)
      obtain ⟨hz9, H⟩ := H
      refine ok_sg (pc' := 100) (ls' := [some (.inr (.inr (some 33)))]) (st' := [.inr (.inr (some 33))]) (m' := mu m 33 4 1) (fun fx hfx o hk => ?_) ?_
      · refine r_ld (pc' := 95) hM_15 d_15_94 rfl rfl ?_
        refine r_k (pc' := 96) (v := .inl 1) hM_15 d_15_95 rfl rfl ?_
        refine r_pI (pc' := 99) (k0 := 4) hM_15 d_15_96 rfl (by decide +kernel) ?_
        refine r_ld (pc' := 100) hM_15 d_15_99 rfl rfl ?_
        exact hk
      refine ok_cl (pc' := 103) (c := (17, 0)) (a := [.inr (.inr (some 33))]) (q := []) hM_15 d_15_100 rfl (by decide +kernel) hM_17 rfl rfl rfl (Nat.le_of_ble_eq_true rfl) (Nat.le_of_ble_eq_true rfl) (Or.inr rfl) (z_17  (mu m 33 4 1)  hz9) (Nat.le_of_ble_eq_true rfl) ?_
      rintro _ m2 ⟨rfl, hz10⟩
      replace H := H  m2 hz10
      show ok 6 15 103 [some (.inr (.inr (some 33)))] [] m2 Q
      refine ok_sg (pc' := 161) (ls' := [some (.inr (.inr (some 33)))]) (st' := []) (m' := m2) (fun fx hfx o hk => ?_) ?_
      · refine r_go (pc' := 161) hM_15 d_15_103 (by decide) ?_
        exact hk
      exact ok_rt (fun fx _ => rt_v hM_15 d_15_161 rfl) H
  · have H := H.2 hz1
    refine ok_sg (pc' := 161) (ls' := [some (.inr (.inr (some 33)))]) (st' := []) (m' := mu m 33 4 0) (fun fx hfx o hk => ?_) ?_
    · refine r_ld (pc' := 72) hM_15 d_15_71 rfl rfl ?_
      refine r_k (pc' := 73) (v := .inl 0) hM_15 d_15_72 rfl rfl ?_
      refine r_pI (pc' := 76) (k0 := 4) hM_15 d_15_73 rfl (by decide +kernel) ?_
      refine r_go (pc' := 161) hM_15 d_15_76 (by decide) ?_
      exact hk
    exact ok_rt (fun fx _ => rt_v hM_15 d_15_161 rfl) H
theorem u_15_0 {Q : List am_V → am_M → Prop} {m : am_M}   (H : ((am_s (m 33 2) ≤ am_s (m 33 3)) → ok 6 15 60 [some (.inr (.inr (some 33)))] [] (mu m 33 5 (m 33 3)) Q) ∧ ((¬ (am_s (m 33 2) ≤ am_s (m 33 3))) → (0 ≤ am_s (m 33 3) ∧ am_s (m 33 3) < (900 : Nat)) ∧ (((am_s (m 1 ((am_s (m 33 3)).toNat)) = 10) → ok 6 15 0 [some (.inr (.inr (some 33)))] [] (mu m 33 3 ((m 33 3) + 1)) Q) ∧ ((¬ (am_s (m 1 ((am_s (m 33 3)).toNat)) = 10)) → ((¬ am_s (m 1 ((am_s (m 33 3)).toNat)) = 32) → ok 6 15 60 [some (.inr (.inr (some 33)))] [] (mu m 33 5 (m 33 3)) Q) ∧ ((am_s (m 1 ((am_s (m 33 3)).toNat)) = 32) → ok 6 15 0 [some (.inr (.inr (some 33)))] [] (mu m 33 3 ((m 33 3) + 1)) Q))))) : ok 6 15 0 [some (.inr (.inr (some 33)))] [] m Q := by
  refine ok_sg (pc' := 8) (ls' := [some (.inr (.inr (some 33)))]) (st' := [.inl (m 33 2), .inl (m 33 3)]) (m' := m) (fun fx hfx o hk => ?_) ?_
  · refine r_ld (pc' := 1) hM_15 d_15_0 rfl rfl ?_
    refine r_gI (pc' := 4) (k0 := 3) hM_15 d_15_1 rfl (by decide +kernel) ?_
    refine r_ld (pc' := 5) hM_15 d_15_4 rfl rfl ?_
    refine r_gI (pc' := 8) (k0 := 2) hM_15 d_15_5 rfl (by decide +kernel) ?_
    exact hk
  refine ok_ic (pc' := 52) (pc2 := 11) hM_15 d_15_8 (by decide) rfl (fun hz1 => ?_) (fun hz1 => ?_)
  · have H := H.1 hz1
    refine ok_sg (pc' := 60) (ls' := [some (.inr (.inr (some 33)))]) (st' := []) (m' := mu m 33 5 (m 33 3)) (fun fx hfx o hk => ?_) ?_
    · refine r_ld (pc' := 53) hM_15 d_15_52 rfl rfl ?_
      refine r_ld (pc' := 54) hM_15 d_15_53 rfl rfl ?_
      refine r_gI (pc' := 57) (k0 := 3) hM_15 d_15_54 rfl (by decide +kernel) ?_
      refine r_pI (pc' := 60) (k0 := 5) hM_15 d_15_57 rfl (by decide +kernel) ?_
      exact hk
    exact H
  · have H := H.2 hz1
    obtain ⟨hz2, H⟩ := H
    refine ok_sg (pc' := 22) (ls' := [some (.inr (.inr (some 33)))]) (st' := [.inl 10, .inl (m 1 ((am_s (m 33 3)).toNat))]) (m' := m) (fun fx hfx o hk => ?_) ?_
    · refine r_ld (pc' := 12) hM_15 d_15_11 rfl rfl ?_
      refine r_gR (pc' := 15) (v := 1) hM_15 d_15_12 rfl (by decide +kernel) ?_
      refine r_ld (pc' := 16) hM_15 d_15_15 rfl rfl ?_
      refine r_gI (pc' := 19) (k0 := 3) hM_15 d_15_16 rfl (by decide +kernel) ?_
      refine r_ba (pc' := 20) (n := 900) hM_15 d_15_19 rfl rfl (by decide) hz2 ?_
      refine r_k (pc' := 22) (v := .inl 10) hM_15 d_15_20 rfl rfl ?_
      exact hk
    refine ok_ic (pc' := 39) (pc2 := 25) hM_15 d_15_22 (by decide) rfl (fun hz3 => ?_) (fun hz3 => ?_)
    · have H := H.1 hz3
      refine ok_sg (pc' := 0) (ls' := [some (.inr (.inr (some 33)))]) (st' := []) (m' := mu m 33 3 ((m 33 3) + 1)) (fun fx hfx o hk => ?_) ?_
      · refine r_ld (pc' := 40) hM_15 d_15_39 rfl rfl ?_
        refine r_stk (pc' := 41) (st' := [.inr (.inr (some 33)), .inr (.inr (some 33))]) hM_15 d_15_40 rfl rfl ?_
        refine r_gI (pc' := 44) (k0 := 3) hM_15 d_15_41 rfl (by decide +kernel) ?_
        refine r_k (pc' := 45) (v := .inl 1) hM_15 d_15_44 rfl rfl ?_
        refine r_b (pc' := 46) (z := ((m 33 3) + 1)) hM_15 d_15_45 rfl rfl ?_
        refine r_pI (pc' := 49) (k0 := 3) hM_15 d_15_46 rfl (by decide +kernel) ?_
        refine r_go (pc' := 0) hM_15 d_15_49 (by decide) ?_
        exact hk
      exact H
    · have H := H.2 hz3
      refine ok_sg (pc' := 36) (ls' := [some (.inr (.inr (some 33)))]) (st' := [.inl 32, .inl (m 1 ((am_s (m 33 3)).toNat))]) (m' := m) (fun fx hfx o hk => ?_) ?_
      · refine r_ld (pc' := 26) hM_15 d_15_25 rfl rfl ?_
        refine r_gR (pc' := 29) (v := 1) hM_15 d_15_26 rfl (by decide +kernel) ?_
        refine r_ld (pc' := 30) hM_15 d_15_29 rfl rfl ?_
        refine r_gI (pc' := 33) (k0 := 3) hM_15 d_15_30 rfl (by decide +kernel) ?_
        refine r_ba (pc' := 34) (n := 900) hM_15 d_15_33 rfl rfl (by decide) hz2 ?_
        refine r_k (pc' := 36) (v := .inl 32) hM_15 d_15_34 rfl rfl ?_
        exact hk
      refine ok_ic (pc' := 52) (pc2 := 39) hM_15 d_15_36 (by decide) rfl (fun hz4 => ?_) (fun hz4 => ?_)
      · have H := H.1 hz4
        refine ok_sg (pc' := 60) (ls' := [some (.inr (.inr (some 33)))]) (st' := []) (m' := mu m 33 5 (m 33 3)) (fun fx hfx o hk => ?_) ?_
        · refine r_ld (pc' := 53) hM_15 d_15_52 rfl rfl ?_
          refine r_ld (pc' := 54) hM_15 d_15_53 rfl rfl ?_
          refine r_gI (pc' := 57) (k0 := 3) hM_15 d_15_54 rfl (by decide +kernel) ?_
          refine r_pI (pc' := 60) (k0 := 5) hM_15 d_15_57 rfl (by decide +kernel) ?_
          exact hk
        exact H
      · have H := H.2 (Decidable.not_not.mp hz4)
        refine ok_sg (pc' := 0) (ls' := [some (.inr (.inr (some 33)))]) (st' := []) (m' := mu m 33 3 ((m 33 3) + 1)) (fun fx hfx o hk => ?_) ?_
        · refine r_ld (pc' := 40) hM_15 d_15_39 rfl rfl ?_
          refine r_stk (pc' := 41) (st' := [.inr (.inr (some 33)), .inr (.inr (some 33))]) hM_15 d_15_40 rfl rfl ?_
          refine r_gI (pc' := 44) (k0 := 3) hM_15 d_15_41 rfl (by decide +kernel) ?_
          refine r_k (pc' := 45) (v := .inl 1) hM_15 d_15_44 rfl rfl ?_
          refine r_b (pc' := 46) (z := ((m 33 3) + 1)) hM_15 d_15_45 rfl rfl ?_
          refine r_pI (pc' := 49) (k0 := 3) hM_15 d_15_46 rfl (by decide +kernel) ?_
          refine r_go (pc' := 0) hM_15 d_15_49 (by decide) ?_
          exact hk
        exact H
/-- the number of a word in the model's order; a token's kind there -/
def mkw (w : Int) : Int := if w < 0 then 11 else ([6, 7, 8, 9, 10, 0, 5, 1, 2, 3, 4] : List Int).getD w.toNat 11
theorem mkw_r {w : Int} (h : -1 ≤ w ∧ w ≤ 10) : 0 ≤ mkw w ∧ mkw w ≤ 11 := by
  have : w = -1 ∨ w = 0 ∨ w = 1 ∨ w = 2 ∨ w = 3 ∨ w = 4 ∨ w = 5 ∨ w = 6 ∨ w = 7 ∨ w = 8 ∨ w = 9 ∨ w = 10 := by omega
  rcases this with h | h | h | h | h | h | h | h | h | h | h | h <;> rw [h] <;> decide
/-- place, kind, number, end -/
noncomputable def tkp (tx : Nat → Int) (n p : Nat) : Nat × Int × Int × Nat := if n ≤ p then (p, 14, 0, p) else if chl (tx p) = true then (p, mkw (wno tx p (spn chl tx n p)), 0, spn chl tx n p) else if chd (tx p) = true then (if spn chd tx n p - p ≤ 3 then (p, 12, dvl tx p (spn chd tx n p - p), spn chd tx n p) else (p, 15, 0, spn chd tx n p)) else if tx p = 59 then (p, 13, 0, p + 1) else (p, 15, 0, p + 1)
noncomputable def tok (tx : Nat → Int) (n a : Nat) : Nat × Int × Int × Nat := tkp tx n (spn chw tx n a)
/-- which word stands between tokenPlace and at -/
noncomputable def cwn (m : am_M) : Int := wno (m 1) (m 33 5).toNat (m 33 3).toNat
noncomputable def ckd (m : am_M) : Int := if m 33 4 = 1 then mkw (cwn m) else if m 33 4 = 2 then 12 else if m 33 4 = 3 then 13 else if m 33 4 = 0 then 14 else 15
/-- the token that the Reader holds -/
noncomputable def ctok (m : am_M) : Nat × Int × Int × Nat := ((m 33 5).toNat, ckd m, if ckd m = 12 then m 33 6 else 0, (m 33 3).toNat)
def RV (m : am_M) : Prop := RDR m ∧ (0 ≤ m 33 5 ∧ m 33 5 ≤ m 33 3) ∧ (0 ≤ m 33 4 ∧ m 33 4 ≤ 4) ∧ (m 33 4 = 1 → -1 ≤ cwn m ∧ cwn m ≤ 10) ∧ (m 33 4 = 2 → 0 ≤ m 33 6 ∧ m 33 6 ≤ 999)
def frT (m m' : am_M) : Prop := ∀ a k, ¬ (a = 33 ∧ 3 ≤ k ∧ k ≤ 6) → m' a k = m a k
theorem ckd_w {m : am_M} {w : Int} (h1 : m 33 4 = 1) (h2 : cwn m = w) (hw : -1 ≤ w ∧ w ≤ 10) {p b : Nat} (h3 : m 33 5 = (p : Int)) (h4 : m 33 3 = (b : Int)) : ctok m = (p, mkw w, 0, b) := by
  have e : ckd m = mkw w := by unfold ckd; rw [if_pos h1, h2]
  have := mkw_r hw
  unfold ctok
  rw [e, h3, h4, if_neg (by omega), Int.toNat_natCast, Int.toNat_natCast]
theorem ckd_n {m : am_M} {v : Int} (h1 : m 33 4 = 2) (h2 : m 33 6 = v) {p b : Nat} (h3 : m 33 5 = (p : Int)) (h4 : m 33 3 = (b : Int)) : ctok m = (p, 12, v, b) := by
  have e : ckd m = 12 := by unfold ckd; rw [if_neg (by omega), if_pos h1]
  unfold ctok
  rw [e, h3, h4, h2, if_pos rfl, Int.toNat_natCast, Int.toNat_natCast]
theorem ckd_o {m : am_M} {kd : Int} (h0 : m 33 4 = 0 ∧ kd = 14 ∨ m 33 4 = 3 ∧ kd = 13 ∨ m 33 4 = 4 ∧ kd = 15) {p b : Nat} (h3 : m 33 5 = (p : Int)) (h4 : m 33 3 = (b : Int)) : ctok m = (p, kd, 0, b) := by
  have e : ckd m = kd := by
    unfold ckd
    rw [if_neg (by omega), if_neg (by omega)]
    rcases h0 with ⟨h, e⟩ | ⟨h, e⟩ | ⟨h, e⟩
    · rw [if_neg (by omega), if_pos h, e]
    · rw [if_pos h, e]
    · rw [if_neg (by omega), if_neg (by omega), e]
  unfold ctok
  rw [e, h3, h4, if_neg (by omega), Int.toNat_natCast, Int.toNat_natCast]
theorem wno_b {tx : Nat → Int} {p b : Nat} : -1 ≤ wno tx p b ∧ wno tx p b ≤ 10 := by
  rcases wno_r (tx := tx) (p := p) (b := b) with h | ⟨j, h1, -, h2⟩ <;> omega
theorem dvl_b {tx : Nat → Int} {n p : Nat} : ∀ k, k ≤ 3 → p + k ≤ spn chd tx n p → (0 ≤ dvl tx p k ∧ dvl tx p k ≤ 999 ∧ (k = 0 → dvl tx p k ≤ 0) ∧ (k = 1 → dvl tx p k ≤ 9) ∧ (k = 2 → dvl tx p k ≤ 99)) ∧ spn chd tx n p = spn chd tx n (p + k) := by
  intro k
  induction k with
  | zero => intro _ _; exact ⟨⟨Int.le_refl _, by show (0 : Int) ≤ 999; decide, fun _ => Int.le_refl _, fun h => by omega, fun h => by omega⟩, rfl⟩
  | succ k ih =>
    intro h1 h2
    obtain ⟨i1, i2⟩ := ih (by omega) (by omega)
    have hc : p + k < n ∧ chd (tx (p + k)) = true := by
      by_cases hc : p + k < n ∧ chd (tx (p + k)) = true
      · exact hc
      · rw [i2, spn_no hc] at h2
        omega
    have hd := chd_t.mp hc.2
    rw [dvl_s]
    refine ⟨by omega, by rw [i2, spn_go hc.1 hc.2, Nat.add_assoc]⟩
theorem s60 {m0 m : am_M} (h0 : RDR m0) {p : Nat} (hp : m 33 3 = (p : Int)) (hp5 : m 33 5 = (p : Int)) (hpn : (p : Int) ≤ m0 33 2) (hF : frT m0 m) : ok 6 15 60 [some (.inr (.inr (some 33)))] [] m (fun rr m' => rr = [] ∧ ctok m' = tkp (m0 1) (m0 33 2).toNat p ∧ RV m' ∧ frT m0 m') := by
  obtain ⟨⟨w1, w3, w4⟩, hT⟩ := h0
  obtain ⟨n, hn⟩ : ∃ n : Nat, m0 33 2 = (n : Int) := ⟨(m0 33 2).toNat, by omega⟩
  have e1 : m 1 = m0 1 := by
    funext k
    exact hF 1 k (by omega)
  have e2 : m 33 2 = (n : Int) := by rw [hF 33 2 (by omega), hn]
  rw [hn] at w3 w4 hT hpn
  rw [hn, Int.toNat_natCast]
  have mkR : ∀ {m' : am_M} {b : Nat}, frT m0 m' → m' 33 5 = (p : Int) → m' 33 3 = (b : Int) → p ≤ b → b ≤ n → (0 ≤ m' 33 4 ∧ m' 33 4 ≤ 4) → (m' 33 4 = 2 → 0 ≤ m' 33 6 ∧ m' 33 6 ≤ 999) → RV m' := by
    intro m' b q1 q2 q3 q4 q5 q6 q8
    have f1 : m' 1 = m0 1 := by
      funext k
      exact q1 1 k (by omega)
    have f2 : m' 33 2 = (n : Int) := by rw [q1 33 2 (by omega), hn]
    refine ⟨⟨by omega, fun k hk => ?_⟩, by omega, q6, fun _ => wno_b, q8⟩
    rw [f1]
    exact hT k (by omega)
  have hRD : ∀ {m' : am_M}, frT m0 m' → m' 33 3 = (p : Int) → RDR m' := by
    intro m' q1 q3
    have f1 : m' 1 = m0 1 := by
      funext k
      exact q1 1 k (by omega)
    have f2 : m' 33 2 = (n : Int) := by rw [q1 33 2 (by omega), hn]
    refine ⟨by omega, fun k hk => ?_⟩
    rw [f1]
    exact hT k (by omega)
  have hmu : ∀ {m' : am_M} {k : Nat} {z : Int}, 3 ≤ k → k ≤ 6 → frT m0 m' → frT m0 (mu m' 33 k z) := by
    intro m' k z q1 q2 q3 r j hj
    rw [mu_o (by omega)]
    exact q3 r j hj
  refine u_15_60 ?_
  rw [e1, e2, hp, am_s_id (z := (n : Int)) (by omega) (by omega), am_s_id (z := (p : Int)) (by omega) (by omega)]
  simp only [Int.toNat_natCast]
  refine ⟨fun q => ⟨⟨by omega, by omega⟩, ⟨by have := hT p (by omega); omega, by have := hT p (by omega); omega⟩, fun q2 => ⟨fun q3 y hy => ⟨(by first | rfl | trivial), ?_, ?_, ?_⟩, fun q3 => ⟨⟨hRD hF hp, by omega⟩, ?_⟩⟩, fun q2 => ⟨hRD (hmu (by decide) (by decide) hF) (by rw [mu_o (by omega)]; exact hp), ?_⟩⟩, fun q => ⟨(by first | rfl | trivial), ?_, ?_, ?_⟩⟩
  · have hb : am_s (m0 1 p) = m0 1 p := am_s_id (by have := hT p (by omega); omega) (by have := hT p (by omega); omega)
    unfold tkp
    rw [if_neg (by omega), if_neg q2, if_neg q3]
    by_cases h59 : m0 1 p = 59
    · rw [if_neg (fun zz => zz (by rw [hb]; exact h59))] at hy
      rw [if_pos h59]
      exact ckd_o (Or.inr (Or.inl ⟨by rw [mu_o (by omega), mu_same, hy], rfl⟩)) (by rw [mu_o (by omega), mu_o (by omega), hp5]) (by rw [mu_same]; rfl)
    · rw [if_pos (by rw [hb]; exact h59)] at hy
      rw [if_neg h59]
      exact ckd_o (Or.inr (Or.inr ⟨by rw [mu_o (by omega), mu_same, hy], rfl⟩)) (by rw [mu_o (by omega), mu_o (by omega), hp5]) (by rw [mu_same]; rfl)
  · have hy2 : y = 3 ∨ y = 4 := by
      rw [hy]
      split
      · exact Or.inr rfl
      · exact Or.inl rfl
    have e4 : mu (mu m 33 4 y) 33 3 ((p : Int) + 1) 33 4 = y := by rw [mu_o (by omega), mu_same]
    refine mkR (b := p + 1) (hmu (by decide) (by decide) (hmu (by decide) (by decide) hF)) (by rw [mu_o (by omega), mu_o (by omega), hp5]) (by rw [mu_same]; rfl) (by omega) (by omega) (by rw [e4]; omega) (fun zz => ?_)
    rw [e4] at zz; omega
  · exact hmu (by decide) (by decide) (hmu (by decide) (by decide) hF)
  · rintro m1 ⟨a1, a2, a3, a4⟩
    have hb := spn_b (P := chd) (tx := m0 1) (n := n) (a := p) (by omega)
    have f5 : m1 33 5 = (p : Int) := by rw [a4 33 5 (by omega), hp5]
    have fT : frT m0 m1 := fun r k hk => by rw [a4 r k (by omega)]; exact hF r k hk
    refine ⟨(by first | rfl | trivial), ?_, ?_, fT⟩
    · unfold tkp
      rw [if_neg (by omega), if_neg q2, if_pos q3]
      by_cases h3 : spn chd (m0 1) n p - p ≤ 3
      · rw [if_pos h3] at a2 ⊢
        exact ckd_n a2 (a3 h3) f5 a1
      · rw [if_neg h3] at a2 ⊢
        exact ckd_o (Or.inr (Or.inr ⟨a2, rfl⟩)) f5 a1
    · refine mkR fT f5 a1 hb.1 hb.2 ?_ (fun zz => ?_)
      · rw [a2]; split <;> omega
      · rw [a2] at zz
        by_cases h3 : spn chd (m0 1) n p - p ≤ 3
        · rw [a3 h3]
          have := (dvl_b (tx := m0 1) (n := n) (p := p) (spn chd (m0 1) n p - p) h3 (by omega)).1
          omega
        · rw [if_neg h3] at zz
          omega
  · have g1 : mu m 33 4 1 1 = m0 1 := by
      funext k
      rw [mu_o (by omega)]
      exact hF 1 k (by omega)
    have g2 : mu m 33 4 1 33 2 = (n : Int) := by rw [mu_o (by omega), e2]
    have g3 : mu m 33 4 1 33 3 = (p : Int) := by rw [mu_o (by omega), hp]
    have g5 : mu m 33 4 1 33 5 = (p : Int) := by rw [mu_o (by omega), hp5]
    rw [g1, g2, g3]
    simp only [Int.toNat_natCast]
    rintro m1 ⟨a1, a4⟩
    have hb := spn_b (P := chl) (tx := m0 1) (n := n) (a := p) (by omega)
    have f5 : m1 33 5 = (p : Int) := by rw [a4 33 5 (by omega), g5]
    have f4 : m1 33 4 = 1 := by rw [a4 33 4 (by omega), mu_same]
    have fT : frT m0 m1 := fun r k hk => by rw [a4 r k (by omega), mu_o (by omega)]; exact hF r k hk
    have hwb := wno_b (tx := m0 1) (p := p) (b := spn chl (m0 1) n p)
    have f1 : m1 1 = m0 1 := by
      funext k
      exact fT 1 k (by omega)
    have hcw : cwn m1 = wno (m0 1) p (spn chl (m0 1) n p) := by
      unfold cwn
      rw [f1, f5, a1, Int.toNat_natCast, Int.toNat_natCast]
    refine ⟨(by first | rfl | trivial), ?_, ?_, fT⟩
    · unfold tkp
      rw [if_neg (by omega), if_pos q2]
      exact ckd_w f4 hcw hwb f5 a1
    · exact mkR fT f5 a1 hb.1 hb.2 (by omega) (fun zz => by omega)
  · unfold tkp
    rw [if_pos (by omega)]
    exact ckd_o (Or.inl ⟨by rw [mu_same], rfl⟩) (by rw [mu_o (by omega), hp5]) (by rw [mu_o (by omega), hp])
  · have e4 : mu m 33 4 0 33 4 = 0 := by rw [mu_same]
    refine mkR (b := p) (hmu (by decide) (by decide) hF) (by rw [mu_o (by omega), hp5]) (by rw [mu_o (by omega), hp]) (Nat.le_refl _) (by omega) (by rw [e4]; omega) (fun zz => ?_)
    rw [e4] at zz; omega
  · exact hmu (by decide) (by decide) hF
theorem z_15   (m : am_M)  (hq : RDR m) : ok 6 15 0 (am_ent 1 [.inr (.inr (some 33))]) [] m (fun rr m' => rr = [] ∧ ctok m' = tok (m 1) (m 33 2).toNat (m 33 3).toNat ∧ RV m' ∧ frT m m') := by
  show ok 6 15 0 [some (.inr (.inr (some 33)))] [] m _
  obtain ⟨⟨w1, w3, w4⟩, hT⟩ := id hq
  obtain ⟨n, hn⟩ : ∃ n : Nat, m 33 2 = (n : Int) := ⟨(m 33 2).toNat, by omega⟩
  have hnn : (m 33 2).toNat = n := by omega
  rw [hn] at w3 w4 hT
  refine ok_lp (σ := Unit) (fun _ => [some (.inr (.inr (some 33)))]) (fun _ M => ∃ a : Nat, M 33 3 = (a : Int) ∧ a ≤ n ∧ spn chw (m 1) n a = spn chw (m 1) n (m 33 3).toNat ∧ ∀ r k, ¬ (r = 33 ∧ k = 3) → M r k = m r k) (fun _ M => ((n : Int) - M 33 3).toNat) ?_ () m ⟨(m 33 3).toNat, by omega, by omega, rfl, fun _ _ _ => rfl⟩
  rintro - M ⟨a, ha, han, hS, hF⟩ IH
  have e1 : M 1 = m 1 := by
    funext k
    exact hF 1 k (by omega)
  have e2 : M 33 2 = (n : Int) := by rw [hF 33 2 (by omega), hn]
  have hend : ¬ (a < n ∧ chw (m 1 a) = true) → ok 6 15 60 [some (.inr (.inr (some 33)))] [] (mu M 33 5 (a : Int)) (fun rr m' => rr = [] ∧ ctok m' = tok (m 1) (m 33 2).toNat (m 33 3).toNat ∧ RV m' ∧ frT m m') := by
    intro hno
    have h := s60 (m0 := m) (m := mu M 33 5 (a : Int)) hq (p := a) (by rw [mu_o (by omega), ha]) (by rw [mu_same]) (by omega) (fun r k hk => by rw [mu_o (by omega)]; exact hF r k (by omega))
    have e : tok (m 1) (m 33 2).toNat (m 33 3).toNat = tkp (m 1) (m 33 2).toNat a := by
      unfold tok
      rw [hnn, ← hS, spn_no hno]
    rw [e]
    exact h
  have hgo : a < n → chw (m 1 a) = true → ok 6 15 0 [some (.inr (.inr (some 33)))] [] (mu M 33 3 ((a : Int) + 1)) (fun rr m' => rr = [] ∧ ctok m' = tok (m 1) (m 33 2).toNat (m 33 3).toNat ∧ RV m' ∧ frT m m') := by
    intro hl hw
    refine IH () _ ⟨a + 1, by rw [mu_same]; rfl, by omega, by rw [← hS, spn_go hl hw], fun r k hk => by rw [mu_o hk]; exact hF r k hk⟩ ?_
    rw [mu_same, ha]
    omega
  clear IH
  refine u_15_0 ?_
  rw [e1, e2, ha, am_s_id (z := (n : Int)) (by omega) (by omega), am_s_id (z := (a : Int)) (by omega) (by omega)]
  simp only [Int.toNat_natCast]
  refine ⟨fun q => hend (fun zz => absurd zz.1 (by omega)), fun q => ?_⟩
  have hTa := hT a (by omega)
  rw [am_s_id (z := m 1 a) (by omega) (by omega)]
  refine ⟨⟨by omega, by omega⟩, fun q2 => hgo (by omega) (chw_t.mpr (Or.inl q2)), fun q2 => ⟨fun q3 => hend (fun zz => ?_), fun q3 => hgo (by omega) (chw_t.mpr (Or.inr q3))⟩⟩
  rcases chw_t.mp zz.2 with h | h
  · exact q2 h
  · exact q3 h
theorem wno_iff {tx : Nat → Int} {p b j : Nat} (hj : j < 11) : wno tx p b = (j : Int) ↔ spl tx p b (wrd j) = true := by
  refine ⟨fun h => ?_, wno_is hj⟩
  rcases wno_r (tx := tx) (p := p) (b := b) with h1 | ⟨i, h1, h2, h3⟩
  · omega
  · have e : i = j := by omega
    rw [← e]
    exact h2
theorem uw_0 {Q : List am_V → am_M → Prop} {m : am_M}   (H : ((¬ am_s (m 33 4) = 1) → Q [.inl 0] m) ∧ ((am_s (m 33 4) = 1) → ((am_s ((m 33 3) - (m 33 5)) = 3) → (0 ≤ am_s ((m 33 5) + 0) ∧ am_s ((m 33 5) + 0) < (900 : Nat)) ∧ (((am_s (m 1 ((am_s ((m 33 5) + 0)).toNat)) = 108) → (0 ≤ am_s ((m 33 5) + 1) ∧ am_s ((m 33 5) + 1) < (900 : Nat)) ∧ (((am_s (m 1 ((am_s ((m 33 5) + 1)).toNat)) = 111) → (0 ≤ am_s ((m 33 5) + 2) ∧ am_s ((m 33 5) + 2) < (900 : Nat)) ∧ (((am_s (m 1 ((am_s ((m 33 5) + 2)).toNat)) = 119) → Q [.inl 1] m) ∧ ((¬ (am_s (m 1 ((am_s ((m 33 5) + 2)).toNat)) = 119)) → Q [.inl 0] m))) ∧ ((¬ (am_s (m 1 ((am_s ((m 33 5) + 1)).toNat)) = 111)) → Q [.inl 0] m))) ∧ ((¬ (am_s (m 1 ((am_s ((m 33 5) + 0)).toNat)) = 108)) → Q [.inl 0] m))) ∧ ((¬ (am_s ((m 33 3) - (m 33 5)) = 3)) → Q [.inl 0] m))) : ok 4 19 0 [some (.inr (.inr (some 33))), some (.inl 0), none, none] [] m Q := by
  refine ok_sg (pc' := 10) (ls' := [some (.inr (.inr (some 33))), some (.inl 0), some (.inr (.inr (some 2000))), none]) (st' := [.inl 1, .inl (m 33 4)]) (m' := m) (fun fx hfx o hk => ?_) ?_
  · refine r_ld (pc' := 1) hM_19 d_19_0 rfl rfl ?_
    refine r_cl (pc' := 4) (c := (18, 2)) (a := [.inl 0]) (q := []) hM_19 d_19_1 rfl (by decide +kernel) hM_18 rfl rfl rfl (Nat.le_of_ble_eq_true rfl) (Nat.le_of_ble_eq_true rfl) (Or.inl rfl) (ok_rnk (sp_0 (m := m)) hfx) (Nat.le_of_ble_eq_true rfl) ?_
    show rn fx 4 (0, 0) 19 4 [some (.inr (.inr (some 33))), some (.inl 0), none, none] [.inr (.inr (some 2000))] (st0 m) o
    refine r_sto (pc' := 5) (ls' := [some (.inr (.inr (some 33))), some (.inl 0), some (.inr (.inr (some 2000))), none]) hM_19 d_19_4 rfl rfl ?_
    refine r_ld (pc' := 6) hM_19 d_19_5 rfl rfl ?_
    refine r_gI (pc' := 9) (k0 := 4) hM_19 d_19_6 rfl (by decide +kernel) ?_
    refine r_k (pc' := 10) (v := .inl 1) hM_19 d_19_9 rfl rfl ?_
    exact hk
  refine ok_ic (pc' := 29) (pc2 := 13) hM_19 d_19_10 (by decide) rfl (fun hz1 => ?_) (fun hz1 => ?_)
  · have H := H.1 hz1
    refine ok_sg (pc' := 30) (ls' := [some (.inr (.inr (some 33))), some (.inl 0), some (.inr (.inr (some 2000))), none]) (st' := [.inl 0]) (m' := m) (fun fx hfx o hk => ?_) ?_
    · refine r_k (pc' := 30) (v := .inl 0) hM_19 d_19_29 rfl rfl ?_
      exact hk
    exact ok_rt (fun fx _ => rt_z hM_19 d_19_30 rfl (by decide)) H
  · have H := H.2 (Decidable.not_not.mp hz1)
    refine ok_sg (pc' := 26) (ls' := [some (.inr (.inr (some 33))), some (.inl 0), some (.inr (.inr (some 2000))), none]) (st' := [.inl 3, .inl ((m 33 3) - (m 33 5))]) (m' := m) (fun fx hfx o hk => ?_) ?_
    · refine r_ld (pc' := 14) hM_19 d_19_13 rfl rfl ?_
      refine r_gI (pc' := 17) (k0 := 3) hM_19 d_19_14 rfl (by decide +kernel) ?_
      refine r_ld (pc' := 18) hM_19 d_19_17 rfl rfl ?_
      refine r_gI (pc' := 21) (k0 := 5) hM_19 d_19_18 rfl (by decide +kernel) ?_
      refine r_b (pc' := 22) (z := ((m 33 3) - (m 33 5))) hM_19 d_19_21 rfl rfl ?_
      refine r_ld (pc' := 23) hM_19 d_19_22 rfl rfl ?_
      refine r_cl (pc' := 26) (c := (20, 0)) (a := [.inr (.inr (some 2000))]) (q := [.inl ((m 33 3) - (m 33 5))]) hM_19 d_19_23 rfl (by decide +kernel) hM_20 rfl rfl rfl (Nat.le_of_ble_eq_true rfl) (Nat.le_of_ble_eq_true rfl) (Or.inr rfl) (ok_rnk (sn_0 (m := m)) hfx) (Nat.le_of_ble_eq_true rfl) ?_
      show rn fx 4 (0, 0) 19 26 [some (.inr (.inr (some 33))), some (.inl 0), some (.inr (.inr (some 2000))), none] [.inl 3, .inl ((m 33 3) - (m 33 5))] (st0 m) o
      exact hk
    refine ok_ic (pc' := 31) (pc2 := 29) hM_19 d_19_26 (by decide) rfl (fun hz2 => ?_) (fun hz2 => ?_)
    · have H := H.1 hz2
      obtain ⟨hz3, H⟩ := H
      refine ok_sg (pc' := 57) (ls' := [some (.inr (.inr (some 33))), some (.inl 0), some (.inr (.inr (some 2000))), some (.inl 0)]) (st' := [.inl 108, .inl (m 1 ((am_s ((m 33 5) + 0)).toNat))]) (m' := m) (fun fx hfx o hk => ?_) ?_
      · refine r_k (pc' := 32) (v := .inl 0) hM_19 d_19_31 rfl rfl ?_
        refine r_sto (pc' := 33) (ls' := [some (.inr (.inr (some 33))), some (.inl 0), some (.inr (.inr (some 2000))), some (.inl 0)]) hM_19 d_19_32 rfl rfl ?_
        refine r_ld (pc' := 34) hM_19 d_19_33 rfl rfl ?_
        refine r_ld (pc' := 35) hM_19 d_19_34 rfl rfl ?_
        refine r_cl (pc' := 38) (c := (20, 0)) (a := [.inr (.inr (some 2000))]) (q := [.inl 0]) hM_19 d_19_35 rfl (by decide +kernel) hM_20 rfl rfl rfl (Nat.le_of_ble_eq_true rfl) (Nat.le_of_ble_eq_true rfl) (Or.inr rfl) (ok_rnk (sn_0 (m := m)) hfx) (Nat.le_of_ble_eq_true rfl) ?_
        show rn fx 4 (0, 0) 19 38 [some (.inr (.inr (some 33))), some (.inl 0), some (.inr (.inr (some 2000))), some (.inl 0)] [.inl 3, .inl 0] (st0 m) o
        refine r_ic (pc' := 68) (pc2 := 41) hM_19 d_19_38 (by decide) rfl (fun hc => absurd hc (show ¬ (am_s 3 ≤ am_s 0) by decide)) (fun _ => ?_)
        refine r_ld (pc' := 42) hM_19 d_19_41 rfl rfl ?_
        refine r_gR (pc' := 45) (v := 1) hM_19 d_19_42 rfl (by decide +kernel) ?_
        refine r_ld (pc' := 46) hM_19 d_19_45 rfl rfl ?_
        refine r_gI (pc' := 49) (k0 := 5) hM_19 d_19_46 rfl (by decide +kernel) ?_
        refine r_ld (pc' := 50) hM_19 d_19_49 rfl rfl ?_
        refine r_b (pc' := 51) (z := ((m 33 5) + 0)) hM_19 d_19_50 rfl rfl ?_
        refine r_ba (pc' := 52) (n := 900) hM_19 d_19_51 rfl rfl (by decide) hz3 ?_
        refine r_ld (pc' := 53) hM_19 d_19_52 rfl rfl ?_
        refine r_ld (pc' := 54) hM_19 d_19_53 rfl rfl ?_
        refine r_cl (pc' := 57) (c := (22, 0)) (a := [.inr (.inr (some 2000)), .inl 0]) (q := [.inl (m 1 ((am_s ((m 33 5) + 0)).toNat))]) hM_19 d_19_54 rfl (by decide +kernel) hM_22 rfl rfl rfl (Nat.le_of_ble_eq_true rfl) (Nat.le_of_ble_eq_true rfl) (Or.inr rfl) (ok_rnk (sa_0_0 (m := m)) hfx) (Nat.le_of_ble_eq_true rfl) ?_
        show rn fx 4 (0, 0) 19 57 [some (.inr (.inr (some 33))), some (.inl 0), some (.inr (.inr (some 2000))), some (.inl 0)] [.inl 108, .inl (m 1 ((am_s ((m 33 5) + 0)).toNat))] (st0 m) o
        exact hk
      refine ok_ic (pc' := 62) (pc2 := 60) hM_19 d_19_57 (by decide) rfl (fun hz4 => ?_) (fun hz4 => ?_)
      · have H := H.1 hz4
        obtain ⟨hz5, H⟩ := H
        refine ok_sg (pc' := 57) (ls' := [some (.inr (.inr (some 33))), some (.inl 0), some (.inr (.inr (some 2000))), some (.inl 1)]) (st' := [.inl 111, .inl (m 1 ((am_s ((m 33 5) + 1)).toNat))]) (m' := m) (fun fx hfx o hk => ?_) ?_
        · refine r_sto (pc' := 65) (ls' := [some (.inr (.inr (some 33))), some (.inl 0), some (.inr (.inr (some 2000))), some (.inl 1)]) hM_19 d_19_62 rfl rfl ?_
          refine r_go (pc' := 33) hM_19 d_19_65 (by decide) ?_
          refine r_ld (pc' := 34) hM_19 d_19_33 rfl rfl ?_
          refine r_ld (pc' := 35) hM_19 d_19_34 rfl rfl ?_
          refine r_cl (pc' := 38) (c := (20, 0)) (a := [.inr (.inr (some 2000))]) (q := [.inl 1]) hM_19 d_19_35 rfl (by decide +kernel) hM_20 rfl rfl rfl (Nat.le_of_ble_eq_true rfl) (Nat.le_of_ble_eq_true rfl) (Or.inr rfl) (ok_rnk (sn_0 (m := m)) hfx) (Nat.le_of_ble_eq_true rfl) ?_
          show rn fx 4 (0, 0) 19 38 [some (.inr (.inr (some 33))), some (.inl 0), some (.inr (.inr (some 2000))), some (.inl 1)] [.inl 3, .inl 1] (st0 m) o
          refine r_ic (pc' := 68) (pc2 := 41) hM_19 d_19_38 (by decide) rfl (fun hc => absurd hc (show ¬ (am_s 3 ≤ am_s 1) by decide)) (fun _ => ?_)
          refine r_ld (pc' := 42) hM_19 d_19_41 rfl rfl ?_
          refine r_gR (pc' := 45) (v := 1) hM_19 d_19_42 rfl (by decide +kernel) ?_
          refine r_ld (pc' := 46) hM_19 d_19_45 rfl rfl ?_
          refine r_gI (pc' := 49) (k0 := 5) hM_19 d_19_46 rfl (by decide +kernel) ?_
          refine r_ld (pc' := 50) hM_19 d_19_49 rfl rfl ?_
          refine r_b (pc' := 51) (z := ((m 33 5) + 1)) hM_19 d_19_50 rfl rfl ?_
          refine r_ba (pc' := 52) (n := 900) hM_19 d_19_51 rfl rfl (by decide) hz5 ?_
          refine r_ld (pc' := 53) hM_19 d_19_52 rfl rfl ?_
          refine r_ld (pc' := 54) hM_19 d_19_53 rfl rfl ?_
          refine r_cl (pc' := 57) (c := (22, 0)) (a := [.inr (.inr (some 2000)), .inl 1]) (q := [.inl (m 1 ((am_s ((m 33 5) + 1)).toNat))]) hM_19 d_19_54 rfl (by decide +kernel) hM_22 rfl rfl rfl (Nat.le_of_ble_eq_true rfl) (Nat.le_of_ble_eq_true rfl) (Or.inr rfl) (ok_rnk (sa_0_1 (m := m)) hfx) (Nat.le_of_ble_eq_true rfl) ?_
          show rn fx 4 (0, 0) 19 57 [some (.inr (.inr (some 33))), some (.inl 0), some (.inr (.inr (some 2000))), some (.inl 1)] [.inl 111, .inl (m 1 ((am_s ((m 33 5) + 1)).toNat))] (st0 m) o
          exact hk
        refine ok_ic (pc' := 62) (pc2 := 60) hM_19 d_19_57 (by decide) rfl (fun hz6 => ?_) (fun hz6 => ?_)
        · have H := H.1 hz6
          obtain ⟨hz7, H⟩ := H
          refine ok_sg (pc' := 57) (ls' := [some (.inr (.inr (some 33))), some (.inl 0), some (.inr (.inr (some 2000))), some (.inl 2)]) (st' := [.inl 119, .inl (m 1 ((am_s ((m 33 5) + 2)).toNat))]) (m' := m) (fun fx hfx o hk => ?_) ?_
          · refine r_sto (pc' := 65) (ls' := [some (.inr (.inr (some 33))), some (.inl 0), some (.inr (.inr (some 2000))), some (.inl 2)]) hM_19 d_19_62 rfl rfl ?_
            refine r_go (pc' := 33) hM_19 d_19_65 (by decide) ?_
            refine r_ld (pc' := 34) hM_19 d_19_33 rfl rfl ?_
            refine r_ld (pc' := 35) hM_19 d_19_34 rfl rfl ?_
            refine r_cl (pc' := 38) (c := (20, 0)) (a := [.inr (.inr (some 2000))]) (q := [.inl 2]) hM_19 d_19_35 rfl (by decide +kernel) hM_20 rfl rfl rfl (Nat.le_of_ble_eq_true rfl) (Nat.le_of_ble_eq_true rfl) (Or.inr rfl) (ok_rnk (sn_0 (m := m)) hfx) (Nat.le_of_ble_eq_true rfl) ?_
            show rn fx 4 (0, 0) 19 38 [some (.inr (.inr (some 33))), some (.inl 0), some (.inr (.inr (some 2000))), some (.inl 2)] [.inl 3, .inl 2] (st0 m) o
            refine r_ic (pc' := 68) (pc2 := 41) hM_19 d_19_38 (by decide) rfl (fun hc => absurd hc (show ¬ (am_s 3 ≤ am_s 2) by decide)) (fun _ => ?_)
            refine r_ld (pc' := 42) hM_19 d_19_41 rfl rfl ?_
            refine r_gR (pc' := 45) (v := 1) hM_19 d_19_42 rfl (by decide +kernel) ?_
            refine r_ld (pc' := 46) hM_19 d_19_45 rfl rfl ?_
            refine r_gI (pc' := 49) (k0 := 5) hM_19 d_19_46 rfl (by decide +kernel) ?_
            refine r_ld (pc' := 50) hM_19 d_19_49 rfl rfl ?_
            refine r_b (pc' := 51) (z := ((m 33 5) + 2)) hM_19 d_19_50 rfl rfl ?_
            refine r_ba (pc' := 52) (n := 900) hM_19 d_19_51 rfl rfl (by decide) hz7 ?_
            refine r_ld (pc' := 53) hM_19 d_19_52 rfl rfl ?_
            refine r_ld (pc' := 54) hM_19 d_19_53 rfl rfl ?_
            refine r_cl (pc' := 57) (c := (22, 0)) (a := [.inr (.inr (some 2000)), .inl 2]) (q := [.inl (m 1 ((am_s ((m 33 5) + 2)).toNat))]) hM_19 d_19_54 rfl (by decide +kernel) hM_22 rfl rfl rfl (Nat.le_of_ble_eq_true rfl) (Nat.le_of_ble_eq_true rfl) (Or.inr rfl) (ok_rnk (sa_0_2 (m := m)) hfx) (Nat.le_of_ble_eq_true rfl) ?_
            show rn fx 4 (0, 0) 19 57 [some (.inr (.inr (some 33))), some (.inl 0), some (.inr (.inr (some 2000))), some (.inl 2)] [.inl 119, .inl (m 1 ((am_s ((m 33 5) + 2)).toNat))] (st0 m) o
            exact hk
          refine ok_ic (pc' := 62) (pc2 := 60) hM_19 d_19_57 (by decide) rfl (fun hz8 => ?_) (fun hz8 => ?_)
          · have H := H.1 hz8
            refine ok_sg (pc' := 69) (ls' := [some (.inr (.inr (some 33))), some (.inl 0), some (.inr (.inr (some 2000))), some (.inl 3)]) (st' := [.inl 1]) (m' := m) (fun fx hfx o hk => ?_) ?_
            · refine r_sto (pc' := 65) (ls' := [some (.inr (.inr (some 33))), some (.inl 0), some (.inr (.inr (some 2000))), some (.inl 3)]) hM_19 d_19_62 rfl rfl ?_
              refine r_go (pc' := 33) hM_19 d_19_65 (by decide) ?_
              refine r_ld (pc' := 34) hM_19 d_19_33 rfl rfl ?_
              refine r_ld (pc' := 35) hM_19 d_19_34 rfl rfl ?_
              refine r_cl (pc' := 38) (c := (20, 0)) (a := [.inr (.inr (some 2000))]) (q := [.inl 3]) hM_19 d_19_35 rfl (by decide +kernel) hM_20 rfl rfl rfl (Nat.le_of_ble_eq_true rfl) (Nat.le_of_ble_eq_true rfl) (Or.inr rfl) (ok_rnk (sn_0 (m := m)) hfx) (Nat.le_of_ble_eq_true rfl) ?_
              show rn fx 4 (0, 0) 19 38 [some (.inr (.inr (some 33))), some (.inl 0), some (.inr (.inr (some 2000))), some (.inl 3)] [.inl 3, .inl 3] (st0 m) o
              refine r_ic (pc' := 68) (pc2 := 41) hM_19 d_19_38 (by decide) rfl (fun _ => ?_) (fun hc => absurd (show am_s 3 ≤ am_s 3 by decide) hc)
              refine r_k (pc' := 69) (v := .inl 1) hM_19 d_19_68 rfl rfl ?_
              exact hk
            exact ok_rt (fun fx _ => rt_z hM_19 d_19_69 rfl (by decide)) H
          · have H := H.2 hz8
            refine ok_sg (pc' := 61) (ls' := [some (.inr (.inr (some 33))), some (.inl 0), some (.inr (.inr (some 2000))), some (.inl 2)]) (st' := [.inl 0]) (m' := m) (fun fx hfx o hk => ?_) ?_
            · refine r_k (pc' := 61) (v := .inl 0) hM_19 d_19_60 rfl rfl ?_
              exact hk
            exact ok_rt (fun fx _ => rt_z hM_19 d_19_61 rfl (by decide)) H
        · have H := H.2 hz6
          refine ok_sg (pc' := 61) (ls' := [some (.inr (.inr (some 33))), some (.inl 0), some (.inr (.inr (some 2000))), some (.inl 1)]) (st' := [.inl 0]) (m' := m) (fun fx hfx o hk => ?_) ?_
          · refine r_k (pc' := 61) (v := .inl 0) hM_19 d_19_60 rfl rfl ?_
            exact hk
          exact ok_rt (fun fx _ => rt_z hM_19 d_19_61 rfl (by decide)) H
      · have H := H.2 hz4
        refine ok_sg (pc' := 61) (ls' := [some (.inr (.inr (some 33))), some (.inl 0), some (.inr (.inr (some 2000))), some (.inl 0)]) (st' := [.inl 0]) (m' := m) (fun fx hfx o hk => ?_) ?_
        · refine r_k (pc' := 61) (v := .inl 0) hM_19 d_19_60 rfl rfl ?_
          exact hk
        exact ok_rt (fun fx _ => rt_z hM_19 d_19_61 rfl (by decide)) H
    · have H := H.2 hz2
      refine ok_sg (pc' := 30) (ls' := [some (.inr (.inr (some 33))), some (.inl 0), some (.inr (.inr (some 2000))), none]) (st' := [.inl 0]) (m' := m) (fun fx hfx o hk => ?_) ?_
      · refine r_k (pc' := 30) (v := .inl 0) hM_19 d_19_29 rfl rfl ?_
        exact hk
      exact ok_rt (fun fx _ => rt_z hM_19 d_19_30 rfl (by decide)) H
theorem zw_0 {m : am_M} (hq : RV m) : ok 4 19 0 (am_ent 4 [.inr (.inr (some 33)), .inl 0]) [] m (fun rr m' => rr = [.inl (if m 33 4 = 1 ∧ cwn m = 0 then 1 else 0)] ∧ m' = m) := by
  obtain ⟨⟨⟨w1, w3, w4⟩, hT⟩, ⟨w5, w6⟩, ⟨t0, t4⟩, -, -⟩ := hq
  obtain ⟨p, hp⟩ : ∃ p : Nat, m 33 5 = (p : Int) := ⟨(m 33 5).toNat, by omega⟩
  obtain ⟨b, hb⟩ : ∃ b : Nat, m 33 3 = (b : Int) := ⟨(m 33 3).toNat, by omega⟩
  have hcw : cwn m = wno (m 1) p b := by
    unfold cwn
    rw [hp, hb, Int.toNat_natCast, Int.toNat_natCast]
  have hi : cwn m = 0 ↔ spl (m 1) p b (wrd 0) = true := by
    rw [hcw]
    exact wno_iff (j := 0) (by decide)
  refine uw_0 ?_
  rw [hp] at w5 w6
  rw [hb] at w1 w3 w6
  rw [hp, hb, am_s_id (z := m 33 4) (by omega) (by omega)]
  refine ⟨fun qt => ⟨by rw [if_neg (fun zz => qt zz.1)], (by first | rfl | trivial)⟩, fun qt => ?_⟩
  rw [am_s_id (z := (b : Int) - (p : Int)) (by omega) (by omega), show am_s ((p : Int) + 0) = ((p + 0 : Nat) : Int) from am_s_id (by omega) (by omega), show am_s ((p : Int) + 1) = ((p + 1 : Nat) : Int) from am_s_id (by omega) (by omega), show am_s ((p : Int) + 2) = ((p + 2 : Nat) : Int) from am_s_id (by omega) (by omega)]
  simp only [Int.toNat_natCast]
  refine ⟨fun qn => ?_, fun qn => ⟨by rw [if_neg (fun zz => qn (by have h9 : b = p + 3 := (spl_t.mp (hi.mp zz.2)).1; omega))], (by first | rfl | trivial)⟩⟩
  have b0 : am_s (m 1 (p + 0)) = m 1 (p + 0) := am_s_id (by have := hT (p + 0) (by omega); omega) (by have := hT (p + 0) (by omega); omega)
  have b1 : am_s (m 1 (p + 1)) = m 1 (p + 1) := am_s_id (by have := hT (p + 1) (by omega); omega) (by have := hT (p + 1) (by omega); omega)
  have b2 : am_s (m 1 (p + 2)) = m 1 (p + 2) := am_s_id (by have := hT (p + 2) (by omega); omega) (by have := hT (p + 2) (by omega); omega)
  rw [b0, b1, b2]
  exact ⟨⟨by omega, by omega⟩, fun q0 => ⟨⟨by omega, by omega⟩, fun q1 => ⟨⟨by omega, by omega⟩, fun q2 => ⟨by rw [if_pos ⟨qt, hi.mpr (spl_t.mpr ⟨by show _ = _ + 3; omega, fun ix hix => by
    have hix : ix < 3 := hix
    have : ix = 0 ∨ ix = 1 ∨ ix = 2 := by omega
    rcases this with rfl | rfl | rfl
    · exact q0
    · exact q1
    · exact q2⟩)⟩], (by first | rfl | trivial)⟩, fun q2 => ⟨by rw [if_neg (fun zz => q2 ((spl_t.mp (hi.mp zz.2)).2 2 (by decide)))], (by first | rfl | trivial)⟩⟩, fun q1 => ⟨by rw [if_neg (fun zz => q1 ((spl_t.mp (hi.mp zz.2)).2 1 (by decide)))], (by first | rfl | trivial)⟩⟩, fun q0 => ⟨by rw [if_neg (fun zz => q0 ((spl_t.mp (hi.mp zz.2)).2 0 (by decide)))], (by first | rfl | trivial)⟩⟩
theorem uw_1 {Q : List am_V → am_M → Prop} {m : am_M}   (H : ((¬ am_s (m 33 4) = 1) → Q [.inl 0] m) ∧ ((am_s (m 33 4) = 1) → ((am_s ((m 33 3) - (m 33 5)) = 3) → (0 ≤ am_s ((m 33 5) + 0) ∧ am_s ((m 33 5) + 0) < (900 : Nat)) ∧ (((am_s (m 1 ((am_s ((m 33 5) + 0)).toNat)) = 108) → (0 ≤ am_s ((m 33 5) + 1) ∧ am_s ((m 33 5) + 1) < (900 : Nat)) ∧ (((am_s (m 1 ((am_s ((m 33 5) + 1)).toNat)) = 105) → (0 ≤ am_s ((m 33 5) + 2) ∧ am_s ((m 33 5) + 2) < (900 : Nat)) ∧ (((am_s (m 1 ((am_s ((m 33 5) + 2)).toNat)) = 101) → Q [.inl 1] m) ∧ ((¬ (am_s (m 1 ((am_s ((m 33 5) + 2)).toNat)) = 101)) → Q [.inl 0] m))) ∧ ((¬ (am_s (m 1 ((am_s ((m 33 5) + 1)).toNat)) = 105)) → Q [.inl 0] m))) ∧ ((¬ (am_s (m 1 ((am_s ((m 33 5) + 0)).toNat)) = 108)) → Q [.inl 0] m))) ∧ ((¬ (am_s ((m 33 3) - (m 33 5)) = 3)) → Q [.inl 0] m))) : ok 4 19 0 [some (.inr (.inr (some 33))), some (.inl 1), none, none] [] m Q := by
  refine ok_sg (pc' := 10) (ls' := [some (.inr (.inr (some 33))), some (.inl 1), some (.inr (.inr (some 2001))), none]) (st' := [.inl 1, .inl (m 33 4)]) (m' := m) (fun fx hfx o hk => ?_) ?_
  · refine r_ld (pc' := 1) hM_19 d_19_0 rfl rfl ?_
    refine r_cl (pc' := 4) (c := (18, 2)) (a := [.inl 1]) (q := []) hM_19 d_19_1 rfl (by decide +kernel) hM_18 rfl rfl rfl (Nat.le_of_ble_eq_true rfl) (Nat.le_of_ble_eq_true rfl) (Or.inl rfl) (ok_rnk (sp_1 (m := m)) hfx) (Nat.le_of_ble_eq_true rfl) ?_
    show rn fx 4 (0, 0) 19 4 [some (.inr (.inr (some 33))), some (.inl 1), none, none] [.inr (.inr (some 2001))] (st0 m) o
    refine r_sto (pc' := 5) (ls' := [some (.inr (.inr (some 33))), some (.inl 1), some (.inr (.inr (some 2001))), none]) hM_19 d_19_4 rfl rfl ?_
    refine r_ld (pc' := 6) hM_19 d_19_5 rfl rfl ?_
    refine r_gI (pc' := 9) (k0 := 4) hM_19 d_19_6 rfl (by decide +kernel) ?_
    refine r_k (pc' := 10) (v := .inl 1) hM_19 d_19_9 rfl rfl ?_
    exact hk
  refine ok_ic (pc' := 29) (pc2 := 13) hM_19 d_19_10 (by decide) rfl (fun hz1 => ?_) (fun hz1 => ?_)
  · have H := H.1 hz1
    refine ok_sg (pc' := 30) (ls' := [some (.inr (.inr (some 33))), some (.inl 1), some (.inr (.inr (some 2001))), none]) (st' := [.inl 0]) (m' := m) (fun fx hfx o hk => ?_) ?_
    · refine r_k (pc' := 30) (v := .inl 0) hM_19 d_19_29 rfl rfl ?_
      exact hk
    exact ok_rt (fun fx _ => rt_z hM_19 d_19_30 rfl (by decide)) H
  · have H := H.2 (Decidable.not_not.mp hz1)
    refine ok_sg (pc' := 26) (ls' := [some (.inr (.inr (some 33))), some (.inl 1), some (.inr (.inr (some 2001))), none]) (st' := [.inl 3, .inl ((m 33 3) - (m 33 5))]) (m' := m) (fun fx hfx o hk => ?_) ?_
    · refine r_ld (pc' := 14) hM_19 d_19_13 rfl rfl ?_
      refine r_gI (pc' := 17) (k0 := 3) hM_19 d_19_14 rfl (by decide +kernel) ?_
      refine r_ld (pc' := 18) hM_19 d_19_17 rfl rfl ?_
      refine r_gI (pc' := 21) (k0 := 5) hM_19 d_19_18 rfl (by decide +kernel) ?_
      refine r_b (pc' := 22) (z := ((m 33 3) - (m 33 5))) hM_19 d_19_21 rfl rfl ?_
      refine r_ld (pc' := 23) hM_19 d_19_22 rfl rfl ?_
      refine r_cl (pc' := 26) (c := (20, 0)) (a := [.inr (.inr (some 2001))]) (q := [.inl ((m 33 3) - (m 33 5))]) hM_19 d_19_23 rfl (by decide +kernel) hM_20 rfl rfl rfl (Nat.le_of_ble_eq_true rfl) (Nat.le_of_ble_eq_true rfl) (Or.inr rfl) (ok_rnk (sn_1 (m := m)) hfx) (Nat.le_of_ble_eq_true rfl) ?_
      show rn fx 4 (0, 0) 19 26 [some (.inr (.inr (some 33))), some (.inl 1), some (.inr (.inr (some 2001))), none] [.inl 3, .inl ((m 33 3) - (m 33 5))] (st0 m) o
      exact hk
    refine ok_ic (pc' := 31) (pc2 := 29) hM_19 d_19_26 (by decide) rfl (fun hz2 => ?_) (fun hz2 => ?_)
    · have H := H.1 hz2
      obtain ⟨hz3, H⟩ := H
      refine ok_sg (pc' := 57) (ls' := [some (.inr (.inr (some 33))), some (.inl 1), some (.inr (.inr (some 2001))), some (.inl 0)]) (st' := [.inl 108, .inl (m 1 ((am_s ((m 33 5) + 0)).toNat))]) (m' := m) (fun fx hfx o hk => ?_) ?_
      · refine r_k (pc' := 32) (v := .inl 0) hM_19 d_19_31 rfl rfl ?_
        refine r_sto (pc' := 33) (ls' := [some (.inr (.inr (some 33))), some (.inl 1), some (.inr (.inr (some 2001))), some (.inl 0)]) hM_19 d_19_32 rfl rfl ?_
        refine r_ld (pc' := 34) hM_19 d_19_33 rfl rfl ?_
        refine r_ld (pc' := 35) hM_19 d_19_34 rfl rfl ?_
        refine r_cl (pc' := 38) (c := (20, 0)) (a := [.inr (.inr (some 2001))]) (q := [.inl 0]) hM_19 d_19_35 rfl (by decide +kernel) hM_20 rfl rfl rfl (Nat.le_of_ble_eq_true rfl) (Nat.le_of_ble_eq_true rfl) (Or.inr rfl) (ok_rnk (sn_1 (m := m)) hfx) (Nat.le_of_ble_eq_true rfl) ?_
        show rn fx 4 (0, 0) 19 38 [some (.inr (.inr (some 33))), some (.inl 1), some (.inr (.inr (some 2001))), some (.inl 0)] [.inl 3, .inl 0] (st0 m) o
        refine r_ic (pc' := 68) (pc2 := 41) hM_19 d_19_38 (by decide) rfl (fun hc => absurd hc (show ¬ (am_s 3 ≤ am_s 0) by decide)) (fun _ => ?_)
        refine r_ld (pc' := 42) hM_19 d_19_41 rfl rfl ?_
        refine r_gR (pc' := 45) (v := 1) hM_19 d_19_42 rfl (by decide +kernel) ?_
        refine r_ld (pc' := 46) hM_19 d_19_45 rfl rfl ?_
        refine r_gI (pc' := 49) (k0 := 5) hM_19 d_19_46 rfl (by decide +kernel) ?_
        refine r_ld (pc' := 50) hM_19 d_19_49 rfl rfl ?_
        refine r_b (pc' := 51) (z := ((m 33 5) + 0)) hM_19 d_19_50 rfl rfl ?_
        refine r_ba (pc' := 52) (n := 900) hM_19 d_19_51 rfl rfl (by decide) hz3 ?_
        refine r_ld (pc' := 53) hM_19 d_19_52 rfl rfl ?_
        refine r_ld (pc' := 54) hM_19 d_19_53 rfl rfl ?_
        refine r_cl (pc' := 57) (c := (22, 0)) (a := [.inr (.inr (some 2001)), .inl 0]) (q := [.inl (m 1 ((am_s ((m 33 5) + 0)).toNat))]) hM_19 d_19_54 rfl (by decide +kernel) hM_22 rfl rfl rfl (Nat.le_of_ble_eq_true rfl) (Nat.le_of_ble_eq_true rfl) (Or.inr rfl) (ok_rnk (sa_1_0 (m := m)) hfx) (Nat.le_of_ble_eq_true rfl) ?_
        show rn fx 4 (0, 0) 19 57 [some (.inr (.inr (some 33))), some (.inl 1), some (.inr (.inr (some 2001))), some (.inl 0)] [.inl 108, .inl (m 1 ((am_s ((m 33 5) + 0)).toNat))] (st0 m) o
        exact hk
      refine ok_ic (pc' := 62) (pc2 := 60) hM_19 d_19_57 (by decide) rfl (fun hz4 => ?_) (fun hz4 => ?_)
      · have H := H.1 hz4
        obtain ⟨hz5, H⟩ := H
        refine ok_sg (pc' := 57) (ls' := [some (.inr (.inr (some 33))), some (.inl 1), some (.inr (.inr (some 2001))), some (.inl 1)]) (st' := [.inl 105, .inl (m 1 ((am_s ((m 33 5) + 1)).toNat))]) (m' := m) (fun fx hfx o hk => ?_) ?_
        · refine r_sto (pc' := 65) (ls' := [some (.inr (.inr (some 33))), some (.inl 1), some (.inr (.inr (some 2001))), some (.inl 1)]) hM_19 d_19_62 rfl rfl ?_
          refine r_go (pc' := 33) hM_19 d_19_65 (by decide) ?_
          refine r_ld (pc' := 34) hM_19 d_19_33 rfl rfl ?_
          refine r_ld (pc' := 35) hM_19 d_19_34 rfl rfl ?_
          refine r_cl (pc' := 38) (c := (20, 0)) (a := [.inr (.inr (some 2001))]) (q := [.inl 1]) hM_19 d_19_35 rfl (by decide +kernel) hM_20 rfl rfl rfl (Nat.le_of_ble_eq_true rfl) (Nat.le_of_ble_eq_true rfl) (Or.inr rfl) (ok_rnk (sn_1 (m := m)) hfx) (Nat.le_of_ble_eq_true rfl) ?_
          show rn fx 4 (0, 0) 19 38 [some (.inr (.inr (some 33))), some (.inl 1), some (.inr (.inr (some 2001))), some (.inl 1)] [.inl 3, .inl 1] (st0 m) o
          refine r_ic (pc' := 68) (pc2 := 41) hM_19 d_19_38 (by decide) rfl (fun hc => absurd hc (show ¬ (am_s 3 ≤ am_s 1) by decide)) (fun _ => ?_)
          refine r_ld (pc' := 42) hM_19 d_19_41 rfl rfl ?_
          refine r_gR (pc' := 45) (v := 1) hM_19 d_19_42 rfl (by decide +kernel) ?_
          refine r_ld (pc' := 46) hM_19 d_19_45 rfl rfl ?_
          refine r_gI (pc' := 49) (k0 := 5) hM_19 d_19_46 rfl (by decide +kernel) ?_
          refine r_ld (pc' := 50) hM_19 d_19_49 rfl rfl ?_
          refine r_b (pc' := 51) (z := ((m 33 5) + 1)) hM_19 d_19_50 rfl rfl ?_
          refine r_ba (pc' := 52) (n := 900) hM_19 d_19_51 rfl rfl (by decide) hz5 ?_
          refine r_ld (pc' := 53) hM_19 d_19_52 rfl rfl ?_
          refine r_ld (pc' := 54) hM_19 d_19_53 rfl rfl ?_
          refine r_cl (pc' := 57) (c := (22, 0)) (a := [.inr (.inr (some 2001)), .inl 1]) (q := [.inl (m 1 ((am_s ((m 33 5) + 1)).toNat))]) hM_19 d_19_54 rfl (by decide +kernel) hM_22 rfl rfl rfl (Nat.le_of_ble_eq_true rfl) (Nat.le_of_ble_eq_true rfl) (Or.inr rfl) (ok_rnk (sa_1_1 (m := m)) hfx) (Nat.le_of_ble_eq_true rfl) ?_
          show rn fx 4 (0, 0) 19 57 [some (.inr (.inr (some 33))), some (.inl 1), some (.inr (.inr (some 2001))), some (.inl 1)] [.inl 105, .inl (m 1 ((am_s ((m 33 5) + 1)).toNat))] (st0 m) o
          exact hk
        refine ok_ic (pc' := 62) (pc2 := 60) hM_19 d_19_57 (by decide) rfl (fun hz6 => ?_) (fun hz6 => ?_)
        · have H := H.1 hz6
          obtain ⟨hz7, H⟩ := H
          refine ok_sg (pc' := 57) (ls' := [some (.inr (.inr (some 33))), some (.inl 1), some (.inr (.inr (some 2001))), some (.inl 2)]) (st' := [.inl 101, .inl (m 1 ((am_s ((m 33 5) + 2)).toNat))]) (m' := m) (fun fx hfx o hk => ?_) ?_
          · refine r_sto (pc' := 65) (ls' := [some (.inr (.inr (some 33))), some (.inl 1), some (.inr (.inr (some 2001))), some (.inl 2)]) hM_19 d_19_62 rfl rfl ?_
            refine r_go (pc' := 33) hM_19 d_19_65 (by decide) ?_
            refine r_ld (pc' := 34) hM_19 d_19_33 rfl rfl ?_
            refine r_ld (pc' := 35) hM_19 d_19_34 rfl rfl ?_
            refine r_cl (pc' := 38) (c := (20, 0)) (a := [.inr (.inr (some 2001))]) (q := [.inl 2]) hM_19 d_19_35 rfl (by decide +kernel) hM_20 rfl rfl rfl (Nat.le_of_ble_eq_true rfl) (Nat.le_of_ble_eq_true rfl) (Or.inr rfl) (ok_rnk (sn_1 (m := m)) hfx) (Nat.le_of_ble_eq_true rfl) ?_
            show rn fx 4 (0, 0) 19 38 [some (.inr (.inr (some 33))), some (.inl 1), some (.inr (.inr (some 2001))), some (.inl 2)] [.inl 3, .inl 2] (st0 m) o
            refine r_ic (pc' := 68) (pc2 := 41) hM_19 d_19_38 (by decide) rfl (fun hc => absurd hc (show ¬ (am_s 3 ≤ am_s 2) by decide)) (fun _ => ?_)
            refine r_ld (pc' := 42) hM_19 d_19_41 rfl rfl ?_
            refine r_gR (pc' := 45) (v := 1) hM_19 d_19_42 rfl (by decide +kernel) ?_
            refine r_ld (pc' := 46) hM_19 d_19_45 rfl rfl ?_
            refine r_gI (pc' := 49) (k0 := 5) hM_19 d_19_46 rfl (by decide +kernel) ?_
            refine r_ld (pc' := 50) hM_19 d_19_49 rfl rfl ?_
            refine r_b (pc' := 51) (z := ((m 33 5) + 2)) hM_19 d_19_50 rfl rfl ?_
            refine r_ba (pc' := 52) (n := 900) hM_19 d_19_51 rfl rfl (by decide) hz7 ?_
            refine r_ld (pc' := 53) hM_19 d_19_52 rfl rfl ?_
            refine r_ld (pc' := 54) hM_19 d_19_53 rfl rfl ?_
            refine r_cl (pc' := 57) (c := (22, 0)) (a := [.inr (.inr (some 2001)), .inl 2]) (q := [.inl (m 1 ((am_s ((m 33 5) + 2)).toNat))]) hM_19 d_19_54 rfl (by decide +kernel) hM_22 rfl rfl rfl (Nat.le_of_ble_eq_true rfl) (Nat.le_of_ble_eq_true rfl) (Or.inr rfl) (ok_rnk (sa_1_2 (m := m)) hfx) (Nat.le_of_ble_eq_true rfl) ?_
            show rn fx 4 (0, 0) 19 57 [some (.inr (.inr (some 33))), some (.inl 1), some (.inr (.inr (some 2001))), some (.inl 2)] [.inl 101, .inl (m 1 ((am_s ((m 33 5) + 2)).toNat))] (st0 m) o
            exact hk
          refine ok_ic (pc' := 62) (pc2 := 60) hM_19 d_19_57 (by decide) rfl (fun hz8 => ?_) (fun hz8 => ?_)
          · have H := H.1 hz8
            refine ok_sg (pc' := 69) (ls' := [some (.inr (.inr (some 33))), some (.inl 1), some (.inr (.inr (some 2001))), some (.inl 3)]) (st' := [.inl 1]) (m' := m) (fun fx hfx o hk => ?_) ?_
            · refine r_sto (pc' := 65) (ls' := [some (.inr (.inr (some 33))), some (.inl 1), some (.inr (.inr (some 2001))), some (.inl 3)]) hM_19 d_19_62 rfl rfl ?_
              refine r_go (pc' := 33) hM_19 d_19_65 (by decide) ?_
              refine r_ld (pc' := 34) hM_19 d_19_33 rfl rfl ?_
              refine r_ld (pc' := 35) hM_19 d_19_34 rfl rfl ?_
              refine r_cl (pc' := 38) (c := (20, 0)) (a := [.inr (.inr (some 2001))]) (q := [.inl 3]) hM_19 d_19_35 rfl (by decide +kernel) hM_20 rfl rfl rfl (Nat.le_of_ble_eq_true rfl) (Nat.le_of_ble_eq_true rfl) (Or.inr rfl) (ok_rnk (sn_1 (m := m)) hfx) (Nat.le_of_ble_eq_true rfl) ?_
              show rn fx 4 (0, 0) 19 38 [some (.inr (.inr (some 33))), some (.inl 1), some (.inr (.inr (some 2001))), some (.inl 3)] [.inl 3, .inl 3] (st0 m) o
              refine r_ic (pc' := 68) (pc2 := 41) hM_19 d_19_38 (by decide) rfl (fun _ => ?_) (fun hc => absurd (show am_s 3 ≤ am_s 3 by decide) hc)
              refine r_k (pc' := 69) (v := .inl 1) hM_19 d_19_68 rfl rfl ?_
              exact hk
            exact ok_rt (fun fx _ => rt_z hM_19 d_19_69 rfl (by decide)) H
          · have H := H.2 hz8
            refine ok_sg (pc' := 61) (ls' := [some (.inr (.inr (some 33))), some (.inl 1), some (.inr (.inr (some 2001))), some (.inl 2)]) (st' := [.inl 0]) (m' := m) (fun fx hfx o hk => ?_) ?_
            · refine r_k (pc' := 61) (v := .inl 0) hM_19 d_19_60 rfl rfl ?_
              exact hk
            exact ok_rt (fun fx _ => rt_z hM_19 d_19_61 rfl (by decide)) H
        · have H := H.2 hz6
          refine ok_sg (pc' := 61) (ls' := [some (.inr (.inr (some 33))), some (.inl 1), some (.inr (.inr (some 2001))), some (.inl 1)]) (st' := [.inl 0]) (m' := m) (fun fx hfx o hk => ?_) ?_
          · refine r_k (pc' := 61) (v := .inl 0) hM_19 d_19_60 rfl rfl ?_
            exact hk
          exact ok_rt (fun fx _ => rt_z hM_19 d_19_61 rfl (by decide)) H
      · have H := H.2 hz4
        refine ok_sg (pc' := 61) (ls' := [some (.inr (.inr (some 33))), some (.inl 1), some (.inr (.inr (some 2001))), some (.inl 0)]) (st' := [.inl 0]) (m' := m) (fun fx hfx o hk => ?_) ?_
        · refine r_k (pc' := 61) (v := .inl 0) hM_19 d_19_60 rfl rfl ?_
          exact hk
        exact ok_rt (fun fx _ => rt_z hM_19 d_19_61 rfl (by decide)) H
    · have H := H.2 hz2
      refine ok_sg (pc' := 30) (ls' := [some (.inr (.inr (some 33))), some (.inl 1), some (.inr (.inr (some 2001))), none]) (st' := [.inl 0]) (m' := m) (fun fx hfx o hk => ?_) ?_
      · refine r_k (pc' := 30) (v := .inl 0) hM_19 d_19_29 rfl rfl ?_
        exact hk
      exact ok_rt (fun fx _ => rt_z hM_19 d_19_30 rfl (by decide)) H
theorem zw_1 {m : am_M} (hq : RV m) : ok 4 19 0 (am_ent 4 [.inr (.inr (some 33)), .inl 1]) [] m (fun rr m' => rr = [.inl (if m 33 4 = 1 ∧ cwn m = 1 then 1 else 0)] ∧ m' = m) := by
  obtain ⟨⟨⟨w1, w3, w4⟩, hT⟩, ⟨w5, w6⟩, ⟨t0, t4⟩, -, -⟩ := hq
  obtain ⟨p, hp⟩ : ∃ p : Nat, m 33 5 = (p : Int) := ⟨(m 33 5).toNat, by omega⟩
  obtain ⟨b, hb⟩ : ∃ b : Nat, m 33 3 = (b : Int) := ⟨(m 33 3).toNat, by omega⟩
  have hcw : cwn m = wno (m 1) p b := by
    unfold cwn
    rw [hp, hb, Int.toNat_natCast, Int.toNat_natCast]
  have hi : cwn m = 1 ↔ spl (m 1) p b (wrd 1) = true := by
    rw [hcw]
    exact wno_iff (j := 1) (by decide)
  refine uw_1 ?_
  rw [hp] at w5 w6
  rw [hb] at w1 w3 w6
  rw [hp, hb, am_s_id (z := m 33 4) (by omega) (by omega)]
  refine ⟨fun qt => ⟨by rw [if_neg (fun zz => qt zz.1)], (by first | rfl | trivial)⟩, fun qt => ?_⟩
  rw [am_s_id (z := (b : Int) - (p : Int)) (by omega) (by omega), show am_s ((p : Int) + 0) = ((p + 0 : Nat) : Int) from am_s_id (by omega) (by omega), show am_s ((p : Int) + 1) = ((p + 1 : Nat) : Int) from am_s_id (by omega) (by omega), show am_s ((p : Int) + 2) = ((p + 2 : Nat) : Int) from am_s_id (by omega) (by omega)]
  simp only [Int.toNat_natCast]
  refine ⟨fun qn => ?_, fun qn => ⟨by rw [if_neg (fun zz => qn (by have h9 : b = p + 3 := (spl_t.mp (hi.mp zz.2)).1; omega))], (by first | rfl | trivial)⟩⟩
  have b0 : am_s (m 1 (p + 0)) = m 1 (p + 0) := am_s_id (by have := hT (p + 0) (by omega); omega) (by have := hT (p + 0) (by omega); omega)
  have b1 : am_s (m 1 (p + 1)) = m 1 (p + 1) := am_s_id (by have := hT (p + 1) (by omega); omega) (by have := hT (p + 1) (by omega); omega)
  have b2 : am_s (m 1 (p + 2)) = m 1 (p + 2) := am_s_id (by have := hT (p + 2) (by omega); omega) (by have := hT (p + 2) (by omega); omega)
  rw [b0, b1, b2]
  exact ⟨⟨by omega, by omega⟩, fun q0 => ⟨⟨by omega, by omega⟩, fun q1 => ⟨⟨by omega, by omega⟩, fun q2 => ⟨by rw [if_pos ⟨qt, hi.mpr (spl_t.mpr ⟨by show _ = _ + 3; omega, fun ix hix => by
    have hix : ix < 3 := hix
    have : ix = 0 ∨ ix = 1 ∨ ix = 2 := by omega
    rcases this with rfl | rfl | rfl
    · exact q0
    · exact q1
    · exact q2⟩)⟩], (by first | rfl | trivial)⟩, fun q2 => ⟨by rw [if_neg (fun zz => q2 ((spl_t.mp (hi.mp zz.2)).2 2 (by decide)))], (by first | rfl | trivial)⟩⟩, fun q1 => ⟨by rw [if_neg (fun zz => q1 ((spl_t.mp (hi.mp zz.2)).2 1 (by decide)))], (by first | rfl | trivial)⟩⟩, fun q0 => ⟨by rw [if_neg (fun zz => q0 ((spl_t.mp (hi.mp zz.2)).2 0 (by decide)))], (by first | rfl | trivial)⟩⟩
theorem uw_2 {Q : List am_V → am_M → Prop} {m : am_M}   (H : ((¬ am_s (m 33 4) = 1) → Q [.inl 0] m) ∧ ((am_s (m 33 4) = 1) → ((am_s ((m 33 3) - (m 33 5)) = 5) → (0 ≤ am_s ((m 33 5) + 0) ∧ am_s ((m 33 5) + 0) < (900 : Nat)) ∧ (((am_s (m 1 ((am_s ((m 33 5) + 0)).toNat)) = 104) → (0 ≤ am_s ((m 33 5) + 1) ∧ am_s ((m 33 5) + 1) < (900 : Nat)) ∧ (((am_s (m 1 ((am_s ((m 33 5) + 1)).toNat)) = 97) → (0 ≤ am_s ((m 33 5) + 2) ∧ am_s ((m 33 5) + 2) < (900 : Nat)) ∧ (((am_s (m 1 ((am_s ((m 33 5) + 2)).toNat)) = 110) → (0 ≤ am_s ((m 33 5) + 3) ∧ am_s ((m 33 5) + 3) < (900 : Nat)) ∧ (((am_s (m 1 ((am_s ((m 33 5) + 3)).toNat)) = 100) → (0 ≤ am_s ((m 33 5) + 4) ∧ am_s ((m 33 5) + 4) < (900 : Nat)) ∧ (((am_s (m 1 ((am_s ((m 33 5) + 4)).toNat)) = 115) → Q [.inl 1] m) ∧ ((¬ (am_s (m 1 ((am_s ((m 33 5) + 4)).toNat)) = 115)) → Q [.inl 0] m))) ∧ ((¬ (am_s (m 1 ((am_s ((m 33 5) + 3)).toNat)) = 100)) → Q [.inl 0] m))) ∧ ((¬ (am_s (m 1 ((am_s ((m 33 5) + 2)).toNat)) = 110)) → Q [.inl 0] m))) ∧ ((¬ (am_s (m 1 ((am_s ((m 33 5) + 1)).toNat)) = 97)) → Q [.inl 0] m))) ∧ ((¬ (am_s (m 1 ((am_s ((m 33 5) + 0)).toNat)) = 104)) → Q [.inl 0] m))) ∧ ((¬ (am_s ((m 33 3) - (m 33 5)) = 5)) → Q [.inl 0] m))) : ok 4 19 0 [some (.inr (.inr (some 33))), some (.inl 2), none, none] [] m Q := by
  refine ok_sg (pc' := 10) (ls' := [some (.inr (.inr (some 33))), some (.inl 2), some (.inr (.inr (some 2002))), none]) (st' := [.inl 1, .inl (m 33 4)]) (m' := m) (fun fx hfx o hk => ?_) ?_
  · refine r_ld (pc' := 1) hM_19 d_19_0 rfl rfl ?_
    refine r_cl (pc' := 4) (c := (18, 2)) (a := [.inl 2]) (q := []) hM_19 d_19_1 rfl (by decide +kernel) hM_18 rfl rfl rfl (Nat.le_of_ble_eq_true rfl) (Nat.le_of_ble_eq_true rfl) (Or.inl rfl) (ok_rnk (sp_2 (m := m)) hfx) (Nat.le_of_ble_eq_true rfl) ?_
    show rn fx 4 (0, 0) 19 4 [some (.inr (.inr (some 33))), some (.inl 2), none, none] [.inr (.inr (some 2002))] (st0 m) o
    refine r_sto (pc' := 5) (ls' := [some (.inr (.inr (some 33))), some (.inl 2), some (.inr (.inr (some 2002))), none]) hM_19 d_19_4 rfl rfl ?_
    refine r_ld (pc' := 6) hM_19 d_19_5 rfl rfl ?_
    refine r_gI (pc' := 9) (k0 := 4) hM_19 d_19_6 rfl (by decide +kernel) ?_
    refine r_k (pc' := 10) (v := .inl 1) hM_19 d_19_9 rfl rfl ?_
    exact hk
  refine ok_ic (pc' := 29) (pc2 := 13) hM_19 d_19_10 (by decide) rfl (fun hz1 => ?_) (fun hz1 => ?_)
  · have H := H.1 hz1
    refine ok_sg (pc' := 30) (ls' := [some (.inr (.inr (some 33))), some (.inl 2), some (.inr (.inr (some 2002))), none]) (st' := [.inl 0]) (m' := m) (fun fx hfx o hk => ?_) ?_
    · refine r_k (pc' := 30) (v := .inl 0) hM_19 d_19_29 rfl rfl ?_
      exact hk
    exact ok_rt (fun fx _ => rt_z hM_19 d_19_30 rfl (by decide)) H
  · have H := H.2 (Decidable.not_not.mp hz1)
    refine ok_sg (pc' := 26) (ls' := [some (.inr (.inr (some 33))), some (.inl 2), some (.inr (.inr (some 2002))), none]) (st' := [.inl 5, .inl ((m 33 3) - (m 33 5))]) (m' := m) (fun fx hfx o hk => ?_) ?_
    · refine r_ld (pc' := 14) hM_19 d_19_13 rfl rfl ?_
      refine r_gI (pc' := 17) (k0 := 3) hM_19 d_19_14 rfl (by decide +kernel) ?_
      refine r_ld (pc' := 18) hM_19 d_19_17 rfl rfl ?_
      refine r_gI (pc' := 21) (k0 := 5) hM_19 d_19_18 rfl (by decide +kernel) ?_
      refine r_b (pc' := 22) (z := ((m 33 3) - (m 33 5))) hM_19 d_19_21 rfl rfl ?_
      refine r_ld (pc' := 23) hM_19 d_19_22 rfl rfl ?_
      refine r_cl (pc' := 26) (c := (20, 0)) (a := [.inr (.inr (some 2002))]) (q := [.inl ((m 33 3) - (m 33 5))]) hM_19 d_19_23 rfl (by decide +kernel) hM_20 rfl rfl rfl (Nat.le_of_ble_eq_true rfl) (Nat.le_of_ble_eq_true rfl) (Or.inr rfl) (ok_rnk (sn_2 (m := m)) hfx) (Nat.le_of_ble_eq_true rfl) ?_
      show rn fx 4 (0, 0) 19 26 [some (.inr (.inr (some 33))), some (.inl 2), some (.inr (.inr (some 2002))), none] [.inl 5, .inl ((m 33 3) - (m 33 5))] (st0 m) o
      exact hk
    refine ok_ic (pc' := 31) (pc2 := 29) hM_19 d_19_26 (by decide) rfl (fun hz2 => ?_) (fun hz2 => ?_)
    · have H := H.1 hz2
      obtain ⟨hz3, H⟩ := H
      refine ok_sg (pc' := 57) (ls' := [some (.inr (.inr (some 33))), some (.inl 2), some (.inr (.inr (some 2002))), some (.inl 0)]) (st' := [.inl 104, .inl (m 1 ((am_s ((m 33 5) + 0)).toNat))]) (m' := m) (fun fx hfx o hk => ?_) ?_
      · refine r_k (pc' := 32) (v := .inl 0) hM_19 d_19_31 rfl rfl ?_
        refine r_sto (pc' := 33) (ls' := [some (.inr (.inr (some 33))), some (.inl 2), some (.inr (.inr (some 2002))), some (.inl 0)]) hM_19 d_19_32 rfl rfl ?_
        refine r_ld (pc' := 34) hM_19 d_19_33 rfl rfl ?_
        refine r_ld (pc' := 35) hM_19 d_19_34 rfl rfl ?_
        refine r_cl (pc' := 38) (c := (20, 0)) (a := [.inr (.inr (some 2002))]) (q := [.inl 0]) hM_19 d_19_35 rfl (by decide +kernel) hM_20 rfl rfl rfl (Nat.le_of_ble_eq_true rfl) (Nat.le_of_ble_eq_true rfl) (Or.inr rfl) (ok_rnk (sn_2 (m := m)) hfx) (Nat.le_of_ble_eq_true rfl) ?_
        show rn fx 4 (0, 0) 19 38 [some (.inr (.inr (some 33))), some (.inl 2), some (.inr (.inr (some 2002))), some (.inl 0)] [.inl 5, .inl 0] (st0 m) o
        refine r_ic (pc' := 68) (pc2 := 41) hM_19 d_19_38 (by decide) rfl (fun hc => absurd hc (show ¬ (am_s 5 ≤ am_s 0) by decide)) (fun _ => ?_)
        refine r_ld (pc' := 42) hM_19 d_19_41 rfl rfl ?_
        refine r_gR (pc' := 45) (v := 1) hM_19 d_19_42 rfl (by decide +kernel) ?_
        refine r_ld (pc' := 46) hM_19 d_19_45 rfl rfl ?_
        refine r_gI (pc' := 49) (k0 := 5) hM_19 d_19_46 rfl (by decide +kernel) ?_
        refine r_ld (pc' := 50) hM_19 d_19_49 rfl rfl ?_
        refine r_b (pc' := 51) (z := ((m 33 5) + 0)) hM_19 d_19_50 rfl rfl ?_
        refine r_ba (pc' := 52) (n := 900) hM_19 d_19_51 rfl rfl (by decide) hz3 ?_
        refine r_ld (pc' := 53) hM_19 d_19_52 rfl rfl ?_
        refine r_ld (pc' := 54) hM_19 d_19_53 rfl rfl ?_
        refine r_cl (pc' := 57) (c := (22, 0)) (a := [.inr (.inr (some 2002)), .inl 0]) (q := [.inl (m 1 ((am_s ((m 33 5) + 0)).toNat))]) hM_19 d_19_54 rfl (by decide +kernel) hM_22 rfl rfl rfl (Nat.le_of_ble_eq_true rfl) (Nat.le_of_ble_eq_true rfl) (Or.inr rfl) (ok_rnk (sa_2_0 (m := m)) hfx) (Nat.le_of_ble_eq_true rfl) ?_
        show rn fx 4 (0, 0) 19 57 [some (.inr (.inr (some 33))), some (.inl 2), some (.inr (.inr (some 2002))), some (.inl 0)] [.inl 104, .inl (m 1 ((am_s ((m 33 5) + 0)).toNat))] (st0 m) o
        exact hk
      refine ok_ic (pc' := 62) (pc2 := 60) hM_19 d_19_57 (by decide) rfl (fun hz4 => ?_) (fun hz4 => ?_)
      · have H := H.1 hz4
        obtain ⟨hz5, H⟩ := H
        refine ok_sg (pc' := 57) (ls' := [some (.inr (.inr (some 33))), some (.inl 2), some (.inr (.inr (some 2002))), some (.inl 1)]) (st' := [.inl 97, .inl (m 1 ((am_s ((m 33 5) + 1)).toNat))]) (m' := m) (fun fx hfx o hk => ?_) ?_
        · refine r_sto (pc' := 65) (ls' := [some (.inr (.inr (some 33))), some (.inl 2), some (.inr (.inr (some 2002))), some (.inl 1)]) hM_19 d_19_62 rfl rfl ?_
          refine r_go (pc' := 33) hM_19 d_19_65 (by decide) ?_
          refine r_ld (pc' := 34) hM_19 d_19_33 rfl rfl ?_
          refine r_ld (pc' := 35) hM_19 d_19_34 rfl rfl ?_
          refine r_cl (pc' := 38) (c := (20, 0)) (a := [.inr (.inr (some 2002))]) (q := [.inl 1]) hM_19 d_19_35 rfl (by decide +kernel) hM_20 rfl rfl rfl (Nat.le_of_ble_eq_true rfl) (Nat.le_of_ble_eq_true rfl) (Or.inr rfl) (ok_rnk (sn_2 (m := m)) hfx) (Nat.le_of_ble_eq_true rfl) ?_
          show rn fx 4 (0, 0) 19 38 [some (.inr (.inr (some 33))), some (.inl 2), some (.inr (.inr (some 2002))), some (.inl 1)] [.inl 5, .inl 1] (st0 m) o
          refine r_ic (pc' := 68) (pc2 := 41) hM_19 d_19_38 (by decide) rfl (fun hc => absurd hc (show ¬ (am_s 5 ≤ am_s 1) by decide)) (fun _ => ?_)
          refine r_ld (pc' := 42) hM_19 d_19_41 rfl rfl ?_
          refine r_gR (pc' := 45) (v := 1) hM_19 d_19_42 rfl (by decide +kernel) ?_
          refine r_ld (pc' := 46) hM_19 d_19_45 rfl rfl ?_
          refine r_gI (pc' := 49) (k0 := 5) hM_19 d_19_46 rfl (by decide +kernel) ?_
          refine r_ld (pc' := 50) hM_19 d_19_49 rfl rfl ?_
          refine r_b (pc' := 51) (z := ((m 33 5) + 1)) hM_19 d_19_50 rfl rfl ?_
          refine r_ba (pc' := 52) (n := 900) hM_19 d_19_51 rfl rfl (by decide) hz5 ?_
          refine r_ld (pc' := 53) hM_19 d_19_52 rfl rfl ?_
          refine r_ld (pc' := 54) hM_19 d_19_53 rfl rfl ?_
          refine r_cl (pc' := 57) (c := (22, 0)) (a := [.inr (.inr (some 2002)), .inl 1]) (q := [.inl (m 1 ((am_s ((m 33 5) + 1)).toNat))]) hM_19 d_19_54 rfl (by decide +kernel) hM_22 rfl rfl rfl (Nat.le_of_ble_eq_true rfl) (Nat.le_of_ble_eq_true rfl) (Or.inr rfl) (ok_rnk (sa_2_1 (m := m)) hfx) (Nat.le_of_ble_eq_true rfl) ?_
          show rn fx 4 (0, 0) 19 57 [some (.inr (.inr (some 33))), some (.inl 2), some (.inr (.inr (some 2002))), some (.inl 1)] [.inl 97, .inl (m 1 ((am_s ((m 33 5) + 1)).toNat))] (st0 m) o
          exact hk
        refine ok_ic (pc' := 62) (pc2 := 60) hM_19 d_19_57 (by decide) rfl (fun hz6 => ?_) (fun hz6 => ?_)
        · have H := H.1 hz6
          obtain ⟨hz7, H⟩ := H
          refine ok_sg (pc' := 57) (ls' := [some (.inr (.inr (some 33))), some (.inl 2), some (.inr (.inr (some 2002))), some (.inl 2)]) (st' := [.inl 110, .inl (m 1 ((am_s ((m 33 5) + 2)).toNat))]) (m' := m) (fun fx hfx o hk => ?_) ?_
          · refine r_sto (pc' := 65) (ls' := [some (.inr (.inr (some 33))), some (.inl 2), some (.inr (.inr (some 2002))), some (.inl 2)]) hM_19 d_19_62 rfl rfl ?_
            refine r_go (pc' := 33) hM_19 d_19_65 (by decide) ?_
            refine r_ld (pc' := 34) hM_19 d_19_33 rfl rfl ?_
            refine r_ld (pc' := 35) hM_19 d_19_34 rfl rfl ?_
            refine r_cl (pc' := 38) (c := (20, 0)) (a := [.inr (.inr (some 2002))]) (q := [.inl 2]) hM_19 d_19_35 rfl (by decide +kernel) hM_20 rfl rfl rfl (Nat.le_of_ble_eq_true rfl) (Nat.le_of_ble_eq_true rfl) (Or.inr rfl) (ok_rnk (sn_2 (m := m)) hfx) (Nat.le_of_ble_eq_true rfl) ?_
            show rn fx 4 (0, 0) 19 38 [some (.inr (.inr (some 33))), some (.inl 2), some (.inr (.inr (some 2002))), some (.inl 2)] [.inl 5, .inl 2] (st0 m) o
            refine r_ic (pc' := 68) (pc2 := 41) hM_19 d_19_38 (by decide) rfl (fun hc => absurd hc (show ¬ (am_s 5 ≤ am_s 2) by decide)) (fun _ => ?_)
            refine r_ld (pc' := 42) hM_19 d_19_41 rfl rfl ?_
            refine r_gR (pc' := 45) (v := 1) hM_19 d_19_42 rfl (by decide +kernel) ?_
            refine r_ld (pc' := 46) hM_19 d_19_45 rfl rfl ?_
            refine r_gI (pc' := 49) (k0 := 5) hM_19 d_19_46 rfl (by decide +kernel) ?_
            refine r_ld (pc' := 50) hM_19 d_19_49 rfl rfl ?_
            refine r_b (pc' := 51) (z := ((m 33 5) + 2)) hM_19 d_19_50 rfl rfl ?_
            refine r_ba (pc' := 52) (n := 900) hM_19 d_19_51 rfl rfl (by decide) hz7 ?_
            refine r_ld (pc' := 53) hM_19 d_19_52 rfl rfl ?_
            refine r_ld (pc' := 54) hM_19 d_19_53 rfl rfl ?_
            refine r_cl (pc' := 57) (c := (22, 0)) (a := [.inr (.inr (some 2002)), .inl 2]) (q := [.inl (m 1 ((am_s ((m 33 5) + 2)).toNat))]) hM_19 d_19_54 rfl (by decide +kernel) hM_22 rfl rfl rfl (Nat.le_of_ble_eq_true rfl) (Nat.le_of_ble_eq_true rfl) (Or.inr rfl) (ok_rnk (sa_2_2 (m := m)) hfx) (Nat.le_of_ble_eq_true rfl) ?_
            show rn fx 4 (0, 0) 19 57 [some (.inr (.inr (some 33))), some (.inl 2), some (.inr (.inr (some 2002))), some (.inl 2)] [.inl 110, .inl (m 1 ((am_s ((m 33 5) + 2)).toNat))] (st0 m) o
            exact hk
          refine ok_ic (pc' := 62) (pc2 := 60) hM_19 d_19_57 (by decide) rfl (fun hz8 => ?_) (fun hz8 => ?_)
          · have H := H.1 hz8
            obtain ⟨hz9, H⟩ := H
            refine ok_sg (pc' := 57) (ls' := [some (.inr (.inr (some 33))), some (.inl 2), some (.inr (.inr (some 2002))), some (.inl 3)]) (st' := [.inl 100, .inl (m 1 ((am_s ((m 33 5) + 3)).toNat))]) (m' := m) (fun fx hfx o hk => ?_) ?_
            · refine r_sto (pc' := 65) (ls' := [some (.inr (.inr (some 33))), some (.inl 2), some (.inr (.inr (some 2002))), some (.inl 3)]) hM_19 d_19_62 rfl rfl ?_
              refine r_go (pc' := 33) hM_19 d_19_65 (by decide) ?_
              refine r_ld (pc' := 34) hM_19 d_19_33 rfl rfl ?_
              refine r_ld (pc' := 35) hM_19 d_19_34 rfl rfl ?_
              refine r_cl (pc' := 38) (c := (20, 0)) (a := [.inr (.inr (some 2002))]) (q := [.inl 3]) hM_19 d_19_35 rfl (by decide +kernel) hM_20 rfl rfl rfl (Nat.le_of_ble_eq_true rfl) (Nat.le_of_ble_eq_true rfl) (Or.inr rfl) (ok_rnk (sn_2 (m := m)) hfx) (Nat.le_of_ble_eq_true rfl) ?_
              show rn fx 4 (0, 0) 19 38 [some (.inr (.inr (some 33))), some (.inl 2), some (.inr (.inr (some 2002))), some (.inl 3)] [.inl 5, .inl 3] (st0 m) o
              refine r_ic (pc' := 68) (pc2 := 41) hM_19 d_19_38 (by decide) rfl (fun hc => absurd hc (show ¬ (am_s 5 ≤ am_s 3) by decide)) (fun _ => ?_)
              refine r_ld (pc' := 42) hM_19 d_19_41 rfl rfl ?_
              refine r_gR (pc' := 45) (v := 1) hM_19 d_19_42 rfl (by decide +kernel) ?_
              refine r_ld (pc' := 46) hM_19 d_19_45 rfl rfl ?_
              refine r_gI (pc' := 49) (k0 := 5) hM_19 d_19_46 rfl (by decide +kernel) ?_
              refine r_ld (pc' := 50) hM_19 d_19_49 rfl rfl ?_
              refine r_b (pc' := 51) (z := ((m 33 5) + 3)) hM_19 d_19_50 rfl rfl ?_
              refine r_ba (pc' := 52) (n := 900) hM_19 d_19_51 rfl rfl (by decide) hz9 ?_
              refine r_ld (pc' := 53) hM_19 d_19_52 rfl rfl ?_
              refine r_ld (pc' := 54) hM_19 d_19_53 rfl rfl ?_
              refine r_cl (pc' := 57) (c := (22, 0)) (a := [.inr (.inr (some 2002)), .inl 3]) (q := [.inl (m 1 ((am_s ((m 33 5) + 3)).toNat))]) hM_19 d_19_54 rfl (by decide +kernel) hM_22 rfl rfl rfl (Nat.le_of_ble_eq_true rfl) (Nat.le_of_ble_eq_true rfl) (Or.inr rfl) (ok_rnk (sa_2_3 (m := m)) hfx) (Nat.le_of_ble_eq_true rfl) ?_
              show rn fx 4 (0, 0) 19 57 [some (.inr (.inr (some 33))), some (.inl 2), some (.inr (.inr (some 2002))), some (.inl 3)] [.inl 100, .inl (m 1 ((am_s ((m 33 5) + 3)).toNat))] (st0 m) o
              exact hk
            refine ok_ic (pc' := 62) (pc2 := 60) hM_19 d_19_57 (by decide) rfl (fun hz10 => ?_) (fun hz10 => ?_)
            · have H := H.1 hz10
              obtain ⟨hz11, H⟩ := H
              refine ok_sg (pc' := 57) (ls' := [some (.inr (.inr (some 33))), some (.inl 2), some (.inr (.inr (some 2002))), some (.inl 4)]) (st' := [.inl 115, .inl (m 1 ((am_s ((m 33 5) + 4)).toNat))]) (m' := m) (fun fx hfx o hk => ?_) ?_
              · refine r_sto (pc' := 65) (ls' := [some (.inr (.inr (some 33))), some (.inl 2), some (.inr (.inr (some 2002))), some (.inl 4)]) hM_19 d_19_62 rfl rfl ?_
                refine r_go (pc' := 33) hM_19 d_19_65 (by decide) ?_
                refine r_ld (pc' := 34) hM_19 d_19_33 rfl rfl ?_
                refine r_ld (pc' := 35) hM_19 d_19_34 rfl rfl ?_
                refine r_cl (pc' := 38) (c := (20, 0)) (a := [.inr (.inr (some 2002))]) (q := [.inl 4]) hM_19 d_19_35 rfl (by decide +kernel) hM_20 rfl rfl rfl (Nat.le_of_ble_eq_true rfl) (Nat.le_of_ble_eq_true rfl) (Or.inr rfl) (ok_rnk (sn_2 (m := m)) hfx) (Nat.le_of_ble_eq_true rfl) ?_
                show rn fx 4 (0, 0) 19 38 [some (.inr (.inr (some 33))), some (.inl 2), some (.inr (.inr (some 2002))), some (.inl 4)] [.inl 5, .inl 4] (st0 m) o
                refine r_ic (pc' := 68) (pc2 := 41) hM_19 d_19_38 (by decide) rfl (fun hc => absurd hc (show ¬ (am_s 5 ≤ am_s 4) by decide)) (fun _ => ?_)
                refine r_ld (pc' := 42) hM_19 d_19_41 rfl rfl ?_
                refine r_gR (pc' := 45) (v := 1) hM_19 d_19_42 rfl (by decide +kernel) ?_
                refine r_ld (pc' := 46) hM_19 d_19_45 rfl rfl ?_
                refine r_gI (pc' := 49) (k0 := 5) hM_19 d_19_46 rfl (by decide +kernel) ?_
                refine r_ld (pc' := 50) hM_19 d_19_49 rfl rfl ?_
                refine r_b (pc' := 51) (z := ((m 33 5) + 4)) hM_19 d_19_50 rfl rfl ?_
                refine r_ba (pc' := 52) (n := 900) hM_19 d_19_51 rfl rfl (by decide) hz11 ?_
                refine r_ld (pc' := 53) hM_19 d_19_52 rfl rfl ?_
                refine r_ld (pc' := 54) hM_19 d_19_53 rfl rfl ?_
                refine r_cl (pc' := 57) (c := (22, 0)) (a := [.inr (.inr (some 2002)), .inl 4]) (q := [.inl (m 1 ((am_s ((m 33 5) + 4)).toNat))]) hM_19 d_19_54 rfl (by decide +kernel) hM_22 rfl rfl rfl (Nat.le_of_ble_eq_true rfl) (Nat.le_of_ble_eq_true rfl) (Or.inr rfl) (ok_rnk (sa_2_4 (m := m)) hfx) (Nat.le_of_ble_eq_true rfl) ?_
                show rn fx 4 (0, 0) 19 57 [some (.inr (.inr (some 33))), some (.inl 2), some (.inr (.inr (some 2002))), some (.inl 4)] [.inl 115, .inl (m 1 ((am_s ((m 33 5) + 4)).toNat))] (st0 m) o
                exact hk
              refine ok_ic (pc' := 62) (pc2 := 60) hM_19 d_19_57 (by decide) rfl (fun hz12 => ?_) (fun hz12 => ?_)
              · have H := H.1 hz12
                refine ok_sg (pc' := 69) (ls' := [some (.inr (.inr (some 33))), some (.inl 2), some (.inr (.inr (some 2002))), some (.inl 5)]) (st' := [.inl 1]) (m' := m) (fun fx hfx o hk => ?_) ?_
                · refine r_sto (pc' := 65) (ls' := [some (.inr (.inr (some 33))), some (.inl 2), some (.inr (.inr (some 2002))), some (.inl 5)]) hM_19 d_19_62 rfl rfl ?_
                  refine r_go (pc' := 33) hM_19 d_19_65 (by decide) ?_
                  refine r_ld (pc' := 34) hM_19 d_19_33 rfl rfl ?_
                  refine r_ld (pc' := 35) hM_19 d_19_34 rfl rfl ?_
                  refine r_cl (pc' := 38) (c := (20, 0)) (a := [.inr (.inr (some 2002))]) (q := [.inl 5]) hM_19 d_19_35 rfl (by decide +kernel) hM_20 rfl rfl rfl (Nat.le_of_ble_eq_true rfl) (Nat.le_of_ble_eq_true rfl) (Or.inr rfl) (ok_rnk (sn_2 (m := m)) hfx) (Nat.le_of_ble_eq_true rfl) ?_
                  show rn fx 4 (0, 0) 19 38 [some (.inr (.inr (some 33))), some (.inl 2), some (.inr (.inr (some 2002))), some (.inl 5)] [.inl 5, .inl 5] (st0 m) o
                  refine r_ic (pc' := 68) (pc2 := 41) hM_19 d_19_38 (by decide) rfl (fun _ => ?_) (fun hc => absurd (show am_s 5 ≤ am_s 5 by decide) hc)
                  refine r_k (pc' := 69) (v := .inl 1) hM_19 d_19_68 rfl rfl ?_
                  exact hk
                exact ok_rt (fun fx _ => rt_z hM_19 d_19_69 rfl (by decide)) H
              · have H := H.2 hz12
                refine ok_sg (pc' := 61) (ls' := [some (.inr (.inr (some 33))), some (.inl 2), some (.inr (.inr (some 2002))), some (.inl 4)]) (st' := [.inl 0]) (m' := m) (fun fx hfx o hk => ?_) ?_
                · refine r_k (pc' := 61) (v := .inl 0) hM_19 d_19_60 rfl rfl ?_
                  exact hk
                exact ok_rt (fun fx _ => rt_z hM_19 d_19_61 rfl (by decide)) H
            · have H := H.2 hz10
              refine ok_sg (pc' := 61) (ls' := [some (.inr (.inr (some 33))), some (.inl 2), some (.inr (.inr (some 2002))), some (.inl 3)]) (st' := [.inl 0]) (m' := m) (fun fx hfx o hk => ?_) ?_
              · refine r_k (pc' := 61) (v := .inl 0) hM_19 d_19_60 rfl rfl ?_
                exact hk
              exact ok_rt (fun fx _ => rt_z hM_19 d_19_61 rfl (by decide)) H
          · have H := H.2 hz8
            refine ok_sg (pc' := 61) (ls' := [some (.inr (.inr (some 33))), some (.inl 2), some (.inr (.inr (some 2002))), some (.inl 2)]) (st' := [.inl 0]) (m' := m) (fun fx hfx o hk => ?_) ?_
            · refine r_k (pc' := 61) (v := .inl 0) hM_19 d_19_60 rfl rfl ?_
              exact hk
            exact ok_rt (fun fx _ => rt_z hM_19 d_19_61 rfl (by decide)) H
        · have H := H.2 hz6
          refine ok_sg (pc' := 61) (ls' := [some (.inr (.inr (some 33))), some (.inl 2), some (.inr (.inr (some 2002))), some (.inl 1)]) (st' := [.inl 0]) (m' := m) (fun fx hfx o hk => ?_) ?_
          · refine r_k (pc' := 61) (v := .inl 0) hM_19 d_19_60 rfl rfl ?_
            exact hk
          exact ok_rt (fun fx _ => rt_z hM_19 d_19_61 rfl (by decide)) H
      · have H := H.2 hz4
        refine ok_sg (pc' := 61) (ls' := [some (.inr (.inr (some 33))), some (.inl 2), some (.inr (.inr (some 2002))), some (.inl 0)]) (st' := [.inl 0]) (m' := m) (fun fx hfx o hk => ?_) ?_
        · refine r_k (pc' := 61) (v := .inl 0) hM_19 d_19_60 rfl rfl ?_
          exact hk
        exact ok_rt (fun fx _ => rt_z hM_19 d_19_61 rfl (by decide)) H
    · have H := H.2 hz2
      refine ok_sg (pc' := 30) (ls' := [some (.inr (.inr (some 33))), some (.inl 2), some (.inr (.inr (some 2002))), none]) (st' := [.inl 0]) (m' := m) (fun fx hfx o hk => ?_) ?_
      · refine r_k (pc' := 30) (v := .inl 0) hM_19 d_19_29 rfl rfl ?_
        exact hk
      exact ok_rt (fun fx _ => rt_z hM_19 d_19_30 rfl (by decide)) H
theorem zw_2 {m : am_M} (hq : RV m) : ok 4 19 0 (am_ent 4 [.inr (.inr (some 33)), .inl 2]) [] m (fun rr m' => rr = [.inl (if m 33 4 = 1 ∧ cwn m = 2 then 1 else 0)] ∧ m' = m) := by
  obtain ⟨⟨⟨w1, w3, w4⟩, hT⟩, ⟨w5, w6⟩, ⟨t0, t4⟩, -, -⟩ := hq
  obtain ⟨p, hp⟩ : ∃ p : Nat, m 33 5 = (p : Int) := ⟨(m 33 5).toNat, by omega⟩
  obtain ⟨b, hb⟩ : ∃ b : Nat, m 33 3 = (b : Int) := ⟨(m 33 3).toNat, by omega⟩
  have hcw : cwn m = wno (m 1) p b := by
    unfold cwn
    rw [hp, hb, Int.toNat_natCast, Int.toNat_natCast]
  have hi : cwn m = 2 ↔ spl (m 1) p b (wrd 2) = true := by
    rw [hcw]
    exact wno_iff (j := 2) (by decide)
  refine uw_2 ?_
  rw [hp] at w5 w6
  rw [hb] at w1 w3 w6
  rw [hp, hb, am_s_id (z := m 33 4) (by omega) (by omega)]
  refine ⟨fun qt => ⟨by rw [if_neg (fun zz => qt zz.1)], (by first | rfl | trivial)⟩, fun qt => ?_⟩
  rw [am_s_id (z := (b : Int) - (p : Int)) (by omega) (by omega), show am_s ((p : Int) + 0) = ((p + 0 : Nat) : Int) from am_s_id (by omega) (by omega), show am_s ((p : Int) + 1) = ((p + 1 : Nat) : Int) from am_s_id (by omega) (by omega), show am_s ((p : Int) + 2) = ((p + 2 : Nat) : Int) from am_s_id (by omega) (by omega), show am_s ((p : Int) + 3) = ((p + 3 : Nat) : Int) from am_s_id (by omega) (by omega), show am_s ((p : Int) + 4) = ((p + 4 : Nat) : Int) from am_s_id (by omega) (by omega)]
  simp only [Int.toNat_natCast]
  refine ⟨fun qn => ?_, fun qn => ⟨by rw [if_neg (fun zz => qn (by have h9 : b = p + 5 := (spl_t.mp (hi.mp zz.2)).1; omega))], (by first | rfl | trivial)⟩⟩
  have b0 : am_s (m 1 (p + 0)) = m 1 (p + 0) := am_s_id (by have := hT (p + 0) (by omega); omega) (by have := hT (p + 0) (by omega); omega)
  have b1 : am_s (m 1 (p + 1)) = m 1 (p + 1) := am_s_id (by have := hT (p + 1) (by omega); omega) (by have := hT (p + 1) (by omega); omega)
  have b2 : am_s (m 1 (p + 2)) = m 1 (p + 2) := am_s_id (by have := hT (p + 2) (by omega); omega) (by have := hT (p + 2) (by omega); omega)
  have b3 : am_s (m 1 (p + 3)) = m 1 (p + 3) := am_s_id (by have := hT (p + 3) (by omega); omega) (by have := hT (p + 3) (by omega); omega)
  have b4 : am_s (m 1 (p + 4)) = m 1 (p + 4) := am_s_id (by have := hT (p + 4) (by omega); omega) (by have := hT (p + 4) (by omega); omega)
  rw [b0, b1, b2, b3, b4]
  exact ⟨⟨by omega, by omega⟩, fun q0 => ⟨⟨by omega, by omega⟩, fun q1 => ⟨⟨by omega, by omega⟩, fun q2 => ⟨⟨by omega, by omega⟩, fun q3 => ⟨⟨by omega, by omega⟩, fun q4 => ⟨by rw [if_pos ⟨qt, hi.mpr (spl_t.mpr ⟨by show _ = _ + 5; omega, fun ix hix => by
    have hix : ix < 5 := hix
    have : ix = 0 ∨ ix = 1 ∨ ix = 2 ∨ ix = 3 ∨ ix = 4 := by omega
    rcases this with rfl | rfl | rfl | rfl | rfl
    · exact q0
    · exact q1
    · exact q2
    · exact q3
    · exact q4⟩)⟩], (by first | rfl | trivial)⟩, fun q4 => ⟨by rw [if_neg (fun zz => q4 ((spl_t.mp (hi.mp zz.2)).2 4 (by decide)))], (by first | rfl | trivial)⟩⟩, fun q3 => ⟨by rw [if_neg (fun zz => q3 ((spl_t.mp (hi.mp zz.2)).2 3 (by decide)))], (by first | rfl | trivial)⟩⟩, fun q2 => ⟨by rw [if_neg (fun zz => q2 ((spl_t.mp (hi.mp zz.2)).2 2 (by decide)))], (by first | rfl | trivial)⟩⟩, fun q1 => ⟨by rw [if_neg (fun zz => q1 ((spl_t.mp (hi.mp zz.2)).2 1 (by decide)))], (by first | rfl | trivial)⟩⟩, fun q0 => ⟨by rw [if_neg (fun zz => q0 ((spl_t.mp (hi.mp zz.2)).2 0 (by decide)))], (by first | rfl | trivial)⟩⟩
theorem uw_3 {Q : List am_V → am_M → Prop} {m : am_M}   (H : ((¬ am_s (m 33 4) = 1) → Q [.inl 0] m) ∧ ((am_s (m 33 4) = 1) → ((am_s ((m 33 3) - (m 33 5)) = 4) → (0 ≤ am_s ((m 33 5) + 0) ∧ am_s ((m 33 5) + 0) < (900 : Nat)) ∧ (((am_s (m 1 ((am_s ((m 33 5) + 0)).toNat)) = 108) → (0 ≤ am_s ((m 33 5) + 1) ∧ am_s ((m 33 5) + 1) < (900 : Nat)) ∧ (((am_s (m 1 ((am_s ((m 33 5) + 1)).toNat)) = 101) → (0 ≤ am_s ((m 33 5) + 2) ∧ am_s ((m 33 5) + 2) < (900 : Nat)) ∧ (((am_s (m 1 ((am_s ((m 33 5) + 2)).toNat)) = 102) → (0 ≤ am_s ((m 33 5) + 3) ∧ am_s ((m 33 5) + 3) < (900 : Nat)) ∧ (((am_s (m 1 ((am_s ((m 33 5) + 3)).toNat)) = 116) → Q [.inl 1] m) ∧ ((¬ (am_s (m 1 ((am_s ((m 33 5) + 3)).toNat)) = 116)) → Q [.inl 0] m))) ∧ ((¬ (am_s (m 1 ((am_s ((m 33 5) + 2)).toNat)) = 102)) → Q [.inl 0] m))) ∧ ((¬ (am_s (m 1 ((am_s ((m 33 5) + 1)).toNat)) = 101)) → Q [.inl 0] m))) ∧ ((¬ (am_s (m 1 ((am_s ((m 33 5) + 0)).toNat)) = 108)) → Q [.inl 0] m))) ∧ ((¬ (am_s ((m 33 3) - (m 33 5)) = 4)) → Q [.inl 0] m))) : ok 4 19 0 [some (.inr (.inr (some 33))), some (.inl 3), none, none] [] m Q := by
  refine ok_sg (pc' := 10) (ls' := [some (.inr (.inr (some 33))), some (.inl 3), some (.inr (.inr (some 2003))), none]) (st' := [.inl 1, .inl (m 33 4)]) (m' := m) (fun fx hfx o hk => ?_) ?_
  · refine r_ld (pc' := 1) hM_19 d_19_0 rfl rfl ?_
    refine r_cl (pc' := 4) (c := (18, 2)) (a := [.inl 3]) (q := []) hM_19 d_19_1 rfl (by decide +kernel) hM_18 rfl rfl rfl (Nat.le_of_ble_eq_true rfl) (Nat.le_of_ble_eq_true rfl) (Or.inl rfl) (ok_rnk (sp_3 (m := m)) hfx) (Nat.le_of_ble_eq_true rfl) ?_
    show rn fx 4 (0, 0) 19 4 [some (.inr (.inr (some 33))), some (.inl 3), none, none] [.inr (.inr (some 2003))] (st0 m) o
    refine r_sto (pc' := 5) (ls' := [some (.inr (.inr (some 33))), some (.inl 3), some (.inr (.inr (some 2003))), none]) hM_19 d_19_4 rfl rfl ?_
    refine r_ld (pc' := 6) hM_19 d_19_5 rfl rfl ?_
    refine r_gI (pc' := 9) (k0 := 4) hM_19 d_19_6 rfl (by decide +kernel) ?_
    refine r_k (pc' := 10) (v := .inl 1) hM_19 d_19_9 rfl rfl ?_
    exact hk
  refine ok_ic (pc' := 29) (pc2 := 13) hM_19 d_19_10 (by decide) rfl (fun hz1 => ?_) (fun hz1 => ?_)
  · have H := H.1 hz1
    refine ok_sg (pc' := 30) (ls' := [some (.inr (.inr (some 33))), some (.inl 3), some (.inr (.inr (some 2003))), none]) (st' := [.inl 0]) (m' := m) (fun fx hfx o hk => ?_) ?_
    · refine r_k (pc' := 30) (v := .inl 0) hM_19 d_19_29 rfl rfl ?_
      exact hk
    exact ok_rt (fun fx _ => rt_z hM_19 d_19_30 rfl (by decide)) H
  · have H := H.2 (Decidable.not_not.mp hz1)
    refine ok_sg (pc' := 26) (ls' := [some (.inr (.inr (some 33))), some (.inl 3), some (.inr (.inr (some 2003))), none]) (st' := [.inl 4, .inl ((m 33 3) - (m 33 5))]) (m' := m) (fun fx hfx o hk => ?_) ?_
    · refine r_ld (pc' := 14) hM_19 d_19_13 rfl rfl ?_
      refine r_gI (pc' := 17) (k0 := 3) hM_19 d_19_14 rfl (by decide +kernel) ?_
      refine r_ld (pc' := 18) hM_19 d_19_17 rfl rfl ?_
      refine r_gI (pc' := 21) (k0 := 5) hM_19 d_19_18 rfl (by decide +kernel) ?_
      refine r_b (pc' := 22) (z := ((m 33 3) - (m 33 5))) hM_19 d_19_21 rfl rfl ?_
      refine r_ld (pc' := 23) hM_19 d_19_22 rfl rfl ?_
      refine r_cl (pc' := 26) (c := (20, 0)) (a := [.inr (.inr (some 2003))]) (q := [.inl ((m 33 3) - (m 33 5))]) hM_19 d_19_23 rfl (by decide +kernel) hM_20 rfl rfl rfl (Nat.le_of_ble_eq_true rfl) (Nat.le_of_ble_eq_true rfl) (Or.inr rfl) (ok_rnk (sn_3 (m := m)) hfx) (Nat.le_of_ble_eq_true rfl) ?_
      show rn fx 4 (0, 0) 19 26 [some (.inr (.inr (some 33))), some (.inl 3), some (.inr (.inr (some 2003))), none] [.inl 4, .inl ((m 33 3) - (m 33 5))] (st0 m) o
      exact hk
    refine ok_ic (pc' := 31) (pc2 := 29) hM_19 d_19_26 (by decide) rfl (fun hz2 => ?_) (fun hz2 => ?_)
    · have H := H.1 hz2
      obtain ⟨hz3, H⟩ := H
      refine ok_sg (pc' := 57) (ls' := [some (.inr (.inr (some 33))), some (.inl 3), some (.inr (.inr (some 2003))), some (.inl 0)]) (st' := [.inl 108, .inl (m 1 ((am_s ((m 33 5) + 0)).toNat))]) (m' := m) (fun fx hfx o hk => ?_) ?_
      · refine r_k (pc' := 32) (v := .inl 0) hM_19 d_19_31 rfl rfl ?_
        refine r_sto (pc' := 33) (ls' := [some (.inr (.inr (some 33))), some (.inl 3), some (.inr (.inr (some 2003))), some (.inl 0)]) hM_19 d_19_32 rfl rfl ?_
        refine r_ld (pc' := 34) hM_19 d_19_33 rfl rfl ?_
        refine r_ld (pc' := 35) hM_19 d_19_34 rfl rfl ?_
        refine r_cl (pc' := 38) (c := (20, 0)) (a := [.inr (.inr (some 2003))]) (q := [.inl 0]) hM_19 d_19_35 rfl (by decide +kernel) hM_20 rfl rfl rfl (Nat.le_of_ble_eq_true rfl) (Nat.le_of_ble_eq_true rfl) (Or.inr rfl) (ok_rnk (sn_3 (m := m)) hfx) (Nat.le_of_ble_eq_true rfl) ?_
        show rn fx 4 (0, 0) 19 38 [some (.inr (.inr (some 33))), some (.inl 3), some (.inr (.inr (some 2003))), some (.inl 0)] [.inl 4, .inl 0] (st0 m) o
        refine r_ic (pc' := 68) (pc2 := 41) hM_19 d_19_38 (by decide) rfl (fun hc => absurd hc (show ¬ (am_s 4 ≤ am_s 0) by decide)) (fun _ => ?_)
        refine r_ld (pc' := 42) hM_19 d_19_41 rfl rfl ?_
        refine r_gR (pc' := 45) (v := 1) hM_19 d_19_42 rfl (by decide +kernel) ?_
        refine r_ld (pc' := 46) hM_19 d_19_45 rfl rfl ?_
        refine r_gI (pc' := 49) (k0 := 5) hM_19 d_19_46 rfl (by decide +kernel) ?_
        refine r_ld (pc' := 50) hM_19 d_19_49 rfl rfl ?_
        refine r_b (pc' := 51) (z := ((m 33 5) + 0)) hM_19 d_19_50 rfl rfl ?_
        refine r_ba (pc' := 52) (n := 900) hM_19 d_19_51 rfl rfl (by decide) hz3 ?_
        refine r_ld (pc' := 53) hM_19 d_19_52 rfl rfl ?_
        refine r_ld (pc' := 54) hM_19 d_19_53 rfl rfl ?_
        refine r_cl (pc' := 57) (c := (22, 0)) (a := [.inr (.inr (some 2003)), .inl 0]) (q := [.inl (m 1 ((am_s ((m 33 5) + 0)).toNat))]) hM_19 d_19_54 rfl (by decide +kernel) hM_22 rfl rfl rfl (Nat.le_of_ble_eq_true rfl) (Nat.le_of_ble_eq_true rfl) (Or.inr rfl) (ok_rnk (sa_3_0 (m := m)) hfx) (Nat.le_of_ble_eq_true rfl) ?_
        show rn fx 4 (0, 0) 19 57 [some (.inr (.inr (some 33))), some (.inl 3), some (.inr (.inr (some 2003))), some (.inl 0)] [.inl 108, .inl (m 1 ((am_s ((m 33 5) + 0)).toNat))] (st0 m) o
        exact hk
      refine ok_ic (pc' := 62) (pc2 := 60) hM_19 d_19_57 (by decide) rfl (fun hz4 => ?_) (fun hz4 => ?_)
      · have H := H.1 hz4
        obtain ⟨hz5, H⟩ := H
        refine ok_sg (pc' := 57) (ls' := [some (.inr (.inr (some 33))), some (.inl 3), some (.inr (.inr (some 2003))), some (.inl 1)]) (st' := [.inl 101, .inl (m 1 ((am_s ((m 33 5) + 1)).toNat))]) (m' := m) (fun fx hfx o hk => ?_) ?_
        · refine r_sto (pc' := 65) (ls' := [some (.inr (.inr (some 33))), some (.inl 3), some (.inr (.inr (some 2003))), some (.inl 1)]) hM_19 d_19_62 rfl rfl ?_
          refine r_go (pc' := 33) hM_19 d_19_65 (by decide) ?_
          refine r_ld (pc' := 34) hM_19 d_19_33 rfl rfl ?_
          refine r_ld (pc' := 35) hM_19 d_19_34 rfl rfl ?_
          refine r_cl (pc' := 38) (c := (20, 0)) (a := [.inr (.inr (some 2003))]) (q := [.inl 1]) hM_19 d_19_35 rfl (by decide +kernel) hM_20 rfl rfl rfl (Nat.le_of_ble_eq_true rfl) (Nat.le_of_ble_eq_true rfl) (Or.inr rfl) (ok_rnk (sn_3 (m := m)) hfx) (Nat.le_of_ble_eq_true rfl) ?_
          show rn fx 4 (0, 0) 19 38 [some (.inr (.inr (some 33))), some (.inl 3), some (.inr (.inr (some 2003))), some (.inl 1)] [.inl 4, .inl 1] (st0 m) o
          refine r_ic (pc' := 68) (pc2 := 41) hM_19 d_19_38 (by decide) rfl (fun hc => absurd hc (show ¬ (am_s 4 ≤ am_s 1) by decide)) (fun _ => ?_)
          refine r_ld (pc' := 42) hM_19 d_19_41 rfl rfl ?_
          refine r_gR (pc' := 45) (v := 1) hM_19 d_19_42 rfl (by decide +kernel) ?_
          refine r_ld (pc' := 46) hM_19 d_19_45 rfl rfl ?_
          refine r_gI (pc' := 49) (k0 := 5) hM_19 d_19_46 rfl (by decide +kernel) ?_
          refine r_ld (pc' := 50) hM_19 d_19_49 rfl rfl ?_
          refine r_b (pc' := 51) (z := ((m 33 5) + 1)) hM_19 d_19_50 rfl rfl ?_
          refine r_ba (pc' := 52) (n := 900) hM_19 d_19_51 rfl rfl (by decide) hz5 ?_
          refine r_ld (pc' := 53) hM_19 d_19_52 rfl rfl ?_
          refine r_ld (pc' := 54) hM_19 d_19_53 rfl rfl ?_
          refine r_cl (pc' := 57) (c := (22, 0)) (a := [.inr (.inr (some 2003)), .inl 1]) (q := [.inl (m 1 ((am_s ((m 33 5) + 1)).toNat))]) hM_19 d_19_54 rfl (by decide +kernel) hM_22 rfl rfl rfl (Nat.le_of_ble_eq_true rfl) (Nat.le_of_ble_eq_true rfl) (Or.inr rfl) (ok_rnk (sa_3_1 (m := m)) hfx) (Nat.le_of_ble_eq_true rfl) ?_
          show rn fx 4 (0, 0) 19 57 [some (.inr (.inr (some 33))), some (.inl 3), some (.inr (.inr (some 2003))), some (.inl 1)] [.inl 101, .inl (m 1 ((am_s ((m 33 5) + 1)).toNat))] (st0 m) o
          exact hk
        refine ok_ic (pc' := 62) (pc2 := 60) hM_19 d_19_57 (by decide) rfl (fun hz6 => ?_) (fun hz6 => ?_)
        · have H := H.1 hz6
          obtain ⟨hz7, H⟩ := H
          refine ok_sg (pc' := 57) (ls' := [some (.inr (.inr (some 33))), some (.inl 3), some (.inr (.inr (some 2003))), some (.inl 2)]) (st' := [.inl 102, .inl (m 1 ((am_s ((m 33 5) + 2)).toNat))]) (m' := m) (fun fx hfx o hk => ?_) ?_
          · refine r_sto (pc' := 65) (ls' := [some (.inr (.inr (some 33))), some (.inl 3), some (.inr (.inr (some 2003))), some (.inl 2)]) hM_19 d_19_62 rfl rfl ?_
            refine r_go (pc' := 33) hM_19 d_19_65 (by decide) ?_
            refine r_ld (pc' := 34) hM_19 d_19_33 rfl rfl ?_
            refine r_ld (pc' := 35) hM_19 d_19_34 rfl rfl ?_
            refine r_cl (pc' := 38) (c := (20, 0)) (a := [.inr (.inr (some 2003))]) (q := [.inl 2]) hM_19 d_19_35 rfl (by decide +kernel) hM_20 rfl rfl rfl (Nat.le_of_ble_eq_true rfl) (Nat.le_of_ble_eq_true rfl) (Or.inr rfl) (ok_rnk (sn_3 (m := m)) hfx) (Nat.le_of_ble_eq_true rfl) ?_
            show rn fx 4 (0, 0) 19 38 [some (.inr (.inr (some 33))), some (.inl 3), some (.inr (.inr (some 2003))), some (.inl 2)] [.inl 4, .inl 2] (st0 m) o
            refine r_ic (pc' := 68) (pc2 := 41) hM_19 d_19_38 (by decide) rfl (fun hc => absurd hc (show ¬ (am_s 4 ≤ am_s 2) by decide)) (fun _ => ?_)
            refine r_ld (pc' := 42) hM_19 d_19_41 rfl rfl ?_
            refine r_gR (pc' := 45) (v := 1) hM_19 d_19_42 rfl (by decide +kernel) ?_
            refine r_ld (pc' := 46) hM_19 d_19_45 rfl rfl ?_
            refine r_gI (pc' := 49) (k0 := 5) hM_19 d_19_46 rfl (by decide +kernel) ?_
            refine r_ld (pc' := 50) hM_19 d_19_49 rfl rfl ?_
            refine r_b (pc' := 51) (z := ((m 33 5) + 2)) hM_19 d_19_50 rfl rfl ?_
            refine r_ba (pc' := 52) (n := 900) hM_19 d_19_51 rfl rfl (by decide) hz7 ?_
            refine r_ld (pc' := 53) hM_19 d_19_52 rfl rfl ?_
            refine r_ld (pc' := 54) hM_19 d_19_53 rfl rfl ?_
            refine r_cl (pc' := 57) (c := (22, 0)) (a := [.inr (.inr (some 2003)), .inl 2]) (q := [.inl (m 1 ((am_s ((m 33 5) + 2)).toNat))]) hM_19 d_19_54 rfl (by decide +kernel) hM_22 rfl rfl rfl (Nat.le_of_ble_eq_true rfl) (Nat.le_of_ble_eq_true rfl) (Or.inr rfl) (ok_rnk (sa_3_2 (m := m)) hfx) (Nat.le_of_ble_eq_true rfl) ?_
            show rn fx 4 (0, 0) 19 57 [some (.inr (.inr (some 33))), some (.inl 3), some (.inr (.inr (some 2003))), some (.inl 2)] [.inl 102, .inl (m 1 ((am_s ((m 33 5) + 2)).toNat))] (st0 m) o
            exact hk
          refine ok_ic (pc' := 62) (pc2 := 60) hM_19 d_19_57 (by decide) rfl (fun hz8 => ?_) (fun hz8 => ?_)
          · have H := H.1 hz8
            obtain ⟨hz9, H⟩ := H
            refine ok_sg (pc' := 57) (ls' := [some (.inr (.inr (some 33))), some (.inl 3), some (.inr (.inr (some 2003))), some (.inl 3)]) (st' := [.inl 116, .inl (m 1 ((am_s ((m 33 5) + 3)).toNat))]) (m' := m) (fun fx hfx o hk => ?_) ?_
            · refine r_sto (pc' := 65) (ls' := [some (.inr (.inr (some 33))), some (.inl 3), some (.inr (.inr (some 2003))), some (.inl 3)]) hM_19 d_19_62 rfl rfl ?_
              refine r_go (pc' := 33) hM_19 d_19_65 (by decide) ?_
              refine r_ld (pc' := 34) hM_19 d_19_33 rfl rfl ?_
              refine r_ld (pc' := 35) hM_19 d_19_34 rfl rfl ?_
              refine r_cl (pc' := 38) (c := (20, 0)) (a := [.inr (.inr (some 2003))]) (q := [.inl 3]) hM_19 d_19_35 rfl (by decide +kernel) hM_20 rfl rfl rfl (Nat.le_of_ble_eq_true rfl) (Nat.le_of_ble_eq_true rfl) (Or.inr rfl) (ok_rnk (sn_3 (m := m)) hfx) (Nat.le_of_ble_eq_true rfl) ?_
              show rn fx 4 (0, 0) 19 38 [some (.inr (.inr (some 33))), some (.inl 3), some (.inr (.inr (some 2003))), some (.inl 3)] [.inl 4, .inl 3] (st0 m) o
              refine r_ic (pc' := 68) (pc2 := 41) hM_19 d_19_38 (by decide) rfl (fun hc => absurd hc (show ¬ (am_s 4 ≤ am_s 3) by decide)) (fun _ => ?_)
              refine r_ld (pc' := 42) hM_19 d_19_41 rfl rfl ?_
              refine r_gR (pc' := 45) (v := 1) hM_19 d_19_42 rfl (by decide +kernel) ?_
              refine r_ld (pc' := 46) hM_19 d_19_45 rfl rfl ?_
              refine r_gI (pc' := 49) (k0 := 5) hM_19 d_19_46 rfl (by decide +kernel) ?_
              refine r_ld (pc' := 50) hM_19 d_19_49 rfl rfl ?_
              refine r_b (pc' := 51) (z := ((m 33 5) + 3)) hM_19 d_19_50 rfl rfl ?_
              refine r_ba (pc' := 52) (n := 900) hM_19 d_19_51 rfl rfl (by decide) hz9 ?_
              refine r_ld (pc' := 53) hM_19 d_19_52 rfl rfl ?_
              refine r_ld (pc' := 54) hM_19 d_19_53 rfl rfl ?_
              refine r_cl (pc' := 57) (c := (22, 0)) (a := [.inr (.inr (some 2003)), .inl 3]) (q := [.inl (m 1 ((am_s ((m 33 5) + 3)).toNat))]) hM_19 d_19_54 rfl (by decide +kernel) hM_22 rfl rfl rfl (Nat.le_of_ble_eq_true rfl) (Nat.le_of_ble_eq_true rfl) (Or.inr rfl) (ok_rnk (sa_3_3 (m := m)) hfx) (Nat.le_of_ble_eq_true rfl) ?_
              show rn fx 4 (0, 0) 19 57 [some (.inr (.inr (some 33))), some (.inl 3), some (.inr (.inr (some 2003))), some (.inl 3)] [.inl 116, .inl (m 1 ((am_s ((m 33 5) + 3)).toNat))] (st0 m) o
              exact hk
            refine ok_ic (pc' := 62) (pc2 := 60) hM_19 d_19_57 (by decide) rfl (fun hz10 => ?_) (fun hz10 => ?_)
            · have H := H.1 hz10
              refine ok_sg (pc' := 69) (ls' := [some (.inr (.inr (some 33))), some (.inl 3), some (.inr (.inr (some 2003))), some (.inl 4)]) (st' := [.inl 1]) (m' := m) (fun fx hfx o hk => ?_) ?_
              · refine r_sto (pc' := 65) (ls' := [some (.inr (.inr (some 33))), some (.inl 3), some (.inr (.inr (some 2003))), some (.inl 4)]) hM_19 d_19_62 rfl rfl ?_
                refine r_go (pc' := 33) hM_19 d_19_65 (by decide) ?_
                refine r_ld (pc' := 34) hM_19 d_19_33 rfl rfl ?_
                refine r_ld (pc' := 35) hM_19 d_19_34 rfl rfl ?_
                refine r_cl (pc' := 38) (c := (20, 0)) (a := [.inr (.inr (some 2003))]) (q := [.inl 4]) hM_19 d_19_35 rfl (by decide +kernel) hM_20 rfl rfl rfl (Nat.le_of_ble_eq_true rfl) (Nat.le_of_ble_eq_true rfl) (Or.inr rfl) (ok_rnk (sn_3 (m := m)) hfx) (Nat.le_of_ble_eq_true rfl) ?_
                show rn fx 4 (0, 0) 19 38 [some (.inr (.inr (some 33))), some (.inl 3), some (.inr (.inr (some 2003))), some (.inl 4)] [.inl 4, .inl 4] (st0 m) o
                refine r_ic (pc' := 68) (pc2 := 41) hM_19 d_19_38 (by decide) rfl (fun _ => ?_) (fun hc => absurd (show am_s 4 ≤ am_s 4 by decide) hc)
                refine r_k (pc' := 69) (v := .inl 1) hM_19 d_19_68 rfl rfl ?_
                exact hk
              exact ok_rt (fun fx _ => rt_z hM_19 d_19_69 rfl (by decide)) H
            · have H := H.2 hz10
              refine ok_sg (pc' := 61) (ls' := [some (.inr (.inr (some 33))), some (.inl 3), some (.inr (.inr (some 2003))), some (.inl 3)]) (st' := [.inl 0]) (m' := m) (fun fx hfx o hk => ?_) ?_
              · refine r_k (pc' := 61) (v := .inl 0) hM_19 d_19_60 rfl rfl ?_
                exact hk
              exact ok_rt (fun fx _ => rt_z hM_19 d_19_61 rfl (by decide)) H
          · have H := H.2 hz8
            refine ok_sg (pc' := 61) (ls' := [some (.inr (.inr (some 33))), some (.inl 3), some (.inr (.inr (some 2003))), some (.inl 2)]) (st' := [.inl 0]) (m' := m) (fun fx hfx o hk => ?_) ?_
            · refine r_k (pc' := 61) (v := .inl 0) hM_19 d_19_60 rfl rfl ?_
              exact hk
            exact ok_rt (fun fx _ => rt_z hM_19 d_19_61 rfl (by decide)) H
        · have H := H.2 hz6
          refine ok_sg (pc' := 61) (ls' := [some (.inr (.inr (some 33))), some (.inl 3), some (.inr (.inr (some 2003))), some (.inl 1)]) (st' := [.inl 0]) (m' := m) (fun fx hfx o hk => ?_) ?_
          · refine r_k (pc' := 61) (v := .inl 0) hM_19 d_19_60 rfl rfl ?_
            exact hk
          exact ok_rt (fun fx _ => rt_z hM_19 d_19_61 rfl (by decide)) H
      · have H := H.2 hz4
        refine ok_sg (pc' := 61) (ls' := [some (.inr (.inr (some 33))), some (.inl 3), some (.inr (.inr (some 2003))), some (.inl 0)]) (st' := [.inl 0]) (m' := m) (fun fx hfx o hk => ?_) ?_
        · refine r_k (pc' := 61) (v := .inl 0) hM_19 d_19_60 rfl rfl ?_
          exact hk
        exact ok_rt (fun fx _ => rt_z hM_19 d_19_61 rfl (by decide)) H
    · have H := H.2 hz2
      refine ok_sg (pc' := 30) (ls' := [some (.inr (.inr (some 33))), some (.inl 3), some (.inr (.inr (some 2003))), none]) (st' := [.inl 0]) (m' := m) (fun fx hfx o hk => ?_) ?_
      · refine r_k (pc' := 30) (v := .inl 0) hM_19 d_19_29 rfl rfl ?_
        exact hk
      exact ok_rt (fun fx _ => rt_z hM_19 d_19_30 rfl (by decide)) H
theorem zw_3 {m : am_M} (hq : RV m) : ok 4 19 0 (am_ent 4 [.inr (.inr (some 33)), .inl 3]) [] m (fun rr m' => rr = [.inl (if m 33 4 = 1 ∧ cwn m = 3 then 1 else 0)] ∧ m' = m) := by
  obtain ⟨⟨⟨w1, w3, w4⟩, hT⟩, ⟨w5, w6⟩, ⟨t0, t4⟩, -, -⟩ := hq
  obtain ⟨p, hp⟩ : ∃ p : Nat, m 33 5 = (p : Int) := ⟨(m 33 5).toNat, by omega⟩
  obtain ⟨b, hb⟩ : ∃ b : Nat, m 33 3 = (b : Int) := ⟨(m 33 3).toNat, by omega⟩
  have hcw : cwn m = wno (m 1) p b := by
    unfold cwn
    rw [hp, hb, Int.toNat_natCast, Int.toNat_natCast]
  have hi : cwn m = 3 ↔ spl (m 1) p b (wrd 3) = true := by
    rw [hcw]
    exact wno_iff (j := 3) (by decide)
  refine uw_3 ?_
  rw [hp] at w5 w6
  rw [hb] at w1 w3 w6
  rw [hp, hb, am_s_id (z := m 33 4) (by omega) (by omega)]
  refine ⟨fun qt => ⟨by rw [if_neg (fun zz => qt zz.1)], (by first | rfl | trivial)⟩, fun qt => ?_⟩
  rw [am_s_id (z := (b : Int) - (p : Int)) (by omega) (by omega), show am_s ((p : Int) + 0) = ((p + 0 : Nat) : Int) from am_s_id (by omega) (by omega), show am_s ((p : Int) + 1) = ((p + 1 : Nat) : Int) from am_s_id (by omega) (by omega), show am_s ((p : Int) + 2) = ((p + 2 : Nat) : Int) from am_s_id (by omega) (by omega), show am_s ((p : Int) + 3) = ((p + 3 : Nat) : Int) from am_s_id (by omega) (by omega)]
  simp only [Int.toNat_natCast]
  refine ⟨fun qn => ?_, fun qn => ⟨by rw [if_neg (fun zz => qn (by have h9 : b = p + 4 := (spl_t.mp (hi.mp zz.2)).1; omega))], (by first | rfl | trivial)⟩⟩
  have b0 : am_s (m 1 (p + 0)) = m 1 (p + 0) := am_s_id (by have := hT (p + 0) (by omega); omega) (by have := hT (p + 0) (by omega); omega)
  have b1 : am_s (m 1 (p + 1)) = m 1 (p + 1) := am_s_id (by have := hT (p + 1) (by omega); omega) (by have := hT (p + 1) (by omega); omega)
  have b2 : am_s (m 1 (p + 2)) = m 1 (p + 2) := am_s_id (by have := hT (p + 2) (by omega); omega) (by have := hT (p + 2) (by omega); omega)
  have b3 : am_s (m 1 (p + 3)) = m 1 (p + 3) := am_s_id (by have := hT (p + 3) (by omega); omega) (by have := hT (p + 3) (by omega); omega)
  rw [b0, b1, b2, b3]
  exact ⟨⟨by omega, by omega⟩, fun q0 => ⟨⟨by omega, by omega⟩, fun q1 => ⟨⟨by omega, by omega⟩, fun q2 => ⟨⟨by omega, by omega⟩, fun q3 => ⟨by rw [if_pos ⟨qt, hi.mpr (spl_t.mpr ⟨by show _ = _ + 4; omega, fun ix hix => by
    have hix : ix < 4 := hix
    have : ix = 0 ∨ ix = 1 ∨ ix = 2 ∨ ix = 3 := by omega
    rcases this with rfl | rfl | rfl | rfl
    · exact q0
    · exact q1
    · exact q2
    · exact q3⟩)⟩], (by first | rfl | trivial)⟩, fun q3 => ⟨by rw [if_neg (fun zz => q3 ((spl_t.mp (hi.mp zz.2)).2 3 (by decide)))], (by first | rfl | trivial)⟩⟩, fun q2 => ⟨by rw [if_neg (fun zz => q2 ((spl_t.mp (hi.mp zz.2)).2 2 (by decide)))], (by first | rfl | trivial)⟩⟩, fun q1 => ⟨by rw [if_neg (fun zz => q1 ((spl_t.mp (hi.mp zz.2)).2 1 (by decide)))], (by first | rfl | trivial)⟩⟩, fun q0 => ⟨by rw [if_neg (fun zz => q0 ((spl_t.mp (hi.mp zz.2)).2 0 (by decide)))], (by first | rfl | trivial)⟩⟩
theorem uw_4 {Q : List am_V → am_M → Prop} {m : am_M}   (H : ((¬ am_s (m 33 4) = 1) → Q [.inl 0] m) ∧ ((am_s (m 33 4) = 1) → ((am_s ((m 33 3) - (m 33 5)) = 4) → (0 ≤ am_s ((m 33 5) + 0) ∧ am_s ((m 33 5) + 0) < (900 : Nat)) ∧ (((am_s (m 1 ((am_s ((m 33 5) + 0)).toNat)) = 99) → (0 ≤ am_s ((m 33 5) + 1) ∧ am_s ((m 33 5) + 1) < (900 : Nat)) ∧ (((am_s (m 1 ((am_s ((m 33 5) + 1)).toNat)) = 111) → (0 ≤ am_s ((m 33 5) + 2) ∧ am_s ((m 33 5) + 2) < (900 : Nat)) ∧ (((am_s (m 1 ((am_s ((m 33 5) + 2)).toNat)) = 108) → (0 ≤ am_s ((m 33 5) + 3) ∧ am_s ((m 33 5) + 3) < (900 : Nat)) ∧ (((am_s (m 1 ((am_s ((m 33 5) + 3)).toNat)) = 100) → Q [.inl 1] m) ∧ ((¬ (am_s (m 1 ((am_s ((m 33 5) + 3)).toNat)) = 100)) → Q [.inl 0] m))) ∧ ((¬ (am_s (m 1 ((am_s ((m 33 5) + 2)).toNat)) = 108)) → Q [.inl 0] m))) ∧ ((¬ (am_s (m 1 ((am_s ((m 33 5) + 1)).toNat)) = 111)) → Q [.inl 0] m))) ∧ ((¬ (am_s (m 1 ((am_s ((m 33 5) + 0)).toNat)) = 99)) → Q [.inl 0] m))) ∧ ((¬ (am_s ((m 33 3) - (m 33 5)) = 4)) → Q [.inl 0] m))) : ok 4 19 0 [some (.inr (.inr (some 33))), some (.inl 4), none, none] [] m Q := by
  refine ok_sg (pc' := 10) (ls' := [some (.inr (.inr (some 33))), some (.inl 4), some (.inr (.inr (some 2004))), none]) (st' := [.inl 1, .inl (m 33 4)]) (m' := m) (fun fx hfx o hk => ?_) ?_
  · refine r_ld (pc' := 1) hM_19 d_19_0 rfl rfl ?_
    refine r_cl (pc' := 4) (c := (18, 2)) (a := [.inl 4]) (q := []) hM_19 d_19_1 rfl (by decide +kernel) hM_18 rfl rfl rfl (Nat.le_of_ble_eq_true rfl) (Nat.le_of_ble_eq_true rfl) (Or.inl rfl) (ok_rnk (sp_4 (m := m)) hfx) (Nat.le_of_ble_eq_true rfl) ?_
    show rn fx 4 (0, 0) 19 4 [some (.inr (.inr (some 33))), some (.inl 4), none, none] [.inr (.inr (some 2004))] (st0 m) o
    refine r_sto (pc' := 5) (ls' := [some (.inr (.inr (some 33))), some (.inl 4), some (.inr (.inr (some 2004))), none]) hM_19 d_19_4 rfl rfl ?_
    refine r_ld (pc' := 6) hM_19 d_19_5 rfl rfl ?_
    refine r_gI (pc' := 9) (k0 := 4) hM_19 d_19_6 rfl (by decide +kernel) ?_
    refine r_k (pc' := 10) (v := .inl 1) hM_19 d_19_9 rfl rfl ?_
    exact hk
  refine ok_ic (pc' := 29) (pc2 := 13) hM_19 d_19_10 (by decide) rfl (fun hz1 => ?_) (fun hz1 => ?_)
  · have H := H.1 hz1
    refine ok_sg (pc' := 30) (ls' := [some (.inr (.inr (some 33))), some (.inl 4), some (.inr (.inr (some 2004))), none]) (st' := [.inl 0]) (m' := m) (fun fx hfx o hk => ?_) ?_
    · refine r_k (pc' := 30) (v := .inl 0) hM_19 d_19_29 rfl rfl ?_
      exact hk
    exact ok_rt (fun fx _ => rt_z hM_19 d_19_30 rfl (by decide)) H
  · have H := H.2 (Decidable.not_not.mp hz1)
    refine ok_sg (pc' := 26) (ls' := [some (.inr (.inr (some 33))), some (.inl 4), some (.inr (.inr (some 2004))), none]) (st' := [.inl 4, .inl ((m 33 3) - (m 33 5))]) (m' := m) (fun fx hfx o hk => ?_) ?_
    · refine r_ld (pc' := 14) hM_19 d_19_13 rfl rfl ?_
      refine r_gI (pc' := 17) (k0 := 3) hM_19 d_19_14 rfl (by decide +kernel) ?_
      refine r_ld (pc' := 18) hM_19 d_19_17 rfl rfl ?_
      refine r_gI (pc' := 21) (k0 := 5) hM_19 d_19_18 rfl (by decide +kernel) ?_
      refine r_b (pc' := 22) (z := ((m 33 3) - (m 33 5))) hM_19 d_19_21 rfl rfl ?_
      refine r_ld (pc' := 23) hM_19 d_19_22 rfl rfl ?_
      refine r_cl (pc' := 26) (c := (20, 0)) (a := [.inr (.inr (some 2004))]) (q := [.inl ((m 33 3) - (m 33 5))]) hM_19 d_19_23 rfl (by decide +kernel) hM_20 rfl rfl rfl (Nat.le_of_ble_eq_true rfl) (Nat.le_of_ble_eq_true rfl) (Or.inr rfl) (ok_rnk (sn_4 (m := m)) hfx) (Nat.le_of_ble_eq_true rfl) ?_
      show rn fx 4 (0, 0) 19 26 [some (.inr (.inr (some 33))), some (.inl 4), some (.inr (.inr (some 2004))), none] [.inl 4, .inl ((m 33 3) - (m 33 5))] (st0 m) o
      exact hk
    refine ok_ic (pc' := 31) (pc2 := 29) hM_19 d_19_26 (by decide) rfl (fun hz2 => ?_) (fun hz2 => ?_)
    · have H := H.1 hz2
      obtain ⟨hz3, H⟩ := H
      refine ok_sg (pc' := 57) (ls' := [some (.inr (.inr (some 33))), some (.inl 4), some (.inr (.inr (some 2004))), some (.inl 0)]) (st' := [.inl 99, .inl (m 1 ((am_s ((m 33 5) + 0)).toNat))]) (m' := m) (fun fx hfx o hk => ?_) ?_
      · refine r_k (pc' := 32) (v := .inl 0) hM_19 d_19_31 rfl rfl ?_
        refine r_sto (pc' := 33) (ls' := [some (.inr (.inr (some 33))), some (.inl 4), some (.inr (.inr (some 2004))), some (.inl 0)]) hM_19 d_19_32 rfl rfl ?_
        refine r_ld (pc' := 34) hM_19 d_19_33 rfl rfl ?_
        refine r_ld (pc' := 35) hM_19 d_19_34 rfl rfl ?_
        refine r_cl (pc' := 38) (c := (20, 0)) (a := [.inr (.inr (some 2004))]) (q := [.inl 0]) hM_19 d_19_35 rfl (by decide +kernel) hM_20 rfl rfl rfl (Nat.le_of_ble_eq_true rfl) (Nat.le_of_ble_eq_true rfl) (Or.inr rfl) (ok_rnk (sn_4 (m := m)) hfx) (Nat.le_of_ble_eq_true rfl) ?_
        show rn fx 4 (0, 0) 19 38 [some (.inr (.inr (some 33))), some (.inl 4), some (.inr (.inr (some 2004))), some (.inl 0)] [.inl 4, .inl 0] (st0 m) o
        refine r_ic (pc' := 68) (pc2 := 41) hM_19 d_19_38 (by decide) rfl (fun hc => absurd hc (show ¬ (am_s 4 ≤ am_s 0) by decide)) (fun _ => ?_)
        refine r_ld (pc' := 42) hM_19 d_19_41 rfl rfl ?_
        refine r_gR (pc' := 45) (v := 1) hM_19 d_19_42 rfl (by decide +kernel) ?_
        refine r_ld (pc' := 46) hM_19 d_19_45 rfl rfl ?_
        refine r_gI (pc' := 49) (k0 := 5) hM_19 d_19_46 rfl (by decide +kernel) ?_
        refine r_ld (pc' := 50) hM_19 d_19_49 rfl rfl ?_
        refine r_b (pc' := 51) (z := ((m 33 5) + 0)) hM_19 d_19_50 rfl rfl ?_
        refine r_ba (pc' := 52) (n := 900) hM_19 d_19_51 rfl rfl (by decide) hz3 ?_
        refine r_ld (pc' := 53) hM_19 d_19_52 rfl rfl ?_
        refine r_ld (pc' := 54) hM_19 d_19_53 rfl rfl ?_
        refine r_cl (pc' := 57) (c := (22, 0)) (a := [.inr (.inr (some 2004)), .inl 0]) (q := [.inl (m 1 ((am_s ((m 33 5) + 0)).toNat))]) hM_19 d_19_54 rfl (by decide +kernel) hM_22 rfl rfl rfl (Nat.le_of_ble_eq_true rfl) (Nat.le_of_ble_eq_true rfl) (Or.inr rfl) (ok_rnk (sa_4_0 (m := m)) hfx) (Nat.le_of_ble_eq_true rfl) ?_
        show rn fx 4 (0, 0) 19 57 [some (.inr (.inr (some 33))), some (.inl 4), some (.inr (.inr (some 2004))), some (.inl 0)] [.inl 99, .inl (m 1 ((am_s ((m 33 5) + 0)).toNat))] (st0 m) o
        exact hk
      refine ok_ic (pc' := 62) (pc2 := 60) hM_19 d_19_57 (by decide) rfl (fun hz4 => ?_) (fun hz4 => ?_)
      · have H := H.1 hz4
        obtain ⟨hz5, H⟩ := H
        refine ok_sg (pc' := 57) (ls' := [some (.inr (.inr (some 33))), some (.inl 4), some (.inr (.inr (some 2004))), some (.inl 1)]) (st' := [.inl 111, .inl (m 1 ((am_s ((m 33 5) + 1)).toNat))]) (m' := m) (fun fx hfx o hk => ?_) ?_
        · refine r_sto (pc' := 65) (ls' := [some (.inr (.inr (some 33))), some (.inl 4), some (.inr (.inr (some 2004))), some (.inl 1)]) hM_19 d_19_62 rfl rfl ?_
          refine r_go (pc' := 33) hM_19 d_19_65 (by decide) ?_
          refine r_ld (pc' := 34) hM_19 d_19_33 rfl rfl ?_
          refine r_ld (pc' := 35) hM_19 d_19_34 rfl rfl ?_
          refine r_cl (pc' := 38) (c := (20, 0)) (a := [.inr (.inr (some 2004))]) (q := [.inl 1]) hM_19 d_19_35 rfl (by decide +kernel) hM_20 rfl rfl rfl (Nat.le_of_ble_eq_true rfl) (Nat.le_of_ble_eq_true rfl) (Or.inr rfl) (ok_rnk (sn_4 (m := m)) hfx) (Nat.le_of_ble_eq_true rfl) ?_
          show rn fx 4 (0, 0) 19 38 [some (.inr (.inr (some 33))), some (.inl 4), some (.inr (.inr (some 2004))), some (.inl 1)] [.inl 4, .inl 1] (st0 m) o
          refine r_ic (pc' := 68) (pc2 := 41) hM_19 d_19_38 (by decide) rfl (fun hc => absurd hc (show ¬ (am_s 4 ≤ am_s 1) by decide)) (fun _ => ?_)
          refine r_ld (pc' := 42) hM_19 d_19_41 rfl rfl ?_
          refine r_gR (pc' := 45) (v := 1) hM_19 d_19_42 rfl (by decide +kernel) ?_
          refine r_ld (pc' := 46) hM_19 d_19_45 rfl rfl ?_
          refine r_gI (pc' := 49) (k0 := 5) hM_19 d_19_46 rfl (by decide +kernel) ?_
          refine r_ld (pc' := 50) hM_19 d_19_49 rfl rfl ?_
          refine r_b (pc' := 51) (z := ((m 33 5) + 1)) hM_19 d_19_50 rfl rfl ?_
          refine r_ba (pc' := 52) (n := 900) hM_19 d_19_51 rfl rfl (by decide) hz5 ?_
          refine r_ld (pc' := 53) hM_19 d_19_52 rfl rfl ?_
          refine r_ld (pc' := 54) hM_19 d_19_53 rfl rfl ?_
          refine r_cl (pc' := 57) (c := (22, 0)) (a := [.inr (.inr (some 2004)), .inl 1]) (q := [.inl (m 1 ((am_s ((m 33 5) + 1)).toNat))]) hM_19 d_19_54 rfl (by decide +kernel) hM_22 rfl rfl rfl (Nat.le_of_ble_eq_true rfl) (Nat.le_of_ble_eq_true rfl) (Or.inr rfl) (ok_rnk (sa_4_1 (m := m)) hfx) (Nat.le_of_ble_eq_true rfl) ?_
          show rn fx 4 (0, 0) 19 57 [some (.inr (.inr (some 33))), some (.inl 4), some (.inr (.inr (some 2004))), some (.inl 1)] [.inl 111, .inl (m 1 ((am_s ((m 33 5) + 1)).toNat))] (st0 m) o
          exact hk
        refine ok_ic (pc' := 62) (pc2 := 60) hM_19 d_19_57 (by decide) rfl (fun hz6 => ?_) (fun hz6 => ?_)
        · have H := H.1 hz6
          obtain ⟨hz7, H⟩ := H
          refine ok_sg (pc' := 57) (ls' := [some (.inr (.inr (some 33))), some (.inl 4), some (.inr (.inr (some 2004))), some (.inl 2)]) (st' := [.inl 108, .inl (m 1 ((am_s ((m 33 5) + 2)).toNat))]) (m' := m) (fun fx hfx o hk => ?_) ?_
          · refine r_sto (pc' := 65) (ls' := [some (.inr (.inr (some 33))), some (.inl 4), some (.inr (.inr (some 2004))), some (.inl 2)]) hM_19 d_19_62 rfl rfl ?_
            refine r_go (pc' := 33) hM_19 d_19_65 (by decide) ?_
            refine r_ld (pc' := 34) hM_19 d_19_33 rfl rfl ?_
            refine r_ld (pc' := 35) hM_19 d_19_34 rfl rfl ?_
            refine r_cl (pc' := 38) (c := (20, 0)) (a := [.inr (.inr (some 2004))]) (q := [.inl 2]) hM_19 d_19_35 rfl (by decide +kernel) hM_20 rfl rfl rfl (Nat.le_of_ble_eq_true rfl) (Nat.le_of_ble_eq_true rfl) (Or.inr rfl) (ok_rnk (sn_4 (m := m)) hfx) (Nat.le_of_ble_eq_true rfl) ?_
            show rn fx 4 (0, 0) 19 38 [some (.inr (.inr (some 33))), some (.inl 4), some (.inr (.inr (some 2004))), some (.inl 2)] [.inl 4, .inl 2] (st0 m) o
            refine r_ic (pc' := 68) (pc2 := 41) hM_19 d_19_38 (by decide) rfl (fun hc => absurd hc (show ¬ (am_s 4 ≤ am_s 2) by decide)) (fun _ => ?_)
            refine r_ld (pc' := 42) hM_19 d_19_41 rfl rfl ?_
            refine r_gR (pc' := 45) (v := 1) hM_19 d_19_42 rfl (by decide +kernel) ?_
            refine r_ld (pc' := 46) hM_19 d_19_45 rfl rfl ?_
            refine r_gI (pc' := 49) (k0 := 5) hM_19 d_19_46 rfl (by decide +kernel) ?_
            refine r_ld (pc' := 50) hM_19 d_19_49 rfl rfl ?_
            refine r_b (pc' := 51) (z := ((m 33 5) + 2)) hM_19 d_19_50 rfl rfl ?_
            refine r_ba (pc' := 52) (n := 900) hM_19 d_19_51 rfl rfl (by decide) hz7 ?_
            refine r_ld (pc' := 53) hM_19 d_19_52 rfl rfl ?_
            refine r_ld (pc' := 54) hM_19 d_19_53 rfl rfl ?_
            refine r_cl (pc' := 57) (c := (22, 0)) (a := [.inr (.inr (some 2004)), .inl 2]) (q := [.inl (m 1 ((am_s ((m 33 5) + 2)).toNat))]) hM_19 d_19_54 rfl (by decide +kernel) hM_22 rfl rfl rfl (Nat.le_of_ble_eq_true rfl) (Nat.le_of_ble_eq_true rfl) (Or.inr rfl) (ok_rnk (sa_4_2 (m := m)) hfx) (Nat.le_of_ble_eq_true rfl) ?_
            show rn fx 4 (0, 0) 19 57 [some (.inr (.inr (some 33))), some (.inl 4), some (.inr (.inr (some 2004))), some (.inl 2)] [.inl 108, .inl (m 1 ((am_s ((m 33 5) + 2)).toNat))] (st0 m) o
            exact hk
          refine ok_ic (pc' := 62) (pc2 := 60) hM_19 d_19_57 (by decide) rfl (fun hz8 => ?_) (fun hz8 => ?_)
          · have H := H.1 hz8
            obtain ⟨hz9, H⟩ := H
            refine ok_sg (pc' := 57) (ls' := [some (.inr (.inr (some 33))), some (.inl 4), some (.inr (.inr (some 2004))), some (.inl 3)]) (st' := [.inl 100, .inl (m 1 ((am_s ((m 33 5) + 3)).toNat))]) (m' := m) (fun fx hfx o hk => ?_) ?_
            · refine r_sto (pc' := 65) (ls' := [some (.inr (.inr (some 33))), some (.inl 4), some (.inr (.inr (some 2004))), some (.inl 3)]) hM_19 d_19_62 rfl rfl ?_
              refine r_go (pc' := 33) hM_19 d_19_65 (by decide) ?_
              refine r_ld (pc' := 34) hM_19 d_19_33 rfl rfl ?_
              refine r_ld (pc' := 35) hM_19 d_19_34 rfl rfl ?_
              refine r_cl (pc' := 38) (c := (20, 0)) (a := [.inr (.inr (some 2004))]) (q := [.inl 3]) hM_19 d_19_35 rfl (by decide +kernel) hM_20 rfl rfl rfl (Nat.le_of_ble_eq_true rfl) (Nat.le_of_ble_eq_true rfl) (Or.inr rfl) (ok_rnk (sn_4 (m := m)) hfx) (Nat.le_of_ble_eq_true rfl) ?_
              show rn fx 4 (0, 0) 19 38 [some (.inr (.inr (some 33))), some (.inl 4), some (.inr (.inr (some 2004))), some (.inl 3)] [.inl 4, .inl 3] (st0 m) o
              refine r_ic (pc' := 68) (pc2 := 41) hM_19 d_19_38 (by decide) rfl (fun hc => absurd hc (show ¬ (am_s 4 ≤ am_s 3) by decide)) (fun _ => ?_)
              refine r_ld (pc' := 42) hM_19 d_19_41 rfl rfl ?_
              refine r_gR (pc' := 45) (v := 1) hM_19 d_19_42 rfl (by decide +kernel) ?_
              refine r_ld (pc' := 46) hM_19 d_19_45 rfl rfl ?_
              refine r_gI (pc' := 49) (k0 := 5) hM_19 d_19_46 rfl (by decide +kernel) ?_
              refine r_ld (pc' := 50) hM_19 d_19_49 rfl rfl ?_
              refine r_b (pc' := 51) (z := ((m 33 5) + 3)) hM_19 d_19_50 rfl rfl ?_
              refine r_ba (pc' := 52) (n := 900) hM_19 d_19_51 rfl rfl (by decide) hz9 ?_
              refine r_ld (pc' := 53) hM_19 d_19_52 rfl rfl ?_
              refine r_ld (pc' := 54) hM_19 d_19_53 rfl rfl ?_
              refine r_cl (pc' := 57) (c := (22, 0)) (a := [.inr (.inr (some 2004)), .inl 3]) (q := [.inl (m 1 ((am_s ((m 33 5) + 3)).toNat))]) hM_19 d_19_54 rfl (by decide +kernel) hM_22 rfl rfl rfl (Nat.le_of_ble_eq_true rfl) (Nat.le_of_ble_eq_true rfl) (Or.inr rfl) (ok_rnk (sa_4_3 (m := m)) hfx) (Nat.le_of_ble_eq_true rfl) ?_
              show rn fx 4 (0, 0) 19 57 [some (.inr (.inr (some 33))), some (.inl 4), some (.inr (.inr (some 2004))), some (.inl 3)] [.inl 100, .inl (m 1 ((am_s ((m 33 5) + 3)).toNat))] (st0 m) o
              exact hk
            refine ok_ic (pc' := 62) (pc2 := 60) hM_19 d_19_57 (by decide) rfl (fun hz10 => ?_) (fun hz10 => ?_)
            · have H := H.1 hz10
              refine ok_sg (pc' := 69) (ls' := [some (.inr (.inr (some 33))), some (.inl 4), some (.inr (.inr (some 2004))), some (.inl 4)]) (st' := [.inl 1]) (m' := m) (fun fx hfx o hk => ?_) ?_
              · refine r_sto (pc' := 65) (ls' := [some (.inr (.inr (some 33))), some (.inl 4), some (.inr (.inr (some 2004))), some (.inl 4)]) hM_19 d_19_62 rfl rfl ?_
                refine r_go (pc' := 33) hM_19 d_19_65 (by decide) ?_
                refine r_ld (pc' := 34) hM_19 d_19_33 rfl rfl ?_
                refine r_ld (pc' := 35) hM_19 d_19_34 rfl rfl ?_
                refine r_cl (pc' := 38) (c := (20, 0)) (a := [.inr (.inr (some 2004))]) (q := [.inl 4]) hM_19 d_19_35 rfl (by decide +kernel) hM_20 rfl rfl rfl (Nat.le_of_ble_eq_true rfl) (Nat.le_of_ble_eq_true rfl) (Or.inr rfl) (ok_rnk (sn_4 (m := m)) hfx) (Nat.le_of_ble_eq_true rfl) ?_
                show rn fx 4 (0, 0) 19 38 [some (.inr (.inr (some 33))), some (.inl 4), some (.inr (.inr (some 2004))), some (.inl 4)] [.inl 4, .inl 4] (st0 m) o
                refine r_ic (pc' := 68) (pc2 := 41) hM_19 d_19_38 (by decide) rfl (fun _ => ?_) (fun hc => absurd (show am_s 4 ≤ am_s 4 by decide) hc)
                refine r_k (pc' := 69) (v := .inl 1) hM_19 d_19_68 rfl rfl ?_
                exact hk
              exact ok_rt (fun fx _ => rt_z hM_19 d_19_69 rfl (by decide)) H
            · have H := H.2 hz10
              refine ok_sg (pc' := 61) (ls' := [some (.inr (.inr (some 33))), some (.inl 4), some (.inr (.inr (some 2004))), some (.inl 3)]) (st' := [.inl 0]) (m' := m) (fun fx hfx o hk => ?_) ?_
              · refine r_k (pc' := 61) (v := .inl 0) hM_19 d_19_60 rfl rfl ?_
                exact hk
              exact ok_rt (fun fx _ => rt_z hM_19 d_19_61 rfl (by decide)) H
          · have H := H.2 hz8
            refine ok_sg (pc' := 61) (ls' := [some (.inr (.inr (some 33))), some (.inl 4), some (.inr (.inr (some 2004))), some (.inl 2)]) (st' := [.inl 0]) (m' := m) (fun fx hfx o hk => ?_) ?_
            · refine r_k (pc' := 61) (v := .inl 0) hM_19 d_19_60 rfl rfl ?_
              exact hk
            exact ok_rt (fun fx _ => rt_z hM_19 d_19_61 rfl (by decide)) H
        · have H := H.2 hz6
          refine ok_sg (pc' := 61) (ls' := [some (.inr (.inr (some 33))), some (.inl 4), some (.inr (.inr (some 2004))), some (.inl 1)]) (st' := [.inl 0]) (m' := m) (fun fx hfx o hk => ?_) ?_
          · refine r_k (pc' := 61) (v := .inl 0) hM_19 d_19_60 rfl rfl ?_
            exact hk
          exact ok_rt (fun fx _ => rt_z hM_19 d_19_61 rfl (by decide)) H
      · have H := H.2 hz4
        refine ok_sg (pc' := 61) (ls' := [some (.inr (.inr (some 33))), some (.inl 4), some (.inr (.inr (some 2004))), some (.inl 0)]) (st' := [.inl 0]) (m' := m) (fun fx hfx o hk => ?_) ?_
        · refine r_k (pc' := 61) (v := .inl 0) hM_19 d_19_60 rfl rfl ?_
          exact hk
        exact ok_rt (fun fx _ => rt_z hM_19 d_19_61 rfl (by decide)) H
    · have H := H.2 hz2
      refine ok_sg (pc' := 30) (ls' := [some (.inr (.inr (some 33))), some (.inl 4), some (.inr (.inr (some 2004))), none]) (st' := [.inl 0]) (m' := m) (fun fx hfx o hk => ?_) ?_
      · refine r_k (pc' := 30) (v := .inl 0) hM_19 d_19_29 rfl rfl ?_
        exact hk
      exact ok_rt (fun fx _ => rt_z hM_19 d_19_30 rfl (by decide)) H
theorem zw_4 {m : am_M} (hq : RV m) : ok 4 19 0 (am_ent 4 [.inr (.inr (some 33)), .inl 4]) [] m (fun rr m' => rr = [.inl (if m 33 4 = 1 ∧ cwn m = 4 then 1 else 0)] ∧ m' = m) := by
  obtain ⟨⟨⟨w1, w3, w4⟩, hT⟩, ⟨w5, w6⟩, ⟨t0, t4⟩, -, -⟩ := hq
  obtain ⟨p, hp⟩ : ∃ p : Nat, m 33 5 = (p : Int) := ⟨(m 33 5).toNat, by omega⟩
  obtain ⟨b, hb⟩ : ∃ b : Nat, m 33 3 = (b : Int) := ⟨(m 33 3).toNat, by omega⟩
  have hcw : cwn m = wno (m 1) p b := by
    unfold cwn
    rw [hp, hb, Int.toNat_natCast, Int.toNat_natCast]
  have hi : cwn m = 4 ↔ spl (m 1) p b (wrd 4) = true := by
    rw [hcw]
    exact wno_iff (j := 4) (by decide)
  refine uw_4 ?_
  rw [hp] at w5 w6
  rw [hb] at w1 w3 w6
  rw [hp, hb, am_s_id (z := m 33 4) (by omega) (by omega)]
  refine ⟨fun qt => ⟨by rw [if_neg (fun zz => qt zz.1)], (by first | rfl | trivial)⟩, fun qt => ?_⟩
  rw [am_s_id (z := (b : Int) - (p : Int)) (by omega) (by omega), show am_s ((p : Int) + 0) = ((p + 0 : Nat) : Int) from am_s_id (by omega) (by omega), show am_s ((p : Int) + 1) = ((p + 1 : Nat) : Int) from am_s_id (by omega) (by omega), show am_s ((p : Int) + 2) = ((p + 2 : Nat) : Int) from am_s_id (by omega) (by omega), show am_s ((p : Int) + 3) = ((p + 3 : Nat) : Int) from am_s_id (by omega) (by omega)]
  simp only [Int.toNat_natCast]
  refine ⟨fun qn => ?_, fun qn => ⟨by rw [if_neg (fun zz => qn (by have h9 : b = p + 4 := (spl_t.mp (hi.mp zz.2)).1; omega))], (by first | rfl | trivial)⟩⟩
  have b0 : am_s (m 1 (p + 0)) = m 1 (p + 0) := am_s_id (by have := hT (p + 0) (by omega); omega) (by have := hT (p + 0) (by omega); omega)
  have b1 : am_s (m 1 (p + 1)) = m 1 (p + 1) := am_s_id (by have := hT (p + 1) (by omega); omega) (by have := hT (p + 1) (by omega); omega)
  have b2 : am_s (m 1 (p + 2)) = m 1 (p + 2) := am_s_id (by have := hT (p + 2) (by omega); omega) (by have := hT (p + 2) (by omega); omega)
  have b3 : am_s (m 1 (p + 3)) = m 1 (p + 3) := am_s_id (by have := hT (p + 3) (by omega); omega) (by have := hT (p + 3) (by omega); omega)
  rw [b0, b1, b2, b3]
  exact ⟨⟨by omega, by omega⟩, fun q0 => ⟨⟨by omega, by omega⟩, fun q1 => ⟨⟨by omega, by omega⟩, fun q2 => ⟨⟨by omega, by omega⟩, fun q3 => ⟨by rw [if_pos ⟨qt, hi.mpr (spl_t.mpr ⟨by show _ = _ + 4; omega, fun ix hix => by
    have hix : ix < 4 := hix
    have : ix = 0 ∨ ix = 1 ∨ ix = 2 ∨ ix = 3 := by omega
    rcases this with rfl | rfl | rfl | rfl
    · exact q0
    · exact q1
    · exact q2
    · exact q3⟩)⟩], (by first | rfl | trivial)⟩, fun q3 => ⟨by rw [if_neg (fun zz => q3 ((spl_t.mp (hi.mp zz.2)).2 3 (by decide)))], (by first | rfl | trivial)⟩⟩, fun q2 => ⟨by rw [if_neg (fun zz => q2 ((spl_t.mp (hi.mp zz.2)).2 2 (by decide)))], (by first | rfl | trivial)⟩⟩, fun q1 => ⟨by rw [if_neg (fun zz => q1 ((spl_t.mp (hi.mp zz.2)).2 1 (by decide)))], (by first | rfl | trivial)⟩⟩, fun q0 => ⟨by rw [if_neg (fun zz => q0 ((spl_t.mp (hi.mp zz.2)).2 0 (by decide)))], (by first | rfl | trivial)⟩⟩
theorem uw_5 {Q : List am_V → am_M → Prop} {m : am_M}   (H : ((¬ am_s (m 33 4) = 1) → Q [.inl 0] m) ∧ ((am_s (m 33 4) = 1) → ((am_s ((m 33 3) - (m 33 5)) = 6) → (0 ≤ am_s ((m 33 5) + 0) ∧ am_s ((m 33 5) + 0) < (900 : Nat)) ∧ (((am_s (m 1 ((am_s ((m 33 5) + 0)).toNat)) = 98) → (0 ≤ am_s ((m 33 5) + 1) ∧ am_s ((m 33 5) + 1) < (900 : Nat)) ∧ (((am_s (m 1 ((am_s ((m 33 5) + 1)).toNat)) = 97) → (0 ≤ am_s ((m 33 5) + 2) ∧ am_s ((m 33 5) + 2) < (900 : Nat)) ∧ (((am_s (m 1 ((am_s ((m 33 5) + 2)).toNat)) = 114) → (0 ≤ am_s ((m 33 5) + 3) ∧ am_s ((m 33 5) + 3) < (900 : Nat)) ∧ (((am_s (m 1 ((am_s ((m 33 5) + 3)).toNat)) = 114) → (0 ≤ am_s ((m 33 5) + 4) ∧ am_s ((m 33 5) + 4) < (900 : Nat)) ∧ (((am_s (m 1 ((am_s ((m 33 5) + 4)).toNat)) = 101) → (0 ≤ am_s ((m 33 5) + 5) ∧ am_s ((m 33 5) + 5) < (900 : Nat)) ∧ (((am_s (m 1 ((am_s ((m 33 5) + 5)).toNat)) = 108) → Q [.inl 1] m) ∧ ((¬ (am_s (m 1 ((am_s ((m 33 5) + 5)).toNat)) = 108)) → Q [.inl 0] m))) ∧ ((¬ (am_s (m 1 ((am_s ((m 33 5) + 4)).toNat)) = 101)) → Q [.inl 0] m))) ∧ ((¬ (am_s (m 1 ((am_s ((m 33 5) + 3)).toNat)) = 114)) → Q [.inl 0] m))) ∧ ((¬ (am_s (m 1 ((am_s ((m 33 5) + 2)).toNat)) = 114)) → Q [.inl 0] m))) ∧ ((¬ (am_s (m 1 ((am_s ((m 33 5) + 1)).toNat)) = 97)) → Q [.inl 0] m))) ∧ ((¬ (am_s (m 1 ((am_s ((m 33 5) + 0)).toNat)) = 98)) → Q [.inl 0] m))) ∧ ((¬ (am_s ((m 33 3) - (m 33 5)) = 6)) → Q [.inl 0] m))) : ok 4 19 0 [some (.inr (.inr (some 33))), some (.inl 5), none, none] [] m Q := by
  refine ok_sg (pc' := 10) (ls' := [some (.inr (.inr (some 33))), some (.inl 5), some (.inr (.inr (some 2005))), none]) (st' := [.inl 1, .inl (m 33 4)]) (m' := m) (fun fx hfx o hk => ?_) ?_
  · refine r_ld (pc' := 1) hM_19 d_19_0 rfl rfl ?_
    refine r_cl (pc' := 4) (c := (18, 2)) (a := [.inl 5]) (q := []) hM_19 d_19_1 rfl (by decide +kernel) hM_18 rfl rfl rfl (Nat.le_of_ble_eq_true rfl) (Nat.le_of_ble_eq_true rfl) (Or.inl rfl) (ok_rnk (sp_5 (m := m)) hfx) (Nat.le_of_ble_eq_true rfl) ?_
    show rn fx 4 (0, 0) 19 4 [some (.inr (.inr (some 33))), some (.inl 5), none, none] [.inr (.inr (some 2005))] (st0 m) o
    refine r_sto (pc' := 5) (ls' := [some (.inr (.inr (some 33))), some (.inl 5), some (.inr (.inr (some 2005))), none]) hM_19 d_19_4 rfl rfl ?_
    refine r_ld (pc' := 6) hM_19 d_19_5 rfl rfl ?_
    refine r_gI (pc' := 9) (k0 := 4) hM_19 d_19_6 rfl (by decide +kernel) ?_
    refine r_k (pc' := 10) (v := .inl 1) hM_19 d_19_9 rfl rfl ?_
    exact hk
  refine ok_ic (pc' := 29) (pc2 := 13) hM_19 d_19_10 (by decide) rfl (fun hz1 => ?_) (fun hz1 => ?_)
  · have H := H.1 hz1
    refine ok_sg (pc' := 30) (ls' := [some (.inr (.inr (some 33))), some (.inl 5), some (.inr (.inr (some 2005))), none]) (st' := [.inl 0]) (m' := m) (fun fx hfx o hk => ?_) ?_
    · refine r_k (pc' := 30) (v := .inl 0) hM_19 d_19_29 rfl rfl ?_
      exact hk
    exact ok_rt (fun fx _ => rt_z hM_19 d_19_30 rfl (by decide)) H
  · have H := H.2 (Decidable.not_not.mp hz1)
    refine ok_sg (pc' := 26) (ls' := [some (.inr (.inr (some 33))), some (.inl 5), some (.inr (.inr (some 2005))), none]) (st' := [.inl 6, .inl ((m 33 3) - (m 33 5))]) (m' := m) (fun fx hfx o hk => ?_) ?_
    · refine r_ld (pc' := 14) hM_19 d_19_13 rfl rfl ?_
      refine r_gI (pc' := 17) (k0 := 3) hM_19 d_19_14 rfl (by decide +kernel) ?_
      refine r_ld (pc' := 18) hM_19 d_19_17 rfl rfl ?_
      refine r_gI (pc' := 21) (k0 := 5) hM_19 d_19_18 rfl (by decide +kernel) ?_
      refine r_b (pc' := 22) (z := ((m 33 3) - (m 33 5))) hM_19 d_19_21 rfl rfl ?_
      refine r_ld (pc' := 23) hM_19 d_19_22 rfl rfl ?_
      refine r_cl (pc' := 26) (c := (20, 0)) (a := [.inr (.inr (some 2005))]) (q := [.inl ((m 33 3) - (m 33 5))]) hM_19 d_19_23 rfl (by decide +kernel) hM_20 rfl rfl rfl (Nat.le_of_ble_eq_true rfl) (Nat.le_of_ble_eq_true rfl) (Or.inr rfl) (ok_rnk (sn_5 (m := m)) hfx) (Nat.le_of_ble_eq_true rfl) ?_
      show rn fx 4 (0, 0) 19 26 [some (.inr (.inr (some 33))), some (.inl 5), some (.inr (.inr (some 2005))), none] [.inl 6, .inl ((m 33 3) - (m 33 5))] (st0 m) o
      exact hk
    refine ok_ic (pc' := 31) (pc2 := 29) hM_19 d_19_26 (by decide) rfl (fun hz2 => ?_) (fun hz2 => ?_)
    · have H := H.1 hz2
      obtain ⟨hz3, H⟩ := H
      refine ok_sg (pc' := 57) (ls' := [some (.inr (.inr (some 33))), some (.inl 5), some (.inr (.inr (some 2005))), some (.inl 0)]) (st' := [.inl 98, .inl (m 1 ((am_s ((m 33 5) + 0)).toNat))]) (m' := m) (fun fx hfx o hk => ?_) ?_
      · refine r_k (pc' := 32) (v := .inl 0) hM_19 d_19_31 rfl rfl ?_
        refine r_sto (pc' := 33) (ls' := [some (.inr (.inr (some 33))), some (.inl 5), some (.inr (.inr (some 2005))), some (.inl 0)]) hM_19 d_19_32 rfl rfl ?_
        refine r_ld (pc' := 34) hM_19 d_19_33 rfl rfl ?_
        refine r_ld (pc' := 35) hM_19 d_19_34 rfl rfl ?_
        refine r_cl (pc' := 38) (c := (20, 0)) (a := [.inr (.inr (some 2005))]) (q := [.inl 0]) hM_19 d_19_35 rfl (by decide +kernel) hM_20 rfl rfl rfl (Nat.le_of_ble_eq_true rfl) (Nat.le_of_ble_eq_true rfl) (Or.inr rfl) (ok_rnk (sn_5 (m := m)) hfx) (Nat.le_of_ble_eq_true rfl) ?_
        show rn fx 4 (0, 0) 19 38 [some (.inr (.inr (some 33))), some (.inl 5), some (.inr (.inr (some 2005))), some (.inl 0)] [.inl 6, .inl 0] (st0 m) o
        refine r_ic (pc' := 68) (pc2 := 41) hM_19 d_19_38 (by decide) rfl (fun hc => absurd hc (show ¬ (am_s 6 ≤ am_s 0) by decide)) (fun _ => ?_)
        refine r_ld (pc' := 42) hM_19 d_19_41 rfl rfl ?_
        refine r_gR (pc' := 45) (v := 1) hM_19 d_19_42 rfl (by decide +kernel) ?_
        refine r_ld (pc' := 46) hM_19 d_19_45 rfl rfl ?_
        refine r_gI (pc' := 49) (k0 := 5) hM_19 d_19_46 rfl (by decide +kernel) ?_
        refine r_ld (pc' := 50) hM_19 d_19_49 rfl rfl ?_
        refine r_b (pc' := 51) (z := ((m 33 5) + 0)) hM_19 d_19_50 rfl rfl ?_
        refine r_ba (pc' := 52) (n := 900) hM_19 d_19_51 rfl rfl (by decide) hz3 ?_
        refine r_ld (pc' := 53) hM_19 d_19_52 rfl rfl ?_
        refine r_ld (pc' := 54) hM_19 d_19_53 rfl rfl ?_
        refine r_cl (pc' := 57) (c := (22, 0)) (a := [.inr (.inr (some 2005)), .inl 0]) (q := [.inl (m 1 ((am_s ((m 33 5) + 0)).toNat))]) hM_19 d_19_54 rfl (by decide +kernel) hM_22 rfl rfl rfl (Nat.le_of_ble_eq_true rfl) (Nat.le_of_ble_eq_true rfl) (Or.inr rfl) (ok_rnk (sa_5_0 (m := m)) hfx) (Nat.le_of_ble_eq_true rfl) ?_
        show rn fx 4 (0, 0) 19 57 [some (.inr (.inr (some 33))), some (.inl 5), some (.inr (.inr (some 2005))), some (.inl 0)] [.inl 98, .inl (m 1 ((am_s ((m 33 5) + 0)).toNat))] (st0 m) o
        exact hk
      refine ok_ic (pc' := 62) (pc2 := 60) hM_19 d_19_57 (by decide) rfl (fun hz4 => ?_) (fun hz4 => ?_)
      · have H := H.1 hz4
        obtain ⟨hz5, H⟩ := H
        refine ok_sg (pc' := 57) (ls' := [some (.inr (.inr (some 33))), some (.inl 5), some (.inr (.inr (some 2005))), some (.inl 1)]) (st' := [.inl 97, .inl (m 1 ((am_s ((m 33 5) + 1)).toNat))]) (m' := m) (fun fx hfx o hk => ?_) ?_
        · refine r_sto (pc' := 65) (ls' := [some (.inr (.inr (some 33))), some (.inl 5), some (.inr (.inr (some 2005))), some (.inl 1)]) hM_19 d_19_62 rfl rfl ?_
          refine r_go (pc' := 33) hM_19 d_19_65 (by decide) ?_
          refine r_ld (pc' := 34) hM_19 d_19_33 rfl rfl ?_
          refine r_ld (pc' := 35) hM_19 d_19_34 rfl rfl ?_
          refine r_cl (pc' := 38) (c := (20, 0)) (a := [.inr (.inr (some 2005))]) (q := [.inl 1]) hM_19 d_19_35 rfl (by decide +kernel) hM_20 rfl rfl rfl (Nat.le_of_ble_eq_true rfl) (Nat.le_of_ble_eq_true rfl) (Or.inr rfl) (ok_rnk (sn_5 (m := m)) hfx) (Nat.le_of_ble_eq_true rfl) ?_
          show rn fx 4 (0, 0) 19 38 [some (.inr (.inr (some 33))), some (.inl 5), some (.inr (.inr (some 2005))), some (.inl 1)] [.inl 6, .inl 1] (st0 m) o
          refine r_ic (pc' := 68) (pc2 := 41) hM_19 d_19_38 (by decide) rfl (fun hc => absurd hc (show ¬ (am_s 6 ≤ am_s 1) by decide)) (fun _ => ?_)
          refine r_ld (pc' := 42) hM_19 d_19_41 rfl rfl ?_
          refine r_gR (pc' := 45) (v := 1) hM_19 d_19_42 rfl (by decide +kernel) ?_
          refine r_ld (pc' := 46) hM_19 d_19_45 rfl rfl ?_
          refine r_gI (pc' := 49) (k0 := 5) hM_19 d_19_46 rfl (by decide +kernel) ?_
          refine r_ld (pc' := 50) hM_19 d_19_49 rfl rfl ?_
          refine r_b (pc' := 51) (z := ((m 33 5) + 1)) hM_19 d_19_50 rfl rfl ?_
          refine r_ba (pc' := 52) (n := 900) hM_19 d_19_51 rfl rfl (by decide) hz5 ?_
          refine r_ld (pc' := 53) hM_19 d_19_52 rfl rfl ?_
          refine r_ld (pc' := 54) hM_19 d_19_53 rfl rfl ?_
          refine r_cl (pc' := 57) (c := (22, 0)) (a := [.inr (.inr (some 2005)), .inl 1]) (q := [.inl (m 1 ((am_s ((m 33 5) + 1)).toNat))]) hM_19 d_19_54 rfl (by decide +kernel) hM_22 rfl rfl rfl (Nat.le_of_ble_eq_true rfl) (Nat.le_of_ble_eq_true rfl) (Or.inr rfl) (ok_rnk (sa_5_1 (m := m)) hfx) (Nat.le_of_ble_eq_true rfl) ?_
          show rn fx 4 (0, 0) 19 57 [some (.inr (.inr (some 33))), some (.inl 5), some (.inr (.inr (some 2005))), some (.inl 1)] [.inl 97, .inl (m 1 ((am_s ((m 33 5) + 1)).toNat))] (st0 m) o
          exact hk
        refine ok_ic (pc' := 62) (pc2 := 60) hM_19 d_19_57 (by decide) rfl (fun hz6 => ?_) (fun hz6 => ?_)
        · have H := H.1 hz6
          obtain ⟨hz7, H⟩ := H
          refine ok_sg (pc' := 57) (ls' := [some (.inr (.inr (some 33))), some (.inl 5), some (.inr (.inr (some 2005))), some (.inl 2)]) (st' := [.inl 114, .inl (m 1 ((am_s ((m 33 5) + 2)).toNat))]) (m' := m) (fun fx hfx o hk => ?_) ?_
          · refine r_sto (pc' := 65) (ls' := [some (.inr (.inr (some 33))), some (.inl 5), some (.inr (.inr (some 2005))), some (.inl 2)]) hM_19 d_19_62 rfl rfl ?_
            refine r_go (pc' := 33) hM_19 d_19_65 (by decide) ?_
            refine r_ld (pc' := 34) hM_19 d_19_33 rfl rfl ?_
            refine r_ld (pc' := 35) hM_19 d_19_34 rfl rfl ?_
            refine r_cl (pc' := 38) (c := (20, 0)) (a := [.inr (.inr (some 2005))]) (q := [.inl 2]) hM_19 d_19_35 rfl (by decide +kernel) hM_20 rfl rfl rfl (Nat.le_of_ble_eq_true rfl) (Nat.le_of_ble_eq_true rfl) (Or.inr rfl) (ok_rnk (sn_5 (m := m)) hfx) (Nat.le_of_ble_eq_true rfl) ?_
            show rn fx 4 (0, 0) 19 38 [some (.inr (.inr (some 33))), some (.inl 5), some (.inr (.inr (some 2005))), some (.inl 2)] [.inl 6, .inl 2] (st0 m) o
            refine r_ic (pc' := 68) (pc2 := 41) hM_19 d_19_38 (by decide) rfl (fun hc => absurd hc (show ¬ (am_s 6 ≤ am_s 2) by decide)) (fun _ => ?_)
            refine r_ld (pc' := 42) hM_19 d_19_41 rfl rfl ?_
            refine r_gR (pc' := 45) (v := 1) hM_19 d_19_42 rfl (by decide +kernel) ?_
            refine r_ld (pc' := 46) hM_19 d_19_45 rfl rfl ?_
            refine r_gI (pc' := 49) (k0 := 5) hM_19 d_19_46 rfl (by decide +kernel) ?_
            refine r_ld (pc' := 50) hM_19 d_19_49 rfl rfl ?_
            refine r_b (pc' := 51) (z := ((m 33 5) + 2)) hM_19 d_19_50 rfl rfl ?_
            refine r_ba (pc' := 52) (n := 900) hM_19 d_19_51 rfl rfl (by decide) hz7 ?_
            refine r_ld (pc' := 53) hM_19 d_19_52 rfl rfl ?_
            refine r_ld (pc' := 54) hM_19 d_19_53 rfl rfl ?_
            refine r_cl (pc' := 57) (c := (22, 0)) (a := [.inr (.inr (some 2005)), .inl 2]) (q := [.inl (m 1 ((am_s ((m 33 5) + 2)).toNat))]) hM_19 d_19_54 rfl (by decide +kernel) hM_22 rfl rfl rfl (Nat.le_of_ble_eq_true rfl) (Nat.le_of_ble_eq_true rfl) (Or.inr rfl) (ok_rnk (sa_5_2 (m := m)) hfx) (Nat.le_of_ble_eq_true rfl) ?_
            show rn fx 4 (0, 0) 19 57 [some (.inr (.inr (some 33))), some (.inl 5), some (.inr (.inr (some 2005))), some (.inl 2)] [.inl 114, .inl (m 1 ((am_s ((m 33 5) + 2)).toNat))] (st0 m) o
            exact hk
          refine ok_ic (pc' := 62) (pc2 := 60) hM_19 d_19_57 (by decide) rfl (fun hz8 => ?_) (fun hz8 => ?_)
          · have H := H.1 hz8
            obtain ⟨hz9, H⟩ := H
            refine ok_sg (pc' := 57) (ls' := [some (.inr (.inr (some 33))), some (.inl 5), some (.inr (.inr (some 2005))), some (.inl 3)]) (st' := [.inl 114, .inl (m 1 ((am_s ((m 33 5) + 3)).toNat))]) (m' := m) (fun fx hfx o hk => ?_) ?_
            · refine r_sto (pc' := 65) (ls' := [some (.inr (.inr (some 33))), some (.inl 5), some (.inr (.inr (some 2005))), some (.inl 3)]) hM_19 d_19_62 rfl rfl ?_
              refine r_go (pc' := 33) hM_19 d_19_65 (by decide) ?_
              refine r_ld (pc' := 34) hM_19 d_19_33 rfl rfl ?_
              refine r_ld (pc' := 35) hM_19 d_19_34 rfl rfl ?_
              refine r_cl (pc' := 38) (c := (20, 0)) (a := [.inr (.inr (some 2005))]) (q := [.inl 3]) hM_19 d_19_35 rfl (by decide +kernel) hM_20 rfl rfl rfl (Nat.le_of_ble_eq_true rfl) (Nat.le_of_ble_eq_true rfl) (Or.inr rfl) (ok_rnk (sn_5 (m := m)) hfx) (Nat.le_of_ble_eq_true rfl) ?_
              show rn fx 4 (0, 0) 19 38 [some (.inr (.inr (some 33))), some (.inl 5), some (.inr (.inr (some 2005))), some (.inl 3)] [.inl 6, .inl 3] (st0 m) o
              refine r_ic (pc' := 68) (pc2 := 41) hM_19 d_19_38 (by decide) rfl (fun hc => absurd hc (show ¬ (am_s 6 ≤ am_s 3) by decide)) (fun _ => ?_)
              refine r_ld (pc' := 42) hM_19 d_19_41 rfl rfl ?_
              refine r_gR (pc' := 45) (v := 1) hM_19 d_19_42 rfl (by decide +kernel) ?_
              refine r_ld (pc' := 46) hM_19 d_19_45 rfl rfl ?_
              refine r_gI (pc' := 49) (k0 := 5) hM_19 d_19_46 rfl (by decide +kernel) ?_
              refine r_ld (pc' := 50) hM_19 d_19_49 rfl rfl ?_
              refine r_b (pc' := 51) (z := ((m 33 5) + 3)) hM_19 d_19_50 rfl rfl ?_
              refine r_ba (pc' := 52) (n := 900) hM_19 d_19_51 rfl rfl (by decide) hz9 ?_
              refine r_ld (pc' := 53) hM_19 d_19_52 rfl rfl ?_
              refine r_ld (pc' := 54) hM_19 d_19_53 rfl rfl ?_
              refine r_cl (pc' := 57) (c := (22, 0)) (a := [.inr (.inr (some 2005)), .inl 3]) (q := [.inl (m 1 ((am_s ((m 33 5) + 3)).toNat))]) hM_19 d_19_54 rfl (by decide +kernel) hM_22 rfl rfl rfl (Nat.le_of_ble_eq_true rfl) (Nat.le_of_ble_eq_true rfl) (Or.inr rfl) (ok_rnk (sa_5_3 (m := m)) hfx) (Nat.le_of_ble_eq_true rfl) ?_
              show rn fx 4 (0, 0) 19 57 [some (.inr (.inr (some 33))), some (.inl 5), some (.inr (.inr (some 2005))), some (.inl 3)] [.inl 114, .inl (m 1 ((am_s ((m 33 5) + 3)).toNat))] (st0 m) o
              exact hk
            refine ok_ic (pc' := 62) (pc2 := 60) hM_19 d_19_57 (by decide) rfl (fun hz10 => ?_) (fun hz10 => ?_)
            · have H := H.1 hz10
              obtain ⟨hz11, H⟩ := H
              refine ok_sg (pc' := 57) (ls' := [some (.inr (.inr (some 33))), some (.inl 5), some (.inr (.inr (some 2005))), some (.inl 4)]) (st' := [.inl 101, .inl (m 1 ((am_s ((m 33 5) + 4)).toNat))]) (m' := m) (fun fx hfx o hk => ?_) ?_
              · refine r_sto (pc' := 65) (ls' := [some (.inr (.inr (some 33))), some (.inl 5), some (.inr (.inr (some 2005))), some (.inl 4)]) hM_19 d_19_62 rfl rfl ?_
                refine r_go (pc' := 33) hM_19 d_19_65 (by decide) ?_
                refine r_ld (pc' := 34) hM_19 d_19_33 rfl rfl ?_
                refine r_ld (pc' := 35) hM_19 d_19_34 rfl rfl ?_
                refine r_cl (pc' := 38) (c := (20, 0)) (a := [.inr (.inr (some 2005))]) (q := [.inl 4]) hM_19 d_19_35 rfl (by decide +kernel) hM_20 rfl rfl rfl (Nat.le_of_ble_eq_true rfl) (Nat.le_of_ble_eq_true rfl) (Or.inr rfl) (ok_rnk (sn_5 (m := m)) hfx) (Nat.le_of_ble_eq_true rfl) ?_
                show rn fx 4 (0, 0) 19 38 [some (.inr (.inr (some 33))), some (.inl 5), some (.inr (.inr (some 2005))), some (.inl 4)] [.inl 6, .inl 4] (st0 m) o
                refine r_ic (pc' := 68) (pc2 := 41) hM_19 d_19_38 (by decide) rfl (fun hc => absurd hc (show ¬ (am_s 6 ≤ am_s 4) by decide)) (fun _ => ?_)
                refine r_ld (pc' := 42) hM_19 d_19_41 rfl rfl ?_
                refine r_gR (pc' := 45) (v := 1) hM_19 d_19_42 rfl (by decide +kernel) ?_
                refine r_ld (pc' := 46) hM_19 d_19_45 rfl rfl ?_
                refine r_gI (pc' := 49) (k0 := 5) hM_19 d_19_46 rfl (by decide +kernel) ?_
                refine r_ld (pc' := 50) hM_19 d_19_49 rfl rfl ?_
                refine r_b (pc' := 51) (z := ((m 33 5) + 4)) hM_19 d_19_50 rfl rfl ?_
                refine r_ba (pc' := 52) (n := 900) hM_19 d_19_51 rfl rfl (by decide) hz11 ?_
                refine r_ld (pc' := 53) hM_19 d_19_52 rfl rfl ?_
                refine r_ld (pc' := 54) hM_19 d_19_53 rfl rfl ?_
                refine r_cl (pc' := 57) (c := (22, 0)) (a := [.inr (.inr (some 2005)), .inl 4]) (q := [.inl (m 1 ((am_s ((m 33 5) + 4)).toNat))]) hM_19 d_19_54 rfl (by decide +kernel) hM_22 rfl rfl rfl (Nat.le_of_ble_eq_true rfl) (Nat.le_of_ble_eq_true rfl) (Or.inr rfl) (ok_rnk (sa_5_4 (m := m)) hfx) (Nat.le_of_ble_eq_true rfl) ?_
                show rn fx 4 (0, 0) 19 57 [some (.inr (.inr (some 33))), some (.inl 5), some (.inr (.inr (some 2005))), some (.inl 4)] [.inl 101, .inl (m 1 ((am_s ((m 33 5) + 4)).toNat))] (st0 m) o
                exact hk
              refine ok_ic (pc' := 62) (pc2 := 60) hM_19 d_19_57 (by decide) rfl (fun hz12 => ?_) (fun hz12 => ?_)
              · have H := H.1 hz12
                obtain ⟨hz13, H⟩ := H
                refine ok_sg (pc' := 57) (ls' := [some (.inr (.inr (some 33))), some (.inl 5), some (.inr (.inr (some 2005))), some (.inl 5)]) (st' := [.inl 108, .inl (m 1 ((am_s ((m 33 5) + 5)).toNat))]) (m' := m) (fun fx hfx o hk => ?_) ?_
                · refine r_sto (pc' := 65) (ls' := [some (.inr (.inr (some 33))), some (.inl 5), some (.inr (.inr (some 2005))), some (.inl 5)]) hM_19 d_19_62 rfl rfl ?_
                  refine r_go (pc' := 33) hM_19 d_19_65 (by decide) ?_
                  refine r_ld (pc' := 34) hM_19 d_19_33 rfl rfl ?_
                  refine r_ld (pc' := 35) hM_19 d_19_34 rfl rfl ?_
                  refine r_cl (pc' := 38) (c := (20, 0)) (a := [.inr (.inr (some 2005))]) (q := [.inl 5]) hM_19 d_19_35 rfl (by decide +kernel) hM_20 rfl rfl rfl (Nat.le_of_ble_eq_true rfl) (Nat.le_of_ble_eq_true rfl) (Or.inr rfl) (ok_rnk (sn_5 (m := m)) hfx) (Nat.le_of_ble_eq_true rfl) ?_
                  show rn fx 4 (0, 0) 19 38 [some (.inr (.inr (some 33))), some (.inl 5), some (.inr (.inr (some 2005))), some (.inl 5)] [.inl 6, .inl 5] (st0 m) o
                  refine r_ic (pc' := 68) (pc2 := 41) hM_19 d_19_38 (by decide) rfl (fun hc => absurd hc (show ¬ (am_s 6 ≤ am_s 5) by decide)) (fun _ => ?_)
                  refine r_ld (pc' := 42) hM_19 d_19_41 rfl rfl ?_
                  refine r_gR (pc' := 45) (v := 1) hM_19 d_19_42 rfl (by decide +kernel) ?_
                  refine r_ld (pc' := 46) hM_19 d_19_45 rfl rfl ?_
                  refine r_gI (pc' := 49) (k0 := 5) hM_19 d_19_46 rfl (by decide +kernel) ?_
                  refine r_ld (pc' := 50) hM_19 d_19_49 rfl rfl ?_
                  refine r_b (pc' := 51) (z := ((m 33 5) + 5)) hM_19 d_19_50 rfl rfl ?_
                  refine r_ba (pc' := 52) (n := 900) hM_19 d_19_51 rfl rfl (by decide) hz13 ?_
                  refine r_ld (pc' := 53) hM_19 d_19_52 rfl rfl ?_
                  refine r_ld (pc' := 54) hM_19 d_19_53 rfl rfl ?_
                  refine r_cl (pc' := 57) (c := (22, 0)) (a := [.inr (.inr (some 2005)), .inl 5]) (q := [.inl (m 1 ((am_s ((m 33 5) + 5)).toNat))]) hM_19 d_19_54 rfl (by decide +kernel) hM_22 rfl rfl rfl (Nat.le_of_ble_eq_true rfl) (Nat.le_of_ble_eq_true rfl) (Or.inr rfl) (ok_rnk (sa_5_5 (m := m)) hfx) (Nat.le_of_ble_eq_true rfl) ?_
                  show rn fx 4 (0, 0) 19 57 [some (.inr (.inr (some 33))), some (.inl 5), some (.inr (.inr (some 2005))), some (.inl 5)] [.inl 108, .inl (m 1 ((am_s ((m 33 5) + 5)).toNat))] (st0 m) o
                  exact hk
                refine ok_ic (pc' := 62) (pc2 := 60) hM_19 d_19_57 (by decide) rfl (fun hz14 => ?_) (fun hz14 => ?_)
                · have H := H.1 hz14
                  refine ok_sg (pc' := 69) (ls' := [some (.inr (.inr (some 33))), some (.inl 5), some (.inr (.inr (some 2005))), some (.inl 6)]) (st' := [.inl 1]) (m' := m) (fun fx hfx o hk => ?_) ?_
                  · refine r_sto (pc' := 65) (ls' := [some (.inr (.inr (some 33))), some (.inl 5), some (.inr (.inr (some 2005))), some (.inl 6)]) hM_19 d_19_62 rfl rfl ?_
                    refine r_go (pc' := 33) hM_19 d_19_65 (by decide) ?_
                    refine r_ld (pc' := 34) hM_19 d_19_33 rfl rfl ?_
                    refine r_ld (pc' := 35) hM_19 d_19_34 rfl rfl ?_
                    refine r_cl (pc' := 38) (c := (20, 0)) (a := [.inr (.inr (some 2005))]) (q := [.inl 6]) hM_19 d_19_35 rfl (by decide +kernel) hM_20 rfl rfl rfl (Nat.le_of_ble_eq_true rfl) (Nat.le_of_ble_eq_true rfl) (Or.inr rfl) (ok_rnk (sn_5 (m := m)) hfx) (Nat.le_of_ble_eq_true rfl) ?_
                    show rn fx 4 (0, 0) 19 38 [some (.inr (.inr (some 33))), some (.inl 5), some (.inr (.inr (some 2005))), some (.inl 6)] [.inl 6, .inl 6] (st0 m) o
                    refine r_ic (pc' := 68) (pc2 := 41) hM_19 d_19_38 (by decide) rfl (fun _ => ?_) (fun hc => absurd (show am_s 6 ≤ am_s 6 by decide) hc)
                    refine r_k (pc' := 69) (v := .inl 1) hM_19 d_19_68 rfl rfl ?_
                    exact hk
                  exact ok_rt (fun fx _ => rt_z hM_19 d_19_69 rfl (by decide)) H
                · have H := H.2 hz14
                  refine ok_sg (pc' := 61) (ls' := [some (.inr (.inr (some 33))), some (.inl 5), some (.inr (.inr (some 2005))), some (.inl 5)]) (st' := [.inl 0]) (m' := m) (fun fx hfx o hk => ?_) ?_
                  · refine r_k (pc' := 61) (v := .inl 0) hM_19 d_19_60 rfl rfl ?_
                    exact hk
                  exact ok_rt (fun fx _ => rt_z hM_19 d_19_61 rfl (by decide)) H
              · have H := H.2 hz12
                refine ok_sg (pc' := 61) (ls' := [some (.inr (.inr (some 33))), some (.inl 5), some (.inr (.inr (some 2005))), some (.inl 4)]) (st' := [.inl 0]) (m' := m) (fun fx hfx o hk => ?_) ?_
                · refine r_k (pc' := 61) (v := .inl 0) hM_19 d_19_60 rfl rfl ?_
                  exact hk
                exact ok_rt (fun fx _ => rt_z hM_19 d_19_61 rfl (by decide)) H
            · have H := H.2 hz10
              refine ok_sg (pc' := 61) (ls' := [some (.inr (.inr (some 33))), some (.inl 5), some (.inr (.inr (some 2005))), some (.inl 3)]) (st' := [.inl 0]) (m' := m) (fun fx hfx o hk => ?_) ?_
              · refine r_k (pc' := 61) (v := .inl 0) hM_19 d_19_60 rfl rfl ?_
                exact hk
              exact ok_rt (fun fx _ => rt_z hM_19 d_19_61 rfl (by decide)) H
          · have H := H.2 hz8
            refine ok_sg (pc' := 61) (ls' := [some (.inr (.inr (some 33))), some (.inl 5), some (.inr (.inr (some 2005))), some (.inl 2)]) (st' := [.inl 0]) (m' := m) (fun fx hfx o hk => ?_) ?_
            · refine r_k (pc' := 61) (v := .inl 0) hM_19 d_19_60 rfl rfl ?_
              exact hk
            exact ok_rt (fun fx _ => rt_z hM_19 d_19_61 rfl (by decide)) H
        · have H := H.2 hz6
          refine ok_sg (pc' := 61) (ls' := [some (.inr (.inr (some 33))), some (.inl 5), some (.inr (.inr (some 2005))), some (.inl 1)]) (st' := [.inl 0]) (m' := m) (fun fx hfx o hk => ?_) ?_
          · refine r_k (pc' := 61) (v := .inl 0) hM_19 d_19_60 rfl rfl ?_
            exact hk
          exact ok_rt (fun fx _ => rt_z hM_19 d_19_61 rfl (by decide)) H
      · have H := H.2 hz4
        refine ok_sg (pc' := 61) (ls' := [some (.inr (.inr (some 33))), some (.inl 5), some (.inr (.inr (some 2005))), some (.inl 0)]) (st' := [.inl 0]) (m' := m) (fun fx hfx o hk => ?_) ?_
        · refine r_k (pc' := 61) (v := .inl 0) hM_19 d_19_60 rfl rfl ?_
          exact hk
        exact ok_rt (fun fx _ => rt_z hM_19 d_19_61 rfl (by decide)) H
    · have H := H.2 hz2
      refine ok_sg (pc' := 30) (ls' := [some (.inr (.inr (some 33))), some (.inl 5), some (.inr (.inr (some 2005))), none]) (st' := [.inl 0]) (m' := m) (fun fx hfx o hk => ?_) ?_
      · refine r_k (pc' := 30) (v := .inl 0) hM_19 d_19_29 rfl rfl ?_
        exact hk
      exact ok_rt (fun fx _ => rt_z hM_19 d_19_30 rfl (by decide)) H
theorem zw_5 {m : am_M} (hq : RV m) : ok 4 19 0 (am_ent 4 [.inr (.inr (some 33)), .inl 5]) [] m (fun rr m' => rr = [.inl (if m 33 4 = 1 ∧ cwn m = 5 then 1 else 0)] ∧ m' = m) := by
  obtain ⟨⟨⟨w1, w3, w4⟩, hT⟩, ⟨w5, w6⟩, ⟨t0, t4⟩, -, -⟩ := hq
  obtain ⟨p, hp⟩ : ∃ p : Nat, m 33 5 = (p : Int) := ⟨(m 33 5).toNat, by omega⟩
  obtain ⟨b, hb⟩ : ∃ b : Nat, m 33 3 = (b : Int) := ⟨(m 33 3).toNat, by omega⟩
  have hcw : cwn m = wno (m 1) p b := by
    unfold cwn
    rw [hp, hb, Int.toNat_natCast, Int.toNat_natCast]
  have hi : cwn m = 5 ↔ spl (m 1) p b (wrd 5) = true := by
    rw [hcw]
    exact wno_iff (j := 5) (by decide)
  refine uw_5 ?_
  rw [hp] at w5 w6
  rw [hb] at w1 w3 w6
  rw [hp, hb, am_s_id (z := m 33 4) (by omega) (by omega)]
  refine ⟨fun qt => ⟨by rw [if_neg (fun zz => qt zz.1)], (by first | rfl | trivial)⟩, fun qt => ?_⟩
  rw [am_s_id (z := (b : Int) - (p : Int)) (by omega) (by omega), show am_s ((p : Int) + 0) = ((p + 0 : Nat) : Int) from am_s_id (by omega) (by omega), show am_s ((p : Int) + 1) = ((p + 1 : Nat) : Int) from am_s_id (by omega) (by omega), show am_s ((p : Int) + 2) = ((p + 2 : Nat) : Int) from am_s_id (by omega) (by omega), show am_s ((p : Int) + 3) = ((p + 3 : Nat) : Int) from am_s_id (by omega) (by omega), show am_s ((p : Int) + 4) = ((p + 4 : Nat) : Int) from am_s_id (by omega) (by omega), show am_s ((p : Int) + 5) = ((p + 5 : Nat) : Int) from am_s_id (by omega) (by omega)]
  simp only [Int.toNat_natCast]
  refine ⟨fun qn => ?_, fun qn => ⟨by rw [if_neg (fun zz => qn (by have h9 : b = p + 6 := (spl_t.mp (hi.mp zz.2)).1; omega))], (by first | rfl | trivial)⟩⟩
  have b0 : am_s (m 1 (p + 0)) = m 1 (p + 0) := am_s_id (by have := hT (p + 0) (by omega); omega) (by have := hT (p + 0) (by omega); omega)
  have b1 : am_s (m 1 (p + 1)) = m 1 (p + 1) := am_s_id (by have := hT (p + 1) (by omega); omega) (by have := hT (p + 1) (by omega); omega)
  have b2 : am_s (m 1 (p + 2)) = m 1 (p + 2) := am_s_id (by have := hT (p + 2) (by omega); omega) (by have := hT (p + 2) (by omega); omega)
  have b3 : am_s (m 1 (p + 3)) = m 1 (p + 3) := am_s_id (by have := hT (p + 3) (by omega); omega) (by have := hT (p + 3) (by omega); omega)
  have b4 : am_s (m 1 (p + 4)) = m 1 (p + 4) := am_s_id (by have := hT (p + 4) (by omega); omega) (by have := hT (p + 4) (by omega); omega)
  have b5 : am_s (m 1 (p + 5)) = m 1 (p + 5) := am_s_id (by have := hT (p + 5) (by omega); omega) (by have := hT (p + 5) (by omega); omega)
  rw [b0, b1, b2, b3, b4, b5]
  exact ⟨⟨by omega, by omega⟩, fun q0 => ⟨⟨by omega, by omega⟩, fun q1 => ⟨⟨by omega, by omega⟩, fun q2 => ⟨⟨by omega, by omega⟩, fun q3 => ⟨⟨by omega, by omega⟩, fun q4 => ⟨⟨by omega, by omega⟩, fun q5 => ⟨by rw [if_pos ⟨qt, hi.mpr (spl_t.mpr ⟨by show _ = _ + 6; omega, fun ix hix => by
    have hix : ix < 6 := hix
    have : ix = 0 ∨ ix = 1 ∨ ix = 2 ∨ ix = 3 ∨ ix = 4 ∨ ix = 5 := by omega
    rcases this with rfl | rfl | rfl | rfl | rfl | rfl
    · exact q0
    · exact q1
    · exact q2
    · exact q3
    · exact q4
    · exact q5⟩)⟩], (by first | rfl | trivial)⟩, fun q5 => ⟨by rw [if_neg (fun zz => q5 ((spl_t.mp (hi.mp zz.2)).2 5 (by decide)))], (by first | rfl | trivial)⟩⟩, fun q4 => ⟨by rw [if_neg (fun zz => q4 ((spl_t.mp (hi.mp zz.2)).2 4 (by decide)))], (by first | rfl | trivial)⟩⟩, fun q3 => ⟨by rw [if_neg (fun zz => q3 ((spl_t.mp (hi.mp zz.2)).2 3 (by decide)))], (by first | rfl | trivial)⟩⟩, fun q2 => ⟨by rw [if_neg (fun zz => q2 ((spl_t.mp (hi.mp zz.2)).2 2 (by decide)))], (by first | rfl | trivial)⟩⟩, fun q1 => ⟨by rw [if_neg (fun zz => q1 ((spl_t.mp (hi.mp zz.2)).2 1 (by decide)))], (by first | rfl | trivial)⟩⟩, fun q0 => ⟨by rw [if_neg (fun zz => q0 ((spl_t.mp (hi.mp zz.2)).2 0 (by decide)))], (by first | rfl | trivial)⟩⟩
theorem uw_6 {Q : List am_V → am_M → Prop} {m : am_M}   (H : ((¬ am_s (m 33 4) = 1) → Q [.inl 0] m) ∧ ((am_s (m 33 4) = 1) → ((am_s ((m 33 3) - (m 33 5)) = 3) → (0 ≤ am_s ((m 33 5) + 0) ∧ am_s ((m 33 5) + 0) < (900 : Nat)) ∧ (((am_s (m 1 ((am_s ((m 33 5) + 0)).toNat)) = 103) → (0 ≤ am_s ((m 33 5) + 1) ∧ am_s ((m 33 5) + 1) < (900 : Nat)) ∧ (((am_s (m 1 ((am_s ((m 33 5) + 1)).toNat)) = 97) → (0 ≤ am_s ((m 33 5) + 2) ∧ am_s ((m 33 5) + 2) < (900 : Nat)) ∧ (((am_s (m 1 ((am_s ((m 33 5) + 2)).toNat)) = 112) → Q [.inl 1] m) ∧ ((¬ (am_s (m 1 ((am_s ((m 33 5) + 2)).toNat)) = 112)) → Q [.inl 0] m))) ∧ ((¬ (am_s (m 1 ((am_s ((m 33 5) + 1)).toNat)) = 97)) → Q [.inl 0] m))) ∧ ((¬ (am_s (m 1 ((am_s ((m 33 5) + 0)).toNat)) = 103)) → Q [.inl 0] m))) ∧ ((¬ (am_s ((m 33 3) - (m 33 5)) = 3)) → Q [.inl 0] m))) : ok 4 19 0 [some (.inr (.inr (some 33))), some (.inl 6), none, none] [] m Q := by
  refine ok_sg (pc' := 10) (ls' := [some (.inr (.inr (some 33))), some (.inl 6), some (.inr (.inr (some 2006))), none]) (st' := [.inl 1, .inl (m 33 4)]) (m' := m) (fun fx hfx o hk => ?_) ?_
  · refine r_ld (pc' := 1) hM_19 d_19_0 rfl rfl ?_
    refine r_cl (pc' := 4) (c := (18, 2)) (a := [.inl 6]) (q := []) hM_19 d_19_1 rfl (by decide +kernel) hM_18 rfl rfl rfl (Nat.le_of_ble_eq_true rfl) (Nat.le_of_ble_eq_true rfl) (Or.inl rfl) (ok_rnk (sp_6 (m := m)) hfx) (Nat.le_of_ble_eq_true rfl) ?_
    show rn fx 4 (0, 0) 19 4 [some (.inr (.inr (some 33))), some (.inl 6), none, none] [.inr (.inr (some 2006))] (st0 m) o
    refine r_sto (pc' := 5) (ls' := [some (.inr (.inr (some 33))), some (.inl 6), some (.inr (.inr (some 2006))), none]) hM_19 d_19_4 rfl rfl ?_
    refine r_ld (pc' := 6) hM_19 d_19_5 rfl rfl ?_
    refine r_gI (pc' := 9) (k0 := 4) hM_19 d_19_6 rfl (by decide +kernel) ?_
    refine r_k (pc' := 10) (v := .inl 1) hM_19 d_19_9 rfl rfl ?_
    exact hk
  refine ok_ic (pc' := 29) (pc2 := 13) hM_19 d_19_10 (by decide) rfl (fun hz1 => ?_) (fun hz1 => ?_)
  · have H := H.1 hz1
    refine ok_sg (pc' := 30) (ls' := [some (.inr (.inr (some 33))), some (.inl 6), some (.inr (.inr (some 2006))), none]) (st' := [.inl 0]) (m' := m) (fun fx hfx o hk => ?_) ?_
    · refine r_k (pc' := 30) (v := .inl 0) hM_19 d_19_29 rfl rfl ?_
      exact hk
    exact ok_rt (fun fx _ => rt_z hM_19 d_19_30 rfl (by decide)) H
  · have H := H.2 (Decidable.not_not.mp hz1)
    refine ok_sg (pc' := 26) (ls' := [some (.inr (.inr (some 33))), some (.inl 6), some (.inr (.inr (some 2006))), none]) (st' := [.inl 3, .inl ((m 33 3) - (m 33 5))]) (m' := m) (fun fx hfx o hk => ?_) ?_
    · refine r_ld (pc' := 14) hM_19 d_19_13 rfl rfl ?_
      refine r_gI (pc' := 17) (k0 := 3) hM_19 d_19_14 rfl (by decide +kernel) ?_
      refine r_ld (pc' := 18) hM_19 d_19_17 rfl rfl ?_
      refine r_gI (pc' := 21) (k0 := 5) hM_19 d_19_18 rfl (by decide +kernel) ?_
      refine r_b (pc' := 22) (z := ((m 33 3) - (m 33 5))) hM_19 d_19_21 rfl rfl ?_
      refine r_ld (pc' := 23) hM_19 d_19_22 rfl rfl ?_
      refine r_cl (pc' := 26) (c := (20, 0)) (a := [.inr (.inr (some 2006))]) (q := [.inl ((m 33 3) - (m 33 5))]) hM_19 d_19_23 rfl (by decide +kernel) hM_20 rfl rfl rfl (Nat.le_of_ble_eq_true rfl) (Nat.le_of_ble_eq_true rfl) (Or.inr rfl) (ok_rnk (sn_6 (m := m)) hfx) (Nat.le_of_ble_eq_true rfl) ?_
      show rn fx 4 (0, 0) 19 26 [some (.inr (.inr (some 33))), some (.inl 6), some (.inr (.inr (some 2006))), none] [.inl 3, .inl ((m 33 3) - (m 33 5))] (st0 m) o
      exact hk
    refine ok_ic (pc' := 31) (pc2 := 29) hM_19 d_19_26 (by decide) rfl (fun hz2 => ?_) (fun hz2 => ?_)
    · have H := H.1 hz2
      obtain ⟨hz3, H⟩ := H
      refine ok_sg (pc' := 57) (ls' := [some (.inr (.inr (some 33))), some (.inl 6), some (.inr (.inr (some 2006))), some (.inl 0)]) (st' := [.inl 103, .inl (m 1 ((am_s ((m 33 5) + 0)).toNat))]) (m' := m) (fun fx hfx o hk => ?_) ?_
      · refine r_k (pc' := 32) (v := .inl 0) hM_19 d_19_31 rfl rfl ?_
        refine r_sto (pc' := 33) (ls' := [some (.inr (.inr (some 33))), some (.inl 6), some (.inr (.inr (some 2006))), some (.inl 0)]) hM_19 d_19_32 rfl rfl ?_
        refine r_ld (pc' := 34) hM_19 d_19_33 rfl rfl ?_
        refine r_ld (pc' := 35) hM_19 d_19_34 rfl rfl ?_
        refine r_cl (pc' := 38) (c := (20, 0)) (a := [.inr (.inr (some 2006))]) (q := [.inl 0]) hM_19 d_19_35 rfl (by decide +kernel) hM_20 rfl rfl rfl (Nat.le_of_ble_eq_true rfl) (Nat.le_of_ble_eq_true rfl) (Or.inr rfl) (ok_rnk (sn_6 (m := m)) hfx) (Nat.le_of_ble_eq_true rfl) ?_
        show rn fx 4 (0, 0) 19 38 [some (.inr (.inr (some 33))), some (.inl 6), some (.inr (.inr (some 2006))), some (.inl 0)] [.inl 3, .inl 0] (st0 m) o
        refine r_ic (pc' := 68) (pc2 := 41) hM_19 d_19_38 (by decide) rfl (fun hc => absurd hc (show ¬ (am_s 3 ≤ am_s 0) by decide)) (fun _ => ?_)
        refine r_ld (pc' := 42) hM_19 d_19_41 rfl rfl ?_
        refine r_gR (pc' := 45) (v := 1) hM_19 d_19_42 rfl (by decide +kernel) ?_
        refine r_ld (pc' := 46) hM_19 d_19_45 rfl rfl ?_
        refine r_gI (pc' := 49) (k0 := 5) hM_19 d_19_46 rfl (by decide +kernel) ?_
        refine r_ld (pc' := 50) hM_19 d_19_49 rfl rfl ?_
        refine r_b (pc' := 51) (z := ((m 33 5) + 0)) hM_19 d_19_50 rfl rfl ?_
        refine r_ba (pc' := 52) (n := 900) hM_19 d_19_51 rfl rfl (by decide) hz3 ?_
        refine r_ld (pc' := 53) hM_19 d_19_52 rfl rfl ?_
        refine r_ld (pc' := 54) hM_19 d_19_53 rfl rfl ?_
        refine r_cl (pc' := 57) (c := (22, 0)) (a := [.inr (.inr (some 2006)), .inl 0]) (q := [.inl (m 1 ((am_s ((m 33 5) + 0)).toNat))]) hM_19 d_19_54 rfl (by decide +kernel) hM_22 rfl rfl rfl (Nat.le_of_ble_eq_true rfl) (Nat.le_of_ble_eq_true rfl) (Or.inr rfl) (ok_rnk (sa_6_0 (m := m)) hfx) (Nat.le_of_ble_eq_true rfl) ?_
        show rn fx 4 (0, 0) 19 57 [some (.inr (.inr (some 33))), some (.inl 6), some (.inr (.inr (some 2006))), some (.inl 0)] [.inl 103, .inl (m 1 ((am_s ((m 33 5) + 0)).toNat))] (st0 m) o
        exact hk
      refine ok_ic (pc' := 62) (pc2 := 60) hM_19 d_19_57 (by decide) rfl (fun hz4 => ?_) (fun hz4 => ?_)
      · have H := H.1 hz4
        obtain ⟨hz5, H⟩ := H
        refine ok_sg (pc' := 57) (ls' := [some (.inr (.inr (some 33))), some (.inl 6), some (.inr (.inr (some 2006))), some (.inl 1)]) (st' := [.inl 97, .inl (m 1 ((am_s ((m 33 5) + 1)).toNat))]) (m' := m) (fun fx hfx o hk => ?_) ?_
        · refine r_sto (pc' := 65) (ls' := [some (.inr (.inr (some 33))), some (.inl 6), some (.inr (.inr (some 2006))), some (.inl 1)]) hM_19 d_19_62 rfl rfl ?_
          refine r_go (pc' := 33) hM_19 d_19_65 (by decide) ?_
          refine r_ld (pc' := 34) hM_19 d_19_33 rfl rfl ?_
          refine r_ld (pc' := 35) hM_19 d_19_34 rfl rfl ?_
          refine r_cl (pc' := 38) (c := (20, 0)) (a := [.inr (.inr (some 2006))]) (q := [.inl 1]) hM_19 d_19_35 rfl (by decide +kernel) hM_20 rfl rfl rfl (Nat.le_of_ble_eq_true rfl) (Nat.le_of_ble_eq_true rfl) (Or.inr rfl) (ok_rnk (sn_6 (m := m)) hfx) (Nat.le_of_ble_eq_true rfl) ?_
          show rn fx 4 (0, 0) 19 38 [some (.inr (.inr (some 33))), some (.inl 6), some (.inr (.inr (some 2006))), some (.inl 1)] [.inl 3, .inl 1] (st0 m) o
          refine r_ic (pc' := 68) (pc2 := 41) hM_19 d_19_38 (by decide) rfl (fun hc => absurd hc (show ¬ (am_s 3 ≤ am_s 1) by decide)) (fun _ => ?_)
          refine r_ld (pc' := 42) hM_19 d_19_41 rfl rfl ?_
          refine r_gR (pc' := 45) (v := 1) hM_19 d_19_42 rfl (by decide +kernel) ?_
          refine r_ld (pc' := 46) hM_19 d_19_45 rfl rfl ?_
          refine r_gI (pc' := 49) (k0 := 5) hM_19 d_19_46 rfl (by decide +kernel) ?_
          refine r_ld (pc' := 50) hM_19 d_19_49 rfl rfl ?_
          refine r_b (pc' := 51) (z := ((m 33 5) + 1)) hM_19 d_19_50 rfl rfl ?_
          refine r_ba (pc' := 52) (n := 900) hM_19 d_19_51 rfl rfl (by decide) hz5 ?_
          refine r_ld (pc' := 53) hM_19 d_19_52 rfl rfl ?_
          refine r_ld (pc' := 54) hM_19 d_19_53 rfl rfl ?_
          refine r_cl (pc' := 57) (c := (22, 0)) (a := [.inr (.inr (some 2006)), .inl 1]) (q := [.inl (m 1 ((am_s ((m 33 5) + 1)).toNat))]) hM_19 d_19_54 rfl (by decide +kernel) hM_22 rfl rfl rfl (Nat.le_of_ble_eq_true rfl) (Nat.le_of_ble_eq_true rfl) (Or.inr rfl) (ok_rnk (sa_6_1 (m := m)) hfx) (Nat.le_of_ble_eq_true rfl) ?_
          show rn fx 4 (0, 0) 19 57 [some (.inr (.inr (some 33))), some (.inl 6), some (.inr (.inr (some 2006))), some (.inl 1)] [.inl 97, .inl (m 1 ((am_s ((m 33 5) + 1)).toNat))] (st0 m) o
          exact hk
        refine ok_ic (pc' := 62) (pc2 := 60) hM_19 d_19_57 (by decide) rfl (fun hz6 => ?_) (fun hz6 => ?_)
        · have H := H.1 hz6
          obtain ⟨hz7, H⟩ := H
          refine ok_sg (pc' := 57) (ls' := [some (.inr (.inr (some 33))), some (.inl 6), some (.inr (.inr (some 2006))), some (.inl 2)]) (st' := [.inl 112, .inl (m 1 ((am_s ((m 33 5) + 2)).toNat))]) (m' := m) (fun fx hfx o hk => ?_) ?_
          · refine r_sto (pc' := 65) (ls' := [some (.inr (.inr (some 33))), some (.inl 6), some (.inr (.inr (some 2006))), some (.inl 2)]) hM_19 d_19_62 rfl rfl ?_
            refine r_go (pc' := 33) hM_19 d_19_65 (by decide) ?_
            refine r_ld (pc' := 34) hM_19 d_19_33 rfl rfl ?_
            refine r_ld (pc' := 35) hM_19 d_19_34 rfl rfl ?_
            refine r_cl (pc' := 38) (c := (20, 0)) (a := [.inr (.inr (some 2006))]) (q := [.inl 2]) hM_19 d_19_35 rfl (by decide +kernel) hM_20 rfl rfl rfl (Nat.le_of_ble_eq_true rfl) (Nat.le_of_ble_eq_true rfl) (Or.inr rfl) (ok_rnk (sn_6 (m := m)) hfx) (Nat.le_of_ble_eq_true rfl) ?_
            show rn fx 4 (0, 0) 19 38 [some (.inr (.inr (some 33))), some (.inl 6), some (.inr (.inr (some 2006))), some (.inl 2)] [.inl 3, .inl 2] (st0 m) o
            refine r_ic (pc' := 68) (pc2 := 41) hM_19 d_19_38 (by decide) rfl (fun hc => absurd hc (show ¬ (am_s 3 ≤ am_s 2) by decide)) (fun _ => ?_)
            refine r_ld (pc' := 42) hM_19 d_19_41 rfl rfl ?_
            refine r_gR (pc' := 45) (v := 1) hM_19 d_19_42 rfl (by decide +kernel) ?_
            refine r_ld (pc' := 46) hM_19 d_19_45 rfl rfl ?_
            refine r_gI (pc' := 49) (k0 := 5) hM_19 d_19_46 rfl (by decide +kernel) ?_
            refine r_ld (pc' := 50) hM_19 d_19_49 rfl rfl ?_
            refine r_b (pc' := 51) (z := ((m 33 5) + 2)) hM_19 d_19_50 rfl rfl ?_
            refine r_ba (pc' := 52) (n := 900) hM_19 d_19_51 rfl rfl (by decide) hz7 ?_
            refine r_ld (pc' := 53) hM_19 d_19_52 rfl rfl ?_
            refine r_ld (pc' := 54) hM_19 d_19_53 rfl rfl ?_
            refine r_cl (pc' := 57) (c := (22, 0)) (a := [.inr (.inr (some 2006)), .inl 2]) (q := [.inl (m 1 ((am_s ((m 33 5) + 2)).toNat))]) hM_19 d_19_54 rfl (by decide +kernel) hM_22 rfl rfl rfl (Nat.le_of_ble_eq_true rfl) (Nat.le_of_ble_eq_true rfl) (Or.inr rfl) (ok_rnk (sa_6_2 (m := m)) hfx) (Nat.le_of_ble_eq_true rfl) ?_
            show rn fx 4 (0, 0) 19 57 [some (.inr (.inr (some 33))), some (.inl 6), some (.inr (.inr (some 2006))), some (.inl 2)] [.inl 112, .inl (m 1 ((am_s ((m 33 5) + 2)).toNat))] (st0 m) o
            exact hk
          refine ok_ic (pc' := 62) (pc2 := 60) hM_19 d_19_57 (by decide) rfl (fun hz8 => ?_) (fun hz8 => ?_)
          · have H := H.1 hz8
            refine ok_sg (pc' := 69) (ls' := [some (.inr (.inr (some 33))), some (.inl 6), some (.inr (.inr (some 2006))), some (.inl 3)]) (st' := [.inl 1]) (m' := m) (fun fx hfx o hk => ?_) ?_
            · refine r_sto (pc' := 65) (ls' := [some (.inr (.inr (some 33))), some (.inl 6), some (.inr (.inr (some 2006))), some (.inl 3)]) hM_19 d_19_62 rfl rfl ?_
              refine r_go (pc' := 33) hM_19 d_19_65 (by decide) ?_
              refine r_ld (pc' := 34) hM_19 d_19_33 rfl rfl ?_
              refine r_ld (pc' := 35) hM_19 d_19_34 rfl rfl ?_
              refine r_cl (pc' := 38) (c := (20, 0)) (a := [.inr (.inr (some 2006))]) (q := [.inl 3]) hM_19 d_19_35 rfl (by decide +kernel) hM_20 rfl rfl rfl (Nat.le_of_ble_eq_true rfl) (Nat.le_of_ble_eq_true rfl) (Or.inr rfl) (ok_rnk (sn_6 (m := m)) hfx) (Nat.le_of_ble_eq_true rfl) ?_
              show rn fx 4 (0, 0) 19 38 [some (.inr (.inr (some 33))), some (.inl 6), some (.inr (.inr (some 2006))), some (.inl 3)] [.inl 3, .inl 3] (st0 m) o
              refine r_ic (pc' := 68) (pc2 := 41) hM_19 d_19_38 (by decide) rfl (fun _ => ?_) (fun hc => absurd (show am_s 3 ≤ am_s 3 by decide) hc)
              refine r_k (pc' := 69) (v := .inl 1) hM_19 d_19_68 rfl rfl ?_
              exact hk
            exact ok_rt (fun fx _ => rt_z hM_19 d_19_69 rfl (by decide)) H
          · have H := H.2 hz8
            refine ok_sg (pc' := 61) (ls' := [some (.inr (.inr (some 33))), some (.inl 6), some (.inr (.inr (some 2006))), some (.inl 2)]) (st' := [.inl 0]) (m' := m) (fun fx hfx o hk => ?_) ?_
            · refine r_k (pc' := 61) (v := .inl 0) hM_19 d_19_60 rfl rfl ?_
              exact hk
            exact ok_rt (fun fx _ => rt_z hM_19 d_19_61 rfl (by decide)) H
        · have H := H.2 hz6
          refine ok_sg (pc' := 61) (ls' := [some (.inr (.inr (some 33))), some (.inl 6), some (.inr (.inr (some 2006))), some (.inl 1)]) (st' := [.inl 0]) (m' := m) (fun fx hfx o hk => ?_) ?_
          · refine r_k (pc' := 61) (v := .inl 0) hM_19 d_19_60 rfl rfl ?_
            exact hk
          exact ok_rt (fun fx _ => rt_z hM_19 d_19_61 rfl (by decide)) H
      · have H := H.2 hz4
        refine ok_sg (pc' := 61) (ls' := [some (.inr (.inr (some 33))), some (.inl 6), some (.inr (.inr (some 2006))), some (.inl 0)]) (st' := [.inl 0]) (m' := m) (fun fx hfx o hk => ?_) ?_
        · refine r_k (pc' := 61) (v := .inl 0) hM_19 d_19_60 rfl rfl ?_
          exact hk
        exact ok_rt (fun fx _ => rt_z hM_19 d_19_61 rfl (by decide)) H
    · have H := H.2 hz2
      refine ok_sg (pc' := 30) (ls' := [some (.inr (.inr (some 33))), some (.inl 6), some (.inr (.inr (some 2006))), none]) (st' := [.inl 0]) (m' := m) (fun fx hfx o hk => ?_) ?_
      · refine r_k (pc' := 30) (v := .inl 0) hM_19 d_19_29 rfl rfl ?_
        exact hk
      exact ok_rt (fun fx _ => rt_z hM_19 d_19_30 rfl (by decide)) H
theorem zw_6 {m : am_M} (hq : RV m) : ok 4 19 0 (am_ent 4 [.inr (.inr (some 33)), .inl 6]) [] m (fun rr m' => rr = [.inl (if m 33 4 = 1 ∧ cwn m = 6 then 1 else 0)] ∧ m' = m) := by
  obtain ⟨⟨⟨w1, w3, w4⟩, hT⟩, ⟨w5, w6⟩, ⟨t0, t4⟩, -, -⟩ := hq
  obtain ⟨p, hp⟩ : ∃ p : Nat, m 33 5 = (p : Int) := ⟨(m 33 5).toNat, by omega⟩
  obtain ⟨b, hb⟩ : ∃ b : Nat, m 33 3 = (b : Int) := ⟨(m 33 3).toNat, by omega⟩
  have hcw : cwn m = wno (m 1) p b := by
    unfold cwn
    rw [hp, hb, Int.toNat_natCast, Int.toNat_natCast]
  have hi : cwn m = 6 ↔ spl (m 1) p b (wrd 6) = true := by
    rw [hcw]
    exact wno_iff (j := 6) (by decide)
  refine uw_6 ?_
  rw [hp] at w5 w6
  rw [hb] at w1 w3 w6
  rw [hp, hb, am_s_id (z := m 33 4) (by omega) (by omega)]
  refine ⟨fun qt => ⟨by rw [if_neg (fun zz => qt zz.1)], (by first | rfl | trivial)⟩, fun qt => ?_⟩
  rw [am_s_id (z := (b : Int) - (p : Int)) (by omega) (by omega), show am_s ((p : Int) + 0) = ((p + 0 : Nat) : Int) from am_s_id (by omega) (by omega), show am_s ((p : Int) + 1) = ((p + 1 : Nat) : Int) from am_s_id (by omega) (by omega), show am_s ((p : Int) + 2) = ((p + 2 : Nat) : Int) from am_s_id (by omega) (by omega)]
  simp only [Int.toNat_natCast]
  refine ⟨fun qn => ?_, fun qn => ⟨by rw [if_neg (fun zz => qn (by have h9 : b = p + 3 := (spl_t.mp (hi.mp zz.2)).1; omega))], (by first | rfl | trivial)⟩⟩
  have b0 : am_s (m 1 (p + 0)) = m 1 (p + 0) := am_s_id (by have := hT (p + 0) (by omega); omega) (by have := hT (p + 0) (by omega); omega)
  have b1 : am_s (m 1 (p + 1)) = m 1 (p + 1) := am_s_id (by have := hT (p + 1) (by omega); omega) (by have := hT (p + 1) (by omega); omega)
  have b2 : am_s (m 1 (p + 2)) = m 1 (p + 2) := am_s_id (by have := hT (p + 2) (by omega); omega) (by have := hT (p + 2) (by omega); omega)
  rw [b0, b1, b2]
  exact ⟨⟨by omega, by omega⟩, fun q0 => ⟨⟨by omega, by omega⟩, fun q1 => ⟨⟨by omega, by omega⟩, fun q2 => ⟨by rw [if_pos ⟨qt, hi.mpr (spl_t.mpr ⟨by show _ = _ + 3; omega, fun ix hix => by
    have hix : ix < 3 := hix
    have : ix = 0 ∨ ix = 1 ∨ ix = 2 := by omega
    rcases this with rfl | rfl | rfl
    · exact q0
    · exact q1
    · exact q2⟩)⟩], (by first | rfl | trivial)⟩, fun q2 => ⟨by rw [if_neg (fun zz => q2 ((spl_t.mp (hi.mp zz.2)).2 2 (by decide)))], (by first | rfl | trivial)⟩⟩, fun q1 => ⟨by rw [if_neg (fun zz => q1 ((spl_t.mp (hi.mp zz.2)).2 1 (by decide)))], (by first | rfl | trivial)⟩⟩, fun q0 => ⟨by rw [if_neg (fun zz => q0 ((spl_t.mp (hi.mp zz.2)).2 0 (by decide)))], (by first | rfl | trivial)⟩⟩
theorem uw_7 {Q : List am_V → am_M → Prop} {m : am_M}   (H : ((¬ am_s (m 33 4) = 1) → Q [.inl 0] m) ∧ ((am_s (m 33 4) = 1) → ((am_s ((m 33 3) - (m 33 5)) = 4) → (0 ≤ am_s ((m 33 5) + 0) ∧ am_s ((m 33 5) + 0) < (900 : Nat)) ∧ (((am_s (m 1 ((am_s ((m 33 5) + 0)).toNat)) = 114) → (0 ≤ am_s ((m 33 5) + 1) ∧ am_s ((m 33 5) + 1) < (900 : Nat)) ∧ (((am_s (m 1 ((am_s ((m 33 5) + 1)).toNat)) = 105) → (0 ≤ am_s ((m 33 5) + 2) ∧ am_s ((m 33 5) + 2) < (900 : Nat)) ∧ (((am_s (m 1 ((am_s ((m 33 5) + 2)).toNat)) = 112) → (0 ≤ am_s ((m 33 5) + 3) ∧ am_s ((m 33 5) + 3) < (900 : Nat)) ∧ (((am_s (m 1 ((am_s ((m 33 5) + 3)).toNat)) = 101) → Q [.inl 1] m) ∧ ((¬ (am_s (m 1 ((am_s ((m 33 5) + 3)).toNat)) = 101)) → Q [.inl 0] m))) ∧ ((¬ (am_s (m 1 ((am_s ((m 33 5) + 2)).toNat)) = 112)) → Q [.inl 0] m))) ∧ ((¬ (am_s (m 1 ((am_s ((m 33 5) + 1)).toNat)) = 105)) → Q [.inl 0] m))) ∧ ((¬ (am_s (m 1 ((am_s ((m 33 5) + 0)).toNat)) = 114)) → Q [.inl 0] m))) ∧ ((¬ (am_s ((m 33 3) - (m 33 5)) = 4)) → Q [.inl 0] m))) : ok 4 19 0 [some (.inr (.inr (some 33))), some (.inl 7), none, none] [] m Q := by
  refine ok_sg (pc' := 10) (ls' := [some (.inr (.inr (some 33))), some (.inl 7), some (.inr (.inr (some 2007))), none]) (st' := [.inl 1, .inl (m 33 4)]) (m' := m) (fun fx hfx o hk => ?_) ?_
  · refine r_ld (pc' := 1) hM_19 d_19_0 rfl rfl ?_
    refine r_cl (pc' := 4) (c := (18, 2)) (a := [.inl 7]) (q := []) hM_19 d_19_1 rfl (by decide +kernel) hM_18 rfl rfl rfl (Nat.le_of_ble_eq_true rfl) (Nat.le_of_ble_eq_true rfl) (Or.inl rfl) (ok_rnk (sp_7 (m := m)) hfx) (Nat.le_of_ble_eq_true rfl) ?_
    show rn fx 4 (0, 0) 19 4 [some (.inr (.inr (some 33))), some (.inl 7), none, none] [.inr (.inr (some 2007))] (st0 m) o
    refine r_sto (pc' := 5) (ls' := [some (.inr (.inr (some 33))), some (.inl 7), some (.inr (.inr (some 2007))), none]) hM_19 d_19_4 rfl rfl ?_
    refine r_ld (pc' := 6) hM_19 d_19_5 rfl rfl ?_
    refine r_gI (pc' := 9) (k0 := 4) hM_19 d_19_6 rfl (by decide +kernel) ?_
    refine r_k (pc' := 10) (v := .inl 1) hM_19 d_19_9 rfl rfl ?_
    exact hk
  refine ok_ic (pc' := 29) (pc2 := 13) hM_19 d_19_10 (by decide) rfl (fun hz1 => ?_) (fun hz1 => ?_)
  · have H := H.1 hz1
    refine ok_sg (pc' := 30) (ls' := [some (.inr (.inr (some 33))), some (.inl 7), some (.inr (.inr (some 2007))), none]) (st' := [.inl 0]) (m' := m) (fun fx hfx o hk => ?_) ?_
    · refine r_k (pc' := 30) (v := .inl 0) hM_19 d_19_29 rfl rfl ?_
      exact hk
    exact ok_rt (fun fx _ => rt_z hM_19 d_19_30 rfl (by decide)) H
  · have H := H.2 (Decidable.not_not.mp hz1)
    refine ok_sg (pc' := 26) (ls' := [some (.inr (.inr (some 33))), some (.inl 7), some (.inr (.inr (some 2007))), none]) (st' := [.inl 4, .inl ((m 33 3) - (m 33 5))]) (m' := m) (fun fx hfx o hk => ?_) ?_
    · refine r_ld (pc' := 14) hM_19 d_19_13 rfl rfl ?_
      refine r_gI (pc' := 17) (k0 := 3) hM_19 d_19_14 rfl (by decide +kernel) ?_
      refine r_ld (pc' := 18) hM_19 d_19_17 rfl rfl ?_
      refine r_gI (pc' := 21) (k0 := 5) hM_19 d_19_18 rfl (by decide +kernel) ?_
      refine r_b (pc' := 22) (z := ((m 33 3) - (m 33 5))) hM_19 d_19_21 rfl rfl ?_
      refine r_ld (pc' := 23) hM_19 d_19_22 rfl rfl ?_
      refine r_cl (pc' := 26) (c := (20, 0)) (a := [.inr (.inr (some 2007))]) (q := [.inl ((m 33 3) - (m 33 5))]) hM_19 d_19_23 rfl (by decide +kernel) hM_20 rfl rfl rfl (Nat.le_of_ble_eq_true rfl) (Nat.le_of_ble_eq_true rfl) (Or.inr rfl) (ok_rnk (sn_7 (m := m)) hfx) (Nat.le_of_ble_eq_true rfl) ?_
      show rn fx 4 (0, 0) 19 26 [some (.inr (.inr (some 33))), some (.inl 7), some (.inr (.inr (some 2007))), none] [.inl 4, .inl ((m 33 3) - (m 33 5))] (st0 m) o
      exact hk
    refine ok_ic (pc' := 31) (pc2 := 29) hM_19 d_19_26 (by decide) rfl (fun hz2 => ?_) (fun hz2 => ?_)
    · have H := H.1 hz2
      obtain ⟨hz3, H⟩ := H
      refine ok_sg (pc' := 57) (ls' := [some (.inr (.inr (some 33))), some (.inl 7), some (.inr (.inr (some 2007))), some (.inl 0)]) (st' := [.inl 114, .inl (m 1 ((am_s ((m 33 5) + 0)).toNat))]) (m' := m) (fun fx hfx o hk => ?_) ?_
      · refine r_k (pc' := 32) (v := .inl 0) hM_19 d_19_31 rfl rfl ?_
        refine r_sto (pc' := 33) (ls' := [some (.inr (.inr (some 33))), some (.inl 7), some (.inr (.inr (some 2007))), some (.inl 0)]) hM_19 d_19_32 rfl rfl ?_
        refine r_ld (pc' := 34) hM_19 d_19_33 rfl rfl ?_
        refine r_ld (pc' := 35) hM_19 d_19_34 rfl rfl ?_
        refine r_cl (pc' := 38) (c := (20, 0)) (a := [.inr (.inr (some 2007))]) (q := [.inl 0]) hM_19 d_19_35 rfl (by decide +kernel) hM_20 rfl rfl rfl (Nat.le_of_ble_eq_true rfl) (Nat.le_of_ble_eq_true rfl) (Or.inr rfl) (ok_rnk (sn_7 (m := m)) hfx) (Nat.le_of_ble_eq_true rfl) ?_
        show rn fx 4 (0, 0) 19 38 [some (.inr (.inr (some 33))), some (.inl 7), some (.inr (.inr (some 2007))), some (.inl 0)] [.inl 4, .inl 0] (st0 m) o
        refine r_ic (pc' := 68) (pc2 := 41) hM_19 d_19_38 (by decide) rfl (fun hc => absurd hc (show ¬ (am_s 4 ≤ am_s 0) by decide)) (fun _ => ?_)
        refine r_ld (pc' := 42) hM_19 d_19_41 rfl rfl ?_
        refine r_gR (pc' := 45) (v := 1) hM_19 d_19_42 rfl (by decide +kernel) ?_
        refine r_ld (pc' := 46) hM_19 d_19_45 rfl rfl ?_
        refine r_gI (pc' := 49) (k0 := 5) hM_19 d_19_46 rfl (by decide +kernel) ?_
        refine r_ld (pc' := 50) hM_19 d_19_49 rfl rfl ?_
        refine r_b (pc' := 51) (z := ((m 33 5) + 0)) hM_19 d_19_50 rfl rfl ?_
        refine r_ba (pc' := 52) (n := 900) hM_19 d_19_51 rfl rfl (by decide) hz3 ?_
        refine r_ld (pc' := 53) hM_19 d_19_52 rfl rfl ?_
        refine r_ld (pc' := 54) hM_19 d_19_53 rfl rfl ?_
        refine r_cl (pc' := 57) (c := (22, 0)) (a := [.inr (.inr (some 2007)), .inl 0]) (q := [.inl (m 1 ((am_s ((m 33 5) + 0)).toNat))]) hM_19 d_19_54 rfl (by decide +kernel) hM_22 rfl rfl rfl (Nat.le_of_ble_eq_true rfl) (Nat.le_of_ble_eq_true rfl) (Or.inr rfl) (ok_rnk (sa_7_0 (m := m)) hfx) (Nat.le_of_ble_eq_true rfl) ?_
        show rn fx 4 (0, 0) 19 57 [some (.inr (.inr (some 33))), some (.inl 7), some (.inr (.inr (some 2007))), some (.inl 0)] [.inl 114, .inl (m 1 ((am_s ((m 33 5) + 0)).toNat))] (st0 m) o
        exact hk
      refine ok_ic (pc' := 62) (pc2 := 60) hM_19 d_19_57 (by decide) rfl (fun hz4 => ?_) (fun hz4 => ?_)
      · have H := H.1 hz4
        obtain ⟨hz5, H⟩ := H
        refine ok_sg (pc' := 57) (ls' := [some (.inr (.inr (some 33))), some (.inl 7), some (.inr (.inr (some 2007))), some (.inl 1)]) (st' := [.inl 105, .inl (m 1 ((am_s ((m 33 5) + 1)).toNat))]) (m' := m) (fun fx hfx o hk => ?_) ?_
        · refine r_sto (pc' := 65) (ls' := [some (.inr (.inr (some 33))), some (.inl 7), some (.inr (.inr (some 2007))), some (.inl 1)]) hM_19 d_19_62 rfl rfl ?_
          refine r_go (pc' := 33) hM_19 d_19_65 (by decide) ?_
          refine r_ld (pc' := 34) hM_19 d_19_33 rfl rfl ?_
          refine r_ld (pc' := 35) hM_19 d_19_34 rfl rfl ?_
          refine r_cl (pc' := 38) (c := (20, 0)) (a := [.inr (.inr (some 2007))]) (q := [.inl 1]) hM_19 d_19_35 rfl (by decide +kernel) hM_20 rfl rfl rfl (Nat.le_of_ble_eq_true rfl) (Nat.le_of_ble_eq_true rfl) (Or.inr rfl) (ok_rnk (sn_7 (m := m)) hfx) (Nat.le_of_ble_eq_true rfl) ?_
          show rn fx 4 (0, 0) 19 38 [some (.inr (.inr (some 33))), some (.inl 7), some (.inr (.inr (some 2007))), some (.inl 1)] [.inl 4, .inl 1] (st0 m) o
          refine r_ic (pc' := 68) (pc2 := 41) hM_19 d_19_38 (by decide) rfl (fun hc => absurd hc (show ¬ (am_s 4 ≤ am_s 1) by decide)) (fun _ => ?_)
          refine r_ld (pc' := 42) hM_19 d_19_41 rfl rfl ?_
          refine r_gR (pc' := 45) (v := 1) hM_19 d_19_42 rfl (by decide +kernel) ?_
          refine r_ld (pc' := 46) hM_19 d_19_45 rfl rfl ?_
          refine r_gI (pc' := 49) (k0 := 5) hM_19 d_19_46 rfl (by decide +kernel) ?_
          refine r_ld (pc' := 50) hM_19 d_19_49 rfl rfl ?_
          refine r_b (pc' := 51) (z := ((m 33 5) + 1)) hM_19 d_19_50 rfl rfl ?_
          refine r_ba (pc' := 52) (n := 900) hM_19 d_19_51 rfl rfl (by decide) hz5 ?_
          refine r_ld (pc' := 53) hM_19 d_19_52 rfl rfl ?_
          refine r_ld (pc' := 54) hM_19 d_19_53 rfl rfl ?_
          refine r_cl (pc' := 57) (c := (22, 0)) (a := [.inr (.inr (some 2007)), .inl 1]) (q := [.inl (m 1 ((am_s ((m 33 5) + 1)).toNat))]) hM_19 d_19_54 rfl (by decide +kernel) hM_22 rfl rfl rfl (Nat.le_of_ble_eq_true rfl) (Nat.le_of_ble_eq_true rfl) (Or.inr rfl) (ok_rnk (sa_7_1 (m := m)) hfx) (Nat.le_of_ble_eq_true rfl) ?_
          show rn fx 4 (0, 0) 19 57 [some (.inr (.inr (some 33))), some (.inl 7), some (.inr (.inr (some 2007))), some (.inl 1)] [.inl 105, .inl (m 1 ((am_s ((m 33 5) + 1)).toNat))] (st0 m) o
          exact hk
        refine ok_ic (pc' := 62) (pc2 := 60) hM_19 d_19_57 (by decide) rfl (fun hz6 => ?_) (fun hz6 => ?_)
        · have H := H.1 hz6
          obtain ⟨hz7, H⟩ := H
          refine ok_sg (pc' := 57) (ls' := [some (.inr (.inr (some 33))), some (.inl 7), some (.inr (.inr (some 2007))), some (.inl 2)]) (st' := [.inl 112, .inl (m 1 ((am_s ((m 33 5) + 2)).toNat))]) (m' := m) (fun fx hfx o hk => ?_) ?_
          · refine r_sto (pc' := 65) (ls' := [some (.inr (.inr (some 33))), some (.inl 7), some (.inr (.inr (some 2007))), some (.inl 2)]) hM_19 d_19_62 rfl rfl ?_
            refine r_go (pc' := 33) hM_19 d_19_65 (by decide) ?_
            refine r_ld (pc' := 34) hM_19 d_19_33 rfl rfl ?_
            refine r_ld (pc' := 35) hM_19 d_19_34 rfl rfl ?_
            refine r_cl (pc' := 38) (c := (20, 0)) (a := [.inr (.inr (some 2007))]) (q := [.inl 2]) hM_19 d_19_35 rfl (by decide +kernel) hM_20 rfl rfl rfl (Nat.le_of_ble_eq_true rfl) (Nat.le_of_ble_eq_true rfl) (Or.inr rfl) (ok_rnk (sn_7 (m := m)) hfx) (Nat.le_of_ble_eq_true rfl) ?_
            show rn fx 4 (0, 0) 19 38 [some (.inr (.inr (some 33))), some (.inl 7), some (.inr (.inr (some 2007))), some (.inl 2)] [.inl 4, .inl 2] (st0 m) o
            refine r_ic (pc' := 68) (pc2 := 41) hM_19 d_19_38 (by decide) rfl (fun hc => absurd hc (show ¬ (am_s 4 ≤ am_s 2) by decide)) (fun _ => ?_)
            refine r_ld (pc' := 42) hM_19 d_19_41 rfl rfl ?_
            refine r_gR (pc' := 45) (v := 1) hM_19 d_19_42 rfl (by decide +kernel) ?_
            refine r_ld (pc' := 46) hM_19 d_19_45 rfl rfl ?_
            refine r_gI (pc' := 49) (k0 := 5) hM_19 d_19_46 rfl (by decide +kernel) ?_
            refine r_ld (pc' := 50) hM_19 d_19_49 rfl rfl ?_
            refine r_b (pc' := 51) (z := ((m 33 5) + 2)) hM_19 d_19_50 rfl rfl ?_
            refine r_ba (pc' := 52) (n := 900) hM_19 d_19_51 rfl rfl (by decide) hz7 ?_
            refine r_ld (pc' := 53) hM_19 d_19_52 rfl rfl ?_
            refine r_ld (pc' := 54) hM_19 d_19_53 rfl rfl ?_
            refine r_cl (pc' := 57) (c := (22, 0)) (a := [.inr (.inr (some 2007)), .inl 2]) (q := [.inl (m 1 ((am_s ((m 33 5) + 2)).toNat))]) hM_19 d_19_54 rfl (by decide +kernel) hM_22 rfl rfl rfl (Nat.le_of_ble_eq_true rfl) (Nat.le_of_ble_eq_true rfl) (Or.inr rfl) (ok_rnk (sa_7_2 (m := m)) hfx) (Nat.le_of_ble_eq_true rfl) ?_
            show rn fx 4 (0, 0) 19 57 [some (.inr (.inr (some 33))), some (.inl 7), some (.inr (.inr (some 2007))), some (.inl 2)] [.inl 112, .inl (m 1 ((am_s ((m 33 5) + 2)).toNat))] (st0 m) o
            exact hk
          refine ok_ic (pc' := 62) (pc2 := 60) hM_19 d_19_57 (by decide) rfl (fun hz8 => ?_) (fun hz8 => ?_)
          · have H := H.1 hz8
            obtain ⟨hz9, H⟩ := H
            refine ok_sg (pc' := 57) (ls' := [some (.inr (.inr (some 33))), some (.inl 7), some (.inr (.inr (some 2007))), some (.inl 3)]) (st' := [.inl 101, .inl (m 1 ((am_s ((m 33 5) + 3)).toNat))]) (m' := m) (fun fx hfx o hk => ?_) ?_
            · refine r_sto (pc' := 65) (ls' := [some (.inr (.inr (some 33))), some (.inl 7), some (.inr (.inr (some 2007))), some (.inl 3)]) hM_19 d_19_62 rfl rfl ?_
              refine r_go (pc' := 33) hM_19 d_19_65 (by decide) ?_
              refine r_ld (pc' := 34) hM_19 d_19_33 rfl rfl ?_
              refine r_ld (pc' := 35) hM_19 d_19_34 rfl rfl ?_
              refine r_cl (pc' := 38) (c := (20, 0)) (a := [.inr (.inr (some 2007))]) (q := [.inl 3]) hM_19 d_19_35 rfl (by decide +kernel) hM_20 rfl rfl rfl (Nat.le_of_ble_eq_true rfl) (Nat.le_of_ble_eq_true rfl) (Or.inr rfl) (ok_rnk (sn_7 (m := m)) hfx) (Nat.le_of_ble_eq_true rfl) ?_
              show rn fx 4 (0, 0) 19 38 [some (.inr (.inr (some 33))), some (.inl 7), some (.inr (.inr (some 2007))), some (.inl 3)] [.inl 4, .inl 3] (st0 m) o
              refine r_ic (pc' := 68) (pc2 := 41) hM_19 d_19_38 (by decide) rfl (fun hc => absurd hc (show ¬ (am_s 4 ≤ am_s 3) by decide)) (fun _ => ?_)
              refine r_ld (pc' := 42) hM_19 d_19_41 rfl rfl ?_
              refine r_gR (pc' := 45) (v := 1) hM_19 d_19_42 rfl (by decide +kernel) ?_
              refine r_ld (pc' := 46) hM_19 d_19_45 rfl rfl ?_
              refine r_gI (pc' := 49) (k0 := 5) hM_19 d_19_46 rfl (by decide +kernel) ?_
              refine r_ld (pc' := 50) hM_19 d_19_49 rfl rfl ?_
              refine r_b (pc' := 51) (z := ((m 33 5) + 3)) hM_19 d_19_50 rfl rfl ?_
              refine r_ba (pc' := 52) (n := 900) hM_19 d_19_51 rfl rfl (by decide) hz9 ?_
              refine r_ld (pc' := 53) hM_19 d_19_52 rfl rfl ?_
              refine r_ld (pc' := 54) hM_19 d_19_53 rfl rfl ?_
              refine r_cl (pc' := 57) (c := (22, 0)) (a := [.inr (.inr (some 2007)), .inl 3]) (q := [.inl (m 1 ((am_s ((m 33 5) + 3)).toNat))]) hM_19 d_19_54 rfl (by decide +kernel) hM_22 rfl rfl rfl (Nat.le_of_ble_eq_true rfl) (Nat.le_of_ble_eq_true rfl) (Or.inr rfl) (ok_rnk (sa_7_3 (m := m)) hfx) (Nat.le_of_ble_eq_true rfl) ?_
              show rn fx 4 (0, 0) 19 57 [some (.inr (.inr (some 33))), some (.inl 7), some (.inr (.inr (some 2007))), some (.inl 3)] [.inl 101, .inl (m 1 ((am_s ((m 33 5) + 3)).toNat))] (st0 m) o
              exact hk
            refine ok_ic (pc' := 62) (pc2 := 60) hM_19 d_19_57 (by decide) rfl (fun hz10 => ?_) (fun hz10 => ?_)
            · have H := H.1 hz10
              refine ok_sg (pc' := 69) (ls' := [some (.inr (.inr (some 33))), some (.inl 7), some (.inr (.inr (some 2007))), some (.inl 4)]) (st' := [.inl 1]) (m' := m) (fun fx hfx o hk => ?_) ?_
              · refine r_sto (pc' := 65) (ls' := [some (.inr (.inr (some 33))), some (.inl 7), some (.inr (.inr (some 2007))), some (.inl 4)]) hM_19 d_19_62 rfl rfl ?_
                refine r_go (pc' := 33) hM_19 d_19_65 (by decide) ?_
                refine r_ld (pc' := 34) hM_19 d_19_33 rfl rfl ?_
                refine r_ld (pc' := 35) hM_19 d_19_34 rfl rfl ?_
                refine r_cl (pc' := 38) (c := (20, 0)) (a := [.inr (.inr (some 2007))]) (q := [.inl 4]) hM_19 d_19_35 rfl (by decide +kernel) hM_20 rfl rfl rfl (Nat.le_of_ble_eq_true rfl) (Nat.le_of_ble_eq_true rfl) (Or.inr rfl) (ok_rnk (sn_7 (m := m)) hfx) (Nat.le_of_ble_eq_true rfl) ?_
                show rn fx 4 (0, 0) 19 38 [some (.inr (.inr (some 33))), some (.inl 7), some (.inr (.inr (some 2007))), some (.inl 4)] [.inl 4, .inl 4] (st0 m) o
                refine r_ic (pc' := 68) (pc2 := 41) hM_19 d_19_38 (by decide) rfl (fun _ => ?_) (fun hc => absurd (show am_s 4 ≤ am_s 4 by decide) hc)
                refine r_k (pc' := 69) (v := .inl 1) hM_19 d_19_68 rfl rfl ?_
                exact hk
              exact ok_rt (fun fx _ => rt_z hM_19 d_19_69 rfl (by decide)) H
            · have H := H.2 hz10
              refine ok_sg (pc' := 61) (ls' := [some (.inr (.inr (some 33))), some (.inl 7), some (.inr (.inr (some 2007))), some (.inl 3)]) (st' := [.inl 0]) (m' := m) (fun fx hfx o hk => ?_) ?_
              · refine r_k (pc' := 61) (v := .inl 0) hM_19 d_19_60 rfl rfl ?_
                exact hk
              exact ok_rt (fun fx _ => rt_z hM_19 d_19_61 rfl (by decide)) H
          · have H := H.2 hz8
            refine ok_sg (pc' := 61) (ls' := [some (.inr (.inr (some 33))), some (.inl 7), some (.inr (.inr (some 2007))), some (.inl 2)]) (st' := [.inl 0]) (m' := m) (fun fx hfx o hk => ?_) ?_
            · refine r_k (pc' := 61) (v := .inl 0) hM_19 d_19_60 rfl rfl ?_
              exact hk
            exact ok_rt (fun fx _ => rt_z hM_19 d_19_61 rfl (by decide)) H
        · have H := H.2 hz6
          refine ok_sg (pc' := 61) (ls' := [some (.inr (.inr (some 33))), some (.inl 7), some (.inr (.inr (some 2007))), some (.inl 1)]) (st' := [.inl 0]) (m' := m) (fun fx hfx o hk => ?_) ?_
          · refine r_k (pc' := 61) (v := .inl 0) hM_19 d_19_60 rfl rfl ?_
            exact hk
          exact ok_rt (fun fx _ => rt_z hM_19 d_19_61 rfl (by decide)) H
      · have H := H.2 hz4
        refine ok_sg (pc' := 61) (ls' := [some (.inr (.inr (some 33))), some (.inl 7), some (.inr (.inr (some 2007))), some (.inl 0)]) (st' := [.inl 0]) (m' := m) (fun fx hfx o hk => ?_) ?_
        · refine r_k (pc' := 61) (v := .inl 0) hM_19 d_19_60 rfl rfl ?_
          exact hk
        exact ok_rt (fun fx _ => rt_z hM_19 d_19_61 rfl (by decide)) H
    · have H := H.2 hz2
      refine ok_sg (pc' := 30) (ls' := [some (.inr (.inr (some 33))), some (.inl 7), some (.inr (.inr (some 2007))), none]) (st' := [.inl 0]) (m' := m) (fun fx hfx o hk => ?_) ?_
      · refine r_k (pc' := 30) (v := .inl 0) hM_19 d_19_29 rfl rfl ?_
        exact hk
      exact ok_rt (fun fx _ => rt_z hM_19 d_19_30 rfl (by decide)) H
theorem zw_7 {m : am_M} (hq : RV m) : ok 4 19 0 (am_ent 4 [.inr (.inr (some 33)), .inl 7]) [] m (fun rr m' => rr = [.inl (if m 33 4 = 1 ∧ cwn m = 7 then 1 else 0)] ∧ m' = m) := by
  obtain ⟨⟨⟨w1, w3, w4⟩, hT⟩, ⟨w5, w6⟩, ⟨t0, t4⟩, -, -⟩ := hq
  obtain ⟨p, hp⟩ : ∃ p : Nat, m 33 5 = (p : Int) := ⟨(m 33 5).toNat, by omega⟩
  obtain ⟨b, hb⟩ : ∃ b : Nat, m 33 3 = (b : Int) := ⟨(m 33 3).toNat, by omega⟩
  have hcw : cwn m = wno (m 1) p b := by
    unfold cwn
    rw [hp, hb, Int.toNat_natCast, Int.toNat_natCast]
  have hi : cwn m = 7 ↔ spl (m 1) p b (wrd 7) = true := by
    rw [hcw]
    exact wno_iff (j := 7) (by decide)
  refine uw_7 ?_
  rw [hp] at w5 w6
  rw [hb] at w1 w3 w6
  rw [hp, hb, am_s_id (z := m 33 4) (by omega) (by omega)]
  refine ⟨fun qt => ⟨by rw [if_neg (fun zz => qt zz.1)], (by first | rfl | trivial)⟩, fun qt => ?_⟩
  rw [am_s_id (z := (b : Int) - (p : Int)) (by omega) (by omega), show am_s ((p : Int) + 0) = ((p + 0 : Nat) : Int) from am_s_id (by omega) (by omega), show am_s ((p : Int) + 1) = ((p + 1 : Nat) : Int) from am_s_id (by omega) (by omega), show am_s ((p : Int) + 2) = ((p + 2 : Nat) : Int) from am_s_id (by omega) (by omega), show am_s ((p : Int) + 3) = ((p + 3 : Nat) : Int) from am_s_id (by omega) (by omega)]
  simp only [Int.toNat_natCast]
  refine ⟨fun qn => ?_, fun qn => ⟨by rw [if_neg (fun zz => qn (by have h9 : b = p + 4 := (spl_t.mp (hi.mp zz.2)).1; omega))], (by first | rfl | trivial)⟩⟩
  have b0 : am_s (m 1 (p + 0)) = m 1 (p + 0) := am_s_id (by have := hT (p + 0) (by omega); omega) (by have := hT (p + 0) (by omega); omega)
  have b1 : am_s (m 1 (p + 1)) = m 1 (p + 1) := am_s_id (by have := hT (p + 1) (by omega); omega) (by have := hT (p + 1) (by omega); omega)
  have b2 : am_s (m 1 (p + 2)) = m 1 (p + 2) := am_s_id (by have := hT (p + 2) (by omega); omega) (by have := hT (p + 2) (by omega); omega)
  have b3 : am_s (m 1 (p + 3)) = m 1 (p + 3) := am_s_id (by have := hT (p + 3) (by omega); omega) (by have := hT (p + 3) (by omega); omega)
  rw [b0, b1, b2, b3]
  exact ⟨⟨by omega, by omega⟩, fun q0 => ⟨⟨by omega, by omega⟩, fun q1 => ⟨⟨by omega, by omega⟩, fun q2 => ⟨⟨by omega, by omega⟩, fun q3 => ⟨by rw [if_pos ⟨qt, hi.mpr (spl_t.mpr ⟨by show _ = _ + 4; omega, fun ix hix => by
    have hix : ix < 4 := hix
    have : ix = 0 ∨ ix = 1 ∨ ix = 2 ∨ ix = 3 := by omega
    rcases this with rfl | rfl | rfl | rfl
    · exact q0
    · exact q1
    · exact q2
    · exact q3⟩)⟩], (by first | rfl | trivial)⟩, fun q3 => ⟨by rw [if_neg (fun zz => q3 ((spl_t.mp (hi.mp zz.2)).2 3 (by decide)))], (by first | rfl | trivial)⟩⟩, fun q2 => ⟨by rw [if_neg (fun zz => q2 ((spl_t.mp (hi.mp zz.2)).2 2 (by decide)))], (by first | rfl | trivial)⟩⟩, fun q1 => ⟨by rw [if_neg (fun zz => q1 ((spl_t.mp (hi.mp zz.2)).2 1 (by decide)))], (by first | rfl | trivial)⟩⟩, fun q0 => ⟨by rw [if_neg (fun zz => q0 ((spl_t.mp (hi.mp zz.2)).2 0 (by decide)))], (by first | rfl | trivial)⟩⟩
theorem uw_8 {Q : List am_V → am_M → Prop} {m : am_M}   (H : ((¬ am_s (m 33 4) = 1) → Q [.inl 0] m) ∧ ((am_s (m 33 4) = 1) → ((am_s ((m 33 3) - (m 33 5)) = 4) → (0 ≤ am_s ((m 33 5) + 0) ∧ am_s ((m 33 5) + 0) < (900 : Nat)) ∧ (((am_s (m 1 ((am_s ((m 33 5) + 0)).toNat)) = 105) → (0 ≤ am_s ((m 33 5) + 1) ∧ am_s ((m 33 5) + 1) < (900 : Nat)) ∧ (((am_s (m 1 ((am_s ((m 33 5) + 1)).toNat)) = 100) → (0 ≤ am_s ((m 33 5) + 2) ∧ am_s ((m 33 5) + 2) < (900 : Nat)) ∧ (((am_s (m 1 ((am_s ((m 33 5) + 2)).toNat)) = 108) → (0 ≤ am_s ((m 33 5) + 3) ∧ am_s ((m 33 5) + 3) < (900 : Nat)) ∧ (((am_s (m 1 ((am_s ((m 33 5) + 3)).toNat)) = 101) → Q [.inl 1] m) ∧ ((¬ (am_s (m 1 ((am_s ((m 33 5) + 3)).toNat)) = 101)) → Q [.inl 0] m))) ∧ ((¬ (am_s (m 1 ((am_s ((m 33 5) + 2)).toNat)) = 108)) → Q [.inl 0] m))) ∧ ((¬ (am_s (m 1 ((am_s ((m 33 5) + 1)).toNat)) = 100)) → Q [.inl 0] m))) ∧ ((¬ (am_s (m 1 ((am_s ((m 33 5) + 0)).toNat)) = 105)) → Q [.inl 0] m))) ∧ ((¬ (am_s ((m 33 3) - (m 33 5)) = 4)) → Q [.inl 0] m))) : ok 4 19 0 [some (.inr (.inr (some 33))), some (.inl 8), none, none] [] m Q := by
  refine ok_sg (pc' := 10) (ls' := [some (.inr (.inr (some 33))), some (.inl 8), some (.inr (.inr (some 2008))), none]) (st' := [.inl 1, .inl (m 33 4)]) (m' := m) (fun fx hfx o hk => ?_) ?_
  · refine r_ld (pc' := 1) hM_19 d_19_0 rfl rfl ?_
    refine r_cl (pc' := 4) (c := (18, 2)) (a := [.inl 8]) (q := []) hM_19 d_19_1 rfl (by decide +kernel) hM_18 rfl rfl rfl (Nat.le_of_ble_eq_true rfl) (Nat.le_of_ble_eq_true rfl) (Or.inl rfl) (ok_rnk (sp_8 (m := m)) hfx) (Nat.le_of_ble_eq_true rfl) ?_
    show rn fx 4 (0, 0) 19 4 [some (.inr (.inr (some 33))), some (.inl 8), none, none] [.inr (.inr (some 2008))] (st0 m) o
    refine r_sto (pc' := 5) (ls' := [some (.inr (.inr (some 33))), some (.inl 8), some (.inr (.inr (some 2008))), none]) hM_19 d_19_4 rfl rfl ?_
    refine r_ld (pc' := 6) hM_19 d_19_5 rfl rfl ?_
    refine r_gI (pc' := 9) (k0 := 4) hM_19 d_19_6 rfl (by decide +kernel) ?_
    refine r_k (pc' := 10) (v := .inl 1) hM_19 d_19_9 rfl rfl ?_
    exact hk
  refine ok_ic (pc' := 29) (pc2 := 13) hM_19 d_19_10 (by decide) rfl (fun hz1 => ?_) (fun hz1 => ?_)
  · have H := H.1 hz1
    refine ok_sg (pc' := 30) (ls' := [some (.inr (.inr (some 33))), some (.inl 8), some (.inr (.inr (some 2008))), none]) (st' := [.inl 0]) (m' := m) (fun fx hfx o hk => ?_) ?_
    · refine r_k (pc' := 30) (v := .inl 0) hM_19 d_19_29 rfl rfl ?_
      exact hk
    exact ok_rt (fun fx _ => rt_z hM_19 d_19_30 rfl (by decide)) H
  · have H := H.2 (Decidable.not_not.mp hz1)
    refine ok_sg (pc' := 26) (ls' := [some (.inr (.inr (some 33))), some (.inl 8), some (.inr (.inr (some 2008))), none]) (st' := [.inl 4, .inl ((m 33 3) - (m 33 5))]) (m' := m) (fun fx hfx o hk => ?_) ?_
    · refine r_ld (pc' := 14) hM_19 d_19_13 rfl rfl ?_
      refine r_gI (pc' := 17) (k0 := 3) hM_19 d_19_14 rfl (by decide +kernel) ?_
      refine r_ld (pc' := 18) hM_19 d_19_17 rfl rfl ?_
      refine r_gI (pc' := 21) (k0 := 5) hM_19 d_19_18 rfl (by decide +kernel) ?_
      refine r_b (pc' := 22) (z := ((m 33 3) - (m 33 5))) hM_19 d_19_21 rfl rfl ?_
      refine r_ld (pc' := 23) hM_19 d_19_22 rfl rfl ?_
      refine r_cl (pc' := 26) (c := (20, 0)) (a := [.inr (.inr (some 2008))]) (q := [.inl ((m 33 3) - (m 33 5))]) hM_19 d_19_23 rfl (by decide +kernel) hM_20 rfl rfl rfl (Nat.le_of_ble_eq_true rfl) (Nat.le_of_ble_eq_true rfl) (Or.inr rfl) (ok_rnk (sn_8 (m := m)) hfx) (Nat.le_of_ble_eq_true rfl) ?_
      show rn fx 4 (0, 0) 19 26 [some (.inr (.inr (some 33))), some (.inl 8), some (.inr (.inr (some 2008))), none] [.inl 4, .inl ((m 33 3) - (m 33 5))] (st0 m) o
      exact hk
    refine ok_ic (pc' := 31) (pc2 := 29) hM_19 d_19_26 (by decide) rfl (fun hz2 => ?_) (fun hz2 => ?_)
    · have H := H.1 hz2
      obtain ⟨hz3, H⟩ := H
      refine ok_sg (pc' := 57) (ls' := [some (.inr (.inr (some 33))), some (.inl 8), some (.inr (.inr (some 2008))), some (.inl 0)]) (st' := [.inl 105, .inl (m 1 ((am_s ((m 33 5) + 0)).toNat))]) (m' := m) (fun fx hfx o hk => ?_) ?_
      · refine r_k (pc' := 32) (v := .inl 0) hM_19 d_19_31 rfl rfl ?_
        refine r_sto (pc' := 33) (ls' := [some (.inr (.inr (some 33))), some (.inl 8), some (.inr (.inr (some 2008))), some (.inl 0)]) hM_19 d_19_32 rfl rfl ?_
        refine r_ld (pc' := 34) hM_19 d_19_33 rfl rfl ?_
        refine r_ld (pc' := 35) hM_19 d_19_34 rfl rfl ?_
        refine r_cl (pc' := 38) (c := (20, 0)) (a := [.inr (.inr (some 2008))]) (q := [.inl 0]) hM_19 d_19_35 rfl (by decide +kernel) hM_20 rfl rfl rfl (Nat.le_of_ble_eq_true rfl) (Nat.le_of_ble_eq_true rfl) (Or.inr rfl) (ok_rnk (sn_8 (m := m)) hfx) (Nat.le_of_ble_eq_true rfl) ?_
        show rn fx 4 (0, 0) 19 38 [some (.inr (.inr (some 33))), some (.inl 8), some (.inr (.inr (some 2008))), some (.inl 0)] [.inl 4, .inl 0] (st0 m) o
        refine r_ic (pc' := 68) (pc2 := 41) hM_19 d_19_38 (by decide) rfl (fun hc => absurd hc (show ¬ (am_s 4 ≤ am_s 0) by decide)) (fun _ => ?_)
        refine r_ld (pc' := 42) hM_19 d_19_41 rfl rfl ?_
        refine r_gR (pc' := 45) (v := 1) hM_19 d_19_42 rfl (by decide +kernel) ?_
        refine r_ld (pc' := 46) hM_19 d_19_45 rfl rfl ?_
        refine r_gI (pc' := 49) (k0 := 5) hM_19 d_19_46 rfl (by decide +kernel) ?_
        refine r_ld (pc' := 50) hM_19 d_19_49 rfl rfl ?_
        refine r_b (pc' := 51) (z := ((m 33 5) + 0)) hM_19 d_19_50 rfl rfl ?_
        refine r_ba (pc' := 52) (n := 900) hM_19 d_19_51 rfl rfl (by decide) hz3 ?_
        refine r_ld (pc' := 53) hM_19 d_19_52 rfl rfl ?_
        refine r_ld (pc' := 54) hM_19 d_19_53 rfl rfl ?_
        refine r_cl (pc' := 57) (c := (22, 0)) (a := [.inr (.inr (some 2008)), .inl 0]) (q := [.inl (m 1 ((am_s ((m 33 5) + 0)).toNat))]) hM_19 d_19_54 rfl (by decide +kernel) hM_22 rfl rfl rfl (Nat.le_of_ble_eq_true rfl) (Nat.le_of_ble_eq_true rfl) (Or.inr rfl) (ok_rnk (sa_8_0 (m := m)) hfx) (Nat.le_of_ble_eq_true rfl) ?_
        show rn fx 4 (0, 0) 19 57 [some (.inr (.inr (some 33))), some (.inl 8), some (.inr (.inr (some 2008))), some (.inl 0)] [.inl 105, .inl (m 1 ((am_s ((m 33 5) + 0)).toNat))] (st0 m) o
        exact hk
      refine ok_ic (pc' := 62) (pc2 := 60) hM_19 d_19_57 (by decide) rfl (fun hz4 => ?_) (fun hz4 => ?_)
      · have H := H.1 hz4
        obtain ⟨hz5, H⟩ := H
        refine ok_sg (pc' := 57) (ls' := [some (.inr (.inr (some 33))), some (.inl 8), some (.inr (.inr (some 2008))), some (.inl 1)]) (st' := [.inl 100, .inl (m 1 ((am_s ((m 33 5) + 1)).toNat))]) (m' := m) (fun fx hfx o hk => ?_) ?_
        · refine r_sto (pc' := 65) (ls' := [some (.inr (.inr (some 33))), some (.inl 8), some (.inr (.inr (some 2008))), some (.inl 1)]) hM_19 d_19_62 rfl rfl ?_
          refine r_go (pc' := 33) hM_19 d_19_65 (by decide) ?_
          refine r_ld (pc' := 34) hM_19 d_19_33 rfl rfl ?_
          refine r_ld (pc' := 35) hM_19 d_19_34 rfl rfl ?_
          refine r_cl (pc' := 38) (c := (20, 0)) (a := [.inr (.inr (some 2008))]) (q := [.inl 1]) hM_19 d_19_35 rfl (by decide +kernel) hM_20 rfl rfl rfl (Nat.le_of_ble_eq_true rfl) (Nat.le_of_ble_eq_true rfl) (Or.inr rfl) (ok_rnk (sn_8 (m := m)) hfx) (Nat.le_of_ble_eq_true rfl) ?_
          show rn fx 4 (0, 0) 19 38 [some (.inr (.inr (some 33))), some (.inl 8), some (.inr (.inr (some 2008))), some (.inl 1)] [.inl 4, .inl 1] (st0 m) o
          refine r_ic (pc' := 68) (pc2 := 41) hM_19 d_19_38 (by decide) rfl (fun hc => absurd hc (show ¬ (am_s 4 ≤ am_s 1) by decide)) (fun _ => ?_)
          refine r_ld (pc' := 42) hM_19 d_19_41 rfl rfl ?_
          refine r_gR (pc' := 45) (v := 1) hM_19 d_19_42 rfl (by decide +kernel) ?_
          refine r_ld (pc' := 46) hM_19 d_19_45 rfl rfl ?_
          refine r_gI (pc' := 49) (k0 := 5) hM_19 d_19_46 rfl (by decide +kernel) ?_
          refine r_ld (pc' := 50) hM_19 d_19_49 rfl rfl ?_
          refine r_b (pc' := 51) (z := ((m 33 5) + 1)) hM_19 d_19_50 rfl rfl ?_
          refine r_ba (pc' := 52) (n := 900) hM_19 d_19_51 rfl rfl (by decide) hz5 ?_
          refine r_ld (pc' := 53) hM_19 d_19_52 rfl rfl ?_
          refine r_ld (pc' := 54) hM_19 d_19_53 rfl rfl ?_
          refine r_cl (pc' := 57) (c := (22, 0)) (a := [.inr (.inr (some 2008)), .inl 1]) (q := [.inl (m 1 ((am_s ((m 33 5) + 1)).toNat))]) hM_19 d_19_54 rfl (by decide +kernel) hM_22 rfl rfl rfl (Nat.le_of_ble_eq_true rfl) (Nat.le_of_ble_eq_true rfl) (Or.inr rfl) (ok_rnk (sa_8_1 (m := m)) hfx) (Nat.le_of_ble_eq_true rfl) ?_
          show rn fx 4 (0, 0) 19 57 [some (.inr (.inr (some 33))), some (.inl 8), some (.inr (.inr (some 2008))), some (.inl 1)] [.inl 100, .inl (m 1 ((am_s ((m 33 5) + 1)).toNat))] (st0 m) o
          exact hk
        refine ok_ic (pc' := 62) (pc2 := 60) hM_19 d_19_57 (by decide) rfl (fun hz6 => ?_) (fun hz6 => ?_)
        · have H := H.1 hz6
          obtain ⟨hz7, H⟩ := H
          refine ok_sg (pc' := 57) (ls' := [some (.inr (.inr (some 33))), some (.inl 8), some (.inr (.inr (some 2008))), some (.inl 2)]) (st' := [.inl 108, .inl (m 1 ((am_s ((m 33 5) + 2)).toNat))]) (m' := m) (fun fx hfx o hk => ?_) ?_
          · refine r_sto (pc' := 65) (ls' := [some (.inr (.inr (some 33))), some (.inl 8), some (.inr (.inr (some 2008))), some (.inl 2)]) hM_19 d_19_62 rfl rfl ?_
            refine r_go (pc' := 33) hM_19 d_19_65 (by decide) ?_
            refine r_ld (pc' := 34) hM_19 d_19_33 rfl rfl ?_
            refine r_ld (pc' := 35) hM_19 d_19_34 rfl rfl ?_
            refine r_cl (pc' := 38) (c := (20, 0)) (a := [.inr (.inr (some 2008))]) (q := [.inl 2]) hM_19 d_19_35 rfl (by decide +kernel) hM_20 rfl rfl rfl (Nat.le_of_ble_eq_true rfl) (Nat.le_of_ble_eq_true rfl) (Or.inr rfl) (ok_rnk (sn_8 (m := m)) hfx) (Nat.le_of_ble_eq_true rfl) ?_
            show rn fx 4 (0, 0) 19 38 [some (.inr (.inr (some 33))), some (.inl 8), some (.inr (.inr (some 2008))), some (.inl 2)] [.inl 4, .inl 2] (st0 m) o
            refine r_ic (pc' := 68) (pc2 := 41) hM_19 d_19_38 (by decide) rfl (fun hc => absurd hc (show ¬ (am_s 4 ≤ am_s 2) by decide)) (fun _ => ?_)
            refine r_ld (pc' := 42) hM_19 d_19_41 rfl rfl ?_
            refine r_gR (pc' := 45) (v := 1) hM_19 d_19_42 rfl (by decide +kernel) ?_
            refine r_ld (pc' := 46) hM_19 d_19_45 rfl rfl ?_
            refine r_gI (pc' := 49) (k0 := 5) hM_19 d_19_46 rfl (by decide +kernel) ?_
            refine r_ld (pc' := 50) hM_19 d_19_49 rfl rfl ?_
            refine r_b (pc' := 51) (z := ((m 33 5) + 2)) hM_19 d_19_50 rfl rfl ?_
            refine r_ba (pc' := 52) (n := 900) hM_19 d_19_51 rfl rfl (by decide) hz7 ?_
            refine r_ld (pc' := 53) hM_19 d_19_52 rfl rfl ?_
            refine r_ld (pc' := 54) hM_19 d_19_53 rfl rfl ?_
            refine r_cl (pc' := 57) (c := (22, 0)) (a := [.inr (.inr (some 2008)), .inl 2]) (q := [.inl (m 1 ((am_s ((m 33 5) + 2)).toNat))]) hM_19 d_19_54 rfl (by decide +kernel) hM_22 rfl rfl rfl (Nat.le_of_ble_eq_true rfl) (Nat.le_of_ble_eq_true rfl) (Or.inr rfl) (ok_rnk (sa_8_2 (m := m)) hfx) (Nat.le_of_ble_eq_true rfl) ?_
            show rn fx 4 (0, 0) 19 57 [some (.inr (.inr (some 33))), some (.inl 8), some (.inr (.inr (some 2008))), some (.inl 2)] [.inl 108, .inl (m 1 ((am_s ((m 33 5) + 2)).toNat))] (st0 m) o
            exact hk
          refine ok_ic (pc' := 62) (pc2 := 60) hM_19 d_19_57 (by decide) rfl (fun hz8 => ?_) (fun hz8 => ?_)
          · have H := H.1 hz8
            obtain ⟨hz9, H⟩ := H
            refine ok_sg (pc' := 57) (ls' := [some (.inr (.inr (some 33))), some (.inl 8), some (.inr (.inr (some 2008))), some (.inl 3)]) (st' := [.inl 101, .inl (m 1 ((am_s ((m 33 5) + 3)).toNat))]) (m' := m) (fun fx hfx o hk => ?_) ?_
            · refine r_sto (pc' := 65) (ls' := [some (.inr (.inr (some 33))), some (.inl 8), some (.inr (.inr (some 2008))), some (.inl 3)]) hM_19 d_19_62 rfl rfl ?_
              refine r_go (pc' := 33) hM_19 d_19_65 (by decide) ?_
              refine r_ld (pc' := 34) hM_19 d_19_33 rfl rfl ?_
              refine r_ld (pc' := 35) hM_19 d_19_34 rfl rfl ?_
              refine r_cl (pc' := 38) (c := (20, 0)) (a := [.inr (.inr (some 2008))]) (q := [.inl 3]) hM_19 d_19_35 rfl (by decide +kernel) hM_20 rfl rfl rfl (Nat.le_of_ble_eq_true rfl) (Nat.le_of_ble_eq_true rfl) (Or.inr rfl) (ok_rnk (sn_8 (m := m)) hfx) (Nat.le_of_ble_eq_true rfl) ?_
              show rn fx 4 (0, 0) 19 38 [some (.inr (.inr (some 33))), some (.inl 8), some (.inr (.inr (some 2008))), some (.inl 3)] [.inl 4, .inl 3] (st0 m) o
              refine r_ic (pc' := 68) (pc2 := 41) hM_19 d_19_38 (by decide) rfl (fun hc => absurd hc (show ¬ (am_s 4 ≤ am_s 3) by decide)) (fun _ => ?_)
              refine r_ld (pc' := 42) hM_19 d_19_41 rfl rfl ?_
              refine r_gR (pc' := 45) (v := 1) hM_19 d_19_42 rfl (by decide +kernel) ?_
              refine r_ld (pc' := 46) hM_19 d_19_45 rfl rfl ?_
              refine r_gI (pc' := 49) (k0 := 5) hM_19 d_19_46 rfl (by decide +kernel) ?_
              refine r_ld (pc' := 50) hM_19 d_19_49 rfl rfl ?_
              refine r_b (pc' := 51) (z := ((m 33 5) + 3)) hM_19 d_19_50 rfl rfl ?_
              refine r_ba (pc' := 52) (n := 900) hM_19 d_19_51 rfl rfl (by decide) hz9 ?_
              refine r_ld (pc' := 53) hM_19 d_19_52 rfl rfl ?_
              refine r_ld (pc' := 54) hM_19 d_19_53 rfl rfl ?_
              refine r_cl (pc' := 57) (c := (22, 0)) (a := [.inr (.inr (some 2008)), .inl 3]) (q := [.inl (m 1 ((am_s ((m 33 5) + 3)).toNat))]) hM_19 d_19_54 rfl (by decide +kernel) hM_22 rfl rfl rfl (Nat.le_of_ble_eq_true rfl) (Nat.le_of_ble_eq_true rfl) (Or.inr rfl) (ok_rnk (sa_8_3 (m := m)) hfx) (Nat.le_of_ble_eq_true rfl) ?_
              show rn fx 4 (0, 0) 19 57 [some (.inr (.inr (some 33))), some (.inl 8), some (.inr (.inr (some 2008))), some (.inl 3)] [.inl 101, .inl (m 1 ((am_s ((m 33 5) + 3)).toNat))] (st0 m) o
              exact hk
            refine ok_ic (pc' := 62) (pc2 := 60) hM_19 d_19_57 (by decide) rfl (fun hz10 => ?_) (fun hz10 => ?_)
            · have H := H.1 hz10
              refine ok_sg (pc' := 69) (ls' := [some (.inr (.inr (some 33))), some (.inl 8), some (.inr (.inr (some 2008))), some (.inl 4)]) (st' := [.inl 1]) (m' := m) (fun fx hfx o hk => ?_) ?_
              · refine r_sto (pc' := 65) (ls' := [some (.inr (.inr (some 33))), some (.inl 8), some (.inr (.inr (some 2008))), some (.inl 4)]) hM_19 d_19_62 rfl rfl ?_
                refine r_go (pc' := 33) hM_19 d_19_65 (by decide) ?_
                refine r_ld (pc' := 34) hM_19 d_19_33 rfl rfl ?_
                refine r_ld (pc' := 35) hM_19 d_19_34 rfl rfl ?_
                refine r_cl (pc' := 38) (c := (20, 0)) (a := [.inr (.inr (some 2008))]) (q := [.inl 4]) hM_19 d_19_35 rfl (by decide +kernel) hM_20 rfl rfl rfl (Nat.le_of_ble_eq_true rfl) (Nat.le_of_ble_eq_true rfl) (Or.inr rfl) (ok_rnk (sn_8 (m := m)) hfx) (Nat.le_of_ble_eq_true rfl) ?_
                show rn fx 4 (0, 0) 19 38 [some (.inr (.inr (some 33))), some (.inl 8), some (.inr (.inr (some 2008))), some (.inl 4)] [.inl 4, .inl 4] (st0 m) o
                refine r_ic (pc' := 68) (pc2 := 41) hM_19 d_19_38 (by decide) rfl (fun _ => ?_) (fun hc => absurd (show am_s 4 ≤ am_s 4 by decide) hc)
                refine r_k (pc' := 69) (v := .inl 1) hM_19 d_19_68 rfl rfl ?_
                exact hk
              exact ok_rt (fun fx _ => rt_z hM_19 d_19_69 rfl (by decide)) H
            · have H := H.2 hz10
              refine ok_sg (pc' := 61) (ls' := [some (.inr (.inr (some 33))), some (.inl 8), some (.inr (.inr (some 2008))), some (.inl 3)]) (st' := [.inl 0]) (m' := m) (fun fx hfx o hk => ?_) ?_
              · refine r_k (pc' := 61) (v := .inl 0) hM_19 d_19_60 rfl rfl ?_
                exact hk
              exact ok_rt (fun fx _ => rt_z hM_19 d_19_61 rfl (by decide)) H
          · have H := H.2 hz8
            refine ok_sg (pc' := 61) (ls' := [some (.inr (.inr (some 33))), some (.inl 8), some (.inr (.inr (some 2008))), some (.inl 2)]) (st' := [.inl 0]) (m' := m) (fun fx hfx o hk => ?_) ?_
            · refine r_k (pc' := 61) (v := .inl 0) hM_19 d_19_60 rfl rfl ?_
              exact hk
            exact ok_rt (fun fx _ => rt_z hM_19 d_19_61 rfl (by decide)) H
        · have H := H.2 hz6
          refine ok_sg (pc' := 61) (ls' := [some (.inr (.inr (some 33))), some (.inl 8), some (.inr (.inr (some 2008))), some (.inl 1)]) (st' := [.inl 0]) (m' := m) (fun fx hfx o hk => ?_) ?_
          · refine r_k (pc' := 61) (v := .inl 0) hM_19 d_19_60 rfl rfl ?_
            exact hk
          exact ok_rt (fun fx _ => rt_z hM_19 d_19_61 rfl (by decide)) H
      · have H := H.2 hz4
        refine ok_sg (pc' := 61) (ls' := [some (.inr (.inr (some 33))), some (.inl 8), some (.inr (.inr (some 2008))), some (.inl 0)]) (st' := [.inl 0]) (m' := m) (fun fx hfx o hk => ?_) ?_
        · refine r_k (pc' := 61) (v := .inl 0) hM_19 d_19_60 rfl rfl ?_
          exact hk
        exact ok_rt (fun fx _ => rt_z hM_19 d_19_61 rfl (by decide)) H
    · have H := H.2 hz2
      refine ok_sg (pc' := 30) (ls' := [some (.inr (.inr (some 33))), some (.inl 8), some (.inr (.inr (some 2008))), none]) (st' := [.inl 0]) (m' := m) (fun fx hfx o hk => ?_) ?_
      · refine r_k (pc' := 30) (v := .inl 0) hM_19 d_19_29 rfl rfl ?_
        exact hk
      exact ok_rt (fun fx _ => rt_z hM_19 d_19_30 rfl (by decide)) H
theorem zw_8 {m : am_M} (hq : RV m) : ok 4 19 0 (am_ent 4 [.inr (.inr (some 33)), .inl 8]) [] m (fun rr m' => rr = [.inl (if m 33 4 = 1 ∧ cwn m = 8 then 1 else 0)] ∧ m' = m) := by
  obtain ⟨⟨⟨w1, w3, w4⟩, hT⟩, ⟨w5, w6⟩, ⟨t0, t4⟩, -, -⟩ := hq
  obtain ⟨p, hp⟩ : ∃ p : Nat, m 33 5 = (p : Int) := ⟨(m 33 5).toNat, by omega⟩
  obtain ⟨b, hb⟩ : ∃ b : Nat, m 33 3 = (b : Int) := ⟨(m 33 3).toNat, by omega⟩
  have hcw : cwn m = wno (m 1) p b := by
    unfold cwn
    rw [hp, hb, Int.toNat_natCast, Int.toNat_natCast]
  have hi : cwn m = 8 ↔ spl (m 1) p b (wrd 8) = true := by
    rw [hcw]
    exact wno_iff (j := 8) (by decide)
  refine uw_8 ?_
  rw [hp] at w5 w6
  rw [hb] at w1 w3 w6
  rw [hp, hb, am_s_id (z := m 33 4) (by omega) (by omega)]
  refine ⟨fun qt => ⟨by rw [if_neg (fun zz => qt zz.1)], (by first | rfl | trivial)⟩, fun qt => ?_⟩
  rw [am_s_id (z := (b : Int) - (p : Int)) (by omega) (by omega), show am_s ((p : Int) + 0) = ((p + 0 : Nat) : Int) from am_s_id (by omega) (by omega), show am_s ((p : Int) + 1) = ((p + 1 : Nat) : Int) from am_s_id (by omega) (by omega), show am_s ((p : Int) + 2) = ((p + 2 : Nat) : Int) from am_s_id (by omega) (by omega), show am_s ((p : Int) + 3) = ((p + 3 : Nat) : Int) from am_s_id (by omega) (by omega)]
  simp only [Int.toNat_natCast]
  refine ⟨fun qn => ?_, fun qn => ⟨by rw [if_neg (fun zz => qn (by have h9 : b = p + 4 := (spl_t.mp (hi.mp zz.2)).1; omega))], (by first | rfl | trivial)⟩⟩
  have b0 : am_s (m 1 (p + 0)) = m 1 (p + 0) := am_s_id (by have := hT (p + 0) (by omega); omega) (by have := hT (p + 0) (by omega); omega)
  have b1 : am_s (m 1 (p + 1)) = m 1 (p + 1) := am_s_id (by have := hT (p + 1) (by omega); omega) (by have := hT (p + 1) (by omega); omega)
  have b2 : am_s (m 1 (p + 2)) = m 1 (p + 2) := am_s_id (by have := hT (p + 2) (by omega); omega) (by have := hT (p + 2) (by omega); omega)
  have b3 : am_s (m 1 (p + 3)) = m 1 (p + 3) := am_s_id (by have := hT (p + 3) (by omega); omega) (by have := hT (p + 3) (by omega); omega)
  rw [b0, b1, b2, b3]
  exact ⟨⟨by omega, by omega⟩, fun q0 => ⟨⟨by omega, by omega⟩, fun q1 => ⟨⟨by omega, by omega⟩, fun q2 => ⟨⟨by omega, by omega⟩, fun q3 => ⟨by rw [if_pos ⟨qt, hi.mpr (spl_t.mpr ⟨by show _ = _ + 4; omega, fun ix hix => by
    have hix : ix < 4 := hix
    have : ix = 0 ∨ ix = 1 ∨ ix = 2 ∨ ix = 3 := by omega
    rcases this with rfl | rfl | rfl | rfl
    · exact q0
    · exact q1
    · exact q2
    · exact q3⟩)⟩], (by first | rfl | trivial)⟩, fun q3 => ⟨by rw [if_neg (fun zz => q3 ((spl_t.mp (hi.mp zz.2)).2 3 (by decide)))], (by first | rfl | trivial)⟩⟩, fun q2 => ⟨by rw [if_neg (fun zz => q2 ((spl_t.mp (hi.mp zz.2)).2 2 (by decide)))], (by first | rfl | trivial)⟩⟩, fun q1 => ⟨by rw [if_neg (fun zz => q1 ((spl_t.mp (hi.mp zz.2)).2 1 (by decide)))], (by first | rfl | trivial)⟩⟩, fun q0 => ⟨by rw [if_neg (fun zz => q0 ((spl_t.mp (hi.mp zz.2)).2 0 (by decide)))], (by first | rfl | trivial)⟩⟩
theorem uw_9 {Q : List am_V → am_M → Prop} {m : am_M}   (H : ((¬ am_s (m 33 4) = 1) → Q [.inl 0] m) ∧ ((am_s (m 33 4) = 1) → ((am_s ((m 33 3) - (m 33 5)) = 3) → (0 ≤ am_s ((m 33 5) + 0) ∧ am_s ((m 33 5) + 0) < (900 : Nat)) ∧ (((am_s (m 1 ((am_s ((m 33 5) + 0)).toNat)) = 98) → (0 ≤ am_s ((m 33 5) + 1) ∧ am_s ((m 33 5) + 1) < (900 : Nat)) ∧ (((am_s (m 1 ((am_s ((m 33 5) + 1)).toNat)) = 97) → (0 ≤ am_s ((m 33 5) + 2) ∧ am_s ((m 33 5) + 2) < (900 : Nat)) ∧ (((am_s (m 1 ((am_s ((m 33 5) + 2)).toNat)) = 100) → Q [.inl 1] m) ∧ ((¬ (am_s (m 1 ((am_s ((m 33 5) + 2)).toNat)) = 100)) → Q [.inl 0] m))) ∧ ((¬ (am_s (m 1 ((am_s ((m 33 5) + 1)).toNat)) = 97)) → Q [.inl 0] m))) ∧ ((¬ (am_s (m 1 ((am_s ((m 33 5) + 0)).toNat)) = 98)) → Q [.inl 0] m))) ∧ ((¬ (am_s ((m 33 3) - (m 33 5)) = 3)) → Q [.inl 0] m))) : ok 4 19 0 [some (.inr (.inr (some 33))), some (.inl 9), none, none] [] m Q := by
  refine ok_sg (pc' := 10) (ls' := [some (.inr (.inr (some 33))), some (.inl 9), some (.inr (.inr (some 2009))), none]) (st' := [.inl 1, .inl (m 33 4)]) (m' := m) (fun fx hfx o hk => ?_) ?_
  · refine r_ld (pc' := 1) hM_19 d_19_0 rfl rfl ?_
    refine r_cl (pc' := 4) (c := (18, 2)) (a := [.inl 9]) (q := []) hM_19 d_19_1 rfl (by decide +kernel) hM_18 rfl rfl rfl (Nat.le_of_ble_eq_true rfl) (Nat.le_of_ble_eq_true rfl) (Or.inl rfl) (ok_rnk (sp_9 (m := m)) hfx) (Nat.le_of_ble_eq_true rfl) ?_
    show rn fx 4 (0, 0) 19 4 [some (.inr (.inr (some 33))), some (.inl 9), none, none] [.inr (.inr (some 2009))] (st0 m) o
    refine r_sto (pc' := 5) (ls' := [some (.inr (.inr (some 33))), some (.inl 9), some (.inr (.inr (some 2009))), none]) hM_19 d_19_4 rfl rfl ?_
    refine r_ld (pc' := 6) hM_19 d_19_5 rfl rfl ?_
    refine r_gI (pc' := 9) (k0 := 4) hM_19 d_19_6 rfl (by decide +kernel) ?_
    refine r_k (pc' := 10) (v := .inl 1) hM_19 d_19_9 rfl rfl ?_
    exact hk
  refine ok_ic (pc' := 29) (pc2 := 13) hM_19 d_19_10 (by decide) rfl (fun hz1 => ?_) (fun hz1 => ?_)
  · have H := H.1 hz1
    refine ok_sg (pc' := 30) (ls' := [some (.inr (.inr (some 33))), some (.inl 9), some (.inr (.inr (some 2009))), none]) (st' := [.inl 0]) (m' := m) (fun fx hfx o hk => ?_) ?_
    · refine r_k (pc' := 30) (v := .inl 0) hM_19 d_19_29 rfl rfl ?_
      exact hk
    exact ok_rt (fun fx _ => rt_z hM_19 d_19_30 rfl (by decide)) H
  · have H := H.2 (Decidable.not_not.mp hz1)
    refine ok_sg (pc' := 26) (ls' := [some (.inr (.inr (some 33))), some (.inl 9), some (.inr (.inr (some 2009))), none]) (st' := [.inl 3, .inl ((m 33 3) - (m 33 5))]) (m' := m) (fun fx hfx o hk => ?_) ?_
    · refine r_ld (pc' := 14) hM_19 d_19_13 rfl rfl ?_
      refine r_gI (pc' := 17) (k0 := 3) hM_19 d_19_14 rfl (by decide +kernel) ?_
      refine r_ld (pc' := 18) hM_19 d_19_17 rfl rfl ?_
      refine r_gI (pc' := 21) (k0 := 5) hM_19 d_19_18 rfl (by decide +kernel) ?_
      refine r_b (pc' := 22) (z := ((m 33 3) - (m 33 5))) hM_19 d_19_21 rfl rfl ?_
      refine r_ld (pc' := 23) hM_19 d_19_22 rfl rfl ?_
      refine r_cl (pc' := 26) (c := (20, 0)) (a := [.inr (.inr (some 2009))]) (q := [.inl ((m 33 3) - (m 33 5))]) hM_19 d_19_23 rfl (by decide +kernel) hM_20 rfl rfl rfl (Nat.le_of_ble_eq_true rfl) (Nat.le_of_ble_eq_true rfl) (Or.inr rfl) (ok_rnk (sn_9 (m := m)) hfx) (Nat.le_of_ble_eq_true rfl) ?_
      show rn fx 4 (0, 0) 19 26 [some (.inr (.inr (some 33))), some (.inl 9), some (.inr (.inr (some 2009))), none] [.inl 3, .inl ((m 33 3) - (m 33 5))] (st0 m) o
      exact hk
    refine ok_ic (pc' := 31) (pc2 := 29) hM_19 d_19_26 (by decide) rfl (fun hz2 => ?_) (fun hz2 => ?_)
    · have H := H.1 hz2
      obtain ⟨hz3, H⟩ := H
      refine ok_sg (pc' := 57) (ls' := [some (.inr (.inr (some 33))), some (.inl 9), some (.inr (.inr (some 2009))), some (.inl 0)]) (st' := [.inl 98, .inl (m 1 ((am_s ((m 33 5) + 0)).toNat))]) (m' := m) (fun fx hfx o hk => ?_) ?_
      · refine r_k (pc' := 32) (v := .inl 0) hM_19 d_19_31 rfl rfl ?_
        refine r_sto (pc' := 33) (ls' := [some (.inr (.inr (some 33))), some (.inl 9), some (.inr (.inr (some 2009))), some (.inl 0)]) hM_19 d_19_32 rfl rfl ?_
        refine r_ld (pc' := 34) hM_19 d_19_33 rfl rfl ?_
        refine r_ld (pc' := 35) hM_19 d_19_34 rfl rfl ?_
        refine r_cl (pc' := 38) (c := (20, 0)) (a := [.inr (.inr (some 2009))]) (q := [.inl 0]) hM_19 d_19_35 rfl (by decide +kernel) hM_20 rfl rfl rfl (Nat.le_of_ble_eq_true rfl) (Nat.le_of_ble_eq_true rfl) (Or.inr rfl) (ok_rnk (sn_9 (m := m)) hfx) (Nat.le_of_ble_eq_true rfl) ?_
        show rn fx 4 (0, 0) 19 38 [some (.inr (.inr (some 33))), some (.inl 9), some (.inr (.inr (some 2009))), some (.inl 0)] [.inl 3, .inl 0] (st0 m) o
        refine r_ic (pc' := 68) (pc2 := 41) hM_19 d_19_38 (by decide) rfl (fun hc => absurd hc (show ¬ (am_s 3 ≤ am_s 0) by decide)) (fun _ => ?_)
        refine r_ld (pc' := 42) hM_19 d_19_41 rfl rfl ?_
        refine r_gR (pc' := 45) (v := 1) hM_19 d_19_42 rfl (by decide +kernel) ?_
        refine r_ld (pc' := 46) hM_19 d_19_45 rfl rfl ?_
        refine r_gI (pc' := 49) (k0 := 5) hM_19 d_19_46 rfl (by decide +kernel) ?_
        refine r_ld (pc' := 50) hM_19 d_19_49 rfl rfl ?_
        refine r_b (pc' := 51) (z := ((m 33 5) + 0)) hM_19 d_19_50 rfl rfl ?_
        refine r_ba (pc' := 52) (n := 900) hM_19 d_19_51 rfl rfl (by decide) hz3 ?_
        refine r_ld (pc' := 53) hM_19 d_19_52 rfl rfl ?_
        refine r_ld (pc' := 54) hM_19 d_19_53 rfl rfl ?_
        refine r_cl (pc' := 57) (c := (22, 0)) (a := [.inr (.inr (some 2009)), .inl 0]) (q := [.inl (m 1 ((am_s ((m 33 5) + 0)).toNat))]) hM_19 d_19_54 rfl (by decide +kernel) hM_22 rfl rfl rfl (Nat.le_of_ble_eq_true rfl) (Nat.le_of_ble_eq_true rfl) (Or.inr rfl) (ok_rnk (sa_9_0 (m := m)) hfx) (Nat.le_of_ble_eq_true rfl) ?_
        show rn fx 4 (0, 0) 19 57 [some (.inr (.inr (some 33))), some (.inl 9), some (.inr (.inr (some 2009))), some (.inl 0)] [.inl 98, .inl (m 1 ((am_s ((m 33 5) + 0)).toNat))] (st0 m) o
        exact hk
      refine ok_ic (pc' := 62) (pc2 := 60) hM_19 d_19_57 (by decide) rfl (fun hz4 => ?_) (fun hz4 => ?_)
      · have H := H.1 hz4
        obtain ⟨hz5, H⟩ := H
        refine ok_sg (pc' := 57) (ls' := [some (.inr (.inr (some 33))), some (.inl 9), some (.inr (.inr (some 2009))), some (.inl 1)]) (st' := [.inl 97, .inl (m 1 ((am_s ((m 33 5) + 1)).toNat))]) (m' := m) (fun fx hfx o hk => ?_) ?_
        · refine r_sto (pc' := 65) (ls' := [some (.inr (.inr (some 33))), some (.inl 9), some (.inr (.inr (some 2009))), some (.inl 1)]) hM_19 d_19_62 rfl rfl ?_
          refine r_go (pc' := 33) hM_19 d_19_65 (by decide) ?_
          refine r_ld (pc' := 34) hM_19 d_19_33 rfl rfl ?_
          refine r_ld (pc' := 35) hM_19 d_19_34 rfl rfl ?_
          refine r_cl (pc' := 38) (c := (20, 0)) (a := [.inr (.inr (some 2009))]) (q := [.inl 1]) hM_19 d_19_35 rfl (by decide +kernel) hM_20 rfl rfl rfl (Nat.le_of_ble_eq_true rfl) (Nat.le_of_ble_eq_true rfl) (Or.inr rfl) (ok_rnk (sn_9 (m := m)) hfx) (Nat.le_of_ble_eq_true rfl) ?_
          show rn fx 4 (0, 0) 19 38 [some (.inr (.inr (some 33))), some (.inl 9), some (.inr (.inr (some 2009))), some (.inl 1)] [.inl 3, .inl 1] (st0 m) o
          refine r_ic (pc' := 68) (pc2 := 41) hM_19 d_19_38 (by decide) rfl (fun hc => absurd hc (show ¬ (am_s 3 ≤ am_s 1) by decide)) (fun _ => ?_)
          refine r_ld (pc' := 42) hM_19 d_19_41 rfl rfl ?_
          refine r_gR (pc' := 45) (v := 1) hM_19 d_19_42 rfl (by decide +kernel) ?_
          refine r_ld (pc' := 46) hM_19 d_19_45 rfl rfl ?_
          refine r_gI (pc' := 49) (k0 := 5) hM_19 d_19_46 rfl (by decide +kernel) ?_
          refine r_ld (pc' := 50) hM_19 d_19_49 rfl rfl ?_
          refine r_b (pc' := 51) (z := ((m 33 5) + 1)) hM_19 d_19_50 rfl rfl ?_
          refine r_ba (pc' := 52) (n := 900) hM_19 d_19_51 rfl rfl (by decide) hz5 ?_
          refine r_ld (pc' := 53) hM_19 d_19_52 rfl rfl ?_
          refine r_ld (pc' := 54) hM_19 d_19_53 rfl rfl ?_
          refine r_cl (pc' := 57) (c := (22, 0)) (a := [.inr (.inr (some 2009)), .inl 1]) (q := [.inl (m 1 ((am_s ((m 33 5) + 1)).toNat))]) hM_19 d_19_54 rfl (by decide +kernel) hM_22 rfl rfl rfl (Nat.le_of_ble_eq_true rfl) (Nat.le_of_ble_eq_true rfl) (Or.inr rfl) (ok_rnk (sa_9_1 (m := m)) hfx) (Nat.le_of_ble_eq_true rfl) ?_
          show rn fx 4 (0, 0) 19 57 [some (.inr (.inr (some 33))), some (.inl 9), some (.inr (.inr (some 2009))), some (.inl 1)] [.inl 97, .inl (m 1 ((am_s ((m 33 5) + 1)).toNat))] (st0 m) o
          exact hk
        refine ok_ic (pc' := 62) (pc2 := 60) hM_19 d_19_57 (by decide) rfl (fun hz6 => ?_) (fun hz6 => ?_)
        · have H := H.1 hz6
          obtain ⟨hz7, H⟩ := H
          refine ok_sg (pc' := 57) (ls' := [some (.inr (.inr (some 33))), some (.inl 9), some (.inr (.inr (some 2009))), some (.inl 2)]) (st' := [.inl 100, .inl (m 1 ((am_s ((m 33 5) + 2)).toNat))]) (m' := m) (fun fx hfx o hk => ?_) ?_
          · refine r_sto (pc' := 65) (ls' := [some (.inr (.inr (some 33))), some (.inl 9), some (.inr (.inr (some 2009))), some (.inl 2)]) hM_19 d_19_62 rfl rfl ?_
            refine r_go (pc' := 33) hM_19 d_19_65 (by decide) ?_
            refine r_ld (pc' := 34) hM_19 d_19_33 rfl rfl ?_
            refine r_ld (pc' := 35) hM_19 d_19_34 rfl rfl ?_
            refine r_cl (pc' := 38) (c := (20, 0)) (a := [.inr (.inr (some 2009))]) (q := [.inl 2]) hM_19 d_19_35 rfl (by decide +kernel) hM_20 rfl rfl rfl (Nat.le_of_ble_eq_true rfl) (Nat.le_of_ble_eq_true rfl) (Or.inr rfl) (ok_rnk (sn_9 (m := m)) hfx) (Nat.le_of_ble_eq_true rfl) ?_
            show rn fx 4 (0, 0) 19 38 [some (.inr (.inr (some 33))), some (.inl 9), some (.inr (.inr (some 2009))), some (.inl 2)] [.inl 3, .inl 2] (st0 m) o
            refine r_ic (pc' := 68) (pc2 := 41) hM_19 d_19_38 (by decide) rfl (fun hc => absurd hc (show ¬ (am_s 3 ≤ am_s 2) by decide)) (fun _ => ?_)
            refine r_ld (pc' := 42) hM_19 d_19_41 rfl rfl ?_
            refine r_gR (pc' := 45) (v := 1) hM_19 d_19_42 rfl (by decide +kernel) ?_
            refine r_ld (pc' := 46) hM_19 d_19_45 rfl rfl ?_
            refine r_gI (pc' := 49) (k0 := 5) hM_19 d_19_46 rfl (by decide +kernel) ?_
            refine r_ld (pc' := 50) hM_19 d_19_49 rfl rfl ?_
            refine r_b (pc' := 51) (z := ((m 33 5) + 2)) hM_19 d_19_50 rfl rfl ?_
            refine r_ba (pc' := 52) (n := 900) hM_19 d_19_51 rfl rfl (by decide) hz7 ?_
            refine r_ld (pc' := 53) hM_19 d_19_52 rfl rfl ?_
            refine r_ld (pc' := 54) hM_19 d_19_53 rfl rfl ?_
            refine r_cl (pc' := 57) (c := (22, 0)) (a := [.inr (.inr (some 2009)), .inl 2]) (q := [.inl (m 1 ((am_s ((m 33 5) + 2)).toNat))]) hM_19 d_19_54 rfl (by decide +kernel) hM_22 rfl rfl rfl (Nat.le_of_ble_eq_true rfl) (Nat.le_of_ble_eq_true rfl) (Or.inr rfl) (ok_rnk (sa_9_2 (m := m)) hfx) (Nat.le_of_ble_eq_true rfl) ?_
            show rn fx 4 (0, 0) 19 57 [some (.inr (.inr (some 33))), some (.inl 9), some (.inr (.inr (some 2009))), some (.inl 2)] [.inl 100, .inl (m 1 ((am_s ((m 33 5) + 2)).toNat))] (st0 m) o
            exact hk
          refine ok_ic (pc' := 62) (pc2 := 60) hM_19 d_19_57 (by decide) rfl (fun hz8 => ?_) (fun hz8 => ?_)
          · have H := H.1 hz8
            refine ok_sg (pc' := 69) (ls' := [some (.inr (.inr (some 33))), some (.inl 9), some (.inr (.inr (some 2009))), some (.inl 3)]) (st' := [.inl 1]) (m' := m) (fun fx hfx o hk => ?_) ?_
            · refine r_sto (pc' := 65) (ls' := [some (.inr (.inr (some 33))), some (.inl 9), some (.inr (.inr (some 2009))), some (.inl 3)]) hM_19 d_19_62 rfl rfl ?_
              refine r_go (pc' := 33) hM_19 d_19_65 (by decide) ?_
              refine r_ld (pc' := 34) hM_19 d_19_33 rfl rfl ?_
              refine r_ld (pc' := 35) hM_19 d_19_34 rfl rfl ?_
              refine r_cl (pc' := 38) (c := (20, 0)) (a := [.inr (.inr (some 2009))]) (q := [.inl 3]) hM_19 d_19_35 rfl (by decide +kernel) hM_20 rfl rfl rfl (Nat.le_of_ble_eq_true rfl) (Nat.le_of_ble_eq_true rfl) (Or.inr rfl) (ok_rnk (sn_9 (m := m)) hfx) (Nat.le_of_ble_eq_true rfl) ?_
              show rn fx 4 (0, 0) 19 38 [some (.inr (.inr (some 33))), some (.inl 9), some (.inr (.inr (some 2009))), some (.inl 3)] [.inl 3, .inl 3] (st0 m) o
              refine r_ic (pc' := 68) (pc2 := 41) hM_19 d_19_38 (by decide) rfl (fun _ => ?_) (fun hc => absurd (show am_s 3 ≤ am_s 3 by decide) hc)
              refine r_k (pc' := 69) (v := .inl 1) hM_19 d_19_68 rfl rfl ?_
              exact hk
            exact ok_rt (fun fx _ => rt_z hM_19 d_19_69 rfl (by decide)) H
          · have H := H.2 hz8
            refine ok_sg (pc' := 61) (ls' := [some (.inr (.inr (some 33))), some (.inl 9), some (.inr (.inr (some 2009))), some (.inl 2)]) (st' := [.inl 0]) (m' := m) (fun fx hfx o hk => ?_) ?_
            · refine r_k (pc' := 61) (v := .inl 0) hM_19 d_19_60 rfl rfl ?_
              exact hk
            exact ok_rt (fun fx _ => rt_z hM_19 d_19_61 rfl (by decide)) H
        · have H := H.2 hz6
          refine ok_sg (pc' := 61) (ls' := [some (.inr (.inr (some 33))), some (.inl 9), some (.inr (.inr (some 2009))), some (.inl 1)]) (st' := [.inl 0]) (m' := m) (fun fx hfx o hk => ?_) ?_
          · refine r_k (pc' := 61) (v := .inl 0) hM_19 d_19_60 rfl rfl ?_
            exact hk
          exact ok_rt (fun fx _ => rt_z hM_19 d_19_61 rfl (by decide)) H
      · have H := H.2 hz4
        refine ok_sg (pc' := 61) (ls' := [some (.inr (.inr (some 33))), some (.inl 9), some (.inr (.inr (some 2009))), some (.inl 0)]) (st' := [.inl 0]) (m' := m) (fun fx hfx o hk => ?_) ?_
        · refine r_k (pc' := 61) (v := .inl 0) hM_19 d_19_60 rfl rfl ?_
          exact hk
        exact ok_rt (fun fx _ => rt_z hM_19 d_19_61 rfl (by decide)) H
    · have H := H.2 hz2
      refine ok_sg (pc' := 30) (ls' := [some (.inr (.inr (some 33))), some (.inl 9), some (.inr (.inr (some 2009))), none]) (st' := [.inl 0]) (m' := m) (fun fx hfx o hk => ?_) ?_
      · refine r_k (pc' := 30) (v := .inl 0) hM_19 d_19_29 rfl rfl ?_
        exact hk
      exact ok_rt (fun fx _ => rt_z hM_19 d_19_30 rfl (by decide)) H
theorem zw_9 {m : am_M} (hq : RV m) : ok 4 19 0 (am_ent 4 [.inr (.inr (some 33)), .inl 9]) [] m (fun rr m' => rr = [.inl (if m 33 4 = 1 ∧ cwn m = 9 then 1 else 0)] ∧ m' = m) := by
  obtain ⟨⟨⟨w1, w3, w4⟩, hT⟩, ⟨w5, w6⟩, ⟨t0, t4⟩, -, -⟩ := hq
  obtain ⟨p, hp⟩ : ∃ p : Nat, m 33 5 = (p : Int) := ⟨(m 33 5).toNat, by omega⟩
  obtain ⟨b, hb⟩ : ∃ b : Nat, m 33 3 = (b : Int) := ⟨(m 33 3).toNat, by omega⟩
  have hcw : cwn m = wno (m 1) p b := by
    unfold cwn
    rw [hp, hb, Int.toNat_natCast, Int.toNat_natCast]
  have hi : cwn m = 9 ↔ spl (m 1) p b (wrd 9) = true := by
    rw [hcw]
    exact wno_iff (j := 9) (by decide)
  refine uw_9 ?_
  rw [hp] at w5 w6
  rw [hb] at w1 w3 w6
  rw [hp, hb, am_s_id (z := m 33 4) (by omega) (by omega)]
  refine ⟨fun qt => ⟨by rw [if_neg (fun zz => qt zz.1)], (by first | rfl | trivial)⟩, fun qt => ?_⟩
  rw [am_s_id (z := (b : Int) - (p : Int)) (by omega) (by omega), show am_s ((p : Int) + 0) = ((p + 0 : Nat) : Int) from am_s_id (by omega) (by omega), show am_s ((p : Int) + 1) = ((p + 1 : Nat) : Int) from am_s_id (by omega) (by omega), show am_s ((p : Int) + 2) = ((p + 2 : Nat) : Int) from am_s_id (by omega) (by omega)]
  simp only [Int.toNat_natCast]
  refine ⟨fun qn => ?_, fun qn => ⟨by rw [if_neg (fun zz => qn (by have h9 : b = p + 3 := (spl_t.mp (hi.mp zz.2)).1; omega))], (by first | rfl | trivial)⟩⟩
  have b0 : am_s (m 1 (p + 0)) = m 1 (p + 0) := am_s_id (by have := hT (p + 0) (by omega); omega) (by have := hT (p + 0) (by omega); omega)
  have b1 : am_s (m 1 (p + 1)) = m 1 (p + 1) := am_s_id (by have := hT (p + 1) (by omega); omega) (by have := hT (p + 1) (by omega); omega)
  have b2 : am_s (m 1 (p + 2)) = m 1 (p + 2) := am_s_id (by have := hT (p + 2) (by omega); omega) (by have := hT (p + 2) (by omega); omega)
  rw [b0, b1, b2]
  exact ⟨⟨by omega, by omega⟩, fun q0 => ⟨⟨by omega, by omega⟩, fun q1 => ⟨⟨by omega, by omega⟩, fun q2 => ⟨by rw [if_pos ⟨qt, hi.mpr (spl_t.mpr ⟨by show _ = _ + 3; omega, fun ix hix => by
    have hix : ix < 3 := hix
    have : ix = 0 ∨ ix = 1 ∨ ix = 2 := by omega
    rcases this with rfl | rfl | rfl
    · exact q0
    · exact q1
    · exact q2⟩)⟩], (by first | rfl | trivial)⟩, fun q2 => ⟨by rw [if_neg (fun zz => q2 ((spl_t.mp (hi.mp zz.2)).2 2 (by decide)))], (by first | rfl | trivial)⟩⟩, fun q1 => ⟨by rw [if_neg (fun zz => q1 ((spl_t.mp (hi.mp zz.2)).2 1 (by decide)))], (by first | rfl | trivial)⟩⟩, fun q0 => ⟨by rw [if_neg (fun zz => q0 ((spl_t.mp (hi.mp zz.2)).2 0 (by decide)))], (by first | rfl | trivial)⟩⟩
theorem uw_10 {Q : List am_V → am_M → Prop} {m : am_M}   (H : ((¬ am_s (m 33 4) = 1) → Q [.inl 0] m) ∧ ((am_s (m 33 4) = 1) → ((am_s ((m 33 3) - (m 33 5)) = 6) → (0 ≤ am_s ((m 33 5) + 0) ∧ am_s ((m 33 5) + 0) < (900 : Nat)) ∧ (((am_s (m 1 ((am_s ((m 33 5) + 0)).toNat)) = 115) → (0 ≤ am_s ((m 33 5) + 1) ∧ am_s ((m 33 5) + 1) < (900 : Nat)) ∧ (((am_s (m 1 ((am_s ((m 33 5) + 1)).toNat)) = 116) → (0 ≤ am_s ((m 33 5) + 2) ∧ am_s ((m 33 5) + 2) < (900 : Nat)) ∧ (((am_s (m 1 ((am_s ((m 33 5) + 2)).toNat)) = 111) → (0 ≤ am_s ((m 33 5) + 3) ∧ am_s ((m 33 5) + 3) < (900 : Nat)) ∧ (((am_s (m 1 ((am_s ((m 33 5) + 3)).toNat)) = 110) → (0 ≤ am_s ((m 33 5) + 4) ∧ am_s ((m 33 5) + 4) < (900 : Nat)) ∧ (((am_s (m 1 ((am_s ((m 33 5) + 4)).toNat)) = 101) → (0 ≤ am_s ((m 33 5) + 5) ∧ am_s ((m 33 5) + 5) < (900 : Nat)) ∧ (((am_s (m 1 ((am_s ((m 33 5) + 5)).toNat)) = 115) → Q [.inl 1] m) ∧ ((¬ (am_s (m 1 ((am_s ((m 33 5) + 5)).toNat)) = 115)) → Q [.inl 0] m))) ∧ ((¬ (am_s (m 1 ((am_s ((m 33 5) + 4)).toNat)) = 101)) → Q [.inl 0] m))) ∧ ((¬ (am_s (m 1 ((am_s ((m 33 5) + 3)).toNat)) = 110)) → Q [.inl 0] m))) ∧ ((¬ (am_s (m 1 ((am_s ((m 33 5) + 2)).toNat)) = 111)) → Q [.inl 0] m))) ∧ ((¬ (am_s (m 1 ((am_s ((m 33 5) + 1)).toNat)) = 116)) → Q [.inl 0] m))) ∧ ((¬ (am_s (m 1 ((am_s ((m 33 5) + 0)).toNat)) = 115)) → Q [.inl 0] m))) ∧ ((¬ (am_s ((m 33 3) - (m 33 5)) = 6)) → Q [.inl 0] m))) : ok 4 19 0 [some (.inr (.inr (some 33))), some (.inl 10), none, none] [] m Q := by
  refine ok_sg (pc' := 10) (ls' := [some (.inr (.inr (some 33))), some (.inl 10), some (.inr (.inr (some 2010))), none]) (st' := [.inl 1, .inl (m 33 4)]) (m' := m) (fun fx hfx o hk => ?_) ?_
  · refine r_ld (pc' := 1) hM_19 d_19_0 rfl rfl ?_
    refine r_cl (pc' := 4) (c := (18, 2)) (a := [.inl 10]) (q := []) hM_19 d_19_1 rfl (by decide +kernel) hM_18 rfl rfl rfl (Nat.le_of_ble_eq_true rfl) (Nat.le_of_ble_eq_true rfl) (Or.inl rfl) (ok_rnk (sp_10 (m := m)) hfx) (Nat.le_of_ble_eq_true rfl) ?_
    show rn fx 4 (0, 0) 19 4 [some (.inr (.inr (some 33))), some (.inl 10), none, none] [.inr (.inr (some 2010))] (st0 m) o
    refine r_sto (pc' := 5) (ls' := [some (.inr (.inr (some 33))), some (.inl 10), some (.inr (.inr (some 2010))), none]) hM_19 d_19_4 rfl rfl ?_
    refine r_ld (pc' := 6) hM_19 d_19_5 rfl rfl ?_
    refine r_gI (pc' := 9) (k0 := 4) hM_19 d_19_6 rfl (by decide +kernel) ?_
    refine r_k (pc' := 10) (v := .inl 1) hM_19 d_19_9 rfl rfl ?_
    exact hk
  refine ok_ic (pc' := 29) (pc2 := 13) hM_19 d_19_10 (by decide) rfl (fun hz1 => ?_) (fun hz1 => ?_)
  · have H := H.1 hz1
    refine ok_sg (pc' := 30) (ls' := [some (.inr (.inr (some 33))), some (.inl 10), some (.inr (.inr (some 2010))), none]) (st' := [.inl 0]) (m' := m) (fun fx hfx o hk => ?_) ?_
    · refine r_k (pc' := 30) (v := .inl 0) hM_19 d_19_29 rfl rfl ?_
      exact hk
    exact ok_rt (fun fx _ => rt_z hM_19 d_19_30 rfl (by decide)) H
  · have H := H.2 (Decidable.not_not.mp hz1)
    refine ok_sg (pc' := 26) (ls' := [some (.inr (.inr (some 33))), some (.inl 10), some (.inr (.inr (some 2010))), none]) (st' := [.inl 6, .inl ((m 33 3) - (m 33 5))]) (m' := m) (fun fx hfx o hk => ?_) ?_
    · refine r_ld (pc' := 14) hM_19 d_19_13 rfl rfl ?_
      refine r_gI (pc' := 17) (k0 := 3) hM_19 d_19_14 rfl (by decide +kernel) ?_
      refine r_ld (pc' := 18) hM_19 d_19_17 rfl rfl ?_
      refine r_gI (pc' := 21) (k0 := 5) hM_19 d_19_18 rfl (by decide +kernel) ?_
      refine r_b (pc' := 22) (z := ((m 33 3) - (m 33 5))) hM_19 d_19_21 rfl rfl ?_
      refine r_ld (pc' := 23) hM_19 d_19_22 rfl rfl ?_
      refine r_cl (pc' := 26) (c := (20, 0)) (a := [.inr (.inr (some 2010))]) (q := [.inl ((m 33 3) - (m 33 5))]) hM_19 d_19_23 rfl (by decide +kernel) hM_20 rfl rfl rfl (Nat.le_of_ble_eq_true rfl) (Nat.le_of_ble_eq_true rfl) (Or.inr rfl) (ok_rnk (sn_10 (m := m)) hfx) (Nat.le_of_ble_eq_true rfl) ?_
      show rn fx 4 (0, 0) 19 26 [some (.inr (.inr (some 33))), some (.inl 10), some (.inr (.inr (some 2010))), none] [.inl 6, .inl ((m 33 3) - (m 33 5))] (st0 m) o
      exact hk
    refine ok_ic (pc' := 31) (pc2 := 29) hM_19 d_19_26 (by decide) rfl (fun hz2 => ?_) (fun hz2 => ?_)
    · have H := H.1 hz2
      obtain ⟨hz3, H⟩ := H
      refine ok_sg (pc' := 57) (ls' := [some (.inr (.inr (some 33))), some (.inl 10), some (.inr (.inr (some 2010))), some (.inl 0)]) (st' := [.inl 115, .inl (m 1 ((am_s ((m 33 5) + 0)).toNat))]) (m' := m) (fun fx hfx o hk => ?_) ?_
      · refine r_k (pc' := 32) (v := .inl 0) hM_19 d_19_31 rfl rfl ?_
        refine r_sto (pc' := 33) (ls' := [some (.inr (.inr (some 33))), some (.inl 10), some (.inr (.inr (some 2010))), some (.inl 0)]) hM_19 d_19_32 rfl rfl ?_
        refine r_ld (pc' := 34) hM_19 d_19_33 rfl rfl ?_
        refine r_ld (pc' := 35) hM_19 d_19_34 rfl rfl ?_
        refine r_cl (pc' := 38) (c := (20, 0)) (a := [.inr (.inr (some 2010))]) (q := [.inl 0]) hM_19 d_19_35 rfl (by decide +kernel) hM_20 rfl rfl rfl (Nat.le_of_ble_eq_true rfl) (Nat.le_of_ble_eq_true rfl) (Or.inr rfl) (ok_rnk (sn_10 (m := m)) hfx) (Nat.le_of_ble_eq_true rfl) ?_
        show rn fx 4 (0, 0) 19 38 [some (.inr (.inr (some 33))), some (.inl 10), some (.inr (.inr (some 2010))), some (.inl 0)] [.inl 6, .inl 0] (st0 m) o
        refine r_ic (pc' := 68) (pc2 := 41) hM_19 d_19_38 (by decide) rfl (fun hc => absurd hc (show ¬ (am_s 6 ≤ am_s 0) by decide)) (fun _ => ?_)
        refine r_ld (pc' := 42) hM_19 d_19_41 rfl rfl ?_
        refine r_gR (pc' := 45) (v := 1) hM_19 d_19_42 rfl (by decide +kernel) ?_
        refine r_ld (pc' := 46) hM_19 d_19_45 rfl rfl ?_
        refine r_gI (pc' := 49) (k0 := 5) hM_19 d_19_46 rfl (by decide +kernel) ?_
        refine r_ld (pc' := 50) hM_19 d_19_49 rfl rfl ?_
        refine r_b (pc' := 51) (z := ((m 33 5) + 0)) hM_19 d_19_50 rfl rfl ?_
        refine r_ba (pc' := 52) (n := 900) hM_19 d_19_51 rfl rfl (by decide) hz3 ?_
        refine r_ld (pc' := 53) hM_19 d_19_52 rfl rfl ?_
        refine r_ld (pc' := 54) hM_19 d_19_53 rfl rfl ?_
        refine r_cl (pc' := 57) (c := (22, 0)) (a := [.inr (.inr (some 2010)), .inl 0]) (q := [.inl (m 1 ((am_s ((m 33 5) + 0)).toNat))]) hM_19 d_19_54 rfl (by decide +kernel) hM_22 rfl rfl rfl (Nat.le_of_ble_eq_true rfl) (Nat.le_of_ble_eq_true rfl) (Or.inr rfl) (ok_rnk (sa_10_0 (m := m)) hfx) (Nat.le_of_ble_eq_true rfl) ?_
        show rn fx 4 (0, 0) 19 57 [some (.inr (.inr (some 33))), some (.inl 10), some (.inr (.inr (some 2010))), some (.inl 0)] [.inl 115, .inl (m 1 ((am_s ((m 33 5) + 0)).toNat))] (st0 m) o
        exact hk
      refine ok_ic (pc' := 62) (pc2 := 60) hM_19 d_19_57 (by decide) rfl (fun hz4 => ?_) (fun hz4 => ?_)
      · have H := H.1 hz4
        obtain ⟨hz5, H⟩ := H
        refine ok_sg (pc' := 57) (ls' := [some (.inr (.inr (some 33))), some (.inl 10), some (.inr (.inr (some 2010))), some (.inl 1)]) (st' := [.inl 116, .inl (m 1 ((am_s ((m 33 5) + 1)).toNat))]) (m' := m) (fun fx hfx o hk => ?_) ?_
        · refine r_sto (pc' := 65) (ls' := [some (.inr (.inr (some 33))), some (.inl 10), some (.inr (.inr (some 2010))), some (.inl 1)]) hM_19 d_19_62 rfl rfl ?_
          refine r_go (pc' := 33) hM_19 d_19_65 (by decide) ?_
          refine r_ld (pc' := 34) hM_19 d_19_33 rfl rfl ?_
          refine r_ld (pc' := 35) hM_19 d_19_34 rfl rfl ?_
          refine r_cl (pc' := 38) (c := (20, 0)) (a := [.inr (.inr (some 2010))]) (q := [.inl 1]) hM_19 d_19_35 rfl (by decide +kernel) hM_20 rfl rfl rfl (Nat.le_of_ble_eq_true rfl) (Nat.le_of_ble_eq_true rfl) (Or.inr rfl) (ok_rnk (sn_10 (m := m)) hfx) (Nat.le_of_ble_eq_true rfl) ?_
          show rn fx 4 (0, 0) 19 38 [some (.inr (.inr (some 33))), some (.inl 10), some (.inr (.inr (some 2010))), some (.inl 1)] [.inl 6, .inl 1] (st0 m) o
          refine r_ic (pc' := 68) (pc2 := 41) hM_19 d_19_38 (by decide) rfl (fun hc => absurd hc (show ¬ (am_s 6 ≤ am_s 1) by decide)) (fun _ => ?_)
          refine r_ld (pc' := 42) hM_19 d_19_41 rfl rfl ?_
          refine r_gR (pc' := 45) (v := 1) hM_19 d_19_42 rfl (by decide +kernel) ?_
          refine r_ld (pc' := 46) hM_19 d_19_45 rfl rfl ?_
          refine r_gI (pc' := 49) (k0 := 5) hM_19 d_19_46 rfl (by decide +kernel) ?_
          refine r_ld (pc' := 50) hM_19 d_19_49 rfl rfl ?_
          refine r_b (pc' := 51) (z := ((m 33 5) + 1)) hM_19 d_19_50 rfl rfl ?_
          refine r_ba (pc' := 52) (n := 900) hM_19 d_19_51 rfl rfl (by decide) hz5 ?_
          refine r_ld (pc' := 53) hM_19 d_19_52 rfl rfl ?_
          refine r_ld (pc' := 54) hM_19 d_19_53 rfl rfl ?_
          refine r_cl (pc' := 57) (c := (22, 0)) (a := [.inr (.inr (some 2010)), .inl 1]) (q := [.inl (m 1 ((am_s ((m 33 5) + 1)).toNat))]) hM_19 d_19_54 rfl (by decide +kernel) hM_22 rfl rfl rfl (Nat.le_of_ble_eq_true rfl) (Nat.le_of_ble_eq_true rfl) (Or.inr rfl) (ok_rnk (sa_10_1 (m := m)) hfx) (Nat.le_of_ble_eq_true rfl) ?_
          show rn fx 4 (0, 0) 19 57 [some (.inr (.inr (some 33))), some (.inl 10), some (.inr (.inr (some 2010))), some (.inl 1)] [.inl 116, .inl (m 1 ((am_s ((m 33 5) + 1)).toNat))] (st0 m) o
          exact hk
        refine ok_ic (pc' := 62) (pc2 := 60) hM_19 d_19_57 (by decide) rfl (fun hz6 => ?_) (fun hz6 => ?_)
        · have H := H.1 hz6
          obtain ⟨hz7, H⟩ := H
          refine ok_sg (pc' := 57) (ls' := [some (.inr (.inr (some 33))), some (.inl 10), some (.inr (.inr (some 2010))), some (.inl 2)]) (st' := [.inl 111, .inl (m 1 ((am_s ((m 33 5) + 2)).toNat))]) (m' := m) (fun fx hfx o hk => ?_) ?_
          · refine r_sto (pc' := 65) (ls' := [some (.inr (.inr (some 33))), some (.inl 10), some (.inr (.inr (some 2010))), some (.inl 2)]) hM_19 d_19_62 rfl rfl ?_
            refine r_go (pc' := 33) hM_19 d_19_65 (by decide) ?_
            refine r_ld (pc' := 34) hM_19 d_19_33 rfl rfl ?_
            refine r_ld (pc' := 35) hM_19 d_19_34 rfl rfl ?_
            refine r_cl (pc' := 38) (c := (20, 0)) (a := [.inr (.inr (some 2010))]) (q := [.inl 2]) hM_19 d_19_35 rfl (by decide +kernel) hM_20 rfl rfl rfl (Nat.le_of_ble_eq_true rfl) (Nat.le_of_ble_eq_true rfl) (Or.inr rfl) (ok_rnk (sn_10 (m := m)) hfx) (Nat.le_of_ble_eq_true rfl) ?_
            show rn fx 4 (0, 0) 19 38 [some (.inr (.inr (some 33))), some (.inl 10), some (.inr (.inr (some 2010))), some (.inl 2)] [.inl 6, .inl 2] (st0 m) o
            refine r_ic (pc' := 68) (pc2 := 41) hM_19 d_19_38 (by decide) rfl (fun hc => absurd hc (show ¬ (am_s 6 ≤ am_s 2) by decide)) (fun _ => ?_)
            refine r_ld (pc' := 42) hM_19 d_19_41 rfl rfl ?_
            refine r_gR (pc' := 45) (v := 1) hM_19 d_19_42 rfl (by decide +kernel) ?_
            refine r_ld (pc' := 46) hM_19 d_19_45 rfl rfl ?_
            refine r_gI (pc' := 49) (k0 := 5) hM_19 d_19_46 rfl (by decide +kernel) ?_
            refine r_ld (pc' := 50) hM_19 d_19_49 rfl rfl ?_
            refine r_b (pc' := 51) (z := ((m 33 5) + 2)) hM_19 d_19_50 rfl rfl ?_
            refine r_ba (pc' := 52) (n := 900) hM_19 d_19_51 rfl rfl (by decide) hz7 ?_
            refine r_ld (pc' := 53) hM_19 d_19_52 rfl rfl ?_
            refine r_ld (pc' := 54) hM_19 d_19_53 rfl rfl ?_
            refine r_cl (pc' := 57) (c := (22, 0)) (a := [.inr (.inr (some 2010)), .inl 2]) (q := [.inl (m 1 ((am_s ((m 33 5) + 2)).toNat))]) hM_19 d_19_54 rfl (by decide +kernel) hM_22 rfl rfl rfl (Nat.le_of_ble_eq_true rfl) (Nat.le_of_ble_eq_true rfl) (Or.inr rfl) (ok_rnk (sa_10_2 (m := m)) hfx) (Nat.le_of_ble_eq_true rfl) ?_
            show rn fx 4 (0, 0) 19 57 [some (.inr (.inr (some 33))), some (.inl 10), some (.inr (.inr (some 2010))), some (.inl 2)] [.inl 111, .inl (m 1 ((am_s ((m 33 5) + 2)).toNat))] (st0 m) o
            exact hk
          refine ok_ic (pc' := 62) (pc2 := 60) hM_19 d_19_57 (by decide) rfl (fun hz8 => ?_) (fun hz8 => ?_)
          · have H := H.1 hz8
            obtain ⟨hz9, H⟩ := H
            refine ok_sg (pc' := 57) (ls' := [some (.inr (.inr (some 33))), some (.inl 10), some (.inr (.inr (some 2010))), some (.inl 3)]) (st' := [.inl 110, .inl (m 1 ((am_s ((m 33 5) + 3)).toNat))]) (m' := m) (fun fx hfx o hk => ?_) ?_
            · refine r_sto (pc' := 65) (ls' := [some (.inr (.inr (some 33))), some (.inl 10), some (.inr (.inr (some 2010))), some (.inl 3)]) hM_19 d_19_62 rfl rfl ?_
              refine r_go (pc' := 33) hM_19 d_19_65 (by decide) ?_
              refine r_ld (pc' := 34) hM_19 d_19_33 rfl rfl ?_
              refine r_ld (pc' := 35) hM_19 d_19_34 rfl rfl ?_
              refine r_cl (pc' := 38) (c := (20, 0)) (a := [.inr (.inr (some 2010))]) (q := [.inl 3]) hM_19 d_19_35 rfl (by decide +kernel) hM_20 rfl rfl rfl (Nat.le_of_ble_eq_true rfl) (Nat.le_of_ble_eq_true rfl) (Or.inr rfl) (ok_rnk (sn_10 (m := m)) hfx) (Nat.le_of_ble_eq_true rfl) ?_
              show rn fx 4 (0, 0) 19 38 [some (.inr (.inr (some 33))), some (.inl 10), some (.inr (.inr (some 2010))), some (.inl 3)] [.inl 6, .inl 3] (st0 m) o
              refine r_ic (pc' := 68) (pc2 := 41) hM_19 d_19_38 (by decide) rfl (fun hc => absurd hc (show ¬ (am_s 6 ≤ am_s 3) by decide)) (fun _ => ?_)
              refine r_ld (pc' := 42) hM_19 d_19_41 rfl rfl ?_
              refine r_gR (pc' := 45) (v := 1) hM_19 d_19_42 rfl (by decide +kernel) ?_
              refine r_ld (pc' := 46) hM_19 d_19_45 rfl rfl ?_
              refine r_gI (pc' := 49) (k0 := 5) hM_19 d_19_46 rfl (by decide +kernel) ?_
              refine r_ld (pc' := 50) hM_19 d_19_49 rfl rfl ?_
              refine r_b (pc' := 51) (z := ((m 33 5) + 3)) hM_19 d_19_50 rfl rfl ?_
              refine r_ba (pc' := 52) (n := 900) hM_19 d_19_51 rfl rfl (by decide) hz9 ?_
              refine r_ld (pc' := 53) hM_19 d_19_52 rfl rfl ?_
              refine r_ld (pc' := 54) hM_19 d_19_53 rfl rfl ?_
              refine r_cl (pc' := 57) (c := (22, 0)) (a := [.inr (.inr (some 2010)), .inl 3]) (q := [.inl (m 1 ((am_s ((m 33 5) + 3)).toNat))]) hM_19 d_19_54 rfl (by decide +kernel) hM_22 rfl rfl rfl (Nat.le_of_ble_eq_true rfl) (Nat.le_of_ble_eq_true rfl) (Or.inr rfl) (ok_rnk (sa_10_3 (m := m)) hfx) (Nat.le_of_ble_eq_true rfl) ?_
              show rn fx 4 (0, 0) 19 57 [some (.inr (.inr (some 33))), some (.inl 10), some (.inr (.inr (some 2010))), some (.inl 3)] [.inl 110, .inl (m 1 ((am_s ((m 33 5) + 3)).toNat))] (st0 m) o
              exact hk
            refine ok_ic (pc' := 62) (pc2 := 60) hM_19 d_19_57 (by decide) rfl (fun hz10 => ?_) (fun hz10 => ?_)
            · have H := H.1 hz10
              obtain ⟨hz11, H⟩ := H
              refine ok_sg (pc' := 57) (ls' := [some (.inr (.inr (some 33))), some (.inl 10), some (.inr (.inr (some 2010))), some (.inl 4)]) (st' := [.inl 101, .inl (m 1 ((am_s ((m 33 5) + 4)).toNat))]) (m' := m) (fun fx hfx o hk => ?_) ?_
              · refine r_sto (pc' := 65) (ls' := [some (.inr (.inr (some 33))), some (.inl 10), some (.inr (.inr (some 2010))), some (.inl 4)]) hM_19 d_19_62 rfl rfl ?_
                refine r_go (pc' := 33) hM_19 d_19_65 (by decide) ?_
                refine r_ld (pc' := 34) hM_19 d_19_33 rfl rfl ?_
                refine r_ld (pc' := 35) hM_19 d_19_34 rfl rfl ?_
                refine r_cl (pc' := 38) (c := (20, 0)) (a := [.inr (.inr (some 2010))]) (q := [.inl 4]) hM_19 d_19_35 rfl (by decide +kernel) hM_20 rfl rfl rfl (Nat.le_of_ble_eq_true rfl) (Nat.le_of_ble_eq_true rfl) (Or.inr rfl) (ok_rnk (sn_10 (m := m)) hfx) (Nat.le_of_ble_eq_true rfl) ?_
                show rn fx 4 (0, 0) 19 38 [some (.inr (.inr (some 33))), some (.inl 10), some (.inr (.inr (some 2010))), some (.inl 4)] [.inl 6, .inl 4] (st0 m) o
                refine r_ic (pc' := 68) (pc2 := 41) hM_19 d_19_38 (by decide) rfl (fun hc => absurd hc (show ¬ (am_s 6 ≤ am_s 4) by decide)) (fun _ => ?_)
                refine r_ld (pc' := 42) hM_19 d_19_41 rfl rfl ?_
                refine r_gR (pc' := 45) (v := 1) hM_19 d_19_42 rfl (by decide +kernel) ?_
                refine r_ld (pc' := 46) hM_19 d_19_45 rfl rfl ?_
                refine r_gI (pc' := 49) (k0 := 5) hM_19 d_19_46 rfl (by decide +kernel) ?_
                refine r_ld (pc' := 50) hM_19 d_19_49 rfl rfl ?_
                refine r_b (pc' := 51) (z := ((m 33 5) + 4)) hM_19 d_19_50 rfl rfl ?_
                refine r_ba (pc' := 52) (n := 900) hM_19 d_19_51 rfl rfl (by decide) hz11 ?_
                refine r_ld (pc' := 53) hM_19 d_19_52 rfl rfl ?_
                refine r_ld (pc' := 54) hM_19 d_19_53 rfl rfl ?_
                refine r_cl (pc' := 57) (c := (22, 0)) (a := [.inr (.inr (some 2010)), .inl 4]) (q := [.inl (m 1 ((am_s ((m 33 5) + 4)).toNat))]) hM_19 d_19_54 rfl (by decide +kernel) hM_22 rfl rfl rfl (Nat.le_of_ble_eq_true rfl) (Nat.le_of_ble_eq_true rfl) (Or.inr rfl) (ok_rnk (sa_10_4 (m := m)) hfx) (Nat.le_of_ble_eq_true rfl) ?_
                show rn fx 4 (0, 0) 19 57 [some (.inr (.inr (some 33))), some (.inl 10), some (.inr (.inr (some 2010))), some (.inl 4)] [.inl 101, .inl (m 1 ((am_s ((m 33 5) + 4)).toNat))] (st0 m) o
                exact hk
              refine ok_ic (pc' := 62) (pc2 := 60) hM_19 d_19_57 (by decide) rfl (fun hz12 => ?_) (fun hz12 => ?_)
              · have H := H.1 hz12
                obtain ⟨hz13, H⟩ := H
                refine ok_sg (pc' := 57) (ls' := [some (.inr (.inr (some 33))), some (.inl 10), some (.inr (.inr (some 2010))), some (.inl 5)]) (st' := [.inl 115, .inl (m 1 ((am_s ((m 33 5) + 5)).toNat))]) (m' := m) (fun fx hfx o hk => ?_) ?_
                · refine r_sto (pc' := 65) (ls' := [some (.inr (.inr (some 33))), some (.inl 10), some (.inr (.inr (some 2010))), some (.inl 5)]) hM_19 d_19_62 rfl rfl ?_
                  refine r_go (pc' := 33) hM_19 d_19_65 (by decide) ?_
                  refine r_ld (pc' := 34) hM_19 d_19_33 rfl rfl ?_
                  refine r_ld (pc' := 35) hM_19 d_19_34 rfl rfl ?_
                  refine r_cl (pc' := 38) (c := (20, 0)) (a := [.inr (.inr (some 2010))]) (q := [.inl 5]) hM_19 d_19_35 rfl (by decide +kernel) hM_20 rfl rfl rfl (Nat.le_of_ble_eq_true rfl) (Nat.le_of_ble_eq_true rfl) (Or.inr rfl) (ok_rnk (sn_10 (m := m)) hfx) (Nat.le_of_ble_eq_true rfl) ?_
                  show rn fx 4 (0, 0) 19 38 [some (.inr (.inr (some 33))), some (.inl 10), some (.inr (.inr (some 2010))), some (.inl 5)] [.inl 6, .inl 5] (st0 m) o
                  refine r_ic (pc' := 68) (pc2 := 41) hM_19 d_19_38 (by decide) rfl (fun hc => absurd hc (show ¬ (am_s 6 ≤ am_s 5) by decide)) (fun _ => ?_)
                  refine r_ld (pc' := 42) hM_19 d_19_41 rfl rfl ?_
                  refine r_gR (pc' := 45) (v := 1) hM_19 d_19_42 rfl (by decide +kernel) ?_
                  refine r_ld (pc' := 46) hM_19 d_19_45 rfl rfl ?_
                  refine r_gI (pc' := 49) (k0 := 5) hM_19 d_19_46 rfl (by decide +kernel) ?_
                  refine r_ld (pc' := 50) hM_19 d_19_49 rfl rfl ?_
                  refine r_b (pc' := 51) (z := ((m 33 5) + 5)) hM_19 d_19_50 rfl rfl ?_
                  refine r_ba (pc' := 52) (n := 900) hM_19 d_19_51 rfl rfl (by decide) hz13 ?_
                  refine r_ld (pc' := 53) hM_19 d_19_52 rfl rfl ?_
                  refine r_ld (pc' := 54) hM_19 d_19_53 rfl rfl ?_
                  refine r_cl (pc' := 57) (c := (22, 0)) (a := [.inr (.inr (some 2010)), .inl 5]) (q := [.inl (m 1 ((am_s ((m 33 5) + 5)).toNat))]) hM_19 d_19_54 rfl (by decide +kernel) hM_22 rfl rfl rfl (Nat.le_of_ble_eq_true rfl) (Nat.le_of_ble_eq_true rfl) (Or.inr rfl) (ok_rnk (sa_10_5 (m := m)) hfx) (Nat.le_of_ble_eq_true rfl) ?_
                  show rn fx 4 (0, 0) 19 57 [some (.inr (.inr (some 33))), some (.inl 10), some (.inr (.inr (some 2010))), some (.inl 5)] [.inl 115, .inl (m 1 ((am_s ((m 33 5) + 5)).toNat))] (st0 m) o
                  exact hk
                refine ok_ic (pc' := 62) (pc2 := 60) hM_19 d_19_57 (by decide) rfl (fun hz14 => ?_) (fun hz14 => ?_)
                · have H := H.1 hz14
                  refine ok_sg (pc' := 69) (ls' := [some (.inr (.inr (some 33))), some (.inl 10), some (.inr (.inr (some 2010))), some (.inl 6)]) (st' := [.inl 1]) (m' := m) (fun fx hfx o hk => ?_) ?_
                  · refine r_sto (pc' := 65) (ls' := [some (.inr (.inr (some 33))), some (.inl 10), some (.inr (.inr (some 2010))), some (.inl 6)]) hM_19 d_19_62 rfl rfl ?_
                    refine r_go (pc' := 33) hM_19 d_19_65 (by decide) ?_
                    refine r_ld (pc' := 34) hM_19 d_19_33 rfl rfl ?_
                    refine r_ld (pc' := 35) hM_19 d_19_34 rfl rfl ?_
                    refine r_cl (pc' := 38) (c := (20, 0)) (a := [.inr (.inr (some 2010))]) (q := [.inl 6]) hM_19 d_19_35 rfl (by decide +kernel) hM_20 rfl rfl rfl (Nat.le_of_ble_eq_true rfl) (Nat.le_of_ble_eq_true rfl) (Or.inr rfl) (ok_rnk (sn_10 (m := m)) hfx) (Nat.le_of_ble_eq_true rfl) ?_
                    show rn fx 4 (0, 0) 19 38 [some (.inr (.inr (some 33))), some (.inl 10), some (.inr (.inr (some 2010))), some (.inl 6)] [.inl 6, .inl 6] (st0 m) o
                    refine r_ic (pc' := 68) (pc2 := 41) hM_19 d_19_38 (by decide) rfl (fun _ => ?_) (fun hc => absurd (show am_s 6 ≤ am_s 6 by decide) hc)
                    refine r_k (pc' := 69) (v := .inl 1) hM_19 d_19_68 rfl rfl ?_
                    exact hk
                  exact ok_rt (fun fx _ => rt_z hM_19 d_19_69 rfl (by decide)) H
                · have H := H.2 hz14
                  refine ok_sg (pc' := 61) (ls' := [some (.inr (.inr (some 33))), some (.inl 10), some (.inr (.inr (some 2010))), some (.inl 5)]) (st' := [.inl 0]) (m' := m) (fun fx hfx o hk => ?_) ?_
                  · refine r_k (pc' := 61) (v := .inl 0) hM_19 d_19_60 rfl rfl ?_
                    exact hk
                  exact ok_rt (fun fx _ => rt_z hM_19 d_19_61 rfl (by decide)) H
              · have H := H.2 hz12
                refine ok_sg (pc' := 61) (ls' := [some (.inr (.inr (some 33))), some (.inl 10), some (.inr (.inr (some 2010))), some (.inl 4)]) (st' := [.inl 0]) (m' := m) (fun fx hfx o hk => ?_) ?_
                · refine r_k (pc' := 61) (v := .inl 0) hM_19 d_19_60 rfl rfl ?_
                  exact hk
                exact ok_rt (fun fx _ => rt_z hM_19 d_19_61 rfl (by decide)) H
            · have H := H.2 hz10
              refine ok_sg (pc' := 61) (ls' := [some (.inr (.inr (some 33))), some (.inl 10), some (.inr (.inr (some 2010))), some (.inl 3)]) (st' := [.inl 0]) (m' := m) (fun fx hfx o hk => ?_) ?_
              · refine r_k (pc' := 61) (v := .inl 0) hM_19 d_19_60 rfl rfl ?_
                exact hk
              exact ok_rt (fun fx _ => rt_z hM_19 d_19_61 rfl (by decide)) H
          · have H := H.2 hz8
            refine ok_sg (pc' := 61) (ls' := [some (.inr (.inr (some 33))), some (.inl 10), some (.inr (.inr (some 2010))), some (.inl 2)]) (st' := [.inl 0]) (m' := m) (fun fx hfx o hk => ?_) ?_
            · refine r_k (pc' := 61) (v := .inl 0) hM_19 d_19_60 rfl rfl ?_
              exact hk
            exact ok_rt (fun fx _ => rt_z hM_19 d_19_61 rfl (by decide)) H
        · have H := H.2 hz6
          refine ok_sg (pc' := 61) (ls' := [some (.inr (.inr (some 33))), some (.inl 10), some (.inr (.inr (some 2010))), some (.inl 1)]) (st' := [.inl 0]) (m' := m) (fun fx hfx o hk => ?_) ?_
          · refine r_k (pc' := 61) (v := .inl 0) hM_19 d_19_60 rfl rfl ?_
            exact hk
          exact ok_rt (fun fx _ => rt_z hM_19 d_19_61 rfl (by decide)) H
      · have H := H.2 hz4
        refine ok_sg (pc' := 61) (ls' := [some (.inr (.inr (some 33))), some (.inl 10), some (.inr (.inr (some 2010))), some (.inl 0)]) (st' := [.inl 0]) (m' := m) (fun fx hfx o hk => ?_) ?_
        · refine r_k (pc' := 61) (v := .inl 0) hM_19 d_19_60 rfl rfl ?_
          exact hk
        exact ok_rt (fun fx _ => rt_z hM_19 d_19_61 rfl (by decide)) H
    · have H := H.2 hz2
      refine ok_sg (pc' := 30) (ls' := [some (.inr (.inr (some 33))), some (.inl 10), some (.inr (.inr (some 2010))), none]) (st' := [.inl 0]) (m' := m) (fun fx hfx o hk => ?_) ?_
      · refine r_k (pc' := 30) (v := .inl 0) hM_19 d_19_29 rfl rfl ?_
        exact hk
      exact ok_rt (fun fx _ => rt_z hM_19 d_19_30 rfl (by decide)) H
theorem zw_10 {m : am_M} (hq : RV m) : ok 4 19 0 (am_ent 4 [.inr (.inr (some 33)), .inl 10]) [] m (fun rr m' => rr = [.inl (if m 33 4 = 1 ∧ cwn m = 10 then 1 else 0)] ∧ m' = m) := by
  obtain ⟨⟨⟨w1, w3, w4⟩, hT⟩, ⟨w5, w6⟩, ⟨t0, t4⟩, -, -⟩ := hq
  obtain ⟨p, hp⟩ : ∃ p : Nat, m 33 5 = (p : Int) := ⟨(m 33 5).toNat, by omega⟩
  obtain ⟨b, hb⟩ : ∃ b : Nat, m 33 3 = (b : Int) := ⟨(m 33 3).toNat, by omega⟩
  have hcw : cwn m = wno (m 1) p b := by
    unfold cwn
    rw [hp, hb, Int.toNat_natCast, Int.toNat_natCast]
  have hi : cwn m = 10 ↔ spl (m 1) p b (wrd 10) = true := by
    rw [hcw]
    exact wno_iff (j := 10) (by decide)
  refine uw_10 ?_
  rw [hp] at w5 w6
  rw [hb] at w1 w3 w6
  rw [hp, hb, am_s_id (z := m 33 4) (by omega) (by omega)]
  refine ⟨fun qt => ⟨by rw [if_neg (fun zz => qt zz.1)], (by first | rfl | trivial)⟩, fun qt => ?_⟩
  rw [am_s_id (z := (b : Int) - (p : Int)) (by omega) (by omega), show am_s ((p : Int) + 0) = ((p + 0 : Nat) : Int) from am_s_id (by omega) (by omega), show am_s ((p : Int) + 1) = ((p + 1 : Nat) : Int) from am_s_id (by omega) (by omega), show am_s ((p : Int) + 2) = ((p + 2 : Nat) : Int) from am_s_id (by omega) (by omega), show am_s ((p : Int) + 3) = ((p + 3 : Nat) : Int) from am_s_id (by omega) (by omega), show am_s ((p : Int) + 4) = ((p + 4 : Nat) : Int) from am_s_id (by omega) (by omega), show am_s ((p : Int) + 5) = ((p + 5 : Nat) : Int) from am_s_id (by omega) (by omega)]
  simp only [Int.toNat_natCast]
  refine ⟨fun qn => ?_, fun qn => ⟨by rw [if_neg (fun zz => qn (by have h9 : b = p + 6 := (spl_t.mp (hi.mp zz.2)).1; omega))], (by first | rfl | trivial)⟩⟩
  have b0 : am_s (m 1 (p + 0)) = m 1 (p + 0) := am_s_id (by have := hT (p + 0) (by omega); omega) (by have := hT (p + 0) (by omega); omega)
  have b1 : am_s (m 1 (p + 1)) = m 1 (p + 1) := am_s_id (by have := hT (p + 1) (by omega); omega) (by have := hT (p + 1) (by omega); omega)
  have b2 : am_s (m 1 (p + 2)) = m 1 (p + 2) := am_s_id (by have := hT (p + 2) (by omega); omega) (by have := hT (p + 2) (by omega); omega)
  have b3 : am_s (m 1 (p + 3)) = m 1 (p + 3) := am_s_id (by have := hT (p + 3) (by omega); omega) (by have := hT (p + 3) (by omega); omega)
  have b4 : am_s (m 1 (p + 4)) = m 1 (p + 4) := am_s_id (by have := hT (p + 4) (by omega); omega) (by have := hT (p + 4) (by omega); omega)
  have b5 : am_s (m 1 (p + 5)) = m 1 (p + 5) := am_s_id (by have := hT (p + 5) (by omega); omega) (by have := hT (p + 5) (by omega); omega)
  rw [b0, b1, b2, b3, b4, b5]
  exact ⟨⟨by omega, by omega⟩, fun q0 => ⟨⟨by omega, by omega⟩, fun q1 => ⟨⟨by omega, by omega⟩, fun q2 => ⟨⟨by omega, by omega⟩, fun q3 => ⟨⟨by omega, by omega⟩, fun q4 => ⟨⟨by omega, by omega⟩, fun q5 => ⟨by rw [if_pos ⟨qt, hi.mpr (spl_t.mpr ⟨by show _ = _ + 6; omega, fun ix hix => by
    have hix : ix < 6 := hix
    have : ix = 0 ∨ ix = 1 ∨ ix = 2 ∨ ix = 3 ∨ ix = 4 ∨ ix = 5 := by omega
    rcases this with rfl | rfl | rfl | rfl | rfl | rfl
    · exact q0
    · exact q1
    · exact q2
    · exact q3
    · exact q4
    · exact q5⟩)⟩], (by first | rfl | trivial)⟩, fun q5 => ⟨by rw [if_neg (fun zz => q5 ((spl_t.mp (hi.mp zz.2)).2 5 (by decide)))], (by first | rfl | trivial)⟩⟩, fun q4 => ⟨by rw [if_neg (fun zz => q4 ((spl_t.mp (hi.mp zz.2)).2 4 (by decide)))], (by first | rfl | trivial)⟩⟩, fun q3 => ⟨by rw [if_neg (fun zz => q3 ((spl_t.mp (hi.mp zz.2)).2 3 (by decide)))], (by first | rfl | trivial)⟩⟩, fun q2 => ⟨by rw [if_neg (fun zz => q2 ((spl_t.mp (hi.mp zz.2)).2 2 (by decide)))], (by first | rfl | trivial)⟩⟩, fun q1 => ⟨by rw [if_neg (fun zz => q1 ((spl_t.mp (hi.mp zz.2)).2 1 (by decide)))], (by first | rfl | trivial)⟩⟩, fun q0 => ⟨by rw [if_neg (fun zz => q0 ((spl_t.mp (hi.mp zz.2)).2 0 (by decide)))], (by first | rfl | trivial)⟩⟩
theorem zi_19 {m : am_M} {w : Int} (hq : RV m ∧ (0 : Int) ≤ w ∧ w ≤ (10 : Int)) : ok 4 19 0 (am_ent 4 [.inr (.inr (some 33)), .inl w]) [] m (fun rr m' => rr = [.inl (if m 33 4 = 1 ∧ cwn m = w then 1 else 0)] ∧ m' = m) := by
  obtain ⟨hR, h0, h1⟩ := hq
  have hc : w = 0 ∨ w = 1 ∨ w = 2 ∨ w = 3 ∨ w = 4 ∨ w = 5 ∨ w = 6 ∨ w = 7 ∨ w = 8 ∨ w = 9 ∨ w = 10 := by omega
  rcases hc with rfl | rfl | rfl | rfl | rfl | rfl | rfl | rfl | rfl | rfl | rfl
  · exact zw_0 hR
  · exact zw_1 hR
  · exact zw_2 hR
  · exact zw_3 hR
  · exact zw_4 hR
  · exact zw_5 hR
  · exact zw_6 hR
  · exact zw_7 hR
  · exact zw_8 hR
  · exact zw_9 hR
  · exact zw_10 hR
theorem u_259_0 {Q : List am_V → am_M → Prop} {m : am_M}   (H : (RV m ∧ (0 : Int) ≤ 0 ∧ 0 ≤ (10 : Int)) ∧ (((¬ (m 33 4 = 1 ∧ cwn m = 0)) → (RV m ∧ (0 : Int) ≤ 1 ∧ 1 ≤ (10 : Int)) ∧ (((¬ (m 33 4 = 1 ∧ cwn m = 1)) → (RV m ∧ (0 : Int) ≤ 2 ∧ 2 ≤ (10 : Int)) ∧ (((¬ (m 33 4 = 1 ∧ cwn m = 2)) → (RV m ∧ (0 : Int) ≤ 3 ∧ 3 ≤ (10 : Int)) ∧ (((¬ (m 33 4 = 1 ∧ cwn m = 3)) → (RV m ∧ (0 : Int) ≤ 4 ∧ 4 ≤ (10 : Int)) ∧ (((¬ (m 33 4 = 1 ∧ cwn m = 4)) → (RV m ∧ (0 : Int) ≤ 5 ∧ 5 ≤ (10 : Int)) ∧ (((¬ (m 33 4 = 1 ∧ cwn m = 5)) → (RV m ∧ (0 : Int) ≤ 6 ∧ 6 ≤ (10 : Int)) ∧ (((¬ (m 33 4 = 1 ∧ cwn m = 6)) → Q [.inl (-1)] m) ∧ ((m 33 4 = 1 ∧ cwn m = 6) → Q [.inl 6] m))) ∧ ((m 33 4 = 1 ∧ cwn m = 5) → Q [.inl 5] m))) ∧ ((m 33 4 = 1 ∧ cwn m = 4) → Q [.inl 4] m))) ∧ ((m 33 4 = 1 ∧ cwn m = 3) → Q [.inl 3] m))) ∧ ((m 33 4 = 1 ∧ cwn m = 2) → Q [.inl 2] m))) ∧ ((m 33 4 = 1 ∧ cwn m = 1) → Q [.inl 1] m))) ∧ ((m 33 4 = 1 ∧ cwn m = 0) → Q [.inl 0] m))) : ok 5 259 0 [some (.inr (.inr (some 33))), none] [] m Q := by
  obtain ⟨hz1, H⟩ := H
  refine ok_sg (pc' := 13) (ls' := [some (.inr (.inr (some 33))), some (.inl 0)]) (st' := [.inl (if m 33 4 = 1 ∧ cwn m = 0 then 1 else 0)]) (m' := m) (fun fx hfx o hk => ?_) ?_
  · refine r_k (pc' := 1) (v := .inl 0) hM_259 d_259_0 rfl rfl ?_
    refine r_sto (pc' := 2) (ls' := [some (.inr (.inr (some 33))), some (.inl 0)]) hM_259 d_259_1 rfl rfl ?_
    refine r_ld (pc' := 3) hM_259 d_259_2 rfl rfl ?_
    refine r_k (pc' := 5) (v := .inl 6) hM_259 d_259_3 rfl rfl ?_
    refine r_ic (pc' := 24) (pc2 := 8) hM_259 d_259_5 (by decide) rfl (fun hc => absurd hc (show ¬ (am_s 6 < am_s 0) by decide)) (fun _ => ?_)
    refine r_ld (pc' := 9) hM_259 d_259_8 rfl rfl ?_
    refine r_ld (pc' := 10) hM_259 d_259_9 rfl rfl ?_
    refine r_cl (pc' := 13) (c := (19, 0)) (a := [.inr (.inr (some 33)), .inl 0]) (q := []) hM_259 d_259_10 rfl (by decide +kernel) hM_19 rfl rfl rfl (Nat.le_of_ble_eq_true rfl) (Nat.le_of_ble_eq_true rfl) (Or.inr rfl) (ok_rnk (zi_19 (m := m) (w := 0) hz1) hfx) (Nat.le_of_ble_eq_true rfl) ?_
    show rn fx 5 (0, 0) 259 13 [some (.inr (.inr (some 33))), some (.inl 0)] [.inl (if m 33 4 = 1 ∧ cwn m = 0 then 1 else 0)] (st0 m) o
    exact hk
  refine ok_if (pc' := 18) (pc2 := 16) hM_259 d_259_13 (by decide) rfl (fun hz2 => ?_) (fun hz2 => ?_)
  · have H := H.1 (as_ite.mp hz2)
    obtain ⟨hz3, H⟩ := H
    refine ok_sg (pc' := 13) (ls' := [some (.inr (.inr (some 33))), some (.inl 1)]) (st' := [.inl (if m 33 4 = 1 ∧ cwn m = 1 then 1 else 0)]) (m' := m) (fun fx hfx o hk => ?_) ?_
    · refine r_sto (pc' := 21) (ls' := [some (.inr (.inr (some 33))), some (.inl 1)]) hM_259 d_259_18 rfl rfl ?_
      refine r_go (pc' := 2) hM_259 d_259_21 (by decide) ?_
      refine r_ld (pc' := 3) hM_259 d_259_2 rfl rfl ?_
      refine r_k (pc' := 5) (v := .inl 6) hM_259 d_259_3 rfl rfl ?_
      refine r_ic (pc' := 24) (pc2 := 8) hM_259 d_259_5 (by decide) rfl (fun hc => absurd hc (show ¬ (am_s 6 < am_s 1) by decide)) (fun _ => ?_)
      refine r_ld (pc' := 9) hM_259 d_259_8 rfl rfl ?_
      refine r_ld (pc' := 10) hM_259 d_259_9 rfl rfl ?_
      refine r_cl (pc' := 13) (c := (19, 0)) (a := [.inr (.inr (some 33)), .inl 1]) (q := []) hM_259 d_259_10 rfl (by decide +kernel) hM_19 rfl rfl rfl (Nat.le_of_ble_eq_true rfl) (Nat.le_of_ble_eq_true rfl) (Or.inr rfl) (ok_rnk (zi_19 (m := m) (w := 1) hz3) hfx) (Nat.le_of_ble_eq_true rfl) ?_
      show rn fx 5 (0, 0) 259 13 [some (.inr (.inr (some 33))), some (.inl 1)] [.inl (if m 33 4 = 1 ∧ cwn m = 1 then 1 else 0)] (st0 m) o
      exact hk
    refine ok_if (pc' := 18) (pc2 := 16) hM_259 d_259_13 (by decide) rfl (fun hz4 => ?_) (fun hz4 => ?_)
    · have H := H.1 (as_ite.mp hz4)
      obtain ⟨hz5, H⟩ := H
      refine ok_sg (pc' := 13) (ls' := [some (.inr (.inr (some 33))), some (.inl 2)]) (st' := [.inl (if m 33 4 = 1 ∧ cwn m = 2 then 1 else 0)]) (m' := m) (fun fx hfx o hk => ?_) ?_
      · refine r_sto (pc' := 21) (ls' := [some (.inr (.inr (some 33))), some (.inl 2)]) hM_259 d_259_18 rfl rfl ?_
        refine r_go (pc' := 2) hM_259 d_259_21 (by decide) ?_
        refine r_ld (pc' := 3) hM_259 d_259_2 rfl rfl ?_
        refine r_k (pc' := 5) (v := .inl 6) hM_259 d_259_3 rfl rfl ?_
        refine r_ic (pc' := 24) (pc2 := 8) hM_259 d_259_5 (by decide) rfl (fun hc => absurd hc (show ¬ (am_s 6 < am_s 2) by decide)) (fun _ => ?_)
        refine r_ld (pc' := 9) hM_259 d_259_8 rfl rfl ?_
        refine r_ld (pc' := 10) hM_259 d_259_9 rfl rfl ?_
        refine r_cl (pc' := 13) (c := (19, 0)) (a := [.inr (.inr (some 33)), .inl 2]) (q := []) hM_259 d_259_10 rfl (by decide +kernel) hM_19 rfl rfl rfl (Nat.le_of_ble_eq_true rfl) (Nat.le_of_ble_eq_true rfl) (Or.inr rfl) (ok_rnk (zi_19 (m := m) (w := 2) hz5) hfx) (Nat.le_of_ble_eq_true rfl) ?_
        show rn fx 5 (0, 0) 259 13 [some (.inr (.inr (some 33))), some (.inl 2)] [.inl (if m 33 4 = 1 ∧ cwn m = 2 then 1 else 0)] (st0 m) o
        exact hk
      refine ok_if (pc' := 18) (pc2 := 16) hM_259 d_259_13 (by decide) rfl (fun hz6 => ?_) (fun hz6 => ?_)
      · have H := H.1 (as_ite.mp hz6)
        obtain ⟨hz7, H⟩ := H
        refine ok_sg (pc' := 13) (ls' := [some (.inr (.inr (some 33))), some (.inl 3)]) (st' := [.inl (if m 33 4 = 1 ∧ cwn m = 3 then 1 else 0)]) (m' := m) (fun fx hfx o hk => ?_) ?_
        · refine r_sto (pc' := 21) (ls' := [some (.inr (.inr (some 33))), some (.inl 3)]) hM_259 d_259_18 rfl rfl ?_
          refine r_go (pc' := 2) hM_259 d_259_21 (by decide) ?_
          refine r_ld (pc' := 3) hM_259 d_259_2 rfl rfl ?_
          refine r_k (pc' := 5) (v := .inl 6) hM_259 d_259_3 rfl rfl ?_
          refine r_ic (pc' := 24) (pc2 := 8) hM_259 d_259_5 (by decide) rfl (fun hc => absurd hc (show ¬ (am_s 6 < am_s 3) by decide)) (fun _ => ?_)
          refine r_ld (pc' := 9) hM_259 d_259_8 rfl rfl ?_
          refine r_ld (pc' := 10) hM_259 d_259_9 rfl rfl ?_
          refine r_cl (pc' := 13) (c := (19, 0)) (a := [.inr (.inr (some 33)), .inl 3]) (q := []) hM_259 d_259_10 rfl (by decide +kernel) hM_19 rfl rfl rfl (Nat.le_of_ble_eq_true rfl) (Nat.le_of_ble_eq_true rfl) (Or.inr rfl) (ok_rnk (zi_19 (m := m) (w := 3) hz7) hfx) (Nat.le_of_ble_eq_true rfl) ?_
          show rn fx 5 (0, 0) 259 13 [some (.inr (.inr (some 33))), some (.inl 3)] [.inl (if m 33 4 = 1 ∧ cwn m = 3 then 1 else 0)] (st0 m) o
          exact hk
        refine ok_if (pc' := 18) (pc2 := 16) hM_259 d_259_13 (by decide) rfl (fun hz8 => ?_) (fun hz8 => ?_)
        · have H := H.1 (as_ite.mp hz8)
          obtain ⟨hz9, H⟩ := H
          refine ok_sg (pc' := 13) (ls' := [some (.inr (.inr (some 33))), some (.inl 4)]) (st' := [.inl (if m 33 4 = 1 ∧ cwn m = 4 then 1 else 0)]) (m' := m) (fun fx hfx o hk => ?_) ?_
          · refine r_sto (pc' := 21) (ls' := [some (.inr (.inr (some 33))), some (.inl 4)]) hM_259 d_259_18 rfl rfl ?_
            refine r_go (pc' := 2) hM_259 d_259_21 (by decide) ?_
            refine r_ld (pc' := 3) hM_259 d_259_2 rfl rfl ?_
            refine r_k (pc' := 5) (v := .inl 6) hM_259 d_259_3 rfl rfl ?_
            refine r_ic (pc' := 24) (pc2 := 8) hM_259 d_259_5 (by decide) rfl (fun hc => absurd hc (show ¬ (am_s 6 < am_s 4) by decide)) (fun _ => ?_)
            refine r_ld (pc' := 9) hM_259 d_259_8 rfl rfl ?_
            refine r_ld (pc' := 10) hM_259 d_259_9 rfl rfl ?_
            refine r_cl (pc' := 13) (c := (19, 0)) (a := [.inr (.inr (some 33)), .inl 4]) (q := []) hM_259 d_259_10 rfl (by decide +kernel) hM_19 rfl rfl rfl (Nat.le_of_ble_eq_true rfl) (Nat.le_of_ble_eq_true rfl) (Or.inr rfl) (ok_rnk (zi_19 (m := m) (w := 4) hz9) hfx) (Nat.le_of_ble_eq_true rfl) ?_
            show rn fx 5 (0, 0) 259 13 [some (.inr (.inr (some 33))), some (.inl 4)] [.inl (if m 33 4 = 1 ∧ cwn m = 4 then 1 else 0)] (st0 m) o
            exact hk
          refine ok_if (pc' := 18) (pc2 := 16) hM_259 d_259_13 (by decide) rfl (fun hz10 => ?_) (fun hz10 => ?_)
          · have H := H.1 (as_ite.mp hz10)
            obtain ⟨hz11, H⟩ := H
            refine ok_sg (pc' := 13) (ls' := [some (.inr (.inr (some 33))), some (.inl 5)]) (st' := [.inl (if m 33 4 = 1 ∧ cwn m = 5 then 1 else 0)]) (m' := m) (fun fx hfx o hk => ?_) ?_
            · refine r_sto (pc' := 21) (ls' := [some (.inr (.inr (some 33))), some (.inl 5)]) hM_259 d_259_18 rfl rfl ?_
              refine r_go (pc' := 2) hM_259 d_259_21 (by decide) ?_
              refine r_ld (pc' := 3) hM_259 d_259_2 rfl rfl ?_
              refine r_k (pc' := 5) (v := .inl 6) hM_259 d_259_3 rfl rfl ?_
              refine r_ic (pc' := 24) (pc2 := 8) hM_259 d_259_5 (by decide) rfl (fun hc => absurd hc (show ¬ (am_s 6 < am_s 5) by decide)) (fun _ => ?_)
              refine r_ld (pc' := 9) hM_259 d_259_8 rfl rfl ?_
              refine r_ld (pc' := 10) hM_259 d_259_9 rfl rfl ?_
              refine r_cl (pc' := 13) (c := (19, 0)) (a := [.inr (.inr (some 33)), .inl 5]) (q := []) hM_259 d_259_10 rfl (by decide +kernel) hM_19 rfl rfl rfl (Nat.le_of_ble_eq_true rfl) (Nat.le_of_ble_eq_true rfl) (Or.inr rfl) (ok_rnk (zi_19 (m := m) (w := 5) hz11) hfx) (Nat.le_of_ble_eq_true rfl) ?_
              show rn fx 5 (0, 0) 259 13 [some (.inr (.inr (some 33))), some (.inl 5)] [.inl (if m 33 4 = 1 ∧ cwn m = 5 then 1 else 0)] (st0 m) o
              exact hk
            refine ok_if (pc' := 18) (pc2 := 16) hM_259 d_259_13 (by decide) rfl (fun hz12 => ?_) (fun hz12 => ?_)
            · have H := H.1 (as_ite.mp hz12)
              obtain ⟨hz13, H⟩ := H
              refine ok_sg (pc' := 13) (ls' := [some (.inr (.inr (some 33))), some (.inl 6)]) (st' := [.inl (if m 33 4 = 1 ∧ cwn m = 6 then 1 else 0)]) (m' := m) (fun fx hfx o hk => ?_) ?_
              · refine r_sto (pc' := 21) (ls' := [some (.inr (.inr (some 33))), some (.inl 6)]) hM_259 d_259_18 rfl rfl ?_
                refine r_go (pc' := 2) hM_259 d_259_21 (by decide) ?_
                refine r_ld (pc' := 3) hM_259 d_259_2 rfl rfl ?_
                refine r_k (pc' := 5) (v := .inl 6) hM_259 d_259_3 rfl rfl ?_
                refine r_ic (pc' := 24) (pc2 := 8) hM_259 d_259_5 (by decide) rfl (fun hc => absurd hc (show ¬ (am_s 6 < am_s 6) by decide)) (fun _ => ?_)
                refine r_ld (pc' := 9) hM_259 d_259_8 rfl rfl ?_
                refine r_ld (pc' := 10) hM_259 d_259_9 rfl rfl ?_
                refine r_cl (pc' := 13) (c := (19, 0)) (a := [.inr (.inr (some 33)), .inl 6]) (q := []) hM_259 d_259_10 rfl (by decide +kernel) hM_19 rfl rfl rfl (Nat.le_of_ble_eq_true rfl) (Nat.le_of_ble_eq_true rfl) (Or.inr rfl) (ok_rnk (zi_19 (m := m) (w := 6) hz13) hfx) (Nat.le_of_ble_eq_true rfl) ?_
                show rn fx 5 (0, 0) 259 13 [some (.inr (.inr (some 33))), some (.inl 6)] [.inl (if m 33 4 = 1 ∧ cwn m = 6 then 1 else 0)] (st0 m) o
                exact hk
              refine ok_if (pc' := 18) (pc2 := 16) hM_259 d_259_13 (by decide) rfl (fun hz14 => ?_) (fun hz14 => ?_)
              · have H := H.1 (as_ite.mp hz14)
                refine ok_sg (pc' := 25) (ls' := [some (.inr (.inr (some 33))), some (.inl 7)]) (st' := [.inl (-1)]) (m' := m) (fun fx hfx o hk => ?_) ?_
                · refine r_sto (pc' := 21) (ls' := [some (.inr (.inr (some 33))), some (.inl 7)]) hM_259 d_259_18 rfl rfl ?_
                  refine r_go (pc' := 2) hM_259 d_259_21 (by decide) ?_
                  refine r_ld (pc' := 3) hM_259 d_259_2 rfl rfl ?_
                  refine r_k (pc' := 5) (v := .inl 6) hM_259 d_259_3 rfl rfl ?_
                  refine r_ic (pc' := 24) (pc2 := 8) hM_259 d_259_5 (by decide) rfl (fun _ => ?_) (fun hc => absurd (show am_s 6 < am_s 7 by decide) hc)
                  refine r_k (pc' := 25) (v := .inl (-1)) hM_259 d_259_24 rfl rfl ?_
                  exact hk
                exact ok_rt (fun fx _ => rt_i hM_259 d_259_25 rfl) H
              · have H := H.2 (as_iteN.mp hz14)
                refine ok_sg (pc' := 17) (ls' := [some (.inr (.inr (some 33))), some (.inl 6)]) (st' := [.inl 6]) (m' := m) (fun fx hfx o hk => ?_) ?_
                · refine r_ld (pc' := 17) hM_259 d_259_16 rfl rfl ?_
                  exact hk
                exact ok_rt (fun fx _ => rt_i hM_259 d_259_17 rfl) H
            · have H := H.2 (as_iteN.mp hz12)
              refine ok_sg (pc' := 17) (ls' := [some (.inr (.inr (some 33))), some (.inl 5)]) (st' := [.inl 5]) (m' := m) (fun fx hfx o hk => ?_) ?_
              · refine r_ld (pc' := 17) hM_259 d_259_16 rfl rfl ?_
                exact hk
              exact ok_rt (fun fx _ => rt_i hM_259 d_259_17 rfl) H
          · have H := H.2 (as_iteN.mp hz10)
            refine ok_sg (pc' := 17) (ls' := [some (.inr (.inr (some 33))), some (.inl 4)]) (st' := [.inl 4]) (m' := m) (fun fx hfx o hk => ?_) ?_
            · refine r_ld (pc' := 17) hM_259 d_259_16 rfl rfl ?_
              exact hk
            exact ok_rt (fun fx _ => rt_i hM_259 d_259_17 rfl) H
        · have H := H.2 (as_iteN.mp hz8)
          refine ok_sg (pc' := 17) (ls' := [some (.inr (.inr (some 33))), some (.inl 3)]) (st' := [.inl 3]) (m' := m) (fun fx hfx o hk => ?_) ?_
          · refine r_ld (pc' := 17) hM_259 d_259_16 rfl rfl ?_
            exact hk
          exact ok_rt (fun fx _ => rt_i hM_259 d_259_17 rfl) H
      · have H := H.2 (as_iteN.mp hz6)
        refine ok_sg (pc' := 17) (ls' := [some (.inr (.inr (some 33))), some (.inl 2)]) (st' := [.inl 2]) (m' := m) (fun fx hfx o hk => ?_) ?_
        · refine r_ld (pc' := 17) hM_259 d_259_16 rfl rfl ?_
          exact hk
        exact ok_rt (fun fx _ => rt_i hM_259 d_259_17 rfl) H
    · have H := H.2 (as_iteN.mp hz4)
      refine ok_sg (pc' := 17) (ls' := [some (.inr (.inr (some 33))), some (.inl 1)]) (st' := [.inl 1]) (m' := m) (fun fx hfx o hk => ?_) ?_
      · refine r_ld (pc' := 17) hM_259 d_259_16 rfl rfl ?_
        exact hk
      exact ok_rt (fun fx _ => rt_i hM_259 d_259_17 rfl) H
  · have H := H.2 (as_iteN.mp hz2)
    refine ok_sg (pc' := 17) (ls' := [some (.inr (.inr (some 33))), some (.inl 0)]) (st' := [.inl 0]) (m' := m) (fun fx hfx o hk => ?_) ?_
    · refine r_ld (pc' := 17) hM_259 d_259_16 rfl rfl ?_
      exact hk
    exact ok_rt (fun fx _ => rt_i hM_259 d_259_17 rfl) H
theorem z_259   (m : am_M)  (hq : RV m) : ok 5 259 0 (am_ent 2 [.inr (.inr (some 33))]) [] m (fun rr m' => ∃ v' : Int, rr = [.inl (v')] ∧ v' = (if m 33 4 = 1 ∧ 0 ≤ cwn m ∧ cwn m ≤ 6 then cwn m else -1) ∧ m' = m) := by
  show ok 5 259 0 [some (.inr (.inr (some 33))), none] [] m _
  exact u_259_0 ⟨⟨hq, by decide, by decide⟩, fun n0 => ⟨⟨hq, by decide, by decide⟩, fun n1 => ⟨⟨hq, by decide, by decide⟩, fun n2 => ⟨⟨hq, by decide, by decide⟩, fun n3 => ⟨⟨hq, by decide, by decide⟩, fun n4 => ⟨⟨hq, by decide, by decide⟩, fun n5 => ⟨⟨hq, by decide, by decide⟩, fun n6 => ⟨_, rfl, by rw [if_neg (fun zz => by omega)], (by first | rfl | trivial)⟩, fun y6 => ⟨_, rfl, by rw [if_pos ⟨y6.1, by omega, by omega⟩, y6.2], (by first | rfl | trivial)⟩⟩, fun y5 => ⟨_, rfl, by rw [if_pos ⟨y5.1, by omega, by omega⟩, y5.2], (by first | rfl | trivial)⟩⟩, fun y4 => ⟨_, rfl, by rw [if_pos ⟨y4.1, by omega, by omega⟩, y4.2], (by first | rfl | trivial)⟩⟩, fun y3 => ⟨_, rfl, by rw [if_pos ⟨y3.1, by omega, by omega⟩, y3.2], (by first | rfl | trivial)⟩⟩, fun y2 => ⟨_, rfl, by rw [if_pos ⟨y2.1, by omega, by omega⟩, y2.2], (by first | rfl | trivial)⟩⟩, fun y1 => ⟨_, rfl, by rw [if_pos ⟨y1.1, by omega, by omega⟩, y1.2], (by first | rfl | trivial)⟩⟩, fun y0 => ⟨_, rfl, by rw [if_pos ⟨y0.1, by omega, by omega⟩, y0.2], (by first | rfl | trivial)⟩⟩
