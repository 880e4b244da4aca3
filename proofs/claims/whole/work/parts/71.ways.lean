theorem t_101_0 {fx : am_X0} {o : List am_V × am_S} {m : am_M} {p : Int} {s : Int}  (H : (0 ≤ am_s ((p * 8) + (v_87 m s p)) ∧ am_s ((p * 8) + (v_87 m s p)) < (96 : Nat)) ∧ (o = ([.inl (m 35 ((am_s ((p * 8) + (v_87 m s p))).toNat))], st0 m))) : rn fx 1 (0, 0) 101 0 [some (.inr (.inr (some 34))), some (.inl p), some (.inl s)] [] (st0 m) o := by
  refine r_ld (pc' := 1) hM_101 d_101_0 rfl rfl ?_
  refine r_gR (pc' := 4) (v := 35) hM_101 d_101_1 rfl (by decide +kernel) ?_
  refine r_ld (pc' := 5) hM_101 d_101_4 rfl rfl ?_
  refine r_k (pc' := 7) (v := .inl 8) hM_101 d_101_5 rfl rfl ?_
  refine r_b (pc' := 8) (z := (p * 8)) hM_101 d_101_7 rfl rfl ?_
  refine r_ld (pc' := 9) hM_101 d_101_8 rfl rfl ?_
  refine r_ld (pc' := 10) hM_101 d_101_9 rfl rfl ?_
  refine r_cl (pc' := 13) (c := (87, 2)) (a := [.inl s, .inl p]) (q := [.inl (p * 8), .inr (.inr (some 35))]) hM_101 d_101_10 rfl (by decide +kernel) hM_87 rfl rfl rfl (Nat.le_of_ble_eq_true rfl) (Nat.le_of_ble_eq_true rfl) (Or.inl rfl) (c_87  m s p) (Nat.le_of_ble_eq_true rfl) ?_
  show rn fx 1 (0, 0) 101 13 [some (.inr (.inr (some 34))), some (.inl p), some (.inl s)] [.inl (v_87 m s p), .inl (p * 8), .inr (.inr (some 35))] (st0 m) o
  refine r_b (pc' := 14) (z := ((p * 8) + (v_87 m s p))) hM_101 d_101_13 rfl rfl ?_
  obtain ⟨hz1, H⟩ := H
  refine r_ia (pc' := 15) (n := 96) hM_101 d_101_14 rfl rfl hz1 ?_
  subst H
  exact rt_i hM_101 d_101_15 rfl
def v_101 (m : am_M) (p : Int) (s : Int) : Int := (m 35 ((am_s ((p * 8) + (v_87 m s p))).toNat))
def q_101 (m : am_M) (p : Int) (s : Int) : Prop := (0 ≤ am_s ((p * 8) + (v_87 m s p)) ∧ am_s ((p * 8) + (v_87 m s p)) < (96 : Nat))
/-- HeardBarrels$Ears.toneBy -/
theorem c_101 {fx : am_X0}   (m : am_M) (p : Int) (s : Int) (hq : q_101 m p s) : rn fx 1 (0, 0) 101 0 (am_ent 3 [.inr (.inr (some 34)), .inl p, .inl s]) [] (st0 m) ([.inl (v_101 m p s)], st0 m) := by
  unfold q_101 at hq
  show rn fx 1 (0, 0) 101 0 [some (.inr (.inr (some 34))), some (.inl p), some (.inl s)] [] (st0 m) _
  refine t_101_0  ?_
  have hb0_0 := hq
  refine ⟨hb0_0, ?_⟩
  simp only [v_101]
theorem v87e {m : am_M} {p s : Int} (hp : 0 ≤ p ∧ p < 12) (hs : 0 ≤ s ∧ s < 8192) : v_87 m s p = ((tri s.toNat p.toNat : Nat) : Int) := by
  obtain ⟨S, rfl⟩ : ∃ S : Nat, s = (S : Int) := ⟨s.toNat, by omega⟩
  obtain ⟨P, rfl⟩ : ∃ P : Nat, p = (P : Int) := ⟨p.toNat, by omega⟩
  exact am_tri P (by omega) S (by omega)
theorem q_101_ok (m : am_M) (p s : Int) (hq : (0 ≤ p ∧ p < 12) ∧ 0 ≤ s ∧ s < 8192) : q_101 m p s := by
  have hl := tri_lt s.toNat p.toNat
  unfold q_101
  rw [v87e hq.1 hq.2, am_s_id (by omega) (by omega)]
  omega
theorem v_101_ok (m : am_M) (p s : Int) (hq : (0 ≤ p ∧ p < 12) ∧ 0 ≤ s ∧ s < 8192) : v_101 m p s = m 35 (8 * p.toNat + tri s.toNat p.toNat) := by
  have hl := tri_lt s.toNat p.toNat
  unfold v_101
  rw [v87e hq.1 hq.2, am_s_id (by omega) (by omega)]
  congr 1
  omega
theorem n_101 {fx : am_X0}   (m : am_M) (p : Int) (s : Int) (hq : (0 ≤ p ∧ p < 12) ∧ 0 ≤ s ∧ s < 8192) : rn fx 1 (0, 0) 101 0 (am_ent 3 [.inr (.inr (some 34)), .inl p, .inl s]) [] (st0 m) ([.inl ((m 35 (8 * p.toNat + tri s.toNat p.toNat)))], st0 m) := by
  have h := c_101 (fx := fx)  m p s (q_101_ok  m p s hq)
  rw [v_101_ok  m p s hq] at h
  exact h
def wyq (g : Nat → Int) (p : Nat) (v : Int) : Nat → Bool := fun t => decide (sb (may g) t) && decide (hrd g p t = v)
theorem wyq_sb {g : Nat → Int} {p : Nat} {v : Int} {t : Nat} (h : wyq g p v t = true) : sb (may g) t := by
  unfold wyq at h
  rw [Bool.and_eq_true] at h
  exact of_decide_eq_true h.1
theorem wyq_t {g : Nat → Int} {p : Nat} {v : Int} {t : Nat} : wyq g p v t = true ↔ sb (may g) t ∧ hrd g p t = v := by
  unfold wyq
  rw [Bool.and_eq_true, decide_eq_true_eq, decide_eq_true_eq]
def tnt (g : Nat → Int) (p t : Nat) : Int := if g (8 + p) ≠ 3 then hrd g p (tlay t p) else -1000
theorem tnt_tri {g : Nat → Int} {p s : Nat} : tnt g p (tri s p) = if g (8 + p) ≠ 3 then hrd g p s else -1000 := by
  unfold tnt
  rw [hrd_tri]
theorem tnt_s {g : Nat → Int} {p t : Nat} (h : WFG g) (hp : p < 12) : am_s (tnt g p t) = tnt g p t := by
  unfold tnt
  split
  · exact hrd_s h hp
  · rfl
theorem tnt_eq {g : Nat → Int} {p s t : Nat} : tnt g p (tri t p) = tnt g p (tri s p) ↔ (g (8 + p) = 3 ∨ hrd g p t = hrd g p s) := by
  rw [tnt_tri, tnt_tri]
  by_cases h : g (8 + p) = 3
  · rw [if_neg (not_not_intro h), if_neg (not_not_intro h)]
    exact ⟨fun _ => Or.inl h, fun _ => rfl⟩
  · rw [if_pos h, if_pos h]
    exact ⟨fun q => Or.inr q, fun q => q.elim (fun k => absurd k h) id⟩
def lkb (g : Nat → Int) (s t : Nat) : Nat → Bool
  | 0 => true
  | p + 1 => lkb g s t p && decide (g (8 + p) = 3 ∨ hrd g p t = hrd g p s)
theorem lkb_s {g : Nat → Int} {s t p : Nat} : lkb g s t (p + 1) = (lkb g s t p && decide (g (8 + p) = 3 ∨ hrd g p t = hrd g p s)) := rfl
/-- the places where two sets are heard otherwise -/
def unl (g : Nat → Int) (a b n : Nat) : Nat := msk (fun p => if g (8 + p) = 3 ∨ hrd g p a = hrd g p b then 1 else 0) 0 n
theorem unl_s {g : Nat → Int} {a b n : Nat} : unl g a b (n + 1) = if g (8 + n) = 3 ∨ hrd g n a = hrd g n b then unl g a b n else unl g a b n + 2 ^ n := by
  unfold unl
  rw [msk_s]
  by_cases h : g (8 + n) = 3 ∨ hrd g n a = hrd g n b
  · rw [if_pos h, if_neg (by decide), if_pos h]
  · rw [if_neg h, if_pos rfl, if_neg h]
theorem unl_lt (g : Nat → Int) (a b n : Nat) : unl g a b n < 2 ^ n := msk_lt _ _ n
theorem unl_bit {g : Nat → Int} {a b n i : Nat} : (unl g a b n).testBit i = (decide (i < n) && decide (¬ (g (8 + i) = 3 ∨ hrd g i a = hrd g i b))) := by
  unfold unl
  rw [msk_bit]
  congr 1
  apply decide_eq_decide.mpr
  by_cases h : g (8 + i) = 3 ∨ hrd g i a = hrd g i b
  · rw [if_pos h]
    exact ⟨fun q => absurd q (by decide), fun q => absurd h q⟩
  · rw [if_neg h]
    exact ⟨fun _ => h, fun _ => rfl⟩
theorem unl_0 {g : Nat → Int} {a b : Nat} : ∀ n, unl g a b n = 0 ↔ lkb g a b n = true := by
  intro n
  induction n with
  | zero => exact ⟨fun _ => rfl, fun _ => rfl⟩
  | succ n ih =>
    rw [unl_s, lkb_s, Bool.and_eq_true, decide_eq_true_eq, ← ih]
    by_cases h : g (8 + n) = 3 ∨ hrd g n a = hrd g n b
    · rw [if_pos h]
      exact ⟨fun q => ⟨q, h.imp id Eq.symm⟩, fun q => q.1⟩
    · rw [if_neg h]
      have := Nat.two_pow_pos n
      exact ⟨fun q => by omega, fun q => absurd (q.2.imp id Eq.symm) h⟩
def lkq (g : Nat → Int) (s : Nat) : Nat → Bool := fun t => decide (sb (may g) t) && lkb g s t (g 0).toNat
theorem u_100_12 {Q : List am_V → am_M → Prop} {m : am_M} {p : Int} {v : Int} {x : Int} {s : Int} {i : Int}  (H : ((am_s (m 34 10) ≤ am_s i) → Q [.inl x] m) ∧ ((¬ (am_s (m 34 10) ≤ am_s i)) → ((0 ≤ p ∧ p < 12) ∧ 0 ≤ s ∧ s < 8192) ∧ (((¬ am_s ((m 35 (8 * p.toNat + tri s.toNat p.toNat))) = am_s v) → ok 4 100 12 [some (.inr (.inr (some 34))), some (.inl p), some (.inl v), some (.inl x), some (.inl (v_88 m s)), some (.inl (i + 1))] [] m Q) ∧ ((am_s ((m 35 (8 * p.toNat + tri s.toNat p.toNat))) = am_s v) → ok 4 100 12 [some (.inr (.inr (some 34))), some (.inl p), some (.inl v), some (.inl (x + 1)), some (.inl (v_88 m s)), some (.inl (i + 1))] [] m Q)))) : ok 4 100 12 [some (.inr (.inr (some 34))), some (.inl p), some (.inl v), some (.inl x), some (.inl s), some (.inl i)] [] m Q := by
  refine ok_sg (pc' := 18) (ls' := [some (.inr (.inr (some 34))), some (.inl p), some (.inl v), some (.inl x), some (.inl s), some (.inl i)]) (st' := [.inl (m 34 10), .inl i]) (m' := m) (fun fx hfx o hk => ?_) ?_
  · refine r_ld (pc' := 14) hM_100 d_100_12 rfl rfl ?_
    refine r_ld (pc' := 15) hM_100 d_100_14 rfl rfl ?_
    refine r_gI (pc' := 18) (k0 := 10) hM_100 d_100_15 rfl (by decide +kernel) ?_
    exact hk
  refine ok_ic (pc' := 49) (pc2 := 21) hM_100 d_100_18 (by decide) rfl (fun hz1 => ?_) (fun hz1 => ?_)
  · have H := H.1 hz1
    refine ok_sg (pc' := 50) (ls' := [some (.inr (.inr (some 34))), some (.inl p), some (.inl v), some (.inl x), some (.inl s), some (.inl i)]) (st' := [.inl x]) (m' := m) (fun fx hfx o hk => ?_) ?_
    · refine r_ld (pc' := 50) hM_100 d_100_49 rfl rfl ?_
      exact hk
    exact ok_rt (fun fx _ => rt_i hM_100 d_100_50 rfl) H
  · have H := H.2 hz1
    obtain ⟨hz2, H⟩ := H
    refine ok_sg (pc' := 29) (ls' := [some (.inr (.inr (some 34))), some (.inl p), some (.inl v), some (.inl x), some (.inl s), some (.inl i)]) (st' := [.inl v, .inl ((m 35 (8 * p.toNat + tri s.toNat p.toNat)))]) (m' := m) (fun fx hfx o hk => ?_) ?_
    · refine r_ld (pc' := 22) hM_100 d_100_21 rfl rfl ?_
      refine r_ld (pc' := 23) hM_100 d_100_22 rfl rfl ?_
      refine r_ld (pc' := 25) hM_100 d_100_23 rfl rfl ?_
      refine r_cl (pc' := 28) (c := (101, 0)) (a := [.inr (.inr (some 34)), .inl p, .inl s]) (q := []) hM_100 d_100_25 rfl (by decide +kernel) hM_101 rfl rfl rfl (Nat.le_of_ble_eq_true rfl) (Nat.le_of_ble_eq_true rfl) (Or.inr rfl) (n_101  m p s hz2) (Nat.le_of_ble_eq_true rfl) ?_
      show rn fx 4 (0, 0) 100 28 [some (.inr (.inr (some 34))), some (.inl p), some (.inl v), some (.inl x), some (.inl s), some (.inl i)] [.inl ((m 35 (8 * p.toNat + tri s.toNat p.toNat)))] (st0 m) o
      refine r_ld (pc' := 29) hM_100 d_100_28 rfl rfl ?_
      exact hk
    refine ok_ic (pc' := 35) (pc2 := 32) hM_100 d_100_29 (by decide) rfl (fun hz3 => ?_) (fun hz3 => ?_)
    · have H := H.1 hz3
      refine ok_sg (pc' := 12) (ls' := [some (.inr (.inr (some 34))), some (.inl p), some (.inl v), some (.inl x), some (.inl (v_88 m s)), some (.inl (i + 1))]) (st' := []) (m' := m) (fun fx hfx o hk => ?_) ?_
      · refine r_ld (pc' := 36) hM_100 d_100_35 rfl rfl ?_
        refine r_ld (pc' := 38) hM_100 d_100_36 rfl rfl ?_
        refine r_cl (pc' := 41) (c := (88, 0)) (a := [.inr (.inr (some 34)), .inl s]) (q := []) hM_100 d_100_38 rfl (by decide +kernel) hM_88 rfl rfl rfl (Nat.le_of_ble_eq_true rfl) (Nat.le_of_ble_eq_true rfl) (Or.inr rfl) (c_88  m s) (Nat.le_of_ble_eq_true rfl) ?_
        show rn fx 4 (0, 0) 100 41 [some (.inr (.inr (some 34))), some (.inl p), some (.inl v), some (.inl x), some (.inl s), some (.inl i)] [.inl (v_88 m s)] (st0 m) o
        refine r_sto (pc' := 43) (ls' := [some (.inr (.inr (some 34))), some (.inl p), some (.inl v), some (.inl x), some (.inl (v_88 m s)), some (.inl i)]) hM_100 d_100_41 rfl rfl ?_
        refine r_sto (pc' := 46) (ls' := [some (.inr (.inr (some 34))), some (.inl p), some (.inl v), some (.inl x), some (.inl (v_88 m s)), some (.inl (i + 1))]) hM_100 d_100_43 rfl rfl ?_
        refine r_go (pc' := 12) hM_100 d_100_46 (by decide) ?_
        exact hk
      exact H
    · have H := H.2 (Decidable.not_not.mp hz3)
      refine ok_sg (pc' := 12) (ls' := [some (.inr (.inr (some 34))), some (.inl p), some (.inl v), some (.inl (x + 1)), some (.inl (v_88 m s)), some (.inl (i + 1))]) (st' := []) (m' := m) (fun fx hfx o hk => ?_) ?_
      · refine r_sto (pc' := 35) (ls' := [some (.inr (.inr (some 34))), some (.inl p), some (.inl v), some (.inl (x + 1)), some (.inl s), some (.inl i)]) hM_100 d_100_32 rfl rfl ?_
        refine r_ld (pc' := 36) hM_100 d_100_35 rfl rfl ?_
        refine r_ld (pc' := 38) hM_100 d_100_36 rfl rfl ?_
        refine r_cl (pc' := 41) (c := (88, 0)) (a := [.inr (.inr (some 34)), .inl s]) (q := []) hM_100 d_100_38 rfl (by decide +kernel) hM_88 rfl rfl rfl (Nat.le_of_ble_eq_true rfl) (Nat.le_of_ble_eq_true rfl) (Or.inr rfl) (c_88  m s) (Nat.le_of_ble_eq_true rfl) ?_
        show rn fx 4 (0, 0) 100 41 [some (.inr (.inr (some 34))), some (.inl p), some (.inl v), some (.inl (x + 1)), some (.inl s), some (.inl i)] [.inl (v_88 m s)] (st0 m) o
        refine r_sto (pc' := 43) (ls' := [some (.inr (.inr (some 34))), some (.inl p), some (.inl v), some (.inl (x + 1)), some (.inl (v_88 m s)), some (.inl i)]) hM_100 d_100_41 rfl rfl ?_
        refine r_sto (pc' := 46) (ls' := [some (.inr (.inr (some 34))), some (.inl p), some (.inl v), some (.inl (x + 1)), some (.inl (v_88 m s)), some (.inl (i + 1))]) hM_100 d_100_43 rfl rfl ?_
        refine r_go (pc' := 12) hM_100 d_100_46 (by decide) ?_
        exact hk
      exact H
theorem u_100_0 {Q : List am_V → am_M → Prop} {m : am_M} {p : Int} {v : Int}  (H : (WFG (vw m 2)) ∧ (∀ (m1 : am_M), (LIS m m1) → ok 4 100 12 [some (.inr (.inr (some 34))), some (.inl p), some (.inl v), some (.inl 0), some (.inl 0), some (.inl 0)] [] m1 Q)) : ok 4 100 0 [some (.inr (.inr (some 34))), some (.inl p), some (.inl v), none, none, none] [] m Q := by
  obtain ⟨hz1, H⟩ := H
  refine ok_sg (pc' := 1) (ls' := [some (.inr (.inr (some 34))), some (.inl p), some (.inl v), none, none, none]) (st' := [.inr (.inr (some 34))]) (m' := m) (fun fx hfx o hk => ?_) ?_
  · refine r_ld (pc' := 1) hM_100 d_100_0 rfl rfl ?_
    exact hk
  refine ok_cl (pc' := 4) (c := (83, 0)) (a := [.inr (.inr (some 34))]) (q := []) hM_100 d_100_1 rfl (by decide +kernel) hM_83 rfl rfl rfl (Nat.le_of_ble_eq_true rfl) (Nat.le_of_ble_eq_true rfl) (Or.inr rfl) (z_83  m  hz1) (Nat.le_of_ble_eq_true rfl) ?_
  rintro _ m1 ⟨rfl, hz2⟩
  replace H := H  m1 hz2
  show ok 4 100 4 [some (.inr (.inr (some 34))), some (.inl p), some (.inl v), none, none, none] [] m1 Q
  refine ok_sg (pc' := 12) (ls' := [some (.inr (.inr (some 34))), some (.inl p), some (.inl v), some (.inl 0), some (.inl 0), some (.inl 0)]) (st' := []) (m' := m1) (fun fx hfx o hk => ?_) ?_
  · refine r_k (pc' := 5) (v := .inl 0) hM_100 d_100_4 rfl rfl ?_
    refine r_sto (pc' := 6) (ls' := [some (.inr (.inr (some 34))), some (.inl p), some (.inl v), some (.inl 0), none, none]) hM_100 d_100_5 rfl rfl ?_
    refine r_k (pc' := 7) (v := .inl 0) hM_100 d_100_6 rfl rfl ?_
    refine r_sto (pc' := 9) (ls' := [some (.inr (.inr (some 34))), some (.inl p), some (.inl v), some (.inl 0), some (.inl 0), none]) hM_100 d_100_7 rfl rfl ?_
    refine r_k (pc' := 10) (v := .inl 0) hM_100 d_100_9 rfl rfl ?_
    refine r_sto (pc' := 12) (ls' := [some (.inr (.inr (some 34))), some (.inl p), some (.inl v), some (.inl 0), some (.inl 0), some (.inl 0)]) hM_100 d_100_10 rfl rfl ?_
    exact hk
  exact H
theorem z_100   (m : am_M) (p : Int) (v : Int) (hq : WFG (vw m 2) ∧ (0 ≤ p ∧ p < m 2 4) ∧ nv (vw m 2) (8 + p.toNat) ≠ 3 ∧ am_s v = v) : ok 4 100 0 (am_ent 6 [.inr (.inr (some 34)), .inl p, .inl v]) [] m (fun rr m' => rr = [.inl (((cf (wyq (nv (vw m 2)) p.toNat v) (may (nv (vw m 2)) + 1) : Nat) : Int))] ∧ LIS m m') := by
  show ok 4 100 0 [some (.inr (.inr (some 34))), some (.inl p), some (.inl v), none, none, none] [] m _
  obtain ⟨hw, hp, hg, hv⟩ := hq
  have hN := vwN hw
  have hwn := WFG_nv hw
  have hFl := may_lt (g := nv (vw m 2)) hwn.1.2
  obtain ⟨P, rfl⟩ : ∃ P : Nat, p = (P : Int) := ⟨p.toNat, by omega⟩
  rw [Int.toNat_natCast] at hg ⊢
  refine u_100_0 ⟨hw, fun m1 h1 => ?_⟩
  obtain ⟨l1, l2, l3, l4⟩ := id h1
  have hcp := cp_lt (F := may (nv (vw m 2)))
  have e10 : am_s (m1 34 10) = ((2 ^ cnt (may (nv (vw m 2))) 12 : Nat) : Int) := by rw [l2]; exact cp_s
  have eT : ∀ s : Nat, am_s (m1 35 (8 * P + tri s P)) = hrd (nv (vw m 2)) P s := by
    intro s
    rw [l3 P _ (by rw [nv0, vw_0]; omega) (tri_lt s P), if_pos hg, hrd_tri]
    exact hrd_s hwn (by omega)
  refine ok_for (σ := Unit) (fun i _ => [some (.inr (.inr (some 34))), some (.inl (P : Int)), some (.inl v), some (.inl ((wc (wyq (nv (vw m 2)) P v) (may (nv (vw m 2))) i : Nat) : Int)), some (.inl ((en (may (nv (vw m 2))) i : Nat) : Int)), some (.inl (i : Int))]) (fun i _ M => M = m1) (2 ^ cnt (may (nv (vw m 2))) 12) ?_ ?_ () m1 rfl
  · rintro i hi - M rfl IH
    have hl := en_lt hFl hi
    have hs := wc_s (Q := wyq (nv (vw m 2)) P v) (F := may (nv (vw m 2))) (i := i)
    have hsb := (en_ok hFl i hi).1
    refine u_100_12 ?_
    rw [e10, am_s_id (z := (i : Int)) (by omega) (by omega), Int.toNat_natCast, Int.toNat_natCast, eT, hv, v88 l1 hFl]
    have := IH () M rfl
    refine ⟨fun q => by omega, fun _ => ⟨⟨by omega, by omega, by omega⟩, fun q => ?_, fun q => ?_⟩⟩
    · rw [if_neg (fun k => q (wyq_t.mp k).2)] at hs
      rw [hs] at this
      exact this
    · rw [if_pos (wyq_t.mpr ⟨hsb, q⟩)] at hs
      rw [hs] at this
      exact this
  · rintro - M rfl
    refine u_100_12 ?_
    rw [e10, cp_s, wc_all hFl (fun t h => wyq_sb h)]
    exact ⟨fun _ => ⟨rfl, h1⟩, fun q => by omega⟩
theorem u_99_0 {Q : List am_V → am_M → Prop} {m : am_M} {p : Int} {v : Int}  (H : (WFG (vw m 2)) ∧ (((¬ ((0 ≤ am_s p ∧ am_s p < m 2 4) ∧ nv (vw m 2) (8 + (am_s p).toNat) ≠ 3)) → Q [.inl (-2)] m) ∧ (((0 ≤ am_s p ∧ am_s p < m 2 4) ∧ nv (vw m 2) (8 + (am_s p).toNat) ≠ 3) → (WFG (vw m 2) ∧ (0 ≤ p ∧ p < m 2 4) ∧ nv (vw m 2) (8 + p.toNat) ≠ 3 ∧ am_s v = v) ∧ (∀ (m1 : am_M), (LIS m m1) → Q [.inl ((cf (wyq (nv (vw m 2)) p.toNat v) (may (nv (vw m 2)) + 1) : Nat) : Int)] m1)))) : ok 5 99 0 [some (.inr (.inr (some 0))), some (.inl p), some (.inl v)] [] m Q := by
  obtain ⟨hz1, H⟩ := H
  refine ok_sg (pc' := 8) (ls' := [some (.inr (.inr (some 0))), some (.inl p), some (.inl v)]) (st' := [.inl ((if (0 ≤ am_s p ∧ am_s p < m 2 4) ∧ nv (vw m 2) (8 + (am_s p).toNat) ≠ 3 then 1 else 0))]) (m' := m) (fun fx hfx o hk => ?_) ?_
  · refine r_ld (pc' := 1) hM_99 d_99_0 rfl rfl ?_
    refine r_gR (pc' := 4) (v := 2) hM_99 d_99_1 rfl (by decide +kernel) ?_
    refine r_ld (pc' := 5) hM_99 d_99_4 rfl rfl ?_
    refine r_cl (pc' := 8) (c := (68, 0)) (a := [.inr (.inr (some 2)), .inl p]) (q := []) hM_99 d_99_5 rfl (by decide +kernel) hM_68 rfl rfl rfl (Nat.le_of_ble_eq_true rfl) (Nat.le_of_ble_eq_true rfl) (Or.inr rfl) (n_68 (by decide) m p hz1) (Nat.le_of_ble_eq_true rfl) ?_
    show rn fx 5 (0, 0) 99 8 [some (.inr (.inr (some 0))), some (.inl p), some (.inl v)] [.inl ((if (0 ≤ am_s p ∧ am_s p < m 2 4) ∧ nv (vw m 2) (8 + (am_s p).toNat) ≠ 3 then 1 else 0))] (st0 m) o
    exact hk
  refine ok_if (pc' := 23) (pc2 := 11) hM_99 d_99_8 (by decide) rfl (fun hz2 => ?_) (fun hz2 => ?_)
  · have H := H.1 (as_ite.mp hz2)
    refine ok_sg (pc' := 25) (ls' := [some (.inr (.inr (some 0))), some (.inl p), some (.inl v)]) (st' := [.inl (-2)]) (m' := m) (fun fx hfx o hk => ?_) ?_
    · refine r_k (pc' := 25) (v := .inl (-2)) hM_99 d_99_23 rfl rfl ?_
      exact hk
    exact ok_rt (fun fx _ => rt_i hM_99 d_99_25 rfl) H
  · have H := H.2 (as_iteN.mp hz2)
    obtain ⟨hz3, H⟩ := H
    refine ok_sg (pc' := 17) (ls' := [some (.inr (.inr (some 0))), some (.inl p), some (.inl v)]) (st' := [.inl v, .inl p, .inr (.inr (some 34))]) (m' := m) (fun fx hfx o hk => ?_) ?_
    · refine r_ld (pc' := 12) hM_99 d_99_11 rfl rfl ?_
      refine r_gR (pc' := 15) (v := 34) hM_99 d_99_12 rfl (by decide +kernel) ?_
      refine r_ld (pc' := 16) hM_99 d_99_15 rfl rfl ?_
      refine r_ld (pc' := 17) hM_99 d_99_16 rfl rfl ?_
      exact hk
    refine ok_cl (pc' := 20) (c := (100, 0)) (a := [.inr (.inr (some 34)), .inl p, .inl v]) (q := []) hM_99 d_99_17 rfl (by decide +kernel) hM_100 rfl rfl rfl (Nat.le_of_ble_eq_true rfl) (Nat.le_of_ble_eq_true rfl) (Or.inr rfl) (z_100  m p v hz3) (Nat.le_of_ble_eq_true rfl) ?_
    rintro _ m1 ⟨rfl, hz4⟩
    replace H := H  m1 hz4
    show ok 5 99 20 [some (.inr (.inr (some 0))), some (.inl p), some (.inl v)] [.inl ((cf (wyq (nv (vw m 2)) p.toNat v) (may (nv (vw m 2)) + 1) : Nat) : Int)] m1 Q
    refine ok_sg (pc' := 25) (ls' := [some (.inr (.inr (some 0))), some (.inl p), some (.inl v)]) (st' := [.inl ((cf (wyq (nv (vw m 2)) p.toNat v) (may (nv (vw m 2)) + 1) : Nat) : Int)]) (m' := m1) (fun fx hfx o hk => ?_) ?_
    · refine r_go (pc' := 25) hM_99 d_99_20 (by decide) ?_
      exact hk
    exact ok_rt (fun fx _ => rt_i hM_99 d_99_25 rfl) H
theorem u_221_27 {Q : List am_V → am_M → Prop} {m : am_M} {p : Int} {v : Int} {f : Int} {n : Int} {s : Int}  (H : ((am_s f < am_s s) → Q [.inl n] m) ∧ ((¬ (am_s f < am_s s)) → ((¬ (¬ am_s (am_and s (am_xor f (-1))) = 0)) → (WFG (m 54) ∧ (0 ≤ p ∧ p < m 54 0) ∧ 0 ≤ s ∧ s < 2147483648)) ∧ (∀ y1 : Int, y1 = (if ¬ am_s (am_and s (am_xor f (-1))) = 0 then 0 else (if ¬ am_s ((hrd (nv (m 54)) p.toNat s.toNat)) = am_s v then 0 else 1)) → ok 4 221 27 [some (.inr (.inr (some 53))), some (.inl p), some (.inl v), some (.inl f), some (.inl (n + y1)), some (.inl (s + 1))] [] m Q))) : ok 4 221 27 [some (.inr (.inr (some 53))), some (.inl p), some (.inl v), some (.inl f), some (.inl n), some (.inl s)] [] m Q := by
  refine ok_sg (pc' := 30) (ls' := [some (.inr (.inr (some 53))), some (.inl p), some (.inl v), some (.inl f), some (.inl n), some (.inl s)]) (st' := [.inl f, .inl s]) (m' := m) (fun fx hfx o hk => ?_) ?_
  · refine r_ld (pc' := 29) hM_221 d_221_27 rfl rfl ?_
    refine r_ld (pc' := 30) hM_221 d_221_29 rfl rfl ?_
    exact hk
  refine ok_ic (pc' := 69) (pc2 := 33) hM_221 d_221_30 (by decide) rfl (fun hz1 => ?_) (fun hz1 => ?_)
  · have H := H.1 hz1
    refine ok_sg (pc' := 71) (ls' := [some (.inr (.inr (some 53))), some (.inl p), some (.inl v), some (.inl f), some (.inl n), some (.inl s)]) (st' := [.inl n]) (m' := m) (fun fx hfx o hk => ?_) ?_
    · refine r_ld (pc' := 71) hM_221 d_221_69 rfl rfl ?_
      exact hk
    exact ok_rt (fun fx _ => rt_i hM_221 d_221_71 rfl) H
  · have H := H.2 hz1
    obtain ⟨hz3, H⟩ := H
    refine ok_sg (pc' := 41) (ls' := [some (.inr (.inr (some 53))), some (.inl p), some (.inl v), some (.inl f), some (.inl n), some (.inl s)]) (st' := [.inl (am_and s (am_xor f (-1))), .inl n]) (m' := m) (fun fx hfx o hk => ?_) ?_
    · refine r_ld (pc' := 35) hM_221 d_221_33 rfl rfl ?_
      refine r_ld (pc' := 37) hM_221 d_221_35 rfl rfl ?_
      refine r_ld (pc' := 38) hM_221 d_221_37 rfl rfl ?_
      refine r_k (pc' := 39) (v := .inl (-1)) hM_221 d_221_38 rfl rfl ?_
      refine r_b (pc' := 40) (z := (am_xor f (-1))) hM_221 d_221_39 rfl rfl ?_
      refine r_b (pc' := 41) (z := (am_and s (am_xor f (-1)))) hM_221 d_221_40 rfl rfl ?_
      exact hk
    refine ok_sg (pc' := 60) (ls' := [some (.inr (.inr (some 53))), some (.inl p), some (.inl v), some (.inl f), some (.inl n), some (.inl s)]) (st' := [.inl (if ¬ am_s (am_and s (am_xor f (-1))) = 0 then 0 else (if ¬ am_s ((hrd (nv (m 54)) p.toNat s.toNat)) = am_s v then 0 else 1)), .inl n]) (m' := m) (fun fx hfx o K => ?_) ?_
    · refine r_if (pc' := 59) (pc2 := 44) hM_221 d_221_41 (by decide) rfl (fun hz2 => ?_) (fun hz2 => ?_)
      · have hz2 : ¬ am_s (am_and s (am_xor f (-1))) = 0 := hz2
        rw [if_pos hz2] at K
        refine r_k (pc' := 60) (v := .inl 0) hM_221 d_221_59 rfl rfl ?_
        exact K
      · have hz2 : ¬ (¬ am_s (am_and s (am_xor f (-1))) = 0) := hz2
        rw [if_neg hz2] at K
        refine r_ld (pc' := 45) hM_221 d_221_44 rfl rfl ?_
        refine r_ld (pc' := 46) hM_221 d_221_45 rfl rfl ?_
        refine r_ld (pc' := 48) hM_221 d_221_46 rfl rfl ?_
        refine r_cl (pc' := 51) (c := (210, 0)) (a := [.inr (.inr (some 53)), .inl p, .inl s]) (q := [.inl n]) hM_221 d_221_48 rfl (by decide +kernel) hM_210 rfl rfl rfl (Nat.le_of_ble_eq_true rfl) (Nat.le_of_ble_eq_true rfl) (Or.inr rfl) (n_210  m p s (hz3 hz2)) (Nat.le_of_ble_eq_true rfl) ?_
        show rn fx 4 (0, 0) 221 51 [some (.inr (.inr (some 53))), some (.inl p), some (.inl v), some (.inl f), some (.inl n), some (.inl s)] [.inl ((hrd (nv (m 54)) p.toNat s.toNat)), .inl n] (st0 m) o
        refine r_ld (pc' := 52) hM_221 d_221_51 rfl rfl ?_
        refine r_ic (pc' := 59) (pc2 := 55) hM_221 d_221_52 (by decide) rfl (fun hz4 => ?_) (fun hz4 => ?_)
        · have hz4 : ¬ am_s ((hrd (nv (m 54)) p.toNat s.toNat)) = am_s v := hz4
          rw [if_pos hz4] at K
          refine r_k (pc' := 60) (v := .inl 0) hM_221 d_221_59 rfl rfl ?_
          exact K
        · have hz4 : ¬ (¬ am_s ((hrd (nv (m 54)) p.toNat s.toNat)) = am_s v) := hz4
          rw [if_neg hz4] at K
          refine r_k (pc' := 56) (v := .inl 1) hM_221 d_221_55 rfl rfl ?_
          refine r_go (pc' := 60) hM_221 d_221_56 (by decide) ?_
          exact K
    have K : ∀ y1 : Int, y1 = (if ¬ am_s (am_and s (am_xor f (-1))) = 0 then 0 else (if ¬ am_s ((hrd (nv (m 54)) p.toNat s.toNat)) = am_s v then 0 else 1)) → ok 4 221 60 [some (.inr (.inr (some 53))), some (.inl p), some (.inl v), some (.inl f), some (.inl n), some (.inl s)] [.inl y1, .inl n] m Q := by
      intro y1 hy1
      replace H := H y1 hy1
      refine ok_sg (pc' := 27) (ls' := [some (.inr (.inr (some 53))), some (.inl p), some (.inl v), some (.inl f), some (.inl (n + y1)), some (.inl (s + 1))]) (st' := []) (m' := m) (fun fx hfx o hk => ?_) ?_
      · refine r_b (pc' := 61) (z := (n + y1)) hM_221 d_221_60 rfl rfl ?_
        refine r_sto (pc' := 63) (ls' := [some (.inr (.inr (some 53))), some (.inl p), some (.inl v), some (.inl f), some (.inl (n + y1)), some (.inl s)]) hM_221 d_221_61 rfl rfl ?_
        refine r_sto (pc' := 66) (ls' := [some (.inr (.inr (some 53))), some (.inl p), some (.inl v), some (.inl f), some (.inl (n + y1)), some (.inl (s + 1))]) hM_221 d_221_63 rfl rfl ?_
        refine r_go (pc' := 27) hM_221 d_221_66 (by decide) ?_
        exact hk
      exact H
    exact K _ rfl
theorem u_221_0 {Q : List am_V → am_M → Prop} {m : am_M} {p : Int} {v : Int}  (H : (WFG ((mu m 53 0 0) 54)) ∧ ((((0 ≤ am_s p ∧ am_s p < (mu m 53 0 0) 54 0) ∧ nv ((mu m 53 0 0) 54) (8 + (am_s p).toNat) ≠ 3) → ok 4 221 27 [some (.inr (.inr (some 53))), some (.inl p), some (.inl v), some (.inl (((may (nv ((mu m 53 0 0) 54)) : Nat) : Int))), some (.inl 0), some (.inl 0)] [] (mu m 53 0 0) Q) ∧ ((¬ ((0 ≤ am_s p ∧ am_s p < (mu m 53 0 0) 54 0) ∧ nv ((mu m 53 0 0) 54) (8 + (am_s p).toNat) ≠ 3)) → Q [.inl (-2)] (mu m 53 0 0)))) : ok 4 221 0 [some (.inr (.inr (some 53))), some (.inl p), some (.inl v), none, none, none] [] m Q := by
  obtain ⟨hz1, H⟩ := H
  refine ok_sg (pc' := 10) (ls' := [some (.inr (.inr (some 53))), some (.inl p), some (.inl v), none, none, none]) (st' := [.inl ((if (0 ≤ am_s p ∧ am_s p < (mu m 53 0 0) 54 0) ∧ nv ((mu m 53 0 0) 54) (8 + (am_s p).toNat) ≠ 3 then 1 else 0))]) (m' := mu m 53 0 0) (fun fx hfx o hk => ?_) ?_
  · refine r_ld (pc' := 1) hM_221 d_221_0 rfl rfl ?_
    refine r_k (pc' := 2) (v := .inl 0) hM_221 d_221_1 rfl rfl ?_
    refine r_pI (pc' := 5) (k0 := 0) hM_221 d_221_2 rfl (by decide +kernel) ?_
    refine r_ld (pc' := 6) hM_221 d_221_5 rfl rfl ?_
    refine r_ld (pc' := 7) hM_221 d_221_6 rfl rfl ?_
    refine r_cl (pc' := 10) (c := (206, 0)) (a := [.inr (.inr (some 53)), .inl p]) (q := []) hM_221 d_221_7 rfl (by decide +kernel) hM_206 rfl rfl rfl (Nat.le_of_ble_eq_true rfl) (Nat.le_of_ble_eq_true rfl) (Or.inr rfl) (n_206  (mu m 53 0 0) p hz1) (Nat.le_of_ble_eq_true rfl) ?_
    show rn fx 4 (0, 0) 221 10 [some (.inr (.inr (some 53))), some (.inl p), some (.inl v), none, none, none] [.inl ((if (0 ≤ am_s p ∧ am_s p < (mu m 53 0 0) 54 0) ∧ nv ((mu m 53 0 0) 54) (8 + (am_s p).toNat) ≠ 3 then 1 else 0))] (st0 (mu m 53 0 0)) o
    exact hk
  refine ok_if (pc' := 16) (pc2 := 13) hM_221 d_221_10 (by decide) rfl (fun hz2 => ?_) (fun hz2 => ?_)
  · have H := H.1 (as_iteN.mp hz2)
    refine ok_sg (pc' := 27) (ls' := [some (.inr (.inr (some 53))), some (.inl p), some (.inl v), some (.inl (((may (nv ((mu m 53 0 0) 54)) : Nat) : Int))), some (.inl 0), some (.inl 0)]) (st' := []) (m' := mu m 53 0 0) (fun fx hfx o hk => ?_) ?_
    · refine r_ld (pc' := 17) hM_221 d_221_16 rfl rfl ?_
      refine r_cl (pc' := 20) (c := (222, 0)) (a := [.inr (.inr (some 53))]) (q := []) hM_221 d_221_17 rfl (by decide +kernel) hM_222 rfl rfl rfl (Nat.le_of_ble_eq_true rfl) (Nat.le_of_ble_eq_true rfl) (Or.inr rfl) (n_222  (mu m 53 0 0)  hz1) (Nat.le_of_ble_eq_true rfl) ?_
      show rn fx 4 (0, 0) 221 20 [some (.inr (.inr (some 53))), some (.inl p), some (.inl v), none, none, none] [.inl (((may (nv ((mu m 53 0 0) 54)) : Nat) : Int))] (st0 (mu m 53 0 0)) o
      refine r_sto (pc' := 21) (ls' := [some (.inr (.inr (some 53))), some (.inl p), some (.inl v), some (.inl (((may (nv ((mu m 53 0 0) 54)) : Nat) : Int))), none, none]) hM_221 d_221_20 rfl rfl ?_
      refine r_k (pc' := 22) (v := .inl 0) hM_221 d_221_21 rfl rfl ?_
      refine r_sto (pc' := 24) (ls' := [some (.inr (.inr (some 53))), some (.inl p), some (.inl v), some (.inl (((may (nv ((mu m 53 0 0) 54)) : Nat) : Int))), some (.inl 0), none]) hM_221 d_221_22 rfl rfl ?_
      refine r_k (pc' := 25) (v := .inl 0) hM_221 d_221_24 rfl rfl ?_
      refine r_sto (pc' := 27) (ls' := [some (.inr (.inr (some 53))), some (.inl p), some (.inl v), some (.inl (((may (nv ((mu m 53 0 0) 54)) : Nat) : Int))), some (.inl 0), some (.inl 0)]) hM_221 d_221_25 rfl rfl ?_
      exact hk
    exact H
  · have H := H.2 (as_ite.mp (Decidable.not_not.mp hz2))
    refine ok_sg (pc' := 15) (ls' := [some (.inr (.inr (some 53))), some (.inl p), some (.inl v), none, none, none]) (st' := [.inl (-2)]) (m' := mu m 53 0 0) (fun fx hfx o hk => ?_) ?_
    · refine r_k (pc' := 15) (v := .inl (-2)) hM_221 d_221_13 rfl rfl ?_
      exact hk
    exact ok_rt (fun fx _ => rt_i hM_221 d_221_15 rfl) H
theorem LIS_kpC {m m' : am_M} (h : LIS m m') : kpC m m' := by
  intro a k hc
  unfold core at hc
  exact h.2.2.2 a k (by omega) (by omega)
theorem P_ways {m : am_M} {p v : Int} (hp : am_s p = p) (hv : am_s v = v) (hI : Inv m) : PK 99 3 221 6 [.inl p, .inl v] m := by
  have hw := Inv_wf hI
  have hwv := Inv_vw hI
  have hN := hw.1
  have hF := may_lt (g := nv (m 54)) (nv0_le hw)
  by_cases c : (0 ≤ p ∧ p < m 54 0) ∧ nv (m 54) (8 + p.toNat) ≠ 3
  · obtain ⟨P, rfl⟩ : ∃ P : Nat, p = (P : Int) := ⟨p.toNat, by omega⟩
    have c' := c
    rw [Int.toNat_natCast] at c'
    refine PK_2 (h1 := 5) (h2 := 4) (v := .inl ((cf (wyq (nv (m 54)) P v) (may (nv (m 54)) + 1) : Nat) : Int)) (R := fun m1 => kpC m m1) ?_ ?_ (by decide) (by decide)
    · refine u_99_0 ?_
      rw [hp, Inv_nv hI, Inv_N hI]
      exact ⟨hwv, fun q => absurd c q, fun _ => ⟨⟨hwv, c.1, c.2, hv⟩, fun m1 h => ⟨by rw [Int.toNat_natCast], LIS_kpC h⟩⟩⟩
    · intro m1 hk
      obtain ⟨w1, w2, w3, w4, w5, w6, w7⟩ := mod_pre (a := 0) hI hk
      have w0 : (mu m1 53 0 0) 54 0 = m 54 0 := w7 54 0 (by unfold core; omega)
      refine u_221_0 ?_
      generalize mu m1 53 0 0 = m2 at *
      rw [hp, w4, w0]
      refine ⟨w1, fun _ => ?_, fun q => absurd c q⟩
      generalize hFv : may (nv (m 54)) = F at *
      refine ok_for (σ := Unit) (fun t _ => [some (.inr (.inr (some 53))), some (.inl (P : Int)), some (.inl v), some (.inl (F : Int)), some (.inl ((cf (wyq (nv (m 54)) P v) t : Nat) : Int)), some (.inl (t : Int))]) (fun t _ M => M = m2) (F + 1) ?_ ?_ () m2 rfl
      · rintro t ht - M rfl IH
        have hA := bx_sub (z := (t : Int)) (b := F) (by omega)
        rw [am_s_id (z := (t : Int)) (by omega) (by omega), Int.toNat_natCast] at hA
        refine u_221_27 ?_
        rw [am_s_id (z := (F : Int)) (by omega) (by omega), am_s_id (z := (t : Int)) (by omega) (by omega), Int.toNat_natCast, Int.toNat_natCast, w4, w0, hrd_s (WFG_nv hw) (by omega), hv]
        refine ⟨fun q => by omega, fun _ => ⟨fun _ => ⟨w1, by omega, by omega⟩, fun y hy => ?_⟩⟩
        have := IH () M rfl
        rw [cf_s] at this
        have ey : y = ((if wyq (nv (m 54)) P v t = true then 1 else 0 : Nat) : Int) := by
          rw [hy]
          by_cases q1 : sb F t
          · rw [if_neg (not_not_intro (hA.mpr ⟨by omega, q1⟩))]
            by_cases q2 : hrd (nv (m 54)) P t = v
            · rw [if_neg (not_not_intro q2), if_pos (wyq_t.mpr ⟨by rw [hFv]; exact q1, q2⟩)]
              rfl
            · rw [if_pos q2, if_neg (fun k => q2 (wyq_t.mp k).2)]
              rfl
          · rw [if_pos (fun k => q1 (hA.mp k).2), if_neg (fun k => q1 (by rw [← hFv]; exact (wyq_t.mp k).1))]
            rfl
        rw [ey]
        exact this
      · rintro - M rfl
        refine u_221_27 ?_
        rw [am_s_id (z := (F : Int)) (by omega) (by omega), am_s_id (z := ((F + 1 : Nat) : Int)) (by omega) (by omega)]
        exact ⟨fun _ => ⟨rfl, w6⟩, fun q => by omega⟩
  · refine PK_2 (h1 := 5) (h2 := 4) (v := .inl (-2)) (R := fun m1 => m = m1) ?_ ?_ (by decide) (by decide)
    · refine u_99_0 ?_
      rw [hp, Inv_nv hI, Inv_N hI]
      exact ⟨hwv, fun _ => ⟨rfl, rfl⟩, fun q => absurd q c⟩
    · rintro _ rfl
      refine u_221_0 ?_
      rw [hp, mu54]
      exact ⟨hw, fun q => absurd q c, fun _ => ⟨rfl, Inv_t hI⟩⟩
