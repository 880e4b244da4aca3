/-- what lets be heard at a place what was heard there -/
def alw (g f : Nat → Int) (p : Nat) : Nat := if f p = 999 then 255 else if g (8 + p) = 3 then 0 else msk (fun t => hrd g p (tlay t p)) (f p) 8
/-- whether a set fits at the first places -/
def ftb (g f : Nat → Int) (s : Nat) : Nat → Bool
  | 0 => true
  | p + 1 => ftb g f s p && decide (f p = 999 ∨ (g (8 + p) ≠ 3 ∧ hrd g p s = f p))
theorem ftb_s {g f : Nat → Int} {s p : Nat} : ftb g f s (p + 1) = (ftb g f s p && decide (f p = 999 ∨ (g (8 + p) ≠ 3 ∧ hrd g p s = f p))) := rfl
theorem alw_lt {g f : Nat → Int} {p : Nat} : alw g f p < 256 := by
  unfold alw
  split
  · decide
  · split
    · decide
    · exact msk_lt _ _ 8
theorem alw_bit {g f : Nat → Int} {p s : Nat} : (alw g f p).testBit (tri s p) = decide (f p = 999 ∨ (g (8 + p) ≠ 3 ∧ hrd g p s = f p)) := by
  have hl := tri_lt s p
  unfold alw
  by_cases h1 : f p = 999
  · rw [if_pos h1, decide_eq_true (Or.inl h1)]
    have : ∀ t : Nat, t < 8 → (255 : Nat).testBit t = true := by decide +kernel
    exact this _ hl
  · rw [if_neg h1]
    by_cases h2 : g (8 + p) = 3
    · rw [if_pos h2, Nat.zero_testBit]
      exact (decide_eq_false (by intro h; rcases h with h | h; exact h1 h; exact h.1 h2)).symm
    · rw [if_neg h2, msk_bit, decide_eq_true hl, Bool.true_and, hrd_tri]
      apply decide_eq_decide.mpr
      exact ⟨fun h => Or.inr ⟨h2, h⟩, fun h => h.elim (fun q => absurd q h1) (fun q => q.2)⟩
def alb (m : am_M) (s : Nat) : Nat → Bool
  | 0 => true
  | p + 1 => alb m s p && (m 36 p).toNat.testBit (tri s p)
theorem alb_s {m : am_M} {s p : Nat} : alb m s (p + 1) = (alb m s p && (m 36 p).toNat.testBit (tri s p)) := rfl
theorem alb_no {m : am_M} {s p : Nat} (h : alb m s p = false) : ∀ n, p ≤ n → alb m s n = false := by
  intro n
  induction n with
  | zero =>
    intro hn
    have : p = 0 := by omega
    subst this
    exact h
  | succ n ih =>
    intro hn
    by_cases hp : p = n + 1
    · rw [← hp]; exact h
    · rw [alb_s, ih (by omega), Bool.false_and]
def alq (m : am_M) : Nat → Bool := fun t => decide (sb (m 34 9).toNat t) && alb m t (m 2 4).toNat
/-- what the ears have heard is in its bounds -/
def ALW (m : am_M) : Prop := WFG (vw m 2) ∧ (0 ≤ m 34 9 ∧ m 34 9 < 4096) ∧ m 34 10 = ((2 ^ cnt (m 34 9).toNat 12 : Nat) : Int) ∧ ∀ p : Nat, (p : Int) < m 2 4 → 0 ≤ m 36 p ∧ m 36 p < 256
def HEA (m : am_M) (r : Nat) (m' : am_M) : Prop := m' 34 9 = ((may (nv (vw m 2)) : Nat) : Int) ∧ m' 34 10 = ((2 ^ cnt (may (nv (vw m 2))) 12 : Nat) : Int) ∧ TON (nv (vw m 2)) m' ∧ (∀ p : Nat, (p : Int) < m 2 4 → m' 36 p = ((alw (nv (vw m 2)) (fun p => rat m r (p : Int)) p : Nat) : Int)) ∧ ∀ a k, ¬ (a = 34 ∧ (k = 9 ∨ k = 10)) → a ≠ 35 → a ≠ 36 → m' a k = m a k
theorem HEA_ALW {m m' : am_M} {r : Nat} (hw : WFG (vw m 2)) (h : HEA m r m') : ALW m' := by
  obtain ⟨h1, h2, h3, h4, h5⟩ := h
  have fv : vw m' 2 = vw m 2 := vw_same fun a k q1 q2 => h5 a k (by omega) (by omega) (by omega)
  have hF := may_lt (g := nv (vw m 2)) (WFG_nv hw).1.2
  refine ⟨by rw [fv]; exact hw, by rw [h1]; omega, by rw [h2, h1, Int.toNat_natCast], fun p hp => ?_⟩
  rw [h5 2 4 (by omega) (by omega) (by omega)] at hp
  rw [h4 p hp]
  have := alw_lt (g := nv (vw m 2)) (f := fun p => rat m r (p : Int)) (p := p)
  omega
theorem HEA_alb {m m' : am_M} {r s : Nat} (h : HEA m r m') : ∀ n : Nat, (n : Int) ≤ m 2 4 → alb m' s n = ftb (nv (vw m 2)) (fun p => rat m r (p : Int)) s n := by
  intro n
  induction n with
  | zero => intro _; rfl
  | succ n ih =>
    intro hn
    rw [alb_s, ftb_s, ih (by omega), h.2.2.2.1 n (by omega), Int.toNat_natCast, alw_bit]
/-- the sets that fit -/
def ftq (g f : Nat → Int) : Nat → Bool := fun t => decide (sb (may g) t) && ftb g f t (g 0).toNat
theorem ftq_sb {g f : Nat → Int} {t : Nat} (h : ftq g f t = true) : sb (may g) t := by
  unfold ftq at h
  rw [Bool.and_eq_true] at h
  exact of_decide_eq_true h.1
theorem HEA_alq {m m' : am_M} {r : Nat} (hw : WFG (vw m 2)) (h : HEA m r m') : alq m' = ftq (nv (vw m 2)) (fun p => rat m r (p : Int)) := by
  funext t
  unfold alq ftq
  have hN := vwN hw
  rw [h.1, Int.toNat_natCast, h.2.2.2.2 2 4 (by omega) (by omega) (by omega), HEA_alb h _ (by omega), nv0, vw_0]
theorem hrd_s {g : Nat → Int} {p B : Nat} (h : WFG g) (hp : p < 12) : am_s (hrd g p B) = hrd g p B := by
  have := hrd_rng (B := B) h hp
  exact am_s_id (by omega) (by omega)
theorem TON_s {g : Nat → Int} {m : am_M} (h : TON g m) (hw : WFG g) {p t : Nat} (hp : (p : Int) < g 0) (ht : t < 8) : am_s (m 35 (8 * p + t)) = m 35 (8 * p + t) := by
  rw [h p t hp ht]
  split
  · exact hrd_s hw (by have := hw.1; omega)
  · rfl
theorem z_82 {r : Nat} (h_r : r ∈ rowL) (m : am_M)  (hq : WFG (vw m 2) ∧ RWC m r) : ok 4 82 0 (am_ent 5 [.inr (.inr (some 34)), .inr (.inr (some r))]) [] m (fun rr m' => rr = [] ∧ HEA m r m') := by
  show ok 4 82 0 [some (.inr (.inr (some 34))), some (.inr (.inr (some r))), none, none, none] [] m _
  obtain ⟨hw, hR⟩ := hq
  have hN := vwN hw
  have hwn := WFG_nv hw
  have hr := rowL_cases h_r
  refine u_82_0 h_r ⟨hw, ?_⟩
  rintro m1 ⟨l1, l2, l3, l4⟩
  have eg0 : nv (vw m 2) 0 = m 2 4 := by rw [nv0, vw_0]
  refine ok_for (σ := Unit) (fun p _ => [some (.inr (.inr (some 34))), some (.inr (.inr (some r))), some (.inl (p : Int)), none, none]) (fun p _ M => (∀ p' : Nat, p' < p → M 36 p' = ((alw (nv (vw m 2)) (fun p => rat m r (p : Int)) p' : Nat) : Int)) ∧ ∀ a, a ≠ 36 → M a = m1 a) (m 2 4).toNat ?_ ?_ () m1 ⟨fun p' h => absurd h (Nat.not_lt_zero _), fun _ _ => rfl⟩
  · rintro p hp - M ⟨h1, h2⟩ IH
    have f2 : ∀ k, M 2 k = m 2 k := fun k => by rw [h2 2 (by decide), l4 2 k (by omega) (by omega)]
    have fr1 : M r = m r := by funext k; rw [h2 r (by omega), l4 r k (by omega) (by omega)]
    have fr2 : M (r + 1) = m (r + 1) := by funext k; rw [h2 (r + 1) (by omega), l4 (r + 1) k (by omega) (by omega)]
    have hRM : RWC M r := RWC_of fr1 fr2 hR
    have er : rat M r (p : Int) = rat m r (p : Int) := by unfold rat; rw [fr1, fr2]
    have f3 : M 3 p = nv (vw m 2) (8 + p) := by
      rw [h2 3 (by decide), l4 3 p (by omega) (by omega)]
      exact (nvK (s := 2) (by omega) (by omega)).symm
    have hk := hwn.2.1 p (by omega)
    have ht : ∀ t : Nat, t < 8 → M 35 (8 * p + t) = m1 35 (8 * p + t) := fun t _ => by rw [h2 35 (by decide)]
    refine u_82_6 h_r ?_
    rw [f2, am_s_id (z := m 2 4) (by omega) (by omega), am_s_id (z := (p : Int)) (by omega) (by omega), Int.toNat_natCast, er, lcmp_eq, rat_t hR, show am_t 999 = 999 from rfl, f3, am_s_id (z := nv (vw m 2) (8 + p)) (by omega) (by omega)]
    have go : ∀ z : Int, z = ((alw (nv (vw m 2)) (fun p => rat m r (p : Int)) p : Nat) : Int) → ok 4 82 6 [some (.inr (.inr (some 34))), some (.inr (.inr (some r))), some (.inl ((p : Int) + 1)), none, none] [] (mu M 36 p z) (fun rr m' => rr = [] ∧ HEA m r m') := by
      intro z hz
      refine IH () (mu M 36 p z) ⟨fun p' hp' => ?_, fun a ha => by rw [mu_rf ha, h2 a ha]⟩
      rw [mu_if]
      by_cases h : p' = p
      · rw [if_pos h, h, hz]
      · rw [if_neg h]; exact h1 p' (by omega)
    refine ⟨fun q => by omega, fun _ => ⟨hRM, fun q => ⟨by omega, fun q2 => ⟨⟨by omega, rfl, fun t h => ?_⟩, fun m2 hm2 => ?_⟩, fun q2 => go 0 ?_⟩, fun q => ⟨by omega, go 255 ?_⟩⟩⟩
    · rw [ht t h]
      exact TON_s l3 hwn (by rw [eg0]; omega) h
    · rw [hm2]
      refine go _ ?_
      unfold alw
      rw [if_neg q, if_neg q2]
      congr 1
      refine msk_congr 8 fun t h => ?_
      rw [ht t h, l3 p t (by rw [eg0]; omega) h, if_pos q2]
    · unfold alw
      rw [if_neg q, if_pos q2]
      rfl
    · unfold alw
      rw [if_pos q]
      rfl
  · rintro - M ⟨h1, h2⟩
    have f2 : ∀ k, M 2 k = m 2 k := fun k => by rw [h2 2 (by decide), l4 2 k (by omega) (by omega)]
    refine u_82_6 h_r ?_
    rw [f2, am_s_id (z := m 2 4) (by omega) (by omega), am_s_id (z := (((m 2 4).toNat : Nat) : Int)) (by omega) (by omega)]
    refine ⟨fun _ => ⟨rfl, by rw [h2 34 (by decide), l1], by rw [h2 34 (by decide), l2], fun p t hp ht => by rw [h2 35 (by decide)]; exact l3 p t hp ht, fun p hp => h1 p (by omega), fun a k q1 q2 q3 => by rw [h2 a q3, l4 a k q1 q2]⟩, fun q => by omega⟩
theorem u_86_2 {Q : List am_V → am_M → Prop} {m : am_M} {s : Int} {p : Int}  (H : ((am_s (m 2 4) ≤ am_s p) → Q [.inl 1] m) ∧ ((¬ (am_s (m 2 4) ≤ am_s p)) → (0 ≤ am_s p ∧ am_s p < (12 : Nat)) ∧ (((¬ am_s (am_and (am_shr (m 36 ((am_s p).toNat)) (v_87 m s p)) 1) = 0) → ok 1 86 2 [some (.inr (.inr (some 34))), some (.inl s), some (.inl (p + 1))] [] m Q) ∧ ((am_s (am_and (am_shr (m 36 ((am_s p).toNat)) (v_87 m s p)) 1) = 0) → Q [.inl 0] m)))) : ok 1 86 2 [some (.inr (.inr (some 34))), some (.inl s), some (.inl p)] [] m Q := by
  refine ok_sg (pc' := 10) (ls' := [some (.inr (.inr (some 34))), some (.inl s), some (.inl p)]) (st' := [.inl (m 2 4), .inl p]) (m' := m) (fun fx hfx o hk => ?_) ?_
  · refine r_ld (pc' := 3) hM_86 d_86_2 rfl rfl ?_
    refine r_ld (pc' := 4) hM_86 d_86_3 rfl rfl ?_
    refine r_gR (pc' := 7) (v := 2) hM_86 d_86_4 rfl (by decide +kernel) ?_
    refine r_gI (pc' := 10) (k0 := 4) hM_86 d_86_7 rfl (by decide +kernel) ?_
    exact hk
  refine ok_ic (pc' := 38) (pc2 := 13) hM_86 d_86_10 (by decide) rfl (fun hz1 => ?_) (fun hz1 => ?_)
  · have H := H.1 hz1
    refine ok_sg (pc' := 39) (ls' := [some (.inr (.inr (some 34))), some (.inl s), some (.inl p)]) (st' := [.inl 1]) (m' := m) (fun fx hfx o hk => ?_) ?_
    · refine r_k (pc' := 39) (v := .inl 1) hM_86 d_86_38 rfl rfl ?_
      exact hk
    exact ok_rt (fun fx _ => rt_z hM_86 d_86_39 rfl (by decide)) H
  · have H := H.2 hz1
    obtain ⟨hz2, H⟩ := H
    refine ok_sg (pc' := 27) (ls' := [some (.inr (.inr (some 34))), some (.inl s), some (.inl p)]) (st' := [.inl (am_and (am_shr (m 36 ((am_s p).toNat)) (v_87 m s p)) 1)]) (m' := m) (fun fx hfx o hk => ?_) ?_
    · refine r_ld (pc' := 14) hM_86 d_86_13 rfl rfl ?_
      refine r_gR (pc' := 17) (v := 36) hM_86 d_86_14 rfl (by decide +kernel) ?_
      refine r_ld (pc' := 18) hM_86 d_86_17 rfl rfl ?_
      refine r_ia (pc' := 19) (n := 12) hM_86 d_86_18 rfl rfl hz2 ?_
      refine r_ld (pc' := 20) hM_86 d_86_19 rfl rfl ?_
      refine r_ld (pc' := 21) hM_86 d_86_20 rfl rfl ?_
      refine r_cl (pc' := 24) (c := (87, 2)) (a := [.inl s, .inl p]) (q := [.inl (m 36 ((am_s p).toNat))]) hM_86 d_86_21 rfl (by decide +kernel) hM_87 rfl rfl rfl (Nat.le_of_ble_eq_true rfl) (Nat.le_of_ble_eq_true rfl) (Or.inl rfl) (c_87  m s p) (Nat.le_of_ble_eq_true rfl) ?_
      show rn fx 1 (0, 0) 86 24 [some (.inr (.inr (some 34))), some (.inl s), some (.inl p)] [.inl (v_87 m s p), .inl (m 36 ((am_s p).toNat))] (st0 m) o
      refine r_b (pc' := 25) (z := (am_shr (m 36 ((am_s p).toNat)) (v_87 m s p))) hM_86 d_86_24 rfl rfl ?_
      refine r_k (pc' := 26) (v := .inl 1) hM_86 d_86_25 rfl rfl ?_
      refine r_b (pc' := 27) (z := (am_and (am_shr (m 36 ((am_s p).toNat)) (v_87 m s p)) 1)) hM_86 d_86_26 rfl rfl ?_
      exact hk
    refine ok_if (pc' := 32) (pc2 := 30) hM_86 d_86_27 (by decide) rfl (fun hz3 => ?_) (fun hz3 => ?_)
    · have H := H.1 hz3
      refine ok_sg (pc' := 2) (ls' := [some (.inr (.inr (some 34))), some (.inl s), some (.inl (p + 1))]) (st' := []) (m' := m) (fun fx hfx o hk => ?_) ?_
      · refine r_sto (pc' := 35) (ls' := [some (.inr (.inr (some 34))), some (.inl s), some (.inl (p + 1))]) hM_86 d_86_32 rfl rfl ?_
        refine r_go (pc' := 2) hM_86 d_86_35 (by decide) ?_
        exact hk
      exact H
    · have H := H.2 (Decidable.not_not.mp hz3)
      refine ok_sg (pc' := 31) (ls' := [some (.inr (.inr (some 34))), some (.inl s), some (.inl p)]) (st' := [.inl 0]) (m' := m) (fun fx hfx o hk => ?_) ?_
      · refine r_k (pc' := 31) (v := .inl 0) hM_86 d_86_30 rfl rfl ?_
        exact hk
      exact ok_rt (fun fx _ => rt_z hM_86 d_86_31 rfl (by decide)) H
theorem u_86_0 {Q : List am_V → am_M → Prop} {m : am_M} {s : Int}  (H : ok 1 86 2 [some (.inr (.inr (some 34))), some (.inl s), some (.inl 0)] [] m Q) : ok 1 86 0 [some (.inr (.inr (some 34))), some (.inl s), none] [] m Q := by
  refine ok_sg (pc' := 2) (ls' := [some (.inr (.inr (some 34))), some (.inl s), some (.inl 0)]) (st' := []) (m' := m) (fun fx hfx o hk => ?_) ?_
  · refine r_k (pc' := 1) (v := .inl 0) hM_86 d_86_0 rfl rfl ?_
    refine r_sto (pc' := 2) (ls' := [some (.inr (.inr (some 34))), some (.inl s), some (.inl 0)]) hM_86 d_86_1 rfl rfl ?_
    exact hk
  exact H
theorem z_86   (m : am_M) (s : Int) (hq : ALW m ∧ 0 ≤ s ∧ s < 4096) : ok 1 86 0 (am_ent 3 [.inr (.inr (some 34)), .inl s]) [] m (fun rr m' => rr = [.inl ((if alb m s.toNat (m 2 4).toNat = true then 1 else 0))] ∧ m' = m) := by
  show ok 1 86 0 [some (.inr (.inr (some 34))), some (.inl s), none] [] m _
  obtain ⟨⟨hw, hF, hc, hb⟩, hs⟩ := hq
  have hN := vwN hw
  obtain ⟨S, rfl⟩ : ∃ S : Nat, s = (S : Int) := ⟨s.toNat, by omega⟩
  rw [Int.toNat_natCast]
  refine u_86_0 ?_
  refine ok_for (σ := Unit) (fun p _ => [some (.inr (.inr (some 34))), some (.inl (S : Int)), some (.inl (p : Int))]) (fun p _ M => alb m S p = true ∧ M = m) (m 2 4).toNat ?_ ?_ () m ⟨rfl, rfl⟩
  · rintro p hp - M ⟨h1, rfl⟩ IH
    have hbp := hb p (by omega)
    have hl := tri_lt S p
    refine u_86_2 ?_
    rw [am_s_id (z := M 2 4) (by omega) (by omega), am_s_id (z := (p : Int)) (by omega) (by omega), Int.toNat_natCast]
    have e : v_87 M (S : Int) (p : Int) = ((tri S p : Nat) : Int) := am_tri p (by omega) S (by omega)
    have eb : am_s (am_and (am_shr (M 36 p) (v_87 M (S : Int) (p : Int))) 1) = 0 ↔ ¬ (M 36 p).toNat.testBit (tri S p) = true := by
      have hx : M 36 p = (((M 36 p).toNat : Nat) : Int) := by omega
      rw [e, hx, bx_shr (by omega) (by omega), show (1 : Int) = ((1 : Nat) : Int) from rfl, bx_and (Nat.lt_of_le_of_lt (Nat.div_le_self _ _) (by omega)), Nat.and_one_is_mod, am_s_id (by omega) (by omega), Nat.testBit_eq_decide_div_mod_eq, Int.toNat_natCast]
      simp only [decide_eq_true_eq]
      omega
    rw [eb]
    refine ⟨fun q => by omega, fun _ => ⟨by omega, fun q => IH () M ⟨?_, rfl⟩, fun q => ?_⟩⟩
    · rw [alb_s, h1, Bool.true_and]
      exact Decidable.not_not.mp q
    · have : alb M S (p + 1) = false := by
        rw [alb_s, h1, Bool.true_and]
        cases h : (M 36 p).toNat.testBit (tri S p)
        · rfl
        · exact absurd h q
      rw [alb_no this _ (by omega)]
      exact ⟨rfl, rfl⟩
  · rintro - M ⟨h1, rfl⟩
    refine u_86_2 ?_
    rw [am_s_id (z := M 2 4) (by omega) (by omega), am_s_id (z := (((M 2 4).toNat : Nat) : Int)) (by omega) (by omega), h1]
    exact ⟨fun _ => ⟨rfl, rfl⟩, fun q => by omega⟩
theorem cf_bd {Q : Nat → Bool} {F i : Nat} (hF : F < 4096) (hQ : ∀ t, Q t = true → sb F t) (hi : i < 2 ^ cnt F 12) : cf Q (bd F (i + 1)) = cf Q (bd F i) + if Q (en F i) = true then 1 else 0 := by
  rw [cf_fr, cf_fr, fr_bd hF hQ hi]
  split <;> omega
theorem v88 {m : am_M} {F s : Nat} (h : m 34 9 = (F : Int)) (hF : F < 4096) : v_88 m (s : Int) = ((nx F s : Nat) : Int) := by
  unfold v_88
  rw [h]
  exact am_nx hF
theorem en_lt {F i : Nat} (hF : F < 4096) (hi : i < 2 ^ cnt F 12) : en F i < 4096 := Nat.lt_of_le_of_lt (sub_le (en_ok hF i hi).1) hF
theorem cp_lt {F : Nat} : 2 ^ cnt F 12 ≤ 4096 := Nat.pow_le_pow_right (by decide : 0 < 2) (cnt_le F 12)
theorem alq_sb {m : am_M} {t : Nat} (h : alq m t = true) : sb (m 34 9).toNat t := by
  unfold alq at h
  rw [Bool.and_eq_true] at h
  exact of_decide_eq_true h.1
theorem alq_en {m : am_M} {i : Nat} (hF : (m 34 9).toNat < 4096) (hi : i < 2 ^ cnt (m 34 9).toNat 12) : alq m (en (m 34 9).toNat i) = alb m (en (m 34 9).toNat i) (m 2 4).toNat := by
  unfold alq
  rw [decide_eq_true (en_ok hF i hi).1, Bool.true_and]
theorem u_85_6 {Q : List am_V → am_M → Prop} {m : am_M} {x : Int} {s : Int} {i : Int}  (H : ((am_s (m 34 10) ≤ am_s i) → Q [.inl x] m) ∧ ((¬ (am_s (m 34 10) ≤ am_s i)) → (ALW m ∧ 0 ≤ s ∧ s < 4096) ∧ (∀ (m1 : am_M), (m1 = m) → ((¬ (alb m s.toNat (m 2 4).toNat = true)) → ok 2 85 6 [some (.inr (.inr (some 34))), some (.inl x), some (.inl (v_88 m1 s)), some (.inl (i + 1))] [] m1 Q) ∧ ((alb m s.toNat (m 2 4).toNat = true) → ok 2 85 6 [some (.inr (.inr (some 34))), some (.inl (x + 1)), some (.inl (v_88 m1 s)), some (.inl (i + 1))] [] m1 Q)))) : ok 2 85 6 [some (.inr (.inr (some 34))), some (.inl x), some (.inl s), some (.inl i)] [] m Q := by
  refine ok_sg (pc' := 11) (ls' := [some (.inr (.inr (some 34))), some (.inl x), some (.inl s), some (.inl i)]) (st' := [.inl (m 34 10), .inl i]) (m' := m) (fun fx hfx o hk => ?_) ?_
  · refine r_ld (pc' := 7) hM_85 d_85_6 rfl rfl ?_
    refine r_ld (pc' := 8) hM_85 d_85_7 rfl rfl ?_
    refine r_gI (pc' := 11) (k0 := 10) hM_85 d_85_8 rfl (by decide +kernel) ?_
    exact hk
  refine ok_ic (pc' := 37) (pc2 := 14) hM_85 d_85_11 (by decide) rfl (fun hz1 => ?_) (fun hz1 => ?_)
  · have H := H.1 hz1
    refine ok_sg (pc' := 38) (ls' := [some (.inr (.inr (some 34))), some (.inl x), some (.inl s), some (.inl i)]) (st' := [.inl x]) (m' := m) (fun fx hfx o hk => ?_) ?_
    · refine r_ld (pc' := 38) hM_85 d_85_37 rfl rfl ?_
      exact hk
    exact ok_rt (fun fx _ => rt_i hM_85 d_85_38 rfl) H
  · have H := H.2 hz1
    obtain ⟨hz2, H⟩ := H
    refine ok_sg (pc' := 16) (ls' := [some (.inr (.inr (some 34))), some (.inl x), some (.inl s), some (.inl i)]) (st' := [.inl s, .inr (.inr (some 34))]) (m' := m) (fun fx hfx o hk => ?_) ?_
    · refine r_ld (pc' := 15) hM_85 d_85_14 rfl rfl ?_
      refine r_ld (pc' := 16) hM_85 d_85_15 rfl rfl ?_
      exact hk
    refine ok_cl (pc' := 19) (c := (86, 0)) (a := [.inr (.inr (some 34)), .inl s]) (q := []) hM_85 d_85_16 rfl (by decide +kernel) hM_86 rfl rfl rfl (Nat.le_of_ble_eq_true rfl) (Nat.le_of_ble_eq_true rfl) (Or.inr rfl) (z_86  m s hz2) (Nat.le_of_ble_eq_true rfl) ?_
    rintro _ m1 ⟨rfl, hz3⟩
    replace H := H  m1 hz3
    show ok 2 85 19 [some (.inr (.inr (some 34))), some (.inl x), some (.inl s), some (.inl i)] [.inl (if alb m s.toNat (m 2 4).toNat = true then 1 else 0)] m1 Q
    refine ok_if (pc' := 25) (pc2 := 22) hM_85 d_85_19 (by decide) rfl (fun hz4 => ?_) (fun hz4 => ?_)
    · have H := H.1 (as_ite.mp hz4)
      refine ok_sg (pc' := 6) (ls' := [some (.inr (.inr (some 34))), some (.inl x), some (.inl (v_88 m1 s)), some (.inl (i + 1))]) (st' := []) (m' := m1) (fun fx hfx o hk => ?_) ?_
      · refine r_ld (pc' := 26) hM_85 d_85_25 rfl rfl ?_
        refine r_ld (pc' := 27) hM_85 d_85_26 rfl rfl ?_
        refine r_cl (pc' := 30) (c := (88, 0)) (a := [.inr (.inr (some 34)), .inl s]) (q := []) hM_85 d_85_27 rfl (by decide +kernel) hM_88 rfl rfl rfl (Nat.le_of_ble_eq_true rfl) (Nat.le_of_ble_eq_true rfl) (Or.inr rfl) (c_88  m1 s) (Nat.le_of_ble_eq_true rfl) ?_
        show rn fx 2 (0, 0) 85 30 [some (.inr (.inr (some 34))), some (.inl x), some (.inl s), some (.inl i)] [.inl (v_88 m1 s)] (st0 m1) o
        refine r_sto (pc' := 31) (ls' := [some (.inr (.inr (some 34))), some (.inl x), some (.inl (v_88 m1 s)), some (.inl i)]) hM_85 d_85_30 rfl rfl ?_
        refine r_sto (pc' := 34) (ls' := [some (.inr (.inr (some 34))), some (.inl x), some (.inl (v_88 m1 s)), some (.inl (i + 1))]) hM_85 d_85_31 rfl rfl ?_
        refine r_go (pc' := 6) hM_85 d_85_34 (by decide) ?_
        exact hk
      exact H
    · have H := H.2 (as_iteN.mp hz4)
      refine ok_sg (pc' := 6) (ls' := [some (.inr (.inr (some 34))), some (.inl (x + 1)), some (.inl (v_88 m1 s)), some (.inl (i + 1))]) (st' := []) (m' := m1) (fun fx hfx o hk => ?_) ?_
      · refine r_sto (pc' := 25) (ls' := [some (.inr (.inr (some 34))), some (.inl (x + 1)), some (.inl s), some (.inl i)]) hM_85 d_85_22 rfl rfl ?_
        refine r_ld (pc' := 26) hM_85 d_85_25 rfl rfl ?_
        refine r_ld (pc' := 27) hM_85 d_85_26 rfl rfl ?_
        refine r_cl (pc' := 30) (c := (88, 0)) (a := [.inr (.inr (some 34)), .inl s]) (q := []) hM_85 d_85_27 rfl (by decide +kernel) hM_88 rfl rfl rfl (Nat.le_of_ble_eq_true rfl) (Nat.le_of_ble_eq_true rfl) (Or.inr rfl) (c_88  m1 s) (Nat.le_of_ble_eq_true rfl) ?_
        show rn fx 2 (0, 0) 85 30 [some (.inr (.inr (some 34))), some (.inl (x + 1)), some (.inl s), some (.inl i)] [.inl (v_88 m1 s)] (st0 m1) o
        refine r_sto (pc' := 31) (ls' := [some (.inr (.inr (some 34))), some (.inl (x + 1)), some (.inl (v_88 m1 s)), some (.inl i)]) hM_85 d_85_30 rfl rfl ?_
        refine r_sto (pc' := 34) (ls' := [some (.inr (.inr (some 34))), some (.inl (x + 1)), some (.inl (v_88 m1 s)), some (.inl (i + 1))]) hM_85 d_85_31 rfl rfl ?_
        refine r_go (pc' := 6) hM_85 d_85_34 (by decide) ?_
        exact hk
      exact H
theorem u_85_0 {Q : List am_V → am_M → Prop} {m : am_M}   (H : ok 2 85 6 [some (.inr (.inr (some 34))), some (.inl 0), some (.inl 0), some (.inl 0)] [] m Q) : ok 2 85 0 [some (.inr (.inr (some 34))), none, none, none] [] m Q := by
  refine ok_sg (pc' := 6) (ls' := [some (.inr (.inr (some 34))), some (.inl 0), some (.inl 0), some (.inl 0)]) (st' := []) (m' := m) (fun fx hfx o hk => ?_) ?_
  · refine r_k (pc' := 1) (v := .inl 0) hM_85 d_85_0 rfl rfl ?_
    refine r_sto (pc' := 2) (ls' := [some (.inr (.inr (some 34))), some (.inl 0), none, none]) hM_85 d_85_1 rfl rfl ?_
    refine r_k (pc' := 3) (v := .inl 0) hM_85 d_85_2 rfl rfl ?_
    refine r_sto (pc' := 4) (ls' := [some (.inr (.inr (some 34))), some (.inl 0), some (.inl 0), none]) hM_85 d_85_3 rfl rfl ?_
    refine r_k (pc' := 5) (v := .inl 0) hM_85 d_85_4 rfl rfl ?_
    refine r_sto (pc' := 6) (ls' := [some (.inr (.inr (some 34))), some (.inl 0), some (.inl 0), some (.inl 0)]) hM_85 d_85_5 rfl rfl ?_
    exact hk
  exact H
