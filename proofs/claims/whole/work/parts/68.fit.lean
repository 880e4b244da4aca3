/-- a walk over the sets within F one after the other -/
def wk {σ : Type} (st : σ → Nat → σ) (Q : Nat → Bool) (F : Nat) (x : σ) : Nat → σ
  | 0 => x
  | i + 1 => if Q (en F i) = true then st (wk st Q F x i) (en F i) else wk st Q F x i
theorem wk_s {σ : Type} {st : σ → Nat → σ} {Q : Nat → Bool} {F : Nat} {x : σ} {i : Nat} : wk st Q F x (i + 1) = if Q (en F i) = true then st (wk st Q F x i) (en F i) else wk st Q F x i := rfl
theorem wk_fr {σ : Type} {st : σ → Nat → σ} {Q : Nat → Bool} {F : Nat} {x : σ} (hF : F < 4096) (hQ : ∀ t, Q t = true → sb F t) : ∀ i, i ≤ 2 ^ cnt F 12 → wk st Q F x i = fr st Q x (bd F i) := by
  intro i
  induction i with
  | zero => intro _; rw [bd_0]; rfl
  | succ i ih => intro h; rw [wk_s, ih (by omega), fr_bd hF hQ (by omega)]
theorem wk_all {σ : Type} {st : σ → Nat → σ} {Q : Nat → Bool} {F : Nat} {x : σ} (hF : F < 4096) (hQ : ∀ t, Q t = true → sb F t) : wk st Q F x (2 ^ cnt F 12) = fr st Q x (F + 1) := by
  rw [wk_fr hF hQ _ (Nat.le_refl _), bd_end]
theorem cp_s {F : Nat} : am_s ((2 ^ cnt F 12 : Nat) : Int) = ((2 ^ cnt F 12 : Nat) : Int) := by
  have h := cp_lt (F := F)
  generalize 2 ^ cnt F 12 = c at *
  exact am_s_id (by omega) (by omega)
def wc (Q : Nat → Bool) (F : Nat) (i : Nat) : Nat := wk (fun (c : Nat) _ => c + 1) Q F 0 i
theorem wc_s {Q : Nat → Bool} {F i : Nat} : wc Q F (i + 1) = if Q (en F i) = true then wc Q F i + 1 else wc Q F i := rfl
theorem wc_all {Q : Nat → Bool} {F : Nat} (hF : F < 4096) (hQ : ∀ t, Q t = true → sb F t) : wc Q F (2 ^ cnt F 12) = cf Q (F + 1) := by
  unfold wc
  rw [wk_all hF hQ, cf_fr]
theorem wc_cf {Q : Nat → Bool} {F i : Nat} (hF : F < 4096) (hQ : ∀ t, Q t = true → sb F t) (hi : i < 2 ^ cnt F 12) : wc Q F i = cf Q (en F i) := by
  unfold wc
  rw [wk_fr hF hQ _ (by omega), cf_fr]
  unfold bd
  rw [if_pos hi]
theorem wc_le {Q : Nat → Bool} {F : Nat} : ∀ i, wc Q F i ≤ i := by
  intro i
  induction i with
  | zero => exact Nat.le_refl _
  | succ i ih => rw [wc_s]; split <;> omega
theorem cf_le {Q : Nat → Bool} : ∀ b, cf Q b ≤ b := by
  intro b
  induction b with
  | zero => exact Nat.le_refl _
  | succ b ih => rw [cf_s]; split <;> omega
theorem cf_lt {Q : Nat → Bool} {a b : Nat} (h : a < b) (hq : Q a = true) : cf Q a < cf Q b := by
  have := cf_mono (Q := Q) (show a + 1 ≤ b from h)
  rw [cf_s, if_pos hq] at this
  omega
/-- what was gathered, one after the other -/
def itk {σ : Type} (st : σ → Nat → σ) (f : Nat → Nat) (x : σ) : Nat → σ
  | 0 => x
  | k + 1 => st (itk st f x k) (f k)
theorem itk_s {σ : Type} {st : σ → Nat → σ} {f : Nat → Nat} {x : σ} {k : Nat} : itk st f x (k + 1) = st (itk st f x k) (f k) := rfl
theorem itk_fr {σ : Type} {st : σ → Nat → σ} {f : Nat → Nat} {Q : Nat → Bool} {x : σ} : ∀ b, (∀ t, t < b → Q t = true → f (cf Q t) = t) → itk st f x (cf Q b) = fr st Q x b := by
  intro b
  induction b with
  | zero => intro _; rfl
  | succ b ih =>
    intro h
    rw [cf_s, fr_s, ← ih fun t ht => h t (by omega)]
    split
    · rename_i hq
      rw [itk_s, h b (by omega) hq]
    · rfl
/-- the k-th that is wanted -/
theorem cf_nth {Q : Nat → Bool} : ∀ b k, k < cf Q b → ∃ t, t < b ∧ Q t = true ∧ cf Q t = k := by
  intro b
  induction b with
  | zero => intro k h; exact absurd h (Nat.not_lt_zero _)
  | succ b ih =>
    intro k h
    rw [cf_s] at h
    by_cases hk : k < cf Q b
    · obtain ⟨t, h1, h2⟩ := ih k hk
      exact ⟨t, by omega, h2⟩
    · by_cases hq : Q b = true
      · rw [if_pos hq] at h
        exact ⟨b, by omega, hq, by omega⟩
      · rw [if_neg hq] at h
        omega
theorem z_85   (m : am_M)  (hq : ALW m) : ok 2 85 0 (am_ent 4 [.inr (.inr (some 34))]) [] m (fun rr m' => rr = [.inl (((cf (alq m) ((m 34 9).toNat + 1) : Nat) : Int))] ∧ m' = m) := by
  show ok 2 85 0 [some (.inr (.inr (some 34))), none, none, none] [] m _
  obtain ⟨hw, hF, hc, hb⟩ := id hq
  have hFl : (m 34 9).toNat < 4096 := by omega
  have hF9 : m 34 9 = (((m 34 9).toNat : Nat) : Int) := by omega
  have hcp := cp_lt (F := (m 34 9).toNat)
  have e10 : am_s (m 34 10) = ((2 ^ cnt (m 34 9).toNat 12 : Nat) : Int) := by rw [hc]; exact cp_s
  refine u_85_0 ?_
  refine ok_for (σ := Unit) (fun i _ => [some (.inr (.inr (some 34))), some (.inl ((wc (alq m) (m 34 9).toNat i : Nat) : Int)), some (.inl ((en (m 34 9).toNat i : Nat) : Int)), some (.inl (i : Int))]) (fun i _ M => M = m) (2 ^ cnt (m 34 9).toNat 12) ?_ ?_ () m rfl
  · rintro i hi - M rfl IH
    have hl := en_lt hFl hi
    have hs := wc_s (Q := alq M) (F := (M 34 9).toNat) (i := i)
    rw [alq_en hFl hi] at hs
    refine u_85_6 ?_
    rw [e10, am_s_id (z := (i : Int)) (by omega) (by omega), Int.toNat_natCast]
    refine ⟨fun q => by omega, fun _ => ⟨⟨hq, by omega, by omega⟩, ?_⟩⟩
    intro mx hmx
    obtain rfl := hmx.symm
    rw [v88 hF9 hFl]
    have := IH () M rfl
    rw [hs] at this
    refine ⟨fun q => ?_, fun q => ?_⟩
    · rw [if_neg q] at this
      exact this
    · rw [if_pos q] at this
      exact this
  · rintro - M rfl
    refine u_85_6 ?_
    rw [e10, cp_s, wc_all hFl (fun t h => alq_sb h)]
    exact ⟨fun _ => ⟨rfl, rfl⟩, fun q => by omega⟩
theorem u_81_0 {Q : List am_V → am_M → Prop} {m : am_M} {r : Nat} (h_r : r ∈ rowL) (H : (WFG (vw m 2) ∧ RWC m r) ∧ (∀ (m1 : am_M), (HEA m r m1) → (ALW m1) ∧ (∀ (m2 : am_M), (m2 = m1) → Q [.inl ((cf (alq m1) ((m1 34 9).toNat + 1) : Nat) : Int)] m2))) : ok 5 81 0 [some (.inr (.inr (some 34))), some (.inr (.inr (some r)))] [] m Q := by
  obtain ⟨hz1, H⟩ := H
  refine ok_sg (pc' := 2) (ls' := [some (.inr (.inr (some 34))), some (.inr (.inr (some r)))]) (st' := [.inr (.inr (some r)), .inr (.inr (some 34))]) (m' := m) (fun fx hfx o hk => ?_) ?_
  · refine r_ld (pc' := 1) hM_81 d_81_0 rfl rfl ?_
    refine r_ld (pc' := 2) hM_81 d_81_1 rfl rfl ?_
    exact hk
  refine ok_cl (pc' := 5) (c := (82, 0)) (a := [.inr (.inr (some 34)), .inr (.inr (some r))]) (q := []) hM_81 d_81_2 rfl (by decide +kernel) hM_82 rfl rfl rfl (Nat.le_of_ble_eq_true rfl) (Nat.le_of_ble_eq_true rfl) (Or.inr rfl) (z_82 h_r m  hz1) (Nat.le_of_ble_eq_true rfl) ?_
  rintro _ m1 ⟨rfl, hz2⟩
  replace H := H  m1 hz2
  show ok 5 81 5 [some (.inr (.inr (some 34))), some (.inr (.inr (some r)))] [] m1 Q
  obtain ⟨hz3, H⟩ := H
  refine ok_sg (pc' := 6) (ls' := [some (.inr (.inr (some 34))), some (.inr (.inr (some r)))]) (st' := [.inr (.inr (some 34))]) (m' := m1) (fun fx hfx o hk => ?_) ?_
  · refine r_ld (pc' := 6) hM_81 d_81_5 rfl rfl ?_
    exact hk
  refine ok_cl (pc' := 9) (c := (85, 0)) (a := [.inr (.inr (some 34))]) (q := []) hM_81 d_81_6 rfl (by decide +kernel) hM_85 rfl rfl rfl (Nat.le_of_ble_eq_true rfl) (Nat.le_of_ble_eq_true rfl) (Or.inr rfl) (z_85  m1  hz3) (Nat.le_of_ble_eq_true rfl) ?_
  rintro _ m2 ⟨rfl, hz4⟩
  replace H := H  m2 hz4
  show ok 5 81 9 [some (.inr (.inr (some 34))), some (.inr (.inr (some r)))] [.inl ((cf (alq m1) ((m1 34 9).toNat + 1) : Nat) : Int)] m2 Q
  exact ok_rt (fun fx _ => rt_i hM_81 d_81_9 rfl) H
theorem u_80_0 {Q : List am_V → am_M → Prop} {m : am_M} {a : Int}  (H : (RWS m) ∧ (((am_s ((rfu m (am_s a))) = 0) → (0 ≤ am_s a ∧ am_s a < (4 : Nat)) ∧ (∀ y1 : Int, y1 = (if ¬ am_s (m (25 + 2 * (am_s a).toNat) 2) = am_s (m 2 4) then (-7) else 0) → Q [.inl y1] m)) ∧ ((¬ (am_s ((rfu m (am_s a))) = 0)) → Q [.inl ((rfu m (am_s a)))] m))) : ok 2 80 0 [some (.inr (.inr (some 0))), some (.inl a), none] [] m Q := by
  obtain ⟨hz1, H⟩ := H
  refine ok_sg (pc' := 7) (ls' := [some (.inr (.inr (some 0))), some (.inl a), some (.inl ((rfu m (am_s a))))]) (st' := [.inl ((rfu m (am_s a)))]) (m' := m) (fun fx hfx o hk => ?_) ?_
  · refine r_ld (pc' := 1) hM_80 d_80_0 rfl rfl ?_
    refine r_ld (pc' := 2) hM_80 d_80_1 rfl rfl ?_
    refine r_cl (pc' := 5) (c := (59, 0)) (a := [.inr (.inr (some 0)), .inl a]) (q := []) hM_80 d_80_2 rfl (by decide +kernel) hM_59 rfl rfl rfl (Nat.le_of_ble_eq_true rfl) (Nat.le_of_ble_eq_true rfl) (Or.inr rfl) (n_59  m a hz1) (Nat.le_of_ble_eq_true rfl) ?_
    show rn fx 2 (0, 0) 80 5 [some (.inr (.inr (some 0))), some (.inl a), none] [.inl ((rfu m (am_s a)))] (st0 m) o
    refine r_sto (pc' := 6) (ls' := [some (.inr (.inr (some 0))), some (.inl a), some (.inl ((rfu m (am_s a))))]) hM_80 d_80_5 rfl rfl ?_
    refine r_ld (pc' := 7) hM_80 d_80_6 rfl rfl ?_
    exact hk
  refine ok_if (pc' := 12) (pc2 := 10) hM_80 d_80_7 (by decide) rfl (fun hz2 => ?_) (fun hz2 => ?_)
  · have H := H.1 hz2
    obtain ⟨hz3, H⟩ := H
    refine ok_sg (pc' := 28) (ls' := [some (.inr (.inr (some 0))), some (.inl a), some (.inl ((rfu m (am_s a))))]) (st' := [.inl (m 2 4), .inl (m (25 + 2 * (am_s a).toNat) 2)]) (m' := m) (fun fx hfx o hk => ?_) ?_
    · refine r_ld (pc' := 13) hM_80 d_80_12 rfl rfl ?_
      refine r_gR (pc' := 16) (v := 14) hM_80 d_80_13 rfl (by decide +kernel) ?_
      refine r_ld (pc' := 17) hM_80 d_80_16 rfl rfl ?_
      refine r_aa (pc' := 18) (n := 4) hM_80 d_80_17 rfl rfl (by decide) hz3 (rfRows hz3).1 (shRk (rfRows hz3).2).1 ?_
      refine r_gI (pc' := 21) (k0 := 2) hM_80 d_80_18 rfl (gfR_1_144 ((rfRows hz3).2)) ?_
      refine r_ld (pc' := 22) hM_80 d_80_21 rfl rfl ?_
      refine r_gR (pc' := 25) (v := 2) hM_80 d_80_22 rfl (by decide +kernel) ?_
      refine r_gI (pc' := 28) (k0 := 4) hM_80 d_80_25 rfl (by decide +kernel) ?_
      exact hk
    refine ok_sg (pc' := 37) (ls' := [some (.inr (.inr (some 0))), some (.inl a), some (.inl ((rfu m (am_s a))))]) (st' := [.inl (if ¬ am_s (m (25 + 2 * (am_s a).toNat) 2) = am_s (m 2 4) then (-7) else 0)]) (m' := m) (fun fx hfx o K => ?_) ?_
    · refine r_ic (pc' := 35) (pc2 := 31) hM_80 d_80_28 (by decide) rfl (fun hz4 => ?_) (fun hz4 => ?_)
      · have hz4 : ¬ am_s (m (25 + 2 * (am_s a).toNat) 2) = am_s (m 2 4) := hz4
        rw [if_pos hz4] at K
        refine r_k (pc' := 37) (v := .inl (-7)) hM_80 d_80_35 rfl rfl ?_
        exact K
      · have hz4 : ¬ (¬ am_s (m (25 + 2 * (am_s a).toNat) 2) = am_s (m 2 4)) := hz4
        rw [if_neg hz4] at K
        refine r_k (pc' := 32) (v := .inl 0) hM_80 d_80_31 rfl rfl ?_
        refine r_go (pc' := 37) hM_80 d_80_32 (by decide) ?_
        exact K
    have K : ∀ y1 : Int, y1 = (if ¬ am_s (m (25 + 2 * (am_s a).toNat) 2) = am_s (m 2 4) then (-7) else 0) → ok 2 80 37 [some (.inr (.inr (some 0))), some (.inl a), some (.inl ((rfu m (am_s a))))] [.inl y1] m Q := by
      intro y1 hy1
      replace H := H y1 hy1
      exact ok_rt (fun fx _ => rt_i hM_80 d_80_37 rfl) H
    exact K _ rfl
  · have H := H.2 hz2
    refine ok_sg (pc' := 11) (ls' := [some (.inr (.inr (some 0))), some (.inl a), some (.inl ((rfu m (am_s a))))]) (st' := [.inl ((rfu m (am_s a)))]) (m' := m) (fun fx hfx o hk => ?_) ?_
    · refine r_ld (pc' := 11) hM_80 d_80_10 rfl rfl ?_
      exact hk
    exact ok_rt (fun fx _ => rt_i hM_80 d_80_11 rfl) H
theorem u_214_2 {Q : List am_V → am_M → Prop} {m : am_M} {j : Int} {s : Int} {p : Int}  (H : ((am_s (m 54 0) ≤ am_s p) → Q [.inl 1] m) ∧ ((¬ (am_s (m 54 0) ≤ am_s p)) → (0 ≤ am_s ((40 * j) + p) ∧ am_s ((40 * j) + p) < (160 : Nat)) ∧ (((am_s (am_lcmp (m 75 ((am_s ((40 * j) + p)).toNat)) 999) = 0) → ok 3 214 2 [some (.inr (.inr (some 53))), some (.inl j), some (.inl s), some (.inl (p + 1)), none, none] [] m Q) ∧ ((¬ (am_s (am_lcmp (m 75 ((am_s ((40 * j) + p)).toNat)) 999) = 0)) → (WFG (m 54)) ∧ ((((0 ≤ am_s p ∧ am_s p < m 54 0) ∧ nv (m 54) (8 + (am_s p).toNat) = am_s 3) → Q [.inl 0] m) ∧ ((¬ ((0 ≤ am_s p ∧ am_s p < m 54 0) ∧ nv (m 54) (8 + (am_s p).toNat) = am_s 3)) → (WFG (m 54) ∧ (0 ≤ p ∧ p < m 54 0) ∧ 0 ≤ s ∧ s < 2147483648) ∧ (((am_s (am_lcmp (am_s ((hrd (nv (m 54)) p.toNat s.toNat))) (m 75 ((am_s ((40 * j) + p)).toNat))) = 0) → ok 3 214 2 [some (.inr (.inr (some 53))), some (.inl j), some (.inl s), some (.inl (p + 1)), none, none] [] m Q) ∧ ((¬ (am_s (am_lcmp (am_s ((hrd (nv (m 54)) p.toNat s.toNat))) (m 75 ((am_s ((40 * j) + p)).toNat))) = 0)) → Q [.inl 0] m)))))))) : ok 3 214 2 [some (.inr (.inr (some 53))), some (.inl j), some (.inl s), some (.inl p), none, none] [] m Q := by
  refine ok_sg (pc' := 9) (ls' := [some (.inr (.inr (some 53))), some (.inl j), some (.inl s), some (.inl p), none, none]) (st' := [.inl (m 54 0), .inl p]) (m' := m) (fun fx hfx o hk => ?_) ?_
  · refine r_ld (pc' := 3) hM_214 d_214_2 rfl rfl ?_
    refine r_ld (pc' := 4) hM_214 d_214_3 rfl rfl ?_
    refine r_gR (pc' := 7) (v := 54) hM_214 d_214_4 rfl (by decide +kernel) ?_
    refine r_k (pc' := 8) (v := .inl 0) hM_214 d_214_7 rfl rfl ?_
    refine r_iae (pc' := 9) (n := 168) (z := (m 54 0)) hM_214 d_214_8 rfl rfl (by decide) (by rw [show (am_s 0).toNat = 0 by decide]) ?_
    exact hk
  refine ok_ic (pc' := 64) (pc2 := 12) hM_214 d_214_9 (by decide) rfl (fun hz1 => ?_) (fun hz1 => ?_)
  · have H := H.1 hz1
    refine ok_sg (pc' := 65) (ls' := [some (.inr (.inr (some 53))), some (.inl j), some (.inl s), some (.inl p), none, none]) (st' := [.inl 1]) (m' := m) (fun fx hfx o hk => ?_) ?_
    · refine r_k (pc' := 65) (v := .inl 1) hM_214 d_214_64 rfl rfl ?_
      exact hk
    exact ok_rt (fun fx _ => rt_z hM_214 d_214_65 rfl (by decide)) H
  · have H := H.2 hz1
    obtain ⟨hz2, H⟩ := H
    refine ok_sg (pc' := 31) (ls' := [some (.inr (.inr (some 53))), some (.inl j), some (.inl s), some (.inl p), some (.inr (.inl (m 75 ((am_s ((40 * j) + p)).toNat)))), none]) (st' := [.inl (am_lcmp (m 75 ((am_s ((40 * j) + p)).toNat)) 999)]) (m' := m) (fun fx hfx o hk => ?_) ?_
    · refine r_ld (pc' := 13) hM_214 d_214_12 rfl rfl ?_
      refine r_gR (pc' := 16) (v := 75) hM_214 d_214_13 rfl (by decide +kernel) ?_
      refine r_k (pc' := 18) (v := .inl 40) hM_214 d_214_16 rfl rfl ?_
      refine r_ld (pc' := 19) hM_214 d_214_18 rfl rfl ?_
      refine r_b (pc' := 20) (z := (40 * j)) hM_214 d_214_19 rfl rfl ?_
      refine r_ld (pc' := 21) hM_214 d_214_20 rfl rfl ?_
      refine r_b (pc' := 22) (z := ((40 * j) + p)) hM_214 d_214_21 rfl rfl ?_
      refine r_la (pc' := 23) (n := 160) hM_214 d_214_22 rfl rfl hz2 ?_
      refine r_sto (pc' := 25) (ls' := [some (.inr (.inr (some 53))), some (.inl j), some (.inl s), some (.inl p), some (.inr (.inl (m 75 ((am_s ((40 * j) + p)).toNat)))), none]) hM_214 d_214_23 rfl rfl ?_
      refine r_ld (pc' := 27) hM_214 d_214_25 rfl rfl ?_
      refine r_k (pc' := 30) (v := .inr (.inl 999)) hM_214 d_214_27 rfl (by decide +kernel) ?_
      refine r_stk (pc' := 31) (st' := [.inl (am_lcmp (m 75 ((am_s ((40 * j) + p)).toNat)) 999)]) hM_214 d_214_30 rfl rfl ?_
      exact hk
    refine ok_if (pc' := 58) (pc2 := 34) hM_214 d_214_31 (by decide) rfl (fun hz3 => ?_) (fun hz3 => ?_)
    · have H := H.1 hz3
      refine ok_sg (pc' := 2) (ls' := [some (.inr (.inr (some 53))), some (.inl j), some (.inl s), some (.inl (p + 1)), none, none]) (st' := []) (m' := m) (fun fx hfx o hk => ?_) ?_
      · refine r_sto (pc' := 61) (ls' := [some (.inr (.inr (some 53))), some (.inl j), some (.inl s), some (.inl (p + 1)), some (.inr (.inl (m 75 ((am_s ((40 * j) + p)).toNat)))), none]) hM_214 d_214_58 rfl rfl ?_
        refine r_go (pc' := 2) hM_214 d_214_61 (by decide) ?_
        refine rn_wk (a := [some (.inr (.inr (some 53))), some (.inl j), some (.inl s), some (.inl (p + 1)), none, none]) (by simp only [am_le, and_self]) ?_
        exact hk
      exact H
    · have H := H.2 hz3
      obtain ⟨hz4, H⟩ := H
      refine ok_sg (pc' := 40) (ls' := [some (.inr (.inr (some 53))), some (.inl j), some (.inl s), some (.inl p), some (.inr (.inl (m 75 ((am_s ((40 * j) + p)).toNat)))), none]) (st' := [.inl ((if (0 ≤ am_s p ∧ am_s p < m 54 0) ∧ nv (m 54) (8 + (am_s p).toNat) = am_s 3 then 1 else 0))]) (m' := m) (fun fx hfx o hk => ?_) ?_
      · refine r_ld (pc' := 35) hM_214 d_214_34 rfl rfl ?_
        refine r_ld (pc' := 36) hM_214 d_214_35 rfl rfl ?_
        refine r_k (pc' := 37) (v := .inl 3) hM_214 d_214_36 rfl rfl ?_
        refine r_cl (pc' := 40) (c := (187, 0)) (a := [.inr (.inr (some 53)), .inl p, .inl 3]) (q := []) hM_214 d_214_37 rfl (by decide +kernel) hM_187 rfl rfl rfl (Nat.le_of_ble_eq_true rfl) (Nat.le_of_ble_eq_true rfl) (Or.inr rfl) (n_187  m p 3 hz4) (Nat.le_of_ble_eq_true rfl) ?_
        show rn fx 3 (0, 0) 214 40 [some (.inr (.inr (some 53))), some (.inl j), some (.inl s), some (.inl p), some (.inr (.inl (m 75 ((am_s ((40 * j) + p)).toNat)))), none] [.inl ((if (0 ≤ am_s p ∧ am_s p < m 54 0) ∧ nv (m 54) (8 + (am_s p).toNat) = am_s 3 then 1 else 0))] (st0 m) o
        exact hk
      refine ok_if (pc' := 56) (pc2 := 43) hM_214 d_214_40 (by decide) rfl (fun hz5 => ?_) (fun hz5 => ?_)
      · have H := H.1 (as_iteN.mp hz5)
        refine ok_sg (pc' := 57) (ls' := [some (.inr (.inr (some 53))), some (.inl j), some (.inl s), some (.inl p), some (.inr (.inl (m 75 ((am_s ((40 * j) + p)).toNat)))), none]) (st' := [.inl 0]) (m' := m) (fun fx hfx o hk => ?_) ?_
        · refine r_k (pc' := 57) (v := .inl 0) hM_214 d_214_56 rfl rfl ?_
          exact hk
        exact ok_rt (fun fx _ => rt_z hM_214 d_214_57 rfl (by decide)) H
      · have H := H.2 (as_ite.mp (Decidable.not_not.mp hz5))
        obtain ⟨hz6, H⟩ := H
        refine ok_sg (pc' := 53) (ls' := [some (.inr (.inr (some 53))), some (.inl j), some (.inl s), some (.inl p), some (.inr (.inl (m 75 ((am_s ((40 * j) + p)).toNat)))), none]) (st' := [.inl (am_lcmp (am_s ((hrd (nv (m 54)) p.toNat s.toNat))) (m 75 ((am_s ((40 * j) + p)).toNat)))]) (m' := m) (fun fx hfx o hk => ?_) ?_
        · refine r_ld (pc' := 44) hM_214 d_214_43 rfl rfl ?_
          refine r_ld (pc' := 45) hM_214 d_214_44 rfl rfl ?_
          refine r_ld (pc' := 46) hM_214 d_214_45 rfl rfl ?_
          refine r_cl (pc' := 49) (c := (210, 0)) (a := [.inr (.inr (some 53)), .inl p, .inl s]) (q := []) hM_214 d_214_46 rfl (by decide +kernel) hM_210 rfl rfl rfl (Nat.le_of_ble_eq_true rfl) (Nat.le_of_ble_eq_true rfl) (Or.inr rfl) (n_210  m p s hz6) (Nat.le_of_ble_eq_true rfl) ?_
          show rn fx 3 (0, 0) 214 49 [some (.inr (.inr (some 53))), some (.inl j), some (.inl s), some (.inl p), some (.inr (.inl (m 75 ((am_s ((40 * j) + p)).toNat)))), none] [.inl ((hrd (nv (m 54)) p.toNat s.toNat))] (st0 m) o
          refine r_stk (pc' := 50) (st' := [.inr (.inl (am_s ((hrd (nv (m 54)) p.toNat s.toNat))))]) hM_214 d_214_49 rfl rfl ?_
          refine r_ld (pc' := 52) hM_214 d_214_50 rfl rfl ?_
          refine r_stk (pc' := 53) (st' := [.inl (am_lcmp (am_s ((hrd (nv (m 54)) p.toNat s.toNat))) (m 75 ((am_s ((40 * j) + p)).toNat)))]) hM_214 d_214_52 rfl rfl ?_
          exact hk
        refine ok_if (pc' := 58) (pc2 := 56) hM_214 d_214_53 (by decide) rfl (fun hz7 => ?_) (fun hz7 => ?_)
        · have H := H.1 hz7
          refine ok_sg (pc' := 2) (ls' := [some (.inr (.inr (some 53))), some (.inl j), some (.inl s), some (.inl (p + 1)), none, none]) (st' := []) (m' := m) (fun fx hfx o hk => ?_) ?_
          · refine r_sto (pc' := 61) (ls' := [some (.inr (.inr (some 53))), some (.inl j), some (.inl s), some (.inl (p + 1)), some (.inr (.inl (m 75 ((am_s ((40 * j) + p)).toNat)))), none]) hM_214 d_214_58 rfl rfl ?_
            refine r_go (pc' := 2) hM_214 d_214_61 (by decide) ?_
            refine rn_wk (a := [some (.inr (.inr (some 53))), some (.inl j), some (.inl s), some (.inl (p + 1)), none, none]) (by simp only [am_le, and_self]) ?_
            exact hk
          exact H
        · have H := H.2 hz7
          refine ok_sg (pc' := 57) (ls' := [some (.inr (.inr (some 53))), some (.inl j), some (.inl s), some (.inl p), some (.inr (.inl (m 75 ((am_s ((40 * j) + p)).toNat)))), none]) (st' := [.inl 0]) (m' := m) (fun fx hfx o hk => ?_) ?_
          · refine r_k (pc' := 57) (v := .inl 0) hM_214 d_214_56 rfl rfl ?_
            exact hk
          exact ok_rt (fun fx _ => rt_z hM_214 d_214_57 rfl (by decide)) H
theorem u_214_0 {Q : List am_V → am_M → Prop} {m : am_M} {j : Int} {s : Int}  (H : ok 3 214 2 [some (.inr (.inr (some 53))), some (.inl j), some (.inl s), some (.inl 0), none, none] [] m Q) : ok 3 214 0 [some (.inr (.inr (some 53))), some (.inl j), some (.inl s), none, none, none] [] m Q := by
  refine ok_sg (pc' := 2) (ls' := [some (.inr (.inr (some 53))), some (.inl j), some (.inl s), some (.inl 0), none, none]) (st' := []) (m' := m) (fun fx hfx o hk => ?_) ?_
  · refine r_k (pc' := 1) (v := .inl 0) hM_214 d_214_0 rfl rfl ?_
    refine r_sto (pc' := 2) (ls' := [some (.inr (.inr (some 53))), some (.inl j), some (.inl s), some (.inl 0), none, none]) hM_214 d_214_1 rfl rfl ?_
    exact hk
  exact H
theorem ftb_no {g f : Nat → Int} {s p : Nat} (h : ftb g f s p = false) : ∀ n, p ≤ n → ftb g f s n = false := by
  intro n
  induction n with
  | zero =>
    intro hn
    have : p = 0 := by omega
    subst this
    exact h
  | succ n ih =>
    intro hn
    by_cases hp : p = n + 1
    · rw [← hp]; exact h
    · rw [ftb_s, ih (by omega), Bool.false_and]
theorem ftb_congr {g f f' : Nat → Int} {s : Nat} : ∀ n, (∀ p, p < n → f p = f' p) → ftb g f s n = ftb g f' s n := by
  intro n
  induction n with
  | zero => intro _; rfl
  | succ n ih => intro h; rw [ftb_s, ftb_s, ih fun p hp => h p (by omega), h n (by omega)]
theorem z_214   (m : am_M) (j : Int) (s : Int) (hq : WFG (m 54) ∧ RWM m ∧ (0 ≤ j ∧ j < 4) ∧ 0 ≤ s ∧ s < 4096) : ok 3 214 0 (am_ent 6 [.inr (.inr (some 53)), .inl j, .inl s]) [] m (fun rr m' => rr = [.inl ((if ftb (nv (m 54)) (rwf m j.toNat) s.toNat (m 54 0).toNat = true then 1 else 0))] ∧ m' = m) := by
  show ok 3 214 0 [some (.inr (.inr (some 53))), some (.inl j), some (.inl s), none, none, none] [] m _
  obtain ⟨hw, hR, hj, hs⟩ := hq
  have hN := hw.1
  have hwn := WFG_nv hw
  obtain ⟨J, rfl⟩ : ∃ J : Nat, j = (J : Int) := ⟨j.toNat, by omega⟩
  obtain ⟨S, rfl⟩ : ∃ S : Nat, s = (S : Int) := ⟨s.toNat, by omega⟩
  rw [Int.toNat_natCast, Int.toNat_natCast]
  obtain ⟨g1, g2, g3⟩ := hR J (by omega)
  refine u_214_0 ?_
  refine ok_for (σ := Unit) (fun p _ => [some (.inr (.inr (some 53))), some (.inl (J : Int)), some (.inl (S : Int)), some (.inl (p : Int)), none, none]) (fun p _ M => ftb (nv (m 54)) (rwf m J) S p = true ∧ M = m) (m 54 0).toNat ?_ ?_ () m ⟨rfl, rfl⟩
  · rintro p hp - M ⟨h1, rfl⟩ IH
    have e1 : am_s (40 * (J : Int) + (p : Int)) = 40 * (J : Int) + (p : Int) := am_s_id (by omega) (by omega)
    have e2 : (40 * (J : Int) + (p : Int)).toNat = 40 * J + p := by omega
    have e3 : am_t (M 75 (40 * J + p)) = M 75 (40 * J + p) := g3 p (by omega)
    have hr := hrd_rng (B := S) hwn (p := p) (by omega)
    have e4 : am_s (hrd (nv (M 54)) p S) = hrd (nv (M 54)) p S := am_s_id (by omega) (by omega)
    refine u_214_2 ?_
    rw [am_s_id (z := M 54 0) (by omega) (by omega), am_s_id (z := (p : Int)) (by omega) (by omega), e1, e2, Int.toNat_natCast, Int.toNat_natCast, lcmp_eq, e3, show am_t 999 = 999 from rfl, e4, lcmp_eq, e3, t32 e4, show am_s 3 = 3 from rfl]
    have hst : ftb (nv (M 54)) (rwf M J) S (p + 1) = decide (M 75 (40 * J + p) = 999 ∨ (nv (M 54) (8 + p) ≠ 3 ∧ hrd (nv (M 54)) p S = M 75 (40 * J + p))) := by
      rw [ftb_s, h1, Bool.true_and]
      rfl
    have no : ¬ (M 75 (40 * J + p) = 999 ∨ (nv (M 54) (8 + p) ≠ 3 ∧ hrd (nv (M 54)) p S = M 75 (40 * J + p))) → [Sum.inl (0 : Int)] = ([Sum.inl (if ftb (nv (M 54)) (rwf M J) S (M 54 0).toNat = true then 1 else 0)] : List am_V) := by
      intro h
      rw [decide_eq_false h] at hst
      rw [ftb_no hst _ (by omega)]
      rfl
    refine ⟨fun q => by omega, fun _ => ⟨by omega, fun q => IH () M ⟨?_, rfl⟩, fun q => ⟨hw, fun q2 => ⟨no ?_, rfl⟩, fun q2 => ⟨⟨hw, by omega, by omega⟩, fun q3 => IH () M ⟨?_, rfl⟩, fun q3 => ⟨no ?_, rfl⟩⟩⟩⟩⟩
    · rw [hst]; exact decide_eq_true (Or.inl q)
    · intro h
      rcases h with h | h
      · exact q h
      · exact h.1 q2.2
    · rw [hst]
      exact decide_eq_true (Or.inr ⟨fun k => q2 ⟨by omega, k⟩, q3⟩)
    · intro h
      rcases h with h | h
      · exact q h
      · exact q3 h.2
  · rintro - M ⟨h1, rfl⟩
    refine u_214_2 ?_
    rw [am_s_id (z := M 54 0) (by omega) (by omega), am_s_id (z := (((M 54 0).toNat : Nat) : Int)) (by omega) (by omega), h1]
    exact ⟨fun _ => ⟨rfl, rfl⟩, fun q => by omega⟩
theorem u_213_65 {Q : List am_V → am_M → Prop} {m : am_M} {j : Int} {f : Int} {s : Int}  (H : ((am_s f < am_s s) → Q [.inl 0] m) ∧ ((¬ (am_s f < am_s s)) → ((¬ am_s (am_and s (am_xor f (-1))) = 0) → ok 4 213 65 [some (.inr (.inr (some 53))), some (.inl j), some (.inl f), some (.inl (s + 1))] [] m Q) ∧ ((am_s (am_and s (am_xor f (-1))) = 0) → (WFG (m 54) ∧ RWM m ∧ (0 ≤ j ∧ j < 4) ∧ 0 ≤ s ∧ s < 4096) ∧ (∀ (m1 : am_M), (m1 = m) → ((ftb (nv (m 54)) (rwf m j.toNat) s.toNat (m 54 0).toNat = true) → (0 ≤ am_s (m1 53 19) ∧ am_s (m1 53 19) < (4096 : Nat)) ∧ (ok 4 213 65 [some (.inr (.inr (some 53))), some (.inl j), some (.inl f), some (.inl (s + 1))] [] (mu (mu m1 59 ((am_s (m1 53 19)).toNat) s) 53 19 ((m1 53 19) + 1)) Q)) ∧ ((¬ (ftb (nv (m 54)) (rwf m j.toNat) s.toNat (m 54 0).toNat = true)) → ok 4 213 65 [some (.inr (.inr (some 53))), some (.inl j), some (.inl f), some (.inl (s + 1))] [] m1 Q))))) : ok 4 213 65 [some (.inr (.inr (some 53))), some (.inl j), some (.inl f), some (.inl s)] [] m Q := by
  refine ok_sg (pc' := 67) (ls' := [some (.inr (.inr (some 53))), some (.inl j), some (.inl f), some (.inl s)]) (st' := [.inl f, .inl s]) (m' := m) (fun fx hfx o hk => ?_) ?_
  · refine r_ld (pc' := 66) hM_213 d_213_65 rfl rfl ?_
    refine r_ld (pc' := 67) hM_213 d_213_66 rfl rfl ?_
    exact hk
  refine ok_ic (pc' := 116) (pc2 := 70) hM_213 d_213_67 (by decide) rfl (fun hz1 => ?_) (fun hz1 => ?_)
  · have H := H.1 hz1
    refine ok_sg (pc' := 117) (ls' := [some (.inr (.inr (some 53))), some (.inl j), some (.inl f), some (.inl s)]) (st' := [.inl 0]) (m' := m) (fun fx hfx o hk => ?_) ?_
    · refine r_k (pc' := 117) (v := .inl 0) hM_213 d_213_116 rfl rfl ?_
      exact hk
    exact ok_rt (fun fx _ => rt_i hM_213 d_213_117 rfl) H
  · have H := H.2 hz1
    refine ok_sg (pc' := 75) (ls' := [some (.inr (.inr (some 53))), some (.inl j), some (.inl f), some (.inl s)]) (st' := [.inl (am_and s (am_xor f (-1)))]) (m' := m) (fun fx hfx o hk => ?_) ?_
    · refine r_ld (pc' := 71) hM_213 d_213_70 rfl rfl ?_
      refine r_ld (pc' := 72) hM_213 d_213_71 rfl rfl ?_
      refine r_k (pc' := 73) (v := .inl (-1)) hM_213 d_213_72 rfl rfl ?_
      refine r_b (pc' := 74) (z := (am_xor f (-1))) hM_213 d_213_73 rfl rfl ?_
      refine r_b (pc' := 75) (z := (am_and s (am_xor f (-1)))) hM_213 d_213_74 rfl rfl ?_
      exact hk
    refine ok_if (pc' := 110) (pc2 := 78) hM_213 d_213_75 (by decide) rfl (fun hz2 => ?_) (fun hz2 => ?_)
    · have H := H.1 hz2
      refine ok_sg (pc' := 65) (ls' := [some (.inr (.inr (some 53))), some (.inl j), some (.inl f), some (.inl (s + 1))]) (st' := []) (m' := m) (fun fx hfx o hk => ?_) ?_
      · refine r_sto (pc' := 113) (ls' := [some (.inr (.inr (some 53))), some (.inl j), some (.inl f), some (.inl (s + 1))]) hM_213 d_213_110 rfl rfl ?_
        refine r_go (pc' := 65) hM_213 d_213_113 (by decide) ?_
        exact hk
      exact H
    · have H := H.2 (Decidable.not_not.mp hz2)
      obtain ⟨hz3, H⟩ := H
      refine ok_sg (pc' := 81) (ls' := [some (.inr (.inr (some 53))), some (.inl j), some (.inl f), some (.inl s)]) (st' := [.inl s, .inl j, .inr (.inr (some 53))]) (m' := m) (fun fx hfx o hk => ?_) ?_
      · refine r_ld (pc' := 79) hM_213 d_213_78 rfl rfl ?_
        refine r_ld (pc' := 80) hM_213 d_213_79 rfl rfl ?_
        refine r_ld (pc' := 81) hM_213 d_213_80 rfl rfl ?_
        exact hk
      refine ok_cl (pc' := 84) (c := (214, 0)) (a := [.inr (.inr (some 53)), .inl j, .inl s]) (q := []) hM_213 d_213_81 rfl (by decide +kernel) hM_214 rfl rfl rfl (Nat.le_of_ble_eq_true rfl) (Nat.le_of_ble_eq_true rfl) (Or.inr rfl) (z_214  m j s hz3) (Nat.le_of_ble_eq_true rfl) ?_
      rintro _ m1 ⟨rfl, hz4⟩
      replace H := H  m1 hz4
      show ok 4 213 84 [some (.inr (.inr (some 53))), some (.inl j), some (.inl f), some (.inl s)] [.inl (if ftb (nv (m 54)) (rwf m j.toNat) s.toNat (m 54 0).toNat = true then 1 else 0)] m1 Q
      refine ok_if (pc' := 90) (pc2 := 87) hM_213 d_213_84 (by decide) rfl (fun hz5 => ?_) (fun hz5 => ?_)
      · have H := H.1 (as_iteN.mp hz5)
        obtain ⟨hz6, H⟩ := H
        refine ok_sg (pc' := 65) (ls' := [some (.inr (.inr (some 53))), some (.inl j), some (.inl f), some (.inl (s + 1))]) (st' := []) (m' := mu (mu m1 59 ((am_s (m1 53 19)).toNat) s) 53 19 ((m1 53 19) + 1)) (fun fx hfx o hk => ?_) ?_
        · refine r_ld (pc' := 91) hM_213 d_213_90 rfl rfl ?_
          refine r_gR (pc' := 94) (v := 59) hM_213 d_213_91 rfl (by decide +kernel) ?_
          refine r_ld (pc' := 95) hM_213 d_213_94 rfl rfl ?_
          refine r_gI (pc' := 98) (k0 := 19) hM_213 d_213_95 rfl (by decide +kernel) ?_
          refine r_ld (pc' := 99) hM_213 d_213_98 rfl rfl ?_
          refine r_is (pc' := 100) (n := 4096) hM_213 d_213_99 rfl rfl hz6 ?_
          refine r_ld (pc' := 101) hM_213 d_213_100 rfl rfl ?_
          refine r_stk (pc' := 102) (st' := [.inr (.inr (some 53)), .inr (.inr (some 53))]) hM_213 d_213_101 rfl rfl ?_
          refine r_gIe (pc' := 105) (k0 := 19) (z := (m1 53 19)) hM_213 d_213_102 rfl (by decide +kernel) (mu_r (by decide)) ?_
          refine r_k (pc' := 106) (v := .inl 1) hM_213 d_213_105 rfl rfl ?_
          refine r_b (pc' := 107) (z := ((m1 53 19) + 1)) hM_213 d_213_106 rfl rfl ?_
          refine r_pI (pc' := 110) (k0 := 19) hM_213 d_213_107 rfl (by decide +kernel) ?_
          refine r_sto (pc' := 113) (ls' := [some (.inr (.inr (some 53))), some (.inl j), some (.inl f), some (.inl (s + 1))]) hM_213 d_213_110 rfl rfl ?_
          refine r_go (pc' := 65) hM_213 d_213_113 (by decide) ?_
          exact hk
        exact H
      · have H := H.2 (as_ite.mp (Decidable.not_not.mp hz5))
        refine ok_sg (pc' := 65) (ls' := [some (.inr (.inr (some 53))), some (.inl j), some (.inl f), some (.inl (s + 1))]) (st' := []) (m' := m1) (fun fx hfx o hk => ?_) ?_
        · refine r_go (pc' := 110) hM_213 d_213_87 (by decide) ?_
          refine r_sto (pc' := 113) (ls' := [some (.inr (.inr (some 53))), some (.inl j), some (.inl f), some (.inl (s + 1))]) hM_213 d_213_110 rfl rfl ?_
          refine r_go (pc' := 65) hM_213 d_213_113 (by decide) ?_
          exact hk
        exact H
theorem u_213_0 {Q : List am_V → am_M → Prop} {m : am_M} {j : Int}  (H : ((0 ≤ am_s j ∧ am_s j ≤ 3) → (0 ≤ am_s j ∧ am_s j < (4 : Nat)) ∧ (((¬ am_s (m 73 ((am_s j).toNat)) = (-1)) → ((am_s (m 74 ((am_s j).toNat)) = am_s (m 54 0)) → (WFG (m 54)) ∧ (ok 4 213 65 [some (.inr (.inr (some 53))), some (.inl j), some (.inl (am_or (((ons (nv (m 54)) (am_s 0) : Nat) : Int)) (((ons (nv (m 54)) (am_s 1) : Nat) : Int)))), some (.inl 0)] [] (mu m 53 19 0) Q)) ∧ ((¬ (am_s (m 74 ((am_s j).toNat)) = am_s (m 54 0))) → Q [.inl (-7)] m)) ∧ ((am_s (m 73 ((am_s j).toNat)) = (-1)) → Q [.inl (-6)] m))) ∧ ((¬ (0 ≤ am_s j ∧ am_s j ≤ 3)) → Q [.inl (-2)] m)) : ok 4 213 0 [some (.inr (.inr (some 53))), some (.inl j), none, none] [] m Q := by
  refine ok_sg (pc' := 9) (ls' := [some (.inr (.inr (some 53))), some (.inl j), none, none]) (st' := [.inl (if 0 ≤ am_s j ∧ am_s j ≤ 3 then 1 else 0)]) (m' := m) (fun fx hfx o hk => ?_) ?_
  · refine r_ld (pc' := 1) hM_213 d_213_0 rfl rfl ?_
    refine r_stk (pc' := 2) (st' := [.inr (.inl (am_s j))]) hM_213 d_213_1 rfl rfl ?_
    refine r_k (pc' := 3) (v := .inr (.inl 0)) hM_213 d_213_2 rfl rfl ?_
    refine r_k (pc' := 6) (v := .inr (.inl 3)) hM_213 d_213_3 rfl (by decide +kernel) ?_
    refine r_cl (pc' := 9) (c := (167, 2)) (a := [.inr (.inl (am_s j)), .inr (.inl 0), .inr (.inl 3)]) (q := []) hM_213 d_213_6 rfl (by decide +kernel) hM_167 rfl rfl rfl (Nat.le_of_ble_eq_true rfl) (Nat.le_of_ble_eq_true rfl) (Or.inl rfl) (n_167s m j 0 3 rfl rfl) (Nat.le_of_ble_eq_true rfl) ?_
    show rn fx 4 (0, 0) 213 9 [some (.inr (.inr (some 53))), some (.inl j), none, none] [.inl (if 0 ≤ am_s j ∧ am_s j ≤ 3 then 1 else 0)] (st0 m) o
    exact hk
  refine ok_if (pc' := 15) (pc2 := 12) hM_213 d_213_9 (by decide) rfl (fun hz1 => ?_) (fun hz1 => ?_)
  · have H := H.1 (as_iteN.mp hz1)
    obtain ⟨hz2, H⟩ := H
    refine ok_sg (pc' := 22) (ls' := [some (.inr (.inr (some 53))), some (.inl j), none, none]) (st' := [.inl (-1), .inl (m 73 ((am_s j).toNat))]) (m' := m) (fun fx hfx o hk => ?_) ?_
    · refine r_ld (pc' := 16) hM_213 d_213_15 rfl rfl ?_
      refine r_gR (pc' := 19) (v := 73) hM_213 d_213_16 rfl (by decide +kernel) ?_
      refine r_ld (pc' := 20) hM_213 d_213_19 rfl rfl ?_
      refine r_ia (pc' := 21) (n := 4) hM_213 d_213_20 rfl rfl hz2 ?_
      refine r_k (pc' := 22) (v := .inl (-1)) hM_213 d_213_21 rfl rfl ?_
      exact hk
    refine ok_ic (pc' := 28) (pc2 := 25) hM_213 d_213_22 (by decide) rfl (fun hz3 => ?_) (fun hz3 => ?_)
    · have H := H.1 hz3
      refine ok_sg (pc' := 40) (ls' := [some (.inr (.inr (some 53))), some (.inl j), none, none]) (st' := [.inl (m 54 0), .inl (m 74 ((am_s j).toNat))]) (m' := m) (fun fx hfx o hk => ?_) ?_
      · refine r_ld (pc' := 29) hM_213 d_213_28 rfl rfl ?_
        refine r_gR (pc' := 32) (v := 74) hM_213 d_213_29 rfl (by decide +kernel) ?_
        refine r_ld (pc' := 33) hM_213 d_213_32 rfl rfl ?_
        refine r_ia (pc' := 34) (n := 4) hM_213 d_213_33 rfl rfl hz2 ?_
        refine r_ld (pc' := 35) hM_213 d_213_34 rfl rfl ?_
        refine r_gR (pc' := 38) (v := 54) hM_213 d_213_35 rfl (by decide +kernel) ?_
        refine r_k (pc' := 39) (v := .inl 0) hM_213 d_213_38 rfl rfl ?_
        refine r_iae (pc' := 40) (n := 168) (z := (m 54 0)) hM_213 d_213_39 rfl rfl (by decide) (by rw [show (am_s 0).toNat = 0 by decide]) ?_
        exact hk
      refine ok_ic (pc' := 46) (pc2 := 43) hM_213 d_213_40 (by decide) rfl (fun hz4 => ?_) (fun hz4 => ?_)
      · have H := H.1 hz4
        obtain ⟨hz5, H⟩ := H
        refine ok_sg (pc' := 65) (ls' := [some (.inr (.inr (some 53))), some (.inl j), some (.inl (am_or (((ons (nv (m 54)) (am_s 0) : Nat) : Int)) (((ons (nv (m 54)) (am_s 1) : Nat) : Int)))), some (.inl 0)]) (st' := []) (m' := mu m 53 19 0) (fun fx hfx o hk => ?_) ?_
        · refine r_ld (pc' := 47) hM_213 d_213_46 rfl rfl ?_
          refine r_k (pc' := 48) (v := .inl 0) hM_213 d_213_47 rfl rfl ?_
          refine r_cl (pc' := 51) (c := (192, 0)) (a := [.inr (.inr (some 53)), .inl 0]) (q := []) hM_213 d_213_48 rfl (by decide +kernel) hM_192 rfl rfl rfl (Nat.le_of_ble_eq_true rfl) (Nat.le_of_ble_eq_true rfl) (Or.inr rfl) (c_192  m 0 hz5) (Nat.le_of_ble_eq_true rfl) ?_
          show rn fx 4 (0, 0) 213 51 [some (.inr (.inr (some 53))), some (.inl j), none, none] [.inl (((ons (nv (m 54)) (am_s 0) : Nat) : Int))] (st0 m) o
          refine r_ld (pc' := 52) hM_213 d_213_51 rfl rfl ?_
          refine r_k (pc' := 53) (v := .inl 1) hM_213 d_213_52 rfl rfl ?_
          refine r_cl (pc' := 56) (c := (192, 0)) (a := [.inr (.inr (some 53)), .inl 1]) (q := [.inl (((ons (nv (m 54)) (am_s 0) : Nat) : Int))]) hM_213 d_213_53 rfl (by decide +kernel) hM_192 rfl rfl rfl (Nat.le_of_ble_eq_true rfl) (Nat.le_of_ble_eq_true rfl) (Or.inr rfl) (c_192  m 1 hz5) (Nat.le_of_ble_eq_true rfl) ?_
          show rn fx 4 (0, 0) 213 56 [some (.inr (.inr (some 53))), some (.inl j), none, none] [.inl (((ons (nv (m 54)) (am_s 1) : Nat) : Int)), .inl (((ons (nv (m 54)) (am_s 0) : Nat) : Int))] (st0 m) o
          refine r_b (pc' := 57) (z := (am_or (((ons (nv (m 54)) (am_s 0) : Nat) : Int)) (((ons (nv (m 54)) (am_s 1) : Nat) : Int)))) hM_213 d_213_56 rfl rfl ?_
          refine r_sto (pc' := 58) (ls' := [some (.inr (.inr (some 53))), some (.inl j), some (.inl (am_or (((ons (nv (m 54)) (am_s 0) : Nat) : Int)) (((ons (nv (m 54)) (am_s 1) : Nat) : Int)))), none]) hM_213 d_213_57 rfl rfl ?_
          refine r_ld (pc' := 59) hM_213 d_213_58 rfl rfl ?_
          refine r_k (pc' := 60) (v := .inl 0) hM_213 d_213_59 rfl rfl ?_
          refine r_pI (pc' := 63) (k0 := 19) hM_213 d_213_60 rfl (by decide +kernel) ?_
          refine r_k (pc' := 64) (v := .inl 0) hM_213 d_213_63 rfl rfl ?_
          refine r_sto (pc' := 65) (ls' := [some (.inr (.inr (some 53))), some (.inl j), some (.inl (am_or (((ons (nv (m 54)) (am_s 0) : Nat) : Int)) (((ons (nv (m 54)) (am_s 1) : Nat) : Int)))), some (.inl 0)]) hM_213 d_213_64 rfl rfl ?_
          exact hk
        exact H
      · have H := H.2 hz4
        refine ok_sg (pc' := 45) (ls' := [some (.inr (.inr (some 53))), some (.inl j), none, none]) (st' := [.inl (-7)]) (m' := m) (fun fx hfx o hk => ?_) ?_
        · refine r_k (pc' := 45) (v := .inl (-7)) hM_213 d_213_43 rfl rfl ?_
          exact hk
        exact ok_rt (fun fx _ => rt_i hM_213 d_213_45 rfl) H
    · have H := H.2 (Decidable.not_not.mp hz3)
      refine ok_sg (pc' := 27) (ls' := [some (.inr (.inr (some 53))), some (.inl j), none, none]) (st' := [.inl (-6)]) (m' := m) (fun fx hfx o hk => ?_) ?_
      · refine r_k (pc' := 27) (v := .inl (-6)) hM_213 d_213_25 rfl rfl ?_
        exact hk
      exact ok_rt (fun fx _ => rt_i hM_213 d_213_27 rfl) H
  · have H := H.2 (as_ite.mp (Decidable.not_not.mp hz1))
    refine ok_sg (pc' := 14) (ls' := [some (.inr (.inr (some 53))), some (.inl j), none, none]) (st' := [.inl (-2)]) (m' := m) (fun fx hfx o hk => ?_) ?_
    · refine r_k (pc' := 14) (v := .inl (-2)) hM_213 d_213_12 rfl rfl ?_
      exact hk
    exact ok_rt (fun fx _ => rt_i hM_213 d_213_14 rfl) H
theorem HEA_kpC {m m' : am_M} {r : Nat} (h : HEA m r m') : kpC m m' := by
  intro a k hc
  unfold core at hc
  exact h.2.2.2.2 a k (by omega) (by omega) (by omega)
def kru (m : am_M) (a : Int) : Int := if rfu m a = 0 then (if m (25 + 2 * a.toNat) 2 = m 2 4 then 0 else -7) else rfu m a
def krm (m : am_M) (j : Int) : Int := if 0 ≤ j ∧ j ≤ 3 then (if m 73 j.toNat = -1 then -6 else if m 74 j.toNat = m 54 0 then 0 else -7) else -2
theorem kru_s (m : am_M) (a : Int) : am_s (kru m a) = kru m a := by
  unfold kru
  split
  · split <;> rfl
  · exact rfu_s m a
theorem krm_s (m : am_M) (a : Int) : am_s (krm m a) = krm m a := by
  unfold krm
  split
  · split
    · rfl
    · split <;> rfl
  · rfl
def FITS (m : am_M) (J : Nat) (m' : am_M) : Prop := m' 53 19 = ((cf (ftq (nv (m 54)) (rwf m J)) (may (nv (m 54)) + 1) : Nat) : Int) ∧ (∀ t, t ≤ may (nv (m 54)) → ftq (nv (m 54)) (rwf m J) t = true → m' 59 (cf (ftq (nv (m 54)) (rwf m J)) t) = (t : Int)) ∧ ∀ a k, a ≠ 59 → ¬ (a = 53 ∧ k = 19) → m' a k = m a k
theorem FITS_kpC {m m' : am_M} {J : Nat} (h : FITS m J m') : kpC m m' := by
  intro a k hc
  unfold core at hc
  exact h.2.2 a k (by omega) (by omega)
/-- between calls class and model refuse knocks alike -/
theorem kr_eq {m : am_M} {a : Int} (hI : Inv m) : krm m a = kru m a := by
  unfold krm kru
  by_cases c1 : 0 ≤ a ∧ a < 4
  · rw [if_pos (by omega)]
    have hj : a.toNat < 4 := by omega
    rcases Inv_row hI hj with ⟨k1, k2⟩ | ⟨k1, k2, k3, k4⟩
    · have e : rfu m a = -6 := by
        unfold rfu
        rw [if_pos c1, if_pos k1]
      rw [if_pos k2, e, if_neg (by decide)]
    · have e : rfu m a = 0 := rfu_0.mpr ⟨c1, k1⟩
      have hC := (Inv_RWS hI) _ hj
      rw [if_neg (by have := hC.2.1; omega), e, if_pos rfl, k2, Inv_N hI]
  · have e : rfu m a = -2 := by
      unfold rfu
      rw [if_neg c1]
    rw [if_neg (by omega), e, if_neg (by decide)]
theorem kru_0 {m : am_M} {a : Int} (h : kru m a = 0) : (0 ≤ a ∧ a < 4) ∧ 0 ≤ m (25 + 2 * a.toNat) 2 ∧ m (25 + 2 * a.toNat) 2 = m 2 4 := by
  unfold kru at h
  by_cases c : rfu m a = 0
  · rw [if_pos c] at h
    obtain ⟨h1, h2⟩ := rfu_0.mp c
    refine ⟨h1, h2, ?_⟩
    by_cases q : m (25 + 2 * a.toNat) 2 = m 2 4
    · exact q
    · rw [if_neg q] at h
      exact absurd h (by decide)
  · rw [if_neg c] at h
    exact absurd h c
theorem ftq_congr {g f f' : Nat → Int} (h : ∀ p : Nat, (p : Int) < g 0 → f p = f' p) : ftq g f = ftq g f' := by
  funext t
  unfold ftq
  rw [ftb_congr _ fun p hp => h p (by omega)]
/-- the class's numbers of a row are the model's -/
theorem ftq_row {m : am_M} {J : Nat} (hI : Inv m) (hJ : J < 4) (h0 : 0 ≤ m (25 + 2 * J) 2) (h : m (25 + 2 * J) 2 = m 2 4) : ftq (nv (m 54)) (fun p => rat m (25 + 2 * J) (p : Int)) = ftq (nv (m 54)) (rwf m J) := by
  refine ftq_congr fun p hp => ?_
  rw [nv0, ← Inv_N hI, ← h] at hp
  show rat m (25 + 2 * J) (p : Int) = rwf m J p
  rw [rat_in hp]
  rcases Inv_row hI hJ with ⟨k1, k2⟩ | ⟨k1, k2, k3, k4⟩
  · omega
  · exact (k4 p (by omega)).symm
theorem z_80   (m : am_M) (a : Int) (hq : RWS m ∧ WFG (vw m 2) ∧ am_s a = a) : ok 2 80 0 (am_ent 3 [.inr (.inr (some 0)), .inl a]) [] m (fun rr m' => rr = [.inl ((kru m a))] ∧ m' = m) := by
  show ok 2 80 0 [some (.inr (.inr (some 0))), some (.inl a), none] [] m _
  obtain ⟨hR, hw, ha⟩ := hq
  have hN := vwN hw
  refine u_80_0 ?_
  rw [ha, rfu_s]
  refine ⟨hR, fun q => ?_, fun q => ⟨by unfold kru; rw [if_neg q], rfl⟩⟩
  have h := rfu_0.mp q
  have hC := (hR a.toNat (by omega)).1
  refine ⟨by omega, fun y hy => ⟨?_, rfl⟩⟩
  rw [hy, am_s_id (z := m (25 + 2 * a.toNat) 2) (by omega) (by omega), am_s_id (z := m 2 4) (by omega) (by omega), ite_n]
  unfold kru
  rw [if_pos q]
theorem z_81 {r : Nat} (h_r : r ∈ rowL) (m : am_M)  (hq : WFG (vw m 2) ∧ RWC m r) : ok 5 81 0 (am_ent 2 [.inr (.inr (some 34)), .inr (.inr (some r))]) [] m (fun rr m' => rr = [.inl (((cf (ftq (nv (vw m 2)) (fun k => rat m r (k : Int))) (may (nv (vw m 2)) + 1) : Nat) : Int))] ∧ HEA m r m') := by
  show ok 5 81 0 [some (.inr (.inr (some 34))), some (.inr (.inr (some r)))] [] m _
  refine u_81_0 h_r ⟨hq, fun m1 h1 => ⟨HEA_ALW hq.1 h1, ?_⟩⟩
  intro mx hmx
  obtain rfl := hmx.symm
  rw [HEA_alq hq.1 h1, h1.1, Int.toNat_natCast]
  exact ⟨rfl, h1⟩
theorem z_213   (m : am_M) (j : Int) (hq : WFG (m 54) ∧ RWM m ∧ am_s j = j) : ok 4 213 0 (am_ent 4 [.inr (.inr (some 53)), .inl j]) [] m (fun rr m' => rr = [.inl ((krm m j))] ∧ (krm m j ≠ 0 → m' = m) ∧ (krm m j = 0 → FITS m j.toNat m')) := by
  show ok 4 213 0 [some (.inr (.inr (some 53))), some (.inl j), none, none] [] m _
  obtain ⟨hw, hR, hj⟩ := hq
  have hN := hw.1
  have hF := may_lt (g := nv (m 54)) (nv0_le hw)
  have eN : am_s (m 54 0) = m 54 0 := am_s_id (by omega) (by omega)
  by_cases c1 : 0 ≤ j ∧ j ≤ 3
  · obtain ⟨J, rfl⟩ : ∃ J : Nat, j = (J : Int) := ⟨j.toNat, by omega⟩
    obtain ⟨g1, g2, g3⟩ := hR J (by omega)
    have e73 : am_s (m 73 J) = m 73 J := am_s_id (by omega) (by omega)
    have e74 : am_s (m 74 J) = m 74 J := am_s_id (by omega) (by omega)
    by_cases c2 : m 73 J = -1
    · have ek : krm m (J : Int) = -6 := by unfold krm; rw [if_pos c1, Int.toNat_natCast, if_pos c2]
      refine u_213_0 ?_
      rw [hj, Int.toNat_natCast, e73, e74, eN, ek]
      exact ⟨fun _ => ⟨by omega, fun q => absurd c2 q, fun _ => ⟨rfl, fun _ => rfl, fun q => absurd q (by decide)⟩⟩, fun q => absurd c1 q⟩
    · by_cases c3 : m 74 J = m 54 0
      · have ek : krm m (J : Int) = 0 := by unfold krm; rw [if_pos c1, Int.toNat_natCast, if_neg c2, if_pos c3]
        have em : am_or ((ons (nv (m 54)) 0 : Nat) : Int) ((ons (nv (m 54)) 1 : Nat) : Int) = ((may (nv (m 54)) : Nat) : Int) := bx_or12 (ons_lt (nv0_le hw)) (ons_lt (nv0_le hw))
        have hQs : ∀ t, t ≤ may (nv (m 54)) → cf (ftq (nv (m 54)) (rwf m J)) t ≤ t := fun t _ => cf_le t
        refine u_213_0 ?_
        rw [hj, Int.toNat_natCast, e73, e74, eN, ek, show am_s 0 = 0 from rfl, show am_s 1 = 1 from rfl, em]
        refine ⟨fun _ => ⟨by omega, fun _ => ⟨fun _ => ⟨hw, ?_⟩, fun q => absurd c3 q⟩, fun q => absurd q c2⟩, fun q => absurd c1 q⟩
        generalize hFv : may (nv (m 54)) = F at *
        generalize hQv : ftq (nv (m 54)) (rwf m J) = Q at *
        refine ok_for (σ := Unit) (fun t _ => [some (.inr (.inr (some 53))), some (.inl (J : Int)), some (.inl (F : Int)), some (.inl (t : Int))]) (fun t _ M => M 53 19 = ((cf Q t : Nat) : Int) ∧ (∀ u, u < t → Q u = true → M 59 (cf Q u) = (u : Int)) ∧ ∀ a k, a ≠ 59 → ¬ (a = 53 ∧ k = 19) → M a k = m a k) (F + 1) ?_ ?_ () _ ⟨mu_same, fun u h => absurd h (Nat.not_lt_zero _), fun a k _ h => mu_o h⟩
        · rintro t ht - M ⟨h1, h2, h3⟩ IH
          have hct := hQs t (by omega)
          have f54 : M 54 = m 54 := funext fun k => h3 54 k (by omega) (by omega)
          have f73 : M 73 = m 73 := funext fun k => h3 73 k (by omega) (by omega)
          have f74 : M 74 = m 74 := funext fun k => h3 74 k (by omega) (by omega)
          have f75 : M 75 = m 75 := funext fun k => h3 75 k (by omega) (by omega)
          have hRM : RWM M := by
            have := hR
            unfold RWM at this ⊢
            rw [f73, f74, f75]
            exact this
          have erw : rwf M J = rwf m J := by unfold rwf; rw [f75]
          have eq : Q t = (decide (sb F t) && ftb (nv (m 54)) (rwf m J) t (m 54 0).toNat) := by
            rw [← hQv, ← hFv]
            unfold ftq
            rw [nv0]
          have es := cf_s (Q := Q) (t := t)
          refine u_213_65 ?_
          rw [am_s_id (z := (F : Int)) (by omega) (by omega), bx_sub (by omega), am_s_id (z := (t : Int)) (by omega) (by omega), Int.toNat_natCast, f54, Int.toNat_natCast, erw]
          refine ⟨fun q => by omega, fun _ => ⟨fun q => ?_, fun q => ⟨⟨hw, hRM, by omega, by omega⟩, ?_⟩⟩⟩
          · have qf : ¬ Q t = true := by
              rw [eq, Bool.and_eq_true]
              intro h
              exact q ⟨by omega, of_decide_eq_true h.1⟩
            rw [if_neg qf] at es
            refine IH () M ⟨by rw [es]; exact h1, fun u hu hq => ?_, h3⟩
            by_cases hh : u = t
            · rw [hh] at hq; exact absurd hq qf
            · exact h2 u (by omega) hq
          · intro mx hmx
            obtain rfl := hmx.symm
            refine ⟨fun q2 => ?_, fun q2 => ?_⟩
            · have qt : Q t = true := by
                rw [eq, q2, Bool.and_true]
                exact decide_eq_true q.2
              rw [if_pos qt] at es
              rw [h1, am_s_id (z := ((cf Q t : Nat) : Int)) (by omega) (by omega), Int.toNat_natCast]
              refine ⟨by omega, IH () _ ⟨by rw [mu_same, es]; rfl, fun u hu hq => ?_, fun a k q1 q3 => by rw [mu_o q3, mu_o (fun h => q1 h.1)]; exact h3 a k q1 q3⟩⟩
              rw [mu_r (by decide)]
              by_cases hh : u = t
              · rw [hh, mu_same]
              · have := cf_lt (Q := Q) (show u < t by omega) hq
                rw [mu_k (by omega)]
                exact h2 u (by omega) hq
            · have qf : ¬ Q t = true := by
                rw [eq, Bool.and_eq_true]
                intro h
                exact q2 h.2
              rw [if_neg qf] at es
              refine IH () _ ⟨by rw [es]; exact h1, fun u hu hq => ?_, h3⟩
              by_cases hh : u = t
              · rw [hh] at hq; exact absurd hq qf
              · exact h2 u (by omega) hq
        · rintro - M ⟨h1, h2, h3⟩
          refine u_213_65 ?_
          rw [am_s_id (z := (F : Int)) (by omega) (by omega), am_s_id (z := ((F + 1 : Nat) : Int)) (by omega) (by omega)]
          refine ⟨fun _ => ⟨rfl, fun q => absurd rfl q, fun _ => ?_⟩, fun q => by omega⟩
          unfold FITS
          rw [hFv, hQv]
          exact ⟨h1, fun t ht hq => h2 t (by omega) hq, h3⟩
      · have ek : krm m (J : Int) = -7 := by unfold krm; rw [if_pos c1, Int.toNat_natCast, if_neg c2, if_neg c3]
        refine u_213_0 ?_
        rw [hj, Int.toNat_natCast, e73, e74, eN, ek]
        exact ⟨fun _ => ⟨by omega, fun _ => ⟨fun q => absurd q c3, fun _ => ⟨rfl, fun _ => rfl, fun q => absurd q (by decide)⟩⟩, fun q => absurd q c2⟩, fun q => absurd c1 q⟩
  · have ek : krm m j = -2 := by unfold krm; rw [if_neg c1]
    refine u_213_0 ?_
    rw [hj, ek]
    exact ⟨fun q => absurd q c1, fun _ => ⟨rfl, fun _ => rfl, fun q => absurd q (by decide)⟩⟩
