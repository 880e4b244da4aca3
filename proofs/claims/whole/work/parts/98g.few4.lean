def kp7 (b : Nat → Nat) : Nat → Nat
  | 0 => 0
  | i + 1 => kp7 b i + b i * 7 ^ i
theorem kp7_s {b : Nat → Nat} {i : Nat} : kp7 b (i + 1) = kp7 b i + b i * 7 ^ i := rfl
theorem kp7_lt {b : Nat → Nat} : ∀ n, (∀ i, i < n → b i < 7) → kp7 b n < 7 ^ n := by
  intro n
  induction n with
  | zero => intro _; exact Nat.zero_lt_one
  | succ n ih =>
    intro h
    have h1 := ih fun i hi => h i (by omega)
    rw [kp7_s, Nat.pow_succ]
    have : b n * 7 ^ n ≤ 6 * 7 ^ n := Nat.mul_le_mul_right _ (by have := h n (by omega); omega)
    omega
theorem kp7_d {b : Nat → Nat} : ∀ n, (∀ i, i < n → b i < 7) → ∀ i, i < n → kp7 b n / 7 ^ i % 7 = b i := by
  intro n
  induction n with
  | zero => intro _ i h; exact absurd h (Nat.not_lt_zero _)
  | succ n ih =>
    intro hb i hi
    have hl := kp7_lt n fun i hi => hb i (by omega)
    have hp : 0 < 7 ^ i := Nat.pow_pos (by decide)
    rw [kp7_s]
    by_cases h : i = n
    · rw [h, Nat.add_mul_div_right _ _ (Nat.pow_pos (by decide)), Nat.div_eq_of_lt hl, Nat.zero_add]
      exact Nat.mod_eq_of_lt (hb n (by omega))
    · obtain ⟨k, hk⟩ : ∃ k, n = i + 1 + k := ⟨n - i - 1, by omega⟩
      have e : b n * 7 ^ n = b n * 7 ^ k * 7 * 7 ^ i := by
        rw [hk, Nat.pow_add, Nat.pow_succ]
        generalize 7 ^ i = x1
        generalize 7 ^ k = x2
        simp only [Nat.mul_assoc, Nat.mul_comm, Nat.mul_left_comm]
      rw [e, Nat.add_mul_div_right _ _ hp, Nat.add_mul_mod_self_right]
      exact ih (fun i hi => hb i (by omega)) i (by omega)
theorem ks7_n {a : Nat → Int} : ∀ n, (∀ j, j < n → 0 ≤ a j ∧ a j ≤ 6) → ks7 a n = ((kp7 (fun j => (a j).toNat) n : Nat) : Int) := by
  intro n
  induction n with
  | zero => intro _; rfl
  | succ n ih =>
    intro h
    have h2 := h n (by omega)
    show ks7 a n + a n * ((7 ^ n : Nat) : Int) = ((kp7 (fun j => (a j).toNat) n + (a n).toNat * 7 ^ n : Nat) : Int)
    rw [ih fun j hj => h j (by omega), Int.natCast_add, Int.natCast_mul, Int.toNat_of_nonneg h2.1]
def dg7 (st : Nat) (j : Nat) : Int := ((st / 7 ^ j % 7 : Nat) : Int)
theorem dg7_rng {st j : Nat} : 0 ≤ dg7 st j ∧ dg7 st j ≤ 6 := by
  have : st / 7 ^ j % 7 < 7 := Nat.mod_lt _ (by decide)
  unfold dg7
  omega
theorem ks7_dec {a : Nat → Int} {n : Nat} (h : ∀ j, j < n → 0 ≤ a j ∧ a j ≤ 6) : (ks7 a n).toNat < 7 ^ n ∧ ∀ j, j < n → dg7 (ks7 a n).toNat j = a j := by
  have hb : ∀ i, i < n → (a i).toNat < 7 := fun i hi => by have := h i hi; omega
  rw [ks7_n n h, Int.toNat_natCast]
  refine ⟨kp7_lt (b := fun j => (a j).toNat) n hb, fun j hj => ?_⟩
  unfold dg7
  rw [kp7_d (b := fun j => (a j).toNat) n hb j hj]
  exact Int.toNat_of_nonneg (h j hj).1
/-- the table by states -/
def KTS (g : Nat → Int) (m : am_M) (D S : Nat) : Prop := ∀ st, st < S → m 66 (16807 * D + st) = kmc 99 (SN g) (kf0 g) (g 4).toNat D (kwa g (dg7 st))
theorem KTS_F {g : Nat → Int} {m : am_M} {D : Nat} (hn : SN g ≤ 5) (hD : D ≤ 8) (h : KTS g m D (7 ^ SN g)) : KTF g m D := by
  intro a ha
  obtain ⟨h1, h2⟩ := ks7_dec ha
  rw [h _ h1]
  refine kmc_cap hn hD (by decide) fun k hk => ?_
  unfold kwa
  rw [h2 k hk]
theorem b8_99 : ∀ z : Nat, z < 100 → am_b8 (z : Int) = (z : Int) := by decide +kernel
theorem z_231   (m : am_M) (d : Int) (hq : MFW (nv (m 54)) m ∧ 1 ≤ d ∧ d ≤ 8) : ok 3 231 0 (am_ent 5 [.inr (.inr (some 53)), .inl d]) [] m (fun rr m' => rr = [] ∧ (∀ e, e < d.toNat → KTF (nv (m 54)) m' e) ∧ ∀ a, a ≠ 65 → a ≠ 66 → m' a = m a) := by
  show ok 3 231 0 [some (.inr (.inr (some 53))), some (.inl d), none, none, none] [] m _
  obtain ⟨hM0, hd⟩ := hq
  obtain ⟨D, rfl⟩ : ∃ D : Nat, d = (D : Int) := ⟨d.toNat, by omega⟩
  rw [Int.toNat_natCast]
  generalize hgv : nv (m 54) = g at *
  obtain ⟨h5, h27, hsp, hL, h4, hwn⟩ := id hM0
  have h7 : 7 ^ SN g ≤ 16807 := Nat.le_trans (Nat.pow_le_pow_right (by decide) h5) (by decide)
  have e7 : (m 53 27).toNat = SN g := by rw [h27, Int.toNat_natCast]
  refine u_231_0 ⟨by omega, ?_⟩
  intro mx hmx
  rw [hmx, e7]
  have hfr : ∀ M : am_M, (∀ a, a ≠ 65 → a ≠ 66 → M a = m a) → MFW g M ∧ nv (M 54) = g := fun M hf => ⟨MFW_fr hM0 (by rw [hf 53 (by decide) (by decide)]) (hf 63 (by decide) (by decide)) (hf 64 (by decide) (by decide)) (hf 54 (by decide) (by decide)), by rw [hf 54 (by decide) (by decide)]; exact hgv⟩
  generalize hS : 7 ^ SN g = S at *
  refine ok_for (σ := Unit) (fun s _ => [some (.inr (.inr (some 53))), some (.inl (D : Int)), some (.inl (S : Int)), some (.inl (s : Int)), none]) (fun s _ M => (∀ st, st < s → M 66 (16807 * 0 + st) = 0) ∧ ∀ a, a ≠ 65 → a ≠ 66 → M a = m a) S ?_ ?_ () m ⟨fun st h => absurd h (Nat.not_lt_zero _), fun _ _ _ => rfl⟩
  · rintro s hs - M ⟨g1, g2⟩ IH
    refine u_231_7 ?_
    rw [am_s_id (z := (S : Int)) (by omega) (by omega), am_s_id (z := (s : Int)) (by omega) (by omega), Int.toNat_natCast]
    refine ⟨fun q => by omega, fun _ => ⟨⟨by omega, by omega⟩, IH () _ ⟨fun st hst => ?_, fun a q1 q2 => by rw [mu_rf q2]; exact g2 a q1 q2⟩⟩⟩
    rw [mu_if]
    by_cases hh : st = s
    · rw [if_pos (by omega)]; rfl
    · rw [if_neg (by omega)]; exact g1 st (by omega)
  · rintro - M ⟨g1, g2⟩
    refine u_231_7 ?_
    rw [am_s_id (z := (S : Int)) (by omega) (by omega)]
    refine ⟨fun _ => ?_, fun q => by omega⟩
    have k0 : KTS g M 0 S := fun st hst => by rw [g1 st hst, kmc_0 h5 (by decide)]
    have key := ok_for (d := 3) (mi := 231) (pc := 27) (Q := fun rr m' => rr = [] ∧ ((∀ e, e < D → KTS g m' e S) ∧ ∀ a, a ≠ 65 → a ≠ 66 → m' a = m a)) (σ := Unit) (fun e _ => [some (.inr (.inr (some 53))), some (.inl (D : Int)), some (.inl (S : Int)), some (.inl ((e : Int) + 1)), none]) (fun e _ M => (∀ e', e' < e + 1 → KTS g M e' S) ∧ ∀ a, a ≠ 65 → a ≠ 66 → M a = m a) (D - 1) ?_ ?_ () M ⟨fun e' he => by rw [show e' = 0 by omega]; exact k0, g2⟩
    · refine ok.imp key ?_
      rintro r m' ⟨y1, y2, y3⟩
      exact ⟨y1, fun e he => KTS_F h5 (by omega) (by rw [hS]; exact y2 e he), y3⟩
    · rintro e he - M1 ⟨k1, k2⟩ IH
      refine u_231_27 ?_
      rw [am_s_id (z := (D : Int)) (by omega) (by omega), am_s_id (z := (e : Int) + 1) (by omega) (by omega)]
      refine ⟨fun q => by omega, fun _ => ?_⟩
      refine ok_for (σ := Unit) (fun s _ => [some (.inr (.inr (some 53))), some (.inl (D : Int)), some (.inl (S : Int)), some (.inl ((e : Int) + 1)), some (.inl (s : Int))]) (fun s _ M => (∀ e', e' < e + 1 → KTS g M e' S) ∧ KTS g M (e + 1) s ∧ ∀ a, a ≠ 65 → a ≠ 66 → M a = m a) S ?_ ?_ () M1 ⟨k1, fun st h => absurd h (Nat.not_lt_zero _), k2⟩
      · rintro s hs - M2 ⟨l1, l2, l3⟩ IH2
        obtain ⟨fm, fg⟩ := hfr M2 l3
        refine u_231_35 ?_
        rw [am_s_id (z := (S : Int)) (by omega) (by omega), am_s_id (z := (s : Int)) (by omega) (by omega), l3 53 (by decide) (by decide), e7, Int.toNat_natCast]
        refine ⟨fun q => by omega, fun _ => ⟨⟨by omega, by omega, by omega⟩, ?_⟩⟩
        rintro m3 ⟨n1, n2⟩
        have l4 : ∀ a, a ≠ 65 → a ≠ 66 → m3 a = m a := fun a q1 q2 => by rw [n2 a q1]; exact l3 a q1 q2
        obtain ⟨fm3, fg3⟩ := hfr m3 l4
        rw [fg3, show ((e : Int) + 1).toNat = e + 1 by omega, show e + 1 - 1 = e by omega]
        have hwa : kmc 99 (SN g) (kf0 g) (g 4).toNat (e + 1) (kwa g (m3 65)) = kmc 99 (SN g) (kf0 g) (g 4).toNat (e + 1) (kwa g (dg7 s)) := kmc_cap h5 (by omega) (by decide) fun k hk => by
          unfold kwa
          rw [n1 k hk]
          rfl
        have hr := kmc_rng (c := 99) (F := kf0 g) (H := (g 4).toNat) (d := e + 1) (w := kwa g (dg7 s)) h5 (by omega) (by decide)
        obtain ⟨V, hV⟩ : ∃ V : Nat, kmc 99 (SN g) (kf0 g) (g 4).toNat (e + 1) (kwa g (dg7 s)) = (V : Int) := ⟨(kmc 99 (SN g) (kf0 g) (g 4).toNat (e + 1) (kwa g (dg7 s))).toNat, by omega⟩
        have hkt : KTS g m3 e S := fun st hst => by rw [n2 66 (by decide)]; exact l1 e (by omega) st hst
        refine ⟨⟨fm3, by omega, fun j hj => ?_, KTS_F h5 (by omega) (by rw [hS]; exact hkt)⟩, ?_⟩
        · have := dg7_rng (st := s) (j := j)
          rw [n1 j hj]
          unfold dg7 at this
          omega
        intro mx2 hmx2
        rw [hmx2, hwa, hV, b8_99 V (by omega), b8_99 V (by omega), am_s_id (z := 16807 * ((e : Int) + 1) + (s : Int)) (by omega) (by omega), show (16807 * ((e : Int) + 1) + (s : Int)).toNat = 16807 * (e + 1) + s by omega]
        refine ⟨⟨by omega, by omega⟩, IH2 () _ ⟨fun e' he' st hst => ?_, fun st hst => ?_, fun a q1 q2 => by rw [mu_rf q2]; exact l4 a q1 q2⟩⟩
        · rw [mu_k (by omega), n2 66 (by decide)]
          exact l1 e' he' st hst
        · rw [mu_if]
          by_cases hh : st = s
          · rw [if_pos (by omega), hh, hV]
          · rw [if_neg (by omega), n2 66 (by decide)]
            exact l2 st (by omega)
      · rintro - M2 ⟨l1, l2, l3⟩
        refine u_231_35 ?_
        rw [am_s_id (z := (S : Int)) (by omega) (by omega)]
        refine ⟨fun _ => IH () M2 ⟨fun e' he' => ?_, l3⟩, fun q => by omega⟩
        by_cases hh : e' = e + 1
        · rw [hh]; exact l2
        · exact l1 e' (by omega)
    · rintro - M1 ⟨k1, k2⟩
      refine u_231_27 ?_
      rw [am_s_id (z := (D : Int)) (by omega) (by omega), am_s_id (z := ((D - 1 : Nat) : Int) + 1) (by omega) (by omega)]
      exact ⟨fun _ => ⟨rfl, fun e he => k1 e (by omega), k2⟩, fun q => by omega⟩
theorem u_229_93 {Q : List am_V → am_M → Prop} {m : am_M} {d : Int} {w : Int} {t : Int} {k : Int}  (H : (MFW (nv (m 54)) m ∧ (1 ≤ (d - k) ∧ (d - k) ≤ 8) ∧ (∀ j, j < SN (nv (m 54)) → 0 ≤ m 65 j ∧ m 65 j ≤ 99) ∧ KTF (nv (m 54)) m ((d - k).toNat - 1) ∧ t = kmc 99 (SN (nv (m 54))) (kf0 (nv (m 54))) (nv (m 54) 4).toNat (d - k).toNat (kwa (nv (m 54)) (m 65)) ∧ t < 99) ∧ (∀ (m1 : am_M), (m1 = m) → ((¬ am_s k = am_s (w - 10)) → (0 ≤ (am_s ((klc (SN (nv (m 54))) (kf0 (nv (m 54))) (nv (m 54) 4).toNat ((d - k).toNat - 1) (kwa (nv (m 54)) (m 65)) : Nat) : Int)) ∧ (am_s ((klc (SN (nv (m 54))) (kf0 (nv (m 54))) (nv (m 54) 4).toNat ((d - k).toNat - 1) (kwa (nv (m 54)) (m 65)) : Nat) : Int)) < 2147483648) ∧ ((MFW (nv (m1 54)) m1 ∧ (0 ≤ ((klc (SN (nv (m 54))) (kf0 (nv (m 54))) (nv (m 54) 4).toNat ((d - k).toNat - 1) (kwa (nv (m 54)) (m 65)) : Nat) : Int) ∧ ((klc (SN (nv (m 54))) (kf0 (nv (m 54))) (nv (m 54) 4).toNat ((d - k).toNat - 1) (kwa (nv (m 54)) (m 65)) : Nat) : Int) < 32) ∧ ∀ j, j < SN (nv (m1 54)) → 0 ≤ m1 65 j ∧ m1 65 j ≤ 99) ∧ (∀ (v2 : Int) (m2 : am_M), (m2 = m1 ∧ ((kgo (SN (nv (m1 54))) (kwa (nv (m1 54)) (m1 65)) ((klc (SN (nv (m 54))) (kf0 (nv (m 54))) (nv (m 54) 4).toNat ((d - k).toNat - 1) (kwa (nv (m 54)) (m 65)) : Nat) : Int).toNat ∧ v2 = ks7 (kan (nv (m1 54)) ((klc (SN (nv (m 54))) (kf0 (nv (m 54))) (nv (m 54) 4).toNat ((d - k).toNat - 1) (kwa (nv (m 54)) (m 65)) : Nat) : Int).toNat (m1 65)) (SN (nv (m1 54)))) ∨ (¬ kgo (SN (nv (m1 54))) (kwa (nv (m1 54)) (m1 65)) ((klc (SN (nv (m 54))) (kf0 (nv (m 54))) (nv (m 54) 4).toNat ((d - k).toNat - 1) (kwa (nv (m 54)) (m 65)) : Nat) : Int).toNat ∧ v2 = -1))) → ((0 ≤ m2 53 27 ∧ m2 53 27 ≤ 5) ∧ 0 ≤ v2 ∧ v2 < 16807) ∧ (∀ (m3 : am_M), ((∀ j, j < (m2 53 27).toNat → m3 65 j = ((v2.toNat / 7 ^ j % 7 : Nat) : Int)) ∧ ∀ a, a ≠ 65 → m3 a = m2 a) → ok 4 229 93 [some (.inr (.inr (some 53))), some (.inl d), some (.inl w), some (.inl (t - (((cnt (am_s ((klc (SN (nv (m 54))) (kf0 (nv (m 54))) (nv (m 54) 4).toNat ((d - k).toNat - 1) (kwa (nv (m 54)) (m 65)) : Nat) : Int)).toNat 12 : Nat) : Int)))), some (.inl (k + 1)), none] [] m3 Q)))) ∧ ((am_s k = am_s (w - 10)) → (MFW (nv (m1 54)) m1 ∧ 0 ≤ ((klc (SN (nv (m 54))) (kf0 (nv (m 54))) (nv (m 54) 4).toNat ((d - k).toNat - 1) (kwa (nv (m 54)) (m 65)) : Nat) : Int) ∧ ((klc (SN (nv (m 54))) (kf0 (nv (m 54))) (nv (m 54) 4).toNat ((d - k).toNat - 1) (kwa (nv (m 54)) (m 65)) : Nat) : Int) < 32) ∧ (∀ (m4 : am_M), (m4 = m1) → Q [.inl ((kpl (m1 63) ((klc (SN (nv (m 54))) (kf0 (nv (m 54))) (nv (m 54) 4).toNat ((d - k).toNat - 1) (kwa (nv (m 54)) (m 65)) : Nat) : Int).toNat (SN (nv (m1 54))) : Nat) : Int)] m4)))) : ok 4 229 93 [some (.inr (.inr (some 53))), some (.inl d), some (.inl w), some (.inl t), some (.inl k), none] [] m Q := by
  obtain ⟨hz1, H⟩ := H
  refine ok_sg (pc' := 99) (ls' := [some (.inr (.inr (some 53))), some (.inl d), some (.inl w), some (.inl t), some (.inl k), none]) (st' := [.inl t, .inl (d - k), .inr (.inr (some 53))]) (m' := m) (fun fx hfx o hk => ?_) ?_
  · refine r_ld (pc' := 94) hM_229 d_229_93 rfl rfl ?_
    refine r_ld (pc' := 95) hM_229 d_229_94 rfl rfl ?_
    refine r_ld (pc' := 97) hM_229 d_229_95 rfl rfl ?_
    refine r_b (pc' := 98) (z := (d - k)) hM_229 d_229_97 rfl rfl ?_
    refine r_ld (pc' := 99) hM_229 d_229_98 rfl rfl ?_
    exact hk
  refine ok_cl (pc' := 102) (c := (237, 0)) (a := [.inr (.inr (some 53)), .inl (d - k), .inl t]) (q := []) hM_229 d_229_99 rfl (by decide +kernel) hM_237 rfl rfl rfl (Nat.le_of_ble_eq_true rfl) (Nat.le_of_ble_eq_true rfl) (Or.inr rfl) (z_237  m (d - k) t hz1) (Nat.le_of_ble_eq_true rfl) ?_
  rintro _ m1 ⟨rfl, hz2⟩
  replace H := H  m1 hz2
  show ok 4 229 102 [some (.inr (.inr (some 53))), some (.inl d), some (.inl w), some (.inl t), some (.inl k), none] [.inl ((klc (SN (nv (m 54))) (kf0 (nv (m 54))) (nv (m 54) 4).toNat ((d - k).toNat - 1) (kwa (nv (m 54)) (m 65)) : Nat) : Int)] m1 Q
  refine ok_sg (pc' := 110) (ls' := [some (.inr (.inr (some 53))), some (.inl d), some (.inl w), some (.inl t), some (.inl k), some (.inl ((klc (SN (nv (m 54))) (kf0 (nv (m 54))) (nv (m 54) 4).toNat ((d - k).toNat - 1) (kwa (nv (m 54)) (m 65)) : Nat) : Int))]) (st' := [.inl (w - 10), .inl k]) (m' := m1) (fun fx hfx o hk => ?_) ?_
  · refine r_sto (pc' := 104) (ls' := [some (.inr (.inr (some 53))), some (.inl d), some (.inl w), some (.inl t), some (.inl k), some (.inl ((klc (SN (nv (m 54))) (kf0 (nv (m 54))) (nv (m 54) 4).toNat ((d - k).toNat - 1) (kwa (nv (m 54)) (m 65)) : Nat) : Int))]) hM_229 d_229_102 rfl rfl ?_
    refine r_ld (pc' := 106) hM_229 d_229_104 rfl rfl ?_
    refine r_ld (pc' := 107) hM_229 d_229_106 rfl rfl ?_
    refine r_k (pc' := 109) (v := .inl 10) hM_229 d_229_107 rfl rfl ?_
    refine r_b (pc' := 110) (z := (w - 10)) hM_229 d_229_109 rfl rfl ?_
    exact hk
  refine ok_ic (pc' := 120) (pc2 := 113) hM_229 d_229_110 (by decide) rfl (fun hz3 => ?_) (fun hz3 => ?_)
  · have H := H.1 hz3
    obtain ⟨hz4, H⟩ := H
    obtain ⟨hz5, H⟩ := H
    refine ok_sg (pc' := 133) (ls' := [some (.inr (.inr (some 53))), some (.inl d), some (.inl w), some (.inl (t - (((cnt (am_s ((klc (SN (nv (m 54))) (kf0 (nv (m 54))) (nv (m 54) 4).toNat ((d - k).toNat - 1) (kwa (nv (m 54)) (m 65)) : Nat) : Int)).toNat 12 : Nat) : Int)))), some (.inl k), some (.inl ((klc (SN (nv (m 54))) (kf0 (nv (m 54))) (nv (m 54) 4).toNat ((d - k).toNat - 1) (kwa (nv (m 54)) (m 65)) : Nat) : Int))]) (st' := [.inl ((klc (SN (nv (m 54))) (kf0 (nv (m 54))) (nv (m 54) 4).toNat ((d - k).toNat - 1) (kwa (nv (m 54)) (m 65)) : Nat) : Int), .inr (.inr (some 53)), .inr (.inr (some 53))]) (m' := m1) (fun fx hfx o hk => ?_) ?_
    · refine r_ld (pc' := 121) hM_229 d_229_120 rfl rfl ?_
      refine r_ld (pc' := 123) hM_229 d_229_121 rfl rfl ?_
      refine r_stk (pc' := 124) (st' := [.inr (.inl (am_s ((klc (SN (nv (m 54))) (kf0 (nv (m 54))) (nv (m 54) 4).toNat ((d - k).toNat - 1) (kwa (nv (m 54)) (m 65)) : Nat) : Int))), .inl t]) hM_229 d_229_123 rfl rfl ?_
      refine r_cl (pc' := 127) (c := (193, 2)) (a := [.inr (.inl (am_s ((klc (SN (nv (m 54))) (kf0 (nv (m 54))) (nv (m 54) 4).toNat ((d - k).toNat - 1) (kwa (nv (m 54)) (m 65)) : Nat) : Int)))]) (q := [.inl t]) hM_229 d_229_124 rfl (by decide +kernel) hM_193 rfl rfl rfl (Nat.le_of_ble_eq_true rfl) (Nat.le_of_ble_eq_true rfl) (Or.inl rfl) (c_193  m1 (am_s ((klc (SN (nv (m 54))) (kf0 (nv (m 54))) (nv (m 54) 4).toNat ((d - k).toNat - 1) (kwa (nv (m 54)) (m 65)) : Nat) : Int)) hz4) (Nat.le_of_ble_eq_true rfl) ?_
      show rn fx 4 (0, 0) 229 127 [some (.inr (.inr (some 53))), some (.inl d), some (.inl w), some (.inl t), some (.inl k), some (.inl ((klc (SN (nv (m 54))) (kf0 (nv (m 54))) (nv (m 54) 4).toNat ((d - k).toNat - 1) (kwa (nv (m 54)) (m 65)) : Nat) : Int))] [.inl (((cnt (am_s ((klc (SN (nv (m 54))) (kf0 (nv (m 54))) (nv (m 54) 4).toNat ((d - k).toNat - 1) (kwa (nv (m 54)) (m 65)) : Nat) : Int)).toNat 12 : Nat) : Int)), .inl t] (st0 m1) o
      refine r_b (pc' := 128) (z := (t - (((cnt (am_s ((klc (SN (nv (m 54))) (kf0 (nv (m 54))) (nv (m 54) 4).toNat ((d - k).toNat - 1) (kwa (nv (m 54)) (m 65)) : Nat) : Int)).toNat 12 : Nat) : Int)))) hM_229 d_229_127 rfl rfl ?_
      refine r_sto (pc' := 129) (ls' := [some (.inr (.inr (some 53))), some (.inl d), some (.inl w), some (.inl (t - (((cnt (am_s ((klc (SN (nv (m 54))) (kf0 (nv (m 54))) (nv (m 54) 4).toNat ((d - k).toNat - 1) (kwa (nv (m 54)) (m 65)) : Nat) : Int)).toNat 12 : Nat) : Int)))), some (.inl k), some (.inl ((klc (SN (nv (m 54))) (kf0 (nv (m 54))) (nv (m 54) 4).toNat ((d - k).toNat - 1) (kwa (nv (m 54)) (m 65)) : Nat) : Int))]) hM_229 d_229_128 rfl rfl ?_
      refine r_ld (pc' := 130) hM_229 d_229_129 rfl rfl ?_
      refine r_ld (pc' := 131) hM_229 d_229_130 rfl rfl ?_
      refine r_ld (pc' := 133) hM_229 d_229_131 rfl rfl ?_
      exact hk
    refine ok_cl (pc' := 136) (c := (235, 0)) (a := [.inr (.inr (some 53)), .inl ((klc (SN (nv (m 54))) (kf0 (nv (m 54))) (nv (m 54) 4).toNat ((d - k).toNat - 1) (kwa (nv (m 54)) (m 65)) : Nat) : Int)]) (q := [.inr (.inr (some 53))]) hM_229 d_229_133 rfl (by decide +kernel) hM_235 rfl rfl rfl (Nat.le_of_ble_eq_true rfl) (Nat.le_of_ble_eq_true rfl) (Or.inr rfl) (z_235  m1 ((klc (SN (nv (m 54))) (kf0 (nv (m 54))) (nv (m 54) 4).toNat ((d - k).toNat - 1) (kwa (nv (m 54)) (m 65)) : Nat) : Int) hz5) (Nat.le_of_ble_eq_true rfl) ?_
    rintro _ m2 ⟨v2, rfl, hz6⟩
    replace H := H v2 m2 hz6
    show ok 4 229 136 [some (.inr (.inr (some 53))), some (.inl d), some (.inl w), some (.inl (t - (((cnt (am_s ((klc (SN (nv (m 54))) (kf0 (nv (m 54))) (nv (m 54) 4).toNat ((d - k).toNat - 1) (kwa (nv (m 54)) (m 65)) : Nat) : Int)).toNat 12 : Nat) : Int)))), some (.inl k), some (.inl ((klc (SN (nv (m 54))) (kf0 (nv (m 54))) (nv (m 54) 4).toNat ((d - k).toNat - 1) (kwa (nv (m 54)) (m 65)) : Nat) : Int))] [.inl v2, .inr (.inr (some 53))] m2 Q
    obtain ⟨hz7, H⟩ := H
    refine ok_cl (pc' := 139) (c := (233, 0)) (a := [.inr (.inr (some 53)), .inl v2]) (q := []) hM_229 d_229_136 rfl (by decide +kernel) hM_233 rfl rfl rfl (Nat.le_of_ble_eq_true rfl) (Nat.le_of_ble_eq_true rfl) (Or.inr rfl) (z_233  m2 v2 hz7) (Nat.le_of_ble_eq_true rfl) ?_
    rintro _ m3 ⟨rfl, hz8⟩
    replace H := H  m3 hz8
    show ok 4 229 139 [some (.inr (.inr (some 53))), some (.inl d), some (.inl w), some (.inl (t - (((cnt (am_s ((klc (SN (nv (m 54))) (kf0 (nv (m 54))) (nv (m 54) 4).toNat ((d - k).toNat - 1) (kwa (nv (m 54)) (m 65)) : Nat) : Int)).toNat 12 : Nat) : Int)))), some (.inl k), some (.inl ((klc (SN (nv (m 54))) (kf0 (nv (m 54))) (nv (m 54) 4).toNat ((d - k).toNat - 1) (kwa (nv (m 54)) (m 65)) : Nat) : Int))] [] m3 Q
    refine ok_sg (pc' := 93) (ls' := [some (.inr (.inr (some 53))), some (.inl d), some (.inl w), some (.inl (t - (((cnt (am_s ((klc (SN (nv (m 54))) (kf0 (nv (m 54))) (nv (m 54) 4).toNat ((d - k).toNat - 1) (kwa (nv (m 54)) (m 65)) : Nat) : Int)).toNat 12 : Nat) : Int)))), some (.inl (k + 1)), none]) (st' := []) (m' := m3) (fun fx hfx o hk => ?_) ?_
    · refine r_sto (pc' := 142) (ls' := [some (.inr (.inr (some 53))), some (.inl d), some (.inl w), some (.inl (t - (((cnt (am_s ((klc (SN (nv (m 54))) (kf0 (nv (m 54))) (nv (m 54) 4).toNat ((d - k).toNat - 1) (kwa (nv (m 54)) (m 65)) : Nat) : Int)).toNat 12 : Nat) : Int)))), some (.inl (k + 1)), some (.inl ((klc (SN (nv (m 54))) (kf0 (nv (m 54))) (nv (m 54) 4).toNat ((d - k).toNat - 1) (kwa (nv (m 54)) (m 65)) : Nat) : Int))]) hM_229 d_229_139 rfl rfl ?_
      refine r_go (pc' := 93) hM_229 d_229_142 (by decide) ?_
      refine rn_wk (a := [some (.inr (.inr (some 53))), some (.inl d), some (.inl w), some (.inl (t - (((cnt (am_s ((klc (SN (nv (m 54))) (kf0 (nv (m 54))) (nv (m 54) 4).toNat ((d - k).toNat - 1) (kwa (nv (m 54)) (m 65)) : Nat) : Int)).toNat 12 : Nat) : Int)))), some (.inl (k + 1)), none]) (by simp only [am_le, and_self]) ?_
      exact hk
    exact H
  · have H := H.2 (Decidable.not_not.mp hz3)
    obtain ⟨hz9, H⟩ := H
    refine ok_sg (pc' := 116) (ls' := [some (.inr (.inr (some 53))), some (.inl d), some (.inl w), some (.inl t), some (.inl k), some (.inl ((klc (SN (nv (m 54))) (kf0 (nv (m 54))) (nv (m 54) 4).toNat ((d - k).toNat - 1) (kwa (nv (m 54)) (m 65)) : Nat) : Int))]) (st' := [.inl ((klc (SN (nv (m 54))) (kf0 (nv (m 54))) (nv (m 54) 4).toNat ((d - k).toNat - 1) (kwa (nv (m 54)) (m 65)) : Nat) : Int), .inr (.inr (some 53))]) (m' := m1) (fun fx hfx o hk => ?_) ?_
    · refine r_ld (pc' := 114) hM_229 d_229_113 rfl rfl ?_
      refine r_ld (pc' := 116) hM_229 d_229_114 rfl rfl ?_
      exact hk
    refine ok_cl (pc' := 119) (c := (238, 0)) (a := [.inr (.inr (some 53)), .inl ((klc (SN (nv (m 54))) (kf0 (nv (m 54))) (nv (m 54) 4).toNat ((d - k).toNat - 1) (kwa (nv (m 54)) (m 65)) : Nat) : Int)]) (q := []) hM_229 d_229_116 rfl (by decide +kernel) hM_238 rfl rfl rfl (Nat.le_of_ble_eq_true rfl) (Nat.le_of_ble_eq_true rfl) (Or.inr rfl) (z_238  m1 ((klc (SN (nv (m 54))) (kf0 (nv (m 54))) (nv (m 54) 4).toNat ((d - k).toNat - 1) (kwa (nv (m 54)) (m 65)) : Nat) : Int) hz9) (Nat.le_of_ble_eq_true rfl) ?_
    rintro _ m4 ⟨rfl, hz10⟩
    replace H := H  m4 hz10
    show ok 4 229 119 [some (.inr (.inr (some 53))), some (.inl d), some (.inl w), some (.inl t), some (.inl k), some (.inl ((klc (SN (nv (m 54))) (kf0 (nv (m 54))) (nv (m 54) 4).toNat ((d - k).toNat - 1) (kwa (nv (m 54)) (m 65)) : Nat) : Int))] [.inl ((kpl (m1 63) ((klc (SN (nv (m 54))) (kf0 (nv (m 54))) (nv (m 54) 4).toNat ((d - k).toNat - 1) (kwa (nv (m 54)) (m 65)) : Nat) : Int).toNat (SN (nv (m1 54))) : Nat) : Int)] m4 Q
    exact ok_rt (fun fx _ => rt_i hM_229 d_229_119 rfl) H
theorem u_229_0 {Q : List am_V → am_M → Prop} {m : am_M} {d : Int} {w : Int}  (H : ((am_s w = 0) → ((1 ≤ am_s d ∧ am_s d ≤ 8) → (WFG ((mu m 53 0 0) 54)) ∧ (∀ (m1 : am_M), ((SN (nv ((mu m 53 0 0) 54)) ≤ 5 → MFW (nv ((mu m 53 0 0) 54)) m1) ∧ (∀ a, a ≠ 53 → a ≠ 63 → a ≠ 64 → m1 a = (mu m 53 0 0) a) ∧ ∀ k, k ≠ 27 → m1 53 k = (mu m 53 0 0) 53 k) → ((SN (nv ((mu m 53 0 0) 54)) ≤ 5) → (MFW (nv (m1 54)) m1 ∧ 1 ≤ d ∧ d ≤ 8) ∧ (∀ (m2 : am_M), ((∀ e, e < d.toNat → KTF (nv (m1 54)) m2 e) ∧ ∀ a, a ≠ 65 → a ≠ 66 → m2 a = m1 a) → (MFW (nv (m2 54)) m2 ∧ WFG (m2 54)) ∧ (∀ (m3 : am_M), ((∀ j, j < SN (nv (m2 54)) → m3 65 j = nv (m2 54) (44 + ksp (nv (m2 54)) j)) ∧ ∀ a, a ≠ 65 → m3 a = m2 a) → (MFW (nv (m3 54)) m3 ∧ (1 ≤ d ∧ d ≤ 8) ∧ (∀ j, j < SN (nv (m3 54)) → 0 ≤ m3 65 j ∧ m3 65 j ≤ 99) ∧ KTF (nv (m3 54)) m3 (d.toNat - 1)) ∧ (∀ (m4 : am_M), (m4 = m3) → ((am_s (kmc 99 (SN (nv (m3 54))) (kf0 (nv (m3 54))) (nv (m3 54) 4).toNat d.toNat (kwa (nv (m3 54)) (m3 65))) < 99) → Q [.inl (kmc 99 (SN (nv (m3 54))) (kf0 (nv (m3 54))) (nv (m3 54) 4).toNat d.toNat (kwa (nv (m3 54)) (m3 65)))] m4) ∧ ((¬ (am_s (kmc 99 (SN (nv (m3 54))) (kf0 (nv (m3 54))) (nv (m3 54) 4).toNat d.toNat (kwa (nv (m3 54)) (m3 65))) < 99)) → Q [.inl (-1)] m4))))) ∧ ((¬ (SN (nv ((mu m 53 0 0) 54)) ≤ 5)) → Q [.inl (-4)] m1))) ∧ ((¬ (1 ≤ am_s d ∧ am_s d ≤ 8)) → Q [.inl (-3)] (mu m 53 0 0))) ∧ ((¬ (am_s w = 0)) → ((10 ≤ am_s w ∧ am_s w ≤ 17) → ((1 ≤ am_s d ∧ am_s d ≤ 8) → (WFG ((mu m 53 0 0) 54)) ∧ (∀ (m5 : am_M), ((SN (nv ((mu m 53 0 0) 54)) ≤ 5 → MFW (nv ((mu m 53 0 0) 54)) m5) ∧ (∀ a, a ≠ 53 → a ≠ 63 → a ≠ 64 → m5 a = (mu m 53 0 0) a) ∧ ∀ k, k ≠ 27 → m5 53 k = (mu m 53 0 0) 53 k) → ((SN (nv ((mu m 53 0 0) 54)) ≤ 5) → (MFW (nv (m5 54)) m5 ∧ 1 ≤ d ∧ d ≤ 8) ∧ (∀ (m6 : am_M), ((∀ e, e < d.toNat → KTF (nv (m5 54)) m6 e) ∧ ∀ a, a ≠ 65 → a ≠ 66 → m6 a = m5 a) → (MFW (nv (m6 54)) m6 ∧ WFG (m6 54)) ∧ (∀ (m7 : am_M), ((∀ j, j < SN (nv (m6 54)) → m7 65 j = nv (m6 54) (44 + ksp (nv (m6 54)) j)) ∧ ∀ a, a ≠ 65 → m7 a = m6 a) → (MFW (nv (m7 54)) m7 ∧ (1 ≤ d ∧ d ≤ 8) ∧ (∀ j, j < SN (nv (m7 54)) → 0 ≤ m7 65 j ∧ m7 65 j ≤ 99) ∧ KTF (nv (m7 54)) m7 (d.toNat - 1)) ∧ (∀ (m8 : am_M), (m8 = m7) → ((am_s (kmc 99 (SN (nv (m7 54))) (kf0 (nv (m7 54))) (nv (m7 54) 4).toNat d.toNat (kwa (nv (m7 54)) (m7 65))) < 99) → ((am_s (w - 10) < am_s d) → ok 4 229 93 [some (.inr (.inr (some 53))), some (.inl d), some (.inl w), some (.inl (kmc 99 (SN (nv (m7 54))) (kf0 (nv (m7 54))) (nv (m7 54) 4).toNat d.toNat (kwa (nv (m7 54)) (m7 65)))), some (.inl 0), none] [] m8 Q) ∧ ((¬ (am_s (w - 10) < am_s d)) → Q [.inl (-1)] m8)) ∧ ((¬ (am_s (kmc 99 (SN (nv (m7 54))) (kf0 (nv (m7 54))) (nv (m7 54) 4).toNat d.toNat (kwa (nv (m7 54)) (m7 65))) < 99)) → Q [.inl (-1)] m8))))) ∧ ((¬ (SN (nv ((mu m 53 0 0) 54)) ≤ 5)) → Q [.inl (-4)] m5))) ∧ ((¬ (1 ≤ am_s d ∧ am_s d ≤ 8)) → Q [.inl (-3)] (mu m 53 0 0))) ∧ ((¬ (10 ≤ am_s w ∧ am_s w ≤ 17)) → Q [.inl (-2)] (mu m 53 0 0)))) : ok 4 229 0 [some (.inr (.inr (some 53))), some (.inl d), some (.inl w), none, none, none] [] m Q := by
  refine ok_sg (pc' := 6) (ls' := [some (.inr (.inr (some 53))), some (.inl d), some (.inl w), none, none, none]) (st' := [.inl w]) (m' := mu m 53 0 0) (fun fx hfx o hk => ?_) ?_
  · refine r_ld (pc' := 1) hM_229 d_229_0 rfl rfl ?_
    refine r_k (pc' := 2) (v := .inl 0) hM_229 d_229_1 rfl rfl ?_
    refine r_pI (pc' := 5) (k0 := 0) hM_229 d_229_2 rfl (by decide +kernel) ?_
    refine r_ld (pc' := 6) hM_229 d_229_5 rfl rfl ?_
    exact hk
  refine ok_if (pc' := 26) (pc2 := 9) hM_229 d_229_6 (by decide) rfl (fun hz1 => ?_) (fun hz1 => ?_)
  · have H := H.1 hz1
    refine ok_sg (pc' := 35) (ls' := [some (.inr (.inr (some 53))), some (.inl d), some (.inl w), none, none, none]) (st' := [.inl (if 1 ≤ am_s d ∧ am_s d ≤ 8 then 1 else 0)]) (m' := mu m 53 0 0) (fun fx hfx o hk => ?_) ?_
    · refine r_ld (pc' := 27) hM_229 d_229_26 rfl rfl ?_
      refine r_stk (pc' := 28) (st' := [.inr (.inl (am_s d))]) hM_229 d_229_27 rfl rfl ?_
      refine r_k (pc' := 29) (v := .inr (.inl 1)) hM_229 d_229_28 rfl rfl ?_
      refine r_k (pc' := 32) (v := .inr (.inl 8)) hM_229 d_229_29 rfl (by decide +kernel) ?_
      refine r_cl (pc' := 35) (c := (167, 2)) (a := [.inr (.inl (am_s d)), .inr (.inl 1), .inr (.inl 8)]) (q := []) hM_229 d_229_32 rfl (by decide +kernel) hM_167 rfl rfl rfl (Nat.le_of_ble_eq_true rfl) (Nat.le_of_ble_eq_true rfl) (Or.inl rfl) (n_167s (mu m 53 0 0) d 1 8 rfl rfl) (Nat.le_of_ble_eq_true rfl) ?_
      show rn fx 4 (0, 0) 229 35 [some (.inr (.inr (some 53))), some (.inl d), some (.inl w), none, none, none] [.inl (if 1 ≤ am_s d ∧ am_s d ≤ 8 then 1 else 0)] (st0 (mu m 53 0 0)) o
      exact hk
    refine ok_if (pc' := 41) (pc2 := 38) hM_229 d_229_35 (by decide) rfl (fun hz2 => ?_) (fun hz2 => ?_)
    · have H := H.1 (as_iteN.mp hz2)
      obtain ⟨hz3, H⟩ := H
      refine ok_sg (pc' := 42) (ls' := [some (.inr (.inr (some 53))), some (.inl d), some (.inl w), none, none, none]) (st' := [.inr (.inr (some 53))]) (m' := mu m 53 0 0) (fun fx hfx o hk => ?_) ?_
      · refine r_ld (pc' := 42) hM_229 d_229_41 rfl rfl ?_
        exact hk
      refine ok_cl (pc' := 45) (c := (230, 0)) (a := [.inr (.inr (some 53))]) (q := []) hM_229 d_229_42 rfl (by decide +kernel) hM_230 rfl rfl rfl (Nat.le_of_ble_eq_true rfl) (Nat.le_of_ble_eq_true rfl) (Or.inr rfl) (z_230  (mu m 53 0 0)  hz3) (Nat.le_of_ble_eq_true rfl) ?_
      rintro _ m1 ⟨rfl, hz4⟩
      replace H := H  m1 hz4
      show ok 4 229 45 [some (.inr (.inr (some 53))), some (.inl d), some (.inl w), none, none, none] [.inl (if SN (nv ((mu m 53 0 0) 54)) ≤ 5 then 1 else 0)] m1 Q
      refine ok_if (pc' := 51) (pc2 := 48) hM_229 d_229_45 (by decide) rfl (fun hz5 => ?_) (fun hz5 => ?_)
      · have H := H.1 (as_iteN.mp hz5)
        obtain ⟨hz6, H⟩ := H
        refine ok_sg (pc' := 53) (ls' := [some (.inr (.inr (some 53))), some (.inl d), some (.inl w), none, none, none]) (st' := [.inl d, .inr (.inr (some 53))]) (m' := m1) (fun fx hfx o hk => ?_) ?_
        · refine r_ld (pc' := 52) hM_229 d_229_51 rfl rfl ?_
          refine r_ld (pc' := 53) hM_229 d_229_52 rfl rfl ?_
          exact hk
        refine ok_cl (pc' := 56) (c := (231, 0)) (a := [.inr (.inr (some 53)), .inl d]) (q := []) hM_229 d_229_53 rfl (by decide +kernel) hM_231 rfl rfl rfl (Nat.le_of_ble_eq_true rfl) (Nat.le_of_ble_eq_true rfl) (Or.inr rfl) (z_231  m1 d hz6) (Nat.le_of_ble_eq_true rfl) ?_
        rintro _ m2 ⟨rfl, hz7⟩
        replace H := H  m2 hz7
        show ok 4 229 56 [some (.inr (.inr (some 53))), some (.inl d), some (.inl w), none, none, none] [] m2 Q
        obtain ⟨hz8, H⟩ := H
        refine ok_sg (pc' := 57) (ls' := [some (.inr (.inr (some 53))), some (.inl d), some (.inl w), none, none, none]) (st' := [.inr (.inr (some 53))]) (m' := m2) (fun fx hfx o hk => ?_) ?_
        · refine r_ld (pc' := 57) hM_229 d_229_56 rfl rfl ?_
          exact hk
        refine ok_cl (pc' := 60) (c := (236, 0)) (a := [.inr (.inr (some 53))]) (q := []) hM_229 d_229_57 rfl (by decide +kernel) hM_236 rfl rfl rfl (Nat.le_of_ble_eq_true rfl) (Nat.le_of_ble_eq_true rfl) (Or.inr rfl) (z_236  m2  hz8) (Nat.le_of_ble_eq_true rfl) ?_
        rintro _ m3 ⟨rfl, hz9⟩
        replace H := H  m3 hz9
        show ok 4 229 60 [some (.inr (.inr (some 53))), some (.inl d), some (.inl w), none, none, none] [] m3 Q
        obtain ⟨hz10, H⟩ := H
        refine ok_sg (pc' := 62) (ls' := [some (.inr (.inr (some 53))), some (.inl d), some (.inl w), none, none, none]) (st' := [.inl d, .inr (.inr (some 53))]) (m' := m3) (fun fx hfx o hk => ?_) ?_
        · refine r_ld (pc' := 61) hM_229 d_229_60 rfl rfl ?_
          refine r_ld (pc' := 62) hM_229 d_229_61 rfl rfl ?_
          exact hk
        refine ok_cl (pc' := 65) (c := (234, 0)) (a := [.inr (.inr (some 53)), .inl d]) (q := []) hM_229 d_229_62 rfl (by decide +kernel) hM_234 rfl rfl rfl (Nat.le_of_ble_eq_true rfl) (Nat.le_of_ble_eq_true rfl) (Or.inr rfl) (z_234  m3 d hz10) (Nat.le_of_ble_eq_true rfl) ?_
        rintro _ m4 ⟨rfl, hz11⟩
        replace H := H  m4 hz11
        show ok 4 229 65 [some (.inr (.inr (some 53))), some (.inl d), some (.inl w), none, none, none] [.inl (kmc 99 (SN (nv (m3 54))) (kf0 (nv (m3 54))) (nv (m3 54) 4).toNat d.toNat (kwa (nv (m3 54)) (m3 65)))] m4 Q
        refine ok_sg (pc' := 69) (ls' := [some (.inr (.inr (some 53))), some (.inl d), some (.inl w), some (.inl (kmc 99 (SN (nv (m3 54))) (kf0 (nv (m3 54))) (nv (m3 54) 4).toNat d.toNat (kwa (nv (m3 54)) (m3 65)))), none, none]) (st' := [.inl 99, .inl (kmc 99 (SN (nv (m3 54))) (kf0 (nv (m3 54))) (nv (m3 54) 4).toNat d.toNat (kwa (nv (m3 54)) (m3 65)))]) (m' := m4) (fun fx hfx o hk => ?_) ?_
        · refine r_sto (pc' := 66) (ls' := [some (.inr (.inr (some 53))), some (.inl d), some (.inl w), some (.inl (kmc 99 (SN (nv (m3 54))) (kf0 (nv (m3 54))) (nv (m3 54) 4).toNat d.toNat (kwa (nv (m3 54)) (m3 65)))), none, none]) hM_229 d_229_65 rfl rfl ?_
          refine r_ld (pc' := 67) hM_229 d_229_66 rfl rfl ?_
          refine r_k (pc' := 69) (v := .inl 99) hM_229 d_229_67 rfl rfl ?_
          exact hk
        refine ok_ic (pc' := 74) (pc2 := 72) hM_229 d_229_69 (by decide) rfl (fun hz12 => ?_) (fun hz12 => ?_)
        · have H := H.1 hz12
          refine ok_sg (pc' := 79) (ls' := [some (.inr (.inr (some 53))), some (.inl d), some (.inl w), some (.inl (kmc 99 (SN (nv (m3 54))) (kf0 (nv (m3 54))) (nv (m3 54) 4).toNat d.toNat (kwa (nv (m3 54)) (m3 65)))), none, none]) (st' := [.inl (kmc 99 (SN (nv (m3 54))) (kf0 (nv (m3 54))) (nv (m3 54) 4).toNat d.toNat (kwa (nv (m3 54)) (m3 65)))]) (m' := m4) (fun fx hfx o hk => ?_) ?_
          · refine r_ld (pc' := 75) hM_229 d_229_74 rfl rfl ?_
            refine r_if (pc' := 80) (pc2 := 78) hM_229 d_229_75 (by decide) rfl (fun hc => absurd hc (fun q => q hz1)) (fun _ => ?_)
            refine r_ld (pc' := 79) hM_229 d_229_78 rfl rfl ?_
            exact hk
          exact ok_rt (fun fx _ => rt_i hM_229 d_229_79 rfl) H
        · have H := H.2 hz12
          refine ok_sg (pc' := 73) (ls' := [some (.inr (.inr (some 53))), some (.inl d), some (.inl w), some (.inl (kmc 99 (SN (nv (m3 54))) (kf0 (nv (m3 54))) (nv (m3 54) 4).toNat d.toNat (kwa (nv (m3 54)) (m3 65)))), none, none]) (st' := [.inl (-1)]) (m' := m4) (fun fx hfx o hk => ?_) ?_
          · refine r_k (pc' := 73) (v := .inl (-1)) hM_229 d_229_72 rfl rfl ?_
            exact hk
          exact ok_rt (fun fx _ => rt_i hM_229 d_229_73 rfl) H
      · have H := H.2 (as_ite.mp (Decidable.not_not.mp hz5))
        refine ok_sg (pc' := 50) (ls' := [some (.inr (.inr (some 53))), some (.inl d), some (.inl w), none, none, none]) (st' := [.inl (-4)]) (m' := m1) (fun fx hfx o hk => ?_) ?_
        · refine r_k (pc' := 50) (v := .inl (-4)) hM_229 d_229_48 rfl rfl ?_
          exact hk
        exact ok_rt (fun fx _ => rt_i hM_229 d_229_50 rfl) H
    · have H := H.2 (as_ite.mp (Decidable.not_not.mp hz2))
      refine ok_sg (pc' := 40) (ls' := [some (.inr (.inr (some 53))), some (.inl d), some (.inl w), none, none, none]) (st' := [.inl (-3)]) (m' := mu m 53 0 0) (fun fx hfx o hk => ?_) ?_
      · refine r_k (pc' := 40) (v := .inl (-3)) hM_229 d_229_38 rfl rfl ?_
        exact hk
      exact ok_rt (fun fx _ => rt_i hM_229 d_229_40 rfl) H
  · have H := H.2 hz1
    refine ok_sg (pc' := 20) (ls' := [some (.inr (.inr (some 53))), some (.inl d), some (.inl w), none, none, none]) (st' := [.inl (if 10 ≤ am_s w ∧ am_s w ≤ 17 then 1 else 0)]) (m' := mu m 53 0 0) (fun fx hfx o hk => ?_) ?_
    · refine r_ld (pc' := 10) hM_229 d_229_9 rfl rfl ?_
      refine r_stk (pc' := 11) (st' := [.inr (.inl (am_s w))]) hM_229 d_229_10 rfl rfl ?_
      refine r_k (pc' := 14) (v := .inr (.inl 10)) hM_229 d_229_11 rfl (by decide +kernel) ?_
      refine r_k (pc' := 17) (v := .inr (.inl 17)) hM_229 d_229_14 rfl (by decide +kernel) ?_
      refine r_cl (pc' := 20) (c := (167, 2)) (a := [.inr (.inl (am_s w)), .inr (.inl 10), .inr (.inl 17)]) (q := []) hM_229 d_229_17 rfl (by decide +kernel) hM_167 rfl rfl rfl (Nat.le_of_ble_eq_true rfl) (Nat.le_of_ble_eq_true rfl) (Or.inl rfl) (n_167s (mu m 53 0 0) w 10 17 rfl rfl) (Nat.le_of_ble_eq_true rfl) ?_
      show rn fx 4 (0, 0) 229 20 [some (.inr (.inr (some 53))), some (.inl d), some (.inl w), none, none, none] [.inl (if 10 ≤ am_s w ∧ am_s w ≤ 17 then 1 else 0)] (st0 (mu m 53 0 0)) o
      exact hk
    refine ok_if (pc' := 26) (pc2 := 23) hM_229 d_229_20 (by decide) rfl (fun hz13 => ?_) (fun hz13 => ?_)
    · have H := H.1 (as_iteN.mp hz13)
      refine ok_sg (pc' := 35) (ls' := [some (.inr (.inr (some 53))), some (.inl d), some (.inl w), none, none, none]) (st' := [.inl (if 1 ≤ am_s d ∧ am_s d ≤ 8 then 1 else 0)]) (m' := mu m 53 0 0) (fun fx hfx o hk => ?_) ?_
      · refine r_ld (pc' := 27) hM_229 d_229_26 rfl rfl ?_
        refine r_stk (pc' := 28) (st' := [.inr (.inl (am_s d))]) hM_229 d_229_27 rfl rfl ?_
        refine r_k (pc' := 29) (v := .inr (.inl 1)) hM_229 d_229_28 rfl rfl ?_
        refine r_k (pc' := 32) (v := .inr (.inl 8)) hM_229 d_229_29 rfl (by decide +kernel) ?_
        refine r_cl (pc' := 35) (c := (167, 2)) (a := [.inr (.inl (am_s d)), .inr (.inl 1), .inr (.inl 8)]) (q := []) hM_229 d_229_32 rfl (by decide +kernel) hM_167 rfl rfl rfl (Nat.le_of_ble_eq_true rfl) (Nat.le_of_ble_eq_true rfl) (Or.inl rfl) (n_167s (mu m 53 0 0) d 1 8 rfl rfl) (Nat.le_of_ble_eq_true rfl) ?_
        show rn fx 4 (0, 0) 229 35 [some (.inr (.inr (some 53))), some (.inl d), some (.inl w), none, none, none] [.inl (if 1 ≤ am_s d ∧ am_s d ≤ 8 then 1 else 0)] (st0 (mu m 53 0 0)) o
        exact hk
      refine ok_if (pc' := 41) (pc2 := 38) hM_229 d_229_35 (by decide) rfl (fun hz14 => ?_) (fun hz14 => ?_)
      · have H := H.1 (as_iteN.mp hz14)
        obtain ⟨hz15, H⟩ := H
        refine ok_sg (pc' := 42) (ls' := [some (.inr (.inr (some 53))), some (.inl d), some (.inl w), none, none, none]) (st' := [.inr (.inr (some 53))]) (m' := mu m 53 0 0) (fun fx hfx o hk => ?_) ?_
        · refine r_ld (pc' := 42) hM_229 d_229_41 rfl rfl ?_
          exact hk
        refine ok_cl (pc' := 45) (c := (230, 0)) (a := [.inr (.inr (some 53))]) (q := []) hM_229 d_229_42 rfl (by decide +kernel) hM_230 rfl rfl rfl (Nat.le_of_ble_eq_true rfl) (Nat.le_of_ble_eq_true rfl) (Or.inr rfl) (z_230  (mu m 53 0 0)  hz15) (Nat.le_of_ble_eq_true rfl) ?_
        rintro _ m5 ⟨rfl, hz16⟩
        replace H := H  m5 hz16
        show ok 4 229 45 [some (.inr (.inr (some 53))), some (.inl d), some (.inl w), none, none, none] [.inl (if SN (nv ((mu m 53 0 0) 54)) ≤ 5 then 1 else 0)] m5 Q
        refine ok_if (pc' := 51) (pc2 := 48) hM_229 d_229_45 (by decide) rfl (fun hz17 => ?_) (fun hz17 => ?_)
        · have H := H.1 (as_iteN.mp hz17)
          obtain ⟨hz18, H⟩ := H
          refine ok_sg (pc' := 53) (ls' := [some (.inr (.inr (some 53))), some (.inl d), some (.inl w), none, none, none]) (st' := [.inl d, .inr (.inr (some 53))]) (m' := m5) (fun fx hfx o hk => ?_) ?_
          · refine r_ld (pc' := 52) hM_229 d_229_51 rfl rfl ?_
            refine r_ld (pc' := 53) hM_229 d_229_52 rfl rfl ?_
            exact hk
          refine ok_cl (pc' := 56) (c := (231, 0)) (a := [.inr (.inr (some 53)), .inl d]) (q := []) hM_229 d_229_53 rfl (by decide +kernel) hM_231 rfl rfl rfl (Nat.le_of_ble_eq_true rfl) (Nat.le_of_ble_eq_true rfl) (Or.inr rfl) (z_231  m5 d hz18) (Nat.le_of_ble_eq_true rfl) ?_
          rintro _ m6 ⟨rfl, hz19⟩
          replace H := H  m6 hz19
          show ok 4 229 56 [some (.inr (.inr (some 53))), some (.inl d), some (.inl w), none, none, none] [] m6 Q
          obtain ⟨hz20, H⟩ := H
          refine ok_sg (pc' := 57) (ls' := [some (.inr (.inr (some 53))), some (.inl d), some (.inl w), none, none, none]) (st' := [.inr (.inr (some 53))]) (m' := m6) (fun fx hfx o hk => ?_) ?_
          · refine r_ld (pc' := 57) hM_229 d_229_56 rfl rfl ?_
            exact hk
          refine ok_cl (pc' := 60) (c := (236, 0)) (a := [.inr (.inr (some 53))]) (q := []) hM_229 d_229_57 rfl (by decide +kernel) hM_236 rfl rfl rfl (Nat.le_of_ble_eq_true rfl) (Nat.le_of_ble_eq_true rfl) (Or.inr rfl) (z_236  m6  hz20) (Nat.le_of_ble_eq_true rfl) ?_
          rintro _ m7 ⟨rfl, hz21⟩
          replace H := H  m7 hz21
          show ok 4 229 60 [some (.inr (.inr (some 53))), some (.inl d), some (.inl w), none, none, none] [] m7 Q
          obtain ⟨hz22, H⟩ := H
          refine ok_sg (pc' := 62) (ls' := [some (.inr (.inr (some 53))), some (.inl d), some (.inl w), none, none, none]) (st' := [.inl d, .inr (.inr (some 53))]) (m' := m7) (fun fx hfx o hk => ?_) ?_
          · refine r_ld (pc' := 61) hM_229 d_229_60 rfl rfl ?_
            refine r_ld (pc' := 62) hM_229 d_229_61 rfl rfl ?_
            exact hk
          refine ok_cl (pc' := 65) (c := (234, 0)) (a := [.inr (.inr (some 53)), .inl d]) (q := []) hM_229 d_229_62 rfl (by decide +kernel) hM_234 rfl rfl rfl (Nat.le_of_ble_eq_true rfl) (Nat.le_of_ble_eq_true rfl) (Or.inr rfl) (z_234  m7 d hz22) (Nat.le_of_ble_eq_true rfl) ?_
          rintro _ m8 ⟨rfl, hz23⟩
          replace H := H  m8 hz23
          show ok 4 229 65 [some (.inr (.inr (some 53))), some (.inl d), some (.inl w), none, none, none] [.inl (kmc 99 (SN (nv (m7 54))) (kf0 (nv (m7 54))) (nv (m7 54) 4).toNat d.toNat (kwa (nv (m7 54)) (m7 65)))] m8 Q
          refine ok_sg (pc' := 69) (ls' := [some (.inr (.inr (some 53))), some (.inl d), some (.inl w), some (.inl (kmc 99 (SN (nv (m7 54))) (kf0 (nv (m7 54))) (nv (m7 54) 4).toNat d.toNat (kwa (nv (m7 54)) (m7 65)))), none, none]) (st' := [.inl 99, .inl (kmc 99 (SN (nv (m7 54))) (kf0 (nv (m7 54))) (nv (m7 54) 4).toNat d.toNat (kwa (nv (m7 54)) (m7 65)))]) (m' := m8) (fun fx hfx o hk => ?_) ?_
          · refine r_sto (pc' := 66) (ls' := [some (.inr (.inr (some 53))), some (.inl d), some (.inl w), some (.inl (kmc 99 (SN (nv (m7 54))) (kf0 (nv (m7 54))) (nv (m7 54) 4).toNat d.toNat (kwa (nv (m7 54)) (m7 65)))), none, none]) hM_229 d_229_65 rfl rfl ?_
            refine r_ld (pc' := 67) hM_229 d_229_66 rfl rfl ?_
            refine r_k (pc' := 69) (v := .inl 99) hM_229 d_229_67 rfl rfl ?_
            exact hk
          refine ok_ic (pc' := 74) (pc2 := 72) hM_229 d_229_69 (by decide) rfl (fun hz24 => ?_) (fun hz24 => ?_)
          · have H := H.1 hz24
            refine ok_sg (pc' := 85) (ls' := [some (.inr (.inr (some 53))), some (.inl d), some (.inl w), some (.inl (kmc 99 (SN (nv (m7 54))) (kf0 (nv (m7 54))) (nv (m7 54) 4).toNat d.toNat (kwa (nv (m7 54)) (m7 65)))), none, none]) (st' := [.inl d, .inl (w - 10)]) (m' := m8) (fun fx hfx o hk => ?_) ?_
            · refine r_ld (pc' := 75) hM_229 d_229_74 rfl rfl ?_
              refine r_if (pc' := 80) (pc2 := 78) hM_229 d_229_75 (by decide) rfl (fun _ => ?_) (fun hc => absurd hz1 hc)
              refine r_ld (pc' := 81) hM_229 d_229_80 rfl rfl ?_
              refine r_k (pc' := 83) (v := .inl 10) hM_229 d_229_81 rfl rfl ?_
              refine r_b (pc' := 84) (z := (w - 10)) hM_229 d_229_83 rfl rfl ?_
              refine r_ld (pc' := 85) hM_229 d_229_84 rfl rfl ?_
              exact hk
            refine ok_ic (pc' := 90) (pc2 := 88) hM_229 d_229_85 (by decide) rfl (fun hz25 => ?_) (fun hz25 => ?_)
            · have H := H.1 hz25
              refine ok_sg (pc' := 93) (ls' := [some (.inr (.inr (some 53))), some (.inl d), some (.inl w), some (.inl (kmc 99 (SN (nv (m7 54))) (kf0 (nv (m7 54))) (nv (m7 54) 4).toNat d.toNat (kwa (nv (m7 54)) (m7 65)))), some (.inl 0), none]) (st' := []) (m' := m8) (fun fx hfx o hk => ?_) ?_
              · refine r_k (pc' := 91) (v := .inl 0) hM_229 d_229_90 rfl rfl ?_
                refine r_sto (pc' := 93) (ls' := [some (.inr (.inr (some 53))), some (.inl d), some (.inl w), some (.inl (kmc 99 (SN (nv (m7 54))) (kf0 (nv (m7 54))) (nv (m7 54) 4).toNat d.toNat (kwa (nv (m7 54)) (m7 65)))), some (.inl 0), none]) hM_229 d_229_91 rfl rfl ?_
                exact hk
              exact H
            · have H := H.2 hz25
              refine ok_sg (pc' := 89) (ls' := [some (.inr (.inr (some 53))), some (.inl d), some (.inl w), some (.inl (kmc 99 (SN (nv (m7 54))) (kf0 (nv (m7 54))) (nv (m7 54) 4).toNat d.toNat (kwa (nv (m7 54)) (m7 65)))), none, none]) (st' := [.inl (-1)]) (m' := m8) (fun fx hfx o hk => ?_) ?_
              · refine r_k (pc' := 89) (v := .inl (-1)) hM_229 d_229_88 rfl rfl ?_
                exact hk
              exact ok_rt (fun fx _ => rt_i hM_229 d_229_89 rfl) H
          · have H := H.2 hz24
            refine ok_sg (pc' := 73) (ls' := [some (.inr (.inr (some 53))), some (.inl d), some (.inl w), some (.inl (kmc 99 (SN (nv (m7 54))) (kf0 (nv (m7 54))) (nv (m7 54) 4).toNat d.toNat (kwa (nv (m7 54)) (m7 65)))), none, none]) (st' := [.inl (-1)]) (m' := m8) (fun fx hfx o hk => ?_) ?_
            · refine r_k (pc' := 73) (v := .inl (-1)) hM_229 d_229_72 rfl rfl ?_
              exact hk
            exact ok_rt (fun fx _ => rt_i hM_229 d_229_73 rfl) H
        · have H := H.2 (as_ite.mp (Decidable.not_not.mp hz17))
          refine ok_sg (pc' := 50) (ls' := [some (.inr (.inr (some 53))), some (.inl d), some (.inl w), none, none, none]) (st' := [.inl (-4)]) (m' := m5) (fun fx hfx o hk => ?_) ?_
          · refine r_k (pc' := 50) (v := .inl (-4)) hM_229 d_229_48 rfl rfl ?_
            exact hk
          exact ok_rt (fun fx _ => rt_i hM_229 d_229_50 rfl) H
      · have H := H.2 (as_ite.mp (Decidable.not_not.mp hz14))
        refine ok_sg (pc' := 40) (ls' := [some (.inr (.inr (some 53))), some (.inl d), some (.inl w), none, none, none]) (st' := [.inl (-3)]) (m' := mu m 53 0 0) (fun fx hfx o hk => ?_) ?_
        · refine r_k (pc' := 40) (v := .inl (-3)) hM_229 d_229_38 rfl rfl ?_
          exact hk
        exact ok_rt (fun fx _ => rt_i hM_229 d_229_40 rfl) H
    · have H := H.2 (as_ite.mp (Decidable.not_not.mp hz13))
      refine ok_sg (pc' := 25) (ls' := [some (.inr (.inr (some 53))), some (.inl d), some (.inl w), none, none, none]) (st' := [.inl (-2)]) (m' := mu m 53 0 0) (fun fx hfx o hk => ?_) ?_
      · refine r_k (pc' := 25) (v := .inl (-2)) hM_229 d_229_23 rfl rfl ?_
        exact hk
      exact ok_rt (fun fx _ => rt_i hM_229 d_229_25 rfl) H
