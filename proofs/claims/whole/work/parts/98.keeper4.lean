theorem z_118 (m : am_M) (s d : Int) (hq : KPR (kn m) (kF m) (kH m) d.toNat m s d) : ok 11 118 0 (am_ent 9 [.inr (.inr (some 43)), .inl s, .inl d]) [] m (fun rr m' => rr = [.inl (kmc 63 (kn m) (kF m) (kH m) d.toNat (kfl s.toNat))] ∧ (TBS (KRF (kn m) (kF m) (kH m)) m' ∧ ∀ a, a ≠ 45 → m' a = m a)) :=
  (few (KOK_n hq.1.1).2.1 d.toNat m s d hq).mono (by have := hq.2.2.2; omega)
theorem kmc_kmv {n : Nat} {F : Nat → Nat} {H d : Nat} {w : Nat → Nat} : (if kmc 63 n F H d w < 63 then kmc 63 n F H d w else -1) = kmv n F H d w := by
  have h : -1 ≤ kmv n F H d w ∧ kmv n F H d w < 61 := by
    unfold kmv
    rcases plv_rng (C := KW n F H d w) (N := 61) with h | h
    · omega
    · omega
  unfold kmc
  by_cases hc : kmv n F H d w = -1
  · rw [if_pos hc, if_neg (by decide), hc]
  · rw [if_neg hc, if_pos (by omega)]
def KST (m : am_M) : Prop := KOK m ∧ 0 ≤ m 43 5 ∧ (m 43 5).toNat < 8 ^ kn m
def KOP (n : Nat) (F : Nat → Nat) (H D : Nat) (w : Nat → Nat) (s : Nat) : Prop := cnt s 12 ≤ H ∧ kgo n w s ∧ ((cnt s 12 : Nat) : Int) + kmc 63 n F H D (ktp F s w) = kmc 63 n F H (D + 1) w
noncomputable def klc (n : Nat) (F : Nat → Nat) (H D : Nat) (w : Nat → Nat) : Nat := (plv (KOP n F H D w) (2 ^ n)).toNat
theorem klc_ok {n : Nat} {F : Nat → Nat} {H D : Nat} {w : Nat → Nat} (hn : n ≤ 5) (hD : D + 1 ≤ 8) (hk : kmc 63 n F H (D + 1) w < 63) : klc n F H D w < 2 ^ n ∧ KOP n F H D w (klc n F H D w) ∧ ∀ s, s < klc n F H D w → ¬ KOP n F H D w s := by
  unfold klc
  rcases plv_ok (KOP n F H D w) (2 ^ n) with ⟨p, a1, a2, a3, a4⟩ | ⟨a1, a2⟩
  · rw [a4, Int.toNat_natCast]
    exact ⟨a1, a2, a3⟩
  · obtain ⟨s, s1, s2, s3, s4⟩ := kmc_ex (c := 63) hn hD (by decide) hk
    exact absurd ⟨s2, s3, s4⟩ (a1 s s1)
theorem klc_eq {n : Nat} {F : Nat → Nat} {H D : Nat} {w : Nat → Nat} {s : Nat} (hs : s < 2 ^ n) (h1 : KOP n F H D w s) (h2 : ∀ s', s' < s → ¬ KOP n F H D w s') : klc n F H D w = s := by
  unfold klc
  rw [plv_eq (Or.inl ⟨s, hs, h1, h2, rfl⟩), Int.toNat_natCast]
theorem KOP_cap {n : Nat} {F : Nat → Nat} {H D : Nat} {w w' : Nat → Nat} (hn : n ≤ 5) (hD : D + 1 ≤ 8) (h : ∀ k, k < n → min (D + 1) (w k) = min (D + 1) (w' k)) (s : Nat) (q : KOP n F H D w s) : KOP n F H D w' s := by
  obtain ⟨q1, q2, q3⟩ := q
  refine ⟨q1, fun i hi hb => ?_, ?_⟩
  · have := h i hi
    have := q2 i hi hb
    omega
  · rw [← kmc_cap (w := w) hn hD (by decide) h, ← q3, kmc_cap (w := ktp F s w') (w' := ktp F s w) hn (by omega) (by decide) fun k hk => ?_]
    have := h k hk
    unfold ktp
    split
    · rfl
    · omega
theorem klc_cap {n : Nat} {F : Nat → Nat} {H D : Nat} {w w' : Nat → Nat} (hn : n ≤ 5) (hD : D + 1 ≤ 8) (h : ∀ k, k < n → min (D + 1) (w k) = min (D + 1) (w' k)) (hk : kmc 63 n F H (D + 1) w < 63) : klc n F H D w = klc n F H D w' := by
  obtain ⟨a1, a2, a3⟩ := klc_ok hn hD hk
  exact (klc_eq a1 (KOP_cap hn hD h _ a2) fun s hs q => a3 s hs (KOP_cap hn hD (fun k hk => (h k hk).symm) s q)).symm
/-- the waits after so many days of the first of the best ways -/
noncomputable def kws (n : Nat) (F : Nat → Nat) (H d : Nat) (w : Nat → Nat) : Nat → Nat → Nat
  | 0 => w
  | i + 1 => ktp F (klc n F H (d - i - 1) (kws n F H d w i)) (kws n F H d w i)
def kpl (sp : Nat → Int) (C : Nat) : Nat → Nat
  | 0 => 0
  | i + 1 => if C.testBit i = true then kpl sp C i ||| 2 ^ (sp i).toNat else kpl sp C i
theorem kpl_lt {sp : Nat → Int} {C : Nat} : ∀ n, (∀ i, i < n → sp i < 12 ∧ 0 ≤ sp i) → kpl sp C n < 4096 := by
  intro n
  induction n with
  | zero => intro _; exact Nat.zero_lt_succ _
  | succ n ih =>
    intro h
    have h1 := ih fun i hi => h i (by omega)
    have h2 := h n (by omega)
    show (if C.testBit n = true then kpl sp C n ||| 2 ^ (sp n).toNat else kpl sp C n) < 4096
    split
    · exact Nat.or_lt_two_pow (n := 12) h1 (Nat.pow_lt_pow_right (by decide) (by omega))
    · exact h1
theorem kpl_congr {sp sp' : Nat → Int} {C : Nat} : ∀ n, (∀ i, i < n → sp i = sp' i) → kpl sp C n = kpl sp' C n := by
  intro n
  induction n with
  | zero => intro _; rfl
  | succ n ih =>
    intro h
    show (if C.testBit n = true then kpl sp C n ||| 2 ^ (sp n).toNat else kpl sp C n) = (if C.testBit n = true then kpl sp' C n ||| 2 ^ (sp' n).toNat else kpl sp' C n)
    rw [ih fun i hi => h i (by omega), h n (by omega)]
theorem kfr {m m' : am_M} (h : m' 43 = m 43) : kn m' = kn m ∧ kF m' = kF m ∧ kH m' = kH m ∧ (KOK m → KOK m') := by
  unfold kn kF kH KOK
  rw [h]
  exact ⟨rfl, rfl, rfl, id⟩
theorem flm_fr {m : am_M} {v : Int} {a : Nat} (h : a ≠ 45) : flm m 45 8192 v a = m a := by
  funext k
  unfold flm
  rw [if_neg (fun z => h z.1)]
theorem u_116_0 {Q : List am_V → am_M → Prop} {m : am_M} {d : Int}  (H : (KOK (flm m 45 8192 0) ∧ (0 ≤ ((flm m 45 8192 0) 43 5) ∧ ((flm m 45 8192 0) 43 5).toNat < 8 ^ kn (flm m 45 8192 0)) ∧ 0 ≤ d ∧ d ≤ 8) ∧ (∀ (m1 : am_M), (m1 = (flm m 45 8192 0)) → (KPR (kn m1) (kF m1) (kH m1) d.toNat m1 ((kpk (fun i => min d.toNat (kfl ((flm m 45 8192 0) 43 5).toNat i)) (kn (flm m 45 8192 0)) : Nat) : Int) d) ∧ (∀ (m2 : am_M), ((TBS (KRF (kn m1) (kF m1) (kH m1)) m2 ∧ ∀ a, a ≠ 45 → m2 a = m1 a)) → ∀ y1 : Int, y1 = (if am_s (kmc 63 (kn m1) (kF m1) (kH m1) d.toNat (kfl ((kpk (fun i => min d.toNat (kfl ((flm m 45 8192 0) 43 5).toNat i)) (kn (flm m 45 8192 0)) : Nat) : Int).toNat)) < 63 then (kmc 63 (kn m1) (kF m1) (kH m1) d.toNat (kfl ((kpk (fun i => min d.toNat (kfl ((flm m 45 8192 0) 43 5).toNat i)) (kn (flm m 45 8192 0)) : Nat) : Int).toNat)) else (-1)) → Q [.inl y1] m2))) : ok 12 116 0 [some (.inr (.inr (some 43))), some (.inl d), none] [] m Q := by
  obtain ⟨hz1, H⟩ := H
  refine ok_sg (pc' := 15) (ls' := [some (.inr (.inr (some 43))), some (.inl d), none]) (st' := [.inl d, .inl ((flm m 45 8192 0) 43 5), .inr (.inr (some 43)), .inr (.inr (some 43))]) (m' := flm m 45 8192 0) (fun fx hfx o hk => ?_) ?_
  · refine r_ld (pc' := 1) hM_116 d_116_0 rfl rfl ?_
    refine r_gR (pc' := 4) (v := 45) hM_116 d_116_1 rfl (by decide +kernel) ?_
    refine r_k (pc' := 5) (v := .inl 0) hM_116 d_116_4 rfl rfl ?_
    refine r_cl (pc' := 8) (c := (96, 2)) (a := [.inr (.inr (some 45)), .inl 0]) (q := []) hM_116 d_116_5 rfl (by decide +kernel) hM_96 rfl rfl rfl (Nat.le_of_ble_eq_true rfl) (Nat.le_of_ble_eq_true rfl) (Or.inl rfl) (c_96_45 m 0) (Nat.le_of_ble_eq_true rfl) ?_
    show rn fx 12 (0, 0) 116 8 [some (.inr (.inr (some 43))), some (.inl d), none] [] (st0 (flm m 45 8192 0)) o
    refine r_ld (pc' := 9) hM_116 d_116_8 rfl rfl ?_
    refine r_ld (pc' := 10) hM_116 d_116_9 rfl rfl ?_
    refine r_ld (pc' := 11) hM_116 d_116_10 rfl rfl ?_
    refine r_gI (pc' := 14) (k0 := 5) hM_116 d_116_11 rfl (by decide +kernel) ?_
    refine r_ld (pc' := 15) hM_116 d_116_14 rfl rfl ?_
    exact hk
  refine ok_cl (pc' := 18) (c := (117, 0)) (a := [.inr (.inr (some 43)), .inl ((flm m 45 8192 0) 43 5), .inl d]) (q := [.inr (.inr (some 43))]) hM_116 d_116_15 rfl (by decide +kernel) hM_117 rfl rfl rfl (Nat.le_of_ble_eq_true rfl) (Nat.le_of_ble_eq_true rfl) (Or.inr rfl) (z_117  (flm m 45 8192 0) ((flm m 45 8192 0) 43 5) d hz1) (Nat.le_of_ble_eq_true rfl) ?_
  rintro _ m1 ⟨rfl, hz2⟩
  replace H := H  m1 hz2
  show ok 12 116 18 [some (.inr (.inr (some 43))), some (.inl d), none] [.inl ((kpk (fun i => min d.toNat (kfl ((flm m 45 8192 0) 43 5).toNat i)) (kn (flm m 45 8192 0)) : Nat) : Int), .inr (.inr (some 43))] m1 Q
  obtain ⟨hz3, H⟩ := H
  refine ok_sg (pc' := 19) (ls' := [some (.inr (.inr (some 43))), some (.inl d), none]) (st' := [.inl d, .inl ((kpk (fun i => min d.toNat (kfl ((flm m 45 8192 0) 43 5).toNat i)) (kn (flm m 45 8192 0)) : Nat) : Int), .inr (.inr (some 43))]) (m' := m1) (fun fx hfx o hk => ?_) ?_
  · refine r_ld (pc' := 19) hM_116 d_116_18 rfl rfl ?_
    exact hk
  refine ok_cl (pc' := 22) (c := (118, 0)) (a := [.inr (.inr (some 43)), .inl ((kpk (fun i => min d.toNat (kfl ((flm m 45 8192 0) 43 5).toNat i)) (kn (flm m 45 8192 0)) : Nat) : Int), .inl d]) (q := []) hM_116 d_116_19 rfl (by decide +kernel) hM_118 rfl rfl rfl (Nat.le_of_ble_eq_true rfl) (Nat.le_of_ble_eq_true rfl) (Or.inr rfl) (z_118  m1 ((kpk (fun i => min d.toNat (kfl ((flm m 45 8192 0) 43 5).toNat i)) (kn (flm m 45 8192 0)) : Nat) : Int) d hz3) (Nat.le_of_ble_eq_true rfl) ?_
  rintro _ m2 ⟨rfl, hz4⟩
  replace H := H  m2 hz4
  show ok 12 116 22 [some (.inr (.inr (some 43))), some (.inl d), none] [.inl (kmc 63 (kn m1) (kF m1) (kH m1) d.toNat (kfl ((kpk (fun i => min d.toNat (kfl ((flm m 45 8192 0) 43 5).toNat i)) (kn (flm m 45 8192 0)) : Nat) : Int).toNat))] m2 Q
  refine ok_sg (pc' := 26) (ls' := [some (.inr (.inr (some 43))), some (.inl d), some (.inl (kmc 63 (kn m1) (kF m1) (kH m1) d.toNat (kfl ((kpk (fun i => min d.toNat (kfl ((flm m 45 8192 0) 43 5).toNat i)) (kn (flm m 45 8192 0)) : Nat) : Int).toNat)))]) (st' := [.inl 63, .inl (kmc 63 (kn m1) (kF m1) (kH m1) d.toNat (kfl ((kpk (fun i => min d.toNat (kfl ((flm m 45 8192 0) 43 5).toNat i)) (kn (flm m 45 8192 0)) : Nat) : Int).toNat))]) (m' := m2) (fun fx hfx o hk => ?_) ?_
  · refine r_sto (pc' := 23) (ls' := [some (.inr (.inr (some 43))), some (.inl d), some (.inl (kmc 63 (kn m1) (kF m1) (kH m1) d.toNat (kfl ((kpk (fun i => min d.toNat (kfl ((flm m 45 8192 0) 43 5).toNat i)) (kn (flm m 45 8192 0)) : Nat) : Int).toNat)))]) hM_116 d_116_22 rfl rfl ?_
    refine r_ld (pc' := 24) hM_116 d_116_23 rfl rfl ?_
    refine r_k (pc' := 26) (v := .inl 63) hM_116 d_116_24 rfl rfl ?_
    exact hk
  refine ok_sg (pc' := 34) (ls' := [some (.inr (.inr (some 43))), some (.inl d), some (.inl (kmc 63 (kn m1) (kF m1) (kH m1) d.toNat (kfl ((kpk (fun i => min d.toNat (kfl ((flm m 45 8192 0) 43 5).toNat i)) (kn (flm m 45 8192 0)) : Nat) : Int).toNat)))]) (st' := [.inl (if am_s (kmc 63 (kn m1) (kF m1) (kH m1) d.toNat (kfl ((kpk (fun i => min d.toNat (kfl ((flm m 45 8192 0) 43 5).toNat i)) (kn (flm m 45 8192 0)) : Nat) : Int).toNat)) < 63 then (kmc 63 (kn m1) (kF m1) (kH m1) d.toNat (kfl ((kpk (fun i => min d.toNat (kfl ((flm m 45 8192 0) 43 5).toNat i)) (kn (flm m 45 8192 0)) : Nat) : Int).toNat)) else (-1))]) (m' := m2) (fun fx hfx o K => ?_) ?_
  · refine r_ic (pc' := 33) (pc2 := 29) hM_116 d_116_26 (by decide) rfl (fun hz5 => ?_) (fun hz5 => ?_)
    · have hz5 : am_s (kmc 63 (kn m1) (kF m1) (kH m1) d.toNat (kfl ((kpk (fun i => min d.toNat (kfl ((flm m 45 8192 0) 43 5).toNat i)) (kn (flm m 45 8192 0)) : Nat) : Int).toNat)) < 63 := hz5
      rw [if_pos hz5] at K
      refine r_ld (pc' := 34) hM_116 d_116_33 rfl rfl ?_
      exact K
    · have hz5 : ¬ (am_s (kmc 63 (kn m1) (kF m1) (kH m1) d.toNat (kfl ((kpk (fun i => min d.toNat (kfl ((flm m 45 8192 0) 43 5).toNat i)) (kn (flm m 45 8192 0)) : Nat) : Int).toNat)) < 63) := hz5
      rw [if_neg hz5] at K
      refine r_k (pc' := 30) (v := .inl (-1)) hM_116 d_116_29 rfl rfl ?_
      refine r_go (pc' := 34) hM_116 d_116_30 (by decide) ?_
      exact K
  have K : ∀ y1 : Int, y1 = (if am_s (kmc 63 (kn m1) (kF m1) (kH m1) d.toNat (kfl ((kpk (fun i => min d.toNat (kfl ((flm m 45 8192 0) 43 5).toNat i)) (kn (flm m 45 8192 0)) : Nat) : Int).toNat)) < 63 then (kmc 63 (kn m1) (kF m1) (kH m1) d.toNat (kfl ((kpk (fun i => min d.toNat (kfl ((flm m 45 8192 0) 43 5).toNat i)) (kn (flm m 45 8192 0)) : Nat) : Int).toNat)) else (-1)) → ok 12 116 34 [some (.inr (.inr (some 43))), some (.inl d), some (.inl (kmc 63 (kn m1) (kF m1) (kH m1) d.toNat (kfl ((kpk (fun i => min d.toNat (kfl ((flm m 45 8192 0) 43 5).toNat i)) (kn (flm m 45 8192 0)) : Nat) : Int).toNat)))] [.inl y1] m2 Q := by
    intro y1 hy1
    replace H := H y1 hy1
    exact ok_rt (fun fx _ => rt_i hM_116 d_116_34 rfl) H
  exact K _ rfl
theorem u_126_3 {Q : List am_V → am_M → Prop} {m : am_M} {s : Int} {d : Int} {t : Int} {c : Int}  (H : ((am_s (am_shl 1 (m 43 3)) ≤ am_s c) → Q [.inl 0] m) ∧ ((¬ (am_s (am_shl 1 (m 43 3)) ≤ am_s c)) → (KOK m ∧ (0 ≤ s ∧ s < 32768) ∧ (0 ≤ c ∧ c < 4096) ∧ 0 ≤ (d + 1) ∧ (d + 1) ≤ 8) ∧ (∀ (v1 : Int) (m1 : am_M), (m1 = m ∧ (v1 = 0 ∨ v1 = 1) ∧ (v1 = 1 ↔ KCH m s.toNat c.toNat (d + 1).toNat)) → ((¬ am_s v1 = 0) → (0 ≤ c ∧ c < 4096) ∧ ((KOK m1 ∧ (0 ≤ s ∧ s < 32768) ∧ 0 ≤ c ∧ c < 4096) ∧ (∀ (m2 : am_M), (m2 = m1) → (KOK m2 ∧ (0 ≤ ((kpk (ktp (kF m1) c.toNat (kfl s.toNat)) (kn m1) : Nat) : Int) ∧ ((kpk (ktp (kF m1) c.toNat (kfl s.toNat)) (kn m1) : Nat) : Int).toNat < 8 ^ kn m2) ∧ 0 ≤ d ∧ d ≤ 8) ∧ (∀ (m3 : am_M), (m3 = m2) → (KOK m3 ∧ (0 ≤ ((kpk (fun i => min d.toNat (kfl ((kpk (ktp (kF m1) c.toNat (kfl s.toNat)) (kn m1) : Nat) : Int).toNat i)) (kn m2) : Nat) : Int) ∧ ((kpk (fun i => min d.toNat (kfl ((kpk (ktp (kF m1) c.toNat (kfl s.toNat)) (kn m1) : Nat) : Int).toNat i)) (kn m2) : Nat) : Int) < 32768) ∧ 0 ≤ d ∧ d ≤ 8) ∧ (∀ (m4 : am_M), (m4 = m3) → ((am_s (t - (((cnt c.toNat 12 : Nat) : Int))) < am_s ((kls d.toNat (kfl ((kpk (fun i => min d.toNat (kfl ((kpk (ktp (kF m1) c.toNat (kfl s.toNat)) (kn m1) : Nat) : Int).toNat i)) (kn m2) : Nat) : Int).toNat) (kF m3) (kn m3) : Nat) : Int)) → ok 12 126 3 [some (.inr (.inr (some 43))), some (.inl s), some (.inl d), some (.inl t), some (.inl (c + 1)), none, none] [] m4 Q) ∧ ((¬ (am_s (t - (((cnt c.toNat 12 : Nat) : Int))) < am_s ((kls d.toNat (kfl ((kpk (fun i => min d.toNat (kfl ((kpk (ktp (kF m1) c.toNat (kfl s.toNat)) (kn m1) : Nat) : Int).toNat i)) (kn m2) : Nat) : Int).toNat) (kF m3) (kn m3) : Nat) : Int))) → (KPR (kn m4) (kF m4) (kH m4) d.toNat m4 ((kpk (fun i => min d.toNat (kfl ((kpk (ktp (kF m1) c.toNat (kfl s.toNat)) (kn m1) : Nat) : Int).toNat i)) (kn m2) : Nat) : Int) d) ∧ (∀ (m5 : am_M), ((TBS (KRF (kn m4) (kF m4) (kH m4)) m5 ∧ ∀ a, a ≠ 45 → m5 a = m4 a)) → ((¬ am_s (kmc 63 (kn m4) (kF m4) (kH m4) d.toNat (kfl ((kpk (fun i => min d.toNat (kfl ((kpk (ktp (kF m1) c.toNat (kfl s.toNat)) (kn m1) : Nat) : Int).toNat i)) (kn m2) : Nat) : Int).toNat)) = am_s (t - (((cnt c.toNat 12 : Nat) : Int)))) → ok 12 126 3 [some (.inr (.inr (some 43))), some (.inl s), some (.inl d), some (.inl t), some (.inl (c + 1)), none, none] [] m5 Q) ∧ ((am_s (kmc 63 (kn m4) (kF m4) (kH m4) d.toNat (kfl ((kpk (fun i => min d.toNat (kfl ((kpk (ktp (kF m1) c.toNat (kfl s.toNat)) (kn m1) : Nat) : Int).toNat i)) (kn m2) : Nat) : Int).toNat)) = am_s (t - (((cnt c.toNat 12 : Nat) : Int)))) → Q [.inl c] m5)))))))) ∧ ((am_s v1 = 0) → ok 12 126 3 [some (.inr (.inr (some 43))), some (.inl s), some (.inl d), some (.inl t), some (.inl (c + 1)), none, none] [] m1 Q)))) : ok 12 126 3 [some (.inr (.inr (some 43))), some (.inl s), some (.inl d), some (.inl t), some (.inl c), none, none] [] m Q := by
  refine ok_sg (pc' := 11) (ls' := [some (.inr (.inr (some 43))), some (.inl s), some (.inl d), some (.inl t), some (.inl c), none, none]) (st' := [.inl (am_shl 1 (m 43 3)), .inl c]) (m' := m) (fun fx hfx o hk => ?_) ?_
  · refine r_ld (pc' := 5) hM_126 d_126_3 rfl rfl ?_
    refine r_k (pc' := 6) (v := .inl 1) hM_126 d_126_5 rfl rfl ?_
    refine r_ld (pc' := 7) hM_126 d_126_6 rfl rfl ?_
    refine r_gI (pc' := 10) (k0 := 3) hM_126 d_126_7 rfl (by decide +kernel) ?_
    refine r_b (pc' := 11) (z := (am_shl 1 (m 43 3))) hM_126 d_126_10 rfl rfl ?_
    exact hk
  refine ok_ic (pc' := 86) (pc2 := 14) hM_126 d_126_11 (by decide) rfl (fun hz1 => ?_) (fun hz1 => ?_)
  · have H := H.1 hz1
    refine ok_sg (pc' := 87) (ls' := [some (.inr (.inr (some 43))), some (.inl s), some (.inl d), some (.inl t), some (.inl c), none, none]) (st' := [.inl 0]) (m' := m) (fun fx hfx o hk => ?_) ?_
    · refine r_k (pc' := 87) (v := .inl 0) hM_126 d_126_86 rfl rfl ?_
      exact hk
    exact ok_rt (fun fx _ => rt_i hM_126 d_126_87 rfl) H
  · have H := H.2 hz1
    obtain ⟨hz2, H⟩ := H
    refine ok_sg (pc' := 21) (ls' := [some (.inr (.inr (some 43))), some (.inl s), some (.inl d), some (.inl t), some (.inl c), none, none]) (st' := [.inl (d + 1), .inl c, .inl s, .inr (.inr (some 43))]) (m' := m) (fun fx hfx o hk => ?_) ?_
    · refine r_ld (pc' := 15) hM_126 d_126_14 rfl rfl ?_
      refine r_ld (pc' := 16) hM_126 d_126_15 rfl rfl ?_
      refine r_ld (pc' := 18) hM_126 d_126_16 rfl rfl ?_
      refine r_ld (pc' := 19) hM_126 d_126_18 rfl rfl ?_
      refine r_k (pc' := 20) (v := .inl 1) hM_126 d_126_19 rfl rfl ?_
      refine r_b (pc' := 21) (z := (d + 1)) hM_126 d_126_20 rfl rfl ?_
      exact hk
    refine ok_cl (pc' := 24) (c := (121, 0)) (a := [.inr (.inr (some 43)), .inl s, .inl c, .inl (d + 1)]) (q := []) hM_126 d_126_21 rfl (by decide +kernel) hM_121 rfl rfl rfl (Nat.le_of_ble_eq_true rfl) (Nat.le_of_ble_eq_true rfl) (Or.inr rfl) (z_121  m s c (d + 1) hz2) (Nat.le_of_ble_eq_true rfl) ?_
    rintro _ m1 ⟨v1, rfl, hz3⟩
    replace H := H v1 m1 hz3
    show ok 12 126 24 [some (.inr (.inr (some 43))), some (.inl s), some (.inl d), some (.inl t), some (.inl c), none, none] [.inl v1] m1 Q
    refine ok_if (pc' := 30) (pc2 := 27) hM_126 d_126_24 (by decide) rfl (fun hz4 => ?_) (fun hz4 => ?_)
    · have H := H.1 hz4
      obtain ⟨hz5, H⟩ := H
      obtain ⟨hz6, H⟩ := H
      refine ok_sg (pc' := 44) (ls' := [some (.inr (.inr (some 43))), some (.inl s), some (.inl d), some (.inl t), some (.inl c), some (.inl (t - (((cnt c.toNat 12 : Nat) : Int)))), none]) (st' := [.inl c, .inl s, .inr (.inr (some 43)), .inr (.inr (some 43))]) (m' := m1) (fun fx hfx o hk => ?_) ?_
      · refine r_ld (pc' := 31) hM_126 d_126_30 rfl rfl ?_
        refine r_ld (pc' := 33) hM_126 d_126_31 rfl rfl ?_
        refine r_cl (pc' := 36) (c := (72, 2)) (a := [.inl c]) (q := [.inl t]) hM_126 d_126_33 rfl (by decide +kernel) hM_72 rfl rfl rfl (Nat.le_of_ble_eq_true rfl) (Nat.le_of_ble_eq_true rfl) (Or.inl rfl) (n_72  m1 c hz5) (Nat.le_of_ble_eq_true rfl) ?_
        show rn fx 12 (0, 0) 126 36 [some (.inr (.inr (some 43))), some (.inl s), some (.inl d), some (.inl t), some (.inl c), none, none] [.inl (((cnt c.toNat 12 : Nat) : Int)), .inl t] (st0 m1) o
        refine r_b (pc' := 37) (z := (t - (((cnt c.toNat 12 : Nat) : Int)))) hM_126 d_126_36 rfl rfl ?_
        refine r_sto (pc' := 39) (ls' := [some (.inr (.inr (some 43))), some (.inl s), some (.inl d), some (.inl t), some (.inl c), some (.inl (t - (((cnt c.toNat 12 : Nat) : Int)))), none]) hM_126 d_126_37 rfl rfl ?_
        refine r_ld (pc' := 40) hM_126 d_126_39 rfl rfl ?_
        refine r_ld (pc' := 41) hM_126 d_126_40 rfl rfl ?_
        refine r_ld (pc' := 42) hM_126 d_126_41 rfl rfl ?_
        refine r_ld (pc' := 44) hM_126 d_126_42 rfl rfl ?_
        exact hk
      refine ok_cl (pc' := 47) (c := (122, 0)) (a := [.inr (.inr (some 43)), .inl s, .inl c]) (q := [.inr (.inr (some 43))]) hM_126 d_126_44 rfl (by decide +kernel) hM_122 rfl rfl rfl (Nat.le_of_ble_eq_true rfl) (Nat.le_of_ble_eq_true rfl) (Or.inr rfl) (z_122  m1 s c hz6) (Nat.le_of_ble_eq_true rfl) ?_
      rintro _ m2 ⟨rfl, hz7⟩
      replace H := H  m2 hz7
      show ok 12 126 47 [some (.inr (.inr (some 43))), some (.inl s), some (.inl d), some (.inl t), some (.inl c), some (.inl (t - (((cnt c.toNat 12 : Nat) : Int)))), none] [.inl ((kpk (ktp (kF m1) c.toNat (kfl s.toNat)) (kn m1) : Nat) : Int), .inr (.inr (some 43))] m2 Q
      obtain ⟨hz8, H⟩ := H
      refine ok_sg (pc' := 48) (ls' := [some (.inr (.inr (some 43))), some (.inl s), some (.inl d), some (.inl t), some (.inl c), some (.inl (t - (((cnt c.toNat 12 : Nat) : Int)))), none]) (st' := [.inl d, .inl ((kpk (ktp (kF m1) c.toNat (kfl s.toNat)) (kn m1) : Nat) : Int), .inr (.inr (some 43))]) (m' := m2) (fun fx hfx o hk => ?_) ?_
      · refine r_ld (pc' := 48) hM_126 d_126_47 rfl rfl ?_
        exact hk
      refine ok_cl (pc' := 51) (c := (117, 0)) (a := [.inr (.inr (some 43)), .inl ((kpk (ktp (kF m1) c.toNat (kfl s.toNat)) (kn m1) : Nat) : Int), .inl d]) (q := []) hM_126 d_126_48 rfl (by decide +kernel) hM_117 rfl rfl rfl (Nat.le_of_ble_eq_true rfl) (Nat.le_of_ble_eq_true rfl) (Or.inr rfl) (z_117  m2 ((kpk (ktp (kF m1) c.toNat (kfl s.toNat)) (kn m1) : Nat) : Int) d hz8) (Nat.le_of_ble_eq_true rfl) ?_
      rintro _ m3 ⟨rfl, hz9⟩
      replace H := H  m3 hz9
      show ok 12 126 51 [some (.inr (.inr (some 43))), some (.inl s), some (.inl d), some (.inl t), some (.inl c), some (.inl (t - (((cnt c.toNat 12 : Nat) : Int)))), none] [.inl ((kpk (fun i => min d.toNat (kfl ((kpk (ktp (kF m1) c.toNat (kfl s.toNat)) (kn m1) : Nat) : Int).toNat i)) (kn m2) : Nat) : Int)] m3 Q
      obtain ⟨hz10, H⟩ := H
      refine ok_sg (pc' := 57) (ls' := [some (.inr (.inr (some 43))), some (.inl s), some (.inl d), some (.inl t), some (.inl c), some (.inl (t - (((cnt c.toNat 12 : Nat) : Int)))), some (.inl ((kpk (fun i => min d.toNat (kfl ((kpk (ktp (kF m1) c.toNat (kfl s.toNat)) (kn m1) : Nat) : Int).toNat i)) (kn m2) : Nat) : Int))]) (st' := [.inl d, .inl ((kpk (fun i => min d.toNat (kfl ((kpk (ktp (kF m1) c.toNat (kfl s.toNat)) (kn m1) : Nat) : Int).toNat i)) (kn m2) : Nat) : Int), .inr (.inr (some 43))]) (m' := m3) (fun fx hfx o hk => ?_) ?_
      · refine r_sto (pc' := 53) (ls' := [some (.inr (.inr (some 43))), some (.inl s), some (.inl d), some (.inl t), some (.inl c), some (.inl (t - (((cnt c.toNat 12 : Nat) : Int)))), some (.inl ((kpk (fun i => min d.toNat (kfl ((kpk (ktp (kF m1) c.toNat (kfl s.toNat)) (kn m1) : Nat) : Int).toNat i)) (kn m2) : Nat) : Int))]) hM_126 d_126_51 rfl rfl ?_
        refine r_ld (pc' := 54) hM_126 d_126_53 rfl rfl ?_
        refine r_ld (pc' := 56) hM_126 d_126_54 rfl rfl ?_
        refine r_ld (pc' := 57) hM_126 d_126_56 rfl rfl ?_
        exact hk
      refine ok_cl (pc' := 60) (c := (123, 0)) (a := [.inr (.inr (some 43)), .inl ((kpk (fun i => min d.toNat (kfl ((kpk (ktp (kF m1) c.toNat (kfl s.toNat)) (kn m1) : Nat) : Int).toNat i)) (kn m2) : Nat) : Int), .inl d]) (q := []) hM_126 d_126_57 rfl (by decide +kernel) hM_123 rfl rfl rfl (Nat.le_of_ble_eq_true rfl) (Nat.le_of_ble_eq_true rfl) (Or.inr rfl) (z_123  m3 ((kpk (fun i => min d.toNat (kfl ((kpk (ktp (kF m1) c.toNat (kfl s.toNat)) (kn m1) : Nat) : Int).toNat i)) (kn m2) : Nat) : Int) d hz10) (Nat.le_of_ble_eq_true rfl) ?_
      rintro _ m4 ⟨rfl, hz11⟩
      replace H := H  m4 hz11
      show ok 12 126 60 [some (.inr (.inr (some 43))), some (.inl s), some (.inl d), some (.inl t), some (.inl c), some (.inl (t - (((cnt c.toNat 12 : Nat) : Int)))), some (.inl ((kpk (fun i => min d.toNat (kfl ((kpk (ktp (kF m1) c.toNat (kfl s.toNat)) (kn m1) : Nat) : Int).toNat i)) (kn m2) : Nat) : Int))] [.inl ((kls d.toNat (kfl ((kpk (fun i => min d.toNat (kfl ((kpk (ktp (kF m1) c.toNat (kfl s.toNat)) (kn m1) : Nat) : Int).toNat i)) (kn m2) : Nat) : Int).toNat) (kF m3) (kn m3) : Nat) : Int)] m4 Q
      refine ok_sg (pc' := 62) (ls' := [some (.inr (.inr (some 43))), some (.inl s), some (.inl d), some (.inl t), some (.inl c), some (.inl (t - (((cnt c.toNat 12 : Nat) : Int)))), some (.inl ((kpk (fun i => min d.toNat (kfl ((kpk (ktp (kF m1) c.toNat (kfl s.toNat)) (kn m1) : Nat) : Int).toNat i)) (kn m2) : Nat) : Int))]) (st' := [.inl (t - (((cnt c.toNat 12 : Nat) : Int))), .inl ((kls d.toNat (kfl ((kpk (fun i => min d.toNat (kfl ((kpk (ktp (kF m1) c.toNat (kfl s.toNat)) (kn m1) : Nat) : Int).toNat i)) (kn m2) : Nat) : Int).toNat) (kF m3) (kn m3) : Nat) : Int)]) (m' := m4) (fun fx hfx o hk => ?_) ?_
      · refine r_ld (pc' := 62) hM_126 d_126_60 rfl rfl ?_
        exact hk
      refine ok_ic (pc' := 80) (pc2 := 65) hM_126 d_126_62 (by decide) rfl (fun hz12 => ?_) (fun hz12 => ?_)
      · have H := H.1 hz12
        refine ok_sg (pc' := 3) (ls' := [some (.inr (.inr (some 43))), some (.inl s), some (.inl d), some (.inl t), some (.inl (c + 1)), none, none]) (st' := []) (m' := m4) (fun fx hfx o hk => ?_) ?_
        · refine r_sto (pc' := 83) (ls' := [some (.inr (.inr (some 43))), some (.inl s), some (.inl d), some (.inl t), some (.inl (c + 1)), some (.inl (t - (((cnt c.toNat 12 : Nat) : Int)))), some (.inl ((kpk (fun i => min d.toNat (kfl ((kpk (ktp (kF m1) c.toNat (kfl s.toNat)) (kn m1) : Nat) : Int).toNat i)) (kn m2) : Nat) : Int))]) hM_126 d_126_80 rfl rfl ?_
          refine r_go (pc' := 3) hM_126 d_126_83 (by decide) ?_
          refine rn_wk (a := [some (.inr (.inr (some 43))), some (.inl s), some (.inl d), some (.inl t), some (.inl (c + 1)), none, none]) (by simp only [am_le, and_self]) ?_
          exact hk
        exact H
      · have H := H.2 hz12
        obtain ⟨hz13, H⟩ := H
        refine ok_sg (pc' := 69) (ls' := [some (.inr (.inr (some 43))), some (.inl s), some (.inl d), some (.inl t), some (.inl c), some (.inl (t - (((cnt c.toNat 12 : Nat) : Int)))), some (.inl ((kpk (fun i => min d.toNat (kfl ((kpk (ktp (kF m1) c.toNat (kfl s.toNat)) (kn m1) : Nat) : Int).toNat i)) (kn m2) : Nat) : Int))]) (st' := [.inl d, .inl ((kpk (fun i => min d.toNat (kfl ((kpk (ktp (kF m1) c.toNat (kfl s.toNat)) (kn m1) : Nat) : Int).toNat i)) (kn m2) : Nat) : Int), .inr (.inr (some 43))]) (m' := m4) (fun fx hfx o hk => ?_) ?_
        · refine r_ld (pc' := 66) hM_126 d_126_65 rfl rfl ?_
          refine r_ld (pc' := 68) hM_126 d_126_66 rfl rfl ?_
          refine r_ld (pc' := 69) hM_126 d_126_68 rfl rfl ?_
          exact hk
        refine ok_cl (pc' := 72) (c := (118, 0)) (a := [.inr (.inr (some 43)), .inl ((kpk (fun i => min d.toNat (kfl ((kpk (ktp (kF m1) c.toNat (kfl s.toNat)) (kn m1) : Nat) : Int).toNat i)) (kn m2) : Nat) : Int), .inl d]) (q := []) hM_126 d_126_69 rfl (by decide +kernel) hM_118 rfl rfl rfl (Nat.le_of_ble_eq_true rfl) (Nat.le_of_ble_eq_true rfl) (Or.inr rfl) (z_118  m4 ((kpk (fun i => min d.toNat (kfl ((kpk (ktp (kF m1) c.toNat (kfl s.toNat)) (kn m1) : Nat) : Int).toNat i)) (kn m2) : Nat) : Int) d hz13) (Nat.le_of_ble_eq_true rfl) ?_
        rintro _ m5 ⟨rfl, hz14⟩
        replace H := H  m5 hz14
        show ok 12 126 72 [some (.inr (.inr (some 43))), some (.inl s), some (.inl d), some (.inl t), some (.inl c), some (.inl (t - (((cnt c.toNat 12 : Nat) : Int)))), some (.inl ((kpk (fun i => min d.toNat (kfl ((kpk (ktp (kF m1) c.toNat (kfl s.toNat)) (kn m1) : Nat) : Int).toNat i)) (kn m2) : Nat) : Int))] [.inl (kmc 63 (kn m4) (kF m4) (kH m4) d.toNat (kfl ((kpk (fun i => min d.toNat (kfl ((kpk (ktp (kF m1) c.toNat (kfl s.toNat)) (kn m1) : Nat) : Int).toNat i)) (kn m2) : Nat) : Int).toNat))] m5 Q
        refine ok_sg (pc' := 74) (ls' := [some (.inr (.inr (some 43))), some (.inl s), some (.inl d), some (.inl t), some (.inl c), some (.inl (t - (((cnt c.toNat 12 : Nat) : Int)))), some (.inl ((kpk (fun i => min d.toNat (kfl ((kpk (ktp (kF m1) c.toNat (kfl s.toNat)) (kn m1) : Nat) : Int).toNat i)) (kn m2) : Nat) : Int))]) (st' := [.inl (t - (((cnt c.toNat 12 : Nat) : Int))), .inl (kmc 63 (kn m4) (kF m4) (kH m4) d.toNat (kfl ((kpk (fun i => min d.toNat (kfl ((kpk (ktp (kF m1) c.toNat (kfl s.toNat)) (kn m1) : Nat) : Int).toNat i)) (kn m2) : Nat) : Int).toNat))]) (m' := m5) (fun fx hfx o hk => ?_) ?_
        · refine r_ld (pc' := 74) hM_126 d_126_72 rfl rfl ?_
          exact hk
        refine ok_ic (pc' := 80) (pc2 := 77) hM_126 d_126_74 (by decide) rfl (fun hz15 => ?_) (fun hz15 => ?_)
        · have H := H.1 hz15
          refine ok_sg (pc' := 3) (ls' := [some (.inr (.inr (some 43))), some (.inl s), some (.inl d), some (.inl t), some (.inl (c + 1)), none, none]) (st' := []) (m' := m5) (fun fx hfx o hk => ?_) ?_
          · refine r_sto (pc' := 83) (ls' := [some (.inr (.inr (some 43))), some (.inl s), some (.inl d), some (.inl t), some (.inl (c + 1)), some (.inl (t - (((cnt c.toNat 12 : Nat) : Int)))), some (.inl ((kpk (fun i => min d.toNat (kfl ((kpk (ktp (kF m1) c.toNat (kfl s.toNat)) (kn m1) : Nat) : Int).toNat i)) (kn m2) : Nat) : Int))]) hM_126 d_126_80 rfl rfl ?_
            refine r_go (pc' := 3) hM_126 d_126_83 (by decide) ?_
            refine rn_wk (a := [some (.inr (.inr (some 43))), some (.inl s), some (.inl d), some (.inl t), some (.inl (c + 1)), none, none]) (by simp only [am_le, and_self]) ?_
            exact hk
          exact H
        · have H := H.2 (Decidable.not_not.mp hz15)
          refine ok_sg (pc' := 79) (ls' := [some (.inr (.inr (some 43))), some (.inl s), some (.inl d), some (.inl t), some (.inl c), some (.inl (t - (((cnt c.toNat 12 : Nat) : Int)))), some (.inl ((kpk (fun i => min d.toNat (kfl ((kpk (ktp (kF m1) c.toNat (kfl s.toNat)) (kn m1) : Nat) : Int).toNat i)) (kn m2) : Nat) : Int))]) (st' := [.inl c]) (m' := m5) (fun fx hfx o hk => ?_) ?_
          · refine r_ld (pc' := 79) hM_126 d_126_77 rfl rfl ?_
            exact hk
          exact ok_rt (fun fx _ => rt_i hM_126 d_126_79 rfl) H
    · have H := H.2 (Decidable.not_not.mp hz4)
      refine ok_sg (pc' := 3) (ls' := [some (.inr (.inr (some 43))), some (.inl s), some (.inl d), some (.inl t), some (.inl (c + 1)), none, none]) (st' := []) (m' := m1) (fun fx hfx o hk => ?_) ?_
      · refine r_go (pc' := 80) hM_126 d_126_27 (by decide) ?_
        refine r_sto (pc' := 83) (ls' := [some (.inr (.inr (some 43))), some (.inl s), some (.inl d), some (.inl t), some (.inl (c + 1)), none, none]) hM_126 d_126_80 rfl rfl ?_
        refine r_go (pc' := 3) hM_126 d_126_83 (by decide) ?_
        exact hk
      exact H
theorem u_126_0 {Q : List am_V → am_M → Prop} {m : am_M} {s : Int} {d : Int} {t : Int}  (H : ok 12 126 3 [some (.inr (.inr (some 43))), some (.inl s), some (.inl d), some (.inl t), some (.inl 0), none, none] [] m Q) : ok 12 126 0 [some (.inr (.inr (some 43))), some (.inl s), some (.inl d), some (.inl t), none, none, none] [] m Q := by
  refine ok_sg (pc' := 3) (ls' := [some (.inr (.inr (some 43))), some (.inl s), some (.inl d), some (.inl t), some (.inl 0), none, none]) (st' := []) (m' := m) (fun fx hfx o hk => ?_) ?_
  · refine r_k (pc' := 1) (v := .inl 0) hM_126 d_126_0 rfl rfl ?_
    refine r_sto (pc' := 3) (ls' := [some (.inr (.inr (some 43))), some (.inl s), some (.inl d), some (.inl t), some (.inl 0), none, none]) hM_126 d_126_1 rfl rfl ?_
    exact hk
  exact H
theorem u_127_4 {Q : List am_V → am_M → Prop} {m : am_M} {c : Int} {x : Int} {i : Int}  (H : ((am_s (m 43 3) ≤ am_s i) → Q [.inl x] m) ∧ ((¬ (am_s (m 43 3) ≤ am_s i)) → ((am_s (am_and (am_shr c i) 1) = 0) → ok 0 127 4 [some (.inr (.inr (some 43))), some (.inl c), some (.inl x), some (.inl (i + 1))] [] m Q) ∧ ((¬ (am_s (am_and (am_shr c i) 1) = 0)) → (0 ≤ am_s i ∧ am_s i < (5 : Nat)) ∧ (ok 0 127 4 [some (.inr (.inr (some 43))), some (.inl c), some (.inl (am_or x (am_shl 1 (m 44 ((am_s i).toNat))))), some (.inl (i + 1))] [] m Q)))) : ok 0 127 4 [some (.inr (.inr (some 43))), some (.inl c), some (.inl x), some (.inl i)] [] m Q := by
  refine ok_sg (pc' := 9) (ls' := [some (.inr (.inr (some 43))), some (.inl c), some (.inl x), some (.inl i)]) (st' := [.inl (m 43 3), .inl i]) (m' := m) (fun fx hfx o hk => ?_) ?_
  · refine r_ld (pc' := 5) hM_127 d_127_4 rfl rfl ?_
    refine r_ld (pc' := 6) hM_127 d_127_5 rfl rfl ?_
    refine r_gI (pc' := 9) (k0 := 3) hM_127 d_127_6 rfl (by decide +kernel) ?_
    exact hk
  refine ok_ic (pc' := 37) (pc2 := 12) hM_127 d_127_9 (by decide) rfl (fun hz1 => ?_) (fun hz1 => ?_)
  · have H := H.1 hz1
    refine ok_sg (pc' := 38) (ls' := [some (.inr (.inr (some 43))), some (.inl c), some (.inl x), some (.inl i)]) (st' := [.inl x]) (m' := m) (fun fx hfx o hk => ?_) ?_
    · refine r_ld (pc' := 38) hM_127 d_127_37 rfl rfl ?_
      exact hk
    exact ok_rt (fun fx _ => rt_i hM_127 d_127_38 rfl) H
  · have H := H.2 hz1
    refine ok_sg (pc' := 17) (ls' := [some (.inr (.inr (some 43))), some (.inl c), some (.inl x), some (.inl i)]) (st' := [.inl (am_and (am_shr c i) 1)]) (m' := m) (fun fx hfx o hk => ?_) ?_
    · refine r_ld (pc' := 13) hM_127 d_127_12 rfl rfl ?_
      refine r_ld (pc' := 14) hM_127 d_127_13 rfl rfl ?_
      refine r_b (pc' := 15) (z := (am_shr c i)) hM_127 d_127_14 rfl rfl ?_
      refine r_k (pc' := 16) (v := .inl 1) hM_127 d_127_15 rfl rfl ?_
      refine r_b (pc' := 17) (z := (am_and (am_shr c i) 1)) hM_127 d_127_16 rfl rfl ?_
      exact hk
    refine ok_if (pc' := 31) (pc2 := 20) hM_127 d_127_17 (by decide) rfl (fun hz2 => ?_) (fun hz2 => ?_)
    · have H := H.1 hz2
      refine ok_sg (pc' := 4) (ls' := [some (.inr (.inr (some 43))), some (.inl c), some (.inl x), some (.inl (i + 1))]) (st' := []) (m' := m) (fun fx hfx o hk => ?_) ?_
      · refine r_sto (pc' := 34) (ls' := [some (.inr (.inr (some 43))), some (.inl c), some (.inl x), some (.inl (i + 1))]) hM_127 d_127_31 rfl rfl ?_
        refine r_go (pc' := 4) hM_127 d_127_34 (by decide) ?_
        exact hk
      exact H
    · have H := H.2 hz2
      obtain ⟨hz3, H⟩ := H
      refine ok_sg (pc' := 4) (ls' := [some (.inr (.inr (some 43))), some (.inl c), some (.inl (am_or x (am_shl 1 (m 44 ((am_s i).toNat))))), some (.inl (i + 1))]) (st' := []) (m' := m) (fun fx hfx o hk => ?_) ?_
      · refine r_ld (pc' := 21) hM_127 d_127_20 rfl rfl ?_
        refine r_k (pc' := 22) (v := .inl 1) hM_127 d_127_21 rfl rfl ?_
        refine r_ld (pc' := 23) hM_127 d_127_22 rfl rfl ?_
        refine r_gR (pc' := 26) (v := 44) hM_127 d_127_23 rfl (by decide +kernel) ?_
        refine r_ld (pc' := 27) hM_127 d_127_26 rfl rfl ?_
        refine r_ia (pc' := 28) (n := 5) hM_127 d_127_27 rfl rfl hz3 ?_
        refine r_b (pc' := 29) (z := (am_shl 1 (m 44 ((am_s i).toNat)))) hM_127 d_127_28 rfl rfl ?_
        refine r_b (pc' := 30) (z := (am_or x (am_shl 1 (m 44 ((am_s i).toNat))))) hM_127 d_127_29 rfl rfl ?_
        refine r_sto (pc' := 31) (ls' := [some (.inr (.inr (some 43))), some (.inl c), some (.inl (am_or x (am_shl 1 (m 44 ((am_s i).toNat))))), some (.inl i)]) hM_127 d_127_30 rfl rfl ?_
        refine r_sto (pc' := 34) (ls' := [some (.inr (.inr (some 43))), some (.inl c), some (.inl (am_or x (am_shl 1 (m 44 ((am_s i).toNat))))), some (.inl (i + 1))]) hM_127 d_127_31 rfl rfl ?_
        refine r_go (pc' := 4) hM_127 d_127_34 (by decide) ?_
        exact hk
      exact H
theorem u_127_0 {Q : List am_V → am_M → Prop} {m : am_M} {c : Int}  (H : ok 0 127 4 [some (.inr (.inr (some 43))), some (.inl c), some (.inl 0), some (.inl 0)] [] m Q) : ok 0 127 0 [some (.inr (.inr (some 43))), some (.inl c), none, none] [] m Q := by
  refine ok_sg (pc' := 4) (ls' := [some (.inr (.inr (some 43))), some (.inl c), some (.inl 0), some (.inl 0)]) (st' := []) (m' := m) (fun fx hfx o hk => ?_) ?_
  · refine r_k (pc' := 1) (v := .inl 0) hM_127 d_127_0 rfl rfl ?_
    refine r_sto (pc' := 2) (ls' := [some (.inr (.inr (some 43))), some (.inl c), some (.inl 0), none]) hM_127 d_127_1 rfl rfl ?_
    refine r_k (pc' := 3) (v := .inl 0) hM_127 d_127_2 rfl rfl ?_
    refine r_sto (pc' := 4) (ls' := [some (.inr (.inr (some 43))), some (.inl c), some (.inl 0), some (.inl 0)]) hM_127 d_127_3 rfl rfl ?_
    exact hk
  exact H
