/-! KEPT: how sound barrels are turned -/
theorem cnt_pt {a b : Nat} : ∀ n, (∀ i, i < n → a.testBit i = true → b.testBit i = true) → cnt a n ≤ cnt b n ∧ (∀ j, j < n → b.testBit j = true → a.testBit j = false → cnt a n < cnt b n) := by
  intro n
  induction n with
  | zero => intro _; exact ⟨Nat.le_refl _, fun j h => absurd h (Nat.not_lt_zero _)⟩
  | succ n ih =>
    intro h
    obtain ⟨h1, h2⟩ := ih fun i hi => h i (by omega)
    have h3 := h n (by omega)
    rw [cnt_s, cnt_s]
    cases ha : a.testBit n <;> cases hb : b.testBit n
    · refine ⟨by simpa using h1, fun j hj j1 j2 => ?_⟩
      have hj' : j < n := by
        by_cases hh : j = n
        · rw [hh, hb] at j1; exact absurd j1 (by decide)
        · omega
      simpa using h2 j hj' j1 j2
    · refine ⟨?_, fun j hj j1 j2 => ?_⟩
      · simp only [if_true, if_neg (show ¬ false = true by decide)]; omega
      · simp only [if_true, if_neg (show ¬ false = true by decide)]; omega
    · rw [ha, hb] at h3
      exact absurd (h3 rfl) (by decide)
    · refine ⟨by simpa using h1, fun j hj j1 j2 => ?_⟩
      have hj' : j < n := by
        by_cases hh : j = n
        · rw [hh, ha] at j2; exact absurd j2 (by decide)
        · omega
      have := h2 j hj' j1 j2
      simp only [if_true]
      omega
theorem cnt_n {s n : Nat} (hn : n ≤ 12) (hs : s < 2 ^ n) : cnt s 12 ≤ n := by
  have h := (cnt_pt (a := s) (b := 2 ^ n - 1) 12 fun i hi hb => ?_).1
  · rw [cnt_full hn] at h; exact h
  · rw [Nat.testBit_two_pow_sub_one]
    by_cases hi : i < n
    · exact decide_eq_true hi
    · rw [Nat.testBit_lt_two_pow (Nat.lt_of_lt_of_le hs (Nat.pow_le_pow_right (by decide) (by omega)))] at hb
      exact absurd hb (by decide)
/-- the waits behind a day -/
def ktp (F : Nat → Nat) (s : Nat) (w : Nat → Nat) : Nat → Nat := fun i => if s.testBit i = true then F i else w i - 1
def kgo (n : Nat) (w : Nat → Nat) (s : Nat) : Prop := ∀ i, i < n → s.testBit i = false → 1 ≤ w i
/-- a way of so many days with so many turns -/
def KW (n : Nat) (F : Nat → Nat) (H : Nat) : Nat → (Nat → Nat) → Nat → Prop
  | 0, _, t => t = 0
  | d + 1, w, t => ∃ s, s < 2 ^ n ∧ cnt s 12 ≤ H ∧ kgo n w s ∧ ∃ t', t = cnt s 12 + t' ∧ KW n F H d (ktp F s w) t'
theorem KW_s {n : Nat} {F : Nat → Nat} {H d : Nat} {w : Nat → Nat} {t : Nat} : KW n F H (d + 1) w t ↔ ∃ s, s < 2 ^ n ∧ cnt s 12 ≤ H ∧ kgo n w s ∧ ∃ t', t = cnt s 12 + t' ∧ KW n F H d (ktp F s w) t' := Iff.rfl
theorem KW_dom {n : Nat} {F : Nat → Nat} {H : Nat} : ∀ (d : Nat) (w w' : Nat → Nat) (t : Nat), (∀ k, k < n → min d (w k) ≤ w' k) → KW n F H d w t → KW n F H d w' t := by
  intro d
  induction d with
  | zero => intro w w' t _ h; exact h
  | succ d ih =>
    rintro w w' t hd ⟨s, h1, h2, h3, t', h4, h5⟩
    refine ⟨s, h1, h2, fun i hi hb => ?_, t', h4, ih _ _ _ (fun k hk => ?_) h5⟩
    · have := hd i hi
      have := h3 i hi hb
      omega
    · have := hd k hk
      unfold ktp
      split
      · exact Nat.min_le_right _ _
      · omega
theorem KW_cap {n : Nat} {F : Nat → Nat} {H d : Nat} {w w' : Nat → Nat} (h : ∀ k, k < n → min d (w k) = min d (w' k)) (t : Nat) : KW n F H d w t ↔ KW n F H d w' t :=
  ⟨KW_dom d w w' t fun k hk => by have := h k hk; omega, KW_dom d w' w t fun k hk => by have := h k hk; omega⟩
theorem KW_le {n : Nat} {F : Nat → Nat} {H : Nat} (hn : n ≤ 12) : ∀ (d : Nat) (w : Nat → Nat) (t : Nat), KW n F H d w t → t ≤ n * d := by
  intro d
  induction d with
  | zero => intro w t h; have h : t = 0 := h; omega
  | succ d ih =>
    rintro w t ⟨s, h1, h2, h3, t', h4, h5⟩
    have := ih _ _ h5
    have := cnt_n hn h1
    rw [Nat.mul_succ]
    omega
/-- only those are turned that need it at all -/
def kneed (n d : Nat) (w : Nat → Nat) (s : Nat) : Prop := ∀ i, i < n → s.testBit i = true → w i < d
theorem KW_drop {n : Nat} {F : Nat → Nat} {H d : Nat} {w : Nat → Nat} {s t : Nat} (hn : n ≤ 12) (hs : s < 2 ^ n) (hg : kgo n w s) (hw : KW n F H d (ktp F s w) t) : ∃ s', s' < 2 ^ n ∧ cnt s' 12 ≤ cnt s 12 ∧ kgo n w s' ∧ kneed n (d + 1) w s' ∧ KW n F H d (ktp F s' w) t ∧ (¬ kneed n (d + 1) w s → cnt s' 12 < cnt s 12) := by
  refine ⟨msk (fun i => if s.testBit i = true ∧ w i < d + 1 then 1 else 0) 1 n, msk_lt _ _ _, ?_⟩
  have hb : ∀ i, (msk (fun i => if s.testBit i = true ∧ w i < d + 1 then 1 else 0) 1 n).testBit i = true ↔ i < n ∧ s.testBit i = true ∧ w i < d + 1 := by
    intro i
    rw [msk_bit, Bool.and_eq_true, decide_eq_true_eq, decide_eq_true_eq]
    by_cases hc : s.testBit i = true ∧ w i < d + 1
    · rw [if_pos hc]; exact ⟨fun q => ⟨q.1, hc⟩, fun q => ⟨q.1, rfl⟩⟩
    · rw [if_neg hc]; exact ⟨fun q => absurd q.2 (by decide), fun q => absurd q.2 hc⟩
  have hbf : ∀ i, (msk (fun i => if s.testBit i = true ∧ w i < d + 1 then 1 else 0) 1 n).testBit i = false ↔ ¬ (i < n ∧ s.testBit i = true ∧ w i < d + 1) := by
    intro i
    rw [← hb i]
    cases (msk (fun i => if s.testBit i = true ∧ w i < d + 1 then 1 else 0) 1 n).testBit i <;> decide
  generalize msk (fun i => if s.testBit i = true ∧ w i < d + 1 then 1 else 0) 1 n = s' at hb hbf ⊢
  have hc := cnt_pt (a := s') (b := s) 12 fun i _ q => ((hb i).mp q).2.1
  refine ⟨hc.1, fun i hi q => ?_, fun i hi q => ((hb i).mp q).2.2, KW_dom d _ _ _ (fun k hk => ?_) hw, fun q => ?_⟩
  · have q := (hbf i).mp q
    cases hsb : s.testBit i
    · exact hg i hi hsb
    · have : ¬ w i < d + 1 := fun z => q ⟨hi, hsb, z⟩
      omega
  · unfold ktp
    by_cases h1 : s'.testBit k = true
    · rw [if_pos h1, if_pos ((hb k).mp h1).2.1]; exact Nat.min_le_right _ _
    · rw [if_neg h1]
      by_cases h2 : s.testBit k = true
      · rw [if_pos h2]
        have : ¬ w k < d + 1 := fun z => h1 ((hb k).mpr ⟨hk, h2, z⟩)
        omega
      · rw [if_neg h2]; exact Nat.min_le_right _ _
  · by_cases hex : ∃ i, i < n ∧ s.testBit i = true ∧ ¬ w i < d + 1
    · obtain ⟨i, q1, q2, q3⟩ := hex
      exact hc.2 i (by omega) q2 ((hbf i).mpr fun z => q3 z.2.2)
    · exfalso
      apply q
      intro i q1 q2
      by_cases h : w i < d + 1
      · exact h
      · exact absurd ⟨i, q1, q2, h⟩ hex
/-- the fewest turns, or -1 -/
noncomputable def kmv (n : Nat) (F : Nat → Nat) (H d : Nat) (w : Nat → Nat) : Int := plv (KW n F H d w) 61
/-- the same with a number for 'never' -/
noncomputable def kmc (c : Nat) (n : Nat) (F : Nat → Nat) (H d : Nat) (w : Nat → Nat) : Int := if kmv n F H d w = -1 then (c : Int) else kmv n F H d w
def KMS (c : Nat) (n : Nat) (F : Nat → Nat) (H d : Nat) (w : Nat → Nat) (v : Int) : Prop := (∀ t : Nat, KW n F H d w t → v ≤ (t : Int)) ∧ ((∃ t : Nat, v = (t : Int) ∧ KW n F H d w t) ∨ v = (c : Int))
theorem kmc_ok {c : Nat} {n : Nat} {F : Nat → Nat} {H d : Nat} {w : Nat → Nat} (hn : n ≤ 5) (hd : d ≤ 8) (hc : 61 ≤ c) : KMS c n F H d w (kmc c n F H d w) := by
  have hle : ∀ t, KW n F H d w t → t ≤ 40 := fun t ht => by
    have h1 := KW_le (by omega) d w t ht
    have h2 : n * d ≤ 5 * 8 := Nat.mul_le_mul hn hd
    omega
  unfold kmc kmv
  rcases plv_ok (KW n F H d w) 61 with ⟨p, a1, a2, a3, a4⟩ | ⟨a1, a2⟩
  · rw [a4, if_neg (by omega)]
    refine ⟨fun t ht => ?_, Or.inl ⟨p, rfl, a2⟩⟩
    by_cases h : t < p
    · exact absurd ht (a3 t h)
    · omega
  · rw [a2, if_pos rfl]
    exact ⟨fun t ht => absurd ht (a1 t (by have := hle t ht; omega)), Or.inr rfl⟩
theorem kmc_eq {c : Nat} {n : Nat} {F : Nat → Nat} {H d : Nat} {w : Nat → Nat} {v : Int} (hn : n ≤ 5) (hd : d ≤ 8) (hc : 61 ≤ c) (h : KMS c n F H d w v) : v = kmc c n F H d w := by
  have hle : ∀ t, KW n F H d w t → t ≤ 40 := fun t ht => by
    have h1 := KW_le (by omega) d w t ht
    have h2 : n * d ≤ 5 * 8 := Nat.mul_le_mul hn hd
    omega
  obtain ⟨a1, a2⟩ := kmc_ok (c := c) (F := F) (H := H) (w := w) hn hd hc
  obtain ⟨b1, b2⟩ := h
  rcases a2 with ⟨t, t1, t2⟩ | a2 <;> rcases b2 with ⟨t', t1', t2'⟩ | b2
  · have := a1 t' t2'
    have := b1 t t2
    omega
  · have := b1 t t2
    have := hle t t2
    omega
  · have := a1 t' t2'
    have := hle t' t2'
    omega
  · omega
theorem kmc_rng {c : Nat} {n : Nat} {F : Nat → Nat} {H d : Nat} {w : Nat → Nat} (hn : n ≤ 5) (hd : d ≤ 8) (hc : 61 ≤ c) : 0 ≤ kmc c n F H d w ∧ (kmc c n F H d w ≤ 40 ∨ kmc c n F H d w = (c : Int)) := by
  rcases (kmc_ok (c := c) (F := F) (H := H) (w := w) hn hd hc).2 with ⟨t, t1, t2⟩ | a2
  · have h1 := KW_le (by omega) d w t t2
    have h2 : n * d ≤ 5 * 8 := Nat.mul_le_mul hn hd
    omega
  · omega
theorem kmc_cap {c : Nat} {n : Nat} {F : Nat → Nat} {H d : Nat} {w w' : Nat → Nat} (hn : n ≤ 5) (hd : d ≤ 8) (hc : 61 ≤ c) (h : ∀ k, k < n → min d (w k) = min d (w' k)) : kmc c n F H d w = kmc c n F H d w' := by
  obtain ⟨a1, a2⟩ := kmc_ok (c := c) (F := F) (H := H) (w := w) hn hd hc
  refine kmc_eq hn hd hc ⟨fun t ht => a1 t ((KW_cap h t).mpr ht), ?_⟩
  rcases a2 with ⟨t, t1, t2⟩ | a2
  · exact Or.inl ⟨t, t1, (KW_cap h t).mp t2⟩
  · exact Or.inr a2
theorem kmc_0 {c : Nat} {n : Nat} {F : Nat → Nat} {H : Nat} {w : Nat → Nat} (hn : n ≤ 5) (hc : 61 ≤ c) : kmc c n F H 0 w = 0 :=
  (kmc_eq hn (show (0 : Nat) ≤ 8 by decide) hc ⟨fun t _ => by omega, Or.inl ⟨0, rfl, (rfl : (0 : Nat) = 0)⟩⟩).symm
/-- from one day to the next: the least over all sets that may be turned, or those of them that need it -/
def KLS (c n H d : Nat) (w : Nat → Nat) (P : Nat → Prop) (f : Nat → Int) (v : Int) : Prop := (∀ s, P s → cnt s 12 ≤ H → kgo n w s → v ≤ ((cnt s 12 : Nat) : Int) + f s) ∧ v ≤ (c : Int) ∧ (v = (c : Int) ∨ ∃ s, P s ∧ cnt s 12 ≤ H ∧ kgo n w s ∧ v = ((cnt s 12 : Nat) : Int) + f s)
theorem kmc_s {c n H d : Nat} {F w : Nat → Nat} {P : Nat → Prop} {v : Int} (hn : n ≤ 5) (hd : d + 1 ≤ 8) (hc : 61 ≤ c) (hP : ∀ s, P s → s < 2 ^ n) (hP2 : ∀ s, s < 2 ^ n → kneed n (d + 1) w s → P s) (h : KLS c n H d w P (fun s => kmc c n F H d (ktp F s w)) v) : v = kmc c n F H (d + 1) w := by
  obtain ⟨h1, h2, h3⟩ := h
  refine kmc_eq hn hd hc ⟨?_, ?_⟩
  · rintro t ⟨s, s1, s2, s3, t', s4, s5⟩
    obtain ⟨s', q1, q2, q3, q4, q5, -⟩ := KW_drop (by omega) s1 s3 s5
    have a1 : v ≤ ((cnt s' 12 : Nat) : Int) + kmc c n F H d (ktp F s' w) := h1 s' (hP2 s' q1 q4) (by omega) q3
    have a2 := (kmc_ok (c := c) (F := F) (H := H) (w := ktp F s' w) hn (by omega) hc).1 t' q5
    omega
  · rcases h3 with h3 | ⟨s, q1, q2, q3, q4⟩
    · exact Or.inr h3
    · have q4 : v = ((cnt s 12 : Nat) : Int) + kmc c n F H d (ktp F s w) := q4
      rcases (kmc_ok (c := c) (F := F) (H := H) (w := ktp F s w) hn (show d ≤ 8 by omega) hc).2 with ⟨t, t1, t2⟩ | a2
      · exact Or.inl ⟨cnt s 12 + t, by omega, s, hP s q1, q2, q3, t, rfl, t2⟩
      · exact Or.inr (by omega)
/-- who is turned by a best way needs it -/
theorem kmc_need {c n H d : Nat} {F w : Nat → Nat} {s : Nat} (hn : n ≤ 5) (hd : d + 1 ≤ 8) (hc : 61 ≤ c) (hs : s < 2 ^ n) (hH : cnt s 12 ≤ H) (hg : kgo n w s) (hk : kmc c n F H (d + 1) w < (c : Int)) (h : ((cnt s 12 : Nat) : Int) + kmc c n F H d (ktp F s w) = kmc c n F H (d + 1) w) : kneed n (d + 1) w s := by
  by_cases hh : kneed n (d + 1) w s
  · exact hh
  · exfalso
    rcases (kmc_ok (c := c) (F := F) (H := H) (w := ktp F s w) hn (show d ≤ 8 by omega) hc).2 with ⟨t, t1, t2⟩ | a2
    · obtain ⟨s', q1, q2, q3, q4, q5, q6⟩ := KW_drop (by omega) hs hg t2
      have := q6 hh
      have := (kmc_ok (c := c) (F := F) (H := H) (w := w) hn hd hc).1 (cnt s' 12 + t) ⟨s', q1, by omega, q3, t, rfl, q5⟩
      omega
    · omega
theorem kmc_ex {c n H d : Nat} {F w : Nat → Nat} (hn : n ≤ 5) (hd : d + 1 ≤ 8) (hc : 61 ≤ c) (hk : kmc c n F H (d + 1) w < (c : Int)) : ∃ s, s < 2 ^ n ∧ cnt s 12 ≤ H ∧ kgo n w s ∧ ((cnt s 12 : Nat) : Int) + kmc c n F H d (ktp F s w) = kmc c n F H (d + 1) w := by
  obtain ⟨a1, a2⟩ := kmc_ok (c := c) (F := F) (H := H) (w := w) hn hd hc
  rcases a2 with ⟨t, t1, s, s1, s2, s3, t', s4, s5⟩ | a2
  · refine ⟨s, s1, s2, s3, ?_⟩
    obtain ⟨b1, b2⟩ := kmc_ok (c := c) (F := F) (H := H) (w := ktp F s w) hn (show d ≤ 8 by omega) hc
    have h1 := b1 t' s5
    rcases b2 with ⟨t2, u1, u2⟩ | b2
    · have := a1 (cnt s 12 + t2) ⟨s, s1, s2, s3, t2, rfl, u2⟩
      omega
    · have := KW_le (show n ≤ 12 by omega) d _ t' s5
      have : n * d ≤ 5 * 8 := Nat.mul_le_mul hn (by omega)
      omega
  · omega
/-- what is needed at least -/
def klp (d w F : Nat) : Nat := if w < d then 1 + (d - w - 1) / (F + 1) else 0
def kls (d : Nat) (w F : Nat → Nat) : Nat → Nat
  | 0 => 0
  | i + 1 => kls d w F i + klp d (w i) (F i)
theorem klp_F {d F : Nat} : klp d F F = d / (F + 1) := by
  unfold klp
  by_cases h : F < d
  · rw [if_pos h, Nat.div_eq_sub_div (Nat.succ_pos _) (show F + 1 ≤ d by omega), Nat.add_comm, show d - F - 1 = d - (F + 1) by omega]
  · rw [if_neg h, Nat.div_eq_of_lt (by omega)]
theorem kls_s {d : Nat} {w F : Nat → Nat} {s : Nat} : ∀ n, kgo n w s → kls (d + 1) w F n ≤ cnt s n + kls d (ktp F s w) F n := by
  intro n
  induction n with
  | zero => intro _; exact Nat.le_refl _
  | succ n ih =>
    intro hg
    have h1 := ih fun i hi => hg i (by omega)
    have h2 : klp (d + 1) (w n) (F n) ≤ (if s.testBit n = true then 1 else 0) + klp d (ktp F s w n) (F n) := by
      unfold ktp
      by_cases hb : s.testBit n = true
      · rw [if_pos hb, if_pos hb, klp_F]
        unfold klp
        have hq : (d + 1 - w n - 1) / (F n + 1) ≤ d / (F n + 1) := Nat.div_le_div_right (by omega)
        generalize (d + 1 - w n - 1) / (F n + 1) = x1 at hq ⊢
        generalize d / (F n + 1) = x2 at hq ⊢
        split <;> omega
      · have hb' : s.testBit n = false := by
          cases hh : s.testBit n
          · rfl
          · exact absurd hh hb
        have := hg n (by omega) hb'
        rw [if_neg hb, if_neg hb]
        unfold klp
        by_cases hw : w n < d + 1
        · rw [if_pos hw, if_pos (show w n - 1 < d by omega), show d + 1 - w n - 1 = d - (w n - 1) - 1 by omega]
          omega
        · rw [if_neg hw]
          exact Nat.zero_le _
    show kls (d + 1) w F n + klp (d + 1) (w n) (F n) ≤ cnt s (n + 1) + (kls d (ktp F s w) F n + klp d (ktp F s w n) (F n))
    rw [cnt_s]
    omega
theorem cnt_up {s : Nat} : ∀ k n, cnt s n ≤ cnt s (n + k) := by
  intro k
  induction k with
  | zero => intro n; exact Nat.le_refl _
  | succ k ih =>
    intro n
    have := ih n
    rw [← Nat.add_assoc, cnt_s]
    omega
theorem kls_le {n : Nat} {F : Nat → Nat} {H : Nat} (hn : n ≤ 12) : ∀ (d : Nat) (w : Nat → Nat) (t : Nat), KW n F H d w t → kls d w F n ≤ t := by
  intro d
  induction d with
  | zero =>
    intro w t _
    have : ∀ k, kls 0 w F k = 0 := by
      intro k
      induction k with
      | zero => rfl
      | succ k ih => show kls 0 w F k + klp 0 (w k) (F k) = 0; rw [ih]; unfold klp; rw [if_neg (Nat.not_lt_zero _)]
    rw [this]
    exact Nat.zero_le _
  | succ d ih =>
    rintro w t ⟨s, h1, h2, h3, t', h4, h5⟩
    have a1 := ih _ _ h5
    have a2 := kls_s (d := d) (F := F) n h3
    have a3 := cnt_up (s := s) (12 - n) n
    rw [show n + (12 - n) = 12 by omega] at a3
    omega
theorem kls_kmc {c n H d : Nat} {F w : Nat → Nat} (hn : n ≤ 5) (hd : d ≤ 8) (hc : 61 ≤ c) : ((kls d w F n : Nat) : Int) ≤ kmc c n F H d w ∨ kmc c n F H d w = (c : Int) := by
  rcases (kmc_ok (c := c) (F := F) (H := H) (w := w) hn hd hc).2 with ⟨t, t1, t2⟩ | a2
  · have := kls_le (by omega) d w t t2
    omega
  · exact Or.inr a2
/-- how long it can be kept, so many turned each day -/
def KA (n : Nat) (F : Nat → Nat) (h : Nat) : Nat → (Nat → Nat) → Prop
  | 0, _ => True
  | k + 1, w => ∃ s, s < 2 ^ n ∧ cnt s 12 = h ∧ kgo n w s ∧ KA n F h k (ktp F s w)
theorem KA_s {n : Nat} {F : Nat → Nat} {h k : Nat} {w : Nat → Nat} : KA n F h (k + 1) w ↔ ∃ s, s < 2 ^ n ∧ cnt s 12 = h ∧ kgo n w s ∧ KA n F h k (ktp F s w) := Iff.rfl
theorem KA_dn {n : Nat} {F : Nat → Nat} {h : Nat} : ∀ k w, KA n F h (k + 1) w → KA n F h k w := by
  intro k
  induction k with
  | zero => intro w _; trivial
  | succ k ih =>
    rintro w ⟨s, h1, h2, h3, h4⟩
    exact ⟨s, h1, h2, h3, ih _ h4⟩
theorem KA_le {n : Nat} {F : Nat → Nat} {h : Nat} {w : Nat → Nat} {k : Nat} : ∀ j, KA n F h (k + j) w → KA n F h k w := by
  intro j
  induction j with
  | zero => exact id
  | succ j ih => intro q; exact ih (KA_dn _ _ q)
theorem KA_mono {n : Nat} {F : Nat → Nat} {h : Nat} {w : Nat → Nat} {k k' : Nat} (hk : k ≤ k') (q : KA n F h k' w) : KA n F h k w := by
  obtain ⟨j, rfl⟩ : ∃ j, k' = k + j := ⟨k' - k, by omega⟩
  exact KA_le j q
theorem KA_congr {n : Nat} {F : Nat → Nat} {h : Nat} : ∀ k (w w' : Nat → Nat), (∀ i, i < n → w i = w' i) → KA n F h k w → KA n F h k w' := by
  intro k
  induction k with
  | zero => intro w w' _ _; trivial
  | succ k ih =>
    rintro w w' hw ⟨s, h1, h2, h3, h4⟩
    refine ⟨s, h1, h2, fun i hi hb => by rw [← hw i hi]; exact h3 i hi hb, ih _ _ (fun i hi => ?_) h4⟩
    unfold ktp
    rw [hw i hi]
/-- once the states that last a day longer are the same, they last for ever -/
theorem KA_fix {n : Nat} {F : Nat → Nat} {h k : Nat} {V : (Nat → Nat) → Prop} (hV : ∀ w s, V w → V (ktp F s w)) (hs : ∀ w, V w → KA n F h k w → KA n F h (k + 1) w) : ∀ j w, V w → KA n F h k w → KA n F h (k + j) w := by
  intro j
  induction j with
  | zero => intro w _ q; exact q
  | succ j ih =>
    intro w hw q
    obtain ⟨s, h1, h2, h3, h4⟩ := hs w hw q
    exact ⟨s, h1, h2, h3, ih _ (hV w s hw) h4⟩
theorem KA_all {n : Nat} {F : Nat → Nat} (hn : n ≤ 12) : ∀ k w, KA n F n k w := by
  intro k
  induction k with
  | zero => intro w; trivial
  | succ k ih =>
    intro w
    have hp := Nat.two_pow_pos n
    refine ⟨2 ^ n - 1, by omega, cnt_full hn, fun i hi hb => ?_, ih _⟩
    rw [Nat.testBit_two_pow_sub_one, decide_eq_true hi] at hb
    exact absurd hb (by decide)
/-- packed: three bits for each -/
def kpk (w : Nat → Nat) : Nat → Nat
  | 0 => 0
  | i + 1 => kpk w i + w i * 8 ^ i
def kfl (s i : Nat) : Nat := s / 8 ^ i % 8
theorem kpk_s {w : Nat → Nat} {i : Nat} : kpk w (i + 1) = kpk w i + w i * 8 ^ i := rfl
theorem kpk_lt {w : Nat → Nat} (hw : ∀ i, w i < 8) : ∀ n, kpk w n < 8 ^ n := by
  intro n
  induction n with
  | zero => exact Nat.zero_lt_one
  | succ n ih =>
    rw [kpk_s, Nat.pow_succ]
    have : w n * 8 ^ n ≤ 7 * 8 ^ n := Nat.mul_le_mul_right _ (by have := hw n; omega)
    omega
theorem kfl_pk {w : Nat → Nat} (hw : ∀ i, w i < 8) : ∀ n i, i < n → kfl (kpk w n) i = w i := by
  intro n
  induction n with
  | zero => intro i h; exact absurd h (Nat.not_lt_zero _)
  | succ n ih =>
    intro i hi
    have hl := kpk_lt hw n
    have hp : 0 < 8 ^ i := Nat.pow_pos (by decide)
    unfold kfl
    rw [kpk_s]
    by_cases h : i = n
    · rw [h, Nat.add_mul_div_right _ _ (Nat.pow_pos (by decide)), Nat.div_eq_of_lt hl, Nat.zero_add]
      exact Nat.mod_eq_of_lt (hw n)
    · obtain ⟨k, hk⟩ : ∃ k, n = i + 1 + k := ⟨n - i - 1, by omega⟩
      have e : w n * 8 ^ n = w n * 8 ^ k * 8 * 8 ^ i := by
        rw [hk, Nat.pow_add, Nat.pow_succ]
        generalize 8 ^ i = x1
        generalize 8 ^ k = x2
        simp only [Nat.mul_assoc, Nat.mul_comm, Nat.mul_left_comm]
      rw [e, Nat.add_mul_div_right _ _ hp, Nat.add_mul_mod_self_right]
      exact ih i (by omega)
theorem kpk_fl : ∀ n s, kpk (kfl s) n = s % 8 ^ n := by
  intro n
  induction n with
  | zero => intro s; rw [Nat.pow_zero, Nat.mod_one]; rfl
  | succ n ih =>
    intro s
    rw [kpk_s, ih, Nat.pow_succ, Nat.mod_mul, Nat.mul_comm (8 ^ n)]
    rfl
theorem kpk_congr {w w' : Nat → Nat} : ∀ n, (∀ i, i < n → w i = w' i) → kpk w n = kpk w' n := by
  intro n
  induction n with
  | zero => intro _; rfl
  | succ n ih => intro h; rw [kpk_s, kpk_s, ih fun i hi => h i (by omega), h n (by omega)]
theorem kfl_lt {s i : Nat} : kfl s i < 8 := Nat.mod_lt _ (by decide)
