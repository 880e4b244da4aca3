theorem kmc_cv {n : Nat} {F : Nat → Nat} {H d : Nat} {w : Nat → Nat} : (kmc 63 n F H d w = 63 ∧ kmc 99 n F H d w = 99 ∧ kmv n F H d w = -1) ∨ (kmc 63 n F H d w = kmv n F H d w ∧ kmc 99 n F H d w = kmv n F H d w ∧ 0 ≤ kmv n F H d w ∧ kmv n F H d w < 61) := by
  have h : -1 ≤ kmv n F H d w ∧ kmv n F H d w < 61 := by
    unfold kmv
    rcases plv_rng (C := KW n F H d w) (N := 61) with h | h
    · omega
    · omega
  unfold kmc
  by_cases hc : kmv n F H d w = -1
  · rw [if_pos hc, if_pos hc]
    exact Or.inl ⟨rfl, rfl, hc⟩
  · rw [if_neg hc, if_neg hc]
    exact Or.inr ⟨rfl, rfl, by omega, h.2⟩
theorem KOP9 {n : Nat} {F : Nat → Nat} {H D : Nat} {w : Nat → Nat} {s : Nat} (hk : kmc 99 n F H (D + 1) w < 99) : KOP n F H D w s ↔ cnt s 12 ≤ H ∧ kgo n w s ∧ ((cnt s 12 : Nat) : Int) + kmc 99 n F H D (ktp F s w) = kmc 99 n F H (D + 1) w := by
  have h1 := kmc_cv (n := n) (F := F) (H := H) (d := D + 1) (w := w)
  have h2 := kmc_cv (n := n) (F := F) (H := H) (d := D) (w := ktp F s w)
  unfold KOP
  constructor
  · rintro ⟨a1, a2, a3⟩
    exact ⟨a1, a2, by omega⟩
  · rintro ⟨a1, a2, a3⟩
    exact ⟨a1, a2, by omega⟩
theorem z_237   (m : am_M) (d : Int) (t : Int) (hq : MFW (nv (m 54)) m ∧ (1 ≤ d ∧ d ≤ 8) ∧ (∀ j, j < SN (nv (m 54)) → 0 ≤ m 65 j ∧ m 65 j ≤ 99) ∧ KTF (nv (m 54)) m (d.toNat - 1) ∧ t = kmc 99 (SN (nv (m 54))) (kf0 (nv (m 54))) (nv (m 54) 4).toNat d.toNat (kwa (nv (m 54)) (m 65)) ∧ t < 99) : ok 2 237 0 (am_ent 4 [.inr (.inr (some 53)), .inl d, .inl t]) [] m (fun rr m' => rr = [.inl (((klc (SN (nv (m 54))) (kf0 (nv (m 54))) (nv (m 54) 4).toNat (d.toNat - 1) (kwa (nv (m 54)) (m 65)) : Nat) : Int))] ∧ m' = m) := by
  show ok 2 237 0 [some (.inr (.inr (some 53))), some (.inl d), some (.inl t), none] [] m _
  obtain ⟨hM0, hd, ha, hT, ht, ht9⟩ := hq
  obtain ⟨D, rfl⟩ : ∃ D : Nat, d = ((D + 1 : Nat) : Int) := ⟨d.toNat - 1, by omega⟩
  rw [Int.toNat_natCast] at hT ht ⊢
  rw [show D + 1 - 1 = D by omega] at hT ⊢
  generalize hgv : nv (m 54) = g at *
  obtain ⟨h5, h27, hsp, hL, h4, hwn⟩ := id hM0
  have w4 := hwn.2.2.2.2.2.2.2.1
  obtain ⟨H, hH⟩ : ∃ H : Nat, g 4 = (H : Int) := ⟨(g 4).toNat, by omega⟩
  have eH : (g 4).toNat = H := by omega
  unfold KTF at hT
  rw [eH] at hT ht ⊢
  have h32 : 2 ^ SN g ≤ 32 := Nat.le_trans (Nat.pow_le_pow_right (by decide) h5) (by decide)
  have h7 : 7 ^ SN g ≤ 16807 := Nat.le_trans (Nat.pow_le_pow_right (by decide) h5) (by decide)
  have hcv := kmc_cv (n := SN g) (F := kf0 g) (H := H) (d := D + 1) (w := kwa g (m 65))
  obtain ⟨z1, z2, z3⟩ := klc_ok (n := SN g) (F := kf0 g) (H := H) (D := D) (w := kwa g (m 65)) h5 (by omega) (by omega)
  have hKO : ∀ s, KOP (SN g) (kf0 g) H D (kwa g (m 65)) s ↔ cnt s 12 ≤ H ∧ kgo (SN g) (kwa g (m 65)) s ∧ ((cnt s 12 : Nat) : Int) + kmc 99 (SN g) (kf0 g) H D (ktp (kf0 g) s (kwa g (m 65))) = t := fun s => by rw [ht]; exact KOP9 (by omega)
  generalize klc (SN g) (kf0 g) H D (kwa g (m 65)) = z at *
  have body : ∀ s : Nat, s ≤ z → (¬ KOP (SN g) (kf0 g) H D (kwa g (m 65)) s → ok 2 237 2 [some (.inr (.inr (some 53))), some (.inl ((D + 1 : Nat) : Int)), some (.inl t), some (.inl ((s : Int) + 1))] [] m (fun rr m' => rr = [.inl (z : Int)] ∧ m' = m)) → (KOP (SN g) (kf0 g) H D (kwa g (m 65)) s → s = z) → ok 2 237 2 [some (.inr (.inr (some 53))), some (.inl ((D + 1 : Nat) : Int)), some (.inl t), some (.inl (s : Int))] [] m (fun rr m' => rr = [.inl (z : Int)] ∧ m' = m) := by
    intro s hs IH hz
    rw [hKO s] at IH hz
    have hcn := cnt_le s 12
    have hr := kmc_rng (c := 99) (F := kf0 g) (H := H) (d := D) (w := ktp (kf0 g) s (kwa g (m 65))) h5 (by omega) (by decide)
    refine u_237_2 ?_
    rw [am_s_id (z := (s : Int)) (by omega) (by omega), h4, hH, am_s_id (z := (H : Int)) (by omega) (by omega), Int.toNat_natCast, am_s_id (z := ((cnt s 12 : Nat) : Int)) (by omega) (by omega), hgv]
    refine ⟨⟨by omega, by omega⟩, fun q => IH fun y => by omega, fun q => ⟨⟨hM0, ⟨by omega, by omega⟩, ha⟩, ?_⟩⟩
    rintro v1 mx ⟨hmx, hv⟩
    rw [hmx]
    rcases hv with ⟨g1, g2⟩ | ⟨g1, g2⟩
    · have hk6 := kan_6 hwn ha g1
      have hk7 := ks7_rng _ hk6
      have htt := hT _ hk6
      rw [kan_mc hwn h5 (by omega) (by decide) ha] at htt
      rw [am_s_id (z := v1) (by omega) (by omega), hgv]
      refine ⟨fun q2 => by omega, fun _ => ⟨⟨hM0, ⟨by omega, by omega⟩, ha⟩, ?_⟩⟩
      rintro v2 mx2 ⟨hmx2, hv2⟩
      rw [hmx2]
      have hv3 : v2 = ks7 (kan g s (m 65)) (SN g) := by
        rcases hv2 with y | y
        · exact y.2
        · exact absurd g1 y.1
      rw [← hv3] at hk7 htt
      rw [show (16807 * (((D + 1 : Nat) : Int) - 1) + v2) = ((16807 * D + v2.toNat : Nat) : Int) by omega, am_s_id (z := ((16807 * D + v2.toNat : Nat) : Int)) (by omega) (by omega), Int.toNat_natCast, htt, am_s_id (by omega) (by omega), am_s_id (z := t) (by omega) (by omega)]
      exact ⟨⟨by omega, by omega⟩, fun q2 => ⟨by rw [hz ⟨by omega, g1, q2⟩], rfl⟩, fun q2 => IH fun y => q2 y.2.2⟩
    · rw [g2]
      exact ⟨fun _ => IH fun y => g1 y.2.1, fun q2 => absurd rfl q2⟩
  refine u_237_0 ?_
  refine ok_for (σ := Unit) (fun s _ => [some (.inr (.inr (some 53))), some (.inl ((D + 1 : Nat) : Int)), some (.inl t), some (.inl (s : Int))]) (fun _ _ M => M = m) z ?_ ?_ () m rfl
  · rintro s hs - M hM IH
    rw [hM]
    exact body s (by omega) (fun _ => IH () m rfl) (fun y => absurd y (z3 s hs))
  · rintro - M hM
    rw [hM]
    exact body z (Nat.le_refl _) (fun y => absurd z2 y) (fun _ => rfl)
