theorem z_116   (m : am_M) (d : Int) (hq : KST m ∧ 1 ≤ d ∧ d ≤ 8) : ok 12 116 0 (am_ent 3 [.inr (.inr (some 43)), .inl d]) [] m (fun rr m' => rr = [.inl ((kmv (kn m) (kF m) (kH m) d.toNat (kfl (m 43 5).toNat)))] ∧ KS (kn m) (kF m) (kH m) (KRF (kn m) (kF m) (kH m)) m' ∧ ∀ a, a ≠ 45 → m' a = m a) := by
  show ok 12 116 0 [some (.inr (.inr (some 43))), some (.inl d), none] [] m _
  obtain ⟨⟨hK, h5⟩, hd⟩ := hq
  obtain ⟨hn1, hn2, hn3⟩ := KOK_n hK
  have e43 : flm m 45 8192 0 43 = m 43 := flm_fr (by decide)
  obtain ⟨g1, g2, g3, g4⟩ := kfr e43
  have hw : ∀ i, min d.toNat (kfl (m 43 5).toNat i) < 8 := fun i => by have := kfl_lt (s := (m 43 5).toNat) (i := i); omega
  have hs0 : kpk (fun i => min d.toNat (kfl (m 43 5).toNat i)) (kn m) < 8 ^ kn m := kpk_lt hw _
  refine u_116_0 ?_
  rw [e43, g1]
  refine ⟨⟨g4 hK, h5, by omega, by omega⟩, ?_⟩
  intro mx hmx
  rw [hmx, g1, g2, g3]
  refine ⟨⟨⟨g4 hK, g1, g2, g3, TBS_0⟩, ⟨by omega, by rw [Int.toNat_natCast]; exact hs0⟩, by omega, by omega⟩, ?_⟩
  rintro m2 ⟨hT, hf⟩ y hy
  have hc : kmc 63 (kn m) (kF m) (kH m) d.toNat (kfl (kpk (fun i => min d.toNat (kfl (m 43 5).toNat i)) (kn m))) = kmc 63 (kn m) (kF m) (kH m) d.toNat (kfl (m 43 5).toNat) := kmc_cap hn2 (by omega) (by decide) fun k hk => by rw [kfl_pk hw _ k hk]; omega
  have hr := kmc_rng (c := 63) (F := kF m) (H := kH m) (d := d.toNat) (w := kfl (m 43 5).toNat) hn2 (by omega) (by decide)
  rw [Int.toNat_natCast, hc, am_s_id (by omega) (by omega), kmc_kmv] at hy
  refine ⟨by rw [hy], ?_, fun a ha => by rw [hf a ha, flm_fr ha]⟩
  exact KS_fr (m := flm m 45 8192 0) ⟨g4 hK, g1, g2, g3, TBS_0⟩ hf hT
theorem z_126   (m : am_M) (s : Int) (d : Int) (t : Int) (hq : KS (kn m) (kF m) (kH m) (KRF (kn m) (kF m) (kH m)) m ∧ (0 ≤ s ∧ s.toNat < 8 ^ kn m) ∧ (0 ≤ d ∧ d ≤ 7) ∧ t = kmc 63 (kn m) (kF m) (kH m) (d.toNat + 1) (kfl s.toNat) ∧ t < 63) : ok 12 126 0 (am_ent 7 [.inr (.inr (some 43)), .inl s, .inl d, .inl t]) [] m (fun rr m' => rr = [.inl (((klc (kn m) (kF m) (kH m) d.toNat (kfl s.toNat) : Nat) : Int))] ∧ KS (kn m) (kF m) (kH m) (KRF (kn m) (kF m) (kH m)) m' ∧ ∀ a, a ≠ 45 → m' a = m a) := by
  show ok 12 126 0 [some (.inr (.inr (some 43))), some (.inl s), some (.inl d), some (.inl t), none, none, none] [] m _
  obtain ⟨hKS, hs, hd, ht, ht2⟩ := hq
  obtain ⟨S, rfl⟩ : ∃ S : Nat, s = (S : Int) := ⟨s.toNat, by omega⟩
  obtain ⟨D, rfl⟩ : ∃ D : Nat, d = (D : Int) := ⟨d.toNat, by omega⟩
  simp only [Int.toNat_natCast] at hs ht ⊢
  have hn := (KOK_n hKS.1).2.1
  have hF : ∀ i, kF m i < 8 := fun i => kF_lt
  generalize kn m = n at *
  generalize kF m = F at *
  generalize kH m = H at *
  have h15 := kp15 hn
  have hp1 := Nat.two_pow_pos n
  have h32 : 2 ^ n ≤ 32 := Nat.le_trans (Nat.pow_le_pow_right (by decide) hn) (by decide)
  have ht0 := (kmc_rng (c := 63) (F := F) (H := H) (d := D + 1) (w := kfl S) hn (by omega) (by decide)).1
  obtain ⟨z1, z2, z3⟩ := klc_ok (n := n) (F := F) (H := H) (D := D) (w := kfl S) hn (by omega) (by omega)
  refine u_126_0 ?_
  refine ok_for (σ := Unit) (fun c _ => [some (.inr (.inr (some 43))), some (.inl (S : Int)), some (.inl (D : Int)), some (.inl t), some (.inl (c : Int)), none, none]) (fun c _ M => KS n F H (KRF n F H) M ∧ (∀ a, a ≠ 45 → M a = m a) ∧ ∀ s', s' < c → ¬ KOP n F H D (kfl S) s') (2 ^ n) ?_ ?_ () m ⟨hKS, fun _ _ => rfl, fun s' h => absurd h (Nat.not_lt_zero _)⟩
  · rintro c hc - M ⟨hS1, hf, hL⟩ IH
    obtain ⟨hK1, f1, f2, f3, hT1⟩ := id hS1
    have hcn := cnt_le c 12
    have hkl := kls_bd (d := D) (w := kfl (knx n F S c D)) (F := F) (by omega) n
    have hkx := knx_lt (n := n) (F := F) (S := S) (C := c) (D := D)
    have hkm := knx_mc (n := n) (F := F) (H := H) (S := S) (C := c) (D := D) hn (by omega) hF
    have hk0 := kls_kmc (c := 63) (n := n) (H := H) (d := D) (F := F) (w := kfl (knx n F S c D)) hn (by omega) (by decide)
    have hk1 := kmc_rng (c := 63) (n := n) (F := F) (H := H) (d := D) (w := ktp F c (kfl S)) hn (by omega) (by decide)
    have hb1 := kpk_lt (w := ktp F c (kfl S)) (ktp_lt hF) n
    have ed : ((D : Int) + 1).toNat = D + 1 := by omega
    have hnx : ¬ KOP n F H D (kfl S) c → ∀ s', s' < c + 1 → ¬ KOP n F H D (kfl S) s' := by
      intro h s' hs'
      by_cases hh : s' = c
      · rw [hh]; exact h
      · exact hL s' (by omega)
    refine u_126_3 ?_
    rw [(KOK_n hK1).1, f1, bx_shl1 n (by omega), am_s_id (z := ((2 ^ n : Nat) : Int)) (by omega) (by omega), am_s_id (z := (c : Int)) (by omega) (by omega), ed]
    simp only [Int.toNat_natCast]
    refine ⟨fun q => by omega, fun _ => ⟨⟨hK1, ⟨by omega, by omega⟩, ⟨by omega, by omega⟩, by omega, by omega⟩, ?_⟩⟩
    rintro v2 mx2 ⟨hmx2, hv, hiff⟩
    obtain rfl := hmx2.symm
    unfold KCH at hiff
    rw [f1, f3] at hiff
    refine ⟨fun q => ⟨⟨by omega, by omega⟩, ⟨hK1, ⟨by omega, by omega⟩, by omega, by omega⟩, ?_⟩, fun q => ?_⟩
    · have hv1 : v2 = 1 := by
        rcases hv with h | h
        · rw [h] at q; exact absurd rfl q
        · exact h
      obtain ⟨g1, g2, g3⟩ := hiff.mp hv1
      intro mx3 hmx3
      obtain rfl := hmx3.symm
      rw [f1, f2]
      refine ⟨⟨hK1, ⟨by omega, hb1⟩, by omega, by omega⟩, ?_⟩
      intro mx4 hmx4
      obtain rfl := hmx4.symm
      rw [f1, f2, show kpk (fun i => min D (kfl (kpk (ktp F c (kfl S)) n) i)) n = knx n F S c D from rfl]
      refine ⟨⟨hK1, ⟨by omega, by omega⟩, by omega, by omega⟩, ?_⟩
      intro mx5 hmx5
      obtain rfl := hmx5.symm
      rw [am_s_id (z := t - ((cnt c 12 : Nat) : Int)) (by omega) (by omega), am_s_id (z := ((kls D (kfl (knx n F S c D)) F n : Nat) : Int)) (by omega) (by omega), f1, f2, f3, hkm, am_s_id (z := kmc 63 n F H D (ktp F c (kfl S))) (by omega) (by omega)]
      refine ⟨fun q2 => IH () _ ⟨hS1, hf, hnx ?_⟩, fun q2 => ⟨⟨hS1, ⟨by omega, by rw [Int.toNat_natCast]; exact hkx⟩, rfl, by omega⟩, ?_⟩⟩
      · rintro ⟨-, -, y⟩
        omega
      · rintro mx6 ⟨hT6, hf6⟩
        have hf7 : ∀ a, a ≠ 45 → mx6 a = m a := fun a ha => by rw [hf6 a ha, hf a ha]
        refine ⟨fun q3 => IH () _ ⟨KS_fr hS1 hf6 hT6, hf7, hnx ?_⟩, fun q3 => ⟨?_, KS_fr hS1 hf6 hT6, hf7⟩⟩
        · rintro ⟨-, -, y⟩
          omega
        · rw [klc_eq hc ⟨g1, g2, by omega⟩ hL]
    · refine IH () _ ⟨hS1, hf, hnx fun z => ?_⟩
      have := kmc_need (c := 63) (H := H) (F := F) (s := c) hn (show D + 1 ≤ 8 by omega) (by decide) hc z.1 z.2.1 (by omega) z.2.2
      rw [hiff.mpr ⟨z.1, z.2.1, this⟩] at q
      exact absurd q (by decide)
  · rintro - M ⟨hS1, hf, hL⟩
    exact absurd z2 (hL _ z1)
theorem z_127   (m : am_M) (c : Int) (hq : KOK m ∧ (0 ≤ c ∧ c < 4096) ∧ ∀ i, i < kn m → 0 ≤ m 44 i ∧ m 44 i < 12) : ok 0 127 0 (am_ent 4 [.inr (.inr (some 43)), .inl c]) [] m (fun rr m' => rr = [.inl (((kpl (m 44) c.toNat (kn m) : Nat) : Int))] ∧ m' = m) := by
  show ok 0 127 0 [some (.inr (.inr (some 43))), some (.inl c), none, none] [] m _
  obtain ⟨hK, hc, hsp⟩ := hq
  obtain ⟨C, rfl⟩ : ∃ C : Nat, c = (C : Int) := ⟨c.toNat, by omega⟩
  simp only [Int.toNat_natCast]
  obtain ⟨hn1, hn2, hn3⟩ := KOK_n hK
  refine u_127_0 ?_
  refine ok_for (σ := Unit) (fun i _ => [some (.inr (.inr (some 43))), some (.inl (C : Int)), some (.inl ((kpl (m 44) C i : Nat) : Int)), some (.inl (i : Int))]) (fun _ _ M => M = m) (kn m) ?_ ?_ () m rfl
  · rintro i hi - M hM IH
    rw [hM]
    have h1 := hsp i hi
    have h2 := kpl_lt (sp := m 44) (C := C) i fun j hj => by have := hsp j (by omega); omega
    have h3 : 2 ^ (m 44 i).toNat < 4096 := show (2 : Nat) ^ (m 44 i).toNat < 2 ^ 12 from Nat.pow_lt_pow_right (by decide) (by omega)
    have e : am_or ((kpl (m 44) C i : Nat) : Int) (am_shl 1 (m 44 i)) = ((kpl (m 44) C i ||| 2 ^ (m 44 i).toNat : Nat) : Int) := by
      rw [show am_shl 1 (m 44 i) = am_shl 1 (((m 44 i).toNat : Nat) : Int) by rw [Int.toNat_of_nonneg (by omega)], bx_shl1 _ (by omega), bx_or12 h2 h3]
    have key : ∀ z : Nat, z = kpl (m 44) C (i + 1) → ok 0 127 4 [some (.inr (.inr (some 43))), some (.inl (C : Int)), some (.inl (z : Int)), some (.inl ((i : Int) + 1))] [] m (fun rr m' => rr = [.inl ((kpl (m 44) C (kn m) : Nat) : Int)] ∧ m' = m) := by
      intro z hz
      rw [hz]
      exact IH () m rfl
    refine u_127_4 ?_
    rw [hn1, hn3, am_s_id (z := (i : Int)) (by omega) (by omega), bx_bit (by omega) (by omega), Int.toNat_natCast, e]
    refine ⟨fun q => by omega, fun _ => ⟨fun q => key _ ?_, fun q => ⟨by omega, key _ ?_⟩⟩⟩
    · show _ = if C.testBit i = true then _ else _
      rw [q, if_neg (by decide)]
    · show _ = if C.testBit i = true then _ else _
      rw [if_pos]
      cases hh : C.testBit i
      · exact absurd hh q
      · rfl
  · rintro - M hM
    rw [hM]
    refine u_127_4 ?_
    rw [hn1, hn3]
    exact ⟨fun _ => ⟨rfl, rfl⟩, fun q => by omega⟩
theorem u_125_35 {Q : List am_V → am_M → Prop} {m : am_M} {d : Int} {w : Int} {t : Int} {s : Int} {c : Int} {g : Int}  (H : ((am_s w < am_s g) → (KOK m ∧ (0 ≤ c ∧ c < 4096) ∧ ∀ i, i < kn m → 0 ≤ m 44 i ∧ m 44 i < 12) ∧ (∀ (m1 : am_M), (m1 = m) → Q [.inl ((kpl (m 44) c.toNat (kn m) : Nat) : Int)] m1)) ∧ ((¬ (am_s w < am_s g)) → (KS (kn m) (kF m) (kH m) (KRF (kn m) (kF m) (kH m)) m ∧ (0 ≤ s ∧ s.toNat < 8 ^ kn m) ∧ (0 ≤ ((d - g) - 1) ∧ ((d - g) - 1) ≤ 7) ∧ t = kmc 63 (kn m) (kF m) (kH m) (((d - g) - 1).toNat + 1) (kfl s.toNat) ∧ t < 63) ∧ (∀ (m2 : am_M), (KS (kn m) (kF m) (kH m) (KRF (kn m) (kF m) (kH m)) m2 ∧ ∀ a, a ≠ 45 → m2 a = m a) → (0 ≤ ((klc (kn m) (kF m) (kH m) ((d - g) - 1).toNat (kfl s.toNat) : Nat) : Int) ∧ ((klc (kn m) (kF m) (kH m) ((d - g) - 1).toNat (kfl s.toNat) : Nat) : Int) < 4096) ∧ ((KOK m2 ∧ (0 ≤ s ∧ s < 32768) ∧ 0 ≤ ((klc (kn m) (kF m) (kH m) ((d - g) - 1).toNat (kfl s.toNat) : Nat) : Int) ∧ ((klc (kn m) (kF m) (kH m) ((d - g) - 1).toNat (kfl s.toNat) : Nat) : Int) < 4096) ∧ (∀ (m3 : am_M), (m3 = m2) → (KOK m3 ∧ (0 ≤ ((kpk (ktp (kF m2) ((klc (kn m) (kF m) (kH m) ((d - g) - 1).toNat (kfl s.toNat) : Nat) : Int).toNat (kfl s.toNat)) (kn m2) : Nat) : Int) ∧ ((kpk (ktp (kF m2) ((klc (kn m) (kF m) (kH m) ((d - g) - 1).toNat (kfl s.toNat) : Nat) : Int).toNat (kfl s.toNat)) (kn m2) : Nat) : Int).toNat < 8 ^ kn m3) ∧ 0 ≤ ((d - g) - 1) ∧ ((d - g) - 1) ≤ 8) ∧ (∀ (m4 : am_M), (m4 = m3) → ok 13 125 35 [some (.inr (.inr (some 43))), some (.inl d), some (.inl w), some (.inl (t - (((cnt ((klc (kn m) (kF m) (kH m) ((d - g) - 1).toNat (kfl s.toNat) : Nat) : Int).toNat 12 : Nat) : Int)))), some (.inl ((kpk (fun i => min ((d - g) - 1).toNat (kfl ((kpk (ktp (kF m2) ((klc (kn m) (kF m) (kH m) ((d - g) - 1).toNat (kfl s.toNat) : Nat) : Int).toNat (kfl s.toNat)) (kn m2) : Nat) : Int).toNat i)) (kn m3) : Nat) : Int)), some (.inl ((klc (kn m) (kF m) (kH m) ((d - g) - 1).toNat (kfl s.toNat) : Nat) : Int)), some (.inl (g + 1)), none] [] m4 Q)))))) : ok 13 125 35 [some (.inr (.inr (some 43))), some (.inl d), some (.inl w), some (.inl t), some (.inl s), some (.inl c), some (.inl g), none] [] m Q := by
  refine ok_sg (pc' := 38) (ls' := [some (.inr (.inr (some 43))), some (.inl d), some (.inl w), some (.inl t), some (.inl s), some (.inl c), some (.inl g), none]) (st' := [.inl w, .inl g]) (m' := m) (fun fx hfx o hk => ?_) ?_
  · refine r_ld (pc' := 37) hM_125 d_125_35 rfl rfl ?_
    refine r_ld (pc' := 38) hM_125 d_125_37 rfl rfl ?_
    exact hk
  refine ok_ic (pc' := 90) (pc2 := 41) hM_125 d_125_38 (by decide) rfl (fun hz1 => ?_) (fun hz1 => ?_)
  · have H := H.1 hz1
    obtain ⟨hz2, H⟩ := H
    refine ok_sg (pc' := 93) (ls' := [some (.inr (.inr (some 43))), some (.inl d), some (.inl w), some (.inl t), some (.inl s), some (.inl c), some (.inl g), none]) (st' := [.inl c, .inr (.inr (some 43))]) (m' := m) (fun fx hfx o hk => ?_) ?_
    · refine r_ld (pc' := 91) hM_125 d_125_90 rfl rfl ?_
      refine r_ld (pc' := 93) hM_125 d_125_91 rfl rfl ?_
      exact hk
    refine ok_cl (pc' := 96) (c := (127, 0)) (a := [.inr (.inr (some 43)), .inl c]) (q := []) hM_125 d_125_93 rfl (by decide +kernel) hM_127 rfl rfl rfl (Nat.le_of_ble_eq_true rfl) (Nat.le_of_ble_eq_true rfl) (Or.inr rfl) (z_127  m c hz2) (Nat.le_of_ble_eq_true rfl) ?_
    rintro _ m1 ⟨rfl, hz3⟩
    replace H := H  m1 hz3
    show ok 13 125 96 [some (.inr (.inr (some 43))), some (.inl d), some (.inl w), some (.inl t), some (.inl s), some (.inl c), some (.inl g), none] [.inl ((kpl (m 44) c.toNat (kn m) : Nat) : Int)] m1 Q
    exact ok_rt (fun fx _ => rt_i hM_125 d_125_96 rfl) H
  · have H := H.2 hz1
    obtain ⟨hz4, H⟩ := H
    refine ok_sg (pc' := 55) (ls' := [some (.inr (.inr (some 43))), some (.inl d), some (.inl w), some (.inl t), some (.inl s), some (.inl c), some (.inl g), some (.inl ((d - g) - 1))]) (st' := [.inl t, .inl ((d - g) - 1), .inl s, .inr (.inr (some 43))]) (m' := m) (fun fx hfx o hk => ?_) ?_
    · refine r_ld (pc' := 42) hM_125 d_125_41 rfl rfl ?_
      refine r_ld (pc' := 44) hM_125 d_125_42 rfl rfl ?_
      refine r_b (pc' := 45) (z := (d - g)) hM_125 d_125_44 rfl rfl ?_
      refine r_k (pc' := 46) (v := .inl 1) hM_125 d_125_45 rfl rfl ?_
      refine r_b (pc' := 47) (z := ((d - g) - 1)) hM_125 d_125_46 rfl rfl ?_
      refine r_sto (pc' := 49) (ls' := [some (.inr (.inr (some 43))), some (.inl d), some (.inl w), some (.inl t), some (.inl s), some (.inl c), some (.inl g), some (.inl ((d - g) - 1))]) hM_125 d_125_47 rfl rfl ?_
      refine r_ld (pc' := 50) hM_125 d_125_49 rfl rfl ?_
      refine r_ld (pc' := 52) hM_125 d_125_50 rfl rfl ?_
      refine r_ld (pc' := 54) hM_125 d_125_52 rfl rfl ?_
      refine r_ld (pc' := 55) hM_125 d_125_54 rfl rfl ?_
      exact hk
    refine ok_cl (pc' := 58) (c := (126, 0)) (a := [.inr (.inr (some 43)), .inl s, .inl ((d - g) - 1), .inl t]) (q := []) hM_125 d_125_55 rfl (by decide +kernel) hM_126 rfl rfl rfl (Nat.le_of_ble_eq_true rfl) (Nat.le_of_ble_eq_true rfl) (Or.inr rfl) (z_126  m s ((d - g) - 1) t hz4) (Nat.le_of_ble_eq_true rfl) ?_
    rintro _ m2 ⟨rfl, hz5⟩
    replace H := H  m2 hz5
    show ok 13 125 58 [some (.inr (.inr (some 43))), some (.inl d), some (.inl w), some (.inl t), some (.inl s), some (.inl c), some (.inl g), some (.inl ((d - g) - 1))] [.inl ((klc (kn m) (kF m) (kH m) ((d - g) - 1).toNat (kfl s.toNat) : Nat) : Int)] m2 Q
    obtain ⟨hz6, H⟩ := H
    obtain ⟨hz7, H⟩ := H
    refine ok_sg (pc' := 74) (ls' := [some (.inr (.inr (some 43))), some (.inl d), some (.inl w), some (.inl (t - (((cnt ((klc (kn m) (kF m) (kH m) ((d - g) - 1).toNat (kfl s.toNat) : Nat) : Int).toNat 12 : Nat) : Int)))), some (.inl s), some (.inl ((klc (kn m) (kF m) (kH m) ((d - g) - 1).toNat (kfl s.toNat) : Nat) : Int)), some (.inl g), some (.inl ((d - g) - 1))]) (st' := [.inl ((klc (kn m) (kF m) (kH m) ((d - g) - 1).toNat (kfl s.toNat) : Nat) : Int), .inl s, .inr (.inr (some 43)), .inr (.inr (some 43))]) (m' := m2) (fun fx hfx o hk => ?_) ?_
    · refine r_sto (pc' := 60) (ls' := [some (.inr (.inr (some 43))), some (.inl d), some (.inl w), some (.inl t), some (.inl s), some (.inl ((klc (kn m) (kF m) (kH m) ((d - g) - 1).toNat (kfl s.toNat) : Nat) : Int)), some (.inl g), some (.inl ((d - g) - 1))]) hM_125 d_125_58 rfl rfl ?_
      refine r_ld (pc' := 61) hM_125 d_125_60 rfl rfl ?_
      refine r_ld (pc' := 63) hM_125 d_125_61 rfl rfl ?_
      refine r_cl (pc' := 66) (c := (72, 2)) (a := [.inl ((klc (kn m) (kF m) (kH m) ((d - g) - 1).toNat (kfl s.toNat) : Nat) : Int)]) (q := [.inl t]) hM_125 d_125_63 rfl (by decide +kernel) hM_72 rfl rfl rfl (Nat.le_of_ble_eq_true rfl) (Nat.le_of_ble_eq_true rfl) (Or.inl rfl) (n_72  m2 ((klc (kn m) (kF m) (kH m) ((d - g) - 1).toNat (kfl s.toNat) : Nat) : Int) hz6) (Nat.le_of_ble_eq_true rfl) ?_
      show rn fx 13 (0, 0) 125 66 [some (.inr (.inr (some 43))), some (.inl d), some (.inl w), some (.inl t), some (.inl s), some (.inl ((klc (kn m) (kF m) (kH m) ((d - g) - 1).toNat (kfl s.toNat) : Nat) : Int)), some (.inl g), some (.inl ((d - g) - 1))] [.inl (((cnt ((klc (kn m) (kF m) (kH m) ((d - g) - 1).toNat (kfl s.toNat) : Nat) : Int).toNat 12 : Nat) : Int)), .inl t] (st0 m2) o
      refine r_b (pc' := 67) (z := (t - (((cnt ((klc (kn m) (kF m) (kH m) ((d - g) - 1).toNat (kfl s.toNat) : Nat) : Int).toNat 12 : Nat) : Int)))) hM_125 d_125_66 rfl rfl ?_
      refine r_sto (pc' := 68) (ls' := [some (.inr (.inr (some 43))), some (.inl d), some (.inl w), some (.inl (t - (((cnt ((klc (kn m) (kF m) (kH m) ((d - g) - 1).toNat (kfl s.toNat) : Nat) : Int).toNat 12 : Nat) : Int)))), some (.inl s), some (.inl ((klc (kn m) (kF m) (kH m) ((d - g) - 1).toNat (kfl s.toNat) : Nat) : Int)), some (.inl g), some (.inl ((d - g) - 1))]) hM_125 d_125_67 rfl rfl ?_
      refine r_ld (pc' := 69) hM_125 d_125_68 rfl rfl ?_
      refine r_ld (pc' := 70) hM_125 d_125_69 rfl rfl ?_
      refine r_ld (pc' := 72) hM_125 d_125_70 rfl rfl ?_
      refine r_ld (pc' := 74) hM_125 d_125_72 rfl rfl ?_
      exact hk
    refine ok_cl (pc' := 77) (c := (122, 0)) (a := [.inr (.inr (some 43)), .inl s, .inl ((klc (kn m) (kF m) (kH m) ((d - g) - 1).toNat (kfl s.toNat) : Nat) : Int)]) (q := [.inr (.inr (some 43))]) hM_125 d_125_74 rfl (by decide +kernel) hM_122 rfl rfl rfl (Nat.le_of_ble_eq_true rfl) (Nat.le_of_ble_eq_true rfl) (Or.inr rfl) (z_122  m2 s ((klc (kn m) (kF m) (kH m) ((d - g) - 1).toNat (kfl s.toNat) : Nat) : Int) hz7) (Nat.le_of_ble_eq_true rfl) ?_
    rintro _ m3 ⟨rfl, hz8⟩
    replace H := H  m3 hz8
    show ok 13 125 77 [some (.inr (.inr (some 43))), some (.inl d), some (.inl w), some (.inl (t - (((cnt ((klc (kn m) (kF m) (kH m) ((d - g) - 1).toNat (kfl s.toNat) : Nat) : Int).toNat 12 : Nat) : Int)))), some (.inl s), some (.inl ((klc (kn m) (kF m) (kH m) ((d - g) - 1).toNat (kfl s.toNat) : Nat) : Int)), some (.inl g), some (.inl ((d - g) - 1))] [.inl ((kpk (ktp (kF m2) ((klc (kn m) (kF m) (kH m) ((d - g) - 1).toNat (kfl s.toNat) : Nat) : Int).toNat (kfl s.toNat)) (kn m2) : Nat) : Int), .inr (.inr (some 43))] m3 Q
    obtain ⟨hz9, H⟩ := H
    refine ok_sg (pc' := 79) (ls' := [some (.inr (.inr (some 43))), some (.inl d), some (.inl w), some (.inl (t - (((cnt ((klc (kn m) (kF m) (kH m) ((d - g) - 1).toNat (kfl s.toNat) : Nat) : Int).toNat 12 : Nat) : Int)))), some (.inl s), some (.inl ((klc (kn m) (kF m) (kH m) ((d - g) - 1).toNat (kfl s.toNat) : Nat) : Int)), some (.inl g), some (.inl ((d - g) - 1))]) (st' := [.inl ((d - g) - 1), .inl ((kpk (ktp (kF m2) ((klc (kn m) (kF m) (kH m) ((d - g) - 1).toNat (kfl s.toNat) : Nat) : Int).toNat (kfl s.toNat)) (kn m2) : Nat) : Int), .inr (.inr (some 43))]) (m' := m3) (fun fx hfx o hk => ?_) ?_
    · refine r_ld (pc' := 79) hM_125 d_125_77 rfl rfl ?_
      exact hk
    refine ok_cl (pc' := 82) (c := (117, 0)) (a := [.inr (.inr (some 43)), .inl ((kpk (ktp (kF m2) ((klc (kn m) (kF m) (kH m) ((d - g) - 1).toNat (kfl s.toNat) : Nat) : Int).toNat (kfl s.toNat)) (kn m2) : Nat) : Int), .inl ((d - g) - 1)]) (q := []) hM_125 d_125_79 rfl (by decide +kernel) hM_117 rfl rfl rfl (Nat.le_of_ble_eq_true rfl) (Nat.le_of_ble_eq_true rfl) (Or.inr rfl) (z_117  m3 ((kpk (ktp (kF m2) ((klc (kn m) (kF m) (kH m) ((d - g) - 1).toNat (kfl s.toNat) : Nat) : Int).toNat (kfl s.toNat)) (kn m2) : Nat) : Int) ((d - g) - 1) hz9) (Nat.le_of_ble_eq_true rfl) ?_
    rintro _ m4 ⟨rfl, hz10⟩
    replace H := H  m4 hz10
    show ok 13 125 82 [some (.inr (.inr (some 43))), some (.inl d), some (.inl w), some (.inl (t - (((cnt ((klc (kn m) (kF m) (kH m) ((d - g) - 1).toNat (kfl s.toNat) : Nat) : Int).toNat 12 : Nat) : Int)))), some (.inl s), some (.inl ((klc (kn m) (kF m) (kH m) ((d - g) - 1).toNat (kfl s.toNat) : Nat) : Int)), some (.inl g), some (.inl ((d - g) - 1))] [.inl ((kpk (fun i => min ((d - g) - 1).toNat (kfl ((kpk (ktp (kF m2) ((klc (kn m) (kF m) (kH m) ((d - g) - 1).toNat (kfl s.toNat) : Nat) : Int).toNat (kfl s.toNat)) (kn m2) : Nat) : Int).toNat i)) (kn m3) : Nat) : Int)] m4 Q
    refine ok_sg (pc' := 35) (ls' := [some (.inr (.inr (some 43))), some (.inl d), some (.inl w), some (.inl (t - (((cnt ((klc (kn m) (kF m) (kH m) ((d - g) - 1).toNat (kfl s.toNat) : Nat) : Int).toNat 12 : Nat) : Int)))), some (.inl ((kpk (fun i => min ((d - g) - 1).toNat (kfl ((kpk (ktp (kF m2) ((klc (kn m) (kF m) (kH m) ((d - g) - 1).toNat (kfl s.toNat) : Nat) : Int).toNat (kfl s.toNat)) (kn m2) : Nat) : Int).toNat i)) (kn m3) : Nat) : Int)), some (.inl ((klc (kn m) (kF m) (kH m) ((d - g) - 1).toNat (kfl s.toNat) : Nat) : Int)), some (.inl (g + 1)), none]) (st' := []) (m' := m4) (fun fx hfx o hk => ?_) ?_
    · refine r_sto (pc' := 84) (ls' := [some (.inr (.inr (some 43))), some (.inl d), some (.inl w), some (.inl (t - (((cnt ((klc (kn m) (kF m) (kH m) ((d - g) - 1).toNat (kfl s.toNat) : Nat) : Int).toNat 12 : Nat) : Int)))), some (.inl ((kpk (fun i => min ((d - g) - 1).toNat (kfl ((kpk (ktp (kF m2) ((klc (kn m) (kF m) (kH m) ((d - g) - 1).toNat (kfl s.toNat) : Nat) : Int).toNat (kfl s.toNat)) (kn m2) : Nat) : Int).toNat i)) (kn m3) : Nat) : Int)), some (.inl ((klc (kn m) (kF m) (kH m) ((d - g) - 1).toNat (kfl s.toNat) : Nat) : Int)), some (.inl g), some (.inl ((d - g) - 1))]) hM_125 d_125_82 rfl rfl ?_
      refine r_sto (pc' := 87) (ls' := [some (.inr (.inr (some 43))), some (.inl d), some (.inl w), some (.inl (t - (((cnt ((klc (kn m) (kF m) (kH m) ((d - g) - 1).toNat (kfl s.toNat) : Nat) : Int).toNat 12 : Nat) : Int)))), some (.inl ((kpk (fun i => min ((d - g) - 1).toNat (kfl ((kpk (ktp (kF m2) ((klc (kn m) (kF m) (kH m) ((d - g) - 1).toNat (kfl s.toNat) : Nat) : Int).toNat (kfl s.toNat)) (kn m2) : Nat) : Int).toNat i)) (kn m3) : Nat) : Int)), some (.inl ((klc (kn m) (kF m) (kH m) ((d - g) - 1).toNat (kfl s.toNat) : Nat) : Int)), some (.inl (g + 1)), some (.inl ((d - g) - 1))]) hM_125 d_125_84 rfl rfl ?_
      refine r_go (pc' := 35) hM_125 d_125_87 (by decide) ?_
      refine rn_wk (a := [some (.inr (.inr (some 43))), some (.inl d), some (.inl w), some (.inl (t - (((cnt ((klc (kn m) (kF m) (kH m) ((d - g) - 1).toNat (kfl s.toNat) : Nat) : Int).toNat 12 : Nat) : Int)))), some (.inl ((kpk (fun i => min ((d - g) - 1).toNat (kfl ((kpk (ktp (kF m2) ((klc (kn m) (kF m) (kH m) ((d - g) - 1).toNat (kfl s.toNat) : Nat) : Int).toNat (kfl s.toNat)) (kn m2) : Nat) : Int).toNat i)) (kn m3) : Nat) : Int)), some (.inl ((klc (kn m) (kF m) (kH m) ((d - g) - 1).toNat (kfl s.toNat) : Nat) : Int)), some (.inl (g + 1)), none]) (by simp only [am_le, and_self]) ?_
      exact hk
    exact H
theorem u_125_0 {Q : List am_V → am_M → Prop} {m : am_M} {d : Int} {w : Int}  (H : (KST m ∧ 1 ≤ d ∧ d ≤ 8) ∧ (∀ (m1 : am_M), (KS (kn m) (kF m) (kH m) (KRF (kn m) (kF m) (kH m)) m1 ∧ ∀ a, a ≠ 45 → m1 a = m a) → ((am_s (kmv (kn m) (kF m) (kH m) d.toNat (kfl (m 43 5).toNat)) = (-1)) → Q [.inl (-1)] m1) ∧ ((¬ (am_s (kmv (kn m) (kF m) (kH m) d.toNat (kfl (m 43 5).toNat)) = (-1))) → ((am_s w < am_s d) → (KOK m1 ∧ (0 ≤ (m1 43 5) ∧ (m1 43 5).toNat < 8 ^ kn m1) ∧ 0 ≤ d ∧ d ≤ 8) ∧ (∀ (m2 : am_M), (m2 = m1) → ok 13 125 35 [some (.inr (.inr (some 43))), some (.inl d), some (.inl w), some (.inl (kmv (kn m) (kF m) (kH m) d.toNat (kfl (m 43 5).toNat))), some (.inl ((kpk (fun i => min d.toNat (kfl (m1 43 5).toNat i)) (kn m1) : Nat) : Int)), some (.inl 0), some (.inl 0), none] [] m2 Q)) ∧ ((¬ (am_s w < am_s d)) → Q [.inl (-1)] m1)))) : ok 13 125 0 [some (.inr (.inr (some 43))), some (.inl d), some (.inl w), none, none, none, none, none] [] m Q := by
  obtain ⟨hz1, H⟩ := H
  refine ok_sg (pc' := 2) (ls' := [some (.inr (.inr (some 43))), some (.inl d), some (.inl w), none, none, none, none, none]) (st' := [.inl d, .inr (.inr (some 43))]) (m' := m) (fun fx hfx o hk => ?_) ?_
  · refine r_ld (pc' := 1) hM_125 d_125_0 rfl rfl ?_
    refine r_ld (pc' := 2) hM_125 d_125_1 rfl rfl ?_
    exact hk
  refine ok_cl (pc' := 5) (c := (116, 0)) (a := [.inr (.inr (some 43)), .inl d]) (q := []) hM_125 d_125_2 rfl (by decide +kernel) hM_116 rfl rfl rfl (Nat.le_of_ble_eq_true rfl) (Nat.le_of_ble_eq_true rfl) (Or.inr rfl) (z_116  m d hz1) (Nat.le_of_ble_eq_true rfl) ?_
  rintro _ m1 ⟨rfl, hz2⟩
  replace H := H  m1 hz2
  show ok 13 125 5 [some (.inr (.inr (some 43))), some (.inl d), some (.inl w), none, none, none, none, none] [.inl (kmv (kn m) (kF m) (kH m) d.toNat (kfl (m 43 5).toNat))] m1 Q
  refine ok_sg (pc' := 8) (ls' := [some (.inr (.inr (some 43))), some (.inl d), some (.inl w), some (.inl (kmv (kn m) (kF m) (kH m) d.toNat (kfl (m 43 5).toNat))), none, none, none, none]) (st' := [.inl (-1), .inl (kmv (kn m) (kF m) (kH m) d.toNat (kfl (m 43 5).toNat))]) (m' := m1) (fun fx hfx o hk => ?_) ?_
  · refine r_sto (pc' := 6) (ls' := [some (.inr (.inr (some 43))), some (.inl d), some (.inl w), some (.inl (kmv (kn m) (kF m) (kH m) d.toNat (kfl (m 43 5).toNat))), none, none, none, none]) hM_125 d_125_5 rfl rfl ?_
    refine r_ld (pc' := 7) hM_125 d_125_6 rfl rfl ?_
    refine r_k (pc' := 8) (v := .inl (-1)) hM_125 d_125_7 rfl rfl ?_
    exact hk
  refine ok_ic (pc' := 16) (pc2 := 11) hM_125 d_125_8 (by decide) rfl (fun hz3 => ?_) (fun hz3 => ?_)
  · have H := H.1 hz3
    refine ok_sg (pc' := 17) (ls' := [some (.inr (.inr (some 43))), some (.inl d), some (.inl w), some (.inl (kmv (kn m) (kF m) (kH m) d.toNat (kfl (m 43 5).toNat))), none, none, none, none]) (st' := [.inl (-1)]) (m' := m1) (fun fx hfx o hk => ?_) ?_
    · refine r_k (pc' := 17) (v := .inl (-1)) hM_125 d_125_16 rfl rfl ?_
      exact hk
    exact ok_rt (fun fx _ => rt_i hM_125 d_125_17 rfl) H
  · have H := H.2 hz3
    refine ok_sg (pc' := 13) (ls' := [some (.inr (.inr (some 43))), some (.inl d), some (.inl w), some (.inl (kmv (kn m) (kF m) (kH m) d.toNat (kfl (m 43 5).toNat))), none, none, none, none]) (st' := [.inl d, .inl w]) (m' := m1) (fun fx hfx o hk => ?_) ?_
    · refine r_ld (pc' := 12) hM_125 d_125_11 rfl rfl ?_
      refine r_ld (pc' := 13) hM_125 d_125_12 rfl rfl ?_
      exact hk
    refine ok_ic (pc' := 18) (pc2 := 16) hM_125 d_125_13 (by decide) rfl (fun hz4 => ?_) (fun hz4 => ?_)
    · have H := H.1 hz4
      obtain ⟨hz5, H⟩ := H
      refine ok_sg (pc' := 24) (ls' := [some (.inr (.inr (some 43))), some (.inl d), some (.inl w), some (.inl (kmv (kn m) (kF m) (kH m) d.toNat (kfl (m 43 5).toNat))), none, none, none, none]) (st' := [.inl d, .inl (m1 43 5), .inr (.inr (some 43))]) (m' := m1) (fun fx hfx o hk => ?_) ?_
      · refine r_ld (pc' := 19) hM_125 d_125_18 rfl rfl ?_
        refine r_ld (pc' := 20) hM_125 d_125_19 rfl rfl ?_
        refine r_gI (pc' := 23) (k0 := 5) hM_125 d_125_20 rfl (by decide +kernel) ?_
        refine r_ld (pc' := 24) hM_125 d_125_23 rfl rfl ?_
        exact hk
      refine ok_cl (pc' := 27) (c := (117, 0)) (a := [.inr (.inr (some 43)), .inl (m1 43 5), .inl d]) (q := []) hM_125 d_125_24 rfl (by decide +kernel) hM_117 rfl rfl rfl (Nat.le_of_ble_eq_true rfl) (Nat.le_of_ble_eq_true rfl) (Or.inr rfl) (z_117  m1 (m1 43 5) d hz5) (Nat.le_of_ble_eq_true rfl) ?_
      rintro _ m2 ⟨rfl, hz6⟩
      replace H := H  m2 hz6
      show ok 13 125 27 [some (.inr (.inr (some 43))), some (.inl d), some (.inl w), some (.inl (kmv (kn m) (kF m) (kH m) d.toNat (kfl (m 43 5).toNat))), none, none, none, none] [.inl ((kpk (fun i => min d.toNat (kfl (m1 43 5).toNat i)) (kn m1) : Nat) : Int)] m2 Q
      refine ok_sg (pc' := 35) (ls' := [some (.inr (.inr (some 43))), some (.inl d), some (.inl w), some (.inl (kmv (kn m) (kF m) (kH m) d.toNat (kfl (m 43 5).toNat))), some (.inl ((kpk (fun i => min d.toNat (kfl (m1 43 5).toNat i)) (kn m1) : Nat) : Int)), some (.inl 0), some (.inl 0), none]) (st' := []) (m' := m2) (fun fx hfx o hk => ?_) ?_
      · refine r_sto (pc' := 29) (ls' := [some (.inr (.inr (some 43))), some (.inl d), some (.inl w), some (.inl (kmv (kn m) (kF m) (kH m) d.toNat (kfl (m 43 5).toNat))), some (.inl ((kpk (fun i => min d.toNat (kfl (m1 43 5).toNat i)) (kn m1) : Nat) : Int)), none, none, none]) hM_125 d_125_27 rfl rfl ?_
        refine r_k (pc' := 30) (v := .inl 0) hM_125 d_125_29 rfl rfl ?_
        refine r_sto (pc' := 32) (ls' := [some (.inr (.inr (some 43))), some (.inl d), some (.inl w), some (.inl (kmv (kn m) (kF m) (kH m) d.toNat (kfl (m 43 5).toNat))), some (.inl ((kpk (fun i => min d.toNat (kfl (m1 43 5).toNat i)) (kn m1) : Nat) : Int)), some (.inl 0), none, none]) hM_125 d_125_30 rfl rfl ?_
        refine r_k (pc' := 33) (v := .inl 0) hM_125 d_125_32 rfl rfl ?_
        refine r_sto (pc' := 35) (ls' := [some (.inr (.inr (some 43))), some (.inl d), some (.inl w), some (.inl (kmv (kn m) (kF m) (kH m) d.toNat (kfl (m 43 5).toNat))), some (.inl ((kpk (fun i => min d.toNat (kfl (m1 43 5).toNat i)) (kn m1) : Nat) : Int)), some (.inl 0), some (.inl 0), none]) hM_125 d_125_33 rfl rfl ?_
        exact hk
      exact H
    · have H := H.2 hz4
      refine ok_sg (pc' := 17) (ls' := [some (.inr (.inr (some 43))), some (.inl d), some (.inl w), some (.inl (kmv (kn m) (kF m) (kH m) d.toNat (kfl (m 43 5).toNat))), none, none, none, none]) (st' := [.inl (-1)]) (m' := m1) (fun fx hfx o hk => ?_) ?_
      · refine r_k (pc' := 17) (v := .inl (-1)) hM_125 d_125_16 rfl rfl ?_
        exact hk
      exact ok_rt (fun fx _ => rt_i hM_125 d_125_17 rfl) H
theorem z_125   (m : am_M) (d : Int) (w : Int) (hq : KST m ∧ (1 ≤ d ∧ d ≤ 8) ∧ (0 ≤ w ∧ w ≤ 7) ∧ ∀ i, i < kn m → 0 ≤ m 44 i ∧ m 44 i < 12) : ok 13 125 0 (am_ent 8 [.inr (.inr (some 43)), .inl d, .inl w]) [] m (fun rr m' => rr = [.inl ((if kmv (kn m) (kF m) (kH m) d.toNat (kfl (m 43 5).toNat) = -1 ∨ d ≤ w then -1 else ((kpl (m 44) (klc (kn m) (kF m) (kH m) (d.toNat - w.toNat - 1) (kws (kn m) (kF m) (kH m) d.toNat (kfl (m 43 5).toNat) w.toNat)) (kn m) : Nat) : Int)))] ∧ ∀ a, a ≠ 45 → m' a = m a) := by
  show ok 13 125 0 [some (.inr (.inr (some 43))), some (.inl d), some (.inl w), none, none, none, none, none] [] m _
  obtain ⟨hKT, hd, hw, hsp⟩ := hq
  obtain ⟨D, rfl⟩ : ∃ D : Nat, d = (D : Int) := ⟨d.toNat, by omega⟩
  obtain ⟨W, rfl⟩ : ∃ W : Nat, w = (W : Int) := ⟨w.toNat, by omega⟩
  simp only [Int.toNat_natCast]
  have hn := (KOK_n hKT.1).2.1
  have hF : ∀ i, kF m i < 8 := fun i => kF_lt
  have h5 := hKT.2
  refine u_125_0 ⟨⟨hKT, by omega, by omega⟩, ?_⟩
  rw [am_s_id (z := (D : Int)) (by omega) (by omega), am_s_id (z := (W : Int)) (by omega) (by omega), Int.toNat_natCast]
  rintro m1 ⟨hS0, hf0⟩
  have e5 : m1 43 = m 43 := hf0 43 (by decide)
  have e44 : m1 44 = m 44 := hf0 44 (by decide)
  have hkv : kmv (kn m) (kF m) (kH m) D (kfl (m 43 5).toNat) ≠ -1 → kmv (kn m) (kF m) (kH m) D (kfl (m 43 5).toNat) = kmc 63 (kn m) (kF m) (kH m) D (kfl (m 43 5).toNat) ∧ kmc 63 (kn m) (kF m) (kH m) D (kfl (m 43 5).toNat) < 63 := by
    intro h
    have := kmc_kmv (n := kn m) (F := kF m) (H := kH m) (d := D) (w := kfl (m 43 5).toNat)
    by_cases hc : kmc 63 (kn m) (kF m) (kH m) D (kfl (m 43 5).toNat) < 63
    · rw [if_pos hc] at this
      exact ⟨this.symm, hc⟩
    · rw [if_neg hc] at this
      exact absurd this.symm h
  have hvr : -1 ≤ kmv (kn m) (kF m) (kH m) D (kfl (m 43 5).toNat) ∧ kmv (kn m) (kF m) (kH m) D (kfl (m 43 5).toNat) < 61 := by
    unfold kmv
    rcases plv_rng (C := KW (kn m) (kF m) (kH m) D (kfl (m 43 5).toNat)) (N := 61) with h | h
    · omega
    · omega
  rw [am_s_id (z := kmv (kn m) (kF m) (kH m) D (kfl (m 43 5).toNat)) (by omega) (by omega)]
  have k1 := (kfr e5).1
  rw [e5, k1]
  generalize kn m = n at *
  generalize kF m = F at *
  generalize kH m = H at *
  generalize (m 43 5).toNat = S0 at *
  refine ⟨fun q => ⟨by rw [if_pos (Or.inl q)], hf0⟩, fun q => ⟨fun q2 => ⟨⟨hS0.1, h5, by omega, by omega⟩, ?_⟩, fun q2 => ⟨by rw [if_pos (Or.inr (by omega))], hf0⟩⟩⟩
  intro mx hmx
  obtain rfl := hmx.symm
  rw [if_neg (by omega), (hkv q).1]
  have hkv2 := (hkv q).2
  have hw0 : ∀ i, min D (kfl S0 i) < 8 := fun i => by have := kfl_lt (s := S0) (i := i); omega
  have h15 := kp15 hn
  have hp1 := Nat.two_pow_pos n
  have h32 : 2 ^ n ≤ 32 := Nat.le_trans (Nat.pow_le_pow_right (by decide) hn) (by decide)
  have key := ok_for (d := 13) (mi := 125) (pc := 35) (Q := fun rr m' => rr = [.inl ((kpl (m 44) (klc n F H (D - W - 1) (kws n F H D (kfl S0) W)) n : Nat) : Int)] ∧ ∀ a, a ≠ 45 → m' a = m a) (σ := Nat × Nat) (fun i x => [some (.inr (.inr (some 43))), some (.inl (D : Int)), some (.inl (W : Int)), some (.inl (kmc 63 n F H (D - i) (kws n F H D (kfl S0) i))), some (.inl (x.1 : Int)), some (.inl (x.2 : Int)), some (.inl (i : Int)), none]) (fun i x M => KS n F H (KRF n F H) M ∧ (∀ a, a ≠ 45 → M a = m a) ∧ (x.1 < 8 ^ n ∧ x.2 < 2 ^ n) ∧ (∀ k, k < n → kfl x.1 k = min (D - i) (kws n F H D (kfl S0) i k)) ∧ kmc 63 n F H (D - i) (kws n F H D (kfl S0) i) < 63 ∧ ∀ j, i = j + 1 → x.2 = klc n F H (D - j - 1) (kws n F H D (kfl S0) j)) (W + 1) ?_ ?_ (kpk (fun i => min D (kfl S0 i)) n, 0) m1 ⟨hS0, hf0, ⟨kpk_lt hw0 n, hp1⟩, fun k hk => kfl_pk hw0 n k hk, hkv2, fun j hj => absurd hj (by omega)⟩
  · exact key
  · rintro i hi ⟨S, C⟩ M ⟨hS1, hf, ⟨x1, x2⟩, hfl, hlt, -⟩ IH
    obtain ⟨hK1, f1, f2, f3, hT1⟩ := id hS1
    obtain ⟨E, hE⟩ : ∃ E, D - i = E + 1 := ⟨D - i - 1, by omega⟩
    have eE : (D : Int) - (i : Int) - 1 = (E : Int) := by omega
    have x1 : S < 8 ^ n := x1
    have hfl : ∀ k, k < n → kfl S k = min (E + 1) (kws n F H D (kfl S0) i k) := by rw [← hE]; exact hfl
    rw [hE] at hlt
    have hcp : ∀ k, k < n → min (E + 1) (kws n F H D (kfl S0) i k) = min (E + 1) (kfl S k) := fun k hk => by rw [hfl k hk]; omega
    have hmc := kmc_cap (c := 63) (F := F) (H := H) hn (show E + 1 ≤ 8 by omega) (by decide) hcp
    have hlc := klc_cap (F := F) (H := H) hn (show E + 1 ≤ 8 by omega) hcp hlt
    obtain ⟨z1, z2, z3⟩ := klc_ok hn (show E + 1 ≤ 8 by omega) hlt
    have hwn : kws n F H D (kfl S0) (i + 1) = ktp F (klc n F H E (kws n F H D (kfl S0) i)) (kws n F H D (kfl S0) i) := by
      show ktp F (klc n F H (D - i - 1) (kws n F H D (kfl S0) i)) (kws n F H D (kfl S0) i) = _
      rw [show D - i - 1 = E by omega]
    have hb1 := kpk_lt (w := ktp F (klc n F H E (kws n F H D (kfl S0) i)) (kfl S)) (ktp_lt hF) n
    refine u_125_35 ?_
    rw [eE, hE, Int.toNat_natCast, f1, f2, f3, am_s_id (z := (W : Int)) (by omega) (by omega), am_s_id (z := (i : Int)) (by omega) (by omega)]
    simp only [Int.toNat_natCast]
    rw [← hlc]
    refine ⟨fun q => by omega, fun _ => ⟨⟨hS1, ⟨by omega, x1⟩, ⟨by omega, by omega⟩, hmc, hlt⟩, ?_⟩⟩
    rintro m2 ⟨hS2, hf2⟩
    obtain ⟨hK2, g1, g2, g3, hT2⟩ := id hS2
    refine ⟨⟨by omega, by omega⟩, ⟨hK2, ⟨by omega, by omega⟩, by omega, by omega⟩, ?_⟩
    intro mx3 hmx3
    obtain rfl := hmx3.symm
    rw [g1, g2]
    refine ⟨⟨hK2, ⟨by omega, hb1⟩, by omega, by omega⟩, ?_⟩
    intro mx4 hmx4
    obtain rfl := hmx4.symm
    have hz : kmc 63 n F H (E + 1) (kws n F H D (kfl S0) i) - ((cnt (klc n F H E (kws n F H D (kfl S0) i)) 12 : Nat) : Int) = kmc 63 n F H (D - (i + 1)) (kws n F H D (kfl S0) (i + 1)) := by
      rw [hwn, show D - (i + 1) = E by omega]
      have := z2.2.2
      omega
    rw [hz]
    refine IH (knx n F S (klc n F H E (kws n F H D (kfl S0) i)) E, klc n F H E (kws n F H D (kfl S0) i)) _ ⟨hS2, fun a ha => by rw [hf2 a ha, hf a ha], ⟨knx_lt, z1⟩, fun k hk => ?_, by rw [← hz]; omega, fun j hj => ?_⟩
    · show kfl (knx n F S (klc n F H E (kws n F H D (kfl S0) i)) E) k = _
      rw [knx_fl hF hk, hwn, show D - (i + 1) = E by omega]
      unfold ktp
      have := hfl k hk
      split
      · rfl
      · omega
    · show klc n F H E (kws n F H D (kfl S0) i) = _
      rw [show j = i by omega, show D - i - 1 = E by omega]
  · rintro ⟨S, C⟩ M ⟨hS1, hf, ⟨x1, x2⟩, hfl, hlt, hC⟩
    have hC := hC W rfl
    have x2 : C < 2 ^ n := x2
    have hC : C = klc n F H (D - W - 1) (kws n F H D (kfl S0) W) := hC
    have e44' : M 44 = m 44 := hf 44 (by decide)
    refine u_125_35 ?_
    rw [am_s_id (z := (W : Int)) (by omega) (by omega), am_s_id (z := ((W + 1 : Nat) : Int)) (by omega) (by omega), e44', hS1.2.1]
    refine ⟨fun _ => ⟨⟨hS1.1, ⟨by omega, by omega⟩, hsp⟩, ?_⟩, fun q => by omega⟩
    intro mx2 hmx2
    rw [hmx2, Int.toNat_natCast, hC]
    exact ⟨rfl, hf⟩
