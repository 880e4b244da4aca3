theorem kpt {g : Nat → Int} {m : am_M} {D W : Nat} (hM : MFW g m) (hg : nv (m 54) = g) (hD : D ≤ 8) (hW : W < D) (ha : ∀ j, j < SN g → 0 ≤ m 65 j ∧ m 65 j ≤ 99) (hT : ∀ e, e < D → KTF g m e) (hk : kmc 99 (SN g) (kf0 g) (g 4).toNat D (kwa g (m 65)) < 99) : ok 4 229 93 [some (.inr (.inr (some 53))), some (.inl (D : Int)), some (.inl ((W : Int) + 10)), some (.inl (kmc 99 (SN g) (kf0 g) (g 4).toNat D (kwa g (m 65)))), some (.inl 0), none] [] m (fun rr m' => rr = [.inl ((kpl (m 63) (klc (SN g) (kf0 g) (g 4).toNat (D - W - 1) (kws (SN g) (kf0 g) (g 4).toNat D (kwa g (m 65)) W)) (SN g) : Nat) : Int)] ∧ ∀ a, a ≠ 65 → m' a = m a) := by
  obtain ⟨h5, h27, hsp, hL, h4, hwn⟩ := id hM
  have w5 := hwn.2.2.2.2.2.2.2.2.1
  have h32 : 2 ^ SN g ≤ 32 := Nat.le_trans (Nat.pow_le_pow_right (by decide) h5) (by decide)
  have h7 : 7 ^ SN g ≤ 16807 := Nat.le_trans (Nat.pow_le_pow_right (by decide) h5) (by decide)
  generalize hw0 : kwa g (m 65) = w0 at *
  have body : ∀ (i : Nat) (M : am_M), i ≤ W → (∀ j, j < SN g → 0 ≤ M 65 j ∧ M 65 j ≤ 99) → (∀ j, j < SN g → kwa g (M 65) j = kws (SN g) (kf0 g) (g 4).toNat D w0 i j) → (∀ a, a ≠ 65 → M a = m a) → kmc 99 (SN g) (kf0 g) (g 4).toNat (D - i) (kws (SN g) (kf0 g) (g 4).toNat D w0 i) < 99 → (i < W → ∀ M' : am_M, ((∀ j, j < SN g → 0 ≤ M' 65 j ∧ M' 65 j ≤ 99) ∧ (∀ j, j < SN g → kwa g (M' 65) j = kws (SN g) (kf0 g) (g 4).toNat D w0 (i + 1) j) ∧ (∀ a, a ≠ 65 → M' a = m a) ∧ kmc 99 (SN g) (kf0 g) (g 4).toNat (D - (i + 1)) (kws (SN g) (kf0 g) (g 4).toNat D w0 (i + 1)) < 99) → ok 4 229 93 [some (.inr (.inr (some 53))), some (.inl (D : Int)), some (.inl ((W : Int) + 10)), some (.inl (kmc 99 (SN g) (kf0 g) (g 4).toNat (D - (i + 1)) (kws (SN g) (kf0 g) (g 4).toNat D w0 (i + 1)))), some (.inl ((i : Int) + 1)), none] [] M' (fun rr m' => rr = [.inl ((kpl (m 63) (klc (SN g) (kf0 g) (g 4).toNat (D - W - 1) (kws (SN g) (kf0 g) (g 4).toNat D w0 W)) (SN g) : Nat) : Int)] ∧ ∀ a, a ≠ 65 → m' a = m a)) → ok 4 229 93 [some (.inr (.inr (some 53))), some (.inl (D : Int)), some (.inl ((W : Int) + 10)), some (.inl (kmc 99 (SN g) (kf0 g) (g 4).toNat (D - i) (kws (SN g) (kf0 g) (g 4).toNat D w0 i))), some (.inl (i : Int)), none] [] M (fun rr m' => rr = [.inl ((kpl (m 63) (klc (SN g) (kf0 g) (g 4).toNat (D - W - 1) (kws (SN g) (kf0 g) (g 4).toNat D w0 W)) (SN g) : Nat) : Int)] ∧ ∀ a, a ≠ 65 → m' a = m a) := by
    intro i M hi hr hws hf hlt IH
    obtain ⟨E, hE⟩ : ∃ E, D - i = E + 1 := ⟨D - i - 1, by omega⟩
    have eE : (D : Int) - (i : Int) = ((E + 1 : Nat) : Int) := by omega
    have fg : nv (M 54) = g := by rw [hf 54 (by decide)]; exact hg
    have fm : MFW g M := MFW_fr hM (by rw [hf 53 (by decide)]) (hf 63 (by decide)) (hf 64 (by decide)) (hf 54 (by decide))
    have hcm : kmc 99 (SN g) (kf0 g) (g 4).toNat (E + 1) (kwa g (M 65)) = kmc 99 (SN g) (kf0 g) (g 4).toNat (E + 1) (kws (SN g) (kf0 g) (g 4).toNat D w0 i) := kmc_cg (fun _ _ => rfl) hws
    have hcl : klc (SN g) (kf0 g) (g 4).toNat E (kwa g (M 65)) = klc (SN g) (kf0 g) (g 4).toNat E (kws (SN g) (kf0 g) (g 4).toNat D w0 i) := klc_cg (fun _ _ => rfl) hws
    rw [hE] at hlt
    have hcv := kmc_cv (n := SN g) (F := kf0 g) (H := (g 4).toNat) (d := E + 1) (w := kws (SN g) (kf0 g) (g 4).toNat D w0 i)
    obtain ⟨z1, z2, z3⟩ := klc_ok (n := SN g) (F := kf0 g) (H := (g 4).toNat) (D := E) (w := kws (SN g) (kf0 g) (g 4).toNat D w0 i) h5 (by omega) (by omega)
    have z4 := ((KOP9 hlt).mp z2).2.2
    have hwn1 : kws (SN g) (kf0 g) (g 4).toNat D w0 (i + 1) = ktp (kf0 g) (klc (SN g) (kf0 g) (g 4).toNat E (kws (SN g) (kf0 g) (g 4).toNat D w0 i)) (kws (SN g) (kf0 g) (g 4).toNat D w0 i) := by
      show ktp (kf0 g) (klc (SN g) (kf0 g) (g 4).toNat (D - i - 1) (kws (SN g) (kf0 g) (g 4).toNat D w0 i)) (kws (SN g) (kf0 g) (g 4).toNat D w0 i) = _
      rw [show D - i - 1 = E by omega]
    have hr0 := kmc_rng (c := 99) (F := kf0 g) (H := (g 4).toNat) (d := E) (w := ktp (kf0 g) (klc (SN g) (kf0 g) (g 4).toNat E (kws (SN g) (kf0 g) (g 4).toNat D w0 i)) (kws (SN g) (kf0 g) (g 4).toNat D w0 i)) h5 (by omega) (by decide)
    rw [hwn1, show D - (i + 1) = E by omega] at IH
    refine u_229_93 ?_
    rw [eE, Int.toNat_natCast, show E + 1 - 1 = E by omega, fg, hcm, hcl, hE]
    have hzW : i = W → klc (SN g) (kf0 g) (g 4).toNat E (kws (SN g) (kf0 g) (g 4).toNat D w0 i) = klc (SN g) (kf0 g) (g 4).toNat (D - W - 1) (kws (SN g) (kf0 g) (g 4).toNat D w0 W) := fun h => by rw [h] at hE ⊢; rw [show D - W - 1 = E by omega]
    generalize klc (SN g) (kf0 g) (g 4).toNat E (kws (SN g) (kf0 g) (g 4).toNat D w0 i) = z at *
    refine ⟨⟨fm, by omega, hr, fun a q => ?_, rfl, hlt⟩, ?_⟩
    · rw [hf 66 (by decide)]
      exact hT E (by omega) a q
    intro mx hmx
    rw [hmx, fg, am_s_id (z := (i : Int)) (by omega) (by omega), am_s_id (z := (W : Int) + 10 - 10) (by omega) (by omega), am_s_id (z := (z : Int)) (by omega) (by omega), Int.toNat_natCast]
    refine ⟨fun q => ⟨⟨by omega, by omega⟩, ⟨fm, ⟨by omega, by omega⟩, hr⟩, ?_⟩, fun q => ⟨⟨fm, by omega, by omega⟩, ?_⟩⟩
    · rintro v2 m2 ⟨hm2, hv⟩
      have hgo : kgo (SN g) (kwa g (M 65)) z := kgo_cg (fun j hj => (hws j hj).symm) z2.2.1
      have hv2 : v2 = ks7 (kan g z (M 65)) (SN g) := by
        rcases hv with y | y
        · exact y.2
        · exact absurd hgo y.1
      have hk6 := kan_6 hwn hr hgo
      have hk7 := ks7_rng _ hk6
      obtain ⟨d1, d2⟩ := ks7_dec hk6
      rw [← hv2] at hk7 d1 d2
      rw [hm2, hf 53 (by decide), h27, Int.toNat_natCast]
      refine ⟨⟨by omega, by omega, by omega⟩, ?_⟩
      rintro m3 ⟨n1, n2⟩
      have n3 : ∀ j, j < SN g → m3 65 j = kan g z (M 65) j := fun j hj => by rw [n1 j hj]; exact d2 j hj
      have et : kmc 99 (SN g) (kf0 g) (g 4).toNat (E + 1) (kws (SN g) (kf0 g) (g 4).toNat D w0 i) - ((cnt z 12 : Nat) : Int) = kmc 99 (SN g) (kf0 g) (g 4).toNat E (ktp (kf0 g) z (kws (SN g) (kf0 g) (g 4).toNat D w0 i)) := by omega
      rw [et]
      refine IH (by omega) m3 ⟨fun j hj => ?_, fun j hj => ?_, fun a q1 => by rw [n2 a q1]; exact hf a q1, by omega⟩
      · have := hk6 j hj
        rw [n3 j hj]
        omega
      · have e1 : kwa g (m3 65) j = kwa g (kan g z (M 65)) j := by unfold kwa; rw [n3 j hj]
        rw [e1, kan_w (hr j hj).1 (by omega)]
        exact ktp_cg (fun _ _ => rfl) hws z j hj
    · intro mx2 hmx2
      rw [hmx2, hf 63 (by decide), hzW (by omega)]
      exact ⟨rfl, hf⟩
  have key := ok_for (d := 4) (mi := 229) (pc := 93) (Q := fun rr m' => rr = [.inl ((kpl (m 63) (klc (SN g) (kf0 g) (g 4).toNat (D - W - 1) (kws (SN g) (kf0 g) (g 4).toNat D w0 W)) (SN g) : Nat) : Int)] ∧ ∀ a, a ≠ 65 → m' a = m a) (σ := Unit) (fun i _ => [some (.inr (.inr (some 53))), some (.inl (D : Int)), some (.inl ((W : Int) + 10)), some (.inl (kmc 99 (SN g) (kf0 g) (g 4).toNat (D - i) (kws (SN g) (kf0 g) (g 4).toNat D w0 i))), some (.inl (i : Int)), none]) (fun i _ M => (∀ j, j < SN g → 0 ≤ M 65 j ∧ M 65 j ≤ 99) ∧ (∀ j, j < SN g → kwa g (M 65) j = kws (SN g) (kf0 g) (g 4).toNat D w0 i j) ∧ (∀ a, a ≠ 65 → M a = m a) ∧ kmc 99 (SN g) (kf0 g) (g 4).toNat (D - i) (kws (SN g) (kf0 g) (g 4).toNat D w0 i) < 99) W ?_ ?_ () m ⟨ha, fun j _ => by rw [hw0]; rfl, fun _ _ => rfl, hk⟩
  · exact key
  · rintro i hi - M ⟨q1, q2, q3, q4⟩ IH
    exact body i M (by omega) q1 q2 q3 q4 fun _ M' h => IH () M' h
  · rintro - M ⟨q1, q2, q3, q4⟩
    exact body W M (Nat.le_refl _) q1 q2 q3 q4 fun h => absurd h (Nat.lt_irrefl _)
