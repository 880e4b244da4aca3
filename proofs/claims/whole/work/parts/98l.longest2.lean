def TA (g : Nat → Int) (tb : Nat → Int) (k S : Nat) : Prop := ∀ st, st < S → (tb st = 0 ∨ tb st = 1) ∧ (tb st = 1 ↔ KA (SN g) (kf0 g) (min (g 4).toNat (SN g)) k (kwa g (dg7 st)))
theorem CG_K {g : Nat → Int} {f : Int} {m : am_M} {k : Nat} (hg : WFG g) (ha : ∀ j, j < SN g → 0 ≤ m 65 j ∧ m 65 j ≤ 99) (hf : (f = 1 ∧ k = 0) ∨ (f = 0 ∧ TA g (m 68) k (7 ^ SN g))) : CG g f m ↔ KA (SN g) (kf0 g) (min (g 4).toNat (SN g)) (k + 1) (kwa g (m 65)) := by
  have key : ∀ s, kgo (SN g) (kwa g (m 65)) s → ((¬ f = 0 ∨ ¬ m 68 (ks7 (kan g s (m 65)) (SN g)).toNat = 0) ↔ KA (SN g) (kf0 g) (min (g 4).toNat (SN g)) k (ktp (kf0 g) s (kwa g (m 65)))) := by
    intro s hs
    rcases hf with ⟨h1, h2⟩ | ⟨h1, h2⟩
    · rw [h2, h1]
      exact ⟨fun _ => trivial, fun _ => Or.inl (by decide)⟩
    · have hk6 := kan_6 hg ha hs
      obtain ⟨d1, d2⟩ := ks7_dec hk6
      obtain ⟨t1, t2⟩ := h2 _ d1
      have w5 := hg.2.2.2.2.2.2.2.2.1
      have hcg : ∀ i, i < SN g → kwa g (dg7 (ks7 (kan g s (m 65)) (SN g)).toNat) i = ktp (kf0 g) s (kwa g (m 65)) i := fun i hi => by
        rw [← kan_w (ha i hi).1 (by omega)]
        unfold kwa
        rw [d2 i hi]
      constructor
      · intro hx
        have hx1 : m 68 (ks7 (kan g s (m 65)) (SN g)).toNat = 1 := by
          rcases hx with hx | hx
          · exact absurd h1 hx
          · rcases t1 with t1 | t1
            · exact absurd t1 hx
            · exact t1
        exact KA_congr k _ _ hcg (t2.mp hx1)
      · intro hx
        refine Or.inr ?_
        rw [t2.mpr (KA_congr k _ _ (fun i hi => (hcg i hi).symm) hx)]
        decide
  unfold CG
  constructor
  · rintro ⟨s, a1, a2, a3, a4⟩
    exact ⟨s, a1, a2, a3, (key s a3).mp a4⟩
  · rintro ⟨s, a1, a2, a3, a4⟩
    exact ⟨s, a1, a2, a3, (key s a3).mpr a4⟩
theorem kwa_6 {g a : Nat → Int} {j : Nat} (hg : g 5 ≤ 6) (ha : 0 ≤ a j) : kwa g (fun i => min 6 (a i)) j = kwa g a j := by
  unfold kwa
  show (g 5 - min 6 (a j)).toNat / _ = _
  by_cases h : a j ≤ 6
  · rw [show min 6 (a j) = a j by omega]
  · rw [show (g 5 - min 6 (a j)).toNat = 0 by omega, show (g 5 - a j).toNat = 0 by omega]
theorem KLR_fun {n : Nat} {F : Nat → Nat} {H : Nat} {w : Nat → Nat} {v v' : Int} (h : KLR n F H w 0 v) (h' : KLR n F H w 0 v') : v = v' := by
  obtain ⟨K, a1, a2, a3, a4⟩ := h
  obtain ⟨K', b1, b2, b3, b4⟩ := h'
  have e : K = K' := by
    by_cases h1 : K < K'
    · exfalso
      rcases a4 with a4 | a4
      · exact a4 (KA_mono (by omega) b3)
      · omega
    · by_cases h2 : K' < K
      · exfalso
        rcases b4 with b4 | b4
        · exact b4 (KA_mono (by omega) a3)
        · omega
      · omega
  rw [a1, b1, e]
/-- once no state lasts a day longer, the rest of days follows -/
theorem KA_tab {g : Nat → Int} {tb : Nat → Int} {D : Nat} (hg : WFG g) (h1 : TA g tb D (7 ^ SN g)) (h2 : TA g tb (D + 1) (7 ^ SN g)) (h0 : ∀ j, 0 ≤ g (44 + ksp g j)) (j : Nat) (hk : KA (SN g) (kf0 g) (min (g 4).toNat (SN g)) D (kw0 g)) : KA (SN g) (kf0 g) (min (g 4).toNat (SN g)) (D + j) (kw0 g) := by
  have w5 := hg.2.2.2.2.2.2.2.2.1
  refine KA_fix (V := fun w => ∃ a : Nat → Int, (∀ j, j < SN g → 0 ≤ a j ∧ a j ≤ 6) ∧ ∀ j, j < SN g → w j = kwa g a j) ?_ ?_ j (kw0 g) ⟨fun i => min 6 (g (44 + ksp g i)), fun i _ => ?_, fun i _ => ?_⟩ hk
  · rintro w s ⟨a, a1, a2⟩
    refine ⟨fun i => min 6 (kan g s a i), fun i hi => ?_, fun i hi => ?_⟩
    · have := a1 i hi
      have hp := kpa_12 (g := g) (p := ksp g i)
      show 0 ≤ min 6 (kan g s a i) ∧ min 6 (kan g s a i) ≤ 6
      unfold kan
      split <;> omega
    · have := a1 i hi
      have hp := kpa_12 (g := g) (p := ksp g i)
      rw [kwa_6 (by omega) (by unfold kan; split <;> omega), kan_w this.1 (by omega)]
      unfold ktp
      rw [a2 i hi]
  · rintro w ⟨a, a1, a2⟩ hx
    obtain ⟨d1, d2⟩ := ks7_dec a1
    have hcg : ∀ i, i < SN g → kwa g (dg7 (ks7 a (SN g)).toNat) i = w i := fun i hi => by
      rw [a2 i hi]
      unfold kwa
      rw [d2 i hi]
    have hy := (h1 _ d1).2.mpr (KA_congr D _ _ (fun i hi => (hcg i hi).symm) hx)
    exact KA_congr (D + 1) _ _ hcg ((h2 _ d1).2.mp hy)
  · have := h0 i
    show 0 ≤ min 6 (g (44 + ksp g i)) ∧ min 6 (g (44 + ksp g i)) ≤ 6
    omega
  · exact (kwa_6 (a := fun i => g (44 + ksp g i)) (by omega) (h0 i)).symm
theorem lng {g : Nat → Int} {m : am_M} (hM : MFW g m) (hgv : nv (m 54) = g) (hwf : WFG (m 54)) : ok 3 239 22 [some (.inr (.inr (some 53))), some (.inl ((7 ^ SN g : Nat) : Int)), some (.inl ((0 : Nat) : Int)), none, none] [] m (fun rr m' => ∃ v : Int, rr = [.inl v] ∧ KLR (SN g) (kf0 g) (min (g 4).toNat (SN g)) (kw0 g) 0 v ∧ ∀ a, a ≠ 65 → a ≠ 67 → a ≠ 68 → m' a = m a) := by
  obtain ⟨h5, h27, hsp, hL, h4, hwn⟩ := id hM
  have h7 : 7 ^ SN g ≤ 16807 := Nat.le_trans (Nat.pow_le_pow_right (by decide) h5) (by decide)
  have hp7 : 0 < 7 ^ SN g := Nat.pow_pos (by decide)
  have hidl : ∀ j, 0 ≤ g (44 + ksp g j) := fun j => (hwn.2.2.2.2.1 (ksp g j) (ksp_12 hwn j)).1
  have hidl2 : ∀ j, g (44 + ksp g j) ≤ 99 := fun j => (hwn.2.2.2.2.1 (ksp g j) (ksp_12 hwn j)).2
  have hfr : ∀ {mf : am_M}, (∀ a, a ≠ 65 → a ≠ 67 → a ≠ 68 → mf a = m a) → MFW g mf ∧ nv (mf 54) = g ∧ WFG (mf 54) := by
    intro mf h
    have e54 := h 54 (by decide) (by decide) (by decide)
    exact ⟨MFW_fr hM (by rw [h 53 (by decide) (by decide) (by decide)]) (h 63 (by decide) (by decide) (by decide)) (h 64 (by decide) (by decide) (by decide)) e54, by rw [e54]; exact hgv, by rw [e54]; exact hwf⟩
  have hn27 : ∀ {mf : am_M}, (∀ a, a ≠ 65 → a ≠ 67 → a ≠ 68 → mf a = m a) → mf 53 27 = ((SN g : Nat) : Int) := by
    intro mf h
    rw [h 53 (by decide) (by decide) (by decide), h27]
  generalize hS : 7 ^ SN g = S at *
  refine ok_for (σ := Unit) (fun D _ => [some (.inr (.inr (some 53))), some (.inl (S : Int)), some (.inl (D : Int)), none, none]) (fun D _ M => (D = 0 ∨ TA g (M 68) D S) ∧ KA (SN g) (kf0 g) (min (g 4).toNat (SN g)) D (kw0 g) ∧ ∀ a, a ≠ 65 → a ≠ 67 → a ≠ 68 → M a = m a) 30 ?_ ?_ () m ⟨Or.inl rfl, trivial, fun _ _ _ _ => rfl⟩
  · rintro D hD - M ⟨i1, i2, i3⟩ IH
    obtain ⟨fM, fg, fw⟩ := hfr i3
    obtain ⟨f, hf, hf2⟩ : ∃ f : Int, (if ¬ am_s (D : Int) = 0 then (0 : Int) else 1) = f ∧ ((f = 1 ∧ D = 0) ∨ (f = 0 ∧ TA g (M 68) D S)) := by
      rw [am_s_id (z := (D : Int)) (by omega) (by omega)]
      by_cases hD0 : D = 0
      · rw [if_neg (fun zz => zz (by omega))]
        exact ⟨1, rfl, Or.inl ⟨rfl, hD0⟩⟩
      · rw [if_pos (by omega)]
        refine ⟨0, rfl, Or.inr ⟨rfl, ?_⟩⟩
        rcases i1 with i1 | i1
        · exact absurd i1 hD0
        · exact i1
    have hCGP : ∀ {mf : am_M}, mf 54 = M 54 → mf 68 = M 68 → CGP f mf := by
      intro mf e54 e68
      refine ⟨by omega, fun h0 st hst => ?_⟩
      rw [e54, fg, hS] at hst
      rw [e68]
      rcases hf2 with h | h
      · omega
      · exact (h.2 st hst).1
    refine u_239_22 ?_
    rw [hf, am_s_id (z := (D : Int)) (by omega) (by omega), fg]
    refine ⟨fun q => by omega, fun _ => ⟨⟨fM, fw⟩, ?_⟩⟩
    rintro ma ⟨a1, a2⟩
    have ra : ∀ a, a ≠ 65 → a ≠ 67 → a ≠ 68 → ma a = m a := fun a q1 q2 q3 => by rw [a2 a q1]; exact i3 a q1 q2 q3
    obtain ⟨aM, ag, aw⟩ := hfr ra
    have a65 : ∀ j, j < SN g → 0 ≤ ma 65 j ∧ ma 65 j ≤ 99 := fun j hj => by
      rw [a1 j hj]
      exact ⟨hidl j, hidl2 j⟩
    rw [ag]
    refine ⟨⟨aM, a65, hCGP (a2 54 (by decide)) (a2 68 (by decide))⟩, ?_⟩
    rintro v2 mb ⟨hmb, hv, hiff⟩
    rw [hmb]
    have hcw : ∀ i, i < SN g → kwa g (ma 65) i = kw0 g i := fun i hi => by
      rw [kw0_wa]
      unfold kwa
      rw [a1 i hi]
    have hiff2 : v2 = 1 ↔ KA (SN g) (kf0 g) (min (g 4).toNat (SN g)) (D + 1) (kw0 g) := by
      rw [hiff, CG_K (k := D) hwn a65 (by rw [a2 68 (by decide), hS]; exact hf2)]
      exact ⟨KA_congr (D + 1) _ _ hcw, KA_congr (D + 1) _ _ fun i hi => (hcw i hi).symm⟩
    refine ⟨fun q => ?_, fun q => ⟨_, rfl, ⟨D, rfl, by omega, i2, Or.inl fun zz => ?_⟩, ra⟩⟩
    · have hv1 : v2 = 1 := by
        rcases hv with hv | hv
        · rw [hv] at q; exact absurd (by decide) q
        · exact hv
      have hK1 := hiff2.mp hv1
      clear hiff hiff2 hv q hmb
      refine ok_for (σ := Unit) (fun s _ => [some (.inr (.inr (some 53))), some (.inl (S : Int)), some (.inl (D : Int)), some (.inl (s : Int)), none]) (fun s _ Mx => TA g (Mx 67) (D + 1) s ∧ ∀ a, a ≠ 65 → a ≠ 67 → Mx a = M a) S ?_ ?_ () ma ⟨fun st h => absurd h (Nat.not_lt_zero _), fun a q1 _ => a2 a q1⟩
      · rintro s hs - Mx ⟨j1, j2⟩ IH2
        have rx : ∀ a, a ≠ 65 → a ≠ 67 → a ≠ 68 → Mx a = m a := fun a q1 q2 q3 => by rw [j2 a q1 q2]; exact i3 a q1 q2 q3
        refine u_239_52 ?_
        rw [hf, am_s_id (z := (S : Int)) (by omega) (by omega), am_s_id (z := (s : Int)) (by omega) (by omega), hn27 rx, Int.toNat_natCast]
        refine ⟨fun q => by omega, fun _ => ⟨⟨by omega, by omega, by omega⟩, ?_⟩⟩
        rintro mc ⟨c1, c2⟩
        have rc : ∀ a, a ≠ 65 → a ≠ 67 → a ≠ 68 → mc a = m a := fun a q1 q2 q3 => by rw [c2 a q1]; exact rx a q1 q2 q3
        obtain ⟨cM, cg, cw⟩ := hfr rc
        have c68 : mc 68 = M 68 := by rw [c2 68 (by decide), j2 68 (by decide) (by decide)]
        have c65 : ∀ j, j < SN g → 0 ≤ mc 65 j ∧ mc 65 j ≤ 99 := fun j hj => by
          have := dg7_rng (st := s) (j := j)
          rw [c1 j hj]
          unfold dg7 at this
          omega
        rw [cg]
        refine ⟨⟨cM, c65, hCGP (by rw [c2 54 (by decide), j2 54 (by decide) (by decide)]) c68⟩, ?_⟩
        rintro v3 md ⟨hmd, hw, hif⟩
        rw [hmd]
        have hcx : ∀ i, i < SN g → kwa g (mc 65) i = kwa g (dg7 s) i := fun i hi => by
          unfold kwa
          rw [c1 i hi]
          rfl
        have hif2 : v3 = 1 ↔ KA (SN g) (kf0 g) (min (g 4).toNat (SN g)) (D + 1) (kwa g (dg7 s)) := by
          rw [hif, CG_K (k := D) hwn c65 (by rw [c68, hS]; exact hf2)]
          exact ⟨KA_congr (D + 1) _ _ hcx, KA_congr (D + 1) _ _ fun i hi => (hcx i hi).symm⟩
        have hb1 : am_b1 v3 = v3 := by
          rcases hw with hw | hw <;> rw [hw] <;> decide
        rw [hb1]
        refine ⟨⟨by omega, by omega⟩, IH2 () _ ⟨fun st hst => ?_, fun a q1 q2 => by rw [mu_rf q2, c2 a q1]; exact j2 a q1 q2⟩⟩
        rw [Int.toNat_natCast, mu_if]
        by_cases hh : st = s
        · rw [if_pos hh, hh]
          exact ⟨hw, hif2⟩
        · rw [if_neg hh, c2 67 (by decide)]
          exact j1 st (by omega)
      · rintro - Mx ⟨j1, j2⟩
        refine u_239_52 ?_
        rw [am_s_id (z := (S : Int)) (by omega) (by omega), am_s_id (z := (D : Int)) (by omega) (by omega)]
        refine ⟨fun _ => ?_, fun q => by omega⟩
        have hx68 : Mx 68 = M 68 := j2 68 (by decide) (by decide)
        obtain ⟨e0, he0, he1⟩ : ∃ e0 : Int, (if (D : Int) ≤ 0 then (0 : Int) else 1) = e0 ∧ ((e0 = 0 ∨ e0 = 1) ∧ (e0 = 1 → ¬ D = 0)) := by
          by_cases hD0 : (D : Int) ≤ 0
          · rw [if_pos hD0]; exact ⟨0, rfl, Or.inl rfl, fun zz => absurd zz (by decide)⟩
          · rw [if_neg hD0]; exact ⟨1, rfl, Or.inr rfl, fun _ => by omega⟩
        rw [he0]
        refine ok_for (σ := Int) (fun s e => [some (.inr (.inr (some 53))), some (.inl (S : Int)), some (.inl (D : Int)), some (.inl e), some (.inl (s : Int))]) (fun s e My => (e = 0 ∨ e = 1) ∧ (e = 1 → ¬ D = 0 ∧ ∀ st, st < s → Mx 67 st = M 68 st) ∧ (∀ st, st < s → My 68 st = Mx 67 st) ∧ (∀ st, s ≤ st → My 68 st = M 68 st) ∧ ∀ a, a ≠ 68 → My a = Mx a) S ?_ ?_ e0 Mx ⟨he1.1, fun zz => ⟨he1.2 zz, fun st h => absurd h (Nat.not_lt_zero _)⟩, fun st h => absurd h (Nat.not_lt_zero _), fun st _ => by rw [hx68], fun _ _ => rfl⟩
        · rintro s hs e My ⟨k1, k2, k3, k4, k5⟩ IH3
          have hy67 : My 67 = Mx 67 := k5 67 (by decide)
          have t1 := (j1 s hs).1
          have hb1 : am_b1 (Mx 67 s) = Mx 67 s := by
            rcases t1 with hw | hw <;> rw [hw] <;> decide
          refine u_239_100 ?_
          rw [am_s_id (z := (S : Int)) (by omega) (by omega), am_s_id (z := (s : Int)) (by omega) (by omega), Int.toNat_natCast, hy67, hb1, am_s_id (z := e) (by omega) (by omega), am_s_id (z := Mx 67 s) (by omega) (by omega), k4 s (Nat.le_refl _)]
          refine ⟨fun q => by omega, fun _ => ⟨fun _ => ⟨by omega, by omega⟩, fun y hy => ⟨⟨by omega, by omega⟩, IH3 y _ ⟨?_, fun hy1 => ?_, fun st hst => ?_, fun st hst => ?_, fun a ha => by rw [mu_rf ha]; exact k5 a ha⟩⟩⟩⟩
          · rw [hy]
            split
            · exact Or.inl rfl
            · split
              · exact Or.inl rfl
              · exact Or.inr rfl
          · have hee : e = 1 := by
              rcases k1 with h | h
              · rw [hy, if_pos h] at hy1; exact absurd hy1 (by decide)
              · exact h
            obtain ⟨l1, l2⟩ := k2 hee
            have h68 : M 68 s = 0 ∨ M 68 s = 1 := by
              rcases i1 with h | h
              · exact absurd h l1
              · exact (h s hs).1
            rw [am_s_id (z := M 68 s) (by omega) (by omega), if_neg (by omega)] at hy
            refine ⟨l1, fun st hst => ?_⟩
            by_cases hh : st = s
            · rw [hh]
              by_cases hc : Mx 67 s = M 68 s
              · exact hc
              · rw [if_pos hc] at hy
                omega
            · exact l2 st (by omega)
          · rw [mu_if]
            by_cases hh : st = s
            · rw [if_pos hh, hh]
            · rw [if_neg hh]; exact k3 st (by omega)
          · rw [mu_if, if_neg (by omega)]
            exact k4 st (by omega)
        · rintro e My ⟨k1, k2, k3, k4, k5⟩
          have ry : ∀ a, a ≠ 65 → a ≠ 67 → a ≠ 68 → My a = m a := fun a q1 q2 q3 => by rw [k5 a q3, j2 a q1 q2]; exact i3 a q1 q2 q3
          refine u_239_100 ?_
          rw [am_s_id (z := (S : Int)) (by omega) (by omega), am_s_id (z := e) (by omega) (by omega)]
          refine ⟨fun _ => ⟨fun q => IH () My ⟨Or.inr fun st hst => ?_, hK1, ry⟩, fun q => ?_⟩, fun q => by omega⟩
          · rw [k3 st hst]
            exact j1 st hst
          · obtain ⟨l1, l2⟩ := k2 (by omega)
            have hTD : TA g (M 68) D S := by
              rcases i1 with h | h
              · exact absurd h l1
              · exact h
            have hT2 : TA g (M 68) (D + 1) S := fun st hst => by
              rw [← l2 st hst]
              exact j1 st hst
            have hfin := KA_tab (tb := M 68) (D := D) hwn (by rw [hS]; exact hTD) (by rw [hS]; exact hT2) hidl (30 - D) i2
            rw [show D + (30 - D) = 30 by omega] at hfin
            exact ⟨_, rfl, ⟨30, rfl, by decide, hfin, Or.inr (by decide)⟩, ry⟩
    · have hv0 : ¬ v2 = 1 := fun h => by rw [h] at q; exact absurd q (by decide)
      exact hv0 (hiff2.mpr zz)
  · rintro - M ⟨i1, i2, i3⟩
    refine u_239_22 ?_
    rw [show am_s ((30 : Nat) : Int) = 30 by decide]
    exact ⟨fun _ => ⟨_, rfl, ⟨30, rfl, by decide, i2, Or.inr (by decide)⟩, i3⟩, fun q => absurd (by decide) q⟩
theorem P_longest {m : am_M} (hI : Inv m) : PK 128 1 239 5 [] m := by
  have hv := Inv_vw hI
  have hwf := Inv_wf hI
  have hnv := Inv_nv hI
  refine PK_mk (h1 := 35) (h2 := 3) (Q1 := fun r mc => ∃ v : Int, r = [.inl v] ∧ ((¬ SN (nv (m 54)) ≤ 5 ∧ v = -4) ∨ (SN (nv (m 54)) ≤ 5 ∧ KLR (SN (nv (m 54))) (kf0 (nv (m 54))) (min (nv (m 54) 4).toNat (SN (nv (m 54)))) (kw0 (nv (m 54))) 0 v)) ∧ kpC m mc) ?_ (by decide) (by decide) ?_
  · show ok 35 128 0 [some (.inr (.inr (some 0)))] [] m _
    refine u_128_0 ?_
    rw [hnv]
    refine ⟨hv, fun ma hma => ⟨fun q => ⟨_, rfl, Or.inl ⟨q, rfl⟩, kpC_3 hma.2 fun _ _ => rfl⟩, fun q => ?_⟩⟩
    obtain ⟨k1, k2, k3, k4, k5, k6⟩ := hma.1 q
    refine ⟨k1, ?_⟩
    rintro v mb ⟨⟨K, a1, a2, a3, a4⟩, hmb⟩
    refine ⟨_, rfl, Or.inr ⟨q, K, a1, a2, ?_, ?_⟩, kpC_3 hma.2 hmb⟩
    · rw [k2, k3] at a3
      exact KA_cg k5 K _ _ k4 a3
    · rcases a4 with a4 | a4
      · refine Or.inl fun zz => a4 ?_
        rw [k2, k3]
        exact KA_cg (fun i hi => (k5 i hi).symm) (K + 1) _ _ (fun i hi => (k4 i hi).symm) zz
      · exact Or.inr a4
  · rintro r mc ⟨v, hr, hvv, hk⟩
    refine ⟨.inl v, hr, ?_⟩
    show ok 3 239 0 [some (.inr (.inr (some 53))), none, none, none, none] [] mc _
    have e54 : mu mc 53 0 0 54 = m 54 := by
      rw [mu_rf (by decide)]
      exact kpC_f hk (by omega)
    have hc0 : kpC m (mu mc 53 0 0) := kpC_trans hk (kpC_mu (by unfold core; omega))
    have hInv : ∀ {me : am_M}, (∀ a, a ≠ 53 → a ≠ 63 → a ≠ 64 → a ≠ 65 → a ≠ 67 → a ≠ 68 → me a = mu mc 53 0 0 a) → (∀ k, k ≠ 27 → me 53 k = mu mc 53 0 0 53 k) → Inv me := by
      intro me q1 q2
      refine Inv_kpC (fun a k hc => ?_) hI
      rw [← hc0 a k hc]
      by_cases ha : a = 53
      · rw [ha] at hc ⊢
        unfold core at hc
        exact q2 k (by omega)
      · unfold core at hc
        rw [q1 a ha (by omega) (by omega) (by omega) (by omega) (by omega)]
    refine u_239_0 ?_
    generalize mu mc 53 0 0 = mz at *
    rw [e54]
    generalize hgv : nv (m 54) = g at *
    refine ⟨hwf, ?_⟩
    rintro ma ⟨x1, x2, x3⟩
    refine ⟨fun q => ?_, fun q => ?_⟩
    · have hMF := x1 q
      have a54 : ma 54 = m 54 := by rw [x2 54 (by decide) (by decide) (by decide), e54]
      have h27 := hMF.2.1
      rw [h27, Int.toNat_natCast]
      refine ⟨⟨by omega, by omega⟩, ?_⟩
      intro mb hmb
      rw [hmb]
      have hl := lng hMF (by rw [a54]; exact hgv) (by rw [a54]; exact hwf)
      refine ok.imp hl ?_
      rintro rr me ⟨v', b1, b2, b3⟩
      refine ⟨?_, hInv (fun a z1 z2 z3 z4 z5 z6 => by rw [b3 a z4 z5 z6, x2 a z1 z2 z3]) (fun k hk => by rw [b3 53 (by decide) (by decide) (by decide), x3 k hk])⟩
      rcases hvv with hvv | hvv
      · exact absurd q hvv.1
      · rw [b1, KLR_fun b2 hvv.2]
    · refine ⟨?_, hInv (fun a z1 z2 z3 _ _ _ => x2 a z1 z2 z3) x3⟩
      rcases hvv with hvv | hvv
      · rw [hvv.2]
      · exact absurd hvv.1 q
