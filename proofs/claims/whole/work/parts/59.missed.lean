theorem dwo_congr {f f' g : Nat → Int} {z : Nat} : ∀ n, (∀ k, k < n → f k = f' k) → dwo f g z n = dwo f' g z n := by
  intro n
  induction n with
  | zero => intro _; rfl
  | succ n ih =>
    intro h
    rw [dwo_s, dwo_s, ih fun k hk => h k (by omega), h n (by omega)]
theorem dy_0 {B : Nat} {g : Nat → Int} : dy B g 0 = g 0 := by
  unfold dy
  rw [nv_lo (by decide), dyk_lo (by decide) (by decide)]
theorem dwo_0 {f g : Nat → Int} {z : Nat} : ∀ n, dwo f g z n 0 = g 0 := by
  intro n
  induction n with
  | zero => rfl
  | succ n ih => rw [dwo_s, dy_0, ih]
theorem P_missed {m : am_M} {a b : Int} (ha : am_s a = a) (hb : am_s b = b) (hI : Inv m) : PK 62 7 204 6 [.inl a, .inl b] m := by
  have hR := Inv_RWS hI
  have hw := Inv_wf hI
  have hN := hw.1
  have hv := Inv_vw hI
  by_cases c1 : 0 ≤ a ∧ a < 4
  · obtain ⟨j, rfl⟩ : ∃ j : Nat, a = (j : Int) := ⟨a.toNat, by omega⟩
    have hj : j < 4 := by omega
    obtain ⟨g1, g2, g3⟩ := (Inv_RWM hI) j hj
    have e73 : am_s (m 73 j) = m 73 j := am_s_id (by omega) (by omega)
    have e74 : am_s (m 74 j) = m 74 j := am_s_id (by omega) (by omega)
    have hC := hR j hj
    have hC21 := hC.2.1
    rcases Inv_row hI hj with ⟨k1, k2⟩ | ⟨k1, k2, k3, k4⟩
    · have e6 : rfu m (j : Int) = -6 := by
        unfold rfu
        rw [if_pos c1, Int.toNat_natCast, if_pos k1]
      refine PK_2 (h1 := 4) (h2 := 4) (v := .inl (-6)) (R := fun m1 => m = m1) ?_ ?_ (by decide) (by decide)
      · refine u_62_0 ?_
        rw [ha, e6]
        exact ⟨hR, fun q => absurd q (by decide), fun _ => ⟨rfl, rfl⟩⟩
      · rintro _ rfl
        refine u_204_0 ?_
        rw [ha, Int.toNat_natCast, e73, k2]
        exact ⟨fun _ => ⟨by omega, fun q => absurd rfl q, fun _ => ⟨rfl, Inv_t hI⟩⟩, fun q => by omega⟩
    have e0 : rfu m (j : Int) = 0 := rfu_0.mpr ⟨c1, by rw [Int.toNat_natCast]; exact k1⟩
    by_cases c2 : m 74 j ≤ 12
    · have hcg : ∀ k, k < (m 74 j).toNat → m (25 + 2 * j + 1) k = rwf m j k := fun k hk => (k4 k (by omega)).symm
      obtain ⟨d1, d2⟩ := dd_congr (g := nv (m 54)) _ hcg
      have hle := dlen_le (rwf m j) (nv (m 54)) (m 74 j).toNat
      have hin := fun i (hi : i < dlen (rwf m j) (nv (m 54)) (m 74 j).toNat) => told_rng (nv0_le hw) hi
      have hne := dlen_ne (f := rwf m j) (g := nv (m 54)) (m 74 j).toNat
      generalize hD : dlen (rwf m j) (nv (m 54)) (m 74 j).toNat = D at *
      have hrg := rfs_rng (dst (rwf m j) (nv (m 54)) D) (rwf m j D)
      have hons : ∀ i, ((ons (dwo (rwf m j) (nv (m 54)) i (m 74 j).toNat) 1 : Nat) : Int) < 4096 := by
        intro i
        have := ons_lt (g := dwo (rwf m j) (nv (m 54)) i (m 74 j).toNat) (w := 1) (by rw [dwo_0]; exact nv0_le hw)
        omega
      have hkl := fun i => msk_lt (fun i => ((ons (dwo (rwf m j) (nv (m 54)) i (m 74 j).toNat) 1 : Nat) : Int)) b i
      refine PK_2 (h1 := 4) (h2 := 4) (v := .inl (if ¬ D = (m 74 j).toNat then -5 else if ¬ (0 ≤ b ∧ b.toNat < 2 ^ (m 54 0).toNat) then -3 else ((msk (fun i => ((ons (dwo (rwf m j) (nv (m 54)) i (m 74 j).toNat) 1 : Nat) : Int)) b (m 74 j).toNat : Nat) : Int))) (R := fun m1 => (∀ a, a < 7 ∨ 11 < a → m1 a = m a) ∧ TRB m1) ?_ ?_ (by decide) (by decide)
      · have et : ∀ a, a < 7 ∨ 11 < a → tk m 7 2 a = m a := fun a h => tk_r h
        have et1 : tk m 7 2 (25 + 2 * j + 1) = m (25 + 2 * j + 1) := et _ (by omega)
        have et2 : tk m 7 2 (25 + 2 * j) = m (25 + 2 * j) := et _ (by omega)
        have et3 : nv (vw (tk m 7 2) 7) = nv (m 54) := by rw [nv_tk, Inv_nv hI]
        have et4 : tk m 7 2 7 11 = m 2 11 := vw_tk_lo (m := m) (s := 7) (t := 2) (k := 1) (by decide)
        have hC2 : RWC (tk m 7 2) (25 + 2 * j) := RWC_of et2 et1 hC
        refine u_62_0 ?_
        rw [ha, hb, e0, Int.toNat_natCast, et1, et2, et3, et4, ← k2, d2, e74]
        refine ⟨hR, fun _ => ⟨by omega, fun _ => ⟨by decide, ⟨⟨WFG_tk hv, Inv_dt hI⟩, hC2, by omega⟩, fun m1 hm => ?_⟩, fun q => absurd c2 q⟩, fun q => absurd rfl q⟩
        have hfr : ∀ a, a < 7 ∨ 11 < a → m1 a = m a := fun a h => by rw [hm.2.2.2 a (by omega), et a h]
        have f2 : m1 (25 + 2 * j) = m (25 + 2 * j) := hfr _ (by omega)
        rw [f2, ← k2, e74, am_s_id (z := (D : Int)) (by omega) (by omega), hfr 2 (by omega), Inv_N hI, show vw m1 2 = vw m 2 from vw_same fun a k h1 h2 => by rw [hfr a (by omega)]]
        refine ⟨fun hd => ⟨hv, fun hbb => ?_, fun hbb => ⟨by rw [if_neg (by omega), if_pos hbb], ⟨hfr, TRB_of hm.2.1.1⟩⟩⟩, fun hd => ⟨by rw [if_pos (by omega)], ⟨hfr, TRB_of hm.2.1.1⟩⟩⟩
        rw [if_neg (by omega), if_neg (not_not_intro hbb)]
        have hmem : 25 + 2 * j ∈ rowL := by
          have : j = 0 ∨ j = 1 ∨ j = 2 ∨ j = 3 := by omega
          rcases this with rfl | rfl | rfl | rfl <;> decide
        refine ok_for (σ := Unit) (fun i _ => [some (.inr (.inr (some 0))), some (.inl (j : Int)), some (.inl b), none, some (.inr (.inr (some (25 + 2 * j)))), some (.inl ((msk (fun i => ((ons (dwo (rwf m j) (nv (m 54)) i (m 74 j).toNat) 1 : Nat) : Int)) b i : Nat) : Int)), some (.inl (i : Int))]) (fun i _ M => (∀ a, a < 7 ∨ 11 < a → M a = m a) ∧ TRB M) (m 74 j).toNat ?_ ?_ () m1 ⟨hfr, TRB_of hm.2.1.1⟩
        · rintro i hi - M ⟨hM, -⟩ IH
          have f2 : M (25 + 2 * j) = m (25 + 2 * j) := hM _ (by omega)
          have f3 : M (25 + 2 * j + 1) = m (25 + 2 * j + 1) := hM _ (by omega)
          have fv : vw M 2 = vw m 2 := vw_same fun a k h1 h2 => by rw [hM a (by omega)]
          have hw1 := dwo_congr (g := nv (m 54)) (z := i) _ hcg
          refine u_62_84 hmem ?_
          rw [f2, f3, fv, ← k2, e74, hM 2 (by omega), Inv_nv hI, Int.toNat_natCast, hw1, hb, am_s_id (z := (i : Int)) (by omega) (by omega), am_s_id (z := ((ons (dwo (rwf m j) (nv (m 54)) i (m 74 j).toNat) 1 : Nat) : Int)) (by omega) (by have := hons i; omega)]
          refine ⟨fun q => by omega, fun _ => ⟨⟨⟨hv, Inv_dt hI⟩, ⟨RWC_of f2 f3 hC, by omega⟩, by omega, fun i hi => ?_⟩, fun m2 hm2 => ⟨fun hq => ?_, fun hq => ?_⟩⟩⟩
          · rw [hcg i hi]
            exact hin i (by omega)
          · have e : msk (fun i => ((ons (dwo (rwf m j) (nv (m 54)) i (m 74 j).toNat) 1 : Nat) : Int)) b (i + 1) = msk (fun i => ((ons (dwo (rwf m j) (nv (m 54)) i (m 74 j).toNat) 1 : Nat) : Int)) b i := by rw [msk_s, if_neg hq]
            rw [← e]
            exact IH () m2 ⟨fun a h => by rw [hm2.1 a h, hM a h], TRB_of hm2.2⟩
          · have e : msk (fun i => ((ons (dwo (rwf m j) (nv (m 54)) i (m 74 j).toNat) 1 : Nat) : Int)) b (i + 1) = msk (fun i => ((ons (dwo (rwf m j) (nv (m 54)) i (m 74 j).toNat) 1 : Nat) : Int)) b i + 2 ^ i := by rw [msk_s, if_pos hq]
            rw [bx_or2 (hkl i) (by omega), ← e]
            exact IH () m2 ⟨fun a h => by rw [hm2.1 a h, hM a h], TRB_of hm2.2⟩
        · rintro - M ⟨hM, hMT⟩
          have f2 : M (25 + 2 * j) = m (25 + 2 * j) := hM _ (by omega)
          refine u_62_84 hmem ?_
          rw [f2, ← k2, e74, am_s_id (z := (((m 74 j).toNat : Nat) : Int)) (by omega) (by omega)]
          exact ⟨fun _ => ⟨rfl, hM, hMT⟩, fun q => by omega⟩
      · rintro m1 ⟨hfr, hTr⟩
        have hI1 := Inv_tr hfr hTr hI
        have f73 : m1 73 = m 73 := hfr 73 (by omega)
        have f74 : m1 74 = m 74 := hfr 74 (by omega)
        refine u_204_0 ?_
        rw [ha, hb, Int.toNat_natCast, f73, f74, e73, e74, t32 hb]
        refine ⟨fun _ => ⟨by omega, fun _ => ⟨fun _ m2 hm2 => ?_, fun q => absurd c2 q⟩, fun q => by omega⟩, fun q => by omega⟩
        have e54 : m2 54 = m 54 := by rw [hm2, fil_rf (by decide), mu54, hfr 54 (by omega)]
        have f73' : m2 73 = m 73 := by rw [hm2, fil_rf (by decide), mu_rf (by decide), f73]
        have f74' : m2 74 = m 74 := by rw [hm2, fil_rf (by decide), mu_rf (by decide), hfr 74 (by omega)]
        have f75 : m2 75 = m 75 := by rw [hm2, fil_rf (by decide), mu_rf (by decide), hfr 75 (by omega)]
        have f58 : ∀ k, k < 56 → m2 58 k = m 54 k := fun k hk => by rw [hm2, fil_in0 hk, mu54, hfr 54 (by omega)]
        have hRM : RWM m2 := by
          have := Inv_RWM hI
          unfold RWM at this ⊢
          rw [f73', f74', f75]
          exact this
        have erw : rwf m2 j = rwf m j := by
          unfold rwf
          rw [f75]
        refine ⟨⟨⟨by rw [e54]; exact hw, by rw [e54]; exact hI.1.2.1⟩, hRM, c1⟩, fun m3 hm => ?_⟩
        unfold Q_199 at hm
        rw [Int.toNat_natCast, e54, f74', erw, hD] at hm
        obtain ⟨p1, ⟨p2, p3⟩, p4, p5, p6, p7⟩ := hm
        have hkp : kpC m1 (fil m3 54 0 56 (m3 58)) := again_kpC hm2 p5
        have k54 : ∀ k, k < 56 → fil m3 54 0 56 (m3 58) 54 k = m 54 k := fun k hk => by rw [fil_in0 hk, p5 58 k (by omega) (by omega), f58 k hk]
        have k58 : ∀ k, k < 56 → fil m3 54 0 56 (m3 58) 58 k = m 54 k := fun k hk => by rw [fil_r (by decide), p5 58 k (by omega) (by omega), f58 k hk]
        have k16 : fil m3 54 0 56 (m3 58) 53 16 = (if D = (m 74 j).toNat then 0 else rfs (dst (rwf m j) (nv (m 54)) D) (rwf m j D)) := by rw [fil_r (by decide), p6]
        have k74 : ∀ k, fil m3 54 0 56 (m3 58) 74 k = m 74 k := fun k => by rw [fil_r (by decide), p5 74 k (by omega) (by omega), f74']
        have k75 : ∀ k, fil m3 54 0 56 (m3 58) 75 k = m 75 k := fun k => by rw [fil_r (by decide), p5 75 k (by omega) (by omega), f75]
        generalize fil m3 54 0 56 (m3 58) = m4 at hkp k54 k58 k16 k74 k75
        have esh : am_shl 1 (m 54 0) = ((2 ^ (m 54 0).toNat : Nat) : Int) := by
          have e : m 54 0 = (((m 54 0).toNat : Nat) : Int) := by omega
          rw [e, bx_shl1 _ (by omega), Int.toNat_natCast]
        have hp12 := pow12 hN.2
        rw [k16, k54 0 (by decide), esh, show am_t 0 = 0 from rfl, am_s_id (z := ((2 ^ (m 54 0).toNat : Nat) : Int) - 1) (by omega) (by omega), am_t_id (z := ((2 ^ (m 54 0).toNat : Nat) : Int) - 1) (by omega) (by omega)]
        have hz : am_s (if D = (m 74 j).toNat then 0 else rfs (dst (rwf m j) (nv (m 54)) D) (rwf m j D)) = 0 ↔ D = (m 74 j).toNat := by
          by_cases h : D = (m 74 j).toNat
          · rw [if_pos h]; exact ⟨fun _ => h, fun _ => rfl⟩
          · rw [if_neg h, am_s_id (by omega) (by omega)]
            exact ⟨fun q => absurd q (hne (by omega)), fun q => absurd q h⟩
        refine ⟨fun hd => ⟨fun hbb => ?_, fun hbb => ⟨?_, Inv_kpC hkp hI1⟩⟩, fun hd => ⟨?_, Inv_kpC hkp hI1⟩⟩
        · have hd := hz.mp hd
          rw [if_neg (not_not_intro hd), if_neg (not_not_intro (show 0 ≤ b ∧ b.toNat < 2 ^ (m 54 0).toNat by omega))]
          refine ok_for (σ := Unit) (fun i _ => [some (.inr (.inr (some 53))), some (.inl (j : Int)), some (.inl b), some (.inl ((msk (fun i => ((ons (dwo (rwf m j) (nv (m 54)) i (m 74 j).toNat) 1 : Nat) : Int)) b i : Nat) : Int)), some (.inl (i : Int)), none]) (fun i _ M => (∀ a k, ¬ (a = 54 ∧ k < 56) → M a k = m4 a k) ∧ ∀ k, k < 56 → M 54 k = m 54 k) (m 74 j).toNat ?_ ?_ () m4 ⟨fun a k _ => rfl, k54⟩
          · rintro i hi - M ⟨hM1, hM2⟩ IH
            refine u_204_99 ?_
            rw [ha, Int.toNat_natCast, hM1 74 j (by omega), k74, e74, am_s_id (z := (i : Int)) (by omega) (by omega)]
            refine ⟨by omega, fun q => by omega, fun _ => ?_⟩
            refine ok_for (σ := Unit) (fun l _ => [some (.inr (.inr (some 53))), some (.inl (j : Int)), some (.inl b), some (.inl ((msk (fun i => ((ons (dwo (rwf m j) (nv (m 54)) i (m 74 j).toNat) 1 : Nat) : Int)) b i : Nat) : Int)), some (.inl (i : Int)), some (.inl (l : Int))]) (fun l _ M => (∀ a k, ¬ (a = 54 ∧ k < 56) → M a k = m4 a k) ∧ nv (M 54) = dwo (rwf m j) (nv (m 54)) i l ∧ WFG (M 54) ∧ M 54 1 ≤ 9999 + (l : Int)) (m 74 j).toNat ?_ ?_ () M ⟨hM1, nv_of hM2, WFG_of' hM2 hw, by rw [hM2 1 (by decide)]; have := hI.1.2.1; omega⟩
            · rintro l hl - M' ⟨h1, h2, h3, h4⟩ IH2
              have e5 : am_s (40 * (j : Int) + (l : Int)) = 40 * (j : Int) + (l : Int) := am_s_id (by omega) (by omega)
              have e6 : (40 * (j : Int) + (l : Int)).toNat = 40 * j + l := by omega
              have hil := hin l (by omega)
              refine u_204_113 ?_
              rw [ha, Int.toNat_natCast, h1 74 j (by omega), k74, e74, am_s_id (z := (i : Int)) (by omega) (by omega), am_s_id (z := (l : Int)) (by omega) (by omega), e5, e6, h1 75 _ (by omega), k75]
              refine ⟨by omega, fun q => by omega, fun _ => ⟨fun _ => by omega, fun y hy => ?_⟩⟩
              have ey : y = if l = i then 0 else rwf m j l := by
                rw [hy, ite_n]
                by_cases h : l = i
                · rw [if_pos (by omega), if_pos h]
                · rw [if_neg (by omega), if_neg h]; rfl
              have hy2 : 0 ≤ y ∧ y < 4096 := by
                rw [ey]
                split <;> omega
              refine ⟨⟨h3, hy2⟩, IH2 () _ ⟨fun a k h => by rw [gw_fr h3.1.2 h, h1 a k h], ?_, WFG_gw h3 (by omega), by rw [gw_1]; omega⟩⟩
              rw [nv_gw h3, h2, dwo_s, ey]
              congr 1
              split <;> rfl
            · rintro - M' ⟨h1, h2, h3, h4⟩
              refine u_204_113 ?_
              rw [ha, hb, Int.toNat_natCast, h1 74 j (by omega), k74, e74, am_s_id (z := (((m 74 j).toNat : Nat) : Int)) (by omega) (by omega), h2, show am_s 1 = 1 from rfl, am_s_id (z := ((ons (dwo (rwf m j) (nv (m 54)) i (m 74 j).toNat) 1 : Nat) : Int)) (by omega) (by have := hons i; omega)]
              refine ⟨by omega, fun _ => ⟨h3, fun y hy => ?_⟩, fun q => by omega⟩
              have e : am_or ((msk (fun i => ((ons (dwo (rwf m j) (nv (m 54)) i (m 74 j).toNat) 1 : Nat) : Int)) b i : Nat) : Int) y = ((msk (fun i => ((ons (dwo (rwf m j) (nv (m 54)) i (m 74 j).toNat) 1 : Nat) : Int)) b (i + 1) : Nat) : Int) := by
                rw [msk_s, hy, ite_n]
                by_cases h : ((ons (dwo (rwf m j) (nv (m 54)) i (m 74 j).toNat) 1 : Nat) : Int) = b
                · rw [if_pos h, if_pos h, bx_or2 (hkl i) (by omega)]
                · rw [if_neg h, if_neg h, bx_or0 (hkl i) (by omega)]
              rw [e]
              have e58 : ∀ k, k < 56 → M' 58 k = m 54 k := fun k hk => by rw [h1 58 k (by omega), k58 k hk]
              exact IH () _ ⟨fun a k h => by
                by_cases h54 : a = 54
                · subst h54
                  rw [fil_k (by omega), h1 54 k h]
                · rw [fil_r h54, h1 a k h], fun k hk => by rw [fil_in0 hk, e58 k hk]⟩
          · rintro - M ⟨hM1, hM2⟩
            refine u_204_99 ?_
            rw [ha, Int.toNat_natCast, hM1 74 j (by omega), k74, e74, am_s_id (z := (((m 74 j).toNat : Nat) : Int)) (by omega) (by omega)]
            refine ⟨by omega, fun _ => ⟨rfl, Inv_kpC ?_ hI1⟩, fun q => by omega⟩
            intro a k hc
            by_cases h : a = 54 ∧ k < 56
            · rw [h.1, hM2 k h.2, hfr 54 (by omega)]
            · rw [hM1 a k h, hkp a k hc]
        · have hd := hz.mp hd
          rw [if_neg (not_not_intro hd), if_pos (show ¬ (0 ≤ b ∧ b.toNat < 2 ^ (m 54 0).toNat) by omega)]
        · have hd : ¬ D = (m 74 j).toNat := fun q => hd (hz.mpr q)
          rw [if_pos hd]
    · refine PK_2 (h1 := 4) (h2 := 4) (v := .inl (-4)) (R := fun m1 => m = m1) ?_ ?_ (by decide) (by decide)
      · refine u_62_0 ?_
        rw [ha, e0, Int.toNat_natCast, ← k2, e74]
        exact ⟨hR, fun _ => ⟨by omega, fun q => absurd q c2, fun _ => ⟨rfl, rfl⟩⟩, fun q => absurd rfl q⟩
      · rintro _ rfl
        refine u_204_0 ?_
        rw [ha, Int.toNat_natCast, e73, e74]
        exact ⟨fun _ => ⟨by omega, fun _ => ⟨fun q => absurd q c2, fun _ => ⟨rfl, Inv_t hI⟩⟩, fun q => by omega⟩, fun q => by omega⟩
  · have e2 : rfu m a = -2 := by
      unfold rfu
      rw [if_neg c1]
    refine PK_2 (h1 := 4) (h2 := 4) (v := .inl (-2)) (R := fun m1 => m = m1) ?_ ?_ (by decide) (by decide)
    · refine u_62_0 ?_
      rw [ha, e2]
      exact ⟨hR, fun q => absurd q (by decide), fun _ => ⟨rfl, rfl⟩⟩
    · rintro _ rfl
      refine u_204_0 ?_
      rw [ha]
      exact ⟨fun q => by omega, fun _ => ⟨rfl, Inv_t hI⟩⟩
