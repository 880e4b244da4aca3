theorem am_s_w {z : Int} (h : -2147483648 ≤ z ∧ z ≤ 2147483647) : am_s z = z := am_s_id h.1 h.2
/-- what a copy writes at a place -/
def cpv (g : Nat → Int) (B : Nat) (p : Nat) : Int := if B.testBit p = true ∧ g (8 + p) ≠ 3 then hrd g p (ons g 1) else 999
theorem P_copy {m : am_M} {b r : Int} (hb : am_s b = b) (hr : am_s r = r) (hI : Inv m) : PK 158 8 254 5 [.inl b, .inl r] m := by
  have hR := Inv_RWS hI
  have hw := Inv_wf hI
  have hN := hw.1
  have hv := Inv_vw hI
  have eN := Inv_N hI
  have hnw := WFG_nv hw
  by_cases c1 : 0 ≤ r ∧ r < 4
  · obtain ⟨j, rfl⟩ : ∃ j : Nat, r = (j : Int) := ⟨r.toNat, by omega⟩
    have hj : j < 4 := by omega
    obtain ⟨g1, g2, g3⟩ := (Inv_RWM hI) j hj
    have e73 : am_s (m 73 j) = m 73 j := am_s_id (by omega) (by omega)
    have e74 : am_s (m 74 j) = m 74 j := am_s_id (by omega) (by omega)
    have eNs : am_s (m 54 0) = m 54 0 := am_s_id (by omega) (by omega)
    have hC := hR j hj
    have hC21 := hC.2.1
    rcases Inv_row hI hj with ⟨k1, k2⟩ | ⟨k1, k2, k3, k4⟩
    · have e6 : rfu m (j : Int) = -6 := by
        unfold rfu
        rw [if_pos c1, Int.toNat_natCast, if_pos k1]
      refine PK_2 (h1 := 3) (h2 := 3) (v := .inl (-6)) (R := fun m1 => m = m1) ?_ ?_ (by decide) (by decide)
      · refine u_158_0 ?_
        rw [hr, e6]
        exact ⟨hR, fun q => absurd q (by decide), fun _ => ⟨rfl, rfl⟩⟩
      · rintro _ rfl
        refine u_254_0 ?_
        rw [hr, Int.toNat_natCast, e73, k2]
        exact ⟨fun _ => ⟨by omega, fun q => absurd rfl q, fun _ => ⟨rfl, Inv_t hI⟩⟩, fun q => by omega⟩
    have e0 : rfu m (j : Int) = 0 := rfu_0.mpr ⟨c1, by rw [Int.toNat_natCast]; exact k1⟩
    have esh : am_shl 1 (m 54 0) = ((2 ^ (m 54 0).toNat : Nat) : Int) := by
      have e : m 54 0 = (((m 54 0).toNat : Nat) : Int) := by omega
      rw [e, bx_shl1 _ (by omega), Int.toNat_natCast]
    have hp12 := pow12 hN.2
    have ebd : am_t (am_s (am_shl 1 (m 54 0) - 1)) = ((2 ^ (m 54 0).toNat : Nat) : Int) - 1 := by
      rw [esh, am_s_id (by omega) (by omega), am_t_id (by omega) (by omega)]
    by_cases c2 : m 54 0 ≤ m 74 j
    · by_cases c3 : 0 ≤ b ∧ b.toNat < 2 ^ (m 54 0).toNat
      · obtain ⟨B, rfl⟩ : ∃ B : Nat, b = (B : Int) := ⟨b.toNat, by omega⟩
        rw [Int.toNat_natCast] at c3
        have hmem : 25 + 2 * j ∈ rowL := by
          have : j = 0 ∨ j = 1 ∨ j = 2 ∨ j = 3 := by omega
          rcases this with rfl | rfl | rfl | rfl <;> decide
        have hbl := brl_lt (nv0_le hw)
        have hon := ons_lt (g := nv (m 54)) (w := 1) (nv0_le hw)
        have hcr : ∀ p : Nat, p < 12 → am_s (cpv (nv (m 54)) B p) = cpv (nv (m 54)) B p := by
          intro p hp
          unfold cpv
          have := hrd_rng (B := ons (nv (m 54)) 1) hnw hp
          split
          · exact am_s_id (by omega) (by omega)
          · rfl
        have hct : ∀ p : Nat, p < 12 → am_t (cutv (m 73 j) (cpv (nv (m 54)) B p)) = cutv (m 73 j) (cpv (nv (m 54)) B p) := fun p hp => cutv_t (t32 (hcr p hp))
        refine PK_2 (h1 := 3) (h2 := 3) (v := .inl (m 54 0)) (R := fun m1 => m1 = fil m (25 + 2 * j + 1) 0 (m 54 0).toNat (fun p => cutv (m 73 j) (cpv (nv (m 54)) B p))) ?_ ?_ (by decide) (by decide)
        · refine u_158_0 ?_
          rw [hb, hr, e0, Int.toNat_natCast, Int.toNat_natCast, eN, eNs, ← k2, e74, Inv_nv hI, show am_s 1 = 1 from rfl]
          refine ⟨hR, fun _ => ⟨by omega, fun _ => ⟨hv, fun _ => ?_, fun q => by omega⟩, fun q => absurd c2 q⟩, fun q => absurd rfl q⟩
          rw [bx_and (by omega)]
          refine ok_for (σ := Unit) (fun p _ => [some (.inr (.inr (some 0))), none, some (.inl (j : Int)), none, some (.inr (.inr (some (25 + 2 * j)))), some (.inl ((ons (nv (m 54)) 1 : Nat) : Int)), some (.inl ((B &&& brl (nv (m 54)) : Nat) : Int)), some (.inl (p : Int))]) (fun p _ M => M = fil m (25 + 2 * j + 1) 0 p (fun p => cutv (m 73 j) (cpv (nv (m 54)) B p))) (m 54 0).toNat ?_ ?_ () m fil_0.symm
          · rintro p hp - M hM IH
            have f2 : M 2 = m 2 := by rw [hM, fil_rf (by omega)]
            have fv : vw M 2 = vw m 2 := vw_same fun a k h1 h2 => by rw [hM, fil_r (by omega)]
            have fR : M (25 + 2 * j) = m (25 + 2 * j) := by rw [hM, fil_rf (by omega)]
            have hCM : RWC M (25 + 2 * j) := by
              refine ⟨by rw [fR]; exact hC.1, by rw [fR]; exact hC.2.1, fun k hk => ?_⟩
              rw [hM]
              by_cases hkp : k < p
              · rw [fil_in0 hkp]; exact hct k (by omega)
              · rw [fil_k (by omega)]; exact hC.2.2 k hk
            have hbt : am_s (am_and (am_shr ((B &&& brl (nv (m 54)) : Nat) : Int) (p : Int)) 1) = 0 ↔ ¬ (B &&& brl (nv (m 54))).testBit p = true := by
              have hlt : B &&& brl (nv (m 54)) < 2147483648 := Nat.lt_of_le_of_lt Nat.and_le_right (by omega)
              rw [bx_shr hlt (by omega), show (1 : Int) = ((1 : Nat) : Int) from rfl, bx_and (Nat.lt_of_le_of_lt (Nat.div_le_self _ _) hlt), Nat.and_one_is_mod, am_s_id (by omega) (by omega), Nat.testBit_eq_decide_div_mod_eq]
              simp only [decide_eq_true_eq]
              omega
            have hkb : (B &&& brl (nv (m 54))).testBit p = true ↔ B.testBit p = true ∧ nv (m 54) (8 + p) ≠ 3 := by
              rw [Nat.testBit_and, Bool.and_eq_true, brl_bit hnw, nv0]
              exact ⟨fun h => ⟨h.1, h.2.2⟩, fun h => ⟨h.1, by omega, h.2⟩⟩
            refine u_158_76 hmem ?_
            rw [f2, eN, eNs, fv, Inv_nv hI, Int.toNat_natCast, am_s_id (z := (p : Int)) (by omega) (by omega), Int.toNat_natCast]
            refine ⟨fun q => by omega, fun _ => ⟨fun _ => ⟨hv, by omega, by omega⟩, fun y hy => ?_⟩⟩
            have ey : y = cpv (nv (m 54)) B p := by
              rw [hy]
              unfold cpv
              by_cases hc : B.testBit p = true ∧ nv (m 54) (8 + p) ≠ 3
              · rw [if_neg (fun q => hbt.mp q (hkb.mpr hc)), if_pos hc, if_pos ⟨by omega, hc.2⟩]
                have := hrd_rng (B := ons (nv (m 54)) 1) hnw (p := p) (by omega)
                exact am_s_id (by omega) (by omega)
              · rw [if_pos (hbt.mpr (fun q => hc (hkb.mp q))), if_neg hc]
            refine ⟨?_, ?_⟩
            · unfold q_157
              rw [am_s_id (z := (p : Int)) (by omega) (by omega)]
              intro _ _
              exact ⟨fun _ => by omega, fun _ => by omega, fun _ => by omega, by omega⟩
            · rw [w157 hCM (by rw [fR]; omega), fR, ← k3, ey]
              refine IH () _ ?_
              rw [hM]
              exact fil_st0 rfl
          · rintro - M hM
            have f2 : M 2 = m 2 := by rw [hM, fil_rf (by omega)]
            refine u_158_76 hmem ?_
            rw [f2, eN, eNs, am_s_id (z := (((m 54 0).toNat : Nat) : Int)) (by omega) (by omega)]
            exact ⟨fun _ => ⟨rfl, hM⟩, fun q => by omega⟩
        · intro m1 hm1
          have f73 : m1 73 = m 73 := by rw [hm1, fil_rf (by omega)]
          have f74 : m1 74 = m 74 := by rw [hm1, fil_rf (by omega)]
          have f54 : m1 54 = m 54 := by rw [hm1, fil_rf (by omega)]
          refine u_254_0 ?_
          rw [hb, hr, Int.toNat_natCast, f73, f74, mu54, f54, e73, e74, eNs, ebd, t32 hb, show am_t 0 = 0 from rfl, show am_s 1 = 1 from rfl]
          refine ⟨fun _ => ⟨by omega, fun _ => ⟨fun _ => ⟨fun _ => ⟨hw, ?_⟩, fun q => by omega⟩, fun q => absurd c2 q⟩, fun q => by omega⟩, fun q => by omega⟩
          refine ok_for (σ := Unit) (fun p _ => [some (.inr (.inr (some 53))), some (.inl (B : Int)), some (.inl (j : Int)), some (.inl ((ons (nv (m 54)) 1 : Nat) : Int)), some (.inl (p : Int))]) (fun p _ M => M = fil (mu m1 53 0 0) 75 (40 * j) p (fun p => cutv (m 73 j) (cpv (nv (m 54)) B p))) (m 54 0).toNat ?_ ?_ () _ fil_0.symm
          · rintro p hp - M hM IH
            have e54 : M 54 = m 54 := by rw [hM, fil_rf (by decide), mu54, f54]
            have e73' : M 73 = m 73 := by rw [hM, fil_rf (by decide), mu_rf (by decide), f73]
            have e5 : am_s (40 * (j : Int) + (p : Int)) = 40 * (j : Int) + (p : Int) := am_s_id (by omega) (by omega)
            have e6 : (40 * (j : Int) + (p : Int)).toNat = 40 * j + p := by omega
            have hep : am_s (p : Int) = (p : Int) := am_s_id (by omega) (by omega)
            refine u_254_83 ?_
            rw [e54, eNs, hb, hr, hep, Int.toNat_natCast, Int.toNat_natCast, Int.toNat_natCast, Int.toNat_natCast, e73', e5, e6, show am_s 3 = 3 from rfl]
            refine ⟨fun q => by omega, fun _ => ⟨⟨by omega, by omega⟩, fun _ => hw, fun _ _ => ⟨hw, by omega, by omega⟩, fun y hy => ?_⟩⟩
            have ey : y = cpv (nv (m 54)) B p := by
              rw [hy]
              unfold cpv
              by_cases h1 : B.testBit p = true
              · rw [if_neg (as_iteN.mpr h1)]
                by_cases h2 : nv (m 54) (8 + p) = 3
                · rw [if_pos (as_iteN.mpr ⟨by omega, h2⟩), if_neg (fun q => q.2 h2)]
                · rw [if_neg (fun q => q (as_ite.mpr (fun q2 => h2 q2.2))), if_pos ⟨h1, h2⟩]
                  have := hrd_rng (B := ons (nv (m 54)) 1) hnw (p := p) (by omega)
                  exact am_s_id (by omega) (by omega)
              · rw [if_pos (as_ite.mpr h1), if_neg (fun q => h1 q.1)]
            refine ⟨by omega, by omega, ?_⟩
            rw [ey, v253 e73]
            refine IH () _ ?_
            rw [hM]
            exact fil_st rfl
          · rintro - M hM
            have e54 : M 54 = m 54 := by rw [hM, fil_rf (by decide), mu54, f54]
            refine u_254_83 ?_
            rw [e54, eNs, am_s_id (z := (((m 54 0).toNat : Nat) : Int)) (by omega) (by omega)]
            refine ⟨fun _ => ⟨rfl, ?_⟩, fun q => by omega⟩
            have hf : ∀ x y, ¬ (x = 25 + 2 * j + 1 ∧ y < (m 54 0).toNat) → ¬ (x = 53 ∧ y = 0) → ¬ (x = 75 ∧ 40 * j ≤ y ∧ y < 40 * j + (m 54 0).toNat) → M x y = m x y := by
              intro x y h1 h2 h3
              have e1 : m1 x y = m x y := by
                rw [hm1]
                by_cases hx : x = 25 + 2 * j + 1
                · rw [fil_k (by omega)]
                · rw [fil_r hx]
              rw [hM]
              by_cases hx : x = 75
              · subst hx
                rw [fil_k (by omega), mu_o h2, e1]
              · rw [fil_r hx, mu_o h2, e1]
            have hw1 : ∀ p, p < (m 54 0).toNat → M 75 (40 * j + p) = cutv (m 73 j) (cpv (nv (m 54)) B p) := by
              intro p hp
              rw [hM, fil_in (by omega) (by omega)]
              congr 2
              omega
            have hw2 : ∀ p, p < (m 54 0).toNat → M (25 + 2 * j + 1) p = cutv (m 73 j) (cpv (nv (m 54)) B p) := by
              intro p hp
              rw [hM, fil_r (by omega), mu_r (by omega), hm1, fil_in0 hp]
            refine Inv_mk (IvS_of (fun k hk => hf _ _ (by omega) (by omega) (by omega)) (vw_same fun a k q1 q2 => hf _ _ (by omega) (by omega) (by omega)) (Inv_S hI)) (fun i hi2 => IvI_of (hf _ _ (by omega) (by omega) (by omega)) (hf _ _ (by omega) (by omega) (by omega)) (fun k hk => hf _ _ (by omega) (by omega) (by omega)) (vw_same fun a k q1 q2 => hf _ _ (by omega) (by omega) (by omega)) (Inv_I hI hi2)) ⟨fun i hi => ?_, fun i hi => ?_⟩ (IvT_of (hf _ _ (by omega) (by omega) (by omega)) (funext fun k => hf _ _ (by omega) (by omega) (by omega)) (hf _ _ (by omega) (by omega) (by omega)) (funext fun k => hf _ _ (by omega) (by omega) (by omega)) (Inv_T hI)) (IvF_of (funext fun k => hf _ _ (by omega) (by omega) (by omega)) (hf _ _ (by omega) (by omega) (by omega)) (hf _ _ (by omega) (by omega) (by omega)) (fun a k q1 q2 => hf _ _ (by omega) (by omega) (by omega)) (Inv_F hI))
            · obtain ⟨g1, g2, g3⟩ := (Inv_RWM hI) i hi
              rw [hf 73 i (by omega) (by omega) (by omega), hf 74 i (by omega) (by omega) (by omega)]
              refine ⟨g1, g2, fun x hx => ?_⟩
              by_cases h3 : i = j ∧ x < (m 54 0).toNat
              · rw [h3.1, hw1 x h3.2]; exact hct x (by omega)
              · rw [hf 75 _ (by omega) (by omega) (by omega)]
                exact g3 x hx
            · obtain ⟨g1, g2, g3⟩ := (Inv_RWM hI) i hi
              by_cases hij : i = j
              · subst hij
                refine ⟨⟨by rw [hf _ _ (by omega) (by omega) (by omega)]; exact hC.1, by rw [hf _ _ (by omega) (by omega) (by omega)]; exact hC.2.1, fun x hx => ?_⟩, Or.inr ⟨?_, ?_, ?_, fun x hx => ?_⟩⟩
                · by_cases hxk : x < (m 54 0).toNat
                  · rw [hw2 x hxk]; exact hct x (by omega)
                  · rw [hf _ _ (by omega) (by omega) (by omega)]; exact hC.2.2 x hx
                · rw [hf _ _ (by omega) (by omega) (by omega)]; exact k1
                · rw [hf _ _ (by omega) (by omega) (by omega), hf _ _ (by omega) (by omega) (by omega)]; exact k2
                · rw [hf _ _ (by omega) (by omega) (by omega), hf _ _ (by omega) (by omega) (by omega)]; exact k3
                · rw [hf 74 _ (by omega) (by omega) (by omega)] at hx
                  by_cases hxk : x < (m 54 0).toNat
                  · rw [hw1 x hxk, hw2 x hxk]
                  · rw [hf _ _ (by omega) (by omega) (by omega), hf _ _ (by omega) (by omega) (by omega)]
                    exact k4 x hx
              · exact row1_of (funext fun k => hf _ _ (by omega) (by omega) (by omega)) (funext fun k => hf _ _ (by omega) (by omega) (by omega)) (hf _ _ (by omega) (by omega) (by omega)) (hf _ _ (by omega) (by omega) (by omega)) (fun k hk => hf _ _ (by omega) (by omega) (by omega)) g2.2 ((Inv_R hI).2 i hi)
      · refine PK_2 (h1 := 3) (h2 := 3) (v := .inl (-3)) (R := fun m1 => m = m1) ?_ ?_ (by decide) (by decide)
        · refine u_158_0 ?_
          rw [hb, hr, e0, Int.toNat_natCast, eN, eNs, ← k2, e74]
          exact ⟨hR, fun _ => ⟨by omega, fun _ => ⟨hv, fun q => absurd q c3, fun _ => ⟨rfl, rfl⟩⟩, fun q => absurd c2 q⟩, fun q => absurd rfl q⟩
        · rintro _ rfl
          refine u_254_0 ?_
          rw [hb, hr, Int.toNat_natCast, e73, e74, eNs, ebd, t32 hb, show am_t 0 = 0 from rfl]
          exact ⟨fun _ => ⟨by omega, fun _ => ⟨fun _ => ⟨fun q => by omega, fun _ => ⟨rfl, Inv_t hI⟩⟩, fun q => absurd c2 q⟩, fun q => by omega⟩, fun q => by omega⟩
    · refine PK_2 (h1 := 3) (h2 := 3) (v := .inl (-7)) (R := fun m1 => m = m1) ?_ ?_ (by decide) (by decide)
      · refine u_158_0 ?_
        rw [hb, hr, e0, Int.toNat_natCast, eN, eNs, ← k2, e74]
        exact ⟨hR, fun _ => ⟨by omega, fun q => absurd q c2, fun _ => ⟨rfl, rfl⟩⟩, fun q => absurd rfl q⟩
      · rintro _ rfl
        refine u_254_0 ?_
        rw [hb, hr, Int.toNat_natCast, e73, e74, eNs]
        exact ⟨fun _ => ⟨by omega, fun _ => ⟨fun q => absurd q c2, fun _ => ⟨rfl, Inv_t hI⟩⟩, fun q => by omega⟩, fun q => by omega⟩
  · have e2 : rfu m r = -2 := by
      unfold rfu
      rw [if_neg c1]
    refine PK_2 (h1 := 3) (h2 := 3) (v := .inl (-2)) (R := fun m1 => m = m1) ?_ ?_ (by decide) (by decide)
    · refine u_158_0 ?_
      rw [hr, e2]
      exact ⟨hR, fun q => absurd q (by decide), fun _ => ⟨rfl, rfl⟩⟩
    · rintro _ rfl
      refine u_254_0 ?_
      rw [hr]
      exact ⟨fun q => by omega, fun _ => ⟨rfl, Inv_t hI⟩⟩
