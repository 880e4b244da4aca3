theorem dd_congr {f f' g : Nat → Int} : ∀ n, (∀ k, k < n → f k = f' k) → dst f g n = dst f' g n ∧ dlen f g n = dlen f' g n := by
  intro n
  induction n with
  | zero => intro _; exact ⟨rfl, rfl⟩
  | succ n ih =>
    intro h
    obtain ⟨h1, h2⟩ := ih fun k hk => h k (by omega)
    rw [dst_s, dst_s, dlen_s, dlen_s, h1, h2, h n (by omega)]
    exact ⟨rfl, rfl⟩
theorem dst_congr {f f' g : Nat → Int} {n k : Nat} (h : ∀ k, k < n → f k = f' k) (hk : k ≤ n) : dst f g k = dst f' g k := (dd_congr k fun i hi => h i (by omega)).1
theorem dst_0 {f g : Nat → Int} : ∀ n, dst f g n 0 = g 0 := by
  intro n
  induction n with
  | zero => rfl
  | succ n ih =>
    rw [dst_s]
    unfold dy
    rw [nv_lo (by decide), dyk_lo (by decide) (by decide), ih]
theorem dlen_in {f g : Nat → Int} : ∀ n i, i < dlen f g n → rfs (dst f g i) (f i) = 0 := by
  intro n
  induction n with
  | zero => intro i hi; exact absurd hi (Nat.not_lt_zero _)
  | succ n ih =>
    intro i hi
    rw [dlen_s] at hi
    split at hi
    · rename_i hc
      by_cases h : i = n
      · rw [h]; exact hc.2
      · exact ih i (by omega)
    · exact ih i hi
theorem dlen_ne {f g : Nat → Int} : ∀ n, dlen f g n < n → rfs (dst f g (dlen f g n)) (f (dlen f g n)) ≠ 0 := by
  intro n
  induction n with
  | zero => intro h; exact absurd h (Nat.not_lt_zero _)
  | succ n ih =>
    intro h
    rw [dlen_s] at h ⊢
    split
    · rename_i hc
      rw [if_pos hc] at h
      omega
    · rename_i hc
      rw [if_neg hc] at h
      have hl := dlen_le f g n
      by_cases he : dlen f g n = n
      · rw [he]
        intro q
        exact hc ⟨he, q⟩
      · exact ih (by omega)
theorem told_rng {f g : Nat → Int} {n i : Nat} (h0 : g 0 ≤ 12) (h : i < dlen f g n) : 0 ≤ f i ∧ f i < 4096 := by
  obtain ⟨z1, z2, -, -⟩ := rfs_0 (dlen_in n i h)
  have hb := brl_lt (g := dst f g i) (by rw [dst_0]; exact h0)
  have hs := sub_le z2
  omega
theorem P_perform {m : am_M} {a : Int} (ha : am_s a = a) (hI : Inv m) : PK 58 3 201 2 [.inl a] m := by
  have hR := Inv_RWS hI
  have hw := Inv_wf hI
  by_cases c1 : 0 ≤ a ∧ a < 4
  · obtain ⟨j, rfl⟩ : ∃ j : Nat, a = (j : Int) := ⟨a.toNat, by omega⟩
    have hj : j < 4 := by omega
    obtain ⟨g1, g2, g3⟩ := (Inv_RWM hI) j hj
    have e73 : am_s (m 73 j) = m 73 j := am_s_id (by omega) (by omega)
    have hC := hR j hj
    have hC21 := hC.2.1
    rcases Inv_row hI hj with ⟨k1, k2⟩ | ⟨k1, k2, k3, k4⟩
    · have e6 : rfu m (j : Int) = -6 := by
        unfold rfu
        rw [if_pos c1, Int.toNat_natCast, if_pos k1]
      refine PK_2 (h1 := 4) (h2 := 4) (v := .inl (-6)) (R := fun m1 => m = m1) ?_ ?_ (by decide) (by decide)
      · refine u_58_0 ?_
        rw [ha, e6]
        exact ⟨hR, fun q => absurd q (by decide), fun _ => ⟨rfl, rfl⟩⟩
      · rintro _ rfl
        refine u_201_0 ?_
        rw [ha, Int.toNat_natCast, e73, k2]
        exact ⟨fun _ => ⟨by omega, fun q => absurd rfl q, fun _ => ⟨rfl, Inv_t hI⟩⟩, fun q => by omega⟩
    · have e0 : rfu m (j : Int) = 0 := rfu_0.mpr ⟨c1, by rw [Int.toNat_natCast]; exact k1⟩
      have hcg : ∀ k, k < (m 74 j).toNat → m (25 + 2 * j + 1) k = rwf m j k := fun k hk => (k4 k (by omega)).symm
      obtain ⟨d1, d2⟩ := dd_congr (g := nv (m 54)) _ hcg
      have hle := dlen_le (rwf m j) (nv (m 54)) (m 74 j).toNat
      refine PK_2 (h1 := 4) (h2 := 4) (v := .inl ((dlen (rwf m j) (nv (m 54)) (m 74 j).toNat : Nat) : Int)) (R := fun m1 => Q_55 m 2 (25 + 2 * j) m1) ?_ ?_ (by decide) (by decide)
      · refine u_58_0 ?_
        rw [ha, e0, Int.toNat_natCast]
        refine ⟨hR, fun _ => ⟨by omega, ⟨⟨Inv_vw hI, Inv_dt hI⟩, hC, k1⟩, fun m1 hm => ⟨?_, hm⟩⟩, fun q => absurd rfl q⟩
        rw [Inv_nv hI, ← k2, d2]
      · rintro m1 ⟨q1, q2, q3, q4⟩
        have e54 : (mu m1 53 0 0) 54 = m 54 := by rw [mu54, q4 54 (by omega)]
        have f73 : m1 73 = m 73 := q4 73 (by omega)
        have f74 : (mu m1 53 0 0) 74 = m 74 := by rw [mu_rf (by decide), q4 74 (by omega)]
        have f75 : (mu m1 53 0 0) 75 = m 75 := by rw [mu_rf (by decide), q4 75 (by omega)]
        have hRM : RWM (mu m1 53 0 0) := by
          have := Inv_RWM hI
          unfold RWM at this ⊢
          rw [f74, f75, mu_rf (by decide), f73]
          exact this
        have erw : rwf (mu m1 53 0 0) j = rwf m j := by
          unfold rwf
          rw [f75]
        refine u_201_0 ?_
        rw [ha, Int.toNat_natCast, f73, e73, e54, f74, erw]
        refine ⟨fun _ => ⟨by omega, fun _ => ⟨⟨⟨hw, hI.1.2.1⟩, hRM, c1⟩, fun m2 hm => ⟨rfl, ?_⟩⟩, fun q => by omega⟩, fun q => by omega⟩
        unfold Q_199 at hm
        rw [Int.toNat_natCast, e54, f74, erw] at hm
        obtain ⟨p1, ⟨p2, p3⟩, p4, p5, -, -⟩ := hm
        have e2 : vw m2 2 = vw m1 2 := vw_same fun x k h1 h2 => by rw [p5 x k (by omega) (by omega), mu_r (by omega)]
        refine Inv_sh hI ⟨p2, p3, p4 hI.1.2.2⟩ ?_ fun x k hc h1 h2 => ?_
        · rw [e2, q1, p1, Inv_nv hI, ← k2, d2]
          exact ⟨q2.1, dst_congr hcg (by omega)⟩
        · unfold core at hc
          rw [p5 x k h2 (by omega), mu_o (by omega), q4 x (by omega)]
  · have e2 : rfu m a = -2 := by
      unfold rfu
      rw [if_neg c1]
    refine PK_2 (h1 := 4) (h2 := 4) (v := .inl (-2)) (R := fun m1 => m = m1) ?_ ?_ (by decide) (by decide)
    · refine u_58_0 ?_
      rw [ha, e2]
      exact ⟨hR, fun q => absurd q (by decide), fun _ => ⟨rfl, rfl⟩⟩
    · rintro _ rfl
      refine u_201_0 ?_
      rw [ha]
      exact ⟨fun q => by omega, fun _ => ⟨rfl, Inv_t hI⟩⟩
/-- the trial shelf alone has changed -/
theorem Inv_tr {m m' : am_M} (h : ∀ a, a < 7 ∨ 11 < a → m' a = m a) (hT : TRB m') (hI : Inv m) : Inv m' := by
  obtain ⟨h1, h2, h3, ⟨h4a, h4⟩, h5, h6⟩ := hI
  have e54 : m' 54 = m 54 := h 54 (by omega)
  refine ⟨by rw [e54]; exact h1, ?_, fun i hi => ?_, ⟨?_, fun j hj => ?_⟩, ?_, ?_⟩
  · rw [vw_same (m' := m') (m := m) fun a k q1 q2 => by rw [h a (by omega)], e54]
    exact h2
  · have hv : vw m' (15 + 5 * i) = vw m (15 + 5 * i) := vw_same fun a k q1 q2 => by rw [h a (by omega)]
    have hi2 : img m' i = img m i := by unfold img; rw [e54]
    rw [h 13 (by omega), h 55 (by omega), hv, hi2]
    exact h3 i hi
  · unfold RWM at h4a ⊢
    rw [h 73 (by omega), h 74 (by omega), h 75 (by omega)]
    exact h4a
  · have hr : m' (25 + 2 * j) = m (25 + 2 * j) := h _ (by omega)
    have hr1 : m' (25 + 2 * j + 1) = m (25 + 2 * j + 1) := h _ (by omega)
    unfold row1 RWC
    rw [h 73 (by omega), h 74 (by omega), h 75 (by omega), hr, hr1]
    exact h4 j hj
  · rw [h 0 (by omega), h 53 (by omega), h 1 (by omega), h 56 (by omega)]
    exact h5
  · rw [h 33 (by omega), h 53 (by omega)]
    exact ⟨h6.1, h6.2.1, hT⟩
/-- told days that were only tried: what the model's numbers are afterwards -/
theorem again_kpC {m m1 m2 : am_M} (h1 : m1 = fil (mu m 53 0 0) 58 0 56 ((mu m 53 0 0) 54)) (h2 : ∀ a k, ¬ (a = 54 ∧ k < 56) → ¬ (a = 53 ∧ (k = 16 ∨ k = 17)) → m2 a k = m1 a k) : kpC m (fil m2 54 0 56 (m2 58)) := by
  intro a k hc
  by_cases ha : a = 54
  · subst ha
    by_cases hk : k < 56
    · rw [fil_in0 hk, h2 58 k (by omega) (by omega), h1, fil_in0 hk, mu_r (by decide)]
    · rw [fil_k (by omega), h2 54 k (by omega) (by omega), h1, fil_r (by decide), mu_r (by decide)]
  · unfold core at hc
    rw [fil_r ha, h2 a k (by omega) (by omega), h1, fil_r (by omega), mu_o (by omega)]
theorem P_judge {m : am_M} {a b : Int} (ha : am_s a = a) (hb : am_s b = b) (hI : Inv m) : PK 52 6 197 5 [.inl a, .inl b] m := by
  have hR := Inv_RWS hI
  have hw := Inv_wf hI
  have hv := Inv_vw hI
  by_cases c1 : (0 ≤ a ∧ a < 4) ∧ (0 ≤ b ∧ b ≤ 3)
  · obtain ⟨c1, c2⟩ := c1
    obtain ⟨j, rfl⟩ : ∃ j : Nat, a = (j : Int) := ⟨a.toNat, by omega⟩
    have hj : j < 4 := by omega
    obtain ⟨g1, g2, g3⟩ := (Inv_RWM hI) j hj
    have e73 : am_s (m 73 j) = m 73 j := am_s_id (by omega) (by omega)
    have hC := hR j hj
    have hC21 := hC.2.1
    rcases Inv_row hI hj with ⟨k1, k2⟩ | ⟨k1, k2, k3, k4⟩
    · refine PK_2 (h1 := 4) (h2 := 4) (v := .inl (-6)) (R := fun m1 => m = m1) ?_ ?_ (by decide) (by decide)
      · refine u_52_0 ?_
        rw [ha, hb, Int.toNat_natCast]
        exact ⟨fun q => absurd c1 q, fun _ => ⟨fun q => by omega, fun _ => ⟨fun _ => ⟨by omega, hC, fun q => absurd k1 q, fun _ => ⟨rfl, rfl⟩⟩, fun q => by omega⟩⟩⟩
      · rintro _ rfl
        refine u_197_0 ?_
        rw [ha, hb, Int.toNat_natCast, e73, k2]
        exact ⟨fun q => by omega, fun _ => ⟨fun _ => ⟨by omega, fun q => absurd rfl q, fun _ => ⟨rfl, Inv_t hI⟩⟩, fun q => by omega⟩⟩
    · have hcg : ∀ k, k < (m 74 j).toNat → m (25 + 2 * j + 1) k = rwf m j k := fun k hk => (k4 k (by omega)).symm
      obtain ⟨d1, d2⟩ := dd_congr (g := nv (m 54)) _ hcg
      have hle := dlen_le (rwf m j) (nv (m 54)) (m 74 j).toNat
      have hst := dst_congr (g := nv (m 54)) hcg hle
      have hin := fun i (hi : i < dlen (rwf m j) (nv (m 54)) (m 74 j).toNat) => told_rng (nv0_le hw) hi
      have hne := dlen_ne (f := rwf m j) (g := nv (m 54)) (m 74 j).toNat
      generalize hD : dlen (rwf m j) (nv (m 54)) (m 74 j).toNat = D at *
      have hrg := rfs_rng (dst (rwf m j) (nv (m 54)) D) (rwf m j D)
      -- the answer
      refine PK_2 (h1 := 4) (h2 := 4) (v := .inl (if b = 0 then (if D = (m 74 j).toNat then -1 else (D : Int)) else if b = 1 then (if D = (m 74 j).toNat then 0 else rfs (dst (rwf m j) (nv (m 54)) D) (rwf m j D)) else if b = 2 then ((ons (dst (rwf m j) (nv (m 54)) D) 1 : Nat) : Int) else sm (fun i => ((cnt (rwf m j i).toNat 12 : Nat) : Int)) D)) (R := fun m1 => (∀ a, a < 7 ∨ 11 < a → m1 a = m a) ∧ TRB m1) ?_ ?_ (by decide) (by decide)
      · refine u_52_0 ?_
        rw [ha, hb, Int.toNat_natCast]
        have et : ∀ a, a < 7 ∨ 11 < a → tk m 7 2 a = m a := fun a h => tk_r h
        have et1 : tk m 7 2 (25 + 2 * j + 1) = m (25 + 2 * j + 1) := et _ (by omega)
        have et2 : tk m 7 2 (25 + 2 * j) = m (25 + 2 * j) := et _ (by omega)
        have et3 : nv (vw (tk m 7 2) 7) = nv (m 54) := by rw [nv_tk, Inv_nv hI]
        have et4 : tk m 7 2 7 11 = m 2 11 := vw_tk_lo (m := m) (s := 7) (t := 2) (k := 1) (by decide)
        have hC2 : RWC (tk m 7 2) (25 + 2 * j) := RWC_of et2 et1 hC
        rw [et1, et2, et3, et4, ← k2, d2]
        refine ⟨fun q => absurd c1 q, fun _ => ⟨fun q => by omega, fun _ => ⟨fun _ => ⟨by omega, hC, fun _ => ⟨by decide, ⟨⟨WFG_tk hv, Inv_dt hI⟩, hC2, by omega⟩, fun m1 hm => ?_⟩, fun q => by omega⟩, fun q => by omega⟩⟩⟩
        unfold Q_55 at hm
        rw [et1, et2, et3, ← k2, d2, hst] at hm
        obtain ⟨q1, q2, q3, q4⟩ := hm
        have f2 : m1 (25 + 2 * j) = m (25 + 2 * j) := by rw [q4 _ (by omega), et2]
        have f3 : m1 (25 + 2 * j + 1) = m (25 + 2 * j + 1) := by rw [q4 _ (by omega), et1]
        have hC3 : RWC m1 (25 + 2 * j) := RWC_of f2 f3 hC
        have hfr : (∀ a, a < 7 ∨ 11 < a → m1 a = m a) ∧ TRB m1 := ⟨fun a h => by rw [q4 a (by omega), et a h], TRB_of q2.1⟩
        intro y1 hy1
        rw [f2, ← k2, am_s_id (z := (D : Int)) (by omega) (by omega), am_s_id (z := m 74 j) (by omega) (by omega)] at hy1
        have hy : am_s y1 = 0 ↔ ¬ D = (m 74 j).toNat := by
          rw [hy1, ite_n, as_ite]
          omega
        rw [am_s_id (z := (D : Int)) (by omega) (by omega), q1]
        have erat : D < (m 74 j).toNat → rat m1 (25 + 2 * j) (D : Int) = rwf m j D := by
          intro h
          rw [rat_in (by rw [f2]; omega), f3, hcg D h]
        refine ⟨fun q y hy2 => ⟨?_, hfr⟩, fun q => ⟨fun _ => hC3, fun _ => ⟨q2, rat_t hC3⟩, fun y hy3 => ⟨?_, hfr⟩⟩, fun q => ⟨q2.1, ?_, hfr⟩, fun q => ⟨⟨hC3, by rw [f2]; omega, fun i hi => ?_⟩, ?_, hfr⟩⟩
        · rw [hy2, if_pos q]
          by_cases h : D = (m 74 j).toNat
          · rw [if_neg (fun k => hy.mp k h), if_pos h]
          · rw [if_pos (hy.mpr h), if_neg h]
        · rw [hy3, if_neg (show ¬ b = 0 by omega), if_pos q]
          by_cases h : D = (m 74 j).toNat
          · rw [if_neg (fun k => hy.mp k h), if_pos h]
          · rw [if_pos (hy.mpr h), if_neg h, erat (by omega)]
        · rw [if_neg (by omega), if_neg (by omega), if_pos q, show am_s 1 = 1 from rfl]
        · rw [Int.toNat_natCast] at hi
          rw [f3, hcg i (by omega)]
          exact hin i hi
        · rw [if_neg (by omega), if_neg (by omega), if_neg (by omega), Int.toNat_natCast]
          congr 2
          refine sm_congr _ fun p hp => ?_
          rw [f3, hcg p (by omega)]
      · rintro m1 ⟨hfr, hTr⟩
        have f73 : m1 73 = m 73 := hfr 73 (by omega)
        refine u_197_0 ?_
        rw [ha, hb, Int.toNat_natCast, f73, e73]
        refine ⟨fun q => by omega, fun _ => ⟨fun _ => ⟨by omega, fun _ m2 hm2 => ?_, fun q => by omega⟩, fun q => by omega⟩⟩
        have e54 : m2 54 = m 54 := by rw [hm2, fil_rf (by decide), mu54, hfr 54 (by omega)]
        have f73' : m2 73 = m 73 := by rw [hm2, fil_rf (by decide), mu_rf (by decide), f73]
        have f74 : m2 74 = m 74 := by rw [hm2, fil_rf (by decide), mu_rf (by decide), hfr 74 (by omega)]
        have f75 : m2 75 = m 75 := by rw [hm2, fil_rf (by decide), mu_rf (by decide), hfr 75 (by omega)]
        have hRM : RWM m2 := by
          have := Inv_RWM hI
          unfold RWM at this ⊢
          rw [f73', f74, f75]
          exact this
        have erw : rwf m2 j = rwf m j := by
          unfold rwf
          rw [f75]
        rw [e54]
        refine ⟨⟨⟨hw, hI.1.2.1⟩, hRM, c1⟩, fun m3 hm => ?_⟩
        unfold Q_199 at hm
        rw [Int.toNat_natCast, e54, f74, erw, hD] at hm
        obtain ⟨p1, ⟨p2, p3⟩, p4, p5, p6, p7⟩ := hm
        refine ⟨p2, fun y hy => ⟨?_, ?_⟩⟩
        · rw [fil_r (by decide), fil_r (by decide), p6, p7, p1, f74, erw, hD, show am_s 1 = 1 from rfl, show am_s 2 = 2 from rfl, ite_n, ite_n, ite_n, ite_n] at hy
          rw [hy]
          congr 2
          split
          · by_cases h : D = (m 74 j).toNat
            · rw [if_pos h, if_pos h, if_pos (show am_s 0 = 0 from rfl)]
            · rw [if_neg h, if_neg h, am_s_id (by omega) (by omega), if_neg (hne (by omega))]
          · rfl
        · exact Inv_kpC (again_kpC hm2 p5) (Inv_tr hfr hTr hI)
  · refine PK_2 (h1 := 4) (h2 := 4) (v := .inl (-2)) (R := fun m1 => m = m1) ?_ ?_ (by decide) (by decide)
    · refine u_52_0 ?_
      rw [ha, hb]
      exact ⟨fun _ => ⟨rfl, rfl⟩, fun _ => ⟨fun _ => ⟨rfl, rfl⟩, fun _ => ⟨fun _ => by omega, fun _ => ⟨rfl, rfl⟩⟩⟩⟩
    · rintro _ rfl
      refine u_197_0 ?_
      rw [ha, hb]
      exact ⟨fun _ => ⟨rfl, Inv_t hI⟩, fun _ => ⟨fun q => by omega, fun _ => ⟨rfl, Inv_t hI⟩⟩⟩
/-- days on which none is turned -/
def dyz (g : Nat → Int) : Nat → (Nat → Int)
  | 0 => g
  | i + 1 => dy 0 (dyz g i)
theorem P_leftAlone {m : am_M} {n : Int} (hn : am_s n = n) (hI : Inv m) : PK 61 3 203 3 [.inl n] m := by
  have hw := Inv_wf hI
  have hv := Inv_vw hI
  by_cases c : 0 ≤ n ∧ n ≤ 30
  · obtain ⟨N, rfl⟩ : ∃ N : Nat, n = (N : Int) := ⟨n.toNat, by omega⟩
    refine PK_2 (h1 := 2) (h2 := 3) (v := .inl ((ons (dyz (nv (m 54)) N) 1 : Nat) : Int)) (R := fun m1 => (∀ a, a < 7 ∨ 11 < a → m1 a = m a) ∧ TRB m1) ?_ ?_ (by decide) (by decide)
    · refine u_61_0 ?_
      rw [hn]
      refine ⟨fun q => by omega, fun _ => ⟨fun _ => ⟨by decide, ?_⟩, fun q => by omega⟩⟩
      have et4 : tk m 7 2 7 11 = m 2 11 := vw_tk_lo (m := m) (s := 7) (t := 2) (k := 1) (by decide)
      refine ok_for (σ := Unit) (fun i _ => [some (.inr (.inr (some 0))), some (.inl (N : Int)), some (.inl (i : Int))]) (fun i _ M => nv (vw M 7) = dyz (nv (m 54)) i ∧ WFG (vw M 7) ∧ M 7 11 ≤ 9999 + (i : Int) ∧ ∀ a, a < 7 ∨ 11 < a → M a = m a) N ?_ ?_ () _ ⟨by rw [nv_tk, Inv_nv hI]; rfl, WFG_tk hv, by rw [et4]; have := Inv_dt hI; omega, fun a h => tk_r h⟩
      · rintro i hi - M ⟨h1, h2, h3, h4⟩ IH
        refine u_61_26 ?_
        rw [hn, am_s_id (z := (i : Int)) (by omega) (by omega)]
        refine ⟨fun q => by omega, fun _ => ⟨⟨h2, by omega, by omega⟩, IH () _ ⟨?_, ?_, ?_, ?_⟩⟩⟩
        · rw [nv_pw h2, h1]; rfl
        · exact WFG_pw h2 (by omega)
        · rw [pw_11]; omega
        · intro a h
          rw [pw_r (by omega), h4 a h]
      · rintro - M ⟨h1, h2, h3, h4⟩
        refine u_61_26 ?_
        rw [hn, h1]
        exact ⟨fun _ => ⟨h2, rfl, h4, TRB_of h2⟩, fun q => by omega⟩
    · rintro m1 ⟨hfr, hTr⟩
      refine u_203_0 ?_
      rw [hn]
      refine ⟨fun _ m2 hm2 => ?_, fun q => by omega⟩
      have e54 : m2 54 = m 54 := by rw [hm2, fil_rf (by decide), mu54, hfr 54 (by omega)]
      refine ok_for (σ := Unit) (fun i _ => [some (.inr (.inr (some 53))), some (.inl (N : Int)), some (.inl (i : Int))]) (fun i _ M => nv (M 54) = dyz (nv (m 54)) i ∧ WFG (M 54) ∧ M 54 1 ≤ 9999 + (i : Int) ∧ ∀ a k, ¬ (a = 54 ∧ k < 56) → M a k = m2 a k) N ?_ ?_ () m2 ⟨by rw [e54]; rfl, by rw [e54]; exact hw, by rw [e54]; have := hI.1.2.1; omega, fun a k h => rfl⟩
      · rintro i hi - M ⟨h1, h2, h3, h4⟩ IH
        refine u_203_26 ?_
        rw [hn, am_s_id (z := (i : Int)) (by omega) (by omega)]
        refine ⟨fun q => by omega, fun _ => ⟨⟨h2, by omega, by omega⟩, IH () _ ⟨?_, ?_, ?_, ?_⟩⟩⟩
        · rw [nv_gw h2, h1]; rfl
        · exact WFG_gw h2 (by omega)
        · rw [gw_1]; omega
        · intro a k h
          rw [gw_fr h2.1.2 h, h4 a k h]
      · rintro - M ⟨h1, h2, h3, h4⟩
        refine u_203_26 ?_
        rw [hn, h1]
        refine ⟨fun _ => ⟨h2, rfl, ?_⟩, fun q => by omega⟩
        exact Inv_kpC (again_kpC hm2 (fun a k q1 q2 => h4 a k q1)) (Inv_tr hfr hTr hI)
  · refine PK_2 (h1 := 2) (h2 := 3) (v := .inl (-3)) (R := fun m1 => m = m1) ?_ ?_ (by decide) (by decide)
    · refine u_61_0 ?_
      rw [hn]
      exact ⟨fun q => ⟨rfl, rfl⟩, fun _ => ⟨fun _ => by omega, fun q => ⟨rfl, rfl⟩⟩⟩
    · rintro _ rfl
      refine u_203_0 ?_
      rw [hn]
      exact ⟨fun q => by omega, fun _ => ⟨rfl, Inv_t hI⟩⟩
