theorem z_255   (m : am_M) (i : Int) (hq : 0 ≤ i ∧ i < 2) : ok 1 255 0 (am_ent 3 [.inr (.inr (some 53)), .inl i]) [] m (fun rr m' => rr = [.inl (0)] ∧ m' = mu (fil (mu m 53 0 0) 54 (56 * (i.toNat + 1)) 56 (m 54)) 55 i.toNat 1) := by
  show ok 1 255 0 [some (.inr (.inr (some 53))), some (.inl i), none] [] m _
  obtain ⟨j, rfl⟩ : ∃ j : Nat, i = (j : Int) := ⟨i.toNat, by omega⟩
  have es : am_s (j : Int) = (j : Int) := am_s_id (by omega) (by omega)
  refine u_255_0 ?_
  rw [es, Int.toNat_natCast]
  refine ⟨fun _ => ?_, fun q => by omega⟩
  have e54 : (mu m 53 0 0) 54 = m 54 := mu54
  refine ok_for (σ := Unit) (fun k _ => [some (.inr (.inr (some 53))), some (.inl (j : Int)), some (.inl (k : Int))]) (fun k _ M => M = fil (mu m 53 0 0) 54 (56 * (j + 1)) k (m 54)) 56 ?_ ?_ () _ fil_0.symm
  · rintro k hk - M rfl IH
    refine u_255_20 ?_
    have e1 : am_s (k : Int) = (k : Int) := am_s_id (by omega) (by omega)
    have e2 : am_s (56 * ((j : Int) + 1) + (k : Int)) = 56 * ((j : Int) + 1) + (k : Int) := am_s_id (by omega) (by omega)
    have e3 : (56 * ((j : Int) + 1) + (k : Int)).toNat = 56 * (j + 1) + k := by omega
    rw [e1, e2, e3, Int.toNat_natCast, fil_k (by omega), e54]
    refine ⟨fun q => by omega, fun _ => ⟨by omega, by omega, IH () _ ?_⟩⟩
    exact fil_st rfl
  · rintro - M rfl
    refine u_255_20 ?_
    rw [am_s_id (z := ((56 : Nat) : Int)) (by omega) (by omega), es, Int.toNat_natCast]
    exact ⟨fun _ => ⟨by omega, rfl, rfl⟩, fun q => by omega⟩
theorem z_256   (m : am_M) (i : Int) (hq : (0 ≤ i ∧ i < 2) ∧ m 55 i.toNat = 1) : ok 1 256 0 (am_ent 3 [.inr (.inr (some 53)), .inl i]) [] m (fun rr m' => rr = [.inl (0)] ∧ m' = fil (mu m 53 0 0) 54 0 56 (fun k => m 54 (56 * (i.toNat + 1) + k))) := by
  show ok 1 256 0 [some (.inr (.inr (some 53))), some (.inl i), none] [] m _
  obtain ⟨⟨h0, h1⟩, hb⟩ := hq
  obtain ⟨j, rfl⟩ : ∃ j : Nat, i = (j : Int) := ⟨i.toNat, by omega⟩
  have es : am_s (j : Int) = (j : Int) := am_s_id (by omega) (by omega)
  rw [Int.toNat_natCast] at hb ⊢
  refine u_256_0 ?_
  rw [es, Int.toNat_natCast]
  refine ⟨fun _ => ⟨by omega, fun _ => ?_, fun q => by rw [hb] at q; exact absurd q (by decide)⟩, fun q => by omega⟩
  have e54 : (mu m 53 0 0) 54 = m 54 := mu54
  refine ok_for (σ := Unit) (fun k _ => [some (.inr (.inr (some 53))), some (.inl (j : Int)), some (.inl (k : Int))]) (fun k _ M => M = fil (mu m 53 0 0) 54 0 k (fun k => m 54 (56 * (j + 1) + k))) 56 ?_ ?_ () _ fil_0.symm
  · rintro k hk - M rfl IH
    refine u_256_32 ?_
    have e1 : am_s (k : Int) = (k : Int) := am_s_id (by omega) (by omega)
    have e2 : am_s (56 * ((j : Int) + 1) + (k : Int)) = 56 * ((j : Int) + 1) + (k : Int) := am_s_id (by omega) (by omega)
    have e3 : (56 * ((j : Int) + 1) + (k : Int)).toNat = 56 * (j + 1) + k := by omega
    rw [e1, e2, e3, Int.toNat_natCast, fil_k (by omega), e54]
    refine ⟨fun q => by omega, fun _ => ⟨by omega, by omega, IH () _ ?_⟩⟩
    exact fil_st0 rfl
  · rintro - M rfl
    refine u_256_32 ?_
    rw [am_s_id (z := ((56 : Nat) : Int)) (by omega) (by omega)]
    exact ⟨fun _ => ⟨rfl, rfl⟩, fun q => by omega⟩
theorem z_251   (m : am_M) (r : Int) (a : Int) (n : Int) (hq : (0 ≤ r ∧ r < 4) ∧ (0 ≤ a ∧ a ≤ 3) ∧ (0 ≤ n ∧ n ≤ 40)) : ok 1 251 0 (am_ent 5 [.inr (.inr (some 53)), .inl r, .inl a, .inl n]) [] m (fun rr m' => rr = [.inl (0)] ∧ m' = fil (mu (mu (mu m 53 0 0) 73 r.toNat a) 74 r.toNat n) 75 (40 * r.toNat) n.toNat (fun _ => 0)) := by
  show ok 1 251 0 [some (.inr (.inr (some 53))), some (.inl r), some (.inl a), some (.inl n), none] [] m _
  obtain ⟨hr, ha, hn⟩ := hq
  obtain ⟨j, rfl⟩ : ∃ j : Nat, r = (j : Int) := ⟨r.toNat, by omega⟩
  obtain ⟨N, rfl⟩ : ∃ N : Nat, n = (N : Int) := ⟨n.toNat, by omega⟩
  rw [Int.toNat_natCast, Int.toNat_natCast]
  have e1 : am_s (j : Int) = (j : Int) := am_s_id (by omega) (by omega)
  have e2 : am_s a = a := am_s_id (by omega) (by omega)
  have e3 : am_s (N : Int) = (N : Int) := am_s_id (by omega) (by omega)
  refine u_251_0 ?_
  rw [e1, e2, e3, Int.toNat_natCast]
  refine ⟨fun q => by omega, fun _ => ⟨fun _ => ⟨fun _ => ⟨by omega, ?_⟩, fun q => by omega⟩, fun q => by omega⟩⟩
  refine ok_for (σ := Unit) (fun k _ => [some (.inr (.inr (some 53))), some (.inl (j : Int)), some (.inl a), some (.inl (N : Int)), some (.inl (k : Int))]) (fun k _ M => M = fil (mu (mu (mu m 53 0 0) 73 j a) 74 j (N : Int)) 75 (40 * j) k (fun _ => 0)) N ?_ ?_ () _ fil_0.symm
  · rintro k hk - M rfl IH
    refine u_251_64 ?_
    have e4 : am_s (k : Int) = (k : Int) := am_s_id (by omega) (by omega)
    have e5 : am_s (40 * (j : Int) + (k : Int)) = 40 * (j : Int) + (k : Int) := am_s_id (by omega) (by omega)
    have e6 : (40 * (j : Int) + (k : Int)).toNat = 40 * j + k := by omega
    rw [e3, e4, e5, e6]
    exact ⟨fun q => by omega, fun _ => ⟨by omega, IH () _ (fil_st rfl)⟩⟩
  · rintro - M rfl
    refine u_251_64 ?_
    rw [e3]
    exact ⟨fun _ => ⟨rfl, rfl⟩, fun q => by omega⟩
theorem tk_lo {m : am_M} {s t k : Nat} (h : ¬ (4 ≤ k ∧ k ≤ 11)) : tk m s t s k = m s k := by
  unfold tk
  rw [if_neg (by omega), if_neg (by omega)]
theorem P_image {m : am_M} {i : Int} (hi : am_s i = i) (hI : Inv m) : PK 159 2 255 3 [.inl i] m := by
  by_cases c : 0 ≤ i ∧ i < 2
  · obtain ⟨j, rfl⟩ : ∃ j : Nat, i = (j : Int) := ⟨i.toNat, by omega⟩
    refine PK_2 (h1 := 2) (h2 := 1) (v := .inl 0) (R := fun m1 => m1 = mu (tk m (15 + 5 * j) 2) 13 j 1) ?_ ?_ (by decide) (by decide)
    · refine u_159_0 ?_
      rw [hi, Int.toNat_natCast]
      exact ⟨fun q => by omega, fun _ => ⟨fun _ => ⟨by omega, by omega, rfl, rfl⟩, fun q => by omega⟩⟩
    · intro m1 e1
      refine (z_255 m1 (j : Int) c).imp fun r m2 h => ⟨h.1, ?_⟩
      obtain ⟨-, h⟩ := h
      rw [Int.toNat_natCast] at h
      have hj : j < 2 := by omega
      have hf : ∀ a k, ¬ (a = 53 ∧ k = 0) → ¬ (a = 54 ∧ 56 * (j + 1) ≤ k ∧ k < 56 * (j + 1) + 56) → ¬ (a = 55 ∧ k = j) → ¬ (a = 13 ∧ k = j) → (a < 15 + 5 * j ∨ 15 + 5 * j + 4 < a) → m2 a k = m a k := by
        intro a k h1 h2 h3 h4 h5
        rw [h, mu_o h3]
        by_cases ha : a = 54
        · subst ha
          rw [fil_k (by omega), mu_o h1, e1, mu_o h4, tk_r h5]
        · rw [fil_r ha, mu_o h1, e1, mu_o h4, tk_r h5]
      have e54 : m1 54 = m 54 := by rw [e1, mu_rf (by decide), tk_r (by omega)]
      have e13 : m2 13 j = 1 := by rw [h, mu_r (by decide), fil_r (by decide), mu_r (by decide), e1, mu_same]
      have e55 : m2 55 j = 1 := by rw [h, mu_same]
      have eim : ∀ k, k < 56 → img m2 j k = m 54 k := by
        intro k hk
        unfold img
        rw [h, mu_r (by decide), fil_in (by omega) (by omega), e54]
        congr 1
        omega
      have evw : vw m2 (15 + 5 * j) = vw (tk m (15 + 5 * j) 2) (15 + 5 * j) := vw_same fun a k q1 q2 => by
        rw [h, mu_r (by omega), fil_r (by omega), mu_r (by omega), e1, mu_r (by omega)]
      refine Inv_mk (IvS_of (fun k hk => hf _ _ (by omega) (by omega) (by omega) (by omega) (by omega)) (vw_same fun a k q1 q2 => hf _ _ (by omega) (by omega) (by omega) (by omega) (by omega)) (Inv_S hI)) (fun i hi2 => ?_) (IvR_of (fun a ha => funext fun k => hf _ _ (by omega) (by omega) (by omega) (by omega) (by omega)) (Inv_R hI)) (IvT_of (hf _ _ (by omega) (by omega) (by omega) (by omega) (by omega)) (funext fun k => hf _ _ (by omega) (by omega) (by omega) (by omega) (by omega)) (hf _ _ (by omega) (by omega) (by omega) (by omega) (by omega)) (funext fun k => hf _ _ (by omega) (by omega) (by omega) (by omega) (by omega)) (Inv_T hI)) (IvF_of (funext fun k => hf _ _ (by omega) (by omega) (by omega) (by omega) (by omega)) (hf _ _ (by omega) (by omega) (by omega) (by omega) (by omega)) (hf _ _ (by omega) (by omega) (by omega) (by omega) (by omega)) (fun a k q1 q2 => hf _ _ (by omega) (by omega) (by omega) (by omega) (by omega)) (Inv_F hI))
      by_cases hij : i = j
      · subst hij
        refine ⟨by rw [e13, e55], Or.inr ⟨e13, okg_of eim hI.1, ?_⟩⟩
        rw [evw, nv_tk, nv_of eim, Inv_nv hI]
        exact ⟨WFG_tk (Inv_vw hI), rfl⟩
      · exact IvI_of (hf _ _ (by omega) (by omega) (by omega) (by omega) (by omega)) (hf _ _ (by omega) (by omega) (by omega) (by omega) (by omega)) (fun k hk => hf _ _ (by omega) (by omega) (by omega) (by omega) (by omega)) (vw_same fun a k q1 q2 => hf _ _ (by omega) (by omega) (by omega) (by omega) (by omega)) (Inv_I hI hi2)
  · refine PK_2 (h1 := 2) (h2 := 1) (v := .inl (-2)) (R := fun m1 => m = m1) ?_ ?_ (by decide) (by decide)
    · refine u_159_0 ?_
      rw [hi]
      exact ⟨fun q => ⟨rfl, rfl⟩, fun _ => ⟨fun q => by omega, fun q => ⟨rfl, rfl⟩⟩⟩
    · rintro _ rfl
      refine u_255_0 ?_
      rw [hi]
      exact ⟨fun q => by omega, fun _ => ⟨rfl, Inv_t hI⟩⟩
theorem P_restore {m : am_M} {i : Int} (hi : am_s i = i) (hI : Inv m) : PK 160 2 256 3 [.inl i] m := by
  by_cases c : 0 ≤ i ∧ i < 2
  · obtain ⟨j, rfl⟩ : ∃ j : Nat, i = (j : Int) := ⟨i.toNat, by omega⟩
    have hj : j < 2 := by omega
    obtain ⟨hp1, hp2⟩ := Inv_I hI hj
    rcases hp2 with h0 | ⟨h1, ho, hvw, hnv⟩
    · refine PK_2 (h1 := 2) (h2 := 1) (v := .inl (-5)) (R := fun m1 => m = m1) ?_ ?_ (by decide) (by decide)
      · refine u_160_0 ?_
        rw [hi, Int.toNat_natCast, h0]
        exact ⟨fun q => by omega, fun _ => ⟨fun _ => ⟨by omega, fun q => absurd rfl q, fun _ => ⟨rfl, rfl⟩⟩, fun q => by omega⟩⟩
      · rintro _ rfl
        refine u_256_0 ?_
        rw [hi, Int.toNat_natCast, ← hp1, h0]
        exact ⟨fun _ => ⟨by omega, fun q => absurd rfl q, fun _ => ⟨rfl, Inv_t hI⟩⟩, fun q => by omega⟩
    · refine PK_2 (h1 := 2) (h2 := 1) (v := .inl 0) (R := fun m1 => m1 = tk m 2 (15 + 5 * j)) ?_ ?_ (by decide) (by decide)
      · refine u_160_0 ?_
        rw [hi, Int.toNat_natCast, h1]
        exact ⟨fun q => by omega, fun _ => ⟨fun _ => ⟨by omega, fun _ => ⟨by omega, rfl, rfl⟩, fun q => absurd q (by decide)⟩, fun q => by omega⟩⟩
      · intro m1 e1
        have e54 : m1 54 = m 54 := by rw [e1, tk_r (by omega)]
        have h55 : m1 55 j = 1 := by rw [e1, tk_r (by omega), ← hp1, h1]
        refine (z_256 m1 (j : Int) ⟨c, by rw [Int.toNat_natCast]; exact h55⟩).imp fun r m2 h => ⟨h.1, ?_⟩
        obtain ⟨-, h⟩ := h
        rw [Int.toNat_natCast, e54] at h
        have hf : ∀ a k, ¬ (a = 53 ∧ k = 0) → ¬ (a = 54 ∧ k < 56) → (a < 2 ∨ 6 < a) → m2 a k = m a k := by
          intro a k h1 h2 h5
          rw [h]
          by_cases ha : a = 54
          · subst ha
            rw [fil_k (by omega), mu_o h1, e54]
          · rw [fil_r ha, mu_o h1, e1, tk_r h5]
        have eim : ∀ k, k < 56 → m2 54 k = img m j k := by
          intro k hk
          rw [h, fil_in0 hk]
          rfl
        have evw : vw m2 2 = vw (tk m 2 (15 + 5 * j)) 2 := vw_same fun a k q1 q2 => by
          rw [h, fil_r (by omega), mu_r (by omega), e1]
        refine Inv_mk ⟨okg_of eim ho, ?_⟩ (fun i hi2 => IvI_of (hf _ _ (by omega) (by omega) (by omega)) (hf _ _ (by omega) (by omega) (by omega)) (fun k hk => hf _ _ (by omega) (by omega) (by omega)) (vw_same fun a k q1 q2 => hf _ _ (by omega) (by omega) (by omega)) (Inv_I hI hi2)) (IvR_of (fun a ha => funext fun k => hf _ _ (by omega) (by omega) (by omega)) (Inv_R hI)) (IvT_of (hf _ _ (by omega) (by omega) (by omega)) (funext fun k => hf _ _ (by omega) (by omega) (by omega)) (hf _ _ (by omega) (by omega) (by omega)) (funext fun k => hf _ _ (by omega) (by omega) (by omega)) (Inv_T hI)) (IvF_of (funext fun k => hf _ _ (by omega) (by omega) (by omega)) (hf _ _ (by omega) (by omega) (by omega)) (hf _ _ (by omega) (by omega) (by omega)) (fun a k q1 q2 => hf _ _ (by omega) (by omega) (by omega)) (Inv_F hI))
        rw [evw, nv_tk, nv_of eim, hnv]
        exact ⟨WFG_tk hvw, rfl⟩
  · refine PK_2 (h1 := 2) (h2 := 1) (v := .inl (-2)) (R := fun m1 => m = m1) ?_ ?_ (by decide) (by decide)
    · refine u_160_0 ?_
      rw [hi]
      exact ⟨fun q => ⟨rfl, rfl⟩, fun _ => ⟨fun q => by omega, fun q => ⟨rfl, rfl⟩⟩⟩
    · rintro _ rfl
      refine u_256_0 ?_
      rw [hi]
      exact ⟨fun q => by omega, fun _ => ⟨rfl, Inv_t hI⟩⟩
theorem row1_of {m m' : am_M} {j : Nat} (h1 : m' (25 + 2 * j) = m (25 + 2 * j)) (h2 : m' (25 + 2 * j + 1) = m (25 + 2 * j + 1)) (h3 : m' 73 j = m 73 j) (h4 : m' 74 j = m 74 j) (h5 : ∀ k, k < 40 → m' 75 (40 * j + k) = m 75 (40 * j + k)) (hr : m 74 j ≤ 40) (h : row1 m j) : row1 m' j := by
  unfold row1 RWC at h ⊢
  rw [h1, h2, h3, h4]
  refine ⟨h.1, h.2.imp id fun q => ⟨q.1, q.2.1, q.2.2.1, fun k hk => ?_⟩⟩
  rw [h5 k (by omega)]
  exact q.2.2.2 k hk
theorem P_numbers {m : am_M} {r a n : Int} (hr : am_s r = r) (ha : am_s a = a) (hn : am_s n = n) (hI : Inv m) : PK 153 4 251 5 [.inl r, .inl a, .inl n] m := by
  by_cases c1 : (0 ≤ r ∧ r < 4) ∧ (0 ≤ a ∧ a ≤ 3)
  · by_cases c2 : 0 ≤ n ∧ n ≤ 40
    · obtain ⟨c1, c3⟩ := c1
      obtain ⟨j, rfl⟩ : ∃ j : Nat, r = (j : Int) := ⟨r.toNat, by omega⟩
      have hj : j < 4 := by omega
      refine PK_2 (h1 := 2) (h2 := 1) (v := .inl 0) (R := fun m1 => m1 = flm (mu (mu m (25 + 2 * j) 1 a) (25 + 2 * j) 2 n) (25 + 2 * j + 1) 40 0) ?_ ?_ (by decide) (by decide)
      · refine u_153_0 ?_
        rw [hr, ha, hn, Int.toNat_natCast]
        refine ⟨fun q => by omega, fun _ => ⟨fun q => by omega, fun _ => ⟨fun _ => ⟨fun q => by omega, fun _ => ⟨fun _ => ⟨by omega, rfl, ?_⟩, fun q => by omega⟩⟩, fun q => by omega⟩⟩⟩
        unfold w_154
        rw [hn, if_neg (by omega), if_pos (show n ≤ am_s 40 by rw [show am_s 40 = 40 from rfl]; omega)]
      · intro m1 e1
        refine (z_251 m1 (j : Int) a n ⟨c1, c3, c2⟩).imp fun q m2 h => ⟨h.1, ?_⟩
        obtain ⟨-, h⟩ := h
        rw [Int.toNat_natCast] at h
        have hflm : ∀ x y, ¬ (x = 25 + 2 * j + 1 ∧ y < 40) → ¬ (x = 25 + 2 * j ∧ (y = 1 ∨ y = 2)) → m1 x y = m x y := by
          intro x y h1 h2
          rw [e1]
          unfold flm
          rw [if_neg h1, mu_o (by omega), mu_o (by omega)]
        have hf : ∀ x y, ¬ (x = 25 + 2 * j + 1 ∧ y < 40) → ¬ (x = 25 + 2 * j ∧ (y = 1 ∨ y = 2)) → ¬ (x = 53 ∧ y = 0) → ¬ ((x = 73 ∨ x = 74) ∧ y = j) → ¬ (x = 75 ∧ 40 * j ≤ y ∧ y < 40 * j + n.toNat) → m2 x y = m x y := by
          intro x y h1 h2 h3 h4 h5
          rw [h]
          by_cases hx : x = 75
          · subst hx
            rw [fil_k (by omega), mu_o (by omega), mu_o (by omega), mu_o h3, hflm _ _ h1 h2]
          · rw [fil_r hx, mu_o (by omega), mu_o (by omega), mu_o h3, hflm _ _ h1 h2]
        have e73 : m2 73 j = a := by rw [h, fil_r (by decide), mu_r (by decide), mu_same]
        have e74 : m2 74 j = n := by rw [h, fil_r (by decide), mu_same]
        have e75 : ∀ k, k < n.toNat → m2 75 (40 * j + k) = 0 := by
          intro k hk
          rw [h, fil_in (by omega) (by omega)]
        have eR : ∀ x y, x = 25 + 2 * j ∨ x = 25 + 2 * j + 1 → m2 x y = m1 x y := by
          intro x y hx
          rw [h, fil_r (by omega), mu_r (by omega), mu_r (by omega), mu_r (by omega)]
        have eR1 : m2 (25 + 2 * j) 1 = a := by
          rw [eR _ _ (by omega), e1]
          unfold flm
          rw [if_neg (by omega), mu_k (by decide), mu_same]
        have eR2 : m2 (25 + 2 * j) 2 = n := by
          rw [eR _ _ (by omega), e1]
          unfold flm
          rw [if_neg (by omega), mu_same]
        have eR3 : ∀ k, k < 40 → m2 (25 + 2 * j + 1) k = 0 := by
          intro k hk
          rw [eR _ _ (by omega), e1]
          unfold flm
          rw [if_pos ⟨rfl, hk⟩]
        refine Inv_mk (IvS_of (fun k hk => hf _ _ (by omega) (by omega) (by omega) (by omega) (by omega)) (vw_same fun a k q1 q2 => hf _ _ (by omega) (by omega) (by omega) (by omega) (by omega)) (Inv_S hI)) (fun i hi2 => IvI_of (hf _ _ (by omega) (by omega) (by omega) (by omega) (by omega)) (hf _ _ (by omega) (by omega) (by omega) (by omega) (by omega)) (fun k hk => hf _ _ (by omega) (by omega) (by omega) (by omega) (by omega)) (vw_same fun a k q1 q2 => hf _ _ (by omega) (by omega) (by omega) (by omega) (by omega)) (Inv_I hI hi2)) ⟨fun i hi => ?_, fun i hi => ?_⟩ (IvT_of (hf _ _ (by omega) (by omega) (by omega) (by omega) (by omega)) (funext fun k => hf _ _ (by omega) (by omega) (by omega) (by omega) (by omega)) (hf _ _ (by omega) (by omega) (by omega) (by omega) (by omega)) (funext fun k => hf _ _ (by omega) (by omega) (by omega) (by omega) (by omega)) (Inv_T hI)) (IvF_of (funext fun k => hf _ _ (by omega) (by omega) (by omega) (by omega) (by omega)) (hf _ _ (by omega) (by omega) (by omega) (by omega) (by omega)) (hf _ _ (by omega) (by omega) (by omega) (by omega) (by omega)) (fun a k q1 q2 => hf _ _ (by omega) (by omega) (by omega) (by omega) (by omega)) (Inv_F hI))
        · obtain ⟨g1, g2, g3⟩ := (Inv_RWM hI) i hi
          by_cases hij : i = j
          · subst hij
            rw [e73, e74]
            refine ⟨by omega, by omega, fun k hk => ?_⟩
            by_cases hk2 : k < n.toNat
            · rw [e75 k hk2]; rfl
            · rw [hf 75 _ (by omega) (by omega) (by omega) (by omega) (by omega)]
              exact g3 k hk
          · rw [hf 73 i (by omega) (by omega) (by omega) (by omega) (by omega), hf 74 i (by omega) (by omega) (by omega) (by omega) (by omega)]
            refine ⟨g1, g2, fun k hk => ?_⟩
            rw [hf 75 _ (by omega) (by omega) (by omega) (by omega) (by omega)]
            exact g3 k hk
        · obtain ⟨g1, g2, g3⟩ := (Inv_RWM hI) i hi
          by_cases hij : i = j
          · subst hij
            refine ⟨⟨by rw [eR2]; omega, by rw [eR1]; omega, fun k hk => by rw [eR3 k hk]; rfl⟩, Or.inr ⟨by rw [eR2]; omega, by rw [e74, eR2], by rw [e73, eR1], fun k hk => ?_⟩⟩
            rw [e74] at hk
            rw [e75 k (by omega), eR3 k (by omega)]
          · exact row1_of (funext fun k => hf _ _ (by omega) (by omega) (by omega) (by omega) (by omega)) (funext fun k => hf _ _ (by omega) (by omega) (by omega) (by omega) (by omega)) (hf _ _ (by omega) (by omega) (by omega) (by omega) (by omega)) (hf _ _ (by omega) (by omega) (by omega) (by omega) (by omega)) (fun k hk => hf _ _ (by omega) (by omega) (by omega) (by omega) (by omega)) g2.2 ((Inv_R hI).2 i hi)
    · refine PK_2 (h1 := 2) (h2 := 1) (v := .inl (-3)) (R := fun m1 => m = m1) ?_ ?_ (by decide) (by decide)
      · refine u_153_0 ?_
        rw [hr, ha, hn]
        exact ⟨fun q => by omega, fun _ => ⟨fun q => by omega, fun _ => ⟨fun _ => ⟨fun q => ⟨rfl, rfl⟩, fun _ => ⟨fun _ => by omega, fun q => ⟨rfl, rfl⟩⟩⟩, fun q => by omega⟩⟩⟩
      · rintro _ rfl
        refine u_251_0 ?_
        rw [hr, ha, hn]
        exact ⟨fun q => by omega, fun _ => ⟨fun _ => ⟨fun q => by omega, fun _ => ⟨rfl, Inv_t hI⟩⟩, fun q => by omega⟩⟩
  · refine PK_2 (h1 := 2) (h2 := 1) (v := .inl (-2)) (R := fun m1 => m = m1) ?_ ?_ (by decide) (by decide)
    · refine u_153_0 ?_
      rw [hr, ha, hn]
      exact ⟨fun q => ⟨rfl, rfl⟩, fun _ => ⟨fun q => ⟨rfl, rfl⟩, fun _ => ⟨fun _ => by omega, fun q => ⟨rfl, rfl⟩⟩⟩⟩
    · rintro _ rfl
      refine u_251_0 ?_
      rw [hr, ha, hn]
      exact ⟨fun _ => ⟨rfl, Inv_t hI⟩, fun _ => ⟨fun q => by omega, fun _ => ⟨rfl, Inv_t hI⟩⟩⟩
/-- a number cut to what a row keeps -/
def cutv (s v : Int) : Int := if s = 0 then am_s (am_b8 v) else if s = 1 then am_s (am_b16 v) else if s = 2 then am_s v else v
theorem v253 {m : am_M} {v s : Int} (hs : am_s s = s) : v_253 m v s = cutv s v := by
  unfold v_253 cutv
  rw [hs, show am_s 1 = 1 from rfl, show am_s 2 = 2 from rfl, ite_n, ite_n, ite_n]
theorem cutv_t {s v : Int} (hv : am_t v = v) : am_t (cutv s v) = cutv s v := by
  unfold cutv
  split
  · exact am_t_s _
  · split
    · exact am_t_s _
    · split
      · exact am_t_s _
      · exact hv
theorem w157 {m : am_M} {R : Nat} {i : Nat} {v : Int} (h : RWC m R) (hi : (i : Int) < m R 2) : w_157 m R (i : Int) v = mu m (R + 1) i (cutv (m R 1) v) := by
  obtain ⟨h1, h2, -⟩ := h
  unfold w_157 cutv
  rw [am_s_id (z := (i : Int)) (by omega) (by omega), am_s_id (z := m R 2) (by omega) (by omega), am_s_id (z := m R 1) (by omega) (by omega), if_neg (by omega), if_pos hi, Int.toNat_natCast]
  split
  · rfl
  · split
    · rfl
    · split <;> rfl
theorem P_write {m : am_M} {r i v : Int} (hr : am_s r = r) (hi : am_s i = i) (hv : am_t v = v) (hI : Inv m) : PK 156 6 252 5 [.inl r, .inl i, .inr (.inl v)] m := by
  have hR := Inv_RWS hI
  by_cases c1 : 0 ≤ r ∧ r < 4
  · obtain ⟨j, rfl⟩ : ∃ j : Nat, r = (j : Int) := ⟨r.toNat, by omega⟩
    have hj : j < 4 := by omega
    obtain ⟨g1, g2, g3⟩ := (Inv_RWM hI) j hj
    have e73 : am_s (m 73 j) = m 73 j := am_s_id (by omega) (by omega)
    have hC := hR j hj
    have hC21 := hC.2.1
    have es2 : am_s (m (25 + 2 * j) 2) = m (25 + 2 * j) 2 := am_s_id (by have := hC.1; omega) (by have := hC.1; omega)
    rcases Inv_row hI hj with ⟨k1, k2⟩ | ⟨k1, k2, k3, k4⟩
    · have e6 : rfu m (j : Int) = -6 := by
        unfold rfu
        rw [if_pos c1, Int.toNat_natCast, if_pos k1]
      refine PK_2 (h1 := 2) (h2 := 1) (v := .inr (.inl (-6))) (R := fun m1 => m = m1) ?_ ?_ (by decide) (by decide)
      · refine u_156_0 ?_
        rw [hr, hi, e6]
        exact ⟨hR, fun q => absurd q (by decide), fun _ => ⟨rfl, rfl⟩⟩
      · rintro _ rfl
        refine u_252_0 ?_
        rw [hr, hi, Int.toNat_natCast, e73, k2]
        exact ⟨fun _ => ⟨by omega, fun q => absurd rfl q, fun _ => ⟨rfl, Inv_t hI⟩⟩, fun q => by omega⟩
    · have e0 : rfu m (j : Int) = 0 := rfu_0.mpr ⟨c1, by rw [Int.toNat_natCast]; exact k1⟩
      have en : am_s (m 74 j - 1) = m 74 j - 1 := am_s_id (by omega) (by omega)
      have en2 : am_t (m 74 j - 1) = m 74 j - 1 := am_t_id (by omega) (by omega)
      by_cases c2 : 0 ≤ i ∧ i < m 74 j
      · obtain ⟨k, rfl⟩ : ∃ k : Nat, i = (k : Int) := ⟨i.toNat, by omega⟩
        have hk : k < 40 := by omega
        have ew : w_157 m (25 + 2 * j) (k : Int) v = mu m (25 + 2 * j + 1) k (cutv (m 73 j) v) := by
          rw [w157 hC (by rw [← k2]; exact c2.2), k3]
        refine PK_2 (h1 := 2) (h2 := 1) (v := .inr (.inl (cutv (m 73 j) v))) (R := fun m1 => m1 = mu m (25 + 2 * j + 1) k (cutv (m 73 j) v)) ?_ ?_ (by decide) (by decide)
        · refine u_156_0 ?_
          rw [hr, hi, e0, Int.toNat_natCast, es2, ew]
          refine ⟨hR, fun _ => ⟨fun q => by omega, fun _ => ⟨by omega, fun _ => ⟨?_, ⟨?_, ?_, fun y hy => ?_⟩, ?_, rfl⟩, fun q => by omega⟩⟩, fun q => absurd rfl q⟩
          · unfold q_157
            rw [hi]
            have := hC.2.1
            intro _ _
            exact ⟨fun _ => by omega, fun _ => by omega, fun _ => by omega, by omega⟩
          · rw [mu_r (by omega)]; exact hC.1
          · rw [mu_r (by omega)]; exact hC.2.1
          · rw [mu_if]
            split
            · exact cutv_t hv
            · exact hC.2.2 y hy
          · rw [rat_in (by rw [mu_r (by omega)]; omega), mu_same]
        · intro m1 e1
          refine u_252_0 ?_
          have f73 : m1 73 = m 73 := by rw [e1, mu_rf (by omega)]
          have f74 : m1 74 = m 74 := by rw [e1, mu_rf (by omega)]
          have e5 : am_s (40 * (j : Int) + (k : Int)) = 40 * (j : Int) + (k : Int) := am_s_id (by omega) (by omega)
          have e6 : (40 * (j : Int) + (k : Int)).toNat = 40 * j + k := by omega
          rw [hr, hi, Int.toNat_natCast, f73, f74, e73, en, t32 hi, en2, v253 e73, e5, e6, show am_t 0 = 0 from rfl]
          refine ⟨fun _ => ⟨by omega, fun _ => ⟨fun _ => ⟨by omega, rfl, ?_⟩, fun q => by omega⟩, fun q => by omega⟩, fun q => by omega⟩
          have hf : ∀ x y, ¬ (x = 25 + 2 * j + 1 ∧ y = k) → ¬ (x = 53 ∧ y = 0) → ¬ (x = 75 ∧ y = 40 * j + k) → (mu (mu m1 53 0 0) 75 (40 * j + k) (cutv (m 73 j) v)) x y = m x y := by
            intro x y h1 h2 h3
            rw [mu_o h3, mu_o h2, e1, mu_o h1]
          have hw1 : (mu (mu m1 53 0 0) 75 (40 * j + k) (cutv (m 73 j) v)) 75 (40 * j + k) = cutv (m 73 j) v := mu_same
          have hw2 : (mu (mu m1 53 0 0) 75 (40 * j + k) (cutv (m 73 j) v)) (25 + 2 * j + 1) k = cutv (m 73 j) v := by rw [mu_r (by omega), mu_r (by omega), e1, mu_same]
          generalize (mu (mu m1 53 0 0) 75 (40 * j + k) (cutv (m 73 j) v)) = m2 at hf hw1 hw2 ⊢
          refine Inv_mk (IvS_of (fun k hk => hf _ _ (by omega) (by omega) (by omega)) (vw_same fun a k q1 q2 => hf _ _ (by omega) (by omega) (by omega)) (Inv_S hI)) (fun i hi2 => IvI_of (hf _ _ (by omega) (by omega) (by omega)) (hf _ _ (by omega) (by omega) (by omega)) (fun k hk => hf _ _ (by omega) (by omega) (by omega)) (vw_same fun a k q1 q2 => hf _ _ (by omega) (by omega) (by omega)) (Inv_I hI hi2)) ⟨fun i hi => ?_, fun i hi => ?_⟩ (IvT_of (hf _ _ (by omega) (by omega) (by omega)) (funext fun k => hf _ _ (by omega) (by omega) (by omega)) (hf _ _ (by omega) (by omega) (by omega)) (funext fun k => hf _ _ (by omega) (by omega) (by omega)) (Inv_T hI)) (IvF_of (funext fun k => hf _ _ (by omega) (by omega) (by omega)) (hf _ _ (by omega) (by omega) (by omega)) (hf _ _ (by omega) (by omega) (by omega)) (fun a k q1 q2 => hf _ _ (by omega) (by omega) (by omega)) (Inv_F hI))
          · obtain ⟨g1, g2, g3⟩ := (Inv_RWM hI) i hi
            rw [hf 73 i (by omega) (by omega) (by omega), hf 74 i (by omega) (by omega) (by omega)]
            refine ⟨g1, g2, fun x hx => ?_⟩
            by_cases h3 : 40 * i + x = 40 * j + k
            · rw [h3, hw1]; exact cutv_t hv
            · rw [hf 75 _ (by omega) (by omega) (by omega)]
              exact g3 x hx
          · obtain ⟨g1, g2, g3⟩ := (Inv_RWM hI) i hi
            by_cases hij : i = j
            · subst hij
              refine ⟨⟨by rw [hf _ _ (by omega) (by omega) (by omega)]; exact hC.1, by rw [hf _ _ (by omega) (by omega) (by omega)]; exact hC.2.1, fun x hx => ?_⟩, Or.inr ⟨?_, ?_, ?_, fun x hx => ?_⟩⟩
              · by_cases hxk : x = k
                · rw [hxk, hw2]; exact cutv_t hv
                · rw [hf _ _ (by omega) (by omega) (by omega)]; exact hC.2.2 x hx
              · rw [hf _ _ (by omega) (by omega) (by omega)]; exact k1
              · rw [hf _ _ (by omega) (by omega) (by omega), hf _ _ (by omega) (by omega) (by omega)]; exact k2
              · rw [hf _ _ (by omega) (by omega) (by omega), hf _ _ (by omega) (by omega) (by omega)]; exact k3
              · rw [hf 74 _ (by omega) (by omega) (by omega)] at hx
                by_cases hxk : x = k
                · rw [hxk, hw1, hw2]
                · rw [hf _ _ (by omega) (by omega) (by omega), hf _ _ (by omega) (by omega) (by omega)]
                  exact k4 x hx
            · exact row1_of (funext fun k => hf _ _ (by omega) (by omega) (by omega)) (funext fun k => hf _ _ (by omega) (by omega) (by omega)) (hf _ _ (by omega) (by omega) (by omega)) (hf _ _ (by omega) (by omega) (by omega)) (fun k hk => hf _ _ (by omega) (by omega) (by omega)) g2.2 ((Inv_R hI).2 i hi)
      · refine PK_2 (h1 := 2) (h2 := 1) (v := .inr (.inl (-7))) (R := fun m1 => m = m1) ?_ ?_ (by decide) (by decide)
        · refine u_156_0 ?_
          rw [hr, hi, e0, Int.toNat_natCast, es2]
          exact ⟨hR, fun _ => ⟨fun q => ⟨rfl, rfl⟩, fun _ => ⟨by omega, fun q => by omega, fun _ => ⟨rfl, rfl⟩⟩⟩, fun q => absurd rfl q⟩
        · rintro _ rfl
          refine u_252_0 ?_
          rw [hr, hi, Int.toNat_natCast, e73, en, t32 hi, en2, show am_t 0 = 0 from rfl]
          exact ⟨fun _ => ⟨by omega, fun _ => ⟨fun q => by omega, fun _ => ⟨rfl, Inv_t hI⟩⟩, fun q => by omega⟩, fun q => by omega⟩
  · have e2 : rfu m r = -2 := by
      unfold rfu
      rw [if_neg c1]
    refine PK_2 (h1 := 2) (h2 := 1) (v := .inr (.inl (-2))) (R := fun m1 => m = m1) ?_ ?_ (by decide) (by decide)
    · refine u_156_0 ?_
      rw [hr, hi, e2]
      exact ⟨hR, fun q => absurd q (by decide), fun _ => ⟨rfl, rfl⟩⟩
    · rintro _ rfl
      refine u_252_0 ?_
      rw [hr, hi]
      exact ⟨fun q => by omega, fun _ => ⟨rfl, Inv_t hI⟩⟩
