theorem Mv_w {S : Nat → Bool} {r : Nat → Int} {N : Nat} {w w' : Nat → Int} {n k T : Nat} (h : ∀ j, j < n → w j = w' j) : Mv S r N w n k T = Mv S r N w' n k T := by
  have hu : ∀ x, uK w n k x = uK w' n k x := fun x => cf_congr n fun j hj => by rw [h j hj]
  have h1 := Mv_ok S r N w' n k T
  refine Mv_eq ⟨fun x hx => ?_, ?_⟩
  · rw [hu]
    exact h1.1 x hx
  · obtain ⟨x, x1, x2⟩ := h1.2
    exact ⟨x, x1, by rw [hu]; exact x2⟩
noncomputable def orv (S : Nat → Bool) (r : Nat → Int) (N : Nat) (w : Nat → Int) (n : Nat) (x : Int) : Int := if x = 0 then ((Mv S r N w n 0 0 : Nat) : Int) else if x - 10 < (n : Int) then plv (ORC S r N w n (x - 10).toNat (tsq S r N w n (x - 10).toNat)) N else -1
theorem P_orders {m : am_M} {a x : Int} (ha : am_s a = a) (hx : am_s x = x) (hI : Inv m) : PK 136 5 245 7 [.inl a, .inl x] m := by
  have hR := Inv_RWS hI
  have hv := Inv_vw hI
  have hw := Inv_wf hI
  have hN := hw.1
  by_cases c1 : 0 ≤ a ∧ a < 4
  · by_cases c2 : x = 0 ∨ (10 ≤ x ∧ x ≤ 19)
    · obtain ⟨J, rfl⟩ : ∃ J : Nat, a = (J : Int) := ⟨a.toNat, by omega⟩
      have hJ : J < 4 := by omega
      obtain ⟨g1, g2, g3⟩ := (Inv_RWM hI) J hJ
      have e73 : am_s (m 73 J) = m 73 J := am_s_id (by omega) (by omega)
      have e74 : am_s (m 74 J) = m 74 J := am_s_id (by omega) (by omega)
      have hC := hR J hJ
      have hC1 := hC.1
      have eC : am_s (m (25 + 2 * J) 2) = m (25 + 2 * J) 2 := am_s_id (by omega) (by omega)
      have hrow : 25 + 2 * J ∈ rowL := by
        have : ∀ j, j < 4 → 25 + 2 * j ∈ rowL := by decide
        exact this J hJ
      -- the two ways into the same place
      have into1 : ∀ {Q : List am_V → am_M → Prop}, (m (25 + 2 * J) 2 < 0 → Q [.inl (-6)] m) → (¬ m (25 + 2 * J) 2 < 0 → 10 < m (25 + 2 * J) 2 → Q [.inl (-4)] m) → (¬ m (25 + 2 * J) 2 < 0 → m (25 + 2 * J) 2 ≤ 10 → ok 6 136 58 [some (.inr (.inr (some 0))), some (.inl (J : Int)), some (.inl x), some (.inr (.inr (some (25 + 2 * J)))), some (.inl 0)] [] m Q) → ok 6 136 0 (am_ent 5 [.inr (.inr (some 0)), .inl (J : Int), .inl x]) [] m Q := by
        intro Q h1 h2 h3
        refine u_136_0 ?_
        rw [ha, hx, Int.toNat_natCast, eC]
        refine ⟨fun q => absurd c1 q, fun _ => ⟨fun q => ⟨by omega, hC, fun q2 => ⟨h3 q2, fun q3 => h2 q2 (by omega)⟩, h1⟩, fun q => ⟨fun q2 => by omega, fun _ => ⟨fun _ => ⟨by omega, hC, fun q2 => ⟨h3 q2, fun q3 => h2 q2 (by omega)⟩, h1⟩, fun q2 => by omega⟩⟩⟩⟩
      have into2 : ∀ {Q : List am_V → am_M → Prop} (m1 : am_M), m1 73 = m 73 → m1 74 = m 74 → (m 73 J = -1 → Q [.inl (-6)] (mu m1 53 0 0)) → (¬ m 73 J = -1 → 10 < m 74 J → Q [.inl (-4)] (mu m1 53 0 0)) → (¬ m 73 J = -1 → m 74 J ≤ 10 → ok 5 245 67 [some (.inr (.inr (some 53))), some (.inl (J : Int)), some (.inl x), some (.inl 0), none, none, none] [] (mu m1 53 0 0) Q) → ok 5 245 0 (am_ent 7 [.inr (.inr (some 53)), .inl (J : Int), .inl x]) [] m1 Q := by
        intro Q m1 f1 f2 h1 h2 h3
        refine u_245_0 ?_
        rw [ha, hx, Int.toNat_natCast, f1, f2, e73, e74]
        refine ⟨fun q => by omega, fun _ => ⟨fun q => ⟨by omega, fun q2 => ⟨h3 q2, fun q3 => h2 q2 (by omega)⟩, h1⟩, fun q => ⟨fun _ => ⟨by omega, fun q2 => ⟨h3 q2, fun q3 => h2 q2 (by omega)⟩, h1⟩, fun q2 => by omega⟩⟩⟩
      rcases Inv_row hI hJ with ⟨k1, k2⟩ | ⟨k1, k2, k3, k4⟩
      · refine PK_2 (h1 := 6) (h2 := 5) (v := .inl (-6)) (R := fun m1 => m = m1) ?_ ?_ (by decide) (by decide)
        · exact into1 (fun _ => ⟨rfl, rfl⟩) (fun q => absurd k1 q) (fun q => absurd k1 q)
        · rintro _ rfl
          exact into2 m rfl rfl (fun _ => ⟨rfl, Inv_t hI⟩) (fun q => absurd k2 q) (fun q => absurd k2 q)
      · have k3' : ¬ m 73 J = -1 := by have := hC.2.1; omega
        by_cases c3 : m 74 J ≤ 10
        · obtain ⟨n, hnv⟩ : ∃ n : Nat, m 74 J = (n : Int) := ⟨(m 74 J).toNat, by omega⟩
          have hnr : m (25 + 2 * J) 2 = (n : Int) := by rw [← k2, hnv]
          have hwe : ∀ k : Nat, k < n → rat m (25 + 2 * J) (k : Int) = rwf m J k := fun k hk => by
            rw [rat_in (by omega)]
            exact (k4 k (by omega)).symm
          have hge : ∀ k : Nat, k < n → (0 ≤ am_s (am_lcmp (rwf m J k) 0) ↔ 0 ≤ rwf m J k) := fun k hk => by
            have := lcmp_lt (a := rwf m J k) (b := 0)
            rw [show am_t (rwf m J k) = rwf m J k from g3 k (by omega), show am_t 0 = 0 from rfl] at this
            omega
          by_cases c4 : ∀ k : Nat, k < n → 0 ≤ rwf m J k
          · -- all orders can be
            have hO : OPR m (25 + 2 * J) := ⟨hv, by rw [Inv_nv hI]; exact SLT_nv hI.1.2.2, hC, by omega, fun k hk => by rw [hwe k (by omega)]; exact c4 k (by omega)⟩
            refine PK_2 (h1 := 6) (h2 := 5) (v := .inl (orv (sdp (nv (m 54))) (rpn (nv (m 54))) (m 54 0).toNat (fun u => rat m (25 + 2 * J) (u : Int)) n x)) (R := fun m1 => kpC m m1) ?_ ?_ (by decide) (by decide)
            · refine into1 (fun q => by omega) (fun q q2 => by omega) (fun _ _ => ?_)
              refine ok_for (σ := Unit) (fun i _ => [some (.inr (.inr (some 0))), some (.inl (J : Int)), some (.inl x), some (.inr (.inr (some (25 + 2 * J)))), some (.inl (i : Int))]) (fun i _ M => M = m) n ?_ ?_ () m rfl
              · rintro i hi - M hM IH
                rw [hM]
                refine u_136_58 hrow ?_
                rw [hnr, am_s_id (z := (n : Int)) (by omega) (by omega), am_s_id (z := (i : Int)) (by omega) (by omega), hwe i hi, hge i hi]
                exact ⟨fun q => by omega, fun _ => ⟨hC, fun _ => IH () m rfl, fun q => absurd (c4 i hi) q⟩⟩
              · rintro - M hM
                rw [hM]
                have hkp : ∀ m1 : am_M, (∀ b, b ≠ 47 → b ≠ 48 → m1 b = m b) → kpC m m1 := fun m1 h b k hc => by unfold core at hc; rw [h b (by omega) (by omega)]
                refine u_136_58 hrow ?_
                rw [hnr, am_s_id (z := (n : Int)) (by omega) (by omega), hx, Inv_nv hI, Inv_N hI]
                simp only [Int.toNat_natCast]
                unfold orv
                refine ⟨fun _ => ⟨fun q => ⟨⟨hO, by omega, by omega⟩, fun m1 h => ⟨by rw [if_neg q], hkp m1 h⟩⟩, fun q => ⟨hO, fun m1 h => ⟨by rw [if_pos q], hkp m1 h⟩⟩⟩, fun q => by omega⟩
            · intro m1 hk
              obtain ⟨w1, w2, w3, w4, w5, w6, w7⟩ := mod_pre (a := 0) hI hk
              have w54 : (mu m1 53 0 0) 54 = m 54 := kpC_f w7 (by omega)
              have w74 : (mu m1 53 0 0) 74 = m 74 := kpC_f w7 (by omega)
              have w75 : (mu m1 53 0 0) 75 = m 75 := kpC_f w7 (by omega)
              refine into2 m1 (kpC_f hk (by omega)) (kpC_f hk (by omega)) (fun q => absurd q k3') (fun _ q => by omega) (fun _ _ => ?_)
              generalize mu m1 53 0 0 = m2 at *
              have hOM : OPM m2 J := ⟨w1, by rw [w4]; exact SLT_nv hI.1.2.2, w2, hJ, by rw [w74]; exact c3, fun k hk => by
                rw [w74, hnv] at hk
                rw [w5]
                exact c4 k (by omega)⟩
              refine ok_for (σ := Unit) (fun i _ => [some (.inr (.inr (some 53))), some (.inl (J : Int)), some (.inl x), some (.inl (i : Int)), none, none, none]) (fun i _ M => M = m2) n ?_ ?_ () m2 rfl
              · rintro i hi - M hM IH
                rw [hM]
                have e1 : am_s (40 * (J : Int) + (i : Int)) = 40 * (J : Int) + (i : Int) := am_s_id (by omega) (by omega)
                have e2 : (40 * (J : Int) + (i : Int)).toNat = 40 * J + i := by omega
                have e3 := hge i hi
                have e4 := c4 i hi
                unfold rwf at e3 e4
                refine u_245_67 ?_
                rw [ha, Int.toNat_natCast, w74, hnv, am_s_id (z := (n : Int)) (by omega) (by omega), am_s_id (z := (i : Int)) (by omega) (by omega), e1, e2, w75, e3]
                exact ⟨by omega, fun q => by omega, fun _ => ⟨by omega, fun _ => IH () m2 rfl, fun q => absurd e4 q⟩⟩
              · rintro - M hM
                rw [hM]
                refine u_245_67 ?_
                rw [ha, Int.toNat_natCast, w74, hnv, am_s_id (z := (n : Int)) (by omega) (by omega), hx, w54, w5]
                refine ⟨by omega, fun _ => ⟨⟨by omega, hOM⟩, fun m3 hm3 => ?_⟩, fun q => by omega⟩
                obtain ⟨t1, t2⟩ := hm3
                rw [Int.toNat_natCast] at t1
                obtain ⟨N, hNv⟩ : ∃ N : Nat, m 54 0 = (N : Int) := ⟨(m 54 0).toNat, by omega⟩
                have t1' : ∀ k T : Nat, k ≤ n → T < 2 ^ N → m3 70 (4096 * k + T) = ((Mv (sdp (nv (m 54))) (rpn (nv (m 54))) N (fun u => rat m (25 + 2 * J) (u : Int)) n k T : Nat) : Int) := by
                  intro k T h1 h2
                  have := t1 k T (by omega) (by rw [hNv, Int.toNat_natCast]; exact h2)
                  rw [hNv, Int.toNat_natCast] at this
                  rw [this, Mv_w fun j hj => (hwe j hj).symm]
                have hI3 : Inv m3 := Inv_kpC (fun b k hc => by unfold core at hc; rw [t2 b (by omega)]) w6
                unfold orv
                rw [hNv, Int.toNat_natCast]
                refine ⟨fun q => ?_, fun q => ⟨?_, hI3⟩⟩
                · rw [if_neg q]
                  have hOM3 : OPM m3 J := by
                    have hh := hOM
                    unfold OPM at hh ⊢
                    unfold RWM rwf at hh ⊢
                    rw [t2 54 (by decide), t2 73 (by decide), t2 74 (by decide), t2 75 (by decide)]
                    exact hh
                  obtain ⟨K, hK⟩ : ∃ K : Nat, x - 10 = (K : Int) := ⟨(x - 10).toNat, by omega⟩
                  rw [hK, Int.toNat_natCast]
                  have hp12 : 2 ^ N ≤ 2 ^ 12 := Nat.pow_le_pow_right (by decide) (by omega)
                  have e24 : m3 54 = m 54 := by rw [t2 54 (by decide), w54]
                  have e274 : m3 74 J = (n : Int) := by rw [t2 74 (by decide), w74, hnv]
                  have e275 : rwf m3 J = rwf m J := by
                    unfold rwf
                    rw [t2 75 (by decide), w75]
                  have h247 : ∀ p k : Nat, p < N → k < n → q_247 m3 (J : Int) (k : Int) (p : Int) ∧ (am_s (v_247 m3 (J : Int) (k : Int) (p : Int)) = 0 ↔ ¬ (sdp (nv (m 54)) p = true ∧ rpn (nv (m 54)) p ≤ (fun u : Nat => rat m (25 + 2 * J) (u : Int)) k)) := by
                    intro p k hp hk
                    have := v247 hOM3 (p := p) (k := k) (by rw [e24, hNv]; omega) (by rw [e274]; omega)
                    rw [e24, e275, ← hwe k hk] at this
                    exact this
                  have hMl : ∀ k T, Mv (sdp (nv (m 54))) (rpn (nv (m 54))) N (fun u => rat m (25 + 2 * J) (u : Int)) n k T ≤ n := fun k T => IM_le (fun p hp hs => by
                    have := OPM_rp hOM3 (p := p) (by rw [e24, hNv]; omega) (by rw [e24]; exact hs)
                    rw [e24] at this
                    exact this.1) (Mv_ok _ _ _ _ _ _ _)
                  generalize sdp (nv (m 54)) = S at *
                  generalize rpn (nv (m 54)) = R at *
                  generalize (fun u : Nat => rat m (25 + 2 * J) (u : Int)) = w at *
                  have inner : ∀ k : Nat, k < n → ∀ {Q : List am_V → am_M → Prop}, (K = k → Q [.inl (plv (ORC S R N w n k (tsq S R N w n k)) N)] m3) → (¬ K = k → ok 5 245 123 [some (.inr (.inr (some 53))), some (.inl (J : Int)), some (.inl x), some (.inl ((tsq S R N w n (k + 1) : Nat) : Int)), some (.inl ((k : Int) + 1)), none, none] [] m3 Q) → ok 5 245 123 [some (.inr (.inr (some 53))), some (.inl (J : Int)), some (.inl x), some (.inl ((tsq S R N w n k : Nat) : Int)), some (.inl (k : Int)), none, none] [] m3 Q := by
                    intro k hkn Q hQ1 hQ2
                    have hts := tsq_lt (S := S) (r := R) (N := N) (w := w) (n := n) k
                    have hMk := hMl k (tsq S R N w n k)
                    have t70 := t1' k (tsq S R N w n k) (by omega) hts
                    refine u_245_123 ?_
                    rw [ha, Int.toNat_natCast, e274, am_s_id (z := (n : Int)) (by omega) (by omega), am_s_id (z := (k : Int)) (by omega) (by omega), e24, hNv]
                    refine ⟨by omega, fun q => by omega, fun _ => ?_⟩
                    have key := ok_for (d := 5) (mi := 245) (pc := 147) (Q := Q) (σ := Int) (fun i y => [some (.inr (.inr (some 53))), some (.inl (J : Int)), some (.inl x), some (.inl ((tsq S R N w n k : Nat) : Int)), some (.inl (k : Int)), some (.inl y), some (.inl ((N : Int) - 1 - (i : Int)))]) (fun i y M => M = m3 ∧ ((∃ p : Nat, N ≤ p + i ∧ p < N ∧ ORC S R N w n k (tsq S R N w n k) p ∧ (∀ q, N ≤ q + i → q < p → ¬ ORC S R N w n k (tsq S R N w n k) q) ∧ y = (p : Int)) ∨ ((∀ q, N ≤ q + i → q < N → ¬ ORC S R N w n k (tsq S R N w n k) q) ∧ y = -1))) N ?_ ?_ (-1) m3 ⟨rfl, Or.inr ⟨fun q h1 h2 => by omega, rfl⟩⟩
                    · simp only [Int.natCast_zero, Int.sub_zero] at key
                      exact key
                    · rintro i hi y M ⟨hM, hy⟩ IH
                      rw [hM]
                      obtain ⟨p, hp⟩ : ∃ p : Nat, (N : Int) - 1 - (i : Int) = (p : Int) := ⟨N - 1 - i, by omega⟩
                      have hpN : p < N := by omega
                      obtain ⟨z1, z2⟩ := h247 p k hpN hkn
                      have hpl : 2 ^ p < 2 ^ N := Nat.pow_lt_pow_right (by decide) hpN
                      have hor : am_or ((tsq S R N w n k : Nat) : Int) (am_shl 1 (p : Int)) = ((tsq S R N w n k ||| 2 ^ p : Nat) : Int) := by
                        rw [bx_shl1 p (by omega)]
                        exact bx_or12 (by omega) (by omega)
                      have horB : tsq S R N w n k ||| 2 ^ p < 2 ^ N := Nat.or_lt_two_pow hts hpl
                      have eo : am_s (4096 * ((k : Int) + 1) + ((tsq S R N w n k ||| 2 ^ p : Nat) : Int)) = 4096 * ((k : Int) + 1) + ((tsq S R N w n k ||| 2 ^ p : Nat) : Int) := am_s_id (by omega) (by omega)
                      have no : (4096 * ((k : Int) + 1) + ((tsq S R N w n k ||| 2 ^ p : Nat) : Int)).toNat = 4096 * (k + 1) + (tsq S R N w n k ||| 2 ^ p) := by omega
                      have eo2 : am_s (4096 * (k : Int) + ((tsq S R N w n k : Nat) : Int)) = 4096 * (k : Int) + ((tsq S R N w n k : Nat) : Int) := am_s_id (by omega) (by omega)
                      have no2 : (4096 * (k : Int) + ((tsq S R N w n k : Nat) : Int)).toNat = 4096 * k + tsq S R N w n k := by omega
                      have e70 := t1' (k + 1) (tsq S R N w n k ||| 2 ^ p) (by omega) horB
                      have hMo := hMl (k + 1) (tsq S R N w n k ||| 2 ^ p)
                      have hnx : (p : Int) + (-1) = (N : Int) - 1 - ((i + 1 : Nat) : Int) := by omega
                      have skip : ¬ ORC S R N w n k (tsq S R N w n k) p → ok 5 245 147 [some (.inr (.inr (some 53))), some (.inl (J : Int)), some (.inl x), some (.inl ((tsq S R N w n k : Nat) : Int)), some (.inl (k : Int)), some (.inl y), some (.inl ((p : Int) + (-1)))] [] m3 Q := by
                        intro hn
                        rw [hnx]
                        refine IH y m3 ⟨rfl, ?_⟩
                        rcases hy with ⟨p', a1, a2, a3, a4, a5⟩ | ⟨a1, a2⟩
                        · refine Or.inl ⟨p', by omega, a2, a3, fun q h1 h2 => ?_, a5⟩
                          by_cases hh : q = p
                          · rw [hh]; exact hn
                          · exact a4 q (by omega) h2
                        · refine Or.inr ⟨fun q h1 h2 => ?_, a2⟩
                          by_cases hh : q = p
                          · rw [hh]; exact hn
                          · exact a1 q (by omega) h2
                      show ok 5 245 147 [some (.inr (.inr (some 53))), some (.inl (J : Int)), some (.inl x), some (.inl ((tsq S R N w n k : Nat) : Int)), some (.inl (k : Int)), some (.inl y), some (.inl ((N : Int) - 1 - (i : Int)))] [] m3 Q
                      rw [hp]
                      refine u_245_147 ?_
                      rw [am_s_id (z := (p : Int)) (by omega) (by omega), am_s_id (z := ((tsq S R N w n k : Nat) : Int)) (by omega) (by omega), Int.toNat_natCast, Int.toNat_natCast, z2, hor, eo, no, e70, eo2, no2, t70, am_s_id (z := 1 + ((Mv S R N w n (k + 1) (tsq S R N w n k ||| 2 ^ p) : Nat) : Int)) (by omega) (by omega), am_s_id (z := ((Mv S R N w n k (tsq S R N w n k) : Nat) : Int)) (by omega) (by omega)]
                      refine ⟨fun q => by omega, fun _ => ⟨by omega, fun q => skip fun h => ?_, fun q => ⟨z1, fun q2 => skip fun h => q2 ⟨h.1.1, h.1.2.2⟩, fun q2 => ⟨by omega, by omega, fun q3 => skip fun h => ?_, fun q3 => ?_⟩⟩⟩⟩
                      · have := h.1.2.1
                        rw [q] at this
                        exact absurd this (by decide)
                      · have := h.2
                        omega
                      · have q2' := Decidable.not_not.mp q2
                        have hb : (tsq S R N w n k).testBit p = false := by
                          cases h : (tsq S R N w n k).testBit p
                          · rfl
                          · exact absurd h q
                        rw [hnx]
                        exact IH (p : Int) m3 ⟨rfl, Or.inl ⟨p, by omega, hpN, ⟨⟨q2'.1, hb, q2'.2⟩, by omega⟩, fun q h1 h2 => by omega, rfl⟩⟩
                    · rintro y M ⟨hM, hy⟩
                      rw [hM]
                      have hlp : plv (ORC S R N w n k (tsq S R N w n k)) N = y := by
                        refine plv_eq ?_
                        rcases hy with ⟨p', a1, a2, a3, a4, a5⟩ | ⟨a1, a2⟩
                        · exact Or.inl ⟨p', a2, a3, fun q h => a4 q (by omega) h, a5⟩
                        · exact Or.inr ⟨fun q h => a1 q (by omega) h, a2⟩
                      clear hy
                      have hyr := plv_rng (C := ORC S R N w n k (tsq S R N w n k)) (N := N)
                      have hst := tsq_s (S := S) (r := R) (N := N) (w := w) (n := n) (k := k)
                      rw [hlp] at hyr hst hQ1
                      refine u_245_147 ?_
                      rw [am_s_id (z := (N : Int) - 1 - (N : Int)) (by omega) (by omega), hK, am_s_id (z := (k : Int)) (by omega) (by omega), am_s_id (z := (K : Int)) (by omega) (by omega), am_s_id (z := y) (by omega) (by omega)]
                      refine ⟨fun _ => ⟨fun q y1 hy1 => ?_, fun q => hQ1 (by omega)⟩, fun q => by omega⟩
                      have nx := hQ2 (by omega)
                      rw [hst] at nx
                      by_cases hy0 : y = -1
                      · rw [if_neg (not_not_intro hy0)] at hy1
                        rw [if_pos hy0] at nx
                        rw [hy1, bx_or0 (k := N) hts (by omega)]
                        exact nx
                      · rw [if_pos hy0] at hy1
                        rw [if_neg hy0] at nx
                        obtain ⟨p, hp⟩ : ∃ p : Nat, y = (p : Int) := ⟨y.toNat, by omega⟩
                        have hpl : 2 ^ p < 2 ^ N := Nat.pow_lt_pow_right (by decide) (by omega)
                        rw [hp, Int.toNat_natCast] at nx
                        rw [hy1, hp, bx_shl1 p (by omega), bx_or12 (by omega) (by omega)]
                        exact nx
                  have key := ok_for (d := 5) (mi := 245) (pc := 123) (Q := fun r m2 => r = [Sum.inl (if (K : Int) < (n : Int) then plv (ORC S R N w n K (tsq S R N w n K)) N else -1)] ∧ Inv m2) (σ := Unit) (fun k _ => [some (.inr (.inr (some 53))), some (.inl (J : Int)), some (.inl x), some (.inl ((tsq S R N w n k : Nat) : Int)), some (.inl (k : Int)), none, none]) (fun k _ M => M = m3) (if K < n then K else n) ?_ ?_ () m3 rfl
                  · exact key
                  · rintro k hk - M hM IH
                    rw [hM]
                    have hkn : k < n ∧ k < K := by
                      split at hk <;> omega
                    exact inner k hkn.1 (fun h => by omega) (fun _ => IH () m3 rfl)
                  · rintro - M hM
                    rw [hM]
                    by_cases hKn : K < n
                    · rw [if_pos hKn, if_pos (show (K : Int) < (n : Int) by omega)]
                      exact inner K hKn (fun _ => ⟨rfl, hI3⟩) (fun h => absurd rfl h)
                    · rw [if_neg hKn, if_neg (show ¬ (K : Int) < (n : Int) by omega)]
                      refine u_245_123 ?_
                      rw [ha, Int.toNat_natCast, e274, am_s_id (z := (n : Int)) (by omega) (by omega)]
                      exact ⟨by omega, fun _ => ⟨rfl, hI3⟩, fun q => by omega⟩
                · rw [if_pos q, t1' 0 0 (by omega) (Nat.two_pow_pos N)]
          · have hex : ∃ k : Nat, k < n ∧ ¬ 0 ≤ rwf m J k := by
              by_cases h : ∃ k : Nat, k < n ∧ ¬ 0 ≤ rwf m J k
              · exact h
              · exact absurd (fun k hk => Decidable.byContradiction fun z => h ⟨k, hk, z⟩) c4
            obtain ⟨k0, hk0, hneg⟩ := hex
            refine PK_2 (h1 := 6) (h2 := 5) (v := .inl (-3)) (R := fun m1 => m = m1) ?_ ?_ (by decide) (by decide)
            · refine into1 (fun q => by omega) (fun q q2 => by omega) (fun _ _ => ?_)
              refine ok_for (σ := Unit) (fun i _ => [some (.inr (.inr (some 0))), some (.inl (J : Int)), some (.inl x), some (.inr (.inr (some (25 + 2 * J)))), some (.inl (i : Int))]) (fun i _ M => M = m ∧ ∀ k : Nat, k < i → 0 ≤ rwf m J k) n ?_ ?_ () m ⟨rfl, fun k h => absurd h (Nat.not_lt_zero _)⟩
              · rintro i hi - M ⟨hM, h1⟩ IH
                rw [hM]
                refine u_136_58 hrow ?_
                rw [hnr, am_s_id (z := (n : Int)) (by omega) (by omega), am_s_id (z := (i : Int)) (by omega) (by omega), hwe i hi, hge i hi]
                refine ⟨fun q => by omega, fun _ => ⟨hC, fun q => IH () m ⟨rfl, fun k hk => ?_⟩, fun q => ⟨rfl, rfl⟩⟩⟩
                by_cases hh : k = i
                · rw [hh]; exact q
                · exact h1 k (by omega)
              · rintro - M ⟨hM, h1⟩
                exact absurd (h1 k0 hk0) hneg
            · rintro _ rfl
              have hIt := Inv_t hI
              refine into2 m rfl rfl (fun q => absurd q k3') (fun _ q => by omega) (fun _ _ => ?_)
              have w74 : (mu m 53 0 0) 74 = m 74 := mu_rf (by decide)
              have w75 : (mu m 53 0 0) 75 = m 75 := mu_rf (by decide)
              generalize mu m 53 0 0 = m2 at *
              refine ok_for (σ := Unit) (fun i _ => [some (.inr (.inr (some 53))), some (.inl (J : Int)), some (.inl x), some (.inl (i : Int)), none, none, none]) (fun i _ M => M = m2 ∧ ∀ k : Nat, k < i → 0 ≤ rwf m J k) n ?_ ?_ () m2 ⟨rfl, fun k h => absurd h (Nat.not_lt_zero _)⟩
              · rintro i hi - M ⟨hM, h1⟩ IH
                rw [hM]
                have e1 : am_s (40 * (J : Int) + (i : Int)) = 40 * (J : Int) + (i : Int) := am_s_id (by omega) (by omega)
                have e2 : (40 * (J : Int) + (i : Int)).toNat = 40 * J + i := by omega
                have e3 : 0 ≤ am_s (am_lcmp (m 75 (40 * J + i)) 0) ↔ 0 ≤ m 75 (40 * J + i) := hge i hi
                refine u_245_67 ?_
                rw [ha, Int.toNat_natCast, w74, hnv, am_s_id (z := (n : Int)) (by omega) (by omega), am_s_id (z := (i : Int)) (by omega) (by omega), e1, e2, w75, e3]
                refine ⟨by omega, fun q => by omega, fun _ => ⟨by omega, fun q => IH () m2 ⟨rfl, fun k hk => ?_⟩, fun q => ⟨rfl, hIt⟩⟩⟩
                by_cases hh : k = i
                · rw [hh]; exact q
                · exact h1 k (by omega)
              · rintro - M ⟨hM, h1⟩
                exact absurd (h1 k0 hk0) hneg
        · refine PK_2 (h1 := 6) (h2 := 5) (v := .inl (-4)) (R := fun m1 => m = m1) ?_ ?_ (by decide) (by decide)
          · exact into1 (fun q => by omega) (fun _ _ => ⟨rfl, rfl⟩) (fun _ q => by omega)
          · rintro _ rfl
            exact into2 m rfl rfl (fun q => absurd q k3') (fun _ _ => ⟨rfl, Inv_t hI⟩) (fun _ q => by omega)
    · refine PK_2 (h1 := 6) (h2 := 5) (v := .inl (-2)) (R := fun m1 => m = m1) ?_ ?_ (by decide) (by decide)
      · refine u_136_0 ?_
        rw [ha, hx]
        exact ⟨fun _ => ⟨rfl, rfl⟩, fun _ => ⟨fun q => by omega, fun _ => ⟨fun _ => ⟨rfl, rfl⟩, fun _ => ⟨fun q => by omega, fun _ => ⟨rfl, rfl⟩⟩⟩⟩⟩
      · rintro _ rfl
        refine u_245_0 ?_
        rw [ha, hx]
        exact ⟨fun _ => ⟨rfl, Inv_t hI⟩, fun _ => ⟨fun q => by omega, fun _ => ⟨fun q => by omega, fun _ => ⟨rfl, Inv_t hI⟩⟩⟩⟩
  · refine PK_2 (h1 := 6) (h2 := 5) (v := .inl (-2)) (R := fun m1 => m = m1) ?_ ?_ (by decide) (by decide)
    · refine u_136_0 ?_
      rw [ha, hx]
      exact ⟨fun _ => ⟨rfl, rfl⟩, fun q => absurd q c1⟩
    · rintro _ rfl
      refine u_245_0 ?_
      rw [ha, hx]
      exact ⟨fun _ => ⟨rfl, Inv_t hI⟩, fun q => by omega⟩
