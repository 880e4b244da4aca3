theorem NW_refl {c : Nat → Int} {G : Nat} : NW c G G := Or.inr ⟨rfl, Or.inr ⟨rfl, Nat.le_refl _⟩⟩
theorem SU_z {c : Nat → Int} : ∀ n, SU c 0 n = 0 := by
  intro n
  induction n with
  | zero => rfl
  | succ n ih => rw [SU_s, ih, Nat.zero_testBit, if_neg (by decide)]; rfl
theorem P_ripeBy {m : am_M} {d w : Int} (hd : am_s d = d) (hw0 : am_s w = w) (hI : Inv m) : PK 133 4 243 6 [.inl d, .inl w] m := by
  have hw := Inv_wf hI
  have hv := Inv_vw hI
  have hwn := WFG_nv hw
  have hN := hw.1
  have hsl := SLT_nv hI.1.2.2
  have e4 : nv (m 54) 4 = m 54 4 := nv_lo (by decide)
  have h4 : 1 ≤ m 54 4 ∧ m 54 4 ≤ 12 := hw.2.2.2.2.2.2.2.1
  by_cases c1 : 0 ≤ w ∧ w ≤ 2
  · by_cases c2 : 1 ≤ d ∧ d ≤ 60
    · have h1 : ∃ v : Int, ok 3 133 0 (am_ent 4 [.inr (.inr (some 0)), .inl d, .inl w]) [] m (fun r m1 => r = [.inl v] ∧ kpC m m1) ∧ ∃ G : Nat, G < 4096 ∧ RB (cR (nv (m 54)) d) (Kc (nv (m 54)) d (m 54 0).toNat) (d * m 54 4) G ∧ v = if w = 0 then ((cnt G 12 : Nat) : Int) else if w = 1 then SU (cR (nv (m 54)) d) G 12 else (G : Int) := by
        have z := z_134 m d ⟨hv, by rw [Inv_nv hI]; exact hsl, c2⟩
        rw [Inv_nv hI, nv0, e4] at z
        obtain ⟨r0, m0, ⟨v', -, ⟨G, -, hG1, hG2, -⟩, -⟩, -⟩ := z
        refine ⟨if w = 0 then ((cnt G 12 : Nat) : Int) else if w = 1 then SU (cR (nv (m 54)) d) G 12 else (G : Int), ?_, G, hG1, hG2, rfl⟩
        refine u_133_0 ?_
        rw [hw0, hd, Inv_nv hI, nv0, e4]
        refine ⟨fun q => by omega, fun _ => ⟨fun _ => ⟨fun q => by omega, fun _ => ⟨fun _ => ⟨⟨hv, hsl, c2⟩, fun v1 m1 hm => ?_⟩, fun q => by omega⟩⟩, fun q => by omega⟩⟩
        obtain ⟨⟨G', x1, x2, x3, x4⟩, x5⟩ := hm
        have hGG := RB_fun x3 hG2
        subst hGG
        refine ⟨fun q => ⟨by omega, ?_, x5⟩, fun q => ⟨?_, x5⟩, fun q => ⟨?_, x5⟩⟩
        · rw [if_pos q, x1, Int.toNat_natCast]
        · rw [if_neg (by omega), if_pos q, x4]
        · rw [if_neg q.1, if_neg q.2, x1]
      obtain ⟨v, hok, G, hG1, hG2, hvv⟩ := h1
      refine PK_2 (h1 := 3) (h2 := 3) (v := .inl v) (R := fun m1 => kpC m m1) hok ?_ (by decide) (by decide)
      intro m1 hk
      obtain ⟨w1, w2, w3, w4, w5, w6, w7⟩ := mod_pre (a := 0) hI hk
      have w0 : (mu m1 53 0 0) 54 = m 54 := kpC_f w7 (by omega)
      refine u_243_0 ?_
      rw [hw0, hd]
      refine ⟨fun _ => ⟨fun _ => ?_, fun q => absurd c2 q⟩, fun q => absurd c1 q⟩
      generalize mu m1 53 0 0 = m2 at *
      obtain ⟨N, hNv⟩ : ∃ N : Nat, m 54 0 = (N : Int) := ⟨(m 54 0).toNat, by omega⟩
      rw [hNv, Int.toNat_natCast] at hG2
      have hKl := Kc_lt (g := nv (m 54)) (d := d) (n := N) (by omega)
      have hKb := fun p => Kc_bit (g := nv (m 54)) (d := d) (n := N) (p := p)
      have hW0 : 0 ≤ d * m 54 4 ∧ d * m 54 4 ≤ 720 := by
        have hc : m 54 4 = 1 ∨ m 54 4 = 2 ∨ m 54 4 = 3 ∨ m 54 4 = 4 ∨ m 54 4 = 5 ∨ m 54 4 = 6 ∨ m 54 4 = 7 ∨ m 54 4 = 8 ∨ m 54 4 = 9 ∨ m 54 4 = 10 ∨ m 54 4 = 11 ∨ m 54 4 = 12 := by omega
        rcases hc with h | h | h | h | h | h | h | h | h | h | h | h <;> rw [h] <;> omega
      have hcr : ∀ p, p < N → nv (m 54) (8 + p) = 0 → (1 ≤ m 54 (20 + p) ∧ m 54 (20 + p) ≤ 9) ∧ (0 ≤ m 54 (32 + p) ∧ m 54 (32 + p) ≤ 100) ∧ nv (m 54) (20 + p) = m 54 (20 + p) ∧ nv (m 54) (32 + p) = m 54 (32 + p) := by
        intro p hp h0
        have hp12 : p < 12 := by omega
        have e1 := nv_pl (g := m 54) (c := 20) (p := p) (by omega) hp12 (by omega)
        have e2 := nv_pl (g := m 54) (c := 32) (p := p) (by omega) hp12 (by omega)
        have s1 := hsl p hp12 (by rw [nv0]; omega) (by rw [h0]; decide)
        have s2 := hw.2.2.1 p hp12
        have s3 := hw.2.2.2.1 p hp12
        rw [e1] at s1
        exact ⟨⟨s1, s2.2⟩, s3, e1, e2⟩
      have hc108 : ∀ p, p < N → nv (m 54) (8 + p) = 0 → 0 ≤ cR (nv (m 54)) d p ∧ cR (nv (m 54)) d p ≤ 108 := by
        intro p hp h0
        obtain ⟨a1, a2, a3, a4⟩ := hcr p hp h0
        exact cR_rng (by rw [a4]; exact a2) (by rw [a3]; exact a1) c2
      have key := ok_for (d := 3) (mi := 243) (pc := 40) (Q := fun r m2 => r = [Sum.inl v] ∧ Inv m2) (σ := Unit) (fun p _ => [some (.inr (.inr (some 53))), some (.inl d), some (.inl w), some (.inl ((Kc (nv (m 54)) d p : Nat) : Int)), some (.inl (p : Int)), none]) (fun p _ M => (∀ q, q < p → nv (m 54) (8 + q) = 0 → M 69 q = cR (nv (m 54)) d q) ∧ ∀ a, a ≠ 69 → M a = m2 a) N ?_ ?_ () m2 ⟨fun q h => absurd h (Nat.not_lt_zero _), fun _ _ => rfl⟩
      · exact key
      · rintro p hp - M ⟨h1, h2⟩ IH
        have hp12 : p < 12 := by omega
        have e32 : am_s (32 + (p : Int)) = 32 + (p : Int) := am_s_id (by omega) (by omega)
        have e20 : am_s (20 + (p : Int)) = 20 + (p : Int) := am_s_id (by omega) (by omega)
        have n32 : (32 + (p : Int)).toNat = 32 + p := by omega
        have n20 : (20 + (p : Int)).toNat = 20 + p := by omega
        have hKs : Kc (nv (m 54)) d (p + 1) = if (if nv (m 54) (8 + p) = 0 ∧ cR (nv (m 54)) d p ≤ d then (1 : Int) else 0) = 1 then Kc (nv (m 54)) d p + 2 ^ p else Kc (nv (m 54)) d p := msk_s
        have hkl : Kc (nv (m 54)) d p < 2 ^ p := msk_lt _ _ p
        refine u_243_40 ?_
        rw [h2 54 (by decide), w0, hNv, am_s_id (z := (N : Int)) (by omega) (by omega), am_s_id (z := (p : Int)) (by omega) (by omega), Int.toNat_natCast, e32, e20, n32, n20, show am_s 0 = 0 from rfl, hd]
        refine ⟨fun q => by omega, fun _ => ⟨hw, fun q => ?_, fun q => ?_⟩⟩
        · obtain ⟨a1, a2, a3, a4⟩ := hcr p hp q.2
          have a5 := hc108 p hp q.2
          have a6 := dv9 a2 a1
          rw [dvi (by omega) (by omega), am_s_id (z := (100 - m 54 (32 + p) + m 54 (20 + p) - 1) / m 54 (20 + p)) (by omega) (by omega), am_s_id (z := m 54 (20 + p)) (by omega) (by omega)]
          refine ⟨by omega, by omega, by omega, fun y hy => ⟨by omega, fun y2 hy2 => ?_⟩⟩
          have ey : y = cR (nv (m 54)) d p := by
            rw [hy]
            unfold cR
            rw [a3, a4]
          rw [ey] at hy2 ⊢
          rw [am_s_id (z := cR (nv (m 54)) d p) (by omega) (by omega)] at hy2
          have hnx := IH () (mu M 69 p (cR (nv (m 54)) d p)) ⟨fun x hx h0 => ?_, fun a ha => by rw [mu_rf ha]; exact h2 a ha⟩
          · rw [hKs] at hnx
            by_cases hcd : d < cR (nv (m 54)) d p
            · rw [if_pos hcd] at hy2
              rw [if_neg (by rw [if_neg (by omega)]; decide)] at hnx
              rw [hy2, bx_or0 (k := p) hkl (by omega)]
              exact hnx
            · rw [if_neg hcd] at hy2
              rw [if_pos (by rw [if_pos ⟨q.2, by omega⟩])] at hnx
              rw [hy2, bx_or2 hkl (by omega)]
              exact hnx
          · rw [mu_if]
            by_cases hh : x = p
            · rw [if_pos hh, hh]
            · rw [if_neg hh]; exact h1 x (by omega) h0
        · have hnx := IH () M ⟨fun x hx h0 => ?_, h2⟩
          · rw [hKs, if_neg (by rw [if_neg (fun k => q ⟨by omega, k.1⟩)]; decide)] at hnx
            exact hnx
          · by_cases hh : x = p
            · rw [hh] at h0; exact absurd ⟨by omega, h0⟩ q
            · exact h1 x (by omega) h0
      · rintro - M ⟨h1, h2⟩
        have f54 : M 54 = m 54 := by rw [h2 54 (by decide), w0]
        have hIM : Inv M := Inv_kpC (fun a k hc => by unfold core at hc; rw [h2 a (by omega)]) w6
        refine u_243_40 ?_
        rw [f54, hNv, am_s_id (z := (N : Int)) (by omega) (by omega)]
        refine ⟨fun _ => ?_, fun q => by omega⟩
        -- sums by the model's numbers
        have hSU : ∀ S, sb (Kc (nv (m 54)) d N) S → SU (M 69) S N = SU (cR (nv (m 54)) d) S 12 := by
          intro S hS
          rw [SU_hi (c := cR (nv (m 54)) d) (N := N) (fun p hp => ?_) 12 (by omega)]
          · exact SU_congr N fun p hp hb => h1 p hp ((hKb p).mp (nat_sub.mp hS p hb)).2.1
          · cases hb : S.testBit p
            · rfl
            · have := ((hKb p).mp (nat_sub.mp hS p hb)).1
              omega
        have hrng : ∀ S, sb (Kc (nv (m 54)) d N) S → ∀ p : Nat, (p : Int) < (N : Int) → S.testBit p = true → 0 ≤ M 69 p ∧ M 69 p ≤ 1000 := by
          intro S hS p hp hb
          obtain ⟨x1, x2, x3⟩ := (hKb p).mp (nat_sub.mp hS p hb)
          rw [h1 p x1 x2]
          have := hc108 p x1 x2
          omega
        have hSr : ∀ S, sb (Kc (nv (m 54)) d N) S → 0 ≤ SU (cR (nv (m 54)) d) S 12 ∧ SU (cR (nv (m 54)) d) S 12 ≤ 12000 := fun S hS => by
          have := SU_rng (c := cR (nv (m 54)) d) (S := S) 12 fun p hp hb => by
            obtain ⟨x1, x2, x3⟩ := (hKb p).mp (nat_sub.mp hS p hb)
            have := hc108 p x1 x2
            omega
          omega
        have eW : am_s (m 54 4 * d) = d * m 54 4 := by rw [Int.mul_comm]; exact am_s_id (by omega) (by omega)
        generalize hKv : Kc (nv (m 54)) d N = K at *
        generalize hcv : cR (nv (m 54)) d = c at *
        generalize hWv : d * m 54 4 = W at *
        have key2 := ok_for (d := 3) (mi := 243) (pc := 158) (Q := fun r m2 => r = [Sum.inl v] ∧ Inv m2) (σ := Nat) (fun s b => [some (.inr (.inr (some 53))), some (.inl d), some (.inl w), some (.inl (K : Int)), some (.inl (b : Int)), some (.inl ((s + 1 : Nat) : Int))]) (fun s b M' => M' = M ∧ (sb K b ∧ SU c b 12 ≤ W) ∧ b ≤ s ∧ ∀ S, S < s + 1 → sb K S → SU c S 12 ≤ W → NW c b S) K ?_ ?_ 0 M ⟨rfl, ⟨Nat.zero_and _, by rw [SU_z]; omega⟩, Nat.le_refl _, fun S hS _ _ => by
          have : S = 0 := by omega
          rw [this]
          exact NW_refl⟩
        · exact key2
        · rintro s hs b M' ⟨hM, ⟨b1, b2⟩, b0, b3⟩ IH
          rw [hM]
          have hsub := bx_sub (z := ((s + 1 : Nat) : Int)) (b := K) (by omega)
          rw [am_s_id (z := ((s + 1 : Nat) : Int)) (by omega) (by omega), Int.toNat_natCast] at hsub
          have hbl := sub_le b1
          have hcs := cnt_le (s + 1) 12
          have hcb := cnt_le b 12
          have hbr := hSr b b1
          have kp : (sb K (s + 1) → SU c (s + 1) 12 ≤ W → NW c b (s + 1)) → ok 3 243 158 [some (.inr (.inr (some 53))), some (.inl d), some (.inl w), some (.inl (K : Int)), some (.inl (b : Int)), some (.inl (((s + 1 : Nat) : Int) + 1))] [] M (fun r m2 => r = [Sum.inl v] ∧ Inv m2) := by
            intro h
            refine IH b M ⟨rfl, ⟨b1, b2⟩, by omega, fun S hS h1 h2 => ?_⟩
            by_cases hh : S = s + 1
            · rw [hh] at h1 h2 ⊢
              exact h h1 h2
            · exact b3 S (by omega) h1 h2
          have nw : sb K (s + 1) → SU c (s + 1) 12 ≤ W → (cnt b 12 < cnt (s + 1) 12 ∨ (cnt (s + 1) 12 = cnt b 12 ∧ SU c (s + 1) 12 < SU c b 12)) → ok 3 243 158 [some (.inr (.inr (some 53))), some (.inl d), some (.inl w), some (.inl (K : Int)), some (.inl ((s + 1 : Nat) : Int)), some (.inl (((s + 1 : Nat) : Int) + 1))] [] M (fun r m2 => r = [Sum.inl v] ∧ Inv m2) := by
            intro h1 h2 h3
            refine IH (s + 1) M ⟨rfl, ⟨h1, h2⟩, Nat.le_refl _, fun S hS k1 k2 => ?_⟩
            by_cases hh : S = s + 1
            · rw [hh]
              exact NW_refl
            · have := b3 S (by omega) k1 k2
              unfold NW at this ⊢
              omega
          refine u_243_158 ?_
          rw [f54, hNv, am_s_id (z := (K : Int)) (by omega) (by omega), am_s_id (z := ((s + 1 : Nat) : Int)) (by omega) (by omega), hsub, am_s_id (z := (b : Int)) (by omega) (by omega)]
          simp only [Int.toNat_natCast]
          rw [am_s_id (z := ((cnt (s + 1) 12 : Nat) : Int)) (by omega) (by omega), am_s_id (z := ((cnt b 12 : Nat) : Int)) (by omega) (by omega)]
          refine ⟨fun q => by omega, fun _ => ⟨fun q => kp fun h => absurd ⟨by omega, h⟩ q, fun q => ⟨⟨hw, by omega, hrng _ q.2⟩, ?_⟩⟩⟩
          intro ma hma
          have hsr := hSr _ q.2
          rw [hma, f54, hSU _ q.2, am_s_id (z := SU c (s + 1) 12) (by omega) (by omega), eW, hNv]
          refine ⟨fun q2 => ⟨by omega, by omega, fun q3 => nw q.2 q2 (Or.inl (by omega)), fun q3 => ⟨fun q4 => kp fun _ _ => Or.inl (by omega), fun q4 => ⟨⟨hw, by omega, hrng _ q.2⟩, ?_⟩⟩⟩, fun q2 => kp fun _ h => absurd h q2⟩
          intro mb hmb
          rw [hmb, f54, hNv]
          refine ⟨⟨hw, by omega, hrng _ b1⟩, ?_⟩
          intro mc hmc
          simp only [Int.toNat_natCast]
          rw [hmc, hSU _ b1, hSU _ q.2, am_s_id (z := SU c (s + 1) 12) (by omega) (by omega), am_s_id (z := SU c b 12) (by omega) (by omega)]
          refine ⟨fun q5 => kp fun _ _ => ?_, fun q5 => nw q.2 q2 (Or.inr ⟨by omega, by omega⟩)⟩
          unfold NW
          omega
        · rintro b M' ⟨hM, ⟨b1, b2⟩, b0, b3⟩
          rw [hM]
          have hbl := sub_le b1
          have hcb := cnt_le b 12
          have hbG : b = G := RB_fun ⟨⟨b1, b2⟩, fun S h1 h2 => b3 S (by have := sub_le h1; omega) h1 h2⟩ hG2
          refine u_243_158 ?_
          rw [f54, hNv, am_s_id (z := (K : Int)) (by omega) (by omega), am_s_id (z := ((K + 1 : Nat) : Int)) (by omega) (by omega), am_s_id (z := (b : Int)) (by omega) (by omega), hw0]
          simp only [Int.toNat_natCast]
          refine ⟨fun _ => ⟨fun q => ⟨fun q2 => ⟨?_, hIM⟩, fun q2 => ⟨⟨hw, by omega, hrng _ b1⟩, fun ma hma => ⟨?_, by rw [hma]; exact hIM⟩⟩⟩, fun q => ⟨by omega, ?_, hIM⟩⟩, fun q => by omega⟩
          · rw [hvv, if_neg q, if_neg q2, hbG]
          · rw [hvv, if_neg q, if_pos q2, hSU _ b1, hbG]
          · rw [hvv, if_pos q, hbG]
    · refine PK_2 (h1 := 3) (h2 := 3) (v := .inl (-3)) (R := fun m1 => m = m1) ?_ ?_ (by decide) (by decide)
      · refine u_133_0 ?_
        rw [hw0, hd]
        exact ⟨fun q => by omega, fun _ => ⟨fun _ => ⟨fun _ => ⟨rfl, rfl⟩, fun _ => ⟨fun q => by omega, fun _ => ⟨rfl, rfl⟩⟩⟩, fun q => by omega⟩⟩
      · rintro _ rfl
        refine u_243_0 ?_
        rw [hw0, hd]
        exact ⟨fun _ => ⟨fun q => absurd q c2, fun _ => ⟨rfl, Inv_t hI⟩⟩, fun q => absurd c1 q⟩
  · refine PK_2 (h1 := 3) (h2 := 3) (v := .inl (-2)) (R := fun m1 => m = m1) ?_ ?_ (by decide) (by decide)
    · refine u_133_0 ?_
      rw [hw0, hd]
      exact ⟨fun _ => ⟨rfl, rfl⟩, fun _ => ⟨fun q => by omega, fun _ => ⟨rfl, rfl⟩⟩⟩
    · rintro _ rfl
      refine u_243_0 ?_
      rw [hw0, hd]
      exact ⟨fun q => absurd q c1, fun _ => ⟨rfl, Inv_t hI⟩⟩
