noncomputable def cnd (g : Nat → Int) (P S L : Nat) (x : Int) (j : Nat) : Int := min x (min (dif (adj g) (tau g) (cf (ngp g) P) L j) (DD (adj g) (tau g) (BN g) (BN g - (cf (ngp g) P + 1)) (S ||| 2 ^ j) j))
def DIN (g : Nat → Int) (m M : am_M) (P S L : Nat) (x : Int) (J : Nat) : Prop := DFR m M (P : Int) ∧ ((M 53 36 = m 53 36 ∧ M 53 35 = m 53 35 ∧ (∀ q, q < 12 → M 72 q = m 72 q) ∧ ∀ j, j < J → S.testBit j = false → m 53 36 = 1 ∧ cnd g P S L x j ≤ m 53 35) ∨ ∃ j, j < J ∧ S.testBit j = false ∧ M 53 36 = 1 ∧ M 53 35 = cnd g P S L x j ∧ (m 53 36 = 1 → m 53 35 < cnd g P S L x j) ∧ (∀ j', j' < J → S.testBit j' = false → cnd g P S L x j' ≤ cnd g P S L x j) ∧ (∀ j', j' < j → S.testBit j' = false → cnd g P S L x j' < cnd g P S L x j) ∧ (∀ q, q < P → M 72 q = m 71 q) ∧ M 72 P = ((spx g j : Nat) : Int) ∧ ∀ q : Nat, P < q → (q : Int) < g 0 → M 72 q = if ngp g q = true then ((spx g (sq (adj g) (tau g) (BN g) (cnd g P S L x j) (cf (ngp g) P + 1) (S ||| 2 ^ j, j) (cf (ngp g) q - (cf (ngp g) P + 1) + 1)).2 : Nat) : Int) else -1)
theorem DFR_refl {m : am_M} {p : Int} : DFR m m p := ⟨fun _ _ _ _ _ => rfl, fun _ _ => rfl⟩
theorem DIN_0 {g : Nat → Int} {m : am_M} {P S L : Nat} {x : Int} : DIN g m m P S L x 0 := ⟨DFR_refl, Or.inl ⟨rfl, rfl, fun _ _ => rfl, fun j h => absurd h (Nat.not_lt_zero _)⟩⟩
theorem DIN_skip {g : Nat → Int} {m M : am_M} {P S L J : Nat} {x : Int} (hs : S.testBit J = true) (h : DIN g m M P S L x J) : DIN g m M P S L x (J + 1) := by
  obtain ⟨h1, h2⟩ := h
  refine ⟨h1, ?_⟩
  have lt : ∀ j, j < J + 1 → S.testBit j = false → j < J := by
    intro j hj hb
    by_cases hh : j = J
    · rw [hh, hs] at hb
      exact absurd hb (by decide)
    · omega
  rcases h2 with ⟨a1, a2, a3, a4⟩ | ⟨j, a1, a2, a3, a4, a5, a6, a7⟩
  · exact Or.inl ⟨a1, a2, a3, fun j hj hb => a4 j (lt j hj hb) hb⟩
  · exact Or.inr ⟨j, by omega, a2, a3, a4, a5, fun j' hj hb => a6 j' (lt j' hj hb) hb, a7⟩
theorem DIN_step {g : Nat → Int} {m M m' : am_M} {P S L J q : Nat} {x y : Int} (h : DIN g m M P S L x J) (hJ : J < BN g) (hs : S.testBit J = false) (hq : q = spx g J) (hn : ngp g P = true) (h12 : P < 12) (hg0 : g 0 ≤ 12) (hy : min y (DD (adj g) (tau g) (BN g) (BN g - (cf (ngp g) P + 1)) (S ||| 2 ^ J) J) = cnd g P S L x J) (hf : DFR (mu M 71 P (q : Int)) m' ((P : Int) + 1)) (hd : DPS g (mu M 71 P (q : Int)) m' (P + 1) (S ||| 2 ^ J) J y) : DIN g m m' P S L x (J + 1) := by
  obtain ⟨⟨f1, f2⟩, h2⟩ := h
  have hrk : cf (ngp g) (P + 1) = cf (ngp g) P + 1 := by rw [rk_s, if_pos hn]
  unfold DPS at hd
  rw [hrk, hy, mu_r (show (53 : Nat) ≠ 71 by decide), mu_r (show (53 : Nat) ≠ 71 by decide)] at hd
  have hfr : DFR m m' (P : Int) := by
    refine ⟨fun a k q1 q2 q3 => ?_, fun z hz => ?_⟩
    · rw [hf.1 a k q1 q2 q3, mu_r q1]
      exact f1 a k q1 q2 q3
    · rw [hf.2 z (by omega), mu_k (by omega)]
      exact f2 z hz
  refine ⟨hfr, ?_⟩
  rcases hd with ⟨d1, d2, d3, d4, d5⟩ | ⟨d1, d2, d3, d4, d5⟩
  · have d5' : ∀ z, z < 12 → m' 72 z = M 72 z := fun z hz => by rw [d5 z hz, mu_r (by decide)]
    rcases h2 with ⟨a1, a2, a3, a4⟩ | ⟨j, a1, a2, a3, a4, a5, a6, a7, a8, a9, a10⟩
    · refine Or.inl ⟨by rw [d3, a1], by rw [d4, a2], fun z hz => by rw [d5' z hz, a3 z hz], fun j hj hb => ?_⟩
      by_cases hh : j = J
      · rw [hh, ← a1, ← a2]
        exact ⟨d1, d2⟩
      · exact a4 j (by omega) hb
    · refine Or.inr ⟨j, by omega, a2, by rw [d3, a3], by rw [d4, a4], a5, fun j' hj hb => ?_, a7, fun z hz => by rw [d5' z (by omega)]; exact a8 z hz, by rw [d5' P h12]; exact a9, ?_⟩
      · by_cases hh : j' = J
        · rw [hh]; omega
        · exact a6 j' (by omega) hb
      · intro z hz1 hz2
        rw [d5' z (by omega)]
        exact a10 z hz1 hz2
  · have low : ∀ j', j' < J → S.testBit j' = false → cnd g P S L x j' < cnd g P S L x J := by
      intro j' hj hb
      rcases h2 with ⟨a1, a2, a3, a4⟩ | ⟨j, a1, a2, a3, a4, a5, a6, a7⟩
      · have := a4 j' hj hb
        rw [a1, a2] at d1
        omega
      · have := a6 j' hj hb
        rw [a3, a4] at d1
        omega
    refine Or.inr ⟨J, by omega, hs, d2, d3, fun h36 => ?_, fun j' hj hb => ?_, low, fun z hz => ?_, ?_, fun z hz1 hz2 => d5 z (by omega) hz2⟩
    · rcases h2 with ⟨a1, a2, a3, a4⟩ | ⟨j, a1, a2, a3, a4, a5, a6, a7⟩
      · rw [a1, a2] at d1
        omega
      · have := a5 h36
        rw [a3, a4] at d1
        omega
    · by_cases hh : j' = J
      · rw [hh]; exact Int.le_refl _
      · have := low j' (by omega) hb
        omega
    · rw [d4 z (by omega), mu_k (by omega)]
      exact f2 z (by omega)
    · rw [d4 P (by omega), mu_same, hq]
theorem DIN_end {g : Nat → Int} {m M : am_M} {P S L : Nat} {x : Int} (h : DIN g m M P S L x (BN g)) (hP : P < (g 0).toNat) (hn : ngp g P = true) (hx : 0 ≤ x) (hex : ∃ j, j < BN g ∧ S.testBit j = false) : DPS g m M P S L x := by
  obtain ⟨-, h2⟩ := h
  have hi := rk_lt hP hn
  obtain ⟨k, hk⟩ : ∃ k, BN g - cf (ngp g) P = k + 1 := ⟨BN g - cf (ngp g) P - 1, by omega⟩
  have hk1 : BN g - (k + 1) = cf (ngp g) P := by omega
  have hk2 : BN g - (cf (ngp g) P + 1) = k := by omega
  have hFx : ∃ F : Nat → Int, (∀ j, cnd g P S L x j = min x (F j)) ∧ DD (adj g) (tau g) (BN g) (BN g - cf (ngp g) P) S L = mxf F S (BN g) := by
    refine ⟨fun o => min (dif (adj g) (tau g) (cf (ngp g) P) L o) (DD (adj g) (tau g) (BN g) (BN g - (cf (ngp g) P + 1)) (S ||| 2 ^ o) o), fun j => rfl, ?_⟩
    rw [hk, DD_s, hk1, hk2]
  obtain ⟨F, hc, hD⟩ := hFx
  have hc0 : ∀ j, 0 ≤ cnd g P S L x j := fun j => by
    have a1 := dif_0 (A := adj g) (τ := tau g) (i := cf (ngp g) P) (l := L) (o := j)
    have a2 := DD_rng (A := adj g) (τ := tau g) (B := BN g) (BN g - (cf (ngp g) P + 1)) (S ||| 2 ^ j) j
    unfold cnd
    omega
  unfold DPS
  rcases h2 with ⟨a1, a2, a3, a4⟩ | ⟨j, a1, a2, a3, a4, a5, a6, a7, a8, a9, a10⟩
  · left
    obtain ⟨j0, j1, j2⟩ := hex
    obtain ⟨b1, b2⟩ := a4 j0 j1 j2
    refine ⟨b1, ?_, a1, a2, a3⟩
    rw [hD]
    rcases mxf_at (f := F) (s := S) (BN g) with hz | ⟨j', c1, c2, c3⟩
    · rw [hz]
      have := hc0 j0
      omega
    · rw [← c3, ← hc]
      exact (a4 j' c1 c2).2
  · right
    have hWj : min x (DD (adj g) (tau g) (BN g) (BN g - cf (ngp g) P) S L) = cnd g P S L x j := by
      rw [hD]
      have up := mxf_ge (f := F) a2 (BN g) a1
      have h1 := hc j
      rcases mxf_at (f := F) (s := S) (BN g) with hz | ⟨j', c1, c2, c3⟩
      · have := hc0 j
        rw [hz] at up ⊢
        omega
      · have h3 := a6 j' c1 c2
        rw [hc j', c3] at h3
        omega
    rw [hWj]
    have hNX : NXC (adj g) (tau g) (BN g) (cnd g P S L x j) (cf (ngp g) P) S L j := ⟨a2, by unfold cnd; omega⟩
    have hno : ∀ j', j' < j → ¬ NXC (adj g) (tau g) (BN g) (cnd g P S L x j) (cf (ngp g) P) S L j' := by
      rintro j' hj ⟨n1, n2⟩
      have h3 := a7 j' hj n1
      have h4 : cnd g P S L x j ≤ x := by unfold cnd; omega
      have h5 : cnd g P S L x j' = min x (min (dif (adj g) (tau g) (cf (ngp g) P) L j') (DD (adj g) (tau g) (BN g) (BN g - (cf (ngp g) P + 1)) (S ||| 2 ^ j') j')) := rfl
      omega
    have hnx : nxi (adj g) (tau g) (BN g) (cnd g P S L x j) (cf (ngp g) P) S L = j := by
      unfold nxi
      rw [plv_eq (Or.inl ⟨j, a1, hNX, hno, rfl⟩), Int.toNat_natCast]
    have hstq : stq (adj g) (tau g) (BN g) (cnd g P S L x j) (cf (ngp g) P) (S, L) = (S ||| 2 ^ j, j) := by
      unfold stq
      rw [hnx]
    refine ⟨?_, a3, a4, a8, fun q hq1 hq2 => ?_⟩
    · rintro ⟨z1, z2⟩
      have := a5 z1
      omega
    · by_cases hh : q = P
      · rw [hh, if_pos hn, Nat.sub_self, sq_sh, hstq, a9]
        rfl
      · rw [a10 q (by omega) hq2]
        by_cases hg : ngp g q = true
        · rw [if_pos hg, if_pos hg, sq_sh (i := cf (ngp g) P) (x := (S, L)), hstq]
          have h1 := cf_mono (Q := ngp g) (show P + 1 ≤ q by omega)
          rw [rk_s, if_pos hn] at h1
          rw [show cf (ngp g) q - (cf (ngp g) P + 1) + 1 = cf (ngp g) q - cf (ngp g) P by omega]
        · rw [if_neg hg, if_neg hg]
theorem dfs (g : Nat → Int) : ∀ (k : Nat) (m : am_M) (p u x : Int), nv (m 54) = g → DPR m k p u x → ok (k + 5) 249 0 (am_ent 6 [.inr (.inr (some 53)), .inl p, .inl u, .inl x]) [] m (fun rr m' => rr = [] ∧ (DFR m m' p ∧ DPS g m m' p.toNat (SI g u.toNat) (LI g m p.toNat) x)) := by
  intro k
  induction k with
  | zero =>
    intro m p u x hg hD
    obtain ⟨⟨hw, hB⟩, ⟨hp0, hpk⟩, hu, hcn, hx, hst, hpre⟩ := hD
    have hN := hw.1
    rw [hg] at hB hcn hpre
    obtain ⟨P, rfl⟩ : ∃ P : Nat, p = (P : Int) := ⟨p.toNat, by omega⟩
    rw [Int.toNat_natCast] at hcn ⊢
    have eg0 : g 0 = m 54 0 := by rw [← hg, nv0]
    have hPN : (g 0).toNat = P := by omega
    have hBN : BN g = cf (ngp g) P := by unfold BN; rw [hPN]
    have hW : min x (DD (adj g) (tau g) (BN g) (BN g - cf (ngp g) P) (SI g u.toNat) (LI g m P)) = x := by
      rw [← hBN, Nat.sub_self]
      show min x (1000 : Int) = x
      omega
    have e36 : am_s (m 53 36) = m 53 36 := by
      rcases hst with h | h
      · rw [h]; rfl
      · rw [h.1]; rfl
    have e35 : m 53 36 = 1 → am_s (m 53 35) = m 53 35 := fun h => am_s_id (by omega) (by omega)
    have body : ¬ (m 53 36 = 1 ∧ x ≤ m 53 35) → ok (4 + 1) 249 39 [some (.inr (.inr (some 53))), some (.inl (P : Int)), some (.inl u), some (.inl x), some (.inl 0), none] [] (mu (mu m 53 36 1) 53 35 x) (fun rr m' => rr = [] ∧ (DFR m m' (P : Int) ∧ DPS g m m' P (SI g u.toNat) (LI g m P) x)) := by
      intro hne
      refine ok_for (σ := Unit) (fun q _ => [some (.inr (.inr (some 53))), some (.inl (P : Int)), some (.inl u), some (.inl x), some (.inl (q : Int)), none]) (fun q _ M => (∀ z, z < q → M 72 z = m 71 z) ∧ (M 53 36 = 1 ∧ M 53 35 = x) ∧ ∀ a k, a ≠ 72 → ¬ (a = 53 ∧ (k = 35 ∨ k = 36)) → M a k = m a k) P ?_ ?_ () _ ⟨fun z h => absurd h (Nat.not_lt_zero _), ⟨by rw [mu_o (by omega), mu_same], mu_same⟩, fun a k q1 q2 => by rw [mu_o (by omega), mu_o (by omega)]⟩
      · rintro q hq - M ⟨h1, h2, h3⟩ IH
        refine u_249_39 (h0 := 4) (PRE := fun _ _ _ _ => False) (POST := fun _ _ _ _ _ => True) (by omega) (fun _ _ _ _ h => absurd h id) ?_
        rw [am_s_id (z := (P : Int)) (by omega) (by omega), am_s_id (z := (q : Int)) (by omega) (by omega), Int.toNat_natCast]
        refine ⟨fun q => by omega, fun _ => ⟨by omega, IH () _ ⟨fun z hz => ?_, ⟨by rw [mu_r (by decide)]; exact h2.1, by rw [mu_r (by decide)]; exact h2.2⟩, fun a k q1 q2 => by rw [mu_r q1]; exact h3 a k q1 q2⟩⟩⟩
        rw [mu_if]
        by_cases hh : z = q
        · rw [if_pos hh, hh, h3 71 q (by decide) (by omega)]
        · rw [if_neg hh]; exact h1 z (by omega)
      · rintro - M ⟨h1, h2, h3⟩
        refine u_249_39 (h0 := 4) (PRE := fun _ _ _ _ => False) (POST := fun _ _ _ _ _ => True) (by omega) (fun _ _ _ _ h => absurd h id) ?_
        rw [am_s_id (z := (P : Int)) (by omega) (by omega)]
        refine ⟨fun _ => ⟨rfl, ⟨fun a k q1 q2 q3 => h3 a k q2 q3, fun z _ => h3 71 z (by decide) (by omega)⟩, ?_⟩, fun q => by omega⟩
        unfold DPS
        rw [hW]
        exact Or.inr ⟨hne, h2.1, h2.2, fun z hz => h1 z hz, fun z z1 z2 => by omega⟩
    show ok (4 + 1) 249 0 [some (.inr (.inr (some 53))), some (.inl (P : Int)), some (.inl u), some (.inl x), none, none] [] m _
    refine u_249_0 (h0 := 4) (PRE := fun _ _ _ _ => False) (POST := fun _ _ _ _ _ => True) (by omega) (fun _ _ _ _ h => absurd h id) ?_
    rw [e36, am_s_id (z := (P : Int)) (by omega) (by omega), am_s_id (z := m 54 0) (by omega) (by omega), am_s_id (z := x) (by omega) (by omega)]
    refine ⟨fun q => ⟨fun q2 => absurd (by omega) q2, fun _ => body (by omega)⟩, fun q => ?_⟩
    have h36 : m 53 36 = 1 := by omega
    rw [e35 h36]
    refine ⟨fun q2 => ⟨fun q3 => absurd (by omega) q3, fun _ => body (by omega)⟩, fun q2 => ⟨rfl, DFR_refl, ?_⟩⟩
    unfold DPS
    rw [hW]
    exact Or.inl ⟨h36, by omega, rfl, rfl, fun _ _ => rfl⟩
  | succ k ih =>
    intro m p u x hg hD
    obtain ⟨⟨hw, hB⟩, ⟨hp0, hpk⟩, hu, hcn, hx, hst, hpre⟩ := id hD
    have hN := hw.1
    rw [hg] at hB hcn hpre
    obtain ⟨P, rfl⟩ : ∃ P : Nat, p = (P : Int) := ⟨p.toNat, by omega⟩
    obtain ⟨U, rfl⟩ : ∃ U : Nat, u = (U : Int) := ⟨u.toNat, by omega⟩
    simp only [Int.toNat_natCast] at hcn ⊢
    have eg0 : g 0 = m 54 0 := by rw [← hg, nv0]
    have hPN : P < (g 0).toNat := by omega
    have hwg : WFG g := by rw [← hg]; exact WFG_nv hw
    have e36 : am_s (m 53 36) = m 53 36 := by
      rcases hst with h | h
      · rw [h]; rfl
      · rw [h.1]; rfl
    have e35 : m 53 36 = 1 → am_s (m 53 35) = m 53 35 := fun h => am_s_id (by omega) (by omega)
    have hrec : ∀ (m : am_M) (p u x : Int), (nv (m 54) = g ∧ DPR m k p u x) → ok (k + 5) 249 0 (am_ent 6 [.inr (.inr (some 53)), .inl p, .inl u, .inl x]) [] m (fun rr m' => rr = [] ∧ (DFR m m' p ∧ DPS g m m' p.toNat (SI g u.toNat) (LI g m p.toNat) x)) := fun m p u x h => ih m p u x h.1 h.2
    -- a gap
    have gap : ngp g P = false → (nv ((mu m 71 P (-1)) 54) = g ∧ DPR (mu m 71 P (-1)) k ((P : Int) + 1) (U : Int) x) ∧ ∀ m1 : am_M, (DFR (mu m 71 P (-1)) m1 ((P : Int) + 1) ∧ DPS g (mu m 71 P (-1)) m1 ((P : Int) + 1).toNat (SI g (U : Int).toNat) (LI g (mu m 71 P (-1)) ((P : Int) + 1).toNat) x) → ([] : List am_V) = [] ∧ (DFR m m1 (P : Int) ∧ DPS g m m1 P (SI g U) (LI g m P) x) := by
      intro hn
      have hrk : cf (ngp g) (P + 1) = cf (ngp g) P := by rw [rk_s, hn, if_neg (by decide), Nat.add_zero]
      have f54 : (mu m 71 P (-1)) 54 = m 54 := mu_rf (by decide)
      have f53 : (mu m 71 P (-1)) 53 = m 53 := mu_rf (by decide)
      have nP : ((P : Int) + 1).toNat = P + 1 := by omega
      refine ⟨⟨by rw [f54]; exact hg, ?_⟩, fun m1 h => ⟨rfl, ?_⟩⟩
      · unfold DPR
        rw [f54, f53, hg, nP, Int.toNat_natCast, hrk]
        refine ⟨⟨hw, hB⟩, by omega, hu, hcn, hx, hst, fun q hq => ?_⟩
        by_cases hh : q = P
        · rw [hh, mu_same]
          exact ⟨fun _ => rfl, fun k => by rw [hn] at k; exact absurd k (by decide)⟩
        · rw [mu_k hh]
          exact hpre q (by omega)
      · obtain ⟨⟨q1, q2⟩, q3⟩ := h
        refine ⟨⟨fun a k z1 z2 z3 => by rw [q1 a k z1 z2 z3, mu_r z1], fun q hq => by rw [q2 q (by omega), mu_k (by omega)]⟩, ?_⟩
        have hAd : BN g - cf (ngp g) P = 0 ∨ adj g (BN g - (BN g - cf (ngp g) P)) = false := by
          by_cases hb : cf (ngp g) P < BN g
          · right
            rw [show BN g - (BN g - cf (ngp g) P) = cf (ngp g) P by omega]
            exact adj_gap hPN hn hb
          · left; omega
        have hDD : DD (adj g) (tau g) (BN g) (BN g - cf (ngp g) P) (SI g U) (LI g (mu m 71 P (-1)) (P + 1)) = DD (adj g) (tau g) (BN g) (BN g - cf (ngp g) P) (SI g U) (LI g m P) := DD_L hAd
        unfold DPS at q3 ⊢
        rw [nP, Int.toNat_natCast, hrk, hDD, f53] at q3
        rcases q3 with ⟨d1, d2, d3, d4, d5⟩ | ⟨d1, d2, d3, d4, d5⟩
        · exact Or.inl ⟨d1, d2, d3, d4, fun q hq => by rw [d5 q hq, mu_r (by decide)]⟩
        · refine Or.inr ⟨d1, d2, d3, fun q hq => by rw [d4 q (by omega), mu_k (by omega)], fun q hq1 hq2 => ?_⟩
          by_cases hh : q = P
          · rw [hh, d4 P (by omega), mu_same, hn, if_neg (by decide)]
          · rw [d5 q (by omega) hq2]
            by_cases hq : ngp g q = true
            · have hqb := rk_lt (g := g) (q := q) (by omega) hq
              have hm := cf_mono (Q := ngp g) (show P ≤ q by omega)
              have hA : adj g (cf (ngp g) P) = false := adj_gap hPN hn (by omega)
              rw [if_pos hq, if_pos hq, sq_L (l' := LI g m P) hA]
            · rw [if_neg hq, if_neg hq]
    -- a barrel
    have bar : ngp g P = true → ok (k + 5 + 1) 249 95 [some (.inr (.inr (some 53))), some (.inl (P : Int)), some (.inl (U : Int)), some (.inl x), some (.inl 0), none] [] m (fun rr m' => rr = [] ∧ (DFR m m' (P : Int) ∧ DPS g m m' P (SI g U) (LI g m P) x)) := by
      intro hn
      have hi := rk_lt hPN hn
      refine ok_for (σ := Unit) (fun q _ => [some (.inr (.inr (some 53))), some (.inl (P : Int)), some (.inl (U : Int)), some (.inl x), some (.inl (q : Int)), none]) (fun q _ M => DIN g m M P (SI g U) (LI g m P) x (cf (ngp g) q) ∧ (M 53 36 = 0 ∨ (M 53 36 = 1 ∧ 0 ≤ M 53 35 ∧ M 53 35 ≤ 1000))) (g 0).toNat ?_ ?_ () m ⟨DIN_0, hst⟩
      · rintro q hq - M ⟨hI, hst1⟩ IH
        have f54 : M 54 = m 54 := funext fun z => hI.1.1 54 z (by decide) (by decide) (by omega)
        have eq' : am_s (q : Int) = (q : Int) := am_s_id (by omega) (by omega)
        have hrs := rk_s (g := g) (q := q)
        have e3q : (0 ≤ (q : Int) ∧ (q : Int) < m 54 0) ∧ nv (m 54) (8 + q) = 3 ↔ ngp g q = false := by
          rw [hg]
          unfold ngp
          rw [decide_eq_false_iff_not]
          exact ⟨fun h => not_not_intro h.2, fun h => ⟨by omega, Decidable.not_not.mp h⟩⟩
        refine u_249_95 (h0 := k + 5) (by omega) hrec ?_
        rw [f54, am_s_id (z := m 54 0) (by omega) (by omega), eq', am_s_id (z := (U : Int)) (by omega) (by omega), am_s_id (z := (P : Int)) (by omega) (by omega), show am_s 3 = 3 from rfl]
        simp only [Int.toNat_natCast]
        rw [e3q]
        refine ⟨fun z => by omega, fun _ => ⟨by omega, fun z => IH () M ⟨?_, hst1⟩, fun z => ⟨hw, fun z2 => ?_, fun z2 => IH () M ⟨?_, hst1⟩⟩⟩⟩
        · cases hqn : ngp g q
          · rw [hrs, hqn, if_neg (by decide), Nat.add_zero]
            exact hI
          · rw [hrs, hqn, if_pos rfl]
            exact DIN_skip (by rw [SI_rk hq hqn]; exact z) hI
        · have hqn : ngp g q = true := by
            cases h : ngp g q
            · exact absurd h z2
            · rfl
          have hJ := rk_lt hq hqn
          have hUb : U.testBit q = false := by
            cases h : U.testBit q
            · rfl
            · exact absurd h z
          have hSb : (SI g U).testBit (cf (ngp g) q) = false := by rw [SI_rk hq hqn]; exact hUb
          have hsq : spx g (cf (ngp g) q) = q := spx_rk hq hqn
          have g54 : (mu M 71 P (q : Int)) 54 = m 54 := by rw [mu_rf (by decide), f54]
          have g53 : (mu M 71 P (q : Int)) 53 = M 53 := mu_rf (by decide)
          have hgM : nv ((mu M 71 P (q : Int)) 54) = g := by rw [g54]; exact hg
          have hpreM : ∀ y : Nat, y < P → (mu M 71 P (q : Int)) 71 y = m 71 y := fun y hy => by
            rw [mu_k (by omega)]
            exact hI.1.2 y (by omega)
          obtain ⟨v1, v2⟩ := v250 (m := mu M 71 P (q : Int)) (P := P) (q := q) (by rw [g54]; exact hw) (by rw [g54]; omega) (by rw [g54]; omega) (by rw [hgM]; exact hn) (by rw [hgM]; exact hqn) mu_same (fun h1 => by
            rw [hgM, hpreM (P - 1) (by omega)]
            exact hpre (P - 1) (by omega))
          rw [hgM] at v2
          have hdL : dif (adj g) (tau g) (cf (ngp g) P) (LI g (mu M 71 P (q : Int)) P) (cf (ngp g) q) = dif (adj g) (tau g) (cf (ngp g) P) (LI g m P) (cf (ngp g) q) := by
            by_cases hP0 : P = 0
            · refine dif_L ?_
              rw [hP0]
              exact decide_eq_false (fun h => absurd h.1 (show ¬ (1 ≤ (0 : Nat)) by decide))
            · have : LI g (mu M 71 P (q : Int)) P = LI g m P := by
                unfold LI
                rw [hpreM (P - 1) (by omega)]
              rw [this]
          rw [hdL] at v2
          have hd0 := dif_0 (A := adj g) (τ := tau g) (i := cf (ngp g) P) (l := LI g m P) (o := cf (ngp g) q)
          have hdm : dif (adj g) (tau g) (cf (ngp g) P) (LI g m P) (cf (ngp g) q) ≤ 1000 := by
            have ht : ∀ j, j < BN g → 20 ≤ tau g j ∧ tau g j ≤ 129 := fun j hj => tno_rng hwg (by have := (spx_ok hj).1; omega)
            unfold dif
            split
            · rename_i hA
              have hA2 := (adj_iff hPN hn).mp hA
              obtain ⟨j0, c1, c2⟩ := (hpre (P - 1) (by omega)).2 hA2.2
              have hLj : LI g m P = j0 := by
                unfold LI
                rw [c2, Int.toNat_natCast]
                exact (spx_ok c1).2.2
              have t1 := ht j0 c1
              have t2 := ht _ hJ
              rw [hLj]
              split <;> omega
            · exact Int.le_refl _
          have hqp : 2 ^ q ≤ 2 ^ 11 := Nat.pow_le_pow_right (by decide) (by omega)
          have hor : am_or (U : Int) (am_shl 1 (q : Int)) = ((U ||| 2 ^ q : Nat) : Int) := by
            rw [bx_shl1 q (by omega)]
            exact bx_or12 (by omega) (by omega)
          have horl : U ||| 2 ^ q < 2 ^ 12 := Nat.or_lt_two_pow (by omega) (by omega)
          have nP : ((P : Int) + 1).toNat = P + 1 := by omega
          have hrk1 : cf (ngp g) (P + 1) = cf (ngp g) P + 1 := by rw [rk_s, if_pos hn]
          refine ⟨by omega, v1, fun y hy => ?_⟩
          rw [v2, am_s_id (z := x) (by omega) (by omega), am_s_id (by omega) (by omega)] at hy
          have hyv : y = min x (dif (adj g) (tau g) (cf (ngp g) P) (LI g m P) (cf (ngp g) q)) := by
            rw [hy]
            split <;> omega
          rw [hor]
          simp only [Int.toNat_natCast]
          have hLq : LI g (mu M 71 P (q : Int)) (P + 1) = cf (ngp g) q := by
            unfold LI
            rw [show P + 1 - 1 = P by omega, mu_same, Int.toNat_natCast]
          refine ⟨⟨hgM, ?_⟩, fun m1 hm1 => ?_⟩
          · unfold DPR
            rw [hgM, g54, g53, nP, Int.toNat_natCast, SI_or hq hqn, cnt_orb hSb (by omega), hcn, hrk1]
            refine ⟨⟨hw, hB⟩, by omega, by omega, rfl, by omega, hst1, fun w hw' => ?_⟩
            by_cases hh : w = P
            · rw [hh, mu_same]
              exact ⟨fun h => by rw [hn] at h; exact absurd h (by decide), fun _ => ⟨cf (ngp g) q, hJ, by rw [hsq]⟩⟩
            · rw [hpreM w (by omega)]
              exact hpre w (by omega)
          · obtain ⟨k1, k2⟩ := hm1
            rw [nP, SI_or hq hqn, hLq] at k2
            have hDr := DD_rng (A := adj g) (τ := tau g) (B := BN g) (BN g - (cf (ngp g) P + 1)) (SI g U ||| 2 ^ cf (ngp g) q) (cf (ngp g) q)
            refine IH () m1 ⟨?_, ?_⟩
            · rw [hrs, hqn, if_pos rfl]
              exact DIN_step hI hJ hSb hsq.symm hn (by omega) (by omega) (by rw [hyv]; unfold cnd; omega) k1 k2
            · unfold DPS at k2
              rw [hrk1, g53] at k2
              rcases k2 with ⟨d1, d2, d3, d4, -⟩ | ⟨d1, d2, d3, -, -⟩
              · rw [d3, d4]
                exact hst1
              · right
                rw [d2, d3]
                omega
        · rw [hrs, z2, if_neg (by decide), Nat.add_zero]
          exact hI
      · rintro - M ⟨hI, hst1⟩
        refine u_249_95 (h0 := k + 5) (by omega) hrec ?_
        rw [hI.1.1 54 0 (by decide) (by decide) (by omega), am_s_id (z := m 54 0) (by omega) (by omega), am_s_id (z := (((g 0).toNat : Nat) : Int)) (by omega) (by omega)]
        refine ⟨fun _ => ⟨rfl, hI.1, DIN_end hI hPN hn hx.1 (ex_left (by omega) SI_lt (by omega))⟩, fun q => by omega⟩
    have e3 : (0 ≤ (P : Int) ∧ (P : Int) < m 54 0) ∧ nv (m 54) (8 + P) = 3 ↔ ngp g P = false := by
      rw [hg]
      unfold ngp
      rw [decide_eq_false_iff_not]
      exact ⟨fun h => not_not_intro h.2, fun h => ⟨by omega, Decidable.not_not.mp h⟩⟩
    show ok (k + 5 + 1) 249 0 [some (.inr (.inr (some 53))), some (.inl (P : Int)), some (.inl (U : Int)), some (.inl x), none, none] [] m _
    refine u_249_0 (h0 := k + 5) (by omega) hrec ?_
    rw [e36, am_s_id (z := (P : Int)) (by omega) (by omega), am_s_id (z := m 54 0) (by omega) (by omega), am_s_id (z := x) (by omega) (by omega), Int.toNat_natCast, show am_s 3 = 3 from rfl, e3]
    have body : (¬ (P : Int) = m 54 0 → WFG (m 54) ∧ ((¬ ngp g P = false → ok (k + 5 + 1) 249 95 [some (.inr (.inr (some 53))), some (.inl (P : Int)), some (.inl (U : Int)), some (.inl x), some (.inl 0), none] [] m (fun rr m' => rr = [] ∧ (DFR m m' (P : Int) ∧ DPS g m m' P (SI g U) (LI g m P) x))) ∧ (ngp g P = false → (0 ≤ (P : Int) ∧ (P : Int) < (12 : Nat)) ∧ ((nv ((mu m 71 P (-1)) 54) = g ∧ DPR (mu m 71 P (-1)) k ((P : Int) + 1) (U : Int) x) ∧ ∀ m1 : am_M, (DFR (mu m 71 P (-1)) m1 ((P : Int) + 1) ∧ DPS g (mu m 71 P (-1)) m1 ((P : Int) + 1).toNat (SI g (U : Int).toNat) (LI g (mu m 71 P (-1)) ((P : Int) + 1).toNat) x) → ([] : List am_V) = [] ∧ (DFR m m1 (P : Int) ∧ DPS g m m1 P (SI g U) (LI g m P) x))))) := by
      intro _
      refine ⟨hw, fun q => bar ?_, fun q => ⟨by omega, gap q⟩⟩
      cases h : ngp g P
      · exact absurd h q
      · rfl
    refine ⟨fun q => ⟨body, fun q2 => by omega⟩, fun q => ?_⟩
    have h36 : m 53 36 = 1 := by omega
    rw [e35 h36]
    refine ⟨fun q2 => ⟨body, fun q3 => by omega⟩, fun q2 => ⟨rfl, DFR_refl, ?_⟩⟩
    unfold DPS
    exact Or.inl ⟨h36, by omega, rfl, rfl, fun _ _ => rfl⟩
