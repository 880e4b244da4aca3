def knx (n : Nat) (F : Nat → Nat) (S C D : Nat) : Nat := kpk (fun i => min D (kfl (kpk (ktp F C (kfl S)) n) i)) n
theorem ktp_lt {F : Nat → Nat} (hF : ∀ i, F i < 8) {S C : Nat} (i : Nat) : ktp F C (kfl S) i < 8 := by
  have := kfl_lt (s := S) (i := i)
  have := hF i
  unfold ktp
  split <;> omega
theorem knx_fl {n : Nat} {F : Nat → Nat} (hF : ∀ i, F i < 8) {S C D k : Nat} (hk : k < n) : kfl (knx n F S C D) k = min D (ktp F C (kfl S) k) := by
  unfold knx
  rw [kfl_pk (fun i => by have := kfl_lt (s := kpk (ktp F C (kfl S)) n) (i := i); omega) n k hk, kfl_pk (ktp_lt hF) n k hk]
theorem knx_lt {n : Nat} {F : Nat → Nat} {S C D : Nat} : knx n F S C D < 8 ^ n := kpk_lt (fun i => by have := kfl_lt (s := kpk (ktp F C (kfl S)) n) (i := i); omega) n
theorem knx_mc {n : Nat} {F : Nat → Nat} {H S C D : Nat} (hn : n ≤ 5) (hD : D ≤ 8) (hF : ∀ i, F i < 8) : kmc 63 n F H D (kfl (knx n F S C D)) = kmc 63 n F H D (ktp F C (kfl S)) :=
  kmc_cap hn hD (by decide) fun k hk => by rw [knx_fl hF hk]; omega
theorem kls_bd {d : Nat} {w F : Nat → Nat} (hd : d ≤ 8) : ∀ i, kls d w F i ≤ 9 * i := by
  intro i
  induction i with
  | zero => exact Nat.le_refl _
  | succ i ih =>
    have : klp d (w i) (F i) ≤ 9 := by
      unfold klp
      have := Nat.div_le_self (d - w i - 1) (F i + 1)
      split <;> omega
    show kls d w F i + klp d (w i) (F i) ≤ 9 * (i + 1)
    omega
def KRF (n : Nat) (F : Nat → Nat) (H : Nat) (key v : Nat) : Prop := ∀ d st, d ≤ 8 → st < 8 ^ n → key = d * 32768 + st → (v : Int) = kmc 63 n F H d (kfl st)
def KS (n : Nat) (F : Nat → Nat) (H : Nat) (R : Nat → Nat → Prop) (m : am_M) : Prop := KOK m ∧ kn m = n ∧ kF m = F ∧ kH m = H ∧ TBS R m
theorem KS_fr {n : Nat} {F : Nat → Nat} {H : Nat} {R : Nat → Nat → Prop} {m m' : am_M} (h : KS n F H R m) (hf : ∀ a, a ≠ 45 → m' a = m a) (hT : TBS R m') : KS n F H R m' := by
  obtain ⟨h1, h2, h3, h4, -⟩ := h
  have e := hf 43 (by decide)
  unfold KS KOK kn kF kH at *
  rw [e]
  exact ⟨h1, h2, h3, h4, hT⟩
def KLP (n : Nat) (F : Nat → Nat) (H d : Nat) (w : Nat → Nat) (i : Nat) (b : Int) : Prop := KLS 63 n H d w (fun s => s < i ∧ kneed n (d + 1) w s) (fun s => kmc 63 n F H d (ktp F s w)) b
theorem KLP_0 {n : Nat} {F : Nat → Nat} {H d : Nat} {w : Nat → Nat} : KLP n F H d w 0 63 := ⟨fun s h => absurd h.1 (Nat.not_lt_zero _), by decide, Or.inl rfl⟩
theorem KLP_skip {n : Nat} {F : Nat → Nat} {H d : Nat} {w : Nat → Nat} {i : Nat} {b : Int} (h : KLP n F H d w i b) (hg : (cnt i 12 ≤ H ∧ kgo n w i ∧ kneed n (d + 1) w i) → b ≤ ((cnt i 12 : Nat) : Int) + kmc 63 n F H d (ktp F i w)) : KLP n F H d w (i + 1) b := by
  obtain ⟨h1, h2, h3⟩ := h
  refine ⟨fun s hs q1 q2 => ?_, h2, ?_⟩
  · by_cases hh : s = i
    · rw [hh] at hs q1 q2 ⊢
      exact hg ⟨q1, q2, hs.2⟩
    · exact h1 s ⟨by omega, hs.2⟩ q1 q2
  · rcases h3 with h3 | ⟨s, q1, q2⟩
    · exact Or.inl h3
    · exact Or.inr ⟨s, ⟨by omega, q1.2⟩, q2⟩
theorem KLP_min {n : Nat} {F : Nat → Nat} {H d : Nat} {w : Nat → Nat} {i : Nat} {b : Int} (h : KLP n F H d w i b) (q1 : cnt i 12 ≤ H) (q2 : kgo n w i) (q3 : kneed n (d + 1) w i) : KLP n F H d w (i + 1) (min b (((cnt i 12 : Nat) : Int) + kmc 63 n F H d (ktp F i w))) := by
  by_cases hc : b ≤ ((cnt i 12 : Nat) : Int) + kmc 63 n F H d (ktp F i w)
  · rw [Int.min_eq_left hc]
    exact KLP_skip h fun _ => hc
  · rw [Int.min_eq_right (by omega)]
    obtain ⟨h1, h2, h3⟩ := h
    refine ⟨fun s hs z1 z2 => ?_, by omega, Or.inr ⟨i, ⟨by omega, q3⟩, q1, q2, rfl⟩⟩
    by_cases hh : s = i
    · rw [hh]; exact Int.le_refl _
    · have := h1 s ⟨by omega, hs.2⟩ z1 z2
      omega
theorem KLP_rng {n : Nat} {F : Nat → Nat} {H d : Nat} {w : Nat → Nat} {i : Nat} {b : Int} (hn : n ≤ 5) (hd : d ≤ 8) (h : KLP n F H d w i b) : 0 ≤ b ∧ b ≤ 63 := by
  obtain ⟨h1, h2, h3⟩ := h
  refine ⟨?_, h2⟩
  rcases h3 with h3 | ⟨s, -, -, -, q⟩
  · omega
  · have := (kmc_rng (c := 63) (F := F) (H := H) (w := ktp F s w) hn hd (by decide)).1
    have q : b = ((cnt s 12 : Nat) : Int) + kmc 63 n F H d (ktp F s w) := q
    omega
def KPR (n : Nat) (F : Nat → Nat) (H D : Nat) (m : am_M) (s d : Int) : Prop := KS n F H (KRF n F H) m ∧ (0 ≤ s ∧ s.toNat < 8 ^ n) ∧ d = (D : Int) ∧ D ≤ 8
theorem few {n : Nat} {F : Nat → Nat} {H : Nat} (hn : n ≤ 5) : ∀ (D : Nat) (m : am_M) (s d : Int), KPR n F H D m s d → ok (D + 3) 118 0 (am_ent 9 [.inr (.inr (some 43)), .inl s, .inl d]) [] m (fun rr m' => rr = [.inl (kmc 63 n F H d.toNat (kfl s.toNat))] ∧ (TBS (KRF n F H) m' ∧ ∀ a, a ≠ 45 → m' a = m a)) := by
  intro D
  induction D with
  | zero =>
    rintro m s d ⟨hKS, hs, hd, -⟩
    obtain rfl := hd
    show ok (2 + 1) 118 0 [some (.inr (.inr (some 43))), some (.inl s), some (.inl ((0 : Nat) : Int)), none, none, none, none, none, none] [] m _
    refine u_118_0 (h0 := 2) (PRE := fun _ _ _ => False) (POST := fun _ _ _ _ => True) (VAL := fun _ _ => 0) (by omega) (fun _ _ _ h => absurd h id) ?_
    rw [am_s_id (z := ((0 : Nat) : Int)) (by omega) (by omega)]
    refine ⟨fun q => by omega, fun _ => ⟨?_, hKS.2.2.2.2, fun _ _ => rfl⟩⟩
    rw [Int.toNat_natCast, kmc_0 hn (by decide)]
  | succ D ih =>
    rintro m s d ⟨hKS, hs, hd, hD8⟩
    obtain rfl := hd
    obtain ⟨S, rfl⟩ : ∃ S : Nat, s = (S : Int) := ⟨s.toNat, by omega⟩
    simp only [Int.toNat_natCast] at hs ⊢
    obtain ⟨hK, e1, e2, e3, hT⟩ := id hKS
    have h15 := kp15 hn
    have hF : ∀ i, F i < 8 := fun i => by rw [← e2]; exact kF_lt
    have ek : am_or (am_shl ((D + 1 : Nat) : Int) 15) (S : Int) = (((D + 1) * 32768 + S : Nat) : Int) := kx_k (k := D + 1) (v := S) (i := 15) (by omega) (by omega) (by decide)
    have hp1 := Nat.two_pow_pos n
    have h32 : 2 ^ n ≤ 32 := Nat.le_trans (Nat.pow_le_pow_right (by decide) hn) (by decide)
    have hloop : ok (D + 3 + 1) 118 36 [some (.inr (.inr (some 43))), some (.inl (S : Int)), some (.inl ((D + 1 : Nat) : Int)), some (.inl (((D + 1) * 32768 + S : Nat) : Int)), none, some (.inl 63), some (.inl 0), none, none] [] m (fun rr m' => rr = [.inl (kmc 63 n F H (D + 1) (kfl S))] ∧ (TBS (KRF n F H) m' ∧ ∀ a, a ≠ 45 → m' a = m a)) := by
      refine ok_for (σ := Int) (fun c b => [some (.inr (.inr (some 43))), some (.inl (S : Int)), some (.inl ((D + 1 : Nat) : Int)), some (.inl (((D + 1) * 32768 + S : Nat) : Int)), none, some (.inl b), some (.inl (c : Int)), none, none]) (fun c b M => KS n F H (KRF n F H) M ∧ (∀ a, a ≠ 45 → M a = m a) ∧ KLP n F H D (kfl S) c b) (2 ^ n) ?_ ?_ 63 m ⟨hKS, fun _ _ => rfl, KLP_0⟩
      · rintro c hc b M ⟨hS1, hf, hL⟩ IH
        obtain ⟨hK1, f1, f2, f3, hT1⟩ := id hS1
        have hb := KLP_rng hn (by omega) hL
        have hcn := cnt_le c 12
        have hkl := kls_bd (d := D) (w := kfl (knx n F S c D)) (F := F) (by omega) n
        have hkx := knx_lt (n := n) (F := F) (S := S) (C := c) (D := D)
        have hkm := knx_mc (n := n) (F := F) (H := H) (S := S) (C := c) (D := D) hn (by omega) hF
        have hk0 := kls_kmc (c := 63) (n := n) (H := H) (d := D) (F := F) (w := kfl (knx n F S c D)) hn (by omega) (by decide)
        have hk1 := kmc_rng (c := 63) (n := n) (F := F) (H := H) (d := D) (w := ktp F c (kfl S)) hn (by omega) (by decide)
        have ed : ((D + 1 : Nat) : Int) - 1 = (D : Int) := by omega
        have hb1 := kpk_lt (w := ktp F c (kfl S)) (ktp_lt hF) n
        refine u_118_36 (h0 := D + 3) (PRE := KPR n F H D) (POST := fun m _ _ m' => TBS (KRF n F H) m' ∧ ∀ a, a ≠ 45 → m' a = m a) (VAL := fun s d => kmc 63 n F H d.toNat (kfl s.toNat)) (by omega) ih ?_
        rw [(KOK_n hK1).1, f1, bx_shl1 n (by omega), am_s_id (z := ((2 ^ n : Nat) : Int)) (by omega) (by omega), am_s_id (z := (c : Int)) (by omega) (by omega), ed]
        simp only [Int.toNat_natCast]
        refine ⟨fun q => by omega, fun _ => ⟨⟨hK1, ⟨by omega, by omega⟩, ⟨by omega, by omega⟩, by omega, by omega⟩, ?_⟩⟩
        rintro v2 mx2 ⟨hmx2, hv, hiff⟩
        obtain rfl := hmx2.symm
        unfold KCH at hiff
        rw [f1, f3] at hiff
        refine ⟨fun q => ⟨⟨by omega, by omega⟩, ⟨hK1, ⟨by omega, by omega⟩, by omega, by omega⟩, ?_⟩, fun q => ?_⟩
        · have hv1 : v2 = 1 := by
            rcases hv with h | h
            · rw [h] at q; exact absurd rfl q
            · exact h
          obtain ⟨g1, g2, g3⟩ := hiff.mp hv1
          intro mx3 hmx3
          obtain rfl := hmx3.symm
          rw [f1, f2]
          refine ⟨⟨hK1, ⟨by omega, hb1⟩, by omega, by omega⟩, ?_⟩
          intro mx4 hmx4
          obtain rfl := hmx4.symm
          rw [f1, f2, show kpk (fun i => min D (kfl (kpk (ktp F c (kfl S)) n) i)) n = knx n F S c D from rfl]
          refine ⟨⟨hK1, ⟨by omega, by omega⟩, by omega, by omega⟩, ?_⟩
          intro mx5 hmx5
          obtain rfl := hmx5.symm
          rw [am_s_id (z := b) (by omega) (by omega), am_s_id (by omega) (by omega)]
          refine ⟨fun q2 => IH b _ ⟨hS1, hf, KLP_skip hL fun _ => by omega⟩, fun q2 => ⟨⟨hS1, ⟨by omega, by rw [Int.toNat_natCast]; exact hkx⟩, rfl, by omega⟩, ?_⟩⟩
          rintro mx6 ⟨hT6, hf6⟩
          rw [hkm, v14 (by omega) (by omega) (by omega) (by omega)]
          exact IH _ _ ⟨KS_fr hS1 hf6 hT6, fun a ha => by rw [hf6 a ha, hf a ha], KLP_min hL g1 g2 g3⟩
        · refine IH b _ ⟨hS1, hf, KLP_skip hL fun z => ?_⟩
          rw [hiff.mpr z] at q
          exact absurd q (by decide)
      · rintro b M ⟨hS1, hf, hL⟩
        obtain ⟨hK1, f1, f2, f3, hT1⟩ := id hS1
        have hb := KLP_rng hn (by omega) hL
        have hbv : b = kmc 63 n F H (D + 1) (kfl S) := kmc_s hn (by omega) (by decide) (fun s h => h.1) (fun s h1 h2 => ⟨h1, h2⟩) hL
        refine u_118_36 (h0 := D + 3) (PRE := KPR n F H D) (POST := fun m _ _ m' => TBS (KRF n F H) m' ∧ ∀ a, a ≠ 45 → m' a = m a) (VAL := fun s d => kmc 63 n F H d.toNat (kfl s.toNat)) (by omega) ih ?_
        rw [(KOK_n hK1).1, f1, bx_shl1 n (by omega), am_s_id (z := ((2 ^ n : Nat) : Int)) (by omega) (by omega)]
        refine ⟨fun _ => ⟨⟨⟨by omega, by omega⟩, by omega, by omega⟩, ?_⟩, fun q => by omega⟩
        rintro mx1 ⟨j, hj, hmx⟩
        obtain ⟨B, rfl⟩ : ∃ B : Nat, b = (B : Int) := ⟨b.toNat, by omega⟩
        refine ⟨by rw [hbv], TBS_u hT1 (k := (D + 1) * 32768 + S) (v := B) (by omega) (by omega) ?_ hmx, fun a ha => by rw [hmx, mu_rf ha]; exact hf a ha⟩
        intro d' st hd' hst hkey
        have z1 : d' = D + 1 := by omega
        have z2 : st = S := by omega
        rw [z1, z2]
        exact hbv
    show ok (D + 3 + 1) 118 0 [some (.inr (.inr (some 43))), some (.inl (S : Int)), some (.inl ((D + 1 : Nat) : Int)), none, none, none, none, none, none] [] m _
    refine u_118_0 (h0 := D + 3) (PRE := KPR n F H D) (POST := fun m _ _ m' => TBS (KRF n F H) m' ∧ ∀ a, a ≠ 45 → m' a = m a) (VAL := fun s d => kmc 63 n F H d.toNat (kfl s.toNat)) (by omega) ih ?_
    rw [am_s_id (z := ((D + 1 : Nat) : Int)) (by omega) (by omega), ek]
    refine ⟨fun _ => ⟨⟨TBS_R hT, by omega, by omega⟩, ?_⟩, fun q => by omega⟩
    rintro v1 mx ⟨hmx, hv⟩
    obtain rfl := hmx.symm
    rcases hv with hv | ⟨j, hj, j1, j2, j3⟩
    · rw [hv]
      exact ⟨fun _ => hloop, fun q => absurd rfl q⟩
    · obtain ⟨V, rfl⟩ : ∃ V : Nat, v1 = (V : Int) := ⟨v1.toNat, by omega⟩
      rw [am_s_id (z := (V : Int)) (by omega) (by omega)]
      refine ⟨fun q => by omega, fun _ => ⟨?_, hT, fun _ _ => rfl⟩⟩
      rw [(hT j hj).2 ((D + 1) * 32768 + S) V (by omega) j1 (D + 1) S (by omega) hs.2 rfl]
