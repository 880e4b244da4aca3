noncomputable def KV (g : Nat → Int) (d w : Int) : Int := if ¬ (w = 0 ∨ (10 ≤ w ∧ w ≤ 17)) then -2 else if ¬ (1 ≤ d ∧ d ≤ 8) then -3 else if ¬ SN g ≤ 5 then -4 else if w = 0 then kmv (SN g) (kf0 g) (g 4).toNat d.toNat (kw0 g) else if kmv (SN g) (kf0 g) (g 4).toNat d.toNat (kw0 g) = -1 ∨ d ≤ w - 10 then -1 else ((kpl (fun j => ((ksp g j : Nat) : Int)) (klc (SN g) (kf0 g) (g 4).toNat (d.toNat - (w - 10).toNat - 1) (kws (SN g) (kf0 g) (g 4).toNat d.toNat (kw0 g) (w - 10).toNat)) (SN g) : Nat) : Int)
theorem KV_2 {g : Nat → Int} {d w : Int} (h : ¬ (w = 0 ∨ (10 ≤ w ∧ w ≤ 17))) : KV g d w = -2 := by unfold KV; rw [if_pos h]
theorem KV_3 {g : Nat → Int} {d w : Int} (h : w = 0 ∨ (10 ≤ w ∧ w ≤ 17)) (h2 : ¬ (1 ≤ d ∧ d ≤ 8)) : KV g d w = -3 := by unfold KV; rw [if_neg (not_not_intro h), if_pos h2]
theorem KV_4 {g : Nat → Int} {d w : Int} (h : w = 0 ∨ (10 ≤ w ∧ w ≤ 17)) (h2 : 1 ≤ d ∧ d ≤ 8) (h3 : ¬ SN g ≤ 5) : KV g d w = -4 := by unfold KV; rw [if_neg (not_not_intro h), if_neg (not_not_intro h2), if_pos h3]
theorem KV_0 {g : Nat → Int} {d w : Int} (h : w = 0) (h2 : 1 ≤ d ∧ d ≤ 8) (h3 : SN g ≤ 5) : KV g d w = kmv (SN g) (kf0 g) (g 4).toNat d.toNat (kw0 g) := by unfold KV; rw [if_neg (not_not_intro (Or.inl h)), if_neg (not_not_intro h2), if_neg (not_not_intro h3), if_pos h]
theorem KV_w {g : Nat → Int} {d w : Int} (h : 10 ≤ w ∧ w ≤ 17) (h2 : 1 ≤ d ∧ d ≤ 8) (h3 : SN g ≤ 5) : KV g d w = if kmv (SN g) (kf0 g) (g 4).toNat d.toNat (kw0 g) = -1 ∨ d ≤ w - 10 then -1 else ((kpl (fun j => ((ksp g j : Nat) : Int)) (klc (SN g) (kf0 g) (g 4).toNat (d.toNat - (w - 10).toNat - 1) (kws (SN g) (kf0 g) (g 4).toNat d.toNat (kw0 g) (w - 10).toNat)) (SN g) : Nat) : Int) := by unfold KV; rw [if_neg (not_not_intro (Or.inr h)), if_neg (not_not_intro h2), if_neg (not_not_intro h3), if_neg (by omega)]
theorem kpC_3 {m m1 m2 : am_M} (h1 : ∀ a, a ≠ 43 → a ≠ 44 → m1 a = m a) (h2 : ∀ a, a ≠ 45 → m2 a = m1 a) : kpC m m2 := fun a k hc => by
  unfold core at hc
  rw [h2 a (by omega), h1 a (by omega) (by omega)]
theorem kpM {m m0 m1 m2 m3 : am_M} {g : Nat → Int} {D : Nat} (hI : Inv m) (e54 : m0 54 = m 54) (hg : nv (m 54) = g) (h1 : MFW g m1) (f1 : ∀ a, a ≠ 53 → a ≠ 63 → a ≠ 64 → m1 a = m0 a) (h2 : ∀ e, e < D → KTF g m2 e) (f2 : ∀ a, a ≠ 65 → a ≠ 66 → m2 a = m1 a) (h3 : ∀ j, j < SN g → m3 65 j = g (44 + ksp g j)) (f3 : ∀ a, a ≠ 65 → m3 a = m2 a) : MFW g m3 ∧ m3 54 = m 54 ∧ (∀ j, j < SN g → 0 ≤ m3 65 j ∧ m3 65 j ≤ 99) ∧ (∀ e, e < D → KTF g m3 e) ∧ (∀ j, j < SN g → kwa g (m3 65) j = kw0 g j) ∧ ∀ j, j < SN g → m3 63 j = ((ksp g j : Nat) : Int) := by
  have g2 : MFW g m2 := MFW_fr h1 (by rw [f2 53 (by decide) (by decide)]) (f2 63 (by decide) (by decide)) (f2 64 (by decide) (by decide)) (f2 54 (by decide) (by decide))
  have g3 : MFW g m3 := MFW_fr g2 (by rw [f3 53 (by decide)]) (f3 63 (by decide)) (f3 64 (by decide)) (f3 54 (by decide))
  refine ⟨g3, by rw [f3 54 (by decide), f2 54 (by decide) (by decide), f1 54 (by decide) (by decide) (by decide), e54], fun j hj => ?_, fun e he a q => ?_, fun j hj => ?_, fun j hj => (g3.2.2.1 j hj).1⟩
  · rw [h3 j hj]
    exact g3.2.2.2.2.2.2.2.2.2.1 (ksp g j) (ksp_12 g3.2.2.2.2.2 j)
  · rw [f3 66 (by decide)]
    exact h2 e he a q
  · rw [kw0_wa]
    unfold kwa
    rw [h3 j hj]
theorem P_kept {m : am_M} {d w : Int} (hd : am_s d = d) (hw0 : am_s w = w) (hI : Inv m) : PK 114 3 229 6 [.inl d, .inl w] m := by
  have hv := Inv_vw hI
  have hwf := Inv_wf hI
  have hnv := Inv_nv hI
  have hdr := am_s_rng d
  have hwr := am_s_rng w
  rw [hd] at hdr
  rw [hw0] at hwr
  have d8 : am_s (w - 10) = w - 10 ∨ ¬ (10 ≤ w ∧ w ≤ 17) := by
    by_cases h : 10 ≤ w ∧ w ≤ 17
    · exact Or.inl (am_s_id (by omega) (by omega))
    · exact Or.inr h
  refine PK_2 (h1 := 14) (h2 := 4) (v := .inl (KV (nv (m 54)) d w)) (R := fun mc => kpC m mc) ?_ ?_ (by decide) (by decide)
  · show ok 14 114 0 [some (.inr (.inr (some 0))), some (.inl d), some (.inl w)] [] m _
    refine u_114_0 ?_
    rw [hd, hw0, hnv]
    have hk4 : ∀ mc : am_M, (SN (nv (m 54)) ≤ 5 → KLK (nv (m 54)) mc) ∧ (∀ a, a ≠ 43 → a ≠ 44 → mc a = m a) → kpC m mc := fun mc h => kpC_3 h.2 fun _ _ => rfl
    refine ⟨fun q => ⟨fun q2 => ⟨by rw [KV_3 (Or.inl q) (by omega)], kpC_refl m⟩, fun q2 => ⟨fun q3 => ⟨hv, fun mc hmc => ⟨fun q4 => ?_, fun q4 => ⟨by rw [KV_4 (Or.inl q) (by omega) q4], hk4 mc hmc⟩⟩⟩, fun q3 => ⟨by rw [KV_3 (Or.inl q) (by omega)], kpC_refl m⟩⟩⟩, fun q => ⟨fun q2 => ⟨by rw [KV_2 (by omega)], kpC_refl m⟩, fun q2 => ⟨fun q3 => ⟨fun q5 => ⟨by rw [KV_3 (Or.inr (by omega)) (by omega)], kpC_refl m⟩, fun q5 => ⟨fun q6 => ⟨hv, fun mc hmc => ⟨fun q4 => ?_, fun q4 => ⟨by rw [KV_4 (Or.inr (by omega)) (by omega) q4], hk4 mc hmc⟩⟩⟩, fun q6 => ⟨by rw [KV_3 (Or.inr (by omega)) (by omega)], kpC_refl m⟩⟩⟩, fun q3 => ⟨by rw [KV_2 (by omega)], kpC_refl m⟩⟩⟩⟩
    · obtain ⟨k1, k2, k3, k4, k5, k6⟩ := hmc.1 q4
      refine ⟨⟨k1, by omega, by omega⟩, ?_⟩
      rintro me ⟨-, hme⟩
      refine ⟨?_, kpC_3 hmc.2 hme⟩
      rw [KV_0 q (by omega) q4, k2, k3, kmv_cg (n := SN (nv (m 54))) k5 k4]
    · obtain ⟨k1, k2, k3, k4, k5, k6⟩ := hmc.1 q4
      refine ⟨⟨k1, ⟨by omega, by omega⟩, ⟨by omega, by omega⟩, fun i hi => ?_⟩, ?_⟩
      · have h12 := ksp_12 (WFG_nv hwf) i
        rw [k6 i (by rw [← k2]; exact hi)]
        omega
      · intro me hme
        refine ⟨?_, kpC_3 hmc.2 hme⟩
        rw [KV_w (by omega) (by omega) q4, k2, k3, kmv_cg (n := SN (nv (m 54))) k5 k4, kpl_congr (SN (nv (m 54))) k6, klc_cg (n := SN (nv (m 54))) k5 (kws_cg k5 k4 (w - 10).toNat)]
  · intro mc hk
    show ok 4 229 0 [some (.inr (.inr (some 53))), some (.inl d), some (.inl w), none, none, none] [] mc _
    have e54 : mu mc 53 0 0 54 = m 54 := by
      rw [mu_rf (by decide)]
      exact kpC_f hk (by omega)
    have hc0 : kpC m (mu mc 53 0 0) := kpC_trans hk (kpC_mu (by unfold core; omega))
    have hInv : ∀ {me : am_M}, (∀ a, a ≠ 53 → a ≠ 63 → a ≠ 64 → a ≠ 65 → a ≠ 66 → me a = mu mc 53 0 0 a) → (∀ k, k ≠ 27 → me 53 k = mu mc 53 0 0 53 k) → Inv me := by
      intro me q1 q2
      refine Inv_kpC (fun a k hc => ?_) hI
      rw [← hc0 a k hc]
      by_cases ha : a = 53
      · rw [ha] at hc ⊢
        unfold core at hc
        exact q2 k (by omega)
      · unfold core at hc
        rw [q1 a ha (by omega) (by omega) (by omega) (by omega)]
    refine u_229_0 ?_
    rw [hd, hw0]
    generalize mu mc 53 0 0 = mz at *
    rw [e54]
    generalize hgv : nv (m 54) = g at *
    have hwn : WFG g := by rw [← hgv]; exact WFG_nv hwf
    have hwz : WFG (mz 54) := by rw [e54]; exact hwf
    refine ⟨fun q => ⟨fun q2 => ⟨hwf, ?_⟩, fun q2 => ⟨by rw [KV_3 (Or.inl q) q2], hInv (fun _ _ _ _ _ _ => rfl) (fun _ _ => rfl)⟩⟩, fun q => ⟨fun q1 => ⟨fun q2 => ⟨hwf, ?_⟩, fun q2 => ⟨by rw [KV_3 (Or.inr q1) q2], hInv (fun _ _ _ _ _ _ => rfl) (fun _ _ => rfl)⟩⟩, fun q1 => ⟨by rw [KV_2 (by omega)], hInv (fun _ _ _ _ _ _ => rfl) (fun _ _ => rfl)⟩⟩⟩
    · rintro ma ⟨x1, x2, x3⟩
      refine ⟨fun q3 => ?_, fun q3 => ⟨by rw [KV_4 (Or.inl q) q2 q3], hInv (fun a y1 y2 y3 _ _ => x2 a y1 y2 y3) x3⟩⟩
      have a54 : ma 54 = m 54 := by rw [x2 54 (by decide) (by decide) (by decide), e54]
      rw [a54, hgv]
      refine ⟨⟨x1 q3, q2.1, q2.2⟩, ?_⟩
      rintro mb ⟨x4, x5⟩
      have b54 : mb 54 = m 54 := by rw [x5 54 (by decide) (by decide), a54]
      rw [b54, hgv]
      refine ⟨⟨MFW_fr (x1 q3) (by rw [x5 53 (by decide) (by decide)]) (x5 63 (by decide) (by decide)) (x5 64 (by decide) (by decide)) (x5 54 (by decide) (by decide)), hwf⟩, ?_⟩
      rintro me ⟨x6, x7⟩
      obtain ⟨y1, y2, y3, y4, y5, y6⟩ := kpM hI e54 hgv (x1 q3) x2 x4 x5 x6 x7
      have hfin : Inv me := hInv (fun a z1 z2 z3 z4 z5 => by rw [x7 a z4, x5 a z4 z5, x2 a z1 z2 z3]) (fun k hk => by rw [x7 53 (by decide), x5 53 (by decide) (by decide), x3 k hk])
      rw [y2, hgv]
      refine ⟨⟨y1, q2, y3, y4 _ (by omega)⟩, ?_⟩
      intro mf hmf
      rw [hmf, kmc_cg (c := 99) (n := SN g) (fun _ _ => rfl) y5]
      have hcv := kmc_cv (n := SN g) (F := kf0 g) (H := (g 4).toNat) (d := d.toNat) (w := kw0 g)
      rw [KV_0 q q2 q3, am_s_id (z := kmc 99 (SN g) (kf0 g) (g 4).toNat d.toNat (kw0 g)) (by omega) (by omega)]
      refine ⟨fun q4 => ⟨?_, hfin⟩, fun q4 => ⟨?_, hfin⟩⟩
      · rcases hcv with ⟨-, z2, -⟩ | ⟨-, z2, -⟩
        · omega
        · rw [z2]
      · rcases hcv with ⟨-, -, z3⟩ | ⟨-, z2, z3⟩
        · rw [z3]
        · omega
    · rintro ma ⟨x1, x2, x3⟩
      refine ⟨fun q3 => ?_, fun q3 => ⟨by rw [KV_4 (Or.inr q1) q2 q3], hInv (fun a y1 y2 y3 _ _ => x2 a y1 y2 y3) x3⟩⟩
      have a54 : ma 54 = m 54 := by rw [x2 54 (by decide) (by decide) (by decide), e54]
      rw [a54, hgv]
      refine ⟨⟨x1 q3, q2.1, q2.2⟩, ?_⟩
      rintro mb ⟨x4, x5⟩
      have b54 : mb 54 = m 54 := by rw [x5 54 (by decide) (by decide), a54]
      rw [b54, hgv]
      refine ⟨⟨MFW_fr (x1 q3) (by rw [x5 53 (by decide) (by decide)]) (x5 63 (by decide) (by decide)) (x5 64 (by decide) (by decide)) (x5 54 (by decide) (by decide)), hwf⟩, ?_⟩
      rintro me ⟨x6, x7⟩
      obtain ⟨y1, y2, y3, y4, y5, y6⟩ := kpM hI e54 hgv (x1 q3) x2 x4 x5 x6 x7
      have hfr : ∀ {mf : am_M}, (∀ a, a ≠ 65 → mf a = me a) → Inv mf := fun hmf => hInv (fun a z1 z2 z3 z4 z5 => by rw [hmf a z4, x7 a z4, x5 a z4 z5, x2 a z1 z2 z3]) (fun k hk => by rw [hmf 53 (by decide), x7 53 (by decide), x5 53 (by decide) (by decide), x3 k hk])
      rw [y2, hgv]
      refine ⟨⟨y1, q2, y3, y4 _ (by omega)⟩, ?_⟩
      intro mf hmf
      rw [hmf]
      have hcc := kmc_cg (c := 99) (n := SN g) (H := (g 4).toNat) (d := d.toNat) (F := kf0 g) (fun _ _ => rfl) y5
      have hcv := kmc_cv (n := SN g) (F := kf0 g) (H := (g 4).toNat) (d := d.toNat) (w := kw0 g)
      rw [KV_w q1 q2 q3, am_s_id (z := kmc 99 (SN g) (kf0 g) (g 4).toNat d.toNat (kwa g (me 65))) (by omega) (by omega), am_s_id (z := w - 10) (by omega) (by omega)]
      refine ⟨fun q4 => ⟨fun q5 => ?_, fun q5 => ⟨by rw [if_pos (Or.inr (by omega))], hfr fun _ _ => rfl⟩⟩, fun q4 => ⟨by rw [if_pos (Or.inl (by omega))], hfr fun _ _ => rfl⟩⟩
      rw [if_neg (by omega)]
      obtain ⟨D, hD⟩ : ∃ D : Nat, d = (D : Int) := ⟨d.toNat, by omega⟩
      obtain ⟨W, hW⟩ : ∃ W : Nat, w = (W : Int) + 10 := ⟨(w - 10).toNat, by omega⟩
      rw [hD] at y4 q4 q5 hcc q2 ⊢
      rw [hW, show ((W : Int) + 10 - 10).toNat = W by omega]
      simp only [Int.toNat_natCast] at *
      have hp := kpt (D := D) (W := W) y1 (by rw [y2]; exact hgv) (by omega) (by omega) y3 y4 q4
      refine ok.imp hp ?_
      rintro rr mg ⟨z1, z2⟩
      refine ⟨?_, hfr z2⟩
      rw [z1, kpl_congr (SN g) y6, klc_cg (n := SN g) (fun _ _ => rfl) (kws_cg (fun _ _ => rfl) y5 W)]
