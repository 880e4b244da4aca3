def cntv (m : am_M) (a : Int) : Int := if a = 0 then m 54 0 else if a = 1 then ((cnt (brl (nv (m 54))) 12 : Nat) : Int) else if a = 2 then ((cnt (ons (nv (m 54)) 0) 12 : Nat) : Int) else if a = 3 then ((ons (nv (m 54)) 1 : Nat) : Int) else if a = 4 then m 54 1 else if a = 5 then m 54 4 else if a = 6 then m 54 5 else if a = 7 then m 54 6 else if a = 8 then m 53 5 else if a = 9 then m 54 7 else if a = 10 then m 54 2 else if a = 11 then m 54 3 else if a = 12 then sm (fun p => m 54 (32 + p)) (m 54 0).toNat else -1
theorem P_count {m : am_M} {a : Int} (ha : am_s a = a) (hI : Inv m) : PK 161 2 257 2 [.inl a] m := by
  have hw := Inv_wf hI
  have hN := hw.1
  have hv := Inv_vw hI
  have h0 := nv0_le hw
  have hb := brl_lt h0
  have ho := ons_lt (g := nv (m 54)) (w := 0) h0
  refine PK_2 (h1 := 2) (h2 := 2) (v := .inl (cntv m a)) (R := fun m1 => m = m1) ?_ ?_ (by decide) (by decide)
  · refine u_161_0 ?_
    rw [ha, Inv_nv hI]
    simp only [Int.toNat_natCast]
    refine ⟨fun q => ?_, fun q => ⟨hv, by omega, ?_⟩, fun q => ⟨hv, by rw [show am_s 0 = 0 from rfl]; omega, ?_⟩, fun q => ⟨hv, ?_⟩, fun q => ?_, fun q => ?_, fun q => ?_, fun q => ?_, fun q => ?_, fun q => ?_, fun q => ?_, fun q => ?_, fun q => ⟨WFS_vw.mpr hv, ?_⟩, fun q => ?_⟩
    all_goals refine ⟨?_, (by first | rfl | trivial)⟩
    · subst q; rw [Inv_N hI]; rfl
    · subst q; rfl
    · subst q; rfl
    · subst q; rfl
    · subst q; rw [show m 2 11 = m 54 1 from Inv_hd hI (k := 1) (by decide)]; rfl
    · subst q; rw [show m 2 7 = m 54 4 from Inv_hd hI (k := 4) (by decide)]; rfl
    · subst q; rw [show m 2 8 = m 54 5 from Inv_hd hI (k := 5) (by decide)]; rfl
    · subst q; rw [show m 2 9 = m 54 6 from Inv_hd hI (k := 6) (by decide)]; rfl
    · subst q; rw [← (Inv_T hI).2.1]; rfl
    · subst q; rw [show m 2 10 = m 54 7 from Inv_hd hI (k := 7) (by decide)]; rfl
    · subst q; rw [show m 2 5 = m 54 2 from Inv_hd hI (k := 2) (by decide)]; rfl
    · subst q; rw [show m 2 6 = m 54 3 from Inv_hd hI (k := 3) (by decide)]; rfl
    · subst q
      have e : sm (m (2 + 3)) (m 2 4).toNat = sm (fun p => m 54 (32 + p)) (m 54 0).toNat := by
        rw [Inv_N hI]
        exact sm_congr _ fun p hp => (Inv_K hI (p := p) (by omega)).2.2.1
      rw [e]; rfl
    · unfold cntv
      rw [if_neg (by omega), if_neg (by omega), if_neg (by omega), if_neg (by omega), if_neg (by omega), if_neg (by omega), if_neg (by omega), if_neg (by omega), if_neg (by omega), if_neg (by omega), if_neg (by omega), if_neg (by omega), if_neg (by omega)]
  · rintro _ rfl
    refine u_257_0 ?_
    have e1 : am_s ((brl (nv (m 54)) : Nat) : Int) = ((brl (nv (m 54)) : Nat) : Int) := am_s_id (by omega) (by omega)
    have e2 : am_s ((ons (nv (m 54)) 0 : Nat) : Int) = ((ons (nv (m 54)) 0 : Nat) : Int) := am_s_id (by omega) (by omega)
    rw [ha, mu54, show am_s 0 = 0 from rfl, e1, e2]
    simp only [Int.toNat_natCast]
    refine ⟨fun q => ?_, fun q => ⟨hw, by omega, ?_⟩, fun q => ⟨hw, by omega, ?_⟩, fun q => ⟨hw, ?_⟩, fun q => ?_, fun q => ?_, fun q => ?_, fun q => ?_, fun q => ?_, fun q => ?_, fun q => ?_, fun q => ?_, fun q => ⟨hw, fun m1 hm => ?_⟩, fun q => ?_⟩
    · subst q; exact ⟨rfl, Inv_t hI⟩
    · subst q; exact ⟨rfl, Inv_t hI⟩
    · subst q; exact ⟨rfl, Inv_t hI⟩
    · subst q; exact ⟨rfl, Inv_t hI⟩
    · subst q; exact ⟨rfl, Inv_t hI⟩
    · subst q; exact ⟨rfl, Inv_t hI⟩
    · subst q; exact ⟨rfl, Inv_t hI⟩
    · subst q; exact ⟨rfl, Inv_t hI⟩
    · subst q; exact ⟨rfl, Inv_t hI⟩
    · subst q; exact ⟨rfl, Inv_t hI⟩
    · subst q; exact ⟨rfl, Inv_t hI⟩
    · subst q; exact ⟨rfl, Inv_t hI⟩
    · subst q; subst hm; exact ⟨rfl, Inv_t hI⟩
    · refine ⟨?_, Inv_t hI⟩
      unfold cntv
      rw [if_neg (by omega), if_neg (by omega), if_neg (by omega), if_neg (by omega), if_neg (by omega), if_neg (by omega), if_neg (by omega), if_neg (by omega), if_neg (by omega), if_neg (by omega), if_neg (by omega), if_neg (by omega), if_neg (by omega)]
theorem gw_fr {m : am_M} {B a k : Nat} (hN : m 54 0 ≤ 12) (h : ¬ (a = 54 ∧ k < 56)) : gw m B a k = m a k := by
  by_cases h1 : a = 54
  · subst h1
    exact gw_hi (by omega) hN
  · rw [gw_r h1]
theorem P_day {m : am_M} {b : Int} (hb : am_s b = b) (hI : Inv m) : PK 45 2 189 3 [.inl b] m := by
  have hw := Inv_wf hI
  have hv := Inv_vw hI
  have hd := Inv_dt hI
  have hr := rfs_rng (nv (m 54)) b
  have er : am_s (rfs (nv (m 54)) b) = rfs (nv (m 54)) b := am_s_id (by omega) (by omega)
  by_cases hz : rfs (nv (m 54)) b = 0
  · obtain ⟨z1, z2, z3, z4⟩ := rfs_0 hz
    have h0 := nv0_le hw
    have hbl := brl_lt h0
    have hs := sub_le z2
    have hd1 : m 54 1 < 9999 := by
      have := hI.1.2.1
      rw [nv_lo (by decide)] at z4
      omega
    have hd2 : m 2 11 < 9999 := by rw [show m 2 11 = m 54 1 from Inv_hd hI (k := 1) (by decide)]; exact hd1
    refine PK_2 (h1 := 3) (h2 := 3) (v := .inl (dyn b.toNat (nv (m 54)))) (R := fun m1 => m1 = pw m 2 b.toNat) ?_ ?_ (by decide) (by decide)
    · refine u_45_0 ?_
      rw [hb, Inv_nv hI, er, t32 hb]
      exact ⟨⟨⟨hv, hd⟩, rfl⟩, fun _ => ⟨⟨hv, by omega⟩, rfl, rfl⟩, fun q => by omega, fun q => by omega, fun q => by omega⟩
    · rintro _ rfl
      have e54 : (mu (pw m 2 b.toNat) 53 0 0) 54 = m 54 := by rw [mu54, pw_r (by omega)]
      refine u_189_0 ?_
      rw [hb, e54, er, t32 hb]
      refine ⟨⟨hw, rfl⟩, fun q => absurd hz q, fun _ => ⟨⟨hw, by omega⟩, rfl, ?_⟩⟩
      refine Inv_sh hI ?_ ?_ fun r k hc q1 q2 => ?_
      · have hw' : WFG ((mu (pw m 2 b.toNat) 53 0 0) 54) := by rw [e54]; exact hw
        exact ⟨WFG_gw hw' (by rw [e54]; omega), by rw [gw_1, e54]; omega, SLT_gw hw' (by rw [e54]; exact hI.1.2.2)⟩
      · have hw' : WFG ((mu (pw m 2 b.toNat) 53 0 0) 54) := by rw [e54]; exact hw
        have e2 : vw (gw (mu (pw m 2 b.toNat) 53 0 0) b.toNat) 2 = vw (pw m 2 b.toNat) 2 := vw_same fun a k h1 h2 => by rw [gw_r (by omega), mu_r (by omega)]
        rw [e2, nv_gw hw', e54, nv_pw hv, Inv_nv hI]
        exact ⟨WFG_pw hv (by omega), rfl⟩
      · rw [gw_fr (by rw [e54]; exact hw.1.2) q2, mu_o (by unfold core at hc; omega), pw_r (by omega)]
  · refine PK_2 (h1 := 3) (h2 := 3) (v := .inl (if rfs (nv (m 54)) b = 1 then -3 else if rfs (nv (m 54)) b = 2 then -4 else -5)) (R := fun m1 => m = m1) ?_ ?_ (by decide) (by decide)
    · refine u_45_0 ?_
      rw [hb, Inv_nv hI, er, t32 hb]
      refine ⟨⟨⟨hv, hd⟩, rfl⟩, fun q => absurd q hz, fun q => ⟨?_, rfl⟩, fun q => ⟨?_, rfl⟩, fun q => ⟨?_, rfl⟩⟩
      · rw [if_pos q]
      · rw [if_neg (by omega), if_pos q]
      · rw [if_neg (by omega), if_neg (by omega)]
    · rintro _ rfl
      refine u_189_0 ?_
      rw [hb, mu54, er, t32 hb, show am_s 2 = 2 from rfl, ite_n, ite_n]
      exact ⟨⟨hw, rfl⟩, fun _ y hy => ⟨by rw [hy], Inv_t hI⟩, fun q => absurd q hz⟩
theorem P_ripeIn {m : am_M} {p : Int} (hp : am_s p = p) (hI : Inv m) : PK 131 2 241 2 [.inl p] m := by
  have hw := Inv_wf hI
  have hN := hw.1
  have eN := Inv_N hI
  have hv := Inv_vw hI
  by_cases c1 : 0 ≤ p ∧ p < m 54 0
  · obtain ⟨i, rfl⟩ : ∃ i : Nat, p = (i : Int) := ⟨p.toNat, by omega⟩
    obtain ⟨k1, k2, k3, -⟩ := Inv_K hI c1.2
    have hi : i < 12 := by omega
    have hk := hw.2.1 i hi
    have hs := hw.2.2.1 i hi
    have hr := hw.2.2.2.1 i hi
    have ek : am_s (m 54 (8 + i)) = m 54 (8 + i) := am_s_id (by omega) (by omega)
    have es : am_s (m 54 (20 + i)) = m 54 (20 + i) := am_s_id (by omega) (by omega)
    have es2 : am_s (2 * m 54 (20 + i)) = 2 * m 54 (20 + i) := am_s_id (by omega) (by omega)
    have e1 : am_s (32 + (i : Int)) = 32 + (i : Int) := am_s_id (by omega) (by omega)
    have e2 : am_s (20 + (i : Int)) = 20 + (i : Int) := am_s_id (by omega) (by omega)
    have e3 : (32 + (i : Int)).toNat = 32 + i := by omega
    have e4 : (20 + (i : Int)).toNat = 20 + i := by omega
    have eK : nv (m 54) (8 + i) = m 54 (8 + i) := nv_pl (by omega) hi c1.2
    have hsl := hI.1.2.2 i hi c1.2
    have v40 : ¬ am_s (v_40 m 2 (i : Int)) = 0 := by
      rw [v_40_ok (by decide) m _ hv, as_ite, hp, eN]
      exact not_not_intro c1
    refine PK_2 (h1 := 2) (h2 := 3) (v := .inl (if m 54 (8 + i) = 0 then am_div (100 - m 54 (32 + i) + 2 * m 54 (20 + i) - 1) (2 * m 54 (20 + i)) else -1)) (R := fun m1 => m = m1) ?_ ?_ (by decide) (by decide)
    · refine u_131_0 ?_
      simp only [hp, eN]
      refine ⟨hv, fun _ => ?_, fun y hy => ⟨?_, (by first | rfl | trivial)⟩⟩
      · unfold q_132
        simp only [hp, Int.toNat_natCast]
        intro _
        refine ⟨by omega, fun _ _ => ?_⟩
        show am_s (2 * m 4 i) ≠ 0
        rename_i q
        have q : am_s 1 ≤ am_s (m 4 i) := q
        rw [k2, es, show am_s 1 = 1 from rfl] at q
        rw [k2, es2]
        omega
      · have hc : ¬ (am_s (if 0 ≤ (i : Int) ∧ (i : Int) < m 54 0 then 1 else 0) = 0) := as_iteN.mpr c1
        rw [hy, if_neg hc]
        unfold v_132
        rw [if_neg v40, hp, Int.toNat_natCast]
        show [Sum.inl (if ¬ am_s (m 3 i) = 0 then (-1) else (if am_s 1 ≤ am_s (m 4 i) then am_div (100 - m 5 i + 2 * m 4 i - 1) (2 * m 4 i) else (-1)))] = _
        rw [k1, k2, k3, ek, es, show am_s 1 = 1 from rfl, ite_n]
        by_cases h0 : m 54 (8 + i) = 0
        · rw [if_pos h0, if_pos h0, if_pos (hsl (by omega))]
        · rw [if_neg h0, if_neg h0]
    · rintro _ rfl
      refine u_241_0 ?_
      simp only [hp, am_t_s, t32 hp, mu54, Int.toNat_natCast, show am_s 0 = 0 from rfl, eK]
      have q242 : m 54 (8 + i) = 0 → q_242 (mu m 53 0 0) (i : Int) := by
        intro h0
        unfold q_242
        rw [e1, e2, e4, mu54, es2]
        have := hsl (by omega)
        omega
      have v242 : v_242 (mu m 53 0 0) (i : Int) = am_div (100 - m 54 (32 + i) + 2 * m 54 (20 + i) - 1) (2 * m 54 (20 + i)) := by
        unfold v_242
        rw [e1, e2, e3, e4, mu54]
      refine ⟨hw, fun _ => ⟨fun q => q242 (as_iteN.mp q).2, fun y hy => ⟨?_, Inv_t hI⟩⟩, fun q => absurd c1 q⟩
      rw [hy, v242]
      by_cases h0 : m 54 (8 + i) = 0
      · rw [if_pos h0, if_neg (as_iteN.mpr ⟨c1, h0⟩)]
      · rw [if_neg h0, if_pos (as_ite.mpr (fun q => h0 q.2))]
  · refine PK_2 (h1 := 2) (h2 := 3) (v := .inl (-2)) (R := fun m1 => m = m1) ?_ ?_ (by decide) (by decide)
    · refine u_131_0 ?_
      simp only [hp, eN]
      have hc : am_s (if 0 ≤ p ∧ p < m 54 0 then 1 else 0) = 0 := as_ite.mpr c1
      exact ⟨hv, fun q => absurd hc q, fun y hy => ⟨by rw [hy, if_pos hc], (by first | rfl | trivial)⟩⟩
    · rintro _ rfl
      refine u_241_0 ?_
      simp only [hp, am_t_s, t32 hp, mu54]
      exact ⟨hw, fun q => absurd q c1, fun _ => ⟨(by first | rfl | trivial), Inv_t hI⟩⟩
