theorem u_134_29 {Q : List am_V → am_M → Prop} {m : am_M} {d : Int} {f : Int} {x : Int} {t : Int} {p : Int}  (H : ((am_s (m 2 4) ≤ am_s p) → ok 2 134 20 [some (.inr (.inr (some 46))), some (.inl d), some (.inl f), some (.inl x), some (.inl (t + 1)), none, none] [] m Q) ∧ ((¬ (am_s (m 2 4) ≤ am_s p)) → (0 ≤ am_s p ∧ am_s p < (12 : Nat)) ∧ (∀ y1 : Int, y1 = (if ¬ am_s (m 3 ((am_s p).toNat)) = 0 then 0 else (if am_s f < am_s ((m 46 3) + t) then 0 else 1)) → ((am_s y1 = 0) → ok 2 134 29 [some (.inr (.inr (some 46))), some (.inl d), some (.inl f), some (.inl x), some (.inl t), some (.inl (p + 1)), none] [] m Q) ∧ ((¬ (am_s y1 = 0)) → (q_135 m 2 p d) ∧ (((¬ am_s (v_135 m 2 p d) = am_s t) → ok 2 134 29 [some (.inr (.inr (some 46))), some (.inl d), some (.inl f), some (.inl x), some (.inl t), some (.inl (p + 1)), none] [] m Q) ∧ ((am_s (v_135 m 2 p d) = am_s t) → ok 2 134 29 [some (.inr (.inr (some 46))), some (.inl d), some (.inl f), some (.inl (am_or x (am_shl 1 p))), some (.inl t), some (.inl (p + 1)), none] [] (mu m 46 3 ((m 46 3) + t)) Q)))))) : ok 2 134 29 [some (.inr (.inr (some 46))), some (.inl d), some (.inl f), some (.inl x), some (.inl t), some (.inl p), none] [] m Q := by
  refine ok_sg (pc' := 38) (ls' := [some (.inr (.inr (some 46))), some (.inl d), some (.inl f), some (.inl x), some (.inl t), some (.inl p), none]) (st' := [.inl (m 2 4), .inl p]) (m' := m) (fun fx hfx o hk => ?_) ?_
  · refine r_ld (pc' := 31) hM_134 d_134_29 rfl rfl ?_
    refine r_ld (pc' := 32) hM_134 d_134_31 rfl rfl ?_
    refine r_gR (pc' := 35) (v := 2) hM_134 d_134_32 rfl (by decide +kernel) ?_
    refine r_gI (pc' := 38) (k0 := 4) hM_134 d_134_35 rfl (by decide +kernel) ?_
    exact hk
  refine ok_ic (pc' := 116) (pc2 := 41) hM_134 d_134_38 (by decide) rfl (fun hz1 => ?_) (fun hz1 => ?_)
  · have H := H.1 hz1
    refine ok_sg (pc' := 20) (ls' := [some (.inr (.inr (some 46))), some (.inl d), some (.inl f), some (.inl x), some (.inl (t + 1)), none, none]) (st' := []) (m' := m) (fun fx hfx o hk => ?_) ?_
    · refine r_sto (pc' := 119) (ls' := [some (.inr (.inr (some 46))), some (.inl d), some (.inl f), some (.inl x), some (.inl (t + 1)), some (.inl p), none]) hM_134 d_134_116 rfl rfl ?_
      refine r_go (pc' := 20) hM_134 d_134_119 (by decide) ?_
      refine rn_wk (a := [some (.inr (.inr (some 46))), some (.inl d), some (.inl f), some (.inl x), some (.inl (t + 1)), none, none]) (by simp only [am_le, and_self]) ?_
      exact hk
    exact H
  · have H := H.2 hz1
    obtain ⟨hz2, H⟩ := H
    refine ok_sg (pc' := 51) (ls' := [some (.inr (.inr (some 46))), some (.inl d), some (.inl f), some (.inl x), some (.inl t), some (.inl p), none]) (st' := [.inl (m 3 ((am_s p).toNat))]) (m' := m) (fun fx hfx o hk => ?_) ?_
    · refine r_ld (pc' := 42) hM_134 d_134_41 rfl rfl ?_
      refine r_gR (pc' := 45) (v := 2) hM_134 d_134_42 rfl (by decide +kernel) ?_
      refine r_gR (pc' := 48) (v := 3) hM_134 d_134_45 rfl (by decide +kernel) ?_
      refine r_ld (pc' := 50) hM_134 d_134_48 rfl rfl ?_
      refine r_ia (pc' := 51) (n := 12) hM_134 d_134_50 rfl rfl hz2 ?_
      exact hk
    refine ok_sg (pc' := 70) (ls' := [some (.inr (.inr (some 46))), some (.inl d), some (.inl f), some (.inl x), some (.inl t), some (.inl p), none]) (st' := [.inl (if ¬ am_s (m 3 ((am_s p).toNat)) = 0 then 0 else (if am_s f < am_s ((m 46 3) + t) then 0 else 1))]) (m' := m) (fun fx hfx o K => ?_) ?_
    · refine r_if (pc' := 69) (pc2 := 54) hM_134 d_134_51 (by decide) rfl (fun hz3 => ?_) (fun hz3 => ?_)
      · have hz3 : ¬ am_s (m 3 ((am_s p).toNat)) = 0 := hz3
        rw [if_pos hz3] at K
        refine r_k (pc' := 70) (v := .inl 0) hM_134 d_134_69 rfl rfl ?_
        exact K
      · have hz3 : ¬ (¬ am_s (m 3 ((am_s p).toNat)) = 0) := hz3
        rw [if_neg hz3] at K
        refine r_ld (pc' := 55) hM_134 d_134_54 rfl rfl ?_
        refine r_gI (pc' := 58) (k0 := 3) hM_134 d_134_55 rfl (by decide +kernel) ?_
        refine r_ld (pc' := 60) hM_134 d_134_58 rfl rfl ?_
        refine r_b (pc' := 61) (z := ((m 46 3) + t)) hM_134 d_134_60 rfl rfl ?_
        refine r_ld (pc' := 62) hM_134 d_134_61 rfl rfl ?_
        refine r_ic (pc' := 69) (pc2 := 65) hM_134 d_134_62 (by decide) rfl (fun hz4 => ?_) (fun hz4 => ?_)
        · have hz4 : am_s f < am_s ((m 46 3) + t) := hz4
          rw [if_pos hz4] at K
          refine r_k (pc' := 70) (v := .inl 0) hM_134 d_134_69 rfl rfl ?_
          exact K
        · have hz4 : ¬ (am_s f < am_s ((m 46 3) + t)) := hz4
          rw [if_neg hz4] at K
          refine r_k (pc' := 66) (v := .inl 1) hM_134 d_134_65 rfl rfl ?_
          refine r_go (pc' := 70) hM_134 d_134_66 (by decide) ?_
          exact K
    have K : ∀ y1 : Int, y1 = (if ¬ am_s (m 3 ((am_s p).toNat)) = 0 then 0 else (if am_s f < am_s ((m 46 3) + t) then 0 else 1)) → ok 2 134 70 [some (.inr (.inr (some 46))), some (.inl d), some (.inl f), some (.inl x), some (.inl t), some (.inl p), none] [.inl y1] m Q := by
      intro y1 hy1
      replace H := H y1 hy1
      refine ok_sg (pc' := 74) (ls' := [some (.inr (.inr (some 46))), some (.inl d), some (.inl f), some (.inl x), some (.inl t), some (.inl p), some (.inl y1)]) (st' := [.inl y1]) (m' := m) (fun fx hfx o hk => ?_) ?_
      · refine r_sto (pc' := 72) (ls' := [some (.inr (.inr (some 46))), some (.inl d), some (.inl f), some (.inl x), some (.inl t), some (.inl p), some (.inl y1)]) hM_134 d_134_70 rfl rfl ?_
        refine r_ld (pc' := 74) hM_134 d_134_72 rfl rfl ?_
        exact hk
      refine ok_if (pc' := 110) (pc2 := 77) hM_134 d_134_74 (by decide) rfl (fun hz5 => ?_) (fun hz5 => ?_)
      · have H := H.1 hz5
        refine ok_sg (pc' := 29) (ls' := [some (.inr (.inr (some 46))), some (.inl d), some (.inl f), some (.inl x), some (.inl t), some (.inl (p + 1)), none]) (st' := []) (m' := m) (fun fx hfx o hk => ?_) ?_
        · refine r_sto (pc' := 113) (ls' := [some (.inr (.inr (some 46))), some (.inl d), some (.inl f), some (.inl x), some (.inl t), some (.inl (p + 1)), some (.inl y1)]) hM_134 d_134_110 rfl rfl ?_
          refine r_go (pc' := 29) hM_134 d_134_113 (by decide) ?_
          refine rn_wk (a := [some (.inr (.inr (some 46))), some (.inl d), some (.inl f), some (.inl x), some (.inl t), some (.inl (p + 1)), none]) (by simp only [am_le, and_self]) ?_
          exact hk
        exact H
      · have H := H.2 hz5
        obtain ⟨hz6, H⟩ := H
        refine ok_sg (pc' := 89) (ls' := [some (.inr (.inr (some 46))), some (.inl d), some (.inl f), some (.inl x), some (.inl t), some (.inl p), some (.inl y1)]) (st' := [.inl t, .inl (v_135 m 2 p d)]) (m' := m) (fun fx hfx o hk => ?_) ?_
        · refine r_ld (pc' := 78) hM_134 d_134_77 rfl rfl ?_
          refine r_gR (pc' := 81) (v := 2) hM_134 d_134_78 rfl (by decide +kernel) ?_
          refine r_ld (pc' := 83) hM_134 d_134_81 rfl rfl ?_
          refine r_ld (pc' := 84) hM_134 d_134_83 rfl rfl ?_
          refine r_cl (pc' := 87) (c := (135, 0)) (a := [.inr (.inr (some 2)), .inl p, .inl d]) (q := []) hM_134 d_134_84 rfl (by decide +kernel) hM_135 rfl rfl rfl (Nat.le_of_ble_eq_true rfl) (Nat.le_of_ble_eq_true rfl) (Or.inr rfl) (c_135 (by decide) m p d hz6) (Nat.le_of_ble_eq_true rfl) ?_
          show rn fx 2 (0, 0) 134 87 [some (.inr (.inr (some 46))), some (.inl d), some (.inl f), some (.inl x), some (.inl t), some (.inl p), some (.inl y1)] [.inl (v_135 m 2 p d)] (st0 m) o
          refine r_ld (pc' := 89) hM_134 d_134_87 rfl rfl ?_
          exact hk
        refine ok_ic (pc' := 110) (pc2 := 92) hM_134 d_134_89 (by decide) rfl (fun hz7 => ?_) (fun hz7 => ?_)
        · have H := H.1 hz7
          refine ok_sg (pc' := 29) (ls' := [some (.inr (.inr (some 46))), some (.inl d), some (.inl f), some (.inl x), some (.inl t), some (.inl (p + 1)), none]) (st' := []) (m' := m) (fun fx hfx o hk => ?_) ?_
          · refine r_sto (pc' := 113) (ls' := [some (.inr (.inr (some 46))), some (.inl d), some (.inl f), some (.inl x), some (.inl t), some (.inl (p + 1)), some (.inl y1)]) hM_134 d_134_110 rfl rfl ?_
            refine r_go (pc' := 29) hM_134 d_134_113 (by decide) ?_
            refine rn_wk (a := [some (.inr (.inr (some 46))), some (.inl d), some (.inl f), some (.inl x), some (.inl t), some (.inl (p + 1)), none]) (by simp only [am_le, and_self]) ?_
            exact hk
          exact H
        · have H := H.2 (Decidable.not_not.mp hz7)
          refine ok_sg (pc' := 29) (ls' := [some (.inr (.inr (some 46))), some (.inl d), some (.inl f), some (.inl (am_or x (am_shl 1 p))), some (.inl t), some (.inl (p + 1)), none]) (st' := []) (m' := mu m 46 3 ((m 46 3) + t)) (fun fx hfx o hk => ?_) ?_
          · refine r_ld (pc' := 93) hM_134 d_134_92 rfl rfl ?_
            refine r_k (pc' := 94) (v := .inl 1) hM_134 d_134_93 rfl rfl ?_
            refine r_ld (pc' := 96) hM_134 d_134_94 rfl rfl ?_
            refine r_b (pc' := 97) (z := (am_shl 1 p)) hM_134 d_134_96 rfl rfl ?_
            refine r_b (pc' := 98) (z := (am_or x (am_shl 1 p))) hM_134 d_134_97 rfl rfl ?_
            refine r_sto (pc' := 99) (ls' := [some (.inr (.inr (some 46))), some (.inl d), some (.inl f), some (.inl (am_or x (am_shl 1 p))), some (.inl t), some (.inl p), some (.inl y1)]) hM_134 d_134_98 rfl rfl ?_
            refine r_ld (pc' := 100) hM_134 d_134_99 rfl rfl ?_
            refine r_stk (pc' := 101) (st' := [.inr (.inr (some 46)), .inr (.inr (some 46))]) hM_134 d_134_100 rfl rfl ?_
            refine r_gI (pc' := 104) (k0 := 3) hM_134 d_134_101 rfl (by decide +kernel) ?_
            refine r_ld (pc' := 106) hM_134 d_134_104 rfl rfl ?_
            refine r_b (pc' := 107) (z := ((m 46 3) + t)) hM_134 d_134_106 rfl rfl ?_
            refine r_pI (pc' := 110) (k0 := 3) hM_134 d_134_107 rfl (by decide +kernel) ?_
            refine r_sto (pc' := 113) (ls' := [some (.inr (.inr (some 46))), some (.inl d), some (.inl f), some (.inl (am_or x (am_shl 1 p))), some (.inl t), some (.inl (p + 1)), some (.inl y1)]) hM_134 d_134_110 rfl rfl ?_
            refine r_go (pc' := 29) hM_134 d_134_113 (by decide) ?_
            refine rn_wk (a := [some (.inr (.inr (some 46))), some (.inl d), some (.inl f), some (.inl (am_or x (am_shl 1 p))), some (.inl t), some (.inl (p + 1)), none]) (by simp only [am_le, and_self]) ?_
            exact hk
          exact H
    exact K _ rfl
theorem u_134_20 {Q : List am_V → am_M → Prop} {m : am_M} {d : Int} {f : Int} {x : Int} {t : Int}  (H : ((am_s d < am_s t) → Q [.inl x] m) ∧ ((¬ (am_s d < am_s t)) → ok 2 134 29 [some (.inr (.inr (some 46))), some (.inl d), some (.inl f), some (.inl x), some (.inl t), some (.inl 0), none] [] m Q)) : ok 2 134 20 [some (.inr (.inr (some 46))), some (.inl d), some (.inl f), some (.inl x), some (.inl t), none, none] [] m Q := by
  refine ok_sg (pc' := 23) (ls' := [some (.inr (.inr (some 46))), some (.inl d), some (.inl f), some (.inl x), some (.inl t), none, none]) (st' := [.inl d, .inl t]) (m' := m) (fun fx hfx o hk => ?_) ?_
  · refine r_ld (pc' := 22) hM_134 d_134_20 rfl rfl ?_
    refine r_ld (pc' := 23) hM_134 d_134_22 rfl rfl ?_
    exact hk
  refine ok_ic (pc' := 122) (pc2 := 26) hM_134 d_134_23 (by decide) rfl (fun hz1 => ?_) (fun hz1 => ?_)
  · have H := H.1 hz1
    refine ok_sg (pc' := 123) (ls' := [some (.inr (.inr (some 46))), some (.inl d), some (.inl f), some (.inl x), some (.inl t), none, none]) (st' := [.inl x]) (m' := m) (fun fx hfx o hk => ?_) ?_
    · refine r_ld (pc' := 123) hM_134 d_134_122 rfl rfl ?_
      exact hk
    exact ok_rt (fun fx _ => rt_i hM_134 d_134_123 rfl) H
  · have H := H.2 hz1
    refine ok_sg (pc' := 29) (ls' := [some (.inr (.inr (some 46))), some (.inl d), some (.inl f), some (.inl x), some (.inl t), some (.inl 0), none]) (st' := []) (m' := m) (fun fx hfx o hk => ?_) ?_
    · refine r_k (pc' := 27) (v := .inl 0) hM_134 d_134_26 rfl rfl ?_
      refine r_sto (pc' := 29) (ls' := [some (.inr (.inr (some 46))), some (.inl d), some (.inl f), some (.inl x), some (.inl t), some (.inl 0), none]) hM_134 d_134_27 rfl rfl ?_
      exact hk
    exact H
theorem u_134_0 {Q : List am_V → am_M → Prop} {m : am_M} {d : Int}  (H : ok 2 134 20 [some (.inr (.inr (some 46))), some (.inl d), some (.inl (d * (m 2 7))), some (.inl 0), some (.inl 0), none, none] [] (mu m 46 3 0) Q) : ok 2 134 0 [some (.inr (.inr (some 46))), some (.inl d), none, none, none, none, none] [] m Q := by
  refine ok_sg (pc' := 20) (ls' := [some (.inr (.inr (some 46))), some (.inl d), some (.inl (d * (m 2 7))), some (.inl 0), some (.inl 0), none, none]) (st' := []) (m' := mu m 46 3 0) (fun fx hfx o hk => ?_) ?_
  · refine r_ld (pc' := 1) hM_134 d_134_0 rfl rfl ?_
    refine r_ld (pc' := 2) hM_134 d_134_1 rfl rfl ?_
    refine r_gR (pc' := 5) (v := 2) hM_134 d_134_2 rfl (by decide +kernel) ?_
    refine r_gI (pc' := 8) (k0 := 7) hM_134 d_134_5 rfl (by decide +kernel) ?_
    refine r_b (pc' := 9) (z := (d * (m 2 7))) hM_134 d_134_8 rfl rfl ?_
    refine r_sto (pc' := 10) (ls' := [some (.inr (.inr (some 46))), some (.inl d), some (.inl (d * (m 2 7))), none, none, none, none]) hM_134 d_134_9 rfl rfl ?_
    refine r_k (pc' := 11) (v := .inl 0) hM_134 d_134_10 rfl rfl ?_
    refine r_sto (pc' := 12) (ls' := [some (.inr (.inr (some 46))), some (.inl d), some (.inl (d * (m 2 7))), some (.inl 0), none, none, none]) hM_134 d_134_11 rfl rfl ?_
    refine r_ld (pc' := 13) hM_134 d_134_12 rfl rfl ?_
    refine r_k (pc' := 14) (v := .inl 0) hM_134 d_134_13 rfl rfl ?_
    refine r_pI (pc' := 17) (k0 := 3) hM_134 d_134_14 rfl (by decide +kernel) ?_
    refine r_k (pc' := 18) (v := .inl 0) hM_134 d_134_17 rfl rfl ?_
    refine r_sto (pc' := 20) (ls' := [some (.inr (.inr (some 46))), some (.inl d), some (.inl (d * (m 2 7))), some (.inl 0), some (.inl 0), none, none]) hM_134 d_134_18 rfl rfl ?_
    exact hk
  exact H
theorem v135 {m : am_M} {p : Nat} {d : Int} (hw : WFG (vw m 2)) (hs : SLT (nv (vw m 2))) (hp : (p : Int) < m 2 4) (hk : nv (vw m 2) (8 + p) = 0) (hd : 1 ≤ d ∧ d ≤ 60) : q_135 m 2 (p : Int) d ∧ v_135 m 2 (p : Int) d = cR (nv (vw m 2)) d p := by
  have hN := vwN hw
  have hwn := WFG_nv hw
  have hp12 : p < 12 := by omega
  have eS := nvS (m := m) (s := 2) hp12 hp
  have eR := nvR (m := m) (s := 2) hp12 hp
  have hsl := hs p hp12 (by rw [nv0, vw_0]; exact hp) (by rw [hk]; decide)
  have hs9 := hwn.2.2.1 p hp12
  have hr9 := hwn.2.2.2.1 p hp12
  have ep : am_s (p : Int) = (p : Int) := am_s_id (by omega) (by omega)
  have es : am_s (m (2 + 2) p) = m (2 + 2) p := by rw [← eS]; exact am_s_id (by omega) (by omega)
  have hds : 0 ≤ d * m (2 + 2) p ∧ d * m (2 + 2) p ≤ 540 := by
    rw [← eS]
    generalize nv (vw m 2) (20 + p) = z at *
    have hc : z = 1 ∨ z = 2 ∨ z = 3 ∨ z = 4 ∨ z = 5 ∨ z = 6 ∨ z = 7 ∨ z = 8 ∨ z = 9 := by omega
    rcases hc with rfl | rfl | rfl | rfl | rfl | rfl | rfl | rfl | rfl <;> omega
  have el : am_s (100 - m (2 + 3) p - d * m (2 + 2) p) = 100 - m (2 + 3) p - d * m (2 + 2) p := by
    rw [eR] at hr9
    exact am_s_id (by omega) (by omega)
  constructor
  · unfold q_135
    rw [ep, Int.toNat_natCast, es]
    refine fun _ => ⟨by omega, fun _ _ => ?_⟩
    rw [← eS]
    omega
  · have v40 : ¬ am_s (v_40 m 2 (p : Int)) = 0 := by
      rw [v_40_ok (by decide) m _ hw, as_ite, ep]
      exact not_not_intro ⟨by omega, hp⟩
    unfold v_135
    rw [ep, Int.toNat_natCast, es, el, if_neg v40, show am_s 1 = 1 from rfl, if_pos (by rw [← eS]; exact hsl), ← eS, ← eR]
    exact cR_lack hr9 ⟨hsl, hs9.2⟩ hd
theorem z_134   (m : am_M) (d : Int) (hq : WFG (vw m 2) ∧ SLT (nv (vw m 2)) ∧ 1 ≤ d ∧ d ≤ 60) : ok 2 134 0 (am_ent 7 [.inr (.inr (some 46)), .inl d]) [] m (fun rr m' => ∃ v' : Int, rr = [.inl (v')] ∧ (∃ G : Nat, v' = (G : Int) ∧ G < 4096 ∧ RB (cR (nv (vw m 2)) d) (Kc (nv (vw m 2)) d (nv (vw m 2) 0).toNat) (d * nv (vw m 2) 4) G ∧ m' 46 3 = SU (cR (nv (vw m 2)) d) G 12) ∧ kpC m m') := by
  show ok 2 134 0 [some (.inr (.inr (some 46))), some (.inl d), none, none, none, none, none] [] m _
  obtain ⟨hw, hsl, hd⟩ := hq
  have hN := vwN hw
  have hwn := WFG_nv hw
  have eg0 : nv (vw m 2) 0 = m 2 4 := by rw [nv0, vw_0]
  have e7 : nv (vw m 2) 4 = m 2 7 := by rw [nv_lo (by decide), vw_4]
  have h7 : 1 ≤ m 2 7 ∧ m 2 7 ≤ 12 := by rw [← e7]; exact hwn.2.2.2.2.2.2.2.1
  have hW0 : 0 ≤ d * m 2 7 ∧ d * m 2 7 ≤ 720 := by
    have hc : m 2 7 = 1 ∨ m 2 7 = 2 ∨ m 2 7 = 3 ∨ m 2 7 = 4 ∨ m 2 7 = 5 ∨ m 2 7 = 6 ∨ m 2 7 = 7 ∨ m 2 7 = 8 ∨ m 2 7 = 9 ∨ m 2 7 = 10 ∨ m 2 7 = 11 ∨ m 2 7 = 12 := by omega
    rcases hc with h | h | h | h | h | h | h | h | h | h | h | h <;> rw [h] <;> omega
  obtain ⟨N, hNv⟩ : ∃ N : Nat, m 2 4 = (N : Int) := ⟨(m 2 4).toNat, by omega⟩
  rw [e7, eg0, hNv, Int.toNat_natCast]
  have hKl := Kc_lt (g := nv (vw m 2)) (d := d) (n := N) (by omega)
  have hKb := fun p => Kc_bit (g := nv (vw m 2)) (d := d) (n := N) (p := p)
  have hcr : ∀ p, (Kc (nv (vw m 2)) d N).testBit p = true → 0 ≤ cR (nv (vw m 2)) d p ∧ cR (nv (vw m 2)) d p ≤ 108 := by
    intro p hp
    obtain ⟨k1, k2, k3⟩ := (hKb p).mp hp
    exact cR_rng (hwn.2.2.2.1 p (by omega)) ⟨hsl p (by omega) (by rw [eg0]; omega) (by rw [k2]; decide), (hwn.2.2.1 p (by omega)).2⟩ hd
  have h135 : ∀ (M : am_M), (∀ a, a ≠ 46 → M a = m a) → ∀ p : Nat, p < N → nv (vw m 2) (8 + p) = 0 → q_135 M 2 (p : Int) d ∧ v_135 M 2 (p : Int) d = cR (nv (vw m 2)) d p := by
    intro M hM p hp hk
    have fv : vw M 2 = vw m 2 := vw_same fun a k q1 q2 => by rw [hM a (by omega)]
    have := v135 (m := M) (p := p) (d := d) (by rw [fv]; exact hw) (by rw [fv]; exact hsl) (by rw [hM 2 (by decide), hNv]; omega) (by rw [fv]; exact hk) hd
    rw [fv] at this
    exact this
  have eK3 : ∀ (M : am_M) (hM : ∀ a, a ≠ 46 → M a = m a) (p : Nat), p < N → M 3 p = nv (vw m 2) (8 + p) := fun M hM p hp => by
    rw [hM 3 (by decide)]
    exact (nvK (s := 2) (by omega) (by omega)).symm
  generalize hWv : d * m 2 7 = W at *
  have eW : am_s W = W := am_s_id (by omega) (by omega)
  generalize hKv : Kc (nv (vw m 2)) d N = K at *
  generalize hcv : cR (nv (vw m 2)) d = c at *
  have hSr : ∀ S, sb K S → 0 ≤ SU c S 12 ∧ SU c S 12 ≤ 12000 := fun S hS => by
    have := SU_rng (c := c) (S := S) 12 fun p hp hb => by
      have := hcr p (nat_sub.mp hS p hb)
      omega
    omega
  have hLs : ∀ t k, sb K (Lm c K t k) := fun t k => by
    unfold sb
    rw [nat_sub]
    exact fun i hi => ((Lm_bit hKl).mp hi).1
  refine u_134_0 ?_
  rw [hWv]
  have key := ok_for (d := 2) (mi := 134) (pc := 20) (Q := fun rr m' => ∃ v' : Int, rr = [.inl v'] ∧ ((∃ G : Nat, v' = (G : Int) ∧ G < 4096 ∧ RB c K W G ∧ m' 46 3 = SU c G 12) ∧ kpC m m')) (σ := Nat) (fun t G => [some (.inr (.inr (some 46))), some (.inl d), some (.inl W), some (.inl (G : Int)), some (.inl (t : Int)), none, none]) (fun t G M => (G < 4096 ∧ sb K G) ∧ SU c G 12 ≤ W ∧ M 46 3 = SU c G 12 ∧ (G = Lm c K (t : Int) 0 ∨ ∃ (t0 : Int) (k0 : Nat), G = Lm c K t0 k0 ∧ W < SU c G 12 + t0 ∧ 0 ≤ t0 ∧ t0 ≤ (t : Int)) ∧ (∀ a, a ≠ 46 → M a = m a)) (d.toNat + 1) ?_ ?_ 0 (mu m 46 3 0) ?_
  · exact key
  · rintro t ht G M ⟨⟨h1, h1'⟩, h2, h3, h4, h5⟩ IH
    refine u_134_20 ?_
    rw [am_s_id (z := d) (by omega) (by omega), am_s_id (z := (t : Int)) (by omega) (by omega)]
    refine ⟨fun q => by omega, fun _ => ?_⟩
    have key2 := ok_for (d := 2) (mi := 134) (pc := 29) (Q := fun rr m' => ∃ v' : Int, rr = [.inl v'] ∧ ((∃ G : Nat, v' = (G : Int) ∧ G < 4096 ∧ RB c K W G ∧ m' 46 3 = SU c G 12) ∧ kpC m m')) (σ := Nat) (fun p G => [some (.inr (.inr (some 46))), some (.inl d), some (.inl W), some (.inl (G : Int)), some (.inl (t : Int)), some (.inl (p : Int)), none]) (fun p G M => (G < 4096 ∧ sb K G) ∧ SU c G 12 ≤ W ∧ M 46 3 = SU c G 12 ∧ (G = Lm c K (t : Int) p ∨ ∃ (t0 : Int) (k0 : Nat), G = Lm c K t0 k0 ∧ W < SU c G 12 + t0 ∧ 0 ≤ t0 ∧ t0 ≤ (t : Int)) ∧ (∀ a, a ≠ 46 → M a = m a)) N ?_ ?_ G M ⟨⟨h1, h1'⟩, h2, h3, h4, h5⟩
    · exact key2
    · rintro p hp G1 M1 ⟨⟨k1, k1'⟩, k2, k3, k4, k5⟩ IH2
      have hsr := hSr G1 k1'
      have hk3 := hwn.2.1 p (by omega)
      have e3 := eK3 M1 k5 p hp
      refine u_134_29 ?_
      rw [k5 2 (by decide), hNv, am_s_id (z := (N : Int)) (by omega) (by omega), am_s_id (z := (p : Int)) (by omega) (by omega), Int.toNat_natCast, e3, am_s_id (z := nv (vw m 2) (8 + p)) (by omega) (by omega), eW, k3, am_s_id (z := SU c G1 12 + (t : Int)) (by omega) (by omega), am_s_id (z := (t : Int)) (by omega) (by omega)]
      refine ⟨fun q => by omega, fun _ => ⟨by omega, fun y hy => ?_⟩⟩
      have skip : (G1 = Lm c K (t : Int) p → G1 = Lm c K (t : Int) (p + 1) ∨ ∃ (t0 : Int) (k0 : Nat), G1 = Lm c K t0 k0 ∧ W < SU c G1 12 + t0 ∧ 0 ≤ t0 ∧ t0 ≤ (t : Int)) → ok 2 134 29 [some (.inr (.inr (some 46))), some (.inl d), some (.inl W), some (.inl (G1 : Int)), some (.inl (t : Int)), some (.inl ((p : Int) + 1)), none] [] M1 (fun rr m' => ∃ v' : Int, rr = [.inl v'] ∧ ((∃ G : Nat, v' = (G : Int) ∧ G < 4096 ∧ RB c K W G ∧ m' 46 3 = SU c G 12) ∧ kpC m m')) := by
        intro h
        refine IH2 G1 M1 ⟨⟨k1, k1'⟩, k2, k3, ?_, k5⟩
        rcases k4 with k4 | k4
        · exact h k4
        · exact Or.inr k4
      -- nothing changes, if this place isn't wanted here
      have same : ¬ (K.testBit p = true ∧ c p = (t : Int)) → Lm c K (t : Int) p = Lm c K (t : Int) (p + 1) := fun hn => Lm_ext hKl fun q hq => by
        by_cases hqp : q = p
        · subst hqp
          have : ¬ c q = (t : Int) := fun z => hn ⟨hq, z⟩
          omega
        · omega
      by_cases hs0 : nv (vw m 2) (8 + p) = 0
      · obtain ⟨z1, z2⟩ := h135 M1 k5 p hp hs0
        rw [z2]
        have hcp : 0 ≤ c p ∧ c p ≤ 108 := by
          rw [← hcv]
          exact cR_rng (hwn.2.2.2.1 p (by omega)) ⟨hsl p (by omega) (by rw [eg0]; omega) (by rw [hs0]; decide), (hwn.2.2.1 p (by omega)).2⟩ hd
        have hKp : c p = (t : Int) → K.testBit p = true := fun h => (hKb p).mpr ⟨hp, hs0, by omega⟩
        rw [if_neg (not_not_intro hs0)] at hy
        rw [am_s_id (z := c p) (by omega) (by omega)]
        by_cases hfit : W < SU c G1 12 + (t : Int)
        · rw [if_pos hfit] at hy
          rw [hy]
          refine ⟨fun _ => skip fun h => ?_, fun q => absurd rfl q⟩
          exact Or.inr ⟨(t : Int), p, h, hfit, by omega, Int.le_refl _⟩
        · rw [if_neg hfit] at hy
          rw [hy]
          refine ⟨fun q => absurd q (by decide), fun _ => ⟨z1, fun q => skip fun h => ?_, fun q => ?_⟩⟩
          · exact Or.inl (h.trans (same fun z => q z.2))
          · have hA : G1 = Lm c K (t : Int) p := by
              rcases k4 with k4 | ⟨t0, k0, y1, y2, y3, y4⟩
              · exact k4
              · omega
            have hnb : G1.testBit p = false := by
              cases hh : G1.testBit p
              · rfl
              · rw [hA] at hh
                have := ((Lm_bit hKl).mp hh).2
                omega
            have hst : G1 ||| 2 ^ p = Lm c K (t : Int) (p + 1) := by
              apply Nat.eq_of_testBit_eq
              intro i
              apply Bool.eq_iff_iff.mpr
              rw [Lm_bit hKl, Nat.testBit_or, Bool.or_eq_true, Nat.testBit_two_pow, decide_eq_true_eq, hA, Lm_bit hKl]
              constructor
              · rintro (h | h)
                · exact ⟨h.1, by omega⟩
                · subst h
                  exact ⟨hKp q, Or.inr ⟨q, by omega⟩⟩
              · rintro ⟨h1, h2⟩
                by_cases hip : i = p
                · exact Or.inr hip.symm
                · exact Or.inl ⟨h1, by omega⟩
            have hor : am_or (G1 : Int) (am_shl 1 (p : Int)) = ((G1 ||| 2 ^ p : Nat) : Int) := by
              have : 2 ^ p ≤ 2 ^ 11 := Nat.pow_le_pow_right (by decide) (by omega)
              rw [bx_shl1 p (by omega)]
              exact bx_or12 k1 (by omega)
            have hsu : SU c (G1 ||| 2 ^ p) 12 = SU c G1 12 + (t : Int) := by rw [SU_or hnb, if_pos (by omega), q]
            rw [hor]
            refine IH2 (G1 ||| 2 ^ p) _ ⟨⟨by rw [hst]; exact Lm_lt, by rw [hst]; exact hLs _ _⟩, by rw [hsu]; omega, by rw [mu_same, hsu], Or.inl hst, fun a ha => by rw [mu_rf ha]; exact k5 a ha⟩
      · rw [if_pos hs0] at hy
        rw [hy]
        refine ⟨fun _ => skip fun h => Or.inl (h.trans (same fun z => ?_)), fun q => absurd rfl q⟩
        exact hs0 ((hKb p).mp z.1).2.1
    · rintro G1 M1 ⟨⟨k1, k1'⟩, k2, k3, k4, k5⟩
      refine u_134_29 ?_
      rw [k5 2 (by decide), hNv, am_s_id (z := (N : Int)) (by omega) (by omega)]
      refine ⟨fun _ => IH G1 M1 ⟨⟨k1, k1'⟩, k2, k3, ?_, k5⟩, fun q => by omega⟩
      rcases k4 with k4 | ⟨t0, k0, y1, y2, y3, y4⟩
      · left
        rw [k4]
        refine Lm_ext hKl fun q hq => ?_
        have := ((hKb q).mp hq).1
        show _ ↔ (c q < ((t + 1 : Nat) : Int) ∨ _)
        omega
      · exact Or.inr ⟨t0, k0, y1, y2, y3, by omega⟩
  · rintro G M ⟨⟨h1, h1'⟩, h2, h3, h4, h5⟩
    refine u_134_20 ?_
    rw [am_s_id (z := d) (by omega) (by omega), am_s_id (z := ((d.toNat + 1 : Nat) : Int)) (by omega) (by omega)]
    refine ⟨fun _ => ⟨_, rfl, ⟨G, rfl, h1, ?_, h3⟩, fun a k hc => by unfold core at hc; rw [h5 a (by omega)]⟩, fun q => by omega⟩
    rcases h4 with h4 | ⟨t0, k0, y1, y2, y3, y4⟩
    · have : G = K := by
        rw [h4]
        apply Nat.eq_of_testBit_eq
        intro i
        apply Bool.eq_iff_iff.mpr
        rw [Lm_bit hKl]
        refine ⟨fun q => q.1, fun q => ⟨q, ?_⟩⟩
        have := ((hKb i).mp q).2.2
        omega
      rw [this] at h2 ⊢
      exact RB_all hKl h2
    · refine RB_greedy (k := k0) (t := t0) hKl (fun p => ?_) h2 y2 y3
      rw [y1]
      exact Lm_bit hKl
  · have h0 : Lm c K ((0 : Nat) : Int) 0 = 0 := by
      apply Nat.eq_of_testBit_eq
      intro i
      rw [Nat.zero_testBit]
      cases hh : (Lm c K ((0 : Nat) : Int) 0).testBit i
      · rfl
      · obtain ⟨x1, x2⟩ := (Lm_bit hKl).mp hh
        have := hcr i x1
        omega
    have hz : ∀ n, SU c 0 n = 0 := by
      intro n
      induction n with
      | zero => rfl
      | succ n ih => rw [SU_s, ih, Nat.zero_testBit, if_neg (by decide)]; rfl
    exact ⟨⟨by decide, Nat.zero_and _⟩, by rw [hz]; omega, by rw [mu_same, hz], Or.inl h0.symm, fun a ha => mu_rf ha⟩
theorem u_133_0 {Q : List am_V → am_M → Prop} {m : am_M} {d : Int} {w : Int}  (H : ((am_s w < 0) → Q [.inl (-2)] m) ∧ ((¬ (am_s w < 0)) → ((am_s w ≤ 2) → ((am_s d < 1) → Q [.inl (-3)] m) ∧ ((¬ (am_s d < 1)) → ((am_s d ≤ 60) → (WFG (vw m 2) ∧ SLT (nv (vw m 2)) ∧ 1 ≤ d ∧ d ≤ 60) ∧ (∀ (v1 : Int) (m1 : am_M), ((∃ G : Nat, v1 = (G : Int) ∧ G < 4096 ∧ RB (cR (nv (vw m 2)) d) (Kc (nv (vw m 2)) d (nv (vw m 2) 0).toNat) (d * nv (vw m 2) 4) G ∧ m1 46 3 = SU (cR (nv (vw m 2)) d) G 12) ∧ kpC m m1) → ((am_s w = 0) → (0 ≤ v1 ∧ v1 < 4096) ∧ (Q [.inl (((cnt v1.toNat 12 : Nat) : Int))] m1)) ∧ (((am_s w = 1) → Q [.inl (m1 46 3)] m1) ∧ (((¬ am_s w = 0 ∧ ¬ am_s w = 1) → Q [.inl v1] m1))))) ∧ ((¬ (am_s d ≤ 60)) → Q [.inl (-3)] m))) ∧ ((¬ (am_s w ≤ 2)) → Q [.inl (-2)] m))) : ok 3 133 0 [some (.inr (.inr (some 0))), some (.inl d), some (.inl w), none] [] m Q := by
  refine ok_sg (pc' := 1) (ls' := [some (.inr (.inr (some 0))), some (.inl d), some (.inl w), none]) (st' := [.inl w]) (m' := m) (fun fx hfx o hk => ?_) ?_
  · refine r_ld (pc' := 1) hM_133 d_133_0 rfl rfl ?_
    exact hk
  refine ok_if (pc' := 9) (pc2 := 4) hM_133 d_133_1 (by decide) rfl (fun hz1 => ?_) (fun hz1 => ?_)
  · have H := H.1 hz1
    refine ok_sg (pc' := 11) (ls' := [some (.inr (.inr (some 0))), some (.inl d), some (.inl w), none]) (st' := [.inl (-2)]) (m' := m) (fun fx hfx o hk => ?_) ?_
    · refine r_k (pc' := 11) (v := .inl (-2)) hM_133 d_133_9 rfl rfl ?_
      exact hk
    exact ok_rt (fun fx _ => rt_i hM_133 d_133_11 rfl) H
  · have H := H.2 hz1
    refine ok_sg (pc' := 6) (ls' := [some (.inr (.inr (some 0))), some (.inl d), some (.inl w), none]) (st' := [.inl 2, .inl w]) (m' := m) (fun fx hfx o hk => ?_) ?_
    · refine r_ld (pc' := 5) hM_133 d_133_4 rfl rfl ?_
      refine r_k (pc' := 6) (v := .inl 2) hM_133 d_133_5 rfl rfl ?_
      exact hk
    refine ok_ic (pc' := 12) (pc2 := 9) hM_133 d_133_6 (by decide) rfl (fun hz2 => ?_) (fun hz2 => ?_)
    · have H := H.1 hz2
      refine ok_sg (pc' := 14) (ls' := [some (.inr (.inr (some 0))), some (.inl d), some (.inl w), none]) (st' := [.inl 1, .inl d]) (m' := m) (fun fx hfx o hk => ?_) ?_
      · refine r_ld (pc' := 13) hM_133 d_133_12 rfl rfl ?_
        refine r_k (pc' := 14) (v := .inl 1) hM_133 d_133_13 rfl rfl ?_
        exact hk
      refine ok_ic (pc' := 23) (pc2 := 17) hM_133 d_133_14 (by decide) rfl (fun hz3 => ?_) (fun hz3 => ?_)
      · have H := H.1 hz3
        refine ok_sg (pc' := 25) (ls' := [some (.inr (.inr (some 0))), some (.inl d), some (.inl w), none]) (st' := [.inl (-3)]) (m' := m) (fun fx hfx o hk => ?_) ?_
        · refine r_k (pc' := 25) (v := .inl (-3)) hM_133 d_133_23 rfl rfl ?_
          exact hk
        exact ok_rt (fun fx _ => rt_i hM_133 d_133_25 rfl) H
      · have H := H.2 hz3
        refine ok_sg (pc' := 20) (ls' := [some (.inr (.inr (some 0))), some (.inl d), some (.inl w), none]) (st' := [.inl 60, .inl d]) (m' := m) (fun fx hfx o hk => ?_) ?_
        · refine r_ld (pc' := 18) hM_133 d_133_17 rfl rfl ?_
          refine r_k (pc' := 20) (v := .inl 60) hM_133 d_133_18 rfl rfl ?_
          exact hk
        refine ok_ic (pc' := 26) (pc2 := 23) hM_133 d_133_20 (by decide) rfl (fun hz4 => ?_) (fun hz4 => ?_)
        · have H := H.1 hz4
          obtain ⟨hz5, H⟩ := H
          refine ok_sg (pc' := 31) (ls' := [some (.inr (.inr (some 0))), some (.inl d), some (.inl w), none]) (st' := [.inl d, .inr (.inr (some 46))]) (m' := m) (fun fx hfx o hk => ?_) ?_
          · refine r_ld (pc' := 27) hM_133 d_133_26 rfl rfl ?_
            refine r_gR (pc' := 30) (v := 46) hM_133 d_133_27 rfl (by decide +kernel) ?_
            refine r_ld (pc' := 31) hM_133 d_133_30 rfl rfl ?_
            exact hk
          refine ok_cl (pc' := 34) (c := (134, 0)) (a := [.inr (.inr (some 46)), .inl d]) (q := []) hM_133 d_133_31 rfl (by decide +kernel) hM_134 rfl rfl rfl (Nat.le_of_ble_eq_true rfl) (Nat.le_of_ble_eq_true rfl) (Or.inr rfl) (z_134  m d hz5) (Nat.le_of_ble_eq_true rfl) ?_
          rintro _ m1 ⟨v1, rfl, hz6⟩
          replace H := H v1 m1 hz6
          show ok 3 133 34 [some (.inr (.inr (some 0))), some (.inl d), some (.inl w), none] [.inl v1] m1 Q
          refine ok_sg (pc' := 36) (ls' := [some (.inr (.inr (some 0))), some (.inl d), some (.inl w), some (.inl v1)]) (st' := [.inl w]) (m' := m1) (fun fx hfx o hk => ?_) ?_
          · refine r_sto (pc' := 35) (ls' := [some (.inr (.inr (some 0))), some (.inl d), some (.inl w), some (.inl v1)]) hM_133 d_133_34 rfl rfl ?_
            refine r_ld (pc' := 36) hM_133 d_133_35 rfl rfl ?_
            exact hk
          by_cases hc : am_s w = 0
          · have H := H.1 hc
            refine ok_sg (pc' := 64) (ls' := [some (.inr (.inr (some 0))), some (.inl d), some (.inl w), some (.inl v1)]) (st' := []) (m' := m1) (fun fx hfx o hk => ?_) ?_
            · refine r_br (pc' := 64) (st' := []) hM_133 d_133_36 (by unfold am_br; simp only [hc]; rfl) ?_
              exact hk
            obtain ⟨hz7, H⟩ := H
            refine ok_sg (pc' := 68) (ls' := [some (.inr (.inr (some 0))), some (.inl d), some (.inl w), some (.inl v1)]) (st' := [.inl (((cnt v1.toNat 12 : Nat) : Int))]) (m' := m1) (fun fx hfx o hk => ?_) ?_
            · refine r_ld (pc' := 65) hM_133 d_133_64 rfl rfl ?_
              refine r_cl (pc' := 68) (c := (72, 2)) (a := [.inl v1]) (q := []) hM_133 d_133_65 rfl (by decide +kernel) hM_72 rfl rfl rfl (Nat.le_of_ble_eq_true rfl) (Nat.le_of_ble_eq_true rfl) (Or.inl rfl) (n_72  m1 v1 hz7) (Nat.le_of_ble_eq_true rfl) ?_
              show rn fx 3 (0, 0) 133 68 [some (.inr (.inr (some 0))), some (.inl d), some (.inl w), some (.inl v1)] [.inl (((cnt v1.toNat 12 : Nat) : Int))] (st0 m1) o
              exact hk
            exact ok_rt (fun fx _ => rt_i hM_133 d_133_68 rfl) H
          replace H := H.2
          have hc0 := hc
          clear hc
          by_cases hc : am_s w = 1
          · have H := H.1 hc
            refine ok_sg (pc' := 69) (ls' := [some (.inr (.inr (some 0))), some (.inl d), some (.inl w), some (.inl v1)]) (st' := []) (m' := m1) (fun fx hfx o hk => ?_) ?_
            · refine r_br (pc' := 69) (st' := []) hM_133 d_133_36 (by unfold am_br; simp only [hc]; rfl) ?_
              exact hk
            refine ok_sg (pc' := 76) (ls' := [some (.inr (.inr (some 0))), some (.inl d), some (.inl w), some (.inl v1)]) (st' := [.inl (m1 46 3)]) (m' := m1) (fun fx hfx o hk => ?_) ?_
            · refine r_ld (pc' := 70) hM_133 d_133_69 rfl rfl ?_
              refine r_gR (pc' := 73) (v := 46) hM_133 d_133_70 rfl (by decide +kernel) ?_
              refine r_gI (pc' := 76) (k0 := 3) hM_133 d_133_73 rfl (by decide +kernel) ?_
              exact hk
            exact ok_rt (fun fx _ => rt_i hM_133 d_133_76 rfl) H
          replace H := H.2
          have hc1 := hc
          clear hc
          replace H := H ⟨hc0, hc1⟩
          refine ok_sg (pc' := 77) (ls' := [some (.inr (.inr (some 0))), some (.inl d), some (.inl w), some (.inl v1)]) (st' := []) (m' := m1) (fun fx hfx o hk => ?_) ?_
          · refine r_br (pc' := 77) (st' := []) hM_133 d_133_36 (by simp [am_br, Op.lookupswitch.offset, am_jmp, hc0, hc1, Ne.symm hc0, Ne.symm hc1]) ?_
            exact hk
          refine ok_sg (pc' := 78) (ls' := [some (.inr (.inr (some 0))), some (.inl d), some (.inl w), some (.inl v1)]) (st' := [.inl v1]) (m' := m1) (fun fx hfx o hk => ?_) ?_
          · refine r_ld (pc' := 78) hM_133 d_133_77 rfl rfl ?_
            exact hk
          exact ok_rt (fun fx _ => rt_i hM_133 d_133_78 rfl) H
        · have H := H.2 hz4
          refine ok_sg (pc' := 25) (ls' := [some (.inr (.inr (some 0))), some (.inl d), some (.inl w), none]) (st' := [.inl (-3)]) (m' := m) (fun fx hfx o hk => ?_) ?_
          · refine r_k (pc' := 25) (v := .inl (-3)) hM_133 d_133_23 rfl rfl ?_
            exact hk
          exact ok_rt (fun fx _ => rt_i hM_133 d_133_25 rfl) H
    · have H := H.2 hz2
      refine ok_sg (pc' := 11) (ls' := [some (.inr (.inr (some 0))), some (.inl d), some (.inl w), none]) (st' := [.inl (-2)]) (m' := m) (fun fx hfx o hk => ?_) ?_
      · refine r_k (pc' := 11) (v := .inl (-2)) hM_133 d_133_9 rfl rfl ?_
        exact hk
      exact ok_rt (fun fx _ => rt_i hM_133 d_133_11 rfl) H
theorem u_244_4 {Q : List am_V → am_M → Prop} {m : am_M} {s : Int} {x : Int} {p : Int}  (H : ((am_s (m 54 0) ≤ am_s p) → Q [.inl x] m) ∧ ((¬ (am_s (m 54 0) ≤ am_s p)) → ((0 ≤ (am_s s) ∧ (am_s s) < 2147483648) ∧ 0 ≤ p ∧ p < 32) ∧ (((¬ (am_s ((if (am_s s).toNat.testBit p.toNat = true then 1 else 0)) = 0)) → (0 ≤ am_s p ∧ am_s p < (12 : Nat))) ∧ (∀ y1 : Int, y1 = (if am_s ((if (am_s s).toNat.testBit p.toNat = true then 1 else 0)) = 0 then 0 else (m 69 ((am_s p).toNat))) → ok 1 244 4 [some (.inr (.inr (some 53))), some (.inl s), some (.inl (x + y1)), some (.inl (p + 1))] [] m Q)))) : ok 1 244 4 [some (.inr (.inr (some 53))), some (.inl s), some (.inl x), some (.inl p)] [] m Q := by
  refine ok_sg (pc' := 11) (ls' := [some (.inr (.inr (some 53))), some (.inl s), some (.inl x), some (.inl p)]) (st' := [.inl (m 54 0), .inl p]) (m' := m) (fun fx hfx o hk => ?_) ?_
  · refine r_ld (pc' := 5) hM_244 d_244_4 rfl rfl ?_
    refine r_ld (pc' := 6) hM_244 d_244_5 rfl rfl ?_
    refine r_gR (pc' := 9) (v := 54) hM_244 d_244_6 rfl (by decide +kernel) ?_
    refine r_k (pc' := 10) (v := .inl 0) hM_244 d_244_9 rfl rfl ?_
    refine r_iae (pc' := 11) (n := 168) (z := (m 54 0)) hM_244 d_244_10 rfl rfl (by decide) (by rw [show (am_s 0).toNat = 0 by decide]) ?_
    exact hk
  refine ok_ic (pc' := 42) (pc2 := 14) hM_244 d_244_11 (by decide) rfl (fun hz1 => ?_) (fun hz1 => ?_)
  · have H := H.1 hz1
    refine ok_sg (pc' := 43) (ls' := [some (.inr (.inr (some 53))), some (.inl s), some (.inl x), some (.inl p)]) (st' := [.inl x]) (m' := m) (fun fx hfx o hk => ?_) ?_
    · refine r_ld (pc' := 43) hM_244 d_244_42 rfl rfl ?_
      exact hk
    exact ok_rt (fun fx _ => rt_i hM_244 d_244_43 rfl) H
  · have H := H.2 hz1
    obtain ⟨hz2, H⟩ := H
    obtain ⟨hz4, H⟩ := H
    refine ok_sg (pc' := 21) (ls' := [some (.inr (.inr (some 53))), some (.inl s), some (.inl x), some (.inl p)]) (st' := [.inl ((if (am_s s).toNat.testBit p.toNat = true then 1 else 0)), .inl x]) (m' := m) (fun fx hfx o hk => ?_) ?_
    · refine r_ld (pc' := 15) hM_244 d_244_14 rfl rfl ?_
      refine r_ld (pc' := 16) hM_244 d_244_15 rfl rfl ?_
      refine r_stk (pc' := 17) (st' := [.inr (.inl (am_s s)), .inl x]) hM_244 d_244_16 rfl rfl ?_
      refine r_ld (pc' := 18) hM_244 d_244_17 rfl rfl ?_
      refine r_cl (pc' := 21) (c := (194, 2)) (a := [.inr (.inl (am_s s)), .inl p]) (q := [.inl x]) hM_244 d_244_18 rfl (by decide +kernel) hM_194 rfl rfl rfl (Nat.le_of_ble_eq_true rfl) (Nat.le_of_ble_eq_true rfl) (Or.inl rfl) (n_194  m (am_s s) p hz2) (Nat.le_of_ble_eq_true rfl) ?_
      show rn fx 1 (0, 0) 244 21 [some (.inr (.inr (some 53))), some (.inl s), some (.inl x), some (.inl p)] [.inl ((if (am_s s).toNat.testBit p.toNat = true then 1 else 0)), .inl x] (st0 m) o
      exact hk
    refine ok_sg (pc' := 34) (ls' := [some (.inr (.inr (some 53))), some (.inl s), some (.inl x), some (.inl p)]) (st' := [.inl (if am_s ((if (am_s s).toNat.testBit p.toNat = true then 1 else 0)) = 0 then 0 else (m 69 ((am_s p).toNat))), .inl x]) (m' := m) (fun fx hfx o K => ?_) ?_
    · refine r_if (pc' := 33) (pc2 := 24) hM_244 d_244_21 (by decide) rfl (fun hz3 => ?_) (fun hz3 => ?_)
      · have hz3 : am_s ((if (am_s s).toNat.testBit p.toNat = true then 1 else 0)) = 0 := hz3
        rw [if_pos hz3] at K
        refine r_k (pc' := 34) (v := .inl 0) hM_244 d_244_33 rfl rfl ?_
        exact K
      · have hz3 : ¬ (am_s ((if (am_s s).toNat.testBit p.toNat = true then 1 else 0)) = 0) := hz3
        rw [if_neg hz3] at K
        refine r_ld (pc' := 25) hM_244 d_244_24 rfl rfl ?_
        refine r_gR (pc' := 28) (v := 69) hM_244 d_244_25 rfl (by decide +kernel) ?_
        refine r_ld (pc' := 29) hM_244 d_244_28 rfl rfl ?_
        refine r_ia (pc' := 30) (n := 12) hM_244 d_244_29 rfl rfl (hz4 hz3) ?_
        refine r_go (pc' := 34) hM_244 d_244_30 (by decide) ?_
        exact K
    have K : ∀ y1 : Int, y1 = (if am_s ((if (am_s s).toNat.testBit p.toNat = true then 1 else 0)) = 0 then 0 else (m 69 ((am_s p).toNat))) → ok 1 244 34 [some (.inr (.inr (some 53))), some (.inl s), some (.inl x), some (.inl p)] [.inl y1, .inl x] m Q := by
      intro y1 hy1
      replace H := H y1 hy1
      refine ok_sg (pc' := 4) (ls' := [some (.inr (.inr (some 53))), some (.inl s), some (.inl (x + y1)), some (.inl (p + 1))]) (st' := []) (m' := m) (fun fx hfx o hk => ?_) ?_
      · refine r_b (pc' := 35) (z := (x + y1)) hM_244 d_244_34 rfl rfl ?_
        refine r_sto (pc' := 36) (ls' := [some (.inr (.inr (some 53))), some (.inl s), some (.inl (x + y1)), some (.inl p)]) hM_244 d_244_35 rfl rfl ?_
        refine r_sto (pc' := 39) (ls' := [some (.inr (.inr (some 53))), some (.inl s), some (.inl (x + y1)), some (.inl (p + 1))]) hM_244 d_244_36 rfl rfl ?_
        refine r_go (pc' := 4) hM_244 d_244_39 (by decide) ?_
        exact hk
      exact H
    exact K _ rfl
theorem u_244_0 {Q : List am_V → am_M → Prop} {m : am_M} {s : Int}  (H : ok 1 244 4 [some (.inr (.inr (some 53))), some (.inl s), some (.inl 0), some (.inl 0)] [] m Q) : ok 1 244 0 [some (.inr (.inr (some 53))), some (.inl s), none, none] [] m Q := by
  refine ok_sg (pc' := 4) (ls' := [some (.inr (.inr (some 53))), some (.inl s), some (.inl 0), some (.inl 0)]) (st' := []) (m' := m) (fun fx hfx o hk => ?_) ?_
  · refine r_k (pc' := 1) (v := .inl 0) hM_244 d_244_0 rfl rfl ?_
    refine r_sto (pc' := 2) (ls' := [some (.inr (.inr (some 53))), some (.inl s), some (.inl 0), none]) hM_244 d_244_1 rfl rfl ?_
    refine r_k (pc' := 3) (v := .inl 0) hM_244 d_244_2 rfl rfl ?_
    refine r_sto (pc' := 4) (ls' := [some (.inr (.inr (some 53))), some (.inl s), some (.inl 0), some (.inl 0)]) hM_244 d_244_3 rfl rfl ?_
    exact hk
  exact H
theorem z_244   (m : am_M) (s : Int) (hq : WFG (m 54) ∧ (0 ≤ s ∧ s < 4096) ∧ ∀ p : Nat, (p : Int) < m 54 0 → s.toNat.testBit p = true → 0 ≤ m 69 p ∧ m 69 p ≤ 1000) : ok 1 244 0 (am_ent 4 [.inr (.inr (some 53)), .inl s]) [] m (fun rr m' => rr = [.inl ((SU (m 69) s.toNat (m 54 0).toNat))] ∧ m' = m) := by
  show ok 1 244 0 [some (.inr (.inr (some 53))), some (.inl s), none, none] [] m _
  obtain ⟨hw, hs, hc⟩ := hq
  have hN := hw.1
  obtain ⟨S, rfl⟩ : ∃ S : Nat, s = (S : Int) := ⟨s.toNat, by omega⟩
  rw [Int.toNat_natCast] at hc ⊢
  refine u_244_0 ?_
  refine ok_for (σ := Unit) (fun p _ => [some (.inr (.inr (some 53))), some (.inl (S : Int)), some (.inl (SU (m 69) S p)), some (.inl (p : Int))]) (fun p _ M => M = m) (m 54 0).toNat ?_ ?_ () m rfl
  · rintro p hp - M hM IH
    rw [hM]
    refine u_244_4 ?_
    rw [am_s_id (z := m 54 0) (by omega) (by omega), am_s_id (z := (p : Int)) (by omega) (by omega), am_s_id (z := (S : Int)) (by omega) (by omega), Int.toNat_natCast, Int.toNat_natCast]
    refine ⟨fun q => by omega, fun _ => ⟨by omega, fun _ => by omega, fun y hy => ?_⟩⟩
    have := IH () m rfl
    rw [SU_s] at this
    have ey : y = if S.testBit p = true then m 69 p else 0 := by
      rw [hy]
      by_cases hb : S.testBit p = true
      · rw [if_neg (as_iteN.mpr hb), if_pos hb]
      · rw [if_pos (as_ite.mpr hb), if_neg hb]
    rw [ey]
    exact this
  · rintro - M hM
    rw [hM]
    refine u_244_4 ?_
    rw [am_s_id (z := m 54 0) (by omega) (by omega), am_s_id (z := (((m 54 0).toNat : Nat) : Int)) (by omega) (by omega)]
    exact ⟨fun _ => ⟨rfl, rfl⟩, fun q => by omega⟩
theorem u_243_158 {Q : List am_V → am_M → Prop} {m : am_M} {d : Int} {w : Int} {c : Int} {b : Int} {s : Int}  (H : ((am_s c < am_s s) → ((¬ am_s w = 0) → ((¬ am_s w = 1) → Q [.inl b] m) ∧ ((am_s w = 1) → (WFG (m 54) ∧ (0 ≤ b ∧ b < 4096) ∧ ∀ p : Nat, (p : Int) < m 54 0 → b.toNat.testBit p = true → 0 ≤ m 69 p ∧ m 69 p ≤ 1000) ∧ (∀ (m1 : am_M), (m1 = m) → Q [.inl (SU (m 69) b.toNat (m 54 0).toNat)] m1))) ∧ ((am_s w = 0) → (0 ≤ (am_s b) ∧ (am_s b) < 2147483648) ∧ (Q [.inl (((cnt (am_s b).toNat 12 : Nat) : Int))] m))) ∧ ((¬ (am_s c < am_s s)) → ((¬ am_s (am_and s (am_xor c (-1))) = 0) → ok 3 243 158 [some (.inr (.inr (some 53))), some (.inl d), some (.inl w), some (.inl c), some (.inl b), some (.inl (s + 1))] [] m Q) ∧ ((am_s (am_and s (am_xor c (-1))) = 0) → (WFG (m 54) ∧ (0 ≤ s ∧ s < 4096) ∧ ∀ p : Nat, (p : Int) < m 54 0 → s.toNat.testBit p = true → 0 ≤ m 69 p ∧ m 69 p ≤ 1000) ∧ (∀ (m2 : am_M), (m2 = m) → ((am_s (SU (m 69) s.toNat (m 54 0).toNat) ≤ am_s ((m2 54 4) * d)) → (0 ≤ (am_s s) ∧ (am_s s) < 2147483648) ∧ ((0 ≤ (am_s b) ∧ (am_s b) < 2147483648) ∧ (((am_s (((cnt (am_s b).toNat 12 : Nat) : Int)) < am_s (((cnt (am_s s).toNat 12 : Nat) : Int))) → ok 3 243 158 [some (.inr (.inr (some 53))), some (.inl d), some (.inl w), some (.inl c), some (.inl s), some (.inl (s + 1))] [] m2 Q) ∧ ((¬ (am_s (((cnt (am_s b).toNat 12 : Nat) : Int)) < am_s (((cnt (am_s s).toNat 12 : Nat) : Int)))) → ((¬ am_s (((cnt (am_s s).toNat 12 : Nat) : Int)) = am_s (((cnt (am_s b).toNat 12 : Nat) : Int))) → ok 3 243 158 [some (.inr (.inr (some 53))), some (.inl d), some (.inl w), some (.inl c), some (.inl b), some (.inl (s + 1))] [] m2 Q) ∧ ((am_s (((cnt (am_s s).toNat 12 : Nat) : Int)) = am_s (((cnt (am_s b).toNat 12 : Nat) : Int))) → (WFG (m2 54) ∧ (0 ≤ s ∧ s < 4096) ∧ ∀ p : Nat, (p : Int) < m2 54 0 → s.toNat.testBit p = true → 0 ≤ m2 69 p ∧ m2 69 p ≤ 1000) ∧ (∀ (m3 : am_M), (m3 = m2) → (WFG (m3 54) ∧ (0 ≤ b ∧ b < 4096) ∧ ∀ p : Nat, (p : Int) < m3 54 0 → b.toNat.testBit p = true → 0 ≤ m3 69 p ∧ m3 69 p ≤ 1000) ∧ (∀ (m4 : am_M), (m4 = m3) → ((am_s (SU (m3 69) b.toNat (m3 54 0).toNat) ≤ am_s (SU (m2 69) s.toNat (m2 54 0).toNat)) → ok 3 243 158 [some (.inr (.inr (some 53))), some (.inl d), some (.inl w), some (.inl c), some (.inl b), some (.inl (s + 1))] [] m4 Q) ∧ ((¬ (am_s (SU (m3 69) b.toNat (m3 54 0).toNat) ≤ am_s (SU (m2 69) s.toNat (m2 54 0).toNat))) → ok 3 243 158 [some (.inr (.inr (some 53))), some (.inl d), some (.inl w), some (.inl c), some (.inl s), some (.inl (s + 1))] [] m4 Q)))))))) ∧ ((¬ (am_s (SU (m 69) s.toNat (m 54 0).toNat) ≤ am_s ((m2 54 4) * d))) → ok 3 243 158 [some (.inr (.inr (some 53))), some (.inl d), some (.inl w), some (.inl c), some (.inl b), some (.inl (s + 1))] [] m2 Q))))) : ok 3 243 158 [some (.inr (.inr (some 53))), some (.inl d), some (.inl w), some (.inl c), some (.inl b), some (.inl s)] [] m Q := by
  refine ok_sg (pc' := 161) (ls' := [some (.inr (.inr (some 53))), some (.inl d), some (.inl w), some (.inl c), some (.inl b), some (.inl s)]) (st' := [.inl c, .inl s]) (m' := m) (fun fx hfx o hk => ?_) ?_
  · refine r_ld (pc' := 160) hM_243 d_243_158 rfl rfl ?_
    refine r_ld (pc' := 161) hM_243 d_243_160 rfl rfl ?_
    exact hk
  refine ok_ic (pc' := 248) (pc2 := 164) hM_243 d_243_161 (by decide) rfl (fun hz1 => ?_) (fun hz1 => ?_)
  · have H := H.1 hz1
    refine ok_sg (pc' := 249) (ls' := [some (.inr (.inr (some 53))), some (.inl d), some (.inl w), some (.inl c), some (.inl b), some (.inl s)]) (st' := [.inl w]) (m' := m) (fun fx hfx o hk => ?_) ?_
    · refine r_ld (pc' := 249) hM_243 d_243_248 rfl rfl ?_
      exact hk
    refine ok_if (pc' := 261) (pc2 := 252) hM_243 d_243_249 (by decide) rfl (fun hz2 => ?_) (fun hz2 => ?_)
    · have H := H.1 hz2
      refine ok_sg (pc' := 263) (ls' := [some (.inr (.inr (some 53))), some (.inl d), some (.inl w), some (.inl c), some (.inl b), some (.inl s)]) (st' := [.inl 1, .inl w]) (m' := m) (fun fx hfx o hk => ?_) ?_
      · refine r_ld (pc' := 262) hM_243 d_243_261 rfl rfl ?_
        refine r_k (pc' := 263) (v := .inl 1) hM_243 d_243_262 rfl rfl ?_
        exact hk
      refine ok_ic (pc' := 275) (pc2 := 266) hM_243 d_243_263 (by decide) rfl (fun hz3 => ?_) (fun hz3 => ?_)
      · have H := H.1 hz3
        refine ok_sg (pc' := 277) (ls' := [some (.inr (.inr (some 53))), some (.inl d), some (.inl w), some (.inl c), some (.inl b), some (.inl s)]) (st' := [.inl b]) (m' := m) (fun fx hfx o hk => ?_) ?_
        · refine r_ld (pc' := 277) hM_243 d_243_275 rfl rfl ?_
          exact hk
        exact ok_rt (fun fx _ => rt_i hM_243 d_243_277 rfl) H
      · have H := H.2 (Decidable.not_not.mp hz3)
        obtain ⟨hz4, H⟩ := H
        refine ok_sg (pc' := 269) (ls' := [some (.inr (.inr (some 53))), some (.inl d), some (.inl w), some (.inl c), some (.inl b), some (.inl s)]) (st' := [.inl b, .inr (.inr (some 53))]) (m' := m) (fun fx hfx o hk => ?_) ?_
        · refine r_ld (pc' := 267) hM_243 d_243_266 rfl rfl ?_
          refine r_ld (pc' := 269) hM_243 d_243_267 rfl rfl ?_
          exact hk
        refine ok_cl (pc' := 272) (c := (244, 0)) (a := [.inr (.inr (some 53)), .inl b]) (q := []) hM_243 d_243_269 rfl (by decide +kernel) hM_244 rfl rfl rfl (Nat.le_of_ble_eq_true rfl) (Nat.le_of_ble_eq_true rfl) (Or.inr rfl) (z_244  m b hz4) (Nat.le_of_ble_eq_true rfl) ?_
        rintro _ m1 ⟨rfl, hz5⟩
        replace H := H  m1 hz5
        show ok 3 243 272 [some (.inr (.inr (some 53))), some (.inl d), some (.inl w), some (.inl c), some (.inl b), some (.inl s)] [.inl (SU (m 69) b.toNat (m 54 0).toNat)] m1 Q
        refine ok_sg (pc' := 277) (ls' := [some (.inr (.inr (some 53))), some (.inl d), some (.inl w), some (.inl c), some (.inl b), some (.inl s)]) (st' := [.inl (SU (m 69) b.toNat (m 54 0).toNat)]) (m' := m1) (fun fx hfx o hk => ?_) ?_
        · refine r_go (pc' := 277) hM_243 d_243_272 (by decide) ?_
          exact hk
        exact ok_rt (fun fx _ => rt_i hM_243 d_243_277 rfl) H
    · have H := H.2 (Decidable.not_not.mp hz2)
      obtain ⟨hz6, H⟩ := H
      refine ok_sg (pc' := 277) (ls' := [some (.inr (.inr (some 53))), some (.inl d), some (.inl w), some (.inl c), some (.inl b), some (.inl s)]) (st' := [.inl (((cnt (am_s b).toNat 12 : Nat) : Int))]) (m' := m) (fun fx hfx o hk => ?_) ?_
      · refine r_ld (pc' := 254) hM_243 d_243_252 rfl rfl ?_
        refine r_stk (pc' := 255) (st' := [.inr (.inl (am_s b))]) hM_243 d_243_254 rfl rfl ?_
        refine r_cl (pc' := 258) (c := (193, 2)) (a := [.inr (.inl (am_s b))]) (q := []) hM_243 d_243_255 rfl (by decide +kernel) hM_193 rfl rfl rfl (Nat.le_of_ble_eq_true rfl) (Nat.le_of_ble_eq_true rfl) (Or.inl rfl) (c_193  m (am_s b) hz6) (Nat.le_of_ble_eq_true rfl) ?_
        show rn fx 3 (0, 0) 243 258 [some (.inr (.inr (some 53))), some (.inl d), some (.inl w), some (.inl c), some (.inl b), some (.inl s)] [.inl (((cnt (am_s b).toNat 12 : Nat) : Int))] (st0 m) o
        refine r_go (pc' := 277) hM_243 d_243_258 (by decide) ?_
        exact hk
      exact ok_rt (fun fx _ => rt_i hM_243 d_243_277 rfl) H
  · have H := H.2 hz1
    refine ok_sg (pc' := 170) (ls' := [some (.inr (.inr (some 53))), some (.inl d), some (.inl w), some (.inl c), some (.inl b), some (.inl s)]) (st' := [.inl (am_and s (am_xor c (-1)))]) (m' := m) (fun fx hfx o hk => ?_) ?_
    · refine r_ld (pc' := 166) hM_243 d_243_164 rfl rfl ?_
      refine r_ld (pc' := 167) hM_243 d_243_166 rfl rfl ?_
      refine r_k (pc' := 168) (v := .inl (-1)) hM_243 d_243_167 rfl rfl ?_
      refine r_b (pc' := 169) (z := (am_xor c (-1))) hM_243 d_243_168 rfl rfl ?_
      refine r_b (pc' := 170) (z := (am_and s (am_xor c (-1)))) hM_243 d_243_169 rfl rfl ?_
      exact hk
    refine ok_if (pc' := 242) (pc2 := 173) hM_243 d_243_170 (by decide) rfl (fun hz7 => ?_) (fun hz7 => ?_)
    · have H := H.1 hz7
      refine ok_sg (pc' := 158) (ls' := [some (.inr (.inr (some 53))), some (.inl d), some (.inl w), some (.inl c), some (.inl b), some (.inl (s + 1))]) (st' := []) (m' := m) (fun fx hfx o hk => ?_) ?_
      · refine r_sto (pc' := 245) (ls' := [some (.inr (.inr (some 53))), some (.inl d), some (.inl w), some (.inl c), some (.inl b), some (.inl (s + 1))]) hM_243 d_243_242 rfl rfl ?_
        refine r_go (pc' := 158) hM_243 d_243_245 (by decide) ?_
        exact hk
      exact H
    · have H := H.2 (Decidable.not_not.mp hz7)
      obtain ⟨hz8, H⟩ := H
      refine ok_sg (pc' := 176) (ls' := [some (.inr (.inr (some 53))), some (.inl d), some (.inl w), some (.inl c), some (.inl b), some (.inl s)]) (st' := [.inl s, .inr (.inr (some 53))]) (m' := m) (fun fx hfx o hk => ?_) ?_
      · refine r_ld (pc' := 174) hM_243 d_243_173 rfl rfl ?_
        refine r_ld (pc' := 176) hM_243 d_243_174 rfl rfl ?_
        exact hk
      refine ok_cl (pc' := 179) (c := (244, 0)) (a := [.inr (.inr (some 53)), .inl s]) (q := []) hM_243 d_243_176 rfl (by decide +kernel) hM_244 rfl rfl rfl (Nat.le_of_ble_eq_true rfl) (Nat.le_of_ble_eq_true rfl) (Or.inr rfl) (z_244  m s hz8) (Nat.le_of_ble_eq_true rfl) ?_
      rintro _ m2 ⟨rfl, hz9⟩
      replace H := H  m2 hz9
      show ok 3 243 179 [some (.inr (.inr (some 53))), some (.inl d), some (.inl w), some (.inl c), some (.inl b), some (.inl s)] [.inl (SU (m 69) s.toNat (m 54 0).toNat)] m2 Q
      refine ok_sg (pc' := 187) (ls' := [some (.inr (.inr (some 53))), some (.inl d), some (.inl w), some (.inl c), some (.inl b), some (.inl s)]) (st' := [.inl ((m2 54 4) * d), .inl (SU (m 69) s.toNat (m 54 0).toNat)]) (m' := m2) (fun fx hfx o hk => ?_) ?_
      · refine r_ld (pc' := 180) hM_243 d_243_179 rfl rfl ?_
        refine r_gR (pc' := 183) (v := 54) hM_243 d_243_180 rfl (by decide +kernel) ?_
        refine r_k (pc' := 184) (v := .inl 4) hM_243 d_243_183 rfl rfl ?_
        refine r_iae (pc' := 185) (n := 168) (z := (m2 54 4)) hM_243 d_243_184 rfl rfl (by decide) (by rw [show (am_s 4).toNat = 4 by decide]) ?_
        refine r_ld (pc' := 186) hM_243 d_243_185 rfl rfl ?_
        refine r_b (pc' := 187) (z := ((m2 54 4) * d)) hM_243 d_243_186 rfl rfl ?_
        exact hk
      refine ok_ic (pc' := 193) (pc2 := 190) hM_243 d_243_187 (by decide) rfl (fun hz10 => ?_) (fun hz10 => ?_)
      · have H := H.1 hz10
        obtain ⟨hz11, H⟩ := H
        obtain ⟨hz12, H⟩ := H
        refine ok_sg (pc' := 205) (ls' := [some (.inr (.inr (some 53))), some (.inl d), some (.inl w), some (.inl c), some (.inl b), some (.inl s)]) (st' := [.inl (((cnt (am_s b).toNat 12 : Nat) : Int)), .inl (((cnt (am_s s).toNat 12 : Nat) : Int))]) (m' := m2) (fun fx hfx o hk => ?_) ?_
        · refine r_ld (pc' := 195) hM_243 d_243_193 rfl rfl ?_
          refine r_stk (pc' := 196) (st' := [.inr (.inl (am_s s))]) hM_243 d_243_195 rfl rfl ?_
          refine r_cl (pc' := 199) (c := (193, 2)) (a := [.inr (.inl (am_s s))]) (q := []) hM_243 d_243_196 rfl (by decide +kernel) hM_193 rfl rfl rfl (Nat.le_of_ble_eq_true rfl) (Nat.le_of_ble_eq_true rfl) (Or.inl rfl) (c_193  m2 (am_s s) hz11) (Nat.le_of_ble_eq_true rfl) ?_
          show rn fx 3 (0, 0) 243 199 [some (.inr (.inr (some 53))), some (.inl d), some (.inl w), some (.inl c), some (.inl b), some (.inl s)] [.inl (((cnt (am_s s).toNat 12 : Nat) : Int))] (st0 m2) o
          refine r_ld (pc' := 201) hM_243 d_243_199 rfl rfl ?_
          refine r_stk (pc' := 202) (st' := [.inr (.inl (am_s b)), .inl (((cnt (am_s s).toNat 12 : Nat) : Int))]) hM_243 d_243_201 rfl rfl ?_
          refine r_cl (pc' := 205) (c := (193, 2)) (a := [.inr (.inl (am_s b))]) (q := [.inl (((cnt (am_s s).toNat 12 : Nat) : Int))]) hM_243 d_243_202 rfl (by decide +kernel) hM_193 rfl rfl rfl (Nat.le_of_ble_eq_true rfl) (Nat.le_of_ble_eq_true rfl) (Or.inl rfl) (c_193  m2 (am_s b) hz12) (Nat.le_of_ble_eq_true rfl) ?_
          show rn fx 3 (0, 0) 243 205 [some (.inr (.inr (some 53))), some (.inl d), some (.inl w), some (.inl c), some (.inl b), some (.inl s)] [.inl (((cnt (am_s b).toNat 12 : Nat) : Int)), .inl (((cnt (am_s s).toNat 12 : Nat) : Int))] (st0 m2) o
          exact hk
        refine ok_ic (pc' := 238) (pc2 := 208) hM_243 d_243_205 (by decide) rfl (fun hz13 => ?_) (fun hz13 => ?_)
        · have H := H.1 hz13
          refine ok_sg (pc' := 158) (ls' := [some (.inr (.inr (some 53))), some (.inl d), some (.inl w), some (.inl c), some (.inl s), some (.inl (s + 1))]) (st' := []) (m' := m2) (fun fx hfx o hk => ?_) ?_
          · refine r_ld (pc' := 240) hM_243 d_243_238 rfl rfl ?_
            refine r_sto (pc' := 242) (ls' := [some (.inr (.inr (some 53))), some (.inl d), some (.inl w), some (.inl c), some (.inl s), some (.inl s)]) hM_243 d_243_240 rfl rfl ?_
            refine r_sto (pc' := 245) (ls' := [some (.inr (.inr (some 53))), some (.inl d), some (.inl w), some (.inl c), some (.inl s), some (.inl (s + 1))]) hM_243 d_243_242 rfl rfl ?_
            refine r_go (pc' := 158) hM_243 d_243_245 (by decide) ?_
            exact hk
          exact H
        · have H := H.2 hz13
          refine ok_sg (pc' := 220) (ls' := [some (.inr (.inr (some 53))), some (.inl d), some (.inl w), some (.inl c), some (.inl b), some (.inl s)]) (st' := [.inl (((cnt (am_s b).toNat 12 : Nat) : Int)), .inl (((cnt (am_s s).toNat 12 : Nat) : Int))]) (m' := m2) (fun fx hfx o hk => ?_) ?_
          · refine r_ld (pc' := 210) hM_243 d_243_208 rfl rfl ?_
            refine r_stk (pc' := 211) (st' := [.inr (.inl (am_s s))]) hM_243 d_243_210 rfl rfl ?_
            refine r_cl (pc' := 214) (c := (193, 2)) (a := [.inr (.inl (am_s s))]) (q := []) hM_243 d_243_211 rfl (by decide +kernel) hM_193 rfl rfl rfl (Nat.le_of_ble_eq_true rfl) (Nat.le_of_ble_eq_true rfl) (Or.inl rfl) (c_193  m2 (am_s s) hz11) (Nat.le_of_ble_eq_true rfl) ?_
            show rn fx 3 (0, 0) 243 214 [some (.inr (.inr (some 53))), some (.inl d), some (.inl w), some (.inl c), some (.inl b), some (.inl s)] [.inl (((cnt (am_s s).toNat 12 : Nat) : Int))] (st0 m2) o
            refine r_ld (pc' := 216) hM_243 d_243_214 rfl rfl ?_
            refine r_stk (pc' := 217) (st' := [.inr (.inl (am_s b)), .inl (((cnt (am_s s).toNat 12 : Nat) : Int))]) hM_243 d_243_216 rfl rfl ?_
            refine r_cl (pc' := 220) (c := (193, 2)) (a := [.inr (.inl (am_s b))]) (q := [.inl (((cnt (am_s s).toNat 12 : Nat) : Int))]) hM_243 d_243_217 rfl (by decide +kernel) hM_193 rfl rfl rfl (Nat.le_of_ble_eq_true rfl) (Nat.le_of_ble_eq_true rfl) (Or.inl rfl) (c_193  m2 (am_s b) hz12) (Nat.le_of_ble_eq_true rfl) ?_
            show rn fx 3 (0, 0) 243 220 [some (.inr (.inr (some 53))), some (.inl d), some (.inl w), some (.inl c), some (.inl b), some (.inl s)] [.inl (((cnt (am_s b).toNat 12 : Nat) : Int)), .inl (((cnt (am_s s).toNat 12 : Nat) : Int))] (st0 m2) o
            exact hk
          refine ok_ic (pc' := 242) (pc2 := 223) hM_243 d_243_220 (by decide) rfl (fun hz14 => ?_) (fun hz14 => ?_)
          · have H := H.1 hz14
            refine ok_sg (pc' := 158) (ls' := [some (.inr (.inr (some 53))), some (.inl d), some (.inl w), some (.inl c), some (.inl b), some (.inl (s + 1))]) (st' := []) (m' := m2) (fun fx hfx o hk => ?_) ?_
            · refine r_sto (pc' := 245) (ls' := [some (.inr (.inr (some 53))), some (.inl d), some (.inl w), some (.inl c), some (.inl b), some (.inl (s + 1))]) hM_243 d_243_242 rfl rfl ?_
              refine r_go (pc' := 158) hM_243 d_243_245 (by decide) ?_
              exact hk
            exact H
          · have H := H.2 (Decidable.not_not.mp hz14)
            obtain ⟨hz15, H⟩ := H
            refine ok_sg (pc' := 226) (ls' := [some (.inr (.inr (some 53))), some (.inl d), some (.inl w), some (.inl c), some (.inl b), some (.inl s)]) (st' := [.inl s, .inr (.inr (some 53))]) (m' := m2) (fun fx hfx o hk => ?_) ?_
            · refine r_ld (pc' := 224) hM_243 d_243_223 rfl rfl ?_
              refine r_ld (pc' := 226) hM_243 d_243_224 rfl rfl ?_
              exact hk
            refine ok_cl (pc' := 229) (c := (244, 0)) (a := [.inr (.inr (some 53)), .inl s]) (q := []) hM_243 d_243_226 rfl (by decide +kernel) hM_244 rfl rfl rfl (Nat.le_of_ble_eq_true rfl) (Nat.le_of_ble_eq_true rfl) (Or.inr rfl) (z_244  m2 s hz15) (Nat.le_of_ble_eq_true rfl) ?_
            rintro _ m3 ⟨rfl, hz16⟩
            replace H := H  m3 hz16
            show ok 3 243 229 [some (.inr (.inr (some 53))), some (.inl d), some (.inl w), some (.inl c), some (.inl b), some (.inl s)] [.inl (SU (m2 69) s.toNat (m2 54 0).toNat)] m3 Q
            obtain ⟨hz17, H⟩ := H
            refine ok_sg (pc' := 232) (ls' := [some (.inr (.inr (some 53))), some (.inl d), some (.inl w), some (.inl c), some (.inl b), some (.inl s)]) (st' := [.inl b, .inr (.inr (some 53)), .inl (SU (m2 69) s.toNat (m2 54 0).toNat)]) (m' := m3) (fun fx hfx o hk => ?_) ?_
            · refine r_ld (pc' := 230) hM_243 d_243_229 rfl rfl ?_
              refine r_ld (pc' := 232) hM_243 d_243_230 rfl rfl ?_
              exact hk
            refine ok_cl (pc' := 235) (c := (244, 0)) (a := [.inr (.inr (some 53)), .inl b]) (q := [.inl (SU (m2 69) s.toNat (m2 54 0).toNat)]) hM_243 d_243_232 rfl (by decide +kernel) hM_244 rfl rfl rfl (Nat.le_of_ble_eq_true rfl) (Nat.le_of_ble_eq_true rfl) (Or.inr rfl) (z_244  m3 b hz17) (Nat.le_of_ble_eq_true rfl) ?_
            rintro _ m4 ⟨rfl, hz18⟩
            replace H := H  m4 hz18
            show ok 3 243 235 [some (.inr (.inr (some 53))), some (.inl d), some (.inl w), some (.inl c), some (.inl b), some (.inl s)] [.inl (SU (m3 69) b.toNat (m3 54 0).toNat), .inl (SU (m2 69) s.toNat (m2 54 0).toNat)] m4 Q
            refine ok_ic (pc' := 242) (pc2 := 238) hM_243 d_243_235 (by decide) rfl (fun hz19 => ?_) (fun hz19 => ?_)
            · have H := H.1 hz19
              refine ok_sg (pc' := 158) (ls' := [some (.inr (.inr (some 53))), some (.inl d), some (.inl w), some (.inl c), some (.inl b), some (.inl (s + 1))]) (st' := []) (m' := m4) (fun fx hfx o hk => ?_) ?_
              · refine r_sto (pc' := 245) (ls' := [some (.inr (.inr (some 53))), some (.inl d), some (.inl w), some (.inl c), some (.inl b), some (.inl (s + 1))]) hM_243 d_243_242 rfl rfl ?_
                refine r_go (pc' := 158) hM_243 d_243_245 (by decide) ?_
                exact hk
              exact H
            · have H := H.2 hz19
              refine ok_sg (pc' := 158) (ls' := [some (.inr (.inr (some 53))), some (.inl d), some (.inl w), some (.inl c), some (.inl s), some (.inl (s + 1))]) (st' := []) (m' := m4) (fun fx hfx o hk => ?_) ?_
              · refine r_ld (pc' := 240) hM_243 d_243_238 rfl rfl ?_
                refine r_sto (pc' := 242) (ls' := [some (.inr (.inr (some 53))), some (.inl d), some (.inl w), some (.inl c), some (.inl s), some (.inl s)]) hM_243 d_243_240 rfl rfl ?_
                refine r_sto (pc' := 245) (ls' := [some (.inr (.inr (some 53))), some (.inl d), some (.inl w), some (.inl c), some (.inl s), some (.inl (s + 1))]) hM_243 d_243_242 rfl rfl ?_
                refine r_go (pc' := 158) hM_243 d_243_245 (by decide) ?_
                exact hk
              exact H
      · have H := H.2 hz10
        refine ok_sg (pc' := 158) (ls' := [some (.inr (.inr (some 53))), some (.inl d), some (.inl w), some (.inl c), some (.inl b), some (.inl (s + 1))]) (st' := []) (m' := m2) (fun fx hfx o hk => ?_) ?_
        · refine r_go (pc' := 242) hM_243 d_243_190 (by decide) ?_
          refine r_sto (pc' := 245) (ls' := [some (.inr (.inr (some 53))), some (.inl d), some (.inl w), some (.inl c), some (.inl b), some (.inl (s + 1))]) hM_243 d_243_242 rfl rfl ?_
          refine r_go (pc' := 158) hM_243 d_243_245 (by decide) ?_
          exact hk
        exact H
theorem u_243_40 {Q : List am_V → am_M → Prop} {m : am_M} {d : Int} {w : Int} {c : Int} {p : Int}  (H : ((am_s (m 54 0) ≤ am_s p) → ok 3 243 158 [some (.inr (.inr (some 53))), some (.inl d), some (.inl w), some (.inl c), some (.inl 0), some (.inl 1)] [] m Q) ∧ ((¬ (am_s (m 54 0) ≤ am_s p)) → (WFG (m 54)) ∧ ((((0 ≤ am_s p ∧ am_s p < m 54 0) ∧ nv (m 54) (8 + (am_s p).toNat) = am_s 0) → (0 ≤ am_s (32 + p) ∧ am_s (32 + p) < (168 : Nat)) ∧ ((0 ≤ am_s (20 + p) ∧ am_s (20 + p) < (168 : Nat)) ∧ ((am_s (m 54 ((am_s (20 + p)).toNat)) ≠ 0) ∧ (∀ y1 : Int, y1 = (if am_s (am_div (((100 - (m 54 ((am_s (32 + p)).toNat))) + (m 54 ((am_s (20 + p)).toNat))) - 1) (m 54 ((am_s (20 + p)).toNat))) ≤ am_s d then 0 else ((am_div (((100 - (m 54 ((am_s (32 + p)).toNat))) + (m 54 ((am_s (20 + p)).toNat))) - 1) (m 54 ((am_s (20 + p)).toNat))) - d)) → (0 ≤ am_s p ∧ am_s p < (12 : Nat)) ∧ (∀ y2 : Int, y2 = (if am_s d < am_s y1 then 0 else (am_shl 1 p)) → ok 3 243 40 [some (.inr (.inr (some 53))), some (.inl d), some (.inl w), some (.inl (am_or c y2)), some (.inl (p + 1)), none] [] (mu m 69 ((am_s p).toNat) y1) Q))))) ∧ ((¬ ((0 ≤ am_s p ∧ am_s p < m 54 0) ∧ nv (m 54) (8 + (am_s p).toNat) = am_s 0)) → ok 3 243 40 [some (.inr (.inr (some 53))), some (.inl d), some (.inl w), some (.inl c), some (.inl (p + 1)), none] [] m Q)))) : ok 3 243 40 [some (.inr (.inr (some 53))), some (.inl d), some (.inl w), some (.inl c), some (.inl p), none] [] m Q := by
  refine ok_sg (pc' := 48) (ls' := [some (.inr (.inr (some 53))), some (.inl d), some (.inl w), some (.inl c), some (.inl p), none]) (st' := [.inl (m 54 0), .inl p]) (m' := m) (fun fx hfx o hk => ?_) ?_
  · refine r_ld (pc' := 42) hM_243 d_243_40 rfl rfl ?_
    refine r_ld (pc' := 43) hM_243 d_243_42 rfl rfl ?_
    refine r_gR (pc' := 46) (v := 54) hM_243 d_243_43 rfl (by decide +kernel) ?_
    refine r_k (pc' := 47) (v := .inl 0) hM_243 d_243_46 rfl rfl ?_
    refine r_iae (pc' := 48) (n := 168) (z := (m 54 0)) hM_243 d_243_47 rfl rfl (by decide) (by rw [show (am_s 0).toNat = 0 by decide]) ?_
    exact hk
  refine ok_ic (pc' := 152) (pc2 := 51) hM_243 d_243_48 (by decide) rfl (fun hz1 => ?_) (fun hz1 => ?_)
  · have H := H.1 hz1
    refine ok_sg (pc' := 158) (ls' := [some (.inr (.inr (some 53))), some (.inl d), some (.inl w), some (.inl c), some (.inl 0), some (.inl 1)]) (st' := []) (m' := m) (fun fx hfx o hk => ?_) ?_
    · refine r_k (pc' := 153) (v := .inl 0) hM_243 d_243_152 rfl rfl ?_
      refine r_sto (pc' := 155) (ls' := [some (.inr (.inr (some 53))), some (.inl d), some (.inl w), some (.inl c), some (.inl 0), none]) hM_243 d_243_153 rfl rfl ?_
      refine r_k (pc' := 156) (v := .inl 1) hM_243 d_243_155 rfl rfl ?_
      refine r_sto (pc' := 158) (ls' := [some (.inr (.inr (some 53))), some (.inl d), some (.inl w), some (.inl c), some (.inl 0), some (.inl 1)]) hM_243 d_243_156 rfl rfl ?_
      exact hk
    exact H
  · have H := H.2 hz1
    obtain ⟨hz2, H⟩ := H
    refine ok_sg (pc' := 58) (ls' := [some (.inr (.inr (some 53))), some (.inl d), some (.inl w), some (.inl c), some (.inl p), none]) (st' := [.inl ((if (0 ≤ am_s p ∧ am_s p < m 54 0) ∧ nv (m 54) (8 + (am_s p).toNat) = am_s 0 then 1 else 0))]) (m' := m) (fun fx hfx o hk => ?_) ?_
    · refine r_ld (pc' := 52) hM_243 d_243_51 rfl rfl ?_
      refine r_ld (pc' := 54) hM_243 d_243_52 rfl rfl ?_
      refine r_k (pc' := 55) (v := .inl 0) hM_243 d_243_54 rfl rfl ?_
      refine r_cl (pc' := 58) (c := (187, 0)) (a := [.inr (.inr (some 53)), .inl p, .inl 0]) (q := []) hM_243 d_243_55 rfl (by decide +kernel) hM_187 rfl rfl rfl (Nat.le_of_ble_eq_true rfl) (Nat.le_of_ble_eq_true rfl) (Or.inr rfl) (n_187  m p 0 hz2) (Nat.le_of_ble_eq_true rfl) ?_
      show rn fx 3 (0, 0) 243 58 [some (.inr (.inr (some 53))), some (.inl d), some (.inl w), some (.inl c), some (.inl p), none] [.inl ((if (0 ≤ am_s p ∧ am_s p < m 54 0) ∧ nv (m 54) (8 + (am_s p).toNat) = am_s 0 then 1 else 0))] (st0 m) o
      exact hk
    refine ok_if (pc' := 64) (pc2 := 61) hM_243 d_243_58 (by decide) rfl (fun hz3 => ?_) (fun hz3 => ?_)
    · have H := H.1 (as_iteN.mp hz3)
      obtain ⟨hz4, H⟩ := H
      obtain ⟨hz5, H⟩ := H
      obtain ⟨hz6, H⟩ := H
      refine ok_sg (pc' := 112) (ls' := [some (.inr (.inr (some 53))), some (.inl d), some (.inl w), some (.inl c), some (.inl p), some (.inl (am_div (((100 - (m 54 ((am_s (32 + p)).toNat))) + (m 54 ((am_s (20 + p)).toNat))) - 1) (m 54 ((am_s (20 + p)).toNat))))]) (st' := [.inl d, .inl (am_div (((100 - (m 54 ((am_s (32 + p)).toNat))) + (m 54 ((am_s (20 + p)).toNat))) - 1) (m 54 ((am_s (20 + p)).toNat))), .inl p, .inr (.inr (some 69))]) (m' := m) (fun fx hfx o hk => ?_) ?_
      · refine r_k (pc' := 66) (v := .inl 100) hM_243 d_243_64 rfl rfl ?_
        refine r_ld (pc' := 67) hM_243 d_243_66 rfl rfl ?_
        refine r_gR (pc' := 70) (v := 54) hM_243 d_243_67 rfl (by decide +kernel) ?_
        refine r_k (pc' := 72) (v := .inl 32) hM_243 d_243_70 rfl rfl ?_
        refine r_ld (pc' := 74) hM_243 d_243_72 rfl rfl ?_
        refine r_b (pc' := 75) (z := (32 + p)) hM_243 d_243_74 rfl rfl ?_
        refine r_ia (pc' := 76) (n := 168) hM_243 d_243_75 rfl rfl hz4 ?_
        refine r_b (pc' := 77) (z := (100 - (m 54 ((am_s (32 + p)).toNat)))) hM_243 d_243_76 rfl rfl ?_
        refine r_ld (pc' := 78) hM_243 d_243_77 rfl rfl ?_
        refine r_gR (pc' := 81) (v := 54) hM_243 d_243_78 rfl (by decide +kernel) ?_
        refine r_k (pc' := 83) (v := .inl 20) hM_243 d_243_81 rfl rfl ?_
        refine r_ld (pc' := 85) hM_243 d_243_83 rfl rfl ?_
        refine r_b (pc' := 86) (z := (20 + p)) hM_243 d_243_85 rfl rfl ?_
        refine r_ia (pc' := 87) (n := 168) hM_243 d_243_86 rfl rfl hz5 ?_
        refine r_b (pc' := 88) (z := ((100 - (m 54 ((am_s (32 + p)).toNat))) + (m 54 ((am_s (20 + p)).toNat)))) hM_243 d_243_87 rfl rfl ?_
        refine r_k (pc' := 89) (v := .inl 1) hM_243 d_243_88 rfl rfl ?_
        refine r_b (pc' := 90) (z := (((100 - (m 54 ((am_s (32 + p)).toNat))) + (m 54 ((am_s (20 + p)).toNat))) - 1)) hM_243 d_243_89 rfl rfl ?_
        refine r_ld (pc' := 91) hM_243 d_243_90 rfl rfl ?_
        refine r_gR (pc' := 94) (v := 54) hM_243 d_243_91 rfl (by decide +kernel) ?_
        refine r_k (pc' := 96) (v := .inl 20) hM_243 d_243_94 rfl rfl ?_
        refine r_ld (pc' := 98) hM_243 d_243_96 rfl rfl ?_
        refine r_b (pc' := 99) (z := (20 + p)) hM_243 d_243_98 rfl rfl ?_
        refine r_ia (pc' := 100) (n := 168) hM_243 d_243_99 rfl rfl hz5 ?_
        refine r_div (pc' := 101) hM_243 d_243_100 rfl hz6 ?_
        refine r_sto (pc' := 103) (ls' := [some (.inr (.inr (some 53))), some (.inl d), some (.inl w), some (.inl c), some (.inl p), some (.inl (am_div (((100 - (m 54 ((am_s (32 + p)).toNat))) + (m 54 ((am_s (20 + p)).toNat))) - 1) (m 54 ((am_s (20 + p)).toNat))))]) hM_243 d_243_101 rfl rfl ?_
        refine r_ld (pc' := 104) hM_243 d_243_103 rfl rfl ?_
        refine r_gR (pc' := 107) (v := 69) hM_243 d_243_104 rfl (by decide +kernel) ?_
        refine r_ld (pc' := 109) hM_243 d_243_107 rfl rfl ?_
        refine r_ld (pc' := 111) hM_243 d_243_109 rfl rfl ?_
        refine r_ld (pc' := 112) hM_243 d_243_111 rfl rfl ?_
        exact hk
      refine ok_sg (pc' := 123) (ls' := [some (.inr (.inr (some 53))), some (.inl d), some (.inl w), some (.inl c), some (.inl p), some (.inl (am_div (((100 - (m 54 ((am_s (32 + p)).toNat))) + (m 54 ((am_s (20 + p)).toNat))) - 1) (m 54 ((am_s (20 + p)).toNat))))]) (st' := [.inl (if am_s (am_div (((100 - (m 54 ((am_s (32 + p)).toNat))) + (m 54 ((am_s (20 + p)).toNat))) - 1) (m 54 ((am_s (20 + p)).toNat))) ≤ am_s d then 0 else ((am_div (((100 - (m 54 ((am_s (32 + p)).toNat))) + (m 54 ((am_s (20 + p)).toNat))) - 1) (m 54 ((am_s (20 + p)).toNat))) - d)), .inl p, .inr (.inr (some 69))]) (m' := m) (fun fx hfx o K => ?_) ?_
      · refine r_ic (pc' := 122) (pc2 := 115) hM_243 d_243_112 (by decide) rfl (fun hz7 => ?_) (fun hz7 => ?_)
        · have hz7 : am_s (am_div (((100 - (m 54 ((am_s (32 + p)).toNat))) + (m 54 ((am_s (20 + p)).toNat))) - 1) (m 54 ((am_s (20 + p)).toNat))) ≤ am_s d := hz7
          rw [if_pos hz7] at K
          refine r_k (pc' := 123) (v := .inl 0) hM_243 d_243_122 rfl rfl ?_
          exact K
        · have hz7 : ¬ (am_s (am_div (((100 - (m 54 ((am_s (32 + p)).toNat))) + (m 54 ((am_s (20 + p)).toNat))) - 1) (m 54 ((am_s (20 + p)).toNat))) ≤ am_s d) := hz7
          rw [if_neg hz7] at K
          refine r_ld (pc' := 117) hM_243 d_243_115 rfl rfl ?_
          refine r_ld (pc' := 118) hM_243 d_243_117 rfl rfl ?_
          refine r_b (pc' := 119) (z := ((am_div (((100 - (m 54 ((am_s (32 + p)).toNat))) + (m 54 ((am_s (20 + p)).toNat))) - 1) (m 54 ((am_s (20 + p)).toNat))) - d)) hM_243 d_243_118 rfl rfl ?_
          refine r_go (pc' := 123) hM_243 d_243_119 (by decide) ?_
          exact K
      have K : ∀ y1 : Int, y1 = (if am_s (am_div (((100 - (m 54 ((am_s (32 + p)).toNat))) + (m 54 ((am_s (20 + p)).toNat))) - 1) (m 54 ((am_s (20 + p)).toNat))) ≤ am_s d then 0 else ((am_div (((100 - (m 54 ((am_s (32 + p)).toNat))) + (m 54 ((am_s (20 + p)).toNat))) - 1) (m 54 ((am_s (20 + p)).toNat))) - d)) → ok 3 243 123 [some (.inr (.inr (some 53))), some (.inl d), some (.inl w), some (.inl c), some (.inl p), some (.inl (am_div (((100 - (m 54 ((am_s (32 + p)).toNat))) + (m 54 ((am_s (20 + p)).toNat))) - 1) (m 54 ((am_s (20 + p)).toNat))))] [.inl y1, .inl p, .inr (.inr (some 69))] m Q := by
        intro y1 hy1
        replace H := H y1 hy1
        obtain ⟨hz8, H⟩ := H
        refine ok_sg (pc' := 133) (ls' := [some (.inr (.inr (some 53))), some (.inl d), some (.inl w), some (.inl c), some (.inl p), some (.inl (am_div (((100 - (m 54 ((am_s (32 + p)).toNat))) + (m 54 ((am_s (20 + p)).toNat))) - 1) (m 54 ((am_s (20 + p)).toNat))))]) (st' := [.inl d, .inl y1, .inl c]) (m' := mu m 69 ((am_s p).toNat) y1) (fun fx hfx o hk => ?_) ?_
        · refine r_is (pc' := 124) (n := 12) hM_243 d_243_123 rfl rfl hz8 ?_
          refine r_ld (pc' := 125) hM_243 d_243_124 rfl rfl ?_
          refine r_ld (pc' := 126) hM_243 d_243_125 rfl rfl ?_
          refine r_gR (pc' := 129) (v := 69) hM_243 d_243_126 rfl (by decide +kernel) ?_
          refine r_ld (pc' := 131) hM_243 d_243_129 rfl rfl ?_
          refine r_iae (pc' := 132) (n := 12) (z := y1) hM_243 d_243_131 rfl rfl hz8 (mu_same) ?_
          refine r_ld (pc' := 133) hM_243 d_243_132 rfl rfl ?_
          exact hk
        refine ok_sg (pc' := 144) (ls' := [some (.inr (.inr (some 53))), some (.inl d), some (.inl w), some (.inl c), some (.inl p), some (.inl (am_div (((100 - (m 54 ((am_s (32 + p)).toNat))) + (m 54 ((am_s (20 + p)).toNat))) - 1) (m 54 ((am_s (20 + p)).toNat))))]) (st' := [.inl (if am_s d < am_s y1 then 0 else (am_shl 1 p)), .inl c]) (m' := mu m 69 ((am_s p).toNat) y1) (fun fx hfx o K => ?_) ?_
        · refine r_ic (pc' := 143) (pc2 := 136) hM_243 d_243_133 (by decide) rfl (fun hz9 => ?_) (fun hz9 => ?_)
          · have hz9 : am_s d < am_s y1 := hz9
            rw [if_pos hz9] at K
            refine r_k (pc' := 144) (v := .inl 0) hM_243 d_243_143 rfl rfl ?_
            exact K
          · have hz9 : ¬ (am_s d < am_s y1) := hz9
            rw [if_neg hz9] at K
            refine r_k (pc' := 137) (v := .inl 1) hM_243 d_243_136 rfl rfl ?_
            refine r_ld (pc' := 139) hM_243 d_243_137 rfl rfl ?_
            refine r_b (pc' := 140) (z := (am_shl 1 p)) hM_243 d_243_139 rfl rfl ?_
            refine r_go (pc' := 144) hM_243 d_243_140 (by decide) ?_
            exact K
        have K : ∀ y2 : Int, y2 = (if am_s d < am_s y1 then 0 else (am_shl 1 p)) → ok 3 243 144 [some (.inr (.inr (some 53))), some (.inl d), some (.inl w), some (.inl c), some (.inl p), some (.inl (am_div (((100 - (m 54 ((am_s (32 + p)).toNat))) + (m 54 ((am_s (20 + p)).toNat))) - 1) (m 54 ((am_s (20 + p)).toNat))))] [.inl y2, .inl c] (mu m 69 ((am_s p).toNat) y1) Q := by
          intro y2 hy2
          replace H := H y2 hy2
          refine ok_sg (pc' := 40) (ls' := [some (.inr (.inr (some 53))), some (.inl d), some (.inl w), some (.inl (am_or c y2)), some (.inl (p + 1)), none]) (st' := []) (m' := mu m 69 ((am_s p).toNat) y1) (fun fx hfx o hk => ?_) ?_
          · refine r_b (pc' := 145) (z := (am_or c y2)) hM_243 d_243_144 rfl rfl ?_
            refine r_sto (pc' := 146) (ls' := [some (.inr (.inr (some 53))), some (.inl d), some (.inl w), some (.inl (am_or c y2)), some (.inl p), some (.inl (am_div (((100 - (m 54 ((am_s (32 + p)).toNat))) + (m 54 ((am_s (20 + p)).toNat))) - 1) (m 54 ((am_s (20 + p)).toNat))))]) hM_243 d_243_145 rfl rfl ?_
            refine r_sto (pc' := 149) (ls' := [some (.inr (.inr (some 53))), some (.inl d), some (.inl w), some (.inl (am_or c y2)), some (.inl (p + 1)), some (.inl (am_div (((100 - (m 54 ((am_s (32 + p)).toNat))) + (m 54 ((am_s (20 + p)).toNat))) - 1) (m 54 ((am_s (20 + p)).toNat))))]) hM_243 d_243_146 rfl rfl ?_
            refine r_go (pc' := 40) hM_243 d_243_149 (by decide) ?_
            refine rn_wk (a := [some (.inr (.inr (some 53))), some (.inl d), some (.inl w), some (.inl (am_or c y2)), some (.inl (p + 1)), none]) (by simp only [am_le, and_self]) ?_
            exact hk
          exact H
        exact K _ rfl
      exact K _ rfl
    · have H := H.2 (as_ite.mp (Decidable.not_not.mp hz3))
      refine ok_sg (pc' := 40) (ls' := [some (.inr (.inr (some 53))), some (.inl d), some (.inl w), some (.inl c), some (.inl (p + 1)), none]) (st' := []) (m' := m) (fun fx hfx o hk => ?_) ?_
      · refine r_go (pc' := 146) hM_243 d_243_61 (by decide) ?_
        refine r_sto (pc' := 149) (ls' := [some (.inr (.inr (some 53))), some (.inl d), some (.inl w), some (.inl c), some (.inl (p + 1)), none]) hM_243 d_243_146 rfl rfl ?_
        refine r_go (pc' := 40) hM_243 d_243_149 (by decide) ?_
        exact hk
      exact H
theorem u_243_0 {Q : List am_V → am_M → Prop} {m : am_M} {d : Int} {w : Int}  (H : ((0 ≤ am_s w ∧ am_s w ≤ 2) → ((1 ≤ am_s d ∧ am_s d ≤ 60) → ok 3 243 40 [some (.inr (.inr (some 53))), some (.inl d), some (.inl w), some (.inl 0), some (.inl 0), none] [] (mu m 53 0 0) Q) ∧ ((¬ (1 ≤ am_s d ∧ am_s d ≤ 60)) → Q [.inl (-3)] (mu m 53 0 0))) ∧ ((¬ (0 ≤ am_s w ∧ am_s w ≤ 2)) → Q [.inl (-2)] (mu m 53 0 0))) : ok 3 243 0 [some (.inr (.inr (some 53))), some (.inl d), some (.inl w), none, none, none] [] m Q := by
  refine ok_sg (pc' := 14) (ls' := [some (.inr (.inr (some 53))), some (.inl d), some (.inl w), none, none, none]) (st' := [.inl (if 0 ≤ am_s w ∧ am_s w ≤ 2 then 1 else 0)]) (m' := mu m 53 0 0) (fun fx hfx o hk => ?_) ?_
  · refine r_ld (pc' := 1) hM_243 d_243_0 rfl rfl ?_
    refine r_k (pc' := 2) (v := .inl 0) hM_243 d_243_1 rfl rfl ?_
    refine r_pI (pc' := 5) (k0 := 0) hM_243 d_243_2 rfl (by decide +kernel) ?_
    refine r_ld (pc' := 6) hM_243 d_243_5 rfl rfl ?_
    refine r_stk (pc' := 7) (st' := [.inr (.inl (am_s w))]) hM_243 d_243_6 rfl rfl ?_
    refine r_k (pc' := 8) (v := .inr (.inl 0)) hM_243 d_243_7 rfl rfl ?_
    refine r_k (pc' := 11) (v := .inr (.inl 2)) hM_243 d_243_8 rfl (by decide +kernel) ?_
    refine r_cl (pc' := 14) (c := (167, 2)) (a := [.inr (.inl (am_s w)), .inr (.inl 0), .inr (.inl 2)]) (q := []) hM_243 d_243_11 rfl (by decide +kernel) hM_167 rfl rfl rfl (Nat.le_of_ble_eq_true rfl) (Nat.le_of_ble_eq_true rfl) (Or.inl rfl) (n_167s (mu m 53 0 0) w 0 2 rfl rfl) (Nat.le_of_ble_eq_true rfl) ?_
    show rn fx 3 (0, 0) 243 14 [some (.inr (.inr (some 53))), some (.inl d), some (.inl w), none, none, none] [.inl (if 0 ≤ am_s w ∧ am_s w ≤ 2 then 1 else 0)] (st0 (mu m 53 0 0)) o
    exact hk
  refine ok_if (pc' := 20) (pc2 := 17) hM_243 d_243_14 (by decide) rfl (fun hz1 => ?_) (fun hz1 => ?_)
  · have H := H.1 (as_iteN.mp hz1)
    refine ok_sg (pc' := 29) (ls' := [some (.inr (.inr (some 53))), some (.inl d), some (.inl w), none, none, none]) (st' := [.inl (if 1 ≤ am_s d ∧ am_s d ≤ 60 then 1 else 0)]) (m' := mu m 53 0 0) (fun fx hfx o hk => ?_) ?_
    · refine r_ld (pc' := 21) hM_243 d_243_20 rfl rfl ?_
      refine r_stk (pc' := 22) (st' := [.inr (.inl (am_s d))]) hM_243 d_243_21 rfl rfl ?_
      refine r_k (pc' := 23) (v := .inr (.inl 1)) hM_243 d_243_22 rfl rfl ?_
      refine r_k (pc' := 26) (v := .inr (.inl 60)) hM_243 d_243_23 rfl (by decide +kernel) ?_
      refine r_cl (pc' := 29) (c := (167, 2)) (a := [.inr (.inl (am_s d)), .inr (.inl 1), .inr (.inl 60)]) (q := []) hM_243 d_243_26 rfl (by decide +kernel) hM_167 rfl rfl rfl (Nat.le_of_ble_eq_true rfl) (Nat.le_of_ble_eq_true rfl) (Or.inl rfl) (n_167s (mu m 53 0 0) d 1 60 rfl rfl) (Nat.le_of_ble_eq_true rfl) ?_
      show rn fx 3 (0, 0) 243 29 [some (.inr (.inr (some 53))), some (.inl d), some (.inl w), none, none, none] [.inl (if 1 ≤ am_s d ∧ am_s d ≤ 60 then 1 else 0)] (st0 (mu m 53 0 0)) o
      exact hk
    refine ok_if (pc' := 35) (pc2 := 32) hM_243 d_243_29 (by decide) rfl (fun hz2 => ?_) (fun hz2 => ?_)
    · have H := H.1 (as_iteN.mp hz2)
      refine ok_sg (pc' := 40) (ls' := [some (.inr (.inr (some 53))), some (.inl d), some (.inl w), some (.inl 0), some (.inl 0), none]) (st' := []) (m' := mu m 53 0 0) (fun fx hfx o hk => ?_) ?_
      · refine r_k (pc' := 36) (v := .inl 0) hM_243 d_243_35 rfl rfl ?_
        refine r_sto (pc' := 37) (ls' := [some (.inr (.inr (some 53))), some (.inl d), some (.inl w), some (.inl 0), none, none]) hM_243 d_243_36 rfl rfl ?_
        refine r_k (pc' := 38) (v := .inl 0) hM_243 d_243_37 rfl rfl ?_
        refine r_sto (pc' := 40) (ls' := [some (.inr (.inr (some 53))), some (.inl d), some (.inl w), some (.inl 0), some (.inl 0), none]) hM_243 d_243_38 rfl rfl ?_
        exact hk
      exact H
    · have H := H.2 (as_ite.mp (Decidable.not_not.mp hz2))
      refine ok_sg (pc' := 34) (ls' := [some (.inr (.inr (some 53))), some (.inl d), some (.inl w), none, none, none]) (st' := [.inl (-3)]) (m' := mu m 53 0 0) (fun fx hfx o hk => ?_) ?_
      · refine r_k (pc' := 34) (v := .inl (-3)) hM_243 d_243_32 rfl rfl ?_
        exact hk
      exact ok_rt (fun fx _ => rt_i hM_243 d_243_34 rfl) H
  · have H := H.2 (as_ite.mp (Decidable.not_not.mp hz1))
    refine ok_sg (pc' := 19) (ls' := [some (.inr (.inr (some 53))), some (.inl d), some (.inl w), none, none, none]) (st' := [.inl (-2)]) (m' := mu m 53 0 0) (fun fx hfx o hk => ?_) ?_
    · refine r_k (pc' := 19) (v := .inl (-2)) hM_243 d_243_17 rfl rfl ?_
      exact hk
    exact ok_rt (fun fx _ => rt_i hM_243 d_243_19 rfl) H
