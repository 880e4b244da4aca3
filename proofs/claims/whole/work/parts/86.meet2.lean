theorem t_247_0 {fx : am_X0} {o : List am_V × am_S} {m : am_M} {j : Int} {k : Int} {p : Int}  (H : (WFG (m 54)) ∧ (((¬ (am_s ((if (0 ≤ am_s p ∧ am_s p < m 54 0) ∧ nv (m 54) (8 + (am_s p).toNat) = am_s 0 then 1 else 0)) = 0)) → (q_242 m p)) ∧ (((¬ (am_s ((if (0 ≤ am_s p ∧ am_s p < m 54 0) ∧ nv (m 54) (8 + (am_s p).toNat) = am_s 0 then 1 else 0)) = 0)) → (0 ≤ am_s ((40 * j) + k) ∧ am_s ((40 * j) + k) < (160 : Nat))) ∧ (∀ y1 : Int, y1 = (if am_s ((if (0 ≤ am_s p ∧ am_s p < m 54 0) ∧ nv (m 54) (8 + (am_s p).toNat) = am_s 0 then 1 else 0)) = 0 then 0 else (if 0 < am_s (am_lcmp (am_s (v_242 m p)) (m 75 ((am_s ((40 * j) + k)).toNat))) then 0 else 1)) → o = ([.inl y1], st0 m))))) : rn fx 3 (0, 0) 247 0 [some (.inr (.inr (some 53))), some (.inl j), some (.inl k), some (.inl p)] [] (st0 m) o := by
  refine r_ld (pc' := 1) hM_247 d_247_0 rfl rfl ?_
  refine r_ld (pc' := 2) hM_247 d_247_1 rfl rfl ?_
  refine r_k (pc' := 3) (v := .inl 0) hM_247 d_247_2 rfl rfl ?_
  obtain ⟨hz1, H⟩ := H
  refine r_cl (pc' := 6) (c := (187, 0)) (a := [.inr (.inr (some 53)), .inl p, .inl 0]) (q := []) hM_247 d_247_3 rfl (by decide +kernel) hM_187 rfl rfl rfl (Nat.le_of_ble_eq_true rfl) (Nat.le_of_ble_eq_true rfl) (Or.inr rfl) (n_187  m p 0 hz1) (Nat.le_of_ble_eq_true rfl) ?_
  show rn fx 3 (0, 0) 247 6 [some (.inr (.inr (some 53))), some (.inl j), some (.inl k), some (.inl p)] [.inl ((if (0 ≤ am_s p ∧ am_s p < m 54 0) ∧ nv (m 54) (8 + (am_s p).toNat) = am_s 0 then 1 else 0))] (st0 m) o
  obtain ⟨hz3, H⟩ := H
  obtain ⟨hz4, H⟩ := H
  have K : ∀ y1 : Int, y1 = (if am_s ((if (0 ≤ am_s p ∧ am_s p < m 54 0) ∧ nv (m 54) (8 + (am_s p).toNat) = am_s 0 then 1 else 0)) = 0 then 0 else (if 0 < am_s (am_lcmp (am_s (v_242 m p)) (m 75 ((am_s ((40 * j) + k)).toNat))) then 0 else 1)) → rn fx 3 (0, 0) 247 35 [some (.inr (.inr (some 53))), some (.inl j), some (.inl k), some (.inl p)] [.inl y1] (st0 m) o := by
    intro y1 hy1
    replace H := H y1 hy1
    subst H
    refine rt_z hM_247 d_247_35 rfl ?_
    rw [hy1]
    repeat' first | exact Or.inl rfl | exact Or.inr rfl | apply z01_ite
  replace K := K _ rfl
  clear H
  refine r_if (pc' := 34) (pc2 := 9) hM_247 d_247_6 (by decide) rfl (fun hz2 => ?_) (fun hz2 => ?_)
  · have hz2 : am_s ((if (0 ≤ am_s p ∧ am_s p < m 54 0) ∧ nv (m 54) (8 + (am_s p).toNat) = am_s 0 then 1 else 0)) = 0 := hz2
    rw [if_pos hz2] at K
    refine r_k (pc' := 35) (v := .inl 0) hM_247 d_247_34 rfl rfl ?_
    exact K
  · have hz2 : ¬ (am_s ((if (0 ≤ am_s p ∧ am_s p < m 54 0) ∧ nv (m 54) (8 + (am_s p).toNat) = am_s 0 then 1 else 0)) = 0) := hz2
    rw [if_neg hz2] at K
    refine r_ld (pc' := 10) hM_247 d_247_9 rfl rfl ?_
    refine r_ld (pc' := 11) hM_247 d_247_10 rfl rfl ?_
    refine r_cl (pc' := 14) (c := (242, 0)) (a := [.inr (.inr (some 53)), .inl p]) (q := []) hM_247 d_247_11 rfl (by decide +kernel) hM_242 rfl rfl rfl (Nat.le_of_ble_eq_true rfl) (Nat.le_of_ble_eq_true rfl) (Or.inr rfl) (c_242  m p (hz3 hz2)) (Nat.le_of_ble_eq_true rfl) ?_
    show rn fx 3 (0, 0) 247 14 [some (.inr (.inr (some 53))), some (.inl j), some (.inl k), some (.inl p)] [.inl (v_242 m p)] (st0 m) o
    refine r_stk (pc' := 15) (st' := [.inr (.inl (am_s (v_242 m p)))]) hM_247 d_247_14 rfl rfl ?_
    refine r_ld (pc' := 16) hM_247 d_247_15 rfl rfl ?_
    refine r_gR (pc' := 19) (v := 75) hM_247 d_247_16 rfl (by decide +kernel) ?_
    refine r_k (pc' := 21) (v := .inl 40) hM_247 d_247_19 rfl rfl ?_
    refine r_ld (pc' := 22) hM_247 d_247_21 rfl rfl ?_
    refine r_b (pc' := 23) (z := (40 * j)) hM_247 d_247_22 rfl rfl ?_
    refine r_ld (pc' := 24) hM_247 d_247_23 rfl rfl ?_
    refine r_b (pc' := 25) (z := ((40 * j) + k)) hM_247 d_247_24 rfl rfl ?_
    refine r_la (pc' := 26) (n := 160) hM_247 d_247_25 rfl rfl (hz4 hz2) ?_
    refine r_stk (pc' := 27) (st' := [.inl (am_lcmp (am_s (v_242 m p)) (m 75 ((am_s ((40 * j) + k)).toNat)))]) hM_247 d_247_26 rfl rfl ?_
    refine r_if (pc' := 34) (pc2 := 30) hM_247 d_247_27 (by decide) rfl (fun hz5 => ?_) (fun hz5 => ?_)
    · have hz5 : 0 < am_s (am_lcmp (am_s (v_242 m p)) (m 75 ((am_s ((40 * j) + k)).toNat))) := hz5
      rw [if_pos hz5] at K
      refine r_k (pc' := 35) (v := .inl 0) hM_247 d_247_34 rfl rfl ?_
      exact K
    · have hz5 : ¬ (0 < am_s (am_lcmp (am_s (v_242 m p)) (m 75 ((am_s ((40 * j) + k)).toNat)))) := hz5
      rw [if_neg hz5] at K
      refine r_k (pc' := 31) (v := .inl 1) hM_247 d_247_30 rfl rfl ?_
      refine r_go (pc' := 35) hM_247 d_247_31 (by decide) ?_
      exact K
def v_247 (m : am_M) (j : Int) (k : Int) (p : Int) : Int := (if am_s ((if (0 ≤ am_s p ∧ am_s p < m 54 0) ∧ nv (m 54) (8 + (am_s p).toNat) = am_s 0 then 1 else 0)) = 0 then 0 else (if 0 < am_s (am_lcmp (am_s (v_242 m p)) (m 75 ((am_s ((40 * j) + k)).toNat))) then 0 else 1))
def q_247 (m : am_M) (j : Int) (k : Int) (p : Int) : Prop := (WFG (m 54)) ∧ ((¬ (am_s ((if (0 ≤ am_s p ∧ am_s p < m 54 0) ∧ nv (m 54) (8 + (am_s p).toNat) = am_s 0 then 1 else 0)) = 0)) → (q_242 m p)) ∧ ((¬ (am_s ((if (0 ≤ am_s p ∧ am_s p < m 54 0) ∧ nv (m 54) (8 + (am_s p).toNat) = am_s 0 then 1 else 0)) = 0)) → (0 ≤ am_s ((40 * j) + k) ∧ am_s ((40 * j) + k) < (160 : Nat)))
/-- HeardBarrelsModel.canMeet -/
theorem c_247 {fx : am_X0}   (m : am_M) (j : Int) (k : Int) (p : Int) (hq : q_247 m j k p) : rn fx 3 (0, 0) 247 0 (am_ent 4 [.inr (.inr (some 53)), .inl j, .inl k, .inl p]) [] (st0 m) ([.inl (v_247 m j k p)], st0 m) := by
  unfold q_247 at hq
  show rn fx 3 (0, 0) 247 0 [some (.inr (.inr (some 53))), some (.inl j), some (.inl k), some (.inl p)] [] (st0 m) _
  refine t_247_0  ?_
  obtain ⟨hb0_0, hq⟩ := hq
  refine ⟨hb0_0, ?_⟩
  obtain ⟨hb0_0, hq⟩ := hq
  refine ⟨hb0_0, ?_⟩
  have hb0_0 := hq
  refine ⟨hb0_0, ?_⟩
  intro y1 hy1
  subst hy1
  simp only [v_247]
def OPM (m : am_M) (J : Nat) : Prop := WFG (m 54) ∧ SLT (nv (m 54)) ∧ RWM m ∧ J < 4 ∧ m 74 J ≤ 10 ∧ ∀ k : Nat, (k : Int) < m 74 J → 0 ≤ rwf m J k
theorem OPM_rp {m : am_M} {J p : Nat} (h : OPM m J) (hp : (p : Int) < m 54 0) (hk : sdp (nv (m 54)) p = true) : 0 ≤ rpn (nv (m 54)) p ∧ rpn (nv (m 54)) p ≤ 117 := by
  obtain ⟨hw, hs, -⟩ := h
  have hN := hw.1
  have hwn := WFG_nv hw
  have hk0 : nv (m 54) (8 + p) = 0 := of_decide_eq_true hk
  exact rpn_rng (hwn.2.2.2.1 p (by omega)) ⟨hs p (by omega) (by rw [nv0]; exact hp) (by rw [hk0]; decide), (hwn.2.2.1 p (by omega)).2⟩
theorem v247 {m : am_M} {J k p : Nat} (hO : OPM m J) (hp : (p : Int) < m 54 0) (hk : (k : Int) < m 74 J) : q_247 m (J : Int) (k : Int) (p : Int) ∧ (am_s (v_247 m (J : Int) (k : Int) (p : Int)) = 0 ↔ ¬ (sdp (nv (m 54)) p = true ∧ rpn (nv (m 54)) p ≤ rwf m J k)) := by
  obtain ⟨hw, hs, hR, hJ, h10, hnn⟩ := id hO
  have hN := hw.1
  obtain ⟨g1, g2, g3⟩ := hR J hJ
  have hp12 : p < 12 := by omega
  have ep : am_s (p : Int) = (p : Int) := am_s_id (by omega) (by omega)
  have ei : am_s (40 * (J : Int) + (k : Int)) = 40 * (J : Int) + (k : Int) := am_s_id (by omega) (by omega)
  have en : (40 * (J : Int) + (k : Int)).toNat = 40 * J + k := by omega
  have e32 : am_s (32 + (p : Int)) = 32 + (p : Int) := am_s_id (by omega) (by omega)
  have e20 : am_s (20 + (p : Int)) = 20 + (p : Int) := am_s_id (by omega) (by omega)
  have n32 : (32 + (p : Int)).toNat = 32 + p := by omega
  have n20 : (20 + (p : Int)).toNat = 20 + p := by omega
  have eS : nv (m 54) (20 + p) = m 54 (20 + p) := nv_pl (by omega) hp12 hp
  have eR : nv (m 54) (32 + p) = m 54 (32 + p) := nv_pl (by omega) hp12 hp
  have hs9 := hw.2.2.1 p hp12
  have q242 : nv (m 54) (8 + p) = 0 → q_242 m (p : Int) := by
    intro h0
    have := hs p hp12 (by rw [nv0]; exact hp) (by rw [h0]; decide)
    unfold q_242
    rw [e32, e20, n20, am_s_id (z := 2 * m 54 (20 + p)) (by omega) (by omega)]
    rw [eS] at this
    omega
  constructor
  · unfold q_247
    rw [ep, Int.toNat_natCast, ei, show am_s 0 = 0 from rfl]
    exact ⟨hw, fun q => q242 (as_iteN.mp q).2, fun _ => by omega⟩
  · have v242 : v_242 m (p : Int) = rpn (nv (m 54)) p := by
      unfold v_242 rpn
      rw [e32, e20, n32, n20, eS, eR]
    unfold v_247
    rw [ep, Int.toNat_natCast, ei, en, show am_s 0 = 0 from rfl, v242]
    by_cases h0 : nv (m 54) (8 + p) = 0
    · have hsd : sdp (nv (m 54)) p = true := decide_eq_true h0
      have hr := OPM_rp hO hp hsd
      have es : am_s (rpn (nv (m 54)) p) = rpn (nv (m 54)) p := am_s_id (by omega) (by omega)
      have hg := lcmp_gt (a := rpn (nv (m 54)) p) (b := m 75 (40 * J + k))
      rw [g3 k (by omega), t32 es] at hg
      have erw : rwf m J k = m 75 (40 * J + k) := rfl
      rw [if_neg (as_iteN.mpr ⟨by omega, h0⟩), es, erw]
      by_cases h1 : m 75 (40 * J + k) < rpn (nv (m 54)) p
      · rw [if_pos (hg.mpr h1)]
        exact ⟨fun _ q => by omega, fun _ => rfl⟩
      · rw [if_neg (fun q => h1 (hg.mp q))]
        exact ⟨fun q => absurd q (by decide), fun q => absurd ⟨hsd, by omega⟩ q⟩
    · rw [if_pos (as_ite.mpr (fun q => h0 q.2))]
      exact ⟨fun _ q => h0 (of_decide_eq_true q.1), fun _ => rfl⟩
theorem u_246_58 {Q : List am_V → am_M → Prop} {m : am_M} {j : Int} {k : Int} {t : Int} {b : Int} {p : Int}  (H : ((am_s (m 54 0) ≤ am_s p) → (0 ≤ am_s ((4096 * k) + t) ∧ am_s ((4096 * k) + t) < (45056 : Nat)) ∧ (ok 4 246 13 [some (.inr (.inr (some 53))), some (.inl j), some (.inl k), some (.inl (t + 1)), none, none, none] [] (mu m 70 ((am_s ((4096 * k) + t)).toNat) b) Q)) ∧ ((¬ (am_s (m 54 0) ≤ am_s p)) → (0 ≤ am_s j ∧ am_s j < (4 : Nat)) ∧ (((am_s (m 74 ((am_s j).toNat)) ≤ am_s k) → (0 ≤ am_s ((4096 * k) + t) ∧ am_s ((4096 * k) + t) < (45056 : Nat)) ∧ (ok 4 246 13 [some (.inr (.inr (some 53))), some (.inl j), some (.inl k), some (.inl (t + 1)), none, none, none] [] (mu m 70 ((am_s ((4096 * k) + t)).toNat) b) Q)) ∧ ((¬ (am_s (m 74 ((am_s j).toNat)) ≤ am_s k)) → ((0 ≤ (am_s t) ∧ (am_s t) < 2147483648) ∧ 0 ≤ p ∧ p < 32) ∧ ((((am_s t).toNat.testBit p.toNat = true) → ok 4 246 58 [some (.inr (.inr (some 53))), some (.inl j), some (.inl k), some (.inl t), some (.inl b), some (.inl (p + 1)), none] [] m Q) ∧ ((¬ ((am_s t).toNat.testBit p.toNat = true)) → (q_247 m j k p) ∧ (((¬ am_s (v_247 m j k p) = 0) → (0 ≤ am_s ((4096 * (k + 1)) + (am_or t (am_shl 1 p))) ∧ am_s ((4096 * (k + 1)) + (am_or t (am_shl 1 p))) < (45056 : Nat)) ∧ (∀ y1 : Int, y1 = (if am_s (1 + (m 70 ((am_s ((4096 * (k + 1)) + (am_or t (am_shl 1 p)))).toNat))) ≤ am_s b then b else (1 + (m 70 ((am_s ((4096 * (k + 1)) + (am_or t (am_shl 1 p)))).toNat)))) → ok 4 246 58 [some (.inr (.inr (some 53))), some (.inl j), some (.inl k), some (.inl t), some (.inl y1), some (.inl (p + 1)), none] [] m Q)) ∧ ((am_s (v_247 m j k p) = 0) → ok 4 246 58 [some (.inr (.inr (some 53))), some (.inl j), some (.inl k), some (.inl t), some (.inl b), some (.inl (p + 1)), none] [] m Q)))))))) : ok 4 246 58 [some (.inr (.inr (some 53))), some (.inl j), some (.inl k), some (.inl t), some (.inl b), some (.inl p), none] [] m Q := by
  refine ok_sg (pc' := 66) (ls' := [some (.inr (.inr (some 53))), some (.inl j), some (.inl k), some (.inl t), some (.inl b), some (.inl p), none]) (st' := [.inl (m 54 0), .inl p]) (m' := m) (fun fx hfx o hk => ?_) ?_
  · refine r_ld (pc' := 60) hM_246 d_246_58 rfl rfl ?_
    refine r_ld (pc' := 61) hM_246 d_246_60 rfl rfl ?_
    refine r_gR (pc' := 64) (v := 54) hM_246 d_246_61 rfl (by decide +kernel) ?_
    refine r_k (pc' := 65) (v := .inl 0) hM_246 d_246_64 rfl rfl ?_
    refine r_iae (pc' := 66) (n := 168) (z := (m 54 0)) hM_246 d_246_65 rfl rfl (by decide) (by rw [show (am_s 0).toNat = 0 by decide]) ?_
    exact hk
  refine ok_ic (pc' := 148) (pc2 := 69) hM_246 d_246_66 (by decide) rfl (fun hz1 => ?_) (fun hz1 => ?_)
  · have H := H.1 hz1
    obtain ⟨hz2, H⟩ := H
    refine ok_sg (pc' := 13) (ls' := [some (.inr (.inr (some 53))), some (.inl j), some (.inl k), some (.inl (t + 1)), none, none, none]) (st' := []) (m' := mu m 70 ((am_s ((4096 * k) + t)).toNat) b) (fun fx hfx o hk => ?_) ?_
    · refine r_ld (pc' := 149) hM_246 d_246_148 rfl rfl ?_
      refine r_gR (pc' := 152) (v := 70) hM_246 d_246_149 rfl (by decide +kernel) ?_
      refine r_k (pc' := 155) (v := .inl 4096) hM_246 d_246_152 rfl rfl ?_
      refine r_ld (pc' := 156) hM_246 d_246_155 rfl rfl ?_
      refine r_b (pc' := 157) (z := (4096 * k)) hM_246 d_246_156 rfl rfl ?_
      refine r_ld (pc' := 158) hM_246 d_246_157 rfl rfl ?_
      refine r_b (pc' := 159) (z := ((4096 * k) + t)) hM_246 d_246_158 rfl rfl ?_
      refine r_ld (pc' := 161) hM_246 d_246_159 rfl rfl ?_
      refine r_is (pc' := 162) (n := 45056) hM_246 d_246_161 rfl rfl hz2 ?_
      refine r_sto (pc' := 165) (ls' := [some (.inr (.inr (some 53))), some (.inl j), some (.inl k), some (.inl (t + 1)), some (.inl b), some (.inl p), none]) hM_246 d_246_162 rfl rfl ?_
      refine r_go (pc' := 13) hM_246 d_246_165 (by decide) ?_
      refine rn_wk (a := [some (.inr (.inr (some 53))), some (.inl j), some (.inl k), some (.inl (t + 1)), none, none, none]) (by simp only [am_le, and_self]) ?_
      exact hk
    exact H
  · have H := H.2 hz1
    obtain ⟨hz3, H⟩ := H
    refine ok_sg (pc' := 76) (ls' := [some (.inr (.inr (some 53))), some (.inl j), some (.inl k), some (.inl t), some (.inl b), some (.inl p), none]) (st' := [.inl (m 74 ((am_s j).toNat)), .inl k]) (m' := m) (fun fx hfx o hk => ?_) ?_
    · refine r_ld (pc' := 70) hM_246 d_246_69 rfl rfl ?_
      refine r_ld (pc' := 71) hM_246 d_246_70 rfl rfl ?_
      refine r_gR (pc' := 74) (v := 74) hM_246 d_246_71 rfl (by decide +kernel) ?_
      refine r_ld (pc' := 75) hM_246 d_246_74 rfl rfl ?_
      refine r_ia (pc' := 76) (n := 4) hM_246 d_246_75 rfl rfl hz3 ?_
      exact hk
    refine ok_ic (pc' := 148) (pc2 := 79) hM_246 d_246_76 (by decide) rfl (fun hz4 => ?_) (fun hz4 => ?_)
    · have H := H.1 hz4
      obtain ⟨hz5, H⟩ := H
      refine ok_sg (pc' := 13) (ls' := [some (.inr (.inr (some 53))), some (.inl j), some (.inl k), some (.inl (t + 1)), none, none, none]) (st' := []) (m' := mu m 70 ((am_s ((4096 * k) + t)).toNat) b) (fun fx hfx o hk => ?_) ?_
      · refine r_ld (pc' := 149) hM_246 d_246_148 rfl rfl ?_
        refine r_gR (pc' := 152) (v := 70) hM_246 d_246_149 rfl (by decide +kernel) ?_
        refine r_k (pc' := 155) (v := .inl 4096) hM_246 d_246_152 rfl rfl ?_
        refine r_ld (pc' := 156) hM_246 d_246_155 rfl rfl ?_
        refine r_b (pc' := 157) (z := (4096 * k)) hM_246 d_246_156 rfl rfl ?_
        refine r_ld (pc' := 158) hM_246 d_246_157 rfl rfl ?_
        refine r_b (pc' := 159) (z := ((4096 * k) + t)) hM_246 d_246_158 rfl rfl ?_
        refine r_ld (pc' := 161) hM_246 d_246_159 rfl rfl ?_
        refine r_is (pc' := 162) (n := 45056) hM_246 d_246_161 rfl rfl hz5 ?_
        refine r_sto (pc' := 165) (ls' := [some (.inr (.inr (some 53))), some (.inl j), some (.inl k), some (.inl (t + 1)), some (.inl b), some (.inl p), none]) hM_246 d_246_162 rfl rfl ?_
        refine r_go (pc' := 13) hM_246 d_246_165 (by decide) ?_
        refine rn_wk (a := [some (.inr (.inr (some 53))), some (.inl j), some (.inl k), some (.inl (t + 1)), none, none, none]) (by simp only [am_le, and_self]) ?_
        exact hk
      exact H
    · have H := H.2 hz4
      obtain ⟨hz6, H⟩ := H
      refine ok_sg (pc' := 86) (ls' := [some (.inr (.inr (some 53))), some (.inl j), some (.inl k), some (.inl t), some (.inl b), some (.inl p), none]) (st' := [.inl ((if (am_s t).toNat.testBit p.toNat = true then 1 else 0))]) (m' := m) (fun fx hfx o hk => ?_) ?_
      · refine r_ld (pc' := 80) hM_246 d_246_79 rfl rfl ?_
        refine r_stk (pc' := 81) (st' := [.inr (.inl (am_s t))]) hM_246 d_246_80 rfl rfl ?_
        refine r_ld (pc' := 83) hM_246 d_246_81 rfl rfl ?_
        refine r_cl (pc' := 86) (c := (194, 2)) (a := [.inr (.inl (am_s t)), .inl p]) (q := []) hM_246 d_246_83 rfl (by decide +kernel) hM_194 rfl rfl rfl (Nat.le_of_ble_eq_true rfl) (Nat.le_of_ble_eq_true rfl) (Or.inl rfl) (n_194  m (am_s t) p hz6) (Nat.le_of_ble_eq_true rfl) ?_
        show rn fx 4 (0, 0) 246 86 [some (.inr (.inr (some 53))), some (.inl j), some (.inl k), some (.inl t), some (.inl b), some (.inl p), none] [.inl ((if (am_s t).toNat.testBit p.toNat = true then 1 else 0))] (st0 m) o
        exact hk
      refine ok_if (pc' := 142) (pc2 := 89) hM_246 d_246_86 (by decide) rfl (fun hz7 => ?_) (fun hz7 => ?_)
      · have H := H.1 (as_iteN.mp hz7)
        refine ok_sg (pc' := 58) (ls' := [some (.inr (.inr (some 53))), some (.inl j), some (.inl k), some (.inl t), some (.inl b), some (.inl (p + 1)), none]) (st' := []) (m' := m) (fun fx hfx o hk => ?_) ?_
        · refine r_sto (pc' := 145) (ls' := [some (.inr (.inr (some 53))), some (.inl j), some (.inl k), some (.inl t), some (.inl b), some (.inl (p + 1)), none]) hM_246 d_246_142 rfl rfl ?_
          refine r_go (pc' := 58) hM_246 d_246_145 (by decide) ?_
          exact hk
        exact H
      · have H := H.2 (as_ite.mp (Decidable.not_not.mp hz7))
        obtain ⟨hz8, H⟩ := H
        refine ok_sg (pc' := 97) (ls' := [some (.inr (.inr (some 53))), some (.inl j), some (.inl k), some (.inl t), some (.inl b), some (.inl p), none]) (st' := [.inl (v_247 m j k p)]) (m' := m) (fun fx hfx o hk => ?_) ?_
        · refine r_ld (pc' := 90) hM_246 d_246_89 rfl rfl ?_
          refine r_ld (pc' := 91) hM_246 d_246_90 rfl rfl ?_
          refine r_ld (pc' := 92) hM_246 d_246_91 rfl rfl ?_
          refine r_ld (pc' := 94) hM_246 d_246_92 rfl rfl ?_
          refine r_cl (pc' := 97) (c := (247, 0)) (a := [.inr (.inr (some 53)), .inl j, .inl k, .inl p]) (q := []) hM_246 d_246_94 rfl (by decide +kernel) hM_247 rfl rfl rfl (Nat.le_of_ble_eq_true rfl) (Nat.le_of_ble_eq_true rfl) (Or.inr rfl) (c_247  m j k p hz8) (Nat.le_of_ble_eq_true rfl) ?_
          show rn fx 4 (0, 0) 246 97 [some (.inr (.inr (some 53))), some (.inl j), some (.inl k), some (.inl t), some (.inl b), some (.inl p), none] [.inl (v_247 m j k p)] (st0 m) o
          exact hk
        refine ok_if (pc' := 103) (pc2 := 100) hM_246 d_246_97 (by decide) rfl (fun hz9 => ?_) (fun hz9 => ?_)
        · have H := H.1 hz9
          obtain ⟨hz10, H⟩ := H
          refine ok_sg (pc' := 130) (ls' := [some (.inr (.inr (some 53))), some (.inl j), some (.inl k), some (.inl t), some (.inl b), some (.inl p), some (.inl (1 + (m 70 ((am_s ((4096 * (k + 1)) + (am_or t (am_shl 1 p)))).toNat))))]) (st' := [.inl b, .inl (1 + (m 70 ((am_s ((4096 * (k + 1)) + (am_or t (am_shl 1 p)))).toNat)))]) (m' := m) (fun fx hfx o hk => ?_) ?_
          · refine r_k (pc' := 104) (v := .inl 1) hM_246 d_246_103 rfl rfl ?_
            refine r_ld (pc' := 105) hM_246 d_246_104 rfl rfl ?_
            refine r_gR (pc' := 108) (v := 70) hM_246 d_246_105 rfl (by decide +kernel) ?_
            refine r_k (pc' := 111) (v := .inl 4096) hM_246 d_246_108 rfl rfl ?_
            refine r_ld (pc' := 112) hM_246 d_246_111 rfl rfl ?_
            refine r_k (pc' := 113) (v := .inl 1) hM_246 d_246_112 rfl rfl ?_
            refine r_b (pc' := 114) (z := (k + 1)) hM_246 d_246_113 rfl rfl ?_
            refine r_b (pc' := 115) (z := (4096 * (k + 1))) hM_246 d_246_114 rfl rfl ?_
            refine r_ld (pc' := 116) hM_246 d_246_115 rfl rfl ?_
            refine r_k (pc' := 117) (v := .inl 1) hM_246 d_246_116 rfl rfl ?_
            refine r_ld (pc' := 119) hM_246 d_246_117 rfl rfl ?_
            refine r_b (pc' := 120) (z := (am_shl 1 p)) hM_246 d_246_119 rfl rfl ?_
            refine r_b (pc' := 121) (z := (am_or t (am_shl 1 p))) hM_246 d_246_120 rfl rfl ?_
            refine r_b (pc' := 122) (z := ((4096 * (k + 1)) + (am_or t (am_shl 1 p)))) hM_246 d_246_121 rfl rfl ?_
            refine r_ia (pc' := 123) (n := 45056) hM_246 d_246_122 rfl rfl hz10 ?_
            refine r_b (pc' := 124) (z := (1 + (m 70 ((am_s ((4096 * (k + 1)) + (am_or t (am_shl 1 p)))).toNat)))) hM_246 d_246_123 rfl rfl ?_
            refine r_sto (pc' := 126) (ls' := [some (.inr (.inr (some 53))), some (.inl j), some (.inl k), some (.inl t), some (.inl b), some (.inl p), some (.inl (1 + (m 70 ((am_s ((4096 * (k + 1)) + (am_or t (am_shl 1 p)))).toNat))))]) hM_246 d_246_124 rfl rfl ?_
            refine r_ld (pc' := 128) hM_246 d_246_126 rfl rfl ?_
            refine r_ld (pc' := 130) hM_246 d_246_128 rfl rfl ?_
            exact hk
          refine ok_sg (pc' := 140) (ls' := [some (.inr (.inr (some 53))), some (.inl j), some (.inl k), some (.inl t), some (.inl b), some (.inl p), some (.inl (1 + (m 70 ((am_s ((4096 * (k + 1)) + (am_or t (am_shl 1 p)))).toNat))))]) (st' := [.inl (if am_s (1 + (m 70 ((am_s ((4096 * (k + 1)) + (am_or t (am_shl 1 p)))).toNat))) ≤ am_s b then b else (1 + (m 70 ((am_s ((4096 * (k + 1)) + (am_or t (am_shl 1 p)))).toNat))))]) (m' := m) (fun fx hfx o K => ?_) ?_
          · refine r_ic (pc' := 138) (pc2 := 133) hM_246 d_246_130 (by decide) rfl (fun hz11 => ?_) (fun hz11 => ?_)
            · have hz11 : am_s (1 + (m 70 ((am_s ((4096 * (k + 1)) + (am_or t (am_shl 1 p)))).toNat))) ≤ am_s b := hz11
              rw [if_pos hz11] at K
              refine r_ld (pc' := 140) hM_246 d_246_138 rfl rfl ?_
              exact K
            · have hz11 : ¬ (am_s (1 + (m 70 ((am_s ((4096 * (k + 1)) + (am_or t (am_shl 1 p)))).toNat))) ≤ am_s b) := hz11
              rw [if_neg hz11] at K
              refine r_ld (pc' := 135) hM_246 d_246_133 rfl rfl ?_
              refine r_go (pc' := 140) hM_246 d_246_135 (by decide) ?_
              exact K
          have K : ∀ y1 : Int, y1 = (if am_s (1 + (m 70 ((am_s ((4096 * (k + 1)) + (am_or t (am_shl 1 p)))).toNat))) ≤ am_s b then b else (1 + (m 70 ((am_s ((4096 * (k + 1)) + (am_or t (am_shl 1 p)))).toNat)))) → ok 4 246 140 [some (.inr (.inr (some 53))), some (.inl j), some (.inl k), some (.inl t), some (.inl b), some (.inl p), some (.inl (1 + (m 70 ((am_s ((4096 * (k + 1)) + (am_or t (am_shl 1 p)))).toNat))))] [.inl y1] m Q := by
            intro y1 hy1
            replace H := H y1 hy1
            refine ok_sg (pc' := 58) (ls' := [some (.inr (.inr (some 53))), some (.inl j), some (.inl k), some (.inl t), some (.inl y1), some (.inl (p + 1)), none]) (st' := []) (m' := m) (fun fx hfx o hk => ?_) ?_
            · refine r_sto (pc' := 142) (ls' := [some (.inr (.inr (some 53))), some (.inl j), some (.inl k), some (.inl t), some (.inl y1), some (.inl p), some (.inl (1 + (m 70 ((am_s ((4096 * (k + 1)) + (am_or t (am_shl 1 p)))).toNat))))]) hM_246 d_246_140 rfl rfl ?_
              refine r_sto (pc' := 145) (ls' := [some (.inr (.inr (some 53))), some (.inl j), some (.inl k), some (.inl t), some (.inl y1), some (.inl (p + 1)), some (.inl (1 + (m 70 ((am_s ((4096 * (k + 1)) + (am_or t (am_shl 1 p)))).toNat))))]) hM_246 d_246_142 rfl rfl ?_
              refine r_go (pc' := 58) hM_246 d_246_145 (by decide) ?_
              refine rn_wk (a := [some (.inr (.inr (some 53))), some (.inl j), some (.inl k), some (.inl t), some (.inl y1), some (.inl (p + 1)), none]) (by simp only [am_le, and_self]) ?_
              exact hk
            exact H
          exact K _ rfl
        · have H := H.2 (Decidable.not_not.mp hz9)
          refine ok_sg (pc' := 58) (ls' := [some (.inr (.inr (some 53))), some (.inl j), some (.inl k), some (.inl t), some (.inl b), some (.inl (p + 1)), none]) (st' := []) (m' := m) (fun fx hfx o hk => ?_) ?_
          · refine r_go (pc' := 142) hM_246 d_246_100 (by decide) ?_
            refine r_sto (pc' := 145) (ls' := [some (.inr (.inr (some 53))), some (.inl j), some (.inl k), some (.inl t), some (.inl b), some (.inl (p + 1)), none]) hM_246 d_246_142 rfl rfl ?_
            refine r_go (pc' := 58) hM_246 d_246_145 (by decide) ?_
            exact hk
          exact H
theorem u_246_13 {Q : List am_V → am_M → Prop} {m : am_M} {j : Int} {k : Int} {t : Int}  (H : ((am_s (am_shl 1 (m 54 0)) ≤ am_s t) → ok 4 246 7 [some (.inr (.inr (some 53))), some (.inl j), some (.inl (k + (-1))), none, none, none, none] [] m Q) ∧ ((¬ (am_s (am_shl 1 (m 54 0)) ≤ am_s t)) → (0 ≤ am_s j ∧ am_s j < (4 : Nat)) ∧ (((¬ am_s k = am_s (m 74 ((am_s j).toNat))) → (0 ≤ am_s ((4096 * (k + 1)) + t) ∧ am_s ((4096 * (k + 1)) + t) < (45056 : Nat))) ∧ (∀ y1 : Int, y1 = (if ¬ am_s k = am_s (m 74 ((am_s j).toNat)) then (m 70 ((am_s ((4096 * (k + 1)) + t)).toNat)) else 0) → ok 4 246 58 [some (.inr (.inr (some 53))), some (.inl j), some (.inl k), some (.inl t), some (.inl y1), some (.inl 0), none] [] m Q)))) : ok 4 246 13 [some (.inr (.inr (some 53))), some (.inl j), some (.inl k), some (.inl t), none, none, none] [] m Q := by
  refine ok_sg (pc' := 22) (ls' := [some (.inr (.inr (some 53))), some (.inl j), some (.inl k), some (.inl t), none, none, none]) (st' := [.inl (am_shl 1 (m 54 0)), .inl t]) (m' := m) (fun fx hfx o hk => ?_) ?_
  · refine r_ld (pc' := 14) hM_246 d_246_13 rfl rfl ?_
    refine r_k (pc' := 15) (v := .inl 1) hM_246 d_246_14 rfl rfl ?_
    refine r_ld (pc' := 16) hM_246 d_246_15 rfl rfl ?_
    refine r_gR (pc' := 19) (v := 54) hM_246 d_246_16 rfl (by decide +kernel) ?_
    refine r_k (pc' := 20) (v := .inl 0) hM_246 d_246_19 rfl rfl ?_
    refine r_iae (pc' := 21) (n := 168) (z := (m 54 0)) hM_246 d_246_20 rfl rfl (by decide) (by rw [show (am_s 0).toNat = 0 by decide]) ?_
    refine r_b (pc' := 22) (z := (am_shl 1 (m 54 0))) hM_246 d_246_21 rfl rfl ?_
    exact hk
  refine ok_ic (pc' := 168) (pc2 := 25) hM_246 d_246_22 (by decide) rfl (fun hz1 => ?_) (fun hz1 => ?_)
  · have H := H.1 hz1
    refine ok_sg (pc' := 7) (ls' := [some (.inr (.inr (some 53))), some (.inl j), some (.inl (k + (-1))), none, none, none, none]) (st' := []) (m' := m) (fun fx hfx o hk => ?_) ?_
    · refine r_sto (pc' := 171) (ls' := [some (.inr (.inr (some 53))), some (.inl j), some (.inl (k + (-1))), some (.inl t), none, none, none]) hM_246 d_246_168 rfl rfl ?_
      refine r_go (pc' := 7) hM_246 d_246_171 (by decide) ?_
      refine rn_wk (a := [some (.inr (.inr (some 53))), some (.inl j), some (.inl (k + (-1))), none, none, none, none]) (by simp only [am_le, and_self]) ?_
      exact hk
    exact H
  · have H := H.2 hz1
    obtain ⟨hz2, H⟩ := H
    obtain ⟨hz4, H⟩ := H
    refine ok_sg (pc' := 32) (ls' := [some (.inr (.inr (some 53))), some (.inl j), some (.inl k), some (.inl t), none, none, none]) (st' := [.inl (m 74 ((am_s j).toNat)), .inl k]) (m' := m) (fun fx hfx o hk => ?_) ?_
    · refine r_ld (pc' := 26) hM_246 d_246_25 rfl rfl ?_
      refine r_ld (pc' := 27) hM_246 d_246_26 rfl rfl ?_
      refine r_gR (pc' := 30) (v := 74) hM_246 d_246_27 rfl (by decide +kernel) ?_
      refine r_ld (pc' := 31) hM_246 d_246_30 rfl rfl ?_
      refine r_ia (pc' := 32) (n := 4) hM_246 d_246_31 rfl rfl hz2 ?_
      exact hk
    refine ok_sg (pc' := 53) (ls' := [some (.inr (.inr (some 53))), some (.inl j), some (.inl k), some (.inl t), none, none, none]) (st' := [.inl (if ¬ am_s k = am_s (m 74 ((am_s j).toNat)) then (m 70 ((am_s ((4096 * (k + 1)) + t)).toNat)) else 0)]) (m' := m) (fun fx hfx o K => ?_) ?_
    · refine r_ic (pc' := 39) (pc2 := 35) hM_246 d_246_32 (by decide) rfl (fun hz3 => ?_) (fun hz3 => ?_)
      · have hz3 : ¬ am_s k = am_s (m 74 ((am_s j).toNat)) := hz3
        rw [if_pos hz3] at K
        refine r_ld (pc' := 40) hM_246 d_246_39 rfl rfl ?_
        refine r_gR (pc' := 43) (v := 70) hM_246 d_246_40 rfl (by decide +kernel) ?_
        refine r_k (pc' := 46) (v := .inl 4096) hM_246 d_246_43 rfl rfl ?_
        refine r_ld (pc' := 47) hM_246 d_246_46 rfl rfl ?_
        refine r_k (pc' := 48) (v := .inl 1) hM_246 d_246_47 rfl rfl ?_
        refine r_b (pc' := 49) (z := (k + 1)) hM_246 d_246_48 rfl rfl ?_
        refine r_b (pc' := 50) (z := (4096 * (k + 1))) hM_246 d_246_49 rfl rfl ?_
        refine r_ld (pc' := 51) hM_246 d_246_50 rfl rfl ?_
        refine r_b (pc' := 52) (z := ((4096 * (k + 1)) + t)) hM_246 d_246_51 rfl rfl ?_
        refine r_ia (pc' := 53) (n := 45056) hM_246 d_246_52 rfl rfl (hz4 hz3) ?_
        exact K
      · have hz3 : ¬ (¬ am_s k = am_s (m 74 ((am_s j).toNat))) := hz3
        rw [if_neg hz3] at K
        refine r_k (pc' := 36) (v := .inl 0) hM_246 d_246_35 rfl rfl ?_
        refine r_go (pc' := 53) hM_246 d_246_36 (by decide) ?_
        exact K
    have K : ∀ y1 : Int, y1 = (if ¬ am_s k = am_s (m 74 ((am_s j).toNat)) then (m 70 ((am_s ((4096 * (k + 1)) + t)).toNat)) else 0) → ok 4 246 53 [some (.inr (.inr (some 53))), some (.inl j), some (.inl k), some (.inl t), none, none, none] [.inl y1] m Q := by
      intro y1 hy1
      replace H := H y1 hy1
      refine ok_sg (pc' := 58) (ls' := [some (.inr (.inr (some 53))), some (.inl j), some (.inl k), some (.inl t), some (.inl y1), some (.inl 0), none]) (st' := []) (m' := m) (fun fx hfx o hk => ?_) ?_
      · refine r_sto (pc' := 55) (ls' := [some (.inr (.inr (some 53))), some (.inl j), some (.inl k), some (.inl t), some (.inl y1), none, none]) hM_246 d_246_53 rfl rfl ?_
        refine r_k (pc' := 56) (v := .inl 0) hM_246 d_246_55 rfl rfl ?_
        refine r_sto (pc' := 58) (ls' := [some (.inr (.inr (some 53))), some (.inl j), some (.inl k), some (.inl t), some (.inl y1), some (.inl 0), none]) hM_246 d_246_56 rfl rfl ?_
        exact hk
      exact H
    exact K _ rfl
theorem u_246_7 {Q : List am_V → am_M → Prop} {m : am_M} {j : Int} {k : Int}  (H : ((am_s k < 0) → Q [] m) ∧ ((¬ (am_s k < 0)) → ok 4 246 13 [some (.inr (.inr (some 53))), some (.inl j), some (.inl k), some (.inl 0), none, none, none] [] m Q)) : ok 4 246 7 [some (.inr (.inr (some 53))), some (.inl j), some (.inl k), none, none, none, none] [] m Q := by
  refine ok_sg (pc' := 8) (ls' := [some (.inr (.inr (some 53))), some (.inl j), some (.inl k), none, none, none, none]) (st' := [.inl k]) (m' := m) (fun fx hfx o hk => ?_) ?_
  · refine r_ld (pc' := 8) hM_246 d_246_7 rfl rfl ?_
    exact hk
  refine ok_if (pc' := 174) (pc2 := 11) hM_246 d_246_8 (by decide) rfl (fun hz1 => ?_) (fun hz1 => ?_)
  · have H := H.1 hz1
    exact ok_rt (fun fx _ => rt_v hM_246 d_246_174 rfl) H
  · have H := H.2 hz1
    refine ok_sg (pc' := 13) (ls' := [some (.inr (.inr (some 53))), some (.inl j), some (.inl k), some (.inl 0), none, none, none]) (st' := []) (m' := m) (fun fx hfx o hk => ?_) ?_
    · refine r_k (pc' := 12) (v := .inl 0) hM_246 d_246_11 rfl rfl ?_
      refine r_sto (pc' := 13) (ls' := [some (.inr (.inr (some 53))), some (.inl j), some (.inl k), some (.inl 0), none, none, none]) hM_246 d_246_12 rfl rfl ?_
      exact hk
    exact H
theorem u_246_0 {Q : List am_V → am_M → Prop} {m : am_M} {j : Int}  (H : (0 ≤ am_s j ∧ am_s j < (4 : Nat)) ∧ (ok 4 246 7 [some (.inr (.inr (some 53))), some (.inl j), some (.inl (m 74 ((am_s j).toNat))), none, none, none, none] [] m Q)) : ok 4 246 0 [some (.inr (.inr (some 53))), some (.inl j), none, none, none, none, none] [] m Q := by
  obtain ⟨hz1, H⟩ := H
  refine ok_sg (pc' := 7) (ls' := [some (.inr (.inr (some 53))), some (.inl j), some (.inl (m 74 ((am_s j).toNat))), none, none, none, none]) (st' := []) (m' := m) (fun fx hfx o hk => ?_) ?_
  · refine r_ld (pc' := 1) hM_246 d_246_0 rfl rfl ?_
    refine r_gR (pc' := 4) (v := 74) hM_246 d_246_1 rfl (by decide +kernel) ?_
    refine r_ld (pc' := 5) hM_246 d_246_4 rfl rfl ?_
    refine r_ia (pc' := 6) (n := 4) hM_246 d_246_5 rfl rfl hz1 ?_
    refine r_sto (pc' := 7) (ls' := [some (.inr (.inr (some 53))), some (.inl j), some (.inl (m 74 ((am_s j).toNat))), none, none, none, none]) hM_246 d_246_6 rfl rfl ?_
    exact hk
  exact H
theorem z_246   (m : am_M) (j : Int) (hq : (0 ≤ j ∧ j < 4) ∧ OPM m j.toNat) : ok 4 246 0 (am_ent 7 [.inr (.inr (some 53)), .inl j]) [] m (fun rr m' => rr = [] ∧ (∀ k T : Nat, (k : Int) ≤ m 74 j.toNat → T < 2 ^ (m 54 0).toNat → m' 70 (4096 * k + T) = ((Mv (sdp (nv (m 54))) (rpn (nv (m 54))) (m 54 0).toNat (rwf m j.toNat) (m 74 j.toNat).toNat k T : Nat) : Int)) ∧ ∀ a, a ≠ 70 → m' a = m a) := by
  show ok 4 246 0 [some (.inr (.inr (some 53))), some (.inl j), none, none, none, none, none] [] m _
  obtain ⟨hj, hO⟩ := hq
  obtain ⟨J, rfl⟩ : ∃ J : Nat, j = (J : Int) := ⟨j.toNat, by omega⟩
  rw [Int.toNat_natCast] at hO ⊢
  obtain ⟨hw, hs, hR, hJ, h10, hnn⟩ := id hO
  have hN := hw.1
  obtain ⟨g1, g2, g3⟩ := hR J hJ
  obtain ⟨n, hnv⟩ : ∃ n : Nat, m 74 J = (n : Int) := ⟨(m 74 J).toNat, by omega⟩
  obtain ⟨N, hNv⟩ : ∃ N : Nat, m 54 0 = (N : Int) := ⟨(m 54 0).toNat, by omega⟩
  rw [hnv, hNv]
  simp only [Int.toNat_natCast]
  have hp12 : 2 ^ N ≤ 2 ^ 12 := Nat.pow_le_pow_right (by decide) (by omega)
  have e2N : am_s (am_shl 1 (m 54 0)) = ((2 ^ N : Nat) : Int) := by
    rw [hNv, bx_shl1 N (by omega)]
    generalize 2 ^ N = z at *
    exact am_s_id (by omega) (by omega)
  have eJ : am_s (J : Int) = (J : Int) := am_s_id (by omega) (by omega)
  have en : am_s (n : Int) = (n : Int) := am_s_id (by omega) (by omega)
  have eN : am_s (N : Int) = (N : Int) := am_s_id (by omega) (by omega)
  have hrp : ∀ p, p < N → sdp (nv (m 54)) p = true → 0 ≤ rpn (nv (m 54)) p := fun p hp hs => (OPM_rp hO (by omega) hs).1
  have hMl : ∀ k T, Mv (sdp (nv (m 54))) (rpn (nv (m 54))) N (rwf m J) n k T ≤ n := fun k T => IM_le hrp (Mv_ok _ _ _ _ _ _ _)
  have hMn : ∀ T, Mv (sdp (nv (m 54))) (rpn (nv (m 54))) N (rwf m J) n n T = 0 := fun T => Mv_eq (IM_n hrp)
  have hnn' : ∀ k, k < n → 0 ≤ rwf m J k := fun k hk => hnn k (by omega)
  have h247 : ∀ M : am_M, (∀ a, a ≠ 70 → M a = m a) → ∀ p k : Nat, p < N → k < n → q_247 M (J : Int) (k : Int) (p : Int) ∧ (am_s (v_247 M (J : Int) (k : Int) (p : Int)) = 0 ↔ ¬ (sdp (nv (m 54)) p = true ∧ rpn (nv (m 54)) p ≤ rwf m J k)) := by
    intro M hM p k hp hk
    have f54 : M 54 = m 54 := hM 54 (by decide)
    have f73 : M 73 = m 73 := hM 73 (by decide)
    have f74 : M 74 = m 74 := hM 74 (by decide)
    have f75 : M 75 = m 75 := hM 75 (by decide)
    have erw : rwf M J = rwf m J := by unfold rwf; rw [f75]
    have hOM : OPM M J := by
      unfold OPM at hO ⊢
      unfold RWM at hO ⊢
      rw [f54, f73, f74, f75, erw]
      exact hO
    have := v247 hOM (p := p) (k := k) (by rw [f54, hNv]; omega) (by rw [f74, hnv]; omega)
    rw [f54, erw] at this
    exact this
  generalize hSv : sdp (nv (m 54)) = S at *
  generalize hRv : rpn (nv (m 54)) = R at *
  generalize hwv : rwf m J = w at *
  generalize hTv : 2 ^ N = B at *
  refine u_246_0 ?_
  rw [eJ, Int.toNat_natCast, hnv]
  refine ⟨by omega, ?_⟩
  have key := ok_for (d := 4) (mi := 246) (pc := 7) (Q := fun rr m' => rr = [] ∧ ((∀ k T : Nat, (k : Int) ≤ (n : Int) → T < B → m' 70 (4096 * k + T) = ((Mv S R N w n k T : Nat) : Int)) ∧ ∀ a, a ≠ 70 → m' a = m a)) (σ := Unit) (fun i _ => [some (.inr (.inr (some 53))), some (.inl (J : Int)), some (.inl ((n : Int) - (i : Int))), none, none, none, none]) (fun i _ M => (∀ k T : Nat, k ≤ n → n < k + i → T < B → M 70 (4096 * k + T) = ((Mv S R N w n k T : Nat) : Int)) ∧ ∀ a, a ≠ 70 → M a = m a) (n + 1) ?_ ?_ () m ⟨fun k T h1 h2 => by omega, fun _ _ => rfl⟩
  · simp only [Int.natCast_zero, Int.sub_zero] at key
    exact key
  · rintro i hi - M ⟨h1, h2⟩ IH
    obtain ⟨k, hk⟩ : ∃ k : Nat, (n : Int) - (i : Int) = (k : Int) := ⟨n - i, by omega⟩
    rw [hk]
    refine u_246_7 ?_
    rw [am_s_id (z := (k : Int)) (by omega) (by omega)]
    refine ⟨fun q => by omega, fun _ => ?_⟩
    have key2 := ok_for (d := 4) (mi := 246) (pc := 13) (Q := fun rr m' => rr = [] ∧ ((∀ k T : Nat, (k : Int) ≤ (n : Int) → T < B → m' 70 (4096 * k + T) = ((Mv S R N w n k T : Nat) : Int)) ∧ ∀ a, a ≠ 70 → m' a = m a)) (σ := Unit) (fun t _ => [some (.inr (.inr (some 53))), some (.inl (J : Int)), some (.inl (k : Int)), some (.inl (t : Int)), none, none, none]) (fun t _ M => (∀ x T : Nat, x ≤ n → (k < x ∨ (x = k ∧ T < t)) → T < B → M 70 (4096 * x + T) = ((Mv S R N w n x T : Nat) : Int)) ∧ ∀ a, a ≠ 70 → M a = m a) B ?_ ?_ () M ⟨fun x T q1 q2 q3 => h1 x T q1 (by omega) q3, h2⟩
    · exact key2
    · rintro t ht - M1 ⟨k1, k2⟩ IH2
      have ei : am_s (4096 * (k : Int) + (t : Int)) = 4096 * (k : Int) + (t : Int) := am_s_id (by omega) (by omega)
      have ni : (4096 * (k : Int) + (t : Int)).toNat = 4096 * k + t := by omega
      have ei1 : am_s (4096 * ((k : Int) + 1) + (t : Int)) = 4096 * ((k : Int) + 1) + (t : Int) := am_s_id (by omega) (by omega)
      have ni1 : (4096 * ((k : Int) + 1) + (t : Int)).toNat = 4096 * (k + 1) + t := by omega
      -- this number laid
      have lay : ok 4 246 13 [some (.inr (.inr (some 53))), some (.inl (J : Int)), some (.inl (k : Int)), some (.inl ((t : Int) + 1)), none, none, none] [] (mu M1 70 (4096 * k + t) ((Mv S R N w n k t : Nat) : Int)) (fun rr m' => rr = [] ∧ ((∀ k T : Nat, (k : Int) ≤ (n : Int) → T < B → m' 70 (4096 * k + T) = ((Mv S R N w n k T : Nat) : Int)) ∧ ∀ a, a ≠ 70 → m' a = m a)) := by
        refine IH2 () _ ⟨fun x T q1 q2 q3 => ?_, fun a ha => by rw [mu_rf ha]; exact k2 a ha⟩
        rw [mu_if]
        by_cases hh : x = k ∧ T = t
        · rw [if_pos (by omega), hh.1, hh.2]
        · rw [if_neg (by omega)]
          exact k1 x T q1 (by omega) q3
      refine u_246_13 ?_
      rw [k2 54 (by decide), e2N, am_s_id (z := (t : Int)) (by omega) (by omega), eJ, Int.toNat_natCast, k2 74 (by decide), hnv, en, am_s_id (z := (k : Int)) (by omega) (by omega), ei1, ni1]
      refine ⟨fun q => by omega, fun _ => ⟨by omega, fun q => by omega, fun y hy => ?_⟩⟩
      by_cases hkn : k = n
      · rw [if_neg (by omega)] at hy
        rw [hy]
        refine u_246_58 ?_
        rw [k2 54 (by decide), k2 74 (by decide), hNv, eN, eJ, Int.toNat_natCast, hnv, en, am_s_id (z := (k : Int)) (by omega) (by omega), ei, ni]
        have e0 : ((Mv S R N w n k t : Nat) : Int) = 0 := by rw [hkn, hMn]; rfl
        rw [e0] at lay
        exact ⟨fun _ => ⟨by omega, lay⟩, fun _ => ⟨by omega, fun _ => ⟨by omega, lay⟩, fun q => by omega⟩⟩
      · rw [if_pos (by omega), k1 (k + 1) t (by omega) (by omega) ht] at hy
        rw [hy]
        have hkl : k < n := by omega
        have key3 := ok_for (d := 4) (mi := 246) (pc := 58) (Q := fun rr m' => rr = [] ∧ ((∀ k T : Nat, (k : Int) ≤ (n : Int) → T < B → m' 70 (4096 * k + T) = ((Mv S R N w n k T : Nat) : Int)) ∧ ∀ a, a ≠ 70 → m' a = m a)) (σ := Nat) (fun p b => [some (.inr (.inr (some 53))), some (.inl (J : Int)), some (.inl (k : Int)), some (.inl (t : Int)), some (.inl (b : Int)), some (.inl (p : Int)), none]) (fun p b M' => M' = M1 ∧ b ≤ n + 1 ∧ Mv S R N w n (k + 1) t ≤ b ∧ (∀ q, q < p → S q = true → t.testBit q = false → R q ≤ w k → 1 + Mv S R N w n (k + 1) (t ||| 2 ^ q) ≤ b) ∧ ∀ x : Int, -1 ≤ x → b ≤ cT S R N t x + uK w n k x) N ?_ ?_ (Mv S R N w n (k + 1) t) M1 ⟨rfl, by have := hMl (k + 1) t; omega, Nat.le_refl _, fun q h => absurd h (Nat.not_lt_zero _), IM_lb hkl (Mv_ok _ _ _ _ _ _ _)⟩
        · exact key3
        · rintro p hp b M' ⟨hM, b0, b1, b2, b3⟩ IH3
          rw [hM]
          obtain ⟨z1, z2⟩ := h247 M1 k2 p k hp hkl
          have hpl : 2 ^ p < B := by rw [← hTv]; exact Nat.pow_lt_pow_right (by decide) hp
          have hor : am_or (t : Int) (am_shl 1 (p : Int)) = ((t ||| 2 ^ p : Nat) : Int) := by
            rw [bx_shl1 p (by omega)]
            exact bx_or12 (by omega) (by omega)
          have horB : t ||| 2 ^ p < B := by
            rw [← hTv] at ht hpl ⊢
            exact Nat.or_lt_two_pow ht hpl
          have eo : am_s (4096 * ((k : Int) + 1) + ((t ||| 2 ^ p : Nat) : Int)) = 4096 * ((k : Int) + 1) + ((t ||| 2 ^ p : Nat) : Int) := am_s_id (by omega) (by omega)
          have no : (4096 * ((k : Int) + 1) + ((t ||| 2 ^ p : Nat) : Int)).toNat = 4096 * (k + 1) + (t ||| 2 ^ p) := by omega
          have e70 := k1 (k + 1) (t ||| 2 ^ p) (by omega) (by omega) horB
          have hMo := hMl (k + 1) (t ||| 2 ^ p)
          have skip : ¬ (S p = true ∧ t.testBit p = false ∧ R p ≤ w k) → ok 4 246 58 [some (.inr (.inr (some 53))), some (.inl (J : Int)), some (.inl (k : Int)), some (.inl (t : Int)), some (.inl (b : Int)), some (.inl ((p : Int) + 1)), none] [] M1 (fun rr m' => rr = [] ∧ ((∀ k T : Nat, (k : Int) ≤ (n : Int) → T < B → m' 70 (4096 * k + T) = ((Mv S R N w n k T : Nat) : Int)) ∧ ∀ a, a ≠ 70 → m' a = m a)) := by
            intro hn
            refine IH3 b M1 ⟨rfl, b0, b1, fun q hq c1 c2 c3 => ?_, b3⟩
            by_cases hh : q = p
            · rw [hh] at c1 c2 c3
              exact absurd ⟨c1, c2, c3⟩ hn
            · exact b2 q (by omega) c1 c2 c3
          refine u_246_58 ?_
          rw [k2 54 (by decide), k2 74 (by decide), hNv, eN, eJ, Int.toNat_natCast, hnv, en, am_s_id (z := (k : Int)) (by omega) (by omega), am_s_id (z := (p : Int)) (by omega) (by omega), am_s_id (z := (t : Int)) (by omega) (by omega), Int.toNat_natCast, Int.toNat_natCast, z2, hor, eo, no, e70, am_s_id (z := (b : Int)) (by omega) (by omega), am_s_id (z := 1 + ((Mv S R N w n (k + 1) (t ||| 2 ^ p) : Nat) : Int)) (by omega) (by omega)]
          refine ⟨fun q => by omega, fun _ => ⟨by omega, fun q => by omega, fun _ => ⟨by omega, fun q => skip fun h => ?_, fun q => ⟨z1, fun q2 => ⟨by omega, fun y1 hy1 => ?_⟩, fun q2 => skip fun h => q2 ⟨h.1, h.2.2⟩⟩⟩⟩⟩
          · rw [q] at h
            exact absurd h.2.1 (by decide)
          · have q2' := Decidable.not_not.mp q2
            have hb : t.testBit p = false := by
              cases h : t.testBit p
              · rfl
              · exact absurd h q
            have hlb := IM_lb2 hkl hp q2'.1 hb q2'.2 (Mv_ok S R N w n (k + 1) (t ||| 2 ^ p))
            by_cases hc : 1 + Mv S R N w n (k + 1) (t ||| 2 ^ p) ≤ b
            · rw [if_pos (by omega)] at hy1
              rw [hy1]
              refine IH3 b M1 ⟨rfl, b0, b1, fun q hq c1 c2 c3 => ?_, b3⟩
              by_cases hh : q = p
              · rw [hh]; exact hc
              · exact b2 q (by omega) c1 c2 c3
            · rw [if_neg (by omega)] at hy1
              rw [hy1]
              refine IH3 (1 + Mv S R N w n (k + 1) (t ||| 2 ^ p)) M1 ⟨rfl, by omega, by omega, fun q hq c1 c2 c3 => ?_, fun x hx => by have := hlb x hx; omega⟩
              by_cases hh : q = p
              · rw [hh]; exact Nat.le_refl _
              · have := b2 q (by omega) c1 c2 c3
                omega
        · rintro b M' ⟨hM, b0, b1, b2, b3⟩
          rw [hM]
          have hb : Mv S R N w n k t = b := Mv_eq (IM_step hkl (hnn' k hkl) (Mv_ok S R N w n (k + 1) t) b1 (fun p h' p1 p2 p3 p4 hh => by rw [← Mv_eq hh]; exact b2 p p1 p2 p3 p4) b3)
          rw [hb] at lay
          refine u_246_58 ?_
          rw [k2 54 (by decide), hNv, eN, ei, ni]
          exact ⟨fun _ => ⟨by omega, lay⟩, fun q => by omega⟩
    · rintro - M1 ⟨k1, k2⟩
      have := IH () M1 ⟨fun x T q1 q2 q3 => k1 x T q1 (by omega) q3, k2⟩
      rw [show (n : Int) - ((i + 1 : Nat) : Int) = (k : Int) + (-1) by omega] at this
      refine u_246_13 ?_
      rw [k2 54 (by decide), e2N, am_s_id (z := (B : Int)) (by omega) (by omega)]
      exact ⟨fun _ => this, fun q => by omega⟩
  · rintro - M ⟨h1, h2⟩
    refine u_246_7 ?_
    rw [am_s_id (z := (n : Int) - ((n + 1 : Nat) : Int)) (by omega) (by omega)]
    exact ⟨fun _ => ⟨rfl, fun k T q1 q2 => h1 k T (by omega) (by omega) q2, h2⟩, fun q => by omega⟩
theorem u_245_147 {Q : List am_V → am_M → Prop} {m : am_M} {j : Int} {w : Int} {t : Int} {k : Int} {x : Int} {p : Int}  (H : ((am_s p < 0) → ((¬ am_s k = am_s (w - 10)) → ∀ y1 : Int, y1 = (if ¬ am_s x = (-1) then (am_shl 1 x) else 0) → ok 5 245 123 [some (.inr (.inr (some 53))), some (.inl j), some (.inl w), some (.inl (am_or t y1)), some (.inl (k + 1)), none, none] [] m Q) ∧ ((am_s k = am_s (w - 10)) → Q [.inl x] m)) ∧ ((¬ (am_s p < 0)) → ((0 ≤ (am_s t) ∧ (am_s t) < 2147483648) ∧ 0 ≤ p ∧ p < 32) ∧ ((((am_s t).toNat.testBit p.toNat = true) → ok 5 245 147 [some (.inr (.inr (some 53))), some (.inl j), some (.inl w), some (.inl t), some (.inl k), some (.inl x), some (.inl (p + (-1)))] [] m Q) ∧ ((¬ ((am_s t).toNat.testBit p.toNat = true)) → (q_247 m j k p) ∧ (((am_s (v_247 m j k p) = 0) → ok 5 245 147 [some (.inr (.inr (some 53))), some (.inl j), some (.inl w), some (.inl t), some (.inl k), some (.inl x), some (.inl (p + (-1)))] [] m Q) ∧ ((¬ (am_s (v_247 m j k p) = 0)) → (0 ≤ am_s ((4096 * (k + 1)) + (am_or t (am_shl 1 p))) ∧ am_s ((4096 * (k + 1)) + (am_or t (am_shl 1 p))) < (45056 : Nat)) ∧ ((0 ≤ am_s ((4096 * k) + t) ∧ am_s ((4096 * k) + t) < (45056 : Nat)) ∧ (((¬ am_s (1 + (m 70 ((am_s ((4096 * (k + 1)) + (am_or t (am_shl 1 p)))).toNat))) = am_s (m 70 ((am_s ((4096 * k) + t)).toNat))) → ok 5 245 147 [some (.inr (.inr (some 53))), some (.inl j), some (.inl w), some (.inl t), some (.inl k), some (.inl x), some (.inl (p + (-1)))] [] m Q) ∧ ((am_s (1 + (m 70 ((am_s ((4096 * (k + 1)) + (am_or t (am_shl 1 p)))).toNat))) = am_s (m 70 ((am_s ((4096 * k) + t)).toNat))) → ok 5 245 147 [some (.inr (.inr (some 53))), some (.inl j), some (.inl w), some (.inl t), some (.inl k), some (.inl p), some (.inl (p + (-1)))] [] m Q))))))))) : ok 5 245 147 [some (.inr (.inr (some 53))), some (.inl j), some (.inl w), some (.inl t), some (.inl k), some (.inl x), some (.inl p)] [] m Q := by
  refine ok_sg (pc' := 149) (ls' := [some (.inr (.inr (some 53))), some (.inl j), some (.inl w), some (.inl t), some (.inl k), some (.inl x), some (.inl p)]) (st' := [.inl p]) (m' := m) (fun fx hfx o hk => ?_) ?_
  · refine r_ld (pc' := 149) hM_245 d_245_147 rfl rfl ?_
    exact hk
  refine ok_if (pc' := 222) (pc2 := 152) hM_245 d_245_149 (by decide) rfl (fun hz1 => ?_) (fun hz1 => ?_)
  · have H := H.1 hz1
    refine ok_sg (pc' := 228) (ls' := [some (.inr (.inr (some 53))), some (.inl j), some (.inl w), some (.inl t), some (.inl k), some (.inl x), some (.inl p)]) (st' := [.inl (w - 10), .inl k]) (m' := m) (fun fx hfx o hk => ?_) ?_
    · refine r_ld (pc' := 224) hM_245 d_245_222 rfl rfl ?_
      refine r_ld (pc' := 225) hM_245 d_245_224 rfl rfl ?_
      refine r_k (pc' := 227) (v := .inl 10) hM_245 d_245_225 rfl rfl ?_
      refine r_b (pc' := 228) (z := (w - 10)) hM_245 d_245_227 rfl rfl ?_
      exact hk
    refine ok_ic (pc' := 234) (pc2 := 231) hM_245 d_245_228 (by decide) rfl (fun hz2 => ?_) (fun hz2 => ?_)
    · have H := H.1 hz2
      refine ok_sg (pc' := 238) (ls' := [some (.inr (.inr (some 53))), some (.inl j), some (.inl w), some (.inl t), some (.inl k), some (.inl x), some (.inl p)]) (st' := [.inl (-1), .inl x, .inl t]) (m' := m) (fun fx hfx o hk => ?_) ?_
      · refine r_ld (pc' := 235) hM_245 d_245_234 rfl rfl ?_
        refine r_ld (pc' := 237) hM_245 d_245_235 rfl rfl ?_
        refine r_k (pc' := 238) (v := .inl (-1)) hM_245 d_245_237 rfl rfl ?_
        exact hk
      refine ok_sg (pc' := 249) (ls' := [some (.inr (.inr (some 53))), some (.inl j), some (.inl w), some (.inl t), some (.inl k), some (.inl x), some (.inl p)]) (st' := [.inl (if ¬ am_s x = (-1) then (am_shl 1 x) else 0), .inl t]) (m' := m) (fun fx hfx o K => ?_) ?_
      · refine r_ic (pc' := 245) (pc2 := 241) hM_245 d_245_238 (by decide) rfl (fun hz3 => ?_) (fun hz3 => ?_)
        · have hz3 : ¬ am_s x = (-1) := hz3
          rw [if_pos hz3] at K
          refine r_k (pc' := 246) (v := .inl 1) hM_245 d_245_245 rfl rfl ?_
          refine r_ld (pc' := 248) hM_245 d_245_246 rfl rfl ?_
          refine r_b (pc' := 249) (z := (am_shl 1 x)) hM_245 d_245_248 rfl rfl ?_
          exact K
        · have hz3 : ¬ (¬ am_s x = (-1)) := hz3
          rw [if_neg hz3] at K
          refine r_k (pc' := 242) (v := .inl 0) hM_245 d_245_241 rfl rfl ?_
          refine r_go (pc' := 249) hM_245 d_245_242 (by decide) ?_
          exact K
      have K : ∀ y1 : Int, y1 = (if ¬ am_s x = (-1) then (am_shl 1 x) else 0) → ok 5 245 249 [some (.inr (.inr (some 53))), some (.inl j), some (.inl w), some (.inl t), some (.inl k), some (.inl x), some (.inl p)] [.inl y1, .inl t] m Q := by
        intro y1 hy1
        replace H := H y1 hy1
        refine ok_sg (pc' := 123) (ls' := [some (.inr (.inr (some 53))), some (.inl j), some (.inl w), some (.inl (am_or t y1)), some (.inl (k + 1)), none, none]) (st' := []) (m' := m) (fun fx hfx o hk => ?_) ?_
        · refine r_b (pc' := 250) (z := (am_or t y1)) hM_245 d_245_249 rfl rfl ?_
          refine r_sto (pc' := 251) (ls' := [some (.inr (.inr (some 53))), some (.inl j), some (.inl w), some (.inl (am_or t y1)), some (.inl k), some (.inl x), some (.inl p)]) hM_245 d_245_250 rfl rfl ?_
          refine r_sto (pc' := 254) (ls' := [some (.inr (.inr (some 53))), some (.inl j), some (.inl w), some (.inl (am_or t y1)), some (.inl (k + 1)), some (.inl x), some (.inl p)]) hM_245 d_245_251 rfl rfl ?_
          refine r_go (pc' := 123) hM_245 d_245_254 (by decide) ?_
          refine rn_wk (a := [some (.inr (.inr (some 53))), some (.inl j), some (.inl w), some (.inl (am_or t y1)), some (.inl (k + 1)), none, none]) (by simp only [am_le, and_self]) ?_
          exact hk
        exact H
      exact K _ rfl
    · have H := H.2 (Decidable.not_not.mp hz2)
      refine ok_sg (pc' := 233) (ls' := [some (.inr (.inr (some 53))), some (.inl j), some (.inl w), some (.inl t), some (.inl k), some (.inl x), some (.inl p)]) (st' := [.inl x]) (m' := m) (fun fx hfx o hk => ?_) ?_
      · refine r_ld (pc' := 233) hM_245 d_245_231 rfl rfl ?_
        exact hk
      exact ok_rt (fun fx _ => rt_i hM_245 d_245_233 rfl) H
  · have H := H.2 hz1
    obtain ⟨hz4, H⟩ := H
    refine ok_sg (pc' := 159) (ls' := [some (.inr (.inr (some 53))), some (.inl j), some (.inl w), some (.inl t), some (.inl k), some (.inl x), some (.inl p)]) (st' := [.inl ((if (am_s t).toNat.testBit p.toNat = true then 1 else 0))]) (m' := m) (fun fx hfx o hk => ?_) ?_
    · refine r_ld (pc' := 153) hM_245 d_245_152 rfl rfl ?_
      refine r_stk (pc' := 154) (st' := [.inr (.inl (am_s t))]) hM_245 d_245_153 rfl rfl ?_
      refine r_ld (pc' := 156) hM_245 d_245_154 rfl rfl ?_
      refine r_cl (pc' := 159) (c := (194, 2)) (a := [.inr (.inl (am_s t)), .inl p]) (q := []) hM_245 d_245_156 rfl (by decide +kernel) hM_194 rfl rfl rfl (Nat.le_of_ble_eq_true rfl) (Nat.le_of_ble_eq_true rfl) (Or.inl rfl) (n_194  m (am_s t) p hz4) (Nat.le_of_ble_eq_true rfl) ?_
      show rn fx 5 (0, 0) 245 159 [some (.inr (.inr (some 53))), some (.inl j), some (.inl w), some (.inl t), some (.inl k), some (.inl x), some (.inl p)] [.inl ((if (am_s t).toNat.testBit p.toNat = true then 1 else 0))] (st0 m) o
      exact hk
    refine ok_if (pc' := 216) (pc2 := 162) hM_245 d_245_159 (by decide) rfl (fun hz5 => ?_) (fun hz5 => ?_)
    · have H := H.1 (as_iteN.mp hz5)
      refine ok_sg (pc' := 147) (ls' := [some (.inr (.inr (some 53))), some (.inl j), some (.inl w), some (.inl t), some (.inl k), some (.inl x), some (.inl (p + (-1)))]) (st' := []) (m' := m) (fun fx hfx o hk => ?_) ?_
      · refine r_sto (pc' := 219) (ls' := [some (.inr (.inr (some 53))), some (.inl j), some (.inl w), some (.inl t), some (.inl k), some (.inl x), some (.inl (p + (-1)))]) hM_245 d_245_216 rfl rfl ?_
        refine r_go (pc' := 147) hM_245 d_245_219 (by decide) ?_
        exact hk
      exact H
    · have H := H.2 (as_ite.mp (Decidable.not_not.mp hz5))
      obtain ⟨hz6, H⟩ := H
      refine ok_sg (pc' := 171) (ls' := [some (.inr (.inr (some 53))), some (.inl j), some (.inl w), some (.inl t), some (.inl k), some (.inl x), some (.inl p)]) (st' := [.inl (v_247 m j k p)]) (m' := m) (fun fx hfx o hk => ?_) ?_
      · refine r_ld (pc' := 163) hM_245 d_245_162 rfl rfl ?_
        refine r_ld (pc' := 164) hM_245 d_245_163 rfl rfl ?_
        refine r_ld (pc' := 166) hM_245 d_245_164 rfl rfl ?_
        refine r_ld (pc' := 168) hM_245 d_245_166 rfl rfl ?_
        refine r_cl (pc' := 171) (c := (247, 0)) (a := [.inr (.inr (some 53)), .inl j, .inl k, .inl p]) (q := []) hM_245 d_245_168 rfl (by decide +kernel) hM_247 rfl rfl rfl (Nat.le_of_ble_eq_true rfl) (Nat.le_of_ble_eq_true rfl) (Or.inr rfl) (c_247  m j k p hz6) (Nat.le_of_ble_eq_true rfl) ?_
        show rn fx 5 (0, 0) 245 171 [some (.inr (.inr (some 53))), some (.inl j), some (.inl w), some (.inl t), some (.inl k), some (.inl x), some (.inl p)] [.inl (v_247 m j k p)] (st0 m) o
        exact hk
      refine ok_if (pc' := 216) (pc2 := 174) hM_245 d_245_171 (by decide) rfl (fun hz7 => ?_) (fun hz7 => ?_)
      · have H := H.1 hz7
        refine ok_sg (pc' := 147) (ls' := [some (.inr (.inr (some 53))), some (.inl j), some (.inl w), some (.inl t), some (.inl k), some (.inl x), some (.inl (p + (-1)))]) (st' := []) (m' := m) (fun fx hfx o hk => ?_) ?_
        · refine r_sto (pc' := 219) (ls' := [some (.inr (.inr (some 53))), some (.inl j), some (.inl w), some (.inl t), some (.inl k), some (.inl x), some (.inl (p + (-1)))]) hM_245 d_245_216 rfl rfl ?_
          refine r_go (pc' := 147) hM_245 d_245_219 (by decide) ?_
          exact hk
        exact H
      · have H := H.2 hz7
        obtain ⟨hz8, H⟩ := H
        obtain ⟨hz9, H⟩ := H
        refine ok_sg (pc' := 209) (ls' := [some (.inr (.inr (some 53))), some (.inl j), some (.inl w), some (.inl t), some (.inl k), some (.inl x), some (.inl p)]) (st' := [.inl (m 70 ((am_s ((4096 * k) + t)).toNat)), .inl (1 + (m 70 ((am_s ((4096 * (k + 1)) + (am_or t (am_shl 1 p)))).toNat)))]) (m' := m) (fun fx hfx o hk => ?_) ?_
        · refine r_k (pc' := 175) (v := .inl 1) hM_245 d_245_174 rfl rfl ?_
          refine r_ld (pc' := 176) hM_245 d_245_175 rfl rfl ?_
          refine r_gR (pc' := 179) (v := 70) hM_245 d_245_176 rfl (by decide +kernel) ?_
          refine r_k (pc' := 182) (v := .inl 4096) hM_245 d_245_179 rfl rfl ?_
          refine r_ld (pc' := 184) hM_245 d_245_182 rfl rfl ?_
          refine r_k (pc' := 185) (v := .inl 1) hM_245 d_245_184 rfl rfl ?_
          refine r_b (pc' := 186) (z := (k + 1)) hM_245 d_245_185 rfl rfl ?_
          refine r_b (pc' := 187) (z := (4096 * (k + 1))) hM_245 d_245_186 rfl rfl ?_
          refine r_ld (pc' := 188) hM_245 d_245_187 rfl rfl ?_
          refine r_k (pc' := 189) (v := .inl 1) hM_245 d_245_188 rfl rfl ?_
          refine r_ld (pc' := 191) hM_245 d_245_189 rfl rfl ?_
          refine r_b (pc' := 192) (z := (am_shl 1 p)) hM_245 d_245_191 rfl rfl ?_
          refine r_b (pc' := 193) (z := (am_or t (am_shl 1 p))) hM_245 d_245_192 rfl rfl ?_
          refine r_b (pc' := 194) (z := ((4096 * (k + 1)) + (am_or t (am_shl 1 p)))) hM_245 d_245_193 rfl rfl ?_
          refine r_ia (pc' := 195) (n := 45056) hM_245 d_245_194 rfl rfl hz8 ?_
          refine r_b (pc' := 196) (z := (1 + (m 70 ((am_s ((4096 * (k + 1)) + (am_or t (am_shl 1 p)))).toNat)))) hM_245 d_245_195 rfl rfl ?_
          refine r_ld (pc' := 197) hM_245 d_245_196 rfl rfl ?_
          refine r_gR (pc' := 200) (v := 70) hM_245 d_245_197 rfl (by decide +kernel) ?_
          refine r_k (pc' := 203) (v := .inl 4096) hM_245 d_245_200 rfl rfl ?_
          refine r_ld (pc' := 205) hM_245 d_245_203 rfl rfl ?_
          refine r_b (pc' := 206) (z := (4096 * k)) hM_245 d_245_205 rfl rfl ?_
          refine r_ld (pc' := 207) hM_245 d_245_206 rfl rfl ?_
          refine r_b (pc' := 208) (z := ((4096 * k) + t)) hM_245 d_245_207 rfl rfl ?_
          refine r_ia (pc' := 209) (n := 45056) hM_245 d_245_208 rfl rfl hz9 ?_
          exact hk
        refine ok_ic (pc' := 216) (pc2 := 212) hM_245 d_245_209 (by decide) rfl (fun hz10 => ?_) (fun hz10 => ?_)
        · have H := H.1 hz10
          refine ok_sg (pc' := 147) (ls' := [some (.inr (.inr (some 53))), some (.inl j), some (.inl w), some (.inl t), some (.inl k), some (.inl x), some (.inl (p + (-1)))]) (st' := []) (m' := m) (fun fx hfx o hk => ?_) ?_
          · refine r_sto (pc' := 219) (ls' := [some (.inr (.inr (some 53))), some (.inl j), some (.inl w), some (.inl t), some (.inl k), some (.inl x), some (.inl (p + (-1)))]) hM_245 d_245_216 rfl rfl ?_
            refine r_go (pc' := 147) hM_245 d_245_219 (by decide) ?_
            exact hk
          exact H
        · have H := H.2 (Decidable.not_not.mp hz10)
          refine ok_sg (pc' := 147) (ls' := [some (.inr (.inr (some 53))), some (.inl j), some (.inl w), some (.inl t), some (.inl k), some (.inl p), some (.inl (p + (-1)))]) (st' := []) (m' := m) (fun fx hfx o hk => ?_) ?_
          · refine r_ld (pc' := 214) hM_245 d_245_212 rfl rfl ?_
            refine r_sto (pc' := 216) (ls' := [some (.inr (.inr (some 53))), some (.inl j), some (.inl w), some (.inl t), some (.inl k), some (.inl p), some (.inl p)]) hM_245 d_245_214 rfl rfl ?_
            refine r_sto (pc' := 219) (ls' := [some (.inr (.inr (some 53))), some (.inl j), some (.inl w), some (.inl t), some (.inl k), some (.inl p), some (.inl (p + (-1)))]) hM_245 d_245_216 rfl rfl ?_
            refine r_go (pc' := 147) hM_245 d_245_219 (by decide) ?_
            exact hk
          exact H
theorem u_245_123 {Q : List am_V → am_M → Prop} {m : am_M} {j : Int} {w : Int} {t : Int} {k : Int}  (H : (0 ≤ am_s j ∧ am_s j < (4 : Nat)) ∧ (((am_s (m 74 ((am_s j).toNat)) ≤ am_s k) → Q [.inl (-1)] m) ∧ ((¬ (am_s (m 74 ((am_s j).toNat)) ≤ am_s k)) → ok 5 245 147 [some (.inr (.inr (some 53))), some (.inl j), some (.inl w), some (.inl t), some (.inl k), some (.inl (-1)), some (.inl ((m 54 0) - 1))] [] m Q))) : ok 5 245 123 [some (.inr (.inr (some 53))), some (.inl j), some (.inl w), some (.inl t), some (.inl k), none, none] [] m Q := by
  obtain ⟨hz1, H⟩ := H
  refine ok_sg (pc' := 131) (ls' := [some (.inr (.inr (some 53))), some (.inl j), some (.inl w), some (.inl t), some (.inl k), none, none]) (st' := [.inl (m 74 ((am_s j).toNat)), .inl k]) (m' := m) (fun fx hfx o hk => ?_) ?_
  · refine r_ld (pc' := 125) hM_245 d_245_123 rfl rfl ?_
    refine r_ld (pc' := 126) hM_245 d_245_125 rfl rfl ?_
    refine r_gR (pc' := 129) (v := 74) hM_245 d_245_126 rfl (by decide +kernel) ?_
    refine r_ld (pc' := 130) hM_245 d_245_129 rfl rfl ?_
    refine r_ia (pc' := 131) (n := 4) hM_245 d_245_130 rfl rfl hz1 ?_
    exact hk
  refine ok_ic (pc' := 257) (pc2 := 134) hM_245 d_245_131 (by decide) rfl (fun hz2 => ?_) (fun hz2 => ?_)
  · have H := H.1 hz2
    refine ok_sg (pc' := 258) (ls' := [some (.inr (.inr (some 53))), some (.inl j), some (.inl w), some (.inl t), some (.inl k), none, none]) (st' := [.inl (-1)]) (m' := m) (fun fx hfx o hk => ?_) ?_
    · refine r_k (pc' := 258) (v := .inl (-1)) hM_245 d_245_257 rfl rfl ?_
      exact hk
    exact ok_rt (fun fx _ => rt_i hM_245 d_245_258 rfl) H
  · have H := H.2 hz2
    refine ok_sg (pc' := 147) (ls' := [some (.inr (.inr (some 53))), some (.inl j), some (.inl w), some (.inl t), some (.inl k), some (.inl (-1)), some (.inl ((m 54 0) - 1))]) (st' := []) (m' := m) (fun fx hfx o hk => ?_) ?_
    · refine r_k (pc' := 135) (v := .inl (-1)) hM_245 d_245_134 rfl rfl ?_
      refine r_sto (pc' := 137) (ls' := [some (.inr (.inr (some 53))), some (.inl j), some (.inl w), some (.inl t), some (.inl k), some (.inl (-1)), none]) hM_245 d_245_135 rfl rfl ?_
      refine r_ld (pc' := 138) hM_245 d_245_137 rfl rfl ?_
      refine r_gR (pc' := 141) (v := 54) hM_245 d_245_138 rfl (by decide +kernel) ?_
      refine r_k (pc' := 142) (v := .inl 0) hM_245 d_245_141 rfl rfl ?_
      refine r_iae (pc' := 143) (n := 168) (z := (m 54 0)) hM_245 d_245_142 rfl rfl (by decide) (by rw [show (am_s 0).toNat = 0 by decide]) ?_
      refine r_k (pc' := 144) (v := .inl 1) hM_245 d_245_143 rfl rfl ?_
      refine r_b (pc' := 145) (z := ((m 54 0) - 1)) hM_245 d_245_144 rfl rfl ?_
      refine r_sto (pc' := 147) (ls' := [some (.inr (.inr (some 53))), some (.inl j), some (.inl w), some (.inl t), some (.inl k), some (.inl (-1)), some (.inl ((m 54 0) - 1))]) hM_245 d_245_145 rfl rfl ?_
      exact hk
    exact H
theorem u_245_67 {Q : List am_V → am_M → Prop} {m : am_M} {j : Int} {w : Int} {k : Int}  (H : (0 ≤ am_s j ∧ am_s j < (4 : Nat)) ∧ (((am_s (m 74 ((am_s j).toNat)) ≤ am_s k) → ((0 ≤ j ∧ j < 4) ∧ OPM m j.toNat) ∧ (∀ (m1 : am_M), ((∀ k T : Nat, (k : Int) ≤ m 74 j.toNat → T < 2 ^ (m 54 0).toNat → m1 70 (4096 * k + T) = ((Mv (sdp (nv (m 54))) (rpn (nv (m 54))) (m 54 0).toNat (rwf m j.toNat) (m 74 j.toNat).toNat k T : Nat) : Int)) ∧ ∀ a, a ≠ 70 → m1 a = m a) → ((¬ am_s w = 0) → ok 5 245 123 [some (.inr (.inr (some 53))), some (.inl j), some (.inl w), some (.inl 0), some (.inl 0), none, none] [] m1 Q) ∧ ((am_s w = 0) → Q [.inl (m1 70 0)] m1))) ∧ ((¬ (am_s (m 74 ((am_s j).toNat)) ≤ am_s k)) → (0 ≤ am_s ((40 * j) + k) ∧ am_s ((40 * j) + k) < (160 : Nat)) ∧ (((0 ≤ am_s (am_lcmp (m 75 ((am_s ((40 * j) + k)).toNat)) 0)) → ok 5 245 67 [some (.inr (.inr (some 53))), some (.inl j), some (.inl w), some (.inl (k + 1)), none, none, none] [] m Q) ∧ ((¬ (0 ≤ am_s (am_lcmp (m 75 ((am_s ((40 * j) + k)).toNat)) 0))) → Q [.inl (-3)] m))))) : ok 5 245 67 [some (.inr (.inr (some 53))), some (.inl j), some (.inl w), some (.inl k), none, none, none] [] m Q := by
  obtain ⟨hz1, H⟩ := H
  refine ok_sg (pc' := 74) (ls' := [some (.inr (.inr (some 53))), some (.inl j), some (.inl w), some (.inl k), none, none, none]) (st' := [.inl (m 74 ((am_s j).toNat)), .inl k]) (m' := m) (fun fx hfx o hk => ?_) ?_
  · refine r_ld (pc' := 68) hM_245 d_245_67 rfl rfl ?_
    refine r_ld (pc' := 69) hM_245 d_245_68 rfl rfl ?_
    refine r_gR (pc' := 72) (v := 74) hM_245 d_245_69 rfl (by decide +kernel) ?_
    refine r_ld (pc' := 73) hM_245 d_245_72 rfl rfl ?_
    refine r_ia (pc' := 74) (n := 4) hM_245 d_245_73 rfl rfl hz1 ?_
    exact hk
  refine ok_ic (pc' := 102) (pc2 := 77) hM_245 d_245_74 (by decide) rfl (fun hz2 => ?_) (fun hz2 => ?_)
  · have H := H.1 hz2
    obtain ⟨hz3, H⟩ := H
    refine ok_sg (pc' := 104) (ls' := [some (.inr (.inr (some 53))), some (.inl j), some (.inl w), some (.inl k), none, none, none]) (st' := [.inl j, .inr (.inr (some 53))]) (m' := m) (fun fx hfx o hk => ?_) ?_
    · refine r_ld (pc' := 103) hM_245 d_245_102 rfl rfl ?_
      refine r_ld (pc' := 104) hM_245 d_245_103 rfl rfl ?_
      exact hk
    refine ok_cl (pc' := 107) (c := (246, 0)) (a := [.inr (.inr (some 53)), .inl j]) (q := []) hM_245 d_245_104 rfl (by decide +kernel) hM_246 rfl rfl rfl (Nat.le_of_ble_eq_true rfl) (Nat.le_of_ble_eq_true rfl) (Or.inr rfl) (z_246  m j hz3) (Nat.le_of_ble_eq_true rfl) ?_
    rintro _ m1 ⟨rfl, hz4⟩
    replace H := H  m1 hz4
    show ok 5 245 107 [some (.inr (.inr (some 53))), some (.inl j), some (.inl w), some (.inl k), none, none, none] [] m1 Q
    refine ok_sg (pc' := 108) (ls' := [some (.inr (.inr (some 53))), some (.inl j), some (.inl w), some (.inl k), none, none, none]) (st' := [.inl w]) (m' := m1) (fun fx hfx o hk => ?_) ?_
    · refine r_ld (pc' := 108) hM_245 d_245_107 rfl rfl ?_
      exact hk
    refine ok_if (pc' := 118) (pc2 := 111) hM_245 d_245_108 (by decide) rfl (fun hz5 => ?_) (fun hz5 => ?_)
    · have H := H.1 hz5
      refine ok_sg (pc' := 123) (ls' := [some (.inr (.inr (some 53))), some (.inl j), some (.inl w), some (.inl 0), some (.inl 0), none, none]) (st' := []) (m' := m1) (fun fx hfx o hk => ?_) ?_
      · refine r_k (pc' := 119) (v := .inl 0) hM_245 d_245_118 rfl rfl ?_
        refine r_sto (pc' := 120) (ls' := [some (.inr (.inr (some 53))), some (.inl j), some (.inl w), some (.inl 0), none, none, none]) hM_245 d_245_119 rfl rfl ?_
        refine r_k (pc' := 121) (v := .inl 0) hM_245 d_245_120 rfl rfl ?_
        refine r_sto (pc' := 123) (ls' := [some (.inr (.inr (some 53))), some (.inl j), some (.inl w), some (.inl 0), some (.inl 0), none, none]) hM_245 d_245_121 rfl rfl ?_
        exact hk
      exact H
    · have H := H.2 (Decidable.not_not.mp hz5)
      refine ok_sg (pc' := 117) (ls' := [some (.inr (.inr (some 53))), some (.inl j), some (.inl w), some (.inl k), none, none, none]) (st' := [.inl (m1 70 0)]) (m' := m1) (fun fx hfx o hk => ?_) ?_
      · refine r_ld (pc' := 112) hM_245 d_245_111 rfl rfl ?_
        refine r_gR (pc' := 115) (v := 70) hM_245 d_245_112 rfl (by decide +kernel) ?_
        refine r_k (pc' := 116) (v := .inl 0) hM_245 d_245_115 rfl rfl ?_
        refine r_iae (pc' := 117) (n := 45056) (z := (m1 70 0)) hM_245 d_245_116 rfl rfl (by decide) (by rw [show (am_s 0).toNat = 0 by decide]) ?_
        exact hk
      exact ok_rt (fun fx _ => rt_i hM_245 d_245_117 rfl) H
  · have H := H.2 hz2
    obtain ⟨hz6, H⟩ := H
    refine ok_sg (pc' := 90) (ls' := [some (.inr (.inr (some 53))), some (.inl j), some (.inl w), some (.inl k), none, none, none]) (st' := [.inl (am_lcmp (m 75 ((am_s ((40 * j) + k)).toNat)) 0)]) (m' := m) (fun fx hfx o hk => ?_) ?_
    · refine r_ld (pc' := 78) hM_245 d_245_77 rfl rfl ?_
      refine r_gR (pc' := 81) (v := 75) hM_245 d_245_78 rfl (by decide +kernel) ?_
      refine r_k (pc' := 83) (v := .inl 40) hM_245 d_245_81 rfl rfl ?_
      refine r_ld (pc' := 84) hM_245 d_245_83 rfl rfl ?_
      refine r_b (pc' := 85) (z := (40 * j)) hM_245 d_245_84 rfl rfl ?_
      refine r_ld (pc' := 86) hM_245 d_245_85 rfl rfl ?_
      refine r_b (pc' := 87) (z := ((40 * j) + k)) hM_245 d_245_86 rfl rfl ?_
      refine r_la (pc' := 88) (n := 160) hM_245 d_245_87 rfl rfl hz6 ?_
      refine r_k (pc' := 89) (v := .inr (.inl 0)) hM_245 d_245_88 rfl rfl ?_
      refine r_stk (pc' := 90) (st' := [.inl (am_lcmp (m 75 ((am_s ((40 * j) + k)).toNat)) 0)]) hM_245 d_245_89 rfl rfl ?_
      exact hk
    refine ok_if (pc' := 96) (pc2 := 93) hM_245 d_245_90 (by decide) rfl (fun hz7 => ?_) (fun hz7 => ?_)
    · have H := H.1 hz7
      refine ok_sg (pc' := 67) (ls' := [some (.inr (.inr (some 53))), some (.inl j), some (.inl w), some (.inl (k + 1)), none, none, none]) (st' := []) (m' := m) (fun fx hfx o hk => ?_) ?_
      · refine r_sto (pc' := 99) (ls' := [some (.inr (.inr (some 53))), some (.inl j), some (.inl w), some (.inl (k + 1)), none, none, none]) hM_245 d_245_96 rfl rfl ?_
        refine r_go (pc' := 67) hM_245 d_245_99 (by decide) ?_
        exact hk
      exact H
    · have H := H.2 hz7
      refine ok_sg (pc' := 95) (ls' := [some (.inr (.inr (some 53))), some (.inl j), some (.inl w), some (.inl k), none, none, none]) (st' := [.inl (-3)]) (m' := m) (fun fx hfx o hk => ?_) ?_
      · refine r_k (pc' := 95) (v := .inl (-3)) hM_245 d_245_93 rfl rfl ?_
        exact hk
      exact ok_rt (fun fx _ => rt_i hM_245 d_245_95 rfl) H
theorem u_245_0 {Q : List am_V → am_M → Prop} {m : am_M} {j : Int} {w : Int}  (H : ((¬ (0 ≤ am_s j ∧ am_s j ≤ 3)) → Q [.inl (-2)] (mu m 53 0 0)) ∧ ((0 ≤ am_s j ∧ am_s j ≤ 3) → ((am_s w = 0) → (0 ≤ am_s j ∧ am_s j < (4 : Nat)) ∧ (((¬ am_s (m 73 ((am_s j).toNat)) = (-1)) → ((am_s (m 74 ((am_s j).toNat)) ≤ 10) → ok 5 245 67 [some (.inr (.inr (some 53))), some (.inl j), some (.inl w), some (.inl 0), none, none, none] [] (mu m 53 0 0) Q) ∧ ((¬ (am_s (m 74 ((am_s j).toNat)) ≤ 10)) → Q [.inl (-4)] (mu m 53 0 0))) ∧ ((am_s (m 73 ((am_s j).toNat)) = (-1)) → Q [.inl (-6)] (mu m 53 0 0)))) ∧ ((¬ (am_s w = 0)) → ((10 ≤ am_s w ∧ am_s w ≤ 19) → (0 ≤ am_s j ∧ am_s j < (4 : Nat)) ∧ (((¬ am_s (m 73 ((am_s j).toNat)) = (-1)) → ((am_s (m 74 ((am_s j).toNat)) ≤ 10) → ok 5 245 67 [some (.inr (.inr (some 53))), some (.inl j), some (.inl w), some (.inl 0), none, none, none] [] (mu m 53 0 0) Q) ∧ ((¬ (am_s (m 74 ((am_s j).toNat)) ≤ 10)) → Q [.inl (-4)] (mu m 53 0 0))) ∧ ((am_s (m 73 ((am_s j).toNat)) = (-1)) → Q [.inl (-6)] (mu m 53 0 0)))) ∧ ((¬ (10 ≤ am_s w ∧ am_s w ≤ 19)) → Q [.inl (-2)] (mu m 53 0 0))))) : ok 5 245 0 [some (.inr (.inr (some 53))), some (.inl j), some (.inl w), none, none, none, none] [] m Q := by
  refine ok_sg (pc' := 14) (ls' := [some (.inr (.inr (some 53))), some (.inl j), some (.inl w), none, none, none, none]) (st' := [.inl (if 0 ≤ am_s j ∧ am_s j ≤ 3 then 1 else 0)]) (m' := mu m 53 0 0) (fun fx hfx o hk => ?_) ?_
  · refine r_ld (pc' := 1) hM_245 d_245_0 rfl rfl ?_
    refine r_k (pc' := 2) (v := .inl 0) hM_245 d_245_1 rfl rfl ?_
    refine r_pI (pc' := 5) (k0 := 0) hM_245 d_245_2 rfl (by decide +kernel) ?_
    refine r_ld (pc' := 6) hM_245 d_245_5 rfl rfl ?_
    refine r_stk (pc' := 7) (st' := [.inr (.inl (am_s j))]) hM_245 d_245_6 rfl rfl ?_
    refine r_k (pc' := 8) (v := .inr (.inl 0)) hM_245 d_245_7 rfl rfl ?_
    refine r_k (pc' := 11) (v := .inr (.inl 3)) hM_245 d_245_8 rfl (by decide +kernel) ?_
    refine r_cl (pc' := 14) (c := (167, 2)) (a := [.inr (.inl (am_s j)), .inr (.inl 0), .inr (.inl 3)]) (q := []) hM_245 d_245_11 rfl (by decide +kernel) hM_167 rfl rfl rfl (Nat.le_of_ble_eq_true rfl) (Nat.le_of_ble_eq_true rfl) (Or.inl rfl) (n_167s (mu m 53 0 0) j 0 3 rfl rfl) (Nat.le_of_ble_eq_true rfl) ?_
    show rn fx 5 (0, 0) 245 14 [some (.inr (.inr (some 53))), some (.inl j), some (.inl w), none, none, none, none] [.inl (if 0 ≤ am_s j ∧ am_s j ≤ 3 then 1 else 0)] (st0 (mu m 53 0 0)) o
    exact hk
  refine ok_if (pc' := 35) (pc2 := 17) hM_245 d_245_14 (by decide) rfl (fun hz1 => ?_) (fun hz1 => ?_)
  · have H := H.1 (as_ite.mp hz1)
    refine ok_sg (pc' := 37) (ls' := [some (.inr (.inr (some 53))), some (.inl j), some (.inl w), none, none, none, none]) (st' := [.inl (-2)]) (m' := mu m 53 0 0) (fun fx hfx o hk => ?_) ?_
    · refine r_k (pc' := 37) (v := .inl (-2)) hM_245 d_245_35 rfl rfl ?_
      exact hk
    exact ok_rt (fun fx _ => rt_i hM_245 d_245_37 rfl) H
  · have H := H.2 (as_iteN.mp hz1)
    refine ok_sg (pc' := 18) (ls' := [some (.inr (.inr (some 53))), some (.inl j), some (.inl w), none, none, none, none]) (st' := [.inl w]) (m' := mu m 53 0 0) (fun fx hfx o hk => ?_) ?_
    · refine r_ld (pc' := 18) hM_245 d_245_17 rfl rfl ?_
      exact hk
    refine ok_if (pc' := 38) (pc2 := 21) hM_245 d_245_18 (by decide) rfl (fun hz2 => ?_) (fun hz2 => ?_)
    · have H := H.1 hz2
      obtain ⟨hz3, H⟩ := H
      refine ok_sg (pc' := 45) (ls' := [some (.inr (.inr (some 53))), some (.inl j), some (.inl w), none, none, none, none]) (st' := [.inl (-1), .inl (m 73 ((am_s j).toNat))]) (m' := mu m 53 0 0) (fun fx hfx o hk => ?_) ?_
      · refine r_ld (pc' := 39) hM_245 d_245_38 rfl rfl ?_
        refine r_gR (pc' := 42) (v := 73) hM_245 d_245_39 rfl (by decide +kernel) ?_
        refine r_ld (pc' := 43) hM_245 d_245_42 rfl rfl ?_
        refine r_iae (pc' := 44) (n := 4) (z := (m 73 ((am_s j).toNat))) hM_245 d_245_43 rfl rfl hz3 (mu_r (by decide)) ?_
        refine r_k (pc' := 45) (v := .inl (-1)) hM_245 d_245_44 rfl rfl ?_
        exact hk
      refine ok_ic (pc' := 51) (pc2 := 48) hM_245 d_245_45 (by decide) rfl (fun hz4 => ?_) (fun hz4 => ?_)
      · have H := H.1 hz4
        refine ok_sg (pc' := 59) (ls' := [some (.inr (.inr (some 53))), some (.inl j), some (.inl w), none, none, none, none]) (st' := [.inl 10, .inl (m 74 ((am_s j).toNat))]) (m' := mu m 53 0 0) (fun fx hfx o hk => ?_) ?_
        · refine r_ld (pc' := 52) hM_245 d_245_51 rfl rfl ?_
          refine r_gR (pc' := 55) (v := 74) hM_245 d_245_52 rfl (by decide +kernel) ?_
          refine r_ld (pc' := 56) hM_245 d_245_55 rfl rfl ?_
          refine r_iae (pc' := 57) (n := 4) (z := (m 74 ((am_s j).toNat))) hM_245 d_245_56 rfl rfl hz3 (mu_r (by decide)) ?_
          refine r_k (pc' := 59) (v := .inl 10) hM_245 d_245_57 rfl rfl ?_
          exact hk
        refine ok_ic (pc' := 65) (pc2 := 62) hM_245 d_245_59 (by decide) rfl (fun hz5 => ?_) (fun hz5 => ?_)
        · have H := H.1 hz5
          refine ok_sg (pc' := 67) (ls' := [some (.inr (.inr (some 53))), some (.inl j), some (.inl w), some (.inl 0), none, none, none]) (st' := []) (m' := mu m 53 0 0) (fun fx hfx o hk => ?_) ?_
          · refine r_k (pc' := 66) (v := .inl 0) hM_245 d_245_65 rfl rfl ?_
            refine r_sto (pc' := 67) (ls' := [some (.inr (.inr (some 53))), some (.inl j), some (.inl w), some (.inl 0), none, none, none]) hM_245 d_245_66 rfl rfl ?_
            exact hk
          exact H
        · have H := H.2 hz5
          refine ok_sg (pc' := 64) (ls' := [some (.inr (.inr (some 53))), some (.inl j), some (.inl w), none, none, none, none]) (st' := [.inl (-4)]) (m' := mu m 53 0 0) (fun fx hfx o hk => ?_) ?_
          · refine r_k (pc' := 64) (v := .inl (-4)) hM_245 d_245_62 rfl rfl ?_
            exact hk
          exact ok_rt (fun fx _ => rt_i hM_245 d_245_64 rfl) H
      · have H := H.2 (Decidable.not_not.mp hz4)
        refine ok_sg (pc' := 50) (ls' := [some (.inr (.inr (some 53))), some (.inl j), some (.inl w), none, none, none, none]) (st' := [.inl (-6)]) (m' := mu m 53 0 0) (fun fx hfx o hk => ?_) ?_
        · refine r_k (pc' := 50) (v := .inl (-6)) hM_245 d_245_48 rfl rfl ?_
          exact hk
        exact ok_rt (fun fx _ => rt_i hM_245 d_245_50 rfl) H
    · have H := H.2 hz2
      refine ok_sg (pc' := 32) (ls' := [some (.inr (.inr (some 53))), some (.inl j), some (.inl w), none, none, none, none]) (st' := [.inl (if 10 ≤ am_s w ∧ am_s w ≤ 19 then 1 else 0)]) (m' := mu m 53 0 0) (fun fx hfx o hk => ?_) ?_
      · refine r_ld (pc' := 22) hM_245 d_245_21 rfl rfl ?_
        refine r_stk (pc' := 23) (st' := [.inr (.inl (am_s w))]) hM_245 d_245_22 rfl rfl ?_
        refine r_k (pc' := 26) (v := .inr (.inl 10)) hM_245 d_245_23 rfl (by decide +kernel) ?_
        refine r_k (pc' := 29) (v := .inr (.inl 19)) hM_245 d_245_26 rfl (by decide +kernel) ?_
        refine r_cl (pc' := 32) (c := (167, 2)) (a := [.inr (.inl (am_s w)), .inr (.inl 10), .inr (.inl 19)]) (q := []) hM_245 d_245_29 rfl (by decide +kernel) hM_167 rfl rfl rfl (Nat.le_of_ble_eq_true rfl) (Nat.le_of_ble_eq_true rfl) (Or.inl rfl) (n_167s (mu m 53 0 0) w 10 19 rfl rfl) (Nat.le_of_ble_eq_true rfl) ?_
        show rn fx 5 (0, 0) 245 32 [some (.inr (.inr (some 53))), some (.inl j), some (.inl w), none, none, none, none] [.inl (if 10 ≤ am_s w ∧ am_s w ≤ 19 then 1 else 0)] (st0 (mu m 53 0 0)) o
        exact hk
      refine ok_if (pc' := 38) (pc2 := 35) hM_245 d_245_32 (by decide) rfl (fun hz6 => ?_) (fun hz6 => ?_)
      · have H := H.1 (as_iteN.mp hz6)
        obtain ⟨hz7, H⟩ := H
        refine ok_sg (pc' := 45) (ls' := [some (.inr (.inr (some 53))), some (.inl j), some (.inl w), none, none, none, none]) (st' := [.inl (-1), .inl (m 73 ((am_s j).toNat))]) (m' := mu m 53 0 0) (fun fx hfx o hk => ?_) ?_
        · refine r_ld (pc' := 39) hM_245 d_245_38 rfl rfl ?_
          refine r_gR (pc' := 42) (v := 73) hM_245 d_245_39 rfl (by decide +kernel) ?_
          refine r_ld (pc' := 43) hM_245 d_245_42 rfl rfl ?_
          refine r_iae (pc' := 44) (n := 4) (z := (m 73 ((am_s j).toNat))) hM_245 d_245_43 rfl rfl hz7 (mu_r (by decide)) ?_
          refine r_k (pc' := 45) (v := .inl (-1)) hM_245 d_245_44 rfl rfl ?_
          exact hk
        refine ok_ic (pc' := 51) (pc2 := 48) hM_245 d_245_45 (by decide) rfl (fun hz8 => ?_) (fun hz8 => ?_)
        · have H := H.1 hz8
          refine ok_sg (pc' := 59) (ls' := [some (.inr (.inr (some 53))), some (.inl j), some (.inl w), none, none, none, none]) (st' := [.inl 10, .inl (m 74 ((am_s j).toNat))]) (m' := mu m 53 0 0) (fun fx hfx o hk => ?_) ?_
          · refine r_ld (pc' := 52) hM_245 d_245_51 rfl rfl ?_
            refine r_gR (pc' := 55) (v := 74) hM_245 d_245_52 rfl (by decide +kernel) ?_
            refine r_ld (pc' := 56) hM_245 d_245_55 rfl rfl ?_
            refine r_iae (pc' := 57) (n := 4) (z := (m 74 ((am_s j).toNat))) hM_245 d_245_56 rfl rfl hz7 (mu_r (by decide)) ?_
            refine r_k (pc' := 59) (v := .inl 10) hM_245 d_245_57 rfl rfl ?_
            exact hk
          refine ok_ic (pc' := 65) (pc2 := 62) hM_245 d_245_59 (by decide) rfl (fun hz9 => ?_) (fun hz9 => ?_)
          · have H := H.1 hz9
            refine ok_sg (pc' := 67) (ls' := [some (.inr (.inr (some 53))), some (.inl j), some (.inl w), some (.inl 0), none, none, none]) (st' := []) (m' := mu m 53 0 0) (fun fx hfx o hk => ?_) ?_
            · refine r_k (pc' := 66) (v := .inl 0) hM_245 d_245_65 rfl rfl ?_
              refine r_sto (pc' := 67) (ls' := [some (.inr (.inr (some 53))), some (.inl j), some (.inl w), some (.inl 0), none, none, none]) hM_245 d_245_66 rfl rfl ?_
              exact hk
            exact H
          · have H := H.2 hz9
            refine ok_sg (pc' := 64) (ls' := [some (.inr (.inr (some 53))), some (.inl j), some (.inl w), none, none, none, none]) (st' := [.inl (-4)]) (m' := mu m 53 0 0) (fun fx hfx o hk => ?_) ?_
            · refine r_k (pc' := 64) (v := .inl (-4)) hM_245 d_245_62 rfl rfl ?_
              exact hk
            exact ok_rt (fun fx _ => rt_i hM_245 d_245_64 rfl) H
        · have H := H.2 (Decidable.not_not.mp hz8)
          refine ok_sg (pc' := 50) (ls' := [some (.inr (.inr (some 53))), some (.inl j), some (.inl w), none, none, none, none]) (st' := [.inl (-6)]) (m' := mu m 53 0 0) (fun fx hfx o hk => ?_) ?_
          · refine r_k (pc' := 50) (v := .inl (-6)) hM_245 d_245_48 rfl rfl ?_
            exact hk
          exact ok_rt (fun fx _ => rt_i hM_245 d_245_50 rfl) H
      · have H := H.2 (as_ite.mp (Decidable.not_not.mp hz6))
        refine ok_sg (pc' := 37) (ls' := [some (.inr (.inr (some 53))), some (.inl j), some (.inl w), none, none, none, none]) (st' := [.inl (-2)]) (m' := mu m 53 0 0) (fun fx hfx o hk => ?_) ?_
        · refine r_k (pc' := 37) (v := .inl (-2)) hM_245 d_245_35 rfl rfl ?_
          exact hk
        exact ok_rt (fun fx _ => rt_i hM_245 d_245_37 rfl) H
