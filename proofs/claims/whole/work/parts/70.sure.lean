theorem fits_k {Q : Nat → Bool} {F : Nat} {A : Nat → Int} (h : ∀ t, t ≤ F → Q t = true → A (cf Q t) = (t : Int)) : ∀ k, k < cf Q (F + 1) → A k = (((A k).toNat : Nat) : Int) ∧ (A k).toNat ≤ F ∧ Q (A k).toNat = true ∧ cf Q (A k).toNat = k := by
  intro k hk
  obtain ⟨t, h1, h2, h3⟩ := cf_nth (F + 1) k hk
  have e := h t (by omega) h2
  rw [h3] at e
  rw [e, Int.toNat_natCast]
  exact ⟨rfl, by omega, h2, h3⟩
theorem fits_fr {σ : Type} {st : σ → Nat → σ} {x : σ} {Q : Nat → Bool} {F : Nat} {A : Nat → Int} (h : ∀ t, t ≤ F → Q t = true → A (cf Q t) = (t : Int)) : itk st (fun k => (A k).toNat) x (cf Q (F + 1)) = fr st Q x (F + 1) := itk_fr (F + 1) (fun t ht hq => by rw [h t (by omega) hq, Int.toNat_natCast])
theorem P_fitting {m : am_M} {a k : Int} (ha : am_s a = a) (hk : am_s k = k) (hI : Inv m) : PK 89 4 215 4 [.inl a, .inl k] m := by
  have hR := Inv_RWS hI
  have hv := Inv_vw hI
  have hF := may_lt (g := nv (m 54)) (nv0_le (Inv_wf hI))
  by_cases c : kru m a = 0
  · obtain ⟨c1, c2, c3⟩ := kru_0 c
    obtain ⟨J, rfl⟩ : ∃ J : Nat, a = (J : Int) := ⟨a.toNat, by omega⟩
    rw [Int.toNat_natCast] at c2 c3
    obtain ⟨v, hV⟩ := NTH_ex (ftq (nv (m 54)) (rwf m J)) (may (nv (m 54))) k
    have hcl := cf_le (Q := ftq (nv (m 54)) (rwf m J)) (may (nv (m 54)) + 1)
    refine PK_2 (h1 := 6) (h2 := 5) (v := .inl v) (R := fun m1 => kpC m m1) ?_ ?_ (by decide) (by decide)
    · refine u_89_0 ⟨⟨hR, hv, ha⟩, ?_⟩
      intro mx hmx
      obtain rfl := hmx.symm
      rw [kru_s, ha, Int.toNat_natCast]
      refine ⟨fun _ => ⟨by omega, ⟨hv, hR J (by omega), hk⟩, fun v2 m2 hm => ⟨?_, HEA_kpC hm.1⟩⟩, fun q => absurd c q⟩
      have h2 := hm.2
      rw [Inv_nv hI, ftq_row hI (by omega) c2 c3] at h2
      rw [NTH_fun hV h2]
    · intro m1 hk1
      obtain ⟨w1, w2, w3, w4, w5, w6, -⟩ := mod_pre (a := (J : Int)) hI hk1
      refine u_215_0 ⟨⟨w1, w2, ha⟩, fun m2 hm => ?_⟩
      rw [w3] at hm
      have hf := hm.2 c
      have hK := FITS_kpC hf
      unfold FITS at hf
      rw [Int.toNat_natCast, w4, w5] at hf
      obtain ⟨f1, f2, -⟩ := hf
      have e1 : am_s (m2 53 19 - 1) = m2 53 19 - 1 := by rw [f1]; exact am_s_id (by omega) (by omega)
      rw [w3, kru_s, hk, e1, t32 hk, t32 e1, show am_t 0 = 0 from rfl, as_iteN]
      refine ⟨fun _ q => by omega, fun y hy => ⟨?_, Inv_kpC hK w6⟩⟩
      rw [if_pos c] at hy
      have : NTH (ftq (nv (m 54)) (rwf m J)) (may (nv (m 54))) k y := by
        by_cases h : 0 ≤ k ∧ k ≤ m2 53 19 - 1
        · rw [if_neg (as_iteN.mpr h)] at hy
          obtain ⟨g1, g2, g3, g4⟩ := fits_k f2 k.toNat (by omega)
          exact Or.inl ⟨_, g2, g3, by omega, by rw [hy]; exact g1⟩
        · rw [if_pos (as_ite.mpr h)] at hy
          exact Or.inr ⟨by omega, hy⟩
      rw [NTH_fun this hV]
  · refine PK_2 (h1 := 6) (h2 := 5) (v := .inl (kru m a)) (R := fun m1 => m = m1) ?_ ?_ (by decide) (by decide)
    · refine u_89_0 ⟨⟨hR, hv, ha⟩, ?_⟩
      intro mx hmx
      obtain rfl := hmx.symm
      rw [kru_s]
      exact ⟨fun q => absurd q c, fun _ => ⟨rfl, rfl⟩⟩
    · rintro _ rfl
      obtain ⟨w1, w2, w3, w4, w5, w6, -⟩ := mod_pre (a := a) hI (kpC_refl m)
      refine u_215_0 ⟨⟨w1, w2, ha⟩, fun m2 hm => ?_⟩
      rw [w3] at hm
      have hm2 := hm.1 c
      subst hm2
      rw [w3, kru_s]
      refine ⟨fun q => absurd q c, fun y hy => ⟨?_, w6⟩⟩
      rw [hy, if_neg c]
def sur (Q : Nat → Bool) (F : Nat) (b : Int) : Int := if cf Q (F + 1) = 0 then 0 else if am_s b = 0 then fr (fun (y : Int) t => am_and y (am_xor (t : Int) (-1))) Q (F : Int) (F + 1) else fr (fun (x : Int) t => am_and x (t : Int)) Q (F : Int) (F + 1)
theorem wk_one {Q : Nat → Bool} {F : Nat} : ∀ i, wk (fun (_ : Int) _ => (1 : Int)) Q F 0 i = if wc Q F i = 0 then 0 else 1 := by
  intro i
  induction i with
  | zero => rfl
  | succ i ih =>
    rw [wk_s, wc_s]
    split
    · rw [if_neg (by omega)]
    · exact ih
theorem u_92_25 {Q : List am_V → am_M → Prop} {m : am_M} {r : Nat} {b : Int} {x : Int} {y : Int} {z : Int} {s : Int} {i : Int} (h_r : r ∈ rowL) (H : ((am_s (m 34 10) ≤ am_s i) → ((¬ am_s z = 0) → Q [.inl (if am_s b = 0 then y else x)] m) ∧ ((am_s z = 0) → Q [.inl 0] m)) ∧ ((¬ (am_s (m 34 10) ≤ am_s i)) → (ALW m ∧ 0 ≤ s ∧ s < 4096) ∧ (∀ (m1 : am_M), (m1 = m) → ((¬ (alb m s.toNat (m 2 4).toNat = true)) → ok 5 92 25 [some (.inr (.inr (some 34))), some (.inr (.inr (some r))), some (.inl b), some (.inl x), some (.inl y), some (.inl z), some (.inl (v_88 m1 s)), some (.inl (i + 1))] [] m1 Q) ∧ ((alb m s.toNat (m 2 4).toNat = true) → ok 5 92 25 [some (.inr (.inr (some 34))), some (.inr (.inr (some r))), some (.inl b), some (.inl (am_and x s)), some (.inl (am_and y (am_xor s (-1)))), some (.inl 1), some (.inl (v_88 m1 s)), some (.inl (i + 1))] [] m1 Q)))) : ok 5 92 25 [some (.inr (.inr (some 34))), some (.inr (.inr (some r))), some (.inl b), some (.inl x), some (.inl y), some (.inl z), some (.inl s), some (.inl i)] [] m Q := by
  refine ok_sg (pc' := 31) (ls' := [some (.inr (.inr (some 34))), some (.inr (.inr (some r))), some (.inl b), some (.inl x), some (.inl y), some (.inl z), some (.inl s), some (.inl i)]) (st' := [.inl (m 34 10), .inl i]) (m' := m) (fun fx hfx o hk => ?_) ?_
  · refine r_ld (pc' := 27) hM_92 d_92_25 rfl rfl ?_
    refine r_ld (pc' := 28) hM_92 d_92_27 rfl rfl ?_
    refine r_gI (pc' := 31) (k0 := 10) hM_92 d_92_28 rfl (by decide +kernel) ?_
    exact hk
  refine ok_ic (pc' := 74) (pc2 := 34) hM_92 d_92_31 (by decide) rfl (fun hz1 => ?_) (fun hz1 => ?_)
  · have H := H.1 hz1
    refine ok_sg (pc' := 76) (ls' := [some (.inr (.inr (some 34))), some (.inr (.inr (some r))), some (.inl b), some (.inl x), some (.inl y), some (.inl z), some (.inl s), some (.inl i)]) (st' := [.inl z]) (m' := m) (fun fx hfx o hk => ?_) ?_
    · refine r_ld (pc' := 76) hM_92 d_92_74 rfl rfl ?_
      exact hk
    refine ok_if (pc' := 81) (pc2 := 79) hM_92 d_92_76 (by decide) rfl (fun hz2 => ?_) (fun hz2 => ?_)
    · have H := H.1 hz2
      refine ok_sg (pc' := 82) (ls' := [some (.inr (.inr (some 34))), some (.inr (.inr (some r))), some (.inl b), some (.inl x), some (.inl y), some (.inl z), some (.inl s), some (.inl i)]) (st' := [.inl b]) (m' := m) (fun fx hfx o hk => ?_) ?_
      · refine r_ld (pc' := 82) hM_92 d_92_81 rfl rfl ?_
        exact hk
      refine ok_sg (pc' := 91) (ls' := [some (.inr (.inr (some 34))), some (.inr (.inr (some r))), some (.inl b), some (.inl x), some (.inl y), some (.inl z), some (.inl s), some (.inl i)]) (st' := [.inl (if am_s b = 0 then y else x)]) (m' := m) (fun fx hfx o K => ?_) ?_
      · refine r_if (pc' := 89) (pc2 := 85) hM_92 d_92_82 (by decide) rfl (fun hz3 => ?_) (fun hz3 => ?_)
        · have hz3 : am_s b = 0 := hz3
          rw [if_pos hz3] at K
          refine r_ld (pc' := 91) hM_92 d_92_89 rfl rfl ?_
          exact K
        · have hz3 : ¬ (am_s b = 0) := hz3
          rw [if_neg hz3] at K
          refine r_ld (pc' := 86) hM_92 d_92_85 rfl rfl ?_
          refine r_go (pc' := 91) hM_92 d_92_86 (by decide) ?_
          exact K
      exact ok_rt (fun fx _ => rt_i hM_92 d_92_91 rfl) H
    · have H := H.2 (Decidable.not_not.mp hz2)
      refine ok_sg (pc' := 80) (ls' := [some (.inr (.inr (some 34))), some (.inr (.inr (some r))), some (.inl b), some (.inl x), some (.inl y), some (.inl z), some (.inl s), some (.inl i)]) (st' := [.inl 0]) (m' := m) (fun fx hfx o hk => ?_) ?_
      · refine r_k (pc' := 80) (v := .inl 0) hM_92 d_92_79 rfl rfl ?_
        exact hk
      exact ok_rt (fun fx _ => rt_i hM_92 d_92_80 rfl) H
  · have H := H.2 hz1
    obtain ⟨hz4, H⟩ := H
    refine ok_sg (pc' := 37) (ls' := [some (.inr (.inr (some 34))), some (.inr (.inr (some r))), some (.inl b), some (.inl x), some (.inl y), some (.inl z), some (.inl s), some (.inl i)]) (st' := [.inl s, .inr (.inr (some 34))]) (m' := m) (fun fx hfx o hk => ?_) ?_
    · refine r_ld (pc' := 35) hM_92 d_92_34 rfl rfl ?_
      refine r_ld (pc' := 37) hM_92 d_92_35 rfl rfl ?_
      exact hk
    refine ok_cl (pc' := 40) (c := (86, 0)) (a := [.inr (.inr (some 34)), .inl s]) (q := []) hM_92 d_92_37 rfl (by decide +kernel) hM_86 rfl rfl rfl (Nat.le_of_ble_eq_true rfl) (Nat.le_of_ble_eq_true rfl) (Or.inr rfl) (z_86  m s hz4) (Nat.le_of_ble_eq_true rfl) ?_
    rintro _ m1 ⟨rfl, hz5⟩
    replace H := H  m1 hz5
    show ok 5 92 40 [some (.inr (.inr (some 34))), some (.inr (.inr (some r))), some (.inl b), some (.inl x), some (.inl y), some (.inl z), some (.inl s), some (.inl i)] [.inl (if alb m s.toNat (m 2 4).toNat = true then 1 else 0)] m1 Q
    refine ok_if (pc' := 60) (pc2 := 43) hM_92 d_92_40 (by decide) rfl (fun hz6 => ?_) (fun hz6 => ?_)
    · have H := H.1 (as_ite.mp hz6)
      refine ok_sg (pc' := 25) (ls' := [some (.inr (.inr (some 34))), some (.inr (.inr (some r))), some (.inl b), some (.inl x), some (.inl y), some (.inl z), some (.inl (v_88 m1 s)), some (.inl (i + 1))]) (st' := []) (m' := m1) (fun fx hfx o hk => ?_) ?_
      · refine r_ld (pc' := 61) hM_92 d_92_60 rfl rfl ?_
        refine r_ld (pc' := 63) hM_92 d_92_61 rfl rfl ?_
        refine r_cl (pc' := 66) (c := (88, 0)) (a := [.inr (.inr (some 34)), .inl s]) (q := []) hM_92 d_92_63 rfl (by decide +kernel) hM_88 rfl rfl rfl (Nat.le_of_ble_eq_true rfl) (Nat.le_of_ble_eq_true rfl) (Or.inr rfl) (c_88  m1 s) (Nat.le_of_ble_eq_true rfl) ?_
        show rn fx 5 (0, 0) 92 66 [some (.inr (.inr (some 34))), some (.inr (.inr (some r))), some (.inl b), some (.inl x), some (.inl y), some (.inl z), some (.inl s), some (.inl i)] [.inl (v_88 m1 s)] (st0 m1) o
        refine r_sto (pc' := 68) (ls' := [some (.inr (.inr (some 34))), some (.inr (.inr (some r))), some (.inl b), some (.inl x), some (.inl y), some (.inl z), some (.inl (v_88 m1 s)), some (.inl i)]) hM_92 d_92_66 rfl rfl ?_
        refine r_sto (pc' := 71) (ls' := [some (.inr (.inr (some 34))), some (.inr (.inr (some r))), some (.inl b), some (.inl x), some (.inl y), some (.inl z), some (.inl (v_88 m1 s)), some (.inl (i + 1))]) hM_92 d_92_68 rfl rfl ?_
        refine r_go (pc' := 25) hM_92 d_92_71 (by decide) ?_
        exact hk
      exact H
    · have H := H.2 (as_iteN.mp hz6)
      refine ok_sg (pc' := 25) (ls' := [some (.inr (.inr (some 34))), some (.inr (.inr (some r))), some (.inl b), some (.inl (am_and x s)), some (.inl (am_and y (am_xor s (-1)))), some (.inl 1), some (.inl (v_88 m1 s)), some (.inl (i + 1))]) (st' := []) (m' := m1) (fun fx hfx o hk => ?_) ?_
      · refine r_k (pc' := 44) (v := .inl 1) hM_92 d_92_43 rfl rfl ?_
        refine r_sto (pc' := 46) (ls' := [some (.inr (.inr (some 34))), some (.inr (.inr (some r))), some (.inl b), some (.inl x), some (.inl y), some (.inl 1), some (.inl s), some (.inl i)]) hM_92 d_92_44 rfl rfl ?_
        refine r_ld (pc' := 47) hM_92 d_92_46 rfl rfl ?_
        refine r_ld (pc' := 49) hM_92 d_92_47 rfl rfl ?_
        refine r_b (pc' := 50) (z := (am_and x s)) hM_92 d_92_49 rfl rfl ?_
        refine r_sto (pc' := 51) (ls' := [some (.inr (.inr (some 34))), some (.inr (.inr (some r))), some (.inl b), some (.inl (am_and x s)), some (.inl y), some (.inl 1), some (.inl s), some (.inl i)]) hM_92 d_92_50 rfl rfl ?_
        refine r_ld (pc' := 53) hM_92 d_92_51 rfl rfl ?_
        refine r_ld (pc' := 55) hM_92 d_92_53 rfl rfl ?_
        refine r_k (pc' := 56) (v := .inl (-1)) hM_92 d_92_55 rfl rfl ?_
        refine r_b (pc' := 57) (z := (am_xor s (-1))) hM_92 d_92_56 rfl rfl ?_
        refine r_b (pc' := 58) (z := (am_and y (am_xor s (-1)))) hM_92 d_92_57 rfl rfl ?_
        refine r_sto (pc' := 60) (ls' := [some (.inr (.inr (some 34))), some (.inr (.inr (some r))), some (.inl b), some (.inl (am_and x s)), some (.inl (am_and y (am_xor s (-1)))), some (.inl 1), some (.inl s), some (.inl i)]) hM_92 d_92_58 rfl rfl ?_
        refine r_ld (pc' := 61) hM_92 d_92_60 rfl rfl ?_
        refine r_ld (pc' := 63) hM_92 d_92_61 rfl rfl ?_
        refine r_cl (pc' := 66) (c := (88, 0)) (a := [.inr (.inr (some 34)), .inl s]) (q := []) hM_92 d_92_63 rfl (by decide +kernel) hM_88 rfl rfl rfl (Nat.le_of_ble_eq_true rfl) (Nat.le_of_ble_eq_true rfl) (Or.inr rfl) (c_88  m1 s) (Nat.le_of_ble_eq_true rfl) ?_
        show rn fx 5 (0, 0) 92 66 [some (.inr (.inr (some 34))), some (.inr (.inr (some r))), some (.inl b), some (.inl (am_and x s)), some (.inl (am_and y (am_xor s (-1)))), some (.inl 1), some (.inl s), some (.inl i)] [.inl (v_88 m1 s)] (st0 m1) o
        refine r_sto (pc' := 68) (ls' := [some (.inr (.inr (some 34))), some (.inr (.inr (some r))), some (.inl b), some (.inl (am_and x s)), some (.inl (am_and y (am_xor s (-1)))), some (.inl 1), some (.inl (v_88 m1 s)), some (.inl i)]) hM_92 d_92_66 rfl rfl ?_
        refine r_sto (pc' := 71) (ls' := [some (.inr (.inr (some 34))), some (.inr (.inr (some r))), some (.inl b), some (.inl (am_and x s)), some (.inl (am_and y (am_xor s (-1)))), some (.inl 1), some (.inl (v_88 m1 s)), some (.inl (i + 1))]) hM_92 d_92_68 rfl rfl ?_
        refine r_go (pc' := 25) hM_92 d_92_71 (by decide) ?_
        exact hk
      exact H
theorem u_92_0 {Q : List am_V → am_M → Prop} {m : am_M} {r : Nat} {b : Int} (h_r : r ∈ rowL) (H : (WFG (vw m 2) ∧ RWC m r) ∧ (∀ (m1 : am_M), (HEA m r m1) → ok 5 92 25 [some (.inr (.inr (some 34))), some (.inr (.inr (some r))), some (.inl b), some (.inl (m1 34 9)), some (.inl (m1 34 9)), some (.inl 0), some (.inl 0), some (.inl 0)] [] m1 Q)) : ok 5 92 0 [some (.inr (.inr (some 34))), some (.inr (.inr (some r))), some (.inl b), none, none, none, none, none] [] m Q := by
  obtain ⟨hz1, H⟩ := H
  refine ok_sg (pc' := 2) (ls' := [some (.inr (.inr (some 34))), some (.inr (.inr (some r))), some (.inl b), none, none, none, none, none]) (st' := [.inr (.inr (some r)), .inr (.inr (some 34))]) (m' := m) (fun fx hfx o hk => ?_) ?_
  · refine r_ld (pc' := 1) hM_92 d_92_0 rfl rfl ?_
    refine r_ld (pc' := 2) hM_92 d_92_1 rfl rfl ?_
    exact hk
  refine ok_cl (pc' := 5) (c := (82, 0)) (a := [.inr (.inr (some 34)), .inr (.inr (some r))]) (q := []) hM_92 d_92_2 rfl (by decide +kernel) hM_82 rfl rfl rfl (Nat.le_of_ble_eq_true rfl) (Nat.le_of_ble_eq_true rfl) (Or.inr rfl) (z_82 h_r m  hz1) (Nat.le_of_ble_eq_true rfl) ?_
  rintro _ m1 ⟨rfl, hz2⟩
  replace H := H  m1 hz2
  show ok 5 92 5 [some (.inr (.inr (some 34))), some (.inr (.inr (some r))), some (.inl b), none, none, none, none, none] [] m1 Q
  refine ok_sg (pc' := 25) (ls' := [some (.inr (.inr (some 34))), some (.inr (.inr (some r))), some (.inl b), some (.inl (m1 34 9)), some (.inl (m1 34 9)), some (.inl 0), some (.inl 0), some (.inl 0)]) (st' := []) (m' := m1) (fun fx hfx o hk => ?_) ?_
  · refine r_ld (pc' := 6) hM_92 d_92_5 rfl rfl ?_
    refine r_gI (pc' := 9) (k0 := 9) hM_92 d_92_6 rfl (by decide +kernel) ?_
    refine r_sto (pc' := 10) (ls' := [some (.inr (.inr (some 34))), some (.inr (.inr (some r))), some (.inl b), some (.inl (m1 34 9)), none, none, none, none]) hM_92 d_92_9 rfl rfl ?_
    refine r_ld (pc' := 11) hM_92 d_92_10 rfl rfl ?_
    refine r_gI (pc' := 14) (k0 := 9) hM_92 d_92_11 rfl (by decide +kernel) ?_
    refine r_sto (pc' := 16) (ls' := [some (.inr (.inr (some 34))), some (.inr (.inr (some r))), some (.inl b), some (.inl (m1 34 9)), some (.inl (m1 34 9)), none, none, none]) hM_92 d_92_14 rfl rfl ?_
    refine r_k (pc' := 17) (v := .inl 0) hM_92 d_92_16 rfl rfl ?_
    refine r_sto (pc' := 19) (ls' := [some (.inr (.inr (some 34))), some (.inr (.inr (some r))), some (.inl b), some (.inl (m1 34 9)), some (.inl (m1 34 9)), some (.inl 0), none, none]) hM_92 d_92_17 rfl rfl ?_
    refine r_k (pc' := 20) (v := .inl 0) hM_92 d_92_19 rfl rfl ?_
    refine r_sto (pc' := 22) (ls' := [some (.inr (.inr (some 34))), some (.inr (.inr (some r))), some (.inl b), some (.inl (m1 34 9)), some (.inl (m1 34 9)), some (.inl 0), some (.inl 0), none]) hM_92 d_92_20 rfl rfl ?_
    refine r_k (pc' := 23) (v := .inl 0) hM_92 d_92_22 rfl rfl ?_
    refine r_sto (pc' := 25) (ls' := [some (.inr (.inr (some 34))), some (.inr (.inr (some r))), some (.inl b), some (.inl (m1 34 9)), some (.inl (m1 34 9)), some (.inl 0), some (.inl 0), some (.inl 0)]) hM_92 d_92_23 rfl rfl ?_
    exact hk
  exact H
theorem z_92 {r : Nat} (h_r : r ∈ rowL) (m : am_M) (b : Int) (hq : WFG (vw m 2) ∧ RWC m r) : ok 5 92 0 (am_ent 8 [.inr (.inr (some 34)), .inr (.inr (some r)), .inl b]) [] m (fun rr m' => rr = [.inl ((sur (ftq (nv (vw m 2)) (fun x => rat m r (x : Int))) (may (nv (vw m 2))) b))] ∧ HEA m r m') := by
  show ok 5 92 0 [some (.inr (.inr (some 34))), some (.inr (.inr (some r))), some (.inl b), none, none, none, none, none] [] m _
  obtain ⟨hw, hR⟩ := hq
  refine u_92_0 h_r ⟨⟨hw, hR⟩, fun m1 h1 => ?_⟩
  have hA := HEA_ALW hw h1
  have hFm : may (nv (vw m 2)) = (m1 34 9).toNat := by rw [h1.1, Int.toNat_natCast]
  rw [← HEA_alq hw h1, hFm]
  obtain ⟨hw1, hF, hc, hb⟩ := id hA
  have hFl : (m1 34 9).toNat < 4096 := by omega
  have hF9 : m1 34 9 = (((m1 34 9).toNat : Nat) : Int) := by omega
  have hcp := cp_lt (F := (m1 34 9).toNat)
  have e10 : am_s (m1 34 10) = ((2 ^ cnt (m1 34 9).toNat 12 : Nat) : Int) := by rw [hc]; exact cp_s
  refine ok_for (σ := Unit) (fun i _ => [some (.inr (.inr (some 34))), some (.inr (.inr (some r))), some (.inl b), some (.inl (wk (fun (x : Int) t => am_and x (t : Int)) (alq m1) (m1 34 9).toNat (m1 34 9) i)), some (.inl (wk (fun (y : Int) t => am_and y (am_xor (t : Int) (-1))) (alq m1) (m1 34 9).toNat (m1 34 9) i)), some (.inl (wk (fun (_ : Int) _ => (1 : Int)) (alq m1) (m1 34 9).toNat 0 i)), some (.inl ((en (m1 34 9).toNat i : Nat) : Int)), some (.inl (i : Int))]) (fun i _ M => M = m1) (2 ^ cnt (m1 34 9).toNat 12) ?_ ?_ () m1 rfl
  · rintro i hi - M rfl IH
    have hl := en_lt hFl hi
    refine u_92_25 h_r ?_
    rw [e10, am_s_id (z := (i : Int)) (by omega) (by omega), Int.toNat_natCast]
    refine ⟨fun q => by omega, fun _ => ⟨⟨hA, by omega, by omega⟩, ?_⟩⟩
    intro mx hmx
    obtain rfl := hmx.symm
    rw [v88 hF9 hFl]
    have := IH () M rfl
    rw [wk_s, wk_s, wk_s, alq_en hFl hi] at this
    refine ⟨fun q => ?_, fun q => ?_⟩
    · rw [if_neg q, if_neg q, if_neg q] at this
      exact this
    · rw [if_pos q, if_pos q, if_pos q] at this
      exact this
  · rintro - M rfl
    have hsb : ∀ t, alq M t = true → sb (M 34 9).toNat t := fun t h => alq_sb h
    refine u_92_25 h_r ?_
    rw [e10, cp_s, wk_one, wc_all hFl hsb, wk_all hFl hsb, wk_all hFl hsb]
    refine ⟨fun _ => ⟨fun q => ⟨?_, h1⟩, fun q => ⟨?_, h1⟩⟩, fun q => by omega⟩
    · unfold sur
      have hn : ¬ cf (alq M) ((M 34 9).toNat + 1) = 0 := by
        intro h
        rw [if_pos h] at q
        exact q rfl
      rw [if_neg hn, ← hF9]
    · unfold sur
      have hn : cf (alq M) ((M 34 9).toNat + 1) = 0 := by
        by_cases h : cf (alq M) ((M 34 9).toNat + 1) = 0
        · exact h
        · rw [if_neg h] at q
          exact absurd q (by decide)
      rw [if_pos hn]
theorem u_91_0 {Q : List am_V → am_M → Prop} {m : am_M} {a : Int} {b : Int}  (H : (RWS m ∧ WFG (vw m 2) ∧ am_s a = a) ∧ (∀ (m1 : am_M), (m1 = m) → ((am_s (kru m a) = 0) → (0 ≤ am_s a ∧ am_s a < (4 : Nat)) ∧ ((WFG (vw m1 2) ∧ RWC m1 (25 + 2 * (am_s a).toNat)) ∧ (∀ (m2 : am_M), (HEA m1 (25 + 2 * (am_s a).toNat) m2) → Q [.inl (sur (ftq (nv (vw m1 2)) (fun x => rat m1 (25 + 2 * (am_s a).toNat) (x : Int))) (may (nv (vw m1 2))) b)] m2))) ∧ ((¬ (am_s (kru m a) = 0)) → Q [.inl (kru m a)] m1))) : ok 6 91 0 [some (.inr (.inr (some 0))), some (.inl a), some (.inl b), none] [] m Q := by
  obtain ⟨hz1, H⟩ := H
  refine ok_sg (pc' := 2) (ls' := [some (.inr (.inr (some 0))), some (.inl a), some (.inl b), none]) (st' := [.inl a, .inr (.inr (some 0))]) (m' := m) (fun fx hfx o hk => ?_) ?_
  · refine r_ld (pc' := 1) hM_91 d_91_0 rfl rfl ?_
    refine r_ld (pc' := 2) hM_91 d_91_1 rfl rfl ?_
    exact hk
  refine ok_cl (pc' := 5) (c := (80, 0)) (a := [.inr (.inr (some 0)), .inl a]) (q := []) hM_91 d_91_2 rfl (by decide +kernel) hM_80 rfl rfl rfl (Nat.le_of_ble_eq_true rfl) (Nat.le_of_ble_eq_true rfl) (Or.inr rfl) (z_80  m a hz1) (Nat.le_of_ble_eq_true rfl) ?_
  rintro _ m1 ⟨rfl, hz2⟩
  replace H := H  m1 hz2
  show ok 6 91 5 [some (.inr (.inr (some 0))), some (.inl a), some (.inl b), none] [.inl (kru m a)] m1 Q
  refine ok_sg (pc' := 7) (ls' := [some (.inr (.inr (some 0))), some (.inl a), some (.inl b), some (.inl (kru m a))]) (st' := [.inl (kru m a)]) (m' := m1) (fun fx hfx o hk => ?_) ?_
  · refine r_sto (pc' := 6) (ls' := [some (.inr (.inr (some 0))), some (.inl a), some (.inl b), some (.inl (kru m a))]) hM_91 d_91_5 rfl rfl ?_
    refine r_ld (pc' := 7) hM_91 d_91_6 rfl rfl ?_
    exact hk
  refine ok_if (pc' := 14) (pc2 := 10) hM_91 d_91_7 (by decide) rfl (fun hz3 => ?_) (fun hz3 => ?_)
  · have H := H.1 hz3
    obtain ⟨hz4, H⟩ := H
    obtain ⟨hz5, H⟩ := H
    refine ok_sg (pc' := 25) (ls' := [some (.inr (.inr (some 0))), some (.inl a), some (.inl b), some (.inl (kru m a))]) (st' := [.inl b, .inr (.inr (some (25 + 2 * (am_s a).toNat))), .inr (.inr (some 34))]) (m' := m1) (fun fx hfx o hk => ?_) ?_
    · refine r_ld (pc' := 15) hM_91 d_91_14 rfl rfl ?_
      refine r_gR (pc' := 18) (v := 34) hM_91 d_91_15 rfl (by decide +kernel) ?_
      refine r_ld (pc' := 19) hM_91 d_91_18 rfl rfl ?_
      refine r_gR (pc' := 22) (v := 14) hM_91 d_91_19 rfl (by decide +kernel) ?_
      refine r_ld (pc' := 23) hM_91 d_91_22 rfl rfl ?_
      refine r_aa (pc' := 24) (n := 4) hM_91 d_91_23 rfl rfl (by decide) hz4 (rfRows hz4).1 (shRk (rfRows hz4).2).1 ?_
      refine r_ld (pc' := 25) hM_91 d_91_24 rfl rfl ?_
      exact hk
    refine ok_cl (pc' := 28) (c := (92, 0)) (a := [.inr (.inr (some 34)), .inr (.inr (some (25 + 2 * (am_s a).toNat))), .inl b]) (q := []) hM_91 d_91_25 rfl (by decide +kernel) hM_92 rfl rfl rfl (Nat.le_of_ble_eq_true rfl) (Nat.le_of_ble_eq_true rfl) (Or.inr rfl) (z_92 ((rfRows hz4).2) m1 b hz5) (Nat.le_of_ble_eq_true rfl) ?_
    rintro _ m2 ⟨rfl, hz6⟩
    replace H := H  m2 hz6
    show ok 6 91 28 [some (.inr (.inr (some 0))), some (.inl a), some (.inl b), some (.inl (kru m a))] [.inl (sur (ftq (nv (vw m1 2)) (fun x => rat m1 (25 + 2 * (am_s a).toNat) (x : Int))) (may (nv (vw m1 2))) b)] m2 Q
    exact ok_rt (fun fx _ => rt_i hM_91 d_91_28 rfl) H
  · have H := H.2 hz3
    refine ok_sg (pc' := 28) (ls' := [some (.inr (.inr (some 0))), some (.inl a), some (.inl b), some (.inl (kru m a))]) (st' := [.inl (kru m a)]) (m' := m1) (fun fx hfx o hk => ?_) ?_
    · refine r_ld (pc' := 11) hM_91 d_91_10 rfl rfl ?_
      refine r_go (pc' := 28) hM_91 d_91_11 (by decide) ?_
      exact hk
    exact ok_rt (fun fx _ => rt_i hM_91 d_91_28 rfl) H
theorem u_216_40 {Q : List am_V → am_M → Prop} {m : am_M} {a : Int} {b : Int} {s : Int} {k : Int}  (H : ((am_s (m 53 19) ≤ am_s k) → Q [.inl s] m) ∧ ((¬ (am_s (m 53 19) ≤ am_s k)) → ((am_s b = 0) → (0 ≤ am_s k ∧ am_s k < (4096 : Nat))) ∧ (((¬ (am_s b = 0)) → (0 ≤ am_s k ∧ am_s k < (4096 : Nat))) ∧ (∀ y1 : Int, y1 = (if am_s b = 0 then (am_xor (m 59 ((am_s k).toNat)) (-1)) else (m 59 ((am_s k).toNat))) → ok 5 216 40 [some (.inr (.inr (some 53))), some (.inl a), some (.inl b), none, some (.inl (am_and s y1)), some (.inl (k + 1))] [] m Q)))) : ok 5 216 40 [some (.inr (.inr (some 53))), some (.inl a), some (.inl b), none, some (.inl s), some (.inl k)] [] m Q := by
  refine ok_sg (pc' := 46) (ls' := [some (.inr (.inr (some 53))), some (.inl a), some (.inl b), none, some (.inl s), some (.inl k)]) (st' := [.inl (m 53 19), .inl k]) (m' := m) (fun fx hfx o hk => ?_) ?_
  · refine r_ld (pc' := 42) hM_216 d_216_40 rfl rfl ?_
    refine r_ld (pc' := 43) hM_216 d_216_42 rfl rfl ?_
    refine r_gI (pc' := 46) (k0 := 19) hM_216 d_216_43 rfl (by decide +kernel) ?_
    exact hk
  refine ok_ic (pc' := 83) (pc2 := 49) hM_216 d_216_46 (by decide) rfl (fun hz1 => ?_) (fun hz1 => ?_)
  · have H := H.1 hz1
    refine ok_sg (pc' := 85) (ls' := [some (.inr (.inr (some 53))), some (.inl a), some (.inl b), none, some (.inl s), some (.inl k)]) (st' := [.inl s]) (m' := m) (fun fx hfx o hk => ?_) ?_
    · refine r_ld (pc' := 85) hM_216 d_216_83 rfl rfl ?_
      exact hk
    exact ok_rt (fun fx _ => rt_i hM_216 d_216_85 rfl) H
  · have H := H.2 hz1
    obtain ⟨hz3, H⟩ := H
    obtain ⟨hz4, H⟩ := H
    refine ok_sg (pc' := 52) (ls' := [some (.inr (.inr (some 53))), some (.inl a), some (.inl b), none, some (.inl s), some (.inl k)]) (st' := [.inl b, .inl s]) (m' := m) (fun fx hfx o hk => ?_) ?_
    · refine r_ld (pc' := 51) hM_216 d_216_49 rfl rfl ?_
      refine r_ld (pc' := 52) hM_216 d_216_51 rfl rfl ?_
      exact hk
    refine ok_sg (pc' := 74) (ls' := [some (.inr (.inr (some 53))), some (.inl a), some (.inl b), none, some (.inl s), some (.inl k)]) (st' := [.inl (if am_s b = 0 then (am_xor (m 59 ((am_s k).toNat)) (-1)) else (m 59 ((am_s k).toNat))), .inl s]) (m' := m) (fun fx hfx o K => ?_) ?_
    · refine r_if (pc' := 65) (pc2 := 55) hM_216 d_216_52 (by decide) rfl (fun hz2 => ?_) (fun hz2 => ?_)
      · have hz2 : am_s b = 0 := hz2
        rw [if_pos hz2] at K
        refine r_ld (pc' := 66) hM_216 d_216_65 rfl rfl ?_
        refine r_gR (pc' := 69) (v := 59) hM_216 d_216_66 rfl (by decide +kernel) ?_
        refine r_ld (pc' := 71) hM_216 d_216_69 rfl rfl ?_
        refine r_ia (pc' := 72) (n := 4096) hM_216 d_216_71 rfl rfl (hz3 hz2) ?_
        refine r_k (pc' := 73) (v := .inl (-1)) hM_216 d_216_72 rfl rfl ?_
        refine r_b (pc' := 74) (z := (am_xor (m 59 ((am_s k).toNat)) (-1))) hM_216 d_216_73 rfl rfl ?_
        exact K
      · have hz2 : ¬ (am_s b = 0) := hz2
        rw [if_neg hz2] at K
        refine r_ld (pc' := 56) hM_216 d_216_55 rfl rfl ?_
        refine r_gR (pc' := 59) (v := 59) hM_216 d_216_56 rfl (by decide +kernel) ?_
        refine r_ld (pc' := 61) hM_216 d_216_59 rfl rfl ?_
        refine r_ia (pc' := 62) (n := 4096) hM_216 d_216_61 rfl rfl (hz4 hz2) ?_
        refine r_go (pc' := 74) hM_216 d_216_62 (by decide) ?_
        exact K
    have K : ∀ y1 : Int, y1 = (if am_s b = 0 then (am_xor (m 59 ((am_s k).toNat)) (-1)) else (m 59 ((am_s k).toNat))) → ok 5 216 74 [some (.inr (.inr (some 53))), some (.inl a), some (.inl b), none, some (.inl s), some (.inl k)] [.inl y1, .inl s] m Q := by
      intro y1 hy1
      replace H := H y1 hy1
      refine ok_sg (pc' := 40) (ls' := [some (.inr (.inr (some 53))), some (.inl a), some (.inl b), none, some (.inl (am_and s y1)), some (.inl (k + 1))]) (st' := []) (m' := m) (fun fx hfx o hk => ?_) ?_
      · refine r_b (pc' := 75) (z := (am_and s y1)) hM_216 d_216_74 rfl rfl ?_
        refine r_sto (pc' := 77) (ls' := [some (.inr (.inr (some 53))), some (.inl a), some (.inl b), none, some (.inl (am_and s y1)), some (.inl k)]) hM_216 d_216_75 rfl rfl ?_
        refine r_sto (pc' := 80) (ls' := [some (.inr (.inr (some 53))), some (.inl a), some (.inl b), none, some (.inl (am_and s y1)), some (.inl (k + 1))]) hM_216 d_216_77 rfl rfl ?_
        refine r_go (pc' := 40) hM_216 d_216_80 (by decide) ?_
        exact hk
      exact H
    exact K _ rfl
theorem u_216_0 {Q : List am_V → am_M → Prop} {m : am_M} {a : Int} {b : Int}  (H : (WFG ((mu m 53 0 0) 54) ∧ RWM (mu m 53 0 0) ∧ am_s a = a) ∧ (∀ (m1 : am_M), ((krm (mu m 53 0 0) a ≠ 0 → m1 = (mu m 53 0 0)) ∧ (krm (mu m 53 0 0) a = 0 → FITS (mu m 53 0 0) a.toNat m1)) → ((¬ am_s (krm (mu m 53 0 0) a) = 0) → Q [.inl (krm (mu m 53 0 0) a)] m1) ∧ ((am_s (krm (mu m 53 0 0) a) = 0) → ((¬ am_s (m1 53 19) = 0) → (WFG (m1 54)) ∧ (ok 5 216 40 [some (.inr (.inr (some 53))), some (.inl a), some (.inl b), none, some (.inl (am_or (((ons (nv (m1 54)) (am_s 0) : Nat) : Int)) (((ons (nv (m1 54)) (am_s 1) : Nat) : Int)))), some (.inl 0)] [] m1 Q)) ∧ ((am_s (m1 53 19) = 0) → Q [.inl (krm (mu m 53 0 0) a)] m1)))) : ok 5 216 0 [some (.inr (.inr (some 53))), some (.inl a), some (.inl b), none, none, none] [] m Q := by
  obtain ⟨hz1, H⟩ := H
  refine ok_sg (pc' := 7) (ls' := [some (.inr (.inr (some 53))), some (.inl a), some (.inl b), none, none, none]) (st' := [.inl a, .inr (.inr (some 53))]) (m' := mu m 53 0 0) (fun fx hfx o hk => ?_) ?_
  · refine r_ld (pc' := 1) hM_216 d_216_0 rfl rfl ?_
    refine r_k (pc' := 2) (v := .inl 0) hM_216 d_216_1 rfl rfl ?_
    refine r_pI (pc' := 5) (k0 := 0) hM_216 d_216_2 rfl (by decide +kernel) ?_
    refine r_ld (pc' := 6) hM_216 d_216_5 rfl rfl ?_
    refine r_ld (pc' := 7) hM_216 d_216_6 rfl rfl ?_
    exact hk
  refine ok_cl (pc' := 10) (c := (213, 0)) (a := [.inr (.inr (some 53)), .inl a]) (q := []) hM_216 d_216_7 rfl (by decide +kernel) hM_213 rfl rfl rfl (Nat.le_of_ble_eq_true rfl) (Nat.le_of_ble_eq_true rfl) (Or.inr rfl) (z_213  (mu m 53 0 0) a hz1) (Nat.le_of_ble_eq_true rfl) ?_
  rintro _ m1 ⟨rfl, hz2⟩
  replace H := H  m1 hz2
  show ok 5 216 10 [some (.inr (.inr (some 53))), some (.inl a), some (.inl b), none, none, none] [.inl (krm (mu m 53 0 0) a)] m1 Q
  refine ok_sg (pc' := 12) (ls' := [some (.inr (.inr (some 53))), some (.inl a), some (.inl b), some (.inl (krm (mu m 53 0 0) a)), none, none]) (st' := [.inl (krm (mu m 53 0 0) a)]) (m' := m1) (fun fx hfx o hk => ?_) ?_
  · refine r_sto (pc' := 11) (ls' := [some (.inr (.inr (some 53))), some (.inl a), some (.inl b), some (.inl (krm (mu m 53 0 0) a)), none, none]) hM_216 d_216_10 rfl rfl ?_
    refine r_ld (pc' := 12) hM_216 d_216_11 rfl rfl ?_
    exact hk
  refine ok_if (pc' := 22) (pc2 := 15) hM_216 d_216_12 (by decide) rfl (fun hz3 => ?_) (fun hz3 => ?_)
  · have H := H.1 hz3
    refine ok_sg (pc' := 23) (ls' := [some (.inr (.inr (some 53))), some (.inl a), some (.inl b), some (.inl (krm (mu m 53 0 0) a)), none, none]) (st' := [.inl (krm (mu m 53 0 0) a)]) (m' := m1) (fun fx hfx o hk => ?_) ?_
    · refine r_ld (pc' := 23) hM_216 d_216_22 rfl rfl ?_
      exact hk
    exact ok_rt (fun fx _ => rt_i hM_216 d_216_23 rfl) H
  · have H := H.2 (Decidable.not_not.mp hz3)
    refine ok_sg (pc' := 19) (ls' := [some (.inr (.inr (some 53))), some (.inl a), some (.inl b), some (.inl (krm (mu m 53 0 0) a)), none, none]) (st' := [.inl (m1 53 19)]) (m' := m1) (fun fx hfx o hk => ?_) ?_
    · refine r_ld (pc' := 16) hM_216 d_216_15 rfl rfl ?_
      refine r_gI (pc' := 19) (k0 := 19) hM_216 d_216_16 rfl (by decide +kernel) ?_
      exact hk
    refine ok_if (pc' := 24) (pc2 := 22) hM_216 d_216_19 (by decide) rfl (fun hz4 => ?_) (fun hz4 => ?_)
    · have H := H.1 hz4
      obtain ⟨hz5, H⟩ := H
      refine ok_sg (pc' := 40) (ls' := [some (.inr (.inr (some 53))), some (.inl a), some (.inl b), none, some (.inl (am_or (((ons (nv (m1 54)) (am_s 0) : Nat) : Int)) (((ons (nv (m1 54)) (am_s 1) : Nat) : Int)))), some (.inl 0)]) (st' := []) (m' := m1) (fun fx hfx o hk => ?_) ?_
      · refine r_ld (pc' := 25) hM_216 d_216_24 rfl rfl ?_
        refine r_k (pc' := 26) (v := .inl 0) hM_216 d_216_25 rfl rfl ?_
        refine r_cl (pc' := 29) (c := (192, 0)) (a := [.inr (.inr (some 53)), .inl 0]) (q := []) hM_216 d_216_26 rfl (by decide +kernel) hM_192 rfl rfl rfl (Nat.le_of_ble_eq_true rfl) (Nat.le_of_ble_eq_true rfl) (Or.inr rfl) (c_192  m1 0 hz5) (Nat.le_of_ble_eq_true rfl) ?_
        show rn fx 5 (0, 0) 216 29 [some (.inr (.inr (some 53))), some (.inl a), some (.inl b), some (.inl (krm (mu m 53 0 0) a)), none, none] [.inl (((ons (nv (m1 54)) (am_s 0) : Nat) : Int))] (st0 m1) o
        refine r_ld (pc' := 30) hM_216 d_216_29 rfl rfl ?_
        refine r_k (pc' := 31) (v := .inl 1) hM_216 d_216_30 rfl rfl ?_
        refine r_cl (pc' := 34) (c := (192, 0)) (a := [.inr (.inr (some 53)), .inl 1]) (q := [.inl (((ons (nv (m1 54)) (am_s 0) : Nat) : Int))]) hM_216 d_216_31 rfl (by decide +kernel) hM_192 rfl rfl rfl (Nat.le_of_ble_eq_true rfl) (Nat.le_of_ble_eq_true rfl) (Or.inr rfl) (c_192  m1 1 hz5) (Nat.le_of_ble_eq_true rfl) ?_
        show rn fx 5 (0, 0) 216 34 [some (.inr (.inr (some 53))), some (.inl a), some (.inl b), some (.inl (krm (mu m 53 0 0) a)), none, none] [.inl (((ons (nv (m1 54)) (am_s 1) : Nat) : Int)), .inl (((ons (nv (m1 54)) (am_s 0) : Nat) : Int))] (st0 m1) o
        refine r_b (pc' := 35) (z := (am_or (((ons (nv (m1 54)) (am_s 0) : Nat) : Int)) (((ons (nv (m1 54)) (am_s 1) : Nat) : Int)))) hM_216 d_216_34 rfl rfl ?_
        refine r_sto (pc' := 37) (ls' := [some (.inr (.inr (some 53))), some (.inl a), some (.inl b), some (.inl (krm (mu m 53 0 0) a)), some (.inl (am_or (((ons (nv (m1 54)) (am_s 0) : Nat) : Int)) (((ons (nv (m1 54)) (am_s 1) : Nat) : Int)))), none]) hM_216 d_216_35 rfl rfl ?_
        refine r_k (pc' := 38) (v := .inl 0) hM_216 d_216_37 rfl rfl ?_
        refine r_sto (pc' := 40) (ls' := [some (.inr (.inr (some 53))), some (.inl a), some (.inl b), some (.inl (krm (mu m 53 0 0) a)), some (.inl (am_or (((ons (nv (m1 54)) (am_s 0) : Nat) : Int)) (((ons (nv (m1 54)) (am_s 1) : Nat) : Int)))), some (.inl 0)]) hM_216 d_216_38 rfl rfl ?_
        refine rn_wk (a := [some (.inr (.inr (some 53))), some (.inl a), some (.inl b), none, some (.inl (am_or (((ons (nv (m1 54)) (am_s 0) : Nat) : Int)) (((ons (nv (m1 54)) (am_s 1) : Nat) : Int)))), some (.inl 0)]) (by simp only [am_le, and_self]) ?_
        exact hk
      exact H
    · have H := H.2 (Decidable.not_not.mp hz4)
      refine ok_sg (pc' := 23) (ls' := [some (.inr (.inr (some 53))), some (.inl a), some (.inl b), some (.inl (krm (mu m 53 0 0) a)), none, none]) (st' := [.inl (krm (mu m 53 0 0) a)]) (m' := m1) (fun fx hfx o hk => ?_) ?_
      · refine r_ld (pc' := 23) hM_216 d_216_22 rfl rfl ?_
        exact hk
      exact ok_rt (fun fx _ => rt_i hM_216 d_216_23 rfl) H
theorem P_sure {m : am_M} {a b : Int} (ha : am_s a = a) (hI : Inv m) : PK 91 4 216 6 [.inl a, .inl b] m := by
  have hR := Inv_RWS hI
  have hv := Inv_vw hI
  have hF := may_lt (g := nv (m 54)) (nv0_le (Inv_wf hI))
  by_cases c : kru m a = 0
  · obtain ⟨c1, c2, c3⟩ := kru_0 c
    obtain ⟨J, rfl⟩ : ∃ J : Nat, a = (J : Int) := ⟨a.toNat, by omega⟩
    rw [Int.toNat_natCast] at c2 c3
    have hcl := cf_le (Q := ftq (nv (m 54)) (rwf m J)) (may (nv (m 54)) + 1)
    refine PK_2 (h1 := 6) (h2 := 5) (v := .inl (sur (ftq (nv (m 54)) (rwf m J)) (may (nv (m 54))) b)) (R := fun m1 => kpC m m1) ?_ ?_ (by decide) (by decide)
    · refine u_91_0 ⟨⟨hR, hv, ha⟩, ?_⟩
      intro mx hmx
      obtain rfl := hmx.symm
      rw [kru_s, ha, Int.toNat_natCast]
      refine ⟨fun _ => ⟨by omega, ⟨hv, hR J (by omega)⟩, fun m2 hm => ⟨?_, HEA_kpC hm⟩⟩, fun q => absurd c q⟩
      rw [Inv_nv hI, ftq_row hI (by omega) c2 c3]
    · intro m1 hk1
      obtain ⟨w1, w2, w3, w4, w5, w6, -⟩ := mod_pre (a := (J : Int)) hI hk1
      refine u_216_0 ⟨⟨w1, w2, ha⟩, fun m2 hm => ?_⟩
      rw [w3] at hm
      have hf := hm.2 c
      have hK := FITS_kpC hf
      have f54 : m2 54 = (mu m1 53 0 0) 54 := kpC_f hK (by omega)
      unfold FITS at hf
      rw [Int.toNat_natCast, w4, w5] at hf
      obtain ⟨f1, f2, -⟩ := hf
      have e19 : am_s (m2 53 19) = m2 53 19 := by rw [f1]; exact am_s_id (by omega) (by omega)
      have h0 := nv0_le (Inv_wf hI)
      have em : am_or ((ons (nv (m 54)) 0 : Nat) : Int) ((ons (nv (m 54)) 1 : Nat) : Int) = ((may (nv (m 54)) : Nat) : Int) := bx_or12 (ons_lt h0) (ons_lt h0)
      rw [w3, kru_s, e19, f54, w4, show am_s 0 = 0 from rfl, show am_s 1 = 1 from rfl, em]
      refine ⟨fun q => absurd c q, fun _ => ⟨fun q => ⟨w1, ?_⟩, fun q => ⟨?_, Inv_kpC hK w6⟩⟩⟩
      · have hn : ¬ cf (ftq (nv (m 54)) (rwf m J)) (may (nv (m 54)) + 1) = 0 := by omega
        generalize hFv : may (nv (m 54)) = F at *
        generalize hQv : ftq (nv (m 54)) (rwf m J) = Q at *
        refine ok_for (σ := Unit) (fun k _ => [some (.inr (.inr (some 53))), some (.inl (J : Int)), some (.inl b), none, some (.inl (itk (fun (x : Int) t => if am_s b = 0 then am_and x (am_xor (t : Int) (-1)) else am_and x (t : Int)) (fun k => (m2 59 k).toNat) (F : Int) k)), some (.inl (k : Int))]) (fun k _ M => M = m2) (cf Q (F + 1)) ?_ ?_ () m2 rfl
        · rintro k hk - M rfl IH
          obtain ⟨g1, g2, g3, g4⟩ := fits_k f2 k hk
          refine u_216_40 ?_
          rw [e19, am_s_id (z := (k : Int)) (by omega) (by omega), Int.toNat_natCast]
          refine ⟨fun q => by omega, fun _ => ⟨fun _ => by omega, fun _ => by omega, fun y hy => ?_⟩⟩
          have := IH () M rfl
          rw [itk_s] at this
          rw [hy]
          by_cases hb : am_s b = 0
          · rw [if_pos hb, ← g1] at this
            rw [if_pos hb]
            exact this
          · rw [if_neg hb, ← g1] at this
            rw [if_neg hb]
            exact this
        · rintro - M rfl
          refine u_216_40 ?_
          rw [e19, f1, am_s_id (z := ((cf Q (F + 1) : Nat) : Int)) (by omega) (by omega), fits_fr f2]
          refine ⟨fun _ => ⟨?_, Inv_kpC hK w6⟩, fun q => by omega⟩
          unfold sur
          rw [if_neg hn]
          by_cases hb : am_s b = 0
          · simp only [hb, if_true]
          · simp only [hb, if_false]
      · have hn : cf (ftq (nv (m 54)) (rwf m J)) (may (nv (m 54)) + 1) = 0 := by omega
        unfold sur
        rw [if_pos hn, c]
  · refine PK_2 (h1 := 6) (h2 := 5) (v := .inl (kru m a)) (R := fun m1 => m = m1) ?_ ?_ (by decide) (by decide)
    · refine u_91_0 ⟨⟨hR, hv, ha⟩, ?_⟩
      intro mx hmx
      obtain rfl := hmx.symm
      rw [kru_s]
      exact ⟨fun q => absurd q c, fun _ => ⟨rfl, rfl⟩⟩
    · rintro _ rfl
      obtain ⟨w1, w2, w3, w4, w5, w6, -⟩ := mod_pre (a := a) hI (kpC_refl m)
      refine u_216_0 ⟨⟨w1, w2, ha⟩, fun m2 hm => ?_⟩
      rw [w3] at hm
      have hm2 := hm.1 c
      subst hm2
      rw [w3, kru_s]
      exact ⟨fun _ => ⟨rfl, w6⟩, fun q => absurd q c⟩
