theorem t_50_11 {fx : am_X0} {o : List am_V × am_S} {m : am_M} {s : Nat} {b : Int} {x2 : Int} {x3 : Int} {x4 : Int} (hs : s ∈ shL) (H : ((am_s (m s 4) ≤ am_s x4) → o = ([.inl x3], st0 (mu m s 11 ((m s 11) + 1)))) ∧ (¬ (am_s (m s 4) ≤ am_s x4) → (0 ≤ am_s x4 ∧ am_s x4 < (12 : Nat)) ∧ (((¬ am_s (m (s + 1) ((am_s x4).toNat)) = am_s 3) → ((am_s (am_and (am_shr b x4) 1) = 0) → ((¬ am_s (m (s + 1) ((am_s x4).toNat)) = 0) → rn fx 1 (0, 0) 50 11 [some (.inr (.inr (some s))), some (.inl b), some (.inl x2), some (.inl x3), some (.inl (x4 + 1)), none, none, none] [] (st0 (mu m (s + 4) ((am_s x4).toNat) (v_14 m 99 ((m (s + 4) ((am_s x4).toNat)) + 1)))) o) ∧ (¬ (¬ am_s (m (s + 1) ((am_s x4).toNat)) = 0) → ((am_s (am_and (v_51 m x4) x2) = 0) → ((am_s (v_14 m 99 ((m (s + 4) ((am_s x4).toNat)) + 1)) ≤ am_s (m s 8)) → rn fx 1 (0, 0) 50 11 [some (.inr (.inr (some s))), some (.inl b), some (.inl x2), some (.inl x3), some (.inl (x4 + 1)), none, none, none] [] (st0 (mu (mu m (s + 4) ((am_s x4).toNat) (v_14 m 99 ((m (s + 4) ((am_s x4).toNat)) + 1))) (s + 3) ((am_s x4).toNat) (v_14 (mu m (s + 4) ((am_s x4).toNat) (v_14 m 99 ((m (s + 4) ((am_s x4).toNat)) + 1))) 100 ((m (s + 3) ((am_s x4).toNat)) + (1 * (m (s + 2) ((am_s x4).toNat))))))) o) ∧ (¬ (am_s (v_14 m 99 ((m (s + 4) ((am_s x4).toNat)) + 1)) ≤ am_s (m s 8)) → rn fx 1 (0, 0) 50 11 [some (.inr (.inr (some s))), some (.inl b), some (.inl x2), some (.inl (x3 + 1)), some (.inl (x4 + 1)), none, none, none] [] (st0 (mu (mu (mu m (s + 4) ((am_s x4).toNat) (v_14 m 99 ((m (s + 4) ((am_s x4).toNat)) + 1))) (s + 3) ((am_s x4).toNat) (v_14 (mu m (s + 4) ((am_s x4).toNat) (v_14 m 99 ((m (s + 4) ((am_s x4).toNat)) + 1))) 100 ((m (s + 3) ((am_s x4).toNat)) + (1 * (m (s + 2) ((am_s x4).toNat)))))) (s + 1) ((am_s x4).toNat) 1)) o)) ∧ (¬ (am_s (am_and (v_51 m x4) x2) = 0) → ((am_s (v_14 m 99 ((m (s + 4) ((am_s x4).toNat)) + 2)) ≤ am_s (m s 8)) → rn fx 1 (0, 0) 50 11 [some (.inr (.inr (some s))), some (.inl b), some (.inl x2), some (.inl x3), some (.inl (x4 + 1)), none, none, none] [] (st0 (mu (mu m (s + 4) ((am_s x4).toNat) (v_14 m 99 ((m (s + 4) ((am_s x4).toNat)) + 2))) (s + 3) ((am_s x4).toNat) (v_14 (mu m (s + 4) ((am_s x4).toNat) (v_14 m 99 ((m (s + 4) ((am_s x4).toNat)) + 2))) 100 ((m (s + 3) ((am_s x4).toNat)) + (1 * (m (s + 2) ((am_s x4).toNat))))))) o) ∧ (¬ (am_s (v_14 m 99 ((m (s + 4) ((am_s x4).toNat)) + 2)) ≤ am_s (m s 8)) → rn fx 1 (0, 0) 50 11 [some (.inr (.inr (some s))), some (.inl b), some (.inl x2), some (.inl (x3 + 1)), some (.inl (x4 + 1)), none, none, none] [] (st0 (mu (mu (mu m (s + 4) ((am_s x4).toNat) (v_14 m 99 ((m (s + 4) ((am_s x4).toNat)) + 2))) (s + 3) ((am_s x4).toNat) (v_14 (mu m (s + 4) ((am_s x4).toNat) (v_14 m 99 ((m (s + 4) ((am_s x4).toNat)) + 2))) 100 ((m (s + 3) ((am_s x4).toNat)) + (1 * (m (s + 2) ((am_s x4).toNat)))))) (s + 1) ((am_s x4).toNat) 1)) o)))) ∧ (¬ (am_s (am_and (am_shr b x4) 1) = 0) → ((¬ am_s (m (s + 1) ((am_s x4).toNat)) = 0) → rn fx 1 (0, 0) 50 11 [some (.inr (.inr (some s))), some (.inl b), some (.inl x2), some (.inl x3), some (.inl (x4 + 1)), none, none, none] [] (st0 (mu m (s + 4) ((am_s x4).toNat) 0)) o) ∧ (¬ (¬ am_s (m (s + 1) ((am_s x4).toNat)) = 0) → ((am_s (am_and (v_51 m x4) x2) = 0) → ((am_s 0 ≤ am_s (m s 8)) → rn fx 1 (0, 0) 50 11 [some (.inr (.inr (some s))), some (.inl b), some (.inl x2), some (.inl x3), some (.inl (x4 + 1)), none, none, none] [] (st0 (mu (mu m (s + 4) ((am_s x4).toNat) 0) (s + 3) ((am_s x4).toNat) (v_14 (mu m (s + 4) ((am_s x4).toNat) 0) 100 ((m (s + 3) ((am_s x4).toNat)) + (2 * (m (s + 2) ((am_s x4).toNat))))))) o) ∧ (¬ (am_s 0 ≤ am_s (m s 8)) → rn fx 1 (0, 0) 50 11 [some (.inr (.inr (some s))), some (.inl b), some (.inl x2), some (.inl (x3 + 1)), some (.inl (x4 + 1)), none, none, none] [] (st0 (mu (mu (mu m (s + 4) ((am_s x4).toNat) 0) (s + 3) ((am_s x4).toNat) (v_14 (mu m (s + 4) ((am_s x4).toNat) 0) 100 ((m (s + 3) ((am_s x4).toNat)) + (2 * (m (s + 2) ((am_s x4).toNat)))))) (s + 1) ((am_s x4).toNat) 1)) o)) ∧ (¬ (am_s (am_and (v_51 m x4) x2) = 0) → ((am_s 0 ≤ am_s (m s 8)) → rn fx 1 (0, 0) 50 11 [some (.inr (.inr (some s))), some (.inl b), some (.inl x2), some (.inl x3), some (.inl (x4 + 1)), none, none, none] [] (st0 (mu (mu m (s + 4) ((am_s x4).toNat) 0) (s + 3) ((am_s x4).toNat) (v_14 (mu m (s + 4) ((am_s x4).toNat) 0) 100 ((m (s + 3) ((am_s x4).toNat)) + (2 * (m (s + 2) ((am_s x4).toNat))))))) o) ∧ (¬ (am_s 0 ≤ am_s (m s 8)) → rn fx 1 (0, 0) 50 11 [some (.inr (.inr (some s))), some (.inl b), some (.inl x2), some (.inl (x3 + 1)), some (.inl (x4 + 1)), none, none, none] [] (st0 (mu (mu (mu m (s + 4) ((am_s x4).toNat) 0) (s + 3) ((am_s x4).toNat) (v_14 (mu m (s + 4) ((am_s x4).toNat) 0) 100 ((m (s + 3) ((am_s x4).toNat)) + (2 * (m (s + 2) ((am_s x4).toNat)))))) (s + 1) ((am_s x4).toNat) 1)) o))))) ∧ (¬ (¬ am_s (m (s + 1) ((am_s x4).toNat)) = am_s 3) → rn fx 1 (0, 0) 50 11 [some (.inr (.inr (some s))), some (.inl b), some (.inl x2), some (.inl x3), some (.inl (x4 + 1)), none, none, none] [] (st0 m) o)))) : rn fx 1 (0, 0) 50 11 [some (.inr (.inr (some s))), some (.inl b), some (.inl x2), some (.inl x3), some (.inl x4), none, none, none] [] (st0 m) o := by
  refine r_ld (pc' := 13) hM_50 d_50_11 rfl rfl ?_
  refine r_ld (pc' := 14) hM_50 d_50_13 rfl rfl ?_
  refine r_gI (pc' := 17) (k0 := 4) hM_50 d_50_14 rfl (gfS_8_27 hs) ?_
  refine r_ic (pc' := 194) (pc2 := 20) hM_50 d_50_17 (by decide) rfl (fun hz1 => ?_) (fun hz1 => ?_)
  · have H := H.1 hz1
    refine r_ld (pc' := 195) hM_50 d_50_194 rfl rfl ?_
    refine r_stk (pc' := 196) (st' := [.inr (.inr (some s)), .inr (.inr (some s))]) hM_50 d_50_195 rfl rfl ?_
    refine r_gI (pc' := 199) (k0 := 11) hM_50 d_50_196 rfl (gfS_8_49 hs) ?_
    refine r_k (pc' := 200) (v := .inl 1) hM_50 d_50_199 rfl rfl ?_
    refine r_b (pc' := 201) (z := ((m s 11) + 1)) hM_50 d_50_200 rfl rfl ?_
    refine r_pI (pc' := 204) (k0 := 11) hM_50 d_50_201 rfl (puS_8_49 hs) ?_
    refine r_ld (pc' := 205) hM_50 d_50_204 rfl rfl ?_
    subst H
    exact rt_i hM_50 d_50_205 rfl
  · have H := H.2 hz1
    refine r_ld (pc' := 21) hM_50 d_50_20 rfl rfl ?_
    refine r_gR (pc' := 24) (v := (s + 1)) hM_50 d_50_21 rfl (gfS_8_9 hs) ?_
    refine r_ld (pc' := 26) hM_50 d_50_24 rfl rfl ?_
    obtain ⟨hz2, H⟩ := H
    refine r_ia (pc' := 27) (n := 12) hM_50 d_50_26 rfl (shSk hs).2.1 hz2 ?_
    refine r_k (pc' := 28) (v := .inl 3) hM_50 d_50_27 rfl rfl ?_
    refine r_ic (pc' := 34) (pc2 := 31) hM_50 d_50_28 (by decide) rfl (fun hz3 => ?_) (fun hz3 => ?_)
    · have H := H.1 hz3
      refine r_ld (pc' := 35) hM_50 d_50_34 rfl rfl ?_
      refine r_ld (pc' := 37) hM_50 d_50_35 rfl rfl ?_
      refine r_b (pc' := 38) (z := (am_shr b x4)) hM_50 d_50_37 rfl rfl ?_
      refine r_k (pc' := 39) (v := .inl 1) hM_50 d_50_38 rfl rfl ?_
      refine r_b (pc' := 40) (z := (am_and (am_shr b x4) 1)) hM_50 d_50_39 rfl rfl ?_
      refine r_if (pc' := 47) (pc2 := 43) hM_50 d_50_40 (by decide) rfl (fun hz4 => ?_) (fun hz4 => ?_)
      · have H := H.1 hz4
        refine r_k (pc' := 48) (v := .inl 0) hM_50 d_50_47 rfl rfl ?_
        refine r_sto (pc' := 50) (ls' := [some (.inr (.inr (some s))), some (.inl b), some (.inl x2), some (.inl x3), some (.inl x4), some (.inl 0), none, none]) hM_50 d_50_48 rfl rfl ?_
        refine r_ld (pc' := 51) hM_50 d_50_50 rfl rfl ?_
        refine r_gR (pc' := 54) (v := (s + 1)) hM_50 d_50_51 rfl (gfS_8_9 hs) ?_
        refine r_ld (pc' := 56) hM_50 d_50_54 rfl rfl ?_
        refine r_ia (pc' := 57) (n := 12) hM_50 d_50_56 rfl (shSk hs).2.1 hz2 ?_
        refine r_if (pc' := 64) (pc2 := 60) hM_50 d_50_57 (by decide) rfl (fun hz5 => ?_) (fun hz5 => ?_)
        · have H := H.1 hz5
          refine r_k (pc' := 65) (v := .inl 0) hM_50 d_50_64 rfl rfl ?_
          refine r_sto (pc' := 67) (ls' := [some (.inr (.inr (some s))), some (.inl b), some (.inl x2), some (.inl x3), some (.inl x4), some (.inl 0), some (.inl 0), none]) hM_50 d_50_65 rfl rfl ?_
          refine r_ld (pc' := 69) hM_50 d_50_67 rfl rfl ?_
          refine r_if (pc' := 86) (pc2 := 72) hM_50 d_50_69 (by decide) rfl (fun _ => ?_) (fun hc => absurd (show am_s 0 = 0 by decide) hc)
          refine r_k (pc' := 87) (v := .inl 1) hM_50 d_50_86 rfl rfl ?_
          refine r_sto (pc' := 89) (ls' := [some (.inr (.inr (some s))), some (.inl b), some (.inl x2), some (.inl x3), some (.inl x4), some (.inl 0), some (.inl 0), some (.inl 1)]) hM_50 d_50_87 rfl rfl ?_
          refine r_ld (pc' := 90) hM_50 d_50_89 rfl rfl ?_
          refine r_gR (pc' := 93) (v := (s + 4)) hM_50 d_50_90 rfl (gfS_8_21 hs) ?_
          refine r_ld (pc' := 95) hM_50 d_50_93 rfl rfl ?_
          refine r_ld (pc' := 97) hM_50 d_50_95 rfl rfl ?_
          refine r_if (pc' := 104) (pc2 := 100) hM_50 d_50_97 (by decide) rfl (fun _ => ?_) (fun hc => absurd (show am_s 0 = 0 by decide) hc)
          refine r_k (pc' := 106) (v := .inl 99) hM_50 d_50_104 rfl rfl ?_
          refine r_ld (pc' := 107) hM_50 d_50_106 rfl rfl ?_
          refine r_gR (pc' := 110) (v := (s + 4)) hM_50 d_50_107 rfl (gfS_8_21 hs) ?_
          refine r_ld (pc' := 112) hM_50 d_50_110 rfl rfl ?_
          refine r_ia (pc' := 113) (n := 12) hM_50 d_50_112 rfl (shSk hs).2.2.2.2 hz2 ?_
          refine r_ld (pc' := 115) hM_50 d_50_113 rfl rfl ?_
          refine r_b (pc' := 116) (z := ((m (s + 4) ((am_s x4).toNat)) + 1)) hM_50 d_50_115 rfl rfl ?_
          refine r_cl (pc' := 119) (c := (14, 2)) (a := [.inl 99, .inl ((m (s + 4) ((am_s x4).toNat)) + 1)]) (q := [.inl x4, .inr (.inr (some (s + 4)))]) hM_50 d_50_116 rfl (by decide +kernel) hM_14 rfl rfl rfl (Nat.le_of_ble_eq_true rfl) (Nat.le_of_ble_eq_true rfl) (Or.inl rfl) (c_14  m 99 ((m (s + 4) ((am_s x4).toNat)) + 1)) (Nat.le_of_ble_eq_true rfl) ?_
          show rn fx 1 (0, 0) 50 119 [some (.inr (.inr (some s))), some (.inl b), some (.inl x2), some (.inl x3), some (.inl x4), some (.inl 0), some (.inl 0), some (.inl 1)] [.inl (v_14 m 99 ((m (s + 4) ((am_s x4).toNat)) + 1)), .inl x4, .inr (.inr (some (s + 4)))] (st0 m) o
          refine r_is (pc' := 120) (n := 12) hM_50 d_50_119 rfl (shSk hs).2.2.2.2 hz2 ?_
          refine r_ld (pc' := 122) hM_50 d_50_120 rfl rfl ?_
          refine r_if (pc' := 188) (pc2 := 125) hM_50 d_50_122 (by decide) rfl (fun _ => ?_) (fun hc => absurd (show am_s 0 = 0 by decide) hc)
          refine r_sto (pc' := 191) (ls' := [some (.inr (.inr (some s))), some (.inl b), some (.inl x2), some (.inl x3), some (.inl (x4 + 1)), some (.inl 0), some (.inl 0), some (.inl 1)]) hM_50 d_50_188 rfl rfl ?_
          refine r_go (pc' := 11) hM_50 d_50_191 (by decide) ?_
          exact rn_wk (by simp only [am_le, and_self]) H
        · have H := H.2 hz5
          refine r_k (pc' := 61) (v := .inl 1) hM_50 d_50_60 rfl rfl ?_
          refine r_go (pc' := 65) hM_50 d_50_61 (by decide) ?_
          refine r_sto (pc' := 67) (ls' := [some (.inr (.inr (some s))), some (.inl b), some (.inl x2), some (.inl x3), some (.inl x4), some (.inl 0), some (.inl 1), none]) hM_50 d_50_65 rfl rfl ?_
          refine r_ld (pc' := 69) hM_50 d_50_67 rfl rfl ?_
          refine r_if (pc' := 86) (pc2 := 72) hM_50 d_50_69 (by decide) rfl (fun hc => absurd hc (show ¬ (am_s 1 = 0) by decide)) (fun _ => ?_)
          refine r_ld (pc' := 74) hM_50 d_50_72 rfl rfl ?_
          refine r_cl (pc' := 77) (c := (51, 2)) (a := [.inl x4]) (q := []) hM_50 d_50_74 rfl (by decide +kernel) hM_51 rfl rfl rfl (Nat.le_of_ble_eq_true rfl) (Nat.le_of_ble_eq_true rfl) (Or.inl rfl) (c_51  m x4) (Nat.le_of_ble_eq_true rfl) ?_
          show rn fx 1 (0, 0) 50 77 [some (.inr (.inr (some s))), some (.inl b), some (.inl x2), some (.inl x3), some (.inl x4), some (.inl 0), some (.inl 1), none] [.inl (v_51 m x4)] (st0 m) o
          refine r_ld (pc' := 78) hM_50 d_50_77 rfl rfl ?_
          refine r_b (pc' := 79) (z := (am_and (v_51 m x4) x2)) hM_50 d_50_78 rfl rfl ?_
          refine r_if (pc' := 86) (pc2 := 82) hM_50 d_50_79 (by decide) rfl (fun hz6 => ?_) (fun hz6 => ?_)
          · have H := H.1 hz6
            refine r_k (pc' := 87) (v := .inl 1) hM_50 d_50_86 rfl rfl ?_
            refine r_sto (pc' := 89) (ls' := [some (.inr (.inr (some s))), some (.inl b), some (.inl x2), some (.inl x3), some (.inl x4), some (.inl 0), some (.inl 1), some (.inl 1)]) hM_50 d_50_87 rfl rfl ?_
            refine r_ld (pc' := 90) hM_50 d_50_89 rfl rfl ?_
            refine r_gR (pc' := 93) (v := (s + 4)) hM_50 d_50_90 rfl (gfS_8_21 hs) ?_
            refine r_ld (pc' := 95) hM_50 d_50_93 rfl rfl ?_
            refine r_ld (pc' := 97) hM_50 d_50_95 rfl rfl ?_
            refine r_if (pc' := 104) (pc2 := 100) hM_50 d_50_97 (by decide) rfl (fun _ => ?_) (fun hc => absurd (show am_s 0 = 0 by decide) hc)
            refine r_k (pc' := 106) (v := .inl 99) hM_50 d_50_104 rfl rfl ?_
            refine r_ld (pc' := 107) hM_50 d_50_106 rfl rfl ?_
            refine r_gR (pc' := 110) (v := (s + 4)) hM_50 d_50_107 rfl (gfS_8_21 hs) ?_
            refine r_ld (pc' := 112) hM_50 d_50_110 rfl rfl ?_
            refine r_ia (pc' := 113) (n := 12) hM_50 d_50_112 rfl (shSk hs).2.2.2.2 hz2 ?_
            refine r_ld (pc' := 115) hM_50 d_50_113 rfl rfl ?_
            refine r_b (pc' := 116) (z := ((m (s + 4) ((am_s x4).toNat)) + 1)) hM_50 d_50_115 rfl rfl ?_
            refine r_cl (pc' := 119) (c := (14, 2)) (a := [.inl 99, .inl ((m (s + 4) ((am_s x4).toNat)) + 1)]) (q := [.inl x4, .inr (.inr (some (s + 4)))]) hM_50 d_50_116 rfl (by decide +kernel) hM_14 rfl rfl rfl (Nat.le_of_ble_eq_true rfl) (Nat.le_of_ble_eq_true rfl) (Or.inl rfl) (c_14  m 99 ((m (s + 4) ((am_s x4).toNat)) + 1)) (Nat.le_of_ble_eq_true rfl) ?_
            show rn fx 1 (0, 0) 50 119 [some (.inr (.inr (some s))), some (.inl b), some (.inl x2), some (.inl x3), some (.inl x4), some (.inl 0), some (.inl 1), some (.inl 1)] [.inl (v_14 m 99 ((m (s + 4) ((am_s x4).toNat)) + 1)), .inl x4, .inr (.inr (some (s + 4)))] (st0 m) o
            refine r_is (pc' := 120) (n := 12) hM_50 d_50_119 rfl (shSk hs).2.2.2.2 hz2 ?_
            refine r_ld (pc' := 122) hM_50 d_50_120 rfl rfl ?_
            refine r_if (pc' := 188) (pc2 := 125) hM_50 d_50_122 (by decide) rfl (fun hc => absurd hc (show ¬ (am_s 1 = 0) by decide)) (fun _ => ?_)
            refine r_ld (pc' := 126) hM_50 d_50_125 rfl rfl ?_
            refine r_gR (pc' := 129) (v := (s + 3)) hM_50 d_50_126 rfl (gfS_8_18 hs) ?_
            refine r_ld (pc' := 131) hM_50 d_50_129 rfl rfl ?_
            refine r_k (pc' := 133) (v := .inl 100) hM_50 d_50_131 rfl rfl ?_
            refine r_ld (pc' := 134) hM_50 d_50_133 rfl rfl ?_
            refine r_gR (pc' := 137) (v := (s + 3)) hM_50 d_50_134 rfl (gfS_8_18 hs) ?_
            refine r_ld (pc' := 139) hM_50 d_50_137 rfl rfl ?_
            refine r_iae (pc' := 140) (n := 12) (z := (m (s + 3) ((am_s x4).toNat))) hM_50 d_50_139 rfl (shSk hs).2.2.2.1 hz2 (mu_r (by omega)) ?_
            refine r_ld (pc' := 142) hM_50 d_50_140 rfl rfl ?_
            refine r_if (pc' := 149) (pc2 := 145) hM_50 d_50_142 (by decide) rfl (fun _ => ?_) (fun hc => absurd (show am_s 0 = 0 by decide) hc)
            refine r_k (pc' := 150) (v := .inl 1) hM_50 d_50_149 rfl rfl ?_
            refine r_ld (pc' := 151) hM_50 d_50_150 rfl rfl ?_
            refine r_gR (pc' := 154) (v := (s + 2)) hM_50 d_50_151 rfl (gfS_8_15 hs) ?_
            refine r_ld (pc' := 156) hM_50 d_50_154 rfl rfl ?_
            refine r_iae (pc' := 157) (n := 12) (z := (m (s + 2) ((am_s x4).toNat))) hM_50 d_50_156 rfl (shSk hs).2.2.1 hz2 (mu_r (by omega)) ?_
            refine r_b (pc' := 158) (z := (1 * (m (s + 2) ((am_s x4).toNat)))) hM_50 d_50_157 rfl rfl ?_
            refine r_b (pc' := 159) (z := ((m (s + 3) ((am_s x4).toNat)) + (1 * (m (s + 2) ((am_s x4).toNat))))) hM_50 d_50_158 rfl rfl ?_
            refine r_cl (pc' := 162) (c := (14, 2)) (a := [.inl 100, .inl ((m (s + 3) ((am_s x4).toNat)) + (1 * (m (s + 2) ((am_s x4).toNat))))]) (q := [.inl x4, .inr (.inr (some (s + 3)))]) hM_50 d_50_159 rfl (by decide +kernel) hM_14 rfl rfl rfl (Nat.le_of_ble_eq_true rfl) (Nat.le_of_ble_eq_true rfl) (Or.inl rfl) (c_14  (mu m (s + 4) ((am_s x4).toNat) (v_14 m 99 ((m (s + 4) ((am_s x4).toNat)) + 1))) 100 ((m (s + 3) ((am_s x4).toNat)) + (1 * (m (s + 2) ((am_s x4).toNat))))) (Nat.le_of_ble_eq_true rfl) ?_
            show rn fx 1 (0, 0) 50 162 [some (.inr (.inr (some s))), some (.inl b), some (.inl x2), some (.inl x3), some (.inl x4), some (.inl 0), some (.inl 1), some (.inl 1)] [.inl (v_14 (mu m (s + 4) ((am_s x4).toNat) (v_14 m 99 ((m (s + 4) ((am_s x4).toNat)) + 1))) 100 ((m (s + 3) ((am_s x4).toNat)) + (1 * (m (s + 2) ((am_s x4).toNat))))), .inl x4, .inr (.inr (some (s + 3)))] (st0 (mu m (s + 4) ((am_s x4).toNat) (v_14 m 99 ((m (s + 4) ((am_s x4).toNat)) + 1)))) o
            refine r_is (pc' := 163) (n := 12) hM_50 d_50_162 rfl (shSk hs).2.2.2.1 hz2 ?_
            refine r_ld (pc' := 164) hM_50 d_50_163 rfl rfl ?_
            refine r_gR (pc' := 167) (v := (s + 4)) hM_50 d_50_164 rfl (gfS_8_21 hs) ?_
            refine r_ld (pc' := 169) hM_50 d_50_167 rfl rfl ?_
            refine r_iae (pc' := 170) (n := 12) (z := (v_14 m 99 ((m (s + 4) ((am_s x4).toNat)) + 1))) hM_50 d_50_169 rfl (shSk hs).2.2.2.2 hz2 ((mu_r (by omega)).trans (mu_same)) ?_
            refine r_ld (pc' := 171) hM_50 d_50_170 rfl rfl ?_
            refine r_gIe (pc' := 174) (k0 := 8) (z := (m s 8)) hM_50 d_50_171 rfl (gfS_8_40 hs) ((mu_r (by omega)).trans (mu_r (by omega))) ?_
            refine r_ic (pc' := 188) (pc2 := 177) hM_50 d_50_174 (by decide) rfl (fun hz7 => ?_) (fun hz7 => ?_)
            · have H := H.1 hz7
              refine r_sto (pc' := 191) (ls' := [some (.inr (.inr (some s))), some (.inl b), some (.inl x2), some (.inl x3), some (.inl (x4 + 1)), some (.inl 0), some (.inl 1), some (.inl 1)]) hM_50 d_50_188 rfl rfl ?_
              refine r_go (pc' := 11) hM_50 d_50_191 (by decide) ?_
              exact rn_wk (by simp only [am_le, and_self]) H
            · have H := H.2 hz7
              refine r_ld (pc' := 178) hM_50 d_50_177 rfl rfl ?_
              refine r_gR (pc' := 181) (v := (s + 1)) hM_50 d_50_178 rfl (gfS_8_9 hs) ?_
              refine r_ld (pc' := 183) hM_50 d_50_181 rfl rfl ?_
              refine r_k (pc' := 184) (v := .inl 1) hM_50 d_50_183 rfl rfl ?_
              refine r_is (pc' := 185) (n := 12) hM_50 d_50_184 rfl (shSk hs).2.1 hz2 ?_
              refine r_sto (pc' := 188) (ls' := [some (.inr (.inr (some s))), some (.inl b), some (.inl x2), some (.inl (x3 + 1)), some (.inl x4), some (.inl 0), some (.inl 1), some (.inl 1)]) hM_50 d_50_185 rfl rfl ?_
              refine r_sto (pc' := 191) (ls' := [some (.inr (.inr (some s))), some (.inl b), some (.inl x2), some (.inl (x3 + 1)), some (.inl (x4 + 1)), some (.inl 0), some (.inl 1), some (.inl 1)]) hM_50 d_50_188 rfl rfl ?_
              refine r_go (pc' := 11) hM_50 d_50_191 (by decide) ?_
              exact rn_wk (by simp only [am_le, and_self]) H
          · have H := H.2 hz6
            refine r_k (pc' := 83) (v := .inl 2) hM_50 d_50_82 rfl rfl ?_
            refine r_go (pc' := 87) hM_50 d_50_83 (by decide) ?_
            refine r_sto (pc' := 89) (ls' := [some (.inr (.inr (some s))), some (.inl b), some (.inl x2), some (.inl x3), some (.inl x4), some (.inl 0), some (.inl 1), some (.inl 2)]) hM_50 d_50_87 rfl rfl ?_
            refine r_ld (pc' := 90) hM_50 d_50_89 rfl rfl ?_
            refine r_gR (pc' := 93) (v := (s + 4)) hM_50 d_50_90 rfl (gfS_8_21 hs) ?_
            refine r_ld (pc' := 95) hM_50 d_50_93 rfl rfl ?_
            refine r_ld (pc' := 97) hM_50 d_50_95 rfl rfl ?_
            refine r_if (pc' := 104) (pc2 := 100) hM_50 d_50_97 (by decide) rfl (fun _ => ?_) (fun hc => absurd (show am_s 0 = 0 by decide) hc)
            refine r_k (pc' := 106) (v := .inl 99) hM_50 d_50_104 rfl rfl ?_
            refine r_ld (pc' := 107) hM_50 d_50_106 rfl rfl ?_
            refine r_gR (pc' := 110) (v := (s + 4)) hM_50 d_50_107 rfl (gfS_8_21 hs) ?_
            refine r_ld (pc' := 112) hM_50 d_50_110 rfl rfl ?_
            refine r_ia (pc' := 113) (n := 12) hM_50 d_50_112 rfl (shSk hs).2.2.2.2 hz2 ?_
            refine r_ld (pc' := 115) hM_50 d_50_113 rfl rfl ?_
            refine r_b (pc' := 116) (z := ((m (s + 4) ((am_s x4).toNat)) + 2)) hM_50 d_50_115 rfl rfl ?_
            refine r_cl (pc' := 119) (c := (14, 2)) (a := [.inl 99, .inl ((m (s + 4) ((am_s x4).toNat)) + 2)]) (q := [.inl x4, .inr (.inr (some (s + 4)))]) hM_50 d_50_116 rfl (by decide +kernel) hM_14 rfl rfl rfl (Nat.le_of_ble_eq_true rfl) (Nat.le_of_ble_eq_true rfl) (Or.inl rfl) (c_14  m 99 ((m (s + 4) ((am_s x4).toNat)) + 2)) (Nat.le_of_ble_eq_true rfl) ?_
            show rn fx 1 (0, 0) 50 119 [some (.inr (.inr (some s))), some (.inl b), some (.inl x2), some (.inl x3), some (.inl x4), some (.inl 0), some (.inl 1), some (.inl 2)] [.inl (v_14 m 99 ((m (s + 4) ((am_s x4).toNat)) + 2)), .inl x4, .inr (.inr (some (s + 4)))] (st0 m) o
            refine r_is (pc' := 120) (n := 12) hM_50 d_50_119 rfl (shSk hs).2.2.2.2 hz2 ?_
            refine r_ld (pc' := 122) hM_50 d_50_120 rfl rfl ?_
            refine r_if (pc' := 188) (pc2 := 125) hM_50 d_50_122 (by decide) rfl (fun hc => absurd hc (show ¬ (am_s 1 = 0) by decide)) (fun _ => ?_)
            refine r_ld (pc' := 126) hM_50 d_50_125 rfl rfl ?_
            refine r_gR (pc' := 129) (v := (s + 3)) hM_50 d_50_126 rfl (gfS_8_18 hs) ?_
            refine r_ld (pc' := 131) hM_50 d_50_129 rfl rfl ?_
            refine r_k (pc' := 133) (v := .inl 100) hM_50 d_50_131 rfl rfl ?_
            refine r_ld (pc' := 134) hM_50 d_50_133 rfl rfl ?_
            refine r_gR (pc' := 137) (v := (s + 3)) hM_50 d_50_134 rfl (gfS_8_18 hs) ?_
            refine r_ld (pc' := 139) hM_50 d_50_137 rfl rfl ?_
            refine r_iae (pc' := 140) (n := 12) (z := (m (s + 3) ((am_s x4).toNat))) hM_50 d_50_139 rfl (shSk hs).2.2.2.1 hz2 (mu_r (by omega)) ?_
            refine r_ld (pc' := 142) hM_50 d_50_140 rfl rfl ?_
            refine r_if (pc' := 149) (pc2 := 145) hM_50 d_50_142 (by decide) rfl (fun _ => ?_) (fun hc => absurd (show am_s 0 = 0 by decide) hc)
            refine r_k (pc' := 150) (v := .inl 1) hM_50 d_50_149 rfl rfl ?_
            refine r_ld (pc' := 151) hM_50 d_50_150 rfl rfl ?_
            refine r_gR (pc' := 154) (v := (s + 2)) hM_50 d_50_151 rfl (gfS_8_15 hs) ?_
            refine r_ld (pc' := 156) hM_50 d_50_154 rfl rfl ?_
            refine r_iae (pc' := 157) (n := 12) (z := (m (s + 2) ((am_s x4).toNat))) hM_50 d_50_156 rfl (shSk hs).2.2.1 hz2 (mu_r (by omega)) ?_
            refine r_b (pc' := 158) (z := (1 * (m (s + 2) ((am_s x4).toNat)))) hM_50 d_50_157 rfl rfl ?_
            refine r_b (pc' := 159) (z := ((m (s + 3) ((am_s x4).toNat)) + (1 * (m (s + 2) ((am_s x4).toNat))))) hM_50 d_50_158 rfl rfl ?_
            refine r_cl (pc' := 162) (c := (14, 2)) (a := [.inl 100, .inl ((m (s + 3) ((am_s x4).toNat)) + (1 * (m (s + 2) ((am_s x4).toNat))))]) (q := [.inl x4, .inr (.inr (some (s + 3)))]) hM_50 d_50_159 rfl (by decide +kernel) hM_14 rfl rfl rfl (Nat.le_of_ble_eq_true rfl) (Nat.le_of_ble_eq_true rfl) (Or.inl rfl) (c_14  (mu m (s + 4) ((am_s x4).toNat) (v_14 m 99 ((m (s + 4) ((am_s x4).toNat)) + 2))) 100 ((m (s + 3) ((am_s x4).toNat)) + (1 * (m (s + 2) ((am_s x4).toNat))))) (Nat.le_of_ble_eq_true rfl) ?_
            show rn fx 1 (0, 0) 50 162 [some (.inr (.inr (some s))), some (.inl b), some (.inl x2), some (.inl x3), some (.inl x4), some (.inl 0), some (.inl 1), some (.inl 2)] [.inl (v_14 (mu m (s + 4) ((am_s x4).toNat) (v_14 m 99 ((m (s + 4) ((am_s x4).toNat)) + 2))) 100 ((m (s + 3) ((am_s x4).toNat)) + (1 * (m (s + 2) ((am_s x4).toNat))))), .inl x4, .inr (.inr (some (s + 3)))] (st0 (mu m (s + 4) ((am_s x4).toNat) (v_14 m 99 ((m (s + 4) ((am_s x4).toNat)) + 2)))) o
            refine r_is (pc' := 163) (n := 12) hM_50 d_50_162 rfl (shSk hs).2.2.2.1 hz2 ?_
            refine r_ld (pc' := 164) hM_50 d_50_163 rfl rfl ?_
            refine r_gR (pc' := 167) (v := (s + 4)) hM_50 d_50_164 rfl (gfS_8_21 hs) ?_
            refine r_ld (pc' := 169) hM_50 d_50_167 rfl rfl ?_
            refine r_iae (pc' := 170) (n := 12) (z := (v_14 m 99 ((m (s + 4) ((am_s x4).toNat)) + 2))) hM_50 d_50_169 rfl (shSk hs).2.2.2.2 hz2 ((mu_r (by omega)).trans (mu_same)) ?_
            refine r_ld (pc' := 171) hM_50 d_50_170 rfl rfl ?_
            refine r_gIe (pc' := 174) (k0 := 8) (z := (m s 8)) hM_50 d_50_171 rfl (gfS_8_40 hs) ((mu_r (by omega)).trans (mu_r (by omega))) ?_
            refine r_ic (pc' := 188) (pc2 := 177) hM_50 d_50_174 (by decide) rfl (fun hz8 => ?_) (fun hz8 => ?_)
            · have H := H.1 hz8
              refine r_sto (pc' := 191) (ls' := [some (.inr (.inr (some s))), some (.inl b), some (.inl x2), some (.inl x3), some (.inl (x4 + 1)), some (.inl 0), some (.inl 1), some (.inl 2)]) hM_50 d_50_188 rfl rfl ?_
              refine r_go (pc' := 11) hM_50 d_50_191 (by decide) ?_
              exact rn_wk (by simp only [am_le, and_self]) H
            · have H := H.2 hz8
              refine r_ld (pc' := 178) hM_50 d_50_177 rfl rfl ?_
              refine r_gR (pc' := 181) (v := (s + 1)) hM_50 d_50_178 rfl (gfS_8_9 hs) ?_
              refine r_ld (pc' := 183) hM_50 d_50_181 rfl rfl ?_
              refine r_k (pc' := 184) (v := .inl 1) hM_50 d_50_183 rfl rfl ?_
              refine r_is (pc' := 185) (n := 12) hM_50 d_50_184 rfl (shSk hs).2.1 hz2 ?_
              refine r_sto (pc' := 188) (ls' := [some (.inr (.inr (some s))), some (.inl b), some (.inl x2), some (.inl (x3 + 1)), some (.inl x4), some (.inl 0), some (.inl 1), some (.inl 2)]) hM_50 d_50_185 rfl rfl ?_
              refine r_sto (pc' := 191) (ls' := [some (.inr (.inr (some s))), some (.inl b), some (.inl x2), some (.inl (x3 + 1)), some (.inl (x4 + 1)), some (.inl 0), some (.inl 1), some (.inl 2)]) hM_50 d_50_188 rfl rfl ?_
              refine r_go (pc' := 11) hM_50 d_50_191 (by decide) ?_
              exact rn_wk (by simp only [am_le, and_self]) H
      · have H := H.2 hz4
        refine r_k (pc' := 44) (v := .inl 1) hM_50 d_50_43 rfl rfl ?_
        refine r_go (pc' := 48) hM_50 d_50_44 (by decide) ?_
        refine r_sto (pc' := 50) (ls' := [some (.inr (.inr (some s))), some (.inl b), some (.inl x2), some (.inl x3), some (.inl x4), some (.inl 1), none, none]) hM_50 d_50_48 rfl rfl ?_
        refine r_ld (pc' := 51) hM_50 d_50_50 rfl rfl ?_
        refine r_gR (pc' := 54) (v := (s + 1)) hM_50 d_50_51 rfl (gfS_8_9 hs) ?_
        refine r_ld (pc' := 56) hM_50 d_50_54 rfl rfl ?_
        refine r_ia (pc' := 57) (n := 12) hM_50 d_50_56 rfl (shSk hs).2.1 hz2 ?_
        refine r_if (pc' := 64) (pc2 := 60) hM_50 d_50_57 (by decide) rfl (fun hz9 => ?_) (fun hz9 => ?_)
        · have H := H.1 hz9
          refine r_k (pc' := 65) (v := .inl 0) hM_50 d_50_64 rfl rfl ?_
          refine r_sto (pc' := 67) (ls' := [some (.inr (.inr (some s))), some (.inl b), some (.inl x2), some (.inl x3), some (.inl x4), some (.inl 1), some (.inl 0), none]) hM_50 d_50_65 rfl rfl ?_
          refine r_ld (pc' := 69) hM_50 d_50_67 rfl rfl ?_
          refine r_if (pc' := 86) (pc2 := 72) hM_50 d_50_69 (by decide) rfl (fun _ => ?_) (fun hc => absurd (show am_s 0 = 0 by decide) hc)
          refine r_k (pc' := 87) (v := .inl 1) hM_50 d_50_86 rfl rfl ?_
          refine r_sto (pc' := 89) (ls' := [some (.inr (.inr (some s))), some (.inl b), some (.inl x2), some (.inl x3), some (.inl x4), some (.inl 1), some (.inl 0), some (.inl 1)]) hM_50 d_50_87 rfl rfl ?_
          refine r_ld (pc' := 90) hM_50 d_50_89 rfl rfl ?_
          refine r_gR (pc' := 93) (v := (s + 4)) hM_50 d_50_90 rfl (gfS_8_21 hs) ?_
          refine r_ld (pc' := 95) hM_50 d_50_93 rfl rfl ?_
          refine r_ld (pc' := 97) hM_50 d_50_95 rfl rfl ?_
          refine r_if (pc' := 104) (pc2 := 100) hM_50 d_50_97 (by decide) rfl (fun hc => absurd hc (show ¬ (am_s 1 = 0) by decide)) (fun _ => ?_)
          refine r_k (pc' := 101) (v := .inl 0) hM_50 d_50_100 rfl rfl ?_
          refine r_go (pc' := 119) hM_50 d_50_101 (by decide) ?_
          refine r_is (pc' := 120) (n := 12) hM_50 d_50_119 rfl (shSk hs).2.2.2.2 hz2 ?_
          refine r_ld (pc' := 122) hM_50 d_50_120 rfl rfl ?_
          refine r_if (pc' := 188) (pc2 := 125) hM_50 d_50_122 (by decide) rfl (fun _ => ?_) (fun hc => absurd (show am_s 0 = 0 by decide) hc)
          refine r_sto (pc' := 191) (ls' := [some (.inr (.inr (some s))), some (.inl b), some (.inl x2), some (.inl x3), some (.inl (x4 + 1)), some (.inl 1), some (.inl 0), some (.inl 1)]) hM_50 d_50_188 rfl rfl ?_
          refine r_go (pc' := 11) hM_50 d_50_191 (by decide) ?_
          exact rn_wk (by simp only [am_le, and_self]) H
        · have H := H.2 hz9
          refine r_k (pc' := 61) (v := .inl 1) hM_50 d_50_60 rfl rfl ?_
          refine r_go (pc' := 65) hM_50 d_50_61 (by decide) ?_
          refine r_sto (pc' := 67) (ls' := [some (.inr (.inr (some s))), some (.inl b), some (.inl x2), some (.inl x3), some (.inl x4), some (.inl 1), some (.inl 1), none]) hM_50 d_50_65 rfl rfl ?_
          refine r_ld (pc' := 69) hM_50 d_50_67 rfl rfl ?_
          refine r_if (pc' := 86) (pc2 := 72) hM_50 d_50_69 (by decide) rfl (fun hc => absurd hc (show ¬ (am_s 1 = 0) by decide)) (fun _ => ?_)
          refine r_ld (pc' := 74) hM_50 d_50_72 rfl rfl ?_
          refine r_cl (pc' := 77) (c := (51, 2)) (a := [.inl x4]) (q := []) hM_50 d_50_74 rfl (by decide +kernel) hM_51 rfl rfl rfl (Nat.le_of_ble_eq_true rfl) (Nat.le_of_ble_eq_true rfl) (Or.inl rfl) (c_51  m x4) (Nat.le_of_ble_eq_true rfl) ?_
          show rn fx 1 (0, 0) 50 77 [some (.inr (.inr (some s))), some (.inl b), some (.inl x2), some (.inl x3), some (.inl x4), some (.inl 1), some (.inl 1), none] [.inl (v_51 m x4)] (st0 m) o
          refine r_ld (pc' := 78) hM_50 d_50_77 rfl rfl ?_
          refine r_b (pc' := 79) (z := (am_and (v_51 m x4) x2)) hM_50 d_50_78 rfl rfl ?_
          refine r_if (pc' := 86) (pc2 := 82) hM_50 d_50_79 (by decide) rfl (fun hz10 => ?_) (fun hz10 => ?_)
          · have H := H.1 hz10
            refine r_k (pc' := 87) (v := .inl 1) hM_50 d_50_86 rfl rfl ?_
            refine r_sto (pc' := 89) (ls' := [some (.inr (.inr (some s))), some (.inl b), some (.inl x2), some (.inl x3), some (.inl x4), some (.inl 1), some (.inl 1), some (.inl 1)]) hM_50 d_50_87 rfl rfl ?_
            refine r_ld (pc' := 90) hM_50 d_50_89 rfl rfl ?_
            refine r_gR (pc' := 93) (v := (s + 4)) hM_50 d_50_90 rfl (gfS_8_21 hs) ?_
            refine r_ld (pc' := 95) hM_50 d_50_93 rfl rfl ?_
            refine r_ld (pc' := 97) hM_50 d_50_95 rfl rfl ?_
            refine r_if (pc' := 104) (pc2 := 100) hM_50 d_50_97 (by decide) rfl (fun hc => absurd hc (show ¬ (am_s 1 = 0) by decide)) (fun _ => ?_)
            refine r_k (pc' := 101) (v := .inl 0) hM_50 d_50_100 rfl rfl ?_
            refine r_go (pc' := 119) hM_50 d_50_101 (by decide) ?_
            refine r_is (pc' := 120) (n := 12) hM_50 d_50_119 rfl (shSk hs).2.2.2.2 hz2 ?_
            refine r_ld (pc' := 122) hM_50 d_50_120 rfl rfl ?_
            refine r_if (pc' := 188) (pc2 := 125) hM_50 d_50_122 (by decide) rfl (fun hc => absurd hc (show ¬ (am_s 1 = 0) by decide)) (fun _ => ?_)
            refine r_ld (pc' := 126) hM_50 d_50_125 rfl rfl ?_
            refine r_gR (pc' := 129) (v := (s + 3)) hM_50 d_50_126 rfl (gfS_8_18 hs) ?_
            refine r_ld (pc' := 131) hM_50 d_50_129 rfl rfl ?_
            refine r_k (pc' := 133) (v := .inl 100) hM_50 d_50_131 rfl rfl ?_
            refine r_ld (pc' := 134) hM_50 d_50_133 rfl rfl ?_
            refine r_gR (pc' := 137) (v := (s + 3)) hM_50 d_50_134 rfl (gfS_8_18 hs) ?_
            refine r_ld (pc' := 139) hM_50 d_50_137 rfl rfl ?_
            refine r_iae (pc' := 140) (n := 12) (z := (m (s + 3) ((am_s x4).toNat))) hM_50 d_50_139 rfl (shSk hs).2.2.2.1 hz2 (mu_r (by omega)) ?_
            refine r_ld (pc' := 142) hM_50 d_50_140 rfl rfl ?_
            refine r_if (pc' := 149) (pc2 := 145) hM_50 d_50_142 (by decide) rfl (fun hc => absurd hc (show ¬ (am_s 1 = 0) by decide)) (fun _ => ?_)
            refine r_k (pc' := 146) (v := .inl 2) hM_50 d_50_145 rfl rfl ?_
            refine r_go (pc' := 150) hM_50 d_50_146 (by decide) ?_
            refine r_ld (pc' := 151) hM_50 d_50_150 rfl rfl ?_
            refine r_gR (pc' := 154) (v := (s + 2)) hM_50 d_50_151 rfl (gfS_8_15 hs) ?_
            refine r_ld (pc' := 156) hM_50 d_50_154 rfl rfl ?_
            refine r_iae (pc' := 157) (n := 12) (z := (m (s + 2) ((am_s x4).toNat))) hM_50 d_50_156 rfl (shSk hs).2.2.1 hz2 (mu_r (by omega)) ?_
            refine r_b (pc' := 158) (z := (2 * (m (s + 2) ((am_s x4).toNat)))) hM_50 d_50_157 rfl rfl ?_
            refine r_b (pc' := 159) (z := ((m (s + 3) ((am_s x4).toNat)) + (2 * (m (s + 2) ((am_s x4).toNat))))) hM_50 d_50_158 rfl rfl ?_
            refine r_cl (pc' := 162) (c := (14, 2)) (a := [.inl 100, .inl ((m (s + 3) ((am_s x4).toNat)) + (2 * (m (s + 2) ((am_s x4).toNat))))]) (q := [.inl x4, .inr (.inr (some (s + 3)))]) hM_50 d_50_159 rfl (by decide +kernel) hM_14 rfl rfl rfl (Nat.le_of_ble_eq_true rfl) (Nat.le_of_ble_eq_true rfl) (Or.inl rfl) (c_14  (mu m (s + 4) ((am_s x4).toNat) 0) 100 ((m (s + 3) ((am_s x4).toNat)) + (2 * (m (s + 2) ((am_s x4).toNat))))) (Nat.le_of_ble_eq_true rfl) ?_
            show rn fx 1 (0, 0) 50 162 [some (.inr (.inr (some s))), some (.inl b), some (.inl x2), some (.inl x3), some (.inl x4), some (.inl 1), some (.inl 1), some (.inl 1)] [.inl (v_14 (mu m (s + 4) ((am_s x4).toNat) 0) 100 ((m (s + 3) ((am_s x4).toNat)) + (2 * (m (s + 2) ((am_s x4).toNat))))), .inl x4, .inr (.inr (some (s + 3)))] (st0 (mu m (s + 4) ((am_s x4).toNat) 0)) o
            refine r_is (pc' := 163) (n := 12) hM_50 d_50_162 rfl (shSk hs).2.2.2.1 hz2 ?_
            refine r_ld (pc' := 164) hM_50 d_50_163 rfl rfl ?_
            refine r_gR (pc' := 167) (v := (s + 4)) hM_50 d_50_164 rfl (gfS_8_21 hs) ?_
            refine r_ld (pc' := 169) hM_50 d_50_167 rfl rfl ?_
            refine r_iae (pc' := 170) (n := 12) (z := 0) hM_50 d_50_169 rfl (shSk hs).2.2.2.2 hz2 ((mu_r (by omega)).trans (mu_same)) ?_
            refine r_ld (pc' := 171) hM_50 d_50_170 rfl rfl ?_
            refine r_gIe (pc' := 174) (k0 := 8) (z := (m s 8)) hM_50 d_50_171 rfl (gfS_8_40 hs) ((mu_r (by omega)).trans (mu_r (by omega))) ?_
            refine r_ic (pc' := 188) (pc2 := 177) hM_50 d_50_174 (by decide) rfl (fun hz11 => ?_) (fun hz11 => ?_)
            · have H := H.1 hz11
              refine r_sto (pc' := 191) (ls' := [some (.inr (.inr (some s))), some (.inl b), some (.inl x2), some (.inl x3), some (.inl (x4 + 1)), some (.inl 1), some (.inl 1), some (.inl 1)]) hM_50 d_50_188 rfl rfl ?_
              refine r_go (pc' := 11) hM_50 d_50_191 (by decide) ?_
              exact rn_wk (by simp only [am_le, and_self]) H
            · have H := H.2 hz11
              refine r_ld (pc' := 178) hM_50 d_50_177 rfl rfl ?_
              refine r_gR (pc' := 181) (v := (s + 1)) hM_50 d_50_178 rfl (gfS_8_9 hs) ?_
              refine r_ld (pc' := 183) hM_50 d_50_181 rfl rfl ?_
              refine r_k (pc' := 184) (v := .inl 1) hM_50 d_50_183 rfl rfl ?_
              refine r_is (pc' := 185) (n := 12) hM_50 d_50_184 rfl (shSk hs).2.1 hz2 ?_
              refine r_sto (pc' := 188) (ls' := [some (.inr (.inr (some s))), some (.inl b), some (.inl x2), some (.inl (x3 + 1)), some (.inl x4), some (.inl 1), some (.inl 1), some (.inl 1)]) hM_50 d_50_185 rfl rfl ?_
              refine r_sto (pc' := 191) (ls' := [some (.inr (.inr (some s))), some (.inl b), some (.inl x2), some (.inl (x3 + 1)), some (.inl (x4 + 1)), some (.inl 1), some (.inl 1), some (.inl 1)]) hM_50 d_50_188 rfl rfl ?_
              refine r_go (pc' := 11) hM_50 d_50_191 (by decide) ?_
              exact rn_wk (by simp only [am_le, and_self]) H
          · have H := H.2 hz10
            refine r_k (pc' := 83) (v := .inl 2) hM_50 d_50_82 rfl rfl ?_
            refine r_go (pc' := 87) hM_50 d_50_83 (by decide) ?_
            refine r_sto (pc' := 89) (ls' := [some (.inr (.inr (some s))), some (.inl b), some (.inl x2), some (.inl x3), some (.inl x4), some (.inl 1), some (.inl 1), some (.inl 2)]) hM_50 d_50_87 rfl rfl ?_
            refine r_ld (pc' := 90) hM_50 d_50_89 rfl rfl ?_
            refine r_gR (pc' := 93) (v := (s + 4)) hM_50 d_50_90 rfl (gfS_8_21 hs) ?_
            refine r_ld (pc' := 95) hM_50 d_50_93 rfl rfl ?_
            refine r_ld (pc' := 97) hM_50 d_50_95 rfl rfl ?_
            refine r_if (pc' := 104) (pc2 := 100) hM_50 d_50_97 (by decide) rfl (fun hc => absurd hc (show ¬ (am_s 1 = 0) by decide)) (fun _ => ?_)
            refine r_k (pc' := 101) (v := .inl 0) hM_50 d_50_100 rfl rfl ?_
            refine r_go (pc' := 119) hM_50 d_50_101 (by decide) ?_
            refine r_is (pc' := 120) (n := 12) hM_50 d_50_119 rfl (shSk hs).2.2.2.2 hz2 ?_
            refine r_ld (pc' := 122) hM_50 d_50_120 rfl rfl ?_
            refine r_if (pc' := 188) (pc2 := 125) hM_50 d_50_122 (by decide) rfl (fun hc => absurd hc (show ¬ (am_s 1 = 0) by decide)) (fun _ => ?_)
            refine r_ld (pc' := 126) hM_50 d_50_125 rfl rfl ?_
            refine r_gR (pc' := 129) (v := (s + 3)) hM_50 d_50_126 rfl (gfS_8_18 hs) ?_
            refine r_ld (pc' := 131) hM_50 d_50_129 rfl rfl ?_
            refine r_k (pc' := 133) (v := .inl 100) hM_50 d_50_131 rfl rfl ?_
            refine r_ld (pc' := 134) hM_50 d_50_133 rfl rfl ?_
            refine r_gR (pc' := 137) (v := (s + 3)) hM_50 d_50_134 rfl (gfS_8_18 hs) ?_
            refine r_ld (pc' := 139) hM_50 d_50_137 rfl rfl ?_
            refine r_iae (pc' := 140) (n := 12) (z := (m (s + 3) ((am_s x4).toNat))) hM_50 d_50_139 rfl (shSk hs).2.2.2.1 hz2 (mu_r (by omega)) ?_
            refine r_ld (pc' := 142) hM_50 d_50_140 rfl rfl ?_
            refine r_if (pc' := 149) (pc2 := 145) hM_50 d_50_142 (by decide) rfl (fun hc => absurd hc (show ¬ (am_s 1 = 0) by decide)) (fun _ => ?_)
            refine r_k (pc' := 146) (v := .inl 2) hM_50 d_50_145 rfl rfl ?_
            refine r_go (pc' := 150) hM_50 d_50_146 (by decide) ?_
            refine r_ld (pc' := 151) hM_50 d_50_150 rfl rfl ?_
            refine r_gR (pc' := 154) (v := (s + 2)) hM_50 d_50_151 rfl (gfS_8_15 hs) ?_
            refine r_ld (pc' := 156) hM_50 d_50_154 rfl rfl ?_
            refine r_iae (pc' := 157) (n := 12) (z := (m (s + 2) ((am_s x4).toNat))) hM_50 d_50_156 rfl (shSk hs).2.2.1 hz2 (mu_r (by omega)) ?_
            refine r_b (pc' := 158) (z := (2 * (m (s + 2) ((am_s x4).toNat)))) hM_50 d_50_157 rfl rfl ?_
            refine r_b (pc' := 159) (z := ((m (s + 3) ((am_s x4).toNat)) + (2 * (m (s + 2) ((am_s x4).toNat))))) hM_50 d_50_158 rfl rfl ?_
            refine r_cl (pc' := 162) (c := (14, 2)) (a := [.inl 100, .inl ((m (s + 3) ((am_s x4).toNat)) + (2 * (m (s + 2) ((am_s x4).toNat))))]) (q := [.inl x4, .inr (.inr (some (s + 3)))]) hM_50 d_50_159 rfl (by decide +kernel) hM_14 rfl rfl rfl (Nat.le_of_ble_eq_true rfl) (Nat.le_of_ble_eq_true rfl) (Or.inl rfl) (c_14  (mu m (s + 4) ((am_s x4).toNat) 0) 100 ((m (s + 3) ((am_s x4).toNat)) + (2 * (m (s + 2) ((am_s x4).toNat))))) (Nat.le_of_ble_eq_true rfl) ?_
            show rn fx 1 (0, 0) 50 162 [some (.inr (.inr (some s))), some (.inl b), some (.inl x2), some (.inl x3), some (.inl x4), some (.inl 1), some (.inl 1), some (.inl 2)] [.inl (v_14 (mu m (s + 4) ((am_s x4).toNat) 0) 100 ((m (s + 3) ((am_s x4).toNat)) + (2 * (m (s + 2) ((am_s x4).toNat))))), .inl x4, .inr (.inr (some (s + 3)))] (st0 (mu m (s + 4) ((am_s x4).toNat) 0)) o
            refine r_is (pc' := 163) (n := 12) hM_50 d_50_162 rfl (shSk hs).2.2.2.1 hz2 ?_
            refine r_ld (pc' := 164) hM_50 d_50_163 rfl rfl ?_
            refine r_gR (pc' := 167) (v := (s + 4)) hM_50 d_50_164 rfl (gfS_8_21 hs) ?_
            refine r_ld (pc' := 169) hM_50 d_50_167 rfl rfl ?_
            refine r_iae (pc' := 170) (n := 12) (z := 0) hM_50 d_50_169 rfl (shSk hs).2.2.2.2 hz2 ((mu_r (by omega)).trans (mu_same)) ?_
            refine r_ld (pc' := 171) hM_50 d_50_170 rfl rfl ?_
            refine r_gIe (pc' := 174) (k0 := 8) (z := (m s 8)) hM_50 d_50_171 rfl (gfS_8_40 hs) ((mu_r (by omega)).trans (mu_r (by omega))) ?_
            refine r_ic (pc' := 188) (pc2 := 177) hM_50 d_50_174 (by decide) rfl (fun hz12 => ?_) (fun hz12 => ?_)
            · have H := H.1 hz12
              refine r_sto (pc' := 191) (ls' := [some (.inr (.inr (some s))), some (.inl b), some (.inl x2), some (.inl x3), some (.inl (x4 + 1)), some (.inl 1), some (.inl 1), some (.inl 2)]) hM_50 d_50_188 rfl rfl ?_
              refine r_go (pc' := 11) hM_50 d_50_191 (by decide) ?_
              exact rn_wk (by simp only [am_le, and_self]) H
            · have H := H.2 hz12
              refine r_ld (pc' := 178) hM_50 d_50_177 rfl rfl ?_
              refine r_gR (pc' := 181) (v := (s + 1)) hM_50 d_50_178 rfl (gfS_8_9 hs) ?_
              refine r_ld (pc' := 183) hM_50 d_50_181 rfl rfl ?_
              refine r_k (pc' := 184) (v := .inl 1) hM_50 d_50_183 rfl rfl ?_
              refine r_is (pc' := 185) (n := 12) hM_50 d_50_184 rfl (shSk hs).2.1 hz2 ?_
              refine r_sto (pc' := 188) (ls' := [some (.inr (.inr (some s))), some (.inl b), some (.inl x2), some (.inl (x3 + 1)), some (.inl x4), some (.inl 1), some (.inl 1), some (.inl 2)]) hM_50 d_50_185 rfl rfl ?_
              refine r_sto (pc' := 191) (ls' := [some (.inr (.inr (some s))), some (.inl b), some (.inl x2), some (.inl (x3 + 1)), some (.inl (x4 + 1)), some (.inl 1), some (.inl 1), some (.inl 2)]) hM_50 d_50_188 rfl rfl ?_
              refine r_go (pc' := 11) hM_50 d_50_191 (by decide) ?_
              exact rn_wk (by simp only [am_le, and_self]) H
    · have H := H.2 hz3
      refine r_go (pc' := 188) hM_50 d_50_31 (by decide) ?_
      refine r_sto (pc' := 191) (ls' := [some (.inr (.inr (some s))), some (.inl b), some (.inl x2), some (.inl x3), some (.inl (x4 + 1)), none, none, none]) hM_50 d_50_188 rfl rfl ?_
      refine r_go (pc' := 11) hM_50 d_50_191 (by decide) ?_
      exact H
theorem t_50_0 {fx : am_X0} {o : List am_V × am_S} {m : am_M} {s : Nat} {b : Int} (hs : s ∈ shL) (H : (WFS m s) ∧ (rn fx 1 (0, 0) 50 11 [some (.inr (.inr (some s))), some (.inl b), some (.inl (((msk (m (s + 1)) (am_s 1) (m s 4).toNat : Nat) : Int))), some (.inl 0), some (.inl 0), none, none, none] [] (st0 m) o)) : rn fx 1 (0, 0) 50 0 [some (.inr (.inr (some s))), some (.inl b), none, none, none, none, none, none] [] (st0 m) o := by
  refine r_ld (pc' := 1) hM_50 d_50_0 rfl rfl ?_
  refine r_k (pc' := 2) (v := .inl 1) hM_50 d_50_1 rfl rfl ?_
  obtain ⟨hz1, H⟩ := H
  refine r_cl (pc' := 5) (c := (48, 0)) (a := [.inr (.inr (some s)), .inl 1]) (q := []) hM_50 d_50_2 rfl (by decide +kernel) hM_48 rfl rfl rfl (Nat.le_of_ble_eq_true rfl) (Nat.le_of_ble_eq_true rfl) (Or.inr (rcvS hs _)) (c_48 hs m 1 hz1) (Nat.le_of_ble_eq_true rfl) ?_
  show rn fx 1 (0, 0) 50 5 [some (.inr (.inr (some s))), some (.inl b), none, none, none, none, none, none] [.inl (((msk (m (s + 1)) (am_s 1) (m s 4).toNat : Nat) : Int))] (st0 m) o
  refine r_sto (pc' := 6) (ls' := [some (.inr (.inr (some s))), some (.inl b), some (.inl (((msk (m (s + 1)) (am_s 1) (m s 4).toNat : Nat) : Int))), none, none, none, none, none]) hM_50 d_50_5 rfl rfl ?_
  refine r_k (pc' := 7) (v := .inl 0) hM_50 d_50_6 rfl rfl ?_
  refine r_sto (pc' := 8) (ls' := [some (.inr (.inr (some s))), some (.inl b), some (.inl (((msk (m (s + 1)) (am_s 1) (m s 4).toNat : Nat) : Int))), some (.inl 0), none, none, none, none]) hM_50 d_50_7 rfl rfl ?_
  refine r_k (pc' := 9) (v := .inl 0) hM_50 d_50_8 rfl rfl ?_
  refine r_sto (pc' := 11) (ls' := [some (.inr (.inr (some s))), some (.inl b), some (.inl (((msk (m (s + 1)) (am_s 1) (m s 4).toNat : Nat) : Int))), some (.inl 0), some (.inl 0), none, none, none]) hM_50 d_50_9 rfl rfl ?_
  exact H
theorem bx_bit {B i : Nat} (hB : B < 2147483648) (hi : i < 32) : am_s (am_and (am_shr (B : Int) (i : Int)) 1) = 0 ↔ B.testBit i = false := by
  have h1 : (1 : Int) = ((1 : Nat) : Int) := rfl
  rw [bx_shr hB hi, h1, bx_and (Nat.lt_of_le_of_lt (Nat.div_le_self _ _) hB), Nat.and_one_is_mod, bx_s (by omega), Nat.testBit_eq_decide_div_mod_eq]
  constructor
  · intro h; simp; omega
  · intro h; simp at h; omega
/-- a neighbour of place i is in the set -/
def nb (bad i : Nat) : Bool := bad.testBit (i + 1) || (decide (0 < i) && bad.testBit (i - 1))
theorem bs_v : ∀ i : Nat, i < 12 → am_or (am_shl (am_shl 1 (i : Int)) 1) (am_shr (am_shl 1 (i : Int)) 1) = ((2 ^ (i + 1) ||| 2 ^ i / 2 : Nat) : Int) := by decide +kernel
theorem and_pow0 {bad a : Nat} : 2 ^ a &&& bad = 0 ↔ bad.testBit a = false := by
  constructor
  · intro h
    have h1 : (2 ^ a &&& bad).testBit a = false := by rw [h]; simp
    rw [Nat.testBit_and, Nat.testBit_two_pow] at h1
    simpa using h1
  · intro h
    apply Nat.eq_of_testBit_eq
    intro j
    rw [Nat.testBit_and, Nat.testBit_two_pow]
    by_cases hj : a = j
    · subst hj; simp [h]
    · simp [hj]
theorem nbr_and {bad i : Nat} (hi : i < 12) (m : am_M) : am_s (am_and (v_51 m (i : Int)) (bad : Int)) = 0 ↔ nb bad i = false := by
  have hlt : 2 ^ (i + 1) ||| 2 ^ i / 2 < 2147483648 := by
    have : ∀ i, i < 12 → 2 ^ (i + 1) ||| 2 ^ i / 2 < 2147483648 := by decide
    exact this i hi
  unfold v_51
  rw [bs_v i hi, bx_and hlt, bx_s (Nat.lt_of_le_of_lt Nat.and_le_left hlt), Nat.and_or_distrib_right]
  have e : ((2 ^ (i + 1) &&& bad ||| 2 ^ i / 2 &&& bad : Nat) : Int) = 0 ↔ 2 ^ (i + 1) &&& bad = 0 ∧ 2 ^ i / 2 &&& bad = 0 := by
    rw [Int.natCast_eq_zero]
    constructor
    · intro h
      have h1 : ∀ j, (2 ^ (i + 1) &&& bad ||| 2 ^ i / 2 &&& bad).testBit j = false := by intro j; rw [h]; simp
      constructor
      · apply Nat.eq_of_testBit_eq; intro j
        have := h1 j
        rw [Nat.testBit_or, Bool.or_eq_false_iff] at this
        rw [this.1]; simp
      · apply Nat.eq_of_testBit_eq; intro j
        have := h1 j
        rw [Nat.testBit_or, Bool.or_eq_false_iff] at this
        rw [this.2]; simp
    · rintro ⟨h1, h2⟩; rw [h1, h2]; rfl
  rw [e, and_pow0]
  unfold nb
  rw [Bool.or_eq_false_iff]
  cases i with
  | zero => simp
  | succ i =>
    rw [show 2 ^ (i + 1) / 2 = 2 ^ i by rw [Nat.pow_succ]; omega, and_pow0]
    simp
/-- what a day does to a place: idle days, ripeness, kind -/
def dI (k id : Int) (nbv tu : Bool) : Int := if k = 3 then id else if tu = true then 0 else min 99 (id + (if k = 0 ∧ nbv = true then 2 else 1))
def dR (k sa ri : Int) (tu : Bool) : Int := if k = 0 then min 100 (ri + (if tu = true then 2 else 1) * sa) else ri
def dK (k id lf : Int) (nbv tu : Bool) : Int := if k = 0 ∧ lf < dI k id nbv tu then 1 else k
/-- a shelf behind the first i places of a day on which B are turned -/
def psm (m : am_M) (s B bad i : Nat) : am_M := fun a j => if j < i then (if a = s + 4 then dI (m (s + 1) j) (m (s + 4) j) (nb bad j) (B.testBit j) else if a = s + 3 then dR (m (s + 1) j) (m (s + 2) j) (m (s + 3) j) (B.testBit j) else if a = s + 1 then dK (m (s + 1) j) (m (s + 4) j) (m s 8) (nb bad j) (B.testBit j) else m a j) else m a j
/-- how many went bad of the first i -/
def psn (m : am_M) (s B bad : Nat) : Nat → Int
  | 0 => 0
  | i + 1 => psn m s B bad i + (if m (s + 1) i = 0 ∧ m s 8 < dI (m (s + 1) i) (m (s + 4) i) (nb bad i) (B.testBit i) then 1 else 0)
theorem psm_i {m : am_M} {s B bad i a : Nat} : psm m s B bad i a i = m a i := by
  unfold psm
  rw [if_neg (by omega)]
theorem psm_s {m : am_M} {s B bad i j : Nat} : psm m s B bad i s j = m s j := by
  unfold psm
  split
  · rw [if_neg (by omega), if_neg (by omega), if_neg (by omega)]
  · rfl
theorem psm_0 {m : am_M} {s B bad : Nat} : psm m s B bad 0 = m := by
  funext a j
  simp [psm]
theorem psm_st {m : am_M} {s B bad i : Nat} : mu (mu (mu (psm m s B bad i) (s + 4) i (dI (m (s + 1) i) (m (s + 4) i) (nb bad i) (B.testBit i))) (s + 3) i (dR (m (s + 1) i) (m (s + 2) i) (m (s + 3) i) (B.testBit i))) (s + 1) i (dK (m (s + 1) i) (m (s + 4) i) (m s 8) (nb bad i) (B.testBit i)) = psm m s B bad (i + 1) := by
  funext a j
  unfold mu psm
  by_cases hj : j = i
  · subst hj
    rw [if_pos (Nat.lt_succ_self j)]
    by_cases h1 : a = s + 1
    · subst h1; rw [if_pos (by omega), if_neg (by omega), if_neg (by omega), if_pos rfl]
    by_cases h3 : a = s + 3
    · subst h3; rw [if_neg (by omega), if_pos (by omega), if_neg (by omega), if_pos rfl]
    by_cases h4 : a = s + 4
    · subst h4; rw [if_neg (by omega), if_neg (by omega), if_pos (by omega), if_pos rfl]
    rw [if_neg (by omega), if_neg (by omega), if_neg (by omega), if_neg (by omega), if_neg h4, if_neg h3, if_neg h1]
  · rw [if_neg (by omega), if_neg (by omega), if_neg (by omega)]
    by_cases hk : j < i
    · simp only [if_pos hk, if_pos (show j < i + 1 by omega)]
    · simp only [if_neg hk, if_neg (show ¬ j < i + 1 by omega)]
theorem v14 {m : am_M} {a b : Int} (ha : -1000000 ≤ a) (ha' : a ≤ 1000000) (hb : -1000000 ≤ b) (hb' : b ≤ 1000000) : v_14 m a b = min a b := by
  unfold v_14
  rw [am_s_id (by omega) (by omega), am_s_id (by omega) (by omega)]
  split <;> omega
/-- Shelf.pass -/
theorem c_50 {fx : am_X0} {s : Nat} (hs : s ∈ shL) (m : am_M) (b : Int) (hq : WFS m s ∧ 0 ≤ b ∧ b < 4096) : rn fx 1 (0, 0) 50 0 (am_ent 8 [.inr (.inr (some s)), .inl b]) [] (st0 m) ([.inl (psn m s b.toNat (msk (m (s + 1)) 1 (m s 4).toNat) (m s 4).toNat)], st0 (mu (psm m s b.toNat (msk (m (s + 1)) 1 (m s 4).toNat) (m s 4).toNat) s 11 (m s 11 + 1))) := by
  show rn fx 1 (0, 0) 50 0 [some (.inr (.inr (some s))), some (.inl b), none, none, none, none, none, none] [] (st0 m) _
  obtain ⟨hw, hb0, hb1⟩ := hq
  refine t_50_0 hs ⟨hw, ?_⟩
  obtain ⟨hN, hK, hSa, hR, hI, hlo, hli, hha, hle, hw⟩ := hw
  obtain ⟨B, rfl⟩ : ∃ B : Nat, b = (B : Int) := ⟨b.toNat, by omega⟩
  rw [Int.toNat_natCast]
  have e1 : am_s 1 = 1 := by decide
  rw [e1]
  have hbl := msk_lt (m (s + 1)) 1 (m s 4).toNat
  generalize msk (m (s + 1)) 1 (m s 4).toNat = bad at hbl ⊢
  have h := rn_loop (fx := fx) (d := 1) (mi := 50) (pc := 11) (cr := (0, 0)) (fun i => ([some (.inr (.inr (some s))), some (.inl (B : Int)), some (.inl (bad : Int)), some (.inl (psn m s B bad i)), some (.inl (i : Int)), none, none, none], psm m s B bad i)) (m s 4).toNat (fun i hi o h => ?_) (o := ([.inl (psn m s B bad (m s 4).toNat)], st0 (mu (psm m s B bad (m s 4).toNat) s 11 (m s 11 + 1)))) ?_
  · simp only [psm_0] at h
    exact h
  · have hk := hK i (by omega)
    have hsa := hSa i (by omega)
    have hri := hR i (by omega)
    have hid := hI i (by omega)
    have hstep := psm_st (m := m) (s := s) (B := B) (bad := bad) (i := i)
    refine t_50_11 hs ?_
    simp (disch := omega) only [am_s_id, Int.toNat_natCast, psm_i, psm_s, v14, bx_bit (B := B) (i := i) (by omega) (by omega), nbr_and (bad := bad) (i := i) (by omega)]
    refine ⟨fun q => by omega, fun _ => ⟨by omega, ?_⟩⟩
    have fin : ∀ (cnt : Int) (mm : am_M), psn m s B bad (i + 1) = cnt → mm = psm m s B bad (i + 1) → rn fx 1 (0, 0) 50 11 [some (.inr (.inr (some s))), some (.inl (B : Int)), some (.inl (bad : Int)), some (.inl cnt), some (.inl ((i : Int) + 1)), none, none, none] [] (st0 mm) o := by
      intro cnt mm e1 e2
      rw [← e1, e2]
      exact h
    clear h
    have en : psn m s B bad (i + 1) = psn m s B bad i + (if m (s + 1) i = 0 ∧ m s 8 < dI (m (s + 1) i) (m (s + 4) i) (nb bad i) (B.testBit i) then 1 else 0) := rfl
    refine ⟨fun k3 => ⟨fun tu => ⟨fun k0 => ?_, fun k0 => ⟨fun hn => ⟨fun hl => ?_, fun hl => ?_⟩, fun hn => ⟨fun hl => ?_, fun hl => ?_⟩⟩⟩, fun tu => ⟨fun k0 => ?_, fun k0 => ⟨fun hn => ⟨fun hl => ?_, fun hl => ?_⟩, fun hn => ⟨fun hl => ?_, fun hl => ?_⟩⟩⟩⟩, fun k3 => ?_⟩
    · have tu : B.testBit i = false := tu
      have hI : dI (m (s + 1) i) (m (s + 4) i) (nb bad i) (B.testBit i) = min 99 (m (s + 4) i + 1) := by simp [dI, k3, k0, tu]
      have hR : dR (m (s + 1) i) (m (s + 2) i) (m (s + 3) i) (B.testBit i) = m (s + 3) i := by simp [dR, k0]
      have hK : dK (m (s + 1) i) (m (s + 4) i) (m s 8) (nb bad i) (B.testBit i) = m (s + 1) i := by simp [dK, k0]
      rw [hI, hR, hK, mu_id (r := s + 1) (by rw [mu_r (by omega), mu_r (by omega), psm_i]), mu_id (r := s + 3) (by rw [mu_r (by omega), psm_i])] at hstep
      refine fin _ _ ?_ hstep
      rw [en, if_neg (fun q => k0 q.1), Int.add_zero]
    · have tu : B.testBit i = false := tu
      have k0 : m (s + 1) i = 0 := Decidable.not_not.mp k0
      have hn : nb bad i = false := hn
      have hI : dI (m (s + 1) i) (m (s + 4) i) (nb bad i) (B.testBit i) = min 99 (m (s + 4) i + 1) := by simp [dI, k0, tu, hn]
      have hR : dR (m (s + 1) i) (m (s + 2) i) (m (s + 3) i) (B.testBit i) = min 100 (m (s + 3) i + 1 * m (s + 2) i) := by simp [dR, k0, tu]
      have hK : dK (m (s + 1) i) (m (s + 4) i) (m s 8) (nb bad i) (B.testBit i) = m (s + 1) i := by unfold dK; rw [hI, if_neg (fun q => by have := q.2; omega)]
      rw [hI, hR, hK, mu_id (by rw [mu_r (by omega), mu_r (by omega), psm_i])] at hstep
      refine fin _ _ ?_ hstep
      rw [en, hI, if_neg (fun q => by have := q.2; omega), Int.add_zero]
    · have tu : B.testBit i = false := tu
      have k0 : m (s + 1) i = 0 := Decidable.not_not.mp k0
      have hn : nb bad i = false := hn
      have hI : dI (m (s + 1) i) (m (s + 4) i) (nb bad i) (B.testBit i) = min 99 (m (s + 4) i + 1) := by simp [dI, k0, tu, hn]
      have hR : dR (m (s + 1) i) (m (s + 2) i) (m (s + 3) i) (B.testBit i) = min 100 (m (s + 3) i + 1 * m (s + 2) i) := by simp [dR, k0, tu]
      have hK : dK (m (s + 1) i) (m (s + 4) i) (m s 8) (nb bad i) (B.testBit i) = 1 := by unfold dK; rw [hI, if_pos ⟨k0, by omega⟩]
      rw [hI, hR, hK] at hstep
      refine fin _ _ ?_ hstep
      rw [en, hI, if_pos ⟨k0, by omega⟩]
    · have tu : B.testBit i = false := tu
      have k0 : m (s + 1) i = 0 := Decidable.not_not.mp k0
      have hn : nb bad i = true := by simpa using hn
      have hI : dI (m (s + 1) i) (m (s + 4) i) (nb bad i) (B.testBit i) = min 99 (m (s + 4) i + 2) := by simp [dI, k0, tu, hn]
      have hR : dR (m (s + 1) i) (m (s + 2) i) (m (s + 3) i) (B.testBit i) = min 100 (m (s + 3) i + 1 * m (s + 2) i) := by simp [dR, k0, tu]
      have hK : dK (m (s + 1) i) (m (s + 4) i) (m s 8) (nb bad i) (B.testBit i) = m (s + 1) i := by unfold dK; rw [hI, if_neg (fun q => by have := q.2; omega)]
      rw [hI, hR, hK, mu_id (by rw [mu_r (by omega), mu_r (by omega), psm_i])] at hstep
      refine fin _ _ ?_ hstep
      rw [en, hI, if_neg (fun q => by have := q.2; omega), Int.add_zero]
    · have tu : B.testBit i = false := tu
      have k0 : m (s + 1) i = 0 := Decidable.not_not.mp k0
      have hn : nb bad i = true := by simpa using hn
      have hI : dI (m (s + 1) i) (m (s + 4) i) (nb bad i) (B.testBit i) = min 99 (m (s + 4) i + 2) := by simp [dI, k0, tu, hn]
      have hR : dR (m (s + 1) i) (m (s + 2) i) (m (s + 3) i) (B.testBit i) = min 100 (m (s + 3) i + 1 * m (s + 2) i) := by simp [dR, k0, tu]
      have hK : dK (m (s + 1) i) (m (s + 4) i) (m s 8) (nb bad i) (B.testBit i) = 1 := by unfold dK; rw [hI, if_pos ⟨k0, by omega⟩]
      rw [hI, hR, hK] at hstep
      refine fin _ _ ?_ hstep
      rw [en, hI, if_pos ⟨k0, by omega⟩]
    · have tu : B.testBit i = true := by simpa using tu
      have hI : dI (m (s + 1) i) (m (s + 4) i) (nb bad i) (B.testBit i) = 0 := by simp [dI, k3, k0, tu]
      have hR : dR (m (s + 1) i) (m (s + 2) i) (m (s + 3) i) (B.testBit i) = m (s + 3) i := by simp [dR, k0]
      have hK : dK (m (s + 1) i) (m (s + 4) i) (m s 8) (nb bad i) (B.testBit i) = m (s + 1) i := by simp [dK, k0]
      rw [hI, hR, hK, mu_id (r := s + 1) (by rw [mu_r (by omega), mu_r (by omega), psm_i]), mu_id (r := s + 3) (by rw [mu_r (by omega), psm_i])] at hstep
      refine fin _ _ ?_ hstep
      rw [en, if_neg (fun q => k0 q.1), Int.add_zero]
    · have tu : B.testBit i = true := by simpa using tu
      have k0 : m (s + 1) i = 0 := Decidable.not_not.mp k0
      have hn : nb bad i = false := hn
      have hI : dI (m (s + 1) i) (m (s + 4) i) (nb bad i) (B.testBit i) = 0 := by simp [dI, k0, tu, hn]
      have hR : dR (m (s + 1) i) (m (s + 2) i) (m (s + 3) i) (B.testBit i) = min 100 (m (s + 3) i + 2 * m (s + 2) i) := by simp [dR, k0, tu]
      have hK : dK (m (s + 1) i) (m (s + 4) i) (m s 8) (nb bad i) (B.testBit i) = m (s + 1) i := by unfold dK; rw [hI, if_neg (fun q => by have := q.2; omega)]
      rw [hI, hR, hK, mu_id (by rw [mu_r (by omega), mu_r (by omega), psm_i])] at hstep
      refine fin _ _ ?_ hstep
      rw [en, hI, if_neg (fun q => by have := q.2; omega), Int.add_zero]
    · have tu : B.testBit i = true := by simpa using tu
      have k0 : m (s + 1) i = 0 := Decidable.not_not.mp k0
      have hn : nb bad i = false := hn
      have hI : dI (m (s + 1) i) (m (s + 4) i) (nb bad i) (B.testBit i) = 0 := by simp [dI, k0, tu, hn]
      have hR : dR (m (s + 1) i) (m (s + 2) i) (m (s + 3) i) (B.testBit i) = min 100 (m (s + 3) i + 2 * m (s + 2) i) := by simp [dR, k0, tu]
      have hK : dK (m (s + 1) i) (m (s + 4) i) (m s 8) (nb bad i) (B.testBit i) = 1 := by unfold dK; rw [hI, if_pos ⟨k0, by omega⟩]
      rw [hI, hR, hK] at hstep
      refine fin _ _ ?_ hstep
      rw [en, hI, if_pos ⟨k0, by omega⟩]
    · have tu : B.testBit i = true := by simpa using tu
      have k0 : m (s + 1) i = 0 := Decidable.not_not.mp k0
      have hn : nb bad i = true := by simpa using hn
      have hI : dI (m (s + 1) i) (m (s + 4) i) (nb bad i) (B.testBit i) = 0 := by simp [dI, k0, tu, hn]
      have hR : dR (m (s + 1) i) (m (s + 2) i) (m (s + 3) i) (B.testBit i) = min 100 (m (s + 3) i + 2 * m (s + 2) i) := by simp [dR, k0, tu]
      have hK : dK (m (s + 1) i) (m (s + 4) i) (m s 8) (nb bad i) (B.testBit i) = m (s + 1) i := by unfold dK; rw [hI, if_neg (fun q => by have := q.2; omega)]
      rw [hI, hR, hK, mu_id (by rw [mu_r (by omega), mu_r (by omega), psm_i])] at hstep
      refine fin _ _ ?_ hstep
      rw [en, hI, if_neg (fun q => by have := q.2; omega), Int.add_zero]
    · have tu : B.testBit i = true := by simpa using tu
      have k0 : m (s + 1) i = 0 := Decidable.not_not.mp k0
      have hn : nb bad i = true := by simpa using hn
      have hI : dI (m (s + 1) i) (m (s + 4) i) (nb bad i) (B.testBit i) = 0 := by simp [dI, k0, tu, hn]
      have hR : dR (m (s + 1) i) (m (s + 2) i) (m (s + 3) i) (B.testBit i) = min 100 (m (s + 3) i + 2 * m (s + 2) i) := by simp [dR, k0, tu]
      have hK : dK (m (s + 1) i) (m (s + 4) i) (m s 8) (nb bad i) (B.testBit i) = 1 := by unfold dK; rw [hI, if_pos ⟨k0, by omega⟩]
      rw [hI, hR, hK] at hstep
      refine fin _ _ ?_ hstep
      rw [en, hI, if_pos ⟨k0, by omega⟩]
    · have k3 : m (s + 1) i = 3 := Decidable.not_not.mp k3
      have hI : dI (m (s + 1) i) (m (s + 4) i) (nb bad i) (B.testBit i) = m (s + 4) i := by simp [dI, k3]
      have hR : dR (m (s + 1) i) (m (s + 2) i) (m (s + 3) i) (B.testBit i) = m (s + 3) i := by simp [dR, k3]
      have hK : dK (m (s + 1) i) (m (s + 4) i) (m s 8) (nb bad i) (B.testBit i) = m (s + 1) i := by simp [dK, k3]
      rw [hI, hR, hK, mu_id (r := s + 1) (by rw [mu_r (by omega), mu_r (by omega), psm_i]), mu_id (r := s + 3) (by rw [mu_r (by omega), psm_i]), mu_id (r := s + 4) psm_i] at hstep
      refine fin _ _ ?_ hstep
      rw [en, if_neg (fun q => by have := q.1; omega), Int.add_zero]
  · refine t_50_11 hs ?_
    simp (disch := omega) only [am_s_id, psm_s]
    exact ⟨fun _ => by first | trivial | rfl, fun q => by omega⟩
