def SN (g : Nat → Int) : Nat := cf (sdp g) (g 0).toNat
noncomputable def ksp (g : Nat → Int) (j : Nat) : Nat := nthf (sdp g) (g 0).toNat j
def kpa (g : Nat → Int) (p : Nat) : Nat := if nb (ons g 1) p = true then 2 else 1
noncomputable def kw0 (g : Nat → Int) (j : Nat) : Nat := (g 5 - g (44 + ksp g j)).toNat / kpa g (ksp g j)
noncomputable def kf0 (g : Nat → Int) (j : Nat) : Nat := (g 5).toNat / kpa g (ksp g j)
theorem ksp_rk {g : Nat → Int} {p : Nat} (hp : p < (g 0).toNat) (h : sdp g p = true) : ksp g (cf (sdp g) p) = p := nthf_eq hp h rfl
theorem ksp_ok {g : Nat → Int} {j : Nat} (h : j < SN g) : ksp g j < (g 0).toNat ∧ sdp g (ksp g j) = true ∧ cf (sdp g) (ksp g j) = j := by
  obtain ⟨t, h1, h2, h3⟩ := cf_nth (g 0).toNat j h
  have : ksp g j = t := nthf_eq h1 h2 h3
  rw [this]
  exact ⟨h1, h2, h3⟩
theorem ksp_12 {g : Nat → Int} (hg : WFG g) (j : Nat) : ksp g j < 12 := by
  have hN := hg.1
  unfold ksp nthf
  split
  · rename_i h
    have := (Classical.choose_spec h).1
    omega
  · decide
theorem kpa_12 {g : Nat → Int} {p : Nat} : kpa g p = 1 ∨ kpa g p = 2 := by
  unfold kpa
  split
  · exact Or.inr rfl
  · exact Or.inl rfl
theorem kw0_lt {g : Nat → Int} (hg : WFG g) (j : Nat) : kw0 g j < 8 := by
  have h1 := hg.2.2.2.2.1 (ksp g j) (ksp_12 hg j)
  have h2 := hg.2.2.2.2.2.2.2.2.1
  unfold kw0
  have h3 := Nat.div_le_self (g 5 - g (44 + ksp g j)).toNat (kpa g (ksp g j))
  omega
theorem kf0_lt {g : Nat → Int} (hg : WFG g) (j : Nat) : kf0 g j < 8 := by
  have h2 := hg.2.2.2.2.2.2.2.2.1
  unfold kf0
  have h3 := Nat.div_le_self (g 5).toNat (kpa g (ksp g j))
  omega
/-- what both see of the sound barrels -/
def KLK (g : Nat → Int) (m : am_M) : Prop := KST m ∧ kn m = SN g ∧ kH m = (g 4).toNat ∧ (∀ j, j < SN g → kfl (m 43 5).toNat j = kw0 g j) ∧ (∀ j, j < SN g → kF m j = kf0 g j) ∧ ∀ j, j < SN g → m 44 j = ((ksp g j : Nat) : Int)
theorem u_115_37 {Q : List am_V → am_M → Prop} {m : am_M} {b : Int} {p : Int}  (H : ((am_s (m 2 4) ≤ am_s p) → Q [.inl 1] m) ∧ ((¬ (am_s (m 2 4) ≤ am_s p)) → (0 ≤ am_s p ∧ am_s p < (12 : Nat)) ∧ (((am_s (m 3 ((am_s p).toNat)) = 0) → ((am_s (m 43 3) < 5) → ∀ y1 : Int, y1 = (if am_s (am_and (v_51 m p) b) = 0 then 1 else 2) → (am_s y1 ≠ 0) ∧ ((0 ≤ am_s (m 43 3) ∧ am_s (m 43 3) < (5 : Nat)) ∧ (ok 1 115 37 [some (.inr (.inr (some 43))), some (.inl b), some (.inl (p + 1)), none] [] (mu (mu (mu (mu m 43 5 (am_or (m 43 5) (am_shl (am_div (v_74 m 0 ((m 2 8) - (m 6 ((am_s p).toNat)))) y1) (3 * (m 43 3))))) 43 6 (am_or (m 43 6) (am_shl (am_div (m 2 8) y1) (3 * (m 43 3))))) 44 ((am_s (m 43 3)).toNat) p) 43 3 ((m 43 3) + 1)) Q))) ∧ ((¬ (am_s (m 43 3) < 5)) → Q [.inl 0] m)) ∧ ((¬ (am_s (m 3 ((am_s p).toNat)) = 0)) → ok 1 115 37 [some (.inr (.inr (some 43))), some (.inl b), some (.inl (p + 1)), none] [] m Q)))) : ok 1 115 37 [some (.inr (.inr (some 43))), some (.inl b), some (.inl p), none] [] m Q := by
  refine ok_sg (pc' := 45) (ls' := [some (.inr (.inr (some 43))), some (.inl b), some (.inl p), none]) (st' := [.inl (m 2 4), .inl p]) (m' := m) (fun fx hfx o hk => ?_) ?_
  · refine r_ld (pc' := 38) hM_115 d_115_37 rfl rfl ?_
    refine r_ld (pc' := 39) hM_115 d_115_38 rfl rfl ?_
    refine r_gR (pc' := 42) (v := 2) hM_115 d_115_39 rfl (by decide +kernel) ?_
    refine r_gI (pc' := 45) (k0 := 4) hM_115 d_115_42 rfl (by decide +kernel) ?_
    exact hk
  refine ok_ic (pc' := 178) (pc2 := 48) hM_115 d_115_45 (by decide) rfl (fun hz1 => ?_) (fun hz1 => ?_)
  · have H := H.1 hz1
    refine ok_sg (pc' := 179) (ls' := [some (.inr (.inr (some 43))), some (.inl b), some (.inl p), none]) (st' := [.inl 1]) (m' := m) (fun fx hfx o hk => ?_) ?_
    · refine r_k (pc' := 179) (v := .inl 1) hM_115 d_115_178 rfl rfl ?_
      exact hk
    exact ok_rt (fun fx _ => rt_z hM_115 d_115_179 rfl (by decide)) H
  · have H := H.2 hz1
    obtain ⟨hz2, H⟩ := H
    refine ok_sg (pc' := 57) (ls' := [some (.inr (.inr (some 43))), some (.inl b), some (.inl p), none]) (st' := [.inl (m 3 ((am_s p).toNat))]) (m' := m) (fun fx hfx o hk => ?_) ?_
    · refine r_ld (pc' := 49) hM_115 d_115_48 rfl rfl ?_
      refine r_gR (pc' := 52) (v := 2) hM_115 d_115_49 rfl (by decide +kernel) ?_
      refine r_gR (pc' := 55) (v := 3) hM_115 d_115_52 rfl (by decide +kernel) ?_
      refine r_ld (pc' := 56) hM_115 d_115_55 rfl rfl ?_
      refine r_ia (pc' := 57) (n := 12) hM_115 d_115_56 rfl rfl hz2 ?_
      exact hk
    refine ok_if (pc' := 63) (pc2 := 60) hM_115 d_115_57 (by decide) rfl (fun hz3 => ?_) (fun hz3 => ?_)
    · have H := H.1 hz3
      refine ok_sg (pc' := 68) (ls' := [some (.inr (.inr (some 43))), some (.inl b), some (.inl p), none]) (st' := [.inl 5, .inl (m 43 3)]) (m' := m) (fun fx hfx o hk => ?_) ?_
      · refine r_ld (pc' := 64) hM_115 d_115_63 rfl rfl ?_
        refine r_gI (pc' := 67) (k0 := 3) hM_115 d_115_64 rfl (by decide +kernel) ?_
        refine r_k (pc' := 68) (v := .inl 5) hM_115 d_115_67 rfl rfl ?_
        exact hk
      refine ok_ic (pc' := 73) (pc2 := 71) hM_115 d_115_68 (by decide) rfl (fun hz4 => ?_) (fun hz4 => ?_)
      · have H := H.1 hz4
        refine ok_sg (pc' := 79) (ls' := [some (.inr (.inr (some 43))), some (.inl b), some (.inl p), none]) (st' := [.inl (am_and (v_51 m p) b)]) (m' := m) (fun fx hfx o hk => ?_) ?_
        · refine r_ld (pc' := 74) hM_115 d_115_73 rfl rfl ?_
          refine r_cl (pc' := 77) (c := (51, 2)) (a := [.inl p]) (q := []) hM_115 d_115_74 rfl (by decide +kernel) hM_51 rfl rfl rfl (Nat.le_of_ble_eq_true rfl) (Nat.le_of_ble_eq_true rfl) (Or.inl rfl) (c_51  m p) (Nat.le_of_ble_eq_true rfl) ?_
          show rn fx 1 (0, 0) 115 77 [some (.inr (.inr (some 43))), some (.inl b), some (.inl p), none] [.inl (v_51 m p)] (st0 m) o
          refine r_ld (pc' := 78) hM_115 d_115_77 rfl rfl ?_
          refine r_b (pc' := 79) (z := (am_and (v_51 m p) b)) hM_115 d_115_78 rfl rfl ?_
          exact hk
        refine ok_sg (pc' := 87) (ls' := [some (.inr (.inr (some 43))), some (.inl b), some (.inl p), none]) (st' := [.inl (if am_s (am_and (v_51 m p) b) = 0 then 1 else 2)]) (m' := m) (fun fx hfx o K => ?_) ?_
        · refine r_if (pc' := 86) (pc2 := 82) hM_115 d_115_79 (by decide) rfl (fun hz5 => ?_) (fun hz5 => ?_)
          · have hz5 : am_s (am_and (v_51 m p) b) = 0 := hz5
            rw [if_pos hz5] at K
            refine r_k (pc' := 87) (v := .inl 1) hM_115 d_115_86 rfl rfl ?_
            exact K
          · have hz5 : ¬ (am_s (am_and (v_51 m p) b) = 0) := hz5
            rw [if_neg hz5] at K
            refine r_k (pc' := 83) (v := .inl 2) hM_115 d_115_82 rfl rfl ?_
            refine r_go (pc' := 87) hM_115 d_115_83 (by decide) ?_
            exact K
        have K : ∀ y1 : Int, y1 = (if am_s (am_and (v_51 m p) b) = 0 then 1 else 2) → ok 1 115 87 [some (.inr (.inr (some 43))), some (.inl b), some (.inl p), none] [.inl y1] m Q := by
          intro y1 hy1
          replace H := H y1 hy1
          obtain ⟨hz6, H⟩ := H
          obtain ⟨hz7, H⟩ := H
          refine ok_sg (pc' := 37) (ls' := [some (.inr (.inr (some 43))), some (.inl b), some (.inl (p + 1)), none]) (st' := []) (m' := mu (mu (mu (mu m 43 5 (am_or (m 43 5) (am_shl (am_div (v_74 m 0 ((m 2 8) - (m 6 ((am_s p).toNat)))) y1) (3 * (m 43 3))))) 43 6 (am_or (m 43 6) (am_shl (am_div (m 2 8) y1) (3 * (m 43 3))))) 44 ((am_s (m 43 3)).toNat) p) 43 3 ((m 43 3) + 1)) (fun fx hfx o hk => ?_) ?_
          · refine r_sto (pc' := 88) (ls' := [some (.inr (.inr (some 43))), some (.inl b), some (.inl p), some (.inl y1)]) hM_115 d_115_87 rfl rfl ?_
            refine r_ld (pc' := 89) hM_115 d_115_88 rfl rfl ?_
            refine r_stk (pc' := 90) (st' := [.inr (.inr (some 43)), .inr (.inr (some 43))]) hM_115 d_115_89 rfl rfl ?_
            refine r_gI (pc' := 93) (k0 := 5) hM_115 d_115_90 rfl (by decide +kernel) ?_
            refine r_k (pc' := 94) (v := .inl 0) hM_115 d_115_93 rfl rfl ?_
            refine r_ld (pc' := 95) hM_115 d_115_94 rfl rfl ?_
            refine r_gR (pc' := 98) (v := 2) hM_115 d_115_95 rfl (by decide +kernel) ?_
            refine r_gI (pc' := 101) (k0 := 8) hM_115 d_115_98 rfl (by decide +kernel) ?_
            refine r_ld (pc' := 102) hM_115 d_115_101 rfl rfl ?_
            refine r_gR (pc' := 105) (v := 2) hM_115 d_115_102 rfl (by decide +kernel) ?_
            refine r_gR (pc' := 108) (v := 6) hM_115 d_115_105 rfl (by decide +kernel) ?_
            refine r_ld (pc' := 109) hM_115 d_115_108 rfl rfl ?_
            refine r_ia (pc' := 110) (n := 12) hM_115 d_115_109 rfl rfl hz2 ?_
            refine r_b (pc' := 111) (z := ((m 2 8) - (m 6 ((am_s p).toNat)))) hM_115 d_115_110 rfl rfl ?_
            refine r_cl (pc' := 114) (c := (74, 2)) (a := [.inl 0, .inl ((m 2 8) - (m 6 ((am_s p).toNat)))]) (q := [.inl (m 43 5), .inr (.inr (some 43))]) hM_115 d_115_111 rfl (by decide +kernel) hM_74 rfl rfl rfl (Nat.le_of_ble_eq_true rfl) (Nat.le_of_ble_eq_true rfl) (Or.inl rfl) (c_74  m 0 ((m 2 8) - (m 6 ((am_s p).toNat)))) (Nat.le_of_ble_eq_true rfl) ?_
            show rn fx 1 (0, 0) 115 114 [some (.inr (.inr (some 43))), some (.inl b), some (.inl p), some (.inl y1)] [.inl (v_74 m 0 ((m 2 8) - (m 6 ((am_s p).toNat)))), .inl (m 43 5), .inr (.inr (some 43))] (st0 m) o
            refine r_ld (pc' := 115) hM_115 d_115_114 rfl rfl ?_
            refine r_div (pc' := 116) hM_115 d_115_115 rfl hz6 ?_
            refine r_k (pc' := 117) (v := .inl 3) hM_115 d_115_116 rfl rfl ?_
            refine r_ld (pc' := 118) hM_115 d_115_117 rfl rfl ?_
            refine r_gI (pc' := 121) (k0 := 3) hM_115 d_115_118 rfl (by decide +kernel) ?_
            refine r_b (pc' := 122) (z := (3 * (m 43 3))) hM_115 d_115_121 rfl rfl ?_
            refine r_b (pc' := 123) (z := (am_shl (am_div (v_74 m 0 ((m 2 8) - (m 6 ((am_s p).toNat)))) y1) (3 * (m 43 3)))) hM_115 d_115_122 rfl rfl ?_
            refine r_b (pc' := 124) (z := (am_or (m 43 5) (am_shl (am_div (v_74 m 0 ((m 2 8) - (m 6 ((am_s p).toNat)))) y1) (3 * (m 43 3))))) hM_115 d_115_123 rfl rfl ?_
            refine r_pI (pc' := 127) (k0 := 5) hM_115 d_115_124 rfl (by decide +kernel) ?_
            refine r_ld (pc' := 128) hM_115 d_115_127 rfl rfl ?_
            refine r_stk (pc' := 129) (st' := [.inr (.inr (some 43)), .inr (.inr (some 43))]) hM_115 d_115_128 rfl rfl ?_
            refine r_gIe (pc' := 132) (k0 := 6) (z := (m 43 6)) hM_115 d_115_129 rfl (by decide +kernel) (mu_k (by omega)) ?_
            refine r_ld (pc' := 133) hM_115 d_115_132 rfl rfl ?_
            refine r_gR (pc' := 136) (v := 2) hM_115 d_115_133 rfl (by decide +kernel) ?_
            refine r_gIe (pc' := 139) (k0 := 8) (z := (m 2 8)) hM_115 d_115_136 rfl (by decide +kernel) (mu_r (by decide)) ?_
            refine r_ld (pc' := 140) hM_115 d_115_139 rfl rfl ?_
            refine r_div (pc' := 141) hM_115 d_115_140 rfl hz6 ?_
            refine r_k (pc' := 142) (v := .inl 3) hM_115 d_115_141 rfl rfl ?_
            refine r_ld (pc' := 143) hM_115 d_115_142 rfl rfl ?_
            refine r_gIe (pc' := 146) (k0 := 3) (z := (m 43 3)) hM_115 d_115_143 rfl (by decide +kernel) (mu_k (by omega)) ?_
            refine r_b (pc' := 147) (z := (3 * (m 43 3))) hM_115 d_115_146 rfl rfl ?_
            refine r_b (pc' := 148) (z := (am_shl (am_div (m 2 8) y1) (3 * (m 43 3)))) hM_115 d_115_147 rfl rfl ?_
            refine r_b (pc' := 149) (z := (am_or (m 43 6) (am_shl (am_div (m 2 8) y1) (3 * (m 43 3))))) hM_115 d_115_148 rfl rfl ?_
            refine r_pI (pc' := 152) (k0 := 6) hM_115 d_115_149 rfl (by decide +kernel) ?_
            refine r_ld (pc' := 153) hM_115 d_115_152 rfl rfl ?_
            refine r_gR (pc' := 156) (v := 44) hM_115 d_115_153 rfl (by decide +kernel) ?_
            refine r_ld (pc' := 157) hM_115 d_115_156 rfl rfl ?_
            refine r_gIe (pc' := 160) (k0 := 3) (z := (m 43 3)) hM_115 d_115_157 rfl (by decide +kernel) ((mu_k (by omega)).trans (mu_k (by omega))) ?_
            refine r_ld (pc' := 161) hM_115 d_115_160 rfl rfl ?_
            refine r_is (pc' := 162) (n := 5) hM_115 d_115_161 rfl rfl hz7 ?_
            refine r_ld (pc' := 163) hM_115 d_115_162 rfl rfl ?_
            refine r_stk (pc' := 164) (st' := [.inr (.inr (some 43)), .inr (.inr (some 43))]) hM_115 d_115_163 rfl rfl ?_
            refine r_gIe (pc' := 167) (k0 := 3) (z := (m 43 3)) hM_115 d_115_164 rfl (by decide +kernel) ((mu_r (by decide)).trans ((mu_k (by omega)).trans (mu_k (by omega)))) ?_
            refine r_k (pc' := 168) (v := .inl 1) hM_115 d_115_167 rfl rfl ?_
            refine r_b (pc' := 169) (z := ((m 43 3) + 1)) hM_115 d_115_168 rfl rfl ?_
            refine r_pI (pc' := 172) (k0 := 3) hM_115 d_115_169 rfl (by decide +kernel) ?_
            refine r_sto (pc' := 175) (ls' := [some (.inr (.inr (some 43))), some (.inl b), some (.inl (p + 1)), some (.inl y1)]) hM_115 d_115_172 rfl rfl ?_
            refine r_go (pc' := 37) hM_115 d_115_175 (by decide) ?_
            refine rn_wk (a := [some (.inr (.inr (some 43))), some (.inl b), some (.inl (p + 1)), none]) (by simp only [am_le, and_self]) ?_
            exact hk
          exact H
        exact K _ rfl
      · have H := H.2 hz4
        refine ok_sg (pc' := 72) (ls' := [some (.inr (.inr (some 43))), some (.inl b), some (.inl p), none]) (st' := [.inl 0]) (m' := m) (fun fx hfx o hk => ?_) ?_
        · refine r_k (pc' := 72) (v := .inl 0) hM_115 d_115_71 rfl rfl ?_
          exact hk
        exact ok_rt (fun fx _ => rt_z hM_115 d_115_72 rfl (by decide)) H
    · have H := H.2 hz3
      refine ok_sg (pc' := 37) (ls' := [some (.inr (.inr (some 43))), some (.inl b), some (.inl (p + 1)), none]) (st' := []) (m' := m) (fun fx hfx o hk => ?_) ?_
      · refine r_go (pc' := 172) hM_115 d_115_60 (by decide) ?_
        refine r_sto (pc' := 175) (ls' := [some (.inr (.inr (some 43))), some (.inl b), some (.inl (p + 1)), none]) hM_115 d_115_172 rfl rfl ?_
        refine r_go (pc' := 37) hM_115 d_115_175 (by decide) ?_
        exact hk
      exact H
theorem u_115_0 {Q : List am_V → am_M → Prop} {m : am_M}   (H : (WFG (vw (mu (mu (mu (mu m 43 3 0) 43 5 0) 43 6 0) 43 4 (m 2 7)) 2)) ∧ (ok 1 115 37 [some (.inr (.inr (some 43))), some (.inl (((ons (nv (vw (mu (mu (mu (mu m 43 3 0) 43 5 0) 43 6 0) 43 4 (m 2 7)) 2)) (am_s 1) : Nat) : Int))), some (.inl 0), none] [] (mu (mu (mu (mu m 43 3 0) 43 5 0) 43 6 0) 43 4 (m 2 7)) Q)) : ok 1 115 0 [some (.inr (.inr (some 43))), none, none, none] [] m Q := by
  obtain ⟨hz1, H⟩ := H
  refine ok_sg (pc' := 37) (ls' := [some (.inr (.inr (some 43))), some (.inl (((ons (nv (vw (mu (mu (mu (mu m 43 3 0) 43 5 0) 43 6 0) 43 4 (m 2 7)) 2)) (am_s 1) : Nat) : Int))), some (.inl 0), none]) (st' := []) (m' := mu (mu (mu (mu m 43 3 0) 43 5 0) 43 6 0) 43 4 (m 2 7)) (fun fx hfx o hk => ?_) ?_
  · refine r_ld (pc' := 1) hM_115 d_115_0 rfl rfl ?_
    refine r_k (pc' := 2) (v := .inl 0) hM_115 d_115_1 rfl rfl ?_
    refine r_pI (pc' := 5) (k0 := 3) hM_115 d_115_2 rfl (by decide +kernel) ?_
    refine r_ld (pc' := 6) hM_115 d_115_5 rfl rfl ?_
    refine r_k (pc' := 7) (v := .inl 0) hM_115 d_115_6 rfl rfl ?_
    refine r_pI (pc' := 10) (k0 := 5) hM_115 d_115_7 rfl (by decide +kernel) ?_
    refine r_ld (pc' := 11) hM_115 d_115_10 rfl rfl ?_
    refine r_k (pc' := 12) (v := .inl 0) hM_115 d_115_11 rfl rfl ?_
    refine r_pI (pc' := 15) (k0 := 6) hM_115 d_115_12 rfl (by decide +kernel) ?_
    refine r_ld (pc' := 16) hM_115 d_115_15 rfl rfl ?_
    refine r_ld (pc' := 17) hM_115 d_115_16 rfl rfl ?_
    refine r_gR (pc' := 20) (v := 2) hM_115 d_115_17 rfl (by decide +kernel) ?_
    refine r_gIe (pc' := 23) (k0 := 7) (z := (m 2 7)) hM_115 d_115_20 rfl (by decide +kernel) ((mu_r (by decide)).trans ((mu_r (by decide)).trans (mu_r (by decide)))) ?_
    refine r_pI (pc' := 26) (k0 := 4) hM_115 d_115_23 rfl (by decide +kernel) ?_
    refine r_ld (pc' := 27) hM_115 d_115_26 rfl rfl ?_
    refine r_gR (pc' := 30) (v := 2) hM_115 d_115_27 rfl (by decide +kernel) ?_
    refine r_k (pc' := 31) (v := .inl 1) hM_115 d_115_30 rfl rfl ?_
    refine r_cl (pc' := 34) (c := (48, 0)) (a := [.inr (.inr (some 2)), .inl 1]) (q := []) hM_115 d_115_31 rfl (by decide +kernel) hM_48 rfl rfl rfl (Nat.le_of_ble_eq_true rfl) (Nat.le_of_ble_eq_true rfl) (Or.inr rfl) (n_48 (by decide) (mu (mu (mu (mu m 43 3 0) 43 5 0) 43 6 0) 43 4 (m 2 7)) 1 hz1) (Nat.le_of_ble_eq_true rfl) ?_
    show rn fx 1 (0, 0) 115 34 [some (.inr (.inr (some 43))), none, none, none] [.inl (((ons (nv (vw (mu (mu (mu (mu m 43 3 0) 43 5 0) 43 6 0) 43 4 (m 2 7)) 2)) (am_s 1) : Nat) : Int))] (st0 (mu (mu (mu (mu m 43 3 0) 43 5 0) 43 6 0) 43 4 (m 2 7))) o
    refine r_sto (pc' := 35) (ls' := [some (.inr (.inr (some 43))), some (.inl (((ons (nv (vw (mu (mu (mu (mu m 43 3 0) 43 5 0) 43 6 0) 43 4 (m 2 7)) 2)) (am_s 1) : Nat) : Int))), none, none]) hM_115 d_115_34 rfl rfl ?_
    refine r_k (pc' := 36) (v := .inl 0) hM_115 d_115_35 rfl rfl ?_
    refine r_sto (pc' := 37) (ls' := [some (.inr (.inr (some 43))), some (.inl (((ons (nv (vw (mu (mu (mu (mu m 43 3 0) 43 5 0) 43 6 0) 43 4 (m 2 7)) 2)) (am_s 1) : Nat) : Int))), some (.inl 0), none]) hM_115 d_115_36 rfl rfl ?_
    exact hk
  exact H
theorem z_115   (m : am_M)  (hq : WFG (vw m 2)) : ok 1 115 0 (am_ent 4 [.inr (.inr (some 43))]) [] m (fun rr m' => rr = [.inl ((if SN (nv (vw m 2)) ≤ 5 then 1 else 0))] ∧ (SN (nv (vw m 2)) ≤ 5 → KLK (nv (vw m 2)) m') ∧ ∀ a, a ≠ 43 → a ≠ 44 → m' a = m a) := by
  show ok 1 115 0 [some (.inr (.inr (some 43))), none, none, none] [] m _
  have hN := vwN hq
  have hwn := WFG_nv hq
  obtain ⟨N, hNv⟩ : ∃ N : Nat, m 2 4 = (N : Int) := ⟨(m 2 4).toNat, by omega⟩
  have eg0 : (nv (vw m 2) 0).toNat = N := by rw [nv0, vw_0, hNv, Int.toNat_natCast]
  have eN : am_s (m 2 4) = (N : Int) := by rw [hNv]; exact am_s_id (by omega) (by omega)
  have h4 : m 2 7 = nv (vw m 2) 4 := by rw [nv_lo (by decide), vw_4]
  have h5 : m 2 8 = nv (vw m 2) 5 := by rw [nv_lo (by decide), vw_5]
  have hK3 : ∀ p : Nat, p < N → m 3 p = nv (vw m 2) (8 + p) := fun p hp => (nvK (s := 2) (by omega) (by omega)).symm
  have hK6 : ∀ p : Nat, p < N → m 6 p = nv (vw m 2) (44 + p) := fun p hp => (nvI (s := 2) (by omega) (by omega)).symm
  have fv0 : vw (mu (mu (mu (mu m 43 3 0) 43 5 0) 43 6 0) 43 4 (m 2 7)) 2 = vw m 2 := vw_same fun a k q1 q2 => by rw [mu_r (by omega), mu_r (by omega), mu_r (by omega), mu_r (by omega)]
  refine u_115_0 ?_
  rw [fv0]
  refine ⟨hq, ?_⟩
  rw [show am_s 1 = 1 from rfl]
  clear fv0
  generalize nv (vw m 2) = g at *
  have hSN : SN g = cf (sdp g) N := by unfold SN; rw [eg0]
  have w5 := hwn.2.2.2.2.2.2.2.2.1
  have w4 := hwn.2.2.2.2.2.2.2.1
  refine ok_for (σ := Unit) (fun p _ => [some (.inr (.inr (some 43))), some (.inl ((ons g 1 : Nat) : Int)), some (.inl (p : Int)), none]) (fun p _ M => cf (sdp g) p ≤ 5 ∧ M 43 3 = ((cf (sdp g) p : Nat) : Int) ∧ M 43 5 = ((kpk (kw0 g) (cf (sdp g) p) : Nat) : Int) ∧ M 43 6 = ((kpk (kf0 g) (cf (sdp g) p) : Nat) : Int) ∧ M 43 4 = g 4 ∧ (∀ j, j < cf (sdp g) p → M 44 j = ((ksp g j : Nat) : Int)) ∧ ∀ a, a ≠ 43 → a ≠ 44 → M a = m a) N ?_ ?_ () _ ⟨Nat.zero_le _, by rw [mu_k (by decide), mu_k (by decide), mu_k (by decide), mu_same]; rfl, by rw [mu_k (by decide), mu_k (by decide), mu_same]; rfl, by rw [mu_k (by decide), mu_same]; rfl, by rw [mu_same, h4], fun j h => absurd h (Nat.not_lt_zero _), fun a q1 q2 => by rw [mu_rf q1, mu_rf q1, mu_rf q1, mu_rf q1]⟩
  · rintro p hp - M ⟨h0, h1, h2, h3, h6, h7, h8⟩ IH
    have e3 : M 3 p = g (8 + p) := by rw [h8 3 (by decide) (by decide)]; exact hK3 p hp
    have e6 : M 6 p = g (44 + p) := by rw [h8 6 (by decide) (by decide)]; exact hK6 p hp
    have e2 : M 2 = m 2 := h8 2 (by decide) (by decide)
    have hk := hwn.2.1 p (by omega)
    have hid := hwn.2.2.2.2.1 p (by omega)
    have hst := cf_s (Q := sdp g) (t := p)
    refine u_115_37 ?_
    rw [e2, eN, am_s_id (z := (p : Int)) (by omega) (by omega), Int.toNat_natCast, e3, e6, am_s_id (z := g (8 + p)) (by omega) (by omega), h1, h2, h3, h5, am_s_id (z := ((cf (sdp g) p : Nat) : Int)) (by omega) (by omega), Int.toNat_natCast]
    refine ⟨fun q => by omega, fun _ => ⟨by omega, fun q => ⟨fun q2 y1 hy => ?_, fun q2 => ?_⟩, fun q => ?_⟩⟩
    · have hng : sdp g p = true := decide_eq_true q
      have hrk := ksp_rk (g := g) (p := p) (by omega) hng
      rw [if_pos hng] at hst
      have hy2 : y1 = ((kpa g p : Nat) : Int) := by
        rw [hy]
        unfold kpa
        have hnb := nbr_and (bad := ons g 1) (i := p) (by omega) M
        cases hb : nb (ons g 1) p
        · rw [if_pos (hnb.mpr hb), if_neg (by decide)]; rfl
        · rw [if_neg (fun z => by rw [hnb.mp z] at hb; exact absurd hb (by decide)), if_pos rfl]; rfl
      have hpa := kpa_12 (g := g) (p := p)
      have a1 : am_div (v_74 M 0 (g 5 - g (44 + p))) y1 = ((kw0 g (cf (sdp g) p) : Nat) : Int) := by
        unfold kw0
        rw [hrk, hy2, v74 (by omega) (by omega) (by omega) (by omega), am_div_nn (by omega) (by omega) (by omega) (by omega), show max 0 (g 5 - g (44 + p)) = (((g 5 - g (44 + p)).toNat : Nat) : Int) by omega]
        exact (Int.natCast_ediv _ _).symm
      have a2 : am_div (g 5) y1 = ((kf0 g (cf (sdp g) p) : Nat) : Int) := by
        unfold kf0
        rw [hrk, hy2, am_div_nn (by omega) (by omega) (by omega) (by omega), show g 5 / ((kpa g p : Nat) : Int) = (((g 5).toNat : Nat) : Int) / ((kpa g p : Nat) : Int) by rw [Int.toNat_of_nonneg (by omega)]]
        exact (Int.natCast_ediv _ _).symm
      rw [a1, a2, kx_o (kpk_lt (kw0_lt hwn) _) (kw0_lt hwn _) (by omega), kx_o (kpk_lt (kf0_lt hwn) _) (kf0_lt hwn _) (by omega)]
      refine ⟨by rw [hy2, am_s_id (by omega) (by omega)]; omega, by omega, IH () _ ⟨by omega, by rw [mu_same, hst]; rfl, ?_, ?_, ?_, fun j hj => ?_, fun a q1 q3 => by rw [mu_rf q1, mu_rf q3, mu_rf q1, mu_rf q1]; exact h8 a q1 q3⟩⟩
      · rw [mu_k (by decide), mu_r (by decide), mu_k (by decide), mu_same, hst]; rfl
      · rw [mu_k (by decide), mu_r (by decide), mu_same, hst]; rfl
      · rw [mu_k (by decide), mu_r (by decide), mu_k (by decide), mu_k (by decide)]; exact h6
      · rw [mu_r (by decide), mu_if]
        by_cases hh : j = cf (sdp g) p
        · rw [if_pos hh, hh, hrk]
        · rw [if_neg hh, mu_r (by decide), mu_r (by decide)]
          exact h7 j (by omega)
    · have hng : sdp g p = true := decide_eq_true q
      rw [if_pos hng] at hst
      have hm := cf_mono (Q := sdp g) (show p + 1 ≤ N by omega)
      refine ⟨by rw [if_neg (by omega)], fun q3 => by omega, h8⟩
    · have hng : ¬ sdp g p = true := fun k => q (of_decide_eq_true k)
      rw [if_neg hng] at hst
      refine IH () M ⟨by omega, by rw [hst]; exact h1, by rw [hst]; exact h2, by rw [hst]; exact h3, h6, fun j hj => h7 j (by omega), h8⟩
  · rintro - M ⟨h0, h1, h2, h3, h6, h7, h8⟩
    refine u_115_37 ?_
    rw [h8 2 (by decide) (by decide), eN, am_s_id (z := (N : Int)) (by omega) (by omega)]
    rw [← hSN] at h0 h1 h2 h3 h7
    have b1 := kpk_lt (kw0_lt hwn) (SN g)
    have b2 := kpk_lt (kf0_lt hwn) (SN g)
    have h15 := kp15 h0
    refine ⟨fun _ => ⟨by rw [if_pos h0], fun _ => ?_, h8⟩, fun q => by omega⟩
    have k1 : kn M = SN g := by unfold kn; rw [h1, Int.toNat_natCast]
    refine ⟨⟨⟨by omega, by omega, by omega⟩, by omega, ?_⟩, k1, by unfold kH; rw [h6], fun j hj => ?_, fun j hj => ?_, h7⟩
    · rw [k1, h2, Int.toNat_natCast]; exact b1
    · rw [h2, Int.toNat_natCast]; exact kfl_pk (kw0_lt hwn) _ j hj
    · unfold kF
      rw [h3, Int.toNat_natCast]; exact kfl_pk (kf0_lt hwn) _ j hj
theorem u_114_0 {Q : List am_V → am_M → Prop} {m : am_M} {d : Int} {w : Int}  (H : ((am_s w = 0) → ((am_s d < 1) → Q [.inl (-3)] m) ∧ ((¬ (am_s d < 1)) → ((am_s d ≤ 8) → (WFG (vw m 2)) ∧ (∀ (m1 : am_M), ((SN (nv (vw m 2)) ≤ 5 → KLK (nv (vw m 2)) m1) ∧ ∀ a, a ≠ 43 → a ≠ 44 → m1 a = m a) → ((SN (nv (vw m 2)) ≤ 5) → (KST m1 ∧ 1 ≤ d ∧ d ≤ 8) ∧ (∀ (m2 : am_M), (KS (kn m1) (kF m1) (kH m1) (KRF (kn m1) (kF m1) (kH m1)) m2 ∧ ∀ a, a ≠ 45 → m2 a = m1 a) → Q [.inl (kmv (kn m1) (kF m1) (kH m1) d.toNat (kfl (m1 43 5).toNat))] m2)) ∧ ((¬ (SN (nv (vw m 2)) ≤ 5)) → Q [.inl (-4)] m1))) ∧ ((¬ (am_s d ≤ 8)) → Q [.inl (-3)] m))) ∧ ((¬ (am_s w = 0)) → ((am_s w < 10) → Q [.inl (-2)] m) ∧ ((¬ (am_s w < 10)) → ((am_s w ≤ 17) → ((am_s d < 1) → Q [.inl (-3)] m) ∧ ((¬ (am_s d < 1)) → ((am_s d ≤ 8) → (WFG (vw m 2)) ∧ (∀ (m3 : am_M), ((SN (nv (vw m 2)) ≤ 5 → KLK (nv (vw m 2)) m3) ∧ ∀ a, a ≠ 43 → a ≠ 44 → m3 a = m a) → ((SN (nv (vw m 2)) ≤ 5) → (KST m3 ∧ (1 ≤ d ∧ d ≤ 8) ∧ (0 ≤ (w - 10) ∧ (w - 10) ≤ 7) ∧ ∀ i, i < kn m3 → 0 ≤ m3 44 i ∧ m3 44 i < 12) ∧ (∀ (m4 : am_M), (∀ a, a ≠ 45 → m4 a = m3 a) → Q [.inl (if kmv (kn m3) (kF m3) (kH m3) d.toNat (kfl (m3 43 5).toNat) = -1 ∨ d ≤ (w - 10) then -1 else ((kpl (m3 44) (klc (kn m3) (kF m3) (kH m3) (d.toNat - (w - 10).toNat - 1) (kws (kn m3) (kF m3) (kH m3) d.toNat (kfl (m3 43 5).toNat) (w - 10).toNat)) (kn m3) : Nat) : Int))] m4)) ∧ ((¬ (SN (nv (vw m 2)) ≤ 5)) → Q [.inl (-4)] m3))) ∧ ((¬ (am_s d ≤ 8)) → Q [.inl (-3)] m))) ∧ ((¬ (am_s w ≤ 17)) → Q [.inl (-2)] m)))) : ok 14 114 0 [some (.inr (.inr (some 0))), some (.inl d), some (.inl w)] [] m Q := by
  refine ok_sg (pc' := 1) (ls' := [some (.inr (.inr (some 0))), some (.inl d), some (.inl w)]) (st' := [.inl w]) (m' := m) (fun fx hfx o hk => ?_) ?_
  · refine r_ld (pc' := 1) hM_114 d_114_0 rfl rfl ?_
    exact hk
  refine ok_if (pc' := 19) (pc2 := 4) hM_114 d_114_1 (by decide) rfl (fun hz1 => ?_) (fun hz1 => ?_)
  · have H := H.1 hz1
    refine ok_sg (pc' := 21) (ls' := [some (.inr (.inr (some 0))), some (.inl d), some (.inl w)]) (st' := [.inl 1, .inl d]) (m' := m) (fun fx hfx o hk => ?_) ?_
    · refine r_ld (pc' := 20) hM_114 d_114_19 rfl rfl ?_
      refine r_k (pc' := 21) (v := .inl 1) hM_114 d_114_20 rfl rfl ?_
      exact hk
    refine ok_ic (pc' := 30) (pc2 := 24) hM_114 d_114_21 (by decide) rfl (fun hz2 => ?_) (fun hz2 => ?_)
    · have H := H.1 hz2
      refine ok_sg (pc' := 32) (ls' := [some (.inr (.inr (some 0))), some (.inl d), some (.inl w)]) (st' := [.inl (-3)]) (m' := m) (fun fx hfx o hk => ?_) ?_
      · refine r_k (pc' := 32) (v := .inl (-3)) hM_114 d_114_30 rfl rfl ?_
        exact hk
      exact ok_rt (fun fx _ => rt_i hM_114 d_114_32 rfl) H
    · have H := H.2 hz2
      refine ok_sg (pc' := 27) (ls' := [some (.inr (.inr (some 0))), some (.inl d), some (.inl w)]) (st' := [.inl 8, .inl d]) (m' := m) (fun fx hfx o hk => ?_) ?_
      · refine r_ld (pc' := 25) hM_114 d_114_24 rfl rfl ?_
        refine r_k (pc' := 27) (v := .inl 8) hM_114 d_114_25 rfl rfl ?_
        exact hk
      refine ok_ic (pc' := 33) (pc2 := 30) hM_114 d_114_27 (by decide) rfl (fun hz3 => ?_) (fun hz3 => ?_)
      · have H := H.1 hz3
        obtain ⟨hz4, H⟩ := H
        refine ok_sg (pc' := 37) (ls' := [some (.inr (.inr (some 0))), some (.inl d), some (.inl w)]) (st' := [.inr (.inr (some 43))]) (m' := m) (fun fx hfx o hk => ?_) ?_
        · refine r_ld (pc' := 34) hM_114 d_114_33 rfl rfl ?_
          refine r_gR (pc' := 37) (v := 43) hM_114 d_114_34 rfl (by decide +kernel) ?_
          exact hk
        refine ok_cl (pc' := 40) (c := (115, 0)) (a := [.inr (.inr (some 43))]) (q := []) hM_114 d_114_37 rfl (by decide +kernel) hM_115 rfl rfl rfl (Nat.le_of_ble_eq_true rfl) (Nat.le_of_ble_eq_true rfl) (Or.inr rfl) (z_115  m  hz4) (Nat.le_of_ble_eq_true rfl) ?_
        rintro _ m1 ⟨rfl, hz5⟩
        replace H := H  m1 hz5
        show ok 14 114 40 [some (.inr (.inr (some 0))), some (.inl d), some (.inl w)] [.inl (if SN (nv (vw m 2)) ≤ 5 then 1 else 0)] m1 Q
        refine ok_if (pc' := 46) (pc2 := 43) hM_114 d_114_40 (by decide) rfl (fun hz6 => ?_) (fun hz6 => ?_)
        · have H := H.1 (as_iteN.mp hz6)
          obtain ⟨hz7, H⟩ := H
          refine ok_sg (pc' := 55) (ls' := [some (.inr (.inr (some 0))), some (.inl d), some (.inl w)]) (st' := [.inl d, .inr (.inr (some 43))]) (m' := m1) (fun fx hfx o hk => ?_) ?_
          · refine r_ld (pc' := 47) hM_114 d_114_46 rfl rfl ?_
            refine r_if (pc' := 61) (pc2 := 50) hM_114 d_114_47 (by decide) rfl (fun hc => absurd hc (fun q => q hz1)) (fun _ => ?_)
            refine r_ld (pc' := 51) hM_114 d_114_50 rfl rfl ?_
            refine r_gR (pc' := 54) (v := 43) hM_114 d_114_51 rfl (by decide +kernel) ?_
            refine r_ld (pc' := 55) hM_114 d_114_54 rfl rfl ?_
            exact hk
          refine ok_cl (pc' := 58) (c := (116, 0)) (a := [.inr (.inr (some 43)), .inl d]) (q := []) hM_114 d_114_55 rfl (by decide +kernel) hM_116 rfl rfl rfl (Nat.le_of_ble_eq_true rfl) (Nat.le_of_ble_eq_true rfl) (Or.inr rfl) (z_116  m1 d hz7) (Nat.le_of_ble_eq_true rfl) ?_
          rintro _ m2 ⟨rfl, hz8⟩
          replace H := H  m2 hz8
          show ok 14 114 58 [some (.inr (.inr (some 0))), some (.inl d), some (.inl w)] [.inl (kmv (kn m1) (kF m1) (kH m1) d.toNat (kfl (m1 43 5).toNat))] m2 Q
          refine ok_sg (pc' := 73) (ls' := [some (.inr (.inr (some 0))), some (.inl d), some (.inl w)]) (st' := [.inl (kmv (kn m1) (kF m1) (kH m1) d.toNat (kfl (m1 43 5).toNat))]) (m' := m2) (fun fx hfx o hk => ?_) ?_
          · refine r_go (pc' := 73) hM_114 d_114_58 (by decide) ?_
            exact hk
          exact ok_rt (fun fx _ => rt_i hM_114 d_114_73 rfl) H
        · have H := H.2 (as_ite.mp (Decidable.not_not.mp hz6))
          refine ok_sg (pc' := 45) (ls' := [some (.inr (.inr (some 0))), some (.inl d), some (.inl w)]) (st' := [.inl (-4)]) (m' := m1) (fun fx hfx o hk => ?_) ?_
          · refine r_k (pc' := 45) (v := .inl (-4)) hM_114 d_114_43 rfl rfl ?_
            exact hk
          exact ok_rt (fun fx _ => rt_i hM_114 d_114_45 rfl) H
      · have H := H.2 hz3
        refine ok_sg (pc' := 32) (ls' := [some (.inr (.inr (some 0))), some (.inl d), some (.inl w)]) (st' := [.inl (-3)]) (m' := m) (fun fx hfx o hk => ?_) ?_
        · refine r_k (pc' := 32) (v := .inl (-3)) hM_114 d_114_30 rfl rfl ?_
          exact hk
        exact ok_rt (fun fx _ => rt_i hM_114 d_114_32 rfl) H
  · have H := H.2 hz1
    refine ok_sg (pc' := 7) (ls' := [some (.inr (.inr (some 0))), some (.inl d), some (.inl w)]) (st' := [.inl 10, .inl w]) (m' := m) (fun fx hfx o hk => ?_) ?_
    · refine r_ld (pc' := 5) hM_114 d_114_4 rfl rfl ?_
      refine r_k (pc' := 7) (v := .inl 10) hM_114 d_114_5 rfl rfl ?_
      exact hk
    refine ok_ic (pc' := 16) (pc2 := 10) hM_114 d_114_7 (by decide) rfl (fun hz9 => ?_) (fun hz9 => ?_)
    · have H := H.1 hz9
      refine ok_sg (pc' := 18) (ls' := [some (.inr (.inr (some 0))), some (.inl d), some (.inl w)]) (st' := [.inl (-2)]) (m' := m) (fun fx hfx o hk => ?_) ?_
      · refine r_k (pc' := 18) (v := .inl (-2)) hM_114 d_114_16 rfl rfl ?_
        exact hk
      exact ok_rt (fun fx _ => rt_i hM_114 d_114_18 rfl) H
    · have H := H.2 hz9
      refine ok_sg (pc' := 13) (ls' := [some (.inr (.inr (some 0))), some (.inl d), some (.inl w)]) (st' := [.inl 17, .inl w]) (m' := m) (fun fx hfx o hk => ?_) ?_
      · refine r_ld (pc' := 11) hM_114 d_114_10 rfl rfl ?_
        refine r_k (pc' := 13) (v := .inl 17) hM_114 d_114_11 rfl rfl ?_
        exact hk
      refine ok_ic (pc' := 19) (pc2 := 16) hM_114 d_114_13 (by decide) rfl (fun hz10 => ?_) (fun hz10 => ?_)
      · have H := H.1 hz10
        refine ok_sg (pc' := 21) (ls' := [some (.inr (.inr (some 0))), some (.inl d), some (.inl w)]) (st' := [.inl 1, .inl d]) (m' := m) (fun fx hfx o hk => ?_) ?_
        · refine r_ld (pc' := 20) hM_114 d_114_19 rfl rfl ?_
          refine r_k (pc' := 21) (v := .inl 1) hM_114 d_114_20 rfl rfl ?_
          exact hk
        refine ok_ic (pc' := 30) (pc2 := 24) hM_114 d_114_21 (by decide) rfl (fun hz11 => ?_) (fun hz11 => ?_)
        · have H := H.1 hz11
          refine ok_sg (pc' := 32) (ls' := [some (.inr (.inr (some 0))), some (.inl d), some (.inl w)]) (st' := [.inl (-3)]) (m' := m) (fun fx hfx o hk => ?_) ?_
          · refine r_k (pc' := 32) (v := .inl (-3)) hM_114 d_114_30 rfl rfl ?_
            exact hk
          exact ok_rt (fun fx _ => rt_i hM_114 d_114_32 rfl) H
        · have H := H.2 hz11
          refine ok_sg (pc' := 27) (ls' := [some (.inr (.inr (some 0))), some (.inl d), some (.inl w)]) (st' := [.inl 8, .inl d]) (m' := m) (fun fx hfx o hk => ?_) ?_
          · refine r_ld (pc' := 25) hM_114 d_114_24 rfl rfl ?_
            refine r_k (pc' := 27) (v := .inl 8) hM_114 d_114_25 rfl rfl ?_
            exact hk
          refine ok_ic (pc' := 33) (pc2 := 30) hM_114 d_114_27 (by decide) rfl (fun hz12 => ?_) (fun hz12 => ?_)
          · have H := H.1 hz12
            obtain ⟨hz13, H⟩ := H
            refine ok_sg (pc' := 37) (ls' := [some (.inr (.inr (some 0))), some (.inl d), some (.inl w)]) (st' := [.inr (.inr (some 43))]) (m' := m) (fun fx hfx o hk => ?_) ?_
            · refine r_ld (pc' := 34) hM_114 d_114_33 rfl rfl ?_
              refine r_gR (pc' := 37) (v := 43) hM_114 d_114_34 rfl (by decide +kernel) ?_
              exact hk
            refine ok_cl (pc' := 40) (c := (115, 0)) (a := [.inr (.inr (some 43))]) (q := []) hM_114 d_114_37 rfl (by decide +kernel) hM_115 rfl rfl rfl (Nat.le_of_ble_eq_true rfl) (Nat.le_of_ble_eq_true rfl) (Or.inr rfl) (z_115  m  hz13) (Nat.le_of_ble_eq_true rfl) ?_
            rintro _ m3 ⟨rfl, hz14⟩
            replace H := H  m3 hz14
            show ok 14 114 40 [some (.inr (.inr (some 0))), some (.inl d), some (.inl w)] [.inl (if SN (nv (vw m 2)) ≤ 5 then 1 else 0)] m3 Q
            refine ok_if (pc' := 46) (pc2 := 43) hM_114 d_114_40 (by decide) rfl (fun hz15 => ?_) (fun hz15 => ?_)
            · have H := H.1 (as_iteN.mp hz15)
              obtain ⟨hz16, H⟩ := H
              refine ok_sg (pc' := 70) (ls' := [some (.inr (.inr (some 0))), some (.inl d), some (.inl w)]) (st' := [.inl (w - 10), .inl d, .inr (.inr (some 43))]) (m' := m3) (fun fx hfx o hk => ?_) ?_
              · refine r_ld (pc' := 47) hM_114 d_114_46 rfl rfl ?_
                refine r_if (pc' := 61) (pc2 := 50) hM_114 d_114_47 (by decide) rfl (fun _ => ?_) (fun hc => absurd hz1 hc)
                refine r_ld (pc' := 62) hM_114 d_114_61 rfl rfl ?_
                refine r_gR (pc' := 65) (v := 43) hM_114 d_114_62 rfl (by decide +kernel) ?_
                refine r_ld (pc' := 66) hM_114 d_114_65 rfl rfl ?_
                refine r_ld (pc' := 67) hM_114 d_114_66 rfl rfl ?_
                refine r_k (pc' := 69) (v := .inl 10) hM_114 d_114_67 rfl rfl ?_
                refine r_b (pc' := 70) (z := (w - 10)) hM_114 d_114_69 rfl rfl ?_
                exact hk
              refine ok_cl (pc' := 73) (c := (125, 0)) (a := [.inr (.inr (some 43)), .inl d, .inl (w - 10)]) (q := []) hM_114 d_114_70 rfl (by decide +kernel) hM_125 rfl rfl rfl (Nat.le_of_ble_eq_true rfl) (Nat.le_of_ble_eq_true rfl) (Or.inr rfl) (z_125  m3 d (w - 10) hz16) (Nat.le_of_ble_eq_true rfl) ?_
              rintro _ m4 ⟨rfl, hz17⟩
              replace H := H  m4 hz17
              show ok 14 114 73 [some (.inr (.inr (some 0))), some (.inl d), some (.inl w)] [.inl (if kmv (kn m3) (kF m3) (kH m3) d.toNat (kfl (m3 43 5).toNat) = -1 ∨ d ≤ (w - 10) then -1 else ((kpl (m3 44) (klc (kn m3) (kF m3) (kH m3) (d.toNat - (w - 10).toNat - 1) (kws (kn m3) (kF m3) (kH m3) d.toNat (kfl (m3 43 5).toNat) (w - 10).toNat)) (kn m3) : Nat) : Int))] m4 Q
              exact ok_rt (fun fx _ => rt_i hM_114 d_114_73 rfl) H
            · have H := H.2 (as_ite.mp (Decidable.not_not.mp hz15))
              refine ok_sg (pc' := 45) (ls' := [some (.inr (.inr (some 0))), some (.inl d), some (.inl w)]) (st' := [.inl (-4)]) (m' := m3) (fun fx hfx o hk => ?_) ?_
              · refine r_k (pc' := 45) (v := .inl (-4)) hM_114 d_114_43 rfl rfl ?_
                exact hk
              exact ok_rt (fun fx _ => rt_i hM_114 d_114_45 rfl) H
          · have H := H.2 hz12
            refine ok_sg (pc' := 32) (ls' := [some (.inr (.inr (some 0))), some (.inl d), some (.inl w)]) (st' := [.inl (-3)]) (m' := m) (fun fx hfx o hk => ?_) ?_
            · refine r_k (pc' := 32) (v := .inl (-3)) hM_114 d_114_30 rfl rfl ?_
              exact hk
            exact ok_rt (fun fx _ => rt_i hM_114 d_114_32 rfl) H
      · have H := H.2 hz10
        refine ok_sg (pc' := 18) (ls' := [some (.inr (.inr (some 0))), some (.inl d), some (.inl w)]) (st' := [.inl (-2)]) (m' := m) (fun fx hfx o hk => ?_) ?_
        · refine r_k (pc' := 18) (v := .inl (-2)) hM_114 d_114_16 rfl rfl ?_
          exact hk
        exact ok_rt (fun fx _ => rt_i hM_114 d_114_18 rfl) H
theorem u_128_0 {Q : List am_V → am_M → Prop} {m : am_M}   (H : (WFG (vw m 2)) ∧ (∀ (m1 : am_M), ((SN (nv (vw m 2)) ≤ 5 → KLK (nv (vw m 2)) m1) ∧ ∀ a, a ≠ 43 → a ≠ 44 → m1 a = m a) → ((¬ (SN (nv (vw m 2)) ≤ 5)) → Q [.inl (-4)] m1) ∧ ((SN (nv (vw m 2)) ≤ 5) → (KST m1) ∧ (∀ (v2 : Int) (m2 : am_M), (KLR (kn m1) (kF m1) (min (kH m1) (kn m1)) (kfl (m1 43 5).toNat) 0 v2 ∧ ∀ a, a ≠ 45 → m2 a = m1 a) → Q [.inl v2] m2)))) : ok 35 128 0 [some (.inr (.inr (some 0)))] [] m Q := by
  obtain ⟨hz1, H⟩ := H
  refine ok_sg (pc' := 4) (ls' := [some (.inr (.inr (some 0)))]) (st' := [.inr (.inr (some 43))]) (m' := m) (fun fx hfx o hk => ?_) ?_
  · refine r_ld (pc' := 1) hM_128 d_128_0 rfl rfl ?_
    refine r_gR (pc' := 4) (v := 43) hM_128 d_128_1 rfl (by decide +kernel) ?_
    exact hk
  refine ok_cl (pc' := 7) (c := (115, 0)) (a := [.inr (.inr (some 43))]) (q := []) hM_128 d_128_4 rfl (by decide +kernel) hM_115 rfl rfl rfl (Nat.le_of_ble_eq_true rfl) (Nat.le_of_ble_eq_true rfl) (Or.inr rfl) (z_115  m  hz1) (Nat.le_of_ble_eq_true rfl) ?_
  rintro _ m1 ⟨rfl, hz2⟩
  replace H := H  m1 hz2
  show ok 35 128 7 [some (.inr (.inr (some 0)))] [.inl (if SN (nv (vw m 2)) ≤ 5 then 1 else 0)] m1 Q
  refine ok_if (pc' := 20) (pc2 := 10) hM_128 d_128_7 (by decide) rfl (fun hz3 => ?_) (fun hz3 => ?_)
  · have H := H.1 (as_ite.mp hz3)
    refine ok_sg (pc' := 22) (ls' := [some (.inr (.inr (some 0)))]) (st' := [.inl (-4)]) (m' := m1) (fun fx hfx o hk => ?_) ?_
    · refine r_k (pc' := 22) (v := .inl (-4)) hM_128 d_128_20 rfl rfl ?_
      exact hk
    exact ok_rt (fun fx _ => rt_i hM_128 d_128_22 rfl) H
  · have H := H.2 (as_iteN.mp hz3)
    obtain ⟨hz4, H⟩ := H
    refine ok_sg (pc' := 14) (ls' := [some (.inr (.inr (some 0)))]) (st' := [.inr (.inr (some 43))]) (m' := m1) (fun fx hfx o hk => ?_) ?_
    · refine r_ld (pc' := 11) hM_128 d_128_10 rfl rfl ?_
      refine r_gR (pc' := 14) (v := 43) hM_128 d_128_11 rfl (by decide +kernel) ?_
      exact hk
    refine ok_cl (pc' := 17) (c := (129, 0)) (a := [.inr (.inr (some 43))]) (q := []) hM_128 d_128_14 rfl (by decide +kernel) hM_129 rfl rfl rfl (Nat.le_of_ble_eq_true rfl) (Nat.le_of_ble_eq_true rfl) (Or.inr rfl) (z_129  m1  hz4) (Nat.le_of_ble_eq_true rfl) ?_
    rintro _ m2 ⟨v2, rfl, hz5⟩
    replace H := H v2 m2 hz5
    show ok 35 128 17 [some (.inr (.inr (some 0)))] [.inl v2] m2 Q
    refine ok_sg (pc' := 22) (ls' := [some (.inr (.inr (some 0)))]) (st' := [.inl v2]) (m' := m2) (fun fx hfx o hk => ?_) ?_
    · refine r_go (pc' := 22) hM_128 d_128_17 (by decide) ?_
      exact hk
    exact ok_rt (fun fx _ => rt_i hM_128 d_128_22 rfl) H
