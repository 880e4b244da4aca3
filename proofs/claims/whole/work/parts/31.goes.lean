theorem t_195_11 {fx : am_X0} {o : List am_V × am_S} {m : am_M} {b : Int} {x2 : Int} {x3 : Int} {i : Nat} (h_i : i < 13) (H : ((am_s (m 54 0) ≤ am_s (i : Int)) → o = ([.inl x3], st0 (mu m 54 1 ((m 54 1) + 1)))) ∧ (¬ (am_s (m 54 0) ≤ am_s (i : Int)) → ((¬ am_s (m 54 (8 + i)) = am_s 3) → ∀ y1 : Int, y1 = (if ¬ am_s (m 54 (8 + i)) = 0 then 0 else 1) → ((¬ (am_s y1 = 0)) → ((0 ≤ x2 ∧ x2 < 2147483648) ∧ 0 ≤ (i : Int) ∧ (i : Int) < 12)) ∧ (∀ y2 : Int, y2 = (if am_s y1 = 0 then 1 else (if am_s (bsd x2.toNat (i : Int).toNat) ≤ 0 then 1 else 2)) → ((0 ≤ (am_s b) ∧ (am_s b) < 2147483648) ∧ 0 ≤ (i : Int) ∧ (i : Int) < 32) ∧ (∀ y3 : Int, y3 = (if am_s ((if (am_s b).toNat.testBit (i : Int).toNat = true then 1 else 0)) = 0 then (if am_s ((m 54 (44 + i)) + y2) ≤ am_s 99 then ((m 54 (44 + i)) + y2) else 99) else 0) → ((¬ am_s y1 = 0) → ∀ y4 : Int, y4 = (if am_s ((if (am_s b).toNat.testBit (i : Int).toNat = true then 1 else 0)) = 0 then 1 else 2) → ∀ y5 : Int, y5 = (if am_s ((m 54 (32 + i)) + (y4 * (m 54 (20 + i)))) ≤ am_s 100 then ((m 54 (32 + i)) + (y4 * (m 54 (20 + i)))) else 100) → ((am_s (m 54 5) < am_s y3) → rn fx 2 (0, 0) 195 11 [some (.inr (.inr (some 53))), some (.inl b), some (.inl x2), some (.inl (x3 + 1)), some (.inl ((i : Int) + 1)), none, none, none] [] (st0 (mu (mu (mu m 54 (44 + i) y3) 54 (32 + i) y5) 54 (8 + i) 1)) o) ∧ (¬ (am_s (m 54 5) < am_s y3) → rn fx 2 (0, 0) 195 11 [some (.inr (.inr (some 53))), some (.inl b), some (.inl x2), some (.inl x3), some (.inl ((i : Int) + 1)), none, none, none] [] (st0 (mu (mu m 54 (44 + i) y3) 54 (32 + i) y5)) o)) ∧ (¬ (¬ am_s y1 = 0) → rn fx 2 (0, 0) 195 11 [some (.inr (.inr (some 53))), some (.inl b), some (.inl x2), some (.inl x3), some (.inl ((i : Int) + 1)), none, none, none] [] (st0 (mu m 54 (44 + i) y3)) o)))) ∧ (¬ (¬ am_s (m 54 (8 + i)) = am_s 3) → rn fx 2 (0, 0) 195 11 [some (.inr (.inr (some 53))), some (.inl b), some (.inl x2), some (.inl x3), some (.inl ((i : Int) + 1)), none, none, none] [] (st0 m) o))) : rn fx 2 (0, 0) 195 11 [some (.inr (.inr (some 53))), some (.inl b), some (.inl x2), some (.inl x3), some (.inl (i : Int)), none, none, none] [] (st0 m) o := by
  refine r_ld (pc' := 13) hM_195 d_195_11 rfl rfl ?_
  refine r_ld (pc' := 14) hM_195 d_195_13 rfl rfl ?_
  refine r_gR (pc' := 17) (v := 54) hM_195 d_195_14 rfl (by decide +kernel) ?_
  refine r_k (pc' := 18) (v := .inl 0) hM_195 d_195_17 rfl rfl ?_
  refine r_iae (pc' := 19) (n := 168) (z := (m 54 0)) hM_195 d_195_18 rfl rfl (by decide) (by rw [show (am_s 0).toNat = 0 by decide]) ?_
  refine r_ic (pc' := 242) (pc2 := 22) hM_195 d_195_19 (by decide) rfl (fun hz1 => ?_) (fun hz1 => ?_)
  · have H := H.1 hz1
    refine r_ld (pc' := 243) hM_195 d_195_242 rfl rfl ?_
    refine r_gR (pc' := 246) (v := 54) hM_195 d_195_243 rfl (by decide +kernel) ?_
    refine r_k (pc' := 247) (v := .inl 1) hM_195 d_195_246 rfl rfl ?_
    refine r_stk (pc' := 248) (st' := [.inl 1, .inr (.inr (some 54)), .inl 1, .inr (.inr (some 54))]) hM_195 d_195_247 rfl rfl ?_
    refine r_iae (pc' := 249) (n := 168) (z := (m 54 1)) hM_195 d_195_248 rfl rfl (by decide) (by rw [show (am_s 1).toNat = 1 by decide]) ?_
    refine r_k (pc' := 250) (v := .inl 1) hM_195 d_195_249 rfl rfl ?_
    refine r_b (pc' := 251) (z := ((m 54 1) + 1)) hM_195 d_195_250 rfl rfl ?_
    refine r_isk (pc' := 252) (n := 168) (k0 := 1) hM_195 d_195_251 rfl rfl (by decide) (by decide) ?_
    refine r_ld (pc' := 253) hM_195 d_195_252 rfl rfl ?_
    subst H
    exact rt_i hM_195 d_195_253 rfl
  · have H := H.2 hz1
    refine r_ld (pc' := 23) hM_195 d_195_22 rfl rfl ?_
    refine r_gR (pc' := 26) (v := 54) hM_195 d_195_23 rfl (by decide +kernel) ?_
    refine r_k (pc' := 28) (v := .inl 8) hM_195 d_195_26 rfl rfl ?_
    refine r_ld (pc' := 30) hM_195 d_195_28 rfl rfl ?_
    refine r_b (pc' := 31) (z := (8 + (i : Int))) hM_195 d_195_30 rfl rfl ?_
    refine r_iae (pc' := 32) (n := 168) (z := (m 54 (8 + i))) hM_195 d_195_31 rfl rfl (by rw [am_s_id (by omega) (by omega)]; omega) (by rw [show (am_s (8 + (i : Int))).toNat = (8 + i) by rw [am_s_id (by omega) (by omega)]; omega]) ?_
    refine r_k (pc' := 33) (v := .inl 3) hM_195 d_195_32 rfl rfl ?_
    refine r_ic (pc' := 39) (pc2 := 36) hM_195 d_195_33 (by decide) rfl (fun hz2 => ?_) (fun hz2 => ?_)
    · have H := H.1 hz2
      refine r_ld (pc' := 40) hM_195 d_195_39 rfl rfl ?_
      refine r_gR (pc' := 43) (v := 54) hM_195 d_195_40 rfl (by decide +kernel) ?_
      refine r_k (pc' := 45) (v := .inl 8) hM_195 d_195_43 rfl rfl ?_
      refine r_ld (pc' := 47) hM_195 d_195_45 rfl rfl ?_
      refine r_b (pc' := 48) (z := (8 + (i : Int))) hM_195 d_195_47 rfl rfl ?_
      refine r_iae (pc' := 49) (n := 168) (z := (m 54 (8 + i))) hM_195 d_195_48 rfl rfl (by rw [am_s_id (by omega) (by omega)]; omega) (by rw [show (am_s (8 + (i : Int))).toNat = (8 + i) by rw [am_s_id (by omega) (by omega)]; omega]) ?_
      have K : ∀ y1 : Int, y1 = (if ¬ am_s (m 54 (8 + i)) = 0 then 0 else 1) → rn fx 2 (0, 0) 195 57 [some (.inr (.inr (some 53))), some (.inl b), some (.inl x2), some (.inl x3), some (.inl (i : Int)), none, none, none] [.inl y1] (st0 m) o := by
        intro y1 hy1
        replace H := H y1 hy1
        refine r_sto (pc' := 59) (ls' := [some (.inr (.inr (some 53))), some (.inl b), some (.inl x2), some (.inl x3), some (.inl (i : Int)), some (.inl y1), none, none]) hM_195 d_195_57 rfl rfl ?_
        refine r_ld (pc' := 60) hM_195 d_195_59 rfl rfl ?_
        refine r_gR (pc' := 63) (v := 54) hM_195 d_195_60 rfl (by decide +kernel) ?_
        refine r_k (pc' := 65) (v := .inl 44) hM_195 d_195_63 rfl rfl ?_
        refine r_ld (pc' := 67) hM_195 d_195_65 rfl rfl ?_
        refine r_b (pc' := 68) (z := (44 + (i : Int))) hM_195 d_195_67 rfl rfl ?_
        refine r_iae (pc' := 69) (n := 168) (z := (m 54 (44 + i))) hM_195 d_195_68 rfl rfl (by rw [am_s_id (by omega) (by omega)]; omega) (by rw [show (am_s (44 + (i : Int))).toNat = (44 + i) by rw [am_s_id (by omega) (by omega)]; omega]) ?_
        refine r_ld (pc' := 71) hM_195 d_195_69 rfl rfl ?_
        obtain ⟨hz5, H⟩ := H
        have K : ∀ y2 : Int, y2 = (if am_s y1 = 0 then 1 else (if am_s (bsd x2.toNat (i : Int).toNat) ≤ 0 then 1 else 2)) → rn fx 2 (0, 0) 195 88 [some (.inr (.inr (some 53))), some (.inl b), some (.inl x2), some (.inl x3), some (.inl (i : Int)), some (.inl y1), none, none] [.inl y2, .inl (m 54 (44 + i))] (st0 m) o := by
          intro y2 hy2
          replace H := H y2 hy2
          refine r_b (pc' := 89) (z := ((m 54 (44 + i)) + y2)) hM_195 d_195_88 rfl rfl ?_
          refine r_sto (pc' := 91) (ls' := [some (.inr (.inr (some 53))), some (.inl b), some (.inl x2), some (.inl x3), some (.inl (i : Int)), some (.inl y1), some (.inl ((m 54 (44 + i)) + y2)), none]) hM_195 d_195_89 rfl rfl ?_
          refine r_ld (pc' := 92) hM_195 d_195_91 rfl rfl ?_
          refine r_gR (pc' := 95) (v := 54) hM_195 d_195_92 rfl (by decide +kernel) ?_
          refine r_k (pc' := 97) (v := .inl 44) hM_195 d_195_95 rfl rfl ?_
          refine r_ld (pc' := 99) hM_195 d_195_97 rfl rfl ?_
          refine r_b (pc' := 100) (z := (44 + (i : Int))) hM_195 d_195_99 rfl rfl ?_
          refine r_ld (pc' := 101) hM_195 d_195_100 rfl rfl ?_
          refine r_stk (pc' := 102) (st' := [.inr (.inl (am_s b)), .inl (44 + (i : Int)), .inr (.inr (some 54))]) hM_195 d_195_101 rfl rfl ?_
          refine r_ld (pc' := 104) hM_195 d_195_102 rfl rfl ?_
          obtain ⟨hz7, H⟩ := H
          refine r_cl (pc' := 107) (c := (194, 2)) (a := [.inr (.inl (am_s b)), .inl (i : Int)]) (q := [.inl (44 + (i : Int)), .inr (.inr (some 54))]) hM_195 d_195_104 rfl (by decide +kernel) hM_194 rfl rfl rfl (Nat.le_of_ble_eq_true rfl) (Nat.le_of_ble_eq_true rfl) (Or.inl rfl) (n_194  m (am_s b) (i : Int) hz7) (Nat.le_of_ble_eq_true rfl) ?_
          show rn fx 2 (0, 0) 195 107 [some (.inr (.inr (some 53))), some (.inl b), some (.inl x2), some (.inl x3), some (.inl (i : Int)), some (.inl y1), some (.inl ((m 54 (44 + i)) + y2)), none] [.inl ((if (am_s b).toNat.testBit (i : Int).toNat = true then 1 else 0)), .inl (44 + (i : Int)), .inr (.inr (some 54))] (st0 m) o
          have K : ∀ y3 : Int, y3 = (if am_s ((if (am_s b).toNat.testBit (i : Int).toNat = true then 1 else 0)) = 0 then (if am_s ((m 54 (44 + i)) + y2) ≤ am_s 99 then ((m 54 (44 + i)) + y2) else 99) else 0) → rn fx 2 (0, 0) 195 128 [some (.inr (.inr (some 53))), some (.inl b), some (.inl x2), some (.inl x3), some (.inl (i : Int)), some (.inl y1), some (.inl ((m 54 (44 + i)) + y2)), none] [.inl y3, .inl (44 + (i : Int)), .inr (.inr (some 54))] (st0 m) o := by
            intro y3 hy3
            replace H := H y3 hy3
            refine r_isk (pc' := 129) (n := 168) (k0 := (44 + i)) hM_195 d_195_128 rfl rfl (by rw [am_s_id (by omega) (by omega)]; omega) (by rw [am_s_id (by omega) (by omega)]; omega) ?_
            refine r_ld (pc' := 131) hM_195 d_195_129 rfl rfl ?_
            refine r_if (pc' := 137) (pc2 := 134) hM_195 d_195_131 (by decide) rfl (fun hz10 => ?_) (fun hz10 => ?_)
            · have H := H.1 hz10
              refine r_ld (pc' := 138) hM_195 d_195_137 rfl rfl ?_
              refine r_gR (pc' := 141) (v := 54) hM_195 d_195_138 rfl (by decide +kernel) ?_
              refine r_k (pc' := 143) (v := .inl 32) hM_195 d_195_141 rfl rfl ?_
              refine r_ld (pc' := 145) hM_195 d_195_143 rfl rfl ?_
              refine r_b (pc' := 146) (z := (32 + (i : Int))) hM_195 d_195_145 rfl rfl ?_
              refine r_iae (pc' := 147) (n := 168) (z := (m 54 (32 + i))) hM_195 d_195_146 rfl rfl (by rw [am_s_id (by omega) (by omega)]; omega) (by rw [show (am_s (32 + (i : Int))).toNat = (32 + i) by rw [am_s_id (by omega) (by omega)]; omega]; exact mu_k (by omega)) ?_
              refine r_ld (pc' := 148) hM_195 d_195_147 rfl rfl ?_
              refine r_stk (pc' := 149) (st' := [.inr (.inl (am_s b)), .inl (m 54 (32 + i))]) hM_195 d_195_148 rfl rfl ?_
              refine r_ld (pc' := 151) hM_195 d_195_149 rfl rfl ?_
              refine r_cl (pc' := 154) (c := (194, 2)) (a := [.inr (.inl (am_s b)), .inl (i : Int)]) (q := [.inl (m 54 (32 + i))]) hM_195 d_195_151 rfl (by decide +kernel) hM_194 rfl rfl rfl (Nat.le_of_ble_eq_true rfl) (Nat.le_of_ble_eq_true rfl) (Or.inl rfl) (n_194  (mu m 54 (44 + i) y3) (am_s b) (i : Int) hz7) (Nat.le_of_ble_eq_true rfl) ?_
              show rn fx 2 (0, 0) 195 154 [some (.inr (.inr (some 53))), some (.inl b), some (.inl x2), some (.inl x3), some (.inl (i : Int)), some (.inl y1), some (.inl ((m 54 (44 + i)) + y2)), none] [.inl ((if (am_s b).toNat.testBit (i : Int).toNat = true then 1 else 0)), .inl (m 54 (32 + i))] (st0 (mu m 54 (44 + i) y3)) o
              have K : ∀ y4 : Int, y4 = (if am_s ((if (am_s b).toNat.testBit (i : Int).toNat = true then 1 else 0)) = 0 then 1 else 2) → rn fx 2 (0, 0) 195 162 [some (.inr (.inr (some 53))), some (.inl b), some (.inl x2), some (.inl x3), some (.inl (i : Int)), some (.inl y1), some (.inl ((m 54 (44 + i)) + y2)), none] [.inl y4, .inl (m 54 (32 + i))] (st0 (mu m 54 (44 + i) y3)) o := by
                intro y4 hy4
                replace H := H y4 hy4
                refine r_ld (pc' := 163) hM_195 d_195_162 rfl rfl ?_
                refine r_gR (pc' := 166) (v := 54) hM_195 d_195_163 rfl (by decide +kernel) ?_
                refine r_k (pc' := 168) (v := .inl 20) hM_195 d_195_166 rfl rfl ?_
                refine r_ld (pc' := 170) hM_195 d_195_168 rfl rfl ?_
                refine r_b (pc' := 171) (z := (20 + (i : Int))) hM_195 d_195_170 rfl rfl ?_
                refine r_iae (pc' := 172) (n := 168) (z := (m 54 (20 + i))) hM_195 d_195_171 rfl rfl (by rw [am_s_id (by omega) (by omega)]; omega) (by rw [show (am_s (20 + (i : Int))).toNat = (20 + i) by rw [am_s_id (by omega) (by omega)]; omega]; exact mu_k (by omega)) ?_
                refine r_b (pc' := 173) (z := (y4 * (m 54 (20 + i)))) hM_195 d_195_172 rfl rfl ?_
                refine r_b (pc' := 174) (z := ((m 54 (32 + i)) + (y4 * (m 54 (20 + i))))) hM_195 d_195_173 rfl rfl ?_
                refine r_sto (pc' := 176) (ls' := [some (.inr (.inr (some 53))), some (.inl b), some (.inl x2), some (.inl x3), some (.inl (i : Int)), some (.inl y1), some (.inl ((m 54 (44 + i)) + y2)), some (.inl ((m 54 (32 + i)) + (y4 * (m 54 (20 + i)))))]) hM_195 d_195_174 rfl rfl ?_
                refine r_ld (pc' := 177) hM_195 d_195_176 rfl rfl ?_
                refine r_gR (pc' := 180) (v := 54) hM_195 d_195_177 rfl (by decide +kernel) ?_
                refine r_k (pc' := 182) (v := .inl 32) hM_195 d_195_180 rfl rfl ?_
                refine r_ld (pc' := 184) hM_195 d_195_182 rfl rfl ?_
                refine r_b (pc' := 185) (z := (32 + (i : Int))) hM_195 d_195_184 rfl rfl ?_
                refine r_ld (pc' := 187) hM_195 d_195_185 rfl rfl ?_
                refine r_k (pc' := 189) (v := .inl 100) hM_195 d_195_187 rfl rfl ?_
                have K : ∀ y5 : Int, y5 = (if am_s ((m 54 (32 + i)) + (y4 * (m 54 (20 + i)))) ≤ am_s 100 then ((m 54 (32 + i)) + (y4 * (m 54 (20 + i)))) else 100) → rn fx 2 (0, 0) 195 199 [some (.inr (.inr (some 53))), some (.inl b), some (.inl x2), some (.inl x3), some (.inl (i : Int)), some (.inl y1), some (.inl ((m 54 (44 + i)) + y2)), some (.inl ((m 54 (32 + i)) + (y4 * (m 54 (20 + i)))))] [.inl y5, .inl (32 + (i : Int)), .inr (.inr (some 54))] (st0 (mu m 54 (44 + i) y3)) o := by
                  intro y5 hy5
                  replace H := H y5 hy5
                  refine r_isk (pc' := 200) (n := 168) (k0 := (32 + i)) hM_195 d_195_199 rfl rfl (by rw [am_s_id (by omega) (by omega)]; omega) (by rw [am_s_id (by omega) (by omega)]; omega) ?_
                  refine r_ld (pc' := 201) hM_195 d_195_200 rfl rfl ?_
                  refine r_gR (pc' := 204) (v := 54) hM_195 d_195_201 rfl (by decide +kernel) ?_
                  refine r_k (pc' := 206) (v := .inl 44) hM_195 d_195_204 rfl rfl ?_
                  refine r_ld (pc' := 208) hM_195 d_195_206 rfl rfl ?_
                  refine r_b (pc' := 209) (z := (44 + (i : Int))) hM_195 d_195_208 rfl rfl ?_
                  refine r_iae (pc' := 210) (n := 168) (z := y3) hM_195 d_195_209 rfl rfl (by rw [am_s_id (by omega) (by omega)]; omega) (by rw [show (am_s (44 + (i : Int))).toNat = (44 + i) by rw [am_s_id (by omega) (by omega)]; omega]; exact (mu_k (by omega)).trans (mu_same)) ?_
                  refine r_ld (pc' := 211) hM_195 d_195_210 rfl rfl ?_
                  refine r_gR (pc' := 214) (v := 54) hM_195 d_195_211 rfl (by decide +kernel) ?_
                  refine r_k (pc' := 215) (v := .inl 5) hM_195 d_195_214 rfl rfl ?_
                  refine r_iae (pc' := 216) (n := 168) (z := (m 54 5)) hM_195 d_195_215 rfl rfl (by decide) (by rw [show (am_s 5).toNat = 5 by decide]; exact (mu_k (by omega)).trans (mu_k (by omega))) ?_
                  refine r_ic (pc' := 222) (pc2 := 219) hM_195 d_195_216 (by decide) rfl (fun hz13 => ?_) (fun hz13 => ?_)
                  · have H := H.1 hz13
                    refine r_ld (pc' := 223) hM_195 d_195_222 rfl rfl ?_
                    refine r_gR (pc' := 226) (v := 54) hM_195 d_195_223 rfl (by decide +kernel) ?_
                    refine r_k (pc' := 228) (v := .inl 8) hM_195 d_195_226 rfl rfl ?_
                    refine r_ld (pc' := 230) hM_195 d_195_228 rfl rfl ?_
                    refine r_b (pc' := 231) (z := (8 + (i : Int))) hM_195 d_195_230 rfl rfl ?_
                    refine r_k (pc' := 232) (v := .inl 1) hM_195 d_195_231 rfl rfl ?_
                    refine r_isk (pc' := 233) (n := 168) (k0 := (8 + i)) hM_195 d_195_232 rfl rfl (by rw [am_s_id (by omega) (by omega)]; omega) (by rw [am_s_id (by omega) (by omega)]; omega) ?_
                    refine r_sto (pc' := 236) (ls' := [some (.inr (.inr (some 53))), some (.inl b), some (.inl x2), some (.inl (x3 + 1)), some (.inl (i : Int)), some (.inl y1), some (.inl ((m 54 (44 + i)) + y2)), some (.inl ((m 54 (32 + i)) + (y4 * (m 54 (20 + i)))))]) hM_195 d_195_233 rfl rfl ?_
                    refine r_sto (pc' := 239) (ls' := [some (.inr (.inr (some 53))), some (.inl b), some (.inl x2), some (.inl (x3 + 1)), some (.inl ((i : Int) + 1)), some (.inl y1), some (.inl ((m 54 (44 + i)) + y2)), some (.inl ((m 54 (32 + i)) + (y4 * (m 54 (20 + i)))))]) hM_195 d_195_236 rfl rfl ?_
                    refine r_go (pc' := 11) hM_195 d_195_239 (by decide) ?_
                    exact rn_wk (by simp only [am_le, and_self]) H
                  · have H := H.2 hz13
                    refine r_go (pc' := 236) hM_195 d_195_219 (by decide) ?_
                    refine r_sto (pc' := 239) (ls' := [some (.inr (.inr (some 53))), some (.inl b), some (.inl x2), some (.inl x3), some (.inl ((i : Int) + 1)), some (.inl y1), some (.inl ((m 54 (44 + i)) + y2)), some (.inl ((m 54 (32 + i)) + (y4 * (m 54 (20 + i)))))]) hM_195 d_195_236 rfl rfl ?_
                    refine r_go (pc' := 11) hM_195 d_195_239 (by decide) ?_
                    exact rn_wk (by simp only [am_le, and_self]) H
                replace K := K _ rfl
                clear H
                refine r_ic (pc' := 197) (pc2 := 192) hM_195 d_195_189 (by decide) rfl (fun hz12 => ?_) (fun hz12 => ?_)
                · have hz12 : am_s ((m 54 (32 + i)) + (y4 * (m 54 (20 + i)))) ≤ am_s 100 := hz12
                  rw [if_pos hz12] at K
                  refine r_ld (pc' := 199) hM_195 d_195_197 rfl rfl ?_
                  exact K
                · have hz12 : ¬ (am_s ((m 54 (32 + i)) + (y4 * (m 54 (20 + i)))) ≤ am_s 100) := hz12
                  rw [if_neg hz12] at K
                  refine r_k (pc' := 194) (v := .inl 100) hM_195 d_195_192 rfl rfl ?_
                  refine r_go (pc' := 199) hM_195 d_195_194 (by decide) ?_
                  exact K
              replace K := K _ rfl
              clear H
              refine r_if (pc' := 161) (pc2 := 157) hM_195 d_195_154 (by decide) rfl (fun hz11 => ?_) (fun hz11 => ?_)
              · have hz11 : am_s ((if (am_s b).toNat.testBit (i : Int).toNat = true then 1 else 0)) = 0 := hz11
                rw [if_pos hz11] at K
                refine r_k (pc' := 162) (v := .inl 1) hM_195 d_195_161 rfl rfl ?_
                exact K
              · have hz11 : ¬ (am_s ((if (am_s b).toNat.testBit (i : Int).toNat = true then 1 else 0)) = 0) := hz11
                rw [if_neg hz11] at K
                refine r_k (pc' := 158) (v := .inl 2) hM_195 d_195_157 rfl rfl ?_
                refine r_go (pc' := 162) hM_195 d_195_158 (by decide) ?_
                exact K
            · have H := H.2 hz10
              refine r_go (pc' := 236) hM_195 d_195_134 (by decide) ?_
              refine r_sto (pc' := 239) (ls' := [some (.inr (.inr (some 53))), some (.inl b), some (.inl x2), some (.inl x3), some (.inl ((i : Int) + 1)), some (.inl y1), some (.inl ((m 54 (44 + i)) + y2)), none]) hM_195 d_195_236 rfl rfl ?_
              refine r_go (pc' := 11) hM_195 d_195_239 (by decide) ?_
              exact rn_wk (by simp only [am_le, and_self]) H
          replace K := K _ rfl
          clear H
          refine r_if (pc' := 114) (pc2 := 110) hM_195 d_195_107 (by decide) rfl (fun hz8 => ?_) (fun hz8 => ?_)
          · have hz8 : am_s ((if (am_s b).toNat.testBit (i : Int).toNat = true then 1 else 0)) = 0 := hz8
            rw [if_pos hz8] at K
            refine r_ld (pc' := 116) hM_195 d_195_114 rfl rfl ?_
            refine r_k (pc' := 118) (v := .inl 99) hM_195 d_195_116 rfl rfl ?_
            refine r_ic (pc' := 126) (pc2 := 121) hM_195 d_195_118 (by decide) rfl (fun hz9 => ?_) (fun hz9 => ?_)
            · have hz9 : am_s ((m 54 (44 + i)) + y2) ≤ am_s 99 := hz9
              rw [if_pos hz9] at K
              refine r_ld (pc' := 128) hM_195 d_195_126 rfl rfl ?_
              exact K
            · have hz9 : ¬ (am_s ((m 54 (44 + i)) + y2) ≤ am_s 99) := hz9
              rw [if_neg hz9] at K
              refine r_k (pc' := 123) (v := .inl 99) hM_195 d_195_121 rfl rfl ?_
              refine r_go (pc' := 128) hM_195 d_195_123 (by decide) ?_
              exact K
          · have hz8 : ¬ (am_s ((if (am_s b).toNat.testBit (i : Int).toNat = true then 1 else 0)) = 0) := hz8
            rw [if_neg hz8] at K
            refine r_k (pc' := 111) (v := .inl 0) hM_195 d_195_110 rfl rfl ?_
            refine r_go (pc' := 128) hM_195 d_195_111 (by decide) ?_
            exact K
        replace K := K _ rfl
        clear H
        refine r_if (pc' := 87) (pc2 := 74) hM_195 d_195_71 (by decide) rfl (fun hz4 => ?_) (fun hz4 => ?_)
        · have hz4 : am_s y1 = 0 := hz4
          rw [if_pos hz4] at K
          refine r_k (pc' := 88) (v := .inl 1) hM_195 d_195_87 rfl rfl ?_
          exact K
        · have hz4 : ¬ (am_s y1 = 0) := hz4
          rw [if_neg hz4] at K
          refine r_ld (pc' := 75) hM_195 d_195_74 rfl rfl ?_
          refine r_ld (pc' := 77) hM_195 d_195_75 rfl rfl ?_
          refine r_cl (pc' := 80) (c := (196, 2)) (a := [.inl x2, .inl (i : Int)]) (q := [.inl (m 54 (44 + i))]) hM_195 d_195_77 rfl (by decide +kernel) hM_196 rfl rfl rfl (Nat.le_of_ble_eq_true rfl) (Nat.le_of_ble_eq_true rfl) (Or.inl rfl) (n_196  m x2 (i : Int) (hz5 hz4)) (Nat.le_of_ble_eq_true rfl) ?_
          show rn fx 2 (0, 0) 195 80 [some (.inr (.inr (some 53))), some (.inl b), some (.inl x2), some (.inl x3), some (.inl (i : Int)), some (.inl y1), none, none] [.inl (bsd x2.toNat (i : Int).toNat), .inl (m 54 (44 + i))] (st0 m) o
          refine r_if (pc' := 87) (pc2 := 83) hM_195 d_195_80 (by decide) rfl (fun hz6 => ?_) (fun hz6 => ?_)
          · have hz6 : am_s (bsd x2.toNat (i : Int).toNat) ≤ 0 := hz6
            rw [if_pos hz6] at K
            refine r_k (pc' := 88) (v := .inl 1) hM_195 d_195_87 rfl rfl ?_
            exact K
          · have hz6 : ¬ (am_s (bsd x2.toNat (i : Int).toNat) ≤ 0) := hz6
            rw [if_neg hz6] at K
            refine r_k (pc' := 84) (v := .inl 2) hM_195 d_195_83 rfl rfl ?_
            refine r_go (pc' := 88) hM_195 d_195_84 (by decide) ?_
            exact K
      replace K := K _ rfl
      clear H
      refine r_if (pc' := 56) (pc2 := 52) hM_195 d_195_49 (by decide) rfl (fun hz3 => ?_) (fun hz3 => ?_)
      · have hz3 : ¬ am_s (m 54 (8 + i)) = 0 := hz3
        rw [if_pos hz3] at K
        refine r_k (pc' := 57) (v := .inl 0) hM_195 d_195_56 rfl rfl ?_
        exact K
      · have hz3 : ¬ (¬ am_s (m 54 (8 + i)) = 0) := hz3
        rw [if_neg hz3] at K
        refine r_k (pc' := 53) (v := .inl 1) hM_195 d_195_52 rfl rfl ?_
        refine r_go (pc' := 57) hM_195 d_195_53 (by decide) ?_
        exact K
    · have H := H.2 hz2
      refine r_go (pc' := 236) hM_195 d_195_36 (by decide) ?_
      refine r_sto (pc' := 239) (ls' := [some (.inr (.inr (some 53))), some (.inl b), some (.inl x2), some (.inl x3), some (.inl ((i : Int) + 1)), none, none, none]) hM_195 d_195_236 rfl rfl ?_
      refine r_go (pc' := 11) hM_195 d_195_239 (by decide) ?_
      exact H
theorem t_195_0 {fx : am_X0} {o : List am_V × am_S} {m : am_M} {b : Int}  (H : (WFG (m 54)) ∧ (rn fx 2 (0, 0) 195 11 [some (.inr (.inr (some 53))), some (.inl b), some (.inl (((ons (nv (m 54)) (am_s 1) : Nat) : Int))), some (.inl 0), some (.inl 0), none, none, none] [] (st0 m) o)) : rn fx 2 (0, 0) 195 0 [some (.inr (.inr (some 53))), some (.inl b), none, none, none, none, none, none] [] (st0 m) o := by
  refine r_ld (pc' := 1) hM_195 d_195_0 rfl rfl ?_
  refine r_k (pc' := 2) (v := .inl 1) hM_195 d_195_1 rfl rfl ?_
  obtain ⟨hz1, H⟩ := H
  refine r_cl (pc' := 5) (c := (192, 0)) (a := [.inr (.inr (some 53)), .inl 1]) (q := []) hM_195 d_195_2 rfl (by decide +kernel) hM_192 rfl rfl rfl (Nat.le_of_ble_eq_true rfl) (Nat.le_of_ble_eq_true rfl) (Or.inr rfl) (c_192  m 1 hz1) (Nat.le_of_ble_eq_true rfl) ?_
  show rn fx 2 (0, 0) 195 5 [some (.inr (.inr (some 53))), some (.inl b), none, none, none, none, none, none] [.inl (((ons (nv (m 54)) (am_s 1) : Nat) : Int))] (st0 m) o
  refine r_sto (pc' := 6) (ls' := [some (.inr (.inr (some 53))), some (.inl b), some (.inl (((ons (nv (m 54)) (am_s 1) : Nat) : Int))), none, none, none, none, none]) hM_195 d_195_5 rfl rfl ?_
  refine r_k (pc' := 7) (v := .inl 0) hM_195 d_195_6 rfl rfl ?_
  refine r_sto (pc' := 8) (ls' := [some (.inr (.inr (some 53))), some (.inl b), some (.inl (((ons (nv (m 54)) (am_s 1) : Nat) : Int))), some (.inl 0), none, none, none, none]) hM_195 d_195_7 rfl rfl ?_
  refine r_k (pc' := 9) (v := .inl 0) hM_195 d_195_8 rfl rfl ?_
  refine r_sto (pc' := 11) (ls' := [some (.inr (.inr (some 53))), some (.inl b), some (.inl (((ons (nv (m 54)) (am_s 1) : Nat) : Int))), some (.inl 0), some (.inl 0), none, none, none]) hM_195 d_195_9 rfl rfl ?_
  exact H
