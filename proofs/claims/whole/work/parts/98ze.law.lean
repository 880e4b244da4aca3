/-! the law's loop -/
section
variable {fx : am_X0} {d mi pc pc' : Nat} {cr : Nat × Nat} {ls ls' : am_Ls} {st : List am_V} {S : am_S} {o : List am_V × am_S} {M : am_MT} {i : Instr} {len : Nat} {m : am_M}
theorem am_ret_i {i : Instr} {len : Nat} {st r : List am_V} (h : am_ret (some .int) i len st = some r) : ∃ z : Int, r = [.inl z] := by
  unfold am_ret at h
  split at h
  · split at h
    · exact absurd h (by simp)
    · exact ⟨_, (Option.some.inj h).symm⟩
    · exact absurd h (by simp)
    · exact absurd h (by simp)
    · exact absurd h (by simp)
  · exact absurd h (by simp)
theorem am_ret_l {i : Instr} {len : Nat} {st r : List am_V} (h : am_ret (some .long) i len st = some r) : ∃ z : Int, r = [.inr (.inl z)] := by
  unfold am_ret at h
  split at h
  · split at h
    · exact absurd h (by simp)
    · exact absurd h (by simp)
    · exact ⟨_, by simpa using h.symm⟩
    · exact absurd h (by simp)
    · exact absurd h (by simp)
  · exact absurd h (by simp)
/-- what comes out of a method came by its own return -/
theorem am_X_ret {fx : am_X0} {mi : Nat} {M : am_MT} {P : List am_V → Prop} (hM : am_ms[mi]? = some M) (hP : ∀ i len st r, am_ret M.2.2.2.2.1 i len st = some r → P r) : ∀ n d cr pc ls st S o, am_X fx n d cr mi pc ls st S = some o → P o.1 := by
  intro n
  induction n with
  | zero => intro d cr pc ls st S o h; exact absurd h (by simp [am_X])
  | succ n ih =>
    intro d cr pc ls st S o h
    unfold am_X at h
    simp only [hM] at h
    split at h
    · exact absurd h (by simp)
    · rename_i i len hd
      split at h
      · rename_i r hr
        have e := Option.some.inj h
        rw [← e]
        exact hP _ _ _ _ hr
      · split at h
        · exact ih _ _ _ _ _ _ _ h
        · repeat' (first | (exact ih _ _ _ _ _ _ _ h) | (cases h; done) | split at h)
theorem rn_int (hM : am_ms[mi]? = some M) (hr : M.2.2.2.2.1 = some .int) {v : am_V} {S' : am_S} (h : rn fx d cr mi pc ls st S ([v], S')) : ∃ z : Int, v = .inl z := by
  obtain ⟨n, h⟩ := h
  obtain ⟨z, hz⟩ := am_X_ret (P := fun r => ∃ z : Int, r = [.inl z]) hM (fun i len st r q => by rw [hr] at q; exact am_ret_i q) n _ _ _ _ _ _ _ h
  exact ⟨z, (List.cons.inj hz).1⟩
theorem rn_long (hM : am_ms[mi]? = some M) (hr : M.2.2.2.2.1 = some .long) {v : am_V} {S' : am_S} (h : rn fx d cr mi pc ls st S ([v], S')) : ∃ z : Int, v = .inr (.inl z) := by
  obtain ⟨n, h⟩ := h
  obtain ⟨z, hz⟩ := am_X_ret (P := fun r => ∃ z : Int, r = [.inr (.inl z)]) hM (fun i len st r q => by rw [hr] at q; exact am_ret_l q) n _ _ _ _ _ _ _ h
  exact ⟨z, (List.cons.inj hz).1⟩
theorem r_clg {c : Nat × Nat} {N : am_MT} {a q : List am_V} {r : List am_V} {m1 : am_M} {h : Nat} (hM : am_ms[mi]? = some M) (hd : decode M.2.2.1 pc = .ok (i, 3)) (hp : pc + 3 = pc') (hc : am_cal M.1 i = some c) (hN : am_ms[c.1]? = some N) (hcr : N.2.2.2.2.2.2.2 = (0, 0)) (hst : am_pop (N.2.2.2.2.2.2.1 + if c.2 = 2 then 0 else 1) st = (a, q)) (hl : a.length = N.2.2.2.2.2.2.1 + if c.2 = 2 then 0 else 1) (hq : (q.map am_cat).sum ≤ 8) (hf : (am_flat a).length ≤ N.2.2.2.1) (hv : c.2 = 2 ∨ am_rcv (st0 m) N.1 (a.headD (.inl 0)) = true) (h1 : rn fx h (0, 0) c.1 0 (am_ent N.2.2.2.1 a) [] (st0 m) (r, st0 m1)) (hh : h ≤ d)
    (k : rn fx (d + 1) cr mi pc' ls (r ++ q) (st0 m1) o) : rn fx (d + 1) cr mi pc ls st (st0 m) o := by
  refine rn_call (o1 := (r, st0 m1)) hM hd hc hN (by rw [hcr]; exact ⟨Nat.zero_le _, Nat.zero_le _⟩) hst hl hq hf hv (by rw [hcr]; exact h1) hh (by rw [hcr]; rfl) ?_
  rw [hcr, hp]
  exact k
theorem r_sc {L : Nat} {xs : Nat → Int32} {z : Int} {j : Nat} (hM : am_ms[mi]? = some M) (hd : decode M.2.2.1 pc = .ok (.iaload, 1)) (hp : pc + 1 = pc') (hx : fx 1000 = (100, L, fun j => (xs j).toInt)) (hz : am_s z = (j : Int)) (hj : j < L) (k : rn fx d cr mi pc' ls (.inl (xs j).toInt :: st) S o) : rn fx d cr mi pc ls (.inl z :: .inr (.inr (some 1000)) :: st) S o := by
  refine r_iaF hM hd hp (by decide) hx (by rw [hz]; omega) ?_
  rw [hz, Int.toNat_natCast]
  exact k
end
def LX (L : Nat) (xs : Nat → Int32) (fx : am_X0) : Prop := FX fx ∧ fx 1000 = (100, L, fun j => (xs j).toInt)
theorem sv_s (x : Int32) : am_s x.toInt = x.toInt := by
  unfold am_s
  rw [Int32.ofInt_toInt]
theorem tv_t (w : Int64) : am_t w.toInt = w.toInt := by
  unfold am_t
  rw [Int64.ofInt_toInt]
theorem lcmp0 (z : Int) : am_lcmp z z = 0 := by
  unfold am_lcmp
  rw [if_neg (Int.lt_irrefl _), if_pos rfl]
theorem lc_0 {fx : am_X0} {L : Nat} {xs : Nat → Int32} {cr : Nat × Nat} {m : am_M} {i : Nat} (hx : LX L xs fx) (hi : i + 6 ≤ L) (hL : L ≤ 3072) (hI : Inv m) (k : ∀ m2, Inv m2 → ∃ S2, rn fx 101 cr 0 1331 [some (.inr (.inr (some 1000))), some (.inr (.inr (some 0))), some (.inr (.inr (some 53))), some (.inl (i : Int))] [] (st0 m2) ([.inl 1], S2)) : ∃ S2, rn fx 101 cr 0 200 [some (.inr (.inr (some 1000))), some (.inr (.inr (some 0))), some (.inr (.inr (some 53))), some (.inl (i : Int))] [] (st0 m) ([.inl 1], S2) := by
  have h1 : am_s ((i : Int) + 1) = ((i + 1 : Nat) : Int) := am_s_id (by omega) (by omega)
  have h2 : am_s ((i : Int) + 2) = ((i + 2 : Nat) : Int) := am_s_id (by omega) (by omega)
  have h3 : am_s ((i : Int) + 3) = ((i + 3 : Nat) : Int) := am_s_id (by omega) (by omega)
  have h4 : am_s ((i : Int) + 4) = ((i + 4 : Nat) : Int) := am_s_id (by omega) (by omega)
  have h5 : am_s ((i : Int) + 5) = ((i + 5 : Nat) : Int) := am_s_id (by omega) (by omega)
  have hpk : PK 10 6 165 8 [.inl (xs (i + 1)).toInt, .inl (xs (i + 2)).toInt, .inl (xs (i + 3)).toInt, .inl (xs (i + 4)).toInt, .inl (xs (i + 5)).toInt] m := P_feed hI
  obtain ⟨r1, m1, ⟨v, hv, r2, m2, ⟨hv2, hI2⟩, hr2⟩, hr1⟩ := hpk
  rw [hv] at hr1
  rw [hv2] at hr2
  have c1 := hr1 fx hx.1
  have c2 := hr2 fx hx.1
  obtain ⟨z, hz⟩ := rn_int hM_10 rfl c1
  rw [hz] at c1 c2
  obtain ⟨S2, hk⟩ := k m2 hI2
  refine ⟨S2, ?_⟩
  refine r_ld (pc' := 201) hM_0 d_0_200 rfl rfl ?_
  refine r_ld (pc' := 202) hM_0 d_0_201 rfl rfl ?_
  refine r_ld (pc' := 203) hM_0 d_0_202 rfl rfl ?_
  refine r_k (pc' := 204) (v := .inl 1) hM_0 d_0_203 rfl rfl ?_
  refine r_b (pc' := 205) (z := ((i : Int) + 1)) hM_0 d_0_204 rfl rfl ?_
  refine r_sc (pc' := 206) (j := i + 1) hM_0 d_0_205 rfl hx.2 h1 (by omega) ?_
  refine r_ld (pc' := 207) hM_0 d_0_206 rfl rfl ?_
  refine r_ld (pc' := 208) hM_0 d_0_207 rfl rfl ?_
  refine r_k (pc' := 209) (v := .inl 2) hM_0 d_0_208 rfl rfl ?_
  refine r_b (pc' := 210) (z := ((i : Int) + 2)) hM_0 d_0_209 rfl rfl ?_
  refine r_sc (pc' := 211) (j := i + 2) hM_0 d_0_210 rfl hx.2 h2 (by omega) ?_
  refine r_ld (pc' := 212) hM_0 d_0_211 rfl rfl ?_
  refine r_ld (pc' := 213) hM_0 d_0_212 rfl rfl ?_
  refine r_k (pc' := 214) (v := .inl 3) hM_0 d_0_213 rfl rfl ?_
  refine r_b (pc' := 215) (z := ((i : Int) + 3)) hM_0 d_0_214 rfl rfl ?_
  refine r_sc (pc' := 216) (j := i + 3) hM_0 d_0_215 rfl hx.2 h3 (by omega) ?_
  refine r_ld (pc' := 217) hM_0 d_0_216 rfl rfl ?_
  refine r_ld (pc' := 218) hM_0 d_0_217 rfl rfl ?_
  refine r_k (pc' := 219) (v := .inl 4) hM_0 d_0_218 rfl rfl ?_
  refine r_b (pc' := 220) (z := ((i : Int) + 4)) hM_0 d_0_219 rfl rfl ?_
  refine r_sc (pc' := 221) (j := i + 4) hM_0 d_0_220 rfl hx.2 h4 (by omega) ?_
  refine r_ld (pc' := 222) hM_0 d_0_221 rfl rfl ?_
  refine r_ld (pc' := 223) hM_0 d_0_222 rfl rfl ?_
  refine r_k (pc' := 224) (v := .inl 5) hM_0 d_0_223 rfl rfl ?_
  refine r_b (pc' := 225) (z := ((i : Int) + 5)) hM_0 d_0_224 rfl rfl ?_
  refine r_sc (pc' := 226) (j := i + 5) hM_0 d_0_225 rfl hx.2 h5 (by omega) ?_
  refine r_clg (pc' := 229) (c := (10, 0)) (a := [.inr (.inr (some 0)), .inl (xs (i + 1)).toInt, .inl (xs (i + 2)).toInt, .inl (xs (i + 3)).toInt, .inl (xs (i + 4)).toInt, .inl (xs (i + 5)).toInt]) (q := []) hM_0 d_0_226 rfl (by decide +kernel) hM_10 rfl rfl rfl (Nat.le_of_ble_eq_true rfl) (Nat.le_of_ble_eq_true rfl) (Or.inr rfl) c1 (Nat.le_refl _) ?_
  show rn fx 101 cr 0 229 [some (.inr (.inr (some 1000))), some (.inr (.inr (some 0))), some (.inr (.inr (some 53))), some (.inl (i : Int))] [.inl z] (st0 m1) _
  refine r_ld (pc' := 230) hM_0 d_0_229 rfl rfl ?_
  refine r_ld (pc' := 231) hM_0 d_0_230 rfl rfl ?_
  refine r_ld (pc' := 232) hM_0 d_0_231 rfl rfl ?_
  refine r_k (pc' := 233) (v := .inl 1) hM_0 d_0_232 rfl rfl ?_
  refine r_b (pc' := 234) (z := ((i : Int) + 1)) hM_0 d_0_233 rfl rfl ?_
  refine r_sc (pc' := 235) (j := i + 1) hM_0 d_0_234 rfl hx.2 h1 (by omega) ?_
  refine r_ld (pc' := 236) hM_0 d_0_235 rfl rfl ?_
  refine r_ld (pc' := 237) hM_0 d_0_236 rfl rfl ?_
  refine r_k (pc' := 238) (v := .inl 2) hM_0 d_0_237 rfl rfl ?_
  refine r_b (pc' := 239) (z := ((i : Int) + 2)) hM_0 d_0_238 rfl rfl ?_
  refine r_sc (pc' := 240) (j := i + 2) hM_0 d_0_239 rfl hx.2 h2 (by omega) ?_
  refine r_ld (pc' := 241) hM_0 d_0_240 rfl rfl ?_
  refine r_ld (pc' := 242) hM_0 d_0_241 rfl rfl ?_
  refine r_k (pc' := 243) (v := .inl 3) hM_0 d_0_242 rfl rfl ?_
  refine r_b (pc' := 244) (z := ((i : Int) + 3)) hM_0 d_0_243 rfl rfl ?_
  refine r_sc (pc' := 245) (j := i + 3) hM_0 d_0_244 rfl hx.2 h3 (by omega) ?_
  refine r_ld (pc' := 246) hM_0 d_0_245 rfl rfl ?_
  refine r_ld (pc' := 247) hM_0 d_0_246 rfl rfl ?_
  refine r_k (pc' := 248) (v := .inl 4) hM_0 d_0_247 rfl rfl ?_
  refine r_b (pc' := 249) (z := ((i : Int) + 4)) hM_0 d_0_248 rfl rfl ?_
  refine r_sc (pc' := 250) (j := i + 4) hM_0 d_0_249 rfl hx.2 h4 (by omega) ?_
  refine r_ld (pc' := 251) hM_0 d_0_250 rfl rfl ?_
  refine r_ld (pc' := 252) hM_0 d_0_251 rfl rfl ?_
  refine r_k (pc' := 253) (v := .inl 5) hM_0 d_0_252 rfl rfl ?_
  refine r_b (pc' := 254) (z := ((i : Int) + 5)) hM_0 d_0_253 rfl rfl ?_
  refine r_sc (pc' := 255) (j := i + 5) hM_0 d_0_254 rfl hx.2 h5 (by omega) ?_
  refine r_clg (pc' := 258) (c := (165, 0)) (a := [.inr (.inr (some 53)), .inl (xs (i + 1)).toInt, .inl (xs (i + 2)).toInt, .inl (xs (i + 3)).toInt, .inl (xs (i + 4)).toInt, .inl (xs (i + 5)).toInt]) (q := [.inl z]) hM_0 d_0_255 rfl (by decide +kernel) hM_165 rfl rfl rfl (Nat.le_of_ble_eq_true rfl) (Nat.le_of_ble_eq_true rfl) (Or.inr rfl) c2 (Nat.le_refl _) ?_
  show rn fx 101 cr 0 258 [some (.inr (.inr (some 1000))), some (.inr (.inr (some 0))), some (.inr (.inr (some 53))), some (.inl (i : Int))] [.inl z, .inl z] (st0 m2) _
  refine r_ic (pc' := 1331) (pc2 := 261) hM_0 d_0_258 (by decide) rfl (fun _ => ?_) (fun hc => absurd (show am_s z = am_s z from rfl) hc)
  exact hk
theorem lc_1 {fx : am_X0} {L : Nat} {xs : Nat → Int32} {cr : Nat × Nat} {m : am_M} {i : Nat} (hx : LX L xs fx) (hi : i + 6 ≤ L) (hL : L ≤ 3072) (hI : Inv m) (k : ∀ m2, Inv m2 → ∃ S2, rn fx 101 cr 0 1331 [some (.inr (.inr (some 1000))), some (.inr (.inr (some 0))), some (.inr (.inr (some 53))), some (.inl (i : Int))] [] (st0 m2) ([.inl 1], S2)) : ∃ S2, rn fx 101 cr 0 263 [some (.inr (.inr (some 1000))), some (.inr (.inr (some 0))), some (.inr (.inr (some 53))), some (.inl (i : Int))] [] (st0 m) ([.inl 1], S2) := by
  have h1 : am_s ((i : Int) + 1) = ((i + 1 : Nat) : Int) := am_s_id (by omega) (by omega)
  have h2 : am_s ((i : Int) + 2) = ((i + 2 : Nat) : Int) := am_s_id (by omega) (by omega)
  have h3 : am_s ((i : Int) + 3) = ((i + 3 : Nat) : Int) := am_s_id (by omega) (by omega)
  have h4 : am_s ((i : Int) + 4) = ((i + 4 : Nat) : Int) := am_s_id (by omega) (by omega)
  have h5 : am_s ((i : Int) + 5) = ((i + 5 : Nat) : Int) := am_s_id (by omega) (by omega)
  have hpk : PK 12 2 166 3 [.inl (xs (i + 1)).toInt] m := P_house (sv_s _) hI
  obtain ⟨r1, m1, ⟨v, hv, r2, m2, ⟨hv2, hI2⟩, hr2⟩, hr1⟩ := hpk
  rw [hv] at hr1
  rw [hv2] at hr2
  have c1 := hr1 fx hx.1
  have c2 := hr2 fx hx.1
  obtain ⟨z, hz⟩ := rn_int hM_12 rfl c1
  rw [hz] at c1 c2
  obtain ⟨S2, hk⟩ := k m2 hI2
  refine ⟨S2, ?_⟩
  refine r_ld (pc' := 264) hM_0 d_0_263 rfl rfl ?_
  refine r_ld (pc' := 265) hM_0 d_0_264 rfl rfl ?_
  refine r_ld (pc' := 266) hM_0 d_0_265 rfl rfl ?_
  refine r_k (pc' := 267) (v := .inl 1) hM_0 d_0_266 rfl rfl ?_
  refine r_b (pc' := 268) (z := ((i : Int) + 1)) hM_0 d_0_267 rfl rfl ?_
  refine r_sc (pc' := 269) (j := i + 1) hM_0 d_0_268 rfl hx.2 h1 (by omega) ?_
  refine r_clg (pc' := 272) (c := (12, 0)) (a := [.inr (.inr (some 0)), .inl (xs (i + 1)).toInt]) (q := []) hM_0 d_0_269 rfl (by decide +kernel) hM_12 rfl rfl rfl (Nat.le_of_ble_eq_true rfl) (Nat.le_of_ble_eq_true rfl) (Or.inr rfl) c1 (Nat.le_refl _) ?_
  show rn fx 101 cr 0 272 [some (.inr (.inr (some 1000))), some (.inr (.inr (some 0))), some (.inr (.inr (some 53))), some (.inl (i : Int))] [.inl z] (st0 m1) _
  refine r_ld (pc' := 273) hM_0 d_0_272 rfl rfl ?_
  refine r_ld (pc' := 274) hM_0 d_0_273 rfl rfl ?_
  refine r_ld (pc' := 275) hM_0 d_0_274 rfl rfl ?_
  refine r_k (pc' := 276) (v := .inl 1) hM_0 d_0_275 rfl rfl ?_
  refine r_b (pc' := 277) (z := ((i : Int) + 1)) hM_0 d_0_276 rfl rfl ?_
  refine r_sc (pc' := 278) (j := i + 1) hM_0 d_0_277 rfl hx.2 h1 (by omega) ?_
  refine r_clg (pc' := 281) (c := (166, 0)) (a := [.inr (.inr (some 53)), .inl (xs (i + 1)).toInt]) (q := [.inl z]) hM_0 d_0_278 rfl (by decide +kernel) hM_166 rfl rfl rfl (Nat.le_of_ble_eq_true rfl) (Nat.le_of_ble_eq_true rfl) (Or.inr rfl) c2 (Nat.le_refl _) ?_
  show rn fx 101 cr 0 281 [some (.inr (.inr (some 1000))), some (.inr (.inr (some 0))), some (.inr (.inr (some 53))), some (.inl (i : Int))] [.inl z, .inl z] (st0 m2) _
  refine r_ic (pc' := 1331) (pc2 := 284) hM_0 d_0_281 (by decide) rfl (fun _ => ?_) (fun hc => absurd (show am_s z = am_s z from rfl) hc)
  exact hk
theorem lc_2 {fx : am_X0} {L : Nat} {xs : Nat → Int32} {cr : Nat × Nat} {m : am_M} {i : Nat} (hx : LX L xs fx) (hi : i + 6 ≤ L) (hL : L ≤ 3072) (hI : Inv m) (k : ∀ m2, Inv m2 → ∃ S2, rn fx 101 cr 0 1331 [some (.inr (.inr (some 1000))), some (.inr (.inr (some 0))), some (.inr (.inr (some 53))), some (.inl (i : Int))] [] (st0 m2) ([.inl 1], S2)) : ∃ S2, rn fx 101 cr 0 286 [some (.inr (.inr (some 1000))), some (.inr (.inr (some 0))), some (.inr (.inr (some 53))), some (.inl (i : Int))] [] (st0 m) ([.inl 1], S2) := by
  have h1 : am_s ((i : Int) + 1) = ((i + 1 : Nat) : Int) := am_s_id (by omega) (by omega)
  have h2 : am_s ((i : Int) + 2) = ((i + 2 : Nat) : Int) := am_s_id (by omega) (by omega)
  have h3 : am_s ((i : Int) + 3) = ((i + 3 : Nat) : Int) := am_s_id (by omega) (by omega)
  have h4 : am_s ((i : Int) + 4) = ((i + 4 : Nat) : Int) := am_s_id (by omega) (by omega)
  have h5 : am_s ((i : Int) + 5) = ((i + 5 : Nat) : Int) := am_s_id (by omega) (by omega)
  have hpk : PK 38 2 181 2 [.inl (xs (i + 1)).toInt] m := PK_of (P_fault (sv_s _) hI)
  obtain ⟨r1, m1, ⟨v, hv, r2, m2, ⟨hv2, hI2⟩, hr2⟩, hr1⟩ := hpk
  rw [hv] at hr1
  rw [hv2] at hr2
  have c1 := hr1 fx hx.1
  have c2 := hr2 fx hx.1
  obtain ⟨z, hz⟩ := rn_int hM_38 rfl c1
  rw [hz] at c1 c2
  obtain ⟨S2, hk⟩ := k m2 hI2
  refine ⟨S2, ?_⟩
  refine r_ld (pc' := 287) hM_0 d_0_286 rfl rfl ?_
  refine r_ld (pc' := 288) hM_0 d_0_287 rfl rfl ?_
  refine r_ld (pc' := 289) hM_0 d_0_288 rfl rfl ?_
  refine r_k (pc' := 290) (v := .inl 1) hM_0 d_0_289 rfl rfl ?_
  refine r_b (pc' := 291) (z := ((i : Int) + 1)) hM_0 d_0_290 rfl rfl ?_
  refine r_sc (pc' := 292) (j := i + 1) hM_0 d_0_291 rfl hx.2 h1 (by omega) ?_
  refine r_clg (pc' := 295) (c := (38, 0)) (a := [.inr (.inr (some 0)), .inl (xs (i + 1)).toInt]) (q := []) hM_0 d_0_292 rfl (by decide +kernel) hM_38 rfl rfl rfl (Nat.le_of_ble_eq_true rfl) (Nat.le_of_ble_eq_true rfl) (Or.inr rfl) c1 (Nat.le_refl _) ?_
  show rn fx 101 cr 0 295 [some (.inr (.inr (some 1000))), some (.inr (.inr (some 0))), some (.inr (.inr (some 53))), some (.inl (i : Int))] [.inl z] (st0 m1) _
  refine r_ld (pc' := 296) hM_0 d_0_295 rfl rfl ?_
  refine r_ld (pc' := 297) hM_0 d_0_296 rfl rfl ?_
  refine r_ld (pc' := 298) hM_0 d_0_297 rfl rfl ?_
  refine r_k (pc' := 299) (v := .inl 1) hM_0 d_0_298 rfl rfl ?_
  refine r_b (pc' := 300) (z := ((i : Int) + 1)) hM_0 d_0_299 rfl rfl ?_
  refine r_sc (pc' := 301) (j := i + 1) hM_0 d_0_300 rfl hx.2 h1 (by omega) ?_
  refine r_clg (pc' := 304) (c := (181, 0)) (a := [.inr (.inr (some 53)), .inl (xs (i + 1)).toInt]) (q := [.inl z]) hM_0 d_0_301 rfl (by decide +kernel) hM_181 rfl rfl rfl (Nat.le_of_ble_eq_true rfl) (Nat.le_of_ble_eq_true rfl) (Or.inr rfl) c2 (Nat.le_refl _) ?_
  show rn fx 101 cr 0 304 [some (.inr (.inr (some 1000))), some (.inr (.inr (some 0))), some (.inr (.inr (some 53))), some (.inl (i : Int))] [.inl z, .inl z] (st0 m2) _
  refine r_ic (pc' := 1331) (pc2 := 307) hM_0 d_0_304 (by decide) rfl (fun _ => ?_) (fun hc => absurd (show am_s z = am_s z from rfl) hc)
  exact hk
theorem lc_3 {fx : am_X0} {L : Nat} {xs : Nat → Int32} {cr : Nat × Nat} {m : am_M} {i : Nat} (hx : LX L xs fx) (hi : i + 6 ≤ L) (hL : L ≤ 3072) (hI : Inv m) (k : ∀ m2, Inv m2 → ∃ S2, rn fx 101 cr 0 1331 [some (.inr (.inr (some 1000))), some (.inr (.inr (some 0))), some (.inr (.inr (some 53))), some (.inl (i : Int))] [] (st0 m2) ([.inl 1], S2)) : ∃ S2, rn fx 101 cr 0 309 [some (.inr (.inr (some 1000))), some (.inr (.inr (some 0))), some (.inr (.inr (some 53))), some (.inl (i : Int))] [] (st0 m) ([.inl 1], S2) := by
  have h1 : am_s ((i : Int) + 1) = ((i + 1 : Nat) : Int) := am_s_id (by omega) (by omega)
  have h2 : am_s ((i : Int) + 2) = ((i + 2 : Nat) : Int) := am_s_id (by omega) (by omega)
  have h3 : am_s ((i : Int) + 3) = ((i + 3 : Nat) : Int) := am_s_id (by omega) (by omega)
  have h4 : am_s ((i : Int) + 4) = ((i + 4 : Nat) : Int) := am_s_id (by omega) (by omega)
  have h5 : am_s ((i : Int) + 5) = ((i + 5 : Nat) : Int) := am_s_id (by omega) (by omega)
  have hpk : PK 39 3 182 3 [.inl (xs (i + 1)).toInt, .inl (xs (i + 2)).toInt] m := PK_of (P_barrel (sv_s _) (sv_s _) hI)
  obtain ⟨r1, m1, ⟨v, hv, r2, m2, ⟨hv2, hI2⟩, hr2⟩, hr1⟩ := hpk
  rw [hv] at hr1
  rw [hv2] at hr2
  have c1 := hr1 fx hx.1
  have c2 := hr2 fx hx.1
  obtain ⟨z, hz⟩ := rn_int hM_39 rfl c1
  rw [hz] at c1 c2
  obtain ⟨S2, hk⟩ := k m2 hI2
  refine ⟨S2, ?_⟩
  refine r_ld (pc' := 310) hM_0 d_0_309 rfl rfl ?_
  refine r_ld (pc' := 311) hM_0 d_0_310 rfl rfl ?_
  refine r_ld (pc' := 312) hM_0 d_0_311 rfl rfl ?_
  refine r_k (pc' := 313) (v := .inl 1) hM_0 d_0_312 rfl rfl ?_
  refine r_b (pc' := 314) (z := ((i : Int) + 1)) hM_0 d_0_313 rfl rfl ?_
  refine r_sc (pc' := 315) (j := i + 1) hM_0 d_0_314 rfl hx.2 h1 (by omega) ?_
  refine r_ld (pc' := 316) hM_0 d_0_315 rfl rfl ?_
  refine r_ld (pc' := 317) hM_0 d_0_316 rfl rfl ?_
  refine r_k (pc' := 318) (v := .inl 2) hM_0 d_0_317 rfl rfl ?_
  refine r_b (pc' := 319) (z := ((i : Int) + 2)) hM_0 d_0_318 rfl rfl ?_
  refine r_sc (pc' := 320) (j := i + 2) hM_0 d_0_319 rfl hx.2 h2 (by omega) ?_
  refine r_clg (pc' := 323) (c := (39, 0)) (a := [.inr (.inr (some 0)), .inl (xs (i + 1)).toInt, .inl (xs (i + 2)).toInt]) (q := []) hM_0 d_0_320 rfl (by decide +kernel) hM_39 rfl rfl rfl (Nat.le_of_ble_eq_true rfl) (Nat.le_of_ble_eq_true rfl) (Or.inr rfl) c1 (Nat.le_refl _) ?_
  show rn fx 101 cr 0 323 [some (.inr (.inr (some 1000))), some (.inr (.inr (some 0))), some (.inr (.inr (some 53))), some (.inl (i : Int))] [.inl z] (st0 m1) _
  refine r_ld (pc' := 324) hM_0 d_0_323 rfl rfl ?_
  refine r_ld (pc' := 325) hM_0 d_0_324 rfl rfl ?_
  refine r_ld (pc' := 326) hM_0 d_0_325 rfl rfl ?_
  refine r_k (pc' := 327) (v := .inl 1) hM_0 d_0_326 rfl rfl ?_
  refine r_b (pc' := 328) (z := ((i : Int) + 1)) hM_0 d_0_327 rfl rfl ?_
  refine r_sc (pc' := 329) (j := i + 1) hM_0 d_0_328 rfl hx.2 h1 (by omega) ?_
  refine r_ld (pc' := 330) hM_0 d_0_329 rfl rfl ?_
  refine r_ld (pc' := 331) hM_0 d_0_330 rfl rfl ?_
  refine r_k (pc' := 332) (v := .inl 2) hM_0 d_0_331 rfl rfl ?_
  refine r_b (pc' := 333) (z := ((i : Int) + 2)) hM_0 d_0_332 rfl rfl ?_
  refine r_sc (pc' := 334) (j := i + 2) hM_0 d_0_333 rfl hx.2 h2 (by omega) ?_
  refine r_clg (pc' := 337) (c := (182, 0)) (a := [.inr (.inr (some 53)), .inl (xs (i + 1)).toInt, .inl (xs (i + 2)).toInt]) (q := [.inl z]) hM_0 d_0_334 rfl (by decide +kernel) hM_182 rfl rfl rfl (Nat.le_of_ble_eq_true rfl) (Nat.le_of_ble_eq_true rfl) (Or.inr rfl) c2 (Nat.le_refl _) ?_
  show rn fx 101 cr 0 337 [some (.inr (.inr (some 1000))), some (.inr (.inr (some 0))), some (.inr (.inr (some 53))), some (.inl (i : Int))] [.inl z, .inl z] (st0 m2) _
  refine r_ic (pc' := 1331) (pc2 := 340) hM_0 d_0_337 (by decide) rfl (fun _ => ?_) (fun hc => absurd (show am_s z = am_s z from rfl) hc)
  exact hk
theorem lc_4 {fx : am_X0} {L : Nat} {xs : Nat → Int32} {cr : Nat × Nat} {m : am_M} {i : Nat} (hx : LX L xs fx) (hi : i + 6 ≤ L) (hL : L ≤ 3072) (hI : Inv m) (k : ∀ m2, Inv m2 → ∃ S2, rn fx 101 cr 0 1331 [some (.inr (.inr (some 1000))), some (.inr (.inr (some 0))), some (.inr (.inr (some 53))), some (.inl (i : Int))] [] (st0 m2) ([.inl 1], S2)) : ∃ S2, rn fx 101 cr 0 342 [some (.inr (.inr (some 1000))), some (.inr (.inr (some 0))), some (.inr (.inr (some 53))), some (.inl (i : Int))] [] (st0 m) ([.inl 1], S2) := by
  have h1 : am_s ((i : Int) + 1) = ((i + 1 : Nat) : Int) := am_s_id (by omega) (by omega)
  have h2 : am_s ((i : Int) + 2) = ((i + 2 : Nat) : Int) := am_s_id (by omega) (by omega)
  have h3 : am_s ((i : Int) + 3) = ((i + 3 : Nat) : Int) := am_s_id (by omega) (by omega)
  have h4 : am_s ((i : Int) + 4) = ((i + 4 : Nat) : Int) := am_s_id (by omega) (by omega)
  have h5 : am_s ((i : Int) + 5) = ((i + 5 : Nat) : Int) := am_s_id (by omega) (by omega)
  have hpk : PK 41 3 184 7 [.inl (xs (i + 1)).toInt, .inl (xs (i + 2)).toInt] m := P_swap (sv_s _) (sv_s _) hI
  obtain ⟨r1, m1, ⟨v, hv, r2, m2, ⟨hv2, hI2⟩, hr2⟩, hr1⟩ := hpk
  rw [hv] at hr1
  rw [hv2] at hr2
  have c1 := hr1 fx hx.1
  have c2 := hr2 fx hx.1
  obtain ⟨z, hz⟩ := rn_int hM_41 rfl c1
  rw [hz] at c1 c2
  obtain ⟨S2, hk⟩ := k m2 hI2
  refine ⟨S2, ?_⟩
  refine r_ld (pc' := 343) hM_0 d_0_342 rfl rfl ?_
  refine r_ld (pc' := 344) hM_0 d_0_343 rfl rfl ?_
  refine r_ld (pc' := 345) hM_0 d_0_344 rfl rfl ?_
  refine r_k (pc' := 346) (v := .inl 1) hM_0 d_0_345 rfl rfl ?_
  refine r_b (pc' := 347) (z := ((i : Int) + 1)) hM_0 d_0_346 rfl rfl ?_
  refine r_sc (pc' := 348) (j := i + 1) hM_0 d_0_347 rfl hx.2 h1 (by omega) ?_
  refine r_ld (pc' := 349) hM_0 d_0_348 rfl rfl ?_
  refine r_ld (pc' := 350) hM_0 d_0_349 rfl rfl ?_
  refine r_k (pc' := 351) (v := .inl 2) hM_0 d_0_350 rfl rfl ?_
  refine r_b (pc' := 352) (z := ((i : Int) + 2)) hM_0 d_0_351 rfl rfl ?_
  refine r_sc (pc' := 353) (j := i + 2) hM_0 d_0_352 rfl hx.2 h2 (by omega) ?_
  refine r_clg (pc' := 356) (c := (41, 0)) (a := [.inr (.inr (some 0)), .inl (xs (i + 1)).toInt, .inl (xs (i + 2)).toInt]) (q := []) hM_0 d_0_353 rfl (by decide +kernel) hM_41 rfl rfl rfl (Nat.le_of_ble_eq_true rfl) (Nat.le_of_ble_eq_true rfl) (Or.inr rfl) c1 (Nat.le_refl _) ?_
  show rn fx 101 cr 0 356 [some (.inr (.inr (some 1000))), some (.inr (.inr (some 0))), some (.inr (.inr (some 53))), some (.inl (i : Int))] [.inl z] (st0 m1) _
  refine r_ld (pc' := 357) hM_0 d_0_356 rfl rfl ?_
  refine r_ld (pc' := 358) hM_0 d_0_357 rfl rfl ?_
  refine r_ld (pc' := 359) hM_0 d_0_358 rfl rfl ?_
  refine r_k (pc' := 360) (v := .inl 1) hM_0 d_0_359 rfl rfl ?_
  refine r_b (pc' := 361) (z := ((i : Int) + 1)) hM_0 d_0_360 rfl rfl ?_
  refine r_sc (pc' := 362) (j := i + 1) hM_0 d_0_361 rfl hx.2 h1 (by omega) ?_
  refine r_ld (pc' := 363) hM_0 d_0_362 rfl rfl ?_
  refine r_ld (pc' := 364) hM_0 d_0_363 rfl rfl ?_
  refine r_k (pc' := 365) (v := .inl 2) hM_0 d_0_364 rfl rfl ?_
  refine r_b (pc' := 366) (z := ((i : Int) + 2)) hM_0 d_0_365 rfl rfl ?_
  refine r_sc (pc' := 367) (j := i + 2) hM_0 d_0_366 rfl hx.2 h2 (by omega) ?_
  refine r_clg (pc' := 370) (c := (184, 0)) (a := [.inr (.inr (some 53)), .inl (xs (i + 1)).toInt, .inl (xs (i + 2)).toInt]) (q := [.inl z]) hM_0 d_0_367 rfl (by decide +kernel) hM_184 rfl rfl rfl (Nat.le_of_ble_eq_true rfl) (Nat.le_of_ble_eq_true rfl) (Or.inr rfl) c2 (Nat.le_refl _) ?_
  show rn fx 101 cr 0 370 [some (.inr (.inr (some 1000))), some (.inr (.inr (some 0))), some (.inr (.inr (some 53))), some (.inl (i : Int))] [.inl z, .inl z] (st0 m2) _
  refine r_ic (pc' := 1331) (pc2 := 373) hM_0 d_0_370 (by decide) rfl (fun _ => ?_) (fun hc => absurd (show am_s z = am_s z from rfl) hc)
  exact hk
theorem lc_5 {fx : am_X0} {L : Nat} {xs : Nat → Int32} {cr : Nat × Nat} {m : am_M} {i : Nat} (hx : LX L xs fx) (hi : i + 6 ≤ L) (hL : L ≤ 3072) (hI : Inv m) (k : ∀ m2, Inv m2 → ∃ S2, rn fx 101 cr 0 1331 [some (.inr (.inr (some 1000))), some (.inr (.inr (some 0))), some (.inr (.inr (some 53))), some (.inl (i : Int))] [] (st0 m2) ([.inl 1], S2)) : ∃ S2, rn fx 101 cr 0 375 [some (.inr (.inr (some 1000))), some (.inr (.inr (some 0))), some (.inr (.inr (some 53))), some (.inl (i : Int))] [] (st0 m) ([.inl 1], S2) := by
  have h1 : am_s ((i : Int) + 1) = ((i + 1 : Nat) : Int) := am_s_id (by omega) (by omega)
  have h2 : am_s ((i : Int) + 2) = ((i + 2 : Nat) : Int) := am_s_id (by omega) (by omega)
  have h3 : am_s ((i : Int) + 3) = ((i + 3 : Nat) : Int) := am_s_id (by omega) (by omega)
  have h4 : am_s ((i : Int) + 4) = ((i + 4 : Nat) : Int) := am_s_id (by omega) (by omega)
  have h5 : am_s ((i : Int) + 5) = ((i + 5 : Nat) : Int) := am_s_id (by omega) (by omega)
  have hpk : PK 43 3 186 3 [.inl (xs (i + 1)).toInt] m := P_sell (sv_s _) hI
  obtain ⟨r1, m1, ⟨v, hv, r2, m2, ⟨hv2, hI2⟩, hr2⟩, hr1⟩ := hpk
  rw [hv] at hr1
  rw [hv2] at hr2
  have c1 := hr1 fx hx.1
  have c2 := hr2 fx hx.1
  obtain ⟨z, hz⟩ := rn_int hM_43 rfl c1
  rw [hz] at c1 c2
  obtain ⟨S2, hk⟩ := k m2 hI2
  refine ⟨S2, ?_⟩
  refine r_ld (pc' := 376) hM_0 d_0_375 rfl rfl ?_
  refine r_ld (pc' := 377) hM_0 d_0_376 rfl rfl ?_
  refine r_ld (pc' := 378) hM_0 d_0_377 rfl rfl ?_
  refine r_k (pc' := 379) (v := .inl 1) hM_0 d_0_378 rfl rfl ?_
  refine r_b (pc' := 380) (z := ((i : Int) + 1)) hM_0 d_0_379 rfl rfl ?_
  refine r_sc (pc' := 381) (j := i + 1) hM_0 d_0_380 rfl hx.2 h1 (by omega) ?_
  refine r_clg (pc' := 384) (c := (43, 0)) (a := [.inr (.inr (some 0)), .inl (xs (i + 1)).toInt]) (q := []) hM_0 d_0_381 rfl (by decide +kernel) hM_43 rfl rfl rfl (Nat.le_of_ble_eq_true rfl) (Nat.le_of_ble_eq_true rfl) (Or.inr rfl) c1 (Nat.le_refl _) ?_
  show rn fx 101 cr 0 384 [some (.inr (.inr (some 1000))), some (.inr (.inr (some 0))), some (.inr (.inr (some 53))), some (.inl (i : Int))] [.inl z] (st0 m1) _
  refine r_ld (pc' := 385) hM_0 d_0_384 rfl rfl ?_
  refine r_ld (pc' := 386) hM_0 d_0_385 rfl rfl ?_
  refine r_ld (pc' := 387) hM_0 d_0_386 rfl rfl ?_
  refine r_k (pc' := 388) (v := .inl 1) hM_0 d_0_387 rfl rfl ?_
  refine r_b (pc' := 389) (z := ((i : Int) + 1)) hM_0 d_0_388 rfl rfl ?_
  refine r_sc (pc' := 390) (j := i + 1) hM_0 d_0_389 rfl hx.2 h1 (by omega) ?_
  refine r_clg (pc' := 393) (c := (186, 0)) (a := [.inr (.inr (some 53)), .inl (xs (i + 1)).toInt]) (q := [.inl z]) hM_0 d_0_390 rfl (by decide +kernel) hM_186 rfl rfl rfl (Nat.le_of_ble_eq_true rfl) (Nat.le_of_ble_eq_true rfl) (Or.inr rfl) c2 (Nat.le_refl _) ?_
  show rn fx 101 cr 0 393 [some (.inr (.inr (some 1000))), some (.inr (.inr (some 0))), some (.inr (.inr (some 53))), some (.inl (i : Int))] [.inl z, .inl z] (st0 m2) _
  refine r_ic (pc' := 1331) (pc2 := 396) hM_0 d_0_393 (by decide) rfl (fun _ => ?_) (fun hc => absurd (show am_s z = am_s z from rfl) hc)
  exact hk
theorem lc_6 {fx : am_X0} {L : Nat} {xs : Nat → Int32} {cr : Nat × Nat} {m : am_M} {i : Nat} (hx : LX L xs fx) (hi : i + 6 ≤ L) (hL : L ≤ 3072) (hI : Inv m) (k : ∀ m2, Inv m2 → ∃ S2, rn fx 101 cr 0 1331 [some (.inr (.inr (some 1000))), some (.inr (.inr (some 0))), some (.inr (.inr (some 53))), some (.inl (i : Int))] [] (st0 m2) ([.inl 1], S2)) : ∃ S2, rn fx 101 cr 0 398 [some (.inr (.inr (some 1000))), some (.inr (.inr (some 0))), some (.inr (.inr (some 53))), some (.inl (i : Int))] [] (st0 m) ([.inl 1], S2) := by
  have h1 : am_s ((i : Int) + 1) = ((i + 1 : Nat) : Int) := am_s_id (by omega) (by omega)
  have h2 : am_s ((i : Int) + 2) = ((i + 2 : Nat) : Int) := am_s_id (by omega) (by omega)
  have h3 : am_s ((i : Int) + 3) = ((i + 3 : Nat) : Int) := am_s_id (by omega) (by omega)
  have h4 : am_s ((i : Int) + 4) = ((i + 4 : Nat) : Int) := am_s_id (by omega) (by omega)
  have h5 : am_s ((i : Int) + 5) = ((i + 5 : Nat) : Int) := am_s_id (by omega) (by omega)
  have hpk : PK 44 3 188 3 [.inl (xs (i + 1)).toInt, .inl (xs (i + 2)).toInt] m := P_put (sv_s _) (sv_s _) hI
  obtain ⟨r1, m1, ⟨v, hv, r2, m2, ⟨hv2, hI2⟩, hr2⟩, hr1⟩ := hpk
  rw [hv] at hr1
  rw [hv2] at hr2
  have c1 := hr1 fx hx.1
  have c2 := hr2 fx hx.1
  obtain ⟨z, hz⟩ := rn_int hM_44 rfl c1
  rw [hz] at c1 c2
  obtain ⟨S2, hk⟩ := k m2 hI2
  refine ⟨S2, ?_⟩
  refine r_ld (pc' := 399) hM_0 d_0_398 rfl rfl ?_
  refine r_ld (pc' := 400) hM_0 d_0_399 rfl rfl ?_
  refine r_ld (pc' := 401) hM_0 d_0_400 rfl rfl ?_
  refine r_k (pc' := 402) (v := .inl 1) hM_0 d_0_401 rfl rfl ?_
  refine r_b (pc' := 403) (z := ((i : Int) + 1)) hM_0 d_0_402 rfl rfl ?_
  refine r_sc (pc' := 404) (j := i + 1) hM_0 d_0_403 rfl hx.2 h1 (by omega) ?_
  refine r_ld (pc' := 405) hM_0 d_0_404 rfl rfl ?_
  refine r_ld (pc' := 406) hM_0 d_0_405 rfl rfl ?_
  refine r_k (pc' := 407) (v := .inl 2) hM_0 d_0_406 rfl rfl ?_
  refine r_b (pc' := 408) (z := ((i : Int) + 2)) hM_0 d_0_407 rfl rfl ?_
  refine r_sc (pc' := 409) (j := i + 2) hM_0 d_0_408 rfl hx.2 h2 (by omega) ?_
  refine r_clg (pc' := 412) (c := (44, 0)) (a := [.inr (.inr (some 0)), .inl (xs (i + 1)).toInt, .inl (xs (i + 2)).toInt]) (q := []) hM_0 d_0_409 rfl (by decide +kernel) hM_44 rfl rfl rfl (Nat.le_of_ble_eq_true rfl) (Nat.le_of_ble_eq_true rfl) (Or.inr rfl) c1 (Nat.le_refl _) ?_
  show rn fx 101 cr 0 412 [some (.inr (.inr (some 1000))), some (.inr (.inr (some 0))), some (.inr (.inr (some 53))), some (.inl (i : Int))] [.inl z] (st0 m1) _
  refine r_ld (pc' := 413) hM_0 d_0_412 rfl rfl ?_
  refine r_ld (pc' := 414) hM_0 d_0_413 rfl rfl ?_
  refine r_ld (pc' := 415) hM_0 d_0_414 rfl rfl ?_
  refine r_k (pc' := 416) (v := .inl 1) hM_0 d_0_415 rfl rfl ?_
  refine r_b (pc' := 417) (z := ((i : Int) + 1)) hM_0 d_0_416 rfl rfl ?_
  refine r_sc (pc' := 418) (j := i + 1) hM_0 d_0_417 rfl hx.2 h1 (by omega) ?_
  refine r_ld (pc' := 419) hM_0 d_0_418 rfl rfl ?_
  refine r_ld (pc' := 420) hM_0 d_0_419 rfl rfl ?_
  refine r_k (pc' := 421) (v := .inl 2) hM_0 d_0_420 rfl rfl ?_
  refine r_b (pc' := 422) (z := ((i : Int) + 2)) hM_0 d_0_421 rfl rfl ?_
  refine r_sc (pc' := 423) (j := i + 2) hM_0 d_0_422 rfl hx.2 h2 (by omega) ?_
  refine r_clg (pc' := 426) (c := (188, 0)) (a := [.inr (.inr (some 53)), .inl (xs (i + 1)).toInt, .inl (xs (i + 2)).toInt]) (q := [.inl z]) hM_0 d_0_423 rfl (by decide +kernel) hM_188 rfl rfl rfl (Nat.le_of_ble_eq_true rfl) (Nat.le_of_ble_eq_true rfl) (Or.inr rfl) c2 (Nat.le_refl _) ?_
  show rn fx 101 cr 0 426 [some (.inr (.inr (some 1000))), some (.inr (.inr (some 0))), some (.inr (.inr (some 53))), some (.inl (i : Int))] [.inl z, .inl z] (st0 m2) _
  refine r_ic (pc' := 1331) (pc2 := 429) hM_0 d_0_426 (by decide) rfl (fun _ => ?_) (fun hc => absurd (show am_s z = am_s z from rfl) hc)
  exact hk
theorem lc_7 {fx : am_X0} {L : Nat} {xs : Nat → Int32} {cr : Nat × Nat} {m : am_M} {i : Nat} (hx : LX L xs fx) (hi : i + 6 ≤ L) (hL : L ≤ 3072) (hI : Inv m) (k : ∀ m2, Inv m2 → ∃ S2, rn fx 101 cr 0 1331 [some (.inr (.inr (some 1000))), some (.inr (.inr (some 0))), some (.inr (.inr (some 53))), some (.inl (i : Int))] [] (st0 m2) ([.inl 1], S2)) : ∃ S2, rn fx 101 cr 0 431 [some (.inr (.inr (some 1000))), some (.inr (.inr (some 0))), some (.inr (.inr (some 53))), some (.inl (i : Int))] [] (st0 m) ([.inl 1], S2) := by
  have h1 : am_s ((i : Int) + 1) = ((i + 1 : Nat) : Int) := am_s_id (by omega) (by omega)
  have h2 : am_s ((i : Int) + 2) = ((i + 2 : Nat) : Int) := am_s_id (by omega) (by omega)
  have h3 : am_s ((i : Int) + 3) = ((i + 3 : Nat) : Int) := am_s_id (by omega) (by omega)
  have h4 : am_s ((i : Int) + 4) = ((i + 4 : Nat) : Int) := am_s_id (by omega) (by omega)
  have h5 : am_s ((i : Int) + 5) = ((i + 5 : Nat) : Int) := am_s_id (by omega) (by omega)
  have hpk : PK 45 2 189 3 [.inl (xs (i + 1)).toInt] m := P_day (sv_s _) hI
  obtain ⟨r1, m1, ⟨v, hv, r2, m2, ⟨hv2, hI2⟩, hr2⟩, hr1⟩ := hpk
  rw [hv] at hr1
  rw [hv2] at hr2
  have c1 := hr1 fx hx.1
  have c2 := hr2 fx hx.1
  obtain ⟨z, hz⟩ := rn_int hM_45 rfl c1
  rw [hz] at c1 c2
  obtain ⟨S2, hk⟩ := k m2 hI2
  refine ⟨S2, ?_⟩
  refine r_ld (pc' := 432) hM_0 d_0_431 rfl rfl ?_
  refine r_ld (pc' := 433) hM_0 d_0_432 rfl rfl ?_
  refine r_ld (pc' := 434) hM_0 d_0_433 rfl rfl ?_
  refine r_k (pc' := 435) (v := .inl 1) hM_0 d_0_434 rfl rfl ?_
  refine r_b (pc' := 436) (z := ((i : Int) + 1)) hM_0 d_0_435 rfl rfl ?_
  refine r_sc (pc' := 437) (j := i + 1) hM_0 d_0_436 rfl hx.2 h1 (by omega) ?_
  refine r_clg (pc' := 440) (c := (45, 0)) (a := [.inr (.inr (some 0)), .inl (xs (i + 1)).toInt]) (q := []) hM_0 d_0_437 rfl (by decide +kernel) hM_45 rfl rfl rfl (Nat.le_of_ble_eq_true rfl) (Nat.le_of_ble_eq_true rfl) (Or.inr rfl) c1 (Nat.le_refl _) ?_
  show rn fx 101 cr 0 440 [some (.inr (.inr (some 1000))), some (.inr (.inr (some 0))), some (.inr (.inr (some 53))), some (.inl (i : Int))] [.inl z] (st0 m1) _
  refine r_ld (pc' := 441) hM_0 d_0_440 rfl rfl ?_
  refine r_ld (pc' := 442) hM_0 d_0_441 rfl rfl ?_
  refine r_ld (pc' := 443) hM_0 d_0_442 rfl rfl ?_
  refine r_k (pc' := 444) (v := .inl 1) hM_0 d_0_443 rfl rfl ?_
  refine r_b (pc' := 445) (z := ((i : Int) + 1)) hM_0 d_0_444 rfl rfl ?_
  refine r_sc (pc' := 446) (j := i + 1) hM_0 d_0_445 rfl hx.2 h1 (by omega) ?_
  refine r_clg (pc' := 449) (c := (189, 0)) (a := [.inr (.inr (some 53)), .inl (xs (i + 1)).toInt]) (q := [.inl z]) hM_0 d_0_446 rfl (by decide +kernel) hM_189 rfl rfl rfl (Nat.le_of_ble_eq_true rfl) (Nat.le_of_ble_eq_true rfl) (Or.inr rfl) c2 (Nat.le_refl _) ?_
  show rn fx 101 cr 0 449 [some (.inr (.inr (some 1000))), some (.inr (.inr (some 0))), some (.inr (.inr (some 53))), some (.inl (i : Int))] [.inl z, .inl z] (st0 m2) _
  refine r_ic (pc' := 1331) (pc2 := 452) hM_0 d_0_449 (by decide) rfl (fun _ => ?_) (fun hc => absurd (show am_s z = am_s z from rfl) hc)
  exact hk
theorem lc_8 {fx : am_X0} {L : Nat} {xs : Nat → Int32} {cr : Nat × Nat} {m : am_M} {i : Nat} (hx : LX L xs fx) (hi : i + 6 ≤ L) (hL : L ≤ 3072) (hI : Inv m) (k : ∀ m2, Inv m2 → ∃ S2, rn fx 101 cr 0 1331 [some (.inr (.inr (some 1000))), some (.inr (.inr (some 0))), some (.inr (.inr (some 53))), some (.inl (i : Int))] [] (st0 m2) ([.inl 1], S2)) : ∃ S2, rn fx 101 cr 0 454 [some (.inr (.inr (some 1000))), some (.inr (.inr (some 0))), some (.inr (.inr (some 53))), some (.inl (i : Int))] [] (st0 m) ([.inl 1], S2) := by
  have h1 : am_s ((i : Int) + 1) = ((i + 1 : Nat) : Int) := am_s_id (by omega) (by omega)
  have h2 : am_s ((i : Int) + 2) = ((i + 2 : Nat) : Int) := am_s_id (by omega) (by omega)
  have h3 : am_s ((i : Int) + 3) = ((i + 3 : Nat) : Int) := am_s_id (by omega) (by omega)
  have h4 : am_s ((i : Int) + 4) = ((i + 4 : Nat) : Int) := am_s_id (by omega) (by omega)
  have h5 : am_s ((i : Int) + 5) = ((i + 5 : Nat) : Int) := am_s_id (by omega) (by omega)
  have hpk : PK 52 6 197 5 [.inl (xs (i + 1)).toInt, .inl (xs (i + 2)).toInt] m := P_judge (sv_s _) (sv_s _) hI
  obtain ⟨r1, m1, ⟨v, hv, r2, m2, ⟨hv2, hI2⟩, hr2⟩, hr1⟩ := hpk
  rw [hv] at hr1
  rw [hv2] at hr2
  have c1 := hr1 fx hx.1
  have c2 := hr2 fx hx.1
  obtain ⟨z, hz⟩ := rn_int hM_52 rfl c1
  rw [hz] at c1 c2
  obtain ⟨S2, hk⟩ := k m2 hI2
  refine ⟨S2, ?_⟩
  refine r_ld (pc' := 455) hM_0 d_0_454 rfl rfl ?_
  refine r_ld (pc' := 456) hM_0 d_0_455 rfl rfl ?_
  refine r_ld (pc' := 457) hM_0 d_0_456 rfl rfl ?_
  refine r_k (pc' := 458) (v := .inl 1) hM_0 d_0_457 rfl rfl ?_
  refine r_b (pc' := 459) (z := ((i : Int) + 1)) hM_0 d_0_458 rfl rfl ?_
  refine r_sc (pc' := 460) (j := i + 1) hM_0 d_0_459 rfl hx.2 h1 (by omega) ?_
  refine r_ld (pc' := 461) hM_0 d_0_460 rfl rfl ?_
  refine r_ld (pc' := 462) hM_0 d_0_461 rfl rfl ?_
  refine r_k (pc' := 463) (v := .inl 2) hM_0 d_0_462 rfl rfl ?_
  refine r_b (pc' := 464) (z := ((i : Int) + 2)) hM_0 d_0_463 rfl rfl ?_
  refine r_sc (pc' := 465) (j := i + 2) hM_0 d_0_464 rfl hx.2 h2 (by omega) ?_
  refine r_clg (pc' := 468) (c := (52, 0)) (a := [.inr (.inr (some 0)), .inl (xs (i + 1)).toInt, .inl (xs (i + 2)).toInt]) (q := []) hM_0 d_0_465 rfl (by decide +kernel) hM_52 rfl rfl rfl (Nat.le_of_ble_eq_true rfl) (Nat.le_of_ble_eq_true rfl) (Or.inr rfl) c1 (Nat.le_refl _) ?_
  show rn fx 101 cr 0 468 [some (.inr (.inr (some 1000))), some (.inr (.inr (some 0))), some (.inr (.inr (some 53))), some (.inl (i : Int))] [.inl z] (st0 m1) _
  refine r_ld (pc' := 469) hM_0 d_0_468 rfl rfl ?_
  refine r_ld (pc' := 470) hM_0 d_0_469 rfl rfl ?_
  refine r_ld (pc' := 471) hM_0 d_0_470 rfl rfl ?_
  refine r_k (pc' := 472) (v := .inl 1) hM_0 d_0_471 rfl rfl ?_
  refine r_b (pc' := 473) (z := ((i : Int) + 1)) hM_0 d_0_472 rfl rfl ?_
  refine r_sc (pc' := 474) (j := i + 1) hM_0 d_0_473 rfl hx.2 h1 (by omega) ?_
  refine r_ld (pc' := 475) hM_0 d_0_474 rfl rfl ?_
  refine r_ld (pc' := 476) hM_0 d_0_475 rfl rfl ?_
  refine r_k (pc' := 477) (v := .inl 2) hM_0 d_0_476 rfl rfl ?_
  refine r_b (pc' := 478) (z := ((i : Int) + 2)) hM_0 d_0_477 rfl rfl ?_
  refine r_sc (pc' := 479) (j := i + 2) hM_0 d_0_478 rfl hx.2 h2 (by omega) ?_
  refine r_clg (pc' := 482) (c := (197, 0)) (a := [.inr (.inr (some 53)), .inl (xs (i + 1)).toInt, .inl (xs (i + 2)).toInt]) (q := [.inl z]) hM_0 d_0_479 rfl (by decide +kernel) hM_197 rfl rfl rfl (Nat.le_of_ble_eq_true rfl) (Nat.le_of_ble_eq_true rfl) (Or.inr rfl) c2 (Nat.le_refl _) ?_
  show rn fx 101 cr 0 482 [some (.inr (.inr (some 1000))), some (.inr (.inr (some 0))), some (.inr (.inr (some 53))), some (.inl (i : Int))] [.inl z, .inl z] (st0 m2) _
  refine r_ic (pc' := 1331) (pc2 := 485) hM_0 d_0_482 (by decide) rfl (fun _ => ?_) (fun hc => absurd (show am_s z = am_s z from rfl) hc)
  exact hk
theorem lc_9 {fx : am_X0} {L : Nat} {xs : Nat → Int32} {cr : Nat × Nat} {m : am_M} {i : Nat} (hx : LX L xs fx) (hi : i + 6 ≤ L) (hL : L ≤ 3072) (hI : Inv m) (k : ∀ m2, Inv m2 → ∃ S2, rn fx 101 cr 0 1331 [some (.inr (.inr (some 1000))), some (.inr (.inr (some 0))), some (.inr (.inr (some 53))), some (.inl (i : Int))] [] (st0 m2) ([.inl 1], S2)) : ∃ S2, rn fx 101 cr 0 487 [some (.inr (.inr (some 1000))), some (.inr (.inr (some 0))), some (.inr (.inr (some 53))), some (.inl (i : Int))] [] (st0 m) ([.inl 1], S2) := by
  have h1 : am_s ((i : Int) + 1) = ((i + 1 : Nat) : Int) := am_s_id (by omega) (by omega)
  have h2 : am_s ((i : Int) + 2) = ((i + 2 : Nat) : Int) := am_s_id (by omega) (by omega)
  have h3 : am_s ((i : Int) + 3) = ((i + 3 : Nat) : Int) := am_s_id (by omega) (by omega)
  have h4 : am_s ((i : Int) + 4) = ((i + 4 : Nat) : Int) := am_s_id (by omega) (by omega)
  have h5 : am_s ((i : Int) + 5) = ((i + 5 : Nat) : Int) := am_s_id (by omega) (by omega)
  have hpk : PK 58 3 201 2 [.inl (xs (i + 1)).toInt] m := P_perform (sv_s _) hI
  obtain ⟨r1, m1, ⟨v, hv, r2, m2, ⟨hv2, hI2⟩, hr2⟩, hr1⟩ := hpk
  rw [hv] at hr1
  rw [hv2] at hr2
  have c1 := hr1 fx hx.1
  have c2 := hr2 fx hx.1
  obtain ⟨z, hz⟩ := rn_int hM_58 rfl c1
  rw [hz] at c1 c2
  obtain ⟨S2, hk⟩ := k m2 hI2
  refine ⟨S2, ?_⟩
  refine r_ld (pc' := 488) hM_0 d_0_487 rfl rfl ?_
  refine r_ld (pc' := 489) hM_0 d_0_488 rfl rfl ?_
  refine r_ld (pc' := 490) hM_0 d_0_489 rfl rfl ?_
  refine r_k (pc' := 491) (v := .inl 1) hM_0 d_0_490 rfl rfl ?_
  refine r_b (pc' := 492) (z := ((i : Int) + 1)) hM_0 d_0_491 rfl rfl ?_
  refine r_sc (pc' := 493) (j := i + 1) hM_0 d_0_492 rfl hx.2 h1 (by omega) ?_
  refine r_clg (pc' := 496) (c := (58, 0)) (a := [.inr (.inr (some 0)), .inl (xs (i + 1)).toInt]) (q := []) hM_0 d_0_493 rfl (by decide +kernel) hM_58 rfl rfl rfl (Nat.le_of_ble_eq_true rfl) (Nat.le_of_ble_eq_true rfl) (Or.inr rfl) c1 (Nat.le_refl _) ?_
  show rn fx 101 cr 0 496 [some (.inr (.inr (some 1000))), some (.inr (.inr (some 0))), some (.inr (.inr (some 53))), some (.inl (i : Int))] [.inl z] (st0 m1) _
  refine r_ld (pc' := 497) hM_0 d_0_496 rfl rfl ?_
  refine r_ld (pc' := 498) hM_0 d_0_497 rfl rfl ?_
  refine r_ld (pc' := 499) hM_0 d_0_498 rfl rfl ?_
  refine r_k (pc' := 500) (v := .inl 1) hM_0 d_0_499 rfl rfl ?_
  refine r_b (pc' := 501) (z := ((i : Int) + 1)) hM_0 d_0_500 rfl rfl ?_
  refine r_sc (pc' := 502) (j := i + 1) hM_0 d_0_501 rfl hx.2 h1 (by omega) ?_
  refine r_clg (pc' := 505) (c := (201, 0)) (a := [.inr (.inr (some 53)), .inl (xs (i + 1)).toInt]) (q := [.inl z]) hM_0 d_0_502 rfl (by decide +kernel) hM_201 rfl rfl rfl (Nat.le_of_ble_eq_true rfl) (Nat.le_of_ble_eq_true rfl) (Or.inr rfl) c2 (Nat.le_refl _) ?_
  show rn fx 101 cr 0 505 [some (.inr (.inr (some 1000))), some (.inr (.inr (some 0))), some (.inr (.inr (some 53))), some (.inl (i : Int))] [.inl z, .inl z] (st0 m2) _
  refine r_ic (pc' := 1331) (pc2 := 508) hM_0 d_0_505 (by decide) rfl (fun _ => ?_) (fun hc => absurd (show am_s z = am_s z from rfl) hc)
  exact hk
theorem lc_10 {fx : am_X0} {L : Nat} {xs : Nat → Int32} {cr : Nat × Nat} {m : am_M} {i : Nat} (hx : LX L xs fx) (hi : i + 6 ≤ L) (hL : L ≤ 3072) (hI : Inv m) (k : ∀ m2, Inv m2 → ∃ S2, rn fx 101 cr 0 1331 [some (.inr (.inr (some 1000))), some (.inr (.inr (some 0))), some (.inr (.inr (some 53))), some (.inl (i : Int))] [] (st0 m2) ([.inl 1], S2)) : ∃ S2, rn fx 101 cr 0 510 [some (.inr (.inr (some 1000))), some (.inr (.inr (some 0))), some (.inr (.inr (some 53))), some (.inl (i : Int))] [] (st0 m) ([.inl 1], S2) := by
  have h1 : am_s ((i : Int) + 1) = ((i + 1 : Nat) : Int) := am_s_id (by omega) (by omega)
  have h2 : am_s ((i : Int) + 2) = ((i + 2 : Nat) : Int) := am_s_id (by omega) (by omega)
  have h3 : am_s ((i : Int) + 3) = ((i + 3 : Nat) : Int) := am_s_id (by omega) (by omega)
  have h4 : am_s ((i : Int) + 4) = ((i + 4 : Nat) : Int) := am_s_id (by omega) (by omega)
  have h5 : am_s ((i : Int) + 5) = ((i + 5 : Nat) : Int) := am_s_id (by omega) (by omega)
  have hpk : PK 60 9 202 8 [.inl (xs (i + 1)).toInt, .inl (xs (i + 2)).toInt] m := P_week (sv_s _) (sv_s _) hI
  obtain ⟨r1, m1, ⟨v, hv, r2, m2, ⟨hv2, hI2⟩, hr2⟩, hr1⟩ := hpk
  rw [hv] at hr1
  rw [hv2] at hr2
  have c1 := hr1 fx hx.1
  have c2 := hr2 fx hx.1
  obtain ⟨z, hz⟩ := rn_int hM_60 rfl c1
  rw [hz] at c1 c2
  obtain ⟨S2, hk⟩ := k m2 hI2
  refine ⟨S2, ?_⟩
  refine r_ld (pc' := 511) hM_0 d_0_510 rfl rfl ?_
  refine r_ld (pc' := 512) hM_0 d_0_511 rfl rfl ?_
  refine r_ld (pc' := 513) hM_0 d_0_512 rfl rfl ?_
  refine r_k (pc' := 514) (v := .inl 1) hM_0 d_0_513 rfl rfl ?_
  refine r_b (pc' := 515) (z := ((i : Int) + 1)) hM_0 d_0_514 rfl rfl ?_
  refine r_sc (pc' := 516) (j := i + 1) hM_0 d_0_515 rfl hx.2 h1 (by omega) ?_
  refine r_ld (pc' := 517) hM_0 d_0_516 rfl rfl ?_
  refine r_ld (pc' := 518) hM_0 d_0_517 rfl rfl ?_
  refine r_k (pc' := 519) (v := .inl 2) hM_0 d_0_518 rfl rfl ?_
  refine r_b (pc' := 520) (z := ((i : Int) + 2)) hM_0 d_0_519 rfl rfl ?_
  refine r_sc (pc' := 521) (j := i + 2) hM_0 d_0_520 rfl hx.2 h2 (by omega) ?_
  refine r_clg (pc' := 524) (c := (60, 0)) (a := [.inr (.inr (some 0)), .inl (xs (i + 1)).toInt, .inl (xs (i + 2)).toInt]) (q := []) hM_0 d_0_521 rfl (by decide +kernel) hM_60 rfl rfl rfl (Nat.le_of_ble_eq_true rfl) (Nat.le_of_ble_eq_true rfl) (Or.inr rfl) c1 (Nat.le_refl _) ?_
  show rn fx 101 cr 0 524 [some (.inr (.inr (some 1000))), some (.inr (.inr (some 0))), some (.inr (.inr (some 53))), some (.inl (i : Int))] [.inl z] (st0 m1) _
  refine r_ld (pc' := 525) hM_0 d_0_524 rfl rfl ?_
  refine r_ld (pc' := 526) hM_0 d_0_525 rfl rfl ?_
  refine r_ld (pc' := 527) hM_0 d_0_526 rfl rfl ?_
  refine r_k (pc' := 528) (v := .inl 1) hM_0 d_0_527 rfl rfl ?_
  refine r_b (pc' := 529) (z := ((i : Int) + 1)) hM_0 d_0_528 rfl rfl ?_
  refine r_sc (pc' := 530) (j := i + 1) hM_0 d_0_529 rfl hx.2 h1 (by omega) ?_
  refine r_ld (pc' := 531) hM_0 d_0_530 rfl rfl ?_
  refine r_ld (pc' := 532) hM_0 d_0_531 rfl rfl ?_
  refine r_k (pc' := 533) (v := .inl 2) hM_0 d_0_532 rfl rfl ?_
  refine r_b (pc' := 534) (z := ((i : Int) + 2)) hM_0 d_0_533 rfl rfl ?_
  refine r_sc (pc' := 535) (j := i + 2) hM_0 d_0_534 rfl hx.2 h2 (by omega) ?_
  refine r_clg (pc' := 538) (c := (202, 0)) (a := [.inr (.inr (some 53)), .inl (xs (i + 1)).toInt, .inl (xs (i + 2)).toInt]) (q := [.inl z]) hM_0 d_0_535 rfl (by decide +kernel) hM_202 rfl rfl rfl (Nat.le_of_ble_eq_true rfl) (Nat.le_of_ble_eq_true rfl) (Or.inr rfl) c2 (Nat.le_refl _) ?_
  show rn fx 101 cr 0 538 [some (.inr (.inr (some 1000))), some (.inr (.inr (some 0))), some (.inr (.inr (some 53))), some (.inl (i : Int))] [.inl z, .inl z] (st0 m2) _
  refine r_ic (pc' := 1331) (pc2 := 541) hM_0 d_0_538 (by decide) rfl (fun _ => ?_) (fun hc => absurd (show am_s z = am_s z from rfl) hc)
  exact hk
theorem lc_11 {fx : am_X0} {L : Nat} {xs : Nat → Int32} {cr : Nat × Nat} {m : am_M} {i : Nat} (hx : LX L xs fx) (hi : i + 6 ≤ L) (hL : L ≤ 3072) (hI : Inv m) (k : ∀ m2, Inv m2 → ∃ S2, rn fx 101 cr 0 1331 [some (.inr (.inr (some 1000))), some (.inr (.inr (some 0))), some (.inr (.inr (some 53))), some (.inl (i : Int))] [] (st0 m2) ([.inl 1], S2)) : ∃ S2, rn fx 101 cr 0 543 [some (.inr (.inr (some 1000))), some (.inr (.inr (some 0))), some (.inr (.inr (some 53))), some (.inl (i : Int))] [] (st0 m) ([.inl 1], S2) := by
  have h1 : am_s ((i : Int) + 1) = ((i + 1 : Nat) : Int) := am_s_id (by omega) (by omega)
  have h2 : am_s ((i : Int) + 2) = ((i + 2 : Nat) : Int) := am_s_id (by omega) (by omega)
  have h3 : am_s ((i : Int) + 3) = ((i + 3 : Nat) : Int) := am_s_id (by omega) (by omega)
  have h4 : am_s ((i : Int) + 4) = ((i + 4 : Nat) : Int) := am_s_id (by omega) (by omega)
  have h5 : am_s ((i : Int) + 5) = ((i + 5 : Nat) : Int) := am_s_id (by omega) (by omega)
  have hpk : PK 61 3 203 3 [.inl (xs (i + 1)).toInt] m := P_leftAlone (sv_s _) hI
  obtain ⟨r1, m1, ⟨v, hv, r2, m2, ⟨hv2, hI2⟩, hr2⟩, hr1⟩ := hpk
  rw [hv] at hr1
  rw [hv2] at hr2
  have c1 := hr1 fx hx.1
  have c2 := hr2 fx hx.1
  obtain ⟨z, hz⟩ := rn_int hM_61 rfl c1
  rw [hz] at c1 c2
  obtain ⟨S2, hk⟩ := k m2 hI2
  refine ⟨S2, ?_⟩
  refine r_ld (pc' := 544) hM_0 d_0_543 rfl rfl ?_
  refine r_ld (pc' := 545) hM_0 d_0_544 rfl rfl ?_
  refine r_ld (pc' := 546) hM_0 d_0_545 rfl rfl ?_
  refine r_k (pc' := 547) (v := .inl 1) hM_0 d_0_546 rfl rfl ?_
  refine r_b (pc' := 548) (z := ((i : Int) + 1)) hM_0 d_0_547 rfl rfl ?_
  refine r_sc (pc' := 549) (j := i + 1) hM_0 d_0_548 rfl hx.2 h1 (by omega) ?_
  refine r_clg (pc' := 552) (c := (61, 0)) (a := [.inr (.inr (some 0)), .inl (xs (i + 1)).toInt]) (q := []) hM_0 d_0_549 rfl (by decide +kernel) hM_61 rfl rfl rfl (Nat.le_of_ble_eq_true rfl) (Nat.le_of_ble_eq_true rfl) (Or.inr rfl) c1 (Nat.le_refl _) ?_
  show rn fx 101 cr 0 552 [some (.inr (.inr (some 1000))), some (.inr (.inr (some 0))), some (.inr (.inr (some 53))), some (.inl (i : Int))] [.inl z] (st0 m1) _
  refine r_ld (pc' := 553) hM_0 d_0_552 rfl rfl ?_
  refine r_ld (pc' := 554) hM_0 d_0_553 rfl rfl ?_
  refine r_ld (pc' := 555) hM_0 d_0_554 rfl rfl ?_
  refine r_k (pc' := 556) (v := .inl 1) hM_0 d_0_555 rfl rfl ?_
  refine r_b (pc' := 557) (z := ((i : Int) + 1)) hM_0 d_0_556 rfl rfl ?_
  refine r_sc (pc' := 558) (j := i + 1) hM_0 d_0_557 rfl hx.2 h1 (by omega) ?_
  refine r_clg (pc' := 561) (c := (203, 0)) (a := [.inr (.inr (some 53)), .inl (xs (i + 1)).toInt]) (q := [.inl z]) hM_0 d_0_558 rfl (by decide +kernel) hM_203 rfl rfl rfl (Nat.le_of_ble_eq_true rfl) (Nat.le_of_ble_eq_true rfl) (Or.inr rfl) c2 (Nat.le_refl _) ?_
  show rn fx 101 cr 0 561 [some (.inr (.inr (some 1000))), some (.inr (.inr (some 0))), some (.inr (.inr (some 53))), some (.inl (i : Int))] [.inl z, .inl z] (st0 m2) _
  refine r_ic (pc' := 1331) (pc2 := 564) hM_0 d_0_561 (by decide) rfl (fun _ => ?_) (fun hc => absurd (show am_s z = am_s z from rfl) hc)
  exact hk
theorem lc_12 {fx : am_X0} {L : Nat} {xs : Nat → Int32} {cr : Nat × Nat} {m : am_M} {i : Nat} (hx : LX L xs fx) (hi : i + 6 ≤ L) (hL : L ≤ 3072) (hI : Inv m) (k : ∀ m2, Inv m2 → ∃ S2, rn fx 101 cr 0 1331 [some (.inr (.inr (some 1000))), some (.inr (.inr (some 0))), some (.inr (.inr (some 53))), some (.inl (i : Int))] [] (st0 m2) ([.inl 1], S2)) : ∃ S2, rn fx 101 cr 0 566 [some (.inr (.inr (some 1000))), some (.inr (.inr (some 0))), some (.inr (.inr (some 53))), some (.inl (i : Int))] [] (st0 m) ([.inl 1], S2) := by
  have h1 : am_s ((i : Int) + 1) = ((i + 1 : Nat) : Int) := am_s_id (by omega) (by omega)
  have h2 : am_s ((i : Int) + 2) = ((i + 2 : Nat) : Int) := am_s_id (by omega) (by omega)
  have h3 : am_s ((i : Int) + 3) = ((i + 3 : Nat) : Int) := am_s_id (by omega) (by omega)
  have h4 : am_s ((i : Int) + 4) = ((i + 4 : Nat) : Int) := am_s_id (by omega) (by omega)
  have h5 : am_s ((i : Int) + 5) = ((i + 5 : Nat) : Int) := am_s_id (by omega) (by omega)
  have hpk : PK 62 7 204 6 [.inl (xs (i + 1)).toInt, .inl (xs (i + 2)).toInt] m := P_missed (sv_s _) (sv_s _) hI
  obtain ⟨r1, m1, ⟨v, hv, r2, m2, ⟨hv2, hI2⟩, hr2⟩, hr1⟩ := hpk
  rw [hv] at hr1
  rw [hv2] at hr2
  have c1 := hr1 fx hx.1
  have c2 := hr2 fx hx.1
  obtain ⟨z, hz⟩ := rn_int hM_62 rfl c1
  rw [hz] at c1 c2
  obtain ⟨S2, hk⟩ := k m2 hI2
  refine ⟨S2, ?_⟩
  refine r_ld (pc' := 567) hM_0 d_0_566 rfl rfl ?_
  refine r_ld (pc' := 568) hM_0 d_0_567 rfl rfl ?_
  refine r_ld (pc' := 569) hM_0 d_0_568 rfl rfl ?_
  refine r_k (pc' := 570) (v := .inl 1) hM_0 d_0_569 rfl rfl ?_
  refine r_b (pc' := 571) (z := ((i : Int) + 1)) hM_0 d_0_570 rfl rfl ?_
  refine r_sc (pc' := 572) (j := i + 1) hM_0 d_0_571 rfl hx.2 h1 (by omega) ?_
  refine r_ld (pc' := 573) hM_0 d_0_572 rfl rfl ?_
  refine r_ld (pc' := 574) hM_0 d_0_573 rfl rfl ?_
  refine r_k (pc' := 575) (v := .inl 2) hM_0 d_0_574 rfl rfl ?_
  refine r_b (pc' := 576) (z := ((i : Int) + 2)) hM_0 d_0_575 rfl rfl ?_
  refine r_sc (pc' := 577) (j := i + 2) hM_0 d_0_576 rfl hx.2 h2 (by omega) ?_
  refine r_clg (pc' := 580) (c := (62, 0)) (a := [.inr (.inr (some 0)), .inl (xs (i + 1)).toInt, .inl (xs (i + 2)).toInt]) (q := []) hM_0 d_0_577 rfl (by decide +kernel) hM_62 rfl rfl rfl (Nat.le_of_ble_eq_true rfl) (Nat.le_of_ble_eq_true rfl) (Or.inr rfl) c1 (Nat.le_refl _) ?_
  show rn fx 101 cr 0 580 [some (.inr (.inr (some 1000))), some (.inr (.inr (some 0))), some (.inr (.inr (some 53))), some (.inl (i : Int))] [.inl z] (st0 m1) _
  refine r_ld (pc' := 581) hM_0 d_0_580 rfl rfl ?_
  refine r_ld (pc' := 582) hM_0 d_0_581 rfl rfl ?_
  refine r_ld (pc' := 583) hM_0 d_0_582 rfl rfl ?_
  refine r_k (pc' := 584) (v := .inl 1) hM_0 d_0_583 rfl rfl ?_
  refine r_b (pc' := 585) (z := ((i : Int) + 1)) hM_0 d_0_584 rfl rfl ?_
  refine r_sc (pc' := 586) (j := i + 1) hM_0 d_0_585 rfl hx.2 h1 (by omega) ?_
  refine r_ld (pc' := 587) hM_0 d_0_586 rfl rfl ?_
  refine r_ld (pc' := 588) hM_0 d_0_587 rfl rfl ?_
  refine r_k (pc' := 589) (v := .inl 2) hM_0 d_0_588 rfl rfl ?_
  refine r_b (pc' := 590) (z := ((i : Int) + 2)) hM_0 d_0_589 rfl rfl ?_
  refine r_sc (pc' := 591) (j := i + 2) hM_0 d_0_590 rfl hx.2 h2 (by omega) ?_
  refine r_clg (pc' := 594) (c := (204, 0)) (a := [.inr (.inr (some 53)), .inl (xs (i + 1)).toInt, .inl (xs (i + 2)).toInt]) (q := [.inl z]) hM_0 d_0_591 rfl (by decide +kernel) hM_204 rfl rfl rfl (Nat.le_of_ble_eq_true rfl) (Nat.le_of_ble_eq_true rfl) (Or.inr rfl) c2 (Nat.le_refl _) ?_
  show rn fx 101 cr 0 594 [some (.inr (.inr (some 1000))), some (.inr (.inr (some 0))), some (.inr (.inr (some 53))), some (.inl (i : Int))] [.inl z, .inl z] (st0 m2) _
  refine r_ic (pc' := 1331) (pc2 := 597) hM_0 d_0_594 (by decide) rfl (fun _ => ?_) (fun hc => absurd (show am_s z = am_s z from rfl) hc)
  exact hk
theorem lc_13 {fx : am_X0} {L : Nat} {xs : Nat → Int32} {cr : Nat × Nat} {m : am_M} {i : Nat} (hx : LX L xs fx) (hi : i + 6 ≤ L) (hL : L ≤ 3072) (hI : Inv m) (k : ∀ m2, Inv m2 → ∃ S2, rn fx 101 cr 0 1331 [some (.inr (.inr (some 1000))), some (.inr (.inr (some 0))), some (.inr (.inr (some 53))), some (.inl (i : Int))] [] (st0 m2) ([.inl 1], S2)) : ∃ S2, rn fx 101 cr 0 599 [some (.inr (.inr (some 1000))), some (.inr (.inr (some 0))), some (.inr (.inr (some 53))), some (.inl (i : Int))] [] (st0 m) ([.inl 1], S2) := by
  have h1 : am_s ((i : Int) + 1) = ((i + 1 : Nat) : Int) := am_s_id (by omega) (by omega)
  have h2 : am_s ((i : Int) + 2) = ((i + 2 : Nat) : Int) := am_s_id (by omega) (by omega)
  have h3 : am_s ((i : Int) + 3) = ((i + 3 : Nat) : Int) := am_s_id (by omega) (by omega)
  have h4 : am_s ((i : Int) + 4) = ((i + 4 : Nat) : Int) := am_s_id (by omega) (by omega)
  have h5 : am_s ((i : Int) + 5) = ((i + 5 : Nat) : Int) := am_s_id (by omega) (by omega)
  have hpk : PK 65 5 205 5 [.inl (xs (i + 1)).toInt, .inl (xs (i + 2)).toInt] m := P_leak (sv_s _) (sv_s _) hI
  obtain ⟨r1, m1, ⟨v, hv, r2, m2, ⟨hv2, hI2⟩, hr2⟩, hr1⟩ := hpk
  rw [hv] at hr1
  rw [hv2] at hr2
  have c1 := hr1 fx hx.1
  have c2 := hr2 fx hx.1
  obtain ⟨z, hz⟩ := rn_int hM_65 rfl c1
  rw [hz] at c1 c2
  obtain ⟨S2, hk⟩ := k m2 hI2
  refine ⟨S2, ?_⟩
  refine r_ld (pc' := 600) hM_0 d_0_599 rfl rfl ?_
  refine r_ld (pc' := 601) hM_0 d_0_600 rfl rfl ?_
  refine r_ld (pc' := 602) hM_0 d_0_601 rfl rfl ?_
  refine r_k (pc' := 603) (v := .inl 1) hM_0 d_0_602 rfl rfl ?_
  refine r_b (pc' := 604) (z := ((i : Int) + 1)) hM_0 d_0_603 rfl rfl ?_
  refine r_sc (pc' := 605) (j := i + 1) hM_0 d_0_604 rfl hx.2 h1 (by omega) ?_
  refine r_ld (pc' := 606) hM_0 d_0_605 rfl rfl ?_
  refine r_ld (pc' := 607) hM_0 d_0_606 rfl rfl ?_
  refine r_k (pc' := 608) (v := .inl 2) hM_0 d_0_607 rfl rfl ?_
  refine r_b (pc' := 609) (z := ((i : Int) + 2)) hM_0 d_0_608 rfl rfl ?_
  refine r_sc (pc' := 610) (j := i + 2) hM_0 d_0_609 rfl hx.2 h2 (by omega) ?_
  refine r_clg (pc' := 613) (c := (65, 0)) (a := [.inr (.inr (some 0)), .inl (xs (i + 1)).toInt, .inl (xs (i + 2)).toInt]) (q := []) hM_0 d_0_610 rfl (by decide +kernel) hM_65 rfl rfl rfl (Nat.le_of_ble_eq_true rfl) (Nat.le_of_ble_eq_true rfl) (Or.inr rfl) c1 (Nat.le_refl _) ?_
  show rn fx 101 cr 0 613 [some (.inr (.inr (some 1000))), some (.inr (.inr (some 0))), some (.inr (.inr (some 53))), some (.inl (i : Int))] [.inl z] (st0 m1) _
  refine r_ld (pc' := 614) hM_0 d_0_613 rfl rfl ?_
  refine r_ld (pc' := 615) hM_0 d_0_614 rfl rfl ?_
  refine r_ld (pc' := 616) hM_0 d_0_615 rfl rfl ?_
  refine r_k (pc' := 617) (v := .inl 1) hM_0 d_0_616 rfl rfl ?_
  refine r_b (pc' := 618) (z := ((i : Int) + 1)) hM_0 d_0_617 rfl rfl ?_
  refine r_sc (pc' := 619) (j := i + 1) hM_0 d_0_618 rfl hx.2 h1 (by omega) ?_
  refine r_ld (pc' := 620) hM_0 d_0_619 rfl rfl ?_
  refine r_ld (pc' := 621) hM_0 d_0_620 rfl rfl ?_
  refine r_k (pc' := 622) (v := .inl 2) hM_0 d_0_621 rfl rfl ?_
  refine r_b (pc' := 623) (z := ((i : Int) + 2)) hM_0 d_0_622 rfl rfl ?_
  refine r_sc (pc' := 624) (j := i + 2) hM_0 d_0_623 rfl hx.2 h2 (by omega) ?_
  refine r_clg (pc' := 627) (c := (205, 0)) (a := [.inr (.inr (some 53)), .inl (xs (i + 1)).toInt, .inl (xs (i + 2)).toInt]) (q := [.inl z]) hM_0 d_0_624 rfl (by decide +kernel) hM_205 rfl rfl rfl (Nat.le_of_ble_eq_true rfl) (Nat.le_of_ble_eq_true rfl) (Or.inr rfl) c2 (Nat.le_refl _) ?_
  show rn fx 101 cr 0 627 [some (.inr (.inr (some 1000))), some (.inr (.inr (some 0))), some (.inr (.inr (some 53))), some (.inl (i : Int))] [.inl z, .inl z] (st0 m2) _
  refine r_ic (pc' := 1331) (pc2 := 630) hM_0 d_0_627 (by decide) rfl (fun _ => ?_) (fun hc => absurd (show am_s z = am_s z from rfl) hc)
  exact hk
theorem lc_14 {fx : am_X0} {L : Nat} {xs : Nat → Int32} {cr : Nat × Nat} {m : am_M} {i : Nat} (hx : LX L xs fx) (hi : i + 6 ≤ L) (hL : L ≤ 3072) (hI : Inv m) (k : ∀ m2, Inv m2 → ∃ S2, rn fx 101 cr 0 1331 [some (.inr (.inr (some 1000))), some (.inr (.inr (some 0))), some (.inr (.inr (some 53))), some (.inl (i : Int))] [] (st0 m2) ([.inl 1], S2)) : ∃ S2, rn fx 101 cr 0 632 [some (.inr (.inr (some 1000))), some (.inr (.inr (some 0))), some (.inr (.inr (some 53))), some (.inl (i : Int))] [] (st0 m) ([.inl 1], S2) := by
  have h1 : am_s ((i : Int) + 1) = ((i + 1 : Nat) : Int) := am_s_id (by omega) (by omega)
  have h2 : am_s ((i : Int) + 2) = ((i + 2 : Nat) : Int) := am_s_id (by omega) (by omega)
  have h3 : am_s ((i : Int) + 3) = ((i + 3 : Nat) : Int) := am_s_id (by omega) (by omega)
  have h4 : am_s ((i : Int) + 4) = ((i + 4 : Nat) : Int) := am_s_id (by omega) (by omega)
  have h5 : am_s ((i : Int) + 5) = ((i + 5 : Nat) : Int) := am_s_id (by omega) (by omega)
  have hpk : PK 66 2 207 2 [.inl (xs (i + 1)).toInt] m := PK_of (P_tone (sv_s _) hI)
  obtain ⟨r1, m1, ⟨v, hv, r2, m2, ⟨hv2, hI2⟩, hr2⟩, hr1⟩ := hpk
  rw [hv] at hr1
  rw [hv2] at hr2
  have c1 := hr1 fx hx.1
  have c2 := hr2 fx hx.1
  obtain ⟨z, hz⟩ := rn_int hM_66 rfl c1
  rw [hz] at c1 c2
  obtain ⟨S2, hk⟩ := k m2 hI2
  refine ⟨S2, ?_⟩
  refine r_ld (pc' := 633) hM_0 d_0_632 rfl rfl ?_
  refine r_ld (pc' := 634) hM_0 d_0_633 rfl rfl ?_
  refine r_ld (pc' := 635) hM_0 d_0_634 rfl rfl ?_
  refine r_k (pc' := 636) (v := .inl 1) hM_0 d_0_635 rfl rfl ?_
  refine r_b (pc' := 637) (z := ((i : Int) + 1)) hM_0 d_0_636 rfl rfl ?_
  refine r_sc (pc' := 638) (j := i + 1) hM_0 d_0_637 rfl hx.2 h1 (by omega) ?_
  refine r_clg (pc' := 641) (c := (66, 0)) (a := [.inr (.inr (some 0)), .inl (xs (i + 1)).toInt]) (q := []) hM_0 d_0_638 rfl (by decide +kernel) hM_66 rfl rfl rfl (Nat.le_of_ble_eq_true rfl) (Nat.le_of_ble_eq_true rfl) (Or.inr rfl) c1 (Nat.le_refl _) ?_
  show rn fx 101 cr 0 641 [some (.inr (.inr (some 1000))), some (.inr (.inr (some 0))), some (.inr (.inr (some 53))), some (.inl (i : Int))] [.inl z] (st0 m1) _
  refine r_ld (pc' := 642) hM_0 d_0_641 rfl rfl ?_
  refine r_ld (pc' := 643) hM_0 d_0_642 rfl rfl ?_
  refine r_ld (pc' := 644) hM_0 d_0_643 rfl rfl ?_
  refine r_k (pc' := 645) (v := .inl 1) hM_0 d_0_644 rfl rfl ?_
  refine r_b (pc' := 646) (z := ((i : Int) + 1)) hM_0 d_0_645 rfl rfl ?_
  refine r_sc (pc' := 647) (j := i + 1) hM_0 d_0_646 rfl hx.2 h1 (by omega) ?_
  refine r_clg (pc' := 650) (c := (207, 0)) (a := [.inr (.inr (some 53)), .inl (xs (i + 1)).toInt]) (q := [.inl z]) hM_0 d_0_647 rfl (by decide +kernel) hM_207 rfl rfl rfl (Nat.le_of_ble_eq_true rfl) (Nat.le_of_ble_eq_true rfl) (Or.inr rfl) c2 (Nat.le_refl _) ?_
  show rn fx 101 cr 0 650 [some (.inr (.inr (some 1000))), some (.inr (.inr (some 0))), some (.inr (.inr (some 53))), some (.inl (i : Int))] [.inl z, .inl z] (st0 m2) _
  refine r_ic (pc' := 1331) (pc2 := 653) hM_0 d_0_650 (by decide) rfl (fun _ => ?_) (fun hc => absurd (show am_s z = am_s z from rfl) hc)
  exact hk
theorem lc_15 {fx : am_X0} {L : Nat} {xs : Nat → Int32} {cr : Nat × Nat} {m : am_M} {i : Nat} (hx : LX L xs fx) (hi : i + 6 ≤ L) (hL : L ≤ 3072) (hI : Inv m) (k : ∀ m2, Inv m2 → ∃ S2, rn fx 101 cr 0 1331 [some (.inr (.inr (some 1000))), some (.inr (.inr (some 0))), some (.inr (.inr (some 53))), some (.inl (i : Int))] [] (st0 m2) ([.inl 1], S2)) : ∃ S2, rn fx 101 cr 0 655 [some (.inr (.inr (some 1000))), some (.inr (.inr (some 0))), some (.inr (.inr (some 53))), some (.inl (i : Int))] [] (st0 m) ([.inl 1], S2) := by
  have h1 : am_s ((i : Int) + 1) = ((i + 1 : Nat) : Int) := am_s_id (by omega) (by omega)
  have h2 : am_s ((i : Int) + 2) = ((i + 2 : Nat) : Int) := am_s_id (by omega) (by omega)
  have h3 : am_s ((i : Int) + 3) = ((i + 3 : Nat) : Int) := am_s_id (by omega) (by omega)
  have h4 : am_s ((i : Int) + 4) = ((i + 4 : Nat) : Int) := am_s_id (by omega) (by omega)
  have h5 : am_s ((i : Int) + 5) = ((i + 5 : Nat) : Int) := am_s_id (by omega) (by omega)
  have hpk : PK 70 2 209 2 [.inl (xs (i + 1)).toInt] m := PK_of (P_knock (sv_s _) hI)
  obtain ⟨r1, m1, ⟨v, hv, r2, m2, ⟨hv2, hI2⟩, hr2⟩, hr1⟩ := hpk
  rw [hv] at hr1
  rw [hv2] at hr2
  have c1 := hr1 fx hx.1
  have c2 := hr2 fx hx.1
  obtain ⟨z, hz⟩ := rn_int hM_70 rfl c1
  rw [hz] at c1 c2
  obtain ⟨S2, hk⟩ := k m2 hI2
  refine ⟨S2, ?_⟩
  refine r_ld (pc' := 656) hM_0 d_0_655 rfl rfl ?_
  refine r_ld (pc' := 657) hM_0 d_0_656 rfl rfl ?_
  refine r_ld (pc' := 658) hM_0 d_0_657 rfl rfl ?_
  refine r_k (pc' := 659) (v := .inl 1) hM_0 d_0_658 rfl rfl ?_
  refine r_b (pc' := 660) (z := ((i : Int) + 1)) hM_0 d_0_659 rfl rfl ?_
  refine r_sc (pc' := 661) (j := i + 1) hM_0 d_0_660 rfl hx.2 h1 (by omega) ?_
  refine r_clg (pc' := 664) (c := (70, 0)) (a := [.inr (.inr (some 0)), .inl (xs (i + 1)).toInt]) (q := []) hM_0 d_0_661 rfl (by decide +kernel) hM_70 rfl rfl rfl (Nat.le_of_ble_eq_true rfl) (Nat.le_of_ble_eq_true rfl) (Or.inr rfl) c1 (Nat.le_refl _) ?_
  show rn fx 101 cr 0 664 [some (.inr (.inr (some 1000))), some (.inr (.inr (some 0))), some (.inr (.inr (some 53))), some (.inl (i : Int))] [.inl z] (st0 m1) _
  refine r_ld (pc' := 665) hM_0 d_0_664 rfl rfl ?_
  refine r_ld (pc' := 666) hM_0 d_0_665 rfl rfl ?_
  refine r_ld (pc' := 667) hM_0 d_0_666 rfl rfl ?_
  refine r_k (pc' := 668) (v := .inl 1) hM_0 d_0_667 rfl rfl ?_
  refine r_b (pc' := 669) (z := ((i : Int) + 1)) hM_0 d_0_668 rfl rfl ?_
  refine r_sc (pc' := 670) (j := i + 1) hM_0 d_0_669 rfl hx.2 h1 (by omega) ?_
  refine r_clg (pc' := 673) (c := (209, 0)) (a := [.inr (.inr (some 53)), .inl (xs (i + 1)).toInt]) (q := [.inl z]) hM_0 d_0_670 rfl (by decide +kernel) hM_209 rfl rfl rfl (Nat.le_of_ble_eq_true rfl) (Nat.le_of_ble_eq_true rfl) (Or.inr rfl) c2 (Nat.le_refl _) ?_
  show rn fx 101 cr 0 673 [some (.inr (.inr (some 1000))), some (.inr (.inr (some 0))), some (.inr (.inr (some 53))), some (.inl (i : Int))] [.inl z, .inl z] (st0 m2) _
  refine r_ic (pc' := 1331) (pc2 := 676) hM_0 d_0_673 (by decide) rfl (fun _ => ?_) (fun hc => absurd (show am_s z = am_s z from rfl) hc)
  exact hk
theorem lc_16 {fx : am_X0} {L : Nat} {xs : Nat → Int32} {cr : Nat × Nat} {m : am_M} {i : Nat} (hx : LX L xs fx) (hi : i + 6 ≤ L) (hL : L ≤ 3072) (hI : Inv m) (k : ∀ m2, Inv m2 → ∃ S2, rn fx 101 cr 0 1331 [some (.inr (.inr (some 1000))), some (.inr (.inr (some 0))), some (.inr (.inr (some 53))), some (.inl (i : Int))] [] (st0 m2) ([.inl 1], S2)) : ∃ S2, rn fx 101 cr 0 678 [some (.inr (.inr (some 1000))), some (.inr (.inr (some 0))), some (.inr (.inr (some 53))), some (.inl (i : Int))] [] (st0 m) ([.inl 1], S2) := by
  have h1 : am_s ((i : Int) + 1) = ((i + 1 : Nat) : Int) := am_s_id (by omega) (by omega)
  have h2 : am_s ((i : Int) + 2) = ((i + 2 : Nat) : Int) := am_s_id (by omega) (by omega)
  have h3 : am_s ((i : Int) + 3) = ((i + 3 : Nat) : Int) := am_s_id (by omega) (by omega)
  have h4 : am_s ((i : Int) + 4) = ((i + 4 : Nat) : Int) := am_s_id (by omega) (by omega)
  have h5 : am_s ((i : Int) + 5) = ((i + 5 : Nat) : Int) := am_s_id (by omega) (by omega)
  have hpk : PK 76 3 211 3 [.inl (xs (i + 1)).toInt, .inl (xs (i + 2)).toInt] m := PK_of (P_heard (sv_s _) (sv_s _) hI)
  obtain ⟨r1, m1, ⟨v, hv, r2, m2, ⟨hv2, hI2⟩, hr2⟩, hr1⟩ := hpk
  rw [hv] at hr1
  rw [hv2] at hr2
  have c1 := hr1 fx hx.1
  have c2 := hr2 fx hx.1
  obtain ⟨z, hz⟩ := rn_int hM_76 rfl c1
  rw [hz] at c1 c2
  obtain ⟨S2, hk⟩ := k m2 hI2
  refine ⟨S2, ?_⟩
  refine r_ld (pc' := 679) hM_0 d_0_678 rfl rfl ?_
  refine r_ld (pc' := 680) hM_0 d_0_679 rfl rfl ?_
  refine r_ld (pc' := 681) hM_0 d_0_680 rfl rfl ?_
  refine r_k (pc' := 682) (v := .inl 1) hM_0 d_0_681 rfl rfl ?_
  refine r_b (pc' := 683) (z := ((i : Int) + 1)) hM_0 d_0_682 rfl rfl ?_
  refine r_sc (pc' := 684) (j := i + 1) hM_0 d_0_683 rfl hx.2 h1 (by omega) ?_
  refine r_ld (pc' := 685) hM_0 d_0_684 rfl rfl ?_
  refine r_ld (pc' := 686) hM_0 d_0_685 rfl rfl ?_
  refine r_k (pc' := 687) (v := .inl 2) hM_0 d_0_686 rfl rfl ?_
  refine r_b (pc' := 688) (z := ((i : Int) + 2)) hM_0 d_0_687 rfl rfl ?_
  refine r_sc (pc' := 689) (j := i + 2) hM_0 d_0_688 rfl hx.2 h2 (by omega) ?_
  refine r_clg (pc' := 692) (c := (76, 0)) (a := [.inr (.inr (some 0)), .inl (xs (i + 1)).toInt, .inl (xs (i + 2)).toInt]) (q := []) hM_0 d_0_689 rfl (by decide +kernel) hM_76 rfl rfl rfl (Nat.le_of_ble_eq_true rfl) (Nat.le_of_ble_eq_true rfl) (Or.inr rfl) c1 (Nat.le_refl _) ?_
  show rn fx 101 cr 0 692 [some (.inr (.inr (some 1000))), some (.inr (.inr (some 0))), some (.inr (.inr (some 53))), some (.inl (i : Int))] [.inl z] (st0 m1) _
  refine r_ld (pc' := 693) hM_0 d_0_692 rfl rfl ?_
  refine r_ld (pc' := 694) hM_0 d_0_693 rfl rfl ?_
  refine r_ld (pc' := 695) hM_0 d_0_694 rfl rfl ?_
  refine r_k (pc' := 696) (v := .inl 1) hM_0 d_0_695 rfl rfl ?_
  refine r_b (pc' := 697) (z := ((i : Int) + 1)) hM_0 d_0_696 rfl rfl ?_
  refine r_sc (pc' := 698) (j := i + 1) hM_0 d_0_697 rfl hx.2 h1 (by omega) ?_
  refine r_ld (pc' := 699) hM_0 d_0_698 rfl rfl ?_
  refine r_ld (pc' := 700) hM_0 d_0_699 rfl rfl ?_
  refine r_k (pc' := 701) (v := .inl 2) hM_0 d_0_700 rfl rfl ?_
  refine r_b (pc' := 702) (z := ((i : Int) + 2)) hM_0 d_0_701 rfl rfl ?_
  refine r_sc (pc' := 703) (j := i + 2) hM_0 d_0_702 rfl hx.2 h2 (by omega) ?_
  refine r_clg (pc' := 706) (c := (211, 0)) (a := [.inr (.inr (some 53)), .inl (xs (i + 1)).toInt, .inl (xs (i + 2)).toInt]) (q := [.inl z]) hM_0 d_0_703 rfl (by decide +kernel) hM_211 rfl rfl rfl (Nat.le_of_ble_eq_true rfl) (Nat.le_of_ble_eq_true rfl) (Or.inr rfl) c2 (Nat.le_refl _) ?_
  show rn fx 101 cr 0 706 [some (.inr (.inr (some 1000))), some (.inr (.inr (some 0))), some (.inr (.inr (some 53))), some (.inl (i : Int))] [.inl z, .inl z] (st0 m2) _
  refine r_ic (pc' := 1331) (pc2 := 709) hM_0 d_0_706 (by decide) rfl (fun _ => ?_) (fun hc => absurd (show am_s z = am_s z from rfl) hc)
  exact hk
theorem lc_17 {fx : am_X0} {L : Nat} {xs : Nat → Int32} {cr : Nat × Nat} {m : am_M} {i : Nat} (hx : LX L xs fx) (hi : i + 6 ≤ L) (hL : L ≤ 3072) (hI : Inv m) (k : ∀ m2, Inv m2 → ∃ S2, rn fx 101 cr 0 1331 [some (.inr (.inr (some 1000))), some (.inr (.inr (some 0))), some (.inr (.inr (some 53))), some (.inl (i : Int))] [] (st0 m2) ([.inl 1], S2)) : ∃ S2, rn fx 101 cr 0 711 [some (.inr (.inr (some 1000))), some (.inr (.inr (some 0))), some (.inr (.inr (some 53))), some (.inl (i : Int))] [] (st0 m) ([.inl 1], S2) := by
  have h1 : am_s ((i : Int) + 1) = ((i + 1 : Nat) : Int) := am_s_id (by omega) (by omega)
  have h2 : am_s ((i : Int) + 2) = ((i + 2 : Nat) : Int) := am_s_id (by omega) (by omega)
  have h3 : am_s ((i : Int) + 3) = ((i + 3 : Nat) : Int) := am_s_id (by omega) (by omega)
  have h4 : am_s ((i : Int) + 4) = ((i + 4 : Nat) : Int) := am_s_id (by omega) (by omega)
  have h5 : am_s ((i : Int) + 5) = ((i + 5 : Nat) : Int) := am_s_id (by omega) (by omega)
  have hpk : PK 79 3 212 3 [.inl (xs (i + 1)).toInt] m := P_fit (sv_s _) hI
  obtain ⟨r1, m1, ⟨v, hv, r2, m2, ⟨hv2, hI2⟩, hr2⟩, hr1⟩ := hpk
  rw [hv] at hr1
  rw [hv2] at hr2
  have c1 := hr1 fx hx.1
  have c2 := hr2 fx hx.1
  obtain ⟨z, hz⟩ := rn_int hM_79 rfl c1
  rw [hz] at c1 c2
  obtain ⟨S2, hk⟩ := k m2 hI2
  refine ⟨S2, ?_⟩
  refine r_ld (pc' := 712) hM_0 d_0_711 rfl rfl ?_
  refine r_ld (pc' := 713) hM_0 d_0_712 rfl rfl ?_
  refine r_ld (pc' := 714) hM_0 d_0_713 rfl rfl ?_
  refine r_k (pc' := 715) (v := .inl 1) hM_0 d_0_714 rfl rfl ?_
  refine r_b (pc' := 716) (z := ((i : Int) + 1)) hM_0 d_0_715 rfl rfl ?_
  refine r_sc (pc' := 717) (j := i + 1) hM_0 d_0_716 rfl hx.2 h1 (by omega) ?_
  refine r_clg (pc' := 720) (c := (79, 0)) (a := [.inr (.inr (some 0)), .inl (xs (i + 1)).toInt]) (q := []) hM_0 d_0_717 rfl (by decide +kernel) hM_79 rfl rfl rfl (Nat.le_of_ble_eq_true rfl) (Nat.le_of_ble_eq_true rfl) (Or.inr rfl) c1 (Nat.le_refl _) ?_
  show rn fx 101 cr 0 720 [some (.inr (.inr (some 1000))), some (.inr (.inr (some 0))), some (.inr (.inr (some 53))), some (.inl (i : Int))] [.inl z] (st0 m1) _
  refine r_ld (pc' := 721) hM_0 d_0_720 rfl rfl ?_
  refine r_ld (pc' := 722) hM_0 d_0_721 rfl rfl ?_
  refine r_ld (pc' := 723) hM_0 d_0_722 rfl rfl ?_
  refine r_k (pc' := 724) (v := .inl 1) hM_0 d_0_723 rfl rfl ?_
  refine r_b (pc' := 725) (z := ((i : Int) + 1)) hM_0 d_0_724 rfl rfl ?_
  refine r_sc (pc' := 726) (j := i + 1) hM_0 d_0_725 rfl hx.2 h1 (by omega) ?_
  refine r_clg (pc' := 729) (c := (212, 0)) (a := [.inr (.inr (some 53)), .inl (xs (i + 1)).toInt]) (q := [.inl z]) hM_0 d_0_726 rfl (by decide +kernel) hM_212 rfl rfl rfl (Nat.le_of_ble_eq_true rfl) (Nat.le_of_ble_eq_true rfl) (Or.inr rfl) c2 (Nat.le_refl _) ?_
  show rn fx 101 cr 0 729 [some (.inr (.inr (some 1000))), some (.inr (.inr (some 0))), some (.inr (.inr (some 53))), some (.inl (i : Int))] [.inl z, .inl z] (st0 m2) _
  refine r_ic (pc' := 1331) (pc2 := 732) hM_0 d_0_729 (by decide) rfl (fun _ => ?_) (fun hc => absurd (show am_s z = am_s z from rfl) hc)
  exact hk
theorem lc_18 {fx : am_X0} {L : Nat} {xs : Nat → Int32} {cr : Nat × Nat} {m : am_M} {i : Nat} (hx : LX L xs fx) (hi : i + 6 ≤ L) (hL : L ≤ 3072) (hI : Inv m) (k : ∀ m2, Inv m2 → ∃ S2, rn fx 101 cr 0 1331 [some (.inr (.inr (some 1000))), some (.inr (.inr (some 0))), some (.inr (.inr (some 53))), some (.inl (i : Int))] [] (st0 m2) ([.inl 1], S2)) : ∃ S2, rn fx 101 cr 0 734 [some (.inr (.inr (some 1000))), some (.inr (.inr (some 0))), some (.inr (.inr (some 53))), some (.inl (i : Int))] [] (st0 m) ([.inl 1], S2) := by
  have h1 : am_s ((i : Int) + 1) = ((i + 1 : Nat) : Int) := am_s_id (by omega) (by omega)
  have h2 : am_s ((i : Int) + 2) = ((i + 2 : Nat) : Int) := am_s_id (by omega) (by omega)
  have h3 : am_s ((i : Int) + 3) = ((i + 3 : Nat) : Int) := am_s_id (by omega) (by omega)
  have h4 : am_s ((i : Int) + 4) = ((i + 4 : Nat) : Int) := am_s_id (by omega) (by omega)
  have h5 : am_s ((i : Int) + 5) = ((i + 5 : Nat) : Int) := am_s_id (by omega) (by omega)
  have hpk : PK 89 4 215 4 [.inl (xs (i + 1)).toInt, .inl (xs (i + 2)).toInt] m := P_fitting (sv_s _) (sv_s _) hI
  obtain ⟨r1, m1, ⟨v, hv, r2, m2, ⟨hv2, hI2⟩, hr2⟩, hr1⟩ := hpk
  rw [hv] at hr1
  rw [hv2] at hr2
  have c1 := hr1 fx hx.1
  have c2 := hr2 fx hx.1
  obtain ⟨z, hz⟩ := rn_int hM_89 rfl c1
  rw [hz] at c1 c2
  obtain ⟨S2, hk⟩ := k m2 hI2
  refine ⟨S2, ?_⟩
  refine r_ld (pc' := 735) hM_0 d_0_734 rfl rfl ?_
  refine r_ld (pc' := 736) hM_0 d_0_735 rfl rfl ?_
  refine r_ld (pc' := 737) hM_0 d_0_736 rfl rfl ?_
  refine r_k (pc' := 738) (v := .inl 1) hM_0 d_0_737 rfl rfl ?_
  refine r_b (pc' := 739) (z := ((i : Int) + 1)) hM_0 d_0_738 rfl rfl ?_
  refine r_sc (pc' := 740) (j := i + 1) hM_0 d_0_739 rfl hx.2 h1 (by omega) ?_
  refine r_ld (pc' := 741) hM_0 d_0_740 rfl rfl ?_
  refine r_ld (pc' := 742) hM_0 d_0_741 rfl rfl ?_
  refine r_k (pc' := 743) (v := .inl 2) hM_0 d_0_742 rfl rfl ?_
  refine r_b (pc' := 744) (z := ((i : Int) + 2)) hM_0 d_0_743 rfl rfl ?_
  refine r_sc (pc' := 745) (j := i + 2) hM_0 d_0_744 rfl hx.2 h2 (by omega) ?_
  refine r_clg (pc' := 748) (c := (89, 0)) (a := [.inr (.inr (some 0)), .inl (xs (i + 1)).toInt, .inl (xs (i + 2)).toInt]) (q := []) hM_0 d_0_745 rfl (by decide +kernel) hM_89 rfl rfl rfl (Nat.le_of_ble_eq_true rfl) (Nat.le_of_ble_eq_true rfl) (Or.inr rfl) c1 (Nat.le_refl _) ?_
  show rn fx 101 cr 0 748 [some (.inr (.inr (some 1000))), some (.inr (.inr (some 0))), some (.inr (.inr (some 53))), some (.inl (i : Int))] [.inl z] (st0 m1) _
  refine r_ld (pc' := 749) hM_0 d_0_748 rfl rfl ?_
  refine r_ld (pc' := 750) hM_0 d_0_749 rfl rfl ?_
  refine r_ld (pc' := 751) hM_0 d_0_750 rfl rfl ?_
  refine r_k (pc' := 752) (v := .inl 1) hM_0 d_0_751 rfl rfl ?_
  refine r_b (pc' := 753) (z := ((i : Int) + 1)) hM_0 d_0_752 rfl rfl ?_
  refine r_sc (pc' := 754) (j := i + 1) hM_0 d_0_753 rfl hx.2 h1 (by omega) ?_
  refine r_ld (pc' := 755) hM_0 d_0_754 rfl rfl ?_
  refine r_ld (pc' := 756) hM_0 d_0_755 rfl rfl ?_
  refine r_k (pc' := 757) (v := .inl 2) hM_0 d_0_756 rfl rfl ?_
  refine r_b (pc' := 758) (z := ((i : Int) + 2)) hM_0 d_0_757 rfl rfl ?_
  refine r_sc (pc' := 759) (j := i + 2) hM_0 d_0_758 rfl hx.2 h2 (by omega) ?_
  refine r_clg (pc' := 762) (c := (215, 0)) (a := [.inr (.inr (some 53)), .inl (xs (i + 1)).toInt, .inl (xs (i + 2)).toInt]) (q := [.inl z]) hM_0 d_0_759 rfl (by decide +kernel) hM_215 rfl rfl rfl (Nat.le_of_ble_eq_true rfl) (Nat.le_of_ble_eq_true rfl) (Or.inr rfl) c2 (Nat.le_refl _) ?_
  show rn fx 101 cr 0 762 [some (.inr (.inr (some 1000))), some (.inr (.inr (some 0))), some (.inr (.inr (some 53))), some (.inl (i : Int))] [.inl z, .inl z] (st0 m2) _
  refine r_ic (pc' := 1331) (pc2 := 765) hM_0 d_0_762 (by decide) rfl (fun _ => ?_) (fun hc => absurd (show am_s z = am_s z from rfl) hc)
  exact hk
theorem lc_19 {fx : am_X0} {L : Nat} {xs : Nat → Int32} {cr : Nat × Nat} {m : am_M} {i : Nat} (hx : LX L xs fx) (hi : i + 6 ≤ L) (hL : L ≤ 3072) (hI : Inv m) (k : ∀ m2, Inv m2 → ∃ S2, rn fx 101 cr 0 1331 [some (.inr (.inr (some 1000))), some (.inr (.inr (some 0))), some (.inr (.inr (some 53))), some (.inl (i : Int))] [] (st0 m2) ([.inl 1], S2)) : ∃ S2, rn fx 101 cr 0 767 [some (.inr (.inr (some 1000))), some (.inr (.inr (some 0))), some (.inr (.inr (some 53))), some (.inl (i : Int))] [] (st0 m) ([.inl 1], S2) := by
  have h1 : am_s ((i : Int) + 1) = ((i + 1 : Nat) : Int) := am_s_id (by omega) (by omega)
  have h2 : am_s ((i : Int) + 2) = ((i + 2 : Nat) : Int) := am_s_id (by omega) (by omega)
  have h3 : am_s ((i : Int) + 3) = ((i + 3 : Nat) : Int) := am_s_id (by omega) (by omega)
  have h4 : am_s ((i : Int) + 4) = ((i + 4 : Nat) : Int) := am_s_id (by omega) (by omega)
  have h5 : am_s ((i : Int) + 5) = ((i + 5 : Nat) : Int) := am_s_id (by omega) (by omega)
  by_cases hb : (xs (i + 2)).toInt = 0
  · have hpk : PK 91 4 216 6 [.inl (xs (i + 1)).toInt, .inl 0] m := P_sure (sv_s _) hI
    obtain ⟨r1, m1, ⟨v, hv, r2, m2, ⟨hv2, hI2⟩, hr2⟩, hr1⟩ := hpk
    rw [hv] at hr1
    rw [hv2] at hr2
    have c1 := hr1 fx hx.1
    have c2 := hr2 fx hx.1
    obtain ⟨z, hz⟩ := rn_int hM_91 rfl c1
    rw [hz] at c1 c2
    obtain ⟨S2, hk⟩ := k m2 hI2
    refine ⟨S2, ?_⟩
    refine r_ld (pc' := 768) hM_0 d_0_767 rfl rfl ?_
    refine r_ld (pc' := 769) hM_0 d_0_768 rfl rfl ?_
    refine r_ld (pc' := 770) hM_0 d_0_769 rfl rfl ?_
    refine r_k (pc' := 771) (v := .inl 1) hM_0 d_0_770 rfl rfl ?_
    refine r_b (pc' := 772) (z := ((i : Int) + 1)) hM_0 d_0_771 rfl rfl ?_
    refine r_sc (pc' := 773) (j := i + 1) hM_0 d_0_772 rfl hx.2 h1 (by omega) ?_
    refine r_ld (pc' := 774) hM_0 d_0_773 rfl rfl ?_
    refine r_ld (pc' := 775) hM_0 d_0_774 rfl rfl ?_
    refine r_k (pc' := 776) (v := .inl 2) hM_0 d_0_775 rfl rfl ?_
    refine r_b (pc' := 777) (z := ((i : Int) + 2)) hM_0 d_0_776 rfl rfl ?_
    refine r_sc (pc' := 778) (j := i + 2) hM_0 d_0_777 rfl hx.2 h2 (by omega) ?_
    refine r_if (pc' := 785) (pc2 := 781) hM_0 d_0_778 (by decide) rfl (fun _ => ?_) (fun hc => absurd (show am_s (xs (i + 2)).toInt = 0 by rw [sv_s]; exact hb) hc)
    refine r_k (pc' := 786) (v := .inl 0) hM_0 d_0_785 rfl rfl ?_
    refine r_clg (pc' := 789) (c := (91, 0)) (a := [.inr (.inr (some 0)), .inl (xs (i + 1)).toInt, .inl 0]) (q := []) hM_0 d_0_786 rfl (by decide +kernel) hM_91 rfl rfl rfl (Nat.le_of_ble_eq_true rfl) (Nat.le_of_ble_eq_true rfl) (Or.inr rfl) c1 (Nat.le_refl _) ?_
    show rn fx 101 cr 0 789 [some (.inr (.inr (some 1000))), some (.inr (.inr (some 0))), some (.inr (.inr (some 53))), some (.inl (i : Int))] [.inl z] (st0 m1) _
    refine r_ld (pc' := 790) hM_0 d_0_789 rfl rfl ?_
    refine r_ld (pc' := 791) hM_0 d_0_790 rfl rfl ?_
    refine r_ld (pc' := 792) hM_0 d_0_791 rfl rfl ?_
    refine r_k (pc' := 793) (v := .inl 1) hM_0 d_0_792 rfl rfl ?_
    refine r_b (pc' := 794) (z := ((i : Int) + 1)) hM_0 d_0_793 rfl rfl ?_
    refine r_sc (pc' := 795) (j := i + 1) hM_0 d_0_794 rfl hx.2 h1 (by omega) ?_
    refine r_ld (pc' := 796) hM_0 d_0_795 rfl rfl ?_
    refine r_ld (pc' := 797) hM_0 d_0_796 rfl rfl ?_
    refine r_k (pc' := 798) (v := .inl 2) hM_0 d_0_797 rfl rfl ?_
    refine r_b (pc' := 799) (z := ((i : Int) + 2)) hM_0 d_0_798 rfl rfl ?_
    refine r_sc (pc' := 800) (j := i + 2) hM_0 d_0_799 rfl hx.2 h2 (by omega) ?_
    refine r_if (pc' := 807) (pc2 := 803) hM_0 d_0_800 (by decide) rfl (fun _ => ?_) (fun hc => absurd (show am_s (xs (i + 2)).toInt = 0 by rw [sv_s]; exact hb) hc)
    refine r_k (pc' := 808) (v := .inl 0) hM_0 d_0_807 rfl rfl ?_
    refine r_clg (pc' := 811) (c := (216, 0)) (a := [.inr (.inr (some 53)), .inl (xs (i + 1)).toInt, .inl 0]) (q := [.inl z]) hM_0 d_0_808 rfl (by decide +kernel) hM_216 rfl rfl rfl (Nat.le_of_ble_eq_true rfl) (Nat.le_of_ble_eq_true rfl) (Or.inr rfl) c2 (Nat.le_refl _) ?_
    show rn fx 101 cr 0 811 [some (.inr (.inr (some 1000))), some (.inr (.inr (some 0))), some (.inr (.inr (some 53))), some (.inl (i : Int))] [.inl z, .inl z] (st0 m2) _
    refine r_ic (pc' := 1331) (pc2 := 814) hM_0 d_0_811 (by decide) rfl (fun _ => ?_) (fun hc => absurd (show am_s z = am_s z from rfl) hc)
    exact hk
  · have hpk : PK 91 4 216 6 [.inl (xs (i + 1)).toInt, .inl 1] m := P_sure (sv_s _) hI
    obtain ⟨r1, m1, ⟨v, hv, r2, m2, ⟨hv2, hI2⟩, hr2⟩, hr1⟩ := hpk
    rw [hv] at hr1
    rw [hv2] at hr2
    have c1 := hr1 fx hx.1
    have c2 := hr2 fx hx.1
    obtain ⟨z, hz⟩ := rn_int hM_91 rfl c1
    rw [hz] at c1 c2
    obtain ⟨S2, hk⟩ := k m2 hI2
    refine ⟨S2, ?_⟩
    refine r_ld (pc' := 768) hM_0 d_0_767 rfl rfl ?_
    refine r_ld (pc' := 769) hM_0 d_0_768 rfl rfl ?_
    refine r_ld (pc' := 770) hM_0 d_0_769 rfl rfl ?_
    refine r_k (pc' := 771) (v := .inl 1) hM_0 d_0_770 rfl rfl ?_
    refine r_b (pc' := 772) (z := ((i : Int) + 1)) hM_0 d_0_771 rfl rfl ?_
    refine r_sc (pc' := 773) (j := i + 1) hM_0 d_0_772 rfl hx.2 h1 (by omega) ?_
    refine r_ld (pc' := 774) hM_0 d_0_773 rfl rfl ?_
    refine r_ld (pc' := 775) hM_0 d_0_774 rfl rfl ?_
    refine r_k (pc' := 776) (v := .inl 2) hM_0 d_0_775 rfl rfl ?_
    refine r_b (pc' := 777) (z := ((i : Int) + 2)) hM_0 d_0_776 rfl rfl ?_
    refine r_sc (pc' := 778) (j := i + 2) hM_0 d_0_777 rfl hx.2 h2 (by omega) ?_
    refine r_if (pc' := 785) (pc2 := 781) hM_0 d_0_778 (by decide) rfl (fun hc => absurd (show am_s (xs (i + 2)).toInt = 0 from hc) (by rw [sv_s]; exact hb)) (fun _ => ?_)
    refine r_k (pc' := 782) (v := .inl 1) hM_0 d_0_781 rfl rfl ?_
    refine r_go (pc' := 786) hM_0 d_0_782 (by decide) ?_
    refine r_clg (pc' := 789) (c := (91, 0)) (a := [.inr (.inr (some 0)), .inl (xs (i + 1)).toInt, .inl 1]) (q := []) hM_0 d_0_786 rfl (by decide +kernel) hM_91 rfl rfl rfl (Nat.le_of_ble_eq_true rfl) (Nat.le_of_ble_eq_true rfl) (Or.inr rfl) c1 (Nat.le_refl _) ?_
    show rn fx 101 cr 0 789 [some (.inr (.inr (some 1000))), some (.inr (.inr (some 0))), some (.inr (.inr (some 53))), some (.inl (i : Int))] [.inl z] (st0 m1) _
    refine r_ld (pc' := 790) hM_0 d_0_789 rfl rfl ?_
    refine r_ld (pc' := 791) hM_0 d_0_790 rfl rfl ?_
    refine r_ld (pc' := 792) hM_0 d_0_791 rfl rfl ?_
    refine r_k (pc' := 793) (v := .inl 1) hM_0 d_0_792 rfl rfl ?_
    refine r_b (pc' := 794) (z := ((i : Int) + 1)) hM_0 d_0_793 rfl rfl ?_
    refine r_sc (pc' := 795) (j := i + 1) hM_0 d_0_794 rfl hx.2 h1 (by omega) ?_
    refine r_ld (pc' := 796) hM_0 d_0_795 rfl rfl ?_
    refine r_ld (pc' := 797) hM_0 d_0_796 rfl rfl ?_
    refine r_k (pc' := 798) (v := .inl 2) hM_0 d_0_797 rfl rfl ?_
    refine r_b (pc' := 799) (z := ((i : Int) + 2)) hM_0 d_0_798 rfl rfl ?_
    refine r_sc (pc' := 800) (j := i + 2) hM_0 d_0_799 rfl hx.2 h2 (by omega) ?_
    refine r_if (pc' := 807) (pc2 := 803) hM_0 d_0_800 (by decide) rfl (fun hc => absurd (show am_s (xs (i + 2)).toInt = 0 from hc) (by rw [sv_s]; exact hb)) (fun _ => ?_)
    refine r_k (pc' := 804) (v := .inl 1) hM_0 d_0_803 rfl rfl ?_
    refine r_go (pc' := 808) hM_0 d_0_804 (by decide) ?_
    refine r_clg (pc' := 811) (c := (216, 0)) (a := [.inr (.inr (some 53)), .inl (xs (i + 1)).toInt, .inl 1]) (q := [.inl z]) hM_0 d_0_808 rfl (by decide +kernel) hM_216 rfl rfl rfl (Nat.le_of_ble_eq_true rfl) (Nat.le_of_ble_eq_true rfl) (Or.inr rfl) c2 (Nat.le_refl _) ?_
    show rn fx 101 cr 0 811 [some (.inr (.inr (some 1000))), some (.inr (.inr (some 0))), some (.inr (.inr (some 53))), some (.inl (i : Int))] [.inl z, .inl z] (st0 m2) _
    refine r_ic (pc' := 1331) (pc2 := 814) hM_0 d_0_811 (by decide) rfl (fun _ => ?_) (fun hc => absurd (show am_s z = am_s z from rfl) hc)
    exact hk
theorem lc_20 {fx : am_X0} {L : Nat} {xs : Nat → Int32} {cr : Nat × Nat} {m : am_M} {i : Nat} (hx : LX L xs fx) (hi : i + 6 ≤ L) (hL : L ≤ 3072) (hI : Inv m) (k : ∀ m2, Inv m2 → ∃ S2, rn fx 101 cr 0 1331 [some (.inr (.inr (some 1000))), some (.inr (.inr (some 0))), some (.inr (.inr (some 53))), some (.inl (i : Int))] [] (st0 m2) ([.inl 1], S2)) : ∃ S2, rn fx 101 cr 0 816 [some (.inr (.inr (some 1000))), some (.inr (.inr (some 0))), some (.inr (.inr (some 53))), some (.inl (i : Int))] [] (st0 m) ([.inl 1], S2) := by
  have h1 : am_s ((i : Int) + 1) = ((i + 1 : Nat) : Int) := am_s_id (by omega) (by omega)
  have h2 : am_s ((i : Int) + 2) = ((i + 2 : Nat) : Int) := am_s_id (by omega) (by omega)
  have h3 : am_s ((i : Int) + 3) = ((i + 3 : Nat) : Int) := am_s_id (by omega) (by omega)
  have h4 : am_s ((i : Int) + 4) = ((i + 4 : Nat) : Int) := am_s_id (by omega) (by omega)
  have h5 : am_s ((i : Int) + 5) = ((i + 5 : Nat) : Int) := am_s_id (by omega) (by omega)
  have hpk : PK 93 3 217 3 [.inl (xs (i + 1)).toInt] m := P_next (sv_s _) hI
  obtain ⟨r1, m1, ⟨v, hv, r2, m2, ⟨hv2, hI2⟩, hr2⟩, hr1⟩ := hpk
  rw [hv] at hr1
  rw [hv2] at hr2
  have c1 := hr1 fx hx.1
  have c2 := hr2 fx hx.1
  obtain ⟨z, hz⟩ := rn_int hM_93 rfl c1
  rw [hz] at c1 c2
  obtain ⟨S2, hk⟩ := k m2 hI2
  refine ⟨S2, ?_⟩
  refine r_ld (pc' := 817) hM_0 d_0_816 rfl rfl ?_
  refine r_ld (pc' := 818) hM_0 d_0_817 rfl rfl ?_
  refine r_ld (pc' := 819) hM_0 d_0_818 rfl rfl ?_
  refine r_k (pc' := 820) (v := .inl 1) hM_0 d_0_819 rfl rfl ?_
  refine r_b (pc' := 821) (z := ((i : Int) + 1)) hM_0 d_0_820 rfl rfl ?_
  refine r_sc (pc' := 822) (j := i + 1) hM_0 d_0_821 rfl hx.2 h1 (by omega) ?_
  refine r_clg (pc' := 825) (c := (93, 0)) (a := [.inr (.inr (some 0)), .inl (xs (i + 1)).toInt]) (q := []) hM_0 d_0_822 rfl (by decide +kernel) hM_93 rfl rfl rfl (Nat.le_of_ble_eq_true rfl) (Nat.le_of_ble_eq_true rfl) (Or.inr rfl) c1 (Nat.le_refl _) ?_
  show rn fx 101 cr 0 825 [some (.inr (.inr (some 1000))), some (.inr (.inr (some 0))), some (.inr (.inr (some 53))), some (.inl (i : Int))] [.inl z] (st0 m1) _
  refine r_ld (pc' := 826) hM_0 d_0_825 rfl rfl ?_
  refine r_ld (pc' := 827) hM_0 d_0_826 rfl rfl ?_
  refine r_ld (pc' := 828) hM_0 d_0_827 rfl rfl ?_
  refine r_k (pc' := 829) (v := .inl 1) hM_0 d_0_828 rfl rfl ?_
  refine r_b (pc' := 830) (z := ((i : Int) + 1)) hM_0 d_0_829 rfl rfl ?_
  refine r_sc (pc' := 831) (j := i + 1) hM_0 d_0_830 rfl hx.2 h1 (by omega) ?_
  refine r_clg (pc' := 834) (c := (217, 0)) (a := [.inr (.inr (some 53)), .inl (xs (i + 1)).toInt]) (q := [.inl z]) hM_0 d_0_831 rfl (by decide +kernel) hM_217 rfl rfl rfl (Nat.le_of_ble_eq_true rfl) (Nat.le_of_ble_eq_true rfl) (Or.inr rfl) c2 (Nat.le_refl _) ?_
  show rn fx 101 cr 0 834 [some (.inr (.inr (some 1000))), some (.inr (.inr (some 0))), some (.inr (.inr (some 53))), some (.inl (i : Int))] [.inl z, .inl z] (st0 m2) _
  refine r_ic (pc' := 1331) (pc2 := 837) hM_0 d_0_834 (by decide) rfl (fun _ => ?_) (fun hc => absurd (show am_s z = am_s z from rfl) hc)
  exact hk
theorem lc_21 {fx : am_X0} {L : Nat} {xs : Nat → Int32} {cr : Nat × Nat} {m : am_M} {i : Nat} (hx : LX L xs fx) (hi : i + 6 ≤ L) (hL : L ≤ 3072) (hI : Inv m) (k : ∀ m2, Inv m2 → ∃ S2, rn fx 101 cr 0 1331 [some (.inr (.inr (some 1000))), some (.inr (.inr (some 0))), some (.inr (.inr (some 53))), some (.inl (i : Int))] [] (st0 m2) ([.inl 1], S2)) : ∃ S2, rn fx 101 cr 0 839 [some (.inr (.inr (some 1000))), some (.inr (.inr (some 0))), some (.inr (.inr (some 53))), some (.inl (i : Int))] [] (st0 m) ([.inl 1], S2) := by
  have h1 : am_s ((i : Int) + 1) = ((i + 1 : Nat) : Int) := am_s_id (by omega) (by omega)
  have h2 : am_s ((i : Int) + 2) = ((i + 2 : Nat) : Int) := am_s_id (by omega) (by omega)
  have h3 : am_s ((i : Int) + 3) = ((i + 3 : Nat) : Int) := am_s_id (by omega) (by omega)
  have h4 : am_s ((i : Int) + 4) = ((i + 4 : Nat) : Int) := am_s_id (by omega) (by omega)
  have h5 : am_s ((i : Int) + 5) = ((i + 5 : Nat) : Int) := am_s_id (by omega) (by omega)
  have hpk : PK 98 3 220 3 [.inl (xs (i + 1)).toInt] m := P_worst (sv_s _) hI
  obtain ⟨r1, m1, ⟨v, hv, r2, m2, ⟨hv2, hI2⟩, hr2⟩, hr1⟩ := hpk
  rw [hv] at hr1
  rw [hv2] at hr2
  have c1 := hr1 fx hx.1
  have c2 := hr2 fx hx.1
  obtain ⟨z, hz⟩ := rn_int hM_98 rfl c1
  rw [hz] at c1 c2
  obtain ⟨S2, hk⟩ := k m2 hI2
  refine ⟨S2, ?_⟩
  refine r_ld (pc' := 840) hM_0 d_0_839 rfl rfl ?_
  refine r_ld (pc' := 841) hM_0 d_0_840 rfl rfl ?_
  refine r_ld (pc' := 842) hM_0 d_0_841 rfl rfl ?_
  refine r_k (pc' := 843) (v := .inl 1) hM_0 d_0_842 rfl rfl ?_
  refine r_b (pc' := 844) (z := ((i : Int) + 1)) hM_0 d_0_843 rfl rfl ?_
  refine r_sc (pc' := 845) (j := i + 1) hM_0 d_0_844 rfl hx.2 h1 (by omega) ?_
  refine r_clg (pc' := 848) (c := (98, 0)) (a := [.inr (.inr (some 0)), .inl (xs (i + 1)).toInt]) (q := []) hM_0 d_0_845 rfl (by decide +kernel) hM_98 rfl rfl rfl (Nat.le_of_ble_eq_true rfl) (Nat.le_of_ble_eq_true rfl) (Or.inr rfl) c1 (Nat.le_refl _) ?_
  show rn fx 101 cr 0 848 [some (.inr (.inr (some 1000))), some (.inr (.inr (some 0))), some (.inr (.inr (some 53))), some (.inl (i : Int))] [.inl z] (st0 m1) _
  refine r_ld (pc' := 849) hM_0 d_0_848 rfl rfl ?_
  refine r_ld (pc' := 850) hM_0 d_0_849 rfl rfl ?_
  refine r_ld (pc' := 851) hM_0 d_0_850 rfl rfl ?_
  refine r_k (pc' := 852) (v := .inl 1) hM_0 d_0_851 rfl rfl ?_
  refine r_b (pc' := 853) (z := ((i : Int) + 1)) hM_0 d_0_852 rfl rfl ?_
  refine r_sc (pc' := 854) (j := i + 1) hM_0 d_0_853 rfl hx.2 h1 (by omega) ?_
  refine r_clg (pc' := 857) (c := (220, 0)) (a := [.inr (.inr (some 53)), .inl (xs (i + 1)).toInt]) (q := [.inl z]) hM_0 d_0_854 rfl (by decide +kernel) hM_220 rfl rfl rfl (Nat.le_of_ble_eq_true rfl) (Nat.le_of_ble_eq_true rfl) (Or.inr rfl) c2 (Nat.le_refl _) ?_
  show rn fx 101 cr 0 857 [some (.inr (.inr (some 1000))), some (.inr (.inr (some 0))), some (.inr (.inr (some 53))), some (.inl (i : Int))] [.inl z, .inl z] (st0 m2) _
  refine r_ic (pc' := 1331) (pc2 := 860) hM_0 d_0_857 (by decide) rfl (fun _ => ?_) (fun hc => absurd (show am_s z = am_s z from rfl) hc)
  exact hk
theorem lc_22 {fx : am_X0} {L : Nat} {xs : Nat → Int32} {cr : Nat × Nat} {m : am_M} {i : Nat} (hx : LX L xs fx) (hi : i + 6 ≤ L) (hL : L ≤ 3072) (hI : Inv m) (k : ∀ m2, Inv m2 → ∃ S2, rn fx 101 cr 0 1331 [some (.inr (.inr (some 1000))), some (.inr (.inr (some 0))), some (.inr (.inr (some 53))), some (.inl (i : Int))] [] (st0 m2) ([.inl 1], S2)) : ∃ S2, rn fx 101 cr 0 862 [some (.inr (.inr (some 1000))), some (.inr (.inr (some 0))), some (.inr (.inr (some 53))), some (.inl (i : Int))] [] (st0 m) ([.inl 1], S2) := by
  have h1 : am_s ((i : Int) + 1) = ((i + 1 : Nat) : Int) := am_s_id (by omega) (by omega)
  have h2 : am_s ((i : Int) + 2) = ((i + 2 : Nat) : Int) := am_s_id (by omega) (by omega)
  have h3 : am_s ((i : Int) + 3) = ((i + 3 : Nat) : Int) := am_s_id (by omega) (by omega)
  have h4 : am_s ((i : Int) + 4) = ((i + 4 : Nat) : Int) := am_s_id (by omega) (by omega)
  have h5 : am_s ((i : Int) + 5) = ((i + 5 : Nat) : Int) := am_s_id (by omega) (by omega)
  have hpk : PK 99 3 221 6 [.inl (xs (i + 1)).toInt, .inl (xs (i + 2)).toInt] m := P_ways (sv_s _) (sv_s _) hI
  obtain ⟨r1, m1, ⟨v, hv, r2, m2, ⟨hv2, hI2⟩, hr2⟩, hr1⟩ := hpk
  rw [hv] at hr1
  rw [hv2] at hr2
  have c1 := hr1 fx hx.1
  have c2 := hr2 fx hx.1
  obtain ⟨z, hz⟩ := rn_int hM_99 rfl c1
  rw [hz] at c1 c2
  obtain ⟨S2, hk⟩ := k m2 hI2
  refine ⟨S2, ?_⟩
  refine r_ld (pc' := 863) hM_0 d_0_862 rfl rfl ?_
  refine r_ld (pc' := 864) hM_0 d_0_863 rfl rfl ?_
  refine r_ld (pc' := 865) hM_0 d_0_864 rfl rfl ?_
  refine r_k (pc' := 866) (v := .inl 1) hM_0 d_0_865 rfl rfl ?_
  refine r_b (pc' := 867) (z := ((i : Int) + 1)) hM_0 d_0_866 rfl rfl ?_
  refine r_sc (pc' := 868) (j := i + 1) hM_0 d_0_867 rfl hx.2 h1 (by omega) ?_
  refine r_ld (pc' := 869) hM_0 d_0_868 rfl rfl ?_
  refine r_ld (pc' := 870) hM_0 d_0_869 rfl rfl ?_
  refine r_k (pc' := 871) (v := .inl 2) hM_0 d_0_870 rfl rfl ?_
  refine r_b (pc' := 872) (z := ((i : Int) + 2)) hM_0 d_0_871 rfl rfl ?_
  refine r_sc (pc' := 873) (j := i + 2) hM_0 d_0_872 rfl hx.2 h2 (by omega) ?_
  refine r_clg (pc' := 876) (c := (99, 0)) (a := [.inr (.inr (some 0)), .inl (xs (i + 1)).toInt, .inl (xs (i + 2)).toInt]) (q := []) hM_0 d_0_873 rfl (by decide +kernel) hM_99 rfl rfl rfl (Nat.le_of_ble_eq_true rfl) (Nat.le_of_ble_eq_true rfl) (Or.inr rfl) c1 (Nat.le_refl _) ?_
  show rn fx 101 cr 0 876 [some (.inr (.inr (some 1000))), some (.inr (.inr (some 0))), some (.inr (.inr (some 53))), some (.inl (i : Int))] [.inl z] (st0 m1) _
  refine r_ld (pc' := 877) hM_0 d_0_876 rfl rfl ?_
  refine r_ld (pc' := 878) hM_0 d_0_877 rfl rfl ?_
  refine r_ld (pc' := 879) hM_0 d_0_878 rfl rfl ?_
  refine r_k (pc' := 880) (v := .inl 1) hM_0 d_0_879 rfl rfl ?_
  refine r_b (pc' := 881) (z := ((i : Int) + 1)) hM_0 d_0_880 rfl rfl ?_
  refine r_sc (pc' := 882) (j := i + 1) hM_0 d_0_881 rfl hx.2 h1 (by omega) ?_
  refine r_ld (pc' := 883) hM_0 d_0_882 rfl rfl ?_
  refine r_ld (pc' := 884) hM_0 d_0_883 rfl rfl ?_
  refine r_k (pc' := 885) (v := .inl 2) hM_0 d_0_884 rfl rfl ?_
  refine r_b (pc' := 886) (z := ((i : Int) + 2)) hM_0 d_0_885 rfl rfl ?_
  refine r_sc (pc' := 887) (j := i + 2) hM_0 d_0_886 rfl hx.2 h2 (by omega) ?_
  refine r_clg (pc' := 890) (c := (221, 0)) (a := [.inr (.inr (some 53)), .inl (xs (i + 1)).toInt, .inl (xs (i + 2)).toInt]) (q := [.inl z]) hM_0 d_0_887 rfl (by decide +kernel) hM_221 rfl rfl rfl (Nat.le_of_ble_eq_true rfl) (Nat.le_of_ble_eq_true rfl) (Or.inr rfl) c2 (Nat.le_refl _) ?_
  show rn fx 101 cr 0 890 [some (.inr (.inr (some 1000))), some (.inr (.inr (some 0))), some (.inr (.inr (some 53))), some (.inl (i : Int))] [.inl z, .inl z] (st0 m2) _
  refine r_ic (pc' := 1331) (pc2 := 893) hM_0 d_0_890 (by decide) rfl (fun _ => ?_) (fun hc => absurd (show am_s z = am_s z from rfl) hc)
  exact hk
theorem lc_23 {fx : am_X0} {L : Nat} {xs : Nat → Int32} {cr : Nat × Nat} {m : am_M} {i : Nat} (hx : LX L xs fx) (hi : i + 6 ≤ L) (hL : L ≤ 3072) (hI : Inv m) (k : ∀ m2, Inv m2 → ∃ S2, rn fx 101 cr 0 1331 [some (.inr (.inr (some 1000))), some (.inr (.inr (some 0))), some (.inr (.inr (some 53))), some (.inl (i : Int))] [] (st0 m2) ([.inl 1], S2)) : ∃ S2, rn fx 101 cr 0 895 [some (.inr (.inr (some 1000))), some (.inr (.inr (some 0))), some (.inr (.inr (some 53))), some (.inl (i : Int))] [] (st0 m) ([.inl 1], S2) := by
  have h1 : am_s ((i : Int) + 1) = ((i + 1 : Nat) : Int) := am_s_id (by omega) (by omega)
  have h2 : am_s ((i : Int) + 2) = ((i + 2 : Nat) : Int) := am_s_id (by omega) (by omega)
  have h3 : am_s ((i : Int) + 3) = ((i + 3 : Nat) : Int) := am_s_id (by omega) (by omega)
  have h4 : am_s ((i : Int) + 4) = ((i + 4 : Nat) : Int) := am_s_id (by omega) (by omega)
  have h5 : am_s ((i : Int) + 5) = ((i + 5 : Nat) : Int) := am_s_id (by omega) (by omega)
  have hpk : PK 102 2 223 5 [.inl (xs (i + 1)).toInt] m := P_alike (sv_s _) hI
  obtain ⟨r1, m1, ⟨v, hv, r2, m2, ⟨hv2, hI2⟩, hr2⟩, hr1⟩ := hpk
  rw [hv] at hr1
  rw [hv2] at hr2
  have c1 := hr1 fx hx.1
  have c2 := hr2 fx hx.1
  obtain ⟨z, hz⟩ := rn_int hM_102 rfl c1
  rw [hz] at c1 c2
  obtain ⟨S2, hk⟩ := k m2 hI2
  refine ⟨S2, ?_⟩
  refine r_ld (pc' := 896) hM_0 d_0_895 rfl rfl ?_
  refine r_ld (pc' := 897) hM_0 d_0_896 rfl rfl ?_
  refine r_ld (pc' := 898) hM_0 d_0_897 rfl rfl ?_
  refine r_k (pc' := 899) (v := .inl 1) hM_0 d_0_898 rfl rfl ?_
  refine r_b (pc' := 900) (z := ((i : Int) + 1)) hM_0 d_0_899 rfl rfl ?_
  refine r_sc (pc' := 901) (j := i + 1) hM_0 d_0_900 rfl hx.2 h1 (by omega) ?_
  refine r_clg (pc' := 904) (c := (102, 0)) (a := [.inr (.inr (some 0)), .inl (xs (i + 1)).toInt]) (q := []) hM_0 d_0_901 rfl (by decide +kernel) hM_102 rfl rfl rfl (Nat.le_of_ble_eq_true rfl) (Nat.le_of_ble_eq_true rfl) (Or.inr rfl) c1 (Nat.le_refl _) ?_
  show rn fx 101 cr 0 904 [some (.inr (.inr (some 1000))), some (.inr (.inr (some 0))), some (.inr (.inr (some 53))), some (.inl (i : Int))] [.inl z] (st0 m1) _
  refine r_ld (pc' := 905) hM_0 d_0_904 rfl rfl ?_
  refine r_ld (pc' := 906) hM_0 d_0_905 rfl rfl ?_
  refine r_ld (pc' := 907) hM_0 d_0_906 rfl rfl ?_
  refine r_k (pc' := 908) (v := .inl 1) hM_0 d_0_907 rfl rfl ?_
  refine r_b (pc' := 909) (z := ((i : Int) + 1)) hM_0 d_0_908 rfl rfl ?_
  refine r_sc (pc' := 910) (j := i + 1) hM_0 d_0_909 rfl hx.2 h1 (by omega) ?_
  refine r_clg (pc' := 913) (c := (223, 0)) (a := [.inr (.inr (some 53)), .inl (xs (i + 1)).toInt]) (q := [.inl z]) hM_0 d_0_910 rfl (by decide +kernel) hM_223 rfl rfl rfl (Nat.le_of_ble_eq_true rfl) (Nat.le_of_ble_eq_true rfl) (Or.inr rfl) c2 (Nat.le_refl _) ?_
  show rn fx 101 cr 0 913 [some (.inr (.inr (some 1000))), some (.inr (.inr (some 0))), some (.inr (.inr (some 53))), some (.inl (i : Int))] [.inl z, .inl z] (st0 m2) _
  refine r_ic (pc' := 1331) (pc2 := 916) hM_0 d_0_913 (by decide) rfl (fun _ => ?_) (fun hc => absurd (show am_s z = am_s z from rfl) hc)
  exact hk
theorem lc_24 {fx : am_X0} {L : Nat} {xs : Nat → Int32} {cr : Nat × Nat} {m : am_M} {i : Nat} (hx : LX L xs fx) (hi : i + 6 ≤ L) (hL : L ≤ 3072) (hI : Inv m) (k : ∀ m2, Inv m2 → ∃ S2, rn fx 101 cr 0 1331 [some (.inr (.inr (some 1000))), some (.inr (.inr (some 0))), some (.inr (.inr (some 53))), some (.inl (i : Int))] [] (st0 m2) ([.inl 1], S2)) : ∃ S2, rn fx 101 cr 0 918 [some (.inr (.inr (some 1000))), some (.inr (.inr (some 0))), some (.inr (.inr (some 53))), some (.inl (i : Int))] [] (st0 m) ([.inl 1], S2) := by
  have h1 : am_s ((i : Int) + 1) = ((i + 1 : Nat) : Int) := am_s_id (by omega) (by omega)
  have h2 : am_s ((i : Int) + 2) = ((i + 2 : Nat) : Int) := am_s_id (by omega) (by omega)
  have h3 : am_s ((i : Int) + 3) = ((i + 3 : Nat) : Int) := am_s_id (by omega) (by omega)
  have h4 : am_s ((i : Int) + 4) = ((i + 4 : Nat) : Int) := am_s_id (by omega) (by omega)
  have h5 : am_s ((i : Int) + 5) = ((i + 5 : Nat) : Int) := am_s_id (by omega) (by omega)
  have hpk : PK 104 1 225 5 [] m := P_enough hI
  obtain ⟨r1, m1, ⟨v, hv, r2, m2, ⟨hv2, hI2⟩, hr2⟩, hr1⟩ := hpk
  rw [hv] at hr1
  rw [hv2] at hr2
  have c1 := hr1 fx hx.1
  have c2 := hr2 fx hx.1
  obtain ⟨z, hz⟩ := rn_int hM_104 rfl c1
  rw [hz] at c1 c2
  obtain ⟨S2, hk⟩ := k m2 hI2
  refine ⟨S2, ?_⟩
  refine r_ld (pc' := 919) hM_0 d_0_918 rfl rfl ?_
  refine r_clg (pc' := 922) (c := (104, 0)) (a := [.inr (.inr (some 0))]) (q := []) hM_0 d_0_919 rfl (by decide +kernel) hM_104 rfl rfl rfl (Nat.le_of_ble_eq_true rfl) (Nat.le_of_ble_eq_true rfl) (Or.inr rfl) c1 (Nat.le_refl _) ?_
  show rn fx 101 cr 0 922 [some (.inr (.inr (some 1000))), some (.inr (.inr (some 0))), some (.inr (.inr (some 53))), some (.inl (i : Int))] [.inl z] (st0 m1) _
  refine r_ld (pc' := 923) hM_0 d_0_922 rfl rfl ?_
  refine r_clg (pc' := 926) (c := (225, 0)) (a := [.inr (.inr (some 53))]) (q := [.inl z]) hM_0 d_0_923 rfl (by decide +kernel) hM_225 rfl rfl rfl (Nat.le_of_ble_eq_true rfl) (Nat.le_of_ble_eq_true rfl) (Or.inr rfl) c2 (Nat.le_refl _) ?_
  show rn fx 101 cr 0 926 [some (.inr (.inr (some 1000))), some (.inr (.inr (some 0))), some (.inr (.inr (some 53))), some (.inl (i : Int))] [.inl z, .inl z] (st0 m2) _
  refine r_ic (pc' := 1331) (pc2 := 929) hM_0 d_0_926 (by decide) rfl (fun _ => ?_) (fun hc => absurd (show am_s z = am_s z from rfl) hc)
  exact hk
theorem lc_25 {fx : am_X0} {L : Nat} {xs : Nat → Int32} {cr : Nat × Nat} {m : am_M} {i : Nat} (hx : LX L xs fx) (hi : i + 6 ≤ L) (hL : L ≤ 3072) (hI : Inv m) (k : ∀ m2, Inv m2 → ∃ S2, rn fx 101 cr 0 1331 [some (.inr (.inr (some 1000))), some (.inr (.inr (some 0))), some (.inr (.inr (some 53))), some (.inl (i : Int))] [] (st0 m2) ([.inl 1], S2)) : ∃ S2, rn fx 101 cr 0 931 [some (.inr (.inr (some 1000))), some (.inr (.inr (some 0))), some (.inr (.inr (some 53))), some (.inl (i : Int))] [] (st0 m) ([.inl 1], S2) := by
  have h1 : am_s ((i : Int) + 1) = ((i + 1 : Nat) : Int) := am_s_id (by omega) (by omega)
  have h2 : am_s ((i : Int) + 2) = ((i + 2 : Nat) : Int) := am_s_id (by omega) (by omega)
  have h3 : am_s ((i : Int) + 3) = ((i + 3 : Nat) : Int) := am_s_id (by omega) (by omega)
  have h4 : am_s ((i : Int) + 4) = ((i + 4 : Nat) : Int) := am_s_id (by omega) (by omega)
  have h5 : am_s ((i : Int) + 5) = ((i + 5 : Nat) : Int) := am_s_id (by omega) (by omega)
  have hpk : PK 110 3 227 6 [.inl (xs (i + 1)).toInt] m := P_needed (sv_s _) hI
  obtain ⟨r1, m1, ⟨v, hv, r2, m2, ⟨hv2, hI2⟩, hr2⟩, hr1⟩ := hpk
  rw [hv] at hr1
  rw [hv2] at hr2
  have c1 := hr1 fx hx.1
  have c2 := hr2 fx hx.1
  obtain ⟨z, hz⟩ := rn_int hM_110 rfl c1
  rw [hz] at c1 c2
  obtain ⟨S2, hk⟩ := k m2 hI2
  refine ⟨S2, ?_⟩
  refine r_ld (pc' := 932) hM_0 d_0_931 rfl rfl ?_
  refine r_ld (pc' := 933) hM_0 d_0_932 rfl rfl ?_
  refine r_ld (pc' := 934) hM_0 d_0_933 rfl rfl ?_
  refine r_k (pc' := 935) (v := .inl 1) hM_0 d_0_934 rfl rfl ?_
  refine r_b (pc' := 936) (z := ((i : Int) + 1)) hM_0 d_0_935 rfl rfl ?_
  refine r_sc (pc' := 937) (j := i + 1) hM_0 d_0_936 rfl hx.2 h1 (by omega) ?_
  refine r_clg (pc' := 940) (c := (110, 0)) (a := [.inr (.inr (some 0)), .inl (xs (i + 1)).toInt]) (q := []) hM_0 d_0_937 rfl (by decide +kernel) hM_110 rfl rfl rfl (Nat.le_of_ble_eq_true rfl) (Nat.le_of_ble_eq_true rfl) (Or.inr rfl) c1 (Nat.le_refl _) ?_
  show rn fx 101 cr 0 940 [some (.inr (.inr (some 1000))), some (.inr (.inr (some 0))), some (.inr (.inr (some 53))), some (.inl (i : Int))] [.inl z] (st0 m1) _
  refine r_ld (pc' := 941) hM_0 d_0_940 rfl rfl ?_
  refine r_ld (pc' := 942) hM_0 d_0_941 rfl rfl ?_
  refine r_ld (pc' := 943) hM_0 d_0_942 rfl rfl ?_
  refine r_k (pc' := 944) (v := .inl 1) hM_0 d_0_943 rfl rfl ?_
  refine r_b (pc' := 945) (z := ((i : Int) + 1)) hM_0 d_0_944 rfl rfl ?_
  refine r_sc (pc' := 946) (j := i + 1) hM_0 d_0_945 rfl hx.2 h1 (by omega) ?_
  refine r_clg (pc' := 949) (c := (227, 0)) (a := [.inr (.inr (some 53)), .inl (xs (i + 1)).toInt]) (q := [.inl z]) hM_0 d_0_946 rfl (by decide +kernel) hM_227 rfl rfl rfl (Nat.le_of_ble_eq_true rfl) (Nat.le_of_ble_eq_true rfl) (Or.inr rfl) c2 (Nat.le_refl _) ?_
  show rn fx 101 cr 0 949 [some (.inr (.inr (some 1000))), some (.inr (.inr (some 0))), some (.inr (.inr (some 53))), some (.inl (i : Int))] [.inl z, .inl z] (st0 m2) _
  refine r_ic (pc' := 1331) (pc2 := 952) hM_0 d_0_949 (by decide) rfl (fun _ => ?_) (fun hc => absurd (show am_s z = am_s z from rfl) hc)
  exact hk
theorem lc_26 {fx : am_X0} {L : Nat} {xs : Nat → Int32} {cr : Nat × Nat} {m : am_M} {i : Nat} (hx : LX L xs fx) (hi : i + 6 ≤ L) (hL : L ≤ 3072) (hI : Inv m) (k : ∀ m2, Inv m2 → ∃ S2, rn fx 101 cr 0 1331 [some (.inr (.inr (some 1000))), some (.inr (.inr (some 0))), some (.inr (.inr (some 53))), some (.inl (i : Int))] [] (st0 m2) ([.inl 1], S2)) : ∃ S2, rn fx 101 cr 0 954 [some (.inr (.inr (some 1000))), some (.inr (.inr (some 0))), some (.inr (.inr (some 53))), some (.inl (i : Int))] [] (st0 m) ([.inl 1], S2) := by
  have h1 : am_s ((i : Int) + 1) = ((i + 1 : Nat) : Int) := am_s_id (by omega) (by omega)
  have h2 : am_s ((i : Int) + 2) = ((i + 2 : Nat) : Int) := am_s_id (by omega) (by omega)
  have h3 : am_s ((i : Int) + 3) = ((i + 3 : Nat) : Int) := am_s_id (by omega) (by omega)
  have h4 : am_s ((i : Int) + 4) = ((i + 4 : Nat) : Int) := am_s_id (by omega) (by omega)
  have h5 : am_s ((i : Int) + 5) = ((i + 5 : Nat) : Int) := am_s_id (by omega) (by omega)
  have hpk : PK 114 3 229 6 [.inl (xs (i + 1)).toInt, .inl (xs (i + 2)).toInt] m := P_kept (sv_s _) (sv_s _) hI
  obtain ⟨r1, m1, ⟨v, hv, r2, m2, ⟨hv2, hI2⟩, hr2⟩, hr1⟩ := hpk
  rw [hv] at hr1
  rw [hv2] at hr2
  have c1 := hr1 fx hx.1
  have c2 := hr2 fx hx.1
  obtain ⟨z, hz⟩ := rn_int hM_114 rfl c1
  rw [hz] at c1 c2
  obtain ⟨S2, hk⟩ := k m2 hI2
  refine ⟨S2, ?_⟩
  refine r_ld (pc' := 955) hM_0 d_0_954 rfl rfl ?_
  refine r_ld (pc' := 956) hM_0 d_0_955 rfl rfl ?_
  refine r_ld (pc' := 957) hM_0 d_0_956 rfl rfl ?_
  refine r_k (pc' := 958) (v := .inl 1) hM_0 d_0_957 rfl rfl ?_
  refine r_b (pc' := 959) (z := ((i : Int) + 1)) hM_0 d_0_958 rfl rfl ?_
  refine r_sc (pc' := 960) (j := i + 1) hM_0 d_0_959 rfl hx.2 h1 (by omega) ?_
  refine r_ld (pc' := 961) hM_0 d_0_960 rfl rfl ?_
  refine r_ld (pc' := 962) hM_0 d_0_961 rfl rfl ?_
  refine r_k (pc' := 963) (v := .inl 2) hM_0 d_0_962 rfl rfl ?_
  refine r_b (pc' := 964) (z := ((i : Int) + 2)) hM_0 d_0_963 rfl rfl ?_
  refine r_sc (pc' := 965) (j := i + 2) hM_0 d_0_964 rfl hx.2 h2 (by omega) ?_
  refine r_clg (pc' := 968) (c := (114, 0)) (a := [.inr (.inr (some 0)), .inl (xs (i + 1)).toInt, .inl (xs (i + 2)).toInt]) (q := []) hM_0 d_0_965 rfl (by decide +kernel) hM_114 rfl rfl rfl (Nat.le_of_ble_eq_true rfl) (Nat.le_of_ble_eq_true rfl) (Or.inr rfl) c1 (Nat.le_refl _) ?_
  show rn fx 101 cr 0 968 [some (.inr (.inr (some 1000))), some (.inr (.inr (some 0))), some (.inr (.inr (some 53))), some (.inl (i : Int))] [.inl z] (st0 m1) _
  refine r_ld (pc' := 969) hM_0 d_0_968 rfl rfl ?_
  refine r_ld (pc' := 970) hM_0 d_0_969 rfl rfl ?_
  refine r_ld (pc' := 971) hM_0 d_0_970 rfl rfl ?_
  refine r_k (pc' := 972) (v := .inl 1) hM_0 d_0_971 rfl rfl ?_
  refine r_b (pc' := 973) (z := ((i : Int) + 1)) hM_0 d_0_972 rfl rfl ?_
  refine r_sc (pc' := 974) (j := i + 1) hM_0 d_0_973 rfl hx.2 h1 (by omega) ?_
  refine r_ld (pc' := 975) hM_0 d_0_974 rfl rfl ?_
  refine r_ld (pc' := 976) hM_0 d_0_975 rfl rfl ?_
  refine r_k (pc' := 977) (v := .inl 2) hM_0 d_0_976 rfl rfl ?_
  refine r_b (pc' := 978) (z := ((i : Int) + 2)) hM_0 d_0_977 rfl rfl ?_
  refine r_sc (pc' := 979) (j := i + 2) hM_0 d_0_978 rfl hx.2 h2 (by omega) ?_
  refine r_clg (pc' := 982) (c := (229, 0)) (a := [.inr (.inr (some 53)), .inl (xs (i + 1)).toInt, .inl (xs (i + 2)).toInt]) (q := [.inl z]) hM_0 d_0_979 rfl (by decide +kernel) hM_229 rfl rfl rfl (Nat.le_of_ble_eq_true rfl) (Nat.le_of_ble_eq_true rfl) (Or.inr rfl) c2 (Nat.le_refl _) ?_
  show rn fx 101 cr 0 982 [some (.inr (.inr (some 1000))), some (.inr (.inr (some 0))), some (.inr (.inr (some 53))), some (.inl (i : Int))] [.inl z, .inl z] (st0 m2) _
  refine r_ic (pc' := 1331) (pc2 := 985) hM_0 d_0_982 (by decide) rfl (fun _ => ?_) (fun hc => absurd (show am_s z = am_s z from rfl) hc)
  exact hk
theorem lc_27 {fx : am_X0} {L : Nat} {xs : Nat → Int32} {cr : Nat × Nat} {m : am_M} {i : Nat} (hx : LX L xs fx) (hi : i + 6 ≤ L) (hL : L ≤ 3072) (hI : Inv m) (k : ∀ m2, Inv m2 → ∃ S2, rn fx 101 cr 0 1331 [some (.inr (.inr (some 1000))), some (.inr (.inr (some 0))), some (.inr (.inr (some 53))), some (.inl (i : Int))] [] (st0 m2) ([.inl 1], S2)) : ∃ S2, rn fx 101 cr 0 987 [some (.inr (.inr (some 1000))), some (.inr (.inr (some 0))), some (.inr (.inr (some 53))), some (.inl (i : Int))] [] (st0 m) ([.inl 1], S2) := by
  have h1 : am_s ((i : Int) + 1) = ((i + 1 : Nat) : Int) := am_s_id (by omega) (by omega)
  have h2 : am_s ((i : Int) + 2) = ((i + 2 : Nat) : Int) := am_s_id (by omega) (by omega)
  have h3 : am_s ((i : Int) + 3) = ((i + 3 : Nat) : Int) := am_s_id (by omega) (by omega)
  have h4 : am_s ((i : Int) + 4) = ((i + 4 : Nat) : Int) := am_s_id (by omega) (by omega)
  have h5 : am_s ((i : Int) + 5) = ((i + 5 : Nat) : Int) := am_s_id (by omega) (by omega)
  have hpk : PK 128 1 239 5 [] m := P_longest hI
  obtain ⟨r1, m1, ⟨v, hv, r2, m2, ⟨hv2, hI2⟩, hr2⟩, hr1⟩ := hpk
  rw [hv] at hr1
  rw [hv2] at hr2
  have c1 := hr1 fx hx.1
  have c2 := hr2 fx hx.1
  obtain ⟨z, hz⟩ := rn_int hM_128 rfl c1
  rw [hz] at c1 c2
  obtain ⟨S2, hk⟩ := k m2 hI2
  refine ⟨S2, ?_⟩
  refine r_ld (pc' := 988) hM_0 d_0_987 rfl rfl ?_
  refine r_clg (pc' := 991) (c := (128, 0)) (a := [.inr (.inr (some 0))]) (q := []) hM_0 d_0_988 rfl (by decide +kernel) hM_128 rfl rfl rfl (Nat.le_of_ble_eq_true rfl) (Nat.le_of_ble_eq_true rfl) (Or.inr rfl) c1 (Nat.le_refl _) ?_
  show rn fx 101 cr 0 991 [some (.inr (.inr (some 1000))), some (.inr (.inr (some 0))), some (.inr (.inr (some 53))), some (.inl (i : Int))] [.inl z] (st0 m1) _
  refine r_ld (pc' := 992) hM_0 d_0_991 rfl rfl ?_
  refine r_clg (pc' := 995) (c := (239, 0)) (a := [.inr (.inr (some 53))]) (q := [.inl z]) hM_0 d_0_992 rfl (by decide +kernel) hM_239 rfl rfl rfl (Nat.le_of_ble_eq_true rfl) (Nat.le_of_ble_eq_true rfl) (Or.inr rfl) c2 (Nat.le_refl _) ?_
  show rn fx 101 cr 0 995 [some (.inr (.inr (some 1000))), some (.inr (.inr (some 0))), some (.inr (.inr (some 53))), some (.inl (i : Int))] [.inl z, .inl z] (st0 m2) _
  refine r_ic (pc' := 1331) (pc2 := 998) hM_0 d_0_995 (by decide) rfl (fun _ => ?_) (fun hc => absurd (show am_s z = am_s z from rfl) hc)
  exact hk
theorem lc_28 {fx : am_X0} {L : Nat} {xs : Nat → Int32} {cr : Nat × Nat} {m : am_M} {i : Nat} (hx : LX L xs fx) (hi : i + 6 ≤ L) (hL : L ≤ 3072) (hI : Inv m) (k : ∀ m2, Inv m2 → ∃ S2, rn fx 101 cr 0 1331 [some (.inr (.inr (some 1000))), some (.inr (.inr (some 0))), some (.inr (.inr (some 53))), some (.inl (i : Int))] [] (st0 m2) ([.inl 1], S2)) : ∃ S2, rn fx 101 cr 0 1000 [some (.inr (.inr (some 1000))), some (.inr (.inr (some 0))), some (.inr (.inr (some 53))), some (.inl (i : Int))] [] (st0 m) ([.inl 1], S2) := by
  have h1 : am_s ((i : Int) + 1) = ((i + 1 : Nat) : Int) := am_s_id (by omega) (by omega)
  have h2 : am_s ((i : Int) + 2) = ((i + 2 : Nat) : Int) := am_s_id (by omega) (by omega)
  have h3 : am_s ((i : Int) + 3) = ((i + 3 : Nat) : Int) := am_s_id (by omega) (by omega)
  have h4 : am_s ((i : Int) + 4) = ((i + 4 : Nat) : Int) := am_s_id (by omega) (by omega)
  have h5 : am_s ((i : Int) + 5) = ((i + 5 : Nat) : Int) := am_s_id (by omega) (by omega)
  have hpk : PK 131 2 241 2 [.inl (xs (i + 1)).toInt] m := P_ripeIn (sv_s _) hI
  obtain ⟨r1, m1, ⟨v, hv, r2, m2, ⟨hv2, hI2⟩, hr2⟩, hr1⟩ := hpk
  rw [hv] at hr1
  rw [hv2] at hr2
  have c1 := hr1 fx hx.1
  have c2 := hr2 fx hx.1
  obtain ⟨z, hz⟩ := rn_int hM_131 rfl c1
  rw [hz] at c1 c2
  obtain ⟨S2, hk⟩ := k m2 hI2
  refine ⟨S2, ?_⟩
  refine r_ld (pc' := 1001) hM_0 d_0_1000 rfl rfl ?_
  refine r_ld (pc' := 1002) hM_0 d_0_1001 rfl rfl ?_
  refine r_ld (pc' := 1003) hM_0 d_0_1002 rfl rfl ?_
  refine r_k (pc' := 1004) (v := .inl 1) hM_0 d_0_1003 rfl rfl ?_
  refine r_b (pc' := 1005) (z := ((i : Int) + 1)) hM_0 d_0_1004 rfl rfl ?_
  refine r_sc (pc' := 1006) (j := i + 1) hM_0 d_0_1005 rfl hx.2 h1 (by omega) ?_
  refine r_clg (pc' := 1009) (c := (131, 0)) (a := [.inr (.inr (some 0)), .inl (xs (i + 1)).toInt]) (q := []) hM_0 d_0_1006 rfl (by decide +kernel) hM_131 rfl rfl rfl (Nat.le_of_ble_eq_true rfl) (Nat.le_of_ble_eq_true rfl) (Or.inr rfl) c1 (Nat.le_refl _) ?_
  show rn fx 101 cr 0 1009 [some (.inr (.inr (some 1000))), some (.inr (.inr (some 0))), some (.inr (.inr (some 53))), some (.inl (i : Int))] [.inl z] (st0 m1) _
  refine r_ld (pc' := 1010) hM_0 d_0_1009 rfl rfl ?_
  refine r_ld (pc' := 1011) hM_0 d_0_1010 rfl rfl ?_
  refine r_ld (pc' := 1012) hM_0 d_0_1011 rfl rfl ?_
  refine r_k (pc' := 1013) (v := .inl 1) hM_0 d_0_1012 rfl rfl ?_
  refine r_b (pc' := 1014) (z := ((i : Int) + 1)) hM_0 d_0_1013 rfl rfl ?_
  refine r_sc (pc' := 1015) (j := i + 1) hM_0 d_0_1014 rfl hx.2 h1 (by omega) ?_
  refine r_clg (pc' := 1018) (c := (241, 0)) (a := [.inr (.inr (some 53)), .inl (xs (i + 1)).toInt]) (q := [.inl z]) hM_0 d_0_1015 rfl (by decide +kernel) hM_241 rfl rfl rfl (Nat.le_of_ble_eq_true rfl) (Nat.le_of_ble_eq_true rfl) (Or.inr rfl) c2 (Nat.le_refl _) ?_
  show rn fx 101 cr 0 1018 [some (.inr (.inr (some 1000))), some (.inr (.inr (some 0))), some (.inr (.inr (some 53))), some (.inl (i : Int))] [.inl z, .inl z] (st0 m2) _
  refine r_ic (pc' := 1331) (pc2 := 1021) hM_0 d_0_1018 (by decide) rfl (fun _ => ?_) (fun hc => absurd (show am_s z = am_s z from rfl) hc)
  exact hk
theorem lc_29 {fx : am_X0} {L : Nat} {xs : Nat → Int32} {cr : Nat × Nat} {m : am_M} {i : Nat} (hx : LX L xs fx) (hi : i + 6 ≤ L) (hL : L ≤ 3072) (hI : Inv m) (k : ∀ m2, Inv m2 → ∃ S2, rn fx 101 cr 0 1331 [some (.inr (.inr (some 1000))), some (.inr (.inr (some 0))), some (.inr (.inr (some 53))), some (.inl (i : Int))] [] (st0 m2) ([.inl 1], S2)) : ∃ S2, rn fx 101 cr 0 1023 [some (.inr (.inr (some 1000))), some (.inr (.inr (some 0))), some (.inr (.inr (some 53))), some (.inl (i : Int))] [] (st0 m) ([.inl 1], S2) := by
  have h1 : am_s ((i : Int) + 1) = ((i + 1 : Nat) : Int) := am_s_id (by omega) (by omega)
  have h2 : am_s ((i : Int) + 2) = ((i + 2 : Nat) : Int) := am_s_id (by omega) (by omega)
  have h3 : am_s ((i : Int) + 3) = ((i + 3 : Nat) : Int) := am_s_id (by omega) (by omega)
  have h4 : am_s ((i : Int) + 4) = ((i + 4 : Nat) : Int) := am_s_id (by omega) (by omega)
  have h5 : am_s ((i : Int) + 5) = ((i + 5 : Nat) : Int) := am_s_id (by omega) (by omega)
  have hpk : PK 133 4 243 6 [.inl (xs (i + 1)).toInt, .inl (xs (i + 2)).toInt] m := P_ripeBy (sv_s _) (sv_s _) hI
  obtain ⟨r1, m1, ⟨v, hv, r2, m2, ⟨hv2, hI2⟩, hr2⟩, hr1⟩ := hpk
  rw [hv] at hr1
  rw [hv2] at hr2
  have c1 := hr1 fx hx.1
  have c2 := hr2 fx hx.1
  obtain ⟨z, hz⟩ := rn_int hM_133 rfl c1
  rw [hz] at c1 c2
  obtain ⟨S2, hk⟩ := k m2 hI2
  refine ⟨S2, ?_⟩
  refine r_ld (pc' := 1024) hM_0 d_0_1023 rfl rfl ?_
  refine r_ld (pc' := 1025) hM_0 d_0_1024 rfl rfl ?_
  refine r_ld (pc' := 1026) hM_0 d_0_1025 rfl rfl ?_
  refine r_k (pc' := 1027) (v := .inl 1) hM_0 d_0_1026 rfl rfl ?_
  refine r_b (pc' := 1028) (z := ((i : Int) + 1)) hM_0 d_0_1027 rfl rfl ?_
  refine r_sc (pc' := 1029) (j := i + 1) hM_0 d_0_1028 rfl hx.2 h1 (by omega) ?_
  refine r_ld (pc' := 1030) hM_0 d_0_1029 rfl rfl ?_
  refine r_ld (pc' := 1031) hM_0 d_0_1030 rfl rfl ?_
  refine r_k (pc' := 1032) (v := .inl 2) hM_0 d_0_1031 rfl rfl ?_
  refine r_b (pc' := 1033) (z := ((i : Int) + 2)) hM_0 d_0_1032 rfl rfl ?_
  refine r_sc (pc' := 1034) (j := i + 2) hM_0 d_0_1033 rfl hx.2 h2 (by omega) ?_
  refine r_clg (pc' := 1037) (c := (133, 0)) (a := [.inr (.inr (some 0)), .inl (xs (i + 1)).toInt, .inl (xs (i + 2)).toInt]) (q := []) hM_0 d_0_1034 rfl (by decide +kernel) hM_133 rfl rfl rfl (Nat.le_of_ble_eq_true rfl) (Nat.le_of_ble_eq_true rfl) (Or.inr rfl) c1 (Nat.le_refl _) ?_
  show rn fx 101 cr 0 1037 [some (.inr (.inr (some 1000))), some (.inr (.inr (some 0))), some (.inr (.inr (some 53))), some (.inl (i : Int))] [.inl z] (st0 m1) _
  refine r_ld (pc' := 1038) hM_0 d_0_1037 rfl rfl ?_
  refine r_ld (pc' := 1039) hM_0 d_0_1038 rfl rfl ?_
  refine r_ld (pc' := 1040) hM_0 d_0_1039 rfl rfl ?_
  refine r_k (pc' := 1041) (v := .inl 1) hM_0 d_0_1040 rfl rfl ?_
  refine r_b (pc' := 1042) (z := ((i : Int) + 1)) hM_0 d_0_1041 rfl rfl ?_
  refine r_sc (pc' := 1043) (j := i + 1) hM_0 d_0_1042 rfl hx.2 h1 (by omega) ?_
  refine r_ld (pc' := 1044) hM_0 d_0_1043 rfl rfl ?_
  refine r_ld (pc' := 1045) hM_0 d_0_1044 rfl rfl ?_
  refine r_k (pc' := 1046) (v := .inl 2) hM_0 d_0_1045 rfl rfl ?_
  refine r_b (pc' := 1047) (z := ((i : Int) + 2)) hM_0 d_0_1046 rfl rfl ?_
  refine r_sc (pc' := 1048) (j := i + 2) hM_0 d_0_1047 rfl hx.2 h2 (by omega) ?_
  refine r_clg (pc' := 1051) (c := (243, 0)) (a := [.inr (.inr (some 53)), .inl (xs (i + 1)).toInt, .inl (xs (i + 2)).toInt]) (q := [.inl z]) hM_0 d_0_1048 rfl (by decide +kernel) hM_243 rfl rfl rfl (Nat.le_of_ble_eq_true rfl) (Nat.le_of_ble_eq_true rfl) (Or.inr rfl) c2 (Nat.le_refl _) ?_
  show rn fx 101 cr 0 1051 [some (.inr (.inr (some 1000))), some (.inr (.inr (some 0))), some (.inr (.inr (some 53))), some (.inl (i : Int))] [.inl z, .inl z] (st0 m2) _
  refine r_ic (pc' := 1331) (pc2 := 1054) hM_0 d_0_1051 (by decide) rfl (fun _ => ?_) (fun hc => absurd (show am_s z = am_s z from rfl) hc)
  exact hk
theorem lc_30 {fx : am_X0} {L : Nat} {xs : Nat → Int32} {cr : Nat × Nat} {m : am_M} {i : Nat} (hx : LX L xs fx) (hi : i + 6 ≤ L) (hL : L ≤ 3072) (hI : Inv m) (k : ∀ m2, Inv m2 → ∃ S2, rn fx 101 cr 0 1331 [some (.inr (.inr (some 1000))), some (.inr (.inr (some 0))), some (.inr (.inr (some 53))), some (.inl (i : Int))] [] (st0 m2) ([.inl 1], S2)) : ∃ S2, rn fx 101 cr 0 1056 [some (.inr (.inr (some 1000))), some (.inr (.inr (some 0))), some (.inr (.inr (some 53))), some (.inl (i : Int))] [] (st0 m) ([.inl 1], S2) := by
  have h1 : am_s ((i : Int) + 1) = ((i + 1 : Nat) : Int) := am_s_id (by omega) (by omega)
  have h2 : am_s ((i : Int) + 2) = ((i + 2 : Nat) : Int) := am_s_id (by omega) (by omega)
  have h3 : am_s ((i : Int) + 3) = ((i + 3 : Nat) : Int) := am_s_id (by omega) (by omega)
  have h4 : am_s ((i : Int) + 4) = ((i + 4 : Nat) : Int) := am_s_id (by omega) (by omega)
  have h5 : am_s ((i : Int) + 5) = ((i + 5 : Nat) : Int) := am_s_id (by omega) (by omega)
  have hpk : PK 136 5 245 7 [.inl (xs (i + 1)).toInt, .inl (xs (i + 2)).toInt] m := P_orders (sv_s _) (sv_s _) hI
  obtain ⟨r1, m1, ⟨v, hv, r2, m2, ⟨hv2, hI2⟩, hr2⟩, hr1⟩ := hpk
  rw [hv] at hr1
  rw [hv2] at hr2
  have c1 := hr1 fx hx.1
  have c2 := hr2 fx hx.1
  obtain ⟨z, hz⟩ := rn_int hM_136 rfl c1
  rw [hz] at c1 c2
  obtain ⟨S2, hk⟩ := k m2 hI2
  refine ⟨S2, ?_⟩
  refine r_ld (pc' := 1057) hM_0 d_0_1056 rfl rfl ?_
  refine r_ld (pc' := 1058) hM_0 d_0_1057 rfl rfl ?_
  refine r_ld (pc' := 1059) hM_0 d_0_1058 rfl rfl ?_
  refine r_k (pc' := 1060) (v := .inl 1) hM_0 d_0_1059 rfl rfl ?_
  refine r_b (pc' := 1061) (z := ((i : Int) + 1)) hM_0 d_0_1060 rfl rfl ?_
  refine r_sc (pc' := 1062) (j := i + 1) hM_0 d_0_1061 rfl hx.2 h1 (by omega) ?_
  refine r_ld (pc' := 1063) hM_0 d_0_1062 rfl rfl ?_
  refine r_ld (pc' := 1064) hM_0 d_0_1063 rfl rfl ?_
  refine r_k (pc' := 1065) (v := .inl 2) hM_0 d_0_1064 rfl rfl ?_
  refine r_b (pc' := 1066) (z := ((i : Int) + 2)) hM_0 d_0_1065 rfl rfl ?_
  refine r_sc (pc' := 1067) (j := i + 2) hM_0 d_0_1066 rfl hx.2 h2 (by omega) ?_
  refine r_clg (pc' := 1070) (c := (136, 0)) (a := [.inr (.inr (some 0)), .inl (xs (i + 1)).toInt, .inl (xs (i + 2)).toInt]) (q := []) hM_0 d_0_1067 rfl (by decide +kernel) hM_136 rfl rfl rfl (Nat.le_of_ble_eq_true rfl) (Nat.le_of_ble_eq_true rfl) (Or.inr rfl) c1 (Nat.le_refl _) ?_
  show rn fx 101 cr 0 1070 [some (.inr (.inr (some 1000))), some (.inr (.inr (some 0))), some (.inr (.inr (some 53))), some (.inl (i : Int))] [.inl z] (st0 m1) _
  refine r_ld (pc' := 1071) hM_0 d_0_1070 rfl rfl ?_
  refine r_ld (pc' := 1072) hM_0 d_0_1071 rfl rfl ?_
  refine r_ld (pc' := 1073) hM_0 d_0_1072 rfl rfl ?_
  refine r_k (pc' := 1074) (v := .inl 1) hM_0 d_0_1073 rfl rfl ?_
  refine r_b (pc' := 1075) (z := ((i : Int) + 1)) hM_0 d_0_1074 rfl rfl ?_
  refine r_sc (pc' := 1076) (j := i + 1) hM_0 d_0_1075 rfl hx.2 h1 (by omega) ?_
  refine r_ld (pc' := 1077) hM_0 d_0_1076 rfl rfl ?_
  refine r_ld (pc' := 1078) hM_0 d_0_1077 rfl rfl ?_
  refine r_k (pc' := 1079) (v := .inl 2) hM_0 d_0_1078 rfl rfl ?_
  refine r_b (pc' := 1080) (z := ((i : Int) + 2)) hM_0 d_0_1079 rfl rfl ?_
  refine r_sc (pc' := 1081) (j := i + 2) hM_0 d_0_1080 rfl hx.2 h2 (by omega) ?_
  refine r_clg (pc' := 1084) (c := (245, 0)) (a := [.inr (.inr (some 53)), .inl (xs (i + 1)).toInt, .inl (xs (i + 2)).toInt]) (q := [.inl z]) hM_0 d_0_1081 rfl (by decide +kernel) hM_245 rfl rfl rfl (Nat.le_of_ble_eq_true rfl) (Nat.le_of_ble_eq_true rfl) (Or.inr rfl) c2 (Nat.le_refl _) ?_
  show rn fx 101 cr 0 1084 [some (.inr (.inr (some 1000))), some (.inr (.inr (some 0))), some (.inr (.inr (some 53))), some (.inl (i : Int))] [.inl z, .inl z] (st0 m2) _
  refine r_ic (pc' := 1331) (pc2 := 1087) hM_0 d_0_1084 (by decide) rfl (fun _ => ?_) (fun hc => absurd (show am_s z = am_s z from rfl) hc)
  exact hk
theorem lc_31 {fx : am_X0} {L : Nat} {xs : Nat → Int32} {cr : Nat × Nat} {m : am_M} {i : Nat} (hx : LX L xs fx) (hi : i + 6 ≤ L) (hL : L ≤ 3072) (hI : Inv m) (k : ∀ m2, Inv m2 → ∃ S2, rn fx 101 cr 0 1331 [some (.inr (.inr (some 1000))), some (.inr (.inr (some 0))), some (.inr (.inr (some 53))), some (.inl (i : Int))] [] (st0 m2) ([.inl 1], S2)) : ∃ S2, rn fx 101 cr 0 1089 [some (.inr (.inr (some 1000))), some (.inr (.inr (some 0))), some (.inr (.inr (some 53))), some (.inl (i : Int))] [] (st0 m) ([.inl 1], S2) := by
  have h1 : am_s ((i : Int) + 1) = ((i + 1 : Nat) : Int) := am_s_id (by omega) (by omega)
  have h2 : am_s ((i : Int) + 2) = ((i + 2 : Nat) : Int) := am_s_id (by omega) (by omega)
  have h3 : am_s ((i : Int) + 3) = ((i + 3 : Nat) : Int) := am_s_id (by omega) (by omega)
  have h4 : am_s ((i : Int) + 4) = ((i + 4 : Nat) : Int) := am_s_id (by omega) (by omega)
  have h5 : am_s ((i : Int) + 5) = ((i + 5 : Nat) : Int) := am_s_id (by omega) (by omega)
  have hpk : PK 144 2 248 2 [.inl (xs (i + 1)).toInt] m := P_apart (sv_s _) hI
  obtain ⟨r1, m1, ⟨v, hv, r2, m2, ⟨hv2, hI2⟩, hr2⟩, hr1⟩ := hpk
  rw [hv] at hr1
  rw [hv2] at hr2
  have c1 := hr1 fx hx.1
  have c2 := hr2 fx hx.1
  obtain ⟨z, hz⟩ := rn_int hM_144 rfl c1
  rw [hz] at c1 c2
  obtain ⟨S2, hk⟩ := k m2 hI2
  refine ⟨S2, ?_⟩
  refine r_ld (pc' := 1090) hM_0 d_0_1089 rfl rfl ?_
  refine r_ld (pc' := 1091) hM_0 d_0_1090 rfl rfl ?_
  refine r_ld (pc' := 1092) hM_0 d_0_1091 rfl rfl ?_
  refine r_k (pc' := 1093) (v := .inl 1) hM_0 d_0_1092 rfl rfl ?_
  refine r_b (pc' := 1094) (z := ((i : Int) + 1)) hM_0 d_0_1093 rfl rfl ?_
  refine r_sc (pc' := 1095) (j := i + 1) hM_0 d_0_1094 rfl hx.2 h1 (by omega) ?_
  refine r_clg (pc' := 1098) (c := (144, 0)) (a := [.inr (.inr (some 0)), .inl (xs (i + 1)).toInt]) (q := []) hM_0 d_0_1095 rfl (by decide +kernel) hM_144 rfl rfl rfl (Nat.le_of_ble_eq_true rfl) (Nat.le_of_ble_eq_true rfl) (Or.inr rfl) c1 (Nat.le_refl _) ?_
  show rn fx 101 cr 0 1098 [some (.inr (.inr (some 1000))), some (.inr (.inr (some 0))), some (.inr (.inr (some 53))), some (.inl (i : Int))] [.inl z] (st0 m1) _
  refine r_ld (pc' := 1099) hM_0 d_0_1098 rfl rfl ?_
  refine r_ld (pc' := 1100) hM_0 d_0_1099 rfl rfl ?_
  refine r_ld (pc' := 1101) hM_0 d_0_1100 rfl rfl ?_
  refine r_k (pc' := 1102) (v := .inl 1) hM_0 d_0_1101 rfl rfl ?_
  refine r_b (pc' := 1103) (z := ((i : Int) + 1)) hM_0 d_0_1102 rfl rfl ?_
  refine r_sc (pc' := 1104) (j := i + 1) hM_0 d_0_1103 rfl hx.2 h1 (by omega) ?_
  refine r_clg (pc' := 1107) (c := (248, 0)) (a := [.inr (.inr (some 53)), .inl (xs (i + 1)).toInt]) (q := [.inl z]) hM_0 d_0_1104 rfl (by decide +kernel) hM_248 rfl rfl rfl (Nat.le_of_ble_eq_true rfl) (Nat.le_of_ble_eq_true rfl) (Or.inr rfl) c2 (Nat.le_refl _) ?_
  show rn fx 101 cr 0 1107 [some (.inr (.inr (some 1000))), some (.inr (.inr (some 0))), some (.inr (.inr (some 53))), some (.inl (i : Int))] [.inl z, .inl z] (st0 m2) _
  refine r_ic (pc' := 1331) (pc2 := 1110) hM_0 d_0_1107 (by decide) rfl (fun _ => ?_) (fun hc => absurd (show am_s z = am_s z from rfl) hc)
  exact hk
theorem lc_32 {fx : am_X0} {L : Nat} {xs : Nat → Int32} {cr : Nat × Nat} {m : am_M} {i : Nat} (hx : LX L xs fx) (hi : i + 6 ≤ L) (hL : L ≤ 3072) (hI : Inv m) (k : ∀ m2, Inv m2 → ∃ S2, rn fx 101 cr 0 1331 [some (.inr (.inr (some 1000))), some (.inr (.inr (some 0))), some (.inr (.inr (some 53))), some (.inl (i : Int))] [] (st0 m2) ([.inl 1], S2)) : ∃ S2, rn fx 101 cr 0 1112 [some (.inr (.inr (some 1000))), some (.inr (.inr (some 0))), some (.inr (.inr (some 53))), some (.inl (i : Int))] [] (st0 m) ([.inl 1], S2) := by
  have h1 : am_s ((i : Int) + 1) = ((i + 1 : Nat) : Int) := am_s_id (by omega) (by omega)
  have h2 : am_s ((i : Int) + 2) = ((i + 2 : Nat) : Int) := am_s_id (by omega) (by omega)
  have h3 : am_s ((i : Int) + 3) = ((i + 3 : Nat) : Int) := am_s_id (by omega) (by omega)
  have h4 : am_s ((i : Int) + 4) = ((i + 4 : Nat) : Int) := am_s_id (by omega) (by omega)
  have h5 : am_s ((i : Int) + 5) = ((i + 5 : Nat) : Int) := am_s_id (by omega) (by omega)
  have hpk : PK 153 4 251 5 [.inl (xs (i + 1)).toInt, .inl (xs (i + 2)).toInt, .inl (xs (i + 3)).toInt] m := P_numbers (sv_s _) (sv_s _) (sv_s _) hI
  obtain ⟨r1, m1, ⟨v, hv, r2, m2, ⟨hv2, hI2⟩, hr2⟩, hr1⟩ := hpk
  rw [hv] at hr1
  rw [hv2] at hr2
  have c1 := hr1 fx hx.1
  have c2 := hr2 fx hx.1
  obtain ⟨z, hz⟩ := rn_int hM_153 rfl c1
  rw [hz] at c1 c2
  obtain ⟨S2, hk⟩ := k m2 hI2
  refine ⟨S2, ?_⟩
  refine r_ld (pc' := 1113) hM_0 d_0_1112 rfl rfl ?_
  refine r_ld (pc' := 1114) hM_0 d_0_1113 rfl rfl ?_
  refine r_ld (pc' := 1115) hM_0 d_0_1114 rfl rfl ?_
  refine r_k (pc' := 1116) (v := .inl 1) hM_0 d_0_1115 rfl rfl ?_
  refine r_b (pc' := 1117) (z := ((i : Int) + 1)) hM_0 d_0_1116 rfl rfl ?_
  refine r_sc (pc' := 1118) (j := i + 1) hM_0 d_0_1117 rfl hx.2 h1 (by omega) ?_
  refine r_ld (pc' := 1119) hM_0 d_0_1118 rfl rfl ?_
  refine r_ld (pc' := 1120) hM_0 d_0_1119 rfl rfl ?_
  refine r_k (pc' := 1121) (v := .inl 2) hM_0 d_0_1120 rfl rfl ?_
  refine r_b (pc' := 1122) (z := ((i : Int) + 2)) hM_0 d_0_1121 rfl rfl ?_
  refine r_sc (pc' := 1123) (j := i + 2) hM_0 d_0_1122 rfl hx.2 h2 (by omega) ?_
  refine r_ld (pc' := 1124) hM_0 d_0_1123 rfl rfl ?_
  refine r_ld (pc' := 1125) hM_0 d_0_1124 rfl rfl ?_
  refine r_k (pc' := 1126) (v := .inl 3) hM_0 d_0_1125 rfl rfl ?_
  refine r_b (pc' := 1127) (z := ((i : Int) + 3)) hM_0 d_0_1126 rfl rfl ?_
  refine r_sc (pc' := 1128) (j := i + 3) hM_0 d_0_1127 rfl hx.2 h3 (by omega) ?_
  refine r_clg (pc' := 1131) (c := (153, 0)) (a := [.inr (.inr (some 0)), .inl (xs (i + 1)).toInt, .inl (xs (i + 2)).toInt, .inl (xs (i + 3)).toInt]) (q := []) hM_0 d_0_1128 rfl (by decide +kernel) hM_153 rfl rfl rfl (Nat.le_of_ble_eq_true rfl) (Nat.le_of_ble_eq_true rfl) (Or.inr rfl) c1 (Nat.le_refl _) ?_
  show rn fx 101 cr 0 1131 [some (.inr (.inr (some 1000))), some (.inr (.inr (some 0))), some (.inr (.inr (some 53))), some (.inl (i : Int))] [.inl z] (st0 m1) _
  refine r_ld (pc' := 1132) hM_0 d_0_1131 rfl rfl ?_
  refine r_ld (pc' := 1133) hM_0 d_0_1132 rfl rfl ?_
  refine r_ld (pc' := 1134) hM_0 d_0_1133 rfl rfl ?_
  refine r_k (pc' := 1135) (v := .inl 1) hM_0 d_0_1134 rfl rfl ?_
  refine r_b (pc' := 1136) (z := ((i : Int) + 1)) hM_0 d_0_1135 rfl rfl ?_
  refine r_sc (pc' := 1137) (j := i + 1) hM_0 d_0_1136 rfl hx.2 h1 (by omega) ?_
  refine r_ld (pc' := 1138) hM_0 d_0_1137 rfl rfl ?_
  refine r_ld (pc' := 1139) hM_0 d_0_1138 rfl rfl ?_
  refine r_k (pc' := 1140) (v := .inl 2) hM_0 d_0_1139 rfl rfl ?_
  refine r_b (pc' := 1141) (z := ((i : Int) + 2)) hM_0 d_0_1140 rfl rfl ?_
  refine r_sc (pc' := 1142) (j := i + 2) hM_0 d_0_1141 rfl hx.2 h2 (by omega) ?_
  refine r_ld (pc' := 1143) hM_0 d_0_1142 rfl rfl ?_
  refine r_ld (pc' := 1144) hM_0 d_0_1143 rfl rfl ?_
  refine r_k (pc' := 1145) (v := .inl 3) hM_0 d_0_1144 rfl rfl ?_
  refine r_b (pc' := 1146) (z := ((i : Int) + 3)) hM_0 d_0_1145 rfl rfl ?_
  refine r_sc (pc' := 1147) (j := i + 3) hM_0 d_0_1146 rfl hx.2 h3 (by omega) ?_
  refine r_clg (pc' := 1150) (c := (251, 0)) (a := [.inr (.inr (some 53)), .inl (xs (i + 1)).toInt, .inl (xs (i + 2)).toInt, .inl (xs (i + 3)).toInt]) (q := [.inl z]) hM_0 d_0_1147 rfl (by decide +kernel) hM_251 rfl rfl rfl (Nat.le_of_ble_eq_true rfl) (Nat.le_of_ble_eq_true rfl) (Or.inr rfl) c2 (Nat.le_refl _) ?_
  show rn fx 101 cr 0 1150 [some (.inr (.inr (some 1000))), some (.inr (.inr (some 0))), some (.inr (.inr (some 53))), some (.inl (i : Int))] [.inl z, .inl z] (st0 m2) _
  refine r_ic (pc' := 1331) (pc2 := 1153) hM_0 d_0_1150 (by decide) rfl (fun _ => ?_) (fun hc => absurd (show am_s z = am_s z from rfl) hc)
  exact hk
theorem lc_33 {fx : am_X0} {L : Nat} {xs : Nat → Int32} {cr : Nat × Nat} {m : am_M} {i : Nat} (hx : LX L xs fx) (hi : i + 6 ≤ L) (hL : L ≤ 3072) (hI : Inv m) (k : ∀ m2, Inv m2 → ∃ S2, rn fx 101 cr 0 1331 [some (.inr (.inr (some 1000))), some (.inr (.inr (some 0))), some (.inr (.inr (some 53))), some (.inl (i : Int))] [] (st0 m2) ([.inl 1], S2)) : ∃ S2, rn fx 101 cr 0 1155 [some (.inr (.inr (some 1000))), some (.inr (.inr (some 0))), some (.inr (.inr (some 53))), some (.inl (i : Int))] [] (st0 m) ([.inl 1], S2) := by
  have h1 : am_s ((i : Int) + 1) = ((i + 1 : Nat) : Int) := am_s_id (by omega) (by omega)
  have h2 : am_s ((i : Int) + 2) = ((i + 2 : Nat) : Int) := am_s_id (by omega) (by omega)
  have h3 : am_s ((i : Int) + 3) = ((i + 3 : Nat) : Int) := am_s_id (by omega) (by omega)
  have h4 : am_s ((i : Int) + 4) = ((i + 4 : Nat) : Int) := am_s_id (by omega) (by omega)
  have h5 : am_s ((i : Int) + 5) = ((i + 5 : Nat) : Int) := am_s_id (by omega) (by omega)
  have hpk : PK 156 6 252 5 [.inl (xs (i + 1)).toInt, .inl (xs (i + 2)).toInt, .inr (.inl (am_lorL (am_shlL (am_s (xs (i + 3)).toInt) 32) (am_landL (am_s (xs (i + 4)).toInt) 4294967295)))] m := P_write (sv_s _) (sv_s _) (tv_t _) hI
  obtain ⟨r1, m1, ⟨v, hv, r2, m2, ⟨hv2, hI2⟩, hr2⟩, hr1⟩ := hpk
  rw [hv] at hr1
  rw [hv2] at hr2
  have c1 := hr1 fx hx.1
  have c2 := hr2 fx hx.1
  obtain ⟨z, hz⟩ := rn_long hM_156 rfl c1
  rw [hz] at c1 c2
  obtain ⟨S2, hk⟩ := k m2 hI2
  refine ⟨S2, ?_⟩
  refine r_ld (pc' := 1156) hM_0 d_0_1155 rfl rfl ?_
  refine r_ld (pc' := 1157) hM_0 d_0_1156 rfl rfl ?_
  refine r_ld (pc' := 1158) hM_0 d_0_1157 rfl rfl ?_
  refine r_k (pc' := 1159) (v := .inl 1) hM_0 d_0_1158 rfl rfl ?_
  refine r_b (pc' := 1160) (z := ((i : Int) + 1)) hM_0 d_0_1159 rfl rfl ?_
  refine r_sc (pc' := 1161) (j := i + 1) hM_0 d_0_1160 rfl hx.2 h1 (by omega) ?_
  refine r_ld (pc' := 1162) hM_0 d_0_1161 rfl rfl ?_
  refine r_ld (pc' := 1163) hM_0 d_0_1162 rfl rfl ?_
  refine r_k (pc' := 1164) (v := .inl 2) hM_0 d_0_1163 rfl rfl ?_
  refine r_b (pc' := 1165) (z := ((i : Int) + 2)) hM_0 d_0_1164 rfl rfl ?_
  refine r_sc (pc' := 1166) (j := i + 2) hM_0 d_0_1165 rfl hx.2 h2 (by omega) ?_
  refine r_ld (pc' := 1167) hM_0 d_0_1166 rfl rfl ?_
  refine r_ld (pc' := 1168) hM_0 d_0_1167 rfl rfl ?_
  refine r_k (pc' := 1169) (v := .inl 3) hM_0 d_0_1168 rfl rfl ?_
  refine r_b (pc' := 1170) (z := ((i : Int) + 3)) hM_0 d_0_1169 rfl rfl ?_
  refine r_sc (pc' := 1171) (j := i + 3) hM_0 d_0_1170 rfl hx.2 h3 (by omega) ?_
  refine r_stk (pc' := 1172) (st' := [.inr (.inl (am_s (xs (i + 3)).toInt)), .inl (xs (i + 2)).toInt, .inl (xs (i + 1)).toInt, .inr (.inr (some 0))]) hM_0 d_0_1171 rfl rfl ?_
  refine r_k (pc' := 1174) (v := .inl 32) hM_0 d_0_1172 rfl rfl ?_
  refine r_stk (pc' := 1175) (st' := [.inr (.inl (am_shlL (am_s (xs (i + 3)).toInt) 32)), .inl (xs (i + 2)).toInt, .inl (xs (i + 1)).toInt, .inr (.inr (some 0))]) hM_0 d_0_1174 rfl rfl ?_
  refine r_ld (pc' := 1176) hM_0 d_0_1175 rfl rfl ?_
  refine r_ld (pc' := 1177) hM_0 d_0_1176 rfl rfl ?_
  refine r_k (pc' := 1178) (v := .inl 4) hM_0 d_0_1177 rfl rfl ?_
  refine r_b (pc' := 1179) (z := ((i : Int) + 4)) hM_0 d_0_1178 rfl rfl ?_
  refine r_sc (pc' := 1180) (j := i + 4) hM_0 d_0_1179 rfl hx.2 h4 (by omega) ?_
  refine r_stk (pc' := 1181) (st' := [.inr (.inl (am_s (xs (i + 4)).toInt)), .inr (.inl (am_shlL (am_s (xs (i + 3)).toInt) 32)), .inl (xs (i + 2)).toInt, .inl (xs (i + 1)).toInt, .inr (.inr (some 0))]) hM_0 d_0_1180 rfl rfl ?_
  refine r_k (pc' := 1184) (v := .inr (.inl 4294967295)) hM_0 d_0_1181 rfl (by decide +kernel) ?_
  refine r_stk (pc' := 1185) (st' := [.inr (.inl (am_landL (am_s (xs (i + 4)).toInt) 4294967295)), .inr (.inl (am_shlL (am_s (xs (i + 3)).toInt) 32)), .inl (xs (i + 2)).toInt, .inl (xs (i + 1)).toInt, .inr (.inr (some 0))]) hM_0 d_0_1184 rfl rfl ?_
  refine r_stk (pc' := 1186) (st' := [.inr (.inl (am_lorL (am_shlL (am_s (xs (i + 3)).toInt) 32) (am_landL (am_s (xs (i + 4)).toInt) 4294967295))), .inl (xs (i + 2)).toInt, .inl (xs (i + 1)).toInt, .inr (.inr (some 0))]) hM_0 d_0_1185 rfl rfl ?_
  refine r_clg (pc' := 1189) (c := (156, 0)) (a := [.inr (.inr (some 0)), .inl (xs (i + 1)).toInt, .inl (xs (i + 2)).toInt, .inr (.inl (am_lorL (am_shlL (am_s (xs (i + 3)).toInt) 32) (am_landL (am_s (xs (i + 4)).toInt) 4294967295)))]) (q := []) hM_0 d_0_1186 rfl (by decide +kernel) hM_156 rfl rfl rfl (Nat.le_of_ble_eq_true rfl) (Nat.le_of_ble_eq_true rfl) (Or.inr rfl) c1 (Nat.le_refl _) ?_
  show rn fx 101 cr 0 1189 [some (.inr (.inr (some 1000))), some (.inr (.inr (some 0))), some (.inr (.inr (some 53))), some (.inl (i : Int))] [.inr (.inl z)] (st0 m1) _
  refine r_ld (pc' := 1190) hM_0 d_0_1189 rfl rfl ?_
  refine r_ld (pc' := 1191) hM_0 d_0_1190 rfl rfl ?_
  refine r_ld (pc' := 1192) hM_0 d_0_1191 rfl rfl ?_
  refine r_k (pc' := 1193) (v := .inl 1) hM_0 d_0_1192 rfl rfl ?_
  refine r_b (pc' := 1194) (z := ((i : Int) + 1)) hM_0 d_0_1193 rfl rfl ?_
  refine r_sc (pc' := 1195) (j := i + 1) hM_0 d_0_1194 rfl hx.2 h1 (by omega) ?_
  refine r_ld (pc' := 1196) hM_0 d_0_1195 rfl rfl ?_
  refine r_ld (pc' := 1197) hM_0 d_0_1196 rfl rfl ?_
  refine r_k (pc' := 1198) (v := .inl 2) hM_0 d_0_1197 rfl rfl ?_
  refine r_b (pc' := 1199) (z := ((i : Int) + 2)) hM_0 d_0_1198 rfl rfl ?_
  refine r_sc (pc' := 1200) (j := i + 2) hM_0 d_0_1199 rfl hx.2 h2 (by omega) ?_
  refine r_ld (pc' := 1201) hM_0 d_0_1200 rfl rfl ?_
  refine r_ld (pc' := 1202) hM_0 d_0_1201 rfl rfl ?_
  refine r_k (pc' := 1203) (v := .inl 3) hM_0 d_0_1202 rfl rfl ?_
  refine r_b (pc' := 1204) (z := ((i : Int) + 3)) hM_0 d_0_1203 rfl rfl ?_
  refine r_sc (pc' := 1205) (j := i + 3) hM_0 d_0_1204 rfl hx.2 h3 (by omega) ?_
  refine r_stk (pc' := 1206) (st' := [.inr (.inl (am_s (xs (i + 3)).toInt)), .inl (xs (i + 2)).toInt, .inl (xs (i + 1)).toInt, .inr (.inr (some 53)), .inr (.inl z)]) hM_0 d_0_1205 rfl rfl ?_
  refine r_k (pc' := 1208) (v := .inl 32) hM_0 d_0_1206 rfl rfl ?_
  refine r_stk (pc' := 1209) (st' := [.inr (.inl (am_shlL (am_s (xs (i + 3)).toInt) 32)), .inl (xs (i + 2)).toInt, .inl (xs (i + 1)).toInt, .inr (.inr (some 53)), .inr (.inl z)]) hM_0 d_0_1208 rfl rfl ?_
  refine r_ld (pc' := 1210) hM_0 d_0_1209 rfl rfl ?_
  refine r_ld (pc' := 1211) hM_0 d_0_1210 rfl rfl ?_
  refine r_k (pc' := 1212) (v := .inl 4) hM_0 d_0_1211 rfl rfl ?_
  refine r_b (pc' := 1213) (z := ((i : Int) + 4)) hM_0 d_0_1212 rfl rfl ?_
  refine r_sc (pc' := 1214) (j := i + 4) hM_0 d_0_1213 rfl hx.2 h4 (by omega) ?_
  refine r_stk (pc' := 1215) (st' := [.inr (.inl (am_s (xs (i + 4)).toInt)), .inr (.inl (am_shlL (am_s (xs (i + 3)).toInt) 32)), .inl (xs (i + 2)).toInt, .inl (xs (i + 1)).toInt, .inr (.inr (some 53)), .inr (.inl z)]) hM_0 d_0_1214 rfl rfl ?_
  refine r_k (pc' := 1218) (v := .inr (.inl 4294967295)) hM_0 d_0_1215 rfl (by decide +kernel) ?_
  refine r_stk (pc' := 1219) (st' := [.inr (.inl (am_landL (am_s (xs (i + 4)).toInt) 4294967295)), .inr (.inl (am_shlL (am_s (xs (i + 3)).toInt) 32)), .inl (xs (i + 2)).toInt, .inl (xs (i + 1)).toInt, .inr (.inr (some 53)), .inr (.inl z)]) hM_0 d_0_1218 rfl rfl ?_
  refine r_stk (pc' := 1220) (st' := [.inr (.inl (am_lorL (am_shlL (am_s (xs (i + 3)).toInt) 32) (am_landL (am_s (xs (i + 4)).toInt) 4294967295))), .inl (xs (i + 2)).toInt, .inl (xs (i + 1)).toInt, .inr (.inr (some 53)), .inr (.inl z)]) hM_0 d_0_1219 rfl rfl ?_
  refine r_clg (pc' := 1223) (c := (252, 0)) (a := [.inr (.inr (some 53)), .inl (xs (i + 1)).toInt, .inl (xs (i + 2)).toInt, .inr (.inl (am_lorL (am_shlL (am_s (xs (i + 3)).toInt) 32) (am_landL (am_s (xs (i + 4)).toInt) 4294967295)))]) (q := [.inr (.inl z)]) hM_0 d_0_1220 rfl (by decide +kernel) hM_252 rfl rfl rfl (Nat.le_of_ble_eq_true rfl) (Nat.le_of_ble_eq_true rfl) (Or.inr rfl) c2 (Nat.le_refl _) ?_
  show rn fx 101 cr 0 1223 [some (.inr (.inr (some 1000))), some (.inr (.inr (some 0))), some (.inr (.inr (some 53))), some (.inl (i : Int))] [.inr (.inl z), .inr (.inl z)] (st0 m2) _
  refine r_stk (pc' := 1224) (st' := [.inl (am_lcmp z z)]) hM_0 d_0_1223 rfl rfl ?_
  rw [lcmp0]
  refine r_if (pc' := 1331) (pc2 := 1227) hM_0 d_0_1224 (by decide) rfl (fun _ => ?_) (fun hc => absurd (show am_s 0 = 0 by decide) hc)
  exact hk
theorem lc_34 {fx : am_X0} {L : Nat} {xs : Nat → Int32} {cr : Nat × Nat} {m : am_M} {i : Nat} (hx : LX L xs fx) (hi : i + 6 ≤ L) (hL : L ≤ 3072) (hI : Inv m) (k : ∀ m2, Inv m2 → ∃ S2, rn fx 101 cr 0 1331 [some (.inr (.inr (some 1000))), some (.inr (.inr (some 0))), some (.inr (.inr (some 53))), some (.inl (i : Int))] [] (st0 m2) ([.inl 1], S2)) : ∃ S2, rn fx 101 cr 0 1229 [some (.inr (.inr (some 1000))), some (.inr (.inr (some 0))), some (.inr (.inr (some 53))), some (.inl (i : Int))] [] (st0 m) ([.inl 1], S2) := by
  have h1 : am_s ((i : Int) + 1) = ((i + 1 : Nat) : Int) := am_s_id (by omega) (by omega)
  have h2 : am_s ((i : Int) + 2) = ((i + 2 : Nat) : Int) := am_s_id (by omega) (by omega)
  have h3 : am_s ((i : Int) + 3) = ((i + 3 : Nat) : Int) := am_s_id (by omega) (by omega)
  have h4 : am_s ((i : Int) + 4) = ((i + 4 : Nat) : Int) := am_s_id (by omega) (by omega)
  have h5 : am_s ((i : Int) + 5) = ((i + 5 : Nat) : Int) := am_s_id (by omega) (by omega)
  have hpk : PK 158 8 254 5 [.inl (xs (i + 1)).toInt, .inl (xs (i + 2)).toInt] m := P_copy (sv_s _) (sv_s _) hI
  obtain ⟨r1, m1, ⟨v, hv, r2, m2, ⟨hv2, hI2⟩, hr2⟩, hr1⟩ := hpk
  rw [hv] at hr1
  rw [hv2] at hr2
  have c1 := hr1 fx hx.1
  have c2 := hr2 fx hx.1
  obtain ⟨z, hz⟩ := rn_int hM_158 rfl c1
  rw [hz] at c1 c2
  obtain ⟨S2, hk⟩ := k m2 hI2
  refine ⟨S2, ?_⟩
  refine r_ld (pc' := 1230) hM_0 d_0_1229 rfl rfl ?_
  refine r_ld (pc' := 1231) hM_0 d_0_1230 rfl rfl ?_
  refine r_ld (pc' := 1232) hM_0 d_0_1231 rfl rfl ?_
  refine r_k (pc' := 1233) (v := .inl 1) hM_0 d_0_1232 rfl rfl ?_
  refine r_b (pc' := 1234) (z := ((i : Int) + 1)) hM_0 d_0_1233 rfl rfl ?_
  refine r_sc (pc' := 1235) (j := i + 1) hM_0 d_0_1234 rfl hx.2 h1 (by omega) ?_
  refine r_ld (pc' := 1236) hM_0 d_0_1235 rfl rfl ?_
  refine r_ld (pc' := 1237) hM_0 d_0_1236 rfl rfl ?_
  refine r_k (pc' := 1238) (v := .inl 2) hM_0 d_0_1237 rfl rfl ?_
  refine r_b (pc' := 1239) (z := ((i : Int) + 2)) hM_0 d_0_1238 rfl rfl ?_
  refine r_sc (pc' := 1240) (j := i + 2) hM_0 d_0_1239 rfl hx.2 h2 (by omega) ?_
  refine r_clg (pc' := 1243) (c := (158, 0)) (a := [.inr (.inr (some 0)), .inl (xs (i + 1)).toInt, .inl (xs (i + 2)).toInt]) (q := []) hM_0 d_0_1240 rfl (by decide +kernel) hM_158 rfl rfl rfl (Nat.le_of_ble_eq_true rfl) (Nat.le_of_ble_eq_true rfl) (Or.inr rfl) c1 (Nat.le_refl _) ?_
  show rn fx 101 cr 0 1243 [some (.inr (.inr (some 1000))), some (.inr (.inr (some 0))), some (.inr (.inr (some 53))), some (.inl (i : Int))] [.inl z] (st0 m1) _
  refine r_ld (pc' := 1244) hM_0 d_0_1243 rfl rfl ?_
  refine r_ld (pc' := 1245) hM_0 d_0_1244 rfl rfl ?_
  refine r_ld (pc' := 1246) hM_0 d_0_1245 rfl rfl ?_
  refine r_k (pc' := 1247) (v := .inl 1) hM_0 d_0_1246 rfl rfl ?_
  refine r_b (pc' := 1248) (z := ((i : Int) + 1)) hM_0 d_0_1247 rfl rfl ?_
  refine r_sc (pc' := 1249) (j := i + 1) hM_0 d_0_1248 rfl hx.2 h1 (by omega) ?_
  refine r_ld (pc' := 1250) hM_0 d_0_1249 rfl rfl ?_
  refine r_ld (pc' := 1251) hM_0 d_0_1250 rfl rfl ?_
  refine r_k (pc' := 1252) (v := .inl 2) hM_0 d_0_1251 rfl rfl ?_
  refine r_b (pc' := 1253) (z := ((i : Int) + 2)) hM_0 d_0_1252 rfl rfl ?_
  refine r_sc (pc' := 1254) (j := i + 2) hM_0 d_0_1253 rfl hx.2 h2 (by omega) ?_
  refine r_clg (pc' := 1257) (c := (254, 0)) (a := [.inr (.inr (some 53)), .inl (xs (i + 1)).toInt, .inl (xs (i + 2)).toInt]) (q := [.inl z]) hM_0 d_0_1254 rfl (by decide +kernel) hM_254 rfl rfl rfl (Nat.le_of_ble_eq_true rfl) (Nat.le_of_ble_eq_true rfl) (Or.inr rfl) c2 (Nat.le_refl _) ?_
  show rn fx 101 cr 0 1257 [some (.inr (.inr (some 1000))), some (.inr (.inr (some 0))), some (.inr (.inr (some 53))), some (.inl (i : Int))] [.inl z, .inl z] (st0 m2) _
  refine r_ic (pc' := 1331) (pc2 := 1260) hM_0 d_0_1257 (by decide) rfl (fun _ => ?_) (fun hc => absurd (show am_s z = am_s z from rfl) hc)
  exact hk
theorem lc_35 {fx : am_X0} {L : Nat} {xs : Nat → Int32} {cr : Nat × Nat} {m : am_M} {i : Nat} (hx : LX L xs fx) (hi : i + 6 ≤ L) (hL : L ≤ 3072) (hI : Inv m) (k : ∀ m2, Inv m2 → ∃ S2, rn fx 101 cr 0 1331 [some (.inr (.inr (some 1000))), some (.inr (.inr (some 0))), some (.inr (.inr (some 53))), some (.inl (i : Int))] [] (st0 m2) ([.inl 1], S2)) : ∃ S2, rn fx 101 cr 0 1262 [some (.inr (.inr (some 1000))), some (.inr (.inr (some 0))), some (.inr (.inr (some 53))), some (.inl (i : Int))] [] (st0 m) ([.inl 1], S2) := by
  have h1 : am_s ((i : Int) + 1) = ((i + 1 : Nat) : Int) := am_s_id (by omega) (by omega)
  have h2 : am_s ((i : Int) + 2) = ((i + 2 : Nat) : Int) := am_s_id (by omega) (by omega)
  have h3 : am_s ((i : Int) + 3) = ((i + 3 : Nat) : Int) := am_s_id (by omega) (by omega)
  have h4 : am_s ((i : Int) + 4) = ((i + 4 : Nat) : Int) := am_s_id (by omega) (by omega)
  have h5 : am_s ((i : Int) + 5) = ((i + 5 : Nat) : Int) := am_s_id (by omega) (by omega)
  have hpk : PK 159 2 255 3 [.inl (xs (i + 1)).toInt] m := P_image (sv_s _) hI
  obtain ⟨r1, m1, ⟨v, hv, r2, m2, ⟨hv2, hI2⟩, hr2⟩, hr1⟩ := hpk
  rw [hv] at hr1
  rw [hv2] at hr2
  have c1 := hr1 fx hx.1
  have c2 := hr2 fx hx.1
  obtain ⟨z, hz⟩ := rn_int hM_159 rfl c1
  rw [hz] at c1 c2
  obtain ⟨S2, hk⟩ := k m2 hI2
  refine ⟨S2, ?_⟩
  refine r_ld (pc' := 1263) hM_0 d_0_1262 rfl rfl ?_
  refine r_ld (pc' := 1264) hM_0 d_0_1263 rfl rfl ?_
  refine r_ld (pc' := 1265) hM_0 d_0_1264 rfl rfl ?_
  refine r_k (pc' := 1266) (v := .inl 1) hM_0 d_0_1265 rfl rfl ?_
  refine r_b (pc' := 1267) (z := ((i : Int) + 1)) hM_0 d_0_1266 rfl rfl ?_
  refine r_sc (pc' := 1268) (j := i + 1) hM_0 d_0_1267 rfl hx.2 h1 (by omega) ?_
  refine r_clg (pc' := 1271) (c := (159, 0)) (a := [.inr (.inr (some 0)), .inl (xs (i + 1)).toInt]) (q := []) hM_0 d_0_1268 rfl (by decide +kernel) hM_159 rfl rfl rfl (Nat.le_of_ble_eq_true rfl) (Nat.le_of_ble_eq_true rfl) (Or.inr rfl) c1 (Nat.le_refl _) ?_
  show rn fx 101 cr 0 1271 [some (.inr (.inr (some 1000))), some (.inr (.inr (some 0))), some (.inr (.inr (some 53))), some (.inl (i : Int))] [.inl z] (st0 m1) _
  refine r_ld (pc' := 1272) hM_0 d_0_1271 rfl rfl ?_
  refine r_ld (pc' := 1273) hM_0 d_0_1272 rfl rfl ?_
  refine r_ld (pc' := 1274) hM_0 d_0_1273 rfl rfl ?_
  refine r_k (pc' := 1275) (v := .inl 1) hM_0 d_0_1274 rfl rfl ?_
  refine r_b (pc' := 1276) (z := ((i : Int) + 1)) hM_0 d_0_1275 rfl rfl ?_
  refine r_sc (pc' := 1277) (j := i + 1) hM_0 d_0_1276 rfl hx.2 h1 (by omega) ?_
  refine r_clg (pc' := 1280) (c := (255, 0)) (a := [.inr (.inr (some 53)), .inl (xs (i + 1)).toInt]) (q := [.inl z]) hM_0 d_0_1277 rfl (by decide +kernel) hM_255 rfl rfl rfl (Nat.le_of_ble_eq_true rfl) (Nat.le_of_ble_eq_true rfl) (Or.inr rfl) c2 (Nat.le_refl _) ?_
  show rn fx 101 cr 0 1280 [some (.inr (.inr (some 1000))), some (.inr (.inr (some 0))), some (.inr (.inr (some 53))), some (.inl (i : Int))] [.inl z, .inl z] (st0 m2) _
  refine r_ic (pc' := 1331) (pc2 := 1283) hM_0 d_0_1280 (by decide) rfl (fun _ => ?_) (fun hc => absurd (show am_s z = am_s z from rfl) hc)
  exact hk
theorem lc_36 {fx : am_X0} {L : Nat} {xs : Nat → Int32} {cr : Nat × Nat} {m : am_M} {i : Nat} (hx : LX L xs fx) (hi : i + 6 ≤ L) (hL : L ≤ 3072) (hI : Inv m) (k : ∀ m2, Inv m2 → ∃ S2, rn fx 101 cr 0 1331 [some (.inr (.inr (some 1000))), some (.inr (.inr (some 0))), some (.inr (.inr (some 53))), some (.inl (i : Int))] [] (st0 m2) ([.inl 1], S2)) : ∃ S2, rn fx 101 cr 0 1285 [some (.inr (.inr (some 1000))), some (.inr (.inr (some 0))), some (.inr (.inr (some 53))), some (.inl (i : Int))] [] (st0 m) ([.inl 1], S2) := by
  have h1 : am_s ((i : Int) + 1) = ((i + 1 : Nat) : Int) := am_s_id (by omega) (by omega)
  have h2 : am_s ((i : Int) + 2) = ((i + 2 : Nat) : Int) := am_s_id (by omega) (by omega)
  have h3 : am_s ((i : Int) + 3) = ((i + 3 : Nat) : Int) := am_s_id (by omega) (by omega)
  have h4 : am_s ((i : Int) + 4) = ((i + 4 : Nat) : Int) := am_s_id (by omega) (by omega)
  have h5 : am_s ((i : Int) + 5) = ((i + 5 : Nat) : Int) := am_s_id (by omega) (by omega)
  have hpk : PK 160 2 256 3 [.inl (xs (i + 1)).toInt] m := P_restore (sv_s _) hI
  obtain ⟨r1, m1, ⟨v, hv, r2, m2, ⟨hv2, hI2⟩, hr2⟩, hr1⟩ := hpk
  rw [hv] at hr1
  rw [hv2] at hr2
  have c1 := hr1 fx hx.1
  have c2 := hr2 fx hx.1
  obtain ⟨z, hz⟩ := rn_int hM_160 rfl c1
  rw [hz] at c1 c2
  obtain ⟨S2, hk⟩ := k m2 hI2
  refine ⟨S2, ?_⟩
  refine r_ld (pc' := 1286) hM_0 d_0_1285 rfl rfl ?_
  refine r_ld (pc' := 1287) hM_0 d_0_1286 rfl rfl ?_
  refine r_ld (pc' := 1288) hM_0 d_0_1287 rfl rfl ?_
  refine r_k (pc' := 1289) (v := .inl 1) hM_0 d_0_1288 rfl rfl ?_
  refine r_b (pc' := 1290) (z := ((i : Int) + 1)) hM_0 d_0_1289 rfl rfl ?_
  refine r_sc (pc' := 1291) (j := i + 1) hM_0 d_0_1290 rfl hx.2 h1 (by omega) ?_
  refine r_clg (pc' := 1294) (c := (160, 0)) (a := [.inr (.inr (some 0)), .inl (xs (i + 1)).toInt]) (q := []) hM_0 d_0_1291 rfl (by decide +kernel) hM_160 rfl rfl rfl (Nat.le_of_ble_eq_true rfl) (Nat.le_of_ble_eq_true rfl) (Or.inr rfl) c1 (Nat.le_refl _) ?_
  show rn fx 101 cr 0 1294 [some (.inr (.inr (some 1000))), some (.inr (.inr (some 0))), some (.inr (.inr (some 53))), some (.inl (i : Int))] [.inl z] (st0 m1) _
  refine r_ld (pc' := 1295) hM_0 d_0_1294 rfl rfl ?_
  refine r_ld (pc' := 1296) hM_0 d_0_1295 rfl rfl ?_
  refine r_ld (pc' := 1297) hM_0 d_0_1296 rfl rfl ?_
  refine r_k (pc' := 1298) (v := .inl 1) hM_0 d_0_1297 rfl rfl ?_
  refine r_b (pc' := 1299) (z := ((i : Int) + 1)) hM_0 d_0_1298 rfl rfl ?_
  refine r_sc (pc' := 1300) (j := i + 1) hM_0 d_0_1299 rfl hx.2 h1 (by omega) ?_
  refine r_clg (pc' := 1303) (c := (256, 0)) (a := [.inr (.inr (some 53)), .inl (xs (i + 1)).toInt]) (q := [.inl z]) hM_0 d_0_1300 rfl (by decide +kernel) hM_256 rfl rfl rfl (Nat.le_of_ble_eq_true rfl) (Nat.le_of_ble_eq_true rfl) (Or.inr rfl) c2 (Nat.le_refl _) ?_
  show rn fx 101 cr 0 1303 [some (.inr (.inr (some 1000))), some (.inr (.inr (some 0))), some (.inr (.inr (some 53))), some (.inl (i : Int))] [.inl z, .inl z] (st0 m2) _
  refine r_ic (pc' := 1331) (pc2 := 1306) hM_0 d_0_1303 (by decide) rfl (fun _ => ?_) (fun hc => absurd (show am_s z = am_s z from rfl) hc)
  exact hk
theorem lc_37 {fx : am_X0} {L : Nat} {xs : Nat → Int32} {cr : Nat × Nat} {m : am_M} {i : Nat} (hx : LX L xs fx) (hi : i + 6 ≤ L) (hL : L ≤ 3072) (hI : Inv m) (k : ∀ m2, Inv m2 → ∃ S2, rn fx 101 cr 0 1331 [some (.inr (.inr (some 1000))), some (.inr (.inr (some 0))), some (.inr (.inr (some 53))), some (.inl (i : Int))] [] (st0 m2) ([.inl 1], S2)) : ∃ S2, rn fx 101 cr 0 1308 [some (.inr (.inr (some 1000))), some (.inr (.inr (some 0))), some (.inr (.inr (some 53))), some (.inl (i : Int))] [] (st0 m) ([.inl 1], S2) := by
  have h1 : am_s ((i : Int) + 1) = ((i + 1 : Nat) : Int) := am_s_id (by omega) (by omega)
  have h2 : am_s ((i : Int) + 2) = ((i + 2 : Nat) : Int) := am_s_id (by omega) (by omega)
  have h3 : am_s ((i : Int) + 3) = ((i + 3 : Nat) : Int) := am_s_id (by omega) (by omega)
  have h4 : am_s ((i : Int) + 4) = ((i + 4 : Nat) : Int) := am_s_id (by omega) (by omega)
  have h5 : am_s ((i : Int) + 5) = ((i + 5 : Nat) : Int) := am_s_id (by omega) (by omega)
  have hpk : PK 161 2 257 2 [.inl (xs (i + 1)).toInt] m := P_count (sv_s _) hI
  obtain ⟨r1, m1, ⟨v, hv, r2, m2, ⟨hv2, hI2⟩, hr2⟩, hr1⟩ := hpk
  rw [hv] at hr1
  rw [hv2] at hr2
  have c1 := hr1 fx hx.1
  have c2 := hr2 fx hx.1
  obtain ⟨z, hz⟩ := rn_int hM_161 rfl c1
  rw [hz] at c1 c2
  obtain ⟨S2, hk⟩ := k m2 hI2
  refine ⟨S2, ?_⟩
  refine r_ld (pc' := 1309) hM_0 d_0_1308 rfl rfl ?_
  refine r_ld (pc' := 1310) hM_0 d_0_1309 rfl rfl ?_
  refine r_ld (pc' := 1311) hM_0 d_0_1310 rfl rfl ?_
  refine r_k (pc' := 1312) (v := .inl 1) hM_0 d_0_1311 rfl rfl ?_
  refine r_b (pc' := 1313) (z := ((i : Int) + 1)) hM_0 d_0_1312 rfl rfl ?_
  refine r_sc (pc' := 1314) (j := i + 1) hM_0 d_0_1313 rfl hx.2 h1 (by omega) ?_
  refine r_clg (pc' := 1317) (c := (161, 0)) (a := [.inr (.inr (some 0)), .inl (xs (i + 1)).toInt]) (q := []) hM_0 d_0_1314 rfl (by decide +kernel) hM_161 rfl rfl rfl (Nat.le_of_ble_eq_true rfl) (Nat.le_of_ble_eq_true rfl) (Or.inr rfl) c1 (Nat.le_refl _) ?_
  show rn fx 101 cr 0 1317 [some (.inr (.inr (some 1000))), some (.inr (.inr (some 0))), some (.inr (.inr (some 53))), some (.inl (i : Int))] [.inl z] (st0 m1) _
  refine r_ld (pc' := 1318) hM_0 d_0_1317 rfl rfl ?_
  refine r_ld (pc' := 1319) hM_0 d_0_1318 rfl rfl ?_
  refine r_ld (pc' := 1320) hM_0 d_0_1319 rfl rfl ?_
  refine r_k (pc' := 1321) (v := .inl 1) hM_0 d_0_1320 rfl rfl ?_
  refine r_b (pc' := 1322) (z := ((i : Int) + 1)) hM_0 d_0_1321 rfl rfl ?_
  refine r_sc (pc' := 1323) (j := i + 1) hM_0 d_0_1322 rfl hx.2 h1 (by omega) ?_
  refine r_clg (pc' := 1326) (c := (257, 0)) (a := [.inr (.inr (some 53)), .inl (xs (i + 1)).toInt]) (q := [.inl z]) hM_0 d_0_1323 rfl (by decide +kernel) hM_257 rfl rfl rfl (Nat.le_of_ble_eq_true rfl) (Nat.le_of_ble_eq_true rfl) (Or.inr rfl) c2 (Nat.le_refl _) ?_
  show rn fx 101 cr 0 1326 [some (.inr (.inr (some 1000))), some (.inr (.inr (some 0))), some (.inr (.inr (some 53))), some (.inl (i : Int))] [.inl z, .inl z] (st0 m2) _
  refine r_ic (pc' := 1331) (pc2 := 1329) hM_0 d_0_1326 (by decide) rfl (fun _ => ?_) (fun hc => absurd (show am_s z = am_s z from rfl) hc)
  exact hk
theorem law_loop {fx : am_X0} {L : Nat} {xs : Nat → Int32} {cr : Nat × Nat} (hx : LX L xs fx) (hL : L ≤ 3072) : ∀ (f i : Nat) (m : am_M), L + 6 - i ≤ f → i ≤ L + 6 → Inv m → ∃ S2, rn fx 101 cr 0 18 [some (.inr (.inr (some 1000))), some (.inr (.inr (some 0))), some (.inr (.inr (some 53))), some (.inl (i : Int))] [] (st0 m) ([.inl 1], S2) := by
  intro f
  induction f with
  | zero =>
    intro i m h1 h2 hI
    have e1 : am_s (i : Int) = (i : Int) := am_s_id (by omega) (by omega)
    have e2 : am_s ((L : Int) - 6) = (L : Int) - 6 := am_s_id (by omega) (by omega)
    refine ⟨st0 m, ?_⟩
    refine r_ld (pc' := 19) hM_0 d_0_18 rfl rfl ?_
    refine r_ld (pc' := 20) hM_0 d_0_19 rfl rfl ?_
    refine r_alF (pc' := 21) (n := L) hM_0 d_0_20 rfl (by decide) hx.2 (by decide) ?_
    refine r_k (pc' := 23) (v := .inl 6) hM_0 d_0_21 rfl rfl ?_
    refine r_b (pc' := 24) (z := ((L : Int) - 6)) hM_0 d_0_23 rfl rfl ?_
    refine r_ic (pc' := 1337) (pc2 := 27) hM_0 d_0_24 (by decide) rfl (fun _ => ?_) (fun hc => absurd (show am_s ((L : Int) - 6) < am_s (i : Int) by rw [e1, e2]; omega) hc)
    refine r_k (pc' := 1338) (v := .inl 1) hM_0 d_0_1337 rfl rfl ?_
    exact rt_z hM_0 d_0_1338 rfl (by decide)
  | succ f ih =>
    intro i m h1 h2 hI
    have e1 : am_s (i : Int) = (i : Int) := am_s_id (by omega) (by omega)
    have e2 : am_s ((L : Int) - 6) = (L : Int) - 6 := am_s_id (by omega) (by omega)
    by_cases hi : i + 6 ≤ L
    · have nxt : ∀ m2, Inv m2 → ∃ S2, rn fx 101 cr 0 1331 [some (.inr (.inr (some 1000))), some (.inr (.inr (some 0))), some (.inr (.inr (some 53))), some (.inl (i : Int))] [] (st0 m2) ([.inl 1], S2) := by
        intro m2 hI2
        obtain ⟨S2, hk⟩ := ih (i + 6) m2 (by omega) (by omega) hI2
        refine ⟨S2, ?_⟩
        refine r_sto (pc' := 1334) (ls' := [some (.inr (.inr (some 1000))), some (.inr (.inr (some 0))), some (.inr (.inr (some 53))), some (.inl ((i : Int) + 6))]) hM_0 d_0_1331 rfl rfl ?_
        refine r_go (pc' := 18) hM_0 d_0_1334 (by decide) ?_
        exact hk
      have hd : ∀ o, rn fx 101 cr 0 33 [some (.inr (.inr (some 1000))), some (.inr (.inr (some 0))), some (.inr (.inr (some 53))), some (.inl (i : Int))] [.inl (am_and (xs i).toInt 63)] (st0 m) o → rn fx 101 cr 0 18 [some (.inr (.inr (some 1000))), some (.inr (.inr (some 0))), some (.inr (.inr (some 53))), some (.inl (i : Int))] [] (st0 m) o := by
        intro o hk
        refine r_ld (pc' := 19) hM_0 d_0_18 rfl rfl ?_
        refine r_ld (pc' := 20) hM_0 d_0_19 rfl rfl ?_
        refine r_alF (pc' := 21) (n := L) hM_0 d_0_20 rfl (by decide) hx.2 (by decide) ?_
        refine r_k (pc' := 23) (v := .inl 6) hM_0 d_0_21 rfl rfl ?_
        refine r_b (pc' := 24) (z := ((L : Int) - 6)) hM_0 d_0_23 rfl rfl ?_
        refine r_ic (pc' := 1337) (pc2 := 27) hM_0 d_0_24 (by decide) rfl (fun hc => absurd (show am_s ((L : Int) - 6) < am_s (i : Int) from hc) (by rw [e1, e2]; omega)) (fun _ => ?_)
        refine r_ld (pc' := 28) hM_0 d_0_27 rfl rfl ?_
        refine r_ld (pc' := 29) hM_0 d_0_28 rfl rfl ?_
        refine r_sc (pc' := 30) (j := i) hM_0 d_0_29 rfl hx.2 e1 (by omega) ?_
        refine r_k (pc' := 32) (v := .inl 63) hM_0 d_0_30 rfl rfl ?_
        refine r_b (pc' := 33) (z := (am_and (xs i).toInt 63)) hM_0 d_0_32 rfl rfl ?_
        exact hk
      by_cases s0 : am_s (am_and (xs i).toInt 63) = 0
      · obtain ⟨S2, hk⟩ := lc_0 (cr := cr) hx hi hL hI nxt
        exact ⟨S2, hd _ (r_tsI (pc' := 200) (off := 0) (t := 167) hM_0 d_0_33 (by rw [s0]; rfl) (by decide) rfl (by decide) hk)⟩
      by_cases s1 : am_s (am_and (xs i).toInt 63) = 1
      · obtain ⟨S2, hk⟩ := lc_1 (cr := cr) hx hi hL hI nxt
        exact ⟨S2, hd _ (r_tsI (pc' := 263) (off := 1) (t := 230) hM_0 d_0_33 (by rw [s1]; rfl) (by decide) rfl (by decide) hk)⟩
      by_cases s2 : am_s (am_and (xs i).toInt 63) = 2
      · obtain ⟨S2, hk⟩ := lc_2 (cr := cr) hx hi hL hI nxt
        exact ⟨S2, hd _ (r_tsI (pc' := 286) (off := 2) (t := 253) hM_0 d_0_33 (by rw [s2]; rfl) (by decide) rfl (by decide) hk)⟩
      by_cases s3 : am_s (am_and (xs i).toInt 63) = 3
      · obtain ⟨S2, hk⟩ := lc_3 (cr := cr) hx hi hL hI nxt
        exact ⟨S2, hd _ (r_tsI (pc' := 309) (off := 3) (t := 276) hM_0 d_0_33 (by rw [s3]; rfl) (by decide) rfl (by decide) hk)⟩
      by_cases s4 : am_s (am_and (xs i).toInt 63) = 4
      · obtain ⟨S2, hk⟩ := lc_4 (cr := cr) hx hi hL hI nxt
        exact ⟨S2, hd _ (r_tsI (pc' := 342) (off := 4) (t := 309) hM_0 d_0_33 (by rw [s4]; rfl) (by decide) rfl (by decide) hk)⟩
      by_cases s5 : am_s (am_and (xs i).toInt 63) = 5
      · obtain ⟨S2, hk⟩ := lc_5 (cr := cr) hx hi hL hI nxt
        exact ⟨S2, hd _ (r_tsI (pc' := 375) (off := 5) (t := 342) hM_0 d_0_33 (by rw [s5]; rfl) (by decide) rfl (by decide) hk)⟩
      by_cases s6 : am_s (am_and (xs i).toInt 63) = 6
      · obtain ⟨S2, hk⟩ := lc_6 (cr := cr) hx hi hL hI nxt
        exact ⟨S2, hd _ (r_tsI (pc' := 398) (off := 6) (t := 365) hM_0 d_0_33 (by rw [s6]; rfl) (by decide) rfl (by decide) hk)⟩
      by_cases s7 : am_s (am_and (xs i).toInt 63) = 7
      · obtain ⟨S2, hk⟩ := lc_7 (cr := cr) hx hi hL hI nxt
        exact ⟨S2, hd _ (r_tsI (pc' := 431) (off := 7) (t := 398) hM_0 d_0_33 (by rw [s7]; rfl) (by decide) rfl (by decide) hk)⟩
      by_cases s8 : am_s (am_and (xs i).toInt 63) = 8
      · obtain ⟨S2, hk⟩ := lc_8 (cr := cr) hx hi hL hI nxt
        exact ⟨S2, hd _ (r_tsI (pc' := 454) (off := 8) (t := 421) hM_0 d_0_33 (by rw [s8]; rfl) (by decide) rfl (by decide) hk)⟩
      by_cases s9 : am_s (am_and (xs i).toInt 63) = 9
      · obtain ⟨S2, hk⟩ := lc_9 (cr := cr) hx hi hL hI nxt
        exact ⟨S2, hd _ (r_tsI (pc' := 487) (off := 9) (t := 454) hM_0 d_0_33 (by rw [s9]; rfl) (by decide) rfl (by decide) hk)⟩
      by_cases s10 : am_s (am_and (xs i).toInt 63) = 10
      · obtain ⟨S2, hk⟩ := lc_10 (cr := cr) hx hi hL hI nxt
        exact ⟨S2, hd _ (r_tsI (pc' := 510) (off := 10) (t := 477) hM_0 d_0_33 (by rw [s10]; rfl) (by decide) rfl (by decide) hk)⟩
      by_cases s11 : am_s (am_and (xs i).toInt 63) = 11
      · obtain ⟨S2, hk⟩ := lc_11 (cr := cr) hx hi hL hI nxt
        exact ⟨S2, hd _ (r_tsI (pc' := 543) (off := 11) (t := 510) hM_0 d_0_33 (by rw [s11]; rfl) (by decide) rfl (by decide) hk)⟩
      by_cases s12 : am_s (am_and (xs i).toInt 63) = 12
      · obtain ⟨S2, hk⟩ := lc_12 (cr := cr) hx hi hL hI nxt
        exact ⟨S2, hd _ (r_tsI (pc' := 566) (off := 12) (t := 533) hM_0 d_0_33 (by rw [s12]; rfl) (by decide) rfl (by decide) hk)⟩
      by_cases s13 : am_s (am_and (xs i).toInt 63) = 13
      · obtain ⟨S2, hk⟩ := lc_13 (cr := cr) hx hi hL hI nxt
        exact ⟨S2, hd _ (r_tsI (pc' := 599) (off := 13) (t := 566) hM_0 d_0_33 (by rw [s13]; rfl) (by decide) rfl (by decide) hk)⟩
      by_cases s14 : am_s (am_and (xs i).toInt 63) = 14
      · obtain ⟨S2, hk⟩ := lc_14 (cr := cr) hx hi hL hI nxt
        exact ⟨S2, hd _ (r_tsI (pc' := 632) (off := 14) (t := 599) hM_0 d_0_33 (by rw [s14]; rfl) (by decide) rfl (by decide) hk)⟩
      by_cases s15 : am_s (am_and (xs i).toInt 63) = 15
      · obtain ⟨S2, hk⟩ := lc_15 (cr := cr) hx hi hL hI nxt
        exact ⟨S2, hd _ (r_tsI (pc' := 655) (off := 15) (t := 622) hM_0 d_0_33 (by rw [s15]; rfl) (by decide) rfl (by decide) hk)⟩
      by_cases s16 : am_s (am_and (xs i).toInt 63) = 16
      · obtain ⟨S2, hk⟩ := lc_16 (cr := cr) hx hi hL hI nxt
        exact ⟨S2, hd _ (r_tsI (pc' := 678) (off := 16) (t := 645) hM_0 d_0_33 (by rw [s16]; rfl) (by decide) rfl (by decide) hk)⟩
      by_cases s17 : am_s (am_and (xs i).toInt 63) = 17
      · obtain ⟨S2, hk⟩ := lc_17 (cr := cr) hx hi hL hI nxt
        exact ⟨S2, hd _ (r_tsI (pc' := 711) (off := 17) (t := 678) hM_0 d_0_33 (by rw [s17]; rfl) (by decide) rfl (by decide) hk)⟩
      by_cases s18 : am_s (am_and (xs i).toInt 63) = 18
      · obtain ⟨S2, hk⟩ := lc_18 (cr := cr) hx hi hL hI nxt
        exact ⟨S2, hd _ (r_tsI (pc' := 734) (off := 18) (t := 701) hM_0 d_0_33 (by rw [s18]; rfl) (by decide) rfl (by decide) hk)⟩
      by_cases s19 : am_s (am_and (xs i).toInt 63) = 19
      · obtain ⟨S2, hk⟩ := lc_19 (cr := cr) hx hi hL hI nxt
        exact ⟨S2, hd _ (r_tsI (pc' := 767) (off := 19) (t := 734) hM_0 d_0_33 (by rw [s19]; rfl) (by decide) rfl (by decide) hk)⟩
      by_cases s20 : am_s (am_and (xs i).toInt 63) = 20
      · obtain ⟨S2, hk⟩ := lc_20 (cr := cr) hx hi hL hI nxt
        exact ⟨S2, hd _ (r_tsI (pc' := 816) (off := 20) (t := 783) hM_0 d_0_33 (by rw [s20]; rfl) (by decide) rfl (by decide) hk)⟩
      by_cases s21 : am_s (am_and (xs i).toInt 63) = 21
      · obtain ⟨S2, hk⟩ := lc_21 (cr := cr) hx hi hL hI nxt
        exact ⟨S2, hd _ (r_tsI (pc' := 839) (off := 21) (t := 806) hM_0 d_0_33 (by rw [s21]; rfl) (by decide) rfl (by decide) hk)⟩
      by_cases s22 : am_s (am_and (xs i).toInt 63) = 22
      · obtain ⟨S2, hk⟩ := lc_22 (cr := cr) hx hi hL hI nxt
        exact ⟨S2, hd _ (r_tsI (pc' := 862) (off := 22) (t := 829) hM_0 d_0_33 (by rw [s22]; rfl) (by decide) rfl (by decide) hk)⟩
      by_cases s23 : am_s (am_and (xs i).toInt 63) = 23
      · obtain ⟨S2, hk⟩ := lc_23 (cr := cr) hx hi hL hI nxt
        exact ⟨S2, hd _ (r_tsI (pc' := 895) (off := 23) (t := 862) hM_0 d_0_33 (by rw [s23]; rfl) (by decide) rfl (by decide) hk)⟩
      by_cases s24 : am_s (am_and (xs i).toInt 63) = 24
      · obtain ⟨S2, hk⟩ := lc_24 (cr := cr) hx hi hL hI nxt
        exact ⟨S2, hd _ (r_tsI (pc' := 918) (off := 24) (t := 885) hM_0 d_0_33 (by rw [s24]; rfl) (by decide) rfl (by decide) hk)⟩
      by_cases s25 : am_s (am_and (xs i).toInt 63) = 25
      · obtain ⟨S2, hk⟩ := lc_25 (cr := cr) hx hi hL hI nxt
        exact ⟨S2, hd _ (r_tsI (pc' := 931) (off := 25) (t := 898) hM_0 d_0_33 (by rw [s25]; rfl) (by decide) rfl (by decide) hk)⟩
      by_cases s26 : am_s (am_and (xs i).toInt 63) = 26
      · obtain ⟨S2, hk⟩ := lc_26 (cr := cr) hx hi hL hI nxt
        exact ⟨S2, hd _ (r_tsI (pc' := 954) (off := 26) (t := 921) hM_0 d_0_33 (by rw [s26]; rfl) (by decide) rfl (by decide) hk)⟩
      by_cases s27 : am_s (am_and (xs i).toInt 63) = 27
      · obtain ⟨S2, hk⟩ := lc_27 (cr := cr) hx hi hL hI nxt
        exact ⟨S2, hd _ (r_tsI (pc' := 987) (off := 27) (t := 954) hM_0 d_0_33 (by rw [s27]; rfl) (by decide) rfl (by decide) hk)⟩
      by_cases s28 : am_s (am_and (xs i).toInt 63) = 28
      · obtain ⟨S2, hk⟩ := lc_28 (cr := cr) hx hi hL hI nxt
        exact ⟨S2, hd _ (r_tsI (pc' := 1000) (off := 28) (t := 967) hM_0 d_0_33 (by rw [s28]; rfl) (by decide) rfl (by decide) hk)⟩
      by_cases s29 : am_s (am_and (xs i).toInt 63) = 29
      · obtain ⟨S2, hk⟩ := lc_29 (cr := cr) hx hi hL hI nxt
        exact ⟨S2, hd _ (r_tsI (pc' := 1023) (off := 29) (t := 990) hM_0 d_0_33 (by rw [s29]; rfl) (by decide) rfl (by decide) hk)⟩
      by_cases s30 : am_s (am_and (xs i).toInt 63) = 30
      · obtain ⟨S2, hk⟩ := lc_30 (cr := cr) hx hi hL hI nxt
        exact ⟨S2, hd _ (r_tsI (pc' := 1056) (off := 30) (t := 1023) hM_0 d_0_33 (by rw [s30]; rfl) (by decide) rfl (by decide) hk)⟩
      by_cases s31 : am_s (am_and (xs i).toInt 63) = 31
      · obtain ⟨S2, hk⟩ := lc_31 (cr := cr) hx hi hL hI nxt
        exact ⟨S2, hd _ (r_tsI (pc' := 1089) (off := 31) (t := 1056) hM_0 d_0_33 (by rw [s31]; rfl) (by decide) rfl (by decide) hk)⟩
      by_cases s32 : am_s (am_and (xs i).toInt 63) = 32
      · obtain ⟨S2, hk⟩ := lc_32 (cr := cr) hx hi hL hI nxt
        exact ⟨S2, hd _ (r_tsI (pc' := 1112) (off := 32) (t := 1079) hM_0 d_0_33 (by rw [s32]; rfl) (by decide) rfl (by decide) hk)⟩
      by_cases s33 : am_s (am_and (xs i).toInt 63) = 33
      · obtain ⟨S2, hk⟩ := lc_33 (cr := cr) hx hi hL hI nxt
        exact ⟨S2, hd _ (r_tsI (pc' := 1155) (off := 33) (t := 1122) hM_0 d_0_33 (by rw [s33]; rfl) (by decide) rfl (by decide) hk)⟩
      by_cases s34 : am_s (am_and (xs i).toInt 63) = 34
      · obtain ⟨S2, hk⟩ := lc_34 (cr := cr) hx hi hL hI nxt
        exact ⟨S2, hd _ (r_tsI (pc' := 1229) (off := 34) (t := 1196) hM_0 d_0_33 (by rw [s34]; rfl) (by decide) rfl (by decide) hk)⟩
      by_cases s35 : am_s (am_and (xs i).toInt 63) = 35
      · obtain ⟨S2, hk⟩ := lc_35 (cr := cr) hx hi hL hI nxt
        exact ⟨S2, hd _ (r_tsI (pc' := 1262) (off := 35) (t := 1229) hM_0 d_0_33 (by rw [s35]; rfl) (by decide) rfl (by decide) hk)⟩
      by_cases s36 : am_s (am_and (xs i).toInt 63) = 36
      · obtain ⟨S2, hk⟩ := lc_36 (cr := cr) hx hi hL hI nxt
        exact ⟨S2, hd _ (r_tsI (pc' := 1285) (off := 36) (t := 1252) hM_0 d_0_33 (by rw [s36]; rfl) (by decide) rfl (by decide) hk)⟩
      by_cases s37 : am_s (am_and (xs i).toInt 63) = 37
      · obtain ⟨S2, hk⟩ := lc_37 (cr := cr) hx hi hL hI nxt
        exact ⟨S2, hd _ (r_tsI (pc' := 1308) (off := 37) (t := 1275) hM_0 d_0_33 (by rw [s37]; rfl) (by decide) rfl (by decide) hk)⟩
      obtain ⟨S2, hk⟩ := nxt m hI
      exact ⟨S2, hd _ (r_tsO (pc' := 1331) hM_0 d_0_33 (show am_s (am_and (xs i).toInt 63) < 0 ∨ 37 < am_s (am_and (xs i).toInt 63) by omega) (by decide) hk)⟩
    · refine ⟨st0 m, ?_⟩
      refine r_ld (pc' := 19) hM_0 d_0_18 rfl rfl ?_
      refine r_ld (pc' := 20) hM_0 d_0_19 rfl rfl ?_
      refine r_alF (pc' := 21) (n := L) hM_0 d_0_20 rfl (by decide) hx.2 (by decide) ?_
      refine r_k (pc' := 23) (v := .inl 6) hM_0 d_0_21 rfl rfl ?_
      refine r_b (pc' := 24) (z := ((L : Int) - 6)) hM_0 d_0_23 rfl rfl ?_
      refine r_ic (pc' := 1337) (pc2 := 27) hM_0 d_0_24 (by decide) rfl (fun _ => ?_) (fun hc => absurd (show am_s ((L : Int) - 6) < am_s (i : Int) by rw [e1, e2]; omega) hc)
      refine r_k (pc' := 1338) (v := .inl 1) hM_0 d_0_1337 rfl rfl ?_
      exact rt_z hM_0 d_0_1338 rfl (by decide)
