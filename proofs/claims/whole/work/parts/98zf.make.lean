/-! what the constructors make -/
section
variable {fx : am_X0} {d mi pc pc' : Nat} {cr : Nat × Nat} {ls ls' : am_Ls} {st : List am_V} {S : am_S} {o : List am_V × am_S} {M : am_MT} {i : Instr} {len : Nat}
theorem g_hp {st' : List am_V} {S' : am_S} {cr' : Nat × Nat} (hM : am_ms[mi]? = some M) (hd : decode M.2.2.1 pc = .ok (i, len)) (hp : pc + len = pc') (hk : am_hp fx M.1 M.2.2.2.2.2.1 i st S cr = some (len, st', S', cr')) (k : rn fx d cr' mi pc' ls st' S' o) : rn fx d cr mi pc ls st S o := by
  obtain ⟨h0, h1, h2, h3, h4, h5⟩ := am_hp_k (pc := pc) (len := len) (nL := M.2.2.2.1) (rt := M.2.2.2.2.1) (ls := ls) hk
  refine rn_stp hM hd h0 (q := (pc + len, ls, st', S', cr')) ?_ (by rw [hp]; exact k)
  unfold am_stp
  rw [h1, h2, h3, h4, h5, hk]
  simp
theorem g_new {x ci n t a b : Nat} (hM : am_ms[mi]? = some M) (hd : decode M.2.2.1 pc = .ok (.new x, 3)) (hp : pc + 3 = pc') (hn : am_look am_pnL M.1 x = some ci) (hc : (am_cl[ci]?).map (fun q => q.2.2) = some n) (hl : S.1.length = t) (ht : t < 1000) (h1 : 1 ≤ a) (h2 : n ≤ b) (k : rn fx d (a - 1, b - n) mi pc' ls (.inr (.inr (some t)) :: st) (am_nw S (ci, n)) o) : rn fx d (a, b) mi pc ls st S o := by
  cases hq : am_cl[ci]? with
  | none => rw [hq] at hc; cases hc
  | some kc =>
    rw [hq] at hc
    have e : kc.2.2 = n := Option.some.inj hc
    refine g_hp (S' := am_nw S (ci, n)) (cr' := (a - 1, b - n)) hM hd hp ?_ k
    simp only [am_hp, hn, hq, e, hl]
    rw [if_pos ⟨h1, h2, ht⟩]
theorem g_na {z : Int} {ty : ArrayType} {n t a b at' : Nat} (hM : am_ms[mi]? = some M) (hd : decode M.2.2.1 pc = .ok (.newarray ty, 2)) (hp : pc + 2 = pc') (hz : am_s z = (n : Int)) (hn : n ≤ 1000000) (ha : am_at ty = at') (ha0 : at' ≠ 0) (hl : S.1.length = t) (ht : t < 1000) (h1 : 1 ≤ a) (h2 : n ≤ b) (k : rn fx d (a - 1, b - n) mi pc' ls (.inr (.inr (some t)) :: st) (am_nw S (at', n)) o) : rn fx d (a, b) mi pc ls (.inl z :: st) S o := by
  refine g_hp (S' := am_nw S (at', n)) (cr' := (a - 1, b - n)) hM hd hp ?_ k
  simp only [am_hp, hz, ha, hl, Int.toNat_natCast]
  rw [if_pos ⟨by omega, by omega, h1, h2, ht, ha0⟩]
theorem g_an {z : Int} {x ci n t a b at' : Nat} (hM : am_ms[mi]? = some M) (hd : decode M.2.2.1 pc = .ok (.anewarray x, 3)) (hp : pc + 3 = pc') (hx : am_look am_pnL M.1 x = some ci) (hci : ci = 6 ∨ ci = 7) (ha : (if ci = 7 then 200 else 201) = at') (hz : am_s z = (n : Int)) (hn : n ≤ 1000000) (hl : S.1.length = t) (ht : t < 1000) (h1 : 1 ≤ a) (h2 : n ≤ b) (k : rn fx d (a - 1, b - n) mi pc' ls (.inr (.inr (some t)) :: st) (am_nw S (at', n)) o) : rn fx d (a, b) mi pc ls (.inl z :: st) S o := by
  refine g_hp (S' := am_nw S (at', n)) (cr' := (a - 1, b - n)) hM hd hp ?_ k
  simp only [am_hp, hx, hz, hl, Int.toNat_natCast, ha]
  rw [if_pos ⟨hci, by omega, by omega, h1, h2, ht⟩]
theorem g_pI {x r ci kk n : Nat} {z : Int} (hM : am_ms[mi]? = some M) (hd : decode M.2.2.1 pc = .ok (.putfield x, 3)) (hp : pc + 3 = pc') (hS : S.1[r]? = some (ci, n)) (hf : am_look am_pfL M.1 x = some (ci, kk)) (hk : kk < n) (hfin : am_fin ci kk = false) (hfk : am_fk ci kk = 0 ∨ (am_fk ci kk = 1 ∧ (am_s z = 0 ∨ am_s z = 1))) (k : rn fx d cr mi pc' ls st (am_sM S r kk z) o) : rn fx d cr mi pc ls (.inl z :: .inr (.inr (some r)) :: st) S o := by
  refine g_hp (S' := am_sM S r kk z) hM hd hp ?_ k
  simp only [am_hp, hS, hf]
  rw [if_pos ⟨trivial, hk, hfin, hfk⟩]
theorem g_pR {x r ci kk n : Nat} {v : Option Nat} (hM : am_ms[mi]? = some M) (hd : decode M.2.2.1 pc = .ok (.putfield x, 3)) (hp : pc + 3 = pc') (hS : S.1[r]? = some (ci, n)) (hf : am_look am_pfL M.1 x = some (ci, kk)) (hk : kk < n) (hfin : am_fin ci kk = true) (hini : M.2.2.2.2.2.1 = true) (hcn : M.1 = ci + 1) (hfk : am_fk ci kk = 2) (k : rn fx d cr mi pc' ls st (am_sR S r kk v) o) : rn fx d cr mi pc ls (.inr (.inr v) :: .inr (.inr (some r)) :: st) S o := by
  refine g_hp (S' := am_sR S r kk v) hM hd hp ?_ k
  simp only [am_hp, hS, hf]
  rw [if_pos ⟨trivial, hk, hfin, hini, hcn, hfk⟩]
theorem g_gR {x r ci kk n : Nat} {v : Option Nat} (hM : am_ms[mi]? = some M) (hd : decode M.2.2.1 pc = .ok (.getfield x, 3)) (hp : pc + 3 = pc') (hS : S.1[r]? = some (ci, n)) (hf : am_look am_pfL M.1 x = some (ci, kk)) (hk : kk < n) (hfk : am_fk ci kk = 2) (hv : S.2.1 r kk = v) (k : rn fx d cr mi pc' ls (.inr (.inr v) :: st) S o) : rn fx d cr mi pc ls (.inr (.inr (some r)) :: st) S o := by
  refine g_hp (S' := S) hM hd hp ?_ k
  simp only [am_hp, hS, hf, am_fv, hfk, hv]
  rw [if_pos ⟨trivial, hk⟩]
  simp
theorem g_is {r n j : Nat} {jz z : Int} (hM : am_ms[mi]? = some M) (hd : decode M.2.2.1 pc = .ok (.iastore, 1)) (hp : pc + 1 = pc') (hr : r < 1000) (hS : S.1[r]? = some (100, n)) (hz : am_s jz = (j : Int)) (hj : j < n) (k : rn fx d cr mi pc' ls st (am_sM S r j z) o) : rn fx d cr mi pc ls (.inl z :: .inl jz :: .inr (.inr (some r)) :: st) S o := by
  refine g_hp (S' := am_sM S r j z) hM hd hp ?_ k
  have e : am_arr fx S r = (100, n, S.2.2 r) := by
    unfold am_arr
    rw [if_pos hr, hS]
  have e2 : am_in jz n = true := by
    unfold am_in
    rw [hz, decide_eq_true (show (0 : Int) ≤ (j : Int) by omega), decide_eq_true (show (j : Int) < (n : Int) by omega)]
    rfl
  simp only [am_hp, e, e2, hr, and_self, if_true, hz, Int.toNat_natCast]
theorem g_as {r n j v t ci nv : Nat} {jz : Int} (hM : am_ms[mi]? = some M) (hd : decode M.2.2.1 pc = .ok (.aastore, 1)) (hp : pc + 1 = pc') (hr : r < 1000) (hS : S.1[r]? = some (t, n)) (hv : S.1[v]? = some (ci, nv)) (ht : (t = 200 ∧ ci = 7) ∨ (t = 201 ∧ ci = 6)) (hz : am_s jz = (j : Int)) (hj : j < n) (k : rn fx d cr mi pc' ls st (am_sR S r j (some v)) o) : rn fx d cr mi pc ls (.inr (.inr (some v)) :: .inl jz :: .inr (.inr (some r)) :: st) S o := by
  refine g_hp (S' := am_sR S r j (some v)) hM hd hp ?_ k
  have e : am_arr fx S r = (t, n, S.2.2 r) := by
    unfold am_arr
    rw [if_pos hr, hS]
  have e2 : am_in jz n = true := by
    unfold am_in
    rw [hz, decide_eq_true (show (0 : Int) ≤ (j : Int) by omega), decide_eq_true (show (j : Int) < (n : Int) by omega)]
    rfl
  simp only [am_hp, hv, e, e2, hr, hz, Int.toNat_natCast, true_and, and_true]
  rw [if_pos ht]
theorem g_cl {c : Nat × Nat} {N : am_MT} {a q r : List am_V} {S1 : am_S} {h a1 b1 a2 b2 : Nat} (hM : am_ms[mi]? = some M) (hd : decode M.2.2.1 pc = .ok (i, 3)) (hp : pc + 3 = pc') (hc : am_cal M.1 i = some c) (hN : am_ms[c.1]? = some N) (hcr : N.2.2.2.2.2.2.2 = (a2, b2)) (ha : a2 ≤ a1) (hb : b2 ≤ b1) (hst : am_pop (N.2.2.2.2.2.2.1 + if c.2 = 2 then 0 else 1) st = (a, q)) (hl : a.length = N.2.2.2.2.2.2.1 + if c.2 = 2 then 0 else 1) (hq : (q.map am_cat).sum ≤ 8) (hf : (am_flat a).length ≤ N.2.2.2.1) (hv : c.2 = 2 ∨ am_rcv S N.1 (a.headD (.inl 0)) = true) (h1 : rn fx h (a2, b2) c.1 0 (am_ent N.2.2.2.1 a) [] S (r, S1)) (hh : h ≤ d) (hlen : S1.1.length = S.1.length + a2)
    (k : rn fx (d + 1) (a1 - a2, b1 - b2) mi pc' ls (r ++ q) S1 o) : rn fx (d + 1) (a1, b1) mi pc ls st S o := by
  refine rn_call (o1 := (r, S1)) hM hd hc hN (by rw [hcr]; exact ⟨ha, hb⟩) hst hl hq hf hv (by rw [hcr]; exact h1) hh (by rw [hcr]; exact hlen) ?_
  rw [hcr, hp]
  exact k
end
def sS_0 : am_S := am_S0
/-- references only within the cells -/
def NBR (S : am_S) : Prop := ∀ a k, S.1.length ≤ a ∨ 64 ≤ k → S.2.1 a k = none
theorem NBR_M {S : am_S} {r k : Nat} {z : Int} (h : NBR S) : NBR (am_sM S r k z) := h
theorem NBR_N {S : am_S} {s : Nat × Nat} (h : NBR S) : NBR (am_nw S s) := by
  intro a k hk
  show (if a = S.1.length then none else S.2.1 a k) = none
  split
  · rfl
  · refine h a k ?_
    have hk : (S.1 ++ [s]).length ≤ a ∨ 64 ≤ k := hk
    rw [List.length_append] at hk
    simp at hk
    omega
theorem NBR_R {S : am_S} {r k t : Nat} {v : Option Nat} (hl : S.1.length = t) (hr : r < t) (hk : k < 64) (h : NBR S) : NBR (am_sR S r k v) := by
  intro a j hj
  have hj : S.1.length ≤ a ∨ 64 ≤ j := hj
  show (if a = r ∧ j = k then v else S.2.1 a j) = none
  rw [if_neg (by omega)]
  exact h a j hj
theorem nb_0 : NBR sS_0 := fun _ _ _ => rfl
def sS_1 : am_S := am_nw sS_0 (0, 12)
theorem nb_1 : NBR sS_1 := NBR_N nb_0
def sS_2 : am_S := am_nw sS_1 (102, 900)
theorem nb_2 : NBR sS_2 := NBR_N nb_1
def sS_3 : am_S := am_sR sS_2 0 0 (some 1)
theorem nb_3 : NBR sS_3 := NBR_R (t := 2) (by decide +kernel) (by decide) (by decide) nb_2
def sS_4 : am_S := am_nw sS_3 (7, 12)
theorem nb_4 : NBR sS_4 := NBR_N nb_3
def sS_5 : am_S := am_nw sS_4 (100, 12)
theorem nb_5 : NBR sS_5 := NBR_N nb_4
def sS_6 : am_S := am_sR sS_5 2 0 (some 3)
theorem nb_6 : NBR sS_6 := NBR_R (t := 4) (by decide +kernel) (by decide) (by decide) nb_5
def sS_7 : am_S := am_nw sS_6 (100, 12)
theorem nb_7 : NBR sS_7 := NBR_N nb_6
def sS_8 : am_S := am_sR sS_7 2 1 (some 4)
theorem nb_8 : NBR sS_8 := NBR_R (t := 5) (by decide +kernel) (by decide) (by decide) nb_7
def sS_9 : am_S := am_nw sS_8 (100, 12)
theorem nb_9 : NBR sS_9 := NBR_N nb_8
def sS_10 : am_S := am_sR sS_9 2 2 (some 5)
theorem nb_10 : NBR sS_10 := NBR_R (t := 6) (by decide +kernel) (by decide) (by decide) nb_9
def sS_11 : am_S := am_nw sS_10 (100, 12)
theorem nb_11 : NBR sS_11 := NBR_N nb_10
def sS_12 : am_S := am_sR sS_11 2 3 (some 6)
theorem nb_12 : NBR sS_12 := NBR_R (t := 7) (by decide +kernel) (by decide) (by decide) nb_11
def sS_13 : am_S := am_sM sS_12 2 4 0
theorem nb_13 : NBR sS_13 := NBR_M nb_12
def sS_14 : am_S := am_sM sS_13 2 5 15
theorem nb_14 : NBR sS_14 := NBR_M nb_13
def sS_15 : am_S := am_sM sS_14 2 6 4
theorem nb_15 : NBR sS_15 := NBR_M nb_14
def sS_16 : am_S := am_sM sS_15 2 7 12
theorem nb_16 : NBR sS_16 := NBR_M nb_15
def sS_17 : am_S := am_sM sS_16 2 8 3
theorem nb_17 : NBR sS_17 := NBR_M nb_16
def sS_18 : am_S := am_sM sS_17 2 9 0
theorem nb_18 : NBR sS_18 := NBR_M nb_17
def sS_19 : am_S := am_sM sS_18 2 10 0
theorem nb_19 : NBR sS_19 := NBR_M nb_18
def sS_20 : am_S := am_sM sS_19 2 11 0
theorem nb_20 : NBR sS_20 := NBR_M nb_19
theorem mk_4 {fx : am_X0} : rn fx 1 (0, 0) 3 0 (am_ent 1 [.inr (.inr (some 2))]) [] sS_12 ([], sS_20) := by
  show rn fx (0 + 1) (0, 0) 3 0 [some (.inr (.inr (some 2)))] [] sS_12 _
  refine r_ld (pc' := 1) hM_3 d_3_0 rfl rfl ?_
  refine r_k (pc' := 2) (v := .inl 0) hM_3 d_3_1 rfl rfl ?_
  refine g_pI (pc' := 5) (ci := 7) (kk := 4) (n := 12) hM_3 d_3_2 rfl (by decide +kernel) (by decide +kernel) (by decide) (by decide +kernel) (by decide +kernel) ?_
  show rn fx (0 + 1) (0, 0) 3 5 [some (.inr (.inr (some 2)))] [] sS_13 _
  refine r_ld (pc' := 6) hM_3 d_3_5 rfl rfl ?_
  refine r_k (pc' := 8) (v := .inl 15) hM_3 d_3_6 rfl rfl ?_
  refine g_pI (pc' := 11) (ci := 7) (kk := 5) (n := 12) hM_3 d_3_8 rfl (by decide +kernel) (by decide +kernel) (by decide) (by decide +kernel) (by decide +kernel) ?_
  show rn fx (0 + 1) (0, 0) 3 11 [some (.inr (.inr (some 2)))] [] sS_14 _
  refine r_ld (pc' := 12) hM_3 d_3_11 rfl rfl ?_
  refine r_k (pc' := 13) (v := .inl 4) hM_3 d_3_12 rfl rfl ?_
  refine g_pI (pc' := 16) (ci := 7) (kk := 6) (n := 12) hM_3 d_3_13 rfl (by decide +kernel) (by decide +kernel) (by decide) (by decide +kernel) (by decide +kernel) ?_
  show rn fx (0 + 1) (0, 0) 3 16 [some (.inr (.inr (some 2)))] [] sS_15 _
  refine r_ld (pc' := 17) hM_3 d_3_16 rfl rfl ?_
  refine r_k (pc' := 19) (v := .inl 12) hM_3 d_3_17 rfl rfl ?_
  refine g_pI (pc' := 22) (ci := 7) (kk := 7) (n := 12) hM_3 d_3_19 rfl (by decide +kernel) (by decide +kernel) (by decide) (by decide +kernel) (by decide +kernel) ?_
  show rn fx (0 + 1) (0, 0) 3 22 [some (.inr (.inr (some 2)))] [] sS_16 _
  refine r_ld (pc' := 23) hM_3 d_3_22 rfl rfl ?_
  refine r_k (pc' := 24) (v := .inl 3) hM_3 d_3_23 rfl rfl ?_
  refine g_pI (pc' := 27) (ci := 7) (kk := 8) (n := 12) hM_3 d_3_24 rfl (by decide +kernel) (by decide +kernel) (by decide) (by decide +kernel) (by decide +kernel) ?_
  show rn fx (0 + 1) (0, 0) 3 27 [some (.inr (.inr (some 2)))] [] sS_17 _
  refine r_ld (pc' := 28) hM_3 d_3_27 rfl rfl ?_
  refine r_k (pc' := 29) (v := .inl 0) hM_3 d_3_28 rfl rfl ?_
  refine g_pI (pc' := 32) (ci := 7) (kk := 9) (n := 12) hM_3 d_3_29 rfl (by decide +kernel) (by decide +kernel) (by decide) (by decide +kernel) (by decide +kernel) ?_
  show rn fx (0 + 1) (0, 0) 3 32 [some (.inr (.inr (some 2)))] [] sS_18 _
  refine r_ld (pc' := 33) hM_3 d_3_32 rfl rfl ?_
  refine r_k (pc' := 34) (v := .inl 0) hM_3 d_3_33 rfl rfl ?_
  refine g_pI (pc' := 37) (ci := 7) (kk := 10) (n := 12) hM_3 d_3_34 rfl (by decide +kernel) (by decide +kernel) (by decide) (by decide +kernel) (by decide +kernel) ?_
  show rn fx (0 + 1) (0, 0) 3 37 [some (.inr (.inr (some 2)))] [] sS_19 _
  refine r_ld (pc' := 38) hM_3 d_3_37 rfl rfl ?_
  refine r_k (pc' := 39) (v := .inl 0) hM_3 d_3_38 rfl rfl ?_
  refine g_pI (pc' := 42) (ci := 7) (kk := 11) (n := 12) hM_3 d_3_39 rfl (by decide +kernel) (by decide +kernel) (by decide) (by decide +kernel) (by decide +kernel) ?_
  show rn fx (0 + 1) (0, 0) 3 42 [some (.inr (.inr (some 2)))] [] sS_20 _
  exact rt_v hM_3 d_3_42 rfl
theorem mk_3 {fx : am_X0} : rn fx 2 (4, 48) 2 0 (am_ent 1 [.inr (.inr (some 2))]) [] sS_4 ([], sS_20) := by
  show rn fx (1 + 1) (4, 48) 2 0 [some (.inr (.inr (some 2)))] [] sS_4 _
  refine r_ld (pc' := 1) hM_2 d_2_0 rfl rfl ?_
  refine rn_obj hM_2 d_2_1 (by decide +kernel) (by decide) (by decide) ?_
  show rn fx (1 + 1) (4, 48) 2 4 [some (.inr (.inr (some 2)))] [] sS_4 _
  refine r_ld (pc' := 5) hM_2 d_2_4 rfl rfl ?_
  refine r_k (pc' := 7) (v := .inl 12) hM_2 d_2_5 rfl rfl ?_
  refine g_na (pc' := 9) (n := 12) (at' := 100) (t := 3) hM_2 d_2_7 rfl (by decide) (by decide) rfl (by decide) (by decide +kernel) (by decide) (by decide) (by decide) ?_
  show rn fx (1 + 1) (3, 36) 2 9 [some (.inr (.inr (some 2)))] [.inr (.inr (some 3)), .inr (.inr (some 2))] sS_5 _
  refine g_pR (pc' := 12) (ci := 7) (kk := 0) (n := 12) hM_2 d_2_9 rfl (by decide +kernel) (by decide +kernel) (by decide) (by decide +kernel) rfl (by decide) (by decide +kernel) ?_
  show rn fx (1 + 1) (3, 36) 2 12 [some (.inr (.inr (some 2)))] [] sS_6 _
  refine r_ld (pc' := 13) hM_2 d_2_12 rfl rfl ?_
  refine r_k (pc' := 15) (v := .inl 12) hM_2 d_2_13 rfl rfl ?_
  refine g_na (pc' := 17) (n := 12) (at' := 100) (t := 4) hM_2 d_2_15 rfl (by decide) (by decide) rfl (by decide) (by decide +kernel) (by decide) (by decide) (by decide) ?_
  show rn fx (1 + 1) (2, 24) 2 17 [some (.inr (.inr (some 2)))] [.inr (.inr (some 4)), .inr (.inr (some 2))] sS_7 _
  refine g_pR (pc' := 20) (ci := 7) (kk := 1) (n := 12) hM_2 d_2_17 rfl (by decide +kernel) (by decide +kernel) (by decide) (by decide +kernel) rfl (by decide) (by decide +kernel) ?_
  show rn fx (1 + 1) (2, 24) 2 20 [some (.inr (.inr (some 2)))] [] sS_8 _
  refine r_ld (pc' := 21) hM_2 d_2_20 rfl rfl ?_
  refine r_k (pc' := 23) (v := .inl 12) hM_2 d_2_21 rfl rfl ?_
  refine g_na (pc' := 25) (n := 12) (at' := 100) (t := 5) hM_2 d_2_23 rfl (by decide) (by decide) rfl (by decide) (by decide +kernel) (by decide) (by decide) (by decide) ?_
  show rn fx (1 + 1) (1, 12) 2 25 [some (.inr (.inr (some 2)))] [.inr (.inr (some 5)), .inr (.inr (some 2))] sS_9 _
  refine g_pR (pc' := 28) (ci := 7) (kk := 2) (n := 12) hM_2 d_2_25 rfl (by decide +kernel) (by decide +kernel) (by decide) (by decide +kernel) rfl (by decide) (by decide +kernel) ?_
  show rn fx (1 + 1) (1, 12) 2 28 [some (.inr (.inr (some 2)))] [] sS_10 _
  refine r_ld (pc' := 29) hM_2 d_2_28 rfl rfl ?_
  refine r_k (pc' := 31) (v := .inl 12) hM_2 d_2_29 rfl rfl ?_
  refine g_na (pc' := 33) (n := 12) (at' := 100) (t := 6) hM_2 d_2_31 rfl (by decide) (by decide) rfl (by decide) (by decide +kernel) (by decide) (by decide) (by decide) ?_
  show rn fx (1 + 1) (0, 0) 2 33 [some (.inr (.inr (some 2)))] [.inr (.inr (some 6)), .inr (.inr (some 2))] sS_11 _
  refine g_pR (pc' := 36) (ci := 7) (kk := 3) (n := 12) hM_2 d_2_33 rfl (by decide +kernel) (by decide +kernel) (by decide) (by decide +kernel) rfl (by decide) (by decide +kernel) ?_
  show rn fx (1 + 1) (0, 0) 2 36 [some (.inr (.inr (some 2)))] [] sS_12 _
  refine r_ld (pc' := 37) hM_2 d_2_36 rfl rfl ?_
  refine g_cl (pc' := 40) (c := (3, 0)) (a := [.inr (.inr (some 2))]) (q := []) (r := []) (S1 := sS_20) hM_2 d_2_37 rfl (by decide +kernel) hM_3 rfl (by decide) (by decide) rfl rfl (by decide) (by decide) (Or.inr (by decide +kernel)) mk_4 (by decide) (by decide +kernel) ?_
  show rn fx (1 + 1) (0, 0) 2 40 [some (.inr (.inr (some 2)))] [] sS_20 _
  exact rt_v hM_2 d_2_40 rfl
def sS_21 : am_S := am_sR sS_20 0 2 (some 2)
theorem nb_21 : NBR sS_21 := NBR_R (t := 7) (by decide +kernel) (by decide) (by decide) nb_20
def sS_22 : am_S := am_nw sS_21 (7, 12)
theorem nb_22 : NBR sS_22 := NBR_N nb_21
def sS_23 : am_S := am_nw sS_22 (100, 12)
theorem nb_23 : NBR sS_23 := NBR_N nb_22
def sS_24 : am_S := am_sR sS_23 7 0 (some 8)
theorem nb_24 : NBR sS_24 := NBR_R (t := 9) (by decide +kernel) (by decide) (by decide) nb_23
def sS_25 : am_S := am_nw sS_24 (100, 12)
theorem nb_25 : NBR sS_25 := NBR_N nb_24
def sS_26 : am_S := am_sR sS_25 7 1 (some 9)
theorem nb_26 : NBR sS_26 := NBR_R (t := 10) (by decide +kernel) (by decide) (by decide) nb_25
def sS_27 : am_S := am_nw sS_26 (100, 12)
theorem nb_27 : NBR sS_27 := NBR_N nb_26
def sS_28 : am_S := am_sR sS_27 7 2 (some 10)
theorem nb_28 : NBR sS_28 := NBR_R (t := 11) (by decide +kernel) (by decide) (by decide) nb_27
def sS_29 : am_S := am_nw sS_28 (100, 12)
theorem nb_29 : NBR sS_29 := NBR_N nb_28
def sS_30 : am_S := am_sR sS_29 7 3 (some 11)
theorem nb_30 : NBR sS_30 := NBR_R (t := 12) (by decide +kernel) (by decide) (by decide) nb_29
def sS_31 : am_S := am_sM sS_30 7 4 0
theorem nb_31 : NBR sS_31 := NBR_M nb_30
def sS_32 : am_S := am_sM sS_31 7 5 15
theorem nb_32 : NBR sS_32 := NBR_M nb_31
def sS_33 : am_S := am_sM sS_32 7 6 4
theorem nb_33 : NBR sS_33 := NBR_M nb_32
def sS_34 : am_S := am_sM sS_33 7 7 12
theorem nb_34 : NBR sS_34 := NBR_M nb_33
def sS_35 : am_S := am_sM sS_34 7 8 3
theorem nb_35 : NBR sS_35 := NBR_M nb_34
def sS_36 : am_S := am_sM sS_35 7 9 0
theorem nb_36 : NBR sS_36 := NBR_M nb_35
def sS_37 : am_S := am_sM sS_36 7 10 0
theorem nb_37 : NBR sS_37 := NBR_M nb_36
def sS_38 : am_S := am_sM sS_37 7 11 0
theorem nb_38 : NBR sS_38 := NBR_M nb_37
theorem mk_6 {fx : am_X0} : rn fx 1 (0, 0) 3 0 (am_ent 1 [.inr (.inr (some 7))]) [] sS_30 ([], sS_38) := by
  show rn fx (0 + 1) (0, 0) 3 0 [some (.inr (.inr (some 7)))] [] sS_30 _
  refine r_ld (pc' := 1) hM_3 d_3_0 rfl rfl ?_
  refine r_k (pc' := 2) (v := .inl 0) hM_3 d_3_1 rfl rfl ?_
  refine g_pI (pc' := 5) (ci := 7) (kk := 4) (n := 12) hM_3 d_3_2 rfl (by decide +kernel) (by decide +kernel) (by decide) (by decide +kernel) (by decide +kernel) ?_
  show rn fx (0 + 1) (0, 0) 3 5 [some (.inr (.inr (some 7)))] [] sS_31 _
  refine r_ld (pc' := 6) hM_3 d_3_5 rfl rfl ?_
  refine r_k (pc' := 8) (v := .inl 15) hM_3 d_3_6 rfl rfl ?_
  refine g_pI (pc' := 11) (ci := 7) (kk := 5) (n := 12) hM_3 d_3_8 rfl (by decide +kernel) (by decide +kernel) (by decide) (by decide +kernel) (by decide +kernel) ?_
  show rn fx (0 + 1) (0, 0) 3 11 [some (.inr (.inr (some 7)))] [] sS_32 _
  refine r_ld (pc' := 12) hM_3 d_3_11 rfl rfl ?_
  refine r_k (pc' := 13) (v := .inl 4) hM_3 d_3_12 rfl rfl ?_
  refine g_pI (pc' := 16) (ci := 7) (kk := 6) (n := 12) hM_3 d_3_13 rfl (by decide +kernel) (by decide +kernel) (by decide) (by decide +kernel) (by decide +kernel) ?_
  show rn fx (0 + 1) (0, 0) 3 16 [some (.inr (.inr (some 7)))] [] sS_33 _
  refine r_ld (pc' := 17) hM_3 d_3_16 rfl rfl ?_
  refine r_k (pc' := 19) (v := .inl 12) hM_3 d_3_17 rfl rfl ?_
  refine g_pI (pc' := 22) (ci := 7) (kk := 7) (n := 12) hM_3 d_3_19 rfl (by decide +kernel) (by decide +kernel) (by decide) (by decide +kernel) (by decide +kernel) ?_
  show rn fx (0 + 1) (0, 0) 3 22 [some (.inr (.inr (some 7)))] [] sS_34 _
  refine r_ld (pc' := 23) hM_3 d_3_22 rfl rfl ?_
  refine r_k (pc' := 24) (v := .inl 3) hM_3 d_3_23 rfl rfl ?_
  refine g_pI (pc' := 27) (ci := 7) (kk := 8) (n := 12) hM_3 d_3_24 rfl (by decide +kernel) (by decide +kernel) (by decide) (by decide +kernel) (by decide +kernel) ?_
  show rn fx (0 + 1) (0, 0) 3 27 [some (.inr (.inr (some 7)))] [] sS_35 _
  refine r_ld (pc' := 28) hM_3 d_3_27 rfl rfl ?_
  refine r_k (pc' := 29) (v := .inl 0) hM_3 d_3_28 rfl rfl ?_
  refine g_pI (pc' := 32) (ci := 7) (kk := 9) (n := 12) hM_3 d_3_29 rfl (by decide +kernel) (by decide +kernel) (by decide) (by decide +kernel) (by decide +kernel) ?_
  show rn fx (0 + 1) (0, 0) 3 32 [some (.inr (.inr (some 7)))] [] sS_36 _
  refine r_ld (pc' := 33) hM_3 d_3_32 rfl rfl ?_
  refine r_k (pc' := 34) (v := .inl 0) hM_3 d_3_33 rfl rfl ?_
  refine g_pI (pc' := 37) (ci := 7) (kk := 10) (n := 12) hM_3 d_3_34 rfl (by decide +kernel) (by decide +kernel) (by decide) (by decide +kernel) (by decide +kernel) ?_
  show rn fx (0 + 1) (0, 0) 3 37 [some (.inr (.inr (some 7)))] [] sS_37 _
  refine r_ld (pc' := 38) hM_3 d_3_37 rfl rfl ?_
  refine r_k (pc' := 39) (v := .inl 0) hM_3 d_3_38 rfl rfl ?_
  refine g_pI (pc' := 42) (ci := 7) (kk := 11) (n := 12) hM_3 d_3_39 rfl (by decide +kernel) (by decide +kernel) (by decide) (by decide +kernel) (by decide +kernel) ?_
  show rn fx (0 + 1) (0, 0) 3 42 [some (.inr (.inr (some 7)))] [] sS_38 _
  exact rt_v hM_3 d_3_42 rfl
theorem mk_5 {fx : am_X0} : rn fx 2 (4, 48) 2 0 (am_ent 1 [.inr (.inr (some 7))]) [] sS_22 ([], sS_38) := by
  show rn fx (1 + 1) (4, 48) 2 0 [some (.inr (.inr (some 7)))] [] sS_22 _
  refine r_ld (pc' := 1) hM_2 d_2_0 rfl rfl ?_
  refine rn_obj hM_2 d_2_1 (by decide +kernel) (by decide) (by decide) ?_
  show rn fx (1 + 1) (4, 48) 2 4 [some (.inr (.inr (some 7)))] [] sS_22 _
  refine r_ld (pc' := 5) hM_2 d_2_4 rfl rfl ?_
  refine r_k (pc' := 7) (v := .inl 12) hM_2 d_2_5 rfl rfl ?_
  refine g_na (pc' := 9) (n := 12) (at' := 100) (t := 8) hM_2 d_2_7 rfl (by decide) (by decide) rfl (by decide) (by decide +kernel) (by decide) (by decide) (by decide) ?_
  show rn fx (1 + 1) (3, 36) 2 9 [some (.inr (.inr (some 7)))] [.inr (.inr (some 8)), .inr (.inr (some 7))] sS_23 _
  refine g_pR (pc' := 12) (ci := 7) (kk := 0) (n := 12) hM_2 d_2_9 rfl (by decide +kernel) (by decide +kernel) (by decide) (by decide +kernel) rfl (by decide) (by decide +kernel) ?_
  show rn fx (1 + 1) (3, 36) 2 12 [some (.inr (.inr (some 7)))] [] sS_24 _
  refine r_ld (pc' := 13) hM_2 d_2_12 rfl rfl ?_
  refine r_k (pc' := 15) (v := .inl 12) hM_2 d_2_13 rfl rfl ?_
  refine g_na (pc' := 17) (n := 12) (at' := 100) (t := 9) hM_2 d_2_15 rfl (by decide) (by decide) rfl (by decide) (by decide +kernel) (by decide) (by decide) (by decide) ?_
  show rn fx (1 + 1) (2, 24) 2 17 [some (.inr (.inr (some 7)))] [.inr (.inr (some 9)), .inr (.inr (some 7))] sS_25 _
  refine g_pR (pc' := 20) (ci := 7) (kk := 1) (n := 12) hM_2 d_2_17 rfl (by decide +kernel) (by decide +kernel) (by decide) (by decide +kernel) rfl (by decide) (by decide +kernel) ?_
  show rn fx (1 + 1) (2, 24) 2 20 [some (.inr (.inr (some 7)))] [] sS_26 _
  refine r_ld (pc' := 21) hM_2 d_2_20 rfl rfl ?_
  refine r_k (pc' := 23) (v := .inl 12) hM_2 d_2_21 rfl rfl ?_
  refine g_na (pc' := 25) (n := 12) (at' := 100) (t := 10) hM_2 d_2_23 rfl (by decide) (by decide) rfl (by decide) (by decide +kernel) (by decide) (by decide) (by decide) ?_
  show rn fx (1 + 1) (1, 12) 2 25 [some (.inr (.inr (some 7)))] [.inr (.inr (some 10)), .inr (.inr (some 7))] sS_27 _
  refine g_pR (pc' := 28) (ci := 7) (kk := 2) (n := 12) hM_2 d_2_25 rfl (by decide +kernel) (by decide +kernel) (by decide) (by decide +kernel) rfl (by decide) (by decide +kernel) ?_
  show rn fx (1 + 1) (1, 12) 2 28 [some (.inr (.inr (some 7)))] [] sS_28 _
  refine r_ld (pc' := 29) hM_2 d_2_28 rfl rfl ?_
  refine r_k (pc' := 31) (v := .inl 12) hM_2 d_2_29 rfl rfl ?_
  refine g_na (pc' := 33) (n := 12) (at' := 100) (t := 11) hM_2 d_2_31 rfl (by decide) (by decide) rfl (by decide) (by decide +kernel) (by decide) (by decide) (by decide) ?_
  show rn fx (1 + 1) (0, 0) 2 33 [some (.inr (.inr (some 7)))] [.inr (.inr (some 11)), .inr (.inr (some 7))] sS_29 _
  refine g_pR (pc' := 36) (ci := 7) (kk := 3) (n := 12) hM_2 d_2_33 rfl (by decide +kernel) (by decide +kernel) (by decide) (by decide +kernel) rfl (by decide) (by decide +kernel) ?_
  show rn fx (1 + 1) (0, 0) 2 36 [some (.inr (.inr (some 7)))] [] sS_30 _
  refine r_ld (pc' := 37) hM_2 d_2_36 rfl rfl ?_
  refine g_cl (pc' := 40) (c := (3, 0)) (a := [.inr (.inr (some 7))]) (q := []) (r := []) (S1 := sS_38) hM_2 d_2_37 rfl (by decide +kernel) hM_3 rfl (by decide) (by decide) rfl rfl (by decide) (by decide) (Or.inr (by decide +kernel)) mk_6 (by decide) (by decide +kernel) ?_
  show rn fx (1 + 1) (0, 0) 2 40 [some (.inr (.inr (some 7)))] [] sS_38 _
  exact rt_v hM_2 d_2_40 rfl
def sS_39 : am_S := am_sR sS_38 0 3 (some 7)
theorem nb_39 : NBR sS_39 := NBR_R (t := 12) (by decide +kernel) (by decide) (by decide) nb_38
def sS_40 : am_S := am_nw sS_39 (200, 2)
theorem nb_40 : NBR sS_40 := NBR_N nb_39
def sS_41 : am_S := am_sR sS_40 0 4 (some 12)
theorem nb_41 : NBR sS_41 := NBR_R (t := 13) (by decide +kernel) (by decide) (by decide) nb_40
def sS_42 : am_S := am_nw sS_41 (103, 2)
theorem nb_42 : NBR sS_42 := NBR_N nb_41
def sS_43 : am_S := am_sR sS_42 0 5 (some 13)
theorem nb_43 : NBR sS_43 := NBR_R (t := 14) (by decide +kernel) (by decide) (by decide) nb_42
def sS_44 : am_S := am_nw sS_43 (201, 4)
theorem nb_44 : NBR sS_44 := NBR_N nb_43
def sS_45 : am_S := am_sR sS_44 0 6 (some 14)
theorem nb_45 : NBR sS_45 := NBR_R (t := 15) (by decide +kernel) (by decide) (by decide) nb_44
def sS_46 : am_S := am_nw sS_45 (7, 12)
theorem nb_46 : NBR sS_46 := NBR_N nb_45
def sS_47 : am_S := am_nw sS_46 (100, 12)
theorem nb_47 : NBR sS_47 := NBR_N nb_46
def sS_48 : am_S := am_sR sS_47 15 0 (some 16)
theorem nb_48 : NBR sS_48 := NBR_R (t := 17) (by decide +kernel) (by decide) (by decide) nb_47
def sS_49 : am_S := am_nw sS_48 (100, 12)
theorem nb_49 : NBR sS_49 := NBR_N nb_48
def sS_50 : am_S := am_sR sS_49 15 1 (some 17)
theorem nb_50 : NBR sS_50 := NBR_R (t := 18) (by decide +kernel) (by decide) (by decide) nb_49
def sS_51 : am_S := am_nw sS_50 (100, 12)
theorem nb_51 : NBR sS_51 := NBR_N nb_50
def sS_52 : am_S := am_sR sS_51 15 2 (some 18)
theorem nb_52 : NBR sS_52 := NBR_R (t := 19) (by decide +kernel) (by decide) (by decide) nb_51
def sS_53 : am_S := am_nw sS_52 (100, 12)
theorem nb_53 : NBR sS_53 := NBR_N nb_52
def sS_54 : am_S := am_sR sS_53 15 3 (some 19)
theorem nb_54 : NBR sS_54 := NBR_R (t := 20) (by decide +kernel) (by decide) (by decide) nb_53
def sS_55 : am_S := am_sM sS_54 15 4 0
theorem nb_55 : NBR sS_55 := NBR_M nb_54
def sS_56 : am_S := am_sM sS_55 15 5 15
theorem nb_56 : NBR sS_56 := NBR_M nb_55
def sS_57 : am_S := am_sM sS_56 15 6 4
theorem nb_57 : NBR sS_57 := NBR_M nb_56
def sS_58 : am_S := am_sM sS_57 15 7 12
theorem nb_58 : NBR sS_58 := NBR_M nb_57
def sS_59 : am_S := am_sM sS_58 15 8 3
theorem nb_59 : NBR sS_59 := NBR_M nb_58
def sS_60 : am_S := am_sM sS_59 15 9 0
theorem nb_60 : NBR sS_60 := NBR_M nb_59
def sS_61 : am_S := am_sM sS_60 15 10 0
theorem nb_61 : NBR sS_61 := NBR_M nb_60
def sS_62 : am_S := am_sM sS_61 15 11 0
theorem nb_62 : NBR sS_62 := NBR_M nb_61
theorem mk_8 {fx : am_X0} : rn fx 1 (0, 0) 3 0 (am_ent 1 [.inr (.inr (some 15))]) [] sS_54 ([], sS_62) := by
  show rn fx (0 + 1) (0, 0) 3 0 [some (.inr (.inr (some 15)))] [] sS_54 _
  refine r_ld (pc' := 1) hM_3 d_3_0 rfl rfl ?_
  refine r_k (pc' := 2) (v := .inl 0) hM_3 d_3_1 rfl rfl ?_
  refine g_pI (pc' := 5) (ci := 7) (kk := 4) (n := 12) hM_3 d_3_2 rfl (by decide +kernel) (by decide +kernel) (by decide) (by decide +kernel) (by decide +kernel) ?_
  show rn fx (0 + 1) (0, 0) 3 5 [some (.inr (.inr (some 15)))] [] sS_55 _
  refine r_ld (pc' := 6) hM_3 d_3_5 rfl rfl ?_
  refine r_k (pc' := 8) (v := .inl 15) hM_3 d_3_6 rfl rfl ?_
  refine g_pI (pc' := 11) (ci := 7) (kk := 5) (n := 12) hM_3 d_3_8 rfl (by decide +kernel) (by decide +kernel) (by decide) (by decide +kernel) (by decide +kernel) ?_
  show rn fx (0 + 1) (0, 0) 3 11 [some (.inr (.inr (some 15)))] [] sS_56 _
  refine r_ld (pc' := 12) hM_3 d_3_11 rfl rfl ?_
  refine r_k (pc' := 13) (v := .inl 4) hM_3 d_3_12 rfl rfl ?_
  refine g_pI (pc' := 16) (ci := 7) (kk := 6) (n := 12) hM_3 d_3_13 rfl (by decide +kernel) (by decide +kernel) (by decide) (by decide +kernel) (by decide +kernel) ?_
  show rn fx (0 + 1) (0, 0) 3 16 [some (.inr (.inr (some 15)))] [] sS_57 _
  refine r_ld (pc' := 17) hM_3 d_3_16 rfl rfl ?_
  refine r_k (pc' := 19) (v := .inl 12) hM_3 d_3_17 rfl rfl ?_
  refine g_pI (pc' := 22) (ci := 7) (kk := 7) (n := 12) hM_3 d_3_19 rfl (by decide +kernel) (by decide +kernel) (by decide) (by decide +kernel) (by decide +kernel) ?_
  show rn fx (0 + 1) (0, 0) 3 22 [some (.inr (.inr (some 15)))] [] sS_58 _
  refine r_ld (pc' := 23) hM_3 d_3_22 rfl rfl ?_
  refine r_k (pc' := 24) (v := .inl 3) hM_3 d_3_23 rfl rfl ?_
  refine g_pI (pc' := 27) (ci := 7) (kk := 8) (n := 12) hM_3 d_3_24 rfl (by decide +kernel) (by decide +kernel) (by decide) (by decide +kernel) (by decide +kernel) ?_
  show rn fx (0 + 1) (0, 0) 3 27 [some (.inr (.inr (some 15)))] [] sS_59 _
  refine r_ld (pc' := 28) hM_3 d_3_27 rfl rfl ?_
  refine r_k (pc' := 29) (v := .inl 0) hM_3 d_3_28 rfl rfl ?_
  refine g_pI (pc' := 32) (ci := 7) (kk := 9) (n := 12) hM_3 d_3_29 rfl (by decide +kernel) (by decide +kernel) (by decide) (by decide +kernel) (by decide +kernel) ?_
  show rn fx (0 + 1) (0, 0) 3 32 [some (.inr (.inr (some 15)))] [] sS_60 _
  refine r_ld (pc' := 33) hM_3 d_3_32 rfl rfl ?_
  refine r_k (pc' := 34) (v := .inl 0) hM_3 d_3_33 rfl rfl ?_
  refine g_pI (pc' := 37) (ci := 7) (kk := 10) (n := 12) hM_3 d_3_34 rfl (by decide +kernel) (by decide +kernel) (by decide) (by decide +kernel) (by decide +kernel) ?_
  show rn fx (0 + 1) (0, 0) 3 37 [some (.inr (.inr (some 15)))] [] sS_61 _
  refine r_ld (pc' := 38) hM_3 d_3_37 rfl rfl ?_
  refine r_k (pc' := 39) (v := .inl 0) hM_3 d_3_38 rfl rfl ?_
  refine g_pI (pc' := 42) (ci := 7) (kk := 11) (n := 12) hM_3 d_3_39 rfl (by decide +kernel) (by decide +kernel) (by decide) (by decide +kernel) (by decide +kernel) ?_
  show rn fx (0 + 1) (0, 0) 3 42 [some (.inr (.inr (some 15)))] [] sS_62 _
  exact rt_v hM_3 d_3_42 rfl
theorem mk_7 {fx : am_X0} : rn fx 2 (4, 48) 2 0 (am_ent 1 [.inr (.inr (some 15))]) [] sS_46 ([], sS_62) := by
  show rn fx (1 + 1) (4, 48) 2 0 [some (.inr (.inr (some 15)))] [] sS_46 _
  refine r_ld (pc' := 1) hM_2 d_2_0 rfl rfl ?_
  refine rn_obj hM_2 d_2_1 (by decide +kernel) (by decide) (by decide) ?_
  show rn fx (1 + 1) (4, 48) 2 4 [some (.inr (.inr (some 15)))] [] sS_46 _
  refine r_ld (pc' := 5) hM_2 d_2_4 rfl rfl ?_
  refine r_k (pc' := 7) (v := .inl 12) hM_2 d_2_5 rfl rfl ?_
  refine g_na (pc' := 9) (n := 12) (at' := 100) (t := 16) hM_2 d_2_7 rfl (by decide) (by decide) rfl (by decide) (by decide +kernel) (by decide) (by decide) (by decide) ?_
  show rn fx (1 + 1) (3, 36) 2 9 [some (.inr (.inr (some 15)))] [.inr (.inr (some 16)), .inr (.inr (some 15))] sS_47 _
  refine g_pR (pc' := 12) (ci := 7) (kk := 0) (n := 12) hM_2 d_2_9 rfl (by decide +kernel) (by decide +kernel) (by decide) (by decide +kernel) rfl (by decide) (by decide +kernel) ?_
  show rn fx (1 + 1) (3, 36) 2 12 [some (.inr (.inr (some 15)))] [] sS_48 _
  refine r_ld (pc' := 13) hM_2 d_2_12 rfl rfl ?_
  refine r_k (pc' := 15) (v := .inl 12) hM_2 d_2_13 rfl rfl ?_
  refine g_na (pc' := 17) (n := 12) (at' := 100) (t := 17) hM_2 d_2_15 rfl (by decide) (by decide) rfl (by decide) (by decide +kernel) (by decide) (by decide) (by decide) ?_
  show rn fx (1 + 1) (2, 24) 2 17 [some (.inr (.inr (some 15)))] [.inr (.inr (some 17)), .inr (.inr (some 15))] sS_49 _
  refine g_pR (pc' := 20) (ci := 7) (kk := 1) (n := 12) hM_2 d_2_17 rfl (by decide +kernel) (by decide +kernel) (by decide) (by decide +kernel) rfl (by decide) (by decide +kernel) ?_
  show rn fx (1 + 1) (2, 24) 2 20 [some (.inr (.inr (some 15)))] [] sS_50 _
  refine r_ld (pc' := 21) hM_2 d_2_20 rfl rfl ?_
  refine r_k (pc' := 23) (v := .inl 12) hM_2 d_2_21 rfl rfl ?_
  refine g_na (pc' := 25) (n := 12) (at' := 100) (t := 18) hM_2 d_2_23 rfl (by decide) (by decide) rfl (by decide) (by decide +kernel) (by decide) (by decide) (by decide) ?_
  show rn fx (1 + 1) (1, 12) 2 25 [some (.inr (.inr (some 15)))] [.inr (.inr (some 18)), .inr (.inr (some 15))] sS_51 _
  refine g_pR (pc' := 28) (ci := 7) (kk := 2) (n := 12) hM_2 d_2_25 rfl (by decide +kernel) (by decide +kernel) (by decide) (by decide +kernel) rfl (by decide) (by decide +kernel) ?_
  show rn fx (1 + 1) (1, 12) 2 28 [some (.inr (.inr (some 15)))] [] sS_52 _
  refine r_ld (pc' := 29) hM_2 d_2_28 rfl rfl ?_
  refine r_k (pc' := 31) (v := .inl 12) hM_2 d_2_29 rfl rfl ?_
  refine g_na (pc' := 33) (n := 12) (at' := 100) (t := 19) hM_2 d_2_31 rfl (by decide) (by decide) rfl (by decide) (by decide +kernel) (by decide) (by decide) (by decide) ?_
  show rn fx (1 + 1) (0, 0) 2 33 [some (.inr (.inr (some 15)))] [.inr (.inr (some 19)), .inr (.inr (some 15))] sS_53 _
  refine g_pR (pc' := 36) (ci := 7) (kk := 3) (n := 12) hM_2 d_2_33 rfl (by decide +kernel) (by decide +kernel) (by decide) (by decide +kernel) rfl (by decide) (by decide +kernel) ?_
  show rn fx (1 + 1) (0, 0) 2 36 [some (.inr (.inr (some 15)))] [] sS_54 _
  refine r_ld (pc' := 37) hM_2 d_2_36 rfl rfl ?_
  refine g_cl (pc' := 40) (c := (3, 0)) (a := [.inr (.inr (some 15))]) (q := []) (r := []) (S1 := sS_62) hM_2 d_2_37 rfl (by decide +kernel) hM_3 rfl (by decide) (by decide) rfl rfl (by decide) (by decide) (Or.inr (by decide +kernel)) mk_8 (by decide) (by decide +kernel) ?_
  show rn fx (1 + 1) (0, 0) 2 40 [some (.inr (.inr (some 15)))] [] sS_62 _
  exact rt_v hM_2 d_2_40 rfl
def sS_63 : am_S := am_sR sS_62 12 0 (some 15)
theorem nb_63 : NBR sS_63 := NBR_R (t := 20) (by decide +kernel) (by decide) (by decide) nb_62
def sS_64 : am_S := am_nw sS_63 (7, 12)
theorem nb_64 : NBR sS_64 := NBR_N nb_63
def sS_65 : am_S := am_nw sS_64 (100, 12)
theorem nb_65 : NBR sS_65 := NBR_N nb_64
def sS_66 : am_S := am_sR sS_65 20 0 (some 21)
theorem nb_66 : NBR sS_66 := NBR_R (t := 22) (by decide +kernel) (by decide) (by decide) nb_65
def sS_67 : am_S := am_nw sS_66 (100, 12)
theorem nb_67 : NBR sS_67 := NBR_N nb_66
def sS_68 : am_S := am_sR sS_67 20 1 (some 22)
theorem nb_68 : NBR sS_68 := NBR_R (t := 23) (by decide +kernel) (by decide) (by decide) nb_67
def sS_69 : am_S := am_nw sS_68 (100, 12)
theorem nb_69 : NBR sS_69 := NBR_N nb_68
def sS_70 : am_S := am_sR sS_69 20 2 (some 23)
theorem nb_70 : NBR sS_70 := NBR_R (t := 24) (by decide +kernel) (by decide) (by decide) nb_69
def sS_71 : am_S := am_nw sS_70 (100, 12)
theorem nb_71 : NBR sS_71 := NBR_N nb_70
def sS_72 : am_S := am_sR sS_71 20 3 (some 24)
theorem nb_72 : NBR sS_72 := NBR_R (t := 25) (by decide +kernel) (by decide) (by decide) nb_71
def sS_73 : am_S := am_sM sS_72 20 4 0
theorem nb_73 : NBR sS_73 := NBR_M nb_72
def sS_74 : am_S := am_sM sS_73 20 5 15
theorem nb_74 : NBR sS_74 := NBR_M nb_73
def sS_75 : am_S := am_sM sS_74 20 6 4
theorem nb_75 : NBR sS_75 := NBR_M nb_74
def sS_76 : am_S := am_sM sS_75 20 7 12
theorem nb_76 : NBR sS_76 := NBR_M nb_75
def sS_77 : am_S := am_sM sS_76 20 8 3
theorem nb_77 : NBR sS_77 := NBR_M nb_76
def sS_78 : am_S := am_sM sS_77 20 9 0
theorem nb_78 : NBR sS_78 := NBR_M nb_77
def sS_79 : am_S := am_sM sS_78 20 10 0
theorem nb_79 : NBR sS_79 := NBR_M nb_78
def sS_80 : am_S := am_sM sS_79 20 11 0
theorem nb_80 : NBR sS_80 := NBR_M nb_79
theorem mk_10 {fx : am_X0} : rn fx 1 (0, 0) 3 0 (am_ent 1 [.inr (.inr (some 20))]) [] sS_72 ([], sS_80) := by
  show rn fx (0 + 1) (0, 0) 3 0 [some (.inr (.inr (some 20)))] [] sS_72 _
  refine r_ld (pc' := 1) hM_3 d_3_0 rfl rfl ?_
  refine r_k (pc' := 2) (v := .inl 0) hM_3 d_3_1 rfl rfl ?_
  refine g_pI (pc' := 5) (ci := 7) (kk := 4) (n := 12) hM_3 d_3_2 rfl (by decide +kernel) (by decide +kernel) (by decide) (by decide +kernel) (by decide +kernel) ?_
  show rn fx (0 + 1) (0, 0) 3 5 [some (.inr (.inr (some 20)))] [] sS_73 _
  refine r_ld (pc' := 6) hM_3 d_3_5 rfl rfl ?_
  refine r_k (pc' := 8) (v := .inl 15) hM_3 d_3_6 rfl rfl ?_
  refine g_pI (pc' := 11) (ci := 7) (kk := 5) (n := 12) hM_3 d_3_8 rfl (by decide +kernel) (by decide +kernel) (by decide) (by decide +kernel) (by decide +kernel) ?_
  show rn fx (0 + 1) (0, 0) 3 11 [some (.inr (.inr (some 20)))] [] sS_74 _
  refine r_ld (pc' := 12) hM_3 d_3_11 rfl rfl ?_
  refine r_k (pc' := 13) (v := .inl 4) hM_3 d_3_12 rfl rfl ?_
  refine g_pI (pc' := 16) (ci := 7) (kk := 6) (n := 12) hM_3 d_3_13 rfl (by decide +kernel) (by decide +kernel) (by decide) (by decide +kernel) (by decide +kernel) ?_
  show rn fx (0 + 1) (0, 0) 3 16 [some (.inr (.inr (some 20)))] [] sS_75 _
  refine r_ld (pc' := 17) hM_3 d_3_16 rfl rfl ?_
  refine r_k (pc' := 19) (v := .inl 12) hM_3 d_3_17 rfl rfl ?_
  refine g_pI (pc' := 22) (ci := 7) (kk := 7) (n := 12) hM_3 d_3_19 rfl (by decide +kernel) (by decide +kernel) (by decide) (by decide +kernel) (by decide +kernel) ?_
  show rn fx (0 + 1) (0, 0) 3 22 [some (.inr (.inr (some 20)))] [] sS_76 _
  refine r_ld (pc' := 23) hM_3 d_3_22 rfl rfl ?_
  refine r_k (pc' := 24) (v := .inl 3) hM_3 d_3_23 rfl rfl ?_
  refine g_pI (pc' := 27) (ci := 7) (kk := 8) (n := 12) hM_3 d_3_24 rfl (by decide +kernel) (by decide +kernel) (by decide) (by decide +kernel) (by decide +kernel) ?_
  show rn fx (0 + 1) (0, 0) 3 27 [some (.inr (.inr (some 20)))] [] sS_77 _
  refine r_ld (pc' := 28) hM_3 d_3_27 rfl rfl ?_
  refine r_k (pc' := 29) (v := .inl 0) hM_3 d_3_28 rfl rfl ?_
  refine g_pI (pc' := 32) (ci := 7) (kk := 9) (n := 12) hM_3 d_3_29 rfl (by decide +kernel) (by decide +kernel) (by decide) (by decide +kernel) (by decide +kernel) ?_
  show rn fx (0 + 1) (0, 0) 3 32 [some (.inr (.inr (some 20)))] [] sS_78 _
  refine r_ld (pc' := 33) hM_3 d_3_32 rfl rfl ?_
  refine r_k (pc' := 34) (v := .inl 0) hM_3 d_3_33 rfl rfl ?_
  refine g_pI (pc' := 37) (ci := 7) (kk := 10) (n := 12) hM_3 d_3_34 rfl (by decide +kernel) (by decide +kernel) (by decide) (by decide +kernel) (by decide +kernel) ?_
  show rn fx (0 + 1) (0, 0) 3 37 [some (.inr (.inr (some 20)))] [] sS_79 _
  refine r_ld (pc' := 38) hM_3 d_3_37 rfl rfl ?_
  refine r_k (pc' := 39) (v := .inl 0) hM_3 d_3_38 rfl rfl ?_
  refine g_pI (pc' := 42) (ci := 7) (kk := 11) (n := 12) hM_3 d_3_39 rfl (by decide +kernel) (by decide +kernel) (by decide) (by decide +kernel) (by decide +kernel) ?_
  show rn fx (0 + 1) (0, 0) 3 42 [some (.inr (.inr (some 20)))] [] sS_80 _
  exact rt_v hM_3 d_3_42 rfl
theorem mk_9 {fx : am_X0} : rn fx 2 (4, 48) 2 0 (am_ent 1 [.inr (.inr (some 20))]) [] sS_64 ([], sS_80) := by
  show rn fx (1 + 1) (4, 48) 2 0 [some (.inr (.inr (some 20)))] [] sS_64 _
  refine r_ld (pc' := 1) hM_2 d_2_0 rfl rfl ?_
  refine rn_obj hM_2 d_2_1 (by decide +kernel) (by decide) (by decide) ?_
  show rn fx (1 + 1) (4, 48) 2 4 [some (.inr (.inr (some 20)))] [] sS_64 _
  refine r_ld (pc' := 5) hM_2 d_2_4 rfl rfl ?_
  refine r_k (pc' := 7) (v := .inl 12) hM_2 d_2_5 rfl rfl ?_
  refine g_na (pc' := 9) (n := 12) (at' := 100) (t := 21) hM_2 d_2_7 rfl (by decide) (by decide) rfl (by decide) (by decide +kernel) (by decide) (by decide) (by decide) ?_
  show rn fx (1 + 1) (3, 36) 2 9 [some (.inr (.inr (some 20)))] [.inr (.inr (some 21)), .inr (.inr (some 20))] sS_65 _
  refine g_pR (pc' := 12) (ci := 7) (kk := 0) (n := 12) hM_2 d_2_9 rfl (by decide +kernel) (by decide +kernel) (by decide) (by decide +kernel) rfl (by decide) (by decide +kernel) ?_
  show rn fx (1 + 1) (3, 36) 2 12 [some (.inr (.inr (some 20)))] [] sS_66 _
  refine r_ld (pc' := 13) hM_2 d_2_12 rfl rfl ?_
  refine r_k (pc' := 15) (v := .inl 12) hM_2 d_2_13 rfl rfl ?_
  refine g_na (pc' := 17) (n := 12) (at' := 100) (t := 22) hM_2 d_2_15 rfl (by decide) (by decide) rfl (by decide) (by decide +kernel) (by decide) (by decide) (by decide) ?_
  show rn fx (1 + 1) (2, 24) 2 17 [some (.inr (.inr (some 20)))] [.inr (.inr (some 22)), .inr (.inr (some 20))] sS_67 _
  refine g_pR (pc' := 20) (ci := 7) (kk := 1) (n := 12) hM_2 d_2_17 rfl (by decide +kernel) (by decide +kernel) (by decide) (by decide +kernel) rfl (by decide) (by decide +kernel) ?_
  show rn fx (1 + 1) (2, 24) 2 20 [some (.inr (.inr (some 20)))] [] sS_68 _
  refine r_ld (pc' := 21) hM_2 d_2_20 rfl rfl ?_
  refine r_k (pc' := 23) (v := .inl 12) hM_2 d_2_21 rfl rfl ?_
  refine g_na (pc' := 25) (n := 12) (at' := 100) (t := 23) hM_2 d_2_23 rfl (by decide) (by decide) rfl (by decide) (by decide +kernel) (by decide) (by decide) (by decide) ?_
  show rn fx (1 + 1) (1, 12) 2 25 [some (.inr (.inr (some 20)))] [.inr (.inr (some 23)), .inr (.inr (some 20))] sS_69 _
  refine g_pR (pc' := 28) (ci := 7) (kk := 2) (n := 12) hM_2 d_2_25 rfl (by decide +kernel) (by decide +kernel) (by decide) (by decide +kernel) rfl (by decide) (by decide +kernel) ?_
  show rn fx (1 + 1) (1, 12) 2 28 [some (.inr (.inr (some 20)))] [] sS_70 _
  refine r_ld (pc' := 29) hM_2 d_2_28 rfl rfl ?_
  refine r_k (pc' := 31) (v := .inl 12) hM_2 d_2_29 rfl rfl ?_
  refine g_na (pc' := 33) (n := 12) (at' := 100) (t := 24) hM_2 d_2_31 rfl (by decide) (by decide) rfl (by decide) (by decide +kernel) (by decide) (by decide) (by decide) ?_
  show rn fx (1 + 1) (0, 0) 2 33 [some (.inr (.inr (some 20)))] [.inr (.inr (some 24)), .inr (.inr (some 20))] sS_71 _
  refine g_pR (pc' := 36) (ci := 7) (kk := 3) (n := 12) hM_2 d_2_33 rfl (by decide +kernel) (by decide +kernel) (by decide) (by decide +kernel) rfl (by decide) (by decide +kernel) ?_
  show rn fx (1 + 1) (0, 0) 2 36 [some (.inr (.inr (some 20)))] [] sS_72 _
  refine r_ld (pc' := 37) hM_2 d_2_36 rfl rfl ?_
  refine g_cl (pc' := 40) (c := (3, 0)) (a := [.inr (.inr (some 20))]) (q := []) (r := []) (S1 := sS_80) hM_2 d_2_37 rfl (by decide +kernel) hM_3 rfl (by decide) (by decide) rfl rfl (by decide) (by decide) (Or.inr (by decide +kernel)) mk_10 (by decide) (by decide +kernel) ?_
  show rn fx (1 + 1) (0, 0) 2 40 [some (.inr (.inr (some 20)))] [] sS_80 _
  exact rt_v hM_2 d_2_40 rfl
def sS_81 : am_S := am_sR sS_80 12 1 (some 20)
theorem nb_81 : NBR sS_81 := NBR_R (t := 25) (by decide +kernel) (by decide) (by decide) nb_80
def sS_82 : am_S := am_nw sS_81 (6, 3)
theorem nb_82 : NBR sS_82 := NBR_N nb_81
def sS_83 : am_S := am_nw sS_82 (101, 40)
theorem nb_83 : NBR sS_83 := NBR_N nb_82
def sS_84 : am_S := am_sR sS_83 25 0 (some 26)
theorem nb_84 : NBR sS_84 := NBR_R (t := 27) (by decide +kernel) (by decide) (by decide) nb_83
def sS_85 : am_S := am_sM sS_84 25 2 (-1)
theorem nb_85 : NBR sS_85 := NBR_M nb_84
theorem mk_11 {fx : am_X0} : rn fx 2 (1, 40) 4 0 (am_ent 1 [.inr (.inr (some 25))]) [] sS_82 ([], sS_85) := by
  show rn fx (1 + 1) (1, 40) 4 0 [some (.inr (.inr (some 25)))] [] sS_82 _
  refine r_ld (pc' := 1) hM_4 d_4_0 rfl rfl ?_
  refine rn_obj hM_4 d_4_1 (by decide +kernel) (by decide) (by decide) ?_
  show rn fx (1 + 1) (1, 40) 4 4 [some (.inr (.inr (some 25)))] [] sS_82 _
  refine r_ld (pc' := 5) hM_4 d_4_4 rfl rfl ?_
  refine r_k (pc' := 7) (v := .inl 40) hM_4 d_4_5 rfl rfl ?_
  refine g_na (pc' := 9) (n := 40) (at' := 101) (t := 26) hM_4 d_4_7 rfl (by decide) (by decide) rfl (by decide) (by decide +kernel) (by decide) (by decide) (by decide) ?_
  show rn fx (1 + 1) (0, 0) 4 9 [some (.inr (.inr (some 25)))] [.inr (.inr (some 26)), .inr (.inr (some 25))] sS_83 _
  refine g_pR (pc' := 12) (ci := 6) (kk := 0) (n := 3) hM_4 d_4_9 rfl (by decide +kernel) (by decide +kernel) (by decide) (by decide +kernel) rfl (by decide) (by decide +kernel) ?_
  show rn fx (1 + 1) (0, 0) 4 12 [some (.inr (.inr (some 25)))] [] sS_84 _
  refine r_ld (pc' := 13) hM_4 d_4_12 rfl rfl ?_
  refine r_k (pc' := 14) (v := .inl (-1)) hM_4 d_4_13 rfl rfl ?_
  refine g_pI (pc' := 17) (ci := 6) (kk := 2) (n := 3) hM_4 d_4_14 rfl (by decide +kernel) (by decide +kernel) (by decide) (by decide +kernel) (by decide +kernel) ?_
  show rn fx (1 + 1) (0, 0) 4 17 [some (.inr (.inr (some 25)))] [] sS_85 _
  exact rt_v hM_4 d_4_17 rfl
def sS_86 : am_S := am_sR sS_85 14 0 (some 25)
theorem nb_86 : NBR sS_86 := NBR_R (t := 27) (by decide +kernel) (by decide) (by decide) nb_85
def sS_87 : am_S := am_nw sS_86 (6, 3)
theorem nb_87 : NBR sS_87 := NBR_N nb_86
def sS_88 : am_S := am_nw sS_87 (101, 40)
theorem nb_88 : NBR sS_88 := NBR_N nb_87
def sS_89 : am_S := am_sR sS_88 27 0 (some 28)
theorem nb_89 : NBR sS_89 := NBR_R (t := 29) (by decide +kernel) (by decide) (by decide) nb_88
def sS_90 : am_S := am_sM sS_89 27 2 (-1)
theorem nb_90 : NBR sS_90 := NBR_M nb_89
theorem mk_12 {fx : am_X0} : rn fx 2 (1, 40) 4 0 (am_ent 1 [.inr (.inr (some 27))]) [] sS_87 ([], sS_90) := by
  show rn fx (1 + 1) (1, 40) 4 0 [some (.inr (.inr (some 27)))] [] sS_87 _
  refine r_ld (pc' := 1) hM_4 d_4_0 rfl rfl ?_
  refine rn_obj hM_4 d_4_1 (by decide +kernel) (by decide) (by decide) ?_
  show rn fx (1 + 1) (1, 40) 4 4 [some (.inr (.inr (some 27)))] [] sS_87 _
  refine r_ld (pc' := 5) hM_4 d_4_4 rfl rfl ?_
  refine r_k (pc' := 7) (v := .inl 40) hM_4 d_4_5 rfl rfl ?_
  refine g_na (pc' := 9) (n := 40) (at' := 101) (t := 28) hM_4 d_4_7 rfl (by decide) (by decide) rfl (by decide) (by decide +kernel) (by decide) (by decide) (by decide) ?_
  show rn fx (1 + 1) (0, 0) 4 9 [some (.inr (.inr (some 27)))] [.inr (.inr (some 28)), .inr (.inr (some 27))] sS_88 _
  refine g_pR (pc' := 12) (ci := 6) (kk := 0) (n := 3) hM_4 d_4_9 rfl (by decide +kernel) (by decide +kernel) (by decide) (by decide +kernel) rfl (by decide) (by decide +kernel) ?_
  show rn fx (1 + 1) (0, 0) 4 12 [some (.inr (.inr (some 27)))] [] sS_89 _
  refine r_ld (pc' := 13) hM_4 d_4_12 rfl rfl ?_
  refine r_k (pc' := 14) (v := .inl (-1)) hM_4 d_4_13 rfl rfl ?_
  refine g_pI (pc' := 17) (ci := 6) (kk := 2) (n := 3) hM_4 d_4_14 rfl (by decide +kernel) (by decide +kernel) (by decide) (by decide +kernel) (by decide +kernel) ?_
  show rn fx (1 + 1) (0, 0) 4 17 [some (.inr (.inr (some 27)))] [] sS_90 _
  exact rt_v hM_4 d_4_17 rfl
def sS_91 : am_S := am_sR sS_90 14 1 (some 27)
theorem nb_91 : NBR sS_91 := NBR_R (t := 29) (by decide +kernel) (by decide) (by decide) nb_90
def sS_92 : am_S := am_nw sS_91 (6, 3)
theorem nb_92 : NBR sS_92 := NBR_N nb_91
def sS_93 : am_S := am_nw sS_92 (101, 40)
theorem nb_93 : NBR sS_93 := NBR_N nb_92
def sS_94 : am_S := am_sR sS_93 29 0 (some 30)
theorem nb_94 : NBR sS_94 := NBR_R (t := 31) (by decide +kernel) (by decide) (by decide) nb_93
def sS_95 : am_S := am_sM sS_94 29 2 (-1)
theorem nb_95 : NBR sS_95 := NBR_M nb_94
theorem mk_13 {fx : am_X0} : rn fx 2 (1, 40) 4 0 (am_ent 1 [.inr (.inr (some 29))]) [] sS_92 ([], sS_95) := by
  show rn fx (1 + 1) (1, 40) 4 0 [some (.inr (.inr (some 29)))] [] sS_92 _
  refine r_ld (pc' := 1) hM_4 d_4_0 rfl rfl ?_
  refine rn_obj hM_4 d_4_1 (by decide +kernel) (by decide) (by decide) ?_
  show rn fx (1 + 1) (1, 40) 4 4 [some (.inr (.inr (some 29)))] [] sS_92 _
  refine r_ld (pc' := 5) hM_4 d_4_4 rfl rfl ?_
  refine r_k (pc' := 7) (v := .inl 40) hM_4 d_4_5 rfl rfl ?_
  refine g_na (pc' := 9) (n := 40) (at' := 101) (t := 30) hM_4 d_4_7 rfl (by decide) (by decide) rfl (by decide) (by decide +kernel) (by decide) (by decide) (by decide) ?_
  show rn fx (1 + 1) (0, 0) 4 9 [some (.inr (.inr (some 29)))] [.inr (.inr (some 30)), .inr (.inr (some 29))] sS_93 _
  refine g_pR (pc' := 12) (ci := 6) (kk := 0) (n := 3) hM_4 d_4_9 rfl (by decide +kernel) (by decide +kernel) (by decide) (by decide +kernel) rfl (by decide) (by decide +kernel) ?_
  show rn fx (1 + 1) (0, 0) 4 12 [some (.inr (.inr (some 29)))] [] sS_94 _
  refine r_ld (pc' := 13) hM_4 d_4_12 rfl rfl ?_
  refine r_k (pc' := 14) (v := .inl (-1)) hM_4 d_4_13 rfl rfl ?_
  refine g_pI (pc' := 17) (ci := 6) (kk := 2) (n := 3) hM_4 d_4_14 rfl (by decide +kernel) (by decide +kernel) (by decide) (by decide +kernel) (by decide +kernel) ?_
  show rn fx (1 + 1) (0, 0) 4 17 [some (.inr (.inr (some 29)))] [] sS_95 _
  exact rt_v hM_4 d_4_17 rfl
def sS_96 : am_S := am_sR sS_95 14 2 (some 29)
theorem nb_96 : NBR sS_96 := NBR_R (t := 31) (by decide +kernel) (by decide) (by decide) nb_95
def sS_97 : am_S := am_nw sS_96 (6, 3)
theorem nb_97 : NBR sS_97 := NBR_N nb_96
def sS_98 : am_S := am_nw sS_97 (101, 40)
theorem nb_98 : NBR sS_98 := NBR_N nb_97
def sS_99 : am_S := am_sR sS_98 31 0 (some 32)
theorem nb_99 : NBR sS_99 := NBR_R (t := 33) (by decide +kernel) (by decide) (by decide) nb_98
def sS_100 : am_S := am_sM sS_99 31 2 (-1)
theorem nb_100 : NBR sS_100 := NBR_M nb_99
theorem mk_14 {fx : am_X0} : rn fx 2 (1, 40) 4 0 (am_ent 1 [.inr (.inr (some 31))]) [] sS_97 ([], sS_100) := by
  show rn fx (1 + 1) (1, 40) 4 0 [some (.inr (.inr (some 31)))] [] sS_97 _
  refine r_ld (pc' := 1) hM_4 d_4_0 rfl rfl ?_
  refine rn_obj hM_4 d_4_1 (by decide +kernel) (by decide) (by decide) ?_
  show rn fx (1 + 1) (1, 40) 4 4 [some (.inr (.inr (some 31)))] [] sS_97 _
  refine r_ld (pc' := 5) hM_4 d_4_4 rfl rfl ?_
  refine r_k (pc' := 7) (v := .inl 40) hM_4 d_4_5 rfl rfl ?_
  refine g_na (pc' := 9) (n := 40) (at' := 101) (t := 32) hM_4 d_4_7 rfl (by decide) (by decide) rfl (by decide) (by decide +kernel) (by decide) (by decide) (by decide) ?_
  show rn fx (1 + 1) (0, 0) 4 9 [some (.inr (.inr (some 31)))] [.inr (.inr (some 32)), .inr (.inr (some 31))] sS_98 _
  refine g_pR (pc' := 12) (ci := 6) (kk := 0) (n := 3) hM_4 d_4_9 rfl (by decide +kernel) (by decide +kernel) (by decide) (by decide +kernel) rfl (by decide) (by decide +kernel) ?_
  show rn fx (1 + 1) (0, 0) 4 12 [some (.inr (.inr (some 31)))] [] sS_99 _
  refine r_ld (pc' := 13) hM_4 d_4_12 rfl rfl ?_
  refine r_k (pc' := 14) (v := .inl (-1)) hM_4 d_4_13 rfl rfl ?_
  refine g_pI (pc' := 17) (ci := 6) (kk := 2) (n := 3) hM_4 d_4_14 rfl (by decide +kernel) (by decide +kernel) (by decide) (by decide +kernel) (by decide +kernel) ?_
  show rn fx (1 + 1) (0, 0) 4 17 [some (.inr (.inr (some 31)))] [] sS_100 _
  exact rt_v hM_4 d_4_17 rfl
def sS_101 : am_S := am_sR sS_100 14 3 (some 31)
theorem nb_101 : NBR sS_101 := NBR_R (t := 33) (by decide +kernel) (by decide) (by decide) nb_100
def sS_102 : am_S := am_nw sS_101 (5, 9)
theorem nb_102 : NBR sS_102 := NBR_N nb_101
def sS_103 : am_S := am_sM sS_102 33 8 (-1)
theorem nb_103 : NBR sS_103 := NBR_M nb_102
def sS_104 : am_S := am_sR sS_103 33 0 (some 1)
theorem nb_104 : NBR sS_104 := NBR_R (t := 34) (by decide +kernel) (by decide) (by decide) nb_103
def sS_105 : am_S := am_sR sS_104 33 1 (some 7)
theorem nb_105 : NBR sS_105 := NBR_R (t := 34) (by decide +kernel) (by decide) (by decide) nb_104
theorem mk_15 {fx : am_X0} : rn fx 2 (0, 0) 5 0 (am_ent 3 [.inr (.inr (some 33)), .inr (.inr (some 1)), .inr (.inr (some 7))]) [] sS_102 ([], sS_105) := by
  show rn fx (1 + 1) (0, 0) 5 0 [some (.inr (.inr (some 33))), some (.inr (.inr (some 1))), some (.inr (.inr (some 7)))] [] sS_102 _
  refine r_ld (pc' := 1) hM_5 d_5_0 rfl rfl ?_
  refine rn_obj hM_5 d_5_1 (by decide +kernel) (by decide) (by decide) ?_
  show rn fx (1 + 1) (0, 0) 5 4 [some (.inr (.inr (some 33))), some (.inr (.inr (some 1))), some (.inr (.inr (some 7)))] [] sS_102 _
  refine r_ld (pc' := 5) hM_5 d_5_4 rfl rfl ?_
  refine r_k (pc' := 6) (v := .inl (-1)) hM_5 d_5_5 rfl rfl ?_
  refine g_pI (pc' := 9) (ci := 5) (kk := 8) (n := 9) hM_5 d_5_6 rfl (by decide +kernel) (by decide +kernel) (by decide) (by decide +kernel) (by decide +kernel) ?_
  show rn fx (1 + 1) (0, 0) 5 9 [some (.inr (.inr (some 33))), some (.inr (.inr (some 1))), some (.inr (.inr (some 7)))] [] sS_103 _
  refine r_ld (pc' := 10) hM_5 d_5_9 rfl rfl ?_
  refine r_ld (pc' := 11) hM_5 d_5_10 rfl rfl ?_
  refine g_pR (pc' := 14) (ci := 5) (kk := 0) (n := 9) hM_5 d_5_11 rfl (by decide +kernel) (by decide +kernel) (by decide) (by decide +kernel) rfl (by decide) (by decide +kernel) ?_
  show rn fx (1 + 1) (0, 0) 5 14 [some (.inr (.inr (some 33))), some (.inr (.inr (some 1))), some (.inr (.inr (some 7)))] [] sS_104 _
  refine r_ld (pc' := 15) hM_5 d_5_14 rfl rfl ?_
  refine r_ld (pc' := 16) hM_5 d_5_15 rfl rfl ?_
  refine g_pR (pc' := 19) (ci := 5) (kk := 1) (n := 9) hM_5 d_5_16 rfl (by decide +kernel) (by decide +kernel) (by decide) (by decide +kernel) rfl (by decide) (by decide +kernel) ?_
  show rn fx (1 + 1) (0, 0) 5 19 [some (.inr (.inr (some 33))), some (.inr (.inr (some 1))), some (.inr (.inr (some 7)))] [] sS_105 _
  exact rt_v hM_5 d_5_19 rfl
def sS_106 : am_S := am_sR sS_105 0 7 (some 33)
theorem nb_106 : NBR sS_106 := NBR_R (t := 34) (by decide +kernel) (by decide) (by decide) nb_105
def sS_107 : am_S := am_nw sS_106 (2, 12)
theorem nb_107 : NBR sS_107 := NBR_N nb_106
def sS_108 : am_S := am_nw sS_107 (100, 96)
theorem nb_108 : NBR sS_108 := NBR_N nb_107
def sS_109 : am_S := am_sR sS_108 34 1 (some 35)
theorem nb_109 : NBR sS_109 := NBR_R (t := 36) (by decide +kernel) (by decide) (by decide) nb_108
def sS_110 : am_S := am_nw sS_109 (100, 12)
theorem nb_110 : NBR sS_110 := NBR_N nb_109
def sS_111 : am_S := am_sR sS_110 34 2 (some 36)
theorem nb_111 : NBR sS_111 := NBR_R (t := 37) (by decide +kernel) (by decide) (by decide) nb_110
def sS_112 : am_S := am_nw sS_111 (100, 96)
theorem nb_112 : NBR sS_112 := NBR_N nb_111
def sS_113 : am_S := am_sR sS_112 34 3 (some 37)
theorem nb_113 : NBR sS_113 := NBR_R (t := 38) (by decide +kernel) (by decide) (by decide) nb_112
def sS_114 : am_S := am_nw sS_113 (100, 10)
theorem nb_114 : NBR sS_114 := NBR_N nb_113
def sS_115 : am_S := am_sR sS_114 34 4 (some 38)
theorem nb_115 : NBR sS_115 := NBR_R (t := 39) (by decide +kernel) (by decide) (by decide) nb_114
def sS_116 : am_S := am_nw sS_115 (100, 120)
theorem nb_116 : NBR sS_116 := NBR_N nb_115
def sS_117 : am_S := am_sR sS_116 34 5 (some 39)
theorem nb_117 : NBR sS_117 := NBR_R (t := 40) (by decide +kernel) (by decide) (by decide) nb_116
def sS_118 : am_S := am_nw sS_117 (100, 1024)
theorem nb_118 : NBR sS_118 := NBR_N nb_117
def sS_119 : am_S := am_sR sS_118 34 6 (some 40)
theorem nb_119 : NBR sS_119 := NBR_R (t := 41) (by decide +kernel) (by decide) (by decide) nb_118
def sS_120 : am_S := am_nw sS_119 (101, 256)
theorem nb_120 : NBR sS_120 := NBR_N nb_119
def sS_121 : am_S := am_sR sS_120 34 7 (some 41)
theorem nb_121 : NBR sS_121 := NBR_R (t := 42) (by decide +kernel) (by decide) (by decide) nb_120
def sS_122 : am_S := am_nw sS_121 (103, 4096)
theorem nb_122 : NBR sS_122 := NBR_N nb_121
def sS_123 : am_S := am_sR sS_122 34 8 (some 42)
theorem nb_123 : NBR sS_123 := NBR_R (t := 43) (by decide +kernel) (by decide) (by decide) nb_122
def sS_124 : am_S := am_sR sS_123 34 0 (some 2)
theorem nb_124 : NBR sS_124 := NBR_R (t := 43) (by decide +kernel) (by decide) (by decide) nb_123
theorem mk_16 {fx : am_X0} : rn fx 2 (8, 5710) 6 0 (am_ent 2 [.inr (.inr (some 34)), .inr (.inr (some 2))]) [] sS_107 ([], sS_124) := by
  show rn fx (1 + 1) (8, 5710) 6 0 [some (.inr (.inr (some 34))), some (.inr (.inr (some 2)))] [] sS_107 _
  refine r_ld (pc' := 1) hM_6 d_6_0 rfl rfl ?_
  refine rn_obj hM_6 d_6_1 (by decide +kernel) (by decide) (by decide) ?_
  show rn fx (1 + 1) (8, 5710) 6 4 [some (.inr (.inr (some 34))), some (.inr (.inr (some 2)))] [] sS_107 _
  refine r_ld (pc' := 5) hM_6 d_6_4 rfl rfl ?_
  refine r_k (pc' := 7) (v := .inl 96) hM_6 d_6_5 rfl rfl ?_
  refine g_na (pc' := 9) (n := 96) (at' := 100) (t := 35) hM_6 d_6_7 rfl (by decide) (by decide) rfl (by decide) (by decide +kernel) (by decide) (by decide) (by decide) ?_
  show rn fx (1 + 1) (7, 5614) 6 9 [some (.inr (.inr (some 34))), some (.inr (.inr (some 2)))] [.inr (.inr (some 35)), .inr (.inr (some 34))] sS_108 _
  refine g_pR (pc' := 12) (ci := 2) (kk := 1) (n := 12) hM_6 d_6_9 rfl (by decide +kernel) (by decide +kernel) (by decide) (by decide +kernel) rfl (by decide) (by decide +kernel) ?_
  show rn fx (1 + 1) (7, 5614) 6 12 [some (.inr (.inr (some 34))), some (.inr (.inr (some 2)))] [] sS_109 _
  refine r_ld (pc' := 13) hM_6 d_6_12 rfl rfl ?_
  refine r_k (pc' := 15) (v := .inl 12) hM_6 d_6_13 rfl rfl ?_
  refine g_na (pc' := 17) (n := 12) (at' := 100) (t := 36) hM_6 d_6_15 rfl (by decide) (by decide) rfl (by decide) (by decide +kernel) (by decide) (by decide) (by decide) ?_
  show rn fx (1 + 1) (6, 5602) 6 17 [some (.inr (.inr (some 34))), some (.inr (.inr (some 2)))] [.inr (.inr (some 36)), .inr (.inr (some 34))] sS_110 _
  refine g_pR (pc' := 20) (ci := 2) (kk := 2) (n := 12) hM_6 d_6_17 rfl (by decide +kernel) (by decide +kernel) (by decide) (by decide +kernel) rfl (by decide) (by decide +kernel) ?_
  show rn fx (1 + 1) (6, 5602) 6 20 [some (.inr (.inr (some 34))), some (.inr (.inr (some 2)))] [] sS_111 _
  refine r_ld (pc' := 21) hM_6 d_6_20 rfl rfl ?_
  refine r_k (pc' := 23) (v := .inl 96) hM_6 d_6_21 rfl rfl ?_
  refine g_na (pc' := 25) (n := 96) (at' := 100) (t := 37) hM_6 d_6_23 rfl (by decide) (by decide) rfl (by decide) (by decide +kernel) (by decide) (by decide) (by decide) ?_
  show rn fx (1 + 1) (5, 5506) 6 25 [some (.inr (.inr (some 34))), some (.inr (.inr (some 2)))] [.inr (.inr (some 37)), .inr (.inr (some 34))] sS_112 _
  refine g_pR (pc' := 28) (ci := 2) (kk := 3) (n := 12) hM_6 d_6_25 rfl (by decide +kernel) (by decide +kernel) (by decide) (by decide +kernel) rfl (by decide) (by decide +kernel) ?_
  show rn fx (1 + 1) (5, 5506) 6 28 [some (.inr (.inr (some 34))), some (.inr (.inr (some 2)))] [] sS_113 _
  refine r_ld (pc' := 29) hM_6 d_6_28 rfl rfl ?_
  refine r_k (pc' := 31) (v := .inl 10) hM_6 d_6_29 rfl rfl ?_
  refine g_na (pc' := 33) (n := 10) (at' := 100) (t := 38) hM_6 d_6_31 rfl (by decide) (by decide) rfl (by decide) (by decide +kernel) (by decide) (by decide) (by decide) ?_
  show rn fx (1 + 1) (4, 5496) 6 33 [some (.inr (.inr (some 34))), some (.inr (.inr (some 2)))] [.inr (.inr (some 38)), .inr (.inr (some 34))] sS_114 _
  refine g_pR (pc' := 36) (ci := 2) (kk := 4) (n := 12) hM_6 d_6_33 rfl (by decide +kernel) (by decide +kernel) (by decide) (by decide +kernel) rfl (by decide) (by decide +kernel) ?_
  show rn fx (1 + 1) (4, 5496) 6 36 [some (.inr (.inr (some 34))), some (.inr (.inr (some 2)))] [] sS_115 _
  refine r_ld (pc' := 37) hM_6 d_6_36 rfl rfl ?_
  refine r_k (pc' := 39) (v := .inl 120) hM_6 d_6_37 rfl rfl ?_
  refine g_na (pc' := 41) (n := 120) (at' := 100) (t := 39) hM_6 d_6_39 rfl (by decide) (by decide) rfl (by decide) (by decide +kernel) (by decide) (by decide) (by decide) ?_
  show rn fx (1 + 1) (3, 5376) 6 41 [some (.inr (.inr (some 34))), some (.inr (.inr (some 2)))] [.inr (.inr (some 39)), .inr (.inr (some 34))] sS_116 _
  refine g_pR (pc' := 44) (ci := 2) (kk := 5) (n := 12) hM_6 d_6_41 rfl (by decide +kernel) (by decide +kernel) (by decide) (by decide +kernel) rfl (by decide) (by decide +kernel) ?_
  show rn fx (1 + 1) (3, 5376) 6 44 [some (.inr (.inr (some 34))), some (.inr (.inr (some 2)))] [] sS_117 _
  refine r_ld (pc' := 45) hM_6 d_6_44 rfl rfl ?_
  refine r_k (pc' := 48) (v := .inl 1024) hM_6 d_6_45 rfl rfl ?_
  refine g_na (pc' := 50) (n := 1024) (at' := 100) (t := 40) hM_6 d_6_48 rfl (by decide) (by decide) rfl (by decide) (by decide +kernel) (by decide) (by decide) (by decide) ?_
  show rn fx (1 + 1) (2, 4352) 6 50 [some (.inr (.inr (some 34))), some (.inr (.inr (some 2)))] [.inr (.inr (some 40)), .inr (.inr (some 34))] sS_118 _
  refine g_pR (pc' := 53) (ci := 2) (kk := 6) (n := 12) hM_6 d_6_50 rfl (by decide +kernel) (by decide +kernel) (by decide) (by decide +kernel) rfl (by decide) (by decide +kernel) ?_
  show rn fx (1 + 1) (2, 4352) 6 53 [some (.inr (.inr (some 34))), some (.inr (.inr (some 2)))] [] sS_119 _
  refine r_ld (pc' := 54) hM_6 d_6_53 rfl rfl ?_
  refine r_k (pc' := 57) (v := .inl 256) hM_6 d_6_54 rfl rfl ?_
  refine g_na (pc' := 59) (n := 256) (at' := 101) (t := 41) hM_6 d_6_57 rfl (by decide) (by decide) rfl (by decide) (by decide +kernel) (by decide) (by decide) (by decide) ?_
  show rn fx (1 + 1) (1, 4096) 6 59 [some (.inr (.inr (some 34))), some (.inr (.inr (some 2)))] [.inr (.inr (some 41)), .inr (.inr (some 34))] sS_120 _
  refine g_pR (pc' := 62) (ci := 2) (kk := 7) (n := 12) hM_6 d_6_59 rfl (by decide +kernel) (by decide +kernel) (by decide) (by decide +kernel) rfl (by decide) (by decide +kernel) ?_
  show rn fx (1 + 1) (1, 4096) 6 62 [some (.inr (.inr (some 34))), some (.inr (.inr (some 2)))] [] sS_121 _
  refine r_ld (pc' := 63) hM_6 d_6_62 rfl rfl ?_
  refine r_k (pc' := 66) (v := .inl 4096) hM_6 d_6_63 rfl rfl ?_
  refine g_na (pc' := 68) (n := 4096) (at' := 103) (t := 42) hM_6 d_6_66 rfl (by decide) (by decide) rfl (by decide) (by decide +kernel) (by decide) (by decide) (by decide) ?_
  show rn fx (1 + 1) (0, 0) 6 68 [some (.inr (.inr (some 34))), some (.inr (.inr (some 2)))] [.inr (.inr (some 42)), .inr (.inr (some 34))] sS_122 _
  refine g_pR (pc' := 71) (ci := 2) (kk := 8) (n := 12) hM_6 d_6_68 rfl (by decide +kernel) (by decide +kernel) (by decide) (by decide +kernel) rfl (by decide) (by decide +kernel) ?_
  show rn fx (1 + 1) (0, 0) 6 71 [some (.inr (.inr (some 34))), some (.inr (.inr (some 2)))] [] sS_123 _
  refine r_ld (pc' := 72) hM_6 d_6_71 rfl rfl ?_
  refine r_ld (pc' := 73) hM_6 d_6_72 rfl rfl ?_
  refine g_pR (pc' := 76) (ci := 2) (kk := 0) (n := 12) hM_6 d_6_73 rfl (by decide +kernel) (by decide +kernel) (by decide) (by decide +kernel) rfl (by decide) (by decide +kernel) ?_
  show rn fx (1 + 1) (0, 0) 6 76 [some (.inr (.inr (some 34))), some (.inr (.inr (some 2)))] [] sS_124 _
  exact rt_v hM_6 d_6_76 rfl
def sS_125 : am_S := am_sR sS_124 0 8 (some 34)
theorem nb_125 : NBR sS_125 := NBR_R (t := 43) (by decide +kernel) (by decide) (by decide) nb_124
def sS_126 : am_S := am_nw sS_125 (3, 7)
theorem nb_126 : NBR sS_126 := NBR_N nb_125
def sS_127 : am_S := am_nw sS_126 (100, 5)
theorem nb_127 : NBR sS_127 := NBR_N nb_126
def sS_128 : am_S := am_sR sS_127 43 1 (some 44)
theorem nb_128 : NBR sS_128 := NBR_R (t := 45) (by decide +kernel) (by decide) (by decide) nb_127
def sS_129 : am_S := am_nw sS_128 (100, 8192)
theorem nb_129 : NBR sS_129 := NBR_N nb_128
def sS_130 : am_S := am_sR sS_129 43 2 (some 45)
theorem nb_130 : NBR sS_130 := NBR_R (t := 46) (by decide +kernel) (by decide) (by decide) nb_129
def sS_131 : am_S := am_sR sS_130 43 0 (some 2)
theorem nb_131 : NBR sS_131 := NBR_R (t := 46) (by decide +kernel) (by decide) (by decide) nb_130
theorem mk_17 {fx : am_X0} : rn fx 2 (2, 8197) 7 0 (am_ent 2 [.inr (.inr (some 43)), .inr (.inr (some 2))]) [] sS_126 ([], sS_131) := by
  show rn fx (1 + 1) (2, 8197) 7 0 [some (.inr (.inr (some 43))), some (.inr (.inr (some 2)))] [] sS_126 _
  refine r_ld (pc' := 1) hM_7 d_7_0 rfl rfl ?_
  refine rn_obj hM_7 d_7_1 (by decide +kernel) (by decide) (by decide) ?_
  show rn fx (1 + 1) (2, 8197) 7 4 [some (.inr (.inr (some 43))), some (.inr (.inr (some 2)))] [] sS_126 _
  refine r_ld (pc' := 5) hM_7 d_7_4 rfl rfl ?_
  refine r_k (pc' := 6) (v := .inl 5) hM_7 d_7_5 rfl rfl ?_
  refine g_na (pc' := 8) (n := 5) (at' := 100) (t := 44) hM_7 d_7_6 rfl (by decide) (by decide) rfl (by decide) (by decide +kernel) (by decide) (by decide) (by decide) ?_
  show rn fx (1 + 1) (1, 8192) 7 8 [some (.inr (.inr (some 43))), some (.inr (.inr (some 2)))] [.inr (.inr (some 44)), .inr (.inr (some 43))] sS_127 _
  refine g_pR (pc' := 11) (ci := 3) (kk := 1) (n := 7) hM_7 d_7_8 rfl (by decide +kernel) (by decide +kernel) (by decide) (by decide +kernel) rfl (by decide) (by decide +kernel) ?_
  show rn fx (1 + 1) (1, 8192) 7 11 [some (.inr (.inr (some 43))), some (.inr (.inr (some 2)))] [] sS_128 _
  refine r_ld (pc' := 12) hM_7 d_7_11 rfl rfl ?_
  refine r_k (pc' := 15) (v := .inl 8192) hM_7 d_7_12 rfl rfl ?_
  refine g_na (pc' := 17) (n := 8192) (at' := 100) (t := 45) hM_7 d_7_15 rfl (by decide) (by decide) rfl (by decide) (by decide +kernel) (by decide) (by decide) (by decide) ?_
  show rn fx (1 + 1) (0, 0) 7 17 [some (.inr (.inr (some 43))), some (.inr (.inr (some 2)))] [.inr (.inr (some 45)), .inr (.inr (some 43))] sS_129 _
  refine g_pR (pc' := 20) (ci := 3) (kk := 2) (n := 7) hM_7 d_7_17 rfl (by decide +kernel) (by decide +kernel) (by decide) (by decide +kernel) rfl (by decide) (by decide +kernel) ?_
  show rn fx (1 + 1) (0, 0) 7 20 [some (.inr (.inr (some 43))), some (.inr (.inr (some 2)))] [] sS_130 _
  refine r_ld (pc' := 21) hM_7 d_7_20 rfl rfl ?_
  refine r_ld (pc' := 22) hM_7 d_7_21 rfl rfl ?_
  refine g_pR (pc' := 25) (ci := 3) (kk := 0) (n := 7) hM_7 d_7_22 rfl (by decide +kernel) (by decide +kernel) (by decide) (by decide +kernel) rfl (by decide) (by decide +kernel) ?_
  show rn fx (1 + 1) (0, 0) 7 25 [some (.inr (.inr (some 43))), some (.inr (.inr (some 2)))] [] sS_131 _
  exact rt_v hM_7 d_7_25 rfl
def sS_132 : am_S := am_sR sS_131 0 9 (some 43)
theorem nb_132 : NBR sS_132 := NBR_R (t := 46) (by decide +kernel) (by decide) (by decide) nb_131
def sS_133 : am_S := am_nw sS_132 (1, 4)
theorem nb_133 : NBR sS_133 := NBR_N nb_132
def sS_134 : am_S := am_nw sS_133 (100, 12)
theorem nb_134 : NBR sS_134 := NBR_N nb_133
def sS_135 : am_S := am_sR sS_134 46 1 (some 47)
theorem nb_135 : NBR sS_135 := NBR_R (t := 48) (by decide +kernel) (by decide) (by decide) nb_134
def sS_136 : am_S := am_nw sS_135 (100, 10)
theorem nb_136 : NBR sS_136 := NBR_N nb_135
def sS_137 : am_S := am_sR sS_136 46 2 (some 48)
theorem nb_137 : NBR sS_137 := NBR_R (t := 49) (by decide +kernel) (by decide) (by decide) nb_136
def sS_138 : am_S := am_sR sS_137 46 0 (some 2)
theorem nb_138 : NBR sS_138 := NBR_R (t := 49) (by decide +kernel) (by decide) (by decide) nb_137
theorem mk_18 {fx : am_X0} : rn fx 2 (2, 22) 8 0 (am_ent 2 [.inr (.inr (some 46)), .inr (.inr (some 2))]) [] sS_133 ([], sS_138) := by
  show rn fx (1 + 1) (2, 22) 8 0 [some (.inr (.inr (some 46))), some (.inr (.inr (some 2)))] [] sS_133 _
  refine r_ld (pc' := 1) hM_8 d_8_0 rfl rfl ?_
  refine rn_obj hM_8 d_8_1 (by decide +kernel) (by decide) (by decide) ?_
  show rn fx (1 + 1) (2, 22) 8 4 [some (.inr (.inr (some 46))), some (.inr (.inr (some 2)))] [] sS_133 _
  refine r_ld (pc' := 5) hM_8 d_8_4 rfl rfl ?_
  refine r_k (pc' := 7) (v := .inl 12) hM_8 d_8_5 rfl rfl ?_
  refine g_na (pc' := 9) (n := 12) (at' := 100) (t := 47) hM_8 d_8_7 rfl (by decide) (by decide) rfl (by decide) (by decide +kernel) (by decide) (by decide) (by decide) ?_
  show rn fx (1 + 1) (1, 10) 8 9 [some (.inr (.inr (some 46))), some (.inr (.inr (some 2)))] [.inr (.inr (some 47)), .inr (.inr (some 46))] sS_134 _
  refine g_pR (pc' := 12) (ci := 1) (kk := 1) (n := 4) hM_8 d_8_9 rfl (by decide +kernel) (by decide +kernel) (by decide) (by decide +kernel) rfl (by decide) (by decide +kernel) ?_
  show rn fx (1 + 1) (1, 10) 8 12 [some (.inr (.inr (some 46))), some (.inr (.inr (some 2)))] [] sS_135 _
  refine r_ld (pc' := 13) hM_8 d_8_12 rfl rfl ?_
  refine r_k (pc' := 15) (v := .inl 10) hM_8 d_8_13 rfl rfl ?_
  refine g_na (pc' := 17) (n := 10) (at' := 100) (t := 48) hM_8 d_8_15 rfl (by decide) (by decide) rfl (by decide) (by decide +kernel) (by decide) (by decide) (by decide) ?_
  show rn fx (1 + 1) (0, 0) 8 17 [some (.inr (.inr (some 46))), some (.inr (.inr (some 2)))] [.inr (.inr (some 48)), .inr (.inr (some 46))] sS_136 _
  refine g_pR (pc' := 20) (ci := 1) (kk := 2) (n := 4) hM_8 d_8_17 rfl (by decide +kernel) (by decide +kernel) (by decide) (by decide +kernel) rfl (by decide) (by decide +kernel) ?_
  show rn fx (1 + 1) (0, 0) 8 20 [some (.inr (.inr (some 46))), some (.inr (.inr (some 2)))] [] sS_137 _
  refine r_ld (pc' := 21) hM_8 d_8_20 rfl rfl ?_
  refine r_ld (pc' := 22) hM_8 d_8_21 rfl rfl ?_
  refine g_pR (pc' := 25) (ci := 1) (kk := 0) (n := 4) hM_8 d_8_22 rfl (by decide +kernel) (by decide +kernel) (by decide) (by decide +kernel) rfl (by decide) (by decide +kernel) ?_
  show rn fx (1 + 1) (0, 0) 8 25 [some (.inr (.inr (some 46))), some (.inr (.inr (some 2)))] [] sS_138 _
  exact rt_v hM_8 d_8_25 rfl
def sS_139 : am_S := am_sR sS_138 0 10 (some 46)
theorem nb_139 : NBR sS_139 := NBR_R (t := 49) (by decide +kernel) (by decide) (by decide) nb_138
def sS_140 : am_S := am_nw sS_139 (4, 5)
theorem nb_140 : NBR sS_140 := NBR_N nb_139
def sS_141 : am_S := am_nw sS_140 (100, 8)
theorem nb_141 : NBR sS_141 := NBR_N nb_140
def sS_142 : am_S := am_sR sS_141 49 1 (some 50)
theorem nb_142 : NBR sS_142 := NBR_R (t := 51) (by decide +kernel) (by decide) (by decide) nb_141
def sS_143 : am_S := am_nw sS_142 (100, 8)
theorem nb_143 : NBR sS_143 := NBR_N nb_142
def sS_144 : am_S := am_sR sS_143 49 2 (some 51)
theorem nb_144 : NBR sS_144 := NBR_R (t := 52) (by decide +kernel) (by decide) (by decide) nb_143
def sS_145 : am_S := am_nw sS_144 (100, 2048)
theorem nb_145 : NBR sS_145 := NBR_N nb_144
def sS_146 : am_S := am_sR sS_145 49 3 (some 52)
theorem nb_146 : NBR sS_146 := NBR_R (t := 53) (by decide +kernel) (by decide) (by decide) nb_145
def sS_147 : am_S := am_sR sS_146 49 0 (some 2)
theorem nb_147 : NBR sS_147 := NBR_R (t := 53) (by decide +kernel) (by decide) (by decide) nb_146
theorem mk_19 {fx : am_X0} : rn fx 2 (3, 2064) 9 0 (am_ent 2 [.inr (.inr (some 49)), .inr (.inr (some 2))]) [] sS_140 ([], sS_147) := by
  show rn fx (1 + 1) (3, 2064) 9 0 [some (.inr (.inr (some 49))), some (.inr (.inr (some 2)))] [] sS_140 _
  refine r_ld (pc' := 1) hM_9 d_9_0 rfl rfl ?_
  refine rn_obj hM_9 d_9_1 (by decide +kernel) (by decide) (by decide) ?_
  show rn fx (1 + 1) (3, 2064) 9 4 [some (.inr (.inr (some 49))), some (.inr (.inr (some 2)))] [] sS_140 _
  refine r_ld (pc' := 5) hM_9 d_9_4 rfl rfl ?_
  refine r_k (pc' := 7) (v := .inl 8) hM_9 d_9_5 rfl rfl ?_
  refine g_na (pc' := 9) (n := 8) (at' := 100) (t := 50) hM_9 d_9_7 rfl (by decide) (by decide) rfl (by decide) (by decide +kernel) (by decide) (by decide) (by decide) ?_
  show rn fx (1 + 1) (2, 2056) 9 9 [some (.inr (.inr (some 49))), some (.inr (.inr (some 2)))] [.inr (.inr (some 50)), .inr (.inr (some 49))] sS_141 _
  refine g_pR (pc' := 12) (ci := 4) (kk := 1) (n := 5) hM_9 d_9_9 rfl (by decide +kernel) (by decide +kernel) (by decide) (by decide +kernel) rfl (by decide) (by decide +kernel) ?_
  show rn fx (1 + 1) (2, 2056) 9 12 [some (.inr (.inr (some 49))), some (.inr (.inr (some 2)))] [] sS_142 _
  refine r_ld (pc' := 13) hM_9 d_9_12 rfl rfl ?_
  refine r_k (pc' := 15) (v := .inl 8) hM_9 d_9_13 rfl rfl ?_
  refine g_na (pc' := 17) (n := 8) (at' := 100) (t := 51) hM_9 d_9_15 rfl (by decide) (by decide) rfl (by decide) (by decide +kernel) (by decide) (by decide) (by decide) ?_
  show rn fx (1 + 1) (1, 2048) 9 17 [some (.inr (.inr (some 49))), some (.inr (.inr (some 2)))] [.inr (.inr (some 51)), .inr (.inr (some 49))] sS_143 _
  refine g_pR (pc' := 20) (ci := 4) (kk := 2) (n := 5) hM_9 d_9_17 rfl (by decide +kernel) (by decide +kernel) (by decide) (by decide +kernel) rfl (by decide) (by decide +kernel) ?_
  show rn fx (1 + 1) (1, 2048) 9 20 [some (.inr (.inr (some 49))), some (.inr (.inr (some 2)))] [] sS_144 _
  refine r_ld (pc' := 21) hM_9 d_9_20 rfl rfl ?_
  refine r_k (pc' := 24) (v := .inl 2048) hM_9 d_9_21 rfl rfl ?_
  refine g_na (pc' := 26) (n := 2048) (at' := 100) (t := 52) hM_9 d_9_24 rfl (by decide) (by decide) rfl (by decide) (by decide +kernel) (by decide) (by decide) (by decide) ?_
  show rn fx (1 + 1) (0, 0) 9 26 [some (.inr (.inr (some 49))), some (.inr (.inr (some 2)))] [.inr (.inr (some 52)), .inr (.inr (some 49))] sS_145 _
  refine g_pR (pc' := 29) (ci := 4) (kk := 3) (n := 5) hM_9 d_9_26 rfl (by decide +kernel) (by decide +kernel) (by decide) (by decide +kernel) rfl (by decide) (by decide +kernel) ?_
  show rn fx (1 + 1) (0, 0) 9 29 [some (.inr (.inr (some 49))), some (.inr (.inr (some 2)))] [] sS_146 _
  refine r_ld (pc' := 30) hM_9 d_9_29 rfl rfl ?_
  refine r_ld (pc' := 31) hM_9 d_9_30 rfl rfl ?_
  refine g_pR (pc' := 34) (ci := 4) (kk := 0) (n := 5) hM_9 d_9_31 rfl (by decide +kernel) (by decide +kernel) (by decide) (by decide +kernel) rfl (by decide) (by decide +kernel) ?_
  show rn fx (1 + 1) (0, 0) 9 34 [some (.inr (.inr (some 49))), some (.inr (.inr (some 2)))] [] sS_147 _
  exact rt_v hM_9 d_9_34 rfl
def sS_148 : am_S := am_sR sS_147 0 11 (some 49)
theorem nb_148 : NBR sS_148 := NBR_R (t := 53) (by decide +kernel) (by decide) (by decide) nb_147
theorem mk_2 {fx : am_X0} : rn fx 3 (52, 17350) 1 0 (am_ent 2 [.inr (.inr (some 0))]) [] sS_1 ([], sS_148) := by
  show rn fx (2 + 1) (52, 17350) 1 0 [some (.inr (.inr (some 0))), none] [] sS_1 _
  refine r_ld (pc' := 1) hM_1 d_1_0 rfl rfl ?_
  refine rn_obj hM_1 d_1_1 (by decide +kernel) (by decide) (by decide) ?_
  show rn fx (2 + 1) (52, 17350) 1 4 [some (.inr (.inr (some 0))), none] [] sS_1 _
  refine r_ld (pc' := 5) hM_1 d_1_4 rfl rfl ?_
  refine r_k (pc' := 8) (v := .inl 900) hM_1 d_1_5 rfl rfl ?_
  refine g_na (pc' := 10) (n := 900) (at' := 102) (t := 1) hM_1 d_1_8 rfl (by decide) (by decide) rfl (by decide) (by decide +kernel) (by decide) (by decide) (by decide) ?_
  show rn fx (2 + 1) (51, 16450) 1 10 [some (.inr (.inr (some 0))), none] [.inr (.inr (some 1)), .inr (.inr (some 0))] sS_2 _
  refine g_pR (pc' := 13) (ci := 0) (kk := 0) (n := 12) hM_1 d_1_10 rfl (by decide +kernel) (by decide +kernel) (by decide) (by decide +kernel) rfl (by decide) (by decide +kernel) ?_
  show rn fx (2 + 1) (51, 16450) 1 13 [some (.inr (.inr (some 0))), none] [] sS_3 _
  refine r_ld (pc' := 14) hM_1 d_1_13 rfl rfl ?_
  refine g_new (pc' := 17) (ci := 7) (n := 12) (t := 2) hM_1 d_1_14 rfl (by decide +kernel) (by decide +kernel) (by decide +kernel) (by decide) (by decide) (by decide) ?_
  show rn fx (2 + 1) (50, 16438) 1 17 [some (.inr (.inr (some 0))), none] [.inr (.inr (some 2)), .inr (.inr (some 0))] sS_4 _
  refine r_stk (pc' := 18) (st' := [.inr (.inr (some 2)), .inr (.inr (some 2)), .inr (.inr (some 0))]) hM_1 d_1_17 rfl rfl ?_
  refine g_cl (pc' := 21) (c := (2, 1)) (a := [.inr (.inr (some 2))]) (q := [.inr (.inr (some 2)), .inr (.inr (some 0))]) (r := []) (S1 := sS_20) hM_1 d_1_18 rfl (by decide +kernel) hM_2 rfl (by decide) (by decide) rfl rfl (by decide) (by decide) (Or.inr (by decide +kernel)) mk_3 (by decide) (by decide +kernel) ?_
  show rn fx (2 + 1) (46, 16390) 1 21 [some (.inr (.inr (some 0))), none] [.inr (.inr (some 2)), .inr (.inr (some 0))] sS_20 _
  refine g_pR (pc' := 24) (ci := 0) (kk := 2) (n := 12) hM_1 d_1_21 rfl (by decide +kernel) (by decide +kernel) (by decide) (by decide +kernel) rfl (by decide) (by decide +kernel) ?_
  show rn fx (2 + 1) (46, 16390) 1 24 [some (.inr (.inr (some 0))), none] [] sS_21 _
  refine r_ld (pc' := 25) hM_1 d_1_24 rfl rfl ?_
  refine g_new (pc' := 28) (ci := 7) (n := 12) (t := 7) hM_1 d_1_25 rfl (by decide +kernel) (by decide +kernel) (by decide +kernel) (by decide) (by decide) (by decide) ?_
  show rn fx (2 + 1) (45, 16378) 1 28 [some (.inr (.inr (some 0))), none] [.inr (.inr (some 7)), .inr (.inr (some 0))] sS_22 _
  refine r_stk (pc' := 29) (st' := [.inr (.inr (some 7)), .inr (.inr (some 7)), .inr (.inr (some 0))]) hM_1 d_1_28 rfl rfl ?_
  refine g_cl (pc' := 32) (c := (2, 1)) (a := [.inr (.inr (some 7))]) (q := [.inr (.inr (some 7)), .inr (.inr (some 0))]) (r := []) (S1 := sS_38) hM_1 d_1_29 rfl (by decide +kernel) hM_2 rfl (by decide) (by decide) rfl rfl (by decide) (by decide) (Or.inr (by decide +kernel)) mk_5 (by decide) (by decide +kernel) ?_
  show rn fx (2 + 1) (41, 16330) 1 32 [some (.inr (.inr (some 0))), none] [.inr (.inr (some 7)), .inr (.inr (some 0))] sS_38 _
  refine g_pR (pc' := 35) (ci := 0) (kk := 3) (n := 12) hM_1 d_1_32 rfl (by decide +kernel) (by decide +kernel) (by decide) (by decide +kernel) rfl (by decide) (by decide +kernel) ?_
  show rn fx (2 + 1) (41, 16330) 1 35 [some (.inr (.inr (some 0))), none] [] sS_39 _
  refine r_ld (pc' := 36) hM_1 d_1_35 rfl rfl ?_
  refine r_k (pc' := 37) (v := .inl 2) hM_1 d_1_36 rfl rfl ?_
  refine g_an (pc' := 40) (ci := 7) (n := 2) (at' := 200) (t := 12) hM_1 d_1_37 rfl (by decide +kernel) (by decide) (by decide) (by decide) (by decide) (by decide +kernel) (by decide) (by decide) (by decide) ?_
  show rn fx (2 + 1) (40, 16328) 1 40 [some (.inr (.inr (some 0))), none] [.inr (.inr (some 12)), .inr (.inr (some 0))] sS_40 _
  refine g_pR (pc' := 43) (ci := 0) (kk := 4) (n := 12) hM_1 d_1_40 rfl (by decide +kernel) (by decide +kernel) (by decide) (by decide +kernel) rfl (by decide) (by decide +kernel) ?_
  show rn fx (2 + 1) (40, 16328) 1 43 [some (.inr (.inr (some 0))), none] [] sS_41 _
  refine r_ld (pc' := 44) hM_1 d_1_43 rfl rfl ?_
  refine r_k (pc' := 45) (v := .inl 2) hM_1 d_1_44 rfl rfl ?_
  refine g_na (pc' := 47) (n := 2) (at' := 103) (t := 13) hM_1 d_1_45 rfl (by decide) (by decide) rfl (by decide) (by decide +kernel) (by decide) (by decide) (by decide) ?_
  show rn fx (2 + 1) (39, 16326) 1 47 [some (.inr (.inr (some 0))), none] [.inr (.inr (some 13)), .inr (.inr (some 0))] sS_42 _
  refine g_pR (pc' := 50) (ci := 0) (kk := 5) (n := 12) hM_1 d_1_47 rfl (by decide +kernel) (by decide +kernel) (by decide) (by decide +kernel) rfl (by decide) (by decide +kernel) ?_
  show rn fx (2 + 1) (39, 16326) 1 50 [some (.inr (.inr (some 0))), none] [] sS_43 _
  refine r_ld (pc' := 51) hM_1 d_1_50 rfl rfl ?_
  refine r_k (pc' := 52) (v := .inl 4) hM_1 d_1_51 rfl rfl ?_
  refine g_an (pc' := 55) (ci := 6) (n := 4) (at' := 201) (t := 14) hM_1 d_1_52 rfl (by decide +kernel) (by decide) (by decide) (by decide) (by decide) (by decide +kernel) (by decide) (by decide) (by decide) ?_
  show rn fx (2 + 1) (38, 16322) 1 55 [some (.inr (.inr (some 0))), none] [.inr (.inr (some 14)), .inr (.inr (some 0))] sS_44 _
  refine g_pR (pc' := 58) (ci := 0) (kk := 6) (n := 12) hM_1 d_1_55 rfl (by decide +kernel) (by decide +kernel) (by decide) (by decide +kernel) rfl (by decide) (by decide +kernel) ?_
  show rn fx (2 + 1) (38, 16322) 1 58 [some (.inr (.inr (some 0))), none] [] sS_45 _
  refine r_k (pc' := 59) (v := .inl 0) hM_1 d_1_58 rfl rfl ?_
  refine r_sto (pc' := 60) (ls' := [some (.inr (.inr (some 0))), some (.inl 0)]) hM_1 d_1_59 rfl rfl ?_
  refine r_ld (pc' := 61) hM_1 d_1_60 rfl rfl ?_
  refine r_k (pc' := 62) (v := .inl 2) hM_1 d_1_61 rfl rfl ?_
  refine r_ic (pc' := 84) (pc2 := 65) hM_1 d_1_62 (by decide) rfl (fun hc => absurd hc (show ¬ (am_s 2 ≤ am_s 0) by decide)) (fun _ => ?_)
  refine r_ld (pc' := 66) hM_1 d_1_65 rfl rfl ?_
  refine g_gR (pc' := 69) (ci := 0) (kk := 4) (n := 12) (v := some 12) hM_1 d_1_66 rfl (by decide +kernel) (by decide +kernel) (by decide) (by decide +kernel) (by decide +kernel) ?_
  refine r_ld (pc' := 70) hM_1 d_1_69 rfl rfl ?_
  refine g_new (pc' := 73) (ci := 7) (n := 12) (t := 15) hM_1 d_1_70 rfl (by decide +kernel) (by decide +kernel) (by decide +kernel) (by decide) (by decide) (by decide) ?_
  show rn fx (2 + 1) (37, 16310) 1 73 [some (.inr (.inr (some 0))), some (.inl 0)] [.inr (.inr (some 15)), .inl 0, .inr (.inr (some 12))] sS_46 _
  refine r_stk (pc' := 74) (st' := [.inr (.inr (some 15)), .inr (.inr (some 15)), .inl 0, .inr (.inr (some 12))]) hM_1 d_1_73 rfl rfl ?_
  refine g_cl (pc' := 77) (c := (2, 1)) (a := [.inr (.inr (some 15))]) (q := [.inr (.inr (some 15)), .inl 0, .inr (.inr (some 12))]) (r := []) (S1 := sS_62) hM_1 d_1_74 rfl (by decide +kernel) hM_2 rfl (by decide) (by decide) rfl rfl (by decide) (by decide) (Or.inr (by decide +kernel)) mk_7 (by decide) (by decide +kernel) ?_
  show rn fx (2 + 1) (33, 16262) 1 77 [some (.inr (.inr (some 0))), some (.inl 0)] [.inr (.inr (some 15)), .inl 0, .inr (.inr (some 12))] sS_62 _
  refine g_as (pc' := 78) (n := 2) (j := 0) (t := 200) (ci := 7) (nv := 12) hM_1 d_1_77 rfl (by decide) (by decide +kernel) (by decide +kernel) (by decide) (by decide) (by decide) ?_
  show rn fx (2 + 1) (33, 16262) 1 78 [some (.inr (.inr (some 0))), some (.inl 0)] [] sS_63 _
  refine r_sto (pc' := 81) (ls' := [some (.inr (.inr (some 0))), some (.inl 1)]) hM_1 d_1_78 rfl rfl ?_
  refine r_go (pc' := 60) hM_1 d_1_81 (by decide) ?_
  refine r_ld (pc' := 61) hM_1 d_1_60 rfl rfl ?_
  refine r_k (pc' := 62) (v := .inl 2) hM_1 d_1_61 rfl rfl ?_
  refine r_ic (pc' := 84) (pc2 := 65) hM_1 d_1_62 (by decide) rfl (fun hc => absurd hc (show ¬ (am_s 2 ≤ am_s 1) by decide)) (fun _ => ?_)
  refine r_ld (pc' := 66) hM_1 d_1_65 rfl rfl ?_
  refine g_gR (pc' := 69) (ci := 0) (kk := 4) (n := 12) (v := some 12) hM_1 d_1_66 rfl (by decide +kernel) (by decide +kernel) (by decide) (by decide +kernel) (by decide +kernel) ?_
  refine r_ld (pc' := 70) hM_1 d_1_69 rfl rfl ?_
  refine g_new (pc' := 73) (ci := 7) (n := 12) (t := 20) hM_1 d_1_70 rfl (by decide +kernel) (by decide +kernel) (by decide +kernel) (by decide) (by decide) (by decide) ?_
  show rn fx (2 + 1) (32, 16250) 1 73 [some (.inr (.inr (some 0))), some (.inl 1)] [.inr (.inr (some 20)), .inl 1, .inr (.inr (some 12))] sS_64 _
  refine r_stk (pc' := 74) (st' := [.inr (.inr (some 20)), .inr (.inr (some 20)), .inl 1, .inr (.inr (some 12))]) hM_1 d_1_73 rfl rfl ?_
  refine g_cl (pc' := 77) (c := (2, 1)) (a := [.inr (.inr (some 20))]) (q := [.inr (.inr (some 20)), .inl 1, .inr (.inr (some 12))]) (r := []) (S1 := sS_80) hM_1 d_1_74 rfl (by decide +kernel) hM_2 rfl (by decide) (by decide) rfl rfl (by decide) (by decide) (Or.inr (by decide +kernel)) mk_9 (by decide) (by decide +kernel) ?_
  show rn fx (2 + 1) (28, 16202) 1 77 [some (.inr (.inr (some 0))), some (.inl 1)] [.inr (.inr (some 20)), .inl 1, .inr (.inr (some 12))] sS_80 _
  refine g_as (pc' := 78) (n := 2) (j := 1) (t := 200) (ci := 7) (nv := 12) hM_1 d_1_77 rfl (by decide) (by decide +kernel) (by decide +kernel) (by decide) (by decide) (by decide) ?_
  show rn fx (2 + 1) (28, 16202) 1 78 [some (.inr (.inr (some 0))), some (.inl 1)] [] sS_81 _
  refine r_sto (pc' := 81) (ls' := [some (.inr (.inr (some 0))), some (.inl 2)]) hM_1 d_1_78 rfl rfl ?_
  refine r_go (pc' := 60) hM_1 d_1_81 (by decide) ?_
  refine r_ld (pc' := 61) hM_1 d_1_60 rfl rfl ?_
  refine r_k (pc' := 62) (v := .inl 2) hM_1 d_1_61 rfl rfl ?_
  refine r_ic (pc' := 84) (pc2 := 65) hM_1 d_1_62 (by decide) rfl (fun _ => ?_) (fun hc => absurd (show am_s 2 ≤ am_s 2 by decide) hc)
  refine r_k (pc' := 85) (v := .inl 0) hM_1 d_1_84 rfl rfl ?_
  refine r_sto (pc' := 86) (ls' := [some (.inr (.inr (some 0))), some (.inl 0)]) hM_1 d_1_85 rfl rfl ?_
  refine r_ld (pc' := 87) hM_1 d_1_86 rfl rfl ?_
  refine r_k (pc' := 88) (v := .inl 4) hM_1 d_1_87 rfl rfl ?_
  refine r_ic (pc' := 110) (pc2 := 91) hM_1 d_1_88 (by decide) rfl (fun hc => absurd hc (show ¬ (am_s 4 ≤ am_s 0) by decide)) (fun _ => ?_)
  refine r_ld (pc' := 92) hM_1 d_1_91 rfl rfl ?_
  refine g_gR (pc' := 95) (ci := 0) (kk := 6) (n := 12) (v := some 14) hM_1 d_1_92 rfl (by decide +kernel) (by decide +kernel) (by decide) (by decide +kernel) (by decide +kernel) ?_
  refine r_ld (pc' := 96) hM_1 d_1_95 rfl rfl ?_
  refine g_new (pc' := 99) (ci := 6) (n := 3) (t := 25) hM_1 d_1_96 rfl (by decide +kernel) (by decide +kernel) (by decide +kernel) (by decide) (by decide) (by decide) ?_
  show rn fx (2 + 1) (27, 16199) 1 99 [some (.inr (.inr (some 0))), some (.inl 0)] [.inr (.inr (some 25)), .inl 0, .inr (.inr (some 14))] sS_82 _
  refine r_stk (pc' := 100) (st' := [.inr (.inr (some 25)), .inr (.inr (some 25)), .inl 0, .inr (.inr (some 14))]) hM_1 d_1_99 rfl rfl ?_
  refine g_cl (pc' := 103) (c := (4, 3)) (a := [.inr (.inr (some 25))]) (q := [.inr (.inr (some 25)), .inl 0, .inr (.inr (some 14))]) (r := []) (S1 := sS_85) hM_1 d_1_100 rfl (by decide +kernel) hM_4 rfl (by decide) (by decide) rfl rfl (by decide) (by decide) (Or.inr (by decide +kernel)) mk_11 (by decide) (by decide +kernel) ?_
  show rn fx (2 + 1) (26, 16159) 1 103 [some (.inr (.inr (some 0))), some (.inl 0)] [.inr (.inr (some 25)), .inl 0, .inr (.inr (some 14))] sS_85 _
  refine g_as (pc' := 104) (n := 4) (j := 0) (t := 201) (ci := 6) (nv := 3) hM_1 d_1_103 rfl (by decide) (by decide +kernel) (by decide +kernel) (by decide) (by decide) (by decide) ?_
  show rn fx (2 + 1) (26, 16159) 1 104 [some (.inr (.inr (some 0))), some (.inl 0)] [] sS_86 _
  refine r_sto (pc' := 107) (ls' := [some (.inr (.inr (some 0))), some (.inl 1)]) hM_1 d_1_104 rfl rfl ?_
  refine r_go (pc' := 86) hM_1 d_1_107 (by decide) ?_
  refine r_ld (pc' := 87) hM_1 d_1_86 rfl rfl ?_
  refine r_k (pc' := 88) (v := .inl 4) hM_1 d_1_87 rfl rfl ?_
  refine r_ic (pc' := 110) (pc2 := 91) hM_1 d_1_88 (by decide) rfl (fun hc => absurd hc (show ¬ (am_s 4 ≤ am_s 1) by decide)) (fun _ => ?_)
  refine r_ld (pc' := 92) hM_1 d_1_91 rfl rfl ?_
  refine g_gR (pc' := 95) (ci := 0) (kk := 6) (n := 12) (v := some 14) hM_1 d_1_92 rfl (by decide +kernel) (by decide +kernel) (by decide) (by decide +kernel) (by decide +kernel) ?_
  refine r_ld (pc' := 96) hM_1 d_1_95 rfl rfl ?_
  refine g_new (pc' := 99) (ci := 6) (n := 3) (t := 27) hM_1 d_1_96 rfl (by decide +kernel) (by decide +kernel) (by decide +kernel) (by decide) (by decide) (by decide) ?_
  show rn fx (2 + 1) (25, 16156) 1 99 [some (.inr (.inr (some 0))), some (.inl 1)] [.inr (.inr (some 27)), .inl 1, .inr (.inr (some 14))] sS_87 _
  refine r_stk (pc' := 100) (st' := [.inr (.inr (some 27)), .inr (.inr (some 27)), .inl 1, .inr (.inr (some 14))]) hM_1 d_1_99 rfl rfl ?_
  refine g_cl (pc' := 103) (c := (4, 3)) (a := [.inr (.inr (some 27))]) (q := [.inr (.inr (some 27)), .inl 1, .inr (.inr (some 14))]) (r := []) (S1 := sS_90) hM_1 d_1_100 rfl (by decide +kernel) hM_4 rfl (by decide) (by decide) rfl rfl (by decide) (by decide) (Or.inr (by decide +kernel)) mk_12 (by decide) (by decide +kernel) ?_
  show rn fx (2 + 1) (24, 16116) 1 103 [some (.inr (.inr (some 0))), some (.inl 1)] [.inr (.inr (some 27)), .inl 1, .inr (.inr (some 14))] sS_90 _
  refine g_as (pc' := 104) (n := 4) (j := 1) (t := 201) (ci := 6) (nv := 3) hM_1 d_1_103 rfl (by decide) (by decide +kernel) (by decide +kernel) (by decide) (by decide) (by decide) ?_
  show rn fx (2 + 1) (24, 16116) 1 104 [some (.inr (.inr (some 0))), some (.inl 1)] [] sS_91 _
  refine r_sto (pc' := 107) (ls' := [some (.inr (.inr (some 0))), some (.inl 2)]) hM_1 d_1_104 rfl rfl ?_
  refine r_go (pc' := 86) hM_1 d_1_107 (by decide) ?_
  refine r_ld (pc' := 87) hM_1 d_1_86 rfl rfl ?_
  refine r_k (pc' := 88) (v := .inl 4) hM_1 d_1_87 rfl rfl ?_
  refine r_ic (pc' := 110) (pc2 := 91) hM_1 d_1_88 (by decide) rfl (fun hc => absurd hc (show ¬ (am_s 4 ≤ am_s 2) by decide)) (fun _ => ?_)
  refine r_ld (pc' := 92) hM_1 d_1_91 rfl rfl ?_
  refine g_gR (pc' := 95) (ci := 0) (kk := 6) (n := 12) (v := some 14) hM_1 d_1_92 rfl (by decide +kernel) (by decide +kernel) (by decide) (by decide +kernel) (by decide +kernel) ?_
  refine r_ld (pc' := 96) hM_1 d_1_95 rfl rfl ?_
  refine g_new (pc' := 99) (ci := 6) (n := 3) (t := 29) hM_1 d_1_96 rfl (by decide +kernel) (by decide +kernel) (by decide +kernel) (by decide) (by decide) (by decide) ?_
  show rn fx (2 + 1) (23, 16113) 1 99 [some (.inr (.inr (some 0))), some (.inl 2)] [.inr (.inr (some 29)), .inl 2, .inr (.inr (some 14))] sS_92 _
  refine r_stk (pc' := 100) (st' := [.inr (.inr (some 29)), .inr (.inr (some 29)), .inl 2, .inr (.inr (some 14))]) hM_1 d_1_99 rfl rfl ?_
  refine g_cl (pc' := 103) (c := (4, 3)) (a := [.inr (.inr (some 29))]) (q := [.inr (.inr (some 29)), .inl 2, .inr (.inr (some 14))]) (r := []) (S1 := sS_95) hM_1 d_1_100 rfl (by decide +kernel) hM_4 rfl (by decide) (by decide) rfl rfl (by decide) (by decide) (Or.inr (by decide +kernel)) mk_13 (by decide) (by decide +kernel) ?_
  show rn fx (2 + 1) (22, 16073) 1 103 [some (.inr (.inr (some 0))), some (.inl 2)] [.inr (.inr (some 29)), .inl 2, .inr (.inr (some 14))] sS_95 _
  refine g_as (pc' := 104) (n := 4) (j := 2) (t := 201) (ci := 6) (nv := 3) hM_1 d_1_103 rfl (by decide) (by decide +kernel) (by decide +kernel) (by decide) (by decide) (by decide) ?_
  show rn fx (2 + 1) (22, 16073) 1 104 [some (.inr (.inr (some 0))), some (.inl 2)] [] sS_96 _
  refine r_sto (pc' := 107) (ls' := [some (.inr (.inr (some 0))), some (.inl 3)]) hM_1 d_1_104 rfl rfl ?_
  refine r_go (pc' := 86) hM_1 d_1_107 (by decide) ?_
  refine r_ld (pc' := 87) hM_1 d_1_86 rfl rfl ?_
  refine r_k (pc' := 88) (v := .inl 4) hM_1 d_1_87 rfl rfl ?_
  refine r_ic (pc' := 110) (pc2 := 91) hM_1 d_1_88 (by decide) rfl (fun hc => absurd hc (show ¬ (am_s 4 ≤ am_s 3) by decide)) (fun _ => ?_)
  refine r_ld (pc' := 92) hM_1 d_1_91 rfl rfl ?_
  refine g_gR (pc' := 95) (ci := 0) (kk := 6) (n := 12) (v := some 14) hM_1 d_1_92 rfl (by decide +kernel) (by decide +kernel) (by decide) (by decide +kernel) (by decide +kernel) ?_
  refine r_ld (pc' := 96) hM_1 d_1_95 rfl rfl ?_
  refine g_new (pc' := 99) (ci := 6) (n := 3) (t := 31) hM_1 d_1_96 rfl (by decide +kernel) (by decide +kernel) (by decide +kernel) (by decide) (by decide) (by decide) ?_
  show rn fx (2 + 1) (21, 16070) 1 99 [some (.inr (.inr (some 0))), some (.inl 3)] [.inr (.inr (some 31)), .inl 3, .inr (.inr (some 14))] sS_97 _
  refine r_stk (pc' := 100) (st' := [.inr (.inr (some 31)), .inr (.inr (some 31)), .inl 3, .inr (.inr (some 14))]) hM_1 d_1_99 rfl rfl ?_
  refine g_cl (pc' := 103) (c := (4, 3)) (a := [.inr (.inr (some 31))]) (q := [.inr (.inr (some 31)), .inl 3, .inr (.inr (some 14))]) (r := []) (S1 := sS_100) hM_1 d_1_100 rfl (by decide +kernel) hM_4 rfl (by decide) (by decide) rfl rfl (by decide) (by decide) (Or.inr (by decide +kernel)) mk_14 (by decide) (by decide +kernel) ?_
  show rn fx (2 + 1) (20, 16030) 1 103 [some (.inr (.inr (some 0))), some (.inl 3)] [.inr (.inr (some 31)), .inl 3, .inr (.inr (some 14))] sS_100 _
  refine g_as (pc' := 104) (n := 4) (j := 3) (t := 201) (ci := 6) (nv := 3) hM_1 d_1_103 rfl (by decide) (by decide +kernel) (by decide +kernel) (by decide) (by decide) (by decide) ?_
  show rn fx (2 + 1) (20, 16030) 1 104 [some (.inr (.inr (some 0))), some (.inl 3)] [] sS_101 _
  refine r_sto (pc' := 107) (ls' := [some (.inr (.inr (some 0))), some (.inl 4)]) hM_1 d_1_104 rfl rfl ?_
  refine r_go (pc' := 86) hM_1 d_1_107 (by decide) ?_
  refine r_ld (pc' := 87) hM_1 d_1_86 rfl rfl ?_
  refine r_k (pc' := 88) (v := .inl 4) hM_1 d_1_87 rfl rfl ?_
  refine r_ic (pc' := 110) (pc2 := 91) hM_1 d_1_88 (by decide) rfl (fun _ => ?_) (fun hc => absurd (show am_s 4 ≤ am_s 4 by decide) hc)
  refine r_ld (pc' := 111) hM_1 d_1_110 rfl rfl ?_
  refine g_new (pc' := 114) (ci := 5) (n := 9) (t := 33) hM_1 d_1_111 rfl (by decide +kernel) (by decide +kernel) (by decide +kernel) (by decide) (by decide) (by decide) ?_
  show rn fx (2 + 1) (19, 16021) 1 114 [some (.inr (.inr (some 0))), some (.inl 4)] [.inr (.inr (some 33)), .inr (.inr (some 0))] sS_102 _
  refine r_stk (pc' := 115) (st' := [.inr (.inr (some 33)), .inr (.inr (some 33)), .inr (.inr (some 0))]) hM_1 d_1_114 rfl rfl ?_
  refine r_ld (pc' := 116) hM_1 d_1_115 rfl rfl ?_
  refine g_gR (pc' := 119) (ci := 0) (kk := 0) (n := 12) (v := some 1) hM_1 d_1_116 rfl (by decide +kernel) (by decide +kernel) (by decide) (by decide +kernel) (by decide +kernel) ?_
  refine r_ld (pc' := 120) hM_1 d_1_119 rfl rfl ?_
  refine g_gR (pc' := 123) (ci := 0) (kk := 3) (n := 12) (v := some 7) hM_1 d_1_120 rfl (by decide +kernel) (by decide +kernel) (by decide) (by decide +kernel) (by decide +kernel) ?_
  refine g_cl (pc' := 126) (c := (5, 1)) (a := [.inr (.inr (some 33)), .inr (.inr (some 1)), .inr (.inr (some 7))]) (q := [.inr (.inr (some 33)), .inr (.inr (some 0))]) (r := []) (S1 := sS_105) hM_1 d_1_123 rfl (by decide +kernel) hM_5 rfl (by decide) (by decide) rfl rfl (by decide) (by decide) (Or.inr (by decide +kernel)) mk_15 (by decide) (by decide +kernel) ?_
  show rn fx (2 + 1) (19, 16021) 1 126 [some (.inr (.inr (some 0))), some (.inl 4)] [.inr (.inr (some 33)), .inr (.inr (some 0))] sS_105 _
  refine g_pR (pc' := 129) (ci := 0) (kk := 7) (n := 12) hM_1 d_1_126 rfl (by decide +kernel) (by decide +kernel) (by decide) (by decide +kernel) rfl (by decide) (by decide +kernel) ?_
  show rn fx (2 + 1) (19, 16021) 1 129 [some (.inr (.inr (some 0))), some (.inl 4)] [] sS_106 _
  refine r_ld (pc' := 130) hM_1 d_1_129 rfl rfl ?_
  refine g_new (pc' := 133) (ci := 2) (n := 12) (t := 34) hM_1 d_1_130 rfl (by decide +kernel) (by decide +kernel) (by decide +kernel) (by decide) (by decide) (by decide) ?_
  show rn fx (2 + 1) (18, 16009) 1 133 [some (.inr (.inr (some 0))), some (.inl 4)] [.inr (.inr (some 34)), .inr (.inr (some 0))] sS_107 _
  refine r_stk (pc' := 134) (st' := [.inr (.inr (some 34)), .inr (.inr (some 34)), .inr (.inr (some 0))]) hM_1 d_1_133 rfl rfl ?_
  refine r_ld (pc' := 135) hM_1 d_1_134 rfl rfl ?_
  refine g_gR (pc' := 138) (ci := 0) (kk := 2) (n := 12) (v := some 2) hM_1 d_1_135 rfl (by decide +kernel) (by decide +kernel) (by decide) (by decide +kernel) (by decide +kernel) ?_
  refine g_cl (pc' := 141) (c := (6, 1)) (a := [.inr (.inr (some 34)), .inr (.inr (some 2))]) (q := [.inr (.inr (some 34)), .inr (.inr (some 0))]) (r := []) (S1 := sS_124) hM_1 d_1_138 rfl (by decide +kernel) hM_6 rfl (by decide) (by decide) rfl rfl (by decide) (by decide) (Or.inr (by decide +kernel)) mk_16 (by decide) (by decide +kernel) ?_
  show rn fx (2 + 1) (10, 10299) 1 141 [some (.inr (.inr (some 0))), some (.inl 4)] [.inr (.inr (some 34)), .inr (.inr (some 0))] sS_124 _
  refine g_pR (pc' := 144) (ci := 0) (kk := 8) (n := 12) hM_1 d_1_141 rfl (by decide +kernel) (by decide +kernel) (by decide) (by decide +kernel) rfl (by decide) (by decide +kernel) ?_
  show rn fx (2 + 1) (10, 10299) 1 144 [some (.inr (.inr (some 0))), some (.inl 4)] [] sS_125 _
  refine r_ld (pc' := 145) hM_1 d_1_144 rfl rfl ?_
  refine g_new (pc' := 148) (ci := 3) (n := 7) (t := 43) hM_1 d_1_145 rfl (by decide +kernel) (by decide +kernel) (by decide +kernel) (by decide) (by decide) (by decide) ?_
  show rn fx (2 + 1) (9, 10292) 1 148 [some (.inr (.inr (some 0))), some (.inl 4)] [.inr (.inr (some 43)), .inr (.inr (some 0))] sS_126 _
  refine r_stk (pc' := 149) (st' := [.inr (.inr (some 43)), .inr (.inr (some 43)), .inr (.inr (some 0))]) hM_1 d_1_148 rfl rfl ?_
  refine r_ld (pc' := 150) hM_1 d_1_149 rfl rfl ?_
  refine g_gR (pc' := 153) (ci := 0) (kk := 2) (n := 12) (v := some 2) hM_1 d_1_150 rfl (by decide +kernel) (by decide +kernel) (by decide) (by decide +kernel) (by decide +kernel) ?_
  refine g_cl (pc' := 156) (c := (7, 1)) (a := [.inr (.inr (some 43)), .inr (.inr (some 2))]) (q := [.inr (.inr (some 43)), .inr (.inr (some 0))]) (r := []) (S1 := sS_131) hM_1 d_1_153 rfl (by decide +kernel) hM_7 rfl (by decide) (by decide) rfl rfl (by decide) (by decide) (Or.inr (by decide +kernel)) mk_17 (by decide) (by decide +kernel) ?_
  show rn fx (2 + 1) (7, 2095) 1 156 [some (.inr (.inr (some 0))), some (.inl 4)] [.inr (.inr (some 43)), .inr (.inr (some 0))] sS_131 _
  refine g_pR (pc' := 159) (ci := 0) (kk := 9) (n := 12) hM_1 d_1_156 rfl (by decide +kernel) (by decide +kernel) (by decide) (by decide +kernel) rfl (by decide) (by decide +kernel) ?_
  show rn fx (2 + 1) (7, 2095) 1 159 [some (.inr (.inr (some 0))), some (.inl 4)] [] sS_132 _
  refine r_ld (pc' := 160) hM_1 d_1_159 rfl rfl ?_
  refine g_new (pc' := 163) (ci := 1) (n := 4) (t := 46) hM_1 d_1_160 rfl (by decide +kernel) (by decide +kernel) (by decide +kernel) (by decide) (by decide) (by decide) ?_
  show rn fx (2 + 1) (6, 2091) 1 163 [some (.inr (.inr (some 0))), some (.inl 4)] [.inr (.inr (some 46)), .inr (.inr (some 0))] sS_133 _
  refine r_stk (pc' := 164) (st' := [.inr (.inr (some 46)), .inr (.inr (some 46)), .inr (.inr (some 0))]) hM_1 d_1_163 rfl rfl ?_
  refine r_ld (pc' := 165) hM_1 d_1_164 rfl rfl ?_
  refine g_gR (pc' := 168) (ci := 0) (kk := 2) (n := 12) (v := some 2) hM_1 d_1_165 rfl (by decide +kernel) (by decide +kernel) (by decide) (by decide +kernel) (by decide +kernel) ?_
  refine g_cl (pc' := 171) (c := (8, 1)) (a := [.inr (.inr (some 46)), .inr (.inr (some 2))]) (q := [.inr (.inr (some 46)), .inr (.inr (some 0))]) (r := []) (S1 := sS_138) hM_1 d_1_168 rfl (by decide +kernel) hM_8 rfl (by decide) (by decide) rfl rfl (by decide) (by decide) (Or.inr (by decide +kernel)) mk_18 (by decide) (by decide +kernel) ?_
  show rn fx (2 + 1) (4, 2069) 1 171 [some (.inr (.inr (some 0))), some (.inl 4)] [.inr (.inr (some 46)), .inr (.inr (some 0))] sS_138 _
  refine g_pR (pc' := 174) (ci := 0) (kk := 10) (n := 12) hM_1 d_1_171 rfl (by decide +kernel) (by decide +kernel) (by decide) (by decide +kernel) rfl (by decide) (by decide +kernel) ?_
  show rn fx (2 + 1) (4, 2069) 1 174 [some (.inr (.inr (some 0))), some (.inl 4)] [] sS_139 _
  refine r_ld (pc' := 175) hM_1 d_1_174 rfl rfl ?_
  refine g_new (pc' := 178) (ci := 4) (n := 5) (t := 49) hM_1 d_1_175 rfl (by decide +kernel) (by decide +kernel) (by decide +kernel) (by decide) (by decide) (by decide) ?_
  show rn fx (2 + 1) (3, 2064) 1 178 [some (.inr (.inr (some 0))), some (.inl 4)] [.inr (.inr (some 49)), .inr (.inr (some 0))] sS_140 _
  refine r_stk (pc' := 179) (st' := [.inr (.inr (some 49)), .inr (.inr (some 49)), .inr (.inr (some 0))]) hM_1 d_1_178 rfl rfl ?_
  refine r_ld (pc' := 180) hM_1 d_1_179 rfl rfl ?_
  refine g_gR (pc' := 183) (ci := 0) (kk := 2) (n := 12) (v := some 2) hM_1 d_1_180 rfl (by decide +kernel) (by decide +kernel) (by decide) (by decide +kernel) (by decide +kernel) ?_
  refine g_cl (pc' := 186) (c := (9, 1)) (a := [.inr (.inr (some 49)), .inr (.inr (some 2))]) (q := [.inr (.inr (some 49)), .inr (.inr (some 0))]) (r := []) (S1 := sS_147) hM_1 d_1_183 rfl (by decide +kernel) hM_9 rfl (by decide) (by decide) rfl rfl (by decide) (by decide) (Or.inr (by decide +kernel)) mk_19 (by decide) (by decide +kernel) ?_
  show rn fx (2 + 1) (0, 0) 1 186 [some (.inr (.inr (some 0))), some (.inl 4)] [.inr (.inr (some 49)), .inr (.inr (some 0))] sS_147 _
  refine g_pR (pc' := 189) (ci := 0) (kk := 11) (n := 12) hM_1 d_1_186 rfl (by decide +kernel) (by decide +kernel) (by decide) (by decide +kernel) rfl (by decide) (by decide +kernel) ?_
  show rn fx (2 + 1) (0, 0) 1 189 [some (.inr (.inr (some 0))), some (.inl 4)] [] sS_148 _
  exact rt_v hM_1 d_1_189 rfl
def sS_149 : am_S := am_nw sS_148 (8, 40)
theorem nb_149 : NBR sS_149 := NBR_N nb_148
def sS_150 : am_S := am_nw sS_149 (100, 168)
theorem nb_150 : NBR sS_150 := NBR_N nb_149
def sS_151 : am_S := am_sR sS_150 53 1 (some 54)
theorem nb_151 : NBR sS_151 := NBR_R (t := 55) (by decide +kernel) (by decide) (by decide) nb_150
def sS_152 : am_S := am_nw sS_151 (103, 2)
theorem nb_152 : NBR sS_152 := NBR_N nb_151
def sS_153 : am_S := am_sR sS_152 53 2 (some 55)
theorem nb_153 : NBR sS_153 := NBR_R (t := 56) (by decide +kernel) (by decide) (by decide) nb_152
def sS_154 : am_S := am_nw sS_153 (100, 900)
theorem nb_154 : NBR sS_154 := NBR_N nb_153
def sS_155 : am_S := am_sR sS_154 53 3 (some 56)
theorem nb_155 : NBR sS_155 := NBR_R (t := 57) (by decide +kernel) (by decide) (by decide) nb_154
def sS_156 : am_S := am_nw sS_155 (100, 56)
theorem nb_156 : NBR sS_156 := NBR_N nb_155
def sS_157 : am_S := am_sR sS_156 53 4 (some 57)
theorem nb_157 : NBR sS_157 := NBR_R (t := 58) (by decide +kernel) (by decide) (by decide) nb_156
def sS_158 : am_S := am_sM sS_157 53 14 (-1)
theorem nb_158 : NBR sS_158 := NBR_M nb_157
def sS_159 : am_S := am_nw sS_158 (100, 56)
theorem nb_159 : NBR sS_159 := NBR_N nb_158
def sS_160 : am_S := am_sR sS_159 53 15 (some 58)
theorem nb_160 : NBR sS_160 := NBR_R (t := 59) (by decide +kernel) (by decide) (by decide) nb_159
def sS_161 : am_S := am_nw sS_160 (100, 4096)
theorem nb_161 : NBR sS_161 := NBR_N nb_160
def sS_162 : am_S := am_sR sS_161 53 18 (some 59)
theorem nb_162 : NBR sS_162 := NBR_R (t := 60) (by decide +kernel) (by decide) (by decide) nb_161
def sS_163 : am_S := am_nw sS_162 (100, 256)
theorem nb_163 : NBR sS_163 := NBR_N nb_162
def sS_164 : am_S := am_sR sS_163 53 20 (some 60)
theorem nb_164 : NBR sS_164 := NBR_R (t := 61) (by decide +kernel) (by decide) (by decide) nb_163
def sS_165 : am_S := am_nw sS_164 (103, 4096)
theorem nb_165 : NBR sS_165 := NBR_N nb_164
def sS_166 : am_S := am_sR sS_165 53 22 (some 61)
theorem nb_166 : NBR sS_166 := NBR_R (t := 62) (by decide +kernel) (by decide) (by decide) nb_165
def sS_167 : am_S := am_nw sS_166 (100, 1024)
theorem nb_167 : NBR sS_167 := NBR_N nb_166
def sS_168 : am_S := am_sR sS_167 53 23 (some 62)
theorem nb_168 : NBR sS_168 := NBR_R (t := 63) (by decide +kernel) (by decide) (by decide) nb_167
def sS_169 : am_S := am_nw sS_168 (100, 5)
theorem nb_169 : NBR sS_169 := NBR_N nb_168
def sS_170 : am_S := am_sR sS_169 53 24 (some 63)
theorem nb_170 : NBR sS_170 := NBR_R (t := 64) (by decide +kernel) (by decide) (by decide) nb_169
def sS_171 : am_S := am_nw sS_170 (100, 5)
theorem nb_171 : NBR sS_171 := NBR_N nb_170
def sS_172 : am_S := am_sR sS_171 53 25 (some 64)
theorem nb_172 : NBR sS_172 := NBR_R (t := 65) (by decide +kernel) (by decide) (by decide) nb_171
def sS_173 : am_S := am_nw sS_172 (100, 5)
theorem nb_173 : NBR sS_173 := NBR_N nb_172
def sS_174 : am_S := am_sR sS_173 53 26 (some 65)
theorem nb_174 : NBR sS_174 := NBR_R (t := 66) (by decide +kernel) (by decide) (by decide) nb_173
def sS_175 : am_S := am_nw sS_174 (102, 134456)
theorem nb_175 : NBR sS_175 := NBR_N nb_174
def sS_176 : am_S := am_sR sS_175 53 28 (some 66)
theorem nb_176 : NBR sS_176 := NBR_R (t := 67) (by decide +kernel) (by decide) (by decide) nb_175
def sS_177 : am_S := am_nw sS_176 (103, 16807)
theorem nb_177 : NBR sS_177 := NBR_N nb_176
def sS_178 : am_S := am_sR sS_177 53 29 (some 67)
theorem nb_178 : NBR sS_178 := NBR_R (t := 68) (by decide +kernel) (by decide) (by decide) nb_177
def sS_179 : am_S := am_nw sS_178 (103, 16807)
theorem nb_179 : NBR sS_179 := NBR_N nb_178
def sS_180 : am_S := am_sR sS_179 53 30 (some 68)
theorem nb_180 : NBR sS_180 := NBR_R (t := 69) (by decide +kernel) (by decide) (by decide) nb_179
def sS_181 : am_S := am_nw sS_180 (100, 12)
theorem nb_181 : NBR sS_181 := NBR_N nb_180
def sS_182 : am_S := am_sR sS_181 53 31 (some 69)
theorem nb_182 : NBR sS_182 := NBR_R (t := 70) (by decide +kernel) (by decide) (by decide) nb_181
def sS_183 : am_S := am_nw sS_182 (100, 45056)
theorem nb_183 : NBR sS_183 := NBR_N nb_182
def sS_184 : am_S := am_sR sS_183 53 32 (some 70)
theorem nb_184 : NBR sS_184 := NBR_R (t := 71) (by decide +kernel) (by decide) (by decide) nb_183
def sS_185 : am_S := am_nw sS_184 (100, 12)
theorem nb_185 : NBR sS_185 := NBR_N nb_184
def sS_186 : am_S := am_sR sS_185 53 33 (some 71)
theorem nb_186 : NBR sS_186 := NBR_R (t := 72) (by decide +kernel) (by decide) (by decide) nb_185
def sS_187 : am_S := am_nw sS_186 (100, 12)
theorem nb_187 : NBR sS_187 := NBR_N nb_186
def sS_188 : am_S := am_sR sS_187 53 34 (some 72)
theorem nb_188 : NBR sS_188 := NBR_R (t := 73) (by decide +kernel) (by decide) (by decide) nb_187
def sS_189 : am_S := am_nw sS_188 (100, 4)
theorem nb_189 : NBR sS_189 := NBR_N nb_188
def sS_190 : am_S := am_sM sS_189 73 0 (-1)
theorem nb_190 : NBR sS_190 := NBR_M nb_189
def sS_191 : am_S := am_sM sS_190 73 1 (-1)
theorem nb_191 : NBR sS_191 := NBR_M nb_190
def sS_192 : am_S := am_sM sS_191 73 2 (-1)
theorem nb_192 : NBR sS_192 := NBR_M nb_191
def sS_193 : am_S := am_sM sS_192 73 3 (-1)
theorem nb_193 : NBR sS_193 := NBR_M nb_192
def sS_194 : am_S := am_sR sS_193 53 37 (some 73)
theorem nb_194 : NBR sS_194 := NBR_R (t := 74) (by decide +kernel) (by decide) (by decide) nb_193
def sS_195 : am_S := am_nw sS_194 (100, 4)
theorem nb_195 : NBR sS_195 := NBR_N nb_194
def sS_196 : am_S := am_sR sS_195 53 38 (some 74)
theorem nb_196 : NBR sS_196 := NBR_R (t := 75) (by decide +kernel) (by decide) (by decide) nb_195
def sS_197 : am_S := am_nw sS_196 (101, 160)
theorem nb_197 : NBR sS_197 := NBR_N nb_196
def sS_198 : am_S := am_sR sS_197 53 39 (some 75)
theorem nb_198 : NBR sS_198 := NBR_R (t := 76) (by decide +kernel) (by decide) (by decide) nb_197
def sS_199 : am_S := am_sM sS_198 54 0 0
theorem nb_199 : NBR sS_199 := NBR_M nb_198
def sS_200 : am_S := am_sM sS_199 54 1 0
theorem nb_200 : NBR sS_200 := NBR_M nb_199
def sS_201 : am_S := am_sM sS_200 54 2 0
theorem nb_201 : NBR sS_201 := NBR_M nb_200
def sS_202 : am_S := am_sM sS_201 54 3 0
theorem nb_202 : NBR sS_202 := NBR_M nb_201
def sS_203 : am_S := am_sM sS_202 54 4 0
theorem nb_203 : NBR sS_203 := NBR_M nb_202
def sS_204 : am_S := am_sM sS_203 54 5 0
theorem nb_204 : NBR sS_204 := NBR_M nb_203
def sS_205 : am_S := am_sM sS_204 54 6 0
theorem nb_205 : NBR sS_205 := NBR_M nb_204
def sS_206 : am_S := am_sM sS_205 54 7 0
theorem nb_206 : NBR sS_206 := NBR_M nb_205
def sS_207 : am_S := am_sM sS_206 54 8 0
theorem nb_207 : NBR sS_207 := NBR_M nb_206
def sS_208 : am_S := am_sM sS_207 54 9 0
theorem nb_208 : NBR sS_208 := NBR_M nb_207
def sS_209 : am_S := am_sM sS_208 54 10 0
theorem nb_209 : NBR sS_209 := NBR_M nb_208
def sS_210 : am_S := am_sM sS_209 54 11 0
theorem nb_210 : NBR sS_210 := NBR_M nb_209
def sS_211 : am_S := am_sM sS_210 54 12 0
theorem nb_211 : NBR sS_211 := NBR_M nb_210
def sS_212 : am_S := am_sM sS_211 54 13 0
theorem nb_212 : NBR sS_212 := NBR_M nb_211
def sS_213 : am_S := am_sM sS_212 54 14 0
theorem nb_213 : NBR sS_213 := NBR_M nb_212
def sS_214 : am_S := am_sM sS_213 54 15 0
theorem nb_214 : NBR sS_214 := NBR_M nb_213
def sS_215 : am_S := am_sM sS_214 54 16 0
theorem nb_215 : NBR sS_215 := NBR_M nb_214
def sS_216 : am_S := am_sM sS_215 54 17 0
theorem nb_216 : NBR sS_216 := NBR_M nb_215
def sS_217 : am_S := am_sM sS_216 54 18 0
theorem nb_217 : NBR sS_217 := NBR_M nb_216
def sS_218 : am_S := am_sM sS_217 54 19 0
theorem nb_218 : NBR sS_218 := NBR_M nb_217
def sS_219 : am_S := am_sM sS_218 54 20 0
theorem nb_219 : NBR sS_219 := NBR_M nb_218
def sS_220 : am_S := am_sM sS_219 54 21 0
theorem nb_220 : NBR sS_220 := NBR_M nb_219
def sS_221 : am_S := am_sM sS_220 54 22 0
theorem nb_221 : NBR sS_221 := NBR_M nb_220
def sS_222 : am_S := am_sM sS_221 54 23 0
theorem nb_222 : NBR sS_222 := NBR_M nb_221
def sS_223 : am_S := am_sM sS_222 54 24 0
theorem nb_223 : NBR sS_223 := NBR_M nb_222
def sS_224 : am_S := am_sM sS_223 54 25 0
theorem nb_224 : NBR sS_224 := NBR_M nb_223
def sS_225 : am_S := am_sM sS_224 54 26 0
theorem nb_225 : NBR sS_225 := NBR_M nb_224
def sS_226 : am_S := am_sM sS_225 54 27 0
theorem nb_226 : NBR sS_226 := NBR_M nb_225
def sS_227 : am_S := am_sM sS_226 54 28 0
theorem nb_227 : NBR sS_227 := NBR_M nb_226
def sS_228 : am_S := am_sM sS_227 54 29 0
theorem nb_228 : NBR sS_228 := NBR_M nb_227
def sS_229 : am_S := am_sM sS_228 54 30 0
theorem nb_229 : NBR sS_229 := NBR_M nb_228
def sS_230 : am_S := am_sM sS_229 54 31 0
theorem nb_230 : NBR sS_230 := NBR_M nb_229
def sS_231 : am_S := am_sM sS_230 54 32 0
theorem nb_231 : NBR sS_231 := NBR_M nb_230
def sS_232 : am_S := am_sM sS_231 54 33 0
theorem nb_232 : NBR sS_232 := NBR_M nb_231
def sS_233 : am_S := am_sM sS_232 54 34 0
theorem nb_233 : NBR sS_233 := NBR_M nb_232
def sS_234 : am_S := am_sM sS_233 54 35 0
theorem nb_234 : NBR sS_234 := NBR_M nb_233
def sS_235 : am_S := am_sM sS_234 54 36 0
theorem nb_235 : NBR sS_235 := NBR_M nb_234
def sS_236 : am_S := am_sM sS_235 54 37 0
theorem nb_236 : NBR sS_236 := NBR_M nb_235
def sS_237 : am_S := am_sM sS_236 54 38 0
theorem nb_237 : NBR sS_237 := NBR_M nb_236
def sS_238 : am_S := am_sM sS_237 54 39 0
theorem nb_238 : NBR sS_238 := NBR_M nb_237
def sS_239 : am_S := am_sM sS_238 54 40 0
theorem nb_239 : NBR sS_239 := NBR_M nb_238
def sS_240 : am_S := am_sM sS_239 54 41 0
theorem nb_240 : NBR sS_240 := NBR_M nb_239
def sS_241 : am_S := am_sM sS_240 54 42 0
theorem nb_241 : NBR sS_241 := NBR_M nb_240
def sS_242 : am_S := am_sM sS_241 54 43 0
theorem nb_242 : NBR sS_242 := NBR_M nb_241
def sS_243 : am_S := am_sM sS_242 54 44 0
theorem nb_243 : NBR sS_243 := NBR_M nb_242
def sS_244 : am_S := am_sM sS_243 54 45 0
theorem nb_244 : NBR sS_244 := NBR_M nb_243
def sS_245 : am_S := am_sM sS_244 54 46 0
theorem nb_245 : NBR sS_245 := NBR_M nb_244
def sS_246 : am_S := am_sM sS_245 54 47 0
theorem nb_246 : NBR sS_246 := NBR_M nb_245
def sS_247 : am_S := am_sM sS_246 54 48 0
theorem nb_247 : NBR sS_247 := NBR_M nb_246
def sS_248 : am_S := am_sM sS_247 54 49 0
theorem nb_248 : NBR sS_248 := NBR_M nb_247
def sS_249 : am_S := am_sM sS_248 54 50 0
theorem nb_249 : NBR sS_249 := NBR_M nb_248
def sS_250 : am_S := am_sM sS_249 54 51 0
theorem nb_250 : NBR sS_250 := NBR_M nb_249
def sS_251 : am_S := am_sM sS_250 54 52 0
theorem nb_251 : NBR sS_251 := NBR_M nb_250
def sS_252 : am_S := am_sM sS_251 54 53 0
theorem nb_252 : NBR sS_252 := NBR_M nb_251
def sS_253 : am_S := am_sM sS_252 54 54 0
theorem nb_253 : NBR sS_253 := NBR_M nb_252
def sS_254 : am_S := am_sM sS_253 54 55 0
theorem nb_254 : NBR sS_254 := NBR_M nb_253
def sS_255 : am_S := am_sM sS_254 54 2 15
theorem nb_255 : NBR sS_255 := NBR_M nb_254
def sS_256 : am_S := am_sM sS_255 54 3 4
theorem nb_256 : NBR sS_256 := NBR_M nb_255
def sS_257 : am_S := am_sM sS_256 54 4 12
theorem nb_257 : NBR sS_257 := NBR_M nb_256
def sS_258 : am_S := am_sM sS_257 54 5 3
theorem nb_258 : NBR sS_258 := NBR_M nb_257
theorem mk_21 {fx : am_X0} : rn fx 1 (0, 0) 164 0 (am_ent 2 [.inr (.inr (some 54))]) [] sS_198 ([], sS_258) := by
  show rn fx (0 + 1) (0, 0) 164 0 [some (.inr (.inr (some 54))), none] [] sS_198 _
  refine r_k (pc' := 1) (v := .inl 0) hM_164 d_164_0 rfl rfl ?_
  refine r_sto (pc' := 2) (ls' := [some (.inr (.inr (some 54))), some (.inl 0)]) hM_164 d_164_1 rfl rfl ?_
  refine r_ld (pc' := 3) hM_164 d_164_2 rfl rfl ?_
  refine r_k (pc' := 5) (v := .inl 56) hM_164 d_164_3 rfl rfl ?_
  refine r_ic (pc' := 18) (pc2 := 8) hM_164 d_164_5 (by decide) rfl (fun hc => absurd hc (show ¬ (am_s 56 ≤ am_s 0) by decide)) (fun _ => ?_)
  refine r_ld (pc' := 9) hM_164 d_164_8 rfl rfl ?_
  refine r_ld (pc' := 10) hM_164 d_164_9 rfl rfl ?_
  refine r_k (pc' := 11) (v := .inl 0) hM_164 d_164_10 rfl rfl ?_
  refine g_is (pc' := 12) (n := 168) (j := 0) hM_164 d_164_11 rfl (by decide) (by decide +kernel) (by decide) (by decide) ?_
  show rn fx (0 + 1) (0, 0) 164 12 [some (.inr (.inr (some 54))), some (.inl 0)] [] sS_199 _
  refine r_sto (pc' := 15) (ls' := [some (.inr (.inr (some 54))), some (.inl 1)]) hM_164 d_164_12 rfl rfl ?_
  refine r_go (pc' := 2) hM_164 d_164_15 (by decide) ?_
  refine r_ld (pc' := 3) hM_164 d_164_2 rfl rfl ?_
  refine r_k (pc' := 5) (v := .inl 56) hM_164 d_164_3 rfl rfl ?_
  refine r_ic (pc' := 18) (pc2 := 8) hM_164 d_164_5 (by decide) rfl (fun hc => absurd hc (show ¬ (am_s 56 ≤ am_s 1) by decide)) (fun _ => ?_)
  refine r_ld (pc' := 9) hM_164 d_164_8 rfl rfl ?_
  refine r_ld (pc' := 10) hM_164 d_164_9 rfl rfl ?_
  refine r_k (pc' := 11) (v := .inl 0) hM_164 d_164_10 rfl rfl ?_
  refine g_is (pc' := 12) (n := 168) (j := 1) hM_164 d_164_11 rfl (by decide) (by decide +kernel) (by decide) (by decide) ?_
  show rn fx (0 + 1) (0, 0) 164 12 [some (.inr (.inr (some 54))), some (.inl 1)] [] sS_200 _
  refine r_sto (pc' := 15) (ls' := [some (.inr (.inr (some 54))), some (.inl 2)]) hM_164 d_164_12 rfl rfl ?_
  refine r_go (pc' := 2) hM_164 d_164_15 (by decide) ?_
  refine r_ld (pc' := 3) hM_164 d_164_2 rfl rfl ?_
  refine r_k (pc' := 5) (v := .inl 56) hM_164 d_164_3 rfl rfl ?_
  refine r_ic (pc' := 18) (pc2 := 8) hM_164 d_164_5 (by decide) rfl (fun hc => absurd hc (show ¬ (am_s 56 ≤ am_s 2) by decide)) (fun _ => ?_)
  refine r_ld (pc' := 9) hM_164 d_164_8 rfl rfl ?_
  refine r_ld (pc' := 10) hM_164 d_164_9 rfl rfl ?_
  refine r_k (pc' := 11) (v := .inl 0) hM_164 d_164_10 rfl rfl ?_
  refine g_is (pc' := 12) (n := 168) (j := 2) hM_164 d_164_11 rfl (by decide) (by decide +kernel) (by decide) (by decide) ?_
  show rn fx (0 + 1) (0, 0) 164 12 [some (.inr (.inr (some 54))), some (.inl 2)] [] sS_201 _
  refine r_sto (pc' := 15) (ls' := [some (.inr (.inr (some 54))), some (.inl 3)]) hM_164 d_164_12 rfl rfl ?_
  refine r_go (pc' := 2) hM_164 d_164_15 (by decide) ?_
  refine r_ld (pc' := 3) hM_164 d_164_2 rfl rfl ?_
  refine r_k (pc' := 5) (v := .inl 56) hM_164 d_164_3 rfl rfl ?_
  refine r_ic (pc' := 18) (pc2 := 8) hM_164 d_164_5 (by decide) rfl (fun hc => absurd hc (show ¬ (am_s 56 ≤ am_s 3) by decide)) (fun _ => ?_)
  refine r_ld (pc' := 9) hM_164 d_164_8 rfl rfl ?_
  refine r_ld (pc' := 10) hM_164 d_164_9 rfl rfl ?_
  refine r_k (pc' := 11) (v := .inl 0) hM_164 d_164_10 rfl rfl ?_
  refine g_is (pc' := 12) (n := 168) (j := 3) hM_164 d_164_11 rfl (by decide) (by decide +kernel) (by decide) (by decide) ?_
  show rn fx (0 + 1) (0, 0) 164 12 [some (.inr (.inr (some 54))), some (.inl 3)] [] sS_202 _
  refine r_sto (pc' := 15) (ls' := [some (.inr (.inr (some 54))), some (.inl 4)]) hM_164 d_164_12 rfl rfl ?_
  refine r_go (pc' := 2) hM_164 d_164_15 (by decide) ?_
  refine r_ld (pc' := 3) hM_164 d_164_2 rfl rfl ?_
  refine r_k (pc' := 5) (v := .inl 56) hM_164 d_164_3 rfl rfl ?_
  refine r_ic (pc' := 18) (pc2 := 8) hM_164 d_164_5 (by decide) rfl (fun hc => absurd hc (show ¬ (am_s 56 ≤ am_s 4) by decide)) (fun _ => ?_)
  refine r_ld (pc' := 9) hM_164 d_164_8 rfl rfl ?_
  refine r_ld (pc' := 10) hM_164 d_164_9 rfl rfl ?_
  refine r_k (pc' := 11) (v := .inl 0) hM_164 d_164_10 rfl rfl ?_
  refine g_is (pc' := 12) (n := 168) (j := 4) hM_164 d_164_11 rfl (by decide) (by decide +kernel) (by decide) (by decide) ?_
  show rn fx (0 + 1) (0, 0) 164 12 [some (.inr (.inr (some 54))), some (.inl 4)] [] sS_203 _
  refine r_sto (pc' := 15) (ls' := [some (.inr (.inr (some 54))), some (.inl 5)]) hM_164 d_164_12 rfl rfl ?_
  refine r_go (pc' := 2) hM_164 d_164_15 (by decide) ?_
  refine r_ld (pc' := 3) hM_164 d_164_2 rfl rfl ?_
  refine r_k (pc' := 5) (v := .inl 56) hM_164 d_164_3 rfl rfl ?_
  refine r_ic (pc' := 18) (pc2 := 8) hM_164 d_164_5 (by decide) rfl (fun hc => absurd hc (show ¬ (am_s 56 ≤ am_s 5) by decide)) (fun _ => ?_)
  refine r_ld (pc' := 9) hM_164 d_164_8 rfl rfl ?_
  refine r_ld (pc' := 10) hM_164 d_164_9 rfl rfl ?_
  refine r_k (pc' := 11) (v := .inl 0) hM_164 d_164_10 rfl rfl ?_
  refine g_is (pc' := 12) (n := 168) (j := 5) hM_164 d_164_11 rfl (by decide) (by decide +kernel) (by decide) (by decide) ?_
  show rn fx (0 + 1) (0, 0) 164 12 [some (.inr (.inr (some 54))), some (.inl 5)] [] sS_204 _
  refine r_sto (pc' := 15) (ls' := [some (.inr (.inr (some 54))), some (.inl 6)]) hM_164 d_164_12 rfl rfl ?_
  refine r_go (pc' := 2) hM_164 d_164_15 (by decide) ?_
  refine r_ld (pc' := 3) hM_164 d_164_2 rfl rfl ?_
  refine r_k (pc' := 5) (v := .inl 56) hM_164 d_164_3 rfl rfl ?_
  refine r_ic (pc' := 18) (pc2 := 8) hM_164 d_164_5 (by decide) rfl (fun hc => absurd hc (show ¬ (am_s 56 ≤ am_s 6) by decide)) (fun _ => ?_)
  refine r_ld (pc' := 9) hM_164 d_164_8 rfl rfl ?_
  refine r_ld (pc' := 10) hM_164 d_164_9 rfl rfl ?_
  refine r_k (pc' := 11) (v := .inl 0) hM_164 d_164_10 rfl rfl ?_
  refine g_is (pc' := 12) (n := 168) (j := 6) hM_164 d_164_11 rfl (by decide) (by decide +kernel) (by decide) (by decide) ?_
  show rn fx (0 + 1) (0, 0) 164 12 [some (.inr (.inr (some 54))), some (.inl 6)] [] sS_205 _
  refine r_sto (pc' := 15) (ls' := [some (.inr (.inr (some 54))), some (.inl 7)]) hM_164 d_164_12 rfl rfl ?_
  refine r_go (pc' := 2) hM_164 d_164_15 (by decide) ?_
  refine r_ld (pc' := 3) hM_164 d_164_2 rfl rfl ?_
  refine r_k (pc' := 5) (v := .inl 56) hM_164 d_164_3 rfl rfl ?_
  refine r_ic (pc' := 18) (pc2 := 8) hM_164 d_164_5 (by decide) rfl (fun hc => absurd hc (show ¬ (am_s 56 ≤ am_s 7) by decide)) (fun _ => ?_)
  refine r_ld (pc' := 9) hM_164 d_164_8 rfl rfl ?_
  refine r_ld (pc' := 10) hM_164 d_164_9 rfl rfl ?_
  refine r_k (pc' := 11) (v := .inl 0) hM_164 d_164_10 rfl rfl ?_
  refine g_is (pc' := 12) (n := 168) (j := 7) hM_164 d_164_11 rfl (by decide) (by decide +kernel) (by decide) (by decide) ?_
  show rn fx (0 + 1) (0, 0) 164 12 [some (.inr (.inr (some 54))), some (.inl 7)] [] sS_206 _
  refine r_sto (pc' := 15) (ls' := [some (.inr (.inr (some 54))), some (.inl 8)]) hM_164 d_164_12 rfl rfl ?_
  refine r_go (pc' := 2) hM_164 d_164_15 (by decide) ?_
  refine r_ld (pc' := 3) hM_164 d_164_2 rfl rfl ?_
  refine r_k (pc' := 5) (v := .inl 56) hM_164 d_164_3 rfl rfl ?_
  refine r_ic (pc' := 18) (pc2 := 8) hM_164 d_164_5 (by decide) rfl (fun hc => absurd hc (show ¬ (am_s 56 ≤ am_s 8) by decide)) (fun _ => ?_)
  refine r_ld (pc' := 9) hM_164 d_164_8 rfl rfl ?_
  refine r_ld (pc' := 10) hM_164 d_164_9 rfl rfl ?_
  refine r_k (pc' := 11) (v := .inl 0) hM_164 d_164_10 rfl rfl ?_
  refine g_is (pc' := 12) (n := 168) (j := 8) hM_164 d_164_11 rfl (by decide) (by decide +kernel) (by decide) (by decide) ?_
  show rn fx (0 + 1) (0, 0) 164 12 [some (.inr (.inr (some 54))), some (.inl 8)] [] sS_207 _
  refine r_sto (pc' := 15) (ls' := [some (.inr (.inr (some 54))), some (.inl 9)]) hM_164 d_164_12 rfl rfl ?_
  refine r_go (pc' := 2) hM_164 d_164_15 (by decide) ?_
  refine r_ld (pc' := 3) hM_164 d_164_2 rfl rfl ?_
  refine r_k (pc' := 5) (v := .inl 56) hM_164 d_164_3 rfl rfl ?_
  refine r_ic (pc' := 18) (pc2 := 8) hM_164 d_164_5 (by decide) rfl (fun hc => absurd hc (show ¬ (am_s 56 ≤ am_s 9) by decide)) (fun _ => ?_)
  refine r_ld (pc' := 9) hM_164 d_164_8 rfl rfl ?_
  refine r_ld (pc' := 10) hM_164 d_164_9 rfl rfl ?_
  refine r_k (pc' := 11) (v := .inl 0) hM_164 d_164_10 rfl rfl ?_
  refine g_is (pc' := 12) (n := 168) (j := 9) hM_164 d_164_11 rfl (by decide) (by decide +kernel) (by decide) (by decide) ?_
  show rn fx (0 + 1) (0, 0) 164 12 [some (.inr (.inr (some 54))), some (.inl 9)] [] sS_208 _
  refine r_sto (pc' := 15) (ls' := [some (.inr (.inr (some 54))), some (.inl 10)]) hM_164 d_164_12 rfl rfl ?_
  refine r_go (pc' := 2) hM_164 d_164_15 (by decide) ?_
  refine r_ld (pc' := 3) hM_164 d_164_2 rfl rfl ?_
  refine r_k (pc' := 5) (v := .inl 56) hM_164 d_164_3 rfl rfl ?_
  refine r_ic (pc' := 18) (pc2 := 8) hM_164 d_164_5 (by decide) rfl (fun hc => absurd hc (show ¬ (am_s 56 ≤ am_s 10) by decide)) (fun _ => ?_)
  refine r_ld (pc' := 9) hM_164 d_164_8 rfl rfl ?_
  refine r_ld (pc' := 10) hM_164 d_164_9 rfl rfl ?_
  refine r_k (pc' := 11) (v := .inl 0) hM_164 d_164_10 rfl rfl ?_
  refine g_is (pc' := 12) (n := 168) (j := 10) hM_164 d_164_11 rfl (by decide) (by decide +kernel) (by decide) (by decide) ?_
  show rn fx (0 + 1) (0, 0) 164 12 [some (.inr (.inr (some 54))), some (.inl 10)] [] sS_209 _
  refine r_sto (pc' := 15) (ls' := [some (.inr (.inr (some 54))), some (.inl 11)]) hM_164 d_164_12 rfl rfl ?_
  refine r_go (pc' := 2) hM_164 d_164_15 (by decide) ?_
  refine r_ld (pc' := 3) hM_164 d_164_2 rfl rfl ?_
  refine r_k (pc' := 5) (v := .inl 56) hM_164 d_164_3 rfl rfl ?_
  refine r_ic (pc' := 18) (pc2 := 8) hM_164 d_164_5 (by decide) rfl (fun hc => absurd hc (show ¬ (am_s 56 ≤ am_s 11) by decide)) (fun _ => ?_)
  refine r_ld (pc' := 9) hM_164 d_164_8 rfl rfl ?_
  refine r_ld (pc' := 10) hM_164 d_164_9 rfl rfl ?_
  refine r_k (pc' := 11) (v := .inl 0) hM_164 d_164_10 rfl rfl ?_
  refine g_is (pc' := 12) (n := 168) (j := 11) hM_164 d_164_11 rfl (by decide) (by decide +kernel) (by decide) (by decide) ?_
  show rn fx (0 + 1) (0, 0) 164 12 [some (.inr (.inr (some 54))), some (.inl 11)] [] sS_210 _
  refine r_sto (pc' := 15) (ls' := [some (.inr (.inr (some 54))), some (.inl 12)]) hM_164 d_164_12 rfl rfl ?_
  refine r_go (pc' := 2) hM_164 d_164_15 (by decide) ?_
  refine r_ld (pc' := 3) hM_164 d_164_2 rfl rfl ?_
  refine r_k (pc' := 5) (v := .inl 56) hM_164 d_164_3 rfl rfl ?_
  refine r_ic (pc' := 18) (pc2 := 8) hM_164 d_164_5 (by decide) rfl (fun hc => absurd hc (show ¬ (am_s 56 ≤ am_s 12) by decide)) (fun _ => ?_)
  refine r_ld (pc' := 9) hM_164 d_164_8 rfl rfl ?_
  refine r_ld (pc' := 10) hM_164 d_164_9 rfl rfl ?_
  refine r_k (pc' := 11) (v := .inl 0) hM_164 d_164_10 rfl rfl ?_
  refine g_is (pc' := 12) (n := 168) (j := 12) hM_164 d_164_11 rfl (by decide) (by decide +kernel) (by decide) (by decide) ?_
  show rn fx (0 + 1) (0, 0) 164 12 [some (.inr (.inr (some 54))), some (.inl 12)] [] sS_211 _
  refine r_sto (pc' := 15) (ls' := [some (.inr (.inr (some 54))), some (.inl 13)]) hM_164 d_164_12 rfl rfl ?_
  refine r_go (pc' := 2) hM_164 d_164_15 (by decide) ?_
  refine r_ld (pc' := 3) hM_164 d_164_2 rfl rfl ?_
  refine r_k (pc' := 5) (v := .inl 56) hM_164 d_164_3 rfl rfl ?_
  refine r_ic (pc' := 18) (pc2 := 8) hM_164 d_164_5 (by decide) rfl (fun hc => absurd hc (show ¬ (am_s 56 ≤ am_s 13) by decide)) (fun _ => ?_)
  refine r_ld (pc' := 9) hM_164 d_164_8 rfl rfl ?_
  refine r_ld (pc' := 10) hM_164 d_164_9 rfl rfl ?_
  refine r_k (pc' := 11) (v := .inl 0) hM_164 d_164_10 rfl rfl ?_
  refine g_is (pc' := 12) (n := 168) (j := 13) hM_164 d_164_11 rfl (by decide) (by decide +kernel) (by decide) (by decide) ?_
  show rn fx (0 + 1) (0, 0) 164 12 [some (.inr (.inr (some 54))), some (.inl 13)] [] sS_212 _
  refine r_sto (pc' := 15) (ls' := [some (.inr (.inr (some 54))), some (.inl 14)]) hM_164 d_164_12 rfl rfl ?_
  refine r_go (pc' := 2) hM_164 d_164_15 (by decide) ?_
  refine r_ld (pc' := 3) hM_164 d_164_2 rfl rfl ?_
  refine r_k (pc' := 5) (v := .inl 56) hM_164 d_164_3 rfl rfl ?_
  refine r_ic (pc' := 18) (pc2 := 8) hM_164 d_164_5 (by decide) rfl (fun hc => absurd hc (show ¬ (am_s 56 ≤ am_s 14) by decide)) (fun _ => ?_)
  refine r_ld (pc' := 9) hM_164 d_164_8 rfl rfl ?_
  refine r_ld (pc' := 10) hM_164 d_164_9 rfl rfl ?_
  refine r_k (pc' := 11) (v := .inl 0) hM_164 d_164_10 rfl rfl ?_
  refine g_is (pc' := 12) (n := 168) (j := 14) hM_164 d_164_11 rfl (by decide) (by decide +kernel) (by decide) (by decide) ?_
  show rn fx (0 + 1) (0, 0) 164 12 [some (.inr (.inr (some 54))), some (.inl 14)] [] sS_213 _
  refine r_sto (pc' := 15) (ls' := [some (.inr (.inr (some 54))), some (.inl 15)]) hM_164 d_164_12 rfl rfl ?_
  refine r_go (pc' := 2) hM_164 d_164_15 (by decide) ?_
  refine r_ld (pc' := 3) hM_164 d_164_2 rfl rfl ?_
  refine r_k (pc' := 5) (v := .inl 56) hM_164 d_164_3 rfl rfl ?_
  refine r_ic (pc' := 18) (pc2 := 8) hM_164 d_164_5 (by decide) rfl (fun hc => absurd hc (show ¬ (am_s 56 ≤ am_s 15) by decide)) (fun _ => ?_)
  refine r_ld (pc' := 9) hM_164 d_164_8 rfl rfl ?_
  refine r_ld (pc' := 10) hM_164 d_164_9 rfl rfl ?_
  refine r_k (pc' := 11) (v := .inl 0) hM_164 d_164_10 rfl rfl ?_
  refine g_is (pc' := 12) (n := 168) (j := 15) hM_164 d_164_11 rfl (by decide) (by decide +kernel) (by decide) (by decide) ?_
  show rn fx (0 + 1) (0, 0) 164 12 [some (.inr (.inr (some 54))), some (.inl 15)] [] sS_214 _
  refine r_sto (pc' := 15) (ls' := [some (.inr (.inr (some 54))), some (.inl 16)]) hM_164 d_164_12 rfl rfl ?_
  refine r_go (pc' := 2) hM_164 d_164_15 (by decide) ?_
  refine r_ld (pc' := 3) hM_164 d_164_2 rfl rfl ?_
  refine r_k (pc' := 5) (v := .inl 56) hM_164 d_164_3 rfl rfl ?_
  refine r_ic (pc' := 18) (pc2 := 8) hM_164 d_164_5 (by decide) rfl (fun hc => absurd hc (show ¬ (am_s 56 ≤ am_s 16) by decide)) (fun _ => ?_)
  refine r_ld (pc' := 9) hM_164 d_164_8 rfl rfl ?_
  refine r_ld (pc' := 10) hM_164 d_164_9 rfl rfl ?_
  refine r_k (pc' := 11) (v := .inl 0) hM_164 d_164_10 rfl rfl ?_
  refine g_is (pc' := 12) (n := 168) (j := 16) hM_164 d_164_11 rfl (by decide) (by decide +kernel) (by decide) (by decide) ?_
  show rn fx (0 + 1) (0, 0) 164 12 [some (.inr (.inr (some 54))), some (.inl 16)] [] sS_215 _
  refine r_sto (pc' := 15) (ls' := [some (.inr (.inr (some 54))), some (.inl 17)]) hM_164 d_164_12 rfl rfl ?_
  refine r_go (pc' := 2) hM_164 d_164_15 (by decide) ?_
  refine r_ld (pc' := 3) hM_164 d_164_2 rfl rfl ?_
  refine r_k (pc' := 5) (v := .inl 56) hM_164 d_164_3 rfl rfl ?_
  refine r_ic (pc' := 18) (pc2 := 8) hM_164 d_164_5 (by decide) rfl (fun hc => absurd hc (show ¬ (am_s 56 ≤ am_s 17) by decide)) (fun _ => ?_)
  refine r_ld (pc' := 9) hM_164 d_164_8 rfl rfl ?_
  refine r_ld (pc' := 10) hM_164 d_164_9 rfl rfl ?_
  refine r_k (pc' := 11) (v := .inl 0) hM_164 d_164_10 rfl rfl ?_
  refine g_is (pc' := 12) (n := 168) (j := 17) hM_164 d_164_11 rfl (by decide) (by decide +kernel) (by decide) (by decide) ?_
  show rn fx (0 + 1) (0, 0) 164 12 [some (.inr (.inr (some 54))), some (.inl 17)] [] sS_216 _
  refine r_sto (pc' := 15) (ls' := [some (.inr (.inr (some 54))), some (.inl 18)]) hM_164 d_164_12 rfl rfl ?_
  refine r_go (pc' := 2) hM_164 d_164_15 (by decide) ?_
  refine r_ld (pc' := 3) hM_164 d_164_2 rfl rfl ?_
  refine r_k (pc' := 5) (v := .inl 56) hM_164 d_164_3 rfl rfl ?_
  refine r_ic (pc' := 18) (pc2 := 8) hM_164 d_164_5 (by decide) rfl (fun hc => absurd hc (show ¬ (am_s 56 ≤ am_s 18) by decide)) (fun _ => ?_)
  refine r_ld (pc' := 9) hM_164 d_164_8 rfl rfl ?_
  refine r_ld (pc' := 10) hM_164 d_164_9 rfl rfl ?_
  refine r_k (pc' := 11) (v := .inl 0) hM_164 d_164_10 rfl rfl ?_
  refine g_is (pc' := 12) (n := 168) (j := 18) hM_164 d_164_11 rfl (by decide) (by decide +kernel) (by decide) (by decide) ?_
  show rn fx (0 + 1) (0, 0) 164 12 [some (.inr (.inr (some 54))), some (.inl 18)] [] sS_217 _
  refine r_sto (pc' := 15) (ls' := [some (.inr (.inr (some 54))), some (.inl 19)]) hM_164 d_164_12 rfl rfl ?_
  refine r_go (pc' := 2) hM_164 d_164_15 (by decide) ?_
  refine r_ld (pc' := 3) hM_164 d_164_2 rfl rfl ?_
  refine r_k (pc' := 5) (v := .inl 56) hM_164 d_164_3 rfl rfl ?_
  refine r_ic (pc' := 18) (pc2 := 8) hM_164 d_164_5 (by decide) rfl (fun hc => absurd hc (show ¬ (am_s 56 ≤ am_s 19) by decide)) (fun _ => ?_)
  refine r_ld (pc' := 9) hM_164 d_164_8 rfl rfl ?_
  refine r_ld (pc' := 10) hM_164 d_164_9 rfl rfl ?_
  refine r_k (pc' := 11) (v := .inl 0) hM_164 d_164_10 rfl rfl ?_
  refine g_is (pc' := 12) (n := 168) (j := 19) hM_164 d_164_11 rfl (by decide) (by decide +kernel) (by decide) (by decide) ?_
  show rn fx (0 + 1) (0, 0) 164 12 [some (.inr (.inr (some 54))), some (.inl 19)] [] sS_218 _
  refine r_sto (pc' := 15) (ls' := [some (.inr (.inr (some 54))), some (.inl 20)]) hM_164 d_164_12 rfl rfl ?_
  refine r_go (pc' := 2) hM_164 d_164_15 (by decide) ?_
  refine r_ld (pc' := 3) hM_164 d_164_2 rfl rfl ?_
  refine r_k (pc' := 5) (v := .inl 56) hM_164 d_164_3 rfl rfl ?_
  refine r_ic (pc' := 18) (pc2 := 8) hM_164 d_164_5 (by decide) rfl (fun hc => absurd hc (show ¬ (am_s 56 ≤ am_s 20) by decide)) (fun _ => ?_)
  refine r_ld (pc' := 9) hM_164 d_164_8 rfl rfl ?_
  refine r_ld (pc' := 10) hM_164 d_164_9 rfl rfl ?_
  refine r_k (pc' := 11) (v := .inl 0) hM_164 d_164_10 rfl rfl ?_
  refine g_is (pc' := 12) (n := 168) (j := 20) hM_164 d_164_11 rfl (by decide) (by decide +kernel) (by decide) (by decide) ?_
  show rn fx (0 + 1) (0, 0) 164 12 [some (.inr (.inr (some 54))), some (.inl 20)] [] sS_219 _
  refine r_sto (pc' := 15) (ls' := [some (.inr (.inr (some 54))), some (.inl 21)]) hM_164 d_164_12 rfl rfl ?_
  refine r_go (pc' := 2) hM_164 d_164_15 (by decide) ?_
  refine r_ld (pc' := 3) hM_164 d_164_2 rfl rfl ?_
  refine r_k (pc' := 5) (v := .inl 56) hM_164 d_164_3 rfl rfl ?_
  refine r_ic (pc' := 18) (pc2 := 8) hM_164 d_164_5 (by decide) rfl (fun hc => absurd hc (show ¬ (am_s 56 ≤ am_s 21) by decide)) (fun _ => ?_)
  refine r_ld (pc' := 9) hM_164 d_164_8 rfl rfl ?_
  refine r_ld (pc' := 10) hM_164 d_164_9 rfl rfl ?_
  refine r_k (pc' := 11) (v := .inl 0) hM_164 d_164_10 rfl rfl ?_
  refine g_is (pc' := 12) (n := 168) (j := 21) hM_164 d_164_11 rfl (by decide) (by decide +kernel) (by decide) (by decide) ?_
  show rn fx (0 + 1) (0, 0) 164 12 [some (.inr (.inr (some 54))), some (.inl 21)] [] sS_220 _
  refine r_sto (pc' := 15) (ls' := [some (.inr (.inr (some 54))), some (.inl 22)]) hM_164 d_164_12 rfl rfl ?_
  refine r_go (pc' := 2) hM_164 d_164_15 (by decide) ?_
  refine r_ld (pc' := 3) hM_164 d_164_2 rfl rfl ?_
  refine r_k (pc' := 5) (v := .inl 56) hM_164 d_164_3 rfl rfl ?_
  refine r_ic (pc' := 18) (pc2 := 8) hM_164 d_164_5 (by decide) rfl (fun hc => absurd hc (show ¬ (am_s 56 ≤ am_s 22) by decide)) (fun _ => ?_)
  refine r_ld (pc' := 9) hM_164 d_164_8 rfl rfl ?_
  refine r_ld (pc' := 10) hM_164 d_164_9 rfl rfl ?_
  refine r_k (pc' := 11) (v := .inl 0) hM_164 d_164_10 rfl rfl ?_
  refine g_is (pc' := 12) (n := 168) (j := 22) hM_164 d_164_11 rfl (by decide) (by decide +kernel) (by decide) (by decide) ?_
  show rn fx (0 + 1) (0, 0) 164 12 [some (.inr (.inr (some 54))), some (.inl 22)] [] sS_221 _
  refine r_sto (pc' := 15) (ls' := [some (.inr (.inr (some 54))), some (.inl 23)]) hM_164 d_164_12 rfl rfl ?_
  refine r_go (pc' := 2) hM_164 d_164_15 (by decide) ?_
  refine r_ld (pc' := 3) hM_164 d_164_2 rfl rfl ?_
  refine r_k (pc' := 5) (v := .inl 56) hM_164 d_164_3 rfl rfl ?_
  refine r_ic (pc' := 18) (pc2 := 8) hM_164 d_164_5 (by decide) rfl (fun hc => absurd hc (show ¬ (am_s 56 ≤ am_s 23) by decide)) (fun _ => ?_)
  refine r_ld (pc' := 9) hM_164 d_164_8 rfl rfl ?_
  refine r_ld (pc' := 10) hM_164 d_164_9 rfl rfl ?_
  refine r_k (pc' := 11) (v := .inl 0) hM_164 d_164_10 rfl rfl ?_
  refine g_is (pc' := 12) (n := 168) (j := 23) hM_164 d_164_11 rfl (by decide) (by decide +kernel) (by decide) (by decide) ?_
  show rn fx (0 + 1) (0, 0) 164 12 [some (.inr (.inr (some 54))), some (.inl 23)] [] sS_222 _
  refine r_sto (pc' := 15) (ls' := [some (.inr (.inr (some 54))), some (.inl 24)]) hM_164 d_164_12 rfl rfl ?_
  refine r_go (pc' := 2) hM_164 d_164_15 (by decide) ?_
  refine r_ld (pc' := 3) hM_164 d_164_2 rfl rfl ?_
  refine r_k (pc' := 5) (v := .inl 56) hM_164 d_164_3 rfl rfl ?_
  refine r_ic (pc' := 18) (pc2 := 8) hM_164 d_164_5 (by decide) rfl (fun hc => absurd hc (show ¬ (am_s 56 ≤ am_s 24) by decide)) (fun _ => ?_)
  refine r_ld (pc' := 9) hM_164 d_164_8 rfl rfl ?_
  refine r_ld (pc' := 10) hM_164 d_164_9 rfl rfl ?_
  refine r_k (pc' := 11) (v := .inl 0) hM_164 d_164_10 rfl rfl ?_
  refine g_is (pc' := 12) (n := 168) (j := 24) hM_164 d_164_11 rfl (by decide) (by decide +kernel) (by decide) (by decide) ?_
  show rn fx (0 + 1) (0, 0) 164 12 [some (.inr (.inr (some 54))), some (.inl 24)] [] sS_223 _
  refine r_sto (pc' := 15) (ls' := [some (.inr (.inr (some 54))), some (.inl 25)]) hM_164 d_164_12 rfl rfl ?_
  refine r_go (pc' := 2) hM_164 d_164_15 (by decide) ?_
  refine r_ld (pc' := 3) hM_164 d_164_2 rfl rfl ?_
  refine r_k (pc' := 5) (v := .inl 56) hM_164 d_164_3 rfl rfl ?_
  refine r_ic (pc' := 18) (pc2 := 8) hM_164 d_164_5 (by decide) rfl (fun hc => absurd hc (show ¬ (am_s 56 ≤ am_s 25) by decide)) (fun _ => ?_)
  refine r_ld (pc' := 9) hM_164 d_164_8 rfl rfl ?_
  refine r_ld (pc' := 10) hM_164 d_164_9 rfl rfl ?_
  refine r_k (pc' := 11) (v := .inl 0) hM_164 d_164_10 rfl rfl ?_
  refine g_is (pc' := 12) (n := 168) (j := 25) hM_164 d_164_11 rfl (by decide) (by decide +kernel) (by decide) (by decide) ?_
  show rn fx (0 + 1) (0, 0) 164 12 [some (.inr (.inr (some 54))), some (.inl 25)] [] sS_224 _
  refine r_sto (pc' := 15) (ls' := [some (.inr (.inr (some 54))), some (.inl 26)]) hM_164 d_164_12 rfl rfl ?_
  refine r_go (pc' := 2) hM_164 d_164_15 (by decide) ?_
  refine r_ld (pc' := 3) hM_164 d_164_2 rfl rfl ?_
  refine r_k (pc' := 5) (v := .inl 56) hM_164 d_164_3 rfl rfl ?_
  refine r_ic (pc' := 18) (pc2 := 8) hM_164 d_164_5 (by decide) rfl (fun hc => absurd hc (show ¬ (am_s 56 ≤ am_s 26) by decide)) (fun _ => ?_)
  refine r_ld (pc' := 9) hM_164 d_164_8 rfl rfl ?_
  refine r_ld (pc' := 10) hM_164 d_164_9 rfl rfl ?_
  refine r_k (pc' := 11) (v := .inl 0) hM_164 d_164_10 rfl rfl ?_
  refine g_is (pc' := 12) (n := 168) (j := 26) hM_164 d_164_11 rfl (by decide) (by decide +kernel) (by decide) (by decide) ?_
  show rn fx (0 + 1) (0, 0) 164 12 [some (.inr (.inr (some 54))), some (.inl 26)] [] sS_225 _
  refine r_sto (pc' := 15) (ls' := [some (.inr (.inr (some 54))), some (.inl 27)]) hM_164 d_164_12 rfl rfl ?_
  refine r_go (pc' := 2) hM_164 d_164_15 (by decide) ?_
  refine r_ld (pc' := 3) hM_164 d_164_2 rfl rfl ?_
  refine r_k (pc' := 5) (v := .inl 56) hM_164 d_164_3 rfl rfl ?_
  refine r_ic (pc' := 18) (pc2 := 8) hM_164 d_164_5 (by decide) rfl (fun hc => absurd hc (show ¬ (am_s 56 ≤ am_s 27) by decide)) (fun _ => ?_)
  refine r_ld (pc' := 9) hM_164 d_164_8 rfl rfl ?_
  refine r_ld (pc' := 10) hM_164 d_164_9 rfl rfl ?_
  refine r_k (pc' := 11) (v := .inl 0) hM_164 d_164_10 rfl rfl ?_
  refine g_is (pc' := 12) (n := 168) (j := 27) hM_164 d_164_11 rfl (by decide) (by decide +kernel) (by decide) (by decide) ?_
  show rn fx (0 + 1) (0, 0) 164 12 [some (.inr (.inr (some 54))), some (.inl 27)] [] sS_226 _
  refine r_sto (pc' := 15) (ls' := [some (.inr (.inr (some 54))), some (.inl 28)]) hM_164 d_164_12 rfl rfl ?_
  refine r_go (pc' := 2) hM_164 d_164_15 (by decide) ?_
  refine r_ld (pc' := 3) hM_164 d_164_2 rfl rfl ?_
  refine r_k (pc' := 5) (v := .inl 56) hM_164 d_164_3 rfl rfl ?_
  refine r_ic (pc' := 18) (pc2 := 8) hM_164 d_164_5 (by decide) rfl (fun hc => absurd hc (show ¬ (am_s 56 ≤ am_s 28) by decide)) (fun _ => ?_)
  refine r_ld (pc' := 9) hM_164 d_164_8 rfl rfl ?_
  refine r_ld (pc' := 10) hM_164 d_164_9 rfl rfl ?_
  refine r_k (pc' := 11) (v := .inl 0) hM_164 d_164_10 rfl rfl ?_
  refine g_is (pc' := 12) (n := 168) (j := 28) hM_164 d_164_11 rfl (by decide) (by decide +kernel) (by decide) (by decide) ?_
  show rn fx (0 + 1) (0, 0) 164 12 [some (.inr (.inr (some 54))), some (.inl 28)] [] sS_227 _
  refine r_sto (pc' := 15) (ls' := [some (.inr (.inr (some 54))), some (.inl 29)]) hM_164 d_164_12 rfl rfl ?_
  refine r_go (pc' := 2) hM_164 d_164_15 (by decide) ?_
  refine r_ld (pc' := 3) hM_164 d_164_2 rfl rfl ?_
  refine r_k (pc' := 5) (v := .inl 56) hM_164 d_164_3 rfl rfl ?_
  refine r_ic (pc' := 18) (pc2 := 8) hM_164 d_164_5 (by decide) rfl (fun hc => absurd hc (show ¬ (am_s 56 ≤ am_s 29) by decide)) (fun _ => ?_)
  refine r_ld (pc' := 9) hM_164 d_164_8 rfl rfl ?_
  refine r_ld (pc' := 10) hM_164 d_164_9 rfl rfl ?_
  refine r_k (pc' := 11) (v := .inl 0) hM_164 d_164_10 rfl rfl ?_
  refine g_is (pc' := 12) (n := 168) (j := 29) hM_164 d_164_11 rfl (by decide) (by decide +kernel) (by decide) (by decide) ?_
  show rn fx (0 + 1) (0, 0) 164 12 [some (.inr (.inr (some 54))), some (.inl 29)] [] sS_228 _
  refine r_sto (pc' := 15) (ls' := [some (.inr (.inr (some 54))), some (.inl 30)]) hM_164 d_164_12 rfl rfl ?_
  refine r_go (pc' := 2) hM_164 d_164_15 (by decide) ?_
  refine r_ld (pc' := 3) hM_164 d_164_2 rfl rfl ?_
  refine r_k (pc' := 5) (v := .inl 56) hM_164 d_164_3 rfl rfl ?_
  refine r_ic (pc' := 18) (pc2 := 8) hM_164 d_164_5 (by decide) rfl (fun hc => absurd hc (show ¬ (am_s 56 ≤ am_s 30) by decide)) (fun _ => ?_)
  refine r_ld (pc' := 9) hM_164 d_164_8 rfl rfl ?_
  refine r_ld (pc' := 10) hM_164 d_164_9 rfl rfl ?_
  refine r_k (pc' := 11) (v := .inl 0) hM_164 d_164_10 rfl rfl ?_
  refine g_is (pc' := 12) (n := 168) (j := 30) hM_164 d_164_11 rfl (by decide) (by decide +kernel) (by decide) (by decide) ?_
  show rn fx (0 + 1) (0, 0) 164 12 [some (.inr (.inr (some 54))), some (.inl 30)] [] sS_229 _
  refine r_sto (pc' := 15) (ls' := [some (.inr (.inr (some 54))), some (.inl 31)]) hM_164 d_164_12 rfl rfl ?_
  refine r_go (pc' := 2) hM_164 d_164_15 (by decide) ?_
  refine r_ld (pc' := 3) hM_164 d_164_2 rfl rfl ?_
  refine r_k (pc' := 5) (v := .inl 56) hM_164 d_164_3 rfl rfl ?_
  refine r_ic (pc' := 18) (pc2 := 8) hM_164 d_164_5 (by decide) rfl (fun hc => absurd hc (show ¬ (am_s 56 ≤ am_s 31) by decide)) (fun _ => ?_)
  refine r_ld (pc' := 9) hM_164 d_164_8 rfl rfl ?_
  refine r_ld (pc' := 10) hM_164 d_164_9 rfl rfl ?_
  refine r_k (pc' := 11) (v := .inl 0) hM_164 d_164_10 rfl rfl ?_
  refine g_is (pc' := 12) (n := 168) (j := 31) hM_164 d_164_11 rfl (by decide) (by decide +kernel) (by decide) (by decide) ?_
  show rn fx (0 + 1) (0, 0) 164 12 [some (.inr (.inr (some 54))), some (.inl 31)] [] sS_230 _
  refine r_sto (pc' := 15) (ls' := [some (.inr (.inr (some 54))), some (.inl 32)]) hM_164 d_164_12 rfl rfl ?_
  refine r_go (pc' := 2) hM_164 d_164_15 (by decide) ?_
  refine r_ld (pc' := 3) hM_164 d_164_2 rfl rfl ?_
  refine r_k (pc' := 5) (v := .inl 56) hM_164 d_164_3 rfl rfl ?_
  refine r_ic (pc' := 18) (pc2 := 8) hM_164 d_164_5 (by decide) rfl (fun hc => absurd hc (show ¬ (am_s 56 ≤ am_s 32) by decide)) (fun _ => ?_)
  refine r_ld (pc' := 9) hM_164 d_164_8 rfl rfl ?_
  refine r_ld (pc' := 10) hM_164 d_164_9 rfl rfl ?_
  refine r_k (pc' := 11) (v := .inl 0) hM_164 d_164_10 rfl rfl ?_
  refine g_is (pc' := 12) (n := 168) (j := 32) hM_164 d_164_11 rfl (by decide) (by decide +kernel) (by decide) (by decide) ?_
  show rn fx (0 + 1) (0, 0) 164 12 [some (.inr (.inr (some 54))), some (.inl 32)] [] sS_231 _
  refine r_sto (pc' := 15) (ls' := [some (.inr (.inr (some 54))), some (.inl 33)]) hM_164 d_164_12 rfl rfl ?_
  refine r_go (pc' := 2) hM_164 d_164_15 (by decide) ?_
  refine r_ld (pc' := 3) hM_164 d_164_2 rfl rfl ?_
  refine r_k (pc' := 5) (v := .inl 56) hM_164 d_164_3 rfl rfl ?_
  refine r_ic (pc' := 18) (pc2 := 8) hM_164 d_164_5 (by decide) rfl (fun hc => absurd hc (show ¬ (am_s 56 ≤ am_s 33) by decide)) (fun _ => ?_)
  refine r_ld (pc' := 9) hM_164 d_164_8 rfl rfl ?_
  refine r_ld (pc' := 10) hM_164 d_164_9 rfl rfl ?_
  refine r_k (pc' := 11) (v := .inl 0) hM_164 d_164_10 rfl rfl ?_
  refine g_is (pc' := 12) (n := 168) (j := 33) hM_164 d_164_11 rfl (by decide) (by decide +kernel) (by decide) (by decide) ?_
  show rn fx (0 + 1) (0, 0) 164 12 [some (.inr (.inr (some 54))), some (.inl 33)] [] sS_232 _
  refine r_sto (pc' := 15) (ls' := [some (.inr (.inr (some 54))), some (.inl 34)]) hM_164 d_164_12 rfl rfl ?_
  refine r_go (pc' := 2) hM_164 d_164_15 (by decide) ?_
  refine r_ld (pc' := 3) hM_164 d_164_2 rfl rfl ?_
  refine r_k (pc' := 5) (v := .inl 56) hM_164 d_164_3 rfl rfl ?_
  refine r_ic (pc' := 18) (pc2 := 8) hM_164 d_164_5 (by decide) rfl (fun hc => absurd hc (show ¬ (am_s 56 ≤ am_s 34) by decide)) (fun _ => ?_)
  refine r_ld (pc' := 9) hM_164 d_164_8 rfl rfl ?_
  refine r_ld (pc' := 10) hM_164 d_164_9 rfl rfl ?_
  refine r_k (pc' := 11) (v := .inl 0) hM_164 d_164_10 rfl rfl ?_
  refine g_is (pc' := 12) (n := 168) (j := 34) hM_164 d_164_11 rfl (by decide) (by decide +kernel) (by decide) (by decide) ?_
  show rn fx (0 + 1) (0, 0) 164 12 [some (.inr (.inr (some 54))), some (.inl 34)] [] sS_233 _
  refine r_sto (pc' := 15) (ls' := [some (.inr (.inr (some 54))), some (.inl 35)]) hM_164 d_164_12 rfl rfl ?_
  refine r_go (pc' := 2) hM_164 d_164_15 (by decide) ?_
  refine r_ld (pc' := 3) hM_164 d_164_2 rfl rfl ?_
  refine r_k (pc' := 5) (v := .inl 56) hM_164 d_164_3 rfl rfl ?_
  refine r_ic (pc' := 18) (pc2 := 8) hM_164 d_164_5 (by decide) rfl (fun hc => absurd hc (show ¬ (am_s 56 ≤ am_s 35) by decide)) (fun _ => ?_)
  refine r_ld (pc' := 9) hM_164 d_164_8 rfl rfl ?_
  refine r_ld (pc' := 10) hM_164 d_164_9 rfl rfl ?_
  refine r_k (pc' := 11) (v := .inl 0) hM_164 d_164_10 rfl rfl ?_
  refine g_is (pc' := 12) (n := 168) (j := 35) hM_164 d_164_11 rfl (by decide) (by decide +kernel) (by decide) (by decide) ?_
  show rn fx (0 + 1) (0, 0) 164 12 [some (.inr (.inr (some 54))), some (.inl 35)] [] sS_234 _
  refine r_sto (pc' := 15) (ls' := [some (.inr (.inr (some 54))), some (.inl 36)]) hM_164 d_164_12 rfl rfl ?_
  refine r_go (pc' := 2) hM_164 d_164_15 (by decide) ?_
  refine r_ld (pc' := 3) hM_164 d_164_2 rfl rfl ?_
  refine r_k (pc' := 5) (v := .inl 56) hM_164 d_164_3 rfl rfl ?_
  refine r_ic (pc' := 18) (pc2 := 8) hM_164 d_164_5 (by decide) rfl (fun hc => absurd hc (show ¬ (am_s 56 ≤ am_s 36) by decide)) (fun _ => ?_)
  refine r_ld (pc' := 9) hM_164 d_164_8 rfl rfl ?_
  refine r_ld (pc' := 10) hM_164 d_164_9 rfl rfl ?_
  refine r_k (pc' := 11) (v := .inl 0) hM_164 d_164_10 rfl rfl ?_
  refine g_is (pc' := 12) (n := 168) (j := 36) hM_164 d_164_11 rfl (by decide) (by decide +kernel) (by decide) (by decide) ?_
  show rn fx (0 + 1) (0, 0) 164 12 [some (.inr (.inr (some 54))), some (.inl 36)] [] sS_235 _
  refine r_sto (pc' := 15) (ls' := [some (.inr (.inr (some 54))), some (.inl 37)]) hM_164 d_164_12 rfl rfl ?_
  refine r_go (pc' := 2) hM_164 d_164_15 (by decide) ?_
  refine r_ld (pc' := 3) hM_164 d_164_2 rfl rfl ?_
  refine r_k (pc' := 5) (v := .inl 56) hM_164 d_164_3 rfl rfl ?_
  refine r_ic (pc' := 18) (pc2 := 8) hM_164 d_164_5 (by decide) rfl (fun hc => absurd hc (show ¬ (am_s 56 ≤ am_s 37) by decide)) (fun _ => ?_)
  refine r_ld (pc' := 9) hM_164 d_164_8 rfl rfl ?_
  refine r_ld (pc' := 10) hM_164 d_164_9 rfl rfl ?_
  refine r_k (pc' := 11) (v := .inl 0) hM_164 d_164_10 rfl rfl ?_
  refine g_is (pc' := 12) (n := 168) (j := 37) hM_164 d_164_11 rfl (by decide) (by decide +kernel) (by decide) (by decide) ?_
  show rn fx (0 + 1) (0, 0) 164 12 [some (.inr (.inr (some 54))), some (.inl 37)] [] sS_236 _
  refine r_sto (pc' := 15) (ls' := [some (.inr (.inr (some 54))), some (.inl 38)]) hM_164 d_164_12 rfl rfl ?_
  refine r_go (pc' := 2) hM_164 d_164_15 (by decide) ?_
  refine r_ld (pc' := 3) hM_164 d_164_2 rfl rfl ?_
  refine r_k (pc' := 5) (v := .inl 56) hM_164 d_164_3 rfl rfl ?_
  refine r_ic (pc' := 18) (pc2 := 8) hM_164 d_164_5 (by decide) rfl (fun hc => absurd hc (show ¬ (am_s 56 ≤ am_s 38) by decide)) (fun _ => ?_)
  refine r_ld (pc' := 9) hM_164 d_164_8 rfl rfl ?_
  refine r_ld (pc' := 10) hM_164 d_164_9 rfl rfl ?_
  refine r_k (pc' := 11) (v := .inl 0) hM_164 d_164_10 rfl rfl ?_
  refine g_is (pc' := 12) (n := 168) (j := 38) hM_164 d_164_11 rfl (by decide) (by decide +kernel) (by decide) (by decide) ?_
  show rn fx (0 + 1) (0, 0) 164 12 [some (.inr (.inr (some 54))), some (.inl 38)] [] sS_237 _
  refine r_sto (pc' := 15) (ls' := [some (.inr (.inr (some 54))), some (.inl 39)]) hM_164 d_164_12 rfl rfl ?_
  refine r_go (pc' := 2) hM_164 d_164_15 (by decide) ?_
  refine r_ld (pc' := 3) hM_164 d_164_2 rfl rfl ?_
  refine r_k (pc' := 5) (v := .inl 56) hM_164 d_164_3 rfl rfl ?_
  refine r_ic (pc' := 18) (pc2 := 8) hM_164 d_164_5 (by decide) rfl (fun hc => absurd hc (show ¬ (am_s 56 ≤ am_s 39) by decide)) (fun _ => ?_)
  refine r_ld (pc' := 9) hM_164 d_164_8 rfl rfl ?_
  refine r_ld (pc' := 10) hM_164 d_164_9 rfl rfl ?_
  refine r_k (pc' := 11) (v := .inl 0) hM_164 d_164_10 rfl rfl ?_
  refine g_is (pc' := 12) (n := 168) (j := 39) hM_164 d_164_11 rfl (by decide) (by decide +kernel) (by decide) (by decide) ?_
  show rn fx (0 + 1) (0, 0) 164 12 [some (.inr (.inr (some 54))), some (.inl 39)] [] sS_238 _
  refine r_sto (pc' := 15) (ls' := [some (.inr (.inr (some 54))), some (.inl 40)]) hM_164 d_164_12 rfl rfl ?_
  refine r_go (pc' := 2) hM_164 d_164_15 (by decide) ?_
  refine r_ld (pc' := 3) hM_164 d_164_2 rfl rfl ?_
  refine r_k (pc' := 5) (v := .inl 56) hM_164 d_164_3 rfl rfl ?_
  refine r_ic (pc' := 18) (pc2 := 8) hM_164 d_164_5 (by decide) rfl (fun hc => absurd hc (show ¬ (am_s 56 ≤ am_s 40) by decide)) (fun _ => ?_)
  refine r_ld (pc' := 9) hM_164 d_164_8 rfl rfl ?_
  refine r_ld (pc' := 10) hM_164 d_164_9 rfl rfl ?_
  refine r_k (pc' := 11) (v := .inl 0) hM_164 d_164_10 rfl rfl ?_
  refine g_is (pc' := 12) (n := 168) (j := 40) hM_164 d_164_11 rfl (by decide) (by decide +kernel) (by decide) (by decide) ?_
  show rn fx (0 + 1) (0, 0) 164 12 [some (.inr (.inr (some 54))), some (.inl 40)] [] sS_239 _
  refine r_sto (pc' := 15) (ls' := [some (.inr (.inr (some 54))), some (.inl 41)]) hM_164 d_164_12 rfl rfl ?_
  refine r_go (pc' := 2) hM_164 d_164_15 (by decide) ?_
  refine r_ld (pc' := 3) hM_164 d_164_2 rfl rfl ?_
  refine r_k (pc' := 5) (v := .inl 56) hM_164 d_164_3 rfl rfl ?_
  refine r_ic (pc' := 18) (pc2 := 8) hM_164 d_164_5 (by decide) rfl (fun hc => absurd hc (show ¬ (am_s 56 ≤ am_s 41) by decide)) (fun _ => ?_)
  refine r_ld (pc' := 9) hM_164 d_164_8 rfl rfl ?_
  refine r_ld (pc' := 10) hM_164 d_164_9 rfl rfl ?_
  refine r_k (pc' := 11) (v := .inl 0) hM_164 d_164_10 rfl rfl ?_
  refine g_is (pc' := 12) (n := 168) (j := 41) hM_164 d_164_11 rfl (by decide) (by decide +kernel) (by decide) (by decide) ?_
  show rn fx (0 + 1) (0, 0) 164 12 [some (.inr (.inr (some 54))), some (.inl 41)] [] sS_240 _
  refine r_sto (pc' := 15) (ls' := [some (.inr (.inr (some 54))), some (.inl 42)]) hM_164 d_164_12 rfl rfl ?_
  refine r_go (pc' := 2) hM_164 d_164_15 (by decide) ?_
  refine r_ld (pc' := 3) hM_164 d_164_2 rfl rfl ?_
  refine r_k (pc' := 5) (v := .inl 56) hM_164 d_164_3 rfl rfl ?_
  refine r_ic (pc' := 18) (pc2 := 8) hM_164 d_164_5 (by decide) rfl (fun hc => absurd hc (show ¬ (am_s 56 ≤ am_s 42) by decide)) (fun _ => ?_)
  refine r_ld (pc' := 9) hM_164 d_164_8 rfl rfl ?_
  refine r_ld (pc' := 10) hM_164 d_164_9 rfl rfl ?_
  refine r_k (pc' := 11) (v := .inl 0) hM_164 d_164_10 rfl rfl ?_
  refine g_is (pc' := 12) (n := 168) (j := 42) hM_164 d_164_11 rfl (by decide) (by decide +kernel) (by decide) (by decide) ?_
  show rn fx (0 + 1) (0, 0) 164 12 [some (.inr (.inr (some 54))), some (.inl 42)] [] sS_241 _
  refine r_sto (pc' := 15) (ls' := [some (.inr (.inr (some 54))), some (.inl 43)]) hM_164 d_164_12 rfl rfl ?_
  refine r_go (pc' := 2) hM_164 d_164_15 (by decide) ?_
  refine r_ld (pc' := 3) hM_164 d_164_2 rfl rfl ?_
  refine r_k (pc' := 5) (v := .inl 56) hM_164 d_164_3 rfl rfl ?_
  refine r_ic (pc' := 18) (pc2 := 8) hM_164 d_164_5 (by decide) rfl (fun hc => absurd hc (show ¬ (am_s 56 ≤ am_s 43) by decide)) (fun _ => ?_)
  refine r_ld (pc' := 9) hM_164 d_164_8 rfl rfl ?_
  refine r_ld (pc' := 10) hM_164 d_164_9 rfl rfl ?_
  refine r_k (pc' := 11) (v := .inl 0) hM_164 d_164_10 rfl rfl ?_
  refine g_is (pc' := 12) (n := 168) (j := 43) hM_164 d_164_11 rfl (by decide) (by decide +kernel) (by decide) (by decide) ?_
  show rn fx (0 + 1) (0, 0) 164 12 [some (.inr (.inr (some 54))), some (.inl 43)] [] sS_242 _
  refine r_sto (pc' := 15) (ls' := [some (.inr (.inr (some 54))), some (.inl 44)]) hM_164 d_164_12 rfl rfl ?_
  refine r_go (pc' := 2) hM_164 d_164_15 (by decide) ?_
  refine r_ld (pc' := 3) hM_164 d_164_2 rfl rfl ?_
  refine r_k (pc' := 5) (v := .inl 56) hM_164 d_164_3 rfl rfl ?_
  refine r_ic (pc' := 18) (pc2 := 8) hM_164 d_164_5 (by decide) rfl (fun hc => absurd hc (show ¬ (am_s 56 ≤ am_s 44) by decide)) (fun _ => ?_)
  refine r_ld (pc' := 9) hM_164 d_164_8 rfl rfl ?_
  refine r_ld (pc' := 10) hM_164 d_164_9 rfl rfl ?_
  refine r_k (pc' := 11) (v := .inl 0) hM_164 d_164_10 rfl rfl ?_
  refine g_is (pc' := 12) (n := 168) (j := 44) hM_164 d_164_11 rfl (by decide) (by decide +kernel) (by decide) (by decide) ?_
  show rn fx (0 + 1) (0, 0) 164 12 [some (.inr (.inr (some 54))), some (.inl 44)] [] sS_243 _
  refine r_sto (pc' := 15) (ls' := [some (.inr (.inr (some 54))), some (.inl 45)]) hM_164 d_164_12 rfl rfl ?_
  refine r_go (pc' := 2) hM_164 d_164_15 (by decide) ?_
  refine r_ld (pc' := 3) hM_164 d_164_2 rfl rfl ?_
  refine r_k (pc' := 5) (v := .inl 56) hM_164 d_164_3 rfl rfl ?_
  refine r_ic (pc' := 18) (pc2 := 8) hM_164 d_164_5 (by decide) rfl (fun hc => absurd hc (show ¬ (am_s 56 ≤ am_s 45) by decide)) (fun _ => ?_)
  refine r_ld (pc' := 9) hM_164 d_164_8 rfl rfl ?_
  refine r_ld (pc' := 10) hM_164 d_164_9 rfl rfl ?_
  refine r_k (pc' := 11) (v := .inl 0) hM_164 d_164_10 rfl rfl ?_
  refine g_is (pc' := 12) (n := 168) (j := 45) hM_164 d_164_11 rfl (by decide) (by decide +kernel) (by decide) (by decide) ?_
  show rn fx (0 + 1) (0, 0) 164 12 [some (.inr (.inr (some 54))), some (.inl 45)] [] sS_244 _
  refine r_sto (pc' := 15) (ls' := [some (.inr (.inr (some 54))), some (.inl 46)]) hM_164 d_164_12 rfl rfl ?_
  refine r_go (pc' := 2) hM_164 d_164_15 (by decide) ?_
  refine r_ld (pc' := 3) hM_164 d_164_2 rfl rfl ?_
  refine r_k (pc' := 5) (v := .inl 56) hM_164 d_164_3 rfl rfl ?_
  refine r_ic (pc' := 18) (pc2 := 8) hM_164 d_164_5 (by decide) rfl (fun hc => absurd hc (show ¬ (am_s 56 ≤ am_s 46) by decide)) (fun _ => ?_)
  refine r_ld (pc' := 9) hM_164 d_164_8 rfl rfl ?_
  refine r_ld (pc' := 10) hM_164 d_164_9 rfl rfl ?_
  refine r_k (pc' := 11) (v := .inl 0) hM_164 d_164_10 rfl rfl ?_
  refine g_is (pc' := 12) (n := 168) (j := 46) hM_164 d_164_11 rfl (by decide) (by decide +kernel) (by decide) (by decide) ?_
  show rn fx (0 + 1) (0, 0) 164 12 [some (.inr (.inr (some 54))), some (.inl 46)] [] sS_245 _
  refine r_sto (pc' := 15) (ls' := [some (.inr (.inr (some 54))), some (.inl 47)]) hM_164 d_164_12 rfl rfl ?_
  refine r_go (pc' := 2) hM_164 d_164_15 (by decide) ?_
  refine r_ld (pc' := 3) hM_164 d_164_2 rfl rfl ?_
  refine r_k (pc' := 5) (v := .inl 56) hM_164 d_164_3 rfl rfl ?_
  refine r_ic (pc' := 18) (pc2 := 8) hM_164 d_164_5 (by decide) rfl (fun hc => absurd hc (show ¬ (am_s 56 ≤ am_s 47) by decide)) (fun _ => ?_)
  refine r_ld (pc' := 9) hM_164 d_164_8 rfl rfl ?_
  refine r_ld (pc' := 10) hM_164 d_164_9 rfl rfl ?_
  refine r_k (pc' := 11) (v := .inl 0) hM_164 d_164_10 rfl rfl ?_
  refine g_is (pc' := 12) (n := 168) (j := 47) hM_164 d_164_11 rfl (by decide) (by decide +kernel) (by decide) (by decide) ?_
  show rn fx (0 + 1) (0, 0) 164 12 [some (.inr (.inr (some 54))), some (.inl 47)] [] sS_246 _
  refine r_sto (pc' := 15) (ls' := [some (.inr (.inr (some 54))), some (.inl 48)]) hM_164 d_164_12 rfl rfl ?_
  refine r_go (pc' := 2) hM_164 d_164_15 (by decide) ?_
  refine r_ld (pc' := 3) hM_164 d_164_2 rfl rfl ?_
  refine r_k (pc' := 5) (v := .inl 56) hM_164 d_164_3 rfl rfl ?_
  refine r_ic (pc' := 18) (pc2 := 8) hM_164 d_164_5 (by decide) rfl (fun hc => absurd hc (show ¬ (am_s 56 ≤ am_s 48) by decide)) (fun _ => ?_)
  refine r_ld (pc' := 9) hM_164 d_164_8 rfl rfl ?_
  refine r_ld (pc' := 10) hM_164 d_164_9 rfl rfl ?_
  refine r_k (pc' := 11) (v := .inl 0) hM_164 d_164_10 rfl rfl ?_
  refine g_is (pc' := 12) (n := 168) (j := 48) hM_164 d_164_11 rfl (by decide) (by decide +kernel) (by decide) (by decide) ?_
  show rn fx (0 + 1) (0, 0) 164 12 [some (.inr (.inr (some 54))), some (.inl 48)] [] sS_247 _
  refine r_sto (pc' := 15) (ls' := [some (.inr (.inr (some 54))), some (.inl 49)]) hM_164 d_164_12 rfl rfl ?_
  refine r_go (pc' := 2) hM_164 d_164_15 (by decide) ?_
  refine r_ld (pc' := 3) hM_164 d_164_2 rfl rfl ?_
  refine r_k (pc' := 5) (v := .inl 56) hM_164 d_164_3 rfl rfl ?_
  refine r_ic (pc' := 18) (pc2 := 8) hM_164 d_164_5 (by decide) rfl (fun hc => absurd hc (show ¬ (am_s 56 ≤ am_s 49) by decide)) (fun _ => ?_)
  refine r_ld (pc' := 9) hM_164 d_164_8 rfl rfl ?_
  refine r_ld (pc' := 10) hM_164 d_164_9 rfl rfl ?_
  refine r_k (pc' := 11) (v := .inl 0) hM_164 d_164_10 rfl rfl ?_
  refine g_is (pc' := 12) (n := 168) (j := 49) hM_164 d_164_11 rfl (by decide) (by decide +kernel) (by decide) (by decide) ?_
  show rn fx (0 + 1) (0, 0) 164 12 [some (.inr (.inr (some 54))), some (.inl 49)] [] sS_248 _
  refine r_sto (pc' := 15) (ls' := [some (.inr (.inr (some 54))), some (.inl 50)]) hM_164 d_164_12 rfl rfl ?_
  refine r_go (pc' := 2) hM_164 d_164_15 (by decide) ?_
  refine r_ld (pc' := 3) hM_164 d_164_2 rfl rfl ?_
  refine r_k (pc' := 5) (v := .inl 56) hM_164 d_164_3 rfl rfl ?_
  refine r_ic (pc' := 18) (pc2 := 8) hM_164 d_164_5 (by decide) rfl (fun hc => absurd hc (show ¬ (am_s 56 ≤ am_s 50) by decide)) (fun _ => ?_)
  refine r_ld (pc' := 9) hM_164 d_164_8 rfl rfl ?_
  refine r_ld (pc' := 10) hM_164 d_164_9 rfl rfl ?_
  refine r_k (pc' := 11) (v := .inl 0) hM_164 d_164_10 rfl rfl ?_
  refine g_is (pc' := 12) (n := 168) (j := 50) hM_164 d_164_11 rfl (by decide) (by decide +kernel) (by decide) (by decide) ?_
  show rn fx (0 + 1) (0, 0) 164 12 [some (.inr (.inr (some 54))), some (.inl 50)] [] sS_249 _
  refine r_sto (pc' := 15) (ls' := [some (.inr (.inr (some 54))), some (.inl 51)]) hM_164 d_164_12 rfl rfl ?_
  refine r_go (pc' := 2) hM_164 d_164_15 (by decide) ?_
  refine r_ld (pc' := 3) hM_164 d_164_2 rfl rfl ?_
  refine r_k (pc' := 5) (v := .inl 56) hM_164 d_164_3 rfl rfl ?_
  refine r_ic (pc' := 18) (pc2 := 8) hM_164 d_164_5 (by decide) rfl (fun hc => absurd hc (show ¬ (am_s 56 ≤ am_s 51) by decide)) (fun _ => ?_)
  refine r_ld (pc' := 9) hM_164 d_164_8 rfl rfl ?_
  refine r_ld (pc' := 10) hM_164 d_164_9 rfl rfl ?_
  refine r_k (pc' := 11) (v := .inl 0) hM_164 d_164_10 rfl rfl ?_
  refine g_is (pc' := 12) (n := 168) (j := 51) hM_164 d_164_11 rfl (by decide) (by decide +kernel) (by decide) (by decide) ?_
  show rn fx (0 + 1) (0, 0) 164 12 [some (.inr (.inr (some 54))), some (.inl 51)] [] sS_250 _
  refine r_sto (pc' := 15) (ls' := [some (.inr (.inr (some 54))), some (.inl 52)]) hM_164 d_164_12 rfl rfl ?_
  refine r_go (pc' := 2) hM_164 d_164_15 (by decide) ?_
  refine r_ld (pc' := 3) hM_164 d_164_2 rfl rfl ?_
  refine r_k (pc' := 5) (v := .inl 56) hM_164 d_164_3 rfl rfl ?_
  refine r_ic (pc' := 18) (pc2 := 8) hM_164 d_164_5 (by decide) rfl (fun hc => absurd hc (show ¬ (am_s 56 ≤ am_s 52) by decide)) (fun _ => ?_)
  refine r_ld (pc' := 9) hM_164 d_164_8 rfl rfl ?_
  refine r_ld (pc' := 10) hM_164 d_164_9 rfl rfl ?_
  refine r_k (pc' := 11) (v := .inl 0) hM_164 d_164_10 rfl rfl ?_
  refine g_is (pc' := 12) (n := 168) (j := 52) hM_164 d_164_11 rfl (by decide) (by decide +kernel) (by decide) (by decide) ?_
  show rn fx (0 + 1) (0, 0) 164 12 [some (.inr (.inr (some 54))), some (.inl 52)] [] sS_251 _
  refine r_sto (pc' := 15) (ls' := [some (.inr (.inr (some 54))), some (.inl 53)]) hM_164 d_164_12 rfl rfl ?_
  refine r_go (pc' := 2) hM_164 d_164_15 (by decide) ?_
  refine r_ld (pc' := 3) hM_164 d_164_2 rfl rfl ?_
  refine r_k (pc' := 5) (v := .inl 56) hM_164 d_164_3 rfl rfl ?_
  refine r_ic (pc' := 18) (pc2 := 8) hM_164 d_164_5 (by decide) rfl (fun hc => absurd hc (show ¬ (am_s 56 ≤ am_s 53) by decide)) (fun _ => ?_)
  refine r_ld (pc' := 9) hM_164 d_164_8 rfl rfl ?_
  refine r_ld (pc' := 10) hM_164 d_164_9 rfl rfl ?_
  refine r_k (pc' := 11) (v := .inl 0) hM_164 d_164_10 rfl rfl ?_
  refine g_is (pc' := 12) (n := 168) (j := 53) hM_164 d_164_11 rfl (by decide) (by decide +kernel) (by decide) (by decide) ?_
  show rn fx (0 + 1) (0, 0) 164 12 [some (.inr (.inr (some 54))), some (.inl 53)] [] sS_252 _
  refine r_sto (pc' := 15) (ls' := [some (.inr (.inr (some 54))), some (.inl 54)]) hM_164 d_164_12 rfl rfl ?_
  refine r_go (pc' := 2) hM_164 d_164_15 (by decide) ?_
  refine r_ld (pc' := 3) hM_164 d_164_2 rfl rfl ?_
  refine r_k (pc' := 5) (v := .inl 56) hM_164 d_164_3 rfl rfl ?_
  refine r_ic (pc' := 18) (pc2 := 8) hM_164 d_164_5 (by decide) rfl (fun hc => absurd hc (show ¬ (am_s 56 ≤ am_s 54) by decide)) (fun _ => ?_)
  refine r_ld (pc' := 9) hM_164 d_164_8 rfl rfl ?_
  refine r_ld (pc' := 10) hM_164 d_164_9 rfl rfl ?_
  refine r_k (pc' := 11) (v := .inl 0) hM_164 d_164_10 rfl rfl ?_
  refine g_is (pc' := 12) (n := 168) (j := 54) hM_164 d_164_11 rfl (by decide) (by decide +kernel) (by decide) (by decide) ?_
  show rn fx (0 + 1) (0, 0) 164 12 [some (.inr (.inr (some 54))), some (.inl 54)] [] sS_253 _
  refine r_sto (pc' := 15) (ls' := [some (.inr (.inr (some 54))), some (.inl 55)]) hM_164 d_164_12 rfl rfl ?_
  refine r_go (pc' := 2) hM_164 d_164_15 (by decide) ?_
  refine r_ld (pc' := 3) hM_164 d_164_2 rfl rfl ?_
  refine r_k (pc' := 5) (v := .inl 56) hM_164 d_164_3 rfl rfl ?_
  refine r_ic (pc' := 18) (pc2 := 8) hM_164 d_164_5 (by decide) rfl (fun hc => absurd hc (show ¬ (am_s 56 ≤ am_s 55) by decide)) (fun _ => ?_)
  refine r_ld (pc' := 9) hM_164 d_164_8 rfl rfl ?_
  refine r_ld (pc' := 10) hM_164 d_164_9 rfl rfl ?_
  refine r_k (pc' := 11) (v := .inl 0) hM_164 d_164_10 rfl rfl ?_
  refine g_is (pc' := 12) (n := 168) (j := 55) hM_164 d_164_11 rfl (by decide) (by decide +kernel) (by decide) (by decide) ?_
  show rn fx (0 + 1) (0, 0) 164 12 [some (.inr (.inr (some 54))), some (.inl 55)] [] sS_254 _
  refine r_sto (pc' := 15) (ls' := [some (.inr (.inr (some 54))), some (.inl 56)]) hM_164 d_164_12 rfl rfl ?_
  refine r_go (pc' := 2) hM_164 d_164_15 (by decide) ?_
  refine r_ld (pc' := 3) hM_164 d_164_2 rfl rfl ?_
  refine r_k (pc' := 5) (v := .inl 56) hM_164 d_164_3 rfl rfl ?_
  refine r_ic (pc' := 18) (pc2 := 8) hM_164 d_164_5 (by decide) rfl (fun _ => ?_) (fun hc => absurd (show am_s 56 ≤ am_s 56 by decide) hc)
  refine r_ld (pc' := 19) hM_164 d_164_18 rfl rfl ?_
  refine r_k (pc' := 20) (v := .inl 2) hM_164 d_164_19 rfl rfl ?_
  refine r_k (pc' := 22) (v := .inl 15) hM_164 d_164_20 rfl rfl ?_
  refine g_is (pc' := 23) (n := 168) (j := 2) hM_164 d_164_22 rfl (by decide) (by decide +kernel) (by decide) (by decide) ?_
  show rn fx (0 + 1) (0, 0) 164 23 [some (.inr (.inr (some 54))), some (.inl 56)] [] sS_255 _
  refine r_ld (pc' := 24) hM_164 d_164_23 rfl rfl ?_
  refine r_k (pc' := 25) (v := .inl 3) hM_164 d_164_24 rfl rfl ?_
  refine r_k (pc' := 26) (v := .inl 4) hM_164 d_164_25 rfl rfl ?_
  refine g_is (pc' := 27) (n := 168) (j := 3) hM_164 d_164_26 rfl (by decide) (by decide +kernel) (by decide) (by decide) ?_
  show rn fx (0 + 1) (0, 0) 164 27 [some (.inr (.inr (some 54))), some (.inl 56)] [] sS_256 _
  refine r_ld (pc' := 28) hM_164 d_164_27 rfl rfl ?_
  refine r_k (pc' := 29) (v := .inl 4) hM_164 d_164_28 rfl rfl ?_
  refine r_k (pc' := 31) (v := .inl 12) hM_164 d_164_29 rfl rfl ?_
  refine g_is (pc' := 32) (n := 168) (j := 4) hM_164 d_164_31 rfl (by decide) (by decide +kernel) (by decide) (by decide) ?_
  show rn fx (0 + 1) (0, 0) 164 32 [some (.inr (.inr (some 54))), some (.inl 56)] [] sS_257 _
  refine r_ld (pc' := 33) hM_164 d_164_32 rfl rfl ?_
  refine r_k (pc' := 34) (v := .inl 5) hM_164 d_164_33 rfl rfl ?_
  refine r_k (pc' := 35) (v := .inl 3) hM_164 d_164_34 rfl rfl ?_
  refine g_is (pc' := 36) (n := 168) (j := 5) hM_164 d_164_35 rfl (by decide) (by decide +kernel) (by decide) (by decide) ?_
  show rn fx (0 + 1) (0, 0) 164 36 [some (.inr (.inr (some 54))), some (.inl 56)] [] sS_258 _
  exact rt_v hM_164 d_164_36 rfl
theorem mk_20 {fx : am_X0} : rn fx 3 (22, 300000) 163 0 (am_ent 1 [.inr (.inr (some 53))]) [] sS_149 ([], sS_258) := by
  show rn fx (2 + 1) (22, 300000) 163 0 [some (.inr (.inr (some 53)))] [] sS_149 _
  refine r_ld (pc' := 1) hM_163 d_163_0 rfl rfl ?_
  refine rn_obj hM_163 d_163_1 (by decide +kernel) (by decide) (by decide) ?_
  show rn fx (2 + 1) (22, 300000) 163 4 [some (.inr (.inr (some 53)))] [] sS_149 _
  refine r_ld (pc' := 5) hM_163 d_163_4 rfl rfl ?_
  refine r_k (pc' := 8) (v := .inl 168) hM_163 d_163_5 rfl rfl ?_
  refine g_na (pc' := 10) (n := 168) (at' := 100) (t := 54) hM_163 d_163_8 rfl (by decide) (by decide) rfl (by decide) (by decide +kernel) (by decide) (by decide) (by decide) ?_
  show rn fx (2 + 1) (21, 299832) 163 10 [some (.inr (.inr (some 53)))] [.inr (.inr (some 54)), .inr (.inr (some 53))] sS_150 _
  refine g_pR (pc' := 13) (ci := 8) (kk := 1) (n := 40) hM_163 d_163_10 rfl (by decide +kernel) (by decide +kernel) (by decide) (by decide +kernel) rfl (by decide) (by decide +kernel) ?_
  show rn fx (2 + 1) (21, 299832) 163 13 [some (.inr (.inr (some 53)))] [] sS_151 _
  refine r_ld (pc' := 14) hM_163 d_163_13 rfl rfl ?_
  refine r_k (pc' := 15) (v := .inl 2) hM_163 d_163_14 rfl rfl ?_
  refine g_na (pc' := 17) (n := 2) (at' := 103) (t := 55) hM_163 d_163_15 rfl (by decide) (by decide) rfl (by decide) (by decide +kernel) (by decide) (by decide) (by decide) ?_
  show rn fx (2 + 1) (20, 299830) 163 17 [some (.inr (.inr (some 53)))] [.inr (.inr (some 55)), .inr (.inr (some 53))] sS_152 _
  refine g_pR (pc' := 20) (ci := 8) (kk := 2) (n := 40) hM_163 d_163_17 rfl (by decide +kernel) (by decide +kernel) (by decide) (by decide +kernel) rfl (by decide) (by decide +kernel) ?_
  show rn fx (2 + 1) (20, 299830) 163 20 [some (.inr (.inr (some 53)))] [] sS_153 _
  refine r_ld (pc' := 21) hM_163 d_163_20 rfl rfl ?_
  refine r_k (pc' := 24) (v := .inl 900) hM_163 d_163_21 rfl rfl ?_
  refine g_na (pc' := 26) (n := 900) (at' := 100) (t := 56) hM_163 d_163_24 rfl (by decide) (by decide) rfl (by decide) (by decide +kernel) (by decide) (by decide) (by decide) ?_
  show rn fx (2 + 1) (19, 298930) 163 26 [some (.inr (.inr (some 53)))] [.inr (.inr (some 56)), .inr (.inr (some 53))] sS_154 _
  refine g_pR (pc' := 29) (ci := 8) (kk := 3) (n := 40) hM_163 d_163_26 rfl (by decide +kernel) (by decide +kernel) (by decide) (by decide +kernel) rfl (by decide) (by decide +kernel) ?_
  show rn fx (2 + 1) (19, 298930) 163 29 [some (.inr (.inr (some 53)))] [] sS_155 _
  refine r_ld (pc' := 30) hM_163 d_163_29 rfl rfl ?_
  refine r_k (pc' := 32) (v := .inl 56) hM_163 d_163_30 rfl rfl ?_
  refine g_na (pc' := 34) (n := 56) (at' := 100) (t := 57) hM_163 d_163_32 rfl (by decide) (by decide) rfl (by decide) (by decide +kernel) (by decide) (by decide) (by decide) ?_
  show rn fx (2 + 1) (18, 298874) 163 34 [some (.inr (.inr (some 53)))] [.inr (.inr (some 57)), .inr (.inr (some 53))] sS_156 _
  refine g_pR (pc' := 37) (ci := 8) (kk := 4) (n := 40) hM_163 d_163_34 rfl (by decide +kernel) (by decide +kernel) (by decide) (by decide +kernel) rfl (by decide) (by decide +kernel) ?_
  show rn fx (2 + 1) (18, 298874) 163 37 [some (.inr (.inr (some 53)))] [] sS_157 _
  refine r_ld (pc' := 38) hM_163 d_163_37 rfl rfl ?_
  refine r_k (pc' := 39) (v := .inl (-1)) hM_163 d_163_38 rfl rfl ?_
  refine g_pI (pc' := 42) (ci := 8) (kk := 14) (n := 40) hM_163 d_163_39 rfl (by decide +kernel) (by decide +kernel) (by decide) (by decide +kernel) (by decide +kernel) ?_
  show rn fx (2 + 1) (18, 298874) 163 42 [some (.inr (.inr (some 53)))] [] sS_158 _
  refine r_ld (pc' := 43) hM_163 d_163_42 rfl rfl ?_
  refine r_k (pc' := 45) (v := .inl 56) hM_163 d_163_43 rfl rfl ?_
  refine g_na (pc' := 47) (n := 56) (at' := 100) (t := 58) hM_163 d_163_45 rfl (by decide) (by decide) rfl (by decide) (by decide +kernel) (by decide) (by decide) (by decide) ?_
  show rn fx (2 + 1) (17, 298818) 163 47 [some (.inr (.inr (some 53)))] [.inr (.inr (some 58)), .inr (.inr (some 53))] sS_159 _
  refine g_pR (pc' := 50) (ci := 8) (kk := 15) (n := 40) hM_163 d_163_47 rfl (by decide +kernel) (by decide +kernel) (by decide) (by decide +kernel) rfl (by decide) (by decide +kernel) ?_
  show rn fx (2 + 1) (17, 298818) 163 50 [some (.inr (.inr (some 53)))] [] sS_160 _
  refine r_ld (pc' := 51) hM_163 d_163_50 rfl rfl ?_
  refine r_k (pc' := 54) (v := .inl 4096) hM_163 d_163_51 rfl rfl ?_
  refine g_na (pc' := 56) (n := 4096) (at' := 100) (t := 59) hM_163 d_163_54 rfl (by decide) (by decide) rfl (by decide) (by decide +kernel) (by decide) (by decide) (by decide) ?_
  show rn fx (2 + 1) (16, 294722) 163 56 [some (.inr (.inr (some 53)))] [.inr (.inr (some 59)), .inr (.inr (some 53))] sS_161 _
  refine g_pR (pc' := 59) (ci := 8) (kk := 18) (n := 40) hM_163 d_163_56 rfl (by decide +kernel) (by decide +kernel) (by decide) (by decide +kernel) rfl (by decide) (by decide +kernel) ?_
  show rn fx (2 + 1) (16, 294722) 163 59 [some (.inr (.inr (some 53)))] [] sS_162 _
  refine r_ld (pc' := 60) hM_163 d_163_59 rfl rfl ?_
  refine r_k (pc' := 63) (v := .inl 256) hM_163 d_163_60 rfl rfl ?_
  refine g_na (pc' := 65) (n := 256) (at' := 100) (t := 60) hM_163 d_163_63 rfl (by decide) (by decide) rfl (by decide) (by decide +kernel) (by decide) (by decide) (by decide) ?_
  show rn fx (2 + 1) (15, 294466) 163 65 [some (.inr (.inr (some 53)))] [.inr (.inr (some 60)), .inr (.inr (some 53))] sS_163 _
  refine g_pR (pc' := 68) (ci := 8) (kk := 20) (n := 40) hM_163 d_163_65 rfl (by decide +kernel) (by decide +kernel) (by decide) (by decide +kernel) rfl (by decide) (by decide +kernel) ?_
  show rn fx (2 + 1) (15, 294466) 163 68 [some (.inr (.inr (some 53)))] [] sS_164 _
  refine r_ld (pc' := 69) hM_163 d_163_68 rfl rfl ?_
  refine r_k (pc' := 72) (v := .inl 4096) hM_163 d_163_69 rfl rfl ?_
  refine g_na (pc' := 74) (n := 4096) (at' := 103) (t := 61) hM_163 d_163_72 rfl (by decide) (by decide) rfl (by decide) (by decide +kernel) (by decide) (by decide) (by decide) ?_
  show rn fx (2 + 1) (14, 290370) 163 74 [some (.inr (.inr (some 53)))] [.inr (.inr (some 61)), .inr (.inr (some 53))] sS_165 _
  refine g_pR (pc' := 77) (ci := 8) (kk := 22) (n := 40) hM_163 d_163_74 rfl (by decide +kernel) (by decide +kernel) (by decide) (by decide +kernel) rfl (by decide) (by decide +kernel) ?_
  show rn fx (2 + 1) (14, 290370) 163 77 [some (.inr (.inr (some 53)))] [] sS_166 _
  refine r_ld (pc' := 78) hM_163 d_163_77 rfl rfl ?_
  refine r_k (pc' := 81) (v := .inl 1024) hM_163 d_163_78 rfl rfl ?_
  refine g_na (pc' := 83) (n := 1024) (at' := 100) (t := 62) hM_163 d_163_81 rfl (by decide) (by decide) rfl (by decide) (by decide +kernel) (by decide) (by decide) (by decide) ?_
  show rn fx (2 + 1) (13, 289346) 163 83 [some (.inr (.inr (some 53)))] [.inr (.inr (some 62)), .inr (.inr (some 53))] sS_167 _
  refine g_pR (pc' := 86) (ci := 8) (kk := 23) (n := 40) hM_163 d_163_83 rfl (by decide +kernel) (by decide +kernel) (by decide) (by decide +kernel) rfl (by decide) (by decide +kernel) ?_
  show rn fx (2 + 1) (13, 289346) 163 86 [some (.inr (.inr (some 53)))] [] sS_168 _
  refine r_ld (pc' := 87) hM_163 d_163_86 rfl rfl ?_
  refine r_k (pc' := 88) (v := .inl 5) hM_163 d_163_87 rfl rfl ?_
  refine g_na (pc' := 90) (n := 5) (at' := 100) (t := 63) hM_163 d_163_88 rfl (by decide) (by decide) rfl (by decide) (by decide +kernel) (by decide) (by decide) (by decide) ?_
  show rn fx (2 + 1) (12, 289341) 163 90 [some (.inr (.inr (some 53)))] [.inr (.inr (some 63)), .inr (.inr (some 53))] sS_169 _
  refine g_pR (pc' := 93) (ci := 8) (kk := 24) (n := 40) hM_163 d_163_90 rfl (by decide +kernel) (by decide +kernel) (by decide) (by decide +kernel) rfl (by decide) (by decide +kernel) ?_
  show rn fx (2 + 1) (12, 289341) 163 93 [some (.inr (.inr (some 53)))] [] sS_170 _
  refine r_ld (pc' := 94) hM_163 d_163_93 rfl rfl ?_
  refine r_k (pc' := 95) (v := .inl 5) hM_163 d_163_94 rfl rfl ?_
  refine g_na (pc' := 97) (n := 5) (at' := 100) (t := 64) hM_163 d_163_95 rfl (by decide) (by decide) rfl (by decide) (by decide +kernel) (by decide) (by decide) (by decide) ?_
  show rn fx (2 + 1) (11, 289336) 163 97 [some (.inr (.inr (some 53)))] [.inr (.inr (some 64)), .inr (.inr (some 53))] sS_171 _
  refine g_pR (pc' := 100) (ci := 8) (kk := 25) (n := 40) hM_163 d_163_97 rfl (by decide +kernel) (by decide +kernel) (by decide) (by decide +kernel) rfl (by decide) (by decide +kernel) ?_
  show rn fx (2 + 1) (11, 289336) 163 100 [some (.inr (.inr (some 53)))] [] sS_172 _
  refine r_ld (pc' := 101) hM_163 d_163_100 rfl rfl ?_
  refine r_k (pc' := 102) (v := .inl 5) hM_163 d_163_101 rfl rfl ?_
  refine g_na (pc' := 104) (n := 5) (at' := 100) (t := 65) hM_163 d_163_102 rfl (by decide) (by decide) rfl (by decide) (by decide +kernel) (by decide) (by decide) (by decide) ?_
  show rn fx (2 + 1) (10, 289331) 163 104 [some (.inr (.inr (some 53)))] [.inr (.inr (some 65)), .inr (.inr (some 53))] sS_173 _
  refine g_pR (pc' := 107) (ci := 8) (kk := 26) (n := 40) hM_163 d_163_104 rfl (by decide +kernel) (by decide +kernel) (by decide) (by decide +kernel) rfl (by decide) (by decide +kernel) ?_
  show rn fx (2 + 1) (10, 289331) 163 107 [some (.inr (.inr (some 53)))] [] sS_174 _
  refine r_ld (pc' := 108) hM_163 d_163_107 rfl rfl ?_
  refine r_k (pc' := 110) (v := .inl 134456) hM_163 d_163_108 rfl (by decide +kernel) ?_
  refine g_na (pc' := 112) (n := 134456) (at' := 102) (t := 66) hM_163 d_163_110 rfl (by decide) (by decide) rfl (by decide) (by decide +kernel) (by decide) (by decide) (by decide) ?_
  show rn fx (2 + 1) (9, 154875) 163 112 [some (.inr (.inr (some 53)))] [.inr (.inr (some 66)), .inr (.inr (some 53))] sS_175 _
  refine g_pR (pc' := 115) (ci := 8) (kk := 28) (n := 40) hM_163 d_163_112 rfl (by decide +kernel) (by decide +kernel) (by decide) (by decide +kernel) rfl (by decide) (by decide +kernel) ?_
  show rn fx (2 + 1) (9, 154875) 163 115 [some (.inr (.inr (some 53)))] [] sS_176 _
  refine r_ld (pc' := 116) hM_163 d_163_115 rfl rfl ?_
  refine r_k (pc' := 119) (v := .inl 16807) hM_163 d_163_116 rfl rfl ?_
  refine g_na (pc' := 121) (n := 16807) (at' := 103) (t := 67) hM_163 d_163_119 rfl (by decide) (by decide) rfl (by decide) (by decide +kernel) (by decide) (by decide) (by decide) ?_
  show rn fx (2 + 1) (8, 138068) 163 121 [some (.inr (.inr (some 53)))] [.inr (.inr (some 67)), .inr (.inr (some 53))] sS_177 _
  refine g_pR (pc' := 124) (ci := 8) (kk := 29) (n := 40) hM_163 d_163_121 rfl (by decide +kernel) (by decide +kernel) (by decide) (by decide +kernel) rfl (by decide) (by decide +kernel) ?_
  show rn fx (2 + 1) (8, 138068) 163 124 [some (.inr (.inr (some 53)))] [] sS_178 _
  refine r_ld (pc' := 125) hM_163 d_163_124 rfl rfl ?_
  refine r_k (pc' := 128) (v := .inl 16807) hM_163 d_163_125 rfl rfl ?_
  refine g_na (pc' := 130) (n := 16807) (at' := 103) (t := 68) hM_163 d_163_128 rfl (by decide) (by decide) rfl (by decide) (by decide +kernel) (by decide) (by decide) (by decide) ?_
  show rn fx (2 + 1) (7, 121261) 163 130 [some (.inr (.inr (some 53)))] [.inr (.inr (some 68)), .inr (.inr (some 53))] sS_179 _
  refine g_pR (pc' := 133) (ci := 8) (kk := 30) (n := 40) hM_163 d_163_130 rfl (by decide +kernel) (by decide +kernel) (by decide) (by decide +kernel) rfl (by decide) (by decide +kernel) ?_
  show rn fx (2 + 1) (7, 121261) 163 133 [some (.inr (.inr (some 53)))] [] sS_180 _
  refine r_ld (pc' := 134) hM_163 d_163_133 rfl rfl ?_
  refine r_k (pc' := 136) (v := .inl 12) hM_163 d_163_134 rfl rfl ?_
  refine g_na (pc' := 138) (n := 12) (at' := 100) (t := 69) hM_163 d_163_136 rfl (by decide) (by decide) rfl (by decide) (by decide +kernel) (by decide) (by decide) (by decide) ?_
  show rn fx (2 + 1) (6, 121249) 163 138 [some (.inr (.inr (some 53)))] [.inr (.inr (some 69)), .inr (.inr (some 53))] sS_181 _
  refine g_pR (pc' := 141) (ci := 8) (kk := 31) (n := 40) hM_163 d_163_138 rfl (by decide +kernel) (by decide +kernel) (by decide) (by decide +kernel) rfl (by decide) (by decide +kernel) ?_
  show rn fx (2 + 1) (6, 121249) 163 141 [some (.inr (.inr (some 53)))] [] sS_182 _
  refine r_ld (pc' := 142) hM_163 d_163_141 rfl rfl ?_
  refine r_k (pc' := 144) (v := .inl 45056) hM_163 d_163_142 rfl (by decide +kernel) ?_
  refine g_na (pc' := 146) (n := 45056) (at' := 100) (t := 70) hM_163 d_163_144 rfl (by decide) (by decide) rfl (by decide) (by decide +kernel) (by decide) (by decide) (by decide) ?_
  show rn fx (2 + 1) (5, 76193) 163 146 [some (.inr (.inr (some 53)))] [.inr (.inr (some 70)), .inr (.inr (some 53))] sS_183 _
  refine g_pR (pc' := 149) (ci := 8) (kk := 32) (n := 40) hM_163 d_163_146 rfl (by decide +kernel) (by decide +kernel) (by decide) (by decide +kernel) rfl (by decide) (by decide +kernel) ?_
  show rn fx (2 + 1) (5, 76193) 163 149 [some (.inr (.inr (some 53)))] [] sS_184 _
  refine r_ld (pc' := 150) hM_163 d_163_149 rfl rfl ?_
  refine r_k (pc' := 152) (v := .inl 12) hM_163 d_163_150 rfl rfl ?_
  refine g_na (pc' := 154) (n := 12) (at' := 100) (t := 71) hM_163 d_163_152 rfl (by decide) (by decide) rfl (by decide) (by decide +kernel) (by decide) (by decide) (by decide) ?_
  show rn fx (2 + 1) (4, 76181) 163 154 [some (.inr (.inr (some 53)))] [.inr (.inr (some 71)), .inr (.inr (some 53))] sS_185 _
  refine g_pR (pc' := 157) (ci := 8) (kk := 33) (n := 40) hM_163 d_163_154 rfl (by decide +kernel) (by decide +kernel) (by decide) (by decide +kernel) rfl (by decide) (by decide +kernel) ?_
  show rn fx (2 + 1) (4, 76181) 163 157 [some (.inr (.inr (some 53)))] [] sS_186 _
  refine r_ld (pc' := 158) hM_163 d_163_157 rfl rfl ?_
  refine r_k (pc' := 160) (v := .inl 12) hM_163 d_163_158 rfl rfl ?_
  refine g_na (pc' := 162) (n := 12) (at' := 100) (t := 72) hM_163 d_163_160 rfl (by decide) (by decide) rfl (by decide) (by decide +kernel) (by decide) (by decide) (by decide) ?_
  show rn fx (2 + 1) (3, 76169) 163 162 [some (.inr (.inr (some 53)))] [.inr (.inr (some 72)), .inr (.inr (some 53))] sS_187 _
  refine g_pR (pc' := 165) (ci := 8) (kk := 34) (n := 40) hM_163 d_163_162 rfl (by decide +kernel) (by decide +kernel) (by decide) (by decide +kernel) rfl (by decide) (by decide +kernel) ?_
  show rn fx (2 + 1) (3, 76169) 163 165 [some (.inr (.inr (some 53)))] [] sS_188 _
  refine r_ld (pc' := 166) hM_163 d_163_165 rfl rfl ?_
  refine r_k (pc' := 167) (v := .inl 4) hM_163 d_163_166 rfl rfl ?_
  refine g_na (pc' := 169) (n := 4) (at' := 100) (t := 73) hM_163 d_163_167 rfl (by decide) (by decide) rfl (by decide) (by decide +kernel) (by decide) (by decide) (by decide) ?_
  show rn fx (2 + 1) (2, 76165) 163 169 [some (.inr (.inr (some 53)))] [.inr (.inr (some 73)), .inr (.inr (some 53))] sS_189 _
  refine r_stk (pc' := 170) (st' := [.inr (.inr (some 73)), .inr (.inr (some 73)), .inr (.inr (some 53))]) hM_163 d_163_169 rfl rfl ?_
  refine r_k (pc' := 171) (v := .inl 0) hM_163 d_163_170 rfl rfl ?_
  refine r_k (pc' := 172) (v := .inl (-1)) hM_163 d_163_171 rfl rfl ?_
  refine g_is (pc' := 173) (n := 4) (j := 0) hM_163 d_163_172 rfl (by decide) (by decide +kernel) (by decide) (by decide) ?_
  show rn fx (2 + 1) (2, 76165) 163 173 [some (.inr (.inr (some 53)))] [.inr (.inr (some 73)), .inr (.inr (some 53))] sS_190 _
  refine r_stk (pc' := 174) (st' := [.inr (.inr (some 73)), .inr (.inr (some 73)), .inr (.inr (some 53))]) hM_163 d_163_173 rfl rfl ?_
  refine r_k (pc' := 175) (v := .inl 1) hM_163 d_163_174 rfl rfl ?_
  refine r_k (pc' := 176) (v := .inl (-1)) hM_163 d_163_175 rfl rfl ?_
  refine g_is (pc' := 177) (n := 4) (j := 1) hM_163 d_163_176 rfl (by decide) (by decide +kernel) (by decide) (by decide) ?_
  show rn fx (2 + 1) (2, 76165) 163 177 [some (.inr (.inr (some 53)))] [.inr (.inr (some 73)), .inr (.inr (some 53))] sS_191 _
  refine r_stk (pc' := 178) (st' := [.inr (.inr (some 73)), .inr (.inr (some 73)), .inr (.inr (some 53))]) hM_163 d_163_177 rfl rfl ?_
  refine r_k (pc' := 179) (v := .inl 2) hM_163 d_163_178 rfl rfl ?_
  refine r_k (pc' := 180) (v := .inl (-1)) hM_163 d_163_179 rfl rfl ?_
  refine g_is (pc' := 181) (n := 4) (j := 2) hM_163 d_163_180 rfl (by decide) (by decide +kernel) (by decide) (by decide) ?_
  show rn fx (2 + 1) (2, 76165) 163 181 [some (.inr (.inr (some 53)))] [.inr (.inr (some 73)), .inr (.inr (some 53))] sS_192 _
  refine r_stk (pc' := 182) (st' := [.inr (.inr (some 73)), .inr (.inr (some 73)), .inr (.inr (some 53))]) hM_163 d_163_181 rfl rfl ?_
  refine r_k (pc' := 183) (v := .inl 3) hM_163 d_163_182 rfl rfl ?_
  refine r_k (pc' := 184) (v := .inl (-1)) hM_163 d_163_183 rfl rfl ?_
  refine g_is (pc' := 185) (n := 4) (j := 3) hM_163 d_163_184 rfl (by decide) (by decide +kernel) (by decide) (by decide) ?_
  show rn fx (2 + 1) (2, 76165) 163 185 [some (.inr (.inr (some 53)))] [.inr (.inr (some 73)), .inr (.inr (some 53))] sS_193 _
  refine g_pR (pc' := 188) (ci := 8) (kk := 37) (n := 40) hM_163 d_163_185 rfl (by decide +kernel) (by decide +kernel) (by decide) (by decide +kernel) rfl (by decide) (by decide +kernel) ?_
  show rn fx (2 + 1) (2, 76165) 163 188 [some (.inr (.inr (some 53)))] [] sS_194 _
  refine r_ld (pc' := 189) hM_163 d_163_188 rfl rfl ?_
  refine r_k (pc' := 190) (v := .inl 4) hM_163 d_163_189 rfl rfl ?_
  refine g_na (pc' := 192) (n := 4) (at' := 100) (t := 74) hM_163 d_163_190 rfl (by decide) (by decide) rfl (by decide) (by decide +kernel) (by decide) (by decide) (by decide) ?_
  show rn fx (2 + 1) (1, 76161) 163 192 [some (.inr (.inr (some 53)))] [.inr (.inr (some 74)), .inr (.inr (some 53))] sS_195 _
  refine g_pR (pc' := 195) (ci := 8) (kk := 38) (n := 40) hM_163 d_163_192 rfl (by decide +kernel) (by decide +kernel) (by decide) (by decide +kernel) rfl (by decide) (by decide +kernel) ?_
  show rn fx (2 + 1) (1, 76161) 163 195 [some (.inr (.inr (some 53)))] [] sS_196 _
  refine r_ld (pc' := 196) hM_163 d_163_195 rfl rfl ?_
  refine r_k (pc' := 199) (v := .inl 160) hM_163 d_163_196 rfl rfl ?_
  refine g_na (pc' := 201) (n := 160) (at' := 101) (t := 75) hM_163 d_163_199 rfl (by decide) (by decide) rfl (by decide) (by decide +kernel) (by decide) (by decide) (by decide) ?_
  show rn fx (2 + 1) (0, 76001) 163 201 [some (.inr (.inr (some 53)))] [.inr (.inr (some 75)), .inr (.inr (some 53))] sS_197 _
  refine g_pR (pc' := 204) (ci := 8) (kk := 39) (n := 40) hM_163 d_163_201 rfl (by decide +kernel) (by decide +kernel) (by decide) (by decide +kernel) rfl (by decide) (by decide +kernel) ?_
  show rn fx (2 + 1) (0, 76001) 163 204 [some (.inr (.inr (some 53)))] [] sS_198 _
  refine r_ld (pc' := 205) hM_163 d_163_204 rfl rfl ?_
  refine g_gR (pc' := 208) (ci := 8) (kk := 1) (n := 40) (v := some 54) hM_163 d_163_205 rfl (by decide +kernel) (by decide +kernel) (by decide) (by decide +kernel) (by decide +kernel) ?_
  refine g_cl (pc' := 211) (c := (164, 2)) (a := [.inr (.inr (some 54))]) (q := []) (r := []) (S1 := sS_258) hM_163 d_163_208 rfl (by decide +kernel) hM_164 rfl (by decide) (by decide) rfl rfl (by decide) (by decide) (Or.inl rfl) mk_21 (by decide) (by decide +kernel) ?_
  show rn fx (2 + 1) (0, 76001) 163 211 [some (.inr (.inr (some 53)))] [] sS_258 _
  exact rt_v hM_163 d_163_211 rfl
theorem made {fx : am_X0} {o : List am_V × am_S} (k : rn fx 200 (0, 82598) 0 18 [some (.inr (.inr (some 1000))), some (.inr (.inr (some 0))), some (.inr (.inr (some 53))), some (.inl 0)] [] sS_258 o) : rn fx 200 (76, 400000) 0 0 (am_ent 4 [am_R 1000]) [] am_S0 o := by
  show rn fx (199 + 1) (76, 400000) 0 0 [some (.inr (.inr (some 1000))), none, none, none] [] sS_0 _
  refine g_new (pc' := 3) (ci := 0) (n := 12) (t := 0) hM_0 d_0_0 rfl (by decide +kernel) (by decide +kernel) (by decide +kernel) (by decide) (by decide) (by decide) ?_
  show rn fx (199 + 1) (75, 399988) 0 3 [some (.inr (.inr (some 1000))), none, none, none] [.inr (.inr (some 0))] sS_1 _
  refine r_stk (pc' := 4) (st' := [.inr (.inr (some 0)), .inr (.inr (some 0))]) hM_0 d_0_3 rfl rfl ?_
  refine g_cl (pc' := 7) (c := (1, 1)) (a := [.inr (.inr (some 0))]) (q := [.inr (.inr (some 0))]) (r := []) (S1 := sS_148) hM_0 d_0_4 rfl (by decide +kernel) hM_1 rfl (by decide) (by decide) rfl rfl (by decide) (by decide) (Or.inr (by decide +kernel)) mk_2 (by decide) (by decide +kernel) ?_
  show rn fx (199 + 1) (23, 382638) 0 7 [some (.inr (.inr (some 1000))), none, none, none] [.inr (.inr (some 0))] sS_148 _
  refine r_sto (pc' := 8) (ls' := [some (.inr (.inr (some 1000))), some (.inr (.inr (some 0))), none, none]) hM_0 d_0_7 rfl rfl ?_
  refine g_new (pc' := 11) (ci := 8) (n := 40) (t := 53) hM_0 d_0_8 rfl (by decide +kernel) (by decide +kernel) (by decide +kernel) (by decide) (by decide) (by decide) ?_
  show rn fx (199 + 1) (22, 382598) 0 11 [some (.inr (.inr (some 1000))), some (.inr (.inr (some 0))), none, none] [.inr (.inr (some 53))] sS_149 _
  refine r_stk (pc' := 12) (st' := [.inr (.inr (some 53)), .inr (.inr (some 53))]) hM_0 d_0_11 rfl rfl ?_
  refine g_cl (pc' := 15) (c := (163, 1)) (a := [.inr (.inr (some 53))]) (q := [.inr (.inr (some 53))]) (r := []) (S1 := sS_258) hM_0 d_0_12 rfl (by decide +kernel) hM_163 rfl (by decide) (by decide) rfl rfl (by decide) (by decide) (Or.inr (by decide +kernel)) mk_20 (by decide) (by decide +kernel) ?_
  show rn fx (199 + 1) (0, 82598) 0 15 [some (.inr (.inr (some 1000))), some (.inr (.inr (some 0))), none, none] [.inr (.inr (some 53))] sS_258 _
  refine r_sto (pc' := 16) (ls' := [some (.inr (.inr (some 1000))), some (.inr (.inr (some 0))), some (.inr (.inr (some 53))), none]) hM_0 d_0_15 rfl rfl ?_
  refine r_k (pc' := 17) (v := .inl 0) hM_0 d_0_16 rfl rfl ?_
  refine r_sto (pc' := 18) (ls' := [some (.inr (.inr (some 1000))), some (.inr (.inr (some 0))), some (.inr (.inr (some 53))), some (.inl 0)]) hM_0 d_0_17 rfl rfl ?_
  exact k
