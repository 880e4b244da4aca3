theorem z01_ite {c : Prop} [Decidable c] {a b : Int} (ha : am_s a = 0 ∨ am_s a = 1) (hb : am_s b = 0 ∨ am_s b = 1) : am_s (if c then a else b) = 0 ∨ am_s (if c then a else b) = 1 := by
  split
  · exact ha
  · exact hb
theorem t_14_0 {fx : am_X0} {o : List am_V × am_S} {m : am_M} {a : Int} {b : Int}  (H : o = ([.inl (if am_s b < am_s a then b else a)], st0 m)) : rn fx 0 (0, 0) 14 0 [some (.inl a), some (.inl b)] [] (st0 m) o := by
  refine r_ld (pc' := 1) hM_14 d_14_0 rfl rfl ?_
  refine r_ld (pc' := 2) hM_14 d_14_1 rfl rfl ?_
  have K : rn fx 0 (0, 0) 14 10 [some (.inl a), some (.inl b)] [.inl (if am_s b < am_s a then b else a)] (st0 m) o := by
    subst H
    exact rt_i hM_14 d_14_10 rfl
  clear H
  refine r_ic (pc' := 9) (pc2 := 5) hM_14 d_14_2 (by decide) rfl (fun hz1 => ?_) (fun hz1 => ?_)
  · have hz1 : am_s b < am_s a := hz1
    rw [if_pos hz1] at K
    refine r_ld (pc' := 10) hM_14 d_14_9 rfl rfl ?_
    exact K
  · have hz1 : ¬ (am_s b < am_s a) := hz1
    rw [if_neg hz1] at K
    refine r_ld (pc' := 6) hM_14 d_14_5 rfl rfl ?_
    refine r_go (pc' := 10) hM_14 d_14_6 (by decide) ?_
    exact K
def v_14 (m : am_M) (a : Int) (b : Int) : Int := (if am_s b < am_s a then b else a)
/-- java/lang/Math.min -/
theorem c_14 {fx : am_X0}   (m : am_M) (a : Int) (b : Int)  : rn fx 0 (0, 0) 14 0 (am_ent 2 [.inl a, .inl b]) [] (st0 m) ([.inl (v_14 m a b)], st0 m) := by
  show rn fx 0 (0, 0) 14 0 [some (.inl a), some (.inl b)] [] (st0 m) _
  refine t_14_0  ?_
  simp only [v_14]
theorem t_74_0 {fx : am_X0} {o : List am_V × am_S} {m : am_M} {a : Int} {b : Int}  (H : o = ([.inl (if am_s a < am_s b then b else a)], st0 m)) : rn fx 0 (0, 0) 74 0 [some (.inl a), some (.inl b)] [] (st0 m) o := by
  refine r_ld (pc' := 1) hM_74 d_74_0 rfl rfl ?_
  refine r_ld (pc' := 2) hM_74 d_74_1 rfl rfl ?_
  have K : rn fx 0 (0, 0) 74 10 [some (.inl a), some (.inl b)] [.inl (if am_s a < am_s b then b else a)] (st0 m) o := by
    subst H
    exact rt_i hM_74 d_74_10 rfl
  clear H
  refine r_ic (pc' := 9) (pc2 := 5) hM_74 d_74_2 (by decide) rfl (fun hz1 => ?_) (fun hz1 => ?_)
  · have hz1 : am_s a < am_s b := hz1
    rw [if_pos hz1] at K
    refine r_ld (pc' := 10) hM_74 d_74_9 rfl rfl ?_
    exact K
  · have hz1 : ¬ (am_s a < am_s b) := hz1
    rw [if_neg hz1] at K
    refine r_ld (pc' := 6) hM_74 d_74_5 rfl rfl ?_
    refine r_go (pc' := 10) hM_74 d_74_6 (by decide) ?_
    exact K
def v_74 (m : am_M) (a : Int) (b : Int) : Int := (if am_s a < am_s b then b else a)
/-- java/lang/Math.max -/
theorem c_74 {fx : am_X0}   (m : am_M) (a : Int) (b : Int)  : rn fx 0 (0, 0) 74 0 (am_ent 2 [.inl a, .inl b]) [] (st0 m) ([.inl (v_74 m a b)], st0 m) := by
  show rn fx 0 (0, 0) 74 0 [some (.inl a), some (.inl b)] [] (st0 m) _
  refine t_74_0  ?_
  simp only [v_74]
theorem t_150_0 {fx : am_X0} {o : List am_V × am_S} {m : am_M} {a : Int}  (H : o = ([.inl (if 0 ≤ am_s a then a else (-a))], st0 m)) : rn fx 0 (0, 0) 150 0 [some (.inl a)] [] (st0 m) o := by
  refine r_ld (pc' := 1) hM_150 d_150_0 rfl rfl ?_
  have K : rn fx 0 (0, 0) 150 10 [some (.inl a)] [.inl (if 0 ≤ am_s a then a else (-a))] (st0 m) o := by
    subst H
    exact rt_i hM_150 d_150_10 rfl
  clear H
  refine r_if (pc' := 9) (pc2 := 4) hM_150 d_150_1 (by decide) rfl (fun hz1 => ?_) (fun hz1 => ?_)
  · have hz1 : 0 ≤ am_s a := hz1
    rw [if_pos hz1] at K
    refine r_ld (pc' := 10) hM_150 d_150_9 rfl rfl ?_
    exact K
  · have hz1 : ¬ (0 ≤ am_s a) := hz1
    rw [if_neg hz1] at K
    refine r_ld (pc' := 5) hM_150 d_150_4 rfl rfl ?_
    refine r_stk (pc' := 6) (st' := [.inl (-a)]) hM_150 d_150_5 rfl rfl ?_
    refine r_go (pc' := 10) hM_150 d_150_6 (by decide) ?_
    exact K
def v_150 (m : am_M) (a : Int) : Int := (if 0 ≤ am_s a then a else (-a))
/-- java/lang/Math.abs -/
theorem c_150 {fx : am_X0}   (m : am_M) (a : Int)  : rn fx 0 (0, 0) 150 0 (am_ent 1 [.inl a]) [] (st0 m) ([.inl (v_150 m a)], st0 m) := by
  show rn fx 0 (0, 0) 150 0 [some (.inl a)] [] (st0 m) _
  refine t_150_0  ?_
  simp only [v_150]
theorem t_75_0 {fx : am_X0} {o : List am_V × am_S} {m : am_M} {a : Int} {b : Int}  (H : (am_s b ≠ 0) ∧ (((0 ≤ am_s (am_xor a b)) → o = ([.inl (am_div a b)], st0 m)) ∧ (¬ (0 ≤ am_s (am_xor a b)) → ((am_s ((am_div a b) * b) = am_s a) → o = ([.inl (am_div a b)], st0 m)) ∧ (¬ (am_s ((am_div a b) * b) = am_s a) → o = ([.inl ((am_div a b) - 1)], st0 m))))) : rn fx 0 (0, 0) 75 0 [some (.inl a), some (.inl b), none] [] (st0 m) o := by
  refine r_ld (pc' := 1) hM_75 d_75_0 rfl rfl ?_
  refine r_ld (pc' := 2) hM_75 d_75_1 rfl rfl ?_
  obtain ⟨H0, H⟩ := H
  refine r_div (pc' := 3) hM_75 d_75_2 rfl H0 ?_
  refine r_sto (pc' := 4) (ls' := [some (.inl a), some (.inl b), some (.inl (am_div a b))]) hM_75 d_75_3 rfl rfl ?_
  refine r_ld (pc' := 5) hM_75 d_75_4 rfl rfl ?_
  refine r_ld (pc' := 6) hM_75 d_75_5 rfl rfl ?_
  refine r_b (pc' := 7) (z := (am_xor a b)) hM_75 d_75_6 rfl rfl ?_
  refine r_if (pc' := 21) (pc2 := 10) hM_75 d_75_7 (by decide) rfl (fun hz1 => ?_) (fun hz1 => ?_)
  · have H := H.1 hz1
    refine r_ld (pc' := 22) hM_75 d_75_21 rfl rfl ?_
    subst H
    exact rt_i hM_75 d_75_22 rfl
  · have H := H.2 hz1
    refine r_ld (pc' := 11) hM_75 d_75_10 rfl rfl ?_
    refine r_ld (pc' := 12) hM_75 d_75_11 rfl rfl ?_
    refine r_b (pc' := 13) (z := ((am_div a b) * b)) hM_75 d_75_12 rfl rfl ?_
    refine r_ld (pc' := 14) hM_75 d_75_13 rfl rfl ?_
    refine r_ic (pc' := 21) (pc2 := 17) hM_75 d_75_14 (by decide) rfl (fun hz2 => ?_) (fun hz2 => ?_)
    · have H := H.1 hz2
      refine r_ld (pc' := 22) hM_75 d_75_21 rfl rfl ?_
      subst H
      exact rt_i hM_75 d_75_22 rfl
    · have H := H.2 hz2
      refine r_ld (pc' := 18) hM_75 d_75_17 rfl rfl ?_
      refine r_k (pc' := 19) (v := .inl 1) hM_75 d_75_18 rfl rfl ?_
      refine r_b (pc' := 20) (z := ((am_div a b) - 1)) hM_75 d_75_19 rfl rfl ?_
      subst H
      exact rt_i hM_75 d_75_20 rfl
def v_75 (m : am_M) (a : Int) (b : Int) : Int := (if 0 ≤ am_s (am_xor a b) then (am_div a b) else (if am_s ((am_div a b) * b) = am_s a then (am_div a b) else ((am_div a b) - 1)))
def q_75 (m : am_M) (a : Int) (b : Int) : Prop := (am_s b ≠ 0)
/-- java/lang/Math.floorDiv -/
theorem c_75 {fx : am_X0}   (m : am_M) (a : Int) (b : Int) (hq : q_75 m a b) : rn fx 0 (0, 0) 75 0 (am_ent 3 [.inl a, .inl b]) [] (st0 m) ([.inl (v_75 m a b)], st0 m) := by
  unfold q_75 at hq
  show rn fx 0 (0, 0) 75 0 [some (.inl a), some (.inl b), none] [] (st0 m) _
  refine t_75_0  ?_
  have hb0_0 := hq
  refine ⟨hb0_0, ?_⟩
  refine ⟨fun hc0 => ?_, fun hc0 => ?_⟩
  · skip
    simp only [v_75, if_pos hc0]
  · skip
    refine ⟨fun hc1 => ?_, fun hc1 => ?_⟩
    · skip
      simp only [v_75, if_neg hc0, if_pos hc1]
    · skip
      simp only [v_75, if_neg hc0, if_neg hc1]
theorem t_72_0 {fx : am_X0} {o : List am_V × am_S} {m : am_M} {a : Int}  (H : o = ([.inl (am_and (((am_and (((am_and (a - (am_and (am_ushr a 1) 1431655765)) 858993459) + (am_and (am_ushr (a - (am_and (am_ushr a 1) 1431655765)) 2) 858993459)) + (am_ushr ((am_and (a - (am_and (am_ushr a 1) 1431655765)) 858993459) + (am_and (am_ushr (a - (am_and (am_ushr a 1) 1431655765)) 2) 858993459)) 4)) 252645135) + (am_ushr (am_and (((am_and (a - (am_and (am_ushr a 1) 1431655765)) 858993459) + (am_and (am_ushr (a - (am_and (am_ushr a 1) 1431655765)) 2) 858993459)) + (am_ushr ((am_and (a - (am_and (am_ushr a 1) 1431655765)) 858993459) + (am_and (am_ushr (a - (am_and (am_ushr a 1) 1431655765)) 2) 858993459)) 4)) 252645135) 8)) + (am_ushr ((am_and (((am_and (a - (am_and (am_ushr a 1) 1431655765)) 858993459) + (am_and (am_ushr (a - (am_and (am_ushr a 1) 1431655765)) 2) 858993459)) + (am_ushr ((am_and (a - (am_and (am_ushr a 1) 1431655765)) 858993459) + (am_and (am_ushr (a - (am_and (am_ushr a 1) 1431655765)) 2) 858993459)) 4)) 252645135) + (am_ushr (am_and (((am_and (a - (am_and (am_ushr a 1) 1431655765)) 858993459) + (am_and (am_ushr (a - (am_and (am_ushr a 1) 1431655765)) 2) 858993459)) + (am_ushr ((am_and (a - (am_and (am_ushr a 1) 1431655765)) 858993459) + (am_and (am_ushr (a - (am_and (am_ushr a 1) 1431655765)) 2) 858993459)) 4)) 252645135) 8)) 16)) 63)], st0 m)) : rn fx 0 (0, 0) 72 0 [some (.inl a)] [] (st0 m) o := by
  refine r_ld (pc' := 1) hM_72 d_72_0 rfl rfl ?_
  refine r_ld (pc' := 2) hM_72 d_72_1 rfl rfl ?_
  refine r_k (pc' := 3) (v := .inl 1) hM_72 d_72_2 rfl rfl ?_
  refine r_b (pc' := 4) (z := (am_ushr a 1)) hM_72 d_72_3 rfl rfl ?_
  refine r_k (pc' := 7) (v := .inl 1431655765) hM_72 d_72_4 rfl (by decide +kernel) ?_
  refine r_b (pc' := 8) (z := (am_and (am_ushr a 1) 1431655765)) hM_72 d_72_7 rfl rfl ?_
  refine r_b (pc' := 9) (z := (a - (am_and (am_ushr a 1) 1431655765))) hM_72 d_72_8 rfl rfl ?_
  refine r_sto (pc' := 10) (ls' := [some (.inl (a - (am_and (am_ushr a 1) 1431655765)))]) hM_72 d_72_9 rfl rfl ?_
  refine r_ld (pc' := 11) hM_72 d_72_10 rfl rfl ?_
  refine r_k (pc' := 14) (v := .inl 858993459) hM_72 d_72_11 rfl (by decide +kernel) ?_
  refine r_b (pc' := 15) (z := (am_and (a - (am_and (am_ushr a 1) 1431655765)) 858993459)) hM_72 d_72_14 rfl rfl ?_
  refine r_ld (pc' := 16) hM_72 d_72_15 rfl rfl ?_
  refine r_k (pc' := 17) (v := .inl 2) hM_72 d_72_16 rfl rfl ?_
  refine r_b (pc' := 18) (z := (am_ushr (a - (am_and (am_ushr a 1) 1431655765)) 2)) hM_72 d_72_17 rfl rfl ?_
  refine r_k (pc' := 21) (v := .inl 858993459) hM_72 d_72_18 rfl (by decide +kernel) ?_
  refine r_b (pc' := 22) (z := (am_and (am_ushr (a - (am_and (am_ushr a 1) 1431655765)) 2) 858993459)) hM_72 d_72_21 rfl rfl ?_
  refine r_b (pc' := 23) (z := ((am_and (a - (am_and (am_ushr a 1) 1431655765)) 858993459) + (am_and (am_ushr (a - (am_and (am_ushr a 1) 1431655765)) 2) 858993459))) hM_72 d_72_22 rfl rfl ?_
  refine r_sto (pc' := 24) (ls' := [some (.inl ((am_and (a - (am_and (am_ushr a 1) 1431655765)) 858993459) + (am_and (am_ushr (a - (am_and (am_ushr a 1) 1431655765)) 2) 858993459)))]) hM_72 d_72_23 rfl rfl ?_
  refine r_ld (pc' := 25) hM_72 d_72_24 rfl rfl ?_
  refine r_ld (pc' := 26) hM_72 d_72_25 rfl rfl ?_
  refine r_k (pc' := 27) (v := .inl 4) hM_72 d_72_26 rfl rfl ?_
  refine r_b (pc' := 28) (z := (am_ushr ((am_and (a - (am_and (am_ushr a 1) 1431655765)) 858993459) + (am_and (am_ushr (a - (am_and (am_ushr a 1) 1431655765)) 2) 858993459)) 4)) hM_72 d_72_27 rfl rfl ?_
  refine r_b (pc' := 29) (z := (((am_and (a - (am_and (am_ushr a 1) 1431655765)) 858993459) + (am_and (am_ushr (a - (am_and (am_ushr a 1) 1431655765)) 2) 858993459)) + (am_ushr ((am_and (a - (am_and (am_ushr a 1) 1431655765)) 858993459) + (am_and (am_ushr (a - (am_and (am_ushr a 1) 1431655765)) 2) 858993459)) 4))) hM_72 d_72_28 rfl rfl ?_
  refine r_k (pc' := 32) (v := .inl 252645135) hM_72 d_72_29 rfl (by decide +kernel) ?_
  refine r_b (pc' := 33) (z := (am_and (((am_and (a - (am_and (am_ushr a 1) 1431655765)) 858993459) + (am_and (am_ushr (a - (am_and (am_ushr a 1) 1431655765)) 2) 858993459)) + (am_ushr ((am_and (a - (am_and (am_ushr a 1) 1431655765)) 858993459) + (am_and (am_ushr (a - (am_and (am_ushr a 1) 1431655765)) 2) 858993459)) 4)) 252645135)) hM_72 d_72_32 rfl rfl ?_
  refine r_sto (pc' := 34) (ls' := [some (.inl (am_and (((am_and (a - (am_and (am_ushr a 1) 1431655765)) 858993459) + (am_and (am_ushr (a - (am_and (am_ushr a 1) 1431655765)) 2) 858993459)) + (am_ushr ((am_and (a - (am_and (am_ushr a 1) 1431655765)) 858993459) + (am_and (am_ushr (a - (am_and (am_ushr a 1) 1431655765)) 2) 858993459)) 4)) 252645135))]) hM_72 d_72_33 rfl rfl ?_
  refine r_ld (pc' := 35) hM_72 d_72_34 rfl rfl ?_
  refine r_ld (pc' := 36) hM_72 d_72_35 rfl rfl ?_
  refine r_k (pc' := 38) (v := .inl 8) hM_72 d_72_36 rfl rfl ?_
  refine r_b (pc' := 39) (z := (am_ushr (am_and (((am_and (a - (am_and (am_ushr a 1) 1431655765)) 858993459) + (am_and (am_ushr (a - (am_and (am_ushr a 1) 1431655765)) 2) 858993459)) + (am_ushr ((am_and (a - (am_and (am_ushr a 1) 1431655765)) 858993459) + (am_and (am_ushr (a - (am_and (am_ushr a 1) 1431655765)) 2) 858993459)) 4)) 252645135) 8)) hM_72 d_72_38 rfl rfl ?_
  refine r_b (pc' := 40) (z := ((am_and (((am_and (a - (am_and (am_ushr a 1) 1431655765)) 858993459) + (am_and (am_ushr (a - (am_and (am_ushr a 1) 1431655765)) 2) 858993459)) + (am_ushr ((am_and (a - (am_and (am_ushr a 1) 1431655765)) 858993459) + (am_and (am_ushr (a - (am_and (am_ushr a 1) 1431655765)) 2) 858993459)) 4)) 252645135) + (am_ushr (am_and (((am_and (a - (am_and (am_ushr a 1) 1431655765)) 858993459) + (am_and (am_ushr (a - (am_and (am_ushr a 1) 1431655765)) 2) 858993459)) + (am_ushr ((am_and (a - (am_and (am_ushr a 1) 1431655765)) 858993459) + (am_and (am_ushr (a - (am_and (am_ushr a 1) 1431655765)) 2) 858993459)) 4)) 252645135) 8))) hM_72 d_72_39 rfl rfl ?_
  refine r_sto (pc' := 41) (ls' := [some (.inl ((am_and (((am_and (a - (am_and (am_ushr a 1) 1431655765)) 858993459) + (am_and (am_ushr (a - (am_and (am_ushr a 1) 1431655765)) 2) 858993459)) + (am_ushr ((am_and (a - (am_and (am_ushr a 1) 1431655765)) 858993459) + (am_and (am_ushr (a - (am_and (am_ushr a 1) 1431655765)) 2) 858993459)) 4)) 252645135) + (am_ushr (am_and (((am_and (a - (am_and (am_ushr a 1) 1431655765)) 858993459) + (am_and (am_ushr (a - (am_and (am_ushr a 1) 1431655765)) 2) 858993459)) + (am_ushr ((am_and (a - (am_and (am_ushr a 1) 1431655765)) 858993459) + (am_and (am_ushr (a - (am_and (am_ushr a 1) 1431655765)) 2) 858993459)) 4)) 252645135) 8)))]) hM_72 d_72_40 rfl rfl ?_
  refine r_ld (pc' := 42) hM_72 d_72_41 rfl rfl ?_
  refine r_ld (pc' := 43) hM_72 d_72_42 rfl rfl ?_
  refine r_k (pc' := 45) (v := .inl 16) hM_72 d_72_43 rfl rfl ?_
  refine r_b (pc' := 46) (z := (am_ushr ((am_and (((am_and (a - (am_and (am_ushr a 1) 1431655765)) 858993459) + (am_and (am_ushr (a - (am_and (am_ushr a 1) 1431655765)) 2) 858993459)) + (am_ushr ((am_and (a - (am_and (am_ushr a 1) 1431655765)) 858993459) + (am_and (am_ushr (a - (am_and (am_ushr a 1) 1431655765)) 2) 858993459)) 4)) 252645135) + (am_ushr (am_and (((am_and (a - (am_and (am_ushr a 1) 1431655765)) 858993459) + (am_and (am_ushr (a - (am_and (am_ushr a 1) 1431655765)) 2) 858993459)) + (am_ushr ((am_and (a - (am_and (am_ushr a 1) 1431655765)) 858993459) + (am_and (am_ushr (a - (am_and (am_ushr a 1) 1431655765)) 2) 858993459)) 4)) 252645135) 8)) 16)) hM_72 d_72_45 rfl rfl ?_
  refine r_b (pc' := 47) (z := (((am_and (((am_and (a - (am_and (am_ushr a 1) 1431655765)) 858993459) + (am_and (am_ushr (a - (am_and (am_ushr a 1) 1431655765)) 2) 858993459)) + (am_ushr ((am_and (a - (am_and (am_ushr a 1) 1431655765)) 858993459) + (am_and (am_ushr (a - (am_and (am_ushr a 1) 1431655765)) 2) 858993459)) 4)) 252645135) + (am_ushr (am_and (((am_and (a - (am_and (am_ushr a 1) 1431655765)) 858993459) + (am_and (am_ushr (a - (am_and (am_ushr a 1) 1431655765)) 2) 858993459)) + (am_ushr ((am_and (a - (am_and (am_ushr a 1) 1431655765)) 858993459) + (am_and (am_ushr (a - (am_and (am_ushr a 1) 1431655765)) 2) 858993459)) 4)) 252645135) 8)) + (am_ushr ((am_and (((am_and (a - (am_and (am_ushr a 1) 1431655765)) 858993459) + (am_and (am_ushr (a - (am_and (am_ushr a 1) 1431655765)) 2) 858993459)) + (am_ushr ((am_and (a - (am_and (am_ushr a 1) 1431655765)) 858993459) + (am_and (am_ushr (a - (am_and (am_ushr a 1) 1431655765)) 2) 858993459)) 4)) 252645135) + (am_ushr (am_and (((am_and (a - (am_and (am_ushr a 1) 1431655765)) 858993459) + (am_and (am_ushr (a - (am_and (am_ushr a 1) 1431655765)) 2) 858993459)) + (am_ushr ((am_and (a - (am_and (am_ushr a 1) 1431655765)) 858993459) + (am_and (am_ushr (a - (am_and (am_ushr a 1) 1431655765)) 2) 858993459)) 4)) 252645135) 8)) 16))) hM_72 d_72_46 rfl rfl ?_
  refine r_sto (pc' := 48) (ls' := [some (.inl (((am_and (((am_and (a - (am_and (am_ushr a 1) 1431655765)) 858993459) + (am_and (am_ushr (a - (am_and (am_ushr a 1) 1431655765)) 2) 858993459)) + (am_ushr ((am_and (a - (am_and (am_ushr a 1) 1431655765)) 858993459) + (am_and (am_ushr (a - (am_and (am_ushr a 1) 1431655765)) 2) 858993459)) 4)) 252645135) + (am_ushr (am_and (((am_and (a - (am_and (am_ushr a 1) 1431655765)) 858993459) + (am_and (am_ushr (a - (am_and (am_ushr a 1) 1431655765)) 2) 858993459)) + (am_ushr ((am_and (a - (am_and (am_ushr a 1) 1431655765)) 858993459) + (am_and (am_ushr (a - (am_and (am_ushr a 1) 1431655765)) 2) 858993459)) 4)) 252645135) 8)) + (am_ushr ((am_and (((am_and (a - (am_and (am_ushr a 1) 1431655765)) 858993459) + (am_and (am_ushr (a - (am_and (am_ushr a 1) 1431655765)) 2) 858993459)) + (am_ushr ((am_and (a - (am_and (am_ushr a 1) 1431655765)) 858993459) + (am_and (am_ushr (a - (am_and (am_ushr a 1) 1431655765)) 2) 858993459)) 4)) 252645135) + (am_ushr (am_and (((am_and (a - (am_and (am_ushr a 1) 1431655765)) 858993459) + (am_and (am_ushr (a - (am_and (am_ushr a 1) 1431655765)) 2) 858993459)) + (am_ushr ((am_and (a - (am_and (am_ushr a 1) 1431655765)) 858993459) + (am_and (am_ushr (a - (am_and (am_ushr a 1) 1431655765)) 2) 858993459)) 4)) 252645135) 8)) 16)))]) hM_72 d_72_47 rfl rfl ?_
  refine r_ld (pc' := 49) hM_72 d_72_48 rfl rfl ?_
  refine r_k (pc' := 51) (v := .inl 63) hM_72 d_72_49 rfl rfl ?_
  refine r_b (pc' := 52) (z := (am_and (((am_and (((am_and (a - (am_and (am_ushr a 1) 1431655765)) 858993459) + (am_and (am_ushr (a - (am_and (am_ushr a 1) 1431655765)) 2) 858993459)) + (am_ushr ((am_and (a - (am_and (am_ushr a 1) 1431655765)) 858993459) + (am_and (am_ushr (a - (am_and (am_ushr a 1) 1431655765)) 2) 858993459)) 4)) 252645135) + (am_ushr (am_and (((am_and (a - (am_and (am_ushr a 1) 1431655765)) 858993459) + (am_and (am_ushr (a - (am_and (am_ushr a 1) 1431655765)) 2) 858993459)) + (am_ushr ((am_and (a - (am_and (am_ushr a 1) 1431655765)) 858993459) + (am_and (am_ushr (a - (am_and (am_ushr a 1) 1431655765)) 2) 858993459)) 4)) 252645135) 8)) + (am_ushr ((am_and (((am_and (a - (am_and (am_ushr a 1) 1431655765)) 858993459) + (am_and (am_ushr (a - (am_and (am_ushr a 1) 1431655765)) 2) 858993459)) + (am_ushr ((am_and (a - (am_and (am_ushr a 1) 1431655765)) 858993459) + (am_and (am_ushr (a - (am_and (am_ushr a 1) 1431655765)) 2) 858993459)) 4)) 252645135) + (am_ushr (am_and (((am_and (a - (am_and (am_ushr a 1) 1431655765)) 858993459) + (am_and (am_ushr (a - (am_and (am_ushr a 1) 1431655765)) 2) 858993459)) + (am_ushr ((am_and (a - (am_and (am_ushr a 1) 1431655765)) 858993459) + (am_and (am_ushr (a - (am_and (am_ushr a 1) 1431655765)) 2) 858993459)) 4)) 252645135) 8)) 16)) 63)) hM_72 d_72_51 rfl rfl ?_
  subst H
  exact rt_i hM_72 d_72_52 rfl
def v_72 (m : am_M) (a : Int) : Int := (am_and (((am_and (((am_and (a - (am_and (am_ushr a 1) 1431655765)) 858993459) + (am_and (am_ushr (a - (am_and (am_ushr a 1) 1431655765)) 2) 858993459)) + (am_ushr ((am_and (a - (am_and (am_ushr a 1) 1431655765)) 858993459) + (am_and (am_ushr (a - (am_and (am_ushr a 1) 1431655765)) 2) 858993459)) 4)) 252645135) + (am_ushr (am_and (((am_and (a - (am_and (am_ushr a 1) 1431655765)) 858993459) + (am_and (am_ushr (a - (am_and (am_ushr a 1) 1431655765)) 2) 858993459)) + (am_ushr ((am_and (a - (am_and (am_ushr a 1) 1431655765)) 858993459) + (am_and (am_ushr (a - (am_and (am_ushr a 1) 1431655765)) 2) 858993459)) 4)) 252645135) 8)) + (am_ushr ((am_and (((am_and (a - (am_and (am_ushr a 1) 1431655765)) 858993459) + (am_and (am_ushr (a - (am_and (am_ushr a 1) 1431655765)) 2) 858993459)) + (am_ushr ((am_and (a - (am_and (am_ushr a 1) 1431655765)) 858993459) + (am_and (am_ushr (a - (am_and (am_ushr a 1) 1431655765)) 2) 858993459)) 4)) 252645135) + (am_ushr (am_and (((am_and (a - (am_and (am_ushr a 1) 1431655765)) 858993459) + (am_and (am_ushr (a - (am_and (am_ushr a 1) 1431655765)) 2) 858993459)) + (am_ushr ((am_and (a - (am_and (am_ushr a 1) 1431655765)) 858993459) + (am_and (am_ushr (a - (am_and (am_ushr a 1) 1431655765)) 2) 858993459)) 4)) 252645135) 8)) 16)) 63)
/-- java/lang/Integer.bitCount -/
theorem c_72 {fx : am_X0}   (m : am_M) (a : Int)  : rn fx 0 (0, 0) 72 0 (am_ent 1 [.inl a]) [] (st0 m) ([.inl (v_72 m a)], st0 m) := by
  show rn fx 0 (0, 0) 72 0 [some (.inl a)] [] (st0 m) _
  refine t_72_0  ?_
  simp only [v_72]
theorem t_49_0 {fx : am_X0} {o : List am_V × am_S} {m : am_M} {a : Int}  (H : o = ([.inl (am_and ((((am_landL (((am_landL (a - (am_landL (am_ushrL a 1) 6148914691236517205)) 3689348814741910323) + (am_landL (am_ushrL (a - (am_landL (am_ushrL a 1) 6148914691236517205)) 2) 3689348814741910323)) + (am_ushrL ((am_landL (a - (am_landL (am_ushrL a 1) 6148914691236517205)) 3689348814741910323) + (am_landL (am_ushrL (a - (am_landL (am_ushrL a 1) 6148914691236517205)) 2) 3689348814741910323)) 4)) 1085102592571150095) + (am_ushrL (am_landL (((am_landL (a - (am_landL (am_ushrL a 1) 6148914691236517205)) 3689348814741910323) + (am_landL (am_ushrL (a - (am_landL (am_ushrL a 1) 6148914691236517205)) 2) 3689348814741910323)) + (am_ushrL ((am_landL (a - (am_landL (am_ushrL a 1) 6148914691236517205)) 3689348814741910323) + (am_landL (am_ushrL (a - (am_landL (am_ushrL a 1) 6148914691236517205)) 2) 3689348814741910323)) 4)) 1085102592571150095) 8)) + (am_ushrL ((am_landL (((am_landL (a - (am_landL (am_ushrL a 1) 6148914691236517205)) 3689348814741910323) + (am_landL (am_ushrL (a - (am_landL (am_ushrL a 1) 6148914691236517205)) 2) 3689348814741910323)) + (am_ushrL ((am_landL (a - (am_landL (am_ushrL a 1) 6148914691236517205)) 3689348814741910323) + (am_landL (am_ushrL (a - (am_landL (am_ushrL a 1) 6148914691236517205)) 2) 3689348814741910323)) 4)) 1085102592571150095) + (am_ushrL (am_landL (((am_landL (a - (am_landL (am_ushrL a 1) 6148914691236517205)) 3689348814741910323) + (am_landL (am_ushrL (a - (am_landL (am_ushrL a 1) 6148914691236517205)) 2) 3689348814741910323)) + (am_ushrL ((am_landL (a - (am_landL (am_ushrL a 1) 6148914691236517205)) 3689348814741910323) + (am_landL (am_ushrL (a - (am_landL (am_ushrL a 1) 6148914691236517205)) 2) 3689348814741910323)) 4)) 1085102592571150095) 8)) 16)) + (am_ushrL (((am_landL (((am_landL (a - (am_landL (am_ushrL a 1) 6148914691236517205)) 3689348814741910323) + (am_landL (am_ushrL (a - (am_landL (am_ushrL a 1) 6148914691236517205)) 2) 3689348814741910323)) + (am_ushrL ((am_landL (a - (am_landL (am_ushrL a 1) 6148914691236517205)) 3689348814741910323) + (am_landL (am_ushrL (a - (am_landL (am_ushrL a 1) 6148914691236517205)) 2) 3689348814741910323)) 4)) 1085102592571150095) + (am_ushrL (am_landL (((am_landL (a - (am_landL (am_ushrL a 1) 6148914691236517205)) 3689348814741910323) + (am_landL (am_ushrL (a - (am_landL (am_ushrL a 1) 6148914691236517205)) 2) 3689348814741910323)) + (am_ushrL ((am_landL (a - (am_landL (am_ushrL a 1) 6148914691236517205)) 3689348814741910323) + (am_landL (am_ushrL (a - (am_landL (am_ushrL a 1) 6148914691236517205)) 2) 3689348814741910323)) 4)) 1085102592571150095) 8)) + (am_ushrL ((am_landL (((am_landL (a - (am_landL (am_ushrL a 1) 6148914691236517205)) 3689348814741910323) + (am_landL (am_ushrL (a - (am_landL (am_ushrL a 1) 6148914691236517205)) 2) 3689348814741910323)) + (am_ushrL ((am_landL (a - (am_landL (am_ushrL a 1) 6148914691236517205)) 3689348814741910323) + (am_landL (am_ushrL (a - (am_landL (am_ushrL a 1) 6148914691236517205)) 2) 3689348814741910323)) 4)) 1085102592571150095) + (am_ushrL (am_landL (((am_landL (a - (am_landL (am_ushrL a 1) 6148914691236517205)) 3689348814741910323) + (am_landL (am_ushrL (a - (am_landL (am_ushrL a 1) 6148914691236517205)) 2) 3689348814741910323)) + (am_ushrL ((am_landL (a - (am_landL (am_ushrL a 1) 6148914691236517205)) 3689348814741910323) + (am_landL (am_ushrL (a - (am_landL (am_ushrL a 1) 6148914691236517205)) 2) 3689348814741910323)) 4)) 1085102592571150095) 8)) 16)) 32)) 127)], st0 m)) : rn fx 0 (0, 0) 49 0 [some (.inr (.inl a)), none] [] (st0 m) o := by
  refine r_ld (pc' := 1) hM_49 d_49_0 rfl rfl ?_
  refine r_ld (pc' := 2) hM_49 d_49_1 rfl rfl ?_
  refine r_k (pc' := 3) (v := .inl 1) hM_49 d_49_2 rfl rfl ?_
  refine r_stk (pc' := 4) (st' := [.inr (.inl (am_ushrL a 1)), .inr (.inl a)]) hM_49 d_49_3 rfl rfl ?_
  refine r_k (pc' := 7) (v := .inr (.inl 6148914691236517205)) hM_49 d_49_4 rfl (by decide +kernel) ?_
  refine r_stk (pc' := 8) (st' := [.inr (.inl (am_landL (am_ushrL a 1) 6148914691236517205)), .inr (.inl a)]) hM_49 d_49_7 rfl rfl ?_
  refine r_stk (pc' := 9) (st' := [.inr (.inl (a - (am_landL (am_ushrL a 1) 6148914691236517205)))]) hM_49 d_49_8 rfl rfl ?_
  refine r_sto (pc' := 10) (ls' := [some (.inr (.inl (a - (am_landL (am_ushrL a 1) 6148914691236517205)))), none]) hM_49 d_49_9 rfl rfl ?_
  refine r_ld (pc' := 11) hM_49 d_49_10 rfl rfl ?_
  refine r_k (pc' := 14) (v := .inr (.inl 3689348814741910323)) hM_49 d_49_11 rfl (by decide +kernel) ?_
  refine r_stk (pc' := 15) (st' := [.inr (.inl (am_landL (a - (am_landL (am_ushrL a 1) 6148914691236517205)) 3689348814741910323))]) hM_49 d_49_14 rfl rfl ?_
  refine r_ld (pc' := 16) hM_49 d_49_15 rfl rfl ?_
  refine r_k (pc' := 17) (v := .inl 2) hM_49 d_49_16 rfl rfl ?_
  refine r_stk (pc' := 18) (st' := [.inr (.inl (am_ushrL (a - (am_landL (am_ushrL a 1) 6148914691236517205)) 2)), .inr (.inl (am_landL (a - (am_landL (am_ushrL a 1) 6148914691236517205)) 3689348814741910323))]) hM_49 d_49_17 rfl rfl ?_
  refine r_k (pc' := 21) (v := .inr (.inl 3689348814741910323)) hM_49 d_49_18 rfl (by decide +kernel) ?_
  refine r_stk (pc' := 22) (st' := [.inr (.inl (am_landL (am_ushrL (a - (am_landL (am_ushrL a 1) 6148914691236517205)) 2) 3689348814741910323)), .inr (.inl (am_landL (a - (am_landL (am_ushrL a 1) 6148914691236517205)) 3689348814741910323))]) hM_49 d_49_21 rfl rfl ?_
  refine r_stk (pc' := 23) (st' := [.inr (.inl ((am_landL (a - (am_landL (am_ushrL a 1) 6148914691236517205)) 3689348814741910323) + (am_landL (am_ushrL (a - (am_landL (am_ushrL a 1) 6148914691236517205)) 2) 3689348814741910323)))]) hM_49 d_49_22 rfl rfl ?_
  refine r_sto (pc' := 24) (ls' := [some (.inr (.inl ((am_landL (a - (am_landL (am_ushrL a 1) 6148914691236517205)) 3689348814741910323) + (am_landL (am_ushrL (a - (am_landL (am_ushrL a 1) 6148914691236517205)) 2) 3689348814741910323)))), none]) hM_49 d_49_23 rfl rfl ?_
  refine r_ld (pc' := 25) hM_49 d_49_24 rfl rfl ?_
  refine r_ld (pc' := 26) hM_49 d_49_25 rfl rfl ?_
  refine r_k (pc' := 27) (v := .inl 4) hM_49 d_49_26 rfl rfl ?_
  refine r_stk (pc' := 28) (st' := [.inr (.inl (am_ushrL ((am_landL (a - (am_landL (am_ushrL a 1) 6148914691236517205)) 3689348814741910323) + (am_landL (am_ushrL (a - (am_landL (am_ushrL a 1) 6148914691236517205)) 2) 3689348814741910323)) 4)), .inr (.inl ((am_landL (a - (am_landL (am_ushrL a 1) 6148914691236517205)) 3689348814741910323) + (am_landL (am_ushrL (a - (am_landL (am_ushrL a 1) 6148914691236517205)) 2) 3689348814741910323)))]) hM_49 d_49_27 rfl rfl ?_
  refine r_stk (pc' := 29) (st' := [.inr (.inl (((am_landL (a - (am_landL (am_ushrL a 1) 6148914691236517205)) 3689348814741910323) + (am_landL (am_ushrL (a - (am_landL (am_ushrL a 1) 6148914691236517205)) 2) 3689348814741910323)) + (am_ushrL ((am_landL (a - (am_landL (am_ushrL a 1) 6148914691236517205)) 3689348814741910323) + (am_landL (am_ushrL (a - (am_landL (am_ushrL a 1) 6148914691236517205)) 2) 3689348814741910323)) 4)))]) hM_49 d_49_28 rfl rfl ?_
  refine r_k (pc' := 32) (v := .inr (.inl 1085102592571150095)) hM_49 d_49_29 rfl (by decide +kernel) ?_
  refine r_stk (pc' := 33) (st' := [.inr (.inl (am_landL (((am_landL (a - (am_landL (am_ushrL a 1) 6148914691236517205)) 3689348814741910323) + (am_landL (am_ushrL (a - (am_landL (am_ushrL a 1) 6148914691236517205)) 2) 3689348814741910323)) + (am_ushrL ((am_landL (a - (am_landL (am_ushrL a 1) 6148914691236517205)) 3689348814741910323) + (am_landL (am_ushrL (a - (am_landL (am_ushrL a 1) 6148914691236517205)) 2) 3689348814741910323)) 4)) 1085102592571150095))]) hM_49 d_49_32 rfl rfl ?_
  refine r_sto (pc' := 34) (ls' := [some (.inr (.inl (am_landL (((am_landL (a - (am_landL (am_ushrL a 1) 6148914691236517205)) 3689348814741910323) + (am_landL (am_ushrL (a - (am_landL (am_ushrL a 1) 6148914691236517205)) 2) 3689348814741910323)) + (am_ushrL ((am_landL (a - (am_landL (am_ushrL a 1) 6148914691236517205)) 3689348814741910323) + (am_landL (am_ushrL (a - (am_landL (am_ushrL a 1) 6148914691236517205)) 2) 3689348814741910323)) 4)) 1085102592571150095))), none]) hM_49 d_49_33 rfl rfl ?_
  refine r_ld (pc' := 35) hM_49 d_49_34 rfl rfl ?_
  refine r_ld (pc' := 36) hM_49 d_49_35 rfl rfl ?_
  refine r_k (pc' := 38) (v := .inl 8) hM_49 d_49_36 rfl rfl ?_
  refine r_stk (pc' := 39) (st' := [.inr (.inl (am_ushrL (am_landL (((am_landL (a - (am_landL (am_ushrL a 1) 6148914691236517205)) 3689348814741910323) + (am_landL (am_ushrL (a - (am_landL (am_ushrL a 1) 6148914691236517205)) 2) 3689348814741910323)) + (am_ushrL ((am_landL (a - (am_landL (am_ushrL a 1) 6148914691236517205)) 3689348814741910323) + (am_landL (am_ushrL (a - (am_landL (am_ushrL a 1) 6148914691236517205)) 2) 3689348814741910323)) 4)) 1085102592571150095) 8)), .inr (.inl (am_landL (((am_landL (a - (am_landL (am_ushrL a 1) 6148914691236517205)) 3689348814741910323) + (am_landL (am_ushrL (a - (am_landL (am_ushrL a 1) 6148914691236517205)) 2) 3689348814741910323)) + (am_ushrL ((am_landL (a - (am_landL (am_ushrL a 1) 6148914691236517205)) 3689348814741910323) + (am_landL (am_ushrL (a - (am_landL (am_ushrL a 1) 6148914691236517205)) 2) 3689348814741910323)) 4)) 1085102592571150095))]) hM_49 d_49_38 rfl rfl ?_
  refine r_stk (pc' := 40) (st' := [.inr (.inl ((am_landL (((am_landL (a - (am_landL (am_ushrL a 1) 6148914691236517205)) 3689348814741910323) + (am_landL (am_ushrL (a - (am_landL (am_ushrL a 1) 6148914691236517205)) 2) 3689348814741910323)) + (am_ushrL ((am_landL (a - (am_landL (am_ushrL a 1) 6148914691236517205)) 3689348814741910323) + (am_landL (am_ushrL (a - (am_landL (am_ushrL a 1) 6148914691236517205)) 2) 3689348814741910323)) 4)) 1085102592571150095) + (am_ushrL (am_landL (((am_landL (a - (am_landL (am_ushrL a 1) 6148914691236517205)) 3689348814741910323) + (am_landL (am_ushrL (a - (am_landL (am_ushrL a 1) 6148914691236517205)) 2) 3689348814741910323)) + (am_ushrL ((am_landL (a - (am_landL (am_ushrL a 1) 6148914691236517205)) 3689348814741910323) + (am_landL (am_ushrL (a - (am_landL (am_ushrL a 1) 6148914691236517205)) 2) 3689348814741910323)) 4)) 1085102592571150095) 8)))]) hM_49 d_49_39 rfl rfl ?_
  refine r_sto (pc' := 41) (ls' := [some (.inr (.inl ((am_landL (((am_landL (a - (am_landL (am_ushrL a 1) 6148914691236517205)) 3689348814741910323) + (am_landL (am_ushrL (a - (am_landL (am_ushrL a 1) 6148914691236517205)) 2) 3689348814741910323)) + (am_ushrL ((am_landL (a - (am_landL (am_ushrL a 1) 6148914691236517205)) 3689348814741910323) + (am_landL (am_ushrL (a - (am_landL (am_ushrL a 1) 6148914691236517205)) 2) 3689348814741910323)) 4)) 1085102592571150095) + (am_ushrL (am_landL (((am_landL (a - (am_landL (am_ushrL a 1) 6148914691236517205)) 3689348814741910323) + (am_landL (am_ushrL (a - (am_landL (am_ushrL a 1) 6148914691236517205)) 2) 3689348814741910323)) + (am_ushrL ((am_landL (a - (am_landL (am_ushrL a 1) 6148914691236517205)) 3689348814741910323) + (am_landL (am_ushrL (a - (am_landL (am_ushrL a 1) 6148914691236517205)) 2) 3689348814741910323)) 4)) 1085102592571150095) 8)))), none]) hM_49 d_49_40 rfl rfl ?_
  refine r_ld (pc' := 42) hM_49 d_49_41 rfl rfl ?_
  refine r_ld (pc' := 43) hM_49 d_49_42 rfl rfl ?_
  refine r_k (pc' := 45) (v := .inl 16) hM_49 d_49_43 rfl rfl ?_
  refine r_stk (pc' := 46) (st' := [.inr (.inl (am_ushrL ((am_landL (((am_landL (a - (am_landL (am_ushrL a 1) 6148914691236517205)) 3689348814741910323) + (am_landL (am_ushrL (a - (am_landL (am_ushrL a 1) 6148914691236517205)) 2) 3689348814741910323)) + (am_ushrL ((am_landL (a - (am_landL (am_ushrL a 1) 6148914691236517205)) 3689348814741910323) + (am_landL (am_ushrL (a - (am_landL (am_ushrL a 1) 6148914691236517205)) 2) 3689348814741910323)) 4)) 1085102592571150095) + (am_ushrL (am_landL (((am_landL (a - (am_landL (am_ushrL a 1) 6148914691236517205)) 3689348814741910323) + (am_landL (am_ushrL (a - (am_landL (am_ushrL a 1) 6148914691236517205)) 2) 3689348814741910323)) + (am_ushrL ((am_landL (a - (am_landL (am_ushrL a 1) 6148914691236517205)) 3689348814741910323) + (am_landL (am_ushrL (a - (am_landL (am_ushrL a 1) 6148914691236517205)) 2) 3689348814741910323)) 4)) 1085102592571150095) 8)) 16)), .inr (.inl ((am_landL (((am_landL (a - (am_landL (am_ushrL a 1) 6148914691236517205)) 3689348814741910323) + (am_landL (am_ushrL (a - (am_landL (am_ushrL a 1) 6148914691236517205)) 2) 3689348814741910323)) + (am_ushrL ((am_landL (a - (am_landL (am_ushrL a 1) 6148914691236517205)) 3689348814741910323) + (am_landL (am_ushrL (a - (am_landL (am_ushrL a 1) 6148914691236517205)) 2) 3689348814741910323)) 4)) 1085102592571150095) + (am_ushrL (am_landL (((am_landL (a - (am_landL (am_ushrL a 1) 6148914691236517205)) 3689348814741910323) + (am_landL (am_ushrL (a - (am_landL (am_ushrL a 1) 6148914691236517205)) 2) 3689348814741910323)) + (am_ushrL ((am_landL (a - (am_landL (am_ushrL a 1) 6148914691236517205)) 3689348814741910323) + (am_landL (am_ushrL (a - (am_landL (am_ushrL a 1) 6148914691236517205)) 2) 3689348814741910323)) 4)) 1085102592571150095) 8)))]) hM_49 d_49_45 rfl rfl ?_
  refine r_stk (pc' := 47) (st' := [.inr (.inl (((am_landL (((am_landL (a - (am_landL (am_ushrL a 1) 6148914691236517205)) 3689348814741910323) + (am_landL (am_ushrL (a - (am_landL (am_ushrL a 1) 6148914691236517205)) 2) 3689348814741910323)) + (am_ushrL ((am_landL (a - (am_landL (am_ushrL a 1) 6148914691236517205)) 3689348814741910323) + (am_landL (am_ushrL (a - (am_landL (am_ushrL a 1) 6148914691236517205)) 2) 3689348814741910323)) 4)) 1085102592571150095) + (am_ushrL (am_landL (((am_landL (a - (am_landL (am_ushrL a 1) 6148914691236517205)) 3689348814741910323) + (am_landL (am_ushrL (a - (am_landL (am_ushrL a 1) 6148914691236517205)) 2) 3689348814741910323)) + (am_ushrL ((am_landL (a - (am_landL (am_ushrL a 1) 6148914691236517205)) 3689348814741910323) + (am_landL (am_ushrL (a - (am_landL (am_ushrL a 1) 6148914691236517205)) 2) 3689348814741910323)) 4)) 1085102592571150095) 8)) + (am_ushrL ((am_landL (((am_landL (a - (am_landL (am_ushrL a 1) 6148914691236517205)) 3689348814741910323) + (am_landL (am_ushrL (a - (am_landL (am_ushrL a 1) 6148914691236517205)) 2) 3689348814741910323)) + (am_ushrL ((am_landL (a - (am_landL (am_ushrL a 1) 6148914691236517205)) 3689348814741910323) + (am_landL (am_ushrL (a - (am_landL (am_ushrL a 1) 6148914691236517205)) 2) 3689348814741910323)) 4)) 1085102592571150095) + (am_ushrL (am_landL (((am_landL (a - (am_landL (am_ushrL a 1) 6148914691236517205)) 3689348814741910323) + (am_landL (am_ushrL (a - (am_landL (am_ushrL a 1) 6148914691236517205)) 2) 3689348814741910323)) + (am_ushrL ((am_landL (a - (am_landL (am_ushrL a 1) 6148914691236517205)) 3689348814741910323) + (am_landL (am_ushrL (a - (am_landL (am_ushrL a 1) 6148914691236517205)) 2) 3689348814741910323)) 4)) 1085102592571150095) 8)) 16)))]) hM_49 d_49_46 rfl rfl ?_
  refine r_sto (pc' := 48) (ls' := [some (.inr (.inl (((am_landL (((am_landL (a - (am_landL (am_ushrL a 1) 6148914691236517205)) 3689348814741910323) + (am_landL (am_ushrL (a - (am_landL (am_ushrL a 1) 6148914691236517205)) 2) 3689348814741910323)) + (am_ushrL ((am_landL (a - (am_landL (am_ushrL a 1) 6148914691236517205)) 3689348814741910323) + (am_landL (am_ushrL (a - (am_landL (am_ushrL a 1) 6148914691236517205)) 2) 3689348814741910323)) 4)) 1085102592571150095) + (am_ushrL (am_landL (((am_landL (a - (am_landL (am_ushrL a 1) 6148914691236517205)) 3689348814741910323) + (am_landL (am_ushrL (a - (am_landL (am_ushrL a 1) 6148914691236517205)) 2) 3689348814741910323)) + (am_ushrL ((am_landL (a - (am_landL (am_ushrL a 1) 6148914691236517205)) 3689348814741910323) + (am_landL (am_ushrL (a - (am_landL (am_ushrL a 1) 6148914691236517205)) 2) 3689348814741910323)) 4)) 1085102592571150095) 8)) + (am_ushrL ((am_landL (((am_landL (a - (am_landL (am_ushrL a 1) 6148914691236517205)) 3689348814741910323) + (am_landL (am_ushrL (a - (am_landL (am_ushrL a 1) 6148914691236517205)) 2) 3689348814741910323)) + (am_ushrL ((am_landL (a - (am_landL (am_ushrL a 1) 6148914691236517205)) 3689348814741910323) + (am_landL (am_ushrL (a - (am_landL (am_ushrL a 1) 6148914691236517205)) 2) 3689348814741910323)) 4)) 1085102592571150095) + (am_ushrL (am_landL (((am_landL (a - (am_landL (am_ushrL a 1) 6148914691236517205)) 3689348814741910323) + (am_landL (am_ushrL (a - (am_landL (am_ushrL a 1) 6148914691236517205)) 2) 3689348814741910323)) + (am_ushrL ((am_landL (a - (am_landL (am_ushrL a 1) 6148914691236517205)) 3689348814741910323) + (am_landL (am_ushrL (a - (am_landL (am_ushrL a 1) 6148914691236517205)) 2) 3689348814741910323)) 4)) 1085102592571150095) 8)) 16)))), none]) hM_49 d_49_47 rfl rfl ?_
  refine r_ld (pc' := 49) hM_49 d_49_48 rfl rfl ?_
  refine r_ld (pc' := 50) hM_49 d_49_49 rfl rfl ?_
  refine r_k (pc' := 52) (v := .inl 32) hM_49 d_49_50 rfl rfl ?_
  refine r_stk (pc' := 53) (st' := [.inr (.inl (am_ushrL (((am_landL (((am_landL (a - (am_landL (am_ushrL a 1) 6148914691236517205)) 3689348814741910323) + (am_landL (am_ushrL (a - (am_landL (am_ushrL a 1) 6148914691236517205)) 2) 3689348814741910323)) + (am_ushrL ((am_landL (a - (am_landL (am_ushrL a 1) 6148914691236517205)) 3689348814741910323) + (am_landL (am_ushrL (a - (am_landL (am_ushrL a 1) 6148914691236517205)) 2) 3689348814741910323)) 4)) 1085102592571150095) + (am_ushrL (am_landL (((am_landL (a - (am_landL (am_ushrL a 1) 6148914691236517205)) 3689348814741910323) + (am_landL (am_ushrL (a - (am_landL (am_ushrL a 1) 6148914691236517205)) 2) 3689348814741910323)) + (am_ushrL ((am_landL (a - (am_landL (am_ushrL a 1) 6148914691236517205)) 3689348814741910323) + (am_landL (am_ushrL (a - (am_landL (am_ushrL a 1) 6148914691236517205)) 2) 3689348814741910323)) 4)) 1085102592571150095) 8)) + (am_ushrL ((am_landL (((am_landL (a - (am_landL (am_ushrL a 1) 6148914691236517205)) 3689348814741910323) + (am_landL (am_ushrL (a - (am_landL (am_ushrL a 1) 6148914691236517205)) 2) 3689348814741910323)) + (am_ushrL ((am_landL (a - (am_landL (am_ushrL a 1) 6148914691236517205)) 3689348814741910323) + (am_landL (am_ushrL (a - (am_landL (am_ushrL a 1) 6148914691236517205)) 2) 3689348814741910323)) 4)) 1085102592571150095) + (am_ushrL (am_landL (((am_landL (a - (am_landL (am_ushrL a 1) 6148914691236517205)) 3689348814741910323) + (am_landL (am_ushrL (a - (am_landL (am_ushrL a 1) 6148914691236517205)) 2) 3689348814741910323)) + (am_ushrL ((am_landL (a - (am_landL (am_ushrL a 1) 6148914691236517205)) 3689348814741910323) + (am_landL (am_ushrL (a - (am_landL (am_ushrL a 1) 6148914691236517205)) 2) 3689348814741910323)) 4)) 1085102592571150095) 8)) 16)) 32)), .inr (.inl (((am_landL (((am_landL (a - (am_landL (am_ushrL a 1) 6148914691236517205)) 3689348814741910323) + (am_landL (am_ushrL (a - (am_landL (am_ushrL a 1) 6148914691236517205)) 2) 3689348814741910323)) + (am_ushrL ((am_landL (a - (am_landL (am_ushrL a 1) 6148914691236517205)) 3689348814741910323) + (am_landL (am_ushrL (a - (am_landL (am_ushrL a 1) 6148914691236517205)) 2) 3689348814741910323)) 4)) 1085102592571150095) + (am_ushrL (am_landL (((am_landL (a - (am_landL (am_ushrL a 1) 6148914691236517205)) 3689348814741910323) + (am_landL (am_ushrL (a - (am_landL (am_ushrL a 1) 6148914691236517205)) 2) 3689348814741910323)) + (am_ushrL ((am_landL (a - (am_landL (am_ushrL a 1) 6148914691236517205)) 3689348814741910323) + (am_landL (am_ushrL (a - (am_landL (am_ushrL a 1) 6148914691236517205)) 2) 3689348814741910323)) 4)) 1085102592571150095) 8)) + (am_ushrL ((am_landL (((am_landL (a - (am_landL (am_ushrL a 1) 6148914691236517205)) 3689348814741910323) + (am_landL (am_ushrL (a - (am_landL (am_ushrL a 1) 6148914691236517205)) 2) 3689348814741910323)) + (am_ushrL ((am_landL (a - (am_landL (am_ushrL a 1) 6148914691236517205)) 3689348814741910323) + (am_landL (am_ushrL (a - (am_landL (am_ushrL a 1) 6148914691236517205)) 2) 3689348814741910323)) 4)) 1085102592571150095) + (am_ushrL (am_landL (((am_landL (a - (am_landL (am_ushrL a 1) 6148914691236517205)) 3689348814741910323) + (am_landL (am_ushrL (a - (am_landL (am_ushrL a 1) 6148914691236517205)) 2) 3689348814741910323)) + (am_ushrL ((am_landL (a - (am_landL (am_ushrL a 1) 6148914691236517205)) 3689348814741910323) + (am_landL (am_ushrL (a - (am_landL (am_ushrL a 1) 6148914691236517205)) 2) 3689348814741910323)) 4)) 1085102592571150095) 8)) 16)))]) hM_49 d_49_52 rfl rfl ?_
  refine r_stk (pc' := 54) (st' := [.inr (.inl ((((am_landL (((am_landL (a - (am_landL (am_ushrL a 1) 6148914691236517205)) 3689348814741910323) + (am_landL (am_ushrL (a - (am_landL (am_ushrL a 1) 6148914691236517205)) 2) 3689348814741910323)) + (am_ushrL ((am_landL (a - (am_landL (am_ushrL a 1) 6148914691236517205)) 3689348814741910323) + (am_landL (am_ushrL (a - (am_landL (am_ushrL a 1) 6148914691236517205)) 2) 3689348814741910323)) 4)) 1085102592571150095) + (am_ushrL (am_landL (((am_landL (a - (am_landL (am_ushrL a 1) 6148914691236517205)) 3689348814741910323) + (am_landL (am_ushrL (a - (am_landL (am_ushrL a 1) 6148914691236517205)) 2) 3689348814741910323)) + (am_ushrL ((am_landL (a - (am_landL (am_ushrL a 1) 6148914691236517205)) 3689348814741910323) + (am_landL (am_ushrL (a - (am_landL (am_ushrL a 1) 6148914691236517205)) 2) 3689348814741910323)) 4)) 1085102592571150095) 8)) + (am_ushrL ((am_landL (((am_landL (a - (am_landL (am_ushrL a 1) 6148914691236517205)) 3689348814741910323) + (am_landL (am_ushrL (a - (am_landL (am_ushrL a 1) 6148914691236517205)) 2) 3689348814741910323)) + (am_ushrL ((am_landL (a - (am_landL (am_ushrL a 1) 6148914691236517205)) 3689348814741910323) + (am_landL (am_ushrL (a - (am_landL (am_ushrL a 1) 6148914691236517205)) 2) 3689348814741910323)) 4)) 1085102592571150095) + (am_ushrL (am_landL (((am_landL (a - (am_landL (am_ushrL a 1) 6148914691236517205)) 3689348814741910323) + (am_landL (am_ushrL (a - (am_landL (am_ushrL a 1) 6148914691236517205)) 2) 3689348814741910323)) + (am_ushrL ((am_landL (a - (am_landL (am_ushrL a 1) 6148914691236517205)) 3689348814741910323) + (am_landL (am_ushrL (a - (am_landL (am_ushrL a 1) 6148914691236517205)) 2) 3689348814741910323)) 4)) 1085102592571150095) 8)) 16)) + (am_ushrL (((am_landL (((am_landL (a - (am_landL (am_ushrL a 1) 6148914691236517205)) 3689348814741910323) + (am_landL (am_ushrL (a - (am_landL (am_ushrL a 1) 6148914691236517205)) 2) 3689348814741910323)) + (am_ushrL ((am_landL (a - (am_landL (am_ushrL a 1) 6148914691236517205)) 3689348814741910323) + (am_landL (am_ushrL (a - (am_landL (am_ushrL a 1) 6148914691236517205)) 2) 3689348814741910323)) 4)) 1085102592571150095) + (am_ushrL (am_landL (((am_landL (a - (am_landL (am_ushrL a 1) 6148914691236517205)) 3689348814741910323) + (am_landL (am_ushrL (a - (am_landL (am_ushrL a 1) 6148914691236517205)) 2) 3689348814741910323)) + (am_ushrL ((am_landL (a - (am_landL (am_ushrL a 1) 6148914691236517205)) 3689348814741910323) + (am_landL (am_ushrL (a - (am_landL (am_ushrL a 1) 6148914691236517205)) 2) 3689348814741910323)) 4)) 1085102592571150095) 8)) + (am_ushrL ((am_landL (((am_landL (a - (am_landL (am_ushrL a 1) 6148914691236517205)) 3689348814741910323) + (am_landL (am_ushrL (a - (am_landL (am_ushrL a 1) 6148914691236517205)) 2) 3689348814741910323)) + (am_ushrL ((am_landL (a - (am_landL (am_ushrL a 1) 6148914691236517205)) 3689348814741910323) + (am_landL (am_ushrL (a - (am_landL (am_ushrL a 1) 6148914691236517205)) 2) 3689348814741910323)) 4)) 1085102592571150095) + (am_ushrL (am_landL (((am_landL (a - (am_landL (am_ushrL a 1) 6148914691236517205)) 3689348814741910323) + (am_landL (am_ushrL (a - (am_landL (am_ushrL a 1) 6148914691236517205)) 2) 3689348814741910323)) + (am_ushrL ((am_landL (a - (am_landL (am_ushrL a 1) 6148914691236517205)) 3689348814741910323) + (am_landL (am_ushrL (a - (am_landL (am_ushrL a 1) 6148914691236517205)) 2) 3689348814741910323)) 4)) 1085102592571150095) 8)) 16)) 32)))]) hM_49 d_49_53 rfl rfl ?_
  refine r_sto (pc' := 55) (ls' := [some (.inr (.inl ((((am_landL (((am_landL (a - (am_landL (am_ushrL a 1) 6148914691236517205)) 3689348814741910323) + (am_landL (am_ushrL (a - (am_landL (am_ushrL a 1) 6148914691236517205)) 2) 3689348814741910323)) + (am_ushrL ((am_landL (a - (am_landL (am_ushrL a 1) 6148914691236517205)) 3689348814741910323) + (am_landL (am_ushrL (a - (am_landL (am_ushrL a 1) 6148914691236517205)) 2) 3689348814741910323)) 4)) 1085102592571150095) + (am_ushrL (am_landL (((am_landL (a - (am_landL (am_ushrL a 1) 6148914691236517205)) 3689348814741910323) + (am_landL (am_ushrL (a - (am_landL (am_ushrL a 1) 6148914691236517205)) 2) 3689348814741910323)) + (am_ushrL ((am_landL (a - (am_landL (am_ushrL a 1) 6148914691236517205)) 3689348814741910323) + (am_landL (am_ushrL (a - (am_landL (am_ushrL a 1) 6148914691236517205)) 2) 3689348814741910323)) 4)) 1085102592571150095) 8)) + (am_ushrL ((am_landL (((am_landL (a - (am_landL (am_ushrL a 1) 6148914691236517205)) 3689348814741910323) + (am_landL (am_ushrL (a - (am_landL (am_ushrL a 1) 6148914691236517205)) 2) 3689348814741910323)) + (am_ushrL ((am_landL (a - (am_landL (am_ushrL a 1) 6148914691236517205)) 3689348814741910323) + (am_landL (am_ushrL (a - (am_landL (am_ushrL a 1) 6148914691236517205)) 2) 3689348814741910323)) 4)) 1085102592571150095) + (am_ushrL (am_landL (((am_landL (a - (am_landL (am_ushrL a 1) 6148914691236517205)) 3689348814741910323) + (am_landL (am_ushrL (a - (am_landL (am_ushrL a 1) 6148914691236517205)) 2) 3689348814741910323)) + (am_ushrL ((am_landL (a - (am_landL (am_ushrL a 1) 6148914691236517205)) 3689348814741910323) + (am_landL (am_ushrL (a - (am_landL (am_ushrL a 1) 6148914691236517205)) 2) 3689348814741910323)) 4)) 1085102592571150095) 8)) 16)) + (am_ushrL (((am_landL (((am_landL (a - (am_landL (am_ushrL a 1) 6148914691236517205)) 3689348814741910323) + (am_landL (am_ushrL (a - (am_landL (am_ushrL a 1) 6148914691236517205)) 2) 3689348814741910323)) + (am_ushrL ((am_landL (a - (am_landL (am_ushrL a 1) 6148914691236517205)) 3689348814741910323) + (am_landL (am_ushrL (a - (am_landL (am_ushrL a 1) 6148914691236517205)) 2) 3689348814741910323)) 4)) 1085102592571150095) + (am_ushrL (am_landL (((am_landL (a - (am_landL (am_ushrL a 1) 6148914691236517205)) 3689348814741910323) + (am_landL (am_ushrL (a - (am_landL (am_ushrL a 1) 6148914691236517205)) 2) 3689348814741910323)) + (am_ushrL ((am_landL (a - (am_landL (am_ushrL a 1) 6148914691236517205)) 3689348814741910323) + (am_landL (am_ushrL (a - (am_landL (am_ushrL a 1) 6148914691236517205)) 2) 3689348814741910323)) 4)) 1085102592571150095) 8)) + (am_ushrL ((am_landL (((am_landL (a - (am_landL (am_ushrL a 1) 6148914691236517205)) 3689348814741910323) + (am_landL (am_ushrL (a - (am_landL (am_ushrL a 1) 6148914691236517205)) 2) 3689348814741910323)) + (am_ushrL ((am_landL (a - (am_landL (am_ushrL a 1) 6148914691236517205)) 3689348814741910323) + (am_landL (am_ushrL (a - (am_landL (am_ushrL a 1) 6148914691236517205)) 2) 3689348814741910323)) 4)) 1085102592571150095) + (am_ushrL (am_landL (((am_landL (a - (am_landL (am_ushrL a 1) 6148914691236517205)) 3689348814741910323) + (am_landL (am_ushrL (a - (am_landL (am_ushrL a 1) 6148914691236517205)) 2) 3689348814741910323)) + (am_ushrL ((am_landL (a - (am_landL (am_ushrL a 1) 6148914691236517205)) 3689348814741910323) + (am_landL (am_ushrL (a - (am_landL (am_ushrL a 1) 6148914691236517205)) 2) 3689348814741910323)) 4)) 1085102592571150095) 8)) 16)) 32)))), none]) hM_49 d_49_54 rfl rfl ?_
  refine r_ld (pc' := 56) hM_49 d_49_55 rfl rfl ?_
  refine r_stk (pc' := 57) (st' := [.inl ((((am_landL (((am_landL (a - (am_landL (am_ushrL a 1) 6148914691236517205)) 3689348814741910323) + (am_landL (am_ushrL (a - (am_landL (am_ushrL a 1) 6148914691236517205)) 2) 3689348814741910323)) + (am_ushrL ((am_landL (a - (am_landL (am_ushrL a 1) 6148914691236517205)) 3689348814741910323) + (am_landL (am_ushrL (a - (am_landL (am_ushrL a 1) 6148914691236517205)) 2) 3689348814741910323)) 4)) 1085102592571150095) + (am_ushrL (am_landL (((am_landL (a - (am_landL (am_ushrL a 1) 6148914691236517205)) 3689348814741910323) + (am_landL (am_ushrL (a - (am_landL (am_ushrL a 1) 6148914691236517205)) 2) 3689348814741910323)) + (am_ushrL ((am_landL (a - (am_landL (am_ushrL a 1) 6148914691236517205)) 3689348814741910323) + (am_landL (am_ushrL (a - (am_landL (am_ushrL a 1) 6148914691236517205)) 2) 3689348814741910323)) 4)) 1085102592571150095) 8)) + (am_ushrL ((am_landL (((am_landL (a - (am_landL (am_ushrL a 1) 6148914691236517205)) 3689348814741910323) + (am_landL (am_ushrL (a - (am_landL (am_ushrL a 1) 6148914691236517205)) 2) 3689348814741910323)) + (am_ushrL ((am_landL (a - (am_landL (am_ushrL a 1) 6148914691236517205)) 3689348814741910323) + (am_landL (am_ushrL (a - (am_landL (am_ushrL a 1) 6148914691236517205)) 2) 3689348814741910323)) 4)) 1085102592571150095) + (am_ushrL (am_landL (((am_landL (a - (am_landL (am_ushrL a 1) 6148914691236517205)) 3689348814741910323) + (am_landL (am_ushrL (a - (am_landL (am_ushrL a 1) 6148914691236517205)) 2) 3689348814741910323)) + (am_ushrL ((am_landL (a - (am_landL (am_ushrL a 1) 6148914691236517205)) 3689348814741910323) + (am_landL (am_ushrL (a - (am_landL (am_ushrL a 1) 6148914691236517205)) 2) 3689348814741910323)) 4)) 1085102592571150095) 8)) 16)) + (am_ushrL (((am_landL (((am_landL (a - (am_landL (am_ushrL a 1) 6148914691236517205)) 3689348814741910323) + (am_landL (am_ushrL (a - (am_landL (am_ushrL a 1) 6148914691236517205)) 2) 3689348814741910323)) + (am_ushrL ((am_landL (a - (am_landL (am_ushrL a 1) 6148914691236517205)) 3689348814741910323) + (am_landL (am_ushrL (a - (am_landL (am_ushrL a 1) 6148914691236517205)) 2) 3689348814741910323)) 4)) 1085102592571150095) + (am_ushrL (am_landL (((am_landL (a - (am_landL (am_ushrL a 1) 6148914691236517205)) 3689348814741910323) + (am_landL (am_ushrL (a - (am_landL (am_ushrL a 1) 6148914691236517205)) 2) 3689348814741910323)) + (am_ushrL ((am_landL (a - (am_landL (am_ushrL a 1) 6148914691236517205)) 3689348814741910323) + (am_landL (am_ushrL (a - (am_landL (am_ushrL a 1) 6148914691236517205)) 2) 3689348814741910323)) 4)) 1085102592571150095) 8)) + (am_ushrL ((am_landL (((am_landL (a - (am_landL (am_ushrL a 1) 6148914691236517205)) 3689348814741910323) + (am_landL (am_ushrL (a - (am_landL (am_ushrL a 1) 6148914691236517205)) 2) 3689348814741910323)) + (am_ushrL ((am_landL (a - (am_landL (am_ushrL a 1) 6148914691236517205)) 3689348814741910323) + (am_landL (am_ushrL (a - (am_landL (am_ushrL a 1) 6148914691236517205)) 2) 3689348814741910323)) 4)) 1085102592571150095) + (am_ushrL (am_landL (((am_landL (a - (am_landL (am_ushrL a 1) 6148914691236517205)) 3689348814741910323) + (am_landL (am_ushrL (a - (am_landL (am_ushrL a 1) 6148914691236517205)) 2) 3689348814741910323)) + (am_ushrL ((am_landL (a - (am_landL (am_ushrL a 1) 6148914691236517205)) 3689348814741910323) + (am_landL (am_ushrL (a - (am_landL (am_ushrL a 1) 6148914691236517205)) 2) 3689348814741910323)) 4)) 1085102592571150095) 8)) 16)) 32))]) hM_49 d_49_56 rfl rfl ?_
  refine r_k (pc' := 59) (v := .inl 127) hM_49 d_49_57 rfl rfl ?_
  refine r_b (pc' := 60) (z := (am_and ((((am_landL (((am_landL (a - (am_landL (am_ushrL a 1) 6148914691236517205)) 3689348814741910323) + (am_landL (am_ushrL (a - (am_landL (am_ushrL a 1) 6148914691236517205)) 2) 3689348814741910323)) + (am_ushrL ((am_landL (a - (am_landL (am_ushrL a 1) 6148914691236517205)) 3689348814741910323) + (am_landL (am_ushrL (a - (am_landL (am_ushrL a 1) 6148914691236517205)) 2) 3689348814741910323)) 4)) 1085102592571150095) + (am_ushrL (am_landL (((am_landL (a - (am_landL (am_ushrL a 1) 6148914691236517205)) 3689348814741910323) + (am_landL (am_ushrL (a - (am_landL (am_ushrL a 1) 6148914691236517205)) 2) 3689348814741910323)) + (am_ushrL ((am_landL (a - (am_landL (am_ushrL a 1) 6148914691236517205)) 3689348814741910323) + (am_landL (am_ushrL (a - (am_landL (am_ushrL a 1) 6148914691236517205)) 2) 3689348814741910323)) 4)) 1085102592571150095) 8)) + (am_ushrL ((am_landL (((am_landL (a - (am_landL (am_ushrL a 1) 6148914691236517205)) 3689348814741910323) + (am_landL (am_ushrL (a - (am_landL (am_ushrL a 1) 6148914691236517205)) 2) 3689348814741910323)) + (am_ushrL ((am_landL (a - (am_landL (am_ushrL a 1) 6148914691236517205)) 3689348814741910323) + (am_landL (am_ushrL (a - (am_landL (am_ushrL a 1) 6148914691236517205)) 2) 3689348814741910323)) 4)) 1085102592571150095) + (am_ushrL (am_landL (((am_landL (a - (am_landL (am_ushrL a 1) 6148914691236517205)) 3689348814741910323) + (am_landL (am_ushrL (a - (am_landL (am_ushrL a 1) 6148914691236517205)) 2) 3689348814741910323)) + (am_ushrL ((am_landL (a - (am_landL (am_ushrL a 1) 6148914691236517205)) 3689348814741910323) + (am_landL (am_ushrL (a - (am_landL (am_ushrL a 1) 6148914691236517205)) 2) 3689348814741910323)) 4)) 1085102592571150095) 8)) 16)) + (am_ushrL (((am_landL (((am_landL (a - (am_landL (am_ushrL a 1) 6148914691236517205)) 3689348814741910323) + (am_landL (am_ushrL (a - (am_landL (am_ushrL a 1) 6148914691236517205)) 2) 3689348814741910323)) + (am_ushrL ((am_landL (a - (am_landL (am_ushrL a 1) 6148914691236517205)) 3689348814741910323) + (am_landL (am_ushrL (a - (am_landL (am_ushrL a 1) 6148914691236517205)) 2) 3689348814741910323)) 4)) 1085102592571150095) + (am_ushrL (am_landL (((am_landL (a - (am_landL (am_ushrL a 1) 6148914691236517205)) 3689348814741910323) + (am_landL (am_ushrL (a - (am_landL (am_ushrL a 1) 6148914691236517205)) 2) 3689348814741910323)) + (am_ushrL ((am_landL (a - (am_landL (am_ushrL a 1) 6148914691236517205)) 3689348814741910323) + (am_landL (am_ushrL (a - (am_landL (am_ushrL a 1) 6148914691236517205)) 2) 3689348814741910323)) 4)) 1085102592571150095) 8)) + (am_ushrL ((am_landL (((am_landL (a - (am_landL (am_ushrL a 1) 6148914691236517205)) 3689348814741910323) + (am_landL (am_ushrL (a - (am_landL (am_ushrL a 1) 6148914691236517205)) 2) 3689348814741910323)) + (am_ushrL ((am_landL (a - (am_landL (am_ushrL a 1) 6148914691236517205)) 3689348814741910323) + (am_landL (am_ushrL (a - (am_landL (am_ushrL a 1) 6148914691236517205)) 2) 3689348814741910323)) 4)) 1085102592571150095) + (am_ushrL (am_landL (((am_landL (a - (am_landL (am_ushrL a 1) 6148914691236517205)) 3689348814741910323) + (am_landL (am_ushrL (a - (am_landL (am_ushrL a 1) 6148914691236517205)) 2) 3689348814741910323)) + (am_ushrL ((am_landL (a - (am_landL (am_ushrL a 1) 6148914691236517205)) 3689348814741910323) + (am_landL (am_ushrL (a - (am_landL (am_ushrL a 1) 6148914691236517205)) 2) 3689348814741910323)) 4)) 1085102592571150095) 8)) 16)) 32)) 127)) hM_49 d_49_59 rfl rfl ?_
  subst H
  exact rt_i hM_49 d_49_60 rfl
def v_49 (m : am_M) (a : Int) : Int := (am_and ((((am_landL (((am_landL (a - (am_landL (am_ushrL a 1) 6148914691236517205)) 3689348814741910323) + (am_landL (am_ushrL (a - (am_landL (am_ushrL a 1) 6148914691236517205)) 2) 3689348814741910323)) + (am_ushrL ((am_landL (a - (am_landL (am_ushrL a 1) 6148914691236517205)) 3689348814741910323) + (am_landL (am_ushrL (a - (am_landL (am_ushrL a 1) 6148914691236517205)) 2) 3689348814741910323)) 4)) 1085102592571150095) + (am_ushrL (am_landL (((am_landL (a - (am_landL (am_ushrL a 1) 6148914691236517205)) 3689348814741910323) + (am_landL (am_ushrL (a - (am_landL (am_ushrL a 1) 6148914691236517205)) 2) 3689348814741910323)) + (am_ushrL ((am_landL (a - (am_landL (am_ushrL a 1) 6148914691236517205)) 3689348814741910323) + (am_landL (am_ushrL (a - (am_landL (am_ushrL a 1) 6148914691236517205)) 2) 3689348814741910323)) 4)) 1085102592571150095) 8)) + (am_ushrL ((am_landL (((am_landL (a - (am_landL (am_ushrL a 1) 6148914691236517205)) 3689348814741910323) + (am_landL (am_ushrL (a - (am_landL (am_ushrL a 1) 6148914691236517205)) 2) 3689348814741910323)) + (am_ushrL ((am_landL (a - (am_landL (am_ushrL a 1) 6148914691236517205)) 3689348814741910323) + (am_landL (am_ushrL (a - (am_landL (am_ushrL a 1) 6148914691236517205)) 2) 3689348814741910323)) 4)) 1085102592571150095) + (am_ushrL (am_landL (((am_landL (a - (am_landL (am_ushrL a 1) 6148914691236517205)) 3689348814741910323) + (am_landL (am_ushrL (a - (am_landL (am_ushrL a 1) 6148914691236517205)) 2) 3689348814741910323)) + (am_ushrL ((am_landL (a - (am_landL (am_ushrL a 1) 6148914691236517205)) 3689348814741910323) + (am_landL (am_ushrL (a - (am_landL (am_ushrL a 1) 6148914691236517205)) 2) 3689348814741910323)) 4)) 1085102592571150095) 8)) 16)) + (am_ushrL (((am_landL (((am_landL (a - (am_landL (am_ushrL a 1) 6148914691236517205)) 3689348814741910323) + (am_landL (am_ushrL (a - (am_landL (am_ushrL a 1) 6148914691236517205)) 2) 3689348814741910323)) + (am_ushrL ((am_landL (a - (am_landL (am_ushrL a 1) 6148914691236517205)) 3689348814741910323) + (am_landL (am_ushrL (a - (am_landL (am_ushrL a 1) 6148914691236517205)) 2) 3689348814741910323)) 4)) 1085102592571150095) + (am_ushrL (am_landL (((am_landL (a - (am_landL (am_ushrL a 1) 6148914691236517205)) 3689348814741910323) + (am_landL (am_ushrL (a - (am_landL (am_ushrL a 1) 6148914691236517205)) 2) 3689348814741910323)) + (am_ushrL ((am_landL (a - (am_landL (am_ushrL a 1) 6148914691236517205)) 3689348814741910323) + (am_landL (am_ushrL (a - (am_landL (am_ushrL a 1) 6148914691236517205)) 2) 3689348814741910323)) 4)) 1085102592571150095) 8)) + (am_ushrL ((am_landL (((am_landL (a - (am_landL (am_ushrL a 1) 6148914691236517205)) 3689348814741910323) + (am_landL (am_ushrL (a - (am_landL (am_ushrL a 1) 6148914691236517205)) 2) 3689348814741910323)) + (am_ushrL ((am_landL (a - (am_landL (am_ushrL a 1) 6148914691236517205)) 3689348814741910323) + (am_landL (am_ushrL (a - (am_landL (am_ushrL a 1) 6148914691236517205)) 2) 3689348814741910323)) 4)) 1085102592571150095) + (am_ushrL (am_landL (((am_landL (a - (am_landL (am_ushrL a 1) 6148914691236517205)) 3689348814741910323) + (am_landL (am_ushrL (a - (am_landL (am_ushrL a 1) 6148914691236517205)) 2) 3689348814741910323)) + (am_ushrL ((am_landL (a - (am_landL (am_ushrL a 1) 6148914691236517205)) 3689348814741910323) + (am_landL (am_ushrL (a - (am_landL (am_ushrL a 1) 6148914691236517205)) 2) 3689348814741910323)) 4)) 1085102592571150095) 8)) 16)) 32)) 127)
/-- java/lang/Long.bitCount -/
theorem c_49 {fx : am_X0}   (m : am_M) (a : Int)  : rn fx 0 (0, 0) 49 0 (am_ent 2 [.inr (.inl a)]) [] (st0 m) ([.inl (v_49 m a)], st0 m) := by
  show rn fx 0 (0, 0) 49 0 [some (.inr (.inl a)), none] [] (st0 m) _
  refine t_49_0  ?_
  simp only [v_49]
/-- the first n places of a row are v -/
def flm (m : am_M) (r n : Nat) (v : Int) : am_M := fun a j => if a = r ∧ j < n then v else m a j
theorem flm_0 {m : am_M} {r : Nat} {v : Int} : flm m r 0 v = m := by
  funext a j
  simp [flm]
theorem flm_s {m : am_M} {r n : Nat} {v : Int} : mu (flm m r n v) r n v = flm m r (n + 1) v := by
  funext a j
  unfold mu flm
  by_cases h1 : a = r <;> by_cases h2 : j = n <;> simp [h1, h2]
  by_cases h3 : j < n
  · simp [h3, Nat.lt_succ_of_lt h3]
  · have : ¬ j < n + 1 := by omega
    simp [h3, this]
theorem t_96_5_45 {fx : am_X0} {o : List am_V × am_S} {m : am_M} {v : Int} {x2 : Int} {x3 : Int}  (H : ((am_s x3 ≤ am_s x2) → o = ([], st0 m)) ∧ (¬ (am_s x3 ≤ am_s x2) → (0 ≤ am_s x2 ∧ am_s x2 < (8192 : Nat)) ∧ (rn fx 0 (0, 0) 96 5 [some (.inr (.inr (some 45))), some (.inl v), some (.inl (x2 + 1)), some (.inl x3)] [] (st0 (mu m 45 ((am_s x2).toNat) v)) o))) : rn fx 0 (0, 0) 96 5 [some (.inr (.inr (some 45))), some (.inl v), some (.inl x2), some (.inl x3)] [] (st0 m) o := by
  refine r_ld (pc' := 6) hM_96 d_96_5 rfl rfl ?_
  refine r_ld (pc' := 7) hM_96 d_96_6 rfl rfl ?_
  refine r_ic (pc' := 20) (pc2 := 10) hM_96 d_96_7 (by decide) rfl (fun hz1 => ?_) (fun hz1 => ?_)
  · have H := H.1 hz1
    subst H
    exact rt_v hM_96 d_96_20 rfl
  · have H := H.2 hz1
    refine r_ld (pc' := 11) hM_96 d_96_10 rfl rfl ?_
    refine r_ld (pc' := 12) hM_96 d_96_11 rfl rfl ?_
    refine r_ld (pc' := 13) hM_96 d_96_12 rfl rfl ?_
    obtain ⟨hz2, H⟩ := H
    refine r_is (pc' := 14) (n := 8192) hM_96 d_96_13 rfl rfl hz2 ?_
    refine r_sto (pc' := 17) (ls' := [some (.inr (.inr (some 45))), some (.inl v), some (.inl (x2 + 1)), some (.inl x3)]) hM_96 d_96_14 rfl rfl ?_
    refine r_go (pc' := 5) hM_96 d_96_17 (by decide) ?_
    exact H
theorem t_96_0_45 {fx : am_X0} {o : List am_V × am_S} {m : am_M} {v : Int}  (H : rn fx 0 (0, 0) 96 5 [some (.inr (.inr (some 45))), some (.inl v), some (.inl 0), some (.inl 8192)] [] (st0 m) o) : rn fx 0 (0, 0) 96 0 [some (.inr (.inr (some 45))), some (.inl v), none, none] [] (st0 m) o := by
  refine r_k (pc' := 1) (v := .inl 0) hM_96 d_96_0 rfl rfl ?_
  refine r_sto (pc' := 2) (ls' := [some (.inr (.inr (some 45))), some (.inl v), some (.inl 0), none]) hM_96 d_96_1 rfl rfl ?_
  refine r_ld (pc' := 3) hM_96 d_96_2 rfl rfl ?_
  refine r_al (pc' := 4) (n := 8192) hM_96 d_96_3 rfl rfl (by decide) ?_
  refine r_sto (pc' := 5) (ls' := [some (.inr (.inr (some 45))), some (.inl v), some (.inl 0), some (.inl 8192)]) hM_96 d_96_4 rfl rfl ?_
  exact H
theorem c_96_45 {fx : am_X0} (m : am_M) (v : Int) : rn fx 0 (0, 0) 96 0 (am_ent 4 [.inr (.inr (some 45)), .inl v]) [] (st0 m) ([], st0 (flm m 45 8192 v)) := by
  show rn fx 0 (0, 0) 96 0 [some (.inr (.inr (some 45))), some (.inl v), none, none] [] (st0 m) _
  refine t_96_0_45 ?_
  have h := rn_loop (fx := fx) (d := 0) (mi := 96) (pc := 5) (cr := (0, 0)) (fun i => ([some (.inr (.inr (some 45))), some (.inl v), some (.inl (i : Int)), some (.inl (8192 : Int))], flm m 45 i v)) 8192 (fun i hi o h => ?_) (o := ([], st0 (flm m 45 8192 v))) ?_
  · rw [show flm m 45 0 v = m from flm_0] at h
    exact h
  · refine t_96_5_45 ?_
    simp (disch := omega) only [am_s_id]
    refine ⟨fun q => by omega, fun _ => ⟨by omega, ?_⟩⟩
    rw [Int.toNat_natCast, flm_s]
    exact h
  · refine t_96_5_45 ?_
    simp (disch := omega) only [am_s_id]
    exact ⟨fun _ => by first | trivial | rfl, fun q => by omega⟩
theorem t_96_5_37 {fx : am_X0} {o : List am_V × am_S} {m : am_M} {v : Int} {x2 : Int} {x3 : Int}  (H : ((am_s x3 ≤ am_s x2) → o = ([], st0 m)) ∧ (¬ (am_s x3 ≤ am_s x2) → (0 ≤ am_s x2 ∧ am_s x2 < (96 : Nat)) ∧ (rn fx 0 (0, 0) 96 5 [some (.inr (.inr (some 37))), some (.inl v), some (.inl (x2 + 1)), some (.inl x3)] [] (st0 (mu m 37 ((am_s x2).toNat) v)) o))) : rn fx 0 (0, 0) 96 5 [some (.inr (.inr (some 37))), some (.inl v), some (.inl x2), some (.inl x3)] [] (st0 m) o := by
  refine r_ld (pc' := 6) hM_96 d_96_5 rfl rfl ?_
  refine r_ld (pc' := 7) hM_96 d_96_6 rfl rfl ?_
  refine r_ic (pc' := 20) (pc2 := 10) hM_96 d_96_7 (by decide) rfl (fun hz1 => ?_) (fun hz1 => ?_)
  · have H := H.1 hz1
    subst H
    exact rt_v hM_96 d_96_20 rfl
  · have H := H.2 hz1
    refine r_ld (pc' := 11) hM_96 d_96_10 rfl rfl ?_
    refine r_ld (pc' := 12) hM_96 d_96_11 rfl rfl ?_
    refine r_ld (pc' := 13) hM_96 d_96_12 rfl rfl ?_
    obtain ⟨hz2, H⟩ := H
    refine r_is (pc' := 14) (n := 96) hM_96 d_96_13 rfl rfl hz2 ?_
    refine r_sto (pc' := 17) (ls' := [some (.inr (.inr (some 37))), some (.inl v), some (.inl (x2 + 1)), some (.inl x3)]) hM_96 d_96_14 rfl rfl ?_
    refine r_go (pc' := 5) hM_96 d_96_17 (by decide) ?_
    exact H
theorem t_96_0_37 {fx : am_X0} {o : List am_V × am_S} {m : am_M} {v : Int}  (H : rn fx 0 (0, 0) 96 5 [some (.inr (.inr (some 37))), some (.inl v), some (.inl 0), some (.inl 96)] [] (st0 m) o) : rn fx 0 (0, 0) 96 0 [some (.inr (.inr (some 37))), some (.inl v), none, none] [] (st0 m) o := by
  refine r_k (pc' := 1) (v := .inl 0) hM_96 d_96_0 rfl rfl ?_
  refine r_sto (pc' := 2) (ls' := [some (.inr (.inr (some 37))), some (.inl v), some (.inl 0), none]) hM_96 d_96_1 rfl rfl ?_
  refine r_ld (pc' := 3) hM_96 d_96_2 rfl rfl ?_
  refine r_al (pc' := 4) (n := 96) hM_96 d_96_3 rfl rfl (by decide) ?_
  refine r_sto (pc' := 5) (ls' := [some (.inr (.inr (some 37))), some (.inl v), some (.inl 0), some (.inl 96)]) hM_96 d_96_4 rfl rfl ?_
  exact H
theorem c_96_37 {fx : am_X0} (m : am_M) (v : Int) : rn fx 0 (0, 0) 96 0 (am_ent 4 [.inr (.inr (some 37)), .inl v]) [] (st0 m) ([], st0 (flm m 37 96 v)) := by
  show rn fx 0 (0, 0) 96 0 [some (.inr (.inr (some 37))), some (.inl v), none, none] [] (st0 m) _
  refine t_96_0_37 ?_
  have h := rn_loop (fx := fx) (d := 0) (mi := 96) (pc := 5) (cr := (0, 0)) (fun i => ([some (.inr (.inr (some 37))), some (.inl v), some (.inl (i : Int)), some (.inl (96 : Int))], flm m 37 i v)) 96 (fun i hi o h => ?_) (o := ([], st0 (flm m 37 96 v))) ?_
  · rw [show flm m 37 0 v = m from flm_0] at h
    exact h
  · refine t_96_5_37 ?_
    simp (disch := omega) only [am_s_id]
    refine ⟨fun q => by omega, fun _ => ⟨by omega, ?_⟩⟩
    rw [Int.toNat_natCast, flm_s]
    exact h
  · refine t_96_5_37 ?_
    simp (disch := omega) only [am_s_id]
    exact ⟨fun _ => by first | trivial | rfl, fun q => by omega⟩
theorem t_155_6 {fx : am_X0} {o : List am_V × am_S} {m : am_M} {r : Nat} {v : Int} {x3 : Int} {x4 : Int} (hr : r ∈ rowL) (H : ((am_s x4 ≤ am_s x3) → o = ([], st0 m)) ∧ (¬ (am_s x4 ≤ am_s x3) → (0 ≤ am_s x3 ∧ am_s x3 < (40 : Nat)) ∧ (rn fx 0 (0, 0) 155 6 [some (.inr (.inr (some (r + 1)))), some (.inr (.inl v)), none, some (.inl (x3 + 1)), some (.inl x4)] [] (st0 (mu m (r + 1) ((am_s x3).toNat) v)) o))) : rn fx 0 (0, 0) 155 6 [some (.inr (.inr (some (r + 1)))), some (.inr (.inl v)), none, some (.inl x3), some (.inl x4)] [] (st0 m) o := by
  refine r_ld (pc' := 7) hM_155 d_155_6 rfl rfl ?_
  refine r_ld (pc' := 9) hM_155 d_155_7 rfl rfl ?_
  refine r_ic (pc' := 22) (pc2 := 12) hM_155 d_155_9 (by decide) rfl (fun hz1 => ?_) (fun hz1 => ?_)
  · have H := H.1 hz1
    subst H
    exact rt_v hM_155 d_155_22 rfl
  · have H := H.2 hz1
    refine r_ld (pc' := 13) hM_155 d_155_12 rfl rfl ?_
    refine r_ld (pc' := 14) hM_155 d_155_13 rfl rfl ?_
    refine r_ld (pc' := 15) hM_155 d_155_14 rfl rfl ?_
    obtain ⟨hz2, H⟩ := H
    refine r_ls (pc' := 16) (n := 40) hM_155 d_155_15 rfl (shRk hr).2 hz2 ?_
    refine r_sto (pc' := 19) (ls' := [some (.inr (.inr (some (r + 1)))), some (.inr (.inl v)), none, some (.inl (x3 + 1)), some (.inl x4)]) hM_155 d_155_16 rfl rfl ?_
    refine r_go (pc' := 6) hM_155 d_155_19 (by decide) ?_
    exact H
theorem t_155_0 {fx : am_X0} {o : List am_V × am_S} {m : am_M} {r : Nat} {v : Int} (hr : r ∈ rowL) (H : rn fx 0 (0, 0) 155 6 [some (.inr (.inr (some (r + 1)))), some (.inr (.inl v)), none, some (.inl 0), some (.inl 40)] [] (st0 m) o) : rn fx 0 (0, 0) 155 0 [some (.inr (.inr (some (r + 1)))), some (.inr (.inl v)), none, none, none] [] (st0 m) o := by
  refine r_k (pc' := 1) (v := .inl 0) hM_155 d_155_0 rfl rfl ?_
  refine r_sto (pc' := 2) (ls' := [some (.inr (.inr (some (r + 1)))), some (.inr (.inl v)), none, some (.inl 0), none]) hM_155 d_155_1 rfl rfl ?_
  refine r_ld (pc' := 3) hM_155 d_155_2 rfl rfl ?_
  refine r_al (pc' := 4) (n := 40) hM_155 d_155_3 rfl (shRk hr).2 (by decide) ?_
  refine r_sto (pc' := 6) (ls' := [some (.inr (.inr (some (r + 1)))), some (.inr (.inl v)), none, some (.inl 0), some (.inl 40)]) hM_155 d_155_4 rfl rfl ?_
  exact H
theorem c_155 {fx : am_X0} {r : Nat} (hr : r ∈ rowL) (m : am_M) (v : Int) : rn fx 0 (0, 0) 155 0 (am_ent 5 [.inr (.inr (some (r + 1))), .inr (.inl v)]) [] (st0 m) ([], st0 (flm m (r + 1) 40 v)) := by
  show rn fx 0 (0, 0) 155 0 [some (.inr (.inr (some (r + 1)))), some (.inr (.inl v)), none, none, none] [] (st0 m) _
  refine t_155_0 hr ?_
  have h := rn_loop (fx := fx) (d := 0) (mi := 155) (pc := 6) (cr := (0, 0)) (fun i => ([some (.inr (.inr (some (r + 1)))), some (.inr (.inl v)), none, some (.inl (i : Int)), some (.inl (40 : Int))], flm m (r + 1) i v)) 40 (fun i hi o h => ?_) (o := ([], st0 (flm m (r + 1) 40 v))) ?_
  · rw [show flm m (r + 1) 0 v = m from flm_0] at h
    exact h
  · refine t_155_6 hr ?_
    simp (disch := omega) only [am_s_id]
    refine ⟨fun q => by omega, fun _ => ⟨by omega, ?_⟩⟩
    rw [Int.toNat_natCast, flm_s]
    exact h
  · refine t_155_6 hr ?_
    simp (disch := omega) only [am_s_id]
    exact ⟨fun _ => by first | trivial | rfl, fun q => by omega⟩
