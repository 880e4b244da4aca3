theorem gfR_7_15 {s : Nat} (hs : s ∈ rowL) : am_gf 7 15 s = some (.inl 2) := by
  have h : ∀ s ∈ rowL, am_gf 7 15 s = some (.inl 2) := by decide +kernel
  exact h s hs
theorem t_54_0 {fx : am_X0} {o : List am_V × am_S} {m : am_M} {r : Nat} (hr : r ∈ rowL) (H : o = ([.inl (if 0 ≤ am_s (m r 2) then 0 else 1)], st0 m)) : rn fx 0 (0, 0) 54 0 [some (.inr (.inr (some r)))] [] (st0 m) o := by
  refine r_ld (pc' := 1) hM_54 d_54_0 rfl rfl ?_
  refine r_gI (pc' := 4) (k0 := 2) hM_54 d_54_1 rfl (gfR_7_15 hr) ?_
  have K : rn fx 0 (0, 0) 54 12 [some (.inr (.inr (some r)))] [.inl (if 0 ≤ am_s (m r 2) then 0 else 1)] (st0 m) o := by
    subst H
    refine rt_z hM_54 d_54_12 rfl ?_
    repeat' first | exact Or.inl rfl | exact Or.inr rfl | apply z01_ite
  clear H
  refine r_if (pc' := 11) (pc2 := 7) hM_54 d_54_4 (by decide) rfl (fun hz1 => ?_) (fun hz1 => ?_)
  · have hz1 : 0 ≤ am_s (m r 2) := hz1
    rw [if_pos hz1] at K
    refine r_k (pc' := 12) (v := .inl 0) hM_54 d_54_11 rfl rfl ?_
    exact K
  · have hz1 : ¬ (0 ≤ am_s (m r 2)) := hz1
    rw [if_neg hz1] at K
    refine r_k (pc' := 8) (v := .inl 1) hM_54 d_54_7 rfl rfl ?_
    refine r_go (pc' := 12) hM_54 d_54_8 (by decide) ?_
    exact K
def v_54 (m : am_M) (r : Nat) : Int := (if 0 ≤ am_s (m r 2) then 0 else 1)
/-- HeardBarrels$Row.isMissing -/
theorem c_54 {fx : am_X0} {r : Nat} (hr : r ∈ rowL) (m : am_M)   : rn fx 0 (0, 0) 54 0 (am_ent 1 [.inr (.inr (some r))]) [] (st0 m) ([.inl (v_54 m r)], st0 m) := by
  show rn fx 0 (0, 0) 54 0 [some (.inr (.inr (some r)))] [] (st0 m) _
  refine t_54_0 hr ?_
  simp only [v_54]
theorem gfR_7_9 {s : Nat} (hs : s ∈ rowL) : am_gf 7 9 s = some (.inr (s + 1)) := by
  have h : ∀ s ∈ rowL, am_gf 7 9 s = some (.inr (s + 1)) := by decide +kernel
  exact h s hs
theorem t_56_0 {fx : am_X0} {o : List am_V × am_S} {m : am_M} {r : Nat} {i : Int} (hr : r ∈ rowL) (H : ((¬ (am_s i < 0)) → (¬ (am_s (m r 2) ≤ am_s i)) → (0 ≤ am_s i ∧ am_s i < (40 : Nat))) ∧ (∀ y1 : Int, y1 = (if am_s i < 0 then 0 else (if am_s (m r 2) ≤ am_s i then 0 else (m (r + 1) ((am_s i).toNat)))) → o = ([.inr (.inl y1)], st0 m))) : rn fx 0 (0, 0) 56 0 [some (.inr (.inr (some r))), some (.inl i)] [] (st0 m) o := by
  refine r_ld (pc' := 1) hM_56 d_56_0 rfl rfl ?_
  obtain ⟨hz3, H⟩ := H
  have K : ∀ y1 : Int, y1 = (if am_s i < 0 then 0 else (if am_s (m r 2) ≤ am_s i then 0 else (m (r + 1) ((am_s i).toNat)))) → rn fx 0 (0, 0) 56 22 [some (.inr (.inr (some r))), some (.inl i)] [.inr (.inl y1)] (st0 m) o := by
    intro y1 hy1
    replace H := H y1 hy1
    subst H
    exact rt_l hM_56 d_56_22 rfl
  replace K := K _ rfl
  clear H
  refine r_if (pc' := 21) (pc2 := 4) hM_56 d_56_1 (by decide) rfl (fun hz1 => ?_) (fun hz1 => ?_)
  · have hz1 : am_s i < 0 := hz1
    rw [if_pos hz1] at K
    refine r_k (pc' := 22) (v := .inr (.inl 0)) hM_56 d_56_21 rfl rfl ?_
    exact K
  · have hz1 : ¬ (am_s i < 0) := hz1
    rw [if_neg hz1] at K
    refine r_ld (pc' := 5) hM_56 d_56_4 rfl rfl ?_
    refine r_ld (pc' := 6) hM_56 d_56_5 rfl rfl ?_
    refine r_gI (pc' := 9) (k0 := 2) hM_56 d_56_6 rfl (gfR_7_15 hr) ?_
    refine r_ic (pc' := 21) (pc2 := 12) hM_56 d_56_9 (by decide) rfl (fun hz2 => ?_) (fun hz2 => ?_)
    · have hz2 : am_s (m r 2) ≤ am_s i := hz2
      rw [if_pos hz2] at K
      refine r_k (pc' := 22) (v := .inr (.inl 0)) hM_56 d_56_21 rfl rfl ?_
      exact K
    · have hz2 : ¬ (am_s (m r 2) ≤ am_s i) := hz2
      rw [if_neg hz2] at K
      refine r_ld (pc' := 13) hM_56 d_56_12 rfl rfl ?_
      refine r_gR (pc' := 16) (v := (r + 1)) hM_56 d_56_13 rfl (gfR_7_9 hr) ?_
      refine r_ld (pc' := 17) hM_56 d_56_16 rfl rfl ?_
      refine r_la (pc' := 18) (n := 40) hM_56 d_56_17 rfl (shRk hr).2 (hz3 hz1 hz2) ?_
      refine r_go (pc' := 22) hM_56 d_56_18 (by decide) ?_
      exact K
def v_56 (m : am_M) (r : Nat) (i : Int) : Int := (if am_s i < 0 then 0 else (if am_s (m r 2) ≤ am_s i then 0 else (m (r + 1) ((am_s i).toNat))))
def q_56 (m : am_M) (r : Nat) (i : Int) : Prop := ((¬ (am_s i < 0)) → (¬ (am_s (m r 2) ≤ am_s i)) → (0 ≤ am_s i ∧ am_s i < (40 : Nat)))
/-- HeardBarrels$Row.at -/
theorem c_56 {fx : am_X0} {r : Nat} (hr : r ∈ rowL) (m : am_M) (i : Int) (hq : q_56 m r i) : rn fx 0 (0, 0) 56 0 (am_ent 2 [.inr (.inr (some r)), .inl i]) [] (st0 m) ([.inr (.inl (v_56 m r i))], st0 m) := by
  unfold q_56 at hq
  show rn fx 0 (0, 0) 56 0 [some (.inr (.inr (some r))), some (.inl i)] [] (st0 m) _
  refine t_56_0 hr ?_
  have hb0_0 := hq
  refine ⟨hb0_0, ?_⟩
  intro y1 hy1
  subst hy1
  simp only [v_56]
theorem puR_7_15 {s : Nat} (hs : s ∈ rowL) : am_pu 7 15 s = some (2, false) := by
  have h : ∀ s ∈ rowL, am_pu 7 15 s = some (2, false) := by decide +kernel
  exact h s hs
theorem puR_7_19 {s : Nat} (hs : s ∈ rowL) : am_pu 7 19 s = some (1, false) := by
  have h : ∀ s ∈ rowL, am_pu 7 19 s = some (1, false) := by decide +kernel
  exact h s hs
theorem t_154_0 {fx : am_X0} {o : List am_V × am_S} {m : am_M} {r : Nat} {a : Int} {n : Int} (hr : r ∈ rowL) (H : ((am_s n < 0) → o = ([], st0 m)) ∧ (¬ (am_s n < 0) → ((am_s n ≤ am_s 40) → o = ([], st0 (flm (mu (mu m r 1 a) r 2 n) (r + 1) 40 0))) ∧ (¬ (am_s n ≤ am_s 40) → o = ([], st0 m)))) : rn fx 1 (0, 0) 154 0 [some (.inr (.inr (some r))), some (.inl a), some (.inl n)] [] (st0 m) o := by
  refine r_ld (pc' := 1) hM_154 d_154_0 rfl rfl ?_
  refine r_if (pc' := 10) (pc2 := 4) hM_154 d_154_1 (by decide) rfl (fun hz1 => ?_) (fun hz1 => ?_)
  · have H := H.1 hz1
    subst H
    exact rt_v hM_154 d_154_10 rfl
  · have H := H.2 hz1
    refine r_ld (pc' := 5) hM_154 d_154_4 rfl rfl ?_
    refine r_k (pc' := 7) (v := .inl 40) hM_154 d_154_5 rfl rfl ?_
    refine r_ic (pc' := 11) (pc2 := 10) hM_154 d_154_7 (by decide) rfl (fun hz2 => ?_) (fun hz2 => ?_)
    · have H := H.1 hz2
      refine r_ld (pc' := 12) hM_154 d_154_11 rfl rfl ?_
      refine r_ld (pc' := 13) hM_154 d_154_12 rfl rfl ?_
      refine r_pI (pc' := 16) (k0 := 1) hM_154 d_154_13 rfl (puR_7_19 hr) ?_
      refine r_ld (pc' := 17) hM_154 d_154_16 rfl rfl ?_
      refine r_ld (pc' := 18) hM_154 d_154_17 rfl rfl ?_
      refine r_pI (pc' := 21) (k0 := 2) hM_154 d_154_18 rfl (puR_7_15 hr) ?_
      refine r_ld (pc' := 22) hM_154 d_154_21 rfl rfl ?_
      refine r_gR (pc' := 25) (v := (r + 1)) hM_154 d_154_22 rfl (gfR_7_9 hr) ?_
      refine r_k (pc' := 26) (v := .inr (.inl 0)) hM_154 d_154_25 rfl rfl ?_
      refine r_cl (pc' := 29) (c := (155, 2)) (a := [.inr (.inr (some (r + 1))), .inr (.inl 0)]) (q := []) hM_154 d_154_26 rfl (by decide +kernel) hM_155 rfl rfl rfl (Nat.le_of_ble_eq_true rfl) (Nat.le_of_ble_eq_true rfl) (Or.inl rfl) (c_155 hr (mu (mu m r 1 a) r 2 n) 0) (Nat.le_of_ble_eq_true rfl) ?_
      show rn fx 1 (0, 0) 154 29 [some (.inr (.inr (some r))), some (.inl a), some (.inl n)] [] (st0 (flm (mu (mu m r 1 a) r 2 n) (r + 1) 40 0)) o
      subst H
      exact rt_v hM_154 d_154_29 rfl
    · have H := H.2 hz2
      subst H
      exact rt_v hM_154 d_154_10 rfl
def w_154 (m : am_M) (r : Nat) (a : Int) (n : Int) : am_M := (if am_s n < 0 then m else (if am_s n ≤ am_s 40 then (flm (mu (mu m r 1 a) r 2 n) (r + 1) 40 0) else m))
/-- HeardBarrels$Row.become -/
theorem c_154 {fx : am_X0} {r : Nat} (hr : r ∈ rowL) (m : am_M) (a : Int) (n : Int)  : rn fx 1 (0, 0) 154 0 (am_ent 3 [.inr (.inr (some r)), .inl a, .inl n]) [] (st0 m) ([], st0 (w_154 m r a n)) := by
  show rn fx 1 (0, 0) 154 0 [some (.inr (.inr (some r))), some (.inl a), some (.inl n)] [] (st0 m) _
  refine t_154_0 hr ?_
  refine ⟨fun hc0 => ?_, fun hc0 => ?_⟩
  · skip
    simp only [w_154, if_pos hc0]
  · skip
    refine ⟨fun hc1 => ?_, fun hc1 => ?_⟩
    · skip
      simp only [w_154, if_neg hc0, if_pos hc1]
    · skip
      simp only [w_154, if_neg hc0, if_neg hc1]
theorem gfR_7_19 {s : Nat} (hs : s ∈ rowL) : am_gf 7 19 s = some (.inl 1) := by
  have h : ∀ s ∈ rowL, am_gf 7 19 s = some (.inl 1) := by decide +kernel
  exact h s hs
theorem t_157_0 {fx : am_X0} {o : List am_V × am_S} {m : am_M} {r : Nat} {i : Int} {v : Int} (hr : r ∈ rowL) (H : ((am_s i < 0) → o = ([], st0 m)) ∧ (¬ (am_s i < 0) → ((am_s i < am_s (m r 2)) → ((am_s (m r 1) = 0) → (0 ≤ am_s i ∧ am_s i < (40 : Nat)) ∧ (o = ([], st0 (mu m (r + 1) ((am_s i).toNat) (am_s (am_b8 v)))))) ∧ (((am_s (m r 1) = 1) → (0 ≤ am_s i ∧ am_s i < (40 : Nat)) ∧ (o = ([], st0 (mu m (r + 1) ((am_s i).toNat) (am_s (am_b16 v)))))) ∧ (((am_s (m r 1) = 2) → (0 ≤ am_s i ∧ am_s i < (40 : Nat)) ∧ (o = ([], st0 (mu m (r + 1) ((am_s i).toNat) (am_s v))))) ∧ (((am_s (m r 1) < 0 ∨ 2 < am_s (m r 1)) → (0 ≤ am_s i ∧ am_s i < (40 : Nat)) ∧ (o = ([], st0 (mu m (r + 1) ((am_s i).toNat) v)))))))) ∧ (¬ (am_s i < am_s (m r 2)) → o = ([], st0 m)))) : rn fx 0 (0, 0) 157 0 [some (.inr (.inr (some r))), some (.inl i), some (.inr (.inl v)), none] [] (st0 m) o := by
  refine r_ld (pc' := 1) hM_157 d_157_0 rfl rfl ?_
  refine r_if (pc' := 12) (pc2 := 4) hM_157 d_157_1 (by decide) rfl (fun hz1 => ?_) (fun hz1 => ?_)
  · have H := H.1 hz1
    subst H
    exact rt_v hM_157 d_157_12 rfl
  · have H := H.2 hz1
    refine r_ld (pc' := 5) hM_157 d_157_4 rfl rfl ?_
    refine r_ld (pc' := 6) hM_157 d_157_5 rfl rfl ?_
    refine r_gI (pc' := 9) (k0 := 2) hM_157 d_157_6 rfl (gfR_7_15 hr) ?_
    refine r_ic (pc' := 13) (pc2 := 12) hM_157 d_157_9 (by decide) rfl (fun hz2 => ?_) (fun hz2 => ?_)
    · have H := H.1 hz2
      refine r_ld (pc' := 14) hM_157 d_157_13 rfl rfl ?_
      refine r_gI (pc' := 17) (k0 := 1) hM_157 d_157_14 rfl (gfR_7_19 hr) ?_
      by_cases hc : am_s (m r 1) = 0
      · have H := H.1 hc
        refine r_tsI (pc' := 44) (off := 0) (t := 27) hM_157 d_157_17 (by rw [hc]; rfl) (by decide) rfl (by decide) ?_
        refine r_ld (pc' := 45) hM_157 d_157_44 rfl rfl ?_
        refine r_gR (pc' := 48) (v := (r + 1)) hM_157 d_157_45 rfl (gfR_7_9 hr) ?_
        refine r_ld (pc' := 49) hM_157 d_157_48 rfl rfl ?_
        refine r_ld (pc' := 50) hM_157 d_157_49 rfl rfl ?_
        refine r_stk (pc' := 51) (st' := [.inl v, .inl i, .inr (.inr (some (r + 1)))]) hM_157 d_157_50 rfl rfl ?_
        refine r_stk (pc' := 52) (st' := [.inl (am_b8 v), .inl i, .inr (.inr (some (r + 1)))]) hM_157 d_157_51 rfl rfl ?_
        refine r_stk (pc' := 53) (st' := [.inr (.inl (am_s (am_b8 v))), .inl i, .inr (.inr (some (r + 1)))]) hM_157 d_157_52 rfl rfl ?_
        obtain ⟨hz3, H⟩ := H
        refine r_ls (pc' := 54) (n := 40) hM_157 d_157_53 rfl (shRk hr).2 hz3 ?_
        refine r_go (pc' := 89) hM_157 d_157_54 (by decide) ?_
        subst H
        exact rt_v hM_157 d_157_89 rfl
      replace H := H.2
      have hc0 := hc
      clear hc
      by_cases hc : am_s (m r 1) = 1
      · have H := H.1 hc
        refine r_tsI (pc' := 57) (off := 1) (t := 40) hM_157 d_157_17 (by rw [hc]; rfl) (by decide) rfl (by decide) ?_
        refine r_ld (pc' := 58) hM_157 d_157_57 rfl rfl ?_
        refine r_gR (pc' := 61) (v := (r + 1)) hM_157 d_157_58 rfl (gfR_7_9 hr) ?_
        refine r_ld (pc' := 62) hM_157 d_157_61 rfl rfl ?_
        refine r_ld (pc' := 63) hM_157 d_157_62 rfl rfl ?_
        refine r_stk (pc' := 64) (st' := [.inl v, .inl i, .inr (.inr (some (r + 1)))]) hM_157 d_157_63 rfl rfl ?_
        refine r_stk (pc' := 65) (st' := [.inl (am_b16 v), .inl i, .inr (.inr (some (r + 1)))]) hM_157 d_157_64 rfl rfl ?_
        refine r_stk (pc' := 66) (st' := [.inr (.inl (am_s (am_b16 v))), .inl i, .inr (.inr (some (r + 1)))]) hM_157 d_157_65 rfl rfl ?_
        obtain ⟨hz4, H⟩ := H
        refine r_ls (pc' := 67) (n := 40) hM_157 d_157_66 rfl (shRk hr).2 hz4 ?_
        refine r_go (pc' := 89) hM_157 d_157_67 (by decide) ?_
        subst H
        exact rt_v hM_157 d_157_89 rfl
      replace H := H.2
      have hc1 := hc
      clear hc
      by_cases hc : am_s (m r 1) = 2
      · have H := H.1 hc
        refine r_tsI (pc' := 70) (off := 2) (t := 53) hM_157 d_157_17 (by rw [hc]; rfl) (by decide) rfl (by decide) ?_
        refine r_ld (pc' := 71) hM_157 d_157_70 rfl rfl ?_
        refine r_gR (pc' := 74) (v := (r + 1)) hM_157 d_157_71 rfl (gfR_7_9 hr) ?_
        refine r_ld (pc' := 75) hM_157 d_157_74 rfl rfl ?_
        refine r_ld (pc' := 76) hM_157 d_157_75 rfl rfl ?_
        refine r_stk (pc' := 77) (st' := [.inl v, .inl i, .inr (.inr (some (r + 1)))]) hM_157 d_157_76 rfl rfl ?_
        refine r_stk (pc' := 78) (st' := [.inr (.inl (am_s v)), .inl i, .inr (.inr (some (r + 1)))]) hM_157 d_157_77 rfl rfl ?_
        obtain ⟨hz5, H⟩ := H
        refine r_ls (pc' := 79) (n := 40) hM_157 d_157_78 rfl (shRk hr).2 hz5 ?_
        refine r_go (pc' := 89) hM_157 d_157_79 (by decide) ?_
        subst H
        exact rt_v hM_157 d_157_89 rfl
      replace H := H.2
      have hc2 := hc
      clear hc
      have ho : am_s (m r 1) < 0 ∨ 2 < am_s (m r 1) := by omega
      replace H := H ho
      refine r_tsO (pc' := 82) hM_157 d_157_17 ho (by decide) ?_
      refine r_ld (pc' := 83) hM_157 d_157_82 rfl rfl ?_
      refine r_gR (pc' := 86) (v := (r + 1)) hM_157 d_157_83 rfl (gfR_7_9 hr) ?_
      refine r_ld (pc' := 87) hM_157 d_157_86 rfl rfl ?_
      refine r_ld (pc' := 88) hM_157 d_157_87 rfl rfl ?_
      obtain ⟨hz6, H⟩ := H
      refine r_ls (pc' := 89) (n := 40) hM_157 d_157_88 rfl (shRk hr).2 hz6 ?_
      subst H
      exact rt_v hM_157 d_157_89 rfl
    · have H := H.2 hz2
      subst H
      exact rt_v hM_157 d_157_12 rfl
def w_157 (m : am_M) (r : Nat) (i : Int) (v : Int) : am_M := (if am_s i < 0 then m else (if am_s i < am_s (m r 2) then (if am_s (m r 1) = 0 then (mu m (r + 1) ((am_s i).toNat) (am_s (am_b8 v))) else (if am_s (m r 1) = 1 then (mu m (r + 1) ((am_s i).toNat) (am_s (am_b16 v))) else (if am_s (m r 1) = 2 then (mu m (r + 1) ((am_s i).toNat) (am_s v)) else (mu m (r + 1) ((am_s i).toNat) v)))) else m))
def q_157 (m : am_M) (r : Nat) (i : Int) (v : Int) : Prop := ((¬ (am_s i < 0) → (((am_s i < am_s (m r 2)) → (((am_s (m r 1) = 0) → (0 ≤ am_s i ∧ am_s i < (40 : Nat))) ∧ (((am_s (m r 1) = 1) → (0 ≤ am_s i ∧ am_s i < (40 : Nat))) ∧ (((am_s (m r 1) = 2) → (0 ≤ am_s i ∧ am_s i < (40 : Nat))) ∧ (0 ≤ am_s i ∧ am_s i < (40 : Nat)))))))))
/-- HeardBarrels$Row.keep -/
theorem c_157 {fx : am_X0} {r : Nat} (hr : r ∈ rowL) (m : am_M) (i : Int) (v : Int) (hq : q_157 m r i v) : rn fx 0 (0, 0) 157 0 (am_ent 4 [.inr (.inr (some r)), .inl i, .inr (.inl v)]) [] (st0 m) ([], st0 (w_157 m r i v)) := by
  unfold q_157 at hq
  show rn fx 0 (0, 0) 157 0 [some (.inr (.inr (some r))), some (.inl i), some (.inr (.inl v)), none] [] (st0 m) _
  refine t_157_0 hr ?_
  refine ⟨fun hc0 => ?_, fun hc0 => ?_⟩
  · skip
    simp only [w_157, if_pos hc0]
  · have hq := hq hc0
    refine ⟨fun hc1 => ?_, fun hc1 => ?_⟩
    · have hq := hq hc1
      refine ⟨fun hc20 => ?_, ?_⟩
      · have hq := hq.1 hc20
        have hb3_0 := hq
        refine ⟨hb3_0, ?_⟩
        simp only [w_157, if_neg hc0, if_pos hc1, if_pos hc20]
      · have hq := hq.2
        refine ⟨fun hc21 => ?_, ?_⟩
        · have hq := hq.1 hc21
          have hn21_0 : ¬ (am_s (m r 1) = 0) := by omega
          have hb4_0 := hq
          refine ⟨hb4_0, ?_⟩
          simp only [w_157, if_neg hc0, if_pos hc1, if_neg hn21_0, if_pos hc21]
        · have hq := hq.2
          refine ⟨fun hc22 => ?_, ?_⟩
          · have hq := hq.1 hc22
            have hn22_0 : ¬ (am_s (m r 1) = 0) := by omega
            have hn22_1 : ¬ (am_s (m r 1) = 1) := by omega
            have hb5_0 := hq
            refine ⟨hb5_0, ?_⟩
            simp only [w_157, if_neg hc0, if_pos hc1, if_neg hn22_0, if_neg hn22_1, if_pos hc22]
          · have hq := hq.2
            intro hd
            have hn_0 : ¬ (am_s (m r 1) = 0) := by omega
            have hn_1 : ¬ (am_s (m r 1) = 1) := by omega
            have hn_2 : ¬ (am_s (m r 1) = 2) := by omega
            have hb5_0 := hq
            refine ⟨hb5_0, ?_⟩
            simp only [w_157, if_neg hc0, if_pos hc1, if_neg hn_0, if_neg hn_1, if_neg hn_2]
    · skip
      simp only [w_157, if_neg hc0, if_neg hc1]
