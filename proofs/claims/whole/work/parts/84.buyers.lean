theorem dvn2 : ∀ a : Nat, a < 128 → ∀ b : Nat, b < 20 → b ≠ 0 → am_div (a : Int) (b : Int) = (a : Int) / (b : Int) := by decide +kernel
/-- in how many days a barrel is ripe -/
def rpn (g : Nat → Int) (p : Nat) : Int := am_div (100 - g (32 + p) + 2 * g (20 + p) - 1) (2 * g (20 + p))
theorem rpn_rng {g : Nat → Int} {p : Nat} (hr : 0 ≤ g (32 + p) ∧ g (32 + p) ≤ 100) (hs : 1 ≤ g (20 + p) ∧ g (20 + p) ≤ 9) : 0 ≤ rpn g p ∧ rpn g p ≤ 117 := by
  unfold rpn
  generalize g (32 + p) = x at *
  generalize g (20 + p) = y at *
  obtain ⟨a, ha⟩ : ∃ a : Nat, 100 - x + 2 * y - 1 = (a : Int) := ⟨(100 - x + 2 * y - 1).toNat, by omega⟩
  obtain ⟨b, hb⟩ : ∃ b : Nat, 2 * y = (b : Int) := ⟨(2 * y).toNat, by omega⟩
  rw [ha, hb, dvn2 a (by omega) b (by omega) (by omega)]
  have h1 : (a : Int) / (b : Int) = ((a / b : Nat) : Int) := rfl
  have h2 := Nat.div_le_self a b
  rw [h1]
  clear h1
  generalize a / b = q at *
  omega
def sdp (g : Nat → Int) (p : Nat) : Bool := decide (g (8 + p) = 0)
def OPR (m : am_M) (r : Nat) : Prop := WFG (vw m 2) ∧ SLT (nv (vw m 2)) ∧ RWC m r ∧ (0 ≤ m r 2 ∧ m r 2 ≤ 10) ∧ ∀ k : Nat, (k : Int) < m r 2 → 0 ≤ rat m r (k : Int)
def LKD (m : am_M) (r : Nat) : Prop := (∀ p : Nat, (p : Int) < m 2 4 → m 47 p = if nv (vw m 2) (8 + p) = 0 then rpn (nv (vw m 2)) p else -1) ∧ ∃ b : Nat → Nat, (∀ i : Nat, (i : Int) < m r 2 → m 48 i = ((b i : Nat) : Int) ∧ ((b i : Nat) : Int) < m r 2) ∧ (∀ P : Nat → Bool, cf (fun i => P (b i)) (m r 2).toNat = cf P (m r 2).toNat) ∧ ∀ i i' : Nat, i < i' → (i' : Int) < m r 2 → rat m r (b i : Int) ≤ rat m r (b i' : Int)
theorem OPR_rp {m : am_M} {r p : Nat} (h : OPR m r) (hp : (p : Int) < m 2 4) (hk : nv (vw m 2) (8 + p) = 0) : 0 ≤ rpn (nv (vw m 2)) p ∧ rpn (nv (vw m 2)) p ≤ 117 := by
  obtain ⟨hw, hs, -⟩ := h
  have hN := vwN hw
  have hwn := WFG_nv hw
  exact rpn_rng (hwn.2.2.2.1 p (by omega)) ⟨hs p (by omega) (by rw [nv0, vw_0]; exact hp) (by rw [hk]; decide), (hwn.2.2.1 p (by omega)).2⟩
theorem v132 {m : am_M} {p : Nat} (hw : WFG (vw m 2)) (hs : SLT (nv (vw m 2))) (hp : (p : Int) < m 2 4) : q_132 m 2 (p : Int) ∧ v_132 m 2 (p : Int) = if nv (vw m 2) (8 + p) = 0 then rpn (nv (vw m 2)) p else -1 := by
  have hN := vwN hw
  have hwn := WFG_nv hw
  have hp12 : p < 12 := by omega
  have eK := nvK (m := m) (s := 2) hp12 hp
  have eS := nvS (m := m) (s := 2) hp12 hp
  have eR := nvR (m := m) (s := 2) hp12 hp
  have hk9 := hwn.2.1 p hp12
  have hs9 := hwn.2.2.1 p hp12
  have hsl := hs p hp12 (by rw [nv0, vw_0]; exact hp)
  have ep : am_s (p : Int) = (p : Int) := am_s_id (by omega) (by omega)
  have es : am_s (m (2 + 2) p) = m (2 + 2) p := by rw [← eS]; exact am_s_id (by omega) (by omega)
  have es2 : am_s (2 * m (2 + 2) p) = 2 * m (2 + 2) p := by rw [← eS]; exact am_s_id (by omega) (by omega)
  have ek : am_s (m (2 + 1) p) = m (2 + 1) p := by rw [← eK]; exact am_s_id (by omega) (by omega)
  have v40 : ¬ am_s (v_40 m 2 (p : Int)) = 0 := by
    rw [v_40_ok (by decide) m _ hw, as_ite, ep]
    exact not_not_intro ⟨by omega, hp⟩
  constructor
  · unfold q_132
    rw [ep, Int.toNat_natCast, es, es2, ek, show am_s 1 = 1 from rfl]
    exact fun _ => ⟨by omega, fun _ q => by omega⟩
  · unfold v_132
    rw [ep, Int.toNat_natCast, es, ek, if_neg v40, show am_s 1 = 1 from rfl, ite_n, ← eK, ← eS, ← eR]
    by_cases h0 : nv (vw m 2) (8 + p) = 0
    · rw [if_pos h0, if_pos h0, if_pos (hsl (by rw [h0]; decide))]
      rfl
    · rw [if_neg h0, if_neg h0]
theorem OPR_fr {m m' : am_M} {r : Nat} (hr : r ∈ rowL) (h : ∀ a, a ≠ 47 → a ≠ 48 → m' a = m a) : vw m' 2 = vw m 2 ∧ (∀ x, rat m' r x = rat m r x) ∧ m' r = m r ∧ (OPR m r → OPR m' r) := by
  have hr' := rowL_cases hr
  have fv : vw m' 2 = vw m 2 := vw_same fun a k q1 q2 => by rw [h a (by omega) (by omega)]
  have f1 : m' r = m r := h r (by omega) (by omega)
  have f2 : m' (r + 1) = m (r + 1) := h (r + 1) (by omega) (by omega)
  have f3 : ∀ x, rat m' r x = rat m r x := fun x => by unfold rat; rw [f1, f2]
  refine ⟨fv, f3, f1, fun ho => ?_⟩
  obtain ⟨o1, o2, o3, o4, o5⟩ := ho
  refine ⟨by rw [fv]; exact o1, by rw [fv]; exact o2, RWC_of f1 f2 o3, by rw [f1]; exact o4, fun k hk => ?_⟩
  rw [f1] at hk
  rw [f3]
  exact o5 k hk
/-- one more laid into its place -/
theorem cf_ins {b : Nat → Nat} {i j : Nat} (hj : j ≤ i) (P : Nat → Bool) : cf (fun x => P (if x < j then b x else if x = j then i else b (x - 1))) (i + 1) = cf (fun x => P (b x)) i + if P i = true then 1 else 0 := by
  obtain ⟨d, rfl⟩ : ∃ d, i = j + d := ⟨i - j, by omega⟩
  have e1 : j + d + 1 = j + (1 + d) := by omega
  rw [e1, cf_add, cf_add (a := j), cf_add (a := 1)]
  have h1 : cf (fun x => P (if x < j then b x else if x = j then j + d else b (x - 1))) j = cf (fun x => P (b x)) j := cf_congr j fun t ht => by rw [if_pos ht]
  have h2 : cf (fun u => P (if j + u < j then b (j + u) else if j + u = j then j + d else b (j + u - 1))) 1 = if P (j + d) = true then 1 else 0 := by
    rw [cf_s]
    show 0 + _ = _
    rw [if_neg (show ¬ j + 0 < j by omega), if_pos (show j + 0 = j by omega), Nat.zero_add]
  have h3 : cf (fun u => P (if j + (1 + u) < j then b (j + (1 + u)) else if j + (1 + u) = j then j + d else b (j + (1 + u) - 1))) d = cf (fun u => P (b (j + u))) d := cf_congr d fun t ht => by rw [if_neg (show ¬ j + (1 + t) < j by omega), if_neg (show ¬ j + (1 + t) = j by omega), show j + (1 + t) - 1 = j + t by omega]
  rw [h1, h2, h3]
  omega
theorem u_138_53 {Q : List am_V → am_M → Prop} {m : am_M} {r : Nat} {n : Int} {i : Int} {j : Int} (h_r : r ∈ rowL) (H : ((am_s j ≤ 0) → (0 ≤ am_s j ∧ am_s j < (10 : Nat)) ∧ (ok 2 138 45 [some (.inr (.inr (some 46))), some (.inr (.inr (some r))), some (.inl n), some (.inl (i + 1)), none] [] (mu m 48 ((am_s j).toNat) i) Q)) ∧ ((¬ (am_s j ≤ 0)) → (0 ≤ am_s (j - 1) ∧ am_s (j - 1) < (10 : Nat)) ∧ ((RWC m r) ∧ (((am_s (am_lcmp ((rat m r (am_s (m 48 ((am_s (j - 1)).toNat))))) ((rat m r (am_s i)))) ≤ 0) → (0 ≤ am_s j ∧ am_s j < (10 : Nat)) ∧ (ok 2 138 45 [some (.inr (.inr (some 46))), some (.inr (.inr (some r))), some (.inl n), some (.inl (i + 1)), none] [] (mu m 48 ((am_s j).toNat) i) Q)) ∧ ((¬ (am_s (am_lcmp ((rat m r (am_s (m 48 ((am_s (j - 1)).toNat))))) ((rat m r (am_s i)))) ≤ 0)) → (0 ≤ am_s j ∧ am_s j < (10 : Nat)) ∧ (ok 2 138 53 [some (.inr (.inr (some 46))), some (.inr (.inr (some r))), some (.inl n), some (.inl i), some (.inl (j + (-1)))] [] (mu m 48 ((am_s j).toNat) (m 48 ((am_s (j - 1)).toNat))) Q)))))) : ok 2 138 53 [some (.inr (.inr (some 46))), some (.inr (.inr (some r))), some (.inl n), some (.inl i), some (.inl j)] [] m Q := by
  refine ok_sg (pc' := 55) (ls' := [some (.inr (.inr (some 46))), some (.inr (.inr (some r))), some (.inl n), some (.inl i), some (.inl j)]) (st' := [.inl j]) (m' := m) (fun fx hfx o hk => ?_) ?_
  · refine r_ld (pc' := 55) hM_138 d_138_53 rfl rfl ?_
    exact hk
  refine ok_if (pc' := 102) (pc2 := 58) hM_138 d_138_55 (by decide) rfl (fun hz1 => ?_) (fun hz1 => ?_)
  · have H := H.1 hz1
    obtain ⟨hz2, H⟩ := H
    refine ok_sg (pc' := 45) (ls' := [some (.inr (.inr (some 46))), some (.inr (.inr (some r))), some (.inl n), some (.inl (i + 1)), none]) (st' := []) (m' := mu m 48 ((am_s j).toNat) i) (fun fx hfx o hk => ?_) ?_
    · refine r_ld (pc' := 103) hM_138 d_138_102 rfl rfl ?_
      refine r_gR (pc' := 106) (v := 48) hM_138 d_138_103 rfl (by decide +kernel) ?_
      refine r_ld (pc' := 108) hM_138 d_138_106 rfl rfl ?_
      refine r_ld (pc' := 109) hM_138 d_138_108 rfl rfl ?_
      refine r_is (pc' := 110) (n := 10) hM_138 d_138_109 rfl rfl hz2 ?_
      refine r_sto (pc' := 113) (ls' := [some (.inr (.inr (some 46))), some (.inr (.inr (some r))), some (.inl n), some (.inl (i + 1)), some (.inl j)]) hM_138 d_138_110 rfl rfl ?_
      refine r_go (pc' := 45) hM_138 d_138_113 (by decide) ?_
      refine rn_wk (a := [some (.inr (.inr (some 46))), some (.inr (.inr (some r))), some (.inl n), some (.inl (i + 1)), none]) (by simp only [am_le, and_self]) ?_
      exact hk
    exact H
  · have H := H.2 hz1
    obtain ⟨hz3, H⟩ := H
    obtain ⟨hz4, H⟩ := H
    refine ok_sg (pc' := 77) (ls' := [some (.inr (.inr (some 46))), some (.inr (.inr (some r))), some (.inl n), some (.inl i), some (.inl j)]) (st' := [.inl (am_lcmp ((rat m r (am_s (m 48 ((am_s (j - 1)).toNat))))) ((rat m r (am_s i))))]) (m' := m) (fun fx hfx o hk => ?_) ?_
    · refine r_ld (pc' := 59) hM_138 d_138_58 rfl rfl ?_
      refine r_ld (pc' := 60) hM_138 d_138_59 rfl rfl ?_
      refine r_gR (pc' := 63) (v := 48) hM_138 d_138_60 rfl (by decide +kernel) ?_
      refine r_ld (pc' := 65) hM_138 d_138_63 rfl rfl ?_
      refine r_k (pc' := 66) (v := .inl 1) hM_138 d_138_65 rfl rfl ?_
      refine r_b (pc' := 67) (z := (j - 1)) hM_138 d_138_66 rfl rfl ?_
      refine r_ia (pc' := 68) (n := 10) hM_138 d_138_67 rfl rfl hz3 ?_
      refine r_cl (pc' := 71) (c := (56, 0)) (a := [.inr (.inr (some r)), .inl (m 48 ((am_s (j - 1)).toNat))]) (q := []) hM_138 d_138_68 rfl (by decide +kernel) hM_56 rfl rfl rfl (Nat.le_of_ble_eq_true rfl) (Nat.le_of_ble_eq_true rfl) (Or.inr (rcvR h_r _)) (n_56 h_r m (m 48 ((am_s (j - 1)).toNat)) hz4) (Nat.le_of_ble_eq_true rfl) ?_
      show rn fx 2 (0, 0) 138 71 [some (.inr (.inr (some 46))), some (.inr (.inr (some r))), some (.inl n), some (.inl i), some (.inl j)] [.inr (.inl ((rat m r (am_s (m 48 ((am_s (j - 1)).toNat))))))] (st0 m) o
      refine r_ld (pc' := 72) hM_138 d_138_71 rfl rfl ?_
      refine r_ld (pc' := 73) hM_138 d_138_72 rfl rfl ?_
      refine r_cl (pc' := 76) (c := (56, 0)) (a := [.inr (.inr (some r)), .inl i]) (q := [.inr (.inl ((rat m r (am_s (m 48 ((am_s (j - 1)).toNat))))))]) hM_138 d_138_73 rfl (by decide +kernel) hM_56 rfl rfl rfl (Nat.le_of_ble_eq_true rfl) (Nat.le_of_ble_eq_true rfl) (Or.inr (rcvR h_r _)) (n_56 h_r m i hz4) (Nat.le_of_ble_eq_true rfl) ?_
      show rn fx 2 (0, 0) 138 76 [some (.inr (.inr (some 46))), some (.inr (.inr (some r))), some (.inl n), some (.inl i), some (.inl j)] [.inr (.inl ((rat m r (am_s i)))), .inr (.inl ((rat m r (am_s (m 48 ((am_s (j - 1)).toNat))))))] (st0 m) o
      refine r_stk (pc' := 77) (st' := [.inl (am_lcmp ((rat m r (am_s (m 48 ((am_s (j - 1)).toNat))))) ((rat m r (am_s i))))]) hM_138 d_138_76 rfl rfl ?_
      exact hk
    refine ok_if (pc' := 102) (pc2 := 80) hM_138 d_138_77 (by decide) rfl (fun hz5 => ?_) (fun hz5 => ?_)
    · have H := H.1 hz5
      obtain ⟨hz6, H⟩ := H
      refine ok_sg (pc' := 45) (ls' := [some (.inr (.inr (some 46))), some (.inr (.inr (some r))), some (.inl n), some (.inl (i + 1)), none]) (st' := []) (m' := mu m 48 ((am_s j).toNat) i) (fun fx hfx o hk => ?_) ?_
      · refine r_ld (pc' := 103) hM_138 d_138_102 rfl rfl ?_
        refine r_gR (pc' := 106) (v := 48) hM_138 d_138_103 rfl (by decide +kernel) ?_
        refine r_ld (pc' := 108) hM_138 d_138_106 rfl rfl ?_
        refine r_ld (pc' := 109) hM_138 d_138_108 rfl rfl ?_
        refine r_is (pc' := 110) (n := 10) hM_138 d_138_109 rfl rfl hz6 ?_
        refine r_sto (pc' := 113) (ls' := [some (.inr (.inr (some 46))), some (.inr (.inr (some r))), some (.inl n), some (.inl (i + 1)), some (.inl j)]) hM_138 d_138_110 rfl rfl ?_
        refine r_go (pc' := 45) hM_138 d_138_113 (by decide) ?_
        refine rn_wk (a := [some (.inr (.inr (some 46))), some (.inr (.inr (some r))), some (.inl n), some (.inl (i + 1)), none]) (by simp only [am_le, and_self]) ?_
        exact hk
      exact H
    · have H := H.2 hz5
      obtain ⟨hz7, H⟩ := H
      refine ok_sg (pc' := 53) (ls' := [some (.inr (.inr (some 46))), some (.inr (.inr (some r))), some (.inl n), some (.inl i), some (.inl (j + (-1)))]) (st' := []) (m' := mu m 48 ((am_s j).toNat) (m 48 ((am_s (j - 1)).toNat))) (fun fx hfx o hk => ?_) ?_
      · refine r_ld (pc' := 81) hM_138 d_138_80 rfl rfl ?_
        refine r_gR (pc' := 84) (v := 48) hM_138 d_138_81 rfl (by decide +kernel) ?_
        refine r_ld (pc' := 86) hM_138 d_138_84 rfl rfl ?_
        refine r_ld (pc' := 87) hM_138 d_138_86 rfl rfl ?_
        refine r_gR (pc' := 90) (v := 48) hM_138 d_138_87 rfl (by decide +kernel) ?_
        refine r_ld (pc' := 92) hM_138 d_138_90 rfl rfl ?_
        refine r_k (pc' := 93) (v := .inl 1) hM_138 d_138_92 rfl rfl ?_
        refine r_b (pc' := 94) (z := (j - 1)) hM_138 d_138_93 rfl rfl ?_
        refine r_ia (pc' := 95) (n := 10) hM_138 d_138_94 rfl rfl hz3 ?_
        refine r_is (pc' := 96) (n := 10) hM_138 d_138_95 rfl rfl hz7 ?_
        refine r_sto (pc' := 99) (ls' := [some (.inr (.inr (some 46))), some (.inr (.inr (some r))), some (.inl n), some (.inl i), some (.inl (j + (-1)))]) hM_138 d_138_96 rfl rfl ?_
        refine r_go (pc' := 53) hM_138 d_138_99 (by decide) ?_
        exact hk
      exact H
theorem u_138_45 {Q : List am_V → am_M → Prop} {m : am_M} {r : Nat} {n : Int} {i : Int} (h_r : r ∈ rowL) (H : ((am_s n ≤ am_s i) → Q [] m) ∧ ((¬ (am_s n ≤ am_s i)) → ok 2 138 53 [some (.inr (.inr (some 46))), some (.inr (.inr (some r))), some (.inl n), some (.inl i), some (.inl i)] [] m Q)) : ok 2 138 45 [some (.inr (.inr (some 46))), some (.inr (.inr (some r))), some (.inl n), some (.inl i), none] [] m Q := by
  refine ok_sg (pc' := 47) (ls' := [some (.inr (.inr (some 46))), some (.inr (.inr (some r))), some (.inl n), some (.inl i), none]) (st' := [.inl n, .inl i]) (m' := m) (fun fx hfx o hk => ?_) ?_
  · refine r_ld (pc' := 46) hM_138 d_138_45 rfl rfl ?_
    refine r_ld (pc' := 47) hM_138 d_138_46 rfl rfl ?_
    exact hk
  refine ok_ic (pc' := 116) (pc2 := 50) hM_138 d_138_47 (by decide) rfl (fun hz1 => ?_) (fun hz1 => ?_)
  · have H := H.1 hz1
    exact ok_rt (fun fx _ => rt_v hM_138 d_138_116 rfl) H
  · have H := H.2 hz1
    refine ok_sg (pc' := 53) (ls' := [some (.inr (.inr (some 46))), some (.inr (.inr (some r))), some (.inl n), some (.inl i), some (.inl i)]) (st' := []) (m' := m) (fun fx hfx o hk => ?_) ?_
    · refine r_ld (pc' := 51) hM_138 d_138_50 rfl rfl ?_
      refine r_sto (pc' := 53) (ls' := [some (.inr (.inr (some 46))), some (.inr (.inr (some r))), some (.inl n), some (.inl i), some (.inl i)]) hM_138 d_138_51 rfl rfl ?_
      exact hk
    exact H
theorem gfR_2_49 {s : Nat} (hs : s ∈ rowL) : am_gf 2 49 s = some (.inl 2) := by
  have h : ∀ s ∈ rowL, am_gf 2 49 s = some (.inl 2) := by decide +kernel
  exact h s hs
theorem u_138_2 {Q : List am_V → am_M → Prop} {m : am_M} {r : Nat} {p : Int} (h_r : r ∈ rowL) (H : ((am_s (m 2 4) ≤ am_s p) → ok 2 138 45 [some (.inr (.inr (some 46))), some (.inr (.inr (some r))), some (.inl (v_14 m (m r 2) 10)), some (.inl 0), none] [] m Q) ∧ ((¬ (am_s (m 2 4) ≤ am_s p)) → (q_132 m 2 p) ∧ ((0 ≤ am_s p ∧ am_s p < (12 : Nat)) ∧ (ok 2 138 2 [some (.inr (.inr (some 46))), some (.inr (.inr (some r))), some (.inl (p + 1)), none, none] [] (mu m 47 ((am_s p).toNat) (v_132 m 2 p)) Q)))) : ok 2 138 2 [some (.inr (.inr (some 46))), some (.inr (.inr (some r))), some (.inl p), none, none] [] m Q := by
  refine ok_sg (pc' := 10) (ls' := [some (.inr (.inr (some 46))), some (.inr (.inr (some r))), some (.inl p), none, none]) (st' := [.inl (m 2 4), .inl p]) (m' := m) (fun fx hfx o hk => ?_) ?_
  · refine r_ld (pc' := 3) hM_138 d_138_2 rfl rfl ?_
    refine r_ld (pc' := 4) hM_138 d_138_3 rfl rfl ?_
    refine r_gR (pc' := 7) (v := 2) hM_138 d_138_4 rfl (by decide +kernel) ?_
    refine r_gI (pc' := 10) (k0 := 4) hM_138 d_138_7 rfl (by decide +kernel) ?_
    exact hk
  refine ok_ic (pc' := 33) (pc2 := 13) hM_138 d_138_10 (by decide) rfl (fun hz1 => ?_) (fun hz1 => ?_)
  · have H := H.1 hz1
    refine ok_sg (pc' := 45) (ls' := [some (.inr (.inr (some 46))), some (.inr (.inr (some r))), some (.inl (v_14 m (m r 2) 10)), some (.inl 0), none]) (st' := []) (m' := m) (fun fx hfx o hk => ?_) ?_
    · refine r_ld (pc' := 34) hM_138 d_138_33 rfl rfl ?_
      refine r_gI (pc' := 37) (k0 := 2) hM_138 d_138_34 rfl (gfR_2_49 h_r) ?_
      refine r_k (pc' := 39) (v := .inl 10) hM_138 d_138_37 rfl rfl ?_
      refine r_cl (pc' := 42) (c := (14, 2)) (a := [.inl (m r 2), .inl 10]) (q := []) hM_138 d_138_39 rfl (by decide +kernel) hM_14 rfl rfl rfl (Nat.le_of_ble_eq_true rfl) (Nat.le_of_ble_eq_true rfl) (Or.inl rfl) (c_14  m (m r 2) 10) (Nat.le_of_ble_eq_true rfl) ?_
      show rn fx 2 (0, 0) 138 42 [some (.inr (.inr (some 46))), some (.inr (.inr (some r))), some (.inl p), none, none] [.inl (v_14 m (m r 2) 10)] (st0 m) o
      refine r_sto (pc' := 43) (ls' := [some (.inr (.inr (some 46))), some (.inr (.inr (some r))), some (.inl (v_14 m (m r 2) 10)), none, none]) hM_138 d_138_42 rfl rfl ?_
      refine r_k (pc' := 44) (v := .inl 0) hM_138 d_138_43 rfl rfl ?_
      refine r_sto (pc' := 45) (ls' := [some (.inr (.inr (some 46))), some (.inr (.inr (some r))), some (.inl (v_14 m (m r 2) 10)), some (.inl 0), none]) hM_138 d_138_44 rfl rfl ?_
      exact hk
    exact H
  · have H := H.2 hz1
    obtain ⟨hz2, H⟩ := H
    obtain ⟨hz3, H⟩ := H
    refine ok_sg (pc' := 2) (ls' := [some (.inr (.inr (some 46))), some (.inr (.inr (some r))), some (.inl (p + 1)), none, none]) (st' := []) (m' := mu m 47 ((am_s p).toNat) (v_132 m 2 p)) (fun fx hfx o hk => ?_) ?_
    · refine r_ld (pc' := 14) hM_138 d_138_13 rfl rfl ?_
      refine r_gR (pc' := 17) (v := 47) hM_138 d_138_14 rfl (by decide +kernel) ?_
      refine r_ld (pc' := 18) hM_138 d_138_17 rfl rfl ?_
      refine r_ld (pc' := 19) hM_138 d_138_18 rfl rfl ?_
      refine r_gR (pc' := 22) (v := 2) hM_138 d_138_19 rfl (by decide +kernel) ?_
      refine r_ld (pc' := 23) hM_138 d_138_22 rfl rfl ?_
      refine r_cl (pc' := 26) (c := (132, 0)) (a := [.inr (.inr (some 2)), .inl p]) (q := [.inl p, .inr (.inr (some 47))]) hM_138 d_138_23 rfl (by decide +kernel) hM_132 rfl rfl rfl (Nat.le_of_ble_eq_true rfl) (Nat.le_of_ble_eq_true rfl) (Or.inr rfl) (c_132 (by decide) m p hz2) (Nat.le_of_ble_eq_true rfl) ?_
      show rn fx 2 (0, 0) 138 26 [some (.inr (.inr (some 46))), some (.inr (.inr (some r))), some (.inl p), none, none] [.inl (v_132 m 2 p), .inl p, .inr (.inr (some 47))] (st0 m) o
      refine r_is (pc' := 27) (n := 12) hM_138 d_138_26 rfl rfl hz3 ?_
      refine r_sto (pc' := 30) (ls' := [some (.inr (.inr (some 46))), some (.inr (.inr (some r))), some (.inl (p + 1)), none, none]) hM_138 d_138_27 rfl rfl ?_
      refine r_go (pc' := 2) hM_138 d_138_30 (by decide) ?_
      exact hk
    exact H
theorem u_138_0 {Q : List am_V → am_M → Prop} {m : am_M} {r : Nat} (h_r : r ∈ rowL) (H : ok 2 138 2 [some (.inr (.inr (some 46))), some (.inr (.inr (some r))), some (.inl 0), none, none] [] m Q) : ok 2 138 0 [some (.inr (.inr (some 46))), some (.inr (.inr (some r))), none, none, none] [] m Q := by
  refine ok_sg (pc' := 2) (ls' := [some (.inr (.inr (some 46))), some (.inr (.inr (some r))), some (.inl 0), none, none]) (st' := []) (m' := m) (fun fx hfx o hk => ?_) ?_
  · refine r_k (pc' := 1) (v := .inl 0) hM_138 d_138_0 rfl rfl ?_
    refine r_sto (pc' := 2) (ls' := [some (.inr (.inr (some 46))), some (.inr (.inr (some r))), some (.inl 0), none, none]) hM_138 d_138_1 rfl rfl ?_
    exact hk
  exact H
theorem z_138 {r : Nat} (h_r : r ∈ rowL) (m : am_M)  (hq : OPR m r) : ok 2 138 0 (am_ent 5 [.inr (.inr (some 46)), .inr (.inr (some r))]) [] m (fun rr m' => rr = [] ∧ LKD m' r ∧ ∀ a, a ≠ 47 → a ≠ 48 → m' a = m a) := by
  show ok 2 138 0 [some (.inr (.inr (some 46))), some (.inr (.inr (some r))), none, none, none] [] m _
  obtain ⟨hw, hs, hR, hn, hnn⟩ := id hq
  have hN := vwN hw
  have hr := rowL_cases h_r
  obtain ⟨N, hNv⟩ : ∃ N : Nat, m 2 4 = (N : Int) := ⟨(m 2 4).toNat, by omega⟩
  obtain ⟨n, hnv⟩ : ∃ n : Nat, m r 2 = (n : Int) := ⟨(m r 2).toNat, by omega⟩
  have eN : am_s (m 2 4) = (N : Int) := by rw [hNv]; exact am_s_id (by omega) (by omega)
  refine u_138_0 h_r ?_
  refine ok_for (σ := Unit) (fun p _ => [some (.inr (.inr (some 46))), some (.inr (.inr (some r))), some (.inl (p : Int)), none, none]) (fun p _ M => (∀ q : Nat, q < p → M 47 q = if nv (vw m 2) (8 + q) = 0 then rpn (nv (vw m 2)) q else -1) ∧ ∀ a, a ≠ 47 → M a = m a) N ?_ ?_ () m ⟨fun q h => absurd h (Nat.not_lt_zero _), fun _ _ => rfl⟩
  · rintro p hp - M ⟨h1, h2⟩ IH
    have fv : vw M 2 = vw m 2 := vw_same fun a k q1 q2 => by rw [h2 a (by omega)]
    obtain ⟨z1, z2⟩ := v132 (m := M) (p := p) (by rw [fv]; exact hw) (by rw [fv]; exact hs) (by rw [h2 2 (by decide), hNv]; omega)
    rw [fv] at z2
    refine u_138_2 h_r ?_
    rw [h2 2 (by decide), eN, am_s_id (z := (p : Int)) (by omega) (by omega), z2, Int.toNat_natCast]
    refine ⟨fun q => by omega, fun _ => ⟨z1, by omega, IH () _ ⟨fun x hx => ?_, fun a ha => by rw [mu_rf ha]; exact h2 a ha⟩⟩⟩
    rw [mu_if]
    by_cases hh : x = p
    · rw [if_pos hh, hh]
    · rw [if_neg hh]; exact h1 x (by omega)
  rintro - M0 ⟨h01, h02⟩
  refine u_138_2 h_r ?_
  rw [h02 2 (by decide), h02 r (by omega), eN, hnv, v14 (by omega) (by omega) (by omega) (by omega), am_s_id (z := (N : Int)) (by omega) (by omega), show min (n : Int) 10 = (n : Int) by omega]
  refine ⟨fun _ => ?_, fun q => by omega⟩
  have key := ok_for (d := 2) (mi := 138) (pc := 45) (Q := fun rr m' => rr = [] ∧ (LKD m' r ∧ ∀ a, a ≠ 47 → a ≠ 48 → m' a = m a)) (σ := Nat → Nat) (fun i _ => [some (.inr (.inr (some 46))), some (.inr (.inr (some r))), some (.inl (n : Int)), some (.inl (i : Int)), none]) (fun i b M => (∀ x, x < i → M 48 x = ((b x : Nat) : Int) ∧ b x < i) ∧ (∀ P : Nat → Bool, cf (fun x => P (b x)) i = cf P i) ∧ (∀ x y, x < y → y < i → rat m r (b x : Int) ≤ rat m r (b y : Int)) ∧ ∀ a, a ≠ 48 → M a = M0 a) n ?_ ?_ (fun _ => 0) M0 ⟨fun x h => absurd h (Nat.not_lt_zero _), fun _ => rfl, fun x y _ h => absurd h (Nat.not_lt_zero _), fun _ _ => rfl⟩
  · exact key
  · rintro i hi b M ⟨h1, h2, h3, h4⟩ IH
    refine u_138_45 h_r ?_
    rw [am_s_id (z := (n : Int)) (by omega) (by omega), am_s_id (z := (i : Int)) (by omega) (by omega)]
    refine ⟨fun q => by omega, fun _ => ?_⟩
    -- all from j on has moved up
    have fin : ∀ (j : Nat) (M' : am_M), j ≤ i → (∀ x, x < j → M' 48 x = M 48 x) → (∀ x, j < x → x ≤ i → M' 48 x = M 48 (x - 1)) → (∀ a, a ≠ 48 → M' a = M a) → (∀ x, x < j → rat m r (b x : Int) ≤ rat m r (i : Int)) → (∀ x, j ≤ x → x < i → rat m r (i : Int) ≤ rat m r (b x : Int)) → ok 2 138 45 [some (.inr (.inr (some 46))), some (.inr (.inr (some r))), some (.inl (n : Int)), some (.inl ((i : Int) + 1)), none] [] (mu M' 48 j (i : Int)) (fun rr m' => rr = [] ∧ (LKD m' r ∧ ∀ a, a ≠ 47 → a ≠ 48 → m' a = m a)) := by
      intro j M' hj z1 z2 z3 z4 z5
      refine IH (fun x => if x < j then b x else if x = j then i else b (x - 1)) _ ⟨fun x hx => ?_, fun P => ?_, fun x y hxy hy => ?_, fun a ha => by rw [mu_rf ha, z3 a ha]; exact h4 a ha⟩
      · show (mu M' 48 j (i : Int)) 48 x = (((if x < j then b x else if x = j then i else b (x - 1)) : Nat) : Int) ∧ (if x < j then b x else if x = j then i else b (x - 1)) < i + 1
        rw [mu_if]
        by_cases c1 : x < j
        · rw [if_neg (show ¬ x = j by omega), if_pos c1, z1 x c1]
          have := h1 x (by omega)
          exact ⟨this.1, by omega⟩
        · by_cases c2 : x = j
          · rw [if_pos c2, if_neg c1, if_pos c2]
            exact ⟨rfl, by omega⟩
          · rw [if_neg c2, if_neg c1, if_neg c2, z2 x (by omega) (by omega)]
            have := h1 (x - 1) (by omega)
            exact ⟨this.1, by omega⟩
      · show cf (fun x => P (if x < j then b x else if x = j then i else b (x - 1))) (i + 1) = cf P (i + 1)
        rw [cf_ins hj, h2 P, cf_s]
      · show rat m r (((if x < j then b x else if x = j then i else b (x - 1)) : Nat) : Int) ≤ rat m r (((if y < j then b y else if y = j then i else b (y - 1)) : Nat) : Int)
        by_cases c1 : y < j
        · rw [if_pos c1, if_pos (show x < j by omega)]
          exact h3 x y hxy (by omega)
        · by_cases c2 : y = j
          · rw [if_neg c1, if_pos c2, if_pos (show x < j by omega)]
            exact z4 x (by omega)
          · rw [if_neg c1, if_neg c2]
            by_cases c3 : x < j
            · rw [if_pos c3]
              exact h3 x (y - 1) (by omega) (by omega)
            · by_cases c4 : x = j
              · rw [if_neg c3, if_pos c4]
                exact z5 (y - 1) (by omega) (by omega)
              · rw [if_neg c3, if_neg c4]
                exact h3 (x - 1) (y - 1) (by omega) (by omega)
    have wh : ∀ (j : Nat) (M' : am_M), j ≤ i → (∀ x, x < j → M' 48 x = M 48 x) → (∀ x, j < x → x ≤ i → M' 48 x = M 48 (x - 1)) → (∀ a, a ≠ 48 → M' a = M a) → (∀ x, j ≤ x → x < i → rat m r (i : Int) ≤ rat m r (b x : Int)) → ok 2 138 53 [some (.inr (.inr (some 46))), some (.inr (.inr (some r))), some (.inl (n : Int)), some (.inl (i : Int)), some (.inl (j : Int))] [] M' (fun rr m' => rr = [] ∧ (LKD m' r ∧ ∀ a, a ≠ 47 → a ≠ 48 → m' a = m a)) := by
      intro j
      induction j with
      | zero =>
        intro M' hj z1 z2 z3 z5
        refine u_138_53 h_r ?_
        rw [am_s_id (z := ((0 : Nat) : Int)) (by omega) (by omega)]
        exact ⟨fun _ => ⟨by omega, fin 0 M' hj z1 z2 z3 (fun x h => absurd h (Nat.not_lt_zero _)) z5⟩, fun q => by omega⟩
      | succ j ih =>
        intro M' hj z1 z2 z3 z5
        obtain ⟨y1, y2⟩ := h1 j (by omega)
        have f3 : ∀ x, rat M' r x = rat m r x := fun x => by
          unfold rat
          rw [z3 r (by omega), z3 (r + 1) (by omega), h4 r (by omega), h4 (r + 1) (by omega), h02 r (by omega), h02 (r + 1) (by omega)]
        have hRM : RWC M' r := RWC_of (by rw [z3 r (by omega), h4 r (by omega), h02 r (by omega)]) (by rw [z3 (r + 1) (by omega), h4 (r + 1) (by omega), h02 (r + 1) (by omega)]) hR
        have hlc : am_s (am_lcmp (rat m r (b j : Int)) (rat m r (i : Int))) ≤ 0 ↔ rat m r (b j : Int) ≤ rat m r (i : Int) := by
          have := lcmp_gt (a := rat m r (b j : Int)) (b := rat m r (i : Int))
          rw [rat_t hR, rat_t hR] at this
          omega
        refine u_138_53 h_r ?_
        rw [am_s_id (z := ((j + 1 : Nat) : Int)) (by omega) (by omega), show ((j + 1 : Nat) : Int) - 1 = (j : Int) by omega, am_s_id (z := (j : Int)) (by omega) (by omega), Int.toNat_natCast, Int.toNat_natCast, z1 j (by omega), y1, am_s_id (z := ((b j : Nat) : Int)) (by omega) (by omega), am_s_id (z := (i : Int)) (by omega) (by omega), f3, f3, hlc]
        refine ⟨fun q => by omega, fun _ => ⟨by omega, hRM, fun q => ⟨by omega, fin (j + 1) M' hj z1 z2 z3 (fun x hx => ?_) z5⟩, fun q => ⟨by omega, ?_⟩⟩⟩
        · by_cases hh : x = j
          · rw [hh]; exact q
          · have := h3 x j (by omega) (by omega)
            omega
        · have := ih (mu M' 48 (j + 1) ((b j : Nat) : Int)) (by omega) (fun x hx => by rw [mu_k (by omega)]; exact z1 x (by omega)) (fun x hx hxi => ?_) (fun a ha => by rw [mu_rf ha]; exact z3 a ha) (fun x hx hxi => ?_)
          · rw [show ((j + 1 : Nat) : Int) + (-1) = (j : Int) by omega]
            exact this
          · rw [mu_if]
            by_cases hh : x = j + 1
            · rw [if_pos hh, hh, show j + 1 - 1 = j by omega, y1]
            · rw [if_neg hh]; exact z2 x (by omega) hxi
          · by_cases hh : x = j
            · rw [hh]; omega
            · exact z5 x (by omega) hxi
    exact wh i M (Nat.le_refl _) (fun _ _ => rfl) (fun x h1 h2 => by omega) (fun _ _ => rfl) (fun x h1 h2 => by omega)
  · rintro b M ⟨h1, h2, h3, h4⟩
    have hfr : ∀ a, a ≠ 47 → a ≠ 48 → M a = m a := fun a q1 q2 => by rw [h4 a q2, h02 a q1]
    obtain ⟨f1, f2, f3, -⟩ := OPR_fr h_r hfr
    refine u_138_45 h_r ?_
    rw [am_s_id (z := (n : Int)) (by omega) (by omega)]
    refine ⟨fun _ => ⟨rfl, ⟨?_, b, ?_, ?_, ?_⟩, hfr⟩, fun q => by omega⟩
    · intro p hp
      rw [hfr 2 (by decide) (by decide), hNv] at hp
      rw [f1, h4 47 (by decide)]
      exact h01 p (by omega)
    · intro i hi
      rw [f3, hnv] at hi ⊢
      have := h1 i (by omega)
      exact ⟨this.1, by omega⟩
    · intro P
      rw [f3, hnv, Int.toNat_natCast]
      exact h2 P
    · intro x y hxy hy
      rw [f3, hnv] at hy
      rw [f2, f2]
      exact h3 x y hxy (by omega)
theorem t_141_0 {fx : am_X0} {o : List am_V × am_S} {m : am_M} {r : Nat} {k : Int} {p : Int} {t : Int} (h_r : r ∈ rowL) (H : (0 ≤ am_s p ∧ am_s p < (12 : Nat)) ∧ (((¬ (am_s (m 47 ((am_s p).toNat)) = am_s (-1))) → (RWC m r)) ∧ (∀ y1 : Int, y1 = (if am_s (m 47 ((am_s p).toNat)) = am_s (-1) then 0 else (if 0 < am_s (am_lcmp (am_s (m 47 ((am_s p).toNat))) ((rat m r (am_s k)))) then 0 else (if ¬ am_s (am_and (am_shr t p) 1) = 0 then 0 else 1))) → o = ([.inl y1], st0 m)))) : rn fx 1 (0, 0) 141 0 [some (.inr (.inr (some 46))), some (.inr (.inr (some r))), some (.inl k), some (.inl p), some (.inl t)] [] (st0 m) o := by
  refine r_ld (pc' := 1) hM_141 d_141_0 rfl rfl ?_
  refine r_gR (pc' := 4) (v := 47) hM_141 d_141_1 rfl (by decide +kernel) ?_
  refine r_ld (pc' := 5) hM_141 d_141_4 rfl rfl ?_
  obtain ⟨hz1, H⟩ := H
  refine r_ia (pc' := 6) (n := 12) hM_141 d_141_5 rfl rfl hz1 ?_
  refine r_k (pc' := 7) (v := .inl (-1)) hM_141 d_141_6 rfl rfl ?_
  obtain ⟨hz3, H⟩ := H
  have K : ∀ y1 : Int, y1 = (if am_s (m 47 ((am_s p).toNat)) = am_s (-1) then 0 else (if 0 < am_s (am_lcmp (am_s (m 47 ((am_s p).toNat))) ((rat m r (am_s k)))) then 0 else (if ¬ am_s (am_and (am_shr t p) 1) = 0 then 0 else 1))) → rn fx 1 (0, 0) 141 40 [some (.inr (.inr (some 46))), some (.inr (.inr (some r))), some (.inl k), some (.inl p), some (.inl t)] [.inl y1] (st0 m) o := by
    intro y1 hy1
    replace H := H y1 hy1
    subst H
    refine rt_z hM_141 d_141_40 rfl ?_
    rw [hy1]
    repeat' first | exact Or.inl rfl | exact Or.inr rfl | apply z01_ite
  replace K := K _ rfl
  clear H
  refine r_ic (pc' := 39) (pc2 := 10) hM_141 d_141_7 (by decide) rfl (fun hz2 => ?_) (fun hz2 => ?_)
  · have hz2 : am_s (m 47 ((am_s p).toNat)) = am_s (-1) := hz2
    rw [if_pos hz2] at K
    refine r_k (pc' := 40) (v := .inl 0) hM_141 d_141_39 rfl rfl ?_
    exact K
  · have hz2 : ¬ (am_s (m 47 ((am_s p).toNat)) = am_s (-1)) := hz2
    rw [if_neg hz2] at K
    refine r_ld (pc' := 11) hM_141 d_141_10 rfl rfl ?_
    refine r_gR (pc' := 14) (v := 47) hM_141 d_141_11 rfl (by decide +kernel) ?_
    refine r_ld (pc' := 15) hM_141 d_141_14 rfl rfl ?_
    refine r_ia (pc' := 16) (n := 12) hM_141 d_141_15 rfl rfl hz1 ?_
    refine r_stk (pc' := 17) (st' := [.inr (.inl (am_s (m 47 ((am_s p).toNat))))]) hM_141 d_141_16 rfl rfl ?_
    refine r_ld (pc' := 18) hM_141 d_141_17 rfl rfl ?_
    refine r_ld (pc' := 19) hM_141 d_141_18 rfl rfl ?_
    refine r_cl (pc' := 22) (c := (56, 0)) (a := [.inr (.inr (some r)), .inl k]) (q := [.inr (.inl (am_s (m 47 ((am_s p).toNat))))]) hM_141 d_141_19 rfl (by decide +kernel) hM_56 rfl rfl rfl (Nat.le_of_ble_eq_true rfl) (Nat.le_of_ble_eq_true rfl) (Or.inr (rcvR h_r _)) (n_56 h_r m k (hz3 hz2)) (Nat.le_of_ble_eq_true rfl) ?_
    show rn fx 1 (0, 0) 141 22 [some (.inr (.inr (some 46))), some (.inr (.inr (some r))), some (.inl k), some (.inl p), some (.inl t)] [.inr (.inl ((rat m r (am_s k)))), .inr (.inl (am_s (m 47 ((am_s p).toNat))))] (st0 m) o
    refine r_stk (pc' := 23) (st' := [.inl (am_lcmp (am_s (m 47 ((am_s p).toNat))) ((rat m r (am_s k))))]) hM_141 d_141_22 rfl rfl ?_
    refine r_if (pc' := 39) (pc2 := 26) hM_141 d_141_23 (by decide) rfl (fun hz4 => ?_) (fun hz4 => ?_)
    · have hz4 : 0 < am_s (am_lcmp (am_s (m 47 ((am_s p).toNat))) ((rat m r (am_s k)))) := hz4
      rw [if_pos hz4] at K
      refine r_k (pc' := 40) (v := .inl 0) hM_141 d_141_39 rfl rfl ?_
      exact K
    · have hz4 : ¬ (0 < am_s (am_lcmp (am_s (m 47 ((am_s p).toNat))) ((rat m r (am_s k))))) := hz4
      rw [if_neg hz4] at K
      refine r_ld (pc' := 28) hM_141 d_141_26 rfl rfl ?_
      refine r_ld (pc' := 29) hM_141 d_141_28 rfl rfl ?_
      refine r_b (pc' := 30) (z := (am_shr t p)) hM_141 d_141_29 rfl rfl ?_
      refine r_k (pc' := 31) (v := .inl 1) hM_141 d_141_30 rfl rfl ?_
      refine r_b (pc' := 32) (z := (am_and (am_shr t p) 1)) hM_141 d_141_31 rfl rfl ?_
      refine r_if (pc' := 39) (pc2 := 35) hM_141 d_141_32 (by decide) rfl (fun hz5 => ?_) (fun hz5 => ?_)
      · have hz5 : ¬ am_s (am_and (am_shr t p) 1) = 0 := hz5
        rw [if_pos hz5] at K
        refine r_k (pc' := 40) (v := .inl 0) hM_141 d_141_39 rfl rfl ?_
        exact K
      · have hz5 : ¬ (¬ am_s (am_and (am_shr t p) 1) = 0) := hz5
        rw [if_neg hz5] at K
        refine r_k (pc' := 36) (v := .inl 1) hM_141 d_141_35 rfl rfl ?_
        refine r_go (pc' := 40) hM_141 d_141_36 (by decide) ?_
        exact K
def v_141 (m : am_M) (r : Nat) (k : Int) (p : Int) (t : Int) : Int := (if am_s (m 47 ((am_s p).toNat)) = am_s (-1) then 0 else (if 0 < am_s (am_lcmp (am_s (m 47 ((am_s p).toNat))) ((rat m r (am_s k)))) then 0 else (if ¬ am_s (am_and (am_shr t p) 1) = 0 then 0 else 1)))
def q_141 (m : am_M) (r : Nat) (k : Int) (p : Int) (t : Int) : Prop := (0 ≤ am_s p ∧ am_s p < (12 : Nat)) ∧ ((¬ (am_s (m 47 ((am_s p).toNat)) = am_s (-1))) → (RWC m r))
/-- HeardBarrels$Buyers.isFor -/
theorem c_141 {fx : am_X0} {r : Nat} (h_r : r ∈ rowL) (m : am_M) (k : Int) (p : Int) (t : Int) (hq : q_141 m r k p t) : rn fx 1 (0, 0) 141 0 (am_ent 5 [.inr (.inr (some 46)), .inr (.inr (some r)), .inl k, .inl p, .inl t]) [] (st0 m) ([.inl (v_141 m r k p t)], st0 m) := by
  unfold q_141 at hq
  show rn fx 1 (0, 0) 141 0 [some (.inr (.inr (some 46))), some (.inr (.inr (some r))), some (.inl k), some (.inl p), some (.inl t)] [] (st0 m) _
  refine t_141_0 h_r ?_
  obtain ⟨hb0_0, hq⟩ := hq
  refine ⟨hb0_0, ?_⟩
  have hb0_0 := hq
  refine ⟨hb0_0, ?_⟩
  intro y1 hy1
  subst hy1
  simp only [v_141]
theorem v141 {m : am_M} {r k p T : Nat} (hO : OPR m r) (hL : LKD m r) (hp : (p : Int) < m 2 4) (hk : (k : Int) < m r 2) (hT : T < 4096) : q_141 m r (k : Int) (p : Int) (T : Int) ∧ (am_s (v_141 m r (k : Int) (p : Int) (T : Int)) = 0 ↔ ¬ ((sdp (nv (vw m 2)) p && !T.testBit p && decide (rpn (nv (vw m 2)) p ≤ rat m r (k : Int))) = true)) := by
  have hN := vwN hO.1
  have hR := hO.2.2.1
  have hn := hO.2.2.2.1
  have ep : am_s (p : Int) = (p : Int) := am_s_id (by omega) (by omega)
  have ek : am_s (k : Int) = (k : Int) := am_s_id (by omega) (by omega)
  have e47 := hL.1 p hp
  constructor
  · unfold q_141
    rw [ep]
    exact ⟨by omega, fun _ => hR⟩
  · unfold v_141 sdp
    rw [ep, ek, Int.toNat_natCast, e47, show am_s (-1) = -1 from rfl]
    by_cases h0 : nv (vw m 2) (8 + p) = 0
    · have hr := OPR_rp hO hp h0
      have es : am_s (rpn (nv (vw m 2)) p) = rpn (nv (vw m 2)) p := am_s_id (by omega) (by omega)
      have hg := lcmp_gt (a := rpn (nv (vw m 2)) p) (b := rat m r (k : Int))
      rw [rat_t hR, t32 es] at hg
      have hbb := bx_bit (B := T) (i := p) (by omega) (by omega)
      rw [if_pos h0, es, if_neg (by omega), decide_eq_true h0, Bool.true_and]
      by_cases h1 : rat m r (k : Int) < rpn (nv (vw m 2)) p
      · rw [if_pos (hg.mpr h1), decide_eq_false (by omega), Bool.and_false]
        exact ⟨fun _ => by decide, fun _ => rfl⟩
      · rw [if_neg (fun q => h1 (hg.mp q)), decide_eq_true (by omega), Bool.and_true]
        cases hb : T.testBit p
        · rw [if_neg (not_not_intro (hbb.mpr hb))]
          exact ⟨fun q => absurd q (by decide), fun q => absurd rfl q⟩
        · rw [if_pos (fun q => by rw [hbb.mp q] at hb; exact absurd hb (by decide))]
          exact ⟨fun _ => by decide, fun _ => rfl⟩
    · rw [if_neg h0, show am_s (-1) = -1 from rfl, if_pos rfl, decide_eq_false h0, Bool.false_and, Bool.false_and]
      exact ⟨fun _ => by decide, fun _ => rfl⟩
theorem u_140_6 {Q : List am_V → am_M → Prop} {m : am_M} {r : Nat} {k : Int} {t : Int} {x : Int} {p : Int} (h_r : r ∈ rowL) (H : ((am_s (m 2 4) ≤ am_s p) → Q [.inl x] m) ∧ ((¬ (am_s (m 2 4) ≤ am_s p)) → (q_141 m r k p t) ∧ (((am_s (v_141 m r k p t) = 0) → ok 2 140 6 [some (.inr (.inr (some 46))), some (.inr (.inr (some r))), some (.inl k), some (.inl t), some (.inl x), some (.inl (p + 1))] [] m Q) ∧ ((¬ (am_s (v_141 m r k p t) = 0)) → ok 2 140 6 [some (.inr (.inr (some 46))), some (.inr (.inr (some r))), some (.inl k), some (.inl t), some (.inl (x + 1)), some (.inl (p + 1))] [] m Q)))) : ok 2 140 6 [some (.inr (.inr (some 46))), some (.inr (.inr (some r))), some (.inl k), some (.inl t), some (.inl x), some (.inl p)] [] m Q := by
  refine ok_sg (pc' := 15) (ls' := [some (.inr (.inr (some 46))), some (.inr (.inr (some r))), some (.inl k), some (.inl t), some (.inl x), some (.inl p)]) (st' := [.inl (m 2 4), .inl p]) (m' := m) (fun fx hfx o hk => ?_) ?_
  · refine r_ld (pc' := 8) hM_140 d_140_6 rfl rfl ?_
    refine r_ld (pc' := 9) hM_140 d_140_8 rfl rfl ?_
    refine r_gR (pc' := 12) (v := 2) hM_140 d_140_9 rfl (by decide +kernel) ?_
    refine r_gI (pc' := 15) (k0 := 4) hM_140 d_140_12 rfl (by decide +kernel) ?_
    exact hk
  refine ok_ic (pc' := 39) (pc2 := 18) hM_140 d_140_15 (by decide) rfl (fun hz1 => ?_) (fun hz1 => ?_)
  · have H := H.1 hz1
    refine ok_sg (pc' := 41) (ls' := [some (.inr (.inr (some 46))), some (.inr (.inr (some r))), some (.inl k), some (.inl t), some (.inl x), some (.inl p)]) (st' := [.inl x]) (m' := m) (fun fx hfx o hk => ?_) ?_
    · refine r_ld (pc' := 41) hM_140 d_140_39 rfl rfl ?_
      exact hk
    exact ok_rt (fun fx _ => rt_i hM_140 d_140_41 rfl) H
  · have H := H.2 hz1
    obtain ⟨hz2, H⟩ := H
    refine ok_sg (pc' := 27) (ls' := [some (.inr (.inr (some 46))), some (.inr (.inr (some r))), some (.inl k), some (.inl t), some (.inl x), some (.inl p)]) (st' := [.inl (v_141 m r k p t)]) (m' := m) (fun fx hfx o hk => ?_) ?_
    · refine r_ld (pc' := 19) hM_140 d_140_18 rfl rfl ?_
      refine r_ld (pc' := 20) hM_140 d_140_19 rfl rfl ?_
      refine r_ld (pc' := 21) hM_140 d_140_20 rfl rfl ?_
      refine r_ld (pc' := 23) hM_140 d_140_21 rfl rfl ?_
      refine r_ld (pc' := 24) hM_140 d_140_23 rfl rfl ?_
      refine r_cl (pc' := 27) (c := (141, 0)) (a := [.inr (.inr (some 46)), .inr (.inr (some r)), .inl k, .inl p, .inl t]) (q := []) hM_140 d_140_24 rfl (by decide +kernel) hM_141 rfl rfl rfl (Nat.le_of_ble_eq_true rfl) (Nat.le_of_ble_eq_true rfl) (Or.inr rfl) (c_141 h_r m k p t hz2) (Nat.le_of_ble_eq_true rfl) ?_
      show rn fx 2 (0, 0) 140 27 [some (.inr (.inr (some 46))), some (.inr (.inr (some r))), some (.inl k), some (.inl t), some (.inl x), some (.inl p)] [.inl (v_141 m r k p t)] (st0 m) o
      exact hk
    refine ok_if (pc' := 33) (pc2 := 30) hM_140 d_140_27 (by decide) rfl (fun hz3 => ?_) (fun hz3 => ?_)
    · have H := H.1 hz3
      refine ok_sg (pc' := 6) (ls' := [some (.inr (.inr (some 46))), some (.inr (.inr (some r))), some (.inl k), some (.inl t), some (.inl x), some (.inl (p + 1))]) (st' := []) (m' := m) (fun fx hfx o hk => ?_) ?_
      · refine r_sto (pc' := 36) (ls' := [some (.inr (.inr (some 46))), some (.inr (.inr (some r))), some (.inl k), some (.inl t), some (.inl x), some (.inl (p + 1))]) hM_140 d_140_33 rfl rfl ?_
        refine r_go (pc' := 6) hM_140 d_140_36 (by decide) ?_
        exact hk
      exact H
    · have H := H.2 hz3
      refine ok_sg (pc' := 6) (ls' := [some (.inr (.inr (some 46))), some (.inr (.inr (some r))), some (.inl k), some (.inl t), some (.inl (x + 1)), some (.inl (p + 1))]) (st' := []) (m' := m) (fun fx hfx o hk => ?_) ?_
      · refine r_sto (pc' := 33) (ls' := [some (.inr (.inr (some 46))), some (.inr (.inr (some r))), some (.inl k), some (.inl t), some (.inl (x + 1)), some (.inl p)]) hM_140 d_140_30 rfl rfl ?_
        refine r_sto (pc' := 36) (ls' := [some (.inr (.inr (some 46))), some (.inr (.inr (some r))), some (.inl k), some (.inl t), some (.inl (x + 1)), some (.inl (p + 1))]) hM_140 d_140_33 rfl rfl ?_
        refine r_go (pc' := 6) hM_140 d_140_36 (by decide) ?_
        exact hk
      exact H
theorem u_140_0 {Q : List am_V → am_M → Prop} {m : am_M} {r : Nat} {k : Int} {t : Int} (h_r : r ∈ rowL) (H : ok 2 140 6 [some (.inr (.inr (some 46))), some (.inr (.inr (some r))), some (.inl k), some (.inl t), some (.inl 0), some (.inl 0)] [] m Q) : ok 2 140 0 [some (.inr (.inr (some 46))), some (.inr (.inr (some r))), some (.inl k), some (.inl t), none, none] [] m Q := by
  refine ok_sg (pc' := 6) (ls' := [some (.inr (.inr (some 46))), some (.inr (.inr (some r))), some (.inl k), some (.inl t), some (.inl 0), some (.inl 0)]) (st' := []) (m' := m) (fun fx hfx o hk => ?_) ?_
  · refine r_k (pc' := 1) (v := .inl 0) hM_140 d_140_0 rfl rfl ?_
    refine r_sto (pc' := 3) (ls' := [some (.inr (.inr (some 46))), some (.inr (.inr (some r))), some (.inl k), some (.inl t), some (.inl 0), none]) hM_140 d_140_1 rfl rfl ?_
    refine r_k (pc' := 4) (v := .inl 0) hM_140 d_140_3 rfl rfl ?_
    refine r_sto (pc' := 6) (ls' := [some (.inr (.inr (some 46))), some (.inr (.inr (some r))), some (.inl k), some (.inl t), some (.inl 0), some (.inl 0)]) hM_140 d_140_4 rfl rfl ?_
    exact hk
  exact H
theorem z_140 {r : Nat} (h_r : r ∈ rowL) (m : am_M) (k : Int) (t : Int) (hq : OPR m r ∧ LKD m r ∧ (0 ≤ k ∧ k < m r 2) ∧ 0 ≤ t ∧ t < 4096) : ok 2 140 0 (am_ent 6 [.inr (.inr (some 46)), .inr (.inr (some r)), .inl k, .inl t]) [] m (fun rr m' => rr = [.inl (((cT (sdp (nv (vw m 2))) (rpn (nv (vw m 2))) (m 2 4).toNat t.toNat (rat m r k) : Nat) : Int))] ∧ m' = m) := by
  show ok 2 140 0 [some (.inr (.inr (some 46))), some (.inr (.inr (some r))), some (.inl k), some (.inl t), none, none] [] m _
  obtain ⟨hO, hL, hk, ht⟩ := hq
  have hN := vwN hO.1
  obtain ⟨K, rfl⟩ : ∃ K : Nat, k = (K : Int) := ⟨k.toNat, by omega⟩
  obtain ⟨T, rfl⟩ : ∃ T : Nat, t = (T : Int) := ⟨t.toNat, by omega⟩
  rw [Int.toNat_natCast]
  refine u_140_0 h_r ?_
  refine ok_for (σ := Unit) (fun p _ => [some (.inr (.inr (some 46))), some (.inr (.inr (some r))), some (.inl (K : Int)), some (.inl (T : Int)), some (.inl ((cf (fun p => sdp (nv (vw m 2)) p && !T.testBit p && decide (rpn (nv (vw m 2)) p ≤ rat m r (K : Int))) p : Nat) : Int)), some (.inl (p : Int))]) (fun p _ M => M = m) (m 2 4).toNat ?_ ?_ () m rfl
  · rintro p hp - M hM IH
    rw [hM]
    obtain ⟨z1, z2⟩ := v141 hO hL (p := p) (by omega) hk.2 (T := T) (by omega)
    refine u_140_6 h_r ?_
    rw [am_s_id (z := m 2 4) (by omega) (by omega), am_s_id (z := (p : Int)) (by omega) (by omega), z2]
    have := IH () m rfl
    rw [cf_s] at this
    refine ⟨fun q => by omega, fun _ => ⟨z1, fun q => ?_, fun q => ?_⟩⟩
    · rw [if_neg q] at this
      exact this
    · rw [if_pos (Decidable.not_not.mp q)] at this
      exact this
  · rintro - M hM
    rw [hM]
    refine u_140_6 h_r ?_
    rw [am_s_id (z := m 2 4) (by omega) (by omega), am_s_id (z := (((m 2 4).toNat : Nat) : Int)) (by omega) (by omega)]
    exact ⟨fun _ => ⟨rfl, rfl⟩, fun q => by omega⟩
