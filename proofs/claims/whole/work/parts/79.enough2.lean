def TLS (g : Nat → Int) (t : Nat) : Prop := ∀ a b : Nat, b < a → sb (may g) a → sb (may g) b → ¬ unl g a b (g 0).toNat &&& t = 0
noncomputable def enq (g : Nat → Int) : Nat → Bool := fun t => decide (sb (brl g) t) && @decide (TLS g t) (Classical.propDecidable _)
theorem enq_t {g : Nat → Int} {t : Nat} : enq g t = true ↔ sb (brl g) t ∧ TLS g t := by
  unfold enq
  rw [Bool.and_eq_true, decide_eq_true_eq]
  exact and_congr_right fun _ => @decide_eq_true_iff _ (Classical.propDecidable _)
def ens (x : Int) (t : Nat) : Int := if x = -1 ∨ cnt t 12 < cnt x.toNat 12 then (t : Int) else x
noncomputable def env (g : Nat → Int) : Int := fr ens (enq g) (-1) (brl g + 1)
theorem ens_rng {Q : Nat → Bool} : ∀ b, b ≤ 4097 → -1 ≤ fr ens Q (-1) b ∧ fr ens Q (-1) b < 4097 := by
  intro b
  induction b with
  | zero => intro _; show -1 ≤ (-1 : Int) ∧ (-1 : Int) < 4097; omega
  | succ b ih =>
    intro hb
    have := ih (by omega)
    rw [fr_s]
    unfold ens at this ⊢
    split
    · split <;> omega
    · omega
theorem en_sur {F a : Nat} (hF : F < 4096) (h : sb F a) : ∃ i, i < 2 ^ cnt F 12 ∧ en F i = a := by
  have hle := sub_le h
  have hq : sbq F a = true := decide_eq_true h
  have hi : cf (sbq F) a < 2 ^ cnt F 12 := by
    rw [← rk_all hF]
    exact cf_lt (by omega) hq
  obtain ⟨h1, h2⟩ := en_ok hF _ hi
  refine ⟨_, hi, ?_⟩
  have hq2 : sbq F (en F (cf (sbq F) a)) = true := decide_eq_true h1
  rcases Nat.lt_trichotomy (en F (cf (sbq F) a)) a with q | q | q
  · have := cf_lt q hq2; omega
  · exact q
  · have := cf_lt q hq; omega
theorem en_mono {F i j : Nat} (hF : F < 4096) (hi : i < 2 ^ cnt F 12) (hj : j < 2 ^ cnt F 12) : j < i ↔ en F j < en F i := by
  obtain ⟨a1, a2⟩ := en_ok hF i hi
  obtain ⟨b1, b2⟩ := en_ok hF j hj
  have hqa : sbq F (en F i) = true := decide_eq_true a1
  have hqb : sbq F (en F j) = true := decide_eq_true b1
  constructor
  · intro h
    rcases Nat.lt_trichotomy (en F j) (en F i) with q | q | q
    · exact q
    · rw [q] at b2; omega
    · have := cf_lt q hqa; omega
  · intro h
    have := cf_lt h hqb
    omega
theorem brl_lt2 {g : Nat → Int} (h : WFG g) : brl g < 2 ^ (g 0).toNat := by
  apply Nat.lt_pow_two_of_testBit
  intro i hi
  cases hb : (brl g).testBit i
  · rfl
  · have := ((brl_bit h).mp hb).1
    omega
theorem unl_brl {g : Nat → Int} {a b : Nat} (h : WFG g) : sb (brl g) (unl g a b (g 0).toNat) := by
  unfold sb
  rw [nat_sub]
  intro i hi
  rw [unl_bit, Bool.and_eq_true, decide_eq_true_eq, decide_eq_true_eq] at hi
  exact (brl_bit h).mpr ⟨by omega, fun q => hi.2 (Or.inl q)⟩
/-- two sets are told apart at places, or all such places lie beyond -/
theorem sdf_sb {B t u : Nat} (hB : B < 4096) (hu : sb B u) : sb (sdf B t) u ↔ u &&& t = 0 := by
  constructor
  · intro h
    apply Nat.eq_of_testBit_eq
    intro i
    rw [Nat.testBit_and, Nat.zero_testBit]
    cases hi : u.testBit i
    · rfl
    · have := nat_sub.mp h i hi
      rw [sdf_bit (by omega), Bool.and_eq_true, Bool.not_eq_true'] at this
      rw [this.2, Bool.and_false]
  · intro h
    unfold sb
    rw [nat_sub]
    intro i hi
    rw [sdf_bit (by omega), Bool.and_eq_true, Bool.not_eq_true']
    refine ⟨nat_sub.mp hu i hi, ?_⟩
    have : (u &&& t).testBit i = false := by rw [h, Nat.zero_testBit]
    rw [Nat.testBit_and, hi, Bool.true_and] at this
    exact this
theorem u_105_58 {Q : List am_V → am_M → Prop} {m : am_M} {b : Int} {x : Int} {y : Int} {n : Int} {s : Int}  (H : ((am_s n ≤ am_s s) → Q [.inl x] m) ∧ ((¬ (am_s n ≤ am_s s)) → ∀ y1 : Int, y1 = (if ¬ am_s (am_and s (am_xor b (-1))) = 0 then 0 else 1) → ((am_s y1 = 0) → ok 4 105 58 [some (.inr (.inr (some 34))), some (.inl b), some (.inl x), some (.inl y), some (.inl n), some (.inl (s + 1)), none] [] m Q) ∧ ((¬ (am_s y1 = 0)) → (0 ≤ am_s (am_and b (am_xor s (-1))) ∧ am_s (am_and b (am_xor s (-1))) < (4096 : Nat)) ∧ (((¬ am_s (m 42 ((am_s (am_and b (am_xor s (-1)))).toNat)) = 0) → ok 4 105 58 [some (.inr (.inr (some 34))), some (.inl b), some (.inl x), some (.inl y), some (.inl n), some (.inl (s + 1)), none] [] m Q) ∧ ((am_s (m 42 ((am_s (am_and b (am_xor s (-1)))).toNat)) = 0) → (0 ≤ s ∧ s < 4096) ∧ (((am_s y ≤ am_s (((cnt s.toNat 12 : Nat) : Int))) → ok 4 105 58 [some (.inr (.inr (some 34))), some (.inl b), some (.inl x), some (.inl y), some (.inl n), some (.inl (s + 1)), none] [] m Q) ∧ ((¬ (am_s y ≤ am_s (((cnt s.toNat 12 : Nat) : Int)))) → ok 4 105 58 [some (.inr (.inr (some 34))), some (.inl b), some (.inl s), some (.inl (((cnt s.toNat 12 : Nat) : Int))), some (.inl n), some (.inl (s + 1)), none] [] m Q))))))) : ok 4 105 58 [some (.inr (.inr (some 34))), some (.inl b), some (.inl x), some (.inl y), some (.inl n), some (.inl s), none] [] m Q := by
  refine ok_sg (pc' := 62) (ls' := [some (.inr (.inr (some 34))), some (.inl b), some (.inl x), some (.inl y), some (.inl n), some (.inl s), none]) (st' := [.inl n, .inl s]) (m' := m) (fun fx hfx o hk => ?_) ?_
  · refine r_ld (pc' := 60) hM_105 d_105_58 rfl rfl ?_
    refine r_ld (pc' := 62) hM_105 d_105_60 rfl rfl ?_
    exact hk
  refine ok_ic (pc' := 124) (pc2 := 65) hM_105 d_105_62 (by decide) rfl (fun hz1 => ?_) (fun hz1 => ?_)
  · have H := H.1 hz1
    refine ok_sg (pc' := 125) (ls' := [some (.inr (.inr (some 34))), some (.inl b), some (.inl x), some (.inl y), some (.inl n), some (.inl s), none]) (st' := [.inl x]) (m' := m) (fun fx hfx o hk => ?_) ?_
    · refine r_ld (pc' := 125) hM_105 d_105_124 rfl rfl ?_
      exact hk
    exact ok_rt (fun fx _ => rt_i hM_105 d_105_125 rfl) H
  · have H := H.2 hz1
    refine ok_sg (pc' := 71) (ls' := [some (.inr (.inr (some 34))), some (.inl b), some (.inl x), some (.inl y), some (.inl n), some (.inl s), none]) (st' := [.inl (am_and s (am_xor b (-1)))]) (m' := m) (fun fx hfx o hk => ?_) ?_
    · refine r_ld (pc' := 67) hM_105 d_105_65 rfl rfl ?_
      refine r_ld (pc' := 68) hM_105 d_105_67 rfl rfl ?_
      refine r_k (pc' := 69) (v := .inl (-1)) hM_105 d_105_68 rfl rfl ?_
      refine r_b (pc' := 70) (z := (am_xor b (-1))) hM_105 d_105_69 rfl rfl ?_
      refine r_b (pc' := 71) (z := (am_and s (am_xor b (-1)))) hM_105 d_105_70 rfl rfl ?_
      exact hk
    refine ok_sg (pc' := 79) (ls' := [some (.inr (.inr (some 34))), some (.inl b), some (.inl x), some (.inl y), some (.inl n), some (.inl s), none]) (st' := [.inl (if ¬ am_s (am_and s (am_xor b (-1))) = 0 then 0 else 1)]) (m' := m) (fun fx hfx o K => ?_) ?_
    · refine r_if (pc' := 78) (pc2 := 74) hM_105 d_105_71 (by decide) rfl (fun hz2 => ?_) (fun hz2 => ?_)
      · have hz2 : ¬ am_s (am_and s (am_xor b (-1))) = 0 := hz2
        rw [if_pos hz2] at K
        refine r_k (pc' := 79) (v := .inl 0) hM_105 d_105_78 rfl rfl ?_
        exact K
      · have hz2 : ¬ (¬ am_s (am_and s (am_xor b (-1))) = 0) := hz2
        rw [if_neg hz2] at K
        refine r_k (pc' := 75) (v := .inl 1) hM_105 d_105_74 rfl rfl ?_
        refine r_go (pc' := 79) hM_105 d_105_75 (by decide) ?_
        exact K
    have K : ∀ y1 : Int, y1 = (if ¬ am_s (am_and s (am_xor b (-1))) = 0 then 0 else 1) → ok 4 105 79 [some (.inr (.inr (some 34))), some (.inl b), some (.inl x), some (.inl y), some (.inl n), some (.inl s), none] [.inl y1] m Q := by
      intro y1 hy1
      replace H := H y1 hy1
      refine ok_sg (pc' := 83) (ls' := [some (.inr (.inr (some 34))), some (.inl b), some (.inl x), some (.inl y), some (.inl n), some (.inl s), some (.inl y1)]) (st' := [.inl y1]) (m' := m) (fun fx hfx o hk => ?_) ?_
      · refine r_sto (pc' := 81) (ls' := [some (.inr (.inr (some 34))), some (.inl b), some (.inl x), some (.inl y), some (.inl n), some (.inl s), some (.inl y1)]) hM_105 d_105_79 rfl rfl ?_
        refine r_ld (pc' := 83) hM_105 d_105_81 rfl rfl ?_
        exact hk
      refine ok_if (pc' := 118) (pc2 := 86) hM_105 d_105_83 (by decide) rfl (fun hz3 => ?_) (fun hz3 => ?_)
      · have H := H.1 hz3
        refine ok_sg (pc' := 58) (ls' := [some (.inr (.inr (some 34))), some (.inl b), some (.inl x), some (.inl y), some (.inl n), some (.inl (s + 1)), none]) (st' := []) (m' := m) (fun fx hfx o hk => ?_) ?_
        · refine r_sto (pc' := 121) (ls' := [some (.inr (.inr (some 34))), some (.inl b), some (.inl x), some (.inl y), some (.inl n), some (.inl (s + 1)), some (.inl y1)]) hM_105 d_105_118 rfl rfl ?_
          refine r_go (pc' := 58) hM_105 d_105_121 (by decide) ?_
          refine rn_wk (a := [some (.inr (.inr (some 34))), some (.inl b), some (.inl x), some (.inl y), some (.inl n), some (.inl (s + 1)), none]) (by simp only [am_le, and_self]) ?_
          exact hk
        exact H
      · have H := H.2 hz3
        obtain ⟨hz4, H⟩ := H
        refine ok_sg (pc' := 97) (ls' := [some (.inr (.inr (some 34))), some (.inl b), some (.inl x), some (.inl y), some (.inl n), some (.inl s), some (.inl y1)]) (st' := [.inl (m 42 ((am_s (am_and b (am_xor s (-1)))).toNat))]) (m' := m) (fun fx hfx o hk => ?_) ?_
        · refine r_ld (pc' := 87) hM_105 d_105_86 rfl rfl ?_
          refine r_gR (pc' := 90) (v := 42) hM_105 d_105_87 rfl (by decide +kernel) ?_
          refine r_ld (pc' := 91) hM_105 d_105_90 rfl rfl ?_
          refine r_ld (pc' := 93) hM_105 d_105_91 rfl rfl ?_
          refine r_k (pc' := 94) (v := .inl (-1)) hM_105 d_105_93 rfl rfl ?_
          refine r_b (pc' := 95) (z := (am_xor s (-1))) hM_105 d_105_94 rfl rfl ?_
          refine r_b (pc' := 96) (z := (am_and b (am_xor s (-1)))) hM_105 d_105_95 rfl rfl ?_
          refine r_ba (pc' := 97) (n := 4096) hM_105 d_105_96 rfl rfl (by decide) hz4 ?_
          exact hk
        refine ok_if (pc' := 118) (pc2 := 100) hM_105 d_105_97 (by decide) rfl (fun hz5 => ?_) (fun hz5 => ?_)
        · have H := H.1 hz5
          refine ok_sg (pc' := 58) (ls' := [some (.inr (.inr (some 34))), some (.inl b), some (.inl x), some (.inl y), some (.inl n), some (.inl (s + 1)), none]) (st' := []) (m' := m) (fun fx hfx o hk => ?_) ?_
          · refine r_sto (pc' := 121) (ls' := [some (.inr (.inr (some 34))), some (.inl b), some (.inl x), some (.inl y), some (.inl n), some (.inl (s + 1)), some (.inl y1)]) hM_105 d_105_118 rfl rfl ?_
            refine r_go (pc' := 58) hM_105 d_105_121 (by decide) ?_
            refine rn_wk (a := [some (.inr (.inr (some 34))), some (.inl b), some (.inl x), some (.inl y), some (.inl n), some (.inl (s + 1)), none]) (by simp only [am_le, and_self]) ?_
            exact hk
          exact H
        · have H := H.2 (Decidable.not_not.mp hz5)
          obtain ⟨hz6, H⟩ := H
          refine ok_sg (pc' := 106) (ls' := [some (.inr (.inr (some 34))), some (.inl b), some (.inl x), some (.inl y), some (.inl n), some (.inl s), some (.inl y1)]) (st' := [.inl y, .inl (((cnt s.toNat 12 : Nat) : Int))]) (m' := m) (fun fx hfx o hk => ?_) ?_
          · refine r_ld (pc' := 102) hM_105 d_105_100 rfl rfl ?_
            refine r_cl (pc' := 105) (c := (72, 2)) (a := [.inl s]) (q := []) hM_105 d_105_102 rfl (by decide +kernel) hM_72 rfl rfl rfl (Nat.le_of_ble_eq_true rfl) (Nat.le_of_ble_eq_true rfl) (Or.inl rfl) (n_72  m s hz6) (Nat.le_of_ble_eq_true rfl) ?_
            show rn fx 4 (0, 0) 105 105 [some (.inr (.inr (some 34))), some (.inl b), some (.inl x), some (.inl y), some (.inl n), some (.inl s), some (.inl y1)] [.inl (((cnt s.toNat 12 : Nat) : Int))] (st0 m) o
            refine r_ld (pc' := 106) hM_105 d_105_105 rfl rfl ?_
            exact hk
          refine ok_ic (pc' := 118) (pc2 := 109) hM_105 d_105_106 (by decide) rfl (fun hz7 => ?_) (fun hz7 => ?_)
          · have H := H.1 hz7
            refine ok_sg (pc' := 58) (ls' := [some (.inr (.inr (some 34))), some (.inl b), some (.inl x), some (.inl y), some (.inl n), some (.inl (s + 1)), none]) (st' := []) (m' := m) (fun fx hfx o hk => ?_) ?_
            · refine r_sto (pc' := 121) (ls' := [some (.inr (.inr (some 34))), some (.inl b), some (.inl x), some (.inl y), some (.inl n), some (.inl (s + 1)), some (.inl y1)]) hM_105 d_105_118 rfl rfl ?_
              refine r_go (pc' := 58) hM_105 d_105_121 (by decide) ?_
              refine rn_wk (a := [some (.inr (.inr (some 34))), some (.inl b), some (.inl x), some (.inl y), some (.inl n), some (.inl (s + 1)), none]) (by simp only [am_le, and_self]) ?_
              exact hk
            exact H
          · have H := H.2 hz7
            refine ok_sg (pc' := 58) (ls' := [some (.inr (.inr (some 34))), some (.inl b), some (.inl s), some (.inl (((cnt s.toNat 12 : Nat) : Int))), some (.inl n), some (.inl (s + 1)), none]) (st' := []) (m' := m) (fun fx hfx o hk => ?_) ?_
            · refine r_ld (pc' := 111) hM_105 d_105_109 rfl rfl ?_
              refine r_sto (pc' := 112) (ls' := [some (.inr (.inr (some 34))), some (.inl b), some (.inl s), some (.inl y), some (.inl n), some (.inl s), some (.inl y1)]) hM_105 d_105_111 rfl rfl ?_
              refine r_ld (pc' := 114) hM_105 d_105_112 rfl rfl ?_
              refine r_cl (pc' := 117) (c := (72, 2)) (a := [.inl s]) (q := []) hM_105 d_105_114 rfl (by decide +kernel) hM_72 rfl rfl rfl (Nat.le_of_ble_eq_true rfl) (Nat.le_of_ble_eq_true rfl) (Or.inl rfl) (n_72  m s hz6) (Nat.le_of_ble_eq_true rfl) ?_
              show rn fx 4 (0, 0) 105 117 [some (.inr (.inr (some 34))), some (.inl b), some (.inl s), some (.inl y), some (.inl n), some (.inl s), some (.inl y1)] [.inl (((cnt s.toNat 12 : Nat) : Int))] (st0 m) o
              refine r_sto (pc' := 118) (ls' := [some (.inr (.inr (some 34))), some (.inl b), some (.inl s), some (.inl (((cnt s.toNat 12 : Nat) : Int))), some (.inl n), some (.inl s), some (.inl y1)]) hM_105 d_105_117 rfl rfl ?_
              refine r_sto (pc' := 121) (ls' := [some (.inr (.inr (some 34))), some (.inl b), some (.inl s), some (.inl (((cnt s.toNat 12 : Nat) : Int))), some (.inl n), some (.inl (s + 1)), some (.inl y1)]) hM_105 d_105_118 rfl rfl ?_
              refine r_go (pc' := 58) hM_105 d_105_121 (by decide) ?_
              refine rn_wk (a := [some (.inr (.inr (some 34))), some (.inl b), some (.inl s), some (.inl (((cnt s.toNat 12 : Nat) : Int))), some (.inl n), some (.inl (s + 1)), none]) (by simp only [am_le, and_self]) ?_
              exact hk
            exact H
    exact K _ rfl
theorem u_105_0 {Q : List am_V → am_M → Prop} {m : am_M}   (H : (WFG (vw m 2)) ∧ ((0 ≤ (((may (nv (vw m 2)) : Nat) : Int)) ∧ (((may (nv (vw m 2)) : Nat) : Int)) < 4096) ∧ (((am_s (((cnt (((may (nv (vw m 2)) : Nat) : Int)).toNat 12 : Nat) : Int)) ≤ 8) → ∀ (m1 : am_M), (LIS m m1) → (WFG (vw m1 2)) ∧ (((0 ≤ (((brl (nv (vw m1 2)) : Nat) : Int)) ∧ (((brl (nv (vw m1 2)) : Nat) : Int)) < 4096) ∧ (0 ≤ m1 2 4 ∧ m1 2 4 ≤ 12) ∧ (0 ≤ m1 34 9 ∧ m1 34 9 < 4096) ∧ m1 34 10 = ((2 ^ cnt (m1 34 9).toNat 12 : Nat) : Int) ∧ 2 ^ cnt (m1 34 9).toNat 12 ≤ 256 ∧ ∀ x u : Nat, (x : Int) < m1 2 4 → u < 8 → am_s (m1 35 (8 * x + u)) = m1 35 (8 * x + u)) ∧ (∀ (m2 : am_M), ((∀ i, i < 2 ^ cnt (m1 34 9).toNat 12 → m2 41 i = ((vo (fun p u => m1 35 (8 * p + u)) (((brl (nv (vw m1 2)) : Nat) : Int)).toNat (en (m1 34 9).toNat i) (m1 2 4).toNat : Nat) : Int)) ∧ ∀ a, a ≠ 41 → m2 a = m1 a) → ((0 ≤ m2 2 4 ∧ m2 2 4 ≤ 12) ∧ (0 ≤ m2 34 10 ∧ m2 34 10 ≤ 256) ∧ ∀ i : Nat, (i : Int) < m2 34 10 → 0 ≤ m2 41 i ∧ m2 41 i < 281474976710656) ∧ (∀ (m3 : am_M), ((∀ s : Nat, s < 2 ^ (m2 2 4).toNat → (m3 42 s = 0 ∨ m3 42 s = 1) ∧ (m3 42 s = 1 ↔ ∃ i j : Nat, j < i ∧ (i : Int) < m2 34 10 ∧ sb s (pnN ((m2 41 i).toNat ^^^ (m2 41 j).toNat)))) ∧ ∀ a, a ≠ 42 → m3 a = m2 a) → ok 4 105 58 [some (.inr (.inr (some 34))), some (.inl (((brl (nv (vw m1 2)) : Nat) : Int))), some (.inl (-1)), some (.inl 13), some (.inl (am_shl 1 (m3 2 4))), some (.inl 0), none] [] m3 Q)))) ∧ ((¬ (am_s (((cnt (((may (nv (vw m 2)) : Nat) : Int)).toNat 12 : Nat) : Int)) ≤ 8)) → Q [.inl (-4)] m)))) : ok 4 105 0 [some (.inr (.inr (some 34))), none, none, none, none, none, none] [] m Q := by
  obtain ⟨hz1, H⟩ := H
  obtain ⟨hz2, H⟩ := H
  refine ok_sg (pc' := 12) (ls' := [some (.inr (.inr (some 34))), none, none, none, none, none, none]) (st' := [.inl 8, .inl (((cnt (((may (nv (vw m 2)) : Nat) : Int)).toNat 12 : Nat) : Int))]) (m' := m) (fun fx hfx o hk => ?_) ?_
  · refine r_ld (pc' := 1) hM_105 d_105_0 rfl rfl ?_
    refine r_gR (pc' := 4) (v := 2) hM_105 d_105_1 rfl (by decide +kernel) ?_
    refine r_cl (pc' := 7) (c := (78, 0)) (a := [.inr (.inr (some 2))]) (q := []) hM_105 d_105_4 rfl (by decide +kernel) hM_78 rfl rfl rfl (Nat.le_of_ble_eq_true rfl) (Nat.le_of_ble_eq_true rfl) (Or.inr rfl) (n_78 (by decide) m  hz1) (Nat.le_of_ble_eq_true rfl) ?_
    show rn fx 4 (0, 0) 105 7 [some (.inr (.inr (some 34))), none, none, none, none, none, none] [.inl (((may (nv (vw m 2)) : Nat) : Int))] (st0 m) o
    refine r_cl (pc' := 10) (c := (72, 2)) (a := [.inl (((may (nv (vw m 2)) : Nat) : Int))]) (q := []) hM_105 d_105_7 rfl (by decide +kernel) hM_72 rfl rfl rfl (Nat.le_of_ble_eq_true rfl) (Nat.le_of_ble_eq_true rfl) (Or.inl rfl) (n_72  m (((may (nv (vw m 2)) : Nat) : Int)) hz2) (Nat.le_of_ble_eq_true rfl) ?_
    show rn fx 4 (0, 0) 105 10 [some (.inr (.inr (some 34))), none, none, none, none, none, none] [.inl (((cnt (((may (nv (vw m 2)) : Nat) : Int)).toNat 12 : Nat) : Int))] (st0 m) o
    refine r_k (pc' := 12) (v := .inl 8) hM_105 d_105_10 rfl rfl ?_
    exact hk
  refine ok_ic (pc' := 18) (pc2 := 15) hM_105 d_105_12 (by decide) rfl (fun hz3 => ?_) (fun hz3 => ?_)
  · have H := H.1 hz3
    refine ok_sg (pc' := 19) (ls' := [some (.inr (.inr (some 34))), none, none, none, none, none, none]) (st' := [.inr (.inr (some 34))]) (m' := m) (fun fx hfx o hk => ?_) ?_
    · refine r_ld (pc' := 19) hM_105 d_105_18 rfl rfl ?_
      exact hk
    refine ok_cl (pc' := 22) (c := (83, 0)) (a := [.inr (.inr (some 34))]) (q := []) hM_105 d_105_19 rfl (by decide +kernel) hM_83 rfl rfl rfl (Nat.le_of_ble_eq_true rfl) (Nat.le_of_ble_eq_true rfl) (Or.inr rfl) (z_83  m  hz1) (Nat.le_of_ble_eq_true rfl) ?_
    rintro _ m1 ⟨rfl, hz4⟩
    replace H := H  m1 hz4
    show ok 4 105 22 [some (.inr (.inr (some 34))), none, none, none, none, none, none] [] m1 Q
    obtain ⟨hz5, H⟩ := H
    obtain ⟨hz6, H⟩ := H
    refine ok_sg (pc' := 32) (ls' := [some (.inr (.inr (some 34))), some (.inl (((brl (nv (vw m1 2)) : Nat) : Int))), none, none, none, none, none]) (st' := [.inl (((brl (nv (vw m1 2)) : Nat) : Int)), .inr (.inr (some 34))]) (m' := m1) (fun fx hfx o hk => ?_) ?_
    · refine r_ld (pc' := 23) hM_105 d_105_22 rfl rfl ?_
      refine r_gR (pc' := 26) (v := 2) hM_105 d_105_23 rfl (by decide +kernel) ?_
      refine r_cl (pc' := 29) (c := (47, 0)) (a := [.inr (.inr (some 2))]) (q := []) hM_105 d_105_26 rfl (by decide +kernel) hM_47 rfl rfl rfl (Nat.le_of_ble_eq_true rfl) (Nat.le_of_ble_eq_true rfl) (Or.inr rfl) (n_47 (by decide) m1  hz5) (Nat.le_of_ble_eq_true rfl) ?_
      show rn fx 4 (0, 0) 105 29 [some (.inr (.inr (some 34))), none, none, none, none, none, none] [.inl (((brl (nv (vw m1 2)) : Nat) : Int))] (st0 m1) o
      refine r_sto (pc' := 30) (ls' := [some (.inr (.inr (some 34))), some (.inl (((brl (nv (vw m1 2)) : Nat) : Int))), none, none, none, none, none]) hM_105 d_105_29 rfl rfl ?_
      refine r_ld (pc' := 31) hM_105 d_105_30 rfl rfl ?_
      refine r_ld (pc' := 32) hM_105 d_105_31 rfl rfl ?_
      exact hk
    refine ok_cl (pc' := 35) (c := (106, 0)) (a := [.inr (.inr (some 34)), .inl (((brl (nv (vw m1 2)) : Nat) : Int))]) (q := []) hM_105 d_105_32 rfl (by decide +kernel) hM_106 rfl rfl rfl (Nat.le_of_ble_eq_true rfl) (Nat.le_of_ble_eq_true rfl) (Or.inr rfl) (z_106  m1 (((brl (nv (vw m1 2)) : Nat) : Int)) hz6) (Nat.le_of_ble_eq_true rfl) ?_
    rintro _ m2 ⟨rfl, hz7⟩
    replace H := H  m2 hz7
    show ok 4 105 35 [some (.inr (.inr (some 34))), some (.inl (((brl (nv (vw m1 2)) : Nat) : Int))), none, none, none, none, none] [] m2 Q
    obtain ⟨hz8, H⟩ := H
    refine ok_sg (pc' := 36) (ls' := [some (.inr (.inr (some 34))), some (.inl (((brl (nv (vw m1 2)) : Nat) : Int))), none, none, none, none, none]) (st' := [.inr (.inr (some 34))]) (m' := m2) (fun fx hfx o hk => ?_) ?_
    · refine r_ld (pc' := 36) hM_105 d_105_35 rfl rfl ?_
      exact hk
    refine ok_cl (pc' := 39) (c := (108, 0)) (a := [.inr (.inr (some 34))]) (q := []) hM_105 d_105_36 rfl (by decide +kernel) hM_108 rfl rfl rfl (Nat.le_of_ble_eq_true rfl) (Nat.le_of_ble_eq_true rfl) (Or.inr rfl) (z_108  m2  hz8) (Nat.le_of_ble_eq_true rfl) ?_
    rintro _ m3 ⟨rfl, hz9⟩
    replace H := H  m3 hz9
    show ok 4 105 39 [some (.inr (.inr (some 34))), some (.inl (((brl (nv (vw m1 2)) : Nat) : Int))), none, none, none, none, none] [] m3 Q
    refine ok_sg (pc' := 58) (ls' := [some (.inr (.inr (some 34))), some (.inl (((brl (nv (vw m1 2)) : Nat) : Int))), some (.inl (-1)), some (.inl 13), some (.inl (am_shl 1 (m3 2 4))), some (.inl 0), none]) (st' := []) (m' := m3) (fun fx hfx o hk => ?_) ?_
    · refine r_k (pc' := 40) (v := .inl (-1)) hM_105 d_105_39 rfl rfl ?_
      refine r_sto (pc' := 41) (ls' := [some (.inr (.inr (some 34))), some (.inl (((brl (nv (vw m1 2)) : Nat) : Int))), some (.inl (-1)), none, none, none, none]) hM_105 d_105_40 rfl rfl ?_
      refine r_k (pc' := 43) (v := .inl 13) hM_105 d_105_41 rfl rfl ?_
      refine r_sto (pc' := 44) (ls' := [some (.inr (.inr (some 34))), some (.inl (((brl (nv (vw m1 2)) : Nat) : Int))), some (.inl (-1)), some (.inl 13), none, none, none]) hM_105 d_105_43 rfl rfl ?_
      refine r_k (pc' := 45) (v := .inl 1) hM_105 d_105_44 rfl rfl ?_
      refine r_ld (pc' := 46) hM_105 d_105_45 rfl rfl ?_
      refine r_gR (pc' := 49) (v := 2) hM_105 d_105_46 rfl (by decide +kernel) ?_
      refine r_gI (pc' := 52) (k0 := 4) hM_105 d_105_49 rfl (by decide +kernel) ?_
      refine r_b (pc' := 53) (z := (am_shl 1 (m3 2 4))) hM_105 d_105_52 rfl rfl ?_
      refine r_sto (pc' := 55) (ls' := [some (.inr (.inr (some 34))), some (.inl (((brl (nv (vw m1 2)) : Nat) : Int))), some (.inl (-1)), some (.inl 13), some (.inl (am_shl 1 (m3 2 4))), none, none]) hM_105 d_105_53 rfl rfl ?_
      refine r_k (pc' := 56) (v := .inl 0) hM_105 d_105_55 rfl rfl ?_
      refine r_sto (pc' := 58) (ls' := [some (.inr (.inr (some 34))), some (.inl (((brl (nv (vw m1 2)) : Nat) : Int))), some (.inl (-1)), some (.inl 13), some (.inl (am_shl 1 (m3 2 4))), some (.inl 0), none]) hM_105 d_105_56 rfl rfl ?_
      exact hk
    exact H
  · have H := H.2 hz3
    refine ok_sg (pc' := 17) (ls' := [some (.inr (.inr (some 34))), none, none, none, none, none, none]) (st' := [.inl (-4)]) (m' := m) (fun fx hfx o hk => ?_) ?_
    · refine r_k (pc' := 17) (v := .inl (-4)) hM_105 d_105_15 rfl rfl ?_
      exact hk
    exact ok_rt (fun fx _ => rt_i hM_105 d_105_17 rfl) H
theorem z_105   (m : am_M)  (hq : WFG (vw m 2)) : ok 4 105 0 (am_ent 7 [.inr (.inr (some 34))]) [] m (fun rr m' => rr = [.inl ((if cnt (may (nv (vw m 2))) 12 ≤ 8 then env (nv (vw m 2)) else -4))] ∧ kpC m m') := by
  show ok 4 105 0 [some (.inr (.inr (some 34))), none, none, none, none, none, none] [] m _
  have hN := vwN hq
  have hwn := WFG_nv hq
  have hF := may_lt (g := nv (vw m 2)) hwn.1.2
  have hB := brl_lt (g := nv (vw m 2)) hwn.1.2
  have hB2 := brl_lt2 hwn
  have eg0 : nv (vw m 2) 0 = m 2 4 := by rw [nv0, vw_0]
  have hcl := cnt_le (may (nv (vw m 2))) 12
  refine u_105_0 ?_
  rw [Int.toNat_natCast, am_s_id (z := ((cnt (may (nv (vw m 2))) 12 : Nat) : Int)) (by omega) (by omega)]
  refine ⟨hq, by omega, fun hc m1 h1 => ?_, fun hc => ⟨by rw [if_neg (by omega)], kpC_refl m⟩⟩
  rw [if_pos (by omega)]
  obtain ⟨l1, l2, l3, l4⟩ := id h1
  have fv : vw m1 2 = vw m 2 := vw_same fun a k q1 q2 => l4 a k (by omega) (by omega)
  have f4 : m1 2 4 = m 2 4 := l4 2 4 (by omega) (by omega)
  have hp256 : 2 ^ cnt (may (nv (vw m 2))) 12 ≤ 2 ^ 8 := Nat.pow_le_pow_right (by decide) (by omega)
  have hc0 : (0 : Int) ≤ ((2 ^ cnt (may (nv (vw m 2))) 12 : Nat) : Int) := Int.natCast_nonneg _
  have hT1 : ∀ x u : Nat, (x : Int) < m 2 4 → u < 8 → m1 35 (8 * x + u) = tnt (nv (vw m 2)) x u := fun x u hx hu => l3 x u (by omega) hu
  rw [fv, f4, l1, l2, Int.toNat_natCast, Int.toNat_natCast]
  refine ⟨hq, ⟨by omega, hN, by omega, rfl, by omega, fun x u hx hu => by rw [hT1 x u hx hu]; exact tnt_s hwn (by omega)⟩, fun m2 hm2 => ?_⟩
  obtain ⟨v1, v2⟩ := hm2
  rw [v2 2 (by decide), v2 34 (by decide), f4, l2]
  have evo : ∀ i, i < 2 ^ cnt (may (nv (vw m 2))) 12 → m2 41 i = ((vo (tnt (nv (vw m 2))) (brl (nv (vw m 2))) (en (may (nv (vw m 2))) i) (nv (vw m 2) 0).toNat : Nat) : Int) := by
    intro i hi
    rw [v1 i hi, eg0]
    congr 1
    have : ∀ n : Nat, (n : Int) ≤ m 2 4 → vo (fun p u => m1 35 (8 * p + u)) (brl (nv (vw m 2))) (en (may (nv (vw m 2))) i) n = vo (tnt (nv (vw m 2))) (brl (nv (vw m 2))) (en (may (nv (vw m 2))) i) n := by
      intro n
      induction n with
      | zero => intro _; rfl
      | succ n ih =>
        intro hn
        have ht := tri_lt (en (may (nv (vw m 2))) i) n
        rw [vo_s, vo_s, ih (by omega)]
        have : fl (fun u => m1 35 (8 * n + u)) (tri (en (may (nv (vw m 2))) i) n) = fl (tnt (nv (vw m 2)) n) (tri (en (may (nv (vw m 2))) i) n) := fls_congr 8 0 fun x hx => hT1 n x (by omega) (by omega)
        rw [this]
    exact this _ (by omega)
  have hvl : ∀ i, vo (tnt (nv (vw m 2))) (brl (nv (vw m 2))) (en (may (nv (vw m 2))) i) (nv (vw m 2) 0).toNat < 2 ^ 48 := fun i => Nat.lt_of_lt_of_le (vo_lt _) (Nat.pow_le_pow_right (by decide) (by omega))
  refine ⟨⟨hN, by omega, fun i hi => ?_⟩, fun m3 hm3 => ?_⟩
  · have := hvl i
    rw [evo i (by omega)]
    omega
  obtain ⟨c1, c2⟩ := hm3
  have hcl2 : ∀ s : Nat, s < 2 ^ (m 2 4).toNat → (m3 42 s = 0 ∨ m3 42 s = 1) ∧ (m3 42 s = 1 ↔ ∃ a b : Nat, b < a ∧ sb (may (nv (vw m 2))) a ∧ sb (may (nv (vw m 2))) b ∧ sb s (unl (nv (vw m 2)) a b (nv (vw m 2) 0).toNat)) := by
    intro s hs
    refine ⟨(c1 s hs).1, (c1 s hs).2.trans ⟨?_, ?_⟩⟩
    · rintro ⟨i, j, q1, q2, q3⟩
      have hi : i < 2 ^ cnt (may (nv (vw m 2))) 12 := by omega
      have hj : j < 2 ^ cnt (may (nv (vw m 2))) 12 := by omega
      rw [evo i hi, evo j hj, Int.toNat_natCast, Int.toNat_natCast, vo_unl hwn] at q3
      exact ⟨_, _, (en_mono hF hi hj).mp q1, (en_ok hF i hi).1, (en_ok hF j hj).1, q3⟩
    · rintro ⟨a, b, q1, q2, q3, q4⟩
      obtain ⟨i, hi, rfl⟩ := en_sur hF q2
      obtain ⟨j, hj, rfl⟩ := en_sur hF q3
      refine ⟨i, j, (en_mono hF hi hj).mpr q1, by omega, ?_⟩
      rw [evo i hi, evo j hj, Int.toNat_natCast, Int.toNat_natCast, vo_unl hwn]
      exact q4
  have hK : kpC m m3 := by
    intro a k hcc
    have := LIS_kpC h1 a k hcc
    unfold core at hcc
    rw [c2 a (by omega), v2 a (by omega), this]
  rw [c2 2 (by decide), v2 2 (by decide), f4]
  obtain ⟨N, hNv⟩ : ∃ N : Nat, m 2 4 = (N : Int) := ⟨(m 2 4).toNat, by omega⟩
  rw [hNv, bx_shl1 N (by omega)]
  rw [eg0, hNv] at hB2
  rw [hNv] at hcl2
  simp only [Int.toNat_natCast] at hB2 hcl2
  have hp12 : 2 ^ N ≤ 2 ^ 12 := Nat.pow_le_pow_right (by decide) (by omega)
  have e2N : am_s ((2 ^ N : Nat) : Int) = ((2 ^ N : Nat) : Int) := by
    generalize 2 ^ N = z at *
    exact am_s_id (by omega) (by omega)
  generalize hTv : 2 ^ N = T at *
  have hTL : ∀ s : Nat, s < T → (m3 42 (sdf (brl (nv (vw m 2))) s) = 0 ∨ m3 42 (sdf (brl (nv (vw m 2))) s) = 1) ∧ (m3 42 (sdf (brl (nv (vw m 2))) s) = 0 ↔ TLS (nv (vw m 2)) s) := by
    intro s hs
    have hsl := sdf_le (a := brl (nv (vw m 2))) (b := s)
    obtain ⟨x1, x2⟩ := hcl2 (sdf (brl (nv (vw m 2))) s) (by omega)
    refine ⟨x1, ?_, ?_⟩
    · intro h a b q1 q2 q3 q4
      have := x2.mpr ⟨a, b, q1, q2, q3, (sdf_sb hB (unl_brl hwn)).mpr q4⟩
      omega
    · intro h
      rcases x1 with x | x
      · exact x
      · obtain ⟨a, b, q1, q2, q3, q4⟩ := x2.mp x
        exact absurd ((sdf_sb hB (unl_brl hwn)).mp q4) (h a b q1 q2 q3)
  have key := ok_for (d := 4) (mi := 105) (pc := 58) (Q := fun rr m' => rr = [.inl (env (nv (vw m 2)))] ∧ kpC m m') (σ := Unit) (fun s _ => [some (.inr (.inr (some 34))), some (.inl ((brl (nv (vw m 2)) : Nat) : Int)), some (.inl (fr ens (enq (nv (vw m 2))) (-1) s)), some (.inl (if fr ens (enq (nv (vw m 2))) (-1) s = -1 then 13 else ((cnt (fr ens (enq (nv (vw m 2))) (-1) s).toNat 12 : Nat) : Int))), some (.inl (T : Int)), some (.inl (s : Int)), none]) (fun s _ M => M = m3) T ?_ ?_ () m3 rfl
  · exact key
  · rintro s hs - M rfl IH
    have hsl := sdf_le (a := brl (nv (vw m 2))) (b := s)
    have hsub := bx_sub (z := (s : Int)) (b := brl (nv (vw m 2))) (by omega)
    rw [am_s_id (z := (s : Int)) (by omega) (by omega), Int.toNat_natCast] at hsub
    have hx := ens_rng (Q := enq (nv (vw m 2))) s (by omega)
    have hcs := cnt_le s 12
    obtain ⟨x1, x2⟩ := hTL s hs
    have e42 : am_s (M 42 (sdf (brl (nv (vw m 2))) s)) = M 42 (sdf (brl (nv (vw m 2))) s) := by rcases x1 with h | h <;> rw [h] <;> rfl
    have hst := fr_s (st := ens) (Q := enq (nv (vw m 2))) (x := (-1 : Int)) (t := s)
    have hcx := cnt_le (fr ens (enq (nv (vw m 2))) (-1) s).toNat 12
    generalize hxv : fr ens (enq (nv (vw m 2))) (-1) s = x at *
    have hyr : am_s (if x = -1 then 13 else ((cnt x.toNat 12 : Nat) : Int)) = (if x = -1 then 13 else ((cnt x.toNat 12 : Nat) : Int)) := by
      split
      · rfl
      · exact am_s_id (by omega) (by omega)
    have kp : fr ens (enq (nv (vw m 2))) (-1) (s + 1) = x → ok 4 105 58 [some (.inr (.inr (some 34))), some (.inl ((brl (nv (vw m 2)) : Nat) : Int)), some (.inl x), some (.inl (if x = -1 then 13 else ((cnt x.toNat 12 : Nat) : Int))), some (.inl (T : Int)), some (.inl ((s : Int) + 1)), none] [] M (fun rr m' => rr = [.inl (env (nv (vw m 2)))] ∧ kpC m m') := by
      intro e
      have := IH () M rfl
      rw [e] at this
      exact this
    refine u_105_58 ?_
    rw [e2N, am_s_id (z := (s : Int)) (by omega) (by omega), bx_andn (a := brl (nv (vw m 2))) (b := s) (by omega), am_s_id (z := ((sdf (brl (nv (vw m 2))) s : Nat) : Int)) (by omega) (by omega), Int.toNat_natCast, e42, Int.toNat_natCast, hyr, am_s_id (z := ((cnt s 12 : Nat) : Int)) (by omega) (by omega)]
    refine ⟨fun q => by omega, fun _ y hy => ?_⟩
    rw [ite_n] at hy
    by_cases hsb : sb (brl (nv (vw m 2))) s
    · rw [if_pos (hsub.mpr ⟨by omega, hsb⟩)] at hy
      rw [hy]
      refine ⟨fun q => absurd q (by decide), fun _ => ⟨by omega, fun q => kp ?_, fun q => ⟨by omega, fun q2 => kp ?_, fun q2 => ?_⟩⟩⟩
      · rw [hst, if_neg (fun k => q (x2.mpr (enq_t.mp k).2))]
      · rw [hst, if_pos (enq_t.mpr ⟨hsb, x2.mp q⟩)]
        unfold ens
        rw [if_neg]
        rintro (h | h)
        · rw [if_pos h] at q2; omega
        · by_cases h1 : x = -1
          · rw [if_pos h1] at q2; omega
          · rw [if_neg h1] at q2; omega
      · have e : fr ens (enq (nv (vw m 2))) (-1) (s + 1) = (s : Int) := by
          rw [hst, if_pos (enq_t.mpr ⟨hsb, x2.mp q⟩)]
          unfold ens
          rw [if_pos]
          by_cases h1 : x = -1
          · exact Or.inl h1
          · rw [if_neg h1] at q2
            exact Or.inr (by omega)
        have := IH () M rfl
        rw [e, if_neg (by omega), Int.toNat_natCast] at this
        exact this
    · rw [if_neg (fun k => hsb (hsub.mp k).2)] at hy
      rw [hy]
      refine ⟨fun _ => kp ?_, fun q => absurd rfl q⟩
      rw [hst, if_neg (fun k => hsb (enq_t.mp k).1)]
  · rintro - M rfl
    refine u_105_58 ?_
    rw [e2N]
    refine ⟨fun _ => ⟨?_, hK⟩, fun q => by omega⟩
    unfold env
    rw [fr_skip (a := brl (nv (vw m 2)) + 1) T (by omega) fun u q1 q2 k => ?_]
    have := sub_le (enq_t.mp k).1
    omega
theorem u_226_2 {Q : List am_V → am_M → Prop} {m : am_M} {a : Int} {s : Int}  (H : ((4096 ≤ am_s s) → Q [.inl 1] m) ∧ ((¬ (4096 ≤ am_s s)) → (0 ≤ am_s s ∧ am_s s < (4096 : Nat)) ∧ (((am_s (m 61 ((am_s s).toNat)) = 0) → ok 0 226 2 [some (.inr (.inr (some 53))), some (.inl a), some (.inl (s + 1))] [] m Q) ∧ ((¬ (am_s (m 61 ((am_s s).toNat)) = 0)) → ((¬ am_s (am_and s a) = 0) → ok 0 226 2 [some (.inr (.inr (some 53))), some (.inl a), some (.inl (s + 1))] [] m Q) ∧ ((am_s (am_and s a) = 0) → Q [.inl 0] m))))) : ok 0 226 2 [some (.inr (.inr (some 53))), some (.inl a), some (.inl s)] [] m Q := by
  refine ok_sg (pc' := 6) (ls' := [some (.inr (.inr (some 53))), some (.inl a), some (.inl s)]) (st' := [.inl 4096, .inl s]) (m' := m) (fun fx hfx o hk => ?_) ?_
  · refine r_ld (pc' := 3) hM_226 d_226_2 rfl rfl ?_
    refine r_k (pc' := 6) (v := .inl 4096) hM_226 d_226_3 rfl rfl ?_
    exact hk
  refine ok_ic (pc' := 32) (pc2 := 9) hM_226 d_226_6 (by decide) rfl (fun hz1 => ?_) (fun hz1 => ?_)
  · have H := H.1 hz1
    refine ok_sg (pc' := 33) (ls' := [some (.inr (.inr (some 53))), some (.inl a), some (.inl s)]) (st' := [.inl 1]) (m' := m) (fun fx hfx o hk => ?_) ?_
    · refine r_k (pc' := 33) (v := .inl 1) hM_226 d_226_32 rfl rfl ?_
      exact hk
    exact ok_rt (fun fx _ => rt_z hM_226 d_226_33 rfl (by decide)) H
  · have H := H.2 hz1
    obtain ⟨hz2, H⟩ := H
    refine ok_sg (pc' := 15) (ls' := [some (.inr (.inr (some 53))), some (.inl a), some (.inl s)]) (st' := [.inl (m 61 ((am_s s).toNat))]) (m' := m) (fun fx hfx o hk => ?_) ?_
    · refine r_ld (pc' := 10) hM_226 d_226_9 rfl rfl ?_
      refine r_gR (pc' := 13) (v := 61) hM_226 d_226_10 rfl (by decide +kernel) ?_
      refine r_ld (pc' := 14) hM_226 d_226_13 rfl rfl ?_
      refine r_ba (pc' := 15) (n := 4096) hM_226 d_226_14 rfl rfl (by decide) hz2 ?_
      exact hk
    refine ok_if (pc' := 26) (pc2 := 18) hM_226 d_226_15 (by decide) rfl (fun hz3 => ?_) (fun hz3 => ?_)
    · have H := H.1 hz3
      refine ok_sg (pc' := 2) (ls' := [some (.inr (.inr (some 53))), some (.inl a), some (.inl (s + 1))]) (st' := []) (m' := m) (fun fx hfx o hk => ?_) ?_
      · refine r_sto (pc' := 29) (ls' := [some (.inr (.inr (some 53))), some (.inl a), some (.inl (s + 1))]) hM_226 d_226_26 rfl rfl ?_
        refine r_go (pc' := 2) hM_226 d_226_29 (by decide) ?_
        exact hk
      exact H
    · have H := H.2 hz3
      refine ok_sg (pc' := 21) (ls' := [some (.inr (.inr (some 53))), some (.inl a), some (.inl s)]) (st' := [.inl (am_and s a)]) (m' := m) (fun fx hfx o hk => ?_) ?_
      · refine r_ld (pc' := 19) hM_226 d_226_18 rfl rfl ?_
        refine r_ld (pc' := 20) hM_226 d_226_19 rfl rfl ?_
        refine r_b (pc' := 21) (z := (am_and s a)) hM_226 d_226_20 rfl rfl ?_
        exact hk
      refine ok_if (pc' := 26) (pc2 := 24) hM_226 d_226_21 (by decide) rfl (fun hz4 => ?_) (fun hz4 => ?_)
      · have H := H.1 hz4
        refine ok_sg (pc' := 2) (ls' := [some (.inr (.inr (some 53))), some (.inl a), some (.inl (s + 1))]) (st' := []) (m' := m) (fun fx hfx o hk => ?_) ?_
        · refine r_sto (pc' := 29) (ls' := [some (.inr (.inr (some 53))), some (.inl a), some (.inl (s + 1))]) hM_226 d_226_26 rfl rfl ?_
          refine r_go (pc' := 2) hM_226 d_226_29 (by decide) ?_
          exact hk
        exact H
      · have H := H.2 (Decidable.not_not.mp hz4)
        refine ok_sg (pc' := 25) (ls' := [some (.inr (.inr (some 53))), some (.inl a), some (.inl s)]) (st' := [.inl 0]) (m' := m) (fun fx hfx o hk => ?_) ?_
        · refine r_k (pc' := 25) (v := .inl 0) hM_226 d_226_24 rfl rfl ?_
          exact hk
        exact ok_rt (fun fx _ => rt_z hM_226 d_226_25 rfl (by decide)) H
theorem u_226_0 {Q : List am_V → am_M → Prop} {m : am_M} {a : Int}  (H : ok 0 226 2 [some (.inr (.inr (some 53))), some (.inl a), some (.inl 0)] [] m Q) : ok 0 226 0 [some (.inr (.inr (some 53))), some (.inl a), none] [] m Q := by
  refine ok_sg (pc' := 2) (ls' := [some (.inr (.inr (some 53))), some (.inl a), some (.inl 0)]) (st' := []) (m' := m) (fun fx hfx o hk => ?_) ?_
  · refine r_k (pc' := 1) (v := .inl 0) hM_226 d_226_0 rfl rfl ?_
    refine r_sto (pc' := 2) (ls' := [some (.inr (.inr (some 53))), some (.inl a), some (.inl 0)]) hM_226 d_226_1 rfl rfl ?_
    exact hk
  exact H
theorem z_226   (m : am_M) (a : Int) (hq : (∀ x : Nat, x < 4096 → m 61 x = 0 ∨ m 61 x = 1) ∧ 0 ≤ a ∧ a < 4096) : ok 0 226 0 (am_ent 3 [.inr (.inr (some 53)), .inl a]) [] m (fun rr m' => ∃ v' : Int, rr = [.inl (v')] ∧ ((v' = 0 ∨ v' = 1) ∧ (v' = 1 ↔ ∀ x : Nat, x < 4096 → m 61 x = 1 → ¬ x &&& a.toNat = 0)) ∧ m' = m) := by
  show ok 0 226 0 [some (.inr (.inr (some 53))), some (.inl a), none] [] m _
  obtain ⟨hb, ha⟩ := hq
  obtain ⟨A, rfl⟩ : ∃ A : Nat, a = (A : Int) := ⟨a.toNat, by omega⟩
  rw [Int.toNat_natCast]
  refine u_226_0 ?_
  refine ok_for (σ := Unit) (fun s _ => [some (.inr (.inr (some 53))), some (.inl (A : Int)), some (.inl (s : Int))]) (fun s _ M => M = m ∧ ∀ x, x < s → m 61 x = 1 → ¬ x &&& A = 0) 4096 ?_ ?_ () m ⟨rfl, fun x h => absurd h (Nat.not_lt_zero _)⟩
  · rintro s hs - M ⟨hM, h1⟩ IH
    rw [hM]
    have hal : s &&& A ≤ s := Nat.and_le_left
    have e61 : am_s (m 61 s) = m 61 s := by rcases hb s hs with h | h <;> rw [h] <;> rfl
    refine u_226_2 ?_
    rw [am_s_id (z := (s : Int)) (by omega) (by omega), Int.toNat_natCast, e61, bx_and (by omega), am_s_id (z := ((s &&& A : Nat) : Int)) (by omega) (by omega)]
    refine ⟨fun q => by omega, fun _ => ⟨by omega, fun q => IH () m ⟨rfl, fun x hx h => ?_⟩, fun q => ⟨fun q2 => IH () m ⟨rfl, fun x hx h => ?_⟩, fun q2 => ⟨0, rfl, ⟨Or.inl rfl, fun k => absurd k (by decide), fun k => ?_⟩, rfl⟩⟩⟩⟩
    · by_cases hh : x = s
      · rw [hh] at h; omega
      · exact h1 x (by omega) h
    · by_cases hh : x = s
      · rw [hh]; omega
      · exact h1 x (by omega) h
    · exact absurd (by omega) (k s hs ((hb s hs).elim (fun z => absurd z q) id))
  · rintro - M ⟨hM, h1⟩
    rw [hM]
    refine u_226_2 ?_
    rw [am_s_id (z := ((4096 : Nat) : Int)) (by omega) (by omega)]
    exact ⟨fun _ => ⟨1, rfl, ⟨Or.inr rfl, fun _ => h1, fun _ => rfl⟩, rfl⟩, fun q => by omega⟩
theorem u_104_0 {Q : List am_V → am_M → Prop} {m : am_M}   (H : (WFG (vw m 2)) ∧ (∀ (m1 : am_M), (kpC m m1) → Q [.inl (if cnt (may (nv (vw m 2))) 12 ≤ 8 then env (nv (vw m 2)) else -4)] m1)) : ok 5 104 0 [some (.inr (.inr (some 0)))] [] m Q := by
  obtain ⟨hz1, H⟩ := H
  refine ok_sg (pc' := 4) (ls' := [some (.inr (.inr (some 0)))]) (st' := [.inr (.inr (some 34))]) (m' := m) (fun fx hfx o hk => ?_) ?_
  · refine r_ld (pc' := 1) hM_104 d_104_0 rfl rfl ?_
    refine r_gR (pc' := 4) (v := 34) hM_104 d_104_1 rfl (by decide +kernel) ?_
    exact hk
  refine ok_cl (pc' := 7) (c := (105, 0)) (a := [.inr (.inr (some 34))]) (q := []) hM_104 d_104_4 rfl (by decide +kernel) hM_105 rfl rfl rfl (Nat.le_of_ble_eq_true rfl) (Nat.le_of_ble_eq_true rfl) (Or.inr rfl) (z_105  m  hz1) (Nat.le_of_ble_eq_true rfl) ?_
  rintro _ m1 ⟨rfl, hz2⟩
  replace H := H  m1 hz2
  show ok 5 104 7 [some (.inr (.inr (some 0)))] [.inl (if cnt (may (nv (vw m 2))) 12 ≤ 8 then env (nv (vw m 2)) else -4)] m1 Q
  exact ok_rt (fun fx _ => rt_i hM_104 d_104_7 rfl) H
theorem u_225_109 {Q : List am_V → am_M → Prop} {m : am_M} {f : Int} {x : Int} {b : Int} {s : Int}  (H : ((am_s b < am_s s) → Q [.inl x] m) ∧ ((¬ (am_s b < am_s s)) → ((¬ am_s (am_and s (am_xor b (-1))) = 0) → ok 4 225 109 [some (.inr (.inr (some 53))), some (.inl f), some (.inl x), some (.inl b), some (.inl (s + 1))] [] m Q) ∧ ((am_s (am_and s (am_xor b (-1))) = 0) → ((am_s x = (-1)) → ((∀ x : Nat, x < 4096 → m 61 x = 0 ∨ m 61 x = 1) ∧ 0 ≤ s ∧ s < 4096) ∧ (∀ (v1 : Int) (m1 : am_M), (((v1 = 0 ∨ v1 = 1) ∧ (v1 = 1 ↔ ∀ x : Nat, x < 4096 → m 61 x = 1 → ¬ x &&& s.toNat = 0)) ∧ m1 = m) → ((am_s v1 = 0) → ok 4 225 109 [some (.inr (.inr (some 53))), some (.inl f), some (.inl x), some (.inl b), some (.inl (s + 1))] [] m1 Q) ∧ ((¬ (am_s v1 = 0)) → ok 4 225 109 [some (.inr (.inr (some 53))), some (.inl f), some (.inl s), some (.inl b), some (.inl (s + 1))] [] m1 Q))) ∧ ((¬ (am_s x = (-1))) → (0 ≤ (am_s s) ∧ (am_s s) < 2147483648) ∧ ((0 ≤ (am_s x) ∧ (am_s x) < 2147483648) ∧ (((am_s (((cnt (am_s x).toNat 12 : Nat) : Int)) ≤ am_s (((cnt (am_s s).toNat 12 : Nat) : Int))) → ok 4 225 109 [some (.inr (.inr (some 53))), some (.inl f), some (.inl x), some (.inl b), some (.inl (s + 1))] [] m Q) ∧ ((¬ (am_s (((cnt (am_s x).toNat 12 : Nat) : Int)) ≤ am_s (((cnt (am_s s).toNat 12 : Nat) : Int)))) → ((∀ x : Nat, x < 4096 → m 61 x = 0 ∨ m 61 x = 1) ∧ 0 ≤ s ∧ s < 4096) ∧ (∀ (v2 : Int) (m2 : am_M), (((v2 = 0 ∨ v2 = 1) ∧ (v2 = 1 ↔ ∀ x : Nat, x < 4096 → m 61 x = 1 → ¬ x &&& s.toNat = 0)) ∧ m2 = m) → ((am_s v2 = 0) → ok 4 225 109 [some (.inr (.inr (some 53))), some (.inl f), some (.inl x), some (.inl b), some (.inl (s + 1))] [] m2 Q) ∧ ((¬ (am_s v2 = 0)) → ok 4 225 109 [some (.inr (.inr (some 53))), some (.inl f), some (.inl s), some (.inl b), some (.inl (s + 1))] [] m2 Q))))))))) : ok 4 225 109 [some (.inr (.inr (some 53))), some (.inl f), some (.inl x), some (.inl b), some (.inl s)] [] m Q := by
  refine ok_sg (pc' := 112) (ls' := [some (.inr (.inr (some 53))), some (.inl f), some (.inl x), some (.inl b), some (.inl s)]) (st' := [.inl b, .inl s]) (m' := m) (fun fx hfx o hk => ?_) ?_
  · refine r_ld (pc' := 111) hM_225 d_225_109 rfl rfl ?_
    refine r_ld (pc' := 112) hM_225 d_225_111 rfl rfl ?_
    exact hk
  refine ok_ic (pc' := 161) (pc2 := 115) hM_225 d_225_112 (by decide) rfl (fun hz1 => ?_) (fun hz1 => ?_)
  · have H := H.1 hz1
    refine ok_sg (pc' := 162) (ls' := [some (.inr (.inr (some 53))), some (.inl f), some (.inl x), some (.inl b), some (.inl s)]) (st' := [.inl x]) (m' := m) (fun fx hfx o hk => ?_) ?_
    · refine r_ld (pc' := 162) hM_225 d_225_161 rfl rfl ?_
      exact hk
    exact ok_rt (fun fx _ => rt_i hM_225 d_225_162 rfl) H
  · have H := H.2 hz1
    refine ok_sg (pc' := 121) (ls' := [some (.inr (.inr (some 53))), some (.inl f), some (.inl x), some (.inl b), some (.inl s)]) (st' := [.inl (am_and s (am_xor b (-1)))]) (m' := m) (fun fx hfx o hk => ?_) ?_
    · refine r_ld (pc' := 117) hM_225 d_225_115 rfl rfl ?_
      refine r_ld (pc' := 118) hM_225 d_225_117 rfl rfl ?_
      refine r_k (pc' := 119) (v := .inl (-1)) hM_225 d_225_118 rfl rfl ?_
      refine r_b (pc' := 120) (z := (am_xor b (-1))) hM_225 d_225_119 rfl rfl ?_
      refine r_b (pc' := 121) (z := (am_and s (am_xor b (-1)))) hM_225 d_225_120 rfl rfl ?_
      exact hk
    refine ok_if (pc' := 155) (pc2 := 124) hM_225 d_225_121 (by decide) rfl (fun hz2 => ?_) (fun hz2 => ?_)
    · have H := H.1 hz2
      refine ok_sg (pc' := 109) (ls' := [some (.inr (.inr (some 53))), some (.inl f), some (.inl x), some (.inl b), some (.inl (s + 1))]) (st' := []) (m' := m) (fun fx hfx o hk => ?_) ?_
      · refine r_sto (pc' := 158) (ls' := [some (.inr (.inr (some 53))), some (.inl f), some (.inl x), some (.inl b), some (.inl (s + 1))]) hM_225 d_225_155 rfl rfl ?_
        refine r_go (pc' := 109) hM_225 d_225_158 (by decide) ?_
        exact hk
      exact H
    · have H := H.2 (Decidable.not_not.mp hz2)
      refine ok_sg (pc' := 126) (ls' := [some (.inr (.inr (some 53))), some (.inl f), some (.inl x), some (.inl b), some (.inl s)]) (st' := [.inl (-1), .inl x]) (m' := m) (fun fx hfx o hk => ?_) ?_
      · refine r_ld (pc' := 125) hM_225 d_225_124 rfl rfl ?_
        refine r_k (pc' := 126) (v := .inl (-1)) hM_225 d_225_125 rfl rfl ?_
        exact hk
      refine ok_ic (pc' := 143) (pc2 := 129) hM_225 d_225_126 (by decide) rfl (fun hz3 => ?_) (fun hz3 => ?_)
      · have H := H.1 hz3
        obtain ⟨hz4, H⟩ := H
        refine ok_sg (pc' := 146) (ls' := [some (.inr (.inr (some 53))), some (.inl f), some (.inl x), some (.inl b), some (.inl s)]) (st' := [.inl s, .inr (.inr (some 53))]) (m' := m) (fun fx hfx o hk => ?_) ?_
        · refine r_ld (pc' := 144) hM_225 d_225_143 rfl rfl ?_
          refine r_ld (pc' := 146) hM_225 d_225_144 rfl rfl ?_
          exact hk
        refine ok_cl (pc' := 149) (c := (226, 0)) (a := [.inr (.inr (some 53)), .inl s]) (q := []) hM_225 d_225_146 rfl (by decide +kernel) hM_226 rfl rfl rfl (Nat.le_of_ble_eq_true rfl) (Nat.le_of_ble_eq_true rfl) (Or.inr rfl) (z_226  m s hz4) (Nat.le_of_ble_eq_true rfl) ?_
        rintro _ m1 ⟨v1, rfl, hz5⟩
        replace H := H v1 m1 hz5
        show ok 4 225 149 [some (.inr (.inr (some 53))), some (.inl f), some (.inl x), some (.inl b), some (.inl s)] [.inl v1] m1 Q
        refine ok_if (pc' := 155) (pc2 := 152) hM_225 d_225_149 (by decide) rfl (fun hz6 => ?_) (fun hz6 => ?_)
        · have H := H.1 hz6
          refine ok_sg (pc' := 109) (ls' := [some (.inr (.inr (some 53))), some (.inl f), some (.inl x), some (.inl b), some (.inl (s + 1))]) (st' := []) (m' := m1) (fun fx hfx o hk => ?_) ?_
          · refine r_sto (pc' := 158) (ls' := [some (.inr (.inr (some 53))), some (.inl f), some (.inl x), some (.inl b), some (.inl (s + 1))]) hM_225 d_225_155 rfl rfl ?_
            refine r_go (pc' := 109) hM_225 d_225_158 (by decide) ?_
            exact hk
          exact H
        · have H := H.2 hz6
          refine ok_sg (pc' := 109) (ls' := [some (.inr (.inr (some 53))), some (.inl f), some (.inl s), some (.inl b), some (.inl (s + 1))]) (st' := []) (m' := m1) (fun fx hfx o hk => ?_) ?_
          · refine r_ld (pc' := 154) hM_225 d_225_152 rfl rfl ?_
            refine r_sto (pc' := 155) (ls' := [some (.inr (.inr (some 53))), some (.inl f), some (.inl s), some (.inl b), some (.inl s)]) hM_225 d_225_154 rfl rfl ?_
            refine r_sto (pc' := 158) (ls' := [some (.inr (.inr (some 53))), some (.inl f), some (.inl s), some (.inl b), some (.inl (s + 1))]) hM_225 d_225_155 rfl rfl ?_
            refine r_go (pc' := 109) hM_225 d_225_158 (by decide) ?_
            exact hk
          exact H
      · have H := H.2 hz3
        obtain ⟨hz7, H⟩ := H
        obtain ⟨hz8, H⟩ := H
        refine ok_sg (pc' := 140) (ls' := [some (.inr (.inr (some 53))), some (.inl f), some (.inl x), some (.inl b), some (.inl s)]) (st' := [.inl (((cnt (am_s x).toNat 12 : Nat) : Int)), .inl (((cnt (am_s s).toNat 12 : Nat) : Int))]) (m' := m) (fun fx hfx o hk => ?_) ?_
        · refine r_ld (pc' := 131) hM_225 d_225_129 rfl rfl ?_
          refine r_stk (pc' := 132) (st' := [.inr (.inl (am_s s))]) hM_225 d_225_131 rfl rfl ?_
          refine r_cl (pc' := 135) (c := (193, 2)) (a := [.inr (.inl (am_s s))]) (q := []) hM_225 d_225_132 rfl (by decide +kernel) hM_193 rfl rfl rfl (Nat.le_of_ble_eq_true rfl) (Nat.le_of_ble_eq_true rfl) (Or.inl rfl) (c_193  m (am_s s) hz7) (Nat.le_of_ble_eq_true rfl) ?_
          show rn fx 4 (0, 0) 225 135 [some (.inr (.inr (some 53))), some (.inl f), some (.inl x), some (.inl b), some (.inl s)] [.inl (((cnt (am_s s).toNat 12 : Nat) : Int))] (st0 m) o
          refine r_ld (pc' := 136) hM_225 d_225_135 rfl rfl ?_
          refine r_stk (pc' := 137) (st' := [.inr (.inl (am_s x)), .inl (((cnt (am_s s).toNat 12 : Nat) : Int))]) hM_225 d_225_136 rfl rfl ?_
          refine r_cl (pc' := 140) (c := (193, 2)) (a := [.inr (.inl (am_s x))]) (q := [.inl (((cnt (am_s s).toNat 12 : Nat) : Int))]) hM_225 d_225_137 rfl (by decide +kernel) hM_193 rfl rfl rfl (Nat.le_of_ble_eq_true rfl) (Nat.le_of_ble_eq_true rfl) (Or.inl rfl) (c_193  m (am_s x) hz8) (Nat.le_of_ble_eq_true rfl) ?_
          show rn fx 4 (0, 0) 225 140 [some (.inr (.inr (some 53))), some (.inl f), some (.inl x), some (.inl b), some (.inl s)] [.inl (((cnt (am_s x).toNat 12 : Nat) : Int)), .inl (((cnt (am_s s).toNat 12 : Nat) : Int))] (st0 m) o
          exact hk
        refine ok_ic (pc' := 155) (pc2 := 143) hM_225 d_225_140 (by decide) rfl (fun hz9 => ?_) (fun hz9 => ?_)
        · have H := H.1 hz9
          refine ok_sg (pc' := 109) (ls' := [some (.inr (.inr (some 53))), some (.inl f), some (.inl x), some (.inl b), some (.inl (s + 1))]) (st' := []) (m' := m) (fun fx hfx o hk => ?_) ?_
          · refine r_sto (pc' := 158) (ls' := [some (.inr (.inr (some 53))), some (.inl f), some (.inl x), some (.inl b), some (.inl (s + 1))]) hM_225 d_225_155 rfl rfl ?_
            refine r_go (pc' := 109) hM_225 d_225_158 (by decide) ?_
            exact hk
          exact H
        · have H := H.2 hz9
          obtain ⟨hz10, H⟩ := H
          refine ok_sg (pc' := 146) (ls' := [some (.inr (.inr (some 53))), some (.inl f), some (.inl x), some (.inl b), some (.inl s)]) (st' := [.inl s, .inr (.inr (some 53))]) (m' := m) (fun fx hfx o hk => ?_) ?_
          · refine r_ld (pc' := 144) hM_225 d_225_143 rfl rfl ?_
            refine r_ld (pc' := 146) hM_225 d_225_144 rfl rfl ?_
            exact hk
          refine ok_cl (pc' := 149) (c := (226, 0)) (a := [.inr (.inr (some 53)), .inl s]) (q := []) hM_225 d_225_146 rfl (by decide +kernel) hM_226 rfl rfl rfl (Nat.le_of_ble_eq_true rfl) (Nat.le_of_ble_eq_true rfl) (Or.inr rfl) (z_226  m s hz10) (Nat.le_of_ble_eq_true rfl) ?_
          rintro _ m2 ⟨v2, rfl, hz11⟩
          replace H := H v2 m2 hz11
          show ok 4 225 149 [some (.inr (.inr (some 53))), some (.inl f), some (.inl x), some (.inl b), some (.inl s)] [.inl v2] m2 Q
          refine ok_if (pc' := 155) (pc2 := 152) hM_225 d_225_149 (by decide) rfl (fun hz12 => ?_) (fun hz12 => ?_)
          · have H := H.1 hz12
            refine ok_sg (pc' := 109) (ls' := [some (.inr (.inr (some 53))), some (.inl f), some (.inl x), some (.inl b), some (.inl (s + 1))]) (st' := []) (m' := m2) (fun fx hfx o hk => ?_) ?_
            · refine r_sto (pc' := 158) (ls' := [some (.inr (.inr (some 53))), some (.inl f), some (.inl x), some (.inl b), some (.inl (s + 1))]) hM_225 d_225_155 rfl rfl ?_
              refine r_go (pc' := 109) hM_225 d_225_158 (by decide) ?_
              exact hk
            exact H
          · have H := H.2 hz12
            refine ok_sg (pc' := 109) (ls' := [some (.inr (.inr (some 53))), some (.inl f), some (.inl s), some (.inl b), some (.inl (s + 1))]) (st' := []) (m' := m2) (fun fx hfx o hk => ?_) ?_
            · refine r_ld (pc' := 154) hM_225 d_225_152 rfl rfl ?_
              refine r_sto (pc' := 155) (ls' := [some (.inr (.inr (some 53))), some (.inl f), some (.inl s), some (.inl b), some (.inl s)]) hM_225 d_225_154 rfl rfl ?_
              refine r_sto (pc' := 158) (ls' := [some (.inr (.inr (some 53))), some (.inl f), some (.inl s), some (.inl b), some (.inl (s + 1))]) hM_225 d_225_155 rfl rfl ?_
              refine r_go (pc' := 109) hM_225 d_225_158 (by decide) ?_
              exact hk
            exact H
theorem u_225_54 {Q : List am_V → am_M → Prop} {m : am_M} {f : Int} {a : Int} {b : Int}  (H : ((am_s a ≤ am_s b) → ok 4 225 47 [some (.inr (.inr (some 53))), some (.inl f), some (.inl (a + 1)), none, none] [] m Q) ∧ ((¬ (am_s a ≤ am_s b)) → ((¬ am_s (am_and a (am_xor f (-1))) = 0) → ok 4 225 54 [some (.inr (.inr (some 53))), some (.inl f), some (.inl a), some (.inl (b + 1)), none] [] m Q) ∧ ((am_s (am_and a (am_xor f (-1))) = 0) → ((¬ am_s (am_and b (am_xor f (-1))) = 0) → ok 4 225 54 [some (.inr (.inr (some 53))), some (.inl f), some (.inl a), some (.inl (b + 1)), none] [] m Q) ∧ ((am_s (am_and b (am_xor f (-1))) = 0) → (WFG (m 54) ∧ (0 ≤ a ∧ a < 4096) ∧ 0 ≤ b ∧ b < 4096) ∧ (∀ (m1 : am_M), (m1 = m) → (0 ≤ am_s ((unl (nv (m 54)) a.toNat b.toNat (m 54 0).toNat : Nat) : Int) ∧ am_s ((unl (nv (m 54)) a.toNat b.toNat (m 54 0).toNat : Nat) : Int) < (4096 : Nat)) ∧ (ok 4 225 54 [some (.inr (.inr (some 53))), some (.inl f), some (.inl a), some (.inl (b + 1)), none] [] (mu m1 61 ((am_s ((unl (nv (m 54)) a.toNat b.toNat (m 54 0).toNat : Nat) : Int)).toNat) (am_b1 1)) Q)))))) : ok 4 225 54 [some (.inr (.inr (some 53))), some (.inl f), some (.inl a), some (.inl b), none] [] m Q := by
  refine ok_sg (pc' := 56) (ls' := [some (.inr (.inr (some 53))), some (.inl f), some (.inl a), some (.inl b), none]) (st' := [.inl a, .inl b]) (m' := m) (fun fx hfx o hk => ?_) ?_
  · refine r_ld (pc' := 55) hM_225 d_225_54 rfl rfl ?_
    refine r_ld (pc' := 56) hM_225 d_225_55 rfl rfl ?_
    exact hk
  refine ok_ic (pc' := 93) (pc2 := 59) hM_225 d_225_56 (by decide) rfl (fun hz1 => ?_) (fun hz1 => ?_)
  · have H := H.1 hz1
    refine ok_sg (pc' := 47) (ls' := [some (.inr (.inr (some 53))), some (.inl f), some (.inl (a + 1)), none, none]) (st' := []) (m' := m) (fun fx hfx o hk => ?_) ?_
    · refine r_sto (pc' := 96) (ls' := [some (.inr (.inr (some 53))), some (.inl f), some (.inl (a + 1)), some (.inl b), none]) hM_225 d_225_93 rfl rfl ?_
      refine r_go (pc' := 47) hM_225 d_225_96 (by decide) ?_
      refine rn_wk (a := [some (.inr (.inr (some 53))), some (.inl f), some (.inl (a + 1)), none, none]) (by simp only [am_le, and_self]) ?_
      exact hk
    exact H
  · have H := H.2 hz1
    refine ok_sg (pc' := 64) (ls' := [some (.inr (.inr (some 53))), some (.inl f), some (.inl a), some (.inl b), none]) (st' := [.inl (am_and a (am_xor f (-1)))]) (m' := m) (fun fx hfx o hk => ?_) ?_
    · refine r_ld (pc' := 60) hM_225 d_225_59 rfl rfl ?_
      refine r_ld (pc' := 61) hM_225 d_225_60 rfl rfl ?_
      refine r_k (pc' := 62) (v := .inl (-1)) hM_225 d_225_61 rfl rfl ?_
      refine r_b (pc' := 63) (z := (am_xor f (-1))) hM_225 d_225_62 rfl rfl ?_
      refine r_b (pc' := 64) (z := (am_and a (am_xor f (-1)))) hM_225 d_225_63 rfl rfl ?_
      exact hk
    refine ok_if (pc' := 87) (pc2 := 67) hM_225 d_225_64 (by decide) rfl (fun hz2 => ?_) (fun hz2 => ?_)
    · have H := H.1 hz2
      refine ok_sg (pc' := 54) (ls' := [some (.inr (.inr (some 53))), some (.inl f), some (.inl a), some (.inl (b + 1)), none]) (st' := []) (m' := m) (fun fx hfx o hk => ?_) ?_
      · refine r_sto (pc' := 90) (ls' := [some (.inr (.inr (some 53))), some (.inl f), some (.inl a), some (.inl (b + 1)), none]) hM_225 d_225_87 rfl rfl ?_
        refine r_go (pc' := 54) hM_225 d_225_90 (by decide) ?_
        exact hk
      exact H
    · have H := H.2 (Decidable.not_not.mp hz2)
      refine ok_sg (pc' := 72) (ls' := [some (.inr (.inr (some 53))), some (.inl f), some (.inl a), some (.inl b), none]) (st' := [.inl (am_and b (am_xor f (-1)))]) (m' := m) (fun fx hfx o hk => ?_) ?_
      · refine r_ld (pc' := 68) hM_225 d_225_67 rfl rfl ?_
        refine r_ld (pc' := 69) hM_225 d_225_68 rfl rfl ?_
        refine r_k (pc' := 70) (v := .inl (-1)) hM_225 d_225_69 rfl rfl ?_
        refine r_b (pc' := 71) (z := (am_xor f (-1))) hM_225 d_225_70 rfl rfl ?_
        refine r_b (pc' := 72) (z := (am_and b (am_xor f (-1)))) hM_225 d_225_71 rfl rfl ?_
        exact hk
      refine ok_if (pc' := 87) (pc2 := 75) hM_225 d_225_72 (by decide) rfl (fun hz3 => ?_) (fun hz3 => ?_)
      · have H := H.1 hz3
        refine ok_sg (pc' := 54) (ls' := [some (.inr (.inr (some 53))), some (.inl f), some (.inl a), some (.inl (b + 1)), none]) (st' := []) (m' := m) (fun fx hfx o hk => ?_) ?_
        · refine r_sto (pc' := 90) (ls' := [some (.inr (.inr (some 53))), some (.inl f), some (.inl a), some (.inl (b + 1)), none]) hM_225 d_225_87 rfl rfl ?_
          refine r_go (pc' := 54) hM_225 d_225_90 (by decide) ?_
          exact hk
        exact H
      · have H := H.2 (Decidable.not_not.mp hz3)
        obtain ⟨hz4, H⟩ := H
        refine ok_sg (pc' := 82) (ls' := [some (.inr (.inr (some 53))), some (.inl f), some (.inl a), some (.inl b), none]) (st' := [.inl b, .inl a, .inr (.inr (some 53)), .inr (.inr (some 61))]) (m' := m) (fun fx hfx o hk => ?_) ?_
        · refine r_ld (pc' := 76) hM_225 d_225_75 rfl rfl ?_
          refine r_gR (pc' := 79) (v := 61) hM_225 d_225_76 rfl (by decide +kernel) ?_
          refine r_ld (pc' := 80) hM_225 d_225_79 rfl rfl ?_
          refine r_ld (pc' := 81) hM_225 d_225_80 rfl rfl ?_
          refine r_ld (pc' := 82) hM_225 d_225_81 rfl rfl ?_
          exact hk
        refine ok_cl (pc' := 85) (c := (224, 0)) (a := [.inr (.inr (some 53)), .inl a, .inl b]) (q := [.inr (.inr (some 61))]) hM_225 d_225_82 rfl (by decide +kernel) hM_224 rfl rfl rfl (Nat.le_of_ble_eq_true rfl) (Nat.le_of_ble_eq_true rfl) (Or.inr rfl) (z_224  m a b hz4) (Nat.le_of_ble_eq_true rfl) ?_
        rintro _ m1 ⟨rfl, hz5⟩
        replace H := H  m1 hz5
        show ok 4 225 85 [some (.inr (.inr (some 53))), some (.inl f), some (.inl a), some (.inl b), none] [.inl ((unl (nv (m 54)) a.toNat b.toNat (m 54 0).toNat : Nat) : Int), .inr (.inr (some 61))] m1 Q
        obtain ⟨hz6, H⟩ := H
        refine ok_sg (pc' := 54) (ls' := [some (.inr (.inr (some 53))), some (.inl f), some (.inl a), some (.inl (b + 1)), none]) (st' := []) (m' := mu m1 61 ((am_s ((unl (nv (m 54)) a.toNat b.toNat (m 54 0).toNat : Nat) : Int)).toNat) (am_b1 1)) (fun fx hfx o hk => ?_) ?_
        · refine r_k (pc' := 86) (v := .inl 1) hM_225 d_225_85 rfl rfl ?_
          refine r_zs (pc' := 87) (n := 4096) hM_225 d_225_86 rfl rfl hz6 ?_
          refine r_sto (pc' := 90) (ls' := [some (.inr (.inr (some 53))), some (.inl f), some (.inl a), some (.inl (b + 1)), none]) hM_225 d_225_87 rfl rfl ?_
          refine r_go (pc' := 54) hM_225 d_225_90 (by decide) ?_
          exact hk
        exact H
theorem u_225_47 {Q : List am_V → am_M → Prop} {m : am_M} {f : Int} {a : Int}  (H : ((am_s f < am_s a) → (WFG (m 54)) ∧ (ok 4 225 109 [some (.inr (.inr (some 53))), some (.inl f), some (.inl (-1)), some (.inl (((brl (nv (m 54)) : Nat) : Int))), some (.inl 0)] [] m Q)) ∧ ((¬ (am_s f < am_s a)) → ok 4 225 54 [some (.inr (.inr (some 53))), some (.inl f), some (.inl a), some (.inl 0), none] [] m Q)) : ok 4 225 47 [some (.inr (.inr (some 53))), some (.inl f), some (.inl a), none, none] [] m Q := by
  refine ok_sg (pc' := 49) (ls' := [some (.inr (.inr (some 53))), some (.inl f), some (.inl a), none, none]) (st' := [.inl f, .inl a]) (m' := m) (fun fx hfx o hk => ?_) ?_
  · refine r_ld (pc' := 48) hM_225 d_225_47 rfl rfl ?_
    refine r_ld (pc' := 49) hM_225 d_225_48 rfl rfl ?_
    exact hk
  refine ok_ic (pc' := 99) (pc2 := 52) hM_225 d_225_49 (by decide) rfl (fun hz1 => ?_) (fun hz1 => ?_)
  · have H := H.1 hz1
    obtain ⟨hz2, H⟩ := H
    refine ok_sg (pc' := 109) (ls' := [some (.inr (.inr (some 53))), some (.inl f), some (.inl (-1)), some (.inl (((brl (nv (m 54)) : Nat) : Int))), some (.inl 0)]) (st' := []) (m' := m) (fun fx hfx o hk => ?_) ?_
    · refine r_k (pc' := 100) (v := .inl (-1)) hM_225 d_225_99 rfl rfl ?_
      refine r_sto (pc' := 101) (ls' := [some (.inr (.inr (some 53))), some (.inl f), some (.inl (-1)), none, none]) hM_225 d_225_100 rfl rfl ?_
      refine r_ld (pc' := 102) hM_225 d_225_101 rfl rfl ?_
      refine r_cl (pc' := 105) (c := (191, 0)) (a := [.inr (.inr (some 53))]) (q := []) hM_225 d_225_102 rfl (by decide +kernel) hM_191 rfl rfl rfl (Nat.le_of_ble_eq_true rfl) (Nat.le_of_ble_eq_true rfl) (Or.inr rfl) (n_191  m  hz2) (Nat.le_of_ble_eq_true rfl) ?_
      show rn fx 4 (0, 0) 225 105 [some (.inr (.inr (some 53))), some (.inl f), some (.inl (-1)), none, none] [.inl (((brl (nv (m 54)) : Nat) : Int))] (st0 m) o
      refine r_sto (pc' := 106) (ls' := [some (.inr (.inr (some 53))), some (.inl f), some (.inl (-1)), some (.inl (((brl (nv (m 54)) : Nat) : Int))), none]) hM_225 d_225_105 rfl rfl ?_
      refine r_k (pc' := 107) (v := .inl 0) hM_225 d_225_106 rfl rfl ?_
      refine r_sto (pc' := 109) (ls' := [some (.inr (.inr (some 53))), some (.inl f), some (.inl (-1)), some (.inl (((brl (nv (m 54)) : Nat) : Int))), some (.inl 0)]) hM_225 d_225_107 rfl rfl ?_
      exact hk
    exact H
  · have H := H.2 hz1
    refine ok_sg (pc' := 54) (ls' := [some (.inr (.inr (some 53))), some (.inl f), some (.inl a), some (.inl 0), none]) (st' := []) (m' := m) (fun fx hfx o hk => ?_) ?_
    · refine r_k (pc' := 53) (v := .inl 0) hM_225 d_225_52 rfl rfl ?_
      refine r_sto (pc' := 54) (ls' := [some (.inr (.inr (some 53))), some (.inl f), some (.inl a), some (.inl 0), none]) hM_225 d_225_53 rfl rfl ?_
      exact hk
    exact H
theorem u_225_25 {Q : List am_V → am_M → Prop} {m : am_M} {f : Int} {s : Int}  (H : ((4096 ≤ am_s s) → ok 4 225 47 [some (.inr (.inr (some 53))), some (.inl f), some (.inl 0), none, none] [] m Q) ∧ ((¬ (4096 ≤ am_s s)) → (0 ≤ am_s s ∧ am_s s < (4096 : Nat)) ∧ (ok 4 225 25 [some (.inr (.inr (some 53))), some (.inl f), some (.inl (s + 1)), none, none] [] (mu m 61 ((am_s s).toNat) (am_b1 0)) Q))) : ok 4 225 25 [some (.inr (.inr (some 53))), some (.inl f), some (.inl s), none, none] [] m Q := by
  refine ok_sg (pc' := 29) (ls' := [some (.inr (.inr (some 53))), some (.inl f), some (.inl s), none, none]) (st' := [.inl 4096, .inl s]) (m' := m) (fun fx hfx o hk => ?_) ?_
  · refine r_ld (pc' := 26) hM_225 d_225_25 rfl rfl ?_
    refine r_k (pc' := 29) (v := .inl 4096) hM_225 d_225_26 rfl rfl ?_
    exact hk
  refine ok_ic (pc' := 45) (pc2 := 32) hM_225 d_225_29 (by decide) rfl (fun hz1 => ?_) (fun hz1 => ?_)
  · have H := H.1 hz1
    refine ok_sg (pc' := 47) (ls' := [some (.inr (.inr (some 53))), some (.inl f), some (.inl 0), none, none]) (st' := []) (m' := m) (fun fx hfx o hk => ?_) ?_
    · refine r_k (pc' := 46) (v := .inl 0) hM_225 d_225_45 rfl rfl ?_
      refine r_sto (pc' := 47) (ls' := [some (.inr (.inr (some 53))), some (.inl f), some (.inl 0), none, none]) hM_225 d_225_46 rfl rfl ?_
      exact hk
    exact H
  · have H := H.2 hz1
    obtain ⟨hz2, H⟩ := H
    refine ok_sg (pc' := 25) (ls' := [some (.inr (.inr (some 53))), some (.inl f), some (.inl (s + 1)), none, none]) (st' := []) (m' := mu m 61 ((am_s s).toNat) (am_b1 0)) (fun fx hfx o hk => ?_) ?_
    · refine r_ld (pc' := 33) hM_225 d_225_32 rfl rfl ?_
      refine r_gR (pc' := 36) (v := 61) hM_225 d_225_33 rfl (by decide +kernel) ?_
      refine r_ld (pc' := 37) hM_225 d_225_36 rfl rfl ?_
      refine r_k (pc' := 38) (v := .inl 0) hM_225 d_225_37 rfl rfl ?_
      refine r_zs (pc' := 39) (n := 4096) hM_225 d_225_38 rfl rfl hz2 ?_
      refine r_sto (pc' := 42) (ls' := [some (.inr (.inr (some 53))), some (.inl f), some (.inl (s + 1)), none, none]) hM_225 d_225_39 rfl rfl ?_
      refine r_go (pc' := 25) hM_225 d_225_42 (by decide) ?_
      exact hk
    exact H
theorem u_225_0 {Q : List am_V → am_M → Prop} {m : am_M}   (H : (WFG ((mu m 53 0 0) 54)) ∧ ((0 ≤ (am_s (((may (nv ((mu m 53 0 0) 54)) : Nat) : Int))) ∧ (am_s (((may (nv ((mu m 53 0 0) 54)) : Nat) : Int))) < 2147483648) ∧ (((am_s (((cnt (am_s (((may (nv ((mu m 53 0 0) 54)) : Nat) : Int))).toNat 12 : Nat) : Int)) ≤ 8) → ok 4 225 25 [some (.inr (.inr (some 53))), some (.inl (((may (nv ((mu m 53 0 0) 54)) : Nat) : Int))), some (.inl 0), none, none] [] (mu m 53 0 0) Q) ∧ ((¬ (am_s (((cnt (am_s (((may (nv ((mu m 53 0 0) 54)) : Nat) : Int))).toNat 12 : Nat) : Int)) ≤ 8)) → Q [.inl (-4)] (mu m 53 0 0))))) : ok 4 225 0 [some (.inr (.inr (some 53))), none, none, none, none] [] m Q := by
  obtain ⟨hz1, H⟩ := H
  obtain ⟨hz2, H⟩ := H
  refine ok_sg (pc' := 17) (ls' := [some (.inr (.inr (some 53))), some (.inl (((may (nv ((mu m 53 0 0) 54)) : Nat) : Int))), none, none, none]) (st' := [.inl 8, .inl (((cnt (am_s (((may (nv ((mu m 53 0 0) 54)) : Nat) : Int))).toNat 12 : Nat) : Int))]) (m' := mu m 53 0 0) (fun fx hfx o hk => ?_) ?_
  · refine r_ld (pc' := 1) hM_225 d_225_0 rfl rfl ?_
    refine r_k (pc' := 2) (v := .inl 0) hM_225 d_225_1 rfl rfl ?_
    refine r_pI (pc' := 5) (k0 := 0) hM_225 d_225_2 rfl (by decide +kernel) ?_
    refine r_ld (pc' := 6) hM_225 d_225_5 rfl rfl ?_
    refine r_cl (pc' := 9) (c := (222, 0)) (a := [.inr (.inr (some 53))]) (q := []) hM_225 d_225_6 rfl (by decide +kernel) hM_222 rfl rfl rfl (Nat.le_of_ble_eq_true rfl) (Nat.le_of_ble_eq_true rfl) (Or.inr rfl) (n_222  (mu m 53 0 0)  hz1) (Nat.le_of_ble_eq_true rfl) ?_
    show rn fx 4 (0, 0) 225 9 [some (.inr (.inr (some 53))), none, none, none, none] [.inl (((may (nv ((mu m 53 0 0) 54)) : Nat) : Int))] (st0 (mu m 53 0 0)) o
    refine r_sto (pc' := 10) (ls' := [some (.inr (.inr (some 53))), some (.inl (((may (nv ((mu m 53 0 0) 54)) : Nat) : Int))), none, none, none]) hM_225 d_225_9 rfl rfl ?_
    refine r_ld (pc' := 11) hM_225 d_225_10 rfl rfl ?_
    refine r_stk (pc' := 12) (st' := [.inr (.inl (am_s (((may (nv ((mu m 53 0 0) 54)) : Nat) : Int))))]) hM_225 d_225_11 rfl rfl ?_
    refine r_cl (pc' := 15) (c := (193, 2)) (a := [.inr (.inl (am_s (((may (nv ((mu m 53 0 0) 54)) : Nat) : Int))))]) (q := []) hM_225 d_225_12 rfl (by decide +kernel) hM_193 rfl rfl rfl (Nat.le_of_ble_eq_true rfl) (Nat.le_of_ble_eq_true rfl) (Or.inl rfl) (c_193  (mu m 53 0 0) (am_s (((may (nv ((mu m 53 0 0) 54)) : Nat) : Int))) hz2) (Nat.le_of_ble_eq_true rfl) ?_
    show rn fx 4 (0, 0) 225 15 [some (.inr (.inr (some 53))), some (.inl (((may (nv ((mu m 53 0 0) 54)) : Nat) : Int))), none, none, none] [.inl (((cnt (am_s (((may (nv ((mu m 53 0 0) 54)) : Nat) : Int))).toNat 12 : Nat) : Int))] (st0 (mu m 53 0 0)) o
    refine r_k (pc' := 17) (v := .inl 8) hM_225 d_225_15 rfl rfl ?_
    exact hk
  refine ok_ic (pc' := 23) (pc2 := 20) hM_225 d_225_17 (by decide) rfl (fun hz3 => ?_) (fun hz3 => ?_)
  · have H := H.1 hz3
    refine ok_sg (pc' := 25) (ls' := [some (.inr (.inr (some 53))), some (.inl (((may (nv ((mu m 53 0 0) 54)) : Nat) : Int))), some (.inl 0), none, none]) (st' := []) (m' := mu m 53 0 0) (fun fx hfx o hk => ?_) ?_
    · refine r_k (pc' := 24) (v := .inl 0) hM_225 d_225_23 rfl rfl ?_
      refine r_sto (pc' := 25) (ls' := [some (.inr (.inr (some 53))), some (.inl (((may (nv ((mu m 53 0 0) 54)) : Nat) : Int))), some (.inl 0), none, none]) hM_225 d_225_24 rfl rfl ?_
      exact hk
    exact H
  · have H := H.2 hz3
    refine ok_sg (pc' := 22) (ls' := [some (.inr (.inr (some 53))), some (.inl (((may (nv ((mu m 53 0 0) 54)) : Nat) : Int))), none, none, none]) (st' := [.inl (-4)]) (m' := mu m 53 0 0) (fun fx hfx o hk => ?_) ?_
    · refine r_k (pc' := 22) (v := .inl (-4)) hM_225 d_225_20 rfl rfl ?_
      exact hk
    exact ok_rt (fun fx _ => rt_i hM_225 d_225_22 rfl) H
theorem P_enough {m : am_M} (hI : Inv m) : PK 104 1 225 5 [] m := by
  have hw := Inv_wf hI
  have hwv := Inv_vw hI
  have hwn := WFG_nv hw
  have hN := hw.1
  have hF := may_lt (g := nv (m 54)) (nv0_le hw)
  have hB := brl_lt (g := nv (m 54)) (nv0_le hw)
  have hcl := cnt_le (may (nv (m 54))) 12
  refine PK_2 (h1 := 5) (h2 := 4) (v := .inl (if cnt (may (nv (m 54))) 12 ≤ 8 then env (nv (m 54)) else -4)) (R := fun m1 => kpC m m1) ?_ ?_ (by decide) (by decide)
  · refine u_104_0 ⟨hwv, fun m1 h => ⟨?_, h⟩⟩
    rw [Inv_nv hI]
  · intro m1 hk
    obtain ⟨w1, w2, w3, w4, w5, w6, w7⟩ := mod_pre (a := 0) hI hk
    have w0 : (mu m1 53 0 0) 54 0 = m 54 0 := w7 54 0 (by unfold core; omega)
    refine u_225_0 ?_
    generalize mu m1 53 0 0 = m2 at *
    rw [w4, am_s_id (z := ((may (nv (m 54)) : Nat) : Int)) (by omega) (by omega), Int.toNat_natCast, am_s_id (z := ((cnt (may (nv (m 54))) 12 : Nat) : Int)) (by omega) (by omega)]
    refine ⟨w1, by omega, fun q => ?_, fun q => ⟨by rw [if_neg (by omega)], w6⟩⟩
    rw [if_pos (by omega)]
    have hb0 : am_b1 0 = 0 := by decide +kernel
    have hb1 : am_b1 1 = 1 := by decide +kernel
    have hp12 : 2 ^ (nv (m 54) 0).toNat ≤ 2 ^ 12 := Nat.pow_le_pow_right (by decide) (by have := hwn.1; omega)
    have hul : ∀ x y, unl (nv (m 54)) x y (nv (m 54) 0).toNat < 4096 := fun x y => Nat.lt_of_lt_of_le (unl_lt _ _ _ _) hp12
    generalize hFv : may (nv (m 54)) = F at *
    refine ok_for (σ := Unit) (fun s _ => [some (.inr (.inr (some 53))), some (.inl (F : Int)), some (.inl (s : Int)), none, none]) (fun s _ M => (∀ s', s' < s → M 61 s' = 0) ∧ ∀ a, a ≠ 61 → M a = m2 a) 4096 ?_ ?_ () m2 ⟨fun s' h => absurd h (Nat.not_lt_zero _), fun _ _ => rfl⟩
    · rintro s hs - M ⟨h1, h2⟩ IH
      refine u_225_25 ?_
      rw [am_s_id (z := (s : Int)) (by omega) (by omega), Int.toNat_natCast, hb0]
      refine ⟨fun q => by omega, fun _ => ⟨by omega, IH () _ ⟨fun s' hs' => ?_, fun a ha => by rw [mu_rf ha]; exact h2 a ha⟩⟩⟩
      rw [mu_if]
      by_cases h : s' = s
      · rw [if_pos h]
      · rw [if_neg h]; exact h1 s' (by omega)
    rintro - M0 ⟨h01, h02⟩
    refine u_225_25 ?_
    rw [am_s_id (z := ((4096 : Nat) : Int)) (by omega) (by omega)]
    refine ⟨fun _ => ?_, fun q => by omega⟩
    refine ok_for (σ := Unit) (fun a _ => [some (.inr (.inr (some 53))), some (.inl (F : Int)), some (.inl (a : Int)), none, none]) (fun a _ M => (∀ u, u < 4096 → (M 61 u = 0 ∨ M 61 u = 1) ∧ (M 61 u = 1 ↔ ∃ x y : Nat, y < x ∧ x < a ∧ sb F x ∧ sb F y ∧ unl (nv (m 54)) x y (nv (m 54) 0).toNat = u)) ∧ ∀ a, a ≠ 61 → M a = m2 a) (F + 1) ?_ ?_ () M0 ⟨fun u hu => ⟨Or.inl (h01 u hu), by rw [h01 u hu]; exact ⟨fun q => absurd q (by decide), fun ⟨x, y, _, q, _⟩ => absurd q (Nat.not_lt_zero _)⟩⟩, h02⟩
    · rintro a ha - M ⟨h1, h2⟩ IH
      refine u_225_47 ?_
      rw [am_s_id (z := (F : Int)) (by omega) (by omega), am_s_id (z := (a : Int)) (by omega) (by omega)]
      refine ⟨fun q => by omega, fun _ => ?_⟩
      refine ok_for (σ := Unit) (fun b _ => [some (.inr (.inr (some 53))), some (.inl (F : Int)), some (.inl (a : Int)), some (.inl (b : Int)), none]) (fun b _ M => (∀ u, u < 4096 → (M 61 u = 0 ∨ M 61 u = 1) ∧ (M 61 u = 1 ↔ ∃ x y : Nat, y < x ∧ (x < a ∨ (x = a ∧ y < b)) ∧ sb F x ∧ sb F y ∧ unl (nv (m 54)) x y (nv (m 54) 0).toNat = u)) ∧ ∀ a, a ≠ 61 → M a = m2 a) a ?_ ?_ () M ⟨fun u hu => ⟨(h1 u hu).1, (h1 u hu).2.trans ⟨fun ⟨x, y, q1, q2, q3⟩ => ⟨x, y, q1, Or.inl q2, q3⟩, fun ⟨x, y, q1, q2, q3⟩ => ⟨x, y, q1, by omega, q3⟩⟩⟩, h2⟩
      · rintro b hb - M1 ⟨k1, k2⟩ IH2
        have hsa := bx_sub (z := (a : Int)) (b := F) (by omega)
        have hsb := bx_sub (z := (b : Int)) (b := F) (by omega)
        rw [am_s_id (z := (a : Int)) (by omega) (by omega), Int.toNat_natCast] at hsa
        rw [am_s_id (z := (b : Int)) (by omega) (by omega), Int.toNat_natCast] at hsb
        have hul1 := hul a b
        have skip : ¬ (sb F a ∧ sb F b) → ok 4 225 54 [some (.inr (.inr (some 53))), some (.inl (F : Int)), some (.inl (a : Int)), some (.inl ((b : Int) + 1)), none] [] M1 (fun r m2 => r = [Sum.inl (env (nv (m 54)))] ∧ Inv m2) := by
          intro hn
          refine IH2 () M1 ⟨fun u hu => ⟨(k1 u hu).1, (k1 u hu).2.trans ⟨fun ⟨x, y, q1, q2, q3⟩ => ⟨x, y, q1, by omega, q3⟩, fun ⟨x, y, q1, q2, q3⟩ => ⟨x, y, q1, ?_, q3⟩⟩⟩, k2⟩
          by_cases hxy : x = a ∧ y = b
          · rw [hxy.1, hxy.2] at q3
            exact absurd ⟨q3.1, q3.2.1⟩ hn
          · omega
        refine u_225_54 ?_
        rw [am_s_id (z := (a : Int)) (by omega) (by omega), am_s_id (z := (b : Int)) (by omega) (by omega), hsa, hsb, Int.toNat_natCast, Int.toNat_natCast, k2 54 (by decide), w4, w0, ← nv0 (g := m 54), am_s_id (z := ((unl (nv (m 54)) a b (nv (m 54) 0).toNat : Nat) : Int)) (by omega) (by omega), Int.toNat_natCast, hb1]
        refine ⟨fun q => by omega, fun _ => ⟨fun q => skip (fun k => q ⟨by omega, k.1⟩), fun q => ⟨fun q2 => skip (fun k => q2 ⟨by omega, k.2⟩), fun q2 => ⟨⟨w1, by omega, by omega⟩, ?_⟩⟩⟩⟩
        intro mx hmx
        rw [hmx]
        refine ⟨by omega, IH2 () _ ⟨fun u hu => ?_, fun c hc => by rw [mu_rf hc]; exact k2 c hc⟩⟩
        obtain ⟨z1, z2⟩ := k1 u hu
        rw [mu_if]
        by_cases h : u = unl (nv (m 54)) a b (nv (m 54) 0).toNat
        · rw [if_pos h]
          exact ⟨Or.inr rfl, fun _ => ⟨a, b, hb, Or.inr ⟨rfl, by omega⟩, q.2, q2.2, h.symm⟩, fun _ => rfl⟩
        · rw [if_neg h]
          refine ⟨z1, z2.trans ⟨fun ⟨x, y, q1, q2, q3⟩ => ⟨x, y, q1, by omega, q3⟩, fun ⟨x, y, q1, q2, q3⟩ => ⟨x, y, q1, ?_, q3⟩⟩⟩
          by_cases hxy : x = a ∧ y = b
          · rw [hxy.1, hxy.2] at q3
            exact absurd q3.2.2.symm h
          · omega
      · rintro - M1 ⟨k1, k2⟩
        refine u_225_54 ?_
        rw [am_s_id (z := (a : Int)) (by omega) (by omega)]
        exact ⟨fun _ => IH () M1 ⟨fun u hu => ⟨(k1 u hu).1, (k1 u hu).2.trans ⟨fun ⟨x, y, q1, q2, q3⟩ => ⟨x, y, q1, by omega, q3⟩, fun ⟨x, y, q1, q2, q3⟩ => ⟨x, y, q1, by omega, q3⟩⟩⟩, k2⟩, fun q => by omega⟩
    rintro - M2 ⟨h21, h22⟩
    have hTL : ∀ s : Nat, (∀ x : Nat, x < 4096 → M2 61 x = 1 → ¬ x &&& s = 0) ↔ TLS (nv (m 54)) s := by
      intro s
      constructor
      · intro h a b q1 q2 q3
        rw [hFv] at q2 q3
        have hle := sub_le q2
        exact h _ (hul a b) ((h21 _ (hul a b)).2.mpr ⟨a, b, q1, by omega, q2, q3, rfl⟩)
      · intro h x hx h1
        obtain ⟨a, b, q1, q2, q3, q4, q5⟩ := (h21 x hx).2.mp h1
        rw [← q5]
        exact h a b q1 (by rw [hFv]; exact q3) (by rw [hFv]; exact q4)
    have h01b : ∀ x : Nat, x < 4096 → M2 61 x = 0 ∨ M2 61 x = 1 := fun x hx => (h21 x hx).1
    have hI2 : Inv M2 := Inv_kpC (fun a k hc => by unfold core at hc; rw [h22 a (by omega)]) w6
    refine u_225_47 ?_
    rw [am_s_id (z := (F : Int)) (by omega) (by omega), am_s_id (z := ((F + 1 : Nat) : Int)) (by omega) (by omega), h22 54 (by decide), w4]
    refine ⟨fun _ => ⟨w1, ?_⟩, fun q => by omega⟩
    unfold env
    generalize hBv : brl (nv (m 54)) = B at *
    have key := ok_for (d := 4) (mi := 225) (pc := 109) (Q := fun r m2 => r = [Sum.inl (fr ens (enq (nv (m 54))) (-1) (B + 1))] ∧ Inv m2) (σ := Unit) (fun s _ => [some (.inr (.inr (some 53))), some (.inl (F : Int)), some (.inl (fr ens (enq (nv (m 54))) (-1) s)), some (.inl (B : Int)), some (.inl (s : Int))]) (fun s _ M => M = M2) (B + 1) ?_ ?_ () M2 rfl
    · exact key
    · rintro s hs - M hM IH
      rw [hM]
      have hsub := bx_sub (z := (s : Int)) (b := B) (by omega)
      rw [am_s_id (z := (s : Int)) (by omega) (by omega), Int.toNat_natCast] at hsub
      have hx := ens_rng (Q := enq (nv (m 54))) s (by omega)
      have hcs := cnt_le s 12
      have hst := fr_s (st := ens) (Q := enq (nv (m 54))) (x := (-1 : Int)) (t := s)
      have hcx := cnt_le (fr ens (enq (nv (m 54))) (-1) s).toNat 12
      have IH0 := IH () M2 rfl
      generalize hxv : fr ens (enq (nv (m 54))) (-1) s = x at *
      have kp : fr ens (enq (nv (m 54))) (-1) (s + 1) = x → ok 4 225 109 [some (.inr (.inr (some 53))), some (.inl (F : Int)), some (.inl x), some (.inl (B : Int)), some (.inl ((s : Int) + 1))] [] M2 (fun r m2 => r = [Sum.inl (fr ens (enq (nv (m 54))) (-1) (B + 1))] ∧ Inv m2) := by
        intro e
        rw [e] at IH0
        exact IH0
      have nw : fr ens (enq (nv (m 54))) (-1) (s + 1) = (s : Int) → ok 4 225 109 [some (.inr (.inr (some 53))), some (.inl (F : Int)), some (.inl (s : Int)), some (.inl (B : Int)), some (.inl ((s : Int) + 1))] [] M2 (fun r m2 => r = [Sum.inl (fr ens (enq (nv (m 54))) (-1) (B + 1))] ∧ Inv m2) := by
        intro e
        rw [e] at IH0
        exact IH0
      have hnt : ¬ TLS (nv (m 54)) s → fr ens (enq (nv (m 54))) (-1) (s + 1) = x := fun h => by rw [hst, if_neg (fun k => h (enq_t.mp k).2)]
      have htk : sb B s → TLS (nv (m 54)) s → (x = -1 ∨ cnt s 12 < cnt x.toNat 12) → fr ens (enq (nv (m 54))) (-1) (s + 1) = (s : Int) := fun h1 h2 h3 => by
        rw [hst, if_pos (enq_t.mpr ⟨by rw [hBv]; exact h1, h2⟩)]
        unfold ens
        rw [if_pos h3]
      refine u_225_109 ?_
      rw [am_s_id (z := (B : Int)) (by omega) (by omega), am_s_id (z := (s : Int)) (by omega) (by omega), am_s_id (z := x) (by omega) (by omega), hsub, Int.toNat_natCast, am_s_id (z := ((cnt x.toNat 12 : Nat) : Int)) (by omega) (by omega), am_s_id (z := ((cnt s 12 : Nat) : Int)) (by omega) (by omega)]
      refine ⟨fun q => by omega, fun _ => ⟨fun q => kp ?_, fun q => ⟨fun q2 => ⟨⟨h01b, by omega, by omega⟩, fun v1 mx hv => ?_⟩, fun q2 => ⟨by omega, by omega, fun q3 => kp ?_, fun q3 => ⟨⟨h01b, by omega, by omega⟩, fun v1 mx hv => ?_⟩⟩⟩⟩⟩
      · rw [hst, if_neg (fun k => q ⟨by omega, by rw [← hBv]; exact (enq_t.mp k).1⟩)]
      · obtain ⟨⟨y1, y2⟩, y3⟩ := hv
        rw [hTL] at y2
        rw [y3]
        refine ⟨fun z => kp (hnt fun k => ?_), fun z => nw (htk q.2 (y2.mp ?_) (Or.inl q2))⟩
        · rw [y2.mpr k] at z
          exact absurd z (by decide)
        · rcases y1 with h | h
          · rw [h] at z; exact absurd rfl z
          · exact h
      · rw [hst]
        split
        · unfold ens
          rw [if_neg]
          rintro (h | h)
          · exact q2 h
          · omega
        · rfl
      · obtain ⟨⟨y1, y2⟩, y3⟩ := hv
        rw [hTL] at y2
        rw [y3]
        refine ⟨fun z => kp (hnt fun k => ?_), fun z => nw (htk q.2 (y2.mp ?_) (Or.inr (by omega)))⟩
        · rw [y2.mpr k] at z
          exact absurd z (by decide)
        · rcases y1 with h | h
          · rw [h] at z; exact absurd rfl z
          · exact h
    · rintro - M hM
      rw [hM]
      refine u_225_109 ?_
      rw [am_s_id (z := (B : Int)) (by omega) (by omega), am_s_id (z := ((B + 1 : Nat) : Int)) (by omega) (by omega)]
      exact ⟨fun _ => ⟨rfl, hI2⟩, fun q => by omega⟩
