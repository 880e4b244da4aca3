theorem mem_fr {Q : Nat → Bool} {t : Nat} : ∀ b, fr (fun (x : Bool) u => x || decide (u = t)) Q false b = (decide (t < b) && Q t) := by
  intro b
  induction b with
  | zero => rw [decide_eq_false (Nat.not_lt_zero _), Bool.false_and]; rfl
  | succ b ih =>
    rw [fr_s, ih]
    by_cases h : b = t
    · subst h
      rw [decide_eq_false (Nat.lt_irrefl _), Bool.false_and, Bool.false_or, decide_eq_true rfl, decide_eq_true (Nat.lt_succ_self _), Bool.true_and]
      cases Q b <;> rfl
    · have : (t < b + 1) = (t < b) := by
        apply propext
        omega
      simp only [this, decide_eq_false h, Bool.or_false, ite_self]
theorem bd_mem {Q : Nat → Bool} {F i t : Nat} (hF : F < 4096) (hQ : ∀ t, Q t = true → sb F t) (hi : i < 2 ^ cnt F 12) (h1 : t < bd F (i + 1)) (h2 : Q t = true) : t < bd F i ∨ t = en F i := by
  have h := fr_bd (st := fun (x : Bool) u => x || decide (u = t)) (x := false) hF hQ hi
  rw [mem_fr, mem_fr, decide_eq_true h1, h2, Bool.true_and, Bool.and_true] at h
  by_cases hq : Q (en F i) = true
  · rw [if_pos hq] at h
    have := h.symm
    rw [Bool.or_eq_true, decide_eq_true_eq, decide_eq_true_eq] at this
    exact this.imp id Eq.symm
  · rw [if_neg hq] at h
    have := h.symm
    rw [decide_eq_true_eq] at this
    exact Or.inl this
theorem u_111_81 {Q : List am_V → am_M → Prop} {m : am_M} {r : Nat} {n : Int} {a : Int} {g : Int} (h_r : r ∈ rowL) (H : ((am_s a < am_s g) → (0 ≤ am_s a ∧ am_s a < (1024 : Nat)) ∧ (∀ y1 : Int, y1 = (if am_s (m 40 ((am_s a).toNat)) < 99 then (m 40 ((am_s a).toNat)) else (-1)) → Q [.inl y1] m)) ∧ ((¬ (am_s a < am_s g)) → ((0 ≤ m 2 4 ∧ m 2 4 ≤ 12) ∧ (1 ≤ g ∧ g < 1024) ∧ (0 ≤ n ∧ n ≤ 10) ∧ (∀ p i : Nat, (p : Int) < m 2 4 → i < n.toNat → (0 ≤ m 39 (10 * p + i) ∧ m 39 (10 * p + i) < 1024) ∧ ((m 39 (10 * p + i)).toNat).testBit i = true) ∧ ∀ k : Nat, 1 ≤ k → k < g.toNat → 0 ≤ m 40 k ∧ m 40 k ≤ 99) ∧ (∀ (m1 : am_M), (m1 = m) → (0 ≤ am_s g ∧ am_s g < (1024 : Nat)) ∧ (ok 5 111 81 [some (.inr (.inr (some 34))), some (.inr (.inr (some r))), some (.inl n), none, some (.inl a), some (.inl (g + 1))] [] (mu m1 40 ((am_s g).toNat) (kst (m 40) g.toNat (fun p i => (m 39 (10 * p + i)).toNat) n.toNat (m 2 4).toNat)) Q)))) : ok 5 111 81 [some (.inr (.inr (some 34))), some (.inr (.inr (some r))), some (.inl n), none, some (.inl a), some (.inl g)] [] m Q := by
  refine ok_sg (pc' := 85) (ls' := [some (.inr (.inr (some 34))), some (.inr (.inr (some r))), some (.inl n), none, some (.inl a), some (.inl g)]) (st' := [.inl a, .inl g]) (m' := m) (fun fx hfx o hk => ?_) ?_
  · refine r_ld (pc' := 83) hM_111 d_111_81 rfl rfl ?_
    refine r_ld (pc' := 85) hM_111 d_111_83 rfl rfl ?_
    exact hk
  refine ok_ic (pc' := 108) (pc2 := 88) hM_111 d_111_85 (by decide) rfl (fun hz1 => ?_) (fun hz1 => ?_)
  · have H := H.1 hz1
    obtain ⟨hz2, H⟩ := H
    refine ok_sg (pc' := 117) (ls' := [some (.inr (.inr (some 34))), some (.inr (.inr (some r))), some (.inl n), none, some (.inl a), some (.inl g)]) (st' := [.inl 99, .inl (m 40 ((am_s a).toNat))]) (m' := m) (fun fx hfx o hk => ?_) ?_
    · refine r_ld (pc' := 109) hM_111 d_111_108 rfl rfl ?_
      refine r_gR (pc' := 112) (v := 40) hM_111 d_111_109 rfl (by decide +kernel) ?_
      refine r_ld (pc' := 114) hM_111 d_111_112 rfl rfl ?_
      refine r_ia (pc' := 115) (n := 1024) hM_111 d_111_114 rfl rfl hz2 ?_
      refine r_k (pc' := 117) (v := .inl 99) hM_111 d_111_115 rfl rfl ?_
      exact hk
    refine ok_sg (pc' := 131) (ls' := [some (.inr (.inr (some 34))), some (.inr (.inr (some r))), some (.inl n), none, some (.inl a), some (.inl g)]) (st' := [.inl (if am_s (m 40 ((am_s a).toNat)) < 99 then (m 40 ((am_s a).toNat)) else (-1))]) (m' := m) (fun fx hfx o K => ?_) ?_
    · refine r_ic (pc' := 124) (pc2 := 120) hM_111 d_111_117 (by decide) rfl (fun hz3 => ?_) (fun hz3 => ?_)
      · have hz3 : am_s (m 40 ((am_s a).toNat)) < 99 := hz3
        rw [if_pos hz3] at K
        refine r_ld (pc' := 125) hM_111 d_111_124 rfl rfl ?_
        refine r_gR (pc' := 128) (v := 40) hM_111 d_111_125 rfl (by decide +kernel) ?_
        refine r_ld (pc' := 130) hM_111 d_111_128 rfl rfl ?_
        refine r_ia (pc' := 131) (n := 1024) hM_111 d_111_130 rfl rfl hz2 ?_
        exact K
      · have hz3 : ¬ (am_s (m 40 ((am_s a).toNat)) < 99) := hz3
        rw [if_neg hz3] at K
        refine r_k (pc' := 121) (v := .inl (-1)) hM_111 d_111_120 rfl rfl ?_
        refine r_go (pc' := 131) hM_111 d_111_121 (by decide) ?_
        exact K
    have K : ∀ y1 : Int, y1 = (if am_s (m 40 ((am_s a).toNat)) < 99 then (m 40 ((am_s a).toNat)) else (-1)) → ok 5 111 131 [some (.inr (.inr (some 34))), some (.inr (.inr (some r))), some (.inl n), none, some (.inl a), some (.inl g)] [.inl y1] m Q := by
      intro y1 hy1
      replace H := H y1 hy1
      exact ok_rt (fun fx _ => rt_i hM_111 d_111_131 rfl) H
    exact K _ rfl
  · have H := H.2 hz1
    obtain ⟨hz4, H⟩ := H
    refine ok_sg (pc' := 98) (ls' := [some (.inr (.inr (some 34))), some (.inr (.inr (some r))), some (.inl n), none, some (.inl a), some (.inl g)]) (st' := [.inl n, .inl g, .inr (.inr (some 34)), .inl g, .inr (.inr (some 40))]) (m' := m) (fun fx hfx o hk => ?_) ?_
    · refine r_ld (pc' := 89) hM_111 d_111_88 rfl rfl ?_
      refine r_gR (pc' := 92) (v := 40) hM_111 d_111_89 rfl (by decide +kernel) ?_
      refine r_ld (pc' := 94) hM_111 d_111_92 rfl rfl ?_
      refine r_ld (pc' := 95) hM_111 d_111_94 rfl rfl ?_
      refine r_ld (pc' := 97) hM_111 d_111_95 rfl rfl ?_
      refine r_ld (pc' := 98) hM_111 d_111_97 rfl rfl ?_
      exact hk
    refine ok_cl (pc' := 101) (c := (113, 0)) (a := [.inr (.inr (some 34)), .inl g, .inl n]) (q := [.inl g, .inr (.inr (some 40))]) hM_111 d_111_98 rfl (by decide +kernel) hM_113 rfl rfl rfl (Nat.le_of_ble_eq_true rfl) (Nat.le_of_ble_eq_true rfl) (Or.inr rfl) (z_113  m g n hz4) (Nat.le_of_ble_eq_true rfl) ?_
    rintro _ m1 ⟨rfl, hz5⟩
    replace H := H  m1 hz5
    show ok 5 111 101 [some (.inr (.inr (some 34))), some (.inr (.inr (some r))), some (.inl n), none, some (.inl a), some (.inl g)] [.inl (kst (m 40) g.toNat (fun p i => (m 39 (10 * p + i)).toNat) n.toNat (m 2 4).toNat), .inl g, .inr (.inr (some 40))] m1 Q
    obtain ⟨hz6, H⟩ := H
    refine ok_sg (pc' := 81) (ls' := [some (.inr (.inr (some 34))), some (.inr (.inr (some r))), some (.inl n), none, some (.inl a), some (.inl (g + 1))]) (st' := []) (m' := mu m1 40 ((am_s g).toNat) (kst (m 40) g.toNat (fun p i => (m 39 (10 * p + i)).toNat) n.toNat (m 2 4).toNat)) (fun fx hfx o hk => ?_) ?_
    · refine r_is (pc' := 102) (n := 1024) hM_111 d_111_101 rfl rfl hz6 ?_
      refine r_sto (pc' := 105) (ls' := [some (.inr (.inr (some 34))), some (.inr (.inr (some r))), some (.inl n), none, some (.inl a), some (.inl (g + 1))]) hM_111 d_111_102 rfl rfl ?_
      refine r_go (pc' := 81) hM_111 d_111_105 (by decide) ?_
      exact hk
    exact H
theorem u_111_12 {Q : List am_V → am_M → Prop} {m : am_M} {r : Nat} {n : Int} {s : Int} {i : Int} (h_r : r ∈ rowL) (H : ((am_s (m 34 10) ≤ am_s i) → ((¬ am_s n = 0) → ((0 ≤ m 2 4 ∧ m 2 4 ≤ 12) ∧ (0 ≤ n ∧ n ≤ 10) ∧ (∀ j : Nat, (j : Int) < n → 0 ≤ m 38 j ∧ m 38 j < 4096) ∧ ∀ p t : Nat, (p : Int) < m 2 4 → t < 8 → am_s (m 35 (8 * p + t)) = m 35 (8 * p + t)) ∧ (∀ (m1 : am_M), ((∀ p i : Nat, (p : Int) < m 2 4 → (i : Int) < n → m1 39 (10 * p + i) = ((msk (fun j => m 35 (8 * p + tri (m 38 j).toNat p)) (m 35 (8 * p + tri (m 38 i).toNat p)) n.toNat : Nat) : Int)) ∧ ∀ a, a ≠ 39 → m1 a = m a) → ok 5 111 81 [some (.inr (.inr (some 34))), some (.inr (.inr (some r))), some (.inl n), none, some (.inl ((am_shl 1 n) - 1)), some (.inl 1)] [] m1 Q)) ∧ ((am_s n = 0) → Q [.inl (-1)] m)) ∧ ((¬ (am_s (m 34 10) ≤ am_s i)) → (ALW m ∧ 0 ≤ s ∧ s < 4096) ∧ (∀ (m2 : am_M), (m2 = m) → ((¬ (alb m s.toNat (m 2 4).toNat = true)) → ok 5 111 12 [some (.inr (.inr (some 34))), some (.inr (.inr (some r))), some (.inl n), some (.inl (v_88 m2 s)), some (.inl (i + 1)), none] [] m2 Q) ∧ ((alb m s.toNat (m 2 4).toNat = true) → ((am_s n < 10) → (0 ≤ am_s n ∧ am_s n < (10 : Nat)) ∧ (ok 5 111 12 [some (.inr (.inr (some 34))), some (.inr (.inr (some r))), some (.inl (n + 1)), some (.inl (v_88 (mu m2 38 ((am_s n).toNat) s) s)), some (.inl (i + 1)), none] [] (mu m2 38 ((am_s n).toNat) s) Q)) ∧ ((¬ (am_s n < 10)) → Q [.inl (-4)] m2))))) : ok 5 111 12 [some (.inr (.inr (some 34))), some (.inr (.inr (some r))), some (.inl n), some (.inl s), some (.inl i), none] [] m Q := by
  refine ok_sg (pc' := 18) (ls' := [some (.inr (.inr (some 34))), some (.inr (.inr (some r))), some (.inl n), some (.inl s), some (.inl i), none]) (st' := [.inl (m 34 10), .inl i]) (m' := m) (fun fx hfx o hk => ?_) ?_
  · refine r_ld (pc' := 14) hM_111 d_111_12 rfl rfl ?_
    refine r_ld (pc' := 15) hM_111 d_111_14 rfl rfl ?_
    refine r_gI (pc' := 18) (k0 := 10) hM_111 d_111_15 rfl (by decide +kernel) ?_
    exact hk
  refine ok_ic (pc' := 60) (pc2 := 21) hM_111 d_111_18 (by decide) rfl (fun hz1 => ?_) (fun hz1 => ?_)
  · have H := H.1 hz1
    refine ok_sg (pc' := 61) (ls' := [some (.inr (.inr (some 34))), some (.inr (.inr (some r))), some (.inl n), some (.inl s), some (.inl i), none]) (st' := [.inl n]) (m' := m) (fun fx hfx o hk => ?_) ?_
    · refine r_ld (pc' := 61) hM_111 d_111_60 rfl rfl ?_
      exact hk
    refine ok_if (pc' := 66) (pc2 := 64) hM_111 d_111_61 (by decide) rfl (fun hz2 => ?_) (fun hz2 => ?_)
    · have H := H.1 hz2
      obtain ⟨hz3, H⟩ := H
      refine ok_sg (pc' := 68) (ls' := [some (.inr (.inr (some 34))), some (.inr (.inr (some r))), some (.inl n), some (.inl s), some (.inl i), none]) (st' := [.inl n, .inr (.inr (some 34))]) (m' := m) (fun fx hfx o hk => ?_) ?_
      · refine r_ld (pc' := 67) hM_111 d_111_66 rfl rfl ?_
        refine r_ld (pc' := 68) hM_111 d_111_67 rfl rfl ?_
        exact hk
      refine ok_cl (pc' := 71) (c := (112, 0)) (a := [.inr (.inr (some 34)), .inl n]) (q := []) hM_111 d_111_68 rfl (by decide +kernel) hM_112 rfl rfl rfl (Nat.le_of_ble_eq_true rfl) (Nat.le_of_ble_eq_true rfl) (Or.inr rfl) (z_112  m n hz3) (Nat.le_of_ble_eq_true rfl) ?_
      rintro _ m1 ⟨rfl, hz4⟩
      replace H := H  m1 hz4
      show ok 5 111 71 [some (.inr (.inr (some 34))), some (.inr (.inr (some r))), some (.inl n), some (.inl s), some (.inl i), none] [] m1 Q
      refine ok_sg (pc' := 81) (ls' := [some (.inr (.inr (some 34))), some (.inr (.inr (some r))), some (.inl n), none, some (.inl ((am_shl 1 n) - 1)), some (.inl 1)]) (st' := []) (m' := m1) (fun fx hfx o hk => ?_) ?_
      · refine r_k (pc' := 72) (v := .inl 1) hM_111 d_111_71 rfl rfl ?_
        refine r_ld (pc' := 73) hM_111 d_111_72 rfl rfl ?_
        refine r_b (pc' := 74) (z := (am_shl 1 n)) hM_111 d_111_73 rfl rfl ?_
        refine r_k (pc' := 75) (v := .inl 1) hM_111 d_111_74 rfl rfl ?_
        refine r_b (pc' := 76) (z := ((am_shl 1 n) - 1)) hM_111 d_111_75 rfl rfl ?_
        refine r_sto (pc' := 78) (ls' := [some (.inr (.inr (some 34))), some (.inr (.inr (some r))), some (.inl n), some (.inl s), some (.inl ((am_shl 1 n) - 1)), none]) hM_111 d_111_76 rfl rfl ?_
        refine r_k (pc' := 79) (v := .inl 1) hM_111 d_111_78 rfl rfl ?_
        refine r_sto (pc' := 81) (ls' := [some (.inr (.inr (some 34))), some (.inr (.inr (some r))), some (.inl n), some (.inl s), some (.inl ((am_shl 1 n) - 1)), some (.inl 1)]) hM_111 d_111_79 rfl rfl ?_
        refine rn_wk (a := [some (.inr (.inr (some 34))), some (.inr (.inr (some r))), some (.inl n), none, some (.inl ((am_shl 1 n) - 1)), some (.inl 1)]) (by simp only [am_le, and_self]) ?_
        exact hk
      exact H
    · have H := H.2 (Decidable.not_not.mp hz2)
      refine ok_sg (pc' := 65) (ls' := [some (.inr (.inr (some 34))), some (.inr (.inr (some r))), some (.inl n), some (.inl s), some (.inl i), none]) (st' := [.inl (-1)]) (m' := m) (fun fx hfx o hk => ?_) ?_
      · refine r_k (pc' := 65) (v := .inl (-1)) hM_111 d_111_64 rfl rfl ?_
        exact hk
      exact ok_rt (fun fx _ => rt_i hM_111 d_111_65 rfl) H
  · have H := H.2 hz1
    obtain ⟨hz5, H⟩ := H
    refine ok_sg (pc' := 23) (ls' := [some (.inr (.inr (some 34))), some (.inr (.inr (some r))), some (.inl n), some (.inl s), some (.inl i), none]) (st' := [.inl s, .inr (.inr (some 34))]) (m' := m) (fun fx hfx o hk => ?_) ?_
    · refine r_ld (pc' := 22) hM_111 d_111_21 rfl rfl ?_
      refine r_ld (pc' := 23) hM_111 d_111_22 rfl rfl ?_
      exact hk
    refine ok_cl (pc' := 26) (c := (86, 0)) (a := [.inr (.inr (some 34)), .inl s]) (q := []) hM_111 d_111_23 rfl (by decide +kernel) hM_86 rfl rfl rfl (Nat.le_of_ble_eq_true rfl) (Nat.le_of_ble_eq_true rfl) (Or.inr rfl) (z_86  m s hz5) (Nat.le_of_ble_eq_true rfl) ?_
    rintro _ m2 ⟨rfl, hz6⟩
    replace H := H  m2 hz6
    show ok 5 111 26 [some (.inr (.inr (some 34))), some (.inr (.inr (some r))), some (.inl n), some (.inl s), some (.inl i), none] [.inl (if alb m s.toNat (m 2 4).toNat = true then 1 else 0)] m2 Q
    refine ok_if (pc' := 48) (pc2 := 29) hM_111 d_111_26 (by decide) rfl (fun hz7 => ?_) (fun hz7 => ?_)
    · have H := H.1 (as_ite.mp hz7)
      refine ok_sg (pc' := 12) (ls' := [some (.inr (.inr (some 34))), some (.inr (.inr (some r))), some (.inl n), some (.inl (v_88 m2 s)), some (.inl (i + 1)), none]) (st' := []) (m' := m2) (fun fx hfx o hk => ?_) ?_
      · refine r_ld (pc' := 49) hM_111 d_111_48 rfl rfl ?_
        refine r_ld (pc' := 50) hM_111 d_111_49 rfl rfl ?_
        refine r_cl (pc' := 53) (c := (88, 0)) (a := [.inr (.inr (some 34)), .inl s]) (q := []) hM_111 d_111_50 rfl (by decide +kernel) hM_88 rfl rfl rfl (Nat.le_of_ble_eq_true rfl) (Nat.le_of_ble_eq_true rfl) (Or.inr rfl) (c_88  m2 s) (Nat.le_of_ble_eq_true rfl) ?_
        show rn fx 5 (0, 0) 111 53 [some (.inr (.inr (some 34))), some (.inr (.inr (some r))), some (.inl n), some (.inl s), some (.inl i), none] [.inl (v_88 m2 s)] (st0 m2) o
        refine r_sto (pc' := 54) (ls' := [some (.inr (.inr (some 34))), some (.inr (.inr (some r))), some (.inl n), some (.inl (v_88 m2 s)), some (.inl i), none]) hM_111 d_111_53 rfl rfl ?_
        refine r_sto (pc' := 57) (ls' := [some (.inr (.inr (some 34))), some (.inr (.inr (some r))), some (.inl n), some (.inl (v_88 m2 s)), some (.inl (i + 1)), none]) hM_111 d_111_54 rfl rfl ?_
        refine r_go (pc' := 12) hM_111 d_111_57 (by decide) ?_
        exact hk
      exact H
    · have H := H.2 (as_iteN.mp hz7)
      refine ok_sg (pc' := 32) (ls' := [some (.inr (.inr (some 34))), some (.inr (.inr (some r))), some (.inl n), some (.inl s), some (.inl i), none]) (st' := [.inl 10, .inl n]) (m' := m2) (fun fx hfx o hk => ?_) ?_
      · refine r_ld (pc' := 30) hM_111 d_111_29 rfl rfl ?_
        refine r_k (pc' := 32) (v := .inl 10) hM_111 d_111_30 rfl rfl ?_
        exact hk
      refine ok_ic (pc' := 38) (pc2 := 35) hM_111 d_111_32 (by decide) rfl (fun hz8 => ?_) (fun hz8 => ?_)
      · have H := H.1 hz8
        obtain ⟨hz9, H⟩ := H
        refine ok_sg (pc' := 12) (ls' := [some (.inr (.inr (some 34))), some (.inr (.inr (some r))), some (.inl (n + 1)), some (.inl (v_88 (mu m2 38 ((am_s n).toNat) s) s)), some (.inl (i + 1)), none]) (st' := []) (m' := mu m2 38 ((am_s n).toNat) s) (fun fx hfx o hk => ?_) ?_
        · refine r_ld (pc' := 39) hM_111 d_111_38 rfl rfl ?_
          refine r_gR (pc' := 42) (v := 38) hM_111 d_111_39 rfl (by decide +kernel) ?_
          refine r_ld (pc' := 43) hM_111 d_111_42 rfl rfl ?_
          refine r_ld (pc' := 44) hM_111 d_111_43 rfl rfl ?_
          refine r_is (pc' := 45) (n := 10) hM_111 d_111_44 rfl rfl hz9 ?_
          refine r_sto (pc' := 48) (ls' := [some (.inr (.inr (some 34))), some (.inr (.inr (some r))), some (.inl (n + 1)), some (.inl s), some (.inl i), none]) hM_111 d_111_45 rfl rfl ?_
          refine r_ld (pc' := 49) hM_111 d_111_48 rfl rfl ?_
          refine r_ld (pc' := 50) hM_111 d_111_49 rfl rfl ?_
          refine r_cl (pc' := 53) (c := (88, 0)) (a := [.inr (.inr (some 34)), .inl s]) (q := []) hM_111 d_111_50 rfl (by decide +kernel) hM_88 rfl rfl rfl (Nat.le_of_ble_eq_true rfl) (Nat.le_of_ble_eq_true rfl) (Or.inr rfl) (c_88  (mu m2 38 ((am_s n).toNat) s) s) (Nat.le_of_ble_eq_true rfl) ?_
          show rn fx 5 (0, 0) 111 53 [some (.inr (.inr (some 34))), some (.inr (.inr (some r))), some (.inl (n + 1)), some (.inl s), some (.inl i), none] [.inl (v_88 (mu m2 38 ((am_s n).toNat) s) s)] (st0 (mu m2 38 ((am_s n).toNat) s)) o
          refine r_sto (pc' := 54) (ls' := [some (.inr (.inr (some 34))), some (.inr (.inr (some r))), some (.inl (n + 1)), some (.inl (v_88 (mu m2 38 ((am_s n).toNat) s) s)), some (.inl i), none]) hM_111 d_111_53 rfl rfl ?_
          refine r_sto (pc' := 57) (ls' := [some (.inr (.inr (some 34))), some (.inr (.inr (some r))), some (.inl (n + 1)), some (.inl (v_88 (mu m2 38 ((am_s n).toNat) s) s)), some (.inl (i + 1)), none]) hM_111 d_111_54 rfl rfl ?_
          refine r_go (pc' := 12) hM_111 d_111_57 (by decide) ?_
          exact hk
        exact H
      · have H := H.2 hz8
        refine ok_sg (pc' := 37) (ls' := [some (.inr (.inr (some 34))), some (.inr (.inr (some r))), some (.inl n), some (.inl s), some (.inl i), none]) (st' := [.inl (-4)]) (m' := m2) (fun fx hfx o hk => ?_) ?_
        · refine r_k (pc' := 37) (v := .inl (-4)) hM_111 d_111_35 rfl rfl ?_
          exact hk
        exact ok_rt (fun fx _ => rt_i hM_111 d_111_37 rfl) H
theorem u_111_0 {Q : List am_V → am_M → Prop} {m : am_M} {r : Nat} (h_r : r ∈ rowL) (H : (WFG (vw m 2) ∧ RWC m r) ∧ (∀ (m1 : am_M), (HEA m r m1) → ok 5 111 12 [some (.inr (.inr (some 34))), some (.inr (.inr (some r))), some (.inl 0), some (.inl 0), some (.inl 0), none] [] m1 Q)) : ok 5 111 0 [some (.inr (.inr (some 34))), some (.inr (.inr (some r))), none, none, none, none] [] m Q := by
  obtain ⟨hz1, H⟩ := H
  refine ok_sg (pc' := 2) (ls' := [some (.inr (.inr (some 34))), some (.inr (.inr (some r))), none, none, none, none]) (st' := [.inr (.inr (some r)), .inr (.inr (some 34))]) (m' := m) (fun fx hfx o hk => ?_) ?_
  · refine r_ld (pc' := 1) hM_111 d_111_0 rfl rfl ?_
    refine r_ld (pc' := 2) hM_111 d_111_1 rfl rfl ?_
    exact hk
  refine ok_cl (pc' := 5) (c := (82, 0)) (a := [.inr (.inr (some 34)), .inr (.inr (some r))]) (q := []) hM_111 d_111_2 rfl (by decide +kernel) hM_82 rfl rfl rfl (Nat.le_of_ble_eq_true rfl) (Nat.le_of_ble_eq_true rfl) (Or.inr rfl) (z_82 h_r m  hz1) (Nat.le_of_ble_eq_true rfl) ?_
  rintro _ m1 ⟨rfl, hz2⟩
  replace H := H  m1 hz2
  show ok 5 111 5 [some (.inr (.inr (some 34))), some (.inr (.inr (some r))), none, none, none, none] [] m1 Q
  refine ok_sg (pc' := 12) (ls' := [some (.inr (.inr (some 34))), some (.inr (.inr (some r))), some (.inl 0), some (.inl 0), some (.inl 0), none]) (st' := []) (m' := m1) (fun fx hfx o hk => ?_) ?_
  · refine r_k (pc' := 6) (v := .inl 0) hM_111 d_111_5 rfl rfl ?_
    refine r_sto (pc' := 7) (ls' := [some (.inr (.inr (some 34))), some (.inr (.inr (some r))), some (.inl 0), none, none, none]) hM_111 d_111_6 rfl rfl ?_
    refine r_k (pc' := 8) (v := .inl 0) hM_111 d_111_7 rfl rfl ?_
    refine r_sto (pc' := 9) (ls' := [some (.inr (.inr (some 34))), some (.inr (.inr (some r))), some (.inl 0), some (.inl 0), none, none]) hM_111 d_111_8 rfl rfl ?_
    refine r_k (pc' := 10) (v := .inl 0) hM_111 d_111_9 rfl rfl ?_
    refine r_sto (pc' := 12) (ls' := [some (.inr (.inr (some 34))), some (.inr (.inr (some r))), some (.inl 0), some (.inl 0), some (.inl 0), none]) hM_111 d_111_10 rfl rfl ?_
    exact hk
  exact H
theorem z_111 {r : Nat} (h_r : r ∈ rowL) (m : am_M)  (hq : WFG (vw m 2) ∧ RWC m r) : ok 5 111 0 (am_ent 6 [.inr (.inr (some 34)), .inr (.inr (some r))]) [] m (fun rr m' => rr = [.inl ((ndv (nv (vw m 2)) (fun x => rat m r (x : Int))))] ∧ kpC m m') := by
  show ok 5 111 0 [some (.inr (.inr (some 34))), some (.inr (.inr (some r))), none, none, none, none] [] m _
  obtain ⟨hw, hR⟩ := hq
  have hN := vwN hw
  have hwn := WFG_nv hw
  have hFl := may_lt (g := nv (vw m 2)) hwn.1.2
  have eg0 : nv (vw m 2) 0 = m 2 4 := by rw [nv0, vw_0]
  refine u_111_0 h_r ⟨⟨hw, hR⟩, fun m1 h1 => ?_⟩
  have hA := HEA_ALW hw h1
  have eQ := HEA_alq hw h1
  obtain ⟨l1, l2, l3, l4, l5⟩ := id h1
  have hcp := cp_lt (F := may (nv (vw m 2)))
  have e10 : am_s (m1 34 10) = ((2 ^ cnt (may (nv (vw m 2))) 12 : Nat) : Int) := by rw [l2]; exact cp_s
  have f4 : m1 2 4 = m 2 4 := l5 2 4 (by omega) (by omega) (by omega)
  have hsb : ∀ t, ftq (nv (vw m 2)) (fun x => rat m r (x : Int)) t = true → sb (may (nv (vw m 2))) t := fun t h => ftq_sb h
  have endv : ndv (nv (vw m 2)) (fun x => rat m r (x : Int)) = if cf (ftq (nv (vw m 2)) (fun x => rat m r (x : Int))) (may (nv (vw m 2)) + 1) = 0 then -1 else if 10 < cf (ftq (nv (vw m 2)) (fun x => rat m r (x : Int))) (may (nv (vw m 2)) + 1) then -4 else ndk (Lf (nv (vw m 2)) (nthf (ftq (nv (vw m 2)) (fun x => rat m r (x : Int))) (may (nv (vw m 2)) + 1)) (cf (ftq (nv (vw m 2)) (fun x => rat m r (x : Int))) (may (nv (vw m 2)) + 1))) (cf (ftq (nv (vw m 2)) (fun x => rat m r (x : Int))) (may (nv (vw m 2)) + 1)) (m 2 4).toNat := by
    unfold ndv
    rw [eg0]
  rw [endv]
  have hal : ∀ i, i < 2 ^ cnt (may (nv (vw m 2))) 12 → alb m1 (en (may (nv (vw m 2))) i) (m 2 4).toNat = ftq (nv (vw m 2)) (fun x => rat m r (x : Int)) (en (may (nv (vw m 2))) i) := by
    intro i hi
    have hFm : (m1 34 9).toNat = may (nv (vw m 2)) := by rw [l1, Int.toNat_natCast]
    have := alq_en (m := m1) (i := i) (by rw [hFm]; exact hFl) (by rw [hFm]; exact hi)
    rw [hFm, eQ, f4] at this
    exact this.symm
  have hK1 := HEA_kpC h1
  generalize hQv : ftq (nv (vw m 2)) (fun x => rat m r (x : Int)) = Q at *
  generalize hFv : may (nv (vw m 2)) = F at *
  refine ok_for (σ := Unit) (fun i _ => [some (.inr (.inr (some 34))), some (.inr (.inr (some r))), some (.inl ((wc Q F i : Nat) : Int)), some (.inl ((en F i : Nat) : Int)), some (.inl (i : Int)), none]) (fun i _ M => wc Q F i ≤ 10 ∧ (∀ t, t < bd F i → Q t = true → M 38 (cf Q t) = (t : Int)) ∧ ∀ a, a ≠ 38 → M a = m1 a) (2 ^ cnt F 12) ?_ ?_ () m1 ⟨Nat.zero_le _, fun t h => absurd h (by rw [bd_0]; exact Nat.not_lt_zero _), fun _ _ => rfl⟩
  · rintro i hi - M ⟨h2, h3, h4⟩ IH
    have hl := en_lt hFl hi
    have hcw := wc_cf hFl hsb hi
    have hs := wc_s (Q := Q) (F := F) (i := i)
    have hAM : ALW M := ALW_fr (fun a ha => h4 a (by omega)) hA
    have halM : alb M (en F i) (m 2 4).toNat = Q (en F i) := by rw [alb_fr (fun a ha => h4 a (by omega)), hal i hi]
    refine u_111_12 h_r ?_
    rw [h4 34 (by decide), e10, am_s_id (z := (i : Int)) (by omega) (by omega), am_s_id (z := ((wc Q F i : Nat) : Int)) (by omega) (by omega), Int.toNat_natCast, Int.toNat_natCast, h4 2 (by decide), f4, halM]
    refine ⟨fun q => by omega, fun _ => ⟨⟨hAM, by omega, by omega⟩, ?_⟩⟩
    intro mx hmx
    obtain rfl := hmx.symm
    refine ⟨fun q => ?_, fun q => ⟨fun q2 => ⟨by omega, ?_⟩, fun q2 => ⟨?_, kpC_trans hK1 (fun a k hc => by unfold core at hc; rw [h4 a (by omega)])⟩⟩⟩
    · rw [if_neg q] at hs
      have := IH () M ⟨by rw [hs]; exact h2, fun t ht hq => ?_, h4⟩
      · rw [hs] at this
        rw [v88 (by rw [h4 34 (by decide)]; exact l1) hFl]
        exact this
      · rcases bd_mem hFl hsb hi ht hq with h | h
        · exact h3 t h hq
        · rw [h] at hq; exact absurd hq q
    · rw [if_pos q] at hs
      have := IH () (mu M 38 (wc Q F i) ((en F i : Nat) : Int)) ⟨by rw [hs]; omega, fun t ht hq => ?_, fun a ha => by rw [mu_rf ha]; exact h4 a ha⟩
      · rw [hs] at this
        rw [v88 (by rw [mu_r (by decide), h4 34 (by decide)]; exact l1) hFl]
        exact this
      · rw [mu_if, hcw]
        rcases bd_mem hFl hsb hi ht hq with h | h
        · have hb : bd F i = en F i := by unfold bd; rw [if_pos hi]
          have := cf_lt (Q := Q) (show t < en F i by omega) hq
          rw [if_neg (by omega)]
          exact h3 t h hq
        · rw [if_pos (by rw [h]), h]
    · have hle := sub_le (en_ok hFl i hi).1
      have := cf_lt (Q := Q) (show en F i < F + 1 by omega) q
      rw [if_neg (by omega), if_pos (by omega)]
  · rintro - M ⟨h2, h3, h4⟩
    rw [wc_all hFl hsb] at h2 ⊢
    rw [bd_end] at h3
    have hKM : kpC m M := kpC_trans hK1 (fun a k hc => by unfold core at hc; rw [h4 a (by omega)])
    have hfk := fits_k (F := F) (fun t ht hq => h3 t (by omega) hq)
    have hnf : ∀ j, j < cf Q (F + 1) → (M 38 j).toNat = nthf Q (F + 1) j := by
      intro j hj
      obtain ⟨x1, x2, x3, x4⟩ := hfk j hj
      exact (nthf_eq (by omega) x3 x4).symm
    have hTn : ∀ p t : Nat, (p : Int) < m 2 4 → t < 8 → M 35 (8 * p + t) = tnt (nv (vw m 2)) p t := fun p t hp ht => by rw [h4 35 (by decide)]; exact l3 p t (by omega) ht
    refine u_111_12 h_r ?_
    rw [h4 34 (by decide), e10, cp_s, am_s_id (z := ((cf Q (F + 1) : Nat) : Int)) (by omega) (by omega), h4 2 (by decide), f4]
    refine ⟨fun _ => ⟨fun q => ⟨⟨hN, by omega, fun j hj => ?_, fun p t hp ht => ?_⟩, fun m3 hm3 => ?_⟩, fun q => ⟨?_, hKM⟩⟩, fun q => by omega⟩
    · obtain ⟨x1, x2, x3, x4⟩ := hfk j (by omega)
      omega
    · rw [hTn p t hp ht]
      exact tnt_s hwn (by omega)
    · rw [if_neg (by omega), if_neg (by omega)]
      obtain ⟨t1, t2⟩ := hm3
      generalize hnv : cf Q (F + 1) = n at *
      generalize hfv : nthf Q (F + 1) = f at *
      rw [Int.toNat_natCast] at t1
      have hpn : 2 ^ n ≤ 2 ^ 10 := Nat.pow_le_pow_right (by decide) h2
      have hpp := Nat.two_pow_pos n
      have eL : ∀ p i : Nat, (p : Int) < m 2 4 → i < n → m3 39 (10 * p + i) = ((Lf (nv (vw m 2)) f n p i : Nat) : Int) := by
        intro p i hp hi
        rw [t1 p i hp (by omega)]
        congr 1
        unfold Lf
        rw [hTn p _ hp (tri_lt _ _), hnf i hi]
        exact msk_congr n fun j hj => by rw [hTn p _ hp (tri_lt _ _), hnf j hj]
      have hLb : ∀ p i, p < (m 2 4).toNat → i < n → (Lf (nv (vw m 2)) f n p i).testBit i = true := fun p i _ hi => Lf_bit hi
      have hLl : ∀ p i, Lf (nv (vw m 2)) f n p i < 1024 := fun p i => Nat.lt_of_lt_of_le (msk_lt _ _ n) hpn
      have hrg := ktb_rng (L := Lf (nv (vw m 2)) f n) (n := n) (N := (m 2 4).toNat) hLb
      rw [bx_shl1 n (by omega), show ((2 ^ n : Nat) : Int) - 1 = ((2 ^ n - 1 : Nat) : Int) by omega]
      generalize hAv : 2 ^ n - 1 = A at *
      have key := ok_for (d := 5) (mi := 111) (pc := 81) (Q := fun rr m' => rr = [.inl (ndk (Lf (nv (vw m 2)) f n) n (m 2 4).toNat)] ∧ kpC m m') (σ := Unit) (fun k _ => [some (.inr (.inr (some 34))), some (.inr (.inr (some r))), some (.inl (n : Int)), none, some (.inl (A : Int)), some (.inl ((k + 1 : Nat) : Int))]) (fun k _ M' => (∀ x, 1 ≤ x → x ≤ k → M' 40 x = ktb (Lf (nv (vw m 2)) f n) n (m 2 4).toNat k x) ∧ ∀ a, a ≠ 40 → M' a = m3 a) A ?_ ?_ () m3 ⟨fun x q1 q2 => by omega, fun _ _ => rfl⟩
      · exact key
      · rintro k hk - M' ⟨k1, k2⟩ IH
        have f39 : ∀ p i : Nat, (p : Int) < m 2 4 → i < n → M' 39 (10 * p + i) = ((Lf (nv (vw m 2)) f n p i : Nat) : Int) := fun p i hp hi => by rw [k2 39 (by decide)]; exact eL p i hp hi
        have f2 : M' 2 4 = m 2 4 := by rw [k2 2 (by decide), t2 2 (by decide), h4 2 (by decide), f4]
        refine u_111_81 h_r ?_
        rw [am_s_id (z := (A : Int)) (by omega) (by omega), am_s_id (z := ((k + 1 : Nat) : Int)) (by omega) (by omega), f2, Int.toNat_natCast, Int.toNat_natCast]
        refine ⟨fun q => by omega, fun _ => ⟨⟨hN, by omega, by omega, fun p i hp hi => ?_, fun x q1 q2 => ?_⟩, ?_⟩⟩
        · rw [f39 p i hp hi, Int.toNat_natCast]
          have := hLl p i
          exact ⟨by omega, Lf_bit hi⟩
        · rw [k1 x q1 (by omega)]
          exact hrg k x
        · intro mx hmx
          obtain rfl := hmx.symm
          simp only [Int.toNat_natCast]
          have ek : kst (M' 40) (k + 1) (fun p i => (M' 39 (10 * p + i)).toNat) n (m 2 4).toNat = kst (ktb (Lf (nv (vw m 2)) f n) n (m 2 4).toNat k) (k + 1) (Lf (nv (vw m 2)) f n) n (m 2 4).toNat := by
            refine kst_congr (fun x q1 q2 => k1 x q1 (by omega)) fun p i hp hi => ?_
            show ((M' 39 (10 * p + i)).toNat).testBit i = true ∧ (M' 39 (10 * p + i)).toNat = Lf (nv (vw m 2)) f n p i
            rw [f39 p i (by omega) hi, Int.toNat_natCast]
            exact ⟨Lf_bit hi, rfl⟩
          rw [ek]
          refine ⟨by omega, IH () _ ⟨fun x q1 q2 => ?_, fun a ha => by rw [mu_rf ha]; exact k2 a ha⟩⟩
          rw [mu_if, ktb_s]
          by_cases hx : x = k + 1
          · rw [if_pos hx, if_pos hx]
          · rw [if_neg hx, if_neg hx]
            exact k1 x q1 (by omega)
      · rintro - M' ⟨k1, k2⟩
        have hA1 : 1 ≤ A := by
          have : 2 ^ 1 ≤ 2 ^ n := Nat.pow_le_pow_right (by decide) (by omega)
          omega
        have hr2 := hrg A A
        refine u_111_81 h_r ?_
        rw [am_s_id (z := (A : Int)) (by omega) (by omega), am_s_id (z := ((A + 1 : Nat) : Int)) (by omega) (by omega), Int.toNat_natCast, k1 A hA1 (Nat.le_refl _), am_s_id (z := ktb (Lf (nv (vw m 2)) f n) n (m 2 4).toNat A A) (by omega) (by omega)]
        refine ⟨fun _ => ⟨by omega, fun y hy => ⟨?_, kpC_trans hKM (fun a k hc => by unfold core at hc; rw [k2 a (by omega), t2 a (by omega)])⟩⟩, fun q => by omega⟩
        rw [hy]
        unfold ndk
        rw [hAv]
        by_cases h99 : ktb (Lf (nv (vw m 2)) f n) n (m 2 4).toNat A A < 99
        · rw [if_pos h99, if_neg (by omega)]
        · rw [if_neg h99, if_pos (by omega)]
    · rw [if_pos (by omega)]
theorem u_110_0 {Q : List am_V → am_M → Prop} {m : am_M} {a : Int}  (H : (RWS m ∧ WFG (vw m 2) ∧ am_s a = a) ∧ (∀ (m1 : am_M), (m1 = m) → ((am_s (kru m a) = 0) → (0 ≤ am_s a ∧ am_s a < (4 : Nat)) ∧ ((WFG (vw m1 2) ∧ RWC m1 (25 + 2 * (am_s a).toNat)) ∧ (∀ (m2 : am_M), (kpC m1 m2) → Q [.inl (ndv (nv (vw m1 2)) (fun x => rat m1 (25 + 2 * (am_s a).toNat) (x : Int)))] m2))) ∧ ((¬ (am_s (kru m a) = 0)) → Q [.inl (kru m a)] m1))) : ok 6 110 0 [some (.inr (.inr (some 0))), some (.inl a), none] [] m Q := by
  obtain ⟨hz1, H⟩ := H
  refine ok_sg (pc' := 2) (ls' := [some (.inr (.inr (some 0))), some (.inl a), none]) (st' := [.inl a, .inr (.inr (some 0))]) (m' := m) (fun fx hfx o hk => ?_) ?_
  · refine r_ld (pc' := 1) hM_110 d_110_0 rfl rfl ?_
    refine r_ld (pc' := 2) hM_110 d_110_1 rfl rfl ?_
    exact hk
  refine ok_cl (pc' := 5) (c := (80, 0)) (a := [.inr (.inr (some 0)), .inl a]) (q := []) hM_110 d_110_2 rfl (by decide +kernel) hM_80 rfl rfl rfl (Nat.le_of_ble_eq_true rfl) (Nat.le_of_ble_eq_true rfl) (Or.inr rfl) (z_80  m a hz1) (Nat.le_of_ble_eq_true rfl) ?_
  rintro _ m1 ⟨rfl, hz2⟩
  replace H := H  m1 hz2
  show ok 6 110 5 [some (.inr (.inr (some 0))), some (.inl a), none] [.inl (kru m a)] m1 Q
  refine ok_sg (pc' := 7) (ls' := [some (.inr (.inr (some 0))), some (.inl a), some (.inl (kru m a))]) (st' := [.inl (kru m a)]) (m' := m1) (fun fx hfx o hk => ?_) ?_
  · refine r_sto (pc' := 6) (ls' := [some (.inr (.inr (some 0))), some (.inl a), some (.inl (kru m a))]) hM_110 d_110_5 rfl rfl ?_
    refine r_ld (pc' := 7) hM_110 d_110_6 rfl rfl ?_
    exact hk
  refine ok_if (pc' := 14) (pc2 := 10) hM_110 d_110_7 (by decide) rfl (fun hz3 => ?_) (fun hz3 => ?_)
  · have H := H.1 hz3
    obtain ⟨hz4, H⟩ := H
    obtain ⟨hz5, H⟩ := H
    refine ok_sg (pc' := 24) (ls' := [some (.inr (.inr (some 0))), some (.inl a), some (.inl (kru m a))]) (st' := [.inr (.inr (some (25 + 2 * (am_s a).toNat))), .inr (.inr (some 34))]) (m' := m1) (fun fx hfx o hk => ?_) ?_
    · refine r_ld (pc' := 15) hM_110 d_110_14 rfl rfl ?_
      refine r_gR (pc' := 18) (v := 34) hM_110 d_110_15 rfl (by decide +kernel) ?_
      refine r_ld (pc' := 19) hM_110 d_110_18 rfl rfl ?_
      refine r_gR (pc' := 22) (v := 14) hM_110 d_110_19 rfl (by decide +kernel) ?_
      refine r_ld (pc' := 23) hM_110 d_110_22 rfl rfl ?_
      refine r_aa (pc' := 24) (n := 4) hM_110 d_110_23 rfl rfl (by decide) hz4 (rfRows hz4).1 (shRk (rfRows hz4).2).1 ?_
      exact hk
    refine ok_cl (pc' := 27) (c := (111, 0)) (a := [.inr (.inr (some 34)), .inr (.inr (some (25 + 2 * (am_s a).toNat)))]) (q := []) hM_110 d_110_24 rfl (by decide +kernel) hM_111 rfl rfl rfl (Nat.le_of_ble_eq_true rfl) (Nat.le_of_ble_eq_true rfl) (Or.inr rfl) (z_111 ((rfRows hz4).2) m1  hz5) (Nat.le_of_ble_eq_true rfl) ?_
    rintro _ m2 ⟨rfl, hz6⟩
    replace H := H  m2 hz6
    show ok 6 110 27 [some (.inr (.inr (some 0))), some (.inl a), some (.inl (kru m a))] [.inl (ndv (nv (vw m1 2)) (fun x => rat m1 (25 + 2 * (am_s a).toNat) (x : Int)))] m2 Q
    exact ok_rt (fun fx _ => rt_i hM_110 d_110_27 rfl) H
  · have H := H.2 hz3
    refine ok_sg (pc' := 27) (ls' := [some (.inr (.inr (some 0))), some (.inl a), some (.inl (kru m a))]) (st' := [.inl (kru m a)]) (m' := m1) (fun fx hfx o hk => ?_) ?_
    · refine r_ld (pc' := 11) hM_110 d_110_10 rfl rfl ?_
      refine r_go (pc' := 27) hM_110 d_110_11 (by decide) ?_
      exact hk
    exact ok_rt (fun fx _ => rt_i hM_110 d_110_27 rfl) H
theorem u_228_33 {Q : List am_V → am_M → Prop} {m : am_M} {g : Int} {p : Int} {x : Int} {k : Int} {y : Int} {j : Int}  (H : ((am_s (m 53 19) ≤ am_s j) → ((¬ am_s y = am_s g) → (0 ≤ am_s y ∧ am_s y < (1024 : Nat)) ∧ (∀ y1 : Int, y1 = (if am_s (m 62 ((am_s y).toNat)) ≤ am_s x then x else (m 62 ((am_s y).toNat))) → ok 3 228 5 [some (.inr (.inr (some 53))), some (.inl g), some (.inl p), some (.inl y1), some (.inl (k + 1)), none, none] [] m Q)) ∧ ((am_s y = am_s g) → Q [.inl 99] m)) ∧ ((¬ (am_s (m 53 19) ≤ am_s j)) → ((0 ≤ (am_s g) ∧ (am_s g) < 2147483648) ∧ 0 ≤ j ∧ j < 32) ∧ (((¬ (am_s ((if (am_s g).toNat.testBit j.toNat = true then 1 else 0)) = 0)) → (0 ≤ am_s j ∧ am_s j < (4096 : Nat))) ∧ (((¬ (am_s ((if (am_s g).toNat.testBit j.toNat = true then 1 else 0)) = 0)) → (WFG (m 54) ∧ (0 ≤ p ∧ p < m 54 0) ∧ 0 ≤ (m 59 ((am_s j).toNat)) ∧ (m 59 ((am_s j).toNat)) < 2147483648)) ∧ (((¬ (am_s ((if (am_s g).toNat.testBit j.toNat = true then 1 else 0)) = 0)) → (0 ≤ am_s k ∧ am_s k < (4096 : Nat))) ∧ (((¬ (am_s ((if (am_s g).toNat.testBit j.toNat = true then 1 else 0)) = 0)) → (WFG (m 54) ∧ (0 ≤ p ∧ p < m 54 0) ∧ 0 ≤ (m 59 ((am_s k).toNat)) ∧ (m 59 ((am_s k).toNat)) < 2147483648)) ∧ (∀ y2 : Int, y2 = (if am_s ((if (am_s g).toNat.testBit j.toNat = true then 1 else 0)) = 0 then 0 else (if ¬ am_s ((hrd (nv (m 54)) p.toNat (m 59 ((am_s j).toNat)).toNat)) = am_s ((hrd (nv (m 54)) p.toNat (m 59 ((am_s k).toNat)).toNat)) then 0 else (am_shl 1 j))) → ok 3 228 33 [some (.inr (.inr (some 53))), some (.inl g), some (.inl p), some (.inl x), some (.inl k), some (.inl (am_or y y2)), some (.inl (j + 1))] [] m Q))))))) : ok 3 228 33 [some (.inr (.inr (some 53))), some (.inl g), some (.inl p), some (.inl x), some (.inl k), some (.inl y), some (.inl j)] [] m Q := by
  refine ok_sg (pc' := 39) (ls' := [some (.inr (.inr (some 53))), some (.inl g), some (.inl p), some (.inl x), some (.inl k), some (.inl y), some (.inl j)]) (st' := [.inl (m 53 19), .inl j]) (m' := m) (fun fx hfx o hk => ?_) ?_
  · refine r_ld (pc' := 35) hM_228 d_228_33 rfl rfl ?_
    refine r_ld (pc' := 36) hM_228 d_228_35 rfl rfl ?_
    refine r_gI (pc' := 39) (k0 := 19) hM_228 d_228_36 rfl (by decide +kernel) ?_
    exact hk
  refine ok_ic (pc' := 98) (pc2 := 42) hM_228 d_228_39 (by decide) rfl (fun hz1 => ?_) (fun hz1 => ?_)
  · have H := H.1 hz1
    refine ok_sg (pc' := 101) (ls' := [some (.inr (.inr (some 53))), some (.inl g), some (.inl p), some (.inl x), some (.inl k), some (.inl y), some (.inl j)]) (st' := [.inl g, .inl y]) (m' := m) (fun fx hfx o hk => ?_) ?_
    · refine r_ld (pc' := 100) hM_228 d_228_98 rfl rfl ?_
      refine r_ld (pc' := 101) hM_228 d_228_100 rfl rfl ?_
      exact hk
    refine ok_ic (pc' := 107) (pc2 := 104) hM_228 d_228_101 (by decide) rfl (fun hz2 => ?_) (fun hz2 => ?_)
    · have H := H.1 hz2
      obtain ⟨hz3, H⟩ := H
      refine ok_sg (pc' := 115) (ls' := [some (.inr (.inr (some 53))), some (.inl g), some (.inl p), some (.inl x), some (.inl k), some (.inl y), some (.inl j)]) (st' := [.inl x, .inl (m 62 ((am_s y).toNat))]) (m' := m) (fun fx hfx o hk => ?_) ?_
      · refine r_ld (pc' := 108) hM_228 d_228_107 rfl rfl ?_
        refine r_gR (pc' := 111) (v := 62) hM_228 d_228_108 rfl (by decide +kernel) ?_
        refine r_ld (pc' := 113) hM_228 d_228_111 rfl rfl ?_
        refine r_ia (pc' := 114) (n := 1024) hM_228 d_228_113 rfl rfl hz3 ?_
        refine r_ld (pc' := 115) hM_228 d_228_114 rfl rfl ?_
        exact hk
      refine ok_sg (pc' := 129) (ls' := [some (.inr (.inr (some 53))), some (.inl g), some (.inl p), some (.inl x), some (.inl k), some (.inl y), some (.inl j)]) (st' := [.inl (if am_s (m 62 ((am_s y).toNat)) ≤ am_s x then x else (m 62 ((am_s y).toNat)))]) (m' := m) (fun fx hfx o K => ?_) ?_
      · refine r_ic (pc' := 128) (pc2 := 118) hM_228 d_228_115 (by decide) rfl (fun hz4 => ?_) (fun hz4 => ?_)
        · have hz4 : am_s (m 62 ((am_s y).toNat)) ≤ am_s x := hz4
          rw [if_pos hz4] at K
          refine r_ld (pc' := 129) hM_228 d_228_128 rfl rfl ?_
          exact K
        · have hz4 : ¬ (am_s (m 62 ((am_s y).toNat)) ≤ am_s x) := hz4
          rw [if_neg hz4] at K
          refine r_ld (pc' := 119) hM_228 d_228_118 rfl rfl ?_
          refine r_gR (pc' := 122) (v := 62) hM_228 d_228_119 rfl (by decide +kernel) ?_
          refine r_ld (pc' := 124) hM_228 d_228_122 rfl rfl ?_
          refine r_ia (pc' := 125) (n := 1024) hM_228 d_228_124 rfl rfl hz3 ?_
          refine r_go (pc' := 129) hM_228 d_228_125 (by decide) ?_
          exact K
      have K : ∀ y1 : Int, y1 = (if am_s (m 62 ((am_s y).toNat)) ≤ am_s x then x else (m 62 ((am_s y).toNat))) → ok 3 228 129 [some (.inr (.inr (some 53))), some (.inl g), some (.inl p), some (.inl x), some (.inl k), some (.inl y), some (.inl j)] [.inl y1] m Q := by
        intro y1 hy1
        replace H := H y1 hy1
        refine ok_sg (pc' := 5) (ls' := [some (.inr (.inr (some 53))), some (.inl g), some (.inl p), some (.inl y1), some (.inl (k + 1)), none, none]) (st' := []) (m' := m) (fun fx hfx o hk => ?_) ?_
        · refine r_sto (pc' := 130) (ls' := [some (.inr (.inr (some 53))), some (.inl g), some (.inl p), some (.inl y1), some (.inl k), some (.inl y), some (.inl j)]) hM_228 d_228_129 rfl rfl ?_
          refine r_sto (pc' := 133) (ls' := [some (.inr (.inr (some 53))), some (.inl g), some (.inl p), some (.inl y1), some (.inl (k + 1)), some (.inl y), some (.inl j)]) hM_228 d_228_130 rfl rfl ?_
          refine r_go (pc' := 5) hM_228 d_228_133 (by decide) ?_
          refine rn_wk (a := [some (.inr (.inr (some 53))), some (.inl g), some (.inl p), some (.inl y1), some (.inl (k + 1)), none, none]) (by simp only [am_le, and_self]) ?_
          exact hk
        exact H
      exact K _ rfl
    · have H := H.2 (Decidable.not_not.mp hz2)
      refine ok_sg (pc' := 106) (ls' := [some (.inr (.inr (some 53))), some (.inl g), some (.inl p), some (.inl x), some (.inl k), some (.inl y), some (.inl j)]) (st' := [.inl 99]) (m' := m) (fun fx hfx o hk => ?_) ?_
      · refine r_k (pc' := 106) (v := .inl 99) hM_228 d_228_104 rfl rfl ?_
        exact hk
      exact ok_rt (fun fx _ => rt_i hM_228 d_228_106 rfl) H
  · have H := H.2 hz1
    obtain ⟨hz5, H⟩ := H
    obtain ⟨hz7, H⟩ := H
    obtain ⟨hz8, H⟩ := H
    obtain ⟨hz9, H⟩ := H
    obtain ⟨hz10, H⟩ := H
    refine ok_sg (pc' := 51) (ls' := [some (.inr (.inr (some 53))), some (.inl g), some (.inl p), some (.inl x), some (.inl k), some (.inl y), some (.inl j)]) (st' := [.inl ((if (am_s g).toNat.testBit j.toNat = true then 1 else 0)), .inl y]) (m' := m) (fun fx hfx o hk => ?_) ?_
    · refine r_ld (pc' := 44) hM_228 d_228_42 rfl rfl ?_
      refine r_ld (pc' := 45) hM_228 d_228_44 rfl rfl ?_
      refine r_stk (pc' := 46) (st' := [.inr (.inl (am_s g)), .inl y]) hM_228 d_228_45 rfl rfl ?_
      refine r_ld (pc' := 48) hM_228 d_228_46 rfl rfl ?_
      refine r_cl (pc' := 51) (c := (194, 2)) (a := [.inr (.inl (am_s g)), .inl j]) (q := [.inl y]) hM_228 d_228_48 rfl (by decide +kernel) hM_194 rfl rfl rfl (Nat.le_of_ble_eq_true rfl) (Nat.le_of_ble_eq_true rfl) (Or.inl rfl) (n_194  m (am_s g) j hz5) (Nat.le_of_ble_eq_true rfl) ?_
      show rn fx 3 (0, 0) 228 51 [some (.inr (.inr (some 53))), some (.inl g), some (.inl p), some (.inl x), some (.inl k), some (.inl y), some (.inl j)] [.inl ((if (am_s g).toNat.testBit j.toNat = true then 1 else 0)), .inl y] (st0 m) o
      exact hk
    refine ok_sg (pc' := 89) (ls' := [some (.inr (.inr (some 53))), some (.inl g), some (.inl p), some (.inl x), some (.inl k), some (.inl y), some (.inl j)]) (st' := [.inl (if am_s ((if (am_s g).toNat.testBit j.toNat = true then 1 else 0)) = 0 then 0 else (if ¬ am_s ((hrd (nv (m 54)) p.toNat (m 59 ((am_s j).toNat)).toNat)) = am_s ((hrd (nv (m 54)) p.toNat (m 59 ((am_s k).toNat)).toNat)) then 0 else (am_shl 1 j))), .inl y]) (m' := m) (fun fx hfx o K => ?_) ?_
    · refine r_if (pc' := 88) (pc2 := 54) hM_228 d_228_51 (by decide) rfl (fun hz6 => ?_) (fun hz6 => ?_)
      · have hz6 : am_s ((if (am_s g).toNat.testBit j.toNat = true then 1 else 0)) = 0 := hz6
        rw [if_pos hz6] at K
        refine r_k (pc' := 89) (v := .inl 0) hM_228 d_228_88 rfl rfl ?_
        exact K
      · have hz6 : ¬ (am_s ((if (am_s g).toNat.testBit j.toNat = true then 1 else 0)) = 0) := hz6
        rw [if_neg hz6] at K
        refine r_ld (pc' := 55) hM_228 d_228_54 rfl rfl ?_
        refine r_ld (pc' := 56) hM_228 d_228_55 rfl rfl ?_
        refine r_ld (pc' := 57) hM_228 d_228_56 rfl rfl ?_
        refine r_gR (pc' := 60) (v := 59) hM_228 d_228_57 rfl (by decide +kernel) ?_
        refine r_ld (pc' := 62) hM_228 d_228_60 rfl rfl ?_
        refine r_ia (pc' := 63) (n := 4096) hM_228 d_228_62 rfl rfl (hz7 hz6) ?_
        refine r_cl (pc' := 66) (c := (210, 0)) (a := [.inr (.inr (some 53)), .inl p, .inl (m 59 ((am_s j).toNat))]) (q := [.inl y]) hM_228 d_228_63 rfl (by decide +kernel) hM_210 rfl rfl rfl (Nat.le_of_ble_eq_true rfl) (Nat.le_of_ble_eq_true rfl) (Or.inr rfl) (n_210  m p (m 59 ((am_s j).toNat)) (hz8 hz6)) (Nat.le_of_ble_eq_true rfl) ?_
        show rn fx 3 (0, 0) 228 66 [some (.inr (.inr (some 53))), some (.inl g), some (.inl p), some (.inl x), some (.inl k), some (.inl y), some (.inl j)] [.inl ((hrd (nv (m 54)) p.toNat (m 59 ((am_s j).toNat)).toNat)), .inl y] (st0 m) o
        refine r_ld (pc' := 67) hM_228 d_228_66 rfl rfl ?_
        refine r_ld (pc' := 68) hM_228 d_228_67 rfl rfl ?_
        refine r_ld (pc' := 69) hM_228 d_228_68 rfl rfl ?_
        refine r_gR (pc' := 72) (v := 59) hM_228 d_228_69 rfl (by decide +kernel) ?_
        refine r_ld (pc' := 74) hM_228 d_228_72 rfl rfl ?_
        refine r_ia (pc' := 75) (n := 4096) hM_228 d_228_74 rfl rfl (hz9 hz6) ?_
        refine r_cl (pc' := 78) (c := (210, 0)) (a := [.inr (.inr (some 53)), .inl p, .inl (m 59 ((am_s k).toNat))]) (q := [.inl ((hrd (nv (m 54)) p.toNat (m 59 ((am_s j).toNat)).toNat)), .inl y]) hM_228 d_228_75 rfl (by decide +kernel) hM_210 rfl rfl rfl (Nat.le_of_ble_eq_true rfl) (Nat.le_of_ble_eq_true rfl) (Or.inr rfl) (n_210  m p (m 59 ((am_s k).toNat)) (hz10 hz6)) (Nat.le_of_ble_eq_true rfl) ?_
        show rn fx 3 (0, 0) 228 78 [some (.inr (.inr (some 53))), some (.inl g), some (.inl p), some (.inl x), some (.inl k), some (.inl y), some (.inl j)] [.inl ((hrd (nv (m 54)) p.toNat (m 59 ((am_s k).toNat)).toNat)), .inl ((hrd (nv (m 54)) p.toNat (m 59 ((am_s j).toNat)).toNat)), .inl y] (st0 m) o
        refine r_ic (pc' := 88) (pc2 := 81) hM_228 d_228_78 (by decide) rfl (fun hz11 => ?_) (fun hz11 => ?_)
        · have hz11 : ¬ am_s ((hrd (nv (m 54)) p.toNat (m 59 ((am_s j).toNat)).toNat)) = am_s ((hrd (nv (m 54)) p.toNat (m 59 ((am_s k).toNat)).toNat)) := hz11
          rw [if_pos hz11] at K
          refine r_k (pc' := 89) (v := .inl 0) hM_228 d_228_88 rfl rfl ?_
          exact K
        · have hz11 : ¬ (¬ am_s ((hrd (nv (m 54)) p.toNat (m 59 ((am_s j).toNat)).toNat)) = am_s ((hrd (nv (m 54)) p.toNat (m 59 ((am_s k).toNat)).toNat))) := hz11
          rw [if_neg hz11] at K
          refine r_k (pc' := 82) (v := .inl 1) hM_228 d_228_81 rfl rfl ?_
          refine r_ld (pc' := 84) hM_228 d_228_82 rfl rfl ?_
          refine r_b (pc' := 85) (z := (am_shl 1 j)) hM_228 d_228_84 rfl rfl ?_
          refine r_go (pc' := 89) hM_228 d_228_85 (by decide) ?_
          exact K
    have K : ∀ y2 : Int, y2 = (if am_s ((if (am_s g).toNat.testBit j.toNat = true then 1 else 0)) = 0 then 0 else (if ¬ am_s ((hrd (nv (m 54)) p.toNat (m 59 ((am_s j).toNat)).toNat)) = am_s ((hrd (nv (m 54)) p.toNat (m 59 ((am_s k).toNat)).toNat)) then 0 else (am_shl 1 j))) → ok 3 228 89 [some (.inr (.inr (some 53))), some (.inl g), some (.inl p), some (.inl x), some (.inl k), some (.inl y), some (.inl j)] [.inl y2, .inl y] m Q := by
      intro y2 hy2
      replace H := H y2 hy2
      refine ok_sg (pc' := 33) (ls' := [some (.inr (.inr (some 53))), some (.inl g), some (.inl p), some (.inl x), some (.inl k), some (.inl (am_or y y2)), some (.inl (j + 1))]) (st' := []) (m' := m) (fun fx hfx o hk => ?_) ?_
      · refine r_b (pc' := 90) (z := (am_or y y2)) hM_228 d_228_89 rfl rfl ?_
        refine r_sto (pc' := 92) (ls' := [some (.inr (.inr (some 53))), some (.inl g), some (.inl p), some (.inl x), some (.inl k), some (.inl (am_or y y2)), some (.inl j)]) hM_228 d_228_90 rfl rfl ?_
        refine r_sto (pc' := 95) (ls' := [some (.inr (.inr (some 53))), some (.inl g), some (.inl p), some (.inl x), some (.inl k), some (.inl (am_or y y2)), some (.inl (j + 1))]) hM_228 d_228_92 rfl rfl ?_
        refine r_go (pc' := 33) hM_228 d_228_95 (by decide) ?_
        exact hk
      exact H
    exact K _ rfl
theorem u_228_5 {Q : List am_V → am_M → Prop} {m : am_M} {g : Int} {p : Int} {x : Int} {k : Int}  (H : ((am_s (m 53 19) ≤ am_s k) → Q [.inl (if am_s x < 99 then (x + 1) else 99)] m) ∧ ((¬ (am_s (m 53 19) ≤ am_s k)) → ((0 ≤ (am_s g) ∧ (am_s g) < 2147483648) ∧ 0 ≤ k ∧ k < 32) ∧ ((((am_s g).toNat.testBit k.toNat = true) → ok 3 228 33 [some (.inr (.inr (some 53))), some (.inl g), some (.inl p), some (.inl x), some (.inl k), some (.inl 0), some (.inl 0)] [] m Q) ∧ ((¬ ((am_s g).toNat.testBit k.toNat = true)) → ok 3 228 5 [some (.inr (.inr (some 53))), some (.inl g), some (.inl p), some (.inl x), some (.inl (k + 1)), none, none] [] m Q)))) : ok 3 228 5 [some (.inr (.inr (some 53))), some (.inl g), some (.inl p), some (.inl x), some (.inl k), none, none] [] m Q := by
  refine ok_sg (pc' := 11) (ls' := [some (.inr (.inr (some 53))), some (.inl g), some (.inl p), some (.inl x), some (.inl k), none, none]) (st' := [.inl (m 53 19), .inl k]) (m' := m) (fun fx hfx o hk => ?_) ?_
  · refine r_ld (pc' := 7) hM_228 d_228_5 rfl rfl ?_
    refine r_ld (pc' := 8) hM_228 d_228_7 rfl rfl ?_
    refine r_gI (pc' := 11) (k0 := 19) hM_228 d_228_8 rfl (by decide +kernel) ?_
    exact hk
  refine ok_ic (pc' := 136) (pc2 := 14) hM_228 d_228_11 (by decide) rfl (fun hz1 => ?_) (fun hz1 => ?_)
  · have H := H.1 hz1
    refine ok_sg (pc' := 139) (ls' := [some (.inr (.inr (some 53))), some (.inl g), some (.inl p), some (.inl x), some (.inl k), none, none]) (st' := [.inl 99, .inl x]) (m' := m) (fun fx hfx o hk => ?_) ?_
    · refine r_ld (pc' := 137) hM_228 d_228_136 rfl rfl ?_
      refine r_k (pc' := 139) (v := .inl 99) hM_228 d_228_137 rfl rfl ?_
      exact hk
    refine ok_sg (pc' := 150) (ls' := [some (.inr (.inr (some 53))), some (.inl g), some (.inl p), some (.inl x), some (.inl k), none, none]) (st' := [.inl (if am_s x < 99 then (x + 1) else 99)]) (m' := m) (fun fx hfx o K => ?_) ?_
    · refine r_ic (pc' := 147) (pc2 := 142) hM_228 d_228_139 (by decide) rfl (fun hz2 => ?_) (fun hz2 => ?_)
      · have hz2 : am_s x < 99 := hz2
        rw [if_pos hz2] at K
        refine r_ld (pc' := 148) hM_228 d_228_147 rfl rfl ?_
        refine r_k (pc' := 149) (v := .inl 1) hM_228 d_228_148 rfl rfl ?_
        refine r_b (pc' := 150) (z := (x + 1)) hM_228 d_228_149 rfl rfl ?_
        exact K
      · have hz2 : ¬ (am_s x < 99) := hz2
        rw [if_neg hz2] at K
        refine r_k (pc' := 144) (v := .inl 99) hM_228 d_228_142 rfl rfl ?_
        refine r_go (pc' := 150) hM_228 d_228_144 (by decide) ?_
        exact K
    exact ok_rt (fun fx _ => rt_i hM_228 d_228_150 rfl) H
  · have H := H.2 hz1
    obtain ⟨hz3, H⟩ := H
    refine ok_sg (pc' := 21) (ls' := [some (.inr (.inr (some 53))), some (.inl g), some (.inl p), some (.inl x), some (.inl k), none, none]) (st' := [.inl ((if (am_s g).toNat.testBit k.toNat = true then 1 else 0))]) (m' := m) (fun fx hfx o hk => ?_) ?_
    · refine r_ld (pc' := 15) hM_228 d_228_14 rfl rfl ?_
      refine r_stk (pc' := 16) (st' := [.inr (.inl (am_s g))]) hM_228 d_228_15 rfl rfl ?_
      refine r_ld (pc' := 18) hM_228 d_228_16 rfl rfl ?_
      refine r_cl (pc' := 21) (c := (194, 2)) (a := [.inr (.inl (am_s g)), .inl k]) (q := []) hM_228 d_228_18 rfl (by decide +kernel) hM_194 rfl rfl rfl (Nat.le_of_ble_eq_true rfl) (Nat.le_of_ble_eq_true rfl) (Or.inl rfl) (n_194  m (am_s g) k hz3) (Nat.le_of_ble_eq_true rfl) ?_
      show rn fx 3 (0, 0) 228 21 [some (.inr (.inr (some 53))), some (.inl g), some (.inl p), some (.inl x), some (.inl k), none, none] [.inl ((if (am_s g).toNat.testBit k.toNat = true then 1 else 0))] (st0 m) o
      exact hk
    refine ok_if (pc' := 27) (pc2 := 24) hM_228 d_228_21 (by decide) rfl (fun hz4 => ?_) (fun hz4 => ?_)
    · have H := H.1 (as_iteN.mp hz4)
      refine ok_sg (pc' := 33) (ls' := [some (.inr (.inr (some 53))), some (.inl g), some (.inl p), some (.inl x), some (.inl k), some (.inl 0), some (.inl 0)]) (st' := []) (m' := m) (fun fx hfx o hk => ?_) ?_
      · refine r_k (pc' := 28) (v := .inl 0) hM_228 d_228_27 rfl rfl ?_
        refine r_sto (pc' := 30) (ls' := [some (.inr (.inr (some 53))), some (.inl g), some (.inl p), some (.inl x), some (.inl k), some (.inl 0), none]) hM_228 d_228_28 rfl rfl ?_
        refine r_k (pc' := 31) (v := .inl 0) hM_228 d_228_30 rfl rfl ?_
        refine r_sto (pc' := 33) (ls' := [some (.inr (.inr (some 53))), some (.inl g), some (.inl p), some (.inl x), some (.inl k), some (.inl 0), some (.inl 0)]) hM_228 d_228_31 rfl rfl ?_
        exact hk
      exact H
    · have H := H.2 (as_ite.mp (Decidable.not_not.mp hz4))
      refine ok_sg (pc' := 5) (ls' := [some (.inr (.inr (some 53))), some (.inl g), some (.inl p), some (.inl x), some (.inl (k + 1)), none, none]) (st' := []) (m' := m) (fun fx hfx o hk => ?_) ?_
      · refine r_go (pc' := 130) hM_228 d_228_24 (by decide) ?_
        refine r_sto (pc' := 133) (ls' := [some (.inr (.inr (some 53))), some (.inl g), some (.inl p), some (.inl x), some (.inl (k + 1)), none, none]) hM_228 d_228_130 rfl rfl ?_
        refine r_go (pc' := 5) hM_228 d_228_133 (by decide) ?_
        exact hk
      exact H
theorem u_228_0 {Q : List am_V → am_M → Prop} {m : am_M} {g : Int} {p : Int}  (H : ok 3 228 5 [some (.inr (.inr (some 53))), some (.inl g), some (.inl p), some (.inl 0), some (.inl 0), none, none] [] m Q) : ok 3 228 0 [some (.inr (.inr (some 53))), some (.inl g), some (.inl p), none, none, none, none] [] m Q := by
  refine ok_sg (pc' := 5) (ls' := [some (.inr (.inr (some 53))), some (.inl g), some (.inl p), some (.inl 0), some (.inl 0), none, none]) (st' := []) (m' := m) (fun fx hfx o hk => ?_) ?_
  · refine r_k (pc' := 1) (v := .inl 0) hM_228 d_228_0 rfl rfl ?_
    refine r_sto (pc' := 2) (ls' := [some (.inr (.inr (some 53))), some (.inl g), some (.inl p), some (.inl 0), none, none, none]) hM_228 d_228_1 rfl rfl ?_
    refine r_k (pc' := 3) (v := .inl 0) hM_228 d_228_2 rfl rfl ?_
    refine r_sto (pc' := 5) (ls' := [some (.inr (.inr (some 53))), some (.inl g), some (.inl p), some (.inl 0), some (.inl 0), none, none]) hM_228 d_228_3 rfl rfl ?_
    exact hk
  exact H
theorem and_Lf {g : Nat → Int} {f : Nat → Nat} {n p k G : Nat} (hg : g (8 + p) ≠ 3) (hG : G < 2 ^ n) : msk (fun j => if G.testBit j = true ∧ hrd g p (f j) = hrd g p (f k) then 1 else 0) 1 n = G &&& Lf g f n p k := by
  apply Nat.eq_of_testBit_eq
  intro i
  unfold Lf
  rw [msk_bit, Nat.testBit_and, msk_bit, tnt_tri, tnt_tri, if_pos hg, if_pos hg]
  by_cases hi : i < n
  · rw [decide_eq_true hi, Bool.true_and, Bool.true_and]
    cases hb : G.testBit i
    · rw [Bool.false_and]
      exact decide_eq_false (by rw [if_neg (fun q => absurd q.1 (by decide))]; decide)
    · rw [Bool.true_and]
      apply decide_eq_decide.mpr
      by_cases hh : hrd g p (f i) = hrd g p (f k)
      · rw [if_pos ⟨rfl, hh⟩]
        exact ⟨fun _ => hh, fun _ => rfl⟩
      · rw [if_neg (fun q => hh q.2)]
        exact ⟨fun q => absurd q (by decide), fun q => absurd q hh⟩
  · rw [decide_eq_false hi, Bool.false_and, Bool.false_and, Bool.and_false]
theorem z_228   (m : am_M) (g : Int) (p : Int) (hq : WFG (m 54) ∧ (0 ≤ p ∧ p < m 54 0) ∧ nv (m 54) (8 + p.toNat) ≠ 3 ∧ (1 ≤ m 53 19 ∧ m 53 19 ≤ 10) ∧ (∀ j : Nat, (j : Int) < m 53 19 → 0 ≤ m 59 j ∧ m 59 j < 4096) ∧ (1 ≤ g ∧ g.toNat < 2 ^ (m 53 19).toNat) ∧ ∀ k : Nat, 1 ≤ k → k < g.toNat → 0 ≤ m 62 k ∧ m 62 k ≤ 99) : ok 3 228 0 (am_ent 7 [.inr (.inr (some 53)), .inl g, .inl p]) [] m (fun rr m' => rr = [.inl ((kvl (m 62) g.toNat (Lf (nv (m 54)) (fun j => (m 59 j).toNat) (m 53 19).toNat p.toNat) (m 53 19).toNat))] ∧ m' = m) := by
  show ok 3 228 0 [some (.inr (.inr (some 53))), some (.inl g), some (.inl p), none, none, none, none] [] m _
  obtain ⟨hw, hp, h3, hn, hf, hg, hK⟩ := hq
  have hN := hw.1
  have hwn := WFG_nv hw
  obtain ⟨P, rfl⟩ : ∃ P : Nat, p = (P : Int) := ⟨p.toNat, by omega⟩
  obtain ⟨G, rfl⟩ : ∃ G : Nat, g = (G : Int) := ⟨g.toNat, by omega⟩
  obtain ⟨n, hnv⟩ : ∃ n : Nat, m 53 19 = (n : Int) := ⟨(m 53 19).toNat, by omega⟩
  rw [hnv] at hn hf hg ⊢
  simp only [Int.toNat_natCast] at h3 hK hg ⊢
  have hpn : 2 ^ n ≤ 2 ^ 10 := Nat.pow_le_pow_right (by decide) (by omega)
  have eG : am_s (G : Int) = (G : Int) := am_s_id (by omega) (by omega)
  have en : am_s (n : Int) = (n : Int) := am_s_id (by omega) (by omega)
  generalize hfv : (fun j => (m 59 j).toNat) = f at *
  have hft : ∀ j, (m 59 j).toNat = f j := fun j => by rw [← hfv]
  refine u_228_0 ?_
  refine ok_for (σ := Unit) (fun k _ => [some (.inr (.inr (some 53))), some (.inl (G : Int)), some (.inl (P : Int)), some (.inl (kmx (m 62) G (Lf (nv (m 54)) f n P) k)), some (.inl (k : Int)), none, none]) (fun k _ M => M = m ∧ kbd G (Lf (nv (m 54)) f n P) k = false) n ?_ ?_ () m ⟨rfl, rfl⟩
  · rintro k hk - M ⟨rfl, hb⟩ IH
    have hx := kmx_rng (l := Lf (nv (M 54)) f n P) hK k (fun i hi => Lf_bit (by omega : i < n)) hb
    have hfk := hf k (by omega)
    refine u_228_5 ?_
    rw [hnv, en, am_s_id (z := (k : Int)) (by omega) (by omega), eG, Int.toNat_natCast, Int.toNat_natCast]
    refine ⟨fun q => by omega, fun _ => ⟨by omega, fun q => ?_, fun q => ?_⟩⟩
    · have key := ok_for (d := 3) (mi := 228) (pc := 33) (Q := fun rr m' => rr = [.inl (kvl (M 62) G (Lf (nv (M 54)) f n P) n)] ∧ m' = M) (σ := Unit) (fun j _ => [some (.inr (.inr (some 53))), some (.inl (G : Int)), some (.inl (P : Int)), some (.inl (kmx (M 62) G (Lf (nv (M 54)) f n P) k)), some (.inl (k : Int)), some (.inl ((msk (fun j => if G.testBit j = true ∧ hrd (nv (M 54)) P (f j) = hrd (nv (M 54)) P (f k) then 1 else 0) 1 j : Nat) : Int)), some (.inl (j : Int))]) (fun j _ M' => M' = M) n ?_ ?_ () M rfl
      · exact key
      · rintro j hj - M' rfl IH2
        have hfj := hf j (by omega)
        have hml := msk_lt (fun j => if G.testBit j = true ∧ hrd (nv (M' 54)) P (f j) = hrd (nv (M' 54)) P (f k) then 1 else 0) 1 j
        refine u_228_33 ?_
        rw [hnv, en, am_s_id (z := (j : Int)) (by omega) (by omega), am_s_id (z := (k : Int)) (by omega) (by omega), eG, Int.toNat_natCast, Int.toNat_natCast, Int.toNat_natCast, Int.toNat_natCast, hft, hft, hrd_s hwn (by omega), hrd_s hwn (by omega)]
        have := IH2 () M' rfl
        rw [msk_s] at this
        refine ⟨fun q => by omega, fun _ => ⟨by omega, fun _ => by omega, fun _ => ⟨hw, by omega, by omega⟩, fun _ => by omega, fun _ => ⟨hw, by omega, by omega⟩, fun y hy => ?_⟩⟩
        by_cases q1 : G.testBit j = true
        · rw [if_neg (as_iteN.mpr q1)] at hy
          by_cases q2 : hrd (nv (M' 54)) P (f j) = hrd (nv (M' 54)) P (f k)
          · rw [if_neg (not_not_intro q2)] at hy
            rw [if_pos (by rw [if_pos ⟨q1, q2⟩])] at this
            rw [hy, bx_or2 hml (by omega)]
            exact this
          · rw [if_pos q2] at hy
            rw [if_neg (by rw [if_neg (fun q => q2 q.2)]; decide)] at this
            rw [hy, bx_or0 hml (by omega)]
            exact this
        · rw [if_pos (as_ite.mpr q1)] at hy
          rw [if_neg (by rw [if_neg (fun q => q1 q.1)]; decide)] at this
          rw [hy, bx_or0 hml (by omega)]
          exact this
      · rintro - M' rfl
        have hal : G &&& Lf (nv (M' 54)) f n P k ≤ G := Nat.and_le_left
        refine u_228_33 ?_
        rw [hnv, en, and_Lf h3 (by omega), am_s_id (z := ((G &&& Lf (nv (M' 54)) f n P k : Nat) : Int)) (by omega) (by omega), eG, Int.toNat_natCast, am_s_id (z := kmx (M' 62) G (Lf (nv (M' 54)) f n P) k) (by omega) (by omega)]
        refine ⟨fun _ => ⟨fun q2 => ⟨by omega, fun y hy => ?_⟩, fun q2 => ⟨?_, rfl⟩⟩, fun q => by omega⟩
        · have hne : ¬ G &&& Lf (nv (M' 54)) f n P k = G := by omega
          obtain ⟨q3, q4⟩ := and_part q (Lf_bit hk) hne
          have hkk := hK _ q3 q4
          rw [am_s_id (by omega) (by omega)] at hy
          have := IH () M' ⟨rfl, by rw [kbd_s, hb, q, decide_eq_false hne]; rfl⟩
          rw [kmx_s, if_pos q] at this
          have ey : y = max (kmx (M' 62) G (Lf (nv (M' 54)) f n P) k) (M' 62 (G &&& Lf (nv (M' 54)) f n P k)) := by
            rw [hy]
            split <;> omega
          rw [ey]
          exact this
        · have : kbd G (Lf (nv (M' 54)) f n P) n = true := by
            refine kbd_up (i := k + 1) ?_ n hk
            rw [kbd_s, q, decide_eq_true (by omega), Bool.true_and, Bool.or_true]
          unfold kvl
          rw [if_pos this]
    · have := IH () M ⟨rfl, by rw [kbd_s, hb, Bool.false_or]; cases h : G.testBit k; rfl; exact absurd h q⟩
      rw [kmx_s, if_neg q] at this
      exact this
  · rintro - M ⟨rfl, hb⟩
    have hx := kmx_rng (l := Lf (nv (M 54)) f n P) hK n (fun i hi => Lf_bit hi) hb
    refine u_228_5 ?_
    rw [hnv, en, am_s_id (z := kmx (M 62) G (Lf (nv (M 54)) f n P) n) (by omega) (by omega)]
    refine ⟨fun _ => ⟨?_, rfl⟩, fun q => by omega⟩
    unfold kvl
    rw [hb, if_neg (show ¬ (false = true) by decide)]
    by_cases h : kmx (M 62) G (Lf (nv (M 54)) f n P) n < 99
    · rw [if_pos h, if_neg (by omega)]
    · rw [if_neg h, if_pos (by omega)]
theorem u_227_74 {Q : List am_V → am_M → Prop} {m : am_M} {a : Int} {g : Int} {p : Int}  (H : ((am_s (m 54 0) ≤ am_s p) → ok 5 227 40 [some (.inr (.inr (some 53))), some (.inl a), none, some (.inl (g + 1)), none, none] [] m Q) ∧ ((¬ (am_s (m 54 0) ≤ am_s p)) → (0 ≤ (am_s g) ∧ (am_s g) < 2147483648) ∧ (((am_s (((cnt (am_s g).toNat 12 : Nat) : Int)) ≤ 1) → ok 5 227 40 [some (.inr (.inr (some 53))), some (.inl a), none, some (.inl (g + 1)), none, none] [] m Q) ∧ ((¬ (am_s (((cnt (am_s g).toNat 12 : Nat) : Int)) ≤ 1)) → (WFG (m 54)) ∧ (((¬ ((0 ≤ am_s p ∧ am_s p < m 54 0) ∧ nv (m 54) (8 + (am_s p).toNat) = am_s 3)) → (WFG (m 54) ∧ (0 ≤ p ∧ p < m 54 0) ∧ nv (m 54) (8 + p.toNat) ≠ 3 ∧ (1 ≤ m 53 19 ∧ m 53 19 ≤ 10) ∧ (∀ j : Nat, (j : Int) < m 53 19 → 0 ≤ m 59 j ∧ m 59 j < 4096) ∧ (1 ≤ g ∧ g.toNat < 2 ^ (m 53 19).toNat) ∧ ∀ k : Nat, 1 ≤ k → k < g.toNat → 0 ≤ m 62 k ∧ m 62 k ≤ 99) ∧ (∀ (m1 : am_M), (m1 = m) → (0 ≤ am_s g ∧ am_s g < (1024 : Nat)) ∧ (∀ y1 : Int, y1 = (if am_s (m1 62 ((am_s g).toNat)) ≤ am_s (kvl (m 62) g.toNat (Lf (nv (m 54)) (fun j => (m 59 j).toNat) (m 53 19).toNat p.toNat) (m 53 19).toNat) then (m1 62 ((am_s g).toNat)) else (kvl (m 62) g.toNat (Lf (nv (m 54)) (fun j => (m 59 j).toNat) (m 53 19).toNat p.toNat) (m 53 19).toNat)) → ok 5 227 74 [some (.inr (.inr (some 53))), some (.inl a), none, some (.inl g), some (.inl (p + 1)), none] [] (mu m1 62 ((am_s g).toNat) y1) Q))) ∧ (((0 ≤ am_s p ∧ am_s p < m 54 0) ∧ nv (m 54) (8 + (am_s p).toNat) = am_s 3) → ok 5 227 74 [some (.inr (.inr (some 53))), some (.inl a), none, some (.inl g), some (.inl (p + 1)), none] [] m Q)))))) : ok 5 227 74 [some (.inr (.inr (some 53))), some (.inl a), none, some (.inl g), some (.inl p), none] [] m Q := by
  refine ok_sg (pc' := 82) (ls' := [some (.inr (.inr (some 53))), some (.inl a), none, some (.inl g), some (.inl p), none]) (st' := [.inl (m 54 0), .inl p]) (m' := m) (fun fx hfx o hk => ?_) ?_
  · refine r_ld (pc' := 76) hM_227 d_227_74 rfl rfl ?_
    refine r_ld (pc' := 77) hM_227 d_227_76 rfl rfl ?_
    refine r_gR (pc' := 80) (v := 54) hM_227 d_227_77 rfl (by decide +kernel) ?_
    refine r_k (pc' := 81) (v := .inl 0) hM_227 d_227_80 rfl rfl ?_
    refine r_iae (pc' := 82) (n := 168) (z := (m 54 0)) hM_227 d_227_81 rfl rfl (by decide) (by rw [show (am_s 0).toNat = 0 by decide]) ?_
    exact hk
  refine ok_ic (pc' := 150) (pc2 := 85) hM_227 d_227_82 (by decide) rfl (fun hz1 => ?_) (fun hz1 => ?_)
  · have H := H.1 hz1
    refine ok_sg (pc' := 40) (ls' := [some (.inr (.inr (some 53))), some (.inl a), none, some (.inl (g + 1)), none, none]) (st' := []) (m' := m) (fun fx hfx o hk => ?_) ?_
    · refine r_sto (pc' := 153) (ls' := [some (.inr (.inr (some 53))), some (.inl a), none, some (.inl (g + 1)), some (.inl p), none]) hM_227 d_227_150 rfl rfl ?_
      refine r_go (pc' := 40) hM_227 d_227_153 (by decide) ?_
      refine rn_wk (a := [some (.inr (.inr (some 53))), some (.inl a), none, some (.inl (g + 1)), none, none]) (by simp only [am_le, and_self]) ?_
      exact hk
    exact H
  · have H := H.2 hz1
    obtain ⟨hz2, H⟩ := H
    refine ok_sg (pc' := 91) (ls' := [some (.inr (.inr (some 53))), some (.inl a), none, some (.inl g), some (.inl p), none]) (st' := [.inl 1, .inl (((cnt (am_s g).toNat 12 : Nat) : Int))]) (m' := m) (fun fx hfx o hk => ?_) ?_
    · refine r_ld (pc' := 86) hM_227 d_227_85 rfl rfl ?_
      refine r_stk (pc' := 87) (st' := [.inr (.inl (am_s g))]) hM_227 d_227_86 rfl rfl ?_
      refine r_cl (pc' := 90) (c := (193, 2)) (a := [.inr (.inl (am_s g))]) (q := []) hM_227 d_227_87 rfl (by decide +kernel) hM_193 rfl rfl rfl (Nat.le_of_ble_eq_true rfl) (Nat.le_of_ble_eq_true rfl) (Or.inl rfl) (c_193  m (am_s g) hz2) (Nat.le_of_ble_eq_true rfl) ?_
      show rn fx 5 (0, 0) 227 90 [some (.inr (.inr (some 53))), some (.inl a), none, some (.inl g), some (.inl p), none] [.inl (((cnt (am_s g).toNat 12 : Nat) : Int))] (st0 m) o
      refine r_k (pc' := 91) (v := .inl 1) hM_227 d_227_90 rfl rfl ?_
      exact hk
    refine ok_ic (pc' := 150) (pc2 := 94) hM_227 d_227_91 (by decide) rfl (fun hz3 => ?_) (fun hz3 => ?_)
    · have H := H.1 hz3
      refine ok_sg (pc' := 40) (ls' := [some (.inr (.inr (some 53))), some (.inl a), none, some (.inl (g + 1)), none, none]) (st' := []) (m' := m) (fun fx hfx o hk => ?_) ?_
      · refine r_sto (pc' := 153) (ls' := [some (.inr (.inr (some 53))), some (.inl a), none, some (.inl (g + 1)), some (.inl p), none]) hM_227 d_227_150 rfl rfl ?_
        refine r_go (pc' := 40) hM_227 d_227_153 (by decide) ?_
        refine rn_wk (a := [some (.inr (.inr (some 53))), some (.inl a), none, some (.inl (g + 1)), none, none]) (by simp only [am_le, and_self]) ?_
        exact hk
      exact H
    · have H := H.2 hz3
      obtain ⟨hz4, H⟩ := H
      refine ok_sg (pc' := 101) (ls' := [some (.inr (.inr (some 53))), some (.inl a), none, some (.inl g), some (.inl p), none]) (st' := [.inl ((if (0 ≤ am_s p ∧ am_s p < m 54 0) ∧ nv (m 54) (8 + (am_s p).toNat) = am_s 3 then 1 else 0))]) (m' := m) (fun fx hfx o hk => ?_) ?_
      · refine r_ld (pc' := 95) hM_227 d_227_94 rfl rfl ?_
        refine r_ld (pc' := 97) hM_227 d_227_95 rfl rfl ?_
        refine r_k (pc' := 98) (v := .inl 3) hM_227 d_227_97 rfl rfl ?_
        refine r_cl (pc' := 101) (c := (187, 0)) (a := [.inr (.inr (some 53)), .inl p, .inl 3]) (q := []) hM_227 d_227_98 rfl (by decide +kernel) hM_187 rfl rfl rfl (Nat.le_of_ble_eq_true rfl) (Nat.le_of_ble_eq_true rfl) (Or.inr rfl) (n_187  m p 3 hz4) (Nat.le_of_ble_eq_true rfl) ?_
        show rn fx 5 (0, 0) 227 101 [some (.inr (.inr (some 53))), some (.inl a), none, some (.inl g), some (.inl p), none] [.inl ((if (0 ≤ am_s p ∧ am_s p < m 54 0) ∧ nv (m 54) (8 + (am_s p).toNat) = am_s 3 then 1 else 0))] (st0 m) o
        exact hk
      refine ok_if (pc' := 107) (pc2 := 104) hM_227 d_227_101 (by decide) rfl (fun hz5 => ?_) (fun hz5 => ?_)
      · have H := H.1 (as_ite.mp hz5)
        obtain ⟨hz6, H⟩ := H
        refine ok_sg (pc' := 111) (ls' := [some (.inr (.inr (some 53))), some (.inl a), none, some (.inl g), some (.inl p), none]) (st' := [.inl p, .inl g, .inr (.inr (some 53))]) (m' := m) (fun fx hfx o hk => ?_) ?_
        · refine r_ld (pc' := 108) hM_227 d_227_107 rfl rfl ?_
          refine r_ld (pc' := 109) hM_227 d_227_108 rfl rfl ?_
          refine r_ld (pc' := 111) hM_227 d_227_109 rfl rfl ?_
          exact hk
        refine ok_cl (pc' := 114) (c := (228, 0)) (a := [.inr (.inr (some 53)), .inl g, .inl p]) (q := []) hM_227 d_227_111 rfl (by decide +kernel) hM_228 rfl rfl rfl (Nat.le_of_ble_eq_true rfl) (Nat.le_of_ble_eq_true rfl) (Or.inr rfl) (z_228  m g p hz6) (Nat.le_of_ble_eq_true rfl) ?_
        rintro _ m1 ⟨rfl, hz7⟩
        replace H := H  m1 hz7
        show ok 5 227 114 [some (.inr (.inr (some 53))), some (.inl a), none, some (.inl g), some (.inl p), none] [.inl (kvl (m 62) g.toNat (Lf (nv (m 54)) (fun j => (m 59 j).toNat) (m 53 19).toNat p.toNat) (m 53 19).toNat)] m1 Q
        obtain ⟨hz8, H⟩ := H
        refine ok_sg (pc' := 129) (ls' := [some (.inr (.inr (some 53))), some (.inl a), none, some (.inl g), some (.inl p), some (.inl (kvl (m 62) g.toNat (Lf (nv (m 54)) (fun j => (m 59 j).toNat) (m 53 19).toNat p.toNat) (m 53 19).toNat))]) (st' := [.inl (m1 62 ((am_s g).toNat)), .inl (kvl (m 62) g.toNat (Lf (nv (m 54)) (fun j => (m 59 j).toNat) (m 53 19).toNat p.toNat) (m 53 19).toNat), .inl g, .inr (.inr (some 62))]) (m' := m1) (fun fx hfx o hk => ?_) ?_
        · refine r_sto (pc' := 116) (ls' := [some (.inr (.inr (some 53))), some (.inl a), none, some (.inl g), some (.inl p), some (.inl (kvl (m 62) g.toNat (Lf (nv (m 54)) (fun j => (m 59 j).toNat) (m 53 19).toNat p.toNat) (m 53 19).toNat))]) hM_227 d_227_114 rfl rfl ?_
          refine r_ld (pc' := 117) hM_227 d_227_116 rfl rfl ?_
          refine r_gR (pc' := 120) (v := 62) hM_227 d_227_117 rfl (by decide +kernel) ?_
          refine r_ld (pc' := 121) hM_227 d_227_120 rfl rfl ?_
          refine r_ld (pc' := 123) hM_227 d_227_121 rfl rfl ?_
          refine r_ld (pc' := 124) hM_227 d_227_123 rfl rfl ?_
          refine r_gR (pc' := 127) (v := 62) hM_227 d_227_124 rfl (by decide +kernel) ?_
          refine r_ld (pc' := 128) hM_227 d_227_127 rfl rfl ?_
          refine r_ia (pc' := 129) (n := 1024) hM_227 d_227_128 rfl rfl hz8 ?_
          exact hk
        refine ok_sg (pc' := 143) (ls' := [some (.inr (.inr (some 53))), some (.inl a), none, some (.inl g), some (.inl p), some (.inl (kvl (m 62) g.toNat (Lf (nv (m 54)) (fun j => (m 59 j).toNat) (m 53 19).toNat p.toNat) (m 53 19).toNat))]) (st' := [.inl (if am_s (m1 62 ((am_s g).toNat)) ≤ am_s (kvl (m 62) g.toNat (Lf (nv (m 54)) (fun j => (m 59 j).toNat) (m 53 19).toNat p.toNat) (m 53 19).toNat) then (m1 62 ((am_s g).toNat)) else (kvl (m 62) g.toNat (Lf (nv (m 54)) (fun j => (m 59 j).toNat) (m 53 19).toNat p.toNat) (m 53 19).toNat)), .inl g, .inr (.inr (some 62))]) (m' := m1) (fun fx hfx o K => ?_) ?_
        · refine r_ic (pc' := 137) (pc2 := 132) hM_227 d_227_129 (by decide) rfl (fun hz9 => ?_) (fun hz9 => ?_)
          · have hz9 : am_s (m1 62 ((am_s g).toNat)) ≤ am_s (kvl (m 62) g.toNat (Lf (nv (m 54)) (fun j => (m 59 j).toNat) (m 53 19).toNat p.toNat) (m 53 19).toNat) := hz9
            rw [if_pos hz9] at K
            refine r_ld (pc' := 138) hM_227 d_227_137 rfl rfl ?_
            refine r_gR (pc' := 141) (v := 62) hM_227 d_227_138 rfl (by decide +kernel) ?_
            refine r_ld (pc' := 142) hM_227 d_227_141 rfl rfl ?_
            refine r_ia (pc' := 143) (n := 1024) hM_227 d_227_142 rfl rfl hz8 ?_
            exact K
          · have hz9 : ¬ (am_s (m1 62 ((am_s g).toNat)) ≤ am_s (kvl (m 62) g.toNat (Lf (nv (m 54)) (fun j => (m 59 j).toNat) (m 53 19).toNat p.toNat) (m 53 19).toNat)) := hz9
            rw [if_neg hz9] at K
            refine r_ld (pc' := 134) hM_227 d_227_132 rfl rfl ?_
            refine r_go (pc' := 143) hM_227 d_227_134 (by decide) ?_
            exact K
        have K : ∀ y1 : Int, y1 = (if am_s (m1 62 ((am_s g).toNat)) ≤ am_s (kvl (m 62) g.toNat (Lf (nv (m 54)) (fun j => (m 59 j).toNat) (m 53 19).toNat p.toNat) (m 53 19).toNat) then (m1 62 ((am_s g).toNat)) else (kvl (m 62) g.toNat (Lf (nv (m 54)) (fun j => (m 59 j).toNat) (m 53 19).toNat p.toNat) (m 53 19).toNat)) → ok 5 227 143 [some (.inr (.inr (some 53))), some (.inl a), none, some (.inl g), some (.inl p), some (.inl (kvl (m 62) g.toNat (Lf (nv (m 54)) (fun j => (m 59 j).toNat) (m 53 19).toNat p.toNat) (m 53 19).toNat))] [.inl y1, .inl g, .inr (.inr (some 62))] m1 Q := by
          intro y1 hy1
          replace H := H y1 hy1
          refine ok_sg (pc' := 74) (ls' := [some (.inr (.inr (some 53))), some (.inl a), none, some (.inl g), some (.inl (p + 1)), none]) (st' := []) (m' := mu m1 62 ((am_s g).toNat) y1) (fun fx hfx o hk => ?_) ?_
          · refine r_is (pc' := 144) (n := 1024) hM_227 d_227_143 rfl rfl hz8 ?_
            refine r_sto (pc' := 147) (ls' := [some (.inr (.inr (some 53))), some (.inl a), none, some (.inl g), some (.inl (p + 1)), some (.inl (kvl (m 62) g.toNat (Lf (nv (m 54)) (fun j => (m 59 j).toNat) (m 53 19).toNat p.toNat) (m 53 19).toNat))]) hM_227 d_227_144 rfl rfl ?_
            refine r_go (pc' := 74) hM_227 d_227_147 (by decide) ?_
            refine rn_wk (a := [some (.inr (.inr (some 53))), some (.inl a), none, some (.inl g), some (.inl (p + 1)), none]) (by simp only [am_le, and_self]) ?_
            exact hk
          exact H
        exact K _ rfl
      · have H := H.2 (as_iteN.mp hz5)
        refine ok_sg (pc' := 74) (ls' := [some (.inr (.inr (some 53))), some (.inl a), none, some (.inl g), some (.inl (p + 1)), none]) (st' := []) (m' := m) (fun fx hfx o hk => ?_) ?_
        · refine r_go (pc' := 144) hM_227 d_227_104 (by decide) ?_
          refine r_sto (pc' := 147) (ls' := [some (.inr (.inr (some 53))), some (.inl a), none, some (.inl g), some (.inl (p + 1)), none]) hM_227 d_227_144 rfl rfl ?_
          refine r_go (pc' := 74) hM_227 d_227_147 (by decide) ?_
          exact hk
        exact H
theorem u_227_40 {Q : List am_V → am_M → Prop} {m : am_M} {a : Int} {g : Int}  (H : ((am_s (am_shl 1 (m 53 19)) ≤ am_s g) → (0 ≤ am_s ((am_shl 1 (m 53 19)) - 1) ∧ am_s ((am_shl 1 (m 53 19)) - 1) < (1024 : Nat)) ∧ (∀ y1 : Int, y1 = (if am_s (m 62 ((am_s ((am_shl 1 (m 53 19)) - 1)).toNat)) < 99 then (m 62 ((am_s ((am_shl 1 (m 53 19)) - 1)).toNat)) else (-1)) → Q [.inl y1] m)) ∧ ((¬ (am_s (am_shl 1 (m 53 19)) ≤ am_s g)) → (0 ≤ (am_s g) ∧ (am_s g) < 2147483648) ∧ (∀ y2 : Int, y2 = (if ¬ am_s (((cnt (am_s g).toNat 12 : Nat) : Int)) = 1 then 99 else 0) → (0 ≤ am_s g ∧ am_s g < (1024 : Nat)) ∧ (ok 5 227 74 [some (.inr (.inr (some 53))), some (.inl a), none, some (.inl g), some (.inl 0), none] [] (mu m 62 ((am_s g).toNat) y2) Q)))) : ok 5 227 40 [some (.inr (.inr (some 53))), some (.inl a), none, some (.inl g), none, none] [] m Q := by
  refine ok_sg (pc' := 47) (ls' := [some (.inr (.inr (some 53))), some (.inl a), none, some (.inl g), none, none]) (st' := [.inl (am_shl 1 (m 53 19)), .inl g]) (m' := m) (fun fx hfx o hk => ?_) ?_
  · refine r_ld (pc' := 41) hM_227 d_227_40 rfl rfl ?_
    refine r_k (pc' := 42) (v := .inl 1) hM_227 d_227_41 rfl rfl ?_
    refine r_ld (pc' := 43) hM_227 d_227_42 rfl rfl ?_
    refine r_gI (pc' := 46) (k0 := 19) hM_227 d_227_43 rfl (by decide +kernel) ?_
    refine r_b (pc' := 47) (z := (am_shl 1 (m 53 19))) hM_227 d_227_46 rfl rfl ?_
    exact hk
  refine ok_ic (pc' := 156) (pc2 := 50) hM_227 d_227_47 (by decide) rfl (fun hz1 => ?_) (fun hz1 => ?_)
  · have H := H.1 hz1
    obtain ⟨hz2, H⟩ := H
    refine ok_sg (pc' := 173) (ls' := [some (.inr (.inr (some 53))), some (.inl a), none, some (.inl (m 62 ((am_s ((am_shl 1 (m 53 19)) - 1)).toNat))), none, none]) (st' := [.inl 99, .inl (m 62 ((am_s ((am_shl 1 (m 53 19)) - 1)).toNat))]) (m' := m) (fun fx hfx o hk => ?_) ?_
    · refine r_ld (pc' := 157) hM_227 d_227_156 rfl rfl ?_
      refine r_gR (pc' := 160) (v := 62) hM_227 d_227_157 rfl (by decide +kernel) ?_
      refine r_k (pc' := 161) (v := .inl 1) hM_227 d_227_160 rfl rfl ?_
      refine r_ld (pc' := 162) hM_227 d_227_161 rfl rfl ?_
      refine r_gI (pc' := 165) (k0 := 19) hM_227 d_227_162 rfl (by decide +kernel) ?_
      refine r_b (pc' := 166) (z := (am_shl 1 (m 53 19))) hM_227 d_227_165 rfl rfl ?_
      refine r_k (pc' := 167) (v := .inl 1) hM_227 d_227_166 rfl rfl ?_
      refine r_b (pc' := 168) (z := ((am_shl 1 (m 53 19)) - 1)) hM_227 d_227_167 rfl rfl ?_
      refine r_ia (pc' := 169) (n := 1024) hM_227 d_227_168 rfl rfl hz2 ?_
      refine r_sto (pc' := 170) (ls' := [some (.inr (.inr (some 53))), some (.inl a), none, some (.inl (m 62 ((am_s ((am_shl 1 (m 53 19)) - 1)).toNat))), none, none]) hM_227 d_227_169 rfl rfl ?_
      refine r_ld (pc' := 171) hM_227 d_227_170 rfl rfl ?_
      refine r_k (pc' := 173) (v := .inl 99) hM_227 d_227_171 rfl rfl ?_
      exact hk
    refine ok_sg (pc' := 181) (ls' := [some (.inr (.inr (some 53))), some (.inl a), none, some (.inl (m 62 ((am_s ((am_shl 1 (m 53 19)) - 1)).toNat))), none, none]) (st' := [.inl (if am_s (m 62 ((am_s ((am_shl 1 (m 53 19)) - 1)).toNat)) < 99 then (m 62 ((am_s ((am_shl 1 (m 53 19)) - 1)).toNat)) else (-1))]) (m' := m) (fun fx hfx o K => ?_) ?_
    · refine r_ic (pc' := 180) (pc2 := 176) hM_227 d_227_173 (by decide) rfl (fun hz3 => ?_) (fun hz3 => ?_)
      · have hz3 : am_s (m 62 ((am_s ((am_shl 1 (m 53 19)) - 1)).toNat)) < 99 := hz3
        rw [if_pos hz3] at K
        refine r_ld (pc' := 181) hM_227 d_227_180 rfl rfl ?_
        exact K
      · have hz3 : ¬ (am_s (m 62 ((am_s ((am_shl 1 (m 53 19)) - 1)).toNat)) < 99) := hz3
        rw [if_neg hz3] at K
        refine r_k (pc' := 177) (v := .inl (-1)) hM_227 d_227_176 rfl rfl ?_
        refine r_go (pc' := 181) hM_227 d_227_177 (by decide) ?_
        exact K
    have K : ∀ y1 : Int, y1 = (if am_s (m 62 ((am_s ((am_shl 1 (m 53 19)) - 1)).toNat)) < 99 then (m 62 ((am_s ((am_shl 1 (m 53 19)) - 1)).toNat)) else (-1)) → ok 5 227 181 [some (.inr (.inr (some 53))), some (.inl a), none, some (.inl (m 62 ((am_s ((am_shl 1 (m 53 19)) - 1)).toNat))), none, none] [.inl y1] m Q := by
      intro y1 hy1
      replace H := H y1 hy1
      exact ok_rt (fun fx _ => rt_i hM_227 d_227_181 rfl) H
    exact K _ rfl
  · have H := H.2 hz1
    obtain ⟨hz4, H⟩ := H
    refine ok_sg (pc' := 61) (ls' := [some (.inr (.inr (some 53))), some (.inl a), none, some (.inl g), none, none]) (st' := [.inl 1, .inl (((cnt (am_s g).toNat 12 : Nat) : Int)), .inl g, .inr (.inr (some 62))]) (m' := m) (fun fx hfx o hk => ?_) ?_
    · refine r_ld (pc' := 51) hM_227 d_227_50 rfl rfl ?_
      refine r_gR (pc' := 54) (v := 62) hM_227 d_227_51 rfl (by decide +kernel) ?_
      refine r_ld (pc' := 55) hM_227 d_227_54 rfl rfl ?_
      refine r_ld (pc' := 56) hM_227 d_227_55 rfl rfl ?_
      refine r_stk (pc' := 57) (st' := [.inr (.inl (am_s g)), .inl g, .inr (.inr (some 62))]) hM_227 d_227_56 rfl rfl ?_
      refine r_cl (pc' := 60) (c := (193, 2)) (a := [.inr (.inl (am_s g))]) (q := [.inl g, .inr (.inr (some 62))]) hM_227 d_227_57 rfl (by decide +kernel) hM_193 rfl rfl rfl (Nat.le_of_ble_eq_true rfl) (Nat.le_of_ble_eq_true rfl) (Or.inl rfl) (c_193  m (am_s g) hz4) (Nat.le_of_ble_eq_true rfl) ?_
      show rn fx 5 (0, 0) 227 60 [some (.inr (.inr (some 53))), some (.inl a), none, some (.inl g), none, none] [.inl (((cnt (am_s g).toNat 12 : Nat) : Int)), .inl g, .inr (.inr (some 62))] (st0 m) o
      refine r_k (pc' := 61) (v := .inl 1) hM_227 d_227_60 rfl rfl ?_
      exact hk
    refine ok_sg (pc' := 70) (ls' := [some (.inr (.inr (some 53))), some (.inl a), none, some (.inl g), none, none]) (st' := [.inl (if ¬ am_s (((cnt (am_s g).toNat 12 : Nat) : Int)) = 1 then 99 else 0), .inl g, .inr (.inr (some 62))]) (m' := m) (fun fx hfx o K => ?_) ?_
    · refine r_ic (pc' := 68) (pc2 := 64) hM_227 d_227_61 (by decide) rfl (fun hz5 => ?_) (fun hz5 => ?_)
      · have hz5 : ¬ am_s (((cnt (am_s g).toNat 12 : Nat) : Int)) = 1 := hz5
        rw [if_pos hz5] at K
        refine r_k (pc' := 70) (v := .inl 99) hM_227 d_227_68 rfl rfl ?_
        exact K
      · have hz5 : ¬ (¬ am_s (((cnt (am_s g).toNat 12 : Nat) : Int)) = 1) := hz5
        rw [if_neg hz5] at K
        refine r_k (pc' := 65) (v := .inl 0) hM_227 d_227_64 rfl rfl ?_
        refine r_go (pc' := 70) hM_227 d_227_65 (by decide) ?_
        exact K
    have K : ∀ y2 : Int, y2 = (if ¬ am_s (((cnt (am_s g).toNat 12 : Nat) : Int)) = 1 then 99 else 0) → ok 5 227 70 [some (.inr (.inr (some 53))), some (.inl a), none, some (.inl g), none, none] [.inl y2, .inl g, .inr (.inr (some 62))] m Q := by
      intro y2 hy2
      replace H := H y2 hy2
      obtain ⟨hz6, H⟩ := H
      refine ok_sg (pc' := 74) (ls' := [some (.inr (.inr (some 53))), some (.inl a), none, some (.inl g), some (.inl 0), none]) (st' := []) (m' := mu m 62 ((am_s g).toNat) y2) (fun fx hfx o hk => ?_) ?_
      · refine r_is (pc' := 71) (n := 1024) hM_227 d_227_70 rfl rfl hz6 ?_
        refine r_k (pc' := 72) (v := .inl 0) hM_227 d_227_71 rfl rfl ?_
        refine r_sto (pc' := 74) (ls' := [some (.inr (.inr (some 53))), some (.inl a), none, some (.inl g), some (.inl 0), none]) hM_227 d_227_72 rfl rfl ?_
        exact hk
      exact H
    exact K _ rfl
theorem u_227_0 {Q : List am_V → am_M → Prop} {m : am_M} {a : Int}  (H : (WFG ((mu m 53 0 0) 54) ∧ RWM (mu m 53 0 0) ∧ am_s a = a) ∧ (∀ (m1 : am_M), ((krm (mu m 53 0 0) a ≠ 0 → m1 = (mu m 53 0 0)) ∧ (krm (mu m 53 0 0) a = 0 → FITS (mu m 53 0 0) a.toNat m1)) → ((am_s (krm (mu m 53 0 0) a) = 0) → ((¬ am_s (m1 53 19) = 0) → ((am_s (m1 53 19) ≤ 10) → ok 5 227 40 [some (.inr (.inr (some 53))), some (.inl a), none, some (.inl 1), none, none] [] m1 Q) ∧ ((¬ (am_s (m1 53 19) ≤ 10)) → Q [.inl (-4)] m1)) ∧ ((am_s (m1 53 19) = 0) → Q [.inl (-1)] m1)) ∧ ((¬ (am_s (krm (mu m 53 0 0) a) = 0)) → Q [.inl (krm (mu m 53 0 0) a)] m1))) : ok 5 227 0 [some (.inr (.inr (some 53))), some (.inl a), none, none, none, none] [] m Q := by
  obtain ⟨hz1, H⟩ := H
  refine ok_sg (pc' := 7) (ls' := [some (.inr (.inr (some 53))), some (.inl a), none, none, none, none]) (st' := [.inl a, .inr (.inr (some 53))]) (m' := mu m 53 0 0) (fun fx hfx o hk => ?_) ?_
  · refine r_ld (pc' := 1) hM_227 d_227_0 rfl rfl ?_
    refine r_k (pc' := 2) (v := .inl 0) hM_227 d_227_1 rfl rfl ?_
    refine r_pI (pc' := 5) (k0 := 0) hM_227 d_227_2 rfl (by decide +kernel) ?_
    refine r_ld (pc' := 6) hM_227 d_227_5 rfl rfl ?_
    refine r_ld (pc' := 7) hM_227 d_227_6 rfl rfl ?_
    exact hk
  refine ok_cl (pc' := 10) (c := (213, 0)) (a := [.inr (.inr (some 53)), .inl a]) (q := []) hM_227 d_227_7 rfl (by decide +kernel) hM_213 rfl rfl rfl (Nat.le_of_ble_eq_true rfl) (Nat.le_of_ble_eq_true rfl) (Or.inr rfl) (z_213  (mu m 53 0 0) a hz1) (Nat.le_of_ble_eq_true rfl) ?_
  rintro _ m1 ⟨rfl, hz2⟩
  replace H := H  m1 hz2
  show ok 5 227 10 [some (.inr (.inr (some 53))), some (.inl a), none, none, none, none] [.inl (krm (mu m 53 0 0) a)] m1 Q
  refine ok_sg (pc' := 12) (ls' := [some (.inr (.inr (some 53))), some (.inl a), some (.inl (krm (mu m 53 0 0) a)), none, none, none]) (st' := [.inl (krm (mu m 53 0 0) a)]) (m' := m1) (fun fx hfx o hk => ?_) ?_
  · refine r_sto (pc' := 11) (ls' := [some (.inr (.inr (some 53))), some (.inl a), some (.inl (krm (mu m 53 0 0) a)), none, none, none]) hM_227 d_227_10 rfl rfl ?_
    refine r_ld (pc' := 12) hM_227 d_227_11 rfl rfl ?_
    exact hk
  refine ok_if (pc' := 17) (pc2 := 15) hM_227 d_227_12 (by decide) rfl (fun hz3 => ?_) (fun hz3 => ?_)
  · have H := H.1 hz3
    refine ok_sg (pc' := 21) (ls' := [some (.inr (.inr (some 53))), some (.inl a), some (.inl (krm (mu m 53 0 0) a)), none, none, none]) (st' := [.inl (m1 53 19)]) (m' := m1) (fun fx hfx o hk => ?_) ?_
    · refine r_ld (pc' := 18) hM_227 d_227_17 rfl rfl ?_
      refine r_gI (pc' := 21) (k0 := 19) hM_227 d_227_18 rfl (by decide +kernel) ?_
      exact hk
    refine ok_if (pc' := 26) (pc2 := 24) hM_227 d_227_21 (by decide) rfl (fun hz4 => ?_) (fun hz4 => ?_)
    · have H := H.1 hz4
      refine ok_sg (pc' := 32) (ls' := [some (.inr (.inr (some 53))), some (.inl a), some (.inl (krm (mu m 53 0 0) a)), none, none, none]) (st' := [.inl 10, .inl (m1 53 19)]) (m' := m1) (fun fx hfx o hk => ?_) ?_
      · refine r_ld (pc' := 27) hM_227 d_227_26 rfl rfl ?_
        refine r_gI (pc' := 30) (k0 := 19) hM_227 d_227_27 rfl (by decide +kernel) ?_
        refine r_k (pc' := 32) (v := .inl 10) hM_227 d_227_30 rfl rfl ?_
        exact hk
      refine ok_ic (pc' := 38) (pc2 := 35) hM_227 d_227_32 (by decide) rfl (fun hz5 => ?_) (fun hz5 => ?_)
      · have H := H.1 hz5
        refine ok_sg (pc' := 40) (ls' := [some (.inr (.inr (some 53))), some (.inl a), none, some (.inl 1), none, none]) (st' := []) (m' := m1) (fun fx hfx o hk => ?_) ?_
        · refine r_k (pc' := 39) (v := .inl 1) hM_227 d_227_38 rfl rfl ?_
          refine r_sto (pc' := 40) (ls' := [some (.inr (.inr (some 53))), some (.inl a), some (.inl (krm (mu m 53 0 0) a)), some (.inl 1), none, none]) hM_227 d_227_39 rfl rfl ?_
          refine rn_wk (a := [some (.inr (.inr (some 53))), some (.inl a), none, some (.inl 1), none, none]) (by simp only [am_le, and_self]) ?_
          exact hk
        exact H
      · have H := H.2 hz5
        refine ok_sg (pc' := 37) (ls' := [some (.inr (.inr (some 53))), some (.inl a), some (.inl (krm (mu m 53 0 0) a)), none, none, none]) (st' := [.inl (-4)]) (m' := m1) (fun fx hfx o hk => ?_) ?_
        · refine r_k (pc' := 37) (v := .inl (-4)) hM_227 d_227_35 rfl rfl ?_
          exact hk
        exact ok_rt (fun fx _ => rt_i hM_227 d_227_37 rfl) H
    · have H := H.2 (Decidable.not_not.mp hz4)
      refine ok_sg (pc' := 25) (ls' := [some (.inr (.inr (some 53))), some (.inl a), some (.inl (krm (mu m 53 0 0) a)), none, none, none]) (st' := [.inl (-1)]) (m' := m1) (fun fx hfx o hk => ?_) ?_
      · refine r_k (pc' := 25) (v := .inl (-1)) hM_227 d_227_24 rfl rfl ?_
        exact hk
      exact ok_rt (fun fx _ => rt_i hM_227 d_227_25 rfl) H
  · have H := H.2 hz3
    refine ok_sg (pc' := 16) (ls' := [some (.inr (.inr (some 53))), some (.inl a), some (.inl (krm (mu m 53 0 0) a)), none, none, none]) (st' := [.inl (krm (mu m 53 0 0) a)]) (m' := m1) (fun fx hfx o hk => ?_) ?_
    · refine r_ld (pc' := 16) hM_227 d_227_15 rfl rfl ?_
      exact hk
    exact ok_rt (fun fx _ => rt_i hM_227 d_227_16 rfl) H
theorem cnt_z {B : Nat} : ∀ n, cnt B n = 0 → ∀ i, i < n → B.testBit i = false := by
  intro n
  induction n with
  | zero => intro _ i h; exact absurd h (Nat.not_lt_zero _)
  | succ n ih =>
    intro h i hi
    rw [cnt_s] at h
    cases hb : B.testBit n
    · by_cases hh : i = n
      · rw [hh]; exact hb
      · exact ih (by omega) i (by omega)
    · rw [hb, if_pos rfl] at h
      omega
theorem cnt_pos {B : Nat} (h1 : 1 ≤ B) (h2 : B < 4096) : 1 ≤ cnt B 12 := by
  by_cases h : cnt B 12 = 0
  · have hz := cnt_z 12 h
    have : B = 0 := by
      apply Nat.eq_of_testBit_eq
      intro i
      rw [Nat.zero_testBit]
      by_cases hi : i < 12
      · exact hz i hi
      · exact Nat.testBit_lt_two_pow (Nat.lt_of_lt_of_le h2 (Nat.pow_le_pow_right (by decide : 0 < 2) (by omega : 12 ≤ i)))
    omega
  · omega
theorem kvl_gap {K : Nat → Int} {g : Nat → Int} {f : Nat → Nat} {n p G : Nat} (hg : g (8 + p) = 3) (h1 : 1 ≤ G) (h2 : G < 2 ^ n) : kvl K G (Lf g f n p) n = 99 := by
  have hall : ∀ i, G &&& Lf g f n p i = G := by
    intro i
    rw [nat_sub]
    intro j hj
    unfold Lf
    have hjn : j < n := by
      by_cases h : j < n
      · exact h
      · rw [Nat.testBit_lt_two_pow (Nat.lt_of_lt_of_le h2 (Nat.pow_le_pow_right (by decide : 0 < 2) (by omega : n ≤ j)))] at hj
        exact absurd hj (by decide)
    rw [msk_bit, decide_eq_true hjn, Bool.true_and]
    refine decide_eq_true ?_
    rw [tnt_tri, tnt_tri, if_neg (not_not_intro hg), if_neg (not_not_intro hg)]
  have hex : ∃ i, i < n ∧ G.testBit i = true := by
    by_cases h : ∃ i, i < n ∧ G.testBit i = true
    · exact h
    · exfalso
      have : G = 0 := by
        apply Nat.eq_of_testBit_eq
        intro i
        rw [Nat.zero_testBit]
        by_cases hi : i < n
        · cases hb : G.testBit i
          · rfl
          · exact absurd ⟨i, hi, hb⟩ h
        · exact Nat.testBit_lt_two_pow (Nat.lt_of_lt_of_le h2 (Nat.pow_le_pow_right (by decide : 0 < 2) (by omega : n ≤ i)))
      omega
  obtain ⟨i, hi, hb⟩ := hex
  have : kbd G (Lf g f n p) n = true := by
    refine kbd_up (i := i + 1) ?_ n hi
    rw [kbd_s, hb, decide_eq_true (hall i), Bool.true_and, Bool.or_true]
  unfold kvl
  rw [if_pos this]
theorem P_needed {m : am_M} {a : Int} (ha : am_s a = a) (hI : Inv m) : PK 110 3 227 6 [.inl a] m := by
  have hR := Inv_RWS hI
  have hv := Inv_vw hI
  have hw := Inv_wf hI
  have hN := hw.1
  have hF := may_lt (g := nv (m 54)) (nv0_le hw)
  by_cases c : kru m a = 0
  · obtain ⟨c1, c2, c3⟩ := kru_0 c
    obtain ⟨J, rfl⟩ : ∃ J : Nat, a = (J : Int) := ⟨a.toNat, by omega⟩
    rw [Int.toNat_natCast] at c2 c3
    have eX : ndv (nv (m 54)) (fun x => rat m (25 + 2 * J) (x : Int)) = ndv (nv (m 54)) (rwf m J) := ndv_congr (row_eq hI (by omega) c2 c3)
    have hcl := cf_le (Q := ftq (nv (m 54)) (rwf m J)) (may (nv (m 54)) + 1)
    refine PK_2 (h1 := 6) (h2 := 5) (v := .inl (ndv (nv (m 54)) (rwf m J))) (R := fun m1 => kpC m m1) ?_ ?_ (by decide) (by decide)
    · refine u_110_0 ⟨⟨hR, hv, ha⟩, ?_⟩
      intro mx hmx
      obtain rfl := hmx.symm
      rw [kru_s, ha, Int.toNat_natCast, Inv_nv hI, eX]
      exact ⟨fun _ => ⟨by omega, ⟨hv, hR J (by omega)⟩, fun m2 hm => ⟨rfl, hm⟩⟩, fun q => absurd c q⟩
    · intro m1 hk
      obtain ⟨w1, w2, w3, w4, w5, w6, -⟩ := mod_pre (a := (J : Int)) hI hk
      refine u_227_0 ⟨⟨w1, w2, ha⟩, fun m2 hm => ?_⟩
      rw [w3] at hm ⊢
      rw [kru_s]
      have hf := hm.2 c
      rw [Int.toNat_natCast] at hf
      obtain ⟨x1, x2, x3, x4, x5, x6, x7⟩ := mod_fit hI hk hf
      unfold FTD at x3
      rw [x4, x5] at x3
      obtain ⟨f1, f2⟩ := x3
      have endv : ndv (nv (m 54)) (rwf m J) = if cf (ftq (nv (m 54)) (rwf m J)) (may (nv (m 54)) + 1) = 0 then -1 else if 10 < cf (ftq (nv (m 54)) (rwf m J)) (may (nv (m 54)) + 1) then -4 else ndk (Lf (nv (m 54)) (nthf (ftq (nv (m 54)) (rwf m J)) (may (nv (m 54)) + 1)) (cf (ftq (nv (m 54)) (rwf m J)) (may (nv (m 54)) + 1))) (cf (ftq (nv (m 54)) (rwf m J)) (may (nv (m 54)) + 1)) (m 54 0).toNat := by
        unfold ndv
        rw [nv0]
      rw [endv]
      have hfk := fits_k f2
      have hnf : ∀ j, j < cf (ftq (nv (m 54)) (rwf m J)) (may (nv (m 54)) + 1) → (m2 59 j).toNat = nthf (ftq (nv (m 54)) (rwf m J)) (may (nv (m 54)) + 1) j := by
        intro j hj
        obtain ⟨g1, g2, g3, g4⟩ := hfk j hj
        exact (nthf_eq (by omega) g3 g4).symm
      have hfr : ∀ j, j < cf (ftq (nv (m 54)) (rwf m J)) (may (nv (m 54)) + 1) → 0 ≤ m2 59 j ∧ m2 59 j < 4096 := by
        intro j hj
        obtain ⟨g1, g2, g3, g4⟩ := hfk j hj
        omega
      clear hfk f2 endv hf hm w5 eX
      generalize nthf (ftq (nv (m 54)) (rwf m J)) (may (nv (m 54)) + 1) = f at *
      generalize cf (ftq (nv (m 54)) (rwf m J)) (may (nv (m 54)) + 1) = n at *
      rw [f1, am_s_id (z := (n : Int)) (by omega) (by omega)]
      have e0 : m2 54 0 = m 54 0 := x7 54 0 (by unfold core; omega)
      refine ⟨fun _ => ⟨fun q => ⟨fun q2 => ?_, fun q2 => ⟨by rw [if_neg (by omega), if_pos (by omega)], x6⟩⟩, fun q => ⟨by rw [if_pos (by omega)], x6⟩⟩, fun q => absurd c q⟩
      rw [if_neg (by omega), if_neg (by omega)]
      have hpn : 2 ^ n ≤ 2 ^ 10 := Nat.pow_le_pow_right (by decide) (by omega)
      have hpp : 2 ^ 1 ≤ 2 ^ n := Nat.pow_le_pow_right (by decide) (by omega)
      have hLb : ∀ p i, p < (m 54 0).toNat → i < n → (Lf (nv (m 54)) f n p i).testBit i = true := fun p i _ hi => Lf_bit hi
      have hrg := ktb_rng (L := Lf (nv (m 54)) f n) (n := n) (N := (m 54 0).toNat) hLb
      have eS : am_s (am_shl 1 (n : Int)) = ((2 ^ n : Nat) : Int) := by
        rw [bx_shl1 n (by omega)]
        generalize 2 ^ n = z at *
        exact am_s_id (by omega) (by omega)
      have eS1 : am_s (am_shl 1 (n : Int) - 1) = ((2 ^ n - 1 : Nat) : Int) := by
        rw [bx_shl1 n (by omega)]
        generalize 2 ^ n = z at *
        rw [am_s_id (by omega) (by omega)]
        omega
      obtain ⟨A, hAv⟩ : ∃ A : Nat, 2 ^ n = A + 1 := ⟨2 ^ n - 1, by omega⟩
      have hA1 : 1 ≤ A := by omega
      have key := ok_for (d := 5) (mi := 227) (pc := 40) (Q := fun rr m' => rr = [.inl (ndk (Lf (nv (m 54)) f n) n (m 54 0).toNat)] ∧ Inv m') (σ := Unit) (fun k _ => [some (.inr (.inr (some 53))), some (.inl (J : Int)), none, some (.inl ((k + 1 : Nat) : Int)), none, none]) (fun k _ M => (∀ x, 1 ≤ x → x ≤ k → M 62 x = ktb (Lf (nv (m 54)) f n) n (m 54 0).toNat k x) ∧ ∀ b, b ≠ 62 → M b = m2 b) A ?_ ?_ () m2 ⟨fun x q1 q2 => by omega, fun _ _ => rfl⟩
      · exact key
      · rintro k hk - M ⟨k1, k2⟩ IH
        have hcn := cnt_pos (B := k + 1) (by omega) (by omega)
        have hcl2 := cnt_le (k + 1) 12
        refine u_227_40 ?_
        rw [k2 53 (by decide), f1, eS, am_s_id (z := ((k + 1 : Nat) : Int)) (by omega) (by omega), Int.toNat_natCast, am_s_id (z := ((cnt (k + 1) 12 : Nat) : Int)) (by omega) (by omega)]
        refine ⟨fun q => by omega, fun _ => ⟨by omega, fun y hy => ⟨by omega, ?_⟩⟩⟩
        have nxt : ∀ M' : am_M, M' 62 (k + 1) = kst (ktb (Lf (nv (m 54)) f n) n (m 54 0).toNat k) (k + 1) (Lf (nv (m 54)) f n) n (m 54 0).toNat → (∀ x, x ≠ k + 1 → M' 62 x = M 62 x) → (∀ b, b ≠ 62 → M' b = M b) → ok 5 227 40 [some (.inr (.inr (some 53))), some (.inl (J : Int)), none, some (.inl (((k + 1 : Nat) : Int) + 1)), none, none] [] M' (fun rr m' => rr = [.inl (ndk (Lf (nv (m 54)) f n) n (m 54 0).toNat)] ∧ Inv m') := by
          intro M' z1 z2 z3
          refine IH () M' ⟨fun x q1 q3 => ?_, fun b hb => by rw [z3 b hb, k2 b hb]⟩
          rw [ktb_s]
          by_cases hx : x = k + 1
          · rw [if_pos hx, hx, z1]
          · rw [if_neg hx, z2 x hx, k1 x q1 (by omega)]
        by_cases hc1 : cnt (k + 1) 12 = 1
        · rw [if_neg (by omega)] at hy
          have hkst : kst (ktb (Lf (nv (m 54)) f n) n (m 54 0).toNat k) (k + 1) (Lf (nv (m 54)) f n) n (m 54 0).toNat = 0 := by
            unfold kst
            rw [if_pos hc1]
          have nx0 := nxt (mu M 62 (k + 1) y) (by rw [mu_same, hkst, hy]) (fun x hx => mu_k hx) (fun b hb => mu_rf hb)
          refine u_227_74 ?_
          rw [am_s_id (z := ((k + 1 : Nat) : Int)) (by omega) (by omega), Int.toNat_natCast, am_s_id (z := ((cnt (k + 1) 12 : Nat) : Int)) (by omega) (by omega)]
          exact ⟨fun _ => nx0, fun _ => ⟨by omega, fun _ => nx0, fun q => by omega⟩⟩
        · rw [if_pos (by omega)] at hy
          have hrk : ∀ x, 1 ≤ x → x < k + 1 → 0 ≤ ktb (Lf (nv (m 54)) f n) n (m 54 0).toNat k x ∧ ktb (Lf (nv (m 54)) f n) n (m 54 0).toNat k x ≤ 99 := fun x _ _ => hrg k x
          refine ok_for (σ := Unit) (fun p _ => [some (.inr (.inr (some 53))), some (.inl (J : Int)), none, some (.inl ((k + 1 : Nat) : Int)), some (.inl (p : Int)), none]) (fun p _ M' => M' 62 (k + 1) = kfw (ktb (Lf (nv (m 54)) f n) n (m 54 0).toNat k) (k + 1) (Lf (nv (m 54)) f n) n p ∧ (∀ x, x ≠ k + 1 → M' 62 x = M 62 x) ∧ ∀ b, b ≠ 62 → M' b = M b) (m 54 0).toNat ?_ ?_ () _ ⟨by rw [mu_same, hy]; rfl, fun x hx => mu_k hx, fun b hb => mu_rf hb⟩
          · rintro p hp - M' ⟨z1, z2, z3⟩ IH2
            have z4 : ∀ b, b ≠ 62 → M' b = m2 b := fun b hb => by rw [z3 b hb, k2 b hb]
            have hfw := kfw_rng (K := ktb (Lf (nv (m 54)) f n) n (m 54 0).toNat k) (G := k + 1) (L := Lf (nv (m 54)) f n) (n := n) hrk p fun p' i hp' hi => hLb p' i (by omega) hi
            have hvl := kvl_rng (K := ktb (Lf (nv (m 54)) f n) n (m 54 0).toNat k) (G := k + 1) (l := Lf (nv (m 54)) f n p) (n := n) hrk fun i hi => hLb p i hp hi
            have e62 : ∀ x, 1 ≤ x → x < k + 1 → M' 62 x = ktb (Lf (nv (m 54)) f n) n (m 54 0).toNat k x := fun x q1 q3 => by rw [z2 x (by omega), k1 x q1 (by omega)]
            have ekv : kvl (M' 62) (k + 1) (Lf (nv (m 54)) (fun j => (m2 59 j).toNat) n p) n = kvl (ktb (Lf (nv (m 54)) f n) n (m 54 0).toNat k) (k + 1) (Lf (nv (m 54)) f n p) n := by
              rw [kvl_congr e62 fun i hi => Lf_bit hi]
              exact kvl_l fun i hi => Lf_congr hi hnf
            refine u_227_74 ?_
            rw [z4 54 (by decide), z4 53 (by decide), z4 59 (by decide), x4, e0, f1, am_s_id (z := m 54 0) (by omega) (by omega), am_s_id (z := ((k + 1 : Nat) : Int)) (by omega) (by omega), am_s_id (z := (p : Int)) (by omega) (by omega), Int.toNat_natCast, Int.toNat_natCast, Int.toNat_natCast, am_s_id (z := ((cnt (k + 1) 12 : Nat) : Int)) (by omega) (by omega), show am_s 3 = 3 from rfl, ekv, am_s_id (z := kvl (ktb (Lf (nv (m 54)) f n) n (m 54 0).toNat k) (k + 1) (Lf (nv (m 54)) f n p) n) (by omega) (by omega)]
            refine ⟨fun q => by omega, fun _ => ⟨by omega, fun q => by omega, fun _ => ⟨x1, fun q => ⟨⟨x1, by omega, fun q3 => q ⟨by omega, q3⟩, by omega, fun j hj => hfr j (by omega), by omega, fun x q1 q3 => by rw [e62 x q1 q3]; exact hrg k x⟩, ?_⟩, fun q => ?_⟩⟩⟩
            · intro mx hmx
              obtain rfl := hmx.symm
              refine ⟨by omega, fun y1 hy1 => ?_⟩
              rw [z1, am_s_id (by omega) (by omega)] at hy1
              refine IH2 () _ ⟨?_, fun x hx => by rw [mu_k hx]; exact z2 x hx, fun b hb => by rw [mu_rf hb]; exact z3 b hb⟩
              rw [mu_same, kfw_s, hy1]
              split <;> omega
            · refine IH2 () M' ⟨?_, z2, z3⟩
              rw [kfw_s, kvl_gap q.2 (by omega) (by omega), z1]
              omega
          · rintro - M' ⟨z1, z2, z3⟩
            have hkst : kst (ktb (Lf (nv (m 54)) f n) n (m 54 0).toNat k) (k + 1) (Lf (nv (m 54)) f n) n (m 54 0).toNat = kfw (ktb (Lf (nv (m 54)) f n) n (m 54 0).toNat k) (k + 1) (Lf (nv (m 54)) f n) n (m 54 0).toNat := by
              unfold kst
              rw [if_neg hc1]
            refine u_227_74 ?_
            rw [z3 54 (by decide), k2 54 (by decide), e0, am_s_id (z := m 54 0) (by omega) (by omega), am_s_id (z := (((m 54 0).toNat : Nat) : Int)) (by omega) (by omega)]
            exact ⟨fun _ => nxt M' (by rw [z1, hkst]) z2 z3, fun q => by omega⟩
      · rintro - M ⟨k1, k2⟩
        have hr2 := hrg A A
        refine u_227_40 ?_
        rw [k2 53 (by decide), f1, eS, eS1, am_s_id (z := ((A + 1 : Nat) : Int)) (by omega) (by omega), Int.toNat_natCast, show 2 ^ n - 1 = A by omega, k1 A hA1 (Nat.le_refl _), am_s_id (z := ktb (Lf (nv (m 54)) f n) n (m 54 0).toNat A A) (by omega) (by omega)]
        refine ⟨fun _ => ⟨by omega, fun y hy => ⟨?_, Inv_kpC (fun b k hc => by unfold core at hc; rw [k2 b (by omega)]) x6⟩⟩, fun q => by omega⟩
        rw [hy]
        unfold ndk
        rw [show 2 ^ n - 1 = A by omega]
        by_cases h99 : ktb (Lf (nv (m 54)) f n) n (m 54 0).toNat A A < 99
        · rw [if_pos h99, if_neg (by omega)]
        · rw [if_neg h99, if_pos (by omega)]
  · refine PK_2 (h1 := 6) (h2 := 5) (v := .inl (kru m a)) (R := fun m1 => m = m1) ?_ ?_ (by decide) (by decide)
    · refine u_110_0 ⟨⟨hR, hv, ha⟩, ?_⟩
      intro mx hmx
      obtain rfl := hmx.symm
      rw [kru_s]
      exact ⟨fun q => absurd q c, fun _ => ⟨rfl, rfl⟩⟩
    · rintro _ rfl
      obtain ⟨w1, w2, w3, w4, w5, w6, -⟩ := mod_pre (a := a) hI (kpC_refl m)
      refine u_227_0 ⟨⟨w1, w2, ha⟩, fun m2 hm => ?_⟩
      rw [w3] at hm
      have hm2 := hm.1 c
      subst hm2
      rw [w3, kru_s]
      exact ⟨fun q => absurd q c, fun _ => ⟨rfl, w6⟩⟩
