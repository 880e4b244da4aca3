theorem z_179   (m : am_M) (k : Int) (hq : MV m ∧ WR m ∧ 0 ≤ k ∧ k ≤ 15) : ok 6 179 0 (am_ent 2 [.inr (.inr (some 53)), .inl k]) [] m (fun rr m' => ∃ v' : Int, rr = [.inl (v')] ∧ ((m 53 11 = 0 ∧ m 53 9 = k) → v' = 1 ∧ mtok m' = tok (m 56) (m 53 8).toNat (mtok m).2.2.2 ∧ MV m' ∧ frM m m') ∧ (¬ (m 53 11 = 0 ∧ m 53 9 = k) → v' = 0 ∧ m' = m)) := by
  show ok 6 179 0 [some (.inr (.inr (some 53))), some (.inl k)] [] m _
  obtain ⟨hV, hW, hk⟩ := hq
  refine u_179_0 ⟨⟨hV, hW, hk⟩, fun q => ⟨hV.1, ?_⟩, fun q => ⟨_, rfl, fun q2 => absurd q2 q, fun _ => ⟨rfl, rfl⟩⟩⟩
  rintro mx ⟨a1, a2, a3⟩
  exact ⟨_, rfl, fun _ => ⟨rfl, a1, a2, a3⟩, fun q2 => absurd q q2⟩
theorem z_178   (m : am_M) (lo : Int) (hi : Int) (hq : MV m ∧ WR m ∧ (0 ≤ lo ∧ lo ≤ 100) ∧ 0 ≤ hi ∧ hi ≤ 100) : ok 6 178 0 (am_ent 4 [.inr (.inr (some 53)), .inl lo, .inl hi]) [] m (fun rr m' => ∃ v' : Int, rr = [.inl (v')] ∧ (m 53 11 = 0 → ((∃ (x : Int) (t : TKN), NR (m 56) (m 53 8).toNat (mtok m) lo hi = .inr (x, t) ∧ v' = x ∧ mtok m' = t ∧ MV m' ∧ frM m m') ∨ (∃ f : Int × Int, NR (m 56) (m 53 8).toNat (mtok m) lo hi = .inl f ∧ m' 53 11 = f.1 ∧ m' 53 12 = f.2 ∧ (1 ≤ f.1 ∧ f.1 ≤ 4) ∧ frW m m'))) ∧ (¬ m 53 11 = 0 → m' = m)) := by
  show ok 6 178 0 [some (.inr (.inr (some 53))), some (.inl lo), some (.inl hi), none] [] m _
  obtain ⟨hV, hW, hlo, hhi⟩ := hq
  have hW2 := hW
  unfold WR at hW2
  have h10 := hV.2.2.2
  have hfs : ∀ z : Int, 0 ≤ z ∧ z ≤ 4 → am_s z = z := fun z hz => am_s_id (by omega) (by omega)
  refine u_178_0 ?_
  rw [am_t_s, am_t_s, am_t_s, am_s_id (z := lo) (by omega) (by omega), am_s_id (z := hi) (by omega) (by omega), hfs (m 53 11) hW2]
  refine ⟨⟨hV, hW, by decide, by decide⟩, fun q => ?_, fun q => ⟨⟨hV, hW⟩, ?_⟩⟩
  · have hn := h10 q.2
    have hk : (mtok m).2.1 = 12 := q.2
    have hv : (mtok m).2.2.1 = m 53 10 := by
      show (if m 53 9 = 12 then m 53 10 else 0) = _
      rw [if_pos q.2]
    rw [am_s_id (z := m 53 10) (by omega) (by omega)]
    refine ⟨fun q2 => ⟨fun q3 => absurd q.1 q3, fun _ => ⟨hV.1, ?_⟩⟩, fun q2 => ⟨⟨hV, hW⟩, ?_⟩⟩
    · rintro mx ⟨a1, a2, a3⟩
      exact ⟨_, rfl, fun _ => Or.inl ⟨_, _, NR_y hk (by rw [hv]; exact q2), hv.symm, a1, a2, a3⟩, fun q3 => absurd q.1 q3⟩
    · rintro mx ⟨a1, -⟩
      obtain ⟨b1, b2, b3⟩ := a1 q.1
      have hr := fk_r (t := mtok m) (f := 3) (by decide)
      rw [b1, hfs _ (by omega)]
      exact ⟨fun _ => ⟨_, rfl, fun _ => Or.inr ⟨_, NR_3 hk (by rw [hv]; exact q2), rfl, b2, hr, b3⟩, fun q3 => absurd q.1 q3⟩, fun q3 => by omega⟩
  · rintro mx ⟨a1, a2⟩
    by_cases h0 : m 53 11 = 0
    · obtain ⟨b1, b2, b3⟩ := a1 h0
      have hr := fk_r (t := mtok m) (f := 2) (by decide)
      have hk : ¬ (mtok m).2.1 = 12 := fun z => q ⟨h0, z⟩
      rw [b1, hfs _ (by omega)]
      exact ⟨fun _ => ⟨_, rfl, fun _ => Or.inr ⟨_, NR_2 hk, rfl, b2, hr, b3⟩, fun q3 => absurd h0 q3⟩, fun q3 => by omega⟩
    · rw [a2 h0, hfs _ hW2]
      exact ⟨fun _ => ⟨_, rfl, fun q3 => absurd q3 h0, fun _ => rfl⟩, fun q3 => absurd q3 h0⟩
theorem z_176   (m : am_M)  (hq : MV m ∧ m 53 11 = 0 ∧ 0 ≤ m 57 0 ∧ m 57 0 ≤ 12) : ok 6 176 0 (am_ent 1 [.inr (.inr (some 53))]) [] m (fun rr m' => ∃ v' : Int, rr = [.inl (v')] ∧ (m 57 0 = 12 → v' = 0 ∧ m' 53 11 = (fk (mtok m) 4).1 ∧ m' 53 12 = (fk (mtok m) 4).2 ∧ frW m m') ∧ (¬ m 57 0 = 12 → v' = 1 ∧ mtok m' = tok (m 56) (m 53 8).toNat (mtok m).2.2.2 ∧ MV m' ∧ frM m m')) := by
  show ok 6 176 0 [some (.inr (.inr (some 53)))] [] m _
  obtain ⟨hV, h0, hN⟩ := hq
  have hW : WR m := by unfold WR; omega
  have hr := fk_r (t := mtok m) (f := 4) (by decide)
  have s0 : am_s 0 = 0 := by decide
  refine u_176_0 ?_
  rw [am_s_id (z := m 57 0) (by omega) (by omega), h0, s0]
  refine ⟨fun q => ⟨fun q2 => absurd rfl q2, fun _ => ⟨hV.1, ?_⟩⟩, fun q => ⟨⟨hV, hW⟩, ?_⟩⟩
  · rintro mx ⟨a1, a2, a3⟩
    have e11 : mx 53 11 = 0 := by rw [a3 53 11 (by omega), h0]
    rw [e11, s0, if_neg (fun z => z rfl)]
    exact ⟨_, rfl, fun q2 => absurd q2 q, fun _ => ⟨rfl, a1, a2, a3⟩⟩
  · rintro mx ⟨a1, -⟩
    obtain ⟨b1, b2, b3⟩ := a1 (by first | rfl | trivial)
    rw [b1, am_s_id (z := (fk (mtok m) 4).1) (by omega) (by omega)]
    exact ⟨fun _ => ⟨_, rfl, fun _ => ⟨rfl, rfl, b2, b3⟩, fun q2 => absurd q q2⟩, fun q2 => by omega⟩
theorem u_175_91 {Q : List am_V → am_M → Prop} {m : am_M} {p : Int} {s : Int} {r : Int} {i : Int} {k : Int}  (H : ((am_s (m 53 11) = 0) → (0 ≤ am_s (8 + p) ∧ am_s (8 + p) < (56 : Nat)) ∧ ((0 ≤ am_s (20 + p) ∧ am_s (20 + p) < (56 : Nat)) ∧ ((0 ≤ am_s (32 + p) ∧ am_s (32 + p) < (56 : Nat)) ∧ ((0 ≤ am_s (44 + p) ∧ am_s (44 + p) < (56 : Nat)) ∧ (Q [] (mu (mu (mu (mu (mu m 57 ((am_s (8 + p)).toNat) k) 57 ((am_s (20 + p)).toNat) s) 57 ((am_s (32 + p)).toNat) r) 57 ((am_s (44 + p)).toNat) i) 57 0 (((mu (mu (mu (mu m 57 ((am_s (8 + p)).toNat) k) 57 ((am_s (20 + p)).toNat) s) 57 ((am_s (32 + p)).toNat) r) 57 ((am_s (44 + p)).toNat) i) 57 0) + 1))))))) ∧ ((¬ (am_s (m 53 11) = 0)) → Q [] m)) : ok 7 175 91 [some (.inr (.inr (some 53))), some (.inl p), some (.inl s), some (.inl r), some (.inl i), some (.inl k)] [] m Q := by
  refine ok_sg (pc' := 95) (ls' := [some (.inr (.inr (some 53))), some (.inl p), some (.inl s), some (.inl r), some (.inl i), some (.inl k)]) (st' := [.inl (m 53 11)]) (m' := m) (fun fx hfx o hk => ?_) ?_
  · refine r_ld (pc' := 92) hM_175 d_175_91 rfl rfl ?_
    refine r_gI (pc' := 95) (k0 := 11) hM_175 d_175_92 rfl (by decide +kernel) ?_
    exact hk
  refine ok_if (pc' := 99) (pc2 := 98) hM_175 d_175_95 (by decide) rfl (fun hz1 => ?_) (fun hz1 => ?_)
  · have H := H.1 hz1
    obtain ⟨hz2, H⟩ := H
    obtain ⟨hz3, H⟩ := H
    obtain ⟨hz4, H⟩ := H
    obtain ⟨hz5, H⟩ := H
    refine ok_sg (pc' := 151) (ls' := [some (.inr (.inr (some 53))), some (.inl p), some (.inl s), some (.inl r), some (.inl i), some (.inl k)]) (st' := []) (m' := mu (mu (mu (mu (mu m 57 ((am_s (8 + p)).toNat) k) 57 ((am_s (20 + p)).toNat) s) 57 ((am_s (32 + p)).toNat) r) 57 ((am_s (44 + p)).toNat) i) 57 0 (((mu (mu (mu (mu m 57 ((am_s (8 + p)).toNat) k) 57 ((am_s (20 + p)).toNat) s) 57 ((am_s (32 + p)).toNat) r) 57 ((am_s (44 + p)).toNat) i) 57 0) + 1)) (fun fx hfx o hk => ?_) ?_
    · refine r_ld (pc' := 100) hM_175 d_175_99 rfl rfl ?_
      refine r_gR (pc' := 103) (v := 57) hM_175 d_175_100 rfl (by decide +kernel) ?_
      refine r_k (pc' := 105) (v := .inl 8) hM_175 d_175_103 rfl rfl ?_
      refine r_ld (pc' := 106) hM_175 d_175_105 rfl rfl ?_
      refine r_b (pc' := 107) (z := (8 + p)) hM_175 d_175_106 rfl rfl ?_
      refine r_ld (pc' := 109) hM_175 d_175_107 rfl rfl ?_
      refine r_is (pc' := 110) (n := 56) hM_175 d_175_109 rfl rfl hz2 ?_
      refine r_ld (pc' := 111) hM_175 d_175_110 rfl rfl ?_
      refine r_gR (pc' := 114) (v := 57) hM_175 d_175_111 rfl (by decide +kernel) ?_
      refine r_k (pc' := 116) (v := .inl 20) hM_175 d_175_114 rfl rfl ?_
      refine r_ld (pc' := 117) hM_175 d_175_116 rfl rfl ?_
      refine r_b (pc' := 118) (z := (20 + p)) hM_175 d_175_117 rfl rfl ?_
      refine r_ld (pc' := 119) hM_175 d_175_118 rfl rfl ?_
      refine r_is (pc' := 120) (n := 56) hM_175 d_175_119 rfl rfl hz3 ?_
      refine r_ld (pc' := 121) hM_175 d_175_120 rfl rfl ?_
      refine r_gR (pc' := 124) (v := 57) hM_175 d_175_121 rfl (by decide +kernel) ?_
      refine r_k (pc' := 126) (v := .inl 32) hM_175 d_175_124 rfl rfl ?_
      refine r_ld (pc' := 127) hM_175 d_175_126 rfl rfl ?_
      refine r_b (pc' := 128) (z := (32 + p)) hM_175 d_175_127 rfl rfl ?_
      refine r_ld (pc' := 129) hM_175 d_175_128 rfl rfl ?_
      refine r_is (pc' := 130) (n := 56) hM_175 d_175_129 rfl rfl hz4 ?_
      refine r_ld (pc' := 131) hM_175 d_175_130 rfl rfl ?_
      refine r_gR (pc' := 134) (v := 57) hM_175 d_175_131 rfl (by decide +kernel) ?_
      refine r_k (pc' := 136) (v := .inl 44) hM_175 d_175_134 rfl rfl ?_
      refine r_ld (pc' := 137) hM_175 d_175_136 rfl rfl ?_
      refine r_b (pc' := 138) (z := (44 + p)) hM_175 d_175_137 rfl rfl ?_
      refine r_ld (pc' := 140) hM_175 d_175_138 rfl rfl ?_
      refine r_is (pc' := 141) (n := 56) hM_175 d_175_140 rfl rfl hz5 ?_
      refine r_ld (pc' := 142) hM_175 d_175_141 rfl rfl ?_
      refine r_gR (pc' := 145) (v := 57) hM_175 d_175_142 rfl (by decide +kernel) ?_
      refine r_k (pc' := 146) (v := .inl 0) hM_175 d_175_145 rfl rfl ?_
      refine r_stk (pc' := 147) (st' := [.inl 0, .inr (.inr (some 57)), .inl 0, .inr (.inr (some 57))]) hM_175 d_175_146 rfl rfl ?_
      refine r_iae (pc' := 148) (n := 56) (z := ((mu (mu (mu (mu m 57 ((am_s (8 + p)).toNat) k) 57 ((am_s (20 + p)).toNat) s) 57 ((am_s (32 + p)).toNat) r) 57 ((am_s (44 + p)).toNat) i) 57 0)) hM_175 d_175_147 rfl rfl (by decide) (by rw [show (am_s 0).toNat = 0 by decide]) ?_
      refine r_k (pc' := 149) (v := .inl 1) hM_175 d_175_148 rfl rfl ?_
      refine r_b (pc' := 150) (z := (((mu (mu (mu (mu m 57 ((am_s (8 + p)).toNat) k) 57 ((am_s (20 + p)).toNat) s) 57 ((am_s (32 + p)).toNat) r) 57 ((am_s (44 + p)).toNat) i) 57 0) + 1)) hM_175 d_175_149 rfl rfl ?_
      refine r_isk (pc' := 151) (n := 56) (k0 := 0) hM_175 d_175_150 rfl rfl (by decide) (by decide) ?_
      exact hk
    exact ok_rt (fun fx _ => rt_v hM_175 d_175_151 rfl) H
  · have H := H.2 hz1
    exact ok_rt (fun fx _ => rt_v hM_175 d_175_98 rfl) H
theorem u_175_64 {Q : List am_V → am_M → Prop} {m : am_M} {p : Int} {s : Int} {r : Int} {i : Int}  (H : (MV m ∧ WR m ∧ 0 ≤ (3 : Int) ∧ (3 : Int) ≤ 15) ∧ (∀ (v1 : Int) (m1 : am_M), (((m 53 11 = 0 ∧ m 53 9 = 3) → v1 = 1 ∧ mtok m1 = tok (m 56) (m 53 8).toNat (mtok m).2.2.2 ∧ MV m1 ∧ frM m m1) ∧ (¬ (m 53 11 = 0 ∧ m 53 9 = 3) → v1 = 0 ∧ m1 = m)) → ((am_s v1 = 0) → (MV m1 ∧ WR m1 ∧ 0 ≤ (4 : Int) ∧ (4 : Int) ≤ 15) ∧ (∀ (v2 : Int) (m2 : am_M), (((m1 53 11 = 0 ∧ m1 53 9 = 4) → v2 = 1 ∧ mtok m2 = tok (m1 56) (m1 53 8).toNat (mtok m1).2.2.2 ∧ MV m2 ∧ frM m1 m2) ∧ (¬ (m1 53 11 = 0 ∧ m1 53 9 = 4) → v2 = 0 ∧ m2 = m1)) → ok 7 175 91 [some (.inr (.inr (some 53))), some (.inl p), some (.inl s), some (.inl r), some (.inl i), some (.inl (if am_s v2 = 0 then 0 else 2))] [] m2 Q)) ∧ ((¬ (am_s v1 = 0)) → ok 7 175 91 [some (.inr (.inr (some 53))), some (.inl p), some (.inl s), some (.inl r), some (.inl i), some (.inl 1)] [] m1 Q))) : ok 7 175 64 [some (.inr (.inr (some 53))), some (.inl p), some (.inl s), some (.inl r), some (.inl i), none] [] m Q := by
  obtain ⟨hz1, H⟩ := H
  refine ok_sg (pc' := 66) (ls' := [some (.inr (.inr (some 53))), some (.inl p), some (.inl s), some (.inl r), some (.inl i), none]) (st' := [.inl 3, .inr (.inr (some 53))]) (m' := m) (fun fx hfx o hk => ?_) ?_
  · refine r_ld (pc' := 65) hM_175 d_175_64 rfl rfl ?_
    refine r_k (pc' := 66) (v := .inl 3) hM_175 d_175_65 rfl rfl ?_
    exact hk
  refine ok_cl (pc' := 69) (c := (179, 0)) (a := [.inr (.inr (some 53)), .inl 3]) (q := []) hM_175 d_175_66 rfl (by decide +kernel) hM_179 rfl rfl rfl (Nat.le_of_ble_eq_true rfl) (Nat.le_of_ble_eq_true rfl) (Or.inr rfl) (z_179  m 3 hz1) (Nat.le_of_ble_eq_true rfl) ?_
  rintro _ m1 ⟨v1, rfl, hz2⟩
  replace H := H v1 m1 hz2
  show ok 7 175 69 [some (.inr (.inr (some 53))), some (.inl p), some (.inl s), some (.inl r), some (.inl i), none] [.inl v1] m1 Q
  refine ok_if (pc' := 76) (pc2 := 72) hM_175 d_175_69 (by decide) rfl (fun hz3 => ?_) (fun hz3 => ?_)
  · have H := H.1 hz3
    obtain ⟨hz4, H⟩ := H
    refine ok_sg (pc' := 78) (ls' := [some (.inr (.inr (some 53))), some (.inl p), some (.inl s), some (.inl r), some (.inl i), none]) (st' := [.inl 4, .inr (.inr (some 53))]) (m' := m1) (fun fx hfx o hk => ?_) ?_
    · refine r_ld (pc' := 77) hM_175 d_175_76 rfl rfl ?_
      refine r_k (pc' := 78) (v := .inl 4) hM_175 d_175_77 rfl rfl ?_
      exact hk
    refine ok_cl (pc' := 81) (c := (179, 0)) (a := [.inr (.inr (some 53)), .inl 4]) (q := []) hM_175 d_175_78 rfl (by decide +kernel) hM_179 rfl rfl rfl (Nat.le_of_ble_eq_true rfl) (Nat.le_of_ble_eq_true rfl) (Or.inr rfl) (z_179  m1 4 hz4) (Nat.le_of_ble_eq_true rfl) ?_
    rintro _ m2 ⟨v2, rfl, hz5⟩
    replace H := H v2 m2 hz5
    show ok 7 175 81 [some (.inr (.inr (some 53))), some (.inl p), some (.inl s), some (.inl r), some (.inl i), none] [.inl v2] m2 Q
    refine ok_sg (pc' := 89) (ls' := [some (.inr (.inr (some 53))), some (.inl p), some (.inl s), some (.inl r), some (.inl i), none]) (st' := [.inl (if am_s v2 = 0 then 0 else 2)]) (m' := m2) (fun fx hfx o K => ?_) ?_
    · refine r_if (pc' := 88) (pc2 := 84) hM_175 d_175_81 (by decide) rfl (fun hz6 => ?_) (fun hz6 => ?_)
      · have hz6 : am_s v2 = 0 := hz6
        rw [if_pos hz6] at K
        refine r_k (pc' := 89) (v := .inl 0) hM_175 d_175_88 rfl rfl ?_
        exact K
      · have hz6 : ¬ (am_s v2 = 0) := hz6
        rw [if_neg hz6] at K
        refine r_k (pc' := 85) (v := .inl 2) hM_175 d_175_84 rfl rfl ?_
        refine r_go (pc' := 89) hM_175 d_175_85 (by decide) ?_
        exact K
    refine ok_sg (pc' := 91) (ls' := [some (.inr (.inr (some 53))), some (.inl p), some (.inl s), some (.inl r), some (.inl i), some (.inl (if am_s v2 = 0 then 0 else 2))]) (st' := []) (m' := m2) (fun fx hfx o hk => ?_) ?_
    · refine r_sto (pc' := 91) (ls' := [some (.inr (.inr (some 53))), some (.inl p), some (.inl s), some (.inl r), some (.inl i), some (.inl (if am_s v2 = 0 then 0 else 2))]) hM_175 d_175_89 rfl rfl ?_
      exact hk
    exact H
  · have H := H.2 hz3
    refine ok_sg (pc' := 91) (ls' := [some (.inr (.inr (some 53))), some (.inl p), some (.inl s), some (.inl r), some (.inl i), some (.inl 1)]) (st' := []) (m' := m1) (fun fx hfx o hk => ?_) ?_
    · refine r_k (pc' := 73) (v := .inl 1) hM_175 d_175_72 rfl rfl ?_
      refine r_go (pc' := 89) hM_175 d_175_73 (by decide) ?_
      refine r_sto (pc' := 91) (ls' := [some (.inr (.inr (some 53))), some (.inl p), some (.inl s), some (.inl r), some (.inl i), some (.inl 1)]) hM_175 d_175_89 rfl rfl ?_
      exact hk
    exact H
theorem u_175_43 {Q : List am_V → am_M → Prop} {m : am_M} {p : Int} {s : Int} {r : Int}  (H : (MV m ∧ WR m ∧ 0 ≤ (2 : Int) ∧ (2 : Int) ≤ 15) ∧ (∀ (v1 : Int) (m1 : am_M), (((m 53 11 = 0 ∧ m 53 9 = 2) → v1 = 1 ∧ mtok m1 = tok (m 56) (m 53 8).toNat (mtok m).2.2.2 ∧ MV m1 ∧ frM m m1) ∧ (¬ (m 53 11 = 0 ∧ m 53 9 = 2) → v1 = 0 ∧ m1 = m)) → ((am_s v1 = 0) → ok 7 175 64 [some (.inr (.inr (some 53))), some (.inl p), some (.inl s), some (.inl r), some (.inl 0), none] [] m1 Q) ∧ ((¬ (am_s v1 = 0)) → (MV m1 ∧ WR m1 ∧ (0 ≤ (0 : Int) ∧ (0 : Int) ≤ 100) ∧ 0 ≤ (9 : Int) ∧ (9 : Int) ≤ 100) ∧ (∀ (v2 : Int) (m2 : am_M), ((m1 53 11 = 0 → ((∃ (x : Int) (t : TKN), NR (m1 56) (m1 53 8).toNat (mtok m1) 0 9 = .inr (x, t) ∧ v2 = x ∧ mtok m2 = t ∧ MV m2 ∧ frM m1 m2) ∨ (∃ f : Int × Int, NR (m1 56) (m1 53 8).toNat (mtok m1) 0 9 = .inl f ∧ m2 53 11 = f.1 ∧ m2 53 12 = f.2 ∧ (1 ≤ f.1 ∧ f.1 ≤ 4) ∧ frW m1 m2))) ∧ (¬ m1 53 11 = 0 → m2 = m1)) → ok 7 175 64 [some (.inr (.inr (some 53))), some (.inl p), some (.inl s), some (.inl r), some (.inl v2), none] [] m2 Q)))) : ok 7 175 43 [some (.inr (.inr (some 53))), some (.inl p), some (.inl s), some (.inl r), none, none] [] m Q := by
  obtain ⟨hz1, H⟩ := H
  refine ok_sg (pc' := 45) (ls' := [some (.inr (.inr (some 53))), some (.inl p), some (.inl s), some (.inl r), none, none]) (st' := [.inl 2, .inr (.inr (some 53))]) (m' := m) (fun fx hfx o hk => ?_) ?_
  · refine r_ld (pc' := 44) hM_175 d_175_43 rfl rfl ?_
    refine r_k (pc' := 45) (v := .inl 2) hM_175 d_175_44 rfl rfl ?_
    exact hk
  refine ok_cl (pc' := 48) (c := (179, 0)) (a := [.inr (.inr (some 53)), .inl 2]) (q := []) hM_175 d_175_45 rfl (by decide +kernel) hM_179 rfl rfl rfl (Nat.le_of_ble_eq_true rfl) (Nat.le_of_ble_eq_true rfl) (Or.inr rfl) (z_179  m 2 hz1) (Nat.le_of_ble_eq_true rfl) ?_
  rintro _ m1 ⟨v1, rfl, hz2⟩
  replace H := H v1 m1 hz2
  show ok 7 175 48 [some (.inr (.inr (some 53))), some (.inl p), some (.inl s), some (.inl r), none, none] [.inl v1] m1 Q
  refine ok_if (pc' := 61) (pc2 := 51) hM_175 d_175_48 (by decide) rfl (fun hz3 => ?_) (fun hz3 => ?_)
  · have H := H.1 hz3
    refine ok_sg (pc' := 64) (ls' := [some (.inr (.inr (some 53))), some (.inl p), some (.inl s), some (.inl r), some (.inl 0), none]) (st' := []) (m' := m1) (fun fx hfx o hk => ?_) ?_
    · refine r_k (pc' := 62) (v := .inl 0) hM_175 d_175_61 rfl rfl ?_
      refine r_sto (pc' := 64) (ls' := [some (.inr (.inr (some 53))), some (.inl p), some (.inl s), some (.inl r), some (.inl 0), none]) hM_175 d_175_62 rfl rfl ?_
      exact hk
    exact H
  · have H := H.2 hz3
    obtain ⟨hz4, H⟩ := H
    refine ok_sg (pc' := 55) (ls' := [some (.inr (.inr (some 53))), some (.inl p), some (.inl s), some (.inl r), none, none]) (st' := [.inl 9, .inl 0, .inr (.inr (some 53))]) (m' := m1) (fun fx hfx o hk => ?_) ?_
    · refine r_ld (pc' := 52) hM_175 d_175_51 rfl rfl ?_
      refine r_k (pc' := 53) (v := .inl 0) hM_175 d_175_52 rfl rfl ?_
      refine r_k (pc' := 55) (v := .inl 9) hM_175 d_175_53 rfl rfl ?_
      exact hk
    refine ok_cl (pc' := 58) (c := (178, 0)) (a := [.inr (.inr (some 53)), .inl 0, .inl 9]) (q := []) hM_175 d_175_55 rfl (by decide +kernel) hM_178 rfl rfl rfl (Nat.le_of_ble_eq_true rfl) (Nat.le_of_ble_eq_true rfl) (Or.inr rfl) (z_178  m1 0 9 hz4) (Nat.le_of_ble_eq_true rfl) ?_
    rintro _ m2 ⟨v2, rfl, hz5⟩
    replace H := H v2 m2 hz5
    show ok 7 175 58 [some (.inr (.inr (some 53))), some (.inl p), some (.inl s), some (.inl r), none, none] [.inl v2] m2 Q
    refine ok_sg (pc' := 64) (ls' := [some (.inr (.inr (some 53))), some (.inl p), some (.inl s), some (.inl r), some (.inl v2), none]) (st' := []) (m' := m2) (fun fx hfx o hk => ?_) ?_
    · refine r_go (pc' := 62) hM_175 d_175_58 (by decide) ?_
      refine r_sto (pc' := 64) (ls' := [some (.inr (.inr (some 53))), some (.inl p), some (.inl s), some (.inl r), some (.inl v2), none]) hM_175 d_175_62 rfl rfl ?_
      exact hk
    exact H
theorem u_175_23 {Q : List am_V → am_M → Prop} {m : am_M} {p : Int} {s : Int}  (H : (MV m ∧ WR m ∧ 0 ≤ (1 : Int) ∧ (1 : Int) ≤ 15) ∧ (∀ (v1 : Int) (m1 : am_M), (((m 53 11 = 0 ∧ m 53 9 = 1) → v1 = 1 ∧ mtok m1 = tok (m 56) (m 53 8).toNat (mtok m).2.2.2 ∧ MV m1 ∧ frM m m1) ∧ (¬ (m 53 11 = 0 ∧ m 53 9 = 1) → v1 = 0 ∧ m1 = m)) → ((am_s v1 = 0) → ok 7 175 43 [some (.inr (.inr (some 53))), some (.inl p), some (.inl s), some (.inl 0), none, none] [] m1 Q) ∧ ((¬ (am_s v1 = 0)) → (MV m1 ∧ WR m1 ∧ (0 ≤ (0 : Int) ∧ (0 : Int) ≤ 100) ∧ 0 ≤ (100 : Int) ∧ (100 : Int) ≤ 100) ∧ (∀ (v2 : Int) (m2 : am_M), ((m1 53 11 = 0 → ((∃ (x : Int) (t : TKN), NR (m1 56) (m1 53 8).toNat (mtok m1) 0 100 = .inr (x, t) ∧ v2 = x ∧ mtok m2 = t ∧ MV m2 ∧ frM m1 m2) ∨ (∃ f : Int × Int, NR (m1 56) (m1 53 8).toNat (mtok m1) 0 100 = .inl f ∧ m2 53 11 = f.1 ∧ m2 53 12 = f.2 ∧ (1 ≤ f.1 ∧ f.1 ≤ 4) ∧ frW m1 m2))) ∧ (¬ m1 53 11 = 0 → m2 = m1)) → ok 7 175 43 [some (.inr (.inr (some 53))), some (.inl p), some (.inl s), some (.inl v2), none, none] [] m2 Q)))) : ok 7 175 23 [some (.inr (.inr (some 53))), some (.inl p), some (.inl s), none, none, none] [] m Q := by
  obtain ⟨hz1, H⟩ := H
  refine ok_sg (pc' := 25) (ls' := [some (.inr (.inr (some 53))), some (.inl p), some (.inl s), none, none, none]) (st' := [.inl 1, .inr (.inr (some 53))]) (m' := m) (fun fx hfx o hk => ?_) ?_
  · refine r_ld (pc' := 24) hM_175 d_175_23 rfl rfl ?_
    refine r_k (pc' := 25) (v := .inl 1) hM_175 d_175_24 rfl rfl ?_
    exact hk
  refine ok_cl (pc' := 28) (c := (179, 0)) (a := [.inr (.inr (some 53)), .inl 1]) (q := []) hM_175 d_175_25 rfl (by decide +kernel) hM_179 rfl rfl rfl (Nat.le_of_ble_eq_true rfl) (Nat.le_of_ble_eq_true rfl) (Or.inr rfl) (z_179  m 1 hz1) (Nat.le_of_ble_eq_true rfl) ?_
  rintro _ m1 ⟨v1, rfl, hz2⟩
  replace H := H v1 m1 hz2
  show ok 7 175 28 [some (.inr (.inr (some 53))), some (.inl p), some (.inl s), none, none, none] [.inl v1] m1 Q
  refine ok_if (pc' := 41) (pc2 := 31) hM_175 d_175_28 (by decide) rfl (fun hz3 => ?_) (fun hz3 => ?_)
  · have H := H.1 hz3
    refine ok_sg (pc' := 43) (ls' := [some (.inr (.inr (some 53))), some (.inl p), some (.inl s), some (.inl 0), none, none]) (st' := []) (m' := m1) (fun fx hfx o hk => ?_) ?_
    · refine r_k (pc' := 42) (v := .inl 0) hM_175 d_175_41 rfl rfl ?_
      refine r_sto (pc' := 43) (ls' := [some (.inr (.inr (some 53))), some (.inl p), some (.inl s), some (.inl 0), none, none]) hM_175 d_175_42 rfl rfl ?_
      exact hk
    exact H
  · have H := H.2 hz3
    obtain ⟨hz4, H⟩ := H
    refine ok_sg (pc' := 35) (ls' := [some (.inr (.inr (some 53))), some (.inl p), some (.inl s), none, none, none]) (st' := [.inl 100, .inl 0, .inr (.inr (some 53))]) (m' := m1) (fun fx hfx o hk => ?_) ?_
    · refine r_ld (pc' := 32) hM_175 d_175_31 rfl rfl ?_
      refine r_k (pc' := 33) (v := .inl 0) hM_175 d_175_32 rfl rfl ?_
      refine r_k (pc' := 35) (v := .inl 100) hM_175 d_175_33 rfl rfl ?_
      exact hk
    refine ok_cl (pc' := 38) (c := (178, 0)) (a := [.inr (.inr (some 53)), .inl 0, .inl 100]) (q := []) hM_175 d_175_35 rfl (by decide +kernel) hM_178 rfl rfl rfl (Nat.le_of_ble_eq_true rfl) (Nat.le_of_ble_eq_true rfl) (Or.inr rfl) (z_178  m1 0 100 hz4) (Nat.le_of_ble_eq_true rfl) ?_
    rintro _ m2 ⟨v2, rfl, hz5⟩
    replace H := H v2 m2 hz5
    show ok 7 175 38 [some (.inr (.inr (some 53))), some (.inl p), some (.inl s), none, none, none] [.inl v2] m2 Q
    refine ok_sg (pc' := 43) (ls' := [some (.inr (.inr (some 53))), some (.inl p), some (.inl s), some (.inl v2), none, none]) (st' := []) (m' := m2) (fun fx hfx o hk => ?_) ?_
    · refine r_go (pc' := 42) hM_175 d_175_38 (by decide) ?_
      refine r_sto (pc' := 43) (ls' := [some (.inr (.inr (some 53))), some (.inl p), some (.inl s), some (.inl v2), none, none]) hM_175 d_175_42 rfl rfl ?_
      exact hk
    exact H
theorem u_175_0 {Q : List am_V → am_M → Prop} {m : am_M}   (H : (MV m ∧ m 53 11 = 0 ∧ 0 ≤ m 57 0 ∧ m 57 0 ≤ 12) ∧ (∀ (v1 : Int) (m1 : am_M), ((m 57 0 = 12 → v1 = 0 ∧ m1 53 11 = (fk (mtok m) 4).1 ∧ m1 53 12 = (fk (mtok m) 4).2 ∧ frW m m1) ∧ (¬ m 57 0 = 12 → v1 = 1 ∧ mtok m1 = tok (m 56) (m 53 8).toNat (mtok m).2.2.2 ∧ MV m1 ∧ frM m m1)) → ((¬ am_s v1 = 0) → (MV m1 ∧ WR m1 ∧ (0 ≤ (1 : Int) ∧ (1 : Int) ≤ 100) ∧ 0 ≤ (9 : Int) ∧ (9 : Int) ≤ 100) ∧ (∀ (v2 : Int) (m2 : am_M), ((m1 53 11 = 0 → ((∃ (x : Int) (t : TKN), NR (m1 56) (m1 53 8).toNat (mtok m1) 1 9 = .inr (x, t) ∧ v2 = x ∧ mtok m2 = t ∧ MV m2 ∧ frM m1 m2) ∨ (∃ f : Int × Int, NR (m1 56) (m1 53 8).toNat (mtok m1) 1 9 = .inl f ∧ m2 53 11 = f.1 ∧ m2 53 12 = f.2 ∧ (1 ≤ f.1 ∧ f.1 ≤ 4) ∧ frW m1 m2))) ∧ (¬ m1 53 11 = 0 → m2 = m1)) → ok 7 175 23 [some (.inr (.inr (some 53))), some (.inl (m1 57 0)), some (.inl v2), none, none, none] [] m2 Q)) ∧ ((am_s v1 = 0) → Q [] m1))) : ok 7 175 0 [some (.inr (.inr (some 53))), none, none, none, none, none] [] m Q := by
  obtain ⟨hz1, H⟩ := H
  refine ok_sg (pc' := 1) (ls' := [some (.inr (.inr (some 53))), none, none, none, none, none]) (st' := [.inr (.inr (some 53))]) (m' := m) (fun fx hfx o hk => ?_) ?_
  · refine r_ld (pc' := 1) hM_175 d_175_0 rfl rfl ?_
    exact hk
  refine ok_cl (pc' := 4) (c := (176, 0)) (a := [.inr (.inr (some 53))]) (q := []) hM_175 d_175_1 rfl (by decide +kernel) hM_176 rfl rfl rfl (Nat.le_of_ble_eq_true rfl) (Nat.le_of_ble_eq_true rfl) (Or.inr rfl) (z_176  m  hz1) (Nat.le_of_ble_eq_true rfl) ?_
  rintro _ m1 ⟨v1, rfl, hz2⟩
  replace H := H v1 m1 hz2
  show ok 7 175 4 [some (.inr (.inr (some 53))), none, none, none, none, none] [.inl v1] m1 Q
  refine ok_if (pc' := 8) (pc2 := 7) hM_175 d_175_4 (by decide) rfl (fun hz3 => ?_) (fun hz3 => ?_)
  · have H := H.1 hz3
    obtain ⟨hz4, H⟩ := H
    refine ok_sg (pc' := 19) (ls' := [some (.inr (.inr (some 53))), some (.inl (m1 57 0)), none, none, none, none]) (st' := [.inl 9, .inl 1, .inr (.inr (some 53))]) (m' := m1) (fun fx hfx o hk => ?_) ?_
    · refine r_ld (pc' := 9) hM_175 d_175_8 rfl rfl ?_
      refine r_gR (pc' := 12) (v := 57) hM_175 d_175_9 rfl (by decide +kernel) ?_
      refine r_k (pc' := 13) (v := .inl 0) hM_175 d_175_12 rfl rfl ?_
      refine r_iae (pc' := 14) (n := 56) (z := (m1 57 0)) hM_175 d_175_13 rfl rfl (by decide) (by rw [show (am_s 0).toNat = 0 by decide]) ?_
      refine r_sto (pc' := 15) (ls' := [some (.inr (.inr (some 53))), some (.inl (m1 57 0)), none, none, none, none]) hM_175 d_175_14 rfl rfl ?_
      refine r_ld (pc' := 16) hM_175 d_175_15 rfl rfl ?_
      refine r_k (pc' := 17) (v := .inl 1) hM_175 d_175_16 rfl rfl ?_
      refine r_k (pc' := 19) (v := .inl 9) hM_175 d_175_17 rfl rfl ?_
      exact hk
    refine ok_cl (pc' := 22) (c := (178, 0)) (a := [.inr (.inr (some 53)), .inl 1, .inl 9]) (q := []) hM_175 d_175_19 rfl (by decide +kernel) hM_178 rfl rfl rfl (Nat.le_of_ble_eq_true rfl) (Nat.le_of_ble_eq_true rfl) (Or.inr rfl) (z_178  m1 1 9 hz4) (Nat.le_of_ble_eq_true rfl) ?_
    rintro _ m2 ⟨v2, rfl, hz5⟩
    replace H := H v2 m2 hz5
    show ok 7 175 22 [some (.inr (.inr (some 53))), some (.inl (m1 57 0)), none, none, none, none] [.inl v2] m2 Q
    refine ok_sg (pc' := 23) (ls' := [some (.inr (.inr (some 53))), some (.inl (m1 57 0)), some (.inl v2), none, none, none]) (st' := []) (m' := m2) (fun fx hfx o hk => ?_) ?_
    · refine r_sto (pc' := 23) (ls' := [some (.inr (.inr (some 53))), some (.inl (m1 57 0)), some (.inl v2), none, none, none]) hM_175 d_175_22 rfl rfl ?_
      exact hk
    exact H
  · have H := H.2 (Decidable.not_not.mp hz3)
    exact ok_rt (fun fx _ => rt_v hM_175 d_175_7 rfl) H
theorem u_180_0 {Q : List am_V → am_M → Prop} {m : am_M}   (H : (MV m ∧ m 53 11 = 0 ∧ 0 ≤ m 57 0 ∧ m 57 0 ≤ 12) ∧ (∀ (v1 : Int) (m1 : am_M), ((m 57 0 = 12 → v1 = 0 ∧ m1 53 11 = (fk (mtok m) 4).1 ∧ m1 53 12 = (fk (mtok m) 4).2 ∧ frW m m1) ∧ (¬ m 57 0 = 12 → v1 = 1 ∧ mtok m1 = tok (m 56) (m 53 8).toNat (mtok m).2.2.2 ∧ MV m1 ∧ frM m m1)) → ((¬ am_s v1 = 0) → (0 ≤ am_s (8 + (m1 57 0)) ∧ am_s (8 + (m1 57 0)) < (56 : Nat)) ∧ (Q [] (mu (mu m1 57 ((am_s (8 + (m1 57 0))).toNat) 3) 57 0 (((mu m1 57 ((am_s (8 + (m1 57 0))).toNat) 3) 57 0) + 1)))) ∧ ((am_s v1 = 0) → Q [] m1))) : ok 7 180 0 [some (.inr (.inr (some 53)))] [] m Q := by
  obtain ⟨hz1, H⟩ := H
  refine ok_sg (pc' := 1) (ls' := [some (.inr (.inr (some 53)))]) (st' := [.inr (.inr (some 53))]) (m' := m) (fun fx hfx o hk => ?_) ?_
  · refine r_ld (pc' := 1) hM_180 d_180_0 rfl rfl ?_
    exact hk
  refine ok_cl (pc' := 4) (c := (176, 0)) (a := [.inr (.inr (some 53))]) (q := []) hM_180 d_180_1 rfl (by decide +kernel) hM_176 rfl rfl rfl (Nat.le_of_ble_eq_true rfl) (Nat.le_of_ble_eq_true rfl) (Or.inr rfl) (z_176  m  hz1) (Nat.le_of_ble_eq_true rfl) ?_
  rintro _ m1 ⟨v1, rfl, hz2⟩
  replace H := H v1 m1 hz2
  show ok 7 180 4 [some (.inr (.inr (some 53)))] [.inl v1] m1 Q
  refine ok_if (pc' := 8) (pc2 := 7) hM_180 d_180_4 (by decide) rfl (fun hz3 => ?_) (fun hz3 => ?_)
  · have H := H.1 hz3
    obtain ⟨hz4, H⟩ := H
    refine ok_sg (pc' := 33) (ls' := [some (.inr (.inr (some 53)))]) (st' := []) (m' := mu (mu m1 57 ((am_s (8 + (m1 57 0))).toNat) 3) 57 0 (((mu m1 57 ((am_s (8 + (m1 57 0))).toNat) 3) 57 0) + 1)) (fun fx hfx o hk => ?_) ?_
    · refine r_ld (pc' := 9) hM_180 d_180_8 rfl rfl ?_
      refine r_gR (pc' := 12) (v := 57) hM_180 d_180_9 rfl (by decide +kernel) ?_
      refine r_k (pc' := 14) (v := .inl 8) hM_180 d_180_12 rfl rfl ?_
      refine r_ld (pc' := 15) hM_180 d_180_14 rfl rfl ?_
      refine r_gR (pc' := 18) (v := 57) hM_180 d_180_15 rfl (by decide +kernel) ?_
      refine r_k (pc' := 19) (v := .inl 0) hM_180 d_180_18 rfl rfl ?_
      refine r_iae (pc' := 20) (n := 56) (z := (m1 57 0)) hM_180 d_180_19 rfl rfl (by decide) (by rw [show (am_s 0).toNat = 0 by decide]) ?_
      refine r_b (pc' := 21) (z := (8 + (m1 57 0))) hM_180 d_180_20 rfl rfl ?_
      refine r_k (pc' := 22) (v := .inl 3) hM_180 d_180_21 rfl rfl ?_
      refine r_is (pc' := 23) (n := 56) hM_180 d_180_22 rfl rfl hz4 ?_
      refine r_ld (pc' := 24) hM_180 d_180_23 rfl rfl ?_
      refine r_gR (pc' := 27) (v := 57) hM_180 d_180_24 rfl (by decide +kernel) ?_
      refine r_k (pc' := 28) (v := .inl 0) hM_180 d_180_27 rfl rfl ?_
      refine r_stk (pc' := 29) (st' := [.inl 0, .inr (.inr (some 57)), .inl 0, .inr (.inr (some 57))]) hM_180 d_180_28 rfl rfl ?_
      refine r_iae (pc' := 30) (n := 56) (z := ((mu m1 57 ((am_s (8 + (m1 57 0))).toNat) 3) 57 0)) hM_180 d_180_29 rfl rfl (by decide) (by rw [show (am_s 0).toNat = 0 by decide]) ?_
      refine r_k (pc' := 31) (v := .inl 1) hM_180 d_180_30 rfl rfl ?_
      refine r_b (pc' := 32) (z := (((mu m1 57 ((am_s (8 + (m1 57 0))).toNat) 3) 57 0) + 1)) hM_180 d_180_31 rfl rfl ?_
      refine r_isk (pc' := 33) (n := 56) (k0 := 0) hM_180 d_180_32 rfl rfl (by decide) (by decide) ?_
      exact hk
    exact ok_rt (fun fx _ => rt_v hM_180 d_180_33 rfl) H
  · have H := H.2 (Decidable.not_not.mp hz3)
    exact ok_rt (fun fx _ => rt_v hM_180 d_180_7 rfl) H
