theorem P_put {m : am_M} {p a : Int} (hp : am_s p = p) (ha : am_s a = a) (hI : Inv m) : PK 44 3 188 3 [.inl p, .inl a] m := by
  have hw := Inv_wf hI
  have hN := hw.1
  have eN := Inv_N hI
  have hv := Inv_vw hI
  by_cases c1 : 0 ≤ p ∧ p < m 54 0
  · obtain ⟨i, rfl⟩ : ∃ i : Nat, p = (i : Int) := ⟨p.toNat, by omega⟩
    obtain ⟨k1, -, -, -⟩ := Inv_K hI c1.2
    have hk := hw.2.1 i (by omega)
    have ek : am_s (m 54 (8 + i)) = m 54 (8 + i) := am_s_id (by omega) (by omega)
    by_cases c2 : m 54 (8 + i) = 3
    · by_cases c3 : 1 ≤ a ∧ a ≤ 9
      · refine PK_2 (h1 := 1) (h2 := 3) (v := .inl 0) (R := fun m1 => m1 = w_34 m 2 (i : Int) 0 a 0 0) ?_ ?_ (by decide) (by decide)
        · refine u_44_0 ?_
          simp only [hp, ha, eN, Int.toNat_natCast, k1, ek]
          exact ⟨hv, fun _ => ⟨by omega, fun _ => ⟨fun q => by omega, fun _ => ⟨fun _ => ⟨q34_ok (by omega), (by first | rfl | trivial), (by first | rfl | trivial)⟩, fun q => by omega⟩⟩, fun q => absurd c2 q⟩, fun q => absurd c1 q⟩
        · rintro _ rfl
          have e54 : (w_34 m 2 (i : Int) 0 a 0 0) 54 = m 54 := by
            funext k
            exact w34_r (by omega) (by omega)
          refine u_188_0 ?_
          simp only [hp, ha, am_t_s, mu54, e54, Int.toNat_natCast, show am_s 3 = 3 from rfl, show am_t 1 = 1 from rfl, show am_t 9 = 9 from rfl, t32 hp, t32 ha]
          refine ⟨hw, fun _ => ⟨fun _ => ⟨fun _ => ⟨q185_ok (by omega), (by first | rfl | trivial), ?_⟩, fun q => absurd c3 q⟩, fun q => absurd ⟨c1, ?_⟩ q⟩, fun q => absurd c1 q⟩
          · exact Inv_lay hI c1.2 (by omega) (by omega) (by omega) (by omega) (fun _ => c3.1)
          · rw [nv_pl (by omega) (by omega) c1.2]; exact c2
      · refine PK_2 (h1 := 1) (h2 := 3) (v := .inl (-3)) (R := fun m1 => m = m1) ?_ ?_ (by decide) (by decide)
        · refine u_44_0 ?_
          simp only [hp, ha, eN, Int.toNat_natCast, k1, ek]
          exact ⟨hv, fun _ => ⟨by omega, fun _ => ⟨fun q => ⟨(by first | rfl | trivial), (by first | rfl | trivial)⟩, fun _ => ⟨fun _ => by omega, fun q => ⟨(by first | rfl | trivial), (by first | rfl | trivial)⟩⟩⟩, fun q => absurd c2 q⟩, fun q => absurd c1 q⟩
        · rintro _ rfl
          refine u_188_0 ?_
          simp only [hp, ha, am_t_s, mu54, Int.toNat_natCast, show am_s 3 = 3 from rfl, show am_t 1 = 1 from rfl, show am_t 9 = 9 from rfl, t32 hp, t32 ha]
          refine ⟨hw, fun _ => ⟨fun _ => ⟨fun q => absurd q c3, fun q => ⟨(by first | rfl | trivial), Inv_t hI⟩⟩, fun q => absurd ⟨c1, ?_⟩ q⟩, fun q => absurd c1 q⟩
          rw [nv_pl (by omega) (by omega) c1.2]; exact c2
    · refine PK_2 (h1 := 1) (h2 := 3) (v := .inl (-5)) (R := fun m1 => m = m1) ?_ ?_ (by decide) (by decide)
      · refine u_44_0 ?_
        simp only [hp, ha, eN, Int.toNat_natCast, k1, ek]
        exact ⟨hv, fun _ => ⟨by omega, fun q => absurd q c2, fun _ => ⟨(by first | rfl | trivial), (by first | rfl | trivial)⟩⟩, fun q => absurd c1 q⟩
      · rintro _ rfl
        refine u_188_0 ?_
        simp only [hp, ha, am_t_s, mu54, Int.toNat_natCast, show am_s 3 = 3 from rfl, t32 hp]
        refine ⟨hw, fun _ => ⟨fun q => absurd q.2 ?_, fun q => ⟨(by first | rfl | trivial), Inv_t hI⟩⟩, fun q => absurd c1 q⟩
        rw [nv_pl (by omega) (by omega) c1.2]; exact c2
  · refine PK_2 (h1 := 1) (h2 := 3) (v := .inl (-2)) (R := fun m1 => m = m1) ?_ ?_ (by decide) (by decide)
    · refine u_44_0 ?_
      simp only [hp, ha, eN]
      exact ⟨hv, fun q => absurd q c1, fun _ => ⟨(by first | rfl | trivial), (by first | rfl | trivial)⟩⟩
    · rintro _ rfl
      refine u_188_0 ?_
      simp only [hp, ha, am_t_s, mu54, t32 hp]
      exact ⟨hw, fun q => absurd q c1, fun _ => ⟨(by first | rfl | trivial), Inv_t hI⟩⟩
theorem P_sell {m : am_M} {p : Int} (hp : am_s p = p) (hI : Inv m) : PK 43 3 186 3 [.inl p] m := by
  have hw := Inv_wf hI
  have hN := hw.1
  have eN := Inv_N hI
  have hv := Inv_vw hI
  by_cases c1 : 0 ≤ p ∧ p < m 54 0
  · obtain ⟨i, rfl⟩ : ∃ i : Nat, p = (i : Int) := ⟨p.toNat, by omega⟩
    obtain ⟨k1, k2, k3, -⟩ := Inv_K hI c1.2
    have hk := hw.2.1 i (by omega)
    have hr := hw.2.2.2.1 i (by omega)
    have ek : am_s (m 54 (8 + i)) = m 54 (8 + i) := am_s_id (by omega) (by omega)
    have er : am_s (m 54 (32 + i)) = m 54 (32 + i) := am_s_id (by omega) (by omega)
    have e1 : am_s (32 + (i : Int)) = 32 + (i : Int) := am_s_id (by omega) (by omega)
    have e2 : am_s (20 + (i : Int)) = 20 + (i : Int) := am_s_id (by omega) (by omega)
    have e3 : (32 + (i : Int)).toNat = 32 + i := by omega
    have e4 : (20 + (i : Int)).toNat = 20 + i := by omega
    have eK : nv (m 54) (8 + i) = m 54 (8 + i) := nv_pl (by omega) (by omega) c1.2
    by_cases c2 : m 54 (8 + i) = 0 ∧ m 54 (32 + i) = 100
    · refine PK_2 (h1 := 1) (h2 := 3) (v := .inl (m 54 (20 + i))) (R := fun m1 => m1 = w_34 m 2 (i : Int) 3 0 0 0) ?_ ?_ (by decide) (by decide)
      · refine u_43_0 ?_
        simp only [hp, eN, Int.toNat_natCast, k1, k2, k3, ek, er]
        exact ⟨hv, fun _ => ⟨by omega, fun q => absurd c2.1 q, fun _ => ⟨fun _ => ⟨q34_ok (by omega), (by first | rfl | trivial), (by first | rfl | trivial)⟩, fun q => absurd c2.2 q⟩⟩, fun q => absurd c1 q⟩
      · rintro _ rfl
        have e54 : (w_34 m 2 (i : Int) 3 0 0 0) 54 = m 54 := by
          funext k
          exact w34_r (by omega) (by omega)
        refine u_186_0 ?_
        simp only [hp, am_t_s, mu54, e54, Int.toNat_natCast, show am_s 0 = 0 from rfl, t32 hp, e1, e2, e3, e4, er, eK]
        refine ⟨hw, fun _ => ⟨fun q => absurd ⟨c1, c2.1⟩ q, fun _ => ⟨by omega, fun _ => ⟨by omega, q185_ok (by omega), (by first | rfl | trivial), ?_⟩, fun q => by omega⟩⟩, fun q => absurd c1 q⟩
        exact Inv_lay hI c1.2 (by omega) (by omega) (by omega) (by omega) (fun q => absurd rfl q)
    · refine PK_2 (h1 := 1) (h2 := 3) (v := .inl (-5)) (R := fun m1 => m = m1) ?_ ?_ (by decide) (by decide)
      · refine u_43_0 ?_
        simp only [hp, eN, Int.toNat_natCast, k1, k2, k3, ek, er]
        exact ⟨hv, fun _ => ⟨by omega, fun _ => ⟨(by first | rfl | trivial), (by first | rfl | trivial)⟩, fun q => ⟨fun q2 => absurd ⟨q, q2⟩ c2, fun _ => ⟨(by first | rfl | trivial), (by first | rfl | trivial)⟩⟩⟩, fun q => absurd c1 q⟩
      · rintro _ rfl
        refine u_186_0 ?_
        simp only [hp, am_t_s, mu54, Int.toNat_natCast, show am_s 0 = 0 from rfl, t32 hp, e1, e2, e3, e4, er, eK]
        exact ⟨hw, fun _ => ⟨fun _ => ⟨(by first | rfl | trivial), Inv_t hI⟩, fun q => ⟨by omega, fun q2 => absurd ⟨q.2, by omega⟩ c2, fun _ => ⟨(by first | rfl | trivial), Inv_t hI⟩⟩⟩, fun q => absurd c1 q⟩
  · refine PK_2 (h1 := 1) (h2 := 3) (v := .inl (-2)) (R := fun m1 => m = m1) ?_ ?_ (by decide) (by decide)
    · refine u_43_0 ?_
      simp only [hp, eN]
      exact ⟨hv, fun q => absurd q c1, fun _ => ⟨(by first | rfl | trivial), (by first | rfl | trivial)⟩⟩
    · rintro _ rfl
      refine u_186_0 ?_
      simp only [hp, am_t_s, mu54, t32 hp]
      exact ⟨hw, fun q => absurd q c1, fun _ => ⟨(by first | rfl | trivial), Inv_t hI⟩⟩
theorem P_swap {m : am_M} {p q : Int} (hp : am_s p = p) (hq : am_s q = q) (hI : Inv m) : PK 41 3 184 7 [.inl p, .inl q] m := by
  have hw := Inv_wf hI
  have hN := hw.1
  have eN := Inv_N hI
  have hv := Inv_vw hI
  by_cases c : (0 ≤ p ∧ p < m 54 0) ∧ (0 ≤ q ∧ q < m 54 0)
  · obtain ⟨c1, c2⟩ := c
    obtain ⟨i, rfl⟩ : ∃ i : Nat, p = (i : Int) := ⟨p.toNat, by omega⟩
    obtain ⟨j, rfl⟩ : ∃ j : Nat, q = (j : Int) := ⟨q.toNat, by omega⟩
    have hi : i < 12 := by omega
    have hj : j < 12 := by omega
    obtain ⟨i1, i2, i3, i4⟩ := Inv_K hI c1.2
    obtain ⟨j1, j2, j3, j4⟩ := Inv_K hI c2.2
    have v40 : ∀ x : Int, am_s x = x → 0 ≤ x ∧ x < m 54 0 → ¬ am_s (v_40 m 2 x) = 0 := by
      intro x h1 h2
      rw [v_40_ok (by decide) m x hv, as_ite, h1, eN]
      exact not_not_intro h2
    refine PK_2 (h1 := 2) (h2 := 2) (v := .inl 0) (R := fun m1 => m1 = w_34 (w_34 m 2 (i : Int) (m 54 (8 + j)) (m 54 (20 + j)) (m 54 (32 + j)) (m 54 (44 + j))) 2 (j : Int) (m 54 (8 + i)) (m 54 (20 + i)) (m 54 (32 + i)) (m 54 (44 + i))) ?_ ?_ (by decide) (by decide)
    · refine u_41_0 ?_
      simp only [hp, hq, eN]
      refine ⟨hv, fun h => absurd c1 h, fun _ => ⟨fun _ => ⟨?_, (by first | rfl | trivial), ?_⟩, fun h => absurd c2 h⟩⟩
      · unfold q_42
        simp only [hp, hq]
        intro _ _
        exact ⟨by omega, by omega, q34_ok (by omega), q34_ok (by omega)⟩
      · unfold w_42
        rw [if_neg (v40 _ hp c1), if_pos (v40 _ hq c2), hp, hq, Int.toNat_natCast, Int.toNat_natCast]
        show w_34 (w_34 m 2 _ (m 3 j) (m 4 j) (m 5 j) (m 6 j)) 2 _ (m 3 i) (m 4 i) (m 5 i) (m 6 i) = _
        rw [i1, i2, i3, i4, j1, j2, j3, j4]
    · rintro _ rfl
      have e54 : (w_34 (w_34 m 2 (i : Int) (m 54 (8 + j)) (m 54 (20 + j)) (m 54 (32 + j)) (m 54 (44 + j))) 2 (j : Int) (m 54 (8 + i)) (m 54 (20 + i)) (m 54 (32 + i)) (m 54 (44 + i))) 54 = m 54 := by
        funext k
        rw [w34_r hj (by omega), w34_r hi (by omega)]
      have ex : ∀ (b : Nat) (x : Nat), b < 100 → x < 12 → am_s ((b : Int) + (x : Int)) = ((b + x : Nat) : Int) := fun b x h1 h2 => by rw [am_s_id (by omega) (by omega)]; omega
      have x1 := ex 8 i (by decide) hi
      have x2 := ex 20 i (by decide) hi
      have x3 := ex 32 i (by decide) hi
      have x4 := ex 44 i (by decide) hi
      have y1 := ex 8 j (by decide) hj
      have y2 := ex 20 j (by decide) hj
      have y3 := ex 32 j (by decide) hj
      have y4 := ex 44 j (by decide) hj
      refine u_184_0 ?_
      simp only [hp, hq, am_t_s, mu54, e54, t32 hp, t32 hq]
      refine ⟨hw, fun h => absurd c1 h, fun _ => ⟨fun _ => ?_, fun h => absurd c2 h⟩⟩
      rw [show am_s (8 + (i : Int)) = ((8 + i : Nat) : Int) from x1, show am_s (20 + (i : Int)) = ((20 + i : Nat) : Int) from x2, show am_s (32 + (i : Int)) = ((32 + i : Nat) : Int) from x3, show am_s (44 + (i : Int)) = ((44 + i : Nat) : Int) from x4, show am_s (8 + (j : Int)) = ((8 + j : Nat) : Int) from y1, show am_s (20 + (j : Int)) = ((20 + j : Nat) : Int) from y2, show am_s (32 + (j : Int)) = ((32 + j : Nat) : Int) from y3, show am_s (44 + (j : Int)) = ((44 + j : Nat) : Int) from y4]
      simp only [Int.toNat_natCast]
      refine ⟨by omega, by omega, by omega, by omega, by omega, by omega, by omega, by omega, q185_ok (by omega), q185_ok (by omega), (by first | rfl | trivial), ?_⟩
      have bi := hw.2.1 i hi
      have bj := hw.2.1 j hj
      have si := hw.2.2.1 i hi
      have sj := hw.2.2.1 j hj
      have ri := hw.2.2.2.1 i hi
      have rj := hw.2.2.2.1 j hj
      have di := hw.2.2.2.2.1 i hi
      have dj := hw.2.2.2.2.1 j hj
      have li := hI.1.2.2 i hi c1.2
      have lj := hI.1.2.2 j hj c2.2
      refine Inv_sh hI ?_ ?_ fun r k hc h1 h2 => ?_
      · rw [w185_54 hj, w185_54 hi, mu54, e54]
        exact okg_ly (okg_ly hI.1 hi bj sj rj dj lj) hj bi si ri di li
      · have e2 : vw (w_185 (w_185 (mu (w_34 (w_34 m 2 (i : Int) (m 54 (8 + j)) (m 54 (20 + j)) (m 54 (32 + j)) (m 54 (44 + j))) 2 (j : Int) (m 54 (8 + i)) (m 54 (20 + i)) (m 54 (32 + i)) (m 54 (44 + i))) 53 0 0) (i : Int) (m 54 (8 + j)) (m 54 (20 + j)) (m 54 (32 + j)) (m 54 (44 + j))) (j : Int) (m 54 (8 + i)) (m 54 (20 + i)) (m 54 (32 + i)) (m 54 (44 + i))) 2 = ly (ly (vw m 2) i (m 54 (8 + j)) (m 54 (20 + j)) (m 54 (32 + j)) (m 54 (44 + j))) j (m 54 (8 + i)) (m 54 (20 + i)) (m 54 (32 + i)) (m 54 (44 + i)) := by
          rw [← vw_34 hi, ← vw_34 hj]
          refine vw_same fun r k h1 h2 => ?_
          rw [w185_r hj (by omega), w185_r hi (by omega), mu_r (by omega)]
        have n1 : ∀ g : Nat → Int, (j : Int) < g 0 → (j : Int) < ly g i (m 54 (8 + j)) (m 54 (20 + j)) (m 54 (32 + j)) (m 54 (44 + j)) 0 := fun g h => by rw [ly_lo (by decide)]; exact h
        rw [e2, w185_54 hj, w185_54 hi, mu54, e54, nv_ly hj (n1 _ (by rw [vw_0, eN]; exact c2.2)), nv_ly hi (by rw [vw_0, eN]; exact c1.2), nv_ly hj (n1 _ c2.2), nv_ly hi c1.2, Inv_nv hI]
        exact ⟨WFG_ly (WFG_ly hv hi bj sj rj dj) hj bi si ri di, rfl⟩
      · by_cases h54 : r = 54
        · subst h54
          rw [w185_hi hj (by omega), w185_hi hi (by omega), mu_r (by decide), w34_r hj (by omega), w34_r hi (by omega)]
        · rw [w185_r hj h54, w185_r hi h54, mu_o (by unfold core at hc; omega), w34_r hj (by omega), w34_r hi (by omega)]
  · refine PK_2 (h1 := 2) (h2 := 2) (v := .inl (-2)) (R := fun m1 => m = m1) ?_ ?_ (by decide) (by decide)
    · refine u_41_0 ?_
      simp only [hp, hq, eN]
      exact ⟨hv, fun _ => ⟨(by first | rfl | trivial), (by first | rfl | trivial)⟩, fun h1 => ⟨fun h2 => absurd ⟨h1, h2⟩ c, fun _ => ⟨(by first | rfl | trivial), (by first | rfl | trivial)⟩⟩⟩
    · rintro _ rfl
      refine u_184_0 ?_
      simp only [hp, hq, am_t_s, mu54, t32 hp, t32 hq]
      exact ⟨hw, fun _ => ⟨(by first | rfl | trivial), Inv_t hI⟩, fun h1 => ⟨fun h2 => absurd ⟨h1, h2⟩ c, fun _ => ⟨(by first | rfl | trivial), Inv_t hI⟩⟩⟩
