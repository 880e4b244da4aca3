/-- class and model answer alike, and what holds between calls holds again -/
def PR (c1 n1 c2 n2 : Nat) (a : List am_V) (m : am_M) : Prop := ∃ v m1 m2, (∀ fx : am_X0, rn fx 100 (0, 0) c1 0 (am_ent n1 (.inr (.inr (some 0)) :: a)) [] (st0 m) ([v], st0 m1)) ∧ (∀ fx : am_X0, rn fx 100 (0, 0) c2 0 (am_ent n2 (.inr (.inr (some 53)) :: a)) [] (st0 m1) ([v], st0 m2)) ∧ Inv m2
theorem Inv_K {m : am_M} (h : Inv m) {p : Nat} (hp : (p : Int) < m 54 0) : m 3 p = m 54 (8 + p) ∧ m 4 p = m 54 (20 + p) ∧ m 5 p = m 54 (32 + p) ∧ m 6 p = m 54 (44 + p) := by
  have hN := (Inv_wf h).1
  have e := Inv_nv h
  have hp2 : (p : Int) < m 2 4 := by rw [Inv_N h]; exact hp
  refine ⟨?_, ?_, ?_, ?_⟩
  · have := congrFun e (8 + p)
    rw [nvK (by omega) hp2, nv_pl (by omega) (by omega) hp] at this
    exact this
  · have := congrFun e (20 + p)
    rw [nvS (by omega) hp2, nv_pl (by omega) (by omega) hp] at this
    exact this
  · have := congrFun e (32 + p)
    rw [nvR (by omega) hp2, nv_pl (by omega) (by omega) hp] at this
    exact this
  · have := congrFun e (44 + p)
    rw [nvI (by omega) hp2, nv_pl (by omega) (by omega) hp] at this
    exact this
theorem t32 {z : Int} (h : am_s z = z) : am_t z = z := by
  have := am_t_s z
  rw [h] at this
  exact this
theorem mu54 {m : am_M} {k : Nat} {z : Int} : (mu m 53 k z) 54 = m 54 := mu_rf (by decide)
theorem Inv_t {m : am_M} (h : Inv m) : Inv (mu m 53 0 0) := Inv_kpC (kpC_mu (by unfold core; omega)) h
/-- a question: the class leaves all as it was -/
theorem P_fault {m : am_M} {a : Int} (ha : am_s a = a) (hI : Inv m) : PR 38 2 181 2 [.inl a] m := by
  refine ⟨_, m, _, fun fx => (c_38 m a).mono (by decide), fun fx => ?_, Inv_t hI⟩
  have h := c_181 (fx := fx) m a
  have e : v_181 m a = v_38 m a := by
    unfold v_181 v_38
    rw [hI.2.2.2.2.2.1, hI.2.2.2.2.2.2.1, show am_s 1 = 1 from rfl, ite_n, ite_n]
  rw [e] at h
  exact h.mono (by decide)
theorem P_barrel {m : am_M} {p a : Int} (hp : am_s p = p) (ha : am_s a = a) (hI : Inv m) : PR 39 3 182 3 [.inl p, .inl a] m := by
  have hN := (Inv_wf hI).1
  have hb := am_s_rng a
  rw [ha] at hb
  refine ⟨_, m, _, fun fx => (c_39 m p a ?_).mono (by decide), fun fx => ?_, Inv_t hI⟩
  · unfold q_39
    simp only [as_ite, nn_iff, hp]
    rw [Inv_N hI]
    exact ⟨Inv_vw hI, fun h => ⟨fun _ => by omega, fun _ => by omega, fun _ => by omega, fun _ => by omega⟩⟩
  · have e8 : (0 ≤ p ∧ p < m 54 0) → (0 ≤ a ∧ a ≤ 3) → am_s (8 + 12 * a + p) = 8 + 12 * a + p := fun _ _ => am_s_id (by omega) (by omega)
    have h := c_182 (fx := fx) m p a ?_
    · have e : v_182 m p a = v_39 m p a := by
        unfold v_182 v_39
        simp only [as_ite, nn_iff, hp, ha, mu54, t32 hp, t32 ha]
        rw [show am_t 0 = 0 from rfl, show am_t 3 = 3 from rfl, Inv_N hI]
        by_cases c1 : 0 ≤ p ∧ p < m 54 0
        · rw [if_neg (not_not_intro c1), if_pos c1]
          obtain ⟨k1, k2, k3, k4⟩ := Inv_K hI (p := p.toNat) (by omega)
          by_cases c2 : 0 ≤ a ∧ a ≤ 3
          · rw [if_neg (not_not_intro c2), e8 c1 c2]
            have : a = 0 ∨ a = 1 ∨ a = 2 ∨ a = 3 := by omega
            rcases this with rfl | rfl | rfl | rfl
            · rw [if_pos rfl, k1]; congr 1; omega
            · rw [if_neg (by decide), if_pos rfl, k2]; congr 1; omega
            · rw [if_neg (by decide), if_neg (by decide), if_pos rfl, k3]; congr 1; omega
            · rw [if_neg (by decide), if_neg (by decide), if_neg (by decide), if_pos rfl, k4]; congr 1; omega
          · rw [if_pos c2, if_neg (by omega), if_neg (by omega), if_neg (by omega), if_neg (by omega)]
        · rw [if_pos c1, if_neg c1]
      rw [e] at h
      exact h.mono (by decide)
    · unfold q_182
      simp only [as_ite, nn_iff, hp, ha, mu54, t32 hp, t32 ha]
      rw [show am_t 0 = 0 from rfl, show am_t 3 = 3 from rfl]
      refine ⟨Inv_wf hI, fun c1 c2 => ?_⟩
      rw [e8 c1 c2]
      omega
theorem P_tone {m : am_M} {p : Int} (hp : am_s p = p) (hI : Inv m) : PR 66 2 207 2 [.inl p] m := by
  have hw := Inv_wf hI
  have hN := hw.1
  refine ⟨_, m, _, fun fx => (c_66 m p ?_).mono (by decide), fun fx => ?_, Inv_t hI⟩
  · unfold q_66
    simp only [as_ite, nn_iff, hp]
    rw [Inv_N hI]
    exact ⟨Inv_vw hI, fun h => ⟨by omega, fun _ => ⟨Inv_vw hI, h⟩⟩⟩
  · have h := c_207 (fx := fx) m p ?_
    · have e : v_207 m p = v_66 m p := by
        unfold v_207 v_66
        simp only [as_ite, nn_iff, hp, mu54, t32 hp, show am_s 3 = 3 from rfl, show am_s 1 = 1 from rfl, Inv_N hI, Inv_nv hI]
        by_cases c1 : 0 ≤ p ∧ p < m 54 0
        · rw [if_pos c1, if_pos c1]
          obtain ⟨k1, k2, k3, k4⟩ := Inv_K hI (p := p.toNat) (by omega)
          have hk := hw.2.1 p.toNat (by omega)
          have ek : am_s (m 54 (8 + p.toNat)) = m 54 (8 + p.toNat) := am_s_id (by omega) (by omega)
          rw [k1, ek, nv_pl (by omega) (by omega) (by omega)]
          by_cases c2 : m 54 (8 + p.toNat) = 3
          · rw [if_neg (fun q => q ⟨c1, c2⟩), if_neg (not_not_intro c2)]
          · rw [if_pos (fun q => c2 q.2), if_pos c2, if_neg c2]
            congr 1
            apply decide_eq_decide.mpr
            rw [ne_eq, as_ite, nn_iff]
            exact ⟨fun q => q.2, fun q => ⟨c1, q⟩⟩
        · rw [if_neg c1, if_neg c1]
      rw [e] at h
      exact h.mono (by decide)
    · unfold q_207
      simp only [as_ite, nn_iff, hp, mu54, t32 hp]
      exact ⟨hw, fun c1 _ => ⟨hw, c1⟩⟩
theorem P_knock {m : am_M} {p : Int} (hp : am_s p = p) (hI : Inv m) : PR 70 2 209 2 [.inl p] m := by
  have hw := Inv_wf hI
  have hN := hw.1
  have ho := ons_lt (g := nv (m 54)) (w := 1) (nv0_le hw)
  refine ⟨_, m, _, fun fx => (c_70 m p ?_).mono (by decide), fun fx => ?_, Inv_t hI⟩
  · unfold q_70
    simp only [as_ite, nn_iff, hp, Inv_N hI, Inv_nv hI, show am_s 1 = 1 from rfl]
    exact ⟨Inv_vw hI, fun h => ⟨Inv_vw hI, by omega, by omega⟩⟩
  · have h := c_209 (fx := fx) m p ?_
    · have e : v_209 m p = v_70 m p := by
        unfold v_209 v_70
        simp only [as_ite, nn_iff, hp, mu54, show am_s 1 = 1 from rfl, Inv_N hI, Inv_nv hI]
        by_cases c1 : (0 ≤ p ∧ p < m 54 0) ∧ nv (m 54) (8 + p.toNat) ≠ 3
        · rw [if_neg (not_not_intro c1), if_neg (not_not_intro c1), if_pos ⟨c1.1.2, c1.2⟩]
        · rw [if_pos c1, if_pos c1]
      rw [e] at h
      exact h.mono (by decide)
    · unfold q_209
      simp only [as_ite, nn_iff, hp, mu54, show am_s 1 = 1 from rfl]
      exact ⟨hw, fun c1 => ⟨hw, c1.1, by omega⟩⟩
theorem P_heard {m : am_M} {p b : Int} (hp : am_s p = p) (hb : am_s b = b) (hI : Inv m) : PR 76 3 211 3 [.inl p, .inl b] m := by
  have hw := Inv_wf hI
  have hN := hw.1
  have h0 := nv0_le hw
  have ho := may_lt (g := nv (m 54)) h0
  have em : am_or ((ons (nv (m 54)) 0 : Nat) : Int) ((ons (nv (m 54)) 1 : Nat) : Int) = ((may (nv (m 54)) : Nat) : Int) := bx_or12 (ons_lt h0) (ons_lt h0)
  refine ⟨_, m, _, fun fx => (c_76 m p b ?_).mono (by decide), fun fx => ?_, Inv_t hI⟩
  · unfold q_76
    simp only [as_ite, nn_iff, hp, hb, Inv_N hI, Inv_nv hI]
    refine ⟨Inv_vw hI, fun h1 h2 => ⟨Inv_vw hI, by omega, ?_⟩⟩
    have := sub_le h2.2
    omega
  · have h := c_211 (fx := fx) m p b ?_
    · have e : v_211 m p b = v_76 m p b := by
        unfold v_211 v_76
        simp only [as_ite, nn_iff, hp, hb, mu54, show am_s 1 = 1 from rfl, show am_s 0 = 0 from rfl, Inv_N hI, Inv_nv hI, em, bx_sub (z := b) (b := may (nv (m 54))) (by omega)]
        by_cases c1 : (0 ≤ p ∧ p < m 54 0) ∧ nv (m 54) (8 + p.toNat) ≠ 3
        · rw [if_neg (not_not_intro c1), if_neg (not_not_intro c1)]
          by_cases c2 : 0 ≤ b ∧ b.toNat &&& may (nv (m 54)) = b.toNat
          · rw [if_neg (not_not_intro c2), if_pos c2, if_pos ⟨c1.1.2, c1.2⟩]
          · rw [if_pos c2, if_neg c2]
        · rw [if_pos c1, if_pos c1]
      rw [e] at h
      exact h.mono (by decide)
    · unfold q_211
      simp only [as_ite, nn_iff, hp, hb, mu54, show am_s 1 = 1 from rfl, show am_s 0 = 0 from rfl, em, bx_sub (z := b) (b := may (nv (m 54))) (by omega)]
      refine ⟨hw, fun c1 c2 => ⟨hw, c1.1, ?_⟩⟩
      have := sub_le c2.2
      omega
