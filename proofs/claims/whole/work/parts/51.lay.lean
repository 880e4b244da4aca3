/-- a place of a view laid anew -/
def ly (g : Nat → Int) (p : Nat) (a b c e : Int) : Nat → Int := fun k => if k = 8 + p then a else if k = 20 + p then b else if k = 32 + p then c else if k = 44 + p then e else g k
theorem ly_K {g : Nat → Int} {p q : Nat} {a b c e : Int} (hp : p < 12) (hq : q < 12) : ly g p a b c e (8 + q) = if q = p then a else g (8 + q) := by
  unfold ly
  by_cases h : q = p
  · rw [if_pos (by omega), if_pos h]
  · rw [if_neg (by omega), if_neg (by omega), if_neg (by omega), if_neg (by omega), if_neg h]
theorem ly_S {g : Nat → Int} {p q : Nat} {a b c e : Int} (hp : p < 12) (hq : q < 12) : ly g p a b c e (20 + q) = if q = p then b else g (20 + q) := by
  unfold ly
  by_cases h : q = p
  · rw [if_neg (by omega), if_pos (by omega), if_pos h]
  · rw [if_neg (by omega), if_neg (by omega), if_neg (by omega), if_neg (by omega), if_neg h]
theorem ly_R {g : Nat → Int} {p q : Nat} {a b c e : Int} (hp : p < 12) (hq : q < 12) : ly g p a b c e (32 + q) = if q = p then c else g (32 + q) := by
  unfold ly
  by_cases h : q = p
  · rw [if_neg (by omega), if_neg (by omega), if_pos (by omega), if_pos h]
  · rw [if_neg (by omega), if_neg (by omega), if_neg (by omega), if_neg (by omega), if_neg h]
theorem ly_I {g : Nat → Int} {p q : Nat} {a b c e : Int} (hp : p < 12) : ly g p a b c e (44 + q) = if q = p then e else g (44 + q) := by
  unfold ly
  by_cases h : q = p
  · rw [if_neg (by omega), if_neg (by omega), if_neg (by omega), if_pos (by omega), if_pos h]
  · rw [if_neg (by omega), if_neg (by omega), if_neg (by omega), if_neg (by omega), if_neg h]
theorem ly_lo {g : Nat → Int} {p k : Nat} {a b c e : Int} (hk : k < 8) : ly g p a b c e k = g k := by
  unfold ly
  rw [if_neg (by omega), if_neg (by omega), if_neg (by omega), if_neg (by omega)]
theorem nv_ly {g : Nat → Int} {p : Nat} {a b c e : Int} (hp : p < 12) (hN : (p : Int) < g 0) : nv (ly g p a b c e) = ly (nv g) p a b c e := by
  have e0 : ly g p a b c e 0 = g 0 := ly_lo (by decide)
  funext k
  by_cases h1 : k = 8 + p
  · subst h1
    rw [nv_pl (by omega) hp (by rw [e0]; exact hN), ly_K hp hp, ly_K hp hp, if_pos rfl, if_pos rfl]
  by_cases h2 : k = 20 + p
  · subst h2
    rw [nv_pl (by omega) hp (by rw [e0]; exact hN), ly_S hp hp, ly_S hp hp, if_pos rfl, if_pos rfl]
  by_cases h3 : k = 32 + p
  · subst h3
    rw [nv_pl (by omega) hp (by rw [e0]; exact hN), ly_R hp hp, ly_R hp hp, if_pos rfl, if_pos rfl]
  by_cases h4 : k = 44 + p
  · subst h4
    rw [nv_pl (by omega) hp (by rw [e0]; exact hN), ly_I hp, ly_I hp, if_pos rfl, if_pos rfl]
  unfold nv
  rw [e0]
  unfold ly
  rw [if_neg h1, if_neg h2, if_neg h3, if_neg h4, if_neg h1, if_neg h2, if_neg h3, if_neg h4]
theorem WFG_ly {g : Nat → Int} {p : Nat} {a b c e : Int} (h : WFG g) (hp : p < 12) (ha : 0 ≤ a ∧ a ≤ 3) (hb : 0 ≤ b ∧ b ≤ 9) (hc : 0 ≤ c ∧ c ≤ 100) (he : 0 ≤ e ∧ e ≤ 99) : WFG (ly g p a b c e) := by
  obtain ⟨h0, h1, h2, h3, h4, h5⟩ := h
  refine ⟨?_, fun q hq => ?_, fun q hq => ?_, fun q hq => ?_, fun q hq => ?_, ?_⟩
  · rw [ly_lo (by decide)]; exact h0
  · rw [ly_K hp hq]; split
    · exact ha
    · exact h1 q hq
  · rw [ly_S hp hq]; split
    · exact hb
    · exact h2 q hq
  · rw [ly_R hp hq]; split
    · exact hc
    · exact h3 q hq
  · rw [ly_I hp]; split
    · exact he
    · exact h4 q hq
  · rw [ly_lo (k := 2) (by decide), ly_lo (k := 3) (by decide), ly_lo (k := 4) (by decide), ly_lo (k := 5) (by decide), ly_lo (k := 6) (by decide), ly_lo (k := 7) (by decide), ly_lo (k := 1) (by decide)]
    exact h5
theorem SLT_ly {g : Nat → Int} {p : Nat} {a b c e : Int} (h : SLT g) (hp : p < 12) (hab : a ≠ 3 → 1 ≤ b) : SLT (ly g p a b c e) := by
  intro q hq hN hk
  rw [ly_lo (by decide)] at hN
  rw [ly_K hp hq] at hk
  rw [ly_S hp hq]
  by_cases hqp : q = p
  · rw [if_pos hqp] at hk ⊢
    exact hab hk
  · rw [if_neg hqp] at hk ⊢
    exact h q hq hN hk
theorem okg_ly {g : Nat → Int} {p : Nat} {a b c e : Int} (h : okg g) (hp : p < 12) (ha : 0 ≤ a ∧ a ≤ 3) (hb : 0 ≤ b ∧ b ≤ 9) (hc : 0 ≤ c ∧ c ≤ 100) (he : 0 ≤ e ∧ e ≤ 99) (hab : a ≠ 3 → 1 ≤ b) : okg (ly g p a b c e) := ⟨WFG_ly h.1 hp ha hb hc he, by rw [ly_lo (by decide)]; exact h.2.1, SLT_ly h.2.2 hp hab⟩
theorem vw_cases (k : Nat) : k < 8 ∨ (∃ q, q < 12 ∧ k = 8 + q) ∨ (∃ q, q < 12 ∧ k = 20 + q) ∨ (∃ q, q < 12 ∧ k = 32 + q) ∨ (∃ q, k = 44 + q) := by
  by_cases h1 : k < 8
  · exact Or.inl h1
  by_cases h2 : k < 20
  · exact Or.inr (Or.inl ⟨k - 8, by omega, by omega⟩)
  by_cases h3 : k < 32
  · exact Or.inr (Or.inr (Or.inl ⟨k - 20, by omega, by omega⟩))
  by_cases h4 : k < 44
  · exact Or.inr (Or.inr (Or.inr (Or.inl ⟨k - 32, by omega, by omega⟩)))
  · exact Or.inr (Or.inr (Or.inr (Or.inr ⟨k - 44, by omega⟩)))
theorem w34_eq {m : am_M} {s p : Nat} {a b c e : Int} (hp : p < 12) : w_34 m s (p : Int) a b c e = mu (mu (mu (mu m (s + 1) p a) (s + 2) p b) (s + 3) p c) (s + 4) p e := by
  unfold w_34
  rw [am_s_id (z := (p : Int)) (by omega) (by omega), show am_s 12 = 12 from rfl, if_neg (by omega), if_pos (by omega), Int.toNat_natCast]
theorem w34_r {m : am_M} {s p r k : Nat} {a b c e : Int} (hp : p < 12) (h : r < s + 1 ∨ s + 4 < r) : w_34 m s (p : Int) a b c e r k = m r k := by
  rw [w34_eq hp, mu_r (by omega), mu_r (by omega), mu_r (by omega), mu_r (by omega)]
theorem mu_o {m : am_M} {r k a j : Nat} {z : Int} (h : ¬ (a = r ∧ j = k)) : mu m r k z a j = m a j := by
  unfold mu
  rw [if_neg h]
theorem mu_if {m : am_M} {r k j : Nat} {z : Int} : mu m r k z r j = if j = k then z else m r j := by
  by_cases h : j = k
  · rw [if_pos h, h, mu_same]
  · rw [if_neg h, mu_k h]
theorem vw_34 {m : am_M} {s p : Nat} {a b c e : Int} (hp : p < 12) : vw (w_34 m s (p : Int) a b c e) s = ly (vw m s) p a b c e := by
  funext k
  rcases vw_cases k with h | ⟨q, hq, rfl⟩ | ⟨q, hq, rfl⟩ | ⟨q, hq, rfl⟩ | ⟨q, rfl⟩
  · rw [ly_lo h]
    unfold vw
    rw [if_pos h, if_pos h, w34_r hp (by omega)]
  · rw [ly_K hp hq, vw_K hq, vw_K hq, w34_eq hp, mu_r (by omega), mu_r (by omega), mu_r (by omega), mu_if]
  · rw [ly_S hp hq, vw_S hq, vw_S hq, w34_eq hp, mu_r (by omega), mu_r (by omega), mu_if, mu_r (by omega)]
  · rw [ly_R hp hq, vw_R hq, vw_R hq, w34_eq hp, mu_r (by omega), mu_if, mu_r (by omega), mu_r (by omega)]
  · rw [ly_I hp, vw_I, vw_I, w34_eq hp, mu_if, mu_r (by omega), mu_r (by omega), mu_r (by omega)]
theorem w185_eq {m : am_M} {p : Nat} {a b c e : Int} (hp : p < 12) : w_185 m (p : Int) a b c e = mu (mu (mu (mu m 54 (8 + p) a) 54 (20 + p) b) 54 (32 + p) c) 54 (44 + p) e := by
  unfold w_185
  rw [am_s_id (z := 8 + (p : Int)) (by omega) (by omega), am_s_id (z := 20 + (p : Int)) (by omega) (by omega), am_s_id (z := 32 + (p : Int)) (by omega) (by omega), am_s_id (z := 44 + (p : Int)) (by omega) (by omega), show (8 + (p : Int)).toNat = 8 + p by omega, show (20 + (p : Int)).toNat = 20 + p by omega, show (32 + (p : Int)).toNat = 32 + p by omega, show (44 + (p : Int)).toNat = 44 + p by omega]
theorem w185_r {m : am_M} {p r : Nat} {a b c e : Int} (hp : p < 12) (h : r ≠ 54) : w_185 m (p : Int) a b c e r = m r := by
  rw [w185_eq hp, mu_rf h, mu_rf h, mu_rf h, mu_rf h]
theorem w185_54 {m : am_M} {p : Nat} {a b c e : Int} (hp : p < 12) : w_185 m (p : Int) a b c e 54 = ly (m 54) p a b c e := by
  rw [w185_eq hp]
  funext k
  unfold ly
  by_cases h4 : k = 44 + p
  · rw [h4, mu_same, if_neg (by omega), if_neg (by omega), if_neg (by omega), if_pos rfl]
  rw [mu_k h4]
  by_cases h3 : k = 32 + p
  · rw [h3, mu_same, if_neg (by omega), if_neg (by omega), if_pos rfl]
  rw [mu_k h3]
  by_cases h2 : k = 20 + p
  · rw [h2, mu_same, if_neg (by omega), if_pos rfl]
  rw [mu_k h2]
  by_cases h1 : k = 8 + p
  · rw [h1, mu_same, if_pos rfl]
  rw [mu_k h1, if_neg h1, if_neg h2, if_neg h3, if_neg h4]
theorem w185_hi {m : am_M} {p k : Nat} {a b c e : Int} (hp : p < 12) (h : 56 ≤ k) : w_185 m (p : Int) a b c e 54 k = m 54 k := by
  rw [w185_54 hp]
  unfold ly
  rw [if_neg (by omega), if_neg (by omega), if_neg (by omega), if_neg (by omega)]
theorem q34_ok {m : am_M} {s : Nat} {p a b c e : Int} (h : 0 ≤ p ∧ p < 12) : q_34 m s p a b c e := by
  unfold q_34
  rw [am_s_id (by omega) (by omega)]
  omega
theorem q185_ok {m : am_M} {p a b c e : Int} (h : 0 ≤ p ∧ p < 12) : q_185 m p a b c e := by
  unfold q_185
  rw [am_s_id (z := 8 + p) (by omega) (by omega), am_s_id (z := 20 + p) (by omega) (by omega), am_s_id (z := 32 + p) (by omega) (by omega), am_s_id (z := 44 + p) (by omega) (by omega)]
  omega
/-- a pair, both answers known -/
theorem PK_2 {c1 n1 c2 n2 h1 h2 : Nat} {a : List am_V} {m : am_M} {v : am_V} {R : am_M → Prop} (k1 : ok h1 c1 0 (am_ent n1 (.inr (.inr (some 0)) :: a)) [] m (fun r m1 => r = [v] ∧ R m1)) (k2 : ∀ m1, R m1 → ok h2 c2 0 (am_ent n2 (.inr (.inr (some 53)) :: a)) [] m1 (fun r m2 => r = [v] ∧ Inv m2)) (l1 : h1 ≤ 100) (l2 : h2 ≤ 100) : PK c1 n1 c2 n2 a m :=
  PK_mk k1 l1 l2 fun r m1 h => ⟨v, h.1, k2 m1 h.2⟩
/-- the model's cells 2..6 and 54 alone have changed -/
theorem Inv_lay {m : am_M} (hI : Inv m) {p : Nat} {a b c e : Int} (hN : (p : Int) < m 54 0) (ha : 0 ≤ a ∧ a ≤ 3) (hb : 0 ≤ b ∧ b ≤ 9) (hc : 0 ≤ c ∧ c ≤ 100) (he : 0 ≤ e ∧ e ≤ 99) (hab : a ≠ 3 → 1 ≤ b) : Inv (w_185 (mu (w_34 m 2 (p : Int) a b c e) 53 0 0) (p : Int) a b c e) := by
  have h12 := (Inv_wf hI).1
  have hp : p < 12 := by omega
  have e54 : (w_185 (mu (w_34 m 2 (p : Int) a b c e) 53 0 0) (p : Int) a b c e) 54 = ly (m 54) p a b c e := by
    rw [w185_54 hp, mu_rf (by decide)]
    congr 1
    funext k
    exact w34_r hp (by omega)
  have e2 : vw (w_185 (mu (w_34 m 2 (p : Int) a b c e) 53 0 0) (p : Int) a b c e) 2 = ly (vw m 2) p a b c e := by
    rw [← vw_34 hp]
    refine vw_same fun r k h1 h2 => ?_
    rw [w185_r hp (by omega), mu_r (by omega)]
  refine Inv_sh hI ?_ ?_ fun r k hc h1 h2 => ?_
  · rw [e54]; exact okg_ly hI.1 hp ha hb hc he hab
  · rw [e54, e2, nv_ly hp (by rw [vw_0, Inv_N hI]; exact hN), nv_ly hp hN, Inv_nv hI]
    exact ⟨WFG_ly (Inv_vw hI) hp ha hb hc he, rfl⟩
  · by_cases h54 : r = 54
    · subst h54
      rw [w185_hi hp (by omega), mu_r (by decide), w34_r hp (by omega)]
    · rw [w185_r hp h54, mu_o (by unfold core at hc; omega), w34_r hp (by omega)]
