noncomputable def HSR (tx : Nat → Int) (n : Nat) : Nat → (Nat → Int) → TKN → (Int × Int) ⊕ (Nat → Int)
  | 0, v, _ => .inr v
  | f + 1, v, t => if t.2.1 = 14 then .inr v else match LNR tx n v t with
    | .inl e => .inl e
    | .inr x => HSR tx n f (up x.1 7 (x.1 7 + 1)) x.2
theorem HSR_e {tx : Nat → Int} {n f : Nat} {v : Nat → Int} {t : TKN} (h : t.2.1 = 14) : HSR tx n (f + 1) v t = .inr v := by
  show (if t.2.1 = 14 then _ else _) = _
  rw [if_pos h]
theorem HSR_n {tx : Nat → Int} {n f : Nat} {v : Nat → Int} {t : TKN} {e : Int × Int} (h : ¬ t.2.1 = 14) (hl : LNR tx n v t = .inl e) : HSR tx n (f + 1) v t = .inl e := by
  show (if t.2.1 = 14 then _ else _) = _
  rw [if_neg h, hl]
theorem HSR_y {tx : Nat → Int} {n f : Nat} {v : Nat → Int} {t : TKN} {x : (Nat → Int) × TKN} (h : ¬ t.2.1 = 14) (hl : LNR tx n v t = .inr x) : HSR tx n (f + 1) v t = HSR tx n f (up x.1 7 (x.1 7 + 1)) x.2 := by
  show (if t.2.1 = 14 then _ else _) = _
  rw [if_neg h, hl]
/-- a token that begins at e or behind it -/
def VF (tx : Nat → Int) (n e : Nat) (t : TKN) : Prop := ∃ a, e ≤ a ∧ a ≤ n ∧ t = tok tx n a
theorem tok_ok {tx : Nat → Int} {n a : Nat} (ha : a ≤ n) : a ≤ (tok tx n a).1 ∧ (tok tx n a).1 ≤ (tok tx n a).2.2.2 ∧ (tok tx n a).2.2.2 ≤ n ∧ (¬ (tok tx n a).2.1 = 14 → (tok tx n a).1 < (tok tx n a).2.2.2) := by
  have hb := spn_b (P := chw) (tx := tx) (n := n) ha
  unfold tok
  generalize spn chw tx n a = p at *
  unfold tkp
  split
  · exact ⟨hb.1, Nat.le_refl _, hb.2, fun h => absurd rfl h⟩
  · rename_i hp
    split
    · rename_i hl
      have e := spn_go (P := chl) (tx := tx) (n := n) (a := p) (by omega) hl
      have hc := spn_b (P := chl) (tx := tx) (n := n) (a := p + 1) (by omega)
      show a ≤ p ∧ p ≤ spn chl tx n p ∧ spn chl tx n p ≤ n ∧ (_ → p < spn chl tx n p)
      rw [e]
      exact ⟨hb.1, by omega, by omega, fun _ => by omega⟩
    · split
      · rename_i hl hd
        have e := spn_go (P := chd) (tx := tx) (n := n) (a := p) (by omega) hd
        have hc := spn_b (P := chd) (tx := tx) (n := n) (a := p + 1) (by omega)
        split
        · show a ≤ p ∧ p ≤ spn chd tx n p ∧ spn chd tx n p ≤ n ∧ (_ → p < spn chd tx n p)
          rw [e]
          exact ⟨hb.1, by omega, by omega, fun _ => by omega⟩
        · show a ≤ p ∧ p ≤ spn chd tx n p ∧ spn chd tx n p ≤ n ∧ (_ → p < spn chd tx n p)
          rw [e]
          exact ⟨hb.1, by omega, by omega, fun _ => by omega⟩
      · split
        · show a ≤ p ∧ p ≤ p + 1 ∧ p + 1 ≤ n ∧ (_ → p < p + 1)
          exact ⟨hb.1, by omega, by omega, fun _ => by omega⟩
        · show a ≤ p ∧ p ≤ p + 1 ∧ p + 1 ≤ n ∧ (_ → p < p + 1)
          exact ⟨hb.1, by omega, by omega, fun _ => by omega⟩
theorem VF_b {tx : Nat → Int} {n e : Nat} {t : TKN} (h : VF tx n e t) : e ≤ t.1 ∧ t.1 ≤ t.2.2.2 ∧ t.2.2.2 ≤ n ∧ (¬ t.2.1 = 14 → t.1 < t.2.2.2) := by
  obtain ⟨a, h1, h2, h3⟩ := h
  have := tok_ok (tx := tx) h2
  rw [← h3] at this
  exact ⟨by omega, this.2⟩
theorem VF_n {tx : Nat → Int} {n e : Nat} {t : TKN} (h : VF tx n e t) : VF tx n e (tok tx n t.2.2.2) := by
  have := VF_b h
  exact ⟨t.2.2.2, by omega, by omega, rfl⟩
theorem NR_v {tx : Nat → Int} {n e : Nat} {t : TKN} {lo hi : Int} {x : Int × TKN} (hv : VF tx n e t) (h : NR tx n t lo hi = .inr x) : VF tx n e x.2 := by
  obtain ⟨-, -, -, h4⟩ := NR_r (x := x.1) (t' := x.2) h
  rw [h4]
  exact VF_n hv
theorem OPR_v {tx : Nat → Int} {n e : Nat} {t : TKN} {key hi : Int} {x : Int × TKN} (h0 : 0 ≤ hi) (hv : VF tx n e t) (h : OPR1 tx n t key hi = .inr x) : VF tx n e x.2 := by
  rcases (OPR_r (x := x.1) (t' := x.2) h0 h).2 with h4 | h4
  · rw [h4]; exact hv
  · rw [h4.2]; exact VF_n (VF_n hv)
theorem BDR_v {tx : Nat → Int} {n e : Nat} {t : TKN} (hv : VF tx n e t) : VF tx n e (BDR tx n t).2 := by
  unfold BDR
  split
  · exact VF_n hv
  · split
    · exact VF_n hv
    · exact hv
theorem BSR_v {tx : Nat → Int} {n e : Nat} {t : TKN} {x : (Int × Int × Int × Int) × TKN} (hv : VF tx n e t) (h : BSR tx n t = .inr x) : VF tx n e x.2 := by
  unfold BSR at h
  split at h
  · exact absurd h (by simp)
  · rename_i x1 h1
    have a1 := NR_v hv h1
    unfold BS1 at h
    split at h
    · exact absurd h (by simp)
    · rename_i y h2
      have a2 := OPR_v (by decide) a1 h2
      unfold BS2 at h
      split at h
      · exact absurd h (by simp)
      · rename_i z h3
        have a3 := OPR_v (by decide) a2 h3
        unfold BS3 at h
        have h := Sum.inr.inj h
        rw [← h]
        exact BDR_v a3
theorem SMI_r {tx : Nat → Int} {n : Nat} {v : Nat → Int} {t : TKN} {x : (Nat → Int) × TKN} (h : SMI tx n v t = .inr x) : x.1 = v ∧ x.2 = tok tx n t.2.2.2 := by
  unfold SMI at h
  split at h
  · have h := Sum.inr.inj h
    rw [← h]
    exact ⟨rfl, rfl⟩
  · exact absurd h (by simp)
/-- what a good line does -/
theorem LNR_r {tx : Nat → Int} {n : Nat} {v : Nat → Int} {t : TKN} {x : (Nat → Int) × TKN} (hn : t.2.2.2 ≤ n) (h : LNR tx n v t = .inr x) : VF tx n t.2.2.2 x.2 ∧ ((v 0 < 12 ∧ ∃ k s r i : Int, x.1 = ad v k s r i ∧ ((0 ≤ k ∧ k ≤ 2 ∧ 1 ≤ s ∧ s ≤ 9 ∧ 0 ≤ r ∧ r ≤ 100 ∧ 0 ≤ i ∧ i ≤ 9) ∨ (k = 3 ∧ s = 0 ∧ r = 0 ∧ i = 0))) ∨ ∃ (k : Nat) (z : Int), x.1 = up v k z ∧ ((k = 2 ∧ 1 ≤ z ∧ z ≤ 40) ∨ (k = 3 ∧ 0 ≤ z ∧ z ≤ 20) ∨ (k = 4 ∧ 1 ≤ z ∧ z ≤ 12) ∨ (k = 5 ∧ 1 ≤ z ∧ z ≤ 6) ∨ (k = 6 ∧ 0 ≤ z ∧ z ≤ 9))) := by
  have h0 : VF tx n t.2.2.2 (tok tx n t.2.2.2) := ⟨_, Nat.le_refl _, hn, rfl⟩
  unfold LNR at h
  split at h
  · split at h
    · exact absurd h (by simp)
    · rename_i h12
      unfold LNB at h
      split at h
      · exact absurd h (by simp)
      · rename_i y hy
        obtain ⟨s1, s2⟩ := SMI_r h
        have hr := BSR_r (q := y.1) (t' := y.2) hy
        have hvv := BSR_v h0 hy
        refine ⟨by rw [s2]; exact VF_n hvv, Or.inl ⟨by omega, _, _, _, _, s1, Or.inl (by omega)⟩⟩
  · split at h
    · split at h
      · exact absurd h (by simp)
      · rename_i h12
        obtain ⟨s1, s2⟩ := SMI_r h
        exact ⟨by rw [s2]; exact VF_n h0, Or.inl ⟨by omega, _, _, _, _, s1, Or.inr ⟨rfl, rfl, rfl, rfl⟩⟩⟩
    · split at h
      · rename_i hk
        unfold LNS at h
        split at h
        · exact absurd h (by simp)
        · rename_i y hy
          obtain ⟨s1, s2⟩ := SMI_r h
          obtain ⟨hr, -, -, -⟩ := NR_r (x := y.1) (t' := y.2) hy
          have hvv := NR_v h0 hy
          refine ⟨by rw [s2]; exact VF_n hvv, Or.inr ⟨_, _, s1, ?_⟩⟩
          have hc : t.2.1 = 6 ∨ t.2.1 = 7 ∨ t.2.1 = 8 ∨ t.2.1 = 9 ∨ t.2.1 = 10 := by omega
          rcases hc with hc | hc | hc | hc | hc
          · rw [hc] at hr ⊢
            exact Or.inl ⟨rfl, hr⟩
          · rw [hc] at hr ⊢
            exact Or.inr (Or.inl ⟨rfl, hr⟩)
          · rw [hc] at hr ⊢
            exact Or.inr (Or.inr (Or.inl ⟨rfl, hr⟩))
          · rw [hc] at hr ⊢
            exact Or.inr (Or.inr (Or.inr (Or.inl ⟨rfl, hr⟩)))
          · rw [hc] at hr ⊢
            exact Or.inr (Or.inr (Or.inr (Or.inr ⟨rfl, hr⟩)))
      · exact absurd h (by simp)
theorem up_h {v : Nat → Int} {k j : Nat} {z : Int} : up v k z j = if j = k then z else v j := rfl
theorem up_o {v : Nat → Int} {k j : Nat} {z : Int} (h : ¬ j = k) : up v k z j = v j := by rw [up_h, if_neg h]
theorem WFG_up {v : Nat → Int} {k : Nat} {z : Int} (h : WFG v) (hk : (k = 0 ∧ 0 ≤ z ∧ z ≤ 12) ∨ (k = 2 ∧ 1 ≤ z ∧ z ≤ 40) ∨ (k = 3 ∧ 0 ≤ z ∧ z ≤ 20) ∨ (k = 4 ∧ 1 ≤ z ∧ z ≤ 12) ∨ (k = 5 ∧ 1 ≤ z ∧ z ≤ 6) ∨ (k = 6 ∧ 0 ≤ z ∧ z ≤ 9) ∨ (k = 7 ∧ 0 ≤ z ∧ z ≤ 900)) : WFG (up v k z) := by
  obtain ⟨h0, h1, h2, h3, h4, a2, a3, a4, a5, a6, a7, a1⟩ := h
  refine ⟨?_, fun p hp => ?_, fun p hp => ?_, fun p hp => ?_, fun p hp => ?_, ?_, ?_, ?_, ?_, ?_, ?_, ?_⟩
  · rw [up_h]; split <;> omega
  · rw [up_o (by omega)]; exact h1 p hp
  · rw [up_o (by omega)]; exact h2 p hp
  · rw [up_o (by omega)]; exact h3 p hp
  · rw [up_o (by omega)]; exact h4 p hp
  · rw [up_h]; split <;> omega
  · rw [up_h]; split <;> omega
  · rw [up_h]; split <;> omega
  · rw [up_h]; split <;> omega
  · rw [up_h]; split <;> omega
  · rw [up_h]; split <;> omega
  · rw [up_h]; split <;> omega
theorem LNR_w {tx : Nat → Int} {n : Nat} {v : Nat → Int} {t : TKN} {x : (Nat → Int) × TKN} (hn : t.2.2.2 ≤ n) (hw : WFG v) (h : LNR tx n v t = .inr x) : WFG x.1 ∧ x.1 7 = v 7 ∧ x.1 1 = v 1 := by
  have h0 := hw.1
  rcases (LNR_r hn h).2 with ⟨h12, k, s, r, i, h1, h2⟩ | ⟨k, z, h1, h2⟩
  · rw [h1]
    unfold ad
    refine ⟨WFG_up (WFG_ly hw (by omega) (by omega) (by omega) (by omega) (by omega)) (Or.inl ⟨rfl, by omega, by omega⟩), ?_, ?_⟩
    · rw [up_o (by decide), ly_lo (by decide)]
    · rw [up_o (by decide), ly_lo (by decide)]
  · rw [h1]
    exact ⟨WFG_up hw (by omega), up_o (by omega), up_o (by omega)⟩
/-- the shelf cleared -/
def pl0 (v : Nat → Int) : Nat → Int := fun j => if j < 8 then ([0, 0, 15, 4, 12, 3, 0, 0] : List Int).getD j 0 else v j
theorem vw_w3 {m : am_M} : vw (w_3 m 7) 7 = pl0 (vw m 7) := by
  funext j
  unfold pl0
  rcases vw_cases j with h | ⟨q, hq, rfl⟩ | ⟨q, hq, rfl⟩ | ⟨q, hq, rfl⟩ | ⟨q, rfl⟩
  · rw [if_pos h]
    have hc : j = 0 ∨ j = 1 ∨ j = 2 ∨ j = 3 ∨ j = 4 ∨ j = 5 ∨ j = 6 ∨ j = 7 := by omega
    rcases hc with rfl | rfl | rfl | rfl | rfl | rfl | rfl | rfl <;> rfl
  · rw [if_neg (by omega), vw_K hq, vw_K hq]; unfold w_3; simp only [mu_r (show (7 + 1 : Nat) ≠ 7 by decide)]
  · rw [if_neg (by omega), vw_S hq, vw_S hq]; unfold w_3; simp only [mu_r (show (7 + 2 : Nat) ≠ 7 by decide)]
  · rw [if_neg (by omega), vw_R hq, vw_R hq]; unfold w_3; simp only [mu_r (show (7 + 3 : Nat) ≠ 7 by decide)]
  · rw [if_neg (by omega), vw_I, vw_I]; unfold w_3; simp only [mu_r (show (7 + 4 : Nat) ≠ 7 by decide)]
theorem WFG_p {m : am_M} (h : TRB m) : WFG (pl0 (vw m 7)) := by
  have e : ∀ j, 8 ≤ j → pl0 (vw m 7) j = vw m 7 j := fun j hj => by
    unfold pl0
    rw [if_neg (by omega)]
  refine ⟨by decide, fun p hp => ?_, fun p hp => ?_, fun p hp => ?_, fun p hp => ?_, by decide, by decide, by decide, by decide, by decide, by decide, by decide⟩
  · rw [e _ (by omega), vw_K hp]; exact (h p hp).1
  · rw [e _ (by omega), vw_S hp]; exact (h p hp).2.1
  · rw [e _ (by omega), vw_R hp]; exact (h p hp).2.2.1
  · rw [e _ (by omega), vw_I]; exact (h p hp).2.2.2
def frH (m m' : am_M) : Prop := ∀ a j, ¬ (a = 33 ∧ 2 ≤ j ∧ j ≤ 8) → ¬ (7 ≤ a ∧ a ≤ 11) → m' a j = m a j
