noncomputable def HSR (tx : Nat → Int) (n : Nat) : Nat → (Nat → Int) → TKN → (Int × Int) ⊕ (Nat → Int)
  | 0, v, _ => .inr v
  | f + 1, v, t => if t.2.1 = 14 then .inr v else match LNR tx n v t with
    | .inl e => .inl e
    | .inr x => HSR tx n f (up x.1 7 (x.1 7 + 1)) x.2
theorem HSR_e {tx : Nat → Int} {n f : Nat} {v : Nat → Int} {t : TKN} (h : t.2.1 = 14) : HSR tx n (f + 1) v t = .inr v := by
  show (if t.2.1 = 14 then _ else _) = _
  rw [if_pos h]
theorem HSR_n {tx : Nat → Int} {n f : Nat} {v : Nat → Int} {t : TKN} {e : Int × Int} (h : ¬ t.2.1 = 14) (hl : LNR tx n v t = .inl e) : HSR tx n (f + 1) v t = .inl e := by
  show (if t.2.1 = 14 then _ else _) = _
  rw [if_neg h, hl]
theorem HSR_y {tx : Nat → Int} {n f : Nat} {v : Nat → Int} {t : TKN} {x : (Nat → Int) × TKN} (h : ¬ t.2.1 = 14) (hl : LNR tx n v t = .inr x) : HSR tx n (f + 1) v t = HSR tx n f (up x.1 7 (x.1 7 + 1)) x.2 := by
  show (if t.2.1 = 14 then _ else _) = _
  rw [if_neg h, hl]
/-- a token that begins at e or behind it -/
def VF (tx : Nat → Int) (n e : Nat) (t : TKN) : Prop := ∃ a, e ≤ a ∧ a ≤ n ∧ t = tok tx n a
theorem tok_ok {tx : Nat → Int} {n a : Nat} (ha : a ≤ n) : a ≤ (tok tx n a).1 ∧ (tok tx n a).1 ≤ (tok tx n a).2.2.2 ∧ (tok tx n a).2.2.2 ≤ n ∧ (¬ (tok tx n a).2.1 = 14 → (tok tx n a).1 < (tok tx n a).2.2.2) := by
  have hb := spn_b (P := chw) (tx := tx) (n := n) ha
  unfold tok
  generalize spn chw tx n a = p at *
  unfold tkp
  split
  · exact ⟨hb.1, Nat.le_refl _, hb.2, fun h => absurd rfl h⟩
  · rename_i hp
    split
    · rename_i hl
      have e := spn_go (P := chl) (tx := tx) (n := n) (a := p) (by omega) hl
      have hc := spn_b (P := chl) (tx := tx) (n := n) (a := p + 1) (by omega)
      show a ≤ p ∧ p ≤ spn chl tx n p ∧ spn chl tx n p ≤ n ∧ (_ → p < spn chl tx n p)
      rw [e]
      exact ⟨hb.1, by omega, by omega, fun _ => by omega⟩
    · split
      · rename_i hl hd
        have e := spn_go (P := chd) (tx := tx) (n := n) (a := p) (by omega) hd
        have hc := spn_b (P := chd) (tx := tx) (n := n) (a := p + 1) (by omega)
        split
        · show a ≤ p ∧ p ≤ spn chd tx n p ∧ spn chd tx n p ≤ n ∧ (_ → p < spn chd tx n p)
          rw [e]
          exact ⟨hb.1, by omega, by omega, fun _ => by omega⟩
        · show a ≤ p ∧ p ≤ spn chd tx n p ∧ spn chd tx n p ≤ n ∧ (_ → p < spn chd tx n p)
          rw [e]
          exact ⟨hb.1, by omega, by omega, fun _ => by omega⟩
      · split
        · show a ≤ p ∧ p ≤ p + 1 ∧ p + 1 ≤ n ∧ (_ → p < p + 1)
          exact ⟨hb.1, by omega, by omega, fun _ => by omega⟩
        · show a ≤ p ∧ p ≤ p + 1 ∧ p + 1 ≤ n ∧ (_ → p < p + 1)
          exact ⟨hb.1, by omega, by omega, fun _ => by omega⟩
theorem VF_b {tx : Nat → Int} {n e : Nat} {t : TKN} (h : VF tx n e t) : e ≤ t.1 ∧ t.1 ≤ t.2.2.2 ∧ t.2.2.2 ≤ n ∧ (¬ t.2.1 = 14 → t.1 < t.2.2.2) := by
  obtain ⟨a, h1, h2, h3⟩ := h
  have := tok_ok (tx := tx) h2
  rw [← h3] at this
  exact ⟨by omega, this.2⟩
theorem VF_n {tx : Nat → Int} {n e : Nat} {t : TKN} (h : VF tx n e t) : VF tx n e (tok tx n t.2.2.2) := by
  have := VF_b h
  exact ⟨t.2.2.2, by omega, by omega, rfl⟩
theorem NR_v {tx : Nat → Int} {n e : Nat} {t : TKN} {lo hi : Int} {x : Int × TKN} (hv : VF tx n e t) (h : NR tx n t lo hi = .inr x) : VF tx n e x.2 := by
  obtain ⟨-, -, -, h4⟩ := NR_r (x := x.1) (t' := x.2) h
  rw [h4]
  exact VF_n hv
theorem OPR_v {tx : Nat → Int} {n e : Nat} {t : TKN} {key hi : Int} {x : Int × TKN} (h0 : 0 ≤ hi) (hv : VF tx n e t) (h : OPR1 tx n t key hi = .inr x) : VF tx n e x.2 := by
  rcases (OPR_r (x := x.1) (t' := x.2) h0 h).2 with h4 | h4
  · rw [h4]; exact hv
  · rw [h4.2]; exact VF_n (VF_n hv)
theorem BDR_v {tx : Nat → Int} {n e : Nat} {t : TKN} (hv : VF tx n e t) : VF tx n e (BDR tx n t).2 := by
  unfold BDR
  split
  · exact VF_n hv
  · split
    · exact VF_n hv
    · exact hv
theorem BSR_v {tx : Nat → Int} {n e : Nat} {t : TKN} {x : (Int × Int × Int × Int) × TKN} (hv : VF tx n e t) (h : BSR tx n t = .inr x) : VF tx n e x.2 := by
  unfold BSR at h
  split at h
  · exact absurd h (by simp)
  · rename_i x1 h1
    have a1 := NR_v hv h1
    unfold BS1 at h
    split at h
    · exact absurd h (by simp)
    · rename_i y h2
      have a2 := OPR_v (by decide) a1 h2
      unfold BS2 at h
      split at h
      · exact absurd h (by simp)
      · rename_i z h3
        have a3 := OPR_v (by decide) a2 h3
        unfold BS3 at h
        have h := Sum.inr.inj h
        rw [← h]
        exact BDR_v a3
theorem SMI_r {tx : Nat → Int} {n : Nat} {v : Nat → Int} {t : TKN} {x : (Nat → Int) × TKN} (h : SMI tx n v t = .inr x) : x.1 = v ∧ x.2 = tok tx n t.2.2.2 := by
  unfold SMI at h
  split at h
  · have h := Sum.inr.inj h
    rw [← h]
    exact ⟨rfl, rfl⟩
  · exact absurd h (by simp)
/-- what a good line does -/
theorem LNR_r {tx : Nat → Int} {n : Nat} {v : Nat → Int} {t : TKN} {x : (Nat → Int) × TKN} (hn : t.2.2.2 ≤ n) (h : LNR tx n v t = .inr x) : VF tx n t.2.2.2 x.2 ∧ ((v 0 < 12 ∧ ∃ k s r i : Int, x.1 = ad v k s r i ∧ ((0 ≤ k ∧ k ≤ 2 ∧ 1 ≤ s ∧ s ≤ 9 ∧ 0 ≤ r ∧ r ≤ 100 ∧ 0 ≤ i ∧ i ≤ 9) ∨ (k = 3 ∧ s = 0 ∧ r = 0 ∧ i = 0))) ∨ ∃ (k : Nat) (z : Int), x.1 = up v k z ∧ ((k = 2 ∧ 1 ≤ z ∧ z ≤ 40) ∨ (k = 3 ∧ 0 ≤ z ∧ z ≤ 20) ∨ (k = 4 ∧ 1 ≤ z ∧ z ≤ 12) ∨ (k = 5 ∧ 1 ≤ z ∧ z ≤ 6) ∨ (k = 6 ∧ 0 ≤ z ∧ z ≤ 9))) := by
  have h0 : VF tx n t.2.2.2 (tok tx n t.2.2.2) := ⟨_, Nat.le_refl _, hn, rfl⟩
  unfold LNR at h
  split at h
  · split at h
    · exact absurd h (by simp)
    · rename_i h12
      unfold LNB at h
      split at h
      · exact absurd h (by simp)
      · rename_i y hy
        obtain ⟨s1, s2⟩ := SMI_r h
        have hr := BSR_r (q := y.1) (t' := y.2) hy
        have hvv := BSR_v h0 hy
        refine ⟨by rw [s2]; exact VF_n hvv, Or.inl ⟨by omega, _, _, _, _, s1, Or.inl (by omega)⟩⟩
  · split at h
    · split at h
      · exact absurd h (by simp)
      · rename_i h12
        obtain ⟨s1, s2⟩ := SMI_r h
        exact ⟨by rw [s2]; exact VF_n h0, Or.inl ⟨by omega, _, _, _, _, s1, Or.inr ⟨rfl, rfl, rfl, rfl⟩⟩⟩
    · split at h
      · rename_i hk
        unfold LNS at h
        split at h
        · exact absurd h (by simp)
        · rename_i y hy
          obtain ⟨s1, s2⟩ := SMI_r h
          obtain ⟨hr, -, -, -⟩ := NR_r (x := y.1) (t' := y.2) hy
          have hvv := NR_v h0 hy
          refine ⟨by rw [s2]; exact VF_n hvv, Or.inr ⟨_, _, s1, ?_⟩⟩
          have hc : t.2.1 = 6 ∨ t.2.1 = 7 ∨ t.2.1 = 8 ∨ t.2.1 = 9 ∨ t.2.1 = 10 := by omega
          rcases hc with hc | hc | hc | hc | hc
          · rw [hc] at hr ⊢
            exact Or.inl ⟨rfl, hr⟩
          · rw [hc] at hr ⊢
            exact Or.inr (Or.inl ⟨rfl, hr⟩)
          · rw [hc] at hr ⊢
            exact Or.inr (Or.inr (Or.inl ⟨rfl, hr⟩))
          · rw [hc] at hr ⊢
            exact Or.inr (Or.inr (Or.inr (Or.inl ⟨rfl, hr⟩)))
          · rw [hc] at hr ⊢
            exact Or.inr (Or.inr (Or.inr (Or.inr ⟨rfl, hr⟩)))
      · exact absurd h (by simp)
theorem up_h {v : Nat → Int} {k j : Nat} {z : Int} : up v k z j = if j = k then z else v j := rfl
theorem up_o {v : Nat → Int} {k j : Nat} {z : Int} (h : ¬ j = k) : up v k z j = v j := by rw [up_h, if_neg h]
theorem WFG_up {v : Nat → Int} {k : Nat} {z : Int} (h : WFG v) (hk : (k = 0 ∧ 0 ≤ z ∧ z ≤ 12) ∨ (k = 2 ∧ 1 ≤ z ∧ z ≤ 40) ∨ (k = 3 ∧ 0 ≤ z ∧ z ≤ 20) ∨ (k = 4 ∧ 1 ≤ z ∧ z ≤ 12) ∨ (k = 5 ∧ 1 ≤ z ∧ z ≤ 6) ∨ (k = 6 ∧ 0 ≤ z ∧ z ≤ 9) ∨ (k = 7 ∧ 0 ≤ z ∧ z ≤ 900)) : WFG (up v k z) := by
  obtain ⟨h0, h1, h2, h3, h4, a2, a3, a4, a5, a6, a7, a1⟩ := h
  refine ⟨?_, fun p hp => ?_, fun p hp => ?_, fun p hp => ?_, fun p hp => ?_, ?_, ?_, ?_, ?_, ?_, ?_, ?_⟩
  · rw [up_h]; split <;> omega
  · rw [up_o (by omega)]; exact h1 p hp
  · rw [up_o (by omega)]; exact h2 p hp
  · rw [up_o (by omega)]; exact h3 p hp
  · rw [up_o (by omega)]; exact h4 p hp
  · rw [up_h]; split <;> omega
  · rw [up_h]; split <;> omega
  · rw [up_h]; split <;> omega
  · rw [up_h]; split <;> omega
  · rw [up_h]; split <;> omega
  · rw [up_h]; split <;> omega
  · rw [up_h]; split <;> omega
theorem LNR_w {tx : Nat → Int} {n : Nat} {v : Nat → Int} {t : TKN} {x : (Nat → Int) × TKN} (hn : t.2.2.2 ≤ n) (hw : WFG v) (h : LNR tx n v t = .inr x) : WFG x.1 ∧ x.1 7 = v 7 ∧ x.1 1 = v 1 := by
  have h0 := hw.1
  rcases (LNR_r hn h).2 with ⟨h12, k, s, r, i, h1, h2⟩ | ⟨k, z, h1, h2⟩
  · rw [h1]
    unfold ad
    refine ⟨WFG_up (WFG_ly hw (by omega) (by omega) (by omega) (by omega) (by omega)) (Or.inl ⟨rfl, by omega, by omega⟩), ?_, ?_⟩
    · rw [up_o (by decide), ly_lo (by decide)]
    · rw [up_o (by decide), ly_lo (by decide)]
  · rw [h1]
    exact ⟨WFG_up hw (by omega), up_o (by omega), up_o (by omega)⟩
/-- the shelf cleared -/
def pl0 (v : Nat → Int) : Nat → Int := fun j => if j < 8 then ([0, 0, 15, 4, 12, 3, 0, 0] : List Int).getD j 0 else v j
theorem vw_w3 {m : am_M} : vw (w_3 m 7) 7 = pl0 (vw m 7) := by
  funext j
  unfold pl0
  rcases vw_cases j with h | ⟨q, hq, rfl⟩ | ⟨q, hq, rfl⟩ | ⟨q, hq, rfl⟩ | ⟨q, rfl⟩
  · rw [if_pos h]
    have hc : j = 0 ∨ j = 1 ∨ j = 2 ∨ j = 3 ∨ j = 4 ∨ j = 5 ∨ j = 6 ∨ j = 7 := by omega
    rcases hc with rfl | rfl | rfl | rfl | rfl | rfl | rfl | rfl <;> rfl
  · rw [if_neg (by omega), vw_K hq, vw_K hq]; unfold w_3; simp only [mu_r (show (7 + 1 : Nat) ≠ 7 by decide)]
  · rw [if_neg (by omega), vw_S hq, vw_S hq]; unfold w_3; simp only [mu_r (show (7 + 2 : Nat) ≠ 7 by decide)]
  · rw [if_neg (by omega), vw_R hq, vw_R hq]; unfold w_3; simp only [mu_r (show (7 + 3 : Nat) ≠ 7 by decide)]
  · rw [if_neg (by omega), vw_I, vw_I]; unfold w_3; simp only [mu_r (show (7 + 4 : Nat) ≠ 7 by decide)]
theorem WFG_p {m : am_M} (h : TRB m) : WFG (pl0 (vw m 7)) := by
  have e : ∀ j, 8 ≤ j → pl0 (vw m 7) j = vw m 7 j := fun j hj => by
    unfold pl0
    rw [if_neg (by omega)]
  refine ⟨show (0 : Int) ≤ 0 ∧ (0 : Int) ≤ 12 by decide, fun p hp => ?_, fun p hp => ?_, fun p hp => ?_, fun p hp => ?_, show (1 : Int) ≤ 15 ∧ (15 : Int) ≤ 40 by decide, show (0 : Int) ≤ 4 ∧ (4 : Int) ≤ 20 by decide, show (1 : Int) ≤ 12 ∧ (12 : Int) ≤ 12 by decide, show (1 : Int) ≤ 3 ∧ (3 : Int) ≤ 6 by decide, show (0 : Int) ≤ 0 ∧ (0 : Int) ≤ 9 by decide, show (0 : Int) ≤ 0 ∧ (0 : Int) ≤ 900 by decide, show (0 : Int) ≤ 0 ∧ (0 : Int) ≤ 20000 by decide⟩
  · rw [e _ (by omega), vw_K hp]; exact (h p hp).1
  · rw [e _ (by omega), vw_S hp]; exact (h p hp).2.1
  · rw [e _ (by omega), vw_R hp]; exact (h p hp).2.2.1
  · rw [e _ (by omega), vw_I]; exact (h p hp).2.2.2
def frH (m m' : am_M) : Prop := ∀ a j, ¬ (a = 33 ∧ 2 ≤ j ∧ j ≤ 8) → ¬ (7 ≤ a ∧ a ≤ 11) → m' a j = m a j
theorem z_13   (m : am_M) (k : Int) (hq : (0 ≤ k ∧ k ≤ 900) ∧ (∀ j : Nat, (j : Int) < k → -128 ≤ m 1 j ∧ m 1 j ≤ 127) ∧ TRB m) : ok 10 13 0 (am_ent 3 [.inr (.inr (some 33)), .inl k]) [] m (fun rr m' => ∃ v' : Int, rr = [.inl (v')] ∧ ((∃ v : Nat → Int, HSR (m 1) k.toNat (k.toNat + 1) (pl0 (vw m 7)) (tok (m 1) k.toNat 0) = .inr v ∧ v' = 1 ∧ vw m' 7 = v ∧ WFG v ∧ m' 33 7 = 0 ∧ m' 33 8 = -1 ∧ frH m m') ∨ (∃ f : Int × Int, HSR (m 1) k.toNat (k.toNat + 1) (pl0 (vw m 7)) (tok (m 1) k.toNat 0) = .inl f ∧ v' = 0 ∧ m' 33 7 = f.1 ∧ m' 33 8 = f.2 ∧ TRB m' ∧ frH m m'))) := by
  show ok 10 13 0 [some (.inr (.inr (some 33))), some (.inl k), none] [] m _
  obtain ⟨hk, hB, hTR⟩ := hq
  obtain ⟨n, rfl⟩ : ∃ n : Nat, k = (n : Int) := ⟨k.toNat, by omega⟩
  rw [Int.toNat_natCast]
  refine u_13_0 ?_
  rw [v14 (by omega) (by omega) (by omega) (by omega), Int.min_eq_left (by omega)]
  intro ma hma
  have a33 : ma 33 2 = (n : Int) ∧ ma 33 3 = 0 ∧ ma 33 7 = 0 ∧ ma 33 8 = -1 := by
    rw [hma]
    unfold w_3
    simp only [mu_r (show (33 : Nat) ≠ 7 by decide)]
    refine ⟨?_, ?_, ?_, ?_⟩
    · rw [mu_o (by omega), mu_o (by omega), mu_o (by omega), mu_same]
    · rw [mu_o (by omega), mu_o (by omega), mu_same]
    · rw [mu_o (by omega), mu_same]
    · rw [mu_same]
  have afr : ∀ a j, ¬ (a = 33 ∧ 2 ≤ j ∧ j ≤ 8) → ¬ a = 7 → ma a j = m a j := by
    intro a j h1 h2
    rw [hma]
    unfold w_3
    rw [mu_o (by omega), mu_o (by omega), mu_o (by omega), mu_o (by omega), mu_o (by omega), mu_o (by omega), mu_o (by omega), mu_o (by omega), mu_o (by omega), mu_o (by omega), mu_o (by omega), mu_o (by omega)]
  have a1 : ma 1 = m 1 := funext fun j => afr 1 j (by omega) (by omega)
  have avw : vw ma 7 = pl0 (vw m 7) := by
    rw [hma, vw_w3]
    funext j
    unfold pl0
    by_cases hj : j < 8
    · rw [if_pos hj, if_pos hj]
    · rw [if_neg hj, if_neg hj]
      have e : vw (mu (mu (mu (mu m 33 2 (n : Int)) 33 3 0) 33 7 0) 33 8 (-1)) 7 = vw m 7 := vw_same fun a j q1 q2 => by rw [mu_o (by omega), mu_o (by omega), mu_o (by omega), mu_o (by omega)]
      rw [e]
  have hRD : RDR ma := ⟨by omega, fun j hj => by rw [a1]; exact hB j (by omega)⟩
  refine ⟨hRD, ?_⟩
  rw [a33.1, a33.2.1, a1]
  simp only [Int.toNat_natCast]
  rintro mb ⟨b1, b2, b3⟩
  have hV0 : VF (m 1) n 0 (tok (m 1) n 0) := ⟨0, Nat.le_refl _, Nat.zero_le _, rfl⟩
  have key := ok_for (d := 10) (mi := 13) (pc := 41) (Q := fun rr m' => ∃ v' : Int, rr = [.inl v'] ∧ ((∃ v : Nat → Int, HSR (m 1) n (n + 1) (pl0 (vw m 7)) (tok (m 1) n 0) = .inr v ∧ v' = 1 ∧ vw m' 7 = v ∧ WFG v ∧ m' 33 7 = 0 ∧ m' 33 8 = -1 ∧ frH m m') ∨ (∃ f : Int × Int, HSR (m 1) n (n + 1) (pl0 (vw m 7)) (tok (m 1) n 0) = .inl f ∧ v' = 0 ∧ m' 33 7 = f.1 ∧ m' 33 8 = f.2 ∧ TRB m' ∧ frH m m'))) (σ := Unit) (fun i _ => [some (.inr (.inr (some 33))), none, some (.inl (i : Int))]) (fun i _ M => frH m M ∧ RV M ∧ M 33 2 = (n : Int) ∧ (M 33 7 = 0 ∧ M 33 8 = -1) ∧ WFG (vw M 7) ∧ vw M 7 7 = (i : Int) ∧ VF (m 1) n i (ctok M) ∧ HSR (m 1) n (n + 1 - i) (vw M 7) (ctok M) = HSR (m 1) n (n + 1) (pl0 (vw m 7)) (tok (m 1) n 0)) (n + 1) ?_ ?_ () mb ⟨?_, b2, ?_, ⟨?_, ?_⟩, ?_, ?_, ?_, ?_⟩
  · exact key
  · rintro i hi - M ⟨i1, i2, i3, i4, i5, i6, i7, i8⟩ IH
    have M1 : M 1 = m 1 := funext fun j => i1 1 j (by omega) (by omega)
    have hc := ckd_c i2
    have h4 := i2.2.2.1
    have hb := VF_b i7
    have hN : vw M 7 0 = M 7 4 := rfl
    have h0 := i5.1
    rw [hN] at h0
    refine u_13_41 ?_
    rw [i3, M1, am_s_id (z := (n : Int)) (by omega) (by omega), am_s_id (z := (i : Int)) (by omega) (by omega), am_s_id (z := M 33 4) (by omega) (by omega), Int.toNat_natCast]
    refine ⟨fun q => by omega, fun _ => ⟨fun q => ⟨_, rfl, Or.inl ⟨vw M 7, ?_, rfl, rfl, i5, i4.1, i4.2, i1⟩⟩, fun q => ⟨⟨i2, h0⟩, ?_⟩⟩⟩
    · rw [← i8, show n + 1 - i = (n - i) + 1 by omega, HSR_e (show ckd M = 14 by omega)]
    · have hk : ¬ (ctok M).2.1 = 14 := show ¬ ckd M = 14 by omega
      rintro v1 mc (⟨x, c1, c2, c3, c4, c5, c6⟩ | ⟨f, c1, c2, c3, c4, c5, c6⟩)
      · rw [c2]
        obtain ⟨x1, x2, x3⟩ := LNR_w hb.2.2.1 i5 c1
        have x4 := (LNR_r hb.2.2.1 c1).1
        have x7 : x.1 7 = (i : Int) := by rw [x2, i6]
        have m10 : mc 7 10 = (i : Int) := by
          rw [← x7, ← c3]
          rfl
        have evw : vw (mu mc 7 10 (mc 7 10 + 1)) 7 = up x.1 7 (x.1 7 + 1) := by
          rw [vw_mu (k := 7) (c := 10) (by decide) rfl, c3, m10, x7]
        obtain ⟨r1, r2⟩ := RV_fr (m := mc) (m' := mu mc 7 10 (mc 7 10 + 1)) (funext fun j => mu_o (by omega)) (funext fun j => mu_o (by omega))
        refine ⟨fun _ => IH () _ ⟨fun a j h1 h2 => ?_, r1 c5, ?_, ⟨?_, ?_⟩, ?_, ?_, ?_, ?_⟩, fun q2 => absurd q2 (by decide)⟩
        · rw [mu_o (by omega), c6 a j (by omega) h2]
          exact i1 a j h1 h2
        · rw [mu_o (by omega), c6 33 2 (by omega) (by omega), i3]
        · rw [mu_o (by omega), c6 33 7 (by omega) (by omega), i4.1]
        · rw [mu_o (by omega), c6 33 8 (by omega) (by omega), i4.2]
        · rw [evw]
          exact WFG_up x1 (by omega)
        · rw [evw, up_h, if_pos rfl, x7]
          rfl
        · rw [r2, c4]
          obtain ⟨e, e1, e2, e3⟩ := x4
          have := hb.2.2.2 hk
          exact ⟨e, by omega, e2, e3⟩
        · rw [evw, r2, c4, ← i8, show n + 1 - i = (n - i) + 1 by omega, HSR_y hk c1, show n + 1 - (i + 1) = n - i by omega]
      · rw [c2]
        refine ⟨fun q2 => absurd (by decide) q2, fun _ => ⟨_, rfl, Or.inr ⟨f, ?_, rfl, c3, c4, c6 (TRB_of i5), fun a j h1 h2 => ?_⟩⟩⟩
        · rw [← i8, show n + 1 - i = (n - i) + 1 by omega, HSR_n hk c1]
        · rw [c5 a j (by omega) h2]
          exact i1 a j h1 h2
  · rintro - M ⟨i1, i2, i3, i4, i5, i6, i7, i8⟩
    have := VF_b i7
    omega
  · intro a j h1 h2
    rw [b3 a j (by omega)]
    exact afr a j h1 (by omega)
  · rw [b3 33 2 (by omega), a33.1]
  · rw [b3 33 7 (by omega), a33.2.2.1]
  · rw [b3 33 8 (by omega), a33.2.2.2]
  · rw [frT_v b3, avw]
    exact WFG_p hTR
  · rw [frT_v b3, avw]
    rfl
  · rw [b1]
    exact hV0
  · rw [frT_v b3, avw, b1]
    rfl
theorem u_12_0 {Q : List am_V → am_M → Prop} {m : am_M} {k : Int}  (H : ((am_s k < 0) → Q [.inl (-3)] m) ∧ ((¬ (am_s k < 0)) → ((am_s k ≤ am_s (m 0 1)) → ((0 ≤ k ∧ k ≤ 900) ∧ (∀ j : Nat, (j : Int) < k → -128 ≤ (mu m 0 1 0) 1 j ∧ (mu m 0 1 0) 1 j ≤ 127) ∧ TRB (mu m 0 1 0)) ∧ (∀ (v1 : Int) (m1 : am_M), (((∃ v : Nat → Int, HSR ((mu m 0 1 0) 1) k.toNat (k.toNat + 1) (pl0 (vw (mu m 0 1 0) 7)) (tok ((mu m 0 1 0) 1) k.toNat 0) = .inr v ∧ v1 = 1 ∧ vw m1 7 = v ∧ WFG v ∧ m1 33 7 = 0 ∧ m1 33 8 = -1 ∧ frH (mu m 0 1 0) m1) ∨ (∃ f : Int × Int, HSR ((mu m 0 1 0) 1) k.toNat (k.toNat + 1) (pl0 (vw (mu m 0 1 0) 7)) (tok ((mu m 0 1 0) 1) k.toNat 0) = .inl f ∧ v1 = 0 ∧ m1 33 7 = f.1 ∧ m1 33 8 = f.2 ∧ TRB m1 ∧ frH (mu m 0 1 0) m1))) → ((¬ am_s v1 = 0) → (2 ≠ 7) ∧ (Q [.inl ((tk m1 2 7) 2 10)] (tk m1 2 7))) ∧ ((am_s v1 = 0) → Q [.inl ((-30) - (m1 33 7))] m1))) ∧ ((¬ (am_s k ≤ am_s (m 0 1))) → Q [.inl (-3)] m))) : ok 11 12 0 [some (.inr (.inr (some 0))), some (.inl k)] [] m Q := by
  refine ok_sg (pc' := 1) (ls' := [some (.inr (.inr (some 0))), some (.inl k)]) (st' := [.inl k]) (m' := m) (fun fx hfx o hk => ?_) ?_
  · refine r_ld (pc' := 1) hM_12 d_12_0 rfl rfl ?_
    exact hk
  refine ok_if (pc' := 12) (pc2 := 4) hM_12 d_12_1 (by decide) rfl (fun hz1 => ?_) (fun hz1 => ?_)
  · have H := H.1 hz1
    refine ok_sg (pc' := 14) (ls' := [some (.inr (.inr (some 0))), some (.inl k)]) (st' := [.inl (-3)]) (m' := m) (fun fx hfx o hk => ?_) ?_
    · refine r_k (pc' := 14) (v := .inl (-3)) hM_12 d_12_12 rfl rfl ?_
      exact hk
    exact ok_rt (fun fx _ => rt_i hM_12 d_12_14 rfl) H
  · have H := H.2 hz1
    refine ok_sg (pc' := 9) (ls' := [some (.inr (.inr (some 0))), some (.inl k)]) (st' := [.inl (m 0 1), .inl k]) (m' := m) (fun fx hfx o hk => ?_) ?_
    · refine r_ld (pc' := 5) hM_12 d_12_4 rfl rfl ?_
      refine r_ld (pc' := 6) hM_12 d_12_5 rfl rfl ?_
      refine r_gI (pc' := 9) (k0 := 1) hM_12 d_12_6 rfl (by decide +kernel) ?_
      exact hk
    refine ok_ic (pc' := 15) (pc2 := 12) hM_12 d_12_9 (by decide) rfl (fun hz2 => ?_) (fun hz2 => ?_)
    · have H := H.1 hz2
      obtain ⟨hz3, H⟩ := H
      refine ok_sg (pc' := 25) (ls' := [some (.inr (.inr (some 0))), some (.inl k)]) (st' := [.inl k, .inr (.inr (some 33))]) (m' := mu m 0 1 0) (fun fx hfx o hk => ?_) ?_
      · refine r_ld (pc' := 16) hM_12 d_12_15 rfl rfl ?_
        refine r_k (pc' := 17) (v := .inl 0) hM_12 d_12_16 rfl rfl ?_
        refine r_pI (pc' := 20) (k0 := 1) hM_12 d_12_17 rfl (by decide +kernel) ?_
        refine r_ld (pc' := 21) hM_12 d_12_20 rfl rfl ?_
        refine r_gR (pc' := 24) (v := 33) hM_12 d_12_21 rfl (by decide +kernel) ?_
        refine r_ld (pc' := 25) hM_12 d_12_24 rfl rfl ?_
        exact hk
      refine ok_cl (pc' := 28) (c := (13, 0)) (a := [.inr (.inr (some 33)), .inl k]) (q := []) hM_12 d_12_25 rfl (by decide +kernel) hM_13 rfl rfl rfl (Nat.le_of_ble_eq_true rfl) (Nat.le_of_ble_eq_true rfl) (Or.inr rfl) (z_13  (mu m 0 1 0) k hz3) (Nat.le_of_ble_eq_true rfl) ?_
      rintro _ m1 ⟨v1, rfl, hz4⟩
      replace H := H v1 m1 hz4
      show ok 11 12 28 [some (.inr (.inr (some 0))), some (.inl k)] [.inl v1] m1 Q
      refine ok_if (pc' := 42) (pc2 := 31) hM_12 d_12_28 (by decide) rfl (fun hz5 => ?_) (fun hz5 => ?_)
      · have H := H.1 hz5
        obtain ⟨hz6, H⟩ := H
        refine ok_sg (pc' := 60) (ls' := [some (.inr (.inr (some 0))), some (.inl k)]) (st' := [.inl ((tk m1 2 7) 2 10)]) (m' := tk m1 2 7) (fun fx hfx o hk => ?_) ?_
        · refine r_ld (pc' := 43) hM_12 d_12_42 rfl rfl ?_
          refine r_gR (pc' := 46) (v := 2) hM_12 d_12_43 rfl (by decide +kernel) ?_
          refine r_ld (pc' := 47) hM_12 d_12_46 rfl rfl ?_
          refine r_gR (pc' := 50) (v := 7) hM_12 d_12_47 rfl (by decide +kernel) ?_
          refine r_cl (pc' := 53) (c := (37, 0)) (a := [.inr (.inr (some 2)), .inr (.inr (some 7))]) (q := []) hM_12 d_12_50 rfl (by decide +kernel) hM_37 rfl rfl rfl (Nat.le_of_ble_eq_true rfl) (Nat.le_of_ble_eq_true rfl) (Or.inr rfl) (c_37 (by decide) (by decide) m1  hz6) (Nat.le_of_ble_eq_true rfl) ?_
          show rn fx 11 (0, 0) 12 53 [some (.inr (.inr (some 0))), some (.inl k)] [] (st0 (tk m1 2 7)) o
          refine r_ld (pc' := 54) hM_12 d_12_53 rfl rfl ?_
          refine r_gR (pc' := 57) (v := 2) hM_12 d_12_54 rfl (by decide +kernel) ?_
          refine r_gI (pc' := 60) (k0 := 10) hM_12 d_12_57 rfl (by decide +kernel) ?_
          exact hk
        exact ok_rt (fun fx _ => rt_i hM_12 d_12_60 rfl) H
      · have H := H.2 (Decidable.not_not.mp hz5)
        refine ok_sg (pc' := 41) (ls' := [some (.inr (.inr (some 0))), some (.inl k)]) (st' := [.inl ((-30) - (m1 33 7))]) (m' := m1) (fun fx hfx o hk => ?_) ?_
        · refine r_k (pc' := 33) (v := .inl (-30)) hM_12 d_12_31 rfl rfl ?_
          refine r_ld (pc' := 34) hM_12 d_12_33 rfl rfl ?_
          refine r_gR (pc' := 37) (v := 33) hM_12 d_12_34 rfl (by decide +kernel) ?_
          refine r_gI (pc' := 40) (k0 := 7) hM_12 d_12_37 rfl (by decide +kernel) ?_
          refine r_b (pc' := 41) (z := ((-30) - (m1 33 7))) hM_12 d_12_40 rfl rfl ?_
          exact hk
        exact ok_rt (fun fx _ => rt_i hM_12 d_12_41 rfl) H
    · have H := H.2 hz2
      refine ok_sg (pc' := 14) (ls' := [some (.inr (.inr (some 0))), some (.inl k)]) (st' := [.inl (-3)]) (m' := m) (fun fx hfx o hk => ?_) ?_
      · refine r_k (pc' := 14) (v := .inl (-3)) hM_12 d_12_12 rfl rfl ?_
        exact hk
      exact ok_rt (fun fx _ => rt_i hM_12 d_12_14 rfl) H
