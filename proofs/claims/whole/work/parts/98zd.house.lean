def HGD (g : Nat → Int) : Prop := WFG g ∧ SLT g ∧ g 1 = 0 ∧ ZPL g
theorem HGD_up {g : Nat → Int} {k : Nat} {z : Int} (h : HGD g) (hw : WFG (up g k z)) (hk : 2 ≤ k ∧ k < 8) : HGD (up g k z) := by
  refine ⟨hw, fun p hp hl => ?_, by rw [up_o (by omega)]; exact h.2.2.1, fun p hl hp => ?_⟩
  · rw [up_o (by omega)] at hl
    rw [up_o (by omega), up_o (by omega)]
    exact h.2.1 p hp hl
  · rw [up_o (by omega)] at hl
    rw [up_o (by omega), up_o (by omega), up_o (by omega), up_o (by omega)]
    exact h.2.2.2 p hl hp
theorem HGD_ad {g : Nat → Int} {k s r i : Int} (h : HGD g) (hw : WFG (ad g k s r i)) (h0 : 0 ≤ g 0 ∧ g 0 < 12) (hs : k ≠ 3 → 1 ≤ s) : HGD (ad g k s r i) := by
  obtain ⟨N, hN⟩ : ∃ N : Nat, g 0 = (N : Int) := ⟨(g 0).toNat, by omega⟩
  refine ⟨hw, ?_, ?_, ?_⟩
  · intro p hp hl
    unfold ad at hl ⊢
    rw [hN, up_h, if_pos rfl] at hl
    rw [hN, Int.toNat_natCast, up_o (by omega), up_o (by omega), ly_K (by omega) hp, ly_S (by omega) hp]
    by_cases hc : p = N
    · rw [if_pos hc, if_pos hc]; exact hs
    · rw [if_neg hc, if_neg hc]
      exact h.2.1 p hp (by omega)
  · unfold ad
    rw [up_o (by decide), ly_lo (by decide)]
    exact h.2.2.1
  · intro p hl hp
    unfold ad at hl ⊢
    rw [hN, up_h, if_pos rfl] at hl
    rw [hN, Int.toNat_natCast, up_o (by omega), up_o (by omega), up_o (by omega), up_o (by omega), ly_K (by omega) hp, ly_S (by omega) hp, ly_R (by omega) hp, ly_I (by omega), if_neg (by omega), if_neg (by omega), if_neg (by omega), if_neg (by omega)]
    exact h.2.2.2 p (by omega) hp
theorem LNR_h {tx : Nat → Int} {n : Nat} {g : Nat → Int} {t : TKN} {x : (Nat → Int) × TKN} (hn : t.2.2.2 ≤ n) (hg : HGD g) (h : LNR tx n g t = .inr x) : HGD x.1 := by
  have hw := (LNR_w hn hg.1 h).1
  have h0 := hg.1.1
  rcases (LNR_r hn h).2 with ⟨h12, k, s, r, i, h1, h2⟩ | ⟨k, z, h1, h2⟩
  · rw [h1] at hw ⊢
    exact HGD_ad hg hw (by omega) (fun hk => by omega)
  · rw [h1] at hw ⊢
    exact HGD_up hg hw (by omega)
def PHM (m0 : am_M) (R : (Int × Int) ⊕ (Nat → Int)) (rr : List am_V) (m' : am_M) : Prop := (∃ g : Nat → Int, R = .inr g ∧ rr = [.inl (g 7)] ∧ (∀ k, k < 56 → m' 54 k = g k) ∧ HGD g ∧ (m' 53 13 = 0 ∧ m' 53 14 = -1) ∧ ∀ a k, ¬ (a = 53 ∧ 6 ≤ k ∧ k ≤ 14) → ¬ a = 57 → ¬ (a = 54 ∧ k < 56) → m' a k = m0 a k) ∨ (∃ f : Int × Int, R = .inl f ∧ rr = [.inl (-30 - f.1)] ∧ (m' 53 13 = f.1 ∧ m' 53 14 = f.2) ∧ ∀ a k, ¬ (a = 53 ∧ 6 ≤ k ∧ k ≤ 14) → ¬ a = 57 → m' a k = m0 a k)
theorem h120 {m0 m : am_M} {R : (Int × Int) ⊕ (Nat → Int)} (hR : R = .inr (m 57)) (hG : HGD (m 57)) (h13 : m 53 13 = 0) (h14 : m 53 14 = -1) (hF : ∀ a k, ¬ (a = 53 ∧ 6 ≤ k ∧ k ≤ 14) → ¬ a = 57 → m a k = m0 a k) : ok 9 166 120 [some (.inr (.inr (some 53))), none, some (.inl 0)] [] m (PHM m0 R) := by
  have key := ok_for (d := 9) (mi := 166) (pc := 120) (Q := PHM m0 R) (σ := Unit) (fun k _ => [some (.inr (.inr (some 53))), none, some (.inl (k : Int))]) (fun k _ M => (∀ j, j < k → M 54 j = m 57 j) ∧ ∀ a j, ¬ (a = 54 ∧ j < 56) → M a j = m a j) 56 ?_ ?_ () m ⟨fun j h => absurd h (Nat.not_lt_zero _), fun _ _ _ => rfl⟩
  · exact key
  · rintro k hk - M ⟨h1, h2⟩ IH
    have e57 : M 57 = m 57 := funext fun j => h2 57 j (by omega)
    refine u_166_120 ?_
    rw [am_s_id (z := (k : Int)) (by omega) (by omega), Int.toNat_natCast, e57]
    refine ⟨fun q => by omega, fun _ => ⟨⟨by omega, by omega⟩, ⟨by omega, by omega⟩, IH () _ ⟨fun j hj => ?_, fun a j hj => by rw [mu_o (by omega)]; exact h2 a j hj⟩⟩⟩
    rw [mu_if]
    by_cases hh : j = k
    · rw [if_pos hh, hh]
    · rw [if_neg hh]; exact h1 j (by omega)
  · rintro - M ⟨h1, h2⟩
    refine u_166_120 ?_
    rw [show am_s ((56 : Nat) : Int) = 56 by decide]
    refine ⟨fun _ => Or.inl ⟨m 57, hR, by rw [h1 7 (by decide)], h1, hG, ⟨by rw [h2 53 13 (by omega), h13], by rw [h2 53 14 (by omega), h14]⟩, fun a k q1 q2 q3 => ?_⟩, fun q => absurd (by decide) q⟩
    rw [h2 a k q3]
    exact hF a k q1 q2
theorem h53n {m0 m : am_M} {R : (Int × Int) ⊕ (Nat → Int)} {f : Int × Int} (hR : R = .inl f) (h1 : m 53 11 = f.1) (h2 : m 53 12 = f.2) (hr : 1 ≤ f.1 ∧ f.1 ≤ 4) (hF : frG m0 m) : ok 9 166 53 [some (.inr (.inr (some 53))), none, none] [] m (PHM m0 R) := by
  refine u_166_53 ?_
  rw [h1, h2, am_s_id (z := f.1) (by omega) (by omega)]
  refine ⟨fun _ => Or.inr ⟨f, hR, rfl, ⟨by rw [mu_o (by omega), mu_same], mu_same⟩, fun a k q1 q2 => ?_⟩, fun q => by omega⟩
  rw [mu_o (by omega), mu_o (by omega)]
  exact hF a k (by omega) q2
theorem h53 {m : am_M} {n : Nat} (hn : m 53 8 = (n : Int)) (hV : MV m) (h0 : m 53 11 = 0) (hG : HGD (m 57)) (h7 : m 57 7 = 0) (hT : VF (m 56) n 0 (mtok m)) : ok 9 166 53 [some (.inr (.inr (some 53))), none, none] [] m (PHM m (HSR (m 56) n (n + 1) (m 57) (mtok m))) := by
  have hn9 : n ≤ 900 := by
    have := hV.1.1
    omega
  refine ok_lp (σ := Unit) (fun _ => [some (.inr (.inr (some 53))), none, none]) (fun _ M => ∃ i : Nat, frG m M ∧ MV M ∧ M 53 11 = 0 ∧ HGD (M 57) ∧ M 57 7 = (i : Int) ∧ VF (m 56) n i (mtok M) ∧ HSR (m 56) n (n + 1 - i) (M 57) (mtok M) = HSR (m 56) n (n + 1) (m 57) (mtok m)) (fun _ M => n - (mtok M).1) ?_ () m ⟨0, fun _ _ _ _ => rfl, hV, h0, hG, h7, hT, rfl⟩
  rintro - M ⟨i, i1, i2, i3, i4, i5, i6, i7⟩ IH
  obtain ⟨g1, g2⟩ := frG_5 i1
  have hb := VF_b i6
  have h9 := i2.2.2.1
  have hw0 := i4.1.1
  refine u_166_53 ?_
  rw [i3, g1, g2, hn, Int.toNat_natCast, am_s_id (z := M 53 9) (by omega) (by omega)]
  refine ⟨fun q => absurd (by decide) q, fun _ => ⟨fun q => ?_, fun q => ⟨⟨i2, rfl, hw0, i4.2.2.2⟩, ?_⟩⟩⟩
  · have e57 : mu (mu M 53 13 0) 53 14 (-1) 57 = M 57 := funext fun j => by rw [mu_o (by omega), mu_o (by omega)]
    refine h120 ?_ (by rw [e57]; exact i4) (by rw [mu_o (by omega), mu_same]) mu_same (fun a k q1 q2 => ?_)
    · rw [e57, ← i7, show n + 1 - i = (n - i) + 1 by omega, HSR_e (show (mtok M).2.1 = 14 from q)]
    · rw [mu_o (by omega), mu_o (by omega)]
      exact i1 a k (by omega) q2
  · have hk : ¬ (mtok M).2.1 = 14 := q
    have hlt := hb.2.2.2 hk
    rintro mb (⟨x, b1, b2, b3, b4, b5, b6⟩ | ⟨f, b1, b2, b3, b4, b5, b6⟩)
    · obtain ⟨x1, x2, x3⟩ := LNR_w hb.2.2.1 i4.1 b1
      have x4 := (LNR_r hb.2.2.1 b1).1
      have x5 := LNR_h hb.2.2.1 i4 b1
      have x7 : x.1 7 = (i : Int) := by rw [x2, i5]
      have hbx := VF_b x4
      refine IH () mb ⟨i + 1, frG_t i1 b6, b4, b5, ?_, ?_, ?_, ?_⟩ ?_
      · rw [b2]
        exact HGD_up x5 (WFG_up x1 (by omega)) (by decide)
      · rw [b2, up_h, if_pos rfl, x7]
        rfl
      · rw [b3]
        obtain ⟨e, e1, e2, e3⟩ := x4
        exact ⟨e, by omega, e2, e3⟩
      · rw [b2, b3, ← i7, show n + 1 - i = (n - i) + 1 by omega, HSR_y hk b1, show n + 1 - (i + 1) = n - i by omega]
      · rw [b3]
        omega
    · refine h53n (f := f) ?_ b2 b3 b4 (frG_t i1 b6)
      rw [← i7, show n + 1 - i = (n - i) + 1 by omega, HSR_n hk b1]
theorem P_house {m : am_M} {k : Int} (hk : am_s k = k) (hI : Inv m) : PK 12 2 166 3 [.inl k] m := by
  obtain ⟨⟨t1, t2⟩, t3, t4⟩ := Inv_T hI
  have hTR := (Inv_F hI).2.2
  have e01 : am_s (m 0 1) = m 0 1 := am_s_id (by omega) (by omega)
  by_cases c : 0 ≤ k ∧ k ≤ m 0 1
  · obtain ⟨n, hkn⟩ : ∃ n : Nat, k = (n : Int) := ⟨k.toNat, by omega⟩
    have hS : SAM (m 1) (m 56) n := fun j hj => by
      have := t4 j (by omega)
      exact ⟨this.2, this.1.1, this.1.2⟩
    have htok := tok_cg hS
    -- the class
    have e1 : mu m 0 1 0 1 = m 1 := funext fun j => mu_o (by omega)
    have evw : vw (mu m 0 1 0) 7 = vw m 7 := vw_same fun a j q1 q2 => by rw [mu_o (by omega)]
    have hT0 : TRB (mu m 0 1 0) := TRB_cg (fun a j q1 q2 => mu_o (by omega)) hTR
    -- what both come to
    have hrel := HSR_nv (tx := m 1) (n := n) (n + 1) (pl0 (vw m 7)) (pl0 (fun _ => 0)) (tok (m 1) n 0) (nv_eq (fun j hj => by unfold pl0; rw [if_pos hj, if_pos hj]) (fun p hp hl => absurd hl (by show ¬ (p : Int) < 0; omega))) (by show (0 : Int) ≤ 0; decide) (tok_ok (Nat.zero_le _)).2.2.1
    -- the model
    have mdl : ∀ mc : am_M, mc 56 = m 56 → mc 53 5 = m 0 1 → ∃ mq : am_M, (∀ a j, ¬ (a = 53 ∧ (j = 0 ∨ 5 ≤ j ∧ j ≤ 14)) → ¬ a = 57 → mq a j = mc a j) ∧ mq 53 5 = 0 ∧ ∃ g0 : Nat → Int, nv g0 = nv (pl0 (fun _ => 0)) ∧ ok 9 166 0 [some (.inr (.inr (some 53))), some (.inl k), none] [] mc (PHM mq (HSR (m 56) n (n + 1) g0 (tok (m 56) n 0))) := by
      intro mc hc56 hc5
      have hat : am_t 0 = 0 := rfl
      sorry
    sorry
  · sorry
