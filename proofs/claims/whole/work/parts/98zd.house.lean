def HGD (g : Nat → Int) : Prop := WFG g ∧ SLT g ∧ g 1 = 0 ∧ ZPL g
theorem HGD_up {g : Nat → Int} {k : Nat} {z : Int} (h : HGD g) (hw : WFG (up g k z)) (hk : 2 ≤ k ∧ k < 8) : HGD (up g k z) := by
  refine ⟨hw, fun p hp hl => ?_, by rw [up_o (by omega)]; exact h.2.2.1, fun p hl hp => ?_⟩
  · rw [up_o (by omega)] at hl
    rw [up_o (by omega), up_o (by omega)]
    exact h.2.1 p hp hl
  · rw [up_o (by omega)] at hl
    rw [up_o (by omega), up_o (by omega), up_o (by omega), up_o (by omega)]
    exact h.2.2.2 p hl hp
theorem HGD_ad {g : Nat → Int} {k s r i : Int} (h : HGD g) (hw : WFG (ad g k s r i)) (h0 : 0 ≤ g 0 ∧ g 0 < 12) (hs : k ≠ 3 → 1 ≤ s) : HGD (ad g k s r i) := by
  obtain ⟨N, hN⟩ : ∃ N : Nat, g 0 = (N : Int) := ⟨(g 0).toNat, by omega⟩
  refine ⟨hw, ?_, ?_, ?_⟩
  · intro p hp hl
    unfold ad at hl ⊢
    rw [hN, up_h, if_pos rfl] at hl
    rw [hN, Int.toNat_natCast, up_o (by omega), up_o (by omega), ly_K (by omega) hp, ly_S (by omega) hp]
    by_cases hc : p = N
    · rw [if_pos hc, if_pos hc]; exact hs
    · rw [if_neg hc, if_neg hc]
      exact h.2.1 p hp (by omega)
  · unfold ad
    rw [up_o (by decide), ly_lo (by decide)]
    exact h.2.2.1
  · intro p hl hp
    unfold ad at hl ⊢
    rw [hN, up_h, if_pos rfl] at hl
    rw [hN, Int.toNat_natCast, up_o (by omega), up_o (by omega), up_o (by omega), up_o (by omega), ly_K (by omega) hp, ly_S (by omega) hp, ly_R (by omega) hp, ly_I (by omega), if_neg (by omega), if_neg (by omega), if_neg (by omega), if_neg (by omega)]
    exact h.2.2.2 p (by omega) hp
theorem LNR_h {tx : Nat → Int} {n : Nat} {g : Nat → Int} {t : TKN} {x : (Nat → Int) × TKN} (hn : t.2.2.2 ≤ n) (hg : HGD g) (h : LNR tx n g t = .inr x) : HGD x.1 := by
  have hw := (LNR_w hn hg.1 h).1
  have h0 := hg.1.1
  rcases (LNR_r hn h).2 with ⟨h12, k, s, r, i, h1, h2⟩ | ⟨k, z, h1, h2⟩
  · rw [h1] at hw ⊢
    exact HGD_ad hg hw (by omega) (fun hk => by omega)
  · rw [h1] at hw ⊢
    exact HGD_up hg hw (by omega)
def PHM (m0 : am_M) (R : (Int × Int) ⊕ (Nat → Int)) (rr : List am_V) (m' : am_M) : Prop := (∃ g : Nat → Int, R = .inr g ∧ rr = [.inl (g 7)] ∧ (∀ k, k < 56 → m' 54 k = g k) ∧ HGD g ∧ (m' 53 13 = 0 ∧ m' 53 14 = -1) ∧ ∀ a k, ¬ (a = 53 ∧ 6 ≤ k ∧ k ≤ 14) → ¬ a = 57 → ¬ (a = 54 ∧ k < 56) → m' a k = m0 a k) ∨ (∃ f : Int × Int, R = .inl f ∧ rr = [.inl (-30 - f.1)] ∧ (m' 53 13 = f.1 ∧ m' 53 14 = f.2) ∧ ∀ a k, ¬ (a = 53 ∧ 6 ≤ k ∧ k ≤ 14) → ¬ a = 57 → m' a k = m0 a k)
theorem h120 {m0 m : am_M} {R : (Int × Int) ⊕ (Nat → Int)} (hR : R = .inr (m 57)) (hG : HGD (m 57)) (h13 : m 53 13 = 0) (h14 : m 53 14 = -1) (hF : ∀ a k, ¬ (a = 53 ∧ 6 ≤ k ∧ k ≤ 14) → ¬ a = 57 → m a k = m0 a k) : ok 9 166 120 [some (.inr (.inr (some 53))), none, some (.inl 0)] [] m (PHM m0 R) := by
  have key := ok_for (d := 9) (mi := 166) (pc := 120) (Q := PHM m0 R) (σ := Unit) (fun k _ => [some (.inr (.inr (some 53))), none, some (.inl (k : Int))]) (fun k _ M => (∀ j, j < k → M 54 j = m 57 j) ∧ ∀ a j, ¬ (a = 54 ∧ j < 56) → M a j = m a j) 56 ?_ ?_ () m ⟨fun j h => absurd h (Nat.not_lt_zero _), fun _ _ _ => rfl⟩
  · exact key
  · rintro k hk - M ⟨h1, h2⟩ IH
    have e57 : M 57 = m 57 := funext fun j => h2 57 j (by omega)
    refine u_166_120 ?_
    rw [am_s_id (z := (k : Int)) (by omega) (by omega), Int.toNat_natCast, e57]
    refine ⟨fun q => by omega, fun _ => ⟨⟨by omega, by omega⟩, ⟨by omega, by omega⟩, IH () _ ⟨fun j hj => ?_, fun a j hj => by rw [mu_o (by omega)]; exact h2 a j hj⟩⟩⟩
    rw [mu_if]
    by_cases hh : j = k
    · rw [if_pos hh, hh]
    · rw [if_neg hh]; exact h1 j (by omega)
  · rintro - M ⟨h1, h2⟩
    refine u_166_120 ?_
    rw [show am_s ((56 : Nat) : Int) = 56 by decide]
    refine ⟨fun _ => Or.inl ⟨m 57, hR, by rw [h1 7 (by decide)], h1, hG, ⟨by rw [h2 53 13 (by omega), h13], by rw [h2 53 14 (by omega), h14]⟩, fun a k q1 q2 q3 => ?_⟩, fun q => absurd (by decide) q⟩
    rw [h2 a k q3]
    exact hF a k q1 q2
theorem h53n {m0 m : am_M} {R : (Int × Int) ⊕ (Nat → Int)} {f : Int × Int} (hR : R = .inl f) (h1 : m 53 11 = f.1) (h2 : m 53 12 = f.2) (hr : 1 ≤ f.1 ∧ f.1 ≤ 4) (hF : frG m0 m) : ok 9 166 53 [some (.inr (.inr (some 53))), none, none] [] m (PHM m0 R) := by
  refine u_166_53 ?_
  rw [h1, h2, am_s_id (z := f.1) (by omega) (by omega)]
  refine ⟨fun _ => Or.inr ⟨f, hR, rfl, ⟨by rw [mu_o (by omega), mu_same], mu_same⟩, fun a k q1 q2 => ?_⟩, fun q => by omega⟩
  rw [mu_o (by omega), mu_o (by omega)]
  exact hF a k (by omega) q2
theorem h53 {m : am_M} {n : Nat} (hn : m 53 8 = (n : Int)) (hV : MV m) (h0 : m 53 11 = 0) (hG : HGD (m 57)) (h7 : m 57 7 = 0) (hT : VF (m 56) n 0 (mtok m)) : ok 9 166 53 [some (.inr (.inr (some 53))), none, none] [] m (PHM m (HSR (m 56) n (n + 1) (m 57) (mtok m))) := by
  have hn9 : n ≤ 900 := by
    have := hV.1.1
    omega
  refine ok_lp (σ := Unit) (fun _ => [some (.inr (.inr (some 53))), none, none]) (fun _ M => ∃ i : Nat, frG m M ∧ MV M ∧ M 53 11 = 0 ∧ HGD (M 57) ∧ M 57 7 = (i : Int) ∧ VF (m 56) n i (mtok M) ∧ HSR (m 56) n (n + 1 - i) (M 57) (mtok M) = HSR (m 56) n (n + 1) (m 57) (mtok m)) (fun _ M => n - (mtok M).1) ?_ () m ⟨0, fun _ _ _ _ => rfl, hV, h0, hG, h7, hT, rfl⟩
  rintro - M ⟨i, i1, i2, i3, i4, i5, i6, i7⟩ IH
  obtain ⟨g1, g2⟩ := frG_5 i1
  have hb := VF_b i6
  have h9 := i2.2.2.1
  have hw0 := i4.1.1
  refine u_166_53 ?_
  rw [i3, g1, g2, hn, Int.toNat_natCast, am_s_id (z := M 53 9) (by omega) (by omega)]
  refine ⟨fun q => absurd (by decide) q, fun _ => ⟨fun q => ?_, fun q => ⟨⟨i2, rfl, hw0, i4.2.2.2⟩, ?_⟩⟩⟩
  · have e57 : mu (mu M 53 13 0) 53 14 (-1) 57 = M 57 := funext fun j => by rw [mu_o (by omega), mu_o (by omega)]
    refine h120 ?_ (by rw [e57]; exact i4) (by rw [mu_o (by omega), mu_same]) mu_same (fun a k q1 q2 => ?_)
    · rw [e57, ← i7, show n + 1 - i = (n - i) + 1 by omega, HSR_e (show (mtok M).2.1 = 14 from q)]
    · rw [mu_o (by omega), mu_o (by omega)]
      exact i1 a k (by omega) q2
  · have hk : ¬ (mtok M).2.1 = 14 := q
    have hlt := hb.2.2.2 hk
    rintro mb (⟨x, b1, b2, b3, b4, b5, b6⟩ | ⟨f, b1, b2, b3, b4, b5, b6⟩)
    · obtain ⟨x1, x2, x3⟩ := LNR_w hb.2.2.1 i4.1 b1
      have x4 := (LNR_r hb.2.2.1 b1).1
      have x5 := LNR_h hb.2.2.1 i4 b1
      have x7 : x.1 7 = (i : Int) := by rw [x2, i5]
      have hbx := VF_b x4
      refine IH () mb ⟨i + 1, frG_t i1 b6, b4, b5, ?_, ?_, ?_, ?_⟩ ?_
      · rw [b2]
        exact HGD_up x5 (WFG_up x1 (by omega)) (by decide)
      · rw [b2, up_h, if_pos rfl, x7]
        rfl
      · rw [b3]
        obtain ⟨e, e1, e2, e3⟩ := x4
        exact ⟨e, by omega, e2, e3⟩
      · rw [b2, b3, ← i7, show n + 1 - i = (n - i) + 1 by omega, HSR_y hk b1, show n + 1 - (i + 1) = n - i by omega]
      · rw [b3]
        omega
    · refine h53n (f := f) ?_ b2 b3 b4 (frG_t i1 b6)
      rw [← i7, show n + 1 - i = (n - i) + 1 by omega, HSR_n hk b1]
theorem HGD_0 : HGD (pl0 (fun _ => 0)) := by
  have e : ∀ j, 8 ≤ j → pl0 (fun _ => 0) j = 0 := fun j hj => by
    unfold pl0
    rw [if_neg (by omega)]
  refine ⟨⟨by decide, fun p hp => ?_, fun p hp => ?_, fun p hp => ?_, fun p hp => ?_, by decide, by decide, by decide, by decide, by decide, by decide, by decide⟩, fun p hp hl => absurd hl (by show ¬ (p : Int) < 0; omega), rfl, fun p hl hp => ⟨e _ (by omega), e _ (by omega), e _ (by omega), e _ (by omega)⟩⟩
  · rw [e _ (by omega)]; decide
  · rw [e _ (by omega)]; decide
  · rw [e _ (by omega)]; decide
  · rw [e _ (by omega)]; decide
theorem HGD_of {g g' : Nat → Int} (h : ∀ k, k < 56 → g k = g' k) (hg : HGD g') : HGD g := by
  refine ⟨WFG_of' h hg.1, SLT_of h hg.2.1, by rw [h 1 (by decide)]; exact hg.2.2.1, fun p hl hp => ?_⟩
  rw [h 0 (by decide)] at hl
  rw [h _ (by omega), h _ (by omega), h _ (by omega), h _ (by omega)]
  exact hg.2.2.2 p hl hp
def PHF (mc : am_M) (ty : Nat → Int) (n : Nat) (rr : List am_V) (m' : am_M) : Prop := ∃ g0 : Nat → Int, nv g0 = nv (pl0 (fun _ => 0)) ∧ m' 53 5 = 0 ∧ ((∃ g : Nat → Int, HSR ty n (n + 1) g0 (tok ty n 0) = .inr g ∧ rr = [.inl (g 7)] ∧ (∀ k, k < 56 → m' 54 k = g k) ∧ HGD g ∧ (m' 53 13 = 0 ∧ m' 53 14 = -1) ∧ ∀ a k, ¬ (a = 53 ∧ (k = 0 ∨ 5 ≤ k ∧ k ≤ 14)) → ¬ a = 57 → ¬ (a = 54 ∧ k < 56) → m' a k = mc a k) ∨ (∃ f : Int × Int, HSR ty n (n + 1) g0 (tok ty n 0) = .inl f ∧ rr = [.inl (-30 - f.1)] ∧ (m' 53 13 = f.1 ∧ m' 53 14 = f.2) ∧ ∀ a k, ¬ (a = 53 ∧ (k = 0 ∨ 5 ≤ k ∧ k ≤ 14)) → ¬ a = 57 → m' a k = mc a k))
theorem mhouse {mc : am_M} {n : Nat} (h5 : (n : Int) ≤ mc 53 5 ∧ mc 53 5 ≤ 900) (hB : ∀ j, j < n → 0 ≤ mc 56 j ∧ mc 56 j ≤ 255) : ok 9 166 0 [some (.inr (.inr (some 53))), some (.inl (n : Int)), none] [] mc (PHF mc (mc 56) n) := by
  refine u_166_0 ?_
  rw [am_t_s, am_t_s, show am_t 0 = 0 from rfl, am_s_id (z := (n : Int)) (by omega) (by omega), am_s_id (z := mc 53 5) (by omega) (by omega)]
  refine ⟨fun _ => ?_, fun q => absurd ⟨by omega, h5.1⟩ q⟩
  rintro ma ⟨a1, a2⟩
  have fa : ∀ a j, ¬ (a = 53 ∧ (j = 0 ∨ 5 ≤ j ∧ j ≤ 14)) → ¬ a = 57 → ma a j = mc a j := fun a j q1 q2 => by
    rw [a2 a j (by omega), mu_o (by omega), mu_o (by omega), mu_o (by omega), mu_o (by omega), mu_o (by omega)]
  have e8 : ma 53 8 = (n : Int) := by rw [a2 53 8 (by omega), mu_o (by omega), mu_o (by omega), mu_o (by omega), mu_same]
  have e5 : ma 53 5 = 0 := by rw [a2 53 5 (by omega), mu_o (by omega), mu_o (by omega), mu_same]
  have e7 : ma 53 7 = 0 := by rw [a2 53 7 (by omega), mu_o (by omega), mu_same]
  have e11 : ma 53 11 = 0 := by rw [a2 53 11 (by omega), mu_same]
  have e56 : ma 56 = mc 56 := funext fun j => fa 56 j (by omega) (by omega)
  refine ⟨⟨by omega, fun j hj => by rw [e56]; exact hB j (by omega)⟩, ?_⟩
  rw [e56, e8, e7, Int.toNat_natCast, show (0 : Int).toNat = 0 from rfl]
  rintro mb ⟨b1, b2, b3⟩
  obtain ⟨f1, f2, f3, f4⟩ := frM_5 b3
  have hG : HGD (mb 57) := by
    rw [f4]
    exact HGD_of a1 HGD_0
  have h7 : mb 57 7 = 0 := by
    rw [f4, a1 7 (by decide)]
    rfl
  have hh := h53 (m := mb) (n := n) (by rw [f2, e8]) b2 (by rw [f3, e11]) hG h7 (by rw [b1, f1, e56]; exact ⟨0, Nat.le_refl _, Nat.zero_le _, rfl⟩)
  rw [f1, e56, b1] at hh
  have fb : ∀ a j, ¬ (a = 53 ∧ (j = 0 ∨ 5 ≤ j ∧ j ≤ 14)) → ¬ a = 57 → mb a j = mc a j := fun a j q1 q2 => by rw [b3 a j (by omega), fa a j q1 q2]
  have fb5 : mb 53 5 = 0 := by rw [b3 53 5 (by omega), e5]
  refine ok.imp hh ?_
  rintro rr mx (⟨g, c1, c2, c3, c4, c5, c6⟩ | ⟨f, c1, c2, c3, c4⟩)
  · refine ⟨mb 57, by rw [f4]; exact nv_of a1, by rw [c6 53 5 (by omega) (by omega) (by omega), fb5], Or.inl ⟨g, c1, c2, c3, c4, c5, fun a j q1 q2 q3 => ?_⟩⟩
    rw [c6 a j (by omega) q2 q3, fb a j q1 q2]
  · refine ⟨mb 57, by rw [f4]; exact nv_of a1, by rw [c4 53 5 (by omega) (by omega), fb5], Or.inr ⟨f, c1, c2, c3, fun a j q1 q2 => ?_⟩⟩
    rw [c4 a j (by omega) q2, fb a j q1 q2]
theorem P_house {m : am_M} {k : Int} (hk : am_s k = k) (hI : Inv m) : PK 12 2 166 3 [.inl k] m := by
  obtain ⟨⟨t1, t2⟩, t3, t4⟩ := Inv_T hI
  have hTR := (Inv_F hI).2.2
  have e01 : am_s (m 0 1) = m 0 1 := am_s_id (by omega) (by omega)
  by_cases c : 0 ≤ k ∧ k ≤ m 0 1
  · obtain ⟨n, rfl⟩ : ∃ n : Nat, k = (n : Int) := ⟨k.toNat, by omega⟩
    have hS : SAM (m 1) (m 56) n := fun j hj => by
      have := t4 j (by omega)
      exact ⟨this.2, this.1.1, this.1.2⟩
    have htok := tok_cg hS
    have e1 : mu m 0 1 0 1 = m 1 := funext fun j => mu_o (by omega)
    have evw : vw (mu m 0 1 0) 7 = vw m 7 := vw_same fun a j q1 q2 => by rw [mu_o (by omega)]
    have hT0 : TRB (mu m 0 1 0) := TRB_cg (fun a j q1 q2 => mu_o (by omega)) hTR
    have hB0 : ∀ j : Nat, (j : Int) < (n : Int) → -128 ≤ m 1 j ∧ m 1 j ≤ 127 := fun j hj => (t4 j (by omega)).1
    have hB1 : ∀ j, j < n → 0 ≤ m 56 j ∧ m 56 j ≤ 255 := fun j hj => by
      have := t4 j (by omega)
      omega
    have hrel : ∀ g0 : Nat → Int, nv g0 = nv (pl0 (fun _ => 0)) → RHS (HSR (m 1) n (n + 1) (pl0 (vw m 7)) (tok (m 1) n 0)) (HSR (m 56) n (n + 1) g0 (tok (m 56) n 0)) := by
      intro g0 hg0
      rw [HSR_tx htok, htok]
      refine HSR_nv (n + 1) _ _ _ ?_ (by show (0 : Int) ≤ 0; decide) (tok_ok (Nat.zero_le _)).2.2.1
      rw [hg0]
      exact nv_eq (fun j hj => by unfold pl0; rw [if_pos hj, if_pos hj]) (fun p hp hl => absurd hl (by show ¬ (p : Int) < 0; omega))
    have fH : ∀ {mc : am_M}, frH (mu m 0 1 0) mc → ∀ a j, ¬ (a = 33 ∧ 2 ≤ j ∧ j ≤ 8) → ¬ (7 ≤ a ∧ a ≤ 11) → ¬ (a = 0 ∧ j = 1) → mc a j = m a j := fun h a j q1 q2 q3 => by rw [h a j q1 q2, mu_o q3]
    have mdl : ∀ {mc : am_M}, mc 56 = m 56 → mc 53 5 = m 53 5 → ok 9 166 0 [some (.inr (.inr (some 53))), some (.inl (n : Int)), none] [] mc (PHF mc (m 56) n) := by
      intro mc q1 q2
      have := mhouse (mc := mc) (n := n) (by rw [q2]; omega) (by rw [q1]; exact hB1)
      rw [q1] at this
      exact this
    cases hH : HSR (m 1) n (n + 1) (pl0 (vw m 7)) (tok (m 1) n 0) with
    | inl f =>
      refine PK_2 (h1 := 11) (h2 := 9) (v := .inl (-30 - f.1)) (R := fun mc => (mc 33 7 = f.1 ∧ mc 33 8 = f.2) ∧ TRB mc ∧ mc 0 1 = 0 ∧ frH (mu m 0 1 0) mc) ?_ ?_ (by decide) (by decide)
      · show ok 11 12 0 [some (.inr (.inr (some 0))), some (.inl (n : Int))] [] m _
        refine u_12_0 ?_
        rw [hk, e01, e1, evw, Int.toNat_natCast, hH]
        refine ⟨fun q => absurd q (by omega), fun _ => ⟨fun _ => ⟨⟨⟨by omega, by omega⟩, hB0, hT0⟩, ?_⟩, fun q => absurd c.2 q⟩⟩
        rintro v1 mc (⟨v, b1, -⟩ | ⟨f', b1, b2, b3, b4, b5, b6⟩)
        · exact absurd b1 (by simp)
        · have ef : f = f' := Sum.inl.inj b1
          rw [b2]
          refine ⟨fun q => absurd (by decide) q, fun _ => ⟨by rw [b3, ← ef], ⟨by rw [b3, ← ef], by rw [b4, ← ef]⟩, b5, ?_, b6⟩⟩
          rw [b6 0 1 (by omega) (by omega), mu_same]
      · rintro mc ⟨r1, r2, r3, r4⟩
        have f0 := fH r4
        have q56 : mc 56 = m 56 := funext fun j => f0 56 j (by omega) (by omega) (by omega)
        refine ok.imp (mdl q56 (f0 53 5 (by omega) (by omega) (by omega))) ?_
        rintro rr mx ⟨g0, d1, d2, hd⟩
        have hr := hrel g0 d1
        rw [hH] at hr
        rcases hd with ⟨g, d3, -⟩ | ⟨f', d3, d4, d5, d6⟩
        · rw [d3] at hr
          exact absurd hr id
        · rw [d3] at hr
          have ef : f = f' := hr
          refine ⟨by rw [d4, ← ef], ?_⟩
          have fx : ∀ a j, ¬ (a = 33 ∧ 2 ≤ j ∧ j ≤ 8) → ¬ (7 ≤ a ∧ a ≤ 11) → ¬ (a = 0 ∧ j = 1) → ¬ (a = 53 ∧ (j = 0 ∨ 5 ≤ j ∧ j ≤ 14)) → ¬ a = 57 → mx a j = m a j := fun a j y1 y2 y3 y4 y5 => by rw [d6 a j y4 y5, f0 a j y1 y2 y3]
          refine Inv_mk (IvS_of (fun j hj => fx _ _ (by omega) (by omega) (by omega) (by omega) (by omega)) (vw_same fun a j q1 q2 => fx _ _ (by omega) (by omega) (by omega) (by omega) (by omega)) (Inv_S hI)) (fun i hi2 => IvI_of (fx _ _ (by omega) (by omega) (by omega) (by omega) (by omega)) (fx _ _ (by omega) (by omega) (by omega) (by omega) (by omega)) (fun j hj => fx _ _ (by omega) (by omega) (by omega) (by omega) (by omega)) (vw_same fun a j q1 q2 => fx _ _ (by omega) (by omega) (by omega) (by omega) (by omega)) (Inv_I hI hi2)) (IvR_of (fun a ha => funext fun j => fx _ _ (by omega) (by omega) (by omega) (by omega) (by omega)) (Inv_R hI)) ?_ ?_
          · have z0 : mx 0 1 = 0 := by rw [d6 0 1 (by omega) (by omega), r3]
            exact ⟨by omega, by rw [d2, z0], fun j hj => by omega⟩
          · refine ⟨?_, ?_, TRB_cg (fun a j q1 q2 => d6 a j (by omega) (by omega)) r2⟩
            · rw [d6 33 7 (by omega) (by omega), r1.1, d5.1, ef]
            · rw [d6 33 8 (by omega) (by omega), r1.2, d5.2, ef]
    | inr v =>
      refine PK_2 (h1 := 11) (h2 := 9) (v := .inl (v 7)) (R := fun md => ∃ mc : am_M, md = tk mc 2 7 ∧ vw mc 7 = v ∧ WFG v ∧ (mc 33 7 = 0 ∧ mc 33 8 = -1) ∧ mc 0 1 = 0 ∧ frH (mu m 0 1 0) mc) ?_ ?_ (by decide) (by decide)
      · show ok 11 12 0 [some (.inr (.inr (some 0))), some (.inl (n : Int))] [] m _
        refine u_12_0 ?_
        rw [hk, e01, e1, evw, Int.toNat_natCast, hH]
        refine ⟨fun q => absurd q (by omega), fun _ => ⟨fun _ => ⟨⟨⟨by omega, by omega⟩, hB0, hT0⟩, ?_⟩, fun q => absurd c.2 q⟩⟩
        rintro v1 mc (⟨v', b1, b2, b3, b4, b5, b6, b7⟩ | ⟨f', b1, -⟩)
        · have ef : v = v' := Sum.inr.inj b1
          rw [b2]
          refine ⟨fun _ => ⟨by decide, ?_, mc, rfl, by rw [b3, ← ef], by rw [ef]; exact b4, ⟨b5, b6⟩, ?_, b7⟩, fun q => absurd q (by decide)⟩
          · have e := vw_tk_lo (m := mc) (s := 2) (t := 7) (k := 7) (by decide)
            have e2 : vw (tk mc 2 7) 2 7 = tk mc 2 7 2 10 := rfl
            rw [← e2, e, b3, ← ef]
          · rw [b7 0 1 (by omega) (by omega), mu_same]
        · exact absurd b1 (by simp)
      · rintro md ⟨mc, r0, r1, r2, r3, r4, r5⟩
        have f0 := fH r5
        have fd : ∀ a, (a < 2 ∨ 6 < a) → md a = mc a := fun a ha => by rw [r0, tk_r (by omega)]
        have q56 : md 56 = m 56 := by
          rw [fd 56 (by omega)]
          exact funext fun j => f0 56 j (by omega) (by omega) (by omega)
        refine ok.imp (mdl q56 (by rw [fd 53 (by omega), f0 53 5 (by omega) (by omega) (by omega)])) ?_
        rintro rr mx ⟨g0, d1, d2, hd⟩
        have hr := hrel g0 d1
        rw [hH] at hr
        rcases hd with ⟨g, d3, d4, d5, d6, d7, d8⟩ | ⟨f', d3, -⟩
        · rw [d3] at hr
          have ef : nv v = nv g := hr
          refine ⟨by rw [d4, nv_hd ef (by decide)], ?_⟩
          have fx : ∀ a j, ¬ (a = 33 ∧ 2 ≤ j ∧ j ≤ 8) → ¬ (7 ≤ a ∧ a ≤ 11) → ¬ (a = 0 ∧ j = 1) → ¬ (a = 53 ∧ (j = 0 ∨ 5 ≤ j ∧ j ≤ 14)) → ¬ a = 57 → ¬ (a = 54 ∧ j < 56) → (a < 2 ∨ 6 < a) → mx a j = m a j := fun a j y1 y2 y3 y4 y5 y6 y7 => by rw [d8 a j y4 y5 y6, fd a y7, f0 a j y1 y2 y3]
          refine Inv_mk ⟨okg_of d5 ⟨d6.1, by have := d6.2.2.1; omega, d6.2.1⟩, ?_⟩ (fun i hi2 => IvI_of (fx _ _ (by omega) (by omega) (by omega) (by omega) (by omega) (by omega) (by omega)) (fx _ _ (by omega) (by omega) (by omega) (by omega) (by omega) (by omega) (by omega)) (fun j hj => fx _ _ (by omega) (by omega) (by omega) (by omega) (by omega) (by omega) (by omega)) (vw_same fun a j q1 q2 => fx _ _ (by omega) (by omega) (by omega) (by omega) (by omega) (by omega) (by omega)) (Inv_I hI hi2)) (IvR_of (fun a ha => funext fun j => fx _ _ (by omega) (by omega) (by omega) (by omega) (by omega) (by omega) (by omega)) (Inv_R hI)) ?_ ?_
          · have evx : vw mx 2 = vw (tk mc 2 7) 2 := vw_same fun a j q1 q2 => by rw [d8 a j (by omega) (by omega) (by omega), r0]
            rw [evx, nv_tk, r1, nv_of d5]
            exact ⟨WFG_tk (by rw [r1]; exact r2), ef⟩
          · have z0 : mx 0 1 = 0 := by rw [d8 0 1 (by omega) (by omega) (by omega), fd 0 (by omega), r4]
            exact ⟨by omega, by rw [d2, z0], fun j hj => by omega⟩
          · refine ⟨?_, ?_, TRB_cg (m := mc) (fun a j q1 q2 => by rw [d8 a j (by omega) (by omega) (by omega), fd a (by omega)]) (TRB_of (by rw [r1]; exact r2))⟩
            · rw [d8 33 7 (by omega) (by omega) (by omega), fd 33 (by omega), r3.1, d7.1]
            · rw [d8 33 8 (by omega) (by omega) (by omega), fd 33 (by omega), r3.2, d7.2]
        · rw [d3] at hr
          exact absurd hr id
  · refine PK_2 (h1 := 11) (h2 := 9) (v := .inl (-3)) (R := fun m1 => m = m1) ?_ ?_ (by decide) (by decide)
    · show ok 11 12 0 [some (.inr (.inr (some 0))), some (.inl k)] [] m _
      refine u_12_0 ?_
      rw [hk, e01]
      exact ⟨fun _ => ⟨rfl, rfl⟩, fun q => ⟨fun q2 => absurd ⟨by omega, q2⟩ c, fun _ => ⟨rfl, rfl⟩⟩⟩
    · rintro _ rfl
      show ok 9 166 0 [some (.inr (.inr (some 53))), some (.inl k), none] [] m _
      refine u_166_0 ?_
      rw [am_t_s, am_t_s, show am_t 0 = 0 from rfl, hk, t3, e01]
      exact ⟨fun q => absurd q c, fun _ => ⟨rfl, Inv_t hI⟩⟩
