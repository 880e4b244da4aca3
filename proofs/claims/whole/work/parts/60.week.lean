/-- the draws of a day: the number that is drawn from, and who is turned, behind p places -/
def wst (g : Nat → Int) (x : Int) : Nat → Int × Nat
  | 0 => (x, 0)
  | p + 1 => if g (8 + p) = 3 ∨ ((cnt (wst g x p).2 12 : Nat) : Int) = g 4 then wst g x p else (1103515245 * (wst g x p).1 + 12345, if am_s (am_rem (am_ushr (1103515245 * (wst g x p).1 + 12345) 16) 2) = 1 then (wst g x p).2 + 2 ^ p else (wst g x p).2)
theorem wst_s {g : Nat → Int} {x : Int} {p : Nat} : wst g x (p + 1) = if g (8 + p) = 3 ∨ ((cnt (wst g x p).2 12 : Nat) : Int) = g 4 then wst g x p else (1103515245 * (wst g x p).1 + 12345, if am_s (am_rem (am_ushr (1103515245 * (wst g x p).1 + 12345) 16) 2) = 1 then (wst g x p).2 + 2 ^ p else (wst g x p).2) := rfl
theorem wst_2 {g : Nat → Int} {x : Int} {p : Nat} : (wst g x (p + 1)).2 = if g (8 + p) = 3 ∨ ((cnt (wst g x p).2 12 : Nat) : Int) = g 4 then (wst g x p).2 else if am_s (am_rem (am_ushr (1103515245 * (wst g x p).1 + 12345) 16) 2) = 1 then (wst g x p).2 + 2 ^ p else (wst g x p).2 := by
  rw [wst_s]
  split <;> rfl
theorem wst_lt {g : Nat → Int} {x : Int} : ∀ p, (wst g x p).2 < 2 ^ p := by
  intro p
  induction p with
  | zero => exact Nat.zero_lt_one
  | succ p ih =>
    rw [wst_2, Nat.pow_succ]
    split
    · omega
    · split <;> omega
theorem wst_full {g : Nat → Int} {x : Int} {p : Nat} (h : ((cnt (wst g x p).2 12 : Nat) : Int) = g 4) : ∀ q, p ≤ q → wst g x q = wst g x p := by
  intro q
  induction q with
  | zero =>
    intro hq
    have : p = 0 := by omega
    rw [this]
  | succ q ih =>
    intro hq
    by_cases hp : p = q + 1
    · rw [hp]
    · have e := ih (by omega)
      rw [wst_s, e, if_pos (Or.inr h)]
theorem cnt_add {s p : Nat} (h : s < 2 ^ p) : ∀ n, cnt (s + 2 ^ p) n = cnt s n + if p < n then 1 else 0 := by
  have hb : ∀ i, (s + 2 ^ p).testBit i = (decide (i = p) || s.testBit i) := by
    intro i
    have e : s + 2 ^ p = 2 ^ p * 1 ||| s := by
      have := Nat.two_pow_add_eq_or_of_lt (i := p) h 1
      omega
    rw [e, Nat.mul_one, Nat.testBit_or, Nat.testBit_two_pow]
    by_cases hi : p = i
    · subst hi; simp
    · have : ¬ i = p := fun q => hi q.symm
      simp [hi, this]
  intro n
  induction n with
  | zero => rfl
  | succ n ih =>
    rw [cnt_s, cnt_s, ih, hb]
    by_cases hn : n = p
    · subst hn
      have hs : s.testBit n = false := Nat.testBit_lt_two_pow h
      rw [hs]
      simp
    · have h1 : decide (n = p) = false := decide_eq_false hn
      rw [h1, Bool.false_or]
      by_cases h2 : p < n
      · rw [if_pos h2, if_pos (show p < n + 1 by omega)]; omega
      · rw [if_neg h2, if_neg (show ¬ p < n + 1 by omega)]; omega
theorem wst_cnt {g : Nat → Int} {x : Int} (h4 : 0 ≤ g 4) : ∀ p, p ≤ 12 → ((cnt (wst g x p).2 12 : Nat) : Int) ≤ g 4 := by
  intro p
  induction p with
  | zero =>
    intro _
    have : cnt 0 12 = 0 := by decide
    show ((cnt 0 12 : Nat) : Int) ≤ _
    rw [this]
    exact h4
  | succ p ih =>
    intro hp
    have h := ih (by omega)
    rw [wst_2]
    split
    · exact h
    · rename_i hc
      split
      · rw [cnt_add (wst_lt p), if_pos (show p < 12 by omega)]
        omega
      · exact h
/-- days by draws: number, how many went bad, the state -/
def wkd (g : Nat → Int) (x : Int) : Nat → Int × Int × (Nat → Int)
  | 0 => (x, 0, g)
  | i + 1 => ((wst (wkd g x i).2.2 (wkd g x i).1 ((wkd g x i).2.2 0).toNat).1, (wkd g x i).2.1 + dyn (wst (wkd g x i).2.2 (wkd g x i).1 ((wkd g x i).2.2 0).toNat).2 (wkd g x i).2.2, dy (wst (wkd g x i).2.2 (wkd g x i).1 ((wkd g x i).2.2 0).toNat).2 (wkd g x i).2.2)
theorem wkd_s {g : Nat → Int} {x : Int} {i : Nat} : wkd g x (i + 1) = ((wst (wkd g x i).2.2 (wkd g x i).1 ((wkd g x i).2.2 0).toNat).1, (wkd g x i).2.1 + dyn (wst (wkd g x i).2.2 (wkd g x i).1 ((wkd g x i).2.2 0).toNat).2 (wkd g x i).2.2, dy (wst (wkd g x i).2.2 (wkd g x i).1 ((wkd g x i).2.2 0).toNat).2 (wkd g x i).2.2) := rfl
theorem P_week {m : am_M} {a n : Int} (ha : am_s a = a) (hn : am_s n = n) (hI : Inv m) : PK 60 9 202 8 [.inl a, .inl n] m := by
  have hw := Inv_wf hI
  have hv := Inv_vw hI
  have ed : m 2 11 = m 54 1 := Inv_hd hI (k := 1) (by decide)
  have hd0 : 0 ≤ m 54 1 := hw.2.2.2.2.2.2.2.2.2.2.2.1
  have hd9 := hI.1.2.1
  by_cases c1 : 1 ≤ n ∧ n ≤ 30
  · have es : am_s (m 54 1 + n) = m 54 1 + n := am_s_id (by omega) (by omega)
    by_cases c2 : m 54 1 + n ≤ 9999
    · obtain ⟨N, rfl⟩ : ∃ N : Nat, n = (N : Int) := ⟨n.toNat, by omega⟩
      refine PK_2 (h1 := 2) (h2 := 3) (v := .inl (wkd (nv (m 54)) a N).2.1) (R := fun m1 => (nv (vw m1 2) = (wkd (nv (m 54)) a N).2.2 ∧ WFG (vw m1 2)) ∧ ∀ x, x < 2 ∨ 6 < x → m1 x = m x) ?_ ?_ (by decide) (by decide)
      · refine u_60_0 ?_
        rw [hn, ed, es]
        refine ⟨fun q => by omega, fun _ => ⟨fun _ => ⟨fun _ => ?_, fun q => absurd c2 q⟩, fun q => by omega⟩⟩
        refine ok_for (σ := Unit) (fun i _ => [some (.inr (.inr (some 0))), some (.inl a), some (.inl (N : Int)), some (.inl (wkd (nv (m 54)) a i).1), some (.inl (wkd (nv (m 54)) a i).2.1), some (.inl (i : Int)), none, none, none]) (fun i _ M => nv (vw M 2) = (wkd (nv (m 54)) a i).2.2 ∧ WFG (vw M 2) ∧ M 2 11 = m 54 1 + (i : Int) ∧ ∀ x, x < 2 ∨ 6 < x → M x = m x) N ?_ ?_ () m ⟨Inv_nv hI, hv, by rw [ed]; omega, fun _ _ => rfl⟩
        · rintro i hi - M ⟨h1, h2, h3, h4⟩ IH
          refine u_60_40 ?_
          rw [hn, am_s_id (z := (i : Int)) (by omega) (by omega)]
          refine ⟨fun q => by omega, fun _ => ?_⟩
          have hg0 : (wkd (nv (m 54)) a i).2.2 0 = M 2 4 := by rw [← h1, nv_lo (by decide)]; rfl
          have hg4 : (wkd (nv (m 54)) a i).2.2 4 = M 2 7 := by rw [← h1, nv_lo (by decide)]; rfl
          have hN := h2.1
          rw [vw_0] at hN
          have hh := h2.2.2.2.2.2.2.2.1
          rw [vw_4] at hh
          generalize hG : (wkd (nv (m 54)) a i).2.2 = g at *
          generalize hX : (wkd (nv (m 54)) a i).1 = x at *
          have hexit : ∀ (p : Nat) (c q : Int), p ≤ (M 2 4).toNat → wst g x (M 2 4).toNat = wst g x p → (WFG (vw M 2) ∧ 0 ≤ (((wst g x p).2 : Nat) : Int) ∧ (((wst g x p).2 : Nat) : Int) < 4096) ∧ ok 2 60 40 [some (.inr (.inr (some 0))), some (.inl a), some (.inl (N : Int)), some (.inl (wst g x p).1), some (.inl ((wkd (nv (m 54)) a i).2.1 + dyn (wst g x p).2 (nv (vw M 2)))), some (.inl ((i : Int) + 1)), none, none, none] [] (pw M 2 (wst g x p).2) (fun r m1 => r = [.inl (wkd (nv (m 54)) a N).2.1] ∧ (nv (vw m1 2) = (wkd (nv (m 54)) a N).2.2 ∧ WFG (vw m1 2)) ∧ ∀ x, x < 2 ∨ 6 < x → m1 x = m x) := by
            intro p c q hp hst
            have hl := wst_lt (g := g) (x := x) p
            have hpw : 2 ^ p ≤ 2 ^ 12 := Nat.pow_le_pow_right (by decide) (by omega)
            refine ⟨⟨h2, by omega, by omega⟩, ?_⟩
            have ew : wkd (nv (m 54)) a (i + 1) = ((wst g x p).1, (wkd (nv (m 54)) a i).2.1 + dyn (wst g x p).2 g, dy (wst g x p).2 g) := by rw [wkd_s, hG, hX, hg0, hst]
            have := IH () (pw M 2 (wst g x p).2) ⟨by rw [nv_pw h2, h1, ew], WFG_pw h2 (by omega), by rw [pw_11, h3]; omega, fun y hy => by rw [pw_r (by omega), h4 y hy]⟩
            rw [ew] at this
            rw [h1]
            exact this
          have e0 : M 2 7 - ((cnt (wst g x 0).2 12 : Nat) : Int) = M 2 7 := by
            have : cnt (wst g x 0).2 12 = 0 := by show cnt 0 12 = 0; decide
            rw [this]
            omega
          rw [show (some (.inl (M 2 7)) : Option am_V) = some (.inl (M 2 7 - ((cnt (wst g x 0).2 12 : Nat) : Int))) by rw [e0]]
          refine ok_for (σ := Unit) (fun p _ => [some (.inr (.inr (some 0))), some (.inl a), some (.inl (N : Int)), some (.inl (wst g x p).1), some (.inl (wkd (nv (m 54)) a i).2.1), some (.inl (i : Int)), some (.inl (((wst g x p).2 : Nat) : Int)), some (.inl (M 2 7 - ((cnt (wst g x p).2 12 : Nat) : Int))), some (.inl (p : Int))]) (fun p _ M' => M' = M) (M 2 4).toNat ?_ ?_ () M rfl
          · rintro p hp - M' rfl IH2
            have hc := wst_cnt (g := g) (x := x) (by rw [hg4]; omega) p (by omega)
            rw [hg4] at hc
            have hl := wst_lt (g := g) (x := x) p
            have hk : 0 ≤ M' 3 p ∧ M' 3 p ≤ 3 := vwK (p := p) h2 (by omega)
            have hkg : g (8 + p) = M' 3 p := by rw [← h1, nvK (by omega) (by omega)]
            refine u_60_61 ?_
            rw [am_s_id (z := M' 2 4) (by omega) (by omega), am_s_id (z := (p : Int)) (by omega) (by omega), am_s_id (z := M' 2 7 - ((cnt (wst g x p).2 12 : Nat) : Int)) (by omega) (by omega), Int.toNat_natCast, Int.toNat_natCast, am_s_id (z := M' 3 p) (by omega) (by omega)]
            refine ⟨fun q => by omega, fun _ => ⟨fun q => ?_, fun q => ⟨by omega, fun q2 => ⟨fun q3 => ?_, fun q3 => ?_⟩, fun q2 => ?_⟩⟩⟩
            · exact hexit p 0 0 (by omega) (wst_full (by rw [hg4]; omega) _ (by omega))
            · have e : wst g x (p + 1) = (1103515245 * (wst g x p).1 + 12345, (wst g x p).2) := by
                rw [wst_s, if_neg (by rw [hkg, hg4]; omega), if_neg q3]
              have := IH2 () M' rfl
              rw [e] at this
              exact this
            · have e : wst g x (p + 1) = (1103515245 * (wst g x p).1 + 12345, (wst g x p).2 + 2 ^ p) := by
                rw [wst_s, if_neg (by rw [hkg, hg4]; omega), if_pos q3]
              have := IH2 () M' rfl
              rw [e] at this
              rw [bx_or2 hl (by omega), show M' 2 7 - ((cnt (wst g x p).2 12 : Nat) : Int) + (-1) = M' 2 7 - ((cnt ((wst g x p).2 + 2 ^ p) 12 : Nat) : Int) by rw [cnt_add hl, if_pos (show p < 12 by omega)]; omega]
              exact this
            · have e : wst g x (p + 1) = wst g x p := by rw [wst_s, if_pos (Or.inl (by rw [hkg]; exact q2))]
              have := IH2 () M' rfl
              rw [e] at this
              exact this
          · rintro - M' rfl
            refine u_60_61 ?_
            rw [am_s_id (z := M' 2 4) (by omega) (by omega), am_s_id (z := (((M' 2 4).toNat : Nat) : Int)) (by omega) (by omega), Int.toNat_natCast]
            refine ⟨fun _ => hexit _ 0 0 (by omega) rfl, fun q => by omega⟩
        · rintro - M ⟨h1, h2, h3, h4⟩
          refine u_60_40 ?_
          rw [hn]
          exact ⟨fun _ => ⟨rfl, ⟨h1, h2⟩, h4⟩, fun q => by omega⟩
      · rintro m1 ⟨⟨q1, q2⟩, q3⟩
        have e54 : m1 54 = m 54 := q3 54 (by omega)
        refine u_202_0 ?_
        rw [hn, e54, es]
        refine ⟨fun _ => ⟨fun _ => ?_, fun q => absurd c2 q⟩, fun q => by omega⟩
        have e54' : (mu m1 53 0 0) 54 = m 54 := by rw [mu54, e54]
        refine ok_for (σ := Unit) (fun i _ => [some (.inr (.inr (some 53))), some (.inl a), some (.inl (N : Int)), some (.inl (wkd (nv (m 54)) a i).1), some (.inl (wkd (nv (m 54)) a i).2.1), some (.inl (i : Int)), none, none]) (fun i _ M => nv (M 54) = (wkd (nv (m 54)) a i).2.2 ∧ WFG (M 54) ∧ SLT (M 54) ∧ M 54 1 = m 54 1 + (i : Int) ∧ ∀ x k, ¬ (x = 54 ∧ k < 56) → M x k = (mu m1 53 0 0) x k) N ?_ ?_ () (mu m1 53 0 0) ⟨by rw [e54']; rfl, by rw [e54']; exact hw, by rw [e54']; exact hI.1.2.2, by rw [e54']; omega, fun _ _ _ => rfl⟩
        · rintro i hi - M ⟨h1, h2, hs, h3, h4⟩ IH
          refine u_202_45 ?_
          rw [hn, am_s_id (z := (i : Int)) (by omega) (by omega)]
          refine ⟨fun q => by omega, fun _ => ?_⟩
          have hg0 : (wkd (nv (m 54)) a i).2.2 0 = M 54 0 := by rw [← h1, nv_lo (by decide)]
          have hg4 : (wkd (nv (m 54)) a i).2.2 4 = M 54 4 := by rw [← h1, nv_lo (by decide)]
          have hN := h2.1
          have hh := h2.2.2.2.2.2.2.2.1
          generalize hG : (wkd (nv (m 54)) a i).2.2 = g at *
          generalize hX : (wkd (nv (m 54)) a i).1 = x at *
          refine ok_for (σ := Unit) (fun p _ => [some (.inr (.inr (some 53))), some (.inl a), some (.inl (N : Int)), some (.inl (wst g x p).1), some (.inl (wkd (nv (m 54)) a i).2.1), some (.inl (i : Int)), some (.inl (((wst g x p).2 : Nat) : Int)), some (.inl (p : Int))]) (fun p _ M' => M' = M) (M 54 0).toNat ?_ ?_ () M rfl
          · rintro p hp - M' rfl IH2
            have hl := wst_lt (g := g) (x := x) p
            have hpw : 2 ^ p ≤ 2 ^ 12 := Nat.pow_le_pow_right (by decide) (by omega)
            have hk := h2.2.1 p (by omega)
            have hkg : g (8 + p) = M' 54 (8 + p) := by rw [← h1, nv_pl (by omega) (by omega) (by omega)]
            have hcl := cnt_le (wst g x p).2 12
            refine u_202_57 ?_
            rw [am_s_id (z := M' 54 0) (by omega) (by omega), am_s_id (z := (p : Int)) (by omega) (by omega), am_s_id (z := 8 + (p : Int)) (by omega) (by omega), show (8 + (p : Int)).toNat = 8 + p by omega, am_s_id (z := M' 54 (8 + p)) (by omega) (by omega), am_s_id (z := (((wst g x p).2 : Nat) : Int)) (by omega) (by omega), Int.toNat_natCast, am_s_id (z := ((cnt (wst g x p).2 12 : Nat) : Int)) (by omega) (by omega), am_s_id (z := M' 54 4) (by omega) (by omega)]
            refine ⟨fun q => by omega, fun _ => ⟨by omega, fun q => ?_, fun q => ⟨by omega, fun q2 y hy => ?_, fun q2 => ?_⟩⟩⟩
            · have e : wst g x (p + 1) = wst g x p := by rw [wst_s, if_pos (Or.inl (by rw [hkg]; exact q))]
              have := IH2 () M' rfl
              rw [e] at this
              exact this
            · have e : wst g x (p + 1) = (1103515245 * (wst g x p).1 + 12345, if am_s (am_rem (am_ushr (1103515245 * (wst g x p).1 + 12345) 16) 2) = 1 then (wst g x p).2 + 2 ^ p else (wst g x p).2) := by
                rw [wst_s, if_neg (by rw [hkg, hg4]; omega)]
              have := IH2 () M' rfl
              rw [e] at this
              rw [hy, ite_n]
              by_cases h : am_s (am_rem (am_ushr (1103515245 * (wst g x p).1 + 12345) 16) 2) = 1
              · rw [if_pos h, bx_or2 hl (by omega)]
                rw [if_pos h] at this
                exact this
              · rw [if_neg h, bx_or0 hl (by omega)]
                rw [if_neg h] at this
                exact this
            · have e : wst g x (p + 1) = wst g x p := by rw [wst_s, if_pos (Or.inr (by rw [hg4]; exact q2))]
              have := IH2 () M' rfl
              rw [e] at this
              exact this
          · rintro - M' rfl
            have hl := wst_lt (g := g) (x := x) (M' 54 0).toNat
            have hpw : 2 ^ (M' 54 0).toNat ≤ 2 ^ 12 := Nat.pow_le_pow_right (by decide) (by omega)
            refine u_202_57 ?_
            rw [am_s_id (z := M' 54 0) (by omega) (by omega), am_s_id (z := (((M' 54 0).toNat : Nat) : Int)) (by omega) (by omega), Int.toNat_natCast]
            refine ⟨fun _ => ⟨⟨h2, by omega, by omega⟩, ?_⟩, fun q => by omega⟩
            have ew : wkd (nv (m 54)) a (i + 1) = ((wst g x (M' 54 0).toNat).1, (wkd (nv (m 54)) a i).2.1 + dyn (wst g x (M' 54 0).toNat).2 g, dy (wst g x (M' 54 0).toNat).2 g) := by rw [wkd_s, hG, hX, hg0]
            have := IH () (gw M' (wst g x (M' 54 0).toNat).2) ⟨by rw [nv_gw h2, h1, ew], WFG_gw h2 (by omega), SLT_gw h2 hs, by rw [gw_1, h3]; omega, fun y k hy => by rw [gw_fr h2.1.2 hy, h4 y k hy]⟩
            rw [ew] at this
            rw [h1]
            exact this
        · rintro - M ⟨h1, h2, hs, h3, h4⟩
          refine u_202_45 ?_
          rw [hn]
          refine ⟨fun _ => ⟨rfl, ?_⟩, fun q => by omega⟩
          have e2 : vw M 2 = vw m1 2 := vw_same fun y k y1 y2 => by rw [h4 y k (by omega), mu_r (by omega)]
          refine Inv_sh hI ⟨h2, by omega, hs⟩ ?_ fun y k hc y1 y2 => ?_
          · rw [e2, q1, h1]
            exact ⟨q2, rfl⟩
          · unfold core at hc
            rw [h4 y k y2, mu_o (by omega), q3 y (by omega)]
    · refine PK_2 (h1 := 2) (h2 := 3) (v := .inl (-5)) (R := fun m1 => m = m1) ?_ ?_ (by decide) (by decide)
      · refine u_60_0 ?_
        rw [hn, ed, es]
        exact ⟨fun q => by omega, fun _ => ⟨fun _ => ⟨fun q => absurd q c2, fun _ => ⟨rfl, rfl⟩⟩, fun q => by omega⟩⟩
      · rintro _ rfl
        refine u_202_0 ?_
        rw [hn, es]
        exact ⟨fun _ => ⟨fun q => absurd q c2, fun _ => ⟨rfl, Inv_t hI⟩⟩, fun q => by omega⟩
  · refine PK_2 (h1 := 2) (h2 := 3) (v := .inl (-3)) (R := fun m1 => m = m1) ?_ ?_ (by decide) (by decide)
    · refine u_60_0 ?_
      rw [hn]
      exact ⟨fun _ => ⟨rfl, rfl⟩, fun _ => ⟨fun _ => by omega, fun _ => ⟨rfl, rfl⟩⟩⟩
    · rintro _ rfl
      refine u_202_0 ?_
      rw [hn]
      exact ⟨fun q => by omega, fun _ => ⟨rfl, Inv_t hI⟩⟩
