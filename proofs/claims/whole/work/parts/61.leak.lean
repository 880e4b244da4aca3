/-- how far a leak runs: over barrels alone -/
def lkn (g : Nat → Int) (p : Nat) : Nat → Nat
  | 0 => 0
  | i + 1 => if lkn g p i = i ∧ ((p + i : Nat) : Int) < g 0 ∧ g (8 + (p + i)) ≠ 3 then i + 1 else lkn g p i
theorem lkn_s {g : Nat → Int} {p i : Nat} : lkn g p (i + 1) = if lkn g p i = i ∧ ((p + i : Nat) : Int) < g 0 ∧ g (8 + (p + i)) ≠ 3 then i + 1 else lkn g p i := rfl
theorem lkn_le {g : Nat → Int} {p : Nat} : ∀ n, lkn g p n ≤ n := by
  intro n
  induction n with
  | zero => exact Nat.le_refl _
  | succ n ih =>
    rw [lkn_s]
    split <;> omega
theorem lkn_stop {g : Nat → Int} {p i : Nat} (h : lkn g p i = i) (hr : ¬ (((p + i : Nat) : Int) < g 0 ∧ g (8 + (p + i)) ≠ 3)) : ∀ n, i ≤ n → lkn g p n = i := by
  intro n
  induction n with
  | zero =>
    intro hn
    have : i = 0 := by omega
    subst this
    exact h
  | succ n ih =>
    intro hn
    by_cases hi : i = n + 1
    · rw [← hi]; exact h
    · have h1 := ih (by omega)
      rw [lkn_s, h1]
      split
      · rename_i hc
        rw [hc.1] at hr
        exact absurd hc.2 hr
      · rfl
/-- the view behind t places of a leak from p on -/
def lkg (g : Nat → Int) (p t : Nat) : Nat → Int := fun k => if 20 + p ≤ k ∧ k < 20 + p + t ∧ g (k - 12) = 0 ∧ g k < 9 then g k + 1 else g k
theorem lkg_0 {g : Nat → Int} {p : Nat} : lkg g p 0 = g := by
  funext k
  unfold lkg
  rw [if_neg (by omega)]
theorem lkg_n {g : Nat → Int} {p t : Nat} (h : ¬ (g (8 + (p + t)) = 0 ∧ g (20 + (p + t)) < 9)) : lkg g p (t + 1) = lkg g p t := by
  funext k
  unfold lkg
  by_cases hk : k = 20 + (p + t)
  · subst hk
    rw [show 20 + (p + t) - 12 = 8 + (p + t) by omega, if_neg (fun q => h q.2.2), if_neg (by omega)]
  · by_cases h1 : 20 + p ≤ k ∧ k < 20 + p + t ∧ g (k - 12) = 0 ∧ g k < 9
    · rw [if_pos h1, if_pos ⟨h1.1, by omega, h1.2.2⟩]
    · rw [if_neg h1, if_neg (fun q => h1 ⟨q.1, by omega, q.2.2⟩)]
theorem lkg_y {g : Nat → Int} {p t k : Nat} (h : g (8 + (p + t)) = 0 ∧ g (20 + (p + t)) < 9) : lkg g p (t + 1) k = if k = 20 + (p + t) then g k + 1 else lkg g p t k := by
  unfold lkg
  by_cases hk : k = 20 + (p + t)
  · subst hk
    rw [if_pos rfl, show 20 + (p + t) - 12 = 8 + (p + t) by omega, if_pos ⟨by omega, by omega, h⟩]
  · rw [if_neg hk]
    by_cases h1 : 20 + p ≤ k ∧ k < 20 + p + t ∧ g (k - 12) = 0 ∧ g k < 9
    · rw [if_pos h1, if_pos ⟨h1.1, by omega, h1.2.2⟩]
    · rw [if_neg h1, if_neg (fun q => h1 ⟨q.1, by omega, q.2.2⟩)]
theorem lkg_o {g : Nat → Int} {p t k : Nat} (h : k < 20 + p ∨ 20 + p + t ≤ k) : lkg g p t k = g k := by
  unfold lkg
  rw [if_neg (by omega)]
def lkc (g : Nat → Int) (p : Nat) (t : Nat) : Int := sm (fun i => if g (8 + (p + i)) = 0 ∧ g (20 + (p + i)) < 9 then 1 else 0) t
theorem lkc_s {g : Nat → Int} {p t : Nat} : lkc g p (t + 1) = lkc g p t + if g (8 + (p + t)) = 0 ∧ g (20 + (p + t)) < 9 then 1 else 0 := rfl
theorem lkg_S {g : Nat → Int} {p t q : Nat} (hq : q < 12) : lkg g p t (20 + q) = if p ≤ q ∧ q < p + t ∧ g (8 + q) = 0 ∧ g (20 + q) < 9 then g (20 + q) + 1 else g (20 + q) := by
  unfold lkg
  rw [show 20 + q - 12 = 8 + q by omega]
  by_cases h : p ≤ q ∧ q < p + t ∧ g (8 + q) = 0 ∧ g (20 + q) < 9
  · rw [if_pos h, if_pos ⟨by omega, by omega, h.2.2⟩]
  · rw [if_neg h, if_neg (fun q => h ⟨by omega, by omega, q.2.2⟩)]
theorem WFG_lkg {g : Nat → Int} {p t : Nat} (h : WFG g) (hp : p + t ≤ 12) : WFG (lkg g p t) := by
  obtain ⟨h0, h1, h2, h3, h4, h5⟩ := h
  refine ⟨by rw [lkg_o (by omega)]; exact h0, fun q hq => by rw [lkg_o (by omega)]; exact h1 q hq, fun q hq => ?_, fun q hq => by rw [lkg_o (by omega)]; exact h3 q hq, fun q hq => by rw [lkg_o (by omega)]; exact h4 q hq, ?_⟩
  · rw [lkg_S hq]
    have := h2 q hq
    split <;> omega
  · rw [lkg_o (k := 2) (by omega), lkg_o (k := 3) (by omega), lkg_o (k := 4) (by omega), lkg_o (k := 5) (by omega), lkg_o (k := 6) (by omega), lkg_o (k := 7) (by omega), lkg_o (k := 1) (by omega)]
    exact h5
theorem SLT_lkg {g : Nat → Int} {p t : Nat} (h : SLT g) (hp : p + t ≤ 12) : SLT (lkg g p t) := by
  intro q hq hN hk
  rw [lkg_o (by omega)] at hN hk
  have := h q hq hN hk
  rw [lkg_S hq]
  split <;> omega
theorem nv_lkg {g g' : Nat → Int} {p t : Nat} (h : nv g = nv g') (hp : p + t ≤ 12) : nv (lkg g p t) = nv (lkg g' p t) := by
  have h0 : ∀ k, k < 8 → g k = g' k := fun k hk => by
    have := congrFun h k
    rw [nv_lo hk, nv_lo hk] at this
    exact this
  have hc : ∀ c q : Nat, c = 8 ∨ c = 20 ∨ c = 32 ∨ c = 44 → q < 12 → (q : Int) < g 0 → g (c + q) = g' (c + q) := fun c q hc hq hN => by
    have := congrFun h (c + q)
    rw [nv_pl hc hq hN, nv_pl hc hq (by rw [← h0 0 (by decide)]; exact hN)] at this
    exact this
  refine nv_eq (fun k hk => by rw [lkg_o (by omega), lkg_o (by omega)]; exact h0 k hk) fun q hq hN => ?_
  rw [lkg_o (by omega)] at hN
  rw [lkg_o (k := 8 + q) (by omega), lkg_o (k := 8 + q) (by omega), lkg_o (k := 32 + q) (by omega), lkg_o (k := 32 + q) (by omega), lkg_o (k := 44 + q) (by omega), lkg_o (k := 44 + q) (by omega), lkg_S hq, lkg_S hq, hc 8 q (by omega) hq hN, hc 20 q (by omega) hq hN]
  exact ⟨rfl, rfl, hc 32 q (by omega) hq hN, hc 44 q (by omega) hq hN⟩
theorem P_leak {m : am_M} {p n : Int} (hp : am_s p = p) (hn : am_s n = n) (hI : Inv m) : PK 65 5 205 5 [.inl p, .inl n] m := by
  have hw := Inv_wf hI
  have hN := hw.1
  have hv := Inv_vw hI
  have eN := Inv_N hI
  by_cases c1 : 0 ≤ p ∧ p < m 54 0
  · by_cases c2 : 1 ≤ n ∧ n ≤ 12
    · obtain ⟨P, rfl⟩ : ∃ P : Nat, p = (P : Int) := ⟨p.toNat, by omega⟩
      obtain ⟨N, rfl⟩ : ∃ N : Nat, n = (N : Int) := ⟨n.toNat, by omega⟩
      have es : am_s ((P : Int) + (N : Int)) = (P : Int) + (N : Int) := am_s_id (by omega) (by omega)
      have hle := lkn_le (g := m 54) (p := P) N
      have hP : ∀ i, lkn (m 54) P i = i → P + i ≤ 12 := by
        intro i
        cases i with
        | zero => intro _; omega
        | succ i =>
          intro h
          rw [lkn_s] at h
          split at h
          · rename_i hc; omega
          · have := lkn_le (g := m 54) (p := P) i
            omega
      have hT : P + lkn (m 54) P N ≤ 12 := by
        have : ∀ n, P + lkn (m 54) P n ≤ 12 := by
          intro n
          induction n with
          | zero => show P + 0 ≤ 12; omega
          | succ n ih =>
            rw [lkn_s]
            split
            · rename_i hc; omega
            · exact ih
        exact this N
      refine PK_2 (h1 := 1) (h2 := 4) (v := .inl (lkc (m 54) P (lkn (m 54) P N))) (R := fun m1 => vw m1 2 = lkg (vw m 2) P (lkn (m 54) P N) ∧ ∀ x, x ≠ 4 → m1 x = m x) ?_ ?_ (by decide) (by decide)
      · refine u_65_0 ?_
        rw [hp, hn, eN]
        refine ⟨hv, fun _ => ⟨fun q => by omega, fun _ => ⟨fun _ => ?_, fun q => by omega⟩⟩, fun q => absurd c1 q⟩
        have hpos : (some (.inl (P : Int)) : Option am_V) = some (.inl ((P : Int) + ((0 : Nat) : Int))) := by
          congr 2
        have key : ok 1 65 33 [some (.inr (.inr (some 0))), some (.inl (P : Int)), some (.inl (N : Int)), some (.inl (lkc (m 54) P 0)), some (.inl ((P : Int) + ((0 : Nat) : Int)))] [] m (fun r m1 => r = [.inl (lkc (m 54) P (lkn (m 54) P N))] ∧ vw m1 2 = lkg (vw m 2) P (lkn (m 54) P N) ∧ ∀ x, x ≠ 4 → m1 x = m x) := by
          refine ok_for (σ := Unit) (fun i _ => [some (.inr (.inr (some 0))), some (.inl (P : Int)), some (.inl (N : Int)), some (.inl (lkc (m 54) P i)), some (.inl ((P : Int) + (i : Int)))]) (fun i _ M => lkn (m 54) P i = i ∧ vw M 2 = lkg (vw m 2) P i ∧ ∀ x, x ≠ 4 → M x = m x) N ?_ ?_ () m ⟨rfl, lkg_0.symm, fun _ _ => rfl⟩
          · rintro i hi - M ⟨h1, h2, h3⟩ IH
            have h12 := hP i h1
            have eq : am_s ((P : Int) + (i : Int)) = (P : Int) + (i : Int) := am_s_id (by omega) (by omega)
            have eq2 : ((P : Int) + (i : Int)).toNat = P + i := by omega
            have e24 : M 2 4 = m 54 0 := by rw [h3 2 (by decide), eN]
            refine u_65_33 ?_
            rw [es, eq, eq2, e24, h3 3 (by decide)]
            have hstop : ¬ (((P + i : Nat) : Int) < m 54 0 ∧ m 54 (8 + (P + i)) ≠ 3) → lkc (m 54) P i = lkc (m 54) P (lkn (m 54) P N) ∧ vw M 2 = lkg (vw m 2) P (lkn (m 54) P N) := by
              intro h
              rw [lkn_stop h1 h N (by omega)]
              exact ⟨rfl, h2⟩
            refine ⟨fun q => by omega, fun _ => ⟨by rw [h2]; exact WFG_lkg hv h12, fun q => ?_, fun q => ⟨by omega, fun q2 => ?_, fun q2 => ?_⟩⟩⟩
            · obtain ⟨s1, s2⟩ := hstop (by omega)
              rw [s1]
              exact ⟨rfl, s2, h3⟩
            · obtain ⟨k1, -, -, -⟩ := Inv_K hI (p := P + i) (by omega)
              have hk := hw.2.1 (P + i) (by omega)
              rw [k1, am_s_id (by omega) (by omega)] at q2
              obtain ⟨s1, s2⟩ := hstop (fun h => h.2 q2)
              rw [s1]
              exact ⟨rfl, s2, h3⟩
            · obtain ⟨k1, k2, -, -⟩ := Inv_K hI (p := P + i) (by omega)
              have hk := hw.2.1 (P + i) (by omega)
              have hs := hw.2.2.1 (P + i) (by omega)
              rw [k1, am_s_id (by omega) (by omega)] at q2 ⊢
              have hgo : lkn (m 54) P (i + 1) = i + 1 := by rw [lkn_s, if_pos ⟨h1, by omega, q2⟩]
              have e4 : M 4 (P + i) = m 54 (20 + (P + i)) := by
                have := congrFun h2 (20 + (P + i))
                rw [vw_S (by omega), lkg_o (by omega), vw_S (by omega)] at this
                rw [this]; exact k2
              have v1 : vw m 2 (8 + (P + i)) = m 54 (8 + (P + i)) := by rw [vw_K (by omega)]; exact k1
              have v2 : vw m 2 (20 + (P + i)) = m 54 (20 + (P + i)) := by rw [vw_S (by omega)]; exact k2
              rw [e4, am_s_id (z := m 54 (20 + (P + i))) (by omega) (by omega)]
              have skip : ¬ (m 54 (8 + (P + i)) = 0 ∧ m 54 (20 + (P + i)) < 9) → ok 1 65 33 [some (.inr (.inr (some 0))), some (.inl (P : Int)), some (.inl (N : Int)), some (.inl (lkc (m 54) P i)), some (.inl ((P : Int) + (i : Int) + 1))] [] M (fun r m1 => r = [.inl (lkc (m 54) P (lkn (m 54) P N))] ∧ vw m1 2 = lkg (vw m 2) P (lkn (m 54) P N) ∧ ∀ x, x ≠ 4 → m1 x = m x) := by
                intro h
                have := IH () M ⟨hgo, by rw [h2, lkg_n (by rw [v1, v2]; exact h)], h3⟩
                rw [lkc_s, if_neg h, Int.add_zero] at this
                rw [Int.add_assoc]
                exact this
              refine ⟨fun q3 => skip (fun h => q3 h.1), fun q3 => ⟨fun q4 => skip (by omega), fun q4 => ?_⟩⟩
              have h : m 54 (8 + (P + i)) = 0 ∧ m 54 (20 + (P + i)) < 9 := ⟨q3, by omega⟩
              have := IH () (mu M 4 (P + i) (m 54 (20 + (P + i)) + 1)) ⟨hgo, ?_, fun x hx => by rw [mu_rf hx, h3 x hx]⟩
              · rw [lkc_s, if_pos h] at this
                rw [Int.add_assoc]
                exact this
              · funext k
                rw [lkg_y (by rw [v1, v2]; exact h)]
                rcases vw_cases k with hc | ⟨x, hx, rfl⟩ | ⟨x, hx, rfl⟩ | ⟨x, hx, rfl⟩ | ⟨x, rfl⟩
                · rw [if_neg (by omega), ← h2]
                  unfold vw
                  rw [if_pos hc, if_pos hc, mu_r (by decide)]
                · rw [if_neg (by omega), ← h2, vw_K hx, vw_K hx, mu_r (by decide)]
                · rw [vw_S hx]
                  show mu M 4 (P + i) _ 4 x = _
                  rw [mu_if]
                  by_cases hxp : x = P + i
                  · rw [if_pos hxp, if_pos (by omega), hxp, v2]
                  · rw [if_neg hxp, if_neg (by omega), ← h2, vw_S hx]
                · rw [if_neg (by omega), ← h2, vw_R hx, vw_R hx, mu_r (by decide)]
                · rw [if_neg (by omega), ← h2, vw_I, vw_I, mu_r (by decide)]
          · rintro - M ⟨h1, h2, h3⟩
            refine u_65_33 ?_
            rw [es]
            rw [h1]
            exact ⟨fun _ => ⟨rfl, h2, h3⟩, fun q => by omega⟩
        rw [← hpos] at key
        exact key
      · rintro m1 ⟨q1, q2⟩
        have e54 : (mu m1 53 0 0) 54 = m 54 := by rw [mu54, q2 54 (by decide)]
        refine u_205_0 ?_
        rw [hp, hn, e54]
        refine ⟨hw, fun _ => ⟨fun _ => ?_, fun q => absurd c2 q⟩, fun q => absurd c1 q⟩
        have hpos : (some (.inl (P : Int)) : Option am_V) = some (.inl ((P : Int) + ((0 : Nat) : Int))) := by
          congr 2
        have key : ok 4 205 37 [some (.inr (.inr (some 53))), some (.inl (P : Int)), some (.inl (N : Int)), some (.inl (lkc (m 54) P 0)), some (.inl ((P : Int) + ((0 : Nat) : Int)))] [] (mu m1 53 0 0) (fun r m2 => r = [.inl (lkc (m 54) P (lkn (m 54) P N))] ∧ Inv m2) := by
          have hfin : ∀ M : am_M, M 54 = lkg (m 54) P (lkn (m 54) P N) → (∀ x, x ≠ 54 → M x = (mu m1 53 0 0) x) → Inv M := by
            intro M h2 h3
            have e2 : vw M 2 = vw m1 2 := vw_same fun y k y1 y2 => by rw [h3 y (by omega), mu_r (by omega)]
            refine Inv_sh hI ?_ ?_ fun y k hc y1 y2 => ?_
            · rw [h2]
              exact ⟨WFG_lkg hw hT, by rw [lkg_o (by omega)]; exact hI.1.2.1, SLT_lkg hI.1.2.2 hT⟩
            · rw [e2, q1, h2]
              exact ⟨WFG_lkg hv hT, nv_lkg (Inv_nv hI) hT⟩
            · unfold core at hc
              by_cases h54 : y = 54
              · subst h54
                rw [h2, lkg_o (by omega)]
              · rw [h3 y h54, mu_o (by omega), q2 y (by omega)]
          refine ok_for (σ := Unit) (fun i _ => [some (.inr (.inr (some 53))), some (.inl (P : Int)), some (.inl (N : Int)), some (.inl (lkc (m 54) P i)), some (.inl ((P : Int) + (i : Int)))]) (fun i _ M => lkn (m 54) P i = i ∧ M 54 = lkg (m 54) P i ∧ ∀ x, x ≠ 54 → M x = (mu m1 53 0 0) x) N ?_ ?_ () _ ⟨rfl, by rw [e54, lkg_0], fun _ _ => rfl⟩
          · rintro i hi - M ⟨h1, h2, h3⟩ IH
            have h12 := hP i h1
            have eq : am_s ((P : Int) + (i : Int)) = (P : Int) + (i : Int) := am_s_id (by omega) (by omega)
            have eq2 : ((P : Int) + (i : Int)).toNat = P + i := by omega
            have eq3 : am_s (20 + ((P : Int) + (i : Int))) = 20 + ((P : Int) + (i : Int)) := am_s_id (by omega) (by omega)
            have eq4 : (20 + ((P : Int) + (i : Int))).toNat = 20 + (P + i) := by omega
            have e0 : M 54 0 = m 54 0 := by rw [h2, lkg_o (by omega)]
            have e20 : M 54 (20 + (P + i)) = m 54 (20 + (P + i)) := by rw [h2, lkg_o (by omega)]
            refine u_205_37 ?_
            rw [es, eq, eq2, eq3, eq4, e0, e20, show am_s 0 = 0 from rfl]
            have hstop : ¬ (((P + i : Nat) : Int) < m 54 0 ∧ m 54 (8 + (P + i)) ≠ 3) → lkc (m 54) P i = lkc (m 54) P (lkn (m 54) P N) ∧ M 54 = lkg (m 54) P (lkn (m 54) P N) := by
              intro h
              rw [lkn_stop h1 h N (by omega)]
              exact ⟨rfl, h2⟩
            have e8 : ((P : Int) + (i : Int) < m 54 0) → nv (M 54) (8 + (P + i)) = m 54 (8 + (P + i)) := by
              intro h
              rw [nv_pl (by omega) (by omega) (by rw [e0]; omega), h2, lkg_o (by omega)]
            refine ⟨fun q => by omega, fun _ => ⟨by rw [h2]; exact WFG_lkg hw h12, fun q => ?_, fun q => ?_⟩⟩
            · obtain ⟨s1, s2⟩ := hstop (fun h => q ⟨by omega, by rw [e8 (by omega)]; exact h.2⟩)
              rw [s1]
              exact ⟨rfl, hfin M s2 h3⟩
            · have hs := hw.2.2.1 (P + i) (by omega)
              have q2 : m 54 (8 + (P + i)) ≠ 3 := by
                have := q.2
                rw [e8 (by omega)] at this
                exact this
              rw [e8 (by omega), am_s_id (z := m 54 (20 + (P + i))) (by omega) (by omega)]
              have hgo : lkn (m 54) P (i + 1) = i + 1 := by rw [lkn_s, if_pos ⟨h1, by omega, q2⟩]
              have skip : ¬ (m 54 (8 + (P + i)) = 0 ∧ m 54 (20 + (P + i)) < 9) → ok 4 205 37 [some (.inr (.inr (some 53))), some (.inl (P : Int)), some (.inl (N : Int)), some (.inl (lkc (m 54) P i)), some (.inl ((P : Int) + (i : Int) + 1))] [] M (fun r m2 => r = [.inl (lkc (m 54) P (lkn (m 54) P N))] ∧ Inv m2) := by
                intro h
                have := IH () M ⟨hgo, by rw [h2, lkg_n h], h3⟩
                rw [lkc_s, if_neg h, Int.add_zero] at this
                rw [Int.add_assoc]
                exact this
              refine ⟨fun q3 => skip (fun h => q3 ⟨q.1, h.1⟩), fun q3 => ⟨by omega, fun q4 => ?_, fun q4 => skip (by omega)⟩⟩
              have h : m 54 (8 + (P + i)) = 0 ∧ m 54 (20 + (P + i)) < 9 := ⟨q3.2, by omega⟩
              have := IH () (mu M 54 (20 + (P + i)) (m 54 (20 + (P + i)) + 1)) ⟨hgo, ?_, fun x hx => by rw [mu_rf hx, h3 x hx]⟩
              · rw [lkc_s, if_pos h] at this
                rw [Int.add_assoc]
                exact this
              · funext k
                rw [lkg_y h, mu_if, h2]
                by_cases hk : k = 20 + (P + i)
                · rw [if_pos hk, if_pos hk, hk]
                · rw [if_neg hk, if_neg hk]
          · rintro - M ⟨h1, h2, h3⟩
            refine u_205_37 ?_
            rw [es]
            rw [h1] at hfin ⊢
            exact ⟨fun _ => ⟨rfl, hfin M h2 h3⟩, fun q => by omega⟩
        rw [← hpos] at key
        exact key
    · refine PK_2 (h1 := 1) (h2 := 4) (v := .inl (-3)) (R := fun m1 => m = m1) ?_ ?_ (by decide) (by decide)
      · refine u_65_0 ?_
        rw [hp, hn, eN]
        exact ⟨hv, fun _ => ⟨fun _ => ⟨rfl, rfl⟩, fun _ => ⟨fun _ => by omega, fun _ => ⟨rfl, rfl⟩⟩⟩, fun q => absurd c1 q⟩
      · rintro _ rfl
        refine u_205_0 ?_
        rw [hp, hn, mu54]
        exact ⟨hw, fun _ => ⟨fun q => absurd q c2, fun _ => ⟨rfl, Inv_t hI⟩⟩, fun q => absurd c1 q⟩
  · refine PK_2 (h1 := 1) (h2 := 4) (v := .inl (-2)) (R := fun m1 => m = m1) ?_ ?_ (by decide) (by decide)
    · refine u_65_0 ?_
      rw [hp, hn, eN]
      exact ⟨hv, fun q => absurd q c1, fun _ => ⟨rfl, rfl⟩⟩
    · rintro _ rfl
      refine u_205_0 ?_
      rw [hp, hn, mu54]
      exact ⟨hw, fun q => absurd q c1, fun _ => ⟨rfl, Inv_t hI⟩⟩
