theorem as_iten {c : Prop} [Decidable c] : am_s (if ¬ c then 0 else 1) = 0 ↔ ¬ c := by
  by_cases hcc : c
  · rw [if_neg (not_not_intro hcc)]; simp only [hcc, not_true_eq_false, iff_false]; decide
  · rw [if_pos hcc]; simp only [hcc, not_false_eq_true, iff_true]; decide
/-- the model's state behind the first i places of a day on which B are turned -/
def gsm (m : am_M) (B bad i : Nat) : am_M := fun a j => if a = 54 then (if 44 ≤ j ∧ j < 44 + i then dI (m 54 (8 + (j - 44))) (m 54 (44 + (j - 44))) (nb bad (j - 44)) (B.testBit (j - 44)) else if 32 ≤ j ∧ j < 32 + i then dR (m 54 (8 + (j - 32))) (m 54 (20 + (j - 32))) (m 54 (32 + (j - 32))) (B.testBit (j - 32)) else if 8 ≤ j ∧ j < 8 + i then dK (m 54 (8 + (j - 8))) (m 54 (44 + (j - 8))) (m 54 5) (nb bad (j - 8)) (B.testBit (j - 8)) else m a j) else m a j
def gsn (m : am_M) (B bad : Nat) : Nat → Int
  | 0 => 0
  | i + 1 => gsn m B bad i + (if m 54 (8 + i) = 0 ∧ m 54 5 < dI (m 54 (8 + i)) (m 54 (44 + i)) (nb bad i) (B.testBit i) then 1 else 0)
theorem gsm_0 {m : am_M} {B bad : Nat} : gsm m B bad 0 = m := by
  funext a j
  unfold gsm
  by_cases ha : a = 54
  · subst ha
    rw [if_pos rfl, if_neg (by omega), if_neg (by omega), if_neg (by omega)]
  · rw [if_neg ha]
theorem gsm_r {m : am_M} {B bad i j : Nat} (h1 : ¬ (44 ≤ j ∧ j < 44 + i)) (h2 : ¬ (32 ≤ j ∧ j < 32 + i)) (h3 : ¬ (8 ≤ j ∧ j < 8 + i)) : gsm m B bad i 54 j = m 54 j := by
  unfold gsm
  rw [if_pos rfl, if_neg h1, if_neg h2, if_neg h3]
theorem gsm_st {m : am_M} {B bad i : Nat} (hi : i < 12) : mu (mu (mu (gsm m B bad i) 54 (44 + i) (dI (m 54 (8 + i)) (m 54 (44 + i)) (nb bad i) (B.testBit i))) 54 (32 + i) (dR (m 54 (8 + i)) (m 54 (20 + i)) (m 54 (32 + i)) (B.testBit i))) 54 (8 + i) (dK (m 54 (8 + i)) (m 54 (44 + i)) (m 54 5) (nb bad i) (B.testBit i)) = gsm m B bad (i + 1) := by
  funext a j
  by_cases ha : a = 54
  · subst ha
    by_cases h8 : j = 8 + i
    · subst h8
      rw [mu_same]
      unfold gsm
      rw [if_pos rfl, if_neg (by omega), if_neg (by omega), if_pos (by omega), show 8 + i - 8 = i by omega]
    rw [mu_k h8]
    by_cases h32 : j = 32 + i
    · subst h32
      rw [mu_same]
      unfold gsm
      rw [if_pos rfl, if_neg (by omega), if_pos (by omega), show 32 + i - 32 = i by omega]
    rw [mu_k h32]
    by_cases h44 : j = 44 + i
    · subst h44
      rw [mu_same]
      unfold gsm
      rw [if_pos rfl, if_pos (by omega), show 44 + i - 44 = i by omega]
    rw [mu_k h44]
    unfold gsm
    rw [if_pos rfl, if_pos rfl]
    by_cases c1 : 44 ≤ j ∧ j < 44 + i
    · rw [if_pos c1, if_pos (by omega)]
    rw [if_neg c1, if_neg (show ¬ (44 ≤ j ∧ j < 44 + (i + 1)) by omega)]
    by_cases c2 : 32 ≤ j ∧ j < 32 + i
    · rw [if_pos c2, if_pos (by omega)]
    rw [if_neg c2, if_neg (show ¬ (32 ≤ j ∧ j < 32 + (i + 1)) by omega)]
    by_cases c3 : 8 ≤ j ∧ j < 8 + i
    · rw [if_pos c3, if_pos (by omega)]
    rw [if_neg c3, if_neg (show ¬ (8 ≤ j ∧ j < 8 + (i + 1)) by omega)]
  · rw [mu_r ha, mu_r ha, mu_r ha]
    unfold gsm
    rw [if_neg ha, if_neg ha]
/-- the model's cells behind a day on which B are turned -/
def gw (m : am_M) (B : Nat) : am_M := mu (gsm m B (ons (nv (m 54)) 1) (m 54 0).toNat) 54 1 (m 54 1 + 1)
/-- Model.goes -/
theorem c_195 {fx : am_X0} (m : am_M) (b : Int) (hq : WFG (m 54) ∧ 0 ≤ b ∧ b < 4096) : rn fx 2 (0, 0) 195 0 (am_ent 8 [.inr (.inr (some 53)), .inl b]) [] (st0 m) ([.inl (gsn m b.toNat (ons (nv (m 54)) 1) (m 54 0).toNat)], st0 (gw m b.toNat)) := by
  show rn fx 2 (0, 0) 195 0 [some (.inr (.inr (some 53))), some (.inl b), none, none, none, none, none, none] [] (st0 m) _
  unfold gw
  obtain ⟨hw, hb0, hb1⟩ := hq
  refine t_195_0 ⟨hw, ?_⟩
  obtain ⟨hN, hK, hSa, hR, hI, hlo, hli, hha, hle, hw⟩ := hw
  obtain ⟨B, rfl⟩ : ∃ B : Nat, b = (B : Int) := ⟨b.toNat, by omega⟩
  rw [Int.toNat_natCast]
  have e1 : am_s 1 = 1 := by decide
  rw [e1]
  have hbl : ons (nv (m 54)) 1 < 4096 := ons_lt (by rw [nv_lo (by decide)]; exact hN.2)
  generalize ons (nv (m 54)) 1 = bad at hbl ⊢
  have hfin := rn_loop (fx := fx) (d := 2) (mi := 195) (pc := 11) (cr := (0, 0)) (fun i => ([some (.inr (.inr (some 53))), some (.inl (B : Int)), some (.inl (bad : Int)), some (.inl (gsn m B bad i)), some (.inl (i : Int)), none, none, none], gsm m B bad i)) (m 54 0).toNat (fun i hi o hnext => ?_) (o := ([.inl (gsn m B bad (m 54 0).toNat)], st0 (mu (gsm m B bad (m 54 0).toNat) 54 1 (m 54 1 + 1)))) ?_
  · simp only [gsm_0] at hfin
    exact hfin
  · have hi12 : i < 12 := by omega
    have hk := hK i hi12
    have hsa := hSa i hi12
    have hri := hR i hi12
    have hid := hI i hi12
    have hstep := gsm_st (m := m) (B := B) (bad := bad) hi12
    have fin : ∀ (cv : Int) (mm : am_M), gsn m B bad (i + 1) = cv → mm = gsm m B bad (i + 1) → rn fx 2 (0, 0) 195 11 [some (.inr (.inr (some 53))), some (.inl (B : Int)), some (.inl (bad : Int)), some (.inl cv), some (.inl ((i : Int) + 1)), none, none, none] [] (st0 mm) o := by
      intro cv mm e1 e2
      rw [← e1, e2]
      exact hnext
    clear hnext
    have en : gsn m B bad (i + 1) = gsn m B bad i + (if m 54 (8 + i) = 0 ∧ m 54 5 < dI (m 54 (8 + i)) (m 54 (44 + i)) (nb bad i) (B.testBit i) then 1 else 0) := rfl
    have r0 : gsm m B bad i 54 0 = m 54 0 := gsm_r (by omega) (by omega) (by omega)
    have r5 : gsm m B bad i 54 5 = m 54 5 := gsm_r (by omega) (by omega) (by omega)
    have r8 : gsm m B bad i 54 (8 + i) = m 54 (8 + i) := gsm_r (by omega) (by omega) (by omega)
    have r20 : gsm m B bad i 54 (20 + i) = m 54 (20 + i) := gsm_r (by omega) (by omega) (by omega)
    have r32 : gsm m B bad i 54 (32 + i) = m 54 (32 + i) := gsm_r (by omega) (by omega) (by omega)
    have r44 : gsm m B bad i 54 (44 + i) = m 54 (44 + i) := gsm_r (by omega) (by omega) (by omega)
    refine t_195_11 (by omega) ?_
    simp only [r0, r5, r8, r20, r32, r44, as_ite, Int.toNat_natCast]
    have hbr := bsd_rng bad i
    simp (disch := omega) only [am_s_id, Int.toNat_natCast]
    refine ⟨fun zq => by omega, fun _ => ⟨fun zk3 => ?_, fun zk3 => ?_⟩⟩
    · intro y1 hy1
      have hs1 : am_s y1 = 0 ↔ ¬ m 54 (8 + i) = 0 := by rw [hy1]; exact as_iten
      refine ⟨fun _ => by omega, ?_⟩
      intro y2 hy2
      have ey2 : y2 = (if m 54 (8 + i) = 0 ∧ nb bad i = true then 2 else 1) := by
        rw [hy2]
        by_cases c1 : m 54 (8 + i) = 0
        · rw [if_neg (fun q => hs1.mp q c1)]
          by_cases c2 : nb bad i = true
          · have c3 := bsd_nb.mpr c2
            rw [if_neg (by omega), if_pos ⟨c1, c2⟩]
          · have c3 : ¬ 0 < bsd bad i := fun q => c2 (bsd_nb.mp q)
            rw [if_pos (by omega), if_neg (fun q => c2 q.2)]
        · rw [if_pos (hs1.mpr c1), if_neg (fun q => c1 q.1)]
      have hy2r : 1 ≤ y2 ∧ y2 ≤ 2 := by
        rw [ey2]
        split <;> omega
      refine ⟨by omega, ?_⟩
      intro y3 hy3
      have e3 : dI (m 54 (8 + i)) (m 54 (44 + i)) (nb bad i) (B.testBit i) = y3 := by
        rw [hy3]
        unfold dI
        rw [if_neg zk3, ← ey2]
        by_cases c1 : B.testBit i = true
        · rw [if_pos c1, if_neg (not_not_intro c1)]
        · rw [if_neg c1, if_pos c1, am_s_id (by omega) (by omega)]
          split <;> omega
      have hy3r : 0 ≤ y3 ∧ y3 ≤ 99 := by
        rw [← e3]
        unfold dI
        rw [if_neg zk3]
        split
        · omega
        · split <;> omega
      rw [am_s_id (z := y3) (by omega) (by omega)]
      refine ⟨fun zs => ?_, fun zs => ?_⟩
      · have c1 : m 54 (8 + i) = 0 := Decidable.not_not.mp (fun q => zs (hs1.mpr q))
        intro y4 hy4 y5 hy5
        have e5 : dR (m 54 (8 + i)) (m 54 (20 + i)) (m 54 (32 + i)) (B.testBit i) = y5 := by
          rw [hy5, hy4]
          unfold dR
          rw [if_pos c1]
          by_cases c2 : B.testBit i = true
          · rw [if_pos c2, if_neg (not_not_intro c2), am_s_id (by omega) (by omega)]
            split <;> omega
          · rw [if_neg c2, if_pos c2, am_s_id (by omega) (by omega)]
            split <;> omega
        rw [e3, e5] at hstep
        rw [e3] at en
        refine ⟨fun zl => ?_, fun zl => ?_⟩
        · have eK : dK (m 54 (8 + i)) (m 54 (44 + i)) (m 54 5) (nb bad i) (B.testBit i) = 1 := by
            unfold dK
            rw [e3, if_pos ⟨c1, zl⟩]
          rw [eK] at hstep
          refine fin _ _ ?_ hstep
          rw [en, if_pos ⟨c1, zl⟩]
        · have eK : dK (m 54 (8 + i)) (m 54 (44 + i)) (m 54 5) (nb bad i) (B.testBit i) = m 54 (8 + i) := by
            unfold dK
            rw [e3, if_neg (fun q => zl q.2)]
          rw [eK, mu_id (k := 8 + i) (by rw [mu_k (by omega), mu_k (by omega), r8])] at hstep
          refine fin _ _ ?_ hstep
          rw [en, if_neg (fun q => zl q.2), Int.add_zero]
      · have c1 : ¬ m 54 (8 + i) = 0 := hs1.mp (Decidable.not_not.mp zs)
        have e5 : dR (m 54 (8 + i)) (m 54 (20 + i)) (m 54 (32 + i)) (B.testBit i) = m 54 (32 + i) := if_neg c1
        have eK : dK (m 54 (8 + i)) (m 54 (44 + i)) (m 54 5) (nb bad i) (B.testBit i) = m 54 (8 + i) := if_neg (fun q => c1 q.1)
        rw [e3, e5, eK, mu_id (k := 8 + i) (by rw [mu_k (by omega), mu_k (by omega), r8]), mu_id (k := 32 + i) (by rw [mu_k (by omega), r32])] at hstep
        refine fin _ _ ?_ hstep
        rw [en, if_neg (fun q => c1 q.1), Int.add_zero]
    · have c1 : m 54 (8 + i) = 3 := Decidable.not_not.mp zk3
      have e3 : dI (m 54 (8 + i)) (m 54 (44 + i)) (nb bad i) (B.testBit i) = m 54 (44 + i) := if_pos c1
      have e5 : dR (m 54 (8 + i)) (m 54 (20 + i)) (m 54 (32 + i)) (B.testBit i) = m 54 (32 + i) := if_neg (by omega)
      have eK : dK (m 54 (8 + i)) (m 54 (44 + i)) (m 54 5) (nb bad i) (B.testBit i) = m 54 (8 + i) := if_neg (by omega)
      rw [e3, e5, eK, mu_id (k := 8 + i) (by rw [mu_k (by omega), mu_k (by omega), r8]), mu_id (k := 32 + i) (by rw [mu_k (by omega), r32]), mu_id (k := 44 + i) r44] at hstep
      refine fin _ _ ?_ hstep
      rw [en, if_neg (by omega), Int.add_zero]
  · have r0 : gsm m B bad (m 54 0).toNat 54 0 = m 54 0 := gsm_r (by omega) (by omega) (by omega)
    have r1 : gsm m B bad (m 54 0).toNat 54 1 = m 54 1 := gsm_r (by omega) (by omega) (by omega)
    refine t_195_11 (by omega) ?_
    simp only [r0, r1]
    rw [am_s_id (z := m 54 0) (by omega) (by omega), am_s_id (z := ((m 54 0).toNat : Int)) (by omega) (by omega)]
    exact ⟨fun _ => by first | trivial | rfl, fun q => by omega⟩
/-- one day: the numbers of a state behind it -/
def dyk (B : Nat) (g : Nat → Int) : Nat → Int := fun k => if k = 1 then g 1 + 1 else if 44 ≤ k then dI (g (8 + (k - 44))) (g (44 + (k - 44))) (nb (ons g 1) (k - 44)) (B.testBit (k - 44)) else if 32 ≤ k then dR (g (8 + (k - 32))) (g (20 + (k - 32))) (g (32 + (k - 32))) (B.testBit (k - 32)) else if 20 ≤ k then g k else if 8 ≤ k then dK (g (8 + (k - 8))) (g (44 + (k - 8))) (g 5) (nb (ons g 1) (k - 8)) (B.testBit (k - 8)) else g k
def dy (B : Nat) (g : Nat → Int) : Nat → Int := nv (dyk B g)
/-- how many go bad on it -/
def dyn (B : Nat) (g : Nat → Int) : Int := sm (fun i => if g (8 + i) = 0 ∧ g 5 < dI (g (8 + i)) (g (44 + i)) (nb (ons g 1) i) (B.testBit i) then 1 else 0) (g 0).toNat
theorem dI_rng {k id : Int} {a b : Bool} (h : 0 ≤ id ∧ id ≤ 99) : 0 ≤ dI k id a b ∧ dI k id a b ≤ 99 := by
  unfold dI
  split
  · exact h
  · split
    · omega
    · split <;> omega
theorem dR_rng {k sa ri : Int} {b : Bool} (h : 0 ≤ sa ∧ sa ≤ 9) (h2 : 0 ≤ ri ∧ ri ≤ 100) : 0 ≤ dR k sa ri b ∧ dR k sa ri b ≤ 100 := by
  unfold dR
  split
  · split <;> omega
  · exact h2
theorem dK_rng {k id lf : Int} {a b : Bool} (h : 0 ≤ k ∧ k ≤ 3) : 0 ≤ dK k id lf a b ∧ dK k id lf a b ≤ 3 := by
  unfold dK
  split
  · omega
  · exact h
theorem dK_3 {k id lf : Int} {a b : Bool} (h : dK k id lf a b ≠ 3) : k ≠ 3 := by
  unfold dK at h
  split at h
  · omega
  · exact h
theorem gw_r {m : am_M} {B a : Nat} (h : a ≠ 54) : gw m B a = m a := by
  funext k
  unfold gw
  rw [mu_r h]
  unfold gsm
  rw [if_neg h]
theorem gw_hi {m : am_M} {B k : Nat} (h : 56 ≤ k) (hN : m 54 0 ≤ 12) : gw m B 54 k = m 54 k := by
  unfold gw
  rw [mu_k (by omega), gsm_r (by omega) (by omega) (by omega)]
theorem gw_lo {m : am_M} {B k : Nat} (h : k < 8) (h1 : k ≠ 1) : gw m B 54 k = m 54 k := by
  unfold gw
  rw [mu_k h1, gsm_r (by omega) (by omega) (by omega)]
theorem gw_1 {m : am_M} {B : Nat} : gw m B 54 1 = m 54 1 + 1 := by
  unfold gw
  rw [mu_same]
theorem gw_K {m : am_M} {B p : Nat} (hN : m 54 0 ≤ 12) (h : (p : Int) < m 54 0) : gw m B 54 (8 + p) = dK (m 54 (8 + p)) (m 54 (44 + p)) (m 54 5) (nb (ons (nv (m 54)) 1) p) (B.testBit p) := by
  unfold gw
  rw [mu_k (by omega)]
  unfold gsm
  rw [if_pos rfl, if_neg (by omega), if_neg (by omega), if_pos (by omega), show 8 + p - 8 = p by omega]
theorem gw_S {m : am_M} {B p : Nat} (hN : m 54 0 ≤ 12) (h : p < 12) : gw m B 54 (20 + p) = m 54 (20 + p) := by
  unfold gw
  rw [mu_k (by omega), gsm_r (by omega) (by omega) (by omega)]
theorem gw_R {m : am_M} {B p : Nat} (hN : m 54 0 ≤ 12) (h : (p : Int) < m 54 0) : gw m B 54 (32 + p) = dR (m 54 (8 + p)) (m 54 (20 + p)) (m 54 (32 + p)) (B.testBit p) := by
  unfold gw
  rw [mu_k (by omega)]
  unfold gsm
  rw [if_pos rfl, if_neg (by omega), if_pos (by omega), show 32 + p - 32 = p by omega]
theorem gw_I {m : am_M} {B p : Nat} (hN : m 54 0 ≤ 12) (h : (p : Int) < m 54 0) : gw m B 54 (44 + p) = dI (m 54 (8 + p)) (m 54 (44 + p)) (nb (ons (nv (m 54)) 1) p) (B.testBit p) := by
  unfold gw
  rw [mu_k (by omega)]
  unfold gsm
  rw [if_pos rfl, if_pos (by omega), show 44 + p - 44 = p by omega]
theorem gw_o {m : am_M} {B p c : Nat} (hc : c = 8 ∨ c = 20 ∨ c = 32 ∨ c = 44) (hp : p < 12) (h0 : 0 ≤ m 54 0) (h : m 54 0 ≤ (p : Int)) : gw m B 54 (c + p) = m 54 (c + p) := by
  unfold gw
  rw [mu_k (by omega), gsm_r (by omega) (by omega) (by omega)]
theorem dyk_K {B p : Nat} {g : Nat → Int} (h : p < 12) : dyk B g (8 + p) = dK (g (8 + p)) (g (44 + p)) (g 5) (nb (ons g 1) p) (B.testBit p) := by
  unfold dyk
  rw [if_neg (by omega), if_neg (by omega), if_neg (by omega), if_neg (by omega), if_pos (by omega), show 8 + p - 8 = p by omega]
theorem dyk_S {B p : Nat} {g : Nat → Int} (h : p < 12) : dyk B g (20 + p) = g (20 + p) := by
  unfold dyk
  rw [if_neg (by omega), if_neg (by omega), if_neg (by omega), if_pos (by omega)]
theorem dyk_R {B p : Nat} {g : Nat → Int} (h : p < 12) : dyk B g (32 + p) = dR (g (8 + p)) (g (20 + p)) (g (32 + p)) (B.testBit p) := by
  unfold dyk
  rw [if_neg (by omega), if_neg (by omega), if_pos (by omega), show 32 + p - 32 = p by omega]
theorem dyk_I {B p : Nat} {g : Nat → Int} : dyk B g (44 + p) = dI (g (8 + p)) (g (44 + p)) (nb (ons g 1) p) (B.testBit p) := by
  unfold dyk
  rw [if_neg (by omega), if_pos (by omega), show 44 + p - 44 = p by omega]
theorem dyk_lo {B k : Nat} {g : Nat → Int} (h : k < 8) (h1 : k ≠ 1) : dyk B g k = g k := by
  unfold dyk
  rw [if_neg h1, if_neg (by omega), if_neg (by omega), if_neg (by omega), if_neg (by omega)]
theorem dyk_1 {B : Nat} {g : Nat → Int} : dyk B g 1 = g 1 + 1 := rfl
/-- the view behind a day: from any state whose numbers are so -/
theorem dy_of {B : Nat} {g g' : Nat → Int} (hN : g 0 ≤ 12) (hl : ∀ k, k < 8 → k ≠ 1 → g' k = g k) (h1 : g' 1 = g 1 + 1) (hp : ∀ p : Nat, (p : Int) < g 0 → g' (8 + p) = dK (g (8 + p)) (g (44 + p)) (g 5) (nb (ons (nv g) 1) p) (B.testBit p) ∧ g' (20 + p) = g (20 + p) ∧ g' (32 + p) = dR (g (8 + p)) (g (20 + p)) (g (32 + p)) (B.testBit p) ∧ g' (44 + p) = dI (g (8 + p)) (g (44 + p)) (nb (ons (nv g) 1) p) (B.testBit p)) : nv g' = dy B (nv g) := by
  have e0 : g' 0 = g 0 := hl 0 (by decide) (by decide)
  unfold dy
  refine nv_eq (fun k hk => ?_) (fun p hp12 hpl => ?_)
  · by_cases hk1 : k = 1
    · subst hk1
      rw [h1, dyk_1, nv_lo (by decide)]
    · rw [hl k hk hk1, dyk_lo hk hk1, nv_lo hk]
  · rw [e0] at hpl
    obtain ⟨a1, a2, a3, a4⟩ := hp p hpl
    rw [dyk_K hp12, dyk_S hp12, dyk_R hp12, dyk_I, nv_lo (k := 5) (by decide), nv_pl (c := 8) (by omega) hp12 hpl, nv_pl (c := 20) (by omega) hp12 hpl, nv_pl (c := 32) (by omega) hp12 hpl, nv_pl (c := 44) (by omega) hp12 hpl]
    exact ⟨a1, a2, a3, a4⟩
theorem nv_gw {m : am_M} {B : Nat} (h : WFG (m 54)) : nv (gw m B 54) = dy B (nv (m 54)) := by
  have hN := h.1.2
  exact dy_of hN (fun k hk hk1 => gw_lo hk hk1) gw_1 fun p hp => ⟨gw_K hN hp, gw_S hN (by omega), gw_R hN hp, gw_I hN hp⟩
theorem WFG_gw {m : am_M} {B : Nat} (h : WFG (m 54)) (hd : m 54 1 < 20000) : WFG (gw m B 54) := by
  obtain ⟨hN, hK, hS, hR, hI, h2, h3, h4, h5, h6, h7, h1⟩ := h
  have e : ∀ k, k < 8 → k ≠ 1 → gw m B 54 k = m 54 k := fun k hk h => gw_lo hk h
  refine ⟨?_, fun p hp => ?_, fun p hp => ?_, fun p hp => ?_, fun p hp => ?_, ?_⟩
  · rw [e 0 (by decide) (by decide)]; exact hN
  · by_cases hl : (p : Int) < m 54 0
    · rw [gw_K hN.2 hl]; exact dK_rng (hK p hp)
    · rw [gw_o (by omega) hp hN.1 (by omega)]; exact hK p hp
  · rw [gw_S hN.2 hp]; exact hS p hp
  · by_cases hl : (p : Int) < m 54 0
    · rw [gw_R hN.2 hl]; exact dR_rng (hS p hp) (hR p hp)
    · rw [gw_o (by omega) hp hN.1 (by omega)]; exact hR p hp
  · by_cases hl : (p : Int) < m 54 0
    · rw [gw_I hN.2 hl]; exact dI_rng (hI p hp)
    · rw [gw_o (by omega) hp hN.1 (by omega)]; exact hI p hp
  · rw [e 2 (by decide) (by decide), e 3 (by decide) (by decide), e 4 (by decide) (by decide), e 5 (by decide) (by decide), e 6 (by decide) (by decide), e 7 (by decide) (by decide), gw_1]
    exact ⟨h2, h3, h4, h5, h6, h7, by omega⟩
theorem SLT_gw {m : am_M} {B : Nat} (h : WFG (m 54)) (hs : SLT (m 54)) : SLT (gw m B 54) := by
  intro p hp hl hk
  rw [gw_lo (by decide) (by decide)] at hl
  rw [gw_K h.1.2 hl] at hk
  rw [gw_S h.1.2 hp]
  exact hs p hp hl (dK_3 hk)
theorem sm_congr {f f' : Nat → Int} : ∀ n, (∀ p, p < n → f p = f' p) → sm f n = sm f' n := by
  intro n
  induction n with
  | zero => intro _; rfl
  | succ n ih =>
    intro h
    rw [sm_s, sm_s, ih (fun p hp => h p (by omega)), h n (by omega)]
theorem gsn_dyn {m : am_M} {B : Nat} (h : WFG (m 54)) : gsn m B (ons (nv (m 54)) 1) (m 54 0).toNat = dyn B (nv (m 54)) := by
  have hN := h.1
  have e : ∀ bad n, gsn m B bad n = sm (fun i => if m 54 (8 + i) = 0 ∧ m 54 5 < dI (m 54 (8 + i)) (m 54 (44 + i)) (nb bad i) (B.testBit i) then 1 else 0) n := by
    intro bad n
    induction n with
    | zero => rfl
    | succ n ih => rw [sm_s, ← ih]; rfl
  rw [e]
  unfold dyn
  rw [nv_lo (k := 0) (by decide)]
  refine sm_congr _ fun p hp => ?_
  rw [nv_lo (k := 5) (by decide), nv_pl (c := 8) (by omega) (by omega) (by omega), nv_pl (c := 44) (by omega) (by omega) (by omega)]
theorem n_195 {fx : am_X0} (m : am_M) (b : Int) (hq : WFG (m 54) ∧ 0 ≤ b ∧ b < 4096) : rn fx 2 (0, 0) 195 0 (am_ent 8 [.inr (.inr (some 53)), .inl b]) [] (st0 m) ([.inl (dyn b.toNat (nv (m 54)))], st0 (gw m b.toNat)) := by
  rw [← gsn_dyn hq.1]
  exact c_195 m b hq
