def nxb (sk : Nat → Bool) (w : Nat → Int) (l : Int) : Nat → Int × Int
  | 0 => (-1, l)
  | p + 1 => if sk p = true then nxb sk w l p else if (nxb sk w l p).1 = -1 ∨ w p < (nxb sk w l p).2 then ((p : Int), w p) else nxb sk w l p
theorem nxb_s {sk : Nat → Bool} {w : Nat → Int} {l : Int} {p : Nat} : nxb sk w l (p + 1) = if sk p = true then nxb sk w l p else if (nxb sk w l p).1 = -1 ∨ w p < (nxb sk w l p).2 then ((p : Int), w p) else nxb sk w l p := rfl
theorem nxb_l {sk : Nat → Bool} {w : Nat → Int} {l l' : Int} : ∀ n, (nxb sk w l n).1 = (nxb sk w l' n).1 ∧ ((nxb sk w l n).1 ≠ -1 → nxb sk w l n = nxb sk w l' n) := by
  intro n
  induction n with
  | zero => exact ⟨rfl, fun h => absurd rfl h⟩
  | succ n ih =>
    obtain ⟨h1, h2⟩ := ih
    rw [nxb_s, nxb_s]
    by_cases hs : sk n = true
    · rw [if_pos hs, if_pos hs]
      exact ⟨h1, h2⟩
    · rw [if_neg hs, if_neg hs]
      by_cases h : (nxb sk w l n).1 = -1
      · rw [if_pos (Or.inl h), if_pos (Or.inl (by rw [← h1]; exact h))]
        exact ⟨rfl, fun _ => rfl⟩
      · rw [h2 h]
        exact ⟨rfl, fun _ => rfl⟩
theorem nxb_rng {sk : Nat → Bool} {w : Nat → Int} {l : Int} : ∀ n, -1 ≤ (nxb sk w l n).1 ∧ (nxb sk w l n).1 < (n : Int) := by
  intro n
  induction n with
  | zero => show -1 ≤ (-1 : Int) ∧ (-1 : Int) < 0; omega
  | succ n ih =>
    rw [nxb_s]
    split
    · omega
    · split
      · show -1 ≤ (n : Int) ∧ (n : Int) < ((n + 1 : Nat) : Int); omega
      · omega
theorem nxb_rng2 {sk : Nat → Bool} {w : Nat → Int} {l : Int} (hw : ∀ p, 0 ≤ w p ∧ w p ≤ 32768) : ∀ n, (nxb sk w l n).1 ≠ -1 → 0 ≤ (nxb sk w l n).2 ∧ (nxb sk w l n).2 ≤ 32768 := by
  intro n
  induction n with
  | zero => intro h; exact absurd rfl h
  | succ n ih =>
    rw [nxb_s]
    split
    · exact ih
    · split
      · intro _; exact hw n
      · exact ih
theorem nxb_congr {sk sk' : Nat → Bool} {w w' : Nat → Int} {l : Int} : ∀ n, (∀ p, p < n → sk p = sk' p ∧ (sk p = false → w p = w' p)) → nxb sk w l n = nxb sk' w' l n := by
  intro n
  induction n with
  | zero => intro _; rfl
  | succ n ih =>
    intro h
    obtain ⟨h1, h2⟩ := h n (by omega)
    rw [nxb_s, nxb_s, ih fun p hp => h p (by omega), ← h1]
    cases hs : sk n
    · rw [h2 hs]
    · rfl
/-- where nobody is asked -/
def skp (g f : Nat → Int) (p : Nat) : Bool := decide (¬ (g (8 + p) ≠ 3 ∧ f p = 999))
theorem skp_congr {g f f' : Nat → Int} {p : Nat} (h : f p = f' p) : skp g f p = skp g f' p := by
  unfold skp
  rw [h]
/-- where to knock next, and how many are left at worst -/
def nxk (g f : Nat → Int) : Int × Int := if 2 ≤ cf (ftq g f) (may g + 1) then nxb (skp g f) (wor g (ftq g f) (may g + 1)) 0 (g 0).toNat else (-1, 0)
theorem nxk_congr {g f f' : Nat → Int} (h : ∀ p : Nat, (p : Int) < g 0 → f p = f' p) : nxk g f = nxk g f' := by
  unfold nxk
  rw [ftq_congr h, nxb_congr (sk' := skp g f') (w' := wor g (ftq g f') (may g + 1)) _ fun p hp => ⟨skp_congr (h p (by omega)), fun _ => rfl⟩]
theorem nxk_rng {g f : Nat → Int} (h : WFG g) : -1 ≤ (nxk g f).1 ∧ (nxk g f).1 < 12 := by
  have := h.1
  unfold nxk
  split
  · have := nxb_rng (sk := skp g f) (w := wor g (ftq g f) (may g + 1)) (l := 0) (g 0).toNat
    omega
  · show -1 ≤ (-1 : Int) ∧ (-1 : Int) < 12; omega
/-- what fits was laid -/
def FTD (m : am_M) (J : Nat) : Prop := m 53 19 = ((cf (ftq (nv (m 54)) (rwf m J)) (may (nv (m 54)) + 1) : Nat) : Int) ∧ ∀ t, t ≤ may (nv (m 54)) → ftq (nv (m 54)) (rwf m J) t = true → m 59 (cf (ftq (nv (m 54)) (rwf m J)) t) = (t : Int)
theorem u_94_19 {Q : List am_V → am_M → Prop} {m : am_M} {r : Nat} {b : Int} {p : Int} (h_r : r ∈ rowL) (H : ((am_s (m 2 4) ≤ am_s p) → Q [.inl b] m) ∧ ((¬ (am_s (m 2 4) ≤ am_s p)) → (WFG (vw m 2)) ∧ (((¬ ((0 ≤ am_s p ∧ am_s p < m 2 4) ∧ nv (vw m 2) (8 + (am_s p).toNat) ≠ 3)) → ok 5 94 19 [some (.inr (.inr (some 34))), some (.inr (.inr (some r))), some (.inl b), some (.inl (p + 1)), none] [] m Q) ∧ (((0 ≤ am_s p ∧ am_s p < m 2 4) ∧ nv (vw m 2) (8 + (am_s p).toNat) ≠ 3) → (RWC m r) ∧ (((am_s (am_lcmp ((rat m r (am_s p))) 999) = 0) → ((0 ≤ p ∧ p < 12) ∧ (∀ t, t < 8 → am_s (m 35 (8 * p.toNat + t)) = m 35 (8 * p.toNat + t)) ∧ ∀ t, t < 8 → 0 ≤ m 37 (8 * p.toNat + t) ∧ m 37 (8 * p.toNat + t) ≤ 4096) ∧ (∀ (m1 : am_M), (m1 = m) → ((am_s b = (-1)) → ok 5 94 19 [some (.inr (.inr (some 34))), some (.inr (.inr (some r))), some (.inl p), some (.inl (p + 1)), none] [] (mu m1 34 11 (mo7 (fun t => m 35 (8 * p.toNat + t)) (fun t => m 37 (8 * p.toNat + t)) 8)) Q) ∧ ((¬ (am_s b = (-1))) → ((am_s (m1 34 11) ≤ am_s (mo7 (fun t => m 35 (8 * p.toNat + t)) (fun t => m 37 (8 * p.toNat + t)) 8)) → ok 5 94 19 [some (.inr (.inr (some 34))), some (.inr (.inr (some r))), some (.inl b), some (.inl (p + 1)), none] [] m1 Q) ∧ ((¬ (am_s (m1 34 11) ≤ am_s (mo7 (fun t => m 35 (8 * p.toNat + t)) (fun t => m 37 (8 * p.toNat + t)) 8))) → ok 5 94 19 [some (.inr (.inr (some 34))), some (.inr (.inr (some r))), some (.inl p), some (.inl (p + 1)), none] [] (mu m1 34 11 (mo7 (fun t => m 35 (8 * p.toNat + t)) (fun t => m 37 (8 * p.toNat + t)) 8)) Q)))) ∧ ((¬ (am_s (am_lcmp ((rat m r (am_s p))) 999) = 0)) → ok 5 94 19 [some (.inr (.inr (some 34))), some (.inr (.inr (some r))), some (.inl b), some (.inl (p + 1)), none] [] m Q)))))) : ok 5 94 19 [some (.inr (.inr (some 34))), some (.inr (.inr (some r))), some (.inl b), some (.inl p), none] [] m Q := by
  refine ok_sg (pc' := 27) (ls' := [some (.inr (.inr (some 34))), some (.inr (.inr (some r))), some (.inl b), some (.inl p), none]) (st' := [.inl (m 2 4), .inl p]) (m' := m) (fun fx hfx o hk => ?_) ?_
  · refine r_ld (pc' := 20) hM_94 d_94_19 rfl rfl ?_
    refine r_ld (pc' := 21) hM_94 d_94_20 rfl rfl ?_
    refine r_gR (pc' := 24) (v := 2) hM_94 d_94_21 rfl (by decide +kernel) ?_
    refine r_gI (pc' := 27) (k0 := 4) hM_94 d_94_24 rfl (by decide +kernel) ?_
    exact hk
  refine ok_ic (pc' := 91) (pc2 := 30) hM_94 d_94_27 (by decide) rfl (fun hz1 => ?_) (fun hz1 => ?_)
  · have H := H.1 hz1
    refine ok_sg (pc' := 92) (ls' := [some (.inr (.inr (some 34))), some (.inr (.inr (some r))), some (.inl b), some (.inl p), none]) (st' := [.inl b]) (m' := m) (fun fx hfx o hk => ?_) ?_
    · refine r_ld (pc' := 92) hM_94 d_94_91 rfl rfl ?_
      exact hk
    exact ok_rt (fun fx _ => rt_i hM_94 d_94_92 rfl) H
  · have H := H.2 hz1
    obtain ⟨hz2, H⟩ := H
    refine ok_sg (pc' := 38) (ls' := [some (.inr (.inr (some 34))), some (.inr (.inr (some r))), some (.inl b), some (.inl p), none]) (st' := [.inl ((if (0 ≤ am_s p ∧ am_s p < m 2 4) ∧ nv (vw m 2) (8 + (am_s p).toNat) ≠ 3 then 1 else 0))]) (m' := m) (fun fx hfx o hk => ?_) ?_
    · refine r_ld (pc' := 31) hM_94 d_94_30 rfl rfl ?_
      refine r_gR (pc' := 34) (v := 2) hM_94 d_94_31 rfl (by decide +kernel) ?_
      refine r_ld (pc' := 35) hM_94 d_94_34 rfl rfl ?_
      refine r_cl (pc' := 38) (c := (68, 0)) (a := [.inr (.inr (some 2)), .inl p]) (q := []) hM_94 d_94_35 rfl (by decide +kernel) hM_68 rfl rfl rfl (Nat.le_of_ble_eq_true rfl) (Nat.le_of_ble_eq_true rfl) (Or.inr rfl) (n_68 (by decide) m p hz2) (Nat.le_of_ble_eq_true rfl) ?_
      show rn fx 5 (0, 0) 94 38 [some (.inr (.inr (some 34))), some (.inr (.inr (some r))), some (.inl b), some (.inl p), none] [.inl ((if (0 ≤ am_s p ∧ am_s p < m 2 4) ∧ nv (vw m 2) (8 + (am_s p).toNat) ≠ 3 then 1 else 0))] (st0 m) o
      exact hk
    refine ok_if (pc' := 85) (pc2 := 41) hM_94 d_94_38 (by decide) rfl (fun hz3 => ?_) (fun hz3 => ?_)
    · have H := H.1 (as_ite.mp hz3)
      refine ok_sg (pc' := 19) (ls' := [some (.inr (.inr (some 34))), some (.inr (.inr (some r))), some (.inl b), some (.inl (p + 1)), none]) (st' := []) (m' := m) (fun fx hfx o hk => ?_) ?_
      · refine r_sto (pc' := 88) (ls' := [some (.inr (.inr (some 34))), some (.inr (.inr (some r))), some (.inl b), some (.inl (p + 1)), none]) hM_94 d_94_85 rfl rfl ?_
        refine r_go (pc' := 19) hM_94 d_94_88 (by decide) ?_
        exact hk
      exact H
    · have H := H.2 (as_iteN.mp hz3)
      obtain ⟨hz4, H⟩ := H
      refine ok_sg (pc' := 50) (ls' := [some (.inr (.inr (some 34))), some (.inr (.inr (some r))), some (.inl b), some (.inl p), none]) (st' := [.inl (am_lcmp ((rat m r (am_s p))) 999)]) (m' := m) (fun fx hfx o hk => ?_) ?_
      · refine r_ld (pc' := 42) hM_94 d_94_41 rfl rfl ?_
        refine r_ld (pc' := 43) hM_94 d_94_42 rfl rfl ?_
        refine r_cl (pc' := 46) (c := (56, 0)) (a := [.inr (.inr (some r)), .inl p]) (q := []) hM_94 d_94_43 rfl (by decide +kernel) hM_56 rfl rfl rfl (Nat.le_of_ble_eq_true rfl) (Nat.le_of_ble_eq_true rfl) (Or.inr (rcvR h_r _)) (n_56 h_r m p hz4) (Nat.le_of_ble_eq_true rfl) ?_
        show rn fx 5 (0, 0) 94 46 [some (.inr (.inr (some 34))), some (.inr (.inr (some r))), some (.inl b), some (.inl p), none] [.inr (.inl ((rat m r (am_s p))))] (st0 m) o
        refine r_k (pc' := 49) (v := .inr (.inl 999)) hM_94 d_94_46 rfl (by decide +kernel) ?_
        refine r_stk (pc' := 50) (st' := [.inl (am_lcmp ((rat m r (am_s p))) 999)]) hM_94 d_94_49 rfl rfl ?_
        exact hk
      refine ok_if (pc' := 56) (pc2 := 53) hM_94 d_94_50 (by decide) rfl (fun hz5 => ?_) (fun hz5 => ?_)
      · have H := H.1 hz5
        obtain ⟨hz6, H⟩ := H
        refine ok_sg (pc' := 58) (ls' := [some (.inr (.inr (some 34))), some (.inr (.inr (some r))), some (.inl b), some (.inl p), none]) (st' := [.inl p, .inr (.inr (some 34))]) (m' := m) (fun fx hfx o hk => ?_) ?_
        · refine r_ld (pc' := 57) hM_94 d_94_56 rfl rfl ?_
          refine r_ld (pc' := 58) hM_94 d_94_57 rfl rfl ?_
          exact hk
        refine ok_cl (pc' := 61) (c := (97, 0)) (a := [.inr (.inr (some 34)), .inl p]) (q := []) hM_94 d_94_58 rfl (by decide +kernel) hM_97 rfl rfl rfl (Nat.le_of_ble_eq_true rfl) (Nat.le_of_ble_eq_true rfl) (Or.inr rfl) (z_97  m p hz6) (Nat.le_of_ble_eq_true rfl) ?_
        rintro _ m1 ⟨rfl, hz7⟩
        replace H := H  m1 hz7
        show ok 5 94 61 [some (.inr (.inr (some 34))), some (.inr (.inr (some r))), some (.inl b), some (.inl p), none] [.inl (mo7 (fun t => m 35 (8 * p.toNat + t)) (fun t => m 37 (8 * p.toNat + t)) 8)] m1 Q
        refine ok_sg (pc' := 65) (ls' := [some (.inr (.inr (some 34))), some (.inr (.inr (some r))), some (.inl b), some (.inl p), some (.inl (mo7 (fun t => m 35 (8 * p.toNat + t)) (fun t => m 37 (8 * p.toNat + t)) 8))]) (st' := [.inl (-1), .inl b]) (m' := m1) (fun fx hfx o hk => ?_) ?_
        · refine r_sto (pc' := 63) (ls' := [some (.inr (.inr (some 34))), some (.inr (.inr (some r))), some (.inl b), some (.inl p), some (.inl (mo7 (fun t => m 35 (8 * p.toNat + t)) (fun t => m 37 (8 * p.toNat + t)) 8))]) hM_94 d_94_61 rfl rfl ?_
          refine r_ld (pc' := 64) hM_94 d_94_63 rfl rfl ?_
          refine r_k (pc' := 65) (v := .inl (-1)) hM_94 d_94_64 rfl rfl ?_
          exact hk
        refine ok_ic (pc' := 77) (pc2 := 68) hM_94 d_94_65 (by decide) rfl (fun hz8 => ?_) (fun hz8 => ?_)
        · have H := H.1 hz8
          refine ok_sg (pc' := 19) (ls' := [some (.inr (.inr (some 34))), some (.inr (.inr (some r))), some (.inl p), some (.inl (p + 1)), none]) (st' := []) (m' := mu m1 34 11 (mo7 (fun t => m 35 (8 * p.toNat + t)) (fun t => m 37 (8 * p.toNat + t)) 8)) (fun fx hfx o hk => ?_) ?_
          · refine r_ld (pc' := 78) hM_94 d_94_77 rfl rfl ?_
            refine r_sto (pc' := 79) (ls' := [some (.inr (.inr (some 34))), some (.inr (.inr (some r))), some (.inl p), some (.inl p), some (.inl (mo7 (fun t => m 35 (8 * p.toNat + t)) (fun t => m 37 (8 * p.toNat + t)) 8))]) hM_94 d_94_78 rfl rfl ?_
            refine r_ld (pc' := 80) hM_94 d_94_79 rfl rfl ?_
            refine r_ld (pc' := 82) hM_94 d_94_80 rfl rfl ?_
            refine r_pI (pc' := 85) (k0 := 11) hM_94 d_94_82 rfl (by decide +kernel) ?_
            refine r_sto (pc' := 88) (ls' := [some (.inr (.inr (some 34))), some (.inr (.inr (some r))), some (.inl p), some (.inl (p + 1)), some (.inl (mo7 (fun t => m 35 (8 * p.toNat + t)) (fun t => m 37 (8 * p.toNat + t)) 8))]) hM_94 d_94_85 rfl rfl ?_
            refine r_go (pc' := 19) hM_94 d_94_88 (by decide) ?_
            refine rn_wk (a := [some (.inr (.inr (some 34))), some (.inr (.inr (some r))), some (.inl p), some (.inl (p + 1)), none]) (by simp only [am_le, and_self]) ?_
            exact hk
          exact H
        · have H := H.2 hz8
          refine ok_sg (pc' := 74) (ls' := [some (.inr (.inr (some 34))), some (.inr (.inr (some r))), some (.inl b), some (.inl p), some (.inl (mo7 (fun t => m 35 (8 * p.toNat + t)) (fun t => m 37 (8 * p.toNat + t)) 8))]) (st' := [.inl (m1 34 11), .inl (mo7 (fun t => m 35 (8 * p.toNat + t)) (fun t => m 37 (8 * p.toNat + t)) 8)]) (m' := m1) (fun fx hfx o hk => ?_) ?_
          · refine r_ld (pc' := 70) hM_94 d_94_68 rfl rfl ?_
            refine r_ld (pc' := 71) hM_94 d_94_70 rfl rfl ?_
            refine r_gI (pc' := 74) (k0 := 11) hM_94 d_94_71 rfl (by decide +kernel) ?_
            exact hk
          refine ok_ic (pc' := 85) (pc2 := 77) hM_94 d_94_74 (by decide) rfl (fun hz9 => ?_) (fun hz9 => ?_)
          · have H := H.1 hz9
            refine ok_sg (pc' := 19) (ls' := [some (.inr (.inr (some 34))), some (.inr (.inr (some r))), some (.inl b), some (.inl (p + 1)), none]) (st' := []) (m' := m1) (fun fx hfx o hk => ?_) ?_
            · refine r_sto (pc' := 88) (ls' := [some (.inr (.inr (some 34))), some (.inr (.inr (some r))), some (.inl b), some (.inl (p + 1)), some (.inl (mo7 (fun t => m 35 (8 * p.toNat + t)) (fun t => m 37 (8 * p.toNat + t)) 8))]) hM_94 d_94_85 rfl rfl ?_
              refine r_go (pc' := 19) hM_94 d_94_88 (by decide) ?_
              refine rn_wk (a := [some (.inr (.inr (some 34))), some (.inr (.inr (some r))), some (.inl b), some (.inl (p + 1)), none]) (by simp only [am_le, and_self]) ?_
              exact hk
            exact H
          · have H := H.2 hz9
            refine ok_sg (pc' := 19) (ls' := [some (.inr (.inr (some 34))), some (.inr (.inr (some r))), some (.inl p), some (.inl (p + 1)), none]) (st' := []) (m' := mu m1 34 11 (mo7 (fun t => m 35 (8 * p.toNat + t)) (fun t => m 37 (8 * p.toNat + t)) 8)) (fun fx hfx o hk => ?_) ?_
            · refine r_ld (pc' := 78) hM_94 d_94_77 rfl rfl ?_
              refine r_sto (pc' := 79) (ls' := [some (.inr (.inr (some 34))), some (.inr (.inr (some r))), some (.inl p), some (.inl p), some (.inl (mo7 (fun t => m 35 (8 * p.toNat + t)) (fun t => m 37 (8 * p.toNat + t)) 8))]) hM_94 d_94_78 rfl rfl ?_
              refine r_ld (pc' := 80) hM_94 d_94_79 rfl rfl ?_
              refine r_ld (pc' := 82) hM_94 d_94_80 rfl rfl ?_
              refine r_pI (pc' := 85) (k0 := 11) hM_94 d_94_82 rfl (by decide +kernel) ?_
              refine r_sto (pc' := 88) (ls' := [some (.inr (.inr (some 34))), some (.inr (.inr (some r))), some (.inl p), some (.inl (p + 1)), some (.inl (mo7 (fun t => m 35 (8 * p.toNat + t)) (fun t => m 37 (8 * p.toNat + t)) 8))]) hM_94 d_94_85 rfl rfl ?_
              refine r_go (pc' := 19) hM_94 d_94_88 (by decide) ?_
              refine rn_wk (a := [some (.inr (.inr (some 34))), some (.inr (.inr (some r))), some (.inl p), some (.inl (p + 1)), none]) (by simp only [am_le, and_self]) ?_
              exact hk
            exact H
      · have H := H.2 hz5
        refine ok_sg (pc' := 19) (ls' := [some (.inr (.inr (some 34))), some (.inr (.inr (some r))), some (.inl b), some (.inl (p + 1)), none]) (st' := []) (m' := m) (fun fx hfx o hk => ?_) ?_
        · refine r_go (pc' := 85) hM_94 d_94_53 (by decide) ?_
          refine r_sto (pc' := 88) (ls' := [some (.inr (.inr (some 34))), some (.inr (.inr (some r))), some (.inl b), some (.inl (p + 1)), none]) hM_94 d_94_85 rfl rfl ?_
          refine r_go (pc' := 19) hM_94 d_94_88 (by decide) ?_
          exact hk
        exact H
theorem u_94_0 {Q : List am_V → am_M → Prop} {m : am_M} {r : Nat} (h_r : r ∈ rowL) (H : (WFG (vw m 2) ∧ RWC m r) ∧ (∀ (m1 : am_M), (HEA m r m1) → (ALW m1) ∧ (∀ (m2 : am_M), ((∀ p t : Nat, (p : Int) < m1 2 4 → t < 8 → m2 37 (8 * p + t) = ((cf (tly (alq m1) p t) ((m1 34 9).toNat + 1) : Nat) : Int)) ∧ ∀ a, a ≠ 37 → m2 a = m1 a) → ((2 ≤ am_s ((cf (alq m1) ((m1 34 9).toNat + 1) : Nat) : Int)) → ok 5 94 19 [some (.inr (.inr (some 34))), some (.inr (.inr (some r))), some (.inl (-1)), some (.inl 0), none] [] m2 Q) ∧ ((¬ (2 ≤ am_s ((cf (alq m1) ((m1 34 9).toNat + 1) : Nat) : Int))) → Q [.inl (-1)] m2)))) : ok 5 94 0 [some (.inr (.inr (some 34))), some (.inr (.inr (some r))), none, none, none] [] m Q := by
  obtain ⟨hz1, H⟩ := H
  refine ok_sg (pc' := 2) (ls' := [some (.inr (.inr (some 34))), some (.inr (.inr (some r))), none, none, none]) (st' := [.inr (.inr (some r)), .inr (.inr (some 34))]) (m' := m) (fun fx hfx o hk => ?_) ?_
  · refine r_ld (pc' := 1) hM_94 d_94_0 rfl rfl ?_
    refine r_ld (pc' := 2) hM_94 d_94_1 rfl rfl ?_
    exact hk
  refine ok_cl (pc' := 5) (c := (82, 0)) (a := [.inr (.inr (some 34)), .inr (.inr (some r))]) (q := []) hM_94 d_94_2 rfl (by decide +kernel) hM_82 rfl rfl rfl (Nat.le_of_ble_eq_true rfl) (Nat.le_of_ble_eq_true rfl) (Or.inr rfl) (z_82 h_r m  hz1) (Nat.le_of_ble_eq_true rfl) ?_
  rintro _ m1 ⟨rfl, hz2⟩
  replace H := H  m1 hz2
  show ok 5 94 5 [some (.inr (.inr (some 34))), some (.inr (.inr (some r))), none, none, none] [] m1 Q
  obtain ⟨hz3, H⟩ := H
  refine ok_sg (pc' := 6) (ls' := [some (.inr (.inr (some 34))), some (.inr (.inr (some r))), none, none, none]) (st' := [.inr (.inr (some 34))]) (m' := m1) (fun fx hfx o hk => ?_) ?_
  · refine r_ld (pc' := 6) hM_94 d_94_5 rfl rfl ?_
    exact hk
  refine ok_cl (pc' := 9) (c := (95, 0)) (a := [.inr (.inr (some 34))]) (q := []) hM_94 d_94_6 rfl (by decide +kernel) hM_95 rfl rfl rfl (Nat.le_of_ble_eq_true rfl) (Nat.le_of_ble_eq_true rfl) (Or.inr rfl) (z_95  m1  hz3) (Nat.le_of_ble_eq_true rfl) ?_
  rintro _ m2 ⟨rfl, hz4⟩
  replace H := H  m2 hz4
  show ok 5 94 9 [some (.inr (.inr (some 34))), some (.inr (.inr (some r))), none, none, none] [.inl ((cf (alq m1) ((m1 34 9).toNat + 1) : Nat) : Int)] m2 Q
  refine ok_sg (pc' := 10) (ls' := [some (.inr (.inr (some 34))), some (.inr (.inr (some r))), none, none, none]) (st' := [.inl 2, .inl ((cf (alq m1) ((m1 34 9).toNat + 1) : Nat) : Int)]) (m' := m2) (fun fx hfx o hk => ?_) ?_
  · refine r_k (pc' := 10) (v := .inl 2) hM_94 d_94_9 rfl rfl ?_
    exact hk
  refine ok_ic (pc' := 15) (pc2 := 13) hM_94 d_94_10 (by decide) rfl (fun hz5 => ?_) (fun hz5 => ?_)
  · have H := H.1 hz5
    refine ok_sg (pc' := 19) (ls' := [some (.inr (.inr (some 34))), some (.inr (.inr (some r))), some (.inl (-1)), some (.inl 0), none]) (st' := []) (m' := m2) (fun fx hfx o hk => ?_) ?_
    · refine r_k (pc' := 16) (v := .inl (-1)) hM_94 d_94_15 rfl rfl ?_
      refine r_sto (pc' := 17) (ls' := [some (.inr (.inr (some 34))), some (.inr (.inr (some r))), some (.inl (-1)), none, none]) hM_94 d_94_16 rfl rfl ?_
      refine r_k (pc' := 18) (v := .inl 0) hM_94 d_94_17 rfl rfl ?_
      refine r_sto (pc' := 19) (ls' := [some (.inr (.inr (some 34))), some (.inr (.inr (some r))), some (.inl (-1)), some (.inl 0), none]) hM_94 d_94_18 rfl rfl ?_
      exact hk
    exact H
  · have H := H.2 hz5
    refine ok_sg (pc' := 14) (ls' := [some (.inr (.inr (some 34))), some (.inr (.inr (some r))), none, none, none]) (st' := [.inl (-1)]) (m' := m2) (fun fx hfx o hk => ?_) ?_
    · refine r_k (pc' := 14) (v := .inl (-1)) hM_94 d_94_13 rfl rfl ?_
      exact hk
    exact ok_rt (fun fx _ => rt_i hM_94 d_94_14 rfl) H
theorem z_94 {r : Nat} (h_r : r ∈ rowL) (m : am_M)  (hq : WFG (vw m 2) ∧ RWC m r) : ok 5 94 0 (am_ent 5 [.inr (.inr (some 34)), .inr (.inr (some r))]) [] m (fun rr m' => rr = [.inl ((nxk (nv (vw m 2)) (fun x => rat m r (x : Int))).1)] ∧ kpC m m' ∧ ((nxk (nv (vw m 2)) (fun x => rat m r (x : Int))).1 ≠ -1 → m' 34 11 = (nxk (nv (vw m 2)) (fun x => rat m r (x : Int))).2)) := by
  show ok 5 94 0 [some (.inr (.inr (some 34))), some (.inr (.inr (some r))), none, none, none] [] m _
  obtain ⟨hw, hR⟩ := hq
  have hN := vwN hw
  have hwn := WFG_nv hw
  have hFl := may_lt (g := nv (vw m 2)) hwn.1.2
  have hr := rowL_cases h_r
  have eg0 : nv (vw m 2) 0 = m 2 4 := by rw [nv0, vw_0]
  refine u_94_0 h_r ⟨⟨hw, hR⟩, fun m1 h1 => ?_⟩
  have hA := HEA_ALW hw h1
  have eQ := HEA_alq hw h1
  have hFm : (m1 34 9).toNat = may (nv (vw m 2)) := by rw [h1.1, Int.toNat_natCast]
  have hcl := cf_le (Q := ftq (nv (vw m 2)) (fun x => rat m r (x : Int))) (may (nv (vw m 2)) + 1)
  refine ⟨hA, fun m2 hm2 => ?_⟩
  obtain ⟨t1, t2⟩ := hm2
  obtain ⟨l1, l2, l3, l4, l5⟩ := id h1
  have hK : kpC m m2 := kpC_trans (HEA_kpC h1) (fun a k hc => by unfold core at hc; rw [t2 a (by omega)])
  rw [eQ, hFm, l5 2 4 (by omega) (by omega) (by omega)] at t1
  rw [eQ, hFm, am_s_id (by omega) (by omega)]
  have fr2 : ∀ a k, ¬ (a = 34 ∧ (k = 9 ∨ k = 10)) → a ≠ 35 → a ≠ 36 → a ≠ 37 → m2 a k = m a k := fun a k q1 q2 q3 q4 => by rw [t2 a q4, l5 a k q1 q2 q3]
  have hT2 : ∀ p t : Nat, (p : Int) < m 2 4 → t < 8 → m2 35 (8 * p + t) = tnt (nv (vw m 2)) p t := fun p t hp ht => by rw [t2 35 (by decide)]; exact l3 p t (by omega) ht
  have enx : nxk (nv (vw m 2)) (fun x => rat m r (x : Int)) = if 2 ≤ cf (ftq (nv (vw m 2)) (fun x => rat m r (x : Int))) (may (nv (vw m 2)) + 1) then nxb (skp (nv (vw m 2)) (fun x => rat m r (x : Int))) (wor (nv (vw m 2)) (ftq (nv (vw m 2)) (fun x => rat m r (x : Int))) (may (nv (vw m 2)) + 1)) 0 (m 2 4).toNat else (-1, 0) := by
    unfold nxk
    rw [eg0]
  rw [enx]
  generalize hQv : ftq (nv (vw m 2)) (fun x => rat m r (x : Int)) = Q at *
  generalize hFv : may (nv (vw m 2)) = F at *
  refine ⟨fun hc => ?_, fun hc => ?_⟩
  · rw [if_pos (by omega)]
    have hwr : ∀ p, 0 ≤ wor (nv (vw m 2)) Q (F + 1) p ∧ wor (nv (vw m 2)) Q (F + 1) p ≤ 32768 := fun p => wor_rng (by omega)
    generalize hwv : wor (nv (vw m 2)) Q (F + 1) = wv at *
    generalize hskv : skp (nv (vw m 2)) (fun x => rat m r (x : Int)) = sk at *
    refine ok_for (σ := Unit) (fun p _ => [some (.inr (.inr (some 34))), some (.inr (.inr (some r))), some (.inl (nxb sk wv (m2 34 11) p).1), some (.inl (p : Int)), none]) (fun p _ M => M 34 11 = (nxb sk wv (m2 34 11) p).2 ∧ ∀ a k, ¬ (a = 34 ∧ k = 11) → M a k = m2 a k) (m 2 4).toNat ?_ ?_ () m2 ⟨rfl, fun _ _ _ => rfl⟩
    · rintro p hp - M ⟨h2, h3⟩ IH
      have f4 : M 2 4 = m 2 4 := by rw [h3 2 4 (by omega), fr2 2 4 (by omega) (by omega) (by omega) (by omega)]
      have fv : vw M 2 = vw m 2 := vw_same fun a k q1 q2 => by rw [h3 a k (by omega), fr2 a k (by omega) (by omega) (by omega) (by omega)]
      have fr0 : M r = m r := funext fun k => by rw [h3 r k (by omega), fr2 r k (by omega) (by omega) (by omega) (by omega)]
      have fr1 : M (r + 1) = m (r + 1) := funext fun k => by rw [h3 (r + 1) k (by omega), fr2 (r + 1) k (by omega) (by omega) (by omega) (by omega)]
      have hRM : RWC M r := RWC_of fr0 fr1 hR
      have er : rat M r (p : Int) = rat m r (p : Int) := by unfold rat; rw [fr0, fr1]
      have eT : ∀ t, t < 8 → M 35 (8 * p + t) = tnt (nv (vw m 2)) p t := fun t ht => by rw [h3 35 _ (by omega)]; exact hT2 p t (by omega) ht
      have eY : ∀ t, t < 8 → M 37 (8 * p + t) = tlv Q (F + 1) p t := fun t ht => by rw [h3 37 _ (by omega)]; exact t1 p t (by omega) ht
      have eW : mo7 (fun t => M 35 (8 * p + t)) (fun t => M 37 (8 * p + t)) 8 = wv p := by
        rw [← hwv]
        exact mo7_congr (fun t ht => ⟨eT t ht, eY t ht⟩) 8 (Nat.le_refl _)
      have hb := nxb_rng (sk := sk) (w := wv) (l := m2 34 11) p
      have hb2 := nxb_rng2 (sk := sk) (l := m2 34 11) hwr p
      have hwp := hwr p
      have hsk : sk p = decide (¬ (nv (vw m 2) (8 + p) ≠ 3 ∧ rat m r (p : Int) = 999)) := by rw [← hskv]; rfl
      have hst := nxb_s (sk := sk) (w := wv) (l := m2 34 11) (p := p)
      refine u_94_19 h_r ?_
      rw [f4, am_s_id (z := m 2 4) (by omega) (by omega), am_s_id (z := (p : Int)) (by omega) (by omega), fv, Int.toNat_natCast, er, lcmp_eq, rat_t hR, show am_t 999 = 999 from rfl, am_s_id (z := (nxb sk wv (m2 34 11) p).1) (by omega) (by omega)]
      have kp : nxb sk wv (m2 34 11) (p + 1) = nxb sk wv (m2 34 11) p → ok 5 94 19 [some (.inr (.inr (some 34))), some (.inr (.inr (some r))), some (.inl (nxb sk wv (m2 34 11) p).1), some (.inl ((p : Int) + 1)), none] [] M (fun rr m' => rr = [.inl (nxb sk wv 0 (m 2 4).toNat).1] ∧ (kpC m m' ∧ ((nxb sk wv 0 (m 2 4).toNat).1 ≠ -1 → m' 34 11 = (nxb sk wv 0 (m 2 4).toNat).2))) := by
        intro e
        have := IH () M ⟨by rw [e]; exact h2, h3⟩
        rw [e] at this
        exact this
      have nw : nxb sk wv (m2 34 11) (p + 1) = ((p : Int), wv p) → ok 5 94 19 [some (.inr (.inr (some 34))), some (.inr (.inr (some r))), some (.inl (p : Int)), some (.inl ((p : Int) + 1)), none] [] (mu M 34 11 (wv p)) (fun rr m' => rr = [.inl (nxb sk wv 0 (m 2 4).toNat).1] ∧ (kpC m m' ∧ ((nxb sk wv 0 (m 2 4).toNat).1 ≠ -1 → m' 34 11 = (nxb sk wv 0 (m 2 4).toNat).2))) := by
        intro e
        have := IH () (mu M 34 11 (wv p)) ⟨by rw [e]; exact mu_same, fun a k q => by rw [mu_o q]; exact h3 a k q⟩
        rw [e] at this
        exact this
      refine ⟨fun q => by omega, fun _ => ⟨hw, fun q => kp ?_, fun q => ⟨hRM, fun q2 => ⟨⟨by omega, fun t ht => ?_, fun t ht => ?_⟩, ?_⟩, fun q2 => kp ?_⟩⟩⟩
      · rw [hst, if_pos]
        rw [hsk, decide_eq_true_eq]
        exact fun k => q ⟨by omega, k.1⟩
      · rw [eT t ht]; exact tnt_s hwn (by omega)
      · rw [eY t ht]
        unfold tlv
        have := cf_le (Q := tly Q p t) (F + 1)
        omega
      · intro mx hmx
        obtain rfl := hmx.symm
        rw [eW, am_s_id (z := wv p) (by omega) (by omega), h2]
        have hns : ¬ sk p = true := by
          rw [hsk, decide_eq_true_eq]
          exact fun k => k ⟨q.2, q2⟩
        rw [if_neg hns] at hst
        refine ⟨fun q3 => nw ?_, fun q3 => ?_⟩
        · rw [hst, if_pos (Or.inl q3)]
        · have hb3 := hb2 q3
          rw [am_s_id (z := (nxb sk wv (m2 34 11) p).2) (by omega) (by omega)]
          refine ⟨fun q4 => kp ?_, fun q4 => nw ?_⟩
          · rw [hst, if_neg (by omega)]
          · rw [hst, if_pos (Or.inr (by omega))]
      · rw [hst, if_pos]
        rw [hsk, decide_eq_true_eq]
        exact fun k => q2 k.2
    · rintro - M ⟨h2, h3⟩
      have f4 : M 2 4 = m 2 4 := by rw [h3 2 4 (by omega), fr2 2 4 (by omega) (by omega) (by omega) (by omega)]
      obtain ⟨x1, x2⟩ := nxb_l (sk := sk) (w := wv) (l := m2 34 11) (l' := 0) (m 2 4).toNat
      refine u_94_19 h_r ?_
      rw [f4, am_s_id (z := m 2 4) (by omega) (by omega), am_s_id (z := (((m 2 4).toNat : Nat) : Int)) (by omega) (by omega), x1]
      refine ⟨fun _ => ⟨rfl, kpC_trans hK (fun a k hc => h3 a k (by unfold core at hc; omega)), fun q => ?_⟩, fun q => by omega⟩
      rw [h2, x2 (by rw [x1]; exact q)]
  · rw [if_neg (by omega)]
    exact ⟨rfl, hK, fun q => absurd rfl q⟩
theorem u_218_9 {Q : List am_V → am_M → Prop} {m : am_M} {j : Int} {b : Int} {p : Int}  (H : ((am_s (m 54 0) ≤ am_s p) → Q [.inl b] m) ∧ ((¬ (am_s (m 54 0) ≤ am_s p)) → ((am_s (m 53 19) ≤ 1) → Q [.inl b] m) ∧ ((¬ (am_s (m 53 19) ≤ 1)) → (WFG (m 54)) ∧ ((((0 ≤ am_s p ∧ am_s p < m 54 0) ∧ nv (m 54) (8 + (am_s p).toNat) = am_s 3) → ok 4 218 9 [some (.inr (.inr (some 53))), some (.inl j), some (.inl b), some (.inl (p + 1)), none] [] m Q) ∧ ((¬ ((0 ≤ am_s p ∧ am_s p < m 54 0) ∧ nv (m 54) (8 + (am_s p).toNat) = am_s 3)) → (0 ≤ am_s ((40 * j) + p) ∧ am_s ((40 * j) + p) < (160 : Nat)) ∧ (((am_s (am_lcmp (m 75 ((am_s ((40 * j) + p)).toNat)) 999) = 0) → (WFG (m 54) ∧ (0 ≤ p ∧ p < m 54 0) ∧ (0 ≤ m 53 19 ∧ m 53 19 ≤ 4096) ∧ ∀ k : Nat, (k : Int) < m 53 19 → 0 ≤ m 59 k ∧ m 59 k < 4096) ∧ (∀ (v1 : Int) (m1 : am_M), (((∃ W : Nat, v1 = (W : Int) ∧ MX (fun x => cf (fun j => decide (hrd (nv (m 54)) p.toNat (m 59 j).toNat = x)) (m 53 19).toNat) W) ∧ ∀ a, a ≠ 60 → m1 a = m a)) → ((am_s b = (-1)) → ok 4 218 9 [some (.inr (.inr (some 53))), some (.inl j), some (.inl p), some (.inl (p + 1)), none] [] (mu m1 53 21 v1) Q) ∧ ((¬ (am_s b = (-1))) → ((am_s v1 < am_s (m1 53 21)) → ok 4 218 9 [some (.inr (.inr (some 53))), some (.inl j), some (.inl p), some (.inl (p + 1)), none] [] (mu m1 53 21 v1) Q) ∧ ((¬ (am_s v1 < am_s (m1 53 21))) → ok 4 218 9 [some (.inr (.inr (some 53))), some (.inl j), some (.inl b), some (.inl (p + 1)), none] [] m1 Q)))) ∧ ((¬ (am_s (am_lcmp (m 75 ((am_s ((40 * j) + p)).toNat)) 999) = 0)) → ok 4 218 9 [some (.inr (.inr (some 53))), some (.inl j), some (.inl b), some (.inl (p + 1)), none] [] m Q))))))) : ok 4 218 9 [some (.inr (.inr (some 53))), some (.inl j), some (.inl b), some (.inl p), none] [] m Q := by
  refine ok_sg (pc' := 16) (ls' := [some (.inr (.inr (some 53))), some (.inl j), some (.inl b), some (.inl p), none]) (st' := [.inl (m 54 0), .inl p]) (m' := m) (fun fx hfx o hk => ?_) ?_
  · refine r_ld (pc' := 10) hM_218 d_218_9 rfl rfl ?_
    refine r_ld (pc' := 11) hM_218 d_218_10 rfl rfl ?_
    refine r_gR (pc' := 14) (v := 54) hM_218 d_218_11 rfl (by decide +kernel) ?_
    refine r_k (pc' := 15) (v := .inl 0) hM_218 d_218_14 rfl rfl ?_
    refine r_iae (pc' := 16) (n := 168) (z := (m 54 0)) hM_218 d_218_15 rfl rfl (by decide) (by rw [show (am_s 0).toNat = 0 by decide]) ?_
    exact hk
  refine ok_ic (pc' := 95) (pc2 := 19) hM_218 d_218_16 (by decide) rfl (fun hz1 => ?_) (fun hz1 => ?_)
  · have H := H.1 hz1
    refine ok_sg (pc' := 96) (ls' := [some (.inr (.inr (some 53))), some (.inl j), some (.inl b), some (.inl p), none]) (st' := [.inl b]) (m' := m) (fun fx hfx o hk => ?_) ?_
    · refine r_ld (pc' := 96) hM_218 d_218_95 rfl rfl ?_
      exact hk
    exact ok_rt (fun fx _ => rt_i hM_218 d_218_96 rfl) H
  · have H := H.2 hz1
    refine ok_sg (pc' := 24) (ls' := [some (.inr (.inr (some 53))), some (.inl j), some (.inl b), some (.inl p), none]) (st' := [.inl 1, .inl (m 53 19)]) (m' := m) (fun fx hfx o hk => ?_) ?_
    · refine r_ld (pc' := 20) hM_218 d_218_19 rfl rfl ?_
      refine r_gI (pc' := 23) (k0 := 19) hM_218 d_218_20 rfl (by decide +kernel) ?_
      refine r_k (pc' := 24) (v := .inl 1) hM_218 d_218_23 rfl rfl ?_
      exact hk
    refine ok_ic (pc' := 95) (pc2 := 27) hM_218 d_218_24 (by decide) rfl (fun hz2 => ?_) (fun hz2 => ?_)
    · have H := H.1 hz2
      refine ok_sg (pc' := 96) (ls' := [some (.inr (.inr (some 53))), some (.inl j), some (.inl b), some (.inl p), none]) (st' := [.inl b]) (m' := m) (fun fx hfx o hk => ?_) ?_
      · refine r_ld (pc' := 96) hM_218 d_218_95 rfl rfl ?_
        exact hk
      exact ok_rt (fun fx _ => rt_i hM_218 d_218_96 rfl) H
    · have H := H.2 hz2
      obtain ⟨hz3, H⟩ := H
      refine ok_sg (pc' := 33) (ls' := [some (.inr (.inr (some 53))), some (.inl j), some (.inl b), some (.inl p), none]) (st' := [.inl ((if (0 ≤ am_s p ∧ am_s p < m 54 0) ∧ nv (m 54) (8 + (am_s p).toNat) = am_s 3 then 1 else 0))]) (m' := m) (fun fx hfx o hk => ?_) ?_
      · refine r_ld (pc' := 28) hM_218 d_218_27 rfl rfl ?_
        refine r_ld (pc' := 29) hM_218 d_218_28 rfl rfl ?_
        refine r_k (pc' := 30) (v := .inl 3) hM_218 d_218_29 rfl rfl ?_
        refine r_cl (pc' := 33) (c := (187, 0)) (a := [.inr (.inr (some 53)), .inl p, .inl 3]) (q := []) hM_218 d_218_30 rfl (by decide +kernel) hM_187 rfl rfl rfl (Nat.le_of_ble_eq_true rfl) (Nat.le_of_ble_eq_true rfl) (Or.inr rfl) (n_187  m p 3 hz3) (Nat.le_of_ble_eq_true rfl) ?_
        show rn fx 4 (0, 0) 218 33 [some (.inr (.inr (some 53))), some (.inl j), some (.inl b), some (.inl p), none] [.inl ((if (0 ≤ am_s p ∧ am_s p < m 54 0) ∧ nv (m 54) (8 + (am_s p).toNat) = am_s 3 then 1 else 0))] (st0 m) o
        exact hk
      refine ok_if (pc' := 89) (pc2 := 36) hM_218 d_218_33 (by decide) rfl (fun hz4 => ?_) (fun hz4 => ?_)
      · have H := H.1 (as_iteN.mp hz4)
        refine ok_sg (pc' := 9) (ls' := [some (.inr (.inr (some 53))), some (.inl j), some (.inl b), some (.inl (p + 1)), none]) (st' := []) (m' := m) (fun fx hfx o hk => ?_) ?_
        · refine r_sto (pc' := 92) (ls' := [some (.inr (.inr (some 53))), some (.inl j), some (.inl b), some (.inl (p + 1)), none]) hM_218 d_218_89 rfl rfl ?_
          refine r_go (pc' := 9) hM_218 d_218_92 (by decide) ?_
          exact hk
        exact H
      · have H := H.2 (as_ite.mp (Decidable.not_not.mp hz4))
        obtain ⟨hz5, H⟩ := H
        refine ok_sg (pc' := 51) (ls' := [some (.inr (.inr (some 53))), some (.inl j), some (.inl b), some (.inl p), none]) (st' := [.inl (am_lcmp (m 75 ((am_s ((40 * j) + p)).toNat)) 999)]) (m' := m) (fun fx hfx o hk => ?_) ?_
        · refine r_ld (pc' := 37) hM_218 d_218_36 rfl rfl ?_
          refine r_gR (pc' := 40) (v := 75) hM_218 d_218_37 rfl (by decide +kernel) ?_
          refine r_k (pc' := 42) (v := .inl 40) hM_218 d_218_40 rfl rfl ?_
          refine r_ld (pc' := 43) hM_218 d_218_42 rfl rfl ?_
          refine r_b (pc' := 44) (z := (40 * j)) hM_218 d_218_43 rfl rfl ?_
          refine r_ld (pc' := 45) hM_218 d_218_44 rfl rfl ?_
          refine r_b (pc' := 46) (z := ((40 * j) + p)) hM_218 d_218_45 rfl rfl ?_
          refine r_la (pc' := 47) (n := 160) hM_218 d_218_46 rfl rfl hz5 ?_
          refine r_k (pc' := 50) (v := .inr (.inl 999)) hM_218 d_218_47 rfl (by decide +kernel) ?_
          refine r_stk (pc' := 51) (st' := [.inl (am_lcmp (m 75 ((am_s ((40 * j) + p)).toNat)) 999)]) hM_218 d_218_50 rfl rfl ?_
          exact hk
        refine ok_if (pc' := 57) (pc2 := 54) hM_218 d_218_51 (by decide) rfl (fun hz6 => ?_) (fun hz6 => ?_)
        · have H := H.1 hz6
          obtain ⟨hz7, H⟩ := H
          refine ok_sg (pc' := 59) (ls' := [some (.inr (.inr (some 53))), some (.inl j), some (.inl b), some (.inl p), none]) (st' := [.inl p, .inr (.inr (some 53))]) (m' := m) (fun fx hfx o hk => ?_) ?_
          · refine r_ld (pc' := 58) hM_218 d_218_57 rfl rfl ?_
            refine r_ld (pc' := 59) hM_218 d_218_58 rfl rfl ?_
            exact hk
          refine ok_cl (pc' := 62) (c := (219, 0)) (a := [.inr (.inr (some 53)), .inl p]) (q := []) hM_218 d_218_59 rfl (by decide +kernel) hM_219 rfl rfl rfl (Nat.le_of_ble_eq_true rfl) (Nat.le_of_ble_eq_true rfl) (Or.inr rfl) (z_219  m p hz7) (Nat.le_of_ble_eq_true rfl) ?_
          rintro _ m1 ⟨v1, rfl, hz8⟩
          replace H := H v1 m1 hz8
          show ok 4 218 62 [some (.inr (.inr (some 53))), some (.inl j), some (.inl b), some (.inl p), none] [.inl v1] m1 Q
          refine ok_sg (pc' := 66) (ls' := [some (.inr (.inr (some 53))), some (.inl j), some (.inl b), some (.inl p), some (.inl v1)]) (st' := [.inl (-1), .inl b]) (m' := m1) (fun fx hfx o hk => ?_) ?_
          · refine r_sto (pc' := 64) (ls' := [some (.inr (.inr (some 53))), some (.inl j), some (.inl b), some (.inl p), some (.inl v1)]) hM_218 d_218_62 rfl rfl ?_
            refine r_ld (pc' := 65) hM_218 d_218_64 rfl rfl ?_
            refine r_k (pc' := 66) (v := .inl (-1)) hM_218 d_218_65 rfl rfl ?_
            exact hk
          refine ok_ic (pc' := 81) (pc2 := 69) hM_218 d_218_66 (by decide) rfl (fun hz9 => ?_) (fun hz9 => ?_)
          · have H := H.1 hz9
            refine ok_sg (pc' := 9) (ls' := [some (.inr (.inr (some 53))), some (.inl j), some (.inl p), some (.inl (p + 1)), none]) (st' := []) (m' := mu m1 53 21 v1) (fun fx hfx o hk => ?_) ?_
            · refine r_ld (pc' := 82) hM_218 d_218_81 rfl rfl ?_
              refine r_sto (pc' := 83) (ls' := [some (.inr (.inr (some 53))), some (.inl j), some (.inl p), some (.inl p), some (.inl v1)]) hM_218 d_218_82 rfl rfl ?_
              refine r_ld (pc' := 84) hM_218 d_218_83 rfl rfl ?_
              refine r_ld (pc' := 86) hM_218 d_218_84 rfl rfl ?_
              refine r_pI (pc' := 89) (k0 := 21) hM_218 d_218_86 rfl (by decide +kernel) ?_
              refine r_sto (pc' := 92) (ls' := [some (.inr (.inr (some 53))), some (.inl j), some (.inl p), some (.inl (p + 1)), some (.inl v1)]) hM_218 d_218_89 rfl rfl ?_
              refine r_go (pc' := 9) hM_218 d_218_92 (by decide) ?_
              refine rn_wk (a := [some (.inr (.inr (some 53))), some (.inl j), some (.inl p), some (.inl (p + 1)), none]) (by simp only [am_le, and_self]) ?_
              exact hk
            exact H
          · have H := H.2 hz9
            refine ok_sg (pc' := 75) (ls' := [some (.inr (.inr (some 53))), some (.inl j), some (.inl b), some (.inl p), some (.inl v1)]) (st' := [.inl (m1 53 21), .inl v1]) (m' := m1) (fun fx hfx o hk => ?_) ?_
            · refine r_ld (pc' := 71) hM_218 d_218_69 rfl rfl ?_
              refine r_ld (pc' := 72) hM_218 d_218_71 rfl rfl ?_
              refine r_gI (pc' := 75) (k0 := 21) hM_218 d_218_72 rfl (by decide +kernel) ?_
              exact hk
            refine ok_ic (pc' := 81) (pc2 := 78) hM_218 d_218_75 (by decide) rfl (fun hz10 => ?_) (fun hz10 => ?_)
            · have H := H.1 hz10
              refine ok_sg (pc' := 9) (ls' := [some (.inr (.inr (some 53))), some (.inl j), some (.inl p), some (.inl (p + 1)), none]) (st' := []) (m' := mu m1 53 21 v1) (fun fx hfx o hk => ?_) ?_
              · refine r_ld (pc' := 82) hM_218 d_218_81 rfl rfl ?_
                refine r_sto (pc' := 83) (ls' := [some (.inr (.inr (some 53))), some (.inl j), some (.inl p), some (.inl p), some (.inl v1)]) hM_218 d_218_82 rfl rfl ?_
                refine r_ld (pc' := 84) hM_218 d_218_83 rfl rfl ?_
                refine r_ld (pc' := 86) hM_218 d_218_84 rfl rfl ?_
                refine r_pI (pc' := 89) (k0 := 21) hM_218 d_218_86 rfl (by decide +kernel) ?_
                refine r_sto (pc' := 92) (ls' := [some (.inr (.inr (some 53))), some (.inl j), some (.inl p), some (.inl (p + 1)), some (.inl v1)]) hM_218 d_218_89 rfl rfl ?_
                refine r_go (pc' := 9) hM_218 d_218_92 (by decide) ?_
                refine rn_wk (a := [some (.inr (.inr (some 53))), some (.inl j), some (.inl p), some (.inl (p + 1)), none]) (by simp only [am_le, and_self]) ?_
                exact hk
              exact H
            · have H := H.2 hz10
              refine ok_sg (pc' := 9) (ls' := [some (.inr (.inr (some 53))), some (.inl j), some (.inl b), some (.inl (p + 1)), none]) (st' := []) (m' := m1) (fun fx hfx o hk => ?_) ?_
              · refine r_go (pc' := 89) hM_218 d_218_78 (by decide) ?_
                refine r_sto (pc' := 92) (ls' := [some (.inr (.inr (some 53))), some (.inl j), some (.inl b), some (.inl (p + 1)), some (.inl v1)]) hM_218 d_218_89 rfl rfl ?_
                refine r_go (pc' := 9) hM_218 d_218_92 (by decide) ?_
                refine rn_wk (a := [some (.inr (.inr (some 53))), some (.inl j), some (.inl b), some (.inl (p + 1)), none]) (by simp only [am_le, and_self]) ?_
                exact hk
              exact H
        · have H := H.2 hz6
          refine ok_sg (pc' := 9) (ls' := [some (.inr (.inr (some 53))), some (.inl j), some (.inl b), some (.inl (p + 1)), none]) (st' := []) (m' := m) (fun fx hfx o hk => ?_) ?_
          · refine r_go (pc' := 89) hM_218 d_218_54 (by decide) ?_
            refine r_sto (pc' := 92) (ls' := [some (.inr (.inr (some 53))), some (.inl j), some (.inl b), some (.inl (p + 1)), none]) hM_218 d_218_89 rfl rfl ?_
            refine r_go (pc' := 9) hM_218 d_218_92 (by decide) ?_
            exact hk
          exact H
theorem u_218_0 {Q : List am_V → am_M → Prop} {m : am_M} {j : Int}  (H : ok 4 218 9 [some (.inr (.inr (some 53))), some (.inl j), some (.inl (-1)), some (.inl 0), none] [] (mu m 53 21 0) Q) : ok 4 218 0 [some (.inr (.inr (some 53))), some (.inl j), none, none, none] [] m Q := by
  refine ok_sg (pc' := 9) (ls' := [some (.inr (.inr (some 53))), some (.inl j), some (.inl (-1)), some (.inl 0), none]) (st' := []) (m' := mu m 53 21 0) (fun fx hfx o hk => ?_) ?_
  · refine r_k (pc' := 1) (v := .inl (-1)) hM_218 d_218_0 rfl rfl ?_
    refine r_sto (pc' := 2) (ls' := [some (.inr (.inr (some 53))), some (.inl j), some (.inl (-1)), none, none]) hM_218 d_218_1 rfl rfl ?_
    refine r_ld (pc' := 3) hM_218 d_218_2 rfl rfl ?_
    refine r_k (pc' := 4) (v := .inl 0) hM_218 d_218_3 rfl rfl ?_
    refine r_pI (pc' := 7) (k0 := 21) hM_218 d_218_4 rfl (by decide +kernel) ?_
    refine r_k (pc' := 8) (v := .inl 0) hM_218 d_218_7 rfl rfl ?_
    refine r_sto (pc' := 9) (ls' := [some (.inr (.inr (some 53))), some (.inl j), some (.inl (-1)), some (.inl 0), none]) hM_218 d_218_8 rfl rfl ?_
    exact hk
  exact H
theorem z_218   (m : am_M) (j : Int) (hq : WFG (m 54) ∧ RWM m ∧ (0 ≤ j ∧ j < 4) ∧ FTD m j.toNat) : ok 4 218 0 (am_ent 5 [.inr (.inr (some 53)), .inl j]) [] m (fun rr m' => rr = [.inl ((nxk (nv (m 54)) (rwf m j.toNat)).1)] ∧ kpC m m' ∧ ((nxk (nv (m 54)) (rwf m j.toNat)).1 ≠ -1 → m' 53 21 = (nxk (nv (m 54)) (rwf m j.toNat)).2)) := by
  show ok 4 218 0 [some (.inr (.inr (some 53))), some (.inl j), none, none, none] [] m _
  obtain ⟨hw, hR, hj, hf⟩ := hq
  have hN := hw.1
  have hwn := WFG_nv hw
  have hF := may_lt (g := nv (m 54)) (nv0_le hw)
  obtain ⟨J, rfl⟩ : ∃ J : Nat, j = (J : Int) := ⟨j.toNat, by omega⟩
  rw [Int.toNat_natCast] at hf ⊢
  obtain ⟨hf1, hf2⟩ := hf
  obtain ⟨g1, g2, g3⟩ := hR J (by omega)
  have hcl := cf_le (Q := ftq (nv (m 54)) (rwf m J)) (may (nv (m 54)) + 1)
  have enx : nxk (nv (m 54)) (rwf m J) = if 2 ≤ cf (ftq (nv (m 54)) (rwf m J)) (may (nv (m 54)) + 1) then nxb (skp (nv (m 54)) (rwf m J)) (wor (nv (m 54)) (ftq (nv (m 54)) (rwf m J)) (may (nv (m 54)) + 1)) 0 (m 54 0).toNat else (-1, 0) := by
    unfold nxk
    rw [nv0]
  rw [enx]
  generalize hQv : ftq (nv (m 54)) (rwf m J) = Q at *
  generalize hFv : may (nv (m 54)) = F at *
  have hfk := fits_k hf2
  have hid : ∀ (p : Nat) (x : Int), cf (fun j => decide (hrd (nv (m 54)) p (m 59 j).toNat = x)) (cf Q (F + 1)) = cf (fun s => Q s && decide (hrd (nv (m 54)) p s = x)) (F + 1) := fun p x => cf_idx (P := fun s => decide (hrd (nv (m 54)) p s = x)) (f := fun j => (m 59 j).toNat) (F + 1) fun t ht hq => by show (m 59 (cf Q t)).toNat = t; rw [hf2 t (by omega) hq, Int.toNat_natCast]
  refine u_218_0 ?_
  by_cases hc : 2 ≤ cf Q (F + 1)
  · rw [if_pos hc]
    have hwr : ∀ p, 0 ≤ wor (nv (m 54)) Q (F + 1) p ∧ wor (nv (m 54)) Q (F + 1) p ≤ 32768 := fun p => wor_rng (by omega)
    have hmx : ∀ p, nv (m 54) (8 + p) ≠ 3 → MX (fun v => cf (fun s => Q s && decide (hrd (nv (m 54)) p s = v)) (F + 1)) (wor (nv (m 54)) Q (F + 1) p).toNat := fun p h => wor_MX h (by omega)
    generalize hwv : wor (nv (m 54)) Q (F + 1) = wv at *
    generalize hskv : skp (nv (m 54)) (rwf m J) = sk at *
    refine ok_for (σ := Unit) (fun p _ => [some (.inr (.inr (some 53))), some (.inl (J : Int)), some (.inl (nxb sk wv 0 p).1), some (.inl (p : Int)), none]) (fun p _ M => M 53 21 = (nxb sk wv 0 p).2 ∧ ∀ a k, a ≠ 60 → ¬ (a = 53 ∧ k = 21) → M a k = m a k) (m 54 0).toNat ?_ ?_ () _ ⟨mu_same, fun a k _ h => mu_o h⟩
    · rintro p hp - M ⟨h2, h3⟩ IH
      have f54 : M 54 = m 54 := funext fun k => h3 54 k (by omega) (by omega)
      have f59 : M 59 = m 59 := funext fun k => h3 59 k (by omega) (by omega)
      have f75 : M 75 = m 75 := funext fun k => h3 75 k (by omega) (by omega)
      have f19 : M 53 19 = m 53 19 := h3 53 19 (by omega) (by omega)
      have e1 : am_s (40 * (J : Int) + (p : Int)) = 40 * (J : Int) + (p : Int) := am_s_id (by omega) (by omega)
      have e2 : (40 * (J : Int) + (p : Int)).toNat = 40 * J + p := by omega
      have e3 : am_t (m 75 (40 * J + p)) = m 75 (40 * J + p) := g3 p (by omega)
      have hb := nxb_rng (sk := sk) (w := wv) (l := 0) p
      have hb2 := nxb_rng2 (sk := sk) (l := 0) hwr p
      have hwp := hwr p
      have hsk : sk p = decide (¬ (nv (m 54) (8 + p) ≠ 3 ∧ m 75 (40 * J + p) = 999)) := by rw [← hskv]; rfl
      have hst := nxb_s (sk := sk) (w := wv) (l := 0) (p := p)
      refine u_218_9 ?_
      rw [f54, f19, f59, f75, hf1, am_s_id (z := m 54 0) (by omega) (by omega), am_s_id (z := (p : Int)) (by omega) (by omega), am_s_id (z := ((cf Q (F + 1) : Nat) : Int)) (by omega) (by omega), Int.toNat_natCast, Int.toNat_natCast, e1, e2, lcmp_eq, e3, show am_t 999 = 999 from rfl, show am_s 3 = 3 from rfl, am_s_id (z := (nxb sk wv 0 p).1) (by omega) (by omega)]
      have kp : ∀ M', (∀ a k, a ≠ 60 → M' a k = M a k) → nxb sk wv 0 (p + 1) = nxb sk wv 0 p → ok 4 218 9 [some (.inr (.inr (some 53))), some (.inl (J : Int)), some (.inl (nxb sk wv 0 p).1), some (.inl ((p : Int) + 1)), none] [] M' (fun rr m' => rr = [.inl (nxb sk wv 0 (m 54 0).toNat).1] ∧ (kpC m m' ∧ ((nxb sk wv 0 (m 54 0).toNat).1 ≠ -1 → m' 53 21 = (nxb sk wv 0 (m 54 0).toNat).2))) := by
        intro M' hM e
        have := IH () M' ⟨by rw [e, hM 53 21 (by decide)]; exact h2, fun a k q1 q2 => by rw [hM a k q1]; exact h3 a k q1 q2⟩
        rw [e] at this
        exact this
      have nw : ∀ M', (∀ a k, a ≠ 60 → M' a k = M a k) → nxb sk wv 0 (p + 1) = ((p : Int), wv p) → ok 4 218 9 [some (.inr (.inr (some 53))), some (.inl (J : Int)), some (.inl (p : Int)), some (.inl ((p : Int) + 1)), none] [] (mu M' 53 21 (wv p)) (fun rr m' => rr = [.inl (nxb sk wv 0 (m 54 0).toNat).1] ∧ (kpC m m' ∧ ((nxb sk wv 0 (m 54 0).toNat).1 ≠ -1 → m' 53 21 = (nxb sk wv 0 (m 54 0).toNat).2))) := by
        intro M' hM e
        have := IH () (mu M' 53 21 (wv p)) ⟨by rw [e]; exact mu_same, fun a k q1 q2 => by rw [mu_o q2, hM a k q1]; exact h3 a k q1 q2⟩
        rw [e] at this
        exact this
      refine ⟨fun q => by omega, fun _ => ⟨fun q => by omega, fun _ => ⟨hw, fun q => kp M (fun _ _ _ => rfl) ?_, fun q => ⟨by omega, fun q2 => ⟨⟨hw, by omega, by omega, fun k hk => ?_⟩, fun v1 m1 hm1 => ?_⟩, fun q2 => kp M (fun _ _ _ => rfl) ?_⟩⟩⟩⟩
      · rw [hst, if_pos]
        rw [hsk, decide_eq_true_eq]
        exact fun k => k.1 q.2
      · obtain ⟨x1, x2, -, -⟩ := hfk k (by omega)
        omega
      · have hg3 : nv (m 54) (8 + p) ≠ 3 := fun k => q ⟨by omega, k⟩
        obtain ⟨⟨W, hW, hM⟩, hfr⟩ := hm1
        have hv1 : v1 = wv p := by
          have := MX_fun (MX_congr (fun x => hid p x) hM) (hmx p hg3)
          omega
        have hfr' : ∀ a k, a ≠ 60 → m1 a k = M a k := fun a k ha => by rw [hfr a ha]
        have hns : ¬ sk p = true := by
          rw [hsk, decide_eq_true_eq]
          exact fun k => k ⟨hg3, q2⟩
        rw [if_neg hns] at hst
        rw [hv1, am_s_id (z := wv p) (by omega) (by omega), hfr' 53 21 (by decide), h2]
        refine ⟨fun q3 => nw m1 hfr' ?_, fun q3 => ?_⟩
        · rw [hst, if_pos (Or.inl q3)]
        · have hb3 := hb2 q3
          rw [am_s_id (z := (nxb sk wv 0 p).2) (by omega) (by omega)]
          refine ⟨fun q4 => nw m1 hfr' ?_, fun q4 => kp m1 hfr' ?_⟩
          · rw [hst, if_pos (Or.inr q4)]
          · rw [hst, if_neg (by omega)]
      · rw [hst, if_pos]
        rw [hsk, decide_eq_true_eq]
        exact fun k => q2 k.2
    · rintro - M ⟨h2, h3⟩
      refine u_218_9 ?_
      rw [h3 54 0 (by omega) (by omega), am_s_id (z := m 54 0) (by omega) (by omega), am_s_id (z := (((m 54 0).toNat : Nat) : Int)) (by omega) (by omega)]
      refine ⟨fun _ => ⟨rfl, fun a k hc => h3 a k (by unfold core at hc; omega) (by unfold core at hc; omega), fun _ => h2⟩, fun q => by omega⟩
  · rw [if_neg hc]
    refine u_218_9 ?_
    have f19 : (mu m 53 21 0) 53 19 = m 53 19 := mu_o (by omega)
    have hk : kpC m (mu m 53 21 0) := kpC_mu (by unfold core; omega)
    rw [f19, hf1, am_s_id (z := ((cf Q (F + 1) : Nat) : Int)) (by omega) (by omega)]
    exact ⟨fun _ => ⟨rfl, hk, fun q => absurd rfl q⟩, fun _ => ⟨fun _ => ⟨rfl, hk, fun q => absurd rfl q⟩, fun q => by omega⟩⟩
theorem u_93_0 {Q : List am_V → am_M → Prop} {m : am_M} {a : Int}  (H : (RWS m ∧ WFG (vw m 2) ∧ am_s a = a) ∧ (∀ (m1 : am_M), (m1 = m) → ((am_s (kru m a) = 0) → (0 ≤ am_s a ∧ am_s a < (4 : Nat)) ∧ ((WFG (vw m1 2) ∧ RWC m1 (25 + 2 * (am_s a).toNat)) ∧ (∀ (m2 : am_M), (kpC m1 m2 ∧ ((nxk (nv (vw m1 2)) (fun x => rat m1 (25 + 2 * (am_s a).toNat) (x : Int))).1 ≠ -1 → m2 34 11 = (nxk (nv (vw m1 2)) (fun x => rat m1 (25 + 2 * (am_s a).toNat) (x : Int))).2)) → Q [.inl ((nxk (nv (vw m1 2)) (fun x => rat m1 (25 + 2 * (am_s a).toNat) (x : Int))).1)] m2))) ∧ ((¬ (am_s (kru m a) = 0)) → Q [.inl (kru m a)] m1))) : ok 6 93 0 [some (.inr (.inr (some 0))), some (.inl a), none] [] m Q := by
  obtain ⟨hz1, H⟩ := H
  refine ok_sg (pc' := 2) (ls' := [some (.inr (.inr (some 0))), some (.inl a), none]) (st' := [.inl a, .inr (.inr (some 0))]) (m' := m) (fun fx hfx o hk => ?_) ?_
  · refine r_ld (pc' := 1) hM_93 d_93_0 rfl rfl ?_
    refine r_ld (pc' := 2) hM_93 d_93_1 rfl rfl ?_
    exact hk
  refine ok_cl (pc' := 5) (c := (80, 0)) (a := [.inr (.inr (some 0)), .inl a]) (q := []) hM_93 d_93_2 rfl (by decide +kernel) hM_80 rfl rfl rfl (Nat.le_of_ble_eq_true rfl) (Nat.le_of_ble_eq_true rfl) (Or.inr rfl) (z_80  m a hz1) (Nat.le_of_ble_eq_true rfl) ?_
  rintro _ m1 ⟨rfl, hz2⟩
  replace H := H  m1 hz2
  show ok 6 93 5 [some (.inr (.inr (some 0))), some (.inl a), none] [.inl (kru m a)] m1 Q
  refine ok_sg (pc' := 7) (ls' := [some (.inr (.inr (some 0))), some (.inl a), some (.inl (kru m a))]) (st' := [.inl (kru m a)]) (m' := m1) (fun fx hfx o hk => ?_) ?_
  · refine r_sto (pc' := 6) (ls' := [some (.inr (.inr (some 0))), some (.inl a), some (.inl (kru m a))]) hM_93 d_93_5 rfl rfl ?_
    refine r_ld (pc' := 7) hM_93 d_93_6 rfl rfl ?_
    exact hk
  refine ok_if (pc' := 14) (pc2 := 10) hM_93 d_93_7 (by decide) rfl (fun hz3 => ?_) (fun hz3 => ?_)
  · have H := H.1 hz3
    obtain ⟨hz4, H⟩ := H
    obtain ⟨hz5, H⟩ := H
    refine ok_sg (pc' := 24) (ls' := [some (.inr (.inr (some 0))), some (.inl a), some (.inl (kru m a))]) (st' := [.inr (.inr (some (25 + 2 * (am_s a).toNat))), .inr (.inr (some 34))]) (m' := m1) (fun fx hfx o hk => ?_) ?_
    · refine r_ld (pc' := 15) hM_93 d_93_14 rfl rfl ?_
      refine r_gR (pc' := 18) (v := 34) hM_93 d_93_15 rfl (by decide +kernel) ?_
      refine r_ld (pc' := 19) hM_93 d_93_18 rfl rfl ?_
      refine r_gR (pc' := 22) (v := 14) hM_93 d_93_19 rfl (by decide +kernel) ?_
      refine r_ld (pc' := 23) hM_93 d_93_22 rfl rfl ?_
      refine r_aa (pc' := 24) (n := 4) hM_93 d_93_23 rfl rfl (by decide) hz4 (rfRows hz4).1 (shRk (rfRows hz4).2).1 ?_
      exact hk
    refine ok_cl (pc' := 27) (c := (94, 0)) (a := [.inr (.inr (some 34)), .inr (.inr (some (25 + 2 * (am_s a).toNat)))]) (q := []) hM_93 d_93_24 rfl (by decide +kernel) hM_94 rfl rfl rfl (Nat.le_of_ble_eq_true rfl) (Nat.le_of_ble_eq_true rfl) (Or.inr rfl) (z_94 ((rfRows hz4).2) m1  hz5) (Nat.le_of_ble_eq_true rfl) ?_
    rintro _ m2 ⟨rfl, hz6⟩
    replace H := H  m2 hz6
    show ok 6 93 27 [some (.inr (.inr (some 0))), some (.inl a), some (.inl (kru m a))] [.inl ((nxk (nv (vw m1 2)) (fun x => rat m1 (25 + 2 * (am_s a).toNat) (x : Int))).1)] m2 Q
    exact ok_rt (fun fx _ => rt_i hM_93 d_93_27 rfl) H
  · have H := H.2 hz3
    refine ok_sg (pc' := 27) (ls' := [some (.inr (.inr (some 0))), some (.inl a), some (.inl (kru m a))]) (st' := [.inl (kru m a)]) (m' := m1) (fun fx hfx o hk => ?_) ?_
    · refine r_ld (pc' := 11) hM_93 d_93_10 rfl rfl ?_
      refine r_go (pc' := 27) hM_93 d_93_11 (by decide) ?_
      exact hk
    exact ok_rt (fun fx _ => rt_i hM_93 d_93_27 rfl) H
theorem u_98_0 {Q : List am_V → am_M → Prop} {m : am_M} {a : Int}  (H : (RWS m ∧ WFG (vw m 2) ∧ am_s a = a) ∧ (∀ (m1 : am_M), (m1 = m) → ((am_s (kru m a) = 0) → (0 ≤ am_s a ∧ am_s a < (4 : Nat)) ∧ ((WFG (vw m1 2) ∧ RWC m1 (25 + 2 * (am_s a).toNat)) ∧ (∀ (m2 : am_M), (kpC m1 m2 ∧ ((nxk (nv (vw m1 2)) (fun x => rat m1 (25 + 2 * (am_s a).toNat) (x : Int))).1 ≠ -1 → m2 34 11 = (nxk (nv (vw m1 2)) (fun x => rat m1 (25 + 2 * (am_s a).toNat) (x : Int))).2)) → ∀ y1 : Int, y1 = (if ¬ am_s ((nxk (nv (vw m1 2)) (fun x => rat m1 (25 + 2 * (am_s a).toNat) (x : Int))).1) = (-1) then (m2 34 11) else (-1)) → Q [.inl y1] m2))) ∧ ((¬ (am_s (kru m a) = 0)) → Q [.inl (kru m a)] m1))) : ok 6 98 0 [some (.inr (.inr (some 0))), some (.inl a), none] [] m Q := by
  obtain ⟨hz1, H⟩ := H
  refine ok_sg (pc' := 2) (ls' := [some (.inr (.inr (some 0))), some (.inl a), none]) (st' := [.inl a, .inr (.inr (some 0))]) (m' := m) (fun fx hfx o hk => ?_) ?_
  · refine r_ld (pc' := 1) hM_98 d_98_0 rfl rfl ?_
    refine r_ld (pc' := 2) hM_98 d_98_1 rfl rfl ?_
    exact hk
  refine ok_cl (pc' := 5) (c := (80, 0)) (a := [.inr (.inr (some 0)), .inl a]) (q := []) hM_98 d_98_2 rfl (by decide +kernel) hM_80 rfl rfl rfl (Nat.le_of_ble_eq_true rfl) (Nat.le_of_ble_eq_true rfl) (Or.inr rfl) (z_80  m a hz1) (Nat.le_of_ble_eq_true rfl) ?_
  rintro _ m1 ⟨rfl, hz2⟩
  replace H := H  m1 hz2
  show ok 6 98 5 [some (.inr (.inr (some 0))), some (.inl a), none] [.inl (kru m a)] m1 Q
  refine ok_sg (pc' := 7) (ls' := [some (.inr (.inr (some 0))), some (.inl a), some (.inl (kru m a))]) (st' := [.inl (kru m a)]) (m' := m1) (fun fx hfx o hk => ?_) ?_
  · refine r_sto (pc' := 6) (ls' := [some (.inr (.inr (some 0))), some (.inl a), some (.inl (kru m a))]) hM_98 d_98_5 rfl rfl ?_
    refine r_ld (pc' := 7) hM_98 d_98_6 rfl rfl ?_
    exact hk
  refine ok_if (pc' := 12) (pc2 := 10) hM_98 d_98_7 (by decide) rfl (fun hz3 => ?_) (fun hz3 => ?_)
  · have H := H.1 hz3
    obtain ⟨hz4, H⟩ := H
    obtain ⟨hz5, H⟩ := H
    refine ok_sg (pc' := 22) (ls' := [some (.inr (.inr (some 0))), some (.inl a), some (.inl (kru m a))]) (st' := [.inr (.inr (some (25 + 2 * (am_s a).toNat))), .inr (.inr (some 34))]) (m' := m1) (fun fx hfx o hk => ?_) ?_
    · refine r_ld (pc' := 13) hM_98 d_98_12 rfl rfl ?_
      refine r_gR (pc' := 16) (v := 34) hM_98 d_98_13 rfl (by decide +kernel) ?_
      refine r_ld (pc' := 17) hM_98 d_98_16 rfl rfl ?_
      refine r_gR (pc' := 20) (v := 14) hM_98 d_98_17 rfl (by decide +kernel) ?_
      refine r_ld (pc' := 21) hM_98 d_98_20 rfl rfl ?_
      refine r_aa (pc' := 22) (n := 4) hM_98 d_98_21 rfl rfl (by decide) hz4 (rfRows hz4).1 (shRk (rfRows hz4).2).1 ?_
      exact hk
    refine ok_cl (pc' := 25) (c := (94, 0)) (a := [.inr (.inr (some 34)), .inr (.inr (some (25 + 2 * (am_s a).toNat)))]) (q := []) hM_98 d_98_22 rfl (by decide +kernel) hM_94 rfl rfl rfl (Nat.le_of_ble_eq_true rfl) (Nat.le_of_ble_eq_true rfl) (Or.inr rfl) (z_94 ((rfRows hz4).2) m1  hz5) (Nat.le_of_ble_eq_true rfl) ?_
    rintro _ m2 ⟨rfl, hz6⟩
    replace H := H  m2 hz6
    show ok 6 98 25 [some (.inr (.inr (some 0))), some (.inl a), some (.inl (kru m a))] [.inl ((nxk (nv (vw m1 2)) (fun x => rat m1 (25 + 2 * (am_s a).toNat) (x : Int))).1)] m2 Q
    refine ok_sg (pc' := 26) (ls' := [some (.inr (.inr (some 0))), some (.inl a), some (.inl (kru m a))]) (st' := [.inl (-1), .inl ((nxk (nv (vw m1 2)) (fun x => rat m1 (25 + 2 * (am_s a).toNat) (x : Int))).1)]) (m' := m2) (fun fx hfx o hk => ?_) ?_
    · refine r_k (pc' := 26) (v := .inl (-1)) hM_98 d_98_25 rfl rfl ?_
      exact hk
    refine ok_sg (pc' := 40) (ls' := [some (.inr (.inr (some 0))), some (.inl a), some (.inl (kru m a))]) (st' := [.inl (if ¬ am_s ((nxk (nv (vw m1 2)) (fun x => rat m1 (25 + 2 * (am_s a).toNat) (x : Int))).1) = (-1) then (m2 34 11) else (-1))]) (m' := m2) (fun fx hfx o K => ?_) ?_
    · refine r_ic (pc' := 33) (pc2 := 29) hM_98 d_98_26 (by decide) rfl (fun hz7 => ?_) (fun hz7 => ?_)
      · have hz7 : ¬ am_s ((nxk (nv (vw m1 2)) (fun x => rat m1 (25 + 2 * (am_s a).toNat) (x : Int))).1) = (-1) := hz7
        rw [if_pos hz7] at K
        refine r_ld (pc' := 34) hM_98 d_98_33 rfl rfl ?_
        refine r_gR (pc' := 37) (v := 34) hM_98 d_98_34 rfl (by decide +kernel) ?_
        refine r_gI (pc' := 40) (k0 := 11) hM_98 d_98_37 rfl (by decide +kernel) ?_
        exact K
      · have hz7 : ¬ (¬ am_s ((nxk (nv (vw m1 2)) (fun x => rat m1 (25 + 2 * (am_s a).toNat) (x : Int))).1) = (-1)) := hz7
        rw [if_neg hz7] at K
        refine r_k (pc' := 30) (v := .inl (-1)) hM_98 d_98_29 rfl rfl ?_
        refine r_go (pc' := 40) hM_98 d_98_30 (by decide) ?_
        exact K
    have K : ∀ y1 : Int, y1 = (if ¬ am_s ((nxk (nv (vw m1 2)) (fun x => rat m1 (25 + 2 * (am_s a).toNat) (x : Int))).1) = (-1) then (m2 34 11) else (-1)) → ok 6 98 40 [some (.inr (.inr (some 0))), some (.inl a), some (.inl (kru m a))] [.inl y1] m2 Q := by
      intro y1 hy1
      replace H := H y1 hy1
      exact ok_rt (fun fx _ => rt_i hM_98 d_98_40 rfl) H
    exact K _ rfl
  · have H := H.2 hz3
    refine ok_sg (pc' := 11) (ls' := [some (.inr (.inr (some 0))), some (.inl a), some (.inl (kru m a))]) (st' := [.inl (kru m a)]) (m' := m1) (fun fx hfx o hk => ?_) ?_
    · refine r_ld (pc' := 11) hM_98 d_98_10 rfl rfl ?_
      exact hk
    exact ok_rt (fun fx _ => rt_i hM_98 d_98_11 rfl) H
theorem u_217_0 {Q : List am_V → am_M → Prop} {m : am_M} {a : Int}  (H : (WFG ((mu m 53 0 0) 54) ∧ RWM (mu m 53 0 0) ∧ am_s a = a) ∧ (∀ (m1 : am_M), ((krm (mu m 53 0 0) a ≠ 0 → m1 = (mu m 53 0 0)) ∧ (krm (mu m 53 0 0) a = 0 → FITS (mu m 53 0 0) a.toNat m1)) → ((am_s (krm (mu m 53 0 0) a) = 0) → (WFG (m1 54) ∧ RWM m1 ∧ (0 ≤ a ∧ a < 4) ∧ FTD m1 a.toNat) ∧ (∀ (m2 : am_M), (kpC m1 m2 ∧ ((nxk (nv (m1 54)) (rwf m1 a.toNat)).1 ≠ -1 → m2 53 21 = (nxk (nv (m1 54)) (rwf m1 a.toNat)).2)) → Q [.inl ((nxk (nv (m1 54)) (rwf m1 a.toNat)).1)] m2)) ∧ ((¬ (am_s (krm (mu m 53 0 0) a) = 0)) → Q [.inl (krm (mu m 53 0 0) a)] m1))) : ok 5 217 0 [some (.inr (.inr (some 53))), some (.inl a), none] [] m Q := by
  obtain ⟨hz1, H⟩ := H
  refine ok_sg (pc' := 7) (ls' := [some (.inr (.inr (some 53))), some (.inl a), none]) (st' := [.inl a, .inr (.inr (some 53))]) (m' := mu m 53 0 0) (fun fx hfx o hk => ?_) ?_
  · refine r_ld (pc' := 1) hM_217 d_217_0 rfl rfl ?_
    refine r_k (pc' := 2) (v := .inl 0) hM_217 d_217_1 rfl rfl ?_
    refine r_pI (pc' := 5) (k0 := 0) hM_217 d_217_2 rfl (by decide +kernel) ?_
    refine r_ld (pc' := 6) hM_217 d_217_5 rfl rfl ?_
    refine r_ld (pc' := 7) hM_217 d_217_6 rfl rfl ?_
    exact hk
  refine ok_cl (pc' := 10) (c := (213, 0)) (a := [.inr (.inr (some 53)), .inl a]) (q := []) hM_217 d_217_7 rfl (by decide +kernel) hM_213 rfl rfl rfl (Nat.le_of_ble_eq_true rfl) (Nat.le_of_ble_eq_true rfl) (Or.inr rfl) (z_213  (mu m 53 0 0) a hz1) (Nat.le_of_ble_eq_true rfl) ?_
  rintro _ m1 ⟨rfl, hz2⟩
  replace H := H  m1 hz2
  show ok 5 217 10 [some (.inr (.inr (some 53))), some (.inl a), none] [.inl (krm (mu m 53 0 0) a)] m1 Q
  refine ok_sg (pc' := 12) (ls' := [some (.inr (.inr (some 53))), some (.inl a), some (.inl (krm (mu m 53 0 0) a))]) (st' := [.inl (krm (mu m 53 0 0) a)]) (m' := m1) (fun fx hfx o hk => ?_) ?_
  · refine r_sto (pc' := 11) (ls' := [some (.inr (.inr (some 53))), some (.inl a), some (.inl (krm (mu m 53 0 0) a))]) hM_217 d_217_10 rfl rfl ?_
    refine r_ld (pc' := 12) hM_217 d_217_11 rfl rfl ?_
    exact hk
  refine ok_if (pc' := 19) (pc2 := 15) hM_217 d_217_12 (by decide) rfl (fun hz3 => ?_) (fun hz3 => ?_)
  · have H := H.1 hz3
    obtain ⟨hz4, H⟩ := H
    refine ok_sg (pc' := 21) (ls' := [some (.inr (.inr (some 53))), some (.inl a), some (.inl (krm (mu m 53 0 0) a))]) (st' := [.inl a, .inr (.inr (some 53))]) (m' := m1) (fun fx hfx o hk => ?_) ?_
    · refine r_ld (pc' := 20) hM_217 d_217_19 rfl rfl ?_
      refine r_ld (pc' := 21) hM_217 d_217_20 rfl rfl ?_
      exact hk
    refine ok_cl (pc' := 24) (c := (218, 0)) (a := [.inr (.inr (some 53)), .inl a]) (q := []) hM_217 d_217_21 rfl (by decide +kernel) hM_218 rfl rfl rfl (Nat.le_of_ble_eq_true rfl) (Nat.le_of_ble_eq_true rfl) (Or.inr rfl) (z_218  m1 a hz4) (Nat.le_of_ble_eq_true rfl) ?_
    rintro _ m2 ⟨rfl, hz5⟩
    replace H := H  m2 hz5
    show ok 5 217 24 [some (.inr (.inr (some 53))), some (.inl a), some (.inl (krm (mu m 53 0 0) a))] [.inl ((nxk (nv (m1 54)) (rwf m1 a.toNat)).1)] m2 Q
    exact ok_rt (fun fx _ => rt_i hM_217 d_217_24 rfl) H
  · have H := H.2 hz3
    refine ok_sg (pc' := 24) (ls' := [some (.inr (.inr (some 53))), some (.inl a), some (.inl (krm (mu m 53 0 0) a))]) (st' := [.inl (krm (mu m 53 0 0) a)]) (m' := m1) (fun fx hfx o hk => ?_) ?_
    · refine r_ld (pc' := 16) hM_217 d_217_15 rfl rfl ?_
      refine r_go (pc' := 24) hM_217 d_217_16 (by decide) ?_
      exact hk
    exact ok_rt (fun fx _ => rt_i hM_217 d_217_24 rfl) H
theorem u_220_0 {Q : List am_V → am_M → Prop} {m : am_M} {a : Int}  (H : (WFG ((mu m 53 0 0) 54) ∧ RWM (mu m 53 0 0) ∧ am_s a = a) ∧ (∀ (m1 : am_M), ((krm (mu m 53 0 0) a ≠ 0 → m1 = (mu m 53 0 0)) ∧ (krm (mu m 53 0 0) a = 0 → FITS (mu m 53 0 0) a.toNat m1)) → ((am_s (krm (mu m 53 0 0) a) = 0) → (WFG (m1 54) ∧ RWM m1 ∧ (0 ≤ a ∧ a < 4) ∧ FTD m1 a.toNat) ∧ (∀ (m2 : am_M), (kpC m1 m2 ∧ ((nxk (nv (m1 54)) (rwf m1 a.toNat)).1 ≠ -1 → m2 53 21 = (nxk (nv (m1 54)) (rwf m1 a.toNat)).2)) → ∀ y1 : Int, y1 = (if ¬ am_s ((nxk (nv (m1 54)) (rwf m1 a.toNat)).1) = (-1) then (m2 53 21) else (-1)) → Q [.inl y1] m2)) ∧ ((¬ (am_s (krm (mu m 53 0 0) a) = 0)) → Q [.inl (krm (mu m 53 0 0) a)] m1))) : ok 5 220 0 [some (.inr (.inr (some 53))), some (.inl a), none] [] m Q := by
  obtain ⟨hz1, H⟩ := H
  refine ok_sg (pc' := 7) (ls' := [some (.inr (.inr (some 53))), some (.inl a), none]) (st' := [.inl a, .inr (.inr (some 53))]) (m' := mu m 53 0 0) (fun fx hfx o hk => ?_) ?_
  · refine r_ld (pc' := 1) hM_220 d_220_0 rfl rfl ?_
    refine r_k (pc' := 2) (v := .inl 0) hM_220 d_220_1 rfl rfl ?_
    refine r_pI (pc' := 5) (k0 := 0) hM_220 d_220_2 rfl (by decide +kernel) ?_
    refine r_ld (pc' := 6) hM_220 d_220_5 rfl rfl ?_
    refine r_ld (pc' := 7) hM_220 d_220_6 rfl rfl ?_
    exact hk
  refine ok_cl (pc' := 10) (c := (213, 0)) (a := [.inr (.inr (some 53)), .inl a]) (q := []) hM_220 d_220_7 rfl (by decide +kernel) hM_213 rfl rfl rfl (Nat.le_of_ble_eq_true rfl) (Nat.le_of_ble_eq_true rfl) (Or.inr rfl) (z_213  (mu m 53 0 0) a hz1) (Nat.le_of_ble_eq_true rfl) ?_
  rintro _ m1 ⟨rfl, hz2⟩
  replace H := H  m1 hz2
  show ok 5 220 10 [some (.inr (.inr (some 53))), some (.inl a), none] [.inl (krm (mu m 53 0 0) a)] m1 Q
  refine ok_sg (pc' := 12) (ls' := [some (.inr (.inr (some 53))), some (.inl a), some (.inl (krm (mu m 53 0 0) a))]) (st' := [.inl (krm (mu m 53 0 0) a)]) (m' := m1) (fun fx hfx o hk => ?_) ?_
  · refine r_sto (pc' := 11) (ls' := [some (.inr (.inr (some 53))), some (.inl a), some (.inl (krm (mu m 53 0 0) a))]) hM_220 d_220_10 rfl rfl ?_
    refine r_ld (pc' := 12) hM_220 d_220_11 rfl rfl ?_
    exact hk
  refine ok_if (pc' := 17) (pc2 := 15) hM_220 d_220_12 (by decide) rfl (fun hz3 => ?_) (fun hz3 => ?_)
  · have H := H.1 hz3
    obtain ⟨hz4, H⟩ := H
    refine ok_sg (pc' := 19) (ls' := [some (.inr (.inr (some 53))), some (.inl a), some (.inl (krm (mu m 53 0 0) a))]) (st' := [.inl a, .inr (.inr (some 53))]) (m' := m1) (fun fx hfx o hk => ?_) ?_
    · refine r_ld (pc' := 18) hM_220 d_220_17 rfl rfl ?_
      refine r_ld (pc' := 19) hM_220 d_220_18 rfl rfl ?_
      exact hk
    refine ok_cl (pc' := 22) (c := (218, 0)) (a := [.inr (.inr (some 53)), .inl a]) (q := []) hM_220 d_220_19 rfl (by decide +kernel) hM_218 rfl rfl rfl (Nat.le_of_ble_eq_true rfl) (Nat.le_of_ble_eq_true rfl) (Or.inr rfl) (z_218  m1 a hz4) (Nat.le_of_ble_eq_true rfl) ?_
    rintro _ m2 ⟨rfl, hz5⟩
    replace H := H  m2 hz5
    show ok 5 220 22 [some (.inr (.inr (some 53))), some (.inl a), some (.inl (krm (mu m 53 0 0) a))] [.inl ((nxk (nv (m1 54)) (rwf m1 a.toNat)).1)] m2 Q
    refine ok_sg (pc' := 23) (ls' := [some (.inr (.inr (some 53))), some (.inl a), some (.inl (krm (mu m 53 0 0) a))]) (st' := [.inl (-1), .inl ((nxk (nv (m1 54)) (rwf m1 a.toNat)).1)]) (m' := m2) (fun fx hfx o hk => ?_) ?_
    · refine r_k (pc' := 23) (v := .inl (-1)) hM_220 d_220_22 rfl rfl ?_
      exact hk
    refine ok_sg (pc' := 34) (ls' := [some (.inr (.inr (some 53))), some (.inl a), some (.inl (krm (mu m 53 0 0) a))]) (st' := [.inl (if ¬ am_s ((nxk (nv (m1 54)) (rwf m1 a.toNat)).1) = (-1) then (m2 53 21) else (-1))]) (m' := m2) (fun fx hfx o K => ?_) ?_
    · refine r_ic (pc' := 30) (pc2 := 26) hM_220 d_220_23 (by decide) rfl (fun hz6 => ?_) (fun hz6 => ?_)
      · have hz6 : ¬ am_s ((nxk (nv (m1 54)) (rwf m1 a.toNat)).1) = (-1) := hz6
        rw [if_pos hz6] at K
        refine r_ld (pc' := 31) hM_220 d_220_30 rfl rfl ?_
        refine r_gI (pc' := 34) (k0 := 21) hM_220 d_220_31 rfl (by decide +kernel) ?_
        exact K
      · have hz6 : ¬ (¬ am_s ((nxk (nv (m1 54)) (rwf m1 a.toNat)).1) = (-1)) := hz6
        rw [if_neg hz6] at K
        refine r_k (pc' := 27) (v := .inl (-1)) hM_220 d_220_26 rfl rfl ?_
        refine r_go (pc' := 34) hM_220 d_220_27 (by decide) ?_
        exact K
    have K : ∀ y1 : Int, y1 = (if ¬ am_s ((nxk (nv (m1 54)) (rwf m1 a.toNat)).1) = (-1) then (m2 53 21) else (-1)) → ok 5 220 34 [some (.inr (.inr (some 53))), some (.inl a), some (.inl (krm (mu m 53 0 0) a))] [.inl y1] m2 Q := by
      intro y1 hy1
      replace H := H y1 hy1
      exact ok_rt (fun fx _ => rt_i hM_220 d_220_34 rfl) H
    exact K _ rfl
  · have H := H.2 hz3
    refine ok_sg (pc' := 16) (ls' := [some (.inr (.inr (some 53))), some (.inl a), some (.inl (krm (mu m 53 0 0) a))]) (st' := [.inl (krm (mu m 53 0 0) a)]) (m' := m1) (fun fx hfx o hk => ?_) ?_
    · refine r_ld (pc' := 16) hM_220 d_220_15 rfl rfl ?_
      exact hk
    exact ok_rt (fun fx _ => rt_i hM_220 d_220_16 rfl) H
/-- the class's numbers of a row are the model's -/
theorem row_eq {m : am_M} {J : Nat} (hI : Inv m) (hJ : J < 4) (h0 : 0 ≤ m (25 + 2 * J) 2) (h : m (25 + 2 * J) 2 = m 2 4) : ∀ p : Nat, (p : Int) < nv (m 54) 0 → (fun x : Nat => rat m (25 + 2 * J) (x : Int)) p = rwf m J p := by
  intro p hp
  rw [nv0, ← Inv_N hI, ← h] at hp
  show rat m (25 + 2 * J) (p : Int) = rwf m J p
  rw [rat_in hp]
  rcases Inv_row hI hJ with ⟨k1, k2⟩ | ⟨k1, k2, k3, k4⟩
  · omega
  · exact (k4 p (by omega)).symm
/-- what the model has, when it has laid what fits -/
theorem mod_fit {m m1 m2 : am_M} {J : Nat} (hI : Inv m) (hk : kpC m m1) (hf : FITS (mu m1 53 0 0) J m2) : WFG (m2 54) ∧ RWM m2 ∧ FTD m2 J ∧ nv (m2 54) = nv (m 54) ∧ rwf m2 J = rwf m J ∧ Inv m2 ∧ kpC m m2 := by
  obtain ⟨w1, w2, w3, w4, w5, w6, w7⟩ := mod_pre (a := 0) hI hk
  have hK := FITS_kpC hf
  have h2 : kpC m m2 := kpC_trans w7 hK
  have hI2 := Inv_kpC h2 hI
  have e54 : nv (m2 54) = nv (m 54) := by rw [kpC_f h2 (a := 54) (by omega)]
  have e75 : rwf m2 J = rwf m J := by
    unfold rwf
    rw [kpC_f h2 (a := 75) (by omega)]
  refine ⟨Inv_wf hI2, Inv_RWM hI2, ?_, e54, e75, hI2, h2⟩
  unfold FTD
  unfold FITS at hf
  rw [w4, w5] at hf
  rw [e54, e75]
  exact ⟨hf.1, hf.2.1⟩
theorem P_next {m : am_M} {a : Int} (ha : am_s a = a) (hI : Inv m) : PK 93 3 217 3 [.inl a] m := by
  have hR := Inv_RWS hI
  have hv := Inv_vw hI
  have hw := Inv_wf hI
  by_cases c : kru m a = 0
  · obtain ⟨c1, c2, c3⟩ := kru_0 c
    obtain ⟨J, rfl⟩ : ∃ J : Nat, a = (J : Int) := ⟨a.toNat, by omega⟩
    rw [Int.toNat_natCast] at c2 c3
    have eX : nxk (nv (m 54)) (fun x => rat m (25 + 2 * J) (x : Int)) = nxk (nv (m 54)) (rwf m J) := nxk_congr (row_eq hI (by omega) c2 c3)
    have hX := nxk_rng (f := rwf m J) (WFG_nv hw)
    have eS : am_s (nxk (nv (m 54)) (rwf m J)).1 = (nxk (nv (m 54)) (rwf m J)).1 := am_s_id (by omega) (by omega)
    refine PK_2 (h1 := 6) (h2 := 5) (v := .inl (nxk (nv (m 54)) (rwf m J)).1) (R := fun m1 => kpC m m1) ?_ ?_ (by decide) (by decide)
    · refine u_93_0 ⟨⟨hR, hv, ha⟩, ?_⟩
      intro mx hmx
      obtain rfl := hmx.symm
      rw [kru_s, ha, Int.toNat_natCast, Inv_nv hI, eX]
      refine ⟨fun _ => ⟨by omega, ⟨hv, hR J (by omega)⟩, fun m2 hm => ?_⟩, fun q => absurd c q⟩
      exact ⟨rfl, hm.1⟩
    · intro m1 hk
      obtain ⟨w1, w2, w3, w4, w5, w6, -⟩ := mod_pre (a := (J : Int)) hI hk
      refine u_217_0 ⟨⟨w1, w2, ha⟩, fun m2 hm => ?_⟩
      rw [w3] at hm ⊢
      rw [kru_s, Int.toNat_natCast]
      have hf := hm.2 c
      rw [Int.toNat_natCast] at hf
      obtain ⟨x1, x2, x3, x4, x5, x6, x7⟩ := mod_fit hI hk hf
      rw [x4, x5]
      refine ⟨fun _ => ⟨⟨x1, x2, by omega, x3⟩, fun m3 hm3 => ?_⟩, fun q => absurd c q⟩
      exact ⟨rfl, Inv_kpC hm3.1 x6⟩
  · refine PK_2 (h1 := 6) (h2 := 5) (v := .inl (kru m a)) (R := fun m1 => m = m1) ?_ ?_ (by decide) (by decide)
    · refine u_93_0 ⟨⟨hR, hv, ha⟩, ?_⟩
      intro mx hmx
      obtain rfl := hmx.symm
      rw [kru_s]
      exact ⟨fun q => absurd q c, fun _ => ⟨rfl, rfl⟩⟩
    · rintro _ rfl
      obtain ⟨w1, w2, w3, w4, w5, w6, -⟩ := mod_pre (a := a) hI (kpC_refl m)
      refine u_217_0 ⟨⟨w1, w2, ha⟩, fun m2 hm => ?_⟩
      rw [w3] at hm
      have hm2 := hm.1 c
      subst hm2
      rw [w3, kru_s]
      exact ⟨fun q => absurd q c, fun _ => ⟨rfl, w6⟩⟩
theorem P_worst {m : am_M} {a : Int} (ha : am_s a = a) (hI : Inv m) : PK 98 3 220 3 [.inl a] m := by
  have hR := Inv_RWS hI
  have hv := Inv_vw hI
  have hw := Inv_wf hI
  by_cases c : kru m a = 0
  · obtain ⟨c1, c2, c3⟩ := kru_0 c
    obtain ⟨J, rfl⟩ : ∃ J : Nat, a = (J : Int) := ⟨a.toNat, by omega⟩
    rw [Int.toNat_natCast] at c2 c3
    have eX : nxk (nv (m 54)) (fun x => rat m (25 + 2 * J) (x : Int)) = nxk (nv (m 54)) (rwf m J) := nxk_congr (row_eq hI (by omega) c2 c3)
    have hX := nxk_rng (f := rwf m J) (WFG_nv hw)
    have eS : am_s (nxk (nv (m 54)) (rwf m J)).1 = (nxk (nv (m 54)) (rwf m J)).1 := am_s_id (by omega) (by omega)
    refine PK_2 (h1 := 6) (h2 := 5) (v := .inl (if (nxk (nv (m 54)) (rwf m J)).1 = -1 then -1 else (nxk (nv (m 54)) (rwf m J)).2)) (R := fun m1 => kpC m m1) ?_ ?_ (by decide) (by decide)
    · refine u_98_0 ⟨⟨hR, hv, ha⟩, ?_⟩
      intro mx hmx
      obtain rfl := hmx.symm
      rw [kru_s, ha, Int.toNat_natCast, Inv_nv hI, eX]
      refine ⟨fun _ => ⟨by omega, ⟨hv, hR J (by omega)⟩, fun m2 hm => ?_⟩, fun q => absurd c q⟩
      intro y hy
      rw [eS] at hy
      refine ⟨?_, hm.1⟩
      by_cases h : (nxk (nv (m 54)) (rwf m J)).1 = -1
      · rw [hy, if_neg (not_not_intro h), if_pos h]
      · rw [hy, if_pos h, if_neg h, hm.2 h]
    · intro m1 hk
      obtain ⟨w1, w2, w3, w4, w5, w6, -⟩ := mod_pre (a := (J : Int)) hI hk
      refine u_220_0 ⟨⟨w1, w2, ha⟩, fun m2 hm => ?_⟩
      rw [w3] at hm ⊢
      rw [kru_s, Int.toNat_natCast]
      have hf := hm.2 c
      rw [Int.toNat_natCast] at hf
      obtain ⟨x1, x2, x3, x4, x5, x6, x7⟩ := mod_fit hI hk hf
      rw [x4, x5]
      refine ⟨fun _ => ⟨⟨x1, x2, by omega, x3⟩, fun m3 hm3 => ?_⟩, fun q => absurd c q⟩
      intro y hy
      rw [eS] at hy
      refine ⟨?_, Inv_kpC hm3.1 x6⟩
      by_cases h : (nxk (nv (m 54)) (rwf m J)).1 = -1
      · rw [hy, if_neg (not_not_intro h), if_pos h]
      · rw [hy, if_pos h, if_neg h, hm3.2 h]
  · refine PK_2 (h1 := 6) (h2 := 5) (v := .inl (kru m a)) (R := fun m1 => m = m1) ?_ ?_ (by decide) (by decide)
    · refine u_98_0 ⟨⟨hR, hv, ha⟩, ?_⟩
      intro mx hmx
      obtain rfl := hmx.symm
      rw [kru_s]
      exact ⟨fun q => absurd q c, fun _ => ⟨rfl, rfl⟩⟩
    · rintro _ rfl
      obtain ⟨w1, w2, w3, w4, w5, w6, -⟩ := mod_pre (a := a) hI (kpC_refl m)
      refine u_220_0 ⟨⟨w1, w2, ha⟩, fun m2 hm => ?_⟩
      rw [w3] at hm
      have hm2 := hm.1 c
      subst hm2
      rw [w3, kru_s]
      exact ⟨fun q => absurd q c, fun _ => ⟨rfl, w6⟩⟩
