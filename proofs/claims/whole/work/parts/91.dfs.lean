/-! the model lays all ways -/
noncomputable def SI (g : Nat → Int) (U : Nat) : Nat := msk (fun j => if U.testBit (spx g j) = true then 1 else 0) 1 (BN g)
def LI (g : Nat → Int) (m : am_M) (P : Nat) : Nat := cf (ngp g) (m 71 (P - 1)).toNat
theorem SI_bit {g : Nat → Int} {U j : Nat} (hj : j < BN g) : (SI g U).testBit j = U.testBit (spx g j) := by
  unfold SI
  rw [msk_bit, decide_eq_true hj, Bool.true_and]
  cases h : U.testBit (spx g j)
  · exact decide_eq_false (by rw [if_neg (by decide)]; decide)
  · exact decide_eq_true (by rw [if_pos rfl])
theorem SI_lt {g : Nat → Int} {U : Nat} : SI g U < 2 ^ BN g := msk_lt _ _ _
theorem rk_lt {g : Nat → Int} {q : Nat} (hq : q < (g 0).toNat) (hn : ngp g q = true) : cf (ngp g) q < BN g := cf_lt hq hn
theorem SI_rk {g : Nat → Int} {U q : Nat} (hq : q < (g 0).toNat) (hn : ngp g q = true) : (SI g U).testBit (cf (ngp g) q) = U.testBit q := by
  rw [SI_bit (rk_lt hq hn), spx_rk hq hn]
theorem SI_or {g : Nat → Int} {U q : Nat} (hq : q < (g 0).toNat) (hn : ngp g q = true) : SI g (U ||| 2 ^ q) = SI g U ||| 2 ^ cf (ngp g) q := by
  have hrl := rk_lt hq hn
  apply Nat.eq_of_testBit_eq
  intro i
  by_cases hi : i < BN g
  · rw [SI_bit hi, Nat.testBit_or, Nat.testBit_or, SI_bit hi, Nat.testBit_two_pow, Nat.testBit_two_pow]
    congr 1
    apply decide_eq_decide.mpr
    constructor
    · intro h
      rw [h]
      exact (spx_ok hi).2.2
    · intro h
      rw [← h, spx_rk hq hn]
  · have hp : 2 ^ BN g ≤ 2 ^ i := Nat.pow_le_pow_right (by decide) (by omega)
    have h1 : SI g (U ||| 2 ^ q) < 2 ^ i := Nat.lt_of_lt_of_le SI_lt hp
    have h2 : SI g U ||| 2 ^ cf (ngp g) q < 2 ^ BN g := Nat.or_lt_two_pow SI_lt (Nat.pow_lt_pow_right (by decide) hrl)
    rw [Nat.testBit_lt_two_pow h1, Nat.testBit_lt_two_pow (Nat.lt_of_lt_of_le h2 hp)]
theorem rk_s {g : Nat → Int} {q : Nat} : cf (ngp g) (q + 1) = cf (ngp g) q + if ngp g q = true then 1 else 0 := rfl
/-- what stands beside is told by the places -/
theorem adj_iff {g : Nat → Int} {P : Nat} (hP : P < (g 0).toNat) (hn : ngp g P = true) : adj g (cf (ngp g) P) = true ↔ 1 ≤ P ∧ ngp g (P - 1) = true := by
  unfold adj
  rw [decide_eq_true_eq, spx_rk hP hn]
  constructor
  · rintro ⟨h1, h2⟩
    have hr := rk_lt hP hn
    obtain ⟨s1, s2, s3⟩ := spx_ok (g := g) (j := cf (ngp g) P - 1) (by omega)
    have : P - 1 = spx g (cf (ngp g) P - 1) := by omega
    rw [this]
    exact ⟨by omega, s2⟩
  · rintro ⟨h1, h2⟩
    have hs := rk_s (g := g) (q := P - 1)
    rw [show P - 1 + 1 = P by omega, if_pos h2] at hs
    rw [hs, show cf (ngp g) (P - 1) + 1 - 1 = cf (ngp g) (P - 1) by omega, spx_rk (by omega) h2]
    exact ⟨by omega, by omega⟩
theorem adj_gap {g : Nat → Int} {P : Nat} (hP : P < (g 0).toNat) (hn : ngp g P = false) (hB : cf (ngp g) P < BN g) : adj g (cf (ngp g) P) = false := by
  unfold adj
  refine decide_eq_false ?_
  rintro ⟨h1, h2⟩
  obtain ⟨s1, s2, s3⟩ := spx_ok hB
  obtain ⟨t1, t2, t3⟩ := spx_ok (g := g) (j := cf (ngp g) P - 1) (by omega)
  have a1 : P < spx g (cf (ngp g) P) := by
    rcases Nat.lt_trichotomy P (spx g (cf (ngp g) P)) with h | h | h
    · exact h
    · rw [← h, hn] at s2
      exact absurd s2 (by decide)
    · have := cf_lt h s2
      omega
  have a2 : spx g (cf (ngp g) P - 1) < P := by
    rcases Nat.lt_trichotomy (spx g (cf (ngp g) P - 1)) P with h | h | h
    · exact h
    · rw [h, hn] at t2
      exact absurd t2 (by decide)
    · have := cf_mono (Q := ngp g) (show P ≤ spx g (cf (ngp g) P - 1) by omega)
      omega
  omega
theorem dif_L {A : Nat → Bool} {τ : Nat → Int} {i l l' o : Nat} (h : A i = false) : dif A τ i l o = dif A τ i l' o := by
  unfold dif
  rw [h, if_neg (by decide), if_neg (by decide)]
theorem DD_L {A : Nat → Bool} {τ : Nat → Int} {B k s l l' : Nat} (h : k = 0 ∨ A (B - k) = false) : DD A τ B k s l = DD A τ B k s l' := by
  cases k with
  | zero => rfl
  | succ k =>
    rcases h with h | h
    · exact absurd h (by omega)
    · rw [DD_s, DD_s]
      exact mxf_congr B fun j _ _ => by rw [dif_L h]
theorem NXC_L {A : Nat → Bool} {τ : Nat → Int} {B : Nat} {γ : Int} {i s l l' : Nat} (h : A i = false) : NXC A τ B γ i s l = NXC A τ B γ i s l' := by
  funext j
  unfold NXC
  rw [dif_L h]
theorem sq_L {A : Nat → Bool} {τ : Nat → Int} {B : Nat} {γ : Int} {i s l l' n : Nat} (h : A i = false) : sq A τ B γ i (s, l) (n + 1) = sq A τ B γ i (s, l') (n + 1) := by
  have e : stq A τ B γ i (s, l) = stq A τ B γ i (s, l') := by
    unfold stq nxi
    rw [NXC_L (l' := l') h]
  rw [sq_sh, sq_sh, e]
/-- what holds when a place is to be laid -/
def DPR (m : am_M) (k : Nat) (p u x : Int) : Prop := (WFG (m 54) ∧ BN (nv (m 54)) ≤ 8) ∧ (0 ≤ p ∧ p + (k : Int) = m 54 0) ∧ (0 ≤ u ∧ u < 4096) ∧ cnt (SI (nv (m 54)) u.toNat) 12 = cf (ngp (nv (m 54))) p.toNat ∧ (0 ≤ x ∧ x ≤ 1000) ∧ (m 53 36 = 0 ∨ (m 53 36 = 1 ∧ 0 ≤ m 53 35 ∧ m 53 35 ≤ 1000)) ∧ ∀ q : Nat, (q : Int) < p → (ngp (nv (m 54)) q = false → m 71 q = -1) ∧ (ngp (nv (m 54)) q = true → ∃ j, j < BN (nv (m 54)) ∧ m 71 q = ((spx (nv (m 54)) j : Nat) : Int))
def DFR (m m' : am_M) (p : Int) : Prop := (∀ a k, a ≠ 71 → a ≠ 72 → ¬ (a = 53 ∧ (k = 35 ∨ k = 36)) → m' a k = m a k) ∧ ∀ q : Nat, (q : Int) < p → m' 71 q = m 71 q
/-- the best so far stays, or a better one is laid -/
def DPS (g : Nat → Int) (m m' : am_M) (P S L : Nat) (x : Int) : Prop := (m 53 36 = 1 ∧ min x (DD (adj g) (tau g) (BN g) (BN g - cf (ngp g) P) S L) ≤ m 53 35 ∧ m' 53 36 = m 53 36 ∧ m' 53 35 = m 53 35 ∧ ∀ q, q < 12 → m' 72 q = m 72 q) ∨ (¬ (m 53 36 = 1 ∧ min x (DD (adj g) (tau g) (BN g) (BN g - cf (ngp g) P) S L) ≤ m 53 35) ∧ m' 53 36 = 1 ∧ m' 53 35 = min x (DD (adj g) (tau g) (BN g) (BN g - cf (ngp g) P) S L) ∧ (∀ q, q < P → m' 72 q = m 71 q) ∧ ∀ q : Nat, P ≤ q → (q : Int) < g 0 → m' 72 q = if ngp g q = true then ((spx g (sq (adj g) (tau g) (BN g) (min x (DD (adj g) (tau g) (BN g) (BN g - cf (ngp g) P) S L)) (cf (ngp g) P) (S, L) (cf (ngp g) q - cf (ngp g) P + 1)).2 : Nat) : Int) else -1)
theorem v250 {m : am_M} {P q : Nat} (hw : WFG (m 54)) (hP : (P : Int) < m 54 0) (hq : (q : Int) < m 54 0) (hn : ngp (nv (m 54)) P = true) (hqn : ngp (nv (m 54)) q = true) (h71 : m 71 P = (q : Int)) (hpre : 1 ≤ P → (ngp (nv (m 54)) (P - 1) = false → m 71 (P - 1) = -1) ∧ (ngp (nv (m 54)) (P - 1) = true → ∃ j, j < BN (nv (m 54)) ∧ m 71 (P - 1) = ((spx (nv (m 54)) j : Nat) : Int))) : q_250 m (P : Int) ∧ v_250 m (P : Int) = dif (adj (nv (m 54))) (tau (nv (m 54))) (cf (ngp (nv (m 54))) P) (LI (nv (m 54)) m P) (cf (ngp (nv (m 54))) q) := by
  have hN := hw.1
  have hwn := WFG_nv hw
  have eg0 : (nv (m 54) 0).toNat = (m 54 0).toNat := by rw [nv0]
  have eP : am_s (P : Int) = (P : Int) := am_s_id (by omega) (by omega)
  have eq' : am_s (q : Int) = (q : Int) := am_s_id (by omega) (by omega)
  have hA := adj_iff (g := nv (m 54)) (P := P) (by omega) hn
  have hsq : spx (nv (m 54)) (cf (ngp (nv (m 54))) q) = q := spx_rk (by omega) hqn
  by_cases h1 : 1 ≤ P
  · have eP1 : am_s ((P : Int) - 1) = (P : Int) - 1 := am_s_id (by omega) (by omega)
    have nP1 : ((P : Int) - 1).toNat = P - 1 := by omega
    obtain ⟨p1, p2⟩ := hpre h1
    cases hg : ngp (nv (m 54)) (P - 1)
    · have e71 := p1 hg
      constructor
      · unfold q_250
        rw [eP, eP1, nP1, Int.toNat_natCast, h71, e71, eq', show am_s (-1) = -1 from rfl]
        exact fun _ => ⟨by omega, fun _ => ⟨by omega, fun k => absurd rfl k⟩⟩
      · unfold v_250
        rw [eP, eP1, nP1, Int.toNat_natCast, h71, e71, eq', show am_s (-1) = -1 from rfl, if_neg (by omega), if_neg (by omega), if_neg (not_not_intro rfl)]
        unfold dif
        rw [if_neg (fun k => by have := (hA.mp k).2; rw [hg] at this; exact absurd this (by decide))]
    · obtain ⟨j, j1, j2⟩ := p2 hg
      obtain ⟨s1, s2, s3⟩ := spx_ok j1
      have es : am_s ((spx (nv (m 54)) j : Nat) : Int) = ((spx (nv (m 54)) j : Nat) : Int) := am_s_id (by omega) (by omega)
      have hL : LI (nv (m 54)) m P = j := by
        unfold LI
        rw [j2, Int.toNat_natCast, s3]
      have hd : ∀ z : Nat, (z : Int) < m 54 0 → decide (am_s (if (0 ≤ (z : Int) ∧ (z : Int) < m 54 0) ∧ nv (m 54) (8 + z) = am_s 1 then 1 else 0) ≠ 0) = decide (nv (m 54) (8 + z) = 1) := by
        intro z hz
        apply decide_eq_decide.mpr
        rw [show am_s 1 = 1 from rfl]
        exact ⟨fun k => (as_iteN.mp k).2, fun k => as_iteN.mpr ⟨⟨by omega, hz⟩, k⟩⟩
      have t1 := tno_rng hwn (p := q) (by omega)
      have t2 := tno_rng hwn (p := spx (nv (m 54)) j) (by omega)
      constructor
      · unfold q_250
        rw [eP, eP1, nP1, Int.toNat_natCast, h71, j2]
        exact fun _ => ⟨by omega, fun _ => ⟨by omega, fun _ => ⟨hw, ⟨hw, by omega, by omega⟩, hw, by omega, by omega⟩⟩⟩
      · unfold v_250
        rw [eP, eP1, nP1, Int.toNat_natCast, h71, j2, eq', es, show am_s (-1) = -1 from rfl, if_neg (by omega), if_neg (by omega), if_pos (by omega), Int.toNat_natCast, Int.toNat_natCast, hd q hq, hd _ (by omega)]
        show (if 0 ≤ am_s (tno (nv (m 54)) q - tno (nv (m 54)) (spx (nv (m 54)) j)) then tno (nv (m 54)) q - tno (nv (m 54)) (spx (nv (m 54)) j) else -(tno (nv (m 54)) q - tno (nv (m 54)) (spx (nv (m 54)) j))) = _
        unfold dif tau
        rw [if_pos (hA.mpr ⟨h1, hg⟩), hL, hsq, am_s_id (by omega) (by omega)]
        by_cases hh : 0 ≤ tno (nv (m 54)) q - tno (nv (m 54)) (spx (nv (m 54)) j)
        · rw [if_pos hh]
          split <;> omega
        · rw [if_neg hh]
          split <;> omega
  · have hP0 : P = 0 := by omega
    constructor
    · unfold q_250
      rw [eP]
      exact fun k => absurd (by omega) k
    · unfold v_250
      rw [eP, if_pos (by omega)]
      unfold dif
      rw [if_neg (fun k => h1 (hA.mp k).1)]
