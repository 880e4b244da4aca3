def MDR (m : am_M) : Prop := (0 ≤ m 53 7 ∧ m 53 7 ≤ m 53 8 ∧ m 53 8 ≤ 900) ∧ ∀ k : Nat, (k : Int) < m 53 8 → 0 ≤ m 56 k ∧ m 56 k ≤ 255
def frM (m m' : am_M) : Prop := ∀ a k, ¬ (a = 53 ∧ (k = 6 ∨ k = 7 ∨ k = 9 ∨ k = 10)) → m' a k = m a k
/-- the token that the model holds -/
def mtok (m : am_M) : TKN := ((m 53 6).toNat, m 53 9, if m 53 9 = 12 then m 53 10 else 0, (m 53 7).toNat)
def MV (m : am_M) : Prop := MDR m ∧ (0 ≤ m 53 6 ∧ m 53 6 ≤ m 53 7) ∧ (0 ≤ m 53 9 ∧ m 53 9 ≤ 15) ∧ (m 53 9 = 12 → 0 ≤ m 53 10 ∧ m 53 10 ≤ 999)
theorem sen_i {m : am_M} {a : Nat} (h : (a : Int) < m 53 8) : sen m (a : Int) = m 56 a := by
  unfold sen
  rw [if_pos h, Int.toNat_natCast]
theorem sen_o {m : am_M} {a : Nat} (h : ¬ (a : Int) < m 53 8) : sen m (a : Int) = -1 := by
  unfold sen
  rw [if_neg h]
theorem sen_b {m : am_M} {a n : Nat} (hn : m 53 8 = (n : Int)) (hT : ∀ k, k < n → 0 ≤ m 56 k ∧ m 56 k ≤ 255) : -128 ≤ sen m (a : Int) ∧ sen m (a : Int) ≤ 255 := by
  by_cases h : (a : Int) < m 53 8
  · rw [sen_i h]
    have := hT a (by omega)
    omega
  · rw [sen_o h]
    omega
theorem sen_p {P : Int → Bool} (hP : P (-1) = false) {m : am_M} {a n : Nat} (hn : m 53 8 = (n : Int)) : P (sen m (a : Int)) = true ↔ a < n ∧ P (m 56 a) = true := by
  by_cases h : (a : Int) < m 53 8
  · rw [sen_i h]
    exact ⟨fun q => ⟨by omega, q⟩, fun q => q.2⟩
  · rw [sen_o h, hP]
    exact ⟨fun q => absurd q (by decide), fun q => absurd q.1 (by omega)⟩
theorem q146 {m : am_M} {n p : Nat} (hn : m 53 8 = (n : Int)) (hn9 : n ≤ 900) (hp : m 53 6 = (p : Int)) (hb : m 53 7 = (p : Int)) (hpn : p ≤ n) (h10 : m 53 10 = 0) (hT : ∀ k, k < n → 0 ≤ m 56 k ∧ m 56 k ≤ 255) : ok 5 168 146 [some (.inr (.inr (some 53)))] [] m (fun rr m' => rr = [] ∧ m' 53 7 = ((spn chd (m 56) n p : Nat) : Int) ∧ m' 53 9 = (if spn chd (m 56) n p - p ≤ 3 then 12 else 15) ∧ (spn chd (m 56) n p - p ≤ 3 → m' 53 10 = dvl (m 56) p (spn chd (m 56) n p - p)) ∧ ∀ a k, ¬ (a = 53 ∧ (k = 7 ∨ k = 9 ∨ k = 10)) → m' a k = m a k) := by
  refine ok_lp (σ := Unit) (fun _ => [some (.inr (.inr (some 53)))]) (fun _ M => ∃ k : Nat, M 53 7 = ((p + k : Nat) : Int) ∧ p + k ≤ n ∧ (k ≤ 3 → M 53 10 = dvl (m 56) p k) ∧ spn chd (m 56) n (p + k) = spn chd (m 56) n p ∧ ∀ a k, ¬ (a = 53 ∧ (k = 7 ∨ k = 10)) → M a k = m a k) (fun _ M => ((n : Int) - M 53 7).toNat) ?_ () m ⟨0, by rw [hb]; rfl, by omega, fun _ => h10, rfl, fun _ _ _ => rfl⟩
  rintro - M ⟨k, hA, hA2, hx, hS, hF⟩ IH
  have e8 : M 53 8 = (n : Int) := by rw [hF 53 8 (by omega), hn]
  have e6 : M 53 6 = (p : Int) := by rw [hF 53 6 (by omega), hp]
  have e56 : M 56 = m 56 := funext fun j => hF 56 j (by omega)
  have hsb := sen_b (m := M) (a := p + k) e8 (by rw [e56]; exact hT)
  have hsp := sen_p (P := chd) (by decide) (m := M) (a := p + k) e8
  rw [e56] at hsp
  refine u_168_146 ?_
  rw [e8, e6, hA, am_s_id (z := ((p + k : Nat) : Int) - (p : Int)) (by omega) (by omega), hsp]
  refine ⟨⟨⟨by omega, by omega⟩, by omega, by omega⟩, hsb, fun q y hy => ⟨rfl, ?_⟩, fun q => ?_⟩
  · rw [← hS, spn_no q, show p + k - p = k by omega]
    refine ⟨by rw [mu_o (by omega), hA], ?_, fun h3 => by rw [mu_o (by omega), hx h3], fun r j hj => by rw [mu_o (by omega)]; exact hF r j (by omega)⟩
    rw [mu_same, hy]
    by_cases h3 : k ≤ 3
    · rw [if_pos h3, if_pos (by omega)]
    · rw [if_neg h3, if_neg (by omega)]
  · have hse : sen M ((p + k : Nat) : Int) = m 56 (p + k) := by rw [sen_i (by omega), e56]
    rw [hse]
    refine ⟨fun q3 => IH () _ ⟨k + 1, ?_, by omega, fun h3 => by omega, ?_, fun r j hj => ?_⟩ ?_, fun q3 => IH () _ ⟨k + 1, ?_, by omega, fun h3 => ?_, ?_, fun r j hj => ?_⟩ ?_⟩
    · rw [mu_same]; omega
    · rw [← hS, spn_go (a := p + k) q.1 q.2, Nat.add_assoc]
    · rw [mu_o (by omega)]; exact hF r j hj
    · rw [mu_same, hA]; omega
    · rw [mu_same]; omega
    · rw [mu_o (by omega), mu_same, dvl_s, hx (by omega)]
    · rw [← hS, spn_go (a := p + k) q.1 q.2, Nat.add_assoc]
    · rw [mu_o (by omega), mu_o (by omega)]; exact hF r j hj
    · rw [mu_same, hA]; omega
theorem q89 {m : am_M} {n p : Nat} (hn : m 53 8 = (n : Int)) (hn9 : n ≤ 900) (hp : m 53 6 = (p : Int)) (hb : m 53 7 = (p : Int)) (hpn : p ≤ n) (hT : ∀ k, k < n → 0 ≤ m 56 k ∧ m 56 k ≤ 255) : ok 5 168 89 [some (.inr (.inr (some 53)))] [] m (fun rr m' => rr = [] ∧ m' 53 7 = ((spn chl (m 56) n p : Nat) : Int) ∧ m' 53 9 = mkw (wno (m 56) p (spn chl (m 56) n p)) ∧ ∀ a k, ¬ (a = 53 ∧ (k = 7 ∨ k = 9)) → m' a k = m a k) := by
  refine ok_lp (σ := Unit) (fun _ => [some (.inr (.inr (some 53)))]) (fun _ M => ∃ a : Nat, M 53 7 = (a : Int) ∧ p ≤ a ∧ a ≤ n ∧ spn chl (m 56) n a = spn chl (m 56) n p ∧ ∀ r k, ¬ (r = 53 ∧ k = 7) → M r k = m r k) (fun _ M => ((n : Int) - M 53 7).toNat) ?_ () m ⟨p, hb, by omega, hpn, rfl, fun _ _ _ => rfl⟩
  rintro - M ⟨a, hA, hA1, hA2, hS, hF⟩ IH
  have e8 : M 53 8 = (n : Int) := by rw [hF 53 8 (by omega), hn]
  have e6 : M 53 6 = (p : Int) := by rw [hF 53 6 (by omega), hp]
  have e56 : M 56 = m 56 := funext fun j => hF 56 j (by omega)
  have hsb := sen_b (m := M) (a := a) e8 (by rw [e56]; exact hT)
  have hsp := sen_p (P := chl) (by decide) (m := M) (a := a) e8
  rw [e56] at hsp
  refine u_168_89 ?_
  rw [e8, e6, hA, hsp, e56, Int.toNat_natCast, Int.toNat_natCast]
  refine ⟨⟨⟨by omega, by omega⟩, by omega, by omega⟩, hsb, fun q => ⟨⟨⟨by omega, by omega, by omega⟩, fun k hk => ?_⟩, ?_⟩, fun q => IH () _ ⟨a + 1, by rw [mu_same]; rfl, by omega, by omega, by rw [← hS, spn_go (a := a) q.1 q.2], fun r j hj => by rw [mu_o hj]; exact hF r j hj⟩ (by rw [mu_same, hA]; omega)⟩
  · rw [e56]
    exact hT k (by omega)
  · intro mx hmx
    rw [hmx, ← hS, spn_no q]
    exact ⟨rfl, by rw [mu_o (by omega), hA], by rw [mu_same], fun r j hj => by rw [mu_o (by omega)]; exact hF r j (by omega)⟩
theorem mtk_e {m : am_M} {p b : Nat} {kd : Int} (h6 : m 53 6 = (p : Int)) (h9 : m 53 9 = kd) (hk : ¬ kd = 12) (h7 : m 53 7 = (b : Int)) : mtok m = (p, kd, 0, b) := by
  unfold mtok
  rw [h6, h9, h7, if_neg hk, Int.toNat_natCast, Int.toNat_natCast]
theorem mtk_n {m : am_M} {p b : Nat} {v : Int} (h6 : m 53 6 = (p : Int)) (h9 : m 53 9 = 12) (hv : m 53 10 = v) (h7 : m 53 7 = (b : Int)) : mtok m = (p, 12, v, b) := by
  unfold mtok
  rw [h6, h9, h7, hv, if_pos rfl, Int.toNat_natCast, Int.toNat_natCast]
theorem q55 {m0 m : am_M} {n p : Nat} (hn : m0 53 8 = (n : Int)) (hn9 : n ≤ 900) (hp : m 53 6 = (p : Int)) (hb : m 53 7 = (p : Int)) (hpn : p ≤ n) (hT : ∀ k, k < n → 0 ≤ m0 56 k ∧ m0 56 k ≤ 255) (hF : frM m0 m) : ok 5 168 55 [some (.inr (.inr (some 53)))] [] m (fun rr m' => rr = [] ∧ mtok m' = tkp (m0 56) n p ∧ MV m' ∧ frM m0 m') := by
  have e8 : m 53 8 = (n : Int) := by rw [hF 53 8 (by omega), hn]
  have e56 : m 56 = m0 56 := funext fun j => hF 56 j (by omega)
  have mkV : ∀ {m' : am_M} {b : Nat}, frM m0 m' → m' 53 6 = (p : Int) → m' 53 7 = (b : Int) → p ≤ b → b ≤ n → (0 ≤ m' 53 9 ∧ m' 53 9 ≤ 15) → (m' 53 9 = 12 → 0 ≤ m' 53 10 ∧ m' 53 10 ≤ 999) → MV m' := by
    intro m' b q1 q2 q3 q4 q5 q6 q7
    have f8 : m' 53 8 = (n : Int) := by rw [q1 53 8 (by omega), hn]
    have f56 : m' 56 = m0 56 := funext fun j => q1 56 j (by omega)
    refine ⟨⟨by omega, fun k hk => ?_⟩, by omega, q6, q7⟩
    rw [f56]
    exact hT k (by omega)
  have hmu : ∀ {m' : am_M} {k : Nat} {z : Int}, (k = 6 ∨ k = 7 ∨ k = 9 ∨ k = 10) → frM m0 m' → frM m0 (mu m' 53 k z) := by
    intro m' k z q1 q3 r j hj
    rw [mu_o (by omega)]
    exact q3 r j hj
  refine u_168_55 ?_
  rw [e8, hp, hb, am_s_id (z := (n : Int)) (by omega) (by omega), am_s_id (z := (p : Int)) (by omega) (by omega)]
  refine ⟨fun q => ?_, fun q => ⟨rfl, ?_, ?_, hmu (by omega) hF⟩⟩
  · have hse : sen m (p : Int) = m0 56 p := by rw [sen_i (by omega), e56]
    have hse2 : sen (mu m 53 7 ((p : Int) + 1)) (p : Int) = m0 56 p := by
      rw [sen_i (by rw [mu_o (by omega)]; omega), show mu m 53 7 ((p : Int) + 1) 56 = m 56 from funext fun j => mu_o (by omega), e56]
    have hTp := hT p (by omega)
    have e88 : mu m 53 7 ((p : Int) + 1) 53 8 = (n : Int) := by rw [mu_o (by omega), e8]
    rw [hse, hse2, e88, am_s_id (z := m0 56 p) (by omega) (by omega)]
    refine ⟨⟨⟨by omega, by omega⟩, by omega, by omega⟩, ⟨by omega, by omega⟩, fun q2 => ⟨fun q3 => ⟨⟨⟨by omega, by omega⟩, by omega, by omega⟩, fun y hy => ⟨rfl, ?_, ?_, hmu (by omega) (hmu (by omega) hF)⟩⟩, fun q3 => ?_⟩, fun q2 => ?_⟩
    · unfold tkp
      rw [if_neg (by omega), if_neg q2, if_neg q3]
      by_cases h59 : m0 56 p = 59
      · rw [if_neg (fun zz => zz h59)] at hy
        rw [if_pos h59]
        exact mtk_e (by rw [mu_o (by omega), mu_o (by omega), hp]) (by rw [mu_same, hy]) (by decide) (by rw [mu_o (by omega), mu_same]; rfl)
      · rw [if_pos h59] at hy
        rw [if_neg h59]
        exact mtk_e (by rw [mu_o (by omega), mu_o (by omega), hp]) (by rw [mu_same, hy]) (by decide) (by rw [mu_o (by omega), mu_same]; rfl)
    · have hy2 : y = 13 ∨ y = 15 := by
        rw [hy]
        split
        · exact Or.inr rfl
        · exact Or.inl rfl
      have e9 : mu (mu m 53 7 ((p : Int) + 1)) 53 9 y 53 9 = y := mu_same
      refine mkV (b := p + 1) (hmu (by omega) (hmu (by omega) hF)) (by rw [mu_o (by omega), mu_o (by omega), hp]) (by rw [mu_o (by omega), mu_same]; rfl) (by omega) (by omega) (by rw [e9]; omega) (fun zz => ?_)
      rw [e9] at zz
      omega
    · have h := q146 (m := mu m 53 10 0) (n := n) (p := p) (by rw [mu_o (by omega), e8]) hn9 (by rw [mu_o (by omega), hp]) (by rw [mu_o (by omega), hb]) hpn mu_same (by rw [show mu m 53 10 0 56 = m 56 from funext fun j => mu_o (by omega), e56]; exact hT)
      rw [show mu m 53 10 0 56 = m 56 from funext fun j => mu_o (by omega), e56] at h
      refine ok.imp h ?_
      rintro rr mx ⟨a0, a1, a2, a3, a4⟩
      have hbb := spn_b (P := chd) (tx := m0 56) (n := n) (a := p) hpn
      have f6 : mx 53 6 = (p : Int) := by rw [a4 53 6 (by omega), mu_o (by omega), hp]
      have fM : frM m0 mx := fun r k hk => by rw [a4 r k (by omega), mu_o (by omega)]; exact hF r k hk
      refine ⟨a0, ?_, ?_, fM⟩
      · unfold tkp
        rw [if_neg (by omega), if_neg q2, if_pos q3]
        by_cases h3 : spn chd (m0 56) n p - p ≤ 3
        · rw [if_pos h3] at a2 ⊢
          exact mtk_n f6 a2 (a3 h3) a1
        · rw [if_neg h3] at a2 ⊢
          exact mtk_e f6 a2 (by decide) a1
      · refine mkV fM f6 a1 hbb.1 hbb.2 ?_ (fun zz => ?_)
        · rw [a2]; split <;> omega
        · by_cases h3 : spn chd (m0 56) n p - p ≤ 3
          · rw [a3 h3]
            have := (dvl_b (tx := m0 56) (n := n) (p := p) (spn chd (m0 56) n p - p) h3 (by omega)).1
            omega
          · rw [a2, if_neg h3] at zz
            omega
    · have h := q89 (m := m) (n := n) (p := p) e8 hn9 hp hb hpn (by rw [e56]; exact hT)
      rw [e56] at h
      refine ok.imp h ?_
      rintro rr mx ⟨a0, a1, a2, a4⟩
      have hbb := spn_b (P := chl) (tx := m0 56) (n := n) (a := p) hpn
      have hwb := wno_b (tx := m0 56) (p := p) (b := spn chl (m0 56) n p)
      have hkr := mkw_r hwb
      have f6 : mx 53 6 = (p : Int) := by rw [a4 53 6 (by omega), hp]
      have fM : frM m0 mx := fun r k hk => by rw [a4 r k (by omega)]; exact hF r k hk
      refine ⟨a0, ?_, mkV fM f6 a1 hbb.1 hbb.2 (by omega) (fun zz => by omega), fM⟩
      unfold tkp
      rw [if_neg (by omega), if_pos q2]
      exact mtk_e f6 a2 (by omega) a1
  · unfold tkp
    rw [if_pos (by omega)]
    exact mtk_e (by rw [mu_o (by omega), hp]) mu_same (by decide) (by rw [mu_o (by omega), hb])
  · have e9 : mu m 53 9 14 53 9 = 14 := mu_same
    refine mkV (b := p) (hmu (by omega) hF) (by rw [mu_o (by omega), hp]) (by rw [mu_o (by omega), hb]) (Nat.le_refl _) hpn (by rw [e9]; omega) (fun zz => ?_)
    rw [e9] at zz
    omega
theorem z_168   (m : am_M)  (hq : MDR m) : ok 5 168 0 (am_ent 1 [.inr (.inr (some 53))]) [] m (fun rr m' => rr = [] ∧ mtok m' = tok (m 56) (m 53 8).toNat (m 53 7).toNat ∧ MV m' ∧ frM m m') := by
  show ok 5 168 0 [some (.inr (.inr (some 53)))] [] m _
  obtain ⟨⟨w1, w3, w4⟩, hT0⟩ := id hq
  obtain ⟨n, hn⟩ : ∃ n : Nat, m 53 8 = (n : Int) := ⟨(m 53 8).toNat, by omega⟩
  obtain ⟨a0, ha0⟩ : ∃ a0 : Nat, m 53 7 = (a0 : Int) := ⟨(m 53 7).toNat, by omega⟩
  have hT : ∀ k, k < n → 0 ≤ m 56 k ∧ m 56 k ≤ 255 := fun k hk => hT0 k (by omega)
  have e1 : (m 53 8).toNat = n := by omega
  have e2 : (m 53 7).toNat = a0 := by omega
  rw [e1, e2]
  refine u_168_0 ?_
  rw [ha0]
  refine ok_lp (σ := Unit) (fun _ => [some (.inr (.inr (some 53)))]) (fun _ M => ∃ a : Nat, M 53 6 = (a : Int) ∧ a ≤ n ∧ spn chw (m 56) n a = spn chw (m 56) n a0 ∧ ∀ r k, ¬ (r = 53 ∧ k = 6) → M r k = m r k) (fun _ M => ((n : Int) - M 53 6).toNat) ?_ () _ ⟨a0, mu_same, by omega, rfl, fun r k hk => mu_o hk⟩
  rintro - M ⟨a, ha, han, hS, hF⟩ IH
  have e8 : M 53 8 = (n : Int) := by rw [hF 53 8 (by omega), hn]
  have e56 : M 56 = m 56 := funext fun j => hF 56 j (by omega)
  have hsb := sen_b (m := M) (a := a) e8 (by rw [e56]; exact hT)
  have hsp := sen_p (P := chw) (by decide) (m := M) (a := a) e8
  rw [e56] at hsp
  have hgo : chw (sen M (a : Int)) = true → ok 5 168 8 [some (.inr (.inr (some 53)))] [] (mu M 53 6 ((a : Int) + 1)) (fun rr m' => rr = [] ∧ mtok m' = tok (m 56) n a0 ∧ MV m' ∧ frM m m') := by
    intro hw
    obtain ⟨hl, hw⟩ := hsp.mp hw
    refine IH () _ ⟨a + 1, by rw [mu_same]; rfl, by omega, by rw [← hS, spn_go hl hw], fun r k hk => by rw [mu_o hk]; exact hF r k hk⟩ ?_
    rw [mu_same, ha]
    omega
  clear IH
  refine u_168_8 ?_
  rw [e8, ha, am_s_id (z := sen M (a : Int)) (by omega) (by omega)]
  refine ⟨⟨⟨by omega, by omega⟩, by omega, by omega⟩, fun q => hgo (chw_t.mpr (Or.inl q)), fun q => ⟨fun q2 => ?_, fun q2 => hgo (chw_t.mpr (Or.inr q2))⟩⟩
  have hno : ¬ (a < n ∧ chw (m 56 a) = true) := fun zz => by
    rcases chw_t.mp (hsp.mpr zz) with h | h
    · exact q h
    · exact q2 h
  have e : tok (m 56) n a0 = tkp (m 56) n a := by
    unfold tok
    rw [← hS, spn_no hno]
  rw [e]
  exact q55 hn (by omega) (by rw [mu_o (by omega), ha]) mu_same han hT (fun r k hk => by rw [mu_o (by omega)]; exact hF r k (by omega))
theorem u_177_0 {Q : List am_V → am_M → Prop} {m : am_M} {f : Int}  (H : ((am_s (m 53 11) = 0) → Q [] (mu (mu m 53 11 (if ¬ am_s (m 53 9) = 15 then f else 1)) 53 12 (m 53 6))) ∧ ((¬ (am_s (m 53 11) = 0)) → Q [] m)) : ok 0 177 0 [some (.inr (.inr (some 53))), some (.inl f)] [] m Q := by
  refine ok_sg (pc' := 4) (ls' := [some (.inr (.inr (some 53))), some (.inl f)]) (st' := [.inl (m 53 11)]) (m' := m) (fun fx hfx o hk => ?_) ?_
  · refine r_ld (pc' := 1) hM_177 d_177_0 rfl rfl ?_
    refine r_gI (pc' := 4) (k0 := 11) hM_177 d_177_1 rfl (by decide +kernel) ?_
    exact hk
  refine ok_if (pc' := 8) (pc2 := 7) hM_177 d_177_4 (by decide) rfl (fun hz1 => ?_) (fun hz1 => ?_)
  · have H := H.1 hz1
    refine ok_sg (pc' := 15) (ls' := [some (.inr (.inr (some 53))), some (.inl f)]) (st' := [.inl 15, .inl (m 53 9), .inr (.inr (some 53))]) (m' := m) (fun fx hfx o hk => ?_) ?_
    · refine r_ld (pc' := 9) hM_177 d_177_8 rfl rfl ?_
      refine r_ld (pc' := 10) hM_177 d_177_9 rfl rfl ?_
      refine r_gI (pc' := 13) (k0 := 9) hM_177 d_177_10 rfl (by decide +kernel) ?_
      refine r_k (pc' := 15) (v := .inl 15) hM_177 d_177_13 rfl rfl ?_
      exact hk
    refine ok_sg (pc' := 23) (ls' := [some (.inr (.inr (some 53))), some (.inl f)]) (st' := [.inl (if ¬ am_s (m 53 9) = 15 then f else 1), .inr (.inr (some 53))]) (m' := m) (fun fx hfx o K => ?_) ?_
    · refine r_ic (pc' := 22) (pc2 := 18) hM_177 d_177_15 (by decide) rfl (fun hz2 => ?_) (fun hz2 => ?_)
      · have hz2 : ¬ am_s (m 53 9) = 15 := hz2
        rw [if_pos hz2] at K
        refine r_ld (pc' := 23) hM_177 d_177_22 rfl rfl ?_
        exact K
      · have hz2 : ¬ (¬ am_s (m 53 9) = 15) := hz2
        rw [if_neg hz2] at K
        refine r_k (pc' := 19) (v := .inl 1) hM_177 d_177_18 rfl rfl ?_
        refine r_go (pc' := 23) hM_177 d_177_19 (by decide) ?_
        exact K
    refine ok_sg (pc' := 34) (ls' := [some (.inr (.inr (some 53))), some (.inl f)]) (st' := []) (m' := mu (mu m 53 11 (if ¬ am_s (m 53 9) = 15 then f else 1)) 53 12 (m 53 6)) (fun fx hfx o hk => ?_) ?_
    · refine r_pI (pc' := 26) (k0 := 11) hM_177 d_177_23 rfl (by decide +kernel) ?_
      refine r_ld (pc' := 27) hM_177 d_177_26 rfl rfl ?_
      refine r_ld (pc' := 28) hM_177 d_177_27 rfl rfl ?_
      refine r_gIe (pc' := 31) (k0 := 6) (z := (m 53 6)) hM_177 d_177_28 rfl (by decide +kernel) (mu_k (by omega)) ?_
      refine r_pI (pc' := 34) (k0 := 12) hM_177 d_177_31 rfl (by decide +kernel) ?_
      exact hk
    exact ok_rt (fun fx _ => rt_v hM_177 d_177_34 rfl) H
  · have H := H.2 hz1
    exact ok_rt (fun fx _ => rt_v hM_177 d_177_7 rfl) H
theorem t_174_0 {fx : am_X0} {o : List am_V × am_S} {m : am_M} {k : Int}  (H : ∀ y1 : Int, y1 = (if ¬ am_s (m 53 11) = 0 then 0 else (if ¬ am_s (m 53 9) = am_s k then 0 else 1)) → o = ([.inl y1], st0 m)) : rn fx 0 (0, 0) 174 0 [some (.inr (.inr (some 53))), some (.inl k)] [] (st0 m) o := by
  refine r_ld (pc' := 1) hM_174 d_174_0 rfl rfl ?_
  refine r_gI (pc' := 4) (k0 := 11) hM_174 d_174_1 rfl (by decide +kernel) ?_
  have K : ∀ y1 : Int, y1 = (if ¬ am_s (m 53 11) = 0 then 0 else (if ¬ am_s (m 53 9) = am_s k then 0 else 1)) → rn fx 0 (0, 0) 174 20 [some (.inr (.inr (some 53))), some (.inl k)] [.inl y1] (st0 m) o := by
    intro y1 hy1
    replace H := H y1 hy1
    subst H
    refine rt_z hM_174 d_174_20 rfl ?_
    rw [hy1]
    repeat' first | exact Or.inl rfl | exact Or.inr rfl | apply z01_ite
  replace K := K _ rfl
  clear H
  refine r_if (pc' := 19) (pc2 := 7) hM_174 d_174_4 (by decide) rfl (fun hz1 => ?_) (fun hz1 => ?_)
  · have hz1 : ¬ am_s (m 53 11) = 0 := hz1
    rw [if_pos hz1] at K
    refine r_k (pc' := 20) (v := .inl 0) hM_174 d_174_19 rfl rfl ?_
    exact K
  · have hz1 : ¬ (¬ am_s (m 53 11) = 0) := hz1
    rw [if_neg hz1] at K
    refine r_ld (pc' := 8) hM_174 d_174_7 rfl rfl ?_
    refine r_gI (pc' := 11) (k0 := 9) hM_174 d_174_8 rfl (by decide +kernel) ?_
    refine r_ld (pc' := 12) hM_174 d_174_11 rfl rfl ?_
    refine r_ic (pc' := 19) (pc2 := 15) hM_174 d_174_12 (by decide) rfl (fun hz2 => ?_) (fun hz2 => ?_)
    · have hz2 : ¬ am_s (m 53 9) = am_s k := hz2
      rw [if_pos hz2] at K
      refine r_k (pc' := 20) (v := .inl 0) hM_174 d_174_19 rfl rfl ?_
      exact K
    · have hz2 : ¬ (¬ am_s (m 53 9) = am_s k) := hz2
      rw [if_neg hz2] at K
      refine r_k (pc' := 16) (v := .inl 1) hM_174 d_174_15 rfl rfl ?_
      refine r_go (pc' := 20) hM_174 d_174_16 (by decide) ?_
      exact K
def v_174 (m : am_M) (k : Int) : Int := (if ¬ am_s (m 53 11) = 0 then 0 else (if ¬ am_s (m 53 9) = am_s k then 0 else 1))
/-- HeardBarrelsModel.is -/
theorem c_174 {fx : am_X0}   (m : am_M) (k : Int)  : rn fx 0 (0, 0) 174 0 (am_ent 2 [.inr (.inr (some 53)), .inl k]) [] (st0 m) ([.inl (v_174 m k)], st0 m) := by
  show rn fx 0 (0, 0) 174 0 [some (.inr (.inr (some 53))), some (.inl k)] [] (st0 m) _
  refine t_174_0  ?_
  intro y1 hy1
  subst hy1
  simp only [v_174]
