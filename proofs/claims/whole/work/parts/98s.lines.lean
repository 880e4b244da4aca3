def up (v : Nat → Int) (k : Nat) (z : Int) : Nat → Int := fun j => if j = k then z else v j
def ad (v : Nat → Int) (k s r i : Int) : Nat → Int := up (ly v (v 0).toNat k s r i) 0 (v 0 + 1)
theorem vw_mu {m : am_M} {s k c : Nat} {z : Int} (hk : k < 8) (hc : c = if k = 0 then 4 else if k = 1 then 11 else 3 + k) : vw (mu m s c z) s = up (vw m s) k z := by
  funext j
  unfold up
  rcases vw_cases j with h | ⟨q, hq, rfl⟩ | ⟨q, hq, rfl⟩ | ⟨q, hq, rfl⟩ | ⟨q, rfl⟩
  · unfold vw
    rw [if_pos h, if_pos h, mu_if]
    by_cases hj : j = k
    · rw [if_pos hj, hj, if_pos hc.symm]
    · rw [if_neg hj, if_neg]
      intro q
      apply hj
      rw [hc] at q
      split at q
      · split at q
        · omega
        · split at q <;> omega
      · split at q
        · split at q
          · omega
          · split at q <;> omega
        · split at q
          · omega
          · split at q <;> omega
  · rw [vw_K hq, vw_K hq, if_neg (by omega), mu_r (by omega)]
  · rw [vw_S hq, vw_S hq, if_neg (by omega), mu_r (by omega)]
  · rw [vw_R hq, vw_R hq, if_neg (by omega), mu_r (by omega)]
  · rw [vw_I, vw_I, if_neg (by omega), mu_r (by omega)]
noncomputable def BS3 (tx : Nat → Int) (n : Nat) (s r i : Int) (t : TKN) : (Int × Int) ⊕ ((Int × Int × Int × Int) × TKN) := .inr (((BDR tx n t).1, s, r, i), (BDR tx n t).2)
noncomputable def BS2 (tx : Nat → Int) (n : Nat) (s r : Int) (t : TKN) : (Int × Int) ⊕ ((Int × Int × Int × Int) × TKN) := match OPR1 tx n t 2 9 with
  | .inl f => .inl f
  | .inr x => BS3 tx n s r x.1 x.2
noncomputable def BS1 (tx : Nat → Int) (n : Nat) (s : Int) (t : TKN) : (Int × Int) ⊕ ((Int × Int × Int × Int) × TKN) := match OPR1 tx n t 1 100 with
  | .inl f => .inl f
  | .inr x => BS2 tx n s x.1 x.2
noncomputable def BSR (tx : Nat → Int) (n : Nat) (t : TKN) : (Int × Int) ⊕ ((Int × Int × Int × Int) × TKN) := match NR tx n t 1 9 with
  | .inl f => .inl f
  | .inr x => BS1 tx n x.1 x.2
def frS (m m' : am_M) : Prop := ∀ a j, ¬ (a = 33 ∧ 3 ≤ j ∧ j ≤ 6) → ¬ (7 ≤ a ∧ a ≤ 11) → m' a j = m a j
theorem RV_fr {m m' : am_M} (h33 : m' 33 = m 33) (h1 : m' 1 = m 1) : (RV m → RV m') ∧ ctok m' = ctok m := by
  unfold RV RDR ctok ckd cwn
  rw [h33, h1]
  exact ⟨id, rfl⟩
theorem frT_2 {m m' : am_M} (h : frT m m') : m' 33 2 = m 33 2 := h 33 2 (by omega)
theorem frT_v {m m' : am_M} (h : frT m m') : vw m' 7 = vw m 7 := vw_same fun a k q1 q2 => h a k (by omega)
def PB (m0 : am_M) (R : (Int × Int) ⊕ ((Int × Int × Int × Int) × TKN)) (rr : List am_V) (m' : am_M) : Prop := (∃ (q : Int × Int × Int × Int) (t : TKN), R = .inr (q, t) ∧ rr = [.inl 1] ∧ ctok m' = t ∧ RV m' ∧ vw m' 7 = ad (vw m0 7) q.1 q.2.1 q.2.2.1 q.2.2.2 ∧ frS m0 m') ∨ (∃ f : Int × Int, R = .inl f ∧ rr = [.inl 0] ∧ m' 33 7 = f.1 ∧ m' 33 8 = f.2 ∧ frF m0 m')
theorem lay7 {m : am_M} {p : Nat} {k s r i : Int} (hp : p < 12) (hm : m 7 4 = (p : Int)) : (mu (w_34 m 7 (p : Int) k s r i) 7 4 ((p : Int) + 1)) 33 = m 33 ∧ (mu (w_34 m 7 (p : Int) k s r i) 7 4 ((p : Int) + 1)) 1 = m 1 ∧ vw (mu (w_34 m 7 (p : Int) k s r i) 7 4 ((p : Int) + 1)) 7 = ad (vw m 7) k s r i ∧ (∀ a j, ¬ (7 ≤ a ∧ a ≤ 11) → (mu (w_34 m 7 (p : Int) k s r i) 7 4 ((p : Int) + 1)) a j = m a j) ∧ w_34 m 7 (p : Int) k s r i 7 4 = (p : Int) := by
  have hf : ∀ a j, ¬ (7 ≤ a ∧ a ≤ 11) → (mu (w_34 m 7 (p : Int) k s r i) 7 4 ((p : Int) + 1)) a j = m a j := fun a j h => by rw [mu_o (by omega), w34_r hp (by omega)]
  refine ⟨funext fun j => hf 33 j (by omega), funext fun j => hf 1 j (by omega), ?_, hf, by rw [w34_r hp (by omega), hm]⟩
  rw [vw_mu (k := 0) (c := 4) (by decide) rfl, vw_34 hp]
  unfold ad
  rw [vw_0, hm, Int.toNat_natCast]
theorem b97 {m0 m : am_M} {s r i k : Int} {R : (Int × Int) ⊕ ((Int × Int × Int × Int) × TKN)} (hF : frT m0 m) (hR : RV m) (hp : 0 ≤ m0 7 4 ∧ m0 7 4 < 12) (hx : R = .inr ((k, s, r, i), ctok m)) : ok 8 31 97 [some (.inr (.inr (some 33))), some (.inl s), some (.inl r), some (.inl i), some (.inl k)] [] m (PB m0 R) := by
  have e4 : m 7 4 = m0 7 4 := hF 7 4 (by omega)
  obtain ⟨p, hpp⟩ : ∃ p : Nat, m 7 4 = (p : Int) := ⟨(m 7 4).toNat, by omega⟩
  obtain ⟨l1, l2, l3, l4, l5⟩ := lay7 (m := m) (p := p) (k := k) (s := s) (r := r) (i := i) (by omega) hpp
  obtain ⟨c1, c2⟩ := RV_fr l1 l2
  refine u_31_97 ?_
  rw [hpp, l5]
  refine ⟨q34_ok (by omega), Or.inl ⟨_, _, hx, rfl, c2, c1 hR, ?_, fun a j h1 h2 => by rw [l4 a j h2]; exact hF a j h1⟩⟩
  rw [l3, frT_v hF]
theorem b62 {m0 m : am_M} {s r i : Int} (hi : 0 ≤ i ∧ i ≤ 999) (hF : frT m0 m) (hR : RV m) (hp : 0 ≤ m0 7 4 ∧ m0 7 4 < 12) : ok 8 31 62 [some (.inr (.inr (some 33))), some (.inl s), some (.inl r), some (.inl i), none] [] m (PB m0 (BS3 (m0 1) (m0 33 2).toNat s r i (ctok m))) := by
  refine u_31_62 ?_
  rw [am_s_id (z := i) (by omega) (by omega), frT_1 hF, frT_2 hF, show mkw 9 = 3 by decide, show mkw 10 = 4 by decide]
  refine ⟨fun _ => ⟨⟨hR, by decide, by decide⟩, ?_⟩, fun q => absurd hi.1 q⟩
  rintro v1 ma ⟨h1, h2⟩
  by_cases hk : ckd m = 3
  · obtain ⟨a1, a2, a3, a4⟩ := h1 hk
    rw [a1]
    refine ⟨fun q => absurd q (by decide), fun _ => b97 (frT_t hF a4) a3 hp ?_⟩
    unfold BS3 BDR
    rw [if_pos (show (ctok m).2.1 = 3 from hk), a2]
  · obtain ⟨a1, a2⟩ := h2 hk
    rw [a1, a2, frT_1 hF, frT_2 hF]
    refine ⟨fun _ => ⟨⟨hR, by decide, by decide⟩, ?_⟩, fun q => absurd (by decide) q⟩
    rintro v2 mb ⟨h3, h4⟩
    by_cases hk4 : ckd m = 4
    · obtain ⟨b1, b2, b3, b4⟩ := h3 hk4
      rw [b1, if_neg (by decide)]
      refine b97 (frT_t hF b4) b3 hp ?_
      unfold BS3 BDR
      rw [if_neg (show ¬ (ctok m).2.1 = 3 from hk), if_pos (show (ctok m).2.1 = 4 from hk4), b2]
    · obtain ⟨b1, b2⟩ := h4 hk4
      rw [b1, b2, if_pos (by decide)]
      refine b97 hF hR hp ?_
      unfold BS3 BDR
      rw [if_neg (show ¬ (ctok m).2.1 = 3 from hk), if_neg (show ¬ (ctok m).2.1 = 4 from hk4)]
theorem b35 {m0 m : am_M} {s r : Int} (hr : 0 ≤ r ∧ r ≤ 999) (hF : frT m0 m) (hR : RV m) (hp : 0 ≤ m0 7 4 ∧ m0 7 4 < 12) : ok 8 31 35 [some (.inr (.inr (some 33))), some (.inl s), some (.inl r), none, none] [] m (PB m0 (BS2 (m0 1) (m0 33 2).toNat s r (ctok m))) := by
  refine u_31_35 ?_
  rw [am_s_id (z := r) (by omega) (by omega), frT_1 hF, frT_2 hF, show mkw 8 = 2 by decide]
  refine ⟨fun _ => ⟨⟨hR, by decide, by decide⟩, ?_⟩, fun q => absurd hr.1 q⟩
  rintro v1 ma ⟨h1, h2⟩
  by_cases hk : ckd m = 2
  · obtain ⟨a1, a2, a3, a4⟩ := h1 hk
    have hF1 := frT_t hF a4
    rw [a1, frT_1 hF1, frT_2 hF1]
    refine ⟨fun q => absurd q (by decide), fun _ => ⟨⟨a3, by decide, by decide⟩, ?_⟩⟩
    have hO : OPR1 (m0 1) (m0 33 2).toNat (ctok m) 2 9 = NR (m0 1) (m0 33 2).toNat (ctok ma) 0 9 := by
      unfold OPR1
      rw [if_pos (show (ctok m).2.1 = 2 from hk), a2]
    rintro v2 mb (⟨x, t, b1, b2, b3, b4, b5, b6⟩ | ⟨f, b1, b2, b3, b4, b5⟩)
    · rw [b2]
      have hl := b62 (s := s) (r := r) b3 (frT_t hF1 b6) b5 hp
      have e : BS2 (m0 1) (m0 33 2).toNat s r (ctok m) = BS3 (m0 1) (m0 33 2).toNat s r x (ctok mb) := by
        unfold BS2
        rw [hO, b1, b4]
      rw [e]
      exact hl
    · have e : BS2 (m0 1) (m0 33 2).toNat s r (ctok m) = .inl f := by
        unfold BS2
        rw [hO, b1]
      rw [b2, e]
      refine u_31_62 ⟨fun q => absurd q (by decide), fun _ => Or.inr ⟨f, rfl, rfl, b3, b4, frF_t (frT_F hF1) b5⟩⟩
  · obtain ⟨a1, a2⟩ := h2 hk
    rw [a1, a2]
    refine ⟨fun _ => ?_, fun q => absurd (by decide) q⟩
    have e : BS2 (m0 1) (m0 33 2).toNat s r (ctok m) = BS3 (m0 1) (m0 33 2).toNat s r 0 (ctok m) := by
      unfold BS2 OPR1
      rw [if_neg (show ¬ (ctok m).2.1 = 2 from hk)]
    rw [e]
    exact b62 (by decide) hF hR hp
theorem b0 {m : am_M} (hR : RV m) (hp : 0 ≤ m 7 4 ∧ m 7 4 < 12) : ok 8 31 0 [some (.inr (.inr (some 33))), none, none, none, none] [] m (PB m (BSR (m 1) (m 33 2).toNat (ctok m))) := by
  refine u_31_0 ?_
  rw [show mkw 7 = 1 by decide]
  refine ⟨⟨hR, by decide, by decide⟩, ?_⟩
  rintro v1 ma (⟨x, t, b1, b2, b3, b4, b5, b6⟩ | ⟨f, b1, b2, b3, b4, b5⟩)
  · have e0 : BSR (m 1) (m 33 2).toNat (ctok m) = BS1 (m 1) (m 33 2).toNat x (ctok ma) := by
      unfold BSR
      rw [b1, b4]
    rw [b2, am_s_id (z := x) (by omega) (by omega), e0, frT_1 b6, frT_2 b6]
    refine ⟨fun _ => ⟨⟨b5, by decide, by decide⟩, ?_⟩, fun q => absurd b3.1 q⟩
    rintro v2 mb ⟨h1, h2⟩
    by_cases hk : ckd ma = 1
    · obtain ⟨a1, a2, a3, a4⟩ := h1 hk
      have hF1 := frT_t b6 a4
      rw [a1, frT_1 hF1, frT_2 hF1]
      refine ⟨fun q => absurd q (by decide), fun _ => ⟨⟨a3, by decide, by decide⟩, ?_⟩⟩
      have hO : OPR1 (m 1) (m 33 2).toNat (ctok ma) 1 100 = NR (m 1) (m 33 2).toNat (ctok mb) 0 100 := by
        unfold OPR1
        rw [if_pos (show (ctok ma).2.1 = 1 from hk), a2]
      rintro v3 mc (⟨y, ty, c1, c2, c3, c4, c5, c6⟩ | ⟨f, c1, c2, c3, c4, c5⟩)
      · rw [c2]
        have hl := b35 (s := x) c3 (frT_t hF1 c6) c5 hp
        have e : BS1 (m 1) (m 33 2).toNat x (ctok ma) = BS2 (m 1) (m 33 2).toNat x y (ctok mc) := by
          unfold BS1
          rw [hO, c1, c4]
        rw [e]
        exact hl
      · have e : BS1 (m 1) (m 33 2).toNat x (ctok ma) = .inl f := by
          unfold BS1
          rw [hO, c1]
        rw [c2, e]
        refine u_31_35 ⟨fun q => absurd q (by decide), fun _ => Or.inr ⟨f, rfl, rfl, c3, c4, frF_t (frT_F hF1) c5⟩⟩
    · obtain ⟨a1, a2⟩ := h2 hk
      rw [a1, a2]
      refine ⟨fun _ => ?_, fun q => absurd (by decide) q⟩
      have e : BS1 (m 1) (m 33 2).toNat x (ctok ma) = BS2 (m 1) (m 33 2).toNat x 0 (ctok ma) := by
        unfold BS1 OPR1
        rw [if_neg (show ¬ (ctok ma).2.1 = 1 from hk)]
      rw [e]
      exact b35 (by decide) b6 b5 hp
  · have e0 : BSR (m 1) (m 33 2).toNat (ctok m) = .inl f := by
      unfold BSR
      rw [b1]
    rw [b2, e0]
    exact ⟨fun q => absurd q (by decide), fun _ => Or.inr ⟨f, rfl, rfl, b3, b4, b5⟩⟩
theorem z_31   (m : am_M)  (hq : RV m ∧ 0 ≤ m 7 4 ∧ m 7 4 < 12) : ok 8 31 0 (am_ent 5 [.inr (.inr (some 33))]) [] m (fun rr m' => ∃ v' : Int, rr = [.inl (v')] ∧ ((∃ (q : Int × Int × Int × Int) (t : TKN), BSR (m 1) (m 33 2).toNat (ctok m) = .inr (q, t) ∧ v' = 1 ∧ ctok m' = t ∧ RV m' ∧ vw m' 7 = ad (vw m 7) q.1 q.2.1 q.2.2.1 q.2.2.2 ∧ frS m m') ∨ (∃ f : Int × Int, BSR (m 1) (m 33 2).toNat (ctok m) = .inl f ∧ v' = 0 ∧ m' 33 7 = f.1 ∧ m' 33 8 = f.2 ∧ frF m m'))) := by
  show ok 8 31 0 [some (.inr (.inr (some 33))), none, none, none, none] [] m _
  refine ok.imp (b0 hq.1 hq.2) ?_
  rintro rr mx (⟨q, t, a1, a2, a3⟩ | ⟨f, a1, a2, a3⟩)
  · exact ⟨_, a2, Or.inl ⟨q, t, a1, rfl, a3⟩⟩
  · exact ⟨_, a2, Or.inr ⟨f, a1, rfl, a3⟩⟩
theorem z_35   (m : am_M)  (hq : RV m ∧ 0 ≤ m 7 4 ∧ m 7 4 < 12) : ok 1 35 0 (am_ent 1 [.inr (.inr (some 33))]) [] m (fun rr m' => rr = [.inl (1)] ∧ ctok m' = ctok m ∧ RV m' ∧ vw m' 7 = ad (vw m 7) 3 0 0 0 ∧ frS m m') := by
  show ok 1 35 0 [some (.inr (.inr (some 33)))] [] m _
  obtain ⟨hR, hp⟩ := hq
  obtain ⟨p, hpp⟩ : ∃ p : Nat, m 7 4 = (p : Int) := ⟨(m 7 4).toNat, by omega⟩
  obtain ⟨l1, l2, l3, l4, l5⟩ := lay7 (m := m) (p := p) (k := 3) (s := 0) (r := 0) (i := 0) (by omega) hpp
  obtain ⟨c1, c2⟩ := RV_fr l1 l2
  refine u_35_0 ?_
  rw [hpp, l5]
  exact ⟨q34_ok (by omega), rfl, c2, c1 hR, l3, fun a j h1 h2 => l4 a j h2⟩
def lol (k : Int) : Int := ([1, 0, 1, 1, 0] : List Int).getD (k - 6).toNat 0
def hil (k : Int) : Int := ([40, 20, 12, 6, 9] : List Int).getD (k - 6).toNat 0
theorem z_36   (m : am_M) (w : Int) (hq : RV m ∧ 0 ≤ w ∧ w ≤ 4) : ok 8 36 0 (am_ent 3 [.inr (.inr (some 33)), .inl w]) [] m (fun rr m' => ∃ v' : Int, rr = [.inl (v')] ∧ ((∃ (x : Int) (t : TKN), NR (m 1) (m 33 2).toNat (ctok m) (lol (mkw w)) (hil (mkw w)) = .inr (x, t) ∧ v' = 1 ∧ ctok m' = t ∧ RV m' ∧ vw m' 7 = up (vw m 7) (mkw w - 4).toNat x ∧ frS m m') ∨ (∃ f : Int × Int, NR (m 1) (m 33 2).toNat (ctok m) (lol (mkw w)) (hil (mkw w)) = .inl f ∧ v' = 0 ∧ m' 33 7 = f.1 ∧ m' 33 8 = f.2 ∧ ∀ a j, ¬ (a = 33 ∧ 3 ≤ j ∧ j ≤ 8) → ¬ a = 7 → m' a j = m a j))) := by
  show ok 8 36 0 [some (.inr (.inr (some 33))), some (.inl w), none] [] m _
  obtain ⟨hR, hw⟩ := hq
  have hcs : w = 0 ∨ w = 1 ∨ w = 2 ∨ w = 3 ∨ w = 4 := by omega
  have hmk : mkw w = w + 6 := by rcases hcs with h | h | h | h | h <;> rw [h] <;> decide
  have hlo : ((fun j => ([1, 0, 1, 1, 0] : List Int).getD j 0)) (am_s w).toNat = lol (mkw w) ∧ ((fun j => ([40, 20, 12, 6, 9] : List Int).getD j 0)) (am_s w).toNat = hil (mkw w) ∧ (0 ≤ lol (mkw w) ∧ lol (mkw w) ≤ 100) ∧ 0 ≤ hil (mkw w) ∧ hil (mkw w) ≤ 100 := by rcases hcs with h | h | h | h | h <;> rw [h] <;> decide
  refine u_36_0 ?_
  rw [hlo.1, hlo.2.1, am_s_id (z := w) (by omega) (by omega)]
  refine ⟨fun q => by omega, fun _ => ⟨fun _ => ⟨⟨by omega, by omega⟩, ⟨hR, hlo.2.2.1, hlo.2.2.2⟩, ?_⟩, fun q => by omega⟩⟩
  rintro v2 ma (⟨x, t, b1, b2, b3, b4, b5, b6⟩ | ⟨f, b1, b2, b3, b4, b5⟩)
  · have fin : ∀ c : Nat, c = 5 + w.toNat → ∃ v' : Int, [(.inl (if am_s v2 < 0 then 0 else 1) : am_V)] = [.inl v'] ∧ ((∃ (x : Int) (t : TKN), NR (m 1) (m 33 2).toNat (ctok m) (lol (mkw w)) (hil (mkw w)) = .inr (x, t) ∧ v' = 1 ∧ ctok (mu ma 7 c v2) = t ∧ RV (mu ma 7 c v2) ∧ vw (mu ma 7 c v2) 7 = up (vw m 7) (mkw w - 4).toNat x ∧ frS m (mu ma 7 c v2)) ∨ (∃ f : Int × Int, NR (m 1) (m 33 2).toNat (ctok m) (lol (mkw w)) (hil (mkw w)) = .inl f ∧ v' = 0 ∧ (mu ma 7 c v2) 33 7 = f.1 ∧ (mu ma 7 c v2) 33 8 = f.2 ∧ ∀ a j, ¬ (a = 33 ∧ 3 ≤ j ∧ j ≤ 8) → ¬ a = 7 → (mu ma 7 c v2) a j = m a j)) := by
      intro c hc
      have e33 : mu ma 7 c v2 33 = ma 33 := funext fun j => mu_o (by omega)
      have e1 : mu ma 7 c v2 1 = ma 1 := funext fun j => mu_o (by omega)
      obtain ⟨c1, c2⟩ := RV_fr e33 e1
      refine ⟨1, by rw [b2, am_s_id (z := x) (by omega) (by omega), if_neg (by omega)], Or.inl ⟨x, t, b1, rfl, by rw [c2, b4], c1 b5, ?_, fun a j h1 h2 => by rw [mu_o (by omega)]; exact b6 a j h1⟩⟩
      rw [b2, hmk, ← frT_v b6]
      refine vw_mu (by omega) ?_
      rw [if_neg (by omega), if_neg (by omega)]
      omega
    exact ⟨fun q => fin 5 (by omega), fun q => fin 6 (by omega), fun q => fin 7 (by omega), fun q => fin 8 (by omega), fun q => fin 9 (by omega)⟩
  · have fin : ∀ c : Nat, ∃ v' : Int, [(.inl (if am_s v2 < 0 then 0 else 1) : am_V)] = [.inl v'] ∧ ((∃ (x : Int) (t : TKN), NR (m 1) (m 33 2).toNat (ctok m) (lol (mkw w)) (hil (mkw w)) = .inr (x, t) ∧ v' = 1 ∧ ctok (mu ma 7 c v2) = t ∧ RV (mu ma 7 c v2) ∧ vw (mu ma 7 c v2) 7 = up (vw m 7) (mkw w - 4).toNat x ∧ frS m (mu ma 7 c v2)) ∨ (∃ f : Int × Int, NR (m 1) (m 33 2).toNat (ctok m) (lol (mkw w)) (hil (mkw w)) = .inl f ∧ v' = 0 ∧ (mu ma 7 c v2) 33 7 = f.1 ∧ (mu ma 7 c v2) 33 8 = f.2 ∧ ∀ a j, ¬ (a = 33 ∧ 3 ≤ j ∧ j ≤ 8) → ¬ a = 7 → (mu ma 7 c v2) a j = m a j)) := by
      intro c
      refine ⟨0, by rw [b2, if_pos (by decide)], Or.inr ⟨f, b1, rfl, by rw [mu_o (by omega), b3], by rw [mu_o (by omega), b4], fun a j h1 h2 => by rw [mu_o (by omega)]; exact b5 a j h1⟩⟩
    exact ⟨fun q => fin 5, fun q => fin 6, fun q => fin 7, fun q => fin 8, fun q => fin 9⟩
theorem u_29_74 {Q : List am_V → am_M → Prop} {m : am_M} {b : Int}  (H : ((¬ am_s b = 0) → ((am_s (m 33 4) = 3) → (RDR m) ∧ (∀ (m1 : am_M), (ctok m1 = tok (m 1) (m 33 2).toNat (m 33 3).toNat ∧ RV m1 ∧ frT m m1) → Q [.inl 1] m1)) ∧ ((¬ (am_s (m 33 4) = 3)) → (RV m) ∧ (∀ (m2 : am_M), (m2 33 7 = (fk (ctok m) 2).1 ∧ m2 33 8 = (fk (ctok m) 2).2 ∧ frF m m2) → Q [.inl 0] m2))) ∧ ((am_s b = 0) → Q [.inl 0] m)) : ok 9 29 74 [some (.inr (.inr (some 33))), none, some (.inl b)] [] m Q := by
  refine ok_sg (pc' := 75) (ls' := [some (.inr (.inr (some 33))), none, some (.inl b)]) (st' := [.inl b]) (m' := m) (fun fx hfx o hk => ?_) ?_
  · refine r_ld (pc' := 75) hM_29 d_29_74 rfl rfl ?_
    exact hk
  refine ok_if (pc' := 80) (pc2 := 78) hM_29 d_29_75 (by decide) rfl (fun hz1 => ?_) (fun hz1 => ?_)
  · have H := H.1 hz1
    refine ok_sg (pc' := 85) (ls' := [some (.inr (.inr (some 33))), none, some (.inl b)]) (st' := [.inl 3, .inl (m 33 4)]) (m' := m) (fun fx hfx o hk => ?_) ?_
    · refine r_ld (pc' := 81) hM_29 d_29_80 rfl rfl ?_
      refine r_gI (pc' := 84) (k0 := 4) hM_29 d_29_81 rfl (by decide +kernel) ?_
      refine r_k (pc' := 85) (v := .inl 3) hM_29 d_29_84 rfl rfl ?_
      exact hk
    refine ok_ic (pc' := 94) (pc2 := 88) hM_29 d_29_85 (by decide) rfl (fun hz2 => ?_) (fun hz2 => ?_)
    · have H := H.1 hz2
      obtain ⟨hz3, H⟩ := H
      refine ok_sg (pc' := 95) (ls' := [some (.inr (.inr (some 33))), none, some (.inl b)]) (st' := [.inr (.inr (some 33))]) (m' := m) (fun fx hfx o hk => ?_) ?_
      · refine r_ld (pc' := 95) hM_29 d_29_94 rfl rfl ?_
        exact hk
      refine ok_cl (pc' := 98) (c := (15, 0)) (a := [.inr (.inr (some 33))]) (q := []) hM_29 d_29_95 rfl (by decide +kernel) hM_15 rfl rfl rfl (Nat.le_of_ble_eq_true rfl) (Nat.le_of_ble_eq_true rfl) (Or.inr rfl) (z_15  m  hz3) (Nat.le_of_ble_eq_true rfl) ?_
      rintro _ m1 ⟨rfl, hz4⟩
      replace H := H  m1 hz4
      show ok 9 29 98 [some (.inr (.inr (some 33))), none, some (.inl b)] [] m1 Q
      refine ok_sg (pc' := 99) (ls' := [some (.inr (.inr (some 33))), none, some (.inl b)]) (st' := [.inl 1]) (m' := m1) (fun fx hfx o hk => ?_) ?_
      · refine r_k (pc' := 99) (v := .inl 1) hM_29 d_29_98 rfl rfl ?_
        exact hk
      exact ok_rt (fun fx _ => rt_z hM_29 d_29_99 rfl (by decide)) H
    · have H := H.2 hz2
      obtain ⟨hz5, H⟩ := H
      refine ok_sg (pc' := 90) (ls' := [some (.inr (.inr (some 33))), none, some (.inl b)]) (st' := [.inl 2, .inr (.inr (some 33))]) (m' := m) (fun fx hfx o hk => ?_) ?_
      · refine r_ld (pc' := 89) hM_29 d_29_88 rfl rfl ?_
        refine r_k (pc' := 90) (v := .inl 2) hM_29 d_29_89 rfl rfl ?_
        exact hk
      refine ok_cl (pc' := 93) (c := (30, 0)) (a := [.inr (.inr (some 33)), .inl 2]) (q := []) hM_29 d_29_90 rfl (by decide +kernel) hM_30 rfl rfl rfl (Nat.le_of_ble_eq_true rfl) (Nat.le_of_ble_eq_true rfl) (Or.inr rfl) (z_30  m 2 hz5) (Nat.le_of_ble_eq_true rfl) ?_
      rintro _ m2 ⟨rfl, hz6⟩
      replace H := H  m2 hz6
      show ok 9 29 93 [some (.inr (.inr (some 33))), none, some (.inl b)] [.inl 0] m2 Q
      exact ok_rt (fun fx _ => rt_z hM_29 d_29_93 rfl (by decide)) H
  · have H := H.2 (Decidable.not_not.mp hz1)
    refine ok_sg (pc' := 79) (ls' := [some (.inr (.inr (some 33))), none, some (.inl b)]) (st' := [.inl 0]) (m' := m) (fun fx hfx o hk => ?_) ?_
    · refine r_k (pc' := 79) (v := .inl 0) hM_29 d_29_78 rfl rfl ?_
      exact hk
    exact ok_rt (fun fx _ => rt_z hM_29 d_29_79 rfl (by decide)) H
theorem u_29_0 {Q : List am_V → am_M → Prop} {m : am_M}   (H : (RV m) ∧ (∀ (v1 : Int) (m1 : am_M), (v1 = (if m 33 4 = 1 ∧ 0 ≤ cwn m ∧ cwn m ≤ 6 then cwn m else -1) ∧ m1 = m) → ((¬ am_s v1 = (-1)) → ((am_s v1 < 5) → (RDR m1) ∧ (∀ (m2 : am_M), (ctok m2 = tok (m1 1) (m1 33 2).toNat (m1 33 3).toNat ∧ RV m2 ∧ frT m1 m2) → ((¬ am_s v1 = 5) → ((¬ am_s v1 = 6) → (RV m2 ∧ 0 ≤ v1 ∧ v1 ≤ 4) ∧ (∀ (v3 : Int) (m3 : am_M), (((∃ (x : Int) (t : TKN), NR (m2 1) (m2 33 2).toNat (ctok m2) (lol (mkw v1)) (hil (mkw v1)) = .inr (x, t) ∧ v3 = 1 ∧ ctok m3 = t ∧ RV m3 ∧ vw m3 7 = up (vw m2 7) (mkw v1 - 4).toNat x ∧ frS m2 m3) ∨ (∃ f : Int × Int, NR (m2 1) (m2 33 2).toNat (ctok m2) (lol (mkw v1)) (hil (mkw v1)) = .inl f ∧ v3 = 0 ∧ m3 33 7 = f.1 ∧ m3 33 8 = f.2 ∧ ∀ a j, ¬ (a = 33 ∧ 3 ≤ j ∧ j ≤ 8) → ¬ a = 7 → m3 a j = m2 a j))) → ok 9 29 74 [some (.inr (.inr (some 33))), none, some (.inl v3)] [] m3 Q)) ∧ ((am_s v1 = 6) → (RV m2 ∧ 0 ≤ m2 7 4 ∧ m2 7 4 < 12) ∧ (∀ (m4 : am_M), (ctok m4 = ctok m2 ∧ RV m4 ∧ vw m4 7 = ad (vw m2 7) 3 0 0 0 ∧ frS m2 m4) → ok 9 29 74 [some (.inr (.inr (some 33))), none, some (.inl 1)] [] m4 Q))) ∧ ((am_s v1 = 5) → (RV m2 ∧ 0 ≤ m2 7 4 ∧ m2 7 4 < 12) ∧ (∀ (v5 : Int) (m5 : am_M), (((∃ (q : Int × Int × Int × Int) (t : TKN), BSR (m2 1) (m2 33 2).toNat (ctok m2) = .inr (q, t) ∧ v5 = 1 ∧ ctok m5 = t ∧ RV m5 ∧ vw m5 7 = ad (vw m2 7) q.1 q.2.1 q.2.2.1 q.2.2.2 ∧ frS m2 m5) ∨ (∃ f : Int × Int, BSR (m2 1) (m2 33 2).toNat (ctok m2) = .inl f ∧ v5 = 0 ∧ m5 33 7 = f.1 ∧ m5 33 8 = f.2 ∧ frF m2 m5))) → ok 9 29 74 [some (.inr (.inr (some 33))), none, some (.inl v5)] [] m5 Q)))) ∧ ((¬ (am_s v1 < 5)) → ((am_s (m1 7 4) < 12) → (RDR m1) ∧ (∀ (m6 : am_M), (ctok m6 = tok (m1 1) (m1 33 2).toNat (m1 33 3).toNat ∧ RV m6 ∧ frT m1 m6) → ((¬ am_s v1 = 5) → ((¬ am_s v1 = 6) → (RV m6 ∧ 0 ≤ v1 ∧ v1 ≤ 4) ∧ (∀ (v7 : Int) (m7 : am_M), (((∃ (x : Int) (t : TKN), NR (m6 1) (m6 33 2).toNat (ctok m6) (lol (mkw v1)) (hil (mkw v1)) = .inr (x, t) ∧ v7 = 1 ∧ ctok m7 = t ∧ RV m7 ∧ vw m7 7 = up (vw m6 7) (mkw v1 - 4).toNat x ∧ frS m6 m7) ∨ (∃ f : Int × Int, NR (m6 1) (m6 33 2).toNat (ctok m6) (lol (mkw v1)) (hil (mkw v1)) = .inl f ∧ v7 = 0 ∧ m7 33 7 = f.1 ∧ m7 33 8 = f.2 ∧ ∀ a j, ¬ (a = 33 ∧ 3 ≤ j ∧ j ≤ 8) → ¬ a = 7 → m7 a j = m6 a j))) → ok 9 29 74 [some (.inr (.inr (some 33))), none, some (.inl v7)] [] m7 Q)) ∧ ((am_s v1 = 6) → (RV m6 ∧ 0 ≤ m6 7 4 ∧ m6 7 4 < 12) ∧ (∀ (m8 : am_M), (ctok m8 = ctok m6 ∧ RV m8 ∧ vw m8 7 = ad (vw m6 7) 3 0 0 0 ∧ frS m6 m8) → ok 9 29 74 [some (.inr (.inr (some 33))), none, some (.inl 1)] [] m8 Q))) ∧ ((am_s v1 = 5) → (RV m6 ∧ 0 ≤ m6 7 4 ∧ m6 7 4 < 12) ∧ (∀ (v9 : Int) (m9 : am_M), (((∃ (q : Int × Int × Int × Int) (t : TKN), BSR (m6 1) (m6 33 2).toNat (ctok m6) = .inr (q, t) ∧ v9 = 1 ∧ ctok m9 = t ∧ RV m9 ∧ vw m9 7 = ad (vw m6 7) q.1 q.2.1 q.2.2.1 q.2.2.2 ∧ frS m6 m9) ∨ (∃ f : Int × Int, BSR (m6 1) (m6 33 2).toNat (ctok m6) = .inl f ∧ v9 = 0 ∧ m9 33 7 = f.1 ∧ m9 33 8 = f.2 ∧ frF m6 m9))) → ok 9 29 74 [some (.inr (.inr (some 33))), none, some (.inl v9)] [] m9 Q)))) ∧ ((¬ (am_s (m1 7 4) < 12)) → (RV m1) ∧ (∀ (m10 : am_M), (m10 33 7 = (fk (ctok m1) 4).1 ∧ m10 33 8 = (fk (ctok m1) 4).2 ∧ frF m1 m10) → Q [.inl 0] m10)))) ∧ ((am_s v1 = (-1)) → (RV m1) ∧ (∀ (m11 : am_M), (m11 33 7 = (fk (ctok m1) 2).1 ∧ m11 33 8 = (fk (ctok m1) 2).2 ∧ frF m1 m11) → Q [.inl 0] m11)))) : ok 9 29 0 [some (.inr (.inr (some 33))), none, none] [] m Q := by
  obtain ⟨hz1, H⟩ := H
  refine ok_sg (pc' := 1) (ls' := [some (.inr (.inr (some 33))), none, none]) (st' := [.inr (.inr (some 33))]) (m' := m) (fun fx hfx o hk => ?_) ?_
  · refine r_ld (pc' := 1) hM_29 d_29_0 rfl rfl ?_
    exact hk
  refine ok_cl (pc' := 4) (c := (259, 0)) (a := [.inr (.inr (some 33))]) (q := []) hM_29 d_29_1 rfl (by decide +kernel) hM_259 rfl rfl rfl (Nat.le_of_ble_eq_true rfl) (Nat.le_of_ble_eq_true rfl) (Or.inr rfl) (z_259  m  hz1) (Nat.le_of_ble_eq_true rfl) ?_
  rintro _ m1 ⟨v1, rfl, hz2⟩
  replace H := H v1 m1 hz2
  show ok 9 29 4 [some (.inr (.inr (some 33))), none, none] [.inl v1] m1 Q
  refine ok_sg (pc' := 7) (ls' := [some (.inr (.inr (some 33))), some (.inl v1), none]) (st' := [.inl (-1), .inl v1]) (m' := m1) (fun fx hfx o hk => ?_) ?_
  · refine r_sto (pc' := 5) (ls' := [some (.inr (.inr (some 33))), some (.inl v1), none]) hM_29 d_29_4 rfl rfl ?_
    refine r_ld (pc' := 6) hM_29 d_29_5 rfl rfl ?_
    refine r_k (pc' := 7) (v := .inl (-1)) hM_29 d_29_6 rfl rfl ?_
    exact hk
  refine ok_ic (pc' := 16) (pc2 := 10) hM_29 d_29_7 (by decide) rfl (fun hz3 => ?_) (fun hz3 => ?_)
  · have H := H.1 hz3
    refine ok_sg (pc' := 18) (ls' := [some (.inr (.inr (some 33))), some (.inl v1), none]) (st' := [.inl 5, .inl v1]) (m' := m1) (fun fx hfx o hk => ?_) ?_
    · refine r_ld (pc' := 17) hM_29 d_29_16 rfl rfl ?_
      refine r_k (pc' := 18) (v := .inl 5) hM_29 d_29_17 rfl rfl ?_
      exact hk
    refine ok_ic (pc' := 39) (pc2 := 21) hM_29 d_29_18 (by decide) rfl (fun hz4 => ?_) (fun hz4 => ?_)
    · have H := H.1 hz4
      obtain ⟨hz5, H⟩ := H
      refine ok_sg (pc' := 40) (ls' := [some (.inr (.inr (some 33))), some (.inl v1), none]) (st' := [.inr (.inr (some 33))]) (m' := m1) (fun fx hfx o hk => ?_) ?_
      · refine r_ld (pc' := 40) hM_29 d_29_39 rfl rfl ?_
        exact hk
      refine ok_cl (pc' := 43) (c := (15, 0)) (a := [.inr (.inr (some 33))]) (q := []) hM_29 d_29_40 rfl (by decide +kernel) hM_15 rfl rfl rfl (Nat.le_of_ble_eq_true rfl) (Nat.le_of_ble_eq_true rfl) (Or.inr rfl) (z_15  m1  hz5) (Nat.le_of_ble_eq_true rfl) ?_
      rintro _ m2 ⟨rfl, hz6⟩
      replace H := H  m2 hz6
      show ok 9 29 43 [some (.inr (.inr (some 33))), some (.inl v1), none] [] m2 Q
      refine ok_sg (pc' := 45) (ls' := [some (.inr (.inr (some 33))), some (.inl v1), none]) (st' := [.inl 5, .inl v1]) (m' := m2) (fun fx hfx o hk => ?_) ?_
      · refine r_ld (pc' := 44) hM_29 d_29_43 rfl rfl ?_
        refine r_k (pc' := 45) (v := .inl 5) hM_29 d_29_44 rfl rfl ?_
        exact hk
      refine ok_ic (pc' := 55) (pc2 := 48) hM_29 d_29_45 (by decide) rfl (fun hz7 => ?_) (fun hz7 => ?_)
      · have H := H.1 hz7
        refine ok_sg (pc' := 58) (ls' := [some (.inr (.inr (some 33))), some (.inl v1), none]) (st' := [.inl 6, .inl v1]) (m' := m2) (fun fx hfx o hk => ?_) ?_
        · refine r_ld (pc' := 56) hM_29 d_29_55 rfl rfl ?_
          refine r_k (pc' := 58) (v := .inl 6) hM_29 d_29_56 rfl rfl ?_
          exact hk
        refine ok_ic (pc' := 68) (pc2 := 61) hM_29 d_29_58 (by decide) rfl (fun hz8 => ?_) (fun hz8 => ?_)
        · have H := H.1 hz8
          obtain ⟨hz9, H⟩ := H
          refine ok_sg (pc' := 70) (ls' := [some (.inr (.inr (some 33))), some (.inl v1), none]) (st' := [.inl v1, .inr (.inr (some 33))]) (m' := m2) (fun fx hfx o hk => ?_) ?_
          · refine r_ld (pc' := 69) hM_29 d_29_68 rfl rfl ?_
            refine r_ld (pc' := 70) hM_29 d_29_69 rfl rfl ?_
            exact hk
          refine ok_cl (pc' := 73) (c := (36, 0)) (a := [.inr (.inr (some 33)), .inl v1]) (q := []) hM_29 d_29_70 rfl (by decide +kernel) hM_36 rfl rfl rfl (Nat.le_of_ble_eq_true rfl) (Nat.le_of_ble_eq_true rfl) (Or.inr rfl) (z_36  m2 v1 hz9) (Nat.le_of_ble_eq_true rfl) ?_
          rintro _ m3 ⟨v3, rfl, hz10⟩
          replace H := H v3 m3 hz10
          show ok 9 29 73 [some (.inr (.inr (some 33))), some (.inl v1), none] [.inl v3] m3 Q
          refine ok_sg (pc' := 74) (ls' := [some (.inr (.inr (some 33))), none, some (.inl v3)]) (st' := []) (m' := m3) (fun fx hfx o hk => ?_) ?_
          · refine r_sto (pc' := 74) (ls' := [some (.inr (.inr (some 33))), some (.inl v1), some (.inl v3)]) hM_29 d_29_73 rfl rfl ?_
            refine rn_wk (a := [some (.inr (.inr (some 33))), none, some (.inl v3)]) (by simp only [am_le, and_self]) ?_
            exact hk
          exact H
        · have H := H.2 (Decidable.not_not.mp hz8)
          obtain ⟨hz11, H⟩ := H
          refine ok_sg (pc' := 62) (ls' := [some (.inr (.inr (some 33))), some (.inl v1), none]) (st' := [.inr (.inr (some 33))]) (m' := m2) (fun fx hfx o hk => ?_) ?_
          · refine r_ld (pc' := 62) hM_29 d_29_61 rfl rfl ?_
            exact hk
          refine ok_cl (pc' := 65) (c := (35, 0)) (a := [.inr (.inr (some 33))]) (q := []) hM_29 d_29_62 rfl (by decide +kernel) hM_35 rfl rfl rfl (Nat.le_of_ble_eq_true rfl) (Nat.le_of_ble_eq_true rfl) (Or.inr rfl) (z_35  m2  hz11) (Nat.le_of_ble_eq_true rfl) ?_
          rintro _ m4 ⟨rfl, hz12⟩
          replace H := H  m4 hz12
          show ok 9 29 65 [some (.inr (.inr (some 33))), some (.inl v1), none] [.inl 1] m4 Q
          refine ok_sg (pc' := 74) (ls' := [some (.inr (.inr (some 33))), none, some (.inl 1)]) (st' := []) (m' := m4) (fun fx hfx o hk => ?_) ?_
          · refine r_go (pc' := 73) hM_29 d_29_65 (by decide) ?_
            refine r_sto (pc' := 74) (ls' := [some (.inr (.inr (some 33))), some (.inl v1), some (.inl 1)]) hM_29 d_29_73 rfl rfl ?_
            refine rn_wk (a := [some (.inr (.inr (some 33))), none, some (.inl 1)]) (by simp only [am_le, and_self]) ?_
            exact hk
          exact H
      · have H := H.2 (Decidable.not_not.mp hz7)
        obtain ⟨hz13, H⟩ := H
        refine ok_sg (pc' := 49) (ls' := [some (.inr (.inr (some 33))), some (.inl v1), none]) (st' := [.inr (.inr (some 33))]) (m' := m2) (fun fx hfx o hk => ?_) ?_
        · refine r_ld (pc' := 49) hM_29 d_29_48 rfl rfl ?_
          exact hk
        refine ok_cl (pc' := 52) (c := (31, 0)) (a := [.inr (.inr (some 33))]) (q := []) hM_29 d_29_49 rfl (by decide +kernel) hM_31 rfl rfl rfl (Nat.le_of_ble_eq_true rfl) (Nat.le_of_ble_eq_true rfl) (Or.inr rfl) (z_31  m2  hz13) (Nat.le_of_ble_eq_true rfl) ?_
        rintro _ m5 ⟨v5, rfl, hz14⟩
        replace H := H v5 m5 hz14
        show ok 9 29 52 [some (.inr (.inr (some 33))), some (.inl v1), none] [.inl v5] m5 Q
        refine ok_sg (pc' := 74) (ls' := [some (.inr (.inr (some 33))), none, some (.inl v5)]) (st' := []) (m' := m5) (fun fx hfx o hk => ?_) ?_
        · refine r_go (pc' := 73) hM_29 d_29_52 (by decide) ?_
          refine r_sto (pc' := 74) (ls' := [some (.inr (.inr (some 33))), some (.inl v1), some (.inl v5)]) hM_29 d_29_73 rfl rfl ?_
          refine rn_wk (a := [some (.inr (.inr (some 33))), none, some (.inl v5)]) (by simp only [am_le, and_self]) ?_
          exact hk
        exact H
    · have H := H.2 hz4
      refine ok_sg (pc' := 30) (ls' := [some (.inr (.inr (some 33))), some (.inl v1), none]) (st' := [.inl 12, .inl (m1 7 4)]) (m' := m1) (fun fx hfx o hk => ?_) ?_
      · refine r_ld (pc' := 22) hM_29 d_29_21 rfl rfl ?_
        refine r_gR (pc' := 25) (v := 7) hM_29 d_29_22 rfl (by decide +kernel) ?_
        refine r_gI (pc' := 28) (k0 := 4) hM_29 d_29_25 rfl (by decide +kernel) ?_
        refine r_k (pc' := 30) (v := .inl 12) hM_29 d_29_28 rfl rfl ?_
        exact hk
      refine ok_ic (pc' := 39) (pc2 := 33) hM_29 d_29_30 (by decide) rfl (fun hz15 => ?_) (fun hz15 => ?_)
      · have H := H.1 hz15
        obtain ⟨hz16, H⟩ := H
        refine ok_sg (pc' := 40) (ls' := [some (.inr (.inr (some 33))), some (.inl v1), none]) (st' := [.inr (.inr (some 33))]) (m' := m1) (fun fx hfx o hk => ?_) ?_
        · refine r_ld (pc' := 40) hM_29 d_29_39 rfl rfl ?_
          exact hk
        refine ok_cl (pc' := 43) (c := (15, 0)) (a := [.inr (.inr (some 33))]) (q := []) hM_29 d_29_40 rfl (by decide +kernel) hM_15 rfl rfl rfl (Nat.le_of_ble_eq_true rfl) (Nat.le_of_ble_eq_true rfl) (Or.inr rfl) (z_15  m1  hz16) (Nat.le_of_ble_eq_true rfl) ?_
        rintro _ m6 ⟨rfl, hz17⟩
        replace H := H  m6 hz17
        show ok 9 29 43 [some (.inr (.inr (some 33))), some (.inl v1), none] [] m6 Q
        refine ok_sg (pc' := 45) (ls' := [some (.inr (.inr (some 33))), some (.inl v1), none]) (st' := [.inl 5, .inl v1]) (m' := m6) (fun fx hfx o hk => ?_) ?_
        · refine r_ld (pc' := 44) hM_29 d_29_43 rfl rfl ?_
          refine r_k (pc' := 45) (v := .inl 5) hM_29 d_29_44 rfl rfl ?_
          exact hk
        refine ok_ic (pc' := 55) (pc2 := 48) hM_29 d_29_45 (by decide) rfl (fun hz18 => ?_) (fun hz18 => ?_)
        · have H := H.1 hz18
          refine ok_sg (pc' := 58) (ls' := [some (.inr (.inr (some 33))), some (.inl v1), none]) (st' := [.inl 6, .inl v1]) (m' := m6) (fun fx hfx o hk => ?_) ?_
          · refine r_ld (pc' := 56) hM_29 d_29_55 rfl rfl ?_
            refine r_k (pc' := 58) (v := .inl 6) hM_29 d_29_56 rfl rfl ?_
            exact hk
          refine ok_ic (pc' := 68) (pc2 := 61) hM_29 d_29_58 (by decide) rfl (fun hz19 => ?_) (fun hz19 => ?_)
          · have H := H.1 hz19
            obtain ⟨hz20, H⟩ := H
            refine ok_sg (pc' := 70) (ls' := [some (.inr (.inr (some 33))), some (.inl v1), none]) (st' := [.inl v1, .inr (.inr (some 33))]) (m' := m6) (fun fx hfx o hk => ?_) ?_
            · refine r_ld (pc' := 69) hM_29 d_29_68 rfl rfl ?_
              refine r_ld (pc' := 70) hM_29 d_29_69 rfl rfl ?_
              exact hk
            refine ok_cl (pc' := 73) (c := (36, 0)) (a := [.inr (.inr (some 33)), .inl v1]) (q := []) hM_29 d_29_70 rfl (by decide +kernel) hM_36 rfl rfl rfl (Nat.le_of_ble_eq_true rfl) (Nat.le_of_ble_eq_true rfl) (Or.inr rfl) (z_36  m6 v1 hz20) (Nat.le_of_ble_eq_true rfl) ?_
            rintro _ m7 ⟨v7, rfl, hz21⟩
            replace H := H v7 m7 hz21
            show ok 9 29 73 [some (.inr (.inr (some 33))), some (.inl v1), none] [.inl v7] m7 Q
            refine ok_sg (pc' := 74) (ls' := [some (.inr (.inr (some 33))), none, some (.inl v7)]) (st' := []) (m' := m7) (fun fx hfx o hk => ?_) ?_
            · refine r_sto (pc' := 74) (ls' := [some (.inr (.inr (some 33))), some (.inl v1), some (.inl v7)]) hM_29 d_29_73 rfl rfl ?_
              refine rn_wk (a := [some (.inr (.inr (some 33))), none, some (.inl v7)]) (by simp only [am_le, and_self]) ?_
              exact hk
            exact H
          · have H := H.2 (Decidable.not_not.mp hz19)
            obtain ⟨hz22, H⟩ := H
            refine ok_sg (pc' := 62) (ls' := [some (.inr (.inr (some 33))), some (.inl v1), none]) (st' := [.inr (.inr (some 33))]) (m' := m6) (fun fx hfx o hk => ?_) ?_
            · refine r_ld (pc' := 62) hM_29 d_29_61 rfl rfl ?_
              exact hk
            refine ok_cl (pc' := 65) (c := (35, 0)) (a := [.inr (.inr (some 33))]) (q := []) hM_29 d_29_62 rfl (by decide +kernel) hM_35 rfl rfl rfl (Nat.le_of_ble_eq_true rfl) (Nat.le_of_ble_eq_true rfl) (Or.inr rfl) (z_35  m6  hz22) (Nat.le_of_ble_eq_true rfl) ?_
            rintro _ m8 ⟨rfl, hz23⟩
            replace H := H  m8 hz23
            show ok 9 29 65 [some (.inr (.inr (some 33))), some (.inl v1), none] [.inl 1] m8 Q
            refine ok_sg (pc' := 74) (ls' := [some (.inr (.inr (some 33))), none, some (.inl 1)]) (st' := []) (m' := m8) (fun fx hfx o hk => ?_) ?_
            · refine r_go (pc' := 73) hM_29 d_29_65 (by decide) ?_
              refine r_sto (pc' := 74) (ls' := [some (.inr (.inr (some 33))), some (.inl v1), some (.inl 1)]) hM_29 d_29_73 rfl rfl ?_
              refine rn_wk (a := [some (.inr (.inr (some 33))), none, some (.inl 1)]) (by simp only [am_le, and_self]) ?_
              exact hk
            exact H
        · have H := H.2 (Decidable.not_not.mp hz18)
          obtain ⟨hz24, H⟩ := H
          refine ok_sg (pc' := 49) (ls' := [some (.inr (.inr (some 33))), some (.inl v1), none]) (st' := [.inr (.inr (some 33))]) (m' := m6) (fun fx hfx o hk => ?_) ?_
          · refine r_ld (pc' := 49) hM_29 d_29_48 rfl rfl ?_
            exact hk
          refine ok_cl (pc' := 52) (c := (31, 0)) (a := [.inr (.inr (some 33))]) (q := []) hM_29 d_29_49 rfl (by decide +kernel) hM_31 rfl rfl rfl (Nat.le_of_ble_eq_true rfl) (Nat.le_of_ble_eq_true rfl) (Or.inr rfl) (z_31  m6  hz24) (Nat.le_of_ble_eq_true rfl) ?_
          rintro _ m9 ⟨v9, rfl, hz25⟩
          replace H := H v9 m9 hz25
          show ok 9 29 52 [some (.inr (.inr (some 33))), some (.inl v1), none] [.inl v9] m9 Q
          refine ok_sg (pc' := 74) (ls' := [some (.inr (.inr (some 33))), none, some (.inl v9)]) (st' := []) (m' := m9) (fun fx hfx o hk => ?_) ?_
          · refine r_go (pc' := 73) hM_29 d_29_52 (by decide) ?_
            refine r_sto (pc' := 74) (ls' := [some (.inr (.inr (some 33))), some (.inl v1), some (.inl v9)]) hM_29 d_29_73 rfl rfl ?_
            refine rn_wk (a := [some (.inr (.inr (some 33))), none, some (.inl v9)]) (by simp only [am_le, and_self]) ?_
            exact hk
          exact H
      · have H := H.2 hz15
        obtain ⟨hz26, H⟩ := H
        refine ok_sg (pc' := 35) (ls' := [some (.inr (.inr (some 33))), some (.inl v1), none]) (st' := [.inl 4, .inr (.inr (some 33))]) (m' := m1) (fun fx hfx o hk => ?_) ?_
        · refine r_ld (pc' := 34) hM_29 d_29_33 rfl rfl ?_
          refine r_k (pc' := 35) (v := .inl 4) hM_29 d_29_34 rfl rfl ?_
          exact hk
        refine ok_cl (pc' := 38) (c := (30, 0)) (a := [.inr (.inr (some 33)), .inl 4]) (q := []) hM_29 d_29_35 rfl (by decide +kernel) hM_30 rfl rfl rfl (Nat.le_of_ble_eq_true rfl) (Nat.le_of_ble_eq_true rfl) (Or.inr rfl) (z_30  m1 4 hz26) (Nat.le_of_ble_eq_true rfl) ?_
        rintro _ m10 ⟨rfl, hz27⟩
        replace H := H  m10 hz27
        show ok 9 29 38 [some (.inr (.inr (some 33))), some (.inl v1), none] [.inl 0] m10 Q
        exact ok_rt (fun fx _ => rt_z hM_29 d_29_38 rfl (by decide)) H
  · have H := H.2 (Decidable.not_not.mp hz3)
    obtain ⟨hz28, H⟩ := H
    refine ok_sg (pc' := 12) (ls' := [some (.inr (.inr (some 33))), some (.inl v1), none]) (st' := [.inl 2, .inr (.inr (some 33))]) (m' := m1) (fun fx hfx o hk => ?_) ?_
    · refine r_ld (pc' := 11) hM_29 d_29_10 rfl rfl ?_
      refine r_k (pc' := 12) (v := .inl 2) hM_29 d_29_11 rfl rfl ?_
      exact hk
    refine ok_cl (pc' := 15) (c := (30, 0)) (a := [.inr (.inr (some 33)), .inl 2]) (q := []) hM_29 d_29_12 rfl (by decide +kernel) hM_30 rfl rfl rfl (Nat.le_of_ble_eq_true rfl) (Nat.le_of_ble_eq_true rfl) (Or.inr rfl) (z_30  m1 2 hz28) (Nat.le_of_ble_eq_true rfl) ?_
    rintro _ m11 ⟨rfl, hz29⟩
    replace H := H  m11 hz29
    show ok 9 29 15 [some (.inr (.inr (some 33))), some (.inl v1), none] [.inl 0] m11 Q
    exact ok_rt (fun fx _ => rt_z hM_29 d_29_15 rfl (by decide)) H
