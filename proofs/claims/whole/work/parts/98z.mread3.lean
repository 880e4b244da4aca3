theorem mu_up {m : am_M} {r k : Nat} {z : Int} : (mu m r k z) r = up (m r) k z := funext fun j => mu_if
theorem ly_up {g : Nat → Int} {p : Nat} {a b c e : Int} (hp : p < 12) : up (up (up (up g (8 + p) a) (20 + p) b) (32 + p) c) (44 + p) e = ly g p a b c e := by
  funext j
  unfold up ly
  (repeat' split) <;> first | rfl | omega
def PBM (m0 : am_M) (R : (Int × Int) ⊕ ((Nat → Int) × TKN)) (rr : List am_V) (m' : am_M) : Prop := rr = [] ∧ ((∃ x : (Nat → Int) × TKN, R = .inr x ∧ m' 57 = x.1 ∧ mtok m' = x.2 ∧ MV m' ∧ m' 53 11 = 0 ∧ frG m0 m') ∨ (∃ f : Int × Int, R = .inl f ∧ m' 53 11 = f.1 ∧ m' 53 12 = f.2 ∧ (1 ≤ f.1 ∧ f.1 ≤ 4) ∧ MV m' ∧ frG m0 m'))
theorem x91 {m : am_M} {Q : List am_V → am_M → Prop} {p s r i k : Int} (hW : WR m) (h : ¬ m 53 11 = 0) (hQ : Q [] m) : ok 7 175 91 [some (.inr (.inr (some 53))), some (.inl p), some (.inl s), some (.inl r), some (.inl i), some (.inl k)] [] m Q := by
  unfold WR at hW
  refine u_175_91 ?_
  rw [am_s_id (z := m 53 11) (by omega) (by omega)]
  exact ⟨fun q => absurd q h, fun _ => hQ⟩
theorem x64 {m : am_M} {Q : List am_V → am_M → Prop} {p s r i : Int} (hV : MV m) (hW : WR m) (h : ¬ m 53 11 = 0) (hQ : Q [] m) : ok 7 175 64 [some (.inr (.inr (some 53))), some (.inl p), some (.inl s), some (.inl r), some (.inl i), none] [] m Q := by
  refine u_175_64 ⟨⟨hV, hW, by decide, by decide⟩, ?_⟩
  rintro v1 ma ⟨-, a2⟩
  obtain ⟨b1, b2⟩ := a2 (fun z => h z.1)
  rw [b1, b2]
  refine ⟨fun _ => ⟨⟨hV, hW, by decide, by decide⟩, ?_⟩, fun q => absurd (by decide) q⟩
  rintro v2 mb ⟨-, c2⟩
  obtain ⟨d1, d2⟩ := c2 (fun z => h z.1)
  rw [d1, d2]
  exact x91 hW h hQ
theorem x43 {m : am_M} {Q : List am_V → am_M → Prop} {p s r : Int} (hV : MV m) (hW : WR m) (h : ¬ m 53 11 = 0) (hQ : Q [] m) : ok 7 175 43 [some (.inr (.inr (some 53))), some (.inl p), some (.inl s), some (.inl r), none, none] [] m Q := by
  refine u_175_43 ⟨⟨hV, hW, by decide, by decide⟩, ?_⟩
  rintro v1 ma ⟨-, a2⟩
  obtain ⟨b1, b2⟩ := a2 (fun z => h z.1)
  rw [b1, b2]
  exact ⟨fun _ => x64 hV hW h hQ, fun q => absurd (by decide) q⟩
theorem x23 {m : am_M} {Q : List am_V → am_M → Prop} {p s : Int} (hV : MV m) (hW : WR m) (h : ¬ m 53 11 = 0) (hQ : Q [] m) : ok 7 175 23 [some (.inr (.inr (some 53))), some (.inl p), some (.inl s), none, none, none] [] m Q := by
  refine u_175_23 ⟨⟨hV, hW, by decide, by decide⟩, ?_⟩
  rintro v1 ma ⟨-, a2⟩
  obtain ⟨b1, b2⟩ := a2 (fun z => h z.1)
  rw [b1, b2]
  exact ⟨fun _ => x43 hV hW h hQ, fun q => absurd (by decide) q⟩
noncomputable def TBG (g : Nat → Int) (b : (Int × Int) ⊕ ((Int × Int × Int × Int) × TKN)) : (Int × Int) ⊕ ((Nat → Int) × TKN) := match b with
  | .inl f => .inl f
  | .inr x => .inr (ad g x.1.1 x.1.2.1 x.1.2.2.1 x.1.2.2.2, x.2)
/-- a state of the model on the way, as good as m0 -/
def WAY (m0 m : am_M) : Prop := frM m0 m ∧ MV m ∧ m 53 11 = 0
theorem WAY_w {m0 m : am_M} (h : WAY m0 m) : WR m := by
  unfold WR
  have := h.2.2
  omega
theorem WAY_t {m0 m m1 : am_M} (h : WAY m0 m) (hF : frM m m1) (hV : MV m1) : WAY m0 m1 := ⟨frM_t h.1 hF, hV, by rw [hF 53 11 (by omega)]; exact h.2.2⟩
theorem WAY_f {m0 m m1 : am_M} {f : Int × Int} {R : (Int × Int) ⊕ ((Nat → Int) × TKN)} (h : WAY m0 m) (hF : frW m m1) (h1 : m1 53 11 = f.1) (h2 : m1 53 12 = f.2) (hr : 1 ≤ f.1 ∧ f.1 ≤ 4) (hR : R = .inl f) : MV m1 ∧ WR m1 ∧ ¬ m1 53 11 = 0 ∧ PBM m0 R [] m1 := by
  have hV := (MV_W hF).1 h.2.1
  refine ⟨hV, by unfold WR; omega, by omega, rfl, Or.inr ⟨f, hR, h1, h2, hr, hV, frG_t (frM_G h.1) (frW_G hF)⟩⟩
theorem y91 {m0 m : am_M} {p : Nat} {s r i k : Int} {R : (Int × Int) ⊕ ((Nat → Int) × TKN)} (hp : p < 12) (hN : m0 57 0 = (p : Int)) (hw : WAY m0 m) (hR : R = .inr (ad (m0 57) k s r i, mtok m)) : ok 7 175 91 [some (.inr (.inr (some 53))), some (.inl (p : Int)), some (.inl s), some (.inl r), some (.inl i), some (.inl k)] [] m (PBM m0 R) := by
  have h57 := (frM_5 hw.1).2.2.2
  refine u_175_91 ?_
  rw [hw.2.2, am_s_id (z := 8 + (p : Int)) (by omega) (by omega), am_s_id (z := 20 + (p : Int)) (by omega) (by omega), am_s_id (z := 32 + (p : Int)) (by omega) (by omega), am_s_id (z := 44 + (p : Int)) (by omega) (by omega), show (8 + (p : Int)).toNat = 8 + p by omega, show (20 + (p : Int)).toNat = 20 + p by omega, show (32 + (p : Int)).toNat = 32 + p by omega, show (44 + (p : Int)).toNat = 44 + p by omega]
  have e0 : mu (mu (mu (mu m 57 (8 + p) k) 57 (20 + p) s) 57 (32 + p) r) 57 (44 + p) i 57 0 = (p : Int) := by
    rw [mu_o (by omega), mu_o (by omega), mu_o (by omega), mu_o (by omega), h57, hN]
  rw [e0]
  refine ⟨fun _ => ⟨⟨by omega, by omega⟩, ⟨by omega, by omega⟩, ⟨by omega, by omega⟩, ⟨by omega, by omega⟩, rfl, Or.inl ⟨_, hR, ?_, ?_, ?_, ?_, ?_⟩⟩, fun q => absurd (by decide) q⟩
  · rw [mu_up, mu_up, mu_up, mu_up, mu_up, h57, ly_up hp]
    unfold ad
    rw [hN, Int.toNat_natCast]
  · show mtok _ = mtok m
    unfold mtok
    rw [mu_r (by decide), mu_r (by decide), mu_r (by decide), mu_r (by decide), mu_r (by decide), mu_r (by decide), mu_r (by decide), mu_r (by decide), mu_r (by decide), mu_r (by decide), mu_r (by decide), mu_r (by decide), mu_r (by decide), mu_r (by decide), mu_r (by decide), mu_r (by decide), mu_r (by decide), mu_r (by decide), mu_r (by decide), mu_r (by decide)]
  · have e53 : mu (mu (mu (mu (mu m 57 (8 + p) k) 57 (20 + p) s) 57 (32 + p) r) 57 (44 + p) i) 57 0 ((p : Int) + 1) 53 = m 53 := funext fun j => by rw [mu_o (by omega), mu_o (by omega), mu_o (by omega), mu_o (by omega), mu_o (by omega)]
    have e56 : mu (mu (mu (mu (mu m 57 (8 + p) k) 57 (20 + p) s) 57 (32 + p) r) 57 (44 + p) i) 57 0 ((p : Int) + 1) 56 = m 56 := funext fun j => by rw [mu_o (by omega), mu_o (by omega), mu_o (by omega), mu_o (by omega), mu_o (by omega)]
    have hV := hw.2.1
    unfold MV MDR at hV ⊢
    rw [e53, e56]
    exact hV
  · rw [mu_o (by omega), mu_o (by omega), mu_o (by omega), mu_o (by omega), mu_o (by omega), hw.2.2]
  · intro a j h1 h2
    rw [mu_o (by omega), mu_o (by omega), mu_o (by omega), mu_o (by omega), mu_o (by omega)]
    exact hw.1 a j (by omega)
theorem y64 {m0 m : am_M} {p : Nat} {s r i : Int} (hp : p < 12) (hN : m0 57 0 = (p : Int)) (hw : WAY m0 m) : ok 7 175 64 [some (.inr (.inr (some 53))), some (.inl (p : Int)), some (.inl s), some (.inl r), some (.inl i), none] [] m (PBM m0 (TBG (m0 57) (BS3 (m0 56) (m0 53 8).toNat s r i (mtok m)))) := by
  obtain ⟨f1, f2, f3, f4⟩ := frM_5 hw.1
  refine u_175_64 ?_
  rw [f1, f2]
  refine ⟨⟨hw.2.1, WAY_w hw, by decide, by decide⟩, ?_⟩
  rintro v1 ma ⟨h1, h2⟩
  by_cases hk : m 53 9 = 3
  · obtain ⟨a1, a2, a3, a4⟩ := h1 ⟨hw.2.2, hk⟩
    rw [a1]
    refine ⟨fun q => absurd q (by decide), fun _ => y91 hp hN (WAY_t hw a4 a3) ?_⟩
    unfold TBG BS3 BDR
    rw [if_pos (show (mtok m).2.1 = 3 from hk), a2]
  · obtain ⟨a1, a2⟩ := h2 (fun z => hk z.2)
    rw [a1, a2, f1, f2]
    refine ⟨fun _ => ⟨⟨hw.2.1, WAY_w hw, by decide, by decide⟩, ?_⟩, fun q => absurd (by decide) q⟩
    rintro v2 mb ⟨h3, h4⟩
    by_cases hk4 : m 53 9 = 4
    · obtain ⟨b1, b2, b3, b4⟩ := h3 ⟨hw.2.2, hk4⟩
      rw [b1, if_neg (by decide)]
      refine y91 hp hN (WAY_t hw b4 b3) ?_
      unfold TBG BS3 BDR
      rw [if_neg (show ¬ (mtok m).2.1 = 3 from hk), if_pos (show (mtok m).2.1 = 4 from hk4), b2]
    · obtain ⟨b1, b2⟩ := h4 (fun z => hk4 z.2)
      rw [b1, b2, if_pos (by decide)]
      refine y91 hp hN hw ?_
      unfold TBG BS3 BDR
      rw [if_neg (show ¬ (mtok m).2.1 = 3 from hk), if_neg (show ¬ (mtok m).2.1 = 4 from hk4)]
theorem y43 {m0 m : am_M} {p : Nat} {s r : Int} (hp : p < 12) (hN : m0 57 0 = (p : Int)) (hw : WAY m0 m) : ok 7 175 43 [some (.inr (.inr (some 53))), some (.inl (p : Int)), some (.inl s), some (.inl r), none, none] [] m (PBM m0 (TBG (m0 57) (BS2 (m0 56) (m0 53 8).toNat s r (mtok m)))) := by
  obtain ⟨f1, f2, f3, f4⟩ := frM_5 hw.1
  refine u_175_43 ?_
  rw [f1, f2]
  refine ⟨⟨hw.2.1, WAY_w hw, by decide, by decide⟩, ?_⟩
  rintro v1 ma ⟨h1, h2⟩
  by_cases hk : m 53 9 = 2
  · obtain ⟨a1, a2, a3, a4⟩ := h1 ⟨hw.2.2, hk⟩
    have hw1 := WAY_t hw a4 a3
    obtain ⟨g1, g2, g3, g4⟩ := frM_5 hw1.1
    have hO : OPR1 (m0 56) (m0 53 8).toNat (mtok m) 2 9 = NR (m0 56) (m0 53 8).toNat (mtok ma) 0 9 := by
      unfold OPR1
      rw [if_pos (show (mtok m).2.1 = 2 from hk), a2]
    rw [a1, g1, g2]
    refine ⟨fun q => absurd q (by decide), fun _ => ⟨⟨a3, WAY_w hw1, by decide, by decide⟩, ?_⟩⟩
    rintro v2 mb ⟨h3, -⟩
    rcases h3 hw1.2.2 with ⟨x, t, b1, b2, b3, b4, b5⟩ | ⟨f, b1, b2, b3, b4, b5⟩
    · have e : BS2 (m0 56) (m0 53 8).toNat s r (mtok m) = BS3 (m0 56) (m0 53 8).toNat s r x (mtok mb) := by
        unfold BS2
        rw [hO, b1, b3]
      rw [b2, e]
      exact y64 hp hN (WAY_t hw1 b5 b4)
    · have e : BS2 (m0 56) (m0 53 8).toNat s r (mtok m) = .inl f := by
        unfold BS2
        rw [hO, b1]
      obtain ⟨c1, c2, c3, c4⟩ := WAY_f (R := TBG (m0 57) (BS2 (m0 56) (m0 53 8).toNat s r (mtok m))) hw1 b5 b2 b3 b4 (by rw [e]; rfl)
      exact x64 c1 c2 c3 c4
  · obtain ⟨a1, a2⟩ := h2 (fun z => hk z.2)
    rw [a1, a2]
    refine ⟨fun _ => ?_, fun q => absurd (by decide) q⟩
    have e : BS2 (m0 56) (m0 53 8).toNat s r (mtok m) = BS3 (m0 56) (m0 53 8).toNat s r 0 (mtok m) := by
      unfold BS2 OPR1
      rw [if_neg (show ¬ (mtok m).2.1 = 2 from hk)]
    rw [e]
    exact y64 hp hN hw
theorem y23 {m0 m : am_M} {p : Nat} {s : Int} (hp : p < 12) (hN : m0 57 0 = (p : Int)) (hw : WAY m0 m) : ok 7 175 23 [some (.inr (.inr (some 53))), some (.inl (p : Int)), some (.inl s), none, none, none] [] m (PBM m0 (TBG (m0 57) (BS1 (m0 56) (m0 53 8).toNat s (mtok m)))) := by
  obtain ⟨f1, f2, f3, f4⟩ := frM_5 hw.1
  refine u_175_23 ?_
  rw [f1, f2]
  refine ⟨⟨hw.2.1, WAY_w hw, by decide, by decide⟩, ?_⟩
  rintro v1 ma ⟨h1, h2⟩
  by_cases hk : m 53 9 = 1
  · obtain ⟨a1, a2, a3, a4⟩ := h1 ⟨hw.2.2, hk⟩
    have hw1 := WAY_t hw a4 a3
    obtain ⟨g1, g2, g3, g4⟩ := frM_5 hw1.1
    have hO : OPR1 (m0 56) (m0 53 8).toNat (mtok m) 1 100 = NR (m0 56) (m0 53 8).toNat (mtok ma) 0 100 := by
      unfold OPR1
      rw [if_pos (show (mtok m).2.1 = 1 from hk), a2]
    rw [a1, g1, g2]
    refine ⟨fun q => absurd q (by decide), fun _ => ⟨⟨a3, WAY_w hw1, by decide, by decide⟩, ?_⟩⟩
    rintro v2 mb ⟨h3, -⟩
    rcases h3 hw1.2.2 with ⟨x, t, b1, b2, b3, b4, b5⟩ | ⟨f, b1, b2, b3, b4, b5⟩
    · have e : BS1 (m0 56) (m0 53 8).toNat s (mtok m) = BS2 (m0 56) (m0 53 8).toNat s x (mtok mb) := by
        unfold BS1
        rw [hO, b1, b3]
      rw [b2, e]
      exact y43 hp hN (WAY_t hw1 b5 b4)
    · have e : BS1 (m0 56) (m0 53 8).toNat s (mtok m) = .inl f := by
        unfold BS1
        rw [hO, b1]
      obtain ⟨c1, c2, c3, c4⟩ := WAY_f (R := TBG (m0 57) (BS1 (m0 56) (m0 53 8).toNat s (mtok m))) hw1 b5 b2 b3 b4 (by rw [e]; rfl)
      exact x43 c1 c2 c3 c4
  · obtain ⟨a1, a2⟩ := h2 (fun z => hk z.2)
    rw [a1, a2]
    refine ⟨fun _ => ?_, fun q => absurd (by decide) q⟩
    have e : BS1 (m0 56) (m0 53 8).toNat s (mtok m) = BS2 (m0 56) (m0 53 8).toNat s 0 (mtok m) := by
      unfold BS1 OPR1
      rw [if_neg (show ¬ (mtok m).2.1 = 1 from hk)]
    rw [e]
    exact y43 hp hN hw
noncomputable def BRM (tx : Nat → Int) (n : Nat) (g : Nat → Int) (t : TKN) : (Int × Int) ⊕ ((Nat → Int) × TKN) := if 12 ≤ g 0 then .inl (fk t 4) else TBG g (BSR tx n (tok tx n t.2.2.2))
noncomputable def GRM (tx : Nat → Int) (n : Nat) (g : Nat → Int) (t : TKN) : (Int × Int) ⊕ ((Nat → Int) × TKN) := if 12 ≤ g 0 then .inl (fk t 4) else .inr (ad g 3 0 0 0, tok tx n t.2.2.2)
theorem PBM_4 {m m1 : am_M} {R : (Int × Int) ⊕ ((Nat → Int) × TKN)} (hV : MV m) (h1 : m1 53 11 = (fk (mtok m) 4).1) (h2 : m1 53 12 = (fk (mtok m) 4).2) (hF : frW m m1) (hR : R = .inl (fk (mtok m) 4)) : PBM m R [] m1 := ⟨rfl, Or.inr ⟨_, hR, h1, h2, fk_r (by decide), (MV_W hF).1 hV, frW_G hF⟩⟩
theorem z_175   (m : am_M)  (hq : MV m ∧ m 53 11 = 0 ∧ 0 ≤ m 57 0 ∧ m 57 0 ≤ 12) : ok 7 175 0 (am_ent 6 [.inr (.inr (some 53))]) [] m (fun rr m' => rr = [] ∧ ((∃ x : (Nat → Int) × TKN, BRM (m 56) (m 53 8).toNat (m 57) (mtok m) = .inr x ∧ m' 57 = x.1 ∧ mtok m' = x.2 ∧ MV m' ∧ m' 53 11 = 0 ∧ frG m m') ∨ (∃ f : Int × Int, BRM (m 56) (m 53 8).toNat (m 57) (mtok m) = .inl f ∧ m' 53 11 = f.1 ∧ m' 53 12 = f.2 ∧ (1 ≤ f.1 ∧ f.1 ≤ 4) ∧ MV m' ∧ frG m m'))) := by
  show ok 7 175 0 [some (.inr (.inr (some 53))), none, none, none, none, none] [] m _
  obtain ⟨hV, h0, hN⟩ := hq
  refine u_175_0 ⟨⟨hV, h0, hN⟩, ?_⟩
  rintro v1 ma ⟨h1, h2⟩
  by_cases h12 : m 57 0 = 12
  · obtain ⟨a1, a2, a3, a4⟩ := h1 h12
    rw [a1]
    exact ⟨fun q => absurd (by decide) q, fun _ => PBM_4 hV a2 a3 a4 (by unfold BRM; rw [if_pos (by omega)])⟩
  · obtain ⟨a1, a2, a3, a4⟩ := h2 h12
    have hw1 : WAY m ma := ⟨a4, a3, by rw [a4 53 11 (by omega), h0]⟩
    obtain ⟨g1, g2, g3, g4⟩ := frM_5 hw1.1
    obtain ⟨p, hp⟩ : ∃ p : Nat, m 57 0 = (p : Int) := ⟨(m 57 0).toNat, by omega⟩
    have hR : BRM (m 56) (m 53 8).toNat (m 57) (mtok m) = TBG (m 57) (BSR (m 56) (m 53 8).toNat (mtok ma)) := by
      unfold BRM
      rw [if_neg (by omega), a2]
    rw [a1, g1, g2, g4, hp]
    refine ⟨fun _ => ⟨⟨a3, WAY_w hw1, by decide, by decide⟩, ?_⟩, fun q => absurd q (by decide)⟩
    rintro v2 mb ⟨h3, -⟩
    rcases h3 hw1.2.2 with ⟨x, t, b1, b2, b3, b4, b5⟩ | ⟨f, b1, b2, b3, b4, b5⟩
    · have e : BSR (m 56) (m 53 8).toNat (mtok ma) = BS1 (m 56) (m 53 8).toNat x (mtok mb) := by
        unfold BSR
        rw [b1, b3]
      have hy := y23 (m0 := m) (p := p) (s := x) (by omega) hp (WAY_t hw1 b5 b4)
      rw [← e, ← hR] at hy
      rw [b2]
      exact hy
    · have e : BSR (m 56) (m 53 8).toNat (mtok ma) = .inl f := by
        unfold BSR
        rw [b1]
      obtain ⟨c1, c2, c3, c4⟩ := WAY_f (R := BRM (m 56) (m 53 8).toNat (m 57) (mtok m)) hw1 b5 b2 b3 b4 (by rw [hR, e]; rfl)
      exact x23 c1 c2 c3 c4
/-- what stands behind the last place of the model's new shelf is 0 -/
def ZPL (g : Nat → Int) : Prop := ∀ p : Nat, g 0 ≤ (p : Int) → p < 12 → g (8 + p) = 0 ∧ g (20 + p) = 0 ∧ g (32 + p) = 0 ∧ g (44 + p) = 0
theorem z_180   (m : am_M)  (hq : MV m ∧ m 53 11 = 0 ∧ (0 ≤ m 57 0 ∧ m 57 0 ≤ 12) ∧ ZPL (m 57)) : ok 7 180 0 (am_ent 1 [.inr (.inr (some 53))]) [] m (fun rr m' => rr = [] ∧ ((∃ x : (Nat → Int) × TKN, GRM (m 56) (m 53 8).toNat (m 57) (mtok m) = .inr x ∧ m' 57 = x.1 ∧ mtok m' = x.2 ∧ MV m' ∧ m' 53 11 = 0 ∧ frG m m') ∨ (∃ f : Int × Int, GRM (m 56) (m 53 8).toNat (m 57) (mtok m) = .inl f ∧ m' 53 11 = f.1 ∧ m' 53 12 = f.2 ∧ (1 ≤ f.1 ∧ f.1 ≤ 4) ∧ MV m' ∧ frG m m'))) := by
  show ok 7 180 0 [some (.inr (.inr (some 53)))] [] m _
  obtain ⟨hV, h0, hN, hz⟩ := hq
  refine u_180_0 ⟨⟨hV, h0, hN⟩, ?_⟩
  rintro v1 ma ⟨h1, h2⟩
  by_cases h12 : m 57 0 = 12
  · obtain ⟨a1, a2, a3, a4⟩ := h1 h12
    rw [a1]
    exact ⟨fun q => absurd (by decide) q, fun _ => PBM_4 hV a2 a3 a4 (by unfold GRM; rw [if_pos (by omega)])⟩
  · obtain ⟨a1, a2, a3, a4⟩ := h2 h12
    have hw1 : WAY m ma := ⟨a4, a3, by rw [a4 53 11 (by omega), h0]⟩
    obtain ⟨g1, g2, g3, g4⟩ := frM_5 hw1.1
    obtain ⟨p, hp⟩ : ∃ p : Nat, m 57 0 = (p : Int) := ⟨(m 57 0).toNat, by omega⟩
    have hzp := hz p (by omega) (by omega)
    rw [a1, g4, hp, am_s_id (z := 8 + (p : Int)) (by omega) (by omega), show (8 + (p : Int)).toNat = 8 + p by omega]
    have e0 : mu ma 57 (8 + p) 3 57 0 = (p : Int) := by rw [mu_o (by omega), g4, hp]
    rw [e0]
    refine ⟨fun _ => ⟨⟨by omega, by omega⟩, rfl, Or.inl ⟨(ad (m 57) 3 0 0 0, tok (m 56) (m 53 8).toNat (mtok m).2.2.2), by unfold GRM; rw [if_neg (by omega)], ?_, ?_, ?_, ?_, ?_⟩⟩, fun q => absurd q (by decide)⟩
    · rw [mu_up, mu_up, g4]
      show up (up (m 57) (8 + p) 3) 0 ((p : Int) + 1) = up (ly (m 57) (m 57 0).toNat 3 0 0 0) 0 (m 57 0 + 1)
      rw [hp, Int.toNat_natCast]
      congr 1
      funext j
      unfold up ly
      by_cases j1 : j = 8 + p
      · rw [if_pos j1, if_pos j1]
      · rw [if_neg j1, if_neg j1]
        by_cases j2 : j = 20 + p
        · rw [if_pos j2, j2, hzp.2.1]
        · rw [if_neg j2]
          by_cases j3 : j = 32 + p
          · rw [if_pos j3, j3, hzp.2.2.1]
          · rw [if_neg j3]
            by_cases j4 : j = 44 + p
            · rw [if_pos j4, j4, hzp.2.2.2]
            · rw [if_neg j4]
    · show mtok _ = tok (m 56) (m 53 8).toNat (mtok m).2.2.2
      rw [← a2]
      unfold mtok
      rw [mu_r (by decide), mu_r (by decide), mu_r (by decide), mu_r (by decide), mu_r (by decide), mu_r (by decide), mu_r (by decide), mu_r (by decide)]
    · have e53 : mu (mu ma 57 (8 + p) 3) 57 0 ((p : Int) + 1) 53 = ma 53 := funext fun j => by rw [mu_o (by omega), mu_o (by omega)]
      have e56 : mu (mu ma 57 (8 + p) 3) 57 0 ((p : Int) + 1) 56 = ma 56 := funext fun j => by rw [mu_o (by omega), mu_o (by omega)]
      unfold MV MDR at a3 ⊢
      rw [e53, e56]
      exact a3
    · rw [mu_o (by omega), mu_o (by omega), hw1.2.2]
    · intro a j q1 q2
      rw [mu_o (by omega), mu_o (by omega)]
      exact a4 a j (by omega)
theorem u_173_161 {Q : List am_V → am_M → Prop} {m : am_M}   (H : (MV m ∧ WR m ∧ 0 ≤ (13 : Int) ∧ (13 : Int) ≤ 15) ∧ (∀ (v1 : Int) (m1 : am_M), (((m 53 11 = 0 ∧ m 53 9 = 13) → v1 = 1 ∧ mtok m1 = tok (m 56) (m 53 8).toNat (mtok m).2.2.2 ∧ MV m1 ∧ frM m m1) ∧ (¬ (m 53 11 = 0 ∧ m 53 9 = 13) → v1 = 0 ∧ m1 = m)) → ((¬ am_s v1 = 0) → Q [] (mu m1 57 7 ((m1 57 7) + 1))) ∧ ((am_s v1 = 0) → (MV m1 ∧ WR m1) ∧ (∀ (m2 : am_M), ((m1 53 11 = 0 → m2 53 11 = (fk (mtok m1) 2).1 ∧ m2 53 12 = (fk (mtok m1) 2).2 ∧ frW m1 m2) ∧ (¬ m1 53 11 = 0 → m2 = m1)) → Q [] (mu m2 57 7 ((m2 57 7) + 1)))))) : ok 8 173 161 [some (.inr (.inr (some 53)))] [] m Q := by
  obtain ⟨hz1, H⟩ := H
  refine ok_sg (pc' := 164) (ls' := [some (.inr (.inr (some 53)))]) (st' := [.inl 13, .inr (.inr (some 53))]) (m' := m) (fun fx hfx o hk => ?_) ?_
  · refine r_ld (pc' := 162) hM_173 d_173_161 rfl rfl ?_
    refine r_k (pc' := 164) (v := .inl 13) hM_173 d_173_162 rfl rfl ?_
    exact hk
  refine ok_cl (pc' := 167) (c := (179, 0)) (a := [.inr (.inr (some 53)), .inl 13]) (q := []) hM_173 d_173_164 rfl (by decide +kernel) hM_179 rfl rfl rfl (Nat.le_of_ble_eq_true rfl) (Nat.le_of_ble_eq_true rfl) (Or.inr rfl) (z_179  m 13 hz1) (Nat.le_of_ble_eq_true rfl) ?_
  rintro _ m1 ⟨v1, rfl, hz2⟩
  replace H := H v1 m1 hz2
  show ok 8 173 167 [some (.inr (.inr (some 53)))] [.inl v1] m1 Q
  refine ok_if (pc' := 175) (pc2 := 170) hM_173 d_173_167 (by decide) rfl (fun hz3 => ?_) (fun hz3 => ?_)
  · have H := H.1 hz3
    refine ok_sg (pc' := 186) (ls' := [some (.inr (.inr (some 53)))]) (st' := []) (m' := mu m1 57 7 ((m1 57 7) + 1)) (fun fx hfx o hk => ?_) ?_
    · refine r_ld (pc' := 176) hM_173 d_173_175 rfl rfl ?_
      refine r_gR (pc' := 179) (v := 57) hM_173 d_173_176 rfl (by decide +kernel) ?_
      refine r_k (pc' := 181) (v := .inl 7) hM_173 d_173_179 rfl rfl ?_
      refine r_stk (pc' := 182) (st' := [.inl 7, .inr (.inr (some 57)), .inl 7, .inr (.inr (some 57))]) hM_173 d_173_181 rfl rfl ?_
      refine r_iae (pc' := 183) (n := 56) (z := (m1 57 7)) hM_173 d_173_182 rfl rfl (by decide) (by rw [show (am_s 7).toNat = 7 by decide]) ?_
      refine r_k (pc' := 184) (v := .inl 1) hM_173 d_173_183 rfl rfl ?_
      refine r_b (pc' := 185) (z := ((m1 57 7) + 1)) hM_173 d_173_184 rfl rfl ?_
      refine r_isk (pc' := 186) (n := 56) (k0 := 7) hM_173 d_173_185 rfl rfl (by decide) (by decide) ?_
      exact hk
    exact ok_rt (fun fx _ => rt_v hM_173 d_173_186 rfl) H
  · have H := H.2 (Decidable.not_not.mp hz3)
    obtain ⟨hz4, H⟩ := H
    refine ok_sg (pc' := 172) (ls' := [some (.inr (.inr (some 53)))]) (st' := [.inl 2, .inr (.inr (some 53))]) (m' := m1) (fun fx hfx o hk => ?_) ?_
    · refine r_ld (pc' := 171) hM_173 d_173_170 rfl rfl ?_
      refine r_k (pc' := 172) (v := .inl 2) hM_173 d_173_171 rfl rfl ?_
      exact hk
    refine ok_cl (pc' := 175) (c := (177, 0)) (a := [.inr (.inr (some 53)), .inl 2]) (q := []) hM_173 d_173_172 rfl (by decide +kernel) hM_177 rfl rfl rfl (Nat.le_of_ble_eq_true rfl) (Nat.le_of_ble_eq_true rfl) (Or.inr rfl) (z_177  m1 2 hz4) (Nat.le_of_ble_eq_true rfl) ?_
    rintro _ m2 ⟨rfl, hz5⟩
    replace H := H  m2 hz5
    show ok 8 173 175 [some (.inr (.inr (some 53)))] [] m2 Q
    refine ok_sg (pc' := 186) (ls' := [some (.inr (.inr (some 53)))]) (st' := []) (m' := mu m2 57 7 ((m2 57 7) + 1)) (fun fx hfx o hk => ?_) ?_
    · refine r_ld (pc' := 176) hM_173 d_173_175 rfl rfl ?_
      refine r_gR (pc' := 179) (v := 57) hM_173 d_173_176 rfl (by decide +kernel) ?_
      refine r_k (pc' := 181) (v := .inl 7) hM_173 d_173_179 rfl rfl ?_
      refine r_stk (pc' := 182) (st' := [.inl 7, .inr (.inr (some 57)), .inl 7, .inr (.inr (some 57))]) hM_173 d_173_181 rfl rfl ?_
      refine r_iae (pc' := 183) (n := 56) (z := (m2 57 7)) hM_173 d_173_182 rfl rfl (by decide) (by rw [show (am_s 7).toNat = 7 by decide]) ?_
      refine r_k (pc' := 184) (v := .inl 1) hM_173 d_173_183 rfl rfl ?_
      refine r_b (pc' := 185) (z := ((m2 57 7) + 1)) hM_173 d_173_184 rfl rfl ?_
      refine r_isk (pc' := 186) (n := 56) (k0 := 7) hM_173 d_173_185 rfl rfl (by decide) (by decide) ?_
      exact hk
    exact ok_rt (fun fx _ => rt_v hM_173 d_173_186 rfl) H
theorem u_173_0 {Q : List am_V → am_M → Prop} {m : am_M}   (H : (MV m ∧ WR m ∧ 0 ≤ (0 : Int) ∧ (0 : Int) ≤ 15) ∧ (((¬ (m 53 11 = 0 ∧ m 53 9 = 0)) → (MV m ∧ WR m ∧ 0 ≤ (5 : Int) ∧ (5 : Int) ≤ 15) ∧ (((¬ (m 53 11 = 0 ∧ m 53 9 = 5)) → (MV m ∧ WR m ∧ 0 ≤ (6 : Int) ∧ (6 : Int) ≤ 15) ∧ (∀ (v1 : Int) (m1 : am_M), (((m 53 11 = 0 ∧ m 53 9 = 6) → v1 = 1 ∧ mtok m1 = tok (m 56) (m 53 8).toNat (mtok m).2.2.2 ∧ MV m1 ∧ frM m m1) ∧ (¬ (m 53 11 = 0 ∧ m 53 9 = 6) → v1 = 0 ∧ m1 = m)) → ((am_s v1 = 0) → (MV m1 ∧ WR m1 ∧ 0 ≤ (7 : Int) ∧ (7 : Int) ≤ 15) ∧ (∀ (v2 : Int) (m2 : am_M), (((m1 53 11 = 0 ∧ m1 53 9 = 7) → v2 = 1 ∧ mtok m2 = tok (m1 56) (m1 53 8).toNat (mtok m1).2.2.2 ∧ MV m2 ∧ frM m1 m2) ∧ (¬ (m1 53 11 = 0 ∧ m1 53 9 = 7) → v2 = 0 ∧ m2 = m1)) → ((am_s v2 = 0) → (MV m2 ∧ WR m2 ∧ 0 ≤ (8 : Int) ∧ (8 : Int) ≤ 15) ∧ (∀ (v3 : Int) (m3 : am_M), (((m2 53 11 = 0 ∧ m2 53 9 = 8) → v3 = 1 ∧ mtok m3 = tok (m2 56) (m2 53 8).toNat (mtok m2).2.2.2 ∧ MV m3 ∧ frM m2 m3) ∧ (¬ (m2 53 11 = 0 ∧ m2 53 9 = 8) → v3 = 0 ∧ m3 = m2)) → ((am_s v3 = 0) → (MV m3 ∧ WR m3 ∧ 0 ≤ (9 : Int) ∧ (9 : Int) ≤ 15) ∧ (∀ (v4 : Int) (m4 : am_M), (((m3 53 11 = 0 ∧ m3 53 9 = 9) → v4 = 1 ∧ mtok m4 = tok (m3 56) (m3 53 8).toNat (mtok m3).2.2.2 ∧ MV m4 ∧ frM m3 m4) ∧ (¬ (m3 53 11 = 0 ∧ m3 53 9 = 9) → v4 = 0 ∧ m4 = m3)) → ((am_s v4 = 0) → (MV m4 ∧ WR m4 ∧ 0 ≤ (10 : Int) ∧ (10 : Int) ≤ 15) ∧ (∀ (v5 : Int) (m5 : am_M), (((m4 53 11 = 0 ∧ m4 53 9 = 10) → v5 = 1 ∧ mtok m5 = tok (m4 56) (m4 53 8).toNat (mtok m4).2.2.2 ∧ MV m5 ∧ frM m4 m5) ∧ (¬ (m4 53 11 = 0 ∧ m4 53 9 = 10) → v5 = 0 ∧ m5 = m4)) → ((am_s v5 = 0) → (MV m5 ∧ WR m5) ∧ (∀ (m6 : am_M), ((m5 53 11 = 0 → m6 53 11 = (fk (mtok m5) 2).1 ∧ m6 53 12 = (fk (mtok m5) 2).2 ∧ frW m5 m6) ∧ (¬ m5 53 11 = 0 → m6 = m5)) → ok 8 173 161 [some (.inr (.inr (some 53)))] [] m6 Q)) ∧ ((¬ (am_s v5 = 0)) → (MV m5 ∧ WR m5 ∧ (0 ≤ (0 : Int) ∧ (0 : Int) ≤ 100) ∧ 0 ≤ (9 : Int) ∧ (9 : Int) ≤ 100) ∧ (∀ (v7 : Int) (m7 : am_M), ((m5 53 11 = 0 → ((∃ (x : Int) (t : TKN), NR (m5 56) (m5 53 8).toNat (mtok m5) 0 9 = .inr (x, t) ∧ v7 = x ∧ mtok m7 = t ∧ MV m7 ∧ frM m5 m7) ∨ (∃ f : Int × Int, NR (m5 56) (m5 53 8).toNat (mtok m5) 0 9 = .inl f ∧ m7 53 11 = f.1 ∧ m7 53 12 = f.2 ∧ (1 ≤ f.1 ∧ f.1 ≤ 4) ∧ frW m5 m7))) ∧ (¬ m5 53 11 = 0 → m7 = m5)) → ok 8 173 161 [some (.inr (.inr (some 53)))] [] (mu m7 57 6 v7) Q)))) ∧ ((¬ (am_s v4 = 0)) → (MV m4 ∧ WR m4 ∧ (0 ≤ (1 : Int) ∧ (1 : Int) ≤ 100) ∧ 0 ≤ (6 : Int) ∧ (6 : Int) ≤ 100) ∧ (∀ (v8 : Int) (m8 : am_M), ((m4 53 11 = 0 → ((∃ (x : Int) (t : TKN), NR (m4 56) (m4 53 8).toNat (mtok m4) 1 6 = .inr (x, t) ∧ v8 = x ∧ mtok m8 = t ∧ MV m8 ∧ frM m4 m8) ∨ (∃ f : Int × Int, NR (m4 56) (m4 53 8).toNat (mtok m4) 1 6 = .inl f ∧ m8 53 11 = f.1 ∧ m8 53 12 = f.2 ∧ (1 ≤ f.1 ∧ f.1 ≤ 4) ∧ frW m4 m8))) ∧ (¬ m4 53 11 = 0 → m8 = m4)) → ok 8 173 161 [some (.inr (.inr (some 53)))] [] (mu m8 57 5 v8) Q)))) ∧ ((¬ (am_s v3 = 0)) → (MV m3 ∧ WR m3 ∧ (0 ≤ (1 : Int) ∧ (1 : Int) ≤ 100) ∧ 0 ≤ (12 : Int) ∧ (12 : Int) ≤ 100) ∧ (∀ (v9 : Int) (m9 : am_M), ((m3 53 11 = 0 → ((∃ (x : Int) (t : TKN), NR (m3 56) (m3 53 8).toNat (mtok m3) 1 12 = .inr (x, t) ∧ v9 = x ∧ mtok m9 = t ∧ MV m9 ∧ frM m3 m9) ∨ (∃ f : Int × Int, NR (m3 56) (m3 53 8).toNat (mtok m3) 1 12 = .inl f ∧ m9 53 11 = f.1 ∧ m9 53 12 = f.2 ∧ (1 ≤ f.1 ∧ f.1 ≤ 4) ∧ frW m3 m9))) ∧ (¬ m3 53 11 = 0 → m9 = m3)) → ok 8 173 161 [some (.inr (.inr (some 53)))] [] (mu m9 57 4 v9) Q)))) ∧ ((¬ (am_s v2 = 0)) → (MV m2 ∧ WR m2 ∧ (0 ≤ (0 : Int) ∧ (0 : Int) ≤ 100) ∧ 0 ≤ (20 : Int) ∧ (20 : Int) ≤ 100) ∧ (∀ (v10 : Int) (m10 : am_M), ((m2 53 11 = 0 → ((∃ (x : Int) (t : TKN), NR (m2 56) (m2 53 8).toNat (mtok m2) 0 20 = .inr (x, t) ∧ v10 = x ∧ mtok m10 = t ∧ MV m10 ∧ frM m2 m10) ∨ (∃ f : Int × Int, NR (m2 56) (m2 53 8).toNat (mtok m2) 0 20 = .inl f ∧ m10 53 11 = f.1 ∧ m10 53 12 = f.2 ∧ (1 ≤ f.1 ∧ f.1 ≤ 4) ∧ frW m2 m10))) ∧ (¬ m2 53 11 = 0 → m10 = m2)) → ok 8 173 161 [some (.inr (.inr (some 53)))] [] (mu m10 57 3 v10) Q)))) ∧ ((¬ (am_s v1 = 0)) → (MV m1 ∧ WR m1 ∧ (0 ≤ (1 : Int) ∧ (1 : Int) ≤ 100) ∧ 0 ≤ (40 : Int) ∧ (40 : Int) ≤ 100) ∧ (∀ (v11 : Int) (m11 : am_M), ((m1 53 11 = 0 → ((∃ (x : Int) (t : TKN), NR (m1 56) (m1 53 8).toNat (mtok m1) 1 40 = .inr (x, t) ∧ v11 = x ∧ mtok m11 = t ∧ MV m11 ∧ frM m1 m11) ∨ (∃ f : Int × Int, NR (m1 56) (m1 53 8).toNat (mtok m1) 1 40 = .inl f ∧ m11 53 11 = f.1 ∧ m11 53 12 = f.2 ∧ (1 ≤ f.1 ∧ f.1 ≤ 4) ∧ frW m1 m11))) ∧ (¬ m1 53 11 = 0 → m11 = m1)) → ok 8 173 161 [some (.inr (.inr (some 53)))] [] (mu m11 57 2 v11) Q)))) ∧ ((m 53 11 = 0 ∧ m 53 9 = 5) → (MV m ∧ m 53 11 = 0 ∧ (0 ≤ m 57 0 ∧ m 57 0 ≤ 12) ∧ ZPL (m 57)) ∧ (∀ (m12 : am_M), (((∃ x : (Nat → Int) × TKN, GRM (m 56) (m 53 8).toNat (m 57) (mtok m) = .inr x ∧ m12 57 = x.1 ∧ mtok m12 = x.2 ∧ MV m12 ∧ m12 53 11 = 0 ∧ frG m m12) ∨ (∃ f : Int × Int, GRM (m 56) (m 53 8).toNat (m 57) (mtok m) = .inl f ∧ m12 53 11 = f.1 ∧ m12 53 12 = f.2 ∧ (1 ≤ f.1 ∧ f.1 ≤ 4) ∧ MV m12 ∧ frG m m12))) → ok 8 173 161 [some (.inr (.inr (some 53)))] [] m12 Q)))) ∧ ((m 53 11 = 0 ∧ m 53 9 = 0) → (MV m ∧ m 53 11 = 0 ∧ 0 ≤ m 57 0 ∧ m 57 0 ≤ 12) ∧ (∀ (m13 : am_M), (((∃ x : (Nat → Int) × TKN, BRM (m 56) (m 53 8).toNat (m 57) (mtok m) = .inr x ∧ m13 57 = x.1 ∧ mtok m13 = x.2 ∧ MV m13 ∧ m13 53 11 = 0 ∧ frG m m13) ∨ (∃ f : Int × Int, BRM (m 56) (m 53 8).toNat (m 57) (mtok m) = .inl f ∧ m13 53 11 = f.1 ∧ m13 53 12 = f.2 ∧ (1 ≤ f.1 ∧ f.1 ≤ 4) ∧ MV m13 ∧ frG m m13))) → ok 8 173 161 [some (.inr (.inr (some 53)))] [] m13 Q)))) : ok 8 173 0 [some (.inr (.inr (some 53)))] [] m Q := by
  obtain ⟨hz1, H⟩ := H
  refine ok_sg (pc' := 5) (ls' := [some (.inr (.inr (some 53)))]) (st' := [.inl ((if m 53 11 = 0 ∧ m 53 9 = 0 then 1 else 0))]) (m' := m) (fun fx hfx o hk => ?_) ?_
  · refine r_ld (pc' := 1) hM_173 d_173_0 rfl rfl ?_
    refine r_k (pc' := 2) (v := .inl 0) hM_173 d_173_1 rfl rfl ?_
    refine r_cl (pc' := 5) (c := (174, 0)) (a := [.inr (.inr (some 53)), .inl 0]) (q := []) hM_173 d_173_2 rfl (by decide +kernel) hM_174 rfl rfl rfl (Nat.le_of_ble_eq_true rfl) (Nat.le_of_ble_eq_true rfl) (Or.inr rfl) (n_174  m 0 hz1) (Nat.le_of_ble_eq_true rfl) ?_
    show rn fx 8 (0, 0) 173 5 [some (.inr (.inr (some 53)))] [.inl ((if m 53 11 = 0 ∧ m 53 9 = 0 then 1 else 0))] (st0 m) o
    exact hk
  refine ok_if (pc' := 15) (pc2 := 8) hM_173 d_173_5 (by decide) rfl (fun hz2 => ?_) (fun hz2 => ?_)
  · have H := H.1 (as_ite.mp hz2)
    obtain ⟨hz3, H⟩ := H
    refine ok_sg (pc' := 20) (ls' := [some (.inr (.inr (some 53)))]) (st' := [.inl ((if m 53 11 = 0 ∧ m 53 9 = 5 then 1 else 0))]) (m' := m) (fun fx hfx o hk => ?_) ?_
    · refine r_ld (pc' := 16) hM_173 d_173_15 rfl rfl ?_
      refine r_k (pc' := 17) (v := .inl 5) hM_173 d_173_16 rfl rfl ?_
      refine r_cl (pc' := 20) (c := (174, 0)) (a := [.inr (.inr (some 53)), .inl 5]) (q := []) hM_173 d_173_17 rfl (by decide +kernel) hM_174 rfl rfl rfl (Nat.le_of_ble_eq_true rfl) (Nat.le_of_ble_eq_true rfl) (Or.inr rfl) (n_174  m 5 hz3) (Nat.le_of_ble_eq_true rfl) ?_
      show rn fx 8 (0, 0) 173 20 [some (.inr (.inr (some 53)))] [.inl ((if m 53 11 = 0 ∧ m 53 9 = 5 then 1 else 0))] (st0 m) o
      exact hk
    refine ok_if (pc' := 30) (pc2 := 23) hM_173 d_173_20 (by decide) rfl (fun hz4 => ?_) (fun hz4 => ?_)
    · have H := H.1 (as_ite.mp hz4)
      obtain ⟨hz5, H⟩ := H
      refine ok_sg (pc' := 33) (ls' := [some (.inr (.inr (some 53)))]) (st' := [.inl 6, .inr (.inr (some 53))]) (m' := m) (fun fx hfx o hk => ?_) ?_
      · refine r_ld (pc' := 31) hM_173 d_173_30 rfl rfl ?_
        refine r_k (pc' := 33) (v := .inl 6) hM_173 d_173_31 rfl rfl ?_
        exact hk
      refine ok_cl (pc' := 36) (c := (179, 0)) (a := [.inr (.inr (some 53)), .inl 6]) (q := []) hM_173 d_173_33 rfl (by decide +kernel) hM_179 rfl rfl rfl (Nat.le_of_ble_eq_true rfl) (Nat.le_of_ble_eq_true rfl) (Or.inr rfl) (z_179  m 6 hz5) (Nat.le_of_ble_eq_true rfl) ?_
      rintro _ m1 ⟨v1, rfl, hz6⟩
      replace H := H v1 m1 hz6
      show ok 8 173 36 [some (.inr (.inr (some 53)))] [.inl v1] m1 Q
      refine ok_if (pc' := 55) (pc2 := 39) hM_173 d_173_36 (by decide) rfl (fun hz7 => ?_) (fun hz7 => ?_)
      · have H := H.1 hz7
        obtain ⟨hz8, H⟩ := H
        refine ok_sg (pc' := 58) (ls' := [some (.inr (.inr (some 53)))]) (st' := [.inl 7, .inr (.inr (some 53))]) (m' := m1) (fun fx hfx o hk => ?_) ?_
        · refine r_ld (pc' := 56) hM_173 d_173_55 rfl rfl ?_
          refine r_k (pc' := 58) (v := .inl 7) hM_173 d_173_56 rfl rfl ?_
          exact hk
        refine ok_cl (pc' := 61) (c := (179, 0)) (a := [.inr (.inr (some 53)), .inl 7]) (q := []) hM_173 d_173_58 rfl (by decide +kernel) hM_179 rfl rfl rfl (Nat.le_of_ble_eq_true rfl) (Nat.le_of_ble_eq_true rfl) (Or.inr rfl) (z_179  m1 7 hz8) (Nat.le_of_ble_eq_true rfl) ?_
        rintro _ m2 ⟨v2, rfl, hz9⟩
        replace H := H v2 m2 hz9
        show ok 8 173 61 [some (.inr (.inr (some 53)))] [.inl v2] m2 Q
        refine ok_if (pc' := 80) (pc2 := 64) hM_173 d_173_61 (by decide) rfl (fun hz10 => ?_) (fun hz10 => ?_)
        · have H := H.1 hz10
          obtain ⟨hz11, H⟩ := H
          refine ok_sg (pc' := 83) (ls' := [some (.inr (.inr (some 53)))]) (st' := [.inl 8, .inr (.inr (some 53))]) (m' := m2) (fun fx hfx o hk => ?_) ?_
          · refine r_ld (pc' := 81) hM_173 d_173_80 rfl rfl ?_
            refine r_k (pc' := 83) (v := .inl 8) hM_173 d_173_81 rfl rfl ?_
            exact hk
          refine ok_cl (pc' := 86) (c := (179, 0)) (a := [.inr (.inr (some 53)), .inl 8]) (q := []) hM_173 d_173_83 rfl (by decide +kernel) hM_179 rfl rfl rfl (Nat.le_of_ble_eq_true rfl) (Nat.le_of_ble_eq_true rfl) (Or.inr rfl) (z_179  m2 8 hz11) (Nat.le_of_ble_eq_true rfl) ?_
          rintro _ m3 ⟨v3, rfl, hz12⟩
          replace H := H v3 m3 hz12
          show ok 8 173 86 [some (.inr (.inr (some 53)))] [.inl v3] m3 Q
          refine ok_if (pc' := 105) (pc2 := 89) hM_173 d_173_86 (by decide) rfl (fun hz13 => ?_) (fun hz13 => ?_)
          · have H := H.1 hz13
            obtain ⟨hz14, H⟩ := H
            refine ok_sg (pc' := 108) (ls' := [some (.inr (.inr (some 53)))]) (st' := [.inl 9, .inr (.inr (some 53))]) (m' := m3) (fun fx hfx o hk => ?_) ?_
            · refine r_ld (pc' := 106) hM_173 d_173_105 rfl rfl ?_
              refine r_k (pc' := 108) (v := .inl 9) hM_173 d_173_106 rfl rfl ?_
              exact hk
            refine ok_cl (pc' := 111) (c := (179, 0)) (a := [.inr (.inr (some 53)), .inl 9]) (q := []) hM_173 d_173_108 rfl (by decide +kernel) hM_179 rfl rfl rfl (Nat.le_of_ble_eq_true rfl) (Nat.le_of_ble_eq_true rfl) (Or.inr rfl) (z_179  m3 9 hz14) (Nat.le_of_ble_eq_true rfl) ?_
            rintro _ m4 ⟨v4, rfl, hz15⟩
            replace H := H v4 m4 hz15
            show ok 8 173 111 [some (.inr (.inr (some 53)))] [.inl v4] m4 Q
            refine ok_if (pc' := 130) (pc2 := 114) hM_173 d_173_111 (by decide) rfl (fun hz16 => ?_) (fun hz16 => ?_)
            · have H := H.1 hz16
              obtain ⟨hz17, H⟩ := H
              refine ok_sg (pc' := 133) (ls' := [some (.inr (.inr (some 53)))]) (st' := [.inl 10, .inr (.inr (some 53))]) (m' := m4) (fun fx hfx o hk => ?_) ?_
              · refine r_ld (pc' := 131) hM_173 d_173_130 rfl rfl ?_
                refine r_k (pc' := 133) (v := .inl 10) hM_173 d_173_131 rfl rfl ?_
                exact hk
              refine ok_cl (pc' := 136) (c := (179, 0)) (a := [.inr (.inr (some 53)), .inl 10]) (q := []) hM_173 d_173_133 rfl (by decide +kernel) hM_179 rfl rfl rfl (Nat.le_of_ble_eq_true rfl) (Nat.le_of_ble_eq_true rfl) (Or.inr rfl) (z_179  m4 10 hz17) (Nat.le_of_ble_eq_true rfl) ?_
              rintro _ m5 ⟨v5, rfl, hz18⟩
              replace H := H v5 m5 hz18
              show ok 8 173 136 [some (.inr (.inr (some 53)))] [.inl v5] m5 Q
              refine ok_if (pc' := 156) (pc2 := 139) hM_173 d_173_136 (by decide) rfl (fun hz19 => ?_) (fun hz19 => ?_)
              · have H := H.1 hz19
                obtain ⟨hz20, H⟩ := H
                refine ok_sg (pc' := 158) (ls' := [some (.inr (.inr (some 53)))]) (st' := [.inl 2, .inr (.inr (some 53))]) (m' := m5) (fun fx hfx o hk => ?_) ?_
                · refine r_ld (pc' := 157) hM_173 d_173_156 rfl rfl ?_
                  refine r_k (pc' := 158) (v := .inl 2) hM_173 d_173_157 rfl rfl ?_
                  exact hk
                refine ok_cl (pc' := 161) (c := (177, 0)) (a := [.inr (.inr (some 53)), .inl 2]) (q := []) hM_173 d_173_158 rfl (by decide +kernel) hM_177 rfl rfl rfl (Nat.le_of_ble_eq_true rfl) (Nat.le_of_ble_eq_true rfl) (Or.inr rfl) (z_177  m5 2 hz20) (Nat.le_of_ble_eq_true rfl) ?_
                rintro _ m6 ⟨rfl, hz21⟩
                replace H := H  m6 hz21
                show ok 8 173 161 [some (.inr (.inr (some 53)))] [] m6 Q
                exact H
              · have H := H.2 hz19
                obtain ⟨hz22, H⟩ := H
                refine ok_sg (pc' := 149) (ls' := [some (.inr (.inr (some 53)))]) (st' := [.inl 9, .inl 0, .inr (.inr (some 53)), .inl 6, .inr (.inr (some 57))]) (m' := m5) (fun fx hfx o hk => ?_) ?_
                · refine r_ld (pc' := 140) hM_173 d_173_139 rfl rfl ?_
                  refine r_gR (pc' := 143) (v := 57) hM_173 d_173_140 rfl (by decide +kernel) ?_
                  refine r_k (pc' := 145) (v := .inl 6) hM_173 d_173_143 rfl rfl ?_
                  refine r_ld (pc' := 146) hM_173 d_173_145 rfl rfl ?_
                  refine r_k (pc' := 147) (v := .inl 0) hM_173 d_173_146 rfl rfl ?_
                  refine r_k (pc' := 149) (v := .inl 9) hM_173 d_173_147 rfl rfl ?_
                  exact hk
                refine ok_cl (pc' := 152) (c := (178, 0)) (a := [.inr (.inr (some 53)), .inl 0, .inl 9]) (q := [.inl 6, .inr (.inr (some 57))]) hM_173 d_173_149 rfl (by decide +kernel) hM_178 rfl rfl rfl (Nat.le_of_ble_eq_true rfl) (Nat.le_of_ble_eq_true rfl) (Or.inr rfl) (z_178  m5 0 9 hz22) (Nat.le_of_ble_eq_true rfl) ?_
                rintro _ m7 ⟨v7, rfl, hz23⟩
                replace H := H v7 m7 hz23
                show ok 8 173 152 [some (.inr (.inr (some 53)))] [.inl v7, .inl 6, .inr (.inr (some 57))] m7 Q
                refine ok_sg (pc' := 161) (ls' := [some (.inr (.inr (some 53)))]) (st' := []) (m' := mu m7 57 6 v7) (fun fx hfx o hk => ?_) ?_
                · refine r_isk (pc' := 153) (n := 56) (k0 := 6) hM_173 d_173_152 rfl rfl (by decide) (by decide) ?_
                  refine r_go (pc' := 161) hM_173 d_173_153 (by decide) ?_
                  exact hk
                exact H
            · have H := H.2 hz16
              obtain ⟨hz24, H⟩ := H
              refine ok_sg (pc' := 123) (ls' := [some (.inr (.inr (some 53)))]) (st' := [.inl 6, .inl 1, .inr (.inr (some 53)), .inl 5, .inr (.inr (some 57))]) (m' := m4) (fun fx hfx o hk => ?_) ?_
              · refine r_ld (pc' := 115) hM_173 d_173_114 rfl rfl ?_
                refine r_gR (pc' := 118) (v := 57) hM_173 d_173_115 rfl (by decide +kernel) ?_
                refine r_k (pc' := 119) (v := .inl 5) hM_173 d_173_118 rfl rfl ?_
                refine r_ld (pc' := 120) hM_173 d_173_119 rfl rfl ?_
                refine r_k (pc' := 121) (v := .inl 1) hM_173 d_173_120 rfl rfl ?_
                refine r_k (pc' := 123) (v := .inl 6) hM_173 d_173_121 rfl rfl ?_
                exact hk
              refine ok_cl (pc' := 126) (c := (178, 0)) (a := [.inr (.inr (some 53)), .inl 1, .inl 6]) (q := [.inl 5, .inr (.inr (some 57))]) hM_173 d_173_123 rfl (by decide +kernel) hM_178 rfl rfl rfl (Nat.le_of_ble_eq_true rfl) (Nat.le_of_ble_eq_true rfl) (Or.inr rfl) (z_178  m4 1 6 hz24) (Nat.le_of_ble_eq_true rfl) ?_
              rintro _ m8 ⟨v8, rfl, hz25⟩
              replace H := H v8 m8 hz25
              show ok 8 173 126 [some (.inr (.inr (some 53)))] [.inl v8, .inl 5, .inr (.inr (some 57))] m8 Q
              refine ok_sg (pc' := 161) (ls' := [some (.inr (.inr (some 53)))]) (st' := []) (m' := mu m8 57 5 v8) (fun fx hfx o hk => ?_) ?_
              · refine r_isk (pc' := 127) (n := 56) (k0 := 5) hM_173 d_173_126 rfl rfl (by decide) (by decide) ?_
                refine r_go (pc' := 161) hM_173 d_173_127 (by decide) ?_
                exact hk
              exact H
          · have H := H.2 hz13
            obtain ⟨hz26, H⟩ := H
            refine ok_sg (pc' := 98) (ls' := [some (.inr (.inr (some 53)))]) (st' := [.inl 12, .inl 1, .inr (.inr (some 53)), .inl 4, .inr (.inr (some 57))]) (m' := m3) (fun fx hfx o hk => ?_) ?_
            · refine r_ld (pc' := 90) hM_173 d_173_89 rfl rfl ?_
              refine r_gR (pc' := 93) (v := 57) hM_173 d_173_90 rfl (by decide +kernel) ?_
              refine r_k (pc' := 94) (v := .inl 4) hM_173 d_173_93 rfl rfl ?_
              refine r_ld (pc' := 95) hM_173 d_173_94 rfl rfl ?_
              refine r_k (pc' := 96) (v := .inl 1) hM_173 d_173_95 rfl rfl ?_
              refine r_k (pc' := 98) (v := .inl 12) hM_173 d_173_96 rfl rfl ?_
              exact hk
            refine ok_cl (pc' := 101) (c := (178, 0)) (a := [.inr (.inr (some 53)), .inl 1, .inl 12]) (q := [.inl 4, .inr (.inr (some 57))]) hM_173 d_173_98 rfl (by decide +kernel) hM_178 rfl rfl rfl (Nat.le_of_ble_eq_true rfl) (Nat.le_of_ble_eq_true rfl) (Or.inr rfl) (z_178  m3 1 12 hz26) (Nat.le_of_ble_eq_true rfl) ?_
            rintro _ m9 ⟨v9, rfl, hz27⟩
            replace H := H v9 m9 hz27
            show ok 8 173 101 [some (.inr (.inr (some 53)))] [.inl v9, .inl 4, .inr (.inr (some 57))] m9 Q
            refine ok_sg (pc' := 161) (ls' := [some (.inr (.inr (some 53)))]) (st' := []) (m' := mu m9 57 4 v9) (fun fx hfx o hk => ?_) ?_
            · refine r_isk (pc' := 102) (n := 56) (k0 := 4) hM_173 d_173_101 rfl rfl (by decide) (by decide) ?_
              refine r_go (pc' := 161) hM_173 d_173_102 (by decide) ?_
              exact hk
            exact H
        · have H := H.2 hz10
          obtain ⟨hz28, H⟩ := H
          refine ok_sg (pc' := 73) (ls' := [some (.inr (.inr (some 53)))]) (st' := [.inl 20, .inl 0, .inr (.inr (some 53)), .inl 3, .inr (.inr (some 57))]) (m' := m2) (fun fx hfx o hk => ?_) ?_
          · refine r_ld (pc' := 65) hM_173 d_173_64 rfl rfl ?_
            refine r_gR (pc' := 68) (v := 57) hM_173 d_173_65 rfl (by decide +kernel) ?_
            refine r_k (pc' := 69) (v := .inl 3) hM_173 d_173_68 rfl rfl ?_
            refine r_ld (pc' := 70) hM_173 d_173_69 rfl rfl ?_
            refine r_k (pc' := 71) (v := .inl 0) hM_173 d_173_70 rfl rfl ?_
            refine r_k (pc' := 73) (v := .inl 20) hM_173 d_173_71 rfl rfl ?_
            exact hk
          refine ok_cl (pc' := 76) (c := (178, 0)) (a := [.inr (.inr (some 53)), .inl 0, .inl 20]) (q := [.inl 3, .inr (.inr (some 57))]) hM_173 d_173_73 rfl (by decide +kernel) hM_178 rfl rfl rfl (Nat.le_of_ble_eq_true rfl) (Nat.le_of_ble_eq_true rfl) (Or.inr rfl) (z_178  m2 0 20 hz28) (Nat.le_of_ble_eq_true rfl) ?_
          rintro _ m10 ⟨v10, rfl, hz29⟩
          replace H := H v10 m10 hz29
          show ok 8 173 76 [some (.inr (.inr (some 53)))] [.inl v10, .inl 3, .inr (.inr (some 57))] m10 Q
          refine ok_sg (pc' := 161) (ls' := [some (.inr (.inr (some 53)))]) (st' := []) (m' := mu m10 57 3 v10) (fun fx hfx o hk => ?_) ?_
          · refine r_isk (pc' := 77) (n := 56) (k0 := 3) hM_173 d_173_76 rfl rfl (by decide) (by decide) ?_
            refine r_go (pc' := 161) hM_173 d_173_77 (by decide) ?_
            exact hk
          exact H
      · have H := H.2 hz7
        obtain ⟨hz30, H⟩ := H
        refine ok_sg (pc' := 48) (ls' := [some (.inr (.inr (some 53)))]) (st' := [.inl 40, .inl 1, .inr (.inr (some 53)), .inl 2, .inr (.inr (some 57))]) (m' := m1) (fun fx hfx o hk => ?_) ?_
        · refine r_ld (pc' := 40) hM_173 d_173_39 rfl rfl ?_
          refine r_gR (pc' := 43) (v := 57) hM_173 d_173_40 rfl (by decide +kernel) ?_
          refine r_k (pc' := 44) (v := .inl 2) hM_173 d_173_43 rfl rfl ?_
          refine r_ld (pc' := 45) hM_173 d_173_44 rfl rfl ?_
          refine r_k (pc' := 46) (v := .inl 1) hM_173 d_173_45 rfl rfl ?_
          refine r_k (pc' := 48) (v := .inl 40) hM_173 d_173_46 rfl rfl ?_
          exact hk
        refine ok_cl (pc' := 51) (c := (178, 0)) (a := [.inr (.inr (some 53)), .inl 1, .inl 40]) (q := [.inl 2, .inr (.inr (some 57))]) hM_173 d_173_48 rfl (by decide +kernel) hM_178 rfl rfl rfl (Nat.le_of_ble_eq_true rfl) (Nat.le_of_ble_eq_true rfl) (Or.inr rfl) (z_178  m1 1 40 hz30) (Nat.le_of_ble_eq_true rfl) ?_
        rintro _ m11 ⟨v11, rfl, hz31⟩
        replace H := H v11 m11 hz31
        show ok 8 173 51 [some (.inr (.inr (some 53)))] [.inl v11, .inl 2, .inr (.inr (some 57))] m11 Q
        refine ok_sg (pc' := 161) (ls' := [some (.inr (.inr (some 53)))]) (st' := []) (m' := mu m11 57 2 v11) (fun fx hfx o hk => ?_) ?_
        · refine r_isk (pc' := 52) (n := 56) (k0 := 2) hM_173 d_173_51 rfl rfl (by decide) (by decide) ?_
          refine r_go (pc' := 161) hM_173 d_173_52 (by decide) ?_
          exact hk
        exact H
    · have H := H.2 (as_iteN.mp hz4)
      obtain ⟨hz32, H⟩ := H
      refine ok_sg (pc' := 24) (ls' := [some (.inr (.inr (some 53)))]) (st' := [.inr (.inr (some 53))]) (m' := m) (fun fx hfx o hk => ?_) ?_
      · refine r_ld (pc' := 24) hM_173 d_173_23 rfl rfl ?_
        exact hk
      refine ok_cl (pc' := 27) (c := (180, 0)) (a := [.inr (.inr (some 53))]) (q := []) hM_173 d_173_24 rfl (by decide +kernel) hM_180 rfl rfl rfl (Nat.le_of_ble_eq_true rfl) (Nat.le_of_ble_eq_true rfl) (Or.inr rfl) (z_180  m  hz32) (Nat.le_of_ble_eq_true rfl) ?_
      rintro _ m12 ⟨rfl, hz33⟩
      replace H := H  m12 hz33
      show ok 8 173 27 [some (.inr (.inr (some 53)))] [] m12 Q
      refine ok_sg (pc' := 161) (ls' := [some (.inr (.inr (some 53)))]) (st' := []) (m' := m12) (fun fx hfx o hk => ?_) ?_
      · refine r_go (pc' := 161) hM_173 d_173_27 (by decide) ?_
        exact hk
      exact H
  · have H := H.2 (as_iteN.mp hz2)
    obtain ⟨hz34, H⟩ := H
    refine ok_sg (pc' := 9) (ls' := [some (.inr (.inr (some 53)))]) (st' := [.inr (.inr (some 53))]) (m' := m) (fun fx hfx o hk => ?_) ?_
    · refine r_ld (pc' := 9) hM_173 d_173_8 rfl rfl ?_
      exact hk
    refine ok_cl (pc' := 12) (c := (175, 0)) (a := [.inr (.inr (some 53))]) (q := []) hM_173 d_173_9 rfl (by decide +kernel) hM_175 rfl rfl rfl (Nat.le_of_ble_eq_true rfl) (Nat.le_of_ble_eq_true rfl) (Or.inr rfl) (z_175  m  hz34) (Nat.le_of_ble_eq_true rfl) ?_
    rintro _ m13 ⟨rfl, hz35⟩
    replace H := H  m13 hz35
    show ok 8 173 12 [some (.inr (.inr (some 53)))] [] m13 Q
    refine ok_sg (pc' := 161) (ls' := [some (.inr (.inr (some 53)))]) (st' := []) (m' := m13) (fun fx hfx o hk => ?_) ?_
    · refine r_go (pc' := 161) hM_173 d_173_12 (by decide) ?_
      exact hk
    exact H
