def PLM (m0 : am_M) (R : (Int × Int) ⊕ ((Nat → Int) × TKN)) (rr : List am_V) (m' : am_M) : Prop := rr = [] ∧ ((∃ x : (Nat → Int) × TKN, R = .inr x ∧ m' 57 = up x.1 7 (x.1 7 + 1) ∧ mtok m' = x.2 ∧ MV m' ∧ m' 53 11 = 0 ∧ frG m0 m') ∨ (∃ f : Int × Int, R = .inl f ∧ m' 53 11 = f.1 ∧ m' 53 12 = f.2 ∧ (1 ≤ f.1 ∧ f.1 ≤ 4) ∧ MV m' ∧ frG m0 m'))
theorem MV_57 {m : am_M} {k : Nat} {z : Int} : (MV m → MV (mu m 57 k z)) ∧ mtok (mu m 57 k z) = mtok m := by
  have e53 : mu m 57 k z 53 = m 53 := funext fun j => mu_o (by omega)
  have e56 : mu m 57 k z 56 = m 56 := funext fun j => mu_o (by omega)
  unfold MV MDR mtok
  rw [e53, e56]
  exact ⟨id, rfl⟩
theorem frG_57 {m0 m : am_M} {k : Nat} {z : Int} (h : frG m0 m) : frG m0 (mu m 57 k z) := fun a j h1 h2 => by rw [mu_o (by omega)]; exact h a j h1 h2
theorem frG_5 {m m' : am_M} (h : frG m m') : m' 56 = m 56 ∧ m' 53 8 = m 53 8 := ⟨funext fun k => h 56 k (by omega) (by omega), h 53 8 (by omega) (by omega)⟩
theorem r161n {m0 m : am_M} {f : Int × Int} {R : (Int × Int) ⊕ ((Nat → Int) × TKN)} (hV : MV m) (h1 : m 53 11 = f.1) (h2 : m 53 12 = f.2) (hr : 1 ≤ f.1 ∧ f.1 ≤ 4) (hF : frG m0 m) (hR : R = .inl f) : ok 8 173 161 [some (.inr (.inr (some 53)))] [] m (PLM m0 R) := by
  have hW : WR m := by unfold WR; omega
  have hn : ¬ m 53 11 = 0 := by omega
  refine u_173_161 ⟨⟨hV, hW, by decide, by decide⟩, ?_⟩
  rintro v1 ma ⟨-, a2⟩
  obtain ⟨b1, b2⟩ := a2 (fun z => hn z.1)
  rw [b1, b2]
  refine ⟨fun q => absurd (by decide) q, fun _ => ⟨⟨hV, hW⟩, ?_⟩⟩
  rintro mb ⟨-, c2⟩
  rw [c2 hn]
  exact ⟨rfl, Or.inr ⟨f, hR, by rw [mu_o (by omega), h1], by rw [mu_o (by omega), h2], hr, MV_57.1 hV, frG_57 hF⟩⟩
theorem r161y {m0 m : am_M} {R : (Int × Int) ⊕ ((Nat → Int) × TKN)} (hV : MV m) (h0 : m 53 11 = 0) (hF : frG m0 m) (hR : R = SMI (m0 56) (m0 53 8).toNat (m 57) (mtok m)) : ok 8 173 161 [some (.inr (.inr (some 53)))] [] m (PLM m0 R) := by
  have hW : WR m := by unfold WR; omega
  obtain ⟨g1, g2⟩ := frG_5 hF
  refine u_173_161 ?_
  rw [g1, g2]
  refine ⟨⟨hV, hW, by decide, by decide⟩, ?_⟩
  rintro v1 ma ⟨a1, a2⟩
  by_cases hk : m 53 9 = 13
  · obtain ⟨b1, b2, b3, b4⟩ := a1 ⟨h0, hk⟩
    obtain ⟨k1, k2, k3, k4⟩ := frM_5 b4
    rw [b1]
    refine ⟨fun _ => ⟨rfl, Or.inl ⟨(m 57, tok (m0 56) (m0 53 8).toNat (mtok m).2.2.2), ?_, ?_, ?_, MV_57.1 b3, ?_, frG_57 (frG_t hF (frM_G b4))⟩⟩, fun q => absurd q (by decide)⟩
    · rw [hR]
      unfold SMI
      rw [if_pos (show (mtok m).2.1 = 13 from hk)]
    · rw [mu_up, k4]
    · rw [MV_57.2, b2]
    · rw [mu_o (by omega), k3, h0]
  · obtain ⟨b1, b2⟩ := a2 (fun z => hk z.2)
    rw [b1, b2]
    refine ⟨fun q => absurd (by decide) q, fun _ => ⟨⟨hV, hW⟩, ?_⟩⟩
    rintro mb ⟨c1, -⟩
    obtain ⟨d1, d2, d3⟩ := c1 h0
    refine ⟨rfl, Or.inr ⟨fk (mtok m) 2, ?_, by rw [mu_o (by omega), d1], by rw [mu_o (by omega), d2], fk_r (by decide), MV_57.1 ((MV_W d3).1 hV), frG_57 (frG_t hF (frW_G d3))⟩⟩
    rw [hR]
    unfold SMI
    rw [if_neg (show ¬ (mtok m).2.1 = 13 from hk)]
theorem stg {m0 ma mb : am_M} {K v : Int} {c : Nat} (hw1 : WAY m0 ma) (hK : m0 53 9 = K) (hKr : 6 ≤ K ∧ K ≤ 10) (hc : c = (K - 4).toNat) (a2 : mtok ma = tok (m0 56) (m0 53 8).toNat (mtok m0).2.2.2) (h3 : (∃ (x : Int) (t : TKN), NR (m0 56) (m0 53 8).toNat (mtok ma) (lol K) (hil K) = .inr (x, t) ∧ v = x ∧ mtok mb = t ∧ MV mb ∧ frM ma mb) ∨ (∃ f : Int × Int, NR (m0 56) (m0 53 8).toNat (mtok ma) (lol K) (hil K) = .inl f ∧ mb 53 11 = f.1 ∧ mb 53 12 = f.2 ∧ (1 ≤ f.1 ∧ f.1 ≤ 4) ∧ frW ma mb)) : ok 8 173 161 [some (.inr (.inr (some 53)))] [] (mu mb 57 c v) (PLM m0 (LNR (m0 56) (m0 53 8).toNat (m0 57) (mtok m0))) := by
  have hk : (mtok m0).2.1 = K := hK
  have e : LNR (m0 56) (m0 53 8).toNat (m0 57) (mtok m0) = LNS (m0 56) (m0 53 8).toNat (m0 57) K (mtok ma) := by
    unfold LNR
    rw [hk, if_neg (by omega), if_neg (by omega), if_pos hKr, a2]
  rcases h3 with ⟨x, t, b1, b2, b3, b4, b5⟩ | ⟨f, b1, b2, b3, b4, b5⟩
  · have hw2 := WAY_t hw1 b5 b4
    refine r161y (MV_57.1 b4) (by rw [mu_o (by omega)]; exact hw2.2.2) (frG_57 (frM_G hw2.1)) ?_
    rw [e, mu_up, (frM_5 hw2.1).2.2.2, MV_57.2, b3, b2, hc]
    unfold LNS
    rw [b1]
  · have hVb := (MV_W b5).1 hw1.2.1
    refine r161n (MV_57.1 hVb) (by rw [mu_o (by omega)]; exact b2) (by rw [mu_o (by omega)]; exact b3) b4 (frG_57 (frG_t (frM_G hw1.1) (frW_G b5))) ?_
    rw [e]
    unfold LNS
    rw [b1]
theorem z_173   (m : am_M)  (hq : MV m ∧ m 53 11 = 0 ∧ (0 ≤ m 57 0 ∧ m 57 0 ≤ 12) ∧ ZPL (m 57)) : ok 8 173 0 (am_ent 1 [.inr (.inr (some 53))]) [] m (fun rr m' => rr = [] ∧ ((∃ x : (Nat → Int) × TKN, LNR (m 56) (m 53 8).toNat (m 57) (mtok m) = .inr x ∧ m' 57 = up x.1 7 (x.1 7 + 1) ∧ mtok m' = x.2 ∧ MV m' ∧ m' 53 11 = 0 ∧ frG m m') ∨ (∃ f : Int × Int, LNR (m 56) (m 53 8).toNat (m 57) (mtok m) = .inl f ∧ m' 53 11 = f.1 ∧ m' 53 12 = f.2 ∧ (1 ≤ f.1 ∧ f.1 ≤ 4) ∧ MV m' ∧ frG m m'))) := by
  show ok 8 173 0 [some (.inr (.inr (some 53)))] [] m _
  obtain ⟨hV, h0, hN, hz⟩ := hq
  have hW : WR m := by unfold WR; omega
  refine u_173_0 ⟨⟨hV, hW, by decide, by decide⟩, fun q => ?_, fun q => ⟨⟨hV, h0, hN⟩, ?_⟩⟩
  · have k0 : ¬ m 53 9 = 0 := fun z => q ⟨h0, z⟩
    refine ⟨⟨hV, hW, by decide, by decide⟩, fun q5 => ?_, fun q5 => ⟨⟨hV, h0, hN, hz⟩, ?_⟩⟩
    · have k5 : ¬ m 53 9 = 5 := fun z => q5 ⟨h0, z⟩
      refine ⟨⟨hV, hW, by decide, by decide⟩, ?_⟩
      rintro v6 ma ⟨e1, e2⟩
      by_cases k6 : m 53 9 = 6
      · obtain ⟨a1, a2, a3, a4⟩ := e1 ⟨h0, k6⟩
        have hw1 : WAY m ma := ⟨a4, a3, by rw [a4 53 11 (by omega), h0]⟩
        obtain ⟨g1, g2, g3, g4⟩ := frM_5 a4
        rw [a1, g1, g2]
        refine ⟨fun q => absurd q (by decide), fun _ => ⟨⟨a3, WAY_w hw1, by decide, by decide⟩, ?_⟩⟩
        rintro vx mb ⟨h3, -⟩
        exact ok.imp (stg hw1 k6 (by decide) rfl a2 (by rw [show lol 6 = (1 : Int) by decide, show hil 6 = (40 : Int) by decide]; exact h3 hw1.2.2)) (fun rr mx hx => hx)
      · obtain ⟨a1, a2⟩ := e2 (fun z => k6 z.2)
        rw [a1, a2]
        refine ⟨fun _ => ?_, fun q => absurd (by decide) q⟩
        refine ⟨⟨hV, hW, by decide, by decide⟩, ?_⟩
        rintro v7 ma ⟨e1, e2⟩
        by_cases k7 : m 53 9 = 7
        · obtain ⟨a1, a2, a3, a4⟩ := e1 ⟨h0, k7⟩
          have hw1 : WAY m ma := ⟨a4, a3, by rw [a4 53 11 (by omega), h0]⟩
          obtain ⟨g1, g2, g3, g4⟩ := frM_5 a4
          rw [a1, g1, g2]
          refine ⟨fun q => absurd q (by decide), fun _ => ⟨⟨a3, WAY_w hw1, by decide, by decide⟩, ?_⟩⟩
          rintro vx mb ⟨h3, -⟩
          exact ok.imp (stg hw1 k7 (by decide) rfl a2 (by rw [show lol 7 = (0 : Int) by decide, show hil 7 = (20 : Int) by decide]; exact h3 hw1.2.2)) (fun rr mx hx => hx)
        · obtain ⟨a1, a2⟩ := e2 (fun z => k7 z.2)
          rw [a1, a2]
          refine ⟨fun _ => ?_, fun q => absurd (by decide) q⟩
          refine ⟨⟨hV, hW, by decide, by decide⟩, ?_⟩
          rintro v8 ma ⟨e1, e2⟩
          by_cases k8 : m 53 9 = 8
          · obtain ⟨a1, a2, a3, a4⟩ := e1 ⟨h0, k8⟩
            have hw1 : WAY m ma := ⟨a4, a3, by rw [a4 53 11 (by omega), h0]⟩
            obtain ⟨g1, g2, g3, g4⟩ := frM_5 a4
            rw [a1, g1, g2]
            refine ⟨fun q => absurd q (by decide), fun _ => ⟨⟨a3, WAY_w hw1, by decide, by decide⟩, ?_⟩⟩
            rintro vx mb ⟨h3, -⟩
            exact ok.imp (stg hw1 k8 (by decide) rfl a2 (by rw [show lol 8 = (1 : Int) by decide, show hil 8 = (12 : Int) by decide]; exact h3 hw1.2.2)) (fun rr mx hx => hx)
          · obtain ⟨a1, a2⟩ := e2 (fun z => k8 z.2)
            rw [a1, a2]
            refine ⟨fun _ => ?_, fun q => absurd (by decide) q⟩
            refine ⟨⟨hV, hW, by decide, by decide⟩, ?_⟩
            rintro v9 ma ⟨e1, e2⟩
            by_cases k9 : m 53 9 = 9
            · obtain ⟨a1, a2, a3, a4⟩ := e1 ⟨h0, k9⟩
              have hw1 : WAY m ma := ⟨a4, a3, by rw [a4 53 11 (by omega), h0]⟩
              obtain ⟨g1, g2, g3, g4⟩ := frM_5 a4
              rw [a1, g1, g2]
              refine ⟨fun q => absurd q (by decide), fun _ => ⟨⟨a3, WAY_w hw1, by decide, by decide⟩, ?_⟩⟩
              rintro vx mb ⟨h3, -⟩
              exact ok.imp (stg hw1 k9 (by decide) rfl a2 (by rw [show lol 9 = (1 : Int) by decide, show hil 9 = (6 : Int) by decide]; exact h3 hw1.2.2)) (fun rr mx hx => hx)
            · obtain ⟨a1, a2⟩ := e2 (fun z => k9 z.2)
              rw [a1, a2]
              refine ⟨fun _ => ?_, fun q => absurd (by decide) q⟩
              refine ⟨⟨hV, hW, by decide, by decide⟩, ?_⟩
              rintro v10 ma ⟨e1, e2⟩
              by_cases k10 : m 53 9 = 10
              · obtain ⟨a1, a2, a3, a4⟩ := e1 ⟨h0, k10⟩
                have hw1 : WAY m ma := ⟨a4, a3, by rw [a4 53 11 (by omega), h0]⟩
                obtain ⟨g1, g2, g3, g4⟩ := frM_5 a4
                rw [a1, g1, g2]
                refine ⟨fun q => absurd q (by decide), fun _ => ⟨⟨a3, WAY_w hw1, by decide, by decide⟩, ?_⟩⟩
                rintro vx mb ⟨h3, -⟩
                exact ok.imp (stg hw1 k10 (by decide) rfl a2 (by rw [show lol 10 = (0 : Int) by decide, show hil 10 = (9 : Int) by decide]; exact h3 hw1.2.2)) (fun rr mx hx => hx)
              · obtain ⟨a1, a2⟩ := e2 (fun z => k10 z.2)
                rw [a1, a2]
                refine ⟨fun _ => ?_, fun q => absurd (by decide) q⟩
                refine ⟨⟨hV, hW⟩, ?_⟩
                rintro mb ⟨c1, -⟩
                obtain ⟨d1, d2, d3⟩ := c1 h0
                refine r161n ((MV_W d3).1 hV) d1 d2 (fk_r (by decide)) (frW_G d3) ?_
                unfold LNR
                rw [if_neg (show ¬ (mtok m).2.1 = 0 from k0), if_neg (show ¬ (mtok m).2.1 = 5 from k5), if_neg (show ¬ (6 ≤ (mtok m).2.1 ∧ (mtok m).2.1 ≤ 10) from fun z => by have z : 6 ≤ m 53 9 ∧ m 53 9 ≤ 10 := z; omega)]
    · have k0' : ¬ (mtok m).2.1 = 0 := k0
      have k5 : (mtok m).2.1 = 5 := q5.2
      rintro mb (⟨x, b1, b2, b3, b4, b5, b6⟩ | ⟨f, b1, b2, b3, b4, b5, b6⟩)
      · refine r161y b4 b5 b6 ?_
        unfold GRM at b1
        split at b1
        · exact absurd b1 (by simp)
        · rename_i h12
          have e := Sum.inr.inj b1
          unfold LNR
          rw [if_neg k0', if_pos k5, if_neg h12, b2, b3, ← e]
      · refine r161n b5 b2 b3 b4 b6 ?_
        unfold GRM at b1
        split at b1
        · rename_i h12
          unfold LNR
          rw [if_neg k0', if_pos k5, if_pos h12]
          exact b1
        · exact absurd b1 (by simp)
  · have k0 : (mtok m).2.1 = 0 := q.2
    rintro mb (⟨x, b1, b2, b3, b4, b5, b6⟩ | ⟨f, b1, b2, b3, b4, b5, b6⟩)
    · refine r161y b4 b5 b6 ?_
      unfold BRM at b1
      split at b1
      · exact absurd b1 (by simp)
      · rename_i h12
        unfold LNR
        rw [if_pos k0, if_neg h12, b2, b3]
        unfold LNB
        unfold TBG at b1
        split at b1
        · exact absurd b1 (by simp)
        · rename_i y hy
          have e := Sum.inr.inj b1
          rw [hy, ← e]
    · refine r161n b5 b2 b3 b4 b6 ?_
      unfold BRM at b1
      unfold LNR
      split at b1
      · rename_i h12
        rw [if_pos k0, if_pos h12]
        exact b1
      · rename_i h12
        rw [if_pos k0, if_neg h12]
        unfold LNB
        unfold TBG at b1
        split at b1
        · rename_i y hy
          rw [hy]
          exact b1
        · exact absurd b1 (by simp)
theorem u_164_2 {Q : List am_V → am_M → Prop} {m : am_M} {k : Int}  (H : ((56 ≤ am_s k) → Q [] (mu (mu (mu (mu m 57 2 15) 57 3 4) 57 4 12) 57 5 3)) ∧ ((¬ (56 ≤ am_s k)) → (0 ≤ am_s k ∧ am_s k < (56 : Nat)) ∧ (ok 0 164 2 [some (.inr (.inr (some 57))), some (.inl (k + 1))] [] (mu m 57 ((am_s k).toNat) 0) Q))) : ok 0 164 2 [some (.inr (.inr (some 57))), some (.inl k)] [] m Q := by
  refine ok_sg (pc' := 5) (ls' := [some (.inr (.inr (some 57))), some (.inl k)]) (st' := [.inl 56, .inl k]) (m' := m) (fun fx hfx o hk => ?_) ?_
  · refine r_ld (pc' := 3) hM_164 d_164_2 rfl rfl ?_
    refine r_k (pc' := 5) (v := .inl 56) hM_164 d_164_3 rfl rfl ?_
    exact hk
  refine ok_ic (pc' := 18) (pc2 := 8) hM_164 d_164_5 (by decide) rfl (fun hz1 => ?_) (fun hz1 => ?_)
  · have H := H.1 hz1
    refine ok_sg (pc' := 36) (ls' := [some (.inr (.inr (some 57))), some (.inl k)]) (st' := []) (m' := mu (mu (mu (mu m 57 2 15) 57 3 4) 57 4 12) 57 5 3) (fun fx hfx o hk => ?_) ?_
    · refine r_ld (pc' := 19) hM_164 d_164_18 rfl rfl ?_
      refine r_k (pc' := 20) (v := .inl 2) hM_164 d_164_19 rfl rfl ?_
      refine r_k (pc' := 22) (v := .inl 15) hM_164 d_164_20 rfl rfl ?_
      refine r_isk (pc' := 23) (n := 56) (k0 := 2) hM_164 d_164_22 rfl rfl (by decide) (by decide) ?_
      refine r_ld (pc' := 24) hM_164 d_164_23 rfl rfl ?_
      refine r_k (pc' := 25) (v := .inl 3) hM_164 d_164_24 rfl rfl ?_
      refine r_k (pc' := 26) (v := .inl 4) hM_164 d_164_25 rfl rfl ?_
      refine r_isk (pc' := 27) (n := 56) (k0 := 3) hM_164 d_164_26 rfl rfl (by decide) (by decide) ?_
      refine r_ld (pc' := 28) hM_164 d_164_27 rfl rfl ?_
      refine r_k (pc' := 29) (v := .inl 4) hM_164 d_164_28 rfl rfl ?_
      refine r_k (pc' := 31) (v := .inl 12) hM_164 d_164_29 rfl rfl ?_
      refine r_isk (pc' := 32) (n := 56) (k0 := 4) hM_164 d_164_31 rfl rfl (by decide) (by decide) ?_
      refine r_ld (pc' := 33) hM_164 d_164_32 rfl rfl ?_
      refine r_k (pc' := 34) (v := .inl 5) hM_164 d_164_33 rfl rfl ?_
      refine r_k (pc' := 35) (v := .inl 3) hM_164 d_164_34 rfl rfl ?_
      refine r_isk (pc' := 36) (n := 56) (k0 := 5) hM_164 d_164_35 rfl rfl (by decide) (by decide) ?_
      exact hk
    exact ok_rt (fun fx _ => rt_v hM_164 d_164_36 rfl) H
  · have H := H.2 hz1
    obtain ⟨hz2, H⟩ := H
    refine ok_sg (pc' := 2) (ls' := [some (.inr (.inr (some 57))), some (.inl (k + 1))]) (st' := []) (m' := mu m 57 ((am_s k).toNat) 0) (fun fx hfx o hk => ?_) ?_
    · refine r_ld (pc' := 9) hM_164 d_164_8 rfl rfl ?_
      refine r_ld (pc' := 10) hM_164 d_164_9 rfl rfl ?_
      refine r_k (pc' := 11) (v := .inl 0) hM_164 d_164_10 rfl rfl ?_
      refine r_is (pc' := 12) (n := 56) hM_164 d_164_11 rfl rfl hz2 ?_
      refine r_sto (pc' := 15) (ls' := [some (.inr (.inr (some 57))), some (.inl (k + 1))]) hM_164 d_164_12 rfl rfl ?_
      refine r_go (pc' := 2) hM_164 d_164_15 (by decide) ?_
      exact hk
    exact H
theorem u_164_0 {Q : List am_V → am_M → Prop} {m : am_M}   (H : ok 0 164 2 [some (.inr (.inr (some 57))), some (.inl 0)] [] m Q) : ok 0 164 0 [some (.inr (.inr (some 57))), none] [] m Q := by
  refine ok_sg (pc' := 2) (ls' := [some (.inr (.inr (some 57))), some (.inl 0)]) (st' := []) (m' := m) (fun fx hfx o hk => ?_) ?_
  · refine r_k (pc' := 1) (v := .inl 0) hM_164 d_164_0 rfl rfl ?_
    refine r_sto (pc' := 2) (ls' := [some (.inr (.inr (some 57))), some (.inl 0)]) hM_164 d_164_1 rfl rfl ?_
    exact hk
  exact H
