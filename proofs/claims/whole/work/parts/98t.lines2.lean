noncomputable def SMI (tx : Nat → Int) (n : Nat) (v : Nat → Int) (t : TKN) : (Int × Int) ⊕ ((Nat → Int) × TKN) := if t.2.1 = 13 then .inr (v, tok tx n t.2.2.2) else .inl (fk t 2)
noncomputable def LNB (tx : Nat → Int) (n : Nat) (v : Nat → Int) (t : TKN) : (Int × Int) ⊕ ((Nat → Int) × TKN) := match BSR tx n t with
  | .inl f => .inl f
  | .inr x => SMI tx n (ad v x.1.1 x.1.2.1 x.1.2.2.1 x.1.2.2.2) x.2
noncomputable def LNS (tx : Nat → Int) (n : Nat) (v : Nat → Int) (k : Int) (t : TKN) : (Int × Int) ⊕ ((Nat → Int) × TKN) := match NR tx n t (lol k) (hil k) with
  | .inl f => .inl f
  | .inr x => SMI tx n (up v (k - 4).toNat x.1) x.2
noncomputable def LNR (tx : Nat → Int) (n : Nat) (v : Nat → Int) (t : TKN) : (Int × Int) ⊕ ((Nat → Int) × TKN) := if t.2.1 = 0 then (if 12 ≤ v 0 then .inl (fk t 4) else LNB tx n v (tok tx n t.2.2.2)) else if t.2.1 = 5 then (if 12 ≤ v 0 then .inl (fk t 4) else SMI tx n (ad v 3 0 0 0) (tok tx n t.2.2.2)) else if 6 ≤ t.2.1 ∧ t.2.1 ≤ 10 then LNS tx n v t.2.1 (tok tx n t.2.2.2) else .inl (fk t 2)
def frL (m m' : am_M) : Prop := ∀ a j, ¬ (a = 33 ∧ 3 ≤ j ∧ j ≤ 8) → ¬ (7 ≤ a ∧ a ≤ 11) → m' a j = m a j
def PL (m0 : am_M) (R : (Int × Int) ⊕ ((Nat → Int) × TKN)) (rr : List am_V) (m' : am_M) : Prop := (∃ x : (Nat → Int) × TKN, R = .inr x ∧ rr = [.inl 1] ∧ vw m' 7 = x.1 ∧ ctok m' = x.2 ∧ RV m' ∧ frS m0 m') ∨ (∃ f : Int × Int, R = .inl f ∧ rr = [.inl 0] ∧ m' 33 7 = f.1 ∧ m' 33 8 = f.2 ∧ frL m0 m' ∧ (TRB m0 → TRB m'))
theorem frS_1 {m m' : am_M} (h : frS m m') : m' 1 = m 1 := funext fun k => h 1 k (by omega) (by omega)
theorem frS_2 {m m' : am_M} (h : frS m m') : m' 33 2 = m 33 2 := h 33 2 (by omega) (by omega)
theorem frS_L {m m' : am_M} (h : frS m m') : frL m m' := fun a j h1 h2 => h a j (by omega) h2
theorem frT_S {m m' : am_M} (h : frT m m') : frS m m' := fun a j h1 _ => h a j h1
theorem frF_L {m m' : am_M} (h : frF m m') : frL m m' := fun a j h1 _ => h a j h1
theorem frS_t {m m1 m2 : am_M} (h1 : frS m m1) (h2 : frS m1 m2) : frS m m2 := fun a k q1 q2 => by rw [h2 a k q1 q2, h1 a k q1 q2]
theorem frL_t {m m1 m2 : am_M} (h1 : frL m m1) (h2 : frL m1 m2) : frL m m2 := fun a k q1 q2 => by rw [h2 a k q1 q2, h1 a k q1 q2]
theorem mkw_c {w : Int} (h : -1 ≤ w ∧ w ≤ 10) : (w = -1 ∧ mkw w = 11) ∨ ((0 ≤ w ∧ w ≤ 4) ∧ mkw w = w + 6) ∨ (w = 5 ∧ mkw w = 0) ∨ (w = 6 ∧ mkw w = 5) ∨ (7 ≤ w ∧ mkw w = w - 6) := by
  have : w = -1 ∨ w = 0 ∨ w = 1 ∨ w = 2 ∨ w = 3 ∨ w = 4 ∨ w = 5 ∨ w = 6 ∨ w = 7 ∨ w = 8 ∨ w = 9 ∨ w = 10 := by omega
  rcases this with h | h | h | h | h | h | h | h | h | h | h | h <;> rw [h] <;> decide
theorem TRB_up {m m' : am_M} {k : Nat} {z : Int} (hk : k < 8) (h : vw m' 7 = up (vw m 7) k z) (hT : TRB m) : TRB m' := by
  have e : ∀ j, 8 ≤ j → vw m' 7 j = vw m 7 j := fun j hj => by
    rw [h]
    unfold up
    rw [if_neg (by omega)]
  intro p hp
  have e1 := e (8 + p) (by omega)
  have e2 := e (20 + p) (by omega)
  have e3 := e (32 + p) (by omega)
  have e4 := e (44 + p) (by omega)
  rw [vw_K hp, vw_K hp] at e1
  rw [vw_S hp, vw_S hp] at e2
  rw [vw_R hp, vw_R hp] at e3
  rw [vw_I, vw_I] at e4
  have h0 := hT p hp
  show (0 ≤ m' (7 + 1) p ∧ m' (7 + 1) p ≤ 3) ∧ (0 ≤ m' (7 + 2) p ∧ m' (7 + 2) p ≤ 9) ∧ (0 ≤ m' (7 + 3) p ∧ m' (7 + 3) p ≤ 100) ∧ (0 ≤ m' (7 + 4) p ∧ m' (7 + 4) p ≤ 99)
  rw [e1, e2, e3, e4]
  exact h0
theorem TRB_ad {m m' : am_M} {k s r i : Int} (hN : 0 ≤ m 7 4 ∧ m 7 4 < 12) (hk : 0 ≤ k ∧ k ≤ 3) (hs : 0 ≤ s ∧ s ≤ 9) (hr : 0 ≤ r ∧ r ≤ 100) (hi : 0 ≤ i ∧ i ≤ 9) (h : vw m' 7 = ad (vw m 7) k s r i) (hT : TRB m) : TRB m' := by
  obtain ⟨N, hNN⟩ : ∃ N : Nat, m 7 4 = (N : Int) := ⟨(m 7 4).toNat, by omega⟩
  have e : ∀ j, 8 ≤ j → vw m' 7 j = ly (vw m 7) N k s r i j := fun j hj => by
    rw [h]
    unfold ad up
    rw [if_neg (by omega), vw_0, hNN, Int.toNat_natCast]
  intro p hp
  have e1 := e (8 + p) (by omega)
  have e2 := e (20 + p) (by omega)
  have e3 := e (32 + p) (by omega)
  have e4 := e (44 + p) (by omega)
  rw [vw_K hp, ly_K (by omega) hp, vw_K hp] at e1
  rw [vw_S hp, ly_S (by omega) hp, vw_S hp] at e2
  rw [vw_R hp, ly_R (by omega) hp, vw_R hp] at e3
  rw [vw_I, ly_I (by omega), vw_I] at e4
  have h0 := hT p hp
  show (0 ≤ m' (7 + 1) p ∧ m' (7 + 1) p ≤ 3) ∧ (0 ≤ m' (7 + 2) p ∧ m' (7 + 2) p ≤ 9) ∧ (0 ≤ m' (7 + 3) p ∧ m' (7 + 3) p ≤ 100) ∧ (0 ≤ m' (7 + 4) p ∧ m' (7 + 4) p ≤ 99)
  rw [e1, e2, e3, e4]
  by_cases hc : p = N
  · rw [if_pos hc, if_pos hc, if_pos hc, if_pos hc]
    omega
  · rw [if_neg hc, if_neg hc, if_neg hc, if_neg hc]
    exact h0
theorem NR_r {tx : Nat → Int} {n : Nat} {t t' : TKN} {lo hi x : Int} (h : NR tx n t lo hi = .inr (x, t')) : (lo ≤ x ∧ x ≤ hi) ∧ t.2.1 = 12 ∧ x = t.2.2.1 ∧ t' = tok tx n t.2.2.2 := by
  unfold NR at h
  split at h
  · rename_i h1
    split at h
    · rename_i h2
      have h := Sum.inr.inj h
      have a1 : t.2.2.1 = x := congrArg Prod.fst h
      have a2 : tok tx n t.2.2.2 = t' := congrArg Prod.snd h
      exact ⟨by rw [← a1]; exact h2, h1, a1.symm, a2.symm⟩
    · exact absurd h (by simp)
  · exact absurd h (by simp)
theorem OPR_r {tx : Nat → Int} {n : Nat} {t t' : TKN} {key hi x : Int} (h0 : 0 ≤ hi) (h : OPR1 tx n t key hi = .inr (x, t')) : (0 ≤ x ∧ x ≤ hi) ∧ ((t' = t) ∨ (t.2.1 = key ∧ t' = tok tx n (tok tx n t.2.2.2).2.2.2)) := by
  unfold OPR1 at h
  split at h
  · rename_i h1
    obtain ⟨a1, a2, a3, a4⟩ := NR_r h
    exact ⟨a1, Or.inr ⟨h1, a4⟩⟩
  · have h := Sum.inr.inj h
    have a1 : 0 = x := congrArg Prod.fst h
    have a2 : t = t' := congrArg Prod.snd h
    exact ⟨by omega, Or.inl a2.symm⟩
theorem BDR_r {tx : Nat → Int} {n : Nat} {t : TKN} : 0 ≤ (BDR tx n t).1 ∧ (BDR tx n t).1 ≤ 2 := by
  unfold BDR
  split
  · exact ⟨show (0 : Int) ≤ 1 by decide, show (1 : Int) ≤ 2 by decide⟩
  · split
    · exact ⟨show (0 : Int) ≤ 2 by decide, show (2 : Int) ≤ 2 by decide⟩
    · exact ⟨show (0 : Int) ≤ 0 by decide, show (0 : Int) ≤ 2 by decide⟩
theorem BSR_r {tx : Nat → Int} {n : Nat} {t t' : TKN} {q : Int × Int × Int × Int} (h : BSR tx n t = .inr (q, t')) : (0 ≤ q.1 ∧ q.1 ≤ 2) ∧ (1 ≤ q.2.1 ∧ q.2.1 ≤ 9) ∧ (0 ≤ q.2.2.1 ∧ q.2.2.1 ≤ 100) ∧ (0 ≤ q.2.2.2 ∧ q.2.2.2 ≤ 9) := by
  unfold BSR at h
  split at h
  · exact absurd h (by simp)
  · rename_i x h1
    obtain ⟨a1, -, -, -⟩ := NR_r h1
    unfold BS1 at h
    split at h
    · exact absurd h (by simp)
    · rename_i y h2
      have a2 := (OPR_r (by decide) h2).1
      unfold BS2 at h
      split at h
      · exact absurd h (by simp)
      · rename_i z h3
        have a3 := (OPR_r (by decide) h3).1
        unfold BS3 at h
        have h := Sum.inr.inj h
        have e : ((BDR tx n z.2).1, x.1, y.1, z.1) = q := congrArg Prod.fst h
        rw [← e]
        exact ⟨BDR_r, a1, a2, a3⟩
theorem l93 {m0 m : am_M} (hR : RV m) (hF : frS m0 m) (hT : TRB m0 → TRB m) {R : (Int × Int) ⊕ ((Nat → Int) × TKN)} (hx : R = SMI (m0 1) (m0 33 2).toNat (vw m 7) (ctok m)) : ok 9 29 74 [some (.inr (.inr (some 33))), none, some (.inl 1)] [] m (PL m0 R) := by
  have hc := ckd_c hR
  have h4 := hR.2.2.1
  rw [hx]
  refine u_29_74 ?_
  rw [am_s_id (z := m 33 4) (by omega) (by omega), frS_1 hF, frS_2 hF]
  refine ⟨fun _ => ⟨fun q => ⟨hR.1, ?_⟩, fun q => ⟨hR, ?_⟩⟩, fun q => absurd q (by decide)⟩
  · rintro mx ⟨a1, a2, a3⟩
    have hk : (ctok m).2.1 = 13 := show ckd m = 13 by omega
    refine Or.inl ⟨(vw m 7, tok (m0 1) (m0 33 2).toNat (ctok m).2.2.2), ?_, rfl, frT_v a3, a1, a2, frS_t hF (frT_S a3)⟩
    unfold SMI
    rw [if_pos hk]
  · rintro mx ⟨a1, a2, a3⟩
    have hk : ¬ (ctok m).2.1 = 13 := show ¬ ckd m = 13 by omega
    refine Or.inr ⟨fk (ctok m) 2, ?_, rfl, a1, a2, frL_t (frS_L hF) (frF_L a3), fun zt => TRB_cg (fun a k q1 q2 => a3 a k (by omega)) (hT zt)⟩
    unfold SMI
    rw [if_neg hk]
theorem l93n {m0 m : am_M} {f : Int × Int} {R : (Int × Int) ⊕ ((Nat → Int) × TKN)} (h7 : m 33 7 = f.1) (h8 : m 33 8 = f.2) (hF : frL m0 m) (hT : TRB m0 → TRB m) (hx : R = .inl f) : ok 9 29 74 [some (.inr (.inr (some 33))), none, some (.inl 0)] [] m (PL m0 R) := u_29_74 ⟨fun q => absurd (by decide) q, fun _ => Or.inr ⟨f, hx, rfl, h7, h8, hF, hT⟩⟩
theorem l0 {m : am_M} (hR : RV m) (hp : 0 ≤ m 7 4 ∧ m 7 4 ≤ 12) : ok 9 29 0 [some (.inr (.inr (some 33))), none, none] [] m (PL m (LNR (m 1) (m 33 2).toNat (vw m 7) (ctok m))) := by
  have hc := ckd_c hR
  obtain ⟨hRD, h5, h4, h6a, h6b⟩ := id hR
  have hno : ¬ ckd m = 0 → ¬ ckd m = 5 → ¬ (6 ≤ ckd m ∧ ckd m ≤ 10) → ∀ mx : am_M, (mx 33 7 = (fk (ctok m) 2).1 ∧ mx 33 8 = (fk (ctok m) 2).2 ∧ frF m mx) → PL m (LNR (m 1) (m 33 2).toNat (vw m 7) (ctok m)) [.inl 0] mx := by
    rintro k1 k2 k3 mx ⟨a1, a2, a3⟩
    refine Or.inr ⟨fk (ctok m) 2, ?_, rfl, a1, a2, frF_L a3, TRB_cg fun a k q1 q2 => a3 a k (by omega)⟩
    unfold LNR
    rw [if_neg (show ¬ (ctok m).2.1 = 0 from k1), if_neg (show ¬ (ctok m).2.1 = 5 from k2), if_neg (show ¬ (6 ≤ (ctok m).2.1 ∧ (ctok m).2.1 ≤ 10) from k3)]
  refine u_29_0 ⟨hR, ?_⟩
  rintro v1 mx ⟨hv, hmx⟩
  obtain rfl := hmx.symm
  by_cases hw1 : m 33 4 = 1 ∧ 0 ≤ cwn m ∧ cwn m ≤ 6
  · rw [if_pos hw1] at hv
    obtain ⟨q, q2, q3⟩ := hw1
    have h6 := h6a q
    have hk : ckd m = mkw (cwn m) := by omega
    have hw := mkw_c h6
    rw [hv, am_s_id (z := cwn m) (by omega) (by omega), am_s_id (z := m 7 4) (by omega) (by omega)]
    refine ⟨fun _ => ⟨fun q4 => ⟨hRD, ?_⟩, fun q4 => ⟨fun q5 => ⟨hRD, ?_⟩, fun q5 => ⟨hR, ?_⟩⟩⟩, fun q9 => by omega⟩
    · rintro ma ⟨a1, a2, a3⟩
      rw [frT_1 a3, frT_2 a3]
      refine ⟨fun _ => ⟨fun _ => ⟨⟨a2, by omega, by omega⟩, ?_⟩, fun q5 => by omega⟩, fun q5 => by omega⟩
      have e : LNR (m 1) (m 33 2).toNat (vw m 7) (ctok m) = LNS (m 1) (m 33 2).toNat (vw m 7) (mkw (cwn m)) (ctok ma) := by
        unfold LNR
        have k0 : (ctok m).2.1 = mkw (cwn m) := hk
        rw [k0, if_neg (by omega), if_neg (by omega), if_pos (by omega), a1]
        rfl
      rintro v4 mb (⟨x, t, b1, b2, b3, b4, b5, b6⟩ | ⟨f, b1, b2, b3, b4, b5⟩)
      · rw [b2]
        refine l93 b4 (frS_t (frT_S a3) b6) (fun zt => TRB_up (m := ma) (by omega) b5 (TRB_cg (fun a k q1 q2 => a3 a k (by omega)) zt)) ?_
        rw [e, b5, frT_v a3, b3]
        unfold LNS
        rw [b1]
      · rw [b2]
        refine l93n b3 b4 (frL_t (frS_L (frT_S a3)) fun a j h1 h2 => b5 a j h1 (by omega)) (fun zt => TRB_cg (fun a k q1 q2 => by rw [b5 a k (by omega) (by omega)]; exact a3 a k (by omega)) zt) ?_
        rw [e]
        unfold LNS
        rw [b1]
    · rintro ma ⟨a1, a2, a3⟩
      have e74 : ma 7 4 = m 7 4 := a3 7 4 (by omega)
      rw [frT_1 a3, frT_2 a3, e74]
      refine ⟨fun q6 => ⟨fun q7 => by omega, fun q7 => ⟨⟨a2, by omega, by omega⟩, ?_⟩⟩, fun q6 => ⟨⟨a2, by omega, by omega⟩, ?_⟩⟩
      · rintro mb ⟨b1, b2, b3, b4⟩
        refine l93 b2 (frS_t (frT_S a3) b4) (fun zt => TRB_ad (m := ma) (by omega) (by decide) (by decide) (by decide) (by decide) b3 (TRB_cg (fun a k q1 q2 => a3 a k (by omega)) zt)) ?_
        have k0 : (ctok m).2.1 = 5 := show ckd m = 5 by omega
        unfold LNR
        rw [if_neg (by omega), if_pos k0, if_neg (show ¬ 12 ≤ vw m 7 0 by rw [vw_0]; omega), b3, b1, frT_v a3, a1]
        rfl
      · have e : LNR (m 1) (m 33 2).toNat (vw m 7) (ctok m) = LNB (m 1) (m 33 2).toNat (vw m 7) (ctok ma) := by
          have k0 : (ctok m).2.1 = 0 := show ckd m = 0 by omega
          unfold LNR
          rw [if_pos k0, if_neg (show ¬ 12 ≤ vw m 7 0 by rw [vw_0]; omega), a1]
          rfl
        rintro v4 mb (⟨x, t, b1, b2, b3, b4, b5, b6⟩ | ⟨f, b1, b2, b3, b4, b5⟩)
        · rw [b2]
          have hbr := BSR_r b1
          refine l93 b4 (frS_t (frT_S a3) b6) (fun zt => TRB_ad (m := ma) (by omega) (by omega) (by omega) (by omega) (by omega) b5 (TRB_cg (fun a k q1 q2 => a3 a k (by omega)) zt)) ?_
          rw [e, b5, frT_v a3, b3]
          unfold LNB
          rw [b1]
        · rw [b2]
          refine l93n b3 b4 (frL_t (frS_L (frT_S a3)) (frF_L b5)) (fun zt => TRB_cg (fun a k q1 q2 => by rw [b5 a k (by omega)]; exact a3 a k (by omega)) zt) ?_
          rw [e]
          unfold LNB
          rw [b1]
    · rintro mx ⟨a1, a2, a3⟩
      refine Or.inr ⟨fk (ctok m) 4, ?_, rfl, a1, a2, frF_L a3, TRB_cg fun a k q1 q2 => a3 a k (by omega)⟩
      have k0 : (ctok m).2.1 = 0 ∨ (ctok m).2.1 = 5 := show ckd m = 0 ∨ ckd m = 5 by omega
      unfold LNR
      rcases k0 with k0 | k0
      · rw [if_pos k0, if_pos (show 12 ≤ vw m 7 0 by rw [vw_0]; omega)]
      · rw [if_neg (by omega), if_pos k0, if_pos (show 12 ≤ vw m 7 0 by rw [vw_0]; omega)]
  · rw [if_neg hw1] at hv
    rw [hv]
    refine ⟨fun q9 => absurd (by decide) q9, fun _ => ⟨hR, ?_⟩⟩
    by_cases h41 : m 33 4 = 1
    · have h6 := h6a h41
      have hw := mkw_c h6
      have hk : ckd m = mkw (cwn m) := by omega
      exact hno (by omega) (by omega) (by omega)
    · exact hno (by omega) (by omega) (by omega)
theorem z_29   (m : am_M)  (hq : RV m ∧ 0 ≤ m 7 4 ∧ m 7 4 ≤ 12) : ok 9 29 0 (am_ent 3 [.inr (.inr (some 33))]) [] m (fun rr m' => ∃ v' : Int, rr = [.inl (v')] ∧ ((∃ x : (Nat → Int) × TKN, LNR (m 1) (m 33 2).toNat (vw m 7) (ctok m) = .inr x ∧ v' = 1 ∧ vw m' 7 = x.1 ∧ ctok m' = x.2 ∧ RV m' ∧ frS m m') ∨ (∃ f : Int × Int, LNR (m 1) (m 33 2).toNat (vw m 7) (ctok m) = .inl f ∧ v' = 0 ∧ m' 33 7 = f.1 ∧ m' 33 8 = f.2 ∧ frL m m' ∧ (TRB m → TRB m')))) := by
  show ok 9 29 0 [some (.inr (.inr (some 33))), none, none] [] m _
  refine ok.imp (l0 hq.1 hq.2) ?_
  rintro rr mx (⟨x, a1, a2, a3⟩ | ⟨f, a1, a2, a3⟩)
  · exact ⟨_, a2, Or.inl ⟨x, a1, rfl, a3⟩⟩
  · exact ⟨_, a2, Or.inr ⟨f, a1, rfl, a3⟩⟩
theorem u_13_41 {Q : List am_V → am_M → Prop} {m : am_M} {i : Int}  (H : ((am_s (m 33 2) < am_s i) → Q [.inl 1] m) ∧ ((¬ (am_s (m 33 2) < am_s i)) → ((am_s (m 33 4) = 0) → Q [.inl 1] m) ∧ ((¬ (am_s (m 33 4) = 0)) → (RV m ∧ 0 ≤ m 7 4 ∧ m 7 4 ≤ 12) ∧ (∀ (v1 : Int) (m1 : am_M), (((∃ x : (Nat → Int) × TKN, LNR (m 1) (m 33 2).toNat (vw m 7) (ctok m) = .inr x ∧ v1 = 1 ∧ vw m1 7 = x.1 ∧ ctok m1 = x.2 ∧ RV m1 ∧ frS m m1) ∨ (∃ f : Int × Int, LNR (m 1) (m 33 2).toNat (vw m 7) (ctok m) = .inl f ∧ v1 = 0 ∧ m1 33 7 = f.1 ∧ m1 33 8 = f.2 ∧ frL m m1 ∧ (TRB m → TRB m1)))) → ((¬ am_s v1 = 0) → ok 10 13 41 [some (.inr (.inr (some 33))), none, some (.inl (i + 1))] [] (mu m1 7 10 ((m1 7 10) + 1)) Q) ∧ ((am_s v1 = 0) → Q [.inl 0] m1))))) : ok 10 13 41 [some (.inr (.inr (some 33))), none, some (.inl i)] [] m Q := by
  refine ok_sg (pc' := 46) (ls' := [some (.inr (.inr (some 33))), none, some (.inl i)]) (st' := [.inl (m 33 2), .inl i]) (m' := m) (fun fx hfx o hk => ?_) ?_
  · refine r_ld (pc' := 42) hM_13 d_13_41 rfl rfl ?_
    refine r_ld (pc' := 43) hM_13 d_13_42 rfl rfl ?_
    refine r_gI (pc' := 46) (k0 := 2) hM_13 d_13_43 rfl (by decide +kernel) ?_
    exact hk
  refine ok_ic (pc' := 84) (pc2 := 49) hM_13 d_13_46 (by decide) rfl (fun hz1 => ?_) (fun hz1 => ?_)
  · have H := H.1 hz1
    refine ok_sg (pc' := 85) (ls' := [some (.inr (.inr (some 33))), none, some (.inl i)]) (st' := [.inl 1]) (m' := m) (fun fx hfx o hk => ?_) ?_
    · refine r_k (pc' := 85) (v := .inl 1) hM_13 d_13_84 rfl rfl ?_
      exact hk
    exact ok_rt (fun fx _ => rt_z hM_13 d_13_85 rfl (by decide)) H
  · have H := H.2 hz1
    refine ok_sg (pc' := 53) (ls' := [some (.inr (.inr (some 33))), none, some (.inl i)]) (st' := [.inl (m 33 4)]) (m' := m) (fun fx hfx o hk => ?_) ?_
    · refine r_ld (pc' := 50) hM_13 d_13_49 rfl rfl ?_
      refine r_gI (pc' := 53) (k0 := 4) hM_13 d_13_50 rfl (by decide +kernel) ?_
      exact hk
    refine ok_if (pc' := 84) (pc2 := 56) hM_13 d_13_53 (by decide) rfl (fun hz2 => ?_) (fun hz2 => ?_)
    · have H := H.1 hz2
      refine ok_sg (pc' := 85) (ls' := [some (.inr (.inr (some 33))), none, some (.inl i)]) (st' := [.inl 1]) (m' := m) (fun fx hfx o hk => ?_) ?_
      · refine r_k (pc' := 85) (v := .inl 1) hM_13 d_13_84 rfl rfl ?_
        exact hk
      exact ok_rt (fun fx _ => rt_z hM_13 d_13_85 rfl (by decide)) H
    · have H := H.2 hz2
      obtain ⟨hz3, H⟩ := H
      refine ok_sg (pc' := 57) (ls' := [some (.inr (.inr (some 33))), none, some (.inl i)]) (st' := [.inr (.inr (some 33))]) (m' := m) (fun fx hfx o hk => ?_) ?_
      · refine r_ld (pc' := 57) hM_13 d_13_56 rfl rfl ?_
        exact hk
      refine ok_cl (pc' := 60) (c := (29, 0)) (a := [.inr (.inr (some 33))]) (q := []) hM_13 d_13_57 rfl (by decide +kernel) hM_29 rfl rfl rfl (Nat.le_of_ble_eq_true rfl) (Nat.le_of_ble_eq_true rfl) (Or.inr rfl) (z_29  m  hz3) (Nat.le_of_ble_eq_true rfl) ?_
      rintro _ m1 ⟨v1, rfl, hz4⟩
      replace H := H v1 m1 hz4
      show ok 10 13 60 [some (.inr (.inr (some 33))), none, some (.inl i)] [.inl v1] m1 Q
      refine ok_if (pc' := 65) (pc2 := 63) hM_13 d_13_60 (by decide) rfl (fun hz5 => ?_) (fun hz5 => ?_)
      · have H := H.1 hz5
        refine ok_sg (pc' := 41) (ls' := [some (.inr (.inr (some 33))), none, some (.inl (i + 1))]) (st' := []) (m' := mu m1 7 10 ((m1 7 10) + 1)) (fun fx hfx o hk => ?_) ?_
        · refine r_ld (pc' := 66) hM_13 d_13_65 rfl rfl ?_
          refine r_gR (pc' := 69) (v := 7) hM_13 d_13_66 rfl (by decide +kernel) ?_
          refine r_stk (pc' := 70) (st' := [.inr (.inr (some 7)), .inr (.inr (some 7))]) hM_13 d_13_69 rfl rfl ?_
          refine r_gI (pc' := 73) (k0 := 10) hM_13 d_13_70 rfl (by decide +kernel) ?_
          refine r_k (pc' := 74) (v := .inl 1) hM_13 d_13_73 rfl rfl ?_
          refine r_b (pc' := 75) (z := ((m1 7 10) + 1)) hM_13 d_13_74 rfl rfl ?_
          refine r_pI (pc' := 78) (k0 := 10) hM_13 d_13_75 rfl (by decide +kernel) ?_
          refine r_sto (pc' := 81) (ls' := [some (.inr (.inr (some 33))), none, some (.inl (i + 1))]) hM_13 d_13_78 rfl rfl ?_
          refine r_go (pc' := 41) hM_13 d_13_81 (by decide) ?_
          exact hk
        exact H
      · have H := H.2 (Decidable.not_not.mp hz5)
        refine ok_sg (pc' := 64) (ls' := [some (.inr (.inr (some 33))), none, some (.inl i)]) (st' := [.inl 0]) (m' := m1) (fun fx hfx o hk => ?_) ?_
        · refine r_k (pc' := 64) (v := .inl 0) hM_13 d_13_63 rfl rfl ?_
          exact hk
        exact ok_rt (fun fx _ => rt_z hM_13 d_13_64 rfl (by decide)) H
theorem u_13_0 {Q : List am_V → am_M → Prop} {m : am_M} {k : Int}  (H : ∀ m1 : am_M, m1 = w_3 (mu (mu (mu (mu m 33 2 (v_14 m k 900)) 33 3 0) 33 7 0) 33 8 (-1)) 7 → (RDR m1) ∧ (∀ (m2 : am_M), (ctok m2 = tok (m1 1) (m1 33 2).toNat (m1 33 3).toNat ∧ RV m2 ∧ frT m1 m2) → ok 10 13 41 [some (.inr (.inr (some 33))), none, some (.inl 0)] [] m2 Q)) : ok 10 13 0 [some (.inr (.inr (some 33))), some (.inl k), none] [] m Q := by
  refine ok_sg (pc' := 35) (ls' := [some (.inr (.inr (some 33))), some (.inl k), none]) (st' := []) (m' := w_3 (mu (mu (mu (mu m 33 2 (v_14 m k 900)) 33 3 0) 33 7 0) 33 8 (-1)) 7) (fun fx hfx o hk => ?_) ?_
  · refine r_ld (pc' := 1) hM_13 d_13_0 rfl rfl ?_
    refine r_ld (pc' := 2) hM_13 d_13_1 rfl rfl ?_
    refine r_ld (pc' := 3) hM_13 d_13_2 rfl rfl ?_
    refine r_gR (pc' := 6) (v := 1) hM_13 d_13_3 rfl (by decide +kernel) ?_
    refine r_al (pc' := 7) (n := 900) hM_13 d_13_6 rfl rfl (by decide) ?_
    refine r_cl (pc' := 10) (c := (14, 2)) (a := [.inl k, .inl 900]) (q := [.inr (.inr (some 33))]) hM_13 d_13_7 rfl (by decide +kernel) hM_14 rfl rfl rfl (Nat.le_of_ble_eq_true rfl) (Nat.le_of_ble_eq_true rfl) (Or.inl rfl) (c_14  m k 900) (Nat.le_of_ble_eq_true rfl) ?_
    show rn fx 10 (0, 0) 13 10 [some (.inr (.inr (some 33))), some (.inl k), none] [.inl (v_14 m k 900), .inr (.inr (some 33))] (st0 m) o
    refine r_pI (pc' := 13) (k0 := 2) hM_13 d_13_10 rfl (by decide +kernel) ?_
    refine r_ld (pc' := 14) hM_13 d_13_13 rfl rfl ?_
    refine r_k (pc' := 15) (v := .inl 0) hM_13 d_13_14 rfl rfl ?_
    refine r_pI (pc' := 18) (k0 := 3) hM_13 d_13_15 rfl (by decide +kernel) ?_
    refine r_ld (pc' := 19) hM_13 d_13_18 rfl rfl ?_
    refine r_k (pc' := 20) (v := .inl 0) hM_13 d_13_19 rfl rfl ?_
    refine r_pI (pc' := 23) (k0 := 7) hM_13 d_13_20 rfl (by decide +kernel) ?_
    refine r_ld (pc' := 24) hM_13 d_13_23 rfl rfl ?_
    refine r_k (pc' := 25) (v := .inl (-1)) hM_13 d_13_24 rfl rfl ?_
    refine r_pI (pc' := 28) (k0 := 8) hM_13 d_13_25 rfl (by decide +kernel) ?_
    refine r_ld (pc' := 29) hM_13 d_13_28 rfl rfl ?_
    refine r_gR (pc' := 32) (v := 7) hM_13 d_13_29 rfl (by decide +kernel) ?_
    refine r_cl (pc' := 35) (c := (3, 0)) (a := [.inr (.inr (some 7))]) (q := []) hM_13 d_13_32 rfl (by decide +kernel) hM_3 rfl rfl rfl (Nat.le_of_ble_eq_true rfl) (Nat.le_of_ble_eq_true rfl) (Or.inr rfl) (c_3 (by decide) (mu (mu (mu (mu m 33 2 (v_14 m k 900)) 33 3 0) 33 7 0) 33 8 (-1)) ) (Nat.le_of_ble_eq_true rfl) ?_
    show rn fx 10 (0, 0) 13 35 [some (.inr (.inr (some 33))), some (.inl k), none] [] (st0 (w_3 (mu (mu (mu (mu m 33 2 (v_14 m k 900)) 33 3 0) 33 7 0) 33 8 (-1)) 7)) o
    exact hk
  have K : ∀ m1 : am_M, m1 = w_3 (mu (mu (mu (mu m 33 2 (v_14 m k 900)) 33 3 0) 33 7 0) 33 8 (-1)) 7 → ok 10 13 35 [some (.inr (.inr (some 33))), some (.inl k), none] [] m1 Q := by
    intro m1 hm1
    replace H := H m1 hm1
    obtain ⟨hz1, H⟩ := H
    refine ok_sg (pc' := 36) (ls' := [some (.inr (.inr (some 33))), some (.inl k), none]) (st' := [.inr (.inr (some 33))]) (m' := m1) (fun fx hfx o hk => ?_) ?_
    · refine r_ld (pc' := 36) hM_13 d_13_35 rfl rfl ?_
      exact hk
    refine ok_cl (pc' := 39) (c := (15, 0)) (a := [.inr (.inr (some 33))]) (q := []) hM_13 d_13_36 rfl (by decide +kernel) hM_15 rfl rfl rfl (Nat.le_of_ble_eq_true rfl) (Nat.le_of_ble_eq_true rfl) (Or.inr rfl) (z_15  m1  hz1) (Nat.le_of_ble_eq_true rfl) ?_
    rintro _ m2 ⟨rfl, hz2⟩
    replace H := H  m2 hz2
    show ok 10 13 39 [some (.inr (.inr (some 33))), some (.inl k), none] [] m2 Q
    refine ok_sg (pc' := 41) (ls' := [some (.inr (.inr (some 33))), none, some (.inl 0)]) (st' := []) (m' := m2) (fun fx hfx o hk => ?_) ?_
    · refine r_k (pc' := 40) (v := .inl 0) hM_13 d_13_39 rfl rfl ?_
      refine r_sto (pc' := 41) (ls' := [some (.inr (.inr (some 33))), some (.inl k), some (.inl 0)]) hM_13 d_13_40 rfl rfl ?_
      refine rn_wk (a := [some (.inr (.inr (some 33))), none, some (.inl 0)]) (by simp only [am_le, and_self]) ?_
      exact hk
    exact H
  exact K _ rfl
