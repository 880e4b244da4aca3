/-! the class's text and the model's are read alike -/
theorem spn_at {P : Int → Bool} {tx : Nat → Int} {n p : Nat} : ∀ k, p + k ≤ spn P tx n p → spn P tx n p = spn P tx n (p + k) := by
  intro k
  induction k with
  | zero => intro _; rfl
  | succ k ih =>
    intro h
    have h1 := ih (by omega)
    by_cases hc : p + k < n ∧ P (tx (p + k)) = true
    · rw [h1, spn_go hc.1 hc.2, Nat.add_assoc]
    · rw [h1, spn_no hc] at h
      omega
theorem spn_in {P : Int → Bool} {tx : Nat → Int} {n p k : Nat} (h : p + k < spn P tx n p) : p + k < n ∧ P (tx (p + k)) = true := by
  have h1 := spn_at (P := P) (tx := tx) (n := n) (p := p) k (by omega)
  by_cases hc : p + k < n ∧ P (tx (p + k)) = true
  · exact hc
  · rw [h1, spn_no hc] at h
    omega
theorem dvl_cg {tx ty : Nat → Int} {p : Nat} : ∀ k, (∀ i, i < k → ty (p + i) = tx (p + i)) → dvl ty p k = dvl tx p k := by
  intro k
  induction k with
  | zero => intro _; rfl
  | succ k ih => intro h; rw [dvl_s, dvl_s, ih fun i hi => h i (by omega), h k (by omega)]
theorem wrd_r : ∀ j, j < 11 → ∀ i, i < (wrd j).length → 0 ≤ (wrd j).getD i 0 ∧ (wrd j).getD i 0 ≤ 127 := by decide +kernel
def SAM (tx ty : Nat → Int) (n : Nat) : Prop := ∀ k, k < n → ty k = tx k % 256 ∧ -128 ≤ tx k ∧ tx k ≤ 127
theorem spl_cg {tx ty : Nat → Int} {n p b j : Nat} (h : SAM tx ty n) (hb : b ≤ n) (hj : j < 11) : spl ty p b (wrd j) = true ↔ spl tx p b (wrd j) = true := by
  rw [spl_t, spl_t]
  constructor
  · rintro ⟨h1, h2⟩
    refine ⟨h1, fun i hi => ?_⟩
    have a1 := h2 i hi
    have a2 := wrd_r j hj i hi
    have a3 := h (p + i) (by omega)
    omega
  · rintro ⟨h1, h2⟩
    refine ⟨h1, fun i hi => ?_⟩
    have a1 := h2 i hi
    have a2 := wrd_r j hj i hi
    have a3 := h (p + i) (by omega)
    omega
theorem wno_cg {tx ty : Nat → Int} {n p b : Nat} (h : SAM tx ty n) (hb : b ≤ n) : wno ty p b = wno tx p b := by
  rcases plv_ok (fun j => spl tx p b (wrd j) = true) 11 with ⟨j, a1, a2, a3, a4⟩ | ⟨a1, a2⟩
  · rw [wno_is a1 ((spl_cg h hb a1).mpr a2), wno_is a1 a2]
  · rw [wno_no fun j hj z => a1 j hj ((spl_cg h hb hj).mp z), wno_no a1]
theorem ch_cg {tx ty : Nat → Int} {n : Nat} (h : SAM tx ty n) {k : Nat} (hk : k < n) : chl (ty k) = chl (tx k) ∧ chd (ty k) = chd (tx k) ∧ chw (ty k) = chw (tx k) ∧ (ty k = 59 ↔ tx k = 59) := by
  have a := h k hk
  refine ⟨Bool.eq_iff_iff.mpr ?_, Bool.eq_iff_iff.mpr ?_, Bool.eq_iff_iff.mpr ?_, ?_⟩
  · rw [chl_t, chl_t]; omega
  · rw [chd_t, chd_t]; omega
  · rw [chw_t, chw_t]; omega
  · omega
theorem tok_cg {tx ty : Nat → Int} {n : Nat} (h : SAM tx ty n) : tok ty n = tok tx n := by
  funext a
  have e1 : spn chw ty n a = spn chw tx n a := spn_cg (fun k hk => (ch_cg h hk).2.2.1) (n - a) a (Nat.le_refl _)
  unfold tok
  rw [e1]
  generalize spn chw tx n a = p
  unfold tkp
  by_cases hp : n ≤ p
  · rw [if_pos hp, if_pos hp]
  · rw [if_neg hp, if_neg hp]
    obtain ⟨c1, c2, c3, c4⟩ := ch_cg h (k := p) (by omega)
    have e2 : spn chl ty n p = spn chl tx n p := spn_cg (fun k hk => (ch_cg h hk).1) (n - p) p (Nat.le_refl _)
    have e3 : spn chd ty n p = spn chd tx n p := spn_cg (fun k hk => (ch_cg h hk).2.1) (n - p) p (Nat.le_refl _)
    have hb := spn_b (P := chl) (tx := tx) (n := n) (a := p) (by omega)
    have hd := spn_b (P := chd) (tx := tx) (n := n) (a := p) (by omega)
    have e4 : wno ty p (spn chl tx n p) = wno tx p (spn chl tx n p) := wno_cg h hb.2
    have e5 : dvl ty p (spn chd tx n p - p) = dvl tx p (spn chd tx n p - p) := dvl_cg _ fun i hi => by
      have := spn_in (P := chd) (tx := tx) (n := n) (p := p) (k := i) (by omega)
      have a1 := chd_t.mp this.2
      have a2 := h (p + i) this.1
      omega
    rw [c1, c2, e2, e3, e4, e5]
    by_cases h1 : chl (tx p) = true
    · rw [if_pos h1, if_pos h1]
    · rw [if_neg h1, if_neg h1]
      by_cases h2 : chd (tx p) = true
      · rw [if_pos h2, if_pos h2]
      · rw [if_neg h2, if_neg h2]
        by_cases h3 : tx p = 59
        · rw [if_pos (c4.mpr h3), if_pos h3]
        · rw [if_neg (fun z => h3 (c4.mp z)), if_neg h3]
section
variable {tx ty : Nat → Int} {n : Nat}
theorem NR_tx (h : tok ty n = tok tx n) : NR ty n = NR tx n := by
  funext t lo hi
  unfold NR
  rw [h]
theorem OPR_tx (h : tok ty n = tok tx n) : OPR1 ty n = OPR1 tx n := by
  funext t k hi
  unfold OPR1
  rw [NR_tx h, h]
theorem BDR_tx (h : tok ty n = tok tx n) : BDR ty n = BDR tx n := by
  funext t
  unfold BDR
  rw [h]
theorem BS3_tx (h : tok ty n = tok tx n) : BS3 ty n = BS3 tx n := by
  funext s r i t
  unfold BS3
  rw [BDR_tx h]
theorem BS2_tx (h : tok ty n = tok tx n) : BS2 ty n = BS2 tx n := by
  funext s r t
  unfold BS2
  rw [OPR_tx h, BS3_tx h]
theorem BS1_tx (h : tok ty n = tok tx n) : BS1 ty n = BS1 tx n := by
  funext s t
  unfold BS1
  rw [OPR_tx h, BS2_tx h]
theorem BSR_tx (h : tok ty n = tok tx n) : BSR ty n = BSR tx n := by
  funext t
  unfold BSR
  rw [NR_tx h, BS1_tx h]
theorem SMI_tx (h : tok ty n = tok tx n) : SMI ty n = SMI tx n := by
  funext v t
  unfold SMI
  rw [h]
theorem LNB_tx (h : tok ty n = tok tx n) : LNB ty n = LNB tx n := by
  funext v t
  unfold LNB
  rw [BSR_tx h, SMI_tx h]
theorem LNS_tx (h : tok ty n = tok tx n) : LNS ty n = LNS tx n := by
  funext v k t
  unfold LNS
  rw [NR_tx h, SMI_tx h]
theorem LNR_tx (h : tok ty n = tok tx n) : LNR ty n = LNR tx n := by
  funext v t
  unfold LNR
  rw [LNB_tx h, LNS_tx h, SMI_tx h, h]
theorem HSR_tx (h : tok ty n = tok tx n) : ∀ f v t, HSR ty n f v t = HSR tx n f v t := by
  intro f
  induction f with
  | zero => intro v t; rfl
  | succ f ih =>
    intro v t
    by_cases h14 : t.2.1 = 14
    · rw [HSR_e h14, HSR_e h14]
    · cases hl : LNR tx n v t with
      | inl e => rw [HSR_n h14 hl, HSR_n h14 (by rw [LNR_tx h]; exact hl)]
      | inr x => rw [HSR_y h14 hl, HSR_y h14 (by rw [LNR_tx h]; exact hl), ih]
end
/-! what stands behind the last place doesn't matter -/
theorem nv_hd {v g : Nat → Int} (h : nv v = nv g) {k : Nat} (hk : k < 8) : v k = g k := by
  have := congrFun h k
  rw [nv_lo hk, nv_lo hk] at this
  exact this
theorem nv_pp {v g : Nat → Int} (h : nv v = nv g) {c p : Nat} (hc : c = 8 ∨ c = 20 ∨ c = 32 ∨ c = 44) (hp : p < 12) (hl : (p : Int) < v 0) : v (c + p) = g (c + p) := by
  have := congrFun h (c + p)
  rw [nv_pl hc hp hl, nv_pl hc hp (by rw [← nv_hd h (by decide)]; exact hl)] at this
  exact this
theorem nv_up {v g : Nat → Int} (h : nv v = nv g) {k : Nat} {z : Int} (hk : 0 < k ∧ k < 8) : nv (up v k z) = nv (up g k z) := by
  refine nv_eq (fun j hj => ?_) (fun p hp hl => ?_)
  · rw [up_h, up_h, nv_hd h hj]
  · rw [up_o (by omega)] at hl
    rw [up_o (by omega), up_o (by omega), up_o (by omega), up_o (by omega), up_o (by omega), up_o (by omega), up_o (by omega), up_o (by omega)]
    exact ⟨nv_pp h (by omega) hp hl, nv_pp h (by omega) hp hl, nv_pp h (by omega) hp hl, nv_pp h (by omega) hp hl⟩
theorem nv_ad {v g : Nat → Int} (h : nv v = nv g) {k s r i : Int} (h0 : 0 ≤ v 0 ∧ v 0 < 12) : nv (ad v k s r i) = nv (ad g k s r i) := by
  obtain ⟨N, hN⟩ : ∃ N : Nat, v 0 = (N : Int) := ⟨(v 0).toNat, by omega⟩
  have hg : g 0 = (N : Int) := by rw [← nv_hd h (by decide), hN]
  unfold ad
  rw [hN, hg, Int.toNat_natCast]
  refine nv_eq (fun j hj => ?_) (fun p hp hl => ?_)
  · rw [up_h, up_h, ly_lo hj, ly_lo hj, nv_hd h hj]
  · rw [up_h, if_pos rfl] at hl
    rw [up_o (by omega), up_o (by omega), up_o (by omega), up_o (by omega), up_o (by omega), up_o (by omega), up_o (by omega), up_o (by omega), ly_K (by omega) hp, ly_K (by omega) hp, ly_S (by omega) hp, ly_S (by omega) hp, ly_R (by omega) hp, ly_R (by omega) hp, ly_I (by omega), ly_I (by omega)]
    by_cases hc : p = N
    · rw [if_pos hc, if_pos hc, if_pos hc, if_pos hc, if_pos hc, if_pos hc, if_pos hc, if_pos hc]
      exact ⟨rfl, rfl, rfl, rfl⟩
    · rw [if_neg hc, if_neg hc, if_neg hc, if_neg hc, if_neg hc, if_neg hc, if_neg hc, if_neg hc]
      exact ⟨nv_pp h (by omega) hp (by omega), nv_pp h (by omega) hp (by omega), nv_pp h (by omega) hp (by omega), nv_pp h (by omega) hp (by omega)⟩
def RLN (a b : (Int × Int) ⊕ ((Nat → Int) × TKN)) : Prop := match a, b with
  | .inl f, .inl f' => f = f'
  | .inr x, .inr y => nv x.1 = nv y.1 ∧ x.2 = y.2
  | _, _ => False
theorem SMI_nv {tx : Nat → Int} {n : Nat} {v g : Nat → Int} {t : TKN} (h : nv v = nv g) : RLN (SMI tx n v t) (SMI tx n g t) := by
  unfold SMI
  split
  · exact ⟨h, rfl⟩
  · exact rfl
theorem LNR_nv {tx : Nat → Int} {n : Nat} {v g : Nat → Int} {t : TKN} (h : nv v = nv g) (h0 : 0 ≤ v 0) : RLN (LNR tx n v t) (LNR tx n g t) := by
  have e0 : v 0 = g 0 := nv_hd h (by decide)
  unfold LNR
  by_cases k0 : t.2.1 = 0
  · rw [if_pos k0, if_pos k0, ← e0]
    by_cases h12 : 12 ≤ v 0
    · rw [if_pos h12, if_pos h12]; exact rfl
    · rw [if_neg h12, if_neg h12]
      unfold LNB
      split
      · exact rfl
      · exact SMI_nv (nv_ad h (by omega))
  · rw [if_neg k0, if_neg k0]
    by_cases k5 : t.2.1 = 5
    · rw [if_pos k5, if_pos k5, ← e0]
      by_cases h12 : 12 ≤ v 0
      · rw [if_pos h12, if_pos h12]; exact rfl
      · rw [if_neg h12, if_neg h12]
        exact SMI_nv (nv_ad h (by omega))
    · rw [if_neg k5, if_neg k5]
      by_cases k6 : 6 ≤ t.2.1 ∧ t.2.1 ≤ 10
      · rw [if_pos k6, if_pos k6]
        unfold LNS
        split
        · exact rfl
        · exact SMI_nv (nv_up h (by omega))
      · rw [if_neg k6, if_neg k6]; exact rfl
def RHS (a b : (Int × Int) ⊕ (Nat → Int)) : Prop := match a, b with
  | .inl f, .inl f' => f = f'
  | .inr x, .inr y => nv x = nv y
  | _, _ => False
theorem HSR_nv {tx : Nat → Int} {n : Nat} : ∀ f v g t, nv v = nv g → 0 ≤ v 0 → t.2.2.2 ≤ n → RHS (HSR tx n f v t) (HSR tx n f g t) := by
  intro f
  induction f with
  | zero => intro v g t h _ _; exact h
  | succ f ih =>
    intro v g t h h0 hn
    by_cases h14 : t.2.1 = 14
    · rw [HSR_e h14, HSR_e h14]; exact h
    · have hr := LNR_nv (tx := tx) (n := n) (t := t) h h0
      cases hl : LNR tx n v t with
      | inl e =>
        cases hl2 : LNR tx n g t with
        | inl e2 =>
          rw [hl, hl2] at hr
          rw [HSR_n h14 hl, HSR_n h14 hl2]
          exact hr
        | inr y => rw [hl, hl2] at hr; exact absurd hr id
      | inr x =>
        cases hl2 : LNR tx n g t with
        | inl e2 => rw [hl, hl2] at hr; exact absurd hr id
        | inr y =>
          rw [hl, hl2] at hr
          obtain ⟨r1, r2⟩ := hr
          rw [HSR_y h14 hl, HSR_y h14 hl2, ← r2, ← nv_hd r1 (by decide)]
          obtain ⟨q1, q2⟩ := LNR_r hn hl
          refine ih _ _ _ (nv_up r1 (by decide)) ?_ (VF_b q1).2.2.1
          rw [up_o (by decide)]
          rcases q2 with ⟨h12, k, s, r, i, h1, h2⟩ | ⟨k, z, h1, h2⟩
          · rw [h1]
            show 0 ≤ v 0 + 1
            omega
          · rw [h1, up_o (by omega)]
            exact h0
