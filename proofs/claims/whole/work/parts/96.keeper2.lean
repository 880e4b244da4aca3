theorem bx_shl {a i : Nat} (ha : a * 2 ^ i < 2147483648) (hi : i < 32) : am_shl (a : Int) (i : Int) = ((a * 2 ^ i : Nat) : Int) := by
  have hs : ∀ i, i < 32 → ((nI i &&& 31).toBitVec.smod 32).toNat = i := by decide +kernel
  have h : nI a <<< (nI i &&& 31) = nI (a * 2 ^ i) := by
    apply Int32.toBitVec_inj.mp
    rw [Int32.toBitVec_shiftLeft]
    apply BitVec.eq_of_toNat_eq
    rw [BitVec.shiftLeft_eq', hs i hi, BitVec.toNat_shiftLeft]
    show (BitVec.ofNat 32 a).toNat <<< i % 2 ^ 32 = (BitVec.ofNat 32 (a * 2 ^ i)).toNat
    have h1 : a ≤ a * 2 ^ i := Nat.le_mul_of_pos_right _ (Nat.two_pow_pos i)
    rw [BitVec.toNat_ofNat, BitVec.toNat_ofNat, Nat.mod_eq_of_lt (show a < 2 ^ 32 by omega), Nat.shiftLeft_eq]
  rw [am_shl, bx_ofN, bx_ofN, h]
  exact bx_toI ha
theorem kx_k {k v i : Nat} (hk : k * 2 ^ i + 2 ^ i ≤ 2147483648) (hv : v < 2 ^ i) (hi : i < 32) : am_or (am_shl (k : Int) (i : Int)) (v : Int) = ((k * 2 ^ i + v : Nat) : Int) := by
  have h := Nat.shiftLeft_add_eq_or_of_lt (b := v) (i := i) hv k
  rw [Nat.shiftLeft_eq] at h
  have hp := Nat.two_pow_pos i
  rw [bx_shl (by omega) hi, bx_or (k := 31) (by omega) (by omega) (by decide), ← h]
/-- what the table has is right -/
def TBS (R : Nat → Nat → Prop) (m : am_M) : Prop := ∀ j, j < 8192 → (0 ≤ m 45 j ∧ m 45 j ≤ 1073741824) ∧ ∀ k v : Nat, v < 64 → m 45 j = (k : Int) * 64 + (v : Int) + 1 → R k v
def TBR (m : am_M) : Prop := ∀ j, j < 8192 → 0 ≤ m 45 j ∧ m 45 j ≤ 1073741824
theorem TBS_R {R : Nat → Nat → Prop} {m : am_M} (h : TBS R m) : TBR m := fun j hj => (h j hj).1
theorem TBS_u {R : Nat → Nat → Prop} {m m' : am_M} (h : TBS R m) {k v j : Nat} (hk : k < 16777216) (hv : v < 64) (hr : R k v) (hm : m' = mu m 45 j ((k : Int) * 64 + (v : Int) + 1)) : TBS R m' := by
  intro j' hj'
  rw [hm]
  by_cases hh : j' = j
  · rw [hh, mu_same]
    refine ⟨by omega, fun k' v' h1 h2 => ?_⟩
    have e1 : k' = k := by omega
    have e2 : v' = v := by omega
    rw [e1, e2]
    exact hr
  · rw [mu_k hh]
    exact h j' hj'
theorem TBS_0 {R : Nat → Nat → Prop} {m : am_M} : TBS R (flm m 45 8192 0) := by
  intro j hj
  have e : flm m 45 8192 0 45 j = 0 := by
    unfold flm
    rw [if_pos ⟨rfl, hj⟩]
  rw [e]
  exact ⟨by omega, fun k v h1 h2 => by omega⟩
theorem TBS_fr {R : Nat → Nat → Prop} {m m' : am_M} (h : TBS R m) (e : m' 45 = m 45) : TBS R m' := by
  unfold TBS at h ⊢
  rw [e]
  exact h
theorem u_119_0 {Q : List am_V → am_M → Prop} {m : am_M} {k : Int}  (H : ∀ (v1 : Int) (m1 : am_M), (m1 = m ∧ 0 ≤ v1 ∧ v1 < 8192) → (0 ≤ am_s v1 ∧ am_s v1 < (8192 : Nat)) ∧ (∀ y1 : Int, y1 = (if am_s (m1 45 ((am_s v1).toNat)) = 0 then (-1) else (if ¬ am_s (am_shr ((m1 45 ((am_s v1).toNat)) - 1) 6) = am_s k then (-1) else (am_and ((m1 45 ((am_s v1).toNat)) - 1) 63))) → Q [.inl y1] m1)) : ok 1 119 0 [some (.inr (.inr (some 43))), some (.inl k), none] [] m Q := by
  refine ok_sg (pc' := 6) (ls' := [some (.inr (.inr (some 43))), some (.inl k), none]) (st' := [.inl k, .inr (.inr (some 43)), .inr (.inr (some 45))]) (m' := m) (fun fx hfx o hk => ?_) ?_
  · refine r_ld (pc' := 1) hM_119 d_119_0 rfl rfl ?_
    refine r_gR (pc' := 4) (v := 45) hM_119 d_119_1 rfl (by decide +kernel) ?_
    refine r_ld (pc' := 5) hM_119 d_119_4 rfl rfl ?_
    refine r_ld (pc' := 6) hM_119 d_119_5 rfl rfl ?_
    exact hk
  refine ok_cl (pc' := 9) (c := (120, 0)) (a := [.inr (.inr (some 43)), .inl k]) (q := [.inr (.inr (some 45))]) hM_119 d_119_6 rfl (by decide +kernel) hM_120 rfl rfl rfl (Nat.le_of_ble_eq_true rfl) (Nat.le_of_ble_eq_true rfl) (Or.inr rfl) (z_120  m k) (Nat.le_of_ble_eq_true rfl) ?_
  rintro _ m1 ⟨v1, rfl, hz1⟩
  replace H := H v1 m1 hz1
  show ok 1 119 9 [some (.inr (.inr (some 43))), some (.inl k), none] [.inl v1, .inr (.inr (some 45))] m1 Q
  obtain ⟨hz2, H⟩ := H
  refine ok_sg (pc' := 12) (ls' := [some (.inr (.inr (some 43))), some (.inl k), some (.inl (m1 45 ((am_s v1).toNat)))]) (st' := [.inl (m1 45 ((am_s v1).toNat))]) (m' := m1) (fun fx hfx o hk => ?_) ?_
  · refine r_ia (pc' := 10) (n := 8192) hM_119 d_119_9 rfl rfl hz2 ?_
    refine r_sto (pc' := 11) (ls' := [some (.inr (.inr (some 43))), some (.inl k), some (.inl (m1 45 ((am_s v1).toNat)))]) hM_119 d_119_10 rfl rfl ?_
    refine r_ld (pc' := 12) hM_119 d_119_11 rfl rfl ?_
    exact hk
  refine ok_sg (pc' := 35) (ls' := [some (.inr (.inr (some 43))), some (.inl k), some (.inl (m1 45 ((am_s v1).toNat)))]) (st' := [.inl (if am_s (m1 45 ((am_s v1).toNat)) = 0 then (-1) else (if ¬ am_s (am_shr ((m1 45 ((am_s v1).toNat)) - 1) 6) = am_s k then (-1) else (am_and ((m1 45 ((am_s v1).toNat)) - 1) 63)))]) (m' := m1) (fun fx hfx o K => ?_) ?_
  · refine r_if (pc' := 34) (pc2 := 15) hM_119 d_119_12 (by decide) rfl (fun hz3 => ?_) (fun hz3 => ?_)
    · have hz3 : am_s (m1 45 ((am_s v1).toNat)) = 0 := hz3
      rw [if_pos hz3] at K
      refine r_k (pc' := 35) (v := .inl (-1)) hM_119 d_119_34 rfl rfl ?_
      exact K
    · have hz3 : ¬ (am_s (m1 45 ((am_s v1).toNat)) = 0) := hz3
      rw [if_neg hz3] at K
      refine r_ld (pc' := 16) hM_119 d_119_15 rfl rfl ?_
      refine r_k (pc' := 17) (v := .inl 1) hM_119 d_119_16 rfl rfl ?_
      refine r_b (pc' := 18) (z := ((m1 45 ((am_s v1).toNat)) - 1)) hM_119 d_119_17 rfl rfl ?_
      refine r_k (pc' := 20) (v := .inl 6) hM_119 d_119_18 rfl rfl ?_
      refine r_b (pc' := 21) (z := (am_shr ((m1 45 ((am_s v1).toNat)) - 1) 6)) hM_119 d_119_20 rfl rfl ?_
      refine r_ld (pc' := 22) hM_119 d_119_21 rfl rfl ?_
      refine r_ic (pc' := 34) (pc2 := 25) hM_119 d_119_22 (by decide) rfl (fun hz4 => ?_) (fun hz4 => ?_)
      · have hz4 : ¬ am_s (am_shr ((m1 45 ((am_s v1).toNat)) - 1) 6) = am_s k := hz4
        rw [if_pos hz4] at K
        refine r_k (pc' := 35) (v := .inl (-1)) hM_119 d_119_34 rfl rfl ?_
        exact K
      · have hz4 : ¬ (¬ am_s (am_shr ((m1 45 ((am_s v1).toNat)) - 1) 6) = am_s k) := hz4
        rw [if_neg hz4] at K
        refine r_ld (pc' := 26) hM_119 d_119_25 rfl rfl ?_
        refine r_k (pc' := 27) (v := .inl 1) hM_119 d_119_26 rfl rfl ?_
        refine r_b (pc' := 28) (z := ((m1 45 ((am_s v1).toNat)) - 1)) hM_119 d_119_27 rfl rfl ?_
        refine r_k (pc' := 30) (v := .inl 63) hM_119 d_119_28 rfl rfl ?_
        refine r_b (pc' := 31) (z := (am_and ((m1 45 ((am_s v1).toNat)) - 1) 63)) hM_119 d_119_30 rfl rfl ?_
        refine r_go (pc' := 35) hM_119 d_119_31 (by decide) ?_
        exact K
  have K : ∀ y1 : Int, y1 = (if am_s (m1 45 ((am_s v1).toNat)) = 0 then (-1) else (if ¬ am_s (am_shr ((m1 45 ((am_s v1).toNat)) - 1) 6) = am_s k then (-1) else (am_and ((m1 45 ((am_s v1).toNat)) - 1) 63))) → ok 1 119 35 [some (.inr (.inr (some 43))), some (.inl k), some (.inl (m1 45 ((am_s v1).toNat)))] [.inl y1] m1 Q := by
    intro y1 hy1
    replace H := H y1 hy1
    exact ok_rt (fun fx _ => rt_i hM_119 d_119_35 rfl) H
  exact K _ rfl
theorem z_119   (m : am_M) (k : Int) (hq : TBR m ∧ 0 ≤ k ∧ k < 16777216) : ok 1 119 0 (am_ent 3 [.inr (.inr (some 43)), .inl k]) [] m (fun rr m' => ∃ v' : Int, rr = [.inl (v')] ∧ m' = m ∧ (v' = -1 ∨ ∃ j, j < 8192 ∧ m 45 j = k * 64 + v' + 1 ∧ 0 ≤ v' ∧ v' < 64)) := by
  show ok 1 119 0 [some (.inr (.inr (some 43))), some (.inl k), none] [] m _
  obtain ⟨hT, hk⟩ := hq
  refine u_119_0 ?_
  rintro v1 mx ⟨hmx, hv1, hv2⟩
  rw [hmx]
  obtain ⟨j, rfl⟩ : ∃ j : Nat, v1 = (j : Int) := ⟨v1.toNat, by omega⟩
  have hj := hT j (by omega)
  rw [am_s_id (z := (j : Int)) (by omega) (by omega), Int.toNat_natCast, am_s_id (z := m 45 j) (by omega) (by omega), am_s_id (z := k) (by omega) (by omega)]
  refine ⟨⟨by omega, by omega⟩, fun y hy => ⟨y, rfl, rfl, ?_⟩⟩
  by_cases h0 : m 45 j = 0
  · rw [if_pos h0] at hy
    exact Or.inl hy
  · rw [if_neg h0] at hy
    obtain ⟨e, he⟩ : ∃ e : Nat, m 45 j - 1 = (e : Int) := ⟨(m 45 j - 1).toNat, by omega⟩
    have e64 : e / 2 ^ 6 = e / 64 := rfl
    have m64 : e &&& 63 = e % 64 := Nat.and_two_pow_sub_one_eq_mod e 6
    rw [he, show (6 : Int) = ((6 : Nat) : Int) from rfl, bx_shr (by omega) (by decide), show (63 : Int) = ((63 : Nat) : Int) from rfl, bx_and (by omega), am_s_id (by omega) (by omega), m64, e64] at hy
    by_cases h1 : ((e / 64 : Nat) : Int) = k
    · rw [if_neg (by omega)] at hy
      exact Or.inr ⟨j, by omega, by omega, by omega, by omega⟩
    · rw [if_pos h1] at hy
      exact Or.inl hy
theorem u_124_0 {Q : List am_V → am_M → Prop} {m : am_M} {k : Int} {v : Int}  (H : ∀ (v1 : Int) (m1 : am_M), (m1 = m ∧ 0 ≤ v1 ∧ v1 < 8192) → (0 ≤ am_s v1 ∧ am_s v1 < (8192 : Nat)) ∧ (Q [] (mu m1 45 ((am_s v1).toNat) ((am_or (am_shl k 6) (v_14 m1 v 63)) + 1)))) : ok 1 124 0 [some (.inr (.inr (some 43))), some (.inl k), some (.inl v)] [] m Q := by
  refine ok_sg (pc' := 6) (ls' := [some (.inr (.inr (some 43))), some (.inl k), some (.inl v)]) (st' := [.inl k, .inr (.inr (some 43)), .inr (.inr (some 45))]) (m' := m) (fun fx hfx o hk => ?_) ?_
  · refine r_ld (pc' := 1) hM_124 d_124_0 rfl rfl ?_
    refine r_gR (pc' := 4) (v := 45) hM_124 d_124_1 rfl (by decide +kernel) ?_
    refine r_ld (pc' := 5) hM_124 d_124_4 rfl rfl ?_
    refine r_ld (pc' := 6) hM_124 d_124_5 rfl rfl ?_
    exact hk
  refine ok_cl (pc' := 9) (c := (120, 0)) (a := [.inr (.inr (some 43)), .inl k]) (q := [.inr (.inr (some 45))]) hM_124 d_124_6 rfl (by decide +kernel) hM_120 rfl rfl rfl (Nat.le_of_ble_eq_true rfl) (Nat.le_of_ble_eq_true rfl) (Or.inr rfl) (z_120  m k) (Nat.le_of_ble_eq_true rfl) ?_
  rintro _ m1 ⟨v1, rfl, hz1⟩
  replace H := H v1 m1 hz1
  show ok 1 124 9 [some (.inr (.inr (some 43))), some (.inl k), some (.inl v)] [.inl v1, .inr (.inr (some 45))] m1 Q
  obtain ⟨hz2, H⟩ := H
  refine ok_sg (pc' := 23) (ls' := [some (.inr (.inr (some 43))), some (.inl k), some (.inl v)]) (st' := []) (m' := mu m1 45 ((am_s v1).toNat) ((am_or (am_shl k 6) (v_14 m1 v 63)) + 1)) (fun fx hfx o hk => ?_) ?_
  · refine r_ld (pc' := 10) hM_124 d_124_9 rfl rfl ?_
    refine r_k (pc' := 12) (v := .inl 6) hM_124 d_124_10 rfl rfl ?_
    refine r_b (pc' := 13) (z := (am_shl k 6)) hM_124 d_124_12 rfl rfl ?_
    refine r_ld (pc' := 14) hM_124 d_124_13 rfl rfl ?_
    refine r_k (pc' := 16) (v := .inl 63) hM_124 d_124_14 rfl rfl ?_
    refine r_cl (pc' := 19) (c := (14, 2)) (a := [.inl v, .inl 63]) (q := [.inl (am_shl k 6), .inl v1, .inr (.inr (some 45))]) hM_124 d_124_16 rfl (by decide +kernel) hM_14 rfl rfl rfl (Nat.le_of_ble_eq_true rfl) (Nat.le_of_ble_eq_true rfl) (Or.inl rfl) (c_14  m1 v 63) (Nat.le_of_ble_eq_true rfl) ?_
    show rn fx 1 (0, 0) 124 19 [some (.inr (.inr (some 43))), some (.inl k), some (.inl v)] [.inl (v_14 m1 v 63), .inl (am_shl k 6), .inl v1, .inr (.inr (some 45))] (st0 m1) o
    refine r_b (pc' := 20) (z := (am_or (am_shl k 6) (v_14 m1 v 63))) hM_124 d_124_19 rfl rfl ?_
    refine r_k (pc' := 21) (v := .inl 1) hM_124 d_124_20 rfl rfl ?_
    refine r_b (pc' := 22) (z := ((am_or (am_shl k 6) (v_14 m1 v 63)) + 1)) hM_124 d_124_21 rfl rfl ?_
    refine r_is (pc' := 23) (n := 8192) hM_124 d_124_22 rfl rfl hz2 ?_
    exact hk
  exact ok_rt (fun fx _ => rt_v hM_124 d_124_23 rfl) H
theorem z_124   (m : am_M) (k : Int) (v : Int) (hq : (0 ≤ k ∧ k < 16777216) ∧ 0 ≤ v ∧ v < 64) : ok 1 124 0 (am_ent 3 [.inr (.inr (some 43)), .inl k, .inl v]) [] m (fun rr m' => rr = [] ∧ ∃ j, j < 8192 ∧ m' = mu m 45 j (k * 64 + v + 1)) := by
  show ok 1 124 0 [some (.inr (.inr (some 43))), some (.inl k), some (.inl v)] [] m _
  obtain ⟨hk, hv⟩ := hq
  obtain ⟨K, rfl⟩ : ∃ K : Nat, k = (K : Int) := ⟨k.toNat, by omega⟩
  obtain ⟨V, rfl⟩ : ∃ V : Nat, v = (V : Int) := ⟨v.toNat, by omega⟩
  refine u_124_0 ?_
  rintro v1 mx ⟨hmx, hv1, hv2⟩
  rw [hmx, am_s_id (z := v1) (by omega) (by omega), v14 (by omega) (by omega) (by omega) (by omega), show min (V : Int) 63 = (V : Int) by omega, show (6 : Int) = ((6 : Nat) : Int) from rfl, kx_k (by omega) (by omega) (by decide)]
  refine ⟨⟨by omega, by omega⟩, rfl, v1.toNat, by omega, ?_⟩
  congr 1
theorem u_118_36 {Q : List am_V → am_M → Prop} {m : am_M} {s : Int} {d : Int} {k : Int} {b : Int} {c : Int}  {PRE : am_M → Int → Int → Prop} {POST : am_M → Int → Int → am_M → Prop} {VAL : Int → Int → Int} {h0 : Nat} (hh0 : 2 ≤ h0) (hrec : ∀ (m : am_M) (s d : Int), PRE m s d → ok h0 118 0 (am_ent 9 [.inr (.inr (some 43)), .inl s, .inl d]) [] m (fun rr m' => rr = [.inl (VAL s d)] ∧ POST m s d m')) (H : ((am_s (am_shl 1 (m 43 3)) ≤ am_s c) → ((0 ≤ k ∧ k < 16777216) ∧ 0 ≤ b ∧ b < 64) ∧ (∀ (m1 : am_M), (∃ j, j < 8192 ∧ m1 = mu m 45 j (k * 64 + b + 1)) → Q [.inl b] m1)) ∧ ((¬ (am_s (am_shl 1 (m 43 3)) ≤ am_s c)) → (KOK m ∧ (0 ≤ s ∧ s < 32768) ∧ (0 ≤ c ∧ c < 4096) ∧ 0 ≤ d ∧ d ≤ 8) ∧ (∀ (v2 : Int) (m2 : am_M), (m2 = m ∧ (v2 = 0 ∨ v2 = 1) ∧ (v2 = 1 ↔ KCH m s.toNat c.toNat d.toNat)) → ((¬ am_s v2 = 0) → (0 ≤ c ∧ c < 4096) ∧ ((KOK m2 ∧ (0 ≤ s ∧ s < 32768) ∧ 0 ≤ c ∧ c < 4096) ∧ (∀ (m3 : am_M), (m3 = m2) → (KOK m3 ∧ (0 ≤ ((kpk (ktp (kF m2) c.toNat (kfl s.toNat)) (kn m2) : Nat) : Int) ∧ ((kpk (ktp (kF m2) c.toNat (kfl s.toNat)) (kn m2) : Nat) : Int).toNat < 8 ^ kn m3) ∧ 0 ≤ (d - 1) ∧ (d - 1) ≤ 8) ∧ (∀ (m4 : am_M), (m4 = m3) → (KOK m4 ∧ (0 ≤ ((kpk (fun i => min (d - 1).toNat (kfl ((kpk (ktp (kF m2) c.toNat (kfl s.toNat)) (kn m2) : Nat) : Int).toNat i)) (kn m3) : Nat) : Int) ∧ ((kpk (fun i => min (d - 1).toNat (kfl ((kpk (ktp (kF m2) c.toNat (kfl s.toNat)) (kn m2) : Nat) : Int).toNat i)) (kn m3) : Nat) : Int) < 32768) ∧ 0 ≤ (d - 1) ∧ (d - 1) ≤ 8) ∧ (∀ (m5 : am_M), (m5 = m4) → ((am_s b ≤ am_s ((((cnt c.toNat 12 : Nat) : Int)) + ((kls (d - 1).toNat (kfl ((kpk (fun i => min (d - 1).toNat (kfl ((kpk (ktp (kF m2) c.toNat (kfl s.toNat)) (kn m2) : Nat) : Int).toNat i)) (kn m3) : Nat) : Int).toNat) (kF m4) (kn m4) : Nat) : Int))) → ok (h0 + 1) 118 36 [some (.inr (.inr (some 43))), some (.inl s), some (.inl d), some (.inl k), none, some (.inl b), some (.inl (c + 1)), none, none] [] m5 Q) ∧ ((¬ (am_s b ≤ am_s ((((cnt c.toNat 12 : Nat) : Int)) + ((kls (d - 1).toNat (kfl ((kpk (fun i => min (d - 1).toNat (kfl ((kpk (ktp (kF m2) c.toNat (kfl s.toNat)) (kn m2) : Nat) : Int).toNat i)) (kn m3) : Nat) : Int).toNat) (kF m4) (kn m4) : Nat) : Int)))) → (PRE m5 ((kpk (fun i => min (d - 1).toNat (kfl ((kpk (ktp (kF m2) c.toNat (kfl s.toNat)) (kn m2) : Nat) : Int).toNat i)) (kn m3) : Nat) : Int) (d - 1)) ∧ (∀ (m6 : am_M), (POST m5 ((kpk (fun i => min (d - 1).toNat (kfl ((kpk (ktp (kF m2) c.toNat (kfl s.toNat)) (kn m2) : Nat) : Int).toNat i)) (kn m3) : Nat) : Int) (d - 1) m6) → ok (h0 + 1) 118 36 [some (.inr (.inr (some 43))), some (.inl s), some (.inl d), some (.inl k), none, some (.inl (v_14 m6 b ((((cnt c.toNat 12 : Nat) : Int)) + (VAL ((kpk (fun i => min (d - 1).toNat (kfl ((kpk (ktp (kF m2) c.toNat (kfl s.toNat)) (kn m2) : Nat) : Int).toNat i)) (kn m3) : Nat) : Int) (d - 1))))), some (.inl (c + 1)), none, none] [] m6 Q))))))) ∧ ((am_s v2 = 0) → ok (h0 + 1) 118 36 [some (.inr (.inr (some 43))), some (.inl s), some (.inl d), some (.inl k), none, some (.inl b), some (.inl (c + 1)), none, none] [] m2 Q)))) : ok (h0 + 1) 118 36 [some (.inr (.inr (some 43))), some (.inl s), some (.inl d), some (.inl k), none, some (.inl b), some (.inl c), none, none] [] m Q := by
  refine ok_sg (pc' := 44) (ls' := [some (.inr (.inr (some 43))), some (.inl s), some (.inl d), some (.inl k), none, some (.inl b), some (.inl c), none, none]) (st' := [.inl (am_shl 1 (m 43 3)), .inl c]) (m' := m) (fun fx hfx o hk => ?_) ?_
  · refine r_ld (pc' := 38) hM_118 d_118_36 rfl rfl ?_
    refine r_k (pc' := 39) (v := .inl 1) hM_118 d_118_38 rfl rfl ?_
    refine r_ld (pc' := 40) hM_118 d_118_39 rfl rfl ?_
    refine r_gI (pc' := 43) (k0 := 3) hM_118 d_118_40 rfl (by decide +kernel) ?_
    refine r_b (pc' := 44) (z := (am_shl 1 (m 43 3))) hM_118 d_118_43 rfl rfl ?_
    exact hk
  refine ok_ic (pc' := 126) (pc2 := 47) hM_118 d_118_44 (by decide) rfl (fun hz1 => ?_) (fun hz1 => ?_)
  · have H := H.1 hz1
    obtain ⟨hz2, H⟩ := H
    refine ok_sg (pc' := 130) (ls' := [some (.inr (.inr (some 43))), some (.inl s), some (.inl d), some (.inl k), none, some (.inl b), some (.inl c), none, none]) (st' := [.inl b, .inl k, .inr (.inr (some 43))]) (m' := m) (fun fx hfx o hk => ?_) ?_
    · refine r_ld (pc' := 127) hM_118 d_118_126 rfl rfl ?_
      refine r_ld (pc' := 128) hM_118 d_118_127 rfl rfl ?_
      refine r_ld (pc' := 130) hM_118 d_118_128 rfl rfl ?_
      exact hk
    refine ok_cl (pc' := 133) (c := (124, 0)) (a := [.inr (.inr (some 43)), .inl k, .inl b]) (q := []) hM_118 d_118_130 rfl (by decide +kernel) hM_124 rfl rfl rfl (Nat.le_of_ble_eq_true rfl) (Nat.le_of_ble_eq_true rfl) (Or.inr rfl) (z_124  m k b hz2) (by omega) ?_
    rintro _ m1 ⟨rfl, hz3⟩
    replace H := H  m1 hz3
    show ok (h0 + 1) 118 133 [some (.inr (.inr (some 43))), some (.inl s), some (.inl d), some (.inl k), none, some (.inl b), some (.inl c), none, none] [] m1 Q
    refine ok_sg (pc' := 135) (ls' := [some (.inr (.inr (some 43))), some (.inl s), some (.inl d), some (.inl k), none, some (.inl b), some (.inl c), none, none]) (st' := [.inl b]) (m' := m1) (fun fx hfx o hk => ?_) ?_
    · refine r_ld (pc' := 135) hM_118 d_118_133 rfl rfl ?_
      exact hk
    exact ok_rt (fun fx _ => rt_i hM_118 d_118_135 rfl) H
  · have H := H.2 hz1
    obtain ⟨hz4, H⟩ := H
    refine ok_sg (pc' := 52) (ls' := [some (.inr (.inr (some 43))), some (.inl s), some (.inl d), some (.inl k), none, some (.inl b), some (.inl c), none, none]) (st' := [.inl d, .inl c, .inl s, .inr (.inr (some 43))]) (m' := m) (fun fx hfx o hk => ?_) ?_
    · refine r_ld (pc' := 48) hM_118 d_118_47 rfl rfl ?_
      refine r_ld (pc' := 49) hM_118 d_118_48 rfl rfl ?_
      refine r_ld (pc' := 51) hM_118 d_118_49 rfl rfl ?_
      refine r_ld (pc' := 52) hM_118 d_118_51 rfl rfl ?_
      exact hk
    refine ok_cl (pc' := 55) (c := (121, 0)) (a := [.inr (.inr (some 43)), .inl s, .inl c, .inl d]) (q := []) hM_118 d_118_52 rfl (by decide +kernel) hM_121 rfl rfl rfl (Nat.le_of_ble_eq_true rfl) (Nat.le_of_ble_eq_true rfl) (Or.inr rfl) (z_121  m s c d hz4) (by omega) ?_
    rintro _ m2 ⟨v2, rfl, hz5⟩
    replace H := H v2 m2 hz5
    show ok (h0 + 1) 118 55 [some (.inr (.inr (some 43))), some (.inl s), some (.inl d), some (.inl k), none, some (.inl b), some (.inl c), none, none] [.inl v2] m2 Q
    refine ok_if (pc' := 61) (pc2 := 58) hM_118 d_118_55 (by decide) rfl (fun hz6 => ?_) (fun hz6 => ?_)
    · have H := H.1 hz6
      obtain ⟨hz7, H⟩ := H
      obtain ⟨hz8, H⟩ := H
      refine ok_sg (pc' := 73) (ls' := [some (.inr (.inr (some 43))), some (.inl s), some (.inl d), some (.inl k), none, some (.inl b), some (.inl c), some (.inl (((cnt c.toNat 12 : Nat) : Int))), none]) (st' := [.inl c, .inl s, .inr (.inr (some 43)), .inr (.inr (some 43))]) (m' := m2) (fun fx hfx o hk => ?_) ?_
      · refine r_ld (pc' := 63) hM_118 d_118_61 rfl rfl ?_
        refine r_cl (pc' := 66) (c := (72, 2)) (a := [.inl c]) (q := []) hM_118 d_118_63 rfl (by decide +kernel) hM_72 rfl rfl rfl (Nat.le_of_ble_eq_true rfl) (Nat.le_of_ble_eq_true rfl) (Or.inl rfl) (n_72  m2 c hz7) (by omega) ?_
        show rn fx (h0 + 1) (0, 0) 118 66 [some (.inr (.inr (some 43))), some (.inl s), some (.inl d), some (.inl k), none, some (.inl b), some (.inl c), none, none] [.inl (((cnt c.toNat 12 : Nat) : Int))] (st0 m2) o
        refine r_sto (pc' := 68) (ls' := [some (.inr (.inr (some 43))), some (.inl s), some (.inl d), some (.inl k), none, some (.inl b), some (.inl c), some (.inl (((cnt c.toNat 12 : Nat) : Int))), none]) hM_118 d_118_66 rfl rfl ?_
        refine r_ld (pc' := 69) hM_118 d_118_68 rfl rfl ?_
        refine r_ld (pc' := 70) hM_118 d_118_69 rfl rfl ?_
        refine r_ld (pc' := 71) hM_118 d_118_70 rfl rfl ?_
        refine r_ld (pc' := 73) hM_118 d_118_71 rfl rfl ?_
        exact hk
      refine ok_cl (pc' := 76) (c := (122, 0)) (a := [.inr (.inr (some 43)), .inl s, .inl c]) (q := [.inr (.inr (some 43))]) hM_118 d_118_73 rfl (by decide +kernel) hM_122 rfl rfl rfl (Nat.le_of_ble_eq_true rfl) (Nat.le_of_ble_eq_true rfl) (Or.inr rfl) (z_122  m2 s c hz8) (by omega) ?_
      rintro _ m3 ⟨rfl, hz9⟩
      replace H := H  m3 hz9
      show ok (h0 + 1) 118 76 [some (.inr (.inr (some 43))), some (.inl s), some (.inl d), some (.inl k), none, some (.inl b), some (.inl c), some (.inl (((cnt c.toNat 12 : Nat) : Int))), none] [.inl ((kpk (ktp (kF m2) c.toNat (kfl s.toNat)) (kn m2) : Nat) : Int), .inr (.inr (some 43))] m3 Q
      obtain ⟨hz10, H⟩ := H
      refine ok_sg (pc' := 79) (ls' := [some (.inr (.inr (some 43))), some (.inl s), some (.inl d), some (.inl k), none, some (.inl b), some (.inl c), some (.inl (((cnt c.toNat 12 : Nat) : Int))), none]) (st' := [.inl (d - 1), .inl ((kpk (ktp (kF m2) c.toNat (kfl s.toNat)) (kn m2) : Nat) : Int), .inr (.inr (some 43))]) (m' := m3) (fun fx hfx o hk => ?_) ?_
      · refine r_ld (pc' := 77) hM_118 d_118_76 rfl rfl ?_
        refine r_k (pc' := 78) (v := .inl 1) hM_118 d_118_77 rfl rfl ?_
        refine r_b (pc' := 79) (z := (d - 1)) hM_118 d_118_78 rfl rfl ?_
        exact hk
      refine ok_cl (pc' := 82) (c := (117, 0)) (a := [.inr (.inr (some 43)), .inl ((kpk (ktp (kF m2) c.toNat (kfl s.toNat)) (kn m2) : Nat) : Int), .inl (d - 1)]) (q := []) hM_118 d_118_79 rfl (by decide +kernel) hM_117 rfl rfl rfl (Nat.le_of_ble_eq_true rfl) (Nat.le_of_ble_eq_true rfl) (Or.inr rfl) (z_117  m3 ((kpk (ktp (kF m2) c.toNat (kfl s.toNat)) (kn m2) : Nat) : Int) (d - 1) hz10) (by omega) ?_
      rintro _ m4 ⟨rfl, hz11⟩
      replace H := H  m4 hz11
      show ok (h0 + 1) 118 82 [some (.inr (.inr (some 43))), some (.inl s), some (.inl d), some (.inl k), none, some (.inl b), some (.inl c), some (.inl (((cnt c.toNat 12 : Nat) : Int))), none] [.inl ((kpk (fun i => min (d - 1).toNat (kfl ((kpk (ktp (kF m2) c.toNat (kfl s.toNat)) (kn m2) : Nat) : Int).toNat i)) (kn m3) : Nat) : Int)] m4 Q
      obtain ⟨hz12, H⟩ := H
      refine ok_sg (pc' := 92) (ls' := [some (.inr (.inr (some 43))), some (.inl s), some (.inl d), some (.inl k), none, some (.inl b), some (.inl c), some (.inl (((cnt c.toNat 12 : Nat) : Int))), some (.inl ((kpk (fun i => min (d - 1).toNat (kfl ((kpk (ktp (kF m2) c.toNat (kfl s.toNat)) (kn m2) : Nat) : Int).toNat i)) (kn m3) : Nat) : Int))]) (st' := [.inl (d - 1), .inl ((kpk (fun i => min (d - 1).toNat (kfl ((kpk (ktp (kF m2) c.toNat (kfl s.toNat)) (kn m2) : Nat) : Int).toNat i)) (kn m3) : Nat) : Int), .inr (.inr (some 43)), .inl (((cnt c.toNat 12 : Nat) : Int))]) (m' := m4) (fun fx hfx o hk => ?_) ?_
      · refine r_sto (pc' := 84) (ls' := [some (.inr (.inr (some 43))), some (.inl s), some (.inl d), some (.inl k), none, some (.inl b), some (.inl c), some (.inl (((cnt c.toNat 12 : Nat) : Int))), some (.inl ((kpk (fun i => min (d - 1).toNat (kfl ((kpk (ktp (kF m2) c.toNat (kfl s.toNat)) (kn m2) : Nat) : Int).toNat i)) (kn m3) : Nat) : Int))]) hM_118 d_118_82 rfl rfl ?_
        refine r_ld (pc' := 86) hM_118 d_118_84 rfl rfl ?_
        refine r_ld (pc' := 87) hM_118 d_118_86 rfl rfl ?_
        refine r_ld (pc' := 89) hM_118 d_118_87 rfl rfl ?_
        refine r_ld (pc' := 90) hM_118 d_118_89 rfl rfl ?_
        refine r_k (pc' := 91) (v := .inl 1) hM_118 d_118_90 rfl rfl ?_
        refine r_b (pc' := 92) (z := (d - 1)) hM_118 d_118_91 rfl rfl ?_
        exact hk
      refine ok_cl (pc' := 95) (c := (123, 0)) (a := [.inr (.inr (some 43)), .inl ((kpk (fun i => min (d - 1).toNat (kfl ((kpk (ktp (kF m2) c.toNat (kfl s.toNat)) (kn m2) : Nat) : Int).toNat i)) (kn m3) : Nat) : Int), .inl (d - 1)]) (q := [.inl (((cnt c.toNat 12 : Nat) : Int))]) hM_118 d_118_92 rfl (by decide +kernel) hM_123 rfl rfl rfl (Nat.le_of_ble_eq_true rfl) (Nat.le_of_ble_eq_true rfl) (Or.inr rfl) (z_123  m4 ((kpk (fun i => min (d - 1).toNat (kfl ((kpk (ktp (kF m2) c.toNat (kfl s.toNat)) (kn m2) : Nat) : Int).toNat i)) (kn m3) : Nat) : Int) (d - 1) hz12) (by omega) ?_
      rintro _ m5 ⟨rfl, hz13⟩
      replace H := H  m5 hz13
      show ok (h0 + 1) 118 95 [some (.inr (.inr (some 43))), some (.inl s), some (.inl d), some (.inl k), none, some (.inl b), some (.inl c), some (.inl (((cnt c.toNat 12 : Nat) : Int))), some (.inl ((kpk (fun i => min (d - 1).toNat (kfl ((kpk (ktp (kF m2) c.toNat (kfl s.toNat)) (kn m2) : Nat) : Int).toNat i)) (kn m3) : Nat) : Int))] [.inl ((kls (d - 1).toNat (kfl ((kpk (fun i => min (d - 1).toNat (kfl ((kpk (ktp (kF m2) c.toNat (kfl s.toNat)) (kn m2) : Nat) : Int).toNat i)) (kn m3) : Nat) : Int).toNat) (kF m4) (kn m4) : Nat) : Int), .inl (((cnt c.toNat 12 : Nat) : Int))] m5 Q
      refine ok_sg (pc' := 98) (ls' := [some (.inr (.inr (some 43))), some (.inl s), some (.inl d), some (.inl k), none, some (.inl b), some (.inl c), some (.inl (((cnt c.toNat 12 : Nat) : Int))), some (.inl ((kpk (fun i => min (d - 1).toNat (kfl ((kpk (ktp (kF m2) c.toNat (kfl s.toNat)) (kn m2) : Nat) : Int).toNat i)) (kn m3) : Nat) : Int))]) (st' := [.inl b, .inl ((((cnt c.toNat 12 : Nat) : Int)) + ((kls (d - 1).toNat (kfl ((kpk (fun i => min (d - 1).toNat (kfl ((kpk (ktp (kF m2) c.toNat (kfl s.toNat)) (kn m2) : Nat) : Int).toNat i)) (kn m3) : Nat) : Int).toNat) (kF m4) (kn m4) : Nat) : Int))]) (m' := m5) (fun fx hfx o hk => ?_) ?_
      · refine r_b (pc' := 96) (z := ((((cnt c.toNat 12 : Nat) : Int)) + ((kls (d - 1).toNat (kfl ((kpk (fun i => min (d - 1).toNat (kfl ((kpk (ktp (kF m2) c.toNat (kfl s.toNat)) (kn m2) : Nat) : Int).toNat i)) (kn m3) : Nat) : Int).toNat) (kF m4) (kn m4) : Nat) : Int))) hM_118 d_118_95 rfl rfl ?_
        refine r_ld (pc' := 98) hM_118 d_118_96 rfl rfl ?_
        exact hk
      refine ok_ic (pc' := 120) (pc2 := 101) hM_118 d_118_98 (by decide) rfl (fun hz14 => ?_) (fun hz14 => ?_)
      · have H := H.1 hz14
        refine ok_sg (pc' := 36) (ls' := [some (.inr (.inr (some 43))), some (.inl s), some (.inl d), some (.inl k), none, some (.inl b), some (.inl (c + 1)), none, none]) (st' := []) (m' := m5) (fun fx hfx o hk => ?_) ?_
        · refine r_sto (pc' := 123) (ls' := [some (.inr (.inr (some 43))), some (.inl s), some (.inl d), some (.inl k), none, some (.inl b), some (.inl (c + 1)), some (.inl (((cnt c.toNat 12 : Nat) : Int))), some (.inl ((kpk (fun i => min (d - 1).toNat (kfl ((kpk (ktp (kF m2) c.toNat (kfl s.toNat)) (kn m2) : Nat) : Int).toNat i)) (kn m3) : Nat) : Int))]) hM_118 d_118_120 rfl rfl ?_
          refine r_go (pc' := 36) hM_118 d_118_123 (by decide) ?_
          refine rn_wk (a := [some (.inr (.inr (some 43))), some (.inl s), some (.inl d), some (.inl k), none, some (.inl b), some (.inl (c + 1)), none, none]) (by simp only [am_le, and_self]) ?_
          exact hk
        exact H
      · have H := H.2 hz14
        obtain ⟨hz15, H⟩ := H
        refine ok_sg (pc' := 111) (ls' := [some (.inr (.inr (some 43))), some (.inl s), some (.inl d), some (.inl k), none, some (.inl b), some (.inl c), some (.inl (((cnt c.toNat 12 : Nat) : Int))), some (.inl ((kpk (fun i => min (d - 1).toNat (kfl ((kpk (ktp (kF m2) c.toNat (kfl s.toNat)) (kn m2) : Nat) : Int).toNat i)) (kn m3) : Nat) : Int))]) (st' := [.inl (d - 1), .inl ((kpk (fun i => min (d - 1).toNat (kfl ((kpk (ktp (kF m2) c.toNat (kfl s.toNat)) (kn m2) : Nat) : Int).toNat i)) (kn m3) : Nat) : Int), .inr (.inr (some 43)), .inl (((cnt c.toNat 12 : Nat) : Int)), .inl b]) (m' := m5) (fun fx hfx o hk => ?_) ?_
        · refine r_ld (pc' := 103) hM_118 d_118_101 rfl rfl ?_
          refine r_ld (pc' := 105) hM_118 d_118_103 rfl rfl ?_
          refine r_ld (pc' := 106) hM_118 d_118_105 rfl rfl ?_
          refine r_ld (pc' := 108) hM_118 d_118_106 rfl rfl ?_
          refine r_ld (pc' := 109) hM_118 d_118_108 rfl rfl ?_
          refine r_k (pc' := 110) (v := .inl 1) hM_118 d_118_109 rfl rfl ?_
          refine r_b (pc' := 111) (z := (d - 1)) hM_118 d_118_110 rfl rfl ?_
          exact hk
        refine ok_cl (pc' := 114) (c := (118, 0)) (a := [.inr (.inr (some 43)), .inl ((kpk (fun i => min (d - 1).toNat (kfl ((kpk (ktp (kF m2) c.toNat (kfl s.toNat)) (kn m2) : Nat) : Int).toNat i)) (kn m3) : Nat) : Int), .inl (d - 1)]) (q := [.inl (((cnt c.toNat 12 : Nat) : Int)), .inl b]) hM_118 d_118_111 rfl (by decide +kernel) hM_118 rfl rfl rfl (Nat.le_of_ble_eq_true rfl) (Nat.le_of_ble_eq_true rfl) (Or.inr rfl) (hrec  m5 ((kpk (fun i => min (d - 1).toNat (kfl ((kpk (ktp (kF m2) c.toNat (kfl s.toNat)) (kn m2) : Nat) : Int).toNat i)) (kn m3) : Nat) : Int) (d - 1) hz15) (by omega) ?_
        rintro _ m6 ⟨rfl, hz16⟩
        replace H := H  m6 hz16
        show ok (h0 + 1) 118 114 [some (.inr (.inr (some 43))), some (.inl s), some (.inl d), some (.inl k), none, some (.inl b), some (.inl c), some (.inl (((cnt c.toNat 12 : Nat) : Int))), some (.inl ((kpk (fun i => min (d - 1).toNat (kfl ((kpk (ktp (kF m2) c.toNat (kfl s.toNat)) (kn m2) : Nat) : Int).toNat i)) (kn m3) : Nat) : Int))] [.inl (VAL ((kpk (fun i => min (d - 1).toNat (kfl ((kpk (ktp (kF m2) c.toNat (kfl s.toNat)) (kn m2) : Nat) : Int).toNat i)) (kn m3) : Nat) : Int) (d - 1)), .inl (((cnt c.toNat 12 : Nat) : Int)), .inl b] m6 Q
        refine ok_sg (pc' := 36) (ls' := [some (.inr (.inr (some 43))), some (.inl s), some (.inl d), some (.inl k), none, some (.inl (v_14 m6 b ((((cnt c.toNat 12 : Nat) : Int)) + (VAL ((kpk (fun i => min (d - 1).toNat (kfl ((kpk (ktp (kF m2) c.toNat (kfl s.toNat)) (kn m2) : Nat) : Int).toNat i)) (kn m3) : Nat) : Int) (d - 1))))), some (.inl (c + 1)), none, none]) (st' := []) (m' := m6) (fun fx hfx o hk => ?_) ?_
        · refine r_b (pc' := 115) (z := ((((cnt c.toNat 12 : Nat) : Int)) + (VAL ((kpk (fun i => min (d - 1).toNat (kfl ((kpk (ktp (kF m2) c.toNat (kfl s.toNat)) (kn m2) : Nat) : Int).toNat i)) (kn m3) : Nat) : Int) (d - 1)))) hM_118 d_118_114 rfl rfl ?_
          refine r_cl (pc' := 118) (c := (14, 2)) (a := [.inl b, .inl ((((cnt c.toNat 12 : Nat) : Int)) + (VAL ((kpk (fun i => min (d - 1).toNat (kfl ((kpk (ktp (kF m2) c.toNat (kfl s.toNat)) (kn m2) : Nat) : Int).toNat i)) (kn m3) : Nat) : Int) (d - 1)))]) (q := []) hM_118 d_118_115 rfl (by decide +kernel) hM_14 rfl rfl rfl (Nat.le_of_ble_eq_true rfl) (Nat.le_of_ble_eq_true rfl) (Or.inl rfl) (c_14  m6 b ((((cnt c.toNat 12 : Nat) : Int)) + (VAL ((kpk (fun i => min (d - 1).toNat (kfl ((kpk (ktp (kF m2) c.toNat (kfl s.toNat)) (kn m2) : Nat) : Int).toNat i)) (kn m3) : Nat) : Int) (d - 1)))) (by omega) ?_
          show rn fx (h0 + 1) (0, 0) 118 118 [some (.inr (.inr (some 43))), some (.inl s), some (.inl d), some (.inl k), none, some (.inl b), some (.inl c), some (.inl (((cnt c.toNat 12 : Nat) : Int))), some (.inl ((kpk (fun i => min (d - 1).toNat (kfl ((kpk (ktp (kF m2) c.toNat (kfl s.toNat)) (kn m2) : Nat) : Int).toNat i)) (kn m3) : Nat) : Int))] [.inl (v_14 m6 b ((((cnt c.toNat 12 : Nat) : Int)) + (VAL ((kpk (fun i => min (d - 1).toNat (kfl ((kpk (ktp (kF m2) c.toNat (kfl s.toNat)) (kn m2) : Nat) : Int).toNat i)) (kn m3) : Nat) : Int) (d - 1))))] (st0 m6) o
          refine r_sto (pc' := 120) (ls' := [some (.inr (.inr (some 43))), some (.inl s), some (.inl d), some (.inl k), none, some (.inl (v_14 m6 b ((((cnt c.toNat 12 : Nat) : Int)) + (VAL ((kpk (fun i => min (d - 1).toNat (kfl ((kpk (ktp (kF m2) c.toNat (kfl s.toNat)) (kn m2) : Nat) : Int).toNat i)) (kn m3) : Nat) : Int) (d - 1))))), some (.inl c), some (.inl (((cnt c.toNat 12 : Nat) : Int))), some (.inl ((kpk (fun i => min (d - 1).toNat (kfl ((kpk (ktp (kF m2) c.toNat (kfl s.toNat)) (kn m2) : Nat) : Int).toNat i)) (kn m3) : Nat) : Int))]) hM_118 d_118_118 rfl rfl ?_
          refine r_sto (pc' := 123) (ls' := [some (.inr (.inr (some 43))), some (.inl s), some (.inl d), some (.inl k), none, some (.inl (v_14 m6 b ((((cnt c.toNat 12 : Nat) : Int)) + (VAL ((kpk (fun i => min (d - 1).toNat (kfl ((kpk (ktp (kF m2) c.toNat (kfl s.toNat)) (kn m2) : Nat) : Int).toNat i)) (kn m3) : Nat) : Int) (d - 1))))), some (.inl (c + 1)), some (.inl (((cnt c.toNat 12 : Nat) : Int))), some (.inl ((kpk (fun i => min (d - 1).toNat (kfl ((kpk (ktp (kF m2) c.toNat (kfl s.toNat)) (kn m2) : Nat) : Int).toNat i)) (kn m3) : Nat) : Int))]) hM_118 d_118_120 rfl rfl ?_
          refine r_go (pc' := 36) hM_118 d_118_123 (by decide) ?_
          refine rn_wk (a := [some (.inr (.inr (some 43))), some (.inl s), some (.inl d), some (.inl k), none, some (.inl (v_14 m6 b ((((cnt c.toNat 12 : Nat) : Int)) + (VAL ((kpk (fun i => min (d - 1).toNat (kfl ((kpk (ktp (kF m2) c.toNat (kfl s.toNat)) (kn m2) : Nat) : Int).toNat i)) (kn m3) : Nat) : Int) (d - 1))))), some (.inl (c + 1)), none, none]) (by simp only [am_le, and_self]) ?_
          exact hk
        exact H
    · have H := H.2 (Decidable.not_not.mp hz6)
      refine ok_sg (pc' := 36) (ls' := [some (.inr (.inr (some 43))), some (.inl s), some (.inl d), some (.inl k), none, some (.inl b), some (.inl (c + 1)), none, none]) (st' := []) (m' := m2) (fun fx hfx o hk => ?_) ?_
      · refine r_go (pc' := 120) hM_118 d_118_58 (by decide) ?_
        refine r_sto (pc' := 123) (ls' := [some (.inr (.inr (some 43))), some (.inl s), some (.inl d), some (.inl k), none, some (.inl b), some (.inl (c + 1)), none, none]) hM_118 d_118_120 rfl rfl ?_
        refine r_go (pc' := 36) hM_118 d_118_123 (by decide) ?_
        exact hk
      exact H
theorem u_118_0 {Q : List am_V → am_M → Prop} {m : am_M} {s : Int} {d : Int}  {PRE : am_M → Int → Int → Prop} {POST : am_M → Int → Int → am_M → Prop} {VAL : Int → Int → Int} {h0 : Nat} (hh0 : 2 ≤ h0) (hrec : ∀ (m : am_M) (s d : Int), PRE m s d → ok h0 118 0 (am_ent 9 [.inr (.inr (some 43)), .inl s, .inl d]) [] m (fun rr m' => rr = [.inl (VAL s d)] ∧ POST m s d m')) (H : ((0 < am_s d) → (TBR m ∧ 0 ≤ (am_or (am_shl d 15) s) ∧ (am_or (am_shl d 15) s) < 16777216) ∧ (∀ (v1 : Int) (m1 : am_M), (m1 = m ∧ (v1 = -1 ∨ ∃ j, j < 8192 ∧ m 45 j = (am_or (am_shl d 15) s) * 64 + v1 + 1 ∧ 0 ≤ v1 ∧ v1 < 64)) → ((am_s v1 = (-1)) → ok (h0 + 1) 118 36 [some (.inr (.inr (some 43))), some (.inl s), some (.inl d), some (.inl (am_or (am_shl d 15) s)), none, some (.inl 63), some (.inl 0), none, none] [] m1 Q) ∧ ((¬ (am_s v1 = (-1))) → Q [.inl v1] m1))) ∧ ((¬ (0 < am_s d)) → Q [.inl 0] m)) : ok (h0 + 1) 118 0 [some (.inr (.inr (some 43))), some (.inl s), some (.inl d), none, none, none, none, none, none] [] m Q := by
  refine ok_sg (pc' := 1) (ls' := [some (.inr (.inr (some 43))), some (.inl s), some (.inl d), none, none, none, none, none, none]) (st' := [.inl d]) (m' := m) (fun fx hfx o hk => ?_) ?_
  · refine r_ld (pc' := 1) hM_118 d_118_0 rfl rfl ?_
    exact hk
  refine ok_if (pc' := 6) (pc2 := 4) hM_118 d_118_1 (by decide) rfl (fun hz1 => ?_) (fun hz1 => ?_)
  · have H := H.1 hz1
    obtain ⟨hz2, H⟩ := H
    refine ok_sg (pc' := 15) (ls' := [some (.inr (.inr (some 43))), some (.inl s), some (.inl d), some (.inl (am_or (am_shl d 15) s)), none, none, none, none, none]) (st' := [.inl (am_or (am_shl d 15) s), .inr (.inr (some 43))]) (m' := m) (fun fx hfx o hk => ?_) ?_
    · refine r_ld (pc' := 7) hM_118 d_118_6 rfl rfl ?_
      refine r_k (pc' := 9) (v := .inl 15) hM_118 d_118_7 rfl rfl ?_
      refine r_b (pc' := 10) (z := (am_shl d 15)) hM_118 d_118_9 rfl rfl ?_
      refine r_ld (pc' := 11) hM_118 d_118_10 rfl rfl ?_
      refine r_b (pc' := 12) (z := (am_or (am_shl d 15) s)) hM_118 d_118_11 rfl rfl ?_
      refine r_sto (pc' := 13) (ls' := [some (.inr (.inr (some 43))), some (.inl s), some (.inl d), some (.inl (am_or (am_shl d 15) s)), none, none, none, none, none]) hM_118 d_118_12 rfl rfl ?_
      refine r_ld (pc' := 14) hM_118 d_118_13 rfl rfl ?_
      refine r_ld (pc' := 15) hM_118 d_118_14 rfl rfl ?_
      exact hk
    refine ok_cl (pc' := 18) (c := (119, 0)) (a := [.inr (.inr (some 43)), .inl (am_or (am_shl d 15) s)]) (q := []) hM_118 d_118_15 rfl (by decide +kernel) hM_119 rfl rfl rfl (Nat.le_of_ble_eq_true rfl) (Nat.le_of_ble_eq_true rfl) (Or.inr rfl) (z_119  m (am_or (am_shl d 15) s) hz2) (by omega) ?_
    rintro _ m1 ⟨v1, rfl, hz3⟩
    replace H := H v1 m1 hz3
    show ok (h0 + 1) 118 18 [some (.inr (.inr (some 43))), some (.inl s), some (.inl d), some (.inl (am_or (am_shl d 15) s)), none, none, none, none, none] [.inl v1] m1 Q
    refine ok_sg (pc' := 23) (ls' := [some (.inr (.inr (some 43))), some (.inl s), some (.inl d), some (.inl (am_or (am_shl d 15) s)), some (.inl v1), none, none, none, none]) (st' := [.inl (-1), .inl v1]) (m' := m1) (fun fx hfx o hk => ?_) ?_
    · refine r_sto (pc' := 20) (ls' := [some (.inr (.inr (some 43))), some (.inl s), some (.inl d), some (.inl (am_or (am_shl d 15) s)), some (.inl v1), none, none, none, none]) hM_118 d_118_18 rfl rfl ?_
      refine r_ld (pc' := 22) hM_118 d_118_20 rfl rfl ?_
      refine r_k (pc' := 23) (v := .inl (-1)) hM_118 d_118_22 rfl rfl ?_
      exact hk
    refine ok_ic (pc' := 29) (pc2 := 26) hM_118 d_118_23 (by decide) rfl (fun hz4 => ?_) (fun hz4 => ?_)
    · have H := H.1 hz4
      refine ok_sg (pc' := 36) (ls' := [some (.inr (.inr (some 43))), some (.inl s), some (.inl d), some (.inl (am_or (am_shl d 15) s)), none, some (.inl 63), some (.inl 0), none, none]) (st' := []) (m' := m1) (fun fx hfx o hk => ?_) ?_
      · refine r_k (pc' := 31) (v := .inl 63) hM_118 d_118_29 rfl rfl ?_
        refine r_sto (pc' := 33) (ls' := [some (.inr (.inr (some 43))), some (.inl s), some (.inl d), some (.inl (am_or (am_shl d 15) s)), some (.inl v1), some (.inl 63), none, none, none]) hM_118 d_118_31 rfl rfl ?_
        refine r_k (pc' := 34) (v := .inl 0) hM_118 d_118_33 rfl rfl ?_
        refine r_sto (pc' := 36) (ls' := [some (.inr (.inr (some 43))), some (.inl s), some (.inl d), some (.inl (am_or (am_shl d 15) s)), some (.inl v1), some (.inl 63), some (.inl 0), none, none]) hM_118 d_118_34 rfl rfl ?_
        refine rn_wk (a := [some (.inr (.inr (some 43))), some (.inl s), some (.inl d), some (.inl (am_or (am_shl d 15) s)), none, some (.inl 63), some (.inl 0), none, none]) (by simp only [am_le, and_self]) ?_
        exact hk
      exact H
    · have H := H.2 hz4
      refine ok_sg (pc' := 28) (ls' := [some (.inr (.inr (some 43))), some (.inl s), some (.inl d), some (.inl (am_or (am_shl d 15) s)), some (.inl v1), none, none, none, none]) (st' := [.inl v1]) (m' := m1) (fun fx hfx o hk => ?_) ?_
      · refine r_ld (pc' := 28) hM_118 d_118_26 rfl rfl ?_
        exact hk
      exact ok_rt (fun fx _ => rt_i hM_118 d_118_28 rfl) H
  · have H := H.2 hz1
    refine ok_sg (pc' := 5) (ls' := [some (.inr (.inr (some 43))), some (.inl s), some (.inl d), none, none, none, none, none, none]) (st' := [.inl 0]) (m' := m) (fun fx hfx o hk => ?_) ?_
    · refine r_k (pc' := 5) (v := .inl 0) hM_118 d_118_4 rfl rfl ?_
      exact hk
    exact ok_rt (fun fx _ => rt_i hM_118 d_118_5 rfl) H
