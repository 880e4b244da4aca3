def kmx (K : Nat → Int) (G : Nat) (l : Nat → Nat) : Nat → Int
  | 0 => 0
  | i + 1 => if G.testBit i = true then max (kmx K G l i) (K (G &&& l i)) else kmx K G l i
theorem kmx_s {K : Nat → Int} {G : Nat} {l : Nat → Nat} {i : Nat} : kmx K G l (i + 1) = if G.testBit i = true then max (kmx K G l i) (K (G &&& l i)) else kmx K G l i := rfl
def kbd (G : Nat) (l : Nat → Nat) : Nat → Bool
  | 0 => false
  | i + 1 => kbd G l i || (G.testBit i && decide (G &&& l i = G))
theorem kbd_s {G : Nat} {l : Nat → Nat} {i : Nat} : kbd G l (i + 1) = (kbd G l i || (G.testBit i && decide (G &&& l i = G))) := rfl
theorem kbd_up {G : Nat} {l : Nat → Nat} {i : Nat} (h : kbd G l i = true) : ∀ n, i ≤ n → kbd G l n = true := by
  intro n
  induction n with
  | zero => intro hn; have : i = 0 := by omega
            rw [← this]; exact h
  | succ n ih =>
    intro hn
    by_cases hi : i = n + 1
    · rw [← hi]; exact h
    · rw [kbd_s, ih (by omega), Bool.true_or]
theorem kbd_dn {G : Nat} {l : Nat → Nat} {i n : Nat} (h : kbd G l n = false) (hi : i ≤ n) : kbd G l i = false := by
  cases hk : kbd G l i
  · rfl
  · rw [kbd_up hk n hi] at h
    exact absurd h (by decide)
theorem kmx_up {K : Nat → Int} {G : Nat} {l : Nat → Nat} {i : Nat} : ∀ n, i ≤ n → kmx K G l i ≤ kmx K G l n := by
  intro n
  induction n with
  | zero => intro hn; have : i = 0 := by omega
            rw [this]; exact Int.le_refl _
  | succ n ih =>
    intro hn
    by_cases hi : i = n + 1
    · rw [hi]; exact Int.le_refl _
    · have := ih (by omega)
      rw [kmx_s]
      split <;> omega
/-- a part of a group that isn't all of it -/
theorem and_part {G x : Nat} {i : Nat} (hi : G.testBit i = true) (hx : x.testBit i = true) (h : ¬ G &&& x = G) : 1 ≤ G &&& x ∧ G &&& x < G := by
  have h1 : G &&& x ≤ G := Nat.and_le_left
  have h2 : (G &&& x).testBit i = true := by rw [Nat.testBit_and, hi, hx]; rfl
  have h3 : G &&& x ≠ 0 := by
    intro q
    rw [q, Nat.zero_testBit] at h2
    exact absurd h2 (by decide)
  omega
theorem kbd_at {G : Nat} {l : Nat → Nat} {n : Nat} (h : kbd G l n = false) {i : Nat} (hi : i < n) (hg : G.testBit i = true) : ¬ G &&& l i = G := by
  have := kbd_dn h (show i + 1 ≤ n from hi)
  rw [kbd_s, hg, Bool.true_and, Bool.or_eq_false_iff] at this
  exact of_decide_eq_false this.2
theorem kmx_rng {K : Nat → Int} {G : Nat} {l : Nat → Nat} (hK : ∀ k, 1 ≤ k → k < G → 0 ≤ K k ∧ K k ≤ 99) : ∀ n, (∀ i, i < n → (l i).testBit i = true) → kbd G l n = false → 0 ≤ kmx K G l n ∧ kmx K G l n ≤ 99 := by
  intro n
  induction n with
  | zero => intro _ _; show 0 ≤ (0 : Int) ∧ (0 : Int) ≤ 99; omega
  | succ n ih =>
    intro hl hb
    have h1 := ih (fun i hi => hl i (by omega)) (kbd_dn hb (by omega))
    rw [kmx_s]
    by_cases hg : G.testBit n = true
    · rw [if_pos hg]
      obtain ⟨q1, q2⟩ := and_part hg (hl n (by omega)) (kbd_at hb (by omega) hg)
      have := hK _ q1 q2
      omega
    · rw [if_neg hg]
      exact h1
theorem kmx_congr {K K' : Nat → Int} {G : Nat} {l : Nat → Nat} (hK : ∀ k, 1 ≤ k → k < G → K k = K' k) : ∀ n, (∀ i, i < n → (l i).testBit i = true) → kbd G l n = false → kmx K G l n = kmx K' G l n := by
  intro n
  induction n with
  | zero => intro _ _; rfl
  | succ n ih =>
    intro hl hb
    rw [kmx_s, kmx_s, ih (fun i hi => hl i (by omega)) (kbd_dn hb (by omega))]
    by_cases hg : G.testBit n = true
    · obtain ⟨q1, q2⟩ := and_part hg (hl n (by omega)) (kbd_at hb (by omega) hg)
      rw [if_pos hg, if_pos hg, hK _ q1 q2]
    · rw [if_neg hg, if_neg hg]
def kvl (K : Nat → Int) (G : Nat) (l : Nat → Nat) (n : Nat) : Int := if kbd G l n = true then 99 else if 99 ≤ kmx K G l n then 99 else kmx K G l n + 1
theorem kvl_congr {K K' : Nat → Int} {G : Nat} {l : Nat → Nat} {n : Nat} (hK : ∀ k, 1 ≤ k → k < G → K k = K' k) (hl : ∀ i, i < n → (l i).testBit i = true) : kvl K G l n = kvl K' G l n := by
  unfold kvl
  cases hb : kbd G l n
  · rw [kmx_congr hK n hl hb]
  · rfl
theorem kbl_l {G : Nat} {l l' : Nat → Nat} : ∀ n, (∀ i, i < n → l i = l' i) → kbd G l n = kbd G l' n := by
  intro n
  induction n with
  | zero => intro _; rfl
  | succ n ih => intro h; rw [kbd_s, kbd_s, ih fun i hi => h i (by omega), h n (by omega)]
theorem kmx_l {K : Nat → Int} {G : Nat} {l l' : Nat → Nat} : ∀ n, (∀ i, i < n → l i = l' i) → kmx K G l n = kmx K G l' n := by
  intro n
  induction n with
  | zero => intro _; rfl
  | succ n ih => intro h; rw [kmx_s, kmx_s, ih fun i hi => h i (by omega), h n (by omega)]
theorem kvl_l {K : Nat → Int} {G : Nat} {l l' : Nat → Nat} {n : Nat} (h : ∀ i, i < n → l i = l' i) : kvl K G l n = kvl K G l' n := by
  unfold kvl
  rw [kbl_l n h, kmx_l n h]
theorem kvl_rng {K : Nat → Int} {G : Nat} {l : Nat → Nat} {n : Nat} (hK : ∀ k, 1 ≤ k → k < G → 0 ≤ K k ∧ K k ≤ 99) (hl : ∀ i, i < n → (l i).testBit i = true) : 0 ≤ kvl K G l n ∧ kvl K G l n ≤ 99 := by
  unfold kvl
  cases hb : kbd G l n
  · have := kmx_rng hK n hl hb
    rw [if_neg (by decide)]
    split <;> omega
  · rw [if_pos rfl]
    omega
def kfw (K : Nat → Int) (G : Nat) (L : Nat → Nat → Nat) (n : Nat) : Nat → Int
  | 0 => 99
  | p + 1 => min (kfw K G L n p) (kvl K G (L p) n)
theorem kfw_s {K : Nat → Int} {G : Nat} {L : Nat → Nat → Nat} {n p : Nat} : kfw K G L n (p + 1) = min (kfw K G L n p) (kvl K G (L p) n) := rfl
theorem kfw_rng {K : Nat → Int} {G : Nat} {L : Nat → Nat → Nat} {n : Nat} (hK : ∀ k, 1 ≤ k → k < G → 0 ≤ K k ∧ K k ≤ 99) : ∀ N, (∀ p i, p < N → i < n → (L p i).testBit i = true) → 0 ≤ kfw K G L n N ∧ kfw K G L n N ≤ 99 := by
  intro N
  induction N with
  | zero => intro _; show 0 ≤ (99 : Int) ∧ (99 : Int) ≤ 99; omega
  | succ N ih =>
    intro hl
    have h1 := ih fun p i hp hi => hl p i (by omega) hi
    have h2 := kvl_rng (K := K) (G := G) (l := L N) (n := n) hK fun i hi => hl N i (by omega) hi
    rw [kfw_s]
    omega
theorem kfw_congr {K K' : Nat → Int} {G : Nat} {L L' : Nat → Nat → Nat} {n : Nat} (hK : ∀ k, 1 ≤ k → k < G → K k = K' k) : ∀ N, (∀ p i, p < N → i < n → (L p i).testBit i = true ∧ L p i = L' p i) → kfw K G L n N = kfw K' G L' n N := by
  intro N
  induction N with
  | zero => intro _; rfl
  | succ N ih =>
    intro hl
    rw [kfw_s, kfw_s, ih fun p i hp hi => hl p i (by omega) hi, kvl_congr hK fun i hi => (hl N i (by omega) hi).1, kvl_l fun i hi => (hl N i (by omega) hi).2]
def kst (K : Nat → Int) (G : Nat) (L : Nat → Nat → Nat) (n N : Nat) : Int := if cnt G 12 = 1 then 0 else kfw K G L n N
theorem kst_congr {K K' : Nat → Int} {G : Nat} {L L' : Nat → Nat → Nat} {n N : Nat} (hK : ∀ k, 1 ≤ k → k < G → K k = K' k) (hl : ∀ p i, p < N → i < n → (L p i).testBit i = true ∧ L p i = L' p i) : kst K G L n N = kst K' G L' n N := by
  unfold kst
  rw [kfw_congr hK N hl]
theorem kst_rng {K : Nat → Int} {G : Nat} {L : Nat → Nat → Nat} {n N : Nat} (hK : ∀ k, 1 ≤ k → k < G → 0 ≤ K k ∧ K k ≤ 99) (hl : ∀ p i, p < N → i < n → (L p i).testBit i = true) : 0 ≤ kst K G L n N ∧ kst K G L n N ≤ 99 := by
  unfold kst
  split
  · omega
  · exact kfw_rng hK N hl
def ktb (L : Nat → Nat → Nat) (n N : Nat) : Nat → Nat → Int
  | 0 => fun _ => 0
  | G + 1 => fun k => if k = G + 1 then kst (ktb L n N G) (G + 1) L n N else ktb L n N G k
theorem ktb_s {L : Nat → Nat → Nat} {n N G k : Nat} : ktb L n N (G + 1) k = if k = G + 1 then kst (ktb L n N G) (G + 1) L n N else ktb L n N G k := rfl
theorem ktb_rng {L : Nat → Nat → Nat} {n N : Nat} (hl : ∀ p i, p < N → i < n → (L p i).testBit i = true) : ∀ G k, 0 ≤ ktb L n N G k ∧ ktb L n N G k ≤ 99 := by
  intro G
  induction G with
  | zero => intro k; show 0 ≤ (0 : Int) ∧ (0 : Int) ≤ 99; omega
  | succ G ih =>
    intro k
    rw [ktb_s]
    split
    · exact kst_rng (fun k _ _ => ih k) hl
    · exact ih k
theorem ktb_congr {L L' : Nat → Nat → Nat} {n N : Nat} (hl : ∀ p i, p < N → i < n → (L p i).testBit i = true ∧ L p i = L' p i) : ∀ G k, ktb L n N G k = ktb L' n N G k := by
  intro G
  induction G with
  | zero => intro k; rfl
  | succ G ih =>
    intro k
    rw [ktb_s, ktb_s, kst_congr (K' := ktb L' n N G) (fun k _ _ => ih k) hl, ih k]
/-- the sets that are heard alike at a place -/
def Lf (g : Nat → Int) (f : Nat → Nat) (n p i : Nat) : Nat := msk (fun j => tnt g p (tri (f j) p)) (tnt g p (tri (f i) p)) n
theorem Lf_bit {g : Nat → Int} {f : Nat → Nat} {n p i : Nat} (hi : i < n) : (Lf g f n p i).testBit i = true := by
  unfold Lf
  rw [msk_bit, decide_eq_true hi, decide_eq_true rfl]
  rfl
theorem Lf_congr {g : Nat → Int} {f f' : Nat → Nat} {n p i : Nat} (hi : i < n) (h : ∀ j, j < n → f j = f' j) : Lf g f n p i = Lf g f' n p i := by
  unfold Lf
  rw [h i hi]
  exact msk_congr n fun j hj => by rw [h j hj]
noncomputable def nthf (Q : Nat → Bool) (b j : Nat) : Nat := if h : ∃ t, t < b ∧ Q t = true ∧ cf Q t = j then Classical.choose h else 0
theorem nthf_eq {Q : Nat → Bool} {b j t : Nat} (h1 : t < b) (h2 : Q t = true) (h3 : cf Q t = j) : nthf Q b j = t := by
  have h : ∃ t, t < b ∧ Q t = true ∧ cf Q t = j := ⟨t, h1, h2, h3⟩
  unfold nthf
  rw [dif_pos h]
  obtain ⟨k1, k2, k3⟩ := Classical.choose_spec h
  rcases Nat.lt_trichotomy (Classical.choose h) t with q | q | q
  · have := cf_lt q k2; omega
  · exact q
  · have := cf_lt q h2; omega
def ndk (L : Nat → Nat → Nat) (n N : Nat) : Int := if 99 ≤ ktb L n N (2 ^ n - 1) (2 ^ n - 1) then -1 else ktb L n N (2 ^ n - 1) (2 ^ n - 1)
noncomputable def ndv (g f : Nat → Int) : Int := if cf (ftq g f) (may g + 1) = 0 then -1 else if 10 < cf (ftq g f) (may g + 1) then -4 else ndk (Lf g (nthf (ftq g f) (may g + 1)) (cf (ftq g f) (may g + 1))) (cf (ftq g f) (may g + 1)) (g 0).toNat
theorem ndv_congr {g f f' : Nat → Int} (h : ∀ p : Nat, (p : Int) < g 0 → f p = f' p) : ndv g f = ndv g f' := by
  unfold ndv
  rw [ftq_congr h]
theorem u_112_26 {Q : List am_V → am_M → Prop} {m : am_M} {n : Int} {p : Int} {i : Int} {x : Int} {j : Int}  (H : ((am_s n ≤ am_s j) → (0 ≤ am_s ((p * 10) + i) ∧ am_s ((p * 10) + i) < (120 : Nat)) ∧ (ok 2 112 15 [some (.inr (.inr (some 34))), some (.inl n), some (.inl p), some (.inl (i + 1)), none, none] [] (mu m 39 ((am_s ((p * 10) + i)).toNat) x) Q)) ∧ ((¬ (am_s n ≤ am_s j)) → (0 ≤ am_s i ∧ am_s i < (10 : Nat)) ∧ (((0 ≤ p ∧ p < 12) ∧ 0 ≤ (m 38 ((am_s i).toNat)) ∧ (m 38 ((am_s i).toNat)) < 8192) ∧ ((0 ≤ am_s j ∧ am_s j < (10 : Nat)) ∧ (((0 ≤ p ∧ p < 12) ∧ 0 ≤ (m 38 ((am_s j).toNat)) ∧ (m 38 ((am_s j).toNat)) < 8192) ∧ (((¬ am_s ((m 35 (8 * p.toNat + tri (m 38 ((am_s i).toNat)).toNat p.toNat))) = am_s ((m 35 (8 * p.toNat + tri (m 38 ((am_s j).toNat)).toNat p.toNat)))) → ok 2 112 26 [some (.inr (.inr (some 34))), some (.inl n), some (.inl p), some (.inl i), some (.inl x), some (.inl (j + 1))] [] m Q) ∧ ((am_s ((m 35 (8 * p.toNat + tri (m 38 ((am_s i).toNat)).toNat p.toNat))) = am_s ((m 35 (8 * p.toNat + tri (m 38 ((am_s j).toNat)).toNat p.toNat)))) → ok 2 112 26 [some (.inr (.inr (some 34))), some (.inl n), some (.inl p), some (.inl i), some (.inl (am_or x (am_shl 1 j))), some (.inl (j + 1))] [] m Q))))))) : ok 2 112 26 [some (.inr (.inr (some 34))), some (.inl n), some (.inl p), some (.inl i), some (.inl x), some (.inl j)] [] m Q := by
  refine ok_sg (pc' := 29) (ls' := [some (.inr (.inr (some 34))), some (.inl n), some (.inl p), some (.inl i), some (.inl x), some (.inl j)]) (st' := [.inl n, .inl j]) (m' := m) (fun fx hfx o hk => ?_) ?_
  · refine r_ld (pc' := 28) hM_112 d_112_26 rfl rfl ?_
    refine r_ld (pc' := 29) hM_112 d_112_28 rfl rfl ?_
    exact hk
  refine ok_ic (pc' := 73) (pc2 := 32) hM_112 d_112_29 (by decide) rfl (fun hz1 => ?_) (fun hz1 => ?_)
  · have H := H.1 hz1
    obtain ⟨hz2, H⟩ := H
    refine ok_sg (pc' := 15) (ls' := [some (.inr (.inr (some 34))), some (.inl n), some (.inl p), some (.inl (i + 1)), none, none]) (st' := []) (m' := mu m 39 ((am_s ((p * 10) + i)).toNat) x) (fun fx hfx o hk => ?_) ?_
    · refine r_ld (pc' := 74) hM_112 d_112_73 rfl rfl ?_
      refine r_gR (pc' := 77) (v := 39) hM_112 d_112_74 rfl (by decide +kernel) ?_
      refine r_ld (pc' := 78) hM_112 d_112_77 rfl rfl ?_
      refine r_k (pc' := 80) (v := .inl 10) hM_112 d_112_78 rfl rfl ?_
      refine r_b (pc' := 81) (z := (p * 10)) hM_112 d_112_80 rfl rfl ?_
      refine r_ld (pc' := 82) hM_112 d_112_81 rfl rfl ?_
      refine r_b (pc' := 83) (z := ((p * 10) + i)) hM_112 d_112_82 rfl rfl ?_
      refine r_ld (pc' := 85) hM_112 d_112_83 rfl rfl ?_
      refine r_is (pc' := 86) (n := 120) hM_112 d_112_85 rfl rfl hz2 ?_
      refine r_sto (pc' := 89) (ls' := [some (.inr (.inr (some 34))), some (.inl n), some (.inl p), some (.inl (i + 1)), some (.inl x), some (.inl j)]) hM_112 d_112_86 rfl rfl ?_
      refine r_go (pc' := 15) hM_112 d_112_89 (by decide) ?_
      refine rn_wk (a := [some (.inr (.inr (some 34))), some (.inl n), some (.inl p), some (.inl (i + 1)), none, none]) (by simp only [am_le, and_self]) ?_
      exact hk
    exact H
  · have H := H.2 hz1
    obtain ⟨hz3, H⟩ := H
    obtain ⟨hz4, H⟩ := H
    obtain ⟨hz5, H⟩ := H
    obtain ⟨hz6, H⟩ := H
    refine ok_sg (pc' := 55) (ls' := [some (.inr (.inr (some 34))), some (.inl n), some (.inl p), some (.inl i), some (.inl x), some (.inl j)]) (st' := [.inl ((m 35 (8 * p.toNat + tri (m 38 ((am_s j).toNat)).toNat p.toNat))), .inl ((m 35 (8 * p.toNat + tri (m 38 ((am_s i).toNat)).toNat p.toNat)))]) (m' := m) (fun fx hfx o hk => ?_) ?_
    · refine r_ld (pc' := 33) hM_112 d_112_32 rfl rfl ?_
      refine r_ld (pc' := 34) hM_112 d_112_33 rfl rfl ?_
      refine r_ld (pc' := 35) hM_112 d_112_34 rfl rfl ?_
      refine r_gR (pc' := 38) (v := 38) hM_112 d_112_35 rfl (by decide +kernel) ?_
      refine r_ld (pc' := 39) hM_112 d_112_38 rfl rfl ?_
      refine r_ia (pc' := 40) (n := 10) hM_112 d_112_39 rfl rfl hz3 ?_
      refine r_cl (pc' := 43) (c := (101, 0)) (a := [.inr (.inr (some 34)), .inl p, .inl (m 38 ((am_s i).toNat))]) (q := []) hM_112 d_112_40 rfl (by decide +kernel) hM_101 rfl rfl rfl (Nat.le_of_ble_eq_true rfl) (Nat.le_of_ble_eq_true rfl) (Or.inr rfl) (n_101  m p (m 38 ((am_s i).toNat)) hz4) (Nat.le_of_ble_eq_true rfl) ?_
      show rn fx 2 (0, 0) 112 43 [some (.inr (.inr (some 34))), some (.inl n), some (.inl p), some (.inl i), some (.inl x), some (.inl j)] [.inl ((m 35 (8 * p.toNat + tri (m 38 ((am_s i).toNat)).toNat p.toNat)))] (st0 m) o
      refine r_ld (pc' := 44) hM_112 d_112_43 rfl rfl ?_
      refine r_ld (pc' := 45) hM_112 d_112_44 rfl rfl ?_
      refine r_ld (pc' := 46) hM_112 d_112_45 rfl rfl ?_
      refine r_gR (pc' := 49) (v := 38) hM_112 d_112_46 rfl (by decide +kernel) ?_
      refine r_ld (pc' := 51) hM_112 d_112_49 rfl rfl ?_
      refine r_ia (pc' := 52) (n := 10) hM_112 d_112_51 rfl rfl hz5 ?_
      refine r_cl (pc' := 55) (c := (101, 0)) (a := [.inr (.inr (some 34)), .inl p, .inl (m 38 ((am_s j).toNat))]) (q := [.inl ((m 35 (8 * p.toNat + tri (m 38 ((am_s i).toNat)).toNat p.toNat)))]) hM_112 d_112_52 rfl (by decide +kernel) hM_101 rfl rfl rfl (Nat.le_of_ble_eq_true rfl) (Nat.le_of_ble_eq_true rfl) (Or.inr rfl) (n_101  m p (m 38 ((am_s j).toNat)) hz6) (Nat.le_of_ble_eq_true rfl) ?_
      show rn fx 2 (0, 0) 112 55 [some (.inr (.inr (some 34))), some (.inl n), some (.inl p), some (.inl i), some (.inl x), some (.inl j)] [.inl ((m 35 (8 * p.toNat + tri (m 38 ((am_s j).toNat)).toNat p.toNat))), .inl ((m 35 (8 * p.toNat + tri (m 38 ((am_s i).toNat)).toNat p.toNat)))] (st0 m) o
      exact hk
    refine ok_ic (pc' := 67) (pc2 := 58) hM_112 d_112_55 (by decide) rfl (fun hz7 => ?_) (fun hz7 => ?_)
    · have H := H.1 hz7
      refine ok_sg (pc' := 26) (ls' := [some (.inr (.inr (some 34))), some (.inl n), some (.inl p), some (.inl i), some (.inl x), some (.inl (j + 1))]) (st' := []) (m' := m) (fun fx hfx o hk => ?_) ?_
      · refine r_sto (pc' := 70) (ls' := [some (.inr (.inr (some 34))), some (.inl n), some (.inl p), some (.inl i), some (.inl x), some (.inl (j + 1))]) hM_112 d_112_67 rfl rfl ?_
        refine r_go (pc' := 26) hM_112 d_112_70 (by decide) ?_
        exact hk
      exact H
    · have H := H.2 (Decidable.not_not.mp hz7)
      refine ok_sg (pc' := 26) (ls' := [some (.inr (.inr (some 34))), some (.inl n), some (.inl p), some (.inl i), some (.inl (am_or x (am_shl 1 j))), some (.inl (j + 1))]) (st' := []) (m' := m) (fun fx hfx o hk => ?_) ?_
      · refine r_ld (pc' := 60) hM_112 d_112_58 rfl rfl ?_
        refine r_k (pc' := 61) (v := .inl 1) hM_112 d_112_60 rfl rfl ?_
        refine r_ld (pc' := 63) hM_112 d_112_61 rfl rfl ?_
        refine r_b (pc' := 64) (z := (am_shl 1 j)) hM_112 d_112_63 rfl rfl ?_
        refine r_b (pc' := 65) (z := (am_or x (am_shl 1 j))) hM_112 d_112_64 rfl rfl ?_
        refine r_sto (pc' := 67) (ls' := [some (.inr (.inr (some 34))), some (.inl n), some (.inl p), some (.inl i), some (.inl (am_or x (am_shl 1 j))), some (.inl j)]) hM_112 d_112_65 rfl rfl ?_
        refine r_sto (pc' := 70) (ls' := [some (.inr (.inr (some 34))), some (.inl n), some (.inl p), some (.inl i), some (.inl (am_or x (am_shl 1 j))), some (.inl (j + 1))]) hM_112 d_112_67 rfl rfl ?_
        refine r_go (pc' := 26) hM_112 d_112_70 (by decide) ?_
        exact hk
      exact H
theorem u_112_15 {Q : List am_V → am_M → Prop} {m : am_M} {n : Int} {p : Int} {i : Int}  (H : ((am_s n ≤ am_s i) → ok 2 112 2 [some (.inr (.inr (some 34))), some (.inl n), some (.inl (p + 1)), none, none, none] [] m Q) ∧ ((¬ (am_s n ≤ am_s i)) → ok 2 112 26 [some (.inr (.inr (some 34))), some (.inl n), some (.inl p), some (.inl i), some (.inl 0), some (.inl 0)] [] m Q)) : ok 2 112 15 [some (.inr (.inr (some 34))), some (.inl n), some (.inl p), some (.inl i), none, none] [] m Q := by
  refine ok_sg (pc' := 17) (ls' := [some (.inr (.inr (some 34))), some (.inl n), some (.inl p), some (.inl i), none, none]) (st' := [.inl n, .inl i]) (m' := m) (fun fx hfx o hk => ?_) ?_
  · refine r_ld (pc' := 16) hM_112 d_112_15 rfl rfl ?_
    refine r_ld (pc' := 17) hM_112 d_112_16 rfl rfl ?_
    exact hk
  refine ok_ic (pc' := 92) (pc2 := 20) hM_112 d_112_17 (by decide) rfl (fun hz1 => ?_) (fun hz1 => ?_)
  · have H := H.1 hz1
    refine ok_sg (pc' := 2) (ls' := [some (.inr (.inr (some 34))), some (.inl n), some (.inl (p + 1)), none, none, none]) (st' := []) (m' := m) (fun fx hfx o hk => ?_) ?_
    · refine r_sto (pc' := 95) (ls' := [some (.inr (.inr (some 34))), some (.inl n), some (.inl (p + 1)), some (.inl i), none, none]) hM_112 d_112_92 rfl rfl ?_
      refine r_go (pc' := 2) hM_112 d_112_95 (by decide) ?_
      refine rn_wk (a := [some (.inr (.inr (some 34))), some (.inl n), some (.inl (p + 1)), none, none, none]) (by simp only [am_le, and_self]) ?_
      exact hk
    exact H
  · have H := H.2 hz1
    refine ok_sg (pc' := 26) (ls' := [some (.inr (.inr (some 34))), some (.inl n), some (.inl p), some (.inl i), some (.inl 0), some (.inl 0)]) (st' := []) (m' := m) (fun fx hfx o hk => ?_) ?_
    · refine r_k (pc' := 21) (v := .inl 0) hM_112 d_112_20 rfl rfl ?_
      refine r_sto (pc' := 23) (ls' := [some (.inr (.inr (some 34))), some (.inl n), some (.inl p), some (.inl i), some (.inl 0), none]) hM_112 d_112_21 rfl rfl ?_
      refine r_k (pc' := 24) (v := .inl 0) hM_112 d_112_23 rfl rfl ?_
      refine r_sto (pc' := 26) (ls' := [some (.inr (.inr (some 34))), some (.inl n), some (.inl p), some (.inl i), some (.inl 0), some (.inl 0)]) hM_112 d_112_24 rfl rfl ?_
      exact hk
    exact H
theorem u_112_2 {Q : List am_V → am_M → Prop} {m : am_M} {n : Int} {p : Int}  (H : ((am_s (m 2 4) ≤ am_s p) → Q [] m) ∧ ((¬ (am_s (m 2 4) ≤ am_s p)) → ok 2 112 15 [some (.inr (.inr (some 34))), some (.inl n), some (.inl p), some (.inl 0), none, none] [] m Q)) : ok 2 112 2 [some (.inr (.inr (some 34))), some (.inl n), some (.inl p), none, none, none] [] m Q := by
  refine ok_sg (pc' := 10) (ls' := [some (.inr (.inr (some 34))), some (.inl n), some (.inl p), none, none, none]) (st' := [.inl (m 2 4), .inl p]) (m' := m) (fun fx hfx o hk => ?_) ?_
  · refine r_ld (pc' := 3) hM_112 d_112_2 rfl rfl ?_
    refine r_ld (pc' := 4) hM_112 d_112_3 rfl rfl ?_
    refine r_gR (pc' := 7) (v := 2) hM_112 d_112_4 rfl (by decide +kernel) ?_
    refine r_gI (pc' := 10) (k0 := 4) hM_112 d_112_7 rfl (by decide +kernel) ?_
    exact hk
  refine ok_ic (pc' := 98) (pc2 := 13) hM_112 d_112_10 (by decide) rfl (fun hz1 => ?_) (fun hz1 => ?_)
  · have H := H.1 hz1
    exact ok_rt (fun fx _ => rt_v hM_112 d_112_98 rfl) H
  · have H := H.2 hz1
    refine ok_sg (pc' := 15) (ls' := [some (.inr (.inr (some 34))), some (.inl n), some (.inl p), some (.inl 0), none, none]) (st' := []) (m' := m) (fun fx hfx o hk => ?_) ?_
    · refine r_k (pc' := 14) (v := .inl 0) hM_112 d_112_13 rfl rfl ?_
      refine r_sto (pc' := 15) (ls' := [some (.inr (.inr (some 34))), some (.inl n), some (.inl p), some (.inl 0), none, none]) hM_112 d_112_14 rfl rfl ?_
      exact hk
    exact H
theorem u_112_0 {Q : List am_V → am_M → Prop} {m : am_M} {n : Int}  (H : ok 2 112 2 [some (.inr (.inr (some 34))), some (.inl n), some (.inl 0), none, none, none] [] m Q) : ok 2 112 0 [some (.inr (.inr (some 34))), some (.inl n), none, none, none, none] [] m Q := by
  refine ok_sg (pc' := 2) (ls' := [some (.inr (.inr (some 34))), some (.inl n), some (.inl 0), none, none, none]) (st' := []) (m' := m) (fun fx hfx o hk => ?_) ?_
  · refine r_k (pc' := 1) (v := .inl 0) hM_112 d_112_0 rfl rfl ?_
    refine r_sto (pc' := 2) (ls' := [some (.inr (.inr (some 34))), some (.inl n), some (.inl 0), none, none, none]) hM_112 d_112_1 rfl rfl ?_
    exact hk
  exact H
theorem z_112   (m : am_M) (n : Int) (hq : (0 ≤ m 2 4 ∧ m 2 4 ≤ 12) ∧ (0 ≤ n ∧ n ≤ 10) ∧ (∀ j : Nat, (j : Int) < n → 0 ≤ m 38 j ∧ m 38 j < 4096) ∧ ∀ p t : Nat, (p : Int) < m 2 4 → t < 8 → am_s (m 35 (8 * p + t)) = m 35 (8 * p + t)) : ok 2 112 0 (am_ent 6 [.inr (.inr (some 34)), .inl n]) [] m (fun rr m' => rr = [] ∧ (∀ p i : Nat, (p : Int) < m 2 4 → (i : Int) < n → m' 39 (10 * p + i) = ((msk (fun j => m 35 (8 * p + tri (m 38 j).toNat p)) (m 35 (8 * p + tri (m 38 i).toNat p)) n.toNat : Nat) : Int)) ∧ ∀ a, a ≠ 39 → m' a = m a) := by
  show ok 2 112 0 [some (.inr (.inr (some 34))), some (.inl n), none, none, none, none] [] m _
  obtain ⟨hN, hn, hf, hT⟩ := hq
  obtain ⟨K, rfl⟩ : ∃ K : Nat, n = (K : Int) := ⟨n.toNat, by omega⟩
  rw [Int.toNat_natCast]
  have eK : am_s (K : Int) = (K : Int) := am_s_id (by omega) (by omega)
  have eN : am_s (m 2 4) = m 2 4 := am_s_id (by omega) (by omega)
  refine u_112_0 ?_
  refine ok_for (σ := Unit) (fun p _ => [some (.inr (.inr (some 34))), some (.inl (K : Int)), some (.inl (p : Int)), none, none, none]) (fun p _ M => (∀ p' i : Nat, p' < p → i < K → M 39 (10 * p' + i) = ((msk (fun j => m 35 (8 * p' + tri (m 38 j).toNat p')) (m 35 (8 * p' + tri (m 38 i).toNat p')) K : Nat) : Int)) ∧ ∀ a, a ≠ 39 → M a = m a) (m 2 4).toNat ?_ ?_ () m ⟨fun p' i h => absurd h (Nat.not_lt_zero _), fun _ _ => rfl⟩
  · rintro p hp - M ⟨h1, h2⟩ IH
    refine u_112_2 ?_
    rw [h2 2 (by decide), eN, am_s_id (z := (p : Int)) (by omega) (by omega)]
    refine ⟨fun q => by omega, fun _ => ?_⟩
    refine ok_for (σ := Unit) (fun i _ => [some (.inr (.inr (some 34))), some (.inl (K : Int)), some (.inl (p : Int)), some (.inl (i : Int)), none, none]) (fun i _ M => (∀ p' i' : Nat, p' < p ∨ (p' = p ∧ i' < i) → i' < K → M 39 (10 * p' + i') = ((msk (fun j => m 35 (8 * p' + tri (m 38 j).toNat p')) (m 35 (8 * p' + tri (m 38 i').toNat p')) K : Nat) : Int)) ∧ ∀ a, a ≠ 39 → M a = m a) K ?_ ?_ () M ⟨fun p' i' h hi => h1 p' i' (by omega) hi, h2⟩
    · rintro i hi - M1 ⟨k1, k2⟩ IH2
      have a1 := hf i (by omega)
      refine u_112_15 ?_
      rw [eK, am_s_id (z := (i : Int)) (by omega) (by omega)]
      refine ⟨fun q => by omega, fun _ => ?_⟩
      refine ok_for (σ := Unit) (fun j _ => [some (.inr (.inr (some 34))), some (.inl (K : Int)), some (.inl (p : Int)), some (.inl (i : Int)), some (.inl ((msk (fun j => m 35 (8 * p + tri (m 38 j).toNat p)) (m 35 (8 * p + tri (m 38 i).toNat p)) j : Nat) : Int)), some (.inl (j : Int))]) (fun j _ M2 => M2 = M1) K ?_ ?_ () M1 rfl
      · rintro j hj - M2 rfl IH3
        have a2 := hf j (by omega)
        have hml := msk_lt (fun j => m 35 (8 * p + tri (m 38 j).toNat p)) (m 35 (8 * p + tri (m 38 i).toNat p)) j
        refine u_112_26 ?_
        rw [eK, am_s_id (z := (i : Int)) (by omega) (by omega), am_s_id (z := (j : Int)) (by omega) (by omega), Int.toNat_natCast, Int.toNat_natCast, Int.toNat_natCast, k2 38 (by decide), k2 35 (by decide), hT p _ (by omega) (tri_lt _ _), hT p _ (by omega) (tri_lt _ _)]
        have := IH3 () M2 rfl
        rw [msk_s] at this
        refine ⟨fun q => by omega, fun _ => ⟨by omega, ⟨by omega, by omega⟩, by omega, ⟨by omega, by omega⟩, fun q => ?_, fun q => ?_⟩⟩
        · rw [if_neg (fun k => q k.symm)] at this
          exact this
        · rw [if_pos q.symm] at this
          rw [bx_or2 hml (by omega)]
          exact this
      · rintro - M2 rfl
        have e1 : am_s ((p : Int) * 10 + (i : Int)) = (p : Int) * 10 + (i : Int) := am_s_id (by omega) (by omega)
        have e2 : ((p : Int) * 10 + (i : Int)).toNat = 10 * p + i := by omega
        refine u_112_26 ?_
        rw [eK, e1, e2]
        refine ⟨fun _ => ⟨by omega, IH2 () _ ⟨fun p' i' h hi' => ?_, fun a ha => by rw [mu_rf ha]; exact k2 a ha⟩⟩, fun q => by omega⟩
        rw [mu_if]
        by_cases hh : p' = p ∧ i' = i
        · rw [if_pos (by omega), hh.1, hh.2]
        · rw [if_neg (by omega)]
          exact k1 p' i' (by omega) hi'
    · rintro - M1 ⟨k1, k2⟩
      refine u_112_15 ?_
      rw [eK]
      exact ⟨fun _ => IH () M1 ⟨fun p' i h hi => k1 p' i (by omega) hi, k2⟩, fun q => by omega⟩
  · rintro - M ⟨h1, h2⟩
    refine u_112_2 ?_
    rw [h2 2 (by decide), eN, am_s_id (z := (((m 2 4).toNat : Nat) : Int)) (by omega) (by omega)]
    exact ⟨fun _ => ⟨rfl, fun p i hp hi => h1 p i (by omega) (by omega), h2⟩, fun q => by omega⟩
theorem u_113_34 {Q : List am_V → am_M → Prop} {m : am_M} {g : Int} {n : Int} {f : Int} {p : Int} {x : Int} {i : Int}  (H : ((am_s n ≤ am_s i) → ok 1 113 16 [some (.inr (.inr (some 34))), some (.inl g), some (.inl n), some (.inl (v_14 m f (x + 1))), some (.inl (p + 1)), none, none, none] [] m Q) ∧ ((¬ (am_s n ≤ am_s i)) → ((am_s f ≤ am_s x) → ok 1 113 16 [some (.inr (.inr (some 34))), some (.inl g), some (.inl n), some (.inl (v_14 m f (x + 1))), some (.inl (p + 1)), none, none, none] [] m Q) ∧ ((¬ (am_s f ≤ am_s x)) → ((¬ am_s (am_and (am_shr g i) 1) = 0) → (0 ≤ am_s ((p * 10) + i) ∧ am_s ((p * 10) + i) < (120 : Nat)) ∧ (((¬ am_s (am_and g (m 39 ((am_s ((p * 10) + i)).toNat))) = am_s g) → (0 ≤ am_s (am_and g (m 39 ((am_s ((p * 10) + i)).toNat))) ∧ am_s (am_and g (m 39 ((am_s ((p * 10) + i)).toNat))) < (1024 : Nat))) ∧ (∀ y1 : Int, y1 = (if ¬ am_s (am_and g (m 39 ((am_s ((p * 10) + i)).toNat))) = am_s g then (v_74 m x (m 40 ((am_s (am_and g (m 39 ((am_s ((p * 10) + i)).toNat)))).toNat))) else 99) → ok 1 113 34 [some (.inr (.inr (some 34))), some (.inl g), some (.inl n), some (.inl f), some (.inl p), some (.inl y1), some (.inl (i + 1)), none] [] m Q))) ∧ ((am_s (am_and (am_shr g i) 1) = 0) → ok 1 113 34 [some (.inr (.inr (some 34))), some (.inl g), some (.inl n), some (.inl f), some (.inl p), some (.inl x), some (.inl (i + 1)), none] [] m Q)))) : ok 1 113 34 [some (.inr (.inr (some 34))), some (.inl g), some (.inl n), some (.inl f), some (.inl p), some (.inl x), some (.inl i), none] [] m Q := by
  refine ok_sg (pc' := 37) (ls' := [some (.inr (.inr (some 34))), some (.inl g), some (.inl n), some (.inl f), some (.inl p), some (.inl x), some (.inl i), none]) (st' := [.inl n, .inl i]) (m' := m) (fun fx hfx o hk => ?_) ?_
  · refine r_ld (pc' := 36) hM_113 d_113_34 rfl rfl ?_
    refine r_ld (pc' := 37) hM_113 d_113_36 rfl rfl ?_
    exact hk
  refine ok_ic (pc' := 106) (pc2 := 40) hM_113 d_113_37 (by decide) rfl (fun hz1 => ?_) (fun hz1 => ?_)
  · have H := H.1 hz1
    refine ok_sg (pc' := 16) (ls' := [some (.inr (.inr (some 34))), some (.inl g), some (.inl n), some (.inl (v_14 m f (x + 1))), some (.inl (p + 1)), none, none, none]) (st' := []) (m' := m) (fun fx hfx o hk => ?_) ?_
    · refine r_ld (pc' := 107) hM_113 d_113_106 rfl rfl ?_
      refine r_ld (pc' := 109) hM_113 d_113_107 rfl rfl ?_
      refine r_k (pc' := 110) (v := .inl 1) hM_113 d_113_109 rfl rfl ?_
      refine r_b (pc' := 111) (z := (x + 1)) hM_113 d_113_110 rfl rfl ?_
      refine r_cl (pc' := 114) (c := (14, 2)) (a := [.inl f, .inl (x + 1)]) (q := []) hM_113 d_113_111 rfl (by decide +kernel) hM_14 rfl rfl rfl (Nat.le_of_ble_eq_true rfl) (Nat.le_of_ble_eq_true rfl) (Or.inl rfl) (c_14  m f (x + 1)) (Nat.le_of_ble_eq_true rfl) ?_
      show rn fx 1 (0, 0) 113 114 [some (.inr (.inr (some 34))), some (.inl g), some (.inl n), some (.inl f), some (.inl p), some (.inl x), some (.inl i), none] [.inl (v_14 m f (x + 1))] (st0 m) o
      refine r_sto (pc' := 115) (ls' := [some (.inr (.inr (some 34))), some (.inl g), some (.inl n), some (.inl (v_14 m f (x + 1))), some (.inl p), some (.inl x), some (.inl i), none]) hM_113 d_113_114 rfl rfl ?_
      refine r_sto (pc' := 118) (ls' := [some (.inr (.inr (some 34))), some (.inl g), some (.inl n), some (.inl (v_14 m f (x + 1))), some (.inl (p + 1)), some (.inl x), some (.inl i), none]) hM_113 d_113_115 rfl rfl ?_
      refine r_go (pc' := 16) hM_113 d_113_118 (by decide) ?_
      refine rn_wk (a := [some (.inr (.inr (some 34))), some (.inl g), some (.inl n), some (.inl (v_14 m f (x + 1))), some (.inl (p + 1)), none, none, none]) (by simp only [am_le, and_self]) ?_
      exact hk
    exact H
  · have H := H.2 hz1
    refine ok_sg (pc' := 43) (ls' := [some (.inr (.inr (some 34))), some (.inl g), some (.inl n), some (.inl f), some (.inl p), some (.inl x), some (.inl i), none]) (st' := [.inl f, .inl x]) (m' := m) (fun fx hfx o hk => ?_) ?_
    · refine r_ld (pc' := 42) hM_113 d_113_40 rfl rfl ?_
      refine r_ld (pc' := 43) hM_113 d_113_42 rfl rfl ?_
      exact hk
    refine ok_ic (pc' := 106) (pc2 := 46) hM_113 d_113_43 (by decide) rfl (fun hz2 => ?_) (fun hz2 => ?_)
    · have H := H.1 hz2
      refine ok_sg (pc' := 16) (ls' := [some (.inr (.inr (some 34))), some (.inl g), some (.inl n), some (.inl (v_14 m f (x + 1))), some (.inl (p + 1)), none, none, none]) (st' := []) (m' := m) (fun fx hfx o hk => ?_) ?_
      · refine r_ld (pc' := 107) hM_113 d_113_106 rfl rfl ?_
        refine r_ld (pc' := 109) hM_113 d_113_107 rfl rfl ?_
        refine r_k (pc' := 110) (v := .inl 1) hM_113 d_113_109 rfl rfl ?_
        refine r_b (pc' := 111) (z := (x + 1)) hM_113 d_113_110 rfl rfl ?_
        refine r_cl (pc' := 114) (c := (14, 2)) (a := [.inl f, .inl (x + 1)]) (q := []) hM_113 d_113_111 rfl (by decide +kernel) hM_14 rfl rfl rfl (Nat.le_of_ble_eq_true rfl) (Nat.le_of_ble_eq_true rfl) (Or.inl rfl) (c_14  m f (x + 1)) (Nat.le_of_ble_eq_true rfl) ?_
        show rn fx 1 (0, 0) 113 114 [some (.inr (.inr (some 34))), some (.inl g), some (.inl n), some (.inl f), some (.inl p), some (.inl x), some (.inl i), none] [.inl (v_14 m f (x + 1))] (st0 m) o
        refine r_sto (pc' := 115) (ls' := [some (.inr (.inr (some 34))), some (.inl g), some (.inl n), some (.inl (v_14 m f (x + 1))), some (.inl p), some (.inl x), some (.inl i), none]) hM_113 d_113_114 rfl rfl ?_
        refine r_sto (pc' := 118) (ls' := [some (.inr (.inr (some 34))), some (.inl g), some (.inl n), some (.inl (v_14 m f (x + 1))), some (.inl (p + 1)), some (.inl x), some (.inl i), none]) hM_113 d_113_115 rfl rfl ?_
        refine r_go (pc' := 16) hM_113 d_113_118 (by decide) ?_
        refine rn_wk (a := [some (.inr (.inr (some 34))), some (.inl g), some (.inl n), some (.inl (v_14 m f (x + 1))), some (.inl (p + 1)), none, none, none]) (by simp only [am_le, and_self]) ?_
        exact hk
      exact H
    · have H := H.2 hz2
      refine ok_sg (pc' := 52) (ls' := [some (.inr (.inr (some 34))), some (.inl g), some (.inl n), some (.inl f), some (.inl p), some (.inl x), some (.inl i), none]) (st' := [.inl (am_and (am_shr g i) 1)]) (m' := m) (fun fx hfx o hk => ?_) ?_
      · refine r_ld (pc' := 47) hM_113 d_113_46 rfl rfl ?_
        refine r_ld (pc' := 49) hM_113 d_113_47 rfl rfl ?_
        refine r_b (pc' := 50) (z := (am_shr g i)) hM_113 d_113_49 rfl rfl ?_
        refine r_k (pc' := 51) (v := .inl 1) hM_113 d_113_50 rfl rfl ?_
        refine r_b (pc' := 52) (z := (am_and (am_shr g i) 1)) hM_113 d_113_51 rfl rfl ?_
        exact hk
      refine ok_if (pc' := 58) (pc2 := 55) hM_113 d_113_52 (by decide) rfl (fun hz3 => ?_) (fun hz3 => ?_)
      · have H := H.1 hz3
        obtain ⟨hz4, H⟩ := H
        obtain ⟨hz6, H⟩ := H
        refine ok_sg (pc' := 78) (ls' := [some (.inr (.inr (some 34))), some (.inl g), some (.inl n), some (.inl f), some (.inl p), some (.inl x), some (.inl i), some (.inl (am_and g (m 39 ((am_s ((p * 10) + i)).toNat))))]) (st' := [.inl g, .inl (am_and g (m 39 ((am_s ((p * 10) + i)).toNat)))]) (m' := m) (fun fx hfx o hk => ?_) ?_
        · refine r_ld (pc' := 59) hM_113 d_113_58 rfl rfl ?_
          refine r_ld (pc' := 60) hM_113 d_113_59 rfl rfl ?_
          refine r_gR (pc' := 63) (v := 39) hM_113 d_113_60 rfl (by decide +kernel) ?_
          refine r_ld (pc' := 65) hM_113 d_113_63 rfl rfl ?_
          refine r_k (pc' := 67) (v := .inl 10) hM_113 d_113_65 rfl rfl ?_
          refine r_b (pc' := 68) (z := (p * 10)) hM_113 d_113_67 rfl rfl ?_
          refine r_ld (pc' := 70) hM_113 d_113_68 rfl rfl ?_
          refine r_b (pc' := 71) (z := ((p * 10) + i)) hM_113 d_113_70 rfl rfl ?_
          refine r_ia (pc' := 72) (n := 120) hM_113 d_113_71 rfl rfl hz4 ?_
          refine r_b (pc' := 73) (z := (am_and g (m 39 ((am_s ((p * 10) + i)).toNat)))) hM_113 d_113_72 rfl rfl ?_
          refine r_sto (pc' := 75) (ls' := [some (.inr (.inr (some 34))), some (.inl g), some (.inl n), some (.inl f), some (.inl p), some (.inl x), some (.inl i), some (.inl (am_and g (m 39 ((am_s ((p * 10) + i)).toNat))))]) hM_113 d_113_73 rfl rfl ?_
          refine r_ld (pc' := 77) hM_113 d_113_75 rfl rfl ?_
          refine r_ld (pc' := 78) hM_113 d_113_77 rfl rfl ?_
          exact hk
        refine ok_sg (pc' := 98) (ls' := [some (.inr (.inr (some 34))), some (.inl g), some (.inl n), some (.inl f), some (.inl p), some (.inl x), some (.inl i), some (.inl (am_and g (m 39 ((am_s ((p * 10) + i)).toNat))))]) (st' := [.inl (if ¬ am_s (am_and g (m 39 ((am_s ((p * 10) + i)).toNat))) = am_s g then (v_74 m x (m 40 ((am_s (am_and g (m 39 ((am_s ((p * 10) + i)).toNat)))).toNat))) else 99)]) (m' := m) (fun fx hfx o K => ?_) ?_
        · refine r_ic (pc' := 86) (pc2 := 81) hM_113 d_113_78 (by decide) rfl (fun hz5 => ?_) (fun hz5 => ?_)
          · have hz5 : ¬ am_s (am_and g (m 39 ((am_s ((p * 10) + i)).toNat))) = am_s g := hz5
            rw [if_pos hz5] at K
            refine r_ld (pc' := 88) hM_113 d_113_86 rfl rfl ?_
            refine r_ld (pc' := 89) hM_113 d_113_88 rfl rfl ?_
            refine r_gR (pc' := 92) (v := 40) hM_113 d_113_89 rfl (by decide +kernel) ?_
            refine r_ld (pc' := 94) hM_113 d_113_92 rfl rfl ?_
            refine r_ia (pc' := 95) (n := 1024) hM_113 d_113_94 rfl rfl (hz6 hz5) ?_
            refine r_cl (pc' := 98) (c := (74, 2)) (a := [.inl x, .inl (m 40 ((am_s (am_and g (m 39 ((am_s ((p * 10) + i)).toNat)))).toNat))]) (q := []) hM_113 d_113_95 rfl (by decide +kernel) hM_74 rfl rfl rfl (Nat.le_of_ble_eq_true rfl) (Nat.le_of_ble_eq_true rfl) (Or.inl rfl) (c_74  m x (m 40 ((am_s (am_and g (m 39 ((am_s ((p * 10) + i)).toNat)))).toNat))) (Nat.le_of_ble_eq_true rfl) ?_
            show rn fx 1 (0, 0) 113 98 [some (.inr (.inr (some 34))), some (.inl g), some (.inl n), some (.inl f), some (.inl p), some (.inl x), some (.inl i), some (.inl (am_and g (m 39 ((am_s ((p * 10) + i)).toNat))))] [.inl (v_74 m x (m 40 ((am_s (am_and g (m 39 ((am_s ((p * 10) + i)).toNat)))).toNat)))] (st0 m) o
            exact K
          · have hz5 : ¬ (¬ am_s (am_and g (m 39 ((am_s ((p * 10) + i)).toNat))) = am_s g) := hz5
            rw [if_neg hz5] at K
            refine r_k (pc' := 83) (v := .inl 99) hM_113 d_113_81 rfl rfl ?_
            refine r_go (pc' := 98) hM_113 d_113_83 (by decide) ?_
            exact K
        have K : ∀ y1 : Int, y1 = (if ¬ am_s (am_and g (m 39 ((am_s ((p * 10) + i)).toNat))) = am_s g then (v_74 m x (m 40 ((am_s (am_and g (m 39 ((am_s ((p * 10) + i)).toNat)))).toNat))) else 99) → ok 1 113 98 [some (.inr (.inr (some 34))), some (.inl g), some (.inl n), some (.inl f), some (.inl p), some (.inl x), some (.inl i), some (.inl (am_and g (m 39 ((am_s ((p * 10) + i)).toNat))))] [.inl y1] m Q := by
          intro y1 hy1
          replace H := H y1 hy1
          refine ok_sg (pc' := 34) (ls' := [some (.inr (.inr (some 34))), some (.inl g), some (.inl n), some (.inl f), some (.inl p), some (.inl y1), some (.inl (i + 1)), none]) (st' := []) (m' := m) (fun fx hfx o hk => ?_) ?_
          · refine r_sto (pc' := 100) (ls' := [some (.inr (.inr (some 34))), some (.inl g), some (.inl n), some (.inl f), some (.inl p), some (.inl y1), some (.inl i), some (.inl (am_and g (m 39 ((am_s ((p * 10) + i)).toNat))))]) hM_113 d_113_98 rfl rfl ?_
            refine r_sto (pc' := 103) (ls' := [some (.inr (.inr (some 34))), some (.inl g), some (.inl n), some (.inl f), some (.inl p), some (.inl y1), some (.inl (i + 1)), some (.inl (am_and g (m 39 ((am_s ((p * 10) + i)).toNat))))]) hM_113 d_113_100 rfl rfl ?_
            refine r_go (pc' := 34) hM_113 d_113_103 (by decide) ?_
            refine rn_wk (a := [some (.inr (.inr (some 34))), some (.inl g), some (.inl n), some (.inl f), some (.inl p), some (.inl y1), some (.inl (i + 1)), none]) (by simp only [am_le, and_self]) ?_
            exact hk
          exact H
        exact K _ rfl
      · have H := H.2 (Decidable.not_not.mp hz3)
        refine ok_sg (pc' := 34) (ls' := [some (.inr (.inr (some 34))), some (.inl g), some (.inl n), some (.inl f), some (.inl p), some (.inl x), some (.inl (i + 1)), none]) (st' := []) (m' := m) (fun fx hfx o hk => ?_) ?_
        · refine r_go (pc' := 100) hM_113 d_113_55 (by decide) ?_
          refine r_sto (pc' := 103) (ls' := [some (.inr (.inr (some 34))), some (.inl g), some (.inl n), some (.inl f), some (.inl p), some (.inl x), some (.inl (i + 1)), none]) hM_113 d_113_100 rfl rfl ?_
          refine r_go (pc' := 34) hM_113 d_113_103 (by decide) ?_
          exact hk
        exact H
theorem u_113_16 {Q : List am_V → am_M → Prop} {m : am_M} {g : Int} {n : Int} {f : Int} {p : Int}  (H : ((am_s (m 2 4) ≤ am_s p) → Q [.inl f] m) ∧ ((¬ (am_s (m 2 4) ≤ am_s p)) → ok 1 113 34 [some (.inr (.inr (some 34))), some (.inl g), some (.inl n), some (.inl f), some (.inl p), some (.inl 0), some (.inl 0), none] [] m Q)) : ok 1 113 16 [some (.inr (.inr (some 34))), some (.inl g), some (.inl n), some (.inl f), some (.inl p), none, none, none] [] m Q := by
  refine ok_sg (pc' := 25) (ls' := [some (.inr (.inr (some 34))), some (.inl g), some (.inl n), some (.inl f), some (.inl p), none, none, none]) (st' := [.inl (m 2 4), .inl p]) (m' := m) (fun fx hfx o hk => ?_) ?_
  · refine r_ld (pc' := 18) hM_113 d_113_16 rfl rfl ?_
    refine r_ld (pc' := 19) hM_113 d_113_18 rfl rfl ?_
    refine r_gR (pc' := 22) (v := 2) hM_113 d_113_19 rfl (by decide +kernel) ?_
    refine r_gI (pc' := 25) (k0 := 4) hM_113 d_113_22 rfl (by decide +kernel) ?_
    exact hk
  refine ok_ic (pc' := 121) (pc2 := 28) hM_113 d_113_25 (by decide) rfl (fun hz1 => ?_) (fun hz1 => ?_)
  · have H := H.1 hz1
    refine ok_sg (pc' := 122) (ls' := [some (.inr (.inr (some 34))), some (.inl g), some (.inl n), some (.inl f), some (.inl p), none, none, none]) (st' := [.inl f]) (m' := m) (fun fx hfx o hk => ?_) ?_
    · refine r_ld (pc' := 122) hM_113 d_113_121 rfl rfl ?_
      exact hk
    exact ok_rt (fun fx _ => rt_i hM_113 d_113_122 rfl) H
  · have H := H.2 hz1
    refine ok_sg (pc' := 34) (ls' := [some (.inr (.inr (some 34))), some (.inl g), some (.inl n), some (.inl f), some (.inl p), some (.inl 0), some (.inl 0), none]) (st' := []) (m' := m) (fun fx hfx o hk => ?_) ?_
    · refine r_k (pc' := 29) (v := .inl 0) hM_113 d_113_28 rfl rfl ?_
      refine r_sto (pc' := 31) (ls' := [some (.inr (.inr (some 34))), some (.inl g), some (.inl n), some (.inl f), some (.inl p), some (.inl 0), none, none]) hM_113 d_113_29 rfl rfl ?_
      refine r_k (pc' := 32) (v := .inl 0) hM_113 d_113_31 rfl rfl ?_
      refine r_sto (pc' := 34) (ls' := [some (.inr (.inr (some 34))), some (.inl g), some (.inl n), some (.inl f), some (.inl p), some (.inl 0), some (.inl 0), none]) hM_113 d_113_32 rfl rfl ?_
      exact hk
    exact H
theorem u_113_0 {Q : List am_V → am_M → Prop} {m : am_M} {g : Int} {n : Int}  (H : (0 ≤ g ∧ g < 4096) ∧ (((¬ am_s (((cnt g.toNat 12 : Nat) : Int)) = 1) → ok 1 113 16 [some (.inr (.inr (some 34))), some (.inl g), some (.inl n), some (.inl 99), some (.inl 0), none, none, none] [] m Q) ∧ ((am_s (((cnt g.toNat 12 : Nat) : Int)) = 1) → Q [.inl 0] m))) : ok 1 113 0 [some (.inr (.inr (some 34))), some (.inl g), some (.inl n), none, none, none, none, none] [] m Q := by
  obtain ⟨hz1, H⟩ := H
  refine ok_sg (pc' := 5) (ls' := [some (.inr (.inr (some 34))), some (.inl g), some (.inl n), none, none, none, none, none]) (st' := [.inl 1, .inl (((cnt g.toNat 12 : Nat) : Int))]) (m' := m) (fun fx hfx o hk => ?_) ?_
  · refine r_ld (pc' := 1) hM_113 d_113_0 rfl rfl ?_
    refine r_cl (pc' := 4) (c := (72, 2)) (a := [.inl g]) (q := []) hM_113 d_113_1 rfl (by decide +kernel) hM_72 rfl rfl rfl (Nat.le_of_ble_eq_true rfl) (Nat.le_of_ble_eq_true rfl) (Or.inl rfl) (n_72  m g hz1) (Nat.le_of_ble_eq_true rfl) ?_
    show rn fx 1 (0, 0) 113 4 [some (.inr (.inr (some 34))), some (.inl g), some (.inl n), none, none, none, none, none] [.inl (((cnt g.toNat 12 : Nat) : Int))] (st0 m) o
    refine r_k (pc' := 5) (v := .inl 1) hM_113 d_113_4 rfl rfl ?_
    exact hk
  refine ok_ic (pc' := 10) (pc2 := 8) hM_113 d_113_5 (by decide) rfl (fun hz2 => ?_) (fun hz2 => ?_)
  · have H := H.1 hz2
    refine ok_sg (pc' := 16) (ls' := [some (.inr (.inr (some 34))), some (.inl g), some (.inl n), some (.inl 99), some (.inl 0), none, none, none]) (st' := []) (m' := m) (fun fx hfx o hk => ?_) ?_
    · refine r_k (pc' := 12) (v := .inl 99) hM_113 d_113_10 rfl rfl ?_
      refine r_sto (pc' := 13) (ls' := [some (.inr (.inr (some 34))), some (.inl g), some (.inl n), some (.inl 99), none, none, none, none]) hM_113 d_113_12 rfl rfl ?_
      refine r_k (pc' := 14) (v := .inl 0) hM_113 d_113_13 rfl rfl ?_
      refine r_sto (pc' := 16) (ls' := [some (.inr (.inr (some 34))), some (.inl g), some (.inl n), some (.inl 99), some (.inl 0), none, none, none]) hM_113 d_113_14 rfl rfl ?_
      exact hk
    exact H
  · have H := H.2 (Decidable.not_not.mp hz2)
    refine ok_sg (pc' := 9) (ls' := [some (.inr (.inr (some 34))), some (.inl g), some (.inl n), none, none, none, none, none]) (st' := [.inl 0]) (m' := m) (fun fx hfx o hk => ?_) ?_
    · refine r_k (pc' := 9) (v := .inl 0) hM_113 d_113_8 rfl rfl ?_
      exact hk
    exact ok_rt (fun fx _ => rt_i hM_113 d_113_9 rfl) H
theorem z_113   (m : am_M) (g : Int) (n : Int) (hq : (0 ≤ m 2 4 ∧ m 2 4 ≤ 12) ∧ (1 ≤ g ∧ g < 1024) ∧ (0 ≤ n ∧ n ≤ 10) ∧ (∀ p i : Nat, (p : Int) < m 2 4 → i < n.toNat → (0 ≤ m 39 (10 * p + i) ∧ m 39 (10 * p + i) < 1024) ∧ ((m 39 (10 * p + i)).toNat).testBit i = true) ∧ ∀ k : Nat, 1 ≤ k → k < g.toNat → 0 ≤ m 40 k ∧ m 40 k ≤ 99) : ok 1 113 0 (am_ent 8 [.inr (.inr (some 34)), .inl g, .inl n]) [] m (fun rr m' => rr = [.inl ((kst (m 40) g.toNat (fun p i => (m 39 (10 * p + i)).toNat) n.toNat (m 2 4).toNat))] ∧ m' = m) := by
  show ok 1 113 0 [some (.inr (.inr (some 34))), some (.inl g), some (.inl n), none, none, none, none, none] [] m _
  obtain ⟨hN, hg, hn, hL, hK⟩ := hq
  obtain ⟨n', rfl⟩ : ∃ K : Nat, n = (K : Int) := ⟨n.toNat, by omega⟩
  obtain ⟨G, rfl⟩ : ∃ G : Nat, g = (G : Int) := ⟨g.toNat, by omega⟩
  rw [Int.toNat_natCast] at hK hL ⊢
  rw [Int.toNat_natCast]
  have eN : am_s (m 2 4) = m 2 4 := am_s_id (by omega) (by omega)
  have en : am_s (n' : Int) = (n' : Int) := am_s_id (by omega) (by omega)
  have eG : am_s (G : Int) = (G : Int) := am_s_id (by omega) (by omega)
  have hcl := cnt_le G 12
  refine u_113_0 ?_
  rw [Int.toNat_natCast, am_s_id (by omega) (by omega)]
  refine ⟨by omega, fun hc => ?_, fun hc => ⟨by unfold kst; rw [if_pos (by omega)], rfl⟩⟩
  unfold kst
  rw [if_neg (by omega)]
  generalize hLv : (fun p i => (m 39 (10 * p + i)).toNat) = L at *
  have hLt : ∀ p i, (m 39 (10 * p + i)).toNat = L p i := fun p i => by rw [← hLv]
  have hl : ∀ p i, p < (m 2 4).toNat → i < n' → (L p i).testBit i = true := fun p i hp hi => by rw [← hLt]; exact (hL p i (by omega) hi).2
  refine ok_for (σ := Unit) (fun p _ => [some (.inr (.inr (some 34))), some (.inl (G : Int)), some (.inl (n' : Int)), some (.inl (kfw (m 40) G L n' p)), some (.inl (p : Int)), none, none, none]) (fun p _ M => M = m) (m 2 4).toNat ?_ ?_ () m rfl
  · rintro p hp - M rfl IH
    have hf := kfw_rng (K := M 40) (G := G) (L := L) (n := n') hK p fun p' i hp' hi => hl p' i (by omega) hi
    have hlp : ∀ i, i < n' → (L p i).testBit i = true := fun i hi => hl p i hp hi
    refine u_113_16 ?_
    rw [eN, am_s_id (z := (p : Int)) (by omega) (by omega)]
    refine ⟨fun q => by omega, fun _ => ?_⟩
    have fin : ∀ x : Int, 0 ≤ x → x ≤ 99 → min (kfw (M 40) G L n' p) (x + 1) = kfw (M 40) G L n' (p + 1) → ok 1 113 16 [some (.inr (.inr (some 34))), some (.inl (G : Int)), some (.inl (n' : Int)), some (.inl (v_14 M (kfw (M 40) G L n' p) (x + 1))), some (.inl ((p : Int) + 1)), none, none, none] [] M (fun rr m' => rr = [.inl (kfw (M 40) G L n' (M 2 4).toNat)] ∧ m' = M) := by
      intro x hx hx' e
      rw [v14 (by omega) (by omega) (by omega) (by omega), e]
      exact IH () M rfl
    have key := ok_for (d := 1) (mi := 113) (pc := 34) (Q := fun rr m' => rr = [.inl (kfw (M 40) G L n' (M 2 4).toNat)] ∧ m' = M) (σ := Int) (fun i x => [some (.inr (.inr (some 34))), some (.inl (G : Int)), some (.inl (n' : Int)), some (.inl (kfw (M 40) G L n' p)), some (.inl (p : Int)), some (.inl x), some (.inl (i : Int)), none]) (fun i x M' => M' = M ∧ ((x = kmx (M 40) G (L p) i ∧ kbd G (L p) i = false) ∨ (x = 99 ∧ kbd G (L p) i = true))) n' ?_ ?_ 0 M ⟨rfl, Or.inl ⟨rfl, rfl⟩⟩
    · exact key
    · rintro i hi x M' ⟨rfl, hx⟩ IH2
      have hlb := hlp i hi
      have hLi := hL p i (by omega) hi
      have e39 : M' 39 (10 * p + i) = ((L p i : Nat) : Int) := by rw [← hLt]; omega
      have hpt : G &&& L p i ≤ G := Nat.and_le_left
      have e1 : am_s ((p : Int) * 10 + (i : Int)) = (p : Int) * 10 + (i : Int) := am_s_id (by omega) (by omega)
      have e2 : ((p : Int) * 10 + (i : Int)).toNat = 10 * p + i := by omega
      have hxr : 0 ≤ x ∧ x ≤ 99 := by
        rcases hx with ⟨h1, h2⟩ | ⟨h1, -⟩
        · have := kmx_rng hK i (fun j hj => hlp j (by omega)) h2
          omega
        · omega
      refine u_113_34 ?_
      rw [en, am_s_id (z := (i : Int)) (by omega) (by omega), am_s_id (z := kfw (M' 40) G L n' p) (by omega) (by omega), am_s_id (z := x) (by omega) (by omega), bx_bit (by omega) (by omega), e1, e2, e39, bx_and (by omega), am_s_id (z := ((G &&& L p i : Nat) : Int)) (by omega) (by omega), eG, Int.toNat_natCast]
      refine ⟨fun q => by omega, fun _ => ⟨fun q => fin x hxr.1 hxr.2 ?_, fun q => ⟨fun q2 => ⟨by omega, fun _ => by omega, fun y hy => ?_⟩, fun q2 => ?_⟩⟩⟩
      · rw [kfw_s]
        have hv := kvl_rng (K := M' 40) (G := G) hK hlp
        rcases hx with ⟨h1, h2⟩ | ⟨h1, h2⟩
        · have : kfw (M' 40) G L n' p ≤ kvl (M' 40) G (L p) n' := by
            unfold kvl
            split
            · omega
            · have := kmx_up (K := M' 40) (G := G) (l := L p) n' (show i ≤ n' by omega)
              split <;> omega
          omega
        · have : kvl (M' 40) G (L p) n' = 99 := by
            unfold kvl
            rw [if_pos (kbd_up h2 n' (by omega))]
          omega
      · have hgb : G.testBit i = true := by
          cases h : G.testBit i
          · exact absurd h q2
          · rfl
        have hx1 : x = kmx (M' 40) G (L p) i ∧ kbd G (L p) i = false := by
          rcases hx with h | ⟨h1, h2⟩
          · exact h
          · omega
        refine IH2 y M' ⟨rfl, ?_⟩
        by_cases hall : G &&& L p i = G
        · right
          rw [if_neg (by omega)] at hy
          refine ⟨hy, ?_⟩
          rw [kbd_s, hgb, decide_eq_true hall, Bool.true_and, Bool.or_true]
        · left
          obtain ⟨q3, q4⟩ := and_part hgb hlb hall
          have hk := hK _ q3 q4
          rw [if_pos (by omega), v74 (by omega) (by omega) (by omega) (by omega)] at hy
          refine ⟨?_, ?_⟩
          · rw [hy, kmx_s, if_pos hgb, hx1.1]
          · rw [kbd_s, hx1.2, decide_eq_false hall, Bool.and_false, Bool.or_false]
      · refine IH2 x M' ⟨rfl, ?_⟩
        rw [kmx_s, kbd_s, q2, Bool.false_and, Bool.or_false, if_neg (by decide)]
        exact hx
    · rintro x M' ⟨rfl, hx⟩
      have hxr : 0 ≤ x ∧ x ≤ 99 := by
        rcases hx with ⟨h1, h2⟩ | ⟨h1, -⟩
        · have := kmx_rng hK n' hlp h2
          omega
        · omega
      refine u_113_34 ?_
      rw [en]
      refine ⟨fun _ => fin x hxr.1 hxr.2 ?_, fun q => by omega⟩
      rw [kfw_s]
      rcases hx with ⟨h1, h2⟩ | ⟨h1, h2⟩
      · unfold kvl
        rw [h2, if_neg (by decide)]
        split <;> omega
      · unfold kvl
        rw [h2, if_pos rfl]
        omega
  · rintro - M rfl
    refine u_113_16 ?_
    rw [eN, am_s_id (z := (((M 2 4).toNat : Nat) : Int)) (by omega) (by omega)]
    exact ⟨fun _ => ⟨rfl, rfl⟩, fun q => by omega⟩
