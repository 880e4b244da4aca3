section RS
variable {fx : am_X0} {d mi pc pc' : Nat} {cr : Nat × Nat} {ls ls' : am_Ls} {st : List am_V} {S : am_S} {o : List am_V × am_S} {M : am_MT} {i : Instr} {len : Nat} {m : am_M}
theorem r_b {a b z : Int} (hM : am_ms[mi]? = some M) (hd : decode M.2.2.1 pc = .ok (i, 1)) (hp : pc + 1 = pc') (hk : am_stk i (.inl b :: .inl a :: st) = some (.inl z :: st)) (k : rn fx d cr mi pc' ls (.inl z :: st) S o) : rn fx d cr mi pc ls (.inl b :: .inl a :: st) S o := r_stk hM hd hp hk k
theorem r_div {a b : Int} (hM : am_ms[mi]? = some M) (hd : decode M.2.2.1 pc = .ok (.idiv, 1)) (hp : pc + 1 = pc') (hb : am_s b ≠ 0) (k : rn fx d cr mi pc' ls (.inl (am_div a b) :: st) S o) : rn fx d cr mi pc ls (.inl b :: .inl a :: st) S o := by
  refine r_stk hM hd hp ?_ k
  have h : ¬ Int32.ofInt b = 0 := fun q => hb (by rw [am_s, q]; rfl)
  simp [am_stk, am_b2, h, am_div]
theorem r_rem {a b : Int} (hM : am_ms[mi]? = some M) (hd : decode M.2.2.1 pc = .ok (.irem, 1)) (hp : pc + 1 = pc') (hb : am_s b ≠ 0) (k : rn fx d cr mi pc' ls (.inl (am_rem a b) :: st) S o) : rn fx d cr mi pc ls (.inl b :: .inl a :: st) S o := by
  refine r_stk hM hd hp ?_ k
  have h : ¬ Int32.ofInt b = 0 := fun q => hb (by rw [am_s, q]; rfl)
  simp [am_stk, am_b2, h, am_rem]
theorem am_jmpE {pc pc' : Nat} {off : Int} (h : (pc : Int) + off = (pc' : Int)) : am_jmp pc off = some pc' := by
  unfold am_jmp
  rw [h, if_pos (Int.natCast_nonneg _), Int.toNat_natCast]
theorem r_ic {cd : Jvm.ClassFile.Cond} {off a b : Int} {pc2 : Nat} (hM : am_ms[mi]? = some M) (hd : decode M.2.2.1 pc = .ok (.if_icmp cd off, 3)) (ht : (pc : Int) + off = (pc' : Int)) (hp : pc + 3 = pc2) (h1 : am_cmp cd a b → rn fx d cr mi pc' ls st S o) (h2 : ¬ am_cmp cd a b → rn fx d cr mi pc2 ls st S o) : rn fx d cr mi pc ls (.inl b :: .inl a :: st) S o := by
  by_cases h : am_cmp cd a b
  · exact r_br (pc' := pc') (st' := st) hM hd (by simp [am_br, am_jmpE ht, (am_cmpb_iff cd a b).mpr h]) (h1 h)
  · have hn : ¬ am_cmpb cd a b = true := fun q => h ((am_cmpb_iff cd a b).mp q)
    exact r_br (pc' := pc2) (st' := st) hM hd (by simp [am_br, am_jmpE ht, hn, hp]) (h2 h)
def am_cmz (cd : Jvm.ClassFile.Cond) (a : Int) : Prop := match cd with
  | .eq => am_s a = 0
  | .ne => ¬ am_s a = 0
  | .lt => am_s a < 0
  | .ge => 0 ≤ am_s a
  | .gt => 0 < am_s a
  | .le => am_s a ≤ 0
theorem am_cmz_iff (cd : Jvm.ClassFile.Cond) (a : Int) : am_cmz cd a ↔ am_cmp cd a 0 := by cases cd <;> simp [am_cmz, am_cmp, am_s0]
theorem r_if {cd : Jvm.ClassFile.Cond} {off a : Int} {pc2 : Nat} (hM : am_ms[mi]? = some M) (hd : decode M.2.2.1 pc = .ok (.ifCond cd off, 3)) (ht : (pc : Int) + off = (pc' : Int)) (hp : pc + 3 = pc2) (h1 : am_cmz cd a → rn fx d cr mi pc' ls st S o) (h2 : ¬ am_cmz cd a → rn fx d cr mi pc2 ls st S o) : rn fx d cr mi pc ls (.inl a :: st) S o := by
  by_cases h : am_cmz cd a
  · exact r_br (pc' := pc') (st' := st) hM hd (by simp [am_br, am_jmpE ht, (am_cmpb_iff cd a 0).mpr ((am_cmz_iff cd a).mp h)]) (h1 h)
  · have hn : ¬ am_cmpb cd a 0 = true := fun q => h ((am_cmz_iff cd a).mpr ((am_cmpb_iff cd a 0).mp q))
    exact r_br (pc' := pc2) (st' := st) hM hd (by simp [am_br, am_jmpE ht, hn, hp]) (h2 h)
theorem r_go {off : Int} (hM : am_ms[mi]? = some M) (hd : decode M.2.2.1 pc = .ok (.goto off, 3)) (ht : (pc : Int) + off = (pc' : Int)) (k : rn fx d cr mi pc' ls st S o) : rn fx d cr mi pc ls st S o :=
  r_br (pc' := pc') (st' := st) hM hd (by simp [am_br, am_jmpE ht]) k
theorem r_tsI {dd lo hi : Int} {os : Array Int} {a off : Int} (hM : am_ms[mi]? = some M) (hd : decode M.2.2.1 pc = .ok (.tableswitch dd lo hi os, len)) (h : am_s a = lo + off) {t : Int} (hoff : 0 ≤ off ∧ lo + off ≤ hi) (ho : os[off.toNat]? = some t) (ht : (pc : Int) + t = (pc' : Int)) (k : rn fx d cr mi pc' ls st S o) : rn fx d cr mi pc ls (.inl a :: st) S o := by
  refine r_br (pc' := pc') (st' := st) hM hd ?_ k
  unfold am_br
  have h1 : ¬ (am_s a < lo ∨ hi < am_s a) := by omega
  have h2 : am_s a - lo = off := by omega
  simp only [if_neg h1, h2, ho, am_jmpE ht]
  rfl
theorem r_tsO {dd lo hi : Int} {os : Array Int} {a : Int} (hM : am_ms[mi]? = some M) (hd : decode M.2.2.1 pc = .ok (.tableswitch dd lo hi os, len)) (h : am_s a < lo ∨ hi < am_s a) (ht : (pc : Int) + dd = (pc' : Int)) (k : rn fx d cr mi pc' ls st S o) : rn fx d cr mi pc ls (.inl a :: st) S o := by
  refine r_br (pc' := pc') (st' := st) hM hd ?_ k
  unfold am_br
  simp only [if_pos h, am_jmpE ht]
  rfl
theorem am_shlt {r : Nat} {sh : Nat × Nat} (h : am_SH[r]? = some sh) : r < 1000 := Nat.lt_trans (List.getElem?_eq_some_iff.mp h).1 (by decide)
theorem am_arrE {r : Nat} {sh : Nat × Nat} (h : am_SH[r]? = some sh) : am_arr fx (st0 m) r = (sh.1, sh.2, m r) := by
  unfold am_arr
  rw [if_pos (am_shlt h)]
  show (match am_SH[r]? with | some q => (q.1, q.2, m r) | none => _) = _
  rw [h]
theorem am_inE {j : Int} {n : Nat} (h : 0 ≤ am_s j ∧ am_s j < n) : am_in j n = true := by simp [am_in, h.1, h.2]
theorem r_gI {x r k0 : Nat} (hM : am_ms[mi]? = some M) (hd : decode M.2.2.1 pc = .ok (.getfield x, 3)) (hp : pc + 3 = pc') (h : am_gf M.1 x r = some (.inl k0)) (k : rn fx d cr mi pc' ls (.inl (m r k0) :: st) (st0 m) o) : rn fx d cr mi pc ls (.inr (.inr (some r)) :: st) (st0 m) o := by
  refine r_hp hM hd hp ?_ k
  unfold am_gf at h
  split at h
  · rename_i f sh hf hsh
    split at h
    · rename_i hc
      split at h
      · rename_i hk
        obtain ⟨v, hv, e⟩ := Option.map_eq_some_iff.mp h
        cases e
      · rename_i hk
        cases h
        have hsh' : (st0 m).1[r]? = some sh := hsh
        simp only [am_hp, hsh', hf, if_pos hc, am_fv, if_neg hk]
        rfl
    · cases h
  · cases h
theorem r_gR {x r v : Nat} (hM : am_ms[mi]? = some M) (hd : decode M.2.2.1 pc = .ok (.getfield x, 3)) (hp : pc + 3 = pc') (h : am_gf M.1 x r = some (.inr v)) (k : rn fx d cr mi pc' ls (.inr (.inr (some v)) :: st) (st0 m) o) : rn fx d cr mi pc ls (.inr (.inr (some r)) :: st) (st0 m) o := by
  refine r_hp hM hd hp ?_ k
  unfold am_gf at h
  split at h
  · rename_i f sh hf hsh
    split at h
    · rename_i hc
      split at h
      · rename_i hk
        obtain ⟨v', hv, e⟩ := Option.map_eq_some_iff.mp h
        cases e
        have hsh' : (st0 m).1[r]? = some sh := hsh
        have hrf : (st0 m).2.1 r f.2 = some v := hv
        simp only [am_hp, hsh', hf, if_pos hc, am_fv, if_pos hk, hrf]
      · cases h
    · cases h
  · cases h
theorem r_pI {x r k0 : Nat} {z : Int} (hM : am_ms[mi]? = some M) (hd : decode M.2.2.1 pc = .ok (.putfield x, 3)) (hp : pc + 3 = pc') (h : am_pu M.1 x r = some (k0, false)) (k : rn fx d cr mi pc' ls st (st0 (mu m r k0 z)) o) : rn fx d cr mi pc ls (.inl z :: .inr (.inr (some r)) :: st) (st0 m) o := by
  refine r_hp (S' := st0 (mu m r k0 z)) hM hd hp ?_ k
  unfold am_pu at h
  split at h
  · rename_i f sh hf hsh
    split at h
    · rename_i hc
      split at h
      · rename_i hk
        cases h
        have hsh' : (st0 m).1[r]? = some sh := hsh
        simp only [am_hp, hsh', hf]
        rw [if_pos ⟨hc.1, hc.2.1, hc.2.2, Or.inl hk⟩]
        rfl
      · split at h <;> cases h
    · cases h
  · cases h
theorem r_pZ {x r k0 : Nat} {z : Int} (hM : am_ms[mi]? = some M) (hd : decode M.2.2.1 pc = .ok (.putfield x, 3)) (hp : pc + 3 = pc') (h : am_pu M.1 x r = some (k0, true)) (hz : am_s z = 0 ∨ am_s z = 1) (k : rn fx d cr mi pc' ls st (st0 (mu m r k0 z)) o) : rn fx d cr mi pc ls (.inl z :: .inr (.inr (some r)) :: st) (st0 m) o := by
  refine r_hp (S' := st0 (mu m r k0 z)) hM hd hp ?_ k
  unfold am_pu at h
  split at h
  · rename_i f sh hf hsh
    split at h
    · rename_i hc
      split at h
      · cases h
      · split at h
        · rename_i hk0 hk
          cases h
          have hsh' : (st0 m).1[r]? = some sh := hsh
          simp only [am_hp, hsh', hf]
          rw [if_pos ⟨hc.1, hc.2.1, hc.2.2, Or.inr ⟨hk, hz⟩⟩]
          rfl
        · cases h
    · cases h
  · cases h
theorem r_ia {r n : Nat} {j : Int} (hM : am_ms[mi]? = some M) (hd : decode M.2.2.1 pc = .ok (.iaload, 1)) (hp : pc + 1 = pc') (h : am_SH[r]? = some (100, n)) (hj : 0 ≤ am_s j ∧ am_s j < n) (k : rn fx d cr mi pc' ls (.inl (m r (am_s j).toNat) :: st) (st0 m) o) : rn fx d cr mi pc ls (.inl j :: .inr (.inr (some r)) :: st) (st0 m) o := by
  refine r_hp hM hd hp ?_ k
  simp only [am_hp, am_arrE h, am_inE hj, and_self, if_true]
theorem r_ba {r n t : Nat} {j : Int} (hM : am_ms[mi]? = some M) (hd : decode M.2.2.1 pc = .ok (.baload, 1)) (hp : pc + 1 = pc') (h : am_SH[r]? = some (t, n)) (ht : t = 102 ∨ t = 103) (hj : 0 ≤ am_s j ∧ am_s j < n) (k : rn fx d cr mi pc' ls (.inl (m r (am_s j).toNat) :: st) (st0 m) o) : rn fx d cr mi pc ls (.inl j :: .inr (.inr (some r)) :: st) (st0 m) o := by
  refine r_hp hM hd hp ?_ k
  have hr := am_shlt h
  simp only [am_hp, am_arrE h, am_inE hj, hr, and_true, if_pos ht]
theorem r_la {r n : Nat} {j : Int} (hM : am_ms[mi]? = some M) (hd : decode M.2.2.1 pc = .ok (.laload, 1)) (hp : pc + 1 = pc') (h : am_SH[r]? = some (101, n)) (hj : 0 ≤ am_s j ∧ am_s j < n) (k : rn fx d cr mi pc' ls (.inr (.inl (m r (am_s j).toNat)) :: st) (st0 m) o) : rn fx d cr mi pc ls (.inl j :: .inr (.inr (some r)) :: st) (st0 m) o := by
  refine r_hp hM hd hp ?_ k
  have hr := am_shlt h
  simp only [am_hp, am_arrE h, am_inE hj, hr, and_self, if_true]
theorem r_aa {r n t v : Nat} {j : Int} (hM : am_ms[mi]? = some M) (hd : decode M.2.2.1 pc = .ok (.aaload, 1)) (hp : pc + 1 = pc') (h : am_SH[r]? = some (t, n)) (ht : t = 200 ∨ t = 201) (hj : 0 ≤ am_s j ∧ am_s j < n) (hv : am_RF r (am_s j).toNat = some v) (hv1 : v < 1000) (k : rn fx d cr mi pc' ls (.inr (.inr (some v)) :: st) (st0 m) o) : rn fx d cr mi pc ls (.inl j :: .inr (.inr (some r)) :: st) (st0 m) o := by
  refine r_hp hM hd hp ?_ k
  have hr := am_shlt h
  have hv2 : (st0 m).2.1 r (am_s j).toNat = some v := hv
  simp only [am_hp, am_arrE h, am_inE hj, hr, hv2, Option.all_some, hv1, decide_true, and_self, and_true, true_and, if_pos ht]
theorem r_al {r n t : Nat} (hM : am_ms[mi]? = some M) (hd : decode M.2.2.1 pc = .ok (.arraylength, 1)) (hp : pc + 1 = pc') (h : am_SH[r]? = some (t, n)) (ht : 100 ≤ t ∧ t < 104) (k : rn fx d cr mi pc' ls (.inl (n : Int) :: st) (st0 m) o) : rn fx d cr mi pc ls (.inr (.inr (some r)) :: st) (st0 m) o := by
  refine r_hp hM hd hp ?_ k
  simp only [am_hp, am_arrE h, if_pos ht]
theorem r_is {r n : Nat} {j z : Int} (hM : am_ms[mi]? = some M) (hd : decode M.2.2.1 pc = .ok (.iastore, 1)) (hp : pc + 1 = pc') (h : am_SH[r]? = some (100, n)) (hj : 0 ≤ am_s j ∧ am_s j < n) (k : rn fx d cr mi pc' ls st (st0 (mu m r (am_s j).toNat z)) o) : rn fx d cr mi pc ls (.inl z :: .inl j :: .inr (.inr (some r)) :: st) (st0 m) o := by
  refine r_hp (S' := st0 (mu m r (am_s j).toNat z)) hM hd hp ?_ k
  have hr := am_shlt h
  simp only [am_hp, am_arrE h, am_inE hj, hr, and_self, if_true]
  rfl
theorem r_bs {r n : Nat} {j z : Int} (hM : am_ms[mi]? = some M) (hd : decode M.2.2.1 pc = .ok (.bastore, 1)) (hp : pc + 1 = pc') (h : am_SH[r]? = some (102, n)) (hj : 0 ≤ am_s j ∧ am_s j < n) (k : rn fx d cr mi pc' ls st (st0 (mu m r (am_s j).toNat (am_b8 z))) o) : rn fx d cr mi pc ls (.inl z :: .inl j :: .inr (.inr (some r)) :: st) (st0 m) o := by
  refine r_hp (S' := st0 (mu m r (am_s j).toNat (am_b8 z))) hM hd hp ?_ k
  have hr := am_shlt h
  simp only [am_hp, am_arrE h, am_inE hj, hr, and_self, if_true]
  rfl
theorem r_zs {r n : Nat} {j z : Int} (hM : am_ms[mi]? = some M) (hd : decode M.2.2.1 pc = .ok (.bastore, 1)) (hp : pc + 1 = pc') (h : am_SH[r]? = some (103, n)) (hj : 0 ≤ am_s j ∧ am_s j < n) (k : rn fx d cr mi pc' ls st (st0 (mu m r (am_s j).toNat (am_b1 z))) o) : rn fx d cr mi pc ls (.inl z :: .inl j :: .inr (.inr (some r)) :: st) (st0 m) o := by
  refine r_hp (S' := st0 (mu m r (am_s j).toNat (am_b1 z))) hM hd hp ?_ k
  have hr := am_shlt h
  simp only [am_hp, am_arrE h, am_inE hj, hr, and_self, if_true]
  rfl
theorem r_ls {r n : Nat} {j z : Int} (hM : am_ms[mi]? = some M) (hd : decode M.2.2.1 pc = .ok (.lastore, 1)) (hp : pc + 1 = pc') (h : am_SH[r]? = some (101, n)) (hj : 0 ≤ am_s j ∧ am_s j < n) (k : rn fx d cr mi pc' ls st (st0 (mu m r (am_s j).toNat z)) o) : rn fx d cr mi pc ls (.inr (.inl z) :: .inl j :: .inr (.inr (some r)) :: st) (st0 m) o := by
  refine r_hp (S' := st0 (mu m r (am_s j).toNat z)) hM hd hp ?_ k
  have hr := am_shlt h
  simp only [am_hp, am_arrE h, am_inE hj, hr, and_self, if_true]
  rfl
theorem r_iaF {r n : Nat} {f : Nat → Int} {j : Int} (hM : am_ms[mi]? = some M) (hd : decode M.2.2.1 pc = .ok (.iaload, 1)) (hp : pc + 1 = pc') (hr : 1000 ≤ r) (h : fx r = (100, n, f)) (hj : 0 ≤ am_s j ∧ am_s j < n) (k : rn fx d cr mi pc' ls (.inl (f (am_s j).toNat) :: st) S o) : rn fx d cr mi pc ls (.inl j :: .inr (.inr (some r)) :: st) S o := by
  refine r_hp hM hd hp ?_ k
  simp only [am_hp, am_for (Nat.not_lt.mpr hr), h, am_inE hj, and_self, if_true]
theorem r_baF {r n : Nat} {f : Nat → Int} {j : Int} (hM : am_ms[mi]? = some M) (hd : decode M.2.2.1 pc = .ok (.baload, 1)) (hp : pc + 1 = pc') (hr : 1000 ≤ r) (h : fx r = (102, n, f)) (hj : 0 ≤ am_s j ∧ am_s j < n) (k : rn fx d cr mi pc' ls (.inl (f (am_s j).toNat) :: st) S o) : rn fx d cr mi pc ls (.inl j :: .inr (.inr (some r)) :: st) S o := by
  refine r_hp hM hd hp ?_ k
  simp [am_hp, am_for (Nat.not_lt.mpr hr), h, am_inE hj]
theorem r_alF {r n t : Nat} {f : Nat → Int} (hM : am_ms[mi]? = some M) (hd : decode M.2.2.1 pc = .ok (.arraylength, 1)) (hp : pc + 1 = pc') (hr : 1000 ≤ r) (h : fx r = (t, n, f)) (ht : 100 ≤ t ∧ t < 104) (k : rn fx d cr mi pc' ls (.inl (n : Int) :: st) S o) : rn fx d cr mi pc ls (.inr (.inr (some r)) :: st) S o := by
  refine r_hp hM hd hp ?_ k
  simp only [am_hp, am_for (Nat.not_lt.mpr hr), h, if_pos ht]
theorem r_gF {x r : Nat} {v : am_V} (hM : am_ms[mi]? = some M) (hd : decode M.2.2.1 pc = .ok (.getfield x, 3)) (hp : pc + 3 = pc') (hr : 1000 ≤ r) (h : am_fo M.1 x r = some v) (k : rn fx d cr mi pc' ls (v :: st) (st0 m) o) : rn fx d cr mi pc ls (.inr (.inr (some r)) :: st) (st0 m) o := by
  refine r_hp hM hd hp ?_ k
  have hn : (st0 m).1[r]? = none := List.getElem?_eq_none (Nat.le_trans (show am_SH.length ≤ 1000 by decide) hr)
  simp only [am_hp, hn, h, Option.map_some]
/-- a call behind the making: the callee makes nothing -/
theorem r_cl {c : Nat × Nat} {N : am_MT} {a q : List am_V} {r : List am_V} {m1 : am_M} {h : Nat} (hM : am_ms[mi]? = some M) (hd : decode M.2.2.1 pc = .ok (i, 3)) (hp : pc + 3 = pc') (hc : am_cal M.1 i = some c) (hN : am_ms[c.1]? = some N) (hcr : N.2.2.2.2.2.2.2 = (0, 0)) (hst : am_pop (N.2.2.2.2.2.2.1 + if c.2 = 2 then 0 else 1) st = (a, q)) (hl : a.length = N.2.2.2.2.2.2.1 + if c.2 = 2 then 0 else 1) (hq : (q.map am_cat).sum ≤ 8) (hf : (am_flat a).length ≤ N.2.2.2.1) (hv : c.2 = 2 ∨ am_rcv (st0 m) N.1 (a.headD (.inl 0)) = true) (h1 : rn fx h (0, 0) c.1 0 (am_ent N.2.2.2.1 a) [] (st0 m) (r, st0 m1)) (hh : h ≤ d)
    (k : rn fx (d + 1) (0, 0) mi pc' ls (r ++ q) (st0 m1) o) : rn fx (d + 1) (0, 0) mi pc ls st (st0 m) o := by
  refine rn_call (o1 := (r, st0 m1)) hM hd hc hN (by rw [hcr]; exact ⟨Nat.le_refl _, Nat.le_refl _⟩) hst hl hq hf hv (by rw [hcr]; exact h1) hh (by rw [hcr]; rfl) ?_
  rw [hcr, hp]
  exact k
theorem rt_i {z : Int} (hM : am_ms[mi]? = some M) (hd : decode M.2.2.1 pc = .ok (.ireturn, 1)) (hr : M.2.2.2.2.1 = some .int) : rn fx d cr mi pc ls [.inl z] S ([.inl z], S) := rn_ret hM hd (by rw [hr]; rfl)
theorem rt_z {z : Int} (hM : am_ms[mi]? = some M) (hd : decode M.2.2.1 pc = .ok (.ireturn, 1)) (hr : M.2.2.2.2.1 = some .boolean) (hz : am_s z = 0 ∨ am_s z = 1) : rn fx d cr mi pc ls [.inl z] S ([.inl z], S) := rn_ret hM hd (by rw [hr]; simp only [am_ret, if_true, if_pos hz])
theorem rt_n {z : Int} {ty : FieldType} (hM : am_ms[mi]? = some M) (hd : decode M.2.2.1 pc = .ok (.ireturn, 1)) (hr : M.2.2.2.2.1 = some ty) (ht : ty = .char ∨ ty = .byte) (hz : narrow ty (Value.int (Int32.ofInt z)) = Value.int (Int32.ofInt z)) : rn fx d cr mi pc ls [.inl z] S ([.inl z], S) := by
  refine rn_ret hM hd ?_
  rw [hr]
  rcases ht with rfl | rfl <;> simp only [am_ret, if_true, if_pos hz]
theorem rt_l {z : Int} (hM : am_ms[mi]? = some M) (hd : decode M.2.2.1 pc = .ok (.lreturn, 1)) (hr : M.2.2.2.2.1 = some .long) : rn fx d cr mi pc ls [.inr (.inl z)] S ([.inr (.inl z)], S) := rn_ret hM hd (by rw [hr]; rfl)
theorem rt_a {z : Option Nat} {C : String} (hM : am_ms[mi]? = some M) (hd : decode M.2.2.1 pc = .ok (.areturn, 1)) (hr : M.2.2.2.2.1 = some (.object C)) : rn fx d cr mi pc ls [.inr (.inr z)] S ([.inr (.inr z)], S) := rn_ret hM hd (by rw [hr]; rfl)
theorem rt_v (hM : am_ms[mi]? = some M) (hd : decode M.2.2.1 pc = .ok (.return_, 1)) (hr : M.2.2.2.2.1 = none) : rn fx d cr mi pc ls [] S ([], S) := rn_ret hM hd (by rw [hr]; rfl)
theorem am_s_id {z : Int} (h1 : -2147483648 ≤ z) (h2 : z ≤ 2147483647) : am_s z = z := by
  unfold am_s
  exact Int32.toInt_ofInt_of_le (by omega) (by omega)
theorem am_t_id {z : Int} (h1 : -9223372036854775808 ≤ z) (h2 : z ≤ 9223372036854775807) : am_t z = z := by
  unfold am_t
  exact Int64.toInt_ofInt_of_le (by omega) (by omega)
theorem am_s_rng (z : Int) : -2147483648 ≤ am_s z ∧ am_s z ≤ 2147483647 := ⟨Int32.le_toInt _, by have := Int32.toInt_lt (Int32.ofInt z); unfold am_s; omega⟩
end RS
def shL : List Nat := [2, 7, 15, 20]
def rowL : List Nat := [25, 27, 29, 31]
theorem rcvS {s : Nat} (hs : s ∈ shL) (m : am_M) : am_rcv (st0 m) 8 (.inr (.inr (some s))) = true := by
  have h : ∀ s ∈ shL, (am_SH[s]?).map (fun sh => decide (sh.1 + 1 = 8) && decide (sh.1 < 9)) = some true := by decide +kernel
  obtain ⟨sh, h1, h2⟩ := Option.map_eq_some_iff.mp (h s hs)
  unfold am_rcv
  show (match am_SH[s]? with | some sh => _ | none => _) = true
  rw [h1]
  exact h2
theorem rcvR {s : Nat} (hs : s ∈ rowL) (m : am_M) : am_rcv (st0 m) 7 (.inr (.inr (some s))) = true := by
  have h : ∀ s ∈ rowL, (am_SH[s]?).map (fun sh => decide (sh.1 + 1 = 7) && decide (sh.1 < 9)) = some true := by decide +kernel
  obtain ⟨sh, h1, h2⟩ := Option.map_eq_some_iff.mp (h s hs)
  unfold am_rcv
  show (match am_SH[s]? with | some sh => _ | none => _) = true
  rw [h1]
  exact h2
theorem rfRows {j : Int} (hj : 0 ≤ am_s j ∧ am_s j < (4 : Nat)) : am_RF 14 (am_s j).toNat = some (25 + 2 * (am_s j).toNat) ∧ 25 + 2 * (am_s j).toNat ∈ rowL := by
  have h : ∀ k, k < 4 → am_RF 14 k = some (25 + 2 * k) ∧ 25 + 2 * k ∈ rowL := by decide +kernel
  exact h _ (by omega)
theorem rfPics {j : Int} (hj : 0 ≤ am_s j ∧ am_s j < (2 : Nat)) : am_RF 12 (am_s j).toNat = some (15 + 5 * (am_s j).toNat) ∧ 15 + 5 * (am_s j).toNat ∈ shL := by
  have h : ∀ k, k < 2 → am_RF 12 k = some (15 + 5 * k) ∧ 15 + 5 * k ∈ shL := by decide +kernel
  exact h _ (by omega)
theorem shSk {s : Nat} (hs : s ∈ shL) : s < 1000 ∧ am_SH[s + 1]? = some (100, 12) ∧ am_SH[s + 2]? = some (100, 12) ∧ am_SH[s + 3]? = some (100, 12) ∧ am_SH[s + 4]? = some (100, 12) := by
  have h : ∀ s ∈ shL, s < 1000 ∧ am_SH[s + 1]? = some (100, 12) ∧ am_SH[s + 2]? = some (100, 12) ∧ am_SH[s + 3]? = some (100, 12) ∧ am_SH[s + 4]? = some (100, 12) := by decide +kernel
  exact h s hs
theorem shRk {s : Nat} (hs : s ∈ rowL) : s < 1000 ∧ am_SH[s + 1]? = some (101, 40) := by
  have h : ∀ s ∈ rowL, s < 1000 ∧ am_SH[s + 1]? = some (101, 40) := by decide +kernel
  exact h s hs
