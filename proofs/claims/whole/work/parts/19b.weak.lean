/-! LOCALS THAT NOBODY READS may be forgotten -/
def am_le : am_Ls → am_Ls → Prop
  | [], [] => True
  | none :: a, _ :: b => am_le a b
  | some v :: a, some w :: b => v = w ∧ am_le a b
  | _, _ => False
theorem am_le_get : ∀ {a b : am_Ls} {k : Nat} {v : am_V}, am_le a b → a[k]? = some (some v) → b[k]? = some (some v) := by
  intro a
  induction a with
  | nil => intro b k v h h1; simp at h1
  | cons x a ih =>
    intro b k v h h1
    cases b with
    | nil => cases x <;> exact h.elim
    | cons y b =>
      cases x with
      | none =>
        cases k with
        | zero => simp at h1
        | succ k => exact ih (b := b) h h1
      | some x =>
        cases y with
        | none => exact h.elim
        | some y =>
          obtain ⟨rfl, h⟩ := h
          cases k with
          | zero => exact h1
          | succ k => exact ih (b := b) h h1
theorem am_le_set : ∀ {a b : am_Ls} {k : Nat} {x : Option am_V}, am_le a b → am_le (a.set k x) (b.set k x) := by
  intro a
  induction a with
  | nil =>
    intro b k x h
    cases b with
    | nil => exact h
    | cons y b => exact h.elim
  | cons z a ih =>
    intro b k x h
    cases b with
    | nil => cases z <;> exact h.elim
    | cons y b =>
      cases k with
      | zero =>
        have h2 : am_le a b := by
          cases z with
          | none => exact h
          | some z =>
            cases y with
            | none => exact h.elim
            | some y => exact h.2
        cases x with
        | none => exact h2
        | some x => exact ⟨rfl, h2⟩
      | succ k =>
        cases z with
        | none => exact ih (b := b) h
        | some z =>
          cases y with
          | none => exact h.elim
          | some y => exact ⟨h.1, ih (b := b) h.2⟩
theorem am_le_none : ∀ {a b : am_Ls} {k : Nat}, am_le a b → (∀ v, a[k]? ≠ some (some v)) → am_le a (b.set k none) := by
  intro a
  induction a with
  | nil =>
    intro b k h hn
    cases b with
    | nil => exact h
    | cons y b => exact h.elim
  | cons z a ih =>
    intro b k h hn
    cases b with
    | nil => cases z <;> exact h.elim
    | cons y b =>
      cases k with
      | zero =>
        cases z with
        | none => exact h
        | some z => exact absurd rfl (hn z)
      | succ k =>
        cases z with
        | none => exact ih (b := b) h (fun v q => hn v q)
        | some z =>
          cases y with
          | none => exact h.elim
          | some y => exact ⟨h.1, ih (b := b) h.2 (fun v q => hn v q)⟩
theorem am_le_kill {a b : am_Ls} {k : Nat} (h : am_le a b) : am_le (am_kill a k) (am_kill b k) := by
  cases k with
  | zero => exact h
  | succ j =>
    unfold am_kill
    simp only
    split
    · rename_i z hz
      rw [am_le_get h hz]
      exact am_le_set h
    · rename_i hz
      split
      · rename_i z hb
        refine am_le_none h fun v hv => ?_
        have := am_le_get h hv
        rw [hb] at this
        cases this
        exact hz z hv
      · exact h
theorem am_le_s1 {a b : am_Ls} {k : Nat} {v : am_V} (h : am_le a b) : am_le (am_set1 a k v) (am_set1 b k v) := am_le_set (am_le_kill h)
theorem am_le_s2 {a b : am_Ls} {k : Nat} {v : am_V} (h : am_le a b) : am_le (am_set2 a k v) (am_set2 b k v) := am_le_set (am_le_set (am_le_kill h))
theorem am_ld_le {a b : am_Ls} {i : Instr} {len : Nat} {v : am_V} (h : am_le a b) (hl : am_ld i len a = some v) : am_ld i len b = some v := by
  have g1 : ∀ {k : Nat} {v : am_V}, am_getI a k = some v → am_getI b k = some v := by
    intro k v h1
    unfold am_getI at h1 ⊢
    split at h1
    · rename_i z hz; rw [am_le_get h hz]; exact h1
    · cases h1
  have g2 : ∀ {k : Nat} {v : am_V}, am_getJ a k = some v → am_getJ b k = some v := by
    intro k v h1
    unfold am_getJ at h1 ⊢
    split at h1
    · rename_i z hz; rw [am_le_get h hz]; exact h1
    · cases h1
  have g3 : ∀ {k : Nat} {v : am_V}, am_getR a k = some v → am_getR b k = some v := by
    intro k v h1
    unfold am_getR at h1 ⊢
    split at h1
    · rename_i z hz; rw [am_le_get h hz]; exact h1
    · cases h1
  unfold am_ld at hl ⊢
  split at hl <;> first | (cases hl; done) | (split at hl <;> first | (cases hl; done) | (rename_i hc; simp only [if_pos hc]; first | exact g1 hl | exact g2 hl | exact g3 hl))
theorem am_sto_le {a b : am_Ls} {nL : Nat} {i : Instr} {len : Nat} {st : List am_V} {q : am_Ls × List am_V} (h : am_le a b) (hl : am_sto nL i len a st = some q) : ∃ c, am_sto nL i len b st = some (c, q.2) ∧ am_le q.1 c := by
  unfold am_sto at hl ⊢
  split at hl
  · split at hl
    · rename_i hc; cases hl; exact ⟨_, if_pos hc, am_le_s1 h⟩
    · cases hl
  · split at hl
    · rename_i hc; cases hl; exact ⟨_, if_pos hc, am_le_s1 h⟩
    · cases hl
  · split at hl
    · rename_i hc; cases hl; exact ⟨_, if_pos hc, am_le_s2 h⟩
    · cases hl
  · split at hl
    · rename_i hc; cases hl; exact ⟨_, if_pos hc, am_le_s2 h⟩
    · cases hl
  · split at hl
    · rename_i hc; cases hl; exact ⟨_, if_pos hc, am_le_s1 h⟩
    · cases hl
  · split at hl
    · rename_i hc; cases hl; exact ⟨_, if_pos hc, am_le_s1 h⟩
    · cases hl
  · split at hl
    · rename_i hc
      split at hl
      · rename_i z hz
        cases hl
        refine ⟨_, ?_, am_le_s1 h⟩
        simp only [if_pos hc, am_le_get h hz]
      · cases hl
    · cases hl
  · cases hl
theorem am_stp_le {fx : am_X0} {cn nL pc : Nat} {ini : Bool} {a b : am_Ls} {i : Instr} {len : Nat} {st : List am_V} {S : am_S} {cr : Nat × Nat} {q : Nat × am_Ls × List am_V × am_S × (Nat × Nat)} (h : am_le a b) (hs : am_stp fx cn ini nL i len pc a st S cr = some q) : ∃ c, am_stp fx cn ini nL i len pc b st S cr = some (q.1, c, q.2.2) ∧ am_le q.2.1 c := by
  unfold am_stp at hs
  split at hs
  · rename_i v hv
    cases hs
    exact ⟨b, by unfold am_stp; rw [hv], h⟩
  · rename_i hk
    split at hs
    · rename_i v hv
      cases hs
      exact ⟨b, by unfold am_stp; rw [hk, am_ld_le h hv], h⟩
    · split at hs
      · rename_i v hv
        cases hs
        obtain ⟨c, h1, h2⟩ := am_sto_le h hv
        refine ⟨c, ?_, h2⟩
        unfold am_stp
        rw [hk, (am_sto_k (cn := cn) (rt := none) h1).2.1, h1]
      · split at hs
        · rename_i v hv
          cases hs
          split at hv
          · rename_i hl
            subst hl
            obtain ⟨h1, h2, h3, h4⟩ := am_stk_k (cn := cn) (nL := nL) (rt := none) (ls := b) hv
            exact ⟨b, by unfold am_stp; rw [h1, h2, h3, if_pos rfl, hv], h⟩
          · cases hv
        · split at hs
          · rename_i v hv
            cases hs
            obtain ⟨h1, h2, h3, h4, h5⟩ := am_br_k (cn := cn) (nL := nL) (rt := none) (ls := b) hv
            exact ⟨b, by unfold am_stp; rw [h1, h2, h3, h4, hv]; simp, h⟩
          · split at hs
            · rename_i v hv
              split at hs
              · rename_i hl
                cases hs
                obtain ⟨h0, h1, h2, h3, h4, h5⟩ := am_hp_k (pc := pc) (len := len) (nL := nL) (rt := none) (ls := b) hv
                refine ⟨b, ?_, h⟩
                unfold am_stp
                rw [h1, h2, h3, h4, h5, hv]
                simp [hl]
              · cases hs
            · cases hs
theorem am_X_le (fx : am_X0) : ∀ (n d : Nat) (cr : Nat × Nat) (mi pc : Nat) (a b : am_Ls) (st : List am_V) (S : am_S) (o : List am_V × am_S), am_le a b → am_X fx n d cr mi pc a st S = some o → am_X fx n d cr mi pc b st S = some o := by
  intro n
  induction n with
  | zero => intro d cr mi pc a b st S o hle h; cases h
  | succ n ih =>
    intro d cr mi pc a b st S o hle h
    unfold am_X at h ⊢
    cases hM : am_ms[mi]? with
    | none => rw [hM] at h; cases h
    | some M =>
      simp only [hM] at h ⊢
      cases hdc : decode M.2.2.1 pc with
      | error x => rw [hdc] at h; cases h
      | ok q =>
        obtain ⟨i, len⟩ := q
        simp only [hdc] at h ⊢
        cases hr : am_ret M.2.2.2.2.1 i len st with
        | some r => simp only [hr] at h ⊢; exact h
        | none =>
          simp only [hr] at h ⊢
          cases hs : am_stp fx M.1 M.2.2.2.2.2.1 M.2.2.2.1 i len pc a st S cr with
          | some q =>
            obtain ⟨c, h1, h2⟩ := am_stp_le hle hs
            simp only [hs] at h
            simp only [h1]
            exact ih _ _ _ _ _ _ _ _ _ h2 h
          | none =>
            simp only [hs] at h
            cases d with
            | zero => cases h
            | succ d0 =>
              simp only at h
              by_cases hl : len = 3
              · simp only [if_pos hl] at h
                by_cases hob : am_obj M.1 i = true
                · have hi : ∃ x, i = .invokespecial x := by
                    unfold am_obj at hob
                    split at hob
                    · exact ⟨_, rfl⟩
                    · cases hob
                  obtain ⟨x, rfl⟩ := hi
                  subst hl
                  have hsb : am_stp fx M.1 M.2.2.2.2.2.1 M.2.2.2.1 (.invokespecial x) 3 pc b st S cr = none := rfl
                  simp only [hsb, if_true, if_pos hob]
                  simp only [if_pos hob] at h
                  split at h
                  · split at h
                    · rename_i hc
                      simp only [if_pos hc]
                      exact ih _ _ _ _ _ _ _ _ _ hle h
                    · cases h
                  · cases h
                · simp only [if_neg hob] at h
                  cases hc : am_cal M.1 i with
                  | none => rw [hc] at h; cases h
                  | some c =>
                    subst hl
                    have hsb : am_stp fx M.1 M.2.2.2.2.2.1 M.2.2.2.1 i 3 pc b st S cr = none := by
                      unfold am_cal at hc
                      split at hc
                      · rfl
                      · rfl
                      · rfl
                      · cases hc
                    simp only [hsb, if_true, if_neg hob, hc]
                    simp only [hc] at h
                    cases hN : am_ms[c.1]? with
                    | none => rw [hN] at h; cases h
                    | some N =>
                      simp only [hN] at h ⊢
                      by_cases hcr : N.2.2.2.2.2.2.2.1 ≤ cr.1 ∧ N.2.2.2.2.2.2.2.2 ≤ cr.2
                      · simp only [if_pos hcr] at h ⊢
                        generalize (N.2.2.2.2.2.2.1 + if c.2 = 2 then 0 else 1) = ka at h ⊢
                        split at h
                        · rename_i ha
                          rw [if_pos ha]
                          split at h
                          · rename_i q hq
                            split at h
                            · rename_i hlen
                              rw [if_pos hlen]
                              exact ih _ _ _ _ _ _ _ _ _ hle h
                            · cases h
                          · cases h
                        · cases h
                      · simp only [if_neg hcr] at h; cases h
              · simp only [if_neg hl] at h; cases h
theorem rn_wk {fx : am_X0} {d mi pc : Nat} {cr : Nat × Nat} {a b : am_Ls} {st : List am_V} {S : am_S} {o : List am_V × am_S} (h : am_le a b) (k : rn fx d cr mi pc a st S o) : rn fx d cr mi pc b st S o := by
  obtain ⟨n, k⟩ := k
  exact ⟨n, am_X_le fx n d cr mi pc a b st S o h k⟩
section RK
variable {fx : am_X0} {d mi pc pc' : Nat} {cr : Nat × Nat} {ls : am_Ls} {st : List am_V} {o : List am_V × am_S} {M : am_MT} {m : am_M}
theorem r_isk {r n k0 : Nat} {j z : Int} (hM : am_ms[mi]? = some M) (hd : decode M.2.2.1 pc = .ok (.iastore, 1)) (hp : pc + 1 = pc') (h : am_SH[r]? = some (100, n)) (hj : 0 ≤ am_s j ∧ am_s j < n) (hk : (am_s j).toNat = k0) (k : rn fx d cr mi pc' ls st (st0 (mu m r k0 z)) o) : rn fx d cr mi pc ls (.inl z :: .inl j :: .inr (.inr (some r)) :: st) (st0 m) o := r_is hM hd hp h hj (by rw [hk]; exact k)
theorem r_bsk {r n k0 : Nat} {j z : Int} (hM : am_ms[mi]? = some M) (hd : decode M.2.2.1 pc = .ok (.bastore, 1)) (hp : pc + 1 = pc') (h : am_SH[r]? = some (102, n)) (hj : 0 ≤ am_s j ∧ am_s j < n) (hk : (am_s j).toNat = k0) (k : rn fx d cr mi pc' ls st (st0 (mu m r k0 (am_b8 z))) o) : rn fx d cr mi pc ls (.inl z :: .inl j :: .inr (.inr (some r)) :: st) (st0 m) o := r_bs hM hd hp h hj (by rw [hk]; exact k)
theorem r_zsk {r n k0 : Nat} {j z : Int} (hM : am_ms[mi]? = some M) (hd : decode M.2.2.1 pc = .ok (.bastore, 1)) (hp : pc + 1 = pc') (h : am_SH[r]? = some (103, n)) (hj : 0 ≤ am_s j ∧ am_s j < n) (hk : (am_s j).toNat = k0) (k : rn fx d cr mi pc' ls st (st0 (mu m r k0 (am_b1 z))) o) : rn fx d cr mi pc ls (.inl z :: .inl j :: .inr (.inr (some r)) :: st) (st0 m) o := r_zs hM hd hp h hj (by rw [hk]; exact k)
theorem r_lsk {r n k0 : Nat} {j z : Int} (hM : am_ms[mi]? = some M) (hd : decode M.2.2.1 pc = .ok (.lastore, 1)) (hp : pc + 1 = pc') (h : am_SH[r]? = some (101, n)) (hj : 0 ≤ am_s j ∧ am_s j < n) (hk : (am_s j).toNat = k0) (k : rn fx d cr mi pc' ls st (st0 (mu m r k0 z)) o) : rn fx d cr mi pc ls (.inr (.inl z) :: .inl j :: .inr (.inr (some r)) :: st) (st0 m) o := r_ls hM hd hp h hj (by rw [hk]; exact k)
end RK
