/-! RUNS OF THE ABSTRACT MACHINE: rules -/
theorem am_mono (fx : am_X0) : ∀ (n d : Nat) (cr : Nat × Nat) (mi pc : Nat) (ls : am_Ls) (st : List am_V) (S : am_S) (o : List am_V × am_S), am_X fx n d cr mi pc ls st S = some o → ∀ n' d' : Nat, n ≤ n' → d ≤ d' → am_X fx n' d' cr mi pc ls st S = some o := by
  intro n
  induction n with
  | zero => intro d cr mi pc ls st S o h; cases h
  | succ n ih =>
    intro d cr mi pc ls st S o h n' d' hn hd
    obtain ⟨k, rfl⟩ : ∃ k, n' = k + 1 := ⟨n' - 1, by omega⟩
    have hnk : n ≤ k := by omega
    unfold am_X at h ⊢
    cases hM : am_ms[mi]? with
    | none => rw [hM] at h; cases h
    | some M =>
      simp only [hM] at h ⊢
      cases hdc : decode M.2.2.1 pc with
      | error x => rw [hdc] at h; cases h
      | ok q =>
        obtain ⟨i, len⟩ := q
        simp only [hdc] at h ⊢
        cases hr : am_ret M.2.2.2.2.1 i len st with
        | some r => simp only [hr] at h ⊢; exact h
        | none =>
          simp only [hr] at h ⊢
          cases hs : am_stp fx M.1 M.2.2.2.2.2.1 M.2.2.2.1 i len pc ls st S cr with
          | some q => simp only [hs] at h ⊢; exact ih _ _ _ _ _ _ _ _ h _ _ hnk hd
          | none =>
            simp only [hs] at h ⊢
            cases d with
            | zero => cases h
            | succ d0 =>
              obtain ⟨d1, rfl⟩ : ∃ d1, d' = d1 + 1 := ⟨d' - 1, by omega⟩
              simp only at h ⊢
              by_cases hl : len = 3
              · simp only [if_pos hl] at h ⊢
                by_cases hob : am_obj M.1 i = true
                · simp only [if_pos hob] at h ⊢
                  split at h
                  · split at h
                    · rename_i hc
                      simp only [if_pos hc]
                      exact ih _ _ _ _ _ _ _ _ h _ _ hnk hd
                    · cases h
                  · cases h
                · simp only [if_neg hob] at h ⊢
                  cases hc : am_cal M.1 i with
                  | none => rw [hc] at h; cases h
                  | some c =>
                    simp only [hc] at h ⊢
                    cases hN : am_ms[c.1]? with
                    | none => rw [hN] at h; cases h
                    | some N =>
                      simp only [hN] at h ⊢
                      by_cases hcr : N.2.2.2.2.2.2.2.1 ≤ cr.1 ∧ N.2.2.2.2.2.2.2.2 ≤ cr.2
                      · simp only [if_pos hcr] at h ⊢
                        generalize (N.2.2.2.2.2.2.1 + if c.2 = 2 then 0 else 1) = ka at h ⊢
                        split at h
                        · rename_i ha
                          rw [if_pos ha]
                          split at h
                          · rename_i q hq
                            rw [ih _ _ _ _ _ _ _ _ hq k d1 hnk (by omega)]
                            simp only
                            split at h
                            · rename_i hlen
                              rw [if_pos hlen]
                              exact ih _ _ _ _ _ _ _ _ h _ _ hnk hd
                            · cases h
                          · cases h
                        · cases h
                      · simp only [if_neg hcr] at h; cases h
              · simp only [if_neg hl] at h; cases h
/-- from here the method comes to its end with o -/
def rn (fx : am_X0) (d : Nat) (cr : Nat × Nat) (mi pc : Nat) (ls : am_Ls) (st : List am_V) (S : am_S) (o : List am_V × am_S) : Prop := ∃ n, am_X fx n d cr mi pc ls st S = some o
section RN
variable {fx : am_X0} {d d' mi pc : Nat} {cr : Nat × Nat} {ls : am_Ls} {st : List am_V} {S : am_S} {o : List am_V × am_S} {M : am_MT} {i : Instr} {len : Nat}
theorem rn.mono (h : rn fx d cr mi pc ls st S o) (hd : d ≤ d') : rn fx d' cr mi pc ls st S o := by
  obtain ⟨n, h⟩ := h
  exact ⟨n, am_mono fx n d cr mi pc ls st S o h n d' (Nat.le_refl _) hd⟩
theorem rn_ret (hM : am_ms[mi]? = some M) (hd : decode M.2.2.1 pc = .ok (i, len)) {r : List am_V} (hr : am_ret M.2.2.2.2.1 i len st = some r) : rn fx d cr mi pc ls st S (r, S) := by
  refine ⟨1, ?_⟩
  unfold am_X
  simp only [hM, hd, hr]
theorem rn_stp (hM : am_ms[mi]? = some M) (hd : decode M.2.2.1 pc = .ok (i, len)) (hr : am_ret M.2.2.2.2.1 i len st = none) {q : Nat × am_Ls × List am_V × am_S × (Nat × Nat)} (hs : am_stp fx M.1 M.2.2.2.2.2.1 M.2.2.2.1 i len pc ls st S cr = some q) (k : rn fx d q.2.2.2.2 mi q.1 q.2.1 q.2.2.1 q.2.2.2.1 o) : rn fx d cr mi pc ls st S o := by
  obtain ⟨n, k⟩ := k
  refine ⟨n + 1, ?_⟩
  unfold am_X
  simp only [hM, hd, hr, hs]
  exact k
theorem rn_obj (hM : am_ms[mi]? = some M) {x r : Nat} (hd : decode M.2.2.1 pc = .ok (.invokespecial x, 3)) (ho : am_obj M.1 (.invokespecial x) = true) {q : List am_V} (hr : r < 1000) (hq : (q.map am_cat).sum ≤ 8) (k : rn fx (d + 1) cr mi (pc + 3) ls q S o) : rn fx (d + 1) cr mi pc ls (.inr (.inr (some r)) :: q) S o := by
  obtain ⟨n, k⟩ := k
  refine ⟨n + 1, ?_⟩
  unfold am_X
  have h1 : am_ret M.2.2.2.2.1 (.invokespecial x) 3 (.inr (.inr (some r)) :: q) = none := rfl
  have h2 : am_stp fx M.1 M.2.2.2.2.2.1 M.2.2.2.1 (.invokespecial x) 3 pc ls (.inr (.inr (some r)) :: q) S cr = none := rfl
  simp only [hM, hd, h1, h2, if_true, if_pos ho]
  rw [if_pos ⟨hr, hq⟩]
  exact k
theorem rn_call (hM : am_ms[mi]? = some M) (hd : decode M.2.2.1 pc = .ok (i, 3)) {c : Nat × Nat} (hc : am_cal M.1 i = some c) {N : am_MT} (hN : am_ms[c.1]? = some N) (hcr : N.2.2.2.2.2.2.2.1 ≤ cr.1 ∧ N.2.2.2.2.2.2.2.2 ≤ cr.2) {a q : List am_V} (hp : am_pop (N.2.2.2.2.2.2.1 + if c.2 = 2 then 0 else 1) st = (a, q)) (hl : a.length = N.2.2.2.2.2.2.1 + if c.2 = 2 then 0 else 1) (hq : (q.map am_cat).sum ≤ 8) (hf : (am_flat a).length ≤ N.2.2.2.1) (hv : c.2 = 2 ∨ am_rcv S N.1 (a.headD (.inl 0)) = true) {o1 : List am_V × am_S} {h : Nat} (h1 : rn fx h N.2.2.2.2.2.2.2 c.1 0 (am_ent N.2.2.2.1 a) [] S o1) (hh : h ≤ d) (hlen : o1.2.1.length = S.1.length + N.2.2.2.2.2.2.2.1)
    (k : rn fx (d + 1) (cr.1 - N.2.2.2.2.2.2.2.1, cr.2 - N.2.2.2.2.2.2.2.2) mi (pc + 3) ls (o1.1 ++ q) o1.2 o) : rn fx (d + 1) cr mi pc ls st S o := by
  obtain ⟨n1, h1⟩ := h1
  obtain ⟨n2, k⟩ := k
  refine ⟨max n1 n2 + 1, ?_⟩
  have hob : am_obj M.1 i = false ∧ am_ret M.2.2.2.2.1 i 3 st = none ∧ am_stp fx M.1 M.2.2.2.2.2.1 M.2.2.2.1 i 3 pc ls st S cr = none := by
    unfold am_cal at hc
    split at hc
    · exact ⟨rfl, rfl, rfl⟩
    · rename_i x
      refine ⟨?_, rfl, rfl⟩
      have hne : am_poL.all (fun e => (am_look am_pmL e.1.1 e.1.2).isNone) = true := by decide +kernel
      cases ho : am_look am_poL M.1 x with
      | none => simp [am_obj, ho]
      | some u =>
        have := List.all_eq_true.mp hne _ (am_look_in ho)
        simp only [Option.isNone_iff_eq_none] at this
        rw [this] at hc
        simp at hc
    · exact ⟨rfl, rfl, rfl⟩
    · cases hc
  unfold am_X
  simp only [hM, hd, hob.2.1, hob.2.2, if_true, hob.1, hc, hN, hp]
  rw [if_neg (by decide), if_pos hcr, if_pos ⟨hl, hq, hf, hv⟩, am_mono fx n1 h _ _ _ _ _ _ _ h1 (max n1 n2) d (Nat.le_max_left _ _) hh]
  simp only
  rw [if_pos hlen]
  exact am_mono fx n2 (d + 1) _ _ _ _ _ _ _ k (max n1 n2) (d + 1) (Nat.le_max_right _ _) (Nat.le_refl _)
end RN
