set_option maxHeartbeats 1000000 in
theorem am_start {p : Program} {e : Env} {s : State} {m : MethodId} {below : List Frame} {meth : Method} {c : Code} (l : Launch) {b L : Nat} {xs : Nat → Int32} (C0 : lw_At p s m meth c b L xs) (hX0 : ∃ (n : Nat) (S' : am_S), am_X (am_fx L xs) n 200 (76, 400000) 0 0 (am_ent 4 [am_R 1000]) [] am_S0 = some ([.inl 1], S')) (hL : L ≤ 3072) : W p l e room_1 s m #[Value.ref b] below meth c s.heap [] 0 0 (lw_Z below #[Value.ref b] s) (entryFrame m ([Value.ref b] : List Value).toArray 4) := by
  obtain ⟨hx, hb, hr, hml, hown, hts, hX, hbl, hlocks, hgv⟩ := C0
  obtain ⟨n, S', hrun⟩ := hX0
  have hfl : ∀ w ∈ am_fl, w.before #[Value.ref b] s = true := flat_of_before _ hgv
  have htb : ∀ w ∈ tables_1, w.before #[Value.ref b] s = true := fun w hw => hts w (List.mem_append_right _ hw)
  have hT : ∀ w ∈ am_T, w.before #[Value.ref b] s = true := fun w hw => hts w (List.mem_filter.mp hw).1
  have hA : ∀ a : Nat, a < s.heap.size → ¬ am_A s.heap.size a := fun a h q => Nat.not_le.mpr h q
  obtain ⟨tL, hLv, hLT⟩ := va_Tof (N := 5) (f := fun j => .int (([1, 0, 1, 1, 0] : List Int32).getD j 0)) (A := am_A s.heap.size) (by decide) (hfl _ am_st12.1) (va_eqt (hfl _ am_st12.2.2.1)) (fun j hj => va_eqt (hfl _ (am_st10 j hj))) hA
  obtain ⟨tM, hMv, hMT⟩ := va_Tof (N := 5) (f := fun j => .int (([40, 20, 12, 6, 9] : List Int32).getD j 0)) (A := am_A s.heap.size) (by decide) (hfl _ am_st12.2.1) (va_eqt (hfl _ am_st12.2.2.2.1)) (fun j hj => va_eqt (hfl _ (am_st11 j hj))) hA
  obtain ⟨adK, adV, hSS, hSe⟩ := vk_Sof (args := #[Value.ref b]) (s := s) (N := 12) (tm := am_tm) (len := am_len) (byt := am_byt) (A := am_A s.heap.size) am_st8 (fun i hi => hfl _ (am_st1 i hi)) (fun i hi => hfl _ (am_st2 i hi)) (fun i hi => hfl _ (am_st3 i hi)) (fun i hi => hfl _ (am_st4 i hi)) (fun i hi j hj => hfl _ (am_st5 i hi j hj)) (fun i j hi hj hij => (am_st6 i hi j hj hij).imp (hfl _) (hfl _)) hA
  have hZ0 := am_st13 ((13, 1053), Sum.inr 4000, "jdk/internal/util/Preconditions", "SIOOBE_FORMATTER", "Ljava/util/function/BiFunction;") (List.mem_of_getElem? (i := 1) rfl)
  obtain ⟨vS, hvS, hZS⟩ : ∃ v : Value, (v = .null ∨ ∃ x, v = .ref x) ∧ va_Z "jdk/internal/util/Preconditions" "SIOOBE_FORMATTER" "Ljava/util/function/BiFunction;" v (am_A s.heap.size) s s.heap := by
    rcases va_Zqof (A := am_A s.heap.size) (htb _ hZ0.1) (htb _ hZ0.2) (hfl _ am_st12.2.2.2.2.2) hA with h | ⟨t, h⟩
    · exact ⟨.null, Or.inl rfl, h⟩
    · exact ⟨.ref t, Or.inr ⟨t, rfl⟩, h⟩
  have hAO1 : va_AO "HeardBarrels$Shelf" s := va_AO.of (htb _ am_st15.1)
  have hAO2 : va_AO "HeardBarrels$Row" s := va_AO.of (htb _ am_st15.2.1)
  obtain ⟨c0, hc0⟩ := am_tyK (ty := .int) (fun C q => by cases q) (hT _ (am_wd_in am_arA.1))
  obtain ⟨c1, hc1⟩ := am_tyK (ty := .long) (fun C q => by cases q) (hT _ (am_wd_in am_arA.2.1))
  obtain ⟨c2, hc2⟩ := am_tyK (ty := .byte) (fun C q => by cases q) (hT _ (am_wd_in am_arA.2.2.1))
  obtain ⟨c3, hc3⟩ := am_tyK (ty := .boolean) (fun C q => by cases q) (hT _ (am_wd_in am_arA.2.2.2))
  obtain ⟨c4, hc4⟩ := am_tyO hAO1
  obtain ⟨c5, hc5⟩ := am_tyO hAO2
  obtain ⟨dC, hdC⟩ : ∃ dC : Nat → ClassId, ∀ k : Nat, ∃ iS : Nat → Nat, ∀ q : vw_C, am_cl[k]? = some q → u_Kn s q.1 q.2.1 q.2.2 (dC k) iS := by
    have h0 : ∀ k : Nat, ∃ (cc : ClassId), ∃ iS : Nat → Nat, ∀ q : vw_C, am_cl[k]? = some q → u_Kn s q.1 q.2.1 q.2.2 cc iS := by
      intro k
      cases hk : am_cl[k]? with
      | none => exact ⟨0, fun _ => 0, fun q hq => by cases hq⟩
      | some q =>
        obtain ⟨cC, iS, h⟩ := u_known (C := q.1) (T := q.2.1) (N := q.2.2) hT (fun w hw => am_wd_in (List.all_eq_true.mp (List.all_eq_true.mp am_clA q (List.mem_of_getElem? hk)) w hw)) (htb _ (am_st16 q (List.mem_of_getElem? hk)))
        exact ⟨cC, iS, fun q' hq' => by cases hq'; exact h⟩
    exact Classical.axiomOfChoice h0
  obtain ⟨dI, hdI⟩ := Classical.axiomOfChoice hdC
  let cA : Nat → ClassId := fun t => if t = 100 then c0 else if t = 101 then c1 else if t = 102 then c2 else if t = 103 then c3 else if t = 200 then c4 else c5
  let fo : Nat → Value := fun r => if r = 1000 then .ref b else if r = 1001 then .ref tL else if r = 1002 then .ref tM else if 2000 ≤ r ∧ r < 2012 then .ref (adK (r - 2000)) else if 3000 ≤ r ∧ r < 3012 then .ref (adV (r - 3000)) else if r = 4000 then vS else .null
  have f0 : fo 1000 = .ref b := rfl
  have f1 : fo 1001 = .ref tL := rfl
  have f2 : fo 1002 = .ref tM := rfl
  have f3 : ∀ i, i < 12 → fo (2000 + i) = .ref (adK i) := by
    intro i hi
    show (if 2000 + i = 1000 then _ else _) = _
    rw [if_neg (by omega), if_neg (by omega), if_neg (by omega), if_pos (by omega), show 2000 + i - 2000 = i by omega]
  have f4 : ∀ i, i < 12 → fo (3000 + i) = .ref (adV i) := by
    intro i hi
    show (if 3000 + i = 1000 then _ else _) = _
    rw [if_neg (by omega), if_neg (by omega), if_neg (by omega), if_neg (by omega), if_pos (by omega), show 3000 + i - 3000 = i by omega]
  have f5 : fo 4000 = vS := rfl
  have hG : am_G fo (am_fx L xs) := by
    refine ⟨fun r => ?_, fun r hr => ?_⟩
    · show (if r = 1000 then Value.ref b else _) = _ ∨ ∃ x, (if r = 1000 then Value.ref b else _) = _
      by_cases h1 : r = 1000
      · rw [if_pos h1]; exact Or.inr ⟨_, rfl⟩
      rw [if_neg h1]
      by_cases h2 : r = 1001
      · rw [if_pos h2]; exact Or.inr ⟨_, rfl⟩
      rw [if_neg h2]
      by_cases h3 : r = 1002
      · rw [if_pos h3]; exact Or.inr ⟨_, rfl⟩
      rw [if_neg h3]
      by_cases h4 : 2000 ≤ r ∧ r < 2012
      · rw [if_pos h4]; exact Or.inr ⟨_, rfl⟩
      rw [if_neg h4]
      by_cases h5 : 3000 ≤ r ∧ r < 3012
      · rw [if_pos h5]; exact Or.inr ⟨_, rfl⟩
      rw [if_neg h5]
      by_cases h6 : r = 4000
      · rw [if_pos h6]; exact hvS
      rw [if_neg h6]
      exact Or.inl rfl
    · unfold am_fx
      by_cases h1 : r = 1000
      · rw [if_pos h1]; exact Or.inr (Or.inl rfl)
      rw [if_neg h1]
      by_cases h2 : r = 1001
      · rw [if_pos h2]; exact Or.inr (Or.inl rfl)
      rw [if_neg h2]
      by_cases h3 : r = 1002
      · rw [if_pos h3]; exact Or.inr (Or.inl rfl)
      rw [if_neg h3]
      by_cases h4 : 3000 ≤ r ∧ r < 3012
      · rw [if_pos h4]; exact Or.inr (Or.inr rfl)
      rw [if_neg h4]
      exact Or.inl rfl
  have hK : va_K (dC, dI) am_cl (am_tys cA) s := by
    refine ⟨fun k q hq => hdI k q hq, fun k q hq => ?_⟩
    match k, hq with
    | 0, hq => cases hq; exact hc0
    | 1, hq => cases hq; exact hc1
    | 2, hq => cases hq; exact hc2
    | 3, hq => cases hq; exact hc3
    | 4, hq => cases hq; exact hc4
    | 5, hq => cases hq; exact hc5
    | k + 6, hq => simp [am_tys] at hq
  have hXT : va_T .int b L (fun j => .int (Int32.ofInt (xs j).toInt)) (am_A s.heap.size) s s.heap := by
    obtain ⟨scr, h1, h2, h3, h4, h5⟩ := hX
    exact ⟨scr, h1, h2, h3, Nat.le_of_eq h4.symm, by rw [h4] <;> rfl, fun j hj => by show _ = some (Value.int (Int32.ofInt (xs j).toInt)); rw [Int32.ofInt_toInt]; exact h5 j hj, hA b hbl⟩
  have hF : am_F dC dI cA s.heap.size fo (am_fx L xs) s := by
    refine ⟨hK, fun r hr h => ?_, fun r hr h => ?_, fun i hi => ?_, fun q hq => ?_, fun q hq => ?_, hAO1, hAO2, va_Nw.of rfl (htb _ am_st15.2.2)⟩
    · by_cases h1 : r = 1000
      · subst h1; exact ⟨b, f0, hXT⟩
      by_cases h2 : r = 1001
      · subst h2; exact ⟨tL, f1, am_vT hLT (fun j hj => congrArg Value.int (am_st18 j hj).1)⟩
      by_cases h3 : r = 1002
      · subst h3; exact ⟨tM, f2, am_vT hMT (fun j hj => congrArg Value.int (am_st18 j hj).2)⟩
      exfalso
      unfold am_fx at h
      rw [if_neg h1, if_neg h2, if_neg h3] at h
      split at h <;> cases h
    · unfold am_fx at h
      by_cases h1 : r = 1000
      · rw [if_pos h1] at h; cases h
      by_cases h2 : r = 1001
      · rw [if_neg h1, if_pos h2] at h; cases h
      by_cases h3 : r = 1002
      · rw [if_neg h1, if_neg h2, if_pos h3] at h; cases h
      by_cases h4 : 3000 ≤ r ∧ r < 3012
      · obtain ⟨k, rfl⟩ : ∃ k, r = 3000 + k := ⟨r - 3000, by omega⟩
        have hi : k < 12 := by omega
        refine ⟨adV k, f4 k hi, ?_⟩
        have e1 : am_fx L xs (3000 + k) = (102, am_len.getD k 0, fun j => (am_strs.getD k []).getD j 0) := by
          unfold am_fx
          rw [if_neg h1, if_neg h2, if_neg h3, if_pos h4, Nat.add_sub_cancel_left]
        rw [e1]
        have e2 := (hSS.1 k hi).2.2.2
        have e3 : ∀ j, j < am_len.getD k 0 → Value.int ((am_byt.getD k []).getD j 0) = Value.int (Int32.ofInt ((am_strs.getD k []).getD j 0)) := fun j hj => congrArg Value.int (am_st7 k hi j hj)
        exact am_vT e2 e3
      · rw [if_neg h1, if_neg h2, if_neg h3, if_neg h4] at h; cases h
    · obtain ⟨g1, g2, g3, g4⟩ := hSS.1 i hi
      exact ⟨adK i, adV i, f3 i hi, f4 i hi, g1, g2, g3⟩
    · obtain ⟨i, hi⟩ := List.getElem?_of_mem hq
      have hl : i < 12 := by
        have := (List.getElem?_eq_some_iff.mp hi).1
        have e : am_ptL.length = 12 := by decide +kernel
        omega
      have e2 := am_st17 i hl
      rw [hi] at e2
      have e2 : q.2.1 = i := Option.some.inj e2
      refine ⟨adK i, by rw [e2]; exact f3 i hl, vk_R.of (htb _ (am_st14 q hq)) ?_⟩
      have e3 := hSe i hl
      unfold am_tm at e3
      rw [hi] at e3
      exact e3
    · have hz := am_st13 q hq
      simp only [am_psL, List.mem_cons, List.not_mem_nil, or_false] at hq
      rcases hq with rfl | rfl | rfl | rfl
      · exact va_Zof (htb _ hz.1) (htb _ hz.2) (va_eqt (hfl _ am_st12.2.2.2.2.1)) hA
      · show va_Z _ _ _ (am_cv s.heap.size fo 4000) _ _ _
        rw [am_cvf (by decide), f5]
        exact hZS
      · show va_Z _ _ _ (am_cv s.heap.size fo 1001) _ _ _
        rw [am_cvf (by decide), f1]
        exact va_Zof (htb _ hz.1) (htb _ hz.2) hLv hA
      · show va_Z _ _ _ (am_cv s.heap.size fo 1002) _ _ _
        rw [am_cvf (by decide), f2]
        exact va_Zof (htb _ hz.1) (htb _ hz.2) hMv hA
  have hb1 : am_c (am_cv s.heap.size fo) (am_R 1000) = .ref b := (am_cvf (by decide)).trans f0
  have hent := am_ent_L (base := s.heap.size) (fo := fo) (fx := am_fx L xs) hG (a := [am_R 1000]) (nL := 4) (by decide)
  rw [List.map_cons, List.map_nil, hb1] at hent
  rw [lg_entry_eq]
  have hP : am_P dC dI cA s.heap.size fo am_S0 s.heap := ⟨by decide, fun k q hq => by simp [am_wl, am_S0] at hq⟩
  refine am_sound (dC := dC) (dI := dI) (cA := cA) (base := s.heap.size) (fo := fo) (fx := am_fx L xs) l hG n 200 (76, 400000) 0 0 (am_ent 4 [am_R 1000]) [] am_S0 _ _ hrun _ rfl p e room_1 s m #[Value.ref b] below meth c s.heap [] 0 0 _ _ hx hb hml hown (fun h => by cases h) hT hF (Nat.le_refl _) (by decide) (by decide) rfl ⟨by decide, by decide⟩ va_S.rf hP hent ?_
  intro pc lsA H locs cells slots i len st hdg hret0 hS hP hc
  refine va_forget (fun q hq => hS.2.2 q hq) ?_
  refine W.widen (k := 600000) (n := 7302250) hc.1 hc.2 ?_
  have hret : am_ret (some .boolean) i len st = some [.inl 1] := hret0
  clear hret0
  unfold am_ret at hret
  split at hret
  · rename_i hl
    subst hl
    split at hret
    · cases hret
    · simp only at hret
      split at hret
      · cases hret
        exact lw_ret hx hb hr hlocks hdg
      · cases hret
    · simp at hret
    · cases hret
    · cases hret
  · cases hret
