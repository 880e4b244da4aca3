/-! EACH STEP OF THE ABSTRACT MACHINE IS A WALK OF THE MACHINE -/
def am_lv (cv : Nat → Value) (ls : am_Ls) : List (Nat × Value) := ls.zipIdx.filterMap (fun q => q.1.map (fun v => (q.2, am_c cv v)))
theorem am_lv_in {cv : Nat → Value} {ls : am_Ls} {q : Nat × Value} : q ∈ am_lv cv ls ↔ ∃ v, ls[q.1]? = some (some v) ∧ q.2 = am_c cv v := by
  unfold am_lv
  rw [List.mem_filterMap]
  constructor
  · rintro ⟨⟨o, i⟩, h1, h2⟩
    have h3 := List.mem_zipIdx_iff_getElem?.mp h1
    simp only at h2 h3
    cases o with
    | none => cases h2
    | some v =>
      cases h2
      exact ⟨v, h3, rfl⟩
  · rintro ⟨v, h1, h2⟩
    refine ⟨(some v, q.1), List.mem_zipIdx_iff_getElem?.mpr h1, ?_⟩
    simp only [Option.map_some]
    rw [← h2]
def am_L (cv : Nat → Value) (lsA : Array Slot) (nL : Nat) (ls : am_Ls) : Prop := lv_has lsA nL (am_lv cv ls)
theorem am_L_at {cv : Nat → Value} {lsA : Array Slot} {nL : Nat} {ls : am_Ls} (h : am_L cv lsA nL ls) {k : Nat} {v : am_V} (hk : ls[k]? = some (some v)) : lsA[k]? = some (.val (am_c cv v)) :=
  h.2.2 (k, am_c cv v) (am_lv_in.mpr ⟨v, hk, rfl⟩)
theorem am_L_sub {cv : Nat → Value} {lsA : Array Slot} {nL : Nat} {ls : am_Ls} {l : List (Nat × Value)} (h : lv_has lsA nL l) (hs : ∀ q ∈ am_lv cv ls, q ∈ l) : am_L cv lsA nL ls := ⟨h.1, h.2.1, fun q hq => h.2.2 q (hs q hq)⟩
theorem am_kill_get {ls : am_Ls} {k a : Nat} {v : am_V} (h : (am_kill ls k)[a]? = some (some v)) : ls[a]? = some (some v) ∧ ¬ (a + 1 = k ∧ am_cat v = 2) := by
  unfold am_kill at h
  split at h
  · exact ⟨h, fun q => by omega⟩
  · rename_i j
    split at h
    · rename_i w hw
      rw [List.getElem?_set] at h
      by_cases e : j = a
      · subst e
        rw [if_pos rfl] at h
        split at h <;> cases h
      · rw [if_neg e] at h
        exact ⟨h, fun q => by omega⟩
    · rename_i hw
      refine ⟨h, fun q => ?_⟩
      have e : a = j := by omega
      subst e
      match v, q.2 with
      | .inl z, q => cases q
      | .inr (.inl z), _ => exact hw z h
      | .inr (.inr none), q => cases q
      | .inr (.inr (some z)), q => cases q
section AMS
variable {p : Program} {l : Launch} {e : Env} {R : Room} {s : State} {m : MethodId} {args : Array Value} {below : List Frame} {meth : Method} {c : Code} {H : Heap} {locs : List Loc} {cells slots : Nat} {Q : State → Prop} {cc : ByteArray} {pc : Nat} {lsA : Array Slot} {rest : List Value}
variable {base : Nat} {fo : Nat → Value} {cA : Nat → ClassId} {dC : Nat → ClassId} {dI : Nat → Nat → Nat} {fx : am_X0} {S : am_S}
theorem am_k_ok (hx : p.tables.exec = Jvm.exec) (hb : c.code = cc) (hts : ∀ w ∈ am_T, w.before args s = true) {cn : Nat} (hown : s.vm.findClass (am_cn cn) = some m.cls) (hF : am_F dC dI cA base fo fx s) (hS : va_S (am_A base) s.heap H locs) {i : Instr} {len : Nat} {v : am_V} (hdg : decode cc pc = .ok (i, len)) (h : am_k cn i len = some v)
    (kk : W p l e R s m args below meth c H locs cells slots Q (F0 m (pc + len) lsA (am_c (am_cv base fo) v :: rest))) : W p l e R s m args below meth c H locs cells slots Q (F0 m pc lsA rest) := by
  unfold am_k at h
  split at h
  · split at h
    · rename_i hl; subst hl; cases h
      exact lv_iconst hx hb hdg rfl kk
    · cases h
  · split at h
    · rename_i hl; subst hl; cases h
      exact lv_bipush hx hb hdg rfl kk
    · cases h
  · split at h
    · rename_i hl; subst hl; cases h
      exact lv_sipush hx hb hdg rfl kk
    · cases h
  · rename_i n
    split at h
    · rename_i hl; subst hl; cases h
      refine lv_lconst hx hb hdg ?_ kk
      match n with
      | 0 => rfl
      | 1 => rfl
    · cases h
  · split at h
    · rename_i hl; subst hl
      split at h
      · rename_i z hz
        cases h
        have hw := List.all_eq_true.mp am_pkA _ (am_look_in hz)
        exact lv_ldc hx hb hown (hts _ (am_wd_in hw)) hdg kk
      · obtain ⟨k, hk, rfl⟩ := Option.map_eq_some_iff.mp h
        obtain ⟨x, e1, e2⟩ := hF.2.2.2.2.1 _ (am_look_in hk)
        refine va_ldcS hx hb hown e2 hdg ?_
        have e3 : am_c (am_cv base fo) (am_R (2000 + k.1)) = .ref x := (am_cvf (by omega)).trans e1
        rw [e3] at kk
        exact kk
    · cases h
  · split at h
    · rename_i hl; subst hl
      obtain ⟨z, hz, rfl⟩ := Option.map_eq_some_iff.mp h
      have hw := List.all_eq_true.mp am_pkA _ (am_look_in hz)
      exact lv_ldcw hx hb hown (hts _ (am_wd_in hw)) hdg kk
    · cases h
  · split at h
    · rename_i hl; subst hl
      obtain ⟨z, hz, rfl⟩ := Option.map_eq_some_iff.mp h
      have hw := List.all_eq_true.mp am_plA _ (am_look_in hz)
      exact lv_ldc2 hx hb hown (hts _ (am_wd_in hw)) hdg kk
    · cases h
  · split at h
    · rename_i hl; subst hl
      obtain ⟨z, hz, rfl⟩ := Option.map_eq_some_iff.mp h
      have hw := List.all_eq_true.mp am_psA _ (am_look_in hz)
      have hZ := hF.2.2.2.2.2.1 _ (am_look_in hz)
      exact va_gets hx hb hZ hS hown (hts _ (am_wd_in hw)) (fun _ q => q) hdg kk
    · cases h
  · cases h
theorem am_ld_ok (hx : p.tables.exec = Jvm.exec) (hb : c.code = cc) (hG : am_G fo fx) {nL : Nat} {ls : am_Ls} (hL : am_L (am_cv base fo) lsA nL ls) {i : Instr} {len : Nat} {v : am_V} (hdg : decode cc pc = .ok (i, len)) (h : am_ld i len ls = some v)
    (kk : W p l e R s m args below meth c H locs cells slots Q (F0 m (pc + len) lsA (am_c (am_cv base fo) v :: rest))) : W p l e R s m args below meth c H locs cells slots Q (F0 m pc lsA rest) := by
  have gI : ∀ {k : Nat} {v : am_V}, am_getI ls k = some v → ∃ z, v = .inl z ∧ lsA[k]? = some (.val (.int (Int32.ofInt z))) := by
    intro k v h
    unfold am_getI at h
    split at h
    · rename_i z hz
      cases h
      exact ⟨z, rfl, am_L_at hL hz⟩
    · cases h
  have gJ : ∀ {k : Nat} {v : am_V}, am_getJ ls k = some v → ∃ z, v = .inr (.inl z) ∧ lsA[k]? = some (.val (.long (Int64.ofInt z))) := by
    intro k v h
    unfold am_getJ at h
    split at h
    · rename_i z hz
      cases h
      exact ⟨z, rfl, am_L_at hL hz⟩
    · cases h
  have gR : ∀ {k : Nat} {v : am_V}, am_getR ls k = some v → (am_c (am_cv base fo) v = .null ∧ lsA[k]? = some (.val .null)) ∨ ∃ x, am_c (am_cv base fo) v = .ref x ∧ lsA[k]? = some (.val (.ref x)) := by
    intro k v h
    unfold am_getR at h
    split at h
    · rename_i z hz
      cases h
      have h1 := am_L_at hL hz
      cases z with
      | none => exact Or.inl ⟨rfl, h1⟩
      | some r =>
        have e : am_c (am_cv base fo) (Sum.inr (Sum.inr (some r))) = am_cv base fo r := rfl
        rw [e] at h1 ⊢
        rcases am_cvn (base := base) hG r with q | ⟨x, q⟩
        · rw [q] at h1
          exact Or.inl ⟨q, h1⟩
        · rw [q] at h1
          exact Or.inr ⟨x, q, h1⟩
    · cases h
  unfold am_ld at h
  split at h
  · split at h
    · rename_i hl; subst hl
      obtain ⟨z, rfl, hz⟩ := gI h
      exact lv_iload hx hb hdg hz kk
    · cases h
  · split at h
    · rename_i hl; subst hl
      obtain ⟨z, rfl, hz⟩ := gI h
      exact lv_iload_n hx hb hdg rfl hz kk
    · cases h
  · split at h
    · rename_i hl; subst hl
      obtain ⟨z, rfl, hz⟩ := gJ h
      exact lv_lload hx hb hdg hz kk
    · cases h
  · split at h
    · rename_i hl; subst hl
      obtain ⟨z, rfl, hz⟩ := gJ h
      exact lv_lload_n hx hb hdg rfl hz kk
    · cases h
  · split at h
    · rename_i hl; subst hl
      rcases gR h with ⟨e1, hz⟩ | ⟨x, e1, hz⟩
      · rw [e1] at kk
        exact lv_aloadN hx hb hdg hz kk
      · rw [e1] at kk
        exact lv_aload hx hb hdg hz kk
    · cases h
  · split at h
    · rename_i hl; subst hl
      rcases gR h with ⟨e1, hz⟩ | ⟨x, e1, hz⟩
      · rw [e1] at kk
        exact lv_aload_nN hx hb hdg rfl hz kk
      · rw [e1] at kk
        exact lv_aload_n hx hb hdg rfl hz kk
    · cases h
  · cases h
theorem am_set1_L (hG : am_G fo fx) {nL k : Nat} {ls : am_Ls} {v : am_V} {lsB : Array Slot} (h : lv_has lsB nL ((k, am_c (am_cv base fo) v) :: (am_lv (am_cv base fo) ls).filter (fun q => !(q.1 == k) && !(q.1 + 1 == k && q.2.category == 2)))) : am_L (am_cv base fo) lsB nL (am_set1 ls k v) := by
  refine am_L_sub h fun q hq => ?_
  obtain ⟨w, h1, h2⟩ := am_lv_in.mp hq
  unfold am_set1 at h1
  rw [List.getElem?_set] at h1
  by_cases ek : k = q.1
  · subst ek
    rw [if_pos rfl] at h1
    split at h1
    · cases h1
      refine List.mem_cons.mpr (Or.inl ?_)
      rw [← h2]
    · cases h1
  · rw [if_neg ek] at h1
    obtain ⟨h3, h4⟩ := am_kill_get h1
    refine List.mem_cons_of_mem _ (List.mem_filter.mpr ⟨am_lv_in.mpr ⟨w, h3, h2⟩, ?_⟩)
    rw [h2, am_cc hG]
    simp only [Bool.and_eq_true, Bool.not_eq_true', beq_eq_false_iff_ne, ne_eq, Bool.and_eq_false_iff]
    refine ⟨fun q => ek q.symm, ?_⟩
    by_cases e5 : q.1 + 1 = k
    · exact Or.inr fun e6 => h4 ⟨e5, e6⟩
    · exact Or.inl e5
theorem am_set2_L (hG : am_G fo fx) {nL k : Nat} {ls : am_Ls} {v : am_V} {lsB : Array Slot} (h : lv_has lsB nL ((k, am_c (am_cv base fo) v) :: (am_lv (am_cv base fo) ls).filter (fun q => !(q.1 == k) && (!(q.1 == k + 1) && !(q.1 + 1 == k && q.2.category == 2))))) : am_L (am_cv base fo) lsB nL (am_set2 ls k v) := by
  refine am_L_sub h fun q hq => ?_
  obtain ⟨w, h1, h2⟩ := am_lv_in.mp hq
  unfold am_set2 at h1
  rw [List.getElem?_set] at h1
  by_cases ek : k = q.1
  · subst ek
    rw [if_pos rfl] at h1
    split at h1
    · cases h1
      refine List.mem_cons.mpr (Or.inl ?_)
      rw [← h2]
    · cases h1
  · rw [if_neg ek, List.getElem?_set] at h1
    by_cases e1 : k + 1 = q.1
    · rw [if_pos e1] at h1
      split at h1 <;> cases h1
    · rw [if_neg e1] at h1
      obtain ⟨h3, h4⟩ := am_kill_get h1
      refine List.mem_cons_of_mem _ (List.mem_filter.mpr ⟨am_lv_in.mpr ⟨w, h3, h2⟩, ?_⟩)
      rw [h2, am_cc hG]
      simp only [Bool.and_eq_true, Bool.not_eq_true', beq_eq_false_iff_ne, ne_eq, Bool.and_eq_false_iff]
      refine ⟨fun q => ek q.symm, fun q => e1 q.symm, ?_⟩
      by_cases e5 : q.1 + 1 = k
      · exact Or.inr fun e6 => h4 ⟨e5, e6⟩
      · exact Or.inl e5
theorem am_sto_ok (hx : p.tables.exec = Jvm.exec) (hb : c.code = cc) (hG : am_G fo fx) {nL : Nat} {ls : am_Ls} (hL : am_L (am_cv base fo) lsA nL ls) {i : Instr} {len : Nat} {st : List am_V} {q : am_Ls × List am_V} (hdg : decode cc pc = .ok (i, len)) (h : am_sto nL i len ls st = some q)
    (kk : ∀ lsB : Array Slot, am_L (am_cv base fo) lsB nL q.1 → W p l e R s m args below meth c H locs cells slots Q (F0 m (pc + len) lsB (q.2.map (am_c (am_cv base fo))))) : W p l e R s m args below meth c H locs cells slots Q (F0 m pc lsA (st.map (am_c (am_cv base fo)))) := by
  unfold am_sto at h
  split at h
  · split at h
    · rename_i hl; obtain ⟨hl, hk⟩ := hl; subst hl; cases h
      exact lv_istore hx hb hdg hL hk rfl fun lsB hB => kk lsB (am_set1_L hG hB)
    · cases h
  · split at h
    · rename_i hl; obtain ⟨hl, hk⟩ := hl; subst hl; cases h
      exact lv_istore_n hx hb hdg rfl hL hk rfl fun lsB hB => kk lsB (am_set1_L hG hB)
    · cases h
  · split at h
    · rename_i hl; obtain ⟨hl, hk⟩ := hl; subst hl; cases h
      exact lv_lstore hx hb hdg hL hk rfl fun lsB hB => kk lsB (am_set2_L hG hB)
    · cases h
  · split at h
    · rename_i hl; obtain ⟨hl, hk⟩ := hl; subst hl; cases h
      exact lv_lstore_n hx hb hdg rfl hL hk rfl fun lsB hB => kk lsB (am_set2_L hG hB)
    · cases h
  · rename_i z r
    split at h
    · rename_i hl; obtain ⟨hl, hk⟩ := hl; subst hl; cases h
      have hc : ∀ lsB : Array Slot, lv_has lsB nL (_ :: _) → _ := fun lsB hB => kk lsB (am_set1_L (v := .inr (.inr z)) hG hB)
      cases z with
      | none => exact lv_astoreN hx hb hdg hL hk rfl hc
      | some a =>
        have e : am_c (am_cv base fo) (Sum.inr (Sum.inr (some a))) = am_cv base fo a := rfl
        rw [List.map_cons, e]
        rw [e] at hc
        rcases am_cvn (base := base) hG a with q | ⟨x, q⟩
        · rw [q] at hc ⊢
          exact lv_astoreN hx hb hdg hL hk rfl hc
        · rw [q] at hc ⊢
          exact lv_astore hx hb hdg hL hk rfl hc
    · cases h
  · rename_i k0 z r
    split at h
    · rename_i hl; obtain ⟨hl, hk⟩ := hl; subst hl; cases h
      have hc : ∀ lsB : Array Slot, lv_has lsB nL (_ :: _) → _ := fun lsB hB => kk lsB (am_set1_L (v := .inr (.inr z)) hG hB)
      cases z with
      | none => exact lv_astore_nN hx hb hdg rfl hL hk rfl hc
      | some a =>
        have e : am_c (am_cv base fo) (Sum.inr (Sum.inr (some a))) = am_cv base fo a := rfl
        rw [List.map_cons, e]
        rw [e] at hc
        rcases am_cvn (base := base) hG a with q | ⟨x, q⟩
        · rw [q] at hc ⊢
          exact lv_astore_nN hx hb hdg rfl hL hk rfl hc
        · rw [q] at hc ⊢
          exact lv_astore_n hx hb hdg rfl hL hk rfl hc
    · cases h
  · split at h
    · rename_i hl; obtain ⟨hl, hk⟩ := hl; subst hl
      split at h
      · rename_i z hz
        cases h
        have hm : (_, _) ∈ am_lv (am_cv base fo) ls := am_lv_in.mpr ⟨_, hz, rfl⟩
        obtain ⟨j, hj⟩ := List.getElem?_of_mem hm
        exact lv_iinc hx hb hdg hL hj (by rw [← Int32.ofInt_add]) hk rfl fun lsB hB => kk lsB (am_set1_L hG hB)
      · cases h
    · cases h
  · cases h
end AMS
