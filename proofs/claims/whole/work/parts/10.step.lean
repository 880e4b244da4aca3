section AMZ
variable {p : Program} {l : Launch} {e : Env} {R : Room} {s : State} {m : MethodId} {args : Array Value} {below : List Frame} {meth : Method} {c : Code} {H : Heap} {locs : List Loc} {cells slots : Nat} {Q : State → Prop} {cc : ByteArray} {pc : Nat} {lsA : Array Slot} {rest : List Value}
variable {base : Nat} {fo : Nat → Value} {cA : Nat → ClassId} {dC : Nat → ClassId} {dI : Nat → Nat → Nat} {fx : am_X0} {S : am_S}
theorem am_fo_ok (hx : p.tables.exec = Jvm.exec) (hb : c.code = cc) (hts : ∀ w ∈ am_T, w.before args s = true) {cn : Nat} (hown : s.vm.findClass (am_cn cn) = some m.cls) (hF : am_F dC dI cA base fo fx s) (hS : va_S (am_A base) s.heap H locs) {x r : Nat} {v : am_V} (h : am_fo cn x r = some v) (hdg : decode cc pc = .ok (.getfield x, 3))
    (kk : W p l e R s m args below meth c H locs cells slots Q (F0 m (pc + 3) lsA (am_c (am_cv base fo) v :: rest))) : W p l e R s m args below meth c H locs cells slots Q (F0 m pc lsA (am_cv base fo r :: rest)) := by
  unfold am_fo at h
  split at h
  · rename_i hr
    obtain ⟨x0, y0, e1, e2, e3, e4, e5⟩ := hF.2.2.2.1 (r - 2000) (by omega)
    rw [show 2000 + (r - 2000) = r by omega] at e1
    rw [show 3000 + (r - 2000) = 1000 + r by omega] at e2
    rw [am_cvf (by omega), e1]
    split at h
    · rename_i hl
      cases h
      have hw := List.all_eq_true.mp am_pxA _ (am_look_in hl)
      have e6 : am_c (am_cv base fo) (am_R (1000 + r)) = .ref y0 := (am_cvf (by omega)).trans e2
      rw [e6] at kk
      exact vk_getf hx hb e5 hS hown (hts _ (am_wd_in hw)) (fun _ q => q) hdg kk
    · rename_i hl
      cases h
      have hw := List.all_eq_true.mp am_pxA _ (am_look_in hl)
      exact vk_getf hx hb e4 hS hown (hts _ (am_wd_in hw)) (fun _ q => q) hdg kk
    · cases h
  · cases h
theorem am_hp_ok (hx : p.tables.exec = Jvm.exec) (hb : c.code = cc) (hts : ∀ w ∈ am_T, w.before args s = true) {cn : Nat} (hown : s.vm.findClass (am_cn cn) = some m.cls) {ini : Bool} (hi : ini = true → meth.name = "<init>") (hG : am_G fo fx) (hF : am_F dC dI cA base fo fx s) (hP : am_P dC dI cA base fo S H) (hS : va_S (am_A base) s.heap H locs) (hb0 : base ≤ s.heap.size) (hcnt : s.heap.size + cells = base + S.1.length) {i : Instr} {len : Nat} {st : List am_V} {cr : Nat × Nat} (hcr : cells + cr.1 ≤ R.cells ∧ slots + cr.2 ≤ R.slots) {q : Nat × List am_V × am_S × (Nat × Nat)} (hdg : decode cc pc = .ok (i, len)) (h : am_hp fx cn ini i st S cr = some q) (hlen : len = q.1)
    (kk : ∀ (H1 : Heap) (locs1 : List Loc) (cells1 slots1 : Nat), am_P dC dI cA base fo q.2.2.1 H1 → va_S (am_A base) s.heap H1 locs1 → s.heap.size + cells1 = base + q.2.2.1.1.length → (cells1 + q.2.2.2.1 ≤ R.cells ∧ slots1 + q.2.2.2.2 ≤ R.slots) → W p l e R s m args below meth c H1 locs1 cells1 slots1 Q (F0 m (pc + q.1) lsA (q.2.1.map (am_c (am_cv base fo))))) : W p l e R s m args below meth c H locs cells slots Q (F0 m pc lsA (st.map (am_c (am_cv base fo)))) := by
  subst hlen
  unfold am_hp at h
  split at h
  · -- getfield
    split at h
    · rename_i sh hsh
      split at h
      · rename_i f hf
        split at h
        · rename_i hc
          cases h
          exact am_get_ok hx hb hts hown hF hP hsh hf hc.1 hc.2 hdg (kk H locs cells slots hP hS hcnt hcr)
        · cases h
      · cases h
    · obtain ⟨v, hv, rfl⟩ := Option.map_eq_some_iff.mp h
      exact am_fo_ok hx hb hts hown hF hS hv hdg (kk H locs cells slots hP hS hcnt hcr)
  · -- putfield of an int
    split at h
    · rename_i sh hsh
      split at h
      · rename_i f hf
        split at h
        · rename_i hc
          cases h
          exact am_put_ok hx hb hts hown hF hP hS hsh hf hc.1 hc.2.1 hc.2.2.1 hc.2.2.2 hdg (fun H1 locs1 hP1 hS1 => kk H1 locs1 cells slots hP1 hS1 hcnt hcr)
        · cases h
      · cases h
    · cases h
  · -- putfield of a reference
    split at h
    · rename_i sh hsh
      split at h
      · rename_i f hf
        split at h
        · rename_i hc
          cases h
          exact am_putF_ok hx hb hts hown hG hF hP hS (hi hc.2.2.2.1) hsh hf hc.1 hc.2.1 hc.2.2.1 hc.2.2.2.2.1 hc.2.2.2.2.2 hdg (fun H1 locs1 hP1 hS1 => kk H1 locs1 cells slots hP1 hS1 hcnt hcr)
        · cases h
      · cases h
    · cases h
  · split at h
    · rename_i hc
      cases h
      exact am_iald_ok hx hb hF hP hS hc.1 hc.2 hdg (kk H locs cells slots hP hS hcnt hcr)
    · cases h
  · split at h
    · rename_i hc
      cases h
      exact am_bald_ok hx hb hF hP hS hc.1 hc.2 hdg (kk H locs cells slots hP hS hcnt hcr)
    · cases h
  · split at h
    · rename_i hc
      cases h
      exact am_lald_ok hx hb hF hP hc.1 hc.2.1 hc.2.2 hdg (kk H locs cells slots hP hS hcnt hcr)
    · cases h
  · split at h
    · rename_i hc
      cases h
      exact am_aald_ok hx hb hF hP hc.1 hc.2.1 hc.2.2.1 hc.2.2.2 hdg (kk H locs cells slots hP hS hcnt hcr)
    · cases h
  · split at h
    · rename_i hc
      cases h
      exact am_alen_ok hx hb hG hF hP hS hc.1 hc.2 hdg (kk H locs cells slots hP hS hcnt hcr)
    · cases h
  · split at h
    · rename_i hc
      cases h
      exact am_iast_ok hx hb hF hP hS hc.1 hc.2.1 hc.2.2 hdg (fun H1 locs1 hP1 hS1 => kk H1 locs1 cells slots hP1 hS1 hcnt hcr)
    · cases h
  · split at h
    · rename_i hc
      split at h
      · rename_i hc1
        cases h
        exact am_bast_ok hx hb hF hP hS hc.1 hc1 hc.2 hdg (fun H1 locs1 hP1 hS1 => kk H1 locs1 cells slots hP1 hS1 hcnt hcr)
      · split at h
        · rename_i hc1
          cases h
          exact am_zast_ok hx hb hF hP hS hc.1 hc1 hc.2 hdg (fun H1 locs1 hP1 hS1 => kk H1 locs1 cells slots hP1 hS1 hcnt hcr)
        · cases h
    · cases h
  · split at h
    · rename_i hc
      cases h
      exact am_last_ok hx hb hF hP hS hc.1 hc.2.1 hc.2.2 hdg (fun H1 locs1 hP1 hS1 => kk H1 locs1 cells slots hP1 hS1 hcnt hcr)
    · cases h
  · split at h
    · rename_i sh hsh
      split at h
      · rename_i hc
        cases h
        exact am_aast_ok hx hb hF hP hS hc.1 hsh hc.2.1 hc.2.2 hdg (fun H1 locs1 hP1 hS1 => kk H1 locs1 cells slots hP1 hS1 hcnt hcr)
      · cases h
    · cases h
  · split at h
    · rename_i ci hci
      split at h
      · rename_i kc hkc
        split at h
        · rename_i hc
          cases h
          exact am_new_ok hx hb hts hown hF hP hS hb0 hcnt hci hkc (by omega) (by omega) hc.2.2 hdg (fun H1 hP1 hS1 => kk H1 locs (cells + 1) (slots + kc.2.2) hP1 hS1 (by simp only [am_nw, List.length_append, List.length_singleton]; omega) ⟨by show cells + 1 + (cr.1 - 1) ≤ _; omega, by show slots + kc.2.2 + (cr.2 - kc.2.2) ≤ _; omega⟩)
        · cases h
      · cases h
    · cases h
  · rename_i t n q0
    split at h
    · rename_i hc
      cases h
      exact am_newa_ok hx hb hts hF hP hS hb0 hcnt hc.1 hc.2.1 (by omega) (by omega) hc.2.2.2.2.1 hc.2.2.2.2.2 hdg (fun H1 hP1 hS1 => kk H1 locs (cells + 1) (slots + (am_s n).toNat) hP1 hS1 (by simp only [am_nw, List.length_append, List.length_singleton]; omega) ⟨by show cells + 1 + (cr.1 - 1) ≤ _; omega, by show slots + (am_s n).toNat + (cr.2 - (am_s n).toNat) ≤ _; omega⟩)
    · cases h
  · rename_i x n q0
    split at h
    · rename_i ci hci
      split at h
      · rename_i hc
        cases h
        exact am_newq_ok hx hb hts hown hF hP hS hb0 hcnt hci hc.1 hc.2.1 hc.2.2.1 (by omega) (by omega) hc.2.2.2.2.2 hdg (fun H1 hP1 hS1 => kk H1 locs (cells + 1) (slots + (am_s n).toNat) hP1 hS1 (by simp only [am_nw, List.length_append, List.length_singleton]; omega) ⟨by show cells + 1 + (cr.1 - 1) ≤ _; omega, by show slots + (am_s n).toNat + (cr.2 - (am_s n).toNat) ≤ _; omega⟩)
      · cases h
    · cases h
  · cases h
theorem am_stp_ok (hx : p.tables.exec = Jvm.exec) (hb : c.code = cc) (hts : ∀ w ∈ am_T, w.before args s = true) {cn : Nat} (hown : s.vm.findClass (am_cn cn) = some m.cls) {ini : Bool} (hi : ini = true → meth.name = "<init>") (hG : am_G fo fx) (hF : am_F dC dI cA base fo fx s) (hP : am_P dC dI cA base fo S H) (hS : va_S (am_A base) s.heap H locs) (hb0 : base ≤ s.heap.size) (hcnt : s.heap.size + cells = base + S.1.length) {nL : Nat} {ls : am_Ls} (hL : am_L (am_cv base fo) lsA nL ls) {i : Instr} {len : Nat} {st : List am_V} {cr : Nat × Nat} (hcr : cells + cr.1 ≤ R.cells ∧ slots + cr.2 ≤ R.slots) {q : Nat × am_Ls × List am_V × am_S × (Nat × Nat)} (hdg : decode cc pc = .ok (i, len)) (h : am_stp fx cn ini nL i len pc ls st S cr = some q)
    (kk : ∀ (lsB : Array Slot) (H1 : Heap) (locs1 : List Loc) (cells1 slots1 : Nat), am_L (am_cv base fo) lsB nL q.2.1 → am_P dC dI cA base fo q.2.2.2.1 H1 → va_S (am_A base) s.heap H1 locs1 → s.heap.size + cells1 = base + q.2.2.2.1.1.length → (cells1 + q.2.2.2.2.1 ≤ R.cells ∧ slots1 + q.2.2.2.2.2 ≤ R.slots) → W p l e R s m args below meth c H1 locs1 cells1 slots1 Q (F0 m q.1 lsB (q.2.2.1.map (am_c (am_cv base fo))))) : W p l e R s m args below meth c H locs cells slots Q (F0 m pc lsA (st.map (am_c (am_cv base fo)))) := by
  unfold am_stp at h
  split at h
  · rename_i v hv
    cases h
    exact am_k_ok hx hb hts hown hF hS hdg hv (kk lsA H locs cells slots hL hP hS hcnt hcr)
  · split at h
    · rename_i v hv
      cases h
      exact am_ld_ok hx hb hG hL hdg hv (kk lsA H locs cells slots hL hP hS hcnt hcr)
    · split at h
      · rename_i v hv
        cases h
        exact am_sto_ok hx hb hG hL hdg hv (fun lsB hB => kk lsB H locs cells slots hB hP hS hcnt hcr)
      · split at h
        · rename_i v hv
          cases h
          split at hv
          · rename_i hl
            subst hl
            exact am_stk_ok hx hb hG hdg hv (kk lsA H locs cells slots hL hP hS hcnt hcr)
          · cases hv
        · split at h
          · rename_i v hv
            cases h
            exact am_br_ok hx hb hdg hv (kk lsA H locs cells slots hL hP hS hcnt hcr)
          · split at h
            · rename_i v hv
              split at h
              · rename_i hl
                cases h
                exact am_hp_ok hx hb hts hown hi hG hF hP hS hb0 hcnt hcr hdg hv hl (fun H1 locs1 cells1 slots1 hP1 hS1 hc1 hr1 => kk lsA H1 locs1 cells1 slots1 hL hP1 hS1 hc1 hr1)
              · cases h
            · cases h
end AMZ
