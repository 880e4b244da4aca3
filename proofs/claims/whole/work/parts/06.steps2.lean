theorem am_jmp_ok {pc t : Nat} {off : Int} (h : am_jmp pc off = some t) : (pc : Int) + off = (t : Int) := by
  unfold am_jmp at h
  split at h
  · cases h
    omega
  · cases h
theorem am_lcmp_ok (a b : Int) : lg_cmp (Int64.ofInt a) (Int64.ofInt b) = Int32.ofInt (am_lcmp a b) := by
  unfold am_lcmp lg_cmp am_t
  by_cases h1 : (Int64.ofInt b) < (Int64.ofInt a)
  · have h2 := Int64.lt_iff_toInt_lt.mp h1
    rw [if_pos h1, if_neg (by omega), if_neg (by omega)]
    rfl
  · rw [if_neg h1]
    have h2 : ¬ (Int64.ofInt b).toInt < (Int64.ofInt a).toInt := fun q => h1 (Int64.lt_iff_toInt_lt.mpr q)
    by_cases h3 : Int64.ofInt a = Int64.ofInt b
    · rw [if_pos h3, h3, if_neg (by omega), if_pos rfl]
      rfl
    · have h4 : ¬ (Int64.ofInt a).toInt = (Int64.ofInt b).toInt := fun q => h3 (Int64.toInt_inj.mp q)
      rw [if_neg h3, if_pos (by omega)]
      rfl
section AMT
variable {p : Program} {l : Launch} {e : Env} {R : Room} {s : State} {m : MethodId} {args : Array Value} {below : List Frame} {meth : Method} {c : Code} {H : Heap} {locs : List Loc} {cells slots : Nat} {Q : State → Prop} {cc : ByteArray} {pc : Nat} {lsA : Array Slot} {rest : List Value}
variable {base : Nat} {fo : Nat → Value} {cA : Nat → ClassId} {dC : Nat → ClassId} {dI : Nat → Nat → Nat} {fx : am_X0} {S : am_S}
theorem am_b2_ok (hx : p.tables.exec = Jvm.exec) (hb : c.code = cc) {i : Instr} {a b z : Int} (hdg : decode cc pc = .ok (i, 1)) (h : am_b2 i a b = some z)
    (kk : W p l e R s m args below meth c H locs cells slots Q (F0 m (pc + 1) lsA (.int (Int32.ofInt z) :: rest))) : W p l e R s m args below meth c H locs cells slots Q (F0 m pc lsA (.int (Int32.ofInt b) :: .int (Int32.ofInt a) :: rest)) := by
  unfold am_b2 at h
  split at h
  · cases h; rw [Int32.ofInt_add] at kk; exact lv_iadd hx hb hdg kk
  · cases h; rw [Int32.ofInt_sub] at kk; exact lv_isub hx hb hdg kk
  · cases h; rw [Int32.ofInt_mul] at kk; exact lv_imul hx hb hdg kk
  · cases h; rw [Int32.ofInt_toInt] at kk; exact lv_iand hx hb hdg kk
  · cases h; rw [Int32.ofInt_toInt] at kk; exact lv_ior hx hb hdg kk
  · cases h; rw [Int32.ofInt_toInt] at kk; exact lv_ixor hx hb hdg kk
  · cases h; rw [Int32.ofInt_toInt] at kk; exact lv_ishl hx hb hdg kk
  · cases h; rw [Int32.ofInt_toInt] at kk; exact lv_ishr hx hb hdg kk
  · cases h; rw [Int32.ofInt_toInt] at kk; exact lv_iushr hx hb hdg rfl kk
  · split at h
    · cases h
    · rename_i hne
      cases h; rw [Int32.ofInt_toInt] at kk; exact lv_idiv hx hb hdg hne kk
  · split at h
    · cases h
    · rename_i hne
      cases h; rw [Int32.ofInt_toInt] at kk; exact lv_irem hx hb hdg hne kk
  · cases h
theorem am_l2_ok (hx : p.tables.exec = Jvm.exec) (hb : c.code = cc) {i : Instr} {a b z : Int} (hdg : decode cc pc = .ok (i, 1)) (h : am_l2 i a b = some z)
    (kk : W p l e R s m args below meth c H locs cells slots Q (F0 m (pc + 1) lsA (.long (Int64.ofInt z) :: rest))) : W p l e R s m args below meth c H locs cells slots Q (F0 m pc lsA (.long (Int64.ofInt b) :: .long (Int64.ofInt a) :: rest)) := by
  unfold am_l2 at h
  split at h
  · cases h; rw [Int64.ofInt_add] at kk; exact lv_ladd hx hb hdg kk
  · cases h; rw [Int64.ofInt_sub] at kk; exact lv_lsub hx hb hdg kk
  · cases h; rw [Int64.ofInt_toInt] at kk; exact lv_land hx hb hdg kk
  · cases h; rw [Int64.ofInt_toInt] at kk; exact lv_lor hx hb hdg kk
  · cases h; rw [Int64.ofInt_toInt] at kk; exact lv_lxor hx hb hdg kk
  · cases h
theorem am_lsh_ok (hx : p.tables.exec = Jvm.exec) (hb : c.code = cc) {i : Instr} {a b z : Int} (hdg : decode cc pc = .ok (i, 1)) (h : am_lsh i a b = some z)
    (kk : W p l e R s m args below meth c H locs cells slots Q (F0 m (pc + 1) lsA (.long (Int64.ofInt z) :: rest))) : W p l e R s m args below meth c H locs cells slots Q (F0 m pc lsA (.int (Int32.ofInt b) :: .long (Int64.ofInt a) :: rest)) := by
  unfold am_lsh at h
  split at h
  · cases h; rw [Int64.ofInt_toInt] at kk; exact lv_lshl hx hb hdg rfl kk
  · cases h; rw [Int64.ofInt_toInt] at kk; exact lv_lshr hx hb hdg rfl kk
  · cases h; rw [Int64.ofInt_toInt] at kk; exact lv_lushr hx hb hdg rfl kk
  · cases h
theorem am_u1_ok (hx : p.tables.exec = Jvm.exec) (hb : c.code = cc) {i : Instr} {a z : Int} (hdg : decode cc pc = .ok (i, 1)) (h : am_u1 i a = some z)
    (kk : W p l e R s m args below meth c H locs cells slots Q (F0 m (pc + 1) lsA (.int (Int32.ofInt z) :: rest))) : W p l e R s m args below meth c H locs cells slots Q (F0 m pc lsA (.int (Int32.ofInt a) :: rest)) := by
  unfold am_u1 at h
  split at h
  · cases h; rw [Int32.ofInt_neg] at kk; exact lv_ineg hx hb hdg kk
  · cases h; rw [Int32.ofInt_toInt] at kk; exact lv_i2b hx hb hdg rfl kk
  · cases h; rw [Int32.ofInt_toInt] at kk; exact lv_i2s hx hb hdg rfl kk
  · cases h; rw [Int32.ofInt_toInt] at kk; exact lv_i2c hx hb hdg rfl kk
  · cases h
theorem am_stk_ok (hx : p.tables.exec = Jvm.exec) (hb : c.code = cc) (hG : am_G fo fx) {i : Instr} {st st' : List am_V} (hdg : decode cc pc = .ok (i, 1)) (h : am_stk i st = some st')
    (kk : W p l e R s m args below meth c H locs cells slots Q (F0 m (pc + 1) lsA (st'.map (am_c (am_cv base fo))))) : W p l e R s m args below meth c H locs cells slots Q (F0 m pc lsA (st.map (am_c (am_cv base fo)))) := by
  unfold am_stk at h
  split at h
  · cases h; exact lv_dup hx hb hdg rfl kk
  · cases h; exact lv_dup hx hb hdg (am_cc hG _) kk
  · cases h; exact lv_pop hx hb hdg rfl kk
  · cases h; exact lv_pop hx hb hdg (am_cc hG _) kk
  · cases h; exact lv_dup2_11 hx hb hdg rfl (am_cc hG _) kk
  · cases h; exact lv_i2l hx hb hdg rfl kk
  · cases h; exact lv_l2i hx hb hdg (by simp) kk
  · cases h
    refine W.lcmp hx hb hdg ?_
    rw [am_lcmp_ok]
    exact kk
  · split at h
    · rename_i hz
      cases h; exact am_b2_ok hx hb hdg hz kk
    · obtain ⟨z, hz, rfl⟩ := Option.map_eq_some_iff.mp h
      exact am_u1_ok hx hb hdg hz kk
  · obtain ⟨z, hz, rfl⟩ := Option.map_eq_some_iff.mp h
    exact am_l2_ok hx hb hdg hz kk
  · split at h
    · rename_i hz
      cases h; exact am_lsh_ok hx hb hdg hz kk
    · obtain ⟨z, hz, rfl⟩ := Option.map_eq_some_iff.mp h
      exact am_u1_ok hx hb hdg hz kk
  · obtain ⟨z, hz, rfl⟩ := Option.map_eq_some_iff.mp h
    exact am_u1_ok hx hb hdg hz kk
  · cases h
theorem am_icmp_ok (hx : p.tables.exec = Jvm.exec) (hb : c.code = cc) {cd : Jvm.ClassFile.Cond} {off : Int} {t : Nat} {a b : Int} (hdg : decode cc pc = .ok (.if_icmp cd off, 3)) (ht : (pc : Int) + off = (t : Int))
    (kk : W p l e R s m args below meth c H locs cells slots Q (F0 m (if am_cmpb cd a b = true then t else pc + 3) lsA rest)) : W p l e R s m args below meth c H locs cells slots Q (F0 m pc lsA (.int (Int32.ofInt b) :: .int (Int32.ofInt a) :: rest)) := by
  by_cases hc : am_cmpb cd a b = true
  · rw [if_pos hc] at kk
    have h := (am_cmpb_iff cd a b).mp hc
    cases cd with
    | eq => exact lv_icmp_eq hx hb hdg ht (fun _ => kk) (fun q => absurd (Int32.toInt_inj.mp h) q)
    | ne => exact lv_icmp_ne hx hb hdg ht (fun _ => kk) (fun q => absurd (congrArg Int32.toInt q) h)
    | lt => exact lv_icmp_lt hx hb hdg ht (fun _ => kk) (fun q => absurd (Int32.lt_iff_toInt_lt.mpr h) q)
    | ge => exact lv_icmp_ge hx hb hdg ht (fun _ => kk) (fun q => absurd (Int32.le_iff_toInt_le.mpr h) q)
    | gt => exact lv_icmp_gt hx hb hdg ht (fun _ => kk) (fun q => absurd (Int32.lt_iff_toInt_lt.mpr h) q)
    | le => exact lv_icmp_le hx hb hdg ht (fun _ => kk) (fun q => absurd (Int32.le_iff_toInt_le.mpr h) q)
  · rw [if_neg hc] at kk
    have h : ¬ am_cmp cd a b := fun q => hc ((am_cmpb_iff cd a b).mpr q)
    cases cd with
    | eq => exact lv_icmp_eq hx hb hdg ht (fun q => absurd (congrArg Int32.toInt q) h) (fun _ => kk)
    | ne => exact lv_icmp_ne hx hb hdg ht (fun q => absurd (fun z => q (Int32.toInt_inj.mp z)) h) (fun _ => kk)
    | lt => exact lv_icmp_lt hx hb hdg ht (fun q => absurd (Int32.lt_iff_toInt_lt.mp q) h) (fun _ => kk)
    | ge => exact lv_icmp_ge hx hb hdg ht (fun q => absurd (Int32.le_iff_toInt_le.mp q) h) (fun _ => kk)
    | gt => exact lv_icmp_gt hx hb hdg ht (fun q => absurd (Int32.lt_iff_toInt_lt.mp q) h) (fun _ => kk)
    | le => exact lv_icmp_le hx hb hdg ht (fun q => absurd (Int32.le_iff_toInt_le.mp q) h) (fun _ => kk)
theorem am_if_ok (hx : p.tables.exec = Jvm.exec) (hb : c.code = cc) {cd : Jvm.ClassFile.Cond} {off : Int} {t : Nat} {a : Int} (hdg : decode cc pc = .ok (.ifCond cd off, 3)) (ht : (pc : Int) + off = (t : Int))
    (kk : W p l e R s m args below meth c H locs cells slots Q (F0 m (if am_cmpb cd a 0 = true then t else pc + 3) lsA rest)) : W p l e R s m args below meth c H locs cells slots Q (F0 m pc lsA (.int (Int32.ofInt a) :: rest)) := by
  have e0 : (Int32.ofInt 0) = 0 := rfl
  by_cases hc : am_cmpb cd a 0 = true
  · rw [if_pos hc] at kk
    have h := (am_cmpb_iff cd a 0).mp hc
    cases cd with
    | eq => exact lv_if_eq hx hb hdg ht (fun _ => kk) (fun q => absurd (Int32.toInt_inj.mp h) q)
    | ne => exact lv_if_ne hx hb hdg ht (fun _ => kk) (fun q => absurd (congrArg Int32.toInt q) h)
    | lt => exact lv_if_lt hx hb hdg ht (fun _ => kk) (fun q => absurd (Int32.lt_iff_toInt_lt.mpr h) q)
    | ge => exact lv_if_ge hx hb hdg ht (fun _ => kk) (fun q => absurd (Int32.le_iff_toInt_le.mpr h) q)
    | gt => exact lv_if_gt hx hb hdg ht (fun _ => kk) (fun q => absurd (Int32.lt_iff_toInt_lt.mpr h) q)
    | le => exact lv_if_le hx hb hdg ht (fun _ => kk) (fun q => absurd (Int32.le_iff_toInt_le.mpr h) q)
  · rw [if_neg hc] at kk
    have h : ¬ am_cmp cd a 0 := fun q => hc ((am_cmpb_iff cd a 0).mpr q)
    cases cd with
    | eq => exact lv_if_eq hx hb hdg ht (fun q => absurd (congrArg Int32.toInt q) h) (fun _ => kk)
    | ne => exact lv_if_ne hx hb hdg ht (fun q => absurd (fun z => q (Int32.toInt_inj.mp z)) h) (fun _ => kk)
    | lt => exact lv_if_lt hx hb hdg ht (fun q => absurd (Int32.lt_iff_toInt_lt.mp q) h) (fun _ => kk)
    | ge => exact lv_if_ge hx hb hdg ht (fun q => absurd (Int32.le_iff_toInt_le.mp q) h) (fun _ => kk)
    | gt => exact lv_if_gt hx hb hdg ht (fun q => absurd (Int32.lt_iff_toInt_lt.mp q) h) (fun _ => kk)
    | le => exact lv_if_le hx hb hdg ht (fun q => absurd (Int32.le_iff_toInt_le.mp q) h) (fun _ => kk)
theorem am_br_ok (hx : p.tables.exec = Jvm.exec) (hb : c.code = cc) {i : Instr} {len : Nat} {st : List am_V} {q : Nat × List am_V} (hdg : decode cc pc = .ok (i, len)) (h : am_br i len pc st = some q)
    (kk : W p l e R s m args below meth c H locs cells slots Q (F0 m q.1 lsA (q.2.map (am_c (am_cv base fo))))) : W p l e R s m args below meth c H locs cells slots Q (F0 m pc lsA (st.map (am_c (am_cv base fo)))) := by
  unfold am_br at h
  split at h
  · split at h
    · rename_i hl; subst hl
      obtain ⟨t, ht, rfl⟩ := Option.map_eq_some_iff.mp h
      exact am_if_ok hx hb hdg (am_jmp_ok ht) kk
    · cases h
  · split at h
    · rename_i hl; subst hl
      obtain ⟨t, ht, rfl⟩ := Option.map_eq_some_iff.mp h
      exact am_icmp_ok hx hb hdg (am_jmp_ok ht) kk
    · cases h
  · split at h
    · rename_i hl; subst hl
      obtain ⟨t, ht, rfl⟩ := Option.map_eq_some_iff.mp h
      exact lv_goto hx hb hdg (am_jmp_ok ht) kk
    · cases h
  · split at h
    · rename_i hc
      obtain ⟨t, ht, rfl⟩ := Option.map_eq_some_iff.mp h
      exact lv_tableOut hx hb hdg hc (am_jmp_ok ht) kk
    · rename_i hc
      split at h
      · rename_i off ho
        obtain ⟨t, ht, rfl⟩ := Option.map_eq_some_iff.mp h
        exact lv_tableIn hx hb hdg (fun z => hc (Or.inl z)) (fun z => hc (Or.inr z)) ho (am_jmp_ok ht) kk
      · cases h
  · split at h
    · rename_i hp
      obtain ⟨t, ht, rfl⟩ := Option.map_eq_some_iff.mp h
      exact lv_lookup hx hb hdg hp rfl (am_jmp_ok ht) kk
    · cases h
  · cases h
end AMT
