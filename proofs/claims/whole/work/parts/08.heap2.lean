section AMK
variable {p : Program} {l : Launch} {e : Env} {R : Room} {s : State} {m : MethodId} {args : Array Value} {below : List Frame} {meth : Method} {c : Code} {H : Heap} {locs : List Loc} {cells slots : Nat} {Q : State → Prop} {cc : ByteArray} {pc : Nat} {lsA : Array Slot} {rest : List Value}
variable {base : Nat} {fo : Nat → Value} {cA : Nat → ClassId} {dC : Nat → ClassId} {dI : Nat → Nat → Nat} {fx : am_X0} {S : am_S}
theorem am_iald_ok (hx : p.tables.exec = Jvm.exec) (hb : c.code = cc) (hF : am_F dC dI cA base fo fx s) (hP : am_P dC dI cA base fo S H) (hS : va_S (am_A base) s.heap H locs) {r : Nat} {j : Int} (h1 : (am_arr fx S r).1 = 100) (h2 : am_in j (am_arr fx S r).2.1 = true) (hdg : decode cc pc = .ok (.iaload, 1))
    (kk : W p l e R s m args below meth c H locs cells slots Q (F0 m (pc + 1) lsA (.int (Int32.ofInt ((am_arr fx S r).2.2 (am_s j).toNat)) :: rest))) : W p l e R s m args below meth c H locs cells slots Q (F0 m pc lsA (.int (Int32.ofInt j) :: am_cv base fo r :: rest)) := by
  obtain ⟨hi, hj⟩ := am_inb h2
  by_cases hr : r < 1000
  · obtain ⟨e1, e2⟩ := am_own hr h1 (by decide)
    have he := am_wl_get (cA := cA) (base := base) (fo := fo) e1
    rw [am_cell_I] at he
    rw [am_cvo hr]
    rw [e2] at kk
    exact va_iald hx hb hF.1 hP.2 r 0 he rfl hi hdg kk
  · rw [am_for hr] at h1 h2 kk hi
    obtain ⟨x, e1, e2⟩ := hF.2.1 r (by omega) h1
    rw [am_cvf (by omega), e1]
    exact va_ti hx hb e2 hS hi rfl hdg kk
theorem am_bald_ok (hx : p.tables.exec = Jvm.exec) (hb : c.code = cc) (hF : am_F dC dI cA base fo fx s) (hP : am_P dC dI cA base fo S H) (hS : va_S (am_A base) s.heap H locs) {r : Nat} {j : Int} (h1 : (am_arr fx S r).1 = 102 ∨ ((am_arr fx S r).1 = 103 ∧ r < 1000)) (h2 : am_in j (am_arr fx S r).2.1 = true) (hdg : decode cc pc = .ok (.baload, 1))
    (kk : W p l e R s m args below meth c H locs cells slots Q (F0 m (pc + 1) lsA (.int (Int32.ofInt ((am_arr fx S r).2.2 (am_s j).toNat)) :: rest))) : W p l e R s m args below meth c H locs cells slots Q (F0 m pc lsA (.int (Int32.ofInt j) :: am_cv base fo r :: rest)) := by
  obtain ⟨hi, hj⟩ := am_inb h2
  by_cases hr : r < 1000
  · rw [am_cvo hr]
    rcases h1 with h1 | ⟨h1, -⟩
    · obtain ⟨e1, e2⟩ := am_own hr h1 (by decide)
      have he := am_wl_get (cA := cA) (base := base) (fo := fo) e1
      rw [am_cell_B] at he
      rw [e2] at kk
      exact va_bald hx hb hF.1 hP.2 r 2 he rfl hi hdg kk
    · obtain ⟨e1, e2⟩ := am_own hr h1 (by decide)
      have he := am_wl_get (cA := cA) (base := base) (fo := fo) e1
      rw [am_cell_Z] at he
      rw [e2] at kk
      exact va_zald hx hb hF.1 hP.2 r 3 he rfl hi hdg kk
  · rcases h1 with h1 | ⟨-, h1⟩
    · rw [am_for hr] at h1 h2 kk hi
      obtain ⟨x, e1, e2⟩ := hF.2.2.1 r (by omega) h1
      rw [am_cvf (by omega), e1]
      exact va_tb hx hb e2 hS hi rfl hdg kk
    · exact absurd h1 hr
theorem am_lald_ok (hx : p.tables.exec = Jvm.exec) (hb : c.code = cc) (hF : am_F dC dI cA base fo fx s) (hP : am_P dC dI cA base fo S H) {r : Nat} {j : Int} (hr : r < 1000) (h1 : (am_arr fx S r).1 = 101) (h2 : am_in j (am_arr fx S r).2.1 = true) (hdg : decode cc pc = .ok (.laload, 1))
    (kk : W p l e R s m args below meth c H locs cells slots Q (F0 m (pc + 1) lsA (.long (Int64.ofInt ((am_arr fx S r).2.2 (am_s j).toNat)) :: rest))) : W p l e R s m args below meth c H locs cells slots Q (F0 m pc lsA (.int (Int32.ofInt j) :: am_cv base fo r :: rest)) := by
  obtain ⟨hi, hj⟩ := am_inb h2
  obtain ⟨e1, e2⟩ := am_own hr h1 (by decide)
  have he := am_wl_get (cA := cA) (base := base) (fo := fo) e1
  rw [am_cell_J] at he
  rw [am_cvo hr]
  rw [e2] at kk
  exact va_lald hx hb hF.1 hP.2 r 1 he rfl hi hdg kk
theorem am_aald_ok (hx : p.tables.exec = Jvm.exec) (hb : c.code = cc) (hF : am_F dC dI cA base fo fx s) (hP : am_P dC dI cA base fo S H) {r : Nat} {j : Int} (hr : r < 1000) (h1 : (am_arr fx S r).1 = 200 ∨ (am_arr fx S r).1 = 201) (h2 : am_in j (am_arr fx S r).2.1 = true) (h3 : (S.2.1 r (am_s j).toNat).all (fun v => decide (v < 1000)) = true) (hdg : decode cc pc = .ok (.aaload, 1))
    (kk : W p l e R s m args below meth c H locs cells slots Q (F0 m (pc + 1) lsA (am_c (am_cv base fo) (.inr (.inr (S.2.1 r (am_s j).toNat))) :: rest))) : W p l e R s m args below meth c H locs cells slots Q (F0 m pc lsA (.int (Int32.ofInt j) :: am_cv base fo r :: rest)) := by
  obtain ⟨hi, hj⟩ := am_inb h2
  have ev : am_c (am_cv base fo) (.inr (.inr (S.2.1 r (am_s j).toNat))) = va_rf ((S.2.1 r (am_s j).toNat).map (fun v => base + v)) := by
    cases ho : S.2.1 r (am_s j).toNat with
    | none => rfl
    | some v =>
      rw [ho] at h3
      simp at h3
      show am_cv base fo v = .ref (base + v)
      exact am_cvo h3
  rw [ev] at kk
  rw [am_cvo hr]
  rcases h1 with h1 | h1
  · obtain ⟨e1, e2⟩ := am_own hr h1 (by decide)
    have he := am_wl_get (cA := cA) (base := base) (fo := fo) e1
    rw [am_cell_q (by decide)] at he
    exact va_aldq hx hb hF.1 hP.2 r 4 he rfl hi hdg kk
  · obtain ⟨e1, e2⟩ := am_own hr h1 (by decide)
    have he := am_wl_get (cA := cA) (base := base) (fo := fo) e1
    rw [am_cell_q (by decide)] at he
    exact va_aldq hx hb hF.1 hP.2 r 5 he rfl hi hdg kk
theorem am_sM_I {n r k : Nat} {z : Int} : am_cell cA base fo (am_sM S r k z) (100, n) r = .inl (cA 100, n, .inl (upd (fun j => Int32.ofInt (S.2.2 r j)) k (Int32.ofInt z))) := by
  rw [am_cell_I]
  congr 4
  funext j
  by_cases h : j = k <;> simp [am_sM, upd, h]
theorem am_sM_B {n r k : Nat} {z : Int} : am_cell cA base fo (am_sM S r k z) (102, n) r = .inl (cA 102, n, .inl (upd (fun j => Int32.ofInt (S.2.2 r j)) k (Int32.ofInt z))) := by
  rw [am_cell_B]
  congr 4
  funext j
  by_cases h : j = k <;> simp [am_sM, upd, h]
theorem am_sM_Z {n r k : Nat} {z : Int} : am_cell cA base fo (am_sM S r k z) (103, n) r = .inl (cA 103, n, .inl (upd (fun j => Int32.ofInt (S.2.2 r j)) k (Int32.ofInt z))) := by
  rw [am_cell_Z]
  congr 4
  funext j
  by_cases h : j = k <;> simp [am_sM, upd, h]
theorem am_sM_J {n r k : Nat} {z : Int} : am_cell cA base fo (am_sM S r k z) (101, n) r = .inl (cA 101, n, .inr (.inl (vp_updL (fun j => Int64.ofInt (S.2.2 r j)) k (Int64.ofInt z)))) := by
  rw [am_cell_J]
  congr 5
  funext j
  by_cases h : j = k <;> simp [am_sM, vp_updL, h]
theorem am_sR_q {t n r k v : Nat} (h : 200 ≤ t) : am_cell cA base fo (am_sR S r k (some v)) (t, n) r = .inl (cA t, n, .inr (.inr (.inr (.inr (va_up (fun j => (S.2.1 r j).map (fun v => base + v)) k (some (base + v))))))) := by
  rw [am_cell_q h]
  congr 8
  funext j
  by_cases h : j = k <;> simp [am_sR, va_up, h]
theorem am_iast_ok (hx : p.tables.exec = Jvm.exec) (hb : c.code = cc) (hF : am_F dC dI cA base fo fx s) (hP : am_P dC dI cA base fo S H) (hS : va_S (am_A base) s.heap H locs) {r : Nat} {j z : Int} (hr : r < 1000) (h1 : (am_arr fx S r).1 = 100) (h2 : am_in j (am_arr fx S r).2.1 = true) (hdg : decode cc pc = .ok (.iastore, 1))
    (kk : ∀ (H1 : Heap) (locs1 : List Loc), am_P dC dI cA base fo (am_sM S r (am_s j).toNat z) H1 → va_S (am_A base) s.heap H1 locs1 → W p l e R s m args below meth c H1 locs1 cells slots Q (F0 m (pc + 1) lsA rest)) : W p l e R s m args below meth c H locs cells slots Q (F0 m pc lsA (.int (Int32.ofInt z) :: .int (Int32.ofInt j) :: am_cv base fo r :: rest)) := by
  obtain ⟨hi, hj⟩ := am_inb h2
  obtain ⟨e1, e2⟩ := am_own hr h1 (by decide)
  have he := am_wl_get (cA := cA) (base := base) (fo := fo) e1
  rw [am_cell_I] at he
  rw [am_cvo hr]
  have ew := am_wl_set (cA := cA) (base := base) (fo := fo) (S := S) (S' := am_sM S r (am_s j).toNat z) e1 rfl (fun a ha sh => am_cell_sM a ha sh)
  rw [am_sM_I] at ew
  exact va_iast hx hb hF.1 hP.2 am_wl_D hS r 0 he rfl hi hdg (fun H1 locs1 hP1 hD1 hS1 => kk H1 locs1 ⟨hP.1, by rw [← ew]; exact hP1⟩ hS1)
theorem am_bast_ok (hx : p.tables.exec = Jvm.exec) (hb : c.code = cc) (hF : am_F dC dI cA base fo fx s) (hP : am_P dC dI cA base fo S H) (hS : va_S (am_A base) s.heap H locs) {r : Nat} {j z : Int} (hr : r < 1000) (h1 : (am_arr fx S r).1 = 102) (h2 : am_in j (am_arr fx S r).2.1 = true) (hdg : decode cc pc = .ok (.bastore, 1))
    (kk : ∀ (H1 : Heap) (locs1 : List Loc), am_P dC dI cA base fo (am_sM S r (am_s j).toNat (Int32.ofInt z).toInt8.toInt32.toInt) H1 → va_S (am_A base) s.heap H1 locs1 → W p l e R s m args below meth c H1 locs1 cells slots Q (F0 m (pc + 1) lsA rest)) : W p l e R s m args below meth c H locs cells slots Q (F0 m pc lsA (.int (Int32.ofInt z) :: .int (Int32.ofInt j) :: am_cv base fo r :: rest)) := by
  obtain ⟨hi, hj⟩ := am_inb h2
  obtain ⟨e1, e2⟩ := am_own hr h1 (by decide)
  have he := am_wl_get (cA := cA) (base := base) (fo := fo) e1
  rw [am_cell_B] at he
  rw [am_cvo hr]
  have ew := am_wl_set (cA := cA) (base := base) (fo := fo) (S := S) (S' := am_sM S r (am_s j).toNat (Int32.ofInt z).toInt8.toInt32.toInt) e1 rfl (fun a ha sh => am_cell_sM a ha sh)
  rw [am_sM_B, Int32.ofInt_toInt] at ew
  exact va_bast hx hb hF.1 hP.2 am_wl_D hS r 2 he rfl hi hdg (fun H1 locs1 hP1 hD1 hS1 => kk H1 locs1 ⟨hP.1, by rw [← ew]; exact hP1⟩ hS1)
theorem am_zast_ok (hx : p.tables.exec = Jvm.exec) (hb : c.code = cc) (hF : am_F dC dI cA base fo fx s) (hP : am_P dC dI cA base fo S H) (hS : va_S (am_A base) s.heap H locs) {r : Nat} {j z : Int} (hr : r < 1000) (h1 : (am_arr fx S r).1 = 103) (h2 : am_in j (am_arr fx S r).2.1 = true) (hdg : decode cc pc = .ok (.bastore, 1))
    (kk : ∀ (H1 : Heap) (locs1 : List Loc), am_P dC dI cA base fo (am_sM S r (am_s j).toNat (Int32.ofInt z &&& 1).toInt) H1 → va_S (am_A base) s.heap H1 locs1 → W p l e R s m args below meth c H1 locs1 cells slots Q (F0 m (pc + 1) lsA rest)) : W p l e R s m args below meth c H locs cells slots Q (F0 m pc lsA (.int (Int32.ofInt z) :: .int (Int32.ofInt j) :: am_cv base fo r :: rest)) := by
  obtain ⟨hi, hj⟩ := am_inb h2
  obtain ⟨e1, e2⟩ := am_own hr h1 (by decide)
  have he := am_wl_get (cA := cA) (base := base) (fo := fo) e1
  rw [am_cell_Z] at he
  rw [am_cvo hr]
  have ew := am_wl_set (cA := cA) (base := base) (fo := fo) (S := S) (S' := am_sM S r (am_s j).toNat (Int32.ofInt z &&& 1).toInt) e1 rfl (fun a ha sh => am_cell_sM a ha sh)
  rw [am_sM_Z, Int32.ofInt_toInt] at ew
  exact va_zast hx hb hF.1 hP.2 am_wl_D hS r 3 he rfl hi hdg (fun H1 locs1 hP1 hD1 hS1 => kk H1 locs1 ⟨hP.1, by rw [← ew]; exact hP1⟩ hS1)
theorem am_last_ok (hx : p.tables.exec = Jvm.exec) (hb : c.code = cc) (hF : am_F dC dI cA base fo fx s) (hP : am_P dC dI cA base fo S H) (hS : va_S (am_A base) s.heap H locs) {r : Nat} {j z : Int} (hr : r < 1000) (h1 : (am_arr fx S r).1 = 101) (h2 : am_in j (am_arr fx S r).2.1 = true) (hdg : decode cc pc = .ok (.lastore, 1))
    (kk : ∀ (H1 : Heap) (locs1 : List Loc), am_P dC dI cA base fo (am_sM S r (am_s j).toNat z) H1 → va_S (am_A base) s.heap H1 locs1 → W p l e R s m args below meth c H1 locs1 cells slots Q (F0 m (pc + 1) lsA rest)) : W p l e R s m args below meth c H locs cells slots Q (F0 m pc lsA (.long (Int64.ofInt z) :: .int (Int32.ofInt j) :: am_cv base fo r :: rest)) := by
  obtain ⟨hi, hj⟩ := am_inb h2
  obtain ⟨e1, e2⟩ := am_own hr h1 (by decide)
  have he := am_wl_get (cA := cA) (base := base) (fo := fo) e1
  rw [am_cell_J] at he
  rw [am_cvo hr]
  have ew := am_wl_set (cA := cA) (base := base) (fo := fo) (S := S) (S' := am_sM S r (am_s j).toNat z) e1 rfl (fun a ha sh => am_cell_sM a ha sh)
  rw [am_sM_J] at ew
  exact va_last hx hb hF.1 hP.2 am_wl_D hS r 1 he rfl hi hdg (fun H1 locs1 hP1 hD1 hS1 => kk H1 locs1 ⟨hP.1, by rw [← ew]; exact hP1⟩ hS1)
theorem am_aast_ok (hx : p.tables.exec = Jvm.exec) (hb : c.code = cc) (hF : am_F dC dI cA base fo fx s) (hP : am_P dC dI cA base fo S H) (hS : va_S (am_A base) s.heap H locs) {r v : Nat} {sh : Nat × Nat} {j : Int} (hr : r < 1000) (hv : S.1[v]? = some sh) (h1 : ((am_arr fx S r).1 = 200 ∧ sh.1 = 7) ∨ ((am_arr fx S r).1 = 201 ∧ sh.1 = 6)) (h2 : am_in j (am_arr fx S r).2.1 = true) (hdg : decode cc pc = .ok (.aastore, 1))
    (kk : ∀ (H1 : Heap) (locs1 : List Loc), am_P dC dI cA base fo (am_sR S r (am_s j).toNat (some v)) H1 → va_S (am_A base) s.heap H1 locs1 → W p l e R s m args below meth c H1 locs1 cells slots Q (F0 m (pc + 1) lsA rest)) : W p l e R s m args below meth c H locs cells slots Q (F0 m pc lsA (am_cv base fo v :: .int (Int32.ofInt j) :: am_cv base fo r :: rest)) := by
  obtain ⟨hi, hj⟩ := am_inb h2
  rw [am_cvo hr, am_cvo (am_lt hP hv)]
  have hw := am_wl_get (cA := cA) (base := base) (fo := fo) hv
  rw [am_cell_o (by omega)] at hw
  rcases h1 with ⟨h1, h3⟩ | ⟨h1, h3⟩
  · obtain ⟨e1, e2⟩ := am_own hr h1 (by decide)
    have he := am_wl_get (cA := cA) (base := base) (fo := fo) e1
    rw [am_cell_q (by decide)] at he
    have ew := am_wl_set (cA := cA) (base := base) (fo := fo) (S := S) (S' := am_sR S r (am_s j).toNat (some v)) e1 rfl (fun a ha sh => am_cell_sR a ha sh)
    rw [am_sR_q (by decide)] at ew
    rw [h3] at hw
    exact va_astq (r := ("HeardBarrels$Shelf", am_T7, 12)) hx hb hF.1 hP.2 am_wl_D hS r 4 v 7 he rfl hw rfl hi hdg (fun H1 locs1 hP1 hD1 hS1 => kk H1 locs1 ⟨hP.1, by rw [← ew]; exact hP1⟩ hS1)
  · obtain ⟨e1, e2⟩ := am_own hr h1 (by decide)
    have he := am_wl_get (cA := cA) (base := base) (fo := fo) e1
    rw [am_cell_q (by decide)] at he
    have ew := am_wl_set (cA := cA) (base := base) (fo := fo) (S := S) (S' := am_sR S r (am_s j).toNat (some v)) e1 rfl (fun a ha sh => am_cell_sR a ha sh)
    rw [am_sR_q (by decide)] at ew
    rw [h3] at hw
    exact va_astq (r := ("HeardBarrels$Row", am_T6, 3)) hx hb hF.1 hP.2 am_wl_D hS r 5 v 6 he rfl hw rfl hi hdg (fun H1 locs1 hP1 hD1 hS1 => kk H1 locs1 ⟨hP.1, by rw [← ew]; exact hP1⟩ hS1)
theorem am_alen_ok (hx : p.tables.exec = Jvm.exec) (hb : c.code = cc) (hG : am_G fo fx) (hF : am_F dC dI cA base fo fx s) (hP : am_P dC dI cA base fo S H) (hS : va_S (am_A base) s.heap H locs) {r : Nat} (h1 : 100 ≤ (am_arr fx S r).1) (h4 : (am_arr fx S r).1 < 104) (hdg : decode cc pc = .ok (.arraylength, 1))
    (kk : W p l e R s m args below meth c H locs cells slots Q (F0 m (pc + 1) lsA (.int (Int32.ofInt ((am_arr fx S r).2.1 : Int)) :: rest))) : W p l e R s m args below meth c H locs cells slots Q (F0 m pc lsA (am_cv base fo r :: rest)) := by
  have e0 : Int32.ofNat (am_arr fx S r).2.1 = Int32.ofInt ((am_arr fx S r).2.1 : Int) := rfl
  by_cases hr : r < 1000
  · obtain ⟨e1, e2⟩ := am_own (t := (am_arr fx S r).1) hr rfl (by omega)
    have he := am_wl_get (cA := cA) (base := base) (fo := fo) e1
    rw [am_cvo hr]
    generalize (am_arr fx S r).1 = t at *
    have ht : t = 100 ∨ t = 101 ∨ t = 102 ∨ t = 103 := by omega
    rcases ht with rfl | rfl | rfl | rfl
    · rw [am_cell_I] at he
      exact va_alen hx hb hF.1 hP.2 r 0 he rfl e0 hdg kk
    · rw [am_cell_J] at he
      exact va_alen hx hb hF.1 hP.2 r 1 he rfl e0 hdg kk
    · rw [am_cell_B] at he
      exact va_alen hx hb hF.1 hP.2 r 2 he rfl e0 hdg kk
    · rw [am_cell_Z] at he
      exact va_alen hx hb hF.1 hP.2 r 3 he rfl e0 hdg kk
  · rw [am_for hr] at h1 kk e0
    rcases hG.2 r (by omega) with h | h | h
    · omega
    · obtain ⟨x, e1, e2⟩ := hF.2.1 r (by omega) h
      rw [am_cvf (by omega), e1]
      exact va_tlen hx hb e2 hS e0 hdg kk
    · obtain ⟨x, e1, e2⟩ := hF.2.2.1 r (by omega) h
      rw [am_cvf (by omega), e1]
      exact va_tlen hx hb e2 hS e0 hdg kk
end AMK
