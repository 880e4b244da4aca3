section AMN
variable {p : Program} {l : Launch} {e : Env} {R : Room} {s : State} {m : MethodId} {args : Array Value} {below : List Frame} {meth : Method} {c : Code} {H : Heap} {locs : List Loc} {cells slots : Nat} {Q : State → Prop} {cc : ByteArray} {pc : Nat} {lsA : Array Slot} {rest : List Value}
variable {base : Nat} {fo : Nat → Value} {cA : Nat → ClassId} {dC : Nat → ClassId} {dI : Nat → Nat → Nat} {fx : am_X0} {S : am_S}
theorem am_new_ok (hx : p.tables.exec = Jvm.exec) (hb : c.code = cc) (hts : ∀ w ∈ am_T, w.before args s = true) {cn : Nat} (hown : s.vm.findClass (am_cn cn) = some m.cls) (hF : am_F dC dI cA base fo fx s) (hP : am_P dC dI cA base fo S H) (hS : va_S (am_A base) s.heap H locs) (hb0 : base ≤ s.heap.size) (hcnt : s.heap.size + cells = base + S.1.length) {x ci : Nat} {kc : vw_C} (hn : am_look am_pnL cn x = some ci) (hk : am_cl[ci]? = some kc) (h1 : cells + 1 ≤ R.cells) (h2 : slots + kc.2.2 ≤ R.slots) (h3 : S.1.length < 1000) (hdg : decode cc pc = .ok (.new x, 3))
    (kk : ∀ (H1 : Heap), am_P dC dI cA base fo (am_nw S (ci, kc.2.2)) H1 → va_S (am_A base) s.heap H1 locs → W p l e R s m args below meth c H1 locs (cells + 1) (slots + kc.2.2) Q (F0 m (pc + 3) lsA (am_cv base fo S.1.length :: rest))) : W p l e R s m args below meth c H locs cells slots Q (F0 m pc lsA rest) := by
  have hw := List.all_eq_true.mp am_pnA _ (am_look_in hn)
  unfold am_pnC at hw
  simp only [hk, Bool.and_eq_true] at hw
  have hci : ci < 9 := (List.getElem?_eq_some_iff.mp hk).1
  have hin : ∀ w ∈ u_ws kc.1 kc.2.1 kc.2.2, w ∈ am_T := fun w hw => am_wd_in (List.all_eq_true.mp (List.all_eq_true.mp am_clA kc (List.mem_of_getElem? hk)) w hw)
  have hfs : ∀ j, j < kc.2.2 → defaultValue (am_ty ci j) = vp_V ((List.range kc.2.2).map (fun k => am_c (am_cv base fo) (am_fv (am_nw S (ci, kc.2.2)) ci S.1.length k))) j := by
    intro j hj
    have hfk := am_fkA ci hci j (by rw [hk]; exact hj)
    unfold vp_V
    rw [List.getD_eq_getElem?_getD, am_fs_get hj, Option.getD_some]
    have h012 : am_fk ci j = 0 ∨ am_fk ci j = 1 ∨ am_fk ci j = 2 := by omega
    rcases h012 with h | h | h
    · rw [am_fk0 h]
      simp [am_fv, h, am_nw, am_c, defaultValue]
    · rw [am_fk1 h]
      simp [am_fv, h, am_nw, am_c, defaultValue]
    · rcases am_fk2 h with ⟨n, hn⟩ | ⟨n, hn⟩ <;> rw [hn] <;> simp [am_fv, h, am_nw, am_c, defaultValue]
  refine va_new (C := kc.1) (T := kc.2.1) (N := kc.2.2) (D := (dC, dI)) (fs := (List.range kc.2.2).map (fun k => am_c (am_cv base fo) (am_fv (am_nw S (ci, kc.2.2)) ci S.1.length k))) hx hb hts hin (am_ty ci) (am_tyA ci hci kc hk) hown (hts _ (am_wd_in hw.1)) (hts _ (am_wd_in hw.2.1)) (hts _ (am_wd_in hw.2.2)) hF.1 hP.2 am_wl_D hS (fun q h => Nat.le_trans hb0 h) hk hfs h1 h2 hdg (fun q0 H1 hP1 hD1 hS1 => ?_)
  refine am_Wsz (fun hz => ?_)
  have ea : q0 = base + S.1.length := am_addr hP1 hD1 (by omega)
  subst ea
  have hkk := kk H1 ⟨by simp [am_nw]; omega, by rw [am_wl_nw, am_cell_o (by show ci < 100; omega)]; exact hP1⟩ hS1
  rw [am_cvo h3] at hkk
  exact hkk
theorem am_newa_ok (hx : p.tables.exec = Jvm.exec) (hb : c.code = cc) (hts : ∀ w ∈ am_T, w.before args s = true) (hF : am_F dC dI cA base fo fx s) (hP : am_P dC dI cA base fo S H) (hS : va_S (am_A base) s.heap H locs) (hb0 : base ≤ s.heap.size) (hcnt : s.heap.size + cells = base + S.1.length) {t : ArrayType} {n : Int} (h0 : 0 ≤ am_s n) (h5 : am_s n ≤ 1000000) (h1 : cells + 1 ≤ R.cells) (h2 : slots + (am_s n).toNat ≤ R.slots) (h3 : S.1.length < 1000) (h4 : am_at t ≠ 0) (hdg : decode cc pc = .ok (.newarray t, 2))
    (kk : ∀ (H1 : Heap), am_P dC dI cA base fo (am_nw S (am_at t, (am_s n).toNat)) H1 → va_S (am_A base) s.heap H1 locs → W p l e R s m args below meth c H1 locs (cells + 1) (slots + (am_s n).toNat) Q (F0 m (pc + 2) lsA (am_cv base fo S.1.length :: rest))) : W p l e R s m args below meth c H locs cells slots Q (F0 m pc lsA (.int (Int32.ofInt n) :: rest)) := by
  have hn : ¬ (Int32.ofInt n) < 0 := fun q => by
    have := Int32.lt_iff_toInt_lt.mp q
    have e : (Int32.toInt 0) = 0 := rfl
    rw [e] at this
    have h0' : 0 ≤ (Int32.ofInt n).toInt := h0
    omega
  have hz0 : Int32.ofInt 0 = 0 := rfl
  have hz1 : Int64.ofInt 0 = 0 := rfl
  rw [am_cvo h3] at kk
  cases t with
  | int =>
    refine va_newa (D := (dC, dI)) (atype := ArrayType.int) (ty := .int) (a0 := ((am_s n).toNat, .inl (fun _ => 0))) hx hb (hts _ (am_wd_in am_arA.1)) rfl hF.1 hP.2 am_wl_D hS (fun q h => Nat.le_trans hb0 h) (fun _ => rfl) hn rfl (by show _ * 4 ≤ _; omega) h1 h2 hdg (fun q0 cB H1 hK1 hP1 hD1 hS1 => ?_)
    refine am_Wsz (fun hz => ?_)
    have ea : q0 = base + S.1.length := am_addr hP1 hD1 (by omega)
    have ec : cA 100 = cB := Option.some.inj ((hF.1.2 0 _ rfl).2.symm.trans (hK1.2 6 _ rfl).2)
    subst ea
    subst ec
    refine kk H1 ⟨by simp [am_nw]; omega, ?_⟩ hS1
    rw [am_wl_nw, show am_at ArrayType.int = 100 from rfl, am_cell_I]
    simp only [am_nw, if_true, hz0]
    exact hP1
  | long =>
    refine va_newa (D := (dC, dI)) (atype := ArrayType.long) (ty := .long) (a0 := ((am_s n).toNat, .inr (.inl (fun _ => 0)))) hx hb (hts _ (am_wd_in am_arA.2.1)) rfl hF.1 hP.2 am_wl_D hS (fun q h => Nat.le_trans hb0 h) (fun _ => rfl) hn rfl (by show _ * 8 ≤ _; omega) h1 h2 hdg (fun q0 cB H1 hK1 hP1 hD1 hS1 => ?_)
    refine am_Wsz (fun hz => ?_)
    have ea : q0 = base + S.1.length := am_addr hP1 hD1 (by omega)
    have ec : cA 101 = cB := Option.some.inj ((hF.1.2 1 _ rfl).2.symm.trans (hK1.2 6 _ rfl).2)
    subst ea
    subst ec
    refine kk H1 ⟨by simp [am_nw]; omega, ?_⟩ hS1
    rw [am_wl_nw, show am_at ArrayType.long = 101 from rfl, am_cell_J]
    simp only [am_nw, if_true, hz1]
    exact hP1
  | byte =>
    refine va_newa (D := (dC, dI)) (atype := ArrayType.byte) (ty := .byte) (a0 := ((am_s n).toNat, .inl (fun _ => 0))) hx hb (hts _ (am_wd_in am_arA.2.2.1)) rfl hF.1 hP.2 am_wl_D hS (fun q h => Nat.le_trans hb0 h) (fun _ => rfl) hn rfl (by show _ * 1 ≤ _; omega) h1 h2 hdg (fun q0 cB H1 hK1 hP1 hD1 hS1 => ?_)
    refine am_Wsz (fun hz => ?_)
    have ea : q0 = base + S.1.length := am_addr hP1 hD1 (by omega)
    have ec : cA 102 = cB := Option.some.inj ((hF.1.2 2 _ rfl).2.symm.trans (hK1.2 6 _ rfl).2)
    subst ea
    subst ec
    refine kk H1 ⟨by simp [am_nw]; omega, ?_⟩ hS1
    rw [am_wl_nw, show am_at ArrayType.byte = 102 from rfl, am_cell_B]
    simp only [am_nw, if_true, hz0]
    exact hP1
  | boolean =>
    refine va_newa (D := (dC, dI)) (atype := ArrayType.boolean) (ty := .boolean) (a0 := ((am_s n).toNat, .inl (fun _ => 0))) hx hb (hts _ (am_wd_in am_arA.2.2.2)) rfl hF.1 hP.2 am_wl_D hS (fun q h => Nat.le_trans hb0 h) (fun _ => rfl) hn rfl (by show _ * 1 ≤ _; omega) h1 h2 hdg (fun q0 cB H1 hK1 hP1 hD1 hS1 => ?_)
    refine am_Wsz (fun hz => ?_)
    have ea : q0 = base + S.1.length := am_addr hP1 hD1 (by omega)
    have ec : cA 103 = cB := Option.some.inj ((hF.1.2 3 _ rfl).2.symm.trans (hK1.2 6 _ rfl).2)
    subst ea
    subst ec
    refine kk H1 ⟨by simp [am_nw]; omega, ?_⟩ hS1
    rw [am_wl_nw, show am_at ArrayType.boolean = 103 from rfl, am_cell_Z]
    simp only [am_nw, if_true, hz0]
    exact hP1
  | char => exact absurd rfl h4
  | float => exact absurd rfl h4
  | double => exact absurd rfl h4
  | short => exact absurd rfl h4
theorem am_newq_ok (hx : p.tables.exec = Jvm.exec) (hb : c.code = cc) (hts : ∀ w ∈ am_T, w.before args s = true) {cn : Nat} (hown : s.vm.findClass (am_cn cn) = some m.cls) (hF : am_F dC dI cA base fo fx s) (hP : am_P dC dI cA base fo S H) (hS : va_S (am_A base) s.heap H locs) (hb0 : base ≤ s.heap.size) (hcnt : s.heap.size + cells = base + S.1.length) {x ci : Nat} {n : Int} (hl : am_look am_pnL cn x = some ci) (hci : ci = 6 ∨ ci = 7) (h0 : 0 ≤ am_s n) (h5 : am_s n ≤ 1000000) (h1 : cells + 1 ≤ R.cells) (h2 : slots + (am_s n).toNat ≤ R.slots) (h3 : S.1.length < 1000) (hdg : decode cc pc = .ok (.anewarray x, 3))
    (kk : ∀ (H1 : Heap), am_P dC dI cA base fo (am_nw S (if ci = 7 then 200 else 201, (am_s n).toNat)) H1 → va_S (am_A base) s.heap H1 locs → W p l e R s m args below meth c H1 locs (cells + 1) (slots + (am_s n).toNat) Q (F0 m (pc + 3) lsA (am_cv base fo S.1.length :: rest))) : W p l e R s m args below meth c H locs cells slots Q (F0 m pc lsA (.int (Int32.ofInt n) :: rest)) := by
  have hn : ¬ (Int32.ofInt n) < 0 := fun q => by
    have := Int32.lt_iff_toInt_lt.mp q
    have e : (Int32.toInt 0) = 0 := rfl
    rw [e] at this
    have h0' : 0 ≤ (Int32.ofInt n).toInt := h0
    omega
  rw [am_cvo h3] at kk
  have hw := List.all_eq_true.mp am_pnA _ (am_look_in hl)
  rcases hci with rfl | rfl
  · have hw1 : am_wd (.classLink (am_cn cn) x "HeardBarrels$Row") = true := by
      unfold am_pnC at hw
      have : am_cl[6]? = some ("HeardBarrels$Row", am_T6, 3) := rfl
      simp only [this, Bool.and_eq_true] at hw
      exact hw.1
    refine va_newq (D := (dC, dI)) (C := "HeardBarrels$Row") hx hb hown (hts _ (am_wd_in hw1)) hF.2.2.2.2.2.2.2.1 hF.1 hP.2 am_wl_D hS (fun q h => Nat.le_trans hb0 h) hn rfl (by show (am_s n).toNat * 4 ≤ _; omega) h1 h2 hdg (fun q0 cB H1 hK1 hP1 hD1 hS1 => ?_)
    refine am_Wsz (fun hz => ?_)
    have ea : q0 = base + S.1.length := am_addr hP1 hD1 (by omega)
    have ec : cA 201 = cB := by
      obtain ⟨_, _, _, _, _, z1⟩ := (hF.1.2 5 _ rfl).2
      obtain ⟨_, _, _, _, _, z2⟩ := (hK1.2 6 _ rfl).2
      exact Option.some.inj (z1.symm.trans z2)
    subst ea
    subst ec
    refine kk H1 ⟨by simp [am_nw]; omega, ?_⟩ hS1
    rw [am_wl_nw, if_neg (by decide), am_cell_q (by decide)]
    simp only [am_nw, if_true, Option.map_none]
    exact hP1
  · have hw1 : am_wd (.classLink (am_cn cn) x "HeardBarrels$Shelf") = true := by
      unfold am_pnC at hw
      have : am_cl[7]? = some ("HeardBarrels$Shelf", am_T7, 12) := rfl
      simp only [this, Bool.and_eq_true] at hw
      exact hw.1
    refine va_newq (D := (dC, dI)) (C := "HeardBarrels$Shelf") hx hb hown (hts _ (am_wd_in hw1)) hF.2.2.2.2.2.2.1 hF.1 hP.2 am_wl_D hS (fun q h => Nat.le_trans hb0 h) hn rfl (by show (am_s n).toNat * 4 ≤ _; omega) h1 h2 hdg (fun q0 cB H1 hK1 hP1 hD1 hS1 => ?_)
    refine am_Wsz (fun hz => ?_)
    have ea : q0 = base + S.1.length := am_addr hP1 hD1 (by omega)
    have ec : cA 200 = cB := by
      obtain ⟨_, _, _, _, _, z1⟩ := (hF.1.2 4 _ rfl).2
      obtain ⟨_, _, _, _, _, z2⟩ := (hK1.2 6 _ rfl).2
      exact Option.some.inj (z1.symm.trans z2)
    subst ea
    subst ec
    refine kk H1 ⟨by simp [am_nw]; omega, ?_⟩ hS1
    rw [am_wl_nw, if_pos rfl, am_cell_q (by decide)]
    simp only [am_nw, if_true, Option.map_none]
    exact hP1
end AMN
