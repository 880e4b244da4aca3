section AMH
variable {base : Nat} {fo : Nat → Value} {cA : Nat → ClassId} {dC : Nat → ClassId} {dI : Nat → Nat → Nat} {fx : am_X0} {S : am_S}
theorem am_cell_o {sh : Nat × Nat} {r : Nat} (h : sh.1 < 100) : am_cell cA base fo S sh r = .inr (sh.1, (List.range sh.2).map (fun k => am_c (am_cv base fo) (am_fv S sh.1 r k))) := if_pos h
theorem am_cell_I {n r : Nat} : am_cell cA base fo S (100, n) r = .inl (cA 100, n, .inl (fun j => Int32.ofInt (S.2.2 r j))) := by simp [am_cell]
theorem am_cell_J {n r : Nat} : am_cell cA base fo S (101, n) r = .inl (cA 101, n, .inr (.inl (fun j => Int64.ofInt (S.2.2 r j)))) := by simp [am_cell]
theorem am_cell_B {n r : Nat} : am_cell cA base fo S (102, n) r = .inl (cA 102, n, .inl (fun j => Int32.ofInt (S.2.2 r j))) := by simp [am_cell]
theorem am_cell_Z {n r : Nat} : am_cell cA base fo S (103, n) r = .inl (cA 103, n, .inl (fun j => Int32.ofInt (S.2.2 r j))) := by simp [am_cell]
theorem am_cell_q {t n r : Nat} (h : 200 ≤ t) : am_cell cA base fo S (t, n) r = .inl (cA t, n, .inr (.inr (.inr (.inr (fun j => (S.2.1 r j).map (fun v => base + v)))))) := by
  have h1 : ¬ t < 100 := by omega
  have h2 : ¬ t = 101 := by omega
  simp [am_cell, h1, h2, h]
theorem am_fs_get {ci n r k : Nat} (h : k < n) : ((List.range n).map (fun k => am_c (am_cv base fo) (am_fv S ci r k)))[k]? = some (am_c (am_cv base fo) (am_fv S ci r k)) := by
  rw [List.getElem?_map, List.getElem?_range h]
  rfl
theorem am_fs_sM {ci n r k : Nat} {z : Int} (hk : ¬ am_fk ci k = 2) : (List.range n).map (fun j => am_c (am_cv base fo) (am_fv (am_sM S r k z) ci r j)) = ((List.range n).map (fun j => am_c (am_cv base fo) (am_fv S ci r j))).set k (.int (Int32.ofInt z)) := by
  apply List.ext_getElem?
  intro j
  rw [List.getElem?_set]
  by_cases hj : j < n
  · rw [List.getElem?_map, List.getElem?_range hj]
    by_cases e : k = j
    · subst e
      rw [if_pos rfl, if_pos (by simpa using hj)]
      simp only [Option.map_some, am_fv, if_neg hk, am_sM, am_c, and_self, if_true]
    · rw [if_neg e, List.getElem?_map, List.getElem?_range hj]
      simp only [Option.map_some]
      have hjk : ¬ j = k := fun q => e q.symm
      simp [am_fv, am_sM, hjk]
  · rw [List.getElem?_eq_none (by simpa using hj)]
    by_cases e : k = j
    · subst e
      rw [if_pos rfl, if_neg (by simpa using hj)]
    · rw [if_neg e, List.getElem?_eq_none (by simpa using hj)]
theorem am_fs_sR {ci n r k : Nat} {o : Option Nat} (hk : am_fk ci k = 2) : (List.range n).map (fun j => am_c (am_cv base fo) (am_fv (am_sR S r k o) ci r j)) = ((List.range n).map (fun j => am_c (am_cv base fo) (am_fv S ci r j))).set k (am_c (am_cv base fo) (.inr (.inr o))) := by
  apply List.ext_getElem?
  intro j
  rw [List.getElem?_set]
  by_cases hj : j < n
  · rw [List.getElem?_map, List.getElem?_range hj]
    by_cases e : k = j
    · subst e
      rw [if_pos rfl, if_pos (by simpa using hj)]
      simp only [Option.map_some, am_fv, if_pos hk, am_sR, and_self, if_true]
    · rw [if_neg e, List.getElem?_map, List.getElem?_range hj]
      simp only [Option.map_some]
      have hjk : ¬ j = k := fun q => e q.symm
      simp [am_fv, am_sR, hjk]
  · rw [List.getElem?_eq_none (by simpa using hj)]
    by_cases e : k = j
    · subst e
      rw [if_pos rfl, if_neg (by simpa using hj)]
    · rw [if_neg e, List.getElem?_eq_none (by simpa using hj)]
theorem am_lt {r : Nat} {sh : Nat × Nat} {H : Heap} (hP : am_P dC dI cA base fo S H) (h : S.1[r]? = some sh) : r < 1000 := Nat.lt_of_lt_of_le (List.getElem?_eq_some_iff.mp h).1 hP.1
theorem am_own {r : Nat} (h : r < 1000) {t : Nat} (ht : (am_arr fx S r).1 = t) (h0 : t ≠ 0) : S.1[r]? = some (t, (am_arr fx S r).2.1) ∧ (am_arr fx S r).2.2 = S.2.2 r := by
  unfold am_arr at *
  rw [if_pos h] at ht ⊢
  cases hS : S.1[r]? with
  | none =>
    rw [hS] at ht
    exact absurd ht.symm h0
  | some q =>
    rw [hS] at ht
    simp only at ht
    subst ht
    exact ⟨rfl, rfl⟩
theorem am_for {r : Nat} (h : ¬ r < 1000) : am_arr fx S r = fx r := if_neg h
theorem am_addr {D : va_G} {q0 : Nat} {en : va_E} {H1 : Heap} (hP : va_P D am_cl (am_wl cA base fo S ++ [(q0, en)]) H1) (hD : va_D (am_A base) (am_wl cA base fo S ++ [(q0, en)])) (hz : H1.size ≤ base + S.1.length + 1) : q0 = base + S.1.length := by
  have hl : (am_wl cA base fo S ++ [(q0, en)])[S.1.length]? = some (q0, en) := by
    rw [List.getElem?_append_right (by rw [am_wl_len]; exact Nat.le_refl _), am_wl_len]
    simp
  have h1 : q0 < H1.size := (hP _ _ hl).lt
  have h2 : base ≤ q0 := hD.2 _ _ hl
  rcases Nat.lt_or_ge q0 (base + S.1.length) with h3 | h3
  · exfalso
    have hk : q0 - base < S.1.length := by omega
    have hg : (am_wl cA base fo S ++ [(q0, en)])[q0 - base]? = some (base + (q0 - base), am_cell cA base fo S S.1[q0 - base] (q0 - base)) := by
      rw [List.getElem?_append_left (by rw [am_wl_len]; exact hk)]
      exact am_wl_get (List.getElem?_eq_getElem hk)
    have := hD.1 _ _ _ _ hg hl (by show base + (q0 - base) = q0; omega)
    omega
  · omega
end AMH
theorem am_Wsz {p : Program} {l : Launch} {e : Env} {R : Room} {s : State} {m : MethodId} {args : Array Value} {below : List Frame} {meth : Method} {c : Code} {H : Heap} {locs : List Loc} {cells slots : Nat} {Q : State → Prop} {g : JFrame} (h : H.size ≤ s.heap.size + cells → W p l e R s m args below meth c H locs cells slots Q g) : W p l e R s m args below meth c H locs cells slots Q g :=
  fun T hT X => h (by rw [← hT]; exact X.heapSize) T hT X
theorem am_bool {z : Int} (h : am_s z = 0 ∨ am_s z = 1) : Int32.ofInt z = 0 ∨ Int32.ofInt z = 1 := by
  rcases h with h | h
  · exact Or.inl (Int32.toInt_inj.mp h)
  · exact Or.inr (Int32.toInt_inj.mp h)
theorem am_fk0 {ci k : Nat} (h : am_fk ci k = 0) : am_ty ci k = .int := by
  unfold am_fk at h
  split at h <;> first | assumption | cases h
theorem am_fk1 {ci k : Nat} (h : am_fk ci k = 1) : am_ty ci k = .boolean := by
  unfold am_fk at h
  split at h <;> first | assumption | cases h
theorem am_fk2 {ci k : Nat} (h : am_fk ci k = 2) : (∃ n, am_ty ci k = .object n) ∨ ∃ t, am_ty ci k = .array t := by
  unfold am_fk at h
  split at h
  · cases h
  · cases h
  · rename_i n hn; exact Or.inl ⟨n, hn⟩
  · rename_i n hn; exact Or.inr ⟨n, hn⟩
  · cases h
section AMG
variable {p : Program} {l : Launch} {e : Env} {R : Room} {s : State} {m : MethodId} {args : Array Value} {below : List Frame} {meth : Method} {c : Code} {H : Heap} {locs : List Loc} {cells slots : Nat} {Q : State → Prop} {cc : ByteArray} {pc : Nat} {lsA : Array Slot} {rest : List Value}
variable {base : Nat} {fo : Nat → Value} {cA : Nat → ClassId} {dC : Nat → ClassId} {dI : Nat → Nat → Nat} {fx : am_X0} {S : am_S}
/-- of a field of the pool: its class, its words -/
theorem am_pf_ok (hts : ∀ w ∈ am_T, w.before args s = true) {cn x : Nat} {f : Nat × Nat} (h : am_look am_pfL cn x = some f) : f.1 < 9 ∧ ∃ q : vw_C, am_cl[f.1]? = some q ∧ f.2 < q.2.2 ∧ (Cond.fieldLink (am_cn cn) x q.1 (q.2.1 f.2).2.1 (q.2.1 f.2).2.2.1).before args s = true ∧ (q.2.1 f.2).1 = q.1 ∧ ∀ w ∈ u_ws q.1 q.2.1 q.2.2, w ∈ am_T := by
  have h1 := List.all_eq_true.mp am_pfA _ (am_look_in h)
  unfold am_pfC at h1
  simp only at h1
  split at h1
  · rename_i q hq
    simp only [Bool.and_eq_true, decide_eq_true_eq] at h1
    have hl : f.1 < am_cl.length := (List.getElem?_eq_some_iff.mp hq).1
    exact ⟨hl, q, hq, h1.1, hts _ (am_wd_in h1.2.1), h1.2.2, fun w hw => am_wd_in (List.all_eq_true.mp (List.all_eq_true.mp am_clA q (List.mem_of_getElem? hq)) w hw)⟩
  · cases h1
theorem am_get_ok (hx : p.tables.exec = Jvm.exec) (hb : c.code = cc) (hts : ∀ w ∈ am_T, w.before args s = true) {cn : Nat} (hown : s.vm.findClass (am_cn cn) = some m.cls) (hF : am_F dC dI cA base fo fx s) (hP : am_P dC dI cA base fo S H) {x r : Nat} {sh f : Nat × Nat} (hr : S.1[r]? = some sh) (hf : am_look am_pfL cn x = some f) (h1 : sh.1 = f.1) (h2 : f.2 < sh.2) (hdg : decode cc pc = .ok (.getfield x, 3))
    (kk : W p l e R s m args below meth c H locs cells slots Q (F0 m (pc + 3) lsA (am_c (am_cv base fo) (am_fv S f.1 r f.2) :: rest))) : W p l e R s m args below meth c H locs cells slots Q (F0 m pc lsA (am_cv base fo r :: rest)) := by
  obtain ⟨h9, q, hq, hk, hlink, hsame, hin⟩ := am_pf_ok hts hf
  rw [am_cvo (am_lt hP hr)]
  have he := am_wl_get (cA := cA) (base := base) (fo := fo) hr
  rw [am_cell_o (by omega)] at he
  rw [h1] at he
  exact va_get (D := (dC, dI)) (C := q.1) (T := q.2.1) (N := q.2.2) (ref := q.1) hx hb hts hin hown hF.1 hP.2 r he hq f.2 hk hlink (fun y hy => by rw [← hsame]; exact hy) (am_fs_get h2) hdg kk
theorem am_put_ok (hx : p.tables.exec = Jvm.exec) (hb : c.code = cc) (hts : ∀ w ∈ am_T, w.before args s = true) {cn : Nat} (hown : s.vm.findClass (am_cn cn) = some m.cls) (hF : am_F dC dI cA base fo fx s) (hP : am_P dC dI cA base fo S H) (hS : va_S (am_A base) s.heap H locs) {x r : Nat} {z : Int} {sh f : Nat × Nat} (hr : S.1[r]? = some sh) (hf : am_look am_pfL cn x = some f) (h1 : sh.1 = f.1) (h2 : f.2 < sh.2) (h3 : am_fin f.1 f.2 = false) (h4 : am_fk f.1 f.2 = 0 ∨ (am_fk f.1 f.2 = 1 ∧ (am_s z = 0 ∨ am_s z = 1))) (hdg : decode cc pc = .ok (.putfield x, 3))
    (kk : ∀ (H1 : Heap) (locs1 : List Loc), am_P dC dI cA base fo (am_sM S r f.2 z) H1 → va_S (am_A base) s.heap H1 locs1 → W p l e R s m args below meth c H1 locs1 cells slots Q (F0 m (pc + 3) lsA rest)) : W p l e R s m args below meth c H locs cells slots Q (F0 m pc lsA (.int (Int32.ofInt z) :: am_cv base fo r :: rest)) := by
  obtain ⟨h9, q, hq, hk, hlink, hsame, hin⟩ := am_pf_ok hts hf
  rw [am_cvo (am_lt hP hr)]
  have he := am_wl_get (cA := cA) (base := base) (fo := fo) hr
  rw [am_cell_o (by omega)] at he
  rw [h1] at he
  have hn : narrow (am_ty f.1 f.2) (.int (Int32.ofInt z)) = .int (Int32.ofInt z) ∧ fits (am_ty f.1 f.2) (.int (Int32.ofInt z)) = true := by
    rcases h4 with h4 | ⟨h4, h5⟩
    · rw [am_fk0 h4]; exact ⟨rfl, rfl⟩
    · rw [am_fk1 h4]
      rcases am_bool h5 with h5 | h5 <;> rw [h5] <;> exact ⟨rfl, rfl⟩
  have hfin : (q.2.1 f.2).2.2.2 = false := by
    unfold am_fin at h3
    rw [hq] at h3
    exact h3
  refine va_put (D := (dC, dI)) (C := q.1) (T := q.2.1) (N := q.2.2) (ref := q.1) hx hb hts hin (am_ty f.1) (am_tyA f.1 h9 q hq) (am_nmA f.1 h9 q hq) hown hF.1 hP.2 am_wl_D hS r he hq f.2 hk hlink (fun y hy => by rw [← hsame]; exact hy) hfin (am_tyA f.1 h9 q hq f.2 hk) hn.1 hn.2 (by simpa using h2) hdg (fun H1 locs1 hP1 hD1 hS1 => kk H1 locs1 ⟨hP.1, ?_⟩ hS1)
  have ew := am_wl_set (cA := cA) (base := base) (fo := fo) (S := S) (S' := am_sM S r f.2 z) hr rfl (fun a ha sh => am_cell_sM a ha sh)
  rw [am_cell_o (by omega), am_fs_sM (by rw [h1]; omega), h1] at ew
  rw [← ew]
  exact hP1
theorem am_putF_ok (hx : p.tables.exec = Jvm.exec) (hb : c.code = cc) (hts : ∀ w ∈ am_T, w.before args s = true) {cn : Nat} (hown : s.vm.findClass (am_cn cn) = some m.cls) (hG : am_G fo fx) (hF : am_F dC dI cA base fo fx s) (hP : am_P dC dI cA base fo S H) (hS : va_S (am_A base) s.heap H locs) (hi : meth.name = "<init>") {x r : Nat} {o : Option Nat} {sh f : Nat × Nat} (hr : S.1[r]? = some sh) (hf : am_look am_pfL cn x = some f) (h1 : sh.1 = f.1) (h2 : f.2 < sh.2) (h3 : am_fin f.1 f.2 = true) (h5 : cn = f.1 + 1) (h4 : am_fk f.1 f.2 = 2) (hdg : decode cc pc = .ok (.putfield x, 3))
    (kk : ∀ (H1 : Heap) (locs1 : List Loc), am_P dC dI cA base fo (am_sR S r f.2 o) H1 → va_S (am_A base) s.heap H1 locs1 → W p l e R s m args below meth c H1 locs1 cells slots Q (F0 m (pc + 3) lsA rest)) : W p l e R s m args below meth c H locs cells slots Q (F0 m pc lsA (am_c (am_cv base fo) (.inr (.inr o)) :: am_cv base fo r :: rest)) := by
  obtain ⟨h9, q, hq, hk, hlink, hsame, hin⟩ := am_pf_ok hts hf
  rw [am_cvo (am_lt hP hr)]
  have he := am_wl_get (cA := cA) (base := base) (fo := fo) hr
  rw [am_cell_o (by omega)] at he
  rw [h1] at he
  have hv : am_c (am_cv base fo) (.inr (.inr o)) = .null ∨ ∃ y, am_c (am_cv base fo) (.inr (.inr o)) = .ref y := by
    cases o with
    | none => exact Or.inl rfl
    | some a => exact am_cvn hG a
  have hn : narrow (am_ty f.1 f.2) (am_c (am_cv base fo) (.inr (.inr o))) = am_c (am_cv base fo) (.inr (.inr o)) ∧ fits (am_ty f.1 f.2) (am_c (am_cv base fo) (.inr (.inr o))) = true := by
    rcases am_fk2 h4 with ⟨n, hn⟩ | ⟨n, hn⟩ <;> rw [hn] <;> rcases hv with hv | ⟨y, hv⟩ <;> rw [hv] <;> exact ⟨rfl, rfl⟩
  have hfin : (q.2.1 f.2).2.2.2 = true := by
    unfold am_fin at h3
    rw [hq] at h3
    exact h3
  refine va_putF (D := (dC, dI)) (C := q.1) (T := q.2.1) (N := q.2.2) (ref := q.1) hx hb hts hin (am_ty f.1) (am_tyA f.1 h9 q hq) (am_nmA f.1 h9 q hq) hown hF.1 hP.2 am_wl_D hS r he hq f.2 hk hlink (fun y hy => by rw [← hsame]; exact hy) hfin hi (by rw [hsame, h5]; exact (am_nameA f.1 h9 q hq).symm) (am_tyA f.1 h9 q hq f.2 hk) hn.1 hn.2 (by simpa using h2) hdg (fun H1 locs1 hP1 hD1 hS1 => kk H1 locs1 ⟨hP.1, ?_⟩ hS1)
  have ew := am_wl_set (cA := cA) (base := base) (fo := fo) (S := S) (S' := am_sR S r f.2 o) hr rfl (fun a ha sh => am_cell_sR a ha sh)
  rw [am_cell_o (by omega), am_fs_sR (by rw [h1]; exact h4), h1] at ew
  rw [← ew]
  exact hP1
end AMG
