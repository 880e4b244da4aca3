/-! THE WORLD OF THE ABSTRACT MACHINE over the kit's worlds -/
theorem am_psA : am_psL.all (fun e => am_wd (.fieldLink (am_cn e.1.1) e.1.2 e.2.2.1 e.2.2.2.1 e.2.2.2.2)) = true := by decide +kernel
theorem am_pxA : am_pxL.all (fun e => if e.2 = 0 then am_wd (.fieldLink (am_cn e.1.1) e.1.2 "java/lang/String" "value" "[B") else am_wd (.fieldLink (am_cn e.1.1) e.1.2 "java/lang/String" "coder" "B")) = true := by decide +kernel
def am_cv (base : Nat) (fo : Nat → Value) (r : Nat) : Value := if r < 1000 then .ref (base + r) else fo r
def am_A (base : Nat) : Nat → Prop := fun q => base ≤ q
def am_tys (cA : Nat → ClassId) : List (ClassId × FieldType) := [(cA 100, .int), (cA 101, .long), (cA 102, .byte), (cA 103, .boolean), (cA 200, .object "HeardBarrels$Shelf"), (cA 201, .object "HeardBarrels$Row")]
def am_cell (cA : Nat → ClassId) (base : Nat) (fo : Nat → Value) (S : am_S) (sh : Nat × Nat) (r : Nat) : va_E :=
  if sh.1 < 100 then .inr (sh.1, (List.range sh.2).map (fun k => am_c (am_cv base fo) (am_fv S sh.1 r k)))
  else .inl (cA sh.1, sh.2, if sh.1 = 101 then .inr (.inl (fun j => Int64.ofInt (S.2.2 r j))) else if 200 ≤ sh.1 then .inr (.inr (.inr (.inr (fun j => (S.2.1 r j).map (fun v => base + v))))) else .inl (fun j => Int32.ofInt (S.2.2 r j)))
def am_wl (cA : Nat → ClassId) (base : Nat) (fo : Nat → Value) (S : am_S) : va_W := (List.range S.1.length).map (fun r => (base + r, am_cell cA base fo S (S.1.getD r (0, 0)) r))
def am_P (dC : Nat → ClassId) (dI : Nat → Nat → Nat) (cA : Nat → ClassId) (base : Nat) (fo : Nat → Value) (S : am_S) (H : Heap) : Prop := S.1.length ≤ 1000 ∧ va_P (dC, dI) am_cl (am_wl cA base fo S) H
def am_F (dC : Nat → ClassId) (dI : Nat → Nat → Nat) (cA : Nat → ClassId) (base : Nat) (fo : Nat → Value) (fx : am_X0) (U : State) : Prop :=
  va_K (dC, dI) am_cl (am_tys cA) U ∧
  (∀ r, 1000 ≤ r → (fx r).1 = 100 → ∃ x, fo r = .ref x ∧ va_T .int x (fx r).2.1 (fun j => .int (Int32.ofInt ((fx r).2.2 j))) (am_A base) U U.heap) ∧
  (∀ r, 1000 ≤ r → (fx r).1 = 102 → ∃ x, fo r = .ref x ∧ va_T .byte x (fx r).2.1 (fun j => .int (Int32.ofInt ((fx r).2.2 j))) (am_A base) U U.heap) ∧
  (∀ i, i < 12 → ∃ x y, fo (2000 + i) = .ref x ∧ fo (3000 + i) = .ref y ∧ va_O "java/lang/String" x (am_A base) U U.heap ∧ va_OF "java/lang/String" "coder" "B" (.int 0) x (am_A base) U U.heap ∧ va_OF "java/lang/String" "value" "[B" (.ref y) x (am_A base) U U.heap) ∧
  (∀ e ∈ am_ptL, ∃ x, fo (2000 + e.2.1) = .ref x ∧ vk_R (am_cn e.1.1) e.1.2 e.2.2 x U) ∧
  (∀ e ∈ am_psL, va_Z e.2.2.1 e.2.2.2.1 e.2.2.2.2 (am_c (am_cv base fo) (match e.2.1 with | .inl z => .inl z | .inr r => am_R r)) (am_A base) U U.heap) ∧
  va_AO "HeardBarrels$Shelf" U ∧ va_AO "HeardBarrels$Row" U ∧ va_Nw (.methodLinkNest "HeardBarrels" 37 ⟨"HeardBarrels$Row", "<init>", "()V"⟩ "HeardBarrels") U
def am_G (fo : Nat → Value) (fx : am_X0) : Prop := (∀ r, fo r = .null ∨ ∃ x, fo r = .ref x) ∧ ∀ r, 1000 ≤ r → (fx r).1 = 0 ∨ (fx r).1 = 100 ∨ (fx r).1 = 102
section AMW
variable {base : Nat} {fo : Nat → Value} {cA : Nat → ClassId} {dC : Nat → ClassId} {dI : Nat → Nat → Nat} {fx : am_X0} {S : am_S} {H : Heap} {U U' : State}
theorem am_F.moved (hW : U.WarmedH U'.vm) (hq : ∀ a : Nat, a < U.heap.size → ¬ am_A base a → U'.heap[a]? = U.heap[a]?) (h : am_F dC dI cA base fo fx U) : am_F dC dI cA base fo fx U' := by
  obtain ⟨h1, h2, h3, h4, h5, h6, h7, h8, h9⟩ := h
  refine ⟨va_K.moved hW.alike h1, fun r hr ht => ?_, fun r hr ht => ?_, fun i hi => ?_, fun e he => ?_, fun e he => ?_, h7.moved hW.alike, h8.moved hW.alike, h9.warmM hW⟩
  · obtain ⟨x, e1, e2⟩ := h2 r hr ht
    exact ⟨x, e1, (e2.moved hW.alike).kept hq⟩
  · obtain ⟨x, e1, e2⟩ := h3 r hr ht
    exact ⟨x, e1, (e2.moved hW.alike).kept hq⟩
  · obtain ⟨x, y, e1, e2, e3, e4, e5⟩ := h4 i hi
    exact ⟨x, y, e1, e2, (e3.moved hW.alike).kept hq, (e4.moved hW.alike).kept hq, (e5.moved hW.alike).kept hq⟩
  · obtain ⟨x, e1, e2⟩ := h5 e he
    exact ⟨x, e1, e2.warm hW⟩
  · exact ((h6 e he).moved hW.alike).kept hq
theorem am_F.calling (h : am_F dC dI cA base fo fx U) (g : JFrame) (mk : MethodId) (a : Array Value) : am_F dC dI cA base fo fx (U.calling g mk a) := by
  obtain ⟨h1, h2, h3, h4, h5, h6, h7, h8, h9⟩ := h
  refine ⟨va_K.moved (Vm.Alike.refl U.vm) h1, fun r hr ht => ?_, fun r hr ht => ?_, fun i hi => ?_, fun e he => ?_, fun e he => ?_, h7.moved (Vm.Alike.refl U.vm), h8.moved (Vm.Alike.refl U.vm), h9.same rfl rfl⟩
  · obtain ⟨x, e1, e2⟩ := h2 r hr ht
    exact ⟨x, e1, va_T.moved (u := U) (Vm.Alike.refl U.vm) e2⟩
  · obtain ⟨x, e1, e2⟩ := h3 r hr ht
    exact ⟨x, e1, va_T.moved (u := U) (Vm.Alike.refl U.vm) e2⟩
  · obtain ⟨x, y, e1, e2, e3, e4, e5⟩ := h4 i hi
    exact ⟨x, y, e1, e2, va_O.moved (u := U) (Vm.Alike.refl U.vm) e3, va_OF.moved (u := U) (Vm.Alike.refl U.vm) e4, va_OF.moved (u := U) (Vm.Alike.refl U.vm) e5⟩
  · obtain ⟨x, e1, e2⟩ := h5 e he
    exact ⟨x, e1, vk_R.same (u := U) rfl e2⟩
  · exact va_Z.moved (u := U) (Vm.Alike.refl U.vm) (h6 e he)
theorem am_wl_get {r : Nat} {sh : Nat × Nat} (h : S.1[r]? = some sh) : (am_wl cA base fo S)[r]? = some (base + r, am_cell cA base fo S sh r) := by
  have hlt : r < S.1.length := (List.getElem?_eq_some_iff.mp h).1
  unfold am_wl
  rw [List.getElem?_map, List.getElem?_range hlt]
  simp only [Option.map_some, List.getD_eq_getElem?_getD, h, Option.getD_some]
theorem am_wl_len : (am_wl cA base fo S).length = S.1.length := by simp [am_wl]
theorem am_wl_ix {k : Nat} {q : Nat × va_E} (h : (am_wl cA base fo S)[k]? = some q) : q.1 = base + k ∧ k < S.1.length := by
  have hlt : k < (am_wl cA base fo S).length := (List.getElem?_eq_some_iff.mp h).1
  rw [am_wl_len] at hlt
  rw [am_wl_get (sh := S.1[k]) (List.getElem?_eq_getElem hlt)] at h
  cases h
  exact ⟨rfl, hlt⟩
theorem am_wl_D : va_D (am_A base) (am_wl cA base fo S) := by
  refine ⟨fun i j p q hi hj he => ?_, fun k q hk => ?_⟩
  · have h1 := (am_wl_ix hi).1
    have h2 := (am_wl_ix hj).1
    omega
  · have h1 := (am_wl_ix hk).1
    show base ≤ q.1
    omega
theorem am_wl_set {S' : am_S} {r : Nat} {sh : Nat × Nat} (h : S.1[r]? = some sh) (h1 : S'.1 = S.1) (h2 : ∀ a, a ≠ r → ∀ sh, am_cell cA base fo S' sh a = am_cell cA base fo S sh a) : (am_wl cA base fo S).set r (base + r, am_cell cA base fo S' sh r) = am_wl cA base fo S' := by
  apply List.ext_getElem?
  intro k
  rw [List.getElem?_set]
  by_cases hk : k < S.1.length
  · by_cases e : r = k
    · subst e
      rw [if_pos rfl, am_wl_get (S := S') (by rw [h1]; exact h), if_pos (by rw [am_wl_len]; exact hk)]
    · rw [if_neg e, am_wl_get (sh := S.1[k]) (List.getElem?_eq_getElem hk), am_wl_get (S := S') (sh := S.1[k]) (by rw [h1]; exact List.getElem?_eq_getElem hk), h2 k (fun q => e q.symm)]
  · have hr : r < S.1.length := (List.getElem?_eq_some_iff.mp h).1
    rw [if_neg (by omega), List.getElem?_eq_none (by rw [am_wl_len]; omega), List.getElem?_eq_none (by rw [am_wl_len, h1]; omega)]
theorem am_cell_sM {r k : Nat} {z : Int} (a : Nat) (ha : a ≠ r) (sh : Nat × Nat) : am_cell cA base fo (am_sM S r k z) sh a = am_cell cA base fo S sh a := by
  simp [am_cell, am_sM, am_fv, ha]
theorem am_cell_sR {r k : Nat} {o : Option Nat} (a : Nat) (ha : a ≠ r) (sh : Nat × Nat) : am_cell cA base fo (am_sR S r k o) sh a = am_cell cA base fo S sh a := by
  simp [am_cell, am_sR, am_fv, ha]
theorem am_cell_nw {sh0 : Nat × Nat} (a : Nat) (ha : a ≠ S.1.length) (sh : Nat × Nat) : am_cell cA base fo (am_nw S sh0) sh a = am_cell cA base fo S sh a := by
  simp [am_cell, am_nw, am_fv, ha]
theorem am_wl_nw {sh : Nat × Nat} : am_wl cA base fo (am_nw S sh) = am_wl cA base fo S ++ [(base + S.1.length, am_cell cA base fo (am_nw S sh) sh S.1.length)] := by
  apply List.ext_getElem?
  intro k
  by_cases hk : k < S.1.length
  · rw [List.getElem?_append_left (by rw [am_wl_len]; exact hk), am_wl_get (sh := S.1[k]) (List.getElem?_eq_getElem hk), am_wl_get (S := am_nw S sh) (sh := S.1[k]) (by simp [am_nw, hk, List.getElem?_append_left]), am_cell_nw k (by omega)]
  · by_cases e : k = S.1.length
    · subst e
      rw [List.getElem?_append_right (by rw [am_wl_len]; omega), am_wl_len, am_wl_get (S := am_nw S sh) (sh := sh) (by simp [am_nw])]
      simp
    · rw [List.getElem?_eq_none (by rw [am_wl_len]; simp [am_nw]; omega), List.getElem?_eq_none (by simp [am_wl_len]; omega)]
theorem am_inb {j : Int} {n : Nat} (h : am_in j n = true) : vp_in (Int32.ofInt j) n ∧ (Int32.ofInt j).toNatClampNeg = (am_s j).toNat := by
  simp only [am_in, Bool.and_eq_true, decide_eq_true_eq] at h
  exact ⟨vp_in_iff.mpr h, rfl⟩
theorem am_cvo {r : Nat} (h : r < 1000) : am_cv base fo r = .ref (base + r) := by simp [am_cv, h]
theorem am_cvf {r : Nat} (h : 1000 ≤ r) : am_cv base fo r = fo r := by simp [am_cv, Nat.not_lt.mpr h]
theorem am_cvn (hG : am_G fo fx) (r : Nat) : am_cv base fo r = .null ∨ ∃ x, am_cv base fo r = .ref x := by
  by_cases h : r < 1000
  · exact Or.inr ⟨_, am_cvo h⟩
  · rw [am_cvf (by omega)]
    exact hG.1 r
theorem am_cc (hG : am_G fo fx) (v : am_V) : (am_c (am_cv base fo) v).category = am_cat v := by
  match v with
  | .inl z => rfl
  | .inr (.inl z) => rfl
  | .inr (.inr none) => rfl
  | .inr (.inr (some r)) =>
    show (am_cv base fo r).category = 1
    rcases am_cvn (base := base) hG r with h | ⟨x, h⟩ <;> rw [h] <;> rfl
end AMW
