/-! WHAT THE TABLES SAY OF THE POOLS, by program -/
def am_T : List Cond := lw_tbl.filter goodWord
theorem am_T_of {w : Cond} (h : w ∈ lw_tbl) (g : goodWord w = true) : w ∈ am_T := List.mem_filter.mpr ⟨h, g⟩
def am_wd (w : Cond) : Bool := decide (w ∈ tables_1) && goodWord w
theorem am_wd_in {w : Cond} (h : am_wd w = true) : w ∈ am_T := by
  simp only [am_wd, Bool.and_eq_true, decide_eq_true_eq] at h
  exact am_T_of (List.mem_append_right _ h.1) h.2
def am_ws (w : Cond) : Bool := decide (w ∈ lw_tbl) && goodWord w
theorem am_ws_in {w : Cond} (h : am_ws w = true) : w ∈ am_T := by
  simp only [am_ws, Bool.and_eq_true, decide_eq_true_eq] at h
  exact am_T_of h.1 h.2
theorem am_look_in {α : Type} {l : List ((Nat × Nat) × α)} {a b : Nat} {v : α} (h : am_look l a b = some v) : ((a, b), v) ∈ l := by
  unfold am_look at h
  obtain ⟨e, he, rfl⟩ := Option.map_eq_some_iff.mp h
  have h1 := List.mem_of_find?_eq_some he
  have h2 := List.find?_some he
  simp only [Bool.and_eq_true, beq_iff_eq] at h2
  obtain ⟨h3, h4⟩ := h2
  rw [← h3, ← h4]
  exact h1
def am_pfC (e : (Nat × Nat) × Nat × Nat) : Bool := match am_cl[e.2.1]? with
  | some q => decide (e.2.2 < q.2.2) && (am_wd (.fieldLink (am_cn e.1.1) e.1.2 q.1 (q.2.1 e.2.2).2.1 (q.2.1 e.2.2).2.2.1) && decide ((q.2.1 e.2.2).1 = q.1))
  | none => false
theorem am_pfA : am_pfL.all am_pfC = true := by decide +kernel
theorem am_pkA : am_pkL.all (fun e => am_wd (.constant (am_cn e.1.1) e.1.2 (Int32.ofInt e.2))) = true := by decide +kernel
theorem am_plA : am_plL.all (fun e => am_wd (.constantLong (am_cn e.1.1) e.1.2 (Int64.ofInt e.2))) = true := by decide +kernel
def am_pnC (e : (Nat × Nat) × Nat) : Bool := match am_cl[e.2]? with
  | some q => am_wd (.classLink (am_cn e.1.1) e.1.2 q.1) && (am_wd (.instantiable q.1 q.2.2) && am_wd (.initialized q.1))
  | none => false
theorem am_pnA : am_pnL.all am_pnC = true := by decide +kernel
theorem am_poA : am_poL.all (fun e => am_wd (.methodLink (am_cn e.1.1) e.1.2 objectInit)) = true := by decide +kernel
theorem am_obA : am_wd (.instanceMethod objectInit) = true ∧ am_wd (.code objectInit ⟨#[0xb1]⟩ 1 none) = true := by decide +kernel
theorem am_arA : am_wd (.arrayClass .int) = true ∧ am_wd (.arrayClass .long) = true ∧ am_wd (.arrayClass .byte) = true ∧ am_wd (.arrayClass .boolean) = true := by decide +kernel
theorem am_clA : am_cl.all (fun q => (u_ws q.1 q.2.1 q.2.2).all am_wd) = true := by decide +kernel
theorem am_clL : am_cl.length = 9 := rfl
theorem am_tyA : ∀ ci, ci < 9 → ∀ q, am_cl[ci]? = some q → ∀ k, k < q.2.2 → parseFieldDescriptor (q.2.1 k).2.2.1 = some (am_ty ci k) := by
  intro ci hci q hq k hk
  have h : ∀ ci, ci < 9 → ∀ k, k < ((am_cl[ci]?).map (fun q => q.2.2)).getD 0 → parseFieldDescriptor (((am_cl[ci]?).map (fun q => (q.2.1 k).2.2.1)).getD "") = some (am_ty ci k) := by decide +kernel
  have h1 := h ci hci k (by rw [hq]; exact hk)
  rw [hq] at h1
  exact h1
theorem am_nmA : ∀ ci, ci < 9 → ∀ q, am_cl[ci]? = some q → ∀ a, a < q.2.2 → ∀ b, b < q.2.2 → a ≠ b → (q.2.1 a).2.1 ≠ (q.2.1 b).2.1 := by
  intro ci hci q hq a ha b hb
  have h : ∀ ci, ci < 9 → ∀ a, a < ((am_cl[ci]?).map (fun q => q.2.2)).getD 0 → ∀ b, b < ((am_cl[ci]?).map (fun q => q.2.2)).getD 0 → a ≠ b → ((am_cl[ci]?).map (fun q => (q.2.1 a).2.1)).getD "" ≠ ((am_cl[ci]?).map (fun q => (q.2.1 b).2.1)).getD "" := by decide +kernel
  have h1 := h ci hci a (by rw [hq]; exact ha) b (by rw [hq]; exact hb)
  rw [hq] at h1
  exact h1
theorem am_nameA : ∀ ci, ci < 9 → ∀ q, am_cl[ci]? = some q → am_cn (ci + 1) = q.1 := by
  intro ci hci q hq
  have h : ∀ ci, ci < 9 → am_cn (ci + 1) = ((am_cl[ci]?).map (fun q => q.1)).getD "" := by decide +kernel
  have h1 := h ci hci
  rw [hq] at h1
  exact h1
theorem am_fkA : ∀ ci, ci < 9 → ∀ k, k < ((am_cl[ci]?).map (fun q => q.2.2)).getD 0 → am_fk ci k < 3 := by decide +kernel
/-- a method of the table: its words -/
def am_cw (M : am_MT) : Cond := .code M.2.1 M.2.2.1 M.2.2.2.1 M.2.2.2.2.1
theorem am_cw1 : am_ms1.map am_cw = [22, 30, 35, 112, 132, 168, 212].filterMap (fun i => tables_1_1[i]?) := by rfl
theorem am_cw2 : am_ms2.map am_cw = [0, 20, 78, 82, 86, 90, 93, 98, 101, 105, 127, 124, 142, 146, 152, 156, 159, 162, 167, 108, 112, 116, 190, 194, 198, 202, 206, 210, 214, 222, 227, 231, 235, 239].filterMap (fun i => tables_1_2[i]?) := by rfl
theorem am_cw3 : am_ms3.map am_cw = [3, 8, 13, 17, 21, 25, 29, 33, 40, 43, 48, 51, 55, 58, 62, 66, 71, 75, 79, 84, 88, 92, 96, 100, 104, 108, 112, 116, 120, 125, 128, 135, 138, 141, 145, 149, 153, 157, 161, 165, 169, 173, 182, 186, 190, 193, 197, 201, 205, 209, 213, 217, 221, 225, 228, 233, 238].filterMap (fun i => tables_1_3[i]?) := by rfl
theorem am_cw4 : am_ms4.map am_cw = [2, 6, 10, 14, 18, 22, 26, 31, 35, 39, 42, 49, 53, 57, 61, 66, 70, 77, 82, 87, 91, 95, 100, 105, 109, 113, 117, 122, 126, 130, 134, 138, 142, 146, 150, 154, 158, 163, 167, 171, 178, 182, 186, 190, 194, 198, 202, 207, 211, 215, 219, 223, 229, 233, 237].filterMap (fun i => tables_1_4[i]?) := by rfl
theorem am_cw5 : am_ms5.map am_cw = [1, 4, 8, 13, 17, 23, 27, 31, 35, 40, 46, 171, 175, 178, 182, 186, 189, 193, 199, 203, 207, 211, 215, 219, 223, 227, 231, 235, 239].filterMap (fun i => tables_1_5[i]?) := by rfl
theorem am_cw6 : am_ms6.map am_cw = [3, 8, 12, 16, 20, 24, 29, 33, 37, 41, 45, 48, 52, 55, 59, 63, 67, 71, 75, 79, 85, 89, 93, 98, 102, 106, 110, 114, 118, 122, 126, 130, 135, 139, 143, 147, 151, 155, 159, 163, 167, 171, 175, 179, 183, 187, 191, 198, 202, 206, 210, 214, 218, 222, 226, 230, 234, 238].filterMap (fun i => tables_1_6[i]?) := by rfl
theorem am_cw7 : am_ms7.map am_cw = [2, 6, 10, 16, 20, 25, 29, 33, 37, 41, 45, 50, 56, 60, 64, 68, 72, 76].filterMap (fun i => tables_1_7[i]?) := by rfl
theorem am_cw8 : am_ms8.map am_cw = [120].filterMap (fun i => tables_1_2[i]?) := by rfl
theorem am_cwS {l : List am_MT} {ix : List Nat} {t : List Cond} (h : l.map am_cw = ix.filterMap (fun i => t[i]?)) : ∀ M ∈ l, am_cw M ∈ t := by
  intro M hM
  have h1 : am_cw M ∈ l.map am_cw := List.mem_map_of_mem hM
  rw [h] at h1
  obtain ⟨i, -, hi⟩ := List.mem_filterMap.mp h1
  exact List.mem_of_getElem? hi
theorem am_cwA : ∀ M ∈ am_ms.tail, am_cw M ∈ tables_1 := by
  intro M hM
  have h : am_ms.tail = am_ms1 ++ (am_ms2 ++ (am_ms3 ++ (am_ms4 ++ (am_ms5 ++ (am_ms6 ++ (am_ms7 ++ am_ms8)))))) := rfl
  have e : tables_1 = tables_1_1 ++ (tables_1_2 ++ (tables_1_3 ++ (tables_1_4 ++ (tables_1_5 ++ (tables_1_6 ++ tables_1_7))))) := rfl
  rw [h] at hM
  rw [e]
  have hin : ∀ {t : List Cond} {w : Cond}, w ∈ t → t ∈ [tables_1_1, tables_1_2, tables_1_3, tables_1_4, tables_1_5, tables_1_6, tables_1_7] → w ∈ tables_1_1 ++ (tables_1_2 ++ (tables_1_3 ++ (tables_1_4 ++ (tables_1_5 ++ (tables_1_6 ++ tables_1_7))))) := by
    intro t w hw ht
    simp only [List.mem_cons, List.not_mem_nil, or_false] at ht
    simp only [List.mem_append]
    rcases ht with rfl | rfl | rfl | rfl | rfl | rfl | rfl
    · exact Or.inl hw
    · exact Or.inr (Or.inl hw)
    · exact Or.inr (Or.inr (Or.inl hw))
    · exact Or.inr (Or.inr (Or.inr (Or.inl hw)))
    · exact Or.inr (Or.inr (Or.inr (Or.inr (Or.inl hw))))
    · exact Or.inr (Or.inr (Or.inr (Or.inr (Or.inr (Or.inl hw)))))
    · exact Or.inr (Or.inr (Or.inr (Or.inr (Or.inr (Or.inr hw)))))
  rcases List.mem_append.mp hM with h | hM
  · exact hin (am_cwS am_cw1 M h) (by simp only [List.mem_cons, true_or, or_true])
  rcases List.mem_append.mp hM with h | hM
  · exact hin (am_cwS am_cw2 M h) (by simp only [List.mem_cons, true_or, or_true])
  rcases List.mem_append.mp hM with h | hM
  · exact hin (am_cwS am_cw3 M h) (by simp only [List.mem_cons, true_or, or_true])
  rcases List.mem_append.mp hM with h | hM
  · exact hin (am_cwS am_cw4 M h) (by simp only [List.mem_cons, true_or, or_true])
  rcases List.mem_append.mp hM with h | hM
  · exact hin (am_cwS am_cw5 M h) (by simp only [List.mem_cons, true_or, or_true])
  rcases List.mem_append.mp hM with h | hM
  · exact hin (am_cwS am_cw6 M h) (by simp only [List.mem_cons, true_or, or_true])
  rcases List.mem_append.mp hM with h | hM
  · exact hin (am_cwS am_cw7 M h) (by simp only [List.mem_cons, true_or, or_true])
  exact hin (am_cwS am_cw8 M hM) (by simp only [List.mem_cons, true_or, or_true])
def am_at? (i : Nat) (w : Cond) : Bool := decide (lw_tbl[i]? = some w) && goodWord w
theorem am_at_in {i : Nat} {w : Cond} (h : am_at? i w = true) : w ∈ am_T := by
  simp only [am_at?, Bool.and_eq_true, decide_eq_true_eq] at h
  exact am_T_of (List.mem_of_getElem? h.1) h.2
def am_mC (e : am_MT × (Nat × Nat × Nat × Nat)) : Bool := plainFor e.1.2.1 && (decide (e.1.2.1.cls = am_cn e.1.1) && (am_at? e.2.2.2.2 (.initialized e.1.2.1.cls) && (decide ((parseMethodDescriptor e.1.2.1.desc).map (fun d => d.parameters.length) = some e.1.2.2.2.2.2.2.1) && (decide (e.1.2.2.2.1 ≤ 40) && (decide (e.1.2.2.2.2.2.1 = true → e.1.2.1.name = "<init>") && (decide (e.1.2.1.cls ≠ "java/lang/invoke/MethodHandle") && (decide (e.1.2.1.cls ≠ "java/lang/invoke/VarHandle") && (if e.2.1 = 2 then am_at? e.2.2.1 (.static e.1.2.1) else if e.2.1 = 1 then am_at? e.2.2.1 (.instanceMethod e.1.2.1) && decide (e.1.2.1.name = "<init>" ∧ e.1.2.2.2.2.1 = none) else am_at? e.2.2.1 (.instanceMethod e.1.2.1) && am_at? e.2.2.2.1 (.selects e.1.2.1.cls e.1.2.1 e.1.2.1)))))))))
theorem am_mA1 : (am_ms1.zip (am_mI.drop 0)).all am_mC = true := by decide +kernel
theorem am_mA2 : (am_ms2.zip (am_mI.drop 7)).all am_mC = true := by decide +kernel
theorem am_mA3 : (am_ms3.zip (am_mI.drop 41)).all am_mC = true := by decide +kernel
theorem am_mA4 : (am_ms4.zip (am_mI.drop 98)).all am_mC = true := by decide +kernel
theorem am_mA5 : (am_ms5.zip (am_mI.drop 153)).all am_mC = true := by decide +kernel
theorem am_mA6 : (am_ms6.zip (am_mI.drop 182)).all am_mC = true := by decide +kernel
theorem am_mA7 : (am_ms7.zip (am_mI.drop 240)).all am_mC = true := by decide +kernel
theorem am_mA8 : (am_ms8.zip (am_mI.drop 258)).all am_mC = true := by decide +kernel
/-- a call of the table -/
def am_pmC (e : ((Nat × Nat) × Nat × Nat) × Nat) : Bool := match am_ms[e.1.2.1]?, am_mI[e.1.2.1 - 1]? with
  | some M, some q => decide (e.1.2.1 ≠ 0) && (if e.1.2.2 = 3 then decide (M.2.1 = ⟨"HeardBarrels$Row", "<init>", "()V"⟩ ∧ e.1.1 = (1, 37) ∧ q.1 = 1) else am_at? e.2 (.methodLink (am_cn e.1.1.1) e.1.1.2 M.2.1) && decide (q.1 = e.1.2.2))
  | _, _ => false
theorem am_pmA0 : (((am_pmL.zip am_pI).drop 0).take 75).all am_pmC = true := by decide +kernel
theorem am_pmA1 : (((am_pmL.zip am_pI).drop 75).take 75).all am_pmC = true := by decide +kernel
theorem am_pmA2 : (((am_pmL.zip am_pI).drop 150).take 75).all am_pmC = true := by decide +kernel
theorem am_pmA3 : (((am_pmL.zip am_pI).drop 225).take 75).all am_pmC = true := by decide +kernel
