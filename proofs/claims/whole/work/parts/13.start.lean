def R_law : String := "HeardBarrelsLaw"
def lw_P (b : Addr) (xs : List Int32) (args : Array Value) (s : State) : Prop := args = #[.ref b] ∧ s.IntsAt b xs ∧ xs.length ≤ 3072 ∧ (Jvm.Cond.and given_1 narrow_1).before args s = true
def lw_Q (_ : Array Value) (s : State) (o : Outcome) (t : State) : Prop := o = .returned (some (.int 1)) ∧ Framed s o t [] 600000 7302250
def lw_Z (below : List Frame) (a : Array Value) (s : State) : State → Prop := fun t => ∃ o, t.status = .running ∧ Ended t below o ∧ lw_Q a s o t
/-- the law's own end, with 1 on the stack, nothing written that was there before, its room as the claim has it -/
theorem lw_ret {p : Program} {l : Launch} {e : Env} {s : State} {m : MethodId} {below : List Frame} {meth : Method} {c : Code} {b : Nat} (hx : p.tables.exec = Jvm.exec) (hb : c.code = code) (hr : meth.sig.returnType = ret) (hlocks : meth.locks = false) {pc : Nat} {H : Heap} {ls : Array Slot} (hdg : decode code pc = .ok (.ireturn, 1)) : W p l e room_1 s m #[Value.ref b] below meth c H [] 600000 7302250 (lw_Z below #[Value.ref b] s) (F0 m pc ls [.int 1]) := by
  intro T hT X
  obtain ⟨fs, hret, hrun, hended, hW, hframe⟩ := X.leave (v := some (.int 1)) (hlocks := hlocks) (fun h => by rw [hr] at h; cases h)
  have hmeth' : T.vm.method? m = some meth := X.method'
  refine ⟨T.setFrames fs, ?_, .returned (some (.int 1)), hrun, hended, rfl, ⟨_, rfl⟩, hW, hframe⟩
  jvm_step X.here [X.here.top, hx, hb, hdg, hmeth', hr, ret, narrow_b1]
  (try refine ⟨rfl, ?_⟩); (try refine ⟨rfl, ?_⟩)
  first | (intro acts; rw [hret _ acts rfl rfl rfl]) | rw [hret _ _ rfl rfl rfl]
  exact Steps.refl _
/-- what holds at the law's entry: the machine, the code, the tables' words (any of lw_tbl by 'hts w (by decide +kernel)'), the script of L ints xs at the cell b, what the Statement gives of the start (any of its parts by flat_of_before) -/
def lw_At (p : Program) (s : State) (m : MethodId) (meth : Method) (c : Code) (b L : Nat) (xs : Nat → Int32) : Prop :=
  p.tables.exec = Jvm.exec ∧ c.code = code ∧ meth.sig.returnType = ret ∧ c.maxLocals = 4 ∧ s.vm.findClass R_law = some m.cls ∧ (∀ w ∈ lw_tbl, w.before #[Value.ref b] s = true) ∧ va_X b L xs s s.heap ∧ b < s.heap.size ∧ meth.locks = false ∧ (Jvm.Cond.and given_1 narrow_1).before #[Value.ref b] s = true
def am_strs : List (List Int) := [[108, 111, 119], [108, 105, 101], [104, 97, 110, 100, 115], [108, 101, 102, 116], [99, 111, 108, 100], [98, 97, 114, 114, 101, 108], [103, 97, 112], [114, 105, 112, 101], [105, 100, 108, 101], [98, 97, 100], [115, 116, 111, 110, 101, 115], [32, 98, 97, 114, 114, 101, 108, 32, 114, 105, 112, 101, 32, 105, 100, 108, 101, 32, 98, 97, 100, 32, 115, 116, 111, 110, 101, 115, 32, 103, 97, 112, 32, 108, 111, 119, 32, 108, 105, 101, 32, 104, 97, 110, 100, 115, 32, 108, 101, 102, 116, 32, 99, 111, 108, 100, 32]]
def am_len : List Nat := [3, 3, 5, 4, 4, 6, 3, 4, 4, 3, 6, 57]
def am_byt : List (List Int32) := [[108, 111, 119], [108, 105, 101], [104, 97, 110, 100, 115], [108, 101, 102, 116], [99, 111, 108, 100], [98, 97, 114, 114, 101, 108], [103, 97, 112], [114, 105, 112, 101], [105, 100, 108, 101], [98, 97, 100], [115, 116, 111, 110, 101, 115], [32, 98, 97, 114, 114, 101, 108, 32, 114, 105, 112, 101, 32, 105, 100, 108, 101, 32, 98, 97, 100, 32, 115, 116, 111, 110, 101, 115, 32, 103, 97, 112, 32, 108, 111, 119, 32, 108, 105, 101, 32, 104, 97, 110, 100, 115, 32, 108, 101, 102, 116, 32, 99, 111, 108, 100, 32]]
def am_tm (i : Nat) : Term := match am_ptL[i]? with
  | some e => .string (am_cn e.1.1) e.1.2
  | none => .int 0
def am_fx (L : Nat) (xs : Nat → Int32) : am_X0 := fun r => if r = 1000 then (100, L, fun j => (xs j).toInt) else if r = 1001 then (100, 5, fun j => ([1, 0, 1, 1, 0] : List Int).getD j 0) else if r = 1002 then (100, 5, fun j => ([40, 20, 12, 6, 9] : List Int).getD j 0) else if 3000 ≤ r ∧ r < 3012 then (102, am_len.getD (r - 3000) 0, fun j => (am_strs.getD (r - 3000) []).getD j 0) else (0, 0, fun _ => 0)
def am_S0 : am_S := ([], fun _ _ => none, fun _ _ => 0)
/-- WHAT IS LEFT: the abstract machine runs the law on every script to its end, with 1 -/
def am_Goal : Prop := ∀ (L : Nat) (xs : Nat → Int32), L ≤ 3072 → ∃ (n : Nat) (S' : am_S), am_X (am_fx L xs) n 200 (76, 400000) 0 0 (am_ent 4 [am_R 1000]) [] am_S0 = some ([.inl 1], S')
def am_fl : List Cond := flatC (Jvm.Cond.and given_1 narrow_1)
theorem am_st1 : ∀ i, i < 12 → Cond.exactly (am_tm i) "java/lang/String" ∈ am_fl := by decide +kernel
theorem am_st2 : ∀ i, i < 12 → Cond.eq (.field (am_tm i) "java/lang/String" "coder" "B") (.int 0) ∈ am_fl := by decide +kernel
theorem am_st3 : ∀ i, i < 12 → Cond.arrayOf (.field (am_tm i) "java/lang/String" "value" "[B") .byte ∈ am_fl := by decide +kernel
theorem am_st4 : ∀ i, i < 12 → Cond.eq (.length (.field (am_tm i) "java/lang/String" "value" "[B")) (.int (Int32.ofNat (am_len.getD i 0))) ∈ am_fl := by decide +kernel
theorem am_st5 : ∀ i, i < 12 → ∀ j, j < am_len.getD i 0 → Cond.eq (.elem (.field (am_tm i) "java/lang/String" "value" "[B") (.int (Int32.ofNat j))) (.int ((am_byt.getD i []).getD j 0)) ∈ am_fl := by decide +kernel
theorem am_st6 : ∀ i, i < 12 → ∀ j, j < 12 → i ≠ j → Cond.not (Cond.eq (am_tm i) (am_tm j)) ∈ am_fl ∨ Cond.not (Cond.eq (am_tm j) (am_tm i)) ∈ am_fl := by decide +kernel
theorem am_st7 : ∀ i, i < 12 → ∀ j, j < am_len.getD i 0 → (am_byt.getD i []).getD j 0 = Int32.ofInt ((am_strs.getD i []).getD j 0) := by decide +kernel
theorem am_st8 : ∀ i, i < 12 → am_len.getD i 0 < 2 ^ 31 := by decide +kernel
theorem am_st9 : am_ptL.map (fun e => e.2.1) = List.range 12 := by decide +kernel
theorem am_st10 : ∀ i, i < 5 → Cond.eq (.elem (.static "HeardBarrels$Reader" "LEAST" "[I") (.int (Int32.ofNat i))) (.int (([1, 0, 1, 1, 0] : List Int32).getD i 0)) ∈ am_fl := by decide +kernel
theorem am_st11 : ∀ i, i < 5 → Cond.eq (.elem (.static "HeardBarrels$Reader" "MOST" "[I") (.int (Int32.ofNat i))) (.int (([40, 20, 12, 6, 9] : List Int32).getD i 0)) ∈ am_fl := by decide +kernel
theorem am_st12 : Cond.arrayOf (.static "HeardBarrels$Reader" "LEAST" "[I") .int ∈ am_fl ∧ Cond.arrayOf (.static "HeardBarrels$Reader" "MOST" "[I") .int ∈ am_fl ∧ Cond.eq (.length (.static "HeardBarrels$Reader" "LEAST" "[I")) (.int (Int32.ofNat 5)) ∈ am_fl ∧ Cond.eq (.length (.static "HeardBarrels$Reader" "MOST" "[I")) (.int (Int32.ofNat 5)) ∈ am_fl ∧ Cond.eq (.static "java/lang/String" "COMPACT_STRINGS" "Z") (.int 1) ∈ am_fl ∧ Cond.isRef (.static "jdk/internal/util/Preconditions" "SIOOBE_FORMATTER" "Ljava/util/function/BiFunction;") ∈ am_fl := by decide +kernel
theorem am_st13 : ∀ e ∈ am_psL, Cond.laysStatic e.2.2.1 e.2.2.2.1 e.2.2.2.2 ∈ tables_1 ∧ Cond.initialized e.2.2.1 ∈ tables_1 := by decide +kernel
theorem am_st14 : ∀ e ∈ am_ptL, Cond.stringRef (am_cn e.1.1) e.1.2 e.2.2 ∈ tables_1 := by decide +kernel
theorem am_st15 : Cond.arrayOver (.object "HeardBarrels$Shelf") ∈ tables_1 ∧ Cond.arrayOver (.object "HeardBarrels$Row") ∈ tables_1 ∧ Cond.methodLinkNest "HeardBarrels" 37 ⟨"HeardBarrels$Row", "<init>", "()V"⟩ "HeardBarrels" ∈ tables_1 := by decide +kernel
theorem am_st16 : ∀ q ∈ am_cl, Cond.instantiable q.1 q.2.2 ∈ tables_1 := by decide +kernel
theorem am_st17 : ∀ i, i < 12 → (am_ptL[i]?).map (fun e => e.2.1) = some i := by decide +kernel
theorem am_st18 : ∀ j, j < 5 → ([1, 0, 1, 1, 0] : List Int32).getD j 0 = Int32.ofInt (([1, 0, 1, 1, 0] : List Int).getD j 0) ∧ ([40, 20, 12, 6, 9] : List Int32).getD j 0 = Int32.ofInt (([40, 20, 12, 6, 9] : List Int).getD j 0) := by decide +kernel
theorem am_vT {ty : FieldType} {t N : Nat} {f g : Nat → Value} {A : Nat → Prop} {U : State} {H : Heap} (h : va_T ty t N f A U H) (e : ∀ j, j < N → f j = g j) : va_T ty t N g A U H := by
  obtain ⟨cell, h1, h2, h3, h4, h5, h6, h7⟩ := h
  exact ⟨cell, h1, h2, h3, h4, h5, fun j hj => by rw [← e j hj]; exact h6 j hj, h7⟩
theorem am_tyK {s : State} {args : Array Value} {ty : FieldType} (hp : ∀ C, ty ≠ .object C) (h : (Cond.arrayClass ty).before args s = true) : ∃ cA, ArrOfT s cA ty ∧ va_RA s cA ty := by
  obtain ⟨cA, kA, comp, h1, h2, h3⟩ := Cond.arrayClass_spec h
  refine ⟨cA, fun n z => ⟨fun k h => (by cases h), kA, h2, comp, h3⟩, ?_⟩
  cases ty with
  | object C => exact absurd rfl (hp C)
  | _ => exact h1
theorem am_tyO {s : State} {C : String} (h : va_AO C s) : ∃ cA, ArrOfT s cA (.object C) ∧ va_RA s cA (.object C) := by
  obtain ⟨comp, cA, kA, h1, h2, h3, h4, h5⟩ := Cond.arrayOver_spec (va_AO.use (A := #[]) h)
  exact ⟨cA, fun n z => ⟨fun k h => (by cases h), kA, h3, comp, h4⟩, kA, comp, h3, h4, h1, h5⟩
