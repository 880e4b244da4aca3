/-! WHAT THE ABSTRACT MACHINE RUNS, THE MACHINE RUNS -/
section AMV
variable {base : Nat} {fo : Nat → Value} {cA : Nat → ClassId} {dC : Nat → ClassId} {dI : Nat → Nat → Nat} {fx : am_X0}
/-- the receiver's cell -/
theorem am_rcv_ok {s : State} {H : Heap} {locs : List Loc} {S : am_S} (hF : am_F dC dI cA base fo fx s) (hP : am_P dC dI cA base fo S H) (hS : va_S (am_A base) s.heap H locs) {cn : Nat} {v : am_V} (h : am_rcv S cn v = true) : ∃ b, am_c (am_cv base fo) v = .ref b ∧ ∃ cell : Cell, H[b]? = some cell ∧ cell.vm.isStatics = false ∧ s.vm.findClass (am_cn cn) = some cell.cls := by
  unfold am_rcv at h
  split at h
  · rename_i r
    split at h
    · rename_i sh hsh
      simp only [Bool.and_eq_true, decide_eq_true_eq] at h
      obtain ⟨h1, h2⟩ := h
      refine ⟨base + r, am_cvo (am_lt hP hsh), ?_⟩
      have he := am_wl_get (cA := cA) (base := base) (fo := fo) hsh
      rw [am_cell_o (by omega)] at he
      obtain ⟨q, hq⟩ : ∃ q, am_cl[sh.1]? = some q := ⟨_, List.getElem?_eq_getElem (by rw [am_clL]; exact h2)⟩
      have := va_recv hF.1 hP.2 hq he
      rw [← h1, am_nameA sh.1 h2 q hq]
      exact this
    · simp only [Bool.and_eq_true, decide_eq_true_eq] at h
      obtain ⟨⟨h1, h2⟩, h3⟩ := h
      obtain ⟨x0, y0, e1, e2, e3, e4, e5⟩ := hF.2.2.2.1 (r - 2000) (by omega)
      rw [show 2000 + (r - 2000) = r by omega] at e1
      obtain ⟨cell, z1, z2, z3, z4⟩ := e3.kept hS.2.1
      refine ⟨x0, (am_cvf (by omega)).trans e1, cell, z1, z2, ?_⟩
      rw [h1]
      exact z3
  · cases h
theorem am_stsplit {k : Nat} {st : List am_V} {cv : Nat → Value} : st.map (am_c cv) = (((am_pop k st).1).map (am_c cv)).reverse ++ ((am_pop k st).2).map (am_c cv) := by
  simp only [am_pop]
  rw [← List.map_reverse, List.reverse_reverse, ← List.map_append, List.take_append_drop]
theorem am_sumcat (hG : am_G fo fx) (q : List am_V) : ((q.map (am_c (am_cv base fo))).map fun v => v.category).sum = (q.map am_cat).sum := by
  rw [List.map_map]
  congr 1
  apply List.map_congr_left
  intro v _
  exact am_cc hG v
/-- what is claimed of runs of n steps -/
def am_Sd (dC : Nat → ClassId) (dI : Nat → Nat → Nat) (cA : Nat → ClassId) (base : Nat) (fo : Nat → Value) (fx : am_X0) (l : Launch) (n : Nat) : Prop := ∀ (d : Nat) (cr : Nat × Nat) (mi pc : Nat) (ls : am_Ls) (st : List am_V) (S : am_S) (r : List am_V) (S' : am_S), am_X fx n d cr mi pc ls st S = some (r, S') → ∀ (M : am_MT), am_ms[mi]? = some M →
    ∀ (p : Program) (e : Env) (R : Room) (s : State) (m : MethodId) (args : Array Value) (below : List Frame) (meth : Method) (c : Code) (H : Heap) (locs : List Loc) (cells slots : Nat) (Q : State → Prop) (lsA : Array Slot),
    p.tables.exec = Jvm.exec → c.code = M.2.2.1 → c.maxLocals = M.2.2.2.1 → s.vm.findClass (am_cn M.1) = some m.cls → (M.2.2.2.2.2.1 = true → meth.name = "<init>") → (∀ w ∈ am_T, w.before args s = true) → am_F dC dI cA base fo fx s → base ≤ s.heap.size → d ≤ R.frames → 60 * d ≤ R.locals → s.heap.size + cells = base + S.1.length → (cells + cr.1 ≤ R.cells ∧ slots + cr.2 ≤ R.slots) → va_S (am_A base) s.heap H locs → am_P dC dI cA base fo S H → am_L (am_cv base fo) lsA M.2.2.2.1 ls →
    (∀ (pc : Nat) (lsA : Array Slot) (H : Heap) (locs : List Loc) (cells slots : Nat) (i : Instr) (len : Nat) (st : List am_V), decode M.2.2.1 pc = .ok (i, len) → am_ret M.2.2.2.2.1 i len st = some r → va_S (am_A base) s.heap H locs → am_P dC dI cA base fo S' H → (cells ≤ R.cells ∧ slots ≤ R.slots) → W p l e R s m args below meth c H locs cells slots Q (F0 m pc lsA (st.map (am_c (am_cv base fo))))) →
    W p l e R s m args below meth c H locs cells slots Q (F0 m pc lsA (st.map (am_c (am_cv base fo))))
theorem am_mU {M : am_MT} {q : Nat × Nat × Nat × Nat} (h : am_mC (M, q) = true) : plainFor M.2.1 = true ∧ M.2.1.cls = am_cn M.1 ∧ Cond.initialized M.2.1.cls ∈ am_T ∧ (parseMethodDescriptor M.2.1.desc).map (fun d => d.parameters.length) = some M.2.2.2.2.2.2.1 ∧ M.2.2.2.1 ≤ 40 ∧ (M.2.2.2.2.2.1 = true → M.2.1.name = "<init>") ∧ (M.2.1.cls ≠ "java/lang/invoke/MethodHandle" ∧ M.2.1.cls ≠ "java/lang/invoke/VarHandle") ∧ (q.1 = 2 → Cond.static M.2.1 ∈ am_T) ∧ (q.1 = 1 → Cond.instanceMethod M.2.1 ∈ am_T ∧ M.2.1.name = "<init>" ∧ M.2.2.2.2.1 = none) ∧ (q.1 = 0 → Cond.instanceMethod M.2.1 ∈ am_T ∧ Cond.selects M.2.1.cls M.2.1 M.2.1 ∈ am_T) := by
  unfold am_mC at h
  simp only [Bool.and_eq_true, decide_eq_true_eq] at h
  obtain ⟨h1, h2, h3, h4, h5, h6, h7, h8, h9⟩ := h
  refine ⟨h1, h2, am_at_in h3, h4, h5, h6, ⟨h7, h8⟩, fun hq => ?_, fun hq => ?_, fun hq => ?_⟩
  · rw [if_pos hq] at h9
    exact am_at_in h9
  · rw [if_neg (by omega), if_pos hq, Bool.and_eq_true, decide_eq_true_eq] at h9
    exact ⟨am_at_in h9.1, h9.2⟩
  · rw [if_neg (by omega), if_neg (by omega), Bool.and_eq_true] at h9
    exact ⟨am_at_in h9.1, am_at_in h9.2⟩
theorem am_pmU {cn x mj kd : Nat} {N : am_MT} (h : am_look am_pmL cn x = some (mj, kd)) (hN : am_ms[mj]? = some N) : ∃ q, am_mC (N, q) = true ∧ am_cw N ∈ am_T ∧ (kd = 3 → N.2.1 = ⟨"HeardBarrels$Row", "<init>", "()V"⟩ ∧ (cn, x) = (1, 37) ∧ q.1 = 1) ∧ (kd ≠ 3 → Cond.methodLink (am_cn cn) x N.2.1 ∈ am_T ∧ q.1 = kd) := by
  obtain ⟨i, hi⟩ := am_pm_at (am_look_in h)
  unfold am_pmC at hi
  simp only [hN] at hi
  split at hi
  · rename_i M q e1 hq
    cases e1
    rw [Bool.and_eq_true, decide_eq_true_eq] at hi
    obtain ⟨h0, hi⟩ := hi
    obtain ⟨h1, h2⟩ := am_m_at h0 hN hq
    refine ⟨q, h1, h2, fun hk => ?_, fun hk => ?_⟩
    · rw [if_pos hk, decide_eq_true_eq] at hi
      exact hi
    · rw [if_neg hk, Bool.and_eq_true, decide_eq_true_eq] at hi
      exact ⟨am_at_in hi.1, hi.2⟩
  · cases hi
theorem am_met {l : Launch} (hG : am_G fo fx) {n : Nat} (ih : am_Sd dC dI cA base fo fx l n) {mj d' : Nat} {N : am_MT} (hN : am_ms[mj]? = some N) {q : Nat × Nat × Nat × Nat} (hm : am_mC (N, q) = true) {a : List am_V} {S : am_S} {o : List am_V × am_S} (ha : (am_flat a).length ≤ N.2.2.2.1) (ho : am_X fx n d' N.2.2.2.2.2.2.2 mj 0 (am_ent N.2.2.2.1 a) [] S = some o) :
    Met l N.2.1 (Cond.code N.2.1 N.2.2.1 N.2.2.2.1 N.2.2.2.2.1 :: am_T) (am_rm d' N.2.2.2.2.2.2.2) (am_Pc dC dI cA base fo fx a S) (am_Qc dC dI cA base fo o.1 o.2) N.2.2.2.2.2.2.2.1 N.2.2.2.2.2.2.2.2 (am_A base) := by
  obtain ⟨h1, h2, h3, h4, h5, h6, h7, h8, h9, h10⟩ := am_mU hm
  refine am_MetW h1 rfl ?_
  intro p e s m args below meth c s₁ B hml hv
  obtain ⟨rfl, hsz, hF, hP⟩ := hv
  rw [lg_entry_eq]
  have hts := atoms_spec (ws := Cond.code N.2.1 N.2.2.1 N.2.2.2.1 N.2.2.2.2.1 :: am_T) B.pre
  have hown : s.vm.findClass N.2.1.cls = some m.cls := findClass_of_methodNamed B.named
  rw [h2] at hown
  exact ih d' N.2.2.2.2.2.2.2 mj 0 (am_ent N.2.2.2.1 a) [] S o.1 o.2 ho N hN p e _ s m _ below meth c s.heap [] 0 0 _ _ B.exec B.bytes hml hown (fun h => (name_of_methodNamed B.named B.method).1.trans (h6 h)) (fun w hw => hts w (List.mem_cons_of_mem _ hw)) hF (by omega) (Nat.le_refl _) (Nat.le_refl _) (by omega) ⟨by show 0 + N.2.2.2.2.2.2.2.1 ≤ N.2.2.2.2.2.2.2.1; omega, by show 0 + N.2.2.2.2.2.2.2.2 ≤ N.2.2.2.2.2.2.2.2; omega⟩ va_S.rf hP (am_ent_L hG ha) (fun pc lsA H locs cells slots i len st hdg hr hS hP hc => am_out B.exec B.bytes B.returns B.notSynchronized hG hS hP hc.1 hc.2 hdg hr)
theorem am_sz {S : am_S} {H : Heap} (hP : am_P dC dI cA base fo S H) (hb : base ≤ H.size) : base + S.1.length ≤ H.size := by
  rcases Nat.eq_zero_or_pos S.1.length with h | h
  · omega
  · have hk : S.1.length - 1 < S.1.length := by omega
    have h1 := (hP.2 _ _ (am_wl_get (List.getElem?_eq_getElem hk))).lt
    have h2 : base + (S.1.length - 1) < H.size := h1
    omega
section AMU
variable {p : Program} {l : Launch} {e : Env} {R : Room} {s : State} {m : MethodId} {args : Array Value} {below : List Frame} {meth : Method} {c : Code} {H : Heap} {locs : List Loc} {cells slots : Nat} {Q : State → Prop} {pc : Nat} {lsA : Array Slot}
/-- a call -/
theorem am_cal_ok (hG : am_G fo fx) {n : Nat} (ih : am_Sd dC dI cA base fo fx l n) {M N : am_MT} {d' : Nat} {k : Nat × Nat} {i : Instr} {S : am_S} {a q : List am_V} {o : List am_V × am_S} (hx : p.tables.exec = Jvm.exec) (hb : c.code = M.2.2.1) (hml : c.maxLocals = M.2.2.2.1) (hown : s.vm.findClass (am_cn M.1) = some m.cls) (hts : ∀ w ∈ am_T, w.before args s = true) (hF : am_F dC dI cA base fo fx s) (hb0 : base ≤ s.heap.size) (hfr : d' + 1 ≤ R.frames) (hlo : 60 * (d' + 1) ≤ R.locals) (hcnt : s.heap.size + cells = base + S.1.length) (hS : va_S (am_A base) s.heap H locs) (hP : am_P dC dI cA base fo S H) (hLs : lsA.size = M.2.2.2.1)
    (hdg : decode M.2.2.1 pc = .ok (i, 3)) (hcal : am_cal M.1 i = some k) (hN : am_ms[k.1]? = some N) (hcc : cells + N.2.2.2.2.2.2.2.1 ≤ R.cells ∧ slots + N.2.2.2.2.2.2.2.2 ≤ R.slots) (ha1 : a.length = N.2.2.2.2.2.2.1 + if k.2 = 2 then 0 else 1) (ha2 : (q.map am_cat).sum ≤ 8) (ha3 : (am_flat a).length ≤ N.2.2.2.1) (ha4 : k.2 = 2 ∨ am_rcv S N.1 (a.headD (.inl 0)) = true) (ho : am_X fx n d' N.2.2.2.2.2.2.2 k.1 0 (am_ent N.2.2.2.1 a) [] S = some o)
    (kk : ∀ (H1 : Heap) (locs1 : List Loc), am_P dC dI cA base fo o.2 H1 → va_S (am_A base) s.heap H1 locs1 → W p l e R s m args below meth c H1 locs1 (cells + N.2.2.2.2.2.2.2.1) (slots + N.2.2.2.2.2.2.2.2) Q (F0 m (pc + 3) lsA (o.1.map (am_c (am_cv base fo)) ++ q.map (am_c (am_cv base fo))))) : W p l e R s m args below meth c H locs cells slots Q (F0 m pc lsA ((a.map (am_c (am_cv base fo))).reverse ++ q.map (am_c (am_cv base fo)))) := by
  refine am_Wsz (fun hz => ?_)
  have hsz : H.size = base + S.1.length := by
    have := am_sz hP (Nat.le_trans hb0 hS.1)
    omega
  have hpre : ∀ U : State, U.heap = H → s.WarmedH U.vm → am_Pc dC dI cA base fo fx a S (a.map (am_c (am_cv base fo))).toArray U := fun U hU hW => ⟨rfl, by rw [hU]; exact hsz, hF.moved hW (fun q h1 h2 => by rw [hU]; exact hS.2.1 q h1 h2), by rw [hU]; exact hP⟩
  have hroom : 2 * (F0 m pc lsA ((a.map (am_c (am_cv base fo))).reverse ++ q.map (am_c (am_cv base fo)))).monitorRoom + ((q.map (am_c (am_cv base fo))).map fun v => v.category).sum ≤ 8 := lv_room (by rw [am_sumcat hG]; exact ha2)
  have hR : 40 + 19 + 60 * d' ≤ R.locals := by omega
  unfold am_cal at hcal
  split at hcal
  · rename_i x
    split at hcal
    · rename_i mj hl
      cases hcal
      obtain ⟨q', hm, hcw, -, hkd⟩ := am_pmU hl hN
      obtain ⟨hlink, hk0⟩ := hkd (by decide)
      have hMet := am_met hG ih hN hm ha3 ho
      obtain ⟨h1, h2, h3, h4, h5, h6, h7, h8, h9, h10⟩ := am_mU hm
      obtain ⟨hins, hsel⟩ := h10 hk0
      rcases ha4 with ha4 | ha4
      · cases ha4
      obtain ⟨v0, as, rfl⟩ : ∃ v0 as, a = v0 :: as := by
        cases a with
        | nil => simp at ha1
        | cons v as => exact ⟨v, as, rfl⟩
      · skip
        obtain ⟨b, hv0, hcell⟩ := am_rcv_ok hF hP hS ha4
        have hv0 : am_c (am_cv base fo) v0 = .ref b := hv0
        rw [← h2] at hcell
        rw [List.map_cons, hv0] at hpre hroom ⊢
        have est : (Value.ref b :: as.map (am_c (am_cv base fo))).reverse ++ q.map (am_c (am_cv base fo)) = (as.map (am_c (am_cv base fo))).reverse ++ .ref b :: q.map (am_c (am_cv base fo)) := by simp
        refine am_after (a0 := (Value.ref b :: as.map (am_c (am_cv base fo))).toArray) (va_runV (As := as.map (am_c (am_cv base fo))) (rest := q.map (am_c (am_cv base fo))) (C := N.2.1.cls) ⟨hx, hb, hml, hown, hts⟩ hMet (cwV N.2.2.2.2.2.2.1 hts (am_GI ?_) rfl rfl rfl ⟨rfl, h7.1, h7.2, h4⟩ ⟨hfr, by show 8 + (N.2.2.2.1 + 11) + 60 * d' ≤ _; omega⟩) ⟨am_blind, hcell, hpre⟩ rfl (by simp only [List.length_map]; simp at ha1; exact ha1) hLs est hroom hdg hcc) hS kk
        intro w hw
        unfold wsV at hw
        rcases List.mem_append.mp hw with hw | hw
        · simp only [List.mem_cons, List.not_mem_nil, or_false] at hw
          rcases hw with rfl | rfl | rfl | rfl
          · exact hlink
          · exact hins
          · exact hsel
          · exact h3
        · exact am_GW hcw w hw
    · cases hcal
  · rename_i x
    split at hcal
    · rename_i mj hl
      cases hcal
      obtain ⟨q', hm, hcw, -, hkd⟩ := am_pmU hl hN
      obtain ⟨hlink, hk0⟩ := hkd (by decide)
      have hMet := am_met hG ih hN hm ha3 ho
      obtain ⟨h1, h2, h3, h4, h5, h6, h7, h8, h9, h10⟩ := am_mU hm
      obtain ⟨hins, hname, hrt⟩ := h9 hk0
      rcases ha4 with ha4 | ha4
      · cases ha4
      obtain ⟨v0, as, rfl⟩ : ∃ v0 as, a = v0 :: as := by
        cases a with
        | nil => simp at ha1
        | cons v as => exact ⟨v, as, rfl⟩
      · skip
        obtain ⟨b, hv0, hcell⟩ := am_rcv_ok hF hP hS ha4
        have hv0 : am_c (am_cv base fo) v0 = .ref b := hv0
        rw [List.map_cons, hv0] at hpre hroom ⊢
        have est : (Value.ref b :: as.map (am_c (am_cv base fo))).reverse ++ q.map (am_c (am_cv base fo)) = (as.map (am_c (am_cv base fo))).reverse ++ .ref b :: q.map (am_c (am_cv base fo)) := by simp
        rw [hrt] at hMet
        have hcw' := am_GW hcw
        rw [hrt] at hcw'
        exact am_after (a0 := (Value.ref b :: as.map (am_c (am_cv base fo))).toArray) (va_runI (As := as.map (am_c (am_cv base fo))) (rest := q.map (am_c (am_cv base fo))) ⟨hx, hb, hml, hown, hts⟩ hMet (cwI N.2.2.2.2.2.2.1 hts (am_GI hcw') rfl rfl rfl (hts _ h3) (hts _ hlink) (hts _ hins) hname ⟨h7.1, h7.2, h4⟩ ⟨hfr, by show 8 + (N.2.2.2.1 + 11) + 60 * d' ≤ _; omega⟩) ⟨am_blind, hpre⟩ rfl (by simp only [List.length_map]; simp at ha1; exact ha1) hLs est hroom hdg hcc) hS kk
    · rename_i mj hl
      cases hcal
      obtain ⟨q', hm, hcw, hkd, -⟩ := am_pmU hl hN
      obtain ⟨hy, hpos, hk0⟩ := hkd rfl
      have hMet := am_met hG ih hN hm ha3 ho
      obtain ⟨h1, h2, h3, h4, h5, h6, h7, h8, h9, h10⟩ := am_mU hm
      obtain ⟨hins, hname, hrt⟩ := h9 hk0
      rcases ha4 with ha4 | ha4
      · cases ha4
      obtain ⟨v0, as, rfl⟩ : ∃ v0 as, a = v0 :: as := by
        cases a with
        | nil => simp at ha1
        | cons v as => exact ⟨v, as, rfl⟩
      · skip
        obtain ⟨b, hv0, hcell⟩ := am_rcv_ok hF hP hS ha4
        have hv0 : am_c (am_cv base fo) v0 = .ref b := hv0
        rw [List.map_cons, hv0] at hpre hroom ⊢
        have est : (Value.ref b :: as.map (am_c (am_cv base fo))).reverse ++ q.map (am_c (am_cv base fo)) = (as.map (am_c (am_cv base fo))).reverse ++ .ref b :: q.map (am_c (am_cv base fo)) := by simp
        rw [hrt] at hMet
        have hcw' := am_GW hcw
        rw [hrt] at hcw'
        have hNw : va_Nw (.methodLinkNest (am_cn M.1) x N.2.1 "HeardBarrels") s := by
          rw [hy, (Prod.mk.inj hpos).1, (Prod.mk.inj hpos).2]
          exact hF.2.2.2.2.2.2.2.2
        exact am_after (a0 := (Value.ref b :: as.map (am_c (am_cv base fo))).toArray) (va_runIN (host := "HeardBarrels") (As := as.map (am_c (am_cv base fo))) (rest := q.map (am_c (am_cv base fo))) ⟨hx, hb, hml, hown, hts⟩ hMet ⟨va_cnB N.2.2.2.2.2.2.1 hts (am_GI hcw') rfl rfl rfl hNw (hts _ h3) ⟨h7.1, h7.2, h4⟩ ⟨hfr, by show 8 + (N.2.2.2.1 + 11) + 60 * d' ≤ _; omega⟩, hname, hts _ hins⟩ ⟨am_blind, hpre⟩ rfl (by simp only [List.length_map]; simp at ha1; exact ha1) hLs est hroom hdg hcc) hS kk
    · cases hcal
  · rename_i x
    split at hcal
    · rename_i mj hl
      cases hcal
      obtain ⟨q', hm, hcw, -, hkd⟩ := am_pmU hl hN
      obtain ⟨hlink, hk0⟩ := hkd (by decide)
      have hMet := am_met hG ih hN hm ha3 ho
      obtain ⟨h1, h2, h3, h4, h5, h6, h7, h8, h9, h10⟩ := am_mU hm
      exact am_after (a0 := (a.map (am_c (am_cv base fo))).toArray) (va_runS (As := a.map (am_c (am_cv base fo))) (rest := q.map (am_c (am_cv base fo))) ⟨hx, hb, hml, hown, hts⟩ hMet ⟨callB_of N.2.2.2.2.2.2.1 hts (am_GI (am_GW hcw)) rfl rfl rfl (hts _ h3) (hts _ hlink) ⟨h7.1, h7.2, h4⟩ ⟨hfr, by show 8 + (N.2.2.2.1 + 11) + 60 * d' ≤ _; omega⟩, hts _ (h8 hk0)⟩ ⟨am_blind, hpre⟩ rfl (by simp only [List.length_map]; simp at ha1; exact ha1) hLs rfl hroom hdg hcc) hS kk
    · cases hcal
  · cases hcal
end AMU
set_option maxHeartbeats 1000000 in
theorem am_sound (l : Launch) (hG : am_G fo fx) : ∀ n : Nat, am_Sd dC dI cA base fo fx l n := by
  intro n
  induction n with
  | zero =>
    intro d cr mi pc ls st S r S' h
    cases h
  | succ n ih =>
    intro d cr mi pc ls st S r S' h M hM p e R s m args below meth c H locs cells slots Q lsA hx hb hml hown hi hts hF hb0 hfr hlo hcnt hcr hS hP hL hret
    unfold am_X at h
    rw [hM] at h
    simp only at h
    split at h
    · cases h
    · rename_i i len hdg
      split at h
      · rename_i r0 hr0
        cases h
        exact hret pc lsA H locs cells slots i len st hdg hr0 hS hP ⟨by omega, by omega⟩
      · split at h
        · rename_i q hq
          exact am_stp_ok hx hb hts hown hi hG hF hP hS hb0 hcnt hL hcr hdg hq (fun lsB H1 locs1 cells1 slots1 hL1 hP1 hS1 hc1 hr1 => ih _ _ _ _ _ _ _ _ _ h M hM p e R s m args below meth c H1 locs1 cells1 slots1 Q lsB hx hb hml hown hi hts hF hb0 hfr hlo hc1 hr1 hS1 hP1 hL1 hret)
        · split at h
          · cases h
          · rename_i d'
            split at h
            · rename_i hl3
              subst hl3
              split at h
              · -- Object's constructor
                rename_i hob
                split at h
                · rename_i r1 q1 hn1 hn2
                  split at h
                  · rename_i hc
                    unfold am_obj at hob
                    split at hob
                    · rename_i x
                      obtain ⟨u, hu⟩ := Option.isSome_iff_exists.mp hob
                      have hw := List.all_eq_true.mp am_poA _ (am_look_in hu)
                      rw [List.map_cons]
                      rw [show am_c (am_cv base fo) (Sum.inr (Sum.inr (some r1))) = .ref (base + r1) from am_cvo hc.1]
                      have hk := ih _ _ _ _ _ _ _ _ _ h M hM p e R s m args below meth c H locs cells slots Q lsA hx hb hml hown hi hts hF hb0 hfr hlo hcnt hcr hS hP hL hret
                      refine W.objInit hx hb hown (hts _ (am_wd_in hw)) (hts _ (am_wd_in am_obA.1)) (hts _ (am_wd_in am_obA.2)) rfl (by rw [hml]; exact hL.1) rfl hdg (by omega) ?_ hk
                      show 2 * 0 + _ + 12 ≤ R.locals
                      rw [am_sumcat hG]
                      omega
                    · cases hob
                  · cases h
                · cases h
              · split at h
                · cases h
                · rename_i k hcal
                  split at h
                  · cases h
                  · rename_i N hN
                    split at h
                    · rename_i hcr2
                      generalize hka : (N.2.2.2.2.2.2.1 + if k.2 = 2 then 0 else 1) = ka at h
                      split at h
                      · rename_i hargs
                        obtain ⟨ha1, ha2, ha3, ha4⟩ := hargs
                        split at h
                        · rename_i o ho
                          split at h
                          · rename_i hlen
                            have hst : st.map (am_c (am_cv base fo)) = _ := am_stsplit (k := ka)
                            rw [hst]
                            refine am_cal_ok hG ih hx hb hml hown hts hF hb0 hfr hlo hcnt hS hP hL.1 hdg hcal hN ⟨by omega, by omega⟩ (ha1.trans hka.symm) ha2 ha3 ha4 ho (fun H1 locs1 hP1 hS1 => ?_)
                            rw [← List.map_append]
                            exact ih _ _ _ _ _ _ _ _ _ h M hM p e R s m args below meth c H1 locs1 _ _ Q lsA hx hb hml hown hi hts hF hb0 hfr hlo (by omega) ⟨by show _ + _ + (cr.1 - _) ≤ _; omega, by show _ + _ + (cr.2 - _) ≤ _; omega⟩ hS1 hP1 hL hret
                          · cases h
                        · cases h
                      · cases h
                    · cases h
            · cases h
end AMV
