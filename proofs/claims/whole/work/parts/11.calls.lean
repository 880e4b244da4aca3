/-! CALLS OF THE ABSTRACT MACHINE -/
theorem am_zip_app {α β : Type} (l1 l2 : List α) : ∀ m : List β, (l1 ++ l2).zip m = l1.zip m ++ l2.zip (m.drop l1.length) := by
  induction l1 with
  | nil => intro m; simp
  | cons a l ih =>
    intro m
    cases m with
    | nil => simp
    | cons b m => simp [ih]
theorem am_mA : (am_ms.tail.zip am_mI).all am_mC = true := by
  have h : am_ms.tail = am_ms1 ++ (am_ms2 ++ (am_ms3 ++ (am_ms4 ++ (am_ms5 ++ (am_ms6 ++ (am_ms7 ++ am_ms8)))))) := rfl
  rw [h]
  simp only [am_zip_app, List.all_append, List.drop_drop, Bool.and_eq_true]
  exact ⟨am_mA1, am_mA2, am_mA3, am_mA4, am_mA5, am_mA6, am_mA7, am_mA8⟩
theorem am_mL : am_ms.length = 260 ∧ am_mI.length = 259 ∧ am_pmL.length = 293 ∧ am_pI.length = 293 := by decide +kernel
theorem am_m_at {k : Nat} {M : am_MT} {q : Nat × Nat × Nat × Nat} (h0 : k ≠ 0) (h : am_ms[k]? = some M) (hq : am_mI[k - 1]? = some q) : am_mC (M, q) = true ∧ am_cw M ∈ am_T := by
  have ht : am_ms.tail[k - 1]? = some M := by
    rw [List.getElem?_tail, show k - 1 + 1 = k by omega]
    exact h
  refine ⟨List.all_eq_true.mp am_mA _ (List.mem_of_getElem? (i := k - 1) ?_), am_T_of (List.mem_append_right _ (am_cwA M (List.mem_of_getElem? ht))) rfl⟩
  rw [List.getElem?_zip_eq_some]
  exact ⟨ht, hq⟩
theorem am_pm_at {e : (Nat × Nat) × Nat × Nat} (he : e ∈ am_pmL) : ∃ i, am_pmC (e, i) = true := by
  obtain ⟨k, hk⟩ := List.getElem?_of_mem he
  have hl : k < 293 := by
    have := (List.getElem?_eq_some_iff.mp hk).1
    rw [am_mL.2.2.1] at this
    exact this
  obtain ⟨i, hi⟩ : ∃ i, am_pI[k]? = some i := ⟨_, List.getElem?_eq_getElem (by rw [am_mL.2.2.2]; exact hl)⟩
  have hz : (am_pmL.zip am_pI)[k]? = some (e, i) := by
    rw [List.getElem?_zip_eq_some]
    exact ⟨hk, hi⟩
  refine ⟨i, ?_⟩
  have key : ∀ a, a ≤ k → k < a + 75 → (((am_pmL.zip am_pI).drop a).take 75).all am_pmC = true → am_pmC (e, i) = true := by
    intro a h1 h2 h
    refine List.all_eq_true.mp h _ (List.mem_of_getElem? (i := k - a) ?_)
    rw [List.getElem?_take, if_pos (by omega), List.getElem?_drop, show a + (k - a) = k by omega]
    exact hz
  by_cases h1 : k < 75
  · exact key 0 (by omega) (by omega) am_pmA0
  by_cases h2 : k < 150
  · exact key 75 (by omega) (by omega) am_pmA1
  by_cases h3 : k < 225
  · exact key 150 (by omega) (by omega) am_pmA2
  · exact key 225 (by omega) (by omega) am_pmA3
theorem am_GI {l : List Cond} (h : ∀ w ∈ l, w ∈ am_T) : GoodIn am_T l := fun w hw => ⟨h w hw, good_of_word (List.mem_filter.mp (h w hw)).2⟩
theorem am_GW {M : am_MT} (h : am_cw M ∈ am_T) : ∀ w ∈ Cond.code M.2.1 M.2.2.1 M.2.2.2.1 M.2.2.2.2.1 :: am_T, w ∈ am_T := fun w hw => (List.mem_cons.mp hw).elim (fun e => e ▸ h) (fun h => h)
theorem am_MetW {l : Launch} {y : MethodName} {ws ws' : List Cond} {rm : Room} {Pc : Array Value → State → Prop} {Qc : Array Value → State → Outcome → State → Prop} {mc ms : Nat} {free : Addr → Prop} {cc : ByteArray} {maxL : Nat} {ret : Option FieldType}
    (hy : plainFor y = true) (hw : ws = Cond.code y cc maxL ret :: ws')
    (body : ∀ p e s m args below meth c s₁, BodyLoose p l y (headSpec ws rm) cc maxL ret e s m args below meth c s₁ → c.maxLocals = maxL → Pc args s →
      W p l e (headSpec ws rm).room s m args below meth c s.heap [] 0 0 (MQ below Qc args s mc ms free) (entryFrame m args maxL)) : Met l y ws rm Pc Qc mc ms free := by
  refine MetFree.of_bodySF (code := cc) (maxLocals := maxL) (ret := ret) hy ?_ ?_
  · intro args s m h hn
    obtain ⟨meth, c, h1, h2, h3, h4, h5, h6, -, -⟩ := Cond.code_spec hn (atoms_spec (ws := ws) h _ (by rw [hw]; exact List.mem_cons_self))
    exact ⟨meth, c, h1, h2, h3, h4, h5, h6⟩
  · intro p e s m args below meth c s₁ B hml hP _
    have hh0 : s₁.heap = s.heap := by rw [B.state]; rfl
    obtain ⟨t, a1, o, b1, b2, b3⟩ := body p e s m args below meth c s₁ B hml hP s₁ hh0 (Stand.of_body B)
    exact ⟨t, o, a1, b1, b2, ⟨b3.1, b3.2⟩⟩
def am_rm (d : Nat) (cr : Nat × Nat) : Room := { frames := d, cells := cr.1, slots := cr.2, locals := 60 * d }
section AMY
variable {base : Nat} {fo : Nat → Value} {cA : Nat → ClassId} {dC : Nat → ClassId} {dI : Nat → Nat → Nat} {fx : am_X0} {S S' : am_S}
def am_Pc (dC : Nat → ClassId) (dI : Nat → Nat → Nat) (cA : Nat → ClassId) (base : Nat) (fo : Nat → Value) (fx : am_X0) (a : List am_V) (S : am_S) : Array Value → State → Prop := va_Pc (a.map (am_c (am_cv base fo))) (fun U => U.heap.size = base + S.1.length ∧ am_F dC dI cA base fo fx U ∧ am_P dC dI cA base fo S U.heap)
def am_Qc (dC : Nat → ClassId) (dI : Nat → Nat → Nat) (cA : Nat → ClassId) (base : Nat) (fo : Nat → Value) (r : List am_V) (S' : am_S) : Array Value → State → Outcome → State → Prop := fun _ st o t => ∃ v : Option Value, o = .returned v ∧ v.toList = r.map (am_c (am_cv base fo)) ∧ am_P dC dI cA base fo S' t.heap ∧ va_F (am_A base) st t
theorem am_blind {a : List am_V} : FrameBlind (am_Pc dC dI cA base fo fx a S) := by
  intro a U g mk h
  obtain ⟨h1, h2, h3, h4⟩ := h
  exact ⟨h1, h2, h3.calling g mk a, h4⟩
theorem am_flat_len (hG : am_G fo fx) (a : List am_V) : (lg_sl (a.map (am_c (am_cv base fo)))).length = (am_flat a).length := by
  induction a with
  | nil => rfl
  | cons v r ih =>
    have e : lg_sl ((v :: r).map (am_c (am_cv base fo))) = lg_sl [am_c (am_cv base fo) v] ++ lg_sl (r.map (am_c (am_cv base fo))) := by simp [lg_sl]
    rw [e, List.length_append, ih]
    have hc := am_cc (base := base) hG v
    match v, hc with
    | .inl z, hc => simp [lg_sl, am_flat, hc, am_cat]; omega
    | .inr (.inl z), hc => simp [lg_sl, am_flat, hc, am_cat]; omega
    | .inr (.inr z), hc => simp [lg_sl, am_flat, hc, am_cat]; omega
theorem am_flat_in (hG : am_G fo fx) (a : List am_V) : ∀ (i k : Nat) (v : am_V), (am_flat a)[k]? = some (some v) → (i + k, am_c (am_cv base fo) v) ∈ lv_args i (a.map (am_c (am_cv base fo))) := by
  induction a with
  | nil => intro i k v h; simp [am_flat] at h
  | cons w r ih =>
    intro i k v h
    have hc := am_cc (base := base) hG w
    rw [List.map_cons, lv_args, hc]
    match w, h with
    | .inl z, h =>
      rw [am_flat] at h
      cases k with
      | zero => cases h; exact List.mem_cons_self
      | succ k =>
        refine List.mem_cons_of_mem _ ?_
        have := ih (i + 1) k v h
        rw [show i + (k + 1) = i + 1 + k by omega]
        exact this
      · intro z hz; cases hz
    | .inr (.inl z), h =>
      rw [am_flat] at h
      match k, h with
      | 0, h => cases h; exact List.mem_cons_self
      | 1, h => cases h
      | k + 2, h =>
        refine List.mem_cons_of_mem _ ?_
        have := ih (i + 2) k v h
        rw [show i + (k + 2) = i + 2 + k by omega]
        exact this
    | .inr (.inr z), h =>
      rw [am_flat] at h
      cases k with
      | zero => cases h; exact List.mem_cons_self
      | succ k =>
        refine List.mem_cons_of_mem _ ?_
        have := ih (i + 1) k v h
        rw [show i + (k + 1) = i + 1 + k by omega]
        exact this
      · intro z hz; cases hz
theorem am_ent_L (hG : am_G fo fx) {a : List am_V} {nL : Nat} (h : (am_flat a).length ≤ nL) : am_L (am_cv base fo) ((lg_sl (a.map (am_c (am_cv base fo))) ++ List.replicate (nL - (lg_sl (a.map (am_c (am_cv base fo)))).length) Slot.unset).toArray) nL (am_ent nL a) := by
  refine am_L_sub (lv_entry (a.map (am_c (am_cv base fo))) (n := nL) (by rw [am_flat_len hG]; exact h)) fun q hq => ?_
  obtain ⟨v, h1, h2⟩ := am_lv_in.mp hq
  unfold am_ent at h1
  by_cases hk : q.1 < (am_flat a).length
  · rw [List.getElem?_append_left hk] at h1
    have := am_flat_in (base := base) hG a 0 q.1 v h1
    rw [Nat.zero_add, ← h2] at this
    exact this
  · rw [List.getElem?_append_right (by omega), List.getElem?_replicate] at h1
    split at h1 <;> cases h1
end AMY
section AMX
variable {p : Program} {l : Launch} {e : Env} {R : Room} {s : State} {m : MethodId} {args : Array Value} {below : List Frame} {meth : Method} {c : Code} {H : Heap} {locs : List Loc} {cells slots : Nat} {Q : State → Prop} {cc : ByteArray} {pc : Nat} {lsA : Array Slot} {rest st0 : List Value}
variable {base : Nat} {fo : Nat → Value} {cA : Nat → ClassId} {dC : Nat → ClassId} {dI : Nat → Nat → Nat} {fx : am_X0} {S S' : am_S}
theorem am_after {r : List am_V} {a0 : Array Value} {mc ms : Nat} (hr : va_Run p l e R s m args below meth c H locs cells slots mc ms (F0 m pc lsA st0) rest (am_Qc dC dI cA base fo r S' a0) (am_A base)) (hS : va_S (am_A base) s.heap H locs)
    (kk : ∀ (H1 : Heap) (locs1 : List Loc), am_P dC dI cA base fo S' H1 → va_S (am_A base) s.heap H1 locs1 → W p l e R s m args below meth c H1 locs1 (cells + mc) (slots + ms) Q (F0 m (pc + 3) lsA (r.map (am_c (am_cv base fo)) ++ rest))) : W p l e R s m args below meth c H locs cells slots Q (F0 m pc lsA st0) := by
  intro T hT X
  obtain ⟨v, st₀, t, T', L, h0, X', hL, e1, e2, ⟨v', hv, hvl, hPt, hz, hk⟩, st⟩ := hr T hT X
  cases hv
  rw [h0] at hz hk
  obtain ⟨t2, a1, b1⟩ := kk T'.heap (locs ++ L) (by rw [e1]; exact hPt)
    ⟨Nat.le_trans hS.1 (by rw [e1]; exact hz), fun q h1 h2 => by rw [e1, hk q (Nat.lt_of_lt_of_le h1 hS.1) h2]; exact hS.2.1 q h1 h2, fun q hq => by
      rcases List.mem_append.mp hq with h | h
      · exact hS.2.2 q h
      · exact hL q h⟩ T' rfl X'
  rw [← hvl] at a1
  exact ⟨t2, st t2 a1, b1⟩
/-- the way out of a method that was called -/
theorem am_out (hx : p.tables.exec = Jvm.exec) (hb : c.code = cc) {rt : Option FieldType} (hr : meth.sig.returnType = rt) (hlocks : meth.locks = false) (hG : am_G fo fx) (hS : va_S (am_A base) s.heap H locs) (hP : am_P dC dI cA base fo S' H) {i : Instr} {len : Nat} {st r : List am_V} {mc ms : Nat} (hc : cells ≤ mc) (hs : slots ≤ ms) (hdg : decode cc pc = .ok (i, len)) (h : am_ret rt i len st = some r) :
    W p l e R s m args below meth c H locs cells slots (MQ below (am_Qc dC dI cA base fo r S') args s mc ms (am_A base)) (F0 m pc lsA (st.map (am_c (am_cv base fo)))) := by
  refine W.widen (k := mc) (n := ms) hc hs ?_
  unfold am_ret at h
  split at h
  · rename_i hl
    subst hl
    split at h
    · split at h
      · rename_i h1
        cases h
        rw [h1] at hr
        exact W.vret hx hb hr (fun t ht _ => ⟨none, rfl, rfl, by rw [ht]; exact hP, hS.F ht⟩) hS.2.2 hdg hlocks
      · cases h
    · rename_i z
      split at h
      · cases h
        exact W.iret hx hb hr (fun t ht _ => ⟨some _, rfl, rfl, by rw [ht]; exact hP, hS.F ht⟩) hS.2.2 hdg hlocks
      · split at h
        · rename_i hz
          cases h
          refine W.zret (ty := .boolean) hx hb hr ?_ (fun t ht _ => ⟨some _, rfl, rfl, by rw [ht]; exact hP, hS.F ht⟩) hS.2.2 hdg hlocks
          rcases am_bool hz with hz | hz <;> rw [hz] <;> rfl
        · cases h
      · split at h
        · rename_i hz
          cases h
          exact W.zret (ty := .char) hx hb hr hz (fun t ht _ => ⟨some _, rfl, rfl, by rw [ht]; exact hP, hS.F ht⟩) hS.2.2 hdg hlocks
        · cases h
      · split at h
        · rename_i hz
          cases h
          exact W.zret (ty := .byte) hx hb hr hz (fun t ht _ => ⟨some _, rfl, rfl, by rw [ht]; exact hP, hS.F ht⟩) hS.2.2 hdg hlocks
        · cases h
      · cases h
    · split at h
      · rename_i h1
        cases h
        rw [h1] at hr
        exact W.lret hx hb hr (fun t ht _ => ⟨some _, rfl, rfl, by rw [ht]; exact hP, hS.F ht⟩) hS.2.2 hdg hlocks
      · cases h
    · rename_i z
      split at h
      · cases h
        have hv : am_c (am_cv base fo) (.inr (.inr z)) = .null ∨ ∃ y, am_c (am_cv base fo) (.inr (.inr z)) = .ref y := by
          cases z with
          | none => exact Or.inl rfl
          | some a => exact am_cvn hG a
        exact W.aret hx hb hr (Or.inl ⟨_, rfl⟩) hv (fun t ht _ => ⟨some _, rfl, rfl, by rw [ht]; exact hP, hS.F ht⟩) hS.2.2 hdg hlocks
      · cases h
    · cases h
  · cases h
end AMX
