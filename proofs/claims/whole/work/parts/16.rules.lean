/-! THE CELLS THAT THE LAW HAS MADE, and rules over them -/
def am_SH : List (Nat × Nat) := [(0, 12), (102, 900), (7, 12), (100, 12), (100, 12), (100, 12), (100, 12), (7, 12), (100, 12), (100, 12), (100, 12), (100, 12), (200, 2), (103, 2), (201, 4), (7, 12), (100, 12), (100, 12), (100, 12), (100, 12), (7, 12), (100, 12), (100, 12), (100, 12), (100, 12), (6, 3), (101, 40), (6, 3), (101, 40), (6, 3), (101, 40), (6, 3), (101, 40), (5, 9), (2, 12), (100, 96), (100, 12), (100, 96), (100, 10), (100, 120), (100, 1024), (101, 256), (103, 4096), (3, 7), (100, 5), (100, 8192), (1, 4), (100, 12), (100, 10), (4, 5), (100, 8), (100, 8), (100, 2048), (8, 40), (100, 168), (103, 2), (100, 900), (100, 56), (100, 56), (100, 4096), (100, 256), (103, 4096), (100, 1024), (100, 5), (100, 5), (100, 5), (102, 134456), (103, 16807), (103, 16807), (100, 12), (100, 45056), (100, 12), (100, 12), (100, 4), (100, 4), (101, 160)]
def am_rfL : List ((Nat × Nat) × Nat) := [((0,0),1), ((0,2),2), ((0,3),7), ((0,4),12), ((0,5),13), ((0,6),14), ((0,7),33), ((0,8),34), ((0,9),43), ((0,10),46), ((0,11),49), ((2,0),3), ((2,1),4), ((2,2),5), ((2,3),6), ((7,0),8), ((7,1),9), ((7,2),10), ((7,3),11), ((12,0),15), ((12,1),20), ((14,0),25), ((14,1),27), ((14,2),29), ((14,3),31), ((15,0),16), ((15,1),17), ((15,2),18), ((15,3),19), ((20,0),21), ((20,1),22), ((20,2),23), ((20,3),24), ((25,0),26), ((27,0),28), ((29,0),30), ((31,0),32), ((33,0),1), ((33,1),7), ((34,0),2), ((34,1),35), ((34,2),36), ((34,3),37), ((34,4),38), ((34,5),39), ((34,6),40), ((34,7),41), ((34,8),42), ((43,0),2), ((43,1),44), ((43,2),45), ((46,0),2), ((46,1),47), ((46,2),48), ((49,0),2), ((49,1),50), ((49,2),51), ((49,3),52), ((53,1),54), ((53,2),55), ((53,3),56), ((53,4),57), ((53,15),58), ((53,18),59), ((53,20),60), ((53,22),61), ((53,23),62), ((53,24),63), ((53,25),64), ((53,26),65), ((53,28),66), ((53,29),67), ((53,30),68), ((53,31),69), ((53,32),70), ((53,33),71), ((53,34),72), ((53,37),73), ((53,38),74), ((53,39),75)]
def am_RF (a k : Nat) : Option Nat := am_look am_rfL a k
abbrev am_M : Type := Nat → Nat → Int
def st0 (m : am_M) : am_S := (am_SH, am_RF, m)
def mu (m : am_M) (r k : Nat) (z : Int) : am_M := fun a j => if a = r ∧ j = k then z else m a j
def am_gf (cn x r : Nat) : Option (Nat ⊕ Nat) := match am_look am_pfL cn x, am_SH[r]? with
  | some f, some sh => if sh.1 = f.1 ∧ f.2 < sh.2 then (if am_fk f.1 f.2 = 2 then (am_look am_rfL r f.2).map .inr else some (.inl f.2)) else none
  | _, _ => none
/-- a field that may be written: its place, and whether it holds a truth -/
def am_pu (cn x r : Nat) : Option (Nat × Bool) := match am_look am_pfL cn x, am_SH[r]? with
  | some f, some sh => if sh.1 = f.1 ∧ f.2 < sh.2 ∧ am_fin f.1 f.2 = false then (if am_fk f.1 f.2 = 0 then some (f.2, false) else if am_fk f.1 f.2 = 1 then some (f.2, true) else none) else none
  | _, _ => none
def am_and (a b : Int) : Int := (Int32.ofInt a &&& Int32.ofInt b).toInt
def am_or (a b : Int) : Int := (Int32.ofInt a ||| Int32.ofInt b).toInt
def am_xor (a b : Int) : Int := (Int32.ofInt a ^^^ Int32.ofInt b).toInt
def am_shl (a b : Int) : Int := (Int32.ofInt a <<< (Int32.ofInt b &&& 31)).toInt
def am_shr (a b : Int) : Int := (Int32.ofInt a >>> (Int32.ofInt b &&& 31)).toInt
def am_ushr (a b : Int) : Int := ((Int32.ofInt a).toUInt32 >>> ((Int32.ofInt b).toUInt32 &&& Int32.toUInt32 31)).toInt32.toInt
def am_div (a b : Int) : Int := (Int32.ofInt a / Int32.ofInt b).toInt
def am_rem (a b : Int) : Int := (Int32.ofInt a - Int32.ofInt a / Int32.ofInt b * Int32.ofInt b).toInt
def am_landL (a b : Int) : Int := (Int64.ofInt a &&& Int64.ofInt b).toInt
def am_lorL (a b : Int) : Int := (Int64.ofInt a ||| Int64.ofInt b).toInt
def am_lxorL (a b : Int) : Int := (Int64.ofInt a ^^^ Int64.ofInt b).toInt
def am_shlL (a b : Int) : Int := (Int64.ofInt a <<< ((Int32.ofInt b).toInt64 &&& 63)).toInt
def am_shrL (a b : Int) : Int := (Int64.ofInt a >>> ((Int32.ofInt b).toInt64 &&& 63)).toInt
def am_ushrL (a b : Int) : Int := ((Int64.ofInt a).toUInt64 >>> ((Int32.ofInt b).toInt64.toUInt64 &&& Int64.toUInt64 63)).toInt64.toInt
def am_b8 (a : Int) : Int := (Int32.ofInt a).toInt8.toInt32.toInt
def am_b16 (a : Int) : Int := (Int32.ofInt a).toInt16.toInt32.toInt
def am_c16 (a : Int) : Int := ((Int32.ofInt a).toUInt32 % 65536).toInt32.toInt
def am_b1 (a : Int) : Int := (Int32.ofInt a &&& 1).toInt
theorem am_s0 : am_s 0 = 0 := rfl
section RR
variable {fx : am_X0} {d mi pc pc' : Nat} {cr : Nat × Nat} {ls ls' : am_Ls} {st : List am_V} {S : am_S} {o : List am_V × am_S} {M : am_MT} {i : Instr} {len : Nat} {m : am_M}
theorem am_k_ret {cn : Nat} {v : am_V} {rt : Option FieldType} (h : am_k cn i len = some v) : am_ret rt i len st = none := by
  unfold am_k at h
  split at h <;> first | cases h | (unfold am_ret; split <;> rfl)
theorem r_k {v : am_V} (hM : am_ms[mi]? = some M) (hd : decode M.2.2.1 pc = .ok (i, len)) (hp : pc + len = pc') (hk : am_k M.1 i len = some v) (k : rn fx d cr mi pc' ls (v :: st) S o) : rn fx d cr mi pc ls st S o := by
  refine rn_stp hM hd (am_k_ret hk) (q := (pc + len, ls, v :: st, S, cr)) ?_ (by rw [hp]; exact k)
  unfold am_stp
  rw [hk]
theorem am_ld_k {v : am_V} {cn : Nat} {rt : Option FieldType} (h : am_ld i len ls = some v) : am_k cn i len = none ∧ am_ret rt i len st = none := by
  unfold am_ld at h
  split at h <;> first | (cases h; done) | exact ⟨rfl, by unfold am_ret; split <;> rfl⟩
theorem r_ld {v : am_V} (hM : am_ms[mi]? = some M) (hd : decode M.2.2.1 pc = .ok (i, len)) (hp : pc + len = pc') (hk : am_ld i len ls = some v) (k : rn fx d cr mi pc' ls (v :: st) S o) : rn fx d cr mi pc ls st S o := by
  refine rn_stp hM hd (am_ld_k (cn := M.1) hk).2 (q := (pc + len, ls, v :: st, S, cr)) ?_ (by rw [hp]; exact k)
  unfold am_stp
  rw [(am_ld_k (cn := M.1) (st := st) (rt := none) hk).1, hk]
theorem am_sto_k {nL cn : Nat} {rt : Option FieldType} {q : am_Ls × List am_V} (h : am_sto nL i len ls st = some q) : am_k cn i len = none ∧ am_ld i len ls = none ∧ am_ret rt i len st = none := by
  unfold am_sto at h
  split at h <;> first | (cases h; done) | exact ⟨rfl, rfl, by unfold am_ret; split <;> rfl⟩
theorem r_sto {st' : List am_V} (hM : am_ms[mi]? = some M) (hd : decode M.2.2.1 pc = .ok (i, len)) (hp : pc + len = pc') (hk : am_sto M.2.2.2.1 i len ls st = some (ls', st')) (k : rn fx d cr mi pc' ls' st' S o) : rn fx d cr mi pc ls st S o := by
  obtain ⟨h1, h2, h3⟩ := am_sto_k (cn := M.1) (rt := M.2.2.2.2.1) hk
  refine rn_stp hM hd h3 (q := (pc + len, ls', st', S, cr)) ?_ (by rw [hp]; exact k)
  unfold am_stp
  rw [h1, h2, hk]
theorem am_stk_k {nL cn : Nat} {rt : Option FieldType} {q : List am_V} (h : am_stk i st = some q) : am_k cn i 1 = none ∧ am_ld i 1 ls = none ∧ am_sto nL i 1 ls st = none ∧ am_ret rt i 1 st = none := by
  cases i <;> first | exact ⟨rfl, rfl, rfl, rfl⟩ | (exfalso; revert h; unfold am_stk; intro h; split at h <;> first | (cases h; done) | (simp [am_b2, am_u1, am_l2, am_lsh] at h; done) | contradiction)
theorem r_stk {st' : List am_V} (hM : am_ms[mi]? = some M) (hd : decode M.2.2.1 pc = .ok (i, 1)) (hp : pc + 1 = pc') (hk : am_stk i st = some st') (k : rn fx d cr mi pc' ls st' S o) : rn fx d cr mi pc ls st S o := by
  obtain ⟨h1, h2, h3, h4⟩ := am_stk_k (cn := M.1) (nL := M.2.2.2.1) (rt := M.2.2.2.2.1) (ls := ls) hk
  refine rn_stp hM hd h4 (q := (pc + 1, ls, st', S, cr)) ?_ (by rw [hp]; exact k)
  unfold am_stp
  rw [h1, h2, h3, if_pos rfl, hk]
theorem am_br_k {nL cn : Nat} {rt : Option FieldType} {q : Nat × List am_V} (h : am_br i len pc st = some q) : am_k cn i len = none ∧ am_ld i len ls = none ∧ am_sto nL i len ls st = none ∧ am_stk i st = none ∧ am_ret rt i len st = none := by
  unfold am_br at h
  split at h <;> first | (cases h; done) | (refine ⟨rfl, rfl, rfl, ?_, by unfold am_ret; split <;> rfl⟩; unfold am_stk; split <;> first | rfl | contradiction | (simp [am_b2, am_u1, am_l2, am_lsh] at *; done) | (simp [am_b2, am_u1, am_l2, am_lsh]; done))
theorem r_br {st' : List am_V} (hM : am_ms[mi]? = some M) (hd : decode M.2.2.1 pc = .ok (i, len)) (hk : am_br i len pc st = some (pc', st')) (k : rn fx d cr mi pc' ls st' S o) : rn fx d cr mi pc ls st S o := by
  obtain ⟨h1, h2, h3, h4, h5⟩ := am_br_k (cn := M.1) (nL := M.2.2.2.1) (rt := M.2.2.2.2.1) (ls := ls) hk
  refine rn_stp hM hd h5 (q := (pc', ls, st', S, cr)) ?_ k
  unfold am_stp
  rw [h1, h2, h3, h4, hk]
  simp
theorem am_hp_k {nL cn : Nat} {ini : Bool} {rt : Option FieldType} {q : Nat × List am_V × am_S × (Nat × Nat)} (h : am_hp fx cn ini i st S cr = some q) : am_ret rt i len st = none ∧ (am_k cn i len = none ∧ am_ld i len ls = none ∧ am_sto nL i len ls st = none ∧ am_stk i st = none ∧ am_br i len pc st = none) := by
  unfold am_hp at h
  split at h <;> first | (cases h; done) | (refine ⟨by unfold am_ret; split <;> rfl, rfl, rfl, rfl, ?_, rfl⟩; unfold am_stk; split <;> first | rfl | contradiction | (simp [am_b2, am_u1, am_l2, am_lsh] at *; done) | (simp [am_b2, am_u1, am_l2, am_lsh]; done))
theorem r_hp {st' : List am_V} {S' : am_S} (hM : am_ms[mi]? = some M) (hd : decode M.2.2.1 pc = .ok (i, len)) (hp : pc + len = pc') (hk : am_hp fx M.1 M.2.2.2.2.2.1 i st S cr = some (len, st', S', cr)) (k : rn fx d cr mi pc' ls st' S' o) : rn fx d cr mi pc ls st S o := by
  obtain ⟨h0, h1, h2, h3, h4, h5⟩ := am_hp_k (pc := pc) (len := len) (nL := M.2.2.2.1) (rt := M.2.2.2.2.1) (ls := ls) hk
  refine rn_stp hM hd h0 (q := (pc + len, ls, st', S', cr)) ?_ (by rw [hp]; exact k)
  unfold am_stp
  rw [h1, h2, h3, h4, h5, hk]
  simp
end RR
