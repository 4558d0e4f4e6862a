/-! Contracts over this world, and calls by them. -/
/-- a method's start: its arguments, the world -/
def PW (Z : Gm) (V : Nat → St) (av : List Value) : Array Value → State → Prop := fun a U => a = av.toArray ∧ va_P (gD Z) vwCl (bw Z V) U.heap ∧ va_K (gD Z) vwCl (gT Z) U
/-- the end of one that only reads -/
def QP (v : Option Value) : Array Value → State → Outcome → State → Prop := fun _ st o t => o = .returned v ∧ t.heap = st.heap
/-- the end of one that writes -/
def QX (Z : Gm) (v : Option Value) (V' : Nat → St) : Array Value → State → Outcome → State → Prop := fun _ st o t => o = .returned v ∧ va_P (gD Z) vwCl (bw Z V') t.heap ∧ va_F (inW Z) st t
theorem PW_blind (Z : Gm) (V : Nat → St) (av : List Value) : FrameBlind (PW Z V av) := fun a U g mk h => ⟨h.1, h.2.1, va_K.moved (u := U) (U := U.calling g mk a) (Vm.Alike.refl U.vm) h.2.2⟩
theorem PW_at {Z : Gm} {V : Nat → St} {s : State} {H : Heap} (hK : va_K (gD Z) vwCl (gT Z) s) (hP : va_P (gD Z) vwCl (bw Z V) H) (av : List Value) : ∀ U : State, U.heap = H → s.WarmedH U.vm → PW Z V av av.toArray U := fun _ hU hW => ⟨rfl, by rw [hU]; exact hP, va_K.moved hW.alike hK⟩
/-- what a call of y needs of the tables, whoever calls -/
def Card (y : MethodName) (bytes : ByteArray) (maxL : Nat) (ret : Option FieldType) (n : Nat) : Prop := Cond.code y bytes maxL ret ∈ gG ∧ Cond.initialized y.cls ∈ gG ∧ (y.cls ≠ "java/lang/invoke/MethodHandle" ∧ y.cls ≠ "java/lang/invoke/VarHandle") ∧ (parseMethodDescriptor y.desc).map (fun d => d.parameters.length) = some n
theorem gG_at {w : Cond} (h : w ∈ gG) : (w.onTables && w.keeps) = true ∨ ∃ ty, w = .arrayClass ty := good_of_word (List.all_eq_true.mp gG_good w h)
theorem gG_pay {s : State} {args : Array Value} (hts : ∀ w ∈ gG, w.before args s = true) {ws : List Cond} (h : ∀ w ∈ ws, w ∈ gG) : ∀ w ∈ ws, ∀ (a' : Array Value) (U : State), s.WarmedH U.vm → w.before a' U = true := fun w hw a' U hW => word_at hW (gG_at (h w hw)) (hts w (h w hw))
theorem gG_cons {c : Cond} (h : c ∈ gG) : ∀ w ∈ c :: gG, w ∈ gG := fun w hw => (List.mem_cons.mp hw).elim (fun e => e ▸ h) id
section CALLS
variable {p : Program} {l : Launch} {e : Env} {R : Room} {s : State} {m : MethodId} {args : Array Value} {below : List Frame} {meth : Method} {c : Code} {H : Heap} {locs : List Loc} {cells slots : Nat} {Q : State → Prop} {cc : ByteArray} {pc : Nat} {ls : Array Slot} {rest st : List Value} {Z : Gm} {V V' : Nat → St} {w k : Nat} {S : St} {own C : String} {index : Nat} {H0 : Heap} {y : MethodName} {bytes : ByteArray} {maxL n nL : Nat} {ret : Option FieldType} {rm : Room} {Pc : Array Value → State → Prop} {Qc : Array Value → State → Outcome → State → Prop} {free : Addr → Prop} {b : Addr} {As : List Value} {v : Option Value}
abbrev RmOk (rm R : Room) (maxL : Nat) : Prop := rm.cells = 0 ∧ rm.slots = 0 ∧ rm.frames + 1 ≤ R.frames ∧ 8 + (maxL + 11) + rm.locals ≤ R.locals
theorem cb_of (hts : ∀ w ∈ gG, w.before args s = true) (hc : Card y bytes maxL ret n) (hR : RmOk rm R maxL) (hlk : Cond.methodLink own index y ∈ gG) : CallB R s args own index y bytes maxL ret (.code y bytes maxL ret :: gG) rm 0 0 n := by
  refine ⟨hR.1, hR.2.1, hR.2.2.1, hR.2.2.2, gG_pay hts (gG_cons hc.1), List.mem_cons_self, hts _ hc.1, hts _ hc.2.1, hc.2.2.1, fun sig h => ?_, hts _ hlk⟩
  have h2 := hc.2.2.2
  rw [h] at h2
  exact (Option.some.inj h2).symm
theorem run_V (E : EE Z p s m args c cc own) (hml : c.maxLocals = nL) (hls : ls.size = nL) (hM : Met l y (.code y bytes maxL ret :: gG) rm (PW Z V (.ref b :: As)) Qc 0 0 free) (hc : Card y bytes maxL ret n) (hR : RmOk rm R maxL) (hlk : Cond.methodLink own index y ∈ gG) (hin : Cond.instanceMethod y ∈ gG) (hse : Cond.selects C y y ∈ gG) (hP : va_P (gD Z) vwCl (bw Z V) H)
    (hrv : ∃ cell : Cell, H[b]? = some cell ∧ cell.vm.isStatics = false ∧ s.vm.findClass C = some cell.cls) (hn : As.length = n) (hst : st = As.reverse ++ .ref b :: rest) (hrm : (rest.map fun v => v.category).sum ≤ 8) (hf : cells ≤ R.cells ∧ slots ≤ R.slots) (hdg : decode cc pc = .ok (.invokevirtual index, 3)) :
    va_Run p l e R s m args below meth c H locs cells slots 0 0 (F0 m pc ls st) rest (Qc (Value.ref b :: As).toArray) free :=
  va_runV ⟨E.1, E.2.1, hml, E.2.2.1, E.2.2.2.1⟩ hM ⟨cb_of E.2.2.2.1 hc hR hlk, E.2.2.2.1 _ hin, E.2.2.2.1 _ hse⟩ ⟨PW_blind Z V _, hrv, PW_at E.2.2.2.2 hP _⟩ rfl hn hls hst (lv_room (m := m) (pc := pc) (ls := ls) (rest := st) hrm) hdg hf
theorem run_S (E : EE Z p s m args c cc own) (hml : c.maxLocals = nL) (hls : ls.size = nL) (hM : Met l y (.code y bytes maxL ret :: gG) rm (PW Z V As) Qc 0 0 free) (hc : Card y bytes maxL ret n) (hR : RmOk rm R maxL) (hlk : Cond.methodLink own index y ∈ gG) (hse : Cond.static y ∈ gG) (hP : va_P (gD Z) vwCl (bw Z V) H)
    (hn : As.length = n) (hst : st = As.reverse ++ rest) (hrm : (rest.map fun v => v.category).sum ≤ 8) (hf : cells ≤ R.cells ∧ slots ≤ R.slots) (hdg : decode cc pc = .ok (.invokestatic index, 3)) :
    va_Run p l e R s m args below meth c H locs cells slots 0 0 (F0 m pc ls st) rest (Qc As.toArray) free :=
  va_runS ⟨E.1, E.2.1, hml, E.2.2.1, E.2.2.2.1⟩ hM ⟨cb_of E.2.2.2.1 hc hR hlk, E.2.2.2.1 _ hse⟩ ⟨PW_blind Z V _, PW_at E.2.2.2.2 hP _⟩ rfl hn hls hst (lv_room (m := m) (pc := pc) (ls := ls) (rest := st) hrm) hdg hf
/-- behind a call that only reads -/
theorem go_P {a : Array Value} (hr : va_Run p l e R s m args below meth c H locs cells slots 0 0 (F0 m pc ls st) rest (QP v a) (fun _ => False))
    (kk : W p l e R s m args below meth c H locs cells slots Q (F0 m (pc + 3) ls (v.toList ++ rest))) : W p l e R s m args below meth c H locs cells slots Q (F0 m pc ls st) := by
  intro T hT X
  obtain ⟨v1, st₀, t, T', L, h0, X', hL, e1, -, ⟨hv, hh⟩, sg⟩ := hr T hT X
  cases hv
  obtain ⟨t2, a1, b1⟩ := kk T' (by rw [e1, hh, h0]) (Stand.forget X' (fun q h => (hL q h).elim))
  exact ⟨t2, sg t2 a1, b1⟩
/-- behind a call that writes -/
theorem go_X {a : Array Value} (hr : va_Run p l e R s m args below meth c H locs cells slots 0 0 (F0 m pc ls st) rest (QX Z v V' a) (inW Z)) (hS : va_S (inW Z) H0 H locs)
    (kk : ∀ (H1 : Heap) (locs1 : List Loc), va_P (gD Z) vwCl (bw Z V') H1 → va_S (inW Z) H0 H1 locs1 → W p l e R s m args below meth c H1 locs1 cells slots Q (F0 m (pc + 3) ls (v.toList ++ rest))) : W p l e R s m args below meth c H locs cells slots Q (F0 m pc ls st) := by
  intro T hT X
  obtain ⟨v1, st₀, t, T', L, h0, X', hL, e1, -, ⟨hv, hp, hz, hk⟩, sg⟩ := hr T hT X
  cases hv
  rw [h0] at hz hk
  obtain ⟨t2, a1, b1⟩ := kk T'.heap (locs ++ L) (by rw [e1]; exact hp) ⟨Nat.le_trans hS.1 (by rw [e1]; exact hz), fun q h1 h2 => by rw [e1, hk q (Nat.lt_of_lt_of_le h1 hS.1) h2]; exact hS.2.1 q h1 h2, fun q hq => by
      rcases List.mem_append.mp hq with h | h
      · exact hS.2.2 q h
      · exact hL q h⟩ T' rfl X'
  exact ⟨t2, sg t2 a1, b1⟩
-- receivers
theorem rv_bay (E : EE Z p s m args c cc own) (hP : va_P (gD Z) vwCl (bw Z V) H) : ∃ cell : Cell, H[ad Z 0]? = some cell ∧ cell.vm.isStatics = false ∧ s.vm.findClass RX4 = some cell.cls := va_recv E.2.2.2.2 hP (ci := 4) (q := (RX4, TX4, 2)) rfl at_bay
theorem rv_ln (E : EE Z p s m args c cc own) (hP : va_P (gD Z) vwCl (bw Z V) H) (hw : w < 2) : ∃ cell : Cell, H[ad Z (cLn w)]? = some cell ∧ cell.vm.isStatics = false ∧ s.vm.findClass RX1 = some cell.cls := va_recv E.2.2.2.2 hP (ci := 1) (q := (RX1, TX1, 10)) rfl (at_ln rfl hw)
theorem rv_bk (E : EE Z p s m args c cc own) (hP : va_P (gD Z) vwCl (bw Z V) H) (hw : w < 2) (hk : k < 16) : ∃ cell : Cell, H[ad Z (cBk w k)]? = some cell ∧ cell.vm.isStatics = false ∧ s.vm.findClass RX0 = some cell.cls := va_recv E.2.2.2.2 hP (ci := 0) (q := (RX0, TX0, 4)) rfl (at_bk rfl hw hk)
theorem rv_rt (E : EE Z p s m args c cc own) (hP : va_P (gD Z) vwCl (bw Z V) H) (hw : w < 2) (hk : k < 16) : ∃ cell : Cell, H[ad Z (cRt w k)]? = some cell ∧ cell.vm.isStatics = false ∧ s.vm.findClass RX2 = some cell.cls := va_recv E.2.2.2.2 hP (ci := 2) (q := (RX2, TX2, 5)) rfl (at_rt rfl hw hk)
theorem rv_tr (E : EE Z p s m args c cc own) (hP : va_P (gD Z) vwCl (bw Z V) H) (hw : w < 2) (hk : k < 8) : ∃ cell : Cell, H[ad Z (cTr w k)]? = some cell ∧ cell.vm.isStatics = false ∧ s.vm.findClass RX3 = some cell.cls := va_recv E.2.2.2.2 hP (ci := 3) (q := (RX3, TX3, 16)) rfl (at_tr rfl hw hk)
/-- a method's body, from its start -/
theorem met_of {av : List Value} (hy : plainName y.cls = true) (hsz : (lg_sl av).length ≤ maxL)
    (body : ∀ (p : Program) (e : Env) (s : State) (m : MethodId) (args : Array Value) (below : List Frame) (meth : Method) (c : Code) (ls : Array Slot), EE Z p s m args c cc y.cls → meth.sig.returnType = ret → meth.locks = false → c.maxLocals = maxL → va_P (gD Z) vwCl (bw Z V) s.heap → lv_has ls maxL (lv_args 0 av) → W p l e rm s m args below meth c s.heap [] 0 0 (MQ below Qc args s 0 0 free) (F0 m 0 ls [])) :
    Met l y (.code y cc maxL ret :: gG) rm (PW Z V av) Qc 0 0 free := by
  refine Met.ofW (cc := cc) (maxL := maxL) (ret := ret) hy rfl ?_
  intro p e s m args below meth c s₁ B hml hv
  obtain ⟨rfl, hP, hK⟩ := hv
  have hts := atoms_spec (ws := .code y cc maxL ret :: gG) B.pre
  have hl := lv_entry av (n := maxL) hsz
  rw [lg_entry_eq]
  exact body p e s m _ below meth c _ ⟨B.exec, B.bytes, findClass_of_methodNamed B.named, fun w hw => hts w (List.mem_cons_of_mem _ hw), hK⟩ B.returns B.notSynchronized hml hP hl
-- the ends
theorem e_iP (E : EE Z p s m args c cc own) (hr : meth.sig.returnType = some .int) (hlk : meth.locks = false) {x r : Int32} (hx : x = r) (hdg : decode cc pc = .ok (.ireturn, 1)) : W p l e R s m args below meth c s.heap [] 0 0 (MQ below (QP (some (.int r))) args s 0 0 (fun _ => False)) (F0 m pc ls [.int x]) := by
  subst hx
  exact W.iret E.1 E.2.1 hr (fun t ht _ => ⟨rfl, ht⟩) (fun q h => by cases h) hdg (hlocks := hlk)
theorem e_zP (E : EE Z p s m args c cc own) (hr : meth.sig.returnType = some .boolean) (hlk : meth.locks = false) {x r : Int32} (hx : x = r) (h01 : x = 0 ∨ x = 1) (hdg : decode cc pc = .ok (.ireturn, 1)) : W p l e R s m args below meth c s.heap [] 0 0 (MQ below (QP (some (.int r))) args s 0 0 (fun _ => False)) (F0 m pc ls [.int x]) := by
  subst hx
  exact W.zret (ty := .boolean) E.1 E.2.1 hr (by rcases h01 with rfl | rfl <;> rfl) (fun t ht _ => ⟨rfl, ht⟩) (fun q h => by cases h) hdg (hlocks := hlk)
theorem e_lP (E : EE Z p s m args c cc own) (hr : meth.sig.returnType = some .long) (hlk : meth.locks = false) {x r : Int64} (hx : x = r) (hdg : decode cc pc = .ok (.lreturn, 1)) : W p l e R s m args below meth c s.heap [] 0 0 (MQ below (QP (some (.long r))) args s 0 0 (fun _ => False)) (F0 m pc ls [.long x]) := by
  subst hx
  exact W.lret E.1 E.2.1 hr (fun t ht _ => ⟨rfl, ht⟩) (fun q h => by cases h) hdg (hlocks := hlk)
theorem e_vP (E : EE Z p s m args c cc own) (hr : meth.sig.returnType = none) (hlk : meth.locks = false) (hdg : decode cc pc = .ok (.return_, 1)) : W p l e R s m args below meth c s.heap [] 0 0 (MQ below (QP none) args s 0 0 (fun _ => False)) (F0 m pc ls []) :=
  W.vret E.1 E.2.1 hr (fun t ht _ => ⟨rfl, ht⟩) (fun q h => by cases h) hdg (hlocks := hlk)
theorem e_vX (E : EE Z p s m args c cc own) (hr : meth.sig.returnType = none) (hlk : meth.locks = false) (hP : va_P (gD Z) vwCl (bw Z V) H) (hS : va_S (inW Z) s.heap H locs) (hV' : V = V') (hdg : decode cc pc = .ok (.return_, 1)) : W p l e R s m args below meth c H locs 0 0 (MQ below (QX Z none V') args s 0 0 (inW Z)) (F0 m pc ls []) := by
  subst hV'
  exact W.vret E.1 E.2.1 hr (fun t ht _ => ⟨rfl, by rw [ht]; exact hP, hS.F ht⟩) hS.2.2 hdg (hlocks := hlk)
theorem e_iX (E : EE Z p s m args c cc own) (hr : meth.sig.returnType = some .int) (hlk : meth.locks = false) (hP : va_P (gD Z) vwCl (bw Z V) H) (hS : va_S (inW Z) s.heap H locs) (hV' : V = V') {x r : Int32} (hx : x = r) (hdg : decode cc pc = .ok (.ireturn, 1)) : W p l e R s m args below meth c H locs 0 0 (MQ below (QX Z (some (.int r)) V') args s 0 0 (inW Z)) (F0 m pc ls [.int x]) := by
  subst hV'
  subst hx
  exact W.iret E.1 E.2.1 hr (fun t ht _ => ⟨rfl, by rw [ht]; exact hP, hS.F ht⟩) hS.2.2 hdg (hlocks := hlk)
end CALLS
section CALLS2
variable {p : Program} {l : Launch} {e : Env} {R : Room} {s : State} {m : MethodId} {args : Array Value} {below : List Frame} {meth : Method} {c : Code} {H : Heap} {locs : List Loc} {cells slots : Nat} {Q : State → Prop} {pc : Nat} {ls : Array Slot} {rest st : List Value} {Z : Gm} {V V' : Nat → St} {H0 : Heap} {a : Array Value}
theorem go_Pi {r : Int32} (hr : va_Run p l e R s m args below meth c H locs cells slots 0 0 (F0 m pc ls st) rest (QP (some (.int r)) a) (fun _ => False)) (kk : W p l e R s m args below meth c H locs cells slots Q (F0 m (pc + 3) ls (.int r :: rest))) : W p l e R s m args below meth c H locs cells slots Q (F0 m pc ls st) := go_P hr kk
theorem go_Pl {r : Int64} (hr : va_Run p l e R s m args below meth c H locs cells slots 0 0 (F0 m pc ls st) rest (QP (some (.long r)) a) (fun _ => False)) (kk : W p l e R s m args below meth c H locs cells slots Q (F0 m (pc + 3) ls (.long r :: rest))) : W p l e R s m args below meth c H locs cells slots Q (F0 m pc ls st) := go_P hr kk
theorem go_Pv (hr : va_Run p l e R s m args below meth c H locs cells slots 0 0 (F0 m pc ls st) rest (QP none a) (fun _ => False)) (kk : W p l e R s m args below meth c H locs cells slots Q (F0 m (pc + 3) ls rest)) : W p l e R s m args below meth c H locs cells slots Q (F0 m pc ls st) := go_P hr kk
theorem go_Xv (hr : va_Run p l e R s m args below meth c H locs cells slots 0 0 (F0 m pc ls st) rest (QX Z none V' a) (inW Z)) (hS : va_S (inW Z) H0 H locs)
    (kk : ∀ (H1 : Heap) (locs1 : List Loc), va_P (gD Z) vwCl (bw Z V') H1 → va_S (inW Z) H0 H1 locs1 → W p l e R s m args below meth c H1 locs1 cells slots Q (F0 m (pc + 3) ls rest)) : W p l e R s m args below meth c H locs cells slots Q (F0 m pc ls st) := go_X hr hS kk
theorem go_Xi {r : Int32} (hr : va_Run p l e R s m args below meth c H locs cells slots 0 0 (F0 m pc ls st) rest (QX Z (some (.int r)) V' a) (inW Z)) (hS : va_S (inW Z) H0 H locs)
    (kk : ∀ (H1 : Heap) (locs1 : List Loc), va_P (gD Z) vwCl (bw Z V') H1 → va_S (inW Z) H0 H1 locs1 → W p l e R s m args below meth c H1 locs1 cells slots Q (F0 m (pc + 3) ls (.int r :: rest))) : W p l e R s m args below meth c H locs cells slots Q (F0 m pc ls st) := go_X hr hS kk
end CALLS2
-- numbers
def b2i (b : Bool) : Int32 := if b = true then 1 else 0
theorem b2i_01 (b : Bool) : b2i b = 0 ∨ b2i b = 1 := by cases b; exact Or.inl rfl; exact Or.inr rfl
theorem b2i_t {b : Bool} (h : ¬ b2i b = 0) : b = true := by cases b; exact absurd rfl h; rfl
theorem b2i_f {b : Bool} (h : b2i b = 0) : b = false := by cases b; rfl; exact absurd h (by decide)
theorem b2i_true : b2i true = 1 := rfl
theorem b2i_false : b2i false = 0 := rfl
theorem vp_lt {x : Int32} {n : Nat} (h : vp_in x n) : x.toNatClampNeg < n := Nat.not_le.mp fun q => h (Or.inr q)
theorem vin {x N : Int32} {n : Nat} (h0 : ¬ x < 0) (h1 : ¬ N ≤ x) (hN : N.toInt ≤ n) : vp_in x n := by
  rw [vp_in_iff]
  have a1 : ¬ x.toInt < (0 : Int32).toInt := fun q => h0 (Int32.lt_iff_toInt_lt.mpr q)
  have a2 : ¬ N.toInt ≤ x.toInt := fun q => h1 (Int32.le_iff_toInt_le.mpr q)
  have a3 : (0 : Int32).toInt = 0 := rfl
  omega
theorem clampI (x : Int32) : (x.toNatClampNeg : Int) = if x.toInt < 0 then 0 else x.toInt := by
  show ((x.toInt.toNat : Nat) : Int) = _
  split <;> omega
theorem clamp_le {x : Int32} {n : Nat} (h : x.toNatClampNeg ≤ n) : x.toInt ≤ n := by
  have := clampI x
  split at this <;> omega
theorem clamp_lt31 (x : Int32) : x.toNatClampNeg < 2 ^ 31 := by
  have h := clampI x
  have h2 := Int32.toInt_lt x
  split at h <;> omega
/-- a loop's test: a counter against a bound that is any number -/
theorem le_nI {x : Int32} {i : Nat} (hi : i < 2 ^ 31) : x ≤ nI i ↔ x.toNatClampNeg ≤ i := by
  rw [Int32.le_iff_toInt_le, nI_toInt hi]
  have h := clampI x
  split at h <;> omega
theorem nI_lt0 {i : Nat} (hi : i < 2 ^ 31) : ¬ nI i < 0 := nI_pos hi
theorem nI_ne_m1 {i : Nat} (hi : i < 2 ^ 31) : nI i ≠ -1 := fun h => by
  have h1 := nI_toInt hi
  rw [h] at h1
  have h2 : (-1 : Int32).toInt = -1 := rfl
  omega
theorem nI_inj {a b : Nat} (ha : a < 2 ^ 31) (hb : b < 2 ^ 31) (h : nI a = nI b) : a = b := (nI_eq ha hb).mp h
theorem nI_of_in {x : Int32} {n : Nat} (hn : n ≤ 2 ^ 31) (h : vp_in x n) : x = nI x.toNatClampNeg := by
  obtain ⟨h0, h1⟩ := vp_in_iff.mp h
  have h2 := clampI x
  rw [if_neg (by omega)] at h2
  apply Int32.toInt_inj.mp
  rw [nI_toInt (by omega)]
  exact h2.symm
