/-! Constructors: the cells come one behind the other. -/
def initS : St := fun f _ j => if f = 0 then (if j < 6 then 2 else 0) else if f = 8 then 2 else if f = 11 ∨ f = 12 ∨ f = 36 ∨ f = 38 ∨ f = 44 then -1 else 0
def Ext (U : State) : Prop := va_Nw (.methodLinkNest RX1 37 yX0_init RX4) U ∧ va_Nw (.methodLinkNest RX1 38 yX2_init RX4) U ∧ va_Nw (.methodLinkNest RX1 39 yX3_init RX4) U ∧ va_AO RX0 U ∧ va_AO RX2 U ∧ va_AO RX3 U
theorem Ext.warm {s U : State} (hW : s.WarmedH U.vm) (h : Ext s) : Ext U := ⟨va_Nw.warmM hW h.1, va_Nw.warmM hW h.2.1, va_Nw.warmM hW h.2.2.1, h.2.2.2.1.moved hW.alike, h.2.2.2.2.1.moved hW.alike, h.2.2.2.2.2.moved hW.alike⟩
theorem Ext.same {s U : State} (hv : s.vm = U.vm) (h : Ext s) : Ext U := ⟨va_Nw.same rfl hv h.1, va_Nw.same rfl hv h.2.1, va_Nw.same rfl hv h.2.2.1, h.2.2.2.1.moved (hv ▸ Vm.Alike.refl _), h.2.2.2.2.1.moved (hv ▸ Vm.Alike.refl _), h.2.2.2.2.2.moved (hv ▸ Vm.Alike.refl _)⟩
def PI (Z : Gm) (ws : va_W) (sz : Nat) (av : List Value) : Array Value → State → Prop := fun a U => a = av.toArray ∧ U.heap.size = sz ∧ va_P (gD Z) vwCl ws U.heap ∧ va_K (gD Z) vwCl (gT Z) U ∧ Ext U
def QI (Z : Gm) (ws : va_W) (sz q : Nat) : Array Value → State → Outcome → State → Prop := fun _ st o t => o = .returned none ∧ t.heap.size = sz ∧ va_P (gD Z) vwCl ws t.heap ∧ ∀ x : Nat, x < q → t.heap[x]? = st.heap[x]?
theorem PI_blind (Z : Gm) (ws : va_W) (sz : Nat) (av : List Value) : FrameBlind (PI Z ws sz av) := fun a U g mk h => ⟨h.1, h.2.1, h.2.2.1, va_K.moved (u := U) (U := U.calling g mk a) (Vm.Alike.refl U.vm) h.2.2.2.1, Ext.same (s := U) (U := U.calling g mk a) rfl h.2.2.2.2⟩
theorem PI_at {Z : Gm} {ws : va_W} {sz : Nat} {s : State} {H : Heap} (hK : va_K (gD Z) vwCl (gT Z) s) (hX : Ext s) (hz : H.size = sz) (hP : va_P (gD Z) vwCl ws H) (av : List Value) : ∀ U : State, U.heap = H → s.WarmedH U.vm → PI Z ws sz av av.toArray U := fun _ hU hW => ⟨rfl, by rw [hU]; exact hz, by rw [hU]; exact hP, va_K.moved hW.alike hK, hX.warm hW⟩
section MAKE
variable {p : Program} {l : Launch} {e : Env} {R : Room} {s : State} {m : MethodId} {args : Array Value} {below : List Frame} {meth : Method} {c : Code} {H : Heap} {locs : List Loc} {cells slots : Nat} {Q : State → Prop} {cc : ByteArray} {pc : Nat} {ls : Array Slot} {rest st : List Value} {Z : Gm} {own C : String} {index : Nat} {H0 : Heap} {y : MethodName} {bytes : ByteArray} {maxL n nL : Nat} {rm : Room} {A : Nat → Prop} {ws : va_W} {mc ms q : Nat}
theorem n_obj (E : EE Z p s m args c cc own) (hP : va_P (gD Z) vwCl ws H) (hS : va_S A H0 H locs) {ci : Nat} {T : u_T} {N : Nat} (hc : vwCl[ci]? = some (C, T, N)) (hin : ∀ w ∈ u_ws C T N, w ∈ gG) (ty : Nat → FieldType) (hty : ∀ k, k < N → parseFieldDescriptor (T k).2.2.1 = some (ty k)) (hcl : Cond.classLink own index C ∈ gG) (hi : Cond.instantiable C N ∈ gG) (hini : Cond.initialized C ∈ gG) {fs : List Value} (hfs : ∀ j, j < N → defaultValue (ty j) = vp_V fs j) (hcells : cells + 1 ≤ R.cells) (hslots : slots + N ≤ R.slots) (hdg : decode cc pc = .ok (.new index, 3)) {h : Nat} (hh : H.size = h)
    (kk : ∀ H1 : Heap, H1.size = h + 1 → va_P (gD Z) vwCl (ws ++ [(h, .inr (ci, fs))]) H1 → va_S A H0 H1 locs → W p l e R s m args below meth c H1 locs (cells + 1) (slots + N) Q (F0 m (pc + 3) ls (.ref h :: rest))) : W p l e R s m args below meth c H locs cells slots Q (F0 m pc ls rest) := by
  have hKn := E.2.2.2.2.1 ci _ hc
  refine W.newcK E.1 E.2.1 E.2.2.1 (E.2.2.2.1 _ hcl) (E.2.2.2.1 _ hi) (E.2.2.2.1 _ hini) rfl hdg hcells hslots hKn.2.1 hh fun H1 kC hkC e1 z1 o1 => ?_
  refine kk H1 z1 ((hP.kept fun k x hx => o1 x.1 (hh ▸ (hP k x hx).lt)).app (fun k x hx => ?_)) ⟨Nat.le_trans hS.1 (by omega), fun x h1 h2 => (o1 x (hh ▸ Nat.lt_of_lt_of_le h1 hS.1)).trans (hS.2.1 x h1 h2), hS.2.2⟩
  have hz : k < 1 := (List.getElem?_eq_some_iff.mp hx).1
  rw [show k = 0 by omega] at hx
  cases hx
  exact ⟨_, hc, (u_born ty E.2.2.2.1 hin hKn hkC e1 hty).to hfs⟩
theorem n_int (E : EE Z p s m args c cc own) (hP : va_P (gD Z) vwCl ws H) (hS : va_S A H0 H locs) (harr : Cond.arrayClass .int ∈ gG) {N : Int32} (hn : ¬ N < 0) (hN : N.toNatClampNeg = n) (hbytes : n * 4 ≤ 536870912) (hcells : cells + 1 ≤ R.cells) (hslots : slots + n ≤ R.slots) (hdg : decode cc pc = .ok (.newarray .int, 2)) {h : Nat} (hh : H.size = h)
    (kk : ∀ H1 : Heap, H1.size = h + 1 → va_P (gD Z) vwCl (ws ++ [(h, .inl (Z.2.2.1, n, .inl (fun _ => 0)))]) H1 → va_S A H0 H1 locs → W p l e R s m args below meth c H1 locs (cells + 1) (slots + n) Q (F0 m (pc + 2) ls (.ref h :: rest))) : W p l e R s m args below meth c H locs cells slots Q (F0 m pc ls (.int N :: rest)) := by
  subst hN
  subst hh
  refine W.newa (atype := .int) E.1 E.2.1 (E.2.2.2.1 _ harr) rfl hdg rfl hn hbytes hcells hslots fun cA kA comp h1 h2 h3 => ?_
  have hcA : cA = Z.2.2.1 := Option.some.inj (h1.symm.trans (E.2.2.2.2.2 0 (Z.2.2.1, .int) rfl).2)
  subst hcA
  generalize hH1 : H.push ({ cls := Z.2.2.1, slots := Array.replicate N.toNatClampNeg (defaultValue (newarray.typeOf .int)), vm := .none } : Cell) = H1
  have z1 : H1.size = H.size + 1 := by rw [← hH1, Array.size_push]
  have e1 : H1[H.size]? = some (arrV Z.2.2.1 N.toNatClampNeg (fun _ => .int 0)) := by
    rw [← hH1, Array.getElem?_push_size, ← arrV_new]
    rfl
  have o1 : ∀ q : Nat, q < H.size → H1[q]? = H[q]? := fun q hq => by rw [← hH1, Array.getElem?_push, if_neg (Nat.ne_of_lt hq)]
  refine kk H1 z1 ((hP.kept fun k x hx => o1 x.1 (hP k x hx).lt).app (fun k x hx => ?_)) ⟨Nat.le_trans hS.1 (by omega), fun x h1 h2 => (o1 x (Nat.lt_of_lt_of_le h1 hS.1)).trans (hS.2.1 x h1 h2), hS.2.2⟩
  have hz : k < 1 := (List.getElem?_eq_some_iff.mp hx).1
  rw [show k = 0 by omega] at hx
  cases hx
  exact e1
theorem n_ref (E : EE Z p s m args c cc own) (hX : va_AO C s) (hP : va_P (gD Z) vwCl ws H) (hS : va_S A H0 H locs) (hcl : Cond.classLink own index C ∈ gG) {t0 : Nat} {cA : ClassId} (ht : (gT Z)[t0]? = some (cA, .object C)) {N : Int32} (hn : ¬ N < 0) (hN : N.toNatClampNeg = n) (hbytes : n * 4 ≤ 536870912) (hcells : cells + 1 ≤ R.cells) (hslots : slots + n ≤ R.slots) (hdg : decode cc pc = .ok (.anewarray index, 3)) {h : Nat} (hh : H.size = h)
    (kk : ∀ H1 : Heap, H1.size = h + 1 → va_P (gD Z) vwCl (ws ++ [(h, .inl (cA, n, .inr (.inr (.inr (.inr (fun _ => none))))))]) H1 → va_S A H0 H1 locs → W p l e R s m args below meth c H1 locs (cells + 1) (slots + n) Q (F0 m (pc + 3) ls (.ref h :: rest))) : W p l e R s m args below meth c H locs cells slots Q (F0 m pc ls (.int N :: rest)) := by
  subst hN
  subst hh
  refine W.anew E.1 E.2.1 E.2.2.1 (E.2.2.2.1 _ hcl) (va_AO.use hX) rfl hdg rfl hn hbytes hcells hslots fun cA' kA comp f1 f2 f3 f4 => ?_
  obtain ⟨-, kA2, comp2, -, -, -, g4⟩ := E.2.2.2.2.2 t0 _ ht
  have hcA : cA' = cA := Option.some.inj (f1.symm.trans g4)
  subst hcA
  generalize hH1 : H.push ({ cls := cA', slots := Array.replicate N.toNatClampNeg .null, vm := .none } : Cell) = H1
  have z1 : H1.size = H.size + 1 := by rw [← hH1, Array.size_push]
  have e1 : H1[H.size]? = some (arrV cA' N.toNatClampNeg (fun _ => .null)) := by rw [← hH1, Array.getElem?_push_size, ← arrV_new]
  have o1 : ∀ q : Nat, q < H.size → H1[q]? = H[q]? := fun q hq => by rw [← hH1, Array.getElem?_push, if_neg (Nat.ne_of_lt hq)]
  refine kk H1 z1 ((hP.kept fun k x hx => o1 x.1 (hP k x hx).lt).app (fun k x hx => ?_)) ⟨Nat.le_trans hS.1 (by omega), fun x h1 h2 => (o1 x (Nat.lt_of_lt_of_le h1 hS.1)).trans (hS.2.1 x h1 h2), hS.2.2⟩
  have hz : k < 1 := (List.getElem?_eq_some_iff.mp hx).1
  rw [show k = 0 by omega] at hx
  cases hx
  show H1[H.size]? = some (vp_cell _ _)
  rw [vp_cell_q]
  exact e1
/-- a constructor's body, from its start -/
theorem met_ofI {av : List Value} {sz : Nat} {Qc : Array Value → State → Outcome → State → Prop} {free : Addr → Prop} (hy : plainName y.cls = true) (hsz : (lg_sl av).length ≤ maxL) (hn : y.name = "<init>")
    (body : ∀ (p : Program) (e : Env) (s : State) (m : MethodId) (args : Array Value) (below : List Frame) (meth : Method) (c : Code) (ls : Array Slot), EE Z p s m args c cc y.cls → Ext s → meth.name = "<init>" → meth.sig.returnType = none → meth.locks = false → c.maxLocals = maxL → s.heap.size = sz → va_P (gD Z) vwCl ws s.heap → lv_has ls maxL (lv_args 0 av) → W p l e rm s m args below meth c s.heap [] 0 0 (MQ below Qc args s mc ms free) (F0 m 0 ls [])) :
    Met l y (.code y cc maxL none :: gG) rm (PI Z ws sz av) Qc mc ms free := by
  refine Met.ofW (cc := cc) (maxL := maxL) (ret := none) hy rfl ?_
  intro p e s m args below meth c s₁ B hml hv
  obtain ⟨rfl, hz, hP, hK, hX⟩ := hv
  have hts := atoms_spec (ws := .code y cc maxL none :: gG) B.pre
  have hl := lv_entry av (n := maxL) hsz
  rw [lg_entry_eq]
  exact body p e s m _ below meth c _ ⟨B.exec, B.bytes, findClass_of_methodNamed B.named, fun w hw => hts w (List.mem_cons_of_mem _ hw), hK⟩ hX ((name_of_methodNamed B.named B.method).1.trans hn) B.returns B.notSynchronized hml hz hP hl
/-- the call of a constructor -/
theorem go_I {a : Array Value} {sz' : Nat} {ws' : va_W} (hr : va_Run p l e R s m args below meth c H locs cells slots mc ms (F0 m pc ls st) rest (QI Z ws' sz' q a) (fun x => q ≤ x)) (hS : va_S A H0 H locs) (hq : ∀ x, q ≤ x → A x) (hz : H.size ≤ sz')
    (kk : ∀ (H1 : Heap) (locs1 : List Loc), H1.size = sz' → va_P (gD Z) vwCl ws' H1 → (∀ x : Nat, x < q → H1[x]? = H[x]?) → va_S A H0 H1 locs1 → W p l e R s m args below meth c H1 locs1 (cells + mc) (slots + ms) Q (F0 m (pc + 3) ls rest)) : W p l e R s m args below meth c H locs cells slots Q (F0 m pc ls st) := by
  intro T hT X
  obtain ⟨v1, st₀, t, T', L, h0, X', hL, e1, -, ⟨hv, hz1, hp, hk⟩, sg⟩ := hr T hT X
  cases hv
  rw [h0] at hk
  obtain ⟨t2, a1, b1⟩ := kk T'.heap (locs ++ L) (by rw [e1]; exact hz1) (by rw [e1]; exact hp) (fun x hx => by rw [e1]; exact hk x hx) ⟨Nat.le_trans hS.1 (by rw [e1, hz1]; exact hz), fun x h1 h2 => by rw [e1, hk x (Nat.not_le.mp fun h => h2 (hq x h))]; exact hS.2.1 x h1 h2, fun x hx => by
      rcases List.mem_append.mp hx with h | h
      · exact hS.2.2 x h
      · exact hq _ (hL x h)⟩ T' rfl X'
  exact ⟨t2, sg t2 a1, b1⟩
def CardI (y : MethodName) (bytes : ByteArray) (maxL : Nat) : Prop := Cond.code y bytes maxL none ∈ gG ∧ Cond.initialized y.cls ∈ gG ∧ (y.cls ≠ "java/lang/invoke/MethodHandle" ∧ y.cls ≠ "java/lang/invoke/VarHandle") ∧ (parseMethodDescriptor y.desc).map (fun d => d.parameters.length) = some 0 ∧ y.name = "<init>" ∧ Cond.instanceMethod y ∈ gG
theorem run_IN {b sz : Nat} {Qc : Array Value → State → Outcome → State → Prop} {free : Addr → Prop} {host : String} (E : EE Z p s m args c cc own) (hX : Ext s) (hml : c.maxLocals = nL) (hls : ls.size = nL) (hM : Met l y (.code y bytes maxL none :: gG) rm (PI Z ws sz [.ref b]) Qc mc ms free) (hc : CardI y bytes maxL) (hR : rm.cells = mc ∧ rm.slots = ms ∧ rm.frames + 1 ≤ R.frames ∧ 8 + (maxL + 11) + rm.locals ≤ R.locals) (hlk : va_Nw (.methodLinkNest own index y host) s) (hz : H.size = sz) (hP : va_P (gD Z) vwCl ws H)
    (hst : st = .ref b :: rest) (hrm : (rest.map fun v => v.category).sum ≤ 8) (hf : cells + mc ≤ R.cells ∧ slots + ms ≤ R.slots) (hdg : decode cc pc = .ok (.invokespecial index, 3)) :
    va_Run p l e R s m args below meth c H locs cells slots mc ms (F0 m pc ls st) rest (Qc #[Value.ref b]) free :=
  va_runIN (As := []) (n := 0) ⟨E.1, E.2.1, hml, E.2.2.1, E.2.2.2.1⟩ hM ⟨⟨⟨hR.1, hR.2.1, hR.2.2.1, hR.2.2.2, gG_pay E.2.2.2.1 (gG_cons hc.1), List.mem_cons_self⟩, E.2.2.2.1 _ hc.1, E.2.2.2.1 _ hc.2.1, hc.2.2.1, fun sig h => by
    have h2 := hc.2.2.2.1
    rw [h] at h2
    exact (Option.some.inj h2).symm, va_Nw.use rfl hlk⟩, hc.2.2.2.2.1, E.2.2.2.1 _ hc.2.2.2.2.2⟩ ⟨PI_blind Z ws sz _, PI_at E.2.2.2.2 hX hz hP _⟩ rfl rfl hls hst (lv_room (m := m) (pc := pc) (ls := ls) (rest := st) hrm) hdg hf
theorem run_I {b sz : Nat} {Qc : Array Value → State → Outcome → State → Prop} {free : Addr → Prop} (E : EE Z p s m args c cc own) (hX : Ext s) (hml : c.maxLocals = nL) (hls : ls.size = nL) (hM : Met l y (.code y bytes maxL none :: gG) rm (PI Z ws sz [.ref b]) Qc mc ms free) (hc : CardI y bytes maxL) (hR : rm.cells = mc ∧ rm.slots = ms ∧ rm.frames + 1 ≤ R.frames ∧ 8 + (maxL + 11) + rm.locals ≤ R.locals) (hlk : Cond.methodLink own index y ∈ gG) (hz : H.size = sz) (hP : va_P (gD Z) vwCl ws H)
    (hst : st = .ref b :: rest) (hrm : (rest.map fun v => v.category).sum ≤ 8) (hf : cells + mc ≤ R.cells ∧ slots + ms ≤ R.slots) (hdg : decode cc pc = .ok (.invokespecial index, 3)) :
    va_Run p l e R s m args below meth c H locs cells slots mc ms (F0 m pc ls st) rest (Qc #[Value.ref b]) free :=
  va_runI (As := []) (n := 0) ⟨E.1, E.2.1, hml, E.2.2.1, E.2.2.2.1⟩ hM ⟨⟨hR.1, hR.2.1, hR.2.2.1, hR.2.2.2, gG_pay E.2.2.2.1 (gG_cons hc.1), List.mem_cons_self, E.2.2.2.1 _ hc.1, E.2.2.2.1 _ hc.2.1, hc.2.2.1, fun sig h => by
    have h2 := hc.2.2.2.1
    rw [h] at h2
    exact (Option.some.inj h2).symm, E.2.2.2.1 _ hlk⟩, hc.2.2.2.2.1, E.2.2.2.1 _ hc.2.2.2.2.2⟩ ⟨PI_blind Z ws sz _, PI_at E.2.2.2.2 hX hz hP _⟩ rfl rfl hls hst (lv_room (m := m) (pc := pc) (ls := ls) (rest := st) hrm) hdg hf
/-- Object's constructor -/
theorem o_init {x : Nat} (E : EE Z p s m args c cc own) (hml : c.maxLocals = nL) (hls : ls.size = nL) (hlk : Cond.methodLink own index objectInit ∈ gG) (hframes : 1 ≤ R.frames) (hlocals : (rest.map fun v => v.category).sum + 12 ≤ R.locals) (hdg : decode cc pc = .ok (.invokespecial index, 3)) (kk : W p l e R s m args below meth c H locs cells slots Q (F0 m (pc + 3) ls rest)) : W p l e R s m args below meth c H locs cells slots Q (F0 m pc ls (.ref x :: rest)) :=
  W.objInit E.1 E.2.1 E.2.2.1 (E.2.2.2.1 _ hlk) (E.2.2.2.1 _ gw_8) (E.2.2.2.1 _ gw_9) rfl (hls.trans hml.symm) rfl hdg hframes (by show 2 * 0 + _ + 12 ≤ _; omega) kk
end MAKE
section SIZED
variable {p : Program} {l : Launch} {e : Env} {R : Room} {s : State} {m : MethodId} {args : Array Value} {below : List Frame} {meth : Method} {c : Code} {H : Heap} {locs : List Loc} {cells slots : Nat} {Q : State → Prop} {cc : ByteArray} {pc : Nat} {ls : Array Slot} {rest : List Value} {Z : Gm} {own C : String} {index : Nat} {H0 : Heap} {A : Nat → Prop} {ws : va_W} {a sz : Nat}
/-! Writes as in the kit's own rows, with the heap's size kept beside. -/
theorem z_put (E : EE Z p s m args c cc own) {T : u_T} {N ci : Nat} (hin : ∀ w ∈ u_ws C T N, w ∈ gG) (ty0 : Nat → FieldType) (hty : ∀ k, k < N → parseFieldDescriptor (T k).2.2.1 = some (ty0 k)) (hnm : ∀ a, a < N → ∀ b, b < N → a ≠ b → (T a).2.1 ≠ (T b).2.1) (hz : H.size = sz) (hP : va_P (gD Z) vwCl ws H) (hD : va_D A ws) (hS0 : va_S A H0 H locs) (q0 : Nat) {fs : List Value} (he : ws[q0]? = some (a, .inr (ci, fs))) (hc : vwCl[ci]? = some (C, T, N)) (k : Nat) (hk : k < N) (hl : Cond.fieldLink own index C (T k).2.1 (T k).2.2.1 ∈ gG) (hT : (T k).1 = C) (hfin : (T k).2.2.2 = true → meth.name = "<init>" ∧ C = own) {ty : FieldType} {v : Value} (hd : parseFieldDescriptor (T k).2.2.1 = some ty) (hn : narrow ty v = v) (hfit : fits ty v = true) (hlen : k < fs.length) (hdg : decode cc pc = .ok (.putfield index, 3))
    (kk : ∀ (H1 : Heap) (locs1 : List Loc), H1.size = sz → va_P (gD Z) vwCl (ws.set q0 (a, .inr (ci, fs.set k v))) H1 → va_D A (ws.set q0 (a, .inr (ci, fs.set k v))) → va_S A H0 H1 locs1 → W p l e R s m args below meth c H1 locs1 cells slots Q (F0 m (pc + 3) ls rest)) : W p l e R s m args below meth c H locs cells slots Q (F0 m pc ls (v :: .ref a :: rest)) := by
  have hap := va_apart (own := own) E.2.2.2.1 hin ty0 hty hnm E.2.2.2.2 hc
  obtain ⟨r, h1, cell, q1, q2, q3, q4⟩ := hP q0 _ he
  have hr : r = (C, T, N) := Option.some.inj (h1.symm.trans hc)
  subst hr
  obtain ⟨hS, hfc, kC, hkC, hkind⟩ := E.2.2.2.2.1 ci _ hc
  obtain ⟨cf, kf, fi, f, hi, hsl⟩ := hS k hk
  have hlay := E.2.2.2.1 _ (hin _ (u_in_lay hk))
  have hst := (u_facts hfc hkC (u_lays E.2.2.2.1 hin hk) hi).1
  have hi' : s.fieldFound? C (T k).2.1 (T k).2.2.1 = some (cf, kf, fi, f) := by rw [hT] at hi; exact hi
  by_cases hf : (T k).2.2.2 = true
  · unfold u_lay at hlay
    rw [if_pos hf] at hlay
    obtain ⟨hin2, hC⟩ := hfin hf
    have hcf : m.cls = cf := by
      obtain ⟨_, _, c', _, _, _, -, -, hf', -, -, -, hown2, -⟩ := Cond.laysFinal_spec hlay
      have e1 : c' = cf := by have := hi.symm.trans hf'; simp at this; exact this.1.symm
      rw [hT, hC] at hown2
      rw [← e1]; exact Option.some.inj (E.2.2.1.symm.trans hown2)
    have h6 := u_fits hfc hkC hkind (Or.inr hlay) hi hd hn hfit
    refine W.putFinK E.1 E.2.1 E.2.2.1 (E.2.2.2.1 _ hl) hi' hst hcf hin2 (by rw [q2]; exact h6) q1 q3 (by rw [hsl]; exact k2_hasslot (q4 k hk)) rfl rfl hdg fun H' e1 e2 e3 => ?_
    rw [hsl] at e1 ⊢
    exact kk H' _ (e2.trans hz) (hP.set hD he ⟨_, hc, t_OB.to (V := updV (vp_V fs) k v) ⟨_, e1, q2, q3, t_set q4 hap hk v⟩ (fun j _ => vp_updV_set hlen v j)⟩ e3) (hD.set he) (hS0.put e2 e3 (hD.2 q0 _ he))
  · unfold u_lay at hlay
    rw [if_neg hf] at hlay
    have h6 := u_store hfc hkC hkind hlay hi hd hn hfit
    refine W.putK E.1 E.2.1 (f := f) ⟨E.2.2.1, E.2.2.2.1 _ hl, ⟨_, _, _, hi'⟩, hst⟩ (by rw [q2]; exact h6) q1 q3 (by rw [hsl]; exact k2_hasslot (q4 k hk)) rfl rfl hdg fun H' e1 e2 e3 => ?_
    rw [hsl] at e1 ⊢
    exact kk H' _ (e2.trans hz) (hP.set hD he ⟨_, hc, t_OB.to (V := updV (vp_V fs) k v) ⟨_, e1, q2, q3, t_set q4 hap hk v⟩ (fun j _ => vp_updV_set hlen v j)⟩ e3) (hD.set he) (hS0.put e2 e3 (hD.2 q0 _ he))
theorem z_iast (E : EE Z p s m args c cc own) (hz : H.size = sz) (hP : va_P (gD Z) vwCl ws H) (hD : va_D A ws) (hS : va_S A H0 H locs) (q0 : Nat) {n : Nat} {f : Nat → Int32} (ha : ws[q0]? = some (a, .inl (Z.2.2.1, n, .inl f))) {i x : Int32} {k : Nat} (hk : i.toNatClampNeg = k) (hin : vp_in i n) (hdg : decode cc pc = .ok (.iastore, 1))
    (kk : ∀ (H1 : Heap) (locs1 : List Loc), H1.size = sz → va_P (gD Z) vwCl (ws.set q0 (a, .inl (Z.2.2.1, n, .inl (upd f k x)))) H1 → va_D A (ws.set q0 (a, .inl (Z.2.2.1, n, .inl (upd f k x)))) → va_S A H0 H1 locs1 → W p l e R s m args below meth c H1 locs1 cells slots Q (F0 m (pc + 1) ls rest)) : W p l e R s m args below meth c H locs cells slots Q (F0 m pc ls (.int x :: .int i :: .ref a :: rest)) := by
  subst hk
  refine W.iast E.1 E.2.1 (hP q0 _ ha) ((E.2.2.2.2.2 0 (Z.2.2.1, .int) rfl).1 n (fun j => .int (f j))) (fun q => by cases q) (by show ¬ (i < 0 ∨ (arrV _ _ _).slots.size ≤ _); rw [arrV_size]; exact hin) rfl rfl hdg fun H1 e z oq => ?_
  refine kk H1 _ (z.trans hz) (hP.set hD ha ?_ oq) (hD.set ha) (hS.put z oq (hD.2 q0 _ ha))
  show H1[a]? = some (vp_cell _ _)
  rw [e]
  rw [vp_cell_i, vp_cell_i, arrV_store]
  congr 2
  funext q
  by_cases hq : q = i.toNatClampNeg
  · subst hq
    simp [updV, upd]
  · simp [updV, upd, hq]
theorem z_astq (E : EE Z p s m args c cc own) (hz : H.size = sz) (hP : va_P (gD Z) vwCl ws H) (hD : va_D A ws) (hS : va_S A H0 H locs) (q0 t0 qk ci : Nat) {cA : ClassId} {r : vw_C} {n v : Nat} {vs : List Value} {f : Nat → Option Nat} (ha : ws[q0]? = some (a, .inl (cA, n, .inr (.inr (.inr (.inr f)))))) (ht : (gT Z)[t0]? = some (cA, .object r.1)) (hv : ws[qk]? = some (v, .inr (ci, vs))) (hc : vwCl[ci]? = some r) {i : Int32} {k : Nat} (hk : i.toNatClampNeg = k) (hin : vp_in i n) (hdg : decode cc pc = .ok (.aastore, 1))
    (kk : ∀ (H1 : Heap) (locs1 : List Loc), H1.size = sz → va_P (gD Z) vwCl (ws.set q0 (a, .inl (cA, n, .inr (.inr (.inr (.inr (va_up f k (some v)))))))) H1 → va_D A (ws.set q0 (a, .inl (cA, n, .inr (.inr (.inr (.inr (va_up f k (some v)))))))) → va_S A H0 H1 locs1 → W p l e R s m args below meth c H1 locs1 cells slots Q (F0 m (pc + 1) ls rest)) : W p l e R s m args below meth c H locs cells slots Q (F0 m pc ls (.ref v :: .int i :: .ref a :: rest)) := by
  subst hk
  have hlt : i.toNatClampNeg < n := Nat.not_le.mp fun q => hin (Or.inr q)
  have h0 : ¬ i < 0 := fun q => hin (Or.inl q)
  obtain ⟨r', hr', cellV, g1, g2, g3, -⟩ := hP qk _ hv
  have hcls := (E.2.2.2.2.1 ci r hc).2
  obtain ⟨kA, comp, k1, k2, k3, -⟩ := (E.2.2.2.2.2 t0 _ ht).2
  have hcomp : comp = (gD Z).1 ci := Option.some.inj (k3.symm.trans hcls.1)
  subst hcomp
  obtain ⟨kC, hkC, -⟩ := hcls.2
  refine W.aast E.1 E.2.1 (hP q0 _ ha) (fun q h => by cases h) (fun h => by cases h) k1 k2 rfl hkC ⟨h0, by show _ < (arrV _ _ _).slots.size; rw [arrV_size]; exact hlt⟩ g1 (fun q h => by rw [g3] at h; cases h) (by rw [g2]; exact hkC) (by rw [g2]; exact va_assign hcls) rfl rfl hdg fun H1 e z oq => ?_
  refine kk H1 _ (z.trans hz) (hP.set hD ha ?_ oq) (hD.set ha) (hS.put z oq (hD.2 q0 _ ha))
  show H1[a]? = some (vp_cell _ _)
  rw [e]
  rw [vp_cell_q, vp_cell_q, arrV_store]
  congr 2
  funext q
  by_cases hq : q = i.toNatClampNeg
  · subst hq
    simp [updV, va_up, va_rf]
  · simp [updV, va_up, hq]
end SIZED
/-- the cells that come one behind the other are apart -/
theorem D_seq (q : Nat) (ws : va_W) (h : ∀ (k : Nat) (p : Nat × va_E), ws[k]? = some p → p.1 = q + k) : va_D (fun z => q ≤ z) ws := ⟨fun i j p p2 h1 h2 e => by rw [h i p h1, h j p2 h2] at e; omega, fun k p hk => by show q ≤ p.1; rw [h k p hk]; omega⟩
