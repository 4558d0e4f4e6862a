/-! The law's own calls: its two helpers, and the face of the bay as the law calls it. -/
def belowF (v : Int32) (n : Nat) : Nat := (v.toBitVec.toNat % 2 ^ 31) % n
theorem below_lt (v : Int32) {n : Nat} (h : 0 < n) : belowF v n < n := Nat.mod_lt _ h
def cellF (L : Nat) (xs : Nat → Int32) (k : Nat) : Int32 := if k < L then xs k else 790386105 * (nI k + 3)
abbrev rm_L_below : Room := { frames := 0, cells := 0, slots := 0, locals := 0 }
theorem k_L_below : Card yL_below cL_below 2 (some .int) 2 := ⟨gw_58, gw_53, by decide +kernel, by decide +kernel⟩
set_option maxHeartbeats 4000000 in
theorem c_L_below (l : Launch) {Z : Gm} {V : Nat → St} (v : Int32) (n : Nat) (h0 : 0 < n) (h1 : n < 2 ^ 31) : Met l yL_below (.code yL_below cL_below 2 (some .int) :: gG) rm_L_below (PW Z V [.int v, .int (nI n)]) (QP (some (.int (nI (belowF v n))))) 0 0 (fun _ => False) := by
  refine met_of (by decide +kernel) (Nat.le_of_ble_eq_true rfl) ?_
  intro p e s m args below meth c ls E hr hlk hml hP hl
  have E : EE Z p s m args c cL_below RL := E
  have hl : lv_has ls 2 [(0, .int v), (1, .int (nI n))] := hl
  refine lv_iload_n E.1 E.2.1 dL_below_0 rfl (lv_at hl 0 rfl) ?_
  refine lv_ldc (v := 2147483647) E.1 E.2.1 E.2.2.1 (E.2.2.2.1 _ gw_59) dL_below_1 ?_
  refine lv_iand E.1 E.2.1 dL_below_3 ?_
  refine lv_iload_n E.1 E.2.1 dL_below_4 rfl (lv_at hl 1 rfl) ?_
  refine lv_irem E.1 E.2.1 dL_below_5 (nI_ne0 h0 h1) ?_
  have e : v &&& 2147483647 = nI (v.toBitVec.toNat % 2 ^ 31) := pk_and v 31 (by decide)
  exact e_iP E hr hlk (by rw [e, pk_rem (Nat.mod_lt _ (by decide)) h0 h1]; rfl) dL_below_6

abbrev rm_L_cell : Room := { frames := 0, cells := 0, slots := 0, locals := 0 }
theorem k_L_cell : Card yL_cell cL_cell 2 (some .int) 2 := ⟨gw_54, gw_53, by decide +kernel, by decide +kernel⟩
def PC (b L : Nat) (xs : Nat → Int32) (av : List Value) : Array Value → State → Prop := fun a U => a = av.toArray ∧ va_X b L xs U U.heap
theorem PC_blind (b L : Nat) (xs : Nat → Int32) (av : List Value) : FrameBlind (PC b L xs av) := fun a U g mk h => ⟨h.1, va_X.moved (u := U) (U := U.calling g mk a) (Vm.Alike.refl U.vm) h.2⟩
theorem PC_at {b L : Nat} {xs : Nat → Int32} {s : State} {H : Heap} (h : va_X b L xs s H) (av : List Value) : ∀ U : State, U.heap = H → s.WarmedH U.vm → PC b L xs av av.toArray U := fun _ hU hW => ⟨rfl, by rw [hU]; exact va_X.moved hW.alike h⟩
set_option maxHeartbeats 4000000 in
theorem c_L_cell (l : Launch) (b L : Nat) (xs : Nat → Int32) (k : Nat) (hL : L < 2 ^ 31) (hk : k < 2 ^ 31) : Met l yL_cell (.code yL_cell cL_cell 2 (some .int) :: gG) rm_L_cell (PC b L xs [.ref b, .int (nI k)]) (QP (some (.int (cellF L xs k)))) 0 0 (fun _ => False) := by
  refine Met.ofW (cc := cL_cell) (maxL := 2) (ret := some .int) (by decide +kernel) rfl ?_
  intro p e s m args below meth c s₁ B hml hv
  obtain ⟨rfl, hX⟩ := hv
  have hts := atoms_spec (ws := .code yL_cell cL_cell 2 (some .int) :: gG) B.pre
  have hown : s.vm.findClass RL = some m.cls := findClass_of_methodNamed B.named
  have hr := B.returns
  have hlk := B.notSynchronized
  have hl := lv_entry [.ref b, .int (nI k)] (n := 2) (Nat.le_of_ble_eq_true rfl)
  rw [lg_entry_eq]
  generalize (lg_sl ([.ref b, .int (nI k)])  ++ List.replicate (2 - (lg_sl ([.ref b, .int (nI k)])).length) Slot.unset).toArray = ls at hl ⊢
  have hl : lv_has ls 2 [(0, .ref b), (1, .int (nI k))] := hl
  have hbl : b < s.heap.size := by
    obtain ⟨scr, h1, -⟩ := id hX
    exact (Array.getElem?_eq_some_iff.mp h1).1
  have hS : va_S (fun _ => False) s.heap s.heap [] := va_S.rf
  have hbytes := B.bytes
  have hexec := B.exec
  refine lv_iload_n hexec hbytes dL_cell_0 rfl (lv_at hl 1 rfl) ?_
  refine lv_aload_n hexec hbytes dL_cell_1 rfl (lv_at hl 0 rfl) ?_
  refine va_slen hexec hbytes hX hbl (fun h => h) hS dL_cell_2 ?_
  refine lv_icmp_ge (tgt := 12) hexec hbytes dL_cell_3 (by decide) (fun c_3 => ?_) (fun c_3 => ?_)
  · have hge : ¬ k < L := fun h => nI_ge h hL c_3
    refine lv_ldc (v := 790386105) hexec hbytes hown (hts _ (List.mem_cons_of_mem _ gw_55)) dL_cell_12 ?_
    refine lv_iload_n hexec hbytes dL_cell_14 rfl (lv_at hl 1 rfl) ?_
    refine lv_iconst (v := 3) hexec hbytes dL_cell_15 (by decide) ?_
    refine lv_iadd hexec hbytes dL_cell_16 ?_
    refine lv_imul hexec hbytes dL_cell_17 ?_
    exact W.iret hexec hbytes hr (fun t ht _ => ⟨by rw [show cellF L xs k = 790386105 * (nI k + 3) from if_neg hge], ht⟩) (fun q h => by cases h) dL_cell_18 (hlocks := hlk)
  · have hlt : k < L := Nat.not_le.mp fun h => c_3 (nI_le h hk)
    refine lv_aload_n hexec hbytes dL_cell_6 rfl (lv_at hl 0 rfl) ?_
    refine lv_iload_n hexec hbytes dL_cell_7 rfl (lv_at hl 1 rfl) ?_
    refine va_sld hexec hbytes hX hbl (fun h => h) hS (vp_in_nI hlt hL) dL_cell_8 ?_
    refine lv_goto (tgt := 18) hexec hbytes dL_cell_9 (by decide) ?_
    exact W.iret hexec hbytes hr (fun t ht _ => ⟨by rw [show cellF L xs k = xs k from if_pos hlt, nI_clamp hk], ht⟩) (fun q h => by cases h) dL_cell_18 (hlocks := hlk)

/-- what holds of the law's machine -/
def LC (Z : Gm) (p : Program) (s : State) (m : MethodId) (c : Code) (b L : Nat) (xs : Nat → Int32) : Prop := EE Z p s m #[Value.ref b] c cL_law RL ∧ c.maxLocals = 22 ∧ va_X b L xs s s.heap ∧ b < s.heap.size ∧ L ≤ 260 ∧ ∀ n, n < 171 → ad Z n = s.heap.size + n
/-- what holds of its heap: the bay, and cells of its own behind it -/
def LH (Z : Gm) (V : Nat → St) (ex : va_W) (s : State) (H : Heap) (locs : List Loc) : Prop := va_P (gD Z) vwCl (bw Z V ++ ex) H ∧ va_S (fun q => s.heap.size ≤ q) s.heap H locs ∧ (∀ (k : Nat) (x : Nat × va_E), ex[k]? = some x → s.heap.size + 171 ≤ x.1) ∧ ∀ (i j : Nat) (x y : Nat × va_E), ex[i]? = some x → ex[j]? = some y → x.1 = y.1 → i = j
theorem va_P_last' {D : va_G} {cl : List vw_C} {ws w2 : va_W} {H : Heap} (h : va_P D cl (ws ++ w2) H) : va_P D cl w2 H := by
  intro k p hk
  refine h (ws.length + k) p ?_
  rw [List.getElem?_append_right (by omega), Nat.add_sub_cancel_left]
  exact hk
section LAWCALLS
variable {p : Program} {l : Launch} {e : Env} {s : State} {m : MethodId} {b : Nat} {below : List Frame} {meth : Method} {c : Code} {H : Heap} {locs : List Loc} {cells slots : Nat} {Q : State → Prop} {pc : Nat} {ls : Array Slot} {rest st : List Value} {Z : Gm} {V V' : Nat → St} {S U : St} {L : Nat} {xs : Nat → Int32} {ex : va_W} {n i j k : Nat} {v : Int32}
theorem LC.aa (X : LC Z p s m c b L xs) : AA Z := fun i j hi hj h => by
  rw [X.2.2.2.2.2 i hi, X.2.2.2.2.2 j hj] at h
  omega
theorem LC.inW (X : LC Z p s m c b L xs) {q : Nat} (h : inW Z q) : s.heap.size ≤ q ∧ q < s.heap.size + 171 := by
  obtain ⟨i, hi, rfl⟩ := h
  rw [X.2.2.2.2.2 i hi]
  omega
/-- behind a call that writes, for the law -/
theorem go_XL (X : LC Z p s m c b L xs) {a : Array Value} {r : Int32} (h : LH Z V ex s H locs) (hr : va_Run p l e room_1 s m #[Value.ref b] below meth c H locs cells slots 0 0 (F0 m pc ls st) rest (QX Z (some (.int r)) V' a) (inW Z))
    (kk : ∀ (H1 : Heap) (locs1 : List Loc), LH Z V' ex s H1 locs1 → W p l e room_1 s m #[Value.ref b] below meth c H1 locs1 cells slots Q (F0 m (pc + 3) ls (.int r :: rest))) : W p l e room_1 s m #[Value.ref b] below meth c H locs cells slots Q (F0 m pc ls st) := by
  intro T hT X0
  obtain ⟨v1, st₀, t, T', L', h0, X', hL, e1, -, ⟨hv, hp, hz, hk⟩, sg⟩ := hr T hT X0
  cases hv
  rw [h0] at hz hk
  obtain ⟨hP, hS, hx, hd⟩ := h
  have hP1 : va_P (gD Z) vwCl (bw Z V') T'.heap := by rw [e1]; exact hp
  have hex : va_P (gD Z) vwCl ex T'.heap := (va_P_last' hP).kept fun k q hq => by
    have h1 := (va_P_last' hP k q hq).lt
    rw [e1]
    exact hk q.1 h1 (fun w => by have := (X.inW w).2; have := hx k q hq; omega)
  obtain ⟨t2, a1, b1⟩ := kk T'.heap (locs ++ L') ⟨hP1.app hex, ⟨Nat.le_trans hS.1 (by rw [e1]; exact hz), fun q h1 h2 => by rw [e1, hk q (Nat.lt_of_lt_of_le h1 hS.1) (fun w => h2 (X.inW w).1)]; exact hS.2.1 q h1 h2, fun q hq => by
      rcases List.mem_append.mp hq with h | h
      · exact hS.2.2 q h
      · exact (X.inW (hL q h)).1⟩, hx, hd⟩ T' rfl X'
  exact ⟨t2, sg t2 a1, b1⟩
theorem in_n {x : Int32} (hn : x.toNatClampNeg = n) (hk : k < n) : nI k < x := nI_ltc (by omega)

theorem L_ofTrain (X : LC Z p s m c b L xs) (h : LH Z V ex s H locs) (hls : ls.size = 22) (hV : V 0 = S) (hL : Lim S) (hn : (S 6 0 0).toNatClampNeg = n) (hn8 : n ≤ 8) (hk : k < n) (hj : j ≤ 12) (hv : trainQ S k j = v) (hrm : (rest.map fun v => v.category).sum ≤ 8) (hf : cells ≤ 630607 ∧ slots ≤ 7209803) (hdg : decode cL_law pc = .ok (.invokevirtual 73, 3))
    (kk : W p l e room_1 s m #[Value.ref b] below meth c H locs cells slots Q (F0 m (pc + 3) ls (.int v :: rest))) : W p l e room_1 s m #[Value.ref b] below meth c H locs cells slots Q (F0 m pc ls (.int (nI j) :: .int (nI k) :: .ref (ad Z 0) :: rest)) := by
  subst hv
  have hP := va_P_init h.1
  refine go_Pi (run_V (rest := rest) X.1 X.2.1 hls (c_X4_ofTrain l hV (nI k) (nI_pos (by omega)) (in_n hn hk) j hj hL) k_X4_ofTrain ⟨rfl, rfl, Nat.le_of_ble_eq_true rfl, Nat.le_of_ble_eq_true rfl⟩ gw_481 gw_284 gw_285 hP (rv_bay X.1 hP) rfl rfl hrm hf hdg) ?_
  rw [nI_clamp (by omega)]
  exact kk
theorem L_ofBlock (X : LC Z p s m c b L xs) (h : LH Z V ex s H locs) (hls : ls.size = 22) (hV : V 0 = S) (hL : Lim S) (hn : (S 2 0 0).toNatClampNeg = n) (hn8 : n ≤ 16) (hk : k < n) (hj : j ≤ 3) (hv : blockQ S k j = v) (hrm : (rest.map fun v => v.category).sum ≤ 8) (hf : cells ≤ 630607 ∧ slots ≤ 7209803) (hdg : decode cL_law pc = .ok (.invokevirtual 76, 3))
    (kk : W p l e room_1 s m #[Value.ref b] below meth c H locs cells slots Q (F0 m (pc + 3) ls (.int v :: rest))) : W p l e room_1 s m #[Value.ref b] below meth c H locs cells slots Q (F0 m pc ls (.int (nI j) :: .int (nI k) :: .ref (ad Z 0) :: rest)) := by
  subst hv
  have hP := va_P_init h.1
  refine go_Pi (run_V (rest := rest) X.1 X.2.1 hls (c_X4_ofBlock l hV (nI k) (nI_pos (by omega)) (in_n hn hk) j hj hL) k_X4_ofBlock ⟨rfl, rfl, Nat.le_of_ble_eq_true rfl, Nat.le_of_ble_eq_true rfl⟩ gw_482 gw_268 gw_269 hP (rv_bay X.1 hP) rfl rfl hrm hf hdg) ?_
  rw [nI_clamp (by omega)]
  exact kk
theorem L_ofRoute (X : LC Z p s m c b L xs) (h : LH Z V ex s H locs) (hls : ls.size = 22) (hV : V 0 = S) (hL : Lim S) (hn : (S 4 0 0).toNatClampNeg = n) (hn8 : n ≤ 16) (hk : k < n) (hj : 2 ≤ j ∧ j ≤ 3) (hv : routeQ S k j = v) (hrm : (rest.map fun v => v.category).sum ≤ 8) (hf : cells ≤ 630607 ∧ slots ≤ 7209803) (hdg : decode cL_law pc = .ok (.invokevirtual 30, 3))
    (kk : W p l e room_1 s m #[Value.ref b] below meth c H locs cells slots Q (F0 m (pc + 3) ls (.int v :: rest))) : W p l e room_1 s m #[Value.ref b] below meth c H locs cells slots Q (F0 m pc ls (.int (nI j) :: .int (nI k) :: .ref (ad Z 0) :: rest)) := by
  subst hv
  have hP := va_P_init h.1
  refine go_Pi (run_V (rest := rest) X.1 X.2.1 hls (c_X4_ofRoute l hV (nI k) (nI_pos (by omega)) (in_n hn hk) j hj hL) k_X4_ofRoute ⟨rfl, rfl, Nat.le_of_ble_eq_true rfl, Nat.le_of_ble_eq_true rfl⟩ gw_104 gw_105 gw_106 hP (rv_bay X.1 hP) rfl rfl hrm hf hdg) ?_
  rw [nI_clamp (by omega)]
  exact kk
theorem L_onRoute (X : LC Z p s m c b L xs) (h : LH Z V ex s H locs) (hls : ls.size = 22) (hV : V 0 = S) (hL : Lim S) (hn : (S 4 0 0).toNatClampNeg = n) (hn8 : n ≤ 16) (hk : k < n) {q c0 : Nat} (hc : S 23 k 0 = nI c0) (hc31 : c0 < 2 ^ 31) (hq : q < c0) (hv : blockAtF S k (nI q) = v) (hrm : (rest.map fun v => v.category).sum ≤ 8) (hf : cells ≤ 630607 ∧ slots ≤ 7209803) (hdg : decode cL_law pc = .ok (.invokevirtual 33, 3))
    (kk : W p l e room_1 s m #[Value.ref b] below meth c H locs cells slots Q (F0 m (pc + 3) ls (.int v :: rest))) : W p l e room_1 s m #[Value.ref b] below meth c H locs cells slots Q (F0 m pc ls (.int (nI q) :: .int (nI k) :: .ref (ad Z 0) :: rest)) := by
  subst hv
  have hP := va_P_init h.1
  refine go_Pi (run_V (rest := rest) X.1 X.2.1 hls (c_X4_onRoute l hV (nI k) (nI_pos (by omega)) (in_n hn hk) (nI q) (nI_pos (by omega)) (by rw [nI_clamp (by omega), hc]; exact nI_lt hq hc31) hL) k_X4_onRoute ⟨rfl, rfl, Nat.le_of_ble_eq_true rfl, Nat.le_of_ble_eq_true rfl⟩ gw_130 gw_131 gw_132 hP (rv_bay X.1 hP) rfl rfl hrm hf hdg) ?_
  rw [nI_clamp (by omega)]
  exact kk
theorem L_station (X : LC Z p s m c b L xs) (h : LH Z V ex s H locs) (hls : ls.size = 22) (hV : V 0 = S) (hL : Lim S) (hk : k < 6) (hj : j ≤ 2) (hv : stationQ S (nI k) j = v) (hrm : (rest.map fun v => v.category).sum ≤ 8) (hf : cells ≤ 630607 ∧ slots ≤ 7209803) (hdg : decode cL_law pc = .ok (.invokevirtual 39, 3))
    (kk : W p l e room_1 s m #[Value.ref b] below meth c H locs cells slots Q (F0 m (pc + 3) ls (.int v :: rest))) : W p l e room_1 s m #[Value.ref b] below meth c H locs cells slots Q (F0 m pc ls (.int (nI j) :: .int (nI k) :: .ref (ad Z 0) :: rest)) := by
  subst hv
  have hP := va_P_init h.1
  refine go_Pi (run_V (rest := rest) X.1 X.2.1 hls (c_X4_station l hV (nI k) (nI_pos (by omega)) (nI_lt (b := 6) hk (by omega)) j hj hL) k_X4_station ⟨rfl, rfl, Nat.le_of_ble_eq_true rfl, Nat.le_of_ble_eq_true rfl⟩ gw_150 gw_151 gw_152 hP (rv_bay X.1 hP) rfl rfl hrm hf hdg) ?_
  exact kk
theorem L_plan (X : LC Z p s m c b L xs) (h : LH Z V ex s H locs) (hls : ls.size = 22) (hV : V 0 = S) (hL : Lim S) (hn : (S 6 0 0).toNatClampNeg = n) (hn8 : n ≤ 8) (hk : k < n) {q c0 : Nat} (hc : S 32 k 0 = nI c0) (hc31 : c0 < 2 ^ 31) (hq : q < c0) (z : Int32) (hv : planF S k (nI q) z = v) (hrm : (rest.map fun v => v.category).sum ≤ 8) (hf : cells ≤ 630607 ∧ slots ≤ 7209803) (hdg : decode cL_law pc = .ok (.invokevirtual 46, 3))
    (kk : W p l e room_1 s m #[Value.ref b] below meth c H locs cells slots Q (F0 m (pc + 3) ls (.int v :: rest))) : W p l e room_1 s m #[Value.ref b] below meth c H locs cells slots Q (F0 m pc ls (.int z :: .int (nI q) :: .int (nI k) :: .ref (ad Z 0) :: rest)) := by
  subst hv
  have hP := va_P_init h.1
  refine go_Pi (run_V (rest := rest) X.1 X.2.1 hls (c_X4_plan l hV (nI k) (nI_pos (by omega)) (in_n hn hk) (nI q) (nI_pos (by omega)) (by rw [nI_clamp (by omega), hc]; exact nI_lt hq hc31) z hL) k_X4_plan ⟨rfl, rfl, Nat.le_of_ble_eq_true rfl, Nat.le_of_ble_eq_true rfl⟩ gw_188 gw_189 gw_190 hP (rv_bay X.1 hP) rfl rfl hrm hf hdg) ?_
  rw [nI_clamp (by omega)]
  exact kk
theorem L_waitedFor (X : LC Z p s m c b L xs) (h : LH Z V ex s H locs) (hls : ls.size = 22) (hV : V 0 = S) (hL : Lim S) (hn : (S 6 0 0).toNatClampNeg = n) (hn8 : n ≤ 8) (hk : k < n) (hi : i < n) (hv : S 45 k i = v) (hrm : (rest.map fun v => v.category).sum ≤ 8) (hf : cells ≤ 630607 ∧ slots ≤ 7209803) (hdg : decode cL_law pc = .ok (.invokevirtual 86, 3))
    (kk : W p l e room_1 s m #[Value.ref b] below meth c H locs cells slots Q (F0 m (pc + 3) ls (.int v :: rest))) : W p l e room_1 s m #[Value.ref b] below meth c H locs cells slots Q (F0 m pc ls (.int (nI i) :: .int (nI k) :: .ref (ad Z 0) :: rest)) := by
  subst hv
  have hP := va_P_init h.1
  refine go_Pi (run_V (rest := rest) X.1 X.2.1 hls (c_X4_waitedFor l hV (nI k) (nI_pos (by omega)) (in_n hn hk) (nI i) (nI_pos (by omega)) (in_n hn hi) hL) k_X4_waitedFor ⟨rfl, rfl, Nat.le_of_ble_eq_true rfl, Nat.le_of_ble_eq_true rfl⟩ gw_485 gw_327 gw_328 hP (rv_bay X.1 hP) rfl rfl hrm hf hdg) ?_
  rw [nI_clamp (by omega), nI_clamp (by omega)]
  exact kk
theorem L_waitsFor (X : LC Z p s m c b L xs) (h : LH Z V ex s H locs) (hls : ls.size = 22) (hV : V 0 = S) (hL : Lim S) (hn : (S 6 0 0).toNatClampNeg = n) (hn8 : n ≤ 8) (hk : k < n) (hv : S 44 k 0 = v) (hrm : (rest.map fun v => v.category).sum ≤ 8) (hf : cells ≤ 630607 ∧ slots ≤ 7209803) (hdg : decode cL_law pc = .ok (.invokevirtual 83, 3))
    (kk : W p l e room_1 s m #[Value.ref b] below meth c H locs cells slots Q (F0 m (pc + 3) ls (.int v :: rest))) : W p l e room_1 s m #[Value.ref b] below meth c H locs cells slots Q (F0 m pc ls (.int (nI k) :: .ref (ad Z 0) :: rest)) := by
  subst hv
  have hP := va_P_init h.1
  refine go_Pi (run_V (rest := rest) X.1 X.2.1 hls (c_X4_waitsFor l hV (nI k) (nI_pos (by omega)) (in_n hn hk) hL) k_X4_waitsFor ⟨rfl, rfl, Nat.le_of_ble_eq_true rfl, Nat.le_of_ble_eq_true rfl⟩ gw_484 gw_317 gw_318 hP (rv_bay X.1 hP) rfl rfl hrm hf hdg) ?_
  rw [nI_clamp (by omega)]
  exact kk
theorem L_isStuck (X : LC Z p s m c b L xs) (h : LH Z V ex s H locs) (hls : ls.size = 22) (hV : V 0 = S) (hL : Lim S) (hn : nT S = n) (hk : k < n) (hv : b2i (stuckF S k) = v) (hrm : (rest.map fun v => v.category).sum ≤ 8) (hf : cells ≤ 630607 ∧ slots ≤ 7209803) (hdg : decode cL_law pc = .ok (.invokevirtual 79, 3))
    (kk : W p l e room_1 s m #[Value.ref b] below meth c H locs cells slots Q (F0 m (pc + 3) ls (.int v :: rest))) : W p l e room_1 s m #[Value.ref b] below meth c H locs cells slots Q (F0 m pc ls (.int (nI k) :: .ref (ad Z 0) :: rest)) := by
  subst hv
  have hP := va_P_init h.1
  refine go_Pi (run_V (rest := rest) X.1 X.2.1 hls (c_X4_isStuck l hV k (by omega) hL) k_X4_isStuck ⟨rfl, rfl, Nat.le_of_ble_eq_true rfl, Nat.le_of_ble_eq_true rfl⟩ gw_483 gw_322 gw_323 hP (rv_bay X.1 hP) rfl rfl hrm hf hdg) ?_
  exact kk
theorem L_many (X : LC Z p s m c b L xs) (h : LH Z V ex s H locs) (hls : ls.size = 22) (hV : V 0 = S) (hL : Lim S) (hj : j ≤ 6) (hv : manyF S j = v) (hrm : (rest.map fun v => v.category).sum ≤ 8) (hf : cells ≤ 630607 ∧ slots ≤ 7209803) (hdg : decode cL_law pc = .ok (.invokevirtual 70, 3))
    (kk : W p l e room_1 s m #[Value.ref b] below meth c H locs cells slots Q (F0 m (pc + 3) ls (.int v :: rest))) : W p l e room_1 s m #[Value.ref b] below meth c H locs cells slots Q (F0 m pc ls (.int (nI j) :: .ref (ad Z 0) :: rest)) := by
  subst hv
  have hP := va_P_init h.1
  refine go_Pi (run_V (rest := rest) X.1 X.2.1 hls (c_X4_many l hV j hj hL) k_X4_many ⟨rfl, rfl, Nat.le_of_ble_eq_true rfl, Nat.le_of_ble_eq_true rfl⟩ gw_480 gw_233 gw_234 hP (rv_bay X.1 hP) rfl rfl hrm hf hdg) ?_
  exact kk
theorem L_digest (X : LC Z p s m c b L xs) (h : LH Z V ex s H locs) (hls : ls.size = 22) (hV : V 0 = S) (hL : Lim S) (hrm : (rest.map fun v => v.category).sum ≤ 8) (hf : cells ≤ 630607 ∧ slots ≤ 7209803) (hdg : decode cL_law pc = .ok (.invokevirtual 57, 3))
    (kk : W p l e room_1 s m #[Value.ref b] below meth c H locs cells slots Q (F0 m (pc + 3) ls (.long (digF S) :: rest))) : W p l e room_1 s m #[Value.ref b] below meth c H locs cells slots Q (F0 m pc ls (.ref (ad Z 0) :: rest)) := by
  have hP := va_P_init h.1
  exact go_Pl (run_V (rest := rest) X.1 X.2.1 hls (c_X4_digest l hV hL) k_X4_digest ⟨rfl, rfl, Nat.le_of_ble_eq_true rfl, Nat.le_of_ble_eq_true rfl⟩ gw_219 gw_220 gw_221 hP (rv_bay X.1 hP) rfl rfl hrm hf hdg) kk
theorem L_below (X : LC Z p s m c b L xs) (h : LH Z V ex s H locs) (hls : ls.size = 22) (hn0 : 0 < n) (hn31 : n < 2 ^ 31) {x : Int32} (hrm : (rest.map fun v => v.category).sum ≤ 8) (hf : cells ≤ 630607 ∧ slots ≤ 7209803) (hdg : decode cL_law pc = .ok (.invokestatic 18, 3))
    (kk : W p l e room_1 s m #[Value.ref b] below meth c H locs cells slots Q (F0 m (pc + 3) ls (.int (nI (belowF x n)) :: rest))) : W p l e room_1 s m #[Value.ref b] below meth c H locs cells slots Q (F0 m pc ls (.int (nI n) :: .int x :: rest)) := by
  have hP := va_P_init h.1
  exact go_Pi (run_S (rest := rest) X.1 X.2.1 hls (c_L_below l x n hn0 hn31) k_L_below ⟨rfl, rfl, Nat.le_of_ble_eq_true rfl, Nat.le_of_ble_eq_true rfl⟩ gw_56 gw_57 hP rfl rfl hrm hf hdg) kk
theorem L_cell (X : LC Z p s m c b L xs) (h : LH Z V ex s H locs) (hls : ls.size = 22) (hk31 : k < 2 ^ 31) (hrm : (rest.map fun v => v.category).sum ≤ 8) (hf : cells ≤ 630607 ∧ slots ≤ 7209803) (hdg : decode cL_law pc = .ok (.invokestatic 12, 3))
    (kk : W p l e room_1 s m #[Value.ref b] below meth c H locs cells slots Q (F0 m (pc + 3) ls (.int (cellF L xs k) :: rest))) : W p l e room_1 s m #[Value.ref b] below meth c H locs cells slots Q (F0 m pc ls (.int (nI k) :: .ref b :: rest)) := by
  have hX : va_X b L xs s H := va_X.kept X.2.2.1 (h.2.1.2.1 b X.2.2.2.1 (Nat.not_le.mpr X.2.2.2.1))
  have hL := X.2.2.2.2.1
  exact go_Pi (va_runS (rest := rest) (As := [.ref b, .int (nI k)]) ⟨X.1.1, X.1.2.1, X.2.1, X.1.2.2.1, X.1.2.2.2.1⟩ (c_L_cell l b L xs k (by omega) hk31) ⟨cb_of X.1.2.2.2.1 k_L_cell ⟨rfl, rfl, Nat.le_of_ble_eq_true rfl, Nat.le_of_ble_eq_true rfl⟩ gw_51, X.1.2.2.2.1 _ gw_52⟩ ⟨PC_blind b L xs _, PC_at hX _⟩ rfl rfl hls rfl (lv_room (m := m) (pc := pc) (ls := ls) (rest := .int (nI k) :: .ref b :: rest) hrm) hdg hf) kk
theorem L_block (X : LC Z p s m c b L xs) (h : LH Z V ex s H locs) (hls : ls.size = 22) (hV : V 0 = S) {x : Nat} (h1 : 1 ≤ x) (h9 : x ≤ 9) (hn : S 2 0 0 = nI n) (hn16 : n < 16) (hrm : (rest.map fun v => v.category).sum ≤ 8) (hf : cells ≤ 630607 ∧ slots ≤ 7209803) (hdg : decode cL_law pc = .ok (.invokevirtual 22, 3))
    (kk : ∀ (H1 : Heap) (locs1 : List Loc), LH Z (upL V 0 (blockF S (nI x))) ex s H1 locs1 → W p l e room_1 s m #[Value.ref b] below meth c H1 locs1 cells slots Q (F0 m (pc + 3) ls (.int (S 2 0 0) :: rest))) : W p l e room_1 s m #[Value.ref b] below meth c H locs cells slots Q (F0 m pc ls (.int (nI x) :: .ref (ad Z 0) :: rest)) := by
  have hP := va_P_init h.1
  exact go_XL X h (run_V (rest := rest) X.1 X.2.1 hls (c_X4_block l X.aa hV (nI x) (nI_nlt (b := 1) h1 (by omega)) (nI_le (b := 9) h9 (by omega)) (by rw [hn]; exact nI_pos (by omega)) (by rw [hn]; exact nI_lt (b := 16) hn16 (by omega)) rfl) k_X4_block ⟨rfl, rfl, Nat.le_of_ble_eq_true rfl, Nat.le_of_ble_eq_true rfl⟩ gw_60 gw_61 gw_62 hP (rv_bay X.1 hP) rfl rfl hrm hf hdg) kk
theorem L_route (X : LC Z p s m c b L xs) (h : LH Z V ex s H locs) (hls : ls.size = 22) (hV : V 0 = S) {a a2 x : Nat} {z : Int32} {nb : Nat} (ha : a < 6) (ha2 : a2 < 6) (hne : a ≠ a2) (hb : S 2 0 0 = nI nb) (hb31 : nb < 2 ^ 31) (hx : x < nb) (hz : z = 0 ∨ z = 1) (hn : S 4 0 0 = nI n) (hn16 : n < 16) (hrm : (rest.map fun v => v.category).sum ≤ 8) (hf : cells ≤ 630607 ∧ slots ≤ 7209803) (hdg : decode cL_law pc = .ok (.invokevirtual 26, 3))
    (kk : ∀ (H1 : Heap) (locs1 : List Loc), LH Z (upL V 0 (routeF S (nI a) (nI a2) (nI x) z)) ex s H1 locs1 → W p l e room_1 s m #[Value.ref b] below meth c H1 locs1 cells slots Q (F0 m (pc + 3) ls (.int (S 4 0 0) :: rest))) : W p l e room_1 s m #[Value.ref b] below meth c H locs cells slots Q (F0 m pc ls (.int z :: .int (nI x) :: .int (nI a2) :: .int (nI a) :: .ref (ad Z 0) :: rest)) := by
  have hP := va_P_init h.1
  exact go_XL X h (run_V (rest := rest) X.1 X.2.1 hls (c_X4_route l X.aa hV (nI a) (nI a2) (nI x) z (nI_pos (by omega)) (nI_lt (b := 6) ha (by omega)) (nI_pos (by omega)) (nI_lt (b := 6) ha2 (by omega)) (nI_pos (by omega)) (by rw [hb]; exact nI_lt hx hb31) (fun e => hne (nI_inj (by omega) (by omega) e)) hz (by rw [hn]; exact nI_pos (by omega)) (by rw [hn]; exact nI_lt (b := 16) hn16 (by omega)) rfl) k_X4_route ⟨rfl, rfl, Nat.le_of_ble_eq_true rfl, Nat.le_of_ble_eq_true rfl⟩ gw_74 gw_75 gw_76 hP (rv_bay X.1 hP) rfl rfl hrm hf hdg) kk
theorem L_over (X : LC Z p s m c b L xs) (h : LH Z V ex s H locs) (hls : ls.size = 22) (hV : V 0 = S) (hL : Lim S) {y nb c0 : Nat} (hr : S 4 0 0 = nI n) (hr31 : n < 2 ^ 31) (hk : k < n) (hb : S 2 0 0 = nI nb) (hb31 : nb < 2 ^ 31) (hy : y < nb) (hc : S 23 k 0 = nI c0) (hc5 : c0 < 5) (hnb : hasBlockF S k (nI y) c0 = false) (h6 : S 6 0 0 = 0) (hrm : (rest.map fun v => v.category).sum ≤ 8) (hf : cells ≤ 630607 ∧ slots ≤ 7209803) (hdg : decode cL_law pc = .ok (.invokevirtual 36, 3))
    (kk : ∀ (H1 : Heap) (locs1 : List Loc), LH Z (upL V 0 (addBlockF S k (nI y))) ex s H1 locs1 → ∀ r : Int32, W p l e room_1 s m #[Value.ref b] below meth c H1 locs1 cells slots Q (F0 m (pc + 3) ls (.int r :: rest))) : W p l e room_1 s m #[Value.ref b] below meth c H locs cells slots Q (F0 m pc ls (.int (nI y) :: .int (nI k) :: .ref (ad Z 0) :: rest)) := by
  have hP := va_P_init h.1
  have ek : (nI k).toNatClampNeg = k := nI_clamp (by omega)
  have hu : inUseF S (nI k) (nT S) = false := by unfold nT; rw [h6]; rfl
  exact go_XL X h (run_V (rest := rest) X.1 X.2.1 hls (c_X4_over l X.aa hV (nI k) (nI_pos (by omega)) (by rw [hr]; exact nI_lt hk hr31) (nI y) (nI_pos (by omega)) (by rw [hb]; exact nI_lt hy hb31) (by rw [ek, hc, nI_clamp (by omega)]; exact hnb) (by rw [ek, hc]; exact le_no (a := 5) hc5 (by omega)) hu hL (V' := upL V 0 (addBlockF S k (nI y))) (by rw [ek])) k_X4_over ⟨rfl, rfl, Nat.le_of_ble_eq_true rfl, Nat.le_of_ble_eq_true rfl⟩ gw_135 gw_136 gw_137 hP (rv_bay X.1 hP) rfl rfl hrm hf hdg) (fun H1 locs1 q => kk H1 locs1 q _)
theorem L_order (X : LC Z p s m c b L xs) (h : LH Z V ex s H locs) (hls : ls.size = 22) (hV : V 0 = S) {a a2 : Nat} (ha : a ≤ 2) (ha2 : a2 ≤ 9) (hrm : (rest.map fun v => v.category).sum ≤ 8) (hf : cells ≤ 630607 ∧ slots ≤ 7209803) (hdg : decode cL_law pc = .ok (.invokevirtual 54, 3))
    (kk : ∀ (H1 : Heap) (locs1 : List Loc), LH Z (upL V 0 (orderF S (nI a) (nI a2))) ex s H1 locs1 → W p l e room_1 s m #[Value.ref b] below meth c H1 locs1 cells slots Q (F0 m (pc + 3) ls (.int (S 7 0 0) :: rest))) : W p l e room_1 s m #[Value.ref b] below meth c H locs cells slots Q (F0 m pc ls (.int (nI a2) :: .int (nI a) :: .ref (ad Z 0) :: rest)) := by
  have hP := va_P_init h.1
  exact go_XL X h (run_V (rest := rest) X.1 X.2.1 hls (c_X4_order l X.aa hV (nI a) (nI a2) (nI_pos (by omega)) (nI_le (b := 2) ha (by omega)) (nI_pos (by omega)) (nI_le (b := 9) ha2 (by omega)) rfl) k_X4_order ⟨rfl, rfl, Nat.le_of_ble_eq_true rfl, Nat.le_of_ble_eq_true rfl⟩ gw_213 gw_214 gw_215 hP (rv_bay X.1 hP) rfl rfl hrm hf hdg) kk
theorem L_train (X : LC Z p s m c b L xs) (h : LH Z V ex s H locs) (hls : ls.size = 22) (hV : V 0 = S) (hL : Lim S) {a a2 x t : Nat} (ha : a ≤ 9) (h21 : 1 ≤ a2) (h23 : a2 ≤ 3) (hx : x < 6) (ht : t ≤ 9999) (hn : S 6 0 0 = nI n) (hn8 : n < 8) (hroom : hasRoomF S (nI x) = true) (hrm : (rest.map fun v => v.category).sum ≤ 8) (hf : cells ≤ 630607 ∧ slots ≤ 7209803) (hdg : decode cL_law pc = .ok (.invokevirtual 42, 3))
    (kk : ∀ (H1 : Heap) (locs1 : List Loc), LH Z (upL V 0 (trainF S (nI a) (nI a2) (nI x) (nI t))) ex s H1 locs1 → W p l e room_1 s m #[Value.ref b] below meth c H1 locs1 cells slots Q (F0 m (pc + 3) ls (.int (S 6 0 0) :: rest))) : W p l e room_1 s m #[Value.ref b] below meth c H locs cells slots Q (F0 m pc ls (.int (nI t) :: .int (nI x) :: .int (nI a2) :: .int (nI a) :: .ref (ad Z 0) :: rest)) := by
  have hP := va_P_init h.1
  exact go_XL X h (run_V (rest := rest) X.1 X.2.1 hls (c_X4_train l X.aa hV (nI a) (nI a2) (nI x) (nI t) (nI_pos (by omega)) (nI_le (b := 9) ha (by omega)) (nI_nlt (b := 1) h21 (by omega)) (nI_le (b := 3) h23 (by omega)) (nI_pos (by omega)) (nI_lt (b := 6) hx (by omega)) (nI_pos (by omega)) (nI_le (b := 9999) ht (by omega)) (by rw [hn]; exact nI_pos (by omega)) (by rw [hn]; exact le_no (a := 8) hn8 (by omega)) hroom hL rfl) k_X4_train ⟨rfl, rfl, Nat.le_of_ble_eq_true rfl, Nat.le_of_ble_eq_true rfl⟩ gw_166 gw_167 gw_168 hP (rv_bay X.1 hP) rfl rfl hrm hf hdg) kk
theorem L_stop (X : LC Z p s m c b L xs) (h : LH Z V ex s H locs) (hls : ls.size = 22) (hV : V 0 = S) (hL : Lim S) {y t c0 y0 t0 : Nat} (hn : S 6 0 0 = nI n) (hn31 : n < 2 ^ 31) (hk : k < n) (hy : y < 6) (ht : t ≤ 9999) (hc : S 32 k 0 = nI (c0 + 1)) (hc8 : c0 < 7) (h33 : S 33 k c0 = nI y0) (hy0 : y0 < 6) (hyy : y ≠ y0) (h34 : S 34 k c0 = nI t0) (htt : t0 ≤ t) (hd : S 36 k 0 ≠ -1) (hrm : (rest.map fun v => v.category).sum ≤ 8) (hf : cells ≤ 630607 ∧ slots ≤ 7209803) (hdg : decode cL_law pc = .ok (.invokevirtual 50, 3))
    (kk : ∀ (H1 : Heap) (locs1 : List Loc), LH Z (upL V 0 (addStopF S k (nI y) (nI t))) ex s H1 locs1 → ∀ r : Int32, W p l e room_1 s m #[Value.ref b] below meth c H1 locs1 cells slots Q (F0 m (pc + 3) ls (.int r :: rest))) : W p l e room_1 s m #[Value.ref b] below meth c H locs cells slots Q (F0 m pc ls (.int (nI t) :: .int (nI y) :: .int (nI k) :: .ref (ad Z 0) :: rest)) := by
  have hP := va_P_init h.1
  have ek : (nI k).toNatClampNeg = k := nI_clamp (by omega)
  have et : timeF S k (nI c0) = nI t0 := by
    unfold timeF
    rw [if_neg (nI_pos (by omega)), if_neg (show ¬ (8 : Int32) ≤ nI c0 from le_no (a := 8) (by omega) (by omega)), nI_clamp (by omega), h34]
  have es : stationF S k (nI c0) = nI y0 := by
    unfold stationF
    rw [if_neg (nI_pos (by omega)), if_neg (show ¬ (8 : Int32) ≤ nI c0 from le_no (a := 8) (by omega) (by omega)), nI_clamp (by omega), h33]
  exact go_XL X h (run_V (rest := rest) X.1 X.2.1 hls (c_X4_stop l X.aa hV (nI k) (nI_pos (by omega)) (by rw [hn]; exact nI_lt hk hn31) (nI y) (nI t) (nI_pos (by omega)) (nI_lt (b := 6) hy (by omega)) (nI_pos (by omega)) (nI_le (b := 9999) ht (by omega)) (by rw [ek, hc, nI_pred, et]; exact nI_nlt htt (by omega)) (by rw [ek, hc, nI_pred, es]; exact fun e => hyy (nI_inj (by omega) (by omega) e)) (by rw [ek, hc]; exact le_no (a := 8) (by omega) (by omega)) (by rw [ek]; exact decide_eq_false (fun q => hd q.1)) hL (V' := upL V 0 (addStopF S k (nI y) (nI t))) (by rw [ek])) k_X4_stop ⟨rfl, rfl, Nat.le_of_ble_eq_true rfl, Nat.le_of_ble_eq_true rfl⟩ gw_205 gw_206 gw_207 hP (rv_bay X.1 hP) rfl rfl hrm hf hdg) (fun H1 locs1 q => kk H1 locs1 q _)
theorem L_tick (X : LC Z p s m c b L xs) (h : LH Z V ex s H locs) (hls : ls.size = 22) (hV : V 0 = S) (hL : Lim S) (hrm : (rest.map fun v => v.category).sum ≤ 8) (hf : cells ≤ 630607 ∧ slots ≤ 7209803) (hdg : decode cL_law pc = .ok (.invokevirtual 67, 3))
    (kk : ∀ (H1 : Heap) (locs1 : List Loc), LH Z (upL V 0 (tickF S)) ex s H1 locs1 → ∀ r : Int32, W p l e room_1 s m #[Value.ref b] below meth c H1 locs1 cells slots Q (F0 m (pc + 3) ls (.int r :: rest))) : W p l e room_1 s m #[Value.ref b] below meth c H locs cells slots Q (F0 m pc ls (.int 1 :: .ref (ad Z 0) :: rest)) := by
  have hP := va_P_init h.1
  exact go_XL X h (run_V (rest := rest) X.1 X.2.1 hls (c_X4_tick l X.aa hV 1 (by decide) (by decide) hL (V' := upL V 0 (tickF S)) (by rw [ticks1])) k_X4_tick ⟨rfl, rfl, Nat.le_of_ble_eq_true rfl, Nat.le_of_ble_eq_true rfl⟩ gw_476 gw_477 gw_478 hP (rv_bay X.1 hP) rfl rfl hrm hf hdg) (fun H1 locs1 q => kk H1 locs1 q _)
theorem L_stuckIn (X : LC Z p s m c b L xs) (h : LH Z V ex s H locs) (hls : ls.size = 22) (hV : V 0 = S) (hV1 : V 1 = U) (hL : Lim S) (hz : ∀ k, k < nR S → S 22 k 0 = 0 ∨ S 22 k 0 = 1) (hU : takeF U S = S) (hrm : (rest.map fun v => v.category).sum ≤ 8) (hf : cells ≤ 630607 ∧ slots ≤ 7209803) (hdg : decode cL_law pc = .ok (.invokevirtual 61, 3))
    (kk : ∀ (H1 : Heap) (locs1 : List Loc), LH Z (upL V 1 (stuckInS S)) ex s H1 locs1 → W p l e room_1 s m #[Value.ref b] below meth c H1 locs1 cells slots Q (F0 m (pc + 3) ls (.int (stuckInF S) :: rest))) : W p l e room_1 s m #[Value.ref b] below meth c H locs cells slots Q (F0 m pc ls (.int 1 :: .ref (ad Z 0) :: rest)) := by
  have hP := va_P_init h.1
  have h2 := c_X4_stuckIn l X.aa hV hV1 hL hz rfl
  rw [hU] at h2
  exact go_XL X h (run_V (rest := rest) X.1 X.2.1 hls h2 k_X4_stuckIn ⟨rfl, rfl, Nat.le_of_ble_eq_true rfl, Nat.le_of_ble_eq_true rfl⟩ gw_331 gw_332 gw_333 hP (rv_bay X.1 hP) rfl rfl hrm hf hdg) kk
theorem L_doneIn (X : LC Z p s m c b L xs) (h : LH Z V ex s H locs) (hls : ls.size = 22) (hV : V 0 = S) (hV1 : V 1 = U) (hL : Lim S) (hz : ∀ k, k < nR S → S 22 k 0 = 0 ∨ S 22 k 0 = 1) (hU : takeF U S = S) (hn : (S 6 0 0).toNatClampNeg = n) (hn8 : n ≤ 8) (hk : k < n) (hrm : (rest.map fun v => v.category).sum ≤ 8) (hf : cells ≤ 630607 ∧ slots ≤ 7209803) (hdg : decode cL_law pc = .ok (.invokevirtual 64, 3))
    (kk : ∀ (H1 : Heap) (locs1 : List Loc), LH Z (upL V 1 (doneInS S k)) ex s H1 locs1 → W p l e room_1 s m #[Value.ref b] below meth c H1 locs1 cells slots Q (F0 m (pc + 3) ls (.int (doneInF S k) :: rest))) : W p l e room_1 s m #[Value.ref b] below meth c H locs cells slots Q (F0 m pc ls (.int 1 :: .int (nI k) :: .ref (ad Z 0) :: rest)) := by
  have hP := va_P_init h.1
  have h2 := c_X4_doneIn l X.aa hV hV1 (nI k) (nI_pos (by omega)) (in_n hn hk) hL hz rfl
  rw [hU, nI_clamp (by omega)] at h2
  exact go_XL X h (run_V (rest := rest) X.1 X.2.1 hls h2 k_X4_doneIn ⟨rfl, rfl, Nat.le_of_ble_eq_true rfl, Nat.le_of_ble_eq_true rfl⟩ gw_472 gw_473 gw_474 hP (rv_bay X.1 hP) rfl rfl hrm hf hdg) kk
end LAWCALLS
