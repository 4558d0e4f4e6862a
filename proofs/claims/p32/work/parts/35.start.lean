/-! The law from its entry. -/
set_option maxRecDepth 20000 in
theorem gSix : ∀ w ∈ ([Cond.methodLinkNest RX1 37 yX0_init RX4, Cond.methodLinkNest RX1 38 yX2_init RX4, Cond.methodLinkNest RX1 39 yX3_init RX4, Cond.arrayOver (.object RX0), Cond.arrayOver (.object RX2), Cond.arrayOver (.object RX3)] : List Cond), w ∈ lw_tbl := gsub _ [56, 83, 111, 50, 52, 54] (by rfl)
theorem arr_int {s : State} {args : Array Value} (h : (Cond.arrayClass .int).before args s = true) : ∃ cA : ClassId, ArrOfT s cA .int ∧ va_RA s cA .int := by
  obtain ⟨cA, kA, comp, h1, h2, h3⟩ := Cond.arrayClass_spec h
  exact ⟨cA, fun n z => ⟨fun k h => (by cases h), kA, h2, comp, h3⟩, h1⟩
theorem arr_obj {s : State} {args : Array Value} {C : String} (h : (Cond.arrayOver (.object C)).before args s = true) : ∃ cA : ClassId, ArrOfT s cA (.object C) ∧ va_RA s cA (.object C) := by
  obtain ⟨comp, cA, kA, f1, f2, f3, f4, f5⟩ := Cond.arrayOver_spec h
  exact ⟨cA, fun n z => ⟨fun k h => (by cases h), kA, f3, comp, f4⟩, kA, comp, f3, f4, f1, f5⟩
theorem gm_of {s : State} {b : Nat} (hts : ∀ w ∈ lw_tbl, w.before #[Value.ref b] s = true) : ∃ Z : Gm, (∀ n, ad Z n = s.heap.size + n) ∧ va_K (gD Z) vwCl (gT Z) s := by
  have hg : ∀ w ∈ gG, w.before #[Value.ref b] s = true := fun w h => hts w (gG_in w h)
  obtain ⟨k0, i0, n0⟩ := u_known (C := RX0) (T := TX0) (N := 4) (n := 4) hg gC0 (hg _ gw_27)
  obtain ⟨k1, i1, n1⟩ := u_known (C := RX1) (T := TX1) (N := 10) (n := 10) hg gC1 (hg _ gw_11)
  obtain ⟨k2, i2, n2⟩ := u_known (C := RX2) (T := TX2) (N := 5) (n := 5) hg gC2 (hg _ gw_29)
  obtain ⟨k3, i3, n3⟩ := u_known (C := RX3) (T := TX3) (N := 16) (n := 16) hg gC3 (hg _ gw_31)
  obtain ⟨k4, i4, n4⟩ := u_known (C := RX4) (T := TX4) (N := 2) (n := 2) hg gC4 (hg _ gw_1)
  obtain ⟨a0, x0, y0⟩ := arr_int (hg _ gw_3)
  obtain ⟨a1, x1, y1⟩ := arr_obj (hts _ (gSix _ (List.mem_of_getElem? (i := 3) rfl)))
  obtain ⟨a2, x2, y2⟩ := arr_obj (hts _ (gSix _ (List.mem_of_getElem? (i := 4) rfl)))
  obtain ⟨a3, x3, y3⟩ := arr_obj (hts _ (gSix _ (List.mem_of_getElem? (i := 5) rfl)))
  refine ⟨(fun n => s.heap.size + n, (fun k => if k = 0 then k0 else if k = 1 then k1 else if k = 2 then k2 else if k = 3 then k3 else k4, fun k => if k = 0 then i0 else if k = 1 then i1 else if k = 2 then i2 else if k = 3 then i3 else i4), (a0, a1, a2, a3)), fun _ => rfl, fun k q hq => ?_, fun k q hq => ?_⟩
  · match k, hq with
    | 0, hq => cases hq; exact n0
    | 1, hq => cases hq; exact n1
    | 2, hq => cases hq; exact n2
    | 3, hq => cases hq; exact n3
    | 4, hq => cases hq; exact n4
    | k + 5, hq => simp [vwCl] at hq
  · match k, hq with
    | 0, hq => cases hq; exact ⟨x0, y0⟩
    | 1, hq => cases hq; exact ⟨x1, y1⟩
    | 2, hq => cases hq; exact ⟨x2, y2⟩
    | 3, hq => cases hq; exact ⟨x3, y3⟩
    | k + 4, hq => simp [gT] at hq
set_option maxHeartbeats 4000000 in
set_option maxRecDepth 20000 in
theorem whole_start {p : Program} {e : Env} {s : State} {m : MethodId} {below : List Frame} {meth : Method} {c : Code} (l : Launch) (hflags : l.flags = flags0) {b L : Nat} {xs : Nat → Int32} (hL : L ≤ 260) (C0 : lw_At p s m meth c b L xs) : W p l e room_1 s m #[Value.ref b] below meth c s.heap [] 0 0 (lw_Z below #[Value.ref b] s) (entryFrame m ([Value.ref b] : List Value).toArray 22) := by
  obtain ⟨hx, hb, hr, hml, hown, hts, hX, hbl, hlk, hgv⟩ := id C0
  obtain ⟨Z, hZ, hK⟩ := gm_of hts
  have hg : ∀ w ∈ gG, w.before #[Value.ref b] s = true := fun w h => hts w (gG_in w h)
  have E : EE Z p s m #[Value.ref b] c cL_law RL := ⟨hx, hb, hown, hg, hK⟩
  have X : LC Z p s m c b L xs := ⟨E, hml, hX, hbl, hL, fun n _ => hZ n⟩
  have hXt : Ext s := ⟨va_Nw.of rfl (hts _ (gSix _ (List.mem_of_getElem? (i := 0) rfl))), va_Nw.of rfl (hts _ (gSix _ (List.mem_of_getElem? (i := 1) rfl))), va_Nw.of rfl (hts _ (gSix _ (List.mem_of_getElem? (i := 2) rfl))), va_AO.of (hts _ (gSix _ (List.mem_of_getElem? (i := 3) rfl))), va_AO.of (hts _ (gSix _ (List.mem_of_getElem? (i := 4) rfl))), va_AO.of (hts _ (gSix _ (List.mem_of_getElem? (i := 5) rfl)))⟩
  have hl := lv_entry ([.ref b]) (n := 22) (Nat.le_of_ble_eq_true rfl)
  rw [lg_entry_eq]
  generalize (lg_sl ([.ref b]) ++ List.replicate (22 - (lg_sl ([.ref b])).length) Slot.unset).toArray = ls at hl ⊢
  have hl : lv_has ls 22 [(0, .ref b)] := hl
  have hS : va_S (fun q => s.heap.size ≤ q) s.heap s.heap [] := va_S.rf
  have hP : va_P (gD Z) vwCl [] s.heap := fun k q h => by simp at h
  refine n_obj E hP hS (ci := 4) (T := TX4) (N := 2) rfl gC4 tyX4 tyX4_ok gw_0 gw_1 gw_2 (fs := [.null, .null]) (fun j hj => by rcases (show j = 0 ∨ j = 1 by omega) with rfl | rfl <;> rfl) (Nat.le_of_ble_eq_true rfl) (Nat.le_of_ble_eq_true rfl) dL_law_0 (h := ad Z 0) (hZ 0).symm (fun H hz hP hS => ?_)
  have hP : va_P (gD Z) vwCl [(ad Z 0, .inr (4, [.null, .null]))] H := hP
  refine lv_dup hx hb dL_law_3 rfl ?_
  have hq : ∀ n, n < 171 → ad Z n = ad Z 0 + n := fun n _ => by rw [hZ n, hZ 0]; omega
  refine go_I (run_I (rest := [.ref (ad Z 0)]) E hXt hml hl.1 (c_X4_init l Z hq) k_X4_init ⟨rfl, rfl, Nat.le_of_ble_eq_true rfl, Nat.le_of_ble_eq_true rfl⟩ gw_4 hz hP rfl (Nat.le_of_ble_eq_true rfl) ⟨Nat.le_of_ble_eq_true rfl, Nat.le_of_ble_eq_true rfl⟩ dL_law_4) hS (fun x h => by have := hZ 0; show s.heap.size ≤ x; omega) (by rw [hz]; omega) (fun H locs hz hP hk hS => ?_)
  refine W.cs (cells' := 171) (slots' := 1202) rfl rfl ?_
  have h : LH Z (fun _ => initS) [] s H locs := ⟨by rw [List.append_nil]; exact hP, hS, fun k x h => by simp at h, fun i j x y h => by simp at h⟩
  have hf : 171 ≤ 630607 ∧ 1202 ≤ 7209803 := ⟨Nat.le_of_ble_eq_true rfl, Nat.le_of_ble_eq_true rfl⟩
  refine lv_astore_n (lv' := [(1, .ref (ad Z 0)), (0, .ref b)]) X.1.1 X.1.2.1 dL_law_7 rfl hl (by decide) rfl (fun ls hl => ?_)
  refine lv_iconst (v := 3) X.1.1 X.1.2.1 dL_law_8 (by decide) ?_
  refine lv_aload_n X.1.1 X.1.2.1 dL_law_9 rfl (lv_at hl 1 rfl) ?_
  refine lv_iconst (v := 0) X.1.1 X.1.2.1 dL_law_10 (by decide) ?_
  refine L_cell (rest := [.int 3]) X h hl.1 (k := 0) (by omega) (Nat.le_of_ble_eq_true rfl) hf dL_law_11 ?_
  refine lv_iconst (v := 5) X.1.1 X.1.2.1 dL_law_14 (by decide) ?_
  refine L_below (rest := [.int 3]) X h hl.1 (n := 5) (by decide) (by decide) (Nat.le_of_ble_eq_true rfl) hf dL_law_15 ?_
  refine lv_iadd X.1.1 X.1.2.1 dL_law_18 ?_
  rw [show (3 + (nI (belowF (cellF L xs 0) 5)) : Int32) = (nI (3 + (belowF (cellF L xs 0) 5))) from nI_add 3 _]
  refine lv_istore_n (lv' := [(2, .int (nI (3 + (belowF (cellF L xs 0) 5)))), (1, .ref (ad Z 0)), (0, .ref b)]) X.1.1 X.1.2.1 dL_law_19 rfl hl (by decide) rfl (fun ls hl => ?_)
  refine lv_iconst (v := 0) X.1.1 X.1.2.1 dL_law_20 (by decide) ?_
  refine lv_istore_n (lv' := [(3, .int 0), (2, .int (nI (3 + (belowF (cellF L xs 0) 5)))), (1, .ref (ad Z 0)), (0, .ref b)]) X.1.1 X.1.2.1 dL_law_21 rfl hl (by decide) rfl (fun ls hl => ?_)
  have hq5 := below_lt (cellF L xs 0) (n := 5) (by decide)
  exact law_22 l X hr hlk (nb := 3 + (belowF (cellF L xs 0) 5)) (by omega) (by omega) (3 + (belowF (cellF L xs 0) 5) + 1) 0 (by omega) (Nat.zero_le _) initS _ H locs ls Bld_0 rfl rfl h (lv_sub hl [3, 2, 1, 0] rfl)
set_option maxHeartbeats 4000000 in
theorem lw_walk (l : Launch) (hflags : l.flags = flags0) (b : Addr) (xs : List Int32) : MetFree l x (headSpec (Jvm.Cond.code x code maxLocals ret :: tables_1) room_1) (lw_P b xs) (fun _ _ _ _ _ => True) lw_Q := by
  refine MetFree.of_bodyS (code := code) (maxLocals := maxLocals) (ret := ret) (by decide) ?_ ?_
  · intro args s m h hn
    obtain ⟨meth, c, h1, h2, h3, h4, h5, h6, -, -⟩ := Cond.code_spec hn (atoms_spec (ws := Jvm.Cond.code x code maxLocals ret :: tables_1) h _ List.mem_cons_self)
    exact ⟨meth, c, h1, h2, h3, h4, h5, h6⟩
  · intro p e s m args below meth c s₁ B hml0 hP _
    obtain ⟨rfl, hx, hbd, hgv⟩ := hP
    obtain ⟨scr, harrAt, hlist, hof, hsmall⟩ := hx
    obtain ⟨hcb, hkn, -, -⟩ := State.arrayAt?_spec harrAt
    have hown : s.vm.findClass R_law = some m.cls := findClass_of_methodNamed B.named
    have hts0 : ∀ c ∈ (Jvm.Cond.code x code maxLocals ret :: tables_1), c.before #[Value.ref b] s = true := atoms_spec (ws := Jvm.Cond.code x code maxLocals ret :: tables_1) B.pre
    have hts : ∀ w ∈ lw_tbl, w.before #[Value.ref b] s = true := k2_hts_sels lw_privs (fun w hw => hts0 w (List.mem_cons_of_mem _ hw)) lw_privs_ok
    have hml : c.maxLocals = 22 := B.maxLocals_eq (hts0 _ List.mem_cons_self)
    have X₀ : Stand p l e room_1 s m #[Value.ref b] below meth c s₁ [] 0 0 := Stand.of_body B
    have hh0 : s₁.heap = s.heap := by rw [B.state]; rfl
    have hsz : scr.slots.size = xs.length := by rw [← Array.length_toList, hlist, List.length_map]
    have hval : ∀ j : Nat, j < xs.length → scr.slots[j]? = some (.int (xs.getD j 0)) := fun j hj => by
      rw [← Array.getElem?_toList, hlist]
      simp [hj]
    have hbl : b < s.heap.size := (Array.getElem?_eq_some_iff.mp hcb).1
    have hX : va_X b xs.length (fun j => xs.getD j 0) s s.heap := ⟨scr, hcb, hof, hkn, hsz, hval⟩
    have K : W p l e room_1 s m #[Value.ref b] below meth c s₁.heap [] 0 0 (lw_Z below #[Value.ref b] s) (entryFrame m ([Value.ref b] : List Value).toArray 22) := by
      rw [hh0]
      exact whole_start l hflags hbd ⟨B.exec, B.bytes, B.returns, hml, hown, hts, hX, hbl, B.notSynchronized, hgv⟩
    obtain ⟨t, a1, o, b1, b2, b3⟩ := K s₁ rfl X₀
    exact ⟨t, o, a1, b1, b2, b3⟩
theorem lw_pre_spec {args : Array Value} {s : State} (h : (Jvm.Cond.and given_1 narrow_1).before args s = true) (hr : rest_1_c.before args s = true) : ∃ (b : Addr) (xs : List Int32), lw_P b xs args s := by
  have hs := flat_of_before _ h
  have hq := flat_of_before _ hr
  have hc : (Cond.count 1).before args s = true := hs _ (by decide +kernel)
  have harr : (Cond.arrayOf (.arg 0) .int).before args s = true := hs _ (by decide +kernel)
  have hle : (Cond.le (.length (.arg 0)) (.int 260)).before args s = true := hs _ (by decide +kernel)
  have hlen : (Cond.isInt (.length (.arg 0))).before args s = true := hq _ (by decide +kernel)
  have hall : (Cond.all (.arg 0) (.isInt (.elem (.arg 0) (.index 0)))).before args s = true := hq _ (by decide +kernel)
  obtain ⟨b, xs, hb, hx⟩ := State.ints_of_pre rfl harr hlen hall
  have hsm : xs.length < 2 ^ 31 := hx.choose_spec.2.2.2
  have hev : (Term.length (.arg 0)).eval args s none [] s = some (.int xs.length.toInt32) := hx.length_eval hb
  have hv := Cond.le_ints hev (show (Term.int 260).eval args s none [] s = some (.int 260) from rfl)
  have hd : xs.length.toInt32 ≤ 260 := by
    simpa [Cond.before, Cond.holds, hv] using hle
  have hN : xs.length ≤ 260 := (Int32.ofNat_le_ofNat hsm (by decide)).mp (show Int32.ofNat xs.length ≤ Int32.ofNat 260 from hd)
  exact ⟨b, xs, Cond.one_arg hc (show args[0]? = some (.ref b) from hb), hx, hN, h⟩
theorem lw_comes (l : Launch) (hflags : l.flags = flags0) : Comes l x (Jvm.Cond.code x code maxLocals ret :: tables_1) room_1 (fun tb e args s => Calls_1 tb e args s ∧ rest_1 tb e args s ∧ Pre_1 tb e args s)
    (fun _ _ args s o t => lw_Q args s o t) := by
  intro p e ha hc hk s m args below hf hfit hheap happ hpre
  obtain ⟨b, xs, hP⟩ := lw_pre_spec hpre.2.2 hpre.2.1
  obtain ⟨k, o, h1, h2, h3, hQ⟩ := lw_walk l hflags b xs p e ha hc hk s m args below hf ((Spec.applies_iff_loose hf).mp happ).1 hP trivial
  exact ⟨k, o, h1, h2, h3, hQ⟩
theorem lw_frame {s t : State} {o : Outcome} {args : Array Value} (h : Framed s o t [] 630607 7209803) :
    Framed s o t (fieldLocs frame_1_writes args s ++ arrayLocs frame_1_arrays args s ++ staticLocs frame_1_statics s) 630607 7209803 := h
theorem lw_limb (L : Cond) (hL : ∀ (args : Array Value) (s t : State), L.after args s (.returned (some (.int 1))) t = true) :
    ArmFor flags0 classFile x code maxLocals ret World_1 tables_1 room_1 Calls_1 rest_1 Pre_1
      (fun tb e a s o t => postC L tb e a s o t ∧ Framed s o t (fieldLocs frame_1_writes a s ++ arrayLocs frame_1_arrays a s ++ staticLocs frame_1_statics s) 630607 7209803) := by
  intro l hflags _ _ p e ha hc hk s m args below hf hfit hheap happ hpre
  obtain ⟨k, o, h1, h2, h3, rfl, hF⟩ := lw_comes l hflags p e ha hc hk s m args below hf hfit hheap happ hpre
  exact ⟨k, _, h1, h2, h3, hL args s _, lw_frame hF⟩
theorem i_vc : Claimed_1_1 ∧ Claimed_1_2 := ⟨lw_limb limb_1_1 (fun args s t => by simp [limb_1_1, Cond.after, Cond.holds, Cond.value]), lw_limb limb_1_2 (fun args s t => Cond.after_iff.mpr (by
  first | (rw [show limb_1_2 = Cond.eq .result (.int 1) from rfl, Cond.eq_ints (x := 1) (y := 1) rfl rfl]; simp; done) | (simp [limb_1_2, Cond.value, Term.eval]; done)))⟩
