/-! The copies: a Line takes what another holds. -/
theorem bw_putG {Z : Gm} {V : Nat → St} {w f k : Nat} {S S' : St} {e : va_E} (hV : V w = S) (hw : w < 2) (hk : if f < 10 then k = 0 else if f < 30 then k < 16 else k < 8) (hne : ∀ f' k' j', ¬ (f' = f ∧ k' = k) → S' f' k' j' = S f' k' j') (he : cellOf Z (upL V w S') (ownc w f k) = e) : (bw Z V).set (ownc w f k) (ad Z (ownc w f k), e) = bw Z (upL V w S') := by
  obtain ⟨h1, h2⟩ := ownc_lt hw hk
  apply List.ext_getElem?
  intro i
  by_cases hi : i < 171
  · rw [List.getElem?_set, bw_at hi, bw_at hi]
    by_cases hn : ownc w f k = i
    · subst hn
      rw [if_pos rfl, if_pos (by simp [bw]; omega), he]
    · rw [if_neg hn]
      refine congrArg (fun e => some (ad Z i, e)) ?_
      unfold cellOf
      by_cases h0 : i = 0
      · rw [if_pos h0, if_pos h0]
      · rw [if_neg h0, if_neg h0]
        by_cases hww : (i - 1) / 85 = w
        · rw [hww, upL_same, hV]
          exact (line_cg (n := ownc w f k) (by omega) (by omega) (fun f' k' j' hne' => hne f' k' j' (by
            rintro ⟨rfl, rfl⟩
            exact hne' rfl))).symm
        · rw [upL_ne hww]
  · rw [List.getElem?_eq_none (by simp [bw]; omega), List.getElem?_eq_none (by simp [bw]; omega)]
section COPY
variable {p : Program} {l : Launch} {e : Env} {R : Room} {s : State} {m : MethodId} {args : Array Value} {below : List Frame} {meth : Method} {c : Code} {H : Heap} {locs : List Loc} {cells slots : Nat} {Q : State → Prop} {cc : ByteArray} {pc nL : Nat} {ls : Array Slot} {rest : List Value} {Z : Gm} {V V' : Nat → St} {w w' k : Nat} {S S' : St} {own : String} {index : Nat} {H0 : Heap}
theorem y_arr {f n : Nat} {N : Int32} (hN : N.toNatClampNeg = n) (hN0 : ¬ N < 0) (hat : ∀ (V1 : Nat → St) (S1 : St) (w1 : Nat), w1 < 2 → V1 w1 = S1 → (bw Z V1)[ownc w1 f k]? = some (ad Z (ownc w1 f k), .inl (Z.2.2.1, n, .inl (fun j => S1 f k j)))) (hk : if f < 10 then k = 0 else if f < 30 then k < 16 else k < 8) (E : EE Z p s m args c cc own) (hml : c.maxLocals = nL) (hls : ls.size = nL) (hP : va_P (gD Z) vwCl (bw Z V) H) (hA : AA Z) (hS : va_S (inW Z) H0 H locs) (hV : V w = S) (hw : w < 2) (hVd : V w' = S') (hw' : w' < 2) (hl : Cond.methodLink own index arraycopyName ∈ gG) (hV' : upL V w' (cpA S' S f k n) = V')
    (hframes : 1 ≤ R.frames) (hlocals : (rest.map fun v => v.category).sum + (nativeFrameWords "java/lang/System" "arraycopy" 5 + 11) ≤ R.locals) (hdg : decode cc pc = .ok (.invokestatic index, 3))
    (kk : ∀ (H1 : Heap) (locs1 : List Loc), va_P (gD Z) vwCl (bw Z V') H1 → va_S (inW Z) H0 H1 locs1 → W p l e R s m args below meth c H1 locs1 cells slots Q (F0 m (pc + 3) ls rest)) : W p l e R s m args below meth c H locs cells slots Q (F0 m pc ls (.int N :: .int 0 :: .ref (ad Z (ownc w' f k)) :: .int 0 :: .ref (ad Z (ownc w f k)) :: rest)) := by
  subst hV'
  refine va_copyi E.1 E.2.1 (hml.trans hls.symm) E.2.2.1 (E.2.2.2.1 _ hl) (E.2.2.2.1 _ gw_340) (E.2.2.2.1 _ gw_341) (E.2.2.2.1 _ gw_342) E.2.2.2.2 hP (bw_D hA V) hS (ownc w f k) (ownc w' f k) 0 0 (hat V S w hw hV) (hat V S' w' hw' hVd) rfl rfl rfl (by decide) (by decide) hN0 (by rw [hN]; exact Nat.le_of_eq (Nat.zero_add n)) (by rw [hN]; exact Nat.le_of_eq (Nat.zero_add n)) (fun i _ => rfl) hframes hlocals hdg (fun H1 locs1 h1 _ h3 => kk H1 locs1 ?_ h3)
  have hb := bw_putG (Z := Z) (f := f) (k := k) (S' := cpA S' S f k n) (e := .inl (Z.2.2.1, n, .inl (va_cpy (fun j => S f k j) (fun j => S' f k j) 0 0 n))) hVd hw' hk (fun f1 k1 j1 h => by
    unfold cpA
    rw [if_neg]
    rintro ⟨rfl, rfl, -⟩
    exact h ⟨rfl, rfl⟩) (by
    have h0 := hat (upL V w' (cpA S' S f k n)) _ w' hw' (upL_same V w' _)
    rw [bw_at (by have := ownc_lt hw' hk; omega)] at h0
    rw [(Prod.mk.inj (Option.some.inj h0)).2]
    have e1 : (fun j => cpA S' S f k n f k j) = va_cpy (fun j => S f k j) (fun j => S' f k j) 0 0 n := by
      funext j
      simp only [cpA, va_cpy]
      by_cases hj : j < n
      · simp [hj]
      · simp [hj]
    rw [e1])
  rw [← hb]
  have z0 : (0 : Int32).toNatClampNeg = 0 := rfl
  rw [z0, hN] at h1
  exact h1
theorem y_pl (E : EE Z p s m args c cc own) (hml : c.maxLocals = nL) (hls : ls.size = nL) (hP : va_P (gD Z) vwCl (bw Z V) H) (hA : AA Z) (hS : va_S (inW Z) H0 H locs) (hV : V w = S) (hw : w < 2) (hVd : V w' = S') (hw' : w' < 2) (hl : Cond.methodLink own index arraycopyName ∈ gG) (hV' : upL V w' (cpA S' S 0 0 6) = V')
    (hframes : 1 ≤ R.frames) (hlocals : (rest.map fun v => v.category).sum + (nativeFrameWords "java/lang/System" "arraycopy" 5 + 11) ≤ R.locals) (hdg : decode cc pc = .ok (.invokestatic index, 3))
    (kk : ∀ (H1 : Heap) (locs1 : List Loc), va_P (gD Z) vwCl (bw Z V') H1 → va_S (inW Z) H0 H1 locs1 → W p l e R s m args below meth c H1 locs1 cells slots Q (F0 m (pc + 3) ls rest)) : W p l e R s m args below meth c H locs cells slots Q (F0 m pc ls (.int 6 :: .int 0 :: .ref (ad Z (cPl w')) :: .int 0 :: .ref (ad Z (cPl w)) :: rest)) :=
  y_arr (f := 0) (k := 0) (n := 6) rfl (by decide) (fun V1 S1 w1 h1 h2 => at_pl h2 h1) (by rw [if_pos (by omega)]) E hml hls hP hA hS hV hw hVd hw' hl hV' hframes hlocals hdg kk
theorem y_st (E : EE Z p s m args c cc own) (hml : c.maxLocals = nL) (hls : ls.size = nL) (hP : va_P (gD Z) vwCl (bw Z V) H) (hA : AA Z) (hS : va_S (inW Z) H0 H locs) (hV : V w = S) (hw : w < 2) (hVd : V w' = S') (hw' : w' < 2) (hk : k < 8) (hl : Cond.methodLink own index arraycopyName ∈ gG) (hV' : upL V w' (cpA S' S 33 k 8) = V')
    (hframes : 1 ≤ R.frames) (hlocals : (rest.map fun v => v.category).sum + (nativeFrameWords "java/lang/System" "arraycopy" 5 + 11) ≤ R.locals) (hdg : decode cc pc = .ok (.invokestatic index, 3))
    (kk : ∀ (H1 : Heap) (locs1 : List Loc), va_P (gD Z) vwCl (bw Z V') H1 → va_S (inW Z) H0 H1 locs1 → W p l e R s m args below meth c H1 locs1 cells slots Q (F0 m (pc + 3) ls rest)) : W p l e R s m args below meth c H locs cells slots Q (F0 m pc ls (.int 8 :: .int 0 :: .ref (ad Z (cSt w' k)) :: .int 0 :: .ref (ad Z (cSt w k)) :: rest)) :=
  y_arr (f := 33) (k := k) (n := 8) rfl (by decide) (fun V1 S1 w1 h1 h2 => at_st h2 h1 hk) (by rw [if_neg (by omega), if_neg (by omega)]; exact hk) E hml hls hP hA hS hV hw hVd hw' hl hV' hframes hlocals hdg kk
theorem y_tm (E : EE Z p s m args c cc own) (hml : c.maxLocals = nL) (hls : ls.size = nL) (hP : va_P (gD Z) vwCl (bw Z V) H) (hA : AA Z) (hS : va_S (inW Z) H0 H locs) (hV : V w = S) (hw : w < 2) (hVd : V w' = S') (hw' : w' < 2) (hk : k < 8) (hl : Cond.methodLink own index arraycopyName ∈ gG) (hV' : upL V w' (cpA S' S 34 k 8) = V')
    (hframes : 1 ≤ R.frames) (hlocals : (rest.map fun v => v.category).sum + (nativeFrameWords "java/lang/System" "arraycopy" 5 + 11) ≤ R.locals) (hdg : decode cc pc = .ok (.invokestatic index, 3))
    (kk : ∀ (H1 : Heap) (locs1 : List Loc), va_P (gD Z) vwCl (bw Z V') H1 → va_S (inW Z) H0 H1 locs1 → W p l e R s m args below meth c H1 locs1 cells slots Q (F0 m (pc + 3) ls rest)) : W p l e R s m args below meth c H locs cells slots Q (F0 m pc ls (.int 8 :: .int 0 :: .ref (ad Z (cTm w' k)) :: .int 0 :: .ref (ad Z (cTm w k)) :: rest)) :=
  y_arr (f := 34) (k := k) (n := 8) rfl (by decide) (fun V1 S1 w1 h1 h2 => at_tm h2 h1 hk) (by rw [if_neg (by omega), if_neg (by omega)]; exact hk) E hml hls hP hA hS hV hw hVd hw' hl hV' hframes hlocals hdg kk
theorem y_wf (E : EE Z p s m args c cc own) (hml : c.maxLocals = nL) (hls : ls.size = nL) (hP : va_P (gD Z) vwCl (bw Z V) H) (hA : AA Z) (hS : va_S (inW Z) H0 H locs) (hV : V w = S) (hw : w < 2) (hVd : V w' = S') (hw' : w' < 2) (hk : k < 8) (hl : Cond.methodLink own index arraycopyName ∈ gG) (hV' : upL V w' (cpA S' S 45 k 8) = V')
    (hframes : 1 ≤ R.frames) (hlocals : (rest.map fun v => v.category).sum + (nativeFrameWords "java/lang/System" "arraycopy" 5 + 11) ≤ R.locals) (hdg : decode cc pc = .ok (.invokestatic index, 3))
    (kk : ∀ (H1 : Heap) (locs1 : List Loc), va_P (gD Z) vwCl (bw Z V') H1 → va_S (inW Z) H0 H1 locs1 → W p l e R s m args below meth c H1 locs1 cells slots Q (F0 m (pc + 3) ls rest)) : W p l e R s m args below meth c H locs cells slots Q (F0 m pc ls (.int 8 :: .int 0 :: .ref (ad Z (cWf w' k)) :: .int 0 :: .ref (ad Z (cWf w k)) :: rest)) :=
  y_arr (f := 45) (k := k) (n := 8) rfl (by decide) (fun V1 S1 w1 h1 h2 => at_wf h2 h1 hk) (by rw [if_neg (by omega), if_neg (by omega)]; exact hk) E hml hls hP hA hS hV hw hVd hw' hl hV' hframes hlocals hdg kk
end COPY
theorem KC_cpA {S' S T : St} {f k n : Nat} (hf : f ≠ 2 ∧ f ≠ 4 ∧ f ≠ 6) (h : KC S' S) : KC (cpA S' T f k n) S := ⟨(if_neg fun q => hf.1 q.1.symm).trans h.1, (if_neg fun q => hf.2.1 q.1.symm).trans h.2.1, (if_neg fun q => hf.2.2 q.1.symm).trans h.2.2⟩
theorem KC_lay {S' S : St} {k : Nat} {a b z : Int32} (h : KC S' S) : KC (layF S' k a b z) S := KC_up (by decide) (KC_up (by decide) (KC_up (by decide) (KC_up (by decide) h)))
theorem KC_addB {S' S : St} {k : Nat} {b : Int32} (h : KC S' S) : KC (addBlockF S' k b) S := by
  unfold addBlockF
  split
  · exact h
  · split
    · exact h
    · exact KC_up (by decide) (KC_up (by decide) h)
theorem KC_addS {S' S : St} {k : Nat} {a b : Int32} (h : KC S' S) : KC (addStopF S' k a b) S := by
  unfold addStopF
  split
  · exact h
  · split
    · exact h
    · exact KC_up (by decide) (KC_up (by decide) (KC_up (by decide) h))
theorem KC_bk {S' S T : St} {k : Nat} (h : KC S' S) : KC (bkCopyF S' T k) S := KC_up (by decide) (KC_up (by decide) (KC_up (by decide) (KC_up (by decide) h)))
theorem KC_trc {S' S T : St} {k : Nat} (h : KC S' S) : KC (trCopyF S' T k) S := by
  unfold trCopyF
  repeat first | exact h | refine KC_cpA (by decide) ?_ | refine KC_up (by decide) ?_
theorem KC_rtc {S' S T : St} {k : Nat} (h : KC S' S) : KC (rtCopyF S' T k) S := KC_tr (KC_iter (fun _ S => KC_addB (KC_refl S)) _ _) (KC_lay h)
def rtI (U S : St) (k n : Nat) : St := iterF (fun i T => addBlockF T k (blockAtF S k (nI i))) n (layF U k (S 20 k 0) (S 21 k 0) (S 22 k 0))
def cpyA (U S : St) : St := up (cpA U S 0 0 6) 2 0 0 (S 2 0 0)
def cpyB (U S : St) (n : Nat) : St := iterF (fun i T => bkCopyF T S i) n (cpyA U S)
def cpyC (U S : St) : St := up (cpyB U S (nB S)) 4 0 0 (S 4 0 0)
def cpyD (U S : St) (n : Nat) : St := iterF (fun i T => rtCopyF T S i) n (cpyC U S)
def cpyE (U S : St) : St := up (cpyD U S (nR S)) 6 0 0 (S 6 0 0)
def cpyF (U S : St) (n : Nat) : St := iterF (fun i T => trCopyF T S i) n (cpyE U S)
def takeF (U S : St) : St := up (up (up (cpyF U S (nT S)) 7 0 0 (S 7 0 0)) 8 0 0 (S 8 0 0)) 9 0 0 (S 9 0 0)
theorem cpyB_2 (U S : St) (n : Nat) : cpyB U S n 2 0 0 = S 2 0 0 := ((KC_iter (fun _ S => KC_bk (KC_refl S)) n (cpyA U S)).1).trans up_s
theorem cpyD_4 (U S : St) (n : Nat) : cpyD U S n 4 0 0 = S 4 0 0 := ((KC_iter (fun _ S => KC_rtc (KC_refl S)) n (cpyC U S)).2.1).trans up_s
theorem cpyF_6 (U S : St) (n : Nat) : cpyF U S n 6 0 0 = S 6 0 0 := ((KC_iter (fun _ S => KC_trc (KC_refl S)) n (cpyE U S)).2.2).trans up_s
abbrev rm_X0_takeFrom : Room := { frames := 0, cells := 0, slots := 0, locals := 0 }
theorem k_X0_takeFrom : Card yX0_takeFrom cX0_takeFrom 2 none 1 := ⟨gw_347, gw_28, by decide +kernel, by decide +kernel⟩
set_option maxHeartbeats 4000000 in
set_option maxRecDepth 20000 in
theorem c_X0_takeFrom (l : Launch) {Z : Gm} (hA : AA Z) {V : Nat → St} {V' : Nat → St} {U S0 : St} (hV0 : V 0 = S0) (hV1 : V 1 = U) {k : Nat} (hk : k < 16) (hV' : upL V 1 (bkCopyF U S0 k) = V') : Met l yX0_takeFrom (.code yX0_takeFrom cX0_takeFrom 2 none :: gG) rm_X0_takeFrom (PW Z V [.ref (ad Z (cBk 1 k)), .ref (ad Z (cBk 0 k))]) (QX Z none V') 0 0 (inW Z) := by
  refine met_of (by decide +kernel) (Nat.le_of_ble_eq_true rfl) ?_
  intro p e s m args below meth c ls E hr hlk hml hP hl
  have E : EE Z p s m args c cX0_takeFrom RX0 := E
  have hl : lv_has ls 2 [(0, .ref (ad Z (cBk 1 k))), (1, .ref (ad Z (cBk 0 k)))] := hl
  have hS : va_S (inW Z) s.heap s.heap [] := va_S.rf
  refine lv_aload_n E.1 E.2.1 dX0_takeFrom_0 rfl (lv_at hl 0 rfl) ?_
  refine lv_aload_n E.1 E.2.1 dX0_takeFrom_1 rfl (lv_at hl 1 rfl) ?_
  refine g_bk (v := .int (S0 10 k 0)) E hP hV0 (show 0 < 2 by decide) (by omega) 0 (by decide) gw_348 rfl dX0_takeFrom_2 ?_
  refine p_bk E hP hA hS hV1 (show 1 < 2 by decide) (by omega) 0 (by decide) gw_348 (V' := upL V 1 (up U 10 k 0 (S0 10 k 0))) rfl dX0_takeFrom_5 (fun H locs hP hS => ?_)
  refine lv_aload_n E.1 E.2.1 dX0_takeFrom_8 rfl (lv_at hl 0 rfl) ?_
  refine lv_aload_n E.1 E.2.1 dX0_takeFrom_9 rfl (lv_at hl 1 rfl) ?_
  refine g_bk (v := .int (S0 11 k 0)) E hP ((upL_ne (by decide)).trans hV0) (show 0 < 2 by decide) (by omega) 1 (by decide) gw_36 rfl dX0_takeFrom_10 ?_
  refine p_bk E hP hA hS (upL_same V 1 (up U 10 k 0 (S0 10 k 0))) (show 1 < 2 by decide) (by omega) 1 (by decide) gw_36 (V' := upL V 1 (up (up U 10 k 0 (S0 10 k 0)) 11 k 0 (S0 11 k 0))) (upL_upL V 1 _ _) dX0_takeFrom_13 (fun H locs hP hS => ?_)
  refine lv_aload_n E.1 E.2.1 dX0_takeFrom_16 rfl (lv_at hl 0 rfl) ?_
  refine lv_aload_n E.1 E.2.1 dX0_takeFrom_17 rfl (lv_at hl 1 rfl) ?_
  refine g_bk (v := .int (S0 12 k 0)) E hP ((upL_ne (by decide)).trans hV0) (show 0 < 2 by decide) (by omega) 2 (by decide) gw_37 rfl dX0_takeFrom_18 ?_
  refine p_bk E hP hA hS (upL_same V 1 (up (up U 10 k 0 (S0 10 k 0)) 11 k 0 (S0 11 k 0))) (show 1 < 2 by decide) (by omega) 2 (by decide) gw_37 (V' := upL V 1 (up (up (up U 10 k 0 (S0 10 k 0)) 11 k 0 (S0 11 k 0)) 12 k 0 (S0 12 k 0))) (upL_upL V 1 _ _) dX0_takeFrom_21 (fun H locs hP hS => ?_)
  refine lv_aload_n E.1 E.2.1 dX0_takeFrom_24 rfl (lv_at hl 0 rfl) ?_
  refine lv_aload_n E.1 E.2.1 dX0_takeFrom_25 rfl (lv_at hl 1 rfl) ?_
  refine g_bk (v := .int (S0 13 k 0)) E hP ((upL_ne (by decide)).trans hV0) (show 0 < 2 by decide) (by omega) 3 (by decide) gw_349 rfl dX0_takeFrom_26 ?_
  refine p_bk E hP hA hS (upL_same V 1 (up (up (up U 10 k 0 (S0 10 k 0)) 11 k 0 (S0 11 k 0)) 12 k 0 (S0 12 k 0))) (show 1 < 2 by decide) (by omega) 3 (by decide) gw_349 (V' := upL V 1 (up (up (up (up U 10 k 0 (S0 10 k 0)) 11 k 0 (S0 11 k 0)) 12 k 0 (S0 12 k 0)) 13 k 0 (S0 13 k 0))) (upL_upL V 1 _ _) dX0_takeFrom_29 (fun H locs hP hS => ?_)
  exact e_vX E hr hlk hP hS (fin1 hV' (by rfl)) dX0_takeFrom_32

abbrev rm_X3_takeFrom : Room := { frames := 1, cells := 0, slots := 0, locals := 40 }
theorem k_X3_takeFrom : Card yX3_takeFrom cX3_takeFrom 2 none 1 := ⟨gw_359, gw_32, by decide +kernel, by decide +kernel⟩
set_option maxHeartbeats 4000000 in
set_option maxRecDepth 20000 in
theorem c_X3_takeFrom (l : Launch) {Z : Gm} (hA : AA Z) {V : Nat → St} {V' : Nat → St} {U S0 : St} (hV0 : V 0 = S0) (hV1 : V 1 = U) {k : Nat} (hk : k < 8) (hV' : upL V 1 (trCopyF U S0 k) = V') : Met l yX3_takeFrom (.code yX3_takeFrom cX3_takeFrom 2 none :: gG) rm_X3_takeFrom (PW Z V [.ref (ad Z (cTr 1 k)), .ref (ad Z (cTr 0 k))]) (QX Z none V') 0 0 (inW Z) := by
  refine met_of (by decide +kernel) (Nat.le_of_ble_eq_true rfl) ?_
  intro p e s m args below meth c ls E hr hlk hml hP hl
  have E : EE Z p s m args c cX3_takeFrom RX3 := E
  have hl : lv_has ls 2 [(0, .ref (ad Z (cTr 1 k))), (1, .ref (ad Z (cTr 0 k)))] := hl
  have hS : va_S (inW Z) s.heap s.heap [] := va_S.rf
  refine lv_aload_n E.1 E.2.1 dX3_takeFrom_0 rfl (lv_at hl 0 rfl) ?_
  refine lv_aload_n E.1 E.2.1 dX3_takeFrom_1 rfl (lv_at hl 1 rfl) ?_
  refine g_tr (v := .int (S0 30 k 0)) E hP hV0 (show 0 < 2 by decide) (by omega) 0 (by decide) gw_360 rfl dX3_takeFrom_2 ?_
  refine p_tr E hP hA hS hV1 (show 1 < 2 by decide) (by omega) 0 (by decide) gw_360 (V' := upL V 1 (up U 30 k 0 (S0 30 k 0))) rfl dX3_takeFrom_5 (fun H locs hP hS => ?_)
  refine lv_aload_n E.1 E.2.1 dX3_takeFrom_8 rfl (lv_at hl 0 rfl) ?_
  refine lv_aload_n E.1 E.2.1 dX3_takeFrom_9 rfl (lv_at hl 1 rfl) ?_
  refine g_tr (v := .int (S0 31 k 0)) E hP ((upL_ne (by decide)).trans hV0) (show 0 < 2 by decide) (by omega) 1 (by decide) gw_361 rfl dX3_takeFrom_10 ?_
  refine p_tr E hP hA hS (upL_same V 1 (up U 30 k 0 (S0 30 k 0))) (show 1 < 2 by decide) (by omega) 1 (by decide) gw_361 (V' := upL V 1 (up (up U 30 k 0 (S0 30 k 0)) 31 k 0 (S0 31 k 0))) (upL_upL V 1 _ _) dX3_takeFrom_13 (fun H locs hP hS => ?_)
  refine lv_aload_n E.1 E.2.1 dX3_takeFrom_16 rfl (lv_at hl 0 rfl) ?_
  refine lv_aload_n E.1 E.2.1 dX3_takeFrom_17 rfl (lv_at hl 1 rfl) ?_
  refine g_tr (v := .int (S0 32 k 0)) E hP ((upL_ne (by decide)).trans hV0) (show 0 < 2 by decide) (by omega) 2 (by decide) gw_187 rfl dX3_takeFrom_18 ?_
  refine p_tr E hP hA hS (upL_same V 1 (up (up U 30 k 0 (S0 30 k 0)) 31 k 0 (S0 31 k 0))) (show 1 < 2 by decide) (by omega) 2 (by decide) gw_187 (V' := upL V 1 (up (up (up U 30 k 0 (S0 30 k 0)) 31 k 0 (S0 31 k 0)) 32 k 0 (S0 32 k 0))) (upL_upL V 1 _ _) dX3_takeFrom_21 (fun H locs hP hS => ?_)
  refine lv_aload_n E.1 E.2.1 dX3_takeFrom_24 rfl (lv_at hl 1 rfl) ?_
  refine g_tr E hP ((upL_ne (by decide)).trans hV0) (show 0 < 2 by decide) (by omega) 3 (by decide) gw_45 rfl dX3_takeFrom_25 ?_
  refine lv_iconst (v := 0) E.1 E.2.1 dX3_takeFrom_28 (by decide) ?_
  refine lv_aload_n E.1 E.2.1 dX3_takeFrom_29 rfl (lv_at hl 0 rfl) ?_
  refine g_tr E hP (upL_same V 1 (up (up (up U 30 k 0 (S0 30 k 0)) 31 k 0 (S0 31 k 0)) 32 k 0 (S0 32 k 0))) (show 1 < 2 by decide) (by omega) 3 (by decide) gw_45 rfl dX3_takeFrom_30 ?_
  refine lv_iconst (v := 0) E.1 E.2.1 dX3_takeFrom_33 (by decide) ?_
  refine lv_bipush (v := 8) E.1 E.2.1 dX3_takeFrom_34 (by decide) ?_
  refine y_st E hml hl.1 hP hA hS ((upL_ne (by decide)).trans hV0) (show 0 < 2 by decide) (upL_same V 1 (up (up (up U 30 k 0 (S0 30 k 0)) 31 k 0 (S0 31 k 0)) 32 k 0 (S0 32 k 0))) (show 1 < 2 by decide) (by omega) gw_362 (V' := upL V 1 (cpA (up (up (up U 30 k 0 (S0 30 k 0)) 31 k 0 (S0 31 k 0)) 32 k 0 (S0 32 k 0)) S0 33 k 8)) (upL_upL V 1 _ _) (Nat.le_of_ble_eq_true rfl) (Nat.le_of_ble_eq_true rfl) dX3_takeFrom_36 (fun H locs hP hS => ?_)
  refine lv_aload_n E.1 E.2.1 dX3_takeFrom_39 rfl (lv_at hl 1 rfl) ?_
  refine g_tr E hP ((upL_ne (by decide)).trans hV0) (show 0 < 2 by decide) (by omega) 4 (by decide) gw_46 rfl dX3_takeFrom_40 ?_
  refine lv_iconst (v := 0) E.1 E.2.1 dX3_takeFrom_43 (by decide) ?_
  refine lv_aload_n E.1 E.2.1 dX3_takeFrom_44 rfl (lv_at hl 0 rfl) ?_
  refine g_tr E hP (upL_same V 1 (cpA (up (up (up U 30 k 0 (S0 30 k 0)) 31 k 0 (S0 31 k 0)) 32 k 0 (S0 32 k 0)) S0 33 k 8)) (show 1 < 2 by decide) (by omega) 4 (by decide) gw_46 rfl dX3_takeFrom_45 ?_
  refine lv_iconst (v := 0) E.1 E.2.1 dX3_takeFrom_48 (by decide) ?_
  refine lv_bipush (v := 8) E.1 E.2.1 dX3_takeFrom_49 (by decide) ?_
  refine y_tm E hml hl.1 hP hA hS ((upL_ne (by decide)).trans hV0) (show 0 < 2 by decide) (upL_same V 1 (cpA (up (up (up U 30 k 0 (S0 30 k 0)) 31 k 0 (S0 31 k 0)) 32 k 0 (S0 32 k 0)) S0 33 k 8)) (show 1 < 2 by decide) (by omega) gw_362 (V' := upL V 1 (cpA (cpA (up (up (up U 30 k 0 (S0 30 k 0)) 31 k 0 (S0 31 k 0)) 32 k 0 (S0 32 k 0)) S0 33 k 8) S0 34 k 8)) (upL_upL V 1 _ _) (Nat.le_of_ble_eq_true rfl) (Nat.le_of_ble_eq_true rfl) dX3_takeFrom_51 (fun H locs hP hS => ?_)
  refine lv_aload_n E.1 E.2.1 dX3_takeFrom_54 rfl (lv_at hl 0 rfl) ?_
  refine lv_aload_n E.1 E.2.1 dX3_takeFrom_55 rfl (lv_at hl 1 rfl) ?_
  refine g_tr (v := .int (S0 35 k 0)) E hP ((upL_ne (by decide)).trans hV0) (show 0 < 2 by decide) (by omega) 5 (by decide) gw_309 rfl dX3_takeFrom_56 ?_
  refine p_tr E hP hA hS (upL_same V 1 (cpA (cpA (up (up (up U 30 k 0 (S0 30 k 0)) 31 k 0 (S0 31 k 0)) 32 k 0 (S0 32 k 0)) S0 33 k 8) S0 34 k 8)) (show 1 < 2 by decide) (by omega) 5 (by decide) gw_309 (V' := upL V 1 (up (cpA (cpA (up (up (up U 30 k 0 (S0 30 k 0)) 31 k 0 (S0 31 k 0)) 32 k 0 (S0 32 k 0)) S0 33 k 8) S0 34 k 8) 35 k 0 (S0 35 k 0))) (upL_upL V 1 _ _) dX3_takeFrom_59 (fun H locs hP hS => ?_)
  refine lv_aload_n E.1 E.2.1 dX3_takeFrom_62 rfl (lv_at hl 0 rfl) ?_
  refine lv_aload_n E.1 E.2.1 dX3_takeFrom_63 rfl (lv_at hl 1 rfl) ?_
  refine g_tr (v := .int (S0 36 k 0)) E hP ((upL_ne (by decide)).trans hV0) (show 0 < 2 by decide) (by omega) 6 (by decide) gw_47 rfl dX3_takeFrom_64 ?_
  refine p_tr E hP hA hS (upL_same V 1 (up (cpA (cpA (up (up (up U 30 k 0 (S0 30 k 0)) 31 k 0 (S0 31 k 0)) 32 k 0 (S0 32 k 0)) S0 33 k 8) S0 34 k 8) 35 k 0 (S0 35 k 0))) (show 1 < 2 by decide) (by omega) 6 (by decide) gw_47 (V' := upL V 1 (up (up (cpA (cpA (up (up (up U 30 k 0 (S0 30 k 0)) 31 k 0 (S0 31 k 0)) 32 k 0 (S0 32 k 0)) S0 33 k 8) S0 34 k 8) 35 k 0 (S0 35 k 0)) 36 k 0 (S0 36 k 0))) (upL_upL V 1 _ _) dX3_takeFrom_67 (fun H locs hP hS => ?_)
  refine lv_aload_n E.1 E.2.1 dX3_takeFrom_70 rfl (lv_at hl 0 rfl) ?_
  refine lv_aload_n E.1 E.2.1 dX3_takeFrom_71 rfl (lv_at hl 1 rfl) ?_
  refine g_tr (v := .int (S0 37 k 0)) E hP ((upL_ne (by decide)).trans hV0) (show 0 < 2 by decide) (by omega) 7 (by decide) gw_363 rfl dX3_takeFrom_72 ?_
  refine p_tr E hP hA hS (upL_same V 1 (up (up (cpA (cpA (up (up (up U 30 k 0 (S0 30 k 0)) 31 k 0 (S0 31 k 0)) 32 k 0 (S0 32 k 0)) S0 33 k 8) S0 34 k 8) 35 k 0 (S0 35 k 0)) 36 k 0 (S0 36 k 0))) (show 1 < 2 by decide) (by omega) 7 (by decide) gw_363 (V' := upL V 1 (up (up (up (cpA (cpA (up (up (up U 30 k 0 (S0 30 k 0)) 31 k 0 (S0 31 k 0)) 32 k 0 (S0 32 k 0)) S0 33 k 8) S0 34 k 8) 35 k 0 (S0 35 k 0)) 36 k 0 (S0 36 k 0)) 37 k 0 (S0 37 k 0))) (upL_upL V 1 _ _) dX3_takeFrom_75 (fun H locs hP hS => ?_)
  refine lv_aload_n E.1 E.2.1 dX3_takeFrom_78 rfl (lv_at hl 0 rfl) ?_
  refine lv_aload_n E.1 E.2.1 dX3_takeFrom_79 rfl (lv_at hl 1 rfl) ?_
  refine g_tr (v := .int (S0 38 k 0)) E hP ((upL_ne (by decide)).trans hV0) (show 0 < 2 by decide) (by omega) 8 (by decide) gw_48 rfl dX3_takeFrom_80 ?_
  refine p_tr E hP hA hS (upL_same V 1 (up (up (up (cpA (cpA (up (up (up U 30 k 0 (S0 30 k 0)) 31 k 0 (S0 31 k 0)) 32 k 0 (S0 32 k 0)) S0 33 k 8) S0 34 k 8) 35 k 0 (S0 35 k 0)) 36 k 0 (S0 36 k 0)) 37 k 0 (S0 37 k 0))) (show 1 < 2 by decide) (by omega) 8 (by decide) gw_48 (V' := upL V 1 (up (up (up (up (cpA (cpA (up (up (up U 30 k 0 (S0 30 k 0)) 31 k 0 (S0 31 k 0)) 32 k 0 (S0 32 k 0)) S0 33 k 8) S0 34 k 8) 35 k 0 (S0 35 k 0)) 36 k 0 (S0 36 k 0)) 37 k 0 (S0 37 k 0)) 38 k 0 (S0 38 k 0))) (upL_upL V 1 _ _) dX3_takeFrom_83 (fun H locs hP hS => ?_)
  refine lv_aload_n E.1 E.2.1 dX3_takeFrom_86 rfl (lv_at hl 0 rfl) ?_
  refine lv_aload_n E.1 E.2.1 dX3_takeFrom_87 rfl (lv_at hl 1 rfl) ?_
  refine g_tr (v := .int (S0 39 k 0)) E hP ((upL_ne (by decide)).trans hV0) (show 0 < 2 by decide) (by omega) 9 (by decide) gw_364 rfl dX3_takeFrom_88 ?_
  refine p_tr E hP hA hS (upL_same V 1 (up (up (up (up (cpA (cpA (up (up (up U 30 k 0 (S0 30 k 0)) 31 k 0 (S0 31 k 0)) 32 k 0 (S0 32 k 0)) S0 33 k 8) S0 34 k 8) 35 k 0 (S0 35 k 0)) 36 k 0 (S0 36 k 0)) 37 k 0 (S0 37 k 0)) 38 k 0 (S0 38 k 0))) (show 1 < 2 by decide) (by omega) 9 (by decide) gw_364 (V' := upL V 1 (up (up (up (up (up (cpA (cpA (up (up (up U 30 k 0 (S0 30 k 0)) 31 k 0 (S0 31 k 0)) 32 k 0 (S0 32 k 0)) S0 33 k 8) S0 34 k 8) 35 k 0 (S0 35 k 0)) 36 k 0 (S0 36 k 0)) 37 k 0 (S0 37 k 0)) 38 k 0 (S0 38 k 0)) 39 k 0 (S0 39 k 0))) (upL_upL V 1 _ _) dX3_takeFrom_91 (fun H locs hP hS => ?_)
  refine lv_aload_n E.1 E.2.1 dX3_takeFrom_94 rfl (lv_at hl 0 rfl) ?_
  refine lv_aload_n E.1 E.2.1 dX3_takeFrom_95 rfl (lv_at hl 1 rfl) ?_
  refine g_tr (v := .int (S0 40 k 0)) E hP ((upL_ne (by decide)).trans hV0) (show 0 < 2 by decide) (by omega) 10 (by decide) gw_315 rfl dX3_takeFrom_96 ?_
  refine p_tr E hP hA hS (upL_same V 1 (up (up (up (up (up (cpA (cpA (up (up (up U 30 k 0 (S0 30 k 0)) 31 k 0 (S0 31 k 0)) 32 k 0 (S0 32 k 0)) S0 33 k 8) S0 34 k 8) 35 k 0 (S0 35 k 0)) 36 k 0 (S0 36 k 0)) 37 k 0 (S0 37 k 0)) 38 k 0 (S0 38 k 0)) 39 k 0 (S0 39 k 0))) (show 1 < 2 by decide) (by omega) 10 (by decide) gw_315 (V' := upL V 1 (up (up (up (up (up (up (cpA (cpA (up (up (up U 30 k 0 (S0 30 k 0)) 31 k 0 (S0 31 k 0)) 32 k 0 (S0 32 k 0)) S0 33 k 8) S0 34 k 8) 35 k 0 (S0 35 k 0)) 36 k 0 (S0 36 k 0)) 37 k 0 (S0 37 k 0)) 38 k 0 (S0 38 k 0)) 39 k 0 (S0 39 k 0)) 40 k 0 (S0 40 k 0))) (upL_upL V 1 _ _) dX3_takeFrom_99 (fun H locs hP hS => ?_)
  refine lv_aload_n E.1 E.2.1 dX3_takeFrom_102 rfl (lv_at hl 0 rfl) ?_
  refine lv_aload_n E.1 E.2.1 dX3_takeFrom_103 rfl (lv_at hl 1 rfl) ?_
  refine g_tr (v := .int (S0 41 k 0)) E hP ((upL_ne (by decide)).trans hV0) (show 0 < 2 by decide) (by omega) 11 (by decide) gw_365 rfl dX3_takeFrom_104 ?_
  refine p_tr E hP hA hS (upL_same V 1 (up (up (up (up (up (up (cpA (cpA (up (up (up U 30 k 0 (S0 30 k 0)) 31 k 0 (S0 31 k 0)) 32 k 0 (S0 32 k 0)) S0 33 k 8) S0 34 k 8) 35 k 0 (S0 35 k 0)) 36 k 0 (S0 36 k 0)) 37 k 0 (S0 37 k 0)) 38 k 0 (S0 38 k 0)) 39 k 0 (S0 39 k 0)) 40 k 0 (S0 40 k 0))) (show 1 < 2 by decide) (by omega) 11 (by decide) gw_365 (V' := upL V 1 (up (up (up (up (up (up (up (cpA (cpA (up (up (up U 30 k 0 (S0 30 k 0)) 31 k 0 (S0 31 k 0)) 32 k 0 (S0 32 k 0)) S0 33 k 8) S0 34 k 8) 35 k 0 (S0 35 k 0)) 36 k 0 (S0 36 k 0)) 37 k 0 (S0 37 k 0)) 38 k 0 (S0 38 k 0)) 39 k 0 (S0 39 k 0)) 40 k 0 (S0 40 k 0)) 41 k 0 (S0 41 k 0))) (upL_upL V 1 _ _) dX3_takeFrom_107 (fun H locs hP hS => ?_)
  refine lv_aload_n E.1 E.2.1 dX3_takeFrom_110 rfl (lv_at hl 0 rfl) ?_
  refine lv_aload_n E.1 E.2.1 dX3_takeFrom_111 rfl (lv_at hl 1 rfl) ?_
  refine g_tr (v := .int (S0 42 k 0)) E hP ((upL_ne (by decide)).trans hV0) (show 0 < 2 by decide) (by omega) 12 (by decide) gw_366 rfl dX3_takeFrom_112 ?_
  refine p_tr E hP hA hS (upL_same V 1 (up (up (up (up (up (up (up (cpA (cpA (up (up (up U 30 k 0 (S0 30 k 0)) 31 k 0 (S0 31 k 0)) 32 k 0 (S0 32 k 0)) S0 33 k 8) S0 34 k 8) 35 k 0 (S0 35 k 0)) 36 k 0 (S0 36 k 0)) 37 k 0 (S0 37 k 0)) 38 k 0 (S0 38 k 0)) 39 k 0 (S0 39 k 0)) 40 k 0 (S0 40 k 0)) 41 k 0 (S0 41 k 0))) (show 1 < 2 by decide) (by omega) 12 (by decide) gw_366 (V' := upL V 1 (up (up (up (up (up (up (up (up (cpA (cpA (up (up (up U 30 k 0 (S0 30 k 0)) 31 k 0 (S0 31 k 0)) 32 k 0 (S0 32 k 0)) S0 33 k 8) S0 34 k 8) 35 k 0 (S0 35 k 0)) 36 k 0 (S0 36 k 0)) 37 k 0 (S0 37 k 0)) 38 k 0 (S0 38 k 0)) 39 k 0 (S0 39 k 0)) 40 k 0 (S0 40 k 0)) 41 k 0 (S0 41 k 0)) 42 k 0 (S0 42 k 0))) (upL_upL V 1 _ _) dX3_takeFrom_115 (fun H locs hP hS => ?_)
  refine lv_aload_n E.1 E.2.1 dX3_takeFrom_118 rfl (lv_at hl 0 rfl) ?_
  refine lv_aload_n E.1 E.2.1 dX3_takeFrom_119 rfl (lv_at hl 1 rfl) ?_
  refine g_tr (v := .int (S0 43 k 0)) E hP ((upL_ne (by decide)).trans hV0) (show 0 < 2 by decide) (by omega) 13 (by decide) gw_367 rfl dX3_takeFrom_120 ?_
  refine p_tr E hP hA hS (upL_same V 1 (up (up (up (up (up (up (up (up (cpA (cpA (up (up (up U 30 k 0 (S0 30 k 0)) 31 k 0 (S0 31 k 0)) 32 k 0 (S0 32 k 0)) S0 33 k 8) S0 34 k 8) 35 k 0 (S0 35 k 0)) 36 k 0 (S0 36 k 0)) 37 k 0 (S0 37 k 0)) 38 k 0 (S0 38 k 0)) 39 k 0 (S0 39 k 0)) 40 k 0 (S0 40 k 0)) 41 k 0 (S0 41 k 0)) 42 k 0 (S0 42 k 0))) (show 1 < 2 by decide) (by omega) 13 (by decide) gw_367 (V' := upL V 1 (up (up (up (up (up (up (up (up (up (cpA (cpA (up (up (up U 30 k 0 (S0 30 k 0)) 31 k 0 (S0 31 k 0)) 32 k 0 (S0 32 k 0)) S0 33 k 8) S0 34 k 8) 35 k 0 (S0 35 k 0)) 36 k 0 (S0 36 k 0)) 37 k 0 (S0 37 k 0)) 38 k 0 (S0 38 k 0)) 39 k 0 (S0 39 k 0)) 40 k 0 (S0 40 k 0)) 41 k 0 (S0 41 k 0)) 42 k 0 (S0 42 k 0)) 43 k 0 (S0 43 k 0))) (upL_upL V 1 _ _) dX3_takeFrom_123 (fun H locs hP hS => ?_)
  refine lv_aload_n E.1 E.2.1 dX3_takeFrom_126 rfl (lv_at hl 0 rfl) ?_
  refine lv_aload_n E.1 E.2.1 dX3_takeFrom_127 rfl (lv_at hl 1 rfl) ?_
  refine g_tr (v := .int (S0 44 k 0)) E hP ((upL_ne (by decide)).trans hV0) (show 0 < 2 by decide) (by omega) 14 (by decide) gw_49 rfl dX3_takeFrom_128 ?_
  refine p_tr E hP hA hS (upL_same V 1 (up (up (up (up (up (up (up (up (up (cpA (cpA (up (up (up U 30 k 0 (S0 30 k 0)) 31 k 0 (S0 31 k 0)) 32 k 0 (S0 32 k 0)) S0 33 k 8) S0 34 k 8) 35 k 0 (S0 35 k 0)) 36 k 0 (S0 36 k 0)) 37 k 0 (S0 37 k 0)) 38 k 0 (S0 38 k 0)) 39 k 0 (S0 39 k 0)) 40 k 0 (S0 40 k 0)) 41 k 0 (S0 41 k 0)) 42 k 0 (S0 42 k 0)) 43 k 0 (S0 43 k 0))) (show 1 < 2 by decide) (by omega) 14 (by decide) gw_49 (V' := upL V 1 (up (up (up (up (up (up (up (up (up (up (cpA (cpA (up (up (up U 30 k 0 (S0 30 k 0)) 31 k 0 (S0 31 k 0)) 32 k 0 (S0 32 k 0)) S0 33 k 8) S0 34 k 8) 35 k 0 (S0 35 k 0)) 36 k 0 (S0 36 k 0)) 37 k 0 (S0 37 k 0)) 38 k 0 (S0 38 k 0)) 39 k 0 (S0 39 k 0)) 40 k 0 (S0 40 k 0)) 41 k 0 (S0 41 k 0)) 42 k 0 (S0 42 k 0)) 43 k 0 (S0 43 k 0)) 44 k 0 (S0 44 k 0))) (upL_upL V 1 _ _) dX3_takeFrom_131 (fun H locs hP hS => ?_)
  refine lv_aload_n E.1 E.2.1 dX3_takeFrom_134 rfl (lv_at hl 1 rfl) ?_
  refine g_tr E hP ((upL_ne (by decide)).trans hV0) (show 0 < 2 by decide) (by omega) 15 (by decide) gw_50 rfl dX3_takeFrom_135 ?_
  refine lv_iconst (v := 0) E.1 E.2.1 dX3_takeFrom_138 (by decide) ?_
  refine lv_aload_n E.1 E.2.1 dX3_takeFrom_139 rfl (lv_at hl 0 rfl) ?_
  refine g_tr E hP (upL_same V 1 (up (up (up (up (up (up (up (up (up (up (cpA (cpA (up (up (up U 30 k 0 (S0 30 k 0)) 31 k 0 (S0 31 k 0)) 32 k 0 (S0 32 k 0)) S0 33 k 8) S0 34 k 8) 35 k 0 (S0 35 k 0)) 36 k 0 (S0 36 k 0)) 37 k 0 (S0 37 k 0)) 38 k 0 (S0 38 k 0)) 39 k 0 (S0 39 k 0)) 40 k 0 (S0 40 k 0)) 41 k 0 (S0 41 k 0)) 42 k 0 (S0 42 k 0)) 43 k 0 (S0 43 k 0)) 44 k 0 (S0 44 k 0))) (show 1 < 2 by decide) (by omega) 15 (by decide) gw_50 rfl dX3_takeFrom_140 ?_
  refine lv_iconst (v := 0) E.1 E.2.1 dX3_takeFrom_143 (by decide) ?_
  refine lv_bipush (v := 8) E.1 E.2.1 dX3_takeFrom_144 (by decide) ?_
  refine y_wf E hml hl.1 hP hA hS ((upL_ne (by decide)).trans hV0) (show 0 < 2 by decide) (upL_same V 1 (up (up (up (up (up (up (up (up (up (up (cpA (cpA (up (up (up U 30 k 0 (S0 30 k 0)) 31 k 0 (S0 31 k 0)) 32 k 0 (S0 32 k 0)) S0 33 k 8) S0 34 k 8) 35 k 0 (S0 35 k 0)) 36 k 0 (S0 36 k 0)) 37 k 0 (S0 37 k 0)) 38 k 0 (S0 38 k 0)) 39 k 0 (S0 39 k 0)) 40 k 0 (S0 40 k 0)) 41 k 0 (S0 41 k 0)) 42 k 0 (S0 42 k 0)) 43 k 0 (S0 43 k 0)) 44 k 0 (S0 44 k 0))) (show 1 < 2 by decide) (by omega) gw_362 (V' := upL V 1 (cpA (up (up (up (up (up (up (up (up (up (up (cpA (cpA (up (up (up U 30 k 0 (S0 30 k 0)) 31 k 0 (S0 31 k 0)) 32 k 0 (S0 32 k 0)) S0 33 k 8) S0 34 k 8) 35 k 0 (S0 35 k 0)) 36 k 0 (S0 36 k 0)) 37 k 0 (S0 37 k 0)) 38 k 0 (S0 38 k 0)) 39 k 0 (S0 39 k 0)) 40 k 0 (S0 40 k 0)) 41 k 0 (S0 41 k 0)) 42 k 0 (S0 42 k 0)) 43 k 0 (S0 43 k 0)) 44 k 0 (S0 44 k 0)) S0 45 k 8)) (upL_upL V 1 _ _) (Nat.le_of_ble_eq_true rfl) (Nat.le_of_ble_eq_true rfl) dX3_takeFrom_146 (fun H locs hP hS => ?_)
  exact e_vX E hr hlk hP hS (fin1 hV' (by rfl)) dX3_takeFrom_149

abbrev rm_X2_takeFrom : Room := { frames := 1, cells := 0, slots := 0, locals := 23 }
theorem k_X2_takeFrom : Card yX2_takeFrom cX2_takeFrom 3 none 1 := ⟨gw_353, gw_30, by decide +kernel, by decide +kernel⟩
set_option maxHeartbeats 4000000 in
set_option maxRecDepth 20000 in
theorem c_X2_takeFrom (l : Launch) {Z : Gm} (hA : AA Z) {V : Nat → St} {V' : Nat → St} {U S0 : St} (hV0 : V 0 = S0) (hV1 : V 1 = U) {k : Nat} (hk : k < 16) (hz : S0 22 k 0 = 0 ∨ S0 22 k 0 = 1) (hV' : upL V 1 (rtCopyF U S0 k) = V') : Met l yX2_takeFrom (.code yX2_takeFrom cX2_takeFrom 3 none :: gG) rm_X2_takeFrom (PW Z V [.ref (ad Z (cRt 1 k)), .ref (ad Z (cRt 0 k))]) (QX Z none V') 0 0 (inW Z) := by
  refine met_of (by decide +kernel) (Nat.le_of_ble_eq_true rfl) ?_
  intro p e s m args below meth c ls E hr hlk hml hP hl
  have E : EE Z p s m args c cX2_takeFrom RX2 := E
  have hl : lv_has ls 3 [(0, .ref (ad Z (cRt 1 k))), (1, .ref (ad Z (cRt 0 k)))] := hl
  have hS : va_S (inW Z) s.heap s.heap [] := va_S.rf
  have h31 := clamp_lt31 (S0 23 k 0)
  refine lv_aload_n E.1 E.2.1 dX2_takeFrom_0 rfl (lv_at hl 0 rfl) ?_
  refine lv_aload_n E.1 E.2.1 dX2_takeFrom_1 rfl (lv_at hl 1 rfl) ?_
  refine g_rt (v := .int (S0 20 k 0)) E hP hV0 (show 0 < 2 by decide) (by omega) 0 (by decide) gw_96 rfl dX2_takeFrom_2 ?_
  refine lv_aload_n E.1 E.2.1 dX2_takeFrom_5 rfl (lv_at hl 1 rfl) ?_
  refine g_rt (v := .int (S0 21 k 0)) E hP hV0 (show 0 < 2 by decide) (by omega) 1 (by decide) gw_97 rfl dX2_takeFrom_6 ?_
  refine lv_aload_n E.1 E.2.1 dX2_takeFrom_9 rfl (lv_at hl 1 rfl) ?_
  refine g_rt (v := .int (S0 22 k 0)) E hP hV0 (show 0 < 2 by decide) (by omega) 2 (by decide) gw_98 rfl dX2_takeFrom_10 ?_
  refine go_Xv (run_V (rest := []) E hml hl.1 (c_X2_lay l hA (V' := upL V 1 (layF U k (S0 20 k 0) (S0 21 k 0) (S0 22 k 0))) hV1 (show 1 < 2 by decide) (by omega) (S0 20 k 0) (S0 21 k 0) (S0 22 k 0) hz rfl) k_X2_lay ⟨rfl, rfl, Nat.le_of_ble_eq_true rfl, Nat.le_of_ble_eq_true rfl⟩ gw_354 gw_93 gw_94 hP (rv_rt E hP (show 1 < 2 by decide) (by omega)) rfl rfl (Nat.le_of_ble_eq_true rfl) ⟨Nat.zero_le _, Nat.zero_le _⟩ dX2_takeFrom_13) hS (fun H locs hP hS => ?_)
  refine lv_iconst (v := 0) E.1 E.2.1 dX2_takeFrom_16 (by decide) ?_
  refine lv_istore_n (lv' := [(2, .int 0), (0, .ref (ad Z (cRt 1 k))), (1, .ref (ad Z (cRt 0 k)))]) E.1 E.2.1 dX2_takeFrom_17 rfl hl (by decide) rfl (fun ls hl => ?_)
  have loop_18 : ∀ (n_18 : Nat) (i : Nat) (U1 : St), (S0 23 k 0).toNatClampNeg - i < n_18 → (U1 = rtI U S0 k i) → (i ≤ (S0 23 k 0).toNatClampNeg) → ∀ (H : Heap) (locs : List Loc), va_P (gD Z) vwCl (bw Z (upL V 1 U1)) H → va_S (inW Z) s.heap H locs → ∀ (ls : Array Slot), lv_has ls 3 [(2, .int (nI i)), (0, .ref (ad Z (cRt 1 k))), (1, .ref (ad Z (cRt 0 k)))] → W p l e rm_X2_takeFrom s m args below meth c H locs 0 0 (MQ below (QX Z none V') args s 0 0 (inW Z)) (F0 m 18 ls []) := by
    intro n_18
    induction n_18 with
    | zero => intro i U1 hm_18; exact absurd hm_18 (by omega)
    | succ n_18 ih_18 =>
      intro i U1 hm_18 ha hi H locs hP hS ls hl
      refine lv_iload_n E.1 E.2.1 dX2_takeFrom_18 rfl (lv_at hl 0 rfl) ?_
      refine lv_aload_n E.1 E.2.1 dX2_takeFrom_19 rfl (lv_at hl 2 rfl) ?_
      refine g_rt (v := .int (S0 23 k 0)) E hP ((upL_ne (by decide)).trans hV0) (show 0 < 2 by decide) (by omega) 3 (by decide) gw_99 rfl dX2_takeFrom_20 ?_
      refine lv_icmp_ge (tgt := 41) E.1 E.2.1 dX2_takeFrom_23 (by decide) (fun c_23 => ?_) (fun c_23 => ?_)
      · have hd : (S0 23 k 0).toNatClampNeg ≤ i := lq1 (by omega) c_23
        exact e_vX E hr hlk hP hS (fin1 hV' (by rw [ha, show i = (S0 23 k 0).toNatClampNeg from by omega]; rfl)) dX2_takeFrom_41
      · have hd : i < (S0 23 k 0).toNatClampNeg := lq2 (by omega) c_23
        refine lv_aload_n E.1 E.2.1 dX2_takeFrom_26 rfl (lv_at hl 1 rfl) ?_
        refine lv_aload_n E.1 E.2.1 dX2_takeFrom_27 rfl (lv_at hl 2 rfl) ?_
        refine lv_iload_n E.1 E.2.1 dX2_takeFrom_28 rfl (lv_at hl 0 rfl) ?_
        refine go_Pi (run_V (rest := [.ref (ad Z (cRt 1 k))]) E hml hl.1 (c_X2_blockAt l  ((upL_ne (by decide)).trans hV0) (show 0 < 2 by decide) (by omega) (nI i)) k_X2_blockAt ⟨rfl, rfl, Nat.le_of_ble_eq_true rfl, Nat.le_of_ble_eq_true rfl⟩ gw_143 gw_127 gw_128 hP (rv_rt E hP (show 0 < 2 by decide) (by omega)) rfl rfl (Nat.le_of_ble_eq_true rfl) ⟨Nat.zero_le _, Nat.zero_le _⟩ dX2_takeFrom_29) ?_
        refine go_Xv (run_V (rest := []) E hml hl.1 (c_X2_addBlock l hA (V' := upL V 1 (addBlockF U1 k (blockAtF S0 k (nI i)))) (upL_same V 1 U1) (show 1 < 2 by decide) (by omega) (blockAtF S0 k (nI i)) (upL_upL V 1 _ _)) k_X2_addBlock ⟨rfl, rfl, Nat.le_of_ble_eq_true rfl, Nat.le_of_ble_eq_true rfl⟩ gw_355 gw_101 gw_102 hP (rv_rt E hP (show 1 < 2 by decide) (by omega)) rfl rfl (Nat.le_of_ble_eq_true rfl) ⟨Nat.zero_le _, Nat.zero_le _⟩ dX2_takeFrom_32) hS (fun H locs hP hS => ?_)
        refine lv_iinc (v := (nI (i + 1))) (lv' := [(2, .int (nI (i + 1))), (0, .ref (ad Z (cRt 1 k))), (1, .ref (ad Z (cRt 0 k)))]) E.1 E.2.1 dX2_takeFrom_35 hl (k := 0) rfl (nI_1 _) (by decide) rfl (fun ls hl => ?_)
        refine lv_goto (tgt := 18) E.1 E.2.1 dX2_takeFrom_38 (by decide) ?_
        exact ih_18 (i + 1) _ (by omega) (by rw [ha]; rfl) (by omega) H locs hP hS ls (lv_sub hl [0, 1, 2] rfl)
  exact loop_18 ((S0 23 k 0).toNatClampNeg + 1) 0 (layF U k (S0 20 k 0) (S0 21 k 0) (S0 22 k 0)) (by omega) rfl (Nat.zero_le _) _ _ hP hS _ (lv_sub hl [0, 1, 2] rfl)

abbrev rm_X1_takeFrom : Room := { frames := 2, cells := 0, slots := 0, locals := 61 }
theorem k_X1_takeFrom : Card yX1_takeFrom cX1_takeFrom 3 none 1 := ⟨gw_338, gw_12, by decide +kernel, by decide +kernel⟩
set_option maxHeartbeats 4000000 in
set_option maxRecDepth 20000 in
theorem c_X1_takeFrom (l : Launch) {Z : Gm} (hA : AA Z) {V : Nat → St} {V' : Nat → St} {U S0 : St} (hV0 : V 0 = S0) (hV1 : V 1 = U) (hL : Lim S0) (hz : ∀ k, k < nR S0 → S0 22 k 0 = 0 ∨ S0 22 k 0 = 1) (hV' : upL V 1 (takeF U S0) = V') : Met l yX1_takeFrom (.code yX1_takeFrom cX1_takeFrom 3 none :: gG) rm_X1_takeFrom (PW Z V [.ref (ad Z (cLn 1)), .ref (ad Z (cLn 0))]) (QX Z none V') 0 0 (inW Z) := by
  refine met_of (by decide +kernel) (Nat.le_of_ble_eq_true rfl) ?_
  intro p e s m args below meth c ls E hr hlk hml hP hl
  have E : EE Z p s m args c cX1_takeFrom RX1 := E
  have hl : lv_has ls 3 [(0, .ref (ad Z (cLn 1))), (1, .ref (ad Z (cLn 0)))] := hl
  have hS : va_S (inW Z) s.heap s.heap [] := va_S.rf
  have hT := hL.2.2
  have hR := hL.2.1
  have hB := hL.1
  refine lv_aload_n E.1 E.2.1 dX1_takeFrom_0 rfl (lv_at hl 1 rfl) ?_
  refine g_ln E hP hV0 (show 0 < 2 by decide) 0 (by decide) gw_19 rfl dX1_takeFrom_1 ?_
  refine lv_iconst (v := 0) E.1 E.2.1 dX1_takeFrom_4 (by decide) ?_
  refine lv_aload_n E.1 E.2.1 dX1_takeFrom_5 rfl (lv_at hl 0 rfl) ?_
  refine g_ln E hP hV1 (show 1 < 2 by decide) 0 (by decide) gw_19 rfl dX1_takeFrom_6 ?_
  refine lv_iconst (v := 0) E.1 E.2.1 dX1_takeFrom_9 (by decide) ?_
  refine lv_bipush (v := 6) E.1 E.2.1 dX1_takeFrom_10 (by decide) ?_
  refine y_pl E hml hl.1 hP hA hS hV0 (show 0 < 2 by decide) hV1 (show 1 < 2 by decide) gw_339 (V' := upL V 1 (cpA U S0 0 0 6)) rfl (Nat.le_of_ble_eq_true rfl) (Nat.le_of_ble_eq_true rfl) dX1_takeFrom_12 (fun H locs hP hS => ?_)
  refine lv_aload_n E.1 E.2.1 dX1_takeFrom_15 rfl (lv_at hl 0 rfl) ?_
  refine lv_aload_n E.1 E.2.1 dX1_takeFrom_16 rfl (lv_at hl 1 rfl) ?_
  refine g_ln (v := .int (S0 2 0 0)) E hP ((upL_ne (by decide)).trans hV0) (show 0 < 2 by decide) 2 (by decide) gw_124 rfl dX1_takeFrom_17 ?_
  refine p_ln E hP hA hS (upL_same V 1 (cpA U S0 0 0 6)) (show 1 < 2 by decide) 2 (by decide) gw_124 (V' := upL V 1 (up (cpA U S0 0 0 6) 2 0 0 (S0 2 0 0))) (upL_upL V 1 _ _) dX1_takeFrom_20 (fun H locs hP hS => ?_)
  refine lv_iconst (v := 0) E.1 E.2.1 dX1_takeFrom_23 (by decide) ?_
  refine lv_istore_n (lv' := [(2, .int 0), (0, .ref (ad Z (cLn 1))), (1, .ref (ad Z (cLn 0)))]) E.1 E.2.1 dX1_takeFrom_24 rfl hl (by decide) rfl (fun ls hl => ?_)
  have loop_25 : ∀ (n_25 : Nat) (i : Nat) (U1 : St), nB S0 - i < n_25 → (U1 = cpyB U S0 i) → (i ≤ nB S0) → ∀ (H : Heap) (locs : List Loc), va_P (gD Z) vwCl (bw Z (upL V 1 U1)) H → va_S (inW Z) s.heap H locs → ∀ (ls : Array Slot), lv_has ls 3 [(2, .int (nI i)), (0, .ref (ad Z (cLn 1))), (1, .ref (ad Z (cLn 0)))] → W p l e rm_X1_takeFrom s m args below meth c H locs 0 0 (MQ below (QX Z none V') args s 0 0 (inW Z)) (F0 m 25 ls []) := by
    intro n_25
    induction n_25 with
    | zero => intro i U1 hm_25; exact absurd hm_25 (by omega)
    | succ n_25 ih_25 =>
      intro i U1 hm_25 ha hi H locs hP hS ls hl
      have h2 : U1 2 0 0 = S0 2 0 0 := by rw [ha]; exact cpyB_2 U S0 i
      refine lv_iload_n E.1 E.2.1 dX1_takeFrom_25 rfl (lv_at hl 0 rfl) ?_
      refine lv_aload_n E.1 E.2.1 dX1_takeFrom_26 rfl (lv_at hl 1 rfl) ?_
      refine g_ln (v := .int (U1 2 0 0)) E hP (upL_same V 1 U1) (show 1 < 2 by decide) 2 (by decide) gw_124 rfl dX1_takeFrom_27 ?_
      refine lv_icmp_ge (tgt := 54) E.1 E.2.1 dX1_takeFrom_30 (by decide) (fun c_30 => ?_) (fun c_30 => ?_)
      · rw [h2] at c_30
        have hd : nB S0 ≤ i := lq1 (by omega) c_30
        refine lv_aload_n E.1 E.2.1 dX1_takeFrom_54 rfl (lv_at hl 1 rfl) ?_
        refine lv_aload_n E.1 E.2.1 dX1_takeFrom_55 rfl (lv_at hl 2 rfl) ?_
        refine g_ln (v := .int (S0 4 0 0)) E hP ((upL_ne (by decide)).trans hV0) (show 0 < 2 by decide) 4 (by decide) gw_164 rfl dX1_takeFrom_56 ?_
        refine p_ln E hP hA hS (upL_same V 1 U1) (show 1 < 2 by decide) 4 (by decide) gw_164 (V' := upL V 1 (up U1 4 0 0 (S0 4 0 0))) (upL_upL V 1 _ _) dX1_takeFrom_59 (fun H locs hP hS => ?_)
        refine lv_iconst (v := 0) E.1 E.2.1 dX1_takeFrom_62 (by decide) ?_
        refine lv_istore_n (lv' := [(2, .int 0), (0, .ref (ad Z (cLn 1))), (1, .ref (ad Z (cLn 0)))]) E.1 E.2.1 dX1_takeFrom_63 rfl hl (by decide) rfl (fun ls hl => ?_)
        have eq64 : up U1 4 0 0 (S0 4 0 0) = cpyC U S0 := by rw [ha, show i = nB S0 from by omega]; rfl
        rw [eq64] at hP
        have loop_64 : ∀ (n_64 : Nat) (i : Nat) (U1 : St), nR S0 - i < n_64 → (U1 = cpyD U S0 i) → (i ≤ nR S0) → ∀ (H : Heap) (locs : List Loc), va_P (gD Z) vwCl (bw Z (upL V 1 U1)) H → va_S (inW Z) s.heap H locs → ∀ (ls : Array Slot), lv_has ls 3 [(2, .int (nI i)), (0, .ref (ad Z (cLn 1))), (1, .ref (ad Z (cLn 0)))] → W p l e rm_X1_takeFrom s m args below meth c H locs 0 0 (MQ below (QX Z none V') args s 0 0 (inW Z)) (F0 m 64 ls []) := by
          intro n_64
          induction n_64 with
          | zero => intro i U1 hm_64; exact absurd hm_64 (by omega)
          | succ n_64 ih_64 =>
            intro i U1 hm_64 ha hi H locs hP hS ls hl
            have h2 : U1 4 0 0 = S0 4 0 0 := by rw [ha]; exact cpyD_4 U S0 i
            refine lv_iload_n E.1 E.2.1 dX1_takeFrom_64 rfl (lv_at hl 0 rfl) ?_
            refine lv_aload_n E.1 E.2.1 dX1_takeFrom_65 rfl (lv_at hl 1 rfl) ?_
            refine g_ln (v := .int (U1 4 0 0)) E hP (upL_same V 1 U1) (show 1 < 2 by decide) 4 (by decide) gw_164 rfl dX1_takeFrom_66 ?_
            refine lv_icmp_ge (tgt := 93) E.1 E.2.1 dX1_takeFrom_69 (by decide) (fun c_69 => ?_) (fun c_69 => ?_)
            · rw [h2] at c_69
              have hd : nR S0 ≤ i := lq1 (by omega) c_69
              refine lv_aload_n E.1 E.2.1 dX1_takeFrom_93 rfl (lv_at hl 1 rfl) ?_
              refine lv_aload_n E.1 E.2.1 dX1_takeFrom_94 rfl (lv_at hl 2 rfl) ?_
              refine g_ln (v := .int (S0 6 0 0)) E hP ((upL_ne (by decide)).trans hV0) (show 0 < 2 by decide) 6 (by decide) gw_148 rfl dX1_takeFrom_95 ?_
              refine p_ln E hP hA hS (upL_same V 1 U1) (show 1 < 2 by decide) 6 (by decide) gw_148 (V' := upL V 1 (up U1 6 0 0 (S0 6 0 0))) (upL_upL V 1 _ _) dX1_takeFrom_98 (fun H locs hP hS => ?_)
              refine lv_iconst (v := 0) E.1 E.2.1 dX1_takeFrom_101 (by decide) ?_
              refine lv_istore_n (lv' := [(2, .int 0), (0, .ref (ad Z (cLn 1))), (1, .ref (ad Z (cLn 0)))]) E.1 E.2.1 dX1_takeFrom_102 rfl hl (by decide) rfl (fun ls hl => ?_)
              have eq103 : up U1 6 0 0 (S0 6 0 0) = cpyE U S0 := by rw [ha, show i = nR S0 from by omega]; rfl
              rw [eq103] at hP
              have loop_103 : ∀ (n_103 : Nat) (i : Nat) (U1 : St), nT S0 - i < n_103 → (U1 = cpyF U S0 i) → (i ≤ nT S0) → ∀ (H : Heap) (locs : List Loc), va_P (gD Z) vwCl (bw Z (upL V 1 U1)) H → va_S (inW Z) s.heap H locs → ∀ (ls : Array Slot), lv_has ls 3 [(2, .int (nI i)), (0, .ref (ad Z (cLn 1))), (1, .ref (ad Z (cLn 0)))] → W p l e rm_X1_takeFrom s m args below meth c H locs 0 0 (MQ below (QX Z none V') args s 0 0 (inW Z)) (F0 m 103 ls []) := by
                intro n_103
                induction n_103 with
                | zero => intro i U1 hm_103; exact absurd hm_103 (by omega)
                | succ n_103 ih_103 =>
                  intro i U1 hm_103 ha hi H locs hP hS ls hl
                  have h2 : U1 6 0 0 = S0 6 0 0 := by rw [ha]; exact cpyF_6 U S0 i
                  refine lv_iload_n E.1 E.2.1 dX1_takeFrom_103 rfl (lv_at hl 0 rfl) ?_
                  refine lv_aload_n E.1 E.2.1 dX1_takeFrom_104 rfl (lv_at hl 1 rfl) ?_
                  refine g_ln (v := .int (U1 6 0 0)) E hP (upL_same V 1 U1) (show 1 < 2 by decide) 6 (by decide) gw_148 rfl dX1_takeFrom_105 ?_
                  refine lv_icmp_ge (tgt := 132) E.1 E.2.1 dX1_takeFrom_108 (by decide) (fun c_108 => ?_) (fun c_108 => ?_)
                  · rw [h2] at c_108
                    have hd : nT S0 ≤ i := lq1 (by omega) c_108
                    refine lv_aload_n E.1 E.2.1 dX1_takeFrom_132 rfl (lv_at hl 1 rfl) ?_
                    refine lv_aload_n E.1 E.2.1 dX1_takeFrom_133 rfl (lv_at hl 2 rfl) ?_
                    refine g_ln (v := .int (S0 7 0 0)) E hP ((upL_ne (by decide)).trans hV0) (show 0 < 2 by decide) 7 (by decide) gw_343 rfl dX1_takeFrom_134 ?_
                    refine p_ln E hP hA hS (upL_same V 1 U1) (show 1 < 2 by decide) 7 (by decide) gw_343 (V' := upL V 1 (up U1 7 0 0 (S0 7 0 0))) (upL_upL V 1 _ _) dX1_takeFrom_137 (fun H locs hP hS => ?_)
                    refine lv_aload_n E.1 E.2.1 dX1_takeFrom_140 rfl (lv_at hl 1 rfl) ?_
                    refine lv_aload_n E.1 E.2.1 dX1_takeFrom_141 rfl (lv_at hl 2 rfl) ?_
                    refine g_ln (v := .int (S0 8 0 0)) E hP ((upL_ne (by decide)).trans hV0) (show 0 < 2 by decide) 8 (by decide) gw_26 rfl dX1_takeFrom_142 ?_
                    refine p_ln E hP hA hS (upL_same V 1 (up U1 7 0 0 (S0 7 0 0))) (show 1 < 2 by decide) 8 (by decide) gw_26 (V' := upL V 1 (up (up U1 7 0 0 (S0 7 0 0)) 8 0 0 (S0 8 0 0))) (upL_upL V 1 _ _) dX1_takeFrom_145 (fun H locs hP hS => ?_)
                    refine lv_aload_n E.1 E.2.1 dX1_takeFrom_148 rfl (lv_at hl 1 rfl) ?_
                    refine lv_aload_n E.1 E.2.1 dX1_takeFrom_149 rfl (lv_at hl 2 rfl) ?_
                    refine g_ln (v := .int (S0 9 0 0)) E hP ((upL_ne (by decide)).trans hV0) (show 0 < 2 by decide) 9 (by decide) gw_278 rfl dX1_takeFrom_150 ?_
                    refine p_ln E hP hA hS (upL_same V 1 (up (up U1 7 0 0 (S0 7 0 0)) 8 0 0 (S0 8 0 0))) (show 1 < 2 by decide) 9 (by decide) gw_278 (V' := upL V 1 (up (up (up U1 7 0 0 (S0 7 0 0)) 8 0 0 (S0 8 0 0)) 9 0 0 (S0 9 0 0))) (upL_upL V 1 _ _) dX1_takeFrom_153 (fun H locs hP hS => ?_)
                    exact e_vX E hr hlk hP hS (fin1 hV' (by rw [ha, show i = nT S0 from by omega]; rfl)) dX1_takeFrom_156
                  · rw [h2] at c_108
                    have hd : i < nT S0 := lq2 (by omega) c_108
                    refine lv_aload_n E.1 E.2.1 dX1_takeFrom_111 rfl (lv_at hl 1 rfl) ?_
                    refine g_ln E hP (upL_same V 1 U1) (show 1 < 2 by decide) 5 (by decide) gw_25 rfl dX1_takeFrom_112 ?_
                    refine lv_iload_n E.1 E.2.1 dX1_takeFrom_115 rfl (lv_at hl 0 rfl) ?_
                    refine a_tr (k := i) E hP (show 1 < 2 by decide) (nI_clamp (by omega)) (vp_in_nI (by omega) (by omega)) dX1_takeFrom_116 ?_
                    refine lv_aload_n E.1 E.2.1 dX1_takeFrom_117 rfl (lv_at hl 2 rfl) ?_
                    refine g_ln E hP ((upL_ne (by decide)).trans hV0) (show 0 < 2 by decide) 5 (by decide) gw_25 rfl dX1_takeFrom_118 ?_
                    refine lv_iload_n E.1 E.2.1 dX1_takeFrom_121 rfl (lv_at hl 0 rfl) ?_
                    refine a_tr (k := i) E hP (show 0 < 2 by decide) (nI_clamp (by omega)) (vp_in_nI (by omega) (by omega)) dX1_takeFrom_122 ?_
                    refine go_Xv (run_V (rest := []) E hml hl.1 (c_X3_takeFrom l hA (V' := upL V 1 (trCopyF U1 S0 i)) ((upL_ne (by decide)).trans hV0) (upL_same V 1 U1) (by omega) (upL_upL V 1 _ _)) k_X3_takeFrom ⟨rfl, rfl, Nat.le_of_ble_eq_true rfl, Nat.le_of_ble_eq_true rfl⟩ gw_356 gw_357 gw_358 hP (rv_tr E hP (show 1 < 2 by decide) (by omega)) rfl rfl (Nat.le_of_ble_eq_true rfl) ⟨Nat.zero_le _, Nat.zero_le _⟩ dX1_takeFrom_123) hS (fun H locs hP hS => ?_)
                    refine lv_iinc (v := (nI (i + 1))) (lv' := [(2, .int (nI (i + 1))), (0, .ref (ad Z (cLn 1))), (1, .ref (ad Z (cLn 0)))]) E.1 E.2.1 dX1_takeFrom_126 hl (k := 0) rfl (nI_1 _) (by decide) rfl (fun ls hl => ?_)
                    refine lv_goto (tgt := 103) E.1 E.2.1 dX1_takeFrom_129 (by decide) ?_
                    exact ih_103 (i + 1) _ (by omega) (by rw [ha]; rfl) (by omega) H locs hP hS ls (lv_sub hl [0, 1, 2] rfl)
              exact loop_103 (nT S0 + 1) 0 (cpyE U S0) (by omega) rfl (Nat.zero_le _) _ _ hP hS _ (lv_sub hl [0, 1, 2] rfl)
            · rw [h2] at c_69
              have hd : i < nR S0 := lq2 (by omega) c_69
              refine lv_aload_n E.1 E.2.1 dX1_takeFrom_72 rfl (lv_at hl 1 rfl) ?_
              refine g_ln E hP (upL_same V 1 U1) (show 1 < 2 by decide) 3 (by decide) gw_23 rfl dX1_takeFrom_73 ?_
              refine lv_iload_n E.1 E.2.1 dX1_takeFrom_76 rfl (lv_at hl 0 rfl) ?_
              refine a_rt (k := i) E hP (show 1 < 2 by decide) (nI_clamp (by omega)) (vp_in_nI (by omega) (by omega)) dX1_takeFrom_77 ?_
              refine lv_aload_n E.1 E.2.1 dX1_takeFrom_78 rfl (lv_at hl 2 rfl) ?_
              refine g_ln E hP ((upL_ne (by decide)).trans hV0) (show 0 < 2 by decide) 3 (by decide) gw_23 rfl dX1_takeFrom_79 ?_
              refine lv_iload_n E.1 E.2.1 dX1_takeFrom_82 rfl (lv_at hl 0 rfl) ?_
              refine a_rt (k := i) E hP (show 0 < 2 by decide) (nI_clamp (by omega)) (vp_in_nI (by omega) (by omega)) dX1_takeFrom_83 ?_
              refine go_Xv (run_V (rest := []) E hml hl.1 (c_X2_takeFrom l hA (V' := upL V 1 (rtCopyF U1 S0 i)) ((upL_ne (by decide)).trans hV0) (upL_same V 1 U1) (by omega) (hz _ hd) (upL_upL V 1 _ _)) k_X2_takeFrom ⟨rfl, rfl, Nat.le_of_ble_eq_true rfl, Nat.le_of_ble_eq_true rfl⟩ gw_350 gw_351 gw_352 hP (rv_rt E hP (show 1 < 2 by decide) (by omega)) rfl rfl (Nat.le_of_ble_eq_true rfl) ⟨Nat.zero_le _, Nat.zero_le _⟩ dX1_takeFrom_84) hS (fun H locs hP hS => ?_)
              refine lv_iinc (v := (nI (i + 1))) (lv' := [(2, .int (nI (i + 1))), (0, .ref (ad Z (cLn 1))), (1, .ref (ad Z (cLn 0)))]) E.1 E.2.1 dX1_takeFrom_87 hl (k := 0) rfl (nI_1 _) (by decide) rfl (fun ls hl => ?_)
              refine lv_goto (tgt := 64) E.1 E.2.1 dX1_takeFrom_90 (by decide) ?_
              exact ih_64 (i + 1) _ (by omega) (by rw [ha]; rfl) (by omega) H locs hP hS ls (lv_sub hl [0, 1, 2] rfl)
        exact loop_64 (nR S0 + 1) 0 (cpyC U S0) (by omega) rfl (Nat.zero_le _) _ _ hP hS _ (lv_sub hl [0, 1, 2] rfl)
      · rw [h2] at c_30
        have hd : i < nB S0 := lq2 (by omega) c_30
        refine lv_aload_n E.1 E.2.1 dX1_takeFrom_33 rfl (lv_at hl 1 rfl) ?_
        refine g_ln E hP (upL_same V 1 U1) (show 1 < 2 by decide) 1 (by decide) gw_21 rfl dX1_takeFrom_34 ?_
        refine lv_iload_n E.1 E.2.1 dX1_takeFrom_37 rfl (lv_at hl 0 rfl) ?_
        refine a_bk (k := i) E hP (show 1 < 2 by decide) (nI_clamp (by omega)) (vp_in_nI (by omega) (by omega)) dX1_takeFrom_38 ?_
        refine lv_aload_n E.1 E.2.1 dX1_takeFrom_39 rfl (lv_at hl 2 rfl) ?_
        refine g_ln E hP ((upL_ne (by decide)).trans hV0) (show 0 < 2 by decide) 1 (by decide) gw_21 rfl dX1_takeFrom_40 ?_
        refine lv_iload_n E.1 E.2.1 dX1_takeFrom_43 rfl (lv_at hl 0 rfl) ?_
        refine a_bk (k := i) E hP (show 0 < 2 by decide) (nI_clamp (by omega)) (vp_in_nI (by omega) (by omega)) dX1_takeFrom_44 ?_
        refine go_Xv (run_V (rest := []) E hml hl.1 (c_X0_takeFrom l hA (V' := upL V 1 (bkCopyF U1 S0 i)) ((upL_ne (by decide)).trans hV0) (upL_same V 1 U1) (by omega) (upL_upL V 1 _ _)) k_X0_takeFrom ⟨rfl, rfl, Nat.le_of_ble_eq_true rfl, Nat.le_of_ble_eq_true rfl⟩ gw_344 gw_345 gw_346 hP (rv_bk E hP (show 1 < 2 by decide) (by omega)) rfl rfl (Nat.le_of_ble_eq_true rfl) ⟨Nat.zero_le _, Nat.zero_le _⟩ dX1_takeFrom_45) hS (fun H locs hP hS => ?_)
        refine lv_iinc (v := (nI (i + 1))) (lv' := [(2, .int (nI (i + 1))), (0, .ref (ad Z (cLn 1))), (1, .ref (ad Z (cLn 0)))]) E.1 E.2.1 dX1_takeFrom_48 hl (k := 0) rfl (nI_1 _) (by decide) rfl (fun ls hl => ?_)
        refine lv_goto (tgt := 25) E.1 E.2.1 dX1_takeFrom_51 (by decide) ?_
        exact ih_25 (i + 1) _ (by omega) (by rw [ha]; rfl) (by omega) H locs hP hS ls (lv_sub hl [0, 1, 2] rfl)
  exact loop_25 (nB S0 + 1) 0 (cpyA U S0) (by omega) rfl (Nat.zero_le _) _ _ hP hS _ (lv_sub hl [0, 1, 2] rfl)
