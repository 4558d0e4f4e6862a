/-! Line: the methods that write. -/
theorem lock_step {S S1 S2 : St} {i r j : Nat} (ha : S1 = lockI S i r j) (hb : ∀ x, blockAtF S1 r x = blockAtF S r x) (h2 : S1 2 0 0 = S 2 0 0) (h : S2 = if blockAtF S1 r (nI (j + 1)) < 0 then S1 else if S1 2 0 0 ≤ blockAtF S1 r (nI (j + 1)) then S1 else up S1 12 (blockAtF S1 r (nI (j + 1))).toNatClampNeg 0 (nI i)) : S2 = lockI S i r (j + 1) := by
  rw [h, hb, h2, ha]
  rfl
theorem rolls_step {S S2 S3 : St} {i : Nat} (hb : S2 = rollsI S i) (h : S3 = if onBlockF S2 i = true then rollF S2 i else S2) : S3 = rollsI S (i + 1) := by
  rw [h, hb]
  rfl
theorem tick_step {S S1 : St} {g : Nat} (hkc : KC S1 S) (ha : S1 = ticksF S g) : giveF (rollsI (forgetF (up S1 9 0 0 (S1 9 0 0 + 1))) (nT S)) = ticksF S (g + 1) := by
  have e : nT (forgetF (up S1 9 0 0 (S1 9 0 0 + 1))) = nT S := nT_of (KC_forget (KC_up (by decide) hkc))
  have e2 : ticksF S (g + 1) = tickF S1 := by rw [ha]; rfl
  rw [e2, tickF, rollsF, e]
  rfl
abbrev rm_X1_leaveBlock : Room := { frames := 2, cells := 0, slots := 0, locals := 43 }
theorem k_X1_leaveBlock : Card yX1_leaveBlock cX1_leaveBlock 3 none 1 := ⟨gw_388, gw_12, by decide +kernel, by decide +kernel⟩
set_option maxHeartbeats 4000000 in
set_option maxRecDepth 20000 in
theorem c_X1_leaveBlock (l : Launch) {Z : Gm} (hA : AA Z) {V : Nat → St} {V' : Nat → St} {w : Nat} {S : St} (hV : V w = S) (hw : w < 2) {i : Nat} (hi : i < 8) (hL : Lim S) (hV' : upL V w (leaveF S i) = V') : Met l yX1_leaveBlock (.code yX1_leaveBlock cX1_leaveBlock 3 none :: gG) rm_X1_leaveBlock (PW Z V [.ref (ad Z (cLn w)), .ref (ad Z (cTr w i))]) (QX Z none V') 0 0 (inW Z) := by
  refine met_of (by decide +kernel) (Nat.le_of_ble_eq_true rfl) ?_
  intro p e s m args below meth c ls E hr hlk hml hP hl
  have E : EE Z p s m args c cX1_leaveBlock RX1 := E
  have hl : lv_has ls 3 [(0, .ref (ad Z (cLn w))), (1, .ref (ad Z (cTr w i)))] := hl
  have hS : va_S (inW Z) s.heap s.heap [] := va_S.rf
  have hT := hL.2.2
  have hR := hL.2.1
  have hB := hL.1
  refine lv_aload_n E.1 E.2.1 dX1_leaveBlock_0 rfl (lv_at hl 0 rfl) ?_
  refine lv_aload_n E.1 E.2.1 dX1_leaveBlock_1 rfl (lv_at hl 1 rfl) ?_
  refine go_Pi (run_V (rest := []) E hml hl.1 (c_X1_blockUnder l  hV hw (by omega) hL) k_X1_blockUnder ⟨rfl, rfl, Nat.le_of_ble_eq_true rfl, Nat.le_of_ble_eq_true rfl⟩ gw_390 gw_294 gw_295 hP (rv_ln E hP hw) rfl rfl (Nat.le_of_ble_eq_true rfl) ⟨Nat.zero_le _, Nat.zero_le _⟩ dX1_leaveBlock_2) ?_
  refine lv_istore_n (lv' := [(2, .int (underF S i)), (0, .ref (ad Z (cLn w))), (1, .ref (ad Z (cTr w i)))]) E.1 E.2.1 dX1_leaveBlock_5 rfl hl (by decide) rfl (fun ls hl => ?_)
  refine lv_iload_n E.1 E.2.1 dX1_leaveBlock_6 rfl (lv_at hl 0 rfl) ?_
  refine lv_if_lt (tgt := 28) E.1 E.2.1 dX1_leaveBlock_7 (by decide) (fun c_7 => ?_) (fun c_7 => ?_)
  · exact e_vX E hr hlk hP hS (fin0 hV hV' (by simp [leaveF, c_7])) dX1_leaveBlock_28
  · refine lv_iload_n E.1 E.2.1 dX1_leaveBlock_10 rfl (lv_at hl 0 rfl) ?_
    refine lv_aload_n E.1 E.2.1 dX1_leaveBlock_11 rfl (lv_at hl 1 rfl) ?_
    refine g_ln (v := .int (S 2 0 0)) E hP hV hw 2 (by decide) gw_124 rfl dX1_leaveBlock_12 ?_
    refine lv_icmp_ge (tgt := 28) E.1 E.2.1 dX1_leaveBlock_15 (by decide) (fun c_15 => ?_) (fun c_15 => ?_)
    · exact e_vX E hr hlk hP hS (fin0 hV hV' (by simp [leaveF, c_7, c_15])) dX1_leaveBlock_28
    · refine lv_aload_n E.1 E.2.1 dX1_leaveBlock_18 rfl (lv_at hl 1 rfl) ?_
      refine g_ln E hP hV hw 1 (by decide) gw_21 rfl dX1_leaveBlock_19 ?_
      refine lv_iload_n E.1 E.2.1 dX1_leaveBlock_22 rfl (lv_at hl 0 rfl) ?_
      have hin_23 : vp_in (underF S i) 16 := vin c_7 c_15 (clamp_le hB)
      refine a_bk (k := ((underF S i).toNatClampNeg)) E hP hw rfl hin_23 dX1_leaveBlock_23 ?_
      refine lv_iconst (v := (-1)) E.1 E.2.1 dX1_leaveBlock_24 (by decide) ?_
      refine p_bk E hP hA hS hV hw (vp_lt hin_23) 1 (by decide) gw_389 (V' := upL V w (up S 11 ((underF S i).toNatClampNeg) 0 (-1))) rfl dX1_leaveBlock_25 (fun H locs hP hS => ?_)
      exact e_vX E hr hlk hP hS (fin1 hV' (by simp [leaveF, c_7, c_15])) dX1_leaveBlock_28

abbrev rm_X1_enter : Room := { frames := 1, cells := 0, slots := 0, locals := 21 }
theorem k_X1_enter : Card yX1_enter cX1_enter 6 none 3 := ⟨gw_410, gw_12, by decide +kernel, by decide +kernel⟩
set_option maxHeartbeats 4000000 in
set_option maxRecDepth 20000 in
theorem c_X1_enter (l : Launch) {Z : Gm} (hA : AA Z) {V : Nat → St} {V' : Nat → St} {w : Nat} {S : St} (hV : V w = S) (hw : w < 2) {i : Nat} (hi : i < 8) (x q : Int32) (hx : vp_in x 16) (hL : Lim S) (hV' : upL V w (enterF S i x q) = V') : Met l yX1_enter (.code yX1_enter cX1_enter 6 none :: gG) rm_X1_enter (PW Z V [.ref (ad Z (cLn w)), .int (nI i), .int x, .int q]) (QX Z none V') 0 0 (inW Z) := by
  refine met_of (by decide +kernel) (Nat.le_of_ble_eq_true rfl) ?_
  intro p e s m args below meth c ls E hr hlk hml hP hl
  have E : EE Z p s m args c cX1_enter RX1 := E
  have hl : lv_has ls 6 [(0, .ref (ad Z (cLn w))), (1, .int (nI i)), (2, .int x), (3, .int q)] := hl
  have hS : va_S (inW Z) s.heap s.heap [] := va_S.rf
  have hT := hL.2.2
  have hR := hL.2.1
  have hB := hL.1
  refine lv_aload_n E.1 E.2.1 dX1_enter_0 rfl (lv_at hl 0 rfl) ?_
  refine g_ln E hP hV hw 3 (by decide) gw_23 rfl dX1_enter_1 ?_
  refine lv_iload_n E.1 E.2.1 dX1_enter_4 rfl (lv_at hl 2 rfl) ?_
  have hin_5 : vp_in x 16 := hx
  refine a_rt (k := (x.toNatClampNeg)) E hP hw rfl hin_5 dX1_enter_5 ?_
  refine lv_iload_n E.1 E.2.1 dX1_enter_6 rfl (lv_at hl 3 rfl) ?_
  refine go_Pi (run_V (rest := []) E hml hl.1 (c_X2_blockAt l  hV hw (vp_lt hin_5) q) k_X2_blockAt ⟨rfl, rfl, Nat.le_of_ble_eq_true rfl, Nat.le_of_ble_eq_true rfl⟩ gw_126 gw_127 gw_128 hP (rv_rt E hP hw (vp_lt hin_5)) rfl rfl (Nat.le_of_ble_eq_true rfl) ⟨Nat.zero_le _, Nat.zero_le _⟩ dX1_enter_7) ?_
  refine lv_istore (lv' := [(4, .int (blockAtF S (x.toNatClampNeg) q)), (0, .ref (ad Z (cLn w))), (1, .int (nI i)), (2, .int x), (3, .int q)]) E.1 E.2.1 dX1_enter_10 hl (by decide) rfl (fun ls hl => ?_)
  refine lv_iload E.1 E.2.1 dX1_enter_12 (lv_at hl 0 rfl) ?_
  refine lv_if_lt (tgt := 26) E.1 E.2.1 dX1_enter_14 (by decide) (fun c_14 => ?_) (fun c_14 => ?_)
  · exact e_vX E hr hlk hP hS (fin0 hV hV' (by simp [enterF, up_f, c_14])) dX1_enter_26
  · refine lv_iload E.1 E.2.1 dX1_enter_17 (lv_at hl 0 rfl) ?_
    refine lv_aload_n E.1 E.2.1 dX1_enter_19 rfl (lv_at hl 1 rfl) ?_
    refine g_ln (v := .int (S 2 0 0)) E hP hV hw 2 (by decide) gw_124 rfl dX1_enter_20 ?_
    refine lv_icmp_lt (tgt := 27) E.1 E.2.1 dX1_enter_23 (by decide) (fun c_23 => ?_) (fun c_23 => ?_)
    · refine lv_aload_n E.1 E.2.1 dX1_enter_27 rfl (lv_at hl 1 rfl) ?_
      refine g_ln E hP hV hw 5 (by decide) gw_25 rfl dX1_enter_28 ?_
      refine lv_iload_n E.1 E.2.1 dX1_enter_31 rfl (lv_at hl 2 rfl) ?_
      refine a_tr (k := i) E hP hw (nI_clamp (by omega)) (vp_in_nI (by omega) (by omega)) dX1_enter_32 ?_
      refine lv_astore (lv' := [(5, .ref (ad Z (cTr w i))), (4, .int (blockAtF S (x.toNatClampNeg) q)), (0, .ref (ad Z (cLn w))), (1, .int (nI i)), (2, .int x), (3, .int q)]) E.1 E.2.1 dX1_enter_33 hl (by decide) rfl (fun ls hl => ?_)
      refine lv_aload E.1 E.2.1 dX1_enter_35 (lv_at hl 0 rfl) ?_
      refine lv_iconst (v := (-1)) E.1 E.2.1 dX1_enter_37 (by decide) ?_
      refine p_tr E hP hA hS hV hw (by omega) 6 (by decide) gw_159 (V' := upL V w (up S 36 i 0 (-1))) rfl dX1_enter_38 (fun H locs hP hS => ?_)
      refine lv_aload E.1 E.2.1 dX1_enter_41 (lv_at hl 0 rfl) ?_
      refine lv_iload_n E.1 E.2.1 dX1_enter_43 rfl (lv_at hl 4 rfl) ?_
      refine p_tr E hP hA hS (upL_same V w (up S 36 i 0 (-1))) hw (by omega) 8 (by decide) gw_149 (V' := upL V w (up (up S 36 i 0 (-1)) 38 i 0 x)) (upL_upL V w _ _) dX1_enter_44 (fun H locs hP hS => ?_)
      refine lv_aload E.1 E.2.1 dX1_enter_47 (lv_at hl 0 rfl) ?_
      refine lv_iload_n E.1 E.2.1 dX1_enter_49 rfl (lv_at hl 5 rfl) ?_
      refine p_tr E hP hA hS (upL_same V w (up (up S 36 i 0 (-1)) 38 i 0 x)) hw (by omega) 9 (by decide) gw_297 (V' := upL V w (up (up (up S 36 i 0 (-1)) 38 i 0 x) 39 i 0 q)) (upL_upL V w _ _) dX1_enter_50 (fun H locs hP hS => ?_)
      refine lv_aload E.1 E.2.1 dX1_enter_53 (lv_at hl 0 rfl) ?_
      refine lv_aload_n E.1 E.2.1 dX1_enter_55 rfl (lv_at hl 2 rfl) ?_
      refine g_ln E hP (upL_same V w (up (up (up S 36 i 0 (-1)) 38 i 0 x) 39 i 0 q)) hw 1 (by decide) gw_21 rfl dX1_enter_56 ?_
      refine lv_iload E.1 E.2.1 dX1_enter_59 (lv_at hl 1 rfl) ?_
      have hin_61 : vp_in (blockAtF S (x.toNatClampNeg) q) 16 := vinL c_14 c_23 (clamp_le hB)
      refine a_bk (k := ((blockAtF S (x.toNatClampNeg) q).toNatClampNeg)) E hP hw rfl hin_61 dX1_enter_61 ?_
      refine g_bk (v := .int (S 10 ((blockAtF S (x.toNatClampNeg) q).toNatClampNeg) 0)) E hP (upL_same V w (up (up (up S 36 i 0 (-1)) 38 i 0 x) 39 i 0 q)) hw (vp_lt hin_61) 0 (by decide) gw_125 (by first | rfl | simp [fBk, up_f, up_s]) dX1_enter_62 ?_
      refine lv_aload E.1 E.2.1 dX1_enter_65 (lv_at hl 0 rfl) ?_
      refine g_tr (v := .int (S 31 i 0)) E hP (upL_same V w (up (up (up S 36 i 0 (-1)) 38 i 0 x) 39 i 0 q)) hw (by omega) 1 (by decide) gw_411 (by first | rfl | simp [fTr, up_f, up_s]) dX1_enter_67 ?_
      refine lv_imul E.1 E.2.1 dX1_enter_70 ?_
      refine p_tr E hP hA hS (upL_same V w (up (up (up S 36 i 0 (-1)) 38 i 0 x) 39 i 0 q)) hw (by omega) 10 (by decide) gw_380 (V' := upL V w (up (up (up (up S 36 i 0 (-1)) 38 i 0 x) 39 i 0 q) 40 i 0 ((S 10 ((blockAtF S (x.toNatClampNeg) q).toNatClampNeg) 0) * (S 31 i 0)))) (upL_upL V w _ _) dX1_enter_71 (fun H locs hP hS => ?_)
      refine lv_aload_n E.1 E.2.1 dX1_enter_74 rfl (lv_at hl 2 rfl) ?_
      refine g_ln E hP (upL_same V w (up (up (up (up S 36 i 0 (-1)) 38 i 0 x) 39 i 0 q) 40 i 0 ((S 10 ((blockAtF S (x.toNatClampNeg) q).toNatClampNeg) 0) * (S 31 i 0)))) hw 1 (by decide) gw_21 rfl dX1_enter_75 ?_
      refine lv_iload E.1 E.2.1 dX1_enter_78 (lv_at hl 1 rfl) ?_
      have hin_80 : vp_in (blockAtF S (x.toNatClampNeg) q) 16 := vinL c_14 c_23 (clamp_le hB)
      refine a_bk (k := ((blockAtF S (x.toNatClampNeg) q).toNatClampNeg)) E hP hw rfl hin_80 dX1_enter_80 ?_
      refine lv_iload_n E.1 E.2.1 dX1_enter_81 rfl (lv_at hl 3 rfl) ?_
      refine p_bk E hP hA hS (upL_same V w (up (up (up (up S 36 i 0 (-1)) 38 i 0 x) 39 i 0 q) 40 i 0 ((S 10 ((blockAtF S (x.toNatClampNeg) q).toNatClampNeg) 0) * (S 31 i 0)))) hw (vp_lt hin_80) 1 (by decide) gw_389 (V' := upL V w (up (up (up (up (up S 36 i 0 (-1)) 38 i 0 x) 39 i 0 q) 40 i 0 ((S 10 ((blockAtF S (x.toNatClampNeg) q).toNatClampNeg) 0) * (S 31 i 0))) 11 ((blockAtF S (x.toNatClampNeg) q).toNatClampNeg) 0 (nI i))) (upL_upL V w _ _) dX1_enter_82 (fun H locs hP hS => ?_)
      refine lv_aload_n E.1 E.2.1 dX1_enter_85 rfl (lv_at hl 2 rfl) ?_
      refine g_ln E hP (upL_same V w (up (up (up (up (up S 36 i 0 (-1)) 38 i 0 x) 39 i 0 q) 40 i 0 ((S 10 ((blockAtF S (x.toNatClampNeg) q).toNatClampNeg) 0) * (S 31 i 0))) 11 ((blockAtF S (x.toNatClampNeg) q).toNatClampNeg) 0 (nI i))) hw 1 (by decide) gw_21 rfl dX1_enter_86 ?_
      refine lv_iload E.1 E.2.1 dX1_enter_89 (lv_at hl 1 rfl) ?_
      have hin_91 : vp_in (blockAtF S (x.toNatClampNeg) q) 16 := vinL c_14 c_23 (clamp_le hB)
      refine a_bk (k := ((blockAtF S (x.toNatClampNeg) q).toNatClampNeg)) E hP hw rfl hin_91 dX1_enter_91 ?_
      refine lv_iconst (v := (-1)) E.1 E.2.1 dX1_enter_92 (by decide) ?_
      refine p_bk E hP hA hS (upL_same V w (up (up (up (up (up S 36 i 0 (-1)) 38 i 0 x) 39 i 0 q) 40 i 0 ((S 10 ((blockAtF S (x.toNatClampNeg) q).toNatClampNeg) 0) * (S 31 i 0))) 11 ((blockAtF S (x.toNatClampNeg) q).toNatClampNeg) 0 (nI i))) hw (vp_lt hin_91) 2 (by decide) gw_405 (V' := upL V w (up (up (up (up (up (up S 36 i 0 (-1)) 38 i 0 x) 39 i 0 q) 40 i 0 ((S 10 ((blockAtF S (x.toNatClampNeg) q).toNatClampNeg) 0) * (S 31 i 0))) 11 ((blockAtF S (x.toNatClampNeg) q).toNatClampNeg) 0 (nI i)) 12 ((blockAtF S (x.toNatClampNeg) q).toNatClampNeg) 0 (-1))) (upL_upL V w _ _) dX1_enter_93 (fun H locs hP hS => ?_)
      exact e_vX E hr hlk hP hS (fin1 hV' (by simp [enterF, up_f, c_14, c_23])) dX1_enter_96
    · exact e_vX E hr hlk hP hS (fin0 hV hV' (by simp [enterF, up_f, c_14, c_23])) dX1_enter_26

abbrev rm_X1_comeToStation : Room := { frames := 3, cells := 0, slots := 0, locals := 65 }
theorem k_X1_comeToStation : Card yX1_comeToStation cX1_comeToStation 2 none 1 := ⟨gw_384, gw_12, by decide +kernel, by decide +kernel⟩
set_option maxHeartbeats 4000000 in
set_option maxRecDepth 20000 in
theorem c_X1_comeToStation (l : Launch) {Z : Gm} (hA : AA Z) {V : Nat → St} {V' : Nat → St} {w : Nat} {S : St} (hV : V w = S) (hw : w < 2) {i : Nat} (hi : i < 8) (hL : Lim S) (hV' : upL V w (comeF S i) = V') : Met l yX1_comeToStation (.code yX1_comeToStation cX1_comeToStation 2 none :: gG) rm_X1_comeToStation (PW Z V [.ref (ad Z (cLn w)), .ref (ad Z (cTr w i))]) (QX Z none V') 0 0 (inW Z) := by
  refine met_of (by decide +kernel) (Nat.le_of_ble_eq_true rfl) ?_
  intro p e s m args below meth c ls E hr hlk hml hP hl
  have E : EE Z p s m args c cX1_comeToStation RX1 := E
  have hl : lv_has ls 2 [(0, .ref (ad Z (cLn w))), (1, .ref (ad Z (cTr w i)))] := hl
  have hS : va_S (inW Z) s.heap s.heap [] := va_S.rf
  have hT := hL.2.2
  have hR := hL.2.1
  have hB := hL.1
  refine lv_aload_n E.1 E.2.1 dX1_comeToStation_0 rfl (lv_at hl 0 rfl) ?_
  refine lv_aload_n E.1 E.2.1 dX1_comeToStation_1 rfl (lv_at hl 1 rfl) ?_
  refine go_Xv (run_V (rest := []) E hml hl.1 (c_X1_leaveBlock l hA (V' := upL V w (leaveF S i)) hV hw (by omega) hL rfl) k_X1_leaveBlock ⟨rfl, rfl, Nat.le_of_ble_eq_true rfl, Nat.le_of_ble_eq_true rfl⟩ gw_385 gw_386 gw_387 hP (rv_ln E hP hw) rfl rfl (Nat.le_of_ble_eq_true rfl) ⟨Nat.zero_le _, Nat.zero_le _⟩ dX1_comeToStation_2) hS (fun H locs hP hS => ?_)
  refine lv_aload_n E.1 E.2.1 dX1_comeToStation_5 rfl (lv_at hl 1 rfl) ?_
  refine lv_iconst (v := (-1)) E.1 E.2.1 dX1_comeToStation_6 (by decide) ?_
  refine p_tr E hP hA hS (upL_same V w (leaveF S i)) hw (by omega) 8 (by decide) gw_149 (V' := upL V w (up (leaveF S i) 38 i 0 (-1))) (upL_upL V w _ _) dX1_comeToStation_7 (fun H locs hP hS => ?_)
  refine lv_aload_n E.1 E.2.1 dX1_comeToStation_10 rfl (lv_at hl 1 rfl) ?_
  refine lv_dup E.1 E.2.1 dX1_comeToStation_11 rfl ?_
  refine g_tr (v := .int ((leaveF S i) 35 i 0)) E hP (upL_same V w (up (leaveF S i) 38 i 0 (-1))) hw (by omega) 5 (by decide) gw_302 (by first | rfl | simp [fTr, up_f, up_s]) dX1_comeToStation_12 ?_
  refine lv_iconst (v := 1) E.1 E.2.1 dX1_comeToStation_15 (by decide) ?_
  refine lv_iadd E.1 E.2.1 dX1_comeToStation_16 ?_
  refine p_tr E hP hA hS (upL_same V w (up (leaveF S i) 38 i 0 (-1))) hw (by omega) 5 (by decide) gw_302 (V' := upL V w (up (up (leaveF S i) 38 i 0 (-1)) 35 i 0 (((leaveF S i) 35 i 0) + 1))) (upL_upL V w _ _) dX1_comeToStation_17 (fun H locs hP hS => ?_)
  refine lv_aload_n E.1 E.2.1 dX1_comeToStation_20 rfl (lv_at hl 1 rfl) ?_
  refine lv_aload_n E.1 E.2.1 dX1_comeToStation_21 rfl (lv_at hl 0 rfl) ?_
  refine g_ln (v := .int ((leaveF S i) 9 0 0)) E hP (upL_same V w (up (up (leaveF S i) 38 i 0 (-1)) 35 i 0 (((leaveF S i) 35 i 0) + 1))) hw 9 (by decide) gw_278 (by first | rfl | simp [fLn, up_f, up_s]) dX1_comeToStation_22 ?_
  refine p_tr E hP hA hS (upL_same V w (up (up (leaveF S i) 38 i 0 (-1)) 35 i 0 (((leaveF S i) 35 i 0) + 1))) hw (by omega) 7 (by decide) gw_303 (V' := upL V w (up (up (up (leaveF S i) 38 i 0 (-1)) 35 i 0 (((leaveF S i) 35 i 0) + 1)) 37 i 0 ((leaveF S i) 9 0 0))) (upL_upL V w _ _) dX1_comeToStation_25 (fun H locs hP hS => ?_)
  refine lv_aload_n E.1 E.2.1 dX1_comeToStation_28 rfl (lv_at hl 1 rfl) ?_
  refine go_Pi (run_V (rest := []) E hml hl.1 (c_X3_isAtLastStop l  (upL_same V w (up (up (up (leaveF S i) 38 i 0 (-1)) 35 i 0 (((leaveF S i) 35 i 0) + 1)) 37 i 0 ((leaveF S i) 9 0 0))) hw (by omega)) k_X3_isAtLastStop ⟨rfl, rfl, Nat.le_of_ble_eq_true rfl, Nat.le_of_ble_eq_true rfl⟩ gw_305 gw_306 gw_307 hP (rv_tr E hP hw (by omega)) rfl rfl (Nat.le_of_ble_eq_true rfl) ⟨Nat.zero_le _, Nat.zero_le _⟩ dX1_comeToStation_29) ?_
  refine lv_if_eq (tgt := 46) E.1 E.2.1 dX1_comeToStation_32 (by decide) (fun c_32 => ?_) (fun c_32 => ?_)
  · refine lv_aload_n E.1 E.2.1 dX1_comeToStation_46 rfl (lv_at hl 1 rfl) ?_
    refine lv_aload_n E.1 E.2.1 dX1_comeToStation_47 rfl (lv_at hl 1 rfl) ?_
    refine lv_aload_n E.1 E.2.1 dX1_comeToStation_48 rfl (lv_at hl 1 rfl) ?_
    refine g_tr (v := .int (((leaveF S i) 35 i 0) + 1)) E hP (upL_same V w (up (up (up (leaveF S i) 38 i 0 (-1)) 35 i 0 (((leaveF S i) 35 i 0) + 1)) 37 i 0 ((leaveF S i) 9 0 0))) hw (by omega) 5 (by decide) gw_302 (by first | rfl | simp [fTr, up_f, up_s]) dX1_comeToStation_49 ?_
    refine go_Pi (run_V (rest := [.ref (ad Z (cTr w i))]) E hml hl.1 (c_X3_stationOf l  (upL_same V w (up (up (up (leaveF S i) 38 i 0 (-1)) 35 i 0 (((leaveF S i) 35 i 0) + 1)) 37 i 0 ((leaveF S i) 9 0 0))) hw (by omega) (((leaveF S i) 35 i 0) + 1)) k_X3_stationOf ⟨rfl, rfl, Nat.le_of_ble_eq_true rfl, Nat.le_of_ble_eq_true rfl⟩ gw_400 gw_202 gw_203 hP (rv_tr E hP hw (by omega)) rfl rfl (Nat.le_of_ble_eq_true rfl) ⟨Nat.zero_le _, Nat.zero_le _⟩ dX1_comeToStation_52) ?_
    refine p_tr E hP hA hS (upL_same V w (up (up (up (leaveF S i) 38 i 0 (-1)) 35 i 0 (((leaveF S i) 35 i 0) + 1)) 37 i 0 ((leaveF S i) 9 0 0))) hw (by omega) 6 (by decide) gw_159 (V' := upL V w (up (up (up (up (leaveF S i) 38 i 0 (-1)) 35 i 0 (((leaveF S i) 35 i 0) + 1)) 37 i 0 ((leaveF S i) 9 0 0)) 36 i 0 (stationF (up (up (up (leaveF S i) 38 i 0 (-1)) 35 i 0 (((leaveF S i) 35 i 0) + 1)) 37 i 0 ((leaveF S i) 9 0 0)) i (((leaveF S i) 35 i 0) + 1)))) (upL_upL V w _ _) dX1_comeToStation_55 (fun H locs hP hS => ?_)
    exact e_vX E hr hlk hP hS (fin1 hV' (by simp [comeF, comeT, up_f, up_s, c_32, (b2i_f c_32)])) dX1_comeToStation_58
  · refine lv_aload_n E.1 E.2.1 dX1_comeToStation_35 rfl (lv_at hl 1 rfl) ?_
    refine lv_aload_n E.1 E.2.1 dX1_comeToStation_36 rfl (lv_at hl 0 rfl) ?_
    refine g_ln (v := .int ((leaveF S i) 9 0 0)) E hP (upL_same V w (up (up (up (leaveF S i) 38 i 0 (-1)) 35 i 0 (((leaveF S i) 35 i 0) + 1)) 37 i 0 ((leaveF S i) 9 0 0))) hw 9 (by decide) gw_278 (by first | rfl | simp [fLn, up_f, up_s]) dX1_comeToStation_37 ?_
    refine go_Xv (run_V (rest := []) E hml hl.1 (c_X3_beLate l hA (V' := upL V w (beLateF (up (up (up (leaveF S i) 38 i 0 (-1)) 35 i 0 (((leaveF S i) 35 i 0) + 1)) 37 i 0 ((leaveF S i) 9 0 0)) i ((leaveF S i) 9 0 0))) (upL_same V w (up (up (up (leaveF S i) 38 i 0 (-1)) 35 i 0 (((leaveF S i) 35 i 0) + 1)) 37 i 0 ((leaveF S i) 9 0 0))) hw (by omega) ((leaveF S i) 9 0 0) (upL_upL V w _ _)) k_X3_beLate ⟨rfl, rfl, Nat.le_of_ble_eq_true rfl, Nat.le_of_ble_eq_true rfl⟩ gw_391 gw_392 gw_393 hP (rv_tr E hP hw (by omega)) rfl rfl (Nat.le_of_ble_eq_true rfl) ⟨Nat.zero_le _, Nat.zero_le _⟩ dX1_comeToStation_40) hS (fun H locs hP hS => ?_)
    refine lv_goto (tgt := 58) E.1 E.2.1 dX1_comeToStation_43 (by decide) ?_
    exact e_vX E hr hlk hP hS (fin1 hV' (by simp [comeF, comeT, up_f, up_s, c_32, (b2i_t c_32)])) dX1_comeToStation_58

abbrev rm_X1_roll : Room := { frames := 4, cells := 0, slots := 0, locals := 86 }
theorem k_X1_roll : Card yX1_roll cX1_roll 5 none 1 := ⟨gw_379, gw_12, by decide +kernel, by decide +kernel⟩
set_option maxHeartbeats 4000000 in
set_option maxRecDepth 20000 in
theorem c_X1_roll (l : Launch) {Z : Gm} (hA : AA Z) {V : Nat → St} {V' : Nat → St} {w : Nat} {S : St} (hV : V w = S) (hw : w < 2) (i : Nat) (hi : i < 8) (hL : Lim S) (hV' : upL V w (rollF S i) = V') : Met l yX1_roll (.code yX1_roll cX1_roll 5 none :: gG) rm_X1_roll (PW Z V [.ref (ad Z (cLn w)), .int (nI i)]) (QX Z none V') 0 0 (inW Z) := by
  refine met_of (by decide +kernel) (Nat.le_of_ble_eq_true rfl) ?_
  intro p e s m args below meth c ls E hr hlk hml hP hl
  have E : EE Z p s m args c cX1_roll RX1 := E
  have hl : lv_has ls 5 [(0, .ref (ad Z (cLn w))), (1, .int (nI i))] := hl
  have hS : va_S (inW Z) s.heap s.heap [] := va_S.rf
  have hT := hL.2.2
  have hR := hL.2.1
  have hB := hL.1
  refine lv_aload_n E.1 E.2.1 dX1_roll_0 rfl (lv_at hl 0 rfl) ?_
  refine g_ln E hP hV hw 5 (by decide) gw_25 rfl dX1_roll_1 ?_
  refine lv_iload_n E.1 E.2.1 dX1_roll_4 rfl (lv_at hl 1 rfl) ?_
  refine a_tr (k := i) E hP hw (nI_clamp (by omega)) (vp_in_nI (by omega) (by omega)) dX1_roll_5 ?_
  refine lv_astore_n (lv' := [(2, .ref (ad Z (cTr w i))), (0, .ref (ad Z (cLn w))), (1, .int (nI i))]) E.1 E.2.1 dX1_roll_6 rfl hl (by decide) rfl (fun ls hl => ?_)
  refine lv_aload_n E.1 E.2.1 dX1_roll_7 rfl (lv_at hl 0 rfl) ?_
  refine g_tr (v := .int (S 40 i 0)) E hP hV hw (by omega) 10 (by decide) gw_380 rfl dX1_roll_8 ?_
  refine lv_if_le (tgt := 24) E.1 E.2.1 dX1_roll_11 (by decide) (fun c_11 => ?_) (fun c_11 => ?_)
  · refine lv_aload_n E.1 E.2.1 dX1_roll_24 rfl (lv_at hl 0 rfl) ?_
    refine g_tr (v := .int (S 40 i 0)) E hP hV hw (by omega) 10 (by decide) gw_380 rfl dX1_roll_25 ?_
    refine lv_if_gt (tgt := 49) E.1 E.2.1 dX1_roll_28 (by decide) (fun c_28 => ?_) (fun c_28 => ?_)
    · exact e_vX E hr hlk hP hS (fin0 hV hV' (by simp [rollF, rollT, up_f, up_s, c_11, c_28])) dX1_roll_49
    · refine lv_aload_n E.1 E.2.1 dX1_roll_31 rfl (lv_at hl 0 rfl) ?_
      refine g_tr (v := .int (S 38 i 0)) E hP hV hw (by omega) 8 (by decide) gw_149 rfl dX1_roll_32 ?_
      refine lv_if_lt (tgt := 49) E.1 E.2.1 dX1_roll_35 (by decide) (fun c_35 => ?_) (fun c_35 => ?_)
      · exact e_vX E hr hlk hP hS (fin0 hV hV' (by simp [rollF, rollT, up_f, up_s, c_11, c_28, c_35])) dX1_roll_49
      · refine lv_aload_n E.1 E.2.1 dX1_roll_38 rfl (lv_at hl 0 rfl) ?_
        refine g_tr (v := .int (S 38 i 0)) E hP hV hw (by omega) 8 (by decide) gw_149 rfl dX1_roll_39 ?_
        refine lv_aload_n E.1 E.2.1 dX1_roll_42 rfl (lv_at hl 1 rfl) ?_
        refine g_ln (v := .int (S 4 0 0)) E hP hV hw 4 (by decide) gw_164 rfl dX1_roll_43 ?_
        refine lv_icmp_lt (tgt := 50) E.1 E.2.1 dX1_roll_46 (by decide) (fun c_46 => ?_) (fun c_46 => ?_)
        · refine lv_aload_n E.1 E.2.1 dX1_roll_50 rfl (lv_at hl 1 rfl) ?_
          refine g_ln E hP hV hw 3 (by decide) gw_23 rfl dX1_roll_51 ?_
          refine lv_aload_n E.1 E.2.1 dX1_roll_54 rfl (lv_at hl 0 rfl) ?_
          refine g_tr (v := .int (S 38 i 0)) E hP hV hw (by omega) 8 (by decide) gw_149 rfl dX1_roll_55 ?_
          have hin_58 : vp_in (S 38 i 0) 16 := vinL c_35 c_46 (clamp_le hR)
          refine a_rt (k := ((S 38 i 0).toNatClampNeg)) E hP hw rfl hin_58 dX1_roll_58 ?_
          refine lv_astore_n (lv' := [(3, .ref (ad Z (cRt w ((S 38 i 0).toNatClampNeg)))), (2, .ref (ad Z (cTr w i))), (0, .ref (ad Z (cLn w))), (1, .int (nI i))]) E.1 E.2.1 dX1_roll_59 rfl hl (by decide) rfl (fun ls hl => ?_)
          refine lv_aload_n E.1 E.2.1 dX1_roll_60 rfl (lv_at hl 1 rfl) ?_
          refine g_tr (v := .int (S 39 i 0)) E hP hV hw (by omega) 9 (by decide) gw_297 rfl dX1_roll_61 ?_
          refine lv_iconst (v := 1) E.1 E.2.1 dX1_roll_64 (by decide) ?_
          refine lv_iadd E.1 E.2.1 dX1_roll_65 ?_
          refine lv_istore (lv' := [(4, .int ((S 39 i 0) + 1)), (3, .ref (ad Z (cRt w ((S 38 i 0).toNatClampNeg)))), (2, .ref (ad Z (cTr w i))), (0, .ref (ad Z (cLn w))), (1, .int (nI i))]) E.1 E.2.1 dX1_roll_66 hl (by decide) rfl (fun ls hl => ?_)
          refine lv_iload E.1 E.2.1 dX1_roll_68 (lv_at hl 0 rfl) ?_
          refine lv_aload_n E.1 E.2.1 dX1_roll_70 rfl (lv_at hl 1 rfl) ?_
          refine g_rt (v := .int (S 23 ((S 38 i 0).toNatClampNeg) 0)) E hP hV hw (vp_lt hin_58) 3 (by decide) gw_123 rfl dX1_roll_71 ?_
          refine lv_icmp_lt (tgt := 85) E.1 E.2.1 dX1_roll_74 (by decide) (fun c_74 => ?_) (fun c_74 => ?_)
          · refine lv_aload_n E.1 E.2.1 dX1_roll_85 rfl (lv_at hl 3 rfl) ?_
            refine lv_aload_n E.1 E.2.1 dX1_roll_86 rfl (lv_at hl 1 rfl) ?_
            refine lv_iload E.1 E.2.1 dX1_roll_87 (lv_at hl 0 rfl) ?_
            refine go_Pi (run_V (rest := [.ref (ad Z (cLn w))]) E hml hl.1 (c_X2_blockAt l  hV hw (vp_lt hin_58) ((S 39 i 0) + 1)) k_X2_blockAt ⟨rfl, rfl, Nat.le_of_ble_eq_true rfl, Nat.le_of_ble_eq_true rfl⟩ gw_126 gw_127 gw_128 hP (rv_rt E hP hw (vp_lt hin_58)) rfl rfl (Nat.le_of_ble_eq_true rfl) ⟨Nat.zero_le _, Nat.zero_le _⟩ dX1_roll_89) ?_
            refine lv_iload_n E.1 E.2.1 dX1_roll_92 rfl (lv_at hl 4 rfl) ?_
            refine go_Pi (run_V (rest := []) E hml hl.1 (c_X1_isClearFor l  hV hw (blockAtF S ((S 38 i 0).toNatClampNeg) ((S 39 i 0) + 1)) (nI i) hL) k_X1_isClearFor ⟨rfl, rfl, Nat.le_of_ble_eq_true rfl, Nat.le_of_ble_eq_true rfl⟩ gw_401 gw_402 gw_403 hP (rv_ln E hP hw) rfl rfl (Nat.le_of_ble_eq_true rfl) ⟨Nat.zero_le _, Nat.zero_le _⟩ dX1_roll_93) ?_
            refine lv_if_eq (tgt := 118) E.1 E.2.1 dX1_roll_96 (by decide) (fun c_96 => ?_) (fun c_96 => ?_)
            · refine lv_aload_n E.1 E.2.1 dX1_roll_118 rfl (lv_at hl 2 rfl) ?_
              refine lv_aload_n E.1 E.2.1 dX1_roll_119 rfl (lv_at hl 3 rfl) ?_
              refine lv_aload_n E.1 E.2.1 dX1_roll_120 rfl (lv_at hl 1 rfl) ?_
              refine lv_iload E.1 E.2.1 dX1_roll_121 (lv_at hl 0 rfl) ?_
              refine go_Pi (run_V (rest := [.ref (ad Z (cLn w)), .ref (ad Z (cTr w i))]) E hml hl.1 (c_X2_blockAt l  hV hw (vp_lt hin_58) ((S 39 i 0) + 1)) k_X2_blockAt ⟨rfl, rfl, Nat.le_of_ble_eq_true rfl, Nat.le_of_ble_eq_true rfl⟩ gw_126 gw_127 gw_128 hP (rv_rt E hP hw (vp_lt hin_58)) rfl rfl (Nat.le_of_ble_eq_true rfl) ⟨Nat.zero_le _, Nat.zero_le _⟩ dX1_roll_123) ?_
              refine lv_iload_n E.1 E.2.1 dX1_roll_126 rfl (lv_at hl 4 rfl) ?_
              refine go_Pi (run_V (rest := [.ref (ad Z (cTr w i))]) E hml hl.1 (c_X1_trainInTheWay l  hV hw (blockAtF S ((S 38 i 0).toNatClampNeg) ((S 39 i 0) + 1)) (nI i) hL) k_X1_trainInTheWay ⟨rfl, rfl, Nat.le_of_ble_eq_true rfl, Nat.le_of_ble_eq_true rfl⟩ gw_412 gw_413 gw_414 hP (rv_ln E hP hw) rfl rfl (Nat.le_of_ble_eq_true rfl) ⟨Nat.zero_le _, Nat.zero_le _⟩ dX1_roll_127) ?_
              refine go_Xv (run_V (rest := []) E hml hl.1 (c_X3_waitOneTick l hA (V' := upL V w (waitF S i (inWayF S (blockAtF S ((S 38 i 0).toNatClampNeg) ((S 39 i 0) + 1)) (nI i)))) hV hw (by omega) (inWayF S (blockAtF S ((S 38 i 0).toNatClampNeg) ((S 39 i 0) + 1)) (nI i)) rfl) k_X3_waitOneTick ⟨rfl, rfl, Nat.le_of_ble_eq_true rfl, Nat.le_of_ble_eq_true rfl⟩ gw_416 gw_417 gw_418 hP (rv_tr E hP hw (by omega)) rfl rfl (Nat.le_of_ble_eq_true rfl) ⟨Nat.zero_le _, Nat.zero_le _⟩ dX1_roll_130) hS (fun H locs hP hS => ?_)
              exact e_vX E hr hlk hP hS (fin1 hV' (by simp [rollF, rollT, up_f, up_s, c_11, c_28, c_35, c_46, c_74, c_96, (b2i_f c_96)])) dX1_roll_133
            · refine lv_aload_n E.1 E.2.1 dX1_roll_99 rfl (lv_at hl 3 rfl) ?_
              refine lv_aload_n E.1 E.2.1 dX1_roll_100 rfl (lv_at hl 2 rfl) ?_
              refine go_Xv (run_V (rest := []) E hml hl.1 (c_X1_leaveBlock l hA (V' := upL V w (leaveF S i)) hV hw (by omega) hL rfl) k_X1_leaveBlock ⟨rfl, rfl, Nat.le_of_ble_eq_true rfl, Nat.le_of_ble_eq_true rfl⟩ gw_385 gw_386 gw_387 hP (rv_ln E hP hw) rfl rfl (Nat.le_of_ble_eq_true rfl) ⟨Nat.zero_le _, Nat.zero_le _⟩ dX1_roll_101) hS (fun H locs hP hS => ?_)
              refine lv_aload_n E.1 E.2.1 dX1_roll_104 rfl (lv_at hl 3 rfl) ?_
              refine lv_iload_n E.1 E.2.1 dX1_roll_105 rfl (lv_at hl 4 rfl) ?_
              refine lv_aload_n E.1 E.2.1 dX1_roll_106 rfl (lv_at hl 2 rfl) ?_
              refine g_tr (v := .int ((leaveF S i) 38 i 0)) E hP (upL_same V w (leaveF S i)) hw (by omega) 8 (by decide) gw_149 rfl dX1_roll_107 ?_
              refine lv_iload E.1 E.2.1 dX1_roll_110 (lv_at hl 0 rfl) ?_
              refine go_Xv (run_V (rest := []) E hml hl.1 (c_X1_enter l hA (V' := upL V w (enterF (leaveF S i) i ((leaveF S i) 38 i 0) ((S 39 i 0) + 1))) (upL_same V w (leaveF S i)) hw (by omega) ((leaveF S i) 38 i 0) ((S 39 i 0) + 1) (by rw [leave_ne (by decide)]; exact hin_58) (Lim_of (KC_leave (KC_refl _)) hL) (upL_upL V w _ _)) k_X1_enter ⟨rfl, rfl, Nat.le_of_ble_eq_true rfl, Nat.le_of_ble_eq_true rfl⟩ gw_407 gw_408 gw_409 hP (rv_ln E hP hw) rfl rfl (Nat.le_of_ble_eq_true rfl) ⟨Nat.zero_le _, Nat.zero_le _⟩ dX1_roll_112) hS (fun H locs hP hS => ?_)
              refine lv_goto (tgt := 133) E.1 E.2.1 dX1_roll_115 (by decide) ?_
              exact e_vX E hr hlk hP hS (fin1 hV' (by simp [rollF, rollT, up_f, up_s, c_11, c_28, c_35, c_46, c_74, c_96, (b2i_t c_96)])) dX1_roll_133
          · refine lv_aload_n E.1 E.2.1 dX1_roll_77 rfl (lv_at hl 3 rfl) ?_
            refine lv_aload_n E.1 E.2.1 dX1_roll_78 rfl (lv_at hl 2 rfl) ?_
            refine go_Xv (run_V (rest := []) E hml hl.1 (c_X1_comeToStation l hA (V' := upL V w (comeF S i)) hV hw (by omega) hL rfl) k_X1_comeToStation ⟨rfl, rfl, Nat.le_of_ble_eq_true rfl, Nat.le_of_ble_eq_true rfl⟩ gw_381 gw_382 gw_383 hP (rv_ln E hP hw) rfl rfl (Nat.le_of_ble_eq_true rfl) ⟨Nat.zero_le _, Nat.zero_le _⟩ dX1_roll_79) hS (fun H locs hP hS => ?_)
            refine lv_goto (tgt := 133) E.1 E.2.1 dX1_roll_82 (by decide) ?_
            exact e_vX E hr hlk hP hS (fin1 hV' (by simp [rollF, rollT, up_f, up_s, c_11, c_28, c_35, c_46, c_74])) dX1_roll_133
        · exact e_vX E hr hlk hP hS (fin0 hV hV' (by simp [rollF, rollT, up_f, up_s, c_11, c_28, c_35, c_46])) dX1_roll_49
  · refine lv_aload_n E.1 E.2.1 dX1_roll_14 rfl (lv_at hl 0 rfl) ?_
    refine lv_dup E.1 E.2.1 dX1_roll_15 rfl ?_
    refine g_tr (v := .int (S 40 i 0)) E hP hV hw (by omega) 10 (by decide) gw_380 rfl dX1_roll_16 ?_
    refine lv_iconst (v := 1) E.1 E.2.1 dX1_roll_19 (by decide) ?_
    refine lv_isub E.1 E.2.1 dX1_roll_20 ?_
    refine p_tr E hP hA hS hV hw (by omega) 10 (by decide) gw_380 (V' := upL V w (up S 40 i 0 ((S 40 i 0) - 1))) rfl dX1_roll_21 (fun H locs hP hS => ?_)
    refine lv_aload_n E.1 E.2.1 dX1_roll_24 rfl (lv_at hl 0 rfl) ?_
    refine g_tr (v := .int ((S 40 i 0) - 1)) E hP (upL_same V w (up S 40 i 0 ((S 40 i 0) - 1))) hw (by omega) 10 (by decide) gw_380 (by first | rfl | simp [fTr, up_f, up_s]) dX1_roll_25 ?_
    refine lv_if_gt (tgt := 49) E.1 E.2.1 dX1_roll_28 (by decide) (fun c_28 => ?_) (fun c_28 => ?_)
    · exact e_vX E hr hlk hP hS (fin1 hV' (by simp [rollF, rollT, up_f, up_s, c_11, c_28])) dX1_roll_49
    · refine lv_aload_n E.1 E.2.1 dX1_roll_31 rfl (lv_at hl 0 rfl) ?_
      refine g_tr (v := .int (S 38 i 0)) E hP (upL_same V w (up S 40 i 0 ((S 40 i 0) - 1))) hw (by omega) 8 (by decide) gw_149 (by first | rfl | simp [fTr, up_f, up_s]) dX1_roll_32 ?_
      refine lv_if_lt (tgt := 49) E.1 E.2.1 dX1_roll_35 (by decide) (fun c_35 => ?_) (fun c_35 => ?_)
      · exact e_vX E hr hlk hP hS (fin1 hV' (by simp [rollF, rollT, up_f, up_s, c_11, c_28, c_35])) dX1_roll_49
      · refine lv_aload_n E.1 E.2.1 dX1_roll_38 rfl (lv_at hl 0 rfl) ?_
        refine g_tr (v := .int (S 38 i 0)) E hP (upL_same V w (up S 40 i 0 ((S 40 i 0) - 1))) hw (by omega) 8 (by decide) gw_149 (by first | rfl | simp [fTr, up_f, up_s]) dX1_roll_39 ?_
        refine lv_aload_n E.1 E.2.1 dX1_roll_42 rfl (lv_at hl 1 rfl) ?_
        refine g_ln (v := .int (S 4 0 0)) E hP (upL_same V w (up S 40 i 0 ((S 40 i 0) - 1))) hw 4 (by decide) gw_164 (by first | rfl | simp [fLn, up_f, up_s]) dX1_roll_43 ?_
        refine lv_icmp_lt (tgt := 50) E.1 E.2.1 dX1_roll_46 (by decide) (fun c_46 => ?_) (fun c_46 => ?_)
        · refine lv_aload_n E.1 E.2.1 dX1_roll_50 rfl (lv_at hl 1 rfl) ?_
          refine g_ln E hP (upL_same V w (up S 40 i 0 ((S 40 i 0) - 1))) hw 3 (by decide) gw_23 rfl dX1_roll_51 ?_
          refine lv_aload_n E.1 E.2.1 dX1_roll_54 rfl (lv_at hl 0 rfl) ?_
          refine g_tr (v := .int (S 38 i 0)) E hP (upL_same V w (up S 40 i 0 ((S 40 i 0) - 1))) hw (by omega) 8 (by decide) gw_149 (by first | rfl | simp [fTr, up_f, up_s]) dX1_roll_55 ?_
          have hin_58 : vp_in (S 38 i 0) 16 := vinL c_35 c_46 (clamp_le hR)
          refine a_rt (k := ((S 38 i 0).toNatClampNeg)) E hP hw rfl hin_58 dX1_roll_58 ?_
          refine lv_astore_n (lv' := [(3, .ref (ad Z (cRt w ((S 38 i 0).toNatClampNeg)))), (2, .ref (ad Z (cTr w i))), (0, .ref (ad Z (cLn w))), (1, .int (nI i))]) E.1 E.2.1 dX1_roll_59 rfl hl (by decide) rfl (fun ls hl => ?_)
          refine lv_aload_n E.1 E.2.1 dX1_roll_60 rfl (lv_at hl 1 rfl) ?_
          refine g_tr (v := .int (S 39 i 0)) E hP (upL_same V w (up S 40 i 0 ((S 40 i 0) - 1))) hw (by omega) 9 (by decide) gw_297 (by first | rfl | simp [fTr, up_f, up_s]) dX1_roll_61 ?_
          refine lv_iconst (v := 1) E.1 E.2.1 dX1_roll_64 (by decide) ?_
          refine lv_iadd E.1 E.2.1 dX1_roll_65 ?_
          refine lv_istore (lv' := [(4, .int ((S 39 i 0) + 1)), (3, .ref (ad Z (cRt w ((S 38 i 0).toNatClampNeg)))), (2, .ref (ad Z (cTr w i))), (0, .ref (ad Z (cLn w))), (1, .int (nI i))]) E.1 E.2.1 dX1_roll_66 hl (by decide) rfl (fun ls hl => ?_)
          refine lv_iload E.1 E.2.1 dX1_roll_68 (lv_at hl 0 rfl) ?_
          refine lv_aload_n E.1 E.2.1 dX1_roll_70 rfl (lv_at hl 1 rfl) ?_
          refine g_rt (v := .int (S 23 ((S 38 i 0).toNatClampNeg) 0)) E hP (upL_same V w (up S 40 i 0 ((S 40 i 0) - 1))) hw (vp_lt hin_58) 3 (by decide) gw_123 (by first | rfl | simp [fRt, up_f, up_s]) dX1_roll_71 ?_
          refine lv_icmp_lt (tgt := 85) E.1 E.2.1 dX1_roll_74 (by decide) (fun c_74 => ?_) (fun c_74 => ?_)
          · refine lv_aload_n E.1 E.2.1 dX1_roll_85 rfl (lv_at hl 3 rfl) ?_
            refine lv_aload_n E.1 E.2.1 dX1_roll_86 rfl (lv_at hl 1 rfl) ?_
            refine lv_iload E.1 E.2.1 dX1_roll_87 (lv_at hl 0 rfl) ?_
            refine go_Pi (run_V (rest := [.ref (ad Z (cLn w))]) E hml hl.1 (c_X2_blockAt l  (upL_same V w (up S 40 i 0 ((S 40 i 0) - 1))) hw (vp_lt hin_58) ((S 39 i 0) + 1)) k_X2_blockAt ⟨rfl, rfl, Nat.le_of_ble_eq_true rfl, Nat.le_of_ble_eq_true rfl⟩ gw_126 gw_127 gw_128 hP (rv_rt E hP hw (vp_lt hin_58)) rfl rfl (Nat.le_of_ble_eq_true rfl) ⟨Nat.zero_le _, Nat.zero_le _⟩ dX1_roll_89) ?_
            refine lv_iload_n E.1 E.2.1 dX1_roll_92 rfl (lv_at hl 4 rfl) ?_
            refine go_Pi (run_V (rest := []) E hml hl.1 (c_X1_isClearFor l  (upL_same V w (up S 40 i 0 ((S 40 i 0) - 1))) hw (blockAtF (up S 40 i 0 ((S 40 i 0) - 1)) ((S 38 i 0).toNatClampNeg) ((S 39 i 0) + 1)) (nI i) (Lim_of (KC_up (by decide) (KC_refl _)) hL)) k_X1_isClearFor ⟨rfl, rfl, Nat.le_of_ble_eq_true rfl, Nat.le_of_ble_eq_true rfl⟩ gw_401 gw_402 gw_403 hP (rv_ln E hP hw) rfl rfl (Nat.le_of_ble_eq_true rfl) ⟨Nat.zero_le _, Nat.zero_le _⟩ dX1_roll_93) ?_
            refine lv_if_eq (tgt := 118) E.1 E.2.1 dX1_roll_96 (by decide) (fun c_96 => ?_) (fun c_96 => ?_)
            · refine lv_aload_n E.1 E.2.1 dX1_roll_118 rfl (lv_at hl 2 rfl) ?_
              refine lv_aload_n E.1 E.2.1 dX1_roll_119 rfl (lv_at hl 3 rfl) ?_
              refine lv_aload_n E.1 E.2.1 dX1_roll_120 rfl (lv_at hl 1 rfl) ?_
              refine lv_iload E.1 E.2.1 dX1_roll_121 (lv_at hl 0 rfl) ?_
              refine go_Pi (run_V (rest := [.ref (ad Z (cLn w)), .ref (ad Z (cTr w i))]) E hml hl.1 (c_X2_blockAt l  (upL_same V w (up S 40 i 0 ((S 40 i 0) - 1))) hw (vp_lt hin_58) ((S 39 i 0) + 1)) k_X2_blockAt ⟨rfl, rfl, Nat.le_of_ble_eq_true rfl, Nat.le_of_ble_eq_true rfl⟩ gw_126 gw_127 gw_128 hP (rv_rt E hP hw (vp_lt hin_58)) rfl rfl (Nat.le_of_ble_eq_true rfl) ⟨Nat.zero_le _, Nat.zero_le _⟩ dX1_roll_123) ?_
              refine lv_iload_n E.1 E.2.1 dX1_roll_126 rfl (lv_at hl 4 rfl) ?_
              refine go_Pi (run_V (rest := [.ref (ad Z (cTr w i))]) E hml hl.1 (c_X1_trainInTheWay l  (upL_same V w (up S 40 i 0 ((S 40 i 0) - 1))) hw (blockAtF (up S 40 i 0 ((S 40 i 0) - 1)) ((S 38 i 0).toNatClampNeg) ((S 39 i 0) + 1)) (nI i) (Lim_of (KC_up (by decide) (KC_refl _)) hL)) k_X1_trainInTheWay ⟨rfl, rfl, Nat.le_of_ble_eq_true rfl, Nat.le_of_ble_eq_true rfl⟩ gw_412 gw_413 gw_414 hP (rv_ln E hP hw) rfl rfl (Nat.le_of_ble_eq_true rfl) ⟨Nat.zero_le _, Nat.zero_le _⟩ dX1_roll_127) ?_
              refine go_Xv (run_V (rest := []) E hml hl.1 (c_X3_waitOneTick l hA (V' := upL V w (waitF (up S 40 i 0 ((S 40 i 0) - 1)) i (inWayF (up S 40 i 0 ((S 40 i 0) - 1)) (blockAtF (up S 40 i 0 ((S 40 i 0) - 1)) ((S 38 i 0).toNatClampNeg) ((S 39 i 0) + 1)) (nI i)))) (upL_same V w (up S 40 i 0 ((S 40 i 0) - 1))) hw (by omega) (inWayF (up S 40 i 0 ((S 40 i 0) - 1)) (blockAtF (up S 40 i 0 ((S 40 i 0) - 1)) ((S 38 i 0).toNatClampNeg) ((S 39 i 0) + 1)) (nI i)) (upL_upL V w _ _)) k_X3_waitOneTick ⟨rfl, rfl, Nat.le_of_ble_eq_true rfl, Nat.le_of_ble_eq_true rfl⟩ gw_416 gw_417 gw_418 hP (rv_tr E hP hw (by omega)) rfl rfl (Nat.le_of_ble_eq_true rfl) ⟨Nat.zero_le _, Nat.zero_le _⟩ dX1_roll_130) hS (fun H locs hP hS => ?_)
              exact e_vX E hr hlk hP hS (fin1 hV' (by simp [rollF, rollT, up_f, up_s, c_11, c_28, c_35, c_46, c_74, c_96, (b2i_f c_96)])) dX1_roll_133
            · refine lv_aload_n E.1 E.2.1 dX1_roll_99 rfl (lv_at hl 3 rfl) ?_
              refine lv_aload_n E.1 E.2.1 dX1_roll_100 rfl (lv_at hl 2 rfl) ?_
              refine go_Xv (run_V (rest := []) E hml hl.1 (c_X1_leaveBlock l hA (V' := upL V w (leaveF (up S 40 i 0 ((S 40 i 0) - 1)) i)) (upL_same V w (up S 40 i 0 ((S 40 i 0) - 1))) hw (by omega) (Lim_of (KC_up (by decide) (KC_refl _)) hL) (upL_upL V w _ _)) k_X1_leaveBlock ⟨rfl, rfl, Nat.le_of_ble_eq_true rfl, Nat.le_of_ble_eq_true rfl⟩ gw_385 gw_386 gw_387 hP (rv_ln E hP hw) rfl rfl (Nat.le_of_ble_eq_true rfl) ⟨Nat.zero_le _, Nat.zero_le _⟩ dX1_roll_101) hS (fun H locs hP hS => ?_)
              refine lv_aload_n E.1 E.2.1 dX1_roll_104 rfl (lv_at hl 3 rfl) ?_
              refine lv_iload_n E.1 E.2.1 dX1_roll_105 rfl (lv_at hl 4 rfl) ?_
              refine lv_aload_n E.1 E.2.1 dX1_roll_106 rfl (lv_at hl 2 rfl) ?_
              refine g_tr (v := .int ((leaveF (up S 40 i 0 ((S 40 i 0) - 1)) i) 38 i 0)) E hP (upL_same V w (leaveF (up S 40 i 0 ((S 40 i 0) - 1)) i)) hw (by omega) 8 (by decide) gw_149 rfl dX1_roll_107 ?_
              refine lv_iload E.1 E.2.1 dX1_roll_110 (lv_at hl 0 rfl) ?_
              refine go_Xv (run_V (rest := []) E hml hl.1 (c_X1_enter l hA (V' := upL V w (enterF (leaveF (up S 40 i 0 ((S 40 i 0) - 1)) i) i ((leaveF (up S 40 i 0 ((S 40 i 0) - 1)) i) 38 i 0) ((S 39 i 0) + 1))) (upL_same V w (leaveF (up S 40 i 0 ((S 40 i 0) - 1)) i)) hw (by omega) ((leaveF (up S 40 i 0 ((S 40 i 0) - 1)) i) 38 i 0) ((S 39 i 0) + 1) (by rw [leave_ne (by decide)]; exact hin_58) (Lim_of (KC_leave (KC_up (by decide) (KC_refl _))) hL) (upL_upL V w _ _)) k_X1_enter ⟨rfl, rfl, Nat.le_of_ble_eq_true rfl, Nat.le_of_ble_eq_true rfl⟩ gw_407 gw_408 gw_409 hP (rv_ln E hP hw) rfl rfl (Nat.le_of_ble_eq_true rfl) ⟨Nat.zero_le _, Nat.zero_le _⟩ dX1_roll_112) hS (fun H locs hP hS => ?_)
              refine lv_goto (tgt := 133) E.1 E.2.1 dX1_roll_115 (by decide) ?_
              exact e_vX E hr hlk hP hS (fin1 hV' (by simp [rollF, rollT, up_f, up_s, c_11, c_28, c_35, c_46, c_74, c_96, (b2i_t c_96)])) dX1_roll_133
          · refine lv_aload_n E.1 E.2.1 dX1_roll_77 rfl (lv_at hl 3 rfl) ?_
            refine lv_aload_n E.1 E.2.1 dX1_roll_78 rfl (lv_at hl 2 rfl) ?_
            refine go_Xv (run_V (rest := []) E hml hl.1 (c_X1_comeToStation l hA (V' := upL V w (comeF (up S 40 i 0 ((S 40 i 0) - 1)) i)) (upL_same V w (up S 40 i 0 ((S 40 i 0) - 1))) hw (by omega) (Lim_of (KC_up (by decide) (KC_refl _)) hL) (upL_upL V w _ _)) k_X1_comeToStation ⟨rfl, rfl, Nat.le_of_ble_eq_true rfl, Nat.le_of_ble_eq_true rfl⟩ gw_381 gw_382 gw_383 hP (rv_ln E hP hw) rfl rfl (Nat.le_of_ble_eq_true rfl) ⟨Nat.zero_le _, Nat.zero_le _⟩ dX1_roll_79) hS (fun H locs hP hS => ?_)
            refine lv_goto (tgt := 133) E.1 E.2.1 dX1_roll_82 (by decide) ?_
            exact e_vX E hr hlk hP hS (fin1 hV' (by simp [rollF, rollT, up_f, up_s, c_11, c_28, c_35, c_46, c_74])) dX1_roll_133
        · exact e_vX E hr hlk hP hS (fin1 hV' (by simp [rollF, rollT, up_f, up_s, c_11, c_28, c_35, c_46])) dX1_roll_49

abbrev rm_X1_lockRest : Room := { frames := 1, cells := 0, slots := 0, locals := 21 }
theorem k_X1_lockRest : Card yX1_lockRest cX1_lockRest 5 none 2 := ⟨gw_467, gw_12, by decide +kernel, by decide +kernel⟩
set_option maxHeartbeats 4000000 in
set_option maxRecDepth 20000 in
theorem c_X1_lockRest (l : Launch) {Z : Gm} (hA : AA Z) {V : Nat → St} {V' : Nat → St} {w : Nat} {S : St} (hV : V w = S) (hw : w < 2) (i : Nat) {r : Nat} (hi8 : i < 8) (hr16 : r < 16) (hL : Lim S) (hV' : upL V w (lockF S i r) = V') : Met l yX1_lockRest (.code yX1_lockRest cX1_lockRest 5 none :: gG) rm_X1_lockRest (PW Z V [.ref (ad Z (cLn w)), .int (nI i), .ref (ad Z (cRt w r))]) (QX Z none V') 0 0 (inW Z) := by
  refine met_of (by decide +kernel) (Nat.le_of_ble_eq_true rfl) ?_
  intro p e s m args below meth c ls E hr hlk hml hP hl
  have E : EE Z p s m args c cX1_lockRest RX1 := E
  have hl : lv_has ls 5 [(0, .ref (ad Z (cLn w))), (1, .int (nI i)), (2, .ref (ad Z (cRt w r)))] := hl
  have hS : va_S (inW Z) s.heap s.heap [] := va_S.rf
  have hT := hL.2.2
  have hR := hL.2.1
  have hB := hL.1
  have h31 := clamp_lt31 (S 23 r 0)
  refine lv_iconst (v := 1) E.1 E.2.1 dX1_lockRest_0 (by decide) ?_
  refine lv_istore_n (lv' := [(3, .int 1), (0, .ref (ad Z (cLn w))), (1, .int (nI i)), (2, .ref (ad Z (cRt w r)))]) E.1 E.2.1 dX1_lockRest_1 rfl hl (by decide) rfl (fun ls hl => ?_)
  have loop_2 : ∀ (n_2 : Nat) (j : Nat) (S1 : St), (S 23 r 0).toNatClampNeg - j < n_2 → (S1 = lockI S i r j) → (j ≤ (S 23 r 0).toNatClampNeg - 1) → ∀ (H : Heap) (locs : List Loc), va_P (gD Z) vwCl (bw Z (upL V w S1)) H → va_S (inW Z) s.heap H locs → ∀ (ls : Array Slot), lv_has ls 5 [(3, .int (nI (j + 1))), (0, .ref (ad Z (cLn w))), (1, .int (nI i)), (2, .ref (ad Z (cRt w r)))] → W p l e rm_X1_lockRest s m args below meth c H locs 0 0 (MQ below (QX Z none V') args s 0 0 (inW Z)) (F0 m 2 ls []) := by
    intro n_2
    induction n_2 with
    | zero => intro j S1 hm_2; exact absurd hm_2 (by omega)
    | succ n_2 ih_2 =>
      intro j S1 hm_2 ha hj H locs hP hS ls hl
      have hk : ∀ f k q, f ≠ 12 → S1 f k q = S f k q := fun f k q h => by rw [ha]; exact lockI_ne h k q j
      have hb : ∀ x, blockAtF S1 r x = blockAtF S r x := blockAt_cg (fun q => hk 24 r q (by decide))
      have hkc : KC S1 S := ⟨hk _ _ _ (by decide), hk _ _ _ (by decide), hk _ _ _ (by decide)⟩
      refine lv_iload_n E.1 E.2.1 dX1_lockRest_2 rfl (lv_at hl 0 rfl) ?_
      refine lv_aload_n E.1 E.2.1 dX1_lockRest_3 rfl (lv_at hl 3 rfl) ?_
      refine g_rt (v := .int (S1 23 r 0)) E hP (upL_same V w S1) hw (by omega) 3 (by decide) gw_123 rfl dX1_lockRest_4 ?_
      refine lv_icmp_ge (tgt := 48) E.1 E.2.1 dX1_lockRest_7 (by decide) (fun c_7 => ?_) (fun c_7 => ?_)
      · rw [hk 23 r 0 (by decide)] at c_7
        have hd : (S 23 r 0).toNatClampNeg ≤ j + 1 := lq1 (by omega) c_7
        exact e_vX E hr hlk hP hS (fin1 hV' (by rw [ha, show j = (S 23 r 0).toNatClampNeg - 1 from by omega]; rfl)) dX1_lockRest_48
      · rw [hk 23 r 0 (by decide)] at c_7
        have hd : j + 1 < (S 23 r 0).toNatClampNeg := lq2 (by omega) c_7
        refine lv_aload_n E.1 E.2.1 dX1_lockRest_10 rfl (lv_at hl 3 rfl) ?_
        refine lv_iload_n E.1 E.2.1 dX1_lockRest_11 rfl (lv_at hl 0 rfl) ?_
        refine go_Pi (run_V (rest := []) E hml hl.1 (c_X2_blockAt l  (upL_same V w S1) hw (by omega) (nI (j + 1))) k_X2_blockAt ⟨rfl, rfl, Nat.le_of_ble_eq_true rfl, Nat.le_of_ble_eq_true rfl⟩ gw_126 gw_127 gw_128 hP (rv_rt E hP hw (by omega)) rfl rfl (Nat.le_of_ble_eq_true rfl) ⟨Nat.zero_le _, Nat.zero_le _⟩ dX1_lockRest_12) ?_
        refine lv_istore (lv' := [(4, .int (blockAtF S1 r (nI (j + 1)))), (3, .int (nI (j + 1))), (0, .ref (ad Z (cLn w))), (1, .int (nI i)), (2, .ref (ad Z (cRt w r)))]) E.1 E.2.1 dX1_lockRest_15 hl (by decide) rfl (fun ls hl => ?_)
        refine lv_iload E.1 E.2.1 dX1_lockRest_17 (lv_at hl 0 rfl) ?_
        refine lv_if_lt (tgt := 42) E.1 E.2.1 dX1_lockRest_19 (by decide) (fun c_19 => ?_) (fun c_19 => ?_)
        · refine lv_iinc (v := (nI ((j + 1) + 1))) (lv' := [(3, .int (nI ((j + 1) + 1))), (4, .int (blockAtF S1 r (nI (j + 1)))), (0, .ref (ad Z (cLn w))), (1, .int (nI i)), (2, .ref (ad Z (cRt w r)))]) E.1 E.2.1 dX1_lockRest_42 hl (k := 1) rfl (nI_1 _) (by decide) rfl (fun ls hl => ?_)
          refine lv_goto (tgt := 2) E.1 E.2.1 dX1_lockRest_45 (by decide) ?_
          exact ih_2 (j + 1) _ (by omega) (lock_step ha hb (hk 2 0 0 (by decide)) (by simp [c_7, c_19])) (by omega) H locs hP hS ls (lv_sub hl [0, 2, 3, 4] rfl)
        · refine lv_iload E.1 E.2.1 dX1_lockRest_22 (lv_at hl 0 rfl) ?_
          refine lv_aload_n E.1 E.2.1 dX1_lockRest_24 rfl (lv_at hl 2 rfl) ?_
          refine g_ln (v := .int (S1 2 0 0)) E hP (upL_same V w S1) hw 2 (by decide) gw_124 rfl dX1_lockRest_25 ?_
          refine lv_icmp_ge (tgt := 42) E.1 E.2.1 dX1_lockRest_28 (by decide) (fun c_28 => ?_) (fun c_28 => ?_)
          · refine lv_iinc (v := (nI ((j + 1) + 1))) (lv' := [(3, .int (nI ((j + 1) + 1))), (4, .int (blockAtF S1 r (nI (j + 1)))), (0, .ref (ad Z (cLn w))), (1, .int (nI i)), (2, .ref (ad Z (cRt w r)))]) E.1 E.2.1 dX1_lockRest_42 hl (k := 1) rfl (nI_1 _) (by decide) rfl (fun ls hl => ?_)
            refine lv_goto (tgt := 2) E.1 E.2.1 dX1_lockRest_45 (by decide) ?_
            exact ih_2 (j + 1) _ (by omega) (lock_step ha hb (hk 2 0 0 (by decide)) (by simp [c_7, c_19, c_28])) (by omega) H locs hP hS ls (lv_sub hl [0, 2, 3, 4] rfl)
          · refine lv_aload_n E.1 E.2.1 dX1_lockRest_31 rfl (lv_at hl 2 rfl) ?_
            refine g_ln E hP (upL_same V w S1) hw 1 (by decide) gw_21 rfl dX1_lockRest_32 ?_
            refine lv_iload E.1 E.2.1 dX1_lockRest_35 (lv_at hl 0 rfl) ?_
            have hin_37 : vp_in (blockAtF S1 r (nI (j + 1))) 16 := vin c_19 c_28 (by rw [hk 2 0 0 (by decide)]; exact clamp_le hB)
            refine a_bk (k := ((blockAtF S1 r (nI (j + 1))).toNatClampNeg)) E hP hw rfl hin_37 dX1_lockRest_37 ?_
            refine lv_iload_n E.1 E.2.1 dX1_lockRest_38 rfl (lv_at hl 3 rfl) ?_
            refine p_bk E hP hA hS (upL_same V w S1) hw (vp_lt hin_37) 2 (by decide) gw_405 (V' := upL V w (up S1 12 ((blockAtF S1 r (nI (j + 1))).toNatClampNeg) 0 (nI i))) (upL_upL V w _ _) dX1_lockRest_39 (fun H locs hP hS => ?_)
            refine lv_iinc (v := (nI ((j + 1) + 1))) (lv' := [(3, .int (nI ((j + 1) + 1))), (4, .int (blockAtF S1 r (nI (j + 1)))), (0, .ref (ad Z (cLn w))), (1, .int (nI i)), (2, .ref (ad Z (cRt w r)))]) E.1 E.2.1 dX1_lockRest_42 hl (k := 1) rfl (nI_1 _) (by decide) rfl (fun ls hl => ?_)
            refine lv_goto (tgt := 2) E.1 E.2.1 dX1_lockRest_45 (by decide) ?_
            exact ih_2 (j + 1) _ (by omega) (lock_step ha hb (hk 2 0 0 (by decide)) (by simp [c_7, c_19, c_28])) (by omega) H locs hP hS ls (lv_sub hl [0, 2, 3, 4] rfl)
  exact loop_2 ((S 23 r 0).toNatClampNeg + 1) 0 S (by omega) rfl (Nat.zero_le _) _ _ (by rw [show upL V w S = V from by rw [← hV]; exact upL_self V w]; exact hP) hS _ (lv_sub hl [0, 1, 2, 3] rfl)

abbrev rm_X1_setOut : Room := { frames := 2, cells := 0, slots := 0, locals := 46 }
theorem k_X1_setOut : Card yX1_setOut cX1_setOut 3 none 2 := ⟨gw_462, gw_12, by decide +kernel, by decide +kernel⟩
set_option maxHeartbeats 4000000 in
set_option maxRecDepth 20000 in
theorem c_X1_setOut (l : Launch) {Z : Gm} (hA : AA Z) {V : Nat → St} {V' : Nat → St} {w : Nat} {S : St} (hV : V w = S) (hw : w < 2) (i r : Nat) (hi8 : i < 8) (hr16 : r < 16) (hL : Lim S) (hV' : upL V w (setOutF S i r) = V') : Met l yX1_setOut (.code yX1_setOut cX1_setOut 3 none :: gG) rm_X1_setOut (PW Z V [.ref (ad Z (cLn w)), .int (nI i), .int (nI r)]) (QX Z none V') 0 0 (inW Z) := by
  refine met_of (by decide +kernel) (Nat.le_of_ble_eq_true rfl) ?_
  intro p e s m args below meth c ls E hr hlk hml hP hl
  have E : EE Z p s m args c cX1_setOut RX1 := E
  have hl : lv_has ls 3 [(0, .ref (ad Z (cLn w))), (1, .int (nI i)), (2, .int (nI r))] := hl
  have hS : va_S (inW Z) s.heap s.heap [] := va_S.rf
  have hT := hL.2.2
  have hR := hL.2.1
  have hB := hL.1
  refine lv_aload_n E.1 E.2.1 dX1_setOut_0 rfl (lv_at hl 0 rfl) ?_
  refine g_ln E hP hV hw 5 (by decide) gw_25 rfl dX1_setOut_1 ?_
  refine lv_iload_n E.1 E.2.1 dX1_setOut_4 rfl (lv_at hl 1 rfl) ?_
  refine a_tr (k := i) E hP hw (nI_clamp (by omega)) (vp_in_nI (by omega) (by omega)) dX1_setOut_5 ?_
  refine lv_aload_n E.1 E.2.1 dX1_setOut_6 rfl (lv_at hl 0 rfl) ?_
  refine g_ln (v := .int (S 9 0 0)) E hP hV hw 9 (by decide) gw_278 rfl dX1_setOut_7 ?_
  refine go_Xv (run_V (rest := []) E hml hl.1 (c_X3_beLate l hA (V' := upL V w (beLateF S i (S 9 0 0))) hV hw (by omega) (S 9 0 0) rfl) k_X3_beLate ⟨rfl, rfl, Nat.le_of_ble_eq_true rfl, Nat.le_of_ble_eq_true rfl⟩ gw_391 gw_392 gw_393 hP (rv_tr E hP hw (by omega)) rfl rfl (Nat.le_of_ble_eq_true rfl) ⟨Nat.zero_le _, Nat.zero_le _⟩ dX1_setOut_10) hS (fun H locs hP hS => ?_)
  refine lv_aload_n E.1 E.2.1 dX1_setOut_13 rfl (lv_at hl 0 rfl) ?_
  refine lv_iload_n E.1 E.2.1 dX1_setOut_14 rfl (lv_at hl 1 rfl) ?_
  refine lv_iload_n E.1 E.2.1 dX1_setOut_15 rfl (lv_at hl 2 rfl) ?_
  refine lv_iconst (v := 0) E.1 E.2.1 dX1_setOut_16 (by decide) ?_
  refine go_Xv (run_V (rest := []) E hml hl.1 (c_X1_enter l hA (V' := upL V w (enterF (beLateF S i (S 9 0 0)) i (nI r) 0)) (upL_same V w (beLateF S i (S 9 0 0))) hw (by omega) (nI r) 0 (vp_in_nI (by omega) (by omega)) (Lim_of (KC_late (KC_refl _)) hL) (upL_upL V w _ _)) k_X1_enter ⟨rfl, rfl, Nat.le_of_ble_eq_true rfl, Nat.le_of_ble_eq_true rfl⟩ gw_407 gw_408 gw_409 hP (rv_ln E hP hw) rfl rfl (Nat.le_of_ble_eq_true rfl) ⟨Nat.zero_le _, Nat.zero_le _⟩ dX1_setOut_17) hS (fun H locs hP hS => ?_)
  refine lv_aload_n E.1 E.2.1 dX1_setOut_20 rfl (lv_at hl 0 rfl) ?_
  refine g_ln E hP (upL_same V w (enterF (beLateF S i (S 9 0 0)) i (nI r) 0)) hw 3 (by decide) gw_23 rfl dX1_setOut_21 ?_
  refine lv_iload_n E.1 E.2.1 dX1_setOut_24 rfl (lv_at hl 2 rfl) ?_
  refine a_rt (k := r) E hP hw (nI_clamp (by omega)) (vp_in_nI (by omega) (by omega)) dX1_setOut_25 ?_
  refine g_rt (v := .int ((enterF (beLateF S i (S 9 0 0)) i (nI r) 0) 22 r 0)) E hP (upL_same V w (enterF (beLateF S i (S 9 0 0)) i (nI r) 0)) hw (by omega) 2 (by decide) gw_463 rfl dX1_setOut_26 ?_
  refine lv_if_eq (tgt := 43) E.1 E.2.1 dX1_setOut_29 (by decide) (fun c_29 => ?_) (fun c_29 => ?_)
  · exact e_vX E hr hlk hP hS (fin1 hV' (by simp [setOutF, setOutT, c_29])) dX1_setOut_43
  · refine lv_aload_n E.1 E.2.1 dX1_setOut_32 rfl (lv_at hl 0 rfl) ?_
    refine lv_iload_n E.1 E.2.1 dX1_setOut_33 rfl (lv_at hl 1 rfl) ?_
    refine lv_aload_n E.1 E.2.1 dX1_setOut_34 rfl (lv_at hl 0 rfl) ?_
    refine g_ln E hP (upL_same V w (enterF (beLateF S i (S 9 0 0)) i (nI r) 0)) hw 3 (by decide) gw_23 rfl dX1_setOut_35 ?_
    refine lv_iload_n E.1 E.2.1 dX1_setOut_38 rfl (lv_at hl 2 rfl) ?_
    refine a_rt (k := r) E hP hw (nI_clamp (by omega)) (vp_in_nI (by omega) (by omega)) dX1_setOut_39 ?_
    refine go_Xv (run_V (rest := []) E hml hl.1 (c_X1_lockRest l hA (V' := upL V w (lockF (enterF (beLateF S i (S 9 0 0)) i (nI r) 0) i r)) (upL_same V w (enterF (beLateF S i (S 9 0 0)) i (nI r) 0)) hw i (by omega) (by omega) (Lim_of (KC_enter (KC_late (KC_refl _))) hL) (upL_upL V w _ _)) k_X1_lockRest ⟨rfl, rfl, Nat.le_of_ble_eq_true rfl, Nat.le_of_ble_eq_true rfl⟩ gw_464 gw_465 gw_466 hP (rv_ln E hP hw) rfl rfl (Nat.le_of_ble_eq_true rfl) ⟨Nat.zero_le _, Nat.zero_le _⟩ dX1_setOut_40) hS (fun H locs hP hS => ?_)
    exact e_vX E hr hlk hP hS (fin1 hV' (by simp [setOutF, setOutT, c_29])) dX1_setOut_43

abbrev rm_X1_takeTurn : Room := { frames := 3, cells := 0, slots := 0, locals := 69 }
theorem k_X1_takeTurn : Card yX1_takeTurn cX1_takeTurn 4 none 1 := ⟨gw_437, gw_12, by decide +kernel, by decide +kernel⟩
set_option maxHeartbeats 4000000 in
set_option maxRecDepth 20000 in
theorem c_X1_takeTurn (l : Launch) {Z : Gm} (hA : AA Z) {V : Nat → St} {V' : Nat → St} {w : Nat} {S : St} (hV : V w = S) (hw : w < 2) (i : Nat) (hi8 : i < 8) (hL : Lim S) (hV' : upL V w (turnF S i) = V') : Met l yX1_takeTurn (.code yX1_takeTurn cX1_takeTurn 4 none :: gG) rm_X1_takeTurn (PW Z V [.ref (ad Z (cLn w)), .int (nI i)]) (QX Z none V') 0 0 (inW Z) := by
  refine met_of (by decide +kernel) (Nat.le_of_ble_eq_true rfl) ?_
  intro p e s m args below meth c ls E hr hlk hml hP hl
  have E : EE Z p s m args c cX1_takeTurn RX1 := E
  have hl : lv_has ls 4 [(0, .ref (ad Z (cLn w))), (1, .int (nI i))] := hl
  have hS : va_S (inW Z) s.heap s.heap [] := va_S.rf
  have hT := hL.2.2
  have hR := hL.2.1
  have hB := hL.1
  refine lv_iconst (v := (-1)) E.1 E.2.1 dX1_takeTurn_0 (by decide) ?_
  refine lv_istore_n (lv' := [(2, .int (-1)), (0, .ref (ad Z (cLn w))), (1, .int (nI i))]) E.1 E.2.1 dX1_takeTurn_1 rfl hl (by decide) rfl (fun ls hl => ?_)
  refine lv_iconst (v := 0) E.1 E.2.1 dX1_takeTurn_2 (by decide) ?_
  refine lv_istore_n (lv' := [(3, .int 0), (2, .int (-1)), (0, .ref (ad Z (cLn w))), (1, .int (nI i))]) E.1 E.2.1 dX1_takeTurn_3 rfl hl (by decide) rfl (fun ls hl => ?_)
  have loop_4 : ∀ (n_4 : Nat) (r : Nat) (f : Int32), nR S - r < n_4 → (turnL S i (nR S - r) r f = turnF S i) → (f = -1 ∨ vp_in f 16) → (r ≤ nR S) → ∀ (H : Heap) (locs : List Loc), va_P (gD Z) vwCl (bw Z (upL V w S)) H → va_S (inW Z) s.heap H locs → ∀ (ls : Array Slot), lv_has ls 4 [(3, .int (nI r)), (2, .int f), (0, .ref (ad Z (cLn w))), (1, .int (nI i))] → W p l e rm_X1_takeTurn s m args below meth c H locs 0 0 (MQ below (QX Z none V') args s 0 0 (inW Z)) (F0 m 4 ls []) := by
    intro n_4
    induction n_4 with
    | zero => intro r f hm_4; exact absurd hm_4 (by omega)
    | succ n_4 ih_4 =>
      intro r f hm_4 ha hf hrr H locs hP hS ls hl
      refine lv_iload_n E.1 E.2.1 dX1_takeTurn_4 rfl (lv_at hl 0 rfl) ?_
      refine lv_aload_n E.1 E.2.1 dX1_takeTurn_5 rfl (lv_at hl 2 rfl) ?_
      refine g_ln (v := .int (S 4 0 0)) E hP (upL_same V w S) hw 4 (by decide) gw_164 rfl dX1_takeTurn_6 ?_
      refine lv_icmp_ge (tgt := 69) E.1 E.2.1 dX1_takeTurn_9 (by decide) (fun c_9 => ?_) (fun c_9 => ?_)
      · have hd : nR S ≤ r := lq1 (by omega) c_9
        refine lv_aload_n E.1 E.2.1 dX1_takeTurn_69 rfl (lv_at hl 2 rfl) ?_
        refine g_ln E hP (upL_same V w S) hw 5 (by decide) gw_25 rfl dX1_takeTurn_70 ?_
        refine lv_iload_n E.1 E.2.1 dX1_takeTurn_73 rfl (lv_at hl 3 rfl) ?_
        refine a_tr (k := i) E hP hw (nI_clamp (by omega)) (vp_in_nI (by omega) (by omega)) dX1_takeTurn_74 ?_
        refine lv_iload_n E.1 E.2.1 dX1_takeTurn_75 rfl (lv_at hl 1 rfl) ?_
        refine lv_iconst (v := (-1)) E.1 E.2.1 dX1_takeTurn_76 (by decide) ?_
        refine lv_icmp_ne (tgt := 84) E.1 E.2.1 dX1_takeTurn_77 (by decide) (fun c_77 => ?_) (fun c_77 => ?_)
        · refine lv_aload_n E.1 E.2.1 dX1_takeTurn_84 rfl (lv_at hl 2 rfl) ?_
          refine lv_aload_n E.1 E.2.1 dX1_takeTurn_85 rfl (lv_at hl 2 rfl) ?_
          refine g_ln E hP (upL_same V w S) hw 3 (by decide) gw_23 rfl dX1_takeTurn_86 ?_
          refine lv_iload_n E.1 E.2.1 dX1_takeTurn_89 rfl (lv_at hl 1 rfl) ?_
          have hin_90 : vp_in f 16 := hf.resolve_left c_77
          refine a_rt (k := (f.toNatClampNeg)) E hP hw rfl hin_90 dX1_takeTurn_90 ?_
          refine lv_iload_n E.1 E.2.1 dX1_takeTurn_91 rfl (lv_at hl 3 rfl) ?_
          refine go_Pi (run_V (rest := [.ref (ad Z (cTr w i))]) E hml hl.1 (c_X1_blameOn l  (upL_same V w S) hw (vp_lt hin_90) (nI i) hL) k_X1_blameOn ⟨rfl, rfl, Nat.le_of_ble_eq_true rfl, Nat.le_of_ble_eq_true rfl⟩ gw_468 gw_469 gw_470 hP (rv_ln E hP hw) rfl rfl (Nat.le_of_ble_eq_true rfl) ⟨Nat.zero_le _, Nat.zero_le _⟩ dX1_takeTurn_92) ?_
          refine go_Xv (run_V (rest := []) E hml hl.1 (c_X3_waitOneTick l hA (V' := upL V w (waitF S i (blameF S (f.toNatClampNeg) (nI i)))) (upL_same V w S) hw (by omega) (blameF S (f.toNatClampNeg) (nI i)) (upL_upL V w _ _)) k_X3_waitOneTick ⟨rfl, rfl, Nat.le_of_ble_eq_true rfl, Nat.le_of_ble_eq_true rfl⟩ gw_416 gw_417 gw_418 hP (rv_tr E hP hw (by omega)) rfl rfl (Nat.le_of_ble_eq_true rfl) ⟨Nat.zero_le _, Nat.zero_le _⟩ dX1_takeTurn_95) hS (fun H locs hP hS => ?_)
          exact e_vX E hr hlk hP hS (fin1 hV' (by rw [← ha, show nR S - r = 0 from by omega]; simp [turnL, c_9, c_77])) dX1_takeTurn_98
        · refine lv_iconst (v := (-1)) E.1 E.2.1 dX1_takeTurn_80 (by decide) ?_
          refine lv_goto (tgt := 95) E.1 E.2.1 dX1_takeTurn_81 (by decide) ?_
          refine go_Xv (run_V (rest := []) E hml hl.1 (c_X3_waitOneTick l hA (V' := upL V w (waitF S i (-1))) (upL_same V w S) hw (by omega) (-1) (upL_upL V w _ _)) k_X3_waitOneTick ⟨rfl, rfl, Nat.le_of_ble_eq_true rfl, Nat.le_of_ble_eq_true rfl⟩ gw_416 gw_417 gw_418 hP (rv_tr E hP hw (by omega)) rfl rfl (Nat.le_of_ble_eq_true rfl) ⟨Nat.zero_le _, Nat.zero_le _⟩ dX1_takeTurn_95) hS (fun H locs hP hS => ?_)
          exact e_vX E hr hlk hP hS (fin1 hV' (by rw [← ha, show nR S - r = 0 from by omega]; simp [turnL, c_9, c_77])) dX1_takeTurn_98
      · have hd : r < nR S := lq2 (by omega) c_9
        refine lv_aload_n E.1 E.2.1 dX1_takeTurn_12 rfl (lv_at hl 2 rfl) ?_
        refine lv_aload_n E.1 E.2.1 dX1_takeTurn_13 rfl (lv_at hl 2 rfl) ?_
        refine g_ln E hP (upL_same V w S) hw 3 (by decide) gw_23 rfl dX1_takeTurn_14 ?_
        refine lv_iload_n E.1 E.2.1 dX1_takeTurn_17 rfl (lv_at hl 0 rfl) ?_
        refine a_rt (k := r) E hP hw (nI_clamp (by omega)) (vp_in_nI (by omega) (by omega)) dX1_takeTurn_18 ?_
        refine lv_aload_n E.1 E.2.1 dX1_takeTurn_19 rfl (lv_at hl 2 rfl) ?_
        refine g_ln E hP (upL_same V w S) hw 5 (by decide) gw_25 rfl dX1_takeTurn_20 ?_
        refine lv_iload_n E.1 E.2.1 dX1_takeTurn_23 rfl (lv_at hl 3 rfl) ?_
        refine a_tr (k := i) E hP hw (nI_clamp (by omega)) (vp_in_nI (by omega) (by omega)) dX1_takeTurn_24 ?_
        refine go_Pi (run_V (rest := []) E hml hl.1 (c_X1_leadsOn l  (upL_same V w S) hw (by omega) (by omega)) k_X1_leadsOn ⟨rfl, rfl, Nat.le_of_ble_eq_true rfl, Nat.le_of_ble_eq_true rfl⟩ gw_438 gw_439 gw_440 hP (rv_ln E hP hw) rfl rfl (Nat.le_of_ble_eq_true rfl) ⟨Nat.zero_le _, Nat.zero_le _⟩ dX1_takeTurn_25) ?_
        refine lv_if_eq (tgt := 63) E.1 E.2.1 dX1_takeTurn_28 (by decide) (fun c_28 => ?_) (fun c_28 => ?_)
        · refine lv_iinc (v := (nI (r + 1))) (lv' := [(3, .int (nI (r + 1))), (2, .int f), (0, .ref (ad Z (cLn w))), (1, .int (nI i))]) E.1 E.2.1 dX1_takeTurn_63 hl (k := 0) rfl (nI_1 _) (by decide) rfl (fun ls hl => ?_)
          refine lv_goto (tgt := 4) E.1 E.2.1 dX1_takeTurn_66 (by decide) ?_
          exact ih_4 (r + 1) _ (by omega) (by rw [← ha, show nR S - r = (nR S - (r + 1)) + 1 from by omega]; simp [turnL, c_9, c_28, (b2i_f c_28)]) (by first | exact hf | exact Or.inr (vp_in_nI (by omega) (by omega))) (by omega) H locs hP hS ls (lv_sub hl [0, 1, 2, 3] rfl)
        · refine lv_aload_n E.1 E.2.1 dX1_takeTurn_31 rfl (lv_at hl 2 rfl) ?_
          refine lv_aload_n E.1 E.2.1 dX1_takeTurn_32 rfl (lv_at hl 2 rfl) ?_
          refine g_ln E hP (upL_same V w S) hw 3 (by decide) gw_23 rfl dX1_takeTurn_33 ?_
          refine lv_iload_n E.1 E.2.1 dX1_takeTurn_36 rfl (lv_at hl 0 rfl) ?_
          refine a_rt (k := r) E hP hw (nI_clamp (by omega)) (vp_in_nI (by omega) (by omega)) dX1_takeTurn_37 ?_
          refine lv_iload_n E.1 E.2.1 dX1_takeTurn_38 rfl (lv_at hl 3 rfl) ?_
          refine go_Pi (run_V (rest := []) E hml hl.1 (c_X1_isOpenFor l  (upL_same V w S) hw (by omega) (nI i) hL) k_X1_isOpenFor ⟨rfl, rfl, Nat.le_of_ble_eq_true rfl, Nat.le_of_ble_eq_true rfl⟩ gw_446 gw_447 gw_448 hP (rv_ln E hP hw) rfl rfl (Nat.le_of_ble_eq_true rfl) ⟨Nat.zero_le _, Nat.zero_le _⟩ dX1_takeTurn_39) ?_
          refine lv_if_eq (tgt := 52) E.1 E.2.1 dX1_takeTurn_42 (by decide) (fun c_42 => ?_) (fun c_42 => ?_)
          · refine lv_iload_n E.1 E.2.1 dX1_takeTurn_52 rfl (lv_at hl 1 rfl) ?_
            refine lv_iconst (v := (-1)) E.1 E.2.1 dX1_takeTurn_53 (by decide) ?_
            refine lv_icmp_ne (tgt := 61) E.1 E.2.1 dX1_takeTurn_54 (by decide) (fun c_54 => ?_) (fun c_54 => ?_)
            · refine lv_iload_n E.1 E.2.1 dX1_takeTurn_61 rfl (lv_at hl 1 rfl) ?_
              refine lv_istore_n (lv' := [(2, .int f), (3, .int (nI r)), (0, .ref (ad Z (cLn w))), (1, .int (nI i))]) E.1 E.2.1 dX1_takeTurn_62 rfl hl (by decide) rfl (fun ls hl => ?_)
              refine lv_iinc (v := (nI (r + 1))) (lv' := [(3, .int (nI (r + 1))), (2, .int f), (0, .ref (ad Z (cLn w))), (1, .int (nI i))]) E.1 E.2.1 dX1_takeTurn_63 hl (k := 1) rfl (nI_1 _) (by decide) rfl (fun ls hl => ?_)
              refine lv_goto (tgt := 4) E.1 E.2.1 dX1_takeTurn_66 (by decide) ?_
              exact ih_4 (r + 1) _ (by omega) (by rw [← ha, show nR S - r = (nR S - (r + 1)) + 1 from by omega]; simp [turnL, c_9, c_28, (b2i_t c_28), c_42, (b2i_f c_42), c_54]) (by first | exact hf | exact Or.inr (vp_in_nI (by omega) (by omega))) (by omega) H locs hP hS ls (lv_sub hl [0, 1, 2, 3] rfl)
            · refine lv_iload_n E.1 E.2.1 dX1_takeTurn_57 rfl (lv_at hl 0 rfl) ?_
              refine lv_goto (tgt := 62) E.1 E.2.1 dX1_takeTurn_58 (by decide) ?_
              refine lv_istore_n (lv' := [(2, .int (nI r)), (3, .int (nI r)), (0, .ref (ad Z (cLn w))), (1, .int (nI i))]) E.1 E.2.1 dX1_takeTurn_62 rfl hl (by decide) rfl (fun ls hl => ?_)
              refine lv_iinc (v := (nI (r + 1))) (lv' := [(3, .int (nI (r + 1))), (2, .int (nI r)), (0, .ref (ad Z (cLn w))), (1, .int (nI i))]) E.1 E.2.1 dX1_takeTurn_63 hl (k := 1) rfl (nI_1 _) (by decide) rfl (fun ls hl => ?_)
              refine lv_goto (tgt := 4) E.1 E.2.1 dX1_takeTurn_66 (by decide) ?_
              exact ih_4 (r + 1) _ (by omega) (by rw [← ha, show nR S - r = (nR S - (r + 1)) + 1 from by omega]; simp [turnL, c_9, c_28, (b2i_t c_28), c_42, (b2i_f c_42), c_54]) (by first | exact hf | exact Or.inr (vp_in_nI (by omega) (by omega))) (by omega) H locs hP hS ls (lv_sub hl [0, 1, 2, 3] rfl)
          · refine lv_aload_n E.1 E.2.1 dX1_takeTurn_45 rfl (lv_at hl 2 rfl) ?_
            refine lv_iload_n E.1 E.2.1 dX1_takeTurn_46 rfl (lv_at hl 3 rfl) ?_
            refine lv_iload_n E.1 E.2.1 dX1_takeTurn_47 rfl (lv_at hl 0 rfl) ?_
            refine go_Xv (run_V (rest := []) E hml hl.1 (c_X1_setOut l hA (V' := upL V w (setOutF S i r)) (upL_same V w S) hw i r (by omega) (by omega) hL (upL_upL V w _ _)) k_X1_setOut ⟨rfl, rfl, Nat.le_of_ble_eq_true rfl, Nat.le_of_ble_eq_true rfl⟩ gw_459 gw_460 gw_461 hP (rv_ln E hP hw) rfl rfl (Nat.le_of_ble_eq_true rfl) ⟨Nat.zero_le _, Nat.zero_le _⟩ dX1_takeTurn_48) hS (fun H locs hP hS => ?_)
            exact e_vX E hr hlk hP hS (fin1 hV' (by rw [← ha, show nR S - r = (nR S - (r + 1)) + 1 from by omega]; simp [turnL, c_9, c_28, (b2i_t c_28), c_42, (b2i_t c_42)])) dX1_takeTurn_51
  exact loop_4 (nR S + 1) 0 _ (by omega) rfl (Or.inl rfl) (Nat.zero_le _) _ _ (by rw [show upL V w S = V from by rw [← hV]; exact upL_self V w]; exact hP) hS _ (lv_sub hl [0, 1, 2, 3] rfl)

abbrev rm_X1_giveTurns : Room := { frames := 4, cells := 0, slots := 0, locals := 92 }
theorem k_X1_giveTurns : Card yX1_giveTurns cX1_giveTurns 4 none 0 := ⟨gw_423, gw_12, by decide +kernel, by decide +kernel⟩
set_option maxHeartbeats 4000000 in
set_option maxRecDepth 20000 in
theorem c_X1_giveTurns (l : Launch) {Z : Gm} (hA : AA Z) {V : Nat → St} {V' : Nat → St} {w : Nat} {S : St} (hV : V w = S) (hw : w < 2) (hL : Lim S) (hV' : upL V w (giveF S) = V') : Met l yX1_giveTurns (.code yX1_giveTurns cX1_giveTurns 4 none :: gG) rm_X1_giveTurns (PW Z V [.ref (ad Z (cLn w))]) (QX Z none V') 0 0 (inW Z) := by
  refine met_of (by decide +kernel) (Nat.le_of_ble_eq_true rfl) ?_
  intro p e s m args below meth c ls E hr hlk hml hP hl
  have E : EE Z p s m args c cX1_giveTurns RX1 := E
  have hl : lv_has ls 4 [(0, .ref (ad Z (cLn w)))] := hl
  have hS : va_S (inW Z) s.heap s.heap [] := va_S.rf
  have hT := hL.2.2
  have hR := hL.2.1
  have hB := hL.1
  refine lv_iconst (v := 0) E.1 E.2.1 dX1_giveTurns_0 (by decide) ?_
  refine lv_istore_n (lv' := [(1, .int 0), (0, .ref (ad Z (cLn w)))]) E.1 E.2.1 dX1_giveTurns_1 rfl hl (by decide) rfl (fun ls hl => ?_)
  refine lv_iconst (v := 0) E.1 E.2.1 dX1_giveTurns_2 (by decide) ?_
  refine lv_istore_n (lv' := [(2, .int 0), (1, .int 0), (0, .ref (ad Z (cLn w)))]) E.1 E.2.1 dX1_giveTurns_3 rfl hl (by decide) rfl (fun ls hl => ?_)
  have loop_4 : ∀ (n_4 : Nat) (q : Nat) (t : Int32) (S1 : St), nT S - q < n_4 → (giveL (nT S - q) S1 t = giveF S) → (KC S1 S) → (q ≤ nT S) → ∀ (H : Heap) (locs : List Loc), va_P (gD Z) vwCl (bw Z (upL V w S1)) H → va_S (inW Z) s.heap H locs → ∀ (ls : Array Slot), lv_has ls 4 [(2, .int (nI q)), (1, .int t), (0, .ref (ad Z (cLn w)))] → W p l e rm_X1_giveTurns s m args below meth c H locs 0 0 (MQ below (QX Z none V') args s 0 0 (inW Z)) (F0 m 4 ls []) := by
    intro n_4
    induction n_4 with
    | zero => intro q t S1 hm_4; exact absurd hm_4 (by omega)
    | succ n_4 ih_4 =>
      intro q t S1 hm_4 ha hkc hq H locs hP hS ls hl
      have hT1 : nT S1 ≤ 8 := by rw [nT_of hkc]; exact hT
      refine lv_iload_n E.1 E.2.1 dX1_giveTurns_4 rfl (lv_at hl 0 rfl) ?_
      refine lv_aload_n E.1 E.2.1 dX1_giveTurns_5 rfl (lv_at hl 2 rfl) ?_
      refine g_ln (v := .int (S1 6 0 0)) E hP (upL_same V w S1) hw 6 (by decide) gw_148 rfl dX1_giveTurns_6 ?_
      refine lv_icmp_ge (tgt := 41) E.1 E.2.1 dX1_giveTurns_9 (by decide) (fun c_9 => ?_) (fun c_9 => ?_)
      · rw [hkc.2.2] at c_9
        have hd : nT S ≤ q := lq1 (by omega) c_9
        exact e_vX E hr hlk hP hS (fin1 hV' (by rw [← ha, show nT S - q = 0 from by omega]; rfl)) dX1_giveTurns_41
      · rw [hkc.2.2] at c_9
        have hd : q < nT S := lq2 (by omega) c_9
        refine lv_aload_n E.1 E.2.1 dX1_giveTurns_12 rfl (lv_at hl 2 rfl) ?_
        refine lv_iload_n E.1 E.2.1 dX1_giveTurns_13 rfl (lv_at hl 1 rfl) ?_
        refine go_Pi (run_V (rest := []) E hml hl.1 (c_X1_firstReady l  (upL_same V w S1) hw t (Lim_of hkc hL)) k_X1_firstReady ⟨rfl, rfl, Nat.le_of_ble_eq_true rfl, Nat.le_of_ble_eq_true rfl⟩ gw_424 gw_425 gw_426 hP (rv_ln E hP hw) rfl rfl (Nat.le_of_ble_eq_true rfl) ⟨Nat.zero_le _, Nat.zero_le _⟩ dX1_giveTurns_14) ?_
        refine lv_topi (fun x ex => ?_)
        refine lv_istore_n (lv' := [(3, .int x), (2, .int (nI q)), (1, .int t), (0, .ref (ad Z (cLn w)))]) E.1 E.2.1 dX1_giveTurns_17 rfl hl (by decide) rfl (fun ls hl => ?_)
        refine lv_iload_n E.1 E.2.1 dX1_giveTurns_18 rfl (lv_at hl 0 rfl) ?_
        refine lv_iconst (v := (-1)) E.1 E.2.1 dX1_giveTurns_19 (by decide) ?_
        refine lv_icmp_ne (tgt := 24) E.1 E.2.1 dX1_giveTurns_20 (by decide) (fun c_20 => ?_) (fun c_20 => ?_)
        · obtain ⟨j, hj, rfl⟩ : ∃ j, j < nT S1 ∧ x = nI j := by rw [ex]; exact (fstL_in S1 t (nT S1)).resolve_left (by rw [← ex]; exact c_20)
          refine lv_iload_n E.1 E.2.1 dX1_giveTurns_24 rfl (lv_at hl 2 rfl) ?_
          refine lv_iconst (v := 1) E.1 E.2.1 dX1_giveTurns_25 (by decide) ?_
          refine lv_iload_n E.1 E.2.1 dX1_giveTurns_26 rfl (lv_at hl 0 rfl) ?_
          refine lv_ishl E.1 E.2.1 dX1_giveTurns_27 ?_
          refine lv_ior E.1 E.2.1 dX1_giveTurns_28 ?_
          refine lv_istore_n (lv' := [(1, .int (t ||| (1 <<< ((nI j) &&& 31)))), (3, .int (nI j)), (2, .int (nI q)), (0, .ref (ad Z (cLn w)))]) E.1 E.2.1 dX1_giveTurns_29 rfl hl (by decide) rfl (fun ls hl => ?_)
          refine lv_aload_n E.1 E.2.1 dX1_giveTurns_30 rfl (lv_at hl 3 rfl) ?_
          refine lv_iload_n E.1 E.2.1 dX1_giveTurns_31 rfl (lv_at hl 1 rfl) ?_
          refine go_Xv (run_V (rest := []) E hml hl.1 (c_X1_takeTurn l hA (V' := upL V w (turnF S1 j)) (upL_same V w S1) hw j (by omega) (Lim_of hkc hL) (upL_upL V w _ _)) k_X1_takeTurn ⟨rfl, rfl, Nat.le_of_ble_eq_true rfl, Nat.le_of_ble_eq_true rfl⟩ gw_434 gw_435 gw_436 hP (rv_ln E hP hw) rfl rfl (Nat.le_of_ble_eq_true rfl) ⟨Nat.zero_le _, Nat.zero_le _⟩ dX1_giveTurns_32) hS (fun H locs hP hS => ?_)
          refine lv_iinc (v := (nI (q + 1))) (lv' := [(2, .int (nI (q + 1))), (1, .int (t ||| (1 <<< ((nI j) &&& 31)))), (3, .int (nI j)), (0, .ref (ad Z (cLn w)))]) E.1 E.2.1 dX1_giveTurns_35 hl (k := 2) rfl (nI_1 _) (by decide) rfl (fun ls hl => ?_)
          refine lv_goto (tgt := 4) E.1 E.2.1 dX1_giveTurns_38 (by decide) ?_
          exact ih_4 (q + 1) _ _ (by omega) (by rw [← ha, show nT S - q = (nT S - (q + 1)) + 1 from by omega]; simp [giveL, ← ex, nI_ne_m1 (show j < 2 ^ 31 by omega), nI_clamp (show j < 2 ^ 31 by omega)]) (KC_turn hkc) (by omega) H locs hP hS ls (lv_sub hl [0, 1, 3] rfl)
        · exact e_vX E hr hlk hP hS (fin1 hV' (by rw [← ha, show nT S - q = (nT S - (q + 1)) + 1 from by omega]; simp [giveL, ← ex, c_20])) dX1_giveTurns_23
  exact loop_4 (nT S + 1) 0 0 S (by omega) rfl (KC_refl S) (Nat.zero_le _) _ _ (by rw [show upL V w S = V from by rw [← hV]; exact upL_self V w]; exact hP) hS _ (lv_sub hl [0, 1, 2] rfl)

abbrev rm_X1_forgetWhoWaits : Room := { frames := 0, cells := 0, slots := 0, locals := 0 }
theorem k_X1_forgetWhoWaits : Card yX1_forgetWhoWaits cX1_forgetWhoWaits 2 none 0 := ⟨gw_375, gw_12, by decide +kernel, by decide +kernel⟩
set_option maxHeartbeats 4000000 in
set_option maxRecDepth 20000 in
theorem c_X1_forgetWhoWaits (l : Launch) {Z : Gm} (hA : AA Z) {V : Nat → St} {V' : Nat → St} {w : Nat} {S : St} (hV : V w = S) (hw : w < 2) (hL : Lim S) (hV' : upL V w (forgetF S) = V') : Met l yX1_forgetWhoWaits (.code yX1_forgetWhoWaits cX1_forgetWhoWaits 2 none :: gG) rm_X1_forgetWhoWaits (PW Z V [.ref (ad Z (cLn w))]) (QX Z none V') 0 0 (inW Z) := by
  refine met_of (by decide +kernel) (Nat.le_of_ble_eq_true rfl) ?_
  intro p e s m args below meth c ls E hr hlk hml hP hl
  have E : EE Z p s m args c cX1_forgetWhoWaits RX1 := E
  have hl : lv_has ls 2 [(0, .ref (ad Z (cLn w)))] := hl
  have hS : va_S (inW Z) s.heap s.heap [] := va_S.rf
  have hT := hL.2.2
  have hR := hL.2.1
  have hB := hL.1
  refine lv_iconst (v := 0) E.1 E.2.1 dX1_forgetWhoWaits_0 (by decide) ?_
  refine lv_istore_n (lv' := [(1, .int 0), (0, .ref (ad Z (cLn w)))]) E.1 E.2.1 dX1_forgetWhoWaits_1 rfl hl (by decide) rfl (fun ls hl => ?_)
  have loop_2 : ∀ (n_2 : Nat) (i : Nat) (S1 : St), nT S - i < n_2 → (S1 = forgetI S i) → (i ≤ nT S) → ∀ (H : Heap) (locs : List Loc), va_P (gD Z) vwCl (bw Z (upL V w S1)) H → va_S (inW Z) s.heap H locs → ∀ (ls : Array Slot), lv_has ls 2 [(1, .int (nI i)), (0, .ref (ad Z (cLn w)))] → W p l e rm_X1_forgetWhoWaits s m args below meth c H locs 0 0 (MQ below (QX Z none V') args s 0 0 (inW Z)) (F0 m 2 ls []) := by
    intro n_2
    induction n_2 with
    | zero => intro i S1 hm_2; exact absurd hm_2 (by omega)
    | succ n_2 ih_2 =>
      intro i S1 hm_2 ha hi H locs hP hS ls hl
      have hkc : KC S1 S := by rw [ha]; exact KC_forgetI S i
      refine lv_iload_n E.1 E.2.1 dX1_forgetWhoWaits_2 rfl (lv_at hl 0 rfl) ?_
      refine lv_aload_n E.1 E.2.1 dX1_forgetWhoWaits_3 rfl (lv_at hl 1 rfl) ?_
      refine g_ln (v := .int (S1 6 0 0)) E hP (upL_same V w S1) hw 6 (by decide) gw_148 rfl dX1_forgetWhoWaits_4 ?_
      refine lv_icmp_ge (tgt := 26) E.1 E.2.1 dX1_forgetWhoWaits_7 (by decide) (fun c_7 => ?_) (fun c_7 => ?_)
      · rw [hkc.2.2] at c_7
        have hd : nT S ≤ i := lq1 (by omega) c_7
        exact e_vX E hr hlk hP hS (fin1 hV' (by rw [ha, show i = nT S from by omega]; rfl)) dX1_forgetWhoWaits_26
      · rw [hkc.2.2] at c_7
        have hd : i < nT S := lq2 (by omega) c_7
        refine lv_aload_n E.1 E.2.1 dX1_forgetWhoWaits_10 rfl (lv_at hl 1 rfl) ?_
        refine g_ln E hP (upL_same V w S1) hw 5 (by decide) gw_25 rfl dX1_forgetWhoWaits_11 ?_
        refine lv_iload_n E.1 E.2.1 dX1_forgetWhoWaits_14 rfl (lv_at hl 0 rfl) ?_
        refine a_tr (k := i) E hP hw (nI_clamp (by omega)) (vp_in_nI (by omega) (by omega)) dX1_forgetWhoWaits_15 ?_
        refine lv_iconst (v := (-1)) E.1 E.2.1 dX1_forgetWhoWaits_16 (by decide) ?_
        refine p_tr E hP hA hS (upL_same V w S1) hw (by omega) 14 (by decide) gw_265 (V' := upL V w (up S1 44 i 0 (-1))) (upL_upL V w _ _) dX1_forgetWhoWaits_17 (fun H locs hP hS => ?_)
        refine lv_iinc (v := (nI (i + 1))) (lv' := [(1, .int (nI (i + 1))), (0, .ref (ad Z (cLn w)))]) E.1 E.2.1 dX1_forgetWhoWaits_20 hl (k := 0) rfl (nI_1 _) (by decide) rfl (fun ls hl => ?_)
        refine lv_goto (tgt := 2) E.1 E.2.1 dX1_forgetWhoWaits_23 (by decide) ?_
        exact ih_2 (i + 1) _ (by omega) (by rw [ha]; rfl) (by omega) H locs hP hS ls (lv_sub hl [0, 1] rfl)
  exact loop_2 (nT S + 1) 0 S (by omega) rfl (Nat.zero_le _) _ _ (by rw [show upL V w S = V from by rw [← hV]; exact upL_self V w]; exact hP) hS _ (lv_sub hl [0, 1] rfl)

abbrev rm_X1_passTicks : Room := { frames := 5, cells := 0, slots := 0, locals := 115 }
theorem k_X1_passTicks : Card yX1_passTicks cX1_passTicks 4 none 1 := ⟨gw_371, gw_12, by decide +kernel, by decide +kernel⟩
set_option maxHeartbeats 4000000 in
set_option maxRecDepth 20000 in
theorem c_X1_passTicks (l : Launch) {Z : Gm} (hA : AA Z) {V : Nat → St} {V' : Nat → St} {w : Nat} {S : St} (hV : V w = S) (hw : w < 2) (x : Int32) (hL : Lim S) (hV' : upL V w (ticksF S x.toNatClampNeg) = V') : Met l yX1_passTicks (.code yX1_passTicks cX1_passTicks 4 none :: gG) rm_X1_passTicks (PW Z V [.ref (ad Z (cLn w)), .int x]) (QX Z none V') 0 0 (inW Z) := by
  refine met_of (by decide +kernel) (Nat.le_of_ble_eq_true rfl) ?_
  intro p e s m args below meth c ls E hr hlk hml hP hl
  have E : EE Z p s m args c cX1_passTicks RX1 := E
  have hl : lv_has ls 4 [(0, .ref (ad Z (cLn w))), (1, .int x)] := hl
  have hS : va_S (inW Z) s.heap s.heap [] := va_S.rf
  have hT := hL.2.2
  have hR := hL.2.1
  have hB := hL.1
  have h31 := clamp_lt31 x
  refine lv_iconst (v := 0) E.1 E.2.1 dX1_passTicks_0 (by decide) ?_
  refine lv_istore_n (lv' := [(2, .int 0), (0, .ref (ad Z (cLn w))), (1, .int x)]) E.1 E.2.1 dX1_passTicks_1 rfl hl (by decide) rfl (fun ls hl => ?_)
  have loop_2 : ∀ (n_2 : Nat) (g : Nat) (S1 : St), x.toNatClampNeg - g < n_2 → (S1 = ticksF S g) → (g ≤ x.toNatClampNeg) → ∀ (H : Heap) (locs : List Loc), va_P (gD Z) vwCl (bw Z (upL V w S1)) H → va_S (inW Z) s.heap H locs → ∀ (ls : Array Slot), lv_has ls 4 [(2, .int (nI g)), (0, .ref (ad Z (cLn w))), (1, .int x)] → W p l e rm_X1_passTicks s m args below meth c H locs 0 0 (MQ below (QX Z none V') args s 0 0 (inW Z)) (F0 m 2 ls []) := by
    intro n_2
    induction n_2 with
    | zero => intro g S1 hm_2; exact absurd hm_2 (by omega)
    | succ n_2 ih_2 =>
      intro g S1 hm_2 ha hg H locs hP hS ls hl
      have hkc : KC S1 S := by rw [ha]; exact KC_ticks (KC_refl S)
      refine lv_iload_n E.1 E.2.1 dX1_passTicks_2 rfl (lv_at hl 0 rfl) ?_
      refine lv_iload_n E.1 E.2.1 dX1_passTicks_3 rfl (lv_at hl 2 rfl) ?_
      refine lv_icmp_ge (tgt := 64) E.1 E.2.1 dX1_passTicks_4 (by decide) (fun c_4 => ?_) (fun c_4 => ?_)
      · have hd : x.toNatClampNeg ≤ g := lq1 (by omega) c_4
        exact e_vX E hr hlk hP hS (fin1 hV' (by rw [ha, show g = x.toNatClampNeg from by omega])) dX1_passTicks_64
      · have hd : g < x.toNatClampNeg := lq2 (by omega) c_4
        refine lv_aload_n E.1 E.2.1 dX1_passTicks_7 rfl (lv_at hl 1 rfl) ?_
        refine lv_dup E.1 E.2.1 dX1_passTicks_8 rfl ?_
        refine g_ln (v := .int (S1 9 0 0)) E hP (upL_same V w S1) hw 9 (by decide) gw_278 rfl dX1_passTicks_9 ?_
        refine lv_iconst (v := 1) E.1 E.2.1 dX1_passTicks_12 (by decide) ?_
        refine lv_iadd E.1 E.2.1 dX1_passTicks_13 ?_
        refine p_ln E hP hA hS (upL_same V w S1) hw 9 (by decide) gw_278 (V' := upL V w (up S1 9 0 0 ((S1 9 0 0) + 1))) (upL_upL V w _ _) dX1_passTicks_14 (fun H locs hP hS => ?_)
        refine lv_aload_n E.1 E.2.1 dX1_passTicks_17 rfl (lv_at hl 1 rfl) ?_
        refine go_Xv (run_V (rest := []) E hml hl.1 (c_X1_forgetWhoWaits l hA (V' := upL V w (forgetF (up S1 9 0 0 ((S1 9 0 0) + 1)))) (upL_same V w (up S1 9 0 0 ((S1 9 0 0) + 1))) hw (Lim_of (KC_up (by decide) hkc) hL) (upL_upL V w _ _)) k_X1_forgetWhoWaits ⟨rfl, rfl, Nat.le_of_ble_eq_true rfl, Nat.le_of_ble_eq_true rfl⟩ gw_372 gw_373 gw_374 hP (rv_ln E hP hw) rfl rfl (Nat.le_of_ble_eq_true rfl) ⟨Nat.zero_le _, Nat.zero_le _⟩ dX1_passTicks_18) hS (fun H locs hP hS => ?_)
        refine lv_iconst (v := 0) E.1 E.2.1 dX1_passTicks_21 (by decide) ?_
        refine lv_istore_n (lv' := [(3, .int 0), (2, .int (nI g)), (0, .ref (ad Z (cLn w))), (1, .int x)]) E.1 E.2.1 dX1_passTicks_22 rfl hl (by decide) rfl (fun ls hl => ?_)
        have loop_23 : ∀ (n_23 : Nat) (i : Nat) (S2 : St), nT S - i < n_23 → (S2 = rollsI (forgetF (up S1 9 0 0 (S1 9 0 0 + 1))) i) → (i ≤ nT S) → ∀ (H : Heap) (locs : List Loc), va_P (gD Z) vwCl (bw Z (upL V w S2)) H → va_S (inW Z) s.heap H locs → ∀ (ls : Array Slot), lv_has ls 4 [(3, .int (nI i)), (2, .int (nI g)), (0, .ref (ad Z (cLn w))), (1, .int x)] → W p l e rm_X1_passTicks s m args below meth c H locs 0 0 (MQ below (QX Z none V') args s 0 0 (inW Z)) (F0 m 23 ls []) := by
          intro n_23
          induction n_23 with
          | zero => intro i S2 hm_23; exact absurd hm_23 (by omega)
          | succ n_23 ih_23 =>
            intro i S2 hm_23 hb hi H locs hP hS ls hl
            have hkc2 : KC S2 S := by rw [hb]; exact KC_tr (KC_rollsI _ i) (KC_forget (KC_up (by decide) hkc))
            refine lv_iload_n E.1 E.2.1 dX1_passTicks_23 rfl (lv_at hl 0 rfl) ?_
            refine lv_aload_n E.1 E.2.1 dX1_passTicks_24 rfl (lv_at hl 2 rfl) ?_
            refine g_ln (v := .int (S2 6 0 0)) E hP (upL_same V w S2) hw 6 (by decide) gw_148 rfl dX1_passTicks_25 ?_
            refine lv_icmp_ge (tgt := 54) E.1 E.2.1 dX1_passTicks_28 (by decide) (fun c_28 => ?_) (fun c_28 => ?_)
            · rw [hkc2.2.2] at c_28
              have hd : nT S ≤ i := lq1 (by omega) c_28
              refine lv_aload_n E.1 E.2.1 dX1_passTicks_54 rfl (lv_at hl 2 rfl) ?_
              refine go_Xv (run_V (rest := []) E hml hl.1 (c_X1_giveTurns l hA (V' := upL V w (giveF S2)) (upL_same V w S2) hw (Lim_of hkc2 hL) (upL_upL V w _ _)) k_X1_giveTurns ⟨rfl, rfl, Nat.le_of_ble_eq_true rfl, Nat.le_of_ble_eq_true rfl⟩ gw_420 gw_421 gw_422 hP (rv_ln E hP hw) rfl rfl (Nat.le_of_ble_eq_true rfl) ⟨Nat.zero_le _, Nat.zero_le _⟩ dX1_passTicks_55) hS (fun H locs hP hS => ?_)
              refine lv_iinc (v := (nI (g + 1))) (lv' := [(2, .int (nI (g + 1))), (3, .int (nI i)), (0, .ref (ad Z (cLn w))), (1, .int x)]) E.1 E.2.1 dX1_passTicks_58 hl (k := 1) rfl (nI_1 _) (by decide) rfl (fun ls hl => ?_)
              refine lv_goto (tgt := 2) E.1 E.2.1 dX1_passTicks_61 (by decide) ?_
              exact ih_2 (g + 1) _ (by omega) (by rw [hb, show i = nT S from by omega]; exact tick_step hkc ha) (by omega) H locs hP hS ls (lv_sub hl [0, 2, 3] rfl)
            · rw [hkc2.2.2] at c_28
              have hd : i < nT S := lq2 (by omega) c_28
              refine lv_aload_n E.1 E.2.1 dX1_passTicks_31 rfl (lv_at hl 2 rfl) ?_
              refine g_ln E hP (upL_same V w S2) hw 5 (by decide) gw_25 rfl dX1_passTicks_32 ?_
              refine lv_iload_n E.1 E.2.1 dX1_passTicks_35 rfl (lv_at hl 0 rfl) ?_
              refine a_tr (k := i) E hP hw (nI_clamp (by omega)) (vp_in_nI (by omega) (by omega)) dX1_passTicks_36 ?_
              refine go_Pi (run_V (rest := []) E hml hl.1 (c_X3_isOnBlock l  (upL_same V w S2) hw (by omega)) k_X3_isOnBlock ⟨rfl, rfl, Nat.le_of_ble_eq_true rfl, Nat.le_of_ble_eq_true rfl⟩ gw_253 gw_254 gw_255 hP (rv_tr E hP hw (by omega)) rfl rfl (Nat.le_of_ble_eq_true rfl) ⟨Nat.zero_le _, Nat.zero_le _⟩ dX1_passTicks_37) ?_
              refine lv_if_eq (tgt := 48) E.1 E.2.1 dX1_passTicks_40 (by decide) (fun c_40 => ?_) (fun c_40 => ?_)
              · refine lv_iinc (v := (nI (i + 1))) (lv' := [(3, .int (nI (i + 1))), (2, .int (nI g)), (0, .ref (ad Z (cLn w))), (1, .int x)]) E.1 E.2.1 dX1_passTicks_48 hl (k := 0) rfl (nI_1 _) (by decide) rfl (fun ls hl => ?_)
                refine lv_goto (tgt := 23) E.1 E.2.1 dX1_passTicks_51 (by decide) ?_
                exact ih_23 (i + 1) _ (by omega) (rolls_step hb (by simp [c_4, c_28, c_40, (b2i_f c_40)])) (by omega) H locs hP hS ls (lv_sub hl [0, 1, 2, 3] rfl)
              · refine lv_aload_n E.1 E.2.1 dX1_passTicks_43 rfl (lv_at hl 2 rfl) ?_
                refine lv_iload_n E.1 E.2.1 dX1_passTicks_44 rfl (lv_at hl 0 rfl) ?_
                refine go_Xv (run_V (rest := []) E hml hl.1 (c_X1_roll l hA (V' := upL V w (rollF S2 i)) (upL_same V w S2) hw i (by omega) (Lim_of hkc2 hL) (upL_upL V w _ _)) k_X1_roll ⟨rfl, rfl, Nat.le_of_ble_eq_true rfl, Nat.le_of_ble_eq_true rfl⟩ gw_376 gw_377 gw_378 hP (rv_ln E hP hw) rfl rfl (Nat.le_of_ble_eq_true rfl) ⟨Nat.zero_le _, Nat.zero_le _⟩ dX1_passTicks_45) hS (fun H locs hP hS => ?_)
                refine lv_iinc (v := (nI (i + 1))) (lv' := [(3, .int (nI (i + 1))), (2, .int (nI g)), (0, .ref (ad Z (cLn w))), (1, .int x)]) E.1 E.2.1 dX1_passTicks_48 hl (k := 0) rfl (nI_1 _) (by decide) rfl (fun ls hl => ?_)
                refine lv_goto (tgt := 23) E.1 E.2.1 dX1_passTicks_51 (by decide) ?_
                exact ih_23 (i + 1) _ (by omega) (rolls_step hb (by simp [c_4, c_28, c_40, (b2i_t c_40)])) (by omega) H locs hP hS ls (lv_sub hl [0, 1, 2, 3] rfl)
        exact loop_23 (nT S + 1) 0 (forgetF (up S1 9 0 0 (S1 9 0 0 + 1))) (by omega) rfl (Nat.zero_le _) _ _ hP hS _ (lv_sub hl [0, 1, 2, 3] rfl)
  exact loop_2 (x.toNatClampNeg + 1) 0 S (by omega) rfl (Nat.zero_le _) _ _ (by rw [show upL V w S = V from by rw [← hV]; exact upL_self V w]; exact hP) hS _ (lv_sub hl [0, 1, 2] rfl)
