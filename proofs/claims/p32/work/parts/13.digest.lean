/-! The checksum. -/
abbrev rm_X4_mixedWithTrain : Room := { frames := 3, cells := 0, slots := 0, locals := 66 }
theorem k_X4_mixedWithTrain : Card yX4_mixedWithTrain cX4_mixedWithTrain 7 (some .long) 2 := ⟨gw_282, gw_2, by decide +kernel, by decide +kernel⟩
set_option maxHeartbeats 4000000 in
set_option maxRecDepth 20000 in
theorem c_X4_mixedWithTrain (l : Launch) {Z : Gm} {V : Nat → St} {S : St} (hV : V 0 = S) (d0 : Int64) (t : Nat) (ht : t < nT S) (hL : Lim S) : Met l yX4_mixedWithTrain (.code yX4_mixedWithTrain cX4_mixedWithTrain 7 (some .long) :: gG) rm_X4_mixedWithTrain (PW Z V [.ref (ad Z 0), .long d0, .int (nI t)]) (QP (some (.long (trainD S t d0)))) 0 0 (fun _ => False) := by
  refine met_of (by decide +kernel) (Nat.le_of_ble_eq_true rfl) ?_
  intro p e s m args below meth c ls E hr hlk hml hP hl
  have E : EE Z p s m args c cX4_mixedWithTrain RX4 := E
  have hl : lv_has ls 7 [(0, .ref (ad Z 0)), (1, .long d0), (3, .int (nI t))] := hl
  have hT := hL.2.2
  have hR := hL.2.1
  have hB := hL.1
  have hct : (nI t).toNatClampNeg = t := nI_clamp (by omega)
  refine lv_lload_n E.1 E.2.1 dX4_mixedWithTrain_0 rfl (lv_at hl 1 rfl) ?_
  refine lv_lstore (lv' := [(4, .long d0), (0, .ref (ad Z 0)), (1, .long d0), (3, .int (nI t))]) E.1 E.2.1 dX4_mixedWithTrain_1 hl (by decide) rfl (fun ls hl => ?_)
  refine lv_iconst (v := 0) E.1 E.2.1 dX4_mixedWithTrain_3 (by decide) ?_
  refine lv_istore (lv' := [(6, .int 0), (4, .long d0), (0, .ref (ad Z 0)), (1, .long d0), (3, .int (nI t))]) E.1 E.2.1 dX4_mixedWithTrain_4 hl (by decide) rfl (fun ls hl => ?_)
  have loop_6 : ∀ (n_6 : Nat) (d : Int64) (j : Nat), 13 - j < n_6 → (d = digL (trainQ S t) j d0) → (j ≤ 13) → ∀ (ls : Array Slot), lv_has ls 7 [(6, .int (nI j)), (4, .long d), (0, .ref (ad Z 0)), (1, .long d0), (3, .int (nI t))] → W p l e rm_X4_mixedWithTrain s m args below meth c s.heap [] 0 0 (MQ below (QP (some (.long (trainD S t d0)))) args s 0 0 (fun _ => False)) (F0 m 6 ls []) := by
    intro n_6
    induction n_6 with
    | zero => intro d j hm_6; exact absurd hm_6 (by omega)
    | succ n_6 ih_6 =>
      intro d j hm_6 ha hj  ls hl
      refine lv_iload E.1 E.2.1 dX4_mixedWithTrain_6 (lv_at hl 0 rfl) ?_
      refine lv_bipush (v := 12) E.1 E.2.1 dX4_mixedWithTrain_8 (by decide) ?_
      refine lv_icmp_gt (tgt := 33) E.1 E.2.1 dX4_mixedWithTrain_10 (by decide) (fun c_10 => ?_) (fun c_10 => ?_)
      · have hd : 12 < j := (nI_ltI (a := 12) (by omega) (by omega)).mp c_10
        refine lv_lload E.1 E.2.1 dX4_mixedWithTrain_33 (lv_at hl 1 rfl) ?_
        refine lv_aload_n E.1 E.2.1 dX4_mixedWithTrain_35 rfl (lv_at hl 2 rfl) ?_
        refine lv_iload_n E.1 E.2.1 dX4_mixedWithTrain_36 rfl (lv_at hl 4 rfl) ?_
        refine go_Pi (run_V (rest := [.long d]) E hml hl.1 (c_X4_waitsFor l  hV (nI t) (nI_lt0 (by omega)) (nI_ltc ht) hL) k_X4_waitsFor ⟨rfl, rfl, Nat.le_of_ble_eq_true rfl, Nat.le_of_ble_eq_true rfl⟩ gw_316 gw_317 gw_318 hP (rv_bay E hP) rfl rfl (Nat.le_of_ble_eq_true rfl) ⟨Nat.zero_le _, Nat.zero_le _⟩ dX4_mixedWithTrain_37) ?_
        refine go_Pl (run_S (rest := []) E hml hl.1 (c_X4_mixed l (V := V) d (S 44 (nI t).toNatClampNeg 0)) k_X4_mixed ⟨rfl, rfl, Nat.le_of_ble_eq_true rfl, Nat.le_of_ble_eq_true rfl⟩ gw_228 gw_229 hP  rfl rfl (Nat.le_of_ble_eq_true rfl) ⟨Nat.zero_le _, Nat.zero_le _⟩ dX4_mixedWithTrain_40) ?_
        refine lv_lstore (lv' := [(4, .long (mixF d (S 44 (nI t).toNatClampNeg 0))), (6, .int (nI j)), (0, .ref (ad Z 0)), (1, .long d0), (3, .int (nI t))]) E.1 E.2.1 dX4_mixedWithTrain_43 hl (by decide) rfl (fun ls hl => ?_)
        refine lv_lload E.1 E.2.1 dX4_mixedWithTrain_45 (lv_at hl 0 rfl) ?_
        refine lv_aload_n E.1 E.2.1 dX4_mixedWithTrain_47 rfl (lv_at hl 2 rfl) ?_
        refine lv_iload_n E.1 E.2.1 dX4_mixedWithTrain_48 rfl (lv_at hl 4 rfl) ?_
        refine go_Pi (run_V (rest := [.long (mixF d (S 44 (nI t).toNatClampNeg 0))]) E hml hl.1 (c_X4_isStuck l  hV t (by omega) hL) k_X4_isStuck ⟨rfl, rfl, Nat.le_of_ble_eq_true rfl, Nat.le_of_ble_eq_true rfl⟩ gw_321 gw_322 gw_323 hP (rv_bay E hP) rfl rfl (Nat.le_of_ble_eq_true rfl) ⟨Nat.zero_le _, Nat.zero_le _⟩ dX4_mixedWithTrain_49) ?_
        refine go_Pi (run_S (rest := [.long (mixF d (S 44 (nI t).toNatClampNeg 0))]) E hml hl.1 (c_X4_oneIf l (V := V) (b2i (stuckF S t))) k_X4_oneIf ⟨rfl, rfl, Nat.le_of_ble_eq_true rfl, Nat.le_of_ble_eq_true rfl⟩ gw_116 gw_117 hP  rfl rfl (Nat.le_of_ble_eq_true rfl) ⟨Nat.zero_le _, Nat.zero_le _⟩ dX4_mixedWithTrain_52) ?_
        refine go_Pl (run_S (rest := []) E hml hl.1 (c_X4_mixed l (V := V) (mixF d (S 44 (nI t).toNatClampNeg 0)) (oneF (b2i (stuckF S t)))) k_X4_mixed ⟨rfl, rfl, Nat.le_of_ble_eq_true rfl, Nat.le_of_ble_eq_true rfl⟩ gw_228 gw_229 hP  rfl rfl (Nat.le_of_ble_eq_true rfl) ⟨Nat.zero_le _, Nat.zero_le _⟩ dX4_mixedWithTrain_55) ?_
        refine lv_lstore (lv' := [(4, .long (mixF (mixF d (S 44 (nI t).toNatClampNeg 0)) (oneF (b2i (stuckF S t))))), (6, .int (nI j)), (0, .ref (ad Z 0)), (1, .long d0), (3, .int (nI t))]) E.1 E.2.1 dX4_mixedWithTrain_58 hl (by decide) rfl (fun ls hl => ?_)
        refine lv_iconst (v := 0) E.1 E.2.1 dX4_mixedWithTrain_60 (by decide) ?_
        refine lv_istore (lv' := [(6, .int 0), (4, .long (mixF (mixF d (S 44 (nI t).toNatClampNeg 0)) (oneF (b2i (stuckF S t))))), (0, .ref (ad Z 0)), (1, .long d0), (3, .int (nI t))]) E.1 E.2.1 dX4_mixedWithTrain_61 hl (by decide) rfl (fun ls hl => ?_)
        have loop_63 : ∀ (n_63 : Nat) (d : Int64) (o : Nat), nT S - o < n_63 → (d = digL (fun o => S 45 t o) o (mixF (mixF (digL (trainQ S t) 13 d0) (S 44 t 0)) (oneF (b2i (stuckF S t))))) → (o ≤ nT S) → ∀ (ls : Array Slot), lv_has ls 7 [(6, .int (nI o)), (4, .long d), (0, .ref (ad Z 0)), (1, .long d0), (3, .int (nI t))] → W p l e rm_X4_mixedWithTrain s m args below meth c s.heap [] 0 0 (MQ below (QP (some (.long (trainD S t d0)))) args s 0 0 (fun _ => False)) (F0 m 63 ls []) := by
          intro n_63
          induction n_63 with
          | zero => intro d o hm_63; exact absurd hm_63 (by omega)
          | succ n_63 ih_63 =>
            intro d o hm_63 hb ho  ls hl
            refine lv_iload E.1 E.2.1 dX4_mixedWithTrain_63 (lv_at hl 0 rfl) ?_
            refine lv_aload_n E.1 E.2.1 dX4_mixedWithTrain_65 rfl (lv_at hl 2 rfl) ?_
            refine g_bay E hP 0 (by decide) gw_13 dX4_mixedWithTrain_66 ?_
            refine g_ln (v := .int (S 6 0 0)) E hP hV (show 0 < 2 by decide) 6 (by decide) gw_170 rfl dX4_mixedWithTrain_69 ?_
            refine lv_icmp_ge (tgt := 95) E.1 E.2.1 dX4_mixedWithTrain_72 (by decide) (fun c_72 => ?_) (fun c_72 => ?_)
            · have hd : nT S ≤ o := lq1 (by omega) c_72
              refine lv_lload E.1 E.2.1 dX4_mixedWithTrain_95 (lv_at hl 1 rfl) ?_
              exact e_lP E hr hlk (by rw [hb, show o = nT S from by omega]; rfl) dX4_mixedWithTrain_97
            · have hd : o < nT S := lq2 (by omega) c_72
              refine lv_lload E.1 E.2.1 dX4_mixedWithTrain_75 (lv_at hl 1 rfl) ?_
              refine lv_aload_n E.1 E.2.1 dX4_mixedWithTrain_77 rfl (lv_at hl 2 rfl) ?_
              refine lv_iload_n E.1 E.2.1 dX4_mixedWithTrain_78 rfl (lv_at hl 4 rfl) ?_
              refine lv_iload E.1 E.2.1 dX4_mixedWithTrain_79 (lv_at hl 0 rfl) ?_
              refine go_Pi (run_V (rest := [.long d]) E hml hl.1 (c_X4_waitedFor l  hV (nI t) (nI_lt0 (by omega)) (nI_ltc ht) (nI o) (nI_lt0 (by omega)) (nI_ltc hd) hL) k_X4_waitedFor ⟨rfl, rfl, Nat.le_of_ble_eq_true rfl, Nat.le_of_ble_eq_true rfl⟩ gw_326 gw_327 gw_328 hP (rv_bay E hP) rfl rfl (Nat.le_of_ble_eq_true rfl) ⟨Nat.zero_le _, Nat.zero_le _⟩ dX4_mixedWithTrain_81) ?_
              refine go_Pl (run_S (rest := []) E hml hl.1 (c_X4_mixed l (V := V) d (S 45 (nI t).toNatClampNeg (nI o).toNatClampNeg)) k_X4_mixed ⟨rfl, rfl, Nat.le_of_ble_eq_true rfl, Nat.le_of_ble_eq_true rfl⟩ gw_228 gw_229 hP  rfl rfl (Nat.le_of_ble_eq_true rfl) ⟨Nat.zero_le _, Nat.zero_le _⟩ dX4_mixedWithTrain_84) ?_
              refine lv_lstore (lv' := [(4, .long (mixF d (S 45 (nI t).toNatClampNeg (nI o).toNatClampNeg))), (6, .int (nI o)), (0, .ref (ad Z 0)), (1, .long d0), (3, .int (nI t))]) E.1 E.2.1 dX4_mixedWithTrain_87 hl (by decide) rfl (fun ls hl => ?_)
              refine lv_iinc (v := (nI (o + 1))) (lv' := [(6, .int (nI (o + 1))), (4, .long (mixF d (S 45 (nI t).toNatClampNeg (nI o).toNatClampNeg))), (0, .ref (ad Z 0)), (1, .long d0), (3, .int (nI t))]) E.1 E.2.1 dX4_mixedWithTrain_89 hl (k := 1) rfl (nI_1 _) (by decide) rfl (fun ls hl => ?_)
              refine lv_goto (tgt := 63) E.1 E.2.1 dX4_mixedWithTrain_92 (by decide) ?_
              exact ih_63 _ (o + 1) (by omega) (by rw [hb, hct, nI_clamp (by omega)]; rfl) (by omega)  ls (lv_sub hl [0, 1, 2, 3, 4] rfl)
        exact loop_63 (nT S + 1) _ 0 (by omega) (by rw [hct, ha, show j = 13 from by omega]; rfl) (by omega)  _ (lv_sub hl [0, 1, 2, 3, 4] rfl)
      · have hd : ¬ 12 < j := fun h => c_10 ((nI_ltI (a := 12) (by omega) (by omega)).mpr h)
        refine lv_lload E.1 E.2.1 dX4_mixedWithTrain_13 (lv_at hl 1 rfl) ?_
        refine lv_aload_n E.1 E.2.1 dX4_mixedWithTrain_15 rfl (lv_at hl 2 rfl) ?_
        refine lv_iload_n E.1 E.2.1 dX4_mixedWithTrain_16 rfl (lv_at hl 4 rfl) ?_
        refine lv_iload E.1 E.2.1 dX4_mixedWithTrain_17 (lv_at hl 0 rfl) ?_
        refine go_Pi (run_V (rest := [.long d]) E hml hl.1 (c_X4_ofTrain l  hV (nI t) (nI_lt0 (by omega)) (nI_ltc ht) j (by omega) hL) k_X4_ofTrain ⟨rfl, rfl, Nat.le_of_ble_eq_true rfl, Nat.le_of_ble_eq_true rfl⟩ gw_283 gw_284 gw_285 hP (rv_bay E hP) rfl rfl (Nat.le_of_ble_eq_true rfl) ⟨Nat.zero_le _, Nat.zero_le _⟩ dX4_mixedWithTrain_19) ?_
        refine go_Pl (run_S (rest := []) E hml hl.1 (c_X4_mixed l (V := V) d (trainQ S (nI t).toNatClampNeg j)) k_X4_mixed ⟨rfl, rfl, Nat.le_of_ble_eq_true rfl, Nat.le_of_ble_eq_true rfl⟩ gw_228 gw_229 hP  rfl rfl (Nat.le_of_ble_eq_true rfl) ⟨Nat.zero_le _, Nat.zero_le _⟩ dX4_mixedWithTrain_22) ?_
        refine lv_lstore (lv' := [(4, .long (mixF d (trainQ S (nI t).toNatClampNeg j))), (6, .int (nI j)), (0, .ref (ad Z 0)), (1, .long d0), (3, .int (nI t))]) E.1 E.2.1 dX4_mixedWithTrain_25 hl (by decide) rfl (fun ls hl => ?_)
        refine lv_iinc (v := (nI (j + 1))) (lv' := [(6, .int (nI (j + 1))), (4, .long (mixF d (trainQ S (nI t).toNatClampNeg j))), (0, .ref (ad Z 0)), (1, .long d0), (3, .int (nI t))]) E.1 E.2.1 dX4_mixedWithTrain_27 hl (k := 1) rfl (nI_1 _) (by decide) rfl (fun ls hl => ?_)
        refine lv_goto (tgt := 6) E.1 E.2.1 dX4_mixedWithTrain_30 (by decide) ?_
        exact ih_6 _ (j + 1) (by omega) (by rw [ha, hct]; rfl) (by omega)  ls (lv_sub hl [0, 1, 2, 3, 4] rfl)
  exact loop_6 14 _ 0 (by omega) rfl (by omega)  _ (lv_sub hl [0, 1, 2, 3, 4] rfl)

abbrev rm_X4_digest : Room := { frames := 4, cells := 0, slots := 0, locals := 92 }
theorem k_X4_digest : Card yX4_digest cX4_digest 5 (some .long) 0 := ⟨gw_222, gw_2, by decide +kernel, by decide +kernel⟩
set_option maxHeartbeats 4000000 in
set_option maxRecDepth 20000 in
theorem lp_X4_digest_124 (l : Launch) {Z : Gm} {V : Nat → St} {S : St} (hV : V 0 = S) (hL : Lim S) {p : Program} {e : Env} {s : State} {m : MethodId} {args : Array Value} {below : List Frame} {meth : Method} {c : Code} (E : EE Z p s m args c cX4_digest RX4) (hr : meth.sig.returnType = (some .long)) (hlk : meth.locks = false) (hml : c.maxLocals = 5) (hP : va_P (gD Z) vwCl (bw Z V) s.heap) : ∀ (n_124 : Nat) (d : Int64) (t : Nat), nT S - t < n_124 → (d = digT S t (dig2 (blockQ S) 4 (nB S) (dig2 (fun q => stationQ S (nI q)) 3 6 (dig1 S)))) → (t ≤ nT S) → ∀ (ls : Array Slot), lv_has ls 5 [(3, .int (nI t)), (1, .long d), (0, .ref (ad Z 0))] → W p l e rm_X4_digest s m args below meth c s.heap [] 0 0 (MQ below (QP (some (.long (digF S)))) args s 0 0 (fun _ => False)) (F0 m 124 ls []) := by
  have hT := hL.2.2
  have hR := hL.2.1
  have hB := hL.1
  intro n_124
  induction n_124 with
  | zero => intro d t hm_124; exact absurd hm_124 (by omega)
  | succ n_124 ih_124 =>
    intro d t hm_124 he htT  ls hl
    refine lv_iload_n E.1 E.2.1 dX4_digest_124 rfl (lv_at hl 0 rfl) ?_
    refine lv_aload_n E.1 E.2.1 dX4_digest_125 rfl (lv_at hl 2 rfl) ?_
    refine g_bay E hP 0 (by decide) gw_13 dX4_digest_126 ?_
    refine g_ln (v := .int (S 6 0 0)) E hP hV (show 0 < 2 by decide) 6 (by decide) gw_170 rfl dX4_digest_129 ?_
    refine lv_icmp_ge (tgt := 148) E.1 E.2.1 dX4_digest_132 (by decide) (fun c_132 => ?_) (fun c_132 => ?_)
    · have hd : nT S ≤ t := lq1 (by omega) c_132
      refine lv_lload_n E.1 E.2.1 dX4_digest_148 rfl (lv_at hl 1 rfl) ?_
      exact e_lP E hr hlk (by rw [he, show t = nT S from by omega]; rfl) dX4_digest_149
    · have hd : t < nT S := lq2 (by omega) c_132
      refine lv_aload_n E.1 E.2.1 dX4_digest_135 rfl (lv_at hl 2 rfl) ?_
      refine lv_lload_n E.1 E.2.1 dX4_digest_136 rfl (lv_at hl 1 rfl) ?_
      refine lv_iload_n E.1 E.2.1 dX4_digest_137 rfl (lv_at hl 0 rfl) ?_
      refine go_Pl (run_V (rest := []) E hml hl.1 (c_X4_mixedWithTrain l  hV d t (by omega) hL) k_X4_mixedWithTrain ⟨rfl, rfl, Nat.le_of_ble_eq_true rfl, Nat.le_of_ble_eq_true rfl⟩ gw_279 gw_280 gw_281 hP (rv_bay E hP) rfl rfl (Nat.le_of_ble_eq_true rfl) ⟨Nat.zero_le _, Nat.zero_le _⟩ dX4_digest_138) ?_
      refine lv_lstore_n (lv' := [(1, .long (trainD S t d)), (3, .int (nI t)), (0, .ref (ad Z 0))]) E.1 E.2.1 dX4_digest_141 rfl hl (by decide) rfl (fun ls hl => ?_)
      refine lv_iinc (v := (nI (t + 1))) (lv' := [(3, .int (nI (t + 1))), (1, .long (trainD S t d)), (0, .ref (ad Z 0))]) E.1 E.2.1 dX4_digest_142 hl (k := 1) rfl (nI_1 _) (by decide) rfl (fun ls hl => ?_)
      refine lv_goto (tgt := 124) E.1 E.2.1 dX4_digest_145 (by decide) ?_
      exact ih_124 _ (t + 1) (by omega) (by rw [he]; exact digT_s _ _ _) (by omega)  ls (lv_sub hl [0, 1, 2] rfl)
set_option maxHeartbeats 4000000 in
set_option maxRecDepth 20000 in
theorem lp_X4_digest_78 (l : Launch) {Z : Gm} {V : Nat → St} {S : St} (hV : V 0 = S) (hL : Lim S) {p : Program} {e : Env} {s : State} {m : MethodId} {args : Array Value} {below : List Frame} {meth : Method} {c : Code} (E : EE Z p s m args c cX4_digest RX4) (hr : meth.sig.returnType = (some .long)) (hlk : meth.locks = false) (hml : c.maxLocals = 5) (hP : va_P (gD Z) vwCl (bw Z V) s.heap) : ∀ (n_78 : Nat) (d : Int64) (q : Nat), nB S - q < n_78 → (d = dig2 (blockQ S) 4 q (dig2 (fun q => stationQ S (nI q)) 3 6 (dig1 S))) → (q ≤ nB S) → ∀ (ls : Array Slot), lv_has ls 5 [(3, .int (nI q)), (1, .long d), (0, .ref (ad Z 0))] → W p l e rm_X4_digest s m args below meth c s.heap [] 0 0 (MQ below (QP (some (.long (digF S)))) args s 0 0 (fun _ => False)) (F0 m 78 ls []) := by
  have hT := hL.2.2
  have hR := hL.2.1
  have hB := hL.1
  intro n_78
  induction n_78 with
  | zero => intro d q hm_78; exact absurd hm_78 (by omega)
  | succ n_78 ih_78 =>
    intro d q hm_78 hc hqB  ls hl
    refine lv_iload_n E.1 E.2.1 dX4_digest_78 rfl (lv_at hl 0 rfl) ?_
    refine lv_aload_n E.1 E.2.1 dX4_digest_79 rfl (lv_at hl 2 rfl) ?_
    refine g_bay E hP 0 (by decide) gw_13 dX4_digest_80 ?_
    refine g_ln (v := .int (S 2 0 0)) E hP hV (show 0 < 2 by decide) 2 (by decide) gw_66 rfl dX4_digest_83 ?_
    refine lv_icmp_ge (tgt := 122) E.1 E.2.1 dX4_digest_86 (by decide) (fun c_86 => ?_) (fun c_86 => ?_)
    · have hq : nB S ≤ q := lq1 (by omega) c_86
      refine lv_iconst (v := 0) E.1 E.2.1 dX4_digest_122 (by decide) ?_
      refine lv_istore_n (lv' := [(3, .int 0), (1, .long d), (0, .ref (ad Z 0))]) E.1 E.2.1 dX4_digest_123 rfl hl (by decide) rfl (fun ls hl => ?_)
      exact lp_X4_digest_124 l hV hL E hr hlk hml hP (nT S + 1) _ 0 (by omega) (by rw [hc, show q = nB S from by omega]; exact digT_0 _ _) (by omega) _ (lv_sub hl [0, 1, 2] rfl)
    · have hq : q < nB S := lq2 (by omega) c_86
      refine lv_iconst (v := 0) E.1 E.2.1 dX4_digest_89 (by decide) ?_
      refine lv_istore (lv' := [(4, .int 0), (3, .int (nI q)), (1, .long d), (0, .ref (ad Z 0))]) E.1 E.2.1 dX4_digest_90 hl (by decide) rfl (fun ls hl => ?_)
      have loop_92 : ∀ (n_92 : Nat) (d : Int64) (j : Nat), 4 - j < n_92 → (d = digL (blockQ S q) j (dig2 (blockQ S) 4 q (dig2 (fun q => stationQ S (nI q)) 3 6 (dig1 S)))) → (j ≤ 4) → ∀ (ls : Array Slot), lv_has ls 5 [(4, .int (nI j)), (3, .int (nI q)), (1, .long d), (0, .ref (ad Z 0))] → W p l e rm_X4_digest s m args below meth c s.heap [] 0 0 (MQ below (QP (some (.long (digF S)))) args s 0 0 (fun _ => False)) (F0 m 92 ls []) := by
        intro n_92
        induction n_92 with
        | zero => intro d j hm_92; exact absurd hm_92 (by omega)
        | succ n_92 ih_92 =>
          intro d j hm_92 hc2 hj4  ls hl
          refine lv_iload E.1 E.2.1 dX4_digest_92 (lv_at hl 0 rfl) ?_
          refine lv_iconst (v := 3) E.1 E.2.1 dX4_digest_94 (by decide) ?_
          refine lv_icmp_gt (tgt := 116) E.1 E.2.1 dX4_digest_95 (by decide) (fun c_95 => ?_) (fun c_95 => ?_)
          · have hd : 3 < j := (nI_ltI (a := 3) (by omega) (by omega)).mp c_95
            refine lv_iinc (v := (nI (q + 1))) (lv' := [(3, .int (nI (q + 1))), (4, .int (nI j)), (1, .long d), (0, .ref (ad Z 0))]) E.1 E.2.1 dX4_digest_116 hl (k := 1) rfl (nI_1 _) (by decide) rfl (fun ls hl => ?_)
            refine lv_goto (tgt := 78) E.1 E.2.1 dX4_digest_119 (by decide) ?_
            exact ih_78 _ (q + 1) (by omega) (by rw [hc2, show j = 4 from by omega]; exact dig2_s (blockQ S) 4 q _) (by omega)  ls (lv_sub hl [0, 2, 3] rfl)
          · have hd : ¬ 3 < j := fun h => c_95 ((nI_ltI (a := 3) (by omega) (by omega)).mpr h)
            refine lv_lload_n E.1 E.2.1 dX4_digest_98 rfl (lv_at hl 2 rfl) ?_
            refine lv_aload_n E.1 E.2.1 dX4_digest_99 rfl (lv_at hl 3 rfl) ?_
            refine lv_iload_n E.1 E.2.1 dX4_digest_100 rfl (lv_at hl 1 rfl) ?_
            refine lv_iload E.1 E.2.1 dX4_digest_101 (lv_at hl 0 rfl) ?_
            refine go_Pi (run_V (rest := [.long d]) E hml hl.1 (c_X4_ofBlock l  hV (nI q) (nI_lt0 (by omega)) (nI_ltc hq) j (by omega) hL) k_X4_ofBlock ⟨rfl, rfl, Nat.le_of_ble_eq_true rfl, Nat.le_of_ble_eq_true rfl⟩ gw_267 gw_268 gw_269 hP (rv_bay E hP) rfl rfl (Nat.le_of_ble_eq_true rfl) ⟨Nat.zero_le _, Nat.zero_le _⟩ dX4_digest_103) ?_
            refine go_Pl (run_S (rest := []) E hml hl.1 (c_X4_mixed l (V := V) d (blockQ S (nI q).toNatClampNeg j)) k_X4_mixed ⟨rfl, rfl, Nat.le_of_ble_eq_true rfl, Nat.le_of_ble_eq_true rfl⟩ gw_228 gw_229 hP  rfl rfl (Nat.le_of_ble_eq_true rfl) ⟨Nat.zero_le _, Nat.zero_le _⟩ dX4_digest_106) ?_
            refine lv_lstore_n (lv' := [(1, .long (mixF d (blockQ S (nI q).toNatClampNeg j))), (4, .int (nI j)), (3, .int (nI q)), (0, .ref (ad Z 0))]) E.1 E.2.1 dX4_digest_109 rfl hl (by decide) rfl (fun ls hl => ?_)
            refine lv_iinc (v := (nI (j + 1))) (lv' := [(4, .int (nI (j + 1))), (1, .long (mixF d (blockQ S (nI q).toNatClampNeg j))), (3, .int (nI q)), (0, .ref (ad Z 0))]) E.1 E.2.1 dX4_digest_110 hl (k := 1) rfl (nI_1 _) (by decide) rfl (fun ls hl => ?_)
            refine lv_goto (tgt := 92) E.1 E.2.1 dX4_digest_113 (by decide) ?_
            exact ih_92 _ (j + 1) (by omega) (by rw [hc2, nI_clamp (by omega)]; exact digL_s _ _ _) (by omega)  ls (lv_sub hl [0, 2, 1, 3] rfl)
      exact loop_92 5 _ 0 (by omega) (by rw [hc]; exact digL_0 _ _) (by omega)  _ (lv_sub hl [0, 1, 2, 3] rfl)
set_option maxHeartbeats 4000000 in
set_option maxRecDepth 20000 in
theorem lp_X4_digest_37 (l : Launch) {Z : Gm} {V : Nat → St} {S : St} (hV : V 0 = S) (hL : Lim S) {p : Program} {e : Env} {s : State} {m : MethodId} {args : Array Value} {below : List Frame} {meth : Method} {c : Code} (E : EE Z p s m args c cX4_digest RX4) (hr : meth.sig.returnType = (some .long)) (hlk : meth.locks = false) (hml : c.maxLocals = 5) (hP : va_P (gD Z) vwCl (bw Z V) s.heap) : ∀ (n_37 : Nat) (d : Int64) (q : Nat), 6 - q < n_37 → (d = dig2 (fun q => stationQ S (nI q)) 3 q (dig1 S)) → (q ≤ 6) → ∀ (ls : Array Slot), lv_has ls 5 [(3, .int (nI q)), (1, .long d), (0, .ref (ad Z 0))] → W p l e rm_X4_digest s m args below meth c s.heap [] 0 0 (MQ below (QP (some (.long (digF S)))) args s 0 0 (fun _ => False)) (F0 m 37 ls []) := by
  have hT := hL.2.2
  have hR := hL.2.1
  have hB := hL.1
  intro n_37
  induction n_37 with
  | zero => intro d q hm_37; exact absurd hm_37 (by omega)
  | succ n_37 ih_37 =>
    intro d q hm_37 hb hq6  ls hl
    refine lv_iload_n E.1 E.2.1 dX4_digest_37 rfl (lv_at hl 0 rfl) ?_
    refine lv_bipush (v := 6) E.1 E.2.1 dX4_digest_38 (by decide) ?_
    refine lv_icmp_ge (tgt := 76) E.1 E.2.1 dX4_digest_40 (by decide) (fun c_40 => ?_) (fun c_40 => ?_)
    · have hd : 6 ≤ q := (nI_leI (a := 6) (by omega) (by omega)).mp c_40
      refine lv_iconst (v := 0) E.1 E.2.1 dX4_digest_76 (by decide) ?_
      refine lv_istore_n (lv' := [(3, .int 0), (1, .long d), (0, .ref (ad Z 0))]) E.1 E.2.1 dX4_digest_77 rfl hl (by decide) rfl (fun ls hl => ?_)
      exact lp_X4_digest_78 l hV hL E hr hlk hml hP (nB S + 1) _ 0 (by omega) (by rw [hb, show q = 6 from by omega]; exact dig2_0 _ _ _) (by omega) _ (lv_sub hl [0, 1, 2] rfl)
    · have hd : ¬ 6 ≤ q := fun h => c_40 ((nI_leI (a := 6) (by omega) (by omega)).mpr h)
      refine lv_iconst (v := 0) E.1 E.2.1 dX4_digest_43 (by decide) ?_
      refine lv_istore (lv' := [(4, .int 0), (3, .int (nI q)), (1, .long d), (0, .ref (ad Z 0))]) E.1 E.2.1 dX4_digest_44 hl (by decide) rfl (fun ls hl => ?_)
      have loop_46 : ∀ (n_46 : Nat) (d : Int64) (j : Nat), 3 - j < n_46 → (d = digL (stationQ S (nI q)) j (dig2 (fun q => stationQ S (nI q)) 3 q (dig1 S))) → (j ≤ 3) → ∀ (ls : Array Slot), lv_has ls 5 [(4, .int (nI j)), (3, .int (nI q)), (1, .long d), (0, .ref (ad Z 0))] → W p l e rm_X4_digest s m args below meth c s.heap [] 0 0 (MQ below (QP (some (.long (digF S)))) args s 0 0 (fun _ => False)) (F0 m 46 ls []) := by
        intro n_46
        induction n_46 with
        | zero => intro d j hm_46; exact absurd hm_46 (by omega)
        | succ n_46 ih_46 =>
          intro d j hm_46 hb2 hj3  ls hl
          refine lv_iload E.1 E.2.1 dX4_digest_46 (lv_at hl 0 rfl) ?_
          refine lv_iconst (v := 2) E.1 E.2.1 dX4_digest_48 (by decide) ?_
          refine lv_icmp_gt (tgt := 70) E.1 E.2.1 dX4_digest_49 (by decide) (fun c_49 => ?_) (fun c_49 => ?_)
          · have hd : 2 < j := (nI_ltI (a := 2) (by omega) (by omega)).mp c_49
            refine lv_iinc (v := (nI (q + 1))) (lv' := [(3, .int (nI (q + 1))), (4, .int (nI j)), (1, .long d), (0, .ref (ad Z 0))]) E.1 E.2.1 dX4_digest_70 hl (k := 1) rfl (nI_1 _) (by decide) rfl (fun ls hl => ?_)
            refine lv_goto (tgt := 37) E.1 E.2.1 dX4_digest_73 (by decide) ?_
            exact ih_37 _ (q + 1) (by omega) (by rw [hb2, show j = 3 from by omega]; exact dig2_s (fun q => stationQ S (nI q)) 3 q (dig1 S)) (by omega)  ls (lv_sub hl [0, 2, 3] rfl)
          · have hd : ¬ 2 < j := fun h => c_49 ((nI_ltI (a := 2) (by omega) (by omega)).mpr h)
            refine lv_lload_n E.1 E.2.1 dX4_digest_52 rfl (lv_at hl 2 rfl) ?_
            refine lv_aload_n E.1 E.2.1 dX4_digest_53 rfl (lv_at hl 3 rfl) ?_
            refine lv_iload_n E.1 E.2.1 dX4_digest_54 rfl (lv_at hl 1 rfl) ?_
            refine lv_iload E.1 E.2.1 dX4_digest_55 (lv_at hl 0 rfl) ?_
            refine go_Pi (run_V (rest := [.long d]) E hml hl.1 (c_X4_station l  hV (nI q) (nI_lt0 (by omega)) (nI_lt (b := 6) (by omega) (by omega)) j (by omega) hL) k_X4_station ⟨rfl, rfl, Nat.le_of_ble_eq_true rfl, Nat.le_of_ble_eq_true rfl⟩ gw_266 gw_151 gw_152 hP (rv_bay E hP) rfl rfl (Nat.le_of_ble_eq_true rfl) ⟨Nat.zero_le _, Nat.zero_le _⟩ dX4_digest_57) ?_
            refine go_Pl (run_S (rest := []) E hml hl.1 (c_X4_mixed l (V := V) d (stationQ S (nI q) j)) k_X4_mixed ⟨rfl, rfl, Nat.le_of_ble_eq_true rfl, Nat.le_of_ble_eq_true rfl⟩ gw_228 gw_229 hP  rfl rfl (Nat.le_of_ble_eq_true rfl) ⟨Nat.zero_le _, Nat.zero_le _⟩ dX4_digest_60) ?_
            refine lv_lstore_n (lv' := [(1, .long (mixF d (stationQ S (nI q) j))), (4, .int (nI j)), (3, .int (nI q)), (0, .ref (ad Z 0))]) E.1 E.2.1 dX4_digest_63 rfl hl (by decide) rfl (fun ls hl => ?_)
            refine lv_iinc (v := (nI (j + 1))) (lv' := [(4, .int (nI (j + 1))), (1, .long (mixF d (stationQ S (nI q) j))), (3, .int (nI q)), (0, .ref (ad Z 0))]) E.1 E.2.1 dX4_digest_64 hl (k := 1) rfl (nI_1 _) (by decide) rfl (fun ls hl => ?_)
            refine lv_goto (tgt := 46) E.1 E.2.1 dX4_digest_67 (by decide) ?_
            exact ih_46 _ (j + 1) (by omega) (by rw [hb2]; exact digL_s _ _ _) (by omega)  ls (lv_sub hl [0, 2, 1, 3] rfl)
      exact loop_46 4 _ 0 (by omega) (by rw [hb]; exact digL_0 _ _) (by omega)  _ (lv_sub hl [0, 1, 2, 3] rfl)
set_option maxHeartbeats 4000000 in
set_option maxRecDepth 20000 in
theorem lp_X4_digest_13 (l : Launch) {Z : Gm} {V : Nat → St} {S : St} (hV : V 0 = S) (hL : Lim S) {p : Program} {e : Env} {s : State} {m : MethodId} {args : Array Value} {below : List Frame} {meth : Method} {c : Code} (E : EE Z p s m args c cX4_digest RX4) (hr : meth.sig.returnType = (some .long)) (hlk : meth.locks = false) (hml : c.maxLocals = 5) (hP : va_P (gD Z) vwCl (bw Z V) s.heap) : ∀ (n_13 : Nat) (d : Int64) (j : Nat), 7 - j < n_13 → (d = digL (manyF S) j (mixF 58091 (S 9 0 0))) → (j ≤ 7) → ∀ (ls : Array Slot), lv_has ls 5 [(3, .int (nI j)), (1, .long d), (0, .ref (ad Z 0))] → W p l e rm_X4_digest s m args below meth c s.heap [] 0 0 (MQ below (QP (some (.long (digF S)))) args s 0 0 (fun _ => False)) (F0 m 13 ls []) := by
  have hT := hL.2.2
  have hR := hL.2.1
  have hB := hL.1
  intro n_13
  induction n_13 with
  | zero => intro d j hm_13; exact absurd hm_13 (by omega)
  | succ n_13 ih_13 =>
    intro d j hm_13 ha hj  ls hl
    refine lv_iload_n E.1 E.2.1 dX4_digest_13 rfl (lv_at hl 0 rfl) ?_
    refine lv_bipush (v := 6) E.1 E.2.1 dX4_digest_14 (by decide) ?_
    refine lv_icmp_gt (tgt := 35) E.1 E.2.1 dX4_digest_16 (by decide) (fun c_16 => ?_) (fun c_16 => ?_)
    · have hd : 6 < j := (nI_ltI (a := 6) (by omega) (by omega)).mp c_16
      refine lv_iconst (v := 0) E.1 E.2.1 dX4_digest_35 (by decide) ?_
      refine lv_istore_n (lv' := [(3, .int 0), (1, .long d), (0, .ref (ad Z 0))]) E.1 E.2.1 dX4_digest_36 rfl hl (by decide) rfl (fun ls hl => ?_)
      exact lp_X4_digest_37 l hV hL E hr hlk hml hP 7 _ 0 (by omega) (by rw [ha, show j = 7 from by omega]; exact dig2_0 _ _ (dig1 S)) (by omega) _ (lv_sub hl [0, 1, 2] rfl)
    · have hd : ¬ 6 < j := fun h => c_16 ((nI_ltI (a := 6) (by omega) (by omega)).mpr h)
      refine lv_lload_n E.1 E.2.1 dX4_digest_19 rfl (lv_at hl 1 rfl) ?_
      refine lv_aload_n E.1 E.2.1 dX4_digest_20 rfl (lv_at hl 2 rfl) ?_
      refine lv_iload_n E.1 E.2.1 dX4_digest_21 rfl (lv_at hl 0 rfl) ?_
      refine go_Pi (run_V (rest := [.long d]) E hml hl.1 (c_X4_many l  hV j (by omega) hL) k_X4_many ⟨rfl, rfl, Nat.le_of_ble_eq_true rfl, Nat.le_of_ble_eq_true rfl⟩ gw_232 gw_233 gw_234 hP (rv_bay E hP) rfl rfl (Nat.le_of_ble_eq_true rfl) ⟨Nat.zero_le _, Nat.zero_le _⟩ dX4_digest_22) ?_
      refine go_Pl (run_S (rest := []) E hml hl.1 (c_X4_mixed l (V := V) d (manyF S j)) k_X4_mixed ⟨rfl, rfl, Nat.le_of_ble_eq_true rfl, Nat.le_of_ble_eq_true rfl⟩ gw_228 gw_229 hP  rfl rfl (Nat.le_of_ble_eq_true rfl) ⟨Nat.zero_le _, Nat.zero_le _⟩ dX4_digest_25) ?_
      refine lv_lstore_n (lv' := [(1, .long (mixF d (manyF S j))), (3, .int (nI j)), (0, .ref (ad Z 0))]) E.1 E.2.1 dX4_digest_28 rfl hl (by decide) rfl (fun ls hl => ?_)
      refine lv_iinc (v := (nI (j + 1))) (lv' := [(3, .int (nI (j + 1))), (1, .long (mixF d (manyF S j))), (0, .ref (ad Z 0))]) E.1 E.2.1 dX4_digest_29 hl (k := 1) rfl (nI_1 _) (by decide) rfl (fun ls hl => ?_)
      refine lv_goto (tgt := 13) E.1 E.2.1 dX4_digest_32 (by decide) ?_
      exact ih_13 _ (j + 1) (by omega) (by rw [ha]; rfl) (by omega)  ls (lv_sub hl [0, 1, 2] rfl)
set_option maxHeartbeats 4000000 in
set_option maxRecDepth 20000 in
theorem c_X4_digest (l : Launch) {Z : Gm} {V : Nat → St} {S : St} (hV : V 0 = S) (hL : Lim S) : Met l yX4_digest (.code yX4_digest cX4_digest 5 (some .long) :: gG) rm_X4_digest (PW Z V [.ref (ad Z 0)]) (QP (some (.long (digF S)))) 0 0 (fun _ => False) := by
  refine met_of (by decide +kernel) (Nat.le_of_ble_eq_true rfl) ?_
  intro p e s m args below meth c ls E hr hlk hml hP hl
  have E : EE Z p s m args c cX4_digest RX4 := E
  have hl : lv_has ls 5 [(0, .ref (ad Z 0))] := hl
  have hT := hL.2.2
  have hR := hL.2.1
  have hB := hL.1
  refine lv_ldc2 (v := 58091) E.1 E.2.1 E.2.2.1 (E.2.2.2.1 _ gw_223) dX4_digest_0 ?_
  refine lv_aload_n E.1 E.2.1 dX4_digest_3 rfl (lv_at hl 0 rfl) ?_
  refine go_Pi (run_V (rest := [.long 58091]) E hml hl.1 (c_X4_clock l  hV) k_X4_clock ⟨rfl, rfl, Nat.le_of_ble_eq_true rfl, Nat.le_of_ble_eq_true rfl⟩ gw_224 gw_225 gw_226 hP (rv_bay E hP) rfl rfl (Nat.le_of_ble_eq_true rfl) ⟨Nat.zero_le _, Nat.zero_le _⟩ dX4_digest_4) ?_
  refine go_Pl (run_S (rest := []) E hml hl.1 (c_X4_mixed l (V := V) 58091 (S 9 0 0)) k_X4_mixed ⟨rfl, rfl, Nat.le_of_ble_eq_true rfl, Nat.le_of_ble_eq_true rfl⟩ gw_228 gw_229 hP  rfl rfl (Nat.le_of_ble_eq_true rfl) ⟨Nat.zero_le _, Nat.zero_le _⟩ dX4_digest_7) ?_
  refine lv_lstore_n (lv' := [(1, .long (mixF 58091 (S 9 0 0))), (0, .ref (ad Z 0))]) E.1 E.2.1 dX4_digest_10 rfl hl (by decide) rfl (fun ls hl => ?_)
  refine lv_iconst (v := 0) E.1 E.2.1 dX4_digest_11 (by decide) ?_
  refine lv_istore_n (lv' := [(3, .int 0), (1, .long (mixF 58091 (S 9 0 0))), (0, .ref (ad Z 0))]) E.1 E.2.1 dX4_digest_12 rfl hl (by decide) rfl (fun ls hl => ?_)
  exact lp_X4_digest_13 l hV hL E hr hlk hml hP 8 _ 0 (by omega) rfl (by omega) _ (lv_sub hl [0, 1, 2] rfl)
