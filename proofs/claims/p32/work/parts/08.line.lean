/-! Line: the methods that only read. -/
theorem inUse_true {S : St} {x : Int32} {i n : Nat} (hi : i < n) (h : S 38 i 0 = x) : inUseF S x n = true := by
  induction n with
  | zero => omega
  | succ n ih =>
    rcases Nat.lt_or_ge i n with h1 | h1
    · simp [inUseF, ih h1]
    · have : i = n := by omega
      subst this
      simp [inUseF, h]
theorem fstL_in (S : St) (t : Int32) : ∀ n, fstL S t n = -1 ∨ ∃ j, j < n ∧ fstL S t n = nI j
  | 0 => Or.inl rfl
  | n + 1 => by
    have up : fstL S t n = -1 ∨ ∃ j, j < n + 1 ∧ fstL S t n = nI j := (fstL_in S t n).imp id fun ⟨j, h1, h2⟩ => ⟨j, by omega, h2⟩
    unfold fstL
    split
    · split
      · exact Or.inr ⟨n, by omega, rfl⟩
      · split
        · exact Or.inr ⟨n, by omega, rfl⟩
        · exact up
    · exact up
theorem fst_in {S : St} {t f : Int32} {n : Nat} (hn : n ≤ 8) (h : fstL S t n = f) (hf : ¬ f = -1) : vp_in f 8 := by
  subst h
  rcases fstL_in S t n with h | ⟨j, h1, h2⟩
  · exact absurd h hf
  · rw [h2]; exact vp_in_nI (by omega) (by omega)
abbrev rm_X1_tillOrNone : Room := { frames := 0, cells := 0, slots := 0, locals := 0 }
theorem k_X1_tillOrNone : Card yX1_tillOrNone cX1_tillOrNone 2 (some .int) 1 := ⟨gw_277, gw_12, by decide +kernel, by decide +kernel⟩
set_option maxHeartbeats 4000000 in
set_option maxRecDepth 20000 in
theorem c_X1_tillOrNone (l : Launch) {Z : Gm} {V : Nat → St} {w : Nat} {S : St} (hV : V w = S) (hw : w < 2) (t : Int32) : Met l yX1_tillOrNone (.code yX1_tillOrNone cX1_tillOrNone 2 (some .int) :: gG) rm_X1_tillOrNone (PW Z V [.ref (ad Z (cLn w)), .int t]) (QP (some (.int (tillF S t)))) 0 0 (fun _ => False) := by
  refine met_of (by decide +kernel) (Nat.le_of_ble_eq_true rfl) ?_
  intro p e s m args below meth c ls E hr hlk hml hP hl
  have E : EE Z p s m args c cX1_tillOrNone RX1 := E
  have hl : lv_has ls 2 [(0, .ref (ad Z (cLn w))), (1, .int t)] := hl
  refine lv_aload_n E.1 E.2.1 dX1_tillOrNone_0 rfl (lv_at hl 0 rfl) ?_
  refine g_ln (v := .int (S 9 0 0)) E hP hV hw 9 (by decide) gw_278 rfl dX1_tillOrNone_1 ?_
  refine lv_iload_n E.1 E.2.1 dX1_tillOrNone_4 rfl (lv_at hl 1 rfl) ?_
  refine lv_icmp_ge (tgt := 12) E.1 E.2.1 dX1_tillOrNone_5 (by decide) (fun c_5 => ?_) (fun c_5 => ?_)
  · refine lv_iconst (v := (-1)) E.1 E.2.1 dX1_tillOrNone_12 (by decide) ?_
    exact e_iP E hr hlk (by simp [tillF, c_5]) dX1_tillOrNone_13
  · refine lv_iload_n E.1 E.2.1 dX1_tillOrNone_8 rfl (lv_at hl 1 rfl) ?_
    refine lv_goto (tgt := 13) E.1 E.2.1 dX1_tillOrNone_9 (by decide) ?_
    exact e_iP E hr hlk (by simp [tillF, c_5]) dX1_tillOrNone_13

abbrev rm_X1_blockUnder : Room := { frames := 1, cells := 0, slots := 0, locals := 21 }
theorem k_X1_blockUnder : Card yX1_blockUnder cX1_blockUnder 3 (some .int) 1 := ⟨gw_296, gw_12, by decide +kernel, by decide +kernel⟩
set_option maxHeartbeats 4000000 in
set_option maxRecDepth 20000 in
theorem c_X1_blockUnder (l : Launch) {Z : Gm} {V : Nat → St} {w : Nat} {S : St} (hV : V w = S) (hw : w < 2) {i : Nat} (hi : i < 8) (hL : Lim S) : Met l yX1_blockUnder (.code yX1_blockUnder cX1_blockUnder 3 (some .int) :: gG) rm_X1_blockUnder (PW Z V [.ref (ad Z (cLn w)), .ref (ad Z (cTr w i))]) (QP (some (.int (underF S i)))) 0 0 (fun _ => False) := by
  refine met_of (by decide +kernel) (Nat.le_of_ble_eq_true rfl) ?_
  intro p e s m args below meth c ls E hr hlk hml hP hl
  have E : EE Z p s m args c cX1_blockUnder RX1 := E
  have hl : lv_has ls 3 [(0, .ref (ad Z (cLn w))), (1, .ref (ad Z (cTr w i)))] := hl
  have hT := hL.2.2
  have hR := hL.2.1
  have hB := hL.1
  refine lv_aload_n E.1 E.2.1 dX1_blockUnder_0 rfl (lv_at hl 1 rfl) ?_
  refine g_tr (v := .int (S 38 i 0)) E hP hV hw (by omega) 8 (by decide) gw_149 rfl dX1_blockUnder_1 ?_
  refine lv_if_lt (tgt := 22) E.1 E.2.1 dX1_blockUnder_4 (by decide) (fun c_4 => ?_) (fun c_4 => ?_)
  · refine lv_iconst (v := 0) E.1 E.2.1 dX1_blockUnder_22 (by decide) ?_
    refine lv_istore_n (lv' := [(2, .int 0), (0, .ref (ad Z (cLn w))), (1, .ref (ad Z (cTr w i)))]) E.1 E.2.1 dX1_blockUnder_23 rfl hl (by decide) rfl (fun ls hl => ?_)
    refine lv_iload_n E.1 E.2.1 dX1_blockUnder_24 rfl (lv_at hl 0 rfl) ?_
    refine lv_if_eq (tgt := 47) E.1 E.2.1 dX1_blockUnder_25 (by decide) (fun c_25 => ?_) (fun c_25 => ?_)
    · refine lv_iconst (v := (-1)) E.1 E.2.1 dX1_blockUnder_47 (by decide) ?_
      exact e_iP E hr hlk (by simp [underF, c_4]) dX1_blockUnder_48
    · exact absurd (by decide) c_25
  · refine lv_aload_n E.1 E.2.1 dX1_blockUnder_7 rfl (lv_at hl 1 rfl) ?_
    refine g_tr (v := .int (S 38 i 0)) E hP hV hw (by omega) 8 (by decide) gw_149 rfl dX1_blockUnder_8 ?_
    refine lv_aload_n E.1 E.2.1 dX1_blockUnder_11 rfl (lv_at hl 0 rfl) ?_
    refine g_ln (v := .int (S 4 0 0)) E hP hV hw 4 (by decide) gw_164 rfl dX1_blockUnder_12 ?_
    refine lv_icmp_ge (tgt := 22) E.1 E.2.1 dX1_blockUnder_15 (by decide) (fun c_15 => ?_) (fun c_15 => ?_)
    · refine lv_iconst (v := 0) E.1 E.2.1 dX1_blockUnder_22 (by decide) ?_
      refine lv_istore_n (lv' := [(2, .int 0), (0, .ref (ad Z (cLn w))), (1, .ref (ad Z (cTr w i)))]) E.1 E.2.1 dX1_blockUnder_23 rfl hl (by decide) rfl (fun ls hl => ?_)
      refine lv_iload_n E.1 E.2.1 dX1_blockUnder_24 rfl (lv_at hl 0 rfl) ?_
      refine lv_if_eq (tgt := 47) E.1 E.2.1 dX1_blockUnder_25 (by decide) (fun c_25 => ?_) (fun c_25 => ?_)
      · refine lv_iconst (v := (-1)) E.1 E.2.1 dX1_blockUnder_47 (by decide) ?_
        exact e_iP E hr hlk (by simp [underF, c_4, c_15]) dX1_blockUnder_48
      · exact absurd (by decide) c_25
    · refine lv_iconst (v := 1) E.1 E.2.1 dX1_blockUnder_18 (by decide) ?_
      refine lv_goto (tgt := 23) E.1 E.2.1 dX1_blockUnder_19 (by decide) ?_
      refine lv_istore_n (lv' := [(2, .int 1), (0, .ref (ad Z (cLn w))), (1, .ref (ad Z (cTr w i)))]) E.1 E.2.1 dX1_blockUnder_23 rfl hl (by decide) rfl (fun ls hl => ?_)
      refine lv_iload_n E.1 E.2.1 dX1_blockUnder_24 rfl (lv_at hl 0 rfl) ?_
      refine lv_if_eq (tgt := 47) E.1 E.2.1 dX1_blockUnder_25 (by decide) (fun c_25 => ?_) (fun c_25 => ?_)
      · exact absurd c_25 (by decide)
      · refine lv_aload_n E.1 E.2.1 dX1_blockUnder_28 rfl (lv_at hl 1 rfl) ?_
        refine g_ln E hP hV hw 3 (by decide) gw_23 rfl dX1_blockUnder_29 ?_
        refine lv_aload_n E.1 E.2.1 dX1_blockUnder_32 rfl (lv_at hl 2 rfl) ?_
        refine g_tr (v := .int (S 38 i 0)) E hP hV hw (by omega) 8 (by decide) gw_149 rfl dX1_blockUnder_33 ?_
        have hin_36 : vp_in (S 38 i 0) 16 := vin c_4 c_15 (clamp_le hR)
        refine a_rt (k := ((S 38 i 0).toNatClampNeg)) E hP hw rfl hin_36 dX1_blockUnder_36 ?_
        refine lv_aload_n E.1 E.2.1 dX1_blockUnder_37 rfl (lv_at hl 2 rfl) ?_
        refine g_tr (v := .int (S 39 i 0)) E hP hV hw (by omega) 9 (by decide) gw_297 rfl dX1_blockUnder_38 ?_
        refine go_Pi (run_V (rest := []) E hml hl.1 (c_X2_blockAt l  hV hw (vp_lt hin_36) (S 39 i 0)) k_X2_blockAt ⟨rfl, rfl, Nat.le_of_ble_eq_true rfl, Nat.le_of_ble_eq_true rfl⟩ gw_126 gw_127 gw_128 hP (rv_rt E hP hw (vp_lt hin_36)) rfl rfl (Nat.le_of_ble_eq_true rfl) ⟨Nat.zero_le _, Nat.zero_le _⟩ dX1_blockUnder_41) ?_
        refine lv_goto (tgt := 48) E.1 E.2.1 dX1_blockUnder_44 (by decide) ?_
        exact e_iP E hr hlk (by simp [underF, c_4, c_15]) dX1_blockUnder_48

abbrev rm_X1_isClearFor : Room := { frames := 0, cells := 0, slots := 0, locals := 0 }
theorem k_X1_isClearFor : Card yX1_isClearFor cX1_isClearFor 5 (some .boolean) 2 := ⟨gw_404, gw_12, by decide +kernel, by decide +kernel⟩
set_option maxHeartbeats 4000000 in
set_option maxRecDepth 20000 in
theorem c_X1_isClearFor (l : Launch) {Z : Gm} {V : Nat → St} {w : Nat} {S : St} (hV : V w = S) (hw : w < 2) (b n : Int32) (hL : Lim S) : Met l yX1_isClearFor (.code yX1_isClearFor cX1_isClearFor 5 (some .boolean) :: gG) rm_X1_isClearFor (PW Z V [.ref (ad Z (cLn w)), .int b, .int n]) (QP (some (.int (b2i (clearF S b n))))) 0 0 (fun _ => False) := by
  refine met_of (by decide +kernel) (Nat.le_of_ble_eq_true rfl) ?_
  intro p e s m args below meth c ls E hr hlk hml hP hl
  have E : EE Z p s m args c cX1_isClearFor RX1 := E
  have hl : lv_has ls 5 [(0, .ref (ad Z (cLn w))), (1, .int b), (2, .int n)] := hl
  have hT := hL.2.2
  have hR := hL.2.1
  have hB := hL.1
  refine lv_iload_n E.1 E.2.1 dX1_isClearFor_0 rfl (lv_at hl 1 rfl) ?_
  refine lv_if_lt (tgt := 12) E.1 E.2.1 dX1_isClearFor_1 (by decide) (fun c_1 => ?_) (fun c_1 => ?_)
  · refine lv_iconst (v := 0) E.1 E.2.1 dX1_isClearFor_12 (by decide) ?_
    exact e_zP E hr hlk (by simp [clearF, b2i, c_1]) (Or.inl rfl) dX1_isClearFor_13
  · refine lv_iload_n E.1 E.2.1 dX1_isClearFor_4 rfl (lv_at hl 1 rfl) ?_
    refine lv_aload_n E.1 E.2.1 dX1_isClearFor_5 rfl (lv_at hl 0 rfl) ?_
    refine g_ln (v := .int (S 2 0 0)) E hP hV hw 2 (by decide) gw_124 rfl dX1_isClearFor_6 ?_
    refine lv_icmp_lt (tgt := 14) E.1 E.2.1 dX1_isClearFor_9 (by decide) (fun c_9 => ?_) (fun c_9 => ?_)
    · refine lv_aload_n E.1 E.2.1 dX1_isClearFor_14 rfl (lv_at hl 0 rfl) ?_
      refine g_ln E hP hV hw 1 (by decide) gw_21 rfl dX1_isClearFor_15 ?_
      refine lv_iload_n E.1 E.2.1 dX1_isClearFor_18 rfl (lv_at hl 1 rfl) ?_
      have hin_19 : vp_in b 16 := vinL c_1 c_9 (clamp_le hB)
      refine a_bk (k := (b.toNatClampNeg)) E hP hw rfl hin_19 dX1_isClearFor_19 ?_
      refine lv_astore_n (lv' := [(3, .ref (ad Z (cBk w (b.toNatClampNeg)))), (0, .ref (ad Z (cLn w))), (1, .int b), (2, .int n)]) E.1 E.2.1 dX1_isClearFor_20 rfl hl (by decide) rfl (fun ls hl => ?_)
      refine lv_aload_n E.1 E.2.1 dX1_isClearFor_21 rfl (lv_at hl 0 rfl) ?_
      refine g_bk (v := .int (S 12 (b.toNatClampNeg) 0)) E hP hV hw (vp_lt hin_19) 2 (by decide) gw_405 rfl dX1_isClearFor_22 ?_
      refine lv_iconst (v := (-1)) E.1 E.2.1 dX1_isClearFor_25 (by decide) ?_
      refine lv_icmp_eq (tgt := 37) E.1 E.2.1 dX1_isClearFor_26 (by decide) (fun c_26 => ?_) (fun c_26 => ?_)
      · refine lv_iconst (v := 1) E.1 E.2.1 dX1_isClearFor_37 (by decide) ?_
        refine lv_goto (tgt := 42) E.1 E.2.1 dX1_isClearFor_38 (by decide) ?_
        refine lv_istore (lv' := [(4, .int 1), (3, .ref (ad Z (cBk w (b.toNatClampNeg)))), (0, .ref (ad Z (cLn w))), (1, .int b), (2, .int n)]) E.1 E.2.1 dX1_isClearFor_42 hl (by decide) rfl (fun ls hl => ?_)
        refine lv_aload_n E.1 E.2.1 dX1_isClearFor_44 rfl (lv_at hl 2 rfl) ?_
        refine g_ln (v := .int (S 9 0 0)) E hP hV hw 9 (by decide) gw_278 rfl dX1_isClearFor_45 ?_
        refine lv_aload_n E.1 E.2.1 dX1_isClearFor_48 rfl (lv_at hl 1 rfl) ?_
        refine g_bk (v := .int (S 13 (b.toNatClampNeg) 0)) E hP hV hw (vp_lt hin_19) 3 (by decide) gw_406 rfl dX1_isClearFor_49 ?_
        refine lv_icmp_lt (tgt := 72) E.1 E.2.1 dX1_isClearFor_52 (by decide) (fun c_52 => ?_) (fun c_52 => ?_)
        · refine lv_iconst (v := 0) E.1 E.2.1 dX1_isClearFor_72 (by decide) ?_
          exact e_zP E hr hlk (by simp [clearF, b2i, c_1, c_9, c_26, c_52]) (Or.inl rfl) dX1_isClearFor_73
        · refine lv_aload_n E.1 E.2.1 dX1_isClearFor_55 rfl (lv_at hl 1 rfl) ?_
          refine g_bk (v := .int (S 11 (b.toNatClampNeg) 0)) E hP hV hw (vp_lt hin_19) 1 (by decide) gw_389 rfl dX1_isClearFor_56 ?_
          refine lv_iconst (v := (-1)) E.1 E.2.1 dX1_isClearFor_59 (by decide) ?_
          refine lv_icmp_ne (tgt := 72) E.1 E.2.1 dX1_isClearFor_60 (by decide) (fun c_60 => ?_) (fun c_60 => ?_)
          · refine lv_iconst (v := 0) E.1 E.2.1 dX1_isClearFor_72 (by decide) ?_
            exact e_zP E hr hlk (by simp [clearF, b2i, c_1, c_9, c_26, c_52, c_60]) (Or.inl rfl) dX1_isClearFor_73
          · refine lv_iload E.1 E.2.1 dX1_isClearFor_63 (lv_at hl 0 rfl) ?_
            refine lv_if_eq (tgt := 72) E.1 E.2.1 dX1_isClearFor_65 (by decide) (fun c_65 => ?_) (fun c_65 => ?_)
            · exact absurd c_65 (by decide)
            · refine lv_iconst (v := 1) E.1 E.2.1 dX1_isClearFor_68 (by decide) ?_
              refine lv_goto (tgt := 73) E.1 E.2.1 dX1_isClearFor_69 (by decide) ?_
              exact e_zP E hr hlk (by simp [clearF, b2i, c_1, c_9, c_26, c_52, c_60]) (Or.inr rfl) dX1_isClearFor_73
      · refine lv_aload_n E.1 E.2.1 dX1_isClearFor_29 rfl (lv_at hl 0 rfl) ?_
        refine g_bk (v := .int (S 12 (b.toNatClampNeg) 0)) E hP hV hw (vp_lt hin_19) 2 (by decide) gw_405 rfl dX1_isClearFor_30 ?_
        refine lv_iload_n E.1 E.2.1 dX1_isClearFor_33 rfl (lv_at hl 3 rfl) ?_
        refine lv_icmp_ne (tgt := 41) E.1 E.2.1 dX1_isClearFor_34 (by decide) (fun c_34 => ?_) (fun c_34 => ?_)
        · refine lv_iconst (v := 0) E.1 E.2.1 dX1_isClearFor_41 (by decide) ?_
          refine lv_istore (lv' := [(4, .int 0), (3, .ref (ad Z (cBk w (b.toNatClampNeg)))), (0, .ref (ad Z (cLn w))), (1, .int b), (2, .int n)]) E.1 E.2.1 dX1_isClearFor_42 hl (by decide) rfl (fun ls hl => ?_)
          refine lv_aload_n E.1 E.2.1 dX1_isClearFor_44 rfl (lv_at hl 2 rfl) ?_
          refine g_ln (v := .int (S 9 0 0)) E hP hV hw 9 (by decide) gw_278 rfl dX1_isClearFor_45 ?_
          refine lv_aload_n E.1 E.2.1 dX1_isClearFor_48 rfl (lv_at hl 1 rfl) ?_
          refine g_bk (v := .int (S 13 (b.toNatClampNeg) 0)) E hP hV hw (vp_lt hin_19) 3 (by decide) gw_406 rfl dX1_isClearFor_49 ?_
          refine lv_icmp_lt (tgt := 72) E.1 E.2.1 dX1_isClearFor_52 (by decide) (fun c_52 => ?_) (fun c_52 => ?_)
          · refine lv_iconst (v := 0) E.1 E.2.1 dX1_isClearFor_72 (by decide) ?_
            exact e_zP E hr hlk (by simp [clearF, b2i, c_1, c_9, c_26, c_34, c_52]) (Or.inl rfl) dX1_isClearFor_73
          · refine lv_aload_n E.1 E.2.1 dX1_isClearFor_55 rfl (lv_at hl 1 rfl) ?_
            refine g_bk (v := .int (S 11 (b.toNatClampNeg) 0)) E hP hV hw (vp_lt hin_19) 1 (by decide) gw_389 rfl dX1_isClearFor_56 ?_
            refine lv_iconst (v := (-1)) E.1 E.2.1 dX1_isClearFor_59 (by decide) ?_
            refine lv_icmp_ne (tgt := 72) E.1 E.2.1 dX1_isClearFor_60 (by decide) (fun c_60 => ?_) (fun c_60 => ?_)
            · refine lv_iconst (v := 0) E.1 E.2.1 dX1_isClearFor_72 (by decide) ?_
              exact e_zP E hr hlk (by simp [clearF, b2i, c_1, c_9, c_26, c_34, c_52, c_60]) (Or.inl rfl) dX1_isClearFor_73
            · refine lv_iload E.1 E.2.1 dX1_isClearFor_63 (lv_at hl 0 rfl) ?_
              refine lv_if_eq (tgt := 72) E.1 E.2.1 dX1_isClearFor_65 (by decide) (fun c_65 => ?_) (fun c_65 => ?_)
              · refine lv_iconst (v := 0) E.1 E.2.1 dX1_isClearFor_72 (by decide) ?_
                exact e_zP E hr hlk (by simp [clearF, b2i, c_1, c_9, c_26, c_34, c_52, c_60]) (Or.inl rfl) dX1_isClearFor_73
              · exact absurd (by decide) c_65
        · refine lv_iconst (v := 1) E.1 E.2.1 dX1_isClearFor_37 (by decide) ?_
          refine lv_goto (tgt := 42) E.1 E.2.1 dX1_isClearFor_38 (by decide) ?_
          refine lv_istore (lv' := [(4, .int 1), (3, .ref (ad Z (cBk w (b.toNatClampNeg)))), (0, .ref (ad Z (cLn w))), (1, .int b), (2, .int n)]) E.1 E.2.1 dX1_isClearFor_42 hl (by decide) rfl (fun ls hl => ?_)
          refine lv_aload_n E.1 E.2.1 dX1_isClearFor_44 rfl (lv_at hl 2 rfl) ?_
          refine g_ln (v := .int (S 9 0 0)) E hP hV hw 9 (by decide) gw_278 rfl dX1_isClearFor_45 ?_
          refine lv_aload_n E.1 E.2.1 dX1_isClearFor_48 rfl (lv_at hl 1 rfl) ?_
          refine g_bk (v := .int (S 13 (b.toNatClampNeg) 0)) E hP hV hw (vp_lt hin_19) 3 (by decide) gw_406 rfl dX1_isClearFor_49 ?_
          refine lv_icmp_lt (tgt := 72) E.1 E.2.1 dX1_isClearFor_52 (by decide) (fun c_52 => ?_) (fun c_52 => ?_)
          · refine lv_iconst (v := 0) E.1 E.2.1 dX1_isClearFor_72 (by decide) ?_
            exact e_zP E hr hlk (by simp [clearF, b2i, c_1, c_9, c_26, c_34, c_52]) (Or.inl rfl) dX1_isClearFor_73
          · refine lv_aload_n E.1 E.2.1 dX1_isClearFor_55 rfl (lv_at hl 1 rfl) ?_
            refine g_bk (v := .int (S 11 (b.toNatClampNeg) 0)) E hP hV hw (vp_lt hin_19) 1 (by decide) gw_389 rfl dX1_isClearFor_56 ?_
            refine lv_iconst (v := (-1)) E.1 E.2.1 dX1_isClearFor_59 (by decide) ?_
            refine lv_icmp_ne (tgt := 72) E.1 E.2.1 dX1_isClearFor_60 (by decide) (fun c_60 => ?_) (fun c_60 => ?_)
            · refine lv_iconst (v := 0) E.1 E.2.1 dX1_isClearFor_72 (by decide) ?_
              exact e_zP E hr hlk (by simp [clearF, b2i, c_1, c_9, c_26, c_34, c_52, c_60]) (Or.inl rfl) dX1_isClearFor_73
            · refine lv_iload E.1 E.2.1 dX1_isClearFor_63 (lv_at hl 0 rfl) ?_
              refine lv_if_eq (tgt := 72) E.1 E.2.1 dX1_isClearFor_65 (by decide) (fun c_65 => ?_) (fun c_65 => ?_)
              · exact absurd c_65 (by decide)
              · refine lv_iconst (v := 1) E.1 E.2.1 dX1_isClearFor_68 (by decide) ?_
                refine lv_goto (tgt := 73) E.1 E.2.1 dX1_isClearFor_69 (by decide) ?_
                exact e_zP E hr hlk (by simp [clearF, b2i, c_1, c_9, c_26, c_34, c_52, c_60]) (Or.inr rfl) dX1_isClearFor_73
    · refine lv_iconst (v := 0) E.1 E.2.1 dX1_isClearFor_12 (by decide) ?_
      exact e_zP E hr hlk (by simp [clearF, b2i, c_1, c_9]) (Or.inl rfl) dX1_isClearFor_13

abbrev rm_X1_trainInTheWay : Room := { frames := 0, cells := 0, slots := 0, locals := 0 }
theorem k_X1_trainInTheWay : Card yX1_trainInTheWay cX1_trainInTheWay 4 (some .int) 2 := ⟨gw_415, gw_12, by decide +kernel, by decide +kernel⟩
set_option maxHeartbeats 4000000 in
set_option maxRecDepth 20000 in
theorem c_X1_trainInTheWay (l : Launch) {Z : Gm} {V : Nat → St} {w : Nat} {S : St} (hV : V w = S) (hw : w < 2) (b n : Int32) (hL : Lim S) : Met l yX1_trainInTheWay (.code yX1_trainInTheWay cX1_trainInTheWay 4 (some .int) :: gG) rm_X1_trainInTheWay (PW Z V [.ref (ad Z (cLn w)), .int b, .int n]) (QP (some (.int (inWayF S b n)))) 0 0 (fun _ => False) := by
  refine met_of (by decide +kernel) (Nat.le_of_ble_eq_true rfl) ?_
  intro p e s m args below meth c ls E hr hlk hml hP hl
  have E : EE Z p s m args c cX1_trainInTheWay RX1 := E
  have hl : lv_has ls 4 [(0, .ref (ad Z (cLn w))), (1, .int b), (2, .int n)] := hl
  have hT := hL.2.2
  have hR := hL.2.1
  have hB := hL.1
  refine lv_iload_n E.1 E.2.1 dX1_trainInTheWay_0 rfl (lv_at hl 1 rfl) ?_
  refine lv_if_lt (tgt := 12) E.1 E.2.1 dX1_trainInTheWay_1 (by decide) (fun c_1 => ?_) (fun c_1 => ?_)
  · refine lv_iconst (v := (-1)) E.1 E.2.1 dX1_trainInTheWay_12 (by decide) ?_
    exact e_iP E hr hlk (by simp [inWayF, c_1]) dX1_trainInTheWay_13
  · refine lv_iload_n E.1 E.2.1 dX1_trainInTheWay_4 rfl (lv_at hl 1 rfl) ?_
    refine lv_aload_n E.1 E.2.1 dX1_trainInTheWay_5 rfl (lv_at hl 0 rfl) ?_
    refine g_ln (v := .int (S 2 0 0)) E hP hV hw 2 (by decide) gw_124 rfl dX1_trainInTheWay_6 ?_
    refine lv_icmp_lt (tgt := 14) E.1 E.2.1 dX1_trainInTheWay_9 (by decide) (fun c_9 => ?_) (fun c_9 => ?_)
    · refine lv_aload_n E.1 E.2.1 dX1_trainInTheWay_14 rfl (lv_at hl 0 rfl) ?_
      refine g_ln E hP hV hw 1 (by decide) gw_21 rfl dX1_trainInTheWay_15 ?_
      refine lv_iload_n E.1 E.2.1 dX1_trainInTheWay_18 rfl (lv_at hl 1 rfl) ?_
      have hin_19 : vp_in b 16 := vinL c_1 c_9 (clamp_le hB)
      refine a_bk (k := (b.toNatClampNeg)) E hP hw rfl hin_19 dX1_trainInTheWay_19 ?_
      refine lv_astore_n (lv' := [(3, .ref (ad Z (cBk w (b.toNatClampNeg)))), (0, .ref (ad Z (cLn w))), (1, .int b), (2, .int n)]) E.1 E.2.1 dX1_trainInTheWay_20 rfl hl (by decide) rfl (fun ls hl => ?_)
      refine lv_aload_n E.1 E.2.1 dX1_trainInTheWay_21 rfl (lv_at hl 0 rfl) ?_
      refine g_bk (v := .int (S 11 (b.toNatClampNeg) 0)) E hP hV hw (vp_lt hin_19) 1 (by decide) gw_389 rfl dX1_trainInTheWay_22 ?_
      refine lv_iconst (v := (-1)) E.1 E.2.1 dX1_trainInTheWay_25 (by decide) ?_
      refine lv_icmp_eq (tgt := 34) E.1 E.2.1 dX1_trainInTheWay_26 (by decide) (fun c_26 => ?_) (fun c_26 => ?_)
      · refine lv_aload_n E.1 E.2.1 dX1_trainInTheWay_34 rfl (lv_at hl 0 rfl) ?_
        refine g_bk (v := .int (S 12 (b.toNatClampNeg) 0)) E hP hV hw (vp_lt hin_19) 2 (by decide) gw_405 rfl dX1_trainInTheWay_35 ?_
        refine lv_iload_n E.1 E.2.1 dX1_trainInTheWay_38 rfl (lv_at hl 3 rfl) ?_
        refine lv_icmp_ne (tgt := 46) E.1 E.2.1 dX1_trainInTheWay_39 (by decide) (fun c_39 => ?_) (fun c_39 => ?_)
        · refine lv_aload_n E.1 E.2.1 dX1_trainInTheWay_46 rfl (lv_at hl 0 rfl) ?_
          refine g_bk (v := .int (S 12 (b.toNatClampNeg) 0)) E hP hV hw (vp_lt hin_19) 2 (by decide) gw_405 rfl dX1_trainInTheWay_47 ?_
          exact e_iP E hr hlk (by simp [inWayF, c_1, c_9, c_26, c_39]) dX1_trainInTheWay_50
        · refine lv_iconst (v := (-1)) E.1 E.2.1 dX1_trainInTheWay_42 (by decide) ?_
          refine lv_goto (tgt := 50) E.1 E.2.1 dX1_trainInTheWay_43 (by decide) ?_
          exact e_iP E hr hlk (by simp [inWayF, c_1, c_9, c_26, c_39]) dX1_trainInTheWay_50
      · refine lv_aload_n E.1 E.2.1 dX1_trainInTheWay_29 rfl (lv_at hl 0 rfl) ?_
        refine g_bk (v := .int (S 11 (b.toNatClampNeg) 0)) E hP hV hw (vp_lt hin_19) 1 (by decide) gw_389 rfl dX1_trainInTheWay_30 ?_
        exact e_iP E hr hlk (by simp [inWayF, c_1, c_9, c_26]) dX1_trainInTheWay_33
    · refine lv_iconst (v := (-1)) E.1 E.2.1 dX1_trainInTheWay_12 (by decide) ?_
      exact e_iP E hr hlk (by simp [inWayF, c_1, c_9]) dX1_trainInTheWay_13

abbrev rm_X1_countAt : Room := { frames := 0, cells := 0, slots := 0, locals := 0 }
theorem k_X1_countAt : Card yX1_countAt cX1_countAt 4 (some .int) 1 := ⟨gw_158, gw_12, by decide +kernel, by decide +kernel⟩
set_option maxHeartbeats 4000000 in
set_option maxRecDepth 20000 in
theorem c_X1_countAt (l : Launch) {Z : Gm} {V : Nat → St} {w : Nat} {S : St} (hV : V w = S) (hw : w < 2) (x : Int32) (hL : Lim S) : Met l yX1_countAt (.code yX1_countAt cX1_countAt 4 (some .int) :: gG) rm_X1_countAt (PW Z V [.ref (ad Z (cLn w)), .int x]) (QP (some (.int (nI (cntTo (atQ S x) (nT S)))))) 0 0 (fun _ => False) := by
  refine met_of (by decide +kernel) (Nat.le_of_ble_eq_true rfl) ?_
  intro p e s m args below meth c ls E hr hlk hml hP hl
  have E : EE Z p s m args c cX1_countAt RX1 := E
  have hl : lv_has ls 4 [(0, .ref (ad Z (cLn w))), (1, .int x)] := hl
  have hT := hL.2.2
  have hR := hL.2.1
  have hB := hL.1
  refine lv_iconst (v := 0) E.1 E.2.1 dX1_countAt_0 (by decide) ?_
  refine lv_istore_n (lv' := [(2, .int 0), (0, .ref (ad Z (cLn w))), (1, .int x)]) E.1 E.2.1 dX1_countAt_1 rfl hl (by decide) rfl (fun ls hl => ?_)
  refine lv_iconst (v := 0) E.1 E.2.1 dX1_countAt_2 (by decide) ?_
  refine lv_istore_n (lv' := [(3, .int 0), (2, .int 0), (0, .ref (ad Z (cLn w))), (1, .int x)]) E.1 E.2.1 dX1_countAt_3 rfl hl (by decide) rfl (fun ls hl => ?_)
  have loop_4 : ∀ (n_4 : Nat) (i : Nat) (a : Int32), nT S - i < n_4 → (a = nI (cntTo (atQ S x) i)) → (i ≤ nT S) → ∀ (ls : Array Slot), lv_has ls 4 [(3, .int (nI i)), (2, .int a), (0, .ref (ad Z (cLn w))), (1, .int x)] → W p l e rm_X1_countAt s m args below meth c s.heap [] 0 0 (MQ below (QP (some (.int (nI (cntTo (atQ S x) (nT S)))))) args s 0 0 (fun _ => False)) (F0 m 4 ls []) := by
    intro n_4
    induction n_4 with
    | zero => intro i a hm_4; exact absurd hm_4 (by omega)
    | succ n_4 ih_4 =>
      intro i a hm_4 ha hi  ls hl
      refine lv_iload_n E.1 E.2.1 dX1_countAt_4 rfl (lv_at hl 0 rfl) ?_
      refine lv_aload_n E.1 E.2.1 dX1_countAt_5 rfl (lv_at hl 2 rfl) ?_
      refine g_ln (v := .int (S 6 0 0)) E hP hV hw 6 (by decide) gw_148 rfl dX1_countAt_6 ?_
      refine lv_icmp_ge (tgt := 34) E.1 E.2.1 dX1_countAt_9 (by decide) (fun c_9 => ?_) (fun c_9 => ?_)
      · have hd : nT S ≤ i := lq1 (by omega) c_9
        refine lv_iload_n E.1 E.2.1 dX1_countAt_34 rfl (lv_at hl 1 rfl) ?_
        exact e_iP E hr hlk (by rw [ha, show i = nT S from by omega]) dX1_countAt_35
      · have hd : i < nT S := lq2 (by omega) c_9
        refine lv_aload_n E.1 E.2.1 dX1_countAt_12 rfl (lv_at hl 2 rfl) ?_
        refine g_ln E hP hV hw 5 (by decide) gw_25 rfl dX1_countAt_13 ?_
        refine lv_iload_n E.1 E.2.1 dX1_countAt_16 rfl (lv_at hl 0 rfl) ?_
        refine a_tr (k := i) E hP hw (nI_clamp (by omega)) (vp_in_nI (by omega) (by omega)) dX1_countAt_17 ?_
        refine g_tr (v := .int (S 36 i 0)) E hP hV hw (by omega) 6 (by decide) gw_159 rfl dX1_countAt_18 ?_
        refine lv_iload_n E.1 E.2.1 dX1_countAt_21 rfl (lv_at hl 3 rfl) ?_
        refine lv_icmp_ne (tgt := 28) E.1 E.2.1 dX1_countAt_22 (by decide) (fun c_22 => ?_) (fun c_22 => ?_)
        · refine lv_iinc (v := (nI (i + 1))) (lv' := [(3, .int (nI (i + 1))), (2, .int a), (0, .ref (ad Z (cLn w))), (1, .int x)]) E.1 E.2.1 dX1_countAt_28 hl (k := 0) rfl (nI_1 _) (by decide) rfl (fun ls hl => ?_)
          refine lv_goto (tgt := 4) E.1 E.2.1 dX1_countAt_31 (by decide) ?_
          exact ih_4 (i + 1) _ (by omega) (by rw [ha]; simp [cntTo, nI_1, atQ, c_9, c_22]) (by omega)  ls (lv_sub hl [0, 1, 2, 3] rfl)
        · refine lv_iinc (v := (a + 1)) (lv' := [(2, .int (a + 1)), (3, .int (nI i)), (0, .ref (ad Z (cLn w))), (1, .int x)]) E.1 E.2.1 dX1_countAt_25 hl (k := 1) rfl rfl (by decide) rfl (fun ls hl => ?_)
          refine lv_iinc (v := (nI (i + 1))) (lv' := [(3, .int (nI (i + 1))), (2, .int (a + 1)), (0, .ref (ad Z (cLn w))), (1, .int x)]) E.1 E.2.1 dX1_countAt_28 hl (k := 1) rfl (nI_1 _) (by decide) rfl (fun ls hl => ?_)
          refine lv_goto (tgt := 4) E.1 E.2.1 dX1_countAt_31 (by decide) ?_
          exact ih_4 (i + 1) _ (by omega) (by rw [ha]; simp [cntTo, nI_1, atQ, c_9, c_22]) (by omega)  ls (lv_sub hl [0, 1, 2, 3] rfl)
  exact loop_4 (nT S + 1) 0 _ (by omega) rfl (Nat.zero_le _)  _ (lv_sub hl [0, 1, 2, 3] rfl)

abbrev rm_X1_countOnTheWayTo : Room := { frames := 0, cells := 0, slots := 0, locals := 0 }
theorem k_X1_countOnTheWayTo : Card yX1_countOnTheWayTo cX1_countOnTheWayTo 5 (some .int) 1 := ⟨gw_163, gw_12, by decide +kernel, by decide +kernel⟩
set_option maxHeartbeats 4000000 in
set_option maxRecDepth 20000 in
theorem c_X1_countOnTheWayTo (l : Launch) {Z : Gm} {V : Nat → St} {w : Nat} {S : St} (hV : V w = S) (hw : w < 2) (x : Int32) (hL : Lim S) : Met l yX1_countOnTheWayTo (.code yX1_countOnTheWayTo cX1_countOnTheWayTo 5 (some .int) :: gG) rm_X1_countOnTheWayTo (PW Z V [.ref (ad Z (cLn w)), .int x]) (QP (some (.int (nI (cntTo (wayQ S x) (nT S)))))) 0 0 (fun _ => False) := by
  refine met_of (by decide +kernel) (Nat.le_of_ble_eq_true rfl) ?_
  intro p e s m args below meth c ls E hr hlk hml hP hl
  have E : EE Z p s m args c cX1_countOnTheWayTo RX1 := E
  have hl : lv_has ls 5 [(0, .ref (ad Z (cLn w))), (1, .int x)] := hl
  have hT := hL.2.2
  have hR := hL.2.1
  have hB := hL.1
  refine lv_iconst (v := 0) E.1 E.2.1 dX1_countOnTheWayTo_0 (by decide) ?_
  refine lv_istore_n (lv' := [(2, .int 0), (0, .ref (ad Z (cLn w))), (1, .int x)]) E.1 E.2.1 dX1_countOnTheWayTo_1 rfl hl (by decide) rfl (fun ls hl => ?_)
  refine lv_iconst (v := 0) E.1 E.2.1 dX1_countOnTheWayTo_2 (by decide) ?_
  refine lv_istore_n (lv' := [(3, .int 0), (2, .int 0), (0, .ref (ad Z (cLn w))), (1, .int x)]) E.1 E.2.1 dX1_countOnTheWayTo_3 rfl hl (by decide) rfl (fun ls hl => ?_)
  have loop_4 : ∀ (n_4 : Nat) (i : Nat) (a : Int32), nT S - i < n_4 → (a = nI (cntTo (wayQ S x) i)) → (i ≤ nT S) → ∀ (ls : Array Slot), lv_has ls 5 [(3, .int (nI i)), (2, .int a), (0, .ref (ad Z (cLn w))), (1, .int x)] → W p l e rm_X1_countOnTheWayTo s m args below meth c s.heap [] 0 0 (MQ below (QP (some (.int (nI (cntTo (wayQ S x) (nT S)))))) args s 0 0 (fun _ => False)) (F0 m 4 ls []) := by
    intro n_4
    induction n_4 with
    | zero => intro i a hm_4; exact absurd hm_4 (by omega)
    | succ n_4 ih_4 =>
      intro i a hm_4 ha hi  ls hl
      refine lv_iload_n E.1 E.2.1 dX1_countOnTheWayTo_4 rfl (lv_at hl 0 rfl) ?_
      refine lv_aload_n E.1 E.2.1 dX1_countOnTheWayTo_5 rfl (lv_at hl 2 rfl) ?_
      refine g_ln (v := .int (S 6 0 0)) E hP hV hw 6 (by decide) gw_148 rfl dX1_countOnTheWayTo_6 ?_
      refine lv_icmp_ge (tgt := 60) E.1 E.2.1 dX1_countOnTheWayTo_9 (by decide) (fun c_9 => ?_) (fun c_9 => ?_)
      · have hd : nT S ≤ i := lq1 (by omega) c_9
        refine lv_iload_n E.1 E.2.1 dX1_countOnTheWayTo_60 rfl (lv_at hl 1 rfl) ?_
        exact e_iP E hr hlk (by rw [ha, show i = nT S from by omega]) dX1_countOnTheWayTo_61
      · have hd : i < nT S := lq2 (by omega) c_9
        refine lv_aload_n E.1 E.2.1 dX1_countOnTheWayTo_12 rfl (lv_at hl 2 rfl) ?_
        refine g_ln E hP hV hw 5 (by decide) gw_25 rfl dX1_countOnTheWayTo_13 ?_
        refine lv_iload_n E.1 E.2.1 dX1_countOnTheWayTo_16 rfl (lv_at hl 0 rfl) ?_
        refine a_tr (k := i) E hP hw (nI_clamp (by omega)) (vp_in_nI (by omega) (by omega)) dX1_countOnTheWayTo_17 ?_
        refine g_tr (v := .int (S 38 i 0)) E hP hV hw (by omega) 8 (by decide) gw_149 rfl dX1_countOnTheWayTo_18 ?_
        refine lv_istore (lv' := [(4, .int (S 38 i 0)), (3, .int (nI i)), (2, .int a), (0, .ref (ad Z (cLn w))), (1, .int x)]) E.1 E.2.1 dX1_countOnTheWayTo_21 hl (by decide) rfl (fun ls hl => ?_)
        refine lv_iload E.1 E.2.1 dX1_countOnTheWayTo_23 (lv_at hl 0 rfl) ?_
        refine lv_if_lt (tgt := 54) E.1 E.2.1 dX1_countOnTheWayTo_25 (by decide) (fun c_25 => ?_) (fun c_25 => ?_)
        · refine lv_iinc (v := (nI (i + 1))) (lv' := [(3, .int (nI (i + 1))), (4, .int (S 38 i 0)), (2, .int a), (0, .ref (ad Z (cLn w))), (1, .int x)]) E.1 E.2.1 dX1_countOnTheWayTo_54 hl (k := 1) rfl (nI_1 _) (by decide) rfl (fun ls hl => ?_)
          refine lv_goto (tgt := 4) E.1 E.2.1 dX1_countOnTheWayTo_57 (by decide) ?_
          exact ih_4 (i + 1) _ (by omega) (by rw [ha]; simp [cntTo, nI_1, wayQ, c_9, c_25]) (by omega)  ls (lv_sub hl [0, 2, 3, 4] rfl)
        · refine lv_iload E.1 E.2.1 dX1_countOnTheWayTo_28 (lv_at hl 0 rfl) ?_
          refine lv_aload_n E.1 E.2.1 dX1_countOnTheWayTo_30 rfl (lv_at hl 3 rfl) ?_
          refine g_ln (v := .int (S 4 0 0)) E hP hV hw 4 (by decide) gw_164 rfl dX1_countOnTheWayTo_31 ?_
          refine lv_icmp_ge (tgt := 54) E.1 E.2.1 dX1_countOnTheWayTo_34 (by decide) (fun c_34 => ?_) (fun c_34 => ?_)
          · refine lv_iinc (v := (nI (i + 1))) (lv' := [(3, .int (nI (i + 1))), (4, .int (S 38 i 0)), (2, .int a), (0, .ref (ad Z (cLn w))), (1, .int x)]) E.1 E.2.1 dX1_countOnTheWayTo_54 hl (k := 1) rfl (nI_1 _) (by decide) rfl (fun ls hl => ?_)
            refine lv_goto (tgt := 4) E.1 E.2.1 dX1_countOnTheWayTo_57 (by decide) ?_
            exact ih_4 (i + 1) _ (by omega) (by rw [ha]; simp [cntTo, nI_1, wayQ, c_9, c_25, c_34]) (by omega)  ls (lv_sub hl [0, 2, 3, 4] rfl)
          · refine lv_aload_n E.1 E.2.1 dX1_countOnTheWayTo_37 rfl (lv_at hl 3 rfl) ?_
            refine g_ln E hP hV hw 3 (by decide) gw_23 rfl dX1_countOnTheWayTo_38 ?_
            refine lv_iload E.1 E.2.1 dX1_countOnTheWayTo_41 (lv_at hl 0 rfl) ?_
            have hin_43 : vp_in (S 38 i 0) 16 := vin c_25 c_34 (clamp_le hR)
            refine a_rt (k := ((S 38 i 0).toNatClampNeg)) E hP hw rfl hin_43 dX1_countOnTheWayTo_43 ?_
            refine g_rt (v := .int (S 21 ((S 38 i 0).toNatClampNeg) 0)) E hP hV hw (vp_lt hin_43) 1 (by decide) gw_165 rfl dX1_countOnTheWayTo_44 ?_
            refine lv_iload_n E.1 E.2.1 dX1_countOnTheWayTo_47 rfl (lv_at hl 4 rfl) ?_
            refine lv_icmp_ne (tgt := 54) E.1 E.2.1 dX1_countOnTheWayTo_48 (by decide) (fun c_48 => ?_) (fun c_48 => ?_)
            · refine lv_iinc (v := (nI (i + 1))) (lv' := [(3, .int (nI (i + 1))), (4, .int (S 38 i 0)), (2, .int a), (0, .ref (ad Z (cLn w))), (1, .int x)]) E.1 E.2.1 dX1_countOnTheWayTo_54 hl (k := 1) rfl (nI_1 _) (by decide) rfl (fun ls hl => ?_)
              refine lv_goto (tgt := 4) E.1 E.2.1 dX1_countOnTheWayTo_57 (by decide) ?_
              exact ih_4 (i + 1) _ (by omega) (by rw [ha]; simp [cntTo, nI_1, wayQ, c_9, c_25, c_34, c_48]) (by omega)  ls (lv_sub hl [0, 2, 3, 4] rfl)
            · refine lv_iinc (v := (a + 1)) (lv' := [(2, .int (a + 1)), (4, .int (S 38 i 0)), (3, .int (nI i)), (0, .ref (ad Z (cLn w))), (1, .int x)]) E.1 E.2.1 dX1_countOnTheWayTo_51 hl (k := 2) rfl rfl (by decide) rfl (fun ls hl => ?_)
              refine lv_iinc (v := (nI (i + 1))) (lv' := [(3, .int (nI (i + 1))), (2, .int (a + 1)), (4, .int (S 38 i 0)), (0, .ref (ad Z (cLn w))), (1, .int x)]) E.1 E.2.1 dX1_countOnTheWayTo_54 hl (k := 2) rfl (nI_1 _) (by decide) rfl (fun ls hl => ?_)
              refine lv_goto (tgt := 4) E.1 E.2.1 dX1_countOnTheWayTo_57 (by decide) ?_
              exact ih_4 (i + 1) _ (by omega) (by rw [ha]; simp [cntTo, nI_1, wayQ, c_9, c_25, c_34, c_48]) (by omega)  ls (lv_sub hl [0, 1, 3, 4] rfl)
  exact loop_4 (nT S + 1) 0 _ (by omega) rfl (Nat.zero_le _)  _ (lv_sub hl [0, 1, 2, 3] rfl)

abbrev rm_X1_countDone : Room := { frames := 1, cells := 0, slots := 0, locals := 20 }
theorem k_X1_countDone : Card yX1_countDone cX1_countDone 3 (some .int) 0 := ⟨gw_239, gw_12, by decide +kernel, by decide +kernel⟩
set_option maxHeartbeats 4000000 in
set_option maxRecDepth 20000 in
theorem c_X1_countDone (l : Launch) {Z : Gm} {V : Nat → St} {w : Nat} {S : St} (hV : V w = S) (hw : w < 2) (hL : Lim S) : Met l yX1_countDone (.code yX1_countDone cX1_countDone 3 (some .int) :: gG) rm_X1_countDone (PW Z V [.ref (ad Z (cLn w))]) (QP (some (.int (nI (cntTo (doneF S) (nT S)))))) 0 0 (fun _ => False) := by
  refine met_of (by decide +kernel) (Nat.le_of_ble_eq_true rfl) ?_
  intro p e s m args below meth c ls E hr hlk hml hP hl
  have E : EE Z p s m args c cX1_countDone RX1 := E
  have hl : lv_has ls 3 [(0, .ref (ad Z (cLn w)))] := hl
  have hT := hL.2.2
  have hR := hL.2.1
  have hB := hL.1
  refine lv_iconst (v := 0) E.1 E.2.1 dX1_countDone_0 (by decide) ?_
  refine lv_istore_n (lv' := [(1, .int 0), (0, .ref (ad Z (cLn w)))]) E.1 E.2.1 dX1_countDone_1 rfl hl (by decide) rfl (fun ls hl => ?_)
  refine lv_iconst (v := 0) E.1 E.2.1 dX1_countDone_2 (by decide) ?_
  refine lv_istore_n (lv' := [(2, .int 0), (1, .int 0), (0, .ref (ad Z (cLn w)))]) E.1 E.2.1 dX1_countDone_3 rfl hl (by decide) rfl (fun ls hl => ?_)
  have loop_4 : ∀ (n_4 : Nat) (i : Nat) (a : Int32), nT S - i < n_4 → (a = nI (cntTo (doneF S) i)) → (i ≤ nT S) → ∀ (ls : Array Slot), lv_has ls 3 [(2, .int (nI i)), (1, .int a), (0, .ref (ad Z (cLn w)))] → W p l e rm_X1_countDone s m args below meth c s.heap [] 0 0 (MQ below (QP (some (.int (nI (cntTo (doneF S) (nT S)))))) args s 0 0 (fun _ => False)) (F0 m 4 ls []) := by
    intro n_4
    induction n_4 with
    | zero => intro i a hm_4; exact absurd hm_4 (by omega)
    | succ n_4 ih_4 =>
      intro i a hm_4 ha hi  ls hl
      refine lv_iload_n E.1 E.2.1 dX1_countDone_4 rfl (lv_at hl 0 rfl) ?_
      refine lv_aload_n E.1 E.2.1 dX1_countDone_5 rfl (lv_at hl 2 rfl) ?_
      refine g_ln (v := .int (S 6 0 0)) E hP hV hw 6 (by decide) gw_148 rfl dX1_countDone_6 ?_
      refine lv_icmp_ge (tgt := 33) E.1 E.2.1 dX1_countDone_9 (by decide) (fun c_9 => ?_) (fun c_9 => ?_)
      · have hd : nT S ≤ i := lq1 (by omega) c_9
        refine lv_iload_n E.1 E.2.1 dX1_countDone_33 rfl (lv_at hl 1 rfl) ?_
        exact e_iP E hr hlk (by rw [ha, show i = nT S from by omega]) dX1_countDone_34
      · have hd : i < nT S := lq2 (by omega) c_9
        refine lv_aload_n E.1 E.2.1 dX1_countDone_12 rfl (lv_at hl 2 rfl) ?_
        refine g_ln E hP hV hw 5 (by decide) gw_25 rfl dX1_countDone_13 ?_
        refine lv_iload_n E.1 E.2.1 dX1_countDone_16 rfl (lv_at hl 0 rfl) ?_
        refine a_tr (k := i) E hP hw (nI_clamp (by omega)) (vp_in_nI (by omega) (by omega)) dX1_countDone_17 ?_
        refine go_Pi (run_V (rest := []) E hml hl.1 (c_X3_isDone l  hV hw (by omega)) k_X3_isDone ⟨rfl, rfl, Nat.le_of_ble_eq_true rfl, Nat.le_of_ble_eq_true rfl⟩ gw_240 gw_210 gw_211 hP (rv_tr E hP hw (by omega)) rfl rfl (Nat.le_of_ble_eq_true rfl) ⟨Nat.zero_le _, Nat.zero_le _⟩ dX1_countDone_18) ?_
        refine lv_if_eq (tgt := 27) E.1 E.2.1 dX1_countDone_21 (by decide) (fun c_21 => ?_) (fun c_21 => ?_)
        · refine lv_iinc (v := (nI (i + 1))) (lv' := [(2, .int (nI (i + 1))), (1, .int a), (0, .ref (ad Z (cLn w)))]) E.1 E.2.1 dX1_countDone_27 hl (k := 0) rfl (nI_1 _) (by decide) rfl (fun ls hl => ?_)
          refine lv_goto (tgt := 4) E.1 E.2.1 dX1_countDone_30 (by decide) ?_
          exact ih_4 (i + 1) _ (by omega) (by rw [ha]; simp [cntTo, nI_1, c_9, c_21, (b2i_f c_21)]) (by omega)  ls (lv_sub hl [0, 1, 2] rfl)
        · refine lv_iinc (v := (a + 1)) (lv' := [(1, .int (a + 1)), (2, .int (nI i)), (0, .ref (ad Z (cLn w)))]) E.1 E.2.1 dX1_countDone_24 hl (k := 1) rfl rfl (by decide) rfl (fun ls hl => ?_)
          refine lv_iinc (v := (nI (i + 1))) (lv' := [(2, .int (nI (i + 1))), (1, .int (a + 1)), (0, .ref (ad Z (cLn w)))]) E.1 E.2.1 dX1_countDone_27 hl (k := 1) rfl (nI_1 _) (by decide) rfl (fun ls hl => ?_)
          refine lv_goto (tgt := 4) E.1 E.2.1 dX1_countDone_30 (by decide) ?_
          exact ih_4 (i + 1) _ (by omega) (by rw [ha]; simp [cntTo, nI_1, c_9, c_21, (b2i_t c_21)]) (by omega)  ls (lv_sub hl [0, 1, 2] rfl)
  exact loop_4 (nT S + 1) 0 _ (by omega) rfl (Nat.zero_le _)  _ (lv_sub hl [0, 1, 2] rfl)

abbrev rm_X1_countAtStations : Room := { frames := 1, cells := 0, slots := 0, locals := 20 }
theorem k_X1_countAtStations : Card yX1_countAtStations cX1_countAtStations 3 (some .int) 0 := ⟨gw_244, gw_12, by decide +kernel, by decide +kernel⟩
set_option maxHeartbeats 4000000 in
set_option maxRecDepth 20000 in
theorem c_X1_countAtStations (l : Launch) {Z : Gm} {V : Nat → St} {w : Nat} {S : St} (hV : V w = S) (hw : w < 2) (hL : Lim S) : Met l yX1_countAtStations (.code yX1_countAtStations cX1_countAtStations 3 (some .int) :: gG) rm_X1_countAtStations (PW Z V [.ref (ad Z (cLn w))]) (QP (some (.int (nI (cntTo (atStF S) (nT S)))))) 0 0 (fun _ => False) := by
  refine met_of (by decide +kernel) (Nat.le_of_ble_eq_true rfl) ?_
  intro p e s m args below meth c ls E hr hlk hml hP hl
  have E : EE Z p s m args c cX1_countAtStations RX1 := E
  have hl : lv_has ls 3 [(0, .ref (ad Z (cLn w)))] := hl
  have hT := hL.2.2
  have hR := hL.2.1
  have hB := hL.1
  refine lv_iconst (v := 0) E.1 E.2.1 dX1_countAtStations_0 (by decide) ?_
  refine lv_istore_n (lv' := [(1, .int 0), (0, .ref (ad Z (cLn w)))]) E.1 E.2.1 dX1_countAtStations_1 rfl hl (by decide) rfl (fun ls hl => ?_)
  refine lv_iconst (v := 0) E.1 E.2.1 dX1_countAtStations_2 (by decide) ?_
  refine lv_istore_n (lv' := [(2, .int 0), (1, .int 0), (0, .ref (ad Z (cLn w)))]) E.1 E.2.1 dX1_countAtStations_3 rfl hl (by decide) rfl (fun ls hl => ?_)
  have loop_4 : ∀ (n_4 : Nat) (i : Nat) (a : Int32), nT S - i < n_4 → (a = nI (cntTo (atStF S) i)) → (i ≤ nT S) → ∀ (ls : Array Slot), lv_has ls 3 [(2, .int (nI i)), (1, .int a), (0, .ref (ad Z (cLn w)))] → W p l e rm_X1_countAtStations s m args below meth c s.heap [] 0 0 (MQ below (QP (some (.int (nI (cntTo (atStF S) (nT S)))))) args s 0 0 (fun _ => False)) (F0 m 4 ls []) := by
    intro n_4
    induction n_4 with
    | zero => intro i a hm_4; exact absurd hm_4 (by omega)
    | succ n_4 ih_4 =>
      intro i a hm_4 ha hi  ls hl
      refine lv_iload_n E.1 E.2.1 dX1_countAtStations_4 rfl (lv_at hl 0 rfl) ?_
      refine lv_aload_n E.1 E.2.1 dX1_countAtStations_5 rfl (lv_at hl 2 rfl) ?_
      refine g_ln (v := .int (S 6 0 0)) E hP hV hw 6 (by decide) gw_148 rfl dX1_countAtStations_6 ?_
      refine lv_icmp_ge (tgt := 33) E.1 E.2.1 dX1_countAtStations_9 (by decide) (fun c_9 => ?_) (fun c_9 => ?_)
      · have hd : nT S ≤ i := lq1 (by omega) c_9
        refine lv_iload_n E.1 E.2.1 dX1_countAtStations_33 rfl (lv_at hl 1 rfl) ?_
        exact e_iP E hr hlk (by rw [ha, show i = nT S from by omega]) dX1_countAtStations_34
      · have hd : i < nT S := lq2 (by omega) c_9
        refine lv_aload_n E.1 E.2.1 dX1_countAtStations_12 rfl (lv_at hl 2 rfl) ?_
        refine g_ln E hP hV hw 5 (by decide) gw_25 rfl dX1_countAtStations_13 ?_
        refine lv_iload_n E.1 E.2.1 dX1_countAtStations_16 rfl (lv_at hl 0 rfl) ?_
        refine a_tr (k := i) E hP hw (nI_clamp (by omega)) (vp_in_nI (by omega) (by omega)) dX1_countAtStations_17 ?_
        refine go_Pi (run_V (rest := []) E hml hl.1 (c_X3_isAtStation l  hV hw (by omega)) k_X3_isAtStation ⟨rfl, rfl, Nat.le_of_ble_eq_true rfl, Nat.le_of_ble_eq_true rfl⟩ gw_245 gw_246 gw_247 hP (rv_tr E hP hw (by omega)) rfl rfl (Nat.le_of_ble_eq_true rfl) ⟨Nat.zero_le _, Nat.zero_le _⟩ dX1_countAtStations_18) ?_
        refine lv_if_eq (tgt := 27) E.1 E.2.1 dX1_countAtStations_21 (by decide) (fun c_21 => ?_) (fun c_21 => ?_)
        · refine lv_iinc (v := (nI (i + 1))) (lv' := [(2, .int (nI (i + 1))), (1, .int a), (0, .ref (ad Z (cLn w)))]) E.1 E.2.1 dX1_countAtStations_27 hl (k := 0) rfl (nI_1 _) (by decide) rfl (fun ls hl => ?_)
          refine lv_goto (tgt := 4) E.1 E.2.1 dX1_countAtStations_30 (by decide) ?_
          exact ih_4 (i + 1) _ (by omega) (by rw [ha]; simp [cntTo, nI_1, c_9, c_21, (b2i_f c_21)]) (by omega)  ls (lv_sub hl [0, 1, 2] rfl)
        · refine lv_iinc (v := (a + 1)) (lv' := [(1, .int (a + 1)), (2, .int (nI i)), (0, .ref (ad Z (cLn w)))]) E.1 E.2.1 dX1_countAtStations_24 hl (k := 1) rfl rfl (by decide) rfl (fun ls hl => ?_)
          refine lv_iinc (v := (nI (i + 1))) (lv' := [(2, .int (nI (i + 1))), (1, .int (a + 1)), (0, .ref (ad Z (cLn w)))]) E.1 E.2.1 dX1_countAtStations_27 hl (k := 1) rfl (nI_1 _) (by decide) rfl (fun ls hl => ?_)
          refine lv_goto (tgt := 4) E.1 E.2.1 dX1_countAtStations_30 (by decide) ?_
          exact ih_4 (i + 1) _ (by omega) (by rw [ha]; simp [cntTo, nI_1, c_9, c_21, (b2i_t c_21)]) (by omega)  ls (lv_sub hl [0, 1, 2] rfl)
  exact loop_4 (nT S + 1) 0 _ (by omega) rfl (Nat.zero_le _)  _ (lv_sub hl [0, 1, 2] rfl)

abbrev rm_X1_countOnBlocks : Room := { frames := 1, cells := 0, slots := 0, locals := 20 }
theorem k_X1_countOnBlocks : Card yX1_countOnBlocks cX1_countOnBlocks 3 (some .int) 0 := ⟨gw_252, gw_12, by decide +kernel, by decide +kernel⟩
set_option maxHeartbeats 4000000 in
set_option maxRecDepth 20000 in
theorem c_X1_countOnBlocks (l : Launch) {Z : Gm} {V : Nat → St} {w : Nat} {S : St} (hV : V w = S) (hw : w < 2) (hL : Lim S) : Met l yX1_countOnBlocks (.code yX1_countOnBlocks cX1_countOnBlocks 3 (some .int) :: gG) rm_X1_countOnBlocks (PW Z V [.ref (ad Z (cLn w))]) (QP (some (.int (nI (cntTo (onBlockF S) (nT S)))))) 0 0 (fun _ => False) := by
  refine met_of (by decide +kernel) (Nat.le_of_ble_eq_true rfl) ?_
  intro p e s m args below meth c ls E hr hlk hml hP hl
  have E : EE Z p s m args c cX1_countOnBlocks RX1 := E
  have hl : lv_has ls 3 [(0, .ref (ad Z (cLn w)))] := hl
  have hT := hL.2.2
  have hR := hL.2.1
  have hB := hL.1
  refine lv_iconst (v := 0) E.1 E.2.1 dX1_countOnBlocks_0 (by decide) ?_
  refine lv_istore_n (lv' := [(1, .int 0), (0, .ref (ad Z (cLn w)))]) E.1 E.2.1 dX1_countOnBlocks_1 rfl hl (by decide) rfl (fun ls hl => ?_)
  refine lv_iconst (v := 0) E.1 E.2.1 dX1_countOnBlocks_2 (by decide) ?_
  refine lv_istore_n (lv' := [(2, .int 0), (1, .int 0), (0, .ref (ad Z (cLn w)))]) E.1 E.2.1 dX1_countOnBlocks_3 rfl hl (by decide) rfl (fun ls hl => ?_)
  have loop_4 : ∀ (n_4 : Nat) (i : Nat) (a : Int32), nT S - i < n_4 → (a = nI (cntTo (onBlockF S) i)) → (i ≤ nT S) → ∀ (ls : Array Slot), lv_has ls 3 [(2, .int (nI i)), (1, .int a), (0, .ref (ad Z (cLn w)))] → W p l e rm_X1_countOnBlocks s m args below meth c s.heap [] 0 0 (MQ below (QP (some (.int (nI (cntTo (onBlockF S) (nT S)))))) args s 0 0 (fun _ => False)) (F0 m 4 ls []) := by
    intro n_4
    induction n_4 with
    | zero => intro i a hm_4; exact absurd hm_4 (by omega)
    | succ n_4 ih_4 =>
      intro i a hm_4 ha hi  ls hl
      refine lv_iload_n E.1 E.2.1 dX1_countOnBlocks_4 rfl (lv_at hl 0 rfl) ?_
      refine lv_aload_n E.1 E.2.1 dX1_countOnBlocks_5 rfl (lv_at hl 2 rfl) ?_
      refine g_ln (v := .int (S 6 0 0)) E hP hV hw 6 (by decide) gw_148 rfl dX1_countOnBlocks_6 ?_
      refine lv_icmp_ge (tgt := 33) E.1 E.2.1 dX1_countOnBlocks_9 (by decide) (fun c_9 => ?_) (fun c_9 => ?_)
      · have hd : nT S ≤ i := lq1 (by omega) c_9
        refine lv_iload_n E.1 E.2.1 dX1_countOnBlocks_33 rfl (lv_at hl 1 rfl) ?_
        exact e_iP E hr hlk (by rw [ha, show i = nT S from by omega]) dX1_countOnBlocks_34
      · have hd : i < nT S := lq2 (by omega) c_9
        refine lv_aload_n E.1 E.2.1 dX1_countOnBlocks_12 rfl (lv_at hl 2 rfl) ?_
        refine g_ln E hP hV hw 5 (by decide) gw_25 rfl dX1_countOnBlocks_13 ?_
        refine lv_iload_n E.1 E.2.1 dX1_countOnBlocks_16 rfl (lv_at hl 0 rfl) ?_
        refine a_tr (k := i) E hP hw (nI_clamp (by omega)) (vp_in_nI (by omega) (by omega)) dX1_countOnBlocks_17 ?_
        refine go_Pi (run_V (rest := []) E hml hl.1 (c_X3_isOnBlock l  hV hw (by omega)) k_X3_isOnBlock ⟨rfl, rfl, Nat.le_of_ble_eq_true rfl, Nat.le_of_ble_eq_true rfl⟩ gw_253 gw_254 gw_255 hP (rv_tr E hP hw (by omega)) rfl rfl (Nat.le_of_ble_eq_true rfl) ⟨Nat.zero_le _, Nat.zero_le _⟩ dX1_countOnBlocks_18) ?_
        refine lv_if_eq (tgt := 27) E.1 E.2.1 dX1_countOnBlocks_21 (by decide) (fun c_21 => ?_) (fun c_21 => ?_)
        · refine lv_iinc (v := (nI (i + 1))) (lv' := [(2, .int (nI (i + 1))), (1, .int a), (0, .ref (ad Z (cLn w)))]) E.1 E.2.1 dX1_countOnBlocks_27 hl (k := 0) rfl (nI_1 _) (by decide) rfl (fun ls hl => ?_)
          refine lv_goto (tgt := 4) E.1 E.2.1 dX1_countOnBlocks_30 (by decide) ?_
          exact ih_4 (i + 1) _ (by omega) (by rw [ha]; simp [cntTo, nI_1, c_9, c_21, (b2i_f c_21)]) (by omega)  ls (lv_sub hl [0, 1, 2] rfl)
        · refine lv_iinc (v := (a + 1)) (lv' := [(1, .int (a + 1)), (2, .int (nI i)), (0, .ref (ad Z (cLn w)))]) E.1 E.2.1 dX1_countOnBlocks_24 hl (k := 1) rfl rfl (by decide) rfl (fun ls hl => ?_)
          refine lv_iinc (v := (nI (i + 1))) (lv' := [(2, .int (nI (i + 1))), (1, .int (a + 1)), (0, .ref (ad Z (cLn w)))]) E.1 E.2.1 dX1_countOnBlocks_27 hl (k := 1) rfl (nI_1 _) (by decide) rfl (fun ls hl => ?_)
          refine lv_goto (tgt := 4) E.1 E.2.1 dX1_countOnBlocks_30 (by decide) ?_
          exact ih_4 (i + 1) _ (by omega) (by rw [ha]; simp [cntTo, nI_1, c_9, c_21, (b2i_t c_21)]) (by omega)  ls (lv_sub hl [0, 1, 2] rfl)
  exact loop_4 (nT S + 1) 0 _ (by omega) rfl (Nat.zero_le _)  _ (lv_sub hl [0, 1, 2] rfl)

abbrev rm_X1_hasRoom : Room := { frames := 1, cells := 0, slots := 0, locals := 24 }
theorem k_X1_hasRoom : Card yX1_hasRoom cX1_hasRoom 2 (some .boolean) 1 := ⟨gw_180, gw_12, by decide +kernel, by decide +kernel⟩
set_option maxHeartbeats 4000000 in
set_option maxRecDepth 20000 in
theorem c_X1_hasRoom (l : Launch) {Z : Gm} {V : Nat → St} {w : Nat} {S : St} (hV : V w = S) (hw : w < 2) (x : Int32) (hL : Lim S) : Met l yX1_hasRoom (.code yX1_hasRoom cX1_hasRoom 2 (some .boolean) :: gG) rm_X1_hasRoom (PW Z V [.ref (ad Z (cLn w)), .int x]) (QP (some (.int (b2i (hasRoomF S x))))) 0 0 (fun _ => False) := by
  refine met_of (by decide +kernel) (Nat.le_of_ble_eq_true rfl) ?_
  intro p e s m args below meth c ls E hr hlk hml hP hl
  have E : EE Z p s m args c cX1_hasRoom RX1 := E
  have hl : lv_has ls 2 [(0, .ref (ad Z (cLn w))), (1, .int x)] := hl
  have hT := hL.2.2
  have hR := hL.2.1
  have hB := hL.1
  refine lv_iload_n E.1 E.2.1 dX1_hasRoom_0 rfl (lv_at hl 1 rfl) ?_
  refine lv_if_lt (tgt := 34) E.1 E.2.1 dX1_hasRoom_1 (by decide) (fun c_1 => ?_) (fun c_1 => ?_)
  · refine lv_iconst (v := 0) E.1 E.2.1 dX1_hasRoom_34 (by decide) ?_
    exact e_zP E hr hlk (by simp [hasRoomF, b2i, c_1]) (Or.inl rfl) dX1_hasRoom_35
  · refine lv_iload_n E.1 E.2.1 dX1_hasRoom_4 rfl (lv_at hl 1 rfl) ?_
    refine lv_bipush (v := 6) E.1 E.2.1 dX1_hasRoom_5 (by decide) ?_
    refine lv_icmp_ge (tgt := 34) E.1 E.2.1 dX1_hasRoom_7 (by decide) (fun c_7 => ?_) (fun c_7 => ?_)
    · refine lv_iconst (v := 0) E.1 E.2.1 dX1_hasRoom_34 (by decide) ?_
      exact e_zP E hr hlk (by simp [hasRoomF, b2i, c_1, c_7]) (Or.inl rfl) dX1_hasRoom_35
    · refine lv_aload_n E.1 E.2.1 dX1_hasRoom_10 rfl (lv_at hl 0 rfl) ?_
      refine lv_iload_n E.1 E.2.1 dX1_hasRoom_11 rfl (lv_at hl 1 rfl) ?_
      refine go_Pi (run_V (rest := []) E hml hl.1 (c_X1_countAt l  hV hw x hL) k_X1_countAt ⟨rfl, rfl, Nat.le_of_ble_eq_true rfl, Nat.le_of_ble_eq_true rfl⟩ gw_181 gw_156 gw_157 hP (rv_ln E hP hw) rfl rfl (Nat.le_of_ble_eq_true rfl) ⟨Nat.zero_le _, Nat.zero_le _⟩ dX1_hasRoom_12) ?_
      refine lv_aload_n E.1 E.2.1 dX1_hasRoom_15 rfl (lv_at hl 0 rfl) ?_
      refine lv_iload_n E.1 E.2.1 dX1_hasRoom_16 rfl (lv_at hl 1 rfl) ?_
      refine go_Pi (run_V (rest := [.int (nI (cntTo (atQ S x) (nT S)))]) E hml hl.1 (c_X1_countOnTheWayTo l  hV hw x hL) k_X1_countOnTheWayTo ⟨rfl, rfl, Nat.le_of_ble_eq_true rfl, Nat.le_of_ble_eq_true rfl⟩ gw_182 gw_161 gw_162 hP (rv_ln E hP hw) rfl rfl (Nat.le_of_ble_eq_true rfl) ⟨Nat.zero_le _, Nat.zero_le _⟩ dX1_hasRoom_17) ?_
      refine lv_iadd E.1 E.2.1 dX1_hasRoom_20 ?_
      refine lv_aload_n E.1 E.2.1 dX1_hasRoom_21 rfl (lv_at hl 0 rfl) ?_
      refine g_ln E hP hV hw 0 (by decide) gw_19 rfl dX1_hasRoom_22 ?_
      refine lv_iload_n E.1 E.2.1 dX1_hasRoom_25 rfl (lv_at hl 1 rfl) ?_
      have hin_26 : vp_in x 6 := vin c_1 c_7 (by decide)
      refine i_pl (j := (x.toNatClampNeg)) E hP hV hw rfl hin_26 dX1_hasRoom_26 ?_
      refine lv_icmp_ge (tgt := 34) E.1 E.2.1 dX1_hasRoom_27 (by decide) (fun c_27 => ?_) (fun c_27 => ?_)
      · refine lv_iconst (v := 0) E.1 E.2.1 dX1_hasRoom_34 (by decide) ?_
        exact e_zP E hr hlk (by simp [hasRoomF, b2i, c_1, c_7, c_27]) (Or.inl rfl) dX1_hasRoom_35
      · refine lv_iconst (v := 1) E.1 E.2.1 dX1_hasRoom_30 (by decide) ?_
        refine lv_goto (tgt := 35) E.1 E.2.1 dX1_hasRoom_31 (by decide) ?_
        exact e_zP E hr hlk (by simp [hasRoomF, b2i, c_1, c_7, c_27]) (Or.inr rfl) dX1_hasRoom_35

abbrev rm_X1_isInUse : Room := { frames := 0, cells := 0, slots := 0, locals := 0 }
theorem k_X1_isInUse : Card yX1_isInUse cX1_isInUse 3 (some .boolean) 1 := ⟨gw_147, gw_12, by decide +kernel, by decide +kernel⟩
set_option maxHeartbeats 4000000 in
set_option maxRecDepth 20000 in
theorem c_X1_isInUse (l : Launch) {Z : Gm} {V : Nat → St} {w : Nat} {S : St} (hV : V w = S) (hw : w < 2) (x : Int32) (hL : Lim S) : Met l yX1_isInUse (.code yX1_isInUse cX1_isInUse 3 (some .boolean) :: gG) rm_X1_isInUse (PW Z V [.ref (ad Z (cLn w)), .int x]) (QP (some (.int (b2i (inUseF S x (nT S)))))) 0 0 (fun _ => False) := by
  refine met_of (by decide +kernel) (Nat.le_of_ble_eq_true rfl) ?_
  intro p e s m args below meth c ls E hr hlk hml hP hl
  have E : EE Z p s m args c cX1_isInUse RX1 := E
  have hl : lv_has ls 3 [(0, .ref (ad Z (cLn w))), (1, .int x)] := hl
  have hT := hL.2.2
  have hR := hL.2.1
  have hB := hL.1
  refine lv_iconst (v := 0) E.1 E.2.1 dX1_isInUse_0 (by decide) ?_
  refine lv_istore_n (lv' := [(2, .int 0), (0, .ref (ad Z (cLn w))), (1, .int x)]) E.1 E.2.1 dX1_isInUse_1 rfl hl (by decide) rfl (fun ls hl => ?_)
  have loop_2 : ∀ (n_2 : Nat) (i : Nat), nT S - i < n_2 → (inUseF S x i = false) → (i ≤ nT S) → ∀ (ls : Array Slot), lv_has ls 3 [(2, .int (nI i)), (0, .ref (ad Z (cLn w))), (1, .int x)] → W p l e rm_X1_isInUse s m args below meth c s.heap [] 0 0 (MQ below (QP (some (.int (b2i (inUseF S x (nT S)))))) args s 0 0 (fun _ => False)) (F0 m 2 ls []) := by
    intro n_2
    induction n_2 with
    | zero => intro i hm_2; exact absurd hm_2 (by omega)
    | succ n_2 ih_2 =>
      intro i hm_2 ha hi  ls hl
      refine lv_iload_n E.1 E.2.1 dX1_isInUse_2 rfl (lv_at hl 0 rfl) ?_
      refine lv_aload_n E.1 E.2.1 dX1_isInUse_3 rfl (lv_at hl 1 rfl) ?_
      refine g_ln (v := .int (S 6 0 0)) E hP hV hw 6 (by decide) gw_148 rfl dX1_isInUse_4 ?_
      refine lv_icmp_ge (tgt := 31) E.1 E.2.1 dX1_isInUse_7 (by decide) (fun c_7 => ?_) (fun c_7 => ?_)
      · have hd : nT S ≤ i := lq1 (by omega) c_7
        refine lv_iconst (v := 0) E.1 E.2.1 dX1_isInUse_31 (by decide) ?_
        exact e_zP E hr hlk (by rw [← show i = nT S from by omega, ha]; rfl) (Or.inl rfl) dX1_isInUse_32
      · have hd : i < nT S := lq2 (by omega) c_7
        refine lv_aload_n E.1 E.2.1 dX1_isInUse_10 rfl (lv_at hl 1 rfl) ?_
        refine g_ln E hP hV hw 5 (by decide) gw_25 rfl dX1_isInUse_11 ?_
        refine lv_iload_n E.1 E.2.1 dX1_isInUse_14 rfl (lv_at hl 0 rfl) ?_
        refine a_tr (k := i) E hP hw (nI_clamp (by omega)) (vp_in_nI (by omega) (by omega)) dX1_isInUse_15 ?_
        refine g_tr (v := .int (S 38 i 0)) E hP hV hw (by omega) 8 (by decide) gw_149 rfl dX1_isInUse_16 ?_
        refine lv_iload_n E.1 E.2.1 dX1_isInUse_19 rfl (lv_at hl 2 rfl) ?_
        refine lv_icmp_ne (tgt := 25) E.1 E.2.1 dX1_isInUse_20 (by decide) (fun c_20 => ?_) (fun c_20 => ?_)
        · refine lv_iinc (v := (nI (i + 1))) (lv' := [(2, .int (nI (i + 1))), (0, .ref (ad Z (cLn w))), (1, .int x)]) E.1 E.2.1 dX1_isInUse_25 hl (k := 0) rfl (nI_1 _) (by decide) rfl (fun ls hl => ?_)
          refine lv_goto (tgt := 2) E.1 E.2.1 dX1_isInUse_28 (by decide) ?_
          exact ih_2 (i + 1) (by omega) (by simp [inUseF, ha, c_7, c_20]) (by omega)  ls (lv_sub hl [0, 1, 2] rfl)
        · refine lv_iconst (v := 1) E.1 E.2.1 dX1_isInUse_23 (by decide) ?_
          exact e_zP E hr hlk (by rw [inUse_true (i := i) hd (of_decide_eq_true (by simp [c_20]))]; rfl) (Or.inr rfl) dX1_isInUse_24
  exact loop_2 (nT S + 1) 0 (by omega) rfl (Nat.zero_le _)  _ (lv_sub hl [0, 1, 2] rfl)

abbrev rm_X1_firstNotClear : Room := { frames := 1, cells := 0, slots := 0, locals := 24 }
theorem k_X1_firstNotClear : Card yX1_firstNotClear cX1_firstNotClear 4 (some .int) 2 := ⟨gw_454, gw_12, by decide +kernel, by decide +kernel⟩
set_option maxHeartbeats 4000000 in
set_option maxRecDepth 20000 in
theorem c_X1_firstNotClear (l : Launch) {Z : Gm} {V : Nat → St} {w : Nat} {S : St} (hV : V w = S) (hw : w < 2) {r : Nat} (hr16 : r < 16) (x : Int32) (hL : Lim S) : Met l yX1_firstNotClear (.code yX1_firstNotClear cX1_firstNotClear 4 (some .int) :: gG) rm_X1_firstNotClear (PW Z V [.ref (ad Z (cLn w)), .ref (ad Z (cRt w r)), .int x]) (QP (some (.int (fncF S r x)))) 0 0 (fun _ => False) := by
  refine met_of (by decide +kernel) (Nat.le_of_ble_eq_true rfl) ?_
  intro p e s m args below meth c ls E hr hlk hml hP hl
  have E : EE Z p s m args c cX1_firstNotClear RX1 := E
  have hl : lv_has ls 4 [(0, .ref (ad Z (cLn w))), (1, .ref (ad Z (cRt w r))), (2, .int x)] := hl
  have hT := hL.2.2
  have hR := hL.2.1
  have hB := hL.1
  have h31 := clamp_lt31 (toClearF S r)
  refine lv_iconst (v := 0) E.1 E.2.1 dX1_firstNotClear_0 (by decide) ?_
  refine lv_istore_n (lv' := [(3, .int 0), (0, .ref (ad Z (cLn w))), (1, .ref (ad Z (cRt w r))), (2, .int x)]) E.1 E.2.1 dX1_firstNotClear_1 rfl hl (by decide) rfl (fun ls hl => ?_)
  have loop_2 : ∀ (n_2 : Nat) (i : Nat), (toClearF S r).toNatClampNeg - i < n_2 → (fncL S r x ((toClearF S r).toNatClampNeg - i) i = fncF S r x) → (i ≤ (toClearF S r).toNatClampNeg) → ∀ (ls : Array Slot), lv_has ls 4 [(3, .int (nI i)), (0, .ref (ad Z (cLn w))), (1, .ref (ad Z (cRt w r))), (2, .int x)] → W p l e rm_X1_firstNotClear s m args below meth c s.heap [] 0 0 (MQ below (QP (some (.int (fncF S r x)))) args s 0 0 (fun _ => False)) (F0 m 2 ls []) := by
    intro n_2
    induction n_2 with
    | zero => intro i hm_2; exact absurd hm_2 (by omega)
    | succ n_2 ih_2 =>
      intro i hm_2 ha hi  ls hl
      refine lv_iload_n E.1 E.2.1 dX1_firstNotClear_2 rfl (lv_at hl 0 rfl) ?_
      refine lv_aload_n E.1 E.2.1 dX1_firstNotClear_3 rfl (lv_at hl 2 rfl) ?_
      refine go_Pi (run_V (rest := [.int (nI i)]) E hml hl.1 (c_X2_countToBeClear l  hV hw (by omega)) k_X2_countToBeClear ⟨rfl, rfl, Nat.le_of_ble_eq_true rfl, Nat.le_of_ble_eq_true rfl⟩ gw_455 gw_456 gw_457 hP (rv_rt E hP hw (by omega)) rfl rfl (Nat.le_of_ble_eq_true rfl) ⟨Nat.zero_le _, Nat.zero_le _⟩ dX1_firstNotClear_4) ?_
      refine lv_icmp_ge (tgt := 35) E.1 E.2.1 dX1_firstNotClear_7 (by decide) (fun c_7 => ?_) (fun c_7 => ?_)
      · have hd : (toClearF S r).toNatClampNeg ≤ i := lq1 (by omega) c_7
        refine lv_iconst (v := (-1)) E.1 E.2.1 dX1_firstNotClear_35 (by decide) ?_
        exact e_iP E hr hlk (by rw [← ha, show (toClearF S r).toNatClampNeg - i = 0 from by omega]; rfl) dX1_firstNotClear_36
      · have hd : i < (toClearF S r).toNatClampNeg := lq2 (by omega) c_7
        refine lv_aload_n E.1 E.2.1 dX1_firstNotClear_10 rfl (lv_at hl 1 rfl) ?_
        refine lv_aload_n E.1 E.2.1 dX1_firstNotClear_11 rfl (lv_at hl 2 rfl) ?_
        refine lv_iload_n E.1 E.2.1 dX1_firstNotClear_12 rfl (lv_at hl 0 rfl) ?_
        refine go_Pi (run_V (rest := [.ref (ad Z (cLn w))]) E hml hl.1 (c_X2_blockAt l  hV hw (by omega) (nI i)) k_X2_blockAt ⟨rfl, rfl, Nat.le_of_ble_eq_true rfl, Nat.le_of_ble_eq_true rfl⟩ gw_126 gw_127 gw_128 hP (rv_rt E hP hw (by omega)) rfl rfl (Nat.le_of_ble_eq_true rfl) ⟨Nat.zero_le _, Nat.zero_le _⟩ dX1_firstNotClear_13) ?_
        refine lv_iload_n E.1 E.2.1 dX1_firstNotClear_16 rfl (lv_at hl 3 rfl) ?_
        refine go_Pi (run_V (rest := []) E hml hl.1 (c_X1_isClearFor l  hV hw (blockAtF S r (nI i)) x hL) k_X1_isClearFor ⟨rfl, rfl, Nat.le_of_ble_eq_true rfl, Nat.le_of_ble_eq_true rfl⟩ gw_401 gw_402 gw_403 hP (rv_ln E hP hw) rfl rfl (Nat.le_of_ble_eq_true rfl) ⟨Nat.zero_le _, Nat.zero_le _⟩ dX1_firstNotClear_17) ?_
        refine lv_if_ne (tgt := 29) E.1 E.2.1 dX1_firstNotClear_20 (by decide) (fun c_20 => ?_) (fun c_20 => ?_)
        · refine lv_iinc (v := (nI (i + 1))) (lv' := [(3, .int (nI (i + 1))), (0, .ref (ad Z (cLn w))), (1, .ref (ad Z (cRt w r))), (2, .int x)]) E.1 E.2.1 dX1_firstNotClear_29 hl (k := 0) rfl (nI_1 _) (by decide) rfl (fun ls hl => ?_)
          refine lv_goto (tgt := 2) E.1 E.2.1 dX1_firstNotClear_32 (by decide) ?_
          exact ih_2 (i + 1) (by omega) (by rw [← ha, show (toClearF S r).toNatClampNeg - i = ((toClearF S r).toNatClampNeg - (i + 1)) + 1 from by omega]; simp [fncL, c_7, c_20, (b2i_t c_20)]) (by omega)  ls (lv_sub hl [0, 1, 2, 3] rfl)
        · refine lv_aload_n E.1 E.2.1 dX1_firstNotClear_23 rfl (lv_at hl 2 rfl) ?_
          refine lv_iload_n E.1 E.2.1 dX1_firstNotClear_24 rfl (lv_at hl 0 rfl) ?_
          refine go_Pi (run_V (rest := []) E hml hl.1 (c_X2_blockAt l  hV hw (by omega) (nI i)) k_X2_blockAt ⟨rfl, rfl, Nat.le_of_ble_eq_true rfl, Nat.le_of_ble_eq_true rfl⟩ gw_126 gw_127 gw_128 hP (rv_rt E hP hw (by omega)) rfl rfl (Nat.le_of_ble_eq_true rfl) ⟨Nat.zero_le _, Nat.zero_le _⟩ dX1_firstNotClear_25) ?_
          exact e_iP E hr hlk (by rw [← ha, show (toClearF S r).toNatClampNeg - i = ((toClearF S r).toNatClampNeg - (i + 1)) + 1 from by omega]; simp [fncL, c_7, c_20, (b2i_f c_20)]) dX1_firstNotClear_28
  exact loop_2 ((toClearF S r).toNatClampNeg + 1) 0 (by omega) rfl (Nat.zero_le _)  _ (lv_sub hl [0, 1, 2, 3] rfl)

abbrev rm_X1_isOpenFor : Room := { frames := 2, cells := 0, slots := 0, locals := 47 }
theorem k_X1_isOpenFor : Card yX1_isOpenFor cX1_isOpenFor 3 (some .boolean) 2 := ⟨gw_449, gw_12, by decide +kernel, by decide +kernel⟩
set_option maxHeartbeats 4000000 in
set_option maxRecDepth 20000 in
theorem c_X1_isOpenFor (l : Launch) {Z : Gm} {V : Nat → St} {w : Nat} {S : St} (hV : V w = S) (hw : w < 2) {r : Nat} (hr16 : r < 16) (x : Int32) (hL : Lim S) : Met l yX1_isOpenFor (.code yX1_isOpenFor cX1_isOpenFor 3 (some .boolean) :: gG) rm_X1_isOpenFor (PW Z V [.ref (ad Z (cLn w)), .ref (ad Z (cRt w r)), .int x]) (QP (some (.int (b2i (openF S r x))))) 0 0 (fun _ => False) := by
  refine met_of (by decide +kernel) (Nat.le_of_ble_eq_true rfl) ?_
  intro p e s m args below meth c ls E hr hlk hml hP hl
  have E : EE Z p s m args c cX1_isOpenFor RX1 := E
  have hl : lv_has ls 3 [(0, .ref (ad Z (cLn w))), (1, .ref (ad Z (cRt w r))), (2, .int x)] := hl
  have hT := hL.2.2
  have hR := hL.2.1
  have hB := hL.1
  refine lv_aload_n E.1 E.2.1 dX1_isOpenFor_0 rfl (lv_at hl 0 rfl) ?_
  refine lv_aload_n E.1 E.2.1 dX1_isOpenFor_1 rfl (lv_at hl 1 rfl) ?_
  refine g_rt (v := .int (S 21 r 0)) E hP hV hw (by omega) 1 (by decide) gw_165 rfl dX1_isOpenFor_2 ?_
  refine go_Pi (run_V (rest := []) E hml hl.1 (c_X1_hasRoom l  hV hw (S 21 r 0) hL) k_X1_hasRoom ⟨rfl, rfl, Nat.le_of_ble_eq_true rfl, Nat.le_of_ble_eq_true rfl⟩ gw_450 gw_178 gw_179 hP (rv_ln E hP hw) rfl rfl (Nat.le_of_ble_eq_true rfl) ⟨Nat.zero_le _, Nat.zero_le _⟩ dX1_isOpenFor_5) ?_
  refine lv_if_eq (tgt := 25) E.1 E.2.1 dX1_isOpenFor_8 (by decide) (fun c_8 => ?_) (fun c_8 => ?_)
  · refine lv_iconst (v := 0) E.1 E.2.1 dX1_isOpenFor_25 (by decide) ?_
    exact e_zP E hr hlk (by simp [openF, b2i, c_8, (b2i_f c_8)]) (Or.inl rfl) dX1_isOpenFor_26
  · refine lv_aload_n E.1 E.2.1 dX1_isOpenFor_11 rfl (lv_at hl 0 rfl) ?_
    refine lv_aload_n E.1 E.2.1 dX1_isOpenFor_12 rfl (lv_at hl 1 rfl) ?_
    refine lv_iload_n E.1 E.2.1 dX1_isOpenFor_13 rfl (lv_at hl 2 rfl) ?_
    refine go_Pi (run_V (rest := []) E hml hl.1 (c_X1_firstNotClear l  hV hw (by omega) x hL) k_X1_firstNotClear ⟨rfl, rfl, Nat.le_of_ble_eq_true rfl, Nat.le_of_ble_eq_true rfl⟩ gw_451 gw_452 gw_453 hP (rv_ln E hP hw) rfl rfl (Nat.le_of_ble_eq_true rfl) ⟨Nat.zero_le _, Nat.zero_le _⟩ dX1_isOpenFor_14) ?_
    refine lv_iconst (v := (-1)) E.1 E.2.1 dX1_isOpenFor_17 (by decide) ?_
    refine lv_icmp_ne (tgt := 25) E.1 E.2.1 dX1_isOpenFor_18 (by decide) (fun c_18 => ?_) (fun c_18 => ?_)
    · refine lv_iconst (v := 0) E.1 E.2.1 dX1_isOpenFor_25 (by decide) ?_
      exact e_zP E hr hlk (by simp [openF, b2i, c_8, (b2i_t c_8), c_18]) (Or.inl rfl) dX1_isOpenFor_26
    · refine lv_iconst (v := 1) E.1 E.2.1 dX1_isOpenFor_21 (by decide) ?_
      refine lv_goto (tgt := 26) E.1 E.2.1 dX1_isOpenFor_22 (by decide) ?_
      exact e_zP E hr hlk (by simp [openF, b2i, c_8, (b2i_t c_8), c_18]) (Or.inr rfl) dX1_isOpenFor_26

abbrev rm_X1_blameOn : Room := { frames := 2, cells := 0, slots := 0, locals := 47 }
theorem k_X1_blameOn : Card yX1_blameOn cX1_blameOn 3 (some .int) 2 := ⟨gw_471, gw_12, by decide +kernel, by decide +kernel⟩
set_option maxHeartbeats 4000000 in
set_option maxRecDepth 20000 in
theorem c_X1_blameOn (l : Launch) {Z : Gm} {V : Nat → St} {w : Nat} {S : St} (hV : V w = S) (hw : w < 2) {r : Nat} (hr16 : r < 16) (x : Int32) (hL : Lim S) : Met l yX1_blameOn (.code yX1_blameOn cX1_blameOn 3 (some .int) :: gG) rm_X1_blameOn (PW Z V [.ref (ad Z (cLn w)), .ref (ad Z (cRt w r)), .int x]) (QP (some (.int (blameF S r x)))) 0 0 (fun _ => False) := by
  refine met_of (by decide +kernel) (Nat.le_of_ble_eq_true rfl) ?_
  intro p e s m args below meth c ls E hr hlk hml hP hl
  have E : EE Z p s m args c cX1_blameOn RX1 := E
  have hl : lv_has ls 3 [(0, .ref (ad Z (cLn w))), (1, .ref (ad Z (cRt w r))), (2, .int x)] := hl
  have hT := hL.2.2
  have hR := hL.2.1
  have hB := hL.1
  refine lv_aload_n E.1 E.2.1 dX1_blameOn_0 rfl (lv_at hl 0 rfl) ?_
  refine lv_aload_n E.1 E.2.1 dX1_blameOn_1 rfl (lv_at hl 0 rfl) ?_
  refine lv_aload_n E.1 E.2.1 dX1_blameOn_2 rfl (lv_at hl 1 rfl) ?_
  refine lv_iload_n E.1 E.2.1 dX1_blameOn_3 rfl (lv_at hl 2 rfl) ?_
  refine go_Pi (run_V (rest := [.ref (ad Z (cLn w))]) E hml hl.1 (c_X1_firstNotClear l  hV hw (by omega) x hL) k_X1_firstNotClear ⟨rfl, rfl, Nat.le_of_ble_eq_true rfl, Nat.le_of_ble_eq_true rfl⟩ gw_451 gw_452 gw_453 hP (rv_ln E hP hw) rfl rfl (Nat.le_of_ble_eq_true rfl) ⟨Nat.zero_le _, Nat.zero_le _⟩ dX1_blameOn_4) ?_
  refine lv_iload_n E.1 E.2.1 dX1_blameOn_7 rfl (lv_at hl 2 rfl) ?_
  refine go_Pi (run_V (rest := []) E hml hl.1 (c_X1_trainInTheWay l  hV hw (fncF S r x) x hL) k_X1_trainInTheWay ⟨rfl, rfl, Nat.le_of_ble_eq_true rfl, Nat.le_of_ble_eq_true rfl⟩ gw_412 gw_413 gw_414 hP (rv_ln E hP hw) rfl rfl (Nat.le_of_ble_eq_true rfl) ⟨Nat.zero_le _, Nat.zero_le _⟩ dX1_blameOn_8) ?_
  exact e_iP E hr hlk (by rfl) dX1_blameOn_11

abbrev rm_X1_isReady : Room := { frames := 1, cells := 0, slots := 0, locals := 21 }
theorem k_X1_isReady : Card yX1_isReady cX1_isReady 2 (some .boolean) 1 := ⟨gw_301, gw_12, by decide +kernel, by decide +kernel⟩
set_option maxHeartbeats 4000000 in
set_option maxRecDepth 20000 in
theorem c_X1_isReady (l : Launch) {Z : Gm} {V : Nat → St} {w : Nat} {S : St} (hV : V w = S) (hw : w < 2) {i : Nat} (hi : i < 8)  : Met l yX1_isReady (.code yX1_isReady cX1_isReady 2 (some .boolean) :: gG) rm_X1_isReady (PW Z V [.ref (ad Z (cLn w)), .ref (ad Z (cTr w i))]) (QP (some (.int (b2i (readyF S i))))) 0 0 (fun _ => False) := by
  refine met_of (by decide +kernel) (Nat.le_of_ble_eq_true rfl) ?_
  intro p e s m args below meth c ls E hr hlk hml hP hl
  have E : EE Z p s m args c cX1_isReady RX1 := E
  have hl : lv_has ls 2 [(0, .ref (ad Z (cLn w))), (1, .ref (ad Z (cTr w i)))] := hl
  refine lv_aload_n E.1 E.2.1 dX1_isReady_0 rfl (lv_at hl 1 rfl) ?_
  refine go_Pi (run_V (rest := []) E hml hl.1 (c_X3_isAtStation l  hV hw (by omega)) k_X3_isAtStation ⟨rfl, rfl, Nat.le_of_ble_eq_true rfl, Nat.le_of_ble_eq_true rfl⟩ gw_245 gw_246 gw_247 hP (rv_tr E hP hw (by omega)) rfl rfl (Nat.le_of_ble_eq_true rfl) ⟨Nat.zero_le _, Nat.zero_le _⟩ dX1_isReady_1) ?_
  refine lv_if_eq (tgt := 60) E.1 E.2.1 dX1_isReady_4 (by decide) (fun c_4 => ?_) (fun c_4 => ?_)
  · refine lv_iconst (v := 0) E.1 E.2.1 dX1_isReady_60 (by decide) ?_
    exact e_zP E hr hlk (by simp [readyF, b2i, c_4, (b2i_f c_4)]) (Or.inl rfl) dX1_isReady_61
  · refine lv_aload_n E.1 E.2.1 dX1_isReady_7 rfl (lv_at hl 1 rfl) ?_
    refine go_Pi (run_V (rest := []) E hml hl.1 (c_X3_isAtLastStop l  hV hw (by omega)) k_X3_isAtLastStop ⟨rfl, rfl, Nat.le_of_ble_eq_true rfl, Nat.le_of_ble_eq_true rfl⟩ gw_305 gw_306 gw_307 hP (rv_tr E hP hw (by omega)) rfl rfl (Nat.le_of_ble_eq_true rfl) ⟨Nat.zero_le _, Nat.zero_le _⟩ dX1_isReady_8) ?_
    refine lv_if_ne (tgt := 60) E.1 E.2.1 dX1_isReady_11 (by decide) (fun c_11 => ?_) (fun c_11 => ?_)
    · refine lv_iconst (v := 0) E.1 E.2.1 dX1_isReady_60 (by decide) ?_
      exact e_zP E hr hlk (by simp [readyF, b2i, c_4, (b2i_t c_4), c_11, (b2i_t c_11)]) (Or.inl rfl) dX1_isReady_61
    · refine lv_aload_n E.1 E.2.1 dX1_isReady_14 rfl (lv_at hl 0 rfl) ?_
      refine g_ln (v := .int (S 9 0 0)) E hP hV hw 9 (by decide) gw_278 rfl dX1_isReady_15 ?_
      refine lv_aload_n E.1 E.2.1 dX1_isReady_18 rfl (lv_at hl 1 rfl) ?_
      refine lv_aload_n E.1 E.2.1 dX1_isReady_19 rfl (lv_at hl 1 rfl) ?_
      refine g_tr (v := .int (S 35 i 0)) E hP hV hw (by omega) 5 (by decide) gw_302 rfl dX1_isReady_20 ?_
      refine go_Pi (run_V (rest := [.int (S 9 0 0)]) E hml hl.1 (c_X3_timeOf l  hV hw (by omega) (S 35 i 0)) k_X3_timeOf ⟨rfl, rfl, Nat.le_of_ble_eq_true rfl, Nat.le_of_ble_eq_true rfl⟩ gw_310 gw_198 gw_199 hP (rv_tr E hP hw (by omega)) rfl rfl (Nat.le_of_ble_eq_true rfl) ⟨Nat.zero_le _, Nat.zero_le _⟩ dX1_isReady_23) ?_
      refine lv_icmp_lt (tgt := 60) E.1 E.2.1 dX1_isReady_26 (by decide) (fun c_26 => ?_) (fun c_26 => ?_)
      · refine lv_iconst (v := 0) E.1 E.2.1 dX1_isReady_60 (by decide) ?_
        exact e_zP E hr hlk (by simp [readyF, b2i, c_4, (b2i_t c_4), c_11, (b2i_f c_11), c_26]) (Or.inl rfl) dX1_isReady_61
      · refine lv_aload_n E.1 E.2.1 dX1_isReady_29 rfl (lv_at hl 0 rfl) ?_
        refine g_ln (v := .int (S 9 0 0)) E hP hV hw 9 (by decide) gw_278 rfl dX1_isReady_30 ?_
        refine lv_aload_n E.1 E.2.1 dX1_isReady_33 rfl (lv_at hl 1 rfl) ?_
        refine g_tr (v := .int (S 37 i 0)) E hP hV hw (by omega) 7 (by decide) gw_303 rfl dX1_isReady_34 ?_
        refine lv_isub E.1 E.2.1 dX1_isReady_37 ?_
        refine lv_aload_n E.1 E.2.1 dX1_isReady_38 rfl (lv_at hl 0 rfl) ?_
        refine g_ln (v := .int (S 8 0 0)) E hP hV hw 8 (by decide) gw_26 rfl dX1_isReady_39 ?_
        refine lv_icmp_lt (tgt := 60) E.1 E.2.1 dX1_isReady_42 (by decide) (fun c_42 => ?_) (fun c_42 => ?_)
        · refine lv_iconst (v := 0) E.1 E.2.1 dX1_isReady_60 (by decide) ?_
          exact e_zP E hr hlk (by simp [readyF, b2i, c_4, (b2i_t c_4), c_11, (b2i_f c_11), c_26, c_42]) (Or.inl rfl) dX1_isReady_61
        · refine lv_aload_n E.1 E.2.1 dX1_isReady_45 rfl (lv_at hl 0 rfl) ?_
          refine g_ln (v := .int (S 9 0 0)) E hP hV hw 9 (by decide) gw_278 rfl dX1_isReady_46 ?_
          refine lv_aload_n E.1 E.2.1 dX1_isReady_49 rfl (lv_at hl 1 rfl) ?_
          refine g_tr (v := .int (S 41 i 0)) E hP hV hw (by omega) 11 (by decide) gw_304 rfl dX1_isReady_50 ?_
          refine lv_icmp_lt (tgt := 60) E.1 E.2.1 dX1_isReady_53 (by decide) (fun c_53 => ?_) (fun c_53 => ?_)
          · refine lv_iconst (v := 0) E.1 E.2.1 dX1_isReady_60 (by decide) ?_
            exact e_zP E hr hlk (by simp [readyF, b2i, c_4, (b2i_t c_4), c_11, (b2i_f c_11), c_26, c_42, c_53]) (Or.inl rfl) dX1_isReady_61
          · refine lv_iconst (v := 1) E.1 E.2.1 dX1_isReady_56 (by decide) ?_
            refine lv_goto (tgt := 61) E.1 E.2.1 dX1_isReady_57 (by decide) ?_
            exact e_zP E hr hlk (by simp [readyF, b2i, c_4, (b2i_t c_4), c_11, (b2i_f c_11), c_26, c_42, c_53]) (Or.inr rfl) dX1_isReady_61

abbrev rm_X1_leadsOn : Room := { frames := 1, cells := 0, slots := 0, locals := 22 }
theorem k_X1_leadsOn : Card yX1_leadsOn cX1_leadsOn 3 (some .boolean) 2 := ⟨gw_441, gw_12, by decide +kernel, by decide +kernel⟩
set_option maxHeartbeats 4000000 in
set_option maxRecDepth 20000 in
theorem c_X1_leadsOn (l : Launch) {Z : Gm} {V : Nat → St} {w : Nat} {S : St} (hV : V w = S) (hw : w < 2) {r i : Nat} (hr16 : r < 16) (hi : i < 8)  : Met l yX1_leadsOn (.code yX1_leadsOn cX1_leadsOn 3 (some .boolean) :: gG) rm_X1_leadsOn (PW Z V [.ref (ad Z (cLn w)), .ref (ad Z (cRt w r)), .ref (ad Z (cTr w i))]) (QP (some (.int (b2i (leadsF S r i))))) 0 0 (fun _ => False) := by
  refine met_of (by decide +kernel) (Nat.le_of_ble_eq_true rfl) ?_
  intro p e s m args below meth c ls E hr hlk hml hP hl
  have E : EE Z p s m args c cX1_leadsOn RX1 := E
  have hl : lv_has ls 3 [(0, .ref (ad Z (cLn w))), (1, .ref (ad Z (cRt w r))), (2, .ref (ad Z (cTr w i)))] := hl
  refine lv_aload_n E.1 E.2.1 dX1_leadsOn_0 rfl (lv_at hl 1 rfl) ?_
  refine lv_aload_n E.1 E.2.1 dX1_leadsOn_1 rfl (lv_at hl 2 rfl) ?_
  refine g_tr (v := .int (S 36 i 0)) E hP hV hw (by omega) 6 (by decide) gw_159 rfl dX1_leadsOn_2 ?_
  refine lv_aload_n E.1 E.2.1 dX1_leadsOn_5 rfl (lv_at hl 2 rfl) ?_
  refine lv_aload_n E.1 E.2.1 dX1_leadsOn_6 rfl (lv_at hl 2 rfl) ?_
  refine g_tr (v := .int (S 35 i 0)) E hP hV hw (by omega) 5 (by decide) gw_302 rfl dX1_leadsOn_7 ?_
  refine lv_iconst (v := 1) E.1 E.2.1 dX1_leadsOn_10 (by decide) ?_
  refine lv_iadd E.1 E.2.1 dX1_leadsOn_11 ?_
  refine go_Pi (run_V (rest := [.int (S 36 i 0), .ref (ad Z (cRt w r))]) E hml hl.1 (c_X3_stationOf l  hV hw (by omega) ((S 35 i 0) + 1)) k_X3_stationOf ⟨rfl, rfl, Nat.le_of_ble_eq_true rfl, Nat.le_of_ble_eq_true rfl⟩ gw_400 gw_202 gw_203 hP (rv_tr E hP hw (by omega)) rfl rfl (Nat.le_of_ble_eq_true rfl) ⟨Nat.zero_le _, Nat.zero_le _⟩ dX1_leadsOn_12) ?_
  refine go_Pi (run_V (rest := []) E hml hl.1 (c_X2_joins l  hV hw (by omega) (S 36 i 0) (stationF S i ((S 35 i 0) + 1))) k_X2_joins ⟨rfl, rfl, Nat.le_of_ble_eq_true rfl, Nat.le_of_ble_eq_true rfl⟩ gw_442 gw_443 gw_444 hP (rv_rt E hP hw (by omega)) rfl rfl (Nat.le_of_ble_eq_true rfl) ⟨Nat.zero_le _, Nat.zero_le _⟩ dX1_leadsOn_15) ?_
  exact e_zP E hr hlk (by rfl) (b2i_01 _) dX1_leadsOn_18

abbrev rm_X1_goesAhead : Room := { frames := 1, cells := 0, slots := 0, locals := 21 }
theorem k_X1_goesAhead : Card yX1_goesAhead cX1_goesAhead 3 (some .boolean) 2 := ⟨gw_432, gw_12, by decide +kernel, by decide +kernel⟩
set_option maxHeartbeats 4000000 in
set_option maxRecDepth 20000 in
theorem c_X1_goesAhead (l : Launch) {Z : Gm} {V : Nat → St} {w : Nat} {S : St} (hV : V w = S) (hw : w < 2) {i j : Nat} (hi : i < 8) (hj : j < 8)  : Met l yX1_goesAhead (.code yX1_goesAhead cX1_goesAhead 3 (some .boolean) :: gG) rm_X1_goesAhead (PW Z V [.ref (ad Z (cLn w)), .ref (ad Z (cTr w i)), .ref (ad Z (cTr w j))]) (QP (some (.int (b2i (aheadF S i j))))) 0 0 (fun _ => False) := by
  refine met_of (by decide +kernel) (Nat.le_of_ble_eq_true rfl) ?_
  intro p e s m args below meth c ls E hr hlk hml hP hl
  have E : EE Z p s m args c cX1_goesAhead RX1 := E
  have hl : lv_has ls 3 [(0, .ref (ad Z (cLn w))), (1, .ref (ad Z (cTr w i))), (2, .ref (ad Z (cTr w j)))] := hl
  refine lv_aload_n E.1 E.2.1 dX1_goesAhead_0 rfl (lv_at hl 0 rfl) ?_
  refine g_ln (v := .int (S 7 0 0)) E hP hV hw 7 (by decide) gw_343 rfl dX1_goesAhead_1 ?_
  refine lv_iconst (v := 1) E.1 E.2.1 dX1_goesAhead_4 (by decide) ?_
  refine lv_icmp_ne (tgt := 25) E.1 E.2.1 dX1_goesAhead_5 (by decide) (fun c_5 => ?_) (fun c_5 => ?_)
  · refine lv_aload_n E.1 E.2.1 dX1_goesAhead_25 rfl (lv_at hl 0 rfl) ?_
    refine g_ln (v := .int (S 7 0 0)) E hP hV hw 7 (by decide) gw_343 rfl dX1_goesAhead_26 ?_
    refine lv_iconst (v := 2) E.1 E.2.1 dX1_goesAhead_29 (by decide) ?_
    refine lv_icmp_ne (tgt := 56) E.1 E.2.1 dX1_goesAhead_30 (by decide) (fun c_30 => ?_) (fun c_30 => ?_)
    · refine lv_iconst (v := 0) E.1 E.2.1 dX1_goesAhead_56 (by decide) ?_
      exact e_zP E hr hlk (by simp [aheadF, b2i, c_5, c_30]) (Or.inl rfl) dX1_goesAhead_57
    · refine lv_aload_n E.1 E.2.1 dX1_goesAhead_33 rfl (lv_at hl 1 rfl) ?_
      refine lv_aload_n E.1 E.2.1 dX1_goesAhead_34 rfl (lv_at hl 1 rfl) ?_
      refine g_tr (v := .int (S 35 i 0)) E hP hV hw (by omega) 5 (by decide) gw_302 rfl dX1_goesAhead_35 ?_
      refine go_Pi (run_V (rest := []) E hml hl.1 (c_X3_timeOf l  hV hw (by omega) (S 35 i 0)) k_X3_timeOf ⟨rfl, rfl, Nat.le_of_ble_eq_true rfl, Nat.le_of_ble_eq_true rfl⟩ gw_310 gw_198 gw_199 hP (rv_tr E hP hw (by omega)) rfl rfl (Nat.le_of_ble_eq_true rfl) ⟨Nat.zero_le _, Nat.zero_le _⟩ dX1_goesAhead_38) ?_
      refine lv_aload_n E.1 E.2.1 dX1_goesAhead_41 rfl (lv_at hl 2 rfl) ?_
      refine lv_aload_n E.1 E.2.1 dX1_goesAhead_42 rfl (lv_at hl 2 rfl) ?_
      refine g_tr (v := .int (S 35 j 0)) E hP hV hw (by omega) 5 (by decide) gw_302 rfl dX1_goesAhead_43 ?_
      refine go_Pi (run_V (rest := [.int (timeF S i (S 35 i 0))]) E hml hl.1 (c_X3_timeOf l  hV hw (by omega) (S 35 j 0)) k_X3_timeOf ⟨rfl, rfl, Nat.le_of_ble_eq_true rfl, Nat.le_of_ble_eq_true rfl⟩ gw_310 gw_198 gw_199 hP (rv_tr E hP hw (by omega)) rfl rfl (Nat.le_of_ble_eq_true rfl) ⟨Nat.zero_le _, Nat.zero_le _⟩ dX1_goesAhead_46) ?_
      refine lv_icmp_ge (tgt := 56) E.1 E.2.1 dX1_goesAhead_49 (by decide) (fun c_49 => ?_) (fun c_49 => ?_)
      · refine lv_iconst (v := 0) E.1 E.2.1 dX1_goesAhead_56 (by decide) ?_
        exact e_zP E hr hlk (by simp [aheadF, b2i, c_5, c_30, c_49]) (Or.inl rfl) dX1_goesAhead_57
      · refine lv_iconst (v := 1) E.1 E.2.1 dX1_goesAhead_52 (by decide) ?_
        refine lv_goto (tgt := 57) E.1 E.2.1 dX1_goesAhead_53 (by decide) ?_
        exact e_zP E hr hlk (by simp [aheadF, b2i, c_5, c_30, c_49]) (Or.inr rfl) dX1_goesAhead_57
  · refine lv_aload_n E.1 E.2.1 dX1_goesAhead_8 rfl (lv_at hl 1 rfl) ?_
    refine g_tr (v := .int (S 30 i 0)) E hP hV hw (by omega) 0 (by decide) gw_433 rfl dX1_goesAhead_9 ?_
    refine lv_aload_n E.1 E.2.1 dX1_goesAhead_12 rfl (lv_at hl 2 rfl) ?_
    refine g_tr (v := .int (S 30 j 0)) E hP hV hw (by omega) 0 (by decide) gw_433 rfl dX1_goesAhead_13 ?_
    refine lv_icmp_le (tgt := 23) E.1 E.2.1 dX1_goesAhead_16 (by decide) (fun c_16 => ?_) (fun c_16 => ?_)
    · refine lv_iconst (v := 0) E.1 E.2.1 dX1_goesAhead_23 (by decide) ?_
      exact e_zP E hr hlk (by simp [aheadF, b2i, c_5, c_16]) (Or.inl rfl) dX1_goesAhead_24
    · refine lv_iconst (v := 1) E.1 E.2.1 dX1_goesAhead_19 (by decide) ?_
      refine lv_goto (tgt := 24) E.1 E.2.1 dX1_goesAhead_20 (by decide) ?_
      exact e_zP E hr hlk (by simp [aheadF, b2i, c_5, c_16]) (Or.inr rfl) dX1_goesAhead_24

abbrev rm_X1_waitsForItself : Room := { frames := 0, cells := 0, slots := 0, locals := 0 }
theorem k_X1_waitsForItself : Card yX1_waitsForItself cX1_waitsForItself 4 (some .boolean) 1 := ⟨gw_264, gw_12, by decide +kernel, by decide +kernel⟩
set_option maxHeartbeats 4000000 in
set_option maxRecDepth 20000 in
theorem c_X1_waitsForItself (l : Launch) {Z : Gm} {V : Nat → St} {w : Nat} {S : St} (hV : V w = S) (hw : w < 2) (i : Nat) (hi8 : i < 8) (hL : Lim S) : Met l yX1_waitsForItself (.code yX1_waitsForItself cX1_waitsForItself 4 (some .boolean) :: gG) rm_X1_waitsForItself (PW Z V [.ref (ad Z (cLn w)), .int (nI i)]) (QP (some (.int (b2i (stuckF S i))))) 0 0 (fun _ => False) := by
  refine met_of (by decide +kernel) (Nat.le_of_ble_eq_true rfl) ?_
  intro p e s m args below meth c ls E hr hlk hml hP hl
  have E : EE Z p s m args c cX1_waitsForItself RX1 := E
  have hl : lv_has ls 4 [(0, .ref (ad Z (cLn w))), (1, .int (nI i))] := hl
  have hT := hL.2.2
  have hR := hL.2.1
  have hB := hL.1
  refine lv_iload_n E.1 E.2.1 dX1_waitsForItself_0 rfl (lv_at hl 1 rfl) ?_
  refine lv_istore_n (lv' := [(2, .int (nI i)), (0, .ref (ad Z (cLn w))), (1, .int (nI i))]) E.1 E.2.1 dX1_waitsForItself_1 rfl hl (by decide) rfl (fun ls hl => ?_)
  refine lv_iconst (v := 0) E.1 E.2.1 dX1_waitsForItself_2 (by decide) ?_
  refine lv_istore_n (lv' := [(3, .int 0), (2, .int (nI i)), (0, .ref (ad Z (cLn w))), (1, .int (nI i))]) E.1 E.2.1 dX1_waitsForItself_3 rfl hl (by decide) rfl (fun ls hl => ?_)
  have loop_4 : ∀ (n_4 : Nat) (q : Nat) (o : Int32), nT S - q < n_4 → (stuckL S (nI i) (nT S - q) o = stuckF S i) → (q ≤ nT S) → ∀ (ls : Array Slot), lv_has ls 4 [(3, .int (nI q)), (2, .int o), (0, .ref (ad Z (cLn w))), (1, .int (nI i))] → W p l e rm_X1_waitsForItself s m args below meth c s.heap [] 0 0 (MQ below (QP (some (.int (b2i (stuckF S i))))) args s 0 0 (fun _ => False)) (F0 m 4 ls []) := by
    intro n_4
    induction n_4 with
    | zero => intro q o hm_4; exact absurd hm_4 (by omega)
    | succ n_4 ih_4 =>
      intro q o hm_4 ha hi  ls hl
      refine lv_iload_n E.1 E.2.1 dX1_waitsForItself_4 rfl (lv_at hl 0 rfl) ?_
      refine lv_aload_n E.1 E.2.1 dX1_waitsForItself_5 rfl (lv_at hl 2 rfl) ?_
      refine g_ln (v := .int (S 6 0 0)) E hP hV hw 6 (by decide) gw_148 rfl dX1_waitsForItself_6 ?_
      refine lv_icmp_ge (tgt := 49) E.1 E.2.1 dX1_waitsForItself_9 (by decide) (fun c_9 => ?_) (fun c_9 => ?_)
      · have hd : nT S ≤ q := lq1 (by omega) c_9
        refine lv_iconst (v := 0) E.1 E.2.1 dX1_waitsForItself_49 (by decide) ?_
        exact e_zP E hr hlk (by rw [← ha, show nT S - q = 0 from by omega]; rfl) (Or.inl rfl) dX1_waitsForItself_50
      · have hd : q < nT S := lq2 (by omega) c_9
        refine lv_iload_n E.1 E.2.1 dX1_waitsForItself_12 rfl (lv_at hl 1 rfl) ?_
        refine lv_if_lt (tgt := 24) E.1 E.2.1 dX1_waitsForItself_13 (by decide) (fun c_13 => ?_) (fun c_13 => ?_)
        · refine lv_iconst (v := 0) E.1 E.2.1 dX1_waitsForItself_24 (by decide) ?_
          exact e_zP E hr hlk (by rw [← ha, show nT S - q = (nT S - (q + 1)) + 1 from by omega]; simp [stuckL, b2i, c_9, c_13]) (Or.inl rfl) dX1_waitsForItself_25
        · refine lv_iload_n E.1 E.2.1 dX1_waitsForItself_16 rfl (lv_at hl 1 rfl) ?_
          refine lv_aload_n E.1 E.2.1 dX1_waitsForItself_17 rfl (lv_at hl 2 rfl) ?_
          refine g_ln (v := .int (S 6 0 0)) E hP hV hw 6 (by decide) gw_148 rfl dX1_waitsForItself_18 ?_
          refine lv_icmp_lt (tgt := 26) E.1 E.2.1 dX1_waitsForItself_21 (by decide) (fun c_21 => ?_) (fun c_21 => ?_)
          · refine lv_aload_n E.1 E.2.1 dX1_waitsForItself_26 rfl (lv_at hl 2 rfl) ?_
            refine g_ln E hP hV hw 5 (by decide) gw_25 rfl dX1_waitsForItself_27 ?_
            refine lv_iload_n E.1 E.2.1 dX1_waitsForItself_30 rfl (lv_at hl 1 rfl) ?_
            have hin_31 : vp_in o 8 := vinL c_13 c_21 (clamp_le hT)
            refine a_tr (k := (o.toNatClampNeg)) E hP hw rfl hin_31 dX1_waitsForItself_31 ?_
            refine g_tr (v := .int (S 44 (o.toNatClampNeg) 0)) E hP hV hw (vp_lt hin_31) 14 (by decide) gw_265 rfl dX1_waitsForItself_32 ?_
            refine lv_istore_n (lv' := [(2, .int (S 44 (o.toNatClampNeg) 0)), (3, .int (nI q)), (0, .ref (ad Z (cLn w))), (1, .int (nI i))]) E.1 E.2.1 dX1_waitsForItself_35 rfl hl (by decide) rfl (fun ls hl => ?_)
            refine lv_iload_n E.1 E.2.1 dX1_waitsForItself_36 rfl (lv_at hl 0 rfl) ?_
            refine lv_iload_n E.1 E.2.1 dX1_waitsForItself_37 rfl (lv_at hl 3 rfl) ?_
            refine lv_icmp_ne (tgt := 43) E.1 E.2.1 dX1_waitsForItself_38 (by decide) (fun c_38 => ?_) (fun c_38 => ?_)
            · refine lv_iinc (v := (nI (q + 1))) (lv' := [(3, .int (nI (q + 1))), (2, .int (S 44 (o.toNatClampNeg) 0)), (0, .ref (ad Z (cLn w))), (1, .int (nI i))]) E.1 E.2.1 dX1_waitsForItself_43 hl (k := 1) rfl (nI_1 _) (by decide) rfl (fun ls hl => ?_)
              refine lv_goto (tgt := 4) E.1 E.2.1 dX1_waitsForItself_46 (by decide) ?_
              exact ih_4 (q + 1) _ (by omega) (by rw [← ha, show nT S - q = (nT S - (q + 1)) + 1 from by omega]; simp [stuckL, c_9, c_13, c_21, c_38]) (by omega)  ls (lv_sub hl [0, 1, 2, 3] rfl)
            · refine lv_iconst (v := 1) E.1 E.2.1 dX1_waitsForItself_41 (by decide) ?_
              exact e_zP E hr hlk (by rw [← ha, show nT S - q = (nT S - (q + 1)) + 1 from by omega]; simp [stuckL, b2i, c_9, c_13, c_21, c_38]) (Or.inr rfl) dX1_waitsForItself_42
          · refine lv_iconst (v := 0) E.1 E.2.1 dX1_waitsForItself_24 (by decide) ?_
            exact e_zP E hr hlk (by rw [← ha, show nT S - q = (nT S - (q + 1)) + 1 from by omega]; simp [stuckL, b2i, c_9, c_13, c_21]) (Or.inl rfl) dX1_waitsForItself_25
  exact loop_4 (nT S + 1) 0 _ (by omega) rfl (Nat.zero_le _)  _ (lv_sub hl [0, 1, 2, 3] rfl)

abbrev rm_X1_countStuck : Room := { frames := 1, cells := 0, slots := 0, locals := 23 }
theorem k_X1_countStuck : Card yX1_countStuck cX1_countStuck 3 (some .int) 0 := ⟨gw_260, gw_12, by decide +kernel, by decide +kernel⟩
set_option maxHeartbeats 4000000 in
set_option maxRecDepth 20000 in
theorem c_X1_countStuck (l : Launch) {Z : Gm} {V : Nat → St} {w : Nat} {S : St} (hV : V w = S) (hw : w < 2) (hL : Lim S) : Met l yX1_countStuck (.code yX1_countStuck cX1_countStuck 3 (some .int) :: gG) rm_X1_countStuck (PW Z V [.ref (ad Z (cLn w))]) (QP (some (.int (nI (cntTo (stuckF S) (nT S)))))) 0 0 (fun _ => False) := by
  refine met_of (by decide +kernel) (Nat.le_of_ble_eq_true rfl) ?_
  intro p e s m args below meth c ls E hr hlk hml hP hl
  have E : EE Z p s m args c cX1_countStuck RX1 := E
  have hl : lv_has ls 3 [(0, .ref (ad Z (cLn w)))] := hl
  have hT := hL.2.2
  have hR := hL.2.1
  have hB := hL.1
  refine lv_iconst (v := 0) E.1 E.2.1 dX1_countStuck_0 (by decide) ?_
  refine lv_istore_n (lv' := [(1, .int 0), (0, .ref (ad Z (cLn w)))]) E.1 E.2.1 dX1_countStuck_1 rfl hl (by decide) rfl (fun ls hl => ?_)
  refine lv_iconst (v := 0) E.1 E.2.1 dX1_countStuck_2 (by decide) ?_
  refine lv_istore_n (lv' := [(2, .int 0), (1, .int 0), (0, .ref (ad Z (cLn w)))]) E.1 E.2.1 dX1_countStuck_3 rfl hl (by decide) rfl (fun ls hl => ?_)
  have loop_4 : ∀ (n_4 : Nat) (i : Nat) (a : Int32), nT S - i < n_4 → (a = nI (cntTo (stuckF S) i)) → (i ≤ nT S) → ∀ (ls : Array Slot), lv_has ls 3 [(2, .int (nI i)), (1, .int a), (0, .ref (ad Z (cLn w)))] → W p l e rm_X1_countStuck s m args below meth c s.heap [] 0 0 (MQ below (QP (some (.int (nI (cntTo (stuckF S) (nT S)))))) args s 0 0 (fun _ => False)) (F0 m 4 ls []) := by
    intro n_4
    induction n_4 with
    | zero => intro i a hm_4; exact absurd hm_4 (by omega)
    | succ n_4 ih_4 =>
      intro i a hm_4 ha hi  ls hl
      refine lv_iload_n E.1 E.2.1 dX1_countStuck_4 rfl (lv_at hl 0 rfl) ?_
      refine lv_aload_n E.1 E.2.1 dX1_countStuck_5 rfl (lv_at hl 2 rfl) ?_
      refine g_ln (v := .int (S 6 0 0)) E hP hV hw 6 (by decide) gw_148 rfl dX1_countStuck_6 ?_
      refine lv_icmp_ge (tgt := 29) E.1 E.2.1 dX1_countStuck_9 (by decide) (fun c_9 => ?_) (fun c_9 => ?_)
      · have hd : nT S ≤ i := lq1 (by omega) c_9
        refine lv_iload_n E.1 E.2.1 dX1_countStuck_29 rfl (lv_at hl 1 rfl) ?_
        exact e_iP E hr hlk (by rw [ha, show i = nT S from by omega]) dX1_countStuck_30
      · have hd : i < nT S := lq2 (by omega) c_9
        refine lv_aload_n E.1 E.2.1 dX1_countStuck_12 rfl (lv_at hl 2 rfl) ?_
        refine lv_iload_n E.1 E.2.1 dX1_countStuck_13 rfl (lv_at hl 0 rfl) ?_
        refine go_Pi (run_V (rest := []) E hml hl.1 (c_X1_waitsForItself l  hV hw i (by omega) hL) k_X1_waitsForItself ⟨rfl, rfl, Nat.le_of_ble_eq_true rfl, Nat.le_of_ble_eq_true rfl⟩ gw_261 gw_262 gw_263 hP (rv_ln E hP hw) rfl rfl (Nat.le_of_ble_eq_true rfl) ⟨Nat.zero_le _, Nat.zero_le _⟩ dX1_countStuck_14) ?_
        refine lv_if_eq (tgt := 23) E.1 E.2.1 dX1_countStuck_17 (by decide) (fun c_17 => ?_) (fun c_17 => ?_)
        · refine lv_iinc (v := (nI (i + 1))) (lv' := [(2, .int (nI (i + 1))), (1, .int a), (0, .ref (ad Z (cLn w)))]) E.1 E.2.1 dX1_countStuck_23 hl (k := 0) rfl (nI_1 _) (by decide) rfl (fun ls hl => ?_)
          refine lv_goto (tgt := 4) E.1 E.2.1 dX1_countStuck_26 (by decide) ?_
          exact ih_4 (i + 1) _ (by omega) (by rw [ha]; simp [cntTo, nI_1, c_9, c_17, (b2i_f c_17)]) (by omega)  ls (lv_sub hl [0, 1, 2] rfl)
        · refine lv_iinc (v := (a + 1)) (lv' := [(1, .int (a + 1)), (2, .int (nI i)), (0, .ref (ad Z (cLn w)))]) E.1 E.2.1 dX1_countStuck_20 hl (k := 1) rfl rfl (by decide) rfl (fun ls hl => ?_)
          refine lv_iinc (v := (nI (i + 1))) (lv' := [(2, .int (nI (i + 1))), (1, .int (a + 1)), (0, .ref (ad Z (cLn w)))]) E.1 E.2.1 dX1_countStuck_23 hl (k := 1) rfl (nI_1 _) (by decide) rfl (fun ls hl => ?_)
          refine lv_goto (tgt := 4) E.1 E.2.1 dX1_countStuck_26 (by decide) ?_
          exact ih_4 (i + 1) _ (by omega) (by rw [ha]; simp [cntTo, nI_1, c_9, c_17, (b2i_t c_17)]) (by omega)  ls (lv_sub hl [0, 1, 2] rfl)
  exact loop_4 (nT S + 1) 0 _ (by omega) rfl (Nat.zero_le _)  _ (lv_sub hl [0, 1, 2] rfl)

abbrev rm_X1_firstReady : Room := { frames := 2, cells := 0, slots := 0, locals := 43 }
theorem k_X1_firstReady : Card yX1_firstReady cX1_firstReady 5 (some .int) 1 := ⟨gw_427, gw_12, by decide +kernel, by decide +kernel⟩
set_option maxHeartbeats 4000000 in
set_option maxRecDepth 20000 in
theorem c_X1_firstReady (l : Launch) {Z : Gm} {V : Nat → St} {w : Nat} {S : St} (hV : V w = S) (hw : w < 2) (t : Int32) (hL : Lim S) : Met l yX1_firstReady (.code yX1_firstReady cX1_firstReady 5 (some .int) :: gG) rm_X1_firstReady (PW Z V [.ref (ad Z (cLn w)), .int t]) (QP (some (.int (fstL S t (nT S))))) 0 0 (fun _ => False) := by
  refine met_of (by decide +kernel) (Nat.le_of_ble_eq_true rfl) ?_
  intro p e s m args below meth c ls E hr hlk hml hP hl
  have E : EE Z p s m args c cX1_firstReady RX1 := E
  have hl : lv_has ls 5 [(0, .ref (ad Z (cLn w))), (1, .int t)] := hl
  have hT := hL.2.2
  have hR := hL.2.1
  have hB := hL.1
  refine lv_iconst (v := (-1)) E.1 E.2.1 dX1_firstReady_0 (by decide) ?_
  refine lv_istore_n (lv' := [(2, .int (-1)), (0, .ref (ad Z (cLn w))), (1, .int t)]) E.1 E.2.1 dX1_firstReady_1 rfl hl (by decide) rfl (fun ls hl => ?_)
  refine lv_iconst (v := 0) E.1 E.2.1 dX1_firstReady_2 (by decide) ?_
  refine lv_istore_n (lv' := [(3, .int 0), (2, .int (-1)), (0, .ref (ad Z (cLn w))), (1, .int t)]) E.1 E.2.1 dX1_firstReady_3 rfl hl (by decide) rfl (fun ls hl => ?_)
  have loop_4 : ∀ (n_4 : Nat) (i : Nat) (f : Int32), nT S - i < n_4 → (fstL S t i = f) → (i ≤ nT S) → ∀ (ls : Array Slot), lv_has ls 5 [(3, .int (nI i)), (2, .int f), (0, .ref (ad Z (cLn w))), (1, .int t)] → W p l e rm_X1_firstReady s m args below meth c s.heap [] 0 0 (MQ below (QP (some (.int (fstL S t (nT S))))) args s 0 0 (fun _ => False)) (F0 m 4 ls []) := by
    intro n_4
    induction n_4 with
    | zero => intro i f hm_4; exact absurd hm_4 (by omega)
    | succ n_4 ih_4 =>
      intro i f hm_4 ha hi  ls hl
      refine lv_iload_n E.1 E.2.1 dX1_firstReady_4 rfl (lv_at hl 0 rfl) ?_
      refine lv_aload_n E.1 E.2.1 dX1_firstReady_5 rfl (lv_at hl 2 rfl) ?_
      refine g_ln (v := .int (S 6 0 0)) E hP hV hw 6 (by decide) gw_148 rfl dX1_firstReady_6 ?_
      refine lv_icmp_ge (tgt := 77) E.1 E.2.1 dX1_firstReady_9 (by decide) (fun c_9 => ?_) (fun c_9 => ?_)
      · have hd : nT S ≤ i := lq1 (by omega) c_9
        refine lv_iload_n E.1 E.2.1 dX1_firstReady_77 rfl (lv_at hl 1 rfl) ?_
        exact e_iP E hr hlk (by rw [← ha, show i = nT S from by omega]) dX1_firstReady_78
      · have hd : i < nT S := lq2 (by omega) c_9
        refine lv_iload_n E.1 E.2.1 dX1_firstReady_12 rfl (lv_at hl 3 rfl) ?_
        refine lv_iload_n E.1 E.2.1 dX1_firstReady_13 rfl (lv_at hl 0 rfl) ?_
        refine lv_ishr E.1 E.2.1 dX1_firstReady_14 ?_
        refine lv_iconst (v := 1) E.1 E.2.1 dX1_firstReady_15 (by decide) ?_
        refine lv_iand E.1 E.2.1 dX1_firstReady_16 ?_
        refine lv_if_ne (tgt := 37) E.1 E.2.1 dX1_firstReady_17 (by decide) (fun c_17 => ?_) (fun c_17 => ?_)
        · refine lv_iconst (v := 0) E.1 E.2.1 dX1_firstReady_37 (by decide) ?_
          refine lv_istore (lv' := [(4, .int 0), (3, .int (nI i)), (2, .int f), (0, .ref (ad Z (cLn w))), (1, .int t)]) E.1 E.2.1 dX1_firstReady_38 hl (by decide) rfl (fun ls hl => ?_)
          refine lv_iload E.1 E.2.1 dX1_firstReady_40 (lv_at hl 0 rfl) ?_
          refine lv_if_eq (tgt := 71) E.1 E.2.1 dX1_firstReady_42 (by decide) (fun c_42 => ?_) (fun c_42 => ?_)
          · refine lv_iinc (v := (nI (i + 1))) (lv' := [(3, .int (nI (i + 1))), (4, .int 0), (2, .int f), (0, .ref (ad Z (cLn w))), (1, .int t)]) E.1 E.2.1 dX1_firstReady_71 hl (k := 1) rfl (nI_1 _) (by decide) rfl (fun ls hl => ?_)
            refine lv_goto (tgt := 4) E.1 E.2.1 dX1_firstReady_74 (by decide) ?_
            exact ih_4 (i + 1) _ (by omega) (by simp [fstL, dueF, ha, c_9, c_17]) (by omega)  ls (lv_sub hl [0, 2, 3, 4] rfl)
          · exact absurd (by decide) c_42
        · refine lv_aload_n E.1 E.2.1 dX1_firstReady_20 rfl (lv_at hl 2 rfl) ?_
          refine lv_aload_n E.1 E.2.1 dX1_firstReady_21 rfl (lv_at hl 2 rfl) ?_
          refine g_ln E hP hV hw 5 (by decide) gw_25 rfl dX1_firstReady_22 ?_
          refine lv_iload_n E.1 E.2.1 dX1_firstReady_25 rfl (lv_at hl 0 rfl) ?_
          refine a_tr (k := i) E hP hw (nI_clamp (by omega)) (vp_in_nI (by omega) (by omega)) dX1_firstReady_26 ?_
          refine go_Pi (run_V (rest := []) E hml hl.1 (c_X1_isReady l  hV hw (by omega)) k_X1_isReady ⟨rfl, rfl, Nat.le_of_ble_eq_true rfl, Nat.le_of_ble_eq_true rfl⟩ gw_428 gw_299 gw_300 hP (rv_ln E hP hw) rfl rfl (Nat.le_of_ble_eq_true rfl) ⟨Nat.zero_le _, Nat.zero_le _⟩ dX1_firstReady_27) ?_
          refine lv_if_eq (tgt := 37) E.1 E.2.1 dX1_firstReady_30 (by decide) (fun c_30 => ?_) (fun c_30 => ?_)
          · refine lv_iconst (v := 0) E.1 E.2.1 dX1_firstReady_37 (by decide) ?_
            refine lv_istore (lv' := [(4, .int 0), (3, .int (nI i)), (2, .int f), (0, .ref (ad Z (cLn w))), (1, .int t)]) E.1 E.2.1 dX1_firstReady_38 hl (by decide) rfl (fun ls hl => ?_)
            refine lv_iload E.1 E.2.1 dX1_firstReady_40 (lv_at hl 0 rfl) ?_
            refine lv_if_eq (tgt := 71) E.1 E.2.1 dX1_firstReady_42 (by decide) (fun c_42 => ?_) (fun c_42 => ?_)
            · refine lv_iinc (v := (nI (i + 1))) (lv' := [(3, .int (nI (i + 1))), (4, .int 0), (2, .int f), (0, .ref (ad Z (cLn w))), (1, .int t)]) E.1 E.2.1 dX1_firstReady_71 hl (k := 1) rfl (nI_1 _) (by decide) rfl (fun ls hl => ?_)
              refine lv_goto (tgt := 4) E.1 E.2.1 dX1_firstReady_74 (by decide) ?_
              exact ih_4 (i + 1) _ (by omega) (by simp [fstL, dueF, ha, c_9, c_17, c_30, (b2i_f c_30)]) (by omega)  ls (lv_sub hl [0, 2, 3, 4] rfl)
            · exact absurd (by decide) c_42
          · refine lv_iconst (v := 1) E.1 E.2.1 dX1_firstReady_33 (by decide) ?_
            refine lv_goto (tgt := 38) E.1 E.2.1 dX1_firstReady_34 (by decide) ?_
            refine lv_istore (lv' := [(4, .int 1), (3, .int (nI i)), (2, .int f), (0, .ref (ad Z (cLn w))), (1, .int t)]) E.1 E.2.1 dX1_firstReady_38 hl (by decide) rfl (fun ls hl => ?_)
            refine lv_iload E.1 E.2.1 dX1_firstReady_40 (lv_at hl 0 rfl) ?_
            refine lv_if_eq (tgt := 71) E.1 E.2.1 dX1_firstReady_42 (by decide) (fun c_42 => ?_) (fun c_42 => ?_)
            · exact absurd c_42 (by decide)
            · refine lv_iload_n E.1 E.2.1 dX1_firstReady_45 rfl (lv_at hl 2 rfl) ?_
              refine lv_iconst (v := (-1)) E.1 E.2.1 dX1_firstReady_46 (by decide) ?_
              refine lv_icmp_eq (tgt := 69) E.1 E.2.1 dX1_firstReady_47 (by decide) (fun c_47 => ?_) (fun c_47 => ?_)
              · refine lv_iload_n E.1 E.2.1 dX1_firstReady_69 rfl (lv_at hl 1 rfl) ?_
                refine lv_istore_n (lv' := [(2, .int (nI i)), (4, .int 1), (3, .int (nI i)), (0, .ref (ad Z (cLn w))), (1, .int t)]) E.1 E.2.1 dX1_firstReady_70 rfl hl (by decide) rfl (fun ls hl => ?_)
                refine lv_iinc (v := (nI (i + 1))) (lv' := [(3, .int (nI (i + 1))), (2, .int (nI i)), (4, .int 1), (0, .ref (ad Z (cLn w))), (1, .int t)]) E.1 E.2.1 dX1_firstReady_71 hl (k := 2) rfl (nI_1 _) (by decide) rfl (fun ls hl => ?_)
                refine lv_goto (tgt := 4) E.1 E.2.1 dX1_firstReady_74 (by decide) ?_
                exact ih_4 (i + 1) _ (by omega) (by simp [fstL, dueF, ha, c_9, c_17, c_30, (b2i_t c_30), c_47]) (by omega)  ls (lv_sub hl [0, 1, 3, 4] rfl)
              · refine lv_aload_n E.1 E.2.1 dX1_firstReady_50 rfl (lv_at hl 3 rfl) ?_
                refine lv_aload_n E.1 E.2.1 dX1_firstReady_51 rfl (lv_at hl 3 rfl) ?_
                refine g_ln E hP hV hw 5 (by decide) gw_25 rfl dX1_firstReady_52 ?_
                refine lv_iload_n E.1 E.2.1 dX1_firstReady_55 rfl (lv_at hl 1 rfl) ?_
                refine a_tr (k := i) E hP hw (nI_clamp (by omega)) (vp_in_nI (by omega) (by omega)) dX1_firstReady_56 ?_
                refine lv_aload_n E.1 E.2.1 dX1_firstReady_57 rfl (lv_at hl 3 rfl) ?_
                refine g_ln E hP hV hw 5 (by decide) gw_25 rfl dX1_firstReady_58 ?_
                refine lv_iload_n E.1 E.2.1 dX1_firstReady_61 rfl (lv_at hl 2 rfl) ?_
                have hin_62 : vp_in f 8 := fst_in (by omega) ha c_47
                refine a_tr (k := (f.toNatClampNeg)) E hP hw rfl hin_62 dX1_firstReady_62 ?_
                refine go_Pi (run_V (rest := []) E hml hl.1 (c_X1_goesAhead l  hV hw (by omega) (vp_lt hin_62)) k_X1_goesAhead ⟨rfl, rfl, Nat.le_of_ble_eq_true rfl, Nat.le_of_ble_eq_true rfl⟩ gw_429 gw_430 gw_431 hP (rv_ln E hP hw) rfl rfl (Nat.le_of_ble_eq_true rfl) ⟨Nat.zero_le _, Nat.zero_le _⟩ dX1_firstReady_63) ?_
                refine lv_if_eq (tgt := 71) E.1 E.2.1 dX1_firstReady_66 (by decide) (fun c_66 => ?_) (fun c_66 => ?_)
                · refine lv_iinc (v := (nI (i + 1))) (lv' := [(3, .int (nI (i + 1))), (4, .int 1), (2, .int f), (0, .ref (ad Z (cLn w))), (1, .int t)]) E.1 E.2.1 dX1_firstReady_71 hl (k := 1) rfl (nI_1 _) (by decide) rfl (fun ls hl => ?_)
                  refine lv_goto (tgt := 4) E.1 E.2.1 dX1_firstReady_74 (by decide) ?_
                  exact ih_4 (i + 1) _ (by omega) (by simp [fstL, dueF, ha, c_9, c_17, c_30, (b2i_t c_30), c_47, c_66, (b2i_f c_66)]) (by omega)  ls (lv_sub hl [0, 2, 3, 4] rfl)
                · refine lv_iload_n E.1 E.2.1 dX1_firstReady_69 rfl (lv_at hl 1 rfl) ?_
                  refine lv_istore_n (lv' := [(2, .int (nI i)), (4, .int 1), (3, .int (nI i)), (0, .ref (ad Z (cLn w))), (1, .int t)]) E.1 E.2.1 dX1_firstReady_70 rfl hl (by decide) rfl (fun ls hl => ?_)
                  refine lv_iinc (v := (nI (i + 1))) (lv' := [(3, .int (nI (i + 1))), (2, .int (nI i)), (4, .int 1), (0, .ref (ad Z (cLn w))), (1, .int t)]) E.1 E.2.1 dX1_firstReady_71 hl (k := 2) rfl (nI_1 _) (by decide) rfl (fun ls hl => ?_)
                  refine lv_goto (tgt := 4) E.1 E.2.1 dX1_firstReady_74 (by decide) ?_
                  exact ih_4 (i + 1) _ (by omega) (by simp [fstL, dueF, ha, c_9, c_17, c_30, (b2i_t c_30), c_47, c_66, (b2i_t c_66)]) (by omega)  ls (lv_sub hl [0, 1, 3, 4] rfl)
  exact loop_4 (nT S + 1) 0 _ (by omega) rfl (Nat.zero_le _)  _ (lv_sub hl [0, 1, 2, 3] rfl)
