/-! Train, Route, Block: what each method does. -/
theorem vinL {x N : Int32} {n : Nat} (h0 : ¬ x < 0) (h1 : x < N) (hN : N.toInt ≤ n) : vp_in x n := vin h0 (Int32.not_le.mpr h1) hN
theorem lq1 {x : Int32} {i : Nat} (hi : i < 2 ^ 31) (c : x ≤ nI i) : x.toNatClampNeg ≤ i := (le_nI hi).mp c
theorem lq2 {x : Int32} {i : Nat} (hi : i < 2 ^ 31) (c : ¬ x ≤ nI i) : i < x.toNatClampNeg := Nat.not_le.mp fun h => c ((le_nI hi).mpr h)
theorem fin0 {V V' : Nat → St} {w : Nat} {S S' : St} (hV : V w = S) (hV' : upL V w S' = V') (h : S = S') : V = V' := by rw [← hV', ← h, ← hV, upL_self]
theorem fin1 {V V' : Nat → St} {w : Nat} {S1 S' : St} (hV' : upL V w S' = V') (h : S1 = S') : upL V w S1 = V' := by rw [h]; exact hV'
theorem hasB_true {S : St} {k : Nat} {b : Int32} {i n : Nat} (hi : i < n) (h : blockAtF S k (nI i) = b) : hasBlockF S k b n = true := by
  induction n with
  | zero => omega
  | succ n ih =>
    rcases Nat.lt_or_ge i n with h1 | h1
    · simp [hasBlockF, ih h1]
    · have : i = n := by omega
      subst this
      simp [hasBlockF, h]
abbrev rm_X3_stationOf : Room := { frames := 0, cells := 0, slots := 0, locals := 0 }
theorem k_X3_stationOf : Card yX3_stationOf cX3_stationOf 2 (some .int) 1 := ⟨gw_204, gw_32, by decide +kernel, by decide +kernel⟩
set_option maxHeartbeats 4000000 in
set_option maxRecDepth 20000 in
theorem c_X3_stationOf (l : Launch) {Z : Gm} {V : Nat → St} {w : Nat} {S : St} (hV : V w = S) (hw : w < 2) {k : Nat} (hk : k < 8) (x : Int32) : Met l yX3_stationOf (.code yX3_stationOf cX3_stationOf 2 (some .int) :: gG) rm_X3_stationOf (PW Z V [.ref (ad Z (cTr w k)), .int x]) (QP (some (.int (stationF S k x)))) 0 0 (fun _ => False) := by
  refine met_of (by decide +kernel) (Nat.le_of_ble_eq_true rfl) ?_
  intro p e s m args below meth c ls E hr hlk hml hP hl
  have E : EE Z p s m args c cX3_stationOf RX3 := E
  have hl : lv_has ls 2 [(0, .ref (ad Z (cTr w k))), (1, .int x)] := hl
  refine lv_iload_n E.1 E.2.1 dX3_stationOf_0 rfl (lv_at hl 1 rfl) ?_
  refine lv_if_lt (tgt := 22) E.1 E.2.1 dX3_stationOf_1 (by decide) (fun c_1 => ?_) (fun c_1 => ?_)
  · refine lv_iconst (v := (-1)) E.1 E.2.1 dX3_stationOf_22 (by decide) ?_
    exact e_iP E hr hlk (by simp [stationF, c_1]) dX3_stationOf_23
  · refine lv_iload_n E.1 E.2.1 dX3_stationOf_4 rfl (lv_at hl 1 rfl) ?_
    refine lv_aload_n E.1 E.2.1 dX3_stationOf_5 rfl (lv_at hl 0 rfl) ?_
    refine g_tr E hP hV hw (by omega) 3 (by decide) gw_45 rfl dX3_stationOf_6 ?_
    refine l_st E hP hw (by omega) dX3_stationOf_9 ?_
    refine lv_icmp_ge (tgt := 22) E.1 E.2.1 dX3_stationOf_10 (by decide) (fun c_10 => ?_) (fun c_10 => ?_)
    · refine lv_iconst (v := (-1)) E.1 E.2.1 dX3_stationOf_22 (by decide) ?_
      exact e_iP E hr hlk (by simp [stationF, c_1, c_10]) dX3_stationOf_23
    · refine lv_aload_n E.1 E.2.1 dX3_stationOf_13 rfl (lv_at hl 0 rfl) ?_
      refine g_tr E hP hV hw (by omega) 3 (by decide) gw_45 rfl dX3_stationOf_14 ?_
      refine lv_iload_n E.1 E.2.1 dX3_stationOf_17 rfl (lv_at hl 1 rfl) ?_
      have hin_18 : vp_in x 8 := vin c_1 c_10 (by decide)
      refine i_st (j := (x.toNatClampNeg)) E hP hV hw (by omega) rfl hin_18 dX3_stationOf_18 ?_
      refine lv_goto (tgt := 23) E.1 E.2.1 dX3_stationOf_19 (by decide) ?_
      exact e_iP E hr hlk (by simp [stationF, c_1, c_10]) dX3_stationOf_23

abbrev rm_X3_timeOf : Room := { frames := 0, cells := 0, slots := 0, locals := 0 }
theorem k_X3_timeOf : Card yX3_timeOf cX3_timeOf 2 (some .int) 1 := ⟨gw_200, gw_32, by decide +kernel, by decide +kernel⟩
set_option maxHeartbeats 4000000 in
set_option maxRecDepth 20000 in
theorem c_X3_timeOf (l : Launch) {Z : Gm} {V : Nat → St} {w : Nat} {S : St} (hV : V w = S) (hw : w < 2) {k : Nat} (hk : k < 8) (x : Int32) : Met l yX3_timeOf (.code yX3_timeOf cX3_timeOf 2 (some .int) :: gG) rm_X3_timeOf (PW Z V [.ref (ad Z (cTr w k)), .int x]) (QP (some (.int (timeF S k x)))) 0 0 (fun _ => False) := by
  refine met_of (by decide +kernel) (Nat.le_of_ble_eq_true rfl) ?_
  intro p e s m args below meth c ls E hr hlk hml hP hl
  have E : EE Z p s m args c cX3_timeOf RX3 := E
  have hl : lv_has ls 2 [(0, .ref (ad Z (cTr w k))), (1, .int x)] := hl
  refine lv_iload_n E.1 E.2.1 dX3_timeOf_0 rfl (lv_at hl 1 rfl) ?_
  refine lv_if_lt (tgt := 22) E.1 E.2.1 dX3_timeOf_1 (by decide) (fun c_1 => ?_) (fun c_1 => ?_)
  · refine lv_iconst (v := (-1)) E.1 E.2.1 dX3_timeOf_22 (by decide) ?_
    exact e_iP E hr hlk (by simp [timeF, c_1]) dX3_timeOf_23
  · refine lv_iload_n E.1 E.2.1 dX3_timeOf_4 rfl (lv_at hl 1 rfl) ?_
    refine lv_aload_n E.1 E.2.1 dX3_timeOf_5 rfl (lv_at hl 0 rfl) ?_
    refine g_tr E hP hV hw (by omega) 4 (by decide) gw_46 rfl dX3_timeOf_6 ?_
    refine l_tm E hP hw (by omega) dX3_timeOf_9 ?_
    refine lv_icmp_ge (tgt := 22) E.1 E.2.1 dX3_timeOf_10 (by decide) (fun c_10 => ?_) (fun c_10 => ?_)
    · refine lv_iconst (v := (-1)) E.1 E.2.1 dX3_timeOf_22 (by decide) ?_
      exact e_iP E hr hlk (by simp [timeF, c_1, c_10]) dX3_timeOf_23
    · refine lv_aload_n E.1 E.2.1 dX3_timeOf_13 rfl (lv_at hl 0 rfl) ?_
      refine g_tr E hP hV hw (by omega) 4 (by decide) gw_46 rfl dX3_timeOf_14 ?_
      refine lv_iload_n E.1 E.2.1 dX3_timeOf_17 rfl (lv_at hl 1 rfl) ?_
      have hin_18 : vp_in x 8 := vin c_1 c_10 (by decide)
      refine i_tm (j := (x.toNatClampNeg)) E hP hV hw (by omega) rfl hin_18 dX3_timeOf_18 ?_
      refine lv_goto (tgt := 23) E.1 E.2.1 dX3_timeOf_19 (by decide) ?_
      exact e_iP E hr hlk (by simp [timeF, c_1, c_10]) dX3_timeOf_23

abbrev rm_X3_isOnBlock : Room := { frames := 0, cells := 0, slots := 0, locals := 0 }
theorem k_X3_isOnBlock : Card yX3_isOnBlock cX3_isOnBlock 1 (some .boolean) 0 := ⟨gw_256, gw_32, by decide +kernel, by decide +kernel⟩
set_option maxHeartbeats 4000000 in
set_option maxRecDepth 20000 in
theorem c_X3_isOnBlock (l : Launch) {Z : Gm} {V : Nat → St} {w : Nat} {S : St} (hV : V w = S) (hw : w < 2) {k : Nat} (hk : k < 8) : Met l yX3_isOnBlock (.code yX3_isOnBlock cX3_isOnBlock 1 (some .boolean) :: gG) rm_X3_isOnBlock (PW Z V [.ref (ad Z (cTr w k))]) (QP (some (.int (b2i (onBlockF S k))))) 0 0 (fun _ => False) := by
  refine met_of (by decide +kernel) (Nat.le_of_ble_eq_true rfl) ?_
  intro p e s m args below meth c ls E hr hlk hml hP hl
  have E : EE Z p s m args c cX3_isOnBlock RX3 := E
  have hl : lv_has ls 1 [(0, .ref (ad Z (cTr w k)))] := hl
  refine lv_aload_n E.1 E.2.1 dX3_isOnBlock_0 rfl (lv_at hl 0 rfl) ?_
  refine g_tr (v := .int (S 38 k 0)) E hP hV hw (by omega) 8 (by decide) gw_48 rfl dX3_isOnBlock_1 ?_
  refine lv_iconst (v := (-1)) E.1 E.2.1 dX3_isOnBlock_4 (by decide) ?_
  refine lv_icmp_eq (tgt := 12) E.1 E.2.1 dX3_isOnBlock_5 (by decide) (fun c_5 => ?_) (fun c_5 => ?_)
  · refine lv_iconst (v := 0) E.1 E.2.1 dX3_isOnBlock_12 (by decide) ?_
    exact e_zP E hr hlk (by simp [onBlockF, b2i, c_5]) (Or.inl rfl) dX3_isOnBlock_13
  · refine lv_iconst (v := 1) E.1 E.2.1 dX3_isOnBlock_8 (by decide) ?_
    refine lv_goto (tgt := 13) E.1 E.2.1 dX3_isOnBlock_9 (by decide) ?_
    exact e_zP E hr hlk (by simp [onBlockF, b2i, c_5]) (Or.inr rfl) dX3_isOnBlock_13

abbrev rm_X3_isAtEndOfBlock : Room := { frames := 0, cells := 0, slots := 0, locals := 0 }
theorem k_X3_isAtEndOfBlock : Card yX3_isAtEndOfBlock cX3_isAtEndOfBlock 1 (some .boolean) 0 := ⟨gw_314, gw_32, by decide +kernel, by decide +kernel⟩
set_option maxHeartbeats 4000000 in
set_option maxRecDepth 20000 in
theorem c_X3_isAtEndOfBlock (l : Launch) {Z : Gm} {V : Nat → St} {w : Nat} {S : St} (hV : V w = S) (hw : w < 2) {k : Nat} (hk : k < 8) : Met l yX3_isAtEndOfBlock (.code yX3_isAtEndOfBlock cX3_isAtEndOfBlock 1 (some .boolean) :: gG) rm_X3_isAtEndOfBlock (PW Z V [.ref (ad Z (cTr w k))]) (QP (some (.int (b2i (atEndF S k))))) 0 0 (fun _ => False) := by
  refine met_of (by decide +kernel) (Nat.le_of_ble_eq_true rfl) ?_
  intro p e s m args below meth c ls E hr hlk hml hP hl
  have E : EE Z p s m args c cX3_isAtEndOfBlock RX3 := E
  have hl : lv_has ls 1 [(0, .ref (ad Z (cTr w k)))] := hl
  refine lv_aload_n E.1 E.2.1 dX3_isAtEndOfBlock_0 rfl (lv_at hl 0 rfl) ?_
  refine g_tr (v := .int (S 38 k 0)) E hP hV hw (by omega) 8 (by decide) gw_48 rfl dX3_isAtEndOfBlock_1 ?_
  refine lv_iconst (v := (-1)) E.1 E.2.1 dX3_isAtEndOfBlock_4 (by decide) ?_
  refine lv_icmp_eq (tgt := 19) E.1 E.2.1 dX3_isAtEndOfBlock_5 (by decide) (fun c_5 => ?_) (fun c_5 => ?_)
  · refine lv_iconst (v := 0) E.1 E.2.1 dX3_isAtEndOfBlock_19 (by decide) ?_
    exact e_zP E hr hlk (by simp [atEndF, b2i, c_5]) (Or.inl rfl) dX3_isAtEndOfBlock_20
  · refine lv_aload_n E.1 E.2.1 dX3_isAtEndOfBlock_8 rfl (lv_at hl 0 rfl) ?_
    refine g_tr (v := .int (S 40 k 0)) E hP hV hw (by omega) 10 (by decide) gw_315 rfl dX3_isAtEndOfBlock_9 ?_
    refine lv_if_ne (tgt := 19) E.1 E.2.1 dX3_isAtEndOfBlock_12 (by decide) (fun c_12 => ?_) (fun c_12 => ?_)
    · refine lv_iconst (v := 0) E.1 E.2.1 dX3_isAtEndOfBlock_19 (by decide) ?_
      exact e_zP E hr hlk (by simp [atEndF, b2i, c_5, c_12]) (Or.inl rfl) dX3_isAtEndOfBlock_20
    · refine lv_iconst (v := 1) E.1 E.2.1 dX3_isAtEndOfBlock_15 (by decide) ?_
      refine lv_goto (tgt := 20) E.1 E.2.1 dX3_isAtEndOfBlock_16 (by decide) ?_
      exact e_zP E hr hlk (by simp [atEndF, b2i, c_5, c_12]) (Or.inr rfl) dX3_isAtEndOfBlock_20

abbrev rm_X3_isAtStation : Room := { frames := 0, cells := 0, slots := 0, locals := 0 }
theorem k_X3_isAtStation : Card yX3_isAtStation cX3_isAtStation 1 (some .boolean) 0 := ⟨gw_248, gw_32, by decide +kernel, by decide +kernel⟩
set_option maxHeartbeats 4000000 in
set_option maxRecDepth 20000 in
theorem c_X3_isAtStation (l : Launch) {Z : Gm} {V : Nat → St} {w : Nat} {S : St} (hV : V w = S) (hw : w < 2) {k : Nat} (hk : k < 8) : Met l yX3_isAtStation (.code yX3_isAtStation cX3_isAtStation 1 (some .boolean) :: gG) rm_X3_isAtStation (PW Z V [.ref (ad Z (cTr w k))]) (QP (some (.int (b2i (atStF S k))))) 0 0 (fun _ => False) := by
  refine met_of (by decide +kernel) (Nat.le_of_ble_eq_true rfl) ?_
  intro p e s m args below meth c ls E hr hlk hml hP hl
  have E : EE Z p s m args c cX3_isAtStation RX3 := E
  have hl : lv_has ls 1 [(0, .ref (ad Z (cTr w k)))] := hl
  refine lv_aload_n E.1 E.2.1 dX3_isAtStation_0 rfl (lv_at hl 0 rfl) ?_
  refine g_tr (v := .int (S 36 k 0)) E hP hV hw (by omega) 6 (by decide) gw_47 rfl dX3_isAtStation_1 ?_
  refine lv_iconst (v := (-1)) E.1 E.2.1 dX3_isAtStation_4 (by decide) ?_
  refine lv_icmp_eq (tgt := 12) E.1 E.2.1 dX3_isAtStation_5 (by decide) (fun c_5 => ?_) (fun c_5 => ?_)
  · refine lv_iconst (v := 0) E.1 E.2.1 dX3_isAtStation_12 (by decide) ?_
    exact e_zP E hr hlk (by simp [atStF, b2i, c_5]) (Or.inl rfl) dX3_isAtStation_13
  · refine lv_iconst (v := 1) E.1 E.2.1 dX3_isAtStation_8 (by decide) ?_
    refine lv_goto (tgt := 13) E.1 E.2.1 dX3_isAtStation_9 (by decide) ?_
    exact e_zP E hr hlk (by simp [atStF, b2i, c_5]) (Or.inr rfl) dX3_isAtStation_13

abbrev rm_X3_isDone : Room := { frames := 0, cells := 0, slots := 0, locals := 0 }
theorem k_X3_isDone : Card yX3_isDone cX3_isDone 1 (some .boolean) 0 := ⟨gw_212, gw_32, by decide +kernel, by decide +kernel⟩
set_option maxHeartbeats 4000000 in
set_option maxRecDepth 20000 in
theorem c_X3_isDone (l : Launch) {Z : Gm} {V : Nat → St} {w : Nat} {S : St} (hV : V w = S) (hw : w < 2) {k : Nat} (hk : k < 8) : Met l yX3_isDone (.code yX3_isDone cX3_isDone 1 (some .boolean) :: gG) rm_X3_isDone (PW Z V [.ref (ad Z (cTr w k))]) (QP (some (.int (b2i (doneF S k))))) 0 0 (fun _ => False) := by
  refine met_of (by decide +kernel) (Nat.le_of_ble_eq_true rfl) ?_
  intro p e s m args below meth c ls E hr hlk hml hP hl
  have E : EE Z p s m args c cX3_isDone RX3 := E
  have hl : lv_has ls 1 [(0, .ref (ad Z (cTr w k)))] := hl
  refine lv_aload_n E.1 E.2.1 dX3_isDone_0 rfl (lv_at hl 0 rfl) ?_
  refine g_tr (v := .int (S 36 k 0)) E hP hV hw (by omega) 6 (by decide) gw_47 rfl dX3_isDone_1 ?_
  refine lv_iconst (v := (-1)) E.1 E.2.1 dX3_isDone_4 (by decide) ?_
  refine lv_icmp_ne (tgt := 20) E.1 E.2.1 dX3_isDone_5 (by decide) (fun c_5 => ?_) (fun c_5 => ?_)
  · refine lv_iconst (v := 0) E.1 E.2.1 dX3_isDone_20 (by decide) ?_
    exact e_zP E hr hlk (by simp [doneF, b2i, c_5]) (Or.inl rfl) dX3_isDone_21
  · refine lv_aload_n E.1 E.2.1 dX3_isDone_8 rfl (lv_at hl 0 rfl) ?_
    refine g_tr (v := .int (S 38 k 0)) E hP hV hw (by omega) 8 (by decide) gw_48 rfl dX3_isDone_9 ?_
    refine lv_iconst (v := (-1)) E.1 E.2.1 dX3_isDone_12 (by decide) ?_
    refine lv_icmp_ne (tgt := 20) E.1 E.2.1 dX3_isDone_13 (by decide) (fun c_13 => ?_) (fun c_13 => ?_)
    · refine lv_iconst (v := 0) E.1 E.2.1 dX3_isDone_20 (by decide) ?_
      exact e_zP E hr hlk (by simp [doneF, b2i, c_5, c_13]) (Or.inl rfl) dX3_isDone_21
    · refine lv_iconst (v := 1) E.1 E.2.1 dX3_isDone_16 (by decide) ?_
      refine lv_goto (tgt := 21) E.1 E.2.1 dX3_isDone_17 (by decide) ?_
      exact e_zP E hr hlk (by simp [doneF, b2i, c_5, c_13]) (Or.inr rfl) dX3_isDone_21

abbrev rm_X3_isAtLastStop : Room := { frames := 0, cells := 0, slots := 0, locals := 0 }
theorem k_X3_isAtLastStop : Card yX3_isAtLastStop cX3_isAtLastStop 1 (some .boolean) 0 := ⟨gw_308, gw_32, by decide +kernel, by decide +kernel⟩
set_option maxHeartbeats 4000000 in
set_option maxRecDepth 20000 in
theorem c_X3_isAtLastStop (l : Launch) {Z : Gm} {V : Nat → St} {w : Nat} {S : St} (hV : V w = S) (hw : w < 2) {k : Nat} (hk : k < 8) : Met l yX3_isAtLastStop (.code yX3_isAtLastStop cX3_isAtLastStop 1 (some .boolean) :: gG) rm_X3_isAtLastStop (PW Z V [.ref (ad Z (cTr w k))]) (QP (some (.int (b2i (lastF S k))))) 0 0 (fun _ => False) := by
  refine met_of (by decide +kernel) (Nat.le_of_ble_eq_true rfl) ?_
  intro p e s m args below meth c ls E hr hlk hml hP hl
  have E : EE Z p s m args c cX3_isAtLastStop RX3 := E
  have hl : lv_has ls 1 [(0, .ref (ad Z (cTr w k)))] := hl
  refine lv_aload_n E.1 E.2.1 dX3_isAtLastStop_0 rfl (lv_at hl 0 rfl) ?_
  refine g_tr (v := .int (S 35 k 0)) E hP hV hw (by omega) 5 (by decide) gw_309 rfl dX3_isAtLastStop_1 ?_
  refine lv_aload_n E.1 E.2.1 dX3_isAtLastStop_4 rfl (lv_at hl 0 rfl) ?_
  refine g_tr (v := .int (S 32 k 0)) E hP hV hw (by omega) 2 (by decide) gw_187 rfl dX3_isAtLastStop_5 ?_
  refine lv_iconst (v := 1) E.1 E.2.1 dX3_isAtLastStop_8 (by decide) ?_
  refine lv_isub E.1 E.2.1 dX3_isAtLastStop_9 ?_
  refine lv_icmp_lt (tgt := 17) E.1 E.2.1 dX3_isAtLastStop_10 (by decide) (fun c_10 => ?_) (fun c_10 => ?_)
  · refine lv_iconst (v := 0) E.1 E.2.1 dX3_isAtLastStop_17 (by decide) ?_
    exact e_zP E hr hlk (by first | (simp [lastF, b2i, c_10]; done) | (simp [lastF, b2i, Int32.not_lt.mp c_10]; done) | (simp [lastF, b2i, Int32.not_le.mpr c_10]; done)) (Or.inl rfl) dX3_isAtLastStop_18
  · refine lv_iconst (v := 1) E.1 E.2.1 dX3_isAtLastStop_13 (by decide) ?_
    refine lv_goto (tgt := 18) E.1 E.2.1 dX3_isAtLastStop_14 (by decide) ?_
    exact e_zP E hr hlk (by first | (simp [lastF, b2i, c_10]; done) | (simp [lastF, b2i, Int32.not_lt.mp c_10]; done) | (simp [lastF, b2i, Int32.not_le.mpr c_10]; done)) (Or.inr rfl) dX3_isAtLastStop_18

abbrev rm_X3_beLate : Room := { frames := 1, cells := 0, slots := 0, locals := 21 }
theorem k_X3_beLate : Card yX3_beLate cX3_beLate 2 none 1 := ⟨gw_394, gw_32, by decide +kernel, by decide +kernel⟩
set_option maxHeartbeats 4000000 in
set_option maxRecDepth 20000 in
theorem c_X3_beLate (l : Launch) {Z : Gm} (hA : AA Z) {V : Nat → St} {V' : Nat → St} {w : Nat} {S : St} (hV : V w = S) (hw : w < 2) {k : Nat} (hk : k < 8) (x : Int32) (hV' : upL V w (beLateF S k x) = V') : Met l yX3_beLate (.code yX3_beLate cX3_beLate 2 none :: gG) rm_X3_beLate (PW Z V [.ref (ad Z (cTr w k)), .int x]) (QX Z none V') 0 0 (inW Z) := by
  refine met_of (by decide +kernel) (Nat.le_of_ble_eq_true rfl) ?_
  intro p e s m args below meth c ls E hr hlk hml hP hl
  have E : EE Z p s m args c cX3_beLate RX3 := E
  have hl : lv_has ls 2 [(0, .ref (ad Z (cTr w k))), (1, .int x)] := hl
  have hS : va_S (inW Z) s.heap s.heap [] := va_S.rf
  refine lv_aload_n E.1 E.2.1 dX3_beLate_0 rfl (lv_at hl 0 rfl) ?_
  refine lv_iconst (v := 0) E.1 E.2.1 dX3_beLate_1 (by decide) ?_
  refine lv_iload_n E.1 E.2.1 dX3_beLate_2 rfl (lv_at hl 1 rfl) ?_
  refine lv_aload_n E.1 E.2.1 dX3_beLate_3 rfl (lv_at hl 0 rfl) ?_
  refine lv_aload_n E.1 E.2.1 dX3_beLate_4 rfl (lv_at hl 0 rfl) ?_
  refine g_tr (v := .int (S 35 k 0)) E hP hV hw (by omega) 5 (by decide) gw_309 rfl dX3_beLate_5 ?_
  refine go_Pi (run_V (rest := [.int x, .int 0, .ref (ad Z (cTr w k))]) E hml hl.1 (c_X3_timeOf l  hV hw (by omega) (S 35 k 0)) k_X3_timeOf ⟨rfl, rfl, Nat.le_of_ble_eq_true rfl, Nat.le_of_ble_eq_true rfl⟩ gw_399 gw_198 gw_199 hP (rv_tr E hP hw (by omega)) rfl rfl (Nat.le_of_ble_eq_true rfl) ⟨Nat.zero_le _, Nat.zero_le _⟩ dX3_beLate_8) ?_
  refine lv_isub E.1 E.2.1 dX3_beLate_11 ?_
  refine va_mmax E.1 E.2.1 (hml.trans hl.1.symm) E.2.2.1 (E.2.2.2.1 _ gw_395) (E.2.2.2.1 _ gw_396) (E.2.2.2.1 _ gw_397) (E.2.2.2.1 _ gw_398) (Nat.le_of_ble_eq_true rfl) (Nat.le_of_ble_eq_true rfl) (Nat.zero_le _) (Nat.zero_le _) dX3_beLate_12 ?_
  refine p_tr E hP hA hS hV hw (by omega) 12 (by decide) gw_366 (V' := upL V w (up S 42 k 0 (if 0 < (x - (timeF S k (S 35 k 0))) then (x - (timeF S k (S 35 k 0))) else 0))) rfl dX3_beLate_15 (fun H locs hP hS => ?_)
  exact e_vX E hr hlk hP hS (fin1 hV' (by rfl)) dX3_beLate_18

abbrev rm_X3_waitOneTick : Room := { frames := 0, cells := 0, slots := 0, locals := 0 }
theorem k_X3_waitOneTick : Card yX3_waitOneTick cX3_waitOneTick 2 none 1 := ⟨gw_419, gw_32, by decide +kernel, by decide +kernel⟩
set_option maxHeartbeats 4000000 in
set_option maxRecDepth 20000 in
theorem c_X3_waitOneTick (l : Launch) {Z : Gm} (hA : AA Z) {V : Nat → St} {V' : Nat → St} {w : Nat} {S : St} (hV : V w = S) (hw : w < 2) {k : Nat} (hk : k < 8) (x : Int32) (hV' : upL V w (waitF S k x) = V') : Met l yX3_waitOneTick (.code yX3_waitOneTick cX3_waitOneTick 2 none :: gG) rm_X3_waitOneTick (PW Z V [.ref (ad Z (cTr w k)), .int x]) (QX Z none V') 0 0 (inW Z) := by
  refine met_of (by decide +kernel) (Nat.le_of_ble_eq_true rfl) ?_
  intro p e s m args below meth c ls E hr hlk hml hP hl
  have E : EE Z p s m args c cX3_waitOneTick RX3 := E
  have hl : lv_has ls 2 [(0, .ref (ad Z (cTr w k))), (1, .int x)] := hl
  have hS : va_S (inW Z) s.heap s.heap [] := va_S.rf
  refine lv_aload_n E.1 E.2.1 dX3_waitOneTick_0 rfl (lv_at hl 0 rfl) ?_
  refine lv_dup E.1 E.2.1 dX3_waitOneTick_1 rfl ?_
  refine g_tr (v := .int (S 43 k 0)) E hP hV hw (by omega) 13 (by decide) gw_367 rfl dX3_waitOneTick_2 ?_
  refine lv_iconst (v := 1) E.1 E.2.1 dX3_waitOneTick_5 (by decide) ?_
  refine lv_iadd E.1 E.2.1 dX3_waitOneTick_6 ?_
  refine p_tr E hP hA hS hV hw (by omega) 13 (by decide) gw_367 (V' := upL V w (up S 43 k 0 ((S 43 k 0) + 1))) rfl dX3_waitOneTick_7 (fun H locs hP hS => ?_)
  refine lv_aload_n E.1 E.2.1 dX3_waitOneTick_10 rfl (lv_at hl 0 rfl) ?_
  refine lv_iload_n E.1 E.2.1 dX3_waitOneTick_11 rfl (lv_at hl 1 rfl) ?_
  refine p_tr E hP hA hS (upL_same V w (up S 43 k 0 ((S 43 k 0) + 1))) hw (by omega) 14 (by decide) gw_49 (V' := upL V w (up (up S 43 k 0 ((S 43 k 0) + 1)) 44 k 0 x)) (upL_upL V w _ _) dX3_waitOneTick_12 (fun H locs hP hS => ?_)
  refine lv_iload_n E.1 E.2.1 dX3_waitOneTick_15 rfl (lv_at hl 1 rfl) ?_
  refine lv_if_lt (tgt := 38) E.1 E.2.1 dX3_waitOneTick_16 (by decide) (fun c_16 => ?_) (fun c_16 => ?_)
  · exact e_vX E hr hlk hP hS (fin1 hV' (by simp [waitF, up, c_16])) dX3_waitOneTick_38
  · refine lv_iload_n E.1 E.2.1 dX3_waitOneTick_19 rfl (lv_at hl 1 rfl) ?_
    refine lv_aload_n E.1 E.2.1 dX3_waitOneTick_20 rfl (lv_at hl 0 rfl) ?_
    refine g_tr E hP (upL_same V w (up (up S 43 k 0 ((S 43 k 0) + 1)) 44 k 0 x)) hw (by omega) 15 (by decide) gw_50 rfl dX3_waitOneTick_21 ?_
    refine l_wf E hP hw (by omega) dX3_waitOneTick_24 ?_
    refine lv_icmp_ge (tgt := 38) E.1 E.2.1 dX3_waitOneTick_25 (by decide) (fun c_25 => ?_) (fun c_25 => ?_)
    · exact e_vX E hr hlk hP hS (fin1 hV' (by simp [waitF, up, c_16, c_25])) dX3_waitOneTick_38
    · refine lv_aload_n E.1 E.2.1 dX3_waitOneTick_28 rfl (lv_at hl 0 rfl) ?_
      refine g_tr E hP (upL_same V w (up (up S 43 k 0 ((S 43 k 0) + 1)) 44 k 0 x)) hw (by omega) 15 (by decide) gw_50 rfl dX3_waitOneTick_29 ?_
      refine lv_iload_n E.1 E.2.1 dX3_waitOneTick_32 rfl (lv_at hl 1 rfl) ?_
      refine lv_dup2_11 E.1 E.2.1 dX3_waitOneTick_33 rfl rfl ?_
      have hin_34 : vp_in x 8 := vin c_16 c_25 (by decide)
      refine i_wf (j := (x.toNatClampNeg)) E hP (upL_same V w (up (up S 43 k 0 ((S 43 k 0) + 1)) 44 k 0 x)) hw (by omega) rfl hin_34 dX3_waitOneTick_34 ?_
      refine lv_iconst (v := 1) E.1 E.2.1 dX3_waitOneTick_35 (by decide) ?_
      refine lv_iadd E.1 E.2.1 dX3_waitOneTick_36 ?_
      have hin_37 : vp_in x 8 := vin c_16 c_25 (by decide)
      refine s_wf (j := (x.toNatClampNeg)) E hP hA hS (upL_same V w (up (up S 43 k 0 ((S 43 k 0) + 1)) 44 k 0 x)) hw (by omega) rfl hin_37 (V' := upL V w (up (up (up S 43 k 0 ((S 43 k 0) + 1)) 44 k 0 x) 45 k (x.toNatClampNeg) (((up (up S 43 k 0 ((S 43 k 0) + 1)) 44 k 0 x) 45 k (x.toNatClampNeg)) + 1))) (upL_upL V w _ _) dX3_waitOneTick_37 (fun H locs hP hS => ?_)
      exact e_vX E hr hlk hP hS (fin1 hV' (by simp [waitF, up, c_16, c_25])) dX3_waitOneTick_38

abbrev rm_X3_addStop : Room := { frames := 0, cells := 0, slots := 0, locals := 0 }
theorem k_X3_addStop : Card yX3_addStop cX3_addStop 3 none 2 := ⟨gw_186, gw_32, by decide +kernel, by decide +kernel⟩
set_option maxHeartbeats 4000000 in
set_option maxRecDepth 20000 in
theorem c_X3_addStop (l : Launch) {Z : Gm} (hA : AA Z) {V : Nat → St} {V' : Nat → St} {w : Nat} {S : St} (hV : V w = S) (hw : w < 2) {k : Nat} (hk : k < 8) (x t : Int32) (hV' : upL V w (addStopF S k x t) = V') : Met l yX3_addStop (.code yX3_addStop cX3_addStop 3 none :: gG) rm_X3_addStop (PW Z V [.ref (ad Z (cTr w k)), .int x, .int t]) (QX Z none V') 0 0 (inW Z) := by
  refine met_of (by decide +kernel) (Nat.le_of_ble_eq_true rfl) ?_
  intro p e s m args below meth c ls E hr hlk hml hP hl
  have E : EE Z p s m args c cX3_addStop RX3 := E
  have hl : lv_has ls 3 [(0, .ref (ad Z (cTr w k))), (1, .int x), (2, .int t)] := hl
  have hS : va_S (inW Z) s.heap s.heap [] := va_S.rf
  refine lv_aload_n E.1 E.2.1 dX3_addStop_0 rfl (lv_at hl 0 rfl) ?_
  refine g_tr (v := .int (S 32 k 0)) E hP hV hw (by omega) 2 (by decide) gw_187 rfl dX3_addStop_1 ?_
  refine lv_if_lt (tgt := 46) E.1 E.2.1 dX3_addStop_4 (by decide) (fun c_4 => ?_) (fun c_4 => ?_)
  · exact e_vX E hr hlk hP hS (fin0 hV hV' (by simp [addStopF, up, c_4])) dX3_addStop_46
  · refine lv_aload_n E.1 E.2.1 dX3_addStop_7 rfl (lv_at hl 0 rfl) ?_
    refine g_tr (v := .int (S 32 k 0)) E hP hV hw (by omega) 2 (by decide) gw_187 rfl dX3_addStop_8 ?_
    refine lv_bipush (v := 8) E.1 E.2.1 dX3_addStop_11 (by decide) ?_
    refine lv_icmp_ge (tgt := 46) E.1 E.2.1 dX3_addStop_13 (by decide) (fun c_13 => ?_) (fun c_13 => ?_)
    · exact e_vX E hr hlk hP hS (fin0 hV hV' (by simp [addStopF, up, c_4, c_13])) dX3_addStop_46
    · refine lv_aload_n E.1 E.2.1 dX3_addStop_16 rfl (lv_at hl 0 rfl) ?_
      refine g_tr E hP hV hw (by omega) 3 (by decide) gw_45 rfl dX3_addStop_17 ?_
      refine lv_aload_n E.1 E.2.1 dX3_addStop_20 rfl (lv_at hl 0 rfl) ?_
      refine g_tr (v := .int (S 32 k 0)) E hP hV hw (by omega) 2 (by decide) gw_187 rfl dX3_addStop_21 ?_
      refine lv_iload_n E.1 E.2.1 dX3_addStop_24 rfl (lv_at hl 1 rfl) ?_
      have hin_25 : vp_in (S 32 k 0) 8 := vin c_4 c_13 (by decide)
      refine s_st (j := ((S 32 k 0).toNatClampNeg)) E hP hA hS hV hw (by omega) rfl hin_25 (V' := upL V w (up S 33 k ((S 32 k 0).toNatClampNeg) x)) rfl dX3_addStop_25 (fun H locs hP hS => ?_)
      refine lv_aload_n E.1 E.2.1 dX3_addStop_26 rfl (lv_at hl 0 rfl) ?_
      refine g_tr E hP (upL_same V w (up S 33 k ((S 32 k 0).toNatClampNeg) x)) hw (by omega) 4 (by decide) gw_46 rfl dX3_addStop_27 ?_
      refine lv_aload_n E.1 E.2.1 dX3_addStop_30 rfl (lv_at hl 0 rfl) ?_
      refine g_tr (v := .int (S 32 k 0)) E hP (upL_same V w (up S 33 k ((S 32 k 0).toNatClampNeg) x)) hw (by omega) 2 (by decide) gw_187 (by first | rfl | simp [fTr, up_f, up_s]) dX3_addStop_31 ?_
      refine lv_iload_n E.1 E.2.1 dX3_addStop_34 rfl (lv_at hl 2 rfl) ?_
      have hin_35 : vp_in (S 32 k 0) 8 := vin c_4 c_13 (by decide)
      refine s_tm (j := ((S 32 k 0).toNatClampNeg)) E hP hA hS (upL_same V w (up S 33 k ((S 32 k 0).toNatClampNeg) x)) hw (by omega) rfl hin_35 (V' := upL V w (up (up S 33 k ((S 32 k 0).toNatClampNeg) x) 34 k ((S 32 k 0).toNatClampNeg) t)) (upL_upL V w _ _) dX3_addStop_35 (fun H locs hP hS => ?_)
      refine lv_aload_n E.1 E.2.1 dX3_addStop_36 rfl (lv_at hl 0 rfl) ?_
      refine lv_dup E.1 E.2.1 dX3_addStop_37 rfl ?_
      refine g_tr (v := .int (S 32 k 0)) E hP (upL_same V w (up (up S 33 k ((S 32 k 0).toNatClampNeg) x) 34 k ((S 32 k 0).toNatClampNeg) t)) hw (by omega) 2 (by decide) gw_187 (by first | rfl | simp [fTr, up_f, up_s]) dX3_addStop_38 ?_
      refine lv_iconst (v := 1) E.1 E.2.1 dX3_addStop_41 (by decide) ?_
      refine lv_iadd E.1 E.2.1 dX3_addStop_42 ?_
      refine p_tr E hP hA hS (upL_same V w (up (up S 33 k ((S 32 k 0).toNatClampNeg) x) 34 k ((S 32 k 0).toNatClampNeg) t)) hw (by omega) 2 (by decide) gw_187 (V' := upL V w (up (up (up S 33 k ((S 32 k 0).toNatClampNeg) x) 34 k ((S 32 k 0).toNatClampNeg) t) 32 k 0 ((S 32 k 0) + 1))) (upL_upL V w _ _) dX3_addStop_43 (fun H locs hP hS => ?_)
      exact e_vX E hr hlk hP hS (fin1 hV' (by simp [addStopF, up, c_4, c_13])) dX3_addStop_46

abbrev rm_X2_lay : Room := { frames := 0, cells := 0, slots := 0, locals := 0 }
theorem k_X2_lay : Card yX2_lay cX2_lay 4 none 3 := ⟨gw_95, gw_30, by decide +kernel, by decide +kernel⟩
set_option maxHeartbeats 4000000 in
set_option maxRecDepth 20000 in
theorem c_X2_lay (l : Launch) {Z : Gm} (hA : AA Z) {V : Nat → St} {V' : Nat → St} {w : Nat} {S : St} (hV : V w = S) (hw : w < 2) {k : Nat} (hk : k < 16) (a b z : Int32) (hz : z = 0 ∨ z = 1) (hV' : upL V w (layF S k a b z) = V') : Met l yX2_lay (.code yX2_lay cX2_lay 4 none :: gG) rm_X2_lay (PW Z V [.ref (ad Z (cRt w k)), .int a, .int b, .int z]) (QX Z none V') 0 0 (inW Z) := by
  refine met_of (by decide +kernel) (Nat.le_of_ble_eq_true rfl) ?_
  intro p e s m args below meth c ls E hr hlk hml hP hl
  have E : EE Z p s m args c cX2_lay RX2 := E
  have hl : lv_has ls 4 [(0, .ref (ad Z (cRt w k))), (1, .int a), (2, .int b), (3, .int z)] := hl
  have hS : va_S (inW Z) s.heap s.heap [] := va_S.rf
  refine lv_aload_n E.1 E.2.1 dX2_lay_0 rfl (lv_at hl 0 rfl) ?_
  refine lv_iload_n E.1 E.2.1 dX2_lay_1 rfl (lv_at hl 1 rfl) ?_
  refine p_rt E hP hA hS hV hw (by omega) 0 (by decide) gw_96 (fun h => absurd h (by decide)) (V' := upL V w (up S 20 k 0 a)) rfl dX2_lay_2 (fun H locs hP hS => ?_)
  refine lv_aload_n E.1 E.2.1 dX2_lay_5 rfl (lv_at hl 0 rfl) ?_
  refine lv_iload_n E.1 E.2.1 dX2_lay_6 rfl (lv_at hl 2 rfl) ?_
  refine p_rt E hP hA hS (upL_same V w (up S 20 k 0 a)) hw (by omega) 1 (by decide) gw_97 (fun h => absurd h (by decide)) (V' := upL V w (up (up S 20 k 0 a) 21 k 0 b)) (upL_upL V w _ _) dX2_lay_7 (fun H locs hP hS => ?_)
  refine lv_aload_n E.1 E.2.1 dX2_lay_10 rfl (lv_at hl 0 rfl) ?_
  refine lv_iload_n E.1 E.2.1 dX2_lay_11 rfl (lv_at hl 3 rfl) ?_
  refine p_rt E hP hA hS (upL_same V w (up (up S 20 k 0 a) 21 k 0 b)) hw (by omega) 2 (by decide) gw_98 (fun _ => hz) (V' := upL V w (up (up (up S 20 k 0 a) 21 k 0 b) 22 k 0 z)) (upL_upL V w _ _) dX2_lay_12 (fun H locs hP hS => ?_)
  refine lv_aload_n E.1 E.2.1 dX2_lay_15 rfl (lv_at hl 0 rfl) ?_
  refine lv_iconst (v := 0) E.1 E.2.1 dX2_lay_16 (by decide) ?_
  refine p_rt E hP hA hS (upL_same V w (up (up (up S 20 k 0 a) 21 k 0 b) 22 k 0 z)) hw (by omega) 3 (by decide) gw_99 (fun h => absurd h (by decide)) (V' := upL V w (up (up (up (up S 20 k 0 a) 21 k 0 b) 22 k 0 z) 23 k 0 0)) (upL_upL V w _ _) dX2_lay_17 (fun H locs hP hS => ?_)
  exact e_vX E hr hlk hP hS (fin1 hV' (by rfl)) dX2_lay_20

abbrev rm_X2_addBlock : Room := { frames := 0, cells := 0, slots := 0, locals := 0 }
theorem k_X2_addBlock : Card yX2_addBlock cX2_addBlock 2 none 1 := ⟨gw_103, gw_30, by decide +kernel, by decide +kernel⟩
set_option maxHeartbeats 4000000 in
set_option maxRecDepth 20000 in
theorem c_X2_addBlock (l : Launch) {Z : Gm} (hA : AA Z) {V : Nat → St} {V' : Nat → St} {w : Nat} {S : St} (hV : V w = S) (hw : w < 2) {k : Nat} (hk : k < 16) (b : Int32) (hV' : upL V w (addBlockF S k b) = V') : Met l yX2_addBlock (.code yX2_addBlock cX2_addBlock 2 none :: gG) rm_X2_addBlock (PW Z V [.ref (ad Z (cRt w k)), .int b]) (QX Z none V') 0 0 (inW Z) := by
  refine met_of (by decide +kernel) (Nat.le_of_ble_eq_true rfl) ?_
  intro p e s m args below meth c ls E hr hlk hml hP hl
  have E : EE Z p s m args c cX2_addBlock RX2 := E
  have hl : lv_has ls 2 [(0, .ref (ad Z (cRt w k))), (1, .int b)] := hl
  have hS : va_S (inW Z) s.heap s.heap [] := va_S.rf
  refine lv_aload_n E.1 E.2.1 dX2_addBlock_0 rfl (lv_at hl 0 rfl) ?_
  refine g_rt (v := .int (S 23 k 0)) E hP hV hw (by omega) 3 (by decide) gw_99 rfl dX2_addBlock_1 ?_
  refine lv_if_lt (tgt := 39) E.1 E.2.1 dX2_addBlock_4 (by decide) (fun c_4 => ?_) (fun c_4 => ?_)
  · exact e_vX E hr hlk hP hS (fin0 hV hV' (by simp [addBlockF, up, c_4])) dX2_addBlock_39
  · refine lv_aload_n E.1 E.2.1 dX2_addBlock_7 rfl (lv_at hl 0 rfl) ?_
    refine g_rt (v := .int (S 23 k 0)) E hP hV hw (by omega) 3 (by decide) gw_99 rfl dX2_addBlock_8 ?_
    refine lv_aload_n E.1 E.2.1 dX2_addBlock_11 rfl (lv_at hl 0 rfl) ?_
    refine g_rt E hP hV hw (by omega) 4 (by decide) gw_41 rfl dX2_addBlock_12 ?_
    refine l_rb E hP hw (by omega) dX2_addBlock_15 ?_
    refine lv_icmp_ge (tgt := 39) E.1 E.2.1 dX2_addBlock_16 (by decide) (fun c_16 => ?_) (fun c_16 => ?_)
    · exact e_vX E hr hlk hP hS (fin0 hV hV' (by simp [addBlockF, up, c_4, c_16])) dX2_addBlock_39
    · refine lv_aload_n E.1 E.2.1 dX2_addBlock_19 rfl (lv_at hl 0 rfl) ?_
      refine g_rt E hP hV hw (by omega) 4 (by decide) gw_41 rfl dX2_addBlock_20 ?_
      refine lv_aload_n E.1 E.2.1 dX2_addBlock_23 rfl (lv_at hl 0 rfl) ?_
      refine g_rt (v := .int (S 23 k 0)) E hP hV hw (by omega) 3 (by decide) gw_99 rfl dX2_addBlock_24 ?_
      refine lv_iload_n E.1 E.2.1 dX2_addBlock_27 rfl (lv_at hl 1 rfl) ?_
      have hin_28 : vp_in (S 23 k 0) 5 := vin c_4 c_16 (by decide)
      refine s_rb (j := ((S 23 k 0).toNatClampNeg)) E hP hA hS hV hw (by omega) rfl hin_28 (V' := upL V w (up S 24 k ((S 23 k 0).toNatClampNeg) b)) rfl dX2_addBlock_28 (fun H locs hP hS => ?_)
      refine lv_aload_n E.1 E.2.1 dX2_addBlock_29 rfl (lv_at hl 0 rfl) ?_
      refine lv_dup E.1 E.2.1 dX2_addBlock_30 rfl ?_
      refine g_rt (v := .int (S 23 k 0)) E hP (upL_same V w (up S 24 k ((S 23 k 0).toNatClampNeg) b)) hw (by omega) 3 (by decide) gw_99 (by first | rfl | simp [fRt, up_f, up_s]) dX2_addBlock_31 ?_
      refine lv_iconst (v := 1) E.1 E.2.1 dX2_addBlock_34 (by decide) ?_
      refine lv_iadd E.1 E.2.1 dX2_addBlock_35 ?_
      refine p_rt E hP hA hS (upL_same V w (up S 24 k ((S 23 k 0).toNatClampNeg) b)) hw (by omega) 3 (by decide) gw_99 (fun h => absurd h (by decide)) (V' := upL V w (up (up S 24 k ((S 23 k 0).toNatClampNeg) b) 23 k 0 ((S 23 k 0) + 1))) (upL_upL V w _ _) dX2_addBlock_36 (fun H locs hP hS => ?_)
      exact e_vX E hr hlk hP hS (fin1 hV' (by simp [addBlockF, up, c_4, c_16])) dX2_addBlock_39

abbrev rm_X2_blockAt : Room := { frames := 0, cells := 0, slots := 0, locals := 0 }
theorem k_X2_blockAt : Card yX2_blockAt cX2_blockAt 2 (some .int) 1 := ⟨gw_129, gw_30, by decide +kernel, by decide +kernel⟩
set_option maxHeartbeats 4000000 in
set_option maxRecDepth 20000 in
theorem c_X2_blockAt (l : Launch) {Z : Gm} {V : Nat → St} {w : Nat} {S : St} (hV : V w = S) (hw : w < 2) {k : Nat} (hk : k < 16) (x : Int32) : Met l yX2_blockAt (.code yX2_blockAt cX2_blockAt 2 (some .int) :: gG) rm_X2_blockAt (PW Z V [.ref (ad Z (cRt w k)), .int x]) (QP (some (.int (blockAtF S k x)))) 0 0 (fun _ => False) := by
  refine met_of (by decide +kernel) (Nat.le_of_ble_eq_true rfl) ?_
  intro p e s m args below meth c ls E hr hlk hml hP hl
  have E : EE Z p s m args c cX2_blockAt RX2 := E
  have hl : lv_has ls 2 [(0, .ref (ad Z (cRt w k))), (1, .int x)] := hl
  refine lv_iload_n E.1 E.2.1 dX2_blockAt_0 rfl (lv_at hl 1 rfl) ?_
  refine lv_if_lt (tgt := 22) E.1 E.2.1 dX2_blockAt_1 (by decide) (fun c_1 => ?_) (fun c_1 => ?_)
  · refine lv_iconst (v := (-1)) E.1 E.2.1 dX2_blockAt_22 (by decide) ?_
    exact e_iP E hr hlk (by simp [blockAtF, c_1]) dX2_blockAt_23
  · refine lv_iload_n E.1 E.2.1 dX2_blockAt_4 rfl (lv_at hl 1 rfl) ?_
    refine lv_aload_n E.1 E.2.1 dX2_blockAt_5 rfl (lv_at hl 0 rfl) ?_
    refine g_rt E hP hV hw (by omega) 4 (by decide) gw_41 rfl dX2_blockAt_6 ?_
    refine l_rb E hP hw (by omega) dX2_blockAt_9 ?_
    refine lv_icmp_ge (tgt := 22) E.1 E.2.1 dX2_blockAt_10 (by decide) (fun c_10 => ?_) (fun c_10 => ?_)
    · refine lv_iconst (v := (-1)) E.1 E.2.1 dX2_blockAt_22 (by decide) ?_
      exact e_iP E hr hlk (by simp [blockAtF, c_1, c_10]) dX2_blockAt_23
    · refine lv_aload_n E.1 E.2.1 dX2_blockAt_13 rfl (lv_at hl 0 rfl) ?_
      refine g_rt E hP hV hw (by omega) 4 (by decide) gw_41 rfl dX2_blockAt_14 ?_
      refine lv_iload_n E.1 E.2.1 dX2_blockAt_17 rfl (lv_at hl 1 rfl) ?_
      have hin_18 : vp_in x 5 := vin c_1 c_10 (by decide)
      refine i_rb (j := (x.toNatClampNeg)) E hP hV hw (by omega) rfl hin_18 dX2_blockAt_18 ?_
      refine lv_goto (tgt := 23) E.1 E.2.1 dX2_blockAt_19 (by decide) ?_
      exact e_iP E hr hlk (by simp [blockAtF, c_1, c_10]) dX2_blockAt_23

abbrev rm_X2_joins : Room := { frames := 0, cells := 0, slots := 0, locals := 0 }
theorem k_X2_joins : Card yX2_joins cX2_joins 3 (some .boolean) 2 := ⟨gw_445, gw_30, by decide +kernel, by decide +kernel⟩
set_option maxHeartbeats 4000000 in
set_option maxRecDepth 20000 in
theorem c_X2_joins (l : Launch) {Z : Gm} {V : Nat → St} {w : Nat} {S : St} (hV : V w = S) (hw : w < 2) {k : Nat} (hk : k < 16) (a b : Int32) : Met l yX2_joins (.code yX2_joins cX2_joins 3 (some .boolean) :: gG) rm_X2_joins (PW Z V [.ref (ad Z (cRt w k)), .int a, .int b]) (QP (some (.int (b2i (joinsF S k a b))))) 0 0 (fun _ => False) := by
  refine met_of (by decide +kernel) (Nat.le_of_ble_eq_true rfl) ?_
  intro p e s m args below meth c ls E hr hlk hml hP hl
  have E : EE Z p s m args c cX2_joins RX2 := E
  have hl : lv_has ls 3 [(0, .ref (ad Z (cRt w k))), (1, .int a), (2, .int b)] := hl
  refine lv_aload_n E.1 E.2.1 dX2_joins_0 rfl (lv_at hl 0 rfl) ?_
  refine g_rt (v := .int (S 20 k 0)) E hP hV hw (by omega) 0 (by decide) gw_96 rfl dX2_joins_1 ?_
  refine lv_iload_n E.1 E.2.1 dX2_joins_4 rfl (lv_at hl 1 rfl) ?_
  refine lv_icmp_ne (tgt := 20) E.1 E.2.1 dX2_joins_5 (by decide) (fun c_5 => ?_) (fun c_5 => ?_)
  · refine lv_iconst (v := 0) E.1 E.2.1 dX2_joins_20 (by decide) ?_
    exact e_zP E hr hlk (by simp [joinsF, b2i, c_5]) (Or.inl rfl) dX2_joins_21
  · refine lv_aload_n E.1 E.2.1 dX2_joins_8 rfl (lv_at hl 0 rfl) ?_
    refine g_rt (v := .int (S 21 k 0)) E hP hV hw (by omega) 1 (by decide) gw_97 rfl dX2_joins_9 ?_
    refine lv_iload_n E.1 E.2.1 dX2_joins_12 rfl (lv_at hl 2 rfl) ?_
    refine lv_icmp_ne (tgt := 20) E.1 E.2.1 dX2_joins_13 (by decide) (fun c_13 => ?_) (fun c_13 => ?_)
    · refine lv_iconst (v := 0) E.1 E.2.1 dX2_joins_20 (by decide) ?_
      exact e_zP E hr hlk (by simp [joinsF, b2i, c_5, c_13]) (Or.inl rfl) dX2_joins_21
    · refine lv_iconst (v := 1) E.1 E.2.1 dX2_joins_16 (by decide) ?_
      refine lv_goto (tgt := 21) E.1 E.2.1 dX2_joins_17 (by decide) ?_
      exact e_zP E hr hlk (by simp [joinsF, b2i, c_5, c_13]) (Or.inr rfl) dX2_joins_21

abbrev rm_X2_countToBeClear : Room := { frames := 0, cells := 0, slots := 0, locals := 0 }
theorem k_X2_countToBeClear : Card yX2_countToBeClear cX2_countToBeClear 1 (some .int) 0 := ⟨gw_458, gw_30, by decide +kernel, by decide +kernel⟩
set_option maxHeartbeats 4000000 in
set_option maxRecDepth 20000 in
theorem c_X2_countToBeClear (l : Launch) {Z : Gm} {V : Nat → St} {w : Nat} {S : St} (hV : V w = S) (hw : w < 2) {k : Nat} (hk : k < 16) : Met l yX2_countToBeClear (.code yX2_countToBeClear cX2_countToBeClear 1 (some .int) :: gG) rm_X2_countToBeClear (PW Z V [.ref (ad Z (cRt w k))]) (QP (some (.int (toClearF S k)))) 0 0 (fun _ => False) := by
  refine met_of (by decide +kernel) (Nat.le_of_ble_eq_true rfl) ?_
  intro p e s m args below meth c ls E hr hlk hml hP hl
  have E : EE Z p s m args c cX2_countToBeClear RX2 := E
  have hl : lv_has ls 1 [(0, .ref (ad Z (cRt w k)))] := hl
  refine lv_aload_n E.1 E.2.1 dX2_countToBeClear_0 rfl (lv_at hl 0 rfl) ?_
  refine g_rt (v := .int (S 22 k 0)) E hP hV hw (by omega) 2 (by decide) gw_98 rfl dX2_countToBeClear_1 ?_
  refine lv_if_eq (tgt := 14) E.1 E.2.1 dX2_countToBeClear_4 (by decide) (fun c_4 => ?_) (fun c_4 => ?_)
  · refine lv_iconst (v := 1) E.1 E.2.1 dX2_countToBeClear_14 (by decide) ?_
    exact e_iP E hr hlk (by simp [toClearF, c_4]) dX2_countToBeClear_15
  · refine lv_aload_n E.1 E.2.1 dX2_countToBeClear_7 rfl (lv_at hl 0 rfl) ?_
    refine g_rt (v := .int (S 23 k 0)) E hP hV hw (by omega) 3 (by decide) gw_99 rfl dX2_countToBeClear_8 ?_
    refine lv_goto (tgt := 15) E.1 E.2.1 dX2_countToBeClear_11 (by decide) ?_
    exact e_iP E hr hlk (by simp [toClearF, c_4]) dX2_countToBeClear_15

abbrev rm_X2_hasBlock : Room := { frames := 1, cells := 0, slots := 0, locals := 21 }
theorem k_X2_hasBlock : Card yX2_hasBlock cX2_hasBlock 3 (some .boolean) 1 := ⟨gw_142, gw_30, by decide +kernel, by decide +kernel⟩
set_option maxHeartbeats 4000000 in
set_option maxRecDepth 20000 in
theorem c_X2_hasBlock (l : Launch) {Z : Gm} {V : Nat → St} {w : Nat} {S : St} (hV : V w = S) (hw : w < 2) {k : Nat} (hk : k < 16) (b : Int32) : Met l yX2_hasBlock (.code yX2_hasBlock cX2_hasBlock 3 (some .boolean) :: gG) rm_X2_hasBlock (PW Z V [.ref (ad Z (cRt w k)), .int b]) (QP (some (.int (b2i (hasBlockF S k b (S 23 k 0).toNatClampNeg))))) 0 0 (fun _ => False) := by
  refine met_of (by decide +kernel) (Nat.le_of_ble_eq_true rfl) ?_
  intro p e s m args below meth c ls E hr hlk hml hP hl
  have E : EE Z p s m args c cX2_hasBlock RX2 := E
  have hl : lv_has ls 3 [(0, .ref (ad Z (cRt w k))), (1, .int b)] := hl
  have h31 := clamp_lt31 (S 23 k 0)
  refine lv_iconst (v := 0) E.1 E.2.1 dX2_hasBlock_0 (by decide) ?_
  refine lv_istore_n (lv' := [(2, .int 0), (0, .ref (ad Z (cRt w k))), (1, .int b)]) E.1 E.2.1 dX2_hasBlock_1 rfl hl (by decide) rfl (fun ls hl => ?_)
  have loop_2 : ∀ (n_2 : Nat) (i : Nat), (S 23 k 0).toNatClampNeg - i < n_2 → (hasBlockF S k b i = false) → (i ≤ (S 23 k 0).toNatClampNeg) → ∀ (ls : Array Slot), lv_has ls 3 [(2, .int (nI i)), (0, .ref (ad Z (cRt w k))), (1, .int b)] → W p l e rm_X2_hasBlock s m args below meth c s.heap [] 0 0 (MQ below (QP (some (.int (b2i (hasBlockF S k b (S 23 k 0).toNatClampNeg))))) args s 0 0 (fun _ => False)) (F0 m 2 ls []) := by
    intro n_2
    induction n_2 with
    | zero => intro i hm_2; exact absurd hm_2 (by omega)
    | succ n_2 ih_2 =>
      intro i hm_2 ha hi  ls hl
      refine lv_iload_n E.1 E.2.1 dX2_hasBlock_2 rfl (lv_at hl 0 rfl) ?_
      refine lv_aload_n E.1 E.2.1 dX2_hasBlock_3 rfl (lv_at hl 1 rfl) ?_
      refine g_rt (v := .int (S 23 k 0)) E hP hV hw (by omega) 3 (by decide) gw_99 rfl dX2_hasBlock_4 ?_
      refine lv_icmp_ge (tgt := 27) E.1 E.2.1 dX2_hasBlock_7 (by decide) (fun c_7 => ?_) (fun c_7 => ?_)
      · have hd : (S 23 k 0).toNatClampNeg ≤ i := lq1 (by omega) c_7
        refine lv_iconst (v := 0) E.1 E.2.1 dX2_hasBlock_27 (by decide) ?_
        exact e_zP E hr hlk (by rw [← show i = (S 23 k 0).toNatClampNeg from by omega, ha]; rfl) (Or.inl rfl) dX2_hasBlock_28
      · have hd : i < (S 23 k 0).toNatClampNeg := lq2 (by omega) c_7
        refine lv_aload_n E.1 E.2.1 dX2_hasBlock_10 rfl (lv_at hl 1 rfl) ?_
        refine lv_iload_n E.1 E.2.1 dX2_hasBlock_11 rfl (lv_at hl 0 rfl) ?_
        refine go_Pi (run_V (rest := []) E hml hl.1 (c_X2_blockAt l  hV hw (by omega) (nI i)) k_X2_blockAt ⟨rfl, rfl, Nat.le_of_ble_eq_true rfl, Nat.le_of_ble_eq_true rfl⟩ gw_143 gw_127 gw_128 hP (rv_rt E hP hw (by omega)) rfl rfl (Nat.le_of_ble_eq_true rfl) ⟨Nat.zero_le _, Nat.zero_le _⟩ dX2_hasBlock_12) ?_
        refine lv_iload_n E.1 E.2.1 dX2_hasBlock_15 rfl (lv_at hl 2 rfl) ?_
        refine lv_icmp_ne (tgt := 21) E.1 E.2.1 dX2_hasBlock_16 (by decide) (fun c_16 => ?_) (fun c_16 => ?_)
        · refine lv_iinc (v := (nI (i + 1))) (lv' := [(2, .int (nI (i + 1))), (0, .ref (ad Z (cRt w k))), (1, .int b)]) E.1 E.2.1 dX2_hasBlock_21 hl (k := 0) rfl (nI_1 _) (by decide) rfl (fun ls hl => ?_)
          refine lv_goto (tgt := 2) E.1 E.2.1 dX2_hasBlock_24 (by decide) ?_
          exact ih_2 (i + 1) (by omega) (by simp [hasBlockF, ha, c_7, c_16]) (by omega)  ls (lv_sub hl [0, 1, 2] rfl)
        · refine lv_iconst (v := 1) E.1 E.2.1 dX2_hasBlock_19 (by decide) ?_
          exact e_zP E hr hlk (by rw [hasB_true (i := i) hd (of_decide_eq_true (by simp [c_16]))]; rfl) (Or.inr rfl) dX2_hasBlock_20
  exact loop_2 ((S 23 k 0).toNatClampNeg + 1) 0 (by omega) rfl (Nat.zero_le _)  _ (lv_sub hl [0, 1, 2] rfl)
