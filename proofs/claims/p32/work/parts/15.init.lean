/-! The constructors of Block, Route, Train. -/
theorem k_X0_init : CardI yX0_init cX0_init 1 := ⟨gw_34, gw_28, by decide +kernel, by decide +kernel, rfl, gw_33⟩
theorem k_X2_init : CardI yX2_init cX2_init 1 := ⟨gw_39, gw_30, by decide +kernel, by decide +kernel, rfl, gw_38⟩
theorem k_X3_init : CardI yX3_init cX3_init 1 := ⟨gw_43, gw_32, by decide +kernel, by decide +kernel, rfl, gw_42⟩
theorem k_X1_init : CardI yX1_init cX1_init 2 := ⟨gw_17, gw_12, by decide +kernel, by decide +kernel, rfl, gw_16⟩
theorem k_X4_init : CardI yX4_init cX4_init 1 := ⟨gw_6, gw_2, by decide +kernel, by decide +kernel, rfl, gw_5⟩
set_option maxHeartbeats 4000000 in
set_option maxRecDepth 20000 in
theorem c_X0_init (l : Launch) (Z : Gm) (q : Nat) : Met l yX0_init (.code yX0_init cX0_init 1 none :: gG) ({ frames := 1, cells := 0, slots := 0, locals := 12 }) (PI Z [(q, .inr (0, [.int 0, .int 0, .int 0, .int 0]))] (q + 1) [.ref q]) (QI Z [(q, .inr (0, [.int 0, .int (-1), .int (-1), .int 0]))] (q + 1) q) 0 0 (fun x => q ≤ x) := by
  refine met_ofI (by decide +kernel) (Nat.le_of_ble_eq_true rfl) rfl ?_
  intro p e s m args below meth c ls E hX hin hr hlk hml hsz hP hl
  have E : EE Z p s m args c cX0_init RX0 := E
  have hl : lv_has ls 1 [(0, .ref q)] := hl
  have hS : va_S (fun z => q ≤ z) s.heap s.heap [] := va_S.rf
  have hz : s.heap.size = q + 1 := hsz
  refine lv_aload_n E.1 E.2.1 dX0_init_0 rfl (lv_at hl 0 rfl) ?_
  refine o_init E hml hl.1 gw_35 (Nat.le_of_ble_eq_true rfl) (Nat.le_of_ble_eq_true rfl) dX0_init_1 ?_
  refine lv_aload_n E.1 E.2.1 dX0_init_4 rfl (lv_at hl 0 rfl) ?_
  refine lv_iconst (v := (-1)) E.1 E.2.1 dX0_init_5 (by decide) ?_
  have hD : va_D (fun z => q ≤ z) [(q, .inr (0, [.int 0, .int 0, .int 0, .int 0]))] := D_seq q _ (fun k p h => by match k, h with | 0, h => cases h; rfl | k + 1, h => cases h)
  refine z_put E gC0 tyX0 tyX0_ok nmX0 hz hP hD hS 0 rfl rfl 1 (by decide) gw_36 rfl (fun h => by cases h) (ty := .int) (v := .int (-1)) (by decide +kernel) rfl rfl (Nat.le_of_ble_eq_true rfl) dX0_init_6 (fun H locs hz hP _ hS => ?_)
  have hP : va_P (gD Z) vwCl [(q, .inr (0, [.int 0, .int (-1), .int 0, .int 0]))] H := hP
  refine lv_aload_n E.1 E.2.1 dX0_init_9 rfl (lv_at hl 0 rfl) ?_
  refine lv_iconst (v := (-1)) E.1 E.2.1 dX0_init_10 (by decide) ?_
  have hD : va_D (fun z => q ≤ z) [(q, .inr (0, [.int 0, .int (-1), .int 0, .int 0]))] := D_seq q _ (fun k p h => by match k, h with | 0, h => cases h; rfl | k + 1, h => cases h)
  refine z_put E gC0 tyX0 tyX0_ok nmX0 hz hP hD hS 0 rfl rfl 2 (by decide) gw_37 rfl (fun h => by cases h) (ty := .int) (v := .int (-1)) (by decide +kernel) rfl rfl (Nat.le_of_ble_eq_true rfl) dX0_init_11 (fun H locs hz hP _ hS => ?_)
  have hP : va_P (gD Z) vwCl [(q, .inr (0, [.int 0, .int (-1), .int (-1), .int 0]))] H := hP
  exact W.vret E.1 E.2.1 hr (fun t ht _ => ⟨rfl, by rw [ht]; exact hz, by rw [ht]; exact hP, fun x hx => by rw [ht]; exact hS.2.1 x (by omega) (Nat.not_le.mpr hx)⟩) hS.2.2 dX0_init_14 (hlocks := hlk)
set_option maxHeartbeats 4000000 in
set_option maxRecDepth 20000 in
theorem c_X2_init (l : Launch) (Z : Gm) (q : Nat) : Met l yX2_init (.code yX2_init cX2_init 1 none :: gG) ({ frames := 1, cells := 1, slots := 5, locals := 12 }) (PI Z [(q, .inr (2, [.int 0, .int 0, .int 0, .int 0, .null]))] (q + 1) [.ref q]) (QI Z [(q, .inr (2, [.int 0, .int 0, .int 0, .int 0, .ref (q + 1)])), (q + 1, .inl (Z.2.2.1, 5, .inl (fun _ => 0)))] (q + 2) q) 1 5 (fun x => q ≤ x) := by
  refine met_ofI (by decide +kernel) (Nat.le_of_ble_eq_true rfl) rfl ?_
  intro p e s m args below meth c ls E hX hin hr hlk hml hsz hP hl
  have E : EE Z p s m args c cX2_init RX2 := E
  have hl : lv_has ls 1 [(0, .ref q)] := hl
  have hS : va_S (fun z => q ≤ z) s.heap s.heap [] := va_S.rf
  have hz : s.heap.size = q + 1 := hsz
  refine lv_aload_n E.1 E.2.1 dX2_init_0 rfl (lv_at hl 0 rfl) ?_
  refine o_init E hml hl.1 gw_40 (Nat.le_of_ble_eq_true rfl) (Nat.le_of_ble_eq_true rfl) dX2_init_1 ?_
  refine lv_aload_n E.1 E.2.1 dX2_init_4 rfl (lv_at hl 0 rfl) ?_
  refine lv_iconst (v := 5) E.1 E.2.1 dX2_init_5 (by decide) ?_
  refine n_int (n := 5) E hP hS gw_3 (by decide) rfl (by decide) (Nat.le_of_ble_eq_true rfl) (Nat.le_of_ble_eq_true rfl) dX2_init_6 (h := q + 1) hz (fun H hz hP hS => ?_)
  have hP : va_P (gD Z) vwCl [(q, .inr (2, [.int 0, .int 0, .int 0, .int 0, .null])), (q + 1, .inl (Z.2.2.1, 5, .inl (fun _ => 0)))] H := hP
  have hz : H.size = q + 2 := hz
  have hD : va_D (fun z => q ≤ z) [(q, .inr (2, [.int 0, .int 0, .int 0, .int 0, .null])), (q + 1, .inl (Z.2.2.1, 5, .inl (fun _ => 0)))] := D_seq q _ (fun k p h => by match k, h with | 0, h => cases h; rfl | 1, h => cases h; rfl | k + 2, h => cases h)
  refine z_put E gC2 tyX2 tyX2_ok nmX2 hz hP hD hS 0 rfl rfl 4 (by decide) gw_41 rfl (fun _ => ⟨hin, rfl⟩) (ty := .array .int) (v := .ref (q + 1)) (by decide +kernel) rfl rfl (Nat.le_of_ble_eq_true rfl) dX2_init_8 (fun H locs hz hP _ hS => ?_)
  have hP : va_P (gD Z) vwCl [(q, .inr (2, [.int 0, .int 0, .int 0, .int 0, .ref (q + 1)])), (q + 1, .inl (Z.2.2.1, 5, .inl (fun _ => 0)))] H := hP
  exact W.vret E.1 E.2.1 hr (fun t ht _ => ⟨rfl, by rw [ht]; exact hz, by rw [ht]; exact hP, fun x hx => by rw [ht]; exact hS.2.1 x (by omega) (Nat.not_le.mpr hx)⟩) hS.2.2 dX2_init_11 (hlocks := hlk)
set_option maxHeartbeats 4000000 in
set_option maxRecDepth 20000 in
theorem c_X3_init (l : Launch) (Z : Gm) (q : Nat) : Met l yX3_init (.code yX3_init cX3_init 1 none :: gG) ({ frames := 1, cells := 3, slots := 24, locals := 12 }) (PI Z [(q, .inr (3, [.int 0, .int 0, .int 0, .null, .null, .int 0, .int 0, .int 0, .int 0, .int 0, .int 0, .int 0, .int 0, .int 0, .int 0, .null]))] (q + 1) [.ref q]) (QI Z [(q, .inr (3, [.int 0, .int 0, .int 0, .ref (q + 1), .ref (q + 2), .int 0, .int (-1), .int 0, .int (-1), .int 0, .int 0, .int 0, .int 0, .int 0, .int (-1), .ref (q + 3)])), (q + 1, .inl (Z.2.2.1, 8, .inl (fun _ => 0))), (q + 2, .inl (Z.2.2.1, 8, .inl (fun _ => 0))), (q + 3, .inl (Z.2.2.1, 8, .inl (fun _ => 0)))] (q + 4) q) 3 24 (fun x => q ≤ x) := by
  refine met_ofI (by decide +kernel) (Nat.le_of_ble_eq_true rfl) rfl ?_
  intro p e s m args below meth c ls E hX hin hr hlk hml hsz hP hl
  have E : EE Z p s m args c cX3_init RX3 := E
  have hl : lv_has ls 1 [(0, .ref q)] := hl
  have hS : va_S (fun z => q ≤ z) s.heap s.heap [] := va_S.rf
  have hz : s.heap.size = q + 1 := hsz
  refine lv_aload_n E.1 E.2.1 dX3_init_0 rfl (lv_at hl 0 rfl) ?_
  refine o_init E hml hl.1 gw_44 (Nat.le_of_ble_eq_true rfl) (Nat.le_of_ble_eq_true rfl) dX3_init_1 ?_
  refine lv_aload_n E.1 E.2.1 dX3_init_4 rfl (lv_at hl 0 rfl) ?_
  refine lv_bipush (v := 8) E.1 E.2.1 dX3_init_5 (by decide) ?_
  refine n_int (n := 8) E hP hS gw_3 (by decide) rfl (by decide) (Nat.le_of_ble_eq_true rfl) (Nat.le_of_ble_eq_true rfl) dX3_init_7 (h := q + 1) hz (fun H hz hP hS => ?_)
  have hP : va_P (gD Z) vwCl [(q, .inr (3, [.int 0, .int 0, .int 0, .null, .null, .int 0, .int 0, .int 0, .int 0, .int 0, .int 0, .int 0, .int 0, .int 0, .int 0, .null])), (q + 1, .inl (Z.2.2.1, 8, .inl (fun _ => 0)))] H := hP
  have hz : H.size = q + 2 := hz
  have hD : va_D (fun z => q ≤ z) [(q, .inr (3, [.int 0, .int 0, .int 0, .null, .null, .int 0, .int 0, .int 0, .int 0, .int 0, .int 0, .int 0, .int 0, .int 0, .int 0, .null])), (q + 1, .inl (Z.2.2.1, 8, .inl (fun _ => 0)))] := D_seq q _ (fun k p h => by match k, h with | 0, h => cases h; rfl | 1, h => cases h; rfl | k + 2, h => cases h)
  refine z_put E gC3 tyX3 tyX3_ok nmX3 hz hP hD hS 0 rfl rfl 3 (by decide) gw_45 rfl (fun _ => ⟨hin, rfl⟩) (ty := .array .int) (v := .ref (q + 1)) (by decide +kernel) rfl rfl (Nat.le_of_ble_eq_true rfl) dX3_init_9 (fun H locs hz hP _ hS => ?_)
  have hP : va_P (gD Z) vwCl [(q, .inr (3, [.int 0, .int 0, .int 0, .ref (q + 1), .null, .int 0, .int 0, .int 0, .int 0, .int 0, .int 0, .int 0, .int 0, .int 0, .int 0, .null])), (q + 1, .inl (Z.2.2.1, 8, .inl (fun _ => 0)))] H := hP
  refine lv_aload_n E.1 E.2.1 dX3_init_12 rfl (lv_at hl 0 rfl) ?_
  refine lv_bipush (v := 8) E.1 E.2.1 dX3_init_13 (by decide) ?_
  refine n_int (n := 8) E hP hS gw_3 (by decide) rfl (by decide) (Nat.le_of_ble_eq_true rfl) (Nat.le_of_ble_eq_true rfl) dX3_init_15 (h := q + 2) hz (fun H hz hP hS => ?_)
  have hP : va_P (gD Z) vwCl [(q, .inr (3, [.int 0, .int 0, .int 0, .ref (q + 1), .null, .int 0, .int 0, .int 0, .int 0, .int 0, .int 0, .int 0, .int 0, .int 0, .int 0, .null])), (q + 1, .inl (Z.2.2.1, 8, .inl (fun _ => 0))), (q + 2, .inl (Z.2.2.1, 8, .inl (fun _ => 0)))] H := hP
  have hz : H.size = q + 3 := hz
  have hD : va_D (fun z => q ≤ z) [(q, .inr (3, [.int 0, .int 0, .int 0, .ref (q + 1), .null, .int 0, .int 0, .int 0, .int 0, .int 0, .int 0, .int 0, .int 0, .int 0, .int 0, .null])), (q + 1, .inl (Z.2.2.1, 8, .inl (fun _ => 0))), (q + 2, .inl (Z.2.2.1, 8, .inl (fun _ => 0)))] := D_seq q _ (fun k p h => by match k, h with | 0, h => cases h; rfl | 1, h => cases h; rfl | 2, h => cases h; rfl | k + 3, h => cases h)
  refine z_put E gC3 tyX3 tyX3_ok nmX3 hz hP hD hS 0 rfl rfl 4 (by decide) gw_46 rfl (fun _ => ⟨hin, rfl⟩) (ty := .array .int) (v := .ref (q + 2)) (by decide +kernel) rfl rfl (Nat.le_of_ble_eq_true rfl) dX3_init_17 (fun H locs hz hP _ hS => ?_)
  have hP : va_P (gD Z) vwCl [(q, .inr (3, [.int 0, .int 0, .int 0, .ref (q + 1), .ref (q + 2), .int 0, .int 0, .int 0, .int 0, .int 0, .int 0, .int 0, .int 0, .int 0, .int 0, .null])), (q + 1, .inl (Z.2.2.1, 8, .inl (fun _ => 0))), (q + 2, .inl (Z.2.2.1, 8, .inl (fun _ => 0)))] H := hP
  refine lv_aload_n E.1 E.2.1 dX3_init_20 rfl (lv_at hl 0 rfl) ?_
  refine lv_iconst (v := (-1)) E.1 E.2.1 dX3_init_21 (by decide) ?_
  have hD : va_D (fun z => q ≤ z) [(q, .inr (3, [.int 0, .int 0, .int 0, .ref (q + 1), .ref (q + 2), .int 0, .int 0, .int 0, .int 0, .int 0, .int 0, .int 0, .int 0, .int 0, .int 0, .null])), (q + 1, .inl (Z.2.2.1, 8, .inl (fun _ => 0))), (q + 2, .inl (Z.2.2.1, 8, .inl (fun _ => 0)))] := D_seq q _ (fun k p h => by match k, h with | 0, h => cases h; rfl | 1, h => cases h; rfl | 2, h => cases h; rfl | k + 3, h => cases h)
  refine z_put E gC3 tyX3 tyX3_ok nmX3 hz hP hD hS 0 rfl rfl 6 (by decide) gw_47 rfl (fun h => by cases h) (ty := .int) (v := .int (-1)) (by decide +kernel) rfl rfl (Nat.le_of_ble_eq_true rfl) dX3_init_22 (fun H locs hz hP _ hS => ?_)
  have hP : va_P (gD Z) vwCl [(q, .inr (3, [.int 0, .int 0, .int 0, .ref (q + 1), .ref (q + 2), .int 0, .int (-1), .int 0, .int 0, .int 0, .int 0, .int 0, .int 0, .int 0, .int 0, .null])), (q + 1, .inl (Z.2.2.1, 8, .inl (fun _ => 0))), (q + 2, .inl (Z.2.2.1, 8, .inl (fun _ => 0)))] H := hP
  refine lv_aload_n E.1 E.2.1 dX3_init_25 rfl (lv_at hl 0 rfl) ?_
  refine lv_iconst (v := (-1)) E.1 E.2.1 dX3_init_26 (by decide) ?_
  have hD : va_D (fun z => q ≤ z) [(q, .inr (3, [.int 0, .int 0, .int 0, .ref (q + 1), .ref (q + 2), .int 0, .int (-1), .int 0, .int 0, .int 0, .int 0, .int 0, .int 0, .int 0, .int 0, .null])), (q + 1, .inl (Z.2.2.1, 8, .inl (fun _ => 0))), (q + 2, .inl (Z.2.2.1, 8, .inl (fun _ => 0)))] := D_seq q _ (fun k p h => by match k, h with | 0, h => cases h; rfl | 1, h => cases h; rfl | 2, h => cases h; rfl | k + 3, h => cases h)
  refine z_put E gC3 tyX3 tyX3_ok nmX3 hz hP hD hS 0 rfl rfl 8 (by decide) gw_48 rfl (fun h => by cases h) (ty := .int) (v := .int (-1)) (by decide +kernel) rfl rfl (Nat.le_of_ble_eq_true rfl) dX3_init_27 (fun H locs hz hP _ hS => ?_)
  have hP : va_P (gD Z) vwCl [(q, .inr (3, [.int 0, .int 0, .int 0, .ref (q + 1), .ref (q + 2), .int 0, .int (-1), .int 0, .int (-1), .int 0, .int 0, .int 0, .int 0, .int 0, .int 0, .null])), (q + 1, .inl (Z.2.2.1, 8, .inl (fun _ => 0))), (q + 2, .inl (Z.2.2.1, 8, .inl (fun _ => 0)))] H := hP
  refine lv_aload_n E.1 E.2.1 dX3_init_30 rfl (lv_at hl 0 rfl) ?_
  refine lv_iconst (v := (-1)) E.1 E.2.1 dX3_init_31 (by decide) ?_
  have hD : va_D (fun z => q ≤ z) [(q, .inr (3, [.int 0, .int 0, .int 0, .ref (q + 1), .ref (q + 2), .int 0, .int (-1), .int 0, .int (-1), .int 0, .int 0, .int 0, .int 0, .int 0, .int 0, .null])), (q + 1, .inl (Z.2.2.1, 8, .inl (fun _ => 0))), (q + 2, .inl (Z.2.2.1, 8, .inl (fun _ => 0)))] := D_seq q _ (fun k p h => by match k, h with | 0, h => cases h; rfl | 1, h => cases h; rfl | 2, h => cases h; rfl | k + 3, h => cases h)
  refine z_put E gC3 tyX3 tyX3_ok nmX3 hz hP hD hS 0 rfl rfl 14 (by decide) gw_49 rfl (fun h => by cases h) (ty := .int) (v := .int (-1)) (by decide +kernel) rfl rfl (Nat.le_of_ble_eq_true rfl) dX3_init_32 (fun H locs hz hP _ hS => ?_)
  have hP : va_P (gD Z) vwCl [(q, .inr (3, [.int 0, .int 0, .int 0, .ref (q + 1), .ref (q + 2), .int 0, .int (-1), .int 0, .int (-1), .int 0, .int 0, .int 0, .int 0, .int 0, .int (-1), .null])), (q + 1, .inl (Z.2.2.1, 8, .inl (fun _ => 0))), (q + 2, .inl (Z.2.2.1, 8, .inl (fun _ => 0)))] H := hP
  refine lv_aload_n E.1 E.2.1 dX3_init_35 rfl (lv_at hl 0 rfl) ?_
  refine lv_bipush (v := 8) E.1 E.2.1 dX3_init_36 (by decide) ?_
  refine n_int (n := 8) E hP hS gw_3 (by decide) rfl (by decide) (Nat.le_of_ble_eq_true rfl) (Nat.le_of_ble_eq_true rfl) dX3_init_38 (h := q + 3) hz (fun H hz hP hS => ?_)
  have hP : va_P (gD Z) vwCl [(q, .inr (3, [.int 0, .int 0, .int 0, .ref (q + 1), .ref (q + 2), .int 0, .int (-1), .int 0, .int (-1), .int 0, .int 0, .int 0, .int 0, .int 0, .int (-1), .null])), (q + 1, .inl (Z.2.2.1, 8, .inl (fun _ => 0))), (q + 2, .inl (Z.2.2.1, 8, .inl (fun _ => 0))), (q + 3, .inl (Z.2.2.1, 8, .inl (fun _ => 0)))] H := hP
  have hz : H.size = q + 4 := hz
  have hD : va_D (fun z => q ≤ z) [(q, .inr (3, [.int 0, .int 0, .int 0, .ref (q + 1), .ref (q + 2), .int 0, .int (-1), .int 0, .int (-1), .int 0, .int 0, .int 0, .int 0, .int 0, .int (-1), .null])), (q + 1, .inl (Z.2.2.1, 8, .inl (fun _ => 0))), (q + 2, .inl (Z.2.2.1, 8, .inl (fun _ => 0))), (q + 3, .inl (Z.2.2.1, 8, .inl (fun _ => 0)))] := D_seq q _ (fun k p h => by match k, h with | 0, h => cases h; rfl | 1, h => cases h; rfl | 2, h => cases h; rfl | 3, h => cases h; rfl | k + 4, h => cases h)
  refine z_put E gC3 tyX3 tyX3_ok nmX3 hz hP hD hS 0 rfl rfl 15 (by decide) gw_50 rfl (fun _ => ⟨hin, rfl⟩) (ty := .array .int) (v := .ref (q + 3)) (by decide +kernel) rfl rfl (Nat.le_of_ble_eq_true rfl) dX3_init_40 (fun H locs hz hP _ hS => ?_)
  have hP : va_P (gD Z) vwCl [(q, .inr (3, [.int 0, .int 0, .int 0, .ref (q + 1), .ref (q + 2), .int 0, .int (-1), .int 0, .int (-1), .int 0, .int 0, .int 0, .int 0, .int 0, .int (-1), .ref (q + 3)])), (q + 1, .inl (Z.2.2.1, 8, .inl (fun _ => 0))), (q + 2, .inl (Z.2.2.1, 8, .inl (fun _ => 0))), (q + 3, .inl (Z.2.2.1, 8, .inl (fun _ => 0)))] H := hP
  exact W.vret E.1 E.2.1 hr (fun t ht _ => ⟨rfl, by rw [ht]; exact hz, by rw [ht]; exact hP, fun x hx => by rw [ht]; exact hS.2.1 x (by omega) (Nat.not_le.mpr hx)⟩) hS.2.2 dX3_init_43 (hlocks := hlk)
