/-! The law builds: the order, the trains. -/
section BUILDLAW
theorem ad_nI {a c : Nat} : nI a + nI c = nI (a + c) := nI_add a c
theorem Bld_at {S : St} {nb r n : Nat} (B : Bld nb r n S) (hn : n ≤ 5) : nT S = n := by
  unfold nT
  rw [B.2.2.1, nI_clamp (by omega)]
theorem Bld_lim {S : St} {nb r n : Nat} (B : Bld nb r n S) (hb : nb ≤ 16) (hr : r ≤ 8) (hn : n ≤ 5) : Lim S := by
  unfold Lim nB nR nT
  rw [B.1, B.2.1, B.2.2.1, nI_clamp (by omega), nI_clamp (by omega), nI_clamp (by omega)]
  omega
theorem Bld_room {S : St} {nb r n y : Nat} (B : Bld nb r n S) (hn : n ≤ 5) (hy : y < 6) (h : cntTo (atQ S (nI y)) n < 2) : hasRoomF S (nI y) = true := by
  have F := B.2.2.2.2.2.2.1
  have i38 : ∀ x, S 38 x 0 = -1 := fun x => F 38 x 0 (by unfold wrt; omega)
  have i0 : S 0 0 y = 2 := (F 0 0 y (by unfold wrt; omega)).trans (if_pos hy)
  unfold hasRoomF
  rw [if_neg (nI_pos (by omega)), if_neg (show ¬ (6 : Int32) ≤ nI y from le_no (a := 6) (by omega) (by omega)), nI_clamp (by omega), Bld_at B hn, i0, cnt_z (f := wayQ S (nI y)) n (fun k _ => wayQ_off (i38 k)), nI_add]
  exact decide_eq_true (show ¬ (2 : Int32) ≤ nI (cntTo (atQ S (nI y)) n + 0) from le_no (a := 2) (by omega) (by omega))
theorem rem3 (y : Nat) (h : y < 1000) : nI y - nI y / 3 * 3 = nI (y % 3) := pk_rem (a := y) (d := 3) (by omega) (by omega) (by omega)
theorem rem2 (y : Nat) (h : y < 1000) : nI y - nI y / 2 * 2 = nI (y % 2) := pk_rem (a := y) (d := 2) (by omega) (by omega) (by omega)
theorem div3 (y : Nat) (h : y < 1000) : nI y / 3 = nI (y / 3) := pk_div (a := y) (d := 3) (by omega) (by omega) (by omega)
set_option maxHeartbeats 4000000 in
set_option maxRecDepth 20000 in
theorem law_392 {p : Program} {e : Env} {s : State} {m : MethodId} {b : Nat} {below : List Frame} {meth : Method} {c : Code} {Z : Gm} {L : Nat} {xs : Nat → Int32} (l : Launch) (X : LC Z p s m c b L xs) (hr : meth.sig.returnType = ret) (hlk : meth.locks = false) {S : St} {nb n : Nat} (B : Bld nb 8 n S) (hb : nb ≤ 16) (hn5 : n ≤ 5) {V : Nat → St} (hV : V 0 = S) (hV1 : V 1 = initS) {H : Heap} {locs : List Loc} (h : LH Z V [] s H locs) {ls : Array Slot} (hl : lv_has ls 22 [(0, .ref b), (1, .ref (ad Z 0)), (2, .int (nI nb)), (3, .int (nI n))]) : W p l e room_1 s m #[Value.ref b] below meth c H locs 171 1202 (lw_Z below #[Value.ref b] s) (F0 m 392 ls []) := by
  obtain ⟨C, I, hW, hU⟩ := Bld_end B hb hn5
  refine lv_iconst (v := 5) X.1.1 X.1.2.1 dL_law_392 (by decide) ?_
  refine L_new X h (Nat.le_of_ble_eq_true rfl) (Nat.le_of_ble_eq_true rfl) dL_law_393 (fun H aW hA hB2 h => ?_)
  have h : LH Z V [(aW, .inl (Z.2.2.1, 5, .inl fun _ => 0))] s H locs := h
  refine lv_astore (lv' := [(4, .ref aW), (0, .ref b), (1, .ref (ad Z 0)), (2, .int (nI nb)), (3, .int (nI n))]) X.1.1 X.1.2.1 dL_law_395 hl (by decide) rfl (fun ls hl => ?_)
  refine lv_iconst (v := 0) X.1.1 X.1.2.1 dL_law_397 (by decide) ?_
  refine lv_istore (lv' := [(5, .int 0), (4, .ref aW), (0, .ref b), (1, .ref (ad Z 0)), (2, .int (nI nb)), (3, .int (nI n))]) X.1.1 X.1.2.1 dL_law_398 hl (by decide) rfl (fun ls hl => ?_)
  exact law_turns l X hr hlk C 25 0 (by omega) (by omega) S V (fun _ => 0) (fun _ => 0) H locs ls I hV (fun f k j q => by rw [hV1]; exact hU f k j q) h (fun j hj => ⟨rfl, Nat.le_refl 0, hW j hj⟩) (lv_sub hl [2, 3, 4, 5, 1, 0] rfl)
set_option maxHeartbeats 4000000 in
set_option maxRecDepth 20000 in
theorem law_367 {p : Program} {e : Env} {s : State} {m : MethodId} {b : Nat} {below : List Frame} {meth : Method} {c : Code} {Z : Gm} {L : Nat} {xs : Nat → Int32} (l : Launch) (X : LC Z p s m c b L xs) (hr : meth.sig.returnType = ret) (hlk : meth.locks = false) {S : St} {nb n : Nat} (B : Bld nb 8 n S) (hb : nb ≤ 16) (hn5 : n ≤ 5) {V : Nat → St} (hV : V 0 = S) (hV1 : V 1 = initS) {H : Heap} {locs : List Loc} (h : LH Z V [] s H locs) {ls : Array Slot} (hl : lv_has ls 22 [(0, .ref b), (1, .ref (ad Z 0)), (2, .int (nI nb)), (3, .int (nI n))]) : W p l e room_1 s m #[Value.ref b] below meth c H locs 171 1202 (lw_Z below #[Value.ref b] s) (F0 m 367 ls []) := by
  have hf : 171 ≤ 630607 ∧ 1202 ≤ 7209803 := ⟨Nat.le_of_ble_eq_true rfl, Nat.le_of_ble_eq_true rfl⟩
  refine lv_aload_n X.1.1 X.1.2.1 dL_law_367 rfl (lv_at hl 1 rfl) ?_
  refine lv_aload_n X.1.1 X.1.2.1 dL_law_368 rfl (lv_at hl 0 rfl) ?_
  refine lv_bipush (v := 13) X.1.1 X.1.2.1 dL_law_369 (by decide) ?_
  refine L_cell (rest := [.ref (ad Z 0)]) X h hl.1 (k := 13) (by omega) (Nat.le_of_ble_eq_true rfl) hf dL_law_371 ?_
  refine lv_iconst (v := 3) X.1.1 X.1.2.1 dL_law_374 (by decide) ?_
  refine L_below (rest := [.ref (ad Z 0)]) X h hl.1 (n := 3) (by decide) (by decide) (Nat.le_of_ble_eq_true rfl) hf dL_law_375 ?_
  refine lv_aload_n X.1.1 X.1.2.1 dL_law_378 rfl (lv_at hl 0 rfl) ?_
  refine lv_bipush (v := 14) X.1.1 X.1.2.1 dL_law_379 (by decide) ?_
  refine L_cell (rest := [.int (nI (belowF (cellF L xs 13) 3)), .ref (ad Z 0)]) X h hl.1 (k := 14) (by omega) (Nat.le_of_ble_eq_true rfl) hf dL_law_381 ?_
  refine lv_iconst (v := 4) X.1.1 X.1.2.1 dL_law_384 (by decide) ?_
  refine L_below (rest := [.int (nI (belowF (cellF L xs 13) 3)), .ref (ad Z 0)]) X h hl.1 (n := 4) (by decide) (by decide) (Nat.le_of_ble_eq_true rfl) hf dL_law_385 ?_
  refine L_order (rest := []) X h hl.1 hV (by have := below_lt (cellF L xs 13) (n := 3) (by decide); omega) (by have := below_lt (cellF L xs 14) (n := 4) (by decide); omega) (Nat.le_of_ble_eq_true rfl) hf dL_law_388 (fun H locs h => ?_)
  refine lv_pop X.1.1 X.1.2.1 dL_law_391 rfl ?_
  exact law_392 l X hr hlk (Bld_order (x := nI (belowF (cellF L xs 13) 3)) (y := nI (belowF (cellF L xs 14) 4)) B) hb hn5 (upL_same _ _ _) ((upL_ne (by decide)).trans hV1) h (lv_sub hl [0, 1, 2, 3] rfl)
set_option maxHeartbeats 4000000 in
set_option maxRecDepth 20000 in
theorem law_216 {p : Program} {e : Env} {s : State} {m : MethodId} {b : Nat} {below : List Frame} {meth : Method} {c : Code} {Z : Gm} {L : Nat} {xs : Nat → Int32} (l : Launch) (X : LC Z p s m c b L xs) (hr : meth.sig.returnType = ret) (hlk : meth.locks = false) {nb : Nat} (hb : nb ≤ 16) :
    ∀ (f k : Nat), 5 - k < f → k ≤ 5 → ∀ (n : Nat) (S : St) (V : Nat → St) (H : Heap) (locs : List Loc) (ls : Array Slot), n ≤ k → Bld nb 8 n S → V 0 = S → V 1 = initS → LH Z V [] s H locs → lv_has ls 22 [(0, .ref b), (1, .ref (ad Z 0)), (2, .int (nI nb)), (3, .int (nI n)), (4, .int (nI k))] → W p l e room_1 s m #[Value.ref b] below meth c H locs 171 1202 (lw_Z below #[Value.ref b] s) (F0 m 216 ls []) := by
  have hf : 171 ≤ 630607 ∧ 1202 ≤ 7209803 := ⟨Nat.le_of_ble_eq_true rfl, Nat.le_of_ble_eq_true rfl⟩
  intro f
  induction f with
  | zero => intro k hm; exact absurd hm (by omega)
  | succ f ih =>
    intro k hm hk5 n S V H locs ls hnk B hV hV1 h hl
    refine lv_iload X.1.1 X.1.2.1 dL_law_216 (lv_at hl 4 rfl) ?_
    refine lv_iconst (v := 5) X.1.1 X.1.2.1 dL_law_218 (by decide) ?_
    refine lv_icmp_ge (tgt := 367) X.1.1 X.1.2.1 dL_law_219 (by decide) (fun c_219 => ?_) (fun c_219 => ?_)
    · exact law_367 l X hr hlk B hb (by omega) hV hV1 h (lv_sub hl [0, 1, 2, 3] rfl)
    · have hk : k < 5 := Nat.not_le.mp fun q => c_219 (nI_le (a := 5) q (by omega))
      have hL := Bld_lim B hb (by omega) (by omega)
      have hst := below_lt (cellF L xs (8 + k)) (n := 3) (by decide)
      refine lv_aload_n X.1.1 X.1.2.1 dL_law_222 rfl (lv_at hl 0 rfl) ?_
      refine lv_bipush (v := 8) X.1.1 X.1.2.1 dL_law_223 (by decide) ?_
      refine lv_iload X.1.1 X.1.2.1 dL_law_225 (lv_at hl 4 rfl) ?_
      refine lv_iadd X.1.1 X.1.2.1 dL_law_227 ?_
      rw [show (8 + (nI k) : Int32) = (nI (8 + k)) from nI_add 8 k]
      refine L_cell (rest := []) X h hl.1 (k := 8 + k) (by omega) (Nat.le_of_ble_eq_true rfl) hf dL_law_228 ?_
      refine lv_istore (lv' := [(5, .int (cellF L xs (8 + k))), (0, .ref b), (1, .ref (ad Z 0)), (2, .int (nI nb)), (3, .int (nI n)), (4, .int (nI k))]) X.1.1 X.1.2.1 dL_law_231 hl (by decide) rfl (fun ls hl => ?_)
      refine lv_iload X.1.1 X.1.2.1 dL_law_233 (lv_at hl 0 rfl) ?_
      refine lv_iconst (v := 3) X.1.1 X.1.2.1 dL_law_235 (by decide) ?_
      refine L_below (rest := []) X h hl.1 (n := 3) (by decide) (by decide) (Nat.le_of_ble_eq_true rfl) hf dL_law_236 ?_
      refine lv_istore (lv' := [(6, .int (nI (belowF (cellF L xs (8 + k)) 3))), (5, .int (cellF L xs (8 + k))), (0, .ref b), (1, .ref (ad Z 0)), (2, .int (nI nb)), (3, .int (nI n)), (4, .int (nI k))]) X.1.1 X.1.2.1 dL_law_239 hl (by decide) rfl (fun ls hl => ?_)
      refine lv_aload_n X.1.1 X.1.2.1 dL_law_241 rfl (lv_at hl 3 rfl) ?_
      refine lv_iload X.1.1 X.1.2.1 dL_law_242 (lv_at hl 0 rfl) ?_
      refine lv_iconst (v := 1) X.1.1 X.1.2.1 dL_law_244 (by decide) ?_
      refine L_station (rest := []) X h hl.1 hV hL (k := (belowF (cellF L xs (8 + k)) 3)) (by omega) (j := 1) (by decide) (v := (nI (cntTo (atQ S (nI (belowF (cellF L xs (8 + k)) 3))) n))) (by show nI (cntTo (atQ S (nI (belowF (cellF L xs (8 + k)) 3))) (nT S)) = _; rw [Bld_at B (by omega)]) (Nat.le_of_ble_eq_true rfl) hf dL_law_245 ?_
      refine lv_iconst (v := 2) X.1.1 X.1.2.1 dL_law_248 (by decide) ?_
      refine lv_icmp_ne (tgt := 255) X.1.1 X.1.2.1 dL_law_249 (by decide) (fun c_249 => ?_) (fun c_249 => ?_)
      · have hcnt : cntTo (atQ S (nI (belowF (cellF L xs (8 + k)) 3))) n < 2 := by
          have h2 := B.2.2.2.2.2.2.2 (belowF (cellF L xs (8 + k)) 3) (by omega)
          have h3 : cntTo (atQ S (nI (belowF (cellF L xs (8 + k)) 3))) n ≠ 2 := fun e => c_249 (by rw [e]; rfl)
          omega
        refine lv_aload_n X.1.1 X.1.2.1 dL_law_255 rfl (lv_at hl 3 rfl) ?_
        refine lv_iload X.1.1 X.1.2.1 dL_law_256 (lv_at hl 1 rfl) ?_
        refine lv_iconst (v := 2) X.1.1 X.1.2.1 dL_law_258 (by decide) ?_
        refine lv_ishr X.1.1 X.1.2.1 dL_law_259 ?_
        refine lv_bipush (v := 10) X.1.1 X.1.2.1 dL_law_260 (by decide) ?_
        refine L_below (rest := [.ref (ad Z 0)]) X h hl.1 (n := 10) (by decide) (by decide) (Nat.le_of_ble_eq_true rfl) hf dL_law_262 ?_
        refine lv_iconst (v := 1) X.1.1 X.1.2.1 dL_law_265 (by decide) ?_
        refine lv_iload X.1.1 X.1.2.1 dL_law_266 (lv_at hl 1 rfl) ?_
        refine lv_iconst (v := 3) X.1.1 X.1.2.1 dL_law_268 (by decide) ?_
        refine lv_ishr X.1.1 X.1.2.1 dL_law_269 ?_
        refine lv_iconst (v := 3) X.1.1 X.1.2.1 dL_law_270 (by decide) ?_
        refine L_below (rest := [.int 1, .int (nI (belowF ((cellF L xs (8 + k)) >>> ((2 : Int32) &&& 31)) 10)), .ref (ad Z 0)]) X h hl.1 (n := 3) (by decide) (by decide) (Nat.le_of_ble_eq_true rfl) hf dL_law_271 ?_
        refine lv_iadd X.1.1 X.1.2.1 dL_law_274 ?_
        rw [show (1 + (nI (belowF ((cellF L xs (8 + k)) >>> ((3 : Int32) &&& 31)) 3)) : Int32) = (nI (1 + (belowF ((cellF L xs (8 + k)) >>> ((3 : Int32) &&& 31)) 3))) from nI_add 1 _]
        refine lv_iload X.1.1 X.1.2.1 dL_law_275 (lv_at hl 0 rfl) ?_
        refine lv_iload X.1.1 X.1.2.1 dL_law_277 (lv_at hl 1 rfl) ?_
        refine lv_iconst (v := 4) X.1.1 X.1.2.1 dL_law_279 (by decide) ?_
        refine lv_ishr X.1.1 X.1.2.1 dL_law_280 ?_
        refine lv_iconst (v := 4) X.1.1 X.1.2.1 dL_law_281 (by decide) ?_
        refine L_below (rest := [.int (nI (belowF (cellF L xs (8 + k)) 3)), .int (nI (1 + (belowF ((cellF L xs (8 + k)) >>> ((3 : Int32) &&& 31)) 3))), .int (nI (belowF ((cellF L xs (8 + k)) >>> ((2 : Int32) &&& 31)) 10)), .ref (ad Z 0)]) X h hl.1 (n := 4) (by decide) (by decide) (Nat.le_of_ble_eq_true rfl) hf dL_law_282 ?_
        refine L_train (rest := []) X h hl.1 hV hL (by have := below_lt ((cellF L xs (8 + k)) >>> ((2 : Int32) &&& 31)) (n := 10) (by decide); omega) (by omega) (by have := below_lt ((cellF L xs (8 + k)) >>> ((3 : Int32) &&& 31)) (n := 3) (by decide); omega) (show (belowF (cellF L xs (8 + k)) 3) < 6 by omega) (by have := below_lt ((cellF L xs (8 + k)) >>> ((4 : Int32) &&& 31)) (n := 4) (by decide); omega) B.2.2.1 (by omega) (Bld_room B (by omega) (by omega) hcnt) (Nat.le_of_ble_eq_true rfl) hf dL_law_285 (fun H locs h => ?_)
        refine lv_iload_n X.1.1 X.1.2.1 dL_law_288 rfl (lv_at hl 5 rfl) ?_
        refine lv_icmp_eq (tgt := 294) X.1.1 X.1.2.1 dL_law_289 (by decide) (fun _ => ?_) (fun c => absurd B.2.2.1 c)
        refine lv_iconst (v := 0) X.1.1 X.1.2.1 dL_law_294 (by decide) ?_
        refine lv_istore (lv' := [(7, .int 0), (6, .int (nI (belowF (cellF L xs (8 + k)) 3))), (5, .int (cellF L xs (8 + k))), (0, .ref b), (1, .ref (ad Z 0)), (2, .int (nI nb)), (3, .int (nI n)), (4, .int (nI k))]) X.1.1 X.1.2.1 dL_law_295 hl (by decide) rfl (fun ls hl => ?_)
        obtain ⟨B2, p32, p33, p34⟩ := Bld_train (a := (belowF ((cellF L xs (8 + k)) >>> ((2 : Int32) &&& 31)) 10)) (p := 1 + (belowF ((cellF L xs (8 + k)) >>> ((3 : Int32) &&& 31)) 3)) (x := (belowF (cellF L xs (8 + k)) 3)) (t := (belowF ((cellF L xs (8 + k)) >>> ((4 : Int32) &&& 31)) 4)) B (by omega) (by omega) (by omega) (by have := below_lt ((cellF L xs (8 + k)) >>> ((3 : Int32) &&& 31)) (n := 3) (by decide); omega) hcnt
        have ht3 := below_lt ((cellF L xs (8 + k)) >>> ((4 : Int32) &&& 31)) (n := 4) (by decide)
        have loop : ∀ (f2 i : Nat), 8 - i < f2 → i ≤ 4 → ∀ (S : St) (V : Nat → St) (H : Heap) (locs : List Loc) (ls : Array Slot) (y t : Nat), Bld nb 8 (n + 1) S → V 0 = S → V 1 = initS → LH Z V [] s H locs → S 32 n 0 = nI (i + 1) → S 33 n i = nI y → y < 3 → S 34 n i = nI t → t ≤ 3 + 6 * i → lv_has ls 22 [(7, .int (nI i)), (5, .int (cellF L xs (8 + k))), (0, .ref b), (1, .ref (ad Z 0)), (2, .int (nI nb)), (3, .int (nI n)), (4, .int (nI k))] → W p l e room_1 s m #[Value.ref b] below meth c H locs 171 1202 (lw_Z below #[Value.ref b] s) (F0 m 297 ls []) := by
          intro f2
          induction f2 with
          | zero => intro i hm; exact absurd hm (by omega)
          | succ f2 ih2 =>
            intro i hm2 hi4 S V H locs ls y t B hV hV1 h e32 e33 hy e34 ht hl
            have hL := Bld_lim B hb (by omega) (by omega)
            refine lv_iload X.1.1 X.1.2.1 dL_law_297 (lv_at hl 0 rfl) ?_
            refine lv_iconst (v := 1) X.1.1 X.1.2.1 dL_law_299 (by decide) ?_
            refine lv_iload X.1.1 X.1.2.1 dL_law_300 (lv_at hl 1 rfl) ?_
            refine lv_iconst (v := 5) X.1.1 X.1.2.1 dL_law_302 (by decide) ?_
            refine lv_ishr X.1.1 X.1.2.1 dL_law_303 ?_
            refine lv_iconst (v := 4) X.1.1 X.1.2.1 dL_law_304 (by decide) ?_
            refine L_below (rest := [.int 1, .int (nI i)]) X h hl.1 (n := 4) (by decide) (by decide) (Nat.le_of_ble_eq_true rfl) hf dL_law_305 ?_
            refine lv_iadd X.1.1 X.1.2.1 dL_law_308 ?_
            rw [show (1 + (nI (belowF ((cellF L xs (8 + k)) >>> ((5 : Int32) &&& 31)) 4)) : Int32) = (nI (1 + (belowF ((cellF L xs (8 + k)) >>> ((5 : Int32) &&& 31)) 4))) from nI_add 1 _]
            refine lv_icmp_ge (tgt := 358) X.1.1 X.1.2.1 dL_law_309 (by decide) (fun c_309 => ?_) (fun c_309 => ?_)
            · refine lv_iinc (v := nI (n + 1)) (lv' := [(3, .int (nI (n + 1))), (7, .int (nI i)), (5, .int (cellF L xs (8 + k))), (0, .ref b), (1, .ref (ad Z 0)), (2, .int (nI nb)), (4, .int (nI k))]) X.1.1 X.1.2.1 dL_law_358 hl (k := 5) rfl (nI_1 _) (by decide) rfl (fun ls hl => ?_)
              refine lv_iinc (v := nI (k + 1)) (lv' := [(4, .int (nI (k + 1))), (3, .int (nI (n + 1))), (7, .int (nI i)), (5, .int (cellF L xs (8 + k))), (0, .ref b), (1, .ref (ad Z 0)), (2, .int (nI nb))]) X.1.1 X.1.2.1 dL_law_361 hl (k := 6) rfl (nI_1 _) (by decide) rfl (fun ls hl => ?_)
              refine lv_goto (tgt := 216) X.1.1 X.1.2.1 dL_law_364 (by decide) ?_
              exact ih (k + 1) (by omega) (by omega) (n + 1) S V H locs ls (by omega) B hV hV1 h (lv_sub hl [4, 5, 6, 1, 0] rfl)
            · have hq5 := below_lt ((cellF L xs (8 + k)) >>> ((5 : Int32) &&& 31)) (n := 4) (by decide)
              have hi3 : i < 4 := by
                have := Nat.not_le.mp fun q => c_309 (nI_le q (by omega))
                omega
              have hn6 : (S 6 0 0).toNatClampNeg = n + 1 := by rw [B.2.2.1, nI_clamp (by omega)]
              have h36 : S 36 n 0 ≠ -1 := by
                obtain ⟨t1, t2, t3, t4, -, t6⟩ := B.2.2.2.2.2.1 n (by omega)
                obtain ⟨w, hw, e⟩ := t4 0 (by omega)
                rw [t6, e]; exact m1_ne (by omega)
              have hq7 := below_lt ((cellF L xs (8 + k)) >>> ((6 + (nI i) : Int32) &&& 31)) (n := 7) (by decide)
              refine lv_aload_n X.1.1 X.1.2.1 dL_law_312 rfl (lv_at hl 3 rfl) ?_
              refine lv_iload_n X.1.1 X.1.2.1 dL_law_313 rfl (lv_at hl 5 rfl) ?_
              refine lv_aload_n X.1.1 X.1.2.1 dL_law_314 rfl (lv_at hl 3 rfl) ?_
              refine lv_iload_n X.1.1 X.1.2.1 dL_law_315 rfl (lv_at hl 5 rfl) ?_
              refine lv_iload X.1.1 X.1.2.1 dL_law_316 (lv_at hl 0 rfl) ?_
              refine lv_iconst (v := 0) X.1.1 X.1.2.1 dL_law_318 (by decide) ?_
              refine L_plan (rest := [.int (nI n), .ref (ad Z 0)]) X h hl.1 hV hL hn6 (by omega) (by omega) (q := i) (c0 := i + 1) e32 (by omega) (by omega) 0 (v := nI y) (by show (if (0 : Int32) = 0 then stationF S n (nI i) else _) = _; rw [if_pos rfl]; unfold stationF; rw [if_neg (nI_pos (by omega)), if_neg (show ¬ (8 : Int32) ≤ nI i from le_no (a := 8) (by omega) (by omega)), nI_clamp (by omega), e33]) (Nat.le_of_ble_eq_true rfl) hf dL_law_319 ?_
              refine lv_iconst (v := 1) X.1.1 X.1.2.1 dL_law_322 (by decide) ?_
              refine lv_iadd X.1.1 X.1.2.1 dL_law_323 ?_
              rw [show ((nI y) + 1 : Int32) = (nI (y + 1)) from nI_1 y]
              refine lv_iconst (v := 3) X.1.1 X.1.2.1 dL_law_324 (by decide) ?_
              refine lv_irem X.1.1 X.1.2.1 dL_law_325 (by decide) ?_
              rw [show ((nI (y + 1)) - (nI (y + 1)) / 3 * 3 : Int32) = (nI ((y + 1) % 3)) from rem3 (y + 1) (by omega)]
              refine lv_aload_n X.1.1 X.1.2.1 dL_law_326 rfl (lv_at hl 3 rfl) ?_
              refine lv_iload_n X.1.1 X.1.2.1 dL_law_327 rfl (lv_at hl 5 rfl) ?_
              refine lv_iload X.1.1 X.1.2.1 dL_law_328 (lv_at hl 0 rfl) ?_
              refine lv_iconst (v := 1) X.1.1 X.1.2.1 dL_law_330 (by decide) ?_
              refine L_plan (rest := [.int (nI ((y + 1) % 3)), .int (nI n), .ref (ad Z 0)]) X h hl.1 hV hL hn6 (by omega) (by omega) (q := i) (c0 := i + 1) e32 (by omega) (by omega) 1 (v := nI t) (by show (if (1 : Int32) = 0 then _ else timeF S n (nI i)) = _; rw [if_neg (by decide)]; unfold timeF; rw [if_neg (nI_pos (by omega)), if_neg (show ¬ (8 : Int32) ≤ nI i from le_no (a := 8) (by omega) (by omega)), nI_clamp (by omega), e34]) (Nat.le_of_ble_eq_true rfl) hf dL_law_331 ?_
              refine lv_iload X.1.1 X.1.2.1 dL_law_334 (lv_at hl 1 rfl) ?_
              refine lv_bipush (v := 6) X.1.1 X.1.2.1 dL_law_336 (by decide) ?_
              refine lv_iload X.1.1 X.1.2.1 dL_law_338 (lv_at hl 0 rfl) ?_
              refine lv_iadd X.1.1 X.1.2.1 dL_law_340 ?_
              refine lv_ishr X.1.1 X.1.2.1 dL_law_341 ?_
              refine lv_bipush (v := 7) X.1.1 X.1.2.1 dL_law_342 (by decide) ?_
              refine L_below (rest := [.int (nI t), .int (nI ((y + 1) % 3)), .int (nI n), .ref (ad Z 0)]) X h hl.1 (n := 7) (by decide) (by decide) (Nat.le_of_ble_eq_true rfl) hf dL_law_344 ?_
              refine lv_iadd X.1.1 X.1.2.1 dL_law_347 ?_
              rw [show ((nI t) + (nI (belowF ((cellF L xs (8 + k)) >>> ((6 + (nI i) : Int32) &&& 31)) 7)) : Int32) = (nI (t + (belowF ((cellF L xs (8 + k)) >>> ((6 + (nI i) : Int32) &&& 31)) 7))) from nI_add t _]
              refine L_stop (rest := []) X h hl.1 hV hL B.2.2.1 (by omega) (Nat.lt_succ_self n) (y := (y + 1) % 3) (t := t + (belowF ((cellF L xs (8 + k)) >>> ((6 + (nI i) : Int32) &&& 31)) 7)) (by omega) (by omega) e32 (by omega) e33 (by omega) (by omega) e34 (by omega) h36 (Nat.le_of_ble_eq_true rfl) hf dL_law_348 (fun H locs h r => ?_)
              refine lv_pop X.1.1 X.1.2.1 dL_law_351 rfl ?_
              refine lv_iinc (v := nI (i + 1)) (lv' := [(7, .int (nI (i + 1))), (5, .int (cellF L xs (8 + k))), (0, .ref b), (1, .ref (ad Z 0)), (2, .int (nI nb)), (3, .int (nI n)), (4, .int (nI k))]) X.1.1 X.1.2.1 dL_law_352 hl (k := 0) rfl (nI_1 _) (by decide) rfl (fun ls hl => ?_)
              refine lv_goto (tgt := 297) X.1.1 X.1.2.1 dL_law_355 (by decide) ?_
              obtain ⟨B3, p32, p33, p34⟩ := Bld_stop (y := (y + 1) % 3) (t := t + (belowF ((cellF L xs (8 + k)) >>> ((6 + (nI i) : Int32) &&& 31)) 7)) B (by omega) e32 (by omega)
              exact ih2 (i + 1) (by omega) (by omega) _ _ H locs ls ((y + 1) % 3) (t + (belowF ((cellF L xs (8 + k)) >>> ((6 + (nI i) : Int32) &&& 31)) 7)) B3 (upL_same _ _ _) ((upL_ne (by decide)).trans hV1) h p32 p33 (by omega) p34 (by omega) (lv_sub hl [0, 1, 2, 3, 4, 5, 6] rfl)
        exact loop 9 0 (by omega) (by omega) _ _ H locs ls (belowF (cellF L xs (8 + k)) 3) (belowF ((cellF L xs (8 + k)) >>> ((4 : Int32) &&& 31)) 4) B2 (upL_same _ _ _) ((upL_ne (by decide)).trans hV1) h p32 p33 (by omega) p34 (by omega) (lv_sub hl [0, 2, 3, 4, 5, 6, 7] rfl)
      · refine lv_goto (tgt := 361) X.1.1 X.1.2.1 dL_law_252 (by decide) ?_
        refine lv_iinc (v := nI (k + 1)) (lv' := [(4, .int (nI (k + 1))), (6, .int (nI (belowF (cellF L xs (8 + k)) 3))), (5, .int (cellF L xs (8 + k))), (0, .ref b), (1, .ref (ad Z 0)), (2, .int (nI nb)), (3, .int (nI n))]) X.1.1 X.1.2.1 dL_law_361 hl (k := 6) rfl (nI_1 _) (by decide) rfl (fun ls hl => ?_)
        refine lv_goto (tgt := 216) X.1.1 X.1.2.1 dL_law_364 (by decide) ?_
        exact ih (k + 1) (by omega) (by omega) n S V H locs ls (by omega) B hV hV1 h (lv_sub hl [3, 4, 5, 6, 0] rfl)
end BUILDLAW
