/-! The law's checks of a train, on. -/
section CHECKB
theorem cnt_s0 {q : Nat → Bool} {k : Nat} (h : q k = false) : nI (cntTo q k) + 0 = nI (cntTo q (k + 1)) := by
  show nI (cntTo q k) + nI 0 = nI (cntTo q k + (if q k = true then 1 else 0))
  rw [h, nI_add]
  rfl
theorem cnt_s1 {q : Nat → Bool} {k : Nat} (h : q k = true) : nI (cntTo q k) + 1 = nI (cntTo q (k + 1)) := by
  show nI (cntTo q k) + nI 1 = nI (cntTo q k + (if q k = true then 1 else 0))
  rw [h, nI_add]
  rfl
theorem not_f {b : Bool} (h : ¬ b = false) : b = true := by cases b; exact absurd rfl h; rfl
theorem stuck_w {T : St} {n k : Nat} (h6 : T 6 0 0 = nI n) (hn : n < 2 ^ 31) (hk : k < n) (hs : stuckF T k = true) : T 44 k 0 ≠ -1 := fun e => by
  unfold stuckF nT at hs
  rw [h6, nI_clamp hn] at hs
  obtain ⟨m, rfl⟩ : ∃ m, n = m + 1 := ⟨n - 1, by omega⟩
  unfold stuckL at hs
  rw [if_neg (nI_pos (by omega)), h6, if_neg (not_not_intro (nI_lt hk hn)), nI_clamp (by omega), e, if_neg (fun q => m1_ne (by omega) q.symm)] at hs
  cases m with
  | zero => cases hs
  | succ m =>
    unfold stuckL at hs
    rw [if_pos (by decide)] at hs
    cases hs
set_option maxHeartbeats 4000000 in
set_option maxRecDepth 20000 in
theorem seg_B1 {p : Program} {e : Env} {s : State} {m : MethodId} {b : Nat} {below : List Frame} {meth : Method} {c : Code} {Z : Gm} {L : Nat} {xs : Nat → Int32} (l : Launch) (X : LC Z p s m c b L xs) {T : St} {nb n t k aW aD : Nat} {x10 x11 x12 x13 v15 v16 v18 : Int32} (hv : v15 < 0 ↔ atStF T k = false) {H : Heap} {locs : List Loc} {cells slots : Nat} {Q : State → Prop} {ls : Array Slot} (hl : lv_has ls 22 [(15, .int v15), (16, .int v16), (18, .int v18), (0, .ref b), (1, .ref (ad Z 0)), (2, .int (nI nb)), (3, .int (nI n)), (4, .ref aW), (5, .int (nI t)), (9, .ref aD), (10, .int (nI (cntTo (atStF T) k))), (11, .int x11), (12, .int x12), (13, .int x13), (14, .int (nI k))])
    (kk : ∀ ls : Array Slot, lv_has ls 22 [(15, .int v15), (16, .int v16), (18, .int v18), (0, .ref b), (1, .ref (ad Z 0)), (2, .int (nI nb)), (3, .int (nI n)), (4, .ref aW), (5, .int (nI t)), (9, .ref aD), (10, .int (nI (cntTo (atStF T) (k + 1)))), (11, .int x11), (12, .int x12), (13, .int x13), (14, .int (nI k))] → W p l e room_1 s m #[Value.ref b] below meth c H locs cells slots Q (F0 m 725 ls [])) : W p l e room_1 s m #[Value.ref b] below meth c H locs cells slots Q (F0 m 710 ls []) := by
  refine lv_iload X.1.1 X.1.2.1 dL_law_710 (lv_at hl 10 rfl) ?_
  refine lv_iload X.1.1 X.1.2.1 dL_law_712 (lv_at hl 0 rfl) ?_
  refine lv_if_lt (tgt := 721) X.1.1 X.1.2.1 dL_law_714 (by decide) (fun c_714 => ?_) (fun c_714 => ?_)
  · refine lv_iconst (v := 0) X.1.1 X.1.2.1 dL_law_721 (by decide) ?_
    refine lv_iadd X.1.1 X.1.2.1 dL_law_722 ?_
    rw [show (nI (cntTo (atStF T) k)) + 0 = (nI (cntTo (atStF T) (k + 1))) from cnt_s0 (hv.mp c_714)]
    refine lv_istore (lv' := [(10, .int (nI (cntTo (atStF T) (k + 1)))), (15, .int v15), (16, .int v16), (18, .int v18), (0, .ref b), (1, .ref (ad Z 0)), (2, .int (nI nb)), (3, .int (nI n)), (4, .ref aW), (5, .int (nI t)), (9, .ref aD), (11, .int x11), (12, .int x12), (13, .int x13), (14, .int (nI k))]) X.1.1 X.1.2.1 dL_law_723 hl (by decide) rfl (fun ls hl => ?_)
    exact kk ls (lv_sub hl [1, 2, 3, 4, 5, 6, 7, 8, 9, 10, 0, 11, 12, 13, 14] rfl)
  · refine lv_iconst (v := 1) X.1.1 X.1.2.1 dL_law_717 (by decide) ?_
    refine lv_goto (tgt := 722) X.1.1 X.1.2.1 dL_law_718 (by decide) ?_
    refine lv_iadd X.1.1 X.1.2.1 dL_law_722 ?_
    rw [show (nI (cntTo (atStF T) k)) + 1 = (nI (cntTo (atStF T) (k + 1))) from cnt_s1 (not_f (fun q => c_714 (hv.mpr q)))]
    refine lv_istore (lv' := [(10, .int (nI (cntTo (atStF T) (k + 1)))), (15, .int v15), (16, .int v16), (18, .int v18), (0, .ref b), (1, .ref (ad Z 0)), (2, .int (nI nb)), (3, .int (nI n)), (4, .ref aW), (5, .int (nI t)), (9, .ref aD), (11, .int x11), (12, .int x12), (13, .int x13), (14, .int (nI k))]) X.1.1 X.1.2.1 dL_law_723 hl (by decide) rfl (fun ls hl => ?_)
    exact kk ls (lv_sub hl [1, 2, 3, 4, 5, 6, 7, 8, 9, 10, 0, 11, 12, 13, 14] rfl)
set_option maxHeartbeats 4000000 in
set_option maxRecDepth 20000 in
theorem seg_B2 {p : Program} {e : Env} {s : State} {m : MethodId} {b : Nat} {below : List Frame} {meth : Method} {c : Code} {Z : Gm} {L : Nat} {xs : Nat → Int32} (l : Launch) (X : LC Z p s m c b L xs) {T : St} {nb n t k aW aD : Nat} {x10 x11 x12 x13 v15 v16 v18 : Int32} (hv : v16 < 0 ↔ onBlockF T k = false) {H : Heap} {locs : List Loc} {cells slots : Nat} {Q : State → Prop} {ls : Array Slot} (hl : lv_has ls 22 [(15, .int v15), (16, .int v16), (18, .int v18), (0, .ref b), (1, .ref (ad Z 0)), (2, .int (nI nb)), (3, .int (nI n)), (4, .ref aW), (5, .int (nI t)), (9, .ref aD), (10, .int x10), (11, .int (nI (cntTo (onBlockF T) k))), (12, .int x12), (13, .int x13), (14, .int (nI k))])
    (kk : ∀ ls : Array Slot, lv_has ls 22 [(15, .int v15), (16, .int v16), (18, .int v18), (0, .ref b), (1, .ref (ad Z 0)), (2, .int (nI nb)), (3, .int (nI n)), (4, .ref aW), (5, .int (nI t)), (9, .ref aD), (10, .int x10), (11, .int (nI (cntTo (onBlockF T) (k + 1)))), (12, .int x12), (13, .int x13), (14, .int (nI k))] → W p l e room_1 s m #[Value.ref b] below meth c H locs cells slots Q (F0 m 740 ls [])) : W p l e room_1 s m #[Value.ref b] below meth c H locs cells slots Q (F0 m 725 ls []) := by
  refine lv_iload X.1.1 X.1.2.1 dL_law_725 (lv_at hl 11 rfl) ?_
  refine lv_iload X.1.1 X.1.2.1 dL_law_727 (lv_at hl 1 rfl) ?_
  refine lv_if_lt (tgt := 736) X.1.1 X.1.2.1 dL_law_729 (by decide) (fun c_729 => ?_) (fun c_729 => ?_)
  · refine lv_iconst (v := 0) X.1.1 X.1.2.1 dL_law_736 (by decide) ?_
    refine lv_iadd X.1.1 X.1.2.1 dL_law_737 ?_
    rw [show (nI (cntTo (onBlockF T) k)) + 0 = (nI (cntTo (onBlockF T) (k + 1))) from cnt_s0 (hv.mp c_729)]
    refine lv_istore (lv' := [(11, .int (nI (cntTo (onBlockF T) (k + 1)))), (15, .int v15), (16, .int v16), (18, .int v18), (0, .ref b), (1, .ref (ad Z 0)), (2, .int (nI nb)), (3, .int (nI n)), (4, .ref aW), (5, .int (nI t)), (9, .ref aD), (10, .int x10), (12, .int x12), (13, .int x13), (14, .int (nI k))]) X.1.1 X.1.2.1 dL_law_738 hl (by decide) rfl (fun ls hl => ?_)
    exact kk ls (lv_sub hl [1, 2, 3, 4, 5, 6, 7, 8, 9, 10, 11, 0, 12, 13, 14] rfl)
  · refine lv_iconst (v := 1) X.1.1 X.1.2.1 dL_law_732 (by decide) ?_
    refine lv_goto (tgt := 737) X.1.1 X.1.2.1 dL_law_733 (by decide) ?_
    refine lv_iadd X.1.1 X.1.2.1 dL_law_737 ?_
    rw [show (nI (cntTo (onBlockF T) k)) + 1 = (nI (cntTo (onBlockF T) (k + 1))) from cnt_s1 (not_f (fun q => c_729 (hv.mpr q)))]
    refine lv_istore (lv' := [(11, .int (nI (cntTo (onBlockF T) (k + 1)))), (15, .int v15), (16, .int v16), (18, .int v18), (0, .ref b), (1, .ref (ad Z 0)), (2, .int (nI nb)), (3, .int (nI n)), (4, .ref aW), (5, .int (nI t)), (9, .ref aD), (10, .int x10), (12, .int x12), (13, .int x13), (14, .int (nI k))]) X.1.1 X.1.2.1 dL_law_738 hl (by decide) rfl (fun ls hl => ?_)
    exact kk ls (lv_sub hl [1, 2, 3, 4, 5, 6, 7, 8, 9, 10, 11, 0, 12, 13, 14] rfl)
set_option maxHeartbeats 4000000 in
set_option maxRecDepth 20000 in
theorem seg_B3 {p : Program} {e : Env} {s : State} {m : MethodId} {b : Nat} {below : List Frame} {meth : Method} {c : Code} {Z : Gm} {L : Nat} {xs : Nat → Int32} (l : Launch) (X : LC Z p s m c b L xs) {T : St} {nb n t k aW aD : Nat} {x10 x11 x12 x13 v15 v16 v18 : Int32} (hv : v18 = 0 ↔ doneF T k = false) {H : Heap} {locs : List Loc} {cells slots : Nat} {Q : State → Prop} {ls : Array Slot} (hl : lv_has ls 22 [(15, .int v15), (16, .int v16), (18, .int v18), (0, .ref b), (1, .ref (ad Z 0)), (2, .int (nI nb)), (3, .int (nI n)), (4, .ref aW), (5, .int (nI t)), (9, .ref aD), (10, .int x10), (11, .int x11), (12, .int (nI (cntTo (doneF T) k))), (13, .int x13), (14, .int (nI k))])
    (kk : ∀ ls : Array Slot, lv_has ls 22 [(15, .int v15), (16, .int v16), (18, .int v18), (0, .ref b), (1, .ref (ad Z 0)), (2, .int (nI nb)), (3, .int (nI n)), (4, .ref aW), (5, .int (nI t)), (9, .ref aD), (10, .int x10), (11, .int x11), (12, .int (nI (cntTo (doneF T) (k + 1)))), (13, .int x13), (14, .int (nI k))] → W p l e room_1 s m #[Value.ref b] below meth c H locs cells slots Q (F0 m 755 ls [])) : W p l e room_1 s m #[Value.ref b] below meth c H locs cells slots Q (F0 m 740 ls []) := by
  refine lv_iload X.1.1 X.1.2.1 dL_law_740 (lv_at hl 12 rfl) ?_
  refine lv_iload X.1.1 X.1.2.1 dL_law_742 (lv_at hl 2 rfl) ?_
  refine lv_if_eq (tgt := 751) X.1.1 X.1.2.1 dL_law_744 (by decide) (fun c_744 => ?_) (fun c_744 => ?_)
  · refine lv_iconst (v := 0) X.1.1 X.1.2.1 dL_law_751 (by decide) ?_
    refine lv_iadd X.1.1 X.1.2.1 dL_law_752 ?_
    rw [show (nI (cntTo (doneF T) k)) + 0 = (nI (cntTo (doneF T) (k + 1))) from cnt_s0 (hv.mp c_744)]
    refine lv_istore (lv' := [(12, .int (nI (cntTo (doneF T) (k + 1)))), (15, .int v15), (16, .int v16), (18, .int v18), (0, .ref b), (1, .ref (ad Z 0)), (2, .int (nI nb)), (3, .int (nI n)), (4, .ref aW), (5, .int (nI t)), (9, .ref aD), (10, .int x10), (11, .int x11), (13, .int x13), (14, .int (nI k))]) X.1.1 X.1.2.1 dL_law_753 hl (by decide) rfl (fun ls hl => ?_)
    exact kk ls (lv_sub hl [1, 2, 3, 4, 5, 6, 7, 8, 9, 10, 11, 12, 0, 13, 14] rfl)
  · refine lv_iconst (v := 1) X.1.1 X.1.2.1 dL_law_747 (by decide) ?_
    refine lv_goto (tgt := 752) X.1.1 X.1.2.1 dL_law_748 (by decide) ?_
    refine lv_iadd X.1.1 X.1.2.1 dL_law_752 ?_
    rw [show (nI (cntTo (doneF T) k)) + 1 = (nI (cntTo (doneF T) (k + 1))) from cnt_s1 (not_f (fun q => c_744 (hv.mpr q)))]
    refine lv_istore (lv' := [(12, .int (nI (cntTo (doneF T) (k + 1)))), (15, .int v15), (16, .int v16), (18, .int v18), (0, .ref b), (1, .ref (ad Z 0)), (2, .int (nI nb)), (3, .int (nI n)), (4, .ref aW), (5, .int (nI t)), (9, .ref aD), (10, .int x10), (11, .int x11), (13, .int x13), (14, .int (nI k))]) X.1.1 X.1.2.1 dL_law_753 hl (by decide) rfl (fun ls hl => ?_)
    exact kk ls (lv_sub hl [1, 2, 3, 4, 5, 6, 7, 8, 9, 10, 11, 12, 0, 13, 14] rfl)
set_option maxHeartbeats 4000000 in
set_option maxRecDepth 20000 in
theorem seg_B4 {p : Program} {e : Env} {s : State} {m : MethodId} {b : Nat} {below : List Frame} {meth : Method} {c : Code} {Z : Gm} {L : Nat} {xs : Nat → Int32} (l : Launch) (X : LC Z p s m c b L xs) {T : St} {nb n t k aW aD : Nat} {x10 x11 x12 x13 v15 v16 v18 : Int32} {V : Nat → St} {ex : va_W} (hV : V 0 = T) (hL : Lim T) (hn : nT T = n) (hk : k < n) {H : Heap} {locs : List Loc} (h : LH Z V ex s H locs) {cells slots : Nat} (hf : cells ≤ 630607 ∧ slots ≤ 7209803) {Q : State → Prop} {ls : Array Slot} (hl : lv_has ls 22 [(0, .ref b), (1, .ref (ad Z 0)), (2, .int (nI nb)), (3, .int (nI n)), (4, .ref aW), (5, .int (nI t)), (9, .ref aD), (10, .int x10), (11, .int x11), (12, .int x12), (13, .int (nI (cntTo (stuckF T) k))), (14, .int (nI k))])
    (kk : ∀ ls : Array Slot, lv_has ls 22 [(0, .ref b), (1, .ref (ad Z 0)), (2, .int (nI nb)), (3, .int (nI n)), (4, .ref aW), (5, .int (nI t)), (9, .ref aD), (10, .int x10), (11, .int x11), (12, .int x12), (13, .int (nI (cntTo (stuckF T) (k + 1)))), (14, .int (nI k))] → W p l e room_1 s m #[Value.ref b] below meth c H locs cells slots Q (F0 m 774 ls [])) : W p l e room_1 s m #[Value.ref b] below meth c H locs cells slots Q (F0 m 755 ls []) := by
  refine lv_iload X.1.1 X.1.2.1 dL_law_755 (lv_at hl 10 rfl) ?_
  refine lv_aload_n X.1.1 X.1.2.1 dL_law_757 rfl (lv_at hl 1 rfl) ?_
  refine lv_iload X.1.1 X.1.2.1 dL_law_758 (lv_at hl 11 rfl) ?_
  refine L_isStuck (rest := [.int (nI (cntTo (stuckF T) k))]) X h hl.1 hV hL hn hk (v := b2i (stuckF T k)) rfl (Nat.le_of_ble_eq_true rfl) hf dL_law_760 ?_
  refine lv_if_eq (tgt := 770) X.1.1 X.1.2.1 dL_law_763 (by decide) (fun c_763 => ?_) (fun c_763 => ?_)
  · refine lv_iconst (v := 0) X.1.1 X.1.2.1 dL_law_770 (by decide) ?_
    refine lv_iadd X.1.1 X.1.2.1 dL_law_771 ?_
    rw [show (nI (cntTo (stuckF T) k)) + 0 = (nI (cntTo (stuckF T) (k + 1))) from cnt_s0 (b2i_f c_763)]
    refine lv_istore (lv' := [(13, .int (nI (cntTo (stuckF T) (k + 1)))), (0, .ref b), (1, .ref (ad Z 0)), (2, .int (nI nb)), (3, .int (nI n)), (4, .ref aW), (5, .int (nI t)), (9, .ref aD), (10, .int x10), (11, .int x11), (12, .int x12), (14, .int (nI k))]) X.1.1 X.1.2.1 dL_law_772 hl (by decide) rfl (fun ls hl => ?_)
    exact kk ls (lv_sub hl [1, 2, 3, 4, 5, 6, 7, 8, 9, 10, 0, 11] rfl)
  · refine lv_iconst (v := 1) X.1.1 X.1.2.1 dL_law_766 (by decide) ?_
    refine lv_goto (tgt := 771) X.1.1 X.1.2.1 dL_law_767 (by decide) ?_
    refine lv_iadd X.1.1 X.1.2.1 dL_law_771 ?_
    rw [show (nI (cntTo (stuckF T) k)) + 1 = (nI (cntTo (stuckF T) (k + 1))) from cnt_s1 (b2i_t c_763)]
    refine lv_istore (lv' := [(13, .int (nI (cntTo (stuckF T) (k + 1)))), (0, .ref b), (1, .ref (ad Z 0)), (2, .int (nI nb)), (3, .int (nI n)), (4, .ref aW), (5, .int (nI t)), (9, .ref aD), (10, .int x10), (11, .int x11), (12, .int x12), (14, .int (nI k))]) X.1.1 X.1.2.1 dL_law_772 hl (by decide) rfl (fun ls hl => ?_)
    exact kk ls (lv_sub hl [1, 2, 3, 4, 5, 6, 7, 8, 9, 10, 0, 11] rfl)
set_option maxHeartbeats 4000000 in
set_option maxRecDepth 20000 in
theorem seg_C {p : Program} {e : Env} {s : State} {m : MethodId} {b : Nat} {below : List Frame} {meth : Method} {c : Code} {Z : Gm} {L : Nat} {xs : Nat → Int32} (l : Launch) (X : LC Z p s m c b L xs) {S0 T : St} {nb n t k aW aD w : Nat} {fW : Nat → Int32} {x10 x11 x12 x13 : Int32} (C : Stc S0 nb n) (I : Inv nb n S0 T) {V : Nat → St} (hV : V 0 = T) (hk : k < n) {ex : va_W} {H : Heap} {locs : List Loc} (h : LH Z V ex s H locs) (hx : ex[0]? = some (aW, .inl (Z.2.2.1, 5, .inl fW))) (hw : fW k = nI w) (hw31 : w < 1000) (hW : WQ n w T k) {cells slots : Nat} (hf : cells ≤ 630607 ∧ slots ≤ 7209803) {Q : State → Prop} {ls : Array Slot} (hl : lv_has ls 22 [(0, .ref b), (1, .ref (ad Z 0)), (2, .int (nI nb)), (3, .int (nI n)), (4, .ref aW), (5, .int (nI t)), (9, .ref aD), (10, .int x10), (11, .int x11), (12, .int x12), (13, .int x13), (14, .int (nI k))])
    (kk : ∀ ls : Array Slot, lv_has ls 22 [(0, .ref b), (1, .ref (ad Z 0)), (2, .int (nI nb)), (3, .int (nI n)), (4, .ref aW), (5, .int (nI t)), (9, .ref aD), (10, .int x10), (11, .int x11), (12, .int x12), (13, .int x13), (14, .int (nI k))] → W p l e room_1 s m #[Value.ref b] below meth c H locs cells slots Q (F0 m 876 ls [])) : W p l e room_1 s m #[Value.ref b] below meth c H locs cells slots Q (F0 m 774 ls []) := by
  have hL := Lim_F C I.1
  have hn := nT_F C I.1
  have hn5 := C.n5
  have hne : ¬ (-1 : Int32) = nI k := fun q => m1_ne (by omega) q.symm
  rcases hW with ⟨⟨⟨h43, -⟩, h44⟩, hra⟩ | ⟨⟨⟨h43, -⟩, h44⟩, hr, ha⟩
  · rcases hra with hr | ha
    · rcases h44 with h44 | ⟨q, hq, hqk, h44⟩
      · refine lv_aload_n X.1.1 X.1.2.1 dL_law_774 rfl (lv_at hl 1 rfl) ?_
        refine lv_iload X.1.1 X.1.2.1 dL_law_775 (lv_at hl 11 rfl) ?_
        refine lv_bipush (v := 9) X.1.1 X.1.2.1 dL_law_777 (by decide) ?_
        refine L_ofTrain (rest := []) X h hl.1 hV hL hn (by omega) hk (j := 9) (by decide) (v := (nI (w + 1))) h43 (Nat.le_of_ble_eq_true rfl) hf dL_law_779 ?_
        refine lv_aload X.1.1 X.1.2.1 dL_law_782 (lv_at hl 4 rfl) ?_
        refine lv_iload X.1.1 X.1.2.1 dL_law_784 (lv_at hl 11 rfl) ?_
        refine L_ld X h 0 hx (by omega) dL_law_786 ?_
        rw [hw]
        refine lv_icmp_le (tgt := 794) X.1.1 X.1.2.1 dL_law_787 (by decide) (fun c => absurd c (nI_ge (by omega) (by omega))) (fun _ => ?_)
        refine lv_iconst (v := 1) X.1.1 X.1.2.1 dL_law_790 (by decide) ?_
        refine lv_goto (tgt := 795) X.1.1 X.1.2.1 dL_law_791 (by decide) ?_
        refine lv_istore (lv' := [(19, .int 1), (0, .ref b), (1, .ref (ad Z 0)), (2, .int (nI nb)), (3, .int (nI n)), (4, .ref aW), (5, .int (nI t)), (9, .ref aD), (10, .int x10), (11, .int x11), (12, .int x12), (13, .int x13), (14, .int (nI k))]) X.1.1 X.1.2.1 dL_law_795 hl (by decide) rfl (fun ls hl => ?_)
        refine lv_aload_n X.1.1 X.1.2.1 dL_law_797 rfl (lv_at hl 2 rfl) ?_
        refine lv_iload X.1.1 X.1.2.1 dL_law_798 (lv_at hl 12 rfl) ?_
        refine lv_bipush (v := 9) X.1.1 X.1.2.1 dL_law_800 (by decide) ?_
        refine L_ofTrain (rest := []) X h hl.1 hV hL hn (by omega) hk (j := 9) (by decide) (v := (nI (w + 1))) h43 (Nat.le_of_ble_eq_true rfl) hf dL_law_802 ?_
        refine lv_aload X.1.1 X.1.2.1 dL_law_805 (lv_at hl 5 rfl) ?_
        refine lv_iload X.1.1 X.1.2.1 dL_law_807 (lv_at hl 12 rfl) ?_
        refine L_ld X h 0 hx (by omega) dL_law_809 ?_
        rw [hw]
        refine lv_iconst (v := 1) X.1.1 X.1.2.1 dL_law_810 (by decide) ?_
        refine lv_iadd X.1.1 X.1.2.1 dL_law_811 ?_
        rw [show (nI w) + 1 = (nI (w + 1)) from nI_1 w]
        refine lv_icmp_gt (tgt := 874) X.1.1 X.1.2.1 dL_law_812 (by decide) (fun c => absurd c (nI_nlt (Nat.le_refl _) (by omega))) (fun _ => ?_)
        refine lv_iload X.1.1 X.1.2.1 dL_law_815 (lv_at hl 0 rfl) ?_
        refine lv_aload_n X.1.1 X.1.2.1 dL_law_817 rfl (lv_at hl 2 rfl) ?_
        refine lv_iload X.1.1 X.1.2.1 dL_law_818 (lv_at hl 12 rfl) ?_
        refine lv_bipush (v := 10) X.1.1 X.1.2.1 dL_law_820 (by decide) ?_
        refine L_ofTrain (rest := [.int 1]) X h hl.1 hV hL hn (by omega) hk (j := 10) (by decide) (v := 1) (by show oneF (b2i (readyF T k)) = 1; rw [hr]; rfl) (Nat.le_of_ble_eq_true rfl) hf dL_law_822 ?_
        refine lv_iconst (v := 1) X.1.1 X.1.2.1 dL_law_825 (by decide) ?_
        refine lv_icmp_eq (tgt := 841) X.1.1 X.1.2.1 dL_law_826 (by decide) (fun _ => ?_) (fun c => absurd rfl c)
        refine lv_iconst (v := 1) X.1.1 X.1.2.1 dL_law_841 (by decide) ?_
        refine lv_goto (tgt := 846) X.1.1 X.1.2.1 dL_law_842 (by decide) ?_
        refine lv_icmp_ne (tgt := 874) X.1.1 X.1.2.1 dL_law_846 (by decide) (fun c => absurd c (by decide)) (fun _ => ?_)
        refine lv_aload_n X.1.1 X.1.2.1 dL_law_849 rfl (lv_at hl 2 rfl) ?_
        refine lv_iload X.1.1 X.1.2.1 dL_law_850 (lv_at hl 12 rfl) ?_
        refine L_waitsFor (rest := []) X h hl.1 hV hL hn (by omega) hk (v := (-1)) h44 (Nat.le_of_ble_eq_true rfl) hf dL_law_852 ?_
        refine lv_if_lt (tgt := 863) X.1.1 X.1.2.1 dL_law_855 (by decide) (fun _ => ?_) (fun c => absurd (by decide) c)
        refine lv_aload_n X.1.1 X.1.2.1 dL_law_863 rfl (lv_at hl 2 rfl) ?_
        refine lv_iload X.1.1 X.1.2.1 dL_law_864 (lv_at hl 12 rfl) ?_
        refine L_waitsFor (rest := []) X h hl.1 hV hL hn (by omega) hk (v := (-1)) h44 (Nat.le_of_ble_eq_true rfl) hf dL_law_866 ?_
        refine lv_iload X.1.1 X.1.2.1 dL_law_869 (lv_at hl 12 rfl) ?_
        refine lv_icmp_ne (tgt := 876) X.1.1 X.1.2.1 dL_law_871 (by decide) (fun _ => ?_) (fun c => absurd c hne)
        exact kk ls (lv_sub hl [1, 2, 3, 4, 5, 6, 7, 8, 9, 10, 11, 12] rfl)
      · have hqne : ¬ nI q = nI k := fun e => hqk (nI_inj (by omega) (by omega) e)
        refine lv_aload_n X.1.1 X.1.2.1 dL_law_774 rfl (lv_at hl 1 rfl) ?_
        refine lv_iload X.1.1 X.1.2.1 dL_law_775 (lv_at hl 11 rfl) ?_
        refine lv_bipush (v := 9) X.1.1 X.1.2.1 dL_law_777 (by decide) ?_
        refine L_ofTrain (rest := []) X h hl.1 hV hL hn (by omega) hk (j := 9) (by decide) (v := (nI (w + 1))) h43 (Nat.le_of_ble_eq_true rfl) hf dL_law_779 ?_
        refine lv_aload X.1.1 X.1.2.1 dL_law_782 (lv_at hl 4 rfl) ?_
        refine lv_iload X.1.1 X.1.2.1 dL_law_784 (lv_at hl 11 rfl) ?_
        refine L_ld X h 0 hx (by omega) dL_law_786 ?_
        rw [hw]
        refine lv_icmp_le (tgt := 794) X.1.1 X.1.2.1 dL_law_787 (by decide) (fun c => absurd c (nI_ge (by omega) (by omega))) (fun _ => ?_)
        refine lv_iconst (v := 1) X.1.1 X.1.2.1 dL_law_790 (by decide) ?_
        refine lv_goto (tgt := 795) X.1.1 X.1.2.1 dL_law_791 (by decide) ?_
        refine lv_istore (lv' := [(19, .int 1), (0, .ref b), (1, .ref (ad Z 0)), (2, .int (nI nb)), (3, .int (nI n)), (4, .ref aW), (5, .int (nI t)), (9, .ref aD), (10, .int x10), (11, .int x11), (12, .int x12), (13, .int x13), (14, .int (nI k))]) X.1.1 X.1.2.1 dL_law_795 hl (by decide) rfl (fun ls hl => ?_)
        refine lv_aload_n X.1.1 X.1.2.1 dL_law_797 rfl (lv_at hl 2 rfl) ?_
        refine lv_iload X.1.1 X.1.2.1 dL_law_798 (lv_at hl 12 rfl) ?_
        refine lv_bipush (v := 9) X.1.1 X.1.2.1 dL_law_800 (by decide) ?_
        refine L_ofTrain (rest := []) X h hl.1 hV hL hn (by omega) hk (j := 9) (by decide) (v := (nI (w + 1))) h43 (Nat.le_of_ble_eq_true rfl) hf dL_law_802 ?_
        refine lv_aload X.1.1 X.1.2.1 dL_law_805 (lv_at hl 5 rfl) ?_
        refine lv_iload X.1.1 X.1.2.1 dL_law_807 (lv_at hl 12 rfl) ?_
        refine L_ld X h 0 hx (by omega) dL_law_809 ?_
        rw [hw]
        refine lv_iconst (v := 1) X.1.1 X.1.2.1 dL_law_810 (by decide) ?_
        refine lv_iadd X.1.1 X.1.2.1 dL_law_811 ?_
        rw [show (nI w) + 1 = (nI (w + 1)) from nI_1 w]
        refine lv_icmp_gt (tgt := 874) X.1.1 X.1.2.1 dL_law_812 (by decide) (fun c => absurd c (nI_nlt (Nat.le_refl _) (by omega))) (fun _ => ?_)
        refine lv_iload X.1.1 X.1.2.1 dL_law_815 (lv_at hl 0 rfl) ?_
        refine lv_aload_n X.1.1 X.1.2.1 dL_law_817 rfl (lv_at hl 2 rfl) ?_
        refine lv_iload X.1.1 X.1.2.1 dL_law_818 (lv_at hl 12 rfl) ?_
        refine lv_bipush (v := 10) X.1.1 X.1.2.1 dL_law_820 (by decide) ?_
        refine L_ofTrain (rest := [.int 1]) X h hl.1 hV hL hn (by omega) hk (j := 10) (by decide) (v := 1) (by show oneF (b2i (readyF T k)) = 1; rw [hr]; rfl) (Nat.le_of_ble_eq_true rfl) hf dL_law_822 ?_
        refine lv_iconst (v := 1) X.1.1 X.1.2.1 dL_law_825 (by decide) ?_
        refine lv_icmp_eq (tgt := 841) X.1.1 X.1.2.1 dL_law_826 (by decide) (fun _ => ?_) (fun c => absurd rfl c)
        refine lv_iconst (v := 1) X.1.1 X.1.2.1 dL_law_841 (by decide) ?_
        refine lv_goto (tgt := 846) X.1.1 X.1.2.1 dL_law_842 (by decide) ?_
        refine lv_icmp_ne (tgt := 874) X.1.1 X.1.2.1 dL_law_846 (by decide) (fun c => absurd c (by decide)) (fun _ => ?_)
        refine lv_aload_n X.1.1 X.1.2.1 dL_law_849 rfl (lv_at hl 2 rfl) ?_
        refine lv_iload X.1.1 X.1.2.1 dL_law_850 (lv_at hl 12 rfl) ?_
        refine L_waitsFor (rest := []) X h hl.1 hV hL hn (by omega) hk (v := (nI q)) h44 (Nat.le_of_ble_eq_true rfl) hf dL_law_852 ?_
        refine lv_if_lt (tgt := 863) X.1.1 X.1.2.1 dL_law_855 (by decide) (fun c => absurd c (nI_pos (by omega))) (fun _ => ?_)
        refine lv_iload X.1.1 X.1.2.1 dL_law_858 (lv_at hl 0 rfl) ?_
        refine lv_if_eq (tgt := 874) X.1.1 X.1.2.1 dL_law_860 (by decide) (fun c => absurd c (by decide)) (fun _ => ?_)
        refine lv_aload_n X.1.1 X.1.2.1 dL_law_863 rfl (lv_at hl 2 rfl) ?_
        refine lv_iload X.1.1 X.1.2.1 dL_law_864 (lv_at hl 12 rfl) ?_
        refine L_waitsFor (rest := []) X h hl.1 hV hL hn (by omega) hk (v := (nI q)) h44 (Nat.le_of_ble_eq_true rfl) hf dL_law_866 ?_
        refine lv_iload X.1.1 X.1.2.1 dL_law_869 (lv_at hl 12 rfl) ?_
        refine lv_icmp_ne (tgt := 876) X.1.1 X.1.2.1 dL_law_871 (by decide) (fun _ => ?_) (fun c => absurd c hqne)
        exact kk ls (lv_sub hl [1, 2, 3, 4, 5, 6, 7, 8, 9, 10, 11, 12] rfl)
    · cases hr : readyF T k
      · rcases h44 with h44 | ⟨q, hq, hqk, h44⟩
        · refine lv_aload_n X.1.1 X.1.2.1 dL_law_774 rfl (lv_at hl 1 rfl) ?_
          refine lv_iload X.1.1 X.1.2.1 dL_law_775 (lv_at hl 11 rfl) ?_
          refine lv_bipush (v := 9) X.1.1 X.1.2.1 dL_law_777 (by decide) ?_
          refine L_ofTrain (rest := []) X h hl.1 hV hL hn (by omega) hk (j := 9) (by decide) (v := (nI (w + 1))) h43 (Nat.le_of_ble_eq_true rfl) hf dL_law_779 ?_
          refine lv_aload X.1.1 X.1.2.1 dL_law_782 (lv_at hl 4 rfl) ?_
          refine lv_iload X.1.1 X.1.2.1 dL_law_784 (lv_at hl 11 rfl) ?_
          refine L_ld X h 0 hx (by omega) dL_law_786 ?_
          rw [hw]
          refine lv_icmp_le (tgt := 794) X.1.1 X.1.2.1 dL_law_787 (by decide) (fun c => absurd c (nI_ge (by omega) (by omega))) (fun _ => ?_)
          refine lv_iconst (v := 1) X.1.1 X.1.2.1 dL_law_790 (by decide) ?_
          refine lv_goto (tgt := 795) X.1.1 X.1.2.1 dL_law_791 (by decide) ?_
          refine lv_istore (lv' := [(19, .int 1), (0, .ref b), (1, .ref (ad Z 0)), (2, .int (nI nb)), (3, .int (nI n)), (4, .ref aW), (5, .int (nI t)), (9, .ref aD), (10, .int x10), (11, .int x11), (12, .int x12), (13, .int x13), (14, .int (nI k))]) X.1.1 X.1.2.1 dL_law_795 hl (by decide) rfl (fun ls hl => ?_)
          refine lv_aload_n X.1.1 X.1.2.1 dL_law_797 rfl (lv_at hl 2 rfl) ?_
          refine lv_iload X.1.1 X.1.2.1 dL_law_798 (lv_at hl 12 rfl) ?_
          refine lv_bipush (v := 9) X.1.1 X.1.2.1 dL_law_800 (by decide) ?_
          refine L_ofTrain (rest := []) X h hl.1 hV hL hn (by omega) hk (j := 9) (by decide) (v := (nI (w + 1))) h43 (Nat.le_of_ble_eq_true rfl) hf dL_law_802 ?_
          refine lv_aload X.1.1 X.1.2.1 dL_law_805 (lv_at hl 5 rfl) ?_
          refine lv_iload X.1.1 X.1.2.1 dL_law_807 (lv_at hl 12 rfl) ?_
          refine L_ld X h 0 hx (by omega) dL_law_809 ?_
          rw [hw]
          refine lv_iconst (v := 1) X.1.1 X.1.2.1 dL_law_810 (by decide) ?_
          refine lv_iadd X.1.1 X.1.2.1 dL_law_811 ?_
          rw [show (nI w) + 1 = (nI (w + 1)) from nI_1 w]
          refine lv_icmp_gt (tgt := 874) X.1.1 X.1.2.1 dL_law_812 (by decide) (fun c => absurd c (nI_nlt (Nat.le_refl _) (by omega))) (fun _ => ?_)
          refine lv_iload X.1.1 X.1.2.1 dL_law_815 (lv_at hl 0 rfl) ?_
          refine lv_aload_n X.1.1 X.1.2.1 dL_law_817 rfl (lv_at hl 2 rfl) ?_
          refine lv_iload X.1.1 X.1.2.1 dL_law_818 (lv_at hl 12 rfl) ?_
          refine lv_bipush (v := 10) X.1.1 X.1.2.1 dL_law_820 (by decide) ?_
          refine L_ofTrain (rest := [.int 1]) X h hl.1 hV hL hn (by omega) hk (j := 10) (by decide) (v := 0) (by show oneF (b2i (readyF T k)) = 0; rw [hr]; rfl) (Nat.le_of_ble_eq_true rfl) hf dL_law_822 ?_
          refine lv_iconst (v := 1) X.1.1 X.1.2.1 dL_law_825 (by decide) ?_
          refine lv_icmp_eq (tgt := 841) X.1.1 X.1.2.1 dL_law_826 (by decide) (fun c => absurd c (by decide)) (fun _ => ?_)
          refine lv_aload_n X.1.1 X.1.2.1 dL_law_829 rfl (lv_at hl 2 rfl) ?_
          refine lv_iload X.1.1 X.1.2.1 dL_law_830 (lv_at hl 12 rfl) ?_
          refine lv_bipush (v := 11) X.1.1 X.1.2.1 dL_law_832 (by decide) ?_
          refine L_ofTrain (rest := [.int 1]) X h hl.1 hV hL hn (by omega) hk (j := 11) (by decide) (v := 1) (by show oneF (b2i (atEndF T k)) = 1; rw [ha]; rfl) (Nat.le_of_ble_eq_true rfl) hf dL_law_834 ?_
          refine lv_iconst (v := 1) X.1.1 X.1.2.1 dL_law_837 (by decide) ?_
          refine lv_icmp_ne (tgt := 845) X.1.1 X.1.2.1 dL_law_838 (by decide) (fun c => absurd c (not_not_intro rfl)) (fun _ => ?_)
          refine lv_iconst (v := 1) X.1.1 X.1.2.1 dL_law_841 (by decide) ?_
          refine lv_goto (tgt := 846) X.1.1 X.1.2.1 dL_law_842 (by decide) ?_
          refine lv_icmp_ne (tgt := 874) X.1.1 X.1.2.1 dL_law_846 (by decide) (fun c => absurd c (by decide)) (fun _ => ?_)
          refine lv_aload_n X.1.1 X.1.2.1 dL_law_849 rfl (lv_at hl 2 rfl) ?_
          refine lv_iload X.1.1 X.1.2.1 dL_law_850 (lv_at hl 12 rfl) ?_
          refine L_waitsFor (rest := []) X h hl.1 hV hL hn (by omega) hk (v := (-1)) h44 (Nat.le_of_ble_eq_true rfl) hf dL_law_852 ?_
          refine lv_if_lt (tgt := 863) X.1.1 X.1.2.1 dL_law_855 (by decide) (fun _ => ?_) (fun c => absurd (by decide) c)
          refine lv_aload_n X.1.1 X.1.2.1 dL_law_863 rfl (lv_at hl 2 rfl) ?_
          refine lv_iload X.1.1 X.1.2.1 dL_law_864 (lv_at hl 12 rfl) ?_
          refine L_waitsFor (rest := []) X h hl.1 hV hL hn (by omega) hk (v := (-1)) h44 (Nat.le_of_ble_eq_true rfl) hf dL_law_866 ?_
          refine lv_iload X.1.1 X.1.2.1 dL_law_869 (lv_at hl 12 rfl) ?_
          refine lv_icmp_ne (tgt := 876) X.1.1 X.1.2.1 dL_law_871 (by decide) (fun _ => ?_) (fun c => absurd c hne)
          exact kk ls (lv_sub hl [1, 2, 3, 4, 5, 6, 7, 8, 9, 10, 11, 12] rfl)
        · have hqne : ¬ nI q = nI k := fun e => hqk (nI_inj (by omega) (by omega) e)
          refine lv_aload_n X.1.1 X.1.2.1 dL_law_774 rfl (lv_at hl 1 rfl) ?_
          refine lv_iload X.1.1 X.1.2.1 dL_law_775 (lv_at hl 11 rfl) ?_
          refine lv_bipush (v := 9) X.1.1 X.1.2.1 dL_law_777 (by decide) ?_
          refine L_ofTrain (rest := []) X h hl.1 hV hL hn (by omega) hk (j := 9) (by decide) (v := (nI (w + 1))) h43 (Nat.le_of_ble_eq_true rfl) hf dL_law_779 ?_
          refine lv_aload X.1.1 X.1.2.1 dL_law_782 (lv_at hl 4 rfl) ?_
          refine lv_iload X.1.1 X.1.2.1 dL_law_784 (lv_at hl 11 rfl) ?_
          refine L_ld X h 0 hx (by omega) dL_law_786 ?_
          rw [hw]
          refine lv_icmp_le (tgt := 794) X.1.1 X.1.2.1 dL_law_787 (by decide) (fun c => absurd c (nI_ge (by omega) (by omega))) (fun _ => ?_)
          refine lv_iconst (v := 1) X.1.1 X.1.2.1 dL_law_790 (by decide) ?_
          refine lv_goto (tgt := 795) X.1.1 X.1.2.1 dL_law_791 (by decide) ?_
          refine lv_istore (lv' := [(19, .int 1), (0, .ref b), (1, .ref (ad Z 0)), (2, .int (nI nb)), (3, .int (nI n)), (4, .ref aW), (5, .int (nI t)), (9, .ref aD), (10, .int x10), (11, .int x11), (12, .int x12), (13, .int x13), (14, .int (nI k))]) X.1.1 X.1.2.1 dL_law_795 hl (by decide) rfl (fun ls hl => ?_)
          refine lv_aload_n X.1.1 X.1.2.1 dL_law_797 rfl (lv_at hl 2 rfl) ?_
          refine lv_iload X.1.1 X.1.2.1 dL_law_798 (lv_at hl 12 rfl) ?_
          refine lv_bipush (v := 9) X.1.1 X.1.2.1 dL_law_800 (by decide) ?_
          refine L_ofTrain (rest := []) X h hl.1 hV hL hn (by omega) hk (j := 9) (by decide) (v := (nI (w + 1))) h43 (Nat.le_of_ble_eq_true rfl) hf dL_law_802 ?_
          refine lv_aload X.1.1 X.1.2.1 dL_law_805 (lv_at hl 5 rfl) ?_
          refine lv_iload X.1.1 X.1.2.1 dL_law_807 (lv_at hl 12 rfl) ?_
          refine L_ld X h 0 hx (by omega) dL_law_809 ?_
          rw [hw]
          refine lv_iconst (v := 1) X.1.1 X.1.2.1 dL_law_810 (by decide) ?_
          refine lv_iadd X.1.1 X.1.2.1 dL_law_811 ?_
          rw [show (nI w) + 1 = (nI (w + 1)) from nI_1 w]
          refine lv_icmp_gt (tgt := 874) X.1.1 X.1.2.1 dL_law_812 (by decide) (fun c => absurd c (nI_nlt (Nat.le_refl _) (by omega))) (fun _ => ?_)
          refine lv_iload X.1.1 X.1.2.1 dL_law_815 (lv_at hl 0 rfl) ?_
          refine lv_aload_n X.1.1 X.1.2.1 dL_law_817 rfl (lv_at hl 2 rfl) ?_
          refine lv_iload X.1.1 X.1.2.1 dL_law_818 (lv_at hl 12 rfl) ?_
          refine lv_bipush (v := 10) X.1.1 X.1.2.1 dL_law_820 (by decide) ?_
          refine L_ofTrain (rest := [.int 1]) X h hl.1 hV hL hn (by omega) hk (j := 10) (by decide) (v := 0) (by show oneF (b2i (readyF T k)) = 0; rw [hr]; rfl) (Nat.le_of_ble_eq_true rfl) hf dL_law_822 ?_
          refine lv_iconst (v := 1) X.1.1 X.1.2.1 dL_law_825 (by decide) ?_
          refine lv_icmp_eq (tgt := 841) X.1.1 X.1.2.1 dL_law_826 (by decide) (fun c => absurd c (by decide)) (fun _ => ?_)
          refine lv_aload_n X.1.1 X.1.2.1 dL_law_829 rfl (lv_at hl 2 rfl) ?_
          refine lv_iload X.1.1 X.1.2.1 dL_law_830 (lv_at hl 12 rfl) ?_
          refine lv_bipush (v := 11) X.1.1 X.1.2.1 dL_law_832 (by decide) ?_
          refine L_ofTrain (rest := [.int 1]) X h hl.1 hV hL hn (by omega) hk (j := 11) (by decide) (v := 1) (by show oneF (b2i (atEndF T k)) = 1; rw [ha]; rfl) (Nat.le_of_ble_eq_true rfl) hf dL_law_834 ?_
          refine lv_iconst (v := 1) X.1.1 X.1.2.1 dL_law_837 (by decide) ?_
          refine lv_icmp_ne (tgt := 845) X.1.1 X.1.2.1 dL_law_838 (by decide) (fun c => absurd c (not_not_intro rfl)) (fun _ => ?_)
          refine lv_iconst (v := 1) X.1.1 X.1.2.1 dL_law_841 (by decide) ?_
          refine lv_goto (tgt := 846) X.1.1 X.1.2.1 dL_law_842 (by decide) ?_
          refine lv_icmp_ne (tgt := 874) X.1.1 X.1.2.1 dL_law_846 (by decide) (fun c => absurd c (by decide)) (fun _ => ?_)
          refine lv_aload_n X.1.1 X.1.2.1 dL_law_849 rfl (lv_at hl 2 rfl) ?_
          refine lv_iload X.1.1 X.1.2.1 dL_law_850 (lv_at hl 12 rfl) ?_
          refine L_waitsFor (rest := []) X h hl.1 hV hL hn (by omega) hk (v := (nI q)) h44 (Nat.le_of_ble_eq_true rfl) hf dL_law_852 ?_
          refine lv_if_lt (tgt := 863) X.1.1 X.1.2.1 dL_law_855 (by decide) (fun c => absurd c (nI_pos (by omega))) (fun _ => ?_)
          refine lv_iload X.1.1 X.1.2.1 dL_law_858 (lv_at hl 0 rfl) ?_
          refine lv_if_eq (tgt := 874) X.1.1 X.1.2.1 dL_law_860 (by decide) (fun c => absurd c (by decide)) (fun _ => ?_)
          refine lv_aload_n X.1.1 X.1.2.1 dL_law_863 rfl (lv_at hl 2 rfl) ?_
          refine lv_iload X.1.1 X.1.2.1 dL_law_864 (lv_at hl 12 rfl) ?_
          refine L_waitsFor (rest := []) X h hl.1 hV hL hn (by omega) hk (v := (nI q)) h44 (Nat.le_of_ble_eq_true rfl) hf dL_law_866 ?_
          refine lv_iload X.1.1 X.1.2.1 dL_law_869 (lv_at hl 12 rfl) ?_
          refine lv_icmp_ne (tgt := 876) X.1.1 X.1.2.1 dL_law_871 (by decide) (fun _ => ?_) (fun c => absurd c hqne)
          exact kk ls (lv_sub hl [1, 2, 3, 4, 5, 6, 7, 8, 9, 10, 11, 12] rfl)
      · rcases h44 with h44 | ⟨q, hq, hqk, h44⟩
        · refine lv_aload_n X.1.1 X.1.2.1 dL_law_774 rfl (lv_at hl 1 rfl) ?_
          refine lv_iload X.1.1 X.1.2.1 dL_law_775 (lv_at hl 11 rfl) ?_
          refine lv_bipush (v := 9) X.1.1 X.1.2.1 dL_law_777 (by decide) ?_
          refine L_ofTrain (rest := []) X h hl.1 hV hL hn (by omega) hk (j := 9) (by decide) (v := (nI (w + 1))) h43 (Nat.le_of_ble_eq_true rfl) hf dL_law_779 ?_
          refine lv_aload X.1.1 X.1.2.1 dL_law_782 (lv_at hl 4 rfl) ?_
          refine lv_iload X.1.1 X.1.2.1 dL_law_784 (lv_at hl 11 rfl) ?_
          refine L_ld X h 0 hx (by omega) dL_law_786 ?_
          rw [hw]
          refine lv_icmp_le (tgt := 794) X.1.1 X.1.2.1 dL_law_787 (by decide) (fun c => absurd c (nI_ge (by omega) (by omega))) (fun _ => ?_)
          refine lv_iconst (v := 1) X.1.1 X.1.2.1 dL_law_790 (by decide) ?_
          refine lv_goto (tgt := 795) X.1.1 X.1.2.1 dL_law_791 (by decide) ?_
          refine lv_istore (lv' := [(19, .int 1), (0, .ref b), (1, .ref (ad Z 0)), (2, .int (nI nb)), (3, .int (nI n)), (4, .ref aW), (5, .int (nI t)), (9, .ref aD), (10, .int x10), (11, .int x11), (12, .int x12), (13, .int x13), (14, .int (nI k))]) X.1.1 X.1.2.1 dL_law_795 hl (by decide) rfl (fun ls hl => ?_)
          refine lv_aload_n X.1.1 X.1.2.1 dL_law_797 rfl (lv_at hl 2 rfl) ?_
          refine lv_iload X.1.1 X.1.2.1 dL_law_798 (lv_at hl 12 rfl) ?_
          refine lv_bipush (v := 9) X.1.1 X.1.2.1 dL_law_800 (by decide) ?_
          refine L_ofTrain (rest := []) X h hl.1 hV hL hn (by omega) hk (j := 9) (by decide) (v := (nI (w + 1))) h43 (Nat.le_of_ble_eq_true rfl) hf dL_law_802 ?_
          refine lv_aload X.1.1 X.1.2.1 dL_law_805 (lv_at hl 5 rfl) ?_
          refine lv_iload X.1.1 X.1.2.1 dL_law_807 (lv_at hl 12 rfl) ?_
          refine L_ld X h 0 hx (by omega) dL_law_809 ?_
          rw [hw]
          refine lv_iconst (v := 1) X.1.1 X.1.2.1 dL_law_810 (by decide) ?_
          refine lv_iadd X.1.1 X.1.2.1 dL_law_811 ?_
          rw [show (nI w) + 1 = (nI (w + 1)) from nI_1 w]
          refine lv_icmp_gt (tgt := 874) X.1.1 X.1.2.1 dL_law_812 (by decide) (fun c => absurd c (nI_nlt (Nat.le_refl _) (by omega))) (fun _ => ?_)
          refine lv_iload X.1.1 X.1.2.1 dL_law_815 (lv_at hl 0 rfl) ?_
          refine lv_aload_n X.1.1 X.1.2.1 dL_law_817 rfl (lv_at hl 2 rfl) ?_
          refine lv_iload X.1.1 X.1.2.1 dL_law_818 (lv_at hl 12 rfl) ?_
          refine lv_bipush (v := 10) X.1.1 X.1.2.1 dL_law_820 (by decide) ?_
          refine L_ofTrain (rest := [.int 1]) X h hl.1 hV hL hn (by omega) hk (j := 10) (by decide) (v := 1) (by show oneF (b2i (readyF T k)) = 1; rw [hr]; rfl) (Nat.le_of_ble_eq_true rfl) hf dL_law_822 ?_
          refine lv_iconst (v := 1) X.1.1 X.1.2.1 dL_law_825 (by decide) ?_
          refine lv_icmp_eq (tgt := 841) X.1.1 X.1.2.1 dL_law_826 (by decide) (fun _ => ?_) (fun c => absurd rfl c)
          refine lv_iconst (v := 1) X.1.1 X.1.2.1 dL_law_841 (by decide) ?_
          refine lv_goto (tgt := 846) X.1.1 X.1.2.1 dL_law_842 (by decide) ?_
          refine lv_icmp_ne (tgt := 874) X.1.1 X.1.2.1 dL_law_846 (by decide) (fun c => absurd c (by decide)) (fun _ => ?_)
          refine lv_aload_n X.1.1 X.1.2.1 dL_law_849 rfl (lv_at hl 2 rfl) ?_
          refine lv_iload X.1.1 X.1.2.1 dL_law_850 (lv_at hl 12 rfl) ?_
          refine L_waitsFor (rest := []) X h hl.1 hV hL hn (by omega) hk (v := (-1)) h44 (Nat.le_of_ble_eq_true rfl) hf dL_law_852 ?_
          refine lv_if_lt (tgt := 863) X.1.1 X.1.2.1 dL_law_855 (by decide) (fun _ => ?_) (fun c => absurd (by decide) c)
          refine lv_aload_n X.1.1 X.1.2.1 dL_law_863 rfl (lv_at hl 2 rfl) ?_
          refine lv_iload X.1.1 X.1.2.1 dL_law_864 (lv_at hl 12 rfl) ?_
          refine L_waitsFor (rest := []) X h hl.1 hV hL hn (by omega) hk (v := (-1)) h44 (Nat.le_of_ble_eq_true rfl) hf dL_law_866 ?_
          refine lv_iload X.1.1 X.1.2.1 dL_law_869 (lv_at hl 12 rfl) ?_
          refine lv_icmp_ne (tgt := 876) X.1.1 X.1.2.1 dL_law_871 (by decide) (fun _ => ?_) (fun c => absurd c hne)
          exact kk ls (lv_sub hl [1, 2, 3, 4, 5, 6, 7, 8, 9, 10, 11, 12] rfl)
        · have hqne : ¬ nI q = nI k := fun e => hqk (nI_inj (by omega) (by omega) e)
          refine lv_aload_n X.1.1 X.1.2.1 dL_law_774 rfl (lv_at hl 1 rfl) ?_
          refine lv_iload X.1.1 X.1.2.1 dL_law_775 (lv_at hl 11 rfl) ?_
          refine lv_bipush (v := 9) X.1.1 X.1.2.1 dL_law_777 (by decide) ?_
          refine L_ofTrain (rest := []) X h hl.1 hV hL hn (by omega) hk (j := 9) (by decide) (v := (nI (w + 1))) h43 (Nat.le_of_ble_eq_true rfl) hf dL_law_779 ?_
          refine lv_aload X.1.1 X.1.2.1 dL_law_782 (lv_at hl 4 rfl) ?_
          refine lv_iload X.1.1 X.1.2.1 dL_law_784 (lv_at hl 11 rfl) ?_
          refine L_ld X h 0 hx (by omega) dL_law_786 ?_
          rw [hw]
          refine lv_icmp_le (tgt := 794) X.1.1 X.1.2.1 dL_law_787 (by decide) (fun c => absurd c (nI_ge (by omega) (by omega))) (fun _ => ?_)
          refine lv_iconst (v := 1) X.1.1 X.1.2.1 dL_law_790 (by decide) ?_
          refine lv_goto (tgt := 795) X.1.1 X.1.2.1 dL_law_791 (by decide) ?_
          refine lv_istore (lv' := [(19, .int 1), (0, .ref b), (1, .ref (ad Z 0)), (2, .int (nI nb)), (3, .int (nI n)), (4, .ref aW), (5, .int (nI t)), (9, .ref aD), (10, .int x10), (11, .int x11), (12, .int x12), (13, .int x13), (14, .int (nI k))]) X.1.1 X.1.2.1 dL_law_795 hl (by decide) rfl (fun ls hl => ?_)
          refine lv_aload_n X.1.1 X.1.2.1 dL_law_797 rfl (lv_at hl 2 rfl) ?_
          refine lv_iload X.1.1 X.1.2.1 dL_law_798 (lv_at hl 12 rfl) ?_
          refine lv_bipush (v := 9) X.1.1 X.1.2.1 dL_law_800 (by decide) ?_
          refine L_ofTrain (rest := []) X h hl.1 hV hL hn (by omega) hk (j := 9) (by decide) (v := (nI (w + 1))) h43 (Nat.le_of_ble_eq_true rfl) hf dL_law_802 ?_
          refine lv_aload X.1.1 X.1.2.1 dL_law_805 (lv_at hl 5 rfl) ?_
          refine lv_iload X.1.1 X.1.2.1 dL_law_807 (lv_at hl 12 rfl) ?_
          refine L_ld X h 0 hx (by omega) dL_law_809 ?_
          rw [hw]
          refine lv_iconst (v := 1) X.1.1 X.1.2.1 dL_law_810 (by decide) ?_
          refine lv_iadd X.1.1 X.1.2.1 dL_law_811 ?_
          rw [show (nI w) + 1 = (nI (w + 1)) from nI_1 w]
          refine lv_icmp_gt (tgt := 874) X.1.1 X.1.2.1 dL_law_812 (by decide) (fun c => absurd c (nI_nlt (Nat.le_refl _) (by omega))) (fun _ => ?_)
          refine lv_iload X.1.1 X.1.2.1 dL_law_815 (lv_at hl 0 rfl) ?_
          refine lv_aload_n X.1.1 X.1.2.1 dL_law_817 rfl (lv_at hl 2 rfl) ?_
          refine lv_iload X.1.1 X.1.2.1 dL_law_818 (lv_at hl 12 rfl) ?_
          refine lv_bipush (v := 10) X.1.1 X.1.2.1 dL_law_820 (by decide) ?_
          refine L_ofTrain (rest := [.int 1]) X h hl.1 hV hL hn (by omega) hk (j := 10) (by decide) (v := 1) (by show oneF (b2i (readyF T k)) = 1; rw [hr]; rfl) (Nat.le_of_ble_eq_true rfl) hf dL_law_822 ?_
          refine lv_iconst (v := 1) X.1.1 X.1.2.1 dL_law_825 (by decide) ?_
          refine lv_icmp_eq (tgt := 841) X.1.1 X.1.2.1 dL_law_826 (by decide) (fun _ => ?_) (fun c => absurd rfl c)
          refine lv_iconst (v := 1) X.1.1 X.1.2.1 dL_law_841 (by decide) ?_
          refine lv_goto (tgt := 846) X.1.1 X.1.2.1 dL_law_842 (by decide) ?_
          refine lv_icmp_ne (tgt := 874) X.1.1 X.1.2.1 dL_law_846 (by decide) (fun c => absurd c (by decide)) (fun _ => ?_)
          refine lv_aload_n X.1.1 X.1.2.1 dL_law_849 rfl (lv_at hl 2 rfl) ?_
          refine lv_iload X.1.1 X.1.2.1 dL_law_850 (lv_at hl 12 rfl) ?_
          refine L_waitsFor (rest := []) X h hl.1 hV hL hn (by omega) hk (v := (nI q)) h44 (Nat.le_of_ble_eq_true rfl) hf dL_law_852 ?_
          refine lv_if_lt (tgt := 863) X.1.1 X.1.2.1 dL_law_855 (by decide) (fun c => absurd c (nI_pos (by omega))) (fun _ => ?_)
          refine lv_iload X.1.1 X.1.2.1 dL_law_858 (lv_at hl 0 rfl) ?_
          refine lv_if_eq (tgt := 874) X.1.1 X.1.2.1 dL_law_860 (by decide) (fun c => absurd c (by decide)) (fun _ => ?_)
          refine lv_aload_n X.1.1 X.1.2.1 dL_law_863 rfl (lv_at hl 2 rfl) ?_
          refine lv_iload X.1.1 X.1.2.1 dL_law_864 (lv_at hl 12 rfl) ?_
          refine L_waitsFor (rest := []) X h hl.1 hV hL hn (by omega) hk (v := (nI q)) h44 (Nat.le_of_ble_eq_true rfl) hf dL_law_866 ?_
          refine lv_iload X.1.1 X.1.2.1 dL_law_869 (lv_at hl 12 rfl) ?_
          refine lv_icmp_ne (tgt := 876) X.1.1 X.1.2.1 dL_law_871 (by decide) (fun _ => ?_) (fun c => absurd c hqne)
          exact kk ls (lv_sub hl [1, 2, 3, 4, 5, 6, 7, 8, 9, 10, 11, 12] rfl)
  · refine lv_aload_n X.1.1 X.1.2.1 dL_law_774 rfl (lv_at hl 1 rfl) ?_
    refine lv_iload X.1.1 X.1.2.1 dL_law_775 (lv_at hl 11 rfl) ?_
    refine lv_bipush (v := 9) X.1.1 X.1.2.1 dL_law_777 (by decide) ?_
    refine L_ofTrain (rest := []) X h hl.1 hV hL hn (by omega) hk (j := 9) (by decide) (v := (nI w)) h43 (Nat.le_of_ble_eq_true rfl) hf dL_law_779 ?_
    refine lv_aload X.1.1 X.1.2.1 dL_law_782 (lv_at hl 4 rfl) ?_
    refine lv_iload X.1.1 X.1.2.1 dL_law_784 (lv_at hl 11 rfl) ?_
    refine L_ld X h 0 hx (by omega) dL_law_786 ?_
    rw [hw]
    refine lv_icmp_le (tgt := 794) X.1.1 X.1.2.1 dL_law_787 (by decide) (fun _ => ?_) (fun c => absurd (nI_le (Nat.le_refl _) (by omega)) c)
    refine lv_iconst (v := 0) X.1.1 X.1.2.1 dL_law_794 (by decide) ?_
    refine lv_istore (lv' := [(19, .int 0), (0, .ref b), (1, .ref (ad Z 0)), (2, .int (nI nb)), (3, .int (nI n)), (4, .ref aW), (5, .int (nI t)), (9, .ref aD), (10, .int x10), (11, .int x11), (12, .int x12), (13, .int x13), (14, .int (nI k))]) X.1.1 X.1.2.1 dL_law_795 hl (by decide) rfl (fun ls hl => ?_)
    refine lv_aload_n X.1.1 X.1.2.1 dL_law_797 rfl (lv_at hl 2 rfl) ?_
    refine lv_iload X.1.1 X.1.2.1 dL_law_798 (lv_at hl 12 rfl) ?_
    refine lv_bipush (v := 9) X.1.1 X.1.2.1 dL_law_800 (by decide) ?_
    refine L_ofTrain (rest := []) X h hl.1 hV hL hn (by omega) hk (j := 9) (by decide) (v := (nI w)) h43 (Nat.le_of_ble_eq_true rfl) hf dL_law_802 ?_
    refine lv_aload X.1.1 X.1.2.1 dL_law_805 (lv_at hl 5 rfl) ?_
    refine lv_iload X.1.1 X.1.2.1 dL_law_807 (lv_at hl 12 rfl) ?_
    refine L_ld X h 0 hx (by omega) dL_law_809 ?_
    rw [hw]
    refine lv_iconst (v := 1) X.1.1 X.1.2.1 dL_law_810 (by decide) ?_
    refine lv_iadd X.1.1 X.1.2.1 dL_law_811 ?_
    rw [show (nI w) + 1 = (nI (w + 1)) from nI_1 w]
    refine lv_icmp_gt (tgt := 874) X.1.1 X.1.2.1 dL_law_812 (by decide) (fun c => absurd c (nI_nlt (by omega) (by omega))) (fun _ => ?_)
    refine lv_iload X.1.1 X.1.2.1 dL_law_815 (lv_at hl 0 rfl) ?_
    refine lv_aload_n X.1.1 X.1.2.1 dL_law_817 rfl (lv_at hl 2 rfl) ?_
    refine lv_iload X.1.1 X.1.2.1 dL_law_818 (lv_at hl 12 rfl) ?_
    refine lv_bipush (v := 10) X.1.1 X.1.2.1 dL_law_820 (by decide) ?_
    refine L_ofTrain (rest := [.int 0]) X h hl.1 hV hL hn (by omega) hk (j := 10) (by decide) (v := 0) (by show oneF (b2i (readyF T k)) = 0; rw [hr]; rfl) (Nat.le_of_ble_eq_true rfl) hf dL_law_822 ?_
    refine lv_iconst (v := 1) X.1.1 X.1.2.1 dL_law_825 (by decide) ?_
    refine lv_icmp_eq (tgt := 841) X.1.1 X.1.2.1 dL_law_826 (by decide) (fun c => absurd c (by decide)) (fun _ => ?_)
    refine lv_aload_n X.1.1 X.1.2.1 dL_law_829 rfl (lv_at hl 2 rfl) ?_
    refine lv_iload X.1.1 X.1.2.1 dL_law_830 (lv_at hl 12 rfl) ?_
    refine lv_bipush (v := 11) X.1.1 X.1.2.1 dL_law_832 (by decide) ?_
    refine L_ofTrain (rest := [.int 0]) X h hl.1 hV hL hn (by omega) hk (j := 11) (by decide) (v := 0) (by show oneF (b2i (atEndF T k)) = 0; rw [ha]; rfl) (Nat.le_of_ble_eq_true rfl) hf dL_law_834 ?_
    refine lv_iconst (v := 1) X.1.1 X.1.2.1 dL_law_837 (by decide) ?_
    refine lv_icmp_ne (tgt := 845) X.1.1 X.1.2.1 dL_law_838 (by decide) (fun _ => ?_) (fun c => absurd c (by decide))
    refine lv_iconst (v := 0) X.1.1 X.1.2.1 dL_law_845 (by decide) ?_
    refine lv_icmp_ne (tgt := 874) X.1.1 X.1.2.1 dL_law_846 (by decide) (fun c => absurd c (by decide)) (fun _ => ?_)
    refine lv_aload_n X.1.1 X.1.2.1 dL_law_849 rfl (lv_at hl 2 rfl) ?_
    refine lv_iload X.1.1 X.1.2.1 dL_law_850 (lv_at hl 12 rfl) ?_
    refine L_waitsFor (rest := []) X h hl.1 hV hL hn (by omega) hk (v := (-1)) h44 (Nat.le_of_ble_eq_true rfl) hf dL_law_852 ?_
    refine lv_if_lt (tgt := 863) X.1.1 X.1.2.1 dL_law_855 (by decide) (fun _ => ?_) (fun c => absurd (by decide) c)
    refine lv_aload_n X.1.1 X.1.2.1 dL_law_863 rfl (lv_at hl 2 rfl) ?_
    refine lv_iload X.1.1 X.1.2.1 dL_law_864 (lv_at hl 12 rfl) ?_
    refine L_waitsFor (rest := []) X h hl.1 hV hL hn (by omega) hk (v := (-1)) h44 (Nat.le_of_ble_eq_true rfl) hf dL_law_866 ?_
    refine lv_iload X.1.1 X.1.2.1 dL_law_869 (lv_at hl 12 rfl) ?_
    refine lv_icmp_ne (tgt := 876) X.1.1 X.1.2.1 dL_law_871 (by decide) (fun _ => ?_) (fun c => absurd c hne)
    exact kk ls (lv_sub hl [1, 2, 3, 4, 5, 6, 7, 8, 9, 10, 11, 12] rfl)
end CHECKB
