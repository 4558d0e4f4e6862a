/-! The law's checks of a train. -/
section CHECK
theorem nI_ge0 {a : Nat} (h : a < 2 ^ 31) : 0 ≤ nI a := nI_pos' h
theorem blk_v {S0 T : St} {bb n k r p : Nat} (C : Stc S0 bb n) (I : Inv bb n S0 T) (hk : k < n) (O : On S0 T k r p) : blockQ T (sB S0 r p) 1 = nI k := I.2.2.1 k r p hk O
theorem sta_v {S0 T : St} {bb n k ls x : Nat} (C : Stc S0 bb n) (F : Fr bb n S0 T) (hk : k < n) (hls : ls < sP S0 k) (h : S0 33 k ls = nI x) : planF T k (nI ls) 0 = nI x := by
  have hs := C.stp hk
  unfold planF stationF
  rw [if_pos rfl, if_neg (nI_pos (by omega)), if_neg (show ¬ (8 : Int32) ≤ nI ls from le_no (a := 8) (by omega) (by omega)), nI_clamp (by omega), F.st (by decide), h]
theorem ready_01 (b : Bool) : oneF (b2i b) = b2i b := by cases b <;> rfl
set_option maxHeartbeats 4000000 in
set_option maxRecDepth 20000 in
theorem seg_A {p : Program} {e : Env} {s : State} {m : MethodId} {b : Nat} {below : List Frame} {meth : Method} {c : Code} {Z : Gm} {L : Nat} {xs : Nat → Int32} (l : Launch) (X : LC Z p s m c b L xs) {S0 T : St} {nb n t k aW aD : Nat} {g : Nat → Int32} {x10 x11 x12 x13 : Int32} (C : Stc S0 nb n) (I : Inv nb n S0 T) {V : Nat → St} (hV : V 0 = T) (hk : k < n) {ex : va_W} {H : Heap} {locs : List Loc} (h : LH Z V ex s H locs) (hg : ex[1]? = some (aD, .inl (Z.2.2.1, 5, .inl g))) (hgd : g k < 0 ↔ doneF T k = false) {cells slots : Nat} (hf : cells ≤ 630607 ∧ slots ≤ 7209803) {Q : State → Prop} {ls : Array Slot} (hl : lv_has ls 22 [(0, .ref b), (1, .ref (ad Z 0)), (2, .int (nI nb)), (3, .int (nI n)), (4, .ref aW), (5, .int (nI t)), (9, .ref aD), (10, .int x10), (11, .int x11), (12, .int x12), (13, .int x13), (14, .int (nI k))])
    (kk : ∀ (v15 v16 v18 : Int32) (ls : Array Slot), (v15 < 0 ↔ atStF T k = false) → (v16 < 0 ↔ onBlockF T k = false) → (v18 = 0 ↔ doneF T k = false) → lv_has ls 22 [(15, .int v15), (16, .int v16), (18, .int v18), (0, .ref b), (1, .ref (ad Z 0)), (2, .int (nI nb)), (3, .int (nI n)), (4, .ref aW), (5, .int (nI t)), (9, .ref aD), (10, .int x10), (11, .int x11), (12, .int x12), (13, .int x13), (14, .int (nI k))] → W p l e room_1 s m #[Value.ref b] below meth c H locs cells slots Q (F0 m 710 ls [])) : W p l e room_1 s m #[Value.ref b] below meth c H locs cells slots Q (F0 m 525 ls []) := by
  have F := I.1
  have hL := Lim_F C F
  have hn := nT_F C F
  have hn5 := C.n5
  have hb16 := C.b16
  have hB : (T 2 0 0).toNatClampNeg = nb := nB_F C F
  have hst := C.stp hk
  have hs8 := hst.2.2
  rcases I.2.1 k hk with A | ⟨r, p, O⟩ | D
  · obtain ⟨x, lst, hx, hls, h36, h38, h40, h35, h33⟩ := id A
    have hd0 : doneF T k = false := decide_eq_false fun q => A.n36 q.1
    have hat : atStF T k = true := decide_eq_true A.n36
    have hon : onBlockF T k = false := onB_f h38
    have hgk : g k < 0 := hgd.mpr hd0
    refine lv_aload_n X.1.1 X.1.2.1 dL_law_525 rfl (lv_at hl 1 rfl) ?_
    refine lv_iload X.1.1 X.1.2.1 dL_law_526 (lv_at hl 11 rfl) ?_
    refine lv_iconst (v := 4) X.1.1 X.1.2.1 dL_law_528 (by decide) ?_
    refine L_ofTrain (rest := []) X h hl.1 hV hL hn (by omega) hk (j := 4) (by decide) (v := (nI x)) h36 (Nat.le_of_ble_eq_true rfl) hf dL_law_529 ?_
    refine lv_istore (lv' := [(15, .int (nI x)), (0, .ref b), (1, .ref (ad Z 0)), (2, .int (nI nb)), (3, .int (nI n)), (4, .ref aW), (5, .int (nI t)), (9, .ref aD), (10, .int x10), (11, .int x11), (12, .int x12), (13, .int x13), (14, .int (nI k))]) X.1.1 X.1.2.1 dL_law_532 hl (by decide) rfl (fun ls hl => ?_)
    refine lv_aload_n X.1.1 X.1.2.1 dL_law_534 rfl (lv_at hl 2 rfl) ?_
    refine lv_iload X.1.1 X.1.2.1 dL_law_535 (lv_at hl 12 rfl) ?_
    refine lv_iconst (v := 5) X.1.1 X.1.2.1 dL_law_537 (by decide) ?_
    refine L_ofTrain (rest := []) X h hl.1 hV hL hn (by omega) hk (j := 5) (by decide) (v := (-1)) (under_off h38) (Nat.le_of_ble_eq_true rfl) hf dL_law_538 ?_
    refine lv_istore (lv' := [(16, .int (-1)), (15, .int (nI x)), (0, .ref b), (1, .ref (ad Z 0)), (2, .int (nI nb)), (3, .int (nI n)), (4, .ref aW), (5, .int (nI t)), (9, .ref aD), (10, .int x10), (11, .int x11), (12, .int x12), (13, .int x13), (14, .int (nI k))]) X.1.1 X.1.2.1 dL_law_541 hl (by decide) rfl (fun ls hl => ?_)
    refine lv_aload_n X.1.1 X.1.2.1 dL_law_543 rfl (lv_at hl 3 rfl) ?_
    refine lv_iload X.1.1 X.1.2.1 dL_law_544 (lv_at hl 13 rfl) ?_
    refine lv_bipush (v := 6) X.1.1 X.1.2.1 dL_law_546 (by decide) ?_
    refine L_ofTrain (rest := []) X h hl.1 hV hL hn (by omega) hk (j := 6) (by decide) (v := (-1)) h38 (Nat.le_of_ble_eq_true rfl) hf dL_law_548 ?_
    refine lv_istore (lv' := [(17, .int (-1)), (16, .int (-1)), (15, .int (nI x)), (0, .ref b), (1, .ref (ad Z 0)), (2, .int (nI nb)), (3, .int (nI n)), (4, .ref aW), (5, .int (nI t)), (9, .ref aD), (10, .int x10), (11, .int x11), (12, .int x12), (13, .int x13), (14, .int (nI k))]) X.1.1 X.1.2.1 dL_law_551 hl (by decide) rfl (fun ls hl => ?_)
    refine lv_iload X.1.1 X.1.2.1 dL_law_553 (lv_at hl 2 rfl) ?_
    refine lv_if_ge (tgt := 567) X.1.1 X.1.2.1 dL_law_555 (by decide) (fun _ => ?_) (fun c => absurd (nI_ge0 (by omega)) c)
    refine lv_iconst (v := 0) X.1.1 X.1.2.1 dL_law_567 (by decide) ?_
    refine lv_istore (lv' := [(18, .int 0), (17, .int (-1)), (16, .int (-1)), (15, .int (nI x)), (0, .ref b), (1, .ref (ad Z 0)), (2, .int (nI nb)), (3, .int (nI n)), (4, .ref aW), (5, .int (nI t)), (9, .ref aD), (10, .int x10), (11, .int x11), (12, .int x12), (13, .int x13), (14, .int (nI k))]) X.1.1 X.1.2.1 dL_law_568 hl (by decide) rfl (fun ls hl => ?_)
    refine lv_iload X.1.1 X.1.2.1 dL_law_570 (lv_at hl 2 rfl) ?_
    refine lv_if_lt (tgt := 608) X.1.1 X.1.2.1 dL_law_572 (by decide) (fun _ => ?_) (fun c => absurd (by decide) c)
    refine lv_iload X.1.1 X.1.2.1 dL_law_608 (lv_at hl 2 rfl) ?_
    refine lv_if_ge (tgt := 642) X.1.1 X.1.2.1 dL_law_610 (by decide) (fun c => absurd c (by decide)) (fun _ => ?_)
    refine lv_iload X.1.1 X.1.2.1 dL_law_613 (lv_at hl 1 rfl) ?_
    refine lv_if_ge (tgt := 640) X.1.1 X.1.2.1 dL_law_615 (by decide) (fun c => absurd c (by decide)) (fun _ => ?_)
    refine lv_aload_n X.1.1 X.1.2.1 dL_law_618 rfl (lv_at hl 5 rfl) ?_
    refine lv_iload X.1.1 X.1.2.1 dL_law_619 (lv_at hl 15 rfl) ?_
    refine lv_bipush (v := 7) X.1.1 X.1.2.1 dL_law_621 (by decide) ?_
    refine L_ofTrain (rest := []) X h hl.1 hV hL hn (by omega) hk (j := 7) (by decide) (v := 0) h40 (Nat.le_of_ble_eq_true rfl) hf dL_law_623 ?_
    refine lv_if_ne (tgt := 640) X.1.1 X.1.2.1 dL_law_626 (by decide) (fun c => absurd c (by decide)) (fun _ => ?_)
    refine lv_aload_n X.1.1 X.1.2.1 dL_law_629 rfl (lv_at hl 5 rfl) ?_
    refine lv_iload X.1.1 X.1.2.1 dL_law_630 (lv_at hl 15 rfl) ?_
    refine lv_bipush (v := 11) X.1.1 X.1.2.1 dL_law_632 (by decide) ?_
    refine L_ofTrain (rest := []) X h hl.1 hV hL hn (by omega) hk (j := 11) (by decide) (v := 0) (by show oneF (b2i (atEndF T k)) = 0; rw [atEnd_f38 h38]; rfl) (Nat.le_of_ble_eq_true rfl) hf dL_law_634 ?_
    refine lv_if_eq (tgt := 642) X.1.1 X.1.2.1 dL_law_637 (by decide) (fun _ => ?_) (fun c => absurd rfl c)
    refine lv_iload X.1.1 X.1.2.1 dL_law_642 (lv_at hl 0 rfl) ?_
    refine lv_aload X.1.1 X.1.2.1 dL_law_644 (lv_at hl 10 rfl) ?_
    refine lv_iload X.1.1 X.1.2.1 dL_law_646 (lv_at hl 15 rfl) ?_
    refine L_ld X h 1 hg (by omega) dL_law_648 ?_
    refine lv_if_lt (tgt := 656) X.1.1 X.1.2.1 dL_law_649 (by decide) (fun _ => ?_) (fun c => absurd hgk c)
    refine lv_iconst (v := 0) X.1.1 X.1.2.1 dL_law_656 (by decide) ?_
    refine lv_icmp_ne (tgt := 708) X.1.1 X.1.2.1 dL_law_657 (by decide) (fun c => absurd c (by decide)) (fun _ => ?_)
    refine lv_iload X.1.1 X.1.2.1 dL_law_660 (lv_at hl 0 rfl) ?_
    refine lv_if_eq (tgt := 684) X.1.1 X.1.2.1 dL_law_662 (by decide) (fun _ => ?_) (fun c => absurd (by decide) c)
    refine lv_iload X.1.1 X.1.2.1 dL_law_684 (lv_at hl 3 rfl) ?_
    refine lv_if_lt (tgt := 710) X.1.1 X.1.2.1 dL_law_686 (by decide) (fun c => absurd c (nI_pos (by omega))) (fun _ => ?_)
    refine lv_iload X.1.1 X.1.2.1 dL_law_689 (lv_at hl 3 rfl) ?_
    refine lv_aload_n X.1.1 X.1.2.1 dL_law_691 rfl (lv_at hl 5 rfl) ?_
    refine lv_iload X.1.1 X.1.2.1 dL_law_692 (lv_at hl 15 rfl) ?_
    refine lv_aload_n X.1.1 X.1.2.1 dL_law_694 rfl (lv_at hl 5 rfl) ?_
    refine lv_iload X.1.1 X.1.2.1 dL_law_695 (lv_at hl 15 rfl) ?_
    refine lv_iconst (v := 3) X.1.1 X.1.2.1 dL_law_697 (by decide) ?_
    refine L_ofTrain (rest := [.int (nI k), .ref (ad Z 0), .int (nI x)]) X h hl.1 hV hL hn (by omega) hk (j := 3) (by decide) (v := (nI lst)) h35 (Nat.le_of_ble_eq_true rfl) hf dL_law_698 ?_
    refine lv_iconst (v := 0) X.1.1 X.1.2.1 dL_law_701 (by decide) ?_
    refine L_plan (rest := [.int (nI x)]) X h hl.1 hV hL hn (by omega) hk (q := lst) (c0 := sP S0 k) ((F.st (by decide) k 0).trans hst.1) (by omega) hls 0 (v := nI x) (sta_v C F hk hls h33) (Nat.le_of_ble_eq_true rfl) hf dL_law_702 ?_
    refine lv_icmp_eq (tgt := 710) X.1.1 X.1.2.1 dL_law_705 (by decide) (fun _ => ?_) (fun c => absurd rfl c)
    exact kk _ _ _ ls ⟨fun q => absurd q (nI_pos (by omega)), fun q => by rw [hat] at q; cases q⟩ ⟨fun _ => hon, fun _ => by decide⟩ ⟨fun _ => hd0, fun _ => rfl⟩ (lv_sub hl [3, 2, 0, 4, 5, 6, 7, 8, 9, 10, 11, 12, 13, 14, 15] rfl)
  · obtain ⟨lf, lst, hl27, hlf, hls, hls2, -⟩ := O.2.2.2.2.2
    have hBk := C.blk O.1 O.2.1
    have hd0 : doneF T k = false := decide_eq_false fun q => O.n38 q.2
    have hat : atStF T k = false := decide_eq_false fun q => q O.2.2.1
    have hon : onBlockF T k = true := onB_t O
    have hgk : g k < 0 := hgd.mpr hd0
    have hr8 := O.1
    refine lv_aload_n X.1.1 X.1.2.1 dL_law_525 rfl (lv_at hl 1 rfl) ?_
    refine lv_iload X.1.1 X.1.2.1 dL_law_526 (lv_at hl 11 rfl) ?_
    refine lv_iconst (v := 4) X.1.1 X.1.2.1 dL_law_528 (by decide) ?_
    refine L_ofTrain (rest := []) X h hl.1 hV hL hn (by omega) hk (j := 4) (by decide) (v := (-1)) O.2.2.1 (Nat.le_of_ble_eq_true rfl) hf dL_law_529 ?_
    refine lv_istore (lv' := [(15, .int (-1)), (0, .ref b), (1, .ref (ad Z 0)), (2, .int (nI nb)), (3, .int (nI n)), (4, .ref aW), (5, .int (nI t)), (9, .ref aD), (10, .int x10), (11, .int x11), (12, .int x12), (13, .int x13), (14, .int (nI k))]) X.1.1 X.1.2.1 dL_law_532 hl (by decide) rfl (fun ls hl => ?_)
    refine lv_aload_n X.1.1 X.1.2.1 dL_law_534 rfl (lv_at hl 2 rfl) ?_
    refine lv_iload X.1.1 X.1.2.1 dL_law_535 (lv_at hl 12 rfl) ?_
    refine lv_iconst (v := 5) X.1.1 X.1.2.1 dL_law_537 (by decide) ?_
    refine L_ofTrain (rest := []) X h hl.1 hV hL hn (by omega) hk (j := 5) (by decide) (v := (nI (sB S0 r p))) (under_on C F O) (Nat.le_of_ble_eq_true rfl) hf dL_law_538 ?_
    refine lv_istore (lv' := [(16, .int (nI (sB S0 r p))), (15, .int (-1)), (0, .ref b), (1, .ref (ad Z 0)), (2, .int (nI nb)), (3, .int (nI n)), (4, .ref aW), (5, .int (nI t)), (9, .ref aD), (10, .int x10), (11, .int x11), (12, .int x12), (13, .int x13), (14, .int (nI k))]) X.1.1 X.1.2.1 dL_law_541 hl (by decide) rfl (fun ls hl => ?_)
    refine lv_aload_n X.1.1 X.1.2.1 dL_law_543 rfl (lv_at hl 3 rfl) ?_
    refine lv_iload X.1.1 X.1.2.1 dL_law_544 (lv_at hl 13 rfl) ?_
    refine lv_bipush (v := 6) X.1.1 X.1.2.1 dL_law_546 (by decide) ?_
    refine L_ofTrain (rest := []) X h hl.1 hV hL hn (by omega) hk (j := 6) (by decide) (v := (nI r)) O.2.2.2.1 (Nat.le_of_ble_eq_true rfl) hf dL_law_548 ?_
    refine lv_istore (lv' := [(17, .int (nI r)), (16, .int (nI (sB S0 r p))), (15, .int (-1)), (0, .ref b), (1, .ref (ad Z 0)), (2, .int (nI nb)), (3, .int (nI n)), (4, .ref aW), (5, .int (nI t)), (9, .ref aD), (10, .int x10), (11, .int x11), (12, .int x12), (13, .int x13), (14, .int (nI k))]) X.1.1 X.1.2.1 dL_law_551 hl (by decide) rfl (fun ls hl => ?_)
    refine lv_iload X.1.1 X.1.2.1 dL_law_553 (lv_at hl 2 rfl) ?_
    refine lv_if_ge (tgt := 567) X.1.1 X.1.2.1 dL_law_555 (by decide) (fun c => absurd c (by decide)) (fun _ => ?_)
    refine lv_iload X.1.1 X.1.2.1 dL_law_558 (lv_at hl 1 rfl) ?_
    refine lv_if_ge (tgt := 567) X.1.1 X.1.2.1 dL_law_560 (by decide) (fun _ => ?_) (fun c => absurd (nI_ge0 (by omega)) c)
    refine lv_iconst (v := 0) X.1.1 X.1.2.1 dL_law_567 (by decide) ?_
    refine lv_istore (lv' := [(18, .int 0), (17, .int (nI r)), (16, .int (nI (sB S0 r p))), (15, .int (-1)), (0, .ref b), (1, .ref (ad Z 0)), (2, .int (nI nb)), (3, .int (nI n)), (4, .ref aW), (5, .int (nI t)), (9, .ref aD), (10, .int x10), (11, .int x11), (12, .int x12), (13, .int x13), (14, .int (nI k))]) X.1.1 X.1.2.1 dL_law_568 hl (by decide) rfl (fun ls hl => ?_)
    refine lv_iload X.1.1 X.1.2.1 dL_law_570 (lv_at hl 2 rfl) ?_
    refine lv_if_lt (tgt := 608) X.1.1 X.1.2.1 dL_law_572 (by decide) (fun c => absurd c (nI_pos (by omega))) (fun _ => ?_)
    refine lv_iload X.1.1 X.1.2.1 dL_law_575 (lv_at hl 3 rfl) ?_
    refine lv_if_ge (tgt := 640) X.1.1 X.1.2.1 dL_law_577 (by decide) (fun c => absurd c (by decide)) (fun _ => ?_)
    refine lv_aload_n X.1.1 X.1.2.1 dL_law_580 rfl (lv_at hl 5 rfl) ?_
    refine lv_iload X.1.1 X.1.2.1 dL_law_581 (lv_at hl 2 rfl) ?_
    refine lv_iconst (v := 1) X.1.1 X.1.2.1 dL_law_583 (by decide) ?_
    refine L_ofBlock (rest := []) X h hl.1 hV hL hB hb16 hBk.2 (j := 1) (by decide) (v := nI k) (blk_v C I hk O) (Nat.le_of_ble_eq_true rfl) hf dL_law_584 ?_
    refine lv_iload X.1.1 X.1.2.1 dL_law_587 (lv_at hl 15 rfl) ?_
    refine lv_icmp_ne (tgt := 640) X.1.1 X.1.2.1 dL_law_589 (by decide) (fun c => absurd c (not_not_intro rfl)) (fun _ => ?_)
    refine lv_iload X.1.1 X.1.2.1 dL_law_592 (lv_at hl 1 rfl) ?_
    refine lv_if_lt (tgt := 640) X.1.1 X.1.2.1 dL_law_594 (by decide) (fun c => absurd c (nI_pos (by omega))) (fun _ => ?_)
    refine lv_aload_n X.1.1 X.1.2.1 dL_law_597 rfl (lv_at hl 5 rfl) ?_
    refine lv_iload X.1.1 X.1.2.1 dL_law_598 (lv_at hl 15 rfl) ?_
    refine lv_bipush (v := 7) X.1.1 X.1.2.1 dL_law_600 (by decide) ?_
    refine L_ofTrain (rest := []) X h hl.1 hV hL hn (by omega) hk (j := 7) (by decide) (v := (nI lf)) hlf (Nat.le_of_ble_eq_true rfl) hf dL_law_602 ?_
    refine lv_if_lt (tgt := 640) X.1.1 X.1.2.1 dL_law_605 (by decide) (fun c => absurd c (nI_pos (by omega))) (fun _ => ?_)
    refine lv_iload X.1.1 X.1.2.1 dL_law_608 (lv_at hl 2 rfl) ?_
    refine lv_if_ge (tgt := 642) X.1.1 X.1.2.1 dL_law_610 (by decide) (fun _ => ?_) (fun c => absurd (nI_ge0 (by omega)) c)
    refine lv_iload X.1.1 X.1.2.1 dL_law_642 (lv_at hl 0 rfl) ?_
    refine lv_aload X.1.1 X.1.2.1 dL_law_644 (lv_at hl 10 rfl) ?_
    refine lv_iload X.1.1 X.1.2.1 dL_law_646 (lv_at hl 15 rfl) ?_
    refine L_ld X h 1 hg (by omega) dL_law_648 ?_
    refine lv_if_lt (tgt := 656) X.1.1 X.1.2.1 dL_law_649 (by decide) (fun _ => ?_) (fun c => absurd hgk c)
    refine lv_iconst (v := 0) X.1.1 X.1.2.1 dL_law_656 (by decide) ?_
    refine lv_icmp_ne (tgt := 708) X.1.1 X.1.2.1 dL_law_657 (by decide) (fun c => absurd c (by decide)) (fun _ => ?_)
    refine lv_iload X.1.1 X.1.2.1 dL_law_660 (lv_at hl 0 rfl) ?_
    refine lv_if_eq (tgt := 684) X.1.1 X.1.2.1 dL_law_662 (by decide) (fun _ => ?_) (fun c => absurd (by decide) c)
    refine lv_iload X.1.1 X.1.2.1 dL_law_684 (lv_at hl 3 rfl) ?_
    refine lv_if_lt (tgt := 710) X.1.1 X.1.2.1 dL_law_686 (by decide) (fun _ => ?_) (fun c => absurd (by decide) c)
    exact kk _ _ _ ls ⟨fun _ => hat, fun _ => by decide⟩ ⟨fun q => absurd q (nI_pos (by omega)), fun q => by rw [hon] at q; cases q⟩ ⟨fun _ => hd0, fun _ => rfl⟩ (lv_sub hl [3, 2, 0, 4, 5, 6, 7, 8, 9, 10, 11, 12, 13, 14, 15] rfl)
  · obtain ⟨lst, hls, h36, h38, h40, h35⟩ := id D
    have hd1 : doneF T k = true := decide_eq_true ⟨h36, h38⟩
    have hat : atStF T k = false := decide_eq_false fun q => q h36
    have hon : onBlockF T k = false := onB_f h38
    have hgk : ¬ g k < 0 := fun q => by rw [hgd.mp q] at hd1; cases hd1
    refine lv_aload_n X.1.1 X.1.2.1 dL_law_525 rfl (lv_at hl 1 rfl) ?_
    refine lv_iload X.1.1 X.1.2.1 dL_law_526 (lv_at hl 11 rfl) ?_
    refine lv_iconst (v := 4) X.1.1 X.1.2.1 dL_law_528 (by decide) ?_
    refine L_ofTrain (rest := []) X h hl.1 hV hL hn (by omega) hk (j := 4) (by decide) (v := (-1)) h36 (Nat.le_of_ble_eq_true rfl) hf dL_law_529 ?_
    refine lv_istore (lv' := [(15, .int (-1)), (0, .ref b), (1, .ref (ad Z 0)), (2, .int (nI nb)), (3, .int (nI n)), (4, .ref aW), (5, .int (nI t)), (9, .ref aD), (10, .int x10), (11, .int x11), (12, .int x12), (13, .int x13), (14, .int (nI k))]) X.1.1 X.1.2.1 dL_law_532 hl (by decide) rfl (fun ls hl => ?_)
    refine lv_aload_n X.1.1 X.1.2.1 dL_law_534 rfl (lv_at hl 2 rfl) ?_
    refine lv_iload X.1.1 X.1.2.1 dL_law_535 (lv_at hl 12 rfl) ?_
    refine lv_iconst (v := 5) X.1.1 X.1.2.1 dL_law_537 (by decide) ?_
    refine L_ofTrain (rest := []) X h hl.1 hV hL hn (by omega) hk (j := 5) (by decide) (v := (-1)) (under_off h38) (Nat.le_of_ble_eq_true rfl) hf dL_law_538 ?_
    refine lv_istore (lv' := [(16, .int (-1)), (15, .int (-1)), (0, .ref b), (1, .ref (ad Z 0)), (2, .int (nI nb)), (3, .int (nI n)), (4, .ref aW), (5, .int (nI t)), (9, .ref aD), (10, .int x10), (11, .int x11), (12, .int x12), (13, .int x13), (14, .int (nI k))]) X.1.1 X.1.2.1 dL_law_541 hl (by decide) rfl (fun ls hl => ?_)
    refine lv_aload_n X.1.1 X.1.2.1 dL_law_543 rfl (lv_at hl 3 rfl) ?_
    refine lv_iload X.1.1 X.1.2.1 dL_law_544 (lv_at hl 13 rfl) ?_
    refine lv_bipush (v := 6) X.1.1 X.1.2.1 dL_law_546 (by decide) ?_
    refine L_ofTrain (rest := []) X h hl.1 hV hL hn (by omega) hk (j := 6) (by decide) (v := (-1)) h38 (Nat.le_of_ble_eq_true rfl) hf dL_law_548 ?_
    refine lv_istore (lv' := [(17, .int (-1)), (16, .int (-1)), (15, .int (-1)), (0, .ref b), (1, .ref (ad Z 0)), (2, .int (nI nb)), (3, .int (nI n)), (4, .ref aW), (5, .int (nI t)), (9, .ref aD), (10, .int x10), (11, .int x11), (12, .int x12), (13, .int x13), (14, .int (nI k))]) X.1.1 X.1.2.1 dL_law_551 hl (by decide) rfl (fun ls hl => ?_)
    refine lv_iload X.1.1 X.1.2.1 dL_law_553 (lv_at hl 2 rfl) ?_
    refine lv_if_ge (tgt := 567) X.1.1 X.1.2.1 dL_law_555 (by decide) (fun c => absurd c (by decide)) (fun _ => ?_)
    refine lv_iload X.1.1 X.1.2.1 dL_law_558 (lv_at hl 1 rfl) ?_
    refine lv_if_ge (tgt := 567) X.1.1 X.1.2.1 dL_law_560 (by decide) (fun c => absurd c (by decide)) (fun _ => ?_)
    refine lv_iconst (v := 1) X.1.1 X.1.2.1 dL_law_563 (by decide) ?_
    refine lv_goto (tgt := 568) X.1.1 X.1.2.1 dL_law_564 (by decide) ?_
    refine lv_istore (lv' := [(18, .int 1), (17, .int (-1)), (16, .int (-1)), (15, .int (-1)), (0, .ref b), (1, .ref (ad Z 0)), (2, .int (nI nb)), (3, .int (nI n)), (4, .ref aW), (5, .int (nI t)), (9, .ref aD), (10, .int x10), (11, .int x11), (12, .int x12), (13, .int x13), (14, .int (nI k))]) X.1.1 X.1.2.1 dL_law_568 hl (by decide) rfl (fun ls hl => ?_)
    refine lv_iload X.1.1 X.1.2.1 dL_law_570 (lv_at hl 2 rfl) ?_
    refine lv_if_lt (tgt := 608) X.1.1 X.1.2.1 dL_law_572 (by decide) (fun _ => ?_) (fun c => absurd (by decide) c)
    refine lv_iload X.1.1 X.1.2.1 dL_law_608 (lv_at hl 2 rfl) ?_
    refine lv_if_ge (tgt := 642) X.1.1 X.1.2.1 dL_law_610 (by decide) (fun c => absurd c (by decide)) (fun _ => ?_)
    refine lv_iload X.1.1 X.1.2.1 dL_law_613 (lv_at hl 1 rfl) ?_
    refine lv_if_ge (tgt := 640) X.1.1 X.1.2.1 dL_law_615 (by decide) (fun c => absurd c (by decide)) (fun _ => ?_)
    refine lv_aload_n X.1.1 X.1.2.1 dL_law_618 rfl (lv_at hl 5 rfl) ?_
    refine lv_iload X.1.1 X.1.2.1 dL_law_619 (lv_at hl 15 rfl) ?_
    refine lv_bipush (v := 7) X.1.1 X.1.2.1 dL_law_621 (by decide) ?_
    refine L_ofTrain (rest := []) X h hl.1 hV hL hn (by omega) hk (j := 7) (by decide) (v := 0) h40 (Nat.le_of_ble_eq_true rfl) hf dL_law_623 ?_
    refine lv_if_ne (tgt := 640) X.1.1 X.1.2.1 dL_law_626 (by decide) (fun c => absurd c (by decide)) (fun _ => ?_)
    refine lv_aload_n X.1.1 X.1.2.1 dL_law_629 rfl (lv_at hl 5 rfl) ?_
    refine lv_iload X.1.1 X.1.2.1 dL_law_630 (lv_at hl 15 rfl) ?_
    refine lv_bipush (v := 11) X.1.1 X.1.2.1 dL_law_632 (by decide) ?_
    refine L_ofTrain (rest := []) X h hl.1 hV hL hn (by omega) hk (j := 11) (by decide) (v := 0) (by show oneF (b2i (atEndF T k)) = 0; rw [atEnd_f38 h38]; rfl) (Nat.le_of_ble_eq_true rfl) hf dL_law_634 ?_
    refine lv_if_eq (tgt := 642) X.1.1 X.1.2.1 dL_law_637 (by decide) (fun _ => ?_) (fun c => absurd rfl c)
    refine lv_iload X.1.1 X.1.2.1 dL_law_642 (lv_at hl 0 rfl) ?_
    refine lv_aload X.1.1 X.1.2.1 dL_law_644 (lv_at hl 10 rfl) ?_
    refine lv_iload X.1.1 X.1.2.1 dL_law_646 (lv_at hl 15 rfl) ?_
    refine L_ld X h 1 hg (by omega) dL_law_648 ?_
    refine lv_if_lt (tgt := 656) X.1.1 X.1.2.1 dL_law_649 (by decide) (fun c => absurd c hgk) (fun _ => ?_)
    refine lv_iconst (v := 1) X.1.1 X.1.2.1 dL_law_652 (by decide) ?_
    refine lv_goto (tgt := 657) X.1.1 X.1.2.1 dL_law_653 (by decide) ?_
    refine lv_icmp_ne (tgt := 708) X.1.1 X.1.2.1 dL_law_657 (by decide) (fun c => absurd c (by decide)) (fun _ => ?_)
    refine lv_iload X.1.1 X.1.2.1 dL_law_660 (lv_at hl 0 rfl) ?_
    refine lv_if_eq (tgt := 684) X.1.1 X.1.2.1 dL_law_662 (by decide) (fun c => absurd c (by decide)) (fun _ => ?_)
    refine lv_aload_n X.1.1 X.1.2.1 dL_law_665 rfl (lv_at hl 5 rfl) ?_
    refine lv_iload X.1.1 X.1.2.1 dL_law_666 (lv_at hl 15 rfl) ?_
    refine lv_iconst (v := 3) X.1.1 X.1.2.1 dL_law_668 (by decide) ?_
    refine L_ofTrain (rest := []) X h hl.1 hV hL hn (by omega) hk (j := 3) (by decide) (v := (nI lst)) h35 (Nat.le_of_ble_eq_true rfl) hf dL_law_669 ?_
    refine lv_aload_n X.1.1 X.1.2.1 dL_law_672 rfl (lv_at hl 5 rfl) ?_
    refine lv_iload X.1.1 X.1.2.1 dL_law_673 (lv_at hl 15 rfl) ?_
    refine lv_iconst (v := 2) X.1.1 X.1.2.1 dL_law_675 (by decide) ?_
    refine L_ofTrain (rest := [.int (nI lst)]) X h hl.1 hV hL hn (by omega) hk (j := 2) (by decide) (v := (nI (sP S0 k))) ((F.st (by decide) k 0).trans hst.1) (Nat.le_of_ble_eq_true rfl) hf dL_law_676 ?_
    refine lv_iconst (v := 1) X.1.1 X.1.2.1 dL_law_679 (by decide) ?_
    refine lv_isub X.1.1 X.1.2.1 dL_law_680 ?_
    rw [show (nI (sP S0 k)) - 1 = (nI lst) from (by rw [pred_v hst.2.1, show sP S0 k - 1 = lst by omega])]
    refine lv_icmp_ne (tgt := 708) X.1.1 X.1.2.1 dL_law_681 (by decide) (fun c => absurd c (not_not_intro rfl)) (fun _ => ?_)
    refine lv_iload X.1.1 X.1.2.1 dL_law_684 (lv_at hl 3 rfl) ?_
    refine lv_if_lt (tgt := 710) X.1.1 X.1.2.1 dL_law_686 (by decide) (fun _ => ?_) (fun c => absurd (by decide) c)
    exact kk _ _ _ ls ⟨fun _ => hat, fun _ => by decide⟩ ⟨fun _ => hon, fun _ => by decide⟩ ⟨fun q => absurd q (by decide), fun q => by rw [hd1] at q; cases q⟩ (lv_sub hl [3, 2, 0, 4, 5, 6, 7, 8, 9, 10, 11, 12, 13, 14, 15] rfl)
end CHECK
