/-! The law's turns. -/
section TURNS
theorem lg_self (x : Int64) : lg_cmp x x = 0 := by simp [lg_cmp]
theorem ua_of {S0 S : St} {nb n : Nat} (F : Fr nb n S0 S) : ∀ f k j, ¬ cpd S0 nb n f k j → S f k j = S0 f k j := fun f k j h => F f k j (fun q => h (FT_cpd q))
theorem stuckS_ua {S0 S : St} {nb n : Nat} (F : Fr nb n S0 S) (F' : Fr nb n S0 (tickF S)) : ∀ f k j, ¬ cpd S0 nb n f k j → stuckInS S f k j = S0 f k j := fun f k j h => by
  unfold stuckInS
  split
  · exact ua_of F' f k j h
  · exact ua_of F f k j h
theorem doneS_ua {S0 S : St} {nb n : Nat} (F : Fr nb n S0 S) (F' : Fr nb n S0 (tickF S)) (q : Nat) : ∀ f k j, ¬ cpd S0 nb n f k j → doneInS S q f k j = S0 f k j := fun f k j h => by
  unfold doneInS
  split
  · exact ua_of F f k j h
  · exact ua_of F' f k j h
theorem doneIn_lt {S : St} {k : Nat} (h : doneF S k = true → doneF (tickF S) k = true) : doneInF S k < 0 ↔ doneF (tickF S) k = false := by
  unfold doneInF
  by_cases h1 : doneF S k = true
  · rw [if_pos h1, h h1]
    exact ⟨fun q => absurd q (by decide), fun q => by cases q⟩
  · rw [if_neg h1]
    by_cases h2 : doneF (tickF S) k = true
    · rw [if_pos h2, h2]
      exact ⟨fun q => absurd q (by decide), fun q => by cases q⟩
    · rw [if_neg h2]
      exact ⟨fun _ => by cases hq : doneF (tickF S) k; rfl; exact absurd hq h2, fun _ => by decide⟩
set_option maxHeartbeats 4000000 in
set_option maxRecDepth 20000 in
theorem seg_S {p : Program} {e : Env} {s : State} {m : MethodId} {b : Nat} {below : List Frame} {meth : Method} {c : Code} {Z : Gm} {L : Nat} {xs : Nat → Int32} (l : Launch) (X : LC Z p s m c b L xs) {S0 S : St} {nb n t aW aD : Nat} (C : Stc S0 nb n) (F : Fr nb n S0 S) (F' : Fr nb n S0 (tickF S)) {V : Nat → St} (hV : V 0 = tickF S) {ex : va_W} {H : Heap} {locs : List Loc} (h : LH Z V ex s H locs) {cells slots : Nat} (hf : cells ≤ 630607 ∧ slots ≤ 7209803) {Q : State → Prop} {ls : Array Slot} (hl : lv_has ls 22 [(0, .ref b), (1, .ref (ad Z 0)), (2, .int (nI nb)), (3, .int (nI n)), (4, .ref aW), (5, .int (nI t)), (8, .int (stuckInF S)), (9, .ref aD)])
    (kk : ∀ ls : Array Slot, lv_has ls 22 [(0, .ref b), (1, .ref (ad Z 0)), (2, .int (nI nb)), (3, .int (nI n)), (4, .ref aW), (5, .int (nI t)), (9, .ref aD)] → W p l e room_1 s m #[Value.ref b] below meth c H locs cells slots Q (F0 m 504 ls [])) : W p l e room_1 s m #[Value.ref b] below meth c H locs cells slots Q (F0 m 470 ls []) := by
  have hL := Lim_F C F'
  have hn := nT_F C F'
  have hn5 := C.n5
  have hcS := cnt_le (stuckF S) n
  have hcT := cnt_le (stuckF (tickF S)) n
  have hx : stuckInF S = if nI (cntTo (stuckF S) n) = 0 then (if nI (cntTo (stuckF (tickF S)) n) ≤ 0 then -1 else 1) else (if nI (cntTo (stuckF S) n) ≤ 0 then -1 else 0) := by
    unfold stuckInF
    rw [nT_F C F, nT_F C F']
  have hm : manyF (tickF S) 6 = nI (cntTo (stuckF (tickF S)) n) := by show nI (cntTo (stuckF (tickF S)) (nT (tickF S))) = _; rw [nT_F C F']
  rw [hx] at hl
  generalize cntTo (stuckF S) n = cS at *
  generalize cntTo (stuckF (tickF S)) n = cT at *
  by_cases e1 : cS = 0
  · subst e1
    rw [if_pos (show nI 0 = 0 from rfl)] at hl
    by_cases e2 : cT = 0
    · subst e2
      rw [if_pos (show nI 0 ≤ 0 by decide)] at hl
      refine lv_iload X.1.1 X.1.2.1 dL_law_470 (lv_at hl 6 rfl) ?_
      refine lv_if_lt (tgt := 479) X.1.1 X.1.2.1 dL_law_472 (by decide) (fun _ => ?_) (fun c => absurd (by decide) c)
      refine lv_iconst (v := 0) X.1.1 X.1.2.1 dL_law_479 (by decide) ?_
      refine lv_aload_n X.1.1 X.1.2.1 dL_law_480 rfl (lv_at hl 1 rfl) ?_
      refine lv_bipush (v := 6) X.1.1 X.1.2.1 dL_law_481 (by decide) ?_
      refine L_many (rest := [.int 0]) X h hl.1 hV hL (j := 6) (by decide) (v := (nI 0)) hm (Nat.le_of_ble_eq_true rfl) hf dL_law_483 ?_
      refine lv_if_le (tgt := 493) X.1.1 X.1.2.1 dL_law_486 (by decide) (fun _ => ?_) (fun c => absurd (by decide) c)
      refine lv_iconst (v := 0) X.1.1 X.1.2.1 dL_law_493 (by decide) ?_
      refine lv_icmp_eq (tgt := 504) X.1.1 X.1.2.1 dL_law_494 (by decide) (fun _ => ?_) (fun c => absurd (by decide) c)
      exact kk ls (lv_sub hl [0, 1, 2, 3, 4, 5, 7] rfl)
    · rw [if_neg (nI_nle (by omega) (by omega))] at hl
      refine lv_iload X.1.1 X.1.2.1 dL_law_470 (lv_at hl 6 rfl) ?_
      refine lv_if_lt (tgt := 479) X.1.1 X.1.2.1 dL_law_472 (by decide) (fun c => absurd c (by decide)) (fun _ => ?_)
      refine lv_iconst (v := 1) X.1.1 X.1.2.1 dL_law_475 (by decide) ?_
      refine lv_goto (tgt := 480) X.1.1 X.1.2.1 dL_law_476 (by decide) ?_
      refine lv_aload_n X.1.1 X.1.2.1 dL_law_480 rfl (lv_at hl 1 rfl) ?_
      refine lv_bipush (v := 6) X.1.1 X.1.2.1 dL_law_481 (by decide) ?_
      refine L_many (rest := [.int 1]) X h hl.1 hV hL (j := 6) (by decide) (v := (nI cT)) hm (Nat.le_of_ble_eq_true rfl) hf dL_law_483 ?_
      refine lv_if_le (tgt := 493) X.1.1 X.1.2.1 dL_law_486 (by decide) (fun c => absurd c (nI_nle (by omega) (by omega))) (fun _ => ?_)
      refine lv_iconst (v := 1) X.1.1 X.1.2.1 dL_law_489 (by decide) ?_
      refine lv_goto (tgt := 494) X.1.1 X.1.2.1 dL_law_490 (by decide) ?_
      refine lv_icmp_eq (tgt := 504) X.1.1 X.1.2.1 dL_law_494 (by decide) (fun _ => ?_) (fun c => absurd (by decide) c)
      exact kk ls (lv_sub hl [0, 1, 2, 3, 4, 5, 7] rfl)
  · rw [if_neg (nI_ne0 (by omega) (by omega)), if_neg (nI_nle (by omega) (by omega))] at hl
    by_cases e2 : cT = 0
    · subst e2
      refine lv_iload X.1.1 X.1.2.1 dL_law_470 (lv_at hl 6 rfl) ?_
      refine lv_if_lt (tgt := 479) X.1.1 X.1.2.1 dL_law_472 (by decide) (fun c => absurd c (by decide)) (fun _ => ?_)
      refine lv_iconst (v := 1) X.1.1 X.1.2.1 dL_law_475 (by decide) ?_
      refine lv_goto (tgt := 480) X.1.1 X.1.2.1 dL_law_476 (by decide) ?_
      refine lv_aload_n X.1.1 X.1.2.1 dL_law_480 rfl (lv_at hl 1 rfl) ?_
      refine lv_bipush (v := 6) X.1.1 X.1.2.1 dL_law_481 (by decide) ?_
      refine L_many (rest := [.int 1]) X h hl.1 hV hL (j := 6) (by decide) (v := (nI 0)) hm (Nat.le_of_ble_eq_true rfl) hf dL_law_483 ?_
      refine lv_if_le (tgt := 493) X.1.1 X.1.2.1 dL_law_486 (by decide) (fun _ => ?_) (fun c => absurd (by decide) c)
      refine lv_iconst (v := 0) X.1.1 X.1.2.1 dL_law_493 (by decide) ?_
      refine lv_icmp_eq (tgt := 504) X.1.1 X.1.2.1 dL_law_494 (by decide) (fun c => absurd c (by decide)) (fun _ => ?_)
      refine lv_iload X.1.1 X.1.2.1 dL_law_497 (lv_at hl 6 rfl) ?_
      refine lv_if_eq (tgt := 504) X.1.1 X.1.2.1 dL_law_499 (by decide) (fun _ => ?_) (fun c => absurd (by decide) c)
      exact kk ls (lv_sub hl [0, 1, 2, 3, 4, 5, 7] rfl)
    · skip
      refine lv_iload X.1.1 X.1.2.1 dL_law_470 (lv_at hl 6 rfl) ?_
      refine lv_if_lt (tgt := 479) X.1.1 X.1.2.1 dL_law_472 (by decide) (fun c => absurd c (by decide)) (fun _ => ?_)
      refine lv_iconst (v := 1) X.1.1 X.1.2.1 dL_law_475 (by decide) ?_
      refine lv_goto (tgt := 480) X.1.1 X.1.2.1 dL_law_476 (by decide) ?_
      refine lv_aload_n X.1.1 X.1.2.1 dL_law_480 rfl (lv_at hl 1 rfl) ?_
      refine lv_bipush (v := 6) X.1.1 X.1.2.1 dL_law_481 (by decide) ?_
      refine L_many (rest := [.int 1]) X h hl.1 hV hL (j := 6) (by decide) (v := (nI cT)) hm (Nat.le_of_ble_eq_true rfl) hf dL_law_483 ?_
      refine lv_if_le (tgt := 493) X.1.1 X.1.2.1 dL_law_486 (by decide) (fun c => absurd c (nI_nle (by omega) (by omega))) (fun _ => ?_)
      refine lv_iconst (v := 1) X.1.1 X.1.2.1 dL_law_489 (by decide) ?_
      refine lv_goto (tgt := 494) X.1.1 X.1.2.1 dL_law_490 (by decide) ?_
      refine lv_icmp_eq (tgt := 504) X.1.1 X.1.2.1 dL_law_494 (by decide) (fun _ => ?_) (fun c => absurd (by decide) c)
      exact kk ls (lv_sub hl [0, 1, 2, 3, 4, 5, 7] rfl)
set_option maxHeartbeats 4000000 in
set_option maxRecDepth 20000 in
theorem law_turns {p : Program} {e : Env} {s : State} {m : MethodId} {b : Nat} {below : List Frame} {meth : Method} {c : Code} {Z : Gm} {L : Nat} {xs : Nat → Int32} (l : Launch) (X : LC Z p s m c b L xs) (hr : meth.sig.returnType = ret) (hlk : meth.locks = false) {S0 : St} {nb n aW : Nat} (C : Stc S0 nb n) :
    ∀ (f t : Nat), 24 - t < f → t ≤ 24 → ∀ (S : St) (V : Nat → St) (fW : Nat → Int32) (w : Nat → Nat) (H : Heap) (locs : List Loc) (ls : Array Slot), Inv nb n S0 S → V 0 = S → (∀ f k j, ¬ cpd S0 nb n f k j → V 1 f k j = S0 f k j) → LH Z V [(aW, .inl (Z.2.2.1, 5, .inl fW))] s H locs → (∀ j, j < n → fW j = nI (w j) ∧ w j ≤ t ∧ Wv n (w j) S j) → lv_has ls 22 [(0, .ref b), (1, .ref (ad Z 0)), (2, .int (nI nb)), (3, .int (nI n)), (4, .ref aW), (5, .int (nI t))] → W p l e room_1 s m #[Value.ref b] below meth c H locs (172 + t) (1207 + 5 * t) (lw_Z below #[Value.ref b] s) (F0 m 400 ls []) := by
  have hn5 := C.n5
  intro f
  induction f with
  | zero => intro t hm; exact absurd hm (by omega)
  | succ f ih =>
    intro t hm ht S V fW w H locs ls I hV hUA h hw hl
    refine lv_iload X.1.1 X.1.2.1 dL_law_400 (lv_at hl 5 rfl) ?_
    refine lv_bipush (v := 24) X.1.1 X.1.2.1 dL_law_402 (by decide) ?_
    refine lv_icmp_ge (tgt := 1195) X.1.1 X.1.2.1 dL_law_404 (by decide) (fun c_404 => ?_) (fun c_404 => ?_)
    · exact L_end X h hr hlk (by omega) (by omega)
    · have htt : t < 24 := Nat.not_le.mp fun q => c_404 (nI_le (a := 24) q (by omega))
      have F := I.1
      have hL := Lim_F C F
      have hn := nT_F C F
      have hz : ∀ k, k < nR S → S 22 k 0 = 0 ∨ S 22 k 0 = 1 := fun k hk => by
        rw [nR_F C F] at hk
        rw [F.st (by decide)]
        exact C.wh hk
      obtain ⟨IT, hWQ, hdm⟩ := tick_ok C w S I (fun k hk => (hw k hk).2.2)
      have F' := IT.1
      have hf : 172 + t ≤ 630607 ∧ 1207 + 5 * t ≤ 7209803 := by omega
      refine lv_aload_n X.1.1 X.1.2.1 dL_law_407 rfl (lv_at hl 1 rfl) ?_
      refine L_digest (rest := []) X h hl.1 hV hL (Nat.le_of_ble_eq_true rfl) hf dL_law_408 ?_
      refine lv_lstore (lv' := [(6, .long (digF S)), (0, .ref b), (1, .ref (ad Z 0)), (2, .int (nI nb)), (3, .int (nI n)), (4, .ref aW), (5, .int (nI t))]) X.1.1 X.1.2.1 dL_law_411 hl (by decide) rfl (fun ls hl => ?_)
      refine lv_aload_n X.1.1 X.1.2.1 dL_law_413 rfl (lv_at hl 2 rfl) ?_
      refine lv_iconst (v := 1) X.1.1 X.1.2.1 dL_law_414 (by decide) ?_
      refine L_stuckIn (rest := []) X h hl.1 hV rfl hL hz (take_eq C F hUA) (Nat.le_of_ble_eq_true rfl) hf dL_law_415 (fun H locs h => ?_)
      obtain ⟨V, hV, hUA, h⟩ : ∃ V1 : Nat → St, V1 0 = S ∧ (∀ f k j, ¬ cpd S0 nb n f k j → V1 1 f k j = S0 f k j) ∧ LH Z V1 [(aW, .inl (Z.2.2.1, 5, .inl fW))] s H locs := ⟨_, (upL_ne (by decide)).trans hV, fun f k j q => by rw [upL_same]; exact stuckS_ua F F' f k j q, h⟩
      refine lv_istore (lv' := [(8, .int (stuckInF S)), (6, .long (digF S)), (0, .ref b), (1, .ref (ad Z 0)), (2, .int (nI nb)), (3, .int (nI n)), (4, .ref aW), (5, .int (nI t))]) X.1.1 X.1.2.1 dL_law_418 hl (by decide) rfl (fun ls hl => ?_)
      refine lv_iconst (v := 5) X.1.1 X.1.2.1 dL_law_420 (by decide) ?_
      refine L_new X h (by omega) (by omega) dL_law_421 (fun H aD hA hB2 h => ?_)
      have h : LH Z V [(aW, .inl (Z.2.2.1, 5, .inl fW)), (aD, .inl (Z.2.2.1, 5, .inl (fun _ => 0)))] s H locs := h
      have hf : 172 + t + 1 ≤ 630607 ∧ 1207 + 5 * t + 5 ≤ 7209803 := by omega
      refine lv_astore (lv' := [(9, .ref aD), (8, .int (stuckInF S)), (6, .long (digF S)), (0, .ref b), (1, .ref (ad Z 0)), (2, .int (nI nb)), (3, .int (nI n)), (4, .ref aW), (5, .int (nI t))]) X.1.1 X.1.2.1 dL_law_423 hl (by decide) rfl (fun ls hl => ?_)
      refine lv_iconst (v := 0) X.1.1 X.1.2.1 dL_law_425 (by decide) ?_
      refine lv_istore (lv' := [(10, .int 0), (9, .ref aD), (8, .int (stuckInF S)), (6, .long (digF S)), (0, .ref b), (1, .ref (ad Z 0)), (2, .int (nI nb)), (3, .int (nI n)), (4, .ref aW), (5, .int (nI t))]) X.1.1 X.1.2.1 dL_law_426 hl (by decide) rfl (fun ls hl => ?_)
      have loop : ∀ (f i : Nat), n - i < f → i ≤ n → ∀ (V : Nat → St) (g : Nat → Int32) (H : Heap) (locs : List Loc) (ls : Array Slot), V 0 = S → (∀ f k j, ¬ cpd S0 nb n f k j → V 1 f k j = S0 f k j) → LH Z V [(aW, .inl (Z.2.2.1, 5, .inl fW)), (aD, .inl (Z.2.2.1, 5, .inl g))] s H locs → (∀ j, j < i → g j = doneInF S j) → lv_has ls 22 [(10, .int (nI i)), (9, .ref aD), (8, .int (stuckInF S)), (6, .long (digF S)), (0, .ref b), (1, .ref (ad Z 0)), (2, .int (nI nb)), (3, .int (nI n)), (4, .ref aW), (5, .int (nI t))] → W p l e room_1 s m #[Value.ref b] below meth c H locs (172 + t + 1) (1207 + 5 * t + 5) (lw_Z below #[Value.ref b] s) (F0 m 428 ls []) := by
        intro f
        induction f with
        | zero => intro i hm; exact absurd hm (by omega)
        | succ f ih2 =>
          intro i hm hi V g H locs ls hV hUA h hg hl
          refine lv_iload X.1.1 X.1.2.1 dL_law_428 (lv_at hl 0 rfl) ?_
          refine lv_iload_n X.1.1 X.1.2.1 dL_law_430 rfl (lv_at hl 7 rfl) ?_
          refine lv_icmp_ge (tgt := 452) X.1.1 X.1.2.1 dL_law_431 (by decide) (fun c_431 => ?_) (fun c_431 => ?_)
          · have hin : n = i := by have := (nI_leI (by omega) (by omega)).mp c_431; omega
            subst hin
            refine lv_aload_n X.1.1 X.1.2.1 dL_law_452 rfl (lv_at hl 5 rfl) ?_
            refine L_digest (rest := []) X h hl.1 hV hL (Nat.le_of_ble_eq_true rfl) hf dL_law_453 ?_
            refine lv_lload X.1.1 X.1.2.1 dL_law_456 (lv_at hl 3 rfl) ?_
            refine W.lcmp X.1.1 X.1.2.1 dL_law_458 ?_
            rw [show lg_cmp (digF S) (digF S) = 0 from lg_self _]
            refine lv_if_eq (tgt := 464) X.1.1 X.1.2.1 dL_law_459 (by decide) (fun _ => ?_) (fun c => absurd rfl c)
            refine lv_aload_n X.1.1 X.1.2.1 dL_law_464 rfl (lv_at hl 5 rfl) ?_
            refine lv_iconst (v := 1) X.1.1 X.1.2.1 dL_law_465 (by decide) ?_
            refine L_tick (rest := []) X h hl.1 hV hL (Nat.le_of_ble_eq_true rfl) hf dL_law_466 (fun H locs h r => ?_)
            obtain ⟨V, hV, hUA, h⟩ : ∃ V1 : Nat → St, V1 0 = tickF S ∧ (∀ f k j, ¬ cpd S0 nb n f k j → V1 1 f k j = S0 f k j) ∧ LH Z V1 [(aW, .inl (Z.2.2.1, 5, .inl fW)), (aD, .inl (Z.2.2.1, 5, .inl g))] s H locs := ⟨_, upL_same _ _ _, fun f k j q => by rw [upL_ne (by decide)]; exact hUA f k j q, h⟩
            refine lv_pop X.1.1 X.1.2.1 dL_law_469 rfl ?_
            refine seg_S l X C F F' hV h hf (lv_sub hl [4, 5, 6, 7, 8, 9, 2, 1] rfl) (fun ls hl => ?_)
            refine lv_iconst (v := 0) X.1.1 X.1.2.1 dL_law_504 (by decide) ?_
            refine lv_istore (lv' := [(10, .int 0), (0, .ref b), (1, .ref (ad Z 0)), (2, .int (nI nb)), (3, .int (nI n)), (4, .ref aW), (5, .int (nI t)), (9, .ref aD)]) X.1.1 X.1.2.1 dL_law_505 hl (by decide) rfl (fun ls hl => ?_)
            refine lv_iconst (v := 0) X.1.1 X.1.2.1 dL_law_507 (by decide) ?_
            refine lv_istore (lv' := [(11, .int 0), (10, .int 0), (0, .ref b), (1, .ref (ad Z 0)), (2, .int (nI nb)), (3, .int (nI n)), (4, .ref aW), (5, .int (nI t)), (9, .ref aD)]) X.1.1 X.1.2.1 dL_law_508 hl (by decide) rfl (fun ls hl => ?_)
            refine lv_iconst (v := 0) X.1.1 X.1.2.1 dL_law_510 (by decide) ?_
            refine lv_istore (lv' := [(12, .int 0), (11, .int 0), (10, .int 0), (0, .ref b), (1, .ref (ad Z 0)), (2, .int (nI nb)), (3, .int (nI n)), (4, .ref aW), (5, .int (nI t)), (9, .ref aD)]) X.1.1 X.1.2.1 dL_law_511 hl (by decide) rfl (fun ls hl => ?_)
            refine lv_iconst (v := 0) X.1.1 X.1.2.1 dL_law_513 (by decide) ?_
            refine lv_istore (lv' := [(13, .int 0), (12, .int 0), (11, .int 0), (10, .int 0), (0, .ref b), (1, .ref (ad Z 0)), (2, .int (nI nb)), (3, .int (nI n)), (4, .ref aW), (5, .int (nI t)), (9, .ref aD)]) X.1.1 X.1.2.1 dL_law_514 hl (by decide) rfl (fun ls hl => ?_)
            refine lv_iconst (v := 0) X.1.1 X.1.2.1 dL_law_516 (by decide) ?_
            refine lv_istore (lv' := [(14, .int 0), (13, .int 0), (12, .int 0), (11, .int 0), (10, .int 0), (0, .ref b), (1, .ref (ad Z 0)), (2, .int (nI nb)), (3, .int (nI n)), (4, .ref aW), (5, .int (nI t)), (9, .ref aD)]) X.1.1 X.1.2.1 dL_law_517 hl (by decide) rfl (fun ls hl => ?_)
            refine seg_T l X C IT hV hWQ (fun k hk => by have := (hw k hk).2.1; omega) (fun k hk => by rw [hg k hk]; exact doneIn_lt (hdm k hk)) hf (fun H locs fW ls h hW hl => ?_) (n + 1) 0 (by omega) (Nat.zero_le _) H locs fW ls h (fun j _ h2 => (hw j h2).1) (fun j h2 => absurd h2 (Nat.not_lt_zero _)) (lv_sub hl [5, 6, 7, 8, 9, 10, 11, 4, 3, 2, 1, 0] rfl)
            refine seg_E l X C IT hV h hf (lv_sub hl [0, 1, 2, 3, 4, 5, 7, 8, 9, 10] rfl) (fun ls hl => ?_)
            refine seg_F l X C IT hV h hf (lv_sub hl [0, 1, 2, 3, 4, 5, 7] rfl) (fun ls hl => ?_)
            refine seg_G l X C IT hV h hf (lv_sub hl [0, 1, 2, 3, 4, 5] rfl) (fun ls hl => ?_)
            refine lv_iinc (v := nI (t + 1)) (lv' := [(5, .int (nI (t + 1))), (0, .ref b), (1, .ref (ad Z 0)), (2, .int (nI nb)), (3, .int (nI n)), (4, .ref aW)]) X.1.1 X.1.2.1 dL_law_1189 hl (k := 5) rfl (nI_1 _) (by decide) rfl (fun ls hl => ?_)
            refine lv_goto (tgt := 400) X.1.1 X.1.2.1 dL_law_1192 (by decide) ?_
            refine W.cs (show 172 + t + 1 = 172 + (t + 1) by omega) (show 1207 + 5 * t + 5 = 1207 + 5 * (t + 1) by omega) ?_
            refine ih (t + 1) (by omega) (by omega) (tickF S) V fW (fun k => (tickF S 43 k 0).toNatClampNeg) H locs ls IT hV hUA (LH.drop (ex := [(aW, .inl (Z.2.2.1, 5, .inl fW))]) (ey := [(aD, .inl (Z.2.2.1, 5, .inl g))]) h) (fun j hj => ?_) (lv_sub hl [1, 2, 3, 4, 5, 0] rfl)
            have hwj := (hw j hj).2.1
            have key : ∀ v, v ≤ t + 1 → Wv n v (tickF S) j → fW j = nI (tickF S 43 j 0).toNatClampNeg ∧ (tickF S 43 j 0).toNatClampNeg ≤ t + 1 ∧ Wv n (tickF S 43 j 0).toNatClampNeg (tickF S) j := fun v hv q => by
              have e : (tickF S 43 j 0).toNatClampNeg = v := by rw [q.1]; exact nI_clamp (by omega)
              rw [e, hW j hj]
              exact ⟨q.1, hv, q⟩
            rcases hWQ j hj with ⟨⟨q, -⟩, -⟩ | ⟨⟨q, -⟩, -⟩
            · exact key _ (by omega) q
            · exact key _ (by omega) q
          · have hin : i < n := Nat.not_le.mp fun q => c_431 (nI_le q (by omega))
            refine lv_aload X.1.1 X.1.2.1 dL_law_434 (lv_at hl 1 rfl) ?_
            refine lv_iload X.1.1 X.1.2.1 dL_law_436 (lv_at hl 0 rfl) ?_
            refine lv_aload_n X.1.1 X.1.2.1 dL_law_438 rfl (lv_at hl 5 rfl) ?_
            refine lv_iload X.1.1 X.1.2.1 dL_law_439 (lv_at hl 0 rfl) ?_
            refine lv_iconst (v := 1) X.1.1 X.1.2.1 dL_law_441 (by decide) ?_
            refine L_doneIn (rest := [.int (nI i), .ref aD]) X h hl.1 hV rfl hL hz (take_eq C F hUA) hn (by omega) hin (Nat.le_of_ble_eq_true rfl) hf dL_law_442 (fun H locs h => ?_)
            obtain ⟨V, hV, hUA, h⟩ : ∃ V1 : Nat → St, V1 0 = S ∧ (∀ f k j, ¬ cpd S0 nb n f k j → V1 1 f k j = S0 f k j) ∧ LH Z V1 [(aW, .inl (Z.2.2.1, 5, .inl fW)), (aD, .inl (Z.2.2.1, 5, .inl g))] s H locs := ⟨_, (upL_ne (by decide)).trans hV, fun f k j q => by rw [upL_same]; exact doneS_ua F F' i f k j q, h⟩
            refine L_st X h 1 (f := g) rfl (by omega) dL_law_445 (fun H locs h => ?_)
            have h : LH Z V [(aW, .inl (Z.2.2.1, 5, .inl fW)), (aD, .inl (Z.2.2.1, 5, .inl (upd g i (doneInF S i))))] s H locs := h
            refine lv_iinc (v := nI (i + 1)) (lv' := [(10, .int (nI (i + 1))), (9, .ref aD), (8, .int (stuckInF S)), (6, .long (digF S)), (0, .ref b), (1, .ref (ad Z 0)), (2, .int (nI nb)), (3, .int (nI n)), (4, .ref aW), (5, .int (nI t))]) X.1.1 X.1.2.1 dL_law_446 hl (k := 0) rfl (nI_1 _) (by decide) rfl (fun ls hl => ?_)
            refine lv_goto (tgt := 428) X.1.1 X.1.2.1 dL_law_449 (by decide) ?_
            refine ih2 (i + 1) (by omega) (by omega) V (upd g i (doneInF S i)) H locs ls hV hUA h (fun j hj => ?_) (lv_sub hl [0, 1, 2, 3, 4, 5, 6, 7, 8, 9] rfl)
            by_cases e : j = i
            · rw [e, upd_k]
            · rw [upd_ne e]; exact hg j (by omega)
      exact loop (n + 1) 0 (by omega) (Nat.zero_le _) V _ H locs ls hV hUA h (fun j hj => absurd hj (Nat.not_lt_zero _)) (lv_sub hl [0, 1, 2, 3, 4, 5, 6, 7, 8, 9] rfl)
end TURNS
