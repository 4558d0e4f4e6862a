/-! The law's checks of all trains. -/
section CHECKC
theorem upd_k (f : Nat → Int32) (k : Nat) (x : Int32) : upd f k x k = x := if_pos rfl
theorem upd_ne {f : Nat → Int32} {k j : Nat} {x : Int32} (h : j ≠ k) : upd f k x j = f j := if_neg h
set_option maxHeartbeats 4000000 in
set_option maxRecDepth 20000 in
theorem seg_D {p : Program} {e : Env} {s : State} {m : MethodId} {b : Nat} {below : List Frame} {meth : Method} {c : Code} {Z : Gm} {L : Nat} {xs : Nat → Int32} (l : Launch) (X : LC Z p s m c b L xs) {S0 T : St} {nb n t k aW aD w1 : Nat} {fW g : Nat → Int32} {x10 x11 x12 x13 : Int32} (C : Stc S0 nb n) (I : Inv nb n S0 T) {V : Nat → St} (hV : V 0 = T) (hk : k < n) {H : Heap} {locs : List Loc} (h : LH Z V [(aW, .inl (Z.2.2.1, 5, .inl fW)), (aD, .inl (Z.2.2.1, 5, .inl g))] s H locs) (hv : Wv n w1 T k) (hw31 : w1 < 2 ^ 31) (hq44 : T 44 k 0 = -1 ∨ ∃ q, q < n ∧ q ≠ k ∧ T 44 k 0 = nI q) {cells slots : Nat} (hf : cells ≤ 630607 ∧ slots ≤ 7209803) {Q : State → Prop} {ls : Array Slot} (hl : lv_has ls 22 [(0, .ref b), (1, .ref (ad Z 0)), (2, .int (nI nb)), (3, .int (nI n)), (4, .ref aW), (5, .int (nI t)), (9, .ref aD), (10, .int x10), (11, .int x11), (12, .int x12), (13, .int x13), (14, .int (nI k))])
    (kk : ∀ (H : Heap) (locs : List Loc) (ls : Array Slot), LH Z V [(aW, .inl (Z.2.2.1, 5, .inl (upd fW k (nI w1)))), (aD, .inl (Z.2.2.1, 5, .inl g))] s H locs → lv_has ls 22 [(0, .ref b), (1, .ref (ad Z 0)), (2, .int (nI nb)), (3, .int (nI n)), (4, .ref aW), (5, .int (nI t)), (9, .ref aD), (10, .int x10), (11, .int x11), (12, .int x12), (13, .int x13), (14, .int (nI k))] → W p l e room_1 s m #[Value.ref b] below meth c H locs cells slots Q (F0 m 961 ls [])) : W p l e room_1 s m #[Value.ref b] below meth c H locs cells slots Q (F0 m 876 ls []) := by
  have hL := Lim_F C I.1
  have hn := nT_F C I.1
  have hn5 := C.n5
  have h6 : T 6 0 0 = nI n := (I.1.st (by decide) 0 0).trans C.f6
  obtain ⟨h43, h45, gg, hgg, hsum⟩ := hv
  refine lv_aload X.1.1 X.1.2.1 dL_law_876 (lv_at hl 4 rfl) ?_
  refine lv_iload X.1.1 X.1.2.1 dL_law_878 (lv_at hl 11 rfl) ?_
  refine lv_aload_n X.1.1 X.1.2.1 dL_law_880 rfl (lv_at hl 1 rfl) ?_
  refine lv_iload X.1.1 X.1.2.1 dL_law_881 (lv_at hl 11 rfl) ?_
  refine lv_bipush (v := 9) X.1.1 X.1.2.1 dL_law_883 (by decide) ?_
  refine L_ofTrain (rest := [.int (nI k), .ref aW]) X h hl.1 hV hL hn (by omega) hk (j := 9) (by decide) (v := nI w1) h43 (Nat.le_of_ble_eq_true rfl) hf dL_law_885 ?_
  refine L_st X h 0 (f := fW) rfl (by omega) dL_law_888 (fun H locs h => ?_)
  have h : LH Z V [(aW, .inl (Z.2.2.1, 5, .inl (upd fW k (nI w1)))), (aD, .inl (Z.2.2.1, 5, .inl g))] s H locs := h
  refine lv_iconst (v := 0) X.1.1 X.1.2.1 dL_law_889 (by decide) ?_
  refine lv_istore (lv' := [(20, .int 0), (0, .ref b), (1, .ref (ad Z 0)), (2, .int (nI nb)), (3, .int (nI n)), (4, .ref aW), (5, .int (nI t)), (9, .ref aD), (10, .int x10), (11, .int x11), (12, .int x12), (13, .int x13), (14, .int (nI k))]) X.1.1 X.1.2.1 dL_law_890 hl (by decide) rfl (fun ls hl => ?_)
  refine lv_iconst (v := 0) X.1.1 X.1.2.1 dL_law_892 (by decide) ?_
  refine lv_istore (lv' := [(21, .int 0), (20, .int 0), (0, .ref b), (1, .ref (ad Z 0)), (2, .int (nI nb)), (3, .int (nI n)), (4, .ref aW), (5, .int (nI t)), (9, .ref aD), (10, .int x10), (11, .int x11), (12, .int x12), (13, .int x13), (14, .int (nI k))]) X.1.1 X.1.2.1 dL_law_893 hl (by decide) rfl (fun ls hl => ?_)
  have loop : ∀ (f i : Nat), n - i < f → i ≤ n → ∀ ls : Array Slot, lv_has ls 22 [(20, .int (nI (sumN gg i))), (21, .int (nI i)), (0, .ref b), (1, .ref (ad Z 0)), (2, .int (nI nb)), (3, .int (nI n)), (4, .ref aW), (5, .int (nI t)), (9, .ref aD), (10, .int x10), (11, .int x11), (12, .int x12), (13, .int x13), (14, .int (nI k))] → W p l e room_1 s m #[Value.ref b] below meth c H locs cells slots Q (F0 m 895 ls []) := by
    intro f
    induction f with
    | zero => intro i hm; exact absurd hm (by omega)
    | succ f ih =>
      intro i hm hi ls hl
      refine lv_iload X.1.1 X.1.2.1 dL_law_895 (lv_at hl 1 rfl) ?_
      refine lv_iload_n X.1.1 X.1.2.1 dL_law_897 rfl (lv_at hl 5 rfl) ?_
      refine lv_icmp_ge (tgt := 920) X.1.1 X.1.2.1 dL_law_898 (by decide) (fun c_898 => ?_) (fun c_898 => ?_)
      · have hin : i = n := by have := (nI_leI (by omega) (by omega)).mp c_898; omega
        subst hin
        refine lv_iload X.1.1 X.1.2.1 dL_law_920 (lv_at hl 0 rfl) ?_
        refine lv_aload X.1.1 X.1.2.1 dL_law_922 (lv_at hl 6 rfl) ?_
        refine lv_iload X.1.1 X.1.2.1 dL_law_924 (lv_at hl 13 rfl) ?_
        refine L_ld X h 0 (f := upd fW k (nI w1)) rfl (by omega) dL_law_926 ?_
        rw [upd_k]
        refine lv_icmp_gt (tgt := 959) X.1.1 X.1.2.1 dL_law_927 (by decide) (fun c => absurd c (nI_nlt hsum hw31)) (fun _ => ?_)
        refine lv_aload_n X.1.1 X.1.2.1 dL_law_930 rfl (lv_at hl 3 rfl) ?_
        refine lv_iload X.1.1 X.1.2.1 dL_law_931 (lv_at hl 13 rfl) ?_
        refine lv_iload X.1.1 X.1.2.1 dL_law_933 (lv_at hl 13 rfl) ?_
        refine L_waitedFor (rest := []) X h hl.1 hV hL hn (by omega) hk hk (v := 0) h45 (Nat.le_of_ble_eq_true rfl) hf dL_law_935 ?_
        refine lv_if_ne (tgt := 959) X.1.1 X.1.2.1 dL_law_938 (by decide) (fun c => absurd c (by decide)) (fun _ => ?_)
        refine lv_aload_n X.1.1 X.1.2.1 dL_law_941 rfl (lv_at hl 3 rfl) ?_
        refine lv_iload X.1.1 X.1.2.1 dL_law_942 (lv_at hl 13 rfl) ?_
        refine L_isStuck (rest := []) X h hl.1 hV hL hn hk (v := b2i (stuckF T k)) rfl (Nat.le_of_ble_eq_true rfl) hf dL_law_944 ?_
        refine lv_if_eq (tgt := 961) X.1.1 X.1.2.1 dL_law_947 (by decide) (fun c_947 => ?_) (fun c_947 => ?_)
        · exact kk H locs ls h (lv_sub hl [2, 3, 4, 5, 6, 7, 8, 9, 10, 11, 12, 13] rfl)
        · obtain ⟨q, hq, hqk, h44⟩ := hq44.resolve_left (stuck_w h6 (by omega) hk (b2i_t c_947))
          refine lv_aload_n X.1.1 X.1.2.1 dL_law_950 rfl (lv_at hl 3 rfl) ?_
          refine lv_iload X.1.1 X.1.2.1 dL_law_951 (lv_at hl 13 rfl) ?_
          refine L_waitsFor (rest := []) X h hl.1 hV hL hn (by omega) hk (v := nI q) h44 (Nat.le_of_ble_eq_true rfl) hf dL_law_953 ?_
          refine lv_if_ge (tgt := 961) X.1.1 X.1.2.1 dL_law_956 (by decide) (fun _ => ?_) (fun c => absurd (nI_ge0 (by omega)) c)
          exact kk H locs ls h (lv_sub hl [2, 3, 4, 5, 6, 7, 8, 9, 10, 11, 12, 13] rfl)
      · have hin : i < n := Nat.not_le.mp fun q => c_898 (nI_le q (by omega))
        refine lv_iload X.1.1 X.1.2.1 dL_law_901 (lv_at hl 0 rfl) ?_
        refine lv_aload_n X.1.1 X.1.2.1 dL_law_903 rfl (lv_at hl 3 rfl) ?_
        refine lv_iload X.1.1 X.1.2.1 dL_law_904 (lv_at hl 13 rfl) ?_
        refine lv_iload X.1.1 X.1.2.1 dL_law_906 (lv_at hl 1 rfl) ?_
        refine L_waitedFor (rest := [.int (nI (sumN gg i))]) X h hl.1 hV hL hn (by omega) hk hin (v := nI (gg i)) (hgg i hin) (Nat.le_of_ble_eq_true rfl) hf dL_law_908 ?_
        refine lv_iadd X.1.1 X.1.2.1 dL_law_911 ?_
        rw [show (nI (sumN gg i)) + (nI (gg i)) = (nI (sumN gg (i + 1))) from nI_add _ _]
        refine lv_istore (lv' := [(20, .int (nI (sumN gg (i + 1)))), (21, .int (nI i)), (0, .ref b), (1, .ref (ad Z 0)), (2, .int (nI nb)), (3, .int (nI n)), (4, .ref aW), (5, .int (nI t)), (9, .ref aD), (10, .int x10), (11, .int x11), (12, .int x12), (13, .int x13), (14, .int (nI k))]) X.1.1 X.1.2.1 dL_law_912 hl (by decide) rfl (fun ls hl => ?_)
        refine lv_iinc (v := nI (i + 1)) (lv' := [(21, .int (nI (i + 1))), (20, .int (nI (sumN gg (i + 1)))), (0, .ref b), (1, .ref (ad Z 0)), (2, .int (nI nb)), (3, .int (nI n)), (4, .ref aW), (5, .int (nI t)), (9, .ref aD), (10, .int x10), (11, .int x11), (12, .int x12), (13, .int x13), (14, .int (nI k))]) X.1.1 X.1.2.1 dL_law_914 hl (k := 1) rfl (nI_1 _) (by decide) rfl (fun ls hl => ?_)
        refine lv_goto (tgt := 895) X.1.1 X.1.2.1 dL_law_917 (by decide) ?_
        exact ih (i + 1) (by omega) (by omega) ls (lv_sub hl [1, 0, 2, 3, 4, 5, 6, 7, 8, 9, 10, 11, 12, 13] rfl)
  exact loop (n + 1) 0 (by omega) (Nat.zero_le _) ls (lv_sub hl [1, 0, 2, 3, 4, 5, 6, 7, 8, 9, 10, 11, 12, 13] rfl)
set_option maxHeartbeats 4000000 in
set_option maxRecDepth 20000 in
theorem seg_T {p : Program} {e : Env} {s : State} {m : MethodId} {b : Nat} {below : List Frame} {meth : Method} {c : Code} {Z : Gm} {L : Nat} {xs : Nat → Int32} (l : Launch) (X : LC Z p s m c b L xs) {S0 T : St} {nb n t aW aD : Nat} {w : Nat → Nat} {g : Nat → Int32} (C : Stc S0 nb n) (I : Inv nb n S0 T) {V : Nat → St} (hV : V 0 = T) (hWQ : ∀ k, k < n → WQ n (w k) T k) (hw9 : ∀ k, k < n → w k < 900) (hgd : ∀ k, k < n → (g k < 0 ↔ doneF T k = false)) {cells slots : Nat} (hf : cells ≤ 630607 ∧ slots ≤ 7209803) {Q : State → Prop}
    (kk : ∀ (H : Heap) (locs : List Loc) (fW : Nat → Int32) (ls : Array Slot), LH Z V [(aW, .inl (Z.2.2.1, 5, .inl fW)), (aD, .inl (Z.2.2.1, 5, .inl g))] s H locs → (∀ j, j < n → fW j = T 43 j 0) → lv_has ls 22 [(0, .ref b), (1, .ref (ad Z 0)), (2, .int (nI nb)), (3, .int (nI n)), (4, .ref aW), (5, .int (nI t)), (9, .ref aD), (10, .int (nI (cntTo (atStF T) n))), (11, .int (nI (cntTo (onBlockF T) n))), (12, .int (nI (cntTo (doneF T) n))), (13, .int (nI (cntTo (stuckF T) n))), (14, .int (nI n))] → W p l e room_1 s m #[Value.ref b] below meth c H locs cells slots Q (F0 m 967 ls [])) :
    ∀ (f k : Nat), n - k < f → k ≤ n → ∀ (H : Heap) (locs : List Loc) (fW : Nat → Int32) (ls : Array Slot), LH Z V [(aW, .inl (Z.2.2.1, 5, .inl fW)), (aD, .inl (Z.2.2.1, 5, .inl g))] s H locs → (∀ j, k ≤ j → j < n → fW j = nI (w j)) → (∀ j, j < k → fW j = T 43 j 0) → lv_has ls 22 [(0, .ref b), (1, .ref (ad Z 0)), (2, .int (nI nb)), (3, .int (nI n)), (4, .ref aW), (5, .int (nI t)), (9, .ref aD), (10, .int (nI (cntTo (atStF T) k))), (11, .int (nI (cntTo (onBlockF T) k))), (12, .int (nI (cntTo (doneF T) k))), (13, .int (nI (cntTo (stuckF T) k))), (14, .int (nI k))] → W p l e room_1 s m #[Value.ref b] below meth c H locs cells slots Q (F0 m 519 ls []) := by
  have hL := Lim_F C I.1
  have hn := nT_F C I.1
  have hn5 := C.n5
  intro f
  induction f with
  | zero => intro k hm; exact absurd hm (by omega)
  | succ f ih =>
    intro k hm hkn H locs fW ls h hold hnew hl
    refine lv_iload X.1.1 X.1.2.1 dL_law_519 (lv_at hl 11 rfl) ?_
    refine lv_iload_n X.1.1 X.1.2.1 dL_law_521 rfl (lv_at hl 3 rfl) ?_
    refine lv_icmp_ge (tgt := 967) X.1.1 X.1.2.1 dL_law_522 (by decide) (fun c_522 => ?_) (fun c_522 => ?_)
    · have hin : k = n := by have := (nI_leI (by omega) (by omega)).mp c_522; omega
      subst hin
      exact kk H locs fW ls h hnew (lv_sub hl [0, 1, 2, 3, 4, 5, 6, 7, 8, 9, 10, 11] rfl)
    · have hk : k < n := Nat.not_le.mp fun q => c_522 (nI_le q (by omega))
      refine seg_A l X C I hV hk h rfl (hgd k hk) hf (lv_sub hl [0, 1, 2, 3, 4, 5, 6, 7, 8, 9, 10, 11] rfl) (fun v15 v16 v18 ls h15 h16 h18 hl => ?_)
      refine seg_B1 (x10 := 0) l X h15 hl (fun ls hl => ?_)
      refine seg_B2 (x11 := 0) l X h16 hl (fun ls hl => ?_)
      refine seg_B3 (x12 := 0) l X h18 hl (fun ls hl => ?_)
      refine seg_B4 (x13 := 0) (v15 := 0) (v16 := 0) (v18 := 0) l X hV hL hn hk h hf (lv_sub hl [3, 4, 5, 6, 7, 8, 9, 10, 11, 12, 13, 14] rfl) (fun ls hl => ?_)
      refine seg_C l X C I hV hk h rfl (hold k (Nat.le_refl _) hk) (by have := hw9 k hk; omega) (hWQ k hk) hf hl (fun ls hl => ?_)
      obtain ⟨w1, hw1, hv, hq44⟩ : ∃ w1, w1 < 2 ^ 31 ∧ Wv n w1 T k ∧ (T 44 k 0 = -1 ∨ ∃ q, q < n ∧ q ≠ k ∧ T 44 k 0 = nI q) := by
        have := hw9 k hk
        rcases hWQ k hk with ⟨⟨a1, a2⟩, -⟩ | ⟨⟨a1, a2⟩, -⟩
        · exact ⟨w k + 1, by omega, a1, a2⟩
        · exact ⟨w k, by omega, a1, Or.inl a2⟩
      refine seg_D l X C I hV hk h hv hw1 hq44 hf hl (fun H locs ls h hl => ?_)
      refine lv_iinc (v := nI (k + 1)) (lv' := [(14, .int (nI (k + 1))), (0, .ref b), (1, .ref (ad Z 0)), (2, .int (nI nb)), (3, .int (nI n)), (4, .ref aW), (5, .int (nI t)), (9, .ref aD), (10, .int (nI (cntTo (atStF T) (k + 1)))), (11, .int (nI (cntTo (onBlockF T) (k + 1)))), (12, .int (nI (cntTo (doneF T) (k + 1)))), (13, .int (nI (cntTo (stuckF T) (k + 1))))]) X.1.1 X.1.2.1 dL_law_961 hl (k := 11) rfl (nI_1 _) (by decide) rfl (fun ls hl => ?_)
      refine lv_goto (tgt := 519) X.1.1 X.1.2.1 dL_law_964 (by decide) ?_
      refine ih (k + 1) (by omega) (by omega) H locs _ ls h (fun j h1 h2 => ?_) (fun j h1 => ?_) (lv_sub hl [1, 2, 3, 4, 5, 6, 7, 8, 9, 10, 11, 0] rfl)
      · rw [upd_ne (by omega)]; exact hold j (by omega) h2
      · by_cases e : j = k
        · rw [e, upd_k]; exact hv.1.symm
        · rw [upd_ne e]; exact hnew j (by omega)
end CHECKC
