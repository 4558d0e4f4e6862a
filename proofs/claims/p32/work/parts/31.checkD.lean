/-! The law's checks of the counts, the blocks, the stations. -/
section CHECKD
theorem cnt_tri {S0 T : St} {n : Nat} (h : ∀ k, k < n → Tri S0 T k) : ∀ m : Nat, m ≤ n → cntTo (atStF T) m + cntTo (onBlockF T) m + cntTo (doneF T) m = m
  | 0, _ => rfl
  | m + 1, hm => by
    have ih := cnt_tri h m (by omega)
    show (cntTo (atStF T) m + (if atStF T m = true then 1 else 0)) + (cntTo (onBlockF T) m + (if onBlockF T m = true then 1 else 0)) + (cntTo (doneF T) m + (if doneF T m = true then 1 else 0)) = m + 1
    rcases h m (by omega) with A | ⟨r, p, O⟩ | D
    · have h1 : atStF T m = true := decide_eq_true A.n36
      have h2 : onBlockF T m = false := onB_f A.e38
      have h3 : doneF T m = false := decide_eq_false fun q => A.n36 q.1
      rw [h1, h2, h3]
      simp only [if_true, Bool.false_eq_true, if_false]
      omega
    · have h1 : atStF T m = false := decide_eq_false fun q => q O.2.2.1
      have h2 : onBlockF T m = true := onB_t O
      have h3 : doneF T m = false := decide_eq_false fun q => O.n38 q.2
      rw [h1, h2, h3]
      simp only [if_true, Bool.false_eq_true, if_false]
      omega
    · have h1 : atStF T m = false := decide_eq_false fun q => q D.e36
      have h2 : onBlockF T m = false := onB_f D.e38
      have h3 : doneF T m = true := decide_eq_true ⟨D.e36, D.e38⟩
      rw [h1, h2, h3]
      simp only [if_true, Bool.false_eq_true, if_false]
      omega
set_option maxHeartbeats 4000000 in
set_option maxRecDepth 20000 in
theorem seg_E {p : Program} {e : Env} {s : State} {m : MethodId} {b : Nat} {below : List Frame} {meth : Method} {c : Code} {Z : Gm} {L : Nat} {xs : Nat → Int32} (l : Launch) (X : LC Z p s m c b L xs) {S0 T : St} {nb n t aW : Nat} (C : Stc S0 nb n) (I : Inv nb n S0 T) {V : Nat → St} (hV : V 0 = T) {ex : va_W} {H : Heap} {locs : List Loc} (h : LH Z V ex s H locs) {cells slots : Nat} (hf : cells ≤ 630607 ∧ slots ≤ 7209803) {Q : State → Prop} {ls : Array Slot} (hl : lv_has ls 22 [(0, .ref b), (1, .ref (ad Z 0)), (2, .int (nI nb)), (3, .int (nI n)), (4, .ref aW), (5, .int (nI t)), (10, .int (nI (cntTo (atStF T) n))), (11, .int (nI (cntTo (onBlockF T) n))), (12, .int (nI (cntTo (doneF T) n))), (13, .int (nI (cntTo (stuckF T) n)))])
    (kk : ∀ ls : Array Slot, lv_has ls 22 [(0, .ref b), (1, .ref (ad Z 0)), (2, .int (nI nb)), (3, .int (nI n)), (4, .ref aW), (5, .int (nI t)), (10, .int (nI (cntTo (atStF T) n))), (11, .int (nI (cntTo (onBlockF T) n))), (12, .int (nI (cntTo (doneF T) n))), (13, .int (nI (cntTo (stuckF T) n)))] → W p l e room_1 s m #[Value.ref b] below meth c H locs cells slots Q (F0 m 1022 ls [])) : W p l e room_1 s m #[Value.ref b] below meth c H locs cells slots Q (F0 m 967 ls []) := by
  have F := I.1
  have hL := Lim_F C F
  have hn := nT_F C F
  have hn5 := C.n5
  have hb16 := C.b16
  have hB : (T 2 0 0).toNatClampNeg = nb := nB_F C F
  have hR : (T 4 0 0).toNatClampNeg = 8 := nR_F C F
  refine lv_aload_n X.1.1 X.1.2.1 dL_law_967 rfl (lv_at hl 1 rfl) ?_
  refine lv_iconst (v := 3) X.1.1 X.1.2.1 dL_law_968 (by decide) ?_
  refine L_many (rest := []) X h hl.1 hV hL (j := 3) (by decide) (v := (nI (cntTo (doneF T) n))) (by show nI (cntTo (doneF T) (nT T)) = _; rw [hn]) (Nat.le_of_ble_eq_true rfl) hf dL_law_969 ?_
  refine lv_iload X.1.1 X.1.2.1 dL_law_972 (lv_at hl 8 rfl) ?_
  refine lv_icmp_ne (tgt := 1020) X.1.1 X.1.2.1 dL_law_974 (by decide) (fun c => absurd c (not_not_intro rfl)) (fun _ => ?_)
  refine lv_aload_n X.1.1 X.1.2.1 dL_law_977 rfl (lv_at hl 1 rfl) ?_
  refine lv_iconst (v := 4) X.1.1 X.1.2.1 dL_law_978 (by decide) ?_
  refine L_many (rest := []) X h hl.1 hV hL (j := 4) (by decide) (v := (nI (cntTo (atStF T) n))) (by show nI (cntTo (atStF T) (nT T)) = _; rw [hn]) (Nat.le_of_ble_eq_true rfl) hf dL_law_979 ?_
  refine lv_iload X.1.1 X.1.2.1 dL_law_982 (lv_at hl 6 rfl) ?_
  refine lv_icmp_ne (tgt := 1020) X.1.1 X.1.2.1 dL_law_984 (by decide) (fun c => absurd c (not_not_intro rfl)) (fun _ => ?_)
  refine lv_aload_n X.1.1 X.1.2.1 dL_law_987 rfl (lv_at hl 1 rfl) ?_
  refine lv_iconst (v := 5) X.1.1 X.1.2.1 dL_law_988 (by decide) ?_
  refine L_many (rest := []) X h hl.1 hV hL (j := 5) (by decide) (v := (nI (cntTo (onBlockF T) n))) (by show nI (cntTo (onBlockF T) (nT T)) = _; rw [hn]) (Nat.le_of_ble_eq_true rfl) hf dL_law_989 ?_
  refine lv_iload X.1.1 X.1.2.1 dL_law_992 (lv_at hl 7 rfl) ?_
  refine lv_icmp_ne (tgt := 1020) X.1.1 X.1.2.1 dL_law_994 (by decide) (fun c => absurd c (not_not_intro rfl)) (fun _ => ?_)
  refine lv_aload_n X.1.1 X.1.2.1 dL_law_997 rfl (lv_at hl 1 rfl) ?_
  refine lv_bipush (v := 6) X.1.1 X.1.2.1 dL_law_998 (by decide) ?_
  refine L_many (rest := []) X h hl.1 hV hL (j := 6) (by decide) (v := (nI (cntTo (stuckF T) n))) (by show nI (cntTo (stuckF T) (nT T)) = _; rw [hn]) (Nat.le_of_ble_eq_true rfl) hf dL_law_1000 ?_
  refine lv_iload X.1.1 X.1.2.1 dL_law_1003 (lv_at hl 9 rfl) ?_
  refine lv_icmp_ne (tgt := 1020) X.1.1 X.1.2.1 dL_law_1005 (by decide) (fun c => absurd c (not_not_intro rfl)) (fun _ => ?_)
  refine lv_iload X.1.1 X.1.2.1 dL_law_1008 (lv_at hl 6 rfl) ?_
  refine lv_iload X.1.1 X.1.2.1 dL_law_1010 (lv_at hl 7 rfl) ?_
  refine lv_iadd X.1.1 X.1.2.1 dL_law_1012 ?_
  rw [show (nI (cntTo (atStF T) n)) + (nI (cntTo (onBlockF T) n)) = (nI (cntTo (atStF T) n + cntTo (onBlockF T) n)) from nI_add _ _]
  refine lv_iload X.1.1 X.1.2.1 dL_law_1013 (lv_at hl 8 rfl) ?_
  refine lv_iadd X.1.1 X.1.2.1 dL_law_1015 ?_
  rw [show (nI (cntTo (atStF T) n + cntTo (onBlockF T) n)) + (nI (cntTo (doneF T) n)) = (nI n) from (by rw [nI_add, cnt_tri I.2.1 n (Nat.le_refl _)])]
  refine lv_iload_n X.1.1 X.1.2.1 dL_law_1016 rfl (lv_at hl 3 rfl) ?_
  refine lv_icmp_eq (tgt := 1022) X.1.1 X.1.2.1 dL_law_1017 (by decide) (fun _ => ?_) (fun c => absurd rfl c)
  exact kk ls (lv_sub hl [0, 1, 2, 3, 4, 5, 6, 7, 8, 9] rfl)
set_option maxHeartbeats 4000000 in
set_option maxRecDepth 20000 in
theorem seg_F {p : Program} {e : Env} {s : State} {m : MethodId} {b : Nat} {below : List Frame} {meth : Method} {c : Code} {Z : Gm} {L : Nat} {xs : Nat → Int32} (l : Launch) (X : LC Z p s m c b L xs) {S0 T : St} {nb n t aW : Nat} (C : Stc S0 nb n) (I : Inv nb n S0 T) {V : Nat → St} (hV : V 0 = T) {ex : va_W} {H : Heap} {locs : List Loc} (h : LH Z V ex s H locs) {cells slots : Nat} (hf : cells ≤ 630607 ∧ slots ≤ 7209803) {Q : State → Prop} {ls : Array Slot} (hl : lv_has ls 22 [(0, .ref b), (1, .ref (ad Z 0)), (2, .int (nI nb)), (3, .int (nI n)), (4, .ref aW), (5, .int (nI t)), (11, .int (nI (cntTo (onBlockF T) n)))])
    (kk : ∀ ls : Array Slot, lv_has ls 22 [(0, .ref b), (1, .ref (ad Z 0)), (2, .int (nI nb)), (3, .int (nI n)), (4, .ref aW), (5, .int (nI t)), (11, .int (nI (cntTo (onBlockF T) n)))] → W p l e room_1 s m #[Value.ref b] below meth c H locs cells slots Q (F0 m 1146 ls [])) : W p l e room_1 s m #[Value.ref b] below meth c H locs cells slots Q (F0 m 1022 ls []) := by
  have F := I.1
  have hL := Lim_F C F
  have hn := nT_F C F
  have hn5 := C.n5
  have hb16 := C.b16
  have hB : (T 2 0 0).toNatClampNeg = nb := nB_F C F
  have hR : (T 4 0 0).toNatClampNeg = 8 := nR_F C F
  refine lv_iconst (v := 0) X.1.1 X.1.2.1 dL_law_1022 (by decide) ?_
  refine lv_istore (lv' := [(14, .int 0), (0, .ref b), (1, .ref (ad Z 0)), (2, .int (nI nb)), (3, .int (nI n)), (4, .ref aW), (5, .int (nI t)), (11, .int (nI (cntTo (onBlockF T) n)))]) X.1.1 X.1.2.1 dL_law_1023 hl (by decide) rfl (fun ls hl => ?_)
  refine lv_iconst (v := 0) X.1.1 X.1.2.1 dL_law_1025 (by decide) ?_
  refine lv_istore (lv' := [(15, .int 0), (14, .int 0), (0, .ref b), (1, .ref (ad Z 0)), (2, .int (nI nb)), (3, .int (nI n)), (4, .ref aW), (5, .int (nI t)), (11, .int (nI (cntTo (onBlockF T) n)))]) X.1.1 X.1.2.1 dL_law_1026 hl (by decide) rfl (fun ls hl => ?_)
  have loop : ∀ (f i : Nat), nb - i < f → i ≤ nb → ∀ ls : Array Slot, lv_has ls 22 [(14, .int (nI (cntTo (heldQ T) i))), (15, .int (nI i)), (0, .ref b), (1, .ref (ad Z 0)), (2, .int (nI nb)), (3, .int (nI n)), (4, .ref aW), (5, .int (nI t)), (11, .int (nI (cntTo (onBlockF T) n)))] → W p l e room_1 s m #[Value.ref b] below meth c H locs cells slots Q (F0 m 1028 ls []) := by
    intro f
    induction f with
    | zero => intro i hm; exact absurd hm (by omega)
    | succ f ih =>
      intro i hm hi ls hl
      refine lv_iload X.1.1 X.1.2.1 dL_law_1028 (lv_at hl 1 rfl) ?_
      refine lv_iload_n X.1.1 X.1.2.1 dL_law_1030 rfl (lv_at hl 4 rfl) ?_
      refine lv_icmp_ge (tgt := 1137) X.1.1 X.1.2.1 dL_law_1031 (by decide) (fun c_1031 => ?_) (fun c_1031 => ?_)
      · have hin : i = nb := by have := (nI_leI (by omega) (by omega)).mp c_1031; omega
        subst hin
        refine lv_iload X.1.1 X.1.2.1 dL_law_1137 (lv_at hl 0 rfl) ?_
        refine lv_iload X.1.1 X.1.2.1 dL_law_1139 (lv_at hl 8 rfl) ?_
        refine lv_icmp_eq (tgt := 1146) X.1.1 X.1.2.1 dL_law_1141 (by decide) (fun _ => ?_) (fun c => absurd (by rw [I.2.2.2.2.2.2]) c)
        exact kk ls (lv_sub hl [2, 3, 4, 5, 6, 7, 8] rfl)
      · have hin : i < nb := Nat.not_le.mp fun q => c_1031 (nI_le q (by omega))
        rcases I.2.2.2.2.1 i hin with h12 | ⟨h11, k, r, p, j, hk, h12, O, hwh, hpj, hj, hsb⟩
        · rcases held_val I hin with h11 | ⟨q, hq, h11⟩
          · refine lv_aload_n X.1.1 X.1.2.1 dL_law_1034 rfl (lv_at hl 3 rfl) ?_
            refine lv_iload X.1.1 X.1.2.1 dL_law_1035 (lv_at hl 1 rfl) ?_
            refine lv_iconst (v := 1) X.1.1 X.1.2.1 dL_law_1037 (by decide) ?_
            refine L_ofBlock (rest := []) X h hl.1 hV hL hB hb16 hin (j := 1) (by decide) (v := (-1)) h11 (Nat.le_of_ble_eq_true rfl) hf dL_law_1038 ?_
            refine lv_istore (lv' := [(16, .int (-1)), (14, .int (nI (cntTo (heldQ T) i))), (15, .int (nI i)), (0, .ref b), (1, .ref (ad Z 0)), (2, .int (nI nb)), (3, .int (nI n)), (4, .ref aW), (5, .int (nI t)), (11, .int (nI (cntTo (onBlockF T) n)))]) X.1.1 X.1.2.1 dL_law_1041 hl (by decide) rfl (fun ls hl => ?_)
            refine lv_iload X.1.1 X.1.2.1 dL_law_1043 (lv_at hl 1 rfl) ?_
            refine lv_iload X.1.1 X.1.2.1 dL_law_1045 (lv_at hl 0 rfl) ?_
            refine lv_if_lt (tgt := 1054) X.1.1 X.1.2.1 dL_law_1047 (by decide) (fun _ => ?_) (fun c => absurd (by decide) c)
            refine lv_iconst (v := 0) X.1.1 X.1.2.1 dL_law_1054 (by decide) ?_
            refine lv_iadd X.1.1 X.1.2.1 dL_law_1055 ?_
            rw [show (nI (cntTo (heldQ T) i)) + 0 = (nI (cntTo (heldQ T) (i + 1))) from cnt_s0 (decide_eq_false fun w => w h11)]
            refine lv_istore (lv' := [(14, .int (nI (cntTo (heldQ T) (i + 1)))), (16, .int (-1)), (15, .int (nI i)), (0, .ref b), (1, .ref (ad Z 0)), (2, .int (nI nb)), (3, .int (nI n)), (4, .ref aW), (5, .int (nI t)), (11, .int (nI (cntTo (onBlockF T) n)))]) X.1.1 X.1.2.1 dL_law_1056 hl (by decide) rfl (fun ls hl => ?_)
            refine lv_iload X.1.1 X.1.2.1 dL_law_1058 (lv_at hl 1 rfl) ?_
            refine lv_if_lt (tgt := 1087) X.1.1 X.1.2.1 dL_law_1060 (by decide) (fun _ => ?_) (fun c => absurd (by decide) c)
            refine lv_aload_n X.1.1 X.1.2.1 dL_law_1087 rfl (lv_at hl 4 rfl) ?_
            refine lv_iload X.1.1 X.1.2.1 dL_law_1088 (lv_at hl 2 rfl) ?_
            refine lv_iconst (v := 2) X.1.1 X.1.2.1 dL_law_1090 (by decide) ?_
            refine L_ofBlock (rest := []) X h hl.1 hV hL hB hb16 hin (j := 2) (by decide) (v := (-1)) h12 (Nat.le_of_ble_eq_true rfl) hf dL_law_1091 ?_
            refine lv_istore (lv' := [(17, .int (-1)), (14, .int (nI (cntTo (heldQ T) (i + 1)))), (16, .int (-1)), (15, .int (nI i)), (0, .ref b), (1, .ref (ad Z 0)), (2, .int (nI nb)), (3, .int (nI n)), (4, .ref aW), (5, .int (nI t)), (11, .int (nI (cntTo (onBlockF T) n)))]) X.1.1 X.1.2.1 dL_law_1094 hl (by decide) rfl (fun ls hl => ?_)
            refine lv_iload X.1.1 X.1.2.1 dL_law_1096 (lv_at hl 0 rfl) ?_
            refine lv_if_lt (tgt := 1131) X.1.1 X.1.2.1 dL_law_1098 (by decide) (fun _ => ?_) (fun c => absurd (by decide) c)
            refine lv_iinc (v := nI (i + 1)) (lv' := [(15, .int (nI (i + 1))), (17, .int (-1)), (14, .int (nI (cntTo (heldQ T) (i + 1)))), (16, .int (-1)), (0, .ref b), (1, .ref (ad Z 0)), (2, .int (nI nb)), (3, .int (nI n)), (4, .ref aW), (5, .int (nI t)), (11, .int (nI (cntTo (onBlockF T) n)))]) X.1.1 X.1.2.1 dL_law_1131 hl (k := 3) rfl (nI_1 _) (by decide) rfl (fun ls hl => ?_)
            refine lv_goto (tgt := 1028) X.1.1 X.1.2.1 dL_law_1134 (by decide) ?_
            exact ih (i + 1) (by omega) (by omega) ls (lv_sub hl [2, 0, 4, 5, 6, 7, 8, 9, 10] rfl)
          · have hne : T 11 i 0 ≠ -1 := by rw [h11]; exact m1_ne (by omega)
            have hu : underF T q = nI i := by
              rcases I.2.2.2.1 i hin with w | ⟨k, r, p, hk, O, e⟩
              · exact absurd w hne
              · have e2 := I.2.2.1 k r p hk O
                rw [e, h11] at e2
                have e3 : q = k := nI_inj (by omega) (by omega) e2
                rw [e3, under_on C F O, e]
            refine lv_aload_n X.1.1 X.1.2.1 dL_law_1034 rfl (lv_at hl 3 rfl) ?_
            refine lv_iload X.1.1 X.1.2.1 dL_law_1035 (lv_at hl 1 rfl) ?_
            refine lv_iconst (v := 1) X.1.1 X.1.2.1 dL_law_1037 (by decide) ?_
            refine L_ofBlock (rest := []) X h hl.1 hV hL hB hb16 hin (j := 1) (by decide) (v := (nI q)) h11 (Nat.le_of_ble_eq_true rfl) hf dL_law_1038 ?_
            refine lv_istore (lv' := [(16, .int (nI q)), (14, .int (nI (cntTo (heldQ T) i))), (15, .int (nI i)), (0, .ref b), (1, .ref (ad Z 0)), (2, .int (nI nb)), (3, .int (nI n)), (4, .ref aW), (5, .int (nI t)), (11, .int (nI (cntTo (onBlockF T) n)))]) X.1.1 X.1.2.1 dL_law_1041 hl (by decide) rfl (fun ls hl => ?_)
            refine lv_iload X.1.1 X.1.2.1 dL_law_1043 (lv_at hl 1 rfl) ?_
            refine lv_iload X.1.1 X.1.2.1 dL_law_1045 (lv_at hl 0 rfl) ?_
            refine lv_if_lt (tgt := 1054) X.1.1 X.1.2.1 dL_law_1047 (by decide) (fun c => absurd c (nI_pos (by omega))) (fun _ => ?_)
            refine lv_iconst (v := 1) X.1.1 X.1.2.1 dL_law_1050 (by decide) ?_
            refine lv_goto (tgt := 1055) X.1.1 X.1.2.1 dL_law_1051 (by decide) ?_
            refine lv_iadd X.1.1 X.1.2.1 dL_law_1055 ?_
            rw [show (nI (cntTo (heldQ T) i)) + 1 = (nI (cntTo (heldQ T) (i + 1))) from cnt_s1 (decide_eq_true hne)]
            refine lv_istore (lv' := [(14, .int (nI (cntTo (heldQ T) (i + 1)))), (16, .int (nI q)), (15, .int (nI i)), (0, .ref b), (1, .ref (ad Z 0)), (2, .int (nI nb)), (3, .int (nI n)), (4, .ref aW), (5, .int (nI t)), (11, .int (nI (cntTo (onBlockF T) n)))]) X.1.1 X.1.2.1 dL_law_1056 hl (by decide) rfl (fun ls hl => ?_)
            refine lv_iload X.1.1 X.1.2.1 dL_law_1058 (lv_at hl 1 rfl) ?_
            refine lv_if_lt (tgt := 1087) X.1.1 X.1.2.1 dL_law_1060 (by decide) (fun c => absurd c (nI_pos (by omega))) (fun _ => ?_)
            refine lv_aload_n X.1.1 X.1.2.1 dL_law_1063 rfl (lv_at hl 4 rfl) ?_
            refine lv_iload X.1.1 X.1.2.1 dL_law_1064 (lv_at hl 1 rfl) ?_
            refine lv_iconst (v := 5) X.1.1 X.1.2.1 dL_law_1066 (by decide) ?_
            refine L_ofTrain (rest := []) X h hl.1 hV hL hn (by omega) hq (j := 5) (by decide) (v := nI i) hu (Nat.le_of_ble_eq_true rfl) hf dL_law_1067 ?_
            refine lv_iload X.1.1 X.1.2.1 dL_law_1070 (lv_at hl 2 rfl) ?_
            refine lv_icmp_ne (tgt := 1085) X.1.1 X.1.2.1 dL_law_1072 (by decide) (fun c => absurd c (not_not_intro rfl)) (fun _ => ?_)
            refine lv_aload_n X.1.1 X.1.2.1 dL_law_1075 rfl (lv_at hl 4 rfl) ?_
            refine lv_iload X.1.1 X.1.2.1 dL_law_1076 (lv_at hl 2 rfl) ?_
            refine lv_iconst (v := 2) X.1.1 X.1.2.1 dL_law_1078 (by decide) ?_
            refine L_ofBlock (rest := []) X h hl.1 hV hL hB hb16 hin (j := 2) (by decide) (v := (-1)) h12 (Nat.le_of_ble_eq_true rfl) hf dL_law_1079 ?_
            refine lv_if_lt (tgt := 1087) X.1.1 X.1.2.1 dL_law_1082 (by decide) (fun _ => ?_) (fun c => absurd (by decide) c)
            refine lv_aload_n X.1.1 X.1.2.1 dL_law_1087 rfl (lv_at hl 4 rfl) ?_
            refine lv_iload X.1.1 X.1.2.1 dL_law_1088 (lv_at hl 2 rfl) ?_
            refine lv_iconst (v := 2) X.1.1 X.1.2.1 dL_law_1090 (by decide) ?_
            refine L_ofBlock (rest := []) X h hl.1 hV hL hB hb16 hin (j := 2) (by decide) (v := (-1)) h12 (Nat.le_of_ble_eq_true rfl) hf dL_law_1091 ?_
            refine lv_istore (lv' := [(17, .int (-1)), (14, .int (nI (cntTo (heldQ T) (i + 1)))), (16, .int (nI q)), (15, .int (nI i)), (0, .ref b), (1, .ref (ad Z 0)), (2, .int (nI nb)), (3, .int (nI n)), (4, .ref aW), (5, .int (nI t)), (11, .int (nI (cntTo (onBlockF T) n)))]) X.1.1 X.1.2.1 dL_law_1094 hl (by decide) rfl (fun ls hl => ?_)
            refine lv_iload X.1.1 X.1.2.1 dL_law_1096 (lv_at hl 0 rfl) ?_
            refine lv_if_lt (tgt := 1131) X.1.1 X.1.2.1 dL_law_1098 (by decide) (fun _ => ?_) (fun c => absurd (by decide) c)
            refine lv_iinc (v := nI (i + 1)) (lv' := [(15, .int (nI (i + 1))), (17, .int (-1)), (14, .int (nI (cntTo (heldQ T) (i + 1)))), (16, .int (nI q)), (0, .ref b), (1, .ref (ad Z 0)), (2, .int (nI nb)), (3, .int (nI n)), (4, .ref aW), (5, .int (nI t)), (11, .int (nI (cntTo (onBlockF T) n)))]) X.1.1 X.1.2.1 dL_law_1131 hl (k := 3) rfl (nI_1 _) (by decide) rfl (fun ls hl => ?_)
            refine lv_goto (tgt := 1028) X.1.1 X.1.2.1 dL_law_1134 (by decide) ?_
            exact ih (i + 1) (by omega) (by omega) ls (lv_sub hl [2, 0, 4, 5, 6, 7, 8, 9, 10] rfl)
        · have hr8 := O.1
          have ew : T 22 r 0 = 1 := (F.st (by decide) r 0).trans hwh
          refine lv_aload_n X.1.1 X.1.2.1 dL_law_1034 rfl (lv_at hl 3 rfl) ?_
          refine lv_iload X.1.1 X.1.2.1 dL_law_1035 (lv_at hl 1 rfl) ?_
          refine lv_iconst (v := 1) X.1.1 X.1.2.1 dL_law_1037 (by decide) ?_
          refine L_ofBlock (rest := []) X h hl.1 hV hL hB hb16 hin (j := 1) (by decide) (v := (-1)) h11 (Nat.le_of_ble_eq_true rfl) hf dL_law_1038 ?_
          refine lv_istore (lv' := [(16, .int (-1)), (14, .int (nI (cntTo (heldQ T) i))), (15, .int (nI i)), (0, .ref b), (1, .ref (ad Z 0)), (2, .int (nI nb)), (3, .int (nI n)), (4, .ref aW), (5, .int (nI t)), (11, .int (nI (cntTo (onBlockF T) n)))]) X.1.1 X.1.2.1 dL_law_1041 hl (by decide) rfl (fun ls hl => ?_)
          refine lv_iload X.1.1 X.1.2.1 dL_law_1043 (lv_at hl 1 rfl) ?_
          refine lv_iload X.1.1 X.1.2.1 dL_law_1045 (lv_at hl 0 rfl) ?_
          refine lv_if_lt (tgt := 1054) X.1.1 X.1.2.1 dL_law_1047 (by decide) (fun _ => ?_) (fun c => absurd (by decide) c)
          refine lv_iconst (v := 0) X.1.1 X.1.2.1 dL_law_1054 (by decide) ?_
          refine lv_iadd X.1.1 X.1.2.1 dL_law_1055 ?_
          rw [show (nI (cntTo (heldQ T) i)) + 0 = (nI (cntTo (heldQ T) (i + 1))) from cnt_s0 (decide_eq_false fun w => w h11)]
          refine lv_istore (lv' := [(14, .int (nI (cntTo (heldQ T) (i + 1)))), (16, .int (-1)), (15, .int (nI i)), (0, .ref b), (1, .ref (ad Z 0)), (2, .int (nI nb)), (3, .int (nI n)), (4, .ref aW), (5, .int (nI t)), (11, .int (nI (cntTo (onBlockF T) n)))]) X.1.1 X.1.2.1 dL_law_1056 hl (by decide) rfl (fun ls hl => ?_)
          refine lv_iload X.1.1 X.1.2.1 dL_law_1058 (lv_at hl 1 rfl) ?_
          refine lv_if_lt (tgt := 1087) X.1.1 X.1.2.1 dL_law_1060 (by decide) (fun _ => ?_) (fun c => absurd (by decide) c)
          refine lv_aload_n X.1.1 X.1.2.1 dL_law_1087 rfl (lv_at hl 4 rfl) ?_
          refine lv_iload X.1.1 X.1.2.1 dL_law_1088 (lv_at hl 2 rfl) ?_
          refine lv_iconst (v := 2) X.1.1 X.1.2.1 dL_law_1090 (by decide) ?_
          refine L_ofBlock (rest := []) X h hl.1 hV hL hB hb16 hin (j := 2) (by decide) (v := (nI k)) h12 (Nat.le_of_ble_eq_true rfl) hf dL_law_1091 ?_
          refine lv_istore (lv' := [(17, .int (nI k)), (14, .int (nI (cntTo (heldQ T) (i + 1)))), (16, .int (-1)), (15, .int (nI i)), (0, .ref b), (1, .ref (ad Z 0)), (2, .int (nI nb)), (3, .int (nI n)), (4, .ref aW), (5, .int (nI t)), (11, .int (nI (cntTo (onBlockF T) n)))]) X.1.1 X.1.2.1 dL_law_1094 hl (by decide) rfl (fun ls hl => ?_)
          refine lv_iload X.1.1 X.1.2.1 dL_law_1096 (lv_at hl 0 rfl) ?_
          refine lv_if_lt (tgt := 1131) X.1.1 X.1.2.1 dL_law_1098 (by decide) (fun c => absurd c (nI_pos (by omega))) (fun _ => ?_)
          refine lv_aload_n X.1.1 X.1.2.1 dL_law_1101 rfl (lv_at hl 5 rfl) ?_
          refine lv_iload X.1.1 X.1.2.1 dL_law_1102 (lv_at hl 0 rfl) ?_
          refine lv_bipush (v := 6) X.1.1 X.1.2.1 dL_law_1104 (by decide) ?_
          refine L_ofTrain (rest := []) X h hl.1 hV hL hn (by omega) hk (j := 6) (by decide) (v := nI r) O.2.2.2.1 (Nat.le_of_ble_eq_true rfl) hf dL_law_1106 ?_
          refine lv_if_lt (tgt := 1129) X.1.1 X.1.2.1 dL_law_1109 (by decide) (fun c => absurd c (nI_pos (by omega))) (fun _ => ?_)
          refine lv_aload_n X.1.1 X.1.2.1 dL_law_1112 rfl (lv_at hl 5 rfl) ?_
          refine lv_aload_n X.1.1 X.1.2.1 dL_law_1113 rfl (lv_at hl 5 rfl) ?_
          refine lv_iload X.1.1 X.1.2.1 dL_law_1114 (lv_at hl 0 rfl) ?_
          refine lv_bipush (v := 6) X.1.1 X.1.2.1 dL_law_1116 (by decide) ?_
          refine L_ofTrain (rest := [.ref (ad Z 0)]) X h hl.1 hV hL hn (by omega) hk (j := 6) (by decide) (v := nI r) O.2.2.2.1 (Nat.le_of_ble_eq_true rfl) hf dL_law_1118 ?_
          refine lv_iconst (v := 3) X.1.1 X.1.2.1 dL_law_1121 (by decide) ?_
          refine L_ofRoute (rest := []) X h hl.1 hV hL hR (by omega) hr8 (j := 3) (by decide) (v := 1) (by show oneF (T 22 r 0) = 1; rw [ew]; rfl) (Nat.le_of_ble_eq_true rfl) hf dL_law_1122 ?_
          refine lv_iconst (v := 1) X.1.1 X.1.2.1 dL_law_1125 (by decide) ?_
          refine lv_icmp_eq (tgt := 1131) X.1.1 X.1.2.1 dL_law_1126 (by decide) (fun _ => ?_) (fun c => absurd rfl c)
          refine lv_iinc (v := nI (i + 1)) (lv' := [(15, .int (nI (i + 1))), (17, .int (nI k)), (14, .int (nI (cntTo (heldQ T) (i + 1)))), (16, .int (-1)), (0, .ref b), (1, .ref (ad Z 0)), (2, .int (nI nb)), (3, .int (nI n)), (4, .ref aW), (5, .int (nI t)), (11, .int (nI (cntTo (onBlockF T) n)))]) X.1.1 X.1.2.1 dL_law_1131 hl (k := 3) rfl (nI_1 _) (by decide) rfl (fun ls hl => ?_)
          refine lv_goto (tgt := 1028) X.1.1 X.1.2.1 dL_law_1134 (by decide) ?_
          exact ih (i + 1) (by omega) (by omega) ls (lv_sub hl [2, 0, 4, 5, 6, 7, 8, 9, 10] rfl)
  exact loop (nb + 1) 0 (by omega) (Nat.zero_le _) ls (lv_sub hl [1, 0, 2, 3, 4, 5, 6, 7, 8] rfl)
set_option maxHeartbeats 4000000 in
set_option maxRecDepth 20000 in
theorem seg_G {p : Program} {e : Env} {s : State} {m : MethodId} {b : Nat} {below : List Frame} {meth : Method} {c : Code} {Z : Gm} {L : Nat} {xs : Nat → Int32} (l : Launch) (X : LC Z p s m c b L xs) {S0 T : St} {nb n t aW : Nat} (C : Stc S0 nb n) (I : Inv nb n S0 T) {V : Nat → St} (hV : V 0 = T) {ex : va_W} {H : Heap} {locs : List Loc} (h : LH Z V ex s H locs) {cells slots : Nat} (hf : cells ≤ 630607 ∧ slots ≤ 7209803) {Q : State → Prop} {ls : Array Slot} (hl : lv_has ls 22 [(0, .ref b), (1, .ref (ad Z 0)), (2, .int (nI nb)), (3, .int (nI n)), (4, .ref aW), (5, .int (nI t))])
    (kk : ∀ ls : Array Slot, lv_has ls 22 [(0, .ref b), (1, .ref (ad Z 0)), (2, .int (nI nb)), (3, .int (nI n)), (4, .ref aW), (5, .int (nI t))] → W p l e room_1 s m #[Value.ref b] below meth c H locs cells slots Q (F0 m 1189 ls [])) : W p l e room_1 s m #[Value.ref b] below meth c H locs cells slots Q (F0 m 1146 ls []) := by
  have F := I.1
  have hL := Lim_F C F
  have hn := nT_F C F
  have hn5 := C.n5
  have hb16 := C.b16
  have hB : (T 2 0 0).toNatClampNeg = nb := nB_F C F
  have hR : (T 4 0 0).toNatClampNeg = 8 := nR_F C F
  refine lv_iconst (v := 0) X.1.1 X.1.2.1 dL_law_1146 (by decide) ?_
  refine lv_istore (lv' := [(15, .int 0), (0, .ref b), (1, .ref (ad Z 0)), (2, .int (nI nb)), (3, .int (nI n)), (4, .ref aW), (5, .int (nI t))]) X.1.1 X.1.2.1 dL_law_1147 hl (by decide) rfl (fun ls hl => ?_)
  have loop : ∀ (f i : Nat), 6 - i < f → i ≤ 6 → ∀ ls : Array Slot, lv_has ls 22 [(15, .int (nI i)), (0, .ref b), (1, .ref (ad Z 0)), (2, .int (nI nb)), (3, .int (nI n)), (4, .ref aW), (5, .int (nI t))] → W p l e room_1 s m #[Value.ref b] below meth c H locs cells slots Q (F0 m 1149 ls []) := by
    intro f
    induction f with
    | zero => intro i hm; exact absurd hm (by omega)
    | succ f ih =>
      intro i hm hi ls hl
      refine lv_iload X.1.1 X.1.2.1 dL_law_1149 (lv_at hl 0 rfl) ?_
      refine lv_bipush (v := 6) X.1.1 X.1.2.1 dL_law_1151 (by decide) ?_
      refine lv_icmp_ge (tgt := 1189) X.1.1 X.1.2.1 dL_law_1153 (by decide) (fun c_1153 => ?_) (fun c_1153 => ?_)
      · exact kk ls (lv_sub hl [1, 2, 3, 4, 5, 6] rfl)
      · have hin : i < 6 := Nat.not_le.mp fun q => c_1153 (nI_le (a := 6) q (by omega))
        have hroom := I.2.2.2.2.2.1 i hin
        refine lv_aload_n X.1.1 X.1.2.1 dL_law_1156 rfl (lv_at hl 2 rfl) ?_
        refine lv_iload X.1.1 X.1.2.1 dL_law_1157 (lv_at hl 0 rfl) ?_
        refine lv_iconst (v := 1) X.1.1 X.1.2.1 dL_law_1159 (by decide) ?_
        refine L_station (rest := []) X h hl.1 hV hL hin (j := 1) (by decide) (v := nI (cntTo (atQ T (nI i)) n)) (by show nI (cntTo (atQ T (nI i)) (nT T)) = _; rw [hn]) (Nat.le_of_ble_eq_true rfl) hf dL_law_1160 ?_
        refine lv_aload_n X.1.1 X.1.2.1 dL_law_1163 rfl (lv_at hl 2 rfl) ?_
        refine lv_iload X.1.1 X.1.2.1 dL_law_1164 (lv_at hl 0 rfl) ?_
        refine lv_iconst (v := 2) X.1.1 X.1.2.1 dL_law_1166 (by decide) ?_
        refine L_station (rest := [.int (nI (cntTo (atQ T (nI i)) n))]) X h hl.1 hV hL hin (j := 2) (by decide) (v := nI (cntTo (wayQ T (nI i)) n)) (by show nI (cntTo (wayQ T (nI i)) (nT T)) = _; rw [hn]) (Nat.le_of_ble_eq_true rfl) hf dL_law_1167 ?_
        refine lv_iadd X.1.1 X.1.2.1 dL_law_1170 ?_
        rw [show (nI (cntTo (atQ T (nI i)) n)) + (nI (cntTo (wayQ T (nI i)) n)) = (nI (cntTo (atQ T (nI i)) n + cntTo (wayQ T (nI i)) n)) from nI_add _ _]
        refine lv_aload_n X.1.1 X.1.2.1 dL_law_1171 rfl (lv_at hl 2 rfl) ?_
        refine lv_iload X.1.1 X.1.2.1 dL_law_1172 (lv_at hl 0 rfl) ?_
        refine lv_iconst (v := 0) X.1.1 X.1.2.1 dL_law_1174 (by decide) ?_
        refine L_station (rest := [.int (nI (cntTo (atQ T (nI i)) n + cntTo (wayQ T (nI i)) n))]) X h hl.1 hV hL hin (j := 0) (by decide) (v := nI 2) (by show T 0 0 (nI i).toNatClampNeg = _; rw [nI_clamp (by omega), F.st (by decide), C.pl hin]; rfl) (Nat.le_of_ble_eq_true rfl) hf dL_law_1175 ?_
        refine lv_icmp_le (tgt := 1183) X.1.1 X.1.2.1 dL_law_1178 (by decide) (fun _ => ?_) (fun c => absurd (nI_le hroom (by omega)) c)
        refine lv_iinc (v := nI (i + 1)) (lv' := [(15, .int (nI (i + 1))), (0, .ref b), (1, .ref (ad Z 0)), (2, .int (nI nb)), (3, .int (nI n)), (4, .ref aW), (5, .int (nI t))]) X.1.1 X.1.2.1 dL_law_1183 hl (k := 0) rfl (nI_1 _) (by decide) rfl (fun ls hl => ?_)
        refine lv_goto (tgt := 1149) X.1.1 X.1.2.1 dL_law_1186 (by decide) ?_
        exact ih (i + 1) (by omega) (by omega) ls (lv_sub hl [0, 1, 2, 3, 4, 5, 6] rfl)
  exact loop 7 0 (by omega) (Nat.zero_le _) ls (lv_sub hl [0, 1, 2, 3, 4, 5, 6] rfl)
end CHECKD
