/-! The law builds: the routes, the blocks. -/
section BUILDROUTES
theorem or_b2i (p q : Bool) : b2i p ||| b2i q = b2i (p || q) := by cases p <;> cases q <;> decide
theorem b2i_d {P : Prop} [Decidable P] (h : P) : (1 : Int32) = b2i (decide P) := by rw [decide_eq_true h]; rfl
theorem b2i_n {P : Prop} [Decidable P] (h : ¬ P) : (0 : Int32) = b2i (decide P) := by rw [decide_eq_false h]; rfl
set_option maxHeartbeats 4000000 in
set_option maxRecDepth 20000 in
theorem seg_has {p : Program} {e : Env} {s : State} {m : MethodId} {b : Nat} {below : List Frame} {meth : Method} {c : Code} {Z : Gm} {L : Nat} {xs : Nat → Int32} (l : Launch) (X : LC Z p s m c b L xs) {nb k i y c0 : Nat} {S : St} (hb : nb ≤ 16) (hk8 : k < 8) (B : Bld nb (k + 1) 0 S) (hc : S 23 k 0 = nI c0) (hc5 : c0 < 5) {V : Nat → St} (hV : V 0 = S) {H : Heap} {locs : List Loc} (h : LH Z V [] s H locs) {cells slots : Nat} (hf : cells ≤ 630607 ∧ slots ≤ 7209803) {Q : State → Prop}
    (kk : ∀ ls : Array Slot, lv_has ls 22 [(8, .int (b2i (hasBlockF S k (nI y) c0))), (7, .int (nI y)), (0, .ref b), (1, .ref (ad Z 0)), (2, .int (nI nb)), (3, .int (nI k)), (4, .int (cellF L xs (k + 2))), (6, .int (nI i))] → W p l e room_1 s m #[Value.ref b] below meth c H locs cells slots Q (F0 m 186 ls [])) : ∀ (f a : Nat), c0 - a < f → a ≤ c0 → ∀ ls : Array Slot, lv_has ls 22 [(9, .int (nI a)), (8, .int (b2i (hasBlockF S k (nI y) a))), (7, .int (nI y)), (0, .ref b), (1, .ref (ad Z 0)), (2, .int (nI nb)), (3, .int (nI k)), (4, .int (cellF L xs (k + 2))), (6, .int (nI i))] → W p l e room_1 s m #[Value.ref b] below meth c H locs cells slots Q (F0 m 147 ls []) := by
  have hL := Bld_lim B hb (by omega) (by omega)
  have hR : (S 4 0 0).toNatClampNeg = k + 1 := by rw [B.2.1, nI_clamp (by omega)]
  intro f
  induction f with
  | zero => intro a hm; exact absurd hm (by omega)
  | succ f ih =>
    intro a hm ha ls hl
    refine lv_iload X.1.1 X.1.2.1 dL_law_147 (lv_at hl 0 rfl) ?_
    refine lv_aload_n X.1.1 X.1.2.1 dL_law_149 rfl (lv_at hl 4 rfl) ?_
    refine lv_iload_n X.1.1 X.1.2.1 dL_law_150 rfl (lv_at hl 6 rfl) ?_
    refine lv_iconst (v := 2) X.1.1 X.1.2.1 dL_law_151 (by decide) ?_
    refine L_ofRoute (rest := [.int (nI a)]) X h hl.1 hV hL hR (by omega) (by omega) (j := 2) (by decide) (v := nI c0) hc (Nat.le_of_ble_eq_true rfl) hf dL_law_152 ?_
    refine lv_icmp_ge (tgt := 186) X.1.1 X.1.2.1 dL_law_155 (by decide) (fun c_155 => ?_) (fun c_155 => ?_)
    · have hin : c0 = a := by have := (nI_leI (by omega) (by omega)).mp c_155; omega
      subst hin
      exact kk ls (lv_sub hl [1, 2, 3, 4, 5, 6, 7, 8] rfl)
    · have hin : a < c0 := Nat.not_le.mp fun q => c_155 (nI_le q (by omega))
      refine lv_iload X.1.1 X.1.2.1 dL_law_158 (lv_at hl 1 rfl) ?_
      refine lv_aload_n X.1.1 X.1.2.1 dL_law_160 rfl (lv_at hl 4 rfl) ?_
      refine lv_iload_n X.1.1 X.1.2.1 dL_law_161 rfl (lv_at hl 6 rfl) ?_
      refine lv_iload X.1.1 X.1.2.1 dL_law_162 (lv_at hl 0 rfl) ?_
      refine L_onRoute (rest := [.int (b2i (hasBlockF S k (nI y) a))]) X h hl.1 hV hL hR (by omega) (by omega) hc (by omega) hin (v := blockAtF S k (nI a)) rfl (Nat.le_of_ble_eq_true rfl) hf dL_law_164 ?_
      refine lv_iload X.1.1 X.1.2.1 dL_law_167 (lv_at hl 2 rfl) ?_
      refine lv_icmp_ne (tgt := 176) X.1.1 X.1.2.1 dL_law_169 (by decide) (fun c_169 => ?_) (fun c_169 => ?_)
      · refine lv_iconst (v := 0) X.1.1 X.1.2.1 dL_law_176 (by decide) ?_
        refine lv_ior X.1.1 X.1.2.1 dL_law_177 ?_
        rw [show ((b2i (hasBlockF S k (nI y) a)) ||| 0 : Int32) = (b2i (hasBlockF S k (nI y) (a + 1))) from (by rw [b2i_n c_169, or_b2i]; rfl)]
        refine lv_istore (lv' := [(8, .int (b2i (hasBlockF S k (nI y) (a + 1)))), (9, .int (nI a)), (7, .int (nI y)), (0, .ref b), (1, .ref (ad Z 0)), (2, .int (nI nb)), (3, .int (nI k)), (4, .int (cellF L xs (k + 2))), (6, .int (nI i))]) X.1.1 X.1.2.1 dL_law_178 hl (by decide) rfl (fun ls hl => ?_)
        refine lv_iinc (v := nI (a + 1)) (lv' := [(9, .int (nI (a + 1))), (8, .int (b2i (hasBlockF S k (nI y) (a + 1)))), (7, .int (nI y)), (0, .ref b), (1, .ref (ad Z 0)), (2, .int (nI nb)), (3, .int (nI k)), (4, .int (cellF L xs (k + 2))), (6, .int (nI i))]) X.1.1 X.1.2.1 dL_law_180 hl (k := 1) rfl (nI_1 _) (by decide) rfl (fun ls hl => ?_)
        refine lv_goto (tgt := 147) X.1.1 X.1.2.1 dL_law_183 (by decide) ?_
        exact ih (a + 1) (by omega) (by omega) ls (lv_sub hl [0, 1, 2, 3, 4, 5, 6, 7, 8] rfl)
      · refine lv_iconst (v := 1) X.1.1 X.1.2.1 dL_law_172 (by decide) ?_
        refine lv_goto (tgt := 177) X.1.1 X.1.2.1 dL_law_173 (by decide) ?_
        refine lv_ior X.1.1 X.1.2.1 dL_law_177 ?_
        rw [show ((b2i (hasBlockF S k (nI y) a)) ||| 1 : Int32) = (b2i (hasBlockF S k (nI y) (a + 1))) from (by rw [b2i_d c_169, or_b2i]; rfl)]
        refine lv_istore (lv' := [(8, .int (b2i (hasBlockF S k (nI y) (a + 1)))), (9, .int (nI a)), (7, .int (nI y)), (0, .ref b), (1, .ref (ad Z 0)), (2, .int (nI nb)), (3, .int (nI k)), (4, .int (cellF L xs (k + 2))), (6, .int (nI i))]) X.1.1 X.1.2.1 dL_law_178 hl (by decide) rfl (fun ls hl => ?_)
        refine lv_iinc (v := nI (a + 1)) (lv' := [(9, .int (nI (a + 1))), (8, .int (b2i (hasBlockF S k (nI y) (a + 1)))), (7, .int (nI y)), (0, .ref b), (1, .ref (ad Z 0)), (2, .int (nI nb)), (3, .int (nI k)), (4, .int (cellF L xs (k + 2))), (6, .int (nI i))]) X.1.1 X.1.2.1 dL_law_180 hl (k := 1) rfl (nI_1 _) (by decide) rfl (fun ls hl => ?_)
        refine lv_goto (tgt := 147) X.1.1 X.1.2.1 dL_law_183 (by decide) ?_
        exact ih (a + 1) (by omega) (by omega) ls (lv_sub hl [0, 1, 2, 3, 4, 5, 6, 7, 8] rfl)
set_option maxHeartbeats 4000000 in
set_option maxRecDepth 20000 in
theorem seg_over {p : Program} {e : Env} {s : State} {m : MethodId} {b : Nat} {below : List Frame} {meth : Method} {c : Code} {Z : Gm} {L : Nat} {xs : Nat → Int32} (l : Launch) (X : LC Z p s m c b L xs) {nb k : Nat} (hb0 : 0 < nb) (hb : nb ≤ 16) (hk8 : k < 8)
    (kk : ∀ (S : St) (V : Nat → St) (H : Heap) (locs : List Loc) (ls : Array Slot), Bld nb (k + 1) 0 S → V 0 = S → V 1 = initS → LH Z V [] s H locs → lv_has ls 22 [(0, .ref b), (1, .ref (ad Z 0)), (2, .int (nI nb)), (3, .int (nI k))] → W p l e room_1 s m #[Value.ref b] below meth c H locs 171 1202 (lw_Z below #[Value.ref b] s) (F0 m 205 ls [])) : ∀ (f i : Nat), 3 - i < f → i ≤ 2 → ∀ (S : St) (V : Nat → St) (H : Heap) (locs : List Loc) (ls : Array Slot) (c0 : Nat), Bld nb (k + 1) 0 S → V 0 = S → V 1 = initS → LH Z V [] s H locs → S 23 k 0 = nI c0 → c0 ≤ i + 1 → lv_has ls 22 [(0, .ref b), (1, .ref (ad Z 0)), (2, .int (nI nb)), (3, .int (nI k)), (4, .int (cellF L xs (k + 2))), (6, .int (nI i))] → W p l e room_1 s m #[Value.ref b] below meth c H locs 171 1202 (lw_Z below #[Value.ref b] s) (F0 m 115 ls []) := by
  have hf : 171 ≤ 630607 ∧ 1202 ≤ 7209803 := ⟨Nat.le_of_ble_eq_true rfl, Nat.le_of_ble_eq_true rfl⟩
  intro f
  induction f with
  | zero => intro i hm; exact absurd hm (by omega)
  | succ f ih =>
    intro i hm hi S V H locs ls c0 B hV hV1 h hc hci hl
    refine lv_iload X.1.1 X.1.2.1 dL_law_115 (lv_at hl 5 rfl) ?_
    refine lv_iload X.1.1 X.1.2.1 dL_law_117 (lv_at hl 4 rfl) ?_
    refine lv_iconst (v := 3) X.1.1 X.1.2.1 dL_law_119 (by decide) ?_
    refine lv_ishr X.1.1 X.1.2.1 dL_law_120 ?_
    refine lv_iconst (v := 3) X.1.1 X.1.2.1 dL_law_121 (by decide) ?_
    refine L_below (rest := [.int (nI i)]) X h hl.1 (n := 3) (by decide) (by decide) (Nat.le_of_ble_eq_true rfl) hf dL_law_122 ?_
    refine lv_icmp_ge (tgt := 205) X.1.1 X.1.2.1 dL_law_125 (by decide) (fun c_125 => ?_) (fun c_125 => ?_)
    · exact kk S V H locs ls B hV hV1 h (lv_sub hl [0, 1, 2, 3] rfl)
    · have hq3 := below_lt ((cellF L xs (k + 2)) >>> ((3 : Int32) &&& 31)) (n := 3) (by decide)
      have hi2 : i < (belowF ((cellF L xs (k + 2)) >>> ((3 : Int32) &&& 31)) 3) := Nat.not_le.mp fun q => c_125 (nI_le q (by omega))
      refine lv_iload X.1.1 X.1.2.1 dL_law_128 (lv_at hl 4 rfl) ?_
      refine lv_iconst (v := 5) X.1.1 X.1.2.1 dL_law_130 (by decide) ?_
      refine lv_iload X.1.1 X.1.2.1 dL_law_131 (lv_at hl 5 rfl) ?_
      refine lv_iadd X.1.1 X.1.2.1 dL_law_133 ?_
      refine lv_ishr X.1.1 X.1.2.1 dL_law_134 ?_
      refine lv_iload_n X.1.1 X.1.2.1 dL_law_135 rfl (lv_at hl 2 rfl) ?_
      refine L_below (rest := []) X h hl.1 (n := nb) hb0 (by omega) (Nat.le_of_ble_eq_true rfl) hf dL_law_136 ?_
      refine lv_istore (lv' := [(7, .int (nI (belowF ((cellF L xs (k + 2)) >>> ((5 + (nI i) : Int32) &&& 31)) nb))), (0, .ref b), (1, .ref (ad Z 0)), (2, .int (nI nb)), (3, .int (nI k)), (4, .int (cellF L xs (k + 2))), (6, .int (nI i))]) X.1.1 X.1.2.1 dL_law_139 hl (by decide) rfl (fun ls hl => ?_)
      refine lv_iconst (v := 0) X.1.1 X.1.2.1 dL_law_141 (by decide) ?_
      refine lv_istore (lv' := [(8, .int 0), (7, .int (nI (belowF ((cellF L xs (k + 2)) >>> ((5 + (nI i) : Int32) &&& 31)) nb))), (0, .ref b), (1, .ref (ad Z 0)), (2, .int (nI nb)), (3, .int (nI k)), (4, .int (cellF L xs (k + 2))), (6, .int (nI i))]) X.1.1 X.1.2.1 dL_law_142 hl (by decide) rfl (fun ls hl => ?_)
      refine lv_iconst (v := 0) X.1.1 X.1.2.1 dL_law_144 (by decide) ?_
      refine lv_istore (lv' := [(9, .int 0), (8, .int 0), (7, .int (nI (belowF ((cellF L xs (k + 2)) >>> ((5 + (nI i) : Int32) &&& 31)) nb))), (0, .ref b), (1, .ref (ad Z 0)), (2, .int (nI nb)), (3, .int (nI k)), (4, .int (cellF L xs (k + 2))), (6, .int (nI i))]) X.1.1 X.1.2.1 dL_law_145 hl (by decide) rfl (fun ls hl => ?_)
      have hy := below_lt ((cellF L xs (k + 2)) >>> ((5 + (nI i) : Int32) &&& 31)) (n := nb) hb0
      generalize (belowF ((cellF L xs (k + 2)) >>> ((5 + (nI i) : Int32) &&& 31)) nb) = y at hy hl
      refine seg_has l X hb hk8 B hc (by omega) hV h hf (fun ls hl => ?_) (c0 + 1) 0 (by omega) (Nat.zero_le _) ls (lv_sub hl [0, 1, 2, 3, 4, 5, 6, 7, 8] rfl)
      refine lv_iload X.1.1 X.1.2.1 dL_law_186 (lv_at hl 0 rfl) ?_
      refine lv_if_ne (tgt := 199) X.1.1 X.1.2.1 dL_law_188 (by decide) (fun c_188 => ?_) (fun c_188 => ?_)
      · refine lv_iinc (v := nI (i + 1)) (lv' := [(6, .int (nI (i + 1))), (8, .int (b2i (hasBlockF S k (nI y) c0))), (7, .int (nI y)), (0, .ref b), (1, .ref (ad Z 0)), (2, .int (nI nb)), (3, .int (nI k)), (4, .int (cellF L xs (k + 2)))]) X.1.1 X.1.2.1 dL_law_199 hl (k := 7) rfl (nI_1 _) (by decide) rfl (fun ls hl => ?_)
        refine lv_goto (tgt := 115) X.1.1 X.1.2.1 dL_law_202 (by decide) ?_
        exact ih (i + 1) (by omega) (by omega) _ _ H locs ls c0 B hV hV1 h hc (by omega) (lv_sub hl [3, 4, 5, 6, 7, 0] rfl)
      · have hnb : hasBlockF S k (nI y) c0 = false := b2i_f c_188
        have hL := Bld_lim B hb (by omega) (by omega)
        obtain ⟨B2, hc2⟩ := Bld_over B hy hb hc (by omega) hnb
        refine lv_aload_n X.1.1 X.1.2.1 dL_law_191 rfl (lv_at hl 3 rfl) ?_
        refine lv_iload_n X.1.1 X.1.2.1 dL_law_192 rfl (lv_at hl 5 rfl) ?_
        refine lv_iload X.1.1 X.1.2.1 dL_law_193 (lv_at hl 1 rfl) ?_
        refine L_over (rest := []) X h hl.1 hV hL B.2.1 (by omega) (Nat.lt_succ_self k) B.1 (by omega) hy hc (by omega) hnb B.2.2.1 (Nat.le_of_ble_eq_true rfl) hf dL_law_195 (fun H locs h r => ?_)
        refine lv_pop X.1.1 X.1.2.1 dL_law_198 rfl ?_
        refine lv_iinc (v := nI (i + 1)) (lv' := [(6, .int (nI (i + 1))), (8, .int (b2i (hasBlockF S k (nI y) c0))), (7, .int (nI y)), (0, .ref b), (1, .ref (ad Z 0)), (2, .int (nI nb)), (3, .int (nI k)), (4, .int (cellF L xs (k + 2)))]) X.1.1 X.1.2.1 dL_law_199 hl (k := 7) rfl (nI_1 _) (by decide) rfl (fun ls hl => ?_)
        refine lv_goto (tgt := 115) X.1.1 X.1.2.1 dL_law_202 (by decide) ?_
        exact ih (i + 1) (by omega) (by omega) _ _ H locs ls (c0 + 1) B2 (upL_same _ _ _) ((upL_ne (by decide)).trans hV1) h hc2 (by omega) (lv_sub hl [3, 4, 5, 6, 7, 0] rfl)
set_option maxHeartbeats 4000000 in
set_option maxRecDepth 20000 in
theorem law_51 {p : Program} {e : Env} {s : State} {m : MethodId} {b : Nat} {below : List Frame} {meth : Method} {c : Code} {Z : Gm} {L : Nat} {xs : Nat → Int32} (l : Launch) (X : LC Z p s m c b L xs) (hr : meth.sig.returnType = ret) (hlk : meth.locks = false) {nb : Nat} (hb0 : 0 < nb) (hb : nb ≤ 16) :
    ∀ (f k : Nat), 8 - k < f → k ≤ 8 → ∀ (S : St) (V : Nat → St) (H : Heap) (locs : List Loc) (ls : Array Slot), Bld nb k 0 S → V 0 = S → V 1 = initS → LH Z V [] s H locs → lv_has ls 22 [(0, .ref b), (1, .ref (ad Z 0)), (2, .int (nI nb)), (3, .int (nI k))] → W p l e room_1 s m #[Value.ref b] below meth c H locs 171 1202 (lw_Z below #[Value.ref b] s) (F0 m 51 ls []) := by
  have hf : 171 ≤ 630607 ∧ 1202 ≤ 7209803 := ⟨Nat.le_of_ble_eq_true rfl, Nat.le_of_ble_eq_true rfl⟩
  intro f
  induction f with
  | zero => intro k hm; exact absurd hm (by omega)
  | succ f ih =>
    intro k hm hk8 S V H locs ls B hV hV1 h hl
    refine lv_iload_n X.1.1 X.1.2.1 dL_law_51 rfl (lv_at hl 3 rfl) ?_
    refine lv_bipush (v := 8) X.1.1 X.1.2.1 dL_law_52 (by decide) ?_
    refine lv_icmp_ge (tgt := 211) X.1.1 X.1.2.1 dL_law_54 (by decide) (fun c_54 => ?_) (fun c_54 => ?_)
    · have hin : 8 = k := by have := (nI_leI (a := 8) (by omega) (by omega)).mp c_54; omega
      subst hin
      refine lv_iconst (v := 0) X.1.1 X.1.2.1 dL_law_211 (by decide) ?_
      refine lv_istore_n (lv' := [(3, .int 0), (0, .ref b), (1, .ref (ad Z 0)), (2, .int (nI nb))]) X.1.1 X.1.2.1 dL_law_212 rfl hl (by decide) rfl (fun ls hl => ?_)
      refine lv_iconst (v := 0) X.1.1 X.1.2.1 dL_law_213 (by decide) ?_
      refine lv_istore (lv' := [(4, .int 0), (3, .int 0), (0, .ref b), (1, .ref (ad Z 0)), (2, .int (nI nb))]) X.1.1 X.1.2.1 dL_law_214 hl (by decide) rfl (fun ls hl => ?_)
      exact law_216 l X hr hlk hb 6 0 (by omega) (by omega) 0 S V H locs ls (Nat.le_refl 0) B hV hV1 h (lv_sub hl [2, 3, 4, 1, 0] rfl)
    · have hk : k < 8 := Nat.not_le.mp fun q => c_54 (nI_le (a := 8) q (by omega))
      refine lv_aload_n X.1.1 X.1.2.1 dL_law_57 rfl (lv_at hl 0 rfl) ?_
      refine lv_iload_n X.1.1 X.1.2.1 dL_law_58 rfl (lv_at hl 3 rfl) ?_
      refine lv_iconst (v := 2) X.1.1 X.1.2.1 dL_law_59 (by decide) ?_
      refine lv_iadd X.1.1 X.1.2.1 dL_law_60 ?_
      rw [show ((nI k) + 2 : Int32) = (nI (k + 2)) from nI_add k 2]
      refine L_cell (rest := []) X h hl.1 (k := k + 2) (by omega) (Nat.le_of_ble_eq_true rfl) hf dL_law_61 ?_
      refine lv_istore (lv' := [(4, .int (cellF L xs (k + 2))), (0, .ref b), (1, .ref (ad Z 0)), (2, .int (nI nb)), (3, .int (nI k))]) X.1.1 X.1.2.1 dL_law_64 hl (by decide) rfl (fun ls hl => ?_)
      refine lv_iload_n X.1.1 X.1.2.1 dL_law_66 rfl (lv_at hl 4 rfl) ?_
      refine lv_iconst (v := 3) X.1.1 X.1.2.1 dL_law_67 (by decide) ?_
      refine lv_irem X.1.1 X.1.2.1 dL_law_68 (by decide) ?_
      rw [show ((nI k) - (nI k) / 3 * 3 : Int32) = (nI (k % 3)) from rem3 k (by omega)]
      refine lv_istore (lv' := [(5, .int (nI (k % 3))), (4, .int (cellF L xs (k + 2))), (0, .ref b), (1, .ref (ad Z 0)), (2, .int (nI nb)), (3, .int (nI k))]) X.1.1 X.1.2.1 dL_law_69 hl (by decide) rfl (fun ls hl => ?_)
      refine lv_aload_n X.1.1 X.1.2.1 dL_law_71 rfl (lv_at hl 3 rfl) ?_
      refine lv_iload X.1.1 X.1.2.1 dL_law_72 (lv_at hl 0 rfl) ?_
      refine lv_iload X.1.1 X.1.2.1 dL_law_74 (lv_at hl 0 rfl) ?_
      refine lv_iconst (v := 1) X.1.1 X.1.2.1 dL_law_76 (by decide) ?_
      refine lv_iadd X.1.1 X.1.2.1 dL_law_77 ?_
      rw [show ((nI (k % 3)) + 1 : Int32) = (nI (k % 3 + 1)) from nI_1 _]
      refine lv_iload_n X.1.1 X.1.2.1 dL_law_78 rfl (lv_at hl 5 rfl) ?_
      refine lv_iconst (v := 3) X.1.1 X.1.2.1 dL_law_79 (by decide) ?_
      refine lv_idiv X.1.1 X.1.2.1 dL_law_80 (by decide) ?_
      rw [show ((nI k) / 3 : Int32) = (nI (k / 3)) from div3 k (by omega)]
      refine lv_iconst (v := 2) X.1.1 X.1.2.1 dL_law_81 (by decide) ?_
      refine lv_irem X.1.1 X.1.2.1 dL_law_82 (by decide) ?_
      rw [show ((nI (k / 3)) - (nI (k / 3)) / 2 * 2 : Int32) = (nI (k / 3 % 2)) from rem2 (k / 3) (by omega)]
      refine lv_iadd X.1.1 X.1.2.1 dL_law_83 ?_
      rw [show ((nI (k % 3 + 1)) + (nI (k / 3 % 2)) : Int32) = (nI (k % 3 + 1 + k / 3 % 2)) from nI_add _ _]
      refine lv_iconst (v := 3) X.1.1 X.1.2.1 dL_law_84 (by decide) ?_
      refine lv_irem X.1.1 X.1.2.1 dL_law_85 (by decide) ?_
      rw [show ((nI (k % 3 + 1 + k / 3 % 2)) - (nI (k % 3 + 1 + k / 3 % 2)) / 3 * 3 : Int32) = (nI ((k % 3 + 1 + k / 3 % 2) % 3)) from rem3 (k % 3 + 1 + k / 3 % 2) (by omega)]
      refine lv_iload X.1.1 X.1.2.1 dL_law_86 (lv_at hl 1 rfl) ?_
      refine lv_iload_n X.1.1 X.1.2.1 dL_law_88 rfl (lv_at hl 4 rfl) ?_
      refine L_below (rest := [.int (nI ((k % 3 + 1 + k / 3 % 2) % 3)), .int (nI (k % 3)), .ref (ad Z 0)]) X h hl.1 (n := nb) hb0 (by omega) (Nat.le_of_ble_eq_true rfl) hf dL_law_89 ?_
      refine lv_iload X.1.1 X.1.2.1 dL_law_92 (lv_at hl 1 rfl) ?_
      refine lv_iconst (v := 2) X.1.1 X.1.2.1 dL_law_94 (by decide) ?_
      refine lv_ishr X.1.1 X.1.2.1 dL_law_95 ?_
      refine lv_iconst (v := 2) X.1.1 X.1.2.1 dL_law_96 (by decide) ?_
      refine L_below (rest := [.int (nI (belowF (cellF L xs (k + 2)) nb)), .int (nI ((k % 3 + 1 + k / 3 % 2) % 3)), .int (nI (k % 3)), .ref (ad Z 0)]) X h hl.1 (n := 2) (by decide) (by decide) (Nat.le_of_ble_eq_true rfl) hf dL_law_97 ?_
      have hy := below_lt (cellF L xs (k + 2)) (n := nb) hb0
      have K : ∀ z : Int32, (z = 0 ∨ z = 1) → ∀ ls : Array Slot, lv_has ls 22 [(5, .int (nI (k % 3))), (4, .int (cellF L xs (k + 2))), (0, .ref b), (1, .ref (ad Z 0)), (2, .int (nI nb)), (3, .int (nI k))] → W p l e room_1 s m #[Value.ref b] below meth c H locs 171 1202 (lw_Z below #[Value.ref b] s) (F0 m 108 ls [.int z, .int (nI (belowF (cellF L xs (k + 2)) nb)), .int (nI ((k % 3 + 1 + k / 3 % 2) % 3)), .int (nI (k % 3)), .ref (ad Z 0)]) := by
        intro z hz ls hl
        obtain ⟨B2, hc⟩ := Bld_route (a := (k % 3)) (a2 := ((k % 3 + 1 + k / 3 % 2) % 3)) (x := (belowF (cellF L xs (k + 2)) nb)) (z := z) B hk (by omega) hy hb hz
        refine L_route (rest := []) X h hl.1 hV (a := (k % 3)) (a2 := ((k % 3 + 1 + k / 3 % 2) % 3)) (x := (belowF (cellF L xs (k + 2)) nb)) (by omega) (by omega) (by omega) B.1 (by omega) hy hz B.2.1 (by omega) (Nat.le_of_ble_eq_true rfl) hf dL_law_108 (fun H locs h => ?_)
        refine lv_pop X.1.1 X.1.2.1 dL_law_111 rfl ?_
        refine lv_iconst (v := 0) X.1.1 X.1.2.1 dL_law_112 (by decide) ?_
        refine lv_istore (lv' := [(6, .int 0), (5, .int (nI (k % 3))), (4, .int (cellF L xs (k + 2))), (0, .ref b), (1, .ref (ad Z 0)), (2, .int (nI nb)), (3, .int (nI k))]) X.1.1 X.1.2.1 dL_law_113 hl (by decide) rfl (fun ls hl => ?_)
        refine seg_over l X hb0 hb hk (fun S V H locs ls B hV hV1 h hl => ?_) 4 0 (by omega) (by omega) _ _ H locs ls 1 B2 (upL_same _ _ _) ((upL_ne (by decide)).trans hV1) h hc (Nat.le_refl 1) (lv_sub hl [3, 4, 5, 6, 2, 0] rfl)
        refine lv_iinc (v := nI (k + 1)) (lv' := [(3, .int (nI (k + 1))), (0, .ref b), (1, .ref (ad Z 0)), (2, .int (nI nb))]) X.1.1 X.1.2.1 dL_law_205 hl (k := 3) rfl (nI_1 _) (by decide) rfl (fun ls hl => ?_)
        refine lv_goto (tgt := 51) X.1.1 X.1.2.1 dL_law_208 (by decide) ?_
        exact ih (k + 1) (by omega) (by omega) S V H locs ls B hV hV1 h (lv_sub hl [1, 2, 3, 0] rfl)
      refine lv_if_ne (tgt := 107) X.1.1 X.1.2.1 dL_law_100 (by decide) (fun c_100 => ?_) (fun c_100 => ?_)
      · refine lv_iconst (v := 0) X.1.1 X.1.2.1 dL_law_107 (by decide) ?_
        exact K 0 (Or.inl rfl) ls (lv_sub hl [0, 1, 2, 3, 4, 5] rfl)
      · refine lv_iconst (v := 1) X.1.1 X.1.2.1 dL_law_103 (by decide) ?_
        refine lv_goto (tgt := 108) X.1.1 X.1.2.1 dL_law_104 (by decide) ?_
        exact K 1 (Or.inr rfl) ls (lv_sub hl [0, 1, 2, 3, 4, 5] rfl)
set_option maxHeartbeats 4000000 in
set_option maxRecDepth 20000 in
theorem law_22 {p : Program} {e : Env} {s : State} {m : MethodId} {b : Nat} {below : List Frame} {meth : Method} {c : Code} {Z : Gm} {L : Nat} {xs : Nat → Int32} (l : Launch) (X : LC Z p s m c b L xs) (hr : meth.sig.returnType = ret) (hlk : meth.locks = false) {nb : Nat} (hb0 : 0 < nb) (hb : nb ≤ 16) :
    ∀ (f k : Nat), nb - k < f → k ≤ nb → ∀ (S : St) (V : Nat → St) (H : Heap) (locs : List Loc) (ls : Array Slot), Bld k 0 0 S → V 0 = S → V 1 = initS → LH Z V [] s H locs → lv_has ls 22 [(0, .ref b), (1, .ref (ad Z 0)), (2, .int (nI nb)), (3, .int (nI k))] → W p l e room_1 s m #[Value.ref b] below meth c H locs 171 1202 (lw_Z below #[Value.ref b] s) (F0 m 22 ls []) := by
  have hf : 171 ≤ 630607 ∧ 1202 ≤ 7209803 := ⟨Nat.le_of_ble_eq_true rfl, Nat.le_of_ble_eq_true rfl⟩
  intro f
  induction f with
  | zero => intro k hm; exact absurd hm (by omega)
  | succ f ih =>
    intro k hm hk8 S V H locs ls B hV hV1 h hl
    refine lv_iload_n X.1.1 X.1.2.1 dL_law_22 rfl (lv_at hl 3 rfl) ?_
    refine lv_iload_n X.1.1 X.1.2.1 dL_law_23 rfl (lv_at hl 2 rfl) ?_
    refine lv_icmp_ge (tgt := 49) X.1.1 X.1.2.1 dL_law_24 (by decide) (fun c_24 => ?_) (fun c_24 => ?_)
    · have hin : nb = k := by have := (nI_leI (by omega) (by omega)).mp c_24; omega
      subst hin
      refine lv_iconst (v := 0) X.1.1 X.1.2.1 dL_law_49 (by decide) ?_
      refine lv_istore_n (lv' := [(3, .int 0), (0, .ref b), (1, .ref (ad Z 0)), (2, .int (nI nb))]) X.1.1 X.1.2.1 dL_law_50 rfl hl (by decide) rfl (fun ls hl => ?_)
      exact law_51 l X hr hlk hb0 hb 9 0 (by omega) (by omega) S V H locs ls B hV hV1 h (lv_sub hl [1, 2, 3, 0] rfl)
    · have hk : k < nb := Nat.not_le.mp fun q => c_24 (nI_le q (by omega))
      have hq := below_lt (cellF L xs k) (n := 3) (by decide)
      refine lv_aload_n X.1.1 X.1.2.1 dL_law_27 rfl (lv_at hl 1 rfl) ?_
      refine lv_iconst (v := 1) X.1.1 X.1.2.1 dL_law_28 (by decide) ?_
      refine lv_aload_n X.1.1 X.1.2.1 dL_law_29 rfl (lv_at hl 0 rfl) ?_
      refine lv_iload_n X.1.1 X.1.2.1 dL_law_30 rfl (lv_at hl 3 rfl) ?_
      refine L_cell (rest := [.int 1, .ref (ad Z 0)]) X h hl.1 (k := k) (by omega) (Nat.le_of_ble_eq_true rfl) hf dL_law_31 ?_
      refine lv_iconst (v := 3) X.1.1 X.1.2.1 dL_law_34 (by decide) ?_
      refine L_below (rest := [.int 1, .ref (ad Z 0)]) X h hl.1 (n := 3) (by decide) (by decide) (Nat.le_of_ble_eq_true rfl) hf dL_law_35 ?_
      refine lv_iadd X.1.1 X.1.2.1 dL_law_38 ?_
      rw [show (1 + (nI (belowF (cellF L xs k) 3)) : Int32) = (nI (1 + (belowF (cellF L xs k) 3))) from nI_add 1 _]
      refine L_block (rest := []) X h hl.1 hV (x := 1 + (belowF (cellF L xs k) 3)) (by omega) (by omega) B.1 (by omega) (Nat.le_of_ble_eq_true rfl) hf dL_law_39 (fun H locs h => ?_)
      refine lv_pop X.1.1 X.1.2.1 dL_law_42 rfl ?_
      refine lv_iinc (v := nI (k + 1)) (lv' := [(3, .int (nI (k + 1))), (0, .ref b), (1, .ref (ad Z 0)), (2, .int (nI nb))]) X.1.1 X.1.2.1 dL_law_43 hl (k := 3) rfl (nI_1 _) (by decide) rfl (fun ls hl => ?_)
      refine lv_goto (tgt := 22) X.1.1 X.1.2.1 dL_law_46 (by decide) ?_
      exact ih (k + 1) (by omega) (by omega) _ _ H locs ls (Bld_block B (by omega) (by omega) (by omega)) (upL_same _ _ _) ((upL_ne (by decide)).trans hV1) h (lv_sub hl [1, 2, 3, 0] rfl)
end BUILDROUTES
