/-! SemaphoreBay: what each call of the face answers, and does. -/
def mixF (d : Int64) (v : Int32) : Int64 := d * 31 + v.toInt64
def oneF (z : Int32) : Int32 := if z = 0 then 0 else 1
def manyF (S : St) : Nat → Int32
  | 0 => S 2 0 0
  | 1 => S 4 0 0
  | 2 => S 6 0 0
  | 3 => nI (cntTo (doneF S) (nT S))
  | 4 => nI (cntTo (atStF S) (nT S))
  | 5 => nI (cntTo (onBlockF S) (nT S))
  | _ => nI (cntTo (stuckF S) (nT S))
def stationQ (S : St) (x : Int32) : Nat → Int32
  | 0 => S 0 0 x.toNatClampNeg
  | 1 => nI (cntTo (atQ S x) (nT S))
  | _ => nI (cntTo (wayQ S x) (nT S))
def blockQ (S : St) (b : Nat) : Nat → Int32
  | 0 => S 10 b 0
  | 1 => S 11 b 0
  | 2 => S 12 b 0
  | _ => tillF S (S 13 b 0)
def routeQ (S : St) (r : Nat) : Nat → Int32
  | 2 => S 23 r 0
  | _ => oneF (S 22 r 0)
def trainQ (S : St) (k : Nat) : Nat → Int32
  | 0 => S 30 k 0
  | 1 => S 31 k 0
  | 2 => S 32 k 0
  | 3 => S 35 k 0
  | 4 => S 36 k 0
  | 5 => underF S k
  | 6 => S 38 k 0
  | 7 => S 40 k 0
  | 8 => S 42 k 0
  | 9 => S 43 k 0
  | 10 => oneF (b2i (readyF S k))
  | 11 => oneF (b2i (atEndF S k))
  | _ => tillF S (S 41 k 0)
def planF (S : St) (k : Nat) (q z : Int32) : Int32 := if z = 0 then stationF S k q else timeF S k q
def blockF (S : St) (x : Int32) : St := up (up S 10 (S 2 0 0).toNatClampNeg 0 x) 2 0 0 (S 2 0 0 + 1)
def routeF (S : St) (a b x z : Int32) : St := up (addBlockF (layF S (S 4 0 0).toNatClampNeg a b z) (S 4 0 0).toNatClampNeg x) 4 0 0 (S 4 0 0 + 1)
def orderF (S : St) (a b : Int32) : St := up (up S 7 0 0 a) 8 0 0 b
def trainF (S : St) (a b x t : Int32) : St := up (addStopF (up (up (up (up S 30 (S 6 0 0).toNatClampNeg 0 a) 31 (S 6 0 0).toNatClampNeg 0 b) 36 (S 6 0 0).toNatClampNeg 0 x) 37 (S 6 0 0).toNatClampNeg 0 (S 9 0 0)) (S 6 0 0).toNatClampNeg x t) 6 0 0 (S 6 0 0 + 1)
def doneInS (U : St) (k : Nat) : St := if doneF U k = true then U else tickF U
def doneInF (U : St) (k : Nat) : Int32 := if doneF U k = true then 0 else if doneF (tickF U) k = true then 1 else -1
def stuckInS (U : St) : St := if nI (cntTo (stuckF U) (nT U)) = 0 then tickF U else U
def stuckInF (U : St) : Int32 := if nI (cntTo (stuckF U) (nT U)) = 0 then (if nI (cntTo (stuckF (tickF U)) (nT (tickF U))) ≤ 0 then -1 else 1) else (if nI (cntTo (stuckF U) (nT U)) ≤ 0 then -1 else 0)
def digL (g : Nat → Int32) : Nat → Int64 → Int64
  | 0, d => d
  | n + 1, d => mixF (digL g n d) (g n)
def dig2 (h : Nat → Nat → Int32) (k : Nat) : Nat → Int64 → Int64
  | 0, d => d
  | n + 1, d => digL (h n) k (dig2 h k n d)
def trainD (S : St) (t : Nat) (d : Int64) : Int64 := digL (fun o => S 45 t o) (nT S) (mixF (mixF (digL (trainQ S t) 13 d) (S 44 t 0)) (oneF (b2i (stuckF S t))))
def digT (S : St) : Nat → Int64 → Int64
  | 0, d => d
  | n + 1, d => trainD S n (digT S n d)
def dig1 (S : St) : Int64 := digL (manyF S) 7 (mixF 58091 (S 9 0 0))
def digF (S : St) : Int64 := digT S (nT S) (dig2 (blockQ S) 4 (nB S) (dig2 (fun q => stationQ S (nI q)) 3 6 (dig1 S)))
theorem dig2_s (h : Nat → Nat → Int32) (k n : Nat) (d : Int64) : digL (h n) k (dig2 h k n d) = dig2 h k (n + 1) d := rfl
theorem digL_0 (g : Nat → Int32) (d : Int64) : d = digL g 0 d := rfl
theorem digL_s (g : Nat → Int32) (n : Nat) (d : Int64) : mixF (digL g n d) (g n) = digL g (n + 1) d := rfl
theorem dig2_0 (h : Nat → Nat → Int32) (k : Nat) (d : Int64) : d = dig2 h k 0 d := rfl
theorem digT_0 (S : St) (d : Int64) : d = digT S 0 d := rfl
theorem digT_s (S : St) (n : Nat) (d : Int64) : trainD S n (digT S n d) = digT S (n + 1) d := rfl
theorem ticks1 (U : St) : ticksF U (1 : Int32).toNatClampNeg = tickF U := rfl
theorem nI_ltc {x : Int32} {k : Nat} (h : k < x.toNatClampNeg) : nI k < x := by
  have h31 := clamp_lt31 x
  exact Int32.not_le.mp fun q => by
    have := (le_nI (x := x) (i := k) (by omega)).mp q
    omega
theorem KC_take (U S : St) : KC (takeF U S) S := by
  have h2 : takeF U S 2 0 0 = S 2 0 0 := by
    have h1 := (KC_iter (g := fun i T => trCopyF T S i) (fun _ T => KC_trc (KC_refl T)) (nT S) (cpyE U S)).1
    have h3 := (KC_iter (g := fun i T => rtCopyF T S i) (fun _ T => KC_rtc (KC_refl T)) (nR S) (cpyC U S)).1
    have e1 : takeF U S 2 0 0 = cpyF U S (nT S) 2 0 0 := by simp [takeF, up_f]
    have e2 : cpyE U S 2 0 0 = cpyD U S (nR S) 2 0 0 := by simp [cpyE, up_f]
    have e3 : cpyC U S 2 0 0 = cpyB U S (nB S) 2 0 0 := by simp [cpyC, up_f]
    rw [e1, show cpyF U S (nT S) 2 0 0 = _ from h1, e2, show cpyD U S (nR S) 2 0 0 = _ from h3, e3, cpyB_2]
  have h4 : takeF U S 4 0 0 = S 4 0 0 := by
    have h1 := (KC_iter (g := fun i T => trCopyF T S i) (fun _ T => KC_trc (KC_refl T)) (nT S) (cpyE U S)).2.1
    have e1 : takeF U S 4 0 0 = cpyF U S (nT S) 4 0 0 := by simp [takeF, up_f]
    have e2 : cpyE U S 4 0 0 = cpyD U S (nR S) 4 0 0 := by simp [cpyE, up_f]
    rw [e1, show cpyF U S (nT S) 4 0 0 = _ from h1, e2, cpyD_4]
  have h6 : takeF U S 6 0 0 = S 6 0 0 := by
    have e1 : takeF U S 6 0 0 = cpyF U S (nT S) 6 0 0 := by simp [takeF, up_f]
    rw [e1, cpyF_6]
  exact ⟨h2, h4, h6⟩
abbrev rm_X4_needNumber : Room := { frames := 0, cells := 0, slots := 0, locals := 0 }
theorem k_X4_needNumber : Card yX4_needNumber cX4_needNumber 2 none 2 := ⟨gw_85, gw_2, by decide +kernel, by decide +kernel⟩
set_option maxHeartbeats 4000000 in
set_option maxRecDepth 20000 in
theorem c_X4_needNumber (l : Launch) {Z : Gm} {V : Nat → St} (x n : Int32) (h0 : ¬ x < 0) (h1 : x < n) : Met l yX4_needNumber (.code yX4_needNumber cX4_needNumber 2 none :: gG) rm_X4_needNumber (PW Z V [.int x, .int n]) (QP none) 0 0 (fun _ => False) := by
  refine met_of (by decide +kernel) (Nat.le_of_ble_eq_true rfl) ?_
  intro p e s m args below meth c ls E hr hlk hml hP hl
  have E : EE Z p s m args c cX4_needNumber RX4 := E
  have hl : lv_has ls 2 [(0, .int x), (1, .int n)] := hl
  refine lv_iload_n E.1 E.2.1 dX4_needNumber_0 rfl (lv_at hl 0 rfl) ?_
  refine lv_if_lt (tgt := 9) E.1 E.2.1 dX4_needNumber_1 (by decide) (fun c_1 => ?_) (fun c_1 => ?_)
  · exact absurd c_1 h0
  · refine lv_iload_n E.1 E.2.1 dX4_needNumber_4 rfl (lv_at hl 0 rfl) ?_
    refine lv_iload_n E.1 E.2.1 dX4_needNumber_5 rfl (lv_at hl 1 rfl) ?_
    refine lv_icmp_lt (tgt := 20) E.1 E.2.1 dX4_needNumber_6 (by decide) (fun c_6 => ?_) (fun c_6 => ?_)
    · exact e_vP E hr hlk dX4_needNumber_20
    · exact absurd h1 c_6

abbrev rm_X4_needWithin : Room := { frames := 0, cells := 0, slots := 0, locals := 0 }
theorem k_X4_needWithin : Card yX4_needWithin cX4_needWithin 3 none 3 := ⟨gw_71, gw_2, by decide +kernel, by decide +kernel⟩
set_option maxHeartbeats 4000000 in
set_option maxRecDepth 20000 in
theorem c_X4_needWithin (l : Launch) {Z : Gm} {V : Nat → St} (x a b : Int32) (h0 : ¬ x < a) (h1 : x ≤ b) : Met l yX4_needWithin (.code yX4_needWithin cX4_needWithin 3 none :: gG) rm_X4_needWithin (PW Z V [.int x, .int a, .int b]) (QP none) 0 0 (fun _ => False) := by
  refine met_of (by decide +kernel) (Nat.le_of_ble_eq_true rfl) ?_
  intro p e s m args below meth c ls E hr hlk hml hP hl
  have E : EE Z p s m args c cX4_needWithin RX4 := E
  have hl : lv_has ls 3 [(0, .int x), (1, .int a), (2, .int b)] := hl
  refine lv_iload_n E.1 E.2.1 dX4_needWithin_0 rfl (lv_at hl 0 rfl) ?_
  refine lv_iload_n E.1 E.2.1 dX4_needWithin_1 rfl (lv_at hl 1 rfl) ?_
  refine lv_icmp_lt (tgt := 10) E.1 E.2.1 dX4_needWithin_2 (by decide) (fun c_2 => ?_) (fun c_2 => ?_)
  · exact absurd c_2 h0
  · refine lv_iload_n E.1 E.2.1 dX4_needWithin_5 rfl (lv_at hl 0 rfl) ?_
    refine lv_iload_n E.1 E.2.1 dX4_needWithin_6 rfl (lv_at hl 2 rfl) ?_
    refine lv_icmp_le (tgt := 21) E.1 E.2.1 dX4_needWithin_7 (by decide) (fun c_7 => ?_) (fun c_7 => ?_)
    · exact e_vP E hr hlk dX4_needWithin_21
    · exact absurd h1 c_7

abbrev rm_X4_needStation : Room := { frames := 1, cells := 0, slots := 0, locals := 21 }
theorem k_X4_needStation : Card yX4_needStation cX4_needStation 1 none 1 := ⟨gw_82, gw_2, by decide +kernel, by decide +kernel⟩
set_option maxHeartbeats 4000000 in
set_option maxRecDepth 20000 in
theorem c_X4_needStation (l : Launch) {Z : Gm} {V : Nat → St} (x : Int32) (h0 : ¬ x < 0) (h1 : x < 6) : Met l yX4_needStation (.code yX4_needStation cX4_needStation 1 none :: gG) rm_X4_needStation (PW Z V [.int x]) (QP none) 0 0 (fun _ => False) := by
  refine met_of (by decide +kernel) (Nat.le_of_ble_eq_true rfl) ?_
  intro p e s m args below meth c ls E hr hlk hml hP hl
  have E : EE Z p s m args c cX4_needStation RX4 := E
  have hl : lv_has ls 1 [(0, .int x)] := hl
  refine lv_iload_n E.1 E.2.1 dX4_needStation_0 rfl (lv_at hl 0 rfl) ?_
  refine lv_bipush (v := 6) E.1 E.2.1 dX4_needStation_1 (by decide) ?_
  refine go_Pv (run_S (rest := []) E hml hl.1 (c_X4_needNumber l (V := V) x 6 h0 h1) k_X4_needNumber ⟨rfl, rfl, Nat.le_of_ble_eq_true rfl, Nat.le_of_ble_eq_true rfl⟩ gw_83 gw_84 hP  rfl rfl (Nat.le_of_ble_eq_true rfl) ⟨Nat.zero_le _, Nat.zero_le _⟩ dX4_needStation_3) ?_
  exact e_vP E hr hlk dX4_needStation_6

abbrev rm_X4_needBlock : Room := { frames := 1, cells := 0, slots := 0, locals := 21 }
theorem k_X4_needBlock : Card yX4_needBlock cX4_needBlock 2 none 1 := ⟨gw_91, gw_2, by decide +kernel, by decide +kernel⟩
set_option maxHeartbeats 4000000 in
set_option maxRecDepth 20000 in
theorem c_X4_needBlock (l : Launch) {Z : Gm} {V : Nat → St} {S : St} (hV : V 0 = S) (x : Int32) (h0 : ¬ x < 0) (h1 : x < S 2 0 0) : Met l yX4_needBlock (.code yX4_needBlock cX4_needBlock 2 none :: gG) rm_X4_needBlock (PW Z V [.ref (ad Z 0), .int x]) (QP none) 0 0 (fun _ => False) := by
  refine met_of (by decide +kernel) (Nat.le_of_ble_eq_true rfl) ?_
  intro p e s m args below meth c ls E hr hlk hml hP hl
  have E : EE Z p s m args c cX4_needBlock RX4 := E
  have hl : lv_has ls 2 [(0, .ref (ad Z 0)), (1, .int x)] := hl
  refine lv_iload_n E.1 E.2.1 dX4_needBlock_0 rfl (lv_at hl 1 rfl) ?_
  refine lv_aload_n E.1 E.2.1 dX4_needBlock_1 rfl (lv_at hl 0 rfl) ?_
  refine g_bay E hP 0 (by decide) gw_13 dX4_needBlock_2 ?_
  refine g_ln (v := .int (S 2 0 0)) E hP hV (show 0 < 2 by decide) 2 (by decide) gw_66 rfl dX4_needBlock_5 ?_
  refine go_Pv (run_S (rest := []) E hml hl.1 (c_X4_needNumber l (V := V) x (S 2 0 0) h0 h1) k_X4_needNumber ⟨rfl, rfl, Nat.le_of_ble_eq_true rfl, Nat.le_of_ble_eq_true rfl⟩ gw_83 gw_84 hP  rfl rfl (Nat.le_of_ble_eq_true rfl) ⟨Nat.zero_le _, Nat.zero_le _⟩ dX4_needBlock_8) ?_
  exact e_vP E hr hlk dX4_needBlock_11

abbrev rm_X4_needRoute : Room := { frames := 1, cells := 0, slots := 0, locals := 21 }
theorem k_X4_needRoute : Card yX4_needRoute cX4_needRoute 2 none 1 := ⟨gw_115, gw_2, by decide +kernel, by decide +kernel⟩
set_option maxHeartbeats 4000000 in
set_option maxRecDepth 20000 in
theorem c_X4_needRoute (l : Launch) {Z : Gm} {V : Nat → St} {S : St} (hV : V 0 = S) (x : Int32) (h0 : ¬ x < 0) (h1 : x < S 4 0 0) : Met l yX4_needRoute (.code yX4_needRoute cX4_needRoute 2 none :: gG) rm_X4_needRoute (PW Z V [.ref (ad Z 0), .int x]) (QP none) 0 0 (fun _ => False) := by
  refine met_of (by decide +kernel) (Nat.le_of_ble_eq_true rfl) ?_
  intro p e s m args below meth c ls E hr hlk hml hP hl
  have E : EE Z p s m args c cX4_needRoute RX4 := E
  have hl : lv_has ls 2 [(0, .ref (ad Z 0)), (1, .int x)] := hl
  refine lv_iload_n E.1 E.2.1 dX4_needRoute_0 rfl (lv_at hl 1 rfl) ?_
  refine lv_aload_n E.1 E.2.1 dX4_needRoute_1 rfl (lv_at hl 0 rfl) ?_
  refine g_bay E hP 0 (by decide) gw_13 dX4_needRoute_2 ?_
  refine g_ln (v := .int (S 4 0 0)) E hP hV (show 0 < 2 by decide) 4 (by decide) gw_78 rfl dX4_needRoute_5 ?_
  refine go_Pv (run_S (rest := []) E hml hl.1 (c_X4_needNumber l (V := V) x (S 4 0 0) h0 h1) k_X4_needNumber ⟨rfl, rfl, Nat.le_of_ble_eq_true rfl, Nat.le_of_ble_eq_true rfl⟩ gw_83 gw_84 hP  rfl rfl (Nat.le_of_ble_eq_true rfl) ⟨Nat.zero_le _, Nat.zero_le _⟩ dX4_needRoute_8) ?_
  exact e_vP E hr hlk dX4_needRoute_11

abbrev rm_X4_needTrain : Room := { frames := 1, cells := 0, slots := 0, locals := 21 }
theorem k_X4_needTrain : Card yX4_needTrain cX4_needTrain 2 none 1 := ⟨gw_196, gw_2, by decide +kernel, by decide +kernel⟩
set_option maxHeartbeats 4000000 in
set_option maxRecDepth 20000 in
theorem c_X4_needTrain (l : Launch) {Z : Gm} {V : Nat → St} {S : St} (hV : V 0 = S) (x : Int32) (h0 : ¬ x < 0) (h1 : x < S 6 0 0) : Met l yX4_needTrain (.code yX4_needTrain cX4_needTrain 2 none :: gG) rm_X4_needTrain (PW Z V [.ref (ad Z 0), .int x]) (QP none) 0 0 (fun _ => False) := by
  refine met_of (by decide +kernel) (Nat.le_of_ble_eq_true rfl) ?_
  intro p e s m args below meth c ls E hr hlk hml hP hl
  have E : EE Z p s m args c cX4_needTrain RX4 := E
  have hl : lv_has ls 2 [(0, .ref (ad Z 0)), (1, .int x)] := hl
  refine lv_iload_n E.1 E.2.1 dX4_needTrain_0 rfl (lv_at hl 1 rfl) ?_
  refine lv_aload_n E.1 E.2.1 dX4_needTrain_1 rfl (lv_at hl 0 rfl) ?_
  refine g_bay E hP 0 (by decide) gw_13 dX4_needTrain_2 ?_
  refine g_ln (v := .int (S 6 0 0)) E hP hV (show 0 < 2 by decide) 6 (by decide) gw_170 rfl dX4_needTrain_5 ?_
  refine go_Pv (run_S (rest := []) E hml hl.1 (c_X4_needNumber l (V := V) x (S 6 0 0) h0 h1) k_X4_needNumber ⟨rfl, rfl, Nat.le_of_ble_eq_true rfl, Nat.le_of_ble_eq_true rfl⟩ gw_83 gw_84 hP  rfl rfl (Nat.le_of_ble_eq_true rfl) ⟨Nat.zero_le _, Nat.zero_le _⟩ dX4_needTrain_8) ?_
  exact e_vP E hr hlk dX4_needTrain_11

abbrev rm_X4_mixed : Room := { frames := 0, cells := 0, slots := 0, locals := 0 }
theorem k_X4_mixed : Card yX4_mixed cX4_mixed 3 (some .long) 2 := ⟨gw_230, gw_2, by decide +kernel, by decide +kernel⟩
set_option maxHeartbeats 4000000 in
set_option maxRecDepth 20000 in
theorem c_X4_mixed (l : Launch) {Z : Gm} {V : Nat → St} (d : Int64) (v : Int32) : Met l yX4_mixed (.code yX4_mixed cX4_mixed 3 (some .long) :: gG) rm_X4_mixed (PW Z V [.long d, .int v]) (QP (some (.long (mixF d v)))) 0 0 (fun _ => False) := by
  refine met_of (by decide +kernel) (Nat.le_of_ble_eq_true rfl) ?_
  intro p e s m args below meth c ls E hr hlk hml hP hl
  have E : EE Z p s m args c cX4_mixed RX4 := E
  have hl : lv_has ls 3 [(0, .long d), (2, .int v)] := hl
  refine lv_lload_n E.1 E.2.1 dX4_mixed_0 rfl (lv_at hl 0 rfl) ?_
  refine lv_ldc2 (v := 31) E.1 E.2.1 E.2.2.1 (E.2.2.2.1 _ gw_231) dX4_mixed_1 ?_
  refine lv_lmul E.1 E.2.1 dX4_mixed_4 ?_
  refine lv_iload_n E.1 E.2.1 dX4_mixed_5 rfl (lv_at hl 1 rfl) ?_
  refine lv_i2l E.1 E.2.1 dX4_mixed_6 rfl ?_
  refine lv_ladd E.1 E.2.1 dX4_mixed_7 ?_
  exact e_lP E hr hlk (by rfl) dX4_mixed_8

abbrev rm_X4_oneIf : Room := { frames := 0, cells := 0, slots := 0, locals := 0 }
theorem k_X4_oneIf : Card yX4_oneIf cX4_oneIf 1 (some .int) 1 := ⟨gw_118, gw_2, by decide +kernel, by decide +kernel⟩
set_option maxHeartbeats 4000000 in
set_option maxRecDepth 20000 in
theorem c_X4_oneIf (l : Launch) {Z : Gm} {V : Nat → St} (z : Int32) : Met l yX4_oneIf (.code yX4_oneIf cX4_oneIf 1 (some .int) :: gG) rm_X4_oneIf (PW Z V [.int z]) (QP (some (.int (oneF z)))) 0 0 (fun _ => False) := by
  refine met_of (by decide +kernel) (Nat.le_of_ble_eq_true rfl) ?_
  intro p e s m args below meth c ls E hr hlk hml hP hl
  have E : EE Z p s m args c cX4_oneIf RX4 := E
  have hl : lv_has ls 1 [(0, .int z)] := hl
  refine lv_iload_n E.1 E.2.1 dX4_oneIf_0 rfl (lv_at hl 0 rfl) ?_
  refine lv_if_eq (tgt := 8) E.1 E.2.1 dX4_oneIf_1 (by decide) (fun c_1 => ?_) (fun c_1 => ?_)
  · refine lv_iconst (v := 0) E.1 E.2.1 dX4_oneIf_8 (by decide) ?_
    exact e_iP E hr hlk (by simp [oneF, c_1]) dX4_oneIf_9
  · refine lv_iconst (v := 1) E.1 E.2.1 dX4_oneIf_4 (by decide) ?_
    refine lv_goto (tgt := 9) E.1 E.2.1 dX4_oneIf_5 (by decide) ?_
    exact e_iP E hr hlk (by simp [oneF, c_1]) dX4_oneIf_9

abbrev rm_X4_clock : Room := { frames := 0, cells := 0, slots := 0, locals := 0 }
theorem k_X4_clock : Card yX4_clock cX4_clock 1 (some .int) 0 := ⟨gw_227, gw_2, by decide +kernel, by decide +kernel⟩
set_option maxHeartbeats 4000000 in
set_option maxRecDepth 20000 in
theorem c_X4_clock (l : Launch) {Z : Gm} {V : Nat → St} {S : St} (hV : V 0 = S)  : Met l yX4_clock (.code yX4_clock cX4_clock 1 (some .int) :: gG) rm_X4_clock (PW Z V [.ref (ad Z 0)]) (QP (some (.int (S 9 0 0)))) 0 0 (fun _ => False) := by
  refine met_of (by decide +kernel) (Nat.le_of_ble_eq_true rfl) ?_
  intro p e s m args below meth c ls E hr hlk hml hP hl
  have E : EE Z p s m args c cX4_clock RX4 := E
  have hl : lv_has ls 1 [(0, .ref (ad Z 0))] := hl
  refine lv_aload_n E.1 E.2.1 dX4_clock_0 rfl (lv_at hl 0 rfl) ?_
  refine g_bay E hP 0 (by decide) gw_13 dX4_clock_1 ?_
  refine g_ln (v := .int (S 9 0 0)) E hP hV (show 0 < 2 by decide) 9 (by decide) gw_175 rfl dX4_clock_4 ?_
  exact e_iP E hr hlk (by rfl) dX4_clock_7

abbrev rm_X4_many : Room := { frames := 2, cells := 0, slots := 0, locals := 45 }
theorem k_X4_many : Card yX4_many cX4_many 2 (some .int) 1 := ⟨gw_235, gw_2, by decide +kernel, by decide +kernel⟩
set_option maxHeartbeats 4000000 in
set_option maxRecDepth 20000 in
theorem c_X4_many (l : Launch) {Z : Gm} {V : Nat → St} {S : St} (hV : V 0 = S) (j : Nat) (hj : j ≤ 6) (hL : Lim S) : Met l yX4_many (.code yX4_many cX4_many 2 (some .int) :: gG) rm_X4_many (PW Z V [.ref (ad Z 0), .int (nI j)]) (QP (some (.int (manyF S j)))) 0 0 (fun _ => False) := by
  refine met_of (by decide +kernel) (Nat.le_of_ble_eq_true rfl) ?_
  intro p e s m args below meth c ls E hr hlk hml hP hl
  have E : EE Z p s m args c cX4_many RX4 := E
  have hl : lv_has ls 2 [(0, .ref (ad Z 0)), (1, .int (nI j))] := hl
  have hT := hL.2.2
  have hR := hL.2.1
  have hB := hL.1
  refine lv_iload_n E.1 E.2.1 dX4_many_0 rfl (lv_at hl 1 rfl) ?_
  refine lv_iconst (v := 0) E.1 E.2.1 dX4_many_1 (by decide) ?_
  refine lv_bipush (v := 6) E.1 E.2.1 dX4_many_2 (by decide) ?_
  refine go_Pv (run_S (rest := []) E hml hl.1 (c_X4_needWithin l (V := V) (nI j) 0 6 (nI_lt0 (by omega)) (nI_le (b := 6) (by omega) (by omega))) k_X4_needWithin ⟨rfl, rfl, Nat.le_of_ble_eq_true rfl, Nat.le_of_ble_eq_true rfl⟩ gw_69 gw_70 hP  rfl rfl (Nat.le_of_ble_eq_true rfl) ⟨Nat.zero_le _, Nat.zero_le _⟩ dX4_many_4) ?_
  refine lv_iload_n E.1 E.2.1 dX4_many_7 rfl (lv_at hl 1 rfl) ?_
  have hsw : j = 0 ∨ j = 1 ∨ j = 2 ∨ j = 3 ∨ j = 4 ∨ j = 5 ∨ j = 6 := by omega
  rcases hsw with rfl | rfl | rfl | rfl | rfl | rfl | rfl
  · refine lv_tableIn (tgt := 48) E.1 E.2.1 dX4_many_8 (by decide) (by decide) (by rfl) (by decide) ?_
    refine lv_aload_n E.1 E.2.1 dX4_many_48 rfl (lv_at hl 0 rfl) ?_
    refine g_bay E hP 0 (by decide) gw_13 dX4_many_49 ?_
    refine g_ln (v := .int (S 2 0 0)) E hP hV (show 0 < 2 by decide) 2 (by decide) gw_66 rfl dX4_many_52 ?_
    exact e_iP E hr hlk (by rfl) dX4_many_55
  · refine lv_tableIn (tgt := 56) E.1 E.2.1 dX4_many_8 (by decide) (by decide) (by rfl) (by decide) ?_
    refine lv_aload_n E.1 E.2.1 dX4_many_56 rfl (lv_at hl 0 rfl) ?_
    refine g_bay E hP 0 (by decide) gw_13 dX4_many_57 ?_
    refine g_ln (v := .int (S 4 0 0)) E hP hV (show 0 < 2 by decide) 4 (by decide) gw_78 rfl dX4_many_60 ?_
    exact e_iP E hr hlk (by rfl) dX4_many_63
  · refine lv_tableIn (tgt := 64) E.1 E.2.1 dX4_many_8 (by decide) (by decide) (by rfl) (by decide) ?_
    refine lv_aload_n E.1 E.2.1 dX4_many_64 rfl (lv_at hl 0 rfl) ?_
    refine g_bay E hP 0 (by decide) gw_13 dX4_many_65 ?_
    refine g_ln (v := .int (S 6 0 0)) E hP hV (show 0 < 2 by decide) 6 (by decide) gw_170 rfl dX4_many_68 ?_
    exact e_iP E hr hlk (by rfl) dX4_many_71
  · refine lv_tableIn (tgt := 72) E.1 E.2.1 dX4_many_8 (by decide) (by decide) (by rfl) (by decide) ?_
    refine lv_aload_n E.1 E.2.1 dX4_many_72 rfl (lv_at hl 0 rfl) ?_
    refine g_bay E hP 0 (by decide) gw_13 dX4_many_73 ?_
    refine go_Pi (run_V (rest := []) E hml hl.1 (c_X1_countDone l  hV (show 0 < 2 by decide) hL) k_X1_countDone ⟨rfl, rfl, Nat.le_of_ble_eq_true rfl, Nat.le_of_ble_eq_true rfl⟩ gw_236 gw_237 gw_238 hP (rv_ln E hP (show 0 < 2 by decide)) rfl rfl (Nat.le_of_ble_eq_true rfl) ⟨Nat.zero_le _, Nat.zero_le _⟩ dX4_many_76) ?_
    exact e_iP E hr hlk (by rfl) dX4_many_79
  · refine lv_tableIn (tgt := 80) E.1 E.2.1 dX4_many_8 (by decide) (by decide) (by rfl) (by decide) ?_
    refine lv_aload_n E.1 E.2.1 dX4_many_80 rfl (lv_at hl 0 rfl) ?_
    refine g_bay E hP 0 (by decide) gw_13 dX4_many_81 ?_
    refine go_Pi (run_V (rest := []) E hml hl.1 (c_X1_countAtStations l  hV (show 0 < 2 by decide) hL) k_X1_countAtStations ⟨rfl, rfl, Nat.le_of_ble_eq_true rfl, Nat.le_of_ble_eq_true rfl⟩ gw_241 gw_242 gw_243 hP (rv_ln E hP (show 0 < 2 by decide)) rfl rfl (Nat.le_of_ble_eq_true rfl) ⟨Nat.zero_le _, Nat.zero_le _⟩ dX4_many_84) ?_
    exact e_iP E hr hlk (by rfl) dX4_many_87
  · refine lv_tableIn (tgt := 88) E.1 E.2.1 dX4_many_8 (by decide) (by decide) (by rfl) (by decide) ?_
    refine lv_aload_n E.1 E.2.1 dX4_many_88 rfl (lv_at hl 0 rfl) ?_
    refine g_bay E hP 0 (by decide) gw_13 dX4_many_89 ?_
    refine go_Pi (run_V (rest := []) E hml hl.1 (c_X1_countOnBlocks l  hV (show 0 < 2 by decide) hL) k_X1_countOnBlocks ⟨rfl, rfl, Nat.le_of_ble_eq_true rfl, Nat.le_of_ble_eq_true rfl⟩ gw_249 gw_250 gw_251 hP (rv_ln E hP (show 0 < 2 by decide)) rfl rfl (Nat.le_of_ble_eq_true rfl) ⟨Nat.zero_le _, Nat.zero_le _⟩ dX4_many_92) ?_
    exact e_iP E hr hlk (by rfl) dX4_many_95
  · refine lv_tableOut (tgt := 96) E.1 E.2.1 dX4_many_8 (by decide) (by decide) ?_
    refine lv_aload_n E.1 E.2.1 dX4_many_96 rfl (lv_at hl 0 rfl) ?_
    refine g_bay E hP 0 (by decide) gw_13 dX4_many_97 ?_
    refine go_Pi (run_V (rest := []) E hml hl.1 (c_X1_countStuck l  hV (show 0 < 2 by decide) hL) k_X1_countStuck ⟨rfl, rfl, Nat.le_of_ble_eq_true rfl, Nat.le_of_ble_eq_true rfl⟩ gw_257 gw_258 gw_259 hP (rv_ln E hP (show 0 < 2 by decide)) rfl rfl (Nat.le_of_ble_eq_true rfl) ⟨Nat.zero_le _, Nat.zero_le _⟩ dX4_many_100) ?_
    exact e_iP E hr hlk (by rfl) dX4_many_103

abbrev rm_X4_station : Room := { frames := 2, cells := 0, slots := 0, locals := 41 }
theorem k_X4_station : Card yX4_station cX4_station 3 (some .int) 2 := ⟨gw_153, gw_2, by decide +kernel, by decide +kernel⟩
set_option maxHeartbeats 4000000 in
set_option maxRecDepth 20000 in
theorem c_X4_station (l : Launch) {Z : Gm} {V : Nat → St} {S : St} (hV : V 0 = S) (x : Int32) (h0 : ¬ x < 0) (h1 : x < 6) (j : Nat) (hj : j ≤ 2) (hL : Lim S) : Met l yX4_station (.code yX4_station cX4_station 3 (some .int) :: gG) rm_X4_station (PW Z V [.ref (ad Z 0), .int x, .int (nI j)]) (QP (some (.int (stationQ S x j)))) 0 0 (fun _ => False) := by
  refine met_of (by decide +kernel) (Nat.le_of_ble_eq_true rfl) ?_
  intro p e s m args below meth c ls E hr hlk hml hP hl
  have E : EE Z p s m args c cX4_station RX4 := E
  have hl : lv_has ls 3 [(0, .ref (ad Z 0)), (1, .int x), (2, .int (nI j))] := hl
  have hT := hL.2.2
  have hR := hL.2.1
  have hB := hL.1
  refine lv_iload_n E.1 E.2.1 dX4_station_0 rfl (lv_at hl 1 rfl) ?_
  refine go_Pv (run_S (rest := []) E hml hl.1 (c_X4_needStation l (V := V) x h0 h1) k_X4_needStation ⟨rfl, rfl, Nat.le_of_ble_eq_true rfl, Nat.le_of_ble_eq_true rfl⟩ gw_80 gw_81 hP  rfl rfl (Nat.le_of_ble_eq_true rfl) ⟨Nat.zero_le _, Nat.zero_le _⟩ dX4_station_1) ?_
  refine lv_iload_n E.1 E.2.1 dX4_station_4 rfl (lv_at hl 2 rfl) ?_
  refine lv_iconst (v := 0) E.1 E.2.1 dX4_station_5 (by decide) ?_
  refine lv_iconst (v := 2) E.1 E.2.1 dX4_station_6 (by decide) ?_
  refine go_Pv (run_S (rest := []) E hml hl.1 (c_X4_needWithin l (V := V) (nI j) 0 2 (nI_lt0 (by omega)) (nI_le (b := 2) (by omega) (by omega))) k_X4_needWithin ⟨rfl, rfl, Nat.le_of_ble_eq_true rfl, Nat.le_of_ble_eq_true rfl⟩ gw_69 gw_70 hP  rfl rfl (Nat.le_of_ble_eq_true rfl) ⟨Nat.zero_le _, Nat.zero_le _⟩ dX4_station_7) ?_
  refine lv_iload_n E.1 E.2.1 dX4_station_10 rfl (lv_at hl 2 rfl) ?_
  have hsw : j = 0 ∨ j = 1 ∨ j = 2 := by omega
  rcases hsw with rfl | rfl | rfl
  · refine lv_lookup (tgt := 36) E.1 E.2.1 dX4_station_11 (by decide) (by rfl) (by decide) ?_
    refine lv_aload_n E.1 E.2.1 dX4_station_36 rfl (lv_at hl 0 rfl) ?_
    refine g_bay E hP 0 (by decide) gw_13 dX4_station_37 ?_
    refine g_ln E hP hV (show 0 < 2 by decide) 0 (by decide) gw_154 rfl dX4_station_40 ?_
    refine lv_iload_n E.1 E.2.1 dX4_station_43 rfl (lv_at hl 1 rfl) ?_
    have hin_44 : vp_in x 6 := vinL h0 h1 (by decide)
    refine i_pl (j := (x.toNatClampNeg)) E hP hV (show 0 < 2 by decide) rfl hin_44 dX4_station_44 ?_
    exact e_iP E hr hlk (by rfl) dX4_station_45
  · refine lv_lookup (tgt := 46) E.1 E.2.1 dX4_station_11 (by decide) (by rfl) (by decide) ?_
    refine lv_aload_n E.1 E.2.1 dX4_station_46 rfl (lv_at hl 0 rfl) ?_
    refine g_bay E hP 0 (by decide) gw_13 dX4_station_47 ?_
    refine lv_iload_n E.1 E.2.1 dX4_station_50 rfl (lv_at hl 1 rfl) ?_
    refine go_Pi (run_V (rest := []) E hml hl.1 (c_X1_countAt l  hV (show 0 < 2 by decide) x hL) k_X1_countAt ⟨rfl, rfl, Nat.le_of_ble_eq_true rfl, Nat.le_of_ble_eq_true rfl⟩ gw_155 gw_156 gw_157 hP (rv_ln E hP (show 0 < 2 by decide)) rfl rfl (Nat.le_of_ble_eq_true rfl) ⟨Nat.zero_le _, Nat.zero_le _⟩ dX4_station_51) ?_
    exact e_iP E hr hlk (by rfl) dX4_station_54
  · refine lv_lookup (tgt := 55) E.1 E.2.1 dX4_station_11 (by decide) (by rfl) (by decide) ?_
    refine lv_aload_n E.1 E.2.1 dX4_station_55 rfl (lv_at hl 0 rfl) ?_
    refine g_bay E hP 0 (by decide) gw_13 dX4_station_56 ?_
    refine lv_iload_n E.1 E.2.1 dX4_station_59 rfl (lv_at hl 1 rfl) ?_
    refine go_Pi (run_V (rest := []) E hml hl.1 (c_X1_countOnTheWayTo l  hV (show 0 < 2 by decide) x hL) k_X1_countOnTheWayTo ⟨rfl, rfl, Nat.le_of_ble_eq_true rfl, Nat.le_of_ble_eq_true rfl⟩ gw_160 gw_161 gw_162 hP (rv_ln E hP (show 0 < 2 by decide)) rfl rfl (Nat.le_of_ble_eq_true rfl) ⟨Nat.zero_le _, Nat.zero_le _⟩ dX4_station_60) ?_
    exact e_iP E hr hlk (by rfl) dX4_station_63

abbrev rm_X4_ofBlock : Room := { frames := 2, cells := 0, slots := 0, locals := 42 }
theorem k_X4_ofBlock : Card yX4_ofBlock cX4_ofBlock 4 (some .int) 2 := ⟨gw_270, gw_2, by decide +kernel, by decide +kernel⟩
set_option maxHeartbeats 4000000 in
set_option maxRecDepth 20000 in
theorem c_X4_ofBlock (l : Launch) {Z : Gm} {V : Nat → St} {S : St} (hV : V 0 = S) (x : Int32) (h0 : ¬ x < 0) (h1 : x < S 2 0 0) (j : Nat) (hj : j ≤ 3) (hL : Lim S) : Met l yX4_ofBlock (.code yX4_ofBlock cX4_ofBlock 4 (some .int) :: gG) rm_X4_ofBlock (PW Z V [.ref (ad Z 0), .int x, .int (nI j)]) (QP (some (.int (blockQ S x.toNatClampNeg j)))) 0 0 (fun _ => False) := by
  refine met_of (by decide +kernel) (Nat.le_of_ble_eq_true rfl) ?_
  intro p e s m args below meth c ls E hr hlk hml hP hl
  have E : EE Z p s m args c cX4_ofBlock RX4 := E
  have hl : lv_has ls 4 [(0, .ref (ad Z 0)), (1, .int x), (2, .int (nI j))] := hl
  have hT := hL.2.2
  have hR := hL.2.1
  have hB := hL.1
  refine lv_aload_n E.1 E.2.1 dX4_ofBlock_0 rfl (lv_at hl 0 rfl) ?_
  refine lv_iload_n E.1 E.2.1 dX4_ofBlock_1 rfl (lv_at hl 1 rfl) ?_
  refine go_Pv (run_V (rest := []) E hml hl.1 (c_X4_needBlock l  hV x h0 h1) k_X4_needBlock ⟨rfl, rfl, Nat.le_of_ble_eq_true rfl, Nat.le_of_ble_eq_true rfl⟩ gw_88 gw_89 gw_90 hP (rv_bay E hP) rfl rfl (Nat.le_of_ble_eq_true rfl) ⟨Nat.zero_le _, Nat.zero_le _⟩ dX4_ofBlock_2) ?_
  refine lv_iload_n E.1 E.2.1 dX4_ofBlock_5 rfl (lv_at hl 2 rfl) ?_
  refine lv_iconst (v := 0) E.1 E.2.1 dX4_ofBlock_6 (by decide) ?_
  refine lv_iconst (v := 3) E.1 E.2.1 dX4_ofBlock_7 (by decide) ?_
  refine go_Pv (run_S (rest := []) E hml hl.1 (c_X4_needWithin l (V := V) (nI j) 0 3 (nI_lt0 (by omega)) (nI_le (b := 3) (by omega) (by omega))) k_X4_needWithin ⟨rfl, rfl, Nat.le_of_ble_eq_true rfl, Nat.le_of_ble_eq_true rfl⟩ gw_69 gw_70 hP  rfl rfl (Nat.le_of_ble_eq_true rfl) ⟨Nat.zero_le _, Nat.zero_le _⟩ dX4_ofBlock_8) ?_
  refine lv_aload_n E.1 E.2.1 dX4_ofBlock_11 rfl (lv_at hl 0 rfl) ?_
  refine g_bay E hP 0 (by decide) gw_13 dX4_ofBlock_12 ?_
  refine g_ln E hP hV (show 0 < 2 by decide) 1 (by decide) gw_67 rfl dX4_ofBlock_15 ?_
  refine lv_iload_n E.1 E.2.1 dX4_ofBlock_18 rfl (lv_at hl 1 rfl) ?_
  have hin_19 : vp_in x 16 := vinL h0 h1 (clamp_le hB)
  refine a_bk (k := (x.toNatClampNeg)) E hP (show 0 < 2 by decide) rfl hin_19 dX4_ofBlock_19 ?_
  refine lv_astore_n (lv' := [(3, .ref (ad Z (cBk 0 (x.toNatClampNeg)))), (0, .ref (ad Z 0)), (1, .int x), (2, .int (nI j))]) E.1 E.2.1 dX4_ofBlock_20 rfl hl (by decide) rfl (fun ls hl => ?_)
  refine lv_iload_n E.1 E.2.1 dX4_ofBlock_21 rfl (lv_at hl 3 rfl) ?_
  have hsw : j = 0 ∨ j = 1 ∨ j = 2 ∨ j = 3 := by omega
  rcases hsw with rfl | rfl | rfl | rfl
  · refine lv_tableIn (tgt := 48) E.1 E.2.1 dX4_ofBlock_22 (by decide) (by decide) (by rfl) (by decide) ?_
    refine lv_aload_n E.1 E.2.1 dX4_ofBlock_48 rfl (lv_at hl 0 rfl) ?_
    refine g_bk (v := .int (S 10 (x.toNatClampNeg) 0)) E hP hV (show 0 < 2 by decide) (vp_lt hin_19) 0 (by decide) gw_68 rfl dX4_ofBlock_49 ?_
    exact e_iP E hr hlk (by rfl) dX4_ofBlock_52
  · refine lv_tableIn (tgt := 53) E.1 E.2.1 dX4_ofBlock_22 (by decide) (by decide) (by rfl) (by decide) ?_
    refine lv_aload_n E.1 E.2.1 dX4_ofBlock_53 rfl (lv_at hl 0 rfl) ?_
    refine g_bk (v := .int (S 11 (x.toNatClampNeg) 0)) E hP hV (show 0 < 2 by decide) (vp_lt hin_19) 1 (by decide) gw_271 rfl dX4_ofBlock_54 ?_
    exact e_iP E hr hlk (by rfl) dX4_ofBlock_57
  · refine lv_tableIn (tgt := 58) E.1 E.2.1 dX4_ofBlock_22 (by decide) (by decide) (by rfl) (by decide) ?_
    refine lv_aload_n E.1 E.2.1 dX4_ofBlock_58 rfl (lv_at hl 0 rfl) ?_
    refine g_bk (v := .int (S 12 (x.toNatClampNeg) 0)) E hP hV (show 0 < 2 by decide) (vp_lt hin_19) 2 (by decide) gw_272 rfl dX4_ofBlock_59 ?_
    exact e_iP E hr hlk (by rfl) dX4_ofBlock_62
  · refine lv_tableOut (tgt := 63) E.1 E.2.1 dX4_ofBlock_22 (by decide) (by decide) ?_
    refine lv_aload_n E.1 E.2.1 dX4_ofBlock_63 rfl (lv_at hl 1 rfl) ?_
    refine g_bay E hP 0 (by decide) gw_13 dX4_ofBlock_64 ?_
    refine lv_aload_n E.1 E.2.1 dX4_ofBlock_67 rfl (lv_at hl 0 rfl) ?_
    refine g_bk (v := .int (S 13 (x.toNatClampNeg) 0)) E hP hV (show 0 < 2 by decide) (vp_lt hin_19) 3 (by decide) gw_273 rfl dX4_ofBlock_68 ?_
    refine go_Pi (run_V (rest := []) E hml hl.1 (c_X1_tillOrNone l  hV (show 0 < 2 by decide) (S 13 (x.toNatClampNeg) 0)) k_X1_tillOrNone ⟨rfl, rfl, Nat.le_of_ble_eq_true rfl, Nat.le_of_ble_eq_true rfl⟩ gw_274 gw_275 gw_276 hP (rv_ln E hP (show 0 < 2 by decide)) rfl rfl (Nat.le_of_ble_eq_true rfl) ⟨Nat.zero_le _, Nat.zero_le _⟩ dX4_ofBlock_71) ?_
    exact e_iP E hr hlk (by rfl) dX4_ofBlock_74

abbrev rm_X4_onRoute : Room := { frames := 2, cells := 0, slots := 0, locals := 42 }
theorem k_X4_onRoute : Card yX4_onRoute cX4_onRoute 3 (some .int) 2 := ⟨gw_133, gw_2, by decide +kernel, by decide +kernel⟩
set_option maxHeartbeats 4000000 in
set_option maxRecDepth 20000 in
theorem c_X4_onRoute (l : Launch) {Z : Gm} {V : Nat → St} {S : St} (hV : V 0 = S) (x : Int32) (h0 : ¬ x < 0) (h1 : x < S 4 0 0) (q : Int32) (q0 : ¬ q < 0) (q1 : q < S 23 x.toNatClampNeg 0) (hL : Lim S) : Met l yX4_onRoute (.code yX4_onRoute cX4_onRoute 3 (some .int) :: gG) rm_X4_onRoute (PW Z V [.ref (ad Z 0), .int x, .int q]) (QP (some (.int (blockAtF S x.toNatClampNeg q)))) 0 0 (fun _ => False) := by
  refine met_of (by decide +kernel) (Nat.le_of_ble_eq_true rfl) ?_
  intro p e s m args below meth c ls E hr hlk hml hP hl
  have E : EE Z p s m args c cX4_onRoute RX4 := E
  have hl : lv_has ls 3 [(0, .ref (ad Z 0)), (1, .int x), (2, .int q)] := hl
  have hT := hL.2.2
  have hR := hL.2.1
  have hB := hL.1
  refine lv_aload_n E.1 E.2.1 dX4_onRoute_0 rfl (lv_at hl 0 rfl) ?_
  refine lv_iload_n E.1 E.2.1 dX4_onRoute_1 rfl (lv_at hl 1 rfl) ?_
  refine go_Pv (run_V (rest := []) E hml hl.1 (c_X4_needRoute l  hV x h0 h1) k_X4_needRoute ⟨rfl, rfl, Nat.le_of_ble_eq_true rfl, Nat.le_of_ble_eq_true rfl⟩ gw_112 gw_113 gw_114 hP (rv_bay E hP) rfl rfl (Nat.le_of_ble_eq_true rfl) ⟨Nat.zero_le _, Nat.zero_le _⟩ dX4_onRoute_2) ?_
  refine lv_iload_n E.1 E.2.1 dX4_onRoute_5 rfl (lv_at hl 2 rfl) ?_
  refine lv_aload_n E.1 E.2.1 dX4_onRoute_6 rfl (lv_at hl 0 rfl) ?_
  refine g_bay E hP 0 (by decide) gw_13 dX4_onRoute_7 ?_
  refine g_ln E hP hV (show 0 < 2 by decide) 3 (by decide) gw_79 rfl dX4_onRoute_10 ?_
  refine lv_iload_n E.1 E.2.1 dX4_onRoute_13 rfl (lv_at hl 1 rfl) ?_
  have hin_14 : vp_in x 16 := vinL h0 h1 (clamp_le hR)
  refine a_rt (k := (x.toNatClampNeg)) E hP (show 0 < 2 by decide) rfl hin_14 dX4_onRoute_14 ?_
  refine g_rt (v := .int (S 23 (x.toNatClampNeg) 0)) E hP hV (show 0 < 2 by decide) (vp_lt hin_14) 3 (by decide) gw_110 rfl dX4_onRoute_15 ?_
  refine go_Pv (run_S (rest := []) E hml hl.1 (c_X4_needNumber l (V := V) q (S 23 (x.toNatClampNeg) 0) q0 q1) k_X4_needNumber ⟨rfl, rfl, Nat.le_of_ble_eq_true rfl, Nat.le_of_ble_eq_true rfl⟩ gw_83 gw_84 hP  rfl rfl (Nat.le_of_ble_eq_true rfl) ⟨Nat.zero_le _, Nat.zero_le _⟩ dX4_onRoute_18) ?_
  refine lv_aload_n E.1 E.2.1 dX4_onRoute_21 rfl (lv_at hl 0 rfl) ?_
  refine g_bay E hP 0 (by decide) gw_13 dX4_onRoute_22 ?_
  refine g_ln E hP hV (show 0 < 2 by decide) 3 (by decide) gw_79 rfl dX4_onRoute_25 ?_
  refine lv_iload_n E.1 E.2.1 dX4_onRoute_28 rfl (lv_at hl 1 rfl) ?_
  have hin_29 : vp_in x 16 := vinL h0 h1 (clamp_le hR)
  refine a_rt (k := (x.toNatClampNeg)) E hP (show 0 < 2 by decide) rfl hin_29 dX4_onRoute_29 ?_
  refine lv_iload_n E.1 E.2.1 dX4_onRoute_30 rfl (lv_at hl 2 rfl) ?_
  refine go_Pi (run_V (rest := []) E hml hl.1 (c_X2_blockAt l  hV (show 0 < 2 by decide) (vp_lt hin_29) q) k_X2_blockAt ⟨rfl, rfl, Nat.le_of_ble_eq_true rfl, Nat.le_of_ble_eq_true rfl⟩ gw_134 gw_127 gw_128 hP (rv_rt E hP (show 0 < 2 by decide) (vp_lt hin_29)) rfl rfl (Nat.le_of_ble_eq_true rfl) ⟨Nat.zero_le _, Nat.zero_le _⟩ dX4_onRoute_31) ?_
  exact e_iP E hr hlk (by rfl) dX4_onRoute_34

abbrev rm_X4_ofRoute : Room := { frames := 2, cells := 0, slots := 0, locals := 42 }
theorem k_X4_ofRoute : Card yX4_ofRoute cX4_ofRoute 4 (some .int) 2 := ⟨gw_107, gw_2, by decide +kernel, by decide +kernel⟩
set_option maxHeartbeats 4000000 in
set_option maxRecDepth 20000 in
theorem c_X4_ofRoute (l : Launch) {Z : Gm} {V : Nat → St} {S : St} (hV : V 0 = S) (x : Int32) (h0 : ¬ x < 0) (h1 : x < S 4 0 0) (j : Nat) (hj : 2 ≤ j ∧ j ≤ 3) (hL : Lim S) : Met l yX4_ofRoute (.code yX4_ofRoute cX4_ofRoute 4 (some .int) :: gG) rm_X4_ofRoute (PW Z V [.ref (ad Z 0), .int x, .int (nI j)]) (QP (some (.int (routeQ S x.toNatClampNeg j)))) 0 0 (fun _ => False) := by
  refine met_of (by decide +kernel) (Nat.le_of_ble_eq_true rfl) ?_
  intro p e s m args below meth c ls E hr hlk hml hP hl
  have E : EE Z p s m args c cX4_ofRoute RX4 := E
  have hl : lv_has ls 4 [(0, .ref (ad Z 0)), (1, .int x), (2, .int (nI j))] := hl
  have hT := hL.2.2
  have hR := hL.2.1
  have hB := hL.1
  refine lv_aload_n E.1 E.2.1 dX4_ofRoute_0 rfl (lv_at hl 0 rfl) ?_
  refine lv_iload_n E.1 E.2.1 dX4_ofRoute_1 rfl (lv_at hl 1 rfl) ?_
  refine go_Pv (run_V (rest := []) E hml hl.1 (c_X4_needRoute l  hV x h0 h1) k_X4_needRoute ⟨rfl, rfl, Nat.le_of_ble_eq_true rfl, Nat.le_of_ble_eq_true rfl⟩ gw_112 gw_113 gw_114 hP (rv_bay E hP) rfl rfl (Nat.le_of_ble_eq_true rfl) ⟨Nat.zero_le _, Nat.zero_le _⟩ dX4_ofRoute_2) ?_
  refine lv_iload_n E.1 E.2.1 dX4_ofRoute_5 rfl (lv_at hl 2 rfl) ?_
  refine lv_iconst (v := 0) E.1 E.2.1 dX4_ofRoute_6 (by decide) ?_
  refine lv_iconst (v := 4) E.1 E.2.1 dX4_ofRoute_7 (by decide) ?_
  refine go_Pv (run_S (rest := []) E hml hl.1 (c_X4_needWithin l (V := V) (nI j) 0 4 (nI_lt0 (by omega)) (nI_le (b := 4) (by omega) (by omega))) k_X4_needWithin ⟨rfl, rfl, Nat.le_of_ble_eq_true rfl, Nat.le_of_ble_eq_true rfl⟩ gw_69 gw_70 hP  rfl rfl (Nat.le_of_ble_eq_true rfl) ⟨Nat.zero_le _, Nat.zero_le _⟩ dX4_ofRoute_8) ?_
  refine lv_aload_n E.1 E.2.1 dX4_ofRoute_11 rfl (lv_at hl 0 rfl) ?_
  refine g_bay E hP 0 (by decide) gw_13 dX4_ofRoute_12 ?_
  refine g_ln E hP hV (show 0 < 2 by decide) 3 (by decide) gw_79 rfl dX4_ofRoute_15 ?_
  refine lv_iload_n E.1 E.2.1 dX4_ofRoute_18 rfl (lv_at hl 1 rfl) ?_
  have hin_19 : vp_in x 16 := vinL h0 h1 (clamp_le hR)
  refine a_rt (k := (x.toNatClampNeg)) E hP (show 0 < 2 by decide) rfl hin_19 dX4_ofRoute_19 ?_
  refine lv_astore_n (lv' := [(3, .ref (ad Z (cRt 0 (x.toNatClampNeg)))), (0, .ref (ad Z 0)), (1, .int x), (2, .int (nI j))]) E.1 E.2.1 dX4_ofRoute_20 rfl hl (by decide) rfl (fun ls hl => ?_)
  refine lv_iload_n E.1 E.2.1 dX4_ofRoute_21 rfl (lv_at hl 3 rfl) ?_
  have hsw : j = 2 ∨ j = 3 := by omega
  rcases hsw with rfl | rfl
  · refine lv_tableIn (tgt := 62) E.1 E.2.1 dX4_ofRoute_22 (by decide) (by decide) (by rfl) (by decide) ?_
    refine lv_aload_n E.1 E.2.1 dX4_ofRoute_62 rfl (lv_at hl 0 rfl) ?_
    refine g_rt (v := .int (S 23 (x.toNatClampNeg) 0)) E hP hV (show 0 < 2 by decide) (vp_lt hin_19) 3 (by decide) gw_110 rfl dX4_ofRoute_63 ?_
    exact e_iP E hr hlk (by rfl) dX4_ofRoute_66
  · refine lv_tableIn (tgt := 67) E.1 E.2.1 dX4_ofRoute_22 (by decide) (by decide) (by rfl) (by decide) ?_
    refine lv_aload_n E.1 E.2.1 dX4_ofRoute_67 rfl (lv_at hl 0 rfl) ?_
    refine g_rt (v := .int (S 22 (x.toNatClampNeg) 0)) E hP hV (show 0 < 2 by decide) (vp_lt hin_19) 2 (by decide) gw_111 rfl dX4_ofRoute_68 ?_
    refine go_Pi (run_S (rest := []) E hml hl.1 (c_X4_oneIf l (V := V) (S 22 (x.toNatClampNeg) 0)) k_X4_oneIf ⟨rfl, rfl, Nat.le_of_ble_eq_true rfl, Nat.le_of_ble_eq_true rfl⟩ gw_116 gw_117 hP  rfl rfl (Nat.le_of_ble_eq_true rfl) ⟨Nat.zero_le _, Nat.zero_le _⟩ dX4_ofRoute_71) ?_
    exact e_iP E hr hlk (by rfl) dX4_ofRoute_74

abbrev rm_X4_ofTrain : Room := { frames := 2, cells := 0, slots := 0, locals := 43 }
theorem k_X4_ofTrain : Card yX4_ofTrain cX4_ofTrain 4 (some .int) 2 := ⟨gw_286, gw_2, by decide +kernel, by decide +kernel⟩
set_option maxHeartbeats 4000000 in
set_option maxRecDepth 20000 in
theorem c_X4_ofTrain (l : Launch) {Z : Gm} {V : Nat → St} {S : St} (hV : V 0 = S) (x : Int32) (h0 : ¬ x < 0) (h1 : x < S 6 0 0) (j : Nat) (hj : j ≤ 12) (hL : Lim S) : Met l yX4_ofTrain (.code yX4_ofTrain cX4_ofTrain 4 (some .int) :: gG) rm_X4_ofTrain (PW Z V [.ref (ad Z 0), .int x, .int (nI j)]) (QP (some (.int (trainQ S x.toNatClampNeg j)))) 0 0 (fun _ => False) := by
  refine met_of (by decide +kernel) (Nat.le_of_ble_eq_true rfl) ?_
  intro p e s m args below meth c ls E hr hlk hml hP hl
  have E : EE Z p s m args c cX4_ofTrain RX4 := E
  have hl : lv_has ls 4 [(0, .ref (ad Z 0)), (1, .int x), (2, .int (nI j))] := hl
  have hT := hL.2.2
  have hR := hL.2.1
  have hB := hL.1
  refine lv_aload_n E.1 E.2.1 dX4_ofTrain_0 rfl (lv_at hl 0 rfl) ?_
  refine lv_iload_n E.1 E.2.1 dX4_ofTrain_1 rfl (lv_at hl 1 rfl) ?_
  refine go_Pv (run_V (rest := []) E hml hl.1 (c_X4_needTrain l  hV x h0 h1) k_X4_needTrain ⟨rfl, rfl, Nat.le_of_ble_eq_true rfl, Nat.le_of_ble_eq_true rfl⟩ gw_193 gw_194 gw_195 hP (rv_bay E hP) rfl rfl (Nat.le_of_ble_eq_true rfl) ⟨Nat.zero_le _, Nat.zero_le _⟩ dX4_ofTrain_2) ?_
  refine lv_iload_n E.1 E.2.1 dX4_ofTrain_5 rfl (lv_at hl 2 rfl) ?_
  refine lv_iconst (v := 0) E.1 E.2.1 dX4_ofTrain_6 (by decide) ?_
  refine lv_bipush (v := 12) E.1 E.2.1 dX4_ofTrain_7 (by decide) ?_
  refine go_Pv (run_S (rest := []) E hml hl.1 (c_X4_needWithin l (V := V) (nI j) 0 12 (nI_lt0 (by omega)) (nI_le (b := 12) (by omega) (by omega))) k_X4_needWithin ⟨rfl, rfl, Nat.le_of_ble_eq_true rfl, Nat.le_of_ble_eq_true rfl⟩ gw_69 gw_70 hP  rfl rfl (Nat.le_of_ble_eq_true rfl) ⟨Nat.zero_le _, Nat.zero_le _⟩ dX4_ofTrain_9) ?_
  refine lv_aload_n E.1 E.2.1 dX4_ofTrain_12 rfl (lv_at hl 0 rfl) ?_
  refine g_bay E hP 0 (by decide) gw_13 dX4_ofTrain_13 ?_
  refine g_ln E hP hV (show 0 < 2 by decide) 5 (by decide) gw_171 rfl dX4_ofTrain_16 ?_
  refine lv_iload_n E.1 E.2.1 dX4_ofTrain_19 rfl (lv_at hl 1 rfl) ?_
  have hin_20 : vp_in x 8 := vinL h0 h1 (clamp_le hT)
  refine a_tr (k := (x.toNatClampNeg)) E hP (show 0 < 2 by decide) rfl hin_20 dX4_ofTrain_20 ?_
  refine lv_astore_n (lv' := [(3, .ref (ad Z (cTr 0 (x.toNatClampNeg)))), (0, .ref (ad Z 0)), (1, .int x), (2, .int (nI j))]) E.1 E.2.1 dX4_ofTrain_21 rfl hl (by decide) rfl (fun ls hl => ?_)
  refine lv_iload_n E.1 E.2.1 dX4_ofTrain_22 rfl (lv_at hl 3 rfl) ?_
  have hsw : j = 0 ∨ j = 1 ∨ j = 2 ∨ j = 3 ∨ j = 4 ∨ j = 5 ∨ j = 6 ∨ j = 7 ∨ j = 8 ∨ j = 9 ∨ j = 10 ∨ j = 11 ∨ j = 12 := by omega
  rcases hsw with rfl | rfl | rfl | rfl | rfl | rfl | rfl | rfl | rfl | rfl | rfl | rfl | rfl
  · refine lv_tableIn (tgt := 84) E.1 E.2.1 dX4_ofTrain_23 (by decide) (by decide) (by rfl) (by decide) ?_
    refine lv_aload_n E.1 E.2.1 dX4_ofTrain_84 rfl (lv_at hl 0 rfl) ?_
    refine g_tr (v := .int (S 30 (x.toNatClampNeg) 0)) E hP hV (show 0 < 2 by decide) (vp_lt hin_20) 0 (by decide) gw_172 rfl dX4_ofTrain_85 ?_
    exact e_iP E hr hlk (by rfl) dX4_ofTrain_88
  · refine lv_tableIn (tgt := 89) E.1 E.2.1 dX4_ofTrain_23 (by decide) (by decide) (by rfl) (by decide) ?_
    refine lv_aload_n E.1 E.2.1 dX4_ofTrain_89 rfl (lv_at hl 0 rfl) ?_
    refine g_tr (v := .int (S 31 (x.toNatClampNeg) 0)) E hP hV (show 0 < 2 by decide) (vp_lt hin_20) 1 (by decide) gw_173 rfl dX4_ofTrain_90 ?_
    exact e_iP E hr hlk (by rfl) dX4_ofTrain_93
  · refine lv_tableIn (tgt := 94) E.1 E.2.1 dX4_ofTrain_23 (by decide) (by decide) (by rfl) (by decide) ?_
    refine lv_aload_n E.1 E.2.1 dX4_ofTrain_94 rfl (lv_at hl 0 rfl) ?_
    refine g_tr (v := .int (S 32 (x.toNatClampNeg) 0)) E hP hV (show 0 < 2 by decide) (vp_lt hin_20) 2 (by decide) gw_192 rfl dX4_ofTrain_95 ?_
    exact e_iP E hr hlk (by rfl) dX4_ofTrain_98
  · refine lv_tableIn (tgt := 99) E.1 E.2.1 dX4_ofTrain_23 (by decide) (by decide) (by rfl) (by decide) ?_
    refine lv_aload_n E.1 E.2.1 dX4_ofTrain_99 rfl (lv_at hl 0 rfl) ?_
    refine g_tr (v := .int (S 35 (x.toNatClampNeg) 0)) E hP hV (show 0 < 2 by decide) (vp_lt hin_20) 5 (by decide) gw_287 rfl dX4_ofTrain_100 ?_
    exact e_iP E hr hlk (by rfl) dX4_ofTrain_103
  · refine lv_tableIn (tgt := 104) E.1 E.2.1 dX4_ofTrain_23 (by decide) (by decide) (by rfl) (by decide) ?_
    refine lv_aload_n E.1 E.2.1 dX4_ofTrain_104 rfl (lv_at hl 0 rfl) ?_
    refine g_tr (v := .int (S 36 (x.toNatClampNeg) 0)) E hP hV (show 0 < 2 by decide) (vp_lt hin_20) 6 (by decide) gw_174 rfl dX4_ofTrain_105 ?_
    exact e_iP E hr hlk (by rfl) dX4_ofTrain_108
  · refine lv_tableIn (tgt := 109) E.1 E.2.1 dX4_ofTrain_23 (by decide) (by decide) (by rfl) (by decide) ?_
    refine lv_aload_n E.1 E.2.1 dX4_ofTrain_109 rfl (lv_at hl 1 rfl) ?_
    refine g_bay E hP 0 (by decide) gw_13 dX4_ofTrain_110 ?_
    refine lv_aload_n E.1 E.2.1 dX4_ofTrain_113 rfl (lv_at hl 0 rfl) ?_
    refine go_Pi (run_V (rest := []) E hml hl.1 (c_X1_blockUnder l  hV (show 0 < 2 by decide) (vp_lt hin_20) hL) k_X1_blockUnder ⟨rfl, rfl, Nat.le_of_ble_eq_true rfl, Nat.le_of_ble_eq_true rfl⟩ gw_293 gw_294 gw_295 hP (rv_ln E hP (show 0 < 2 by decide)) rfl rfl (Nat.le_of_ble_eq_true rfl) ⟨Nat.zero_le _, Nat.zero_le _⟩ dX4_ofTrain_114) ?_
    exact e_iP E hr hlk (by rfl) dX4_ofTrain_117
  · refine lv_tableIn (tgt := 118) E.1 E.2.1 dX4_ofTrain_23 (by decide) (by decide) (by rfl) (by decide) ?_
    refine lv_aload_n E.1 E.2.1 dX4_ofTrain_118 rfl (lv_at hl 0 rfl) ?_
    refine g_tr (v := .int (S 38 (x.toNatClampNeg) 0)) E hP hV (show 0 < 2 by decide) (vp_lt hin_20) 8 (by decide) gw_288 rfl dX4_ofTrain_119 ?_
    exact e_iP E hr hlk (by rfl) dX4_ofTrain_122
  · refine lv_tableIn (tgt := 123) E.1 E.2.1 dX4_ofTrain_23 (by decide) (by decide) (by rfl) (by decide) ?_
    refine lv_aload_n E.1 E.2.1 dX4_ofTrain_123 rfl (lv_at hl 0 rfl) ?_
    refine g_tr (v := .int (S 40 (x.toNatClampNeg) 0)) E hP hV (show 0 < 2 by decide) (vp_lt hin_20) 10 (by decide) gw_289 rfl dX4_ofTrain_124 ?_
    exact e_iP E hr hlk (by rfl) dX4_ofTrain_127
  · refine lv_tableIn (tgt := 128) E.1 E.2.1 dX4_ofTrain_23 (by decide) (by decide) (by rfl) (by decide) ?_
    refine lv_aload_n E.1 E.2.1 dX4_ofTrain_128 rfl (lv_at hl 0 rfl) ?_
    refine g_tr (v := .int (S 42 (x.toNatClampNeg) 0)) E hP hV (show 0 < 2 by decide) (vp_lt hin_20) 12 (by decide) gw_290 rfl dX4_ofTrain_129 ?_
    exact e_iP E hr hlk (by rfl) dX4_ofTrain_132
  · refine lv_tableIn (tgt := 133) E.1 E.2.1 dX4_ofTrain_23 (by decide) (by decide) (by rfl) (by decide) ?_
    refine lv_aload_n E.1 E.2.1 dX4_ofTrain_133 rfl (lv_at hl 0 rfl) ?_
    refine g_tr (v := .int (S 43 (x.toNatClampNeg) 0)) E hP hV (show 0 < 2 by decide) (vp_lt hin_20) 13 (by decide) gw_291 rfl dX4_ofTrain_134 ?_
    exact e_iP E hr hlk (by rfl) dX4_ofTrain_137
  · refine lv_tableIn (tgt := 138) E.1 E.2.1 dX4_ofTrain_23 (by decide) (by decide) (by rfl) (by decide) ?_
    refine lv_aload_n E.1 E.2.1 dX4_ofTrain_138 rfl (lv_at hl 1 rfl) ?_
    refine g_bay E hP 0 (by decide) gw_13 dX4_ofTrain_139 ?_
    refine lv_aload_n E.1 E.2.1 dX4_ofTrain_142 rfl (lv_at hl 0 rfl) ?_
    refine go_Pi (run_V (rest := []) E hml hl.1 (c_X1_isReady l  hV (show 0 < 2 by decide) (vp_lt hin_20)) k_X1_isReady ⟨rfl, rfl, Nat.le_of_ble_eq_true rfl, Nat.le_of_ble_eq_true rfl⟩ gw_298 gw_299 gw_300 hP (rv_ln E hP (show 0 < 2 by decide)) rfl rfl (Nat.le_of_ble_eq_true rfl) ⟨Nat.zero_le _, Nat.zero_le _⟩ dX4_ofTrain_143) ?_
    refine go_Pi (run_S (rest := []) E hml hl.1 (c_X4_oneIf l (V := V) (b2i (readyF S (x.toNatClampNeg)))) k_X4_oneIf ⟨rfl, rfl, Nat.le_of_ble_eq_true rfl, Nat.le_of_ble_eq_true rfl⟩ gw_116 gw_117 hP  rfl rfl (Nat.le_of_ble_eq_true rfl) ⟨Nat.zero_le _, Nat.zero_le _⟩ dX4_ofTrain_146) ?_
    exact e_iP E hr hlk (by rfl) dX4_ofTrain_149
  · refine lv_tableIn (tgt := 150) E.1 E.2.1 dX4_ofTrain_23 (by decide) (by decide) (by rfl) (by decide) ?_
    refine lv_aload_n E.1 E.2.1 dX4_ofTrain_150 rfl (lv_at hl 0 rfl) ?_
    refine go_Pi (run_V (rest := []) E hml hl.1 (c_X3_isAtEndOfBlock l  hV (show 0 < 2 by decide) (vp_lt hin_20)) k_X3_isAtEndOfBlock ⟨rfl, rfl, Nat.le_of_ble_eq_true rfl, Nat.le_of_ble_eq_true rfl⟩ gw_311 gw_312 gw_313 hP (rv_tr E hP (show 0 < 2 by decide) (vp_lt hin_20)) rfl rfl (Nat.le_of_ble_eq_true rfl) ⟨Nat.zero_le _, Nat.zero_le _⟩ dX4_ofTrain_151) ?_
    refine go_Pi (run_S (rest := []) E hml hl.1 (c_X4_oneIf l (V := V) (b2i (atEndF S (x.toNatClampNeg)))) k_X4_oneIf ⟨rfl, rfl, Nat.le_of_ble_eq_true rfl, Nat.le_of_ble_eq_true rfl⟩ gw_116 gw_117 hP  rfl rfl (Nat.le_of_ble_eq_true rfl) ⟨Nat.zero_le _, Nat.zero_le _⟩ dX4_ofTrain_154) ?_
    exact e_iP E hr hlk (by rfl) dX4_ofTrain_157
  · refine lv_tableOut (tgt := 158) E.1 E.2.1 dX4_ofTrain_23 (by decide) (by decide) ?_
    refine lv_aload_n E.1 E.2.1 dX4_ofTrain_158 rfl (lv_at hl 1 rfl) ?_
    refine g_bay E hP 0 (by decide) gw_13 dX4_ofTrain_159 ?_
    refine lv_aload_n E.1 E.2.1 dX4_ofTrain_162 rfl (lv_at hl 0 rfl) ?_
    refine g_tr (v := .int (S 41 (x.toNatClampNeg) 0)) E hP hV (show 0 < 2 by decide) (vp_lt hin_20) 11 (by decide) gw_292 rfl dX4_ofTrain_163 ?_
    refine go_Pi (run_V (rest := []) E hml hl.1 (c_X1_tillOrNone l  hV (show 0 < 2 by decide) (S 41 (x.toNatClampNeg) 0)) k_X1_tillOrNone ⟨rfl, rfl, Nat.le_of_ble_eq_true rfl, Nat.le_of_ble_eq_true rfl⟩ gw_274 gw_275 gw_276 hP (rv_ln E hP (show 0 < 2 by decide)) rfl rfl (Nat.le_of_ble_eq_true rfl) ⟨Nat.zero_le _, Nat.zero_le _⟩ dX4_ofTrain_166) ?_
    exact e_iP E hr hlk (by rfl) dX4_ofTrain_169

abbrev rm_X4_plan : Room := { frames := 2, cells := 0, slots := 0, locals := 42 }
theorem k_X4_plan : Card yX4_plan cX4_plan 5 (some .int) 3 := ⟨gw_191, gw_2, by decide +kernel, by decide +kernel⟩
set_option maxHeartbeats 4000000 in
set_option maxRecDepth 20000 in
theorem c_X4_plan (l : Launch) {Z : Gm} {V : Nat → St} {S : St} (hV : V 0 = S) (x : Int32) (h0 : ¬ x < 0) (h1 : x < S 6 0 0) (q : Int32) (q0 : ¬ q < 0) (q1 : q < S 32 x.toNatClampNeg 0) (z : Int32) (hL : Lim S) : Met l yX4_plan (.code yX4_plan cX4_plan 5 (some .int) :: gG) rm_X4_plan (PW Z V [.ref (ad Z 0), .int x, .int q, .int z]) (QP (some (.int (planF S x.toNatClampNeg q z)))) 0 0 (fun _ => False) := by
  refine met_of (by decide +kernel) (Nat.le_of_ble_eq_true rfl) ?_
  intro p e s m args below meth c ls E hr hlk hml hP hl
  have E : EE Z p s m args c cX4_plan RX4 := E
  have hl : lv_has ls 5 [(0, .ref (ad Z 0)), (1, .int x), (2, .int q), (3, .int z)] := hl
  have hT := hL.2.2
  have hR := hL.2.1
  have hB := hL.1
  refine lv_aload_n E.1 E.2.1 dX4_plan_0 rfl (lv_at hl 0 rfl) ?_
  refine lv_iload_n E.1 E.2.1 dX4_plan_1 rfl (lv_at hl 1 rfl) ?_
  refine go_Pv (run_V (rest := []) E hml hl.1 (c_X4_needTrain l  hV x h0 h1) k_X4_needTrain ⟨rfl, rfl, Nat.le_of_ble_eq_true rfl, Nat.le_of_ble_eq_true rfl⟩ gw_193 gw_194 gw_195 hP (rv_bay E hP) rfl rfl (Nat.le_of_ble_eq_true rfl) ⟨Nat.zero_le _, Nat.zero_le _⟩ dX4_plan_2) ?_
  refine lv_aload_n E.1 E.2.1 dX4_plan_5 rfl (lv_at hl 0 rfl) ?_
  refine g_bay E hP 0 (by decide) gw_13 dX4_plan_6 ?_
  refine g_ln E hP hV (show 0 < 2 by decide) 5 (by decide) gw_171 rfl dX4_plan_9 ?_
  refine lv_iload_n E.1 E.2.1 dX4_plan_12 rfl (lv_at hl 1 rfl) ?_
  have hin_13 : vp_in x 8 := vinL h0 h1 (clamp_le hT)
  refine a_tr (k := (x.toNatClampNeg)) E hP (show 0 < 2 by decide) rfl hin_13 dX4_plan_13 ?_
  refine lv_astore (lv' := [(4, .ref (ad Z (cTr 0 (x.toNatClampNeg)))), (0, .ref (ad Z 0)), (1, .int x), (2, .int q), (3, .int z)]) E.1 E.2.1 dX4_plan_14 hl (by decide) rfl (fun ls hl => ?_)
  refine lv_iload_n E.1 E.2.1 dX4_plan_16 rfl (lv_at hl 3 rfl) ?_
  refine lv_aload E.1 E.2.1 dX4_plan_17 (lv_at hl 0 rfl) ?_
  refine g_tr (v := .int (S 32 (x.toNatClampNeg) 0)) E hP hV (show 0 < 2 by decide) (vp_lt hin_13) 2 (by decide) gw_192 rfl dX4_plan_19 ?_
  refine go_Pv (run_S (rest := []) E hml hl.1 (c_X4_needNumber l (V := V) q (S 32 (x.toNatClampNeg) 0) q0 q1) k_X4_needNumber ⟨rfl, rfl, Nat.le_of_ble_eq_true rfl, Nat.le_of_ble_eq_true rfl⟩ gw_83 gw_84 hP  rfl rfl (Nat.le_of_ble_eq_true rfl) ⟨Nat.zero_le _, Nat.zero_le _⟩ dX4_plan_22) ?_
  refine lv_iload_n E.1 E.2.1 dX4_plan_25 rfl (lv_at hl 4 rfl) ?_
  refine lv_if_eq (tgt := 38) E.1 E.2.1 dX4_plan_26 (by decide) (fun c_26 => ?_) (fun c_26 => ?_)
  · refine lv_aload E.1 E.2.1 dX4_plan_38 (lv_at hl 0 rfl) ?_
    refine lv_iload_n E.1 E.2.1 dX4_plan_40 rfl (lv_at hl 3 rfl) ?_
    refine go_Pi (run_V (rest := []) E hml hl.1 (c_X3_stationOf l  hV (show 0 < 2 by decide) (vp_lt hin_13) q) k_X3_stationOf ⟨rfl, rfl, Nat.le_of_ble_eq_true rfl, Nat.le_of_ble_eq_true rfl⟩ gw_201 gw_202 gw_203 hP (rv_tr E hP (show 0 < 2 by decide) (vp_lt hin_13)) rfl rfl (Nat.le_of_ble_eq_true rfl) ⟨Nat.zero_le _, Nat.zero_le _⟩ dX4_plan_41) ?_
    exact e_iP E hr hlk (by simp [planF, c_26]) dX4_plan_44
  · refine lv_aload E.1 E.2.1 dX4_plan_29 (lv_at hl 0 rfl) ?_
    refine lv_iload_n E.1 E.2.1 dX4_plan_31 rfl (lv_at hl 3 rfl) ?_
    refine go_Pi (run_V (rest := []) E hml hl.1 (c_X3_timeOf l  hV (show 0 < 2 by decide) (vp_lt hin_13) q) k_X3_timeOf ⟨rfl, rfl, Nat.le_of_ble_eq_true rfl, Nat.le_of_ble_eq_true rfl⟩ gw_197 gw_198 gw_199 hP (rv_tr E hP (show 0 < 2 by decide) (vp_lt hin_13)) rfl rfl (Nat.le_of_ble_eq_true rfl) ⟨Nat.zero_le _, Nat.zero_le _⟩ dX4_plan_32) ?_
    refine lv_goto (tgt := 44) E.1 E.2.1 dX4_plan_35 (by decide) ?_
    exact e_iP E hr hlk (by simp [planF, c_26]) dX4_plan_44

abbrev rm_X4_waitedFor : Room := { frames := 2, cells := 0, slots := 0, locals := 42 }
theorem k_X4_waitedFor : Card yX4_waitedFor cX4_waitedFor 3 (some .int) 2 := ⟨gw_329, gw_2, by decide +kernel, by decide +kernel⟩
set_option maxHeartbeats 4000000 in
set_option maxRecDepth 20000 in
theorem c_X4_waitedFor (l : Launch) {Z : Gm} {V : Nat → St} {S : St} (hV : V 0 = S) (x : Int32) (h0 : ¬ x < 0) (h1 : x < S 6 0 0) (o : Int32) (o0 : ¬ o < 0) (o1 : o < S 6 0 0) (hL : Lim S) : Met l yX4_waitedFor (.code yX4_waitedFor cX4_waitedFor 3 (some .int) :: gG) rm_X4_waitedFor (PW Z V [.ref (ad Z 0), .int x, .int o]) (QP (some (.int (S 45 x.toNatClampNeg o.toNatClampNeg)))) 0 0 (fun _ => False) := by
  refine met_of (by decide +kernel) (Nat.le_of_ble_eq_true rfl) ?_
  intro p e s m args below meth c ls E hr hlk hml hP hl
  have E : EE Z p s m args c cX4_waitedFor RX4 := E
  have hl : lv_has ls 3 [(0, .ref (ad Z 0)), (1, .int x), (2, .int o)] := hl
  have hT := hL.2.2
  have hR := hL.2.1
  have hB := hL.1
  refine lv_aload_n E.1 E.2.1 dX4_waitedFor_0 rfl (lv_at hl 0 rfl) ?_
  refine lv_iload_n E.1 E.2.1 dX4_waitedFor_1 rfl (lv_at hl 1 rfl) ?_
  refine go_Pv (run_V (rest := []) E hml hl.1 (c_X4_needTrain l  hV x h0 h1) k_X4_needTrain ⟨rfl, rfl, Nat.le_of_ble_eq_true rfl, Nat.le_of_ble_eq_true rfl⟩ gw_193 gw_194 gw_195 hP (rv_bay E hP) rfl rfl (Nat.le_of_ble_eq_true rfl) ⟨Nat.zero_le _, Nat.zero_le _⟩ dX4_waitedFor_2) ?_
  refine lv_aload_n E.1 E.2.1 dX4_waitedFor_5 rfl (lv_at hl 0 rfl) ?_
  refine lv_iload_n E.1 E.2.1 dX4_waitedFor_6 rfl (lv_at hl 2 rfl) ?_
  refine go_Pv (run_V (rest := []) E hml hl.1 (c_X4_needTrain l  hV o o0 o1) k_X4_needTrain ⟨rfl, rfl, Nat.le_of_ble_eq_true rfl, Nat.le_of_ble_eq_true rfl⟩ gw_193 gw_194 gw_195 hP (rv_bay E hP) rfl rfl (Nat.le_of_ble_eq_true rfl) ⟨Nat.zero_le _, Nat.zero_le _⟩ dX4_waitedFor_7) ?_
  refine lv_aload_n E.1 E.2.1 dX4_waitedFor_10 rfl (lv_at hl 0 rfl) ?_
  refine g_bay E hP 0 (by decide) gw_13 dX4_waitedFor_11 ?_
  refine g_ln E hP hV (show 0 < 2 by decide) 5 (by decide) gw_171 rfl dX4_waitedFor_14 ?_
  refine lv_iload_n E.1 E.2.1 dX4_waitedFor_17 rfl (lv_at hl 1 rfl) ?_
  have hin_18 : vp_in x 8 := vinL h0 h1 (clamp_le hT)
  refine a_tr (k := (x.toNatClampNeg)) E hP (show 0 < 2 by decide) rfl hin_18 dX4_waitedFor_18 ?_
  refine g_tr E hP hV (show 0 < 2 by decide) (vp_lt hin_18) 15 (by decide) gw_330 rfl dX4_waitedFor_19 ?_
  refine lv_iload_n E.1 E.2.1 dX4_waitedFor_22 rfl (lv_at hl 2 rfl) ?_
  have hin_23 : vp_in o 8 := vinL o0 o1 (clamp_le hT)
  refine i_wf (j := (o.toNatClampNeg)) E hP hV (show 0 < 2 by decide) (vp_lt hin_18) rfl hin_23 dX4_waitedFor_23 ?_
  exact e_iP E hr hlk (by rfl) dX4_waitedFor_24

abbrev rm_X4_waitsFor : Room := { frames := 2, cells := 0, slots := 0, locals := 42 }
theorem k_X4_waitsFor : Card yX4_waitsFor cX4_waitsFor 2 (some .int) 1 := ⟨gw_319, gw_2, by decide +kernel, by decide +kernel⟩
set_option maxHeartbeats 4000000 in
set_option maxRecDepth 20000 in
theorem c_X4_waitsFor (l : Launch) {Z : Gm} {V : Nat → St} {S : St} (hV : V 0 = S) (x : Int32) (h0 : ¬ x < 0) (h1 : x < S 6 0 0) (hL : Lim S) : Met l yX4_waitsFor (.code yX4_waitsFor cX4_waitsFor 2 (some .int) :: gG) rm_X4_waitsFor (PW Z V [.ref (ad Z 0), .int x]) (QP (some (.int (S 44 x.toNatClampNeg 0)))) 0 0 (fun _ => False) := by
  refine met_of (by decide +kernel) (Nat.le_of_ble_eq_true rfl) ?_
  intro p e s m args below meth c ls E hr hlk hml hP hl
  have E : EE Z p s m args c cX4_waitsFor RX4 := E
  have hl : lv_has ls 2 [(0, .ref (ad Z 0)), (1, .int x)] := hl
  have hT := hL.2.2
  have hR := hL.2.1
  have hB := hL.1
  refine lv_aload_n E.1 E.2.1 dX4_waitsFor_0 rfl (lv_at hl 0 rfl) ?_
  refine lv_iload_n E.1 E.2.1 dX4_waitsFor_1 rfl (lv_at hl 1 rfl) ?_
  refine go_Pv (run_V (rest := []) E hml hl.1 (c_X4_needTrain l  hV x h0 h1) k_X4_needTrain ⟨rfl, rfl, Nat.le_of_ble_eq_true rfl, Nat.le_of_ble_eq_true rfl⟩ gw_193 gw_194 gw_195 hP (rv_bay E hP) rfl rfl (Nat.le_of_ble_eq_true rfl) ⟨Nat.zero_le _, Nat.zero_le _⟩ dX4_waitsFor_2) ?_
  refine lv_aload_n E.1 E.2.1 dX4_waitsFor_5 rfl (lv_at hl 0 rfl) ?_
  refine g_bay E hP 0 (by decide) gw_13 dX4_waitsFor_6 ?_
  refine g_ln E hP hV (show 0 < 2 by decide) 5 (by decide) gw_171 rfl dX4_waitsFor_9 ?_
  refine lv_iload_n E.1 E.2.1 dX4_waitsFor_12 rfl (lv_at hl 1 rfl) ?_
  have hin_13 : vp_in x 8 := vinL h0 h1 (clamp_le hT)
  refine a_tr (k := (x.toNatClampNeg)) E hP (show 0 < 2 by decide) rfl hin_13 dX4_waitsFor_13 ?_
  refine g_tr (v := .int (S 44 (x.toNatClampNeg) 0)) E hP hV (show 0 < 2 by decide) (vp_lt hin_13) 14 (by decide) gw_320 rfl dX4_waitsFor_14 ?_
  exact e_iP E hr hlk (by rfl) dX4_waitsFor_17

abbrev rm_X4_isStuck : Room := { frames := 2, cells := 0, slots := 0, locals := 42 }
theorem k_X4_isStuck : Card yX4_isStuck cX4_isStuck 2 (some .boolean) 1 := ⟨gw_324, gw_2, by decide +kernel, by decide +kernel⟩
set_option maxHeartbeats 4000000 in
set_option maxRecDepth 20000 in
theorem c_X4_isStuck (l : Launch) {Z : Gm} {V : Nat → St} {S : St} (hV : V 0 = S) (i : Nat) (hi : i < nT S) (hL : Lim S) : Met l yX4_isStuck (.code yX4_isStuck cX4_isStuck 2 (some .boolean) :: gG) rm_X4_isStuck (PW Z V [.ref (ad Z 0), .int (nI i)]) (QP (some (.int (b2i (stuckF S i))))) 0 0 (fun _ => False) := by
  refine met_of (by decide +kernel) (Nat.le_of_ble_eq_true rfl) ?_
  intro p e s m args below meth c ls E hr hlk hml hP hl
  have E : EE Z p s m args c cX4_isStuck RX4 := E
  have hl : lv_has ls 2 [(0, .ref (ad Z 0)), (1, .int (nI i))] := hl
  have hT := hL.2.2
  have hR := hL.2.1
  have hB := hL.1
  refine lv_aload_n E.1 E.2.1 dX4_isStuck_0 rfl (lv_at hl 0 rfl) ?_
  refine lv_iload_n E.1 E.2.1 dX4_isStuck_1 rfl (lv_at hl 1 rfl) ?_
  refine go_Pv (run_V (rest := []) E hml hl.1 (c_X4_needTrain l  hV (nI i) (nI_lt0 (by omega)) (nI_ltc hi)) k_X4_needTrain ⟨rfl, rfl, Nat.le_of_ble_eq_true rfl, Nat.le_of_ble_eq_true rfl⟩ gw_193 gw_194 gw_195 hP (rv_bay E hP) rfl rfl (Nat.le_of_ble_eq_true rfl) ⟨Nat.zero_le _, Nat.zero_le _⟩ dX4_isStuck_2) ?_
  refine lv_aload_n E.1 E.2.1 dX4_isStuck_5 rfl (lv_at hl 0 rfl) ?_
  refine g_bay E hP 0 (by decide) gw_13 dX4_isStuck_6 ?_
  refine lv_iload_n E.1 E.2.1 dX4_isStuck_9 rfl (lv_at hl 1 rfl) ?_
  refine go_Pi (run_V (rest := []) E hml hl.1 (c_X1_waitsForItself l  hV (show 0 < 2 by decide) i (by omega) hL) k_X1_waitsForItself ⟨rfl, rfl, Nat.le_of_ble_eq_true rfl, Nat.le_of_ble_eq_true rfl⟩ gw_325 gw_262 gw_263 hP (rv_ln E hP (show 0 < 2 by decide)) rfl rfl (Nat.le_of_ble_eq_true rfl) ⟨Nat.zero_le _, Nat.zero_le _⟩ dX4_isStuck_10) ?_
  exact e_zP E hr hlk (by rfl) (b2i_01 _) dX4_isStuck_13

abbrev rm_X4_block : Room := { frames := 1, cells := 0, slots := 0, locals := 22 }
theorem k_X4_block : Card yX4_block cX4_block 3 (some .int) 1 := ⟨gw_63, gw_2, by decide +kernel, by decide +kernel⟩
set_option maxHeartbeats 4000000 in
set_option maxRecDepth 20000 in
theorem c_X4_block (l : Launch) {Z : Gm} (hA : AA Z) {V : Nat → St} {V' : Nat → St} {S : St} (hV : V 0 = S) (x : Int32) (h1 : ¬ x < 1) (h9 : x ≤ 9) (hb0 : ¬ S 2 0 0 < 0) (hb : S 2 0 0 < 16) (hV' : upL V 0 (blockF S x) = V') : Met l yX4_block (.code yX4_block cX4_block 3 (some .int) :: gG) rm_X4_block (PW Z V [.ref (ad Z 0), .int x]) (QX Z (some (.int (S 2 0 0))) V') 0 0 (inW Z) := by
  refine met_of (by decide +kernel) (Nat.le_of_ble_eq_true rfl) ?_
  intro p e s m args below meth c ls E hr hlk hml hP hl
  have E : EE Z p s m args c cX4_block RX4 := E
  have hl : lv_has ls 3 [(0, .ref (ad Z 0)), (1, .int x)] := hl
  have hS : va_S (inW Z) s.heap s.heap [] := va_S.rf
  refine lv_iload_n E.1 E.2.1 dX4_block_0 rfl (lv_at hl 1 rfl) ?_
  refine lv_iconst (v := 1) E.1 E.2.1 dX4_block_1 (by decide) ?_
  refine lv_bipush (v := 9) E.1 E.2.1 dX4_block_2 (by decide) ?_
  refine go_Pv (run_S (rest := []) E hml hl.1 (c_X4_needWithin l (V := V) x 1 9 h1 h9) k_X4_needWithin ⟨rfl, rfl, Nat.le_of_ble_eq_true rfl, Nat.le_of_ble_eq_true rfl⟩ gw_69 gw_70 hP  rfl rfl (Nat.le_of_ble_eq_true rfl) ⟨Nat.zero_le _, Nat.zero_le _⟩ dX4_block_4) ?_
  refine lv_aload_n E.1 E.2.1 dX4_block_7 rfl (lv_at hl 0 rfl) ?_
  refine g_bay E hP 0 (by decide) gw_13 dX4_block_8 ?_
  refine g_ln (v := .int (S 2 0 0)) E hP hV (show 0 < 2 by decide) 2 (by decide) gw_66 rfl dX4_block_11 ?_
  refine lv_bipush (v := 16) E.1 E.2.1 dX4_block_14 (by decide) ?_
  refine lv_icmp_lt (tgt := 29) E.1 E.2.1 dX4_block_16 (by decide) (fun c_16 => ?_) (fun c_16 => ?_)
  · refine lv_aload_n E.1 E.2.1 dX4_block_29 rfl (lv_at hl 0 rfl) ?_
    refine g_bay E hP 0 (by decide) gw_13 dX4_block_30 ?_
    refine g_ln (v := .int (S 2 0 0)) E hP hV (show 0 < 2 by decide) 2 (by decide) gw_66 rfl dX4_block_33 ?_
    refine lv_istore_n (lv' := [(2, .int (S 2 0 0)), (0, .ref (ad Z 0)), (1, .int x)]) E.1 E.2.1 dX4_block_36 rfl hl (by decide) rfl (fun ls hl => ?_)
    refine lv_aload_n E.1 E.2.1 dX4_block_37 rfl (lv_at hl 1 rfl) ?_
    refine g_bay E hP 0 (by decide) gw_13 dX4_block_38 ?_
    refine g_ln E hP hV (show 0 < 2 by decide) 1 (by decide) gw_67 rfl dX4_block_41 ?_
    refine lv_iload_n E.1 E.2.1 dX4_block_44 rfl (lv_at hl 0 rfl) ?_
    have hin_45 : vp_in (S 2 0 0) 16 := vinL hb0 hb (by decide)
    refine a_bk (k := ((S 2 0 0).toNatClampNeg)) E hP (show 0 < 2 by decide) rfl hin_45 dX4_block_45 ?_
    refine lv_iload_n E.1 E.2.1 dX4_block_46 rfl (lv_at hl 2 rfl) ?_
    refine p_bk E hP hA hS hV (show 0 < 2 by decide) (vp_lt hin_45) 0 (by decide) gw_68 (V' := upL V 0 (up S 10 ((S 2 0 0).toNatClampNeg) 0 x)) rfl dX4_block_47 (fun H locs hP hS => ?_)
    refine lv_aload_n E.1 E.2.1 dX4_block_50 rfl (lv_at hl 1 rfl) ?_
    refine g_bay E hP 0 (by decide) gw_13 dX4_block_51 ?_
    refine lv_iload_n E.1 E.2.1 dX4_block_54 rfl (lv_at hl 0 rfl) ?_
    refine lv_iconst (v := 1) E.1 E.2.1 dX4_block_55 (by decide) ?_
    refine lv_iadd E.1 E.2.1 dX4_block_56 ?_
    refine p_ln E hP hA hS (upL_same V 0 (up S 10 ((S 2 0 0).toNatClampNeg) 0 x)) (show 0 < 2 by decide) 2 (by decide) gw_66 (V' := upL V 0 (up (up S 10 ((S 2 0 0).toNatClampNeg) 0 x) 2 0 0 ((S 2 0 0) + 1))) (upL_upL V 0 _ _) dX4_block_57 (fun H locs hP hS => ?_)
    refine lv_iload_n E.1 E.2.1 dX4_block_60 rfl (lv_at hl 0 rfl) ?_
    exact e_iX E hr hlk hP hS (fin1 hV' (by rfl)) rfl dX4_block_61
  · exact absurd hb c_16

abbrev rm_X4_route : Room := { frames := 2, cells := 0, slots := 0, locals := 42 }
theorem k_X4_route : Card yX4_route cX4_route 6 (some .int) 4 := ⟨gw_77, gw_2, by decide +kernel, by decide +kernel⟩
set_option maxHeartbeats 4000000 in
set_option maxRecDepth 20000 in
theorem c_X4_route (l : Launch) {Z : Gm} (hA : AA Z) {V : Nat → St} {V' : Nat → St} {S : St} (hV : V 0 = S) (a b x z : Int32) (a0 : ¬ a < 0) (a6 : a < 6) (b0 : ¬ b < 0) (b6 : b < 6) (h0 : ¬ x < 0) (h1 : x < S 2 0 0) (hab : ¬ a = b) (hz : z = 0 ∨ z = 1) (hr0 : ¬ S 4 0 0 < 0) (hrc : S 4 0 0 < 16) (hV' : upL V 0 (routeF S a b x z) = V') : Met l yX4_route (.code yX4_route cX4_route 6 (some .int) :: gG) rm_X4_route (PW Z V [.ref (ad Z 0), .int a, .int b, .int x, .int z]) (QX Z (some (.int (S 4 0 0))) V') 0 0 (inW Z) := by
  refine met_of (by decide +kernel) (Nat.le_of_ble_eq_true rfl) ?_
  intro p e s m args below meth c ls E hr hlk hml hP hl
  have E : EE Z p s m args c cX4_route RX4 := E
  have hl : lv_has ls 6 [(0, .ref (ad Z 0)), (1, .int a), (2, .int b), (3, .int x), (4, .int z)] := hl
  have hS : va_S (inW Z) s.heap s.heap [] := va_S.rf
  refine lv_iload_n E.1 E.2.1 dX4_route_0 rfl (lv_at hl 1 rfl) ?_
  refine go_Pv (run_S (rest := []) E hml hl.1 (c_X4_needStation l (V := V) a a0 a6) k_X4_needStation ⟨rfl, rfl, Nat.le_of_ble_eq_true rfl, Nat.le_of_ble_eq_true rfl⟩ gw_80 gw_81 hP  rfl rfl (Nat.le_of_ble_eq_true rfl) ⟨Nat.zero_le _, Nat.zero_le _⟩ dX4_route_1) ?_
  refine lv_iload_n E.1 E.2.1 dX4_route_4 rfl (lv_at hl 2 rfl) ?_
  refine go_Pv (run_S (rest := []) E hml hl.1 (c_X4_needStation l (V := V) b b0 b6) k_X4_needStation ⟨rfl, rfl, Nat.le_of_ble_eq_true rfl, Nat.le_of_ble_eq_true rfl⟩ gw_80 gw_81 hP  rfl rfl (Nat.le_of_ble_eq_true rfl) ⟨Nat.zero_le _, Nat.zero_le _⟩ dX4_route_5) ?_
  refine lv_aload_n E.1 E.2.1 dX4_route_8 rfl (lv_at hl 0 rfl) ?_
  refine lv_iload_n E.1 E.2.1 dX4_route_9 rfl (lv_at hl 3 rfl) ?_
  refine go_Pv (run_V (rest := []) E hml hl.1 (c_X4_needBlock l  hV x h0 h1) k_X4_needBlock ⟨rfl, rfl, Nat.le_of_ble_eq_true rfl, Nat.le_of_ble_eq_true rfl⟩ gw_88 gw_89 gw_90 hP (rv_bay E hP) rfl rfl (Nat.le_of_ble_eq_true rfl) ⟨Nat.zero_le _, Nat.zero_le _⟩ dX4_route_10) ?_
  refine lv_iload_n E.1 E.2.1 dX4_route_13 rfl (lv_at hl 1 rfl) ?_
  refine lv_iload_n E.1 E.2.1 dX4_route_14 rfl (lv_at hl 2 rfl) ?_
  refine lv_icmp_ne (tgt := 28) E.1 E.2.1 dX4_route_15 (by decide) (fun c_15 => ?_) (fun c_15 => ?_)
  · refine lv_aload_n E.1 E.2.1 dX4_route_28 rfl (lv_at hl 0 rfl) ?_
    refine g_bay E hP 0 (by decide) gw_13 dX4_route_29 ?_
    refine g_ln (v := .int (S 4 0 0)) E hP hV (show 0 < 2 by decide) 4 (by decide) gw_78 rfl dX4_route_32 ?_
    refine lv_bipush (v := 16) E.1 E.2.1 dX4_route_35 (by decide) ?_
    refine lv_icmp_lt (tgt := 50) E.1 E.2.1 dX4_route_37 (by decide) (fun c_37 => ?_) (fun c_37 => ?_)
    · refine lv_aload_n E.1 E.2.1 dX4_route_50 rfl (lv_at hl 0 rfl) ?_
      refine g_bay E hP 0 (by decide) gw_13 dX4_route_51 ?_
      refine g_ln (v := .int (S 4 0 0)) E hP hV (show 0 < 2 by decide) 4 (by decide) gw_78 rfl dX4_route_54 ?_
      refine lv_istore (lv' := [(5, .int (S 4 0 0)), (0, .ref (ad Z 0)), (1, .int a), (2, .int b), (3, .int x), (4, .int z)]) E.1 E.2.1 dX4_route_57 hl (by decide) rfl (fun ls hl => ?_)
      refine lv_aload_n E.1 E.2.1 dX4_route_59 rfl (lv_at hl 1 rfl) ?_
      refine g_bay E hP 0 (by decide) gw_13 dX4_route_60 ?_
      refine g_ln E hP hV (show 0 < 2 by decide) 3 (by decide) gw_79 rfl dX4_route_63 ?_
      refine lv_iload E.1 E.2.1 dX4_route_66 (lv_at hl 0 rfl) ?_
      have hin_68 : vp_in (S 4 0 0) 16 := vinL hr0 hrc (by decide)
      refine a_rt (k := ((S 4 0 0).toNatClampNeg)) E hP (show 0 < 2 by decide) rfl hin_68 dX4_route_68 ?_
      refine lv_iload_n E.1 E.2.1 dX4_route_69 rfl (lv_at hl 2 rfl) ?_
      refine lv_iload_n E.1 E.2.1 dX4_route_70 rfl (lv_at hl 3 rfl) ?_
      refine lv_iload E.1 E.2.1 dX4_route_71 (lv_at hl 5 rfl) ?_
      refine go_Xv (run_V (rest := []) E hml hl.1 (c_X2_lay l hA (V' := upL V 0 (layF S ((S 4 0 0).toNatClampNeg) a b z)) hV (show 0 < 2 by decide) (vp_lt hin_68) a b z hz rfl) k_X2_lay ⟨rfl, rfl, Nat.le_of_ble_eq_true rfl, Nat.le_of_ble_eq_true rfl⟩ gw_92 gw_93 gw_94 hP (rv_rt E hP (show 0 < 2 by decide) (vp_lt hin_68)) rfl rfl (Nat.le_of_ble_eq_true rfl) ⟨Nat.zero_le _, Nat.zero_le _⟩ dX4_route_73) hS (fun H locs hP hS => ?_)
      refine lv_aload_n E.1 E.2.1 dX4_route_76 rfl (lv_at hl 1 rfl) ?_
      refine g_bay E hP 0 (by decide) gw_13 dX4_route_77 ?_
      refine g_ln E hP (upL_same V 0 (layF S ((S 4 0 0).toNatClampNeg) a b z)) (show 0 < 2 by decide) 3 (by decide) gw_79 rfl dX4_route_80 ?_
      refine lv_iload E.1 E.2.1 dX4_route_83 (lv_at hl 0 rfl) ?_
      have hin_85 : vp_in (S 4 0 0) 16 := vinL hr0 hrc (by decide)
      refine a_rt (k := ((S 4 0 0).toNatClampNeg)) E hP (show 0 < 2 by decide) rfl hin_85 dX4_route_85 ?_
      refine lv_iload_n E.1 E.2.1 dX4_route_86 rfl (lv_at hl 4 rfl) ?_
      refine go_Xv (run_V (rest := []) E hml hl.1 (c_X2_addBlock l hA (V' := upL V 0 (addBlockF (layF S ((S 4 0 0).toNatClampNeg) a b z) ((S 4 0 0).toNatClampNeg) x)) (upL_same V 0 (layF S ((S 4 0 0).toNatClampNeg) a b z)) (show 0 < 2 by decide) (vp_lt hin_85) x (upL_upL V 0 _ _)) k_X2_addBlock ⟨rfl, rfl, Nat.le_of_ble_eq_true rfl, Nat.le_of_ble_eq_true rfl⟩ gw_100 gw_101 gw_102 hP (rv_rt E hP (show 0 < 2 by decide) (vp_lt hin_85)) rfl rfl (Nat.le_of_ble_eq_true rfl) ⟨Nat.zero_le _, Nat.zero_le _⟩ dX4_route_87) hS (fun H locs hP hS => ?_)
      refine lv_aload_n E.1 E.2.1 dX4_route_90 rfl (lv_at hl 1 rfl) ?_
      refine g_bay E hP 0 (by decide) gw_13 dX4_route_91 ?_
      refine lv_iload E.1 E.2.1 dX4_route_94 (lv_at hl 0 rfl) ?_
      refine lv_iconst (v := 1) E.1 E.2.1 dX4_route_96 (by decide) ?_
      refine lv_iadd E.1 E.2.1 dX4_route_97 ?_
      refine p_ln E hP hA hS (upL_same V 0 (addBlockF (layF S ((S 4 0 0).toNatClampNeg) a b z) ((S 4 0 0).toNatClampNeg) x)) (show 0 < 2 by decide) 4 (by decide) gw_78 (V' := upL V 0 (up (addBlockF (layF S ((S 4 0 0).toNatClampNeg) a b z) ((S 4 0 0).toNatClampNeg) x) 4 0 0 ((S 4 0 0) + 1))) (upL_upL V 0 _ _) dX4_route_98 (fun H locs hP hS => ?_)
      refine lv_iload E.1 E.2.1 dX4_route_101 (lv_at hl 0 rfl) ?_
      exact e_iX E hr hlk hP hS (fin1 hV' (by rfl)) rfl dX4_route_103
    · exact absurd hrc c_37
  · exact absurd c_15 hab

abbrev rm_X4_over : Room := { frames := 2, cells := 0, slots := 0, locals := 43 }
theorem k_X4_over : Card yX4_over cX4_over 4 (some .int) 2 := ⟨gw_138, gw_2, by decide +kernel, by decide +kernel⟩
set_option maxHeartbeats 4000000 in
set_option maxRecDepth 20000 in
theorem c_X4_over (l : Launch) {Z : Gm} (hA : AA Z) {V : Nat → St} {V' : Nat → St} {S : St} (hV : V 0 = S) (x : Int32) (h0 : ¬ x < 0) (h1 : x < S 4 0 0) (y : Int32) (y0 : ¬ y < 0) (y1 : y < S 2 0 0) (hnb : hasBlockF S x.toNatClampNeg y (S 23 x.toNatClampNeg 0).toNatClampNeg = false) (hc : ¬ 5 ≤ S 23 x.toNatClampNeg 0) (hu : inUseF S x (nT S) = false) (hL : Lim S) (hV' : upL V 0 (addBlockF S x.toNatClampNeg y) = V') : Met l yX4_over (.code yX4_over cX4_over 4 (some .int) :: gG) rm_X4_over (PW Z V [.ref (ad Z 0), .int x, .int y]) (QX Z (some (.int ((addBlockF S x.toNatClampNeg y) 23 x.toNatClampNeg 0))) V') 0 0 (inW Z) := by
  refine met_of (by decide +kernel) (Nat.le_of_ble_eq_true rfl) ?_
  intro p e s m args below meth c ls E hr hlk hml hP hl
  have E : EE Z p s m args c cX4_over RX4 := E
  have hl : lv_has ls 4 [(0, .ref (ad Z 0)), (1, .int x), (2, .int y)] := hl
  have hS : va_S (inW Z) s.heap s.heap [] := va_S.rf
  have hT := hL.2.2
  have hR := hL.2.1
  have hB := hL.1
  refine lv_aload_n E.1 E.2.1 dX4_over_0 rfl (lv_at hl 0 rfl) ?_
  refine lv_iload_n E.1 E.2.1 dX4_over_1 rfl (lv_at hl 1 rfl) ?_
  refine go_Pv (run_V (rest := []) E hml hl.1 (c_X4_needRoute l  hV x h0 h1) k_X4_needRoute ⟨rfl, rfl, Nat.le_of_ble_eq_true rfl, Nat.le_of_ble_eq_true rfl⟩ gw_112 gw_113 gw_114 hP (rv_bay E hP) rfl rfl (Nat.le_of_ble_eq_true rfl) ⟨Nat.zero_le _, Nat.zero_le _⟩ dX4_over_2) ?_
  refine lv_aload_n E.1 E.2.1 dX4_over_5 rfl (lv_at hl 0 rfl) ?_
  refine lv_iload_n E.1 E.2.1 dX4_over_6 rfl (lv_at hl 2 rfl) ?_
  refine go_Pv (run_V (rest := []) E hml hl.1 (c_X4_needBlock l  hV y y0 y1) k_X4_needBlock ⟨rfl, rfl, Nat.le_of_ble_eq_true rfl, Nat.le_of_ble_eq_true rfl⟩ gw_88 gw_89 gw_90 hP (rv_bay E hP) rfl rfl (Nat.le_of_ble_eq_true rfl) ⟨Nat.zero_le _, Nat.zero_le _⟩ dX4_over_7) ?_
  refine lv_aload_n E.1 E.2.1 dX4_over_10 rfl (lv_at hl 0 rfl) ?_
  refine g_bay E hP 0 (by decide) gw_13 dX4_over_11 ?_
  refine g_ln E hP hV (show 0 < 2 by decide) 3 (by decide) gw_79 rfl dX4_over_14 ?_
  refine lv_iload_n E.1 E.2.1 dX4_over_17 rfl (lv_at hl 1 rfl) ?_
  have hin_18 : vp_in x 16 := vinL h0 h1 (clamp_le hR)
  refine a_rt (k := (x.toNatClampNeg)) E hP (show 0 < 2 by decide) rfl hin_18 dX4_over_18 ?_
  refine lv_astore_n (lv' := [(3, .ref (ad Z (cRt 0 (x.toNatClampNeg)))), (0, .ref (ad Z 0)), (1, .int x), (2, .int y)]) E.1 E.2.1 dX4_over_19 rfl hl (by decide) rfl (fun ls hl => ?_)
  refine lv_aload_n E.1 E.2.1 dX4_over_20 rfl (lv_at hl 0 rfl) ?_
  refine lv_iload_n E.1 E.2.1 dX4_over_21 rfl (lv_at hl 3 rfl) ?_
  refine go_Pi (run_V (rest := []) E hml hl.1 (c_X2_hasBlock l  hV (show 0 < 2 by decide) (vp_lt hin_18) y) k_X2_hasBlock ⟨rfl, rfl, Nat.le_of_ble_eq_true rfl, Nat.le_of_ble_eq_true rfl⟩ gw_139 gw_140 gw_141 hP (rv_rt E hP (show 0 < 2 by decide) (vp_lt hin_18)) rfl rfl (Nat.le_of_ble_eq_true rfl) ⟨Nat.zero_le _, Nat.zero_le _⟩ dX4_over_22) ?_
  refine lv_if_eq (tgt := 38) E.1 E.2.1 dX4_over_25 (by decide) (fun c_25 => ?_) (fun c_25 => ?_)
  · refine lv_aload_n E.1 E.2.1 dX4_over_38 rfl (lv_at hl 0 rfl) ?_
    refine g_rt (v := .int (S 23 (x.toNatClampNeg) 0)) E hP hV (show 0 < 2 by decide) (vp_lt hin_18) 3 (by decide) gw_110 rfl dX4_over_39 ?_
    refine lv_iconst (v := 5) E.1 E.2.1 dX4_over_42 (by decide) ?_
    refine lv_icmp_ge (tgt := 57) E.1 E.2.1 dX4_over_43 (by decide) (fun c_43 => ?_) (fun c_43 => ?_)
    · exact absurd c_43 hc
    · refine lv_aload_n E.1 E.2.1 dX4_over_46 rfl (lv_at hl 1 rfl) ?_
      refine g_bay E hP 0 (by decide) gw_13 dX4_over_47 ?_
      refine lv_iload_n E.1 E.2.1 dX4_over_50 rfl (lv_at hl 2 rfl) ?_
      refine go_Pi (run_V (rest := []) E hml hl.1 (c_X1_isInUse l  hV (show 0 < 2 by decide) x hL) k_X1_isInUse ⟨rfl, rfl, Nat.le_of_ble_eq_true rfl, Nat.le_of_ble_eq_true rfl⟩ gw_144 gw_145 gw_146 hP (rv_ln E hP (show 0 < 2 by decide)) rfl rfl (Nat.le_of_ble_eq_true rfl) ⟨Nat.zero_le _, Nat.zero_le _⟩ dX4_over_51) ?_
      refine lv_if_eq (tgt := 67) E.1 E.2.1 dX4_over_54 (by decide) (fun c_54 => ?_) (fun c_54 => ?_)
      · refine lv_aload_n E.1 E.2.1 dX4_over_67 rfl (lv_at hl 0 rfl) ?_
        refine lv_iload_n E.1 E.2.1 dX4_over_68 rfl (lv_at hl 3 rfl) ?_
        refine go_Xv (run_V (rest := []) E hml hl.1 (c_X2_addBlock l hA (V' := upL V 0 (addBlockF S (x.toNatClampNeg) y)) hV (show 0 < 2 by decide) (vp_lt hin_18) y rfl) k_X2_addBlock ⟨rfl, rfl, Nat.le_of_ble_eq_true rfl, Nat.le_of_ble_eq_true rfl⟩ gw_100 gw_101 gw_102 hP (rv_rt E hP (show 0 < 2 by decide) (vp_lt hin_18)) rfl rfl (Nat.le_of_ble_eq_true rfl) ⟨Nat.zero_le _, Nat.zero_le _⟩ dX4_over_69) hS (fun H locs hP hS => ?_)
        refine lv_aload_n E.1 E.2.1 dX4_over_72 rfl (lv_at hl 0 rfl) ?_
        refine g_rt (v := .int ((addBlockF S (x.toNatClampNeg) y) 23 (x.toNatClampNeg) 0)) E hP (upL_same V 0 (addBlockF S (x.toNatClampNeg) y)) (show 0 < 2 by decide) (vp_lt hin_18) 3 (by decide) gw_110 rfl dX4_over_73 ?_
        exact e_iX E hr hlk hP hS (fin1 hV' (by rfl)) rfl dX4_over_76
      · exact absurd (by rw [hu]; rfl) c_54
  · exact absurd (by rw [hnb]; rfl) c_25

abbrev rm_X4_order : Room := { frames := 1, cells := 0, slots := 0, locals := 22 }
theorem k_X4_order : Card yX4_order cX4_order 4 (some .int) 2 := ⟨gw_216, gw_2, by decide +kernel, by decide +kernel⟩
set_option maxHeartbeats 4000000 in
set_option maxRecDepth 20000 in
theorem c_X4_order (l : Launch) {Z : Gm} (hA : AA Z) {V : Nat → St} {V' : Nat → St} {S : St} (hV : V 0 = S) (a b : Int32) (a0 : ¬ a < 0) (a2 : a ≤ 2) (b0 : ¬ b < 0) (b9 : b ≤ 9) (hV' : upL V 0 (orderF S a b) = V') : Met l yX4_order (.code yX4_order cX4_order 4 (some .int) :: gG) rm_X4_order (PW Z V [.ref (ad Z 0), .int a, .int b]) (QX Z (some (.int (S 7 0 0))) V') 0 0 (inW Z) := by
  refine met_of (by decide +kernel) (Nat.le_of_ble_eq_true rfl) ?_
  intro p e s m args below meth c ls E hr hlk hml hP hl
  have E : EE Z p s m args c cX4_order RX4 := E
  have hl : lv_has ls 4 [(0, .ref (ad Z 0)), (1, .int a), (2, .int b)] := hl
  have hS : va_S (inW Z) s.heap s.heap [] := va_S.rf
  refine lv_iload_n E.1 E.2.1 dX4_order_0 rfl (lv_at hl 1 rfl) ?_
  refine lv_iconst (v := 0) E.1 E.2.1 dX4_order_1 (by decide) ?_
  refine lv_iconst (v := 2) E.1 E.2.1 dX4_order_2 (by decide) ?_
  refine go_Pv (run_S (rest := []) E hml hl.1 (c_X4_needWithin l (V := V) a 0 2 a0 a2) k_X4_needWithin ⟨rfl, rfl, Nat.le_of_ble_eq_true rfl, Nat.le_of_ble_eq_true rfl⟩ gw_69 gw_70 hP  rfl rfl (Nat.le_of_ble_eq_true rfl) ⟨Nat.zero_le _, Nat.zero_le _⟩ dX4_order_3) ?_
  refine lv_iload_n E.1 E.2.1 dX4_order_6 rfl (lv_at hl 2 rfl) ?_
  refine lv_iconst (v := 0) E.1 E.2.1 dX4_order_7 (by decide) ?_
  refine lv_bipush (v := 9) E.1 E.2.1 dX4_order_8 (by decide) ?_
  refine go_Pv (run_S (rest := []) E hml hl.1 (c_X4_needWithin l (V := V) b 0 9 b0 b9) k_X4_needWithin ⟨rfl, rfl, Nat.le_of_ble_eq_true rfl, Nat.le_of_ble_eq_true rfl⟩ gw_69 gw_70 hP  rfl rfl (Nat.le_of_ble_eq_true rfl) ⟨Nat.zero_le _, Nat.zero_le _⟩ dX4_order_10) ?_
  refine lv_aload_n E.1 E.2.1 dX4_order_13 rfl (lv_at hl 0 rfl) ?_
  refine g_bay E hP 0 (by decide) gw_13 dX4_order_14 ?_
  refine g_ln (v := .int (S 7 0 0)) E hP hV (show 0 < 2 by decide) 7 (by decide) gw_217 rfl dX4_order_17 ?_
  refine lv_istore_n (lv' := [(3, .int (S 7 0 0)), (0, .ref (ad Z 0)), (1, .int a), (2, .int b)]) E.1 E.2.1 dX4_order_20 rfl hl (by decide) rfl (fun ls hl => ?_)
  refine lv_aload_n E.1 E.2.1 dX4_order_21 rfl (lv_at hl 1 rfl) ?_
  refine g_bay E hP 0 (by decide) gw_13 dX4_order_22 ?_
  refine lv_iload_n E.1 E.2.1 dX4_order_25 rfl (lv_at hl 2 rfl) ?_
  refine p_ln E hP hA hS hV (show 0 < 2 by decide) 7 (by decide) gw_217 (V' := upL V 0 (up S 7 0 0 a)) rfl dX4_order_26 (fun H locs hP hS => ?_)
  refine lv_aload_n E.1 E.2.1 dX4_order_29 rfl (lv_at hl 1 rfl) ?_
  refine g_bay E hP 0 (by decide) gw_13 dX4_order_30 ?_
  refine lv_iload_n E.1 E.2.1 dX4_order_33 rfl (lv_at hl 3 rfl) ?_
  refine p_ln E hP hA hS (upL_same V 0 (up S 7 0 0 a)) (show 0 < 2 by decide) 8 (by decide) gw_218 (V' := upL V 0 (up (up S 7 0 0 a) 8 0 0 b)) (upL_upL V 0 _ _) dX4_order_34 (fun H locs hP hS => ?_)
  refine lv_iload_n E.1 E.2.1 dX4_order_37 rfl (lv_at hl 0 rfl) ?_
  exact e_iX E hr hlk hP hS (fin1 hV' (by rfl)) rfl dX4_order_38

abbrev rm_X4_train : Room := { frames := 2, cells := 0, slots := 0, locals := 45 }
theorem k_X4_train : Card yX4_train cX4_train 7 (some .int) 4 := ⟨gw_169, gw_2, by decide +kernel, by decide +kernel⟩
set_option maxHeartbeats 4000000 in
set_option maxRecDepth 20000 in
theorem c_X4_train (l : Launch) {Z : Gm} (hA : AA Z) {V : Nat → St} {V' : Nat → St} {S : St} (hV : V 0 = S) (a b x t : Int32) (a0 : ¬ a < 0) (a9 : a ≤ 9) (b1 : ¬ b < 1) (b3 : b ≤ 3) (h0 : ¬ x < 0) (h1 : x < 6) (t0 : ¬ t < 0) (t9 : t ≤ 9999) (hT0 : ¬ S 6 0 0 < 0) (hT8 : ¬ 8 ≤ S 6 0 0) (hroom : hasRoomF S x = true) (hL : Lim S) (hV' : upL V 0 (trainF S a b x t) = V') : Met l yX4_train (.code yX4_train cX4_train 7 (some .int) :: gG) rm_X4_train (PW Z V [.ref (ad Z 0), .int a, .int b, .int x, .int t]) (QX Z (some (.int (S 6 0 0))) V') 0 0 (inW Z) := by
  refine met_of (by decide +kernel) (Nat.le_of_ble_eq_true rfl) ?_
  intro p e s m args below meth c ls E hr hlk hml hP hl
  have E : EE Z p s m args c cX4_train RX4 := E
  have hl : lv_has ls 7 [(0, .ref (ad Z 0)), (1, .int a), (2, .int b), (3, .int x), (4, .int t)] := hl
  have hS : va_S (inW Z) s.heap s.heap [] := va_S.rf
  have hT := hL.2.2
  have hR := hL.2.1
  have hB := hL.1
  refine lv_iload_n E.1 E.2.1 dX4_train_0 rfl (lv_at hl 3 rfl) ?_
  refine go_Pv (run_S (rest := []) E hml hl.1 (c_X4_needStation l (V := V) x h0 h1) k_X4_needStation ⟨rfl, rfl, Nat.le_of_ble_eq_true rfl, Nat.le_of_ble_eq_true rfl⟩ gw_80 gw_81 hP  rfl rfl (Nat.le_of_ble_eq_true rfl) ⟨Nat.zero_le _, Nat.zero_le _⟩ dX4_train_1) ?_
  refine lv_iload_n E.1 E.2.1 dX4_train_4 rfl (lv_at hl 1 rfl) ?_
  refine lv_iconst (v := 0) E.1 E.2.1 dX4_train_5 (by decide) ?_
  refine lv_bipush (v := 9) E.1 E.2.1 dX4_train_6 (by decide) ?_
  refine go_Pv (run_S (rest := []) E hml hl.1 (c_X4_needWithin l (V := V) a 0 9 a0 a9) k_X4_needWithin ⟨rfl, rfl, Nat.le_of_ble_eq_true rfl, Nat.le_of_ble_eq_true rfl⟩ gw_69 gw_70 hP  rfl rfl (Nat.le_of_ble_eq_true rfl) ⟨Nat.zero_le _, Nat.zero_le _⟩ dX4_train_8) ?_
  refine lv_iload_n E.1 E.2.1 dX4_train_11 rfl (lv_at hl 2 rfl) ?_
  refine lv_iconst (v := 1) E.1 E.2.1 dX4_train_12 (by decide) ?_
  refine lv_iconst (v := 3) E.1 E.2.1 dX4_train_13 (by decide) ?_
  refine go_Pv (run_S (rest := []) E hml hl.1 (c_X4_needWithin l (V := V) b 1 3 b1 b3) k_X4_needWithin ⟨rfl, rfl, Nat.le_of_ble_eq_true rfl, Nat.le_of_ble_eq_true rfl⟩ gw_69 gw_70 hP  rfl rfl (Nat.le_of_ble_eq_true rfl) ⟨Nat.zero_le _, Nat.zero_le _⟩ dX4_train_14) ?_
  refine lv_iload E.1 E.2.1 dX4_train_17 (lv_at hl 4 rfl) ?_
  refine lv_iconst (v := 0) E.1 E.2.1 dX4_train_19 (by decide) ?_
  refine lv_sipush (v := 9999) E.1 E.2.1 dX4_train_20 (by decide) ?_
  refine go_Pv (run_S (rest := []) E hml hl.1 (c_X4_needWithin l (V := V) t 0 9999 t0 t9) k_X4_needWithin ⟨rfl, rfl, Nat.le_of_ble_eq_true rfl, Nat.le_of_ble_eq_true rfl⟩ gw_69 gw_70 hP  rfl rfl (Nat.le_of_ble_eq_true rfl) ⟨Nat.zero_le _, Nat.zero_le _⟩ dX4_train_23) ?_
  refine lv_aload_n E.1 E.2.1 dX4_train_26 rfl (lv_at hl 0 rfl) ?_
  refine g_bay E hP 0 (by decide) gw_13 dX4_train_27 ?_
  refine g_ln (v := .int (S 6 0 0)) E hP hV (show 0 < 2 by decide) 6 (by decide) gw_170 rfl dX4_train_30 ?_
  refine lv_bipush (v := 8) E.1 E.2.1 dX4_train_33 (by decide) ?_
  refine lv_icmp_ge (tgt := 49) E.1 E.2.1 dX4_train_35 (by decide) (fun c_35 => ?_) (fun c_35 => ?_)
  · exact absurd c_35 hT8
  · refine lv_aload_n E.1 E.2.1 dX4_train_38 rfl (lv_at hl 0 rfl) ?_
    refine g_bay E hP 0 (by decide) gw_13 dX4_train_39 ?_
    refine lv_iload_n E.1 E.2.1 dX4_train_42 rfl (lv_at hl 3 rfl) ?_
    refine go_Pi (run_V (rest := []) E hml hl.1 (c_X1_hasRoom l  hV (show 0 < 2 by decide) x hL) k_X1_hasRoom ⟨rfl, rfl, Nat.le_of_ble_eq_true rfl, Nat.le_of_ble_eq_true rfl⟩ gw_177 gw_178 gw_179 hP (rv_ln E hP (show 0 < 2 by decide)) rfl rfl (Nat.le_of_ble_eq_true rfl) ⟨Nat.zero_le _, Nat.zero_le _⟩ dX4_train_43) ?_
    refine lv_if_ne (tgt := 59) E.1 E.2.1 dX4_train_46 (by decide) (fun c_46 => ?_) (fun c_46 => ?_)
    · refine lv_aload_n E.1 E.2.1 dX4_train_59 rfl (lv_at hl 0 rfl) ?_
      refine g_bay E hP 0 (by decide) gw_13 dX4_train_60 ?_
      refine g_ln (v := .int (S 6 0 0)) E hP hV (show 0 < 2 by decide) 6 (by decide) gw_170 rfl dX4_train_63 ?_
      refine lv_istore (lv' := [(5, .int (S 6 0 0)), (0, .ref (ad Z 0)), (1, .int a), (2, .int b), (3, .int x), (4, .int t)]) E.1 E.2.1 dX4_train_66 hl (by decide) rfl (fun ls hl => ?_)
      refine lv_aload_n E.1 E.2.1 dX4_train_68 rfl (lv_at hl 1 rfl) ?_
      refine g_bay E hP 0 (by decide) gw_13 dX4_train_69 ?_
      refine g_ln E hP hV (show 0 < 2 by decide) 5 (by decide) gw_171 rfl dX4_train_72 ?_
      refine lv_iload E.1 E.2.1 dX4_train_75 (lv_at hl 0 rfl) ?_
      have hin_77 : vp_in (S 6 0 0) 8 := vin hT0 hT8 (by decide)
      refine a_tr (k := ((S 6 0 0).toNatClampNeg)) E hP (show 0 < 2 by decide) rfl hin_77 dX4_train_77 ?_
      refine lv_astore (lv' := [(6, .ref (ad Z (cTr 0 ((S 6 0 0).toNatClampNeg)))), (5, .int (S 6 0 0)), (0, .ref (ad Z 0)), (1, .int a), (2, .int b), (3, .int x), (4, .int t)]) E.1 E.2.1 dX4_train_78 hl (by decide) rfl (fun ls hl => ?_)
      refine lv_aload E.1 E.2.1 dX4_train_80 (lv_at hl 0 rfl) ?_
      refine lv_iload_n E.1 E.2.1 dX4_train_82 rfl (lv_at hl 3 rfl) ?_
      refine p_tr E hP hA hS hV (show 0 < 2 by decide) (vp_lt hin_77) 0 (by decide) gw_172 (V' := upL V 0 (up S 30 ((S 6 0 0).toNatClampNeg) 0 a)) rfl dX4_train_83 (fun H locs hP hS => ?_)
      refine lv_aload E.1 E.2.1 dX4_train_86 (lv_at hl 0 rfl) ?_
      refine lv_iload_n E.1 E.2.1 dX4_train_88 rfl (lv_at hl 4 rfl) ?_
      refine p_tr E hP hA hS (upL_same V 0 (up S 30 ((S 6 0 0).toNatClampNeg) 0 a)) (show 0 < 2 by decide) (vp_lt hin_77) 1 (by decide) gw_173 (V' := upL V 0 (up (up S 30 ((S 6 0 0).toNatClampNeg) 0 a) 31 ((S 6 0 0).toNatClampNeg) 0 b)) (upL_upL V 0 _ _) dX4_train_89 (fun H locs hP hS => ?_)
      refine lv_aload E.1 E.2.1 dX4_train_92 (lv_at hl 0 rfl) ?_
      refine lv_iload_n E.1 E.2.1 dX4_train_94 rfl (lv_at hl 5 rfl) ?_
      refine p_tr E hP hA hS (upL_same V 0 (up (up S 30 ((S 6 0 0).toNatClampNeg) 0 a) 31 ((S 6 0 0).toNatClampNeg) 0 b)) (show 0 < 2 by decide) (vp_lt hin_77) 6 (by decide) gw_174 (V' := upL V 0 (up (up (up S 30 ((S 6 0 0).toNatClampNeg) 0 a) 31 ((S 6 0 0).toNatClampNeg) 0 b) 36 ((S 6 0 0).toNatClampNeg) 0 x)) (upL_upL V 0 _ _) dX4_train_95 (fun H locs hP hS => ?_)
      refine lv_aload E.1 E.2.1 dX4_train_98 (lv_at hl 0 rfl) ?_
      refine lv_aload_n E.1 E.2.1 dX4_train_100 rfl (lv_at hl 2 rfl) ?_
      refine g_bay E hP 0 (by decide) gw_13 dX4_train_101 ?_
      refine g_ln (v := .int (S 9 0 0)) E hP (upL_same V 0 (up (up (up S 30 ((S 6 0 0).toNatClampNeg) 0 a) 31 ((S 6 0 0).toNatClampNeg) 0 b) 36 ((S 6 0 0).toNatClampNeg) 0 x)) (show 0 < 2 by decide) 9 (by decide) gw_175 (by first | rfl | simp [fLn, up_f, up_s]) dX4_train_104 ?_
      refine p_tr E hP hA hS (upL_same V 0 (up (up (up S 30 ((S 6 0 0).toNatClampNeg) 0 a) 31 ((S 6 0 0).toNatClampNeg) 0 b) 36 ((S 6 0 0).toNatClampNeg) 0 x)) (show 0 < 2 by decide) (vp_lt hin_77) 7 (by decide) gw_176 (V' := upL V 0 (up (up (up (up S 30 ((S 6 0 0).toNatClampNeg) 0 a) 31 ((S 6 0 0).toNatClampNeg) 0 b) 36 ((S 6 0 0).toNatClampNeg) 0 x) 37 ((S 6 0 0).toNatClampNeg) 0 (S 9 0 0))) (upL_upL V 0 _ _) dX4_train_107 (fun H locs hP hS => ?_)
      refine lv_aload E.1 E.2.1 dX4_train_110 (lv_at hl 0 rfl) ?_
      refine lv_iload_n E.1 E.2.1 dX4_train_112 rfl (lv_at hl 5 rfl) ?_
      refine lv_iload E.1 E.2.1 dX4_train_113 (lv_at hl 6 rfl) ?_
      refine go_Xv (run_V (rest := []) E hml hl.1 (c_X3_addStop l hA (V' := upL V 0 (addStopF (up (up (up (up S 30 ((S 6 0 0).toNatClampNeg) 0 a) 31 ((S 6 0 0).toNatClampNeg) 0 b) 36 ((S 6 0 0).toNatClampNeg) 0 x) 37 ((S 6 0 0).toNatClampNeg) 0 (S 9 0 0)) ((S 6 0 0).toNatClampNeg) x t)) (upL_same V 0 (up (up (up (up S 30 ((S 6 0 0).toNatClampNeg) 0 a) 31 ((S 6 0 0).toNatClampNeg) 0 b) 36 ((S 6 0 0).toNatClampNeg) 0 x) 37 ((S 6 0 0).toNatClampNeg) 0 (S 9 0 0))) (show 0 < 2 by decide) (vp_lt hin_77) x t (upL_upL V 0 _ _)) k_X3_addStop ⟨rfl, rfl, Nat.le_of_ble_eq_true rfl, Nat.le_of_ble_eq_true rfl⟩ gw_183 gw_184 gw_185 hP (rv_tr E hP (show 0 < 2 by decide) (vp_lt hin_77)) rfl rfl (Nat.le_of_ble_eq_true rfl) ⟨Nat.zero_le _, Nat.zero_le _⟩ dX4_train_115) hS (fun H locs hP hS => ?_)
      refine lv_aload_n E.1 E.2.1 dX4_train_118 rfl (lv_at hl 2 rfl) ?_
      refine g_bay E hP 0 (by decide) gw_13 dX4_train_119 ?_
      refine lv_iload E.1 E.2.1 dX4_train_122 (lv_at hl 1 rfl) ?_
      refine lv_iconst (v := 1) E.1 E.2.1 dX4_train_124 (by decide) ?_
      refine lv_iadd E.1 E.2.1 dX4_train_125 ?_
      refine p_ln E hP hA hS (upL_same V 0 (addStopF (up (up (up (up S 30 ((S 6 0 0).toNatClampNeg) 0 a) 31 ((S 6 0 0).toNatClampNeg) 0 b) 36 ((S 6 0 0).toNatClampNeg) 0 x) 37 ((S 6 0 0).toNatClampNeg) 0 (S 9 0 0)) ((S 6 0 0).toNatClampNeg) x t)) (show 0 < 2 by decide) 6 (by decide) gw_170 (V' := upL V 0 (up (addStopF (up (up (up (up S 30 ((S 6 0 0).toNatClampNeg) 0 a) 31 ((S 6 0 0).toNatClampNeg) 0 b) 36 ((S 6 0 0).toNatClampNeg) 0 x) 37 ((S 6 0 0).toNatClampNeg) 0 (S 9 0 0)) ((S 6 0 0).toNatClampNeg) x t) 6 0 0 ((S 6 0 0) + 1))) (upL_upL V 0 _ _) dX4_train_126 (fun H locs hP hS => ?_)
      refine lv_iload E.1 E.2.1 dX4_train_129 (lv_at hl 1 rfl) ?_
      exact e_iX E hr hlk hP hS (fin1 hV' (by rfl)) rfl dX4_train_131
    · exact absurd (by rw [hroom] at c_46; exact c_46) (by decide)

abbrev rm_X4_stop : Room := { frames := 2, cells := 0, slots := 0, locals := 42 }
theorem k_X4_stop : Card yX4_stop cX4_stop 6 (some .int) 3 := ⟨gw_208, gw_2, by decide +kernel, by decide +kernel⟩
set_option maxHeartbeats 4000000 in
set_option maxRecDepth 20000 in
theorem c_X4_stop (l : Launch) {Z : Gm} (hA : AA Z) {V : Nat → St} {V' : Nat → St} {S : St} (hV : V 0 = S) (x : Int32) (h0 : ¬ x < 0) (h1 : x < S 6 0 0) (y t : Int32) (y0 : ¬ y < 0) (y6 : y < 6) (t0 : ¬ t < 0) (t9 : t ≤ 9999) (ht : ¬ t < timeF S x.toNatClampNeg (S 32 x.toNatClampNeg 0 - 1)) (hy : ¬ y = stationF S x.toNatClampNeg (S 32 x.toNatClampNeg 0 - 1)) (h8 : ¬ 8 ≤ S 32 x.toNatClampNeg 0) (hd : doneF S x.toNatClampNeg = false) (hL : Lim S) (hV' : upL V 0 (addStopF S x.toNatClampNeg y t) = V') : Met l yX4_stop (.code yX4_stop cX4_stop 6 (some .int) :: gG) rm_X4_stop (PW Z V [.ref (ad Z 0), .int x, .int y, .int t]) (QX Z (some (.int ((addStopF S x.toNatClampNeg y t) 32 x.toNatClampNeg 0))) V') 0 0 (inW Z) := by
  refine met_of (by decide +kernel) (Nat.le_of_ble_eq_true rfl) ?_
  intro p e s m args below meth c ls E hr hlk hml hP hl
  have E : EE Z p s m args c cX4_stop RX4 := E
  have hl : lv_has ls 6 [(0, .ref (ad Z 0)), (1, .int x), (2, .int y), (3, .int t)] := hl
  have hS : va_S (inW Z) s.heap s.heap [] := va_S.rf
  have hT := hL.2.2
  have hR := hL.2.1
  have hB := hL.1
  refine lv_aload_n E.1 E.2.1 dX4_stop_0 rfl (lv_at hl 0 rfl) ?_
  refine lv_iload_n E.1 E.2.1 dX4_stop_1 rfl (lv_at hl 1 rfl) ?_
  refine go_Pv (run_V (rest := []) E hml hl.1 (c_X4_needTrain l  hV x h0 h1) k_X4_needTrain ⟨rfl, rfl, Nat.le_of_ble_eq_true rfl, Nat.le_of_ble_eq_true rfl⟩ gw_193 gw_194 gw_195 hP (rv_bay E hP) rfl rfl (Nat.le_of_ble_eq_true rfl) ⟨Nat.zero_le _, Nat.zero_le _⟩ dX4_stop_2) ?_
  refine lv_iload_n E.1 E.2.1 dX4_stop_5 rfl (lv_at hl 2 rfl) ?_
  refine go_Pv (run_S (rest := []) E hml hl.1 (c_X4_needStation l (V := V) y y0 y6) k_X4_needStation ⟨rfl, rfl, Nat.le_of_ble_eq_true rfl, Nat.le_of_ble_eq_true rfl⟩ gw_80 gw_81 hP  rfl rfl (Nat.le_of_ble_eq_true rfl) ⟨Nat.zero_le _, Nat.zero_le _⟩ dX4_stop_6) ?_
  refine lv_aload_n E.1 E.2.1 dX4_stop_9 rfl (lv_at hl 0 rfl) ?_
  refine g_bay E hP 0 (by decide) gw_13 dX4_stop_10 ?_
  refine g_ln E hP hV (show 0 < 2 by decide) 5 (by decide) gw_171 rfl dX4_stop_13 ?_
  refine lv_iload_n E.1 E.2.1 dX4_stop_16 rfl (lv_at hl 1 rfl) ?_
  have hin_17 : vp_in x 8 := vinL h0 h1 (clamp_le hT)
  refine a_tr (k := (x.toNatClampNeg)) E hP (show 0 < 2 by decide) rfl hin_17 dX4_stop_17 ?_
  refine lv_astore (lv' := [(4, .ref (ad Z (cTr 0 (x.toNatClampNeg)))), (0, .ref (ad Z 0)), (1, .int x), (2, .int y), (3, .int t)]) E.1 E.2.1 dX4_stop_18 hl (by decide) rfl (fun ls hl => ?_)
  refine lv_aload E.1 E.2.1 dX4_stop_20 (lv_at hl 0 rfl) ?_
  refine g_tr (v := .int (S 32 (x.toNatClampNeg) 0)) E hP hV (show 0 < 2 by decide) (vp_lt hin_17) 2 (by decide) gw_192 rfl dX4_stop_22 ?_
  refine lv_iconst (v := 1) E.1 E.2.1 dX4_stop_25 (by decide) ?_
  refine lv_isub E.1 E.2.1 dX4_stop_26 ?_
  refine lv_istore (lv' := [(5, .int ((S 32 (x.toNatClampNeg) 0) - 1)), (4, .ref (ad Z (cTr 0 (x.toNatClampNeg)))), (0, .ref (ad Z 0)), (1, .int x), (2, .int y), (3, .int t)]) E.1 E.2.1 dX4_stop_27 hl (by decide) rfl (fun ls hl => ?_)
  refine lv_iload_n E.1 E.2.1 dX4_stop_29 rfl (lv_at hl 5 rfl) ?_
  refine lv_iconst (v := 0) E.1 E.2.1 dX4_stop_30 (by decide) ?_
  refine lv_sipush (v := 9999) E.1 E.2.1 dX4_stop_31 (by decide) ?_
  refine go_Pv (run_S (rest := []) E hml hl.1 (c_X4_needWithin l (V := V) t 0 9999 t0 t9) k_X4_needWithin ⟨rfl, rfl, Nat.le_of_ble_eq_true rfl, Nat.le_of_ble_eq_true rfl⟩ gw_69 gw_70 hP  rfl rfl (Nat.le_of_ble_eq_true rfl) ⟨Nat.zero_le _, Nat.zero_le _⟩ dX4_stop_34) ?_
  refine lv_iload_n E.1 E.2.1 dX4_stop_37 rfl (lv_at hl 5 rfl) ?_
  refine lv_aload E.1 E.2.1 dX4_stop_38 (lv_at hl 1 rfl) ?_
  refine lv_iload E.1 E.2.1 dX4_stop_40 (lv_at hl 0 rfl) ?_
  refine go_Pi (run_V (rest := [.int t]) E hml hl.1 (c_X3_timeOf l  hV (show 0 < 2 by decide) (vp_lt hin_17) ((S 32 (x.toNatClampNeg) 0) - 1)) k_X3_timeOf ⟨rfl, rfl, Nat.le_of_ble_eq_true rfl, Nat.le_of_ble_eq_true rfl⟩ gw_197 gw_198 gw_199 hP (rv_tr E hP (show 0 < 2 by decide) (vp_lt hin_17)) rfl rfl (Nat.le_of_ble_eq_true rfl) ⟨Nat.zero_le _, Nat.zero_le _⟩ dX4_stop_42) ?_
  refine lv_icmp_lt (tgt := 59) E.1 E.2.1 dX4_stop_45 (by decide) (fun c_45 => ?_) (fun c_45 => ?_)
  · exact absurd c_45 ht
  · refine lv_iload_n E.1 E.2.1 dX4_stop_48 rfl (lv_at hl 4 rfl) ?_
    refine lv_aload E.1 E.2.1 dX4_stop_49 (lv_at hl 1 rfl) ?_
    refine lv_iload E.1 E.2.1 dX4_stop_51 (lv_at hl 0 rfl) ?_
    refine go_Pi (run_V (rest := [.int y]) E hml hl.1 (c_X3_stationOf l  hV (show 0 < 2 by decide) (vp_lt hin_17) ((S 32 (x.toNatClampNeg) 0) - 1)) k_X3_stationOf ⟨rfl, rfl, Nat.le_of_ble_eq_true rfl, Nat.le_of_ble_eq_true rfl⟩ gw_201 gw_202 gw_203 hP (rv_tr E hP (show 0 < 2 by decide) (vp_lt hin_17)) rfl rfl (Nat.le_of_ble_eq_true rfl) ⟨Nat.zero_le _, Nat.zero_le _⟩ dX4_stop_53) ?_
    refine lv_icmp_ne (tgt := 69) E.1 E.2.1 dX4_stop_56 (by decide) (fun c_56 => ?_) (fun c_56 => ?_)
    · refine lv_aload E.1 E.2.1 dX4_stop_69 (lv_at hl 1 rfl) ?_
      refine g_tr (v := .int (S 32 (x.toNatClampNeg) 0)) E hP hV (show 0 < 2 by decide) (vp_lt hin_17) 2 (by decide) gw_192 rfl dX4_stop_71 ?_
      refine lv_bipush (v := 8) E.1 E.2.1 dX4_stop_74 (by decide) ?_
      refine lv_icmp_ge (tgt := 87) E.1 E.2.1 dX4_stop_76 (by decide) (fun c_76 => ?_) (fun c_76 => ?_)
      · exact absurd c_76 h8
      · refine lv_aload E.1 E.2.1 dX4_stop_79 (lv_at hl 1 rfl) ?_
        refine go_Pi (run_V (rest := []) E hml hl.1 (c_X3_isDone l  hV (show 0 < 2 by decide) (vp_lt hin_17)) k_X3_isDone ⟨rfl, rfl, Nat.le_of_ble_eq_true rfl, Nat.le_of_ble_eq_true rfl⟩ gw_209 gw_210 gw_211 hP (rv_tr E hP (show 0 < 2 by decide) (vp_lt hin_17)) rfl rfl (Nat.le_of_ble_eq_true rfl) ⟨Nat.zero_le _, Nat.zero_le _⟩ dX4_stop_81) ?_
        refine lv_if_eq (tgt := 97) E.1 E.2.1 dX4_stop_84 (by decide) (fun c_84 => ?_) (fun c_84 => ?_)
        · refine lv_aload E.1 E.2.1 dX4_stop_97 (lv_at hl 1 rfl) ?_
          refine lv_iload_n E.1 E.2.1 dX4_stop_99 rfl (lv_at hl 4 rfl) ?_
          refine lv_iload_n E.1 E.2.1 dX4_stop_100 rfl (lv_at hl 5 rfl) ?_
          refine go_Xv (run_V (rest := []) E hml hl.1 (c_X3_addStop l hA (V' := upL V 0 (addStopF S (x.toNatClampNeg) y t)) hV (show 0 < 2 by decide) (vp_lt hin_17) y t rfl) k_X3_addStop ⟨rfl, rfl, Nat.le_of_ble_eq_true rfl, Nat.le_of_ble_eq_true rfl⟩ gw_183 gw_184 gw_185 hP (rv_tr E hP (show 0 < 2 by decide) (vp_lt hin_17)) rfl rfl (Nat.le_of_ble_eq_true rfl) ⟨Nat.zero_le _, Nat.zero_le _⟩ dX4_stop_101) hS (fun H locs hP hS => ?_)
          refine lv_aload E.1 E.2.1 dX4_stop_104 (lv_at hl 1 rfl) ?_
          refine g_tr (v := .int ((addStopF S (x.toNatClampNeg) y t) 32 (x.toNatClampNeg) 0)) E hP (upL_same V 0 (addStopF S (x.toNatClampNeg) y t)) (show 0 < 2 by decide) (vp_lt hin_17) 2 (by decide) gw_192 rfl dX4_stop_106 ?_
          exact e_iX E hr hlk hP hS (fin1 hV' (by rfl)) rfl dX4_stop_109
        · exact absurd (by rw [hd]; rfl) c_84
    · exact absurd c_56 hy

abbrev rm_X4_tick : Room := { frames := 6, cells := 0, slots := 0, locals := 138 }
theorem k_X4_tick : Card yX4_tick cX4_tick 2 (some .int) 1 := ⟨gw_479, gw_2, by decide +kernel, by decide +kernel⟩
set_option maxHeartbeats 4000000 in
set_option maxRecDepth 20000 in
theorem c_X4_tick (l : Launch) {Z : Gm} (hA : AA Z) {V : Nat → St} {V' : Nat → St} {S : St} (hV : V 0 = S) (x : Int32) (h1 : ¬ x < 1) (h60 : x ≤ 60) (hL : Lim S) (hV' : upL V 0 (ticksF S x.toNatClampNeg) = V') : Met l yX4_tick (.code yX4_tick cX4_tick 2 (some .int) :: gG) rm_X4_tick (PW Z V [.ref (ad Z 0), .int x]) (QX Z (some (.int ((ticksF S x.toNatClampNeg) 6 0 0 - nI (cntTo (doneF (ticksF S x.toNatClampNeg)) (nT (ticksF S x.toNatClampNeg)))))) V') 0 0 (inW Z) := by
  refine met_of (by decide +kernel) (Nat.le_of_ble_eq_true rfl) ?_
  intro p e s m args below meth c ls E hr hlk hml hP hl
  have E : EE Z p s m args c cX4_tick RX4 := E
  have hl : lv_has ls 2 [(0, .ref (ad Z 0)), (1, .int x)] := hl
  have hS : va_S (inW Z) s.heap s.heap [] := va_S.rf
  have hT := hL.2.2
  have hR := hL.2.1
  have hB := hL.1
  refine lv_iload_n E.1 E.2.1 dX4_tick_0 rfl (lv_at hl 1 rfl) ?_
  refine lv_iconst (v := 1) E.1 E.2.1 dX4_tick_1 (by decide) ?_
  refine lv_bipush (v := 60) E.1 E.2.1 dX4_tick_2 (by decide) ?_
  refine go_Pv (run_S (rest := []) E hml hl.1 (c_X4_needWithin l (V := V) x 1 60 h1 h60) k_X4_needWithin ⟨rfl, rfl, Nat.le_of_ble_eq_true rfl, Nat.le_of_ble_eq_true rfl⟩ gw_69 gw_70 hP  rfl rfl (Nat.le_of_ble_eq_true rfl) ⟨Nat.zero_le _, Nat.zero_le _⟩ dX4_tick_4) ?_
  refine lv_aload_n E.1 E.2.1 dX4_tick_7 rfl (lv_at hl 0 rfl) ?_
  refine g_bay E hP 0 (by decide) gw_13 dX4_tick_8 ?_
  refine lv_iload_n E.1 E.2.1 dX4_tick_11 rfl (lv_at hl 1 rfl) ?_
  refine go_Xv (run_V (rest := []) E hml hl.1 (c_X1_passTicks l hA (V' := upL V 0 (ticksF S (x : Int32).toNatClampNeg)) hV (show 0 < 2 by decide) x hL rfl) k_X1_passTicks ⟨rfl, rfl, Nat.le_of_ble_eq_true rfl, Nat.le_of_ble_eq_true rfl⟩ gw_368 gw_369 gw_370 hP (rv_ln E hP (show 0 < 2 by decide)) rfl rfl (Nat.le_of_ble_eq_true rfl) ⟨Nat.zero_le _, Nat.zero_le _⟩ dX4_tick_12) hS (fun H locs hP hS => ?_)
  refine lv_aload_n E.1 E.2.1 dX4_tick_15 rfl (lv_at hl 0 rfl) ?_
  refine g_bay E hP 0 (by decide) gw_13 dX4_tick_16 ?_
  refine g_ln (v := .int ((ticksF S (x : Int32).toNatClampNeg) 6 0 0)) E hP (upL_same V 0 (ticksF S (x : Int32).toNatClampNeg)) (show 0 < 2 by decide) 6 (by decide) gw_170 rfl dX4_tick_19 ?_
  refine lv_aload_n E.1 E.2.1 dX4_tick_22 rfl (lv_at hl 0 rfl) ?_
  refine g_bay E hP 0 (by decide) gw_13 dX4_tick_23 ?_
  refine go_Pi (run_V (rest := [.int ((ticksF S (x : Int32).toNatClampNeg) 6 0 0)]) E hml hl.1 (c_X1_countDone l  (upL_same V 0 (ticksF S (x : Int32).toNatClampNeg)) (show 0 < 2 by decide) (Lim_of (KC_ticks (KC_refl _)) hL)) k_X1_countDone ⟨rfl, rfl, Nat.le_of_ble_eq_true rfl, Nat.le_of_ble_eq_true rfl⟩ gw_236 gw_237 gw_238 hP (rv_ln E hP (show 0 < 2 by decide)) rfl rfl (Nat.le_of_ble_eq_true rfl) ⟨Nat.zero_le _, Nat.zero_le _⟩ dX4_tick_26) ?_
  refine lv_isub E.1 E.2.1 dX4_tick_29 ?_
  exact e_iX E hr hlk hP hS (fin1 hV' (by rfl)) rfl dX4_tick_30

abbrev rm_X4_doneIn : Room := { frames := 6, cells := 0, slots := 0, locals := 138 }
theorem k_X4_doneIn : Card yX4_doneIn cX4_doneIn 4 (some .int) 2 := ⟨gw_475, gw_2, by decide +kernel, by decide +kernel⟩
set_option maxHeartbeats 4000000 in
set_option maxRecDepth 20000 in
theorem c_X4_doneIn (l : Launch) {Z : Gm} (hA : AA Z) {V : Nat → St} {V' : Nat → St} {U S : St} (hV0 : V 0 = S) (hV1 : V 1 = U) (x : Int32) (h0 : ¬ x < 0) (h1 : x < S 6 0 0) (hL : Lim S) (hz : ∀ k, k < nR S → S 22 k 0 = 0 ∨ S 22 k 0 = 1)  (hV' : upL V 1 (doneInS (takeF U S) x.toNatClampNeg) = V') : Met l yX4_doneIn (.code yX4_doneIn cX4_doneIn 4 (some .int) :: gG) rm_X4_doneIn (PW Z V [.ref (ad Z 0), .int x, .int 1]) (QX Z (some (.int (doneInF (takeF U S) x.toNatClampNeg))) V') 0 0 (inW Z) := by
  refine met_of (by decide +kernel) (Nat.le_of_ble_eq_true rfl) ?_
  intro p e s m args below meth c ls E hr hlk hml hP hl
  have E : EE Z p s m args c cX4_doneIn RX4 := E
  have hl : lv_has ls 4 [(0, .ref (ad Z 0)), (1, .int x), (2, .int 1)] := hl
  have hS : va_S (inW Z) s.heap s.heap [] := va_S.rf
  have hT := hL.2.2
  have hR := hL.2.1
  have hB := hL.1
  refine lv_aload_n E.1 E.2.1 dX4_doneIn_0 rfl (lv_at hl 0 rfl) ?_
  refine lv_iload_n E.1 E.2.1 dX4_doneIn_1 rfl (lv_at hl 1 rfl) ?_
  refine go_Pv (run_V (rest := []) E hml hl.1 (c_X4_needTrain l  hV0 x h0 h1) k_X4_needTrain ⟨rfl, rfl, Nat.le_of_ble_eq_true rfl, Nat.le_of_ble_eq_true rfl⟩ gw_193 gw_194 gw_195 hP (rv_bay E hP) rfl rfl (Nat.le_of_ble_eq_true rfl) ⟨Nat.zero_le _, Nat.zero_le _⟩ dX4_doneIn_2) ?_
  refine lv_iload_n E.1 E.2.1 dX4_doneIn_5 rfl (lv_at hl 2 rfl) ?_
  refine lv_iconst (v := 1) E.1 E.2.1 dX4_doneIn_6 (by decide) ?_
  refine lv_bipush (v := 120) E.1 E.2.1 dX4_doneIn_7 (by decide) ?_
  refine go_Pv (run_S (rest := []) E hml hl.1 (c_X4_needWithin l (V := V) 1 1 120 (by decide) (by decide)) k_X4_needWithin ⟨rfl, rfl, Nat.le_of_ble_eq_true rfl, Nat.le_of_ble_eq_true rfl⟩ gw_69 gw_70 hP  rfl rfl (Nat.le_of_ble_eq_true rfl) ⟨Nat.zero_le _, Nat.zero_le _⟩ dX4_doneIn_9) ?_
  refine lv_aload_n E.1 E.2.1 dX4_doneIn_12 rfl (lv_at hl 0 rfl) ?_
  refine g_bay E hP 1 (by decide) gw_14 dX4_doneIn_13 ?_
  refine lv_aload_n E.1 E.2.1 dX4_doneIn_16 rfl (lv_at hl 0 rfl) ?_
  refine g_bay E hP 0 (by decide) gw_13 dX4_doneIn_17 ?_
  refine go_Xv (run_V (rest := []) E hml hl.1 (c_X1_takeFrom l hA (V' := upL V 1 (takeF U S)) hV0 hV1 hL hz rfl) k_X1_takeFrom ⟨rfl, rfl, Nat.le_of_ble_eq_true rfl, Nat.le_of_ble_eq_true rfl⟩ gw_335 gw_336 gw_337 hP (rv_ln E hP (show 1 < 2 by decide)) rfl rfl (Nat.le_of_ble_eq_true rfl) ⟨Nat.zero_le _, Nat.zero_le _⟩ dX4_doneIn_20) hS (fun H locs hP hS => ?_)
  refine lv_iconst (v := 0) E.1 E.2.1 dX4_doneIn_23 (by decide) ?_
  refine lv_istore_n (lv' := [(3, .int 0), (0, .ref (ad Z 0)), (1, .int x), (2, .int 1)]) E.1 E.2.1 dX4_doneIn_24 rfl hl (by decide) rfl (fun ls hl => ?_)
  refine lv_iload_n E.1 E.2.1 dX4_doneIn_25 rfl (lv_at hl 0 rfl) ?_
  refine lv_iload_n E.1 E.2.1 dX4_doneIn_26 rfl (lv_at hl 3 rfl) ?_
  refine lv_icmp_ge (tgt := 59) E.1 E.2.1 dX4_doneIn_27 (by decide) (fun c_27 => ?_) (fun c_27 => ?_)
  · exact absurd c_27 (by decide)
  · refine lv_aload_n E.1 E.2.1 dX4_doneIn_30 rfl (lv_at hl 1 rfl) ?_
    refine g_bay E hP 1 (by decide) gw_14 dX4_doneIn_31 ?_
    refine g_ln E hP (upL_same V 1 (takeF U S)) (show 1 < 2 by decide) 5 (by decide) gw_171 rfl dX4_doneIn_34 ?_
    refine lv_iload_n E.1 E.2.1 dX4_doneIn_37 rfl (lv_at hl 2 rfl) ?_
    have hin_38 : vp_in x 8 := vinL h0 h1 (clamp_le hT)
    refine a_tr (k := (x.toNatClampNeg)) E hP (show 1 < 2 by decide) rfl hin_38 dX4_doneIn_38 ?_
    refine go_Pi (run_V (rest := []) E hml hl.1 (c_X3_isDone l  (upL_same V 1 (takeF U S)) (show 1 < 2 by decide) (vp_lt hin_38)) k_X3_isDone ⟨rfl, rfl, Nat.le_of_ble_eq_true rfl, Nat.le_of_ble_eq_true rfl⟩ gw_209 gw_210 gw_211 hP (rv_tr E hP (show 1 < 2 by decide) (vp_lt hin_38)) rfl rfl (Nat.le_of_ble_eq_true rfl) ⟨Nat.zero_le _, Nat.zero_le _⟩ dX4_doneIn_39) ?_
    refine lv_if_ne (tgt := 59) E.1 E.2.1 dX4_doneIn_42 (by decide) (fun c_42 => ?_) (fun c_42 => ?_)
    · refine lv_aload_n E.1 E.2.1 dX4_doneIn_59 rfl (lv_at hl 1 rfl) ?_
      refine g_bay E hP 1 (by decide) gw_14 dX4_doneIn_60 ?_
      refine g_ln E hP (upL_same V 1 (takeF U S)) (show 1 < 2 by decide) 5 (by decide) gw_171 rfl dX4_doneIn_63 ?_
      refine lv_iload_n E.1 E.2.1 dX4_doneIn_66 rfl (lv_at hl 2 rfl) ?_
      have hin_67 : vp_in x 8 := vinL h0 h1 (clamp_le hT)
      refine a_tr (k := (x.toNatClampNeg)) E hP (show 1 < 2 by decide) rfl hin_67 dX4_doneIn_67 ?_
      refine go_Pi (run_V (rest := []) E hml hl.1 (c_X3_isDone l  (upL_same V 1 (takeF U S)) (show 1 < 2 by decide) (vp_lt hin_67)) k_X3_isDone ⟨rfl, rfl, Nat.le_of_ble_eq_true rfl, Nat.le_of_ble_eq_true rfl⟩ gw_209 gw_210 gw_211 hP (rv_tr E hP (show 1 < 2 by decide) (vp_lt hin_67)) rfl rfl (Nat.le_of_ble_eq_true rfl) ⟨Nat.zero_le _, Nat.zero_le _⟩ dX4_doneIn_68) ?_
      refine lv_if_eq (tgt := 78) E.1 E.2.1 dX4_doneIn_71 (by decide) (fun c_71 => ?_) (fun c_71 => ?_)
      · refine lv_iconst (v := (-1)) E.1 E.2.1 dX4_doneIn_78 (by decide) ?_
        exact e_iX E hr hlk hP hS (fin1 hV' (by simp [doneInS, c_42, (b2i_t c_42), c_71, (b2i_f c_71)]; try rfl)) (by first | exact absurd c_71 c_42 | simp [doneInF, c_42, (b2i_t c_42), c_71, (b2i_f c_71)]) dX4_doneIn_79
      · refine lv_iload_n E.1 E.2.1 dX4_doneIn_74 rfl (lv_at hl 0 rfl) ?_
        refine lv_goto (tgt := 79) E.1 E.2.1 dX4_doneIn_75 (by decide) ?_
        exact e_iX E hr hlk hP hS (fin1 hV' (by simp [doneInS, c_42, (b2i_t c_42), c_71, (b2i_t c_71)]; try rfl)) (by first | exact absurd c_71 c_42 | simp [doneInF, c_42, (b2i_t c_42), c_71, (b2i_t c_71)]) dX4_doneIn_79
    · refine lv_aload_n E.1 E.2.1 dX4_doneIn_45 rfl (lv_at hl 1 rfl) ?_
      refine g_bay E hP 1 (by decide) gw_14 dX4_doneIn_46 ?_
      refine lv_iconst (v := 1) E.1 E.2.1 dX4_doneIn_49 (by decide) ?_
      refine go_Xv (run_V (rest := []) E hml hl.1 (c_X1_passTicks l hA (V' := upL V 1 (tickF (takeF U S))) (upL_same V 1 (takeF U S)) (show 1 < 2 by decide) 1 (Lim_of (KC_take _ _) hL) (by rw [ticks1]; exact (upL_upL V 1 _ _))) k_X1_passTicks ⟨rfl, rfl, Nat.le_of_ble_eq_true rfl, Nat.le_of_ble_eq_true rfl⟩ gw_368 gw_369 gw_370 hP (rv_ln E hP (show 1 < 2 by decide)) rfl rfl (Nat.le_of_ble_eq_true rfl) ⟨Nat.zero_le _, Nat.zero_le _⟩ dX4_doneIn_50) hS (fun H locs hP hS => ?_)
      refine lv_iinc (v := 1) (lv' := [(3, .int 1), (0, .ref (ad Z 0)), (1, .int x), (2, .int 1)]) E.1 E.2.1 dX4_doneIn_53 hl (k := 0) rfl (by decide) (by decide) rfl (fun ls hl => ?_)
      refine lv_goto (tgt := 25) E.1 E.2.1 dX4_doneIn_56 (by decide) ?_
      refine lv_iload_n E.1 E.2.1 dX4_doneIn_25 rfl (lv_at hl 0 rfl) ?_
      refine lv_iload_n E.1 E.2.1 dX4_doneIn_26 rfl (lv_at hl 3 rfl) ?_
      refine lv_icmp_ge (tgt := 59) E.1 E.2.1 dX4_doneIn_27 (by decide) (fun c_27 => ?_) (fun c_27 => ?_)
      · refine lv_aload_n E.1 E.2.1 dX4_doneIn_59 rfl (lv_at hl 1 rfl) ?_
        refine g_bay E hP 1 (by decide) gw_14 dX4_doneIn_60 ?_
        refine g_ln E hP (upL_same V 1 (tickF (takeF U S))) (show 1 < 2 by decide) 5 (by decide) gw_171 rfl dX4_doneIn_63 ?_
        refine lv_iload_n E.1 E.2.1 dX4_doneIn_66 rfl (lv_at hl 2 rfl) ?_
        have hin_67 : vp_in x 8 := vinL h0 h1 (clamp_le hT)
        refine a_tr (k := (x.toNatClampNeg)) E hP (show 1 < 2 by decide) rfl hin_67 dX4_doneIn_67 ?_
        refine go_Pi (run_V (rest := []) E hml hl.1 (c_X3_isDone l  (upL_same V 1 (tickF (takeF U S))) (show 1 < 2 by decide) (vp_lt hin_67)) k_X3_isDone ⟨rfl, rfl, Nat.le_of_ble_eq_true rfl, Nat.le_of_ble_eq_true rfl⟩ gw_209 gw_210 gw_211 hP (rv_tr E hP (show 1 < 2 by decide) (vp_lt hin_67)) rfl rfl (Nat.le_of_ble_eq_true rfl) ⟨Nat.zero_le _, Nat.zero_le _⟩ dX4_doneIn_68) ?_
        refine lv_if_eq (tgt := 78) E.1 E.2.1 dX4_doneIn_71 (by decide) (fun c_71 => ?_) (fun c_71 => ?_)
        · refine lv_iconst (v := (-1)) E.1 E.2.1 dX4_doneIn_78 (by decide) ?_
          exact e_iX E hr hlk hP hS (fin1 hV' (by simp [doneInS, c_42, (b2i_f c_42), c_71, (b2i_f c_71)]; try rfl)) (by first | exact absurd c_71 c_42 | simp [doneInF, c_42, (b2i_f c_42), c_71, (b2i_f c_71)]) dX4_doneIn_79
        · refine lv_iload_n E.1 E.2.1 dX4_doneIn_74 rfl (lv_at hl 0 rfl) ?_
          refine lv_goto (tgt := 79) E.1 E.2.1 dX4_doneIn_75 (by decide) ?_
          exact e_iX E hr hlk hP hS (fin1 hV' (by simp [doneInS, c_42, (b2i_f c_42), c_71, (b2i_t c_71)]; try rfl)) (by first | exact absurd c_71 c_42 | simp [doneInF, c_42, (b2i_f c_42), c_71, (b2i_t c_71)]) dX4_doneIn_79
      · exact absurd (by decide) c_27

abbrev rm_X4_stuckIn : Room := { frames := 6, cells := 0, slots := 0, locals := 138 }
theorem k_X4_stuckIn : Card yX4_stuckIn cX4_stuckIn 3 (some .int) 1 := ⟨gw_334, gw_2, by decide +kernel, by decide +kernel⟩
set_option maxHeartbeats 4000000 in
set_option maxRecDepth 20000 in
theorem c_X4_stuckIn (l : Launch) {Z : Gm} (hA : AA Z) {V : Nat → St} {V' : Nat → St} {U S : St} (hV0 : V 0 = S) (hV1 : V 1 = U) (hL : Lim S) (hz : ∀ k, k < nR S → S 22 k 0 = 0 ∨ S 22 k 0 = 1)  (hV' : upL V 1 (stuckInS (takeF U S)) = V') : Met l yX4_stuckIn (.code yX4_stuckIn cX4_stuckIn 3 (some .int) :: gG) rm_X4_stuckIn (PW Z V [.ref (ad Z 0), .int 1]) (QX Z (some (.int (stuckInF (takeF U S)))) V') 0 0 (inW Z) := by
  refine met_of (by decide +kernel) (Nat.le_of_ble_eq_true rfl) ?_
  intro p e s m args below meth c ls E hr hlk hml hP hl
  have E : EE Z p s m args c cX4_stuckIn RX4 := E
  have hl : lv_has ls 3 [(0, .ref (ad Z 0)), (1, .int 1)] := hl
  have hS : va_S (inW Z) s.heap s.heap [] := va_S.rf
  have hT := hL.2.2
  have hR := hL.2.1
  have hB := hL.1
  refine lv_iload_n E.1 E.2.1 dX4_stuckIn_0 rfl (lv_at hl 1 rfl) ?_
  refine lv_iconst (v := 1) E.1 E.2.1 dX4_stuckIn_1 (by decide) ?_
  refine lv_bipush (v := 120) E.1 E.2.1 dX4_stuckIn_2 (by decide) ?_
  refine go_Pv (run_S (rest := []) E hml hl.1 (c_X4_needWithin l (V := V) 1 1 120 (by decide) (by decide)) k_X4_needWithin ⟨rfl, rfl, Nat.le_of_ble_eq_true rfl, Nat.le_of_ble_eq_true rfl⟩ gw_69 gw_70 hP  rfl rfl (Nat.le_of_ble_eq_true rfl) ⟨Nat.zero_le _, Nat.zero_le _⟩ dX4_stuckIn_4) ?_
  refine lv_aload_n E.1 E.2.1 dX4_stuckIn_7 rfl (lv_at hl 0 rfl) ?_
  refine g_bay E hP 1 (by decide) gw_14 dX4_stuckIn_8 ?_
  refine lv_aload_n E.1 E.2.1 dX4_stuckIn_11 rfl (lv_at hl 0 rfl) ?_
  refine g_bay E hP 0 (by decide) gw_13 dX4_stuckIn_12 ?_
  refine go_Xv (run_V (rest := []) E hml hl.1 (c_X1_takeFrom l hA (V' := upL V 1 (takeF U S)) hV0 hV1 hL hz rfl) k_X1_takeFrom ⟨rfl, rfl, Nat.le_of_ble_eq_true rfl, Nat.le_of_ble_eq_true rfl⟩ gw_335 gw_336 gw_337 hP (rv_ln E hP (show 1 < 2 by decide)) rfl rfl (Nat.le_of_ble_eq_true rfl) ⟨Nat.zero_le _, Nat.zero_le _⟩ dX4_stuckIn_15) hS (fun H locs hP hS => ?_)
  refine lv_iconst (v := 0) E.1 E.2.1 dX4_stuckIn_18 (by decide) ?_
  refine lv_istore_n (lv' := [(2, .int 0), (0, .ref (ad Z 0)), (1, .int 1)]) E.1 E.2.1 dX4_stuckIn_19 rfl hl (by decide) rfl (fun ls hl => ?_)
  refine lv_iload_n E.1 E.2.1 dX4_stuckIn_20 rfl (lv_at hl 0 rfl) ?_
  refine lv_iload_n E.1 E.2.1 dX4_stuckIn_21 rfl (lv_at hl 2 rfl) ?_
  refine lv_icmp_ge (tgt := 49) E.1 E.2.1 dX4_stuckIn_22 (by decide) (fun c_22 => ?_) (fun c_22 => ?_)
  · exact absurd c_22 (by decide)
  · refine lv_aload_n E.1 E.2.1 dX4_stuckIn_25 rfl (lv_at hl 1 rfl) ?_
    refine g_bay E hP 1 (by decide) gw_14 dX4_stuckIn_26 ?_
    refine go_Pi (run_V (rest := []) E hml hl.1 (c_X1_countStuck l  (upL_same V 1 (takeF U S)) (show 1 < 2 by decide) (Lim_of (KC_take _ _) hL)) k_X1_countStuck ⟨rfl, rfl, Nat.le_of_ble_eq_true rfl, Nat.le_of_ble_eq_true rfl⟩ gw_257 gw_258 gw_259 hP (rv_ln E hP (show 1 < 2 by decide)) rfl rfl (Nat.le_of_ble_eq_true rfl) ⟨Nat.zero_le _, Nat.zero_le _⟩ dX4_stuckIn_29) ?_
    refine lv_if_ne (tgt := 49) E.1 E.2.1 dX4_stuckIn_32 (by decide) (fun c_32 => ?_) (fun c_32 => ?_)
    · refine lv_aload_n E.1 E.2.1 dX4_stuckIn_49 rfl (lv_at hl 1 rfl) ?_
      refine g_bay E hP 1 (by decide) gw_14 dX4_stuckIn_50 ?_
      refine go_Pi (run_V (rest := []) E hml hl.1 (c_X1_countStuck l  (upL_same V 1 (takeF U S)) (show 1 < 2 by decide) (Lim_of (KC_take _ _) hL)) k_X1_countStuck ⟨rfl, rfl, Nat.le_of_ble_eq_true rfl, Nat.le_of_ble_eq_true rfl⟩ gw_257 gw_258 gw_259 hP (rv_ln E hP (show 1 < 2 by decide)) rfl rfl (Nat.le_of_ble_eq_true rfl) ⟨Nat.zero_le _, Nat.zero_le _⟩ dX4_stuckIn_53) ?_
      refine lv_if_le (tgt := 63) E.1 E.2.1 dX4_stuckIn_56 (by decide) (fun c_56 => ?_) (fun c_56 => ?_)
      · refine lv_iconst (v := (-1)) E.1 E.2.1 dX4_stuckIn_63 (by decide) ?_
        exact e_iX E hr hlk hP hS (fin1 hV' (by simp [stuckInS, c_32, c_56]; try rfl)) (by simp [stuckInF, c_32, c_56]) dX4_stuckIn_64
      · refine lv_iload_n E.1 E.2.1 dX4_stuckIn_59 rfl (lv_at hl 0 rfl) ?_
        refine lv_goto (tgt := 64) E.1 E.2.1 dX4_stuckIn_60 (by decide) ?_
        exact e_iX E hr hlk hP hS (fin1 hV' (by simp [stuckInS, c_32, c_56]; try rfl)) (by simp [stuckInF, c_32, c_56]) dX4_stuckIn_64
    · refine lv_aload_n E.1 E.2.1 dX4_stuckIn_35 rfl (lv_at hl 1 rfl) ?_
      refine g_bay E hP 1 (by decide) gw_14 dX4_stuckIn_36 ?_
      refine lv_iconst (v := 1) E.1 E.2.1 dX4_stuckIn_39 (by decide) ?_
      refine go_Xv (run_V (rest := []) E hml hl.1 (c_X1_passTicks l hA (V' := upL V 1 (tickF (takeF U S))) (upL_same V 1 (takeF U S)) (show 1 < 2 by decide) 1 (Lim_of (KC_take _ _) hL) (by rw [ticks1]; exact (upL_upL V 1 _ _))) k_X1_passTicks ⟨rfl, rfl, Nat.le_of_ble_eq_true rfl, Nat.le_of_ble_eq_true rfl⟩ gw_368 gw_369 gw_370 hP (rv_ln E hP (show 1 < 2 by decide)) rfl rfl (Nat.le_of_ble_eq_true rfl) ⟨Nat.zero_le _, Nat.zero_le _⟩ dX4_stuckIn_40) hS (fun H locs hP hS => ?_)
      refine lv_iinc (v := 1) (lv' := [(2, .int 1), (0, .ref (ad Z 0)), (1, .int 1)]) E.1 E.2.1 dX4_stuckIn_43 hl (k := 0) rfl (by decide) (by decide) rfl (fun ls hl => ?_)
      refine lv_goto (tgt := 20) E.1 E.2.1 dX4_stuckIn_46 (by decide) ?_
      refine lv_iload_n E.1 E.2.1 dX4_stuckIn_20 rfl (lv_at hl 0 rfl) ?_
      refine lv_iload_n E.1 E.2.1 dX4_stuckIn_21 rfl (lv_at hl 2 rfl) ?_
      refine lv_icmp_ge (tgt := 49) E.1 E.2.1 dX4_stuckIn_22 (by decide) (fun c_22 => ?_) (fun c_22 => ?_)
      · refine lv_aload_n E.1 E.2.1 dX4_stuckIn_49 rfl (lv_at hl 1 rfl) ?_
        refine g_bay E hP 1 (by decide) gw_14 dX4_stuckIn_50 ?_
        refine go_Pi (run_V (rest := []) E hml hl.1 (c_X1_countStuck l  (upL_same V 1 (tickF (takeF U S))) (show 1 < 2 by decide) (Lim_of (KC_tick (KC_take _ _)) hL)) k_X1_countStuck ⟨rfl, rfl, Nat.le_of_ble_eq_true rfl, Nat.le_of_ble_eq_true rfl⟩ gw_257 gw_258 gw_259 hP (rv_ln E hP (show 1 < 2 by decide)) rfl rfl (Nat.le_of_ble_eq_true rfl) ⟨Nat.zero_le _, Nat.zero_le _⟩ dX4_stuckIn_53) ?_
        refine lv_if_le (tgt := 63) E.1 E.2.1 dX4_stuckIn_56 (by decide) (fun c_56 => ?_) (fun c_56 => ?_)
        · refine lv_iconst (v := (-1)) E.1 E.2.1 dX4_stuckIn_63 (by decide) ?_
          exact e_iX E hr hlk hP hS (fin1 hV' (by simp [stuckInS, c_32, c_56]; try rfl)) (by simp [stuckInF, c_32, c_56]) dX4_stuckIn_64
        · refine lv_iload_n E.1 E.2.1 dX4_stuckIn_59 rfl (lv_at hl 0 rfl) ?_
          refine lv_goto (tgt := 64) E.1 E.2.1 dX4_stuckIn_60 (by decide) ?_
          exact e_iX E hr hlk hP hS (fin1 hV' (by simp [stuckInS, c_32, c_56]; try rfl)) (by simp [stuckInF, c_32, c_56]) dX4_stuckIn_64
      · exact absurd (by decide) c_22
