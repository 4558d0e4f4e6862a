/-! The constructor of Line, and of the bay. -/
def pcell (Z : Gm) (w nb nr nt m : Nat) : va_E :=
  if m = 2 then .inl (Z.2.2.2.1, 16, .inr (.inr (.inr (.inr (fun j => if j < nb then some (ad Z (cBk w j)) else none)))))
  else if m = 3 then .inl (Z.2.2.2.2.1, 16, .inr (.inr (.inr (.inr (fun j => if j < nr then some (ad Z (cRt w j)) else none)))))
  else if m = 4 then .inl (Z.2.2.2.2.2, 8, .inr (.inr (.inr (.inr (fun j => if j < nt then some (ad Z (cTr w j)) else none)))))
  else lineCell Z w initS m
def pw (Z : Gm) (w nb nr nt N : Nat) : va_W := (List.range N).map (fun m => (ad Z (1 + 85 * w + m), pcell Z w nb nr nt m))
theorem pw_at {Z : Gm} {w nb nr nt N m : Nat} (h : m < N) : (pw Z w nb nr nt N)[m]? = some (ad Z (1 + 85 * w + m), pcell Z w nb nr nt m) := by simp [pw, h]
theorem pw_x {Z : Gm} {w nb nr nt N m c : Nat} {x : va_E} (h : m < N) (hc : 1 + 85 * w + m = c) (hx : pcell Z w nb nr nt m = x) : (pw Z w nb nr nt N)[m]? = some (ad Z c, x) := by rw [pw_at h, hc, hx]
theorem pw_s (Z : Gm) (w nb nr nt N : Nat) : pw Z w nb nr nt (N + 1) = pw Z w nb nr nt N ++ [(ad Z (1 + 85 * w + N), pcell Z w nb nr nt N)] := by simp [pw, List.range_succ]
theorem pw_get {Z : Gm} {w nb nr nt N k : Nat} {p : Nat × va_E} (h : (pw Z w nb nr nt N)[k]? = some p) : k < N ∧ p = (ad Z (1 + 85 * w + k), pcell Z w nb nr nt k) := by
  have hk : k < N := by
    have := (List.getElem?_eq_some_iff.mp h).1
    simpa [pw] using this
  rw [pw_at hk] at h
  exact ⟨hk, (Option.some.inj h).symm⟩
/-- one cell is another -/
theorem pw_set {Z : Gm} {w nb nr nt nb' nr' nt' N i c : Nat} {x : va_E} (hi : i < N) (hc : 1 + 85 * w + i = c) (h1 : pcell Z w nb' nr' nt' i = x) (h2 : ∀ m, m ≠ i → pcell Z w nb' nr' nt' m = pcell Z w nb nr nt m) : (pw Z w nb nr nt N).set i (ad Z c, x) = pw Z w nb' nr' nt' N := by
  subst hc
  apply List.ext_getElem?
  intro k
  by_cases hk : k < N
  · rw [List.getElem?_set, pw_at hk, pw_at hk]
    by_cases hik : i = k
    · subst hik
      rw [if_pos rfl, if_pos (by simp [pw]; omega), h1]
    · rw [if_neg hik, h2 k (Ne.symm hik)]
  · rw [List.getElem?_eq_none (by simp [pw]; omega), List.getElem?_eq_none (by simp [pw]; omega)]
theorem va_P_last {D : va_G} {cl : List vw_C} {ws : va_W} {x : Nat × va_E} {H : Heap} (h : va_P D cl (ws ++ [x]) H) : va_P D cl [x] H := by
  intro k p hk
  refine h (ws.length + k) p ?_
  rw [List.getElem?_append_right (by omega), Nat.add_sub_cancel_left]
  exact hk
theorem va_P_init {D : va_G} {cl : List vw_C} {ws w2 : va_W} {H : Heap} (h : va_P D cl (ws ++ w2) H) : va_P D cl ws H := by
  intro k p hk
  refine h k p ?_
  rw [List.getElem?_append_left (List.getElem?_eq_some_iff.mp hk).1]
  exact hk
theorem va_P_comb {D : va_G} {cl : List vw_C} {ws w2 : va_W} {H H1 : Heap} {q : Nat} (h : va_P D cl ws H) (hlt : ∀ (k : Nat) (p : Nat × va_E), ws[k]? = some p → p.1 < q) (hk : ∀ x : Nat, x < q → H1[x]? = H[x]?) (h2 : va_P D cl w2 H1) : va_P D cl (ws ++ w2) H1 := (h.kept fun k p hp => hk p.1 (hlt k p hp)).app h2
theorem pc_bk {Z : Gm} {w nb nr nt k : Nat} (hk : k < 16) : pcell Z w nb nr nt (5 + k) = .inr (0, [.int 0, .int (-1), .int (-1), .int 0]) := by
  unfold pcell
  rw [if_neg (by omega), if_neg (by omega), if_neg (by omega)]
  unfold lineCell
  rw [if_neg (by omega), if_neg (by omega), if_neg (by omega), if_neg (by omega), if_neg (by omega), if_pos (by omega)]
  rfl
theorem pc_rt {Z : Gm} {w nb nr nt k : Nat} (hk : k < 16) : pcell Z w nb nr nt (21 + 2 * k) = .inr (2, [.int 0, .int 0, .int 0, .int 0, .ref (ad Z (cRb w k))]) := by
  unfold pcell
  rw [if_neg (by omega), if_neg (by omega), if_neg (by omega)]
  unfold lineCell
  rw [if_neg (by omega), if_neg (by omega), if_neg (by omega), if_neg (by omega), if_neg (by omega), if_neg (by omega), if_pos (by omega), if_pos (by omega), show (21 + 2 * k - 21) / 2 = k by omega]
  rfl
theorem pc_rb {Z : Gm} {w nb nr nt k : Nat} (hk : k < 16) : pcell Z w nb nr nt (22 + 2 * k) = .inl (Z.2.2.1, 5, .inl (fun _ => 0)) := by
  unfold pcell
  rw [if_neg (by omega), if_neg (by omega), if_neg (by omega)]
  unfold lineCell
  rw [if_neg (by omega), if_neg (by omega), if_neg (by omega), if_neg (by omega), if_neg (by omega), if_neg (by omega), if_pos (by omega), if_neg (by omega)]
  rfl
theorem pc_tr {Z : Gm} {w nb nr nt k : Nat} (hk : k < 8) : pcell Z w nb nr nt (53 + 4 * k) = .inr (3, [.int 0, .int 0, .int 0, .ref (ad Z (cSt w k)), .ref (ad Z (cTm w k)), .int 0, .int (-1), .int 0, .int (-1), .int 0, .int 0, .int 0, .int 0, .int 0, .int (-1), .ref (ad Z (cWf w k))]) := by
  unfold pcell
  rw [if_neg (by omega), if_neg (by omega), if_neg (by omega)]
  unfold lineCell
  rw [if_neg (by omega), if_neg (by omega), if_neg (by omega), if_neg (by omega), if_neg (by omega), if_neg (by omega), if_neg (by omega), if_pos (by omega), show (53 + 4 * k - 53) / 4 = k by omega]
  rfl
theorem pc_ta {Z : Gm} {w nb nr nt k i : Nat} (hk : k < 8) (hi : 1 ≤ i ∧ i ≤ 3) : pcell Z w nb nr nt (53 + 4 * k + i) = .inl (Z.2.2.1, 8, .inl (fun _ => 0)) := by
  unfold pcell
  rw [if_neg (by omega), if_neg (by omega), if_neg (by omega)]
  unfold lineCell
  rw [if_neg (by omega), if_neg (by omega), if_neg (by omega), if_neg (by omega), if_neg (by omega), if_neg (by omega), if_neg (by omega), if_neg (by omega)]
  rcases (show i = 1 ∨ i = 2 ∨ i = 3 by omega) with rfl | rfl | rfl
  · rw [if_pos (by omega)]; rfl
  · rw [if_neg (by omega), if_pos (by omega)]; rfl
  · rw [if_neg (by omega), if_neg (by omega)]; rfl
theorem pc_0 {Z : Gm} {w nb nr nt : Nat} : pcell Z w nb nr nt 0 = .inr (1, fLn Z w initS) := rfl
theorem up_some {α : Type} {n : Nat} {g : Nat → α} : va_up (fun j => if j < n then some (g j) else none) n (some (g n)) = fun j => if j < n + 1 then some (g j) else none := by
  funext j
  show (if j = n then some (g n) else if j < n then some (g j) else none) = if j < n + 1 then some (g j) else none
  by_cases h : j = n
  · subst h; simp
  · by_cases h2 : j < n
    · rw [if_neg h, if_pos h2, if_pos (by omega)]
    · rw [if_neg h, if_neg h2, if_neg (by omega)]
theorem none_lt0 {α : Type} {g : Nat → α} : (fun j : Nat => if j < 0 then some (g j) else none) = fun _ => none := funext fun j => if_neg (Nat.not_lt_zero j)
/-- a whole Line, new -/
def lwl (Z : Gm) (w : Nat) : va_W := (List.range 85).map (fun m => (ad Z (1 + 85 * w + m), lineCell Z w initS m))
theorem cell_cg {cA : ClassId} {n : Nat} {f g : Nat → Option Nat} (h : ∀ j, j < n → f j = g j) : vp_cell cA (n, .inr (.inr (.inr (.inr f)))) = vp_cell cA (n, .inr (.inr (.inr (.inr g)))) := by
  rw [vp_cell_q, vp_cell_q]
  unfold arrV
  have e : (Array.ofFn (n := n) fun j => va_rf (f j.val)) = Array.ofFn (n := n) fun j => va_rf (g j.val) := congrArg Array.ofFn (funext fun j => by rw [h j.val j.isLt])
  rw [e]
theorem pw_full {Z : Gm} {w : Nat} {H : Heap} (h : va_P (gD Z) vwCl (pw Z w 16 16 8 85) H) : va_P (gD Z) vwCl (lwl Z w) H := by
  intro m p hm
  have hm85 : m < 85 := by
    have := (List.getElem?_eq_some_iff.mp hm).1
    simpa [lwl] using this
  have e : (lwl Z w)[m]? = some (ad Z (1 + 85 * w + m), lineCell Z w initS m) := by simp [lwl, hm85]
  rw [e] at hm
  cases hm
  have h1 := h m _ (pw_at hm85)
  unfold pcell at h1
  by_cases h2 : m = 2
  · subst h2
    have h3 : H[ad Z (1 + 85 * w + 2)]? = some (vp_cell _ _) := h1
    rw [cell_cg (g := fun j => some (ad Z (cBk w j))) (fun j hj => if_pos hj)] at h3
    exact h3
  rw [if_neg h2] at h1
  by_cases h2' : m = 3
  · subst h2'
    have h3 : H[ad Z (1 + 85 * w + 3)]? = some (vp_cell _ _) := h1
    rw [cell_cg (g := fun j => some (ad Z (cRt w j))) (fun j hj => if_pos hj)] at h3
    exact h3
  rw [if_neg h2'] at h1
  by_cases h2'' : m = 4
  · subst h2''
    have h3 : H[ad Z (1 + 85 * w + 4)]? = some (vp_cell _ _) := h1
    rw [cell_cg (g := fun j => some (ad Z (cTr w j))) (fun j hj => if_pos hj)] at h3
    exact h3
  rw [if_neg h2''] at h1
  exact h1
theorem pw_D {Z : Gm} {w nb nr nt N q : Nat} (hq : ∀ m, m < 85 → ad Z (1 + 85 * w + m) = q + m) (hN : N ≤ 85) : va_D (fun z => q ≤ z) (pw Z w nb nr nt N) := D_seq q _ (fun k p h => by
  obtain ⟨hk, rfl⟩ := pw_get h
  exact hq k (by omega))
theorem pw_lt {Z : Gm} {w nb nr nt N q : Nat} (hq : ∀ m, m < 85 → ad Z (1 + 85 * w + m) = q + m) (hN : N ≤ 85) : ∀ (k : Nat) (p : Nat × va_E), (pw Z w nb nr nt N)[k]? = some p → p.1 < q + N := fun k p h => by
  obtain ⟨hk, rfl⟩ := pw_get h
  show ad Z (1 + 85 * w + k) < q + N
  rw [hq k (by omega)]
  omega

theorem upd_two (i : Nat) : upd (fun j => if j < i then (2 : Int32) else 0) i 2 = fun j => if j < i + 1 then 2 else 0 := by
  funext j
  show (if j = i then (2 : Int32) else if j < i then 2 else 0) = if j < i + 1 then 2 else 0
  by_cases h : j = i
  · subst h; simp
  · by_cases h2 : j < i
    · rw [if_neg h, if_pos h2, if_pos (by omega)]
    · rw [if_neg h, if_neg h2, if_neg (by omega)]
theorem pw_5 (Z : Gm) (w : Nat) : pw Z w 0 0 0 5 = [(ad Z (cLn w), .inr (1, [.ref (ad Z (cPl w)), .ref (ad Z (cBs w)), .int 0, .ref (ad Z (cRs w)), .int 0, .ref (ad Z (cTs w)), .int 0, .int 0, .int 2, .int 0])), (ad Z (cPl w), .inl (Z.2.2.1, 6, .inl (fun j => if j < 6 then 2 else 0))), (ad Z (cBs w), .inl (Z.2.2.2.1, 16, .inr (.inr (.inr (.inr (fun _ => none)))))), (ad Z (cRs w), .inl (Z.2.2.2.2.1, 16, .inr (.inr (.inr (.inr (fun _ => none)))))), (ad Z (cTs w), .inl (Z.2.2.2.2.2, 8, .inr (.inr (.inr (.inr (fun _ => none))))))] := by
  have e0 : (fun j : Nat => if j < 0 then some (ad Z (cBk w j)) else none) = fun _ => none := none_lt0
  have e1 : (fun j : Nat => if j < 0 then some (ad Z (cRt w j)) else none) = fun _ => none := none_lt0
  have e2 : (fun j : Nat => if j < 0 then some (ad Z (cTr w j)) else none) = fun _ => none := none_lt0
  have h : pw Z w 0 0 0 5 = [(ad Z (1 + 85 * w + 0), .inr (1, [.ref (ad Z (cPl w)), .ref (ad Z (cBs w)), .int 0, .ref (ad Z (cRs w)), .int 0, .ref (ad Z (cTs w)), .int 0, .int 0, .int 2, .int 0])), (ad Z (1 + 85 * w + 1), .inl (Z.2.2.1, 6, .inl (fun j => if j < 6 then 2 else 0))), (ad Z (1 + 85 * w + 2), .inl (Z.2.2.2.1, 16, .inr (.inr (.inr (.inr (fun j => if j < 0 then some (ad Z (cBk w j)) else none)))))), (ad Z (1 + 85 * w + 3), .inl (Z.2.2.2.2.1, 16, .inr (.inr (.inr (.inr (fun j => if j < 0 then some (ad Z (cRt w j)) else none)))))), (ad Z (1 + 85 * w + 4), .inl (Z.2.2.2.2.2, 8, .inr (.inr (.inr (.inr (fun j => if j < 0 then some (ad Z (cTr w j)) else none))))))] := rfl
  rw [h, show 1 + 85 * w + 0 = cLn w by unfold cLn; omega, show 1 + 85 * w + 1 = cPl w by unfold cPl; omega, show 1 + 85 * w + 2 = cBs w by unfold cBs; omega, show 1 + 85 * w + 3 = cRs w by unfold cRs; omega, show 1 + 85 * w + 4 = cTs w by unfold cTs; omega, e0, e1, e2]
theorem tr_ad {Z : Gm} {w i : Nat} (hq : ∀ m, m < 85 → ad Z (1 + 85 * w + m) = ad Z (cLn w) + m) (hi : i < 8) (k : Nat) (hk : k < 4) : ad Z (1 + 85 * w + (53 + 4 * i + k)) = ad Z (cTr w i) + k := by
  rw [hq _ (by omega), show ad Z (cTr w i) = ad Z (1 + 85 * w + (53 + 4 * i)) from congrArg (ad Z) (by unfold cTr; omega), hq _ (by omega)]
  omega
set_option maxHeartbeats 4000000 in
set_option maxRecDepth 20000 in
theorem li_121 (l : Launch) {Z : Gm} {w : Nat} (hq : ∀ m, m < 85 → ad Z (1 + 85 * w + m) = ad Z (cLn w) + m) {p : Program} {e : Env} {s : State} {m : MethodId} {args : Array Value} {below : List Frame} {meth : Method} {c : Code} (E : EE Z p s m args c cX1_init RX1) (hX : Ext s) (hr : meth.sig.returnType = none) (hlk : meth.locks = false) (hml : c.maxLocals = 2) (hsz : s.heap.size = ad Z (cLn w) + 1) : ∀ (n i : Nat), 8 - i < n → i ≤ 8 → ∀ (H : Heap) (locs : List Loc), H.size = ad Z (cLn w) + (53 + 4 * i) → va_P (gD Z) vwCl (pw Z w 16 16 i (53 + 4 * i)) H → va_S (fun z => ad Z (cLn w) ≤ z) s.heap H locs → ∀ (ls : Array Slot), lv_has ls 2 [(1, .int (nI i)), (0, .ref (ad Z (cLn w)))] → W p l e ({ frames := 2, cells := 84, slots := 590, locals := 32 }) s m args below meth c H locs (52 + 4 * i) (270 + 40 * i) (MQ below (QI Z (lwl Z w) (ad Z (cLn w) + 85) (ad Z (cLn w))) args s 84 590 (fun x => ad Z (cLn w) ≤ x)) (F0 m 121 ls []) := by
  intro n
  induction n with
  | zero => intro i hm; exact absurd hm (by omega)
  | succ n ih =>
    intro i hm hi H locs hz hP hS ls hl
    refine lv_iload_n E.1 E.2.1 dX1_init_121 rfl (lv_at hl 0 rfl) ?_
    refine lv_bipush (v := 8) E.1 E.2.1 dX1_init_122 (by decide) ?_
    refine lv_icmp_ge (tgt := 146) E.1 E.2.1 dX1_init_124 (by decide) (fun hc => ?_) (fun hc => ?_)
    · have hd : 8 ≤ i := (nI_leI (a := 8) (by omega) (by omega)).mp hc
      have hi8 : i = 8 := by omega
      subst hi8
      exact W.vret E.1 E.2.1 hr (fun t ht _ => ⟨rfl, by rw [ht]; exact hz, by rw [ht]; exact pw_full hP, fun x hx => by rw [ht]; exact hS.2.1 x (by omega) (Nat.not_le.mpr hx)⟩) hS.2.2 dX1_init_146 (hlocks := hlk)
    · have hd : i < 8 := Nat.not_le.mp fun h => hc ((nI_leI (a := 8) (by omega) (by omega)).mpr h)
      have hqk : ad Z (cTr w i) = ad Z (cLn w) + (53 + 4 * i) := by rw [← hq (53 + 4 * i) (by omega)]; exact congrArg (ad Z) (by unfold cTr; omega)
      refine lv_aload_n E.1 E.2.1 dX1_init_127 rfl (lv_at hl 1 rfl) ?_
      refine va_get (v := .ref (ad Z (cTs w))) E.1 E.2.1 (Ts := gG) E.2.2.2.1 gC1 E.2.2.1 E.2.2.2.2 hP 0 (a := ad Z (cLn w)) (pw_at (by omega)) rfl 5 (by decide) (E.2.2.2.1 _ gw_25) (fun _ h => h) rfl dX1_init_128 ?_
      refine lv_iload_n E.1 E.2.1 dX1_init_131 rfl (lv_at hl 0 rfl) ?_
      refine n_obj E hP hS (ci := 3) (T := TX3) (N := 16) rfl gC3 tyX3 tyX3_ok gw_24 gw_31 gw_32 (fs := [.int 0, .int 0, .int 0, .null, .null, .int 0, .int 0, .int 0, .int 0, .int 0, .int 0, .int 0, .int 0, .int 0, .int 0, .null]) (fun j hj => by rcases (show j = 0 ∨ j = 1 ∨ j = 2 ∨ j = 3 ∨ j = 4 ∨ j = 5 ∨ j = 6 ∨ j = 7 ∨ j = 8 ∨ j = 9 ∨ j = 10 ∨ j = 11 ∨ j = 12 ∨ j = 13 ∨ j = 14 ∨ j = 15 by omega) with rfl | rfl | rfl | rfl | rfl | rfl | rfl | rfl | rfl | rfl | rfl | rfl | rfl | rfl | rfl | rfl <;> rfl) (by show _ + 1 ≤ 84; omega) (by show _ + 16 ≤ 590; omega) dX1_init_132 (h := ad Z (cTr w i)) (hz.trans hqk.symm) (fun H hz hP hS => ?_)
      refine lv_dup E.1 E.2.1 dX1_init_135 rfl ?_
      refine go_I (run_IN (rest := [.ref (ad Z (cTr w i)), .int (nI i), .ref (ad Z (cTs w))]) E hX hml hl.1 (c_X3_init l Z (ad Z (cTr w i))) k_X3_init ⟨rfl, rfl, Nat.le_of_ble_eq_true rfl, Nat.le_of_ble_eq_true rfl⟩ hX.2.2.1 hz (va_P_last hP) rfl (Nat.le_of_ble_eq_true rfl) ⟨by show _ + 3 ≤ 84; omega, by show _ + 24 ≤ 590; omega⟩ dX1_init_136) hS (fun x h => Nat.le_trans (by rw [hqk]; omega) h) (by rw [hz]; omega) (fun H1 locs hz1 hP1 hk hS => ?_)
      have hP := va_P_comb (va_P_init hP) (fun k p h => by rw [hqk]; exact pw_lt hq (by omega) k p h) hk hP1
      have hP : va_P (gD Z) vwCl (pw Z w 16 16 i (53 + 4 * i + 4)) H1 := by rw [show 53 + 4 * i + 4 = (53 + 4 * i + 3) + 1 from rfl, pw_s, show 53 + 4 * i + 3 = (53 + 4 * i + 2) + 1 from rfl, pw_s, show 53 + 4 * i + 2 = (53 + 4 * i + 1) + 1 from rfl, pw_s, pw_s, pc_tr hd, pc_ta (i := 1) hd (by omega), show 53 + 4 * i + 1 + 1 = 53 + 4 * i + 2 from rfl, pc_ta (i := 2) hd (by omega), show 53 + 4 * i + 2 + 1 = 53 + 4 * i + 3 from rfl, pc_ta (i := 3) hd (by omega), List.append_assoc, List.append_assoc, List.append_assoc, tr_ad hq hd 1 (by omega), tr_ad hq hd 2 (by omega), tr_ad hq hd 3 (by omega), show ad Z (1 + 85 * w + (53 + 4 * i)) = ad Z (cTr w i) from congrArg (ad Z) (by unfold cTr; omega), show ad Z (cSt w i) = ad Z (cTr w i) + 1 by rw [← tr_ad hq hd 1 (by omega)]; exact congrArg (ad Z) (by unfold cSt; omega), show ad Z (cTm w i) = ad Z (cTr w i) + 2 by rw [← tr_ad hq hd 2 (by omega)]; exact congrArg (ad Z) (by unfold cTm; omega), show ad Z (cWf w i) = ad Z (cTr w i) + 3 by rw [← tr_ad hq hd 3 (by omega)]; exact congrArg (ad Z) (by unfold cWf; omega)]; exact hP
      refine z_astq E hz1 hP (pw_D hq (by omega)) hS 4 3 (53 + 4 * i) 3 (a := ad Z (cTs w)) (cA := Z.2.2.2.2.2) (n := 8) (f := fun j => if j < i then some (ad Z (cTr w j)) else none) (pw_x (m := 4) (by omega) (by unfold cTs; omega) rfl) rfl (v := ad Z (cTr w i)) (pw_x (m := 53 + 4 * i) (by omega) (by unfold cTr; omega) (pc_tr hd)) (r := (RX3, TX3, 16)) rfl (k := i) (nI_clamp (by omega)) (vp_in_nI (by omega) (by omega)) dX1_init_139 (fun H locs hz hP _ hS => ?_)
      rw [up_some (g := fun j => ad Z (cTr w j))] at hP
      have hP : va_P (gD Z) vwCl (pw Z w 16 16 (i + 1) (53 + 4 * i + 4)) H := by rw [← pw_set (i := 4) (c := cTs w) (nb := 16) (nr := 16) (nt := i) (by omega) (by unfold cTs; omega) rfl (fun m hm => by unfold pcell; by_cases h2 : m = 2 <;> by_cases h3 : m = 3 <;> simp [h2, h3, hm])]; exact hP
      refine lv_iinc (v := nI (i + 1)) (lv' := [(1, .int (nI (i + 1))), (0, .ref (ad Z (cLn w)))]) E.1 E.2.1 dX1_init_140 hl (k := 0) rfl (nI_1 _) (by decide) rfl (fun ls hl => ?_)
      refine lv_goto (tgt := 121) E.1 E.2.1 dX1_init_143 (by decide) ?_
      refine W.cs (show 52 + 4 * i + 1 + 3 = 52 + 4 * (i + 1) by omega) (show 270 + 40 * i + 16 + 24 = 270 + 40 * (i + 1) by omega) ?_
      exact ih (i + 1) (by omega) (by omega) H locs (by rw [hz, hqk]; omega) (by rw [show 53 + 4 * (i + 1) = 53 + 4 * i + 4 by omega]; exact hP) hS ls hl
set_option maxHeartbeats 4000000 in
set_option maxRecDepth 20000 in
theorem li_94 (l : Launch) {Z : Gm} {w : Nat} (hq : ∀ m, m < 85 → ad Z (1 + 85 * w + m) = ad Z (cLn w) + m) {p : Program} {e : Env} {s : State} {m : MethodId} {args : Array Value} {below : List Frame} {meth : Method} {c : Code} (E : EE Z p s m args c cX1_init RX1) (hX : Ext s) (hr : meth.sig.returnType = none) (hlk : meth.locks = false) (hml : c.maxLocals = 2) (hsz : s.heap.size = ad Z (cLn w) + 1) : ∀ (n i : Nat), 16 - i < n → i ≤ 16 → ∀ (H : Heap) (locs : List Loc), H.size = ad Z (cLn w) + (21 + 2 * i) → va_P (gD Z) vwCl (pw Z w 16 i 0 (21 + 2 * i)) H → va_S (fun z => ad Z (cLn w) ≤ z) s.heap H locs → ∀ (ls : Array Slot), lv_has ls 2 [(1, .int (nI i)), (0, .ref (ad Z (cLn w)))] → W p l e ({ frames := 2, cells := 84, slots := 590, locals := 32 }) s m args below meth c H locs (20 + 2 * i) (110 + 10 * i) (MQ below (QI Z (lwl Z w) (ad Z (cLn w) + 85) (ad Z (cLn w))) args s 84 590 (fun x => ad Z (cLn w) ≤ x)) (F0 m 94 ls []) := by
  intro n
  induction n with
  | zero => intro i hm; exact absurd hm (by omega)
  | succ n ih =>
    intro i hm hi H locs hz hP hS ls hl
    refine lv_iload_n E.1 E.2.1 dX1_init_94 rfl (lv_at hl 0 rfl) ?_
    refine lv_bipush (v := 16) E.1 E.2.1 dX1_init_95 (by decide) ?_
    refine lv_icmp_ge (tgt := 119) E.1 E.2.1 dX1_init_97 (by decide) (fun hc => ?_) (fun hc => ?_)
    · have hd : 16 ≤ i := (nI_leI (a := 16) (by omega) (by omega)).mp hc
      have hi16 : i = 16 := by omega
      subst hi16
      refine lv_iconst (v := 0) E.1 E.2.1 dX1_init_119 (by decide) ?_
      refine lv_istore_n (lv' := [(1, .int 0), (0, .ref (ad Z (cLn w)))]) E.1 E.2.1 dX1_init_120 rfl hl (by decide) rfl (fun ls hl => ?_)
      exact li_121 l hq E hX hr hlk hml hsz 9 0 (by omega) (by omega) H locs hz hP hS ls hl
    · have hd : i < 16 := Nat.not_le.mp fun h => hc ((nI_leI (a := 16) (by omega) (by omega)).mpr h)
      have hqk : ad Z (cRt w i) = ad Z (cLn w) + (21 + 2 * i) := by rw [← hq (21 + 2 * i) (by omega)]; exact congrArg (ad Z) (by unfold cRt; omega)
      refine lv_aload_n E.1 E.2.1 dX1_init_100 rfl (lv_at hl 1 rfl) ?_
      refine va_get (v := .ref (ad Z (cRs w))) E.1 E.2.1 (Ts := gG) E.2.2.2.1 gC1 E.2.2.1 E.2.2.2.2 hP 0 (a := ad Z (cLn w)) (pw_at (by omega)) rfl 3 (by decide) (E.2.2.2.1 _ gw_23) (fun _ h => h) rfl dX1_init_101 ?_
      refine lv_iload_n E.1 E.2.1 dX1_init_104 rfl (lv_at hl 0 rfl) ?_
      refine n_obj E hP hS (ci := 2) (T := TX2) (N := 5) rfl gC2 tyX2 tyX2_ok gw_22 gw_29 gw_30 (fs := [.int 0, .int 0, .int 0, .int 0, .null]) (fun j hj => by rcases (show j = 0 ∨ j = 1 ∨ j = 2 ∨ j = 3 ∨ j = 4 by omega) with rfl | rfl | rfl | rfl | rfl <;> rfl) (by show _ + 1 ≤ 84; omega) (by show _ + 5 ≤ 590; omega) dX1_init_105 (h := ad Z (cRt w i)) (hz.trans hqk.symm) (fun H hz hP hS => ?_)
      refine lv_dup E.1 E.2.1 dX1_init_108 rfl ?_
      refine go_I (run_IN (rest := [.ref (ad Z (cRt w i)), .int (nI i), .ref (ad Z (cRs w))]) E hX hml hl.1 (c_X2_init l Z (ad Z (cRt w i))) k_X2_init ⟨rfl, rfl, Nat.le_of_ble_eq_true rfl, Nat.le_of_ble_eq_true rfl⟩ hX.2.1 hz (va_P_last hP) rfl (Nat.le_of_ble_eq_true rfl) ⟨by show _ + 1 ≤ 84; omega, by show _ + 5 ≤ 590; omega⟩ dX1_init_109) hS (fun x h => Nat.le_trans (by rw [hqk]; omega) h) (by rw [hz]; omega) (fun H1 locs hz1 hP1 hk hS => ?_)
      have hP := va_P_comb (va_P_init hP) (fun k p h => by rw [hqk]; exact pw_lt hq (by omega) k p h) hk hP1
      have hP : va_P (gD Z) vwCl (pw Z w 16 i 0 (21 + 2 * i + 2)) H1 := by rw [show 21 + 2 * i + 2 = (21 + 2 * i + 1) + 1 from rfl, pw_s, pw_s, pc_rt hd, show 21 + 2 * i + 1 = 22 + 2 * i by omega, pc_rb hd, List.append_assoc, show ad Z (cRb w i) = ad Z (cRt w i) + 1 by rw [hqk, show ad Z (cRb w i) = ad Z (1 + 85 * w + (22 + 2 * i)) from congrArg (ad Z) (by unfold cRb; omega), hq (22 + 2 * i) (by omega)]; omega, show ad Z (1 + 85 * w + (22 + 2 * i)) = ad Z (cRt w i) + 1 by rw [hqk, hq (22 + 2 * i) (by omega)]; omega, show ad Z (1 + 85 * w + (21 + 2 * i)) = ad Z (cRt w i) from congrArg (ad Z) (by unfold cRt; omega)]; exact hP
      refine z_astq E hz1 hP (pw_D hq (by omega)) hS 3 2 (21 + 2 * i) 2 (a := ad Z (cRs w)) (cA := Z.2.2.2.2.1) (n := 16) (f := fun j => if j < i then some (ad Z (cRt w j)) else none) (pw_x (m := 3) (by omega) (by unfold cRs; omega) rfl) rfl (v := ad Z (cRt w i)) (pw_x (m := 21 + 2 * i) (by omega) (by unfold cRt; omega) (pc_rt hd)) (r := (RX2, TX2, 5)) rfl (k := i) (nI_clamp (by omega)) (vp_in_nI (by omega) (by omega)) dX1_init_112 (fun H locs hz hP _ hS => ?_)
      rw [up_some (g := fun j => ad Z (cRt w j))] at hP
      have hP : va_P (gD Z) vwCl (pw Z w 16 (i + 1) 0 (21 + 2 * i + 2)) H := by rw [← pw_set (i := 3) (c := cRs w) (nb := 16) (nr := i) (nt := 0) (by omega) (by unfold cRs; omega) rfl (fun m hm => by unfold pcell; by_cases h2 : m = 2 <;> simp [h2, hm])]; exact hP
      refine lv_iinc (v := nI (i + 1)) (lv' := [(1, .int (nI (i + 1))), (0, .ref (ad Z (cLn w)))]) E.1 E.2.1 dX1_init_113 hl (k := 0) rfl (nI_1 _) (by decide) rfl (fun ls hl => ?_)
      refine lv_goto (tgt := 94) E.1 E.2.1 dX1_init_116 (by decide) ?_
      refine W.cs (show 20 + 2 * i + 1 + 1 = 20 + 2 * (i + 1) by omega) (show 110 + 10 * i + 5 + 5 = 110 + 10 * (i + 1) by omega) ?_
      exact ih (i + 1) (by omega) (by omega) H locs (by rw [hz, hqk]; omega) (by rw [show 21 + 2 * (i + 1) = 21 + 2 * i + 2 by omega]; exact hP) hS ls hl
set_option maxHeartbeats 4000000 in
set_option maxRecDepth 20000 in
theorem li_67 (l : Launch) {Z : Gm} {w : Nat} (hq : ∀ m, m < 85 → ad Z (1 + 85 * w + m) = ad Z (cLn w) + m) {p : Program} {e : Env} {s : State} {m : MethodId} {args : Array Value} {below : List Frame} {meth : Method} {c : Code} (E : EE Z p s m args c cX1_init RX1) (hX : Ext s) (hr : meth.sig.returnType = none) (hlk : meth.locks = false) (hml : c.maxLocals = 2) (hsz : s.heap.size = ad Z (cLn w) + 1) : ∀ (n i : Nat), 16 - i < n → i ≤ 16 → ∀ (H : Heap) (locs : List Loc), H.size = ad Z (cLn w) + (5 + i) → va_P (gD Z) vwCl (pw Z w i 0 0 (5 + i)) H → va_S (fun z => ad Z (cLn w) ≤ z) s.heap H locs → ∀ (ls : Array Slot), lv_has ls 2 [(1, .int (nI i)), (0, .ref (ad Z (cLn w)))] → W p l e ({ frames := 2, cells := 84, slots := 590, locals := 32 }) s m args below meth c H locs (4 + i) (46 + 4 * i) (MQ below (QI Z (lwl Z w) (ad Z (cLn w) + 85) (ad Z (cLn w))) args s 84 590 (fun x => ad Z (cLn w) ≤ x)) (F0 m 67 ls []) := by
  intro n
  induction n with
  | zero => intro i hm; exact absurd hm (by omega)
  | succ n ih =>
    intro i hm hi H locs hz hP hS ls hl
    refine lv_iload_n E.1 E.2.1 dX1_init_67 rfl (lv_at hl 0 rfl) ?_
    refine lv_bipush (v := 16) E.1 E.2.1 dX1_init_68 (by decide) ?_
    refine lv_icmp_ge (tgt := 92) E.1 E.2.1 dX1_init_70 (by decide) (fun hc => ?_) (fun hc => ?_)
    · have hd : 16 ≤ i := (nI_leI (a := 16) (by omega) (by omega)).mp hc
      have hi16 : i = 16 := by omega
      subst hi16
      refine lv_iconst (v := 0) E.1 E.2.1 dX1_init_92 (by decide) ?_
      refine lv_istore_n (lv' := [(1, .int 0), (0, .ref (ad Z (cLn w)))]) E.1 E.2.1 dX1_init_93 rfl hl (by decide) rfl (fun ls hl => ?_)
      exact li_94 l hq E hX hr hlk hml hsz 17 0 (by omega) (by omega) H locs hz hP hS ls hl
    · have hd : i < 16 := Nat.not_le.mp fun h => hc ((nI_leI (a := 16) (by omega) (by omega)).mpr h)
      have hqk : ad Z (cBk w i) = ad Z (cLn w) + (5 + i) := by rw [← hq (5 + i) (by omega)]; exact congrArg (ad Z) (by unfold cBk; omega)
      refine lv_aload_n E.1 E.2.1 dX1_init_73 rfl (lv_at hl 1 rfl) ?_
      refine va_get (v := .ref (ad Z (cBs w))) E.1 E.2.1 (Ts := gG) E.2.2.2.1 gC1 E.2.2.1 E.2.2.2.2 hP 0 (a := ad Z (cLn w)) (pw_at (by omega)) rfl 1 (by decide) (E.2.2.2.1 _ gw_21) (fun _ h => h) rfl dX1_init_74 ?_
      refine lv_iload_n E.1 E.2.1 dX1_init_77 rfl (lv_at hl 0 rfl) ?_
      refine n_obj E hP hS (ci := 0) (T := TX0) (N := 4) rfl gC0 tyX0 tyX0_ok gw_20 gw_27 gw_28 (fs := [.int 0, .int 0, .int 0, .int 0]) (fun j hj => by rcases (show j = 0 ∨ j = 1 ∨ j = 2 ∨ j = 3 by omega) with rfl | rfl | rfl | rfl <;> rfl) (by show _ + 1 ≤ 84; omega) (by show _ + 4 ≤ 590; omega) dX1_init_78 (h := ad Z (cBk w i)) (hz.trans hqk.symm) (fun H hz hP hS => ?_)
      refine lv_dup E.1 E.2.1 dX1_init_81 rfl ?_
      refine go_I (run_IN (rest := [.ref (ad Z (cBk w i)), .int (nI i), .ref (ad Z (cBs w))]) E hX hml hl.1 (c_X0_init l Z (ad Z (cBk w i))) k_X0_init ⟨rfl, rfl, Nat.le_of_ble_eq_true rfl, Nat.le_of_ble_eq_true rfl⟩ hX.1 hz (va_P_last hP) rfl (Nat.le_of_ble_eq_true rfl) ⟨by show _ + 0 ≤ 84; omega, by show _ + 0 ≤ 590; omega⟩ dX1_init_82) hS (fun x h => Nat.le_trans (by rw [hqk]; omega) h) (by rw [hz]; omega) (fun H1 locs hz1 hP1 hk hS => ?_)
      have hP := va_P_comb (va_P_init hP) (fun k p h => by rw [hqk]; exact pw_lt hq (by omega) k p h) hk hP1
      have hP : va_P (gD Z) vwCl (pw Z w i 0 0 (5 + i + 1)) H1 := by rw [pw_s, pc_bk hd, show ad Z (1 + 85 * w + (5 + i)) = ad Z (cBk w i) from congrArg (ad Z) (by unfold cBk; omega)]; exact hP
      refine z_astq E hz1 hP (pw_D hq (by omega)) hS 2 1 (5 + i) 0 (a := ad Z (cBs w)) (cA := Z.2.2.2.1) (n := 16) (f := fun j => if j < i then some (ad Z (cBk w j)) else none) (pw_x (m := 2) (by omega) (by unfold cBs; omega) rfl) rfl (v := ad Z (cBk w i)) (pw_x (m := 5 + i) (by omega) (by unfold cBk; omega) (pc_bk hd)) (r := (RX0, TX0, 4)) rfl (k := i) (nI_clamp (by omega)) (vp_in_nI (by omega) (by omega)) dX1_init_85 (fun H locs hz hP _ hS => ?_)
      rw [up_some (g := fun j => ad Z (cBk w j))] at hP
      have hP : va_P (gD Z) vwCl (pw Z w (i + 1) 0 0 (5 + i + 1)) H := by rw [← pw_set (i := 2) (c := cBs w) (nb := i) (nr := 0) (nt := 0) (by omega) (by unfold cBs; omega) rfl (fun m hm => by unfold pcell; rw [if_neg hm, if_neg hm])]; exact hP
      refine lv_iinc (v := nI (i + 1)) (lv' := [(1, .int (nI (i + 1))), (0, .ref (ad Z (cLn w)))]) E.1 E.2.1 dX1_init_86 hl (k := 0) rfl (nI_1 _) (by decide) rfl (fun ls hl => ?_)
      refine lv_goto (tgt := 67) E.1 E.2.1 dX1_init_89 (by decide) ?_
      refine W.cs (show 4 + i + 1 + 0 = 4 + (i + 1) by omega) (show 46 + 4 * i + 4 + 0 = 46 + 4 * (i + 1) by omega) ?_
      exact ih (i + 1) (by omega) (by omega) H locs (by rw [hz, hqk]; omega) (by rw [show 5 + (i + 1) = 5 + i + 1 by omega]; exact hP) hS ls hl
set_option maxHeartbeats 4000000 in
set_option maxRecDepth 20000 in
theorem li_46 (l : Launch) {Z : Gm} {w : Nat} (hq : ∀ m, m < 85 → ad Z (1 + 85 * w + m) = ad Z (cLn w) + m) {p : Program} {e : Env} {s : State} {m : MethodId} {args : Array Value} {below : List Frame} {meth : Method} {c : Code} (E : EE Z p s m args c cX1_init RX1) (hX : Ext s) (hr : meth.sig.returnType = none) (hlk : meth.locks = false) (hml : c.maxLocals = 2) (hsz : s.heap.size = ad Z (cLn w) + 1) : ∀ (n i : Nat), 6 - i < n → i ≤ 6 → ∀ (H : Heap) (locs : List Loc), H.size = ad Z (cLn w) + (5) → va_P (gD Z) vwCl ([(ad Z (cLn w), .inr (1, [.ref (ad Z (cPl w)), .ref (ad Z (cBs w)), .int 0, .ref (ad Z (cRs w)), .int 0, .ref (ad Z (cTs w)), .int 0, .int 0, .int 2, .int 0])), (ad Z (cPl w), .inl (Z.2.2.1, 6, .inl (fun j => if j < i then 2 else 0))), (ad Z (cBs w), .inl (Z.2.2.2.1, 16, .inr (.inr (.inr (.inr (fun _ => none)))))), (ad Z (cRs w), .inl (Z.2.2.2.2.1, 16, .inr (.inr (.inr (.inr (fun _ => none)))))), (ad Z (cTs w), .inl (Z.2.2.2.2.2, 8, .inr (.inr (.inr (.inr (fun _ => none))))))]) H → va_S (fun z => ad Z (cLn w) ≤ z) s.heap H locs → ∀ (ls : Array Slot), lv_has ls 2 [(1, .int (nI i)), (0, .ref (ad Z (cLn w)))] → W p l e ({ frames := 2, cells := 84, slots := 590, locals := 32 }) s m args below meth c H locs (4) (46) (MQ below (QI Z (lwl Z w) (ad Z (cLn w) + 85) (ad Z (cLn w))) args s 84 590 (fun x => ad Z (cLn w) ≤ x)) (F0 m 46 ls []) := by
  intro n
  induction n with
  | zero => intro i hm; exact absurd hm (by omega)
  | succ n ih =>
    intro i hm hi H locs hz hP hS ls hl
    refine lv_iload_n E.1 E.2.1 dX1_init_46 rfl (lv_at hl 0 rfl) ?_
    refine lv_bipush (v := 6) E.1 E.2.1 dX1_init_47 (by decide) ?_
    refine lv_icmp_ge (tgt := 65) E.1 E.2.1 dX1_init_49 (by decide) (fun hc => ?_) (fun hc => ?_)
    · have hd : 6 ≤ i := (nI_leI (a := 6) (by omega) (by omega)).mp hc
      have hi6 : i = 6 := by omega
      subst hi6
      refine lv_iconst (v := 0) E.1 E.2.1 dX1_init_65 (by decide) ?_
      refine lv_istore_n (lv' := [(1, .int 0), (0, .ref (ad Z (cLn w)))]) E.1 E.2.1 dX1_init_66 rfl hl (by decide) rfl (fun ls hl => ?_)
      have hP : va_P (gD Z) vwCl (pw Z w 0 0 0 5) H := by rw [pw_5]; exact hP
      exact li_67 l hq E hX hr hlk hml hsz 17 0 (by omega) (by omega) H locs hz hP hS ls hl
    · have hd : i < 6 := Nat.not_le.mp fun h => hc ((nI_leI (a := 6) (by omega) (by omega)).mpr h)
      have hq1 : ad Z (cPl w) = ad Z (cLn w) + 1 := by rw [← hq 1 (by decide)]; exact congrArg (ad Z) (by unfold cPl; omega)
      have hq2 : ad Z (cBs w) = ad Z (cLn w) + 2 := by rw [← hq 2 (by decide)]; exact congrArg (ad Z) (by unfold cBs; omega)
      have hq3 : ad Z (cRs w) = ad Z (cLn w) + 3 := by rw [← hq 3 (by decide)]; exact congrArg (ad Z) (by unfold cRs; omega)
      have hq4 : ad Z (cTs w) = ad Z (cLn w) + 4 := by rw [← hq 4 (by decide)]; exact congrArg (ad Z) (by unfold cTs; omega)
      refine lv_aload_n E.1 E.2.1 dX1_init_52 rfl (lv_at hl 1 rfl) ?_
      refine va_get (v := .ref (ad Z (cPl w))) E.1 E.2.1 (Ts := gG) E.2.2.2.1 gC1 E.2.2.1 E.2.2.2.2 hP 0 rfl rfl 0 (by decide) (E.2.2.2.1 _ gw_19) (fun _ h => h) rfl dX1_init_53 ?_
      refine lv_iload_n E.1 E.2.1 dX1_init_56 rfl (lv_at hl 0 rfl) ?_
      refine lv_iconst (v := 2) E.1 E.2.1 dX1_init_57 (by decide) ?_
      have hD : va_D (fun z => ad Z (cLn w) ≤ z) [(ad Z (cLn w), .inr (1, [.ref (ad Z (cPl w)), .ref (ad Z (cBs w)), .int 0, .ref (ad Z (cRs w)), .int 0, .ref (ad Z (cTs w)), .int 0, .int 0, .int 2, .int 0])), (ad Z (cPl w), .inl (Z.2.2.1, 6, .inl (fun j => if j < i then 2 else 0))), (ad Z (cBs w), .inl (Z.2.2.2.1, 16, .inr (.inr (.inr (.inr (fun _ => none)))))), (ad Z (cRs w), .inl (Z.2.2.2.2.1, 16, .inr (.inr (.inr (.inr (fun _ => none)))))), (ad Z (cTs w), .inl (Z.2.2.2.2.2, 8, .inr (.inr (.inr (.inr (fun _ => none))))))] := D_seq (ad Z (cLn w)) _ (fun k p h => by match k, h with | 0, h => cases h; exact rfl | 1, h => cases h; exact hq1 | 2, h => cases h; exact hq2 | 3, h => cases h; exact hq3 | 4, h => cases h; exact hq4 | k + 5, h => cases h)
      refine z_iast E hz hP hD hS 1 rfl (k := i) (nI_clamp (by omega)) (vp_in_nI (by omega) (by omega)) dX1_init_58 (fun H locs hz hP _ hS => ?_)
      have hP : va_P (gD Z) vwCl [(ad Z (cLn w), .inr (1, [.ref (ad Z (cPl w)), .ref (ad Z (cBs w)), .int 0, .ref (ad Z (cRs w)), .int 0, .ref (ad Z (cTs w)), .int 0, .int 0, .int 2, .int 0])), (ad Z (cPl w), .inl (Z.2.2.1, 6, .inl (fun j => if j < i + 1 then 2 else 0))), (ad Z (cBs w), .inl (Z.2.2.2.1, 16, .inr (.inr (.inr (.inr (fun _ => none)))))), (ad Z (cRs w), .inl (Z.2.2.2.2.1, 16, .inr (.inr (.inr (.inr (fun _ => none)))))), (ad Z (cTs w), .inl (Z.2.2.2.2.2, 8, .inr (.inr (.inr (.inr (fun _ => none))))))] H := by rw [← upd_two]; exact hP
      refine lv_iinc (v := nI (i + 1)) (lv' := [(1, .int (nI (i + 1))), (0, .ref (ad Z (cLn w)))]) E.1 E.2.1 dX1_init_59 hl (k := 0) rfl (nI_1 _) (by decide) rfl (fun ls hl => ?_)
      refine lv_goto (tgt := 46) E.1 E.2.1 dX1_init_62 (by decide) ?_
      exact ih (i + 1) (by omega) (by omega) H locs hz hP hS ls hl
set_option maxHeartbeats 4000000 in
set_option maxRecDepth 20000 in
theorem c_X1_init (l : Launch) (Z : Gm) (w : Nat) (hq : ∀ m, m < 85 → ad Z (1 + 85 * w + m) = ad Z (cLn w) + m) : Met l yX1_init (.code yX1_init cX1_init 2 none :: gG) ({ frames := 2, cells := 84, slots := 590, locals := 32 }) (PI Z [(ad Z (cLn w), .inr (1, [.null, .null, .int 0, .null, .int 0, .null, .int 0, .int 0, .int 0, .int 0]))] (ad Z (cLn w) + 1) [.ref (ad Z (cLn w))]) (QI Z (lwl Z w) (ad Z (cLn w) + 85) (ad Z (cLn w))) 84 590 (fun x => ad Z (cLn w) ≤ x) := by
  refine met_ofI (by decide +kernel) (Nat.le_of_ble_eq_true rfl) rfl ?_
  intro p e s m args below meth c ls E hX hin hr hlk hml hsz hP hl
  have E : EE Z p s m args c cX1_init RX1 := E
  have hl : lv_has ls 2 [(0, .ref (ad Z (cLn w)))] := hl
  have hS : va_S (fun z => ad Z (cLn w) ≤ z) s.heap s.heap [] := va_S.rf
  have hz : s.heap.size = ad Z (cLn w) + 1 := hsz
  have hq1 : ad Z (cPl w) = ad Z (cLn w) + 1 := by rw [← hq 1 (by decide)]; exact congrArg (ad Z) (by unfold cPl; omega)
  have hq2 : ad Z (cBs w) = ad Z (cLn w) + 2 := by rw [← hq 2 (by decide)]; exact congrArg (ad Z) (by unfold cBs; omega)
  have hq3 : ad Z (cRs w) = ad Z (cLn w) + 3 := by rw [← hq 3 (by decide)]; exact congrArg (ad Z) (by unfold cRs; omega)
  have hq4 : ad Z (cTs w) = ad Z (cLn w) + 4 := by rw [← hq 4 (by decide)]; exact congrArg (ad Z) (by unfold cTs; omega)
  refine lv_aload_n E.1 E.2.1 dX1_init_0 rfl (lv_at hl 0 rfl) ?_
  refine o_init E hml hl.1 gw_18 (Nat.le_of_ble_eq_true rfl) (Nat.le_of_ble_eq_true rfl) dX1_init_1 ?_
  refine lv_aload_n E.1 E.2.1 dX1_init_4 rfl (lv_at hl 0 rfl) ?_
  refine lv_bipush (v := 6) E.1 E.2.1 dX1_init_5 (by decide) ?_
  refine n_int (n := 6) E hP hS gw_3 (by decide) rfl (by decide) (Nat.le_of_ble_eq_true rfl) (Nat.le_of_ble_eq_true rfl) dX1_init_7 (h := ad Z (cPl w)) (hz.trans hq1.symm) (fun H hz hP hS => ?_)
  have hP : va_P (gD Z) vwCl [(ad Z (cLn w), .inr (1, [.null, .null, .int 0, .null, .int 0, .null, .int 0, .int 0, .int 0, .int 0])), (ad Z (cPl w), .inl (Z.2.2.1, 6, .inl (fun _ => 0)))] H := hP
  have hz : H.size = ad Z (cLn w) + 2 := by rw [hz, hq1]
  have hD : va_D (fun z => ad Z (cLn w) ≤ z) [(ad Z (cLn w), .inr (1, [.null, .null, .int 0, .null, .int 0, .null, .int 0, .int 0, .int 0, .int 0])), (ad Z (cPl w), .inl (Z.2.2.1, 6, .inl (fun _ => 0)))] := D_seq (ad Z (cLn w)) _ (fun k p h => by match k, h with | 0, h => cases h; exact rfl | 1, h => cases h; exact hq1 | k + 2, h => cases h)
  refine z_put E gC1 tyX1 tyX1_ok nmX1 hz hP hD hS 0 rfl rfl 0 (by decide) gw_19 rfl (fun _ => ⟨hin, rfl⟩) (ty := .array .int) (v := .ref (ad Z (cPl w))) (by decide +kernel) rfl rfl (Nat.le_of_ble_eq_true rfl) dX1_init_9 (fun H locs hz hP _ hS => ?_)
  have hP : va_P (gD Z) vwCl [(ad Z (cLn w), .inr (1, [.ref (ad Z (cPl w)), .null, .int 0, .null, .int 0, .null, .int 0, .int 0, .int 0, .int 0])), (ad Z (cPl w), .inl (Z.2.2.1, 6, .inl (fun _ => 0)))] H := hP
  refine lv_aload_n E.1 E.2.1 dX1_init_12 rfl (lv_at hl 0 rfl) ?_
  refine lv_bipush (v := 16) E.1 E.2.1 dX1_init_13 (by decide) ?_
  refine n_ref (n := 16) (t0 := 1) E hX.2.2.2.1 hP hS gw_20 rfl (by decide) rfl (by decide) (Nat.le_of_ble_eq_true rfl) (Nat.le_of_ble_eq_true rfl) dX1_init_15 (h := ad Z (cBs w)) (hz.trans hq2.symm) (fun H hz hP hS => ?_)
  have hP : va_P (gD Z) vwCl [(ad Z (cLn w), .inr (1, [.ref (ad Z (cPl w)), .null, .int 0, .null, .int 0, .null, .int 0, .int 0, .int 0, .int 0])), (ad Z (cPl w), .inl (Z.2.2.1, 6, .inl (fun _ => 0))), (ad Z (cBs w), .inl (Z.2.2.2.1, 16, .inr (.inr (.inr (.inr (fun _ => none))))))] H := hP
  have hz : H.size = ad Z (cLn w) + 3 := by rw [hz, hq2]
  have hD : va_D (fun z => ad Z (cLn w) ≤ z) [(ad Z (cLn w), .inr (1, [.ref (ad Z (cPl w)), .null, .int 0, .null, .int 0, .null, .int 0, .int 0, .int 0, .int 0])), (ad Z (cPl w), .inl (Z.2.2.1, 6, .inl (fun _ => 0))), (ad Z (cBs w), .inl (Z.2.2.2.1, 16, .inr (.inr (.inr (.inr (fun _ => none))))))] := D_seq (ad Z (cLn w)) _ (fun k p h => by match k, h with | 0, h => cases h; exact rfl | 1, h => cases h; exact hq1 | 2, h => cases h; exact hq2 | k + 3, h => cases h)
  refine z_put E gC1 tyX1 tyX1_ok nmX1 hz hP hD hS 0 rfl rfl 1 (by decide) gw_21 rfl (fun _ => ⟨hin, rfl⟩) (ty := .array (.object "SemaphoreBay$Block")) (v := .ref (ad Z (cBs w))) (by decide +kernel) rfl rfl (Nat.le_of_ble_eq_true rfl) dX1_init_18 (fun H locs hz hP _ hS => ?_)
  have hP : va_P (gD Z) vwCl [(ad Z (cLn w), .inr (1, [.ref (ad Z (cPl w)), .ref (ad Z (cBs w)), .int 0, .null, .int 0, .null, .int 0, .int 0, .int 0, .int 0])), (ad Z (cPl w), .inl (Z.2.2.1, 6, .inl (fun _ => 0))), (ad Z (cBs w), .inl (Z.2.2.2.1, 16, .inr (.inr (.inr (.inr (fun _ => none))))))] H := hP
  refine lv_aload_n E.1 E.2.1 dX1_init_21 rfl (lv_at hl 0 rfl) ?_
  refine lv_bipush (v := 16) E.1 E.2.1 dX1_init_22 (by decide) ?_
  refine n_ref (n := 16) (t0 := 2) E hX.2.2.2.2.1 hP hS gw_22 rfl (by decide) rfl (by decide) (Nat.le_of_ble_eq_true rfl) (Nat.le_of_ble_eq_true rfl) dX1_init_24 (h := ad Z (cRs w)) (hz.trans hq3.symm) (fun H hz hP hS => ?_)
  have hP : va_P (gD Z) vwCl [(ad Z (cLn w), .inr (1, [.ref (ad Z (cPl w)), .ref (ad Z (cBs w)), .int 0, .null, .int 0, .null, .int 0, .int 0, .int 0, .int 0])), (ad Z (cPl w), .inl (Z.2.2.1, 6, .inl (fun _ => 0))), (ad Z (cBs w), .inl (Z.2.2.2.1, 16, .inr (.inr (.inr (.inr (fun _ => none)))))), (ad Z (cRs w), .inl (Z.2.2.2.2.1, 16, .inr (.inr (.inr (.inr (fun _ => none))))))] H := hP
  have hz : H.size = ad Z (cLn w) + 4 := by rw [hz, hq3]
  have hD : va_D (fun z => ad Z (cLn w) ≤ z) [(ad Z (cLn w), .inr (1, [.ref (ad Z (cPl w)), .ref (ad Z (cBs w)), .int 0, .null, .int 0, .null, .int 0, .int 0, .int 0, .int 0])), (ad Z (cPl w), .inl (Z.2.2.1, 6, .inl (fun _ => 0))), (ad Z (cBs w), .inl (Z.2.2.2.1, 16, .inr (.inr (.inr (.inr (fun _ => none)))))), (ad Z (cRs w), .inl (Z.2.2.2.2.1, 16, .inr (.inr (.inr (.inr (fun _ => none))))))] := D_seq (ad Z (cLn w)) _ (fun k p h => by match k, h with | 0, h => cases h; exact rfl | 1, h => cases h; exact hq1 | 2, h => cases h; exact hq2 | 3, h => cases h; exact hq3 | k + 4, h => cases h)
  refine z_put E gC1 tyX1 tyX1_ok nmX1 hz hP hD hS 0 rfl rfl 3 (by decide) gw_23 rfl (fun _ => ⟨hin, rfl⟩) (ty := .array (.object "SemaphoreBay$Route")) (v := .ref (ad Z (cRs w))) (by decide +kernel) rfl rfl (Nat.le_of_ble_eq_true rfl) dX1_init_27 (fun H locs hz hP _ hS => ?_)
  have hP : va_P (gD Z) vwCl [(ad Z (cLn w), .inr (1, [.ref (ad Z (cPl w)), .ref (ad Z (cBs w)), .int 0, .ref (ad Z (cRs w)), .int 0, .null, .int 0, .int 0, .int 0, .int 0])), (ad Z (cPl w), .inl (Z.2.2.1, 6, .inl (fun _ => 0))), (ad Z (cBs w), .inl (Z.2.2.2.1, 16, .inr (.inr (.inr (.inr (fun _ => none)))))), (ad Z (cRs w), .inl (Z.2.2.2.2.1, 16, .inr (.inr (.inr (.inr (fun _ => none))))))] H := hP
  refine lv_aload_n E.1 E.2.1 dX1_init_30 rfl (lv_at hl 0 rfl) ?_
  refine lv_bipush (v := 8) E.1 E.2.1 dX1_init_31 (by decide) ?_
  refine n_ref (n := 8) (t0 := 3) E hX.2.2.2.2.2 hP hS gw_24 rfl (by decide) rfl (by decide) (Nat.le_of_ble_eq_true rfl) (Nat.le_of_ble_eq_true rfl) dX1_init_33 (h := ad Z (cTs w)) (hz.trans hq4.symm) (fun H hz hP hS => ?_)
  have hP : va_P (gD Z) vwCl [(ad Z (cLn w), .inr (1, [.ref (ad Z (cPl w)), .ref (ad Z (cBs w)), .int 0, .ref (ad Z (cRs w)), .int 0, .null, .int 0, .int 0, .int 0, .int 0])), (ad Z (cPl w), .inl (Z.2.2.1, 6, .inl (fun _ => 0))), (ad Z (cBs w), .inl (Z.2.2.2.1, 16, .inr (.inr (.inr (.inr (fun _ => none)))))), (ad Z (cRs w), .inl (Z.2.2.2.2.1, 16, .inr (.inr (.inr (.inr (fun _ => none)))))), (ad Z (cTs w), .inl (Z.2.2.2.2.2, 8, .inr (.inr (.inr (.inr (fun _ => none))))))] H := hP
  have hz : H.size = ad Z (cLn w) + 5 := by rw [hz, hq4]
  have hD : va_D (fun z => ad Z (cLn w) ≤ z) [(ad Z (cLn w), .inr (1, [.ref (ad Z (cPl w)), .ref (ad Z (cBs w)), .int 0, .ref (ad Z (cRs w)), .int 0, .null, .int 0, .int 0, .int 0, .int 0])), (ad Z (cPl w), .inl (Z.2.2.1, 6, .inl (fun _ => 0))), (ad Z (cBs w), .inl (Z.2.2.2.1, 16, .inr (.inr (.inr (.inr (fun _ => none)))))), (ad Z (cRs w), .inl (Z.2.2.2.2.1, 16, .inr (.inr (.inr (.inr (fun _ => none)))))), (ad Z (cTs w), .inl (Z.2.2.2.2.2, 8, .inr (.inr (.inr (.inr (fun _ => none))))))] := D_seq (ad Z (cLn w)) _ (fun k p h => by match k, h with | 0, h => cases h; exact rfl | 1, h => cases h; exact hq1 | 2, h => cases h; exact hq2 | 3, h => cases h; exact hq3 | 4, h => cases h; exact hq4 | k + 5, h => cases h)
  refine z_put E gC1 tyX1 tyX1_ok nmX1 hz hP hD hS 0 rfl rfl 5 (by decide) gw_25 rfl (fun _ => ⟨hin, rfl⟩) (ty := .array (.object "SemaphoreBay$Train")) (v := .ref (ad Z (cTs w))) (by decide +kernel) rfl rfl (Nat.le_of_ble_eq_true rfl) dX1_init_36 (fun H locs hz hP _ hS => ?_)
  have hP : va_P (gD Z) vwCl [(ad Z (cLn w), .inr (1, [.ref (ad Z (cPl w)), .ref (ad Z (cBs w)), .int 0, .ref (ad Z (cRs w)), .int 0, .ref (ad Z (cTs w)), .int 0, .int 0, .int 0, .int 0])), (ad Z (cPl w), .inl (Z.2.2.1, 6, .inl (fun _ => 0))), (ad Z (cBs w), .inl (Z.2.2.2.1, 16, .inr (.inr (.inr (.inr (fun _ => none)))))), (ad Z (cRs w), .inl (Z.2.2.2.2.1, 16, .inr (.inr (.inr (.inr (fun _ => none)))))), (ad Z (cTs w), .inl (Z.2.2.2.2.2, 8, .inr (.inr (.inr (.inr (fun _ => none))))))] H := hP
  refine lv_aload_n E.1 E.2.1 dX1_init_39 rfl (lv_at hl 0 rfl) ?_
  refine lv_iconst (v := 2) E.1 E.2.1 dX1_init_40 (by decide) ?_
  have hD : va_D (fun z => ad Z (cLn w) ≤ z) [(ad Z (cLn w), .inr (1, [.ref (ad Z (cPl w)), .ref (ad Z (cBs w)), .int 0, .ref (ad Z (cRs w)), .int 0, .ref (ad Z (cTs w)), .int 0, .int 0, .int 0, .int 0])), (ad Z (cPl w), .inl (Z.2.2.1, 6, .inl (fun _ => 0))), (ad Z (cBs w), .inl (Z.2.2.2.1, 16, .inr (.inr (.inr (.inr (fun _ => none)))))), (ad Z (cRs w), .inl (Z.2.2.2.2.1, 16, .inr (.inr (.inr (.inr (fun _ => none)))))), (ad Z (cTs w), .inl (Z.2.2.2.2.2, 8, .inr (.inr (.inr (.inr (fun _ => none))))))] := D_seq (ad Z (cLn w)) _ (fun k p h => by match k, h with | 0, h => cases h; exact rfl | 1, h => cases h; exact hq1 | 2, h => cases h; exact hq2 | 3, h => cases h; exact hq3 | 4, h => cases h; exact hq4 | k + 5, h => cases h)
  refine z_put E gC1 tyX1 tyX1_ok nmX1 hz hP hD hS 0 rfl rfl 8 (by decide) gw_26 rfl (fun h => by cases h) (ty := .int) (v := .int 2) (by decide +kernel) rfl rfl (Nat.le_of_ble_eq_true rfl) dX1_init_41 (fun H locs hz hP _ hS => ?_)
  have hP : va_P (gD Z) vwCl [(ad Z (cLn w), .inr (1, [.ref (ad Z (cPl w)), .ref (ad Z (cBs w)), .int 0, .ref (ad Z (cRs w)), .int 0, .ref (ad Z (cTs w)), .int 0, .int 0, .int 2, .int 0])), (ad Z (cPl w), .inl (Z.2.2.1, 6, .inl (fun _ => 0))), (ad Z (cBs w), .inl (Z.2.2.2.1, 16, .inr (.inr (.inr (.inr (fun _ => none)))))), (ad Z (cRs w), .inl (Z.2.2.2.2.1, 16, .inr (.inr (.inr (.inr (fun _ => none)))))), (ad Z (cTs w), .inl (Z.2.2.2.2.2, 8, .inr (.inr (.inr (.inr (fun _ => none))))))] H := hP
  refine lv_iconst (v := 0) E.1 E.2.1 dX1_init_44 (by decide) ?_
  refine lv_istore_n (lv' := [(1, .int 0), (0, .ref (ad Z (cLn w)))]) E.1 E.2.1 dX1_init_45 rfl hl (by decide) rfl (fun ls hl => ?_)
  have hP : va_P (gD Z) vwCl [(ad Z (cLn w), .inr (1, [.ref (ad Z (cPl w)), .ref (ad Z (cBs w)), .int 0, .ref (ad Z (cRs w)), .int 0, .ref (ad Z (cTs w)), .int 0, .int 0, .int 2, .int 0])), (ad Z (cPl w), .inl (Z.2.2.1, 6, .inl (fun j => if j < 0 then 2 else 0))), (ad Z (cBs w), .inl (Z.2.2.2.1, 16, .inr (.inr (.inr (.inr (fun _ => none)))))), (ad Z (cRs w), .inl (Z.2.2.2.2.1, 16, .inr (.inr (.inr (.inr (fun _ => none)))))), (ad Z (cTs w), .inl (Z.2.2.2.2.2, 8, .inr (.inr (.inr (.inr (fun _ => none))))))] H := by rw [show (fun j : Nat => if j < 0 then (2 : Int32) else 0) = fun _ => 0 from funext fun j => if_neg (Nat.not_lt_zero j)]; exact hP
  exact li_46 l hq E hX hr hlk hml hsz 7 0 (by omega) (by omega) H locs hz hP hS ls hl
