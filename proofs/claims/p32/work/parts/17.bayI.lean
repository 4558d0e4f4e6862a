/-! The constructor of the bay. -/
theorem lwl_at {Z : Gm} {w m : Nat} (h : m < 85) : (lwl Z w)[m]? = some (ad Z (1 + 85 * w + m), lineCell Z w initS m) := by simp [lwl, h]
theorem lwl_len (Z : Gm) (w : Nat) : (lwl Z w).length = 85 := by simp [lwl]
def b1 (Z : Gm) (x : List Value) : va_W := (ad Z 0, .inr (4, x)) :: lwl Z 0
def b2 (Z : Gm) (x : List Value) : va_W := (ad Z 0, .inr (4, x)) :: (lwl Z 0 ++ lwl Z 1)
theorem l2_at {Z : Gm} {k : Nat} (h : k < 170) : (lwl Z 0 ++ lwl Z 1)[k]? = some (ad Z (1 + k), lineCell Z (k / 85) initS (k % 85)) := by
  by_cases h1 : k < 85
  · rw [List.getElem?_append_left (by rw [lwl_len]; exact h1), lwl_at h1, show k / 85 = 0 by omega, show k % 85 = k by omega, show 1 + 85 * 0 + k = 1 + k by omega]
  · rw [List.getElem?_append_right (by rw [lwl_len]; omega), lwl_len, lwl_at (by omega), show k / 85 = 1 by omega, show k % 85 = k - 85 by omega, show 1 + 85 * 1 + (k - 85) = 1 + k by omega]
theorem b2_bw (Z : Gm) : b2 Z [.ref (ad Z (cLn 0)), .ref (ad Z (cLn 1))] = bw Z (fun _ => initS) := by
  apply List.ext_getElem?
  intro k
  match k with
  | 0 => rfl
  | k + 1 =>
    by_cases hk : k < 170
    · rw [bw_at (by omega)]
      show (lwl Z 0 ++ lwl Z 1)[k]? = _
      rw [l2_at hk, cell_at (w := k / 85) (m := k % 85) (S := initS) (by omega) (by omega) rfl, show 1 + k = k + 1 by omega]
    · have a1 : (b2 Z [.ref (ad Z (cLn 0)), .ref (ad Z (cLn 1))])[k + 1]? = none := List.getElem?_eq_none (by simp [b2, lwl]; omega)
      have a2 : (bw Z (fun _ => initS))[k + 1]? = none := List.getElem?_eq_none (by simp [bw]; omega)
      rw [a1, a2]
theorem b1_D {Z : Gm} (hq : ∀ n, n < 171 → ad Z n = ad Z 0 + n) (x : List Value) : va_D (fun z => ad Z 0 ≤ z) (b1 Z x) := D_seq (ad Z 0) _ (fun k p h => by
  match k, h with
  | 0, h => cases h; rfl
  | k + 1, h =>
    have hk : k < 85 := by
      have := (List.getElem?_eq_some_iff.mp h).1
      simp [b1, lwl] at this
      omega
    have h2 : (lwl Z 0)[k]? = some p := h
    rw [lwl_at hk] at h2
    cases h2
    show ad Z (1 + 85 * 0 + k) = _
    rw [hq _ (by omega)]
    omega)
theorem b2_D {Z : Gm} (hq : ∀ n, n < 171 → ad Z n = ad Z 0 + n) (x : List Value) : va_D (fun z => ad Z 0 ≤ z) (b2 Z x) := D_seq (ad Z 0) _ (fun k p h => by
  match k, h with
  | 0, h => cases h; rfl
  | k + 1, h =>
    have hk : k < 170 := by
      have := (List.getElem?_eq_some_iff.mp h).1
      simp [b2, lwl] at this
      omega
    have h2 : (lwl Z 0 ++ lwl Z 1)[k]? = some p := h
    rw [l2_at hk] at h2
    cases h2
    show ad Z (1 + k) = _
    rw [hq _ (by omega)]
    omega)
theorem b1_lt {Z : Gm} (hq : ∀ n, n < 171 → ad Z n = ad Z 0 + n) (x : List Value) : ∀ (k : Nat) (p : Nat × va_E), (b1 Z x)[k]? = some p → p.1 < ad Z (cLn 1) := fun k p h => by
  rw [hq (cLn 1) (by decide)]
  match k, h with
  | 0, h => cases h; show ad Z 0 < ad Z 0 + 86; omega
  | k + 1, h =>
    have hk : k < 85 := by
      have := (List.getElem?_eq_some_iff.mp h).1
      simp [b1, lwl] at this
      omega
    have h2 : (lwl Z 0)[k]? = some p := h
    rw [lwl_at hk] at h2
    cases h2
    show ad Z (1 + 85 * 0 + k) < ad Z 0 + 86
    rw [hq _ (by omega)]
    omega
theorem hq_w {Z : Gm} (hq : ∀ n, n < 171 → ad Z n = ad Z 0 + n) (w : Nat) (hw : w < 2) : ∀ m, m < 85 → ad Z (1 + 85 * w + m) = ad Z (cLn w) + m := fun m hm => by
  rw [hq _ (by omega), hq (cLn w) (by unfold cLn; omega)]
  unfold cLn
  omega
set_option maxHeartbeats 4000000 in
set_option maxRecDepth 20000 in
theorem c_X4_init (l : Launch) (Z : Gm) (hq : ∀ n, n < 171 → ad Z n = ad Z 0 + n) : Met l yX4_init (.code yX4_init cX4_init 1 none :: gG) ({ frames := 3, cells := 170, slots := 1200, locals := 53 }) (PI Z [(ad Z 0, .inr (4, [.null, .null]))] (ad Z 0 + 1) [.ref (ad Z 0)]) (QI Z (bw Z (fun _ => initS)) (ad Z 0 + 171) (ad Z 0)) 170 1200 (fun x => ad Z 0 ≤ x) := by
  refine met_ofI (by decide +kernel) (Nat.le_of_ble_eq_true rfl) rfl ?_
  intro p e s m args below meth c ls E hX hin hr hlk hml hsz hP hl
  have E : EE Z p s m args c cX4_init RX4 := E
  have hl : lv_has ls 1 [(0, .ref (ad Z 0))] := hl
  have hS : va_S (fun z => ad Z 0 ≤ z) s.heap s.heap [] := va_S.rf
  have hz : s.heap.size = ad Z 0 + 1 := hsz
  have hq1 : ad Z (cLn 0) = ad Z 0 + 1 := hq (cLn 0) (by decide)
  have hq2 : ad Z (cLn 1) = ad Z 0 + 86 := hq (cLn 1) (by decide)
  refine lv_aload_n E.1 E.2.1 dX4_init_0 rfl (lv_at hl 0 rfl) ?_
  refine o_init E hml hl.1 gw_7 (Nat.le_of_ble_eq_true rfl) (Nat.le_of_ble_eq_true rfl) dX4_init_1 ?_
  refine lv_aload_n E.1 E.2.1 dX4_init_4 rfl (lv_at hl 0 rfl) ?_
  refine n_obj E hP hS (ci := 1) (T := TX1) (N := 10) rfl gC1 tyX1 tyX1_ok gw_10 gw_11 gw_12 (fs := [.null, .null, .int 0, .null, .int 0, .null, .int 0, .int 0, .int 0, .int 0]) (fun j hj => by rcases (show j = 0 ∨ j = 1 ∨ j = 2 ∨ j = 3 ∨ j = 4 ∨ j = 5 ∨ j = 6 ∨ j = 7 ∨ j = 8 ∨ j = 9 by omega) with rfl | rfl | rfl | rfl | rfl | rfl | rfl | rfl | rfl | rfl <;> rfl) (Nat.le_of_ble_eq_true rfl) (Nat.le_of_ble_eq_true rfl) dX4_init_5 (h := ad Z (cLn 0)) (hz.trans hq1.symm) (fun H hz hP hS => ?_)
  refine lv_dup E.1 E.2.1 dX4_init_8 rfl ?_
  refine go_I (run_I (rest := [.ref (ad Z (cLn 0)), .ref (ad Z 0)]) E hX hml hl.1 (c_X1_init l Z 0 (hq_w hq 0 (by decide))) k_X1_init ⟨rfl, rfl, Nat.le_of_ble_eq_true rfl, Nat.le_of_ble_eq_true rfl⟩ gw_15 hz (va_P_last hP) rfl (Nat.le_of_ble_eq_true rfl) ⟨Nat.le_of_ble_eq_true rfl, Nat.le_of_ble_eq_true rfl⟩ dX4_init_9) hS (fun x h => Nat.le_trans (by rw [hq1]; omega) h) (by rw [hz]; omega) (fun H1 locs hz1 hP1 hk hS => ?_)
  have hP := va_P_comb (va_P_init hP) (fun k p h => by match k, h with | 0, h => cases h; show ad Z 0 < ad Z (cLn 0); rw [hq1]; omega | k + 1, h => cases h) hk hP1
  have hP : va_P (gD Z) vwCl (b1 Z [.null, .null]) H1 := hP
  have hz1 : H1.size = ad Z 0 + 86 := by rw [hz1, hq1]
  refine z_put E gC4 tyX4 tyX4_ok nmX4 hz1 hP (b1_D hq _) hS 0 rfl rfl 0 (by decide) gw_13 rfl (fun _ => ⟨hin, rfl⟩) (ty := .object "SemaphoreBay$Line") (v := .ref (ad Z (cLn 0))) (by decide +kernel) rfl rfl (Nat.le_of_ble_eq_true rfl) dX4_init_12 (fun H locs hz hP _ hS => ?_)
  have hP : va_P (gD Z) vwCl (b1 Z [.ref (ad Z (cLn 0)), .null]) H := hP
  refine lv_aload_n E.1 E.2.1 dX4_init_15 rfl (lv_at hl 0 rfl) ?_
  refine n_obj E hP hS (ci := 1) (T := TX1) (N := 10) rfl gC1 tyX1 tyX1_ok gw_10 gw_11 gw_12 (fs := [.null, .null, .int 0, .null, .int 0, .null, .int 0, .int 0, .int 0, .int 0]) (fun j hj => by rcases (show j = 0 ∨ j = 1 ∨ j = 2 ∨ j = 3 ∨ j = 4 ∨ j = 5 ∨ j = 6 ∨ j = 7 ∨ j = 8 ∨ j = 9 by omega) with rfl | rfl | rfl | rfl | rfl | rfl | rfl | rfl | rfl | rfl <;> rfl) (Nat.le_of_ble_eq_true rfl) (Nat.le_of_ble_eq_true rfl) dX4_init_16 (h := ad Z (cLn 1)) (hz.trans hq2.symm) (fun H hz hP hS => ?_)
  refine lv_dup E.1 E.2.1 dX4_init_19 rfl ?_
  refine go_I (run_I (rest := [.ref (ad Z (cLn 1)), .ref (ad Z 0)]) E hX hml hl.1 (c_X1_init l Z 1 (hq_w hq 1 (by decide))) k_X1_init ⟨rfl, rfl, Nat.le_of_ble_eq_true rfl, Nat.le_of_ble_eq_true rfl⟩ gw_15 hz (va_P_last hP) rfl (Nat.le_of_ble_eq_true rfl) ⟨Nat.le_of_ble_eq_true rfl, Nat.le_of_ble_eq_true rfl⟩ dX4_init_20) hS (fun x h => Nat.le_trans (by rw [hq2]; omega) h) (by rw [hz]; omega) (fun H1 locs hz1 hP1 hk hS => ?_)
  have hP := va_P_comb (va_P_init hP) (b1_lt hq _) hk hP1
  have hP : va_P (gD Z) vwCl (b2 Z [.ref (ad Z (cLn 0)), .null]) H1 := hP
  have hz1 : H1.size = ad Z 0 + 171 := by rw [hz1, hq2]
  refine z_put E gC4 tyX4 tyX4_ok nmX4 hz1 hP (b2_D hq _) hS 0 rfl rfl 1 (by decide) gw_14 rfl (fun _ => ⟨hin, rfl⟩) (ty := .object "SemaphoreBay$Line") (v := .ref (ad Z (cLn 1))) (by decide +kernel) rfl rfl (Nat.le_of_ble_eq_true rfl) dX4_init_23 (fun H locs hz hP _ hS => ?_)
  have hP : va_P (gD Z) vwCl (b2 Z [.ref (ad Z (cLn 0)), .ref (ad Z (cLn 1))]) H := hP
  have hP : va_P (gD Z) vwCl (bw Z (fun _ => initS)) H := by rw [← b2_bw]; exact hP
  exact W.vret E.1 E.2.1 hr (fun t ht _ => ⟨rfl, by rw [ht]; exact hz, by rw [ht]; exact hP, fun x hx => by rw [ht]; exact hS.2.1 x (by omega) (Nat.not_le.mpr hx)⟩) hS.2.2 dX4_init_26 (hlocks := hlk)
