/-! A train sets out, or waits. -/
section TURN
variable {S0 S S' : St} {b n i k r p : Nat}
theorem fnc_spec (C : Stc S0 b n) (F : Fr b n S0 S) (hr : r < 8) (x : Int32) : ∀ m j0 : Nat, j0 + m ≤ sC S0 r → (fncL S r x m j0 = -1 ∧ ∀ j, j0 ≤ j → j < j0 + m → clearF S (nI (sB S0 r j)) x = true) ∨ ∃ j, j < sC S0 r ∧ fncL S r x m j0 = nI (sB S0 r j)
  | 0, j0, _ => Or.inl ⟨rfl, fun j h1 h2 => absurd h2 (by omega)⟩
  | m + 1, j0, h => by
    unfold fncL
    rw [bAt C F hr (by omega)]
    by_cases hc : clearF S (nI (sB S0 r j0)) x = true
    · rw [if_pos hc]
      rcases fnc_spec C F hr x m (j0 + 1) (by omega) with ⟨h1, h2⟩ | h1
      · refine Or.inl ⟨h1, fun j a1 a2 => ?_⟩
        by_cases e : j = j0
        · rw [e]; exact hc
        · exact h2 j (by omega) (by omega)
      · exact Or.inr h1
    · rw [if_neg hc]
      exact Or.inr ⟨j0, by omega, rfl⟩
theorem toClear_v (C : Stc S0 b n) (F : Fr b n S0 S) (hr : r < 8) : (toClearF S r).toNatClampNeg = if S0 22 r 0 = 0 then 1 else sC S0 r := by
  have h := C.cnt hr
  unfold toClearF
  rw [F.st (f := 22) (by decide), F.st (f := 23) (by decide), h.1]
  split
  · rfl
  · exact nI_clamp (by omega)
theorem fncF_spec (C : Stc S0 b n) (F : Fr b n S0 S) (hr : r < 8) (x : Int32) : (fncF S r x = -1 ∧ ∀ j, (j = 0 ∨ S0 22 r 0 = 1) → j < sC S0 r → clearF S (nI (sB S0 r j)) x = true) ∨ ∃ j, j < sC S0 r ∧ fncF S r x = nI (sB S0 r j) := by
  have h := C.cnt hr
  have hv := toClear_v C F hr
  unfold fncF
  have hm : 0 + (toClearF S r).toNatClampNeg ≤ sC S0 r := by rw [hv]; split <;> omega
  rcases fnc_spec C F hr x _ 0 hm with ⟨h1, h2⟩ | h1
  · refine Or.inl ⟨h1, fun j hj hj2 => h2 j (by omega) ?_⟩
    rw [hv]
    rcases hj with rfl | hj
    · split <;> omega
    · rw [hj, if_neg (by decide)]; omega
  · exact Or.inr h1
theorem notHeld (C : Stc S0 b n) (I : Inv b n S0 S) (hi : i < n) (h38 : S 38 i 0 = -1) {x : Nat} (hx : x < b) : S 11 x 0 ≠ nI i := fun e => by
  have := C.n5
  rcases I.2.2.2.1 x hx with h | ⟨k, r, p, hk, o, q⟩
  · exact m1_ne (by omega) (e.symm.trans h)
  · have h2 := I.2.2.1 k r p hk o
    rw [q, e] at h2
    have hki : i = k := nI_inj (by omega) (by omega) h2
    subst hki
    exact o.n38 h38
theorem blame_ok (C : Stc S0 b n) (I : Inv b n S0 S) (hi : i < n) (h38 : S 38 i 0 = -1) (hr : r < 8) : blameF S r (nI i) = -1 ∨ ∃ q, q < n ∧ q ≠ i ∧ blameF S r (nI i) = nI q := by
  unfold blameF
  rcases fncF_spec C I.1 hr (nI i) with ⟨h, -⟩ | ⟨j, hj, h⟩
  · rw [h]
    exact Or.inl (if_pos (by decide))
  · rw [h]
    exact inWay_ok C I (C.blk hr hj).2 (notHeld C I hi h38 (C.blk hr hj).2)
theorem room_v (C : Stc S0 b n) (F : Fr b n S0 S) {y : Nat} (hy : y < 6) : hasRoomF S (nI y) = true ↔ cntTo (atQ S (nI y)) n + cntTo (wayQ S (nI y)) n < 2 := by
  have h1 := cnt_le (atQ S (nI y)) n
  have h2 := cnt_le (wayQ S (nI y)) n
  have h5 := C.n5
  unfold hasRoomF
  rw [if_neg (nI_pos (by omega)), if_neg (show ¬ (6 : Int32) ≤ nI y from le_no (a := 6) (by omega) (by omega)), nI_clamp (by omega), nT_F C F, F.st (f := 0) (by decide), C.pl hy, nI_add]
  constructor
  · intro h
    have h := of_decide_eq_true h
    exact Nat.not_le.mp fun q => h (nI_le (a := 2) q (by omega))
  · intro h
    exact decide_eq_true (show ¬ (2 : Int32) ≤ _ from le_no (a := 2) h (by omega))
theorem open_spec (C : Stc S0 b n) (F : Fr b n S0 S) (hr : r < 8) (ho : openF S r (nI i) = true) : (∀ j, (j = 0 ∨ S0 22 r 0 = 1) → j < sC S0 r → clearF S (nI (sB S0 r j)) (nI i) = true) ∧ ∀ y, y < 6 → S0 21 r 0 = nI y → cntTo (atQ S (nI y)) n + cntTo (wayQ S (nI y)) n < 2 := by
  unfold openF at ho
  rw [Bool.and_eq_true] at ho
  obtain ⟨h1, h2⟩ := ho
  have h2 := of_decide_eq_true h2
  refine ⟨?_, fun y hy e => ?_⟩
  · rcases fncF_spec C F hr (nI i) with ⟨-, h⟩ | ⟨j, hj, h⟩
    · exact h
    · have := C.b16
      have := (C.blk hr hj).2
      rw [h2] at h
      exact absurd h.symm (m1_ne (by omega))
  · rw [F.st (f := 21) (by decide), e] at h1
    exact (room_v C F hy).mp h1
theorem pred_v {m : Nat} (h : 1 ≤ m) : nI m - 1 = nI (m - 1) := by
  have := nI_pred (m - 1)
  rw [show m - 1 + 1 = m by omega] at this
  exact this
theorem last_v (C : Stc S0 b n) (F : Fr b n S0 S) (hi : i < n) {ls : Nat} (hls : S 35 i 0 = nI ls) (h8 : ls < 8) : lastF S i = false ↔ ls + 1 < sP S0 i := by
  have h := C.stp hi
  unfold lastF
  rw [hls, F.st (f := 32) (by decide), h.1, pred_v h.2.1]
  constructor
  · intro q
    have q := of_decide_eq_false q
    exact Nat.not_le.mp fun w => q (nI_nlt (by omega) (by omega))
  · intro q
    exact decide_eq_false (not_not_intro (nI_lt (by omega) (by omega)))
theorem leads_v (C : Stc S0 b n) (F : Fr b n S0 S) (hi : i < n) {ls : Nat} (hls : S 35 i 0 = nI ls) (hl : ls + 1 < sP S0 i) (h : leadsF S r i = true) : S0 33 i (ls + 1) = S0 21 r 0 := by
  have hs := C.stp hi
  unfold leadsF joinsF stationF at h
  have h := (of_decide_eq_true h).2
  rw [hls, nI_1, if_neg (nI_pos (by omega)), if_neg (show ¬ (8 : Int32) ≤ nI (ls + 1) from le_no (a := 8) (by omega) (by omega)), nI_clamp (by omega), F.st (f := 21) (by decide), F.st (f := 33) (by decide)] at h
  exact h.symm
theorem lockI_v (C : Stc S0 b n) (F : Fr b n S0 S) (hi : i < n) (hr : r < 8) : ∀ m : Nat, m + 1 ≤ sC S0 r → Fr b n S0 (lockI S i r m) ∧ ∀ x, lockI S i r m 12 x 0 = S 12 x 0 ∨ ∃ j, 0 < j ∧ j < m + 1 ∧ sB S0 r j = x ∧ lockI S i r m 12 x 0 = nI i
  | 0, _ => ⟨F, fun _ => Or.inl rfl⟩
  | m + 1, h => by
    obtain ⟨h1, h2⟩ := lockI_v C F hi hr m (by omega)
    have hb := C.blk hr (show m + 1 < sC S0 r by omega)
    have := C.b16
    have e : lockI S i r (m + 1) = up (lockI S i r m) 12 (sB S0 r (m + 1)) 0 (nI i) := by
      show (if blockAtF S r (nI (m + 1)) < 0 then lockI S i r m else if S 2 0 0 ≤ blockAtF S r (nI (m + 1)) then lockI S i r m else up (lockI S i r m) 12 (blockAtF S r (nI (m + 1))).toNatClampNeg 0 (nI i)) = _
      rw [bAt C F hr (by omega), F.st (f := 2) (by decide), C.f2, if_neg (nI_pos (by omega)), if_neg (le_no hb.2 (by omega)), nI_clamp (by omega)]
    rw [e]
    refine ⟨Fr_up (by unfold FT; omega) h1, fun x => ?_⟩
    rw [up_12]
    by_cases hx : x = sB S0 r (m + 1)
    · rw [if_pos hx]
      exact Or.inr ⟨m + 1, by omega, by omega, hx.symm, rfl⟩
    · rw [if_neg hx]
      rcases h2 x with h | ⟨j, a1, a2, a3, a4⟩
      · exact Or.inl h
      · exact Or.inr ⟨j, a1, by omega, a3, a4⟩
theorem ready_at (h : readyF S i = true) : S 36 i 0 ≠ -1 ∧ lastF S i = false := by
  unfold readyF atStF at h
  rw [Bool.and_eq_true, Bool.and_eq_true] at h
  refine ⟨of_decide_eq_true h.1, ?_⟩
  cases hl : lastF S i
  · rfl
  · rw [hl] at h; exact absurd h.2.1 (by decide)
theorem ready_cg (h1 : ∀ f j, 30 ≤ f → f < 43 → S' f k j = S f k j) (h2 : ∀ f k j, f < 10 → S' f k j = S f k j) : readyF S' k = readyF S k := by
  unfold readyF atStF lastF timeF
  rw [h1 36 0 (by omega) (by omega), h1 35 0 (by omega) (by omega), h1 32 0 (by omega) (by omega), h1 34 _ (by omega) (by omega), h1 37 0 (by omega) (by omega), h1 41 0 (by omega) (by omega), h2 9 0 0 (by omega), h2 8 0 0 (by omega)]
theorem ready_no (h : S 36 i 0 = -1) : readyF S i = false := by
  unfold readyF atStF
  rw [h]
  rfl
def Trn (b n : Nat) (S0 S S' : St) (i : Nat) : Prop := Inv b n S0 S' ∧ Oth S S' i ∧ ((Wt n S S' i ∧ readyF S' i = readyF S i) ∨ (Nt S S' i ∧ readyF S' i = false ∧ atEndF S' i = false))
theorem setOut_ok (C : Stc S0 b n) (I : Inv b n S0 S) (hi : i < n) (A : AtS S0 S i) (hnl : lastF S i = false) (hr : r < 8) (hl : leadsF S r i = true) (ho : openF S r (nI i) = true) : Trn b n S0 S (setOutF S i r) i := by
  have F := I.1
  have hcnt := C.cnt hr
  have h0c : 0 < sC S0 r := by omega
  have hB := C.blk hr h0c
  obtain ⟨x, ls, hx, hlsP, h36, h38, h40, h35, h33⟩ := id A
  have hls1 : ls + 1 < sP S0 i := (last_v C F hi h35 (by have := (C.stp hi).2.2; omega)).mp hnl
  have hto := leads_v C F hi h35 hls1 hl
  obtain ⟨hclr, hroom⟩ := open_spec C F hr ho
  have F1 : Fr b n S0 (beLateF S i (S 9 0 0)) := Fr_up (by unfold FT; omega) F
  have hent : enterF (beLateF S i (S 9 0 0)) i (nI r) 0 = entU (beLateF S i (S 9 0 0)) i r 0 (sB S0 r 0) := enter_eq C F1 hr h0c
  obtain ⟨v11, v12, v36, v38, v39, v40, vo⟩ := ent_v (beLateF S i (S 9 0 0)) i r 0 (sB S0 r 0)
  have F2 := Fr_ent (r := r) (p := 0) F1 hi hB.2
  obtain ⟨l2, hl1, hl27, hlv⟩ := C.len hi hB.2
  have c0 : S 11 (sB S0 r 0) 0 = -1 := by
    have h := hclr 0 (Or.inl rfl) h0c
    rw [clear_eq C F hB.2] at h
    exact (of_decide_eq_true h).2.1
  have cw : ∀ j, S0 22 r 0 = 1 → j < sC S0 r → S 11 (sB S0 r j) 0 = -1 := fun j hw hj => by
    have h := hclr j (Or.inr hw) hj
    rw [clear_eq C F (C.blk hr hj).2] at h
    exact (of_decide_eq_true h).2.1
  generalize hS2 : entU (beLateF S i (S 9 0 0)) i r 0 (sB S0 r 0) = S2 at *
  have bl : ∀ f k j, f ≠ 42 → beLateF S i (S 9 0 0) f k j = S f k j := fun f k j hf => up_f hf
  have w0 := C.wh hr
  have e22 : S2 22 r 0 = S0 22 r 0 := F2.st (by decide) r 0
  -- the end, for any state that differs from S2 in the locks alone
  have fin : ∀ S3 : St, Fr b n S0 S3 → (∀ f k j, f ≠ 12 → S3 f k j = S2 f k j) → (∀ x, S3 12 x 0 = S2 12 x 0 ∨ (S0 22 r 0 = 1 ∧ S3 12 x 0 = nI i ∧ ∃ j, 0 < j ∧ j < sC S0 r ∧ sB S0 r j = x)) → Trn b n S0 S S3 i := by
    intro S3 F3 q1 q2
    have oth : Oth S S3 i := ⟨fun f k j hf hk => by rw [q1 f k j (by omega), vo f k j (by omega) (by omega) (Or.inl hk)]; exact up_k hk, fun f k j hf => by rw [q1 f k j (by omega), vo f k j (by omega) (by omega) (Or.inr (by omega)), bl f k j (by omega)]⟩
    have e40 : S3 40 i 0 = nI l2 := by
      rw [q1 40 i 0 (by omega), v40, bl _ _ _ (by omega), bl _ _ _ (by omega), F.st (f := 10) (by decide), F.st (f := 31) (by decide)]
      exact hlv
    have e36 : S3 36 i 0 = -1 := (q1 36 i 0 (by omega)).trans v36
    have O' : On S0 S3 i r 0 := ⟨hr, h0c, e36, (q1 38 i 0 (by omega)).trans v38, (q1 39 i 0 (by omega)).trans v39, l2, ls, hl27, e40, hls1, by rw [q1 35 i 0 (by omega), vo 35 i 0 (by omega) (by omega) (Or.inr (by omega)), bl _ _ _ (by omega)]; exact h35, hto⟩
    refine ⟨Inv.out C I F3 hi A O' (fun k hk hn => oth.te hn) c0 cw (fun x _ => by rw [q1 11 x 0 (by omega), v11, bl _ _ _ (by omega)]) (fun x _ => ⟨fun hx => ?_, fun hx => ?_⟩) hroom, oth, Or.inr ⟨fun f j hf => by rw [q1 f i j (by omega), vo f i j (by omega) (by omega) (Or.inr (by omega)), bl _ _ _ (by omega)], ready_no e36, atEnd_f40 (by rw [e40]; exact nI_ne0 (by omega) (by omega))⟩⟩
    · rcases q2 x with h | ⟨_, _, j, j0, j1, j2⟩
      · rw [h, v12, if_pos hx]
      · have := C.inj hr j1 h0c (j2.trans hx)
        omega
    · rcases q2 x with h | h
      · exact Or.inl (by rw [h, v12, if_neg hx, bl _ _ _ (by omega)])
      · exact Or.inr h
  unfold setOutF setOutT
  rw [hent, e22]
  by_cases hw : S0 22 r 0 = 0
  · rw [if_pos hw]
    exact fin S2 F2 (fun _ _ _ _ => rfl) (fun _ => Or.inl rfl)
  · rw [if_neg hw]
    have hw1 : S0 22 r 0 = 1 := w0.resolve_left hw
    have e : lockF S2 i r = lockI S2 i r (sC S0 r - 1) := by
      unfold lockF lockI
      rw [F2.st (f := 23) (by decide), hcnt.1, nI_clamp (by omega)]
    rw [e]
    obtain ⟨L1, L2⟩ := lockI_v C F2 hi hr (sC S0 r - 1) (by omega)
    refine fin _ L1 (fun f k j hf => lockI_ne hf k j _) (fun x => ?_)
    rcases L2 x with h | ⟨j, a1, a2, a3, a4⟩
    · exact Or.inl h
    · exact Or.inr ⟨hw1, a4, j, a1, by omega, a3⟩
theorem turn_out (S : St) (i : Nat) : ∀ (m r : Nat) (f : Int32), r + m = 8 → (f = -1 ∨ ∃ r', r' < 8 ∧ f = nI r') → (∃ r', r' < 8 ∧ leadsF S r' i = true ∧ openF S r' (nI i) = true ∧ turnL S i m r f = setOutF S i r') ∨ ∃ o, (o = -1 ∨ ∃ r', r' < 8 ∧ o = blameF S r' (nI i)) ∧ turnL S i m r f = waitF S i o
  | 0, r, f, _, hf => by
    refine Or.inr ⟨_, ?_, rfl⟩
    rcases hf with rfl | ⟨r', h, rfl⟩
    · exact Or.inl (if_pos rfl)
    · exact Or.inr ⟨r', h, by rw [if_neg (m1_ne (by omega)), nI_clamp (by omega)]⟩
  | m + 1, r, f, hm, hf => by
    unfold turnL
    by_cases hl : leadsF S r i = true
    · rw [if_pos hl]
      by_cases ho : openF S r (nI i) = true
      · rw [if_pos ho]
        exact Or.inl ⟨r, by omega, hl, ho, rfl⟩
      · rw [if_neg ho]
        refine turn_out S i m (r + 1) _ (by omega) ?_
        split
        · exact Or.inr ⟨r, by omega, rfl⟩
        · exact hf
    · rw [if_neg hl]
      exact turn_out S i m (r + 1) f (by omega) hf
theorem turn_ok (C : Stc S0 b n) (I : Inv b n S0 S) (hi : i < n) (hr : readyF S i = true) : Trn b n S0 S (turnF S i) i := by
  obtain ⟨h36, hnl⟩ := ready_at hr
  have A : AtS S0 S i := by
    rcases I.2.1 i hi with h | ⟨r, p, h⟩ | h
    · exact h
    · exact absurd h.2.2.1 h36
    · exact absurd h.e36 h36
  unfold turnF
  rw [nR_F C I.1]
  rcases turn_out S i 8 0 (-1) (by omega) (Or.inl rfl) with ⟨r, hr8, hl, ho, e⟩ | ⟨o, ho, e⟩
  · rw [e]
    exact setOut_ok C I hi A hnl hr8 hl ho
  · rw [e]
    have hW : o = -1 ∨ ∃ q, q < n ∧ q ≠ i ∧ o = nI q := by
      rcases ho with h | ⟨r, hr8, h⟩
      · exact Or.inl h
      · rw [h]
        exact blame_ok C I hi A.e38 hr8
    exact ⟨I.wait C hi o, Oth_wait, Or.inl ⟨Wt_wait hW, ready_cg (fun f j _ h => wait_ne (Or.inl h)) (fun f k j h => wait_ne (Or.inl (by omega)))⟩⟩
end TURN
