/-! What the writing functions keep. -/
theorem up_f {S : St} {f f' k k' j j' : Nat} {x : Int32} (h : f' ≠ f) : up S f k j x f' k' j' = S f' k' j' := if_neg fun q => h q.1
theorem up_k {S : St} {f f' k k' j j' : Nat} {x : Int32} (h : k' ≠ k) : up S f k j x f' k' j' = S f' k' j' := if_neg fun q => h q.2.1
theorem up_j {S : St} {f f' k k' j j' : Nat} {x : Int32} (h : j' ≠ j) : up S f k j x f' k' j' = S f' k' j' := if_neg fun q => h q.2.2
theorem up_s {S : St} {f k j : Nat} {x : Int32} : up S f k j x f k j = x := if_pos ⟨rfl, rfl, rfl⟩
def KC (S' S : St) : Prop := S' 2 0 0 = S 2 0 0 ∧ S' 4 0 0 = S 4 0 0 ∧ S' 6 0 0 = S 6 0 0
theorem KC_refl (S : St) : KC S S := ⟨rfl, rfl, rfl⟩
theorem KC_up {S' S : St} {f k j : Nat} {x : Int32} (hf : f ≠ 2 ∧ f ≠ 4 ∧ f ≠ 6) (h : KC S' S) : KC (up S' f k j x) S := ⟨(up_f (Ne.symm hf.1)).trans h.1, (up_f (Ne.symm hf.2.1)).trans h.2.1, (up_f (Ne.symm hf.2.2)).trans h.2.2⟩
theorem KC_tr {S'' S' S : St} (h1 : KC S'' S') (h : KC S' S) : KC S'' S := ⟨h1.1.trans h.1, h1.2.1.trans h.2.1, h1.2.2.trans h.2.2⟩
theorem Lim_of {S' S : St} (h : KC S' S) (hL : Lim S) : Lim S' := by
  unfold Lim nB nR nT at *
  rw [h.1, h.2.1, h.2.2]
  exact hL
theorem nT_of {S' S : St} (h : KC S' S) : nT S' = nT S := by unfold nT; rw [h.2.2]
theorem KC_iter {g : Nat → St → St} (hg : ∀ i S, KC (g i S) S) : ∀ n S, KC (iterF g n S) S
  | 0, S => KC_refl S
  | n + 1, S => KC_tr (hg n _) (KC_iter hg n S)
theorem KC_late {S' S : St} {i : Nat} {x : Int32} (h : KC S' S) : KC (beLateF S' i x) S := KC_up (by decide) h
theorem KC_wait {S' S : St} {i : Nat} {x : Int32} (h : KC S' S) : KC (waitF S' i x) S := by
  unfold waitF
  split
  · exact KC_up (by decide) (KC_up (by decide) h)
  · split
    · exact KC_up (by decide) (KC_up (by decide) h)
    · exact KC_up (by decide) (KC_up (by decide) (KC_up (by decide) h))
theorem KC_leave {S' S : St} {i : Nat} (h : KC S' S) : KC (leaveF S' i) S := by
  unfold leaveF
  split
  · exact h
  · split
    · exact h
    · exact KC_up (by decide) h
theorem KC_enter {S' S : St} {i : Nat} {x q : Int32} (h : KC S' S) : KC (enterF S' i x q) S := by
  unfold enterF
  split
  · exact h
  · split
    · exact h
    · exact KC_up (by decide) (KC_up (by decide) (KC_up (by decide) (KC_up (by decide) (KC_up (by decide) (KC_up (by decide) h)))))
theorem KC_come {S' S : St} {i : Nat} (h : KC S' S) : KC (comeF S' i) S := by
  unfold comeF comeT
  have h1 : KC (up (up (up (leaveF S' i) 38 i 0 (-1)) 35 i 0 (leaveF S' i 35 i 0 + 1)) 37 i 0 (leaveF S' i 9 0 0)) S := KC_up (by decide) (KC_up (by decide) (KC_up (by decide) (KC_leave h)))
  split
  · exact KC_late h1
  · exact KC_up (by decide) h1
theorem KC_roll {S' S : St} {i : Nat} (h : KC S' S) : KC (rollF S' i) S := by
  have key : ∀ S1, KC S1 S → KC (rollT S1 i) S := by
    intro S1 h1
    unfold rollT
    split
    · exact h1
    split
    · exact h1
    split
    · exact h1
    split
    · exact KC_come h1
    split
    · exact KC_enter (KC_leave h1)
    · exact KC_wait h1
  unfold rollF
  apply key
  split
  · exact h
  · exact KC_up (by decide) h
def lockI (S : St) (i r : Nat) : Nat → St := fun n => iterF (fun j U => if blockAtF S r (nI (j + 1)) < 0 then U else if S 2 0 0 ≤ blockAtF S r (nI (j + 1)) then U else up U 12 (blockAtF S r (nI (j + 1))).toNatClampNeg 0 (nI i)) n S
theorem lockI_ne {S : St} {i r f : Nat} (h : f ≠ 12) (k q : Nat) : ∀ n, lockI S i r n f k q = S f k q
  | 0 => rfl
  | n + 1 => by
    have ih := lockI_ne (S := S) (i := i) (r := r) h k q n
    show (if blockAtF S r (nI (n + 1)) < 0 then lockI S i r n else if S 2 0 0 ≤ blockAtF S r (nI (n + 1)) then lockI S i r n else up (lockI S i r n) 12 (blockAtF S r (nI (n + 1))).toNatClampNeg 0 (nI i)) f k q = _
    split
    · exact ih
    · split
      · exact ih
      · rw [up_f h]; exact ih
theorem KC_lock {S' S : St} {i r : Nat} (h : KC S' S) : KC (lockF S' i r) S := KC_tr (show KC (lockI S' i r _) S' from ⟨lockI_ne (by decide) _ _ _, lockI_ne (by decide) _ _ _, lockI_ne (by decide) _ _ _⟩) h
theorem KC_setOut {S' S : St} {i r : Nat} (h : KC S' S) : KC (setOutF S' i r) S := by
  unfold setOutF setOutT
  split
  · exact KC_enter (KC_late h)
  · exact KC_lock (KC_enter (KC_late h))
theorem KC_turn {S' S : St} {i : Nat} (h : KC S' S) : KC (turnF S' i) S := by
  have key : ∀ n r f, KC (turnL S' i n r f) S := by
    intro n
    induction n with
    | zero => intro r f; exact KC_wait h
    | succ n ih =>
      intro r f
      unfold turnL
      split
      · split
        · exact KC_setOut h
        · exact ih _ _
      · exact ih _ _
  exact key _ _ _
theorem KC_giveL : ∀ (n : Nat) {S' S : St} {t : Int32}, KC S' S → KC (giveL n S' t) S
  | 0, _, _, _, h => h
  | n + 1, S', S, t, h => by
    unfold giveL
    split
    · exact h
    · exact KC_giveL n (KC_turn h)
theorem KC_give {S' S : St} (h : KC S' S) : KC (giveF S') S := KC_giveL _ h
def forgetI (S : St) (n : Nat) : St := iterF (fun i U => up U 44 i 0 (-1)) n S
theorem KC_forgetI (S : St) (n : Nat) : KC (forgetI S n) S := KC_iter (fun _ S => KC_up (by decide) (KC_refl S)) n S
theorem KC_forget {S' S : St} (h : KC S' S) : KC (forgetF S') S := KC_tr (KC_forgetI S' _) h
def rollsI (S : St) (n : Nat) : St := iterF (fun i U => if onBlockF U i = true then rollF U i else U) n S
theorem KC_rollsI (S : St) (n : Nat) : KC (rollsI S n) S := KC_iter (fun i S => by
  split
  · exact KC_roll (KC_refl S)
  · exact KC_refl S) n S
theorem KC_tick {S' S : St} (h : KC S' S) : KC (tickF S') S := KC_give (KC_tr (KC_rollsI _ _) (KC_forget (KC_up (by decide) h)))
theorem KC_ticks {S' S : St} {n : Nat} (h : KC S' S) : KC (ticksF S' n) S := KC_tr (KC_iter (fun _ S => KC_tick (KC_refl S)) n S') h
theorem blockAt_cg {S' S : St} {r : Nat} (h : ∀ q, S' 24 r q = S 24 r q) (x : Int32) : blockAtF S' r x = blockAtF S r x := by unfold blockAtF; rw [h]
theorem leave_ne {S : St} {i f k q : Nat} (h : f ≠ 11) : leaveF S i f k q = S f k q := by
  unfold leaveF
  split
  · rfl
  · split
    · rfl
    · exact up_f h
