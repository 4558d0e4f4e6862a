/-! What the steps of a tick do, at a state that is as it must be. -/
section STEP
variable {S0 S S' : St} {b n i k r p : Nat}
theorem le_no {a c : Nat} (h : c < a) (ha : a < 2 ^ 31) : ¬ nI a ≤ nI c := fun q => absurd ((nI_leI ha (by omega)).mp q) (by omega)
theorem up_11 {S : St} {B x : Nat} {v : Int32} : up S 11 B 0 v 11 x 0 = if x = B then v else S 11 x 0 := by
  by_cases h : x = B
  · rw [if_pos h, h]; exact up_s
  · rw [if_neg h]; exact up_k h
theorem up_12 {S : St} {B x : Nat} {v : Int32} : up S 12 B 0 v 12 x 0 = if x = B then v else S 12 x 0 := by
  by_cases h : x = B
  · rw [if_pos h, h]; exact up_s
  · rw [if_neg h]; exact up_k h
theorem under_on (C : Stc S0 b n) (F : Fr b n S0 S) (h : On S0 S k r p) : underF S k = nI (sB S0 r p) := by
  obtain ⟨a1, a2, _, a4, a5, _⟩ := h
  unfold underF
  rw [a4, a5, F.st (f := 4) (by decide), C.f4, if_neg (nI_pos (by omega)), if_neg (le_no (a := 8) (by omega) (by omega)), nI_clamp (by omega)]
  exact bAt C F a1 a2
theorem under_off (h : S 38 k 0 = -1) : underF S k = -1 := by
  unfold underF
  rw [h]
  exact if_pos (by decide)
theorem leave_on (C : Stc S0 b n) (F : Fr b n S0 S) (h : On S0 S i r p) : leaveF S i = up S 11 (sB S0 r p) 0 (-1) := by
  have hB := C.blk h.1 h.2.1
  have := C.b16
  unfold leaveF
  rw [under_on C F h, F.st (f := 2) (by decide), C.f2, if_neg (nI_pos (by omega)), if_neg (le_no hB.2 (by omega)), nI_clamp (by omega)]
def entU (S : St) (i r p B : Nat) : St := up (up (up (up (up (up S 36 i 0 (-1)) 38 i 0 (nI r)) 39 i 0 (nI p)) 40 i 0 (S 10 B 0 * S 31 i 0)) 11 B 0 (nI i)) 12 B 0 (-1)
theorem enter_eq (C : Stc S0 b n) (F : Fr b n S0 S) (hr : r < 8) (hp : p < sC S0 r) : enterF S i (nI r) (nI p) = entU S i r p (sB S0 r p) := by
  have hB := C.blk hr hp
  have := C.b16
  unfold enterF
  rw [nI_clamp (n := r) (by omega), bAt C F hr hp, F.st (f := 2) (by decide), C.f2, if_neg (nI_pos (by omega)), if_neg (not_not_intro (nI_lt hB.2 (by omega))), nI_clamp (by omega)]
  rfl
theorem clear_eq (C : Stc S0 b n) (F : Fr b n S0 S) {x : Nat} (hx : x < b) (m : Int32) : clearF S (nI x) m = decide (¬ S 9 0 0 < S 13 x 0 ∧ S 11 x 0 = -1 ∧ (S 12 x 0 = -1 ∨ S 12 x 0 = m)) := by
  have := C.b16
  unfold clearF
  rw [F.st (f := 2) (by decide), C.f2, if_neg (nI_pos (by omega)), if_neg (not_not_intro (nI_lt hx (by omega))), nI_clamp (by omega)]
theorem held_val (I : Inv b n S0 S) {x : Nat} (hx : x < b) : S 11 x 0 = -1 ∨ ∃ q, q < n ∧ S 11 x 0 = nI q := by
  rcases I.2.2.2.1 x hx with h | ⟨k, r, p, hk, o, e⟩
  · exact Or.inl h
  · exact Or.inr ⟨k, hk, by rw [← e]; exact I.2.2.1 k r p hk o⟩
theorem lock_val (I : Inv b n S0 S) {x : Nat} (hx : x < b) : S 12 x 0 = -1 ∨ ∃ q, q < n ∧ S 12 x 0 = nI q := by
  rcases I.2.2.2.2.1 x hx with h | ⟨_, k, _, _, _, hk, e, _⟩
  · exact Or.inl h
  · exact Or.inr ⟨k, hk, e⟩
theorem inWay_ok (C : Stc S0 b n) (I : Inv b n S0 S) {x : Nat} (hx : x < b) (hne : S 11 x 0 ≠ nI i) : inWayF S (nI x) (nI i) = -1 ∨ ∃ q, q < n ∧ q ≠ i ∧ inWayF S (nI x) (nI i) = nI q := by
  have := C.b16
  unfold inWayF
  rw [I.1.st (f := 2) (by decide), C.f2, if_neg (nI_pos (by omega)), if_neg (not_not_intro (nI_lt hx (by omega))), nI_clamp (by omega)]
  by_cases h : S 11 x 0 = -1
  · rw [if_pos h]
    by_cases h2 : S 12 x 0 = nI i
    · rw [if_pos h2]; exact Or.inl rfl
    · rw [if_neg h2]
      rcases lock_val I hx with h3 | ⟨q, hq, e⟩
      · exact Or.inl h3
      · exact Or.inr ⟨q, hq, fun e2 => h2 (by rw [e, e2]), e⟩
  · rw [if_neg h]
    rcases held_val I hx with h3 | ⟨q, hq, e⟩
    · exact absurd h3 h
    · exact Or.inr ⟨q, hq, fun e2 => hne (by rw [e, e2]), e⟩
def comeU (S : St) (i B ls : Nat) : St := up (up (up (up S 11 B 0 (-1)) 38 i 0 (-1)) 35 i 0 (nI (ls + 1))) 37 i 0 (S 9 0 0)
theorem come_eq (C : Stc S0 b n) (F : Fr b n S0 S) (hi : i < n) (O : On S0 S i r p) {ls : Nat} (hls : S 35 i 0 = nI ls) (hl : ls + 1 < sP S0 i) :
    (ls + 2 = sP S0 i ∧ ∃ v, comeF S i = up (comeU S i (sB S0 r p) ls) 42 i 0 v) ∨ (ls + 2 < sP S0 i ∧ comeF S i = up (comeU S i (sB S0 r p) ls) 36 i 0 (S0 33 i (ls + 1))) := by
  have hs := C.stp hi
  have e0 : comeF S i = comeT (comeU S i (sB S0 r p) ls) i := by
    unfold comeF
    rw [leave_on C F O, up_f (show (35 : Nat) ≠ 11 by decide), up_f (show (9 : Nat) ≠ 11 by decide), hls, nI_1]
    rfl
  have e35 : comeU S i (sB S0 r p) ls 35 i 0 = nI (ls + 1) := (up_f (by decide)).trans up_s
  have e32 : comeU S i (sB S0 r p) ls 32 i 0 = nI (sP S0 i) := by
    unfold comeU
    rw [up_f (by decide), up_f (by decide), up_f (by decide), up_f (by decide), F.st (by decide), hs.1]
  have e33 : ∀ j, comeU S i (sB S0 r p) ls 33 i j = S0 33 i j := fun j => by
    unfold comeU
    rw [up_f (by decide), up_f (by decide), up_f (by decide), up_f (by decide), F.st (by decide)]
  have epred : nI (sP S0 i) - 1 = nI (sP S0 i - 1) := by
    have := nI_pred (sP S0 i - 1)
    rw [show sP S0 i - 1 + 1 = sP S0 i by omega] at this
    exact this
  rw [e0]
  unfold comeT lastF
  rw [e35, e32, epred]
  by_cases h : ls + 2 = sP S0 i
  · refine Or.inl ⟨h, ?_⟩
    rw [if_pos (decide_eq_true (nI_nlt (by omega) (by omega)))]
    exact ⟨_, rfl⟩
  · refine Or.inr ⟨by omega, ?_⟩
    have hn : ¬ decide (¬ nI (ls + 1) < nI (sP S0 i - 1)) = true := fun q => of_decide_eq_true q (nI_lt (by omega) (by omega))
    rw [if_neg hn]
    unfold stationF
    rw [if_neg (nI_pos (by omega)), if_neg (show ¬ (8 : Int32) ≤ nI (ls + 1) from le_no (a := 8) (by omega) (by omega)), nI_clamp (by omega), e33]
theorem TE_of (h : ∀ f j, 30 ≤ f → S' f k j = S f k j) : TE S S' k := ⟨h 36 0 (by omega), h 38 0 (by omega), h 39 0 (by omega), h 35 0 (by omega), Or.inl (h 40 0 (by omega))⟩
def Oth (S S' : St) (i : Nat) : Prop := (∀ f k j, 30 ≤ f → k ≠ i → S' f k j = S f k j) ∧ ∀ f k j, f < 10 → S' f k j = S f k j
def Wt (n : Nat) (S S' : St) (i : Nat) : Prop := ∃ o, (o = -1 ∨ ∃ q, q < n ∧ q ≠ i ∧ o = nI q) ∧ ∀ f j, 43 ≤ f → S' f i j = waitF S i o f i j
def Nt (S S' : St) (i : Nat) : Prop := ∀ f j, 43 ≤ f → S' f i j = S f i j
theorem Oth.te (h : Oth S S' i) (hk : k ≠ i) : TE S S' k := TE_of fun f j hf => h.1 f k j hf hk
theorem wait_ne {o : Int32} {f k j : Nat} (h : f < 43 ∨ k ≠ i) : waitF S i o f k j = S f k j := by
  have key : ∀ (T : St) (f' j' : Nat) (x : Int32), 43 ≤ f' → up T f' i j' x f k j = T f k j := fun T f' j' x hf => if_neg fun e => by omega
  unfold waitF
  split
  · rw [key _ _ _ _ (by omega), key _ _ _ _ (by omega)]
  · split
    · rw [key _ _ _ _ (by omega), key _ _ _ _ (by omega)]
    · rw [key _ _ _ _ (by omega), key _ _ _ _ (by omega), key _ _ _ _ (by omega)]
theorem wait_cg {o : Int32} (h : ∀ f j, 43 ≤ f → S' f i j = S f i j) {f j : Nat} (hf : 43 ≤ f) : waitF S' i o f i j = waitF S i o f i j := by
  have key : ∀ (T T' : St) (f' j' : Nat) (x : Int32), T' f i j = T f i j → up T' f' i j' x f i j = up T f' i j' x f i j := fun T T' f' j' x e => by unfold up; rw [e]
  unfold waitF
  rw [h 43 0 (by omega), h 45 _ (by omega)]
  split
  · exact key _ _ _ _ _ (key _ _ _ _ _ (h f j hf))
  · split
    · exact key _ _ _ _ _ (key _ _ _ _ _ (h f j hf))
    · exact key _ _ _ _ _ (key _ _ _ _ _ (key _ _ _ _ _ (h f j hf)))
theorem Fr_wait (F : Fr b n S0 S) (hi : i < n) {o : Int32} : Fr b n S0 (waitF S i o) := by
  have h43 : FT b n 43 i 0 := by unfold FT; omega
  have h44 : FT b n 44 i 0 := by unfold FT; omega
  unfold waitF
  split
  · exact Fr_up h44 (Fr_up h43 F)
  · split
    · exact Fr_up h44 (Fr_up h43 F)
    · rename_i h0 h8
      refine Fr_up ?_ (Fr_up h44 (Fr_up h43 F))
      have := vp_lt (vin (x := o) (N := 8) (n := 8) h0 h8 (by decide))
      unfold FT
      omega
theorem Oth_wait {o : Int32} : Oth S (waitF S i o) i := ⟨fun _ _ _ _ hk => wait_ne (Or.inr hk), fun _ _ _ hf => wait_ne (Or.inl (by omega))⟩
theorem Inv.wait (C : Stc S0 b n) (I : Inv b n S0 S) (hi : i < n) (o : Int32) : Inv b n S0 (waitF S i o) := I.stay (Fr_wait I.1 hi) (fun k _ => ⟨wait_ne (Or.inl (by omega)), wait_ne (Or.inl (by omega)), wait_ne (Or.inl (by omega)), wait_ne (Or.inl (by omega)), Or.inl (wait_ne (Or.inl (by omega)))⟩) (fun x _ => wait_ne (Or.inl (by omega))) (fun x _ => wait_ne (Or.inl (by omega))) C
theorem Wt_wait {o : Int32} (h : o = -1 ∨ ∃ q, q < n ∧ q ≠ i ∧ o = nI q) : Wt n S (waitF S i o) i := ⟨o, h, fun _ _ _ => rfl⟩
theorem Oth.trans {S'' : St} (h : Oth S S' i) (h' : Oth S' S'' i) : Oth S S'' i := ⟨fun f k j hf hk => (h'.1 f k j hf hk).trans (h.1 f k j hf hk), fun f k j hf => (h'.2 f k j hf).trans (h.2 f k j hf)⟩
end STEP
