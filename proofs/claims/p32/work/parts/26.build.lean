/-! The state while the law builds it. -/
def wrt (b r n f k j : Nat) : Prop := ((f = 2 ∨ f = 4 ∨ f = 6 ∨ f = 7 ∨ f = 8) ∧ k = 0 ∧ j = 0) ∨ (f = 10 ∧ k < b ∧ j = 0) ∨ (20 ≤ f ∧ f ≤ 23 ∧ k < r ∧ j = 0) ∨ (f = 24 ∧ k < r) ∨ ((f = 30 ∨ f = 31 ∨ f = 32 ∨ f = 36 ∨ f = 37) ∧ k < n ∧ j = 0) ∨ ((f = 33 ∨ f = 34) ∧ k < n ∧ j < 8)
def Frs (b r n : Nat) (S : St) : Prop := ∀ f k j, ¬ wrt b r n f k j → S f k j = initS f k j
theorem Frs_up {b r n f k j : Nat} {S : St} {x : Int32} (hf : wrt b r n f k j) (h : Frs b r n S) : Frs b r n (up S f k j x) := by
  intro f' k' j' hn
  have hne : ¬ (f' = f ∧ k' = k ∧ j' = j) := fun e => hn (by rw [e.1, e.2.1, e.2.2]; exact hf)
  exact (if_neg hne).trans (h f' k' j' hn)
theorem Frs.mono {b r n b' r' n' : Nat} {S : St} (h : Frs b r n S) (hb : b ≤ b') (hr : r ≤ r') (hn : n ≤ n') : Frs b' r' n' S := fun f k j q => h f k j (fun w => q (by unfold wrt at w ⊢; omega))
def RtO (S : St) (b q : Nat) : Prop := S 23 q 0 = nI (sC S q) ∧ 1 ≤ sC S q ∧ sC S q ≤ 5 ∧ (∃ y, y < 6 ∧ S 21 q 0 = nI y) ∧ (S 22 q 0 = 0 ∨ S 22 q 0 = 1) ∧ (∀ j, j < sC S q → S 24 q j = nI (sB S q j) ∧ sB S q j < b) ∧ (∀ i j, i < sC S q → j < sC S q → sB S q i = sB S q j → i = j) ∧ ∀ j, sC S q ≤ j → S 24 q j = 0
def TrO (S : St) (k : Nat) : Prop := S 32 k 0 = nI (sP S k) ∧ 1 ≤ sP S k ∧ sP S k ≤ 8 ∧ (∀ j, j < sP S k → ∃ y, y < 6 ∧ S 33 k j = nI y) ∧ (∃ p, 1 ≤ p ∧ p ≤ 3 ∧ S 31 k 0 = nI p) ∧ S 36 k 0 = S 33 k 0
def Bld (b r n : Nat) (S : St) : Prop := S 2 0 0 = nI b ∧ S 4 0 0 = nI r ∧ S 6 0 0 = nI n ∧ (∀ x, x < b → ∃ l, 1 ≤ l ∧ l ≤ 9 ∧ S 10 x 0 = nI l) ∧ (∀ q, q < r → RtO S b q) ∧ (∀ k, k < n → TrO S k) ∧ Frs b r n S ∧ ∀ x, x < 6 → cntTo (atQ S (nI x)) n ≤ 2
section BUILD
variable {S S' : St} {b r n q k : Nat}
theorem RtO_cg (h : ∀ f j, 20 ≤ f → f ≤ 24 → S' f q j = S f q j) (o : RtO S b q) : RtO S' b q := by
  have e1 : sC S' q = sC S q := by unfold sC; rw [h 23 0 (by omega) (by omega)]
  have e2 : ∀ j, sB S' q j = sB S q j := fun j => by unfold sB; rw [h 24 j (by omega) (by omega)]
  obtain ⟨a1, a2, a3, ⟨y, hy, a4⟩, a5, a6, a7, a8⟩ := o
  refine ⟨by rw [e1, h 23 0 (by omega) (by omega)]; exact a1, by rw [e1]; exact a2, by rw [e1]; exact a3, ⟨y, hy, (h 21 0 (by omega) (by omega)).trans a4⟩, by rw [h 22 0 (by omega) (by omega)]; exact a5, fun j hj => ?_, fun i j hi hj e => ?_, fun j hj => ?_⟩
  · rw [e1] at hj
    rw [e2, h 24 j (by omega) (by omega)]
    exact a6 j hj
  · rw [e1] at hi hj
    rw [e2, e2] at e
    exact a7 i j hi hj e
  · rw [e1] at hj
    rw [h 24 j (by omega) (by omega)]
    exact a8 j hj
theorem TrO_cg (h : ∀ f j, 30 ≤ f → S' f k j = S f k j) (o : TrO S k) : TrO S' k := by
  have e1 : sP S' k = sP S k := by unfold sP; rw [h 32 0 (by omega)]
  obtain ⟨a1, a2, a3, a4, ⟨p, p1, p2, a5⟩, a6⟩ := o
  refine ⟨by rw [e1, h 32 0 (by omega)]; exact a1, by rw [e1]; exact a2, by rw [e1]; exact a3, fun j hj => ?_, ⟨p, p1, p2, (h 31 0 (by omega)).trans a5⟩, by rw [h 36 0 (by omega), h 33 0 (by omega)]; exact a6⟩
  rw [e1] at hj
  rw [h 33 j (by omega)]
  exact a4 j hj
theorem Bld_0 : Bld 0 0 0 initS := ⟨rfl, rfl, rfl, fun x h => absurd h (Nat.not_lt_zero _), fun x h => absurd h (Nat.not_lt_zero _), fun x h => absurd h (Nat.not_lt_zero _), fun _ _ _ _ => rfl, fun x _ => Nat.zero_le _⟩
theorem Bld_block {x : Nat} (B : Bld b 0 0 S) (hb : b < 16) (h1 : 1 ≤ x) (h9 : x ≤ 9) : Bld (b + 1) 0 0 (blockF S (nI x)) := by
  obtain ⟨a1, a2, a3, a4, a5, a6, a7, a8⟩ := B
  have e : blockF S (nI x) = up (up S 10 b 0 (nI x)) 2 0 0 (nI (b + 1)) := by
    unfold blockF
    rw [a1, nI_clamp (by omega), nI_1]
  rw [e]
  refine ⟨up_s, ?_, ?_, fun y hy => ?_, fun x h => absurd h (Nat.not_lt_zero _), fun x h => absurd h (Nat.not_lt_zero _), Frs_up (by unfold wrt; omega) (Frs_up (by unfold wrt; omega) (a7.mono (by omega) (by omega) (by omega))), fun x _ => Nat.zero_le _⟩
  · rw [up_f (by decide), up_f (by decide)]; exact a2
  · rw [up_f (by decide), up_f (by decide)]; exact a3
  · rw [up_f (by decide)]
    by_cases hyb : y = b
    · subst hyb
      exact ⟨x, h1, h9, up_s⟩
    · rw [up_k hyb]
      exact a4 y (by omega)
theorem Bld_route {a a2 x : Nat} {z : Int32} (B : Bld b r 0 S) (hr : r < 8) (ha2 : a2 < 6) (hx : x < b) (hb : b ≤ 16) (hz : z = 0 ∨ z = 1) : Bld b (r + 1) 0 (routeF S (nI a) (nI a2) (nI x) z) ∧ (routeF S (nI a) (nI a2) (nI x) z) 23 r 0 = nI 1 := by
  obtain ⟨a1, a2', a3, a4, a5, a6, a7, a8⟩ := B
  have e : routeF S (nI a) (nI a2) (nI x) z = up (up (up (layF S r (nI a) (nI a2) z) 24 r 0 (nI x)) 23 r 0 (nI 1)) 4 0 0 (nI (r + 1)) := by
    unfold routeF addBlockF
    rw [a2', nI_clamp (by omega), nI_1, show layF S r (nI a) (nI a2) z 23 r 0 = 0 from up_s, if_neg (by decide), if_neg (by decide)]
    rfl
  rw [e]
  have hne : ∀ f k j, (f ≠ 4 ∧ (f < 20 ∨ 24 < f ∨ k ≠ r)) → up (up (up (layF S r (nI a) (nI a2) z) 24 r 0 (nI x)) 23 r 0 (nI 1)) 4 0 0 (nI (r + 1)) f k j = S f k j := fun f k j h => by
    unfold layF up
    rw [if_neg (by omega), if_neg (by omega), if_neg (by omega), if_neg (by omega), if_neg (by omega), if_neg (by omega), if_neg (by omega)]
  have e23 : up (up (up (layF S r (nI a) (nI a2) z) 24 r 0 (nI x)) 23 r 0 (nI 1)) 4 0 0 (nI (r + 1)) 23 r 0 = nI 1 := (up_f (by decide)).trans up_s
  have e24 : ∀ j, up (up (up (layF S r (nI a) (nI a2) z) 24 r 0 (nI x)) 23 r 0 (nI 1)) 4 0 0 (nI (r + 1)) 24 r j = if j = 0 then nI x else S 24 r j := fun j => by
    rw [up_f (by decide), up_f (by decide)]
    by_cases hj : j = 0
    · subst hj; rw [up_s, if_pos rfl]
    · rw [up_j hj, if_neg hj]
      unfold layF
      rw [up_f (by decide), up_f (by decide), up_f (by decide), up_f (by decide)]
  have e21 : up (up (up (layF S r (nI a) (nI a2) z) 24 r 0 (nI x)) 23 r 0 (nI 1)) 4 0 0 (nI (r + 1)) 21 r 0 = nI a2 := by
    unfold layF
    rw [up_f (by decide), up_f (by decide), up_f (by decide), up_f (by decide), up_f (by decide), up_s]
  have e22 : up (up (up (layF S r (nI a) (nI a2) z) 24 r 0 (nI x)) 23 r 0 (nI 1)) 4 0 0 (nI (r + 1)) 22 r 0 = z := by
    unfold layF
    rw [up_f (by decide), up_f (by decide), up_f (by decide), up_f (by decide), up_s]
  have hs0 : ∀ j, S 24 r j = 0 := fun j => a7 24 r j (by unfold wrt; omega)
  have hF : Frs b (r + 1) 0 (up (up (up (layF S r (nI a) (nI a2) z) 24 r 0 (nI x)) 23 r 0 (nI 1)) 4 0 0 (nI (r + 1))) := Frs_up (by unfold wrt; omega) (Frs_up (by unfold wrt; omega) (Frs_up (by unfold wrt; omega) (Frs_up (by unfold wrt; omega) (Frs_up (by unfold wrt; omega) (Frs_up (by unfold wrt; omega) (Frs_up (by unfold wrt; omega) (a7.mono (by omega) (by omega) (by omega))))))))
  have e4 : up (up (up (layF S r (nI a) (nI a2) z) 24 r 0 (nI x)) 23 r 0 (nI 1)) 4 0 0 (nI (r + 1)) 4 0 0 = nI (r + 1) := up_s
  generalize up (up (up (layF S r (nI a) (nI a2) z) 24 r 0 (nI x)) 23 r 0 (nI 1)) 4 0 0 (nI (r + 1)) = T at *
  refine ⟨⟨(hne 2 0 0 (by omega)).trans a1, e4, (hne 6 0 0 (by omega)).trans a3, fun y hy => ?_, fun q hq => ?_, fun x h => absurd h (Nat.not_lt_zero _), hF, fun x _ => Nat.zero_le _⟩, e23⟩
  · rw [hne 10 y 0 (by omega)]; exact a4 y hy
  · by_cases hqr : q = r
    · subst hqr
      have ec : sC T q = 1 := by unfold sC; rw [e23]; exact nI_clamp (by omega)
      have eb : sB T q 0 = x := by unfold sB; rw [e24, if_pos rfl]; exact nI_clamp (by omega)
      refine ⟨by rw [ec]; exact e23, by rw [ec]; omega, by rw [ec]; omega, ⟨a2, ha2, e21⟩, by rw [e22]; exact hz, fun j hj => ?_, fun i j hi hj _ => ?_, fun j hj => ?_⟩
      · rw [ec] at hj
        rw [show j = 0 by omega, eb, e24, if_pos rfl]
        exact ⟨rfl, hx⟩
      · rw [ec] at hi hj
        omega
      · rw [ec] at hj
        rw [e24, if_neg (by omega), hs0]
    · exact RtO_cg (fun f j _ _ => hne f q j (by omega)) (a5 q (by omega))
theorem hasB_v (S : St) (k : Nat) (y : Int32) : ∀ c : Nat, hasBlockF S k y c = false → ∀ j, j < c → blockAtF S k (nI j) ≠ y
  | 0, _, j, hj => absurd hj (Nat.not_lt_zero _)
  | c + 1, h, j, hj => by
    unfold hasBlockF at h
    rw [Bool.or_eq_false_iff] at h
    by_cases e : j = c
    · rw [e]; exact of_decide_eq_false h.2
    · exact hasB_v S k y c h.1 j (by omega)
theorem Bld_over {y c0 : Nat} (B : Bld b (r + 1) 0 S) (hy : y < b) (hb : b ≤ 16) (hc : S 23 r 0 = nI c0) (hc5 : c0 < 5) (hnb : hasBlockF S r (nI y) c0 = false) : Bld b (r + 1) 0 (addBlockF S r (nI y)) ∧ (addBlockF S r (nI y)) 23 r 0 = nI (c0 + 1) := by
  obtain ⟨a1, a2, a3, a4, a5, a6, a7, a8⟩ := B
  have e : addBlockF S r (nI y) = up (up S 24 r c0 (nI y)) 23 r 0 (nI (c0 + 1)) := by
    unfold addBlockF
    rw [hc, if_neg (nI_pos (by omega)), if_neg (show ¬ (5 : Int32) ≤ nI c0 from le_no (a := 5) (by omega) (by omega)), nI_clamp (by omega), nI_1]
  rw [e]
  have hne : ∀ f k j, (f ≠ 23 ∧ f ≠ 24) ∨ k ≠ r → up (up S 24 r c0 (nI y)) 23 r 0 (nI (c0 + 1)) f k j = S f k j := fun f k j h => by
    unfold up
    rw [if_neg (by omega), if_neg (by omega)]
  have e23 : up (up S 24 r c0 (nI y)) 23 r 0 (nI (c0 + 1)) 23 r 0 = nI (c0 + 1) := up_s
  have e24 : ∀ j, up (up S 24 r c0 (nI y)) 23 r 0 (nI (c0 + 1)) 24 r j = if j = c0 then nI y else S 24 r j := fun j => by
    rw [up_f (by decide)]
    by_cases hj : j = c0
    · subst hj; rw [up_s, if_pos rfl]
    · rw [up_j hj, if_neg hj]
  have hF : Frs b (r + 1) 0 (up (up S 24 r c0 (nI y)) 23 r 0 (nI (c0 + 1))) := Frs_up (by unfold wrt; omega) (Frs_up (by unfold wrt; omega) a7)
  generalize up (up S 24 r c0 (nI y)) 23 r 0 (nI (c0 + 1)) = T at *
  obtain ⟨o1, o2, o3, o4, o5, o6, o7, o8⟩ := a5 r (by omega)
  have eC : sC S r = c0 := by unfold sC; rw [hc]; exact nI_clamp (by omega)
  have eC' : sC T r = c0 + 1 := by unfold sC; rw [e23]; exact nI_clamp (by omega)
  have eB : ∀ j, sB T r j = if j = c0 then y else sB S r j := fun j => by
    unfold sB
    rw [e24]
    split
    · exact nI_clamp (by omega)
    · rfl
  rw [eC] at o6 o7 o8 o2
  have hbn := hasB_v S r (nI y) c0 hnb
  have hold : ∀ j, j < c0 → sB S r j ≠ y := fun j hj q => hbn j hj (by
    unfold blockAtF
    rw [if_neg (nI_pos (by omega)), if_neg (show ¬ (5 : Int32) ≤ nI j from le_no (a := 5) (by omega) (by omega)), nI_clamp (by omega), (o6 j hj).1, q])
  refine ⟨⟨(hne 2 0 0 (by omega)).trans a1, (hne 4 0 0 (by omega)).trans a2, (hne 6 0 0 (by omega)).trans a3, fun x hx => ?_, fun q hq => ?_, fun x h => absurd h (Nat.not_lt_zero _), hF, fun x _ => Nat.zero_le _⟩, e23⟩
  · rw [hne 10 x 0 (by omega)]; exact a4 x hx
  · by_cases hqr : q = r
    · subst hqr
      refine ⟨by rw [eC']; exact e23, by rw [eC']; omega, by rw [eC']; omega, ?_, ?_, fun j hj => ?_, fun i j hi hj q => ?_, fun j hj => ?_⟩
      · obtain ⟨w, hw, q⟩ := o4
        exact ⟨w, hw, (hne 21 _ 0 (by omega)).trans q⟩
      · rw [hne 22 q 0 (by omega)]; exact o5
      · rw [eC'] at hj
        rw [e24, eB]
        by_cases h : j = c0
        · rw [if_pos h, if_pos h]; exact ⟨rfl, hy⟩
        · rw [if_neg h, if_neg h]; exact o6 j (by omega)
      · rw [eC'] at hi hj
        rw [eB, eB] at q
        by_cases h : i = c0
        · by_cases h2 : j = c0
          · omega
          · rw [if_pos h, if_neg h2] at q
            exact absurd q.symm (hold j (by omega))
        · by_cases h2 : j = c0
          · rw [if_neg h, if_pos h2] at q
            exact absurd q (hold i (by omega))
          · rw [if_neg h, if_neg h2] at q
            exact o7 i j (by omega) (by omega) q
      · rw [eC'] at hj
        rw [e24, if_neg (by omega)]
        exact o8 j (by omega)
    · exact RtO_cg (fun f j _ _ => hne f q j (by omega)) (a5 q (by omega))
theorem at_f (h : S 36 k 0 = nI q) (hq : q < 6) {x : Nat} (hx : x < 6) : atQ S (nI x) k = decide (q = x) := by
  unfold atQ
  rw [h]
  by_cases e : q = x
  · rw [e]; simp
  · rw [decide_eq_false e]
    exact decide_eq_false (fun w => e (nI_inj (by omega) (by omega) w))
theorem Bld_train {a p x t : Nat} (B : Bld b r n S) (hn : n < 8) (hx : x < 6) (hp1 : 1 ≤ p) (hp3 : p ≤ 3) (hroom : cntTo (atQ S (nI x)) n < 2) : Bld b r (n + 1) (trainF S (nI a) (nI p) (nI x) (nI t)) ∧ (trainF S (nI a) (nI p) (nI x) (nI t)) 32 n 0 = nI 1 ∧ (trainF S (nI a) (nI p) (nI x) (nI t)) 33 n 0 = nI x ∧ (trainF S (nI a) (nI p) (nI x) (nI t)) 34 n 0 = nI t := by
  obtain ⟨a1, a2, a3, a4, a5, a6, a7, a8⟩ := B
  have e : trainF S (nI a) (nI p) (nI x) (nI t) = up (up (up (up (up (up (up (up S 30 n 0 (nI a)) 31 n 0 (nI p)) 36 n 0 (nI x)) 37 n 0 (S 9 0 0)) 33 n 0 (nI x)) 34 n 0 (nI t)) 32 n 0 (nI 1)) 6 0 0 (nI (n + 1)) := by
    have e32 : up (up (up (up S 30 n 0 (nI a)) 31 n 0 (nI p)) 36 n 0 (nI x)) 37 n 0 (S 9 0 0) 32 n 0 = 0 := by
      rw [up_f (by decide), up_f (by decide), up_f (by decide), up_f (by decide)]
      exact a7 32 n 0 (by unfold wrt; omega)
    unfold trainF addStopF
    rw [a3, nI_clamp (by omega), nI_1, e32, if_neg (by decide), if_neg (by decide)]
    rfl
  rw [e]
  generalize hT : up (up (up (up (up (up (up (up S 30 n 0 (nI a)) 31 n 0 (nI p)) 36 n 0 (nI x)) 37 n 0 (S 9 0 0)) 33 n 0 (nI x)) 34 n 0 (nI t)) 32 n 0 (nI 1)) 6 0 0 (nI (n + 1)) = T
  have hne : ∀ f k j, f ≠ 6 → (f < 30 ∨ k ≠ n ∨ f = 35 ∨ 37 < f) → T f k j = S f k j := fun f k j h h2 => by
    rw [← hT]
    unfold up
    rw [if_neg (by omega), if_neg (by omega), if_neg (by omega), if_neg (by omega), if_neg (by omega), if_neg (by omega), if_neg (by omega), if_neg (by omega)]
  have e6 : T 6 0 0 = nI (n + 1) := by rw [← hT, up_s]
  have e32 : T 32 n 0 = nI 1 := by rw [← hT, up_f (by decide), up_s]
  have e34 : T 34 n 0 = nI t := by rw [← hT, up_f (by decide), up_f (by decide), up_s]
  have e33 : T 33 n 0 = nI x := by rw [← hT, up_f (by decide), up_f (by decide), up_f (by decide), up_s]
  have e36 : T 36 n 0 = nI x := by rw [← hT, up_f (by decide), up_f (by decide), up_f (by decide), up_f (by decide), up_f (by decide), up_s]
  have e31 : T 31 n 0 = nI p := by rw [← hT, up_f (by decide), up_f (by decide), up_f (by decide), up_f (by decide), up_f (by decide), up_f (by decide), up_s]
  have hF : Frs b r (n + 1) T := by
    rw [← hT]
    exact Frs_up (by unfold wrt; omega) (Frs_up (by unfold wrt; omega) (Frs_up (by unfold wrt; omega) (Frs_up (by unfold wrt; omega) (Frs_up (by unfold wrt; omega) (Frs_up (by unfold wrt; omega) (Frs_up (by unfold wrt; omega) (Frs_up (by unfold wrt; omega) (a7.mono (by omega) (by omega) (by omega)))))))))
  have eP : sP T n = 1 := by unfold sP; rw [e32]; exact nI_clamp (by omega)
  refine ⟨⟨(hne 2 0 0 (by omega) (by omega)).trans a1, (hne 4 0 0 (by omega) (by omega)).trans a2, e6, fun y hy => ?_, fun q hq => ?_, fun k hk => ?_, hF, fun y hy => ?_⟩, e32, e33, e34⟩
  · rw [hne 10 y 0 (by omega) (by omega)]; exact a4 y hy
  · exact RtO_cg (fun f j _ _ => hne f q j (by omega) (by omega)) (a5 q hq)
  · by_cases hkn : k = n
    · subst hkn
      refine ⟨by rw [eP]; exact e32, by rw [eP]; omega, by rw [eP]; omega, fun j hj => ?_, ⟨p, hp1, hp3, e31⟩, e36.trans e33.symm⟩
      rw [eP] at hj
      rw [show j = 0 by omega]
      exact ⟨x, hx, e33⟩
    · exact TrO_cg (fun f j hf => hne f k j (by omega) (Or.inr (Or.inl hkn))) (a6 k (by omega))
  · show cntTo (atQ T (nI y)) n + (if atQ T (nI y) n = true then 1 else 0) ≤ 2
    rw [cnt_cg (f := atQ S (nI y)) n (fun k hk => by unfold atQ; rw [hne 36 k 0 (by omega) (by omega)]), at_f e36 hx hy]
    by_cases h : x = y
    · subst h
      split <;> omega
    · have := a8 y hy
      simp [h]
      omega
theorem Bld_stop {y t c0 : Nat} (B : Bld b r (n + 1) S) (hy : y < 6) (hc : S 32 n 0 = nI (c0 + 1)) (hc7 : c0 < 7) : Bld b r (n + 1) (addStopF S n (nI y) (nI t)) ∧ (addStopF S n (nI y) (nI t)) 32 n 0 = nI (c0 + 2) ∧ (addStopF S n (nI y) (nI t)) 33 n (c0 + 1) = nI y ∧ (addStopF S n (nI y) (nI t)) 34 n (c0 + 1) = nI t := by
  obtain ⟨a1, a2, a3, a4, a5, a6, a7, a8⟩ := B
  have e : addStopF S n (nI y) (nI t) = up (up (up S 33 n (c0 + 1) (nI y)) 34 n (c0 + 1) (nI t)) 32 n 0 (nI (c0 + 2)) := by
    unfold addStopF
    rw [hc, if_neg (nI_pos (by omega)), if_neg (show ¬ (8 : Int32) ≤ nI (c0 + 1) from le_no (a := 8) (by omega) (by omega)), nI_clamp (by omega), nI_1]
  rw [e]
  generalize hT : up (up (up S 33 n (c0 + 1) (nI y)) 34 n (c0 + 1) (nI t)) 32 n 0 (nI (c0 + 2)) = T
  have hne : ∀ f k j, (f < 32 ∨ k ≠ n ∨ 34 < f) → T f k j = S f k j := fun f k j h => by
    rw [← hT]
    unfold up
    rw [if_neg (by omega), if_neg (by omega), if_neg (by omega)]
  have e32 : T 32 n 0 = nI (c0 + 2) := by rw [← hT, up_s]
  have e34 : T 34 n (c0 + 1) = nI t := by rw [← hT, up_f (by decide), up_s]
  have e33 : ∀ j, T 33 n j = if j = c0 + 1 then nI y else S 33 n j := fun j => by
    rw [← hT, up_f (by decide), up_f (by decide)]
    by_cases hj : j = c0 + 1
    · subst hj; rw [up_s, if_pos rfl]
    · rw [up_j hj, if_neg hj]
  have hF : Frs b r (n + 1) T := by
    rw [← hT]
    exact Frs_up (by unfold wrt; omega) (Frs_up (by unfold wrt; omega) (Frs_up (by unfold wrt; omega) a7))
  have eP : sP T n = c0 + 2 := by unfold sP; rw [e32]; exact nI_clamp (by omega)
  have eP0 : sP S n = c0 + 1 := by unfold sP; rw [hc]; exact nI_clamp (by omega)
  refine ⟨⟨(hne 2 0 0 (by omega)).trans a1, (hne 4 0 0 (by omega)).trans a2, (hne 6 0 0 (by omega)).trans a3, fun x hx => ?_, fun q hq => ?_, fun k hk => ?_, hF, fun x hx => ?_⟩, e32, by rw [e33, if_pos rfl], e34⟩
  · rw [hne 10 x 0 (by omega)]; exact a4 x hx
  · exact RtO_cg (fun f j _ _ => hne f q j (by omega)) (a5 q hq)
  · by_cases hkn : k = n
    · subst hkn
      obtain ⟨o1, o2, o3, o4, ⟨p, p1, p3, o5⟩, o6⟩ := a6 k (by omega)
      refine ⟨by rw [eP]; exact e32, by rw [eP]; omega, by rw [eP]; omega, fun j hj => ?_, ⟨p, p1, p3, (hne 31 k 0 (by omega)).trans o5⟩, by rw [hne 36 k 0 (by omega), e33, if_neg (by omega)]; exact o6⟩
      rw [eP] at hj
      rw [e33]
      by_cases h : j = c0 + 1
      · rw [if_pos h]; exact ⟨y, hy, rfl⟩
      · rw [if_neg h]; exact o4 j (by rw [eP0]; omega)
    · exact TrO_cg (fun f j hf => hne f k j (Or.inr (Or.inl hkn))) (a6 k hk)
  · rw [cnt_cg (f := atQ S (nI x)) (n + 1) (fun k hk => by unfold atQ; rw [hne 36 k 0 (by omega)])]
    exact a8 x hx
theorem Bld_order {x y : Int32} (B : Bld b r n S) : Bld b r n (orderF S x y) := by
  obtain ⟨a1, a2, a3, a4, a5, a6, a7, a8⟩ := B
  have hne : ∀ f k j, f ≠ 7 → f ≠ 8 → orderF S x y f k j = S f k j := fun f k j h h2 => by
    unfold orderF up
    rw [if_neg (by omega), if_neg (by omega)]
  refine ⟨(hne 2 0 0 (by omega) (by omega)).trans a1, (hne 4 0 0 (by omega) (by omega)).trans a2, (hne 6 0 0 (by omega) (by omega)).trans a3, fun x hx => ?_, fun q hq => ?_, fun k hk => ?_, Frs_up (by unfold wrt; omega) (Frs_up (by unfold wrt; omega) a7), fun x hx => ?_⟩
  · rw [hne 10 x 0 (by omega) (by omega)]; exact a4 x hx
  · exact RtO_cg (fun f j _ _ => hne f q j (by omega) (by omega)) (a5 q hq)
  · exact TrO_cg (fun f j hf => hne f k j (by omega) (by omega)) (a6 k hk)
  · rw [cnt_cg (f := atQ S (nI x)) n (fun k hk => by unfold atQ; rw [hne 36 k 0 (by omega) (by omega)])]
    exact a8 x hx
theorem cnt_z {f : Nat → Bool} (n : Nat) (h : ∀ k, k < n → f k = false) : cntTo f n = 0 := by
  induction n with
  | zero => rfl
  | succ n ih =>
    show cntTo f n + (if f n = true then 1 else 0) = 0
    rw [ih (fun k hk => h k (by omega)), h n (by omega)]
    rfl
/-- the line as it stands before the first tick -/
theorem Bld_end (B : Bld b 8 n S) (hb : b ≤ 16) (hn : n ≤ 5) : Stc S b n ∧ Inv b n S S ∧ (∀ k, k < n → Wv n 0 S k) ∧ ∀ f k j, ¬ cpd S b n f k j → initS f k j = S f k j := by
  obtain ⟨a1, a2, a3, a4, a5, a6, a7, a8⟩ := B
  have i11 : ∀ x, S 11 x 0 = -1 := fun x => a7 11 x 0 (by unfold wrt; omega)
  have i12 : ∀ x, S 12 x 0 = -1 := fun x => a7 12 x 0 (by unfold wrt; omega)
  have i38 : ∀ x, S 38 x 0 = -1 := fun x => a7 38 x 0 (by unfold wrt; omega)
  have i40 : ∀ x, S 40 x 0 = 0 := fun x => a7 40 x 0 (by unfold wrt; omega)
  have i35 : ∀ x, S 35 x 0 = 0 := fun x => a7 35 x 0 (by unfold wrt; omega)
  have i43 : ∀ x, S 43 x 0 = 0 := fun x => a7 43 x 0 (by unfold wrt; omega)
  have i45 : ∀ x j, S 45 x j = 0 := fun x j => a7 45 x j (by unfold wrt; omega)
  have i0 : ∀ x, x < 6 → S 0 0 x = 2 := fun x hx => (a7 0 0 x (by unfold wrt; omega)).trans (if_pos hx)
  refine ⟨⟨⟨hb, hn, a1, a2, a3⟩, fun r hr => ⟨(a5 r hr).1, (a5 r hr).2.1, (a5 r hr).2.2.1⟩, fun r hr => (a5 r hr).2.2.2.1, fun r hr => (a5 r hr).2.2.2.2.1, fun r j hr hj => (a5 r hr).2.2.2.2.2.1 j hj, fun r i j hr hi hj e => (a5 r hr).2.2.2.2.2.2.1 i j hi hj e, fun k hk => ⟨(a6 k hk).1, (a6 k hk).2.1, (a6 k hk).2.2.1⟩, fun k j hk hj => (a6 k hk).2.2.2.1 j hj, fun k x hk hx => ?_, i0⟩, ⟨fun _ _ _ _ => rfl, fun k hk => ?_, fun k r p hk o => absurd (i38 k) o.n38, fun x _ => Or.inl (i11 x), fun x _ => Or.inl (i12 x), fun x hx => ?_, ?_⟩, fun k hk => ⟨i43 k, i45 k k, fun _ => 0, fun o _ => i45 k o, ?_⟩, fun f k j q => ?_⟩
  · obtain ⟨l, l1, l9, e1⟩ := a4 x hx
    obtain ⟨p, p1, p3, e2⟩ := (a6 k hk).2.2.2.2.1
    rw [e1, e2, pk_mul]
    refine ⟨l * p, Nat.mul_pos l1 p1, ?_, rfl⟩
    calc l * p ≤ 9 * 3 := Nat.mul_le_mul l9 p3
      _ = 27 := rfl
  · obtain ⟨o1, o2, o3, o4, o5, o6⟩ := a6 k hk
    obtain ⟨y, hy, e⟩ := o4 0 (by omega)
    exact Or.inl ⟨y, 0, hy, by omega, o6.trans e, i38 k, i40 k, i35 k, e⟩
  · rw [cnt_z (f := wayQ S (nI x)) n (fun k _ => wayQ_off (i38 k))]
    exact a8 x hx
  · rw [cnt_z (f := heldQ S) b (fun x _ => decide_eq_false (fun w => w (i11 x))), cnt_z (f := onBlockF S) n (fun k _ => onB_f (i38 k))]
  · have : ∀ m, sumN (fun _ => 0) m = 0 := fun m => by
      induction m with
      | zero => rfl
      | succ m ih => show sumN (fun _ => 0) m + 0 = 0; rw [ih]
    rw [this]
    exact Nat.le_refl 0
  · by_cases h : wrt b 8 n f k j
    · unfold wrt at h
      unfold cpd at q
      rcases (show f = 24 ∧ k < 8 ∧ sC S k ≤ j by omega) with ⟨rfl, hk, hj⟩
      exact ((a5 k hk).2.2.2.2.2.2.2 j hj).symm
    · exact (a7 f k j h).symm
end BUILD
