/-! The trial takes all from the line: then it is as the line. -/
def Rl (S T T' : St) (Q : Nat → Nat → Nat → Prop) : Prop := ∀ f k j, (Q f k j → T' f k j = S f k j) ∧ (¬ Q f k j → T' f k j = T f k j)
section TAKE
variable {S S0 T T' T'' U : St} {Q Q' : Nat → Nat → Nat → Prop} {b n : Nat}
theorem Rl.comp (h : Rl S T T' Q) (h' : Rl S T' T'' Q') : Rl S T T'' (fun f k j => Q f k j ∨ Q' f k j) := fun f k j => by
  refine ⟨fun q => ?_, fun q => ?_⟩
  · by_cases h2 : Q' f k j
    · exact (h' f k j).1 h2
    · rw [(h' f k j).2 h2]
      exact (h f k j).1 (q.resolve_right h2)
  · rw [(h' f k j).2 (fun e => q (Or.inr e)), (h f k j).2 (fun e => q (Or.inl e))]
theorem Rl.to (h : Rl S T T' Q) (e : ∀ f k j, Q f k j ↔ Q' f k j) : Rl S T T' Q' := fun f k j => ⟨fun q => (h f k j).1 ((e f k j).mpr q), fun q => (h f k j).2 (fun w => q ((e f k j).mp w))⟩
theorem Rl_up (T : St) (f k j : Nat) : Rl S T (up T f k j (S f k j)) (fun f' k' j' => f' = f ∧ k' = k ∧ j' = j) := fun f' k' j' => ⟨fun q => by rw [q.1, q.2.1, q.2.2]; exact up_s, fun q => if_neg q⟩
theorem Rl_cpA (T : St) (f k m : Nat) : Rl S T (cpA T S f k m) (fun f' k' j' => f' = f ∧ k' = k ∧ j' < m) := fun f' k' j' => ⟨fun q => by
  show (if f' = f ∧ k' = k ∧ j' < m then S f k j' else T f' k' j') = _
  rw [if_pos q, q.1, q.2.1], fun q => if_neg q⟩
theorem Rl_cp1 (T : St) (f k : Nat) : Rl S T (cp1 T S f k) (fun f' k' j' => f' = f ∧ k' = k ∧ j' = 0) := Rl_up T f k 0
theorem Rl_iter {g : Nat → St → St} {Q : Nat → Nat → Nat → Nat → Prop} : ∀ (m : Nat) (_ : ∀ i T, i < m → Rl S T (g i T) (Q i)) (T : St), Rl S T (iterF g m T) (fun f k j => ∃ i, i < m ∧ Q i f k j)
  | 0, _, T => fun f k j => ⟨fun q => by obtain ⟨i, h, _⟩ := q; exact absurd h (Nat.not_lt_zero _), fun _ => rfl⟩
  | m + 1, h, T => by
    refine ((Rl_iter m (fun i T hi => h i T (by omega)) T).comp (h m _ (by omega))).to (fun f k j => ?_)
    constructor
    · rintro (⟨i, hi, q⟩ | q)
      · exact ⟨i, by omega, q⟩
      · exact ⟨m, by omega, q⟩
    · rintro ⟨i, hi, q⟩
      by_cases e : i = m
      · subst e; exact Or.inr q
      · exact Or.inl ⟨i, by omega, q⟩
theorem Rl_bk (T : St) (k : Nat) : Rl S T (bkCopyF T S k) (fun f k' j => k' = k ∧ 10 ≤ f ∧ f ≤ 13 ∧ j = 0) :=
  ((((Rl_cp1 T 10 k).comp (Rl_cp1 _ 11 k)).comp (Rl_cp1 _ 12 k)).comp (Rl_cp1 _ 13 k)).to (fun f k' j => by omega)
theorem Rl_tr (T : St) (k : Nat) : Rl S T (trCopyF T S k) (fun f k' j => k' = k ∧ ((30 ≤ f ∧ f ≤ 44 ∧ f ≠ 33 ∧ f ≠ 34 ∧ j = 0) ∨ ((f = 33 ∨ f = 34 ∨ f = 45) ∧ j < 8))) :=
  ((((((((((((((((Rl_cp1 T 30 k).comp (Rl_cp1 _ 31 k)).comp (Rl_cp1 _ 32 k)).comp (Rl_cpA _ 33 k 8)).comp (Rl_cpA _ 34 k 8)).comp (Rl_cp1 _ 35 k)).comp (Rl_cp1 _ 36 k)).comp (Rl_cp1 _ 37 k)).comp (Rl_cp1 _ 38 k)).comp (Rl_cp1 _ 39 k)).comp (Rl_cp1 _ 40 k)).comp (Rl_cp1 _ 41 k)).comp (Rl_cp1 _ 42 k)).comp (Rl_cp1 _ 43 k)).comp (Rl_cp1 _ 44 k)).comp (Rl_cpA _ 45 k 8)).to (fun f k' j => by omega)
theorem rtI_v (T : St) (k c : Nat) (hc : c ≤ 5) : ∀ m : Nat, m ≤ c → (rtI T S k m 23 k 0 = nI m) ∧ Rl S T (fun f k' j => if f = 23 ∧ k' = k ∧ j = 0 then S 23 k 0 else rtI T S k m f k' j) (fun f k' j => k' = k ∧ ((20 ≤ f ∧ f ≤ 23 ∧ j = 0) ∨ (f = 24 ∧ j < m)))
  | 0, _ => by
    refine ⟨up_s, fun f k' j => ⟨fun q => ?_, fun q => ?_⟩⟩
    · obtain ⟨rfl, q⟩ := q
      show (if f = 23 ∧ k' = k' ∧ j = 0 then S 23 k' 0 else layF T k' (S 20 k' 0) (S 21 k' 0) (S 22 k' 0) f k' j) = S f k' j
      rcases (show (f = 20 ∧ j = 0) ∨ (f = 21 ∧ j = 0) ∨ (f = 22 ∧ j = 0) ∨ (f = 23 ∧ j = 0) by omega) with ⟨rfl, rfl⟩ | ⟨rfl, rfl⟩ | ⟨rfl, rfl⟩ | ⟨rfl, rfl⟩
      · rw [if_neg (by omega)]; unfold layF; rw [up_f (by decide), up_f (by decide), up_f (by decide), up_s]
      · rw [if_neg (by omega)]; unfold layF; rw [up_f (by decide), up_f (by decide), up_s]
      · rw [if_neg (by omega)]; unfold layF; rw [up_f (by decide), up_s]
      · rw [if_pos ⟨rfl, rfl, rfl⟩]
    · show (if f = 23 ∧ k' = k ∧ j = 0 then S 23 k 0 else layF T k (S 20 k 0) (S 21 k 0) (S 22 k 0) f k' j) = T f k' j
      rw [if_neg (by omega)]
      unfold layF up
      rw [if_neg (by omega), if_neg (by omega), if_neg (by omega), if_neg (by omega)]
  | m + 1, hm => by
    obtain ⟨h1, h2⟩ := rtI_v T k c hc m (by omega)
    have eb : blockAtF S k (nI m) = S 24 k m := by
      unfold blockAtF
      rw [if_neg (nI_pos (by omega)), if_neg (show ¬ (5 : Int32) ≤ nI m from le_no (a := 5) (by omega) (by omega)), nI_clamp (by omega)]
    have e : rtI T S k (m + 1) = up (up (rtI T S k m) 24 k m (S 24 k m)) 23 k 0 (nI (m + 1)) := by
      show addBlockF (rtI T S k m) k (blockAtF S k (nI m)) = _
      unfold addBlockF
      rw [h1, eb, if_neg (nI_pos (by omega)), if_neg (show ¬ (5 : Int32) ≤ nI m from le_no (a := 5) (by omega) (by omega)), nI_clamp (by omega), nI_1]
    rw [e]
    refine ⟨up_s, ?_⟩
    have e2 : (fun f k' j => if f = 23 ∧ k' = k ∧ j = 0 then S 23 k 0 else up (up (rtI T S k m) 24 k m (S 24 k m)) 23 k 0 (nI (m + 1)) f k' j) = up (fun f k' j => if f = 23 ∧ k' = k ∧ j = 0 then S 23 k 0 else rtI T S k m f k' j) 24 k m (S 24 k m) := by
      funext f k' j
      show (if f = 23 ∧ k' = k ∧ j = 0 then S 23 k 0 else if f = 23 ∧ k' = k ∧ j = 0 then nI (m + 1) else if f = 24 ∧ k' = k ∧ j = m then S 24 k m else rtI T S k m f k' j) = if f = 24 ∧ k' = k ∧ j = m then S 24 k m else if f = 23 ∧ k' = k ∧ j = 0 then S 23 k 0 else rtI T S k m f k' j
      by_cases q : f = 23 ∧ k' = k ∧ j = 0
      · rw [if_pos q, if_neg (by omega), if_pos q]
      · rw [if_neg q, if_neg q, if_neg q]
    rw [e2]
    exact (h2.comp (Rl_up _ 24 k m)).to (fun f k' j => by omega)
theorem Rl_rt (T : St) (k c : Nat) (hc : c ≤ 5) (h : S 23 k 0 = nI c) : Rl S T (rtCopyF T S k) (fun f k' j => k' = k ∧ ((20 ≤ f ∧ f ≤ 23 ∧ j = 0) ∨ (f = 24 ∧ j < c))) := by
  obtain ⟨h1, h2⟩ := rtI_v (S := S) T k c hc c (Nat.le_refl _)
  have e : rtCopyF T S k = rtI T S k c := by
    unfold rtCopyF rtI
    rw [h, nI_clamp (by omega)]
  have e2 : (fun f k' j => if f = 23 ∧ k' = k ∧ j = 0 then S 23 k 0 else rtI T S k c f k' j) = rtI T S k c := by
    funext f k' j
    by_cases q : f = 23 ∧ k' = k ∧ j = 0
    · rw [if_pos q, q.1, q.2.1, q.2.2, h1, h]
    · rw [if_neg q]
  rw [e, ← e2]
  exact h2
/-- the places that a copy reaches -/
def cpd (S0 : St) (b n f k j : Nat) : Prop := (f = 0 ∧ k = 0 ∧ j < 6) ∨ ((f = 2 ∨ f = 4 ∨ f = 6 ∨ f = 7 ∨ f = 8 ∨ f = 9) ∧ k = 0 ∧ j = 0) ∨ (k < b ∧ 10 ≤ f ∧ f ≤ 13 ∧ j = 0) ∨ (k < 8 ∧ ((20 ≤ f ∧ f ≤ 23 ∧ j = 0) ∨ (f = 24 ∧ j < sC S0 k))) ∨ (k < n ∧ ((30 ≤ f ∧ f ≤ 44 ∧ f ≠ 33 ∧ f ≠ 34 ∧ j = 0) ∨ ((f = 33 ∨ f = 34 ∨ f = 45) ∧ j < 8)))
theorem FT_cpd {f k j : Nat} (h : FT b n f k j) : cpd S0 b n f k j := by
  unfold FT at h
  unfold cpd
  omega
theorem take_eq (C : Stc S0 b n) (F : Fr b n S0 S) (hU : ∀ f k j, ¬ cpd S0 b n f k j → U f k j = S0 f k j) : takeF U S = S := by
  have rA : Rl S U (cpyA U S) _ := (Rl_cpA U 0 0 6).comp (Rl_up _ 2 0 0)
  have rB : Rl S _ (cpyB U S (nB S)) _ := Rl_iter (g := fun i T => bkCopyF T S i) (nB S) (fun i T _ => Rl_bk T i) (cpyA U S)
  have rC : Rl S _ (cpyC U S) _ := Rl_up (cpyB U S (nB S)) 4 0 0
  have rD : Rl S _ (cpyD U S (nR S)) _ := Rl_iter (Q := fun i f k' j => k' = i ∧ ((20 ≤ f ∧ f ≤ 23 ∧ j = 0) ∨ (f = 24 ∧ j < sC S0 i))) (g := fun i T => rtCopyF T S i) (nR S) (fun i T hi => by
    rw [nR_F C F] at hi
    exact Rl_rt T i (sC S0 i) (C.cnt hi).2.2 ((F.st (by decide) i 0).trans (C.cnt hi).1)) (cpyC U S)
  have rE : Rl S _ (cpyE U S) _ := Rl_up (cpyD U S (nR S)) 6 0 0
  have rF : Rl S _ (cpyF U S (nT S)) _ := Rl_iter (g := fun i T => trCopyF T S i) (nT S) (fun i T _ => Rl_tr T i) (cpyE U S)
  have rG : Rl S _ (takeF U S) _ := ((Rl_up (cpyF U S (nT S)) 7 0 0).comp (Rl_up _ 8 0 0)).comp (Rl_up _ 9 0 0)
  have r := (((((rA.comp rB).comp rC).comp rD).comp rE).comp rF).comp rG
  rw [nB_F C F, nR_F C F, nT_F C F] at r
  funext f k j
  by_cases h : cpd S0 b n f k j
  · refine (r f k j).1 ?_
    unfold cpd at h
    rcases h with h | h | h | h | h
    · exact Or.inl (Or.inl (Or.inl (Or.inl (Or.inl (Or.inl (Or.inl h))))))
    · rcases h with ⟨h | h | h | h | h | h, h2⟩
      · exact Or.inl (Or.inl (Or.inl (Or.inl (Or.inl (Or.inl (Or.inr ⟨h, h2⟩))))))
      · exact Or.inl (Or.inl (Or.inl (Or.inl (Or.inr ⟨h, h2⟩))))
      · exact Or.inl (Or.inl (Or.inr ⟨h, h2⟩))
      · exact Or.inr (Or.inl (Or.inl ⟨h, h2⟩))
      · exact Or.inr (Or.inl (Or.inr ⟨h, h2⟩))
      · exact Or.inr (Or.inr ⟨h, h2⟩)
    · exact Or.inl (Or.inl (Or.inl (Or.inl (Or.inl (Or.inr ⟨k, h.1, rfl, h.2⟩)))))
    · exact Or.inl (Or.inl (Or.inl (Or.inr ⟨k, h.1, rfl, h.2⟩)))
    · exact Or.inl (Or.inr ⟨k, h.1, rfl, h.2⟩)
  · have e1 : U f k j = S f k j := (hU f k j h).trans (F f k j (fun q => h (FT_cpd q))).symm
    by_cases q : takeF U S f k j = S f k j
    · exact q
    · rw [← e1]
      exact (r f k j).2 (fun w => q ((r f k j).1 w))
end TAKE
