/-! A train goes on to the next block, or sets out. -/
section MOVE
variable {S0 S S' : St} {b n i k r p : Nat}
theorem Inv.go (C : Stc S0 b n) (I : Inv b n S0 S) (F' : Fr b n S0 S') (hi : i < n) (O : On S0 S i r p) (O' : On S0 S' i r (p + 1)) (ht : ∀ k, k < n → k ≠ i → TE S S' k) (hc : S 11 (sB S0 r (p + 1)) 0 = -1)
    (h11 : ∀ x, x < b → S' 11 x 0 = if x = sB S0 r (p + 1) then nI i else if x = sB S0 r p then -1 else S 11 x 0) (h12 : ∀ x, x < b → S' 12 x 0 = if x = sB S0 r (p + 1) then -1 else S 12 x 0) : Inv b n S0 S' := by
  obtain ⟨F, i1, i2, i3, i4, i5, i6⟩ := I
  have hn5 := C.n5
  have hB := C.blk O.1 O.2.1
  have hC := C.blk O'.1 O'.2.1
  have hH := i2 i r p hi O
  have hBC : sB S0 r p ≠ sB S0 r (p + 1) := fun e => by
    have := C.inj O.1 O.2.1 O'.2.1 e
    omega
  refine ⟨F', fun k hk => ?_, fun k r' p' hk o => ?_, fun x hx => ?_, fun x hx => ?_, fun x hx => ?_, ?_⟩
  · by_cases e : k = i
    · subst e
      exact Or.inr (Or.inl ⟨r, p + 1, O'⟩)
    · exact (i1 k hk).te (ht k hk e)
  · by_cases e : k = i
    · subst e
      obtain ⟨rfl, rfl⟩ := O'.uq o
      rw [h11 _ hC.2, if_pos rfl]
    · have o' := o.back (i1 k hk) (ht k hk e)
      have h := i2 k r' p' hk o'
      rw [h11 _ (C.blk o.1 o.2.1).2, if_neg, if_neg, h]
      · intro q
        rw [q, hH] at h
        exact e (nI_inj (by omega) (by omega) h.symm)
      · intro q
        rw [q, hc] at h
        exact m1_ne (by omega) h.symm
  · rw [h11 x hx]
    by_cases e0 : x = sB S0 r (p + 1)
    · exact Or.inr ⟨i, r, p + 1, hi, O', e0.symm⟩
    rw [if_neg e0]
    by_cases e : x = sB S0 r p
    · rw [if_pos e]; exact Or.inl rfl
    · rw [if_neg e]
      rcases i3 x hx with h | ⟨k, r', p', hk, o, q⟩
      · exact Or.inl h
      · by_cases e2 : k = i
        · subst e2
          obtain ⟨rfl, rfl⟩ := O.uq o
          exact absurd q.symm e
        · exact Or.inr ⟨k, r', p', hk, o.te (ht k hk e2), q⟩
  · rw [h11 x hx, h12 x hx]
    by_cases e0 : x = sB S0 r (p + 1)
    · rw [if_pos e0]; exact Or.inl rfl
    rw [if_neg e0, if_neg e0]
    rcases i4 x hx with h | ⟨h, k, r', p', j, hk, q, o, w, q1, q2, q3⟩
    · exact Or.inl h
    · have hv : (if x = sB S0 r p then -1 else S 11 x 0) = -1 := by
        split
        · rfl
        · exact h
      by_cases e2 : k = i
      · subst e2
        obtain ⟨rfl, rfl⟩ := O.uq o
        have hj : j ≠ p + 1 := fun e => e0 (by rw [← q3, e])
        exact Or.inr ⟨hv, k, r, p + 1, j, hk, q, O', w, by omega, q2, q3⟩
      · exact Or.inr ⟨hv, k, r', p', j, hk, q, o.te (ht k hk e2), w, q1, q2, q3⟩
  · have h := room_ch F F' hi ht (nI x)
    have h5 := i5 x hx
    rw [atQ_m1 (S := S) hx O.2.2.1, wayQ_on C F O, atQ_m1 (S := S') hx O'.2.2.1, wayQ_on C F' O'] at h
    omega
  · have h1 := on_ch hi ht
    have h2 := cnt_ch (f := heldQ S) (g := fun x => if x = sB S0 r p then false else heldQ S x) b hB.2 (fun x hx hn => if_neg hn)
    have h3 := cnt_ch (f := fun x => if x = sB S0 r p then false else heldQ S x) (g := heldQ S') b hC.2 (fun x hx hn => by
      show _ = if x = sB S0 r p then false else heldQ S x
      unfold heldQ
      rw [h11 x hx, if_neg hn]
      split
      · exact decide_eq_false (fun e => e rfl)
      · rfl)
    have e1 : heldQ S (sB S0 r p) = true := by unfold heldQ; rw [hH]; exact decide_eq_true (m1_ne (by omega))
    have e2 : heldQ S (sB S0 r (p + 1)) = false := by unfold heldQ; rw [hc]; exact decide_eq_false (fun e => e rfl)
    have e3 : heldQ S' (sB S0 r (p + 1)) = true := by unfold heldQ; rw [h11 _ hC.2, if_pos rfl]; exact decide_eq_true (m1_ne (by omega))
    simp only [e1, e2, e3, if_true, Bool.false_eq_true, if_false, ite_self] at h2 h3
    rw [onB_t O, onB_t O'] at h1
    omega
theorem Inv.out (C : Stc S0 b n) (I : Inv b n S0 S) (F' : Fr b n S0 S') (hi : i < n) (A : AtS S0 S i) (O' : On S0 S' i r 0) (ht : ∀ k, k < n → k ≠ i → TE S S' k)
    (hc : S 11 (sB S0 r 0) 0 = -1) (hw : ∀ j, S0 22 r 0 = 1 → j < sC S0 r → S 11 (sB S0 r j) 0 = -1)
    (h11 : ∀ x, x < b → S' 11 x 0 = if x = sB S0 r 0 then nI i else S 11 x 0)
    (h12 : ∀ x, x < b → (x = sB S0 r 0 → S' 12 x 0 = -1) ∧ (x ≠ sB S0 r 0 → S' 12 x 0 = S 12 x 0 ∨ (S0 22 r 0 = 1 ∧ S' 12 x 0 = nI i ∧ ∃ j, 0 < j ∧ j < sC S0 r ∧ sB S0 r j = x)))
    (hroom : ∀ x, x < 6 → S0 21 r 0 = nI x → cntTo (atQ S (nI x)) n + cntTo (wayQ S (nI x)) n < 2) : Inv b n S0 S' := by
  obtain ⟨F, i1, i2, i3, i4, i5, i6⟩ := I
  have hn5 := C.n5
  have hC := C.blk O'.1 O'.2.1
  have noA : ∀ r' p', ¬ On S0 S i r' p' := fun r' p' o => o.n38 A.e38
  refine ⟨F', fun k hk => ?_, fun k r' p' hk o => ?_, fun x hx => ?_, fun x hx => ?_, fun x hx => ?_, ?_⟩
  · by_cases e : k = i
    · subst e
      exact Or.inr (Or.inl ⟨r, 0, O'⟩)
    · exact (i1 k hk).te (ht k hk e)
  · by_cases e : k = i
    · subst e
      obtain ⟨rfl, rfl⟩ := O'.uq o
      rw [h11 _ hC.2, if_pos rfl]
    · have o' := o.back (i1 k hk) (ht k hk e)
      have h := i2 k r' p' hk o'
      rw [h11 _ (C.blk o.1 o.2.1).2, if_neg, h]
      intro q
      rw [q, hc] at h
      exact m1_ne (by omega) h.symm
  · rw [h11 x hx]
    by_cases e0 : x = sB S0 r 0
    · exact Or.inr ⟨i, r, 0, hi, O', e0.symm⟩
    rw [if_neg e0]
    rcases i3 x hx with h | ⟨k, r', p', hk, o, q⟩
    · exact Or.inl h
    · by_cases e2 : k = i
      · subst e2
        exact absurd o (noA _ _)
      · exact Or.inr ⟨k, r', p', hk, o.te (ht k hk e2), q⟩
  · rw [h11 x hx]
    by_cases e0 : x = sB S0 r 0
    · exact Or.inl ((h12 x hx).1 e0)
    rw [if_neg e0]
    rcases (h12 x hx).2 e0 with e | ⟨w, e, j, j0, j1, j2⟩
    · rw [e]
      rcases i4 x hx with h | ⟨h, k, r', p', j, hk, q, o, w, q1, q2, q3⟩
      · exact Or.inl h
      · by_cases e2 : k = i
        · subst e2
          exact absurd o (noA _ _)
        · exact Or.inr ⟨h, k, r', p', j, hk, q, o.te (ht k hk e2), w, q1, q2, q3⟩
    · refine Or.inr ⟨?_, i, r, 0, j, hi, e, O', w, j0, j1, j2⟩
      rw [← j2]
      exact hw j w j1
  · have h := room_ch F F' hi ht (nI x)
    have h5 := i5 x hx
    rw [wayQ_off (S := S) A.e38, atQ_m1 (S := S') hx O'.2.2.1, wayQ_on C F' O'] at h
    by_cases e : S0 21 r 0 = nI x
    · have := hroom x hx e
      simp only [e, decide_true, if_true, Bool.false_eq_true, if_false] at h
      omega
    · simp only [e, decide_false, Bool.false_eq_true, if_false] at h
      omega
  · have h1 := on_ch hi ht
    have h2 := cnt_ch (f := heldQ S) (g := heldQ S') b hC.2 (fun x hx hn => by unfold heldQ; rw [h11 x hx, if_neg hn])
    have e1 : heldQ S (sB S0 r 0) = false := by unfold heldQ; rw [hc]; exact decide_eq_false (fun e => e rfl)
    have e2 : heldQ S' (sB S0 r 0) = true := by unfold heldQ; rw [h11 _ hC.2, if_pos rfl]; exact decide_eq_true (m1_ne (by omega))
    rw [e1, e2] at h2
    rw [onB_f A.e38, onB_t O'] at h1
    simp only [Bool.false_eq_true, if_false, if_true] at h1 h2
    omega
end MOVE
