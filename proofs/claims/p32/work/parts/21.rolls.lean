/-! A train rolls. -/
section ROLL
variable {S0 S S' : St} {b n i k r p : Nat}
theorem atEnd_f38 (h : S 38 k 0 = -1) : atEndF S k = false := decide_eq_false fun q => q.1 h
theorem atEnd_f40 (h : S 40 k 0 ≠ 0) : atEndF S k = false := decide_eq_false fun q => h q.2
theorem atEnd_t (h : S 38 k 0 ≠ -1) (h0 : S 40 k 0 = 0) : atEndF S k = true := decide_eq_true ⟨h, h0⟩
def Rld (b n : Nat) (S0 S S' : St) (i : Nat) : Prop := Inv b n S0 S' ∧ Oth S S' i ∧ ((Wt n S S' i ∧ atEndF S' i = true) ∨ (Nt S S' i ∧ atEndF S' i = false))
theorem rollC_ok (C : Stc S0 b n) (I : Inv b n S0 S) (hi : i < n) (O : On S0 S i r p) (hp : ¬ p + 1 < sC S0 r) (h0 : S 40 i 0 = 0) : Rld b n S0 S (comeF S i) i := by
  have F := I.1
  have hB := C.blk O.1 O.2.1
  obtain ⟨l, ls, hl27, hl, hls1, hls, hto⟩ := O.2.2.2.2.2
  have f11 : FT b n 11 (sB S0 r p) 0 := by unfold FT; omega
  have FU : Fr b n S0 (comeU S i (sB S0 r p) ls) := Fr_up (by unfold FT; omega) (Fr_up (by unfold FT; omega) (Fr_up (by unfold FT; omega) (Fr_up f11 F)))
  have oth : ∀ g v, 35 ≤ g → Oth S (up (comeU S i (sB S0 r p) ls) g i 0 v) i := fun g v hg => by
    refine ⟨fun f k j hf hk => ?_, fun f k j hf => ?_⟩
    · unfold comeU
      rw [up_k hk, up_k hk, up_k hk, up_k hk, up_f (by omega)]
    · unfold comeU
      rw [up_f (by omega), up_f (by omega), up_f (by omega), up_f (by omega), up_f (by omega)]
  have nt : ∀ g v, g < 43 → Nt S (up (comeU S i (sB S0 r p) ls) g i 0 v) i := fun g v hg f j hf => by
    unfold comeU
    rw [up_f (by omega), up_f (by omega), up_f (by omega), up_f (by omega), up_f (by omega)]
  have h11 : ∀ g v, 35 ≤ g → ∀ x, x < b → up (comeU S i (sB S0 r p) ls) g i 0 v 11 x 0 = if x = sB S0 r p then -1 else S 11 x 0 := fun g v hg x _ => by
    unfold comeU
    rw [up_f (by omega), up_f (by omega), up_f (by omega), up_f (by omega), up_11]
  have h12 : ∀ g v, 35 ≤ g → ∀ x, x < b → up (comeU S i (sB S0 r p) ls) g i 0 v 12 x 0 = S 12 x 0 := fun g v hg x _ => by
    unfold comeU
    rw [up_f (by omega), up_f (by omega), up_f (by omega), up_f (by omega), up_f (by omega)]
  have e38 : ∀ g v, g ≠ 38 → up (comeU S i (sB S0 r p) ls) g i 0 v 38 i 0 = -1 := fun g v hg => by
    unfold comeU
    rw [up_f (by omega), up_f (by omega), up_f (by omega), up_s]
  have e35 : ∀ g v, g ≠ 35 → up (comeU S i (sB S0 r p) ls) g i 0 v 35 i 0 = nI (ls + 1) := fun g v hg => by
    unfold comeU
    rw [up_f (by omega), up_f (by omega), up_s]
  have e36 : up (comeU S i (sB S0 r p) ls) 36 i 0 (S0 33 i (ls + 1)) 36 i 0 = S0 33 i (ls + 1) := up_s
  have e36' : ∀ v, up (comeU S i (sB S0 r p) ls) 42 i 0 v 36 i 0 = S 36 i 0 := fun v => by
    unfold comeU
    rw [up_f (by omega), up_f (by omega), up_f (by omega), up_f (by omega), up_f (by omega)]
  have e40 : ∀ g v, g ≠ 40 → up (comeU S i (sB S0 r p) ls) g i 0 v 40 i 0 = S 40 i 0 := fun g v hg => by
    unfold comeU
    rw [up_f (by omega), up_f (by omega), up_f (by omega), up_f (by omega), up_f (by omega)]
  rcases come_eq C F hi O hls hls1 with ⟨hl2, v, e⟩ | ⟨hl2, e⟩
  · rw [e]
    exact ⟨Inv.come C I (Fr_up (by unfold FT; omega) FU) hi O hp (fun k hk hn => (oth 42 v (by omega)).te hn) (h11 42 v (by omega)) (h12 42 v (by omega)) (Or.inr ⟨ls + 1, by omega, (e36' v).trans O.2.2.1, e38 42 v (by omega), (e40 42 v (by omega)).trans h0, e35 42 v (by omega)⟩), oth 42 v (by omega), Or.inr ⟨nt 42 v (by omega), atEnd_f38 (e38 42 v (by omega))⟩⟩
  · rw [e]
    obtain ⟨y, hy, hy2⟩ := C.to O.1
    exact ⟨Inv.come C I (Fr_up (by unfold FT; omega) FU) hi O hp (fun k hk hn => (oth 36 _ (by omega)).te hn) (h11 36 _ (by omega)) (h12 36 _ (by omega)) (Or.inl ⟨⟨y, ls + 1, hy, by omega, e36.trans (hto.trans hy2), e38 36 _ (by omega), (e40 36 _ (by omega)).trans h0, e35 36 _ (by omega), hto.trans hy2⟩, e36.trans hto⟩), oth 36 _ (by omega), Or.inr ⟨nt 36 _ (by omega), atEnd_f38 (e38 36 _ (by omega))⟩⟩
theorem ent_v (S : St) (i r p B : Nat) : (∀ x, entU S i r p B 11 x 0 = if x = B then nI i else S 11 x 0) ∧ (∀ x, entU S i r p B 12 x 0 = if x = B then -1 else S 12 x 0) ∧ entU S i r p B 36 i 0 = -1 ∧ entU S i r p B 38 i 0 = nI r ∧ entU S i r p B 39 i 0 = nI p ∧ entU S i r p B 40 i 0 = S 10 B 0 * S 31 i 0 ∧ (∀ f k j, f ≠ 11 → f ≠ 12 → (k ≠ i ∨ (f ≠ 36 ∧ f ≠ 38 ∧ f ≠ 39 ∧ f ≠ 40)) → entU S i r p B f k j = S f k j) := by
  unfold entU
  refine ⟨fun x => ?_, fun x => ?_, ?_, ?_, ?_, ?_, fun f k j h1 h2 h3 => ?_⟩
  · rw [up_f (by decide), up_11, up_f (by decide), up_f (by decide), up_f (by decide), up_f (by decide)]
  · rw [up_12, up_f (by decide), up_f (by decide), up_f (by decide), up_f (by decide), up_f (by decide)]
  · rw [up_f (by decide), up_f (by decide), up_f (by decide), up_f (by decide), up_f (by decide), up_s]
  · rw [up_f (by decide), up_f (by decide), up_f (by decide), up_f (by decide), up_s]
  · rw [up_f (by decide), up_f (by decide), up_f (by decide), up_s]
  · rw [up_f (by decide), up_f (by decide), up_s]
  · rw [up_f h2, up_f h1]
    rcases h3 with h3 | ⟨a, b, c, d⟩
    · rw [up_k h3, up_k h3, up_k h3, up_k h3]
    · rw [up_f d, up_f c, up_f b, up_f a]
theorem Fr_ent (F : Fr b n S0 S) (hi : i < n) {B : Nat} (hB : B < b) : Fr b n S0 (entU S i r p B) := Fr_up (by unfold FT; omega) (Fr_up (by unfold FT; omega) (Fr_up (by unfold FT; omega) (Fr_up (by unfold FT; omega) (Fr_up (by unfold FT; omega) (Fr_up (by unfold FT; omega) F)))))
theorem rollG_ok (C : Stc S0 b n) (I : Inv b n S0 S) (hi : i < n) (O : On S0 S i r p) (hp : p + 1 < sC S0 r) (hc : S 11 (sB S0 r (p + 1)) 0 = -1) : Rld b n S0 S (enterF (leaveF S i) i (nI r) (nI (p + 1))) i := by
  have F := I.1
  have hB := C.blk O.1 O.2.1
  have hC := C.blk O.1 hp
  obtain ⟨l, ls, hl27, hl, hls1, hls, hto⟩ := O.2.2.2.2.2
  have F2 : Fr b n S0 (up S 11 (sB S0 r p) 0 (-1)) := Fr_up (by unfold FT; omega) F
  rw [leave_on C F O, enter_eq C F2 O.1 hp]
  obtain ⟨v11, v12, v36, v38, v39, v40, vo⟩ := ent_v (up S 11 (sB S0 r p) 0 (-1)) i r (p + 1) (sB S0 r (p + 1))
  obtain ⟨l2, h1, h27, hl2⟩ := C.len hi hC.2
  have e40 : entU (up S 11 (sB S0 r p) 0 (-1)) i r (p + 1) (sB S0 r (p + 1)) 40 i 0 = nI l2 := by
    rw [v40, up_f (by decide), up_f (by decide), F.st (f := 10) (by decide), F.st (f := 31) (by decide)]
    exact hl2
  have oth : Oth S (entU (up S 11 (sB S0 r p) 0 (-1)) i r (p + 1) (sB S0 r (p + 1))) i := ⟨fun f k j hf hk => by rw [vo f k j (by omega) (by omega) (Or.inl hk), up_f (by omega)], fun f k j hf => by rw [vo f k j (by omega) (by omega) (Or.inr (by omega)), up_f (by omega)]⟩
  have O' : On S0 (entU (up S 11 (sB S0 r p) 0 (-1)) i r (p + 1) (sB S0 r (p + 1))) i r (p + 1) := ⟨O.1, hp, v36, v38, v39, l2, ls, h27, e40, hls1, by rw [vo 35 i 0 (by omega) (by omega) (Or.inr (by omega)), up_f (by omega)]; exact hls, hto⟩
  refine ⟨Inv.go C I (Fr_ent F2 hi hC.2) hi O O' (fun k hk hn => oth.te hn) hc (fun x _ => by rw [v11, up_11]) (fun x _ => by rw [v12, up_f (by decide)]), oth, Or.inr ⟨fun f j hf => by rw [vo f i j (by omega) (by omega) (Or.inr (by omega)), up_f (by omega)], atEnd_f40 (by rw [e40]; exact nI_ne0 (by omega) (by omega))⟩⟩
theorem rollW_ok (C : Stc S0 b n) (I : Inv b n S0 S) (hi : i < n) (O : On S0 S i r p) (hp : p + 1 < sC S0 r) (h0 : S 40 i 0 = 0) : Rld b n S0 S (waitF S i (inWayF S (nI (sB S0 r (p + 1))) (nI i))) i := by
  have hC := C.blk O.1 hp
  have hn5 := C.n5
  have hne : S 11 (sB S0 r (p + 1)) 0 ≠ nI i := fun e => by
    rcases I.2.2.2.1 _ hC.2 with h | ⟨k, r', p', hk, o, q⟩
    · exact m1_ne (by omega) (e.symm.trans h)
    · have h2 := I.2.2.1 k r' p' hk o
      rw [q, e] at h2
      have hki : i = k := nI_inj (by omega) (by omega) h2
      subst hki
      obtain ⟨rfl, rfl⟩ := O.uq o
      have := C.inj O.1 O.2.1 hp q
      omega
  exact ⟨I.wait C hi _, Oth_wait, Or.inl ⟨Wt_wait (inWay_ok C I hC.2 hne), atEnd_t (by rw [wait_ne (Or.inl (by omega))]; exact O.n38) (by rw [wait_ne (Or.inl (by omega))]; exact h0)⟩⟩
theorem rollT_ok (C : Stc S0 b n) (I : Inv b n S0 S) (hi : i < n) (O : On S0 S i r p) (h0 : S 40 i 0 = 0) : Rld b n S0 S (rollT S i) i := by
  have F := I.1
  have hcnt := C.cnt O.1
  unfold rollT
  rw [h0, O.2.2.2.1, O.2.2.2.2.1, F.st (f := 4) (by decide), C.f4, nI_clamp (by have := O.1; omega), F.st (f := 23) (by decide), hcnt.1, nI_1, if_neg (by decide), if_neg (nI_pos (by have := O.1; omega)), if_neg (not_not_intro (nI_lt O.1 (by omega)))]
  by_cases hp : p + 1 < sC S0 r
  · rw [if_neg (not_not_intro (nI_lt hp (by omega))), bAt C F O.1 hp]
    by_cases hc : clearF S (nI (sB S0 r (p + 1))) (nI i) = true
    · rw [if_pos hc]
      rw [clear_eq C F (C.blk O.1 hp).2] at hc
      have hc := of_decide_eq_true hc
      have e : leaveF S i 38 i 0 = nI r := by rw [leave_on C F O, up_f (by decide)]; exact O.2.2.2.1
      rw [e]
      exact rollG_ok C I hi O hp hc.2.1
    · rw [if_neg hc]
      exact rollW_ok C I hi O hp h0
  · rw [if_pos (nI_nlt (by omega) (by have := O.2.1; omega))]
    exact rollC_ok C I hi O hp h0
theorem Rld.from {S1 : St} (o1 : Oth S S1 i) (n1 : Nt S S1 i) (h : Rld b n S0 S1 S' i) : Rld b n S0 S S' i := by
  refine ⟨h.1, o1.trans h.2.1, h.2.2.imp (fun q => ⟨?_, q.2⟩) (fun q => ⟨fun f j hf => (q.1 f j hf).trans (n1 f j hf), q.2⟩)⟩
  obtain ⟨⟨o, ho, e⟩, -⟩ := q
  exact ⟨o, ho, fun f j hf => (e f j hf).trans (wait_cg n1 hf)⟩
theorem roll_ok (C : Stc S0 b n) (I : Inv b n S0 S) (hi : i < n) (O : On S0 S i r p) : Rld b n S0 S (rollF S i) i := by
  obtain ⟨l, ls, hl27, hl, hls1, hls, hto⟩ := O.2.2.2.2.2
  have F := I.1
  unfold rollF
  by_cases h0 : l = 0
  · subst h0
    rw [hl, if_pos (by decide)]
    exact rollT_ok C I hi O hl
  · have e1 : nI l - 1 = nI (l - 1) := by
      have := nI_pred (l - 1)
      rw [show l - 1 + 1 = l by omega] at this
      exact this
    rw [hl, if_neg (nI_nle (by omega) (by omega)), e1]
    have F1 : Fr b n S0 (up S 40 i 0 (nI (l - 1))) := Fr_up (by unfold FT; omega) F
    have te : ∀ k, k < n → TE S (up S 40 i 0 (nI (l - 1))) k := fun k _ => by
      by_cases hk : k = i
      · subst hk
        exact ⟨up_f (by decide), up_f (by decide), up_f (by decide), up_f (by decide), Or.inr ⟨O.n38, l - 1, by omega, up_s⟩⟩
      · exact ⟨up_f (by decide), up_f (by decide), up_f (by decide), up_f (by decide), Or.inl (up_k hk)⟩
    have I1 : Inv b n S0 (up S 40 i 0 (nI (l - 1))) := I.stay F1 te (fun x _ => up_f (by decide)) (fun x _ => up_f (by decide)) C
    have o1 : Oth S (up S 40 i 0 (nI (l - 1))) i := ⟨fun f k j _ hk => up_k hk, fun f k j hf => up_f (by omega)⟩
    have n1 : Nt S (up S 40 i 0 (nI (l - 1))) i := fun f j hf => up_f (by omega)
    by_cases h1 : l = 1
    · subst h1
      exact (rollT_ok C I1 hi (O.te (te i hi)) up_s).from o1 n1
    · have e : rollT (up S 40 i 0 (nI (l - 1))) i = up S 40 i 0 (nI (l - 1)) := by
        unfold rollT
        rw [up_s]
        exact if_pos (nI_lt (a := 0) (by omega) (by omega))
      rw [e]
      exact ⟨I1, o1, Or.inr ⟨n1, atEnd_f40 (by rw [up_s]; exact nI_ne0 (by omega) (by omega))⟩⟩
end ROLL
