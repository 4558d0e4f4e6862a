/-! A whole tick. -/
def bitQ (t : Int32) (k : Nat) : Bool := t.toBitVec.getLsbD k
theorem bit_sh {k : Nat} (hk : k < 8) (t : Int32) : ((t >>> (nI k &&& 31)) &&& 1 = 0) ↔ bitQ t k = false := by
  have hs : ((nI k &&& 31 : Int32).toBitVec.smod 32).toNat = k := (show ∀ k, k < 8 → ((nI k &&& 31 : Int32).toBitVec.smod 32).toNat = k by decide +kernel) k hk
  have e : ((t >>> (nI k &&& 31)) &&& 1).toBitVec = t.toBitVec.sshiftRight k &&& 1#32 := by
    rw [Int32.toBitVec_and]
    show t.toBitVec.sshiftRight ((nI k &&& 31 : Int32).toBitVec.smod 32).toNat &&& 1#32 = _
    rw [hs]
  have e2 : (t.toBitVec.sshiftRight k).getLsbD 0 = t.toBitVec.getLsbD k := by
    rw [BitVec.getLsbD_sshiftRight, if_pos (by omega)]
    rfl
  rw [← Int32.toBitVec_inj, e, BitVec.and_one_eq_setWidth_ofBool_getLsbD, e2]
  unfold bitQ
  generalize t.toBitVec.getLsbD k = z
  cases z <;> decide
theorem bit_or {i k : Nat} (hi : i < 8) (hk : k < 8) (t : Int32) : bitQ (t ||| ((1 : Int32) <<< (nI i &&& 31))) k = (bitQ t k || decide (k = i)) := by
  unfold bitQ
  have e : ((1 : Int32) <<< (nI i &&& 31)).toBitVec.getLsbD k = decide (k = i) := (show ∀ i, i < 8 → ∀ k, k < 8 → ((1 : Int32) <<< (nI i &&& 31)).toBitVec.getLsbD k = decide (k = i) by decide +kernel) i hi k hk
  rw [Int32.toBitVec_or, BitVec.getLsbD_or, e]
theorem bit_0 {k : Nat} (hk : k < 8) : bitQ 0 k = false := (show ∀ k, k < 8 → bitQ 0 k = false by decide +kernel) k hk
theorem due_eq {S : St} {t : Int32} {i : Nat} (hi : i < 8) : dueF S t i = (!bitQ t i && readyF S i) := by
  unfold dueF
  cases h : bitQ t i
  · rw [decide_eq_true ((bit_sh hi t).mpr h)]
    rfl
  · rw [decide_eq_false (fun q => by rw [(bit_sh hi t).mp q] at h; cases h)]
    rfl
theorem fst_spec (S : St) (t : Int32) : ∀ m : Nat, m ≤ 8 → (fstL S t m = -1 ∧ ∀ k, k < m → dueF S t k = false) ∨ ∃ i, i < m ∧ fstL S t m = nI i ∧ dueF S t i = true
  | 0, _ => Or.inl ⟨rfl, fun k hk => absurd hk (Nat.not_lt_zero _)⟩
  | m + 1, hm => by
    have ih := fst_spec S t m (by omega)
    unfold fstL
    by_cases hd : dueF S t m = true
    · rw [if_pos hd]
      refine Or.inr ?_
      rcases ih with ⟨h, -⟩ | ⟨i, hi, h, hd2⟩
      · rw [if_pos h]
        exact ⟨m, by omega, rfl, hd⟩
      · rw [if_neg (by rw [h]; exact m1_ne (by omega))]
        split
        · exact ⟨m, by omega, rfl, hd⟩
        · exact ⟨i, by omega, h, hd2⟩
    · rw [if_neg hd]
      rcases ih with ⟨h, h2⟩ | ⟨i, hi, h, hd2⟩
      · refine Or.inl ⟨h, fun k hk => ?_⟩
        by_cases e : k = m
        · rw [e]
          cases hq : dueF S t m
          · rfl
          · exact absurd hq hd
        · exact h2 k (by omega)
      · exact Or.inr ⟨i, by omega, h, hd2⟩
/-! Who waited. -/
def sumN (g : Nat → Nat) : Nat → Nat
  | 0 => 0
  | i + 1 => sumN g i + g i
theorem sum_cg {g h : Nat → Nat} : ∀ n : Nat, (∀ k, k < n → h k = g k) → sumN h n = sumN g n
  | 0, _ => rfl
  | n + 1, e => by
    show sumN h n + _ = sumN g n + _
    rw [sum_cg n (fun k hk => e k (by omega)), e n (by omega)]
theorem sum_up (g : Nat → Nat) (q : Nat) : ∀ n : Nat, q < n → sumN (fun o => if o = q then g q + 1 else g o) n = sumN g n + 1
  | 0, h => absurd h (Nat.not_lt_zero _)
  | n + 1, h => by
    show sumN (fun o => if o = q then g q + 1 else g o) n + (if n = q then g q + 1 else g n) = sumN g n + g n + 1
    by_cases e : n = q
    · subst e
      rw [if_pos rfl, sum_cg (g := g) n (fun k hk => if_neg (by omega))]
      omega
    · rw [if_neg e, sum_up g q n (by omega)]
      omega
def Wv (n w : Nat) (S : St) (k : Nat) : Prop := S 43 k 0 = nI w ∧ S 45 k k = 0 ∧ ∃ g : Nat → Nat, (∀ o, o < n → S 45 k o = nI (g o)) ∧ sumN g n ≤ w
def NwP (n w : Nat) (S : St) (k : Nat) : Prop := Wv n w S k ∧ S 44 k 0 = -1
def WaP (n w : Nat) (S : St) (k : Nat) : Prop := Wv n (w + 1) S k ∧ (S 44 k 0 = -1 ∨ ∃ q, q < n ∧ q ≠ k ∧ S 44 k 0 = nI q)
section WAIT
variable {S0 S S' : St} {b n i k w : Nat}
theorem Wv_cg (h : ∀ f j, 43 ≤ f → f ≠ 44 → S' f k j = S f k j) (q : Wv n w S k) : Wv n w S' k := by
  obtain ⟨a, c, g, d, e⟩ := q
  exact ⟨(h 43 0 (by omega) (by omega)).trans a, (h 45 k (by omega) (by omega)).trans c, g, fun o ho => (h 45 o (by omega) (by omega)).trans (d o ho), e⟩
theorem NwP_cg (h : ∀ f j, 43 ≤ f → S' f k j = S f k j) (q : NwP n w S k) : NwP n w S' k := ⟨Wv_cg (fun f j hf _ => h f j hf) q.1, (h 44 0 (by omega)).trans q.2⟩
theorem WaP_cg (h : ∀ f j, 43 ≤ f → S' f k j = S f k j) (q : WaP n w S k) : WaP n w S' k := by
  refine ⟨Wv_cg (fun f j hf _ => h f j hf) q.1, ?_⟩
  rw [h 44 0 (by omega)]
  exact q.2
theorem Wt_Wa (hn : n ≤ 5) (q : NwP n w S i) (h : Wt n S S' i) : WaP n w S' i := by
  obtain ⟨o, ho, e⟩ := h
  obtain ⟨⟨a, c, g, d, hs⟩, -⟩ := q
  have key : WaP n w (waitF S i o) i := by
    rcases ho with rfl | ⟨q, hq, hqi, rfl⟩
    · have ev : waitF S i (-1) = up (up S 43 i 0 (S 43 i 0 + 1)) 44 i 0 (-1) := if_pos (by decide)
      rw [ev]
      refine ⟨⟨?_, ?_, g, fun o ho => ?_, by omega⟩, Or.inl up_s⟩
      · rw [up_f (by decide), up_s, a, nI_1]
      · rw [up_f (by decide), up_f (by decide)]; exact c
      · rw [up_f (by decide), up_f (by decide)]; exact d o ho
    · have ev : waitF S i (nI q) = up (up (up S 43 i 0 (S 43 i 0 + 1)) 44 i 0 (nI q)) 45 i q (S 45 i q + 1) := by
        unfold waitF
        rw [if_neg (nI_pos (by omega)), if_neg (show ¬ (8 : Int32) ≤ nI q from le_no (a := 8) (by omega) (by omega)), nI_clamp (by omega)]
      rw [ev]
      refine ⟨⟨?_, ?_, fun o => if o = q then g q + 1 else g o, fun o ho => ?_, by rw [sum_up g q n hq]; omega⟩, Or.inr ⟨q, hq, hqi, ?_⟩⟩
      · rw [up_f (by decide), up_f (by decide), up_s, a, nI_1]
      · rw [up_j (Ne.symm hqi), up_f (by decide), up_f (by decide)]; exact c
      · by_cases ho2 : o = q
        · subst ho2
          show _ = nI (if o = o then g o + 1 else g o)
          rw [up_s, if_pos rfl, d o ho, nI_1]
        · show _ = nI (if o = q then g q + 1 else g o)
          rw [up_j ho2, up_f (by decide), up_f (by decide), if_neg ho2]; exact d o ho
      · rw [up_f (by decide), up_s]
  exact WaP_cg e key
theorem Nt_Nw (q : NwP n w S i) (h : Nt S S' i) : NwP n w S' i := NwP_cg h q
theorem atEnd_cg (h : ∀ f j, 30 ≤ f → S' f k j = S f k j) : atEndF S' k = atEndF S k := by
  unfold atEndF
  rw [h 38 0 (by omega), h 40 0 (by omega)]
theorem done_cg (h : ∀ f j, 30 ≤ f → S' f k j = S f k j) : doneF S' k = doneF S k := by
  unfold doneF
  rw [h 36 0 (by omega), h 38 0 (by omega)]
/-- behind a tick: who waited is ready, or stands at a block's end; and no one else -/
def WQ (n w : Nat) (S : St) (k : Nat) : Prop := (WaP n w S k ∧ (readyF S k = true ∨ atEndF S k = true)) ∨ (NwP n w S k ∧ readyF S k = false ∧ atEndF S k = false)
def GP (n w : Nat) (t : Int32) (S : St) (k : Nat) : Prop := (NwP n w S k ∧ atEndF S k = false ∧ (readyF S k = true → bitQ t k = false)) ∨ (WaP n w S k ∧ atEndF S k = true) ∨ (WaP n w S k ∧ readyF S k = true ∧ bitQ t k = true)
theorem give_ok (C : Stc S0 b n) (w : Nat → Nat) : ∀ (m : Nat) (S : St) (t : Int32), Inv b n S0 S → (∀ k, k < n → GP n (w k) t S k) → cntTo (dueF S t) n ≤ m →
    Inv b n S0 (giveL m S t) ∧ (∀ k, k < n → WQ n (w k) (giveL m S t) k) ∧ (∀ k, k < n → doneF S k = true → doneF (giveL m S t) k = true) ∧ (∀ f k j, f < 10 → giveL m S t f k j = S f k j) := by
  have hn5 := C.n5
  have base : ∀ (S : St) (t : Int32), Inv b n S0 S → (∀ k, k < n → GP n (w k) t S k) → (∀ k, k < n → dueF S t k = false) → Inv b n S0 S ∧ (∀ k, k < n → WQ n (w k) S k) ∧ (∀ k, k < n → doneF S k = true → doneF S k = true) ∧ (∀ f k j, f < 10 → S f k j = S f k j) := by
    intro S t I P hd
    refine ⟨I, fun k hk => ?_, fun _ _ h => h, fun _ _ _ _ => rfl⟩
    rcases P k hk with ⟨a, c, d⟩ | ⟨a, c⟩ | ⟨a, c, -⟩
    · refine Or.inr ⟨a, ?_, c⟩
      cases hr : readyF S k
      · rfl
      · have h := hd k hk
        rw [due_eq (by omega), d hr, hr] at h
        cases h
    · exact Or.inl ⟨a, Or.inr c⟩
    · exact Or.inl ⟨a, Or.inl c⟩
  intro m
  induction m with
  | zero =>
    intro S t I P h
    exact base S t I P (cnt_0 _ n (by omega))
  | succ m ih =>
    intro S t I P h
    unfold giveL
    rw [nT_F C I.1]
    rcases fst_spec S t n (by omega) with ⟨e, hd⟩ | ⟨i, hi, e, hd⟩
    · rw [if_pos e]
      exact base S t I P hd
    · rw [e, if_neg (m1_ne (by omega)), nI_clamp (by omega)]
      have hdi := hd
      rw [due_eq (by omega), Bool.and_eq_true] at hd
      obtain ⟨hb, hr⟩ := hd
      have hb : bitQ t i = false := by
        cases hq : bitQ t i
        · rfl
        · rw [hq] at hb; cases hb
      obtain ⟨I', oth, out⟩ := turn_ok C I hi hr
      generalize turnF S i = S' at I' oth out
      have h36 := (ready_at hr).1
      have A : AtS S0 S i := by
        rcases I.2.1 i hi with q | ⟨r, p, q⟩ | q
        · exact q
        · exact absurd q.2.2.1 h36
        · exact absurd q.e36 h36
      have hN : NwP n (w i) S i := by
        rcases P i hi with ⟨a, -⟩ | ⟨-, c⟩ | ⟨-, -, d⟩
        · exact a
        · rw [atEnd_f38 A.e38] at c; cases c
        · rw [hb] at d; cases d
      have rk : ∀ k, k ≠ i → readyF S' k = readyF S k := fun k hk => ready_cg (fun f j hf _ => oth.1 f k j hf hk) oth.2
      have bk : ∀ k, k < n → k ≠ i → bitQ (t ||| ((1 : Int32) <<< (nI i &&& 31))) k = bitQ t k := fun k hk hne => by
        rw [bit_or (by omega) (by omega), decide_eq_false hne, Bool.or_false]
      have bi : bitQ (t ||| ((1 : Int32) <<< (nI i &&& 31))) i = true := by
        rw [bit_or (by omega) (by omega), decide_eq_true rfl, Bool.or_true]
      have P' : ∀ k, k < n → GP n (w k) (t ||| ((1 : Int32) <<< (nI i &&& 31))) S' k := by
        intro k hk
        by_cases hki : k = i
        · subst hki
          rcases out with ⟨o1, o2⟩ | ⟨o1, o2, o3⟩
          · exact Or.inr (Or.inr ⟨Wt_Wa hn5 hN o1, o2.trans hr, bi⟩)
          · exact Or.inl ⟨Nt_Nw hN o1, o3, fun q => by rw [o2] at q; cases q⟩
        · have hf : ∀ f j, 30 ≤ f → S' f k j = S f k j := fun f j hf => oth.1 f k j hf hki
          rcases P k hk with ⟨a, c, d⟩ | ⟨a, c⟩ | ⟨a, c, d⟩
          · exact Or.inl ⟨NwP_cg (fun f j h => hf f j (by omega)) a, (atEnd_cg hf).trans c, fun q => by rw [bk k hk hki]; exact d ((rk k hki).symm.trans q)⟩
          · exact Or.inr (Or.inl ⟨WaP_cg (fun f j h => hf f j (by omega)) a, (atEnd_cg hf).trans c⟩)
          · exact Or.inr (Or.inr ⟨WaP_cg (fun f j h => hf f j (by omega)) a, (rk k hki).trans c, by rw [bk k hk hki]; exact d⟩)
      have hc := cnt_ch (f := dueF S t) (g := dueF S' (t ||| ((1 : Int32) <<< (nI i &&& 31)))) n hi (fun k hk hne => by
        rw [due_eq (by omega), due_eq (by omega), rk k hne, bk k hk hne])
      have hdi' : dueF S' (t ||| ((1 : Int32) <<< (nI i &&& 31))) i = false := by
        rw [due_eq (by omega), bi]
        rfl
      rw [hdi, hdi'] at hc
      simp only [if_true, Bool.false_eq_true, if_false] at hc
      obtain ⟨r1, r2, r3, r4⟩ := ih S' _ I' P' (by omega)
      refine ⟨r1, r2, fun k hk hd => r3 k hk ?_, fun f k j hf => (r4 f k j hf).trans (oth.2 f k j hf)⟩
      by_cases hki : k = i
      · subst hki
        exact absurd (of_decide_eq_true hd).1 h36
      · rw [done_cg (fun f j hf => oth.1 f k j hf hki)]
        exact hd
theorem rolls_ok (C : Stc S0 b n) (w : Nat → Nat) (S : St) (I : Inv b n S0 S) (P : ∀ k, k < n → NwP n (w k) S k) : ∀ m : Nat, m ≤ n →
    Inv b n S0 (rollsI S m) ∧ (∀ k, k < n → (k < m → (WaP n (w k) (rollsI S m) k ∧ atEndF (rollsI S m) k = true) ∨ (NwP n (w k) (rollsI S m) k ∧ atEndF (rollsI S m) k = false)) ∧ (m ≤ k → NwP n (w k) (rollsI S m) k)) ∧ (∀ k, k < n → doneF S k = true → doneF (rollsI S m) k = true) ∧ (∀ f k j, f < 10 → rollsI S m f k j = S f k j)
  | 0, _ => ⟨I, fun k hk => ⟨fun h => absurd h (Nat.not_lt_zero _), fun _ => P k hk⟩, fun _ _ h => h, fun _ _ _ _ => rfl⟩
  | m + 1, hm => by
    have hn5 := C.n5
    obtain ⟨h1, h2, h3, h4⟩ := rolls_ok C w S I P m (by omega)
    show Inv b n S0 (if onBlockF (rollsI S m) m = true then rollF (rollsI S m) m else rollsI S m) ∧ (∀ k, k < n → (k < m + 1 → (WaP n (w k) (if onBlockF (rollsI S m) m = true then rollF (rollsI S m) m else rollsI S m) k ∧ atEndF (if onBlockF (rollsI S m) m = true then rollF (rollsI S m) m else rollsI S m) k = true) ∨ (NwP n (w k) (if onBlockF (rollsI S m) m = true then rollF (rollsI S m) m else rollsI S m) k ∧ atEndF (if onBlockF (rollsI S m) m = true then rollF (rollsI S m) m else rollsI S m) k = false)) ∧ (m + 1 ≤ k → NwP n (w k) (if onBlockF (rollsI S m) m = true then rollF (rollsI S m) m else rollsI S m) k)) ∧ (∀ k, k < n → doneF S k = true → doneF (if onBlockF (rollsI S m) m = true then rollF (rollsI S m) m else rollsI S m) k = true) ∧ (∀ f k j, f < 10 → (if onBlockF (rollsI S m) m = true then rollF (rollsI S m) m else rollsI S m) f k j = S f k j)
    generalize rollsI S m = R at h1 h2 h3 h4 ⊢
    have hN : NwP n (w m) R m := (h2 m (by omega)).2 (Nat.le_refl _)
    by_cases hb : onBlockF R m = true
    · rw [if_pos hb]
      obtain ⟨r, p, O⟩ : ∃ r p, On S0 R m r p := by
        have h38 := of_decide_eq_true hb
        rcases h1.2.1 m (by omega) with q | q | q
        · exact absurd q.e38 h38
        · exact q
        · exact absurd q.e38 h38
      obtain ⟨I', oth, out⟩ := roll_ok C h1 (by omega) O
      generalize rollF R m = R' at I' oth out
      refine ⟨I', fun k hk => ?_, fun k hk hd => ?_, fun f k j hf => (oth.2 f k j hf).trans (h4 f k j hf)⟩
      · by_cases hkm : k = m
        · subst hkm
          exact ⟨fun _ => out.imp (fun q => ⟨Wt_Wa hn5 hN q.1, q.2⟩) (fun q => ⟨Nt_Nw hN q.1, q.2⟩), fun h => absurd h (by omega)⟩
        · have hf : ∀ f j, 30 ≤ f → R' f k j = R f k j := fun f j hf => oth.1 f k j hf hkm
          refine ⟨fun h => ((h2 k hk).1 (by omega)).imp (fun q => ⟨WaP_cg (fun f j h => hf f j (by omega)) q.1, (atEnd_cg hf).trans q.2⟩) (fun q => ⟨NwP_cg (fun f j h => hf f j (by omega)) q.1, (atEnd_cg hf).trans q.2⟩), fun h => NwP_cg (fun f j h => hf f j (by omega)) ((h2 k hk).2 (by omega))⟩
      · have hd := h3 k hk hd
        by_cases hkm : k = m
        · subst hkm
          exact absurd (of_decide_eq_true hd).2 O.n38
        · rw [done_cg (fun f j hf => oth.1 f k j hf hkm)]
          exact hd
    · rw [if_neg hb]
      refine ⟨h1, fun k hk => ⟨fun h => ?_, fun h => (h2 k hk).2 (by omega)⟩, h3, h4⟩
      by_cases hkm : k = m
      · subst hkm
        have h38 : R 38 k 0 = -1 := by
          by_cases q : R 38 k 0 = -1
          · exact q
          · exact absurd (decide_eq_true q) hb
        exact Or.inr ⟨hN, atEnd_f38 h38⟩
      · exact (h2 k hk).1 (by omega)
theorem forget_v (S : St) : ∀ m : Nat, (∀ f k j, f ≠ 44 → forgetI S m f k j = S f k j) ∧ (∀ k, k < m → forgetI S m 44 k 0 = -1) ∧ (∀ k j, m ≤ k ∨ j ≠ 0 → forgetI S m 44 k j = S 44 k j)
  | 0 => ⟨fun _ _ _ _ => rfl, fun _ h => absurd h (Nat.not_lt_zero _), fun _ _ _ => rfl⟩
  | m + 1 => by
    obtain ⟨h1, h2, h3⟩ := forget_v S m
    show (∀ f k j, f ≠ 44 → up (forgetI S m) 44 m 0 (-1) f k j = S f k j) ∧ (∀ k, k < m + 1 → up (forgetI S m) 44 m 0 (-1) 44 k 0 = -1) ∧ (∀ k j, m + 1 ≤ k ∨ j ≠ 0 → up (forgetI S m) 44 m 0 (-1) 44 k j = S 44 k j)
    refine ⟨fun f k j h => (up_f h).trans (h1 f k j h), fun k hk => ?_, fun k j h => ?_⟩
    · by_cases e : k = m
      · rw [e, up_s]
      · rw [up_k e]; exact h2 k (by omega)
    · rcases h with h | h
      · rw [up_k (by omega)]; exact h3 k j (Or.inl (by omega))
      · rw [up_j h]; exact h3 k j (Or.inr h)
theorem tick_ok (C : Stc S0 b n) (w : Nat → Nat) (S : St) (I : Inv b n S0 S) (P : ∀ k, k < n → Wv n (w k) S k) :
    Inv b n S0 (tickF S) ∧ (∀ k, k < n → WQ n (w k) (tickF S) k) ∧ (∀ k, k < n → doneF S k = true → doneF (tickF S) k = true) := by
  have hn5 := C.n5
  have F := I.1
  unfold tickF
  have F1 : Fr b n S0 (up S 9 0 0 (S 9 0 0 + 1)) := Fr_up (by unfold FT; omega) F
  have I1 : Inv b n S0 (up S 9 0 0 (S 9 0 0 + 1)) := I.stay F1 (fun k _ => TE_of fun f j hf => up_f (by omega)) (fun x _ => up_f (by decide)) (fun x _ => up_f (by decide)) C
  have W1 : ∀ k, k < n → Wv n (w k) (up S 9 0 0 (S 9 0 0 + 1)) k := fun k hk => Wv_cg (fun f j hf _ => up_f (by omega)) (P k hk)
  have d1 : ∀ k, doneF (up S 9 0 0 (S 9 0 0 + 1)) k = doneF S k := fun k => done_cg (fun f j hf => up_f (by omega))
  generalize up S 9 0 0 (S 9 0 0 + 1) = A at F1 I1 W1 d1
  obtain ⟨g1, g2, g3⟩ := forget_v A n
  have e2 : forgetF A = forgetI A n := by
    unfold forgetF forgetI
    rw [nT_F C F1]
  have F2 : Fr b n S0 (forgetI A n) := fun f k j hn => by
    by_cases hf : f = 44
    · subst hf
      rw [g3 k j (by unfold FT at hn; omega)]
      exact F1 _ _ _ hn
    · rw [g1 f k j hf]
      exact F1 _ _ _ hn
  have I2 : Inv b n S0 (forgetI A n) := I1.stay F2 (fun k _ => ⟨g1 _ _ _ (by decide), g1 _ _ _ (by decide), g1 _ _ _ (by decide), g1 _ _ _ (by decide), Or.inl (g1 _ _ _ (by decide))⟩) (fun x _ => g1 _ _ _ (by decide)) (fun x _ => g1 _ _ _ (by decide)) C
  have N2 : ∀ k, k < n → NwP n (w k) (forgetI A n) k := fun k hk => ⟨Wv_cg (fun f j _ h => g1 f k j h) (W1 k hk), g2 k hk⟩
  have d2 : ∀ k, doneF (forgetI A n) k = doneF A k := fun k => by
    unfold doneF
    rw [g1 _ _ _ (by decide), g1 _ _ _ (by decide)]
  rw [e2]
  generalize forgetI A n = B at F2 I2 N2 d2
  have e3 : rollsF B = rollsI B n := by
    unfold rollsF rollsI
    rw [nT_F C F2]
  obtain ⟨r1, r2, r3, r4⟩ := rolls_ok C w B I2 N2 n (Nat.le_refl _)
  rw [e3]
  generalize rollsI B n = D at r1 r2 r3 r4
  have GPs : ∀ k, k < n → GP n (w k) 0 D k := fun k hk => by
    rcases (r2 k hk).1 hk with ⟨a, c⟩ | ⟨a, c⟩
    · exact Or.inr (Or.inl ⟨a, c⟩)
    · exact Or.inl ⟨a, c, fun _ => bit_0 (by omega)⟩
  unfold giveF
  rw [nT_F C r1.1]
  obtain ⟨s1, s2, s3, s4⟩ := give_ok C w n D 0 r1 GPs (cnt_le _ n)
  exact ⟨s1, s2, fun k hk hd => s3 k hk (r3 k hk (by rw [d2, d1]; exact hd))⟩
end WAIT
