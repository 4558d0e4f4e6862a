/-! A tick as a whole: what holds before it holds behind it. S0: a state as it was built; only the places FT are written since. -/
def FT (b n f k j : Nat) : Prop := (f = 9 ∧ k = 0 ∧ j = 0) ∨ ((f = 11 ∨ f = 12) ∧ k < b ∧ j = 0) ∨ ((35 ≤ f ∧ f ≤ 44 ∧ f ≠ 41) ∧ k < n ∧ j = 0) ∨ (f = 45 ∧ k < n ∧ j < 8)
def Fr (b n : Nat) (S0 S : St) : Prop := ∀ f k j, ¬ FT b n f k j → S f k j = S0 f k j
theorem Fr_up {b n f k j : Nat} {S0 S : St} {x : Int32} (hf : FT b n f k j) (h : Fr b n S0 S) : Fr b n S0 (up S f k j x) := by
  intro f' k' j' hn
  have hne : ¬ (f' = f ∧ k' = k ∧ j' = j) := fun e => hn (by rw [e.1, e.2.1, e.2.2]; exact hf)
  exact (if_neg hne).trans (h f' k' j' hn)
theorem Fr.st {b n : Nat} {S0 S : St} (F : Fr b n S0 S) {f : Nat} (h : f ≠ 9 ∧ f ≠ 11 ∧ f ≠ 12 ∧ ¬ (35 ≤ f ∧ f ≤ 44 ∧ f ≠ 41) ∧ f ≠ 45) (k j : Nat) : S f k j = S0 f k j := F f k j (by unfold FT; omega)
def sC (S : St) (r : Nat) : Nat := (S 23 r 0).toNatClampNeg
def sB (S : St) (r j : Nat) : Nat := (S 24 r j).toNatClampNeg
def sP (S : St) (k : Nat) : Nat := (S 32 k 0).toNatClampNeg
def Stc (S0 : St) (b n : Nat) : Prop :=
  (b ≤ 16 ∧ n ≤ 5 ∧ S0 2 0 0 = nI b ∧ S0 4 0 0 = nI 8 ∧ S0 6 0 0 = nI n) ∧
  (∀ r, r < 8 → S0 23 r 0 = nI (sC S0 r) ∧ 1 ≤ sC S0 r ∧ sC S0 r ≤ 5) ∧
  (∀ r, r < 8 → ∃ y, y < 6 ∧ S0 21 r 0 = nI y) ∧
  (∀ r, r < 8 → S0 22 r 0 = 0 ∨ S0 22 r 0 = 1) ∧
  (∀ r j, r < 8 → j < sC S0 r → S0 24 r j = nI (sB S0 r j) ∧ sB S0 r j < b) ∧
  (∀ r i j, r < 8 → i < sC S0 r → j < sC S0 r → sB S0 r i = sB S0 r j → i = j) ∧
  (∀ k, k < n → S0 32 k 0 = nI (sP S0 k) ∧ 1 ≤ sP S0 k ∧ sP S0 k ≤ 8) ∧
  (∀ k j, k < n → j < sP S0 k → ∃ y, y < 6 ∧ S0 33 k j = nI y) ∧
  (∀ k x, k < n → x < b → ∃ l, 1 ≤ l ∧ l ≤ 27 ∧ S0 10 x 0 * S0 31 k 0 = nI l) ∧
  (∀ x, x < 6 → S0 0 0 x = 2)
section STC
variable {S0 : St} {b n : Nat}
theorem Stc.b16 (C : Stc S0 b n) : b ≤ 16 := C.1.1
theorem Stc.n5 (C : Stc S0 b n) : n ≤ 5 := C.1.2.1
theorem Stc.f2 (C : Stc S0 b n) : S0 2 0 0 = nI b := C.1.2.2.1
theorem Stc.f4 (C : Stc S0 b n) : S0 4 0 0 = nI 8 := C.1.2.2.2.1
theorem Stc.f6 (C : Stc S0 b n) : S0 6 0 0 = nI n := C.1.2.2.2.2
theorem Stc.cnt (C : Stc S0 b n) {r : Nat} (hr : r < 8) : S0 23 r 0 = nI (sC S0 r) ∧ 1 ≤ sC S0 r ∧ sC S0 r ≤ 5 := C.2.1 r hr
theorem Stc.to (C : Stc S0 b n) {r : Nat} (hr : r < 8) : ∃ y, y < 6 ∧ S0 21 r 0 = nI y := C.2.2.1 r hr
theorem Stc.wh (C : Stc S0 b n) {r : Nat} (hr : r < 8) : S0 22 r 0 = 0 ∨ S0 22 r 0 = 1 := C.2.2.2.1 r hr
theorem Stc.blk (C : Stc S0 b n) {r j : Nat} (hr : r < 8) (hj : j < sC S0 r) : S0 24 r j = nI (sB S0 r j) ∧ sB S0 r j < b := C.2.2.2.2.1 r j hr hj
theorem Stc.inj (C : Stc S0 b n) {r i j : Nat} (hr : r < 8) (hi : i < sC S0 r) (hj : j < sC S0 r) (h : sB S0 r i = sB S0 r j) : i = j := C.2.2.2.2.2.1 r i j hr hi hj h
theorem Stc.stp (C : Stc S0 b n) {k : Nat} (hk : k < n) : S0 32 k 0 = nI (sP S0 k) ∧ 1 ≤ sP S0 k ∧ sP S0 k ≤ 8 := C.2.2.2.2.2.2.1 k hk
theorem Stc.sta (C : Stc S0 b n) {k j : Nat} (hk : k < n) (hj : j < sP S0 k) : ∃ y, y < 6 ∧ S0 33 k j = nI y := C.2.2.2.2.2.2.2.1 k j hk hj
theorem Stc.len (C : Stc S0 b n) {k x : Nat} (hk : k < n) (hx : x < b) : ∃ l, 1 ≤ l ∧ l ≤ 27 ∧ S0 10 x 0 * S0 31 k 0 = nI l := C.2.2.2.2.2.2.2.2.1 k x hk hx
theorem Stc.pl (C : Stc S0 b n) {x : Nat} (hx : x < 6) : S0 0 0 x = 2 := C.2.2.2.2.2.2.2.2.2 x hx
end STC
section STC2
variable {S0 S S' : St} {b n : Nat}
theorem nB_F (C : Stc S0 b n) (F : Fr b n S0 S) : nB S = b := by
  have := C.b16
  unfold nB
  rw [F.st (by decide), C.f2, nI_clamp (by omega)]
theorem nR_F (C : Stc S0 b n) (F : Fr b n S0 S) : nR S = 8 := by
  unfold nR
  rw [F.st (by decide), C.f4, nI_clamp (by omega)]
theorem nT_F (C : Stc S0 b n) (F : Fr b n S0 S) : nT S = n := by
  have := C.n5
  unfold nT
  rw [F.st (by decide), C.f6, nI_clamp (by omega)]
theorem Lim_F (C : Stc S0 b n) (F : Fr b n S0 S) : Lim S := by
  have h1 := C.b16
  have h2 := C.n5
  unfold Lim
  rw [nB_F C F, nR_F C F, nT_F C F]
  omega
theorem bAt (C : Stc S0 b n) (F : Fr b n S0 S) {r j : Nat} (hr : r < 8) (hj : j < sC S0 r) : blockAtF S r (nI j) = nI (sB S0 r j) := by
  have h5 := (C.cnt hr).2.2
  unfold blockAtF
  rw [if_neg (nI_pos (by omega)), if_neg (show ¬ (5 : Int32) ≤ nI j from fun h => absurd ((nI_leI (a := 5) (by omega) (by omega)).mp h) (by omega)), nI_clamp (by omega), F.st (by decide), (C.blk hr hj).1]
theorem m1_ne {k : Nat} (h : k < 2 ^ 31) : nI k ≠ -1 := nI_ne_m1 h
end STC2
/-! Where a train is. -/
def AtS (S0 S : St) (k : Nat) : Prop := ∃ x ls, x < 6 ∧ ls < sP S0 k ∧ S 36 k 0 = nI x ∧ S 38 k 0 = -1 ∧ S 40 k 0 = 0 ∧ S 35 k 0 = nI ls ∧ S0 33 k ls = nI x
def On (S0 S : St) (k r p : Nat) : Prop := r < 8 ∧ p < sC S0 r ∧ S 36 k 0 = -1 ∧ S 38 k 0 = nI r ∧ S 39 k 0 = nI p ∧ ∃ l ls, l ≤ 27 ∧ S 40 k 0 = nI l ∧ ls + 1 < sP S0 k ∧ S 35 k 0 = nI ls ∧ S0 33 k (ls + 1) = S0 21 r 0
def Dne (S0 S : St) (k : Nat) : Prop := ∃ ls, ls + 1 = sP S0 k ∧ S 36 k 0 = -1 ∧ S 38 k 0 = -1 ∧ S 40 k 0 = 0 ∧ S 35 k 0 = nI ls
def Tri (S0 S : St) (k : Nat) : Prop := AtS S0 S k ∨ (∃ r p, On S0 S k r p) ∨ Dne S0 S k
def TE (S S' : St) (k : Nat) : Prop := S' 36 k 0 = S 36 k 0 ∧ S' 38 k 0 = S 38 k 0 ∧ S' 39 k 0 = S 39 k 0 ∧ S' 35 k 0 = S 35 k 0 ∧ (S' 40 k 0 = S 40 k 0 ∨ (S 38 k 0 ≠ -1 ∧ ∃ l, l ≤ 27 ∧ S' 40 k 0 = nI l))
section WHERE
variable {S0 S S' : St} {b n k r p r' p' : Nat}
theorem TE_refl : TE S S k := ⟨rfl, rfl, rfl, rfl, Or.inl rfl⟩
theorem On.n38 (h : On S0 S k r p) : S 38 k 0 ≠ -1 := by
  rw [h.2.2.2.1]
  exact m1_ne (by have := h.1; omega)
theorem AtS.e38 (h : AtS S0 S k) : S 38 k 0 = -1 := by
  obtain ⟨_, _, _, _, _, h, _⟩ := h
  exact h
theorem AtS.n36 (h : AtS S0 S k) : S 36 k 0 ≠ -1 := by
  obtain ⟨x, _, hx, _, h, _⟩ := h
  rw [h]
  exact m1_ne (by omega)
theorem Dne.e38 (h : Dne S0 S k) : S 38 k 0 = -1 := by
  obtain ⟨_, _, _, h, _⟩ := h
  exact h
theorem Dne.e36 (h : Dne S0 S k) : S 36 k 0 = -1 := by
  obtain ⟨_, _, h, _⟩ := h
  exact h
theorem sC_31 (S : St) (r : Nat) : sC S r < 2 ^ 31 := clamp_lt31 _
theorem On.uq (h : On S0 S k r p) (h' : On S0 S k r' p') : r = r' ∧ p = p' := by
  obtain ⟨a1, a2, _, a4, a5, _⟩ := h
  obtain ⟨b1, b2, _, b4, b5, _⟩ := h'
  have := sC_31 S0 r
  have := sC_31 S0 r'
  exact ⟨nI_inj (by omega) (by omega) (a4.symm.trans b4), nI_inj (by omega) (by omega) (a5.symm.trans b5)⟩
theorem On.te (t : TE S S' k) (h : On S0 S k r p) : On S0 S' k r p := by
  obtain ⟨a1, a2, a3, a4, a5, l, ls, a6, a7, a8, a9, a10⟩ := h
  obtain ⟨t1, t2, t3, t4, t5⟩ := t
  rcases t5 with t5 | ⟨-, l', h1, h2⟩
  · exact ⟨a1, a2, t1.trans a3, t2.trans a4, t3.trans a5, l, ls, a6, t5.trans a7, a8, t4.trans a9, a10⟩
  · exact ⟨a1, a2, t1.trans a3, t2.trans a4, t3.trans a5, l', ls, h1, h2, a8, t4.trans a9, a10⟩
theorem AtS.te (t : TE S S' k) (h : AtS S0 S k) : AtS S0 S' k := by
  obtain ⟨x, ls, a1, a2, a3, a4, a5, a6, a7⟩ := h
  obtain ⟨t1, t2, t3, t4, t5⟩ := t
  rcases t5 with t5 | ⟨t5, -⟩
  · exact ⟨x, ls, a1, a2, t1.trans a3, t2.trans a4, t5.trans a5, t4.trans a6, a7⟩
  · exact absurd a4 t5
theorem Dne.te (t : TE S S' k) (h : Dne S0 S k) : Dne S0 S' k := by
  obtain ⟨ls, a2, a3, a4, a5, a6⟩ := h
  obtain ⟨t1, t2, t3, t4, t5⟩ := t
  rcases t5 with t5 | ⟨t5, -⟩
  · exact ⟨ls, a2, t1.trans a3, t2.trans a4, t5.trans a5, t4.trans a6⟩
  · exact absurd a4 t5
theorem Tri.te (t : TE S S' k) (h : Tri S0 S k) : Tri S0 S' k := by
  rcases h with h | ⟨r, p, h⟩ | h
  · exact Or.inl (h.te t)
  · exact Or.inr (Or.inl ⟨r, p, h.te t⟩)
  · exact Or.inr (Or.inr (h.te t))
theorem On.back (h0 : Tri S0 S k) (t : TE S S' k) (h : On S0 S' k r p) : On S0 S k r p := by
  have h38 : S 38 k 0 ≠ -1 := fun e => h.n38 (t.2.1.trans e)
  rcases h0 with h0 | ⟨r1, p1, h0⟩ | h0
  · exact absurd h0.e38 h38
  · obtain ⟨rfl, rfl⟩ := (h0.te t).uq h
    exact h0
  · exact absurd h0.e38 h38
end WHERE
/-! Counting. -/
theorem cnt_cg {f g : Nat → Bool} : ∀ n : Nat, (∀ k, k < n → g k = f k) → cntTo g n = cntTo f n
  | 0, _ => rfl
  | n + 1, h => by
    show cntTo g n + _ = cntTo f n + _
    rw [cnt_cg n (fun k hk => h k (by omega)), h n (by omega)]
theorem cnt_ch {f g : Nat → Bool} {i : Nat} : ∀ n : Nat, i < n → (∀ k, k < n → k ≠ i → g k = f k) → cntTo g n + (if f i = true then 1 else 0) = cntTo f n + (if g i = true then 1 else 0)
  | 0, hi, _ => absurd hi (Nat.not_lt_zero _)
  | n + 1, hi, h => by
    show cntTo g n + (if g n = true then 1 else 0) + _ = cntTo f n + (if f n = true then 1 else 0) + _
    by_cases hn : i = n
    · subst hn
      rw [cnt_cg i (fun k hk => h k (by omega) (by omega))]
      omega
    · have ih := cnt_ch (f := f) (g := g) (i := i) n (by omega) (fun k hk => h k (by omega))
      rw [h n (by omega) (fun e => hn e.symm)]
      omega
theorem cnt_le (f : Nat → Bool) : ∀ n : Nat, cntTo f n ≤ n
  | 0 => Nat.le_refl _
  | n + 1 => by
    have := cnt_le f n
    show cntTo f n + _ ≤ _
    split <;> omega
theorem cnt_0 (f : Nat → Bool) : ∀ n : Nat, cntTo f n = 0 → ∀ k, k < n → f k = false
  | 0, _, k, hk => absurd hk (Nat.not_lt_zero _)
  | n + 1, h, k, hk => by
    have h : cntTo f n + (if f n = true then 1 else 0) = 0 := h
    by_cases hn : k = n
    · subst hn
      cases hf : f k
      · rfl
      · rw [hf] at h; simp at h
    · exact cnt_0 f n (by omega) k (by omega)
theorem cnt_pos (f : Nat → Bool) : ∀ n k : Nat, k < n → f k = true → 0 < cntTo f n
  | 0, k, hk, _ => absurd hk (Nat.not_lt_zero _)
  | n + 1, k, hk, h => by
    show 0 < cntTo f n + (if f n = true then 1 else 0)
    by_cases hn : k = n
    · subst hn
      rw [if_pos h]
      omega
    · have := cnt_pos f n k (by omega) h
      omega
/-! What holds of a state between two ticks (and in a tick, between two moves). -/
def heldQ (S : St) (x : Nat) : Bool := decide (S 11 x 0 ≠ -1)
def Inv (b n : Nat) (S0 S : St) : Prop :=
  Fr b n S0 S ∧ (∀ k, k < n → Tri S0 S k) ∧ (∀ k r p, k < n → On S0 S k r p → S 11 (sB S0 r p) 0 = nI k) ∧
  (∀ x, x < b → S 11 x 0 = -1 ∨ ∃ k r p, k < n ∧ On S0 S k r p ∧ sB S0 r p = x) ∧
  (∀ x, x < b → S 12 x 0 = -1 ∨ (S 11 x 0 = -1 ∧ ∃ k r p j, k < n ∧ S 12 x 0 = nI k ∧ On S0 S k r p ∧ S0 22 r 0 = 1 ∧ p < j ∧ j < sC S0 r ∧ sB S0 r j = x)) ∧
  (∀ x, x < 6 → cntTo (atQ S (nI x)) n + cntTo (wayQ S (nI x)) n ≤ 2) ∧
  cntTo (heldQ S) b = cntTo (onBlockF S) n
section INV
variable {S0 S S' : St} {b n i k r p : Nat}
theorem wayQ_on (C : Stc S0 b n) (F : Fr b n S0 S) {x : Int32} (h : On S0 S k r p) : wayQ S x k = decide (S0 21 r 0 = x) := by
  obtain ⟨a1, a2, _, a4, _⟩ := h
  unfold wayQ
  rw [a4, F.st (f := 4) (by decide), C.f4, nI_clamp (by omega), F.st (f := 21) (by decide)]
  have h1 : ¬ nI r < 0 := nI_pos (by omega)
  have h2 : ¬ nI 8 ≤ nI r := fun h => absurd ((nI_leI (by omega) (by omega)).mp h) (by omega)
  simp [h1, h2]
theorem wayQ_off {x : Int32} (h : S 38 k 0 = -1) : wayQ S x k = false := by
  unfold wayQ
  rw [h]
  have h1 : (-1 : Int32) < 0 := by decide
  simp [h1]
theorem wayQ_cg (F : Fr b n S0 S) (F' : Fr b n S0 S') {x : Int32} (t : TE S S' k) : wayQ S' x k = wayQ S x k := by
  unfold wayQ
  rw [t.2.1, F'.st (f := 4) (by decide), F.st (f := 4) (by decide), F'.st (f := 21) (by decide), F.st (f := 21) (by decide)]
theorem atQ_cg {x : Int32} (t : TE S S' k) : atQ S' x k = atQ S x k := by unfold atQ; rw [t.1]
theorem onB_cg (t : TE S S' k) : onBlockF S' k = onBlockF S k := by unfold onBlockF; rw [t.2.1]
theorem atQ_m1 {x : Nat} (hx : x < 6) (h : S 36 k 0 = -1) : atQ S (nI x) k = false := by
  unfold atQ
  rw [h]
  exact decide_eq_false (fun e => m1_ne (by omega) e.symm)
/-- the room, when one train has moved -/
theorem room_ch (F : Fr b n S0 S) (F' : Fr b n S0 S') (hi : i < n) (ht : ∀ k, k < n → k ≠ i → TE S S' k) (x : Int32) :
    cntTo (atQ S' x) n + cntTo (wayQ S' x) n + (if atQ S x i = true then 1 else 0) + (if wayQ S x i = true then 1 else 0) = cntTo (atQ S x) n + cntTo (wayQ S x) n + (if atQ S' x i = true then 1 else 0) + (if wayQ S' x i = true then 1 else 0) := by
  have h1 := cnt_ch (f := atQ S x) (g := atQ S' x) n hi (fun k hk hn => atQ_cg (ht k hk hn))
  have h2 := cnt_ch (f := wayQ S x) (g := wayQ S' x) n hi (fun k hk hn => wayQ_cg F F' (ht k hk hn))
  omega
theorem on_ch (hi : i < n) (ht : ∀ k, k < n → k ≠ i → TE S S' k) : cntTo (onBlockF S') n + (if onBlockF S i = true then 1 else 0) = cntTo (onBlockF S) n + (if onBlockF S' i = true then 1 else 0) := cnt_ch n hi (fun k hk hn => onB_cg (ht k hk hn))
theorem onB_t (h : On S0 S k r p) : onBlockF S k = true := decide_eq_true h.n38
theorem onB_f (h : S 38 k 0 = -1) : onBlockF S k = false := decide_eq_false (fun e => e h)
/-- nothing moves -/
theorem Inv.stay (I : Inv b n S0 S) (F' : Fr b n S0 S') (ht : ∀ k, k < n → TE S S' k) (h11 : ∀ x, x < b → S' 11 x 0 = S 11 x 0) (h12 : ∀ x, x < b → S' 12 x 0 = S 12 x 0) (C : Stc S0 b n) : Inv b n S0 S' := by
  obtain ⟨F, i1, i2, i3, i4, i5, i6⟩ := I
  refine ⟨F', fun k hk => (i1 k hk).te (ht k hk), fun k r p hk o => ?_, fun x hx => ?_, fun x hx => ?_, fun x hx => ?_, ?_⟩
  · have o' := o.back (i1 k hk) (ht k hk)
    rw [h11 _ (C.blk o.1 o.2.1).2]
    exact i2 k r p hk o'
  · rw [h11 x hx]
    rcases i3 x hx with h | ⟨k, r, p, hk, o, e⟩
    · exact Or.inl h
    · exact Or.inr ⟨k, r, p, hk, o.te (ht k hk), e⟩
  · rw [h11 x hx, h12 x hx]
    rcases i4 x hx with h | ⟨h, k, r, p, j, hk, e, o, q⟩
    · exact Or.inl h
    · exact Or.inr ⟨h, k, r, p, j, hk, e, o.te (ht k hk), q⟩
  · rw [cnt_cg n (f := atQ S (nI x)) (fun k hk => atQ_cg (ht k hk)), cnt_cg n (f := wayQ S (nI x)) (fun k hk => wayQ_cg F F' (ht k hk))]
    exact i5 x hx
  · rw [cnt_cg b (f := heldQ S) (fun x hx => by unfold heldQ; rw [h11 x hx]), cnt_cg n (f := onBlockF S) (fun k hk => onB_cg (ht k hk))]
    exact i6
/-- a train comes to a station -/
theorem Inv.come (C : Stc S0 b n) (I : Inv b n S0 S) (F' : Fr b n S0 S') (hi : i < n) (O : On S0 S i r p) (hp : ¬ p + 1 < sC S0 r) (ht : ∀ k, k < n → k ≠ i → TE S S' k) (h11 : ∀ x, x < b → S' 11 x 0 = if x = sB S0 r p then -1 else S 11 x 0) (h12 : ∀ x, x < b → S' 12 x 0 = S 12 x 0) (hT : (AtS S0 S' i ∧ S' 36 i 0 = S0 21 r 0) ∨ Dne S0 S' i) : Inv b n S0 S' := by
  obtain ⟨F, i1, i2, i3, i4, i5, i6⟩ := I
  have h38 : S' 38 i 0 = -1 := hT.elim (fun h => h.1.e38) (fun h => h.e38)
  have hn5 := C.n5
  have hB := C.blk O.1 O.2.1
  have hH := i2 i r p hi O
  refine ⟨F', fun k hk => ?_, fun k r' p' hk o => ?_, fun x hx => ?_, fun x hx => ?_, fun x hx => ?_, ?_⟩
  · by_cases e : k = i
    · subst e
      exact hT.elim (fun h => Or.inl h.1) (fun h => Or.inr (Or.inr h))
    · exact (i1 k hk).te (ht k hk e)
  · by_cases e : k = i
    · subst e
      exact absurd h38 o.n38
    · have o' := o.back (i1 k hk) (ht k hk e)
      have h := i2 k r' p' hk o'
      rw [h11 _ (C.blk o.1 o.2.1).2, if_neg, h]
      intro q
      rw [q, hH] at h
      exact e (nI_inj (by omega) (by omega) h.symm)
  · rw [h11 x hx]
    by_cases e : x = sB S0 r p
    · rw [if_pos e]; exact Or.inl rfl
    · rw [if_neg e]
      rcases i3 x hx with h | ⟨k, r', p', hk, o, q⟩
      · exact Or.inl h
      · by_cases e2 : k = i
        · subst e2
          obtain ⟨rfl, rfl⟩ := O.uq o
          exact absurd q.symm e
        · exact Or.inr ⟨k, r', p', hk, o.te (ht k hk e2), q⟩
  · rw [h11 x hx, h12 x hx]
    rcases i4 x hx with h | ⟨h, k, r', p', j, hk, q, o, w, q1, q2, q3⟩
    · exact Or.inl h
    · by_cases e2 : k = i
      · subst e2
        obtain ⟨rfl, rfl⟩ := O.uq o
        omega
      · refine Or.inr ⟨?_, k, r', p', j, hk, q, o.te (ht k hk e2), w, q1, q2, q3⟩
        split
        · rfl
        · exact h
  · have h := room_ch F F' hi ht (nI x)
    have h5 := i5 x hx
    rw [atQ_m1 (S := S) hx O.2.2.1, wayQ_on C F O, wayQ_off (S := S') h38] at h
    rcases hT with ⟨hA, hto⟩ | hD
    · have e : atQ S' (nI x) i = decide (S0 21 r 0 = nI x) := by unfold atQ; rw [hto]
      rw [e] at h
      simp only [Bool.false_eq_true, if_false] at h
      omega
    · rw [atQ_m1 hx hD.e36] at h
      simp only [Bool.false_eq_true, if_false] at h
      omega
  · have h1 := on_ch hi ht
    have h2 := cnt_ch (f := heldQ S) (g := heldQ S') b hB.2 (fun x hx hn => by unfold heldQ; rw [h11 x hx, if_neg hn])
    have e1 : heldQ S (sB S0 r p) = true := by unfold heldQ; rw [hH]; exact decide_eq_true (m1_ne (by omega))
    have e2 : heldQ S' (sB S0 r p) = false := by unfold heldQ; rw [h11 _ hB.2, if_pos rfl]; exact decide_eq_false (fun e => e rfl)
    rw [e1, e2] at h2
    rw [onB_t O, onB_f h38] at h1
    simp only [Bool.false_eq_true, if_false, if_true] at h1 h2
    omega
end INV
