/-! The world: one cell for the bay, 85 for each of its two Lines. A state of a Line: S f k j (f: the field's code, k: which object, j: the place in its array). -/
abbrev St : Type := Nat → Nat → Nat → Int32
def up (S : St) (f k j : Nat) (x : Int32) : St := fun f' k' j' => if f' = f ∧ k' = k ∧ j' = j then x else S f' k' j'
def upL (V : Nat → St) (w : Nat) (S : St) : Nat → St := fun w' => if w' = w then S else V w'
theorem upL_same (V : Nat → St) (w : Nat) (S : St) : upL V w S w = S := if_pos rfl
theorem upL_ne {V : Nat → St} {w w' : Nat} {S : St} (h : w' ≠ w) : upL V w S w' = V w' := if_neg h
theorem upL_upL (V : Nat → St) (w : Nat) (S S' : St) : upL (upL V w S) w S' = upL V w S' := by
  funext w'
  by_cases h : w' = w
  · simp [upL, h]
  · simp [upL, h]
theorem upL_self (V : Nat → St) (w : Nat) : upL V w (V w) = V := by
  funext w'
  by_cases h : w' = w
  · simp [upL, h]
  · simp [upL, h]
abbrev Gm : Type := (Nat → Nat) × va_G × (ClassId × ClassId × ClassId × ClassId)
def ad (Z : Gm) : Nat → Nat := Z.1
def gD (Z : Gm) : va_G := Z.2.1
def gT (Z : Gm) : List (ClassId × FieldType) := [(Z.2.2.1, .int), (Z.2.2.2.1, .object RX0), (Z.2.2.2.2.1, .object RX2), (Z.2.2.2.2.2, .object RX3)]
def cLn (w : Nat) : Nat := 1 + 85 * w
def cPl (w : Nat) : Nat := 2 + 85 * w
def cBs (w : Nat) : Nat := 3 + 85 * w
def cRs (w : Nat) : Nat := 4 + 85 * w
def cTs (w : Nat) : Nat := 5 + 85 * w
def cBk (w k : Nat) : Nat := 6 + 85 * w + k
def cRt (w k : Nat) : Nat := 22 + 85 * w + 2 * k
def cRb (w k : Nat) : Nat := 23 + 85 * w + 2 * k
def cTr (w k : Nat) : Nat := 54 + 85 * w + 4 * k
def cSt (w k : Nat) : Nat := 55 + 85 * w + 4 * k
def cTm (w k : Nat) : Nat := 56 + 85 * w + 4 * k
def cWf (w k : Nat) : Nat := 57 + 85 * w + 4 * k
def fLn (Z : Gm) (w : Nat) (S : St) : List Value := [.ref (ad Z (cPl w)), .ref (ad Z (cBs w)), .int (S 2 0 0), .ref (ad Z (cRs w)), .int (S 4 0 0), .ref (ad Z (cTs w)), .int (S 6 0 0), .int (S 7 0 0), .int (S 8 0 0), .int (S 9 0 0)]
def fBk (S : St) (k : Nat) : List Value := [.int (S 10 k 0), .int (S 11 k 0), .int (S 12 k 0), .int (S 13 k 0)]
def fRt (Z : Gm) (w : Nat) (S : St) (k : Nat) : List Value := [.int (S 20 k 0), .int (S 21 k 0), .int (S 22 k 0), .int (S 23 k 0), .ref (ad Z (cRb w k))]
def fTr (Z : Gm) (w : Nat) (S : St) (k : Nat) : List Value := [.int (S 30 k 0), .int (S 31 k 0), .int (S 32 k 0), .ref (ad Z (cSt w k)), .ref (ad Z (cTm w k)), .int (S 35 k 0), .int (S 36 k 0), .int (S 37 k 0), .int (S 38 k 0), .int (S 39 k 0), .int (S 40 k 0), .int (S 41 k 0), .int (S 42 k 0), .int (S 43 k 0), .int (S 44 k 0), .ref (ad Z (cWf w k))]
def lineCell (Z : Gm) (w : Nat) (S : St) (m : Nat) : va_E :=
  if m = 0 then .inr (1, fLn Z w S)
  else if m = 1 then .inl (Z.2.2.1, 6, .inl (fun j => S 0 0 j))
  else if m = 2 then .inl (Z.2.2.2.1, 16, .inr (.inr (.inr (.inr (fun j => some (ad Z (cBk w j)))))))
  else if m = 3 then .inl (Z.2.2.2.2.1, 16, .inr (.inr (.inr (.inr (fun j => some (ad Z (cRt w j)))))))
  else if m = 4 then .inl (Z.2.2.2.2.2, 8, .inr (.inr (.inr (.inr (fun j => some (ad Z (cTr w j)))))))
  else if m < 21 then .inr (0, fBk S (m - 5))
  else if m < 53 then (if (m - 21) % 2 = 0 then .inr (2, fRt Z w S ((m - 21) / 2)) else .inl (Z.2.2.1, 5, .inl (fun j => S 24 ((m - 21) / 2) j)))
  else if (m - 53) % 4 = 0 then .inr (3, fTr Z w S ((m - 53) / 4))
  else if (m - 53) % 4 = 1 then .inl (Z.2.2.1, 8, .inl (fun j => S 33 ((m - 53) / 4) j))
  else if (m - 53) % 4 = 2 then .inl (Z.2.2.1, 8, .inl (fun j => S 34 ((m - 53) / 4) j))
  else .inl (Z.2.2.1, 8, .inl (fun j => S 45 ((m - 53) / 4) j))
def cellOf (Z : Gm) (V : Nat → St) (n : Nat) : va_E := if n = 0 then .inr (4, [.ref (ad Z (cLn 0)), .ref (ad Z (cLn 1))]) else lineCell Z ((n - 1) / 85) (V ((n - 1) / 85)) ((n - 1) % 85)
def bw (Z : Gm) (V : Nat → St) : va_W := (List.range 171).map (fun n => (ad Z n, cellOf Z V n))
theorem bw_at {Z : Gm} {V : Nat → St} {n : Nat} (h : n < 171) : (bw Z V)[n]? = some (ad Z n, cellOf Z V n) := by simp [bw, h]
theorem cell_at {Z : Gm} {V : Nat → St} {w m n : Nat} {S : St} (hn : n = 1 + 85 * w + m) (hm : m < 85) (hV : V w = S) : cellOf Z V n = lineCell Z w S m := by
  have h1 : (n - 1) / 85 = w := by omega
  have h2 : (n - 1) % 85 = m := by omega
  unfold cellOf
  rw [if_neg (by omega), h1, h2, hV]
section AT
variable {Z : Gm} {V : Nat → St} {w k : Nat} {S : St}
theorem at_bay : (bw Z V)[0]? = some (ad Z 0, .inr (4, [.ref (ad Z (cLn 0)), .ref (ad Z (cLn 1))])) := bw_at (by decide)
theorem at_ln (hV : V w = S) (hw : w < 2) : (bw Z V)[cLn w]? = some (ad Z (cLn w), .inr (1, fLn Z w S)) := by
  rw [bw_at (by unfold cLn; omega), cell_at (w := w) (m := 0) (by unfold cLn; omega) (by omega) hV]
  simp [lineCell]
theorem at_pl (hV : V w = S) (hw : w < 2) : (bw Z V)[cPl w]? = some (ad Z (cPl w), .inl (Z.2.2.1, 6, .inl (fun j => S 0 0 j))) := by
  rw [bw_at (by unfold cPl; omega), cell_at (w := w) (m := 1) (by unfold cPl; omega) (by omega) hV]
  simp [lineCell]
theorem at_bs (hw : w < 2) : (bw Z V)[cBs w]? = some (ad Z (cBs w), .inl (Z.2.2.2.1, 16, .inr (.inr (.inr (.inr (fun j => some (ad Z (cBk w j)))))))) := by
  rw [bw_at (by unfold cBs; omega), cell_at (w := w) (m := 2) (by unfold cBs; omega) (by omega) rfl]
  simp [lineCell]
theorem at_rs (hw : w < 2) : (bw Z V)[cRs w]? = some (ad Z (cRs w), .inl (Z.2.2.2.2.1, 16, .inr (.inr (.inr (.inr (fun j => some (ad Z (cRt w j)))))))) := by
  rw [bw_at (by unfold cRs; omega), cell_at (w := w) (m := 3) (by unfold cRs; omega) (by omega) rfl]
  simp [lineCell]
theorem at_ts (hw : w < 2) : (bw Z V)[cTs w]? = some (ad Z (cTs w), .inl (Z.2.2.2.2.2, 8, .inr (.inr (.inr (.inr (fun j => some (ad Z (cTr w j)))))))) := by
  rw [bw_at (by unfold cTs; omega), cell_at (w := w) (m := 4) (by unfold cTs; omega) (by omega) rfl]
  simp [lineCell]
theorem at_bk (hV : V w = S) (hw : w < 2) (hk : k < 16) : (bw Z V)[cBk w k]? = some (ad Z (cBk w k), .inr (0, fBk S k)) := by
  rw [bw_at (by unfold cBk; omega), cell_at (w := w) (m := 5 + k) (by unfold cBk; omega) (by omega) hV]
  unfold lineCell
  rw [if_neg (by omega), if_neg (by omega), if_neg (by omega), if_neg (by omega), if_neg (by omega), if_pos (by omega), show 5 + k - 5 = k by omega]
theorem at_rt (hV : V w = S) (hw : w < 2) (hk : k < 16) : (bw Z V)[cRt w k]? = some (ad Z (cRt w k), .inr (2, fRt Z w S k)) := by
  rw [bw_at (by unfold cRt; omega), cell_at (w := w) (m := 21 + 2 * k) (by unfold cRt; omega) (by omega) hV]
  unfold lineCell
  rw [if_neg (by omega), if_neg (by omega), if_neg (by omega), if_neg (by omega), if_neg (by omega), if_neg (by omega), if_pos (by omega), if_pos (by omega), show (21 + 2 * k - 21) / 2 = k by omega]
theorem at_rb (hV : V w = S) (hw : w < 2) (hk : k < 16) : (bw Z V)[cRb w k]? = some (ad Z (cRb w k), .inl (Z.2.2.1, 5, .inl (fun j => S 24 k j))) := by
  rw [bw_at (by unfold cRb; omega), cell_at (w := w) (m := 22 + 2 * k) (by unfold cRb; omega) (by omega) hV]
  unfold lineCell
  rw [if_neg (by omega), if_neg (by omega), if_neg (by omega), if_neg (by omega), if_neg (by omega), if_neg (by omega), if_pos (by omega), if_neg (by omega), show (22 + 2 * k - 21) / 2 = k by omega]
theorem at_tr (hV : V w = S) (hw : w < 2) (hk : k < 8) : (bw Z V)[cTr w k]? = some (ad Z (cTr w k), .inr (3, fTr Z w S k)) := by
  rw [bw_at (by unfold cTr; omega), cell_at (w := w) (m := 53 + 4 * k) (by unfold cTr; omega) (by omega) hV]
  unfold lineCell
  rw [if_neg (by omega), if_neg (by omega), if_neg (by omega), if_neg (by omega), if_neg (by omega), if_neg (by omega), if_neg (by omega), if_pos (by omega), show (53 + 4 * k - 53) / 4 = k by omega]
theorem at_st (hV : V w = S) (hw : w < 2) (hk : k < 8) : (bw Z V)[cSt w k]? = some (ad Z (cSt w k), .inl (Z.2.2.1, 8, .inl (fun j => S 33 k j))) := by
  rw [bw_at (by unfold cSt; omega), cell_at (w := w) (m := 54 + 4 * k) (by unfold cSt; omega) (by omega) hV]
  unfold lineCell
  rw [if_neg (by omega), if_neg (by omega), if_neg (by omega), if_neg (by omega), if_neg (by omega), if_neg (by omega), if_neg (by omega), if_neg (by omega), if_pos (by omega), show (54 + 4 * k - 53) / 4 = k by omega]
theorem at_tm (hV : V w = S) (hw : w < 2) (hk : k < 8) : (bw Z V)[cTm w k]? = some (ad Z (cTm w k), .inl (Z.2.2.1, 8, .inl (fun j => S 34 k j))) := by
  rw [bw_at (by unfold cTm; omega), cell_at (w := w) (m := 55 + 4 * k) (by unfold cTm; omega) (by omega) hV]
  unfold lineCell
  rw [if_neg (by omega), if_neg (by omega), if_neg (by omega), if_neg (by omega), if_neg (by omega), if_neg (by omega), if_neg (by omega), if_neg (by omega), if_neg (by omega), if_pos (by omega), show (55 + 4 * k - 53) / 4 = k by omega]
theorem at_wf (hV : V w = S) (hw : w < 2) (hk : k < 8) : (bw Z V)[cWf w k]? = some (ad Z (cWf w k), .inl (Z.2.2.1, 8, .inl (fun j => S 45 k j))) := by
  rw [bw_at (by unfold cWf; omega), cell_at (w := w) (m := 56 + 4 * k) (by unfold cWf; omega) (by omega) hV]
  unfold lineCell
  rw [if_neg (by omega), if_neg (by omega), if_neg (by omega), if_neg (by omega), if_neg (by omega), if_neg (by omega), if_neg (by omega), if_neg (by omega), if_neg (by omega), if_neg (by omega), show (56 + 4 * k - 53) / 4 = k by omega]
end AT
/-- the cell that holds the field f of the k-th object of the line w -/
def ownc (w f k : Nat) : Nat := if f = 0 then cPl w else if f < 10 then cLn w else if f < 20 then cBk w k else if f = 24 then cRb w k else if f < 30 then cRt w k else if f = 33 then cSt w k else if f = 34 then cTm w k else if f = 45 then cWf w k else cTr w k
theorem line_cg {Z : Gm} {w m n : Nat} {S S' : St} (hm : m < 85) (hmn : 1 + 85 * w + m ≠ n) (h : ∀ f k j, ownc w f k ≠ n → S' f k j = S f k j) : lineCell Z w S' m = lineCell Z w S m := by
  unfold lineCell
  by_cases c0 : m = 0
  · rw [if_pos c0, if_pos c0]
    have e : ∀ f, f ≠ 0 → f < 10 → S' f 0 0 = S f 0 0 := fun f h0 h1 => h f 0 0 (by unfold ownc; rw [if_neg h0, if_pos h1]; unfold cLn; omega)
    unfold fLn
    rw [e 2 (by omega) (by omega), e 4 (by omega) (by omega), e 6 (by omega) (by omega), e 7 (by omega) (by omega), e 8 (by omega) (by omega), e 9 (by omega) (by omega)]
  rw [if_neg c0, if_neg c0]
  by_cases c1 : m = 1
  · rw [if_pos c1, if_pos c1]
    have e : (fun j => S' 0 0 j) = (fun j => S 0 0 j) := funext fun j => h 0 0 j (by unfold ownc; rw [if_pos rfl]; unfold cPl; omega)
    rw [e]
  rw [if_neg c1, if_neg c1]
  by_cases c2 : m = 2
  · rw [if_pos c2, if_pos c2]
  rw [if_neg c2, if_neg c2]
  by_cases c3 : m = 3
  · rw [if_pos c3, if_pos c3]
  rw [if_neg c3, if_neg c3]
  by_cases c4 : m = 4
  · rw [if_pos c4, if_pos c4]
  rw [if_neg c4, if_neg c4]
  by_cases c5 : m < 21
  · rw [if_pos c5, if_pos c5]
    have e : ∀ f, 10 ≤ f → f < 20 → S' f (m - 5) 0 = S f (m - 5) 0 := fun f h0 h1 => h f (m - 5) 0 (by unfold ownc; rw [if_neg (by omega), if_neg (by omega), if_pos h1]; unfold cBk; omega)
    unfold fBk
    rw [e 10 (by omega) (by omega), e 11 (by omega) (by omega), e 12 (by omega) (by omega), e 13 (by omega) (by omega)]
  rw [if_neg c5, if_neg c5]
  by_cases c6 : m < 53
  · rw [if_pos c6, if_pos c6]
    by_cases c7 : (m - 21) % 2 = 0
    · rw [if_pos c7, if_pos c7]
      have e : ∀ f, 20 ≤ f → f < 24 → S' f ((m - 21) / 2) 0 = S f ((m - 21) / 2) 0 := fun f h0 h1 => h f ((m - 21) / 2) 0 (by unfold ownc; rw [if_neg (by omega), if_neg (by omega), if_neg (by omega), if_neg (by omega), if_pos (by omega)]; unfold cRt; omega)
      unfold fRt
      rw [e 20 (by omega) (by omega), e 21 (by omega) (by omega), e 22 (by omega) (by omega), e 23 (by omega) (by omega)]
    · rw [if_neg c7, if_neg c7]
      have e : (fun j => S' 24 ((m - 21) / 2) j) = (fun j => S 24 ((m - 21) / 2) j) := funext fun j => h 24 _ j (by unfold ownc; rw [if_neg (by omega), if_neg (by omega), if_neg (by omega), if_pos rfl]; unfold cRb; omega)
      rw [e]
  rw [if_neg c6, if_neg c6]
  by_cases c8 : (m - 53) % 4 = 0
  · rw [if_pos c8, if_pos c8]
    have e : ∀ f, 30 ≤ f → f ≠ 33 → f ≠ 34 → f ≠ 45 → S' f ((m - 53) / 4) 0 = S f ((m - 53) / 4) 0 := fun f h0 h1 h2 h3 => h f ((m - 53) / 4) 0 (by unfold ownc; rw [if_neg (by omega), if_neg (by omega), if_neg (by omega), if_neg (by omega), if_neg (by omega), if_neg h1, if_neg h2, if_neg h3]; unfold cTr; omega)
    unfold fTr
    rw [e 30 (by omega) (by omega) (by omega) (by omega), e 31 (by omega) (by omega) (by omega) (by omega), e 32 (by omega) (by omega) (by omega) (by omega), e 35 (by omega) (by omega) (by omega) (by omega), e 36 (by omega) (by omega) (by omega) (by omega), e 37 (by omega) (by omega) (by omega) (by omega), e 38 (by omega) (by omega) (by omega) (by omega), e 39 (by omega) (by omega) (by omega) (by omega), e 40 (by omega) (by omega) (by omega) (by omega), e 41 (by omega) (by omega) (by omega) (by omega), e 42 (by omega) (by omega) (by omega) (by omega), e 43 (by omega) (by omega) (by omega) (by omega), e 44 (by omega) (by omega) (by omega) (by omega)]
  rw [if_neg c8, if_neg c8]
  by_cases c9 : (m - 53) % 4 = 1
  · rw [if_pos c9, if_pos c9]
    have e : (fun j => S' 33 ((m - 53) / 4) j) = (fun j => S 33 ((m - 53) / 4) j) := funext fun j => h 33 _ j (by unfold ownc; rw [if_neg (by omega), if_neg (by omega), if_neg (by omega), if_neg (by omega), if_neg (by omega), if_pos rfl]; unfold cSt; omega)
    rw [e]
  rw [if_neg c9, if_neg c9]
  by_cases c10 : (m - 53) % 4 = 2
  · rw [if_pos c10, if_pos c10]
    have e : (fun j => S' 34 ((m - 53) / 4) j) = (fun j => S 34 ((m - 53) / 4) j) := funext fun j => h 34 _ j (by unfold ownc; rw [if_neg (by omega), if_neg (by omega), if_neg (by omega), if_neg (by omega), if_neg (by omega), if_neg (by omega), if_pos rfl]; unfold cTm; omega)
    rw [e]
  rw [if_neg c10, if_neg c10]
  have e : (fun j => S' 45 ((m - 53) / 4) j) = (fun j => S 45 ((m - 53) / 4) j) := funext fun j => h 45 _ j (by unfold ownc; rw [if_neg (by omega), if_neg (by omega), if_neg (by omega), if_neg (by omega), if_neg (by omega), if_neg (by omega), if_neg (by omega), if_pos rfl]; unfold cWf; omega)
  rw [e]
theorem ownc_lt {w f k : Nat} (hw : w < 2) (hk : if f < 10 then k = 0 else if f < 30 then k < 16 else k < 8) : 1 + 85 * w ≤ ownc w f k ∧ ownc w f k < 86 + 85 * w := by
  unfold ownc cPl cLn cBk cRb cRt cSt cTm cWf cTr
  (repeat' split) <;> split at hk <;> first | omega | (split at hk <;> omega)
/-- a write: one cell of the list changes, and the state with it -/
theorem bw_put {Z : Gm} {V : Nat → St} {w f k j : Nat} {S : St} {x : Int32} {e : va_E} (hV : V w = S) (hw : w < 2) (hk : if f < 10 then k = 0 else if f < 30 then k < 16 else k < 8) (he : cellOf Z (upL V w (up S f k j x)) (ownc w f k) = e) : (bw Z V).set (ownc w f k) (ad Z (ownc w f k), e) = bw Z (upL V w (up S f k j x)) := by
  obtain ⟨h1, h2⟩ := ownc_lt hw hk
  apply List.ext_getElem?
  intro i
  by_cases hi : i < 171
  · rw [List.getElem?_set, bw_at hi, bw_at hi]
    by_cases hn : ownc w f k = i
    · subst hn
      rw [if_pos rfl, if_pos (by simp [bw]; omega), he]
    · rw [if_neg hn]
      refine congrArg (fun e => some (ad Z i, e)) ?_
      unfold cellOf
      by_cases h0 : i = 0
      · rw [if_pos h0, if_pos h0]
      · rw [if_neg h0, if_neg h0]
        by_cases hww : (i - 1) / 85 = w
        · rw [hww, upL_same, hV]
          exact (line_cg (n := ownc w f k) (by omega) (by omega) (fun f' k' j' hne => by
            unfold up
            rw [if_neg]
            rintro ⟨rfl, rfl, rfl⟩
            exact hne rfl)).symm
        · rw [upL_ne hww]
  · rw [List.getElem?_eq_none (by simp [bw]; omega), List.getElem?_eq_none (by simp [bw]; omega)]
