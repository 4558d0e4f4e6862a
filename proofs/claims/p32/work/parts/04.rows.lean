/-! Rows over this world: reads, writes, calls, ends. -/
def inW (Z : Gm) : Nat → Prop := fun q => ∃ i, i < 171 ∧ q = ad Z i
def AA (Z : Gm) : Prop := ∀ i j, i < 171 → j < 171 → ad Z i = ad Z j → i = j
theorem bw_D {Z : Gm} (hA : AA Z) (V : Nat → St) : va_D (inW Z) (bw Z V) := by
  have key : ∀ (i : Nat) (q : Nat × va_E), (bw Z V)[i]? = some q → i < 171 ∧ q.1 = ad Z i := by
    intro i q h
    have hi : i < 171 := by
      have := (List.getElem?_eq_some_iff.mp h).1
      simpa [bw] using this
    rw [bw_at hi] at h
    cases h
    exact ⟨hi, rfl⟩
  refine ⟨fun i j p q hp hq e => ?_, fun i q h => ⟨i, key i q h⟩⟩
  obtain ⟨i1, e1⟩ := key i p hp
  obtain ⟨j1, e2⟩ := key j q hq
  exact hA i j i1 j1 (by rw [← e1, ← e2, e])
/-- what holds of the machine in a method of the class own -/
def EE (Z : Gm) (p : Program) (s : State) (m : MethodId) (args : Array Value) (c : Code) (cc : ByteArray) (own : String) : Prop := p.tables.exec = Jvm.exec ∧ c.code = cc ∧ s.vm.findClass own = some m.cls ∧ (∀ w ∈ gG, w.before args s = true) ∧ va_K (gD Z) vwCl (gT Z) s
theorem tx0 : ∀ i, i < 4 → (TX0 i).1 = RX0 := by decide +kernel
theorem tx1 : ∀ i, i < 10 → (TX1 i).1 = RX1 := by decide +kernel
theorem tx2 : ∀ i, i < 5 → (TX2 i).1 = RX2 := by decide +kernel
theorem tx3 : ∀ i, i < 16 → (TX3 i).1 = RX3 := by decide +kernel
section ROWS
variable {p : Program} {l : Launch} {e : Env} {R : Room} {s : State} {m : MethodId} {args : Array Value} {below : List Frame} {meth : Method} {c : Code} {H : Heap} {locs : List Loc} {cells slots : Nat} {Q : State → Prop} {cc : ByteArray} {pc : Nat} {ls : Array Slot} {rest : List Value} {Z : Gm} {V V' : Nat → St} {w k : Nat} {S : St} {own : String} {index : Nat} {H0 : Heap}
-- ---- fields that are read
theorem g_ln (E : EE Z p s m args c cc own) (hP : va_P (gD Z) vwCl (bw Z V) H) (hV : V w = S) (hw : w < 2) (i : Nat) (hi : i < 10) (hl : Cond.fieldLink own index RX1 (TX1 i).2.1 (TX1 i).2.2.1 ∈ gG) {v : Value} (hv : (fLn Z w S)[i]? = some v) (hdg : decode cc pc = .ok (.getfield index, 3))
    (kk : W p l e R s m args below meth c H locs cells slots Q (F0 m (pc + 3) ls (v :: rest))) : W p l e R s m args below meth c H locs cells slots Q (F0 m pc ls (.ref (ad Z (cLn w)) :: rest)) :=
  va_get E.1 E.2.1 (Ts := gG) E.2.2.2.1 gC1 E.2.2.1 E.2.2.2.2 hP (cLn w) (at_ln hV hw) rfl i hi (E.2.2.2.1 _ hl) (fun x h => by rw [tx1 i hi] at h; exact h) hv hdg kk
theorem g_bk (E : EE Z p s m args c cc own) (hP : va_P (gD Z) vwCl (bw Z V) H) (hV : V w = S) (hw : w < 2) (hk : k < 16) (i : Nat) (hi : i < 4) (hl : Cond.fieldLink own index RX0 (TX0 i).2.1 (TX0 i).2.2.1 ∈ gG) {v : Value} (hv : (fBk S k)[i]? = some v) (hdg : decode cc pc = .ok (.getfield index, 3))
    (kk : W p l e R s m args below meth c H locs cells slots Q (F0 m (pc + 3) ls (v :: rest))) : W p l e R s m args below meth c H locs cells slots Q (F0 m pc ls (.ref (ad Z (cBk w k)) :: rest)) :=
  va_get E.1 E.2.1 (Ts := gG) E.2.2.2.1 gC0 E.2.2.1 E.2.2.2.2 hP (cBk w k) (at_bk hV hw hk) rfl i hi (E.2.2.2.1 _ hl) (fun x h => by rw [tx0 i hi] at h; exact h) hv hdg kk
theorem g_rt (E : EE Z p s m args c cc own) (hP : va_P (gD Z) vwCl (bw Z V) H) (hV : V w = S) (hw : w < 2) (hk : k < 16) (i : Nat) (hi : i < 5) (hl : Cond.fieldLink own index RX2 (TX2 i).2.1 (TX2 i).2.2.1 ∈ gG) {v : Value} (hv : (fRt Z w S k)[i]? = some v) (hdg : decode cc pc = .ok (.getfield index, 3))
    (kk : W p l e R s m args below meth c H locs cells slots Q (F0 m (pc + 3) ls (v :: rest))) : W p l e R s m args below meth c H locs cells slots Q (F0 m pc ls (.ref (ad Z (cRt w k)) :: rest)) :=
  va_get E.1 E.2.1 (Ts := gG) E.2.2.2.1 gC2 E.2.2.1 E.2.2.2.2 hP (cRt w k) (at_rt hV hw hk) rfl i hi (E.2.2.2.1 _ hl) (fun x h => by rw [tx2 i hi] at h; exact h) hv hdg kk
theorem g_tr (E : EE Z p s m args c cc own) (hP : va_P (gD Z) vwCl (bw Z V) H) (hV : V w = S) (hw : w < 2) (hk : k < 8) (i : Nat) (hi : i < 16) (hl : Cond.fieldLink own index RX3 (TX3 i).2.1 (TX3 i).2.2.1 ∈ gG) {v : Value} (hv : (fTr Z w S k)[i]? = some v) (hdg : decode cc pc = .ok (.getfield index, 3))
    (kk : W p l e R s m args below meth c H locs cells slots Q (F0 m (pc + 3) ls (v :: rest))) : W p l e R s m args below meth c H locs cells slots Q (F0 m pc ls (.ref (ad Z (cTr w k)) :: rest)) :=
  va_get E.1 E.2.1 (Ts := gG) E.2.2.2.1 gC3 E.2.2.1 E.2.2.2.2 hP (cTr w k) (at_tr hV hw hk) rfl i hi (E.2.2.2.1 _ hl) (fun x h => by rw [tx3 i hi] at h; exact h) hv hdg kk
theorem g_bay (E : EE Z p s m args c cc own) (hP : va_P (gD Z) vwCl (bw Z V) H) (i : Nat) (hi : i < 2) (hl : Cond.fieldLink own index RX4 (TX4 i).2.1 (TX4 i).2.2.1 ∈ gG) (hdg : decode cc pc = .ok (.getfield index, 3))
    (kk : W p l e R s m args below meth c H locs cells slots Q (F0 m (pc + 3) ls (.ref (ad Z (cLn i)) :: rest))) : W p l e R s m args below meth c H locs cells slots Q (F0 m pc ls (.ref (ad Z 0) :: rest)) := by
  refine va_get E.1 E.2.1 (Ts := gG) E.2.2.2.1 gC4 E.2.2.1 E.2.2.2.2 hP 0 at_bay rfl i hi (E.2.2.2.1 _ hl) (fun x h => ?_) (v := .ref (ad Z (cLn i))) ?_ hdg kk
  · rcases (show i = 0 ∨ i = 1 by omega) with rfl | rfl <;> exact h
  · rcases (show i = 0 ∨ i = 1 by omega) with rfl | rfl <;> rfl
-- ---- fields that are written
theorem p_ln (E : EE Z p s m args c cc own) (hP : va_P (gD Z) vwCl (bw Z V) H) (hA : AA Z) (hS : va_S (inW Z) H0 H locs) (hV : V w = S) (hw : w < 2) (i : Nat) (hi : i ∈ [2, 4, 6, 7, 8, 9]) (hl : Cond.fieldLink own index RX1 (TX1 i).2.1 (TX1 i).2.2.1 ∈ gG) {x : Int32} (hV' : upL V w (up S i 0 0 x) = V') (hdg : decode cc pc = .ok (.putfield index, 3))
    (kk : ∀ (H1 : Heap) (locs1 : List Loc), va_P (gD Z) vwCl (bw Z V') H1 → va_S (inW Z) H0 H1 locs1 → W p l e R s m args below meth c H1 locs1 cells slots Q (F0 m (pc + 3) ls rest)) : W p l e R s m args below meth c H locs cells slots Q (F0 m pc ls (.int x :: .ref (ad Z (cLn w)) :: rest)) := by
  subst hV'
  have h10 : i < 10 := by simp only [List.mem_cons, List.not_mem_nil, or_false] at hi; omega
  have hd : parseFieldDescriptor (TX1 i).2.2.1 = some .int := by simp only [List.mem_cons, List.not_mem_nil, or_false] at hi; rcases hi with rfl | rfl | rfl | rfl | rfl | rfl <;> decide +kernel
  have hf : (TX1 i).2.2.2 = false := by simp only [List.mem_cons, List.not_mem_nil, or_false] at hi; rcases hi with rfl | rfl | rfl | rfl | rfl | rfl <;> rfl
  have hn : ownc w i 0 = cLn w := by simp only [List.mem_cons, List.not_mem_nil, or_false] at hi; rcases hi with rfl | rfl | rfl | rfl | rfl | rfl <;> rfl
  refine va_put E.1 E.2.1 (Ts := gG) E.2.2.2.1 gC1 tyX1 tyX1_ok nmX1 E.2.2.1 E.2.2.2.2 hP (bw_D hA V) hS (cLn w) (at_ln hV hw) rfl i h10 (E.2.2.2.1 _ hl) (fun x h => by rw [tx1 i h10] at h; exact h) hf hd (v := .int x) rfl rfl (by simp [fLn]; omega) hdg (fun H1 locs1 h1 _ h3 => kk H1 locs1 ?_ h3)
  have hb := bw_put (Z := Z) (f := i) (k := 0) (j := 0) (x := x) (e := .inr (1, (fLn Z w S).set i (.int x))) hV hw (by rw [if_pos h10]) (by
    rw [hn, cell_at (w := w) (m := 0) (by unfold cLn; omega) (by omega) (upL_same V w _)]
    simp only [lineCell, if_true]
    simp only [List.mem_cons, List.not_mem_nil, or_false] at hi
    rcases hi with rfl | rfl | rfl | rfl | rfl | rfl <;> simp [fLn, up])
  rw [hn] at hb
  rw [← hb]
  exact h1
theorem p_bk (E : EE Z p s m args c cc own) (hP : va_P (gD Z) vwCl (bw Z V) H) (hA : AA Z) (hS : va_S (inW Z) H0 H locs) (hV : V w = S) (hw : w < 2) (hk : k < 16) (i : Nat) (hi : i < 4) (hl : Cond.fieldLink own index RX0 (TX0 i).2.1 (TX0 i).2.2.1 ∈ gG) {x : Int32} (hV' : upL V w (up S (10 + i) k 0 x) = V') (hdg : decode cc pc = .ok (.putfield index, 3))
    (kk : ∀ (H1 : Heap) (locs1 : List Loc), va_P (gD Z) vwCl (bw Z V') H1 → va_S (inW Z) H0 H1 locs1 → W p l e R s m args below meth c H1 locs1 cells slots Q (F0 m (pc + 3) ls rest)) : W p l e R s m args below meth c H locs cells slots Q (F0 m pc ls (.int x :: .ref (ad Z (cBk w k)) :: rest)) := by
  subst hV'
  have hd : parseFieldDescriptor (TX0 i).2.2.1 = some .int := by rcases (show i = 0 ∨ i = 1 ∨ i = 2 ∨ i = 3 by omega) with rfl | rfl | rfl | rfl <;> decide +kernel
  have hf : (TX0 i).2.2.2 = false := by rcases (show i = 0 ∨ i = 1 ∨ i = 2 ∨ i = 3 by omega) with rfl | rfl | rfl | rfl <;> rfl
  have hn : ownc w (10 + i) k = cBk w k := by rcases (show i = 0 ∨ i = 1 ∨ i = 2 ∨ i = 3 by omega) with rfl | rfl | rfl | rfl <;> rfl
  refine va_put E.1 E.2.1 (Ts := gG) E.2.2.2.1 gC0 tyX0 tyX0_ok nmX0 E.2.2.1 E.2.2.2.2 hP (bw_D hA V) hS (cBk w k) (at_bk hV hw hk) rfl i hi (E.2.2.2.1 _ hl) (fun x h => by rw [tx0 i hi] at h; exact h) hf hd (v := .int x) rfl rfl (by simp [fBk]; omega) hdg (fun H1 locs1 h1 _ h3 => kk H1 locs1 ?_ h3)
  have hb := bw_put (Z := Z) (f := 10 + i) (k := k) (j := 0) (x := x) (e := .inr (0, (fBk S k).set i (.int x))) hV hw (by rw [if_neg (by omega), if_pos (by omega)]; exact hk) (by
    have h0 := at_bk (Z := Z) (V := upL V w (up S (10 + i) k 0 x)) (k := k) (upL_same V w _) hw hk
    rw [bw_at (by unfold cBk; omega)] at h0
    rw [hn, (Prod.mk.inj (Option.some.inj h0)).2]
    rcases (show i = 0 ∨ i = 1 ∨ i = 2 ∨ i = 3 by omega) with rfl | rfl | rfl | rfl <;> simp [fBk, up])
  rw [hn] at hb
  rw [← hb]
  exact h1
theorem p_rt (E : EE Z p s m args c cc own) (hP : va_P (gD Z) vwCl (bw Z V) H) (hA : AA Z) (hS : va_S (inW Z) H0 H locs) (hV : V w = S) (hw : w < 2) (hk : k < 16) (i : Nat) (hi : i < 4) (hl : Cond.fieldLink own index RX2 (TX2 i).2.1 (TX2 i).2.2.1 ∈ gG) {x : Int32} (hx : i = 2 → x = 0 ∨ x = 1) (hV' : upL V w (up S (20 + i) k 0 x) = V') (hdg : decode cc pc = .ok (.putfield index, 3))
    (kk : ∀ (H1 : Heap) (locs1 : List Loc), va_P (gD Z) vwCl (bw Z V') H1 → va_S (inW Z) H0 H1 locs1 → W p l e R s m args below meth c H1 locs1 cells slots Q (F0 m (pc + 3) ls rest)) : W p l e R s m args below meth c H locs cells slots Q (F0 m pc ls (.int x :: .ref (ad Z (cRt w k)) :: rest)) := by
  subst hV'
  have hd : ∃ ty, parseFieldDescriptor (TX2 i).2.2.1 = some ty ∧ narrow ty (.int x) = .int x ∧ fits ty (.int x) = true := by
    rcases (show i = 0 ∨ i = 1 ∨ i = 2 ∨ i = 3 by omega) with rfl | rfl | rfl | rfl
    · exact ⟨.int, by decide +kernel, rfl, rfl⟩
    · exact ⟨.int, by decide +kernel, rfl, rfl⟩
    · rcases hx rfl with rfl | rfl <;> exact ⟨.boolean, by decide +kernel, rfl, rfl⟩
    · exact ⟨.int, by decide +kernel, rfl, rfl⟩
  obtain ⟨ty, hd, hnr, hft⟩ := hd
  have hf : (TX2 i).2.2.2 = false := by rcases (show i = 0 ∨ i = 1 ∨ i = 2 ∨ i = 3 by omega) with rfl | rfl | rfl | rfl <;> rfl
  have hn : ownc w (20 + i) k = cRt w k := by rcases (show i = 0 ∨ i = 1 ∨ i = 2 ∨ i = 3 by omega) with rfl | rfl | rfl | rfl <;> rfl
  refine va_put E.1 E.2.1 (Ts := gG) E.2.2.2.1 gC2 tyX2 tyX2_ok nmX2 E.2.2.1 E.2.2.2.2 hP (bw_D hA V) hS (cRt w k) (at_rt hV hw hk) rfl i (by omega) (E.2.2.2.1 _ hl) (fun x h => by rw [tx2 i (by omega)] at h; exact h) hf hd (v := .int x) hnr hft (by simp [fRt]; omega) hdg (fun H1 locs1 h1 _ h3 => kk H1 locs1 ?_ h3)
  have hb := bw_put (Z := Z) (f := 20 + i) (k := k) (j := 0) (x := x) (e := .inr (2, (fRt Z w S k).set i (.int x))) hV hw (by rw [if_neg (by omega), if_pos (by omega)]; exact hk) (by
    have h0 := at_rt (Z := Z) (V := upL V w (up S (20 + i) k 0 x)) (k := k) (upL_same V w _) hw hk
    rw [bw_at (by unfold cRt; omega)] at h0
    rw [hn, (Prod.mk.inj (Option.some.inj h0)).2]
    rcases (show i = 0 ∨ i = 1 ∨ i = 2 ∨ i = 3 by omega) with rfl | rfl | rfl | rfl <;> simp [fRt, up])
  rw [hn] at hb
  rw [← hb]
  exact h1
theorem p_tr (E : EE Z p s m args c cc own) (hP : va_P (gD Z) vwCl (bw Z V) H) (hA : AA Z) (hS : va_S (inW Z) H0 H locs) (hV : V w = S) (hw : w < 2) (hk : k < 8) (i : Nat) (hi : i ∈ [0, 1, 2, 5, 6, 7, 8, 9, 10, 11, 12, 13, 14]) (hl : Cond.fieldLink own index RX3 (TX3 i).2.1 (TX3 i).2.2.1 ∈ gG) {x : Int32} (hV' : upL V w (up S (30 + i) k 0 x) = V') (hdg : decode cc pc = .ok (.putfield index, 3))
    (kk : ∀ (H1 : Heap) (locs1 : List Loc), va_P (gD Z) vwCl (bw Z V') H1 → va_S (inW Z) H0 H1 locs1 → W p l e R s m args below meth c H1 locs1 cells slots Q (F0 m (pc + 3) ls rest)) : W p l e R s m args below meth c H locs cells slots Q (F0 m pc ls (.int x :: .ref (ad Z (cTr w k)) :: rest)) := by
  subst hV'
  simp only [List.mem_cons, List.not_mem_nil, or_false] at hi
  have h16 : i < 16 := by omega
  have hd : parseFieldDescriptor (TX3 i).2.2.1 = some .int := by rcases hi with rfl | rfl | rfl | rfl | rfl | rfl | rfl | rfl | rfl | rfl | rfl | rfl | rfl <;> decide +kernel
  have hf : (TX3 i).2.2.2 = false := by rcases hi with rfl | rfl | rfl | rfl | rfl | rfl | rfl | rfl | rfl | rfl | rfl | rfl | rfl <;> rfl
  have hn : ownc w (30 + i) k = cTr w k := by rcases hi with rfl | rfl | rfl | rfl | rfl | rfl | rfl | rfl | rfl | rfl | rfl | rfl | rfl <;> rfl
  refine va_put E.1 E.2.1 (Ts := gG) E.2.2.2.1 gC3 tyX3 tyX3_ok nmX3 E.2.2.1 E.2.2.2.2 hP (bw_D hA V) hS (cTr w k) (at_tr hV hw hk) rfl i h16 (E.2.2.2.1 _ hl) (fun x h => by rw [tx3 i h16] at h; exact h) hf hd (v := .int x) rfl rfl (by simp [fTr]; omega) hdg (fun H1 locs1 h1 _ h3 => kk H1 locs1 ?_ h3)
  have hb := bw_put (Z := Z) (f := 30 + i) (k := k) (j := 0) (x := x) (e := .inr (3, (fTr Z w S k).set i (.int x))) hV hw (by rw [if_neg (by omega), if_neg (by omega)]; exact hk) (by
    have h0 := at_tr (Z := Z) (V := upL V w (up S (30 + i) k 0 x)) (k := k) (upL_same V w _) hw hk
    rw [bw_at (by unfold cTr; omega)] at h0
    rw [hn, (Prod.mk.inj (Option.some.inj h0)).2]
    rcases hi with rfl | rfl | rfl | rfl | rfl | rfl | rfl | rfl | rfl | rfl | rfl | rfl | rfl <;> simp [fTr, up])
  rw [hn] at hb
  rw [← hb]
  exact h1
-- ---- arrays
theorem a_bk (E : EE Z p s m args c cc own) (hP : va_P (gD Z) vwCl (bw Z V) H) (hw : w < 2) {x : Int32} (hx : x.toNatClampNeg = k) (hin : vp_in x 16) (hdg : decode cc pc = .ok (.aaload, 1))
    (kk : W p l e R s m args below meth c H locs cells slots Q (F0 m (pc + 1) ls (.ref (ad Z (cBk w k)) :: rest))) : W p l e R s m args below meth c H locs cells slots Q (F0 m pc ls (.int x :: .ref (ad Z (cBs w)) :: rest)) := by
  subst hx
  exact va_aldq E.1 E.2.1 E.2.2.2.2 hP (cBs w) 1 (at_bs hw) rfl hin hdg kk
theorem a_rt (E : EE Z p s m args c cc own) (hP : va_P (gD Z) vwCl (bw Z V) H) (hw : w < 2) {x : Int32} (hx : x.toNatClampNeg = k) (hin : vp_in x 16) (hdg : decode cc pc = .ok (.aaload, 1))
    (kk : W p l e R s m args below meth c H locs cells slots Q (F0 m (pc + 1) ls (.ref (ad Z (cRt w k)) :: rest))) : W p l e R s m args below meth c H locs cells slots Q (F0 m pc ls (.int x :: .ref (ad Z (cRs w)) :: rest)) := by
  subst hx
  exact va_aldq E.1 E.2.1 E.2.2.2.2 hP (cRs w) 2 (at_rs hw) rfl hin hdg kk
theorem a_tr (E : EE Z p s m args c cc own) (hP : va_P (gD Z) vwCl (bw Z V) H) (hw : w < 2) {x : Int32} (hx : x.toNatClampNeg = k) (hin : vp_in x 8) (hdg : decode cc pc = .ok (.aaload, 1))
    (kk : W p l e R s m args below meth c H locs cells slots Q (F0 m (pc + 1) ls (.ref (ad Z (cTr w k)) :: rest))) : W p l e R s m args below meth c H locs cells slots Q (F0 m pc ls (.int x :: .ref (ad Z (cTs w)) :: rest)) := by
  subst hx
  exact va_aldq E.1 E.2.1 E.2.2.2.2 hP (cTs w) 3 (at_ts hw) rfl hin hdg kk
theorem i_pl (E : EE Z p s m args c cc own) (hP : va_P (gD Z) vwCl (bw Z V) H) (hV : V w = S) (hw : w < 2) {x : Int32} {j : Nat} (hx : x.toNatClampNeg = j) (hin : vp_in x 6) (hdg : decode cc pc = .ok (.iaload, 1))
    (kk : W p l e R s m args below meth c H locs cells slots Q (F0 m (pc + 1) ls (.int (S 0 0 j) :: rest))) : W p l e R s m args below meth c H locs cells slots Q (F0 m pc ls (.int x :: .ref (ad Z (cPl w)) :: rest)) := by
  subst hx
  exact va_iald E.1 E.2.1 E.2.2.2.2 hP (cPl w) 0 (at_pl hV hw) rfl hin hdg kk
theorem i_rb (E : EE Z p s m args c cc own) (hP : va_P (gD Z) vwCl (bw Z V) H) (hV : V w = S) (hw : w < 2) (hk : k < 16) {x : Int32} {j : Nat} (hx : x.toNatClampNeg = j) (hin : vp_in x 5) (hdg : decode cc pc = .ok (.iaload, 1))
    (kk : W p l e R s m args below meth c H locs cells slots Q (F0 m (pc + 1) ls (.int (S 24 k j) :: rest))) : W p l e R s m args below meth c H locs cells slots Q (F0 m pc ls (.int x :: .ref (ad Z (cRb w k)) :: rest)) := by
  subst hx
  exact va_iald E.1 E.2.1 E.2.2.2.2 hP (cRb w k) 0 (at_rb hV hw hk) rfl hin hdg kk
theorem i_st (E : EE Z p s m args c cc own) (hP : va_P (gD Z) vwCl (bw Z V) H) (hV : V w = S) (hw : w < 2) (hk : k < 8) {x : Int32} {j : Nat} (hx : x.toNatClampNeg = j) (hin : vp_in x 8) (hdg : decode cc pc = .ok (.iaload, 1))
    (kk : W p l e R s m args below meth c H locs cells slots Q (F0 m (pc + 1) ls (.int (S 33 k j) :: rest))) : W p l e R s m args below meth c H locs cells slots Q (F0 m pc ls (.int x :: .ref (ad Z (cSt w k)) :: rest)) := by
  subst hx
  exact va_iald E.1 E.2.1 E.2.2.2.2 hP (cSt w k) 0 (at_st hV hw hk) rfl hin hdg kk
theorem i_tm (E : EE Z p s m args c cc own) (hP : va_P (gD Z) vwCl (bw Z V) H) (hV : V w = S) (hw : w < 2) (hk : k < 8) {x : Int32} {j : Nat} (hx : x.toNatClampNeg = j) (hin : vp_in x 8) (hdg : decode cc pc = .ok (.iaload, 1))
    (kk : W p l e R s m args below meth c H locs cells slots Q (F0 m (pc + 1) ls (.int (S 34 k j) :: rest))) : W p l e R s m args below meth c H locs cells slots Q (F0 m pc ls (.int x :: .ref (ad Z (cTm w k)) :: rest)) := by
  subst hx
  exact va_iald E.1 E.2.1 E.2.2.2.2 hP (cTm w k) 0 (at_tm hV hw hk) rfl hin hdg kk
theorem i_wf (E : EE Z p s m args c cc own) (hP : va_P (gD Z) vwCl (bw Z V) H) (hV : V w = S) (hw : w < 2) (hk : k < 8) {x : Int32} {j : Nat} (hx : x.toNatClampNeg = j) (hin : vp_in x 8) (hdg : decode cc pc = .ok (.iaload, 1))
    (kk : W p l e R s m args below meth c H locs cells slots Q (F0 m (pc + 1) ls (.int (S 45 k j) :: rest))) : W p l e R s m args below meth c H locs cells slots Q (F0 m pc ls (.int x :: .ref (ad Z (cWf w k)) :: rest)) := by
  subst hx
  exact va_iald E.1 E.2.1 E.2.2.2.2 hP (cWf w k) 0 (at_wf hV hw hk) rfl hin hdg kk
/-- a write into a row of numbers: by the field's code -/
theorem st_arr {f n : Nat} (hA : AA Z) (hV : V w = S) (hw : w < 2) (hk : if f < 10 then k = 0 else if f < 30 then k < 16 else k < 8) (hat : ∀ (V1 : Nat → St) (S1 : St), V1 w = S1 → (bw Z V1)[ownc w f k]? = some (ad Z (ownc w f k), .inl (Z.2.2.1, n, .inl (fun j => S1 f k j)))) (E : EE Z p s m args c cc own) (hP : va_P (gD Z) vwCl (bw Z V) H) (hS : va_S (inW Z) H0 H locs) {x y : Int32} {j : Nat} (hx : x.toNatClampNeg = j) (hin : vp_in x n) (hV' : upL V w (up S f k j y) = V') (hdg : decode cc pc = .ok (.iastore, 1))
    (kk : ∀ (H1 : Heap) (locs1 : List Loc), va_P (gD Z) vwCl (bw Z V') H1 → va_S (inW Z) H0 H1 locs1 → W p l e R s m args below meth c H1 locs1 cells slots Q (F0 m (pc + 1) ls rest)) : W p l e R s m args below meth c H locs cells slots Q (F0 m pc ls (.int y :: .int x :: .ref (ad Z (ownc w f k)) :: rest)) := by
  subst hV'
  subst hx
  refine va_iast E.1 E.2.1 E.2.2.2.2 hP (bw_D hA V) hS (ownc w f k) 0 (hat V S hV) rfl hin hdg (fun H1 locs1 h1 _ h3 => kk H1 locs1 ?_ h3)
  have hb := bw_put (Z := Z) (f := f) (k := k) (j := x.toNatClampNeg) (x := y) (e := .inl (Z.2.2.1, n, .inl (upd (fun j => S f k j) x.toNatClampNeg y))) hV hw hk (by
    have h0 := hat (upL V w (up S f k x.toNatClampNeg y)) _ (upL_same V w _)
    rw [bw_at (by have := ownc_lt hw hk; omega)] at h0
    rw [(Prod.mk.inj (Option.some.inj h0)).2]
    have e1 : (fun j => up S f k x.toNatClampNeg y f k j) = upd (fun j => S f k j) x.toNatClampNeg y := by
      funext j
      by_cases hj : j = x.toNatClampNeg
      · simp [up, upd, hj]
      · simp [up, upd, hj]
    rw [e1])
  rw [← hb]
  exact h1
theorem s_pl (E : EE Z p s m args c cc own) (hP : va_P (gD Z) vwCl (bw Z V) H) (hA : AA Z) (hS : va_S (inW Z) H0 H locs) (hV : V w = S) (hw : w < 2) {x y : Int32} {j : Nat} (hx : x.toNatClampNeg = j) (hin : vp_in x 6) (hV' : upL V w (up S 0 0 j y) = V') (hdg : decode cc pc = .ok (.iastore, 1))
    (kk : ∀ (H1 : Heap) (locs1 : List Loc), va_P (gD Z) vwCl (bw Z V') H1 → va_S (inW Z) H0 H1 locs1 → W p l e R s m args below meth c H1 locs1 cells slots Q (F0 m (pc + 1) ls rest)) : W p l e R s m args below meth c H locs cells slots Q (F0 m pc ls (.int y :: .int x :: .ref (ad Z (cPl w)) :: rest)) :=
  st_arr (f := 0) (k := 0) (n := 6) hA hV hw (by rw [if_pos (by omega)]) (fun V1 S1 h => at_pl h hw) E hP hS hx hin hV' hdg kk
theorem s_rb (E : EE Z p s m args c cc own) (hP : va_P (gD Z) vwCl (bw Z V) H) (hA : AA Z) (hS : va_S (inW Z) H0 H locs) (hV : V w = S) (hw : w < 2) (hk : k < 16) {x y : Int32} {j : Nat} (hx : x.toNatClampNeg = j) (hin : vp_in x 5) (hV' : upL V w (up S 24 k j y) = V') (hdg : decode cc pc = .ok (.iastore, 1))
    (kk : ∀ (H1 : Heap) (locs1 : List Loc), va_P (gD Z) vwCl (bw Z V') H1 → va_S (inW Z) H0 H1 locs1 → W p l e R s m args below meth c H1 locs1 cells slots Q (F0 m (pc + 1) ls rest)) : W p l e R s m args below meth c H locs cells slots Q (F0 m pc ls (.int y :: .int x :: .ref (ad Z (cRb w k)) :: rest)) :=
  st_arr (f := 24) (k := k) (n := 5) hA hV hw (by rw [if_neg (by omega), if_pos (by omega)]; exact hk) (fun V1 S1 h => at_rb h hw hk) E hP hS hx hin hV' hdg kk
theorem s_st (E : EE Z p s m args c cc own) (hP : va_P (gD Z) vwCl (bw Z V) H) (hA : AA Z) (hS : va_S (inW Z) H0 H locs) (hV : V w = S) (hw : w < 2) (hk : k < 8) {x y : Int32} {j : Nat} (hx : x.toNatClampNeg = j) (hin : vp_in x 8) (hV' : upL V w (up S 33 k j y) = V') (hdg : decode cc pc = .ok (.iastore, 1))
    (kk : ∀ (H1 : Heap) (locs1 : List Loc), va_P (gD Z) vwCl (bw Z V') H1 → va_S (inW Z) H0 H1 locs1 → W p l e R s m args below meth c H1 locs1 cells slots Q (F0 m (pc + 1) ls rest)) : W p l e R s m args below meth c H locs cells slots Q (F0 m pc ls (.int y :: .int x :: .ref (ad Z (cSt w k)) :: rest)) :=
  st_arr (f := 33) (k := k) (n := 8) hA hV hw (by rw [if_neg (by omega), if_neg (by omega)]; exact hk) (fun V1 S1 h => at_st h hw hk) E hP hS hx hin hV' hdg kk
theorem s_tm (E : EE Z p s m args c cc own) (hP : va_P (gD Z) vwCl (bw Z V) H) (hA : AA Z) (hS : va_S (inW Z) H0 H locs) (hV : V w = S) (hw : w < 2) (hk : k < 8) {x y : Int32} {j : Nat} (hx : x.toNatClampNeg = j) (hin : vp_in x 8) (hV' : upL V w (up S 34 k j y) = V') (hdg : decode cc pc = .ok (.iastore, 1))
    (kk : ∀ (H1 : Heap) (locs1 : List Loc), va_P (gD Z) vwCl (bw Z V') H1 → va_S (inW Z) H0 H1 locs1 → W p l e R s m args below meth c H1 locs1 cells slots Q (F0 m (pc + 1) ls rest)) : W p l e R s m args below meth c H locs cells slots Q (F0 m pc ls (.int y :: .int x :: .ref (ad Z (cTm w k)) :: rest)) :=
  st_arr (f := 34) (k := k) (n := 8) hA hV hw (by rw [if_neg (by omega), if_neg (by omega)]; exact hk) (fun V1 S1 h => at_tm h hw hk) E hP hS hx hin hV' hdg kk
theorem s_wf (E : EE Z p s m args c cc own) (hP : va_P (gD Z) vwCl (bw Z V) H) (hA : AA Z) (hS : va_S (inW Z) H0 H locs) (hV : V w = S) (hw : w < 2) (hk : k < 8) {x y : Int32} {j : Nat} (hx : x.toNatClampNeg = j) (hin : vp_in x 8) (hV' : upL V w (up S 45 k j y) = V') (hdg : decode cc pc = .ok (.iastore, 1))
    (kk : ∀ (H1 : Heap) (locs1 : List Loc), va_P (gD Z) vwCl (bw Z V') H1 → va_S (inW Z) H0 H1 locs1 → W p l e R s m args below meth c H1 locs1 cells slots Q (F0 m (pc + 1) ls rest)) : W p l e R s m args below meth c H locs cells slots Q (F0 m pc ls (.int y :: .int x :: .ref (ad Z (cWf w k)) :: rest)) :=
  st_arr (f := 45) (k := k) (n := 8) hA hV hw (by rw [if_neg (by omega), if_neg (by omega)]; exact hk) (fun V1 S1 h => at_wf h hw hk) E hP hS hx hin hV' hdg kk
theorem l_rb (E : EE Z p s m args c cc own) (hP : va_P (gD Z) vwCl (bw Z V) H) (hw : w < 2) (hk : k < 16) (hdg : decode cc pc = .ok (.arraylength, 1))
    (kk : W p l e R s m args below meth c H locs cells slots Q (F0 m (pc + 1) ls (.int 5 :: rest))) : W p l e R s m args below meth c H locs cells slots Q (F0 m pc ls (.ref (ad Z (cRb w k)) :: rest)) :=
  va_alen E.1 E.2.1 E.2.2.2.2 hP (cRb w k) 0 (at_rb rfl hw hk) rfl rfl hdg kk
theorem l_st (E : EE Z p s m args c cc own) (hP : va_P (gD Z) vwCl (bw Z V) H) (hw : w < 2) (hk : k < 8) (hdg : decode cc pc = .ok (.arraylength, 1))
    (kk : W p l e R s m args below meth c H locs cells slots Q (F0 m (pc + 1) ls (.int 8 :: rest))) : W p l e R s m args below meth c H locs cells slots Q (F0 m pc ls (.ref (ad Z (cSt w k)) :: rest)) :=
  va_alen E.1 E.2.1 E.2.2.2.2 hP (cSt w k) 0 (at_st rfl hw hk) rfl rfl hdg kk
theorem l_tm (E : EE Z p s m args c cc own) (hP : va_P (gD Z) vwCl (bw Z V) H) (hw : w < 2) (hk : k < 8) (hdg : decode cc pc = .ok (.arraylength, 1))
    (kk : W p l e R s m args below meth c H locs cells slots Q (F0 m (pc + 1) ls (.int 8 :: rest))) : W p l e R s m args below meth c H locs cells slots Q (F0 m pc ls (.ref (ad Z (cTm w k)) :: rest)) :=
  va_alen E.1 E.2.1 E.2.2.2.2 hP (cTm w k) 0 (at_tm rfl hw hk) rfl rfl hdg kk
theorem l_wf (E : EE Z p s m args c cc own) (hP : va_P (gD Z) vwCl (bw Z V) H) (hw : w < 2) (hk : k < 8) (hdg : decode cc pc = .ok (.arraylength, 1))
    (kk : W p l e R s m args below meth c H locs cells slots Q (F0 m (pc + 1) ls (.int 8 :: rest))) : W p l e R s m args below meth c H locs cells slots Q (F0 m pc ls (.ref (ad Z (cWf w k)) :: rest)) :=
  va_alen E.1 E.2.1 E.2.2.2.2 hP (cWf w k) 0 (at_wf rfl hw hk) rfl rfl hdg kk
end ROWS
