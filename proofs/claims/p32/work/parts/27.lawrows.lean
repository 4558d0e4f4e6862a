/-! THE CLAIM OUT OF ONE WALK OF THE LAW'S BODY. Your part is whole_start (and what it stands on); all else here is the same for every law, but numbers. -/
def R_law : String := "SemaphoreBayLaw"
def lw_P (b : Addr) (xs : List Int32) (args : Array Value) (s : State) : Prop := args = #[.ref b] ∧ s.IntsAt b xs ∧ xs.length ≤ 260 ∧ (Jvm.Cond.and given_1 narrow_1).before args s = true
def lw_Q (_ : Array Value) (s : State) (o : Outcome) (t : State) : Prop := o = .returned (some (.int 1)) ∧ Framed s o t [] 630607 7209803
def lw_Z (below : List Frame) (a : Array Value) (s : State) : State → Prop := fun t => ∃ o, t.status = .running ∧ Ended t below o ∧ lw_Q a s o t
/-- the law's own end, with 1 on the stack, nothing written that was there before, its room as the claim has it -/
theorem lw_ret {p : Program} {l : Launch} {e : Env} {s : State} {m : MethodId} {below : List Frame} {meth : Method} {c : Code} {b : Nat} (hx : p.tables.exec = Jvm.exec) (hb : c.code = code) (hr : meth.sig.returnType = ret) (hlocks : meth.locks = false) {pc : Nat} {H : Heap} {ls : Array Slot} (hdg : decode code pc = .ok (.ireturn, 1)) : W p l e room_1 s m #[Value.ref b] below meth c H [] 630607 7209803 (lw_Z below #[Value.ref b] s) (F0 m pc ls [.int 1]) := by
  intro T hT X
  obtain ⟨fs, hret, hrun, hended, hW, hframe⟩ := X.leave (v := some (.int 1)) (hlocks := hlocks) (fun h => by rw [hr] at h; cases h)
  have hmeth' : T.vm.method? m = some meth := X.method'
  refine ⟨T.setFrames fs, ?_, .returned (some (.int 1)), hrun, hended, rfl, ⟨_, rfl⟩, hW, hframe⟩
  jvm_step X.here [X.here.top, hx, hb, hdg, hmeth', hr, ret, narrow_b1]
  (try refine ⟨rfl, ?_⟩); (try refine ⟨rfl, ?_⟩)
  first | (intro acts; rw [hret _ acts rfl rfl rfl]) | rw [hret _ _ rfl rfl rfl]
  exact Steps.refl _
/-- what holds at the law's entry: the machine, the code, the tables' words (any of lw_tbl by 'hts w (by decide +kernel)'), the script of L ints xs at the cell b, what the Statement gives of the start (any of its parts by flat_of_before) -/
def lw_At (p : Program) (s : State) (m : MethodId) (meth : Method) (c : Code) (b L : Nat) (xs : Nat → Int32) : Prop :=
  p.tables.exec = Jvm.exec ∧ c.code = code ∧ meth.sig.returnType = ret ∧ c.maxLocals = 22 ∧ s.vm.findClass R_law = some m.cls ∧ (∀ w ∈ lw_tbl, w.before #[Value.ref b] s = true) ∧ va_X b L xs s s.heap ∧ b < s.heap.size ∧ meth.locks = false ∧ (Jvm.Cond.and given_1 narrow_1).before #[Value.ref b] s = true
section LAWROWS
variable {p : Program} {l : Launch} {e : Env} {s : State} {m : MethodId} {b : Nat} {below : List Frame} {meth : Method} {c : Code} {H : Heap} {locs : List Loc} {cells slots : Nat} {Q : State → Prop} {pc : Nat} {ls : Array Slot} {rest st : List Value} {Z : Gm} {V V' : Nat → St} {S U : St} {L : Nat} {xs : Nat → Int32} {ex : va_W} {n i j k a : Nat} {v : Int32}
theorem bw_len (Z : Gm) (V : Nat → St) : (bw Z V).length = 171 := by simp [bw]
theorem bwx_get (q : Nat) : (bw Z V ++ ex)[171 + q]? = ex[q]? := by
  rw [List.getElem?_append_right (by rw [bw_len]; omega), bw_len, Nat.add_sub_cancel_left]
theorem bwx_set (q : Nat) (x : Nat × va_E) : (bw Z V ++ ex).set (171 + q) x = bw Z V ++ ex.set q x := by
  rw [List.set_append_right _ _ (by rw [bw_len]; omega), bw_len, Nat.add_sub_cancel_left]
theorem LH.size (X : LC Z p s m c b L xs) (h : LH Z V ex s H locs) : s.heap.size + 171 ≤ H.size := by
  have h1 := (va_P_init h.1 170 _ (bw_at (by decide))).lt
  have h2 : ad Z 170 = s.heap.size + 170 := X.2.2.2.2.2 170 (by decide)
  have h3 : ad Z 170 < H.size := h1
  omega
theorem LH.exlt (h : LH Z V ex s H locs) {x : Nat × va_E} (hx : ex[k]? = some x) : x.1 < H.size := (va_P_last' h.1 k x hx).lt
theorem LH.D (X : LC Z p s m c b L xs) (h : LH Z V ex s H locs) : va_D (fun q => s.heap.size ≤ q) (bw Z V ++ ex) := by
  have key : ∀ (i : Nat) (q : Nat × va_E), (bw Z V ++ ex)[i]? = some q → (i < 171 ∧ q.1 = s.heap.size + i) ∨ (171 ≤ i ∧ ex[i - 171]? = some q) := by
    intro i q hq
    by_cases hi : i < 171
    · rw [List.getElem?_append_left (by rw [bw_len]; exact hi), bw_at hi] at hq
      cases hq
      exact Or.inl ⟨hi, X.2.2.2.2.2 i hi⟩
    · rw [List.getElem?_append_right (by rw [bw_len]; omega), bw_len] at hq
      exact Or.inr ⟨by omega, hq⟩
  refine ⟨fun i j p q hp hq e => ?_, fun i q hq => ?_⟩
  · rcases key i p hp with ⟨i1, e1⟩ | ⟨i1, e1⟩
    · rcases key j q hq with ⟨j1, e2⟩ | ⟨j1, e2⟩
      · omega
      · have := h.2.2.1 _ q e2
        omega
    · rcases key j q hq with ⟨j1, e2⟩ | ⟨j1, e2⟩
      · have := h.2.2.1 _ p e1
        omega
      · have := h.2.2.2 _ _ p q e1 e2 e
        omega
  · rcases key i q hq with ⟨_, e1⟩ | ⟨_, e1⟩
    · show s.heap.size ≤ q.1
      omega
    · have := h.2.2.1 _ q e1
      show s.heap.size ≤ q.1
      omega
theorem L_ld (X : LC Z p s m c b L xs) (h : LH Z V ex s H locs) (q : Nat) {f : Nat → Int32} (hx : ex[q]? = some (a, .inl (Z.2.2.1, 5, .inl f))) (hi : i < 5) (hdg : decode cL_law pc = .ok (.iaload, 1))
    (kk : W p l e room_1 s m #[Value.ref b] below meth c H locs cells slots Q (F0 m (pc + 1) ls (.int (f i) :: rest))) : W p l e room_1 s m #[Value.ref b] below meth c H locs cells slots Q (F0 m pc ls (.int (nI i) :: .ref a :: rest)) := by
  refine va_iald X.1.1 X.1.2.1 X.1.2.2.2.2 h.1 (171 + q) 0 ((bwx_get q).trans hx) rfl (vp_in_nI hi (by decide)) hdg ?_
  rw [nI_clamp (by omega)]
  exact kk
theorem L_st (X : LC Z p s m c b L xs) (h : LH Z V ex s H locs) (q : Nat) {f : Nat → Int32} (hx : ex[q]? = some (a, .inl (Z.2.2.1, 5, .inl f))) (hi : i < 5) (hdg : decode cL_law pc = .ok (.iastore, 1))
    (kk : ∀ (H1 : Heap) (locs1 : List Loc), LH Z V (ex.set q (a, .inl (Z.2.2.1, 5, .inl (upd f i v)))) s H1 locs1 → W p l e room_1 s m #[Value.ref b] below meth c H1 locs1 cells slots Q (F0 m (pc + 1) ls rest)) : W p l e room_1 s m #[Value.ref b] below meth c H locs cells slots Q (F0 m pc ls (.int v :: .int (nI i) :: .ref a :: rest)) := by
  refine va_iast X.1.1 X.1.2.1 X.1.2.2.2.2 h.1 (h.D X) h.2.1 (171 + q) 0 ((bwx_get q).trans hx) rfl (vp_in_nI hi (by decide)) hdg (fun H1 locs1 hP hD hS => ?_)
  rw [bwx_set, nI_clamp (by omega)] at hP
  have hset : ∀ (k : Nat) (y : Nat × va_E), (ex.set q (a, .inl (Z.2.2.1, 5, .inl (upd f i v))))[k]? = some y → ∃ y', ex[k]? = some y' ∧ y'.1 = y.1 := fun k y hy => by
    rw [List.getElem?_set] at hy
    by_cases e : q = k
    · subst e
      rw [if_pos rfl] at hy
      split at hy
      · cases hy
        exact ⟨_, hx, rfl⟩
      · cases hy
    · rw [if_neg e] at hy
      exact ⟨y, hy, rfl⟩
  refine kk H1 locs1 ⟨hP, hS, fun k y hy => ?_, fun i j y z hy hz e => ?_⟩
  · obtain ⟨y', h1, h2⟩ := hset k y hy
    rw [← h2]
    exact h.2.2.1 k y' h1
  · obtain ⟨y', h1, h2⟩ := hset i y hy
    obtain ⟨z', h3, h4⟩ := hset j z hz
    exact h.2.2.2 i j y' z' h1 h3 (by rw [h2, h4, e])
theorem L_new (X : LC Z p s m c b L xs) (h : LH Z V ex s H locs) (hcells : cells + 1 ≤ 630607) (hslots : slots + 5 ≤ 7209803) (hdg : decode cL_law pc = .ok (.newarray .int, 2))
    (kk : ∀ (H1 : Heap) (a : Nat), s.heap.size + 171 ≤ a → (∀ (k : Nat) (x : Nat × va_E), ex[k]? = some x → x.1 < a) → LH Z V (ex ++ [(a, .inl (Z.2.2.1, 5, .inl fun _ => 0))]) s H1 locs → W p l e room_1 s m #[Value.ref b] below meth c H1 locs (cells + 1) (slots + 5) Q (F0 m (pc + 2) ls (.ref a :: rest))) : W p l e room_1 s m #[Value.ref b] below meth c H locs cells slots Q (F0 m pc ls (.int 5 :: rest)) := by
  refine n_int (n := 5) X.1 h.1 h.2.1 gw_3 (by decide) rfl (by decide) hcells hslots hdg (h := H.size) rfl (fun H1 hz hP hS => ?_)
  rw [List.append_assoc] at hP
  have hlt : ∀ (k : Nat) (x : Nat × va_E), ex[k]? = some x → x.1 < H.size := fun k x hx => h.exlt hx
  have hcase : ∀ (k : Nat) (x : Nat × va_E), (ex ++ [(H.size, .inl (Z.2.2.1, 5, .inl fun _ => 0))])[k]? = some x → (k < ex.length ∧ ex[k]? = some x) ∨ (k = ex.length ∧ x.1 = H.size) := fun k x hx => by
    by_cases hk : k < ex.length
    · rw [List.getElem?_append_left hk] at hx
      exact Or.inl ⟨hk, hx⟩
    · rw [List.getElem?_append_right (by omega)] at hx
      have h0 : k - ex.length = 0 := by
        have := (List.getElem?_eq_some_iff.mp hx).1
        simp at this
        omega
      rw [h0] at hx
      cases hx
      exact Or.inr ⟨by omega, rfl⟩
  refine kk H1 H.size (h.size X) hlt ⟨hP, hS, fun k x hx => ?_, fun i j x y hx hy e => ?_⟩
  · rcases hcase k x hx with ⟨_, q⟩ | ⟨_, q⟩
    · exact h.2.2.1 k x q
    · rw [q]; exact h.size X
  · rcases hcase i x hx with ⟨i1, q⟩ | ⟨i1, q⟩
    · rcases hcase j y hy with ⟨j1, w⟩ | ⟨j1, w⟩
      · exact h.2.2.2 i j x y q w e
      · have := hlt i x q
        omega
    · rcases hcase j y hy with ⟨j1, w⟩ | ⟨j1, w⟩
      · have := hlt j y w
        omega
      · omega
/-- the last cells of its own are forgotten -/
theorem LH.drop {ey : va_W} (h : LH Z V (ex ++ ey) s H locs) : LH Z V ex s H locs := by
  obtain ⟨hP, hS, hx, hd⟩ := h
  have key : ∀ (k : Nat) (x : Nat × va_E), ex[k]? = some x → (ex ++ ey)[k]? = some x := fun k x hk => by
    rw [List.getElem?_append_left (List.getElem?_eq_some_iff.mp hk).1]
    exact hk
  rw [← List.append_assoc] at hP
  exact ⟨va_P_init hP, hS, fun k x hk => hx k x (key k x hk), fun i j x y hi hj => hd i j x y (key i x hi) (key j y hj)⟩
/-- the law's end -/
theorem L_end (X : LC Z p s m c b L xs) (h : LH Z V ex s H locs) (hr : meth.sig.returnType = ret) (hlk : meth.locks = false) (hc : cells ≤ 630607) (hs : slots ≤ 7209803) : W p l e room_1 s m #[Value.ref b] below meth c H locs cells slots (lw_Z below #[Value.ref b] s) (F0 m 1195 ls []) := by
  refine lv_iconst (v := 1) X.1.1 X.1.2.1 dL_law_1195 (by decide) ?_
  refine va_forget (fun q hq => h.2.1.2.2 q hq) ?_
  refine W.widen hc hs ?_
  exact lw_ret X.1.1 X.1.2.1 hr hlk dL_law_1196
end LAWROWS
