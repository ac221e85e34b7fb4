section XM
variable {p : Program} {l : Launch} {e : Env} {R : Room} {s : State} {m : MethodId} {args : Array Value} {below : List Frame} {meth : Method} {c : Code} {H : Heap} {locs : List Loc} {cells slots : Nat} {Q : State → Prop}
variable {cc : ByteArray} {pc : Nat} {ls : Array Slot} {rest : List Value} {D : va_G} {cl : List vw_C} {A : Nat → Prop} {ws : va_W} {H0 : Heap}
/-- one array is made, of a class that is known -/
theorem xm_one {E : CtlPost} {d : Bool} {acts : List Action} {u : State} {cI cE : ClassId} {kI : Class} {ft : FieldType} {len : Nat} {v0 : Value} {Qa : Addr → Pre} (h1 : u.vm.classes[cI]? = some kI) (h2 : kI.kind = .array cE ft) (h3 : len ≤ e.platform.arrayLengthLimit) (h4 : len * componentBytes ft ≤ e.platform.maxHeapBytes) (h5 : fits ft v0 = true) (h6 : v0.isDefault = true) (h7 : u.heap.size < e.platform.maxCells) (h8 : u.slotsUsed + len ≤ e.platform.maxSlots) (hq : Qa u.heap.size d acts (u.pushCell { cls := cI, slots := Array.replicate len v0, vm := .none })) : wp (Jvm.newArray cI len v0) Qa E e d acts u := by
  have hf : ∀ (i : Nat) (v : Value), (Array.replicate len v0)[i]? = some v → u.fitsSlot cI .none i v = true := by
    intro i v hv
    rw [Array.getElem?_replicate] at hv
    by_cases hi : i < len
    · rw [if_pos hi] at hv
      cases hv
      simp [State.fitsSlot, State.slotType?, h1, h2, h5]
    · rw [if_neg hi] at hv
      cases hv
  have hd : allocActs (Array.replicate len v0) u.heap.size acts = acts := by
    unfold allocActs
    rw [if_pos]
    rw [Array.all_replicate]
    split <;> simp [h6]
  have g3 : ¬ len > e.platform.arrayLengthLimit := by omega
  have g4 : ¬ len * componentBytes ft > e.platform.maxHeapBytes := by omega
  simp only [Jvm.newArray, Jvm.arrayFits, wp_bind', W.ask, W.ite, g3, if_false, wp_pure', W.theClass, h1, h2, g4, W.alloc, W.stop, Option.some.injEq, exists_eq_left', Array.size_replicate, hd]
  rw [if_neg (by omega)]
  exact ⟨h7, h8, hf, hq⟩
/-- rows of an array of arrays, one by one: whatever is kept by a new row and its place in the outer one holds at the end -/
theorem xm_two {E : CtlPost} {d : Bool} {acts : List Action} {u : State} {cO cI cE : ClassId} {kO kI : Class} {n k : Int32} (Inv : Nat → State → Prop) (h1 : u.vm.classes[cO]? = some kO) (h2 : kO.kind = .array cI (.array .int)) (hn : ¬ n < 0) (hk : ¬ k < 0)
    (h3 : n.toNatClampNeg ≤ e.platform.arrayLengthLimit) (h4 : n.toNatClampNeg * 4 ≤ e.platform.maxHeapBytes) (h5 : k.toNatClampNeg ≤ e.platform.arrayLengthLimit) (h6 : k.toNatClampNeg * 4 ≤ e.platform.maxHeapBytes) (h7 : u.heap.size < e.platform.maxCells) (h8 : u.slotsUsed + n.toNatClampNeg ≤ e.platform.maxSlots)
    (hI0 : Inv 0 (u.pushCell { cls := cO, slots := Array.replicate n.toNatClampNeg .null, vm := .none }))
    (hIs : ∀ (i : Nat) (w : State), i < n.toNatClampNeg → Inv i w → ∃ cell : Cell, w.heap[u.heap.size]? = some cell ∧ cell.vm = .none ∧ cell.cls = cO ∧ i < cell.slots.size ∧ w.vm.classes[cO]? = some kO ∧ w.vm.classes[cI]? = some kI ∧ kI.kind = .array cE .int ∧ w.heap.size < e.platform.maxCells ∧ w.slotsUsed + k.toNatClampNeg ≤ e.platform.maxSlots ∧ (w.pushCell { cls := cI, slots := Array.replicate k.toNatClampNeg (.int 0), vm := .none }).heap[u.heap.size]? = some cell ∧
      Inv (i + 1) ((w.pushCell { cls := cI, slots := Array.replicate k.toNatClampNeg (.int 0), vm := .none }).setCell u.heap.size (cell.setSlot i (.ref w.heap.size))))
    {Qa : Addr → Pre} (hq : ∀ (w : State) (d' : Bool) (acts' : List Action), Inv n.toNatClampNeg w → Qa u.heap.size d' acts' w) : wp (multianewarray.make cO [n, k]) Qa E e d acts u := by
  have hfind : ([k].find? (· < 0)) = none := by simp [hk]
  rw [multianewarray.make]
  simp only [wp_bind', W.ite, hn, if_false, wp_pure', W.theClass, h1, h2, Option.some.injEq, exists_eq_left']
  refine xm_one h1 h2 h3 h4 rfl rfl h7 h8 ?_
  simp only [hfind]
  rw [ite_self, wp_bind', Std.Legacy.Range.forIn_eq_forIn_range']
  have hsz : ([:n.toNatClampNeg] : Std.Legacy.Range).size = n.toNatClampNeg := by simp [Std.Legacy.Range.size]
  rw [hsz]
  show wp (forIn (List.range' 0 n.toNatClampNeg 1) PUnit.unit _) _ E e d acts _
  refine wp_forIn_inv (fun r w => ∃ i, i ≤ n.toNatClampNeg ∧ r = List.range' i (n.toNatClampNeg - i) ∧ Inv i w) _ _ ⟨0, Nat.zero_le _, rfl, hI0⟩ ?_ ?_
  · rintro x r w d' acts' Q' ⟨i, hi, hl, hw⟩ hnext
    have hlt : i < n.toNatClampNeg := by
      rcases Nat.lt_or_ge i n.toNatClampNeg with h | h
      · exact h
      · rw [show n.toNatClampNeg - i = 0 by omega] at hl; simp at hl
    rw [show n.toNatClampNeg - i = (n.toNatClampNeg - (i + 1)) + 1 by omega, List.range'_succ] at hl
    obtain ⟨rfl, hr⟩ := List.cons.inj hl
    obtain ⟨cell, c1, c2, c3, c4, c5, c6, c7, c8, c9, c10, c11⟩ := hIs x w hlt hw
    simp only [wp_bind']
    rw [multianewarray.make]
    simp only [wp_bind', W.ite, hk, if_false, wp_pure', W.theClass, c6, c7, Option.some.injEq, exists_eq_left']
    refine xm_one c6 c7 h5 h6 rfl rfl c8 c9 ?_
    simp only [wp_bind', W.writeLoc, wp_pure']
    refine ⟨cell, c10, by rw [c2]; simp, c4, ?_, hnext _ _ _ ⟨x + 1, hlt, hr, c11⟩⟩
    rw [c2, c3]
    simp [State.fitsSlot, State.slotType?, c5, h2, fits]
  · rintro w d' acts' ⟨i, hi, hl, hw⟩
    have hin : i = n.toNatClampNeg := by
      rcases Nat.lt_or_ge i n.toNatClampNeg with h | h
      · rw [show n.toNatClampNeg - i = (n.toNatClampNeg - (i + 1)) + 1 by omega, List.range'_succ] at hl; cases hl
      · omega
    subst hin
    simp only [wp_pure']
    exact hq _ _ _ hw
/-- the state when i rows stand -/
def xm_st (u : State) (cO cI : ClassId) (n k : Nat) : Nat → State
  | 0 => u.pushCell { cls := cO, slots := Array.replicate n .null, vm := .none }
  | i + 1 => ((xm_st u cO cI n k i).pushCell { cls := cI, slots := Array.replicate k (.int 0), vm := .none }).setCell u.heap.size ((((xm_st u cO cI n k i).heap[u.heap.size]?).getD { cls := cO, slots := #[], vm := .none }).setSlot i (.ref (xm_st u cO cI n k i).heap.size))
theorem xm_top (u : State) (f : JFrame) (cO cI : ClassId) (n k : Nat) : ∀ i, xm_st (u.setTop f) cO cI n k i = (xm_st u cO cI n k i).setTop f := by
  intro i
  induction i with
  | zero => rfl
  | succ i ih =>
    simp only [xm_st, ih]
    rfl
theorem xm_facts {T : State} (X : Stand p l e R s m args below meth c T locs cells slots) (cO cI : ClassId) (n k : Nat) : ∀ i, i ≤ n → (xm_st T cO cI n k i).heap.size = T.heap.size + 1 + i ∧ (xm_st T cO cI n k i).vm = T.vm ∧ (∀ q, q < T.heap.size → (xm_st T cO cI n k i).heap[q]? = T.heap[q]?) ∧ (∃ cell : Cell, (xm_st T cO cI n k i).heap[T.heap.size]? = some cell ∧ cell.cls = cO ∧ cell.vm = .none ∧ cell.slots.size = n) ∧
    ∃ L : List Loc, (∀ q ∈ L, T.heap.size ≤ q.base) ∧ Stand p l e R s m args below meth c (xm_st T cO cI n k i) (locs ++ L) (cells + (1 + i)) (slots + (n + i * k)) := by
  intro i
  induction i with
  | zero =>
    intro _
    have h := X.pushed { cls := cO, slots := Array.replicate n .null, vm := .none }
    refine ⟨by simp [xm_st, State.pushCell], rfl, fun q hq => ?_, ⟨{ cls := cO, slots := Array.replicate n .null, vm := .none }, by simp [xm_st, State.pushCell], rfl, rfl, by simp⟩, ⟨[], fun q hq => absurd hq List.not_mem_nil, ?_⟩⟩
    · simp [xm_st, State.pushCell, Array.getElem?_push, Nat.ne_of_lt hq]
    · rw [List.append_nil]
      simpa [xm_st] using h
  | succ i ih =>
    intro hi
    obtain ⟨f1, f2, f3, ⟨cell, f4, f5, f6, f7⟩, L, f8, f9⟩ := ih (by omega)
    have h := f9.pushed { cls := cI, slots := Array.replicate k (.int 0), vm := .none }
    have hc : ((xm_st T cO cI n k i).pushCell { cls := cI, slots := Array.replicate k (.int 0), vm := .none }).heap[T.heap.size]? = some cell := by
      rw [← f4]
      have : T.heap.size ≠ (xm_st T cO cI n k i).heap.size := by rw [f1]; omega
      simp [State.pushCell, Array.getElem?_push, this]
    have h2 := h.stored hc i (.ref (xm_st T cO cI n k i).heap.size)
    have e1 : xm_st T cO cI n k (i + 1) = ((xm_st T cO cI n k i).pushCell { cls := cI, slots := Array.replicate k (.int 0), vm := .none }).setCell T.heap.size (cell.setSlot i (.ref (xm_st T cO cI n k i).heap.size)) := by
      show State.setCell _ _ ((((xm_st T cO cI n k i).heap[T.heap.size]?).getD _).setSlot i _) = _
      rw [f4]; rfl
    have hlt : T.heap.size < ((xm_st T cO cI n k i).pushCell { cls := cI, slots := Array.replicate k (.int 0), vm := .none }).heap.size := by
      rw [size_pushCell, f1]; omega
    refine ⟨?_, ?_, fun q hq => ?_, ⟨cell.setSlot i (.ref (xm_st T cO cI n k i).heap.size), ?_, f5, f6, ?_⟩, L ++ [⟨T.heap.size, i⟩], ?_, ?_⟩
    · rw [e1, size_setCell, size_pushCell, f1]; omega
    · rw [e1]; exact f2
    · rw [e1]
      have g1 : T.heap.size ≠ q := by omega
      have g2 : q ≠ (xm_st T cO cI n k i).heap.size := by rw [f1]; omega
      rw [← f3 q hq]
      simp [State.setCell, State.pushCell, Array.getElem?_setIfInBounds, g1, Array.getElem?_push, g2]
    · rw [e1]
      exact Array.getElem?_setIfInBounds_self_of_lt hlt
    · rw [← f7]; simp [Cell.setSlot]
    · intro q hq
      rcases List.mem_append.mp hq with h9 | h9
      · exact f8 q h9
      · rw [List.mem_singleton] at h9; rw [h9]; exact Nat.le_refl _
    · rw [e1, ← List.append_assoc]
      have e2 : cells + (1 + (i + 1)) = cells + (1 + i) + 1 := by omega
      have e3 : slots + (n + (i + 1) * k) = slots + (n + i * k) + k := by rw [Nat.succ_mul]; omega
      rw [e2, e3]
      simpa using h2
/-- int[] and int[][] are known classes -/
def xm_K (U : State) : Prop := ∃ (cI cO cE : ClassId) (kO kI : Class), U.vm.findClass "[I" = some cI ∧ U.vm.findClass "[[I" = some cO ∧ U.vm.classes[cO]? = some kO ∧ kO.kind = .array cI (.array .int) ∧ U.vm.classes[cI]? = some kI ∧ kI.kind = .array cE .int
theorem xm_K.moved {u U : State} (hvm : u.vm.Alike U.vm) (h : xm_K u) : xm_K U := by
  obtain ⟨cI, cO, cE, kO, kI, h1, h2, h3, h4, h5, h6⟩ := h
  obtain ⟨kO', a1, a2⟩ := hvm.2.2 _ _ h3
  obtain ⟨kI', b1, b2⟩ := hvm.2.2 _ _ h5
  exact ⟨cI, cO, cE, kO', kI', by rw [hvm.findClass]; exact h1, by rw [hvm.findClass]; exact h2, a1, by rw [a2]; exact h4, b1, by rw [b2]; exact h6⟩
/-- multianewarray of two dimensions: what was there stays; of what is new nothing is told but its reference -/
theorem xw_multi (hexec : p.tables.exec = Jvm.exec) (hb : c.code = cc) {own : String} {index : Nat} (hown : s.vm.findClass own = some m.cls) (hcl : (Cond.classLink own index "[[I").before args s = true) (hZ : xm_K s) (hP : va_P D cl ws H) (hS : va_S A H0 H locs) (hA : ∀ q, H0.size ≤ q → A q)
    {n k : Nat} (hn : n ≤ 100000) (hk : k ≤ 1000) (hcells : cells + (1 + n) ≤ R.cells) (hslots : slots + (n + n * k) ≤ R.slots) (hdg : decode cc pc = .ok (.multianewarray index 2, 4))
    (kk : ∀ (q : Nat) (H1 : Heap) (locs1 : List Loc), va_P D cl ws H1 → va_S A H0 H1 locs1 → W p l e R s m args below meth c H1 locs1 (cells + (1 + n)) (slots + (n + n * k)) Q (F0 m (pc + 4) ls (.ref q :: rest))) : W p l e R s m args below meth c H locs cells slots Q (F0 m pc ls (.int (nI k) :: .int (nI n) :: rest)) := by
  intro T hT X
  subst hT; subst hb
  obtain ⟨cI, cO, cE, kO, kI, z1, z2, z3, z4, z5, z6⟩ := hZ
  have hpl : e.platform.magicAccessors = ({} : Platform).magicAccessors := by rw [X.admits.platform]
  obtain ⟨c0, hfc0, hc0⟩ := Cond.classLink_spec hown hcl e.platform hpl
  cases z2.symm.trans hfc0
  obtain ⟨hg1, hw1, hr1⟩ := State.classEntry (e := e) X.warmed hc0
  generalize T.vm.noted m.cls index (.cls cO) = vm1 at hg1 hw1 hr1
  obtain ⟨kO1, a1, a2⟩ := hw1.alike.2.2 _ _ z3
  obtain ⟨kI1, b1, b2⟩ := hw1.alike.2.2 _ _ z5
  have hkO : kO1.kind = .array cI (.array .int) := by rw [a2]; exact z4
  have hkI : kI1.kind = .array cE .int := by rw [b2]; exact z6
  have X1 := X.noted hw1
  have hN : (nI n).toNatClampNeg = n := nI_clamp (by omega)
  have hM : (nI k).toNatClampNeg = k := nI_clamp (by omega)
  obtain ⟨f1, f2, f3, -, L, f8, f9⟩ := xm_facts X1 cO cI n k n (Nat.le_refl n)
  obtain ⟨t, t1, t2⟩ := kk T.heap.size (xm_st (T.setVm vm1) cO cI n k n).heap (locs ++ L) (hP.kept (fun j x hx => f3 x.1 ((hP j x hx).lt))) ⟨Nat.le_trans hS.1 (by rw [f1]; show T.heap.size ≤ T.heap.size + 1 + n; omega), fun x h1 h2 => (f3 x (Nat.lt_of_lt_of_le h1 hS.1)).trans (hS.2.1 x h1 h2), fun q hq => (List.mem_append.mp hq).elim (hS.2.2 q) (fun h9 => hA _ (Nat.le_trans hS.1 (f8 q h9)))⟩ _ rfl f9
  refine ⟨t, ?_, t2⟩
  have hc1 := X.cellsAbove hcells
  have hs1 := X.slotsAbove hslots
  have l1 : e.platform.arrayLengthLimit = _ := Launch.admits_arrayLengthLimit X.admits
  have l2 : e.platform.maxHeapBytes = _ := Launch.admits_maxHeapBytes X.admits
  jvm_step X.here [hexec, hdg]
  have hg2 : (resolveClass (F0 m pc ls (.int (nI k) :: .int (nI n) :: rest)).method.cls index).Gives e.toSetting (T.setTop (F0 m pc ls (.int (nI k) :: .int (nI n) :: rest))).vm (Except.ok cO) vm1 := hg1
  simp only [multianewarray.sem, wp_bind', W.resolveClassAt_links (State.method?_setTop (F0 m pc ls (.int (nI k) :: .int (nI n) :: rest)) X.here.top) hg2]
  rw [W.popN, if_neg (by decide)]
  refine ⟨_, State.topJava?_setTop' (s := T.setVm vm1) _ X.here.top, [.int (nI n), .int (nI k)], rest, rfl, rfl, ?_⟩
  simp only [List.mapM_cons, List.mapM_nil, wp_bind', wp_pure']
  have eS : ((T.setTop (F0 m pc ls (.int (nI k) :: .int (nI n) :: rest))).setVm vm1).setTop (F0 m pc ls rest) = (T.setVm vm1).setTop (F0 m pc ls rest) := by
    show ((T.setVm vm1).setTop _).setTop _ = _
    rw [State.setTop_setTop]
  refine xm_two (cI := cI) (cE := cE) (kO := kO1) (kI := kI1) (fun i w => i ≤ n ∧ w = (xm_st (T.setVm vm1) cO cI n k i).setTop (F0 m pc ls rest)) a1 hkO (nI_pos (by omega)) (nI_pos (by omega)) (by rw [hN, l1]; omega) (by rw [hN, l2]; omega) (by rw [hM, l1]; omega) (by rw [hM, l2]; omega) (by show T.heap.size < _; omega) (by rw [hN]; show T.slotsUsed + n ≤ _; have := Nat.zero_le (n * k); omega) ⟨Nat.zero_le _, ?_⟩ ?_ ?_
  · rw [eS, hN]
    rfl
  · rintro i w hi ⟨hi1, rfl⟩
    rw [hN] at hi
    obtain ⟨g1, g2, g3, ⟨cell, g4, g5, g6, g7⟩, L', g8, g9⟩ := xm_facts X1 cO cI n k i hi1
    have hmul := Nat.mul_le_mul_right k (show i + 1 ≤ n from hi)
    rw [Nat.succ_mul] at hmul
    have hne : T.heap.size ≠ (xm_st (T.setVm vm1) cO cI n k i).heap.size := by rw [g1]; show T.heap.size ≠ T.heap.size + 1 + i; omega
    have hpush : ((xm_st (T.setVm vm1) cO cI n k i).pushCell { cls := cI, slots := Array.replicate k (.int 0), vm := .none }).heap[T.heap.size]? = some cell := by
      rw [← g4]
      show _ = (xm_st (T.setVm vm1) cO cI n k i).heap[T.heap.size]?
      simp [State.pushCell, Array.getElem?_push, hne]
    refine ⟨cell, g4, g6, g5, by rw [g7]; exact hi, ?_, ?_, hkI, ?_, ?_, ?_, hi, ?_⟩
    · show (xm_st (T.setVm vm1) cO cI n k i).vm.classes[cO]? = some kO1
      rw [g2]; exact a1
    · show (xm_st (T.setVm vm1) cO cI n k i).vm.classes[cI]? = some kI1
      rw [g2]; exact b1
    · show (xm_st (T.setVm vm1) cO cI n k i).heap.size < _
      rw [g1]; show T.heap.size + 1 + i < _; omega
    · rw [hM]
      exact g9.slotsAbove (by omega)
    · rw [hM]; exact hpush
    · rw [hM]
      have e1 : xm_st (T.setVm vm1) cO cI n k (i + 1) = ((xm_st (T.setVm vm1) cO cI n k i).pushCell { cls := cI, slots := Array.replicate k (.int 0), vm := .none }).setCell T.heap.size (cell.setSlot i (.ref (xm_st (T.setVm vm1) cO cI n k i).heap.size)) := by
        show State.setCell _ _ ((((xm_st (T.setVm vm1) cO cI n k i).heap[(T.setVm vm1).heap.size]?).getD _).setSlot i _) = _
        rw [g4]; rfl
      rw [e1]
      rfl
  · rintro w d' acts' ⟨-, rfl⟩
    rw [hN]
    simp only [wp_bind', W.mark, W.pushRef, State.topJava?_setTop' _ f9.here.top, Option.some.injEq, exists_eq_left', State.setTop_setTop, State.heap_setTop]
    intro acts
    simp [jvm, f9.here.top]
    exact t1
end XM
