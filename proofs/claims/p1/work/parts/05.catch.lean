/-- words that look at the cell of a class's statics -/
def xt_isS : Cond → Bool
  | .laysStatic .. => true
  | .isRef (.static ..) => true
  | _ => false
theorem xt_found {V s : State} (hvm : V.vm = s.vm) (C n d : String) : V.fieldFound? C n d = s.fieldFound? C n d := by
  unfold State.fieldFound?
  rw [hvm]
theorem xt_heap {A A' : Array Value} {s V : State} (hvm : V.vm = s.vm) (hH : ∀ q : Nat, q < s.heap.size → V.heap[q]? = s.heap[q]?) {a : Cond} (hc : xt_isS a = true) (h : a.before A s = true) : a.before A' V = true := by
  cases a with
  | laysStatic C n d =>
    obtain ⟨c, k, i, f, x, cell, h1, h2, h3, h4, h5, h6, h7, h8, h9⟩ := Cond.laysStatic_spec h
    have e5 : V.heap[x]? = some cell := by rw [hH x (Array.getElem?_eq_some_iff.mp h5).1]; exact h5
    have e1 : V.vm.findClass C = some c := by rw [hvm]; exact h1
    have e2 : V.fieldFound? C n d = some (c, k, i, f) := by rw [xt_found hvm]; exact h2
    simp [Cond.before, Cond.holds, Cond.value, e1, e2, h3, h4, e5, h6, h7, h8, h9]
  | isRef t =>
    cases t with
    | static C n d =>
      simp only [Cond.before, Cond.holds, Cond.value, Term.eval, State.fieldNamed?] at h ⊢
      rw [xt_found hvm]
      cases hf : s.fieldFound? C n d with
      | none => simp [hf] at h
      | some x =>
        obtain ⟨c, k, i, f⟩ := x
        cases hk : k.statics with
        | none => cases hfs : f.isStatic <;> simp [hf, hk, hfs] at h
        | some y =>
          cases hy : s.heap[y]? with
          | none => cases hfs : f.isStatic <;> simp [hf, hk, hy, hfs] at h
          | some cell =>
            have e5 : V.heap[y]? = some cell := by rw [hH y (Array.getElem?_eq_some_iff.mp hy).1]; exact hy
            cases hfs : f.isStatic with
            | false => simp [hf, hfs] at h
            | true =>
              simp [hf, hk, hy, e5, hfs] at h ⊢
              exact h
    | _ => cases hc
  | _ => cases hc
theorem xt_face {a : Cond} (hc : xt_isS a = true) : a.keepsFace = true := by
  cases a with
  | laysStatic C n d => rfl
  | isRef t =>
    cases t with
    | static C n d => rfl
    | _ => cases hc
  | _ => cases hc
/-- a word of an exception's class stays true while no old cell changes -/
theorem xt_move {A A' : Array Value} {s U : State} (hW : s.WarmedH U.vm) (hH : ∀ q : Nat, q < s.heap.size → U.heap[q]? = s.heap[q]?) {a : Cond} (hc : ((a.onTables && a.keepsFace) || xt_isS a) = true) (h : a.before A s = true) : a.before A' U = true := by
  rcases Bool.or_eq_true_iff.mp hc with h1 | h1
  · simp only [Bool.and_eq_true] at h1
    have h2 : a.before A (s.setVm U.vm) = true := Cond.before_shiftedFace (State.Shifted.of_warmed hW) a h1.2 h
    rw [Cond.onTables_vm (A' := A') (U' := U) U.vm a h1.1, State.setVm_self] at h2
    exact h2
  · have h2 : a.before A (s.setVm U.vm) = true := Cond.before_shiftedFace (State.Shifted.of_warmed hW) a (xt_face h1) h
    exact xt_heap (s := s.setVm U.vm) (V := U) rfl hH h1 h2
def xt_S (L : List Cond) (U : State) : Prop := ∀ a ∈ L, ∀ v : Array Value, a.before v U = true
theorem xt_S.move {L : List Cond} (hL : L.all (fun a => (a.onTables && a.keepsFace) || xt_isS a) = true) {s U : State} (hW : s.WarmedH U.vm) (hH : ∀ q : Nat, q < s.heap.size → U.heap[q]? = s.heap[q]?) (h : xt_S L s) : xt_S L U :=
  fun a ha v => xt_move hW hH (List.all_eq_true.mp hL a ha) (h a ha #[])
section XC
variable {e : Env} {s : State} {f : JFrame} {a : Addr}
theorem xc_go {Q : Handler → Pre} {E : CtlPost} {d : Bool} {acts : List Action} {x : ExceptionTableEntry} {t : List ExceptionTableEntry} {c : ClassId} {cell : Cell} {vm' : Vm} (hx : covers x f.pc = true) (h0 : x.catchType ≠ 0) (hg : (Jvm.resolveClass f.method.cls x.catchType).Gives e.toSetting s.vm (.ok c) vm')
    (hsz : vm'.classes.size ≤ s.vm.classes.size) (hcell : s.heap[a]? = some cell) (hobj : ∀ k, cell.vm ≠ .statics k) (hk : ∃ k, vm'.classes[cell.cls]? = some k) (hc : ∃ k, vm'.classes[c]? = some k) (hfit : vm'.assignable cell.cls c = true) :
    wp (findHandler.go f a (x :: t)) Q E e d acts s ↔ Q (.found x.handlerPc) d acts (s.setVm vm') := by
  simp only [covers] at hx
  obtain ⟨ha, ht⟩ := hg.op (op := VmOp.resolveClass f.method.cls x.catchType) rfl
  simp [findHandler.go, hx, h0, ha, ht, hsz, hcell, hobj, hk, hc, hfit, VmOp.dirties, VmOp.acts]
theorem xc_step {s' : State} {r : List Frame} {pc : Nat} (hfind : ∀ (Q : Handler → Pre) (E : CtlPost) (d : Bool) (acts : List Action), wp (findHandler f a) Q E e d acts s ↔ Q (.found pc) d acts s') :
    (stepThrowing e s a (.java f :: r)).Is (s'.setFrames (.java { f with pc := pc, stack := [.ref a] } :: r)) [] := by
  simp only [stepThrowing, searchFrame, vmDo]
  generalize hr : Sem.go _ e false [] s = res
  obtain ⟨as, rfl, ha⟩ := Sem.eq_ok_of hr (a := Handler.found pc) (s' := s') (acts' := []) (by simp [hfind _ _ _ _])
  exact ⟨rfl, ha⟩
theorem xc_caught {tb : Tables} {target : State} {g : JFrame} {c : Code} {below : List Frame} {vm' : Vm} (h : At s g.method c below) {pc : Nat}
    (hfind : ∀ (Q : Handler → Pre) (E : CtlPost) (d : Bool) (acts : List Action), wp (findHandler g a) Q E e d acts ((s.setTop g).pushFrame (.throwing a)) ↔ Q (.found pc) d acts (((s.setTop g).pushFrame (.throwing a)).setVm vm'))
    (hrest : Steps tb e below ((s.setVm vm').setTop { g with pc := pc, stack := [.ref a] }) target) : Steps tb e below ((s.setTop g).pushFrame (.throwing a)) target := by
  obtain ⟨hgo, hw⟩ := h.throwing a
  refine Steps.head hgo hw ?_
  rw [stepThread_throwing (frames_entered h.top _), (xc_step (s := (s.setTop g).pushFrame (.throwing a)) hfind).1]
  obtain ⟨g₀, hg⟩ := Option.isSome_iff_exists.mp h.top
  obtain ⟨r, hr⟩ := State.topJava?_eq_some.mp hg
  have hr' : (s.setVm vm').frames = .java g₀ :: r := hr
  show Steps tb e below ((((s.setVm vm').setTop g).pushFrame (.throwing a)).setFrames (.java { g with pc := pc, stack := [.ref a] } :: s.frames.tail)) target
  rw [State.pushFrame, State.setFrames_setFrames, State.setTop_of_frames _ hr', State.setFrames_setFrames]
  rw [State.setTop_of_frames _ hr'] at hrest
  rw [hr]
  exact hrest
end XC
section XK
variable {p : Program} {l : Launch} {e : Env} {R : Room} {s : State} {m : MethodId} {args : Array Value} {below : List Frame} {meth : Method} {c : Code} {T : State} {H : Heap} {locs : List Loc} {cells slots : Nat} {Q : State → Prop}
variable {y : MethodName} {ws : List Cond} {rm : Room} {Pc : Array Value → State → Prop} {Qf : Array Value → State → Outcome → State → Prop}
theorem xk_call (X : Stand p l e R s m args below meth c T locs cells slots) (hM : MetFree l y (headSpec ws rm) Pc (fun _ _ _ _ _ => True) Qf) {g : JFrame} (hg : g.method = m) (hsize : g.locals.size = c.maxLocals) {ig : Instr} {len : Nat} (hdg : decode c.code g.pc = .ok (ig, len))
    {mk : MethodId} {methY : Method} {cY : Code} (hn : T.methodNamed? y = some mk) (hmY : T.vm.method? mk = some methY) (hcY : methY.code = some cY) {av a0 : Array Value} (hini : (Cond.initialized y.cls).before a0 T = true) (hws : ∀ w ∈ ws, w.before av T = true) (hP : Pc av (T.calling g mk av))
    (hframes : rm.frames + 1 ≤ R.frames) (hlocals : 2 * g.monitorRoom + (g.stack.map fun v => v.category).sum + (cY.maxLocals + 11) + rm.locals ≤ R.locals) (hcells : cells + rm.cells ≤ R.cells) (hslots : slots + rm.slots ≤ R.slots) :
    ∃ o t, Steps p.tables e below (doInvoke e (T.setTop g) [] mk av).1 t ∧ Ended t (.java g :: below) o ∧ Qf av (T.calling g mk av) o t := by
  obtain ⟨kY, hkY, -⟩ := className_of_methodNamed hn
  have hinitY : kY.init = .initialized := Cond.initialized_spec (findClass_of_methodNamed hn) hkY hini
  have h : At T g.method c below := by rw [hg]; exact X.here
  have happ : (headSpec ws rm).appliesLoose y e.platform (T.calling g mk av) = true :=
    Spec.appliesLoose_calling (g := g) h hdg hn hkY hinitY (X.room_calling (g := g) (R' := (headSpec ws rm).room) hsize hmY hcY hframes hlocals hcells hslots) (atoms_intro hws)
  have hfr : (T.setTop g).frames = [.java g] ++ below := by rw [State.frames_setTop' g h.top, X.tail]; rfl
  obtain ⟨o, t, h1, -, h2, h3⟩ := Steps.callFree hM p X.admits X.cas X.clock (acts := []) hfr happ hP trivial
  rw [hfr] at h2
  exact ⟨o, t, h1, h2, h3⟩
variable {cc bytes : ByteArray} {maxL index pc mc ms : Nat} {ret : Option FieldType} {own C X : String} {ls : Array Slot} {As rest : List Value} {A : Nat → Prop}
/-- a call that throws an X into the first handler of this method, which takes an X -/
theorem xw_catch (hexec : p.tables.exec = Jvm.exec) (hb : c.code = cc) (hsz : ls.size = c.maxLocals) (hown : s.vm.findClass own = some m.cls) (hlink : (Cond.methodLink own index y).before args s = true) (hinst : (Cond.instanceMethod y).before args s = true) (hsel : (Cond.selects C y y).before args s = true)
    (hcode : (Cond.code y bytes maxL ret).before args s = true) (hini : (Cond.initialized y.cls).before args s = true) (hy : y.cls ≠ "java/lang/invoke/MethodHandle" ∧ y.cls ≠ "java/lang/invoke/VarHandle")
    (hM : MetFree l y (headSpec ws rm) Pc (fun _ _ _ _ _ => True) (xt_Q A X mc ms)) (hws : ∀ w ∈ ws, ∀ (a' : Array Value) (U : State), s.WarmedH U.vm → w.before a' U = true) (hblind : FrameBlind Pc) (hrc : rm.cells = mc) (hrs : rm.slots = ms)
    (hR : rm.frames + 1 ≤ R.frames ∧ 8 + (maxL + 11) + rm.locals ≤ R.locals) {b : Addr} {st : List Value} (hst : st = As.reverse ++ .ref b :: rest) {cellB : Cell} (hcell : H[b]? = some cellB) (hobj : cellB.vm.isStatics = false) (hcls : s.vm.findClass C = some cellB.cls)
    (hlen : ∀ sig, parseMethodDescriptor y.desc = some sig → As.length = sig.parameters.length) (hW : (rest.map fun v => v.category).sum ≤ 8) (hdg : decode cc pc = .ok (.invokevirtual index, 3))
    (hpre : ∀ U : State, U.heap = H → s.WarmedH U.vm → Pc (Value.ref b :: As).toArray U) (hcells : cells + mc ≤ R.cells) (hslots : slots + ms ≤ R.slots)
    {x : ExceptionTableEntry} {xs : List ExceptionTableEntry} (htab : c.exceptionTable.toList = x :: xs) (hcov : covers x pc = true) (h0 : x.catchType ≠ 0) (hclink : (Cond.classLink own x.catchType X).before args s = true) (hX : (Cond.castable X X).before args s = true)
    (kk : ∀ (q : Nat) (H1 : Heap) (L : List Loc), H.size ≤ H1.size → (∀ z : Nat, z < H.size → ¬ A z → H1[z]? = H[z]?) → (∀ z ∈ L, A z.base) → W p l e R s m args below meth c H1 (locs ++ L) (cells + mc) (slots + ms) Q (F0 m x.handlerPc ls [.ref q])) :
    W p l e R s m args below meth c H locs cells slots Q (F0 m pc ls st) := by
  subst hst
  intro T hT X0
  obtain ⟨mk, methM, hnamed, hmethM, hstM, habM⟩ := Cond.instanceMethod_spec hinst
  obtain ⟨methM', cM, hmethM', hcM, -, hlM, -, -, -, hsigM⟩ := Cond.code_spec hnamed hcode
  cases hmethM.symm.trans hmethM'
  obtain ⟨c2, r2, m2, q1, q2, q3, q4, kP, hkP, hkPi⟩ := Cond.selects_spec hsel
  cases hcls.symm.trans q1
  cases (State.methodFound?_of_named hnamed hy).symm.trans q2
  cases hnamed.symm.trans q3
  have hselP : selectMethod e.platform s.vm cellB.cls mk = .method mk := by rw [Launch.admits_selectMethod X0.admits]; exact q4
  subst hb
  obtain ⟨vm₁, X₁, hstep₁⟩ := X0.invokevirtual hexec hown hlink hnamed hmethM hstM hkP hkPi hy (a := b) (cell := cellB) (by rw [hT]; exact hcell)
    (fun z h => by rw [h] at hobj; cases hobj) hselP hmethM habM hkP hkPi (g := F0 m pc ls (As.reverse ++ .ref b :: rest)) rfl (argsL := As) (rest := rest) (hlen _ hsigM) rfl hdg
  have hWU : s.WarmedH (T.setVm vm₁).vm := X₁.warmed
  obtain ⟨o, t, hsteps, hend, x0, ce, rfl, hce, hvm0, hfc, hz, hkeep, hwm, L, hsame, hL⟩ := xk_call X₁ hM (g := F0 m pc ls rest) rfl hsz (ig := .invokevirtual index) (len := 3) hdg (mk := mk) (methY := methM) (cY := cM) (X₁.named hnamed)
    (by rw [hWU.alike.method?]; exact hmethM) hcM (av := (Value.ref b :: As).toArray) (a0 := args) (word_at hWU (Or.inl rfl) hini) (fun w hw => hws w hw _ _ hWU) (hblind _ _ _ _ (hpre (T.setVm vm₁) hT hWU))
    hR.1 (by rw [hlM]; have h2 := hR.2; have h3 : ((F0 m pc ls rest).stack.map fun v => v.category).sum ≤ 8 := hW; show 2 * 0 + _ + _ + _ ≤ _; omega) (by rw [hrc]; exact hcells) (by rw [hrs]; exact hslots)
  obtain ⟨T', X', hW', -, ht⟩ := X₁.outOfThrown (g := F0 m pc ls rest) rfl hend hwm hsame
  have hpl : e.platform.magicAccessors = ({} : Platform).magicAccessors := by rw [X0.admits.platform]
  obtain ⟨cX, hfcX, hcl⟩ := Cond.classLink_spec hown hclink e.platform hpl
  obtain ⟨hg₁, hwarm₁, -⟩ := State.classEntry (e := e) X'.warmed hcl
  have hth : t.heap = T'.heap := by rw [ht]; exact Stand.throwing_heap _ _ _
  have htv : ((T'.setTop (F0 m pc ls rest)).pushFrame (.throwing x0)).vm = T'.vm := Stand.throwing_vm _ _ _
  have hcX : ce.cls = cX := by
    have h1 : s.vm.findClass X = some ce.cls := by
      have h2 : (T.setVm vm₁).vm.findClass X = some ce.cls := hfc
      rw [← hWU.alike.findClass]; exact h2
    exact Option.some.inj (h1.symm.trans hfcX)
  obtain ⟨c3, c4, hc3, hc4, hasg⟩ := Cond.castable_spec hX
  cases Option.some.inj (hc3.symm.trans hfcX)
  cases Option.some.inj (hc4.symm.trans hfcX)
  obtain ⟨kX, hkX⟩ := Vm.classAt_of_findClass hfcX
  generalize hvm2 : T'.vm.noted m.cls x.catchType (.cls cX) = vm₂ at hg₁ hwarm₁
  have hsz2 : vm₂.classes.size ≤ T'.vm.classes.size := by rw [← hvm2]; no_record
  obtain ⟨k₂, hk₂, -⟩ := hwarm₁.alike.2.2 _ _ hkX
  have X₂ := X'.noted hwarm₁
  obtain ⟨tt, a1, b1⟩ := kk x0 T'.heap L (by rw [← hth, ← hT]; exact hz) (fun z h1 h2 => by rw [← hth, ← hT]; exact hkeep z (by rw [← hT] at h1; exact h1) h2) hL (T'.setVm vm₂) rfl X₂
  refine ⟨tt, hstep₁ _ (fun acts => ?_), b1⟩
  rw [doInvoke_state]
  refine hsteps.trans ?_
  rw [ht]
  refine xc_caught (vm' := vm₂) X'.here (fun Q E d acts => ?_) a1
  rw [W.findHandler_eq (meth := meth) (code := c) (by rw [htv]; exact X'.method') X'.code, htab]
  refine xc_go (c := cX) (cell := ce) hcov h0 (by rw [htv]; exact hg₁) (by rw [htv]; exact hsz2) (by rw [← ht]; exact hce) (fun k h => by rw [hvm0] at h; cases h) ⟨k₂, by rw [hcX]; exact hk₂⟩ ⟨k₂, hk₂⟩ ?_
  rw [hwarm₁.alike.assignable, hcX]
  exact hasg
/-- a call of a static method with handlers, by its contract -/
theorem xw_runS (hexec : p.tables.exec = Jvm.exec) (hb : c.code = cc) (hown : s.vm.findClass own = some m.cls) {Qc : Array Value → State → Outcome → State → Prop} {free : Addr → Prop} {hs : List (Nat × Nat × Nat × Nat)} {g : JFrame} (hM : Met l y ws rm Pc Qc mc ms free) (hcode : (Cond.codeWith y bytes maxL ret hs).before args s = true)
    (hlink : (Cond.methodLink own index y).before args s = true) (hstt : (Cond.static y).before args s = true) (hini : (Cond.initialized y.cls).before args s = true) (hy : y.cls ≠ "java/lang/invoke/MethodHandle" ∧ y.cls ≠ "java/lang/invoke/VarHandle")
    (hws : ∀ w ∈ ws, ∀ (a' : Array Value) (U : State), s.WarmedH U.vm → w.before a' U = true) (hblind : FrameBlind Pc) (hrc : rm.cells = mc) (hrs : rm.slots = ms) (hR : rm.frames + 1 ≤ R.frames ∧ 8 + (maxL + 11) + rm.locals ≤ R.locals)
    (hlen : ∀ sig, parseMethodDescriptor y.desc = some sig → As.length = sig.parameters.length) (hg : g.method = m) (hsz : g.locals.size = c.maxLocals) (hstack : g.stack = As.reverse ++ rest) (hW : 2 * g.monitorRoom + (rest.map fun v => v.category).sum ≤ 8) (hdg : decode cc g.pc = .ok (.invokestatic index, 3))
    (hpre : ∀ U : State, U.heap = H → s.WarmedH U.vm → Pc As.toArray U) (hcells : cells + mc ≤ R.cells) (hslots : slots + ms ≤ R.slots) :
    va_Run p l e R s m args below meth c H locs cells slots mc ms g rest (Qc As.toArray) free := by
  intro T hT X0
  obtain ⟨mk, methM, cM, hnamed, hmethM, hcM, -, hlM, -, -, -, hsigM⟩ := Cond.codeWith_spec hcode
  have hstatic : methM.isStatic = true := Cond.static_spec hnamed hmethM hstt
  obtain ⟨kP, hkP, -⟩ := className_of_methodNamed hnamed
  have hinitP : kP.init = .initialized := Cond.initialized_spec (findClass_of_methodNamed hnamed) hkP hini
  subst hb
  obtain ⟨vm₁, X₁, hstep₁⟩ := X0.invokestatic hexec hown hlink hnamed hmethM hstatic hkP hinitP hy (g := g) hg (argsL := As) (rest := rest) (hlen _ hsigM) hstack hdg
  have hWU : s.WarmedH (T.setVm vm₁).vm := X₁.warmed
  obtain ⟨o, t, hsteps, hend, hq, L, ⟨⟨v, rfl⟩, hwm, hsame⟩, hL⟩ := xk_call X₁ hM (g := { g with stack := rest }) hg hsz (ig := .invokestatic index) (len := 3) hdg (mk := mk) (methY := methM) (cY := cM) (X₁.named hnamed)
    (by rw [hWU.alike.method?]; exact hmethM) hcM (av := As.toArray) (a0 := args) (word_at hWU (Or.inl rfl) hini) (fun w hw => hws w hw _ _ hWU) (hblind _ _ _ _ (hpre (T.setVm vm₁) hT hWU))
    hR.1 (by rw [hlM]; have h2 := hR.2; have h3 : 2 * g.monitorRoom + (rest.map fun v => v.category).sum ≤ 8 := hW; show 2 * g.monitorRoom + (rest.map fun v => v.category).sum + _ + _ ≤ _; omega) (by rw [hrc]; exact hcells) (by rw [hrs]; exact hslots)
  obtain ⟨T', X', hW', -, ht⟩ := X₁.outOf (g := { g with stack := rest }) hg (ig := .invokestatic index) (len := 3) hdg hend hwm hsame
  refine ⟨v, (T.setVm vm₁).calling { g with stack := rest } mk As.toArray, t, T', L, hT, X', hL, ?_, ?_, hq, fun target h => hstep₁ _ (fun acts => ?_)⟩
  · rw [ht]; rfl
  · rw [ht]; rfl
  · rw [doInvoke_state]
    refine hsteps.trans ?_
    rw [ht]
    exact h
end XK
theorem xt_ofWith {l : Launch} {y : MethodName} {ws ws' : List Cond} {rm : Room} {Pc : Array Value → State → Prop} {Qc : Array Value → State → Outcome → State → Prop} {mc ms : Nat} {free : Addr → Prop} {cc : ByteArray} {maxL : Nat} {ret : Option FieldType} {hs : List (Nat × Nat × Nat × Nat)}
    (hy : plainName y.cls = true) (hw : ws = Cond.codeWith y cc maxL ret hs :: ws')
    (body : ∀ p e s m args below meth c s₁, BodyLoose p l y (headSpec ws rm) cc maxL ret e s m args below meth c s₁ → c.maxLocals = maxL → c.exceptionTable.toList.map (fun h => (h.startPc, h.endPc, h.handlerPc, h.catchType)) = hs → Pc args s →
      W p l e (headSpec ws rm).room s m args below meth c s.heap [] 0 0 (MQ below Qc args s mc ms free) (entryFrame m args maxL)) : Met l y ws rm Pc Qc mc ms free := by
  refine MetFree.of_bodyS (code := cc) (maxLocals := maxL) (ret := ret) hy ?_ ?_
  · intro args s m h hn
    obtain ⟨m', meth, c, h0, h1, h2, h3, h4, -, h5, h6, -⟩ := Cond.codeWith_spec (atoms_spec (ws := ws) h _ (by rw [hw]; exact List.mem_cons_self))
    cases hn.symm.trans h0
    exact ⟨meth, c, h1, h2, h3, h4, h5, h6⟩
  · intro p e s m args below meth c s₁ B hml hP _
    have hh0 : s₁.heap = s.heap := by rw [B.state]; rfl
    have htab : c.exceptionTable.toList.map (fun h => (h.startPc, h.endPc, h.handlerPc, h.catchType)) = hs := by
      obtain ⟨m', meth', c', h0, h1, h2, -, -, h5, -⟩ := Cond.codeWith_spec (atoms_spec (ws := ws) B.pre _ (by rw [hw]; exact List.mem_cons_self))
      cases B.named.symm.trans h0
      cases B.method.symm.trans h1
      cases (Stand.of_body B).code.symm.trans h2
      exact h5
    obtain ⟨t, a1, o, b1, b2, b3⟩ := body p e s m args below meth c s₁ B hml htab hP s₁ hh0 (Stand.of_body B)
    exact ⟨t, o, a1, b1, b2, ⟨b3.1, b3.2⟩⟩
