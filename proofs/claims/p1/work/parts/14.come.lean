def b13 : ByteArray := ⟨#[0x2a, 0x2b, 0xb7, 0x00, 0x0d, 0xb1]⟩
def xtI : List Cond := xtA "AddressHouse" 110 "java/lang/IllegalStateException" 7 Bundle.six
def xtN : List Cond := xtA "AddressHouse" 193 "java/util/NoSuchElementException" 13 b13
theorem xtI_ok : xtI.all (fun a => (a.onTables && a.keepsFace) || xt_isS a) = true := by decide +kernel
theorem xtN_ok : xtN.all (fun a => (a.onTables && a.keepsFace) || xt_isS a) = true := by decide +kernel
theorem xk_none {c : Code} (h : c.exceptionTable.isEmpty = true) {pc : Nat} : ∀ x ∈ c.exceptionTable.toList, covers x pc = false := by
  intro x hx
  have h0 : c.exceptionTable.size = 0 := by simpa [Array.isEmpty] using h
  have h1 : c.exceptionTable.toList = [] := List.eq_nil_of_length_eq_zero (by simpa using h0)
  rw [h1] at hx
  cases hx
theorem xk_tab {L : List ExceptionTableEntry} {a b c d : Nat} (h : L.map (fun h => (h.startPc, h.endPc, h.handlerPc, h.catchType)) = [(a, b, c, d)]) : ∃ x, L = [x] ∧ x.startPc = a ∧ x.endPc = b ∧ x.handlerPc = c ∧ x.catchType = d := by
  cases L with
  | nil => simp at h
  | cons x t =>
    cases t with
    | nil =>
      simp at h
      exact ⟨x, rfl, h.1, h.2.1, h.2.2.1, h.2.2.2⟩
    | cons _ _ => simp at h
theorem xk_len {y : MethodName} {n : Nat} (h : (parseMethodDescriptor y.desc).map (fun d => d.parameters.length) = some n) : ∀ sig, parseMethodDescriptor y.desc = some sig → n = sig.parameters.length := fun sig h1 => by
  rw [h1] at h
  exact (Option.some.inj h).symm
theorem xk_nilP {D : va_G} {cl : List vw_C} {H : Heap} : va_P D cl [] H := fun k q h => by simp at h
theorem xk_nilD {A : Nat → Prop} : va_D A [] := ⟨fun i j p q h => by simp at h, fun k q h => by simp at h⟩
abbrev b_Law_come : ByteArray := method_3_code
def y_Law_come : MethodName := ⟨"AddressHouseLaw", "come", "(LAddressHouse;I[J)I"⟩
abbrev b_Law_outAt : ByteArray := method_4_code
def y_Law_outAt : MethodName := ⟨"AddressHouseLaw", "outAt", "(LAddressHouse;I[J)I"⟩
theorem d_Top_come_0 : decode b_Top_come 0 = .ok (.aload_n 0, 1) := by decide +kernel
theorem d_Top_come_1 : decode b_Top_come 1 = .ok (.iload_n 1, 1) := by decide +kernel
theorem d_Top_come_2 : decode b_Top_come 2 = .ok (.invokevirtual 102, 3) := by decide +kernel
theorem d_Top_come_5 : decode b_Top_come 5 = .ok (.ifCond .ne 13, 3) := by decide +kernel
theorem d_Top_come_8 : decode b_Top_come 8 = .ok (.new 106, 3) := by decide +kernel
theorem d_Top_come_11 : decode b_Top_come 11 = .ok (.dup, 1) := by decide +kernel
theorem d_Top_come_12 : decode b_Top_come 12 = .ok (.ldc 108, 2) := by decide +kernel
theorem d_Top_come_14 : decode b_Top_come 14 = .ok (.invokespecial 110, 3) := by decide +kernel
theorem d_Top_come_17 : decode b_Top_come 17 = .ok (.athrow, 1) := by decide +kernel
theorem d_Top_outAt_0 : decode b_Top_outAt 0 = .ok (.aload_n 0, 1) := by decide +kernel
theorem d_Top_outAt_1 : decode b_Top_outAt 1 = .ok (.getfield 19, 3) := by decide +kernel
theorem d_Top_outAt_4 : decode b_Top_outAt 4 = .ok (.iload_n 1, 1) := by decide +kernel
theorem d_Top_outAt_5 : decode b_Top_outAt 5 = .ok (.invokevirtual 113, 3) := by decide +kernel
theorem d_Top_outAt_8 : decode b_Top_outAt 8 = .ok (.istore_n 2, 1) := by decide +kernel
theorem d_Top_outAt_9 : decode b_Top_outAt 9 = .ok (.iload_n 2, 1) := by decide +kernel
theorem d_Top_outAt_10 : decode b_Top_outAt 10 = .ok (.iconst (-1), 1) := by decide +kernel
theorem d_Top_outAt_11 : decode b_Top_outAt 11 = .ok (.if_icmp .ne 13, 3) := by decide +kernel
theorem d_Top_outAt_14 : decode b_Top_outAt 14 = .ok (.new 189, 3) := by decide +kernel
theorem d_Top_outAt_17 : decode b_Top_outAt 17 = .ok (.dup, 1) := by decide +kernel
theorem d_Top_outAt_18 : decode b_Top_outAt 18 = .ok (.ldc 191, 2) := by decide +kernel
theorem d_Top_outAt_20 : decode b_Top_outAt 20 = .ok (.invokespecial 193, 3) := by decide +kernel
theorem d_Top_outAt_23 : decode b_Top_outAt 23 = .ok (.athrow, 1) := by decide +kernel
theorem d_Law_come_0 : decode b_Law_come 0 = .ok (.aload_n 2, 1) := by decide +kernel
theorem d_Law_come_1 : decode b_Law_come 1 = .ok (.iconst 0, 1) := by decide +kernel
theorem d_Law_come_2 : decode b_Law_come 2 = .ok (.aload_n 0, 1) := by decide +kernel
theorem d_Law_come_3 : decode b_Law_come 3 = .ok (.iload_n 1, 1) := by decide +kernel
theorem d_Law_come_4 : decode b_Law_come 4 = .ok (.invokevirtual 7, 3) := by decide +kernel
theorem d_Law_come_7 : decode b_Law_come 7 = .ok (.i2l, 1) := by decide +kernel
theorem d_Law_come_8 : decode b_Law_come 8 = .ok (.lastore, 1) := by decide +kernel
theorem d_Law_come_9 : decode b_Law_come 9 = .ok (.goto 6, 3) := by decide +kernel
theorem d_Law_come_12 : decode b_Law_come 12 = .ok (.astore_n 3, 1) := by decide +kernel
theorem d_Law_come_13 : decode b_Law_come 13 = .ok (.iconst 1, 1) := by decide +kernel
theorem d_Law_come_14 : decode b_Law_come 14 = .ok (.ireturn, 1) := by decide +kernel
theorem d_Law_come_15 : decode b_Law_come 15 = .ok (.iconst 0, 1) := by decide +kernel
theorem d_Law_come_16 : decode b_Law_come 16 = .ok (.ireturn, 1) := by decide +kernel
theorem d_Law_outAt_0 : decode b_Law_outAt 0 = .ok (.aload_n 2, 1) := by decide +kernel
theorem d_Law_outAt_1 : decode b_Law_outAt 1 = .ok (.iconst 0, 1) := by decide +kernel
theorem d_Law_outAt_2 : decode b_Law_outAt 2 = .ok (.aload_n 0, 1) := by decide +kernel
theorem d_Law_outAt_3 : decode b_Law_outAt 3 = .ok (.iload_n 1, 1) := by decide +kernel
theorem d_Law_outAt_4 : decode b_Law_outAt 4 = .ok (.invokevirtual 15, 3) := by decide +kernel
theorem d_Law_outAt_7 : decode b_Law_outAt 7 = .ok (.i2l, 1) := by decide +kernel
theorem d_Law_outAt_8 : decode b_Law_outAt 8 = .ok (.lastore, 1) := by decide +kernel
theorem d_Law_outAt_9 : decode b_Law_outAt 9 = .ok (.goto 6, 3) := by decide +kernel
theorem d_Law_outAt_12 : decode b_Law_outAt 12 = .ok (.astore_n 3, 1) := by decide +kernel
theorem d_Law_outAt_13 : decode b_Law_outAt 13 = .ok (.iconst 1, 1) := by decide +kernel
theorem d_Law_outAt_14 : decode b_Law_outAt 14 = .ok (.ireturn, 1) := by decide +kernel
theorem d_Law_outAt_15 : decode b_Law_outAt 15 = .ok (.iconst 0, 1) := by decide +kernel
theorem d_Law_outAt_16 : decode b_Law_outAt 16 = .ok (.ireturn, 1) := by decide +kernel
set_option maxHeartbeats 4000000 in
set_option maxRecDepth 100000 in
/-- come(c) on a new object throws -/
theorem c_Top_come (l : Launch) (hfl : l.flags = pinnedFlags ++ [noTraceFlag]) (dC : Nat → ClassId) (dI : Nat → Nat → Nat) (h0 sz qw k0 k1 k2 k3 : Nat) (cA : ClassId) (u0 u1 u2 u3 : Value) (v0 v1 v3 v4 v5 v6 v7 v8 : Value) (cj : Int32) : MetFree l y_Top_come (headSpec (Cond.code y_Top_come b_Top_come 8 (Option.some Jvm.ClassFile.FieldType.int) :: xw0) { frames := 6, cells := 1, slots := 6, locals := 110 }) (va_Pc [.ref h0, .int cj] (fun U => U.heap.size = sz ∧ va_P (dC, dI) classes [(h0, .inr (11, [v0, v1, .ref qw, v3, v4, v5, v6, v7, v8])), (qw, .inl (cA, 4, .inr (.inr (.inr (.inr (va_up (va_up (va_up (va_up (fun _ => none) 0 (some k0)) 1 (some k1)) 2 (some k2)) 3 (some k3))))))), (k0, .inr (1, [u0, u1, u2, u3, .int 0, .int 0, .int 0, .int 0, .int 0, .int 0, .int 0])), (k1, .inr (16, [.int 0])), (k2, .inr (16, [.int 0])), (k3, .inr (16, [.int 0]))] U.heap ∧ va_K (dC, dI) classes [(cA, .object R_Wire)] U ∧ va_D (fun _ => True) [(h0, .inr (11, [v0, v1, .ref qw, v3, v4, v5, v6, v7, v8])), (qw, .inl (cA, 4, .inr (.inr (.inr (.inr (va_up (va_up (va_up (va_up (fun _ => none) 0 (some k0)) 1 (some k1)) 2 (some k2)) 3 (some k3))))))), (k0, .inr (1, [u0, u1, u2, u3, .int 0, .int 0, .int 0, .int 0, .int 0, .int 0, .int 0])), (k1, .inr (16, [.int 0])), (k2, .inr (16, [.int 0])), (k3, .inr (16, [.int 0]))] ∧ xt_S xtI U ∧ ∃ q9 : Nat, vk_R "AddressHouse" 108 "the connection is not open" q9 U)) (fun _ _ _ _ _ => True) (xt_Q (va_A [(h0, .inr (11, [v0, v1, .ref qw, v3, v4, v5, v6, v7, v8])), (qw, .inl (cA, 4, .inr (.inr (.inr (.inr (va_up (va_up (va_up (va_up (fun _ => none) 0 (some k0)) 1 (some k1)) 2 (some k2)) 3 (some k3))))))), (k0, .inr (1, [u0, u1, u2, u3, .int 0, .int 0, .int 0, .int 0, .int 0, .int 0, .int 0])), (k1, .inr (16, [.int 0])), (k2, .inr (16, [.int 0])), (k3, .inr (16, [.int 0]))] sz) "java/lang/IllegalStateException" 1 6) := by
  refine xt_ofW (cc := b_Top_come) (maxL := 8) (ret := (Option.some Jvm.ClassFile.FieldType.int)) (by decide) rfl ?_
  intro p e s m args below meth c s₁ B hml hv
  obtain ⟨rfl, hsz, hP, hK, hD0, hE, q9, hR9⟩ := hv
  have hx := B.exec
  have hb := B.bytes
  have hr := B.returns
  have hts := atoms_spec (ws := Cond.code y_Top_come b_Top_come 8 (Option.some Jvm.ClassFile.FieldType.int) :: xw0) B.pre
  have ht : ∀ w ∈ xw0, w.before _ s = true := fun w h => hts w (List.mem_cons_of_mem _ h)
  have hown : s.vm.findClass R_Top = some m.cls := findClass_of_methodNamed B.named
  have hlocks := B.notSynchronized
  subst hsz
  have hD := hD0.self (sz := s.heap.size)
  generalize hAe : va_A [(h0, .inr (11, [v0, v1, .ref qw, v3, v4, v5, v6, v7, v8])), (qw, .inl (cA, 4, .inr (.inr (.inr (.inr (va_up (va_up (va_up (va_up (fun _ => none) 0 (some k0)) 1 (some k1)) 2 (some k2)) 3 (some k3))))))), (k0, .inr (1, [u0, u1, u2, u3, .int 0, .int 0, .int 0, .int 0, .int 0, .int 0, .int 0])), (k1, .inr (16, [.int 0])), (k2, .inr (16, [.int 0])), (k3, .inr (16, [.int 0]))] s.heap.size = A at hD ⊢
  have hA : ∀ q : Nat, s.heap.size ≤ q → A q := fun q h => by rw [← hAe]; exact Or.inr h
  have hS : va_S A s.heap s.heap [] := va_S.rf
  have hP : va_P (dC, dI) classes [(h0, .inr (11, [v0, v1, .ref qw, v3, v4, v5, v6, v7, v8])), (qw, .inl (cA, 4, .inr (.inr (.inr (.inr (va_up (va_up (va_up (va_up (fun _ => none) 0 (some k0)) 1 (some k1)) 2 (some k2)) 3 (some k3))))))), (k0, .inr (1, [u0, u1, u2, u3, .int 0, .int 0, .int 0, .int 0, .int 0, .int 0, .int 0])), (k1, .inr (16, [.int 0])), (k2, .inr (16, [.int 0])), (k3, .inr (16, [.int 0]))] s.heap := hP
  have hP00 := hP
  have hl := lv_entry ([.ref h0, .int cj]) (n := 8) (Nat.le_of_ble_eq_true rfl)
  rw [lg_entry_eq]
  generalize (lg_sl ([.ref h0, .int cj]) ++ List.replicate (8 - (lg_sl ([.ref h0, .int cj])).length) Slot.unset).toArray = ls at hl ⊢
  have hl : lv_has ls 8 [(0, .ref h0), (1, .int cj)] := hl
  refine lv_aload_n hx hb d_Top_come_0 rfl (lv_at hl 0 rfl) ?_
  refine lv_iload_n hx hb d_Top_come_1 rfl (lv_at hl 1 rfl) ?_
  have hPc := hP.sub (ws' := [(h0, .inr (11, [v0, v1, .ref qw, v3, v4, v5, v6, v7, v8])), (qw, .inl (cA, 4, .inr (.inr (.inr (.inr (va_up (va_up (va_up (va_up (fun _ => none) 0 (some k0)) 1 (some k1)) 2 (some k2)) 3 (some k3))))))), (k0, .inr (1, [u0, u1, u2, u3, .int 0, .int 0, .int 0, .int 0, .int 0, .int 0, .int 0])), (k1, .inr (16, [.int 0])), (k2, .inr (16, [.int 0])), (k3, .inr (16, [.int 0]))]) [0, 1, 2, 3, 4, 5] rfl
  have hDc := hD.sub (ws' := [(h0, .inr (11, [v0, v1, .ref qw, v3, v4, v5, v6, v7, v8])), (qw, .inl (cA, 4, .inr (.inr (.inr (.inr (va_up (va_up (va_up (va_up (fun _ => none) 0 (some k0)) 1 (some k1)) 2 (some k2)) 3 (some k3))))))), (k0, .inr (1, [u0, u1, u2, u3, .int 0, .int 0, .int 0, .int 0, .int 0, .int 0, .int 0])), (k1, .inr (16, [.int 0])), (k2, .inr (16, [.int 0])), (k3, .inr (16, [.int 0]))]) [0, 1, 2, 3, 4, 5] (by decide +kernel) rfl
  have hKc := hK.sub (tys' := [(cA, .object R_Wire)]) [0] rfl
  have hFc := va_free (wc := [(h0, .inr (11, [v0, v1, .ref qw, v3, v4, v5, v6, v7, v8])), (qw, .inl (cA, 4, .inr (.inr (.inr (.inr (va_up (va_up (va_up (va_up (fun _ => none) 0 (some k0)) 1 (some k1)) 2 (some k2)) 3 (some k3))))))), (k0, .inr (1, [u0, u1, u2, u3, .int 0, .int 0, .int 0, .int 0, .int 0, .int 0, .int 0])), (k1, .inr (16, [.int 0])), (k2, .inr (16, [.int 0])), (k3, .inr (16, [.int 0]))]) hD hS hA [0, 1, 2, 3, 4, 5] rfl
  refine va_calli (va_runV (As := [.int cj]) (rest := []) ⟨hx, hb, hml, hown, ht⟩ (c_Top_isOpen l dC dI h0 s.heap.size qw k0 k1 k2 k3 cA u0 u1 u2 u3 v0 v1 v3 v4 v5 v6 v7 v8 cj) ⟨callB_of 1 ht (xw_good k_419) rfl rfl rfl (ht _ k_1) (ht _ k_424) (by decide +kernel) ⟨(Nat.le_of_ble_eq_true rfl), (Nat.le_of_ble_eq_true rfl)⟩, ht _ k_417, ht _ k_418⟩ ⟨fun a U g mk q => by obtain ⟨q0, q1, qP, qK, qD⟩ := q; exact ⟨q0, q1, qP, va_K.moved (u := U) (U := U.calling g mk a) (Vm.Alike.refl U.vm) qK, qD⟩, va_recv hKc hPc (ci := 11) (q0 := 0) rfl rfl, fun U hU hW => ⟨rfl, by rw [hU], by rw [hU]; exact hPc, va_K.moved hW.alike hKc, hDc.weaken (fun _ _ _ _ => trivial)⟩⟩ rfl rfl hl.1 rfl (lv_room (Nat.le_of_ble_eq_true rfl)) d_Top_come_2 ⟨(Nat.le_of_ble_eq_true rfl), (Nat.le_of_ble_eq_true rfl)⟩) hS (fun q _ h => hFc q h) hFc (fun r1 u t H1 locs ht9 hvm hw hB hz1 hk1 hS => ?_)
  obtain ⟨hP1, hK1, hD1⟩ := hB
  rw [ht9] at hP1
  have hK1 := va_K.moved hvm.symm hK1
  obtain ⟨hP, hD⟩ := va_join (wr := []) (w1 := []) hP hD [0, 1, 2, 3, 4, 5] [] rfl rfl (by decide +kernel) (by decide +kernel) hk1 hFc hP1 hD1
  have hK := (hK.sub (tys' := []) [] rfl).app hK1
  generalize H1 = H at hP hS ⊢
  have hP : va_P (dC, dI) classes [] H := hP
  have hD : va_D A [] := hD
  have hK : va_K (dC, dI) classes [] s := hK
  refine W.widen (k := 0) (n := 0) (by omega) (by omega) ?_
  have hw : r1 = 0 := hw
  subst hw
  refine lv_if_ne (tgt := 18) hx hb d_Top_come_5 (by decide) (fun c_5_1 => absurd (by decide) c_5_1) (fun _ => ?_)
  refine W.newc (C := "java/lang/IllegalStateException") (n := 6) hx hb hown (ht _ k_474) (hE (.instantiable "java/lang/IllegalStateException" 6) (by simp [xtI, xtA]) _) (ht _ k_13) rfl d_Top_come_8 (Nat.le_of_ble_eq_true rfl) (Nat.le_of_ble_eq_true rfl) (fun cC kC f1 f2 f3 f4 => ?_)
  refine W.eq (g2 := F0 m 11 ls [.ref H.size]) rfl ?_
  refine W.widen (k := 1) (n := 6) (by omega) (by omega) ?_
  refine lv_dup hx hb d_Top_come_11 rfl ?_
  refine va_ldcS hx hb hown hR9 d_Top_come_12 ?_
  exact xw_throw (cls := "java/lang/IllegalStateException") (ic := 110) (i1 := 7) (b1 := Bundle.six) hx hb (hl.1.trans hml.symm) hfl hlocks (xk_none (B.noHandlers (hts _ List.mem_cons_self))) hown (by decide +kernel) (by decide +kernel) (by decide +kernel) (by decide +kernel) (by decide +kernel) (fun a h => hE a h _) (fun x hx9 cell hc => xk_plain hP00 (by rw [hAe]; exact hS.2.2 x hx9) hc) hS hA f1 f2 d_Top_come_14 d_Top_come_17 (Nat.le_of_ble_eq_true rfl) (Nat.le_of_ble_eq_true rfl)
set_option maxHeartbeats 4000000 in
set_option maxRecDepth 100000 in
/-- outAt(i) on a new object throws -/
theorem c_Top_outAt (l : Launch) (hfl : l.flags = pinnedFlags ++ [noTraceFlag]) (dC : Nat → ClassId) (dI : Nat → Nat → Nat) (h0 sz qa : Nat) (vb : Value) (i : Int32) (v0 v2 v3 v4 v5 v6 v7 v8 : Value) : MetFree l y_Top_outAt (headSpec (Cond.code y_Top_outAt b_Top_outAt 3 (Option.some Jvm.ClassFile.FieldType.int) :: xw0) { frames := 6, cells := 1, slots := 6, locals := 110 }) (va_Pc [.ref h0, .int i] (fun U => U.heap.size = sz ∧ va_P (dC, dI) classes [(h0, .inr (11, [v0, .ref qa, v2, v3, v4, v5, v6, v7, v8])), (qa, .inr (0, [vb, .int 0, .int 0]))] U.heap ∧ va_K (dC, dI) classes [] U ∧ va_D (fun _ => True) [(h0, .inr (11, [v0, .ref qa, v2, v3, v4, v5, v6, v7, v8])), (qa, .inr (0, [vb, .int 0, .int 0]))] ∧ xt_S xtN U ∧ ∃ q9 : Nat, vk_R "AddressHouse" 191 "no such byte" q9 U)) (fun _ _ _ _ _ => True) (xt_Q (va_A [(h0, .inr (11, [v0, .ref qa, v2, v3, v4, v5, v6, v7, v8])), (qa, .inr (0, [vb, .int 0, .int 0]))] sz) "java/util/NoSuchElementException" 1 6) := by
  refine xt_ofW (cc := b_Top_outAt) (maxL := 3) (ret := (Option.some Jvm.ClassFile.FieldType.int)) (by decide) rfl ?_
  intro p e s m args below meth c s₁ B hml hv
  obtain ⟨rfl, hsz, hP, hK, hD0, hE, q9, hR9⟩ := hv
  have hx := B.exec
  have hb := B.bytes
  have hr := B.returns
  have hts := atoms_spec (ws := Cond.code y_Top_outAt b_Top_outAt 3 (Option.some Jvm.ClassFile.FieldType.int) :: xw0) B.pre
  have ht : ∀ w ∈ xw0, w.before _ s = true := fun w h => hts w (List.mem_cons_of_mem _ h)
  have hown : s.vm.findClass R_Top = some m.cls := findClass_of_methodNamed B.named
  have hlocks := B.notSynchronized
  subst hsz
  have hD := hD0.self (sz := s.heap.size)
  generalize hAe : va_A [(h0, .inr (11, [v0, .ref qa, v2, v3, v4, v5, v6, v7, v8])), (qa, .inr (0, [vb, .int 0, .int 0]))] s.heap.size = A at hD ⊢
  have hA : ∀ q : Nat, s.heap.size ≤ q → A q := fun q h => by rw [← hAe]; exact Or.inr h
  have hS : va_S A s.heap s.heap [] := va_S.rf
  have hP : va_P (dC, dI) classes [(h0, .inr (11, [v0, .ref qa, v2, v3, v4, v5, v6, v7, v8])), (qa, .inr (0, [vb, .int 0, .int 0]))] s.heap := hP
  have hP00 := hP
  have hl := lv_entry ([.ref h0, .int i]) (n := 3) (Nat.le_of_ble_eq_true rfl)
  rw [lg_entry_eq]
  generalize (lg_sl ([.ref h0, .int i]) ++ List.replicate (3 - (lg_sl ([.ref h0, .int i])).length) Slot.unset).toArray = ls at hl ⊢
  have hl : lv_has ls 3 [(0, .ref h0), (1, .int i)] := hl
  refine lv_aload_n hx hb d_Top_outAt_0 rfl (lv_at hl 0 rfl) ?_
  refine va_get (D := (dC, dI)) (ci := 11) (v := .ref qa) (C := R_Top) (T := F_Top) (N := 9) hx hb ht i_Top hown hK hP 0 rfl rfl 1 (by decide) (ht _ k_351) (fun _ h9 => h9) rfl d_Top_outAt_1 ?_
  refine lv_iload_n hx hb d_Top_outAt_4 rfl (lv_at hl 1 rfl) ?_
  have hPc := hP.sub (ws' := [(qa, .inr (0, [vb, .int 0, .int 0]))]) [1] rfl
  have hDc := hD.sub (ws' := [(qa, .inr (0, [vb, .int 0, .int 0]))]) [1] (by decide +kernel) rfl
  have hKc := hK.sub (tys' := []) [] rfl
  have hFc := va_free (wc := [(qa, .inr (0, [vb, .int 0, .int 0]))]) hD hS hA [1] rfl
  refine va_calli (va_runV (As := [.int i]) (rest := []) ⟨hx, hb, hml, hown, ht⟩ (c_Row_at0 l dC dI qa s.heap.size i 0 rfl vb (.int 0)) ⟨callB_of 1 ht (xw_good k_400) rfl rfl rfl (ht _ k_2) (ht _ k_476) (by decide +kernel) ⟨(Nat.le_of_ble_eq_true rfl), (Nat.le_of_ble_eq_true rfl)⟩, ht _ k_398, ht _ k_399⟩ ⟨fun a U g mk q => by obtain ⟨q0, q1, qP, qK, qD⟩ := q; exact ⟨q0, q1, qP, va_K.moved (u := U) (U := U.calling g mk a) (Vm.Alike.refl U.vm) qK, qD⟩, va_recv hKc hPc (ci := 0) (q0 := 0) rfl rfl, fun U hU hW => ⟨rfl, by rw [hU], by rw [hU]; exact hPc, va_K.moved hW.alike hKc, hDc.weaken (fun _ _ _ _ => trivial)⟩⟩ rfl rfl hl.1 rfl (lv_room (Nat.le_of_ble_eq_true rfl)) d_Top_outAt_5 ⟨(Nat.le_of_ble_eq_true rfl), (Nat.le_of_ble_eq_true rfl)⟩) hS (fun q _ h => hFc q h) hFc (fun r1 u t H1 locs ht9 hvm hw hB hz1 hk1 hS => ?_)
  obtain ⟨hP1, hK1, hD1⟩ := hB
  rw [ht9] at hP1
  have hK1 := va_K.moved hvm.symm hK1
  obtain ⟨hP, hD⟩ := va_join (wr := [(h0, .inr (11, [v0, .ref qa, v2, v3, v4, v5, v6, v7, v8]))]) (w1 := [(qa, .inr (0, [vb, .int 0, .int 0]))]) hP hD [1] [0] rfl rfl (by decide +kernel) (by decide +kernel) hk1 hFc hP1 hD1
  have hK := (hK.sub (tys' := []) [] rfl).app hK1
  generalize H1 = H at hP hS ⊢
  have hP : va_P (dC, dI) classes [(h0, .inr (11, [v0, .ref qa, v2, v3, v4, v5, v6, v7, v8])), (qa, .inr (0, [vb, .int 0, .int 0]))] H := hP
  have hD : va_D A [(h0, .inr (11, [v0, .ref qa, v2, v3, v4, v5, v6, v7, v8])), (qa, .inr (0, [vb, .int 0, .int 0]))] := hD
  have hK : va_K (dC, dI) classes [] s := hK
  refine W.widen (k := 0) (n := 0) (by omega) (by omega) ?_
  have hw : r1 = (-1) := hw
  subst hw
  refine lv_istore_n (lv' := [(2, .int (-1)), (0, .ref h0), (1, .int i)]) hx hb d_Top_outAt_8 rfl hl (by decide) rfl (fun ls hl => ?_)
  refine lv_iload_n hx hb d_Top_outAt_9 rfl (lv_at hl 0 rfl) ?_
  refine lv_iconst (v := (-1)) hx hb d_Top_outAt_10 (by decide) ?_
  refine lv_icmp_ne (tgt := 24) hx hb d_Top_outAt_11 (by decide) (fun c_11_1 => absurd (by decide) c_11_1) (fun _ => ?_)
  refine W.newc (C := "java/util/NoSuchElementException") (n := 6) hx hb hown (ht _ k_496) (hE (.instantiable "java/util/NoSuchElementException" 6) (by simp [xtN, xtA]) _) (ht _ k_14) rfl d_Top_outAt_14 (Nat.le_of_ble_eq_true rfl) (Nat.le_of_ble_eq_true rfl) (fun cC kC f1 f2 f3 f4 => ?_)
  refine W.eq (g2 := F0 m 17 ls [.ref H.size]) rfl ?_
  refine W.widen (k := 1) (n := 6) (by omega) (by omega) ?_
  refine lv_dup hx hb d_Top_outAt_17 rfl ?_
  refine va_ldcS hx hb hown hR9 d_Top_outAt_18 ?_
  exact xw_throw (cls := "java/util/NoSuchElementException") (ic := 193) (i1 := 13) (b1 := b13) hx hb (hl.1.trans hml.symm) hfl hlocks (xk_none (B.noHandlers (hts _ List.mem_cons_self))) hown (by decide +kernel) (by decide +kernel) (by decide +kernel) (by decide +kernel) (by decide +kernel) (fun a h => hE a h _) (fun x hx9 cell hc => xk_plain hP00 (by rw [hAe]; exact hS.2.2 x hx9) hc) hS hA f1 f2 d_Top_outAt_20 d_Top_outAt_23 (Nat.le_of_ble_eq_true rfl) (Nat.le_of_ble_eq_true rfl)
set_option maxHeartbeats 4000000 in
set_option maxRecDepth 100000 in
/-- the law's come: it catches -/
theorem c_Law_come (l : Launch) (hfl : l.flags = pinnedFlags ++ [noTraceFlag]) (dC : Nat → ClassId) (dI : Nat → Nat → Nat) (h0 sz qw k0 k1 k2 k3 : Nat) (cA : ClassId) (u0 u1 u2 u3 : Value) (v0 v1 v3 v4 v5 v6 v7 v8 : Value) (cj : Int32) (qo : Nat) : Met l y_Law_come (Cond.codeWith y_Law_come b_Law_come 4 (Option.some Jvm.ClassFile.FieldType.int) [(0, 9, 12, 13)] :: xw0) { frames := 7, cells := 1, slots := 6, locals := 160 } (va_Pc [.ref h0, .int cj, .ref qo] (fun U => U.heap.size = sz ∧ va_P (dC, dI) classes [(h0, .inr (11, [v0, v1, .ref qw, v3, v4, v5, v6, v7, v8])), (qw, .inl (cA, 4, .inr (.inr (.inr (.inr (va_up (va_up (va_up (va_up (fun _ => none) 0 (some k0)) 1 (some k1)) 2 (some k2)) 3 (some k3))))))), (k0, .inr (1, [u0, u1, u2, u3, .int 0, .int 0, .int 0, .int 0, .int 0, .int 0, .int 0])), (k1, .inr (16, [.int 0])), (k2, .inr (16, [.int 0])), (k3, .inr (16, [.int 0]))] U.heap ∧ va_K (dC, dI) classes [(cA, .object R_Wire)] U ∧ va_D (fun _ => True) [(h0, .inr (11, [v0, v1, .ref qw, v3, v4, v5, v6, v7, v8])), (qw, .inl (cA, 4, .inr (.inr (.inr (.inr (va_up (va_up (va_up (va_up (fun _ => none) 0 (some k0)) 1 (some k1)) 2 (some k2)) 3 (some k3))))))), (k0, .inr (1, [u0, u1, u2, u3, .int 0, .int 0, .int 0, .int 0, .int 0, .int 0, .int 0])), (k1, .inr (16, [.int 0])), (k2, .inr (16, [.int 0])), (k3, .inr (16, [.int 0]))] ∧ xt_S xtI U ∧ ∃ q9 : Nat, vk_R "AddressHouse" 108 "the connection is not open" q9 U)) (va_Qi (fun (r : Int32) (_ : Unit) => r = 1) (fun (_ : Unit) (t : State) => va_P (dC, dI) classes [] t.heap ∧ va_K (dC, dI) classes [] t ∧ va_D (va_A [(h0, .inr (11, [v0, v1, .ref qw, v3, v4, v5, v6, v7, v8])), (qw, .inl (cA, 4, .inr (.inr (.inr (.inr (va_up (va_up (va_up (va_up (fun _ => none) 0 (some k0)) 1 (some k1)) 2 (some k2)) 3 (some k3))))))), (k0, .inr (1, [u0, u1, u2, u3, .int 0, .int 0, .int 0, .int 0, .int 0, .int 0, .int 0])), (k1, .inr (16, [.int 0])), (k2, .inr (16, [.int 0])), (k3, .inr (16, [.int 0]))] sz) []) (va_A [(h0, .inr (11, [v0, v1, .ref qw, v3, v4, v5, v6, v7, v8])), (qw, .inl (cA, 4, .inr (.inr (.inr (.inr (va_up (va_up (va_up (va_up (fun _ => none) 0 (some k0)) 1 (some k1)) 2 (some k2)) 3 (some k3))))))), (k0, .inr (1, [u0, u1, u2, u3, .int 0, .int 0, .int 0, .int 0, .int 0, .int 0, .int 0])), (k1, .inr (16, [.int 0])), (k2, .inr (16, [.int 0])), (k3, .inr (16, [.int 0]))] sz)) 1 6 (va_A [(h0, .inr (11, [v0, v1, .ref qw, v3, v4, v5, v6, v7, v8])), (qw, .inl (cA, 4, .inr (.inr (.inr (.inr (va_up (va_up (va_up (va_up (fun _ => none) 0 (some k0)) 1 (some k1)) 2 (some k2)) 3 (some k3))))))), (k0, .inr (1, [u0, u1, u2, u3, .int 0, .int 0, .int 0, .int 0, .int 0, .int 0, .int 0])), (k1, .inr (16, [.int 0])), (k2, .inr (16, [.int 0])), (k3, .inr (16, [.int 0]))] sz) := by
  refine xt_ofWith (cc := b_Law_come) (maxL := 4) (ret := (Option.some Jvm.ClassFile.FieldType.int)) (hs := [(0, 9, 12, 13)]) (by decide) rfl ?_
  intro p e s m args below meth c9 s₁ B hml htab hv
  obtain ⟨rfl, hsz, hP, hK, hD0, hE, q9, hR9⟩ := hv
  have hx := B.exec
  have hb := B.bytes
  have hr := B.returns
  have hts := atoms_spec (ws := Cond.codeWith y_Law_come b_Law_come 4 (Option.some Jvm.ClassFile.FieldType.int) [(0, 9, 12, 13)] :: xw0) B.pre
  have ht : ∀ w ∈ xw0, w.before _ s = true := fun w h => hts w (List.mem_cons_of_mem _ h)
  have hown : s.vm.findClass "AddressHouseLaw" = some m.cls := findClass_of_methodNamed B.named
  have hlocks := B.notSynchronized
  subst hsz
  have hD := hD0.self (sz := s.heap.size)
  generalize hAe : va_A [(h0, .inr (11, [v0, v1, .ref qw, v3, v4, v5, v6, v7, v8])), (qw, .inl (cA, 4, .inr (.inr (.inr (.inr (va_up (va_up (va_up (va_up (fun _ => none) 0 (some k0)) 1 (some k1)) 2 (some k2)) 3 (some k3))))))), (k0, .inr (1, [u0, u1, u2, u3, .int 0, .int 0, .int 0, .int 0, .int 0, .int 0, .int 0])), (k1, .inr (16, [.int 0])), (k2, .inr (16, [.int 0])), (k3, .inr (16, [.int 0]))] s.heap.size = A at hD ⊢
  have hl := lv_entry ([.ref h0, .int cj, .ref qo]) (n := 4) (Nat.le_of_ble_eq_true rfl)
  rw [lg_entry_eq]
  generalize (lg_sl ([.ref h0, .int cj, .ref qo]) ++ List.replicate (4 - (lg_sl ([.ref h0, .int cj, .ref qo])).length) Slot.unset).toArray = ls at hl ⊢
  have hl : lv_has ls 4 [(0, .ref h0), (1, .int cj), (2, .ref qo)] := hl
  refine lv_aload_n hx hb d_Law_come_0 rfl (lv_at hl 2 rfl) ?_
  refine lv_iconst (v := (nI 0)) hx hb d_Law_come_1 (by decide) ?_
  refine lv_aload_n hx hb d_Law_come_2 rfl (lv_at hl 0 rfl) ?_
  refine lv_iload_n hx hb d_Law_come_3 rfl (lv_at hl 1 rfl) ?_
  obtain ⟨cellB, hcB, hoB, hclB⟩ := va_recv hK hP (ci := 11) (q0 := 0) rfl rfl
  obtain ⟨x9, hx9, e1, e2, e3, e4⟩ := xk_tab htab
  refine xw_catch (C := R_Top) (As := [.int cj]) (rest := [.int (nI 0), .ref qo]) hx hb (hl.1.trans hml.symm) hown (ht _ k_470) (ht _ k_471) (ht _ k_472) (ht _ k_473) (ht _ k_1) (by decide) (c_Top_come l hfl dC dI h0 s.heap.size qw k0 k1 k2 k3 cA u0 u1 u2 u3 v0 v1 v3 v4 v5 v6 v7 v8 cj) (pay_in ht (xw_good k_473)) (fun a U g mk q => by obtain ⟨q0, q1, qP, qK, qD, qE, qr, qR⟩ := q; exact ⟨q0, q1, qP, va_K.moved (u := U) (U := U.calling g mk a) (Vm.Alike.refl U.vm) qK, qD, xt_S.move xtI_ok (U := U.calling g mk a) (State.WarmedH.refl U) (fun _ _ => rfl) qE, qr, vk_R.same rfl qR⟩) rfl rfl ⟨(Nat.le_of_ble_eq_true rfl), (Nat.le_of_ble_eq_true rfl)⟩ rfl hcB hoB hclB (xk_len (y := y_Top_come) (n := 1) (by decide +kernel)) (Nat.le_of_ble_eq_true rfl) d_Law_come_4 (fun U hU hW => ⟨rfl, by rw [hU], by rw [hU]; exact hP, va_K.moved hW.alike hK, hD0, xt_S.move xtI_ok hW (fun q _ => by rw [hU]) hE, q9, vk_R.warm hW hR9⟩) (Nat.le_of_ble_eq_true rfl) (Nat.le_of_ble_eq_true rfl) hx9 (by simp [covers, e1, e2]) (by rw [e4]; decide) (by rw [e4]; exact ht _ k_469) (hE (.castable "java/lang/IllegalStateException" "java/lang/IllegalStateException") (by simp [xtI, xtA]) _) (fun q H1 L hz hk hL => ?_)
  rw [e3]
  rw [hAe] at hk hL
  refine lv_astore_n (lv' := [(3, .ref q), (0, .ref h0), (1, .int cj), (2, .ref qo)]) hx hb d_Law_come_12 rfl hl (by decide) rfl (fun ls hl => ?_)
  refine lv_iconst (v := (nI 1)) hx hb d_Law_come_13 (by decide) ?_
  have hK9 := hK.sub (tys' := []) [] rfl
  refine W.widen (k := 1) (n := 6) (by omega) (by omega) ?_
  exact W.iret hx hb hr (fun t ht9 hW => ⟨⟨nI 1, (), rfl, rfl, xk_nilP, va_K.moved hW.alike hK9, xk_nilD⟩, by rw [ht9]; exact hz, fun z h1 h2 => by rw [ht9]; exact hk z h1 h2⟩) (fun z hz9 => hL z (by simpa using hz9)) d_Law_come_14
set_option maxHeartbeats 4000000 in
set_option maxRecDepth 100000 in
/-- the law's outAt: it catches -/
theorem c_Law_outAt (l : Launch) (hfl : l.flags = pinnedFlags ++ [noTraceFlag]) (dC : Nat → ClassId) (dI : Nat → Nat → Nat) (h0 sz qa : Nat) (vb : Value) (i : Int32) (v0 v2 v3 v4 v5 v6 v7 v8 : Value) (qo : Nat) : Met l y_Law_outAt (Cond.codeWith y_Law_outAt b_Law_outAt 4 (Option.some Jvm.ClassFile.FieldType.int) [(0, 9, 12, 18)] :: xw0) { frames := 7, cells := 1, slots := 6, locals := 160 } (va_Pc [.ref h0, .int i, .ref qo] (fun U => U.heap.size = sz ∧ va_P (dC, dI) classes [(h0, .inr (11, [v0, .ref qa, v2, v3, v4, v5, v6, v7, v8])), (qa, .inr (0, [vb, .int 0, .int 0]))] U.heap ∧ va_K (dC, dI) classes [] U ∧ va_D (fun _ => True) [(h0, .inr (11, [v0, .ref qa, v2, v3, v4, v5, v6, v7, v8])), (qa, .inr (0, [vb, .int 0, .int 0]))] ∧ xt_S xtN U ∧ ∃ q9 : Nat, vk_R "AddressHouse" 191 "no such byte" q9 U)) (va_Qi (fun (r : Int32) (_ : Unit) => r = 1) (fun (_ : Unit) (t : State) => va_P (dC, dI) classes [] t.heap ∧ va_K (dC, dI) classes [] t ∧ va_D (va_A [(h0, .inr (11, [v0, .ref qa, v2, v3, v4, v5, v6, v7, v8])), (qa, .inr (0, [vb, .int 0, .int 0]))] sz) []) (va_A [(h0, .inr (11, [v0, .ref qa, v2, v3, v4, v5, v6, v7, v8])), (qa, .inr (0, [vb, .int 0, .int 0]))] sz)) 1 6 (va_A [(h0, .inr (11, [v0, .ref qa, v2, v3, v4, v5, v6, v7, v8])), (qa, .inr (0, [vb, .int 0, .int 0]))] sz) := by
  refine xt_ofWith (cc := b_Law_outAt) (maxL := 4) (ret := (Option.some Jvm.ClassFile.FieldType.int)) (hs := [(0, 9, 12, 18)]) (by decide) rfl ?_
  intro p e s m args below meth c9 s₁ B hml htab hv
  obtain ⟨rfl, hsz, hP, hK, hD0, hE, q9, hR9⟩ := hv
  have hx := B.exec
  have hb := B.bytes
  have hr := B.returns
  have hts := atoms_spec (ws := Cond.codeWith y_Law_outAt b_Law_outAt 4 (Option.some Jvm.ClassFile.FieldType.int) [(0, 9, 12, 18)] :: xw0) B.pre
  have ht : ∀ w ∈ xw0, w.before _ s = true := fun w h => hts w (List.mem_cons_of_mem _ h)
  have hown : s.vm.findClass "AddressHouseLaw" = some m.cls := findClass_of_methodNamed B.named
  have hlocks := B.notSynchronized
  subst hsz
  have hD := hD0.self (sz := s.heap.size)
  generalize hAe : va_A [(h0, .inr (11, [v0, .ref qa, v2, v3, v4, v5, v6, v7, v8])), (qa, .inr (0, [vb, .int 0, .int 0]))] s.heap.size = A at hD ⊢
  have hl := lv_entry ([.ref h0, .int i, .ref qo]) (n := 4) (Nat.le_of_ble_eq_true rfl)
  rw [lg_entry_eq]
  generalize (lg_sl ([.ref h0, .int i, .ref qo]) ++ List.replicate (4 - (lg_sl ([.ref h0, .int i, .ref qo])).length) Slot.unset).toArray = ls at hl ⊢
  have hl : lv_has ls 4 [(0, .ref h0), (1, .int i), (2, .ref qo)] := hl
  refine lv_aload_n hx hb d_Law_outAt_0 rfl (lv_at hl 2 rfl) ?_
  refine lv_iconst (v := (nI 0)) hx hb d_Law_outAt_1 (by decide) ?_
  refine lv_aload_n hx hb d_Law_outAt_2 rfl (lv_at hl 0 rfl) ?_
  refine lv_iload_n hx hb d_Law_outAt_3 rfl (lv_at hl 1 rfl) ?_
  obtain ⟨cellB, hcB, hoB, hclB⟩ := va_recv hK hP (ci := 11) (q0 := 0) rfl rfl
  obtain ⟨x9, hx9, e1, e2, e3, e4⟩ := xk_tab htab
  refine xw_catch (C := R_Top) (As := [.int i]) (rest := [.int (nI 0), .ref qo]) hx hb (hl.1.trans hml.symm) hown (ht _ k_492) (ht _ k_493) (ht _ k_494) (ht _ k_495) (ht _ k_1) (by decide) (c_Top_outAt l hfl dC dI h0 s.heap.size qa vb i v0 v2 v3 v4 v5 v6 v7 v8) (pay_in ht (xw_good k_495)) (fun a U g mk q => by obtain ⟨q0, q1, qP, qK, qD, qE, qr, qR⟩ := q; exact ⟨q0, q1, qP, va_K.moved (u := U) (U := U.calling g mk a) (Vm.Alike.refl U.vm) qK, qD, xt_S.move xtN_ok (U := U.calling g mk a) (State.WarmedH.refl U) (fun _ _ => rfl) qE, qr, vk_R.same rfl qR⟩) rfl rfl ⟨(Nat.le_of_ble_eq_true rfl), (Nat.le_of_ble_eq_true rfl)⟩ rfl hcB hoB hclB (xk_len (y := y_Top_outAt) (n := 1) (by decide +kernel)) (Nat.le_of_ble_eq_true rfl) d_Law_outAt_4 (fun U hU hW => ⟨rfl, by rw [hU], by rw [hU]; exact hP, va_K.moved hW.alike hK, hD0, xt_S.move xtN_ok hW (fun q _ => by rw [hU]) hE, q9, vk_R.warm hW hR9⟩) (Nat.le_of_ble_eq_true rfl) (Nat.le_of_ble_eq_true rfl) hx9 (by simp [covers, e1, e2]) (by rw [e4]; decide) (by rw [e4]; exact ht _ k_491) (hE (.castable "java/util/NoSuchElementException" "java/util/NoSuchElementException") (by simp [xtN, xtA]) _) (fun q H1 L hz hk hL => ?_)
  rw [e3]
  rw [hAe] at hk hL
  refine lv_astore_n (lv' := [(3, .ref q), (0, .ref h0), (1, .int i), (2, .ref qo)]) hx hb d_Law_outAt_12 rfl hl (by decide) rfl (fun ls hl => ?_)
  refine lv_iconst (v := (nI 1)) hx hb d_Law_outAt_13 (by decide) ?_
  have hK9 := hK.sub (tys' := []) [] rfl
  refine W.widen (k := 1) (n := 6) (by omega) (by omega) ?_
  exact W.iret hx hb hr (fun t ht9 hW => ⟨⟨nI 1, (), rfl, rfl, xk_nilP, va_K.moved hW.alike hK9, xk_nilD⟩, by rw [ht9]; exact hz, fun z h1 h2 => by rw [ht9]; exact hk z h1 h2⟩) (fun z hz9 => hL z (by simpa using hz9)) d_Law_outAt_14
