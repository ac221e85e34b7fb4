theorem d_Row_at_0 : decode b_Row_at 0 = .ok (.iload_n 1, 1) := by decide +kernel
theorem d_Row_at_1 : decode b_Row_at 1 = .ok (.ifCond .lt 24, 3) := by decide +kernel
theorem d_Row_at_4 : decode b_Row_at 4 = .ok (.iload_n 1, 1) := by decide +kernel
theorem d_Row_at_5 : decode b_Row_at 5 = .ok (.aload_n 0, 1) := by decide +kernel
theorem d_Row_at_6 : decode b_Row_at 6 = .ok (.getfield 15, 3) := by decide +kernel
theorem d_Row_at_9 : decode b_Row_at 9 = .ok (.if_icmp .ge 16, 3) := by decide +kernel
theorem d_Row_at_25 : decode b_Row_at 25 = .ok (.iconst (-1), 1) := by decide +kernel
theorem d_Row_at_26 : decode b_Row_at 26 = .ok (.ireturn, 1) := by decide +kernel
theorem d_Row_cutTo_0 : decode b_Row_cutTo 0 = .ok (.iload_n 1, 1) := by decide +kernel
theorem d_Row_cutTo_1 : decode b_Row_cutTo 1 = .ok (.ifCond .lt 16, 3) := by decide +kernel
theorem d_Row_cutTo_4 : decode b_Row_cutTo 4 = .ok (.iload_n 1, 1) := by decide +kernel
theorem d_Row_cutTo_5 : decode b_Row_cutTo 5 = .ok (.aload_n 0, 1) := by decide +kernel
theorem d_Row_cutTo_6 : decode b_Row_cutTo 6 = .ok (.getfield 15, 3) := by decide +kernel
theorem d_Row_cutTo_9 : decode b_Row_cutTo 9 = .ok (.if_icmp .ge 8, 3) := by decide +kernel
theorem d_Row_cutTo_17 : decode b_Row_cutTo 17 = .ok (.return_, 1) := by decide +kernel
theorem d_Row_put_0 : decode b_Row_put 0 = .ok (.aload_n 0, 1) := by decide +kernel
theorem d_Row_put_1 : decode b_Row_put 1 = .ok (.getfield 15, 3) := by decide +kernel
theorem d_Row_put_4 : decode b_Row_put 4 = .ok (.aload_n 0, 1) := by decide +kernel
theorem d_Row_put_5 : decode b_Row_put 5 = .ok (.getfield 9, 3) := by decide +kernel
theorem d_Row_put_8 : decode b_Row_put 8 = .ok (.arraylength, 1) := by decide +kernel
theorem d_Row_put_9 : decode b_Row_put 9 = .ok (.if_icmp .ge 27, 3) := by decide +kernel
theorem d_Row_put_12 : decode b_Row_put 12 = .ok (.aload_n 0, 1) := by decide +kernel
theorem d_Row_put_13 : decode b_Row_put 13 = .ok (.getfield 9, 3) := by decide +kernel
theorem d_Row_put_16 : decode b_Row_put 16 = .ok (.aload_n 0, 1) := by decide +kernel
theorem d_Row_put_17 : decode b_Row_put 17 = .ok (.getfield 15, 3) := by decide +kernel
theorem d_Row_put_20 : decode b_Row_put 20 = .ok (.iload_n 1, 1) := by decide +kernel
theorem d_Row_put_21 : decode b_Row_put 21 = .ok (.i2b, 1) := by decide +kernel
theorem d_Row_put_22 : decode b_Row_put 22 = .ok (.bastore, 1) := by decide +kernel
theorem d_Row_put_23 : decode b_Row_put 23 = .ok (.aload_n 0, 1) := by decide +kernel
theorem d_Row_put_24 : decode b_Row_put 24 = .ok (.dup, 1) := by decide +kernel
theorem d_Row_put_25 : decode b_Row_put 25 = .ok (.getfield 15, 3) := by decide +kernel
theorem d_Row_put_28 : decode b_Row_put 28 = .ok (.iconst 1, 1) := by decide +kernel
theorem d_Row_put_29 : decode b_Row_put 29 = .ok (.iadd, 1) := by decide +kernel
theorem d_Row_put_30 : decode b_Row_put 30 = .ok (.putfield 15, 3) := by decide +kernel
theorem d_Row_put_33 : decode b_Row_put 33 = .ok (.goto 8, 3) := by decide +kernel
theorem d_Row_put_41 : decode b_Row_put 41 = .ok (.return_, 1) := by decide +kernel
theorem d_Row_four_0 : decode b_Row_four 0 = .ok (.aload_n 0, 1) := by decide +kernel
theorem d_Row_four_1 : decode b_Row_four 1 = .ok (.iload_n 1, 1) := by decide +kernel
theorem d_Row_four_2 : decode b_Row_four 2 = .ok (.bipush 24, 2) := by decide +kernel
theorem d_Row_four_4 : decode b_Row_four 4 = .ok (.ishr, 1) := by decide +kernel
theorem d_Row_four_5 : decode b_Row_four 5 = .ok (.invokevirtual 23, 3) := by decide +kernel
theorem d_Row_four_8 : decode b_Row_four 8 = .ok (.aload_n 0, 1) := by decide +kernel
theorem d_Row_four_9 : decode b_Row_four 9 = .ok (.iload_n 1, 1) := by decide +kernel
theorem d_Row_four_10 : decode b_Row_four 10 = .ok (.bipush 16, 2) := by decide +kernel
theorem d_Row_four_12 : decode b_Row_four 12 = .ok (.ishr, 1) := by decide +kernel
theorem d_Row_four_13 : decode b_Row_four 13 = .ok (.invokevirtual 23, 3) := by decide +kernel
theorem d_Row_four_16 : decode b_Row_four 16 = .ok (.aload_n 0, 1) := by decide +kernel
theorem d_Row_four_17 : decode b_Row_four 17 = .ok (.iload_n 1, 1) := by decide +kernel
theorem d_Row_four_18 : decode b_Row_four 18 = .ok (.bipush 8, 2) := by decide +kernel
theorem d_Row_four_20 : decode b_Row_four 20 = .ok (.ishr, 1) := by decide +kernel
theorem d_Row_four_21 : decode b_Row_four 21 = .ok (.invokevirtual 23, 3) := by decide +kernel
theorem d_Row_four_24 : decode b_Row_four 24 = .ok (.aload_n 0, 1) := by decide +kernel
theorem d_Row_four_25 : decode b_Row_four 25 = .ok (.iload_n 1, 1) := by decide +kernel
theorem d_Row_four_26 : decode b_Row_four 26 = .ok (.invokevirtual 23, 3) := by decide +kernel
theorem d_Row_four_29 : decode b_Row_four 29 = .ok (.return_, 1) := by decide +kernel
set_option maxHeartbeats 4000000 in
set_option maxRecDepth 100000 in
/-- at(i) of an empty row: NONE -/
theorem c_Row_at0 (l : Launch) (dC : Nat → ClassId) (dI : Nat → Nat → Nat) (h0 sz : Nat) (i n0 : Int32) (e0 : n0 = 0) (vc v2 : Value) : Met l y_Row_at (Cond.code y_Row_at b_Row_at 2 (Option.some Jvm.ClassFile.FieldType.int) :: xw0) ({ frames := 0, cells := 0, slots := 0, locals := 0 }) (va_Pc [.ref h0, .int i] (fun U => U.heap.size = sz ∧ va_P (dC, dI) classes [(h0, .inr (0, [vc, .int n0, v2]))] U.heap ∧ va_K (dC, dI) classes [] U ∧ va_D (fun _ => True) [(h0, .inr (0, [vc, .int n0, v2]))])) (va_Qi (fun (r : Int32) (_ : Unit) => r = -1) (fun (_ : Unit) (t : State) => va_P (dC, dI) classes [(h0, .inr (0, [vc, .int n0, v2]))] t.heap ∧ va_K (dC, dI) classes [] t ∧ va_D (va_A [(h0, .inr (0, [vc, .int n0, v2]))] sz) [(h0, .inr (0, [vc, .int n0, v2]))]) (va_A [(h0, .inr (0, [vc, .int n0, v2]))] sz)) 0 0 (va_A [(h0, .inr (0, [vc, .int n0, v2]))] sz) := by
  refine Met.ofW (cc := b_Row_at) (maxL := 2) (ret := (Option.some Jvm.ClassFile.FieldType.int)) (by decide) rfl ?_
  intro p e s m args below meth c s₁ B hml hv
  obtain ⟨rfl, hsz, hP, hK, hD0⟩ := hv
  have hx := B.exec
  have hb := B.bytes
  have hr := B.returns
  have hts := atoms_spec (ws := Cond.code y_Row_at b_Row_at 2 (Option.some Jvm.ClassFile.FieldType.int) :: xw0) B.pre
  have ht : ∀ w ∈ xw0, w.before _ s = true := fun w h => hts w (List.mem_cons_of_mem _ h)
  have hown : s.vm.findClass R_Row = some m.cls := findClass_of_methodNamed B.named
  have hlocks := B.notSynchronized
  subst hsz
  have hD := hD0.self (sz := s.heap.size)
  generalize hAe : va_A [(h0, .inr (0, [vc, .int n0, v2]))] s.heap.size = A at hD ⊢
  have hA : ∀ q : Nat, s.heap.size ≤ q → A q := fun q h => by rw [← hAe]; exact Or.inr h
  have hS : va_S A s.heap s.heap [] := va_S.rf
  have hP : va_P (dC, dI) classes [(h0, .inr (0, [vc, .int n0, v2]))] s.heap := hP
  have hl := lv_entry ([.ref h0, .int i]) (n := 2) (Nat.le_of_ble_eq_true rfl)
  rw [lg_entry_eq]
  generalize (lg_sl ([.ref h0, .int i]) ++ List.replicate (2 - (lg_sl ([.ref h0, .int i])).length) Slot.unset).toArray = ls at hl ⊢
  have hl : lv_has ls 2 [(0, .ref h0), (1, .int i)] := hl
  refine lv_iload_n hx hb d_Row_at_0 rfl (lv_at hl 1 rfl) ?_
  refine lv_if_lt (tgt := 25) hx hb d_Row_at_1 (by decide) (fun c_1_0 => ?_) (fun c_1_0 => ?_)
  · refine lv_iconst (v := (-1)) hx hb d_Row_at_25 (by decide) ?_
    have hP9 := hP.sub (ws' := [(h0, .inr (0, [vc, .int n0, v2]))]) [0] rfl
    have hD9 := hD.sub (ws' := [(h0, .inr (0, [vc, .int n0, v2]))]) [0] (by decide +kernel) rfl
    have hK9 := hK.sub (tys' := []) [] rfl
    exact W.iret hx hb hr (fun t ht9 hW => ⟨⟨(-1), (), rfl, rfl, by rw [ht9]; exact hP9, va_K.moved hW.alike hK9, hD9⟩, hS.F ht9⟩) hS.2.2 d_Row_at_26
  · refine lv_iload_n hx hb d_Row_at_4 rfl (lv_at hl 1 rfl) ?_
    refine lv_aload_n hx hb d_Row_at_5 rfl (lv_at hl 0 rfl) ?_
    refine va_get (D := (dC, dI)) (ci := 0) (v := .int n0) (C := R_Row) (T := F_Row) (N := 3) hx hb ht i_Row hown hK hP 0 rfl rfl 1 (by decide) (ht _ k_30) (fun _ h9 => h9) rfl d_Row_at_6 ?_
    refine lv_icmp_ge (tgt := 25) hx hb d_Row_at_9 (by decide) (fun c_9_51 => ?_) (fun c_9_51 => absurd (xh_ge c_1_0 e0) c_9_51)
    refine lv_iconst (v := (-1)) hx hb d_Row_at_25 (by decide) ?_
    have hP9 := hP.sub (ws' := [(h0, .inr (0, [vc, .int n0, v2]))]) [0] rfl
    have hD9 := hD.sub (ws' := [(h0, .inr (0, [vc, .int n0, v2]))]) [0] (by decide +kernel) rfl
    have hK9 := hK.sub (tys' := []) [] rfl
    exact W.iret hx hb hr (fun t ht9 hW => ⟨⟨(-1), (), rfl, rfl, by rw [ht9]; exact hP9, va_K.moved hW.alike hK9, hD9⟩, hS.F ht9⟩) hS.2.2 d_Row_at_26
set_option maxHeartbeats 4000000 in
set_option maxRecDepth 100000 in
/-- cutTo(i) of an empty row: nothing -/
theorem c_Row_cut0 (l : Launch) (dC : Nat → ClassId) (dI : Nat → Nat → Nat) (h0 sz : Nat) (i n0 : Int32) (e0 : n0 = 0) (vc v2 : Value) : Met l y_Row_cutTo (Cond.code y_Row_cutTo b_Row_cutTo 2 none :: xw0) ({ frames := 0, cells := 0, slots := 0, locals := 0 }) (va_Pc [.ref h0, .int i] (fun U => U.heap.size = sz ∧ va_P (dC, dI) classes [(h0, .inr (0, [vc, .int n0, v2]))] U.heap ∧ va_K (dC, dI) classes [] U ∧ va_D (fun _ => True) [(h0, .inr (0, [vc, .int n0, v2]))])) (va_Qv (fun _ : Unit => True) (fun (_ : Unit) (t : State) => va_P (dC, dI) classes [(h0, .inr (0, [vc, .int n0, v2]))] t.heap ∧ va_K (dC, dI) classes [] t ∧ va_D (va_A [(h0, .inr (0, [vc, .int n0, v2]))] sz) [(h0, .inr (0, [vc, .int n0, v2]))]) (va_A [(h0, .inr (0, [vc, .int n0, v2]))] sz)) 0 0 (va_A [(h0, .inr (0, [vc, .int n0, v2]))] sz) := by
  refine Met.ofW (cc := b_Row_cutTo) (maxL := 2) (ret := none) (by decide) rfl ?_
  intro p e s m args below meth c s₁ B hml hv
  obtain ⟨rfl, hsz, hP, hK, hD0⟩ := hv
  have hx := B.exec
  have hb := B.bytes
  have hr := B.returns
  have hts := atoms_spec (ws := Cond.code y_Row_cutTo b_Row_cutTo 2 none :: xw0) B.pre
  have ht : ∀ w ∈ xw0, w.before _ s = true := fun w h => hts w (List.mem_cons_of_mem _ h)
  have hown : s.vm.findClass R_Row = some m.cls := findClass_of_methodNamed B.named
  have hlocks := B.notSynchronized
  subst hsz
  have hD := hD0.self (sz := s.heap.size)
  generalize hAe : va_A [(h0, .inr (0, [vc, .int n0, v2]))] s.heap.size = A at hD ⊢
  have hA : ∀ q : Nat, s.heap.size ≤ q → A q := fun q h => by rw [← hAe]; exact Or.inr h
  have hS : va_S A s.heap s.heap [] := va_S.rf
  have hP : va_P (dC, dI) classes [(h0, .inr (0, [vc, .int n0, v2]))] s.heap := hP
  have hl := lv_entry ([.ref h0, .int i]) (n := 2) (Nat.le_of_ble_eq_true rfl)
  rw [lg_entry_eq]
  generalize (lg_sl ([.ref h0, .int i]) ++ List.replicate (2 - (lg_sl ([.ref h0, .int i])).length) Slot.unset).toArray = ls at hl ⊢
  have hl : lv_has ls 2 [(0, .ref h0), (1, .int i)] := hl
  refine lv_iload_n hx hb d_Row_cutTo_0 rfl (lv_at hl 1 rfl) ?_
  refine lv_if_lt (tgt := 17) hx hb d_Row_cutTo_1 (by decide) (fun c_1_0 => ?_) (fun c_1_0 => ?_)
  · have hP9 := hP.sub (ws' := [(h0, .inr (0, [vc, .int n0, v2]))]) [0] rfl
    have hD9 := hD.sub (ws' := [(h0, .inr (0, [vc, .int n0, v2]))]) [0] (by decide +kernel) rfl
    have hK9 := hK.sub (tys' := []) [] rfl
    exact W.vret hx hb hr (fun t ht9 hW => ⟨⟨(), rfl, trivial, by rw [ht9]; exact hP9, va_K.moved hW.alike hK9, hD9⟩, hS.F ht9⟩) hS.2.2 d_Row_cutTo_17
  · refine lv_iload_n hx hb d_Row_cutTo_4 rfl (lv_at hl 1 rfl) ?_
    refine lv_aload_n hx hb d_Row_cutTo_5 rfl (lv_at hl 0 rfl) ?_
    refine va_get (D := (dC, dI)) (ci := 0) (v := .int n0) (C := R_Row) (T := F_Row) (N := 3) hx hb ht i_Row hown hK hP 0 rfl rfl 1 (by decide) (ht _ k_30) (fun _ h9 => h9) rfl d_Row_cutTo_6 ?_
    refine lv_icmp_ge (tgt := 17) hx hb d_Row_cutTo_9 (by decide) (fun c_9_51 => ?_) (fun c_9_51 => absurd (xh_ge c_1_0 e0) c_9_51)
    have hP9 := hP.sub (ws' := [(h0, .inr (0, [vc, .int n0, v2]))]) [0] rfl
    have hD9 := hD.sub (ws' := [(h0, .inr (0, [vc, .int n0, v2]))]) [0] (by decide +kernel) rfl
    have hK9 := hK.sub (tys' := []) [] rfl
    exact W.vret hx hb hr (fun t ht9 hW => ⟨⟨(), rfl, trivial, by rw [ht9]; exact hP9, va_K.moved hW.alike hK9, hD9⟩, hS.F ht9⟩) hS.2.2 d_Row_cutTo_17
set_option maxHeartbeats 4000000 in
set_option maxRecDepth 100000 in
/-- put(b): a byte more -/
theorem c_Row_put (l : Launch) (dC : Nat → ClassId) (dI : Nat → Nat → Nat) (h0 sz q n : Nat) (cA : ClassId) (f : Nat → Int32) (v2 : Value) (hn : n < 6000) (b : Int32) : Met l y_Row_put (Cond.code y_Row_put b_Row_put 2 none :: xw0) ({ frames := 0, cells := 0, slots := 0, locals := 0 }) (va_Pc [.ref h0, .int b] (fun U => U.heap.size = sz ∧ va_P (dC, dI) classes [(h0, .inr (0, [.ref q, .int (nI n), v2])), (q, .inl (cA, 6000, .inl f))] U.heap ∧ va_K (dC, dI) classes [(cA, .byte)] U ∧ va_D (fun _ => True) [(h0, .inr (0, [.ref q, .int (nI n), v2])), (q, .inl (cA, 6000, .inl f))])) (va_Qv (fun _ : Unit => True) (fun (_ : Unit) (t : State) => ∃ (G0 : Nat → Int32) , va_P (dC, dI) classes [(h0, .inr (0, [.ref q, .int (nI (n + 1)), v2])), (q, .inl (cA, 6000, .inl G0))] t.heap ∧ va_K (dC, dI) classes [(cA, .byte)] t ∧ va_D (va_A [(h0, .inr (0, [.ref q, .int (nI n), v2])), (q, .inl (cA, 6000, .inl f))] sz) [(h0, .inr (0, [.ref q, .int (nI (n + 1)), v2])), (q, .inl (cA, 6000, .inl G0))]) (va_A [(h0, .inr (0, [.ref q, .int (nI n), v2])), (q, .inl (cA, 6000, .inl f))] sz)) 0 0 (va_A [(h0, .inr (0, [.ref q, .int (nI n), v2])), (q, .inl (cA, 6000, .inl f))] sz) := by
  refine Met.ofW (cc := b_Row_put) (maxL := 2) (ret := none) (by decide) rfl ?_
  intro p e s m args below meth c s₁ B hml hv
  obtain ⟨rfl, hsz, hP, hK, hD0⟩ := hv
  have hx := B.exec
  have hb := B.bytes
  have hr := B.returns
  have hts := atoms_spec (ws := Cond.code y_Row_put b_Row_put 2 none :: xw0) B.pre
  have ht : ∀ w ∈ xw0, w.before _ s = true := fun w h => hts w (List.mem_cons_of_mem _ h)
  have hown : s.vm.findClass R_Row = some m.cls := findClass_of_methodNamed B.named
  have hlocks := B.notSynchronized
  subst hsz
  have hD := hD0.self (sz := s.heap.size)
  generalize hAe : va_A [(h0, .inr (0, [.ref q, .int (nI n), v2])), (q, .inl (cA, 6000, .inl f))] s.heap.size = A at hD ⊢
  have hA : ∀ q : Nat, s.heap.size ≤ q → A q := fun q h => by rw [← hAe]; exact Or.inr h
  have hS : va_S A s.heap s.heap [] := va_S.rf
  have hP : va_P (dC, dI) classes [(h0, .inr (0, [.ref q, .int (nI n), v2])), (q, .inl (cA, 6000, .inl f))] s.heap := hP
  have hl := lv_entry ([.ref h0, .int b]) (n := 2) (Nat.le_of_ble_eq_true rfl)
  rw [lg_entry_eq]
  generalize (lg_sl ([.ref h0, .int b]) ++ List.replicate (2 - (lg_sl ([.ref h0, .int b])).length) Slot.unset).toArray = ls at hl ⊢
  have hl : lv_has ls 2 [(0, .ref h0), (1, .int b)] := hl
  refine lv_aload_n hx hb d_Row_put_0 rfl (lv_at hl 0 rfl) ?_
  refine va_get (D := (dC, dI)) (ci := 0) (v := .int (nI n)) (C := R_Row) (T := F_Row) (N := 3) hx hb ht i_Row hown hK hP 0 rfl rfl 1 (by decide) (ht _ k_30) (fun _ h9 => h9) rfl d_Row_put_1 ?_
  refine lv_aload_n hx hb d_Row_put_4 rfl (lv_at hl 0 rfl) ?_
  refine va_get (D := (dC, dI)) (ci := 0) (v := .ref q) (C := R_Row) (T := F_Row) (N := 3) hx hb ht i_Row hown hK hP 0 rfl rfl 0 (by decide) (ht _ k_29) (fun _ h9 => h9) rfl d_Row_put_5 ?_
  refine va_alen (v := (nI 6000)) hx hb hK hP 1 0 rfl rfl rfl d_Row_put_8 ?_
  refine lv_icmp_ge (tgt := 36) hx hb d_Row_put_9 (by decide) (fun c_9_0 => absurd c_9_0 (nI_ge hn (by decide))) (fun c_9_0 => ?_)
  refine lv_aload_n hx hb d_Row_put_12 rfl (lv_at hl 0 rfl) ?_
  refine va_get (D := (dC, dI)) (ci := 0) (v := .ref q) (C := R_Row) (T := F_Row) (N := 3) hx hb ht i_Row hown hK hP 0 rfl rfl 0 (by decide) (ht _ k_29) (fun _ h9 => h9) rfl d_Row_put_13 ?_
  refine lv_aload_n hx hb d_Row_put_16 rfl (lv_at hl 0 rfl) ?_
  refine va_get (D := (dC, dI)) (ci := 0) (v := .int (nI n)) (C := R_Row) (T := F_Row) (N := 3) hx hb ht i_Row hown hK hP 0 rfl rfl 1 (by decide) (ht _ k_30) (fun _ h9 => h9) rfl d_Row_put_17 ?_
  refine lv_iload_n hx hb d_Row_put_20 rfl (lv_at hl 1 rfl) ?_
  refine lv_i2b hx hb d_Row_put_21 rfl ?_
  refine lv_topi (fun y2 _ => ?_)
  refine xw_bast hx hb hK hP hD hS 1 0 rfl rfl (vp_in_nI (show n < 6000 by omega) (by decide)) d_Row_put_22 (fun f3 H locs hP hD hS => ?_)
  have hP : va_P (dC, dI) classes [(h0, .inr (0, [.ref q, .int (nI n), v2])), (q, .inl (cA, 6000, .inl f3))] H := hP
  have hD : va_D A [(h0, .inr (0, [.ref q, .int (nI n), v2])), (q, .inl (cA, 6000, .inl f3))] := hD
  refine lv_aload_n hx hb d_Row_put_23 rfl (lv_at hl 0 rfl) ?_
  refine lv_dup hx hb d_Row_put_24 rfl ?_
  refine va_get (D := (dC, dI)) (ci := 0) (v := .int (nI n)) (C := R_Row) (T := F_Row) (N := 3) hx hb ht i_Row hown hK hP 0 rfl rfl 1 (by decide) (ht _ k_30) (fun _ h9 => h9) rfl d_Row_put_25 ?_
  refine lv_iconst (v := (nI 1)) hx hb d_Row_put_28 (by decide) ?_
  refine lv_iadd hx hb d_Row_put_29 ?_
  refine xw_topn (nI (n + 1)) (nI_succ _).symm ?_
  refine va_put (D := (dC, dI)) (ci := 0) (v := .int (nI (n + 1))) (ty := .int) (C := R_Row) (T := F_Row) (N := 3) hx hb ht i_Row t_Row t_Row_ok n_Row hown hK hP hD hS 0 rfl rfl 1 (by decide) (ht _ k_30) (fun _ h9 => h9) rfl (by decide +kernel) rfl rfl (Nat.le_of_ble_eq_true rfl) d_Row_put_30 (fun H locs hP hD hS => ?_)
  have hP : va_P (dC, dI) classes [(h0, .inr (0, [.ref q, .int (nI (n + 1)), v2])), (q, .inl (cA, 6000, .inl f3))] H := hP
  have hD : va_D A [(h0, .inr (0, [.ref q, .int (nI (n + 1)), v2])), (q, .inl (cA, 6000, .inl f3))] := hD
  refine lv_goto (tgt := 41) hx hb d_Row_put_33 (by decide) ?_
  have hP9 := hP.sub (ws' := [(h0, .inr (0, [.ref q, .int (nI (n + 1)), v2])), (q, .inl (cA, 6000, .inl f3))]) [0, 1] rfl
  have hD9 := hD.sub (ws' := [(h0, .inr (0, [.ref q, .int (nI (n + 1)), v2])), (q, .inl (cA, 6000, .inl f3))]) [0, 1] (by decide +kernel) rfl
  have hK9 := hK.sub (tys' := [(cA, .byte)]) [0] rfl
  exact W.vret hx hb hr (fun t ht9 hW => ⟨⟨(), rfl, trivial, f3, by rw [ht9]; exact hP9, va_K.moved hW.alike hK9, hD9⟩, hS.F ht9⟩) hS.2.2 d_Row_put_41
set_option maxHeartbeats 4000000 in
set_option maxRecDepth 100000 in
/-- four(b): four bytes more -/
theorem c_Row_four (l : Launch) (dC : Nat → ClassId) (dI : Nat → Nat → Nat) (h0 sz q n : Nat) (cA : ClassId) (f : Nat → Int32) (v2 : Value) (hn : n + 4 ≤ 6000) (b : Int32) : Met l y_Row_four (Cond.code y_Row_four b_Row_four 2 none :: xw0) ({ frames := 1, cells := 0, slots := 0, locals := 30 }) (va_Pc [.ref h0, .int b] (fun U => U.heap.size = sz ∧ va_P (dC, dI) classes [(h0, .inr (0, [.ref q, .int (nI n), v2])), (q, .inl (cA, 6000, .inl f))] U.heap ∧ va_K (dC, dI) classes [(cA, .byte)] U ∧ va_D (fun _ => True) [(h0, .inr (0, [.ref q, .int (nI n), v2])), (q, .inl (cA, 6000, .inl f))])) (va_Qv (fun _ : Unit => True) (fun (_ : Unit) (t : State) => ∃ (G0 : Nat → Int32) , va_P (dC, dI) classes [(h0, .inr (0, [.ref q, .int (nI ((((n + 1) + 1) + 1) + 1)), v2])), (q, .inl (cA, 6000, .inl G0))] t.heap ∧ va_K (dC, dI) classes [(cA, .byte)] t ∧ va_D (va_A [(h0, .inr (0, [.ref q, .int (nI n), v2])), (q, .inl (cA, 6000, .inl f))] sz) [(h0, .inr (0, [.ref q, .int (nI ((((n + 1) + 1) + 1) + 1)), v2])), (q, .inl (cA, 6000, .inl G0))]) (va_A [(h0, .inr (0, [.ref q, .int (nI n), v2])), (q, .inl (cA, 6000, .inl f))] sz)) 0 0 (va_A [(h0, .inr (0, [.ref q, .int (nI n), v2])), (q, .inl (cA, 6000, .inl f))] sz) := by
  refine Met.ofW (cc := b_Row_four) (maxL := 2) (ret := none) (by decide) rfl ?_
  intro p e s m args below meth c s₁ B hml hv
  obtain ⟨rfl, hsz, hP, hK, hD0⟩ := hv
  have hx := B.exec
  have hb := B.bytes
  have hr := B.returns
  have hts := atoms_spec (ws := Cond.code y_Row_four b_Row_four 2 none :: xw0) B.pre
  have ht : ∀ w ∈ xw0, w.before _ s = true := fun w h => hts w (List.mem_cons_of_mem _ h)
  have hown : s.vm.findClass R_Row = some m.cls := findClass_of_methodNamed B.named
  have hlocks := B.notSynchronized
  subst hsz
  have hD := hD0.self (sz := s.heap.size)
  generalize hAe : va_A [(h0, .inr (0, [.ref q, .int (nI n), v2])), (q, .inl (cA, 6000, .inl f))] s.heap.size = A at hD ⊢
  have hA : ∀ q : Nat, s.heap.size ≤ q → A q := fun q h => by rw [← hAe]; exact Or.inr h
  have hS : va_S A s.heap s.heap [] := va_S.rf
  have hP : va_P (dC, dI) classes [(h0, .inr (0, [.ref q, .int (nI n), v2])), (q, .inl (cA, 6000, .inl f))] s.heap := hP
  have hl := lv_entry ([.ref h0, .int b]) (n := 2) (Nat.le_of_ble_eq_true rfl)
  rw [lg_entry_eq]
  generalize (lg_sl ([.ref h0, .int b]) ++ List.replicate (2 - (lg_sl ([.ref h0, .int b])).length) Slot.unset).toArray = ls at hl ⊢
  have hl : lv_has ls 2 [(0, .ref h0), (1, .int b)] := hl
  refine lv_aload_n hx hb d_Row_four_0 rfl (lv_at hl 0 rfl) ?_
  refine lv_iload_n hx hb d_Row_four_1 rfl (lv_at hl 1 rfl) ?_
  refine lv_bipush (v := (nI 24)) hx hb d_Row_four_2 (by decide) ?_
  refine lv_ishr hx hb d_Row_four_4 ?_
  refine lv_topi (fun y1 _ => ?_)
  have hPc := hP.sub (ws' := [(h0, .inr (0, [.ref q, .int (nI n), v2])), (q, .inl (cA, 6000, .inl f))]) [0, 1] rfl
  have hDc := hD.sub (ws' := [(h0, .inr (0, [.ref q, .int (nI n), v2])), (q, .inl (cA, 6000, .inl f))]) [0, 1] (by decide +kernel) rfl
  have hKc := hK.sub (tys' := [(cA, .byte)]) [0] rfl
  have hFc := va_free (wc := [(h0, .inr (0, [.ref q, .int (nI n), v2])), (q, .inl (cA, 6000, .inl f))]) hD hS hA [0, 1] rfl
  refine va_callv (va_runV (As := [.int y1]) (rest := []) ⟨hx, hb, hml, hown, ht⟩ (c_Row_put l dC dI h0 s.heap.size q (n) cA f v2 (by omega) y1) ⟨callB_of 1 ht (xw_good k_380) rfl rfl rfl (ht _ k_2) (ht _ k_377) (by decide +kernel) ⟨(Nat.le_of_ble_eq_true rfl), (Nat.le_of_ble_eq_true rfl)⟩, ht _ k_378, ht _ k_379⟩ ⟨fun a U g mk q => by obtain ⟨q0, q1, qP, qK, qD⟩ := q; exact ⟨q0, q1, qP, va_K.moved (u := U) (U := U.calling g mk a) (Vm.Alike.refl U.vm) qK, qD⟩, va_recv hKc hPc (ci := 0) (q0 := 0) rfl rfl, fun U hU hW => ⟨rfl, by rw [hU], by rw [hU]; exact hPc, va_K.moved hW.alike hKc, hDc.weaken (fun _ _ _ _ => trivial)⟩⟩ rfl rfl hl.1 rfl (lv_room (Nat.le_of_ble_eq_true rfl)) d_Row_four_5 ⟨(Nat.le_of_ble_eq_true rfl), (Nat.le_of_ble_eq_true rfl)⟩) hS (fun q _ h => hFc q h) hFc (fun u t H1 locs ht9 hvm hw hB hz1 hk1 hS => ?_)
  obtain ⟨f2, hP1, hK1, hD1⟩ := hB
  rw [ht9] at hP1
  have hK1 := va_K.moved hvm.symm hK1
  obtain ⟨hP, hD⟩ := va_join (wr := []) (w1 := [(h0, .inr (0, [.ref q, .int (nI (n + 1)), v2])), (q, .inl (cA, 6000, .inl f2))]) hP hD [0, 1] [] rfl rfl (by decide +kernel) (by decide +kernel) hk1 hFc hP1 hD1
  have hK := (hK.sub (tys' := []) [] rfl).app hK1
  generalize H1 = H at hP hS ⊢
  have hP : va_P (dC, dI) classes [(h0, .inr (0, [.ref q, .int (nI (n + 1)), v2])), (q, .inl (cA, 6000, .inl f2))] H := hP
  have hD : va_D A [(h0, .inr (0, [.ref q, .int (nI (n + 1)), v2])), (q, .inl (cA, 6000, .inl f2))] := hD
  have hK : va_K (dC, dI) classes [(cA, .byte)] s := hK
  refine W.widen (k := 0) (n := 0) (by omega) (by omega) ?_
  refine lv_aload_n hx hb d_Row_four_8 rfl (lv_at hl 0 rfl) ?_
  refine lv_iload_n hx hb d_Row_four_9 rfl (lv_at hl 1 rfl) ?_
  refine lv_bipush (v := (nI 16)) hx hb d_Row_four_10 (by decide) ?_
  refine lv_ishr hx hb d_Row_four_12 ?_
  refine lv_topi (fun y3 _ => ?_)
  have hPc := hP.sub (ws' := [(h0, .inr (0, [.ref q, .int (nI (n + 1)), v2])), (q, .inl (cA, 6000, .inl f2))]) [0, 1] rfl
  have hDc := hD.sub (ws' := [(h0, .inr (0, [.ref q, .int (nI (n + 1)), v2])), (q, .inl (cA, 6000, .inl f2))]) [0, 1] (by decide +kernel) rfl
  have hKc := hK.sub (tys' := [(cA, .byte)]) [0] rfl
  have hFc := va_free (wc := [(h0, .inr (0, [.ref q, .int (nI (n + 1)), v2])), (q, .inl (cA, 6000, .inl f2))]) hD hS hA [0, 1] rfl
  refine va_callv (va_runV (As := [.int y3]) (rest := []) ⟨hx, hb, hml, hown, ht⟩ (c_Row_put l dC dI h0 H.size q ((n + 1)) cA f2 v2 (by omega) y3) ⟨callB_of 1 ht (xw_good k_380) rfl rfl rfl (ht _ k_2) (ht _ k_377) (by decide +kernel) ⟨(Nat.le_of_ble_eq_true rfl), (Nat.le_of_ble_eq_true rfl)⟩, ht _ k_378, ht _ k_379⟩ ⟨fun a U g mk q => by obtain ⟨q0, q1, qP, qK, qD⟩ := q; exact ⟨q0, q1, qP, va_K.moved (u := U) (U := U.calling g mk a) (Vm.Alike.refl U.vm) qK, qD⟩, va_recv hKc hPc (ci := 0) (q0 := 0) rfl rfl, fun U hU hW => ⟨rfl, by rw [hU], by rw [hU]; exact hPc, va_K.moved hW.alike hKc, hDc.weaken (fun _ _ _ _ => trivial)⟩⟩ rfl rfl hl.1 rfl (lv_room (Nat.le_of_ble_eq_true rfl)) d_Row_four_13 ⟨(Nat.le_of_ble_eq_true rfl), (Nat.le_of_ble_eq_true rfl)⟩) hS (fun q _ h => hFc q h) hFc (fun u t H1 locs ht9 hvm hw hB hz1 hk1 hS => ?_)
  obtain ⟨f4, hP1, hK1, hD1⟩ := hB
  rw [ht9] at hP1
  have hK1 := va_K.moved hvm.symm hK1
  obtain ⟨hP, hD⟩ := va_join (wr := []) (w1 := [(h0, .inr (0, [.ref q, .int (nI ((n + 1) + 1)), v2])), (q, .inl (cA, 6000, .inl f4))]) hP hD [0, 1] [] rfl rfl (by decide +kernel) (by decide +kernel) hk1 hFc hP1 hD1
  have hK := (hK.sub (tys' := []) [] rfl).app hK1
  generalize H1 = H at hP hS ⊢
  have hP : va_P (dC, dI) classes [(h0, .inr (0, [.ref q, .int (nI ((n + 1) + 1)), v2])), (q, .inl (cA, 6000, .inl f4))] H := hP
  have hD : va_D A [(h0, .inr (0, [.ref q, .int (nI ((n + 1) + 1)), v2])), (q, .inl (cA, 6000, .inl f4))] := hD
  have hK : va_K (dC, dI) classes [(cA, .byte)] s := hK
  refine W.widen (k := 0) (n := 0) (by omega) (by omega) ?_
  refine lv_aload_n hx hb d_Row_four_16 rfl (lv_at hl 0 rfl) ?_
  refine lv_iload_n hx hb d_Row_four_17 rfl (lv_at hl 1 rfl) ?_
  refine lv_bipush (v := (nI 8)) hx hb d_Row_four_18 (by decide) ?_
  refine lv_ishr hx hb d_Row_four_20 ?_
  refine lv_topi (fun y5 _ => ?_)
  have hPc := hP.sub (ws' := [(h0, .inr (0, [.ref q, .int (nI ((n + 1) + 1)), v2])), (q, .inl (cA, 6000, .inl f4))]) [0, 1] rfl
  have hDc := hD.sub (ws' := [(h0, .inr (0, [.ref q, .int (nI ((n + 1) + 1)), v2])), (q, .inl (cA, 6000, .inl f4))]) [0, 1] (by decide +kernel) rfl
  have hKc := hK.sub (tys' := [(cA, .byte)]) [0] rfl
  have hFc := va_free (wc := [(h0, .inr (0, [.ref q, .int (nI ((n + 1) + 1)), v2])), (q, .inl (cA, 6000, .inl f4))]) hD hS hA [0, 1] rfl
  refine va_callv (va_runV (As := [.int y5]) (rest := []) ⟨hx, hb, hml, hown, ht⟩ (c_Row_put l dC dI h0 H.size q (((n + 1) + 1)) cA f4 v2 (by omega) y5) ⟨callB_of 1 ht (xw_good k_380) rfl rfl rfl (ht _ k_2) (ht _ k_377) (by decide +kernel) ⟨(Nat.le_of_ble_eq_true rfl), (Nat.le_of_ble_eq_true rfl)⟩, ht _ k_378, ht _ k_379⟩ ⟨fun a U g mk q => by obtain ⟨q0, q1, qP, qK, qD⟩ := q; exact ⟨q0, q1, qP, va_K.moved (u := U) (U := U.calling g mk a) (Vm.Alike.refl U.vm) qK, qD⟩, va_recv hKc hPc (ci := 0) (q0 := 0) rfl rfl, fun U hU hW => ⟨rfl, by rw [hU], by rw [hU]; exact hPc, va_K.moved hW.alike hKc, hDc.weaken (fun _ _ _ _ => trivial)⟩⟩ rfl rfl hl.1 rfl (lv_room (Nat.le_of_ble_eq_true rfl)) d_Row_four_21 ⟨(Nat.le_of_ble_eq_true rfl), (Nat.le_of_ble_eq_true rfl)⟩) hS (fun q _ h => hFc q h) hFc (fun u t H1 locs ht9 hvm hw hB hz1 hk1 hS => ?_)
  obtain ⟨f6, hP1, hK1, hD1⟩ := hB
  rw [ht9] at hP1
  have hK1 := va_K.moved hvm.symm hK1
  obtain ⟨hP, hD⟩ := va_join (wr := []) (w1 := [(h0, .inr (0, [.ref q, .int (nI (((n + 1) + 1) + 1)), v2])), (q, .inl (cA, 6000, .inl f6))]) hP hD [0, 1] [] rfl rfl (by decide +kernel) (by decide +kernel) hk1 hFc hP1 hD1
  have hK := (hK.sub (tys' := []) [] rfl).app hK1
  generalize H1 = H at hP hS ⊢
  have hP : va_P (dC, dI) classes [(h0, .inr (0, [.ref q, .int (nI (((n + 1) + 1) + 1)), v2])), (q, .inl (cA, 6000, .inl f6))] H := hP
  have hD : va_D A [(h0, .inr (0, [.ref q, .int (nI (((n + 1) + 1) + 1)), v2])), (q, .inl (cA, 6000, .inl f6))] := hD
  have hK : va_K (dC, dI) classes [(cA, .byte)] s := hK
  refine W.widen (k := 0) (n := 0) (by omega) (by omega) ?_
  refine lv_aload_n hx hb d_Row_four_24 rfl (lv_at hl 0 rfl) ?_
  refine lv_iload_n hx hb d_Row_four_25 rfl (lv_at hl 1 rfl) ?_
  have hPc := hP.sub (ws' := [(h0, .inr (0, [.ref q, .int (nI (((n + 1) + 1) + 1)), v2])), (q, .inl (cA, 6000, .inl f6))]) [0, 1] rfl
  have hDc := hD.sub (ws' := [(h0, .inr (0, [.ref q, .int (nI (((n + 1) + 1) + 1)), v2])), (q, .inl (cA, 6000, .inl f6))]) [0, 1] (by decide +kernel) rfl
  have hKc := hK.sub (tys' := [(cA, .byte)]) [0] rfl
  have hFc := va_free (wc := [(h0, .inr (0, [.ref q, .int (nI (((n + 1) + 1) + 1)), v2])), (q, .inl (cA, 6000, .inl f6))]) hD hS hA [0, 1] rfl
  refine va_callv (va_runV (As := [.int b]) (rest := []) ⟨hx, hb, hml, hown, ht⟩ (c_Row_put l dC dI h0 H.size q ((((n + 1) + 1) + 1)) cA f6 v2 (by omega) b) ⟨callB_of 1 ht (xw_good k_380) rfl rfl rfl (ht _ k_2) (ht _ k_377) (by decide +kernel) ⟨(Nat.le_of_ble_eq_true rfl), (Nat.le_of_ble_eq_true rfl)⟩, ht _ k_378, ht _ k_379⟩ ⟨fun a U g mk q => by obtain ⟨q0, q1, qP, qK, qD⟩ := q; exact ⟨q0, q1, qP, va_K.moved (u := U) (U := U.calling g mk a) (Vm.Alike.refl U.vm) qK, qD⟩, va_recv hKc hPc (ci := 0) (q0 := 0) rfl rfl, fun U hU hW => ⟨rfl, by rw [hU], by rw [hU]; exact hPc, va_K.moved hW.alike hKc, hDc.weaken (fun _ _ _ _ => trivial)⟩⟩ rfl rfl hl.1 rfl (lv_room (Nat.le_of_ble_eq_true rfl)) d_Row_four_26 ⟨(Nat.le_of_ble_eq_true rfl), (Nat.le_of_ble_eq_true rfl)⟩) hS (fun q _ h => hFc q h) hFc (fun u t H1 locs ht9 hvm hw hB hz1 hk1 hS => ?_)
  obtain ⟨f7, hP1, hK1, hD1⟩ := hB
  rw [ht9] at hP1
  have hK1 := va_K.moved hvm.symm hK1
  obtain ⟨hP, hD⟩ := va_join (wr := []) (w1 := [(h0, .inr (0, [.ref q, .int (nI ((((n + 1) + 1) + 1) + 1)), v2])), (q, .inl (cA, 6000, .inl f7))]) hP hD [0, 1] [] rfl rfl (by decide +kernel) (by decide +kernel) hk1 hFc hP1 hD1
  have hK := (hK.sub (tys' := []) [] rfl).app hK1
  generalize H1 = H at hP hS ⊢
  have hP : va_P (dC, dI) classes [(h0, .inr (0, [.ref q, .int (nI ((((n + 1) + 1) + 1) + 1)), v2])), (q, .inl (cA, 6000, .inl f7))] H := hP
  have hD : va_D A [(h0, .inr (0, [.ref q, .int (nI ((((n + 1) + 1) + 1) + 1)), v2])), (q, .inl (cA, 6000, .inl f7))] := hD
  have hK : va_K (dC, dI) classes [(cA, .byte)] s := hK
  refine W.widen (k := 0) (n := 0) (by omega) (by omega) ?_
  have hP9 := hP.sub (ws' := [(h0, .inr (0, [.ref q, .int (nI ((((n + 1) + 1) + 1) + 1)), v2])), (q, .inl (cA, 6000, .inl f7))]) [0, 1] rfl
  have hD9 := hD.sub (ws' := [(h0, .inr (0, [.ref q, .int (nI ((((n + 1) + 1) + 1) + 1)), v2])), (q, .inl (cA, 6000, .inl f7))]) [0, 1] (by decide +kernel) rfl
  have hK9 := hK.sub (tys' := [(cA, .byte)]) [0] rfl
  exact W.vret hx hb hr (fun t ht9 hW => ⟨⟨(), rfl, trivial, f7, by rw [ht9]; exact hP9, va_K.moved hW.alike hK9, hD9⟩, hS.F ht9⟩) hS.2.2 d_Row_four_29
