theorem d_Row_clear_0 : decode b_Row_clear 0 = .ok (.aload_n 0, 1) := by decide +kernel
theorem d_Row_clear_1 : decode b_Row_clear 1 = .ok (.iconst 0, 1) := by decide +kernel
theorem d_Row_clear_2 : decode b_Row_clear 2 = .ok (.putfield 15, 3) := by decide +kernel
theorem d_Row_clear_5 : decode b_Row_clear 5 = .ok (.aload_n 0, 1) := by decide +kernel
theorem d_Row_clear_6 : decode b_Row_clear 6 = .ok (.iconst 0, 1) := by decide +kernel
theorem d_Row_clear_7 : decode b_Row_clear 7 = .ok (.putfield 19, 3) := by decide +kernel
theorem d_Row_clear_10 : decode b_Row_clear 10 = .ok (.return_, 1) := by decide +kernel
theorem d_Wire_init_0 : decode b_Wire_init 0 = .ok (.aload_n 0, 1) := by decide +kernel
theorem d_Wire_init_1 : decode b_Wire_init 1 = .ok (.invokespecial 3, 3) := by decide +kernel
theorem d_Wire_init_4 : decode b_Wire_init 4 = .ok (.aload_n 0, 1) := by decide +kernel
theorem d_Wire_init_5 : decode b_Wire_init 5 = .ok (.new 9, 3) := by decide +kernel
theorem d_Wire_init_8 : decode b_Wire_init 8 = .ok (.dup, 1) := by decide +kernel
theorem d_Wire_init_9 : decode b_Wire_init 9 = .ok (.sipush 2000, 3) := by decide +kernel
theorem d_Wire_init_12 : decode b_Wire_init 12 = .ok (.invokespecial 13, 3) := by decide +kernel
theorem d_Wire_init_15 : decode b_Wire_init 15 = .ok (.putfield 16, 3) := by decide +kernel
theorem d_Wire_init_18 : decode b_Wire_init 18 = .ok (.aload_n 0, 1) := by decide +kernel
theorem d_Wire_init_19 : decode b_Wire_init 19 = .ok (.new 9, 3) := by decide +kernel
theorem d_Wire_init_22 : decode b_Wire_init 22 = .ok (.dup, 1) := by decide +kernel
theorem d_Wire_init_23 : decode b_Wire_init 23 = .ok (.sipush 3000, 3) := by decide +kernel
theorem d_Wire_init_26 : decode b_Wire_init 26 = .ok (.invokespecial 13, 3) := by decide +kernel
theorem d_Wire_init_29 : decode b_Wire_init 29 = .ok (.putfield 20, 3) := by decide +kernel
theorem d_Wire_init_32 : decode b_Wire_init 32 = .ok (.aload_n 0, 1) := by decide +kernel
theorem d_Wire_init_33 : decode b_Wire_init 33 = .ok (.bipush 10, 2) := by decide +kernel
theorem d_Wire_init_35 : decode b_Wire_init 35 = .ok (.newarray .int, 2) := by decide +kernel
theorem d_Wire_init_37 : decode b_Wire_init 37 = .ok (.putfield 23, 3) := by decide +kernel
theorem d_Wire_init_40 : decode b_Wire_init 40 = .ok (.aload_n 0, 1) := by decide +kernel
theorem d_Wire_init_41 : decode b_Wire_init 41 = .ok (.bipush 10, 2) := by decide +kernel
theorem d_Wire_init_43 : decode b_Wire_init 43 = .ok (.newarray .int, 2) := by decide +kernel
theorem d_Wire_init_45 : decode b_Wire_init 45 = .ok (.putfield 27, 3) := by decide +kernel
theorem d_Wire_init_48 : decode b_Wire_init 48 = .ok (.return_, 1) := by decide +kernel
set_option maxHeartbeats 4000000 in
set_option maxRecDepth 100000 in
/-- clear(): size and over are 0 -/
theorem c_Row_clear (l : Launch) (dC : Nat → ClassId) (dI : Nat → Nat → Nat) (h0 sz : Nat) (vc : Value) (x1 x2 : Int32) : Met l y_Row_clear (Cond.code y_Row_clear b_Row_clear 1 none :: xw0) ({ frames := 0, cells := 0, slots := 0, locals := 0 }) (va_Pc [.ref h0] (fun U => U.heap.size = sz ∧ va_P (dC, dI) classes [(h0, .inr (0, [vc, .int x1, .int x2]))] U.heap ∧ va_K (dC, dI) classes [] U ∧ va_D (fun _ => True) [(h0, .inr (0, [vc, .int x1, .int x2]))])) (va_Qv (fun _ : Unit => True) (fun (_ : Unit) (t : State) => va_P (dC, dI) classes [(h0, .inr (0, [vc, .int (nI 0), .int (nI 0)]))] t.heap ∧ va_K (dC, dI) classes [] t ∧ va_D (va_A [(h0, .inr (0, [vc, .int x1, .int x2]))] sz) [(h0, .inr (0, [vc, .int (nI 0), .int (nI 0)]))]) (va_A [(h0, .inr (0, [vc, .int x1, .int x2]))] sz)) 0 0 (va_A [(h0, .inr (0, [vc, .int x1, .int x2]))] sz) := by
  refine Met.ofW (cc := b_Row_clear) (maxL := 1) (ret := none) (by decide) rfl ?_
  intro p e s m args below meth c s₁ B hml hv
  obtain ⟨rfl, hsz, hP, hK, hD0⟩ := hv
  have hx := B.exec
  have hb := B.bytes
  have hr := B.returns
  have hts := atoms_spec (ws := Cond.code y_Row_clear b_Row_clear 1 none :: xw0) B.pre
  have ht : ∀ w ∈ xw0, w.before _ s = true := fun w h => hts w (List.mem_cons_of_mem _ h)
  have hown : s.vm.findClass R_Row = some m.cls := findClass_of_methodNamed B.named
  have hlocks := B.notSynchronized
  subst hsz
  have hD := hD0.self (sz := s.heap.size)
  generalize hAe : va_A [(h0, .inr (0, [vc, .int x1, .int x2]))] s.heap.size = A at hD ⊢
  have hA : ∀ q : Nat, s.heap.size ≤ q → A q := fun q h => by rw [← hAe]; exact Or.inr h
  have hS : va_S A s.heap s.heap [] := va_S.rf
  have hP : va_P (dC, dI) classes [(h0, .inr (0, [vc, .int x1, .int x2]))] s.heap := hP
  have hl := lv_entry ([.ref h0]) (n := 1) (Nat.le_of_ble_eq_true rfl)
  rw [lg_entry_eq]
  generalize (lg_sl ([.ref h0]) ++ List.replicate (1 - (lg_sl ([.ref h0])).length) Slot.unset).toArray = ls at hl ⊢
  have hl : lv_has ls 1 [(0, .ref h0)] := hl
  refine lv_aload_n hx hb d_Row_clear_0 rfl (lv_at hl 0 rfl) ?_
  refine lv_iconst (v := (nI 0)) hx hb d_Row_clear_1 (by decide) ?_
  refine va_put (D := (dC, dI)) (ci := 0) (v := .int (nI 0)) (ty := .int) (C := R_Row) (T := F_Row) (N := 3) hx hb ht i_Row t_Row t_Row_ok n_Row hown hK hP hD hS 0 rfl rfl 1 (by decide) (ht _ k_30) (fun _ h9 => h9) rfl (by decide +kernel) rfl rfl (Nat.le_of_ble_eq_true rfl) d_Row_clear_2 (fun H locs hP hD hS => ?_)
  have hP : va_P (dC, dI) classes [(h0, .inr (0, [vc, .int (nI 0), .int x2]))] H := hP
  have hD : va_D A [(h0, .inr (0, [vc, .int (nI 0), .int x2]))] := hD
  refine lv_aload_n hx hb d_Row_clear_5 rfl (lv_at hl 0 rfl) ?_
  refine lv_iconst (v := (nI 0)) hx hb d_Row_clear_6 (by decide) ?_
  refine va_put (D := (dC, dI)) (ci := 0) (v := .int (nI 0)) (ty := .boolean) (C := R_Row) (T := F_Row) (N := 3) hx hb ht i_Row t_Row t_Row_ok n_Row hown hK hP hD hS 0 rfl rfl 2 (by decide) (ht _ k_34) (fun _ h9 => h9) rfl (by decide +kernel) rfl rfl (Nat.le_of_ble_eq_true rfl) d_Row_clear_7 (fun H locs hP hD hS => ?_)
  have hP : va_P (dC, dI) classes [(h0, .inr (0, [vc, .int (nI 0), .int (nI 0)]))] H := hP
  have hD : va_D A [(h0, .inr (0, [vc, .int (nI 0), .int (nI 0)]))] := hD
  have hP9 := hP.sub (ws' := [(h0, .inr (0, [vc, .int (nI 0), .int (nI 0)]))]) [0] rfl
  have hD9 := hD.sub (ws' := [(h0, .inr (0, [vc, .int (nI 0), .int (nI 0)]))]) [0] (by decide +kernel) rfl
  have hK9 := hK.sub (tys' := []) [] rfl
  exact W.vret hx hb hr (fun t ht9 hW => ⟨⟨(), rfl, trivial, by rw [ht9]; exact hP9, va_K.moved hW.alike hK9, hD9⟩, hS.F ht9⟩) hS.2.2 d_Row_clear_10
set_option maxHeartbeats 4000000 in
set_option maxRecDepth 100000 in
/-- Wire(): nothing alive, its two rows are empty -/
theorem c_Wire_init (l : Launch) (dC : Nat → ClassId) (dI : Nat → Nat → Nat) (h0 sz : Nat) : Met l y_Wire_init (Cond.code y_Wire_init b_Wire_init 1 none :: xw0) ({ frames := 2, cells := 6, slots := 5026, locals := 40 }) (va_Pc [.ref h0] (fun U => U.heap.size = sz ∧ va_P (dC, dI) classes [(h0, .inr (1, [.null, .null, .null, .null, .int 0, .int 0, .int 0, .int 0, .int 0, .int 0, .int 0]))] U.heap ∧ va_K (dC, dI) classes [] U ∧ va_D (fun _ => True) [(h0, .inr (1, [.null, .null, .null, .null, .int 0, .int 0, .int 0, .int 0, .int 0, .int 0, .int 0]))])) (va_Qv (fun _ : Unit => True) (fun (_ : Unit) (t : State) => ∃ (q1 q4 q7 q9 q2 q5 : Nat) , va_P (dC, dI) classes [(h0, .inr (1, [.ref q1, .ref q4, .ref q7, .ref q9, .int 0, .int 0, .int 0, .int 0, .int 0, .int 0, .int 0])), (q1, .inr (0, [.ref q2, .int 0, .int 0])), (q4, .inr (0, [.ref q5, .int 0, .int 0]))] t.heap ∧ va_K (dC, dI) classes [] t ∧ va_D (va_A [(h0, .inr (1, [.null, .null, .null, .null, .int 0, .int 0, .int 0, .int 0, .int 0, .int 0, .int 0]))] sz) [(h0, .inr (1, [.ref q1, .ref q4, .ref q7, .ref q9, .int 0, .int 0, .int 0, .int 0, .int 0, .int 0, .int 0])), (q1, .inr (0, [.ref q2, .int 0, .int 0])), (q4, .inr (0, [.ref q5, .int 0, .int 0]))]) (va_A [(h0, .inr (1, [.null, .null, .null, .null, .int 0, .int 0, .int 0, .int 0, .int 0, .int 0, .int 0]))] sz)) 6 5026 (va_A [(h0, .inr (1, [.null, .null, .null, .null, .int 0, .int 0, .int 0, .int 0, .int 0, .int 0, .int 0]))] sz) := by
  refine Met.ofW (cc := b_Wire_init) (maxL := 1) (ret := none) (by decide) rfl ?_
  intro p e s m args below meth c s₁ B hml hv
  obtain ⟨rfl, hsz, hP, hK, hD0⟩ := hv
  have hx := B.exec
  have hb := B.bytes
  have hr := B.returns
  have hts := atoms_spec (ws := Cond.code y_Wire_init b_Wire_init 1 none :: xw0) B.pre
  have ht : ∀ w ∈ xw0, w.before _ s = true := fun w h => hts w (List.mem_cons_of_mem _ h)
  have hown : s.vm.findClass R_Wire = some m.cls := findClass_of_methodNamed B.named
  have hlocks := B.notSynchronized
  have hin : meth.name = "<init>" := (name_of_methodNamed B.named B.method).1
  subst hsz
  have hD := hD0.self (sz := s.heap.size)
  generalize hAe : va_A [(h0, .inr (1, [.null, .null, .null, .null, .int 0, .int 0, .int 0, .int 0, .int 0, .int 0, .int 0]))] s.heap.size = A at hD ⊢
  have hA : ∀ q : Nat, s.heap.size ≤ q → A q := fun q h => by rw [← hAe]; exact Or.inr h
  have hS : va_S A s.heap s.heap [] := va_S.rf
  have hP : va_P (dC, dI) classes [(h0, .inr (1, [.null, .null, .null, .null, .int 0, .int 0, .int 0, .int 0, .int 0, .int 0, .int 0]))] s.heap := hP
  have hl := lv_entry ([.ref h0]) (n := 1) (Nat.le_of_ble_eq_true rfl)
  rw [lg_entry_eq]
  generalize (lg_sl ([.ref h0]) ++ List.replicate (1 - (lg_sl ([.ref h0])).length) Slot.unset).toArray = ls at hl ⊢
  have hl : lv_has ls 1 [(0, .ref h0)] := hl
  refine lv_aload_n hx hb d_Wire_init_0 rfl (lv_at hl 0 rfl) ?_
  refine W.objInit hx hb hown (ht _ k_47) (ht _ k_21) (ht _ k_22) rfl (by rw [hml]; exact hl.1) rfl d_Wire_init_1 (Nat.le_of_ble_eq_true rfl) (Nat.le_of_ble_eq_true rfl) ?_
  refine W.eq (g2 := F0 m 4 ls []) rfl ?_
  refine lv_aload_n hx hb d_Wire_init_4 rfl (lv_at hl 0 rfl) ?_
  refine va_new (ci := 0) (fs := [.null, .int 0, .int 0]) (C := R_Row) (T := F_Row) (N := 3) hx hb ht i_Row t_Row t_Row_ok hown (ht _ k_48) (ht _ k_24) (ht _ k_2) hK hP hD hS hA rfl (fun j hj => by rcases (show j = 0 ∨ j = 1 ∨ j = 2 by omega) with rfl | rfl | rfl <;> rfl) (Nat.le_of_ble_eq_true rfl) (Nat.le_of_ble_eq_true rfl) d_Wire_init_5 (fun q1 H hP hD hS => ?_)
  refine W.widen (k := 1) (n := 3) (by omega) (by omega) ?_
  have hP : va_P (dC, dI) classes [(h0, .inr (1, [.null, .null, .null, .null, .int 0, .int 0, .int 0, .int 0, .int 0, .int 0, .int 0])), (q1, .inr (0, [.null, .int 0, .int 0]))] H := hP
  have hD : va_D A [(h0, .inr (1, [.null, .null, .null, .null, .int 0, .int 0, .int 0, .int 0, .int 0, .int 0, .int 0])), (q1, .inr (0, [.null, .int 0, .int 0]))] := hD
  refine lv_dup hx hb d_Wire_init_8 rfl ?_
  refine lv_sipush (v := (nI 2000)) hx hb d_Wire_init_9 (by decide) ?_
  have hPc := hP.sub (ws' := [(q1, .inr (0, [.null, .int 0, .int 0]))]) [1] rfl
  have hDc := hD.sub (ws' := [(q1, .inr (0, [.null, .int 0, .int 0]))]) [1] (by decide +kernel) rfl
  have hKc := hK.sub (tys' := []) [] rfl
  have hFc := va_free (wc := [(q1, .inr (0, [.null, .int 0, .int 0]))]) hD hS hA [1] rfl
  refine va_callv (va_runI (As := [.int (nI 2000)]) (rest := [.ref q1, .ref h0]) ⟨hx, hb, hml, hown, ht⟩ (c_Row_init l dC dI q1 H.size 2000 (by decide) (by decide)) (cwI 1 ht (xw_good k_27) rfl rfl rfl (ht _ k_2) (ht _ k_49) (ht _ k_26) rfl (by decide +kernel) ⟨(Nat.le_of_ble_eq_true rfl), (Nat.le_of_ble_eq_true rfl)⟩) ⟨fun a U g mk q => by obtain ⟨q0, q1, qP, qK, qD⟩ := q; exact ⟨q0, q1, qP, va_K.moved (u := U) (U := U.calling g mk a) (Vm.Alike.refl U.vm) qK, qD⟩, fun U hU hW => ⟨rfl, by rw [hU], by rw [hU]; exact hPc, va_K.moved hW.alike hKc, hDc.weaken (fun _ _ _ _ => trivial)⟩⟩ rfl rfl hl.1 rfl (lv_room (Nat.le_of_ble_eq_true rfl)) d_Wire_init_12 ⟨(Nat.le_of_ble_eq_true rfl), (Nat.le_of_ble_eq_true rfl)⟩) hS (fun q _ h => hFc q h) hFc (fun u t H1 locs ht9 hvm hw hB hz1 hk1 hS => ?_)
  obtain ⟨q2, cA3, hP1, hK1, hD1⟩ := hB
  rw [ht9] at hP1
  have hK1 := va_K.moved hvm.symm hK1
  obtain ⟨hP, hD⟩ := va_join (wr := [(h0, .inr (1, [.null, .null, .null, .null, .int 0, .int 0, .int 0, .int 0, .int 0, .int 0, .int 0]))]) (w1 := [(q1, .inr (0, [.ref q2, .int 0, .int 0])), (q2, .inl (cA3, 2000, .inl (fun _ => 0)))]) hP hD [1] [0] rfl rfl (by decide +kernel) (by decide +kernel) hk1 hFc hP1 hD1
  have hK := (hK.sub (tys' := []) [] rfl).app hK1
  generalize H1 = H at hP hS ⊢
  have hP : va_P (dC, dI) classes [(h0, .inr (1, [.null, .null, .null, .null, .int 0, .int 0, .int 0, .int 0, .int 0, .int 0, .int 0])), (q1, .inr (0, [.ref q2, .int 0, .int 0])), (q2, .inl (cA3, 2000, .inl (fun _ => 0)))] H := hP
  have hD : va_D A [(h0, .inr (1, [.null, .null, .null, .null, .int 0, .int 0, .int 0, .int 0, .int 0, .int 0, .int 0])), (q1, .inr (0, [.ref q2, .int 0, .int 0])), (q2, .inl (cA3, 2000, .inl (fun _ => 0)))] := hD
  have hK : va_K (dC, dI) classes [(cA3, .byte)] s := hK
  refine W.widen (k := 2) (n := 2003) (by omega) (by omega) ?_
  refine va_putF (D := (dC, dI)) (ci := 1) (v := .ref q1) (ty := .object "AddressHouse$Row") (C := R_Wire) (T := F_Wire) (N := 11) hx hb ht i_Wire t_Wire t_Wire_ok n_Wire hown hK hP hD hS 0 rfl rfl 0 (by decide) (ht _ k_50) (fun _ h9 => h9) rfl hin rfl (by decide +kernel) rfl rfl (Nat.le_of_ble_eq_true rfl) d_Wire_init_15 (fun H locs hP hD hS => ?_)
  have hP : va_P (dC, dI) classes [(h0, .inr (1, [.ref q1, .null, .null, .null, .int 0, .int 0, .int 0, .int 0, .int 0, .int 0, .int 0])), (q1, .inr (0, [.ref q2, .int 0, .int 0])), (q2, .inl (cA3, 2000, .inl (fun _ => 0)))] H := hP
  have hD : va_D A [(h0, .inr (1, [.ref q1, .null, .null, .null, .int 0, .int 0, .int 0, .int 0, .int 0, .int 0, .int 0])), (q1, .inr (0, [.ref q2, .int 0, .int 0])), (q2, .inl (cA3, 2000, .inl (fun _ => 0)))] := hD
  refine lv_aload_n hx hb d_Wire_init_18 rfl (lv_at hl 0 rfl) ?_
  refine va_new (ci := 0) (fs := [.null, .int 0, .int 0]) (C := R_Row) (T := F_Row) (N := 3) hx hb ht i_Row t_Row t_Row_ok hown (ht _ k_48) (ht _ k_24) (ht _ k_2) hK hP hD hS hA rfl (fun j hj => by rcases (show j = 0 ∨ j = 1 ∨ j = 2 by omega) with rfl | rfl | rfl <;> rfl) (Nat.le_of_ble_eq_true rfl) (Nat.le_of_ble_eq_true rfl) d_Wire_init_19 (fun q4 H hP hD hS => ?_)
  refine W.widen (k := 3) (n := 2006) (by omega) (by omega) ?_
  have hP : va_P (dC, dI) classes [(h0, .inr (1, [.ref q1, .null, .null, .null, .int 0, .int 0, .int 0, .int 0, .int 0, .int 0, .int 0])), (q1, .inr (0, [.ref q2, .int 0, .int 0])), (q2, .inl (cA3, 2000, .inl (fun _ => 0))), (q4, .inr (0, [.null, .int 0, .int 0]))] H := hP
  have hD : va_D A [(h0, .inr (1, [.ref q1, .null, .null, .null, .int 0, .int 0, .int 0, .int 0, .int 0, .int 0, .int 0])), (q1, .inr (0, [.ref q2, .int 0, .int 0])), (q2, .inl (cA3, 2000, .inl (fun _ => 0))), (q4, .inr (0, [.null, .int 0, .int 0]))] := hD
  refine lv_dup hx hb d_Wire_init_22 rfl ?_
  refine lv_sipush (v := (nI 3000)) hx hb d_Wire_init_23 (by decide) ?_
  have hPc := hP.sub (ws' := [(q4, .inr (0, [.null, .int 0, .int 0]))]) [3] rfl
  have hDc := hD.sub (ws' := [(q4, .inr (0, [.null, .int 0, .int 0]))]) [3] (by decide +kernel) rfl
  have hKc := hK.sub (tys' := []) [] rfl
  have hFc := va_free (wc := [(q4, .inr (0, [.null, .int 0, .int 0]))]) hD hS hA [3] rfl
  refine va_callv (va_runI (As := [.int (nI 3000)]) (rest := [.ref q4, .ref h0]) ⟨hx, hb, hml, hown, ht⟩ (c_Row_init l dC dI q4 H.size 3000 (by decide) (by decide)) (cwI 1 ht (xw_good k_27) rfl rfl rfl (ht _ k_2) (ht _ k_49) (ht _ k_26) rfl (by decide +kernel) ⟨(Nat.le_of_ble_eq_true rfl), (Nat.le_of_ble_eq_true rfl)⟩) ⟨fun a U g mk q => by obtain ⟨q0, q1, qP, qK, qD⟩ := q; exact ⟨q0, q1, qP, va_K.moved (u := U) (U := U.calling g mk a) (Vm.Alike.refl U.vm) qK, qD⟩, fun U hU hW => ⟨rfl, by rw [hU], by rw [hU]; exact hPc, va_K.moved hW.alike hKc, hDc.weaken (fun _ _ _ _ => trivial)⟩⟩ rfl rfl hl.1 rfl (lv_room (Nat.le_of_ble_eq_true rfl)) d_Wire_init_26 ⟨(Nat.le_of_ble_eq_true rfl), (Nat.le_of_ble_eq_true rfl)⟩) hS (fun q _ h => hFc q h) hFc (fun u t H1 locs ht9 hvm hw hB hz1 hk1 hS => ?_)
  obtain ⟨q5, cA6, hP1, hK1, hD1⟩ := hB
  rw [ht9] at hP1
  have hK1 := va_K.moved hvm.symm hK1
  obtain ⟨hP, hD⟩ := va_join (wr := [(h0, .inr (1, [.ref q1, .null, .null, .null, .int 0, .int 0, .int 0, .int 0, .int 0, .int 0, .int 0])), (q1, .inr (0, [.ref q2, .int 0, .int 0])), (q2, .inl (cA3, 2000, .inl (fun _ => 0)))]) (w1 := [(q4, .inr (0, [.ref q5, .int 0, .int 0])), (q5, .inl (cA6, 3000, .inl (fun _ => 0)))]) hP hD [3] [0, 1, 2] rfl rfl (by decide +kernel) (by decide +kernel) hk1 hFc hP1 hD1
  have hK := (hK.sub (tys' := [(cA3, .byte)]) [0] rfl).app hK1
  generalize H1 = H at hP hS ⊢
  have hP : va_P (dC, dI) classes [(h0, .inr (1, [.ref q1, .null, .null, .null, .int 0, .int 0, .int 0, .int 0, .int 0, .int 0, .int 0])), (q1, .inr (0, [.ref q2, .int 0, .int 0])), (q2, .inl (cA3, 2000, .inl (fun _ => 0))), (q4, .inr (0, [.ref q5, .int 0, .int 0])), (q5, .inl (cA6, 3000, .inl (fun _ => 0)))] H := hP
  have hD : va_D A [(h0, .inr (1, [.ref q1, .null, .null, .null, .int 0, .int 0, .int 0, .int 0, .int 0, .int 0, .int 0])), (q1, .inr (0, [.ref q2, .int 0, .int 0])), (q2, .inl (cA3, 2000, .inl (fun _ => 0))), (q4, .inr (0, [.ref q5, .int 0, .int 0])), (q5, .inl (cA6, 3000, .inl (fun _ => 0)))] := hD
  have hK : va_K (dC, dI) classes [(cA3, .byte), (cA6, .byte)] s := hK
  refine W.widen (k := 4) (n := 5006) (by omega) (by omega) ?_
  refine va_putF (D := (dC, dI)) (ci := 1) (v := .ref q4) (ty := .object "AddressHouse$Row") (C := R_Wire) (T := F_Wire) (N := 11) hx hb ht i_Wire t_Wire t_Wire_ok n_Wire hown hK hP hD hS 0 rfl rfl 1 (by decide) (ht _ k_51) (fun _ h9 => h9) rfl hin rfl (by decide +kernel) rfl rfl (Nat.le_of_ble_eq_true rfl) d_Wire_init_29 (fun H locs hP hD hS => ?_)
  have hP : va_P (dC, dI) classes [(h0, .inr (1, [.ref q1, .ref q4, .null, .null, .int 0, .int 0, .int 0, .int 0, .int 0, .int 0, .int 0])), (q1, .inr (0, [.ref q2, .int 0, .int 0])), (q2, .inl (cA3, 2000, .inl (fun _ => 0))), (q4, .inr (0, [.ref q5, .int 0, .int 0])), (q5, .inl (cA6, 3000, .inl (fun _ => 0)))] H := hP
  have hD : va_D A [(h0, .inr (1, [.ref q1, .ref q4, .null, .null, .int 0, .int 0, .int 0, .int 0, .int 0, .int 0, .int 0])), (q1, .inr (0, [.ref q2, .int 0, .int 0])), (q2, .inl (cA3, 2000, .inl (fun _ => 0))), (q4, .inr (0, [.ref q5, .int 0, .int 0])), (q5, .inl (cA6, 3000, .inl (fun _ => 0)))] := hD
  refine lv_aload_n hx hb d_Wire_init_32 rfl (lv_at hl 0 rfl) ?_
  refine lv_bipush (v := (nI 10)) hx hb d_Wire_init_33 (by decide) ?_
  refine va_newa (atype := .int) (ty := .int) (a0 := (10, .inl (fun _ => 0))) hx hb (ht _ k_69) rfl hK hP hD hS hA (fun _ => rfl) (nI_pos (by decide)) (nI_clamp (by decide)) (by decide) (Nat.le_of_ble_eq_true rfl) (Nat.le_of_ble_eq_true rfl) d_Wire_init_35 (fun q7 cA8 H hK hP hD hS => ?_)
  refine W.widen (k := 5) (n := 5016) (by omega) (by omega) ?_
  have hP : va_P (dC, dI) classes [(h0, .inr (1, [.ref q1, .ref q4, .null, .null, .int 0, .int 0, .int 0, .int 0, .int 0, .int 0, .int 0])), (q1, .inr (0, [.ref q2, .int 0, .int 0])), (q2, .inl (cA3, 2000, .inl (fun _ => 0))), (q4, .inr (0, [.ref q5, .int 0, .int 0])), (q5, .inl (cA6, 3000, .inl (fun _ => 0))), (q7, .inl (cA8, 10, .inl (fun _ => 0)))] H := hP
  have hD : va_D A [(h0, .inr (1, [.ref q1, .ref q4, .null, .null, .int 0, .int 0, .int 0, .int 0, .int 0, .int 0, .int 0])), (q1, .inr (0, [.ref q2, .int 0, .int 0])), (q2, .inl (cA3, 2000, .inl (fun _ => 0))), (q4, .inr (0, [.ref q5, .int 0, .int 0])), (q5, .inl (cA6, 3000, .inl (fun _ => 0))), (q7, .inl (cA8, 10, .inl (fun _ => 0)))] := hD
  have hK : va_K (dC, dI) classes [(cA3, .byte), (cA6, .byte), (cA8, .int)] s := hK
  refine va_putF (D := (dC, dI)) (ci := 1) (v := .ref q7) (ty := .array .int) (C := R_Wire) (T := F_Wire) (N := 11) hx hb ht i_Wire t_Wire t_Wire_ok n_Wire hown hK hP hD hS 0 rfl rfl 2 (by decide) (ht _ k_53) (fun _ h9 => h9) rfl hin rfl (by decide +kernel) rfl rfl (Nat.le_of_ble_eq_true rfl) d_Wire_init_37 (fun H locs hP hD hS => ?_)
  have hP : va_P (dC, dI) classes [(h0, .inr (1, [.ref q1, .ref q4, .ref q7, .null, .int 0, .int 0, .int 0, .int 0, .int 0, .int 0, .int 0])), (q1, .inr (0, [.ref q2, .int 0, .int 0])), (q2, .inl (cA3, 2000, .inl (fun _ => 0))), (q4, .inr (0, [.ref q5, .int 0, .int 0])), (q5, .inl (cA6, 3000, .inl (fun _ => 0))), (q7, .inl (cA8, 10, .inl (fun _ => 0)))] H := hP
  have hD : va_D A [(h0, .inr (1, [.ref q1, .ref q4, .ref q7, .null, .int 0, .int 0, .int 0, .int 0, .int 0, .int 0, .int 0])), (q1, .inr (0, [.ref q2, .int 0, .int 0])), (q2, .inl (cA3, 2000, .inl (fun _ => 0))), (q4, .inr (0, [.ref q5, .int 0, .int 0])), (q5, .inl (cA6, 3000, .inl (fun _ => 0))), (q7, .inl (cA8, 10, .inl (fun _ => 0)))] := hD
  refine lv_aload_n hx hb d_Wire_init_40 rfl (lv_at hl 0 rfl) ?_
  refine lv_bipush (v := (nI 10)) hx hb d_Wire_init_41 (by decide) ?_
  refine va_newa (atype := .int) (ty := .int) (a0 := (10, .inl (fun _ => 0))) hx hb (ht _ k_69) rfl hK hP hD hS hA (fun _ => rfl) (nI_pos (by decide)) (nI_clamp (by decide)) (by decide) (Nat.le_of_ble_eq_true rfl) (Nat.le_of_ble_eq_true rfl) d_Wire_init_43 (fun q9 cA10 H hK hP hD hS => ?_)
  refine W.widen (k := 6) (n := 5026) (by omega) (by omega) ?_
  have hP : va_P (dC, dI) classes [(h0, .inr (1, [.ref q1, .ref q4, .ref q7, .null, .int 0, .int 0, .int 0, .int 0, .int 0, .int 0, .int 0])), (q1, .inr (0, [.ref q2, .int 0, .int 0])), (q2, .inl (cA3, 2000, .inl (fun _ => 0))), (q4, .inr (0, [.ref q5, .int 0, .int 0])), (q5, .inl (cA6, 3000, .inl (fun _ => 0))), (q7, .inl (cA8, 10, .inl (fun _ => 0))), (q9, .inl (cA10, 10, .inl (fun _ => 0)))] H := hP
  have hD : va_D A [(h0, .inr (1, [.ref q1, .ref q4, .ref q7, .null, .int 0, .int 0, .int 0, .int 0, .int 0, .int 0, .int 0])), (q1, .inr (0, [.ref q2, .int 0, .int 0])), (q2, .inl (cA3, 2000, .inl (fun _ => 0))), (q4, .inr (0, [.ref q5, .int 0, .int 0])), (q5, .inl (cA6, 3000, .inl (fun _ => 0))), (q7, .inl (cA8, 10, .inl (fun _ => 0))), (q9, .inl (cA10, 10, .inl (fun _ => 0)))] := hD
  have hK : va_K (dC, dI) classes [(cA3, .byte), (cA6, .byte), (cA8, .int), (cA10, .int)] s := hK
  refine va_putF (D := (dC, dI)) (ci := 1) (v := .ref q9) (ty := .array .int) (C := R_Wire) (T := F_Wire) (N := 11) hx hb ht i_Wire t_Wire t_Wire_ok n_Wire hown hK hP hD hS 0 rfl rfl 3 (by decide) (ht _ k_54) (fun _ h9 => h9) rfl hin rfl (by decide +kernel) rfl rfl (Nat.le_of_ble_eq_true rfl) d_Wire_init_45 (fun H locs hP hD hS => ?_)
  have hP : va_P (dC, dI) classes [(h0, .inr (1, [.ref q1, .ref q4, .ref q7, .ref q9, .int 0, .int 0, .int 0, .int 0, .int 0, .int 0, .int 0])), (q1, .inr (0, [.ref q2, .int 0, .int 0])), (q2, .inl (cA3, 2000, .inl (fun _ => 0))), (q4, .inr (0, [.ref q5, .int 0, .int 0])), (q5, .inl (cA6, 3000, .inl (fun _ => 0))), (q7, .inl (cA8, 10, .inl (fun _ => 0))), (q9, .inl (cA10, 10, .inl (fun _ => 0)))] H := hP
  have hD : va_D A [(h0, .inr (1, [.ref q1, .ref q4, .ref q7, .ref q9, .int 0, .int 0, .int 0, .int 0, .int 0, .int 0, .int 0])), (q1, .inr (0, [.ref q2, .int 0, .int 0])), (q2, .inl (cA3, 2000, .inl (fun _ => 0))), (q4, .inr (0, [.ref q5, .int 0, .int 0])), (q5, .inl (cA6, 3000, .inl (fun _ => 0))), (q7, .inl (cA8, 10, .inl (fun _ => 0))), (q9, .inl (cA10, 10, .inl (fun _ => 0)))] := hD
  have hP9 := hP.sub (ws' := [(h0, .inr (1, [.ref q1, .ref q4, .ref q7, .ref q9, .int 0, .int 0, .int 0, .int 0, .int 0, .int 0, .int 0])), (q1, .inr (0, [.ref q2, .int 0, .int 0])), (q4, .inr (0, [.ref q5, .int 0, .int 0]))]) [0, 1, 3] rfl
  have hD9 := hD.sub (ws' := [(h0, .inr (1, [.ref q1, .ref q4, .ref q7, .ref q9, .int 0, .int 0, .int 0, .int 0, .int 0, .int 0, .int 0])), (q1, .inr (0, [.ref q2, .int 0, .int 0])), (q4, .inr (0, [.ref q5, .int 0, .int 0]))]) [0, 1, 3] (by decide +kernel) rfl
  have hK9 := hK.sub (tys' := []) [] rfl
  exact W.vret hx hb hr (fun t ht9 hW => ⟨⟨(), rfl, trivial, q1, q4, q7, q9, q2, q5, by rw [ht9]; exact hP9, va_K.moved hW.alike hK9, hD9⟩, hS.F ht9⟩) hS.2.2 d_Wire_init_48
