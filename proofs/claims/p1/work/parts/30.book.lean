theorem d_Item_init_0 : decode b_Item_init 0 = .ok (.aload_n 0, 1) := by decide +kernel
theorem d_Item_init_1 : decode b_Item_init 1 = .ok (.invokespecial 3, 3) := by decide +kernel
theorem d_Item_init_4 : decode b_Item_init 4 = .ok (.aload_n 0, 1) := by decide +kernel
theorem d_Item_init_5 : decode b_Item_init 5 = .ok (.iconst (-1), 1) := by decide +kernel
theorem d_Item_init_6 : decode b_Item_init 6 = .ok (.putfield 9, 3) := by decide +kernel
theorem d_Item_init_9 : decode b_Item_init 9 = .ok (.aload_n 0, 1) := by decide +kernel
theorem d_Item_init_10 : decode b_Item_init 10 = .ok (.new 15, 3) := by decide +kernel
theorem d_Item_init_13 : decode b_Item_init 13 = .ok (.dup, 1) := by decide +kernel
theorem d_Item_init_14 : decode b_Item_init 14 = .ok (.bipush 20, 2) := by decide +kernel
theorem d_Item_init_16 : decode b_Item_init 16 = .ok (.invokespecial 17, 3) := by decide +kernel
theorem d_Item_init_19 : decode b_Item_init 19 = .ok (.putfield 20, 3) := by decide +kernel
theorem d_Item_init_22 : decode b_Item_init 22 = .ok (.aload_n 0, 1) := by decide +kernel
theorem d_Item_init_23 : decode b_Item_init 23 = .ok (.new 15, 3) := by decide +kernel
theorem d_Item_init_26 : decode b_Item_init 26 = .ok (.dup, 1) := by decide +kernel
theorem d_Item_init_27 : decode b_Item_init 27 = .ok (.sipush 2000, 3) := by decide +kernel
theorem d_Item_init_30 : decode b_Item_init 30 = .ok (.invokespecial 17, 3) := by decide +kernel
theorem d_Item_init_33 : decode b_Item_init 33 = .ok (.putfield 26, 3) := by decide +kernel
theorem d_Item_init_36 : decode b_Item_init 36 = .ok (.aload_n 0, 1) := by decide +kernel
theorem d_Item_init_37 : decode b_Item_init 37 = .ok (.new 15, 3) := by decide +kernel
theorem d_Item_init_40 : decode b_Item_init 40 = .ok (.dup, 1) := by decide +kernel
theorem d_Item_init_41 : decode b_Item_init 41 = .ok (.sipush 800, 3) := by decide +kernel
theorem d_Item_init_44 : decode b_Item_init 44 = .ok (.invokespecial 17, 3) := by decide +kernel
theorem d_Item_init_47 : decode b_Item_init 47 = .ok (.putfield 29, 3) := by decide +kernel
theorem d_Item_init_50 : decode b_Item_init 50 = .ok (.return_, 1) := by decide +kernel
theorem d_Book_init_0 : decode b_Book_init 0 = .ok (.aload_n 0, 1) := by decide +kernel
theorem d_Book_init_1 : decode b_Book_init 1 = .ok (.invokespecial 3, 3) := by decide +kernel
theorem d_Book_init_4 : decode b_Book_init 4 = .ok (.aload_n 0, 1) := by decide +kernel
theorem d_Book_init_5 : decode b_Book_init 5 = .ok (.iconst (-1), 1) := by decide +kernel
theorem d_Book_init_6 : decode b_Book_init 6 = .ok (.putfield 9, 3) := by decide +kernel
theorem d_Book_init_9 : decode b_Book_init 9 = .ok (.aload_n 0, 1) := by decide +kernel
theorem d_Book_init_10 : decode b_Book_init 10 = .ok (.new 15, 3) := by decide +kernel
theorem d_Book_init_13 : decode b_Book_init 13 = .ok (.dup, 1) := by decide +kernel
theorem d_Book_init_14 : decode b_Book_init 14 = .ok (.bipush 20, 2) := by decide +kernel
theorem d_Book_init_16 : decode b_Book_init 16 = .ok (.invokespecial 17, 3) := by decide +kernel
theorem d_Book_init_19 : decode b_Book_init 19 = .ok (.putfield 20, 3) := by decide +kernel
theorem d_Book_init_22 : decode b_Book_init 22 = .ok (.aload_n 0, 1) := by decide +kernel
theorem d_Book_init_23 : decode b_Book_init 23 = .ok (.new 15, 3) := by decide +kernel
theorem d_Book_init_26 : decode b_Book_init 26 = .ok (.dup, 1) := by decide +kernel
theorem d_Book_init_27 : decode b_Book_init 27 = .ok (.bipush 60, 2) := by decide +kernel
theorem d_Book_init_29 : decode b_Book_init 29 = .ok (.invokespecial 17, 3) := by decide +kernel
theorem d_Book_init_32 : decode b_Book_init 32 = .ok (.putfield 24, 3) := by decide +kernel
theorem d_Book_init_35 : decode b_Book_init 35 = .ok (.aload_n 0, 1) := by decide +kernel
theorem d_Book_init_36 : decode b_Book_init 36 = .ok (.new 15, 3) := by decide +kernel
theorem d_Book_init_39 : decode b_Book_init 39 = .ok (.dup, 1) := by decide +kernel
theorem d_Book_init_40 : decode b_Book_init 40 = .ok (.bipush 60, 2) := by decide +kernel
theorem d_Book_init_42 : decode b_Book_init 42 = .ok (.invokespecial 17, 3) := by decide +kernel
theorem d_Book_init_45 : decode b_Book_init 45 = .ok (.putfield 27, 3) := by decide +kernel
theorem d_Book_init_48 : decode b_Book_init 48 = .ok (.aload_n 0, 1) := by decide +kernel
theorem d_Book_init_49 : decode b_Book_init 49 = .ok (.iconst 4, 1) := by decide +kernel
theorem d_Book_init_50 : decode b_Book_init 50 = .ok (.newarray .int, 2) := by decide +kernel
theorem d_Book_init_52 : decode b_Book_init 52 = .ok (.putfield 32, 3) := by decide +kernel
theorem d_Book_init_55 : decode b_Book_init 55 = .ok (.aload_n 0, 1) := by decide +kernel
theorem d_Book_init_56 : decode b_Book_init 56 = .ok (.bipush 20, 2) := by decide +kernel
theorem d_Book_init_58 : decode b_Book_init 58 = .ok (.anewarray 15, 3) := by decide +kernel
theorem d_Book_init_61 : decode b_Book_init 61 = .ok (.putfield 36, 3) := by decide +kernel
theorem d_Book_init_64 : decode b_Book_init 64 = .ok (.iconst 0, 1) := by decide +kernel
theorem d_Book_init_65 : decode b_Book_init 65 = .ok (.istore_n 1, 1) := by decide +kernel
theorem d_Book_init_66 : decode b_Book_init 66 = .ok (.iload_n 1, 1) := by decide +kernel
theorem d_Book_init_67 : decode b_Book_init 67 = .ok (.bipush 20, 2) := by decide +kernel
theorem d_Book_init_69 : decode b_Book_init 69 = .ok (.if_icmp .ge 24, 3) := by decide +kernel
theorem d_Book_init_72 : decode b_Book_init 72 = .ok (.aload_n 0, 1) := by decide +kernel
theorem d_Book_init_73 : decode b_Book_init 73 = .ok (.getfield 36, 3) := by decide +kernel
theorem d_Book_init_76 : decode b_Book_init 76 = .ok (.iload_n 1, 1) := by decide +kernel
theorem d_Book_init_77 : decode b_Book_init 77 = .ok (.new 15, 3) := by decide +kernel
theorem d_Book_init_80 : decode b_Book_init 80 = .ok (.dup, 1) := by decide +kernel
theorem d_Book_init_81 : decode b_Book_init 81 = .ok (.bipush 20, 2) := by decide +kernel
theorem d_Book_init_83 : decode b_Book_init 83 = .ok (.invokespecial 17, 3) := by decide +kernel
theorem d_Book_init_86 : decode b_Book_init 86 = .ok (.aastore, 1) := by decide +kernel
theorem d_Book_init_87 : decode b_Book_init 87 = .ok (.iinc 1 1, 3) := by decide +kernel
theorem d_Book_init_90 : decode b_Book_init 90 = .ok (.goto (-24), 3) := by decide +kernel
theorem d_Book_init_93 : decode b_Book_init 93 = .ok (.aload_n 0, 1) := by decide +kernel
theorem d_Book_init_94 : decode b_Book_init 94 = .ok (.bipush 20, 2) := by decide +kernel
theorem d_Book_init_96 : decode b_Book_init 96 = .ok (.newarray .int, 2) := by decide +kernel
theorem d_Book_init_98 : decode b_Book_init 98 = .ok (.putfield 40, 3) := by decide +kernel
theorem d_Book_init_101 : decode b_Book_init 101 = .ok (.return_, 1) := by decide +kernel
set_option maxHeartbeats 4000000 in
set_option maxRecDepth 100000 in
/-- Item(): of no book -/
theorem c_Item_init (l : Launch) (dC : Nat → ClassId) (dI : Nat → Nat → Nat) (hN : xn_ok dC dI) (h0 sz : Nat) : Met l y_Item_init (Cond.code y_Item_init b_Item_init 1 none :: xw0) ({ frames := 2, cells := 6, slots := 2829, locals := 40 }) (va_Pc [.ref h0] (fun U => U.heap.size = sz ∧ va_P (dC, dI) classes [(h0, .inr (3, [.int 0, .int 0, .null, .null, .null]))] U.heap ∧ va_K (dC, dI) classes [] U ∧ va_D (fun _ => True) [(h0, .inr (3, [.int 0, .int 0, .null, .null, .null]))])) (va_Qv (fun _ : Unit => True) (fun (_ : Unit) (t : State) => va_P (dC, dI) classes [(h0, .inr (15, [.int (-1)]))] t.heap ∧ va_K (dC, dI) classes [] t ∧ va_D (va_A [(h0, .inr (3, [.int 0, .int 0, .null, .null, .null]))] sz) [(h0, .inr (15, [.int (-1)]))]) (va_A [(h0, .inr (3, [.int 0, .int 0, .null, .null, .null]))] sz)) 6 2829 (va_A [(h0, .inr (3, [.int 0, .int 0, .null, .null, .null]))] sz) := by
  refine Met.ofW (cc := b_Item_init) (maxL := 1) (ret := none) (by decide) rfl ?_
  intro p e s m args below meth c s₁ B hml hv
  obtain ⟨rfl, hsz, hP, hK, hD0⟩ := hv
  have hx := B.exec
  have hb := B.bytes
  have hr := B.returns
  have hts := atoms_spec (ws := Cond.code y_Item_init b_Item_init 1 none :: xw0) B.pre
  have ht : ∀ w ∈ xw0, w.before _ s = true := fun w h => hts w (List.mem_cons_of_mem _ h)
  have hown : s.vm.findClass R_Item = some m.cls := findClass_of_methodNamed B.named
  have hlocks := B.notSynchronized
  have hin : meth.name = "<init>" := (name_of_methodNamed B.named B.method).1
  subst hsz
  have hD := hD0.self (sz := s.heap.size)
  generalize hAe : va_A [(h0, .inr (3, [.int 0, .int 0, .null, .null, .null]))] s.heap.size = A at hD ⊢
  have hA : ∀ q : Nat, s.heap.size ≤ q → A q := fun q h => by rw [← hAe]; exact Or.inr h
  have hS : va_S A s.heap s.heap [] := va_S.rf
  have hP : va_P (dC, dI) classes [(h0, .inr (3, [.int 0, .int 0, .null, .null, .null]))] s.heap := hP
  have hl := lv_entry ([.ref h0]) (n := 1) (Nat.le_of_ble_eq_true rfl)
  rw [lg_entry_eq]
  generalize (lg_sl ([.ref h0]) ++ List.replicate (1 - (lg_sl ([.ref h0])).length) Slot.unset).toArray = ls at hl ⊢
  have hl : lv_has ls 1 [(0, .ref h0)] := hl
  refine lv_aload_n hx hb d_Item_init_0 rfl (lv_at hl 0 rfl) ?_
  refine W.objInit hx hb hown (ht _ k_113) (ht _ k_21) (ht _ k_22) rfl (by rw [hml]; exact hl.1) rfl d_Item_init_1 (Nat.le_of_ble_eq_true rfl) (Nat.le_of_ble_eq_true rfl) ?_
  refine W.eq (g2 := F0 m 4 ls []) rfl ?_
  refine lv_aload_n hx hb d_Item_init_4 rfl (lv_at hl 0 rfl) ?_
  refine lv_iconst (v := (-1)) hx hb d_Item_init_5 (by decide) ?_
  refine va_put (D := (dC, dI)) (ci := 3) (v := .int (-1)) (ty := .int) (C := R_Item) (T := F_Item) (N := 5) hx hb ht i_Item t_Item t_Item_ok n_Item hown hK hP hD hS 0 rfl rfl 0 (by decide) (ht _ k_116) (fun _ h9 => h9) rfl (by decide +kernel) rfl rfl (Nat.le_of_ble_eq_true rfl) d_Item_init_6 (fun H locs hP hD hS => ?_)
  have hP : va_P (dC, dI) classes [(h0, .inr (3, [.int (-1), .int 0, .null, .null, .null]))] H := hP
  have hD : va_D A [(h0, .inr (3, [.int (-1), .int 0, .null, .null, .null]))] := hD
  refine lv_aload_n hx hb d_Item_init_9 rfl (lv_at hl 0 rfl) ?_
  refine va_new (ci := 0) (fs := [.null, .int 0, .int 0]) (C := R_Row) (T := F_Row) (N := 3) hx hb ht i_Row t_Row t_Row_ok hown (ht _ k_114) (ht _ k_24) (ht _ k_2) hK hP hD hS hA rfl (fun j hj => by rcases (show j = 0 ∨ j = 1 ∨ j = 2 by omega) with rfl | rfl | rfl <;> rfl) (Nat.le_of_ble_eq_true rfl) (Nat.le_of_ble_eq_true rfl) d_Item_init_10 (fun q1 H hP hD hS => ?_)
  refine W.widen (k := 1) (n := 3) (by omega) (by omega) ?_
  have hP : va_P (dC, dI) classes [(h0, .inr (3, [.int (-1), .int 0, .null, .null, .null])), (q1, .inr (0, [.null, .int 0, .int 0]))] H := hP
  have hD : va_D A [(h0, .inr (3, [.int (-1), .int 0, .null, .null, .null])), (q1, .inr (0, [.null, .int 0, .int 0]))] := hD
  refine lv_dup hx hb d_Item_init_13 rfl ?_
  refine lv_bipush (v := (nI 20)) hx hb d_Item_init_14 (by decide) ?_
  have hPc := hP.sub (ws' := [(q1, .inr (0, [.null, .int 0, .int 0]))]) [1] rfl
  have hDc := hD.sub (ws' := [(q1, .inr (0, [.null, .int 0, .int 0]))]) [1] (by decide +kernel) rfl
  have hKc := hK.sub (tys' := []) [] rfl
  have hFc := va_free (wc := [(q1, .inr (0, [.null, .int 0, .int 0]))]) hD hS hA [1] rfl
  refine va_callv (va_runI (As := [.int (nI 20)]) (rest := [.ref q1, .ref h0]) ⟨hx, hb, hml, hown, ht⟩ (c_Row_init l dC dI q1 H.size 20 (by decide) (by decide)) (cwI 1 ht (xw_good k_27) rfl rfl rfl (ht _ k_2) (ht _ k_115) (ht _ k_26) rfl (by decide +kernel) ⟨(Nat.le_of_ble_eq_true rfl), (Nat.le_of_ble_eq_true rfl)⟩) ⟨fun a U g mk q => by obtain ⟨q0, q1, qP, qK, qD⟩ := q; exact ⟨q0, q1, qP, va_K.moved (u := U) (U := U.calling g mk a) (Vm.Alike.refl U.vm) qK, qD⟩, fun U hU hW => ⟨rfl, by rw [hU], by rw [hU]; exact hPc, va_K.moved hW.alike hKc, hDc.weaken (fun _ _ _ _ => trivial)⟩⟩ rfl rfl hl.1 rfl (lv_room (Nat.le_of_ble_eq_true rfl)) d_Item_init_16 ⟨(Nat.le_of_ble_eq_true rfl), (Nat.le_of_ble_eq_true rfl)⟩) hS (fun q _ h => hFc q h) hFc (fun u t H1 locs ht9 hvm hw hB hz1 hk1 hS => ?_)
  obtain ⟨q2, cA3, hP1, hK1, hD1⟩ := hB
  rw [ht9] at hP1
  have hK1 := va_K.moved hvm.symm hK1
  obtain ⟨hP, hD⟩ := va_join (wr := [(h0, .inr (3, [.int (-1), .int 0, .null, .null, .null]))]) (w1 := [(q1, .inr (0, [.ref q2, .int 0, .int 0])), (q2, .inl (cA3, 20, .inl (fun _ => 0)))]) hP hD [1] [0] rfl rfl (by decide +kernel) (by decide +kernel) hk1 hFc hP1 hD1
  have hK := (hK.sub (tys' := []) [] rfl).app hK1
  generalize H1 = H at hP hS ⊢
  have hP : va_P (dC, dI) classes [(h0, .inr (3, [.int (-1), .int 0, .null, .null, .null])), (q1, .inr (0, [.ref q2, .int 0, .int 0])), (q2, .inl (cA3, 20, .inl (fun _ => 0)))] H := hP
  have hD : va_D A [(h0, .inr (3, [.int (-1), .int 0, .null, .null, .null])), (q1, .inr (0, [.ref q2, .int 0, .int 0])), (q2, .inl (cA3, 20, .inl (fun _ => 0)))] := hD
  have hK : va_K (dC, dI) classes [(cA3, .byte)] s := hK
  refine W.widen (k := 2) (n := 23) (by omega) (by omega) ?_
  refine va_putF (D := (dC, dI)) (ci := 3) (v := .ref q1) (ty := .object "AddressHouse$Row") (C := R_Item) (T := F_Item) (N := 5) hx hb ht i_Item t_Item t_Item_ok n_Item hown hK hP hD hS 0 rfl rfl 2 (by decide) (ht _ k_118) (fun _ h9 => h9) rfl hin rfl (by decide +kernel) rfl rfl (Nat.le_of_ble_eq_true rfl) d_Item_init_19 (fun H locs hP hD hS => ?_)
  have hP : va_P (dC, dI) classes [(h0, .inr (3, [.int (-1), .int 0, .ref q1, .null, .null])), (q1, .inr (0, [.ref q2, .int 0, .int 0])), (q2, .inl (cA3, 20, .inl (fun _ => 0)))] H := hP
  have hD : va_D A [(h0, .inr (3, [.int (-1), .int 0, .ref q1, .null, .null])), (q1, .inr (0, [.ref q2, .int 0, .int 0])), (q2, .inl (cA3, 20, .inl (fun _ => 0)))] := hD
  refine lv_aload_n hx hb d_Item_init_22 rfl (lv_at hl 0 rfl) ?_
  refine va_new (ci := 0) (fs := [.null, .int 0, .int 0]) (C := R_Row) (T := F_Row) (N := 3) hx hb ht i_Row t_Row t_Row_ok hown (ht _ k_114) (ht _ k_24) (ht _ k_2) hK hP hD hS hA rfl (fun j hj => by rcases (show j = 0 ∨ j = 1 ∨ j = 2 by omega) with rfl | rfl | rfl <;> rfl) (Nat.le_of_ble_eq_true rfl) (Nat.le_of_ble_eq_true rfl) d_Item_init_23 (fun q4 H hP hD hS => ?_)
  refine W.widen (k := 3) (n := 26) (by omega) (by omega) ?_
  have hP : va_P (dC, dI) classes [(h0, .inr (3, [.int (-1), .int 0, .ref q1, .null, .null])), (q1, .inr (0, [.ref q2, .int 0, .int 0])), (q2, .inl (cA3, 20, .inl (fun _ => 0))), (q4, .inr (0, [.null, .int 0, .int 0]))] H := hP
  have hD : va_D A [(h0, .inr (3, [.int (-1), .int 0, .ref q1, .null, .null])), (q1, .inr (0, [.ref q2, .int 0, .int 0])), (q2, .inl (cA3, 20, .inl (fun _ => 0))), (q4, .inr (0, [.null, .int 0, .int 0]))] := hD
  refine lv_dup hx hb d_Item_init_26 rfl ?_
  refine lv_sipush (v := (nI 2000)) hx hb d_Item_init_27 (by decide) ?_
  have hPc := hP.sub (ws' := [(q4, .inr (0, [.null, .int 0, .int 0]))]) [3] rfl
  have hDc := hD.sub (ws' := [(q4, .inr (0, [.null, .int 0, .int 0]))]) [3] (by decide +kernel) rfl
  have hKc := hK.sub (tys' := []) [] rfl
  have hFc := va_free (wc := [(q4, .inr (0, [.null, .int 0, .int 0]))]) hD hS hA [3] rfl
  refine va_callv (va_runI (As := [.int (nI 2000)]) (rest := [.ref q4, .ref h0]) ⟨hx, hb, hml, hown, ht⟩ (c_Row_init l dC dI q4 H.size 2000 (by decide) (by decide)) (cwI 1 ht (xw_good k_27) rfl rfl rfl (ht _ k_2) (ht _ k_115) (ht _ k_26) rfl (by decide +kernel) ⟨(Nat.le_of_ble_eq_true rfl), (Nat.le_of_ble_eq_true rfl)⟩) ⟨fun a U g mk q => by obtain ⟨q0, q1, qP, qK, qD⟩ := q; exact ⟨q0, q1, qP, va_K.moved (u := U) (U := U.calling g mk a) (Vm.Alike.refl U.vm) qK, qD⟩, fun U hU hW => ⟨rfl, by rw [hU], by rw [hU]; exact hPc, va_K.moved hW.alike hKc, hDc.weaken (fun _ _ _ _ => trivial)⟩⟩ rfl rfl hl.1 rfl (lv_room (Nat.le_of_ble_eq_true rfl)) d_Item_init_30 ⟨(Nat.le_of_ble_eq_true rfl), (Nat.le_of_ble_eq_true rfl)⟩) hS (fun q _ h => hFc q h) hFc (fun u t H1 locs ht9 hvm hw hB hz1 hk1 hS => ?_)
  obtain ⟨q5, cA6, hP1, hK1, hD1⟩ := hB
  rw [ht9] at hP1
  have hK1 := va_K.moved hvm.symm hK1
  obtain ⟨hP, hD⟩ := va_join (wr := [(h0, .inr (3, [.int (-1), .int 0, .ref q1, .null, .null])), (q1, .inr (0, [.ref q2, .int 0, .int 0])), (q2, .inl (cA3, 20, .inl (fun _ => 0)))]) (w1 := [(q4, .inr (0, [.ref q5, .int 0, .int 0])), (q5, .inl (cA6, 2000, .inl (fun _ => 0)))]) hP hD [3] [0, 1, 2] rfl rfl (by decide +kernel) (by decide +kernel) hk1 hFc hP1 hD1
  have hK := (hK.sub (tys' := [(cA3, .byte)]) [0] rfl).app hK1
  generalize H1 = H at hP hS ⊢
  have hP : va_P (dC, dI) classes [(h0, .inr (3, [.int (-1), .int 0, .ref q1, .null, .null])), (q1, .inr (0, [.ref q2, .int 0, .int 0])), (q2, .inl (cA3, 20, .inl (fun _ => 0))), (q4, .inr (0, [.ref q5, .int 0, .int 0])), (q5, .inl (cA6, 2000, .inl (fun _ => 0)))] H := hP
  have hD : va_D A [(h0, .inr (3, [.int (-1), .int 0, .ref q1, .null, .null])), (q1, .inr (0, [.ref q2, .int 0, .int 0])), (q2, .inl (cA3, 20, .inl (fun _ => 0))), (q4, .inr (0, [.ref q5, .int 0, .int 0])), (q5, .inl (cA6, 2000, .inl (fun _ => 0)))] := hD
  have hK : va_K (dC, dI) classes [(cA3, .byte), (cA6, .byte)] s := hK
  refine W.widen (k := 4) (n := 2026) (by omega) (by omega) ?_
  refine va_putF (D := (dC, dI)) (ci := 3) (v := .ref q4) (ty := .object "AddressHouse$Row") (C := R_Item) (T := F_Item) (N := 5) hx hb ht i_Item t_Item t_Item_ok n_Item hown hK hP hD hS 0 rfl rfl 3 (by decide) (ht _ k_119) (fun _ h9 => h9) rfl hin rfl (by decide +kernel) rfl rfl (Nat.le_of_ble_eq_true rfl) d_Item_init_33 (fun H locs hP hD hS => ?_)
  have hP : va_P (dC, dI) classes [(h0, .inr (3, [.int (-1), .int 0, .ref q1, .ref q4, .null])), (q1, .inr (0, [.ref q2, .int 0, .int 0])), (q2, .inl (cA3, 20, .inl (fun _ => 0))), (q4, .inr (0, [.ref q5, .int 0, .int 0])), (q5, .inl (cA6, 2000, .inl (fun _ => 0)))] H := hP
  have hD : va_D A [(h0, .inr (3, [.int (-1), .int 0, .ref q1, .ref q4, .null])), (q1, .inr (0, [.ref q2, .int 0, .int 0])), (q2, .inl (cA3, 20, .inl (fun _ => 0))), (q4, .inr (0, [.ref q5, .int 0, .int 0])), (q5, .inl (cA6, 2000, .inl (fun _ => 0)))] := hD
  refine lv_aload_n hx hb d_Item_init_36 rfl (lv_at hl 0 rfl) ?_
  refine va_new (ci := 0) (fs := [.null, .int 0, .int 0]) (C := R_Row) (T := F_Row) (N := 3) hx hb ht i_Row t_Row t_Row_ok hown (ht _ k_114) (ht _ k_24) (ht _ k_2) hK hP hD hS hA rfl (fun j hj => by rcases (show j = 0 ∨ j = 1 ∨ j = 2 by omega) with rfl | rfl | rfl <;> rfl) (Nat.le_of_ble_eq_true rfl) (Nat.le_of_ble_eq_true rfl) d_Item_init_37 (fun q7 H hP hD hS => ?_)
  refine W.widen (k := 5) (n := 2029) (by omega) (by omega) ?_
  have hP : va_P (dC, dI) classes [(h0, .inr (3, [.int (-1), .int 0, .ref q1, .ref q4, .null])), (q1, .inr (0, [.ref q2, .int 0, .int 0])), (q2, .inl (cA3, 20, .inl (fun _ => 0))), (q4, .inr (0, [.ref q5, .int 0, .int 0])), (q5, .inl (cA6, 2000, .inl (fun _ => 0))), (q7, .inr (0, [.null, .int 0, .int 0]))] H := hP
  have hD : va_D A [(h0, .inr (3, [.int (-1), .int 0, .ref q1, .ref q4, .null])), (q1, .inr (0, [.ref q2, .int 0, .int 0])), (q2, .inl (cA3, 20, .inl (fun _ => 0))), (q4, .inr (0, [.ref q5, .int 0, .int 0])), (q5, .inl (cA6, 2000, .inl (fun _ => 0))), (q7, .inr (0, [.null, .int 0, .int 0]))] := hD
  refine lv_dup hx hb d_Item_init_40 rfl ?_
  refine lv_sipush (v := (nI 800)) hx hb d_Item_init_41 (by decide) ?_
  have hPc := hP.sub (ws' := [(q7, .inr (0, [.null, .int 0, .int 0]))]) [5] rfl
  have hDc := hD.sub (ws' := [(q7, .inr (0, [.null, .int 0, .int 0]))]) [5] (by decide +kernel) rfl
  have hKc := hK.sub (tys' := []) [] rfl
  have hFc := va_free (wc := [(q7, .inr (0, [.null, .int 0, .int 0]))]) hD hS hA [5] rfl
  refine va_callv (va_runI (As := [.int (nI 800)]) (rest := [.ref q7, .ref h0]) ⟨hx, hb, hml, hown, ht⟩ (c_Row_init l dC dI q7 H.size 800 (by decide) (by decide)) (cwI 1 ht (xw_good k_27) rfl rfl rfl (ht _ k_2) (ht _ k_115) (ht _ k_26) rfl (by decide +kernel) ⟨(Nat.le_of_ble_eq_true rfl), (Nat.le_of_ble_eq_true rfl)⟩) ⟨fun a U g mk q => by obtain ⟨q0, q1, qP, qK, qD⟩ := q; exact ⟨q0, q1, qP, va_K.moved (u := U) (U := U.calling g mk a) (Vm.Alike.refl U.vm) qK, qD⟩, fun U hU hW => ⟨rfl, by rw [hU], by rw [hU]; exact hPc, va_K.moved hW.alike hKc, hDc.weaken (fun _ _ _ _ => trivial)⟩⟩ rfl rfl hl.1 rfl (lv_room (Nat.le_of_ble_eq_true rfl)) d_Item_init_44 ⟨(Nat.le_of_ble_eq_true rfl), (Nat.le_of_ble_eq_true rfl)⟩) hS (fun q _ h => hFc q h) hFc (fun u t H1 locs ht9 hvm hw hB hz1 hk1 hS => ?_)
  obtain ⟨q8, cA9, hP1, hK1, hD1⟩ := hB
  rw [ht9] at hP1
  have hK1 := va_K.moved hvm.symm hK1
  obtain ⟨hP, hD⟩ := va_join (wr := [(h0, .inr (3, [.int (-1), .int 0, .ref q1, .ref q4, .null])), (q1, .inr (0, [.ref q2, .int 0, .int 0])), (q2, .inl (cA3, 20, .inl (fun _ => 0))), (q4, .inr (0, [.ref q5, .int 0, .int 0])), (q5, .inl (cA6, 2000, .inl (fun _ => 0)))]) (w1 := [(q7, .inr (0, [.ref q8, .int 0, .int 0])), (q8, .inl (cA9, 800, .inl (fun _ => 0)))]) hP hD [5] [0, 1, 2, 3, 4] rfl rfl (by decide +kernel) (by decide +kernel) hk1 hFc hP1 hD1
  have hK := (hK.sub (tys' := [(cA3, .byte), (cA6, .byte)]) [0, 1] rfl).app hK1
  generalize H1 = H at hP hS ⊢
  have hP : va_P (dC, dI) classes [(h0, .inr (3, [.int (-1), .int 0, .ref q1, .ref q4, .null])), (q1, .inr (0, [.ref q2, .int 0, .int 0])), (q2, .inl (cA3, 20, .inl (fun _ => 0))), (q4, .inr (0, [.ref q5, .int 0, .int 0])), (q5, .inl (cA6, 2000, .inl (fun _ => 0))), (q7, .inr (0, [.ref q8, .int 0, .int 0])), (q8, .inl (cA9, 800, .inl (fun _ => 0)))] H := hP
  have hD : va_D A [(h0, .inr (3, [.int (-1), .int 0, .ref q1, .ref q4, .null])), (q1, .inr (0, [.ref q2, .int 0, .int 0])), (q2, .inl (cA3, 20, .inl (fun _ => 0))), (q4, .inr (0, [.ref q5, .int 0, .int 0])), (q5, .inl (cA6, 2000, .inl (fun _ => 0))), (q7, .inr (0, [.ref q8, .int 0, .int 0])), (q8, .inl (cA9, 800, .inl (fun _ => 0)))] := hD
  have hK : va_K (dC, dI) classes [(cA3, .byte), (cA6, .byte), (cA9, .byte)] s := hK
  refine W.widen (k := 6) (n := 2829) (by omega) (by omega) ?_
  refine va_putF (D := (dC, dI)) (ci := 3) (v := .ref q7) (ty := .object "AddressHouse$Row") (C := R_Item) (T := F_Item) (N := 5) hx hb ht i_Item t_Item t_Item_ok n_Item hown hK hP hD hS 0 rfl rfl 4 (by decide) (ht _ k_120) (fun _ h9 => h9) rfl hin rfl (by decide +kernel) rfl rfl (Nat.le_of_ble_eq_true rfl) d_Item_init_47 (fun H locs hP hD hS => ?_)
  have hP : va_P (dC, dI) classes [(h0, .inr (3, [.int (-1), .int 0, .ref q1, .ref q4, .ref q7])), (q1, .inr (0, [.ref q2, .int 0, .int 0])), (q2, .inl (cA3, 20, .inl (fun _ => 0))), (q4, .inr (0, [.ref q5, .int 0, .int 0])), (q5, .inl (cA6, 2000, .inl (fun _ => 0))), (q7, .inr (0, [.ref q8, .int 0, .int 0])), (q8, .inl (cA9, 800, .inl (fun _ => 0)))] H := hP
  have hD : va_D A [(h0, .inr (3, [.int (-1), .int 0, .ref q1, .ref q4, .ref q7])), (q1, .inr (0, [.ref q2, .int 0, .int 0])), (q2, .inl (cA3, 20, .inl (fun _ => 0))), (q4, .inr (0, [.ref q5, .int 0, .int 0])), (q5, .inl (cA6, 2000, .inl (fun _ => 0))), (q7, .inr (0, [.ref q8, .int 0, .int 0])), (q8, .inl (cA9, 800, .inl (fun _ => 0)))] := hD
  obtain ⟨hP, hD⟩ := xn_cell (D := (dC, dI)) (ci := 3) (cj := 15) (gs := [.int (-1)]) (ix := ixI) hP hD 0 rfl rfl rfl hN.2.2.1 ixI_lt (fun k hk => by rcases (show k = 0 by omega) with rfl <;> rfl)
  have hP : va_P (dC, dI) classes [(h0, .inr (15, [.int (-1)])), (q1, .inr (0, [.ref q2, .int 0, .int 0])), (q2, .inl (cA3, 20, .inl (fun _ => 0))), (q4, .inr (0, [.ref q5, .int 0, .int 0])), (q5, .inl (cA6, 2000, .inl (fun _ => 0))), (q7, .inr (0, [.ref q8, .int 0, .int 0])), (q8, .inl (cA9, 800, .inl (fun _ => 0)))] H := hP
  have hD : va_D A [(h0, .inr (15, [.int (-1)])), (q1, .inr (0, [.ref q2, .int 0, .int 0])), (q2, .inl (cA3, 20, .inl (fun _ => 0))), (q4, .inr (0, [.ref q5, .int 0, .int 0])), (q5, .inl (cA6, 2000, .inl (fun _ => 0))), (q7, .inr (0, [.ref q8, .int 0, .int 0])), (q8, .inl (cA9, 800, .inl (fun _ => 0)))] := hD
  have hP9 := hP.sub (ws' := [(h0, .inr (15, [.int (-1)]))]) [0] rfl
  have hD9 := hD.sub (ws' := [(h0, .inr (15, [.int (-1)]))]) [0] (by decide +kernel) rfl
  have hK9 := hK.sub (tys' := []) [] rfl
  exact W.vret hx hb hr (fun t ht9 hW => ⟨⟨(), rfl, trivial, by rw [ht9]; exact hP9, va_K.moved hW.alike hK9, hD9⟩, hS.F ht9⟩) hS.2.2 d_Item_init_50
set_option maxHeartbeats 4000000 in
set_option maxRecDepth 100000 in
/-- Book(): of no owner -/
theorem c_Book_init (l : Launch) (dC : Nat → ClassId) (dI : Nat → Nat → Nat) (hN : xn_ok dC dI) (h0 sz : Nat) : Met l y_Book_init (Cond.code y_Book_init b_Book_init 2 none :: xw0) ({ frames := 2, cells := 49, slots := 653, locals := 40 }) (va_Pc [.ref h0] (fun U => U.heap.size = sz ∧ va_P (dC, dI) classes [(h0, .inr (2, [.int 0, .int 0, .null, .null, .int 0, .null, .int 0, .null, .int 0, .null, .null, .int 0, .int 0]))] U.heap ∧ va_K (dC, dI) classes [] U ∧ va_D (fun _ => True) [(h0, .inr (2, [.int 0, .int 0, .null, .null, .int 0, .null, .int 0, .null, .int 0, .null, .null, .int 0, .int 0]))] ∧ va_AO R_Row U)) (va_Qv (fun _ : Unit => True) (fun (_ : Unit) (t : State) => va_P (dC, dI) classes [(h0, .inr (14, [.int (-1)]))] t.heap ∧ va_K (dC, dI) classes [] t ∧ va_D (va_A [(h0, .inr (2, [.int 0, .int 0, .null, .null, .int 0, .null, .int 0, .null, .int 0, .null, .null, .int 0, .int 0]))] sz) [(h0, .inr (14, [.int (-1)]))]) (va_A [(h0, .inr (2, [.int 0, .int 0, .null, .null, .int 0, .null, .int 0, .null, .int 0, .null, .null, .int 0, .int 0]))] sz)) 49 653 (va_A [(h0, .inr (2, [.int 0, .int 0, .null, .null, .int 0, .null, .int 0, .null, .int 0, .null, .null, .int 0, .int 0]))] sz) := by
  refine Met.ofW (cc := b_Book_init) (maxL := 2) (ret := none) (by decide) rfl ?_
  intro p e s m args below meth c s₁ B hml hv
  obtain ⟨rfl, hsz, hP, hK, hD0, hO_Row⟩ := hv
  have hx := B.exec
  have hb := B.bytes
  have hr := B.returns
  have hts := atoms_spec (ws := Cond.code y_Book_init b_Book_init 2 none :: xw0) B.pre
  have ht : ∀ w ∈ xw0, w.before _ s = true := fun w h => hts w (List.mem_cons_of_mem _ h)
  have hown : s.vm.findClass R_Book = some m.cls := findClass_of_methodNamed B.named
  have hlocks := B.notSynchronized
  have hin : meth.name = "<init>" := (name_of_methodNamed B.named B.method).1
  subst hsz
  have hD := hD0.self (sz := s.heap.size)
  generalize hAe : va_A [(h0, .inr (2, [.int 0, .int 0, .null, .null, .int 0, .null, .int 0, .null, .int 0, .null, .null, .int 0, .int 0]))] s.heap.size = A at hD ⊢
  have hA : ∀ q : Nat, s.heap.size ≤ q → A q := fun q h => by rw [← hAe]; exact Or.inr h
  have hS : va_S A s.heap s.heap [] := va_S.rf
  have hP : va_P (dC, dI) classes [(h0, .inr (2, [.int 0, .int 0, .null, .null, .int 0, .null, .int 0, .null, .int 0, .null, .null, .int 0, .int 0]))] s.heap := hP
  have hl := lv_entry ([.ref h0]) (n := 2) (Nat.le_of_ble_eq_true rfl)
  rw [lg_entry_eq]
  generalize (lg_sl ([.ref h0]) ++ List.replicate (2 - (lg_sl ([.ref h0])).length) Slot.unset).toArray = ls at hl ⊢
  have hl : lv_has ls 2 [(0, .ref h0)] := hl
  refine lv_aload_n hx hb d_Book_init_0 rfl (lv_at hl 0 rfl) ?_
  refine W.objInit hx hb hown (ht _ k_83) (ht _ k_21) (ht _ k_22) rfl (by rw [hml]; exact hl.1) rfl d_Book_init_1 (Nat.le_of_ble_eq_true rfl) (Nat.le_of_ble_eq_true rfl) ?_
  refine W.eq (g2 := F0 m 4 ls []) rfl ?_
  refine lv_aload_n hx hb d_Book_init_4 rfl (lv_at hl 0 rfl) ?_
  refine lv_iconst (v := (-1)) hx hb d_Book_init_5 (by decide) ?_
  refine va_put (D := (dC, dI)) (ci := 2) (v := .int (-1)) (ty := .int) (C := R_Book) (T := F_Book) (N := 13) hx hb ht i_Book t_Book t_Book_ok n_Book hown hK hP hD hS 0 rfl rfl 0 (by decide) (ht _ k_86) (fun _ h9 => h9) rfl (by decide +kernel) rfl rfl (Nat.le_of_ble_eq_true rfl) d_Book_init_6 (fun H locs hP hD hS => ?_)
  have hP : va_P (dC, dI) classes [(h0, .inr (2, [.int (-1), .int 0, .null, .null, .int 0, .null, .int 0, .null, .int 0, .null, .null, .int 0, .int 0]))] H := hP
  have hD : va_D A [(h0, .inr (2, [.int (-1), .int 0, .null, .null, .int 0, .null, .int 0, .null, .int 0, .null, .null, .int 0, .int 0]))] := hD
  refine lv_aload_n hx hb d_Book_init_9 rfl (lv_at hl 0 rfl) ?_
  refine va_new (ci := 0) (fs := [.null, .int 0, .int 0]) (C := R_Row) (T := F_Row) (N := 3) hx hb ht i_Row t_Row t_Row_ok hown (ht _ k_84) (ht _ k_24) (ht _ k_2) hK hP hD hS hA rfl (fun j hj => by rcases (show j = 0 ∨ j = 1 ∨ j = 2 by omega) with rfl | rfl | rfl <;> rfl) (Nat.le_of_ble_eq_true rfl) (Nat.le_of_ble_eq_true rfl) d_Book_init_10 (fun q1 H hP hD hS => ?_)
  refine W.widen (k := 1) (n := 3) (by omega) (by omega) ?_
  have hP : va_P (dC, dI) classes [(h0, .inr (2, [.int (-1), .int 0, .null, .null, .int 0, .null, .int 0, .null, .int 0, .null, .null, .int 0, .int 0])), (q1, .inr (0, [.null, .int 0, .int 0]))] H := hP
  have hD : va_D A [(h0, .inr (2, [.int (-1), .int 0, .null, .null, .int 0, .null, .int 0, .null, .int 0, .null, .null, .int 0, .int 0])), (q1, .inr (0, [.null, .int 0, .int 0]))] := hD
  refine lv_dup hx hb d_Book_init_13 rfl ?_
  refine lv_bipush (v := (nI 20)) hx hb d_Book_init_14 (by decide) ?_
  have hPc := hP.sub (ws' := [(q1, .inr (0, [.null, .int 0, .int 0]))]) [1] rfl
  have hDc := hD.sub (ws' := [(q1, .inr (0, [.null, .int 0, .int 0]))]) [1] (by decide +kernel) rfl
  have hKc := hK.sub (tys' := []) [] rfl
  have hFc := va_free (wc := [(q1, .inr (0, [.null, .int 0, .int 0]))]) hD hS hA [1] rfl
  refine va_callv (va_runI (As := [.int (nI 20)]) (rest := [.ref q1, .ref h0]) ⟨hx, hb, hml, hown, ht⟩ (c_Row_init l dC dI q1 H.size 20 (by decide) (by decide)) (cwI 1 ht (xw_good k_27) rfl rfl rfl (ht _ k_2) (ht _ k_85) (ht _ k_26) rfl (by decide +kernel) ⟨(Nat.le_of_ble_eq_true rfl), (Nat.le_of_ble_eq_true rfl)⟩) ⟨fun a U g mk q => by obtain ⟨q0, q1, qP, qK, qD⟩ := q; exact ⟨q0, q1, qP, va_K.moved (u := U) (U := U.calling g mk a) (Vm.Alike.refl U.vm) qK, qD⟩, fun U hU hW => ⟨rfl, by rw [hU], by rw [hU]; exact hPc, va_K.moved hW.alike hKc, hDc.weaken (fun _ _ _ _ => trivial)⟩⟩ rfl rfl hl.1 rfl (lv_room (Nat.le_of_ble_eq_true rfl)) d_Book_init_16 ⟨(Nat.le_of_ble_eq_true rfl), (Nat.le_of_ble_eq_true rfl)⟩) hS (fun q _ h => hFc q h) hFc (fun u t H1 locs ht9 hvm hw hB hz1 hk1 hS => ?_)
  obtain ⟨q2, cA3, hP1, hK1, hD1⟩ := hB
  rw [ht9] at hP1
  have hK1 := va_K.moved hvm.symm hK1
  obtain ⟨hP, hD⟩ := va_join (wr := [(h0, .inr (2, [.int (-1), .int 0, .null, .null, .int 0, .null, .int 0, .null, .int 0, .null, .null, .int 0, .int 0]))]) (w1 := [(q1, .inr (0, [.ref q2, .int 0, .int 0])), (q2, .inl (cA3, 20, .inl (fun _ => 0)))]) hP hD [1] [0] rfl rfl (by decide +kernel) (by decide +kernel) hk1 hFc hP1 hD1
  have hK := (hK.sub (tys' := []) [] rfl).app hK1
  generalize H1 = H at hP hS ⊢
  have hP : va_P (dC, dI) classes [(h0, .inr (2, [.int (-1), .int 0, .null, .null, .int 0, .null, .int 0, .null, .int 0, .null, .null, .int 0, .int 0])), (q1, .inr (0, [.ref q2, .int 0, .int 0])), (q2, .inl (cA3, 20, .inl (fun _ => 0)))] H := hP
  have hD : va_D A [(h0, .inr (2, [.int (-1), .int 0, .null, .null, .int 0, .null, .int 0, .null, .int 0, .null, .null, .int 0, .int 0])), (q1, .inr (0, [.ref q2, .int 0, .int 0])), (q2, .inl (cA3, 20, .inl (fun _ => 0)))] := hD
  have hK : va_K (dC, dI) classes [(cA3, .byte)] s := hK
  refine W.widen (k := 2) (n := 23) (by omega) (by omega) ?_
  refine va_putF (D := (dC, dI)) (ci := 2) (v := .ref q1) (ty := .object "AddressHouse$Row") (C := R_Book) (T := F_Book) (N := 13) hx hb ht i_Book t_Book t_Book_ok n_Book hown hK hP hD hS 0 rfl rfl 2 (by decide) (ht _ k_88) (fun _ h9 => h9) rfl hin rfl (by decide +kernel) rfl rfl (Nat.le_of_ble_eq_true rfl) d_Book_init_19 (fun H locs hP hD hS => ?_)
  have hP : va_P (dC, dI) classes [(h0, .inr (2, [.int (-1), .int 0, .ref q1, .null, .int 0, .null, .int 0, .null, .int 0, .null, .null, .int 0, .int 0])), (q1, .inr (0, [.ref q2, .int 0, .int 0])), (q2, .inl (cA3, 20, .inl (fun _ => 0)))] H := hP
  have hD : va_D A [(h0, .inr (2, [.int (-1), .int 0, .ref q1, .null, .int 0, .null, .int 0, .null, .int 0, .null, .null, .int 0, .int 0])), (q1, .inr (0, [.ref q2, .int 0, .int 0])), (q2, .inl (cA3, 20, .inl (fun _ => 0)))] := hD
  refine lv_aload_n hx hb d_Book_init_22 rfl (lv_at hl 0 rfl) ?_
  refine va_new (ci := 0) (fs := [.null, .int 0, .int 0]) (C := R_Row) (T := F_Row) (N := 3) hx hb ht i_Row t_Row t_Row_ok hown (ht _ k_84) (ht _ k_24) (ht _ k_2) hK hP hD hS hA rfl (fun j hj => by rcases (show j = 0 ∨ j = 1 ∨ j = 2 by omega) with rfl | rfl | rfl <;> rfl) (Nat.le_of_ble_eq_true rfl) (Nat.le_of_ble_eq_true rfl) d_Book_init_23 (fun q4 H hP hD hS => ?_)
  refine W.widen (k := 3) (n := 26) (by omega) (by omega) ?_
  have hP : va_P (dC, dI) classes [(h0, .inr (2, [.int (-1), .int 0, .ref q1, .null, .int 0, .null, .int 0, .null, .int 0, .null, .null, .int 0, .int 0])), (q1, .inr (0, [.ref q2, .int 0, .int 0])), (q2, .inl (cA3, 20, .inl (fun _ => 0))), (q4, .inr (0, [.null, .int 0, .int 0]))] H := hP
  have hD : va_D A [(h0, .inr (2, [.int (-1), .int 0, .ref q1, .null, .int 0, .null, .int 0, .null, .int 0, .null, .null, .int 0, .int 0])), (q1, .inr (0, [.ref q2, .int 0, .int 0])), (q2, .inl (cA3, 20, .inl (fun _ => 0))), (q4, .inr (0, [.null, .int 0, .int 0]))] := hD
  refine lv_dup hx hb d_Book_init_26 rfl ?_
  refine lv_bipush (v := (nI 60)) hx hb d_Book_init_27 (by decide) ?_
  have hPc := hP.sub (ws' := [(q4, .inr (0, [.null, .int 0, .int 0]))]) [3] rfl
  have hDc := hD.sub (ws' := [(q4, .inr (0, [.null, .int 0, .int 0]))]) [3] (by decide +kernel) rfl
  have hKc := hK.sub (tys' := []) [] rfl
  have hFc := va_free (wc := [(q4, .inr (0, [.null, .int 0, .int 0]))]) hD hS hA [3] rfl
  refine va_callv (va_runI (As := [.int (nI 60)]) (rest := [.ref q4, .ref h0]) ⟨hx, hb, hml, hown, ht⟩ (c_Row_init l dC dI q4 H.size 60 (by decide) (by decide)) (cwI 1 ht (xw_good k_27) rfl rfl rfl (ht _ k_2) (ht _ k_85) (ht _ k_26) rfl (by decide +kernel) ⟨(Nat.le_of_ble_eq_true rfl), (Nat.le_of_ble_eq_true rfl)⟩) ⟨fun a U g mk q => by obtain ⟨q0, q1, qP, qK, qD⟩ := q; exact ⟨q0, q1, qP, va_K.moved (u := U) (U := U.calling g mk a) (Vm.Alike.refl U.vm) qK, qD⟩, fun U hU hW => ⟨rfl, by rw [hU], by rw [hU]; exact hPc, va_K.moved hW.alike hKc, hDc.weaken (fun _ _ _ _ => trivial)⟩⟩ rfl rfl hl.1 rfl (lv_room (Nat.le_of_ble_eq_true rfl)) d_Book_init_29 ⟨(Nat.le_of_ble_eq_true rfl), (Nat.le_of_ble_eq_true rfl)⟩) hS (fun q _ h => hFc q h) hFc (fun u t H1 locs ht9 hvm hw hB hz1 hk1 hS => ?_)
  obtain ⟨q5, cA6, hP1, hK1, hD1⟩ := hB
  rw [ht9] at hP1
  have hK1 := va_K.moved hvm.symm hK1
  obtain ⟨hP, hD⟩ := va_join (wr := [(h0, .inr (2, [.int (-1), .int 0, .ref q1, .null, .int 0, .null, .int 0, .null, .int 0, .null, .null, .int 0, .int 0])), (q1, .inr (0, [.ref q2, .int 0, .int 0])), (q2, .inl (cA3, 20, .inl (fun _ => 0)))]) (w1 := [(q4, .inr (0, [.ref q5, .int 0, .int 0])), (q5, .inl (cA6, 60, .inl (fun _ => 0)))]) hP hD [3] [0, 1, 2] rfl rfl (by decide +kernel) (by decide +kernel) hk1 hFc hP1 hD1
  have hK := (hK.sub (tys' := [(cA3, .byte)]) [0] rfl).app hK1
  generalize H1 = H at hP hS ⊢
  have hP : va_P (dC, dI) classes [(h0, .inr (2, [.int (-1), .int 0, .ref q1, .null, .int 0, .null, .int 0, .null, .int 0, .null, .null, .int 0, .int 0])), (q1, .inr (0, [.ref q2, .int 0, .int 0])), (q2, .inl (cA3, 20, .inl (fun _ => 0))), (q4, .inr (0, [.ref q5, .int 0, .int 0])), (q5, .inl (cA6, 60, .inl (fun _ => 0)))] H := hP
  have hD : va_D A [(h0, .inr (2, [.int (-1), .int 0, .ref q1, .null, .int 0, .null, .int 0, .null, .int 0, .null, .null, .int 0, .int 0])), (q1, .inr (0, [.ref q2, .int 0, .int 0])), (q2, .inl (cA3, 20, .inl (fun _ => 0))), (q4, .inr (0, [.ref q5, .int 0, .int 0])), (q5, .inl (cA6, 60, .inl (fun _ => 0)))] := hD
  have hK : va_K (dC, dI) classes [(cA3, .byte), (cA6, .byte)] s := hK
  refine W.widen (k := 4) (n := 86) (by omega) (by omega) ?_
  refine va_putF (D := (dC, dI)) (ci := 2) (v := .ref q4) (ty := .object "AddressHouse$Row") (C := R_Book) (T := F_Book) (N := 13) hx hb ht i_Book t_Book t_Book_ok n_Book hown hK hP hD hS 0 rfl rfl 3 (by decide) (ht _ k_89) (fun _ h9 => h9) rfl hin rfl (by decide +kernel) rfl rfl (Nat.le_of_ble_eq_true rfl) d_Book_init_32 (fun H locs hP hD hS => ?_)
  have hP : va_P (dC, dI) classes [(h0, .inr (2, [.int (-1), .int 0, .ref q1, .ref q4, .int 0, .null, .int 0, .null, .int 0, .null, .null, .int 0, .int 0])), (q1, .inr (0, [.ref q2, .int 0, .int 0])), (q2, .inl (cA3, 20, .inl (fun _ => 0))), (q4, .inr (0, [.ref q5, .int 0, .int 0])), (q5, .inl (cA6, 60, .inl (fun _ => 0)))] H := hP
  have hD : va_D A [(h0, .inr (2, [.int (-1), .int 0, .ref q1, .ref q4, .int 0, .null, .int 0, .null, .int 0, .null, .null, .int 0, .int 0])), (q1, .inr (0, [.ref q2, .int 0, .int 0])), (q2, .inl (cA3, 20, .inl (fun _ => 0))), (q4, .inr (0, [.ref q5, .int 0, .int 0])), (q5, .inl (cA6, 60, .inl (fun _ => 0)))] := hD
  refine lv_aload_n hx hb d_Book_init_35 rfl (lv_at hl 0 rfl) ?_
  refine va_new (ci := 0) (fs := [.null, .int 0, .int 0]) (C := R_Row) (T := F_Row) (N := 3) hx hb ht i_Row t_Row t_Row_ok hown (ht _ k_84) (ht _ k_24) (ht _ k_2) hK hP hD hS hA rfl (fun j hj => by rcases (show j = 0 ∨ j = 1 ∨ j = 2 by omega) with rfl | rfl | rfl <;> rfl) (Nat.le_of_ble_eq_true rfl) (Nat.le_of_ble_eq_true rfl) d_Book_init_36 (fun q7 H hP hD hS => ?_)
  refine W.widen (k := 5) (n := 89) (by omega) (by omega) ?_
  have hP : va_P (dC, dI) classes [(h0, .inr (2, [.int (-1), .int 0, .ref q1, .ref q4, .int 0, .null, .int 0, .null, .int 0, .null, .null, .int 0, .int 0])), (q1, .inr (0, [.ref q2, .int 0, .int 0])), (q2, .inl (cA3, 20, .inl (fun _ => 0))), (q4, .inr (0, [.ref q5, .int 0, .int 0])), (q5, .inl (cA6, 60, .inl (fun _ => 0))), (q7, .inr (0, [.null, .int 0, .int 0]))] H := hP
  have hD : va_D A [(h0, .inr (2, [.int (-1), .int 0, .ref q1, .ref q4, .int 0, .null, .int 0, .null, .int 0, .null, .null, .int 0, .int 0])), (q1, .inr (0, [.ref q2, .int 0, .int 0])), (q2, .inl (cA3, 20, .inl (fun _ => 0))), (q4, .inr (0, [.ref q5, .int 0, .int 0])), (q5, .inl (cA6, 60, .inl (fun _ => 0))), (q7, .inr (0, [.null, .int 0, .int 0]))] := hD
  refine lv_dup hx hb d_Book_init_39 rfl ?_
  refine lv_bipush (v := (nI 60)) hx hb d_Book_init_40 (by decide) ?_
  have hPc := hP.sub (ws' := [(q7, .inr (0, [.null, .int 0, .int 0]))]) [5] rfl
  have hDc := hD.sub (ws' := [(q7, .inr (0, [.null, .int 0, .int 0]))]) [5] (by decide +kernel) rfl
  have hKc := hK.sub (tys' := []) [] rfl
  have hFc := va_free (wc := [(q7, .inr (0, [.null, .int 0, .int 0]))]) hD hS hA [5] rfl
  refine va_callv (va_runI (As := [.int (nI 60)]) (rest := [.ref q7, .ref h0]) ⟨hx, hb, hml, hown, ht⟩ (c_Row_init l dC dI q7 H.size 60 (by decide) (by decide)) (cwI 1 ht (xw_good k_27) rfl rfl rfl (ht _ k_2) (ht _ k_85) (ht _ k_26) rfl (by decide +kernel) ⟨(Nat.le_of_ble_eq_true rfl), (Nat.le_of_ble_eq_true rfl)⟩) ⟨fun a U g mk q => by obtain ⟨q0, q1, qP, qK, qD⟩ := q; exact ⟨q0, q1, qP, va_K.moved (u := U) (U := U.calling g mk a) (Vm.Alike.refl U.vm) qK, qD⟩, fun U hU hW => ⟨rfl, by rw [hU], by rw [hU]; exact hPc, va_K.moved hW.alike hKc, hDc.weaken (fun _ _ _ _ => trivial)⟩⟩ rfl rfl hl.1 rfl (lv_room (Nat.le_of_ble_eq_true rfl)) d_Book_init_42 ⟨(Nat.le_of_ble_eq_true rfl), (Nat.le_of_ble_eq_true rfl)⟩) hS (fun q _ h => hFc q h) hFc (fun u t H1 locs ht9 hvm hw hB hz1 hk1 hS => ?_)
  obtain ⟨q8, cA9, hP1, hK1, hD1⟩ := hB
  rw [ht9] at hP1
  have hK1 := va_K.moved hvm.symm hK1
  obtain ⟨hP, hD⟩ := va_join (wr := [(h0, .inr (2, [.int (-1), .int 0, .ref q1, .ref q4, .int 0, .null, .int 0, .null, .int 0, .null, .null, .int 0, .int 0])), (q1, .inr (0, [.ref q2, .int 0, .int 0])), (q2, .inl (cA3, 20, .inl (fun _ => 0))), (q4, .inr (0, [.ref q5, .int 0, .int 0])), (q5, .inl (cA6, 60, .inl (fun _ => 0)))]) (w1 := [(q7, .inr (0, [.ref q8, .int 0, .int 0])), (q8, .inl (cA9, 60, .inl (fun _ => 0)))]) hP hD [5] [0, 1, 2, 3, 4] rfl rfl (by decide +kernel) (by decide +kernel) hk1 hFc hP1 hD1
  have hK := (hK.sub (tys' := [(cA3, .byte), (cA6, .byte)]) [0, 1] rfl).app hK1
  generalize H1 = H at hP hS ⊢
  have hP : va_P (dC, dI) classes [(h0, .inr (2, [.int (-1), .int 0, .ref q1, .ref q4, .int 0, .null, .int 0, .null, .int 0, .null, .null, .int 0, .int 0])), (q1, .inr (0, [.ref q2, .int 0, .int 0])), (q2, .inl (cA3, 20, .inl (fun _ => 0))), (q4, .inr (0, [.ref q5, .int 0, .int 0])), (q5, .inl (cA6, 60, .inl (fun _ => 0))), (q7, .inr (0, [.ref q8, .int 0, .int 0])), (q8, .inl (cA9, 60, .inl (fun _ => 0)))] H := hP
  have hD : va_D A [(h0, .inr (2, [.int (-1), .int 0, .ref q1, .ref q4, .int 0, .null, .int 0, .null, .int 0, .null, .null, .int 0, .int 0])), (q1, .inr (0, [.ref q2, .int 0, .int 0])), (q2, .inl (cA3, 20, .inl (fun _ => 0))), (q4, .inr (0, [.ref q5, .int 0, .int 0])), (q5, .inl (cA6, 60, .inl (fun _ => 0))), (q7, .inr (0, [.ref q8, .int 0, .int 0])), (q8, .inl (cA9, 60, .inl (fun _ => 0)))] := hD
  have hK : va_K (dC, dI) classes [(cA3, .byte), (cA6, .byte), (cA9, .byte)] s := hK
  refine W.widen (k := 6) (n := 149) (by omega) (by omega) ?_
  refine va_putF (D := (dC, dI)) (ci := 2) (v := .ref q7) (ty := .object "AddressHouse$Row") (C := R_Book) (T := F_Book) (N := 13) hx hb ht i_Book t_Book t_Book_ok n_Book hown hK hP hD hS 0 rfl rfl 5 (by decide) (ht _ k_90) (fun _ h9 => h9) rfl hin rfl (by decide +kernel) rfl rfl (Nat.le_of_ble_eq_true rfl) d_Book_init_45 (fun H locs hP hD hS => ?_)
  have hP : va_P (dC, dI) classes [(h0, .inr (2, [.int (-1), .int 0, .ref q1, .ref q4, .int 0, .ref q7, .int 0, .null, .int 0, .null, .null, .int 0, .int 0])), (q1, .inr (0, [.ref q2, .int 0, .int 0])), (q2, .inl (cA3, 20, .inl (fun _ => 0))), (q4, .inr (0, [.ref q5, .int 0, .int 0])), (q5, .inl (cA6, 60, .inl (fun _ => 0))), (q7, .inr (0, [.ref q8, .int 0, .int 0])), (q8, .inl (cA9, 60, .inl (fun _ => 0)))] H := hP
  have hD : va_D A [(h0, .inr (2, [.int (-1), .int 0, .ref q1, .ref q4, .int 0, .ref q7, .int 0, .null, .int 0, .null, .null, .int 0, .int 0])), (q1, .inr (0, [.ref q2, .int 0, .int 0])), (q2, .inl (cA3, 20, .inl (fun _ => 0))), (q4, .inr (0, [.ref q5, .int 0, .int 0])), (q5, .inl (cA6, 60, .inl (fun _ => 0))), (q7, .inr (0, [.ref q8, .int 0, .int 0])), (q8, .inl (cA9, 60, .inl (fun _ => 0)))] := hD
  refine lv_aload_n hx hb d_Book_init_48 rfl (lv_at hl 0 rfl) ?_
  refine lv_iconst (v := (nI 4)) hx hb d_Book_init_49 (by decide) ?_
  refine va_newa (atype := .int) (ty := .int) (a0 := (4, .inl (fun _ => 0))) hx hb (ht _ k_69) rfl hK hP hD hS hA (fun _ => rfl) (nI_pos (by decide)) (nI_clamp (by decide)) (by decide) (Nat.le_of_ble_eq_true rfl) (Nat.le_of_ble_eq_true rfl) d_Book_init_50 (fun q10 cA11 H hK hP hD hS => ?_)
  refine W.widen (k := 7) (n := 153) (by omega) (by omega) ?_
  have hP : va_P (dC, dI) classes [(h0, .inr (2, [.int (-1), .int 0, .ref q1, .ref q4, .int 0, .ref q7, .int 0, .null, .int 0, .null, .null, .int 0, .int 0])), (q1, .inr (0, [.ref q2, .int 0, .int 0])), (q2, .inl (cA3, 20, .inl (fun _ => 0))), (q4, .inr (0, [.ref q5, .int 0, .int 0])), (q5, .inl (cA6, 60, .inl (fun _ => 0))), (q7, .inr (0, [.ref q8, .int 0, .int 0])), (q8, .inl (cA9, 60, .inl (fun _ => 0))), (q10, .inl (cA11, 4, .inl (fun _ => 0)))] H := hP
  have hD : va_D A [(h0, .inr (2, [.int (-1), .int 0, .ref q1, .ref q4, .int 0, .ref q7, .int 0, .null, .int 0, .null, .null, .int 0, .int 0])), (q1, .inr (0, [.ref q2, .int 0, .int 0])), (q2, .inl (cA3, 20, .inl (fun _ => 0))), (q4, .inr (0, [.ref q5, .int 0, .int 0])), (q5, .inl (cA6, 60, .inl (fun _ => 0))), (q7, .inr (0, [.ref q8, .int 0, .int 0])), (q8, .inl (cA9, 60, .inl (fun _ => 0))), (q10, .inl (cA11, 4, .inl (fun _ => 0)))] := hD
  have hK : va_K (dC, dI) classes [(cA3, .byte), (cA6, .byte), (cA9, .byte), (cA11, .int)] s := hK
  refine va_putF (D := (dC, dI)) (ci := 2) (v := .ref q10) (ty := .array .int) (C := R_Book) (T := F_Book) (N := 13) hx hb ht i_Book t_Book t_Book_ok n_Book hown hK hP hD hS 0 rfl rfl 7 (by decide) (ht _ k_91) (fun _ h9 => h9) rfl hin rfl (by decide +kernel) rfl rfl (Nat.le_of_ble_eq_true rfl) d_Book_init_52 (fun H locs hP hD hS => ?_)
  have hP : va_P (dC, dI) classes [(h0, .inr (2, [.int (-1), .int 0, .ref q1, .ref q4, .int 0, .ref q7, .int 0, .ref q10, .int 0, .null, .null, .int 0, .int 0])), (q1, .inr (0, [.ref q2, .int 0, .int 0])), (q2, .inl (cA3, 20, .inl (fun _ => 0))), (q4, .inr (0, [.ref q5, .int 0, .int 0])), (q5, .inl (cA6, 60, .inl (fun _ => 0))), (q7, .inr (0, [.ref q8, .int 0, .int 0])), (q8, .inl (cA9, 60, .inl (fun _ => 0))), (q10, .inl (cA11, 4, .inl (fun _ => 0)))] H := hP
  have hD : va_D A [(h0, .inr (2, [.int (-1), .int 0, .ref q1, .ref q4, .int 0, .ref q7, .int 0, .ref q10, .int 0, .null, .null, .int 0, .int 0])), (q1, .inr (0, [.ref q2, .int 0, .int 0])), (q2, .inl (cA3, 20, .inl (fun _ => 0))), (q4, .inr (0, [.ref q5, .int 0, .int 0])), (q5, .inl (cA6, 60, .inl (fun _ => 0))), (q7, .inr (0, [.ref q8, .int 0, .int 0])), (q8, .inl (cA9, 60, .inl (fun _ => 0))), (q10, .inl (cA11, 4, .inl (fun _ => 0)))] := hD
  refine lv_aload_n hx hb d_Book_init_55 rfl (lv_at hl 0 rfl) ?_
  refine lv_bipush (v := (nI 20)) hx hb d_Book_init_56 (by decide) ?_
  refine va_newq hx hb hown (ht _ k_84) hO_Row hK hP hD hS hA (nI_pos (by decide)) (nI_clamp (by decide)) (by decide) (Nat.le_of_ble_eq_true rfl) (Nat.le_of_ble_eq_true rfl) d_Book_init_58 (fun q12 cA13 H hK hP hD hS => ?_)
  refine W.widen (k := 8) (n := 173) (by omega) (by omega) ?_
  have hP : va_P (dC, dI) classes [(h0, .inr (2, [.int (-1), .int 0, .ref q1, .ref q4, .int 0, .ref q7, .int 0, .ref q10, .int 0, .null, .null, .int 0, .int 0])), (q1, .inr (0, [.ref q2, .int 0, .int 0])), (q2, .inl (cA3, 20, .inl (fun _ => 0))), (q4, .inr (0, [.ref q5, .int 0, .int 0])), (q5, .inl (cA6, 60, .inl (fun _ => 0))), (q7, .inr (0, [.ref q8, .int 0, .int 0])), (q8, .inl (cA9, 60, .inl (fun _ => 0))), (q10, .inl (cA11, 4, .inl (fun _ => 0))), (q12, .inl (cA13, 20, .inr (.inr (.inr (.inr (fun _ => none))))))] H := hP
  have hD : va_D A [(h0, .inr (2, [.int (-1), .int 0, .ref q1, .ref q4, .int 0, .ref q7, .int 0, .ref q10, .int 0, .null, .null, .int 0, .int 0])), (q1, .inr (0, [.ref q2, .int 0, .int 0])), (q2, .inl (cA3, 20, .inl (fun _ => 0))), (q4, .inr (0, [.ref q5, .int 0, .int 0])), (q5, .inl (cA6, 60, .inl (fun _ => 0))), (q7, .inr (0, [.ref q8, .int 0, .int 0])), (q8, .inl (cA9, 60, .inl (fun _ => 0))), (q10, .inl (cA11, 4, .inl (fun _ => 0))), (q12, .inl (cA13, 20, .inr (.inr (.inr (.inr (fun _ => none))))))] := hD
  have hK : va_K (dC, dI) classes [(cA3, .byte), (cA6, .byte), (cA9, .byte), (cA11, .int), (cA13, .object R_Row)] s := hK
  refine va_putF (D := (dC, dI)) (ci := 2) (v := .ref q12) (ty := .array (.object "AddressHouse$Row")) (C := R_Book) (T := F_Book) (N := 13) hx hb ht i_Book t_Book t_Book_ok n_Book hown hK hP hD hS 0 rfl rfl 9 (by decide) (ht _ k_92) (fun _ h9 => h9) rfl hin rfl (by decide +kernel) rfl rfl (Nat.le_of_ble_eq_true rfl) d_Book_init_61 (fun H locs hP hD hS => ?_)
  have hP : va_P (dC, dI) classes [(h0, .inr (2, [.int (-1), .int 0, .ref q1, .ref q4, .int 0, .ref q7, .int 0, .ref q10, .int 0, .ref q12, .null, .int 0, .int 0])), (q1, .inr (0, [.ref q2, .int 0, .int 0])), (q2, .inl (cA3, 20, .inl (fun _ => 0))), (q4, .inr (0, [.ref q5, .int 0, .int 0])), (q5, .inl (cA6, 60, .inl (fun _ => 0))), (q7, .inr (0, [.ref q8, .int 0, .int 0])), (q8, .inl (cA9, 60, .inl (fun _ => 0))), (q10, .inl (cA11, 4, .inl (fun _ => 0))), (q12, .inl (cA13, 20, .inr (.inr (.inr (.inr (fun _ => none))))))] H := hP
  have hD : va_D A [(h0, .inr (2, [.int (-1), .int 0, .ref q1, .ref q4, .int 0, .ref q7, .int 0, .ref q10, .int 0, .ref q12, .null, .int 0, .int 0])), (q1, .inr (0, [.ref q2, .int 0, .int 0])), (q2, .inl (cA3, 20, .inl (fun _ => 0))), (q4, .inr (0, [.ref q5, .int 0, .int 0])), (q5, .inl (cA6, 60, .inl (fun _ => 0))), (q7, .inr (0, [.ref q8, .int 0, .int 0])), (q8, .inl (cA9, 60, .inl (fun _ => 0))), (q10, .inl (cA11, 4, .inl (fun _ => 0))), (q12, .inl (cA13, 20, .inr (.inr (.inr (.inr (fun _ => none))))))] := hD
  refine lv_iconst (v := (nI 0)) hx hb d_Book_init_64 (by decide) ?_
  refine lv_istore_n (lv' := [(1, .int (nI 0)), (0, .ref h0)]) hx hb d_Book_init_65 rfl hl (by decide) rfl (fun ls hl => ?_)
  refine lv_iload_n hx hb d_Book_init_66 rfl (lv_at hl 0 rfl) ?_
  refine lv_bipush (v := (nI 20)) hx hb d_Book_init_67 (by decide) ?_
  refine lv_icmp_ge (tgt := 93) hx hb d_Book_init_69 (by decide) (fun c_69 => absurd c_69 (by decide)) (fun _ => ?_)
  refine lv_aload_n hx hb d_Book_init_72 rfl (lv_at hl 1 rfl) ?_
  refine va_get (D := (dC, dI)) (ci := 2) (v := .ref q12) (C := R_Book) (T := F_Book) (N := 13) hx hb ht i_Book hown hK hP 0 rfl rfl 9 (by decide) (ht _ k_92) (fun _ h9 => h9) rfl d_Book_init_73 ?_
  refine lv_iload_n hx hb d_Book_init_76 rfl (lv_at hl 0 rfl) ?_
  refine va_new (ci := 0) (fs := [.null, .int 0, .int 0]) (C := R_Row) (T := F_Row) (N := 3) hx hb ht i_Row t_Row t_Row_ok hown (ht _ k_84) (ht _ k_24) (ht _ k_2) hK hP hD hS hA rfl (fun j hj => by rcases (show j = 0 ∨ j = 1 ∨ j = 2 by omega) with rfl | rfl | rfl <;> rfl) (Nat.le_of_ble_eq_true rfl) (Nat.le_of_ble_eq_true rfl) d_Book_init_77 (fun q14 H hP hD hS => ?_)
  refine W.widen (k := 9) (n := 176) (by omega) (by omega) ?_
  have hP : va_P (dC, dI) classes [(h0, .inr (2, [.int (-1), .int 0, .ref q1, .ref q4, .int 0, .ref q7, .int 0, .ref q10, .int 0, .ref q12, .null, .int 0, .int 0])), (q1, .inr (0, [.ref q2, .int 0, .int 0])), (q2, .inl (cA3, 20, .inl (fun _ => 0))), (q4, .inr (0, [.ref q5, .int 0, .int 0])), (q5, .inl (cA6, 60, .inl (fun _ => 0))), (q7, .inr (0, [.ref q8, .int 0, .int 0])), (q8, .inl (cA9, 60, .inl (fun _ => 0))), (q10, .inl (cA11, 4, .inl (fun _ => 0))), (q12, .inl (cA13, 20, .inr (.inr (.inr (.inr (fun _ => none)))))), (q14, .inr (0, [.null, .int 0, .int 0]))] H := hP
  have hD : va_D A [(h0, .inr (2, [.int (-1), .int 0, .ref q1, .ref q4, .int 0, .ref q7, .int 0, .ref q10, .int 0, .ref q12, .null, .int 0, .int 0])), (q1, .inr (0, [.ref q2, .int 0, .int 0])), (q2, .inl (cA3, 20, .inl (fun _ => 0))), (q4, .inr (0, [.ref q5, .int 0, .int 0])), (q5, .inl (cA6, 60, .inl (fun _ => 0))), (q7, .inr (0, [.ref q8, .int 0, .int 0])), (q8, .inl (cA9, 60, .inl (fun _ => 0))), (q10, .inl (cA11, 4, .inl (fun _ => 0))), (q12, .inl (cA13, 20, .inr (.inr (.inr (.inr (fun _ => none)))))), (q14, .inr (0, [.null, .int 0, .int 0]))] := hD
  refine lv_dup hx hb d_Book_init_80 rfl ?_
  refine lv_bipush (v := (nI 20)) hx hb d_Book_init_81 (by decide) ?_
  have hPc := hP.sub (ws' := [(q14, .inr (0, [.null, .int 0, .int 0]))]) [9] rfl
  have hDc := hD.sub (ws' := [(q14, .inr (0, [.null, .int 0, .int 0]))]) [9] (by decide +kernel) rfl
  have hKc := hK.sub (tys' := []) [] rfl
  have hFc := va_free (wc := [(q14, .inr (0, [.null, .int 0, .int 0]))]) hD hS hA [9] rfl
  refine va_callv (va_runI (As := [.int (nI 20)]) (rest := [.ref q14, .int (nI 0), .ref q12]) ⟨hx, hb, hml, hown, ht⟩ (c_Row_init l dC dI q14 H.size 20 (by decide) (by decide)) (cwI 1 ht (xw_good k_27) rfl rfl rfl (ht _ k_2) (ht _ k_85) (ht _ k_26) rfl (by decide +kernel) ⟨(Nat.le_of_ble_eq_true rfl), (Nat.le_of_ble_eq_true rfl)⟩) ⟨fun a U g mk q => by obtain ⟨q0, q1, qP, qK, qD⟩ := q; exact ⟨q0, q1, qP, va_K.moved (u := U) (U := U.calling g mk a) (Vm.Alike.refl U.vm) qK, qD⟩, fun U hU hW => ⟨rfl, by rw [hU], by rw [hU]; exact hPc, va_K.moved hW.alike hKc, hDc.weaken (fun _ _ _ _ => trivial)⟩⟩ rfl rfl hl.1 rfl (lv_room (Nat.le_of_ble_eq_true rfl)) d_Book_init_83 ⟨(Nat.le_of_ble_eq_true rfl), (Nat.le_of_ble_eq_true rfl)⟩) hS (fun q _ h => hFc q h) hFc (fun u t H1 locs ht9 hvm hw hB hz1 hk1 hS => ?_)
  obtain ⟨q15, cA16, hP1, hK1, hD1⟩ := hB
  rw [ht9] at hP1
  have hK1 := va_K.moved hvm.symm hK1
  obtain ⟨hP, hD⟩ := va_join (wr := [(h0, .inr (2, [.int (-1), .int 0, .ref q1, .ref q4, .int 0, .ref q7, .int 0, .ref q10, .int 0, .ref q12, .null, .int 0, .int 0])), (q1, .inr (0, [.ref q2, .int 0, .int 0])), (q2, .inl (cA3, 20, .inl (fun _ => 0))), (q4, .inr (0, [.ref q5, .int 0, .int 0])), (q5, .inl (cA6, 60, .inl (fun _ => 0))), (q7, .inr (0, [.ref q8, .int 0, .int 0])), (q8, .inl (cA9, 60, .inl (fun _ => 0))), (q10, .inl (cA11, 4, .inl (fun _ => 0))), (q12, .inl (cA13, 20, .inr (.inr (.inr (.inr (fun _ => none))))))]) (w1 := [(q14, .inr (0, [.ref q15, .int 0, .int 0])), (q15, .inl (cA16, 20, .inl (fun _ => 0)))]) hP hD [9] [0, 1, 2, 3, 4, 5, 6, 7, 8] rfl rfl (by decide +kernel) (by decide +kernel) hk1 hFc hP1 hD1
  have hK := (hK.sub (tys' := [(cA3, .byte), (cA6, .byte), (cA9, .byte), (cA11, .int), (cA13, .object R_Row)]) [0, 1, 2, 3, 4] rfl).app hK1
  generalize H1 = H at hP hS ⊢
  have hP : va_P (dC, dI) classes [(h0, .inr (2, [.int (-1), .int 0, .ref q1, .ref q4, .int 0, .ref q7, .int 0, .ref q10, .int 0, .ref q12, .null, .int 0, .int 0])), (q1, .inr (0, [.ref q2, .int 0, .int 0])), (q2, .inl (cA3, 20, .inl (fun _ => 0))), (q4, .inr (0, [.ref q5, .int 0, .int 0])), (q5, .inl (cA6, 60, .inl (fun _ => 0))), (q7, .inr (0, [.ref q8, .int 0, .int 0])), (q8, .inl (cA9, 60, .inl (fun _ => 0))), (q10, .inl (cA11, 4, .inl (fun _ => 0))), (q12, .inl (cA13, 20, .inr (.inr (.inr (.inr (fun _ => none)))))), (q14, .inr (0, [.ref q15, .int 0, .int 0])), (q15, .inl (cA16, 20, .inl (fun _ => 0)))] H := hP
  have hD : va_D A [(h0, .inr (2, [.int (-1), .int 0, .ref q1, .ref q4, .int 0, .ref q7, .int 0, .ref q10, .int 0, .ref q12, .null, .int 0, .int 0])), (q1, .inr (0, [.ref q2, .int 0, .int 0])), (q2, .inl (cA3, 20, .inl (fun _ => 0))), (q4, .inr (0, [.ref q5, .int 0, .int 0])), (q5, .inl (cA6, 60, .inl (fun _ => 0))), (q7, .inr (0, [.ref q8, .int 0, .int 0])), (q8, .inl (cA9, 60, .inl (fun _ => 0))), (q10, .inl (cA11, 4, .inl (fun _ => 0))), (q12, .inl (cA13, 20, .inr (.inr (.inr (.inr (fun _ => none)))))), (q14, .inr (0, [.ref q15, .int 0, .int 0])), (q15, .inl (cA16, 20, .inl (fun _ => 0)))] := hD
  have hK : va_K (dC, dI) classes [(cA3, .byte), (cA6, .byte), (cA9, .byte), (cA11, .int), (cA13, .object R_Row), (cA16, .byte)] s := hK
  refine W.widen (k := 10) (n := 196) (by omega) (by omega) ?_
  refine va_astq hx hb hK hP hD hS 8 4 9 0 rfl rfl rfl rfl (vp_in_nI (by decide) (by decide)) d_Book_init_86 (fun H locs hP hD hS => ?_)
  rw [nI_clamp (by decide)] at hP hD
  have hP : va_P (dC, dI) classes [(h0, .inr (2, [.int (-1), .int 0, .ref q1, .ref q4, .int 0, .ref q7, .int 0, .ref q10, .int 0, .ref q12, .null, .int 0, .int 0])), (q1, .inr (0, [.ref q2, .int 0, .int 0])), (q2, .inl (cA3, 20, .inl (fun _ => 0))), (q4, .inr (0, [.ref q5, .int 0, .int 0])), (q5, .inl (cA6, 60, .inl (fun _ => 0))), (q7, .inr (0, [.ref q8, .int 0, .int 0])), (q8, .inl (cA9, 60, .inl (fun _ => 0))), (q10, .inl (cA11, 4, .inl (fun _ => 0))), (q12, .inl (cA13, 20, .inr (.inr (.inr (.inr (va_up (fun _ => none) 0 (some q14))))))), (q14, .inr (0, [.ref q15, .int 0, .int 0])), (q15, .inl (cA16, 20, .inl (fun _ => 0)))] H := hP
  have hD : va_D A [(h0, .inr (2, [.int (-1), .int 0, .ref q1, .ref q4, .int 0, .ref q7, .int 0, .ref q10, .int 0, .ref q12, .null, .int 0, .int 0])), (q1, .inr (0, [.ref q2, .int 0, .int 0])), (q2, .inl (cA3, 20, .inl (fun _ => 0))), (q4, .inr (0, [.ref q5, .int 0, .int 0])), (q5, .inl (cA6, 60, .inl (fun _ => 0))), (q7, .inr (0, [.ref q8, .int 0, .int 0])), (q8, .inl (cA9, 60, .inl (fun _ => 0))), (q10, .inl (cA11, 4, .inl (fun _ => 0))), (q12, .inl (cA13, 20, .inr (.inr (.inr (.inr (va_up (fun _ => none) 0 (some q14))))))), (q14, .inr (0, [.ref q15, .int 0, .int 0])), (q15, .inl (cA16, 20, .inl (fun _ => 0)))] := hD
  have hP := hP.sub (ws' := [(h0, .inr (2, [.int (-1), .int 0, .ref q1, .ref q4, .int 0, .ref q7, .int 0, .ref q10, .int 0, .ref q12, .null, .int 0, .int 0])), (q12, .inl (cA13, 20, .inr (.inr (.inr (.inr (va_up (fun _ => none) 0 (some q14)))))))]) [0, 8] rfl
  have hD := hD.sub (ws' := [(h0, .inr (2, [.int (-1), .int 0, .ref q1, .ref q4, .int 0, .ref q7, .int 0, .ref q10, .int 0, .ref q12, .null, .int 0, .int 0])), (q12, .inl (cA13, 20, .inr (.inr (.inr (.inr (va_up (fun _ => none) 0 (some q14)))))))]) [0, 8] (by decide +kernel) rfl
  have hK := hK.sub (tys' := [(cA13, .object R_Row)]) [4] rfl
  refine lv_iinc (v := (nI 1)) (lv' := [(1, .int (nI 1)), (0, .ref h0)]) hx hb d_Book_init_87 hl (k := 0) rfl (by decide) (by decide) rfl (fun ls hl => ?_)
  refine lv_goto (tgt := 66) hx hb d_Book_init_90 (by decide) ?_
  refine lv_iload_n hx hb d_Book_init_66 rfl (lv_at hl 0 rfl) ?_
  refine lv_bipush (v := (nI 20)) hx hb d_Book_init_67 (by decide) ?_
  refine lv_icmp_ge (tgt := 93) hx hb d_Book_init_69 (by decide) (fun c_69 => absurd c_69 (by decide)) (fun _ => ?_)
  refine lv_aload_n hx hb d_Book_init_72 rfl (lv_at hl 1 rfl) ?_
  refine va_get (D := (dC, dI)) (ci := 2) (v := .ref q12) (C := R_Book) (T := F_Book) (N := 13) hx hb ht i_Book hown hK hP 0 rfl rfl 9 (by decide) (ht _ k_92) (fun _ h9 => h9) rfl d_Book_init_73 ?_
  refine lv_iload_n hx hb d_Book_init_76 rfl (lv_at hl 0 rfl) ?_
  refine va_new (ci := 0) (fs := [.null, .int 0, .int 0]) (C := R_Row) (T := F_Row) (N := 3) hx hb ht i_Row t_Row t_Row_ok hown (ht _ k_84) (ht _ k_24) (ht _ k_2) hK hP hD hS hA rfl (fun j hj => by rcases (show j = 0 ∨ j = 1 ∨ j = 2 by omega) with rfl | rfl | rfl <;> rfl) (Nat.le_of_ble_eq_true rfl) (Nat.le_of_ble_eq_true rfl) d_Book_init_77 (fun q17 H hP hD hS => ?_)
  refine W.widen (k := 11) (n := 199) (by omega) (by omega) ?_
  have hP : va_P (dC, dI) classes [(h0, .inr (2, [.int (-1), .int 0, .ref q1, .ref q4, .int 0, .ref q7, .int 0, .ref q10, .int 0, .ref q12, .null, .int 0, .int 0])), (q12, .inl (cA13, 20, .inr (.inr (.inr (.inr (va_up (fun _ => none) 0 (some q14))))))), (q17, .inr (0, [.null, .int 0, .int 0]))] H := hP
  have hD : va_D A [(h0, .inr (2, [.int (-1), .int 0, .ref q1, .ref q4, .int 0, .ref q7, .int 0, .ref q10, .int 0, .ref q12, .null, .int 0, .int 0])), (q12, .inl (cA13, 20, .inr (.inr (.inr (.inr (va_up (fun _ => none) 0 (some q14))))))), (q17, .inr (0, [.null, .int 0, .int 0]))] := hD
  refine lv_dup hx hb d_Book_init_80 rfl ?_
  refine lv_bipush (v := (nI 20)) hx hb d_Book_init_81 (by decide) ?_
  have hPc := hP.sub (ws' := [(q17, .inr (0, [.null, .int 0, .int 0]))]) [2] rfl
  have hDc := hD.sub (ws' := [(q17, .inr (0, [.null, .int 0, .int 0]))]) [2] (by decide +kernel) rfl
  have hKc := hK.sub (tys' := []) [] rfl
  have hFc := va_free (wc := [(q17, .inr (0, [.null, .int 0, .int 0]))]) hD hS hA [2] rfl
  refine va_callv (va_runI (As := [.int (nI 20)]) (rest := [.ref q17, .int (nI 1), .ref q12]) ⟨hx, hb, hml, hown, ht⟩ (c_Row_init l dC dI q17 H.size 20 (by decide) (by decide)) (cwI 1 ht (xw_good k_27) rfl rfl rfl (ht _ k_2) (ht _ k_85) (ht _ k_26) rfl (by decide +kernel) ⟨(Nat.le_of_ble_eq_true rfl), (Nat.le_of_ble_eq_true rfl)⟩) ⟨fun a U g mk q => by obtain ⟨q0, q1, qP, qK, qD⟩ := q; exact ⟨q0, q1, qP, va_K.moved (u := U) (U := U.calling g mk a) (Vm.Alike.refl U.vm) qK, qD⟩, fun U hU hW => ⟨rfl, by rw [hU], by rw [hU]; exact hPc, va_K.moved hW.alike hKc, hDc.weaken (fun _ _ _ _ => trivial)⟩⟩ rfl rfl hl.1 rfl (lv_room (Nat.le_of_ble_eq_true rfl)) d_Book_init_83 ⟨(Nat.le_of_ble_eq_true rfl), (Nat.le_of_ble_eq_true rfl)⟩) hS (fun q _ h => hFc q h) hFc (fun u t H1 locs ht9 hvm hw hB hz1 hk1 hS => ?_)
  obtain ⟨q18, cA19, hP1, hK1, hD1⟩ := hB
  rw [ht9] at hP1
  have hK1 := va_K.moved hvm.symm hK1
  obtain ⟨hP, hD⟩ := va_join (wr := [(h0, .inr (2, [.int (-1), .int 0, .ref q1, .ref q4, .int 0, .ref q7, .int 0, .ref q10, .int 0, .ref q12, .null, .int 0, .int 0])), (q12, .inl (cA13, 20, .inr (.inr (.inr (.inr (va_up (fun _ => none) 0 (some q14)))))))]) (w1 := [(q17, .inr (0, [.ref q18, .int 0, .int 0])), (q18, .inl (cA19, 20, .inl (fun _ => 0)))]) hP hD [2] [0, 1] rfl rfl (by decide +kernel) (by decide +kernel) hk1 hFc hP1 hD1
  have hK := (hK.sub (tys' := [(cA13, .object R_Row)]) [0] rfl).app hK1
  generalize H1 = H at hP hS ⊢
  have hP : va_P (dC, dI) classes [(h0, .inr (2, [.int (-1), .int 0, .ref q1, .ref q4, .int 0, .ref q7, .int 0, .ref q10, .int 0, .ref q12, .null, .int 0, .int 0])), (q12, .inl (cA13, 20, .inr (.inr (.inr (.inr (va_up (fun _ => none) 0 (some q14))))))), (q17, .inr (0, [.ref q18, .int 0, .int 0])), (q18, .inl (cA19, 20, .inl (fun _ => 0)))] H := hP
  have hD : va_D A [(h0, .inr (2, [.int (-1), .int 0, .ref q1, .ref q4, .int 0, .ref q7, .int 0, .ref q10, .int 0, .ref q12, .null, .int 0, .int 0])), (q12, .inl (cA13, 20, .inr (.inr (.inr (.inr (va_up (fun _ => none) 0 (some q14))))))), (q17, .inr (0, [.ref q18, .int 0, .int 0])), (q18, .inl (cA19, 20, .inl (fun _ => 0)))] := hD
  have hK : va_K (dC, dI) classes [(cA13, .object R_Row), (cA19, .byte)] s := hK
  refine W.widen (k := 12) (n := 219) (by omega) (by omega) ?_
  refine va_astq hx hb hK hP hD hS 1 0 2 0 rfl rfl rfl rfl (vp_in_nI (by decide) (by decide)) d_Book_init_86 (fun H locs hP hD hS => ?_)
  rw [nI_clamp (by decide)] at hP hD
  have hP : va_P (dC, dI) classes [(h0, .inr (2, [.int (-1), .int 0, .ref q1, .ref q4, .int 0, .ref q7, .int 0, .ref q10, .int 0, .ref q12, .null, .int 0, .int 0])), (q12, .inl (cA13, 20, .inr (.inr (.inr (.inr (va_up (va_up (fun _ => none) 0 (some q14)) 1 (some q17))))))), (q17, .inr (0, [.ref q18, .int 0, .int 0])), (q18, .inl (cA19, 20, .inl (fun _ => 0)))] H := hP
  have hD : va_D A [(h0, .inr (2, [.int (-1), .int 0, .ref q1, .ref q4, .int 0, .ref q7, .int 0, .ref q10, .int 0, .ref q12, .null, .int 0, .int 0])), (q12, .inl (cA13, 20, .inr (.inr (.inr (.inr (va_up (va_up (fun _ => none) 0 (some q14)) 1 (some q17))))))), (q17, .inr (0, [.ref q18, .int 0, .int 0])), (q18, .inl (cA19, 20, .inl (fun _ => 0)))] := hD
  have hP := hP.sub (ws' := [(h0, .inr (2, [.int (-1), .int 0, .ref q1, .ref q4, .int 0, .ref q7, .int 0, .ref q10, .int 0, .ref q12, .null, .int 0, .int 0])), (q12, .inl (cA13, 20, .inr (.inr (.inr (.inr (va_up (va_up (fun _ => none) 0 (some q14)) 1 (some q17)))))))]) [0, 1] rfl
  have hD := hD.sub (ws' := [(h0, .inr (2, [.int (-1), .int 0, .ref q1, .ref q4, .int 0, .ref q7, .int 0, .ref q10, .int 0, .ref q12, .null, .int 0, .int 0])), (q12, .inl (cA13, 20, .inr (.inr (.inr (.inr (va_up (va_up (fun _ => none) 0 (some q14)) 1 (some q17)))))))]) [0, 1] (by decide +kernel) rfl
  have hK := hK.sub (tys' := [(cA13, .object R_Row)]) [0] rfl
  refine lv_iinc (v := (nI 2)) (lv' := [(1, .int (nI 2)), (0, .ref h0)]) hx hb d_Book_init_87 hl (k := 0) rfl (by decide) (by decide) rfl (fun ls hl => ?_)
  refine lv_goto (tgt := 66) hx hb d_Book_init_90 (by decide) ?_
  refine lv_iload_n hx hb d_Book_init_66 rfl (lv_at hl 0 rfl) ?_
  refine lv_bipush (v := (nI 20)) hx hb d_Book_init_67 (by decide) ?_
  refine lv_icmp_ge (tgt := 93) hx hb d_Book_init_69 (by decide) (fun c_69 => absurd c_69 (by decide)) (fun _ => ?_)
  refine lv_aload_n hx hb d_Book_init_72 rfl (lv_at hl 1 rfl) ?_
  refine va_get (D := (dC, dI)) (ci := 2) (v := .ref q12) (C := R_Book) (T := F_Book) (N := 13) hx hb ht i_Book hown hK hP 0 rfl rfl 9 (by decide) (ht _ k_92) (fun _ h9 => h9) rfl d_Book_init_73 ?_
  refine lv_iload_n hx hb d_Book_init_76 rfl (lv_at hl 0 rfl) ?_
  refine va_new (ci := 0) (fs := [.null, .int 0, .int 0]) (C := R_Row) (T := F_Row) (N := 3) hx hb ht i_Row t_Row t_Row_ok hown (ht _ k_84) (ht _ k_24) (ht _ k_2) hK hP hD hS hA rfl (fun j hj => by rcases (show j = 0 ∨ j = 1 ∨ j = 2 by omega) with rfl | rfl | rfl <;> rfl) (Nat.le_of_ble_eq_true rfl) (Nat.le_of_ble_eq_true rfl) d_Book_init_77 (fun q20 H hP hD hS => ?_)
  refine W.widen (k := 13) (n := 222) (by omega) (by omega) ?_
  have hP : va_P (dC, dI) classes [(h0, .inr (2, [.int (-1), .int 0, .ref q1, .ref q4, .int 0, .ref q7, .int 0, .ref q10, .int 0, .ref q12, .null, .int 0, .int 0])), (q12, .inl (cA13, 20, .inr (.inr (.inr (.inr (va_up (va_up (fun _ => none) 0 (some q14)) 1 (some q17))))))), (q20, .inr (0, [.null, .int 0, .int 0]))] H := hP
  have hD : va_D A [(h0, .inr (2, [.int (-1), .int 0, .ref q1, .ref q4, .int 0, .ref q7, .int 0, .ref q10, .int 0, .ref q12, .null, .int 0, .int 0])), (q12, .inl (cA13, 20, .inr (.inr (.inr (.inr (va_up (va_up (fun _ => none) 0 (some q14)) 1 (some q17))))))), (q20, .inr (0, [.null, .int 0, .int 0]))] := hD
  refine lv_dup hx hb d_Book_init_80 rfl ?_
  refine lv_bipush (v := (nI 20)) hx hb d_Book_init_81 (by decide) ?_
  have hPc := hP.sub (ws' := [(q20, .inr (0, [.null, .int 0, .int 0]))]) [2] rfl
  have hDc := hD.sub (ws' := [(q20, .inr (0, [.null, .int 0, .int 0]))]) [2] (by decide +kernel) rfl
  have hKc := hK.sub (tys' := []) [] rfl
  have hFc := va_free (wc := [(q20, .inr (0, [.null, .int 0, .int 0]))]) hD hS hA [2] rfl
  refine va_callv (va_runI (As := [.int (nI 20)]) (rest := [.ref q20, .int (nI 2), .ref q12]) ⟨hx, hb, hml, hown, ht⟩ (c_Row_init l dC dI q20 H.size 20 (by decide) (by decide)) (cwI 1 ht (xw_good k_27) rfl rfl rfl (ht _ k_2) (ht _ k_85) (ht _ k_26) rfl (by decide +kernel) ⟨(Nat.le_of_ble_eq_true rfl), (Nat.le_of_ble_eq_true rfl)⟩) ⟨fun a U g mk q => by obtain ⟨q0, q1, qP, qK, qD⟩ := q; exact ⟨q0, q1, qP, va_K.moved (u := U) (U := U.calling g mk a) (Vm.Alike.refl U.vm) qK, qD⟩, fun U hU hW => ⟨rfl, by rw [hU], by rw [hU]; exact hPc, va_K.moved hW.alike hKc, hDc.weaken (fun _ _ _ _ => trivial)⟩⟩ rfl rfl hl.1 rfl (lv_room (Nat.le_of_ble_eq_true rfl)) d_Book_init_83 ⟨(Nat.le_of_ble_eq_true rfl), (Nat.le_of_ble_eq_true rfl)⟩) hS (fun q _ h => hFc q h) hFc (fun u t H1 locs ht9 hvm hw hB hz1 hk1 hS => ?_)
  obtain ⟨q21, cA22, hP1, hK1, hD1⟩ := hB
  rw [ht9] at hP1
  have hK1 := va_K.moved hvm.symm hK1
  obtain ⟨hP, hD⟩ := va_join (wr := [(h0, .inr (2, [.int (-1), .int 0, .ref q1, .ref q4, .int 0, .ref q7, .int 0, .ref q10, .int 0, .ref q12, .null, .int 0, .int 0])), (q12, .inl (cA13, 20, .inr (.inr (.inr (.inr (va_up (va_up (fun _ => none) 0 (some q14)) 1 (some q17)))))))]) (w1 := [(q20, .inr (0, [.ref q21, .int 0, .int 0])), (q21, .inl (cA22, 20, .inl (fun _ => 0)))]) hP hD [2] [0, 1] rfl rfl (by decide +kernel) (by decide +kernel) hk1 hFc hP1 hD1
  have hK := (hK.sub (tys' := [(cA13, .object R_Row)]) [0] rfl).app hK1
  generalize H1 = H at hP hS ⊢
  have hP : va_P (dC, dI) classes [(h0, .inr (2, [.int (-1), .int 0, .ref q1, .ref q4, .int 0, .ref q7, .int 0, .ref q10, .int 0, .ref q12, .null, .int 0, .int 0])), (q12, .inl (cA13, 20, .inr (.inr (.inr (.inr (va_up (va_up (fun _ => none) 0 (some q14)) 1 (some q17))))))), (q20, .inr (0, [.ref q21, .int 0, .int 0])), (q21, .inl (cA22, 20, .inl (fun _ => 0)))] H := hP
  have hD : va_D A [(h0, .inr (2, [.int (-1), .int 0, .ref q1, .ref q4, .int 0, .ref q7, .int 0, .ref q10, .int 0, .ref q12, .null, .int 0, .int 0])), (q12, .inl (cA13, 20, .inr (.inr (.inr (.inr (va_up (va_up (fun _ => none) 0 (some q14)) 1 (some q17))))))), (q20, .inr (0, [.ref q21, .int 0, .int 0])), (q21, .inl (cA22, 20, .inl (fun _ => 0)))] := hD
  have hK : va_K (dC, dI) classes [(cA13, .object R_Row), (cA22, .byte)] s := hK
  refine W.widen (k := 14) (n := 242) (by omega) (by omega) ?_
  refine va_astq hx hb hK hP hD hS 1 0 2 0 rfl rfl rfl rfl (vp_in_nI (by decide) (by decide)) d_Book_init_86 (fun H locs hP hD hS => ?_)
  rw [nI_clamp (by decide)] at hP hD
  have hP : va_P (dC, dI) classes [(h0, .inr (2, [.int (-1), .int 0, .ref q1, .ref q4, .int 0, .ref q7, .int 0, .ref q10, .int 0, .ref q12, .null, .int 0, .int 0])), (q12, .inl (cA13, 20, .inr (.inr (.inr (.inr (va_up (va_up (va_up (fun _ => none) 0 (some q14)) 1 (some q17)) 2 (some q20))))))), (q20, .inr (0, [.ref q21, .int 0, .int 0])), (q21, .inl (cA22, 20, .inl (fun _ => 0)))] H := hP
  have hD : va_D A [(h0, .inr (2, [.int (-1), .int 0, .ref q1, .ref q4, .int 0, .ref q7, .int 0, .ref q10, .int 0, .ref q12, .null, .int 0, .int 0])), (q12, .inl (cA13, 20, .inr (.inr (.inr (.inr (va_up (va_up (va_up (fun _ => none) 0 (some q14)) 1 (some q17)) 2 (some q20))))))), (q20, .inr (0, [.ref q21, .int 0, .int 0])), (q21, .inl (cA22, 20, .inl (fun _ => 0)))] := hD
  have hP := hP.sub (ws' := [(h0, .inr (2, [.int (-1), .int 0, .ref q1, .ref q4, .int 0, .ref q7, .int 0, .ref q10, .int 0, .ref q12, .null, .int 0, .int 0])), (q12, .inl (cA13, 20, .inr (.inr (.inr (.inr (va_up (va_up (va_up (fun _ => none) 0 (some q14)) 1 (some q17)) 2 (some q20)))))))]) [0, 1] rfl
  have hD := hD.sub (ws' := [(h0, .inr (2, [.int (-1), .int 0, .ref q1, .ref q4, .int 0, .ref q7, .int 0, .ref q10, .int 0, .ref q12, .null, .int 0, .int 0])), (q12, .inl (cA13, 20, .inr (.inr (.inr (.inr (va_up (va_up (va_up (fun _ => none) 0 (some q14)) 1 (some q17)) 2 (some q20)))))))]) [0, 1] (by decide +kernel) rfl
  have hK := hK.sub (tys' := [(cA13, .object R_Row)]) [0] rfl
  refine lv_iinc (v := (nI 3)) (lv' := [(1, .int (nI 3)), (0, .ref h0)]) hx hb d_Book_init_87 hl (k := 0) rfl (by decide) (by decide) rfl (fun ls hl => ?_)
  refine lv_goto (tgt := 66) hx hb d_Book_init_90 (by decide) ?_
  refine lv_iload_n hx hb d_Book_init_66 rfl (lv_at hl 0 rfl) ?_
  refine lv_bipush (v := (nI 20)) hx hb d_Book_init_67 (by decide) ?_
  refine lv_icmp_ge (tgt := 93) hx hb d_Book_init_69 (by decide) (fun c_69 => absurd c_69 (by decide)) (fun _ => ?_)
  refine lv_aload_n hx hb d_Book_init_72 rfl (lv_at hl 1 rfl) ?_
  refine va_get (D := (dC, dI)) (ci := 2) (v := .ref q12) (C := R_Book) (T := F_Book) (N := 13) hx hb ht i_Book hown hK hP 0 rfl rfl 9 (by decide) (ht _ k_92) (fun _ h9 => h9) rfl d_Book_init_73 ?_
  refine lv_iload_n hx hb d_Book_init_76 rfl (lv_at hl 0 rfl) ?_
  refine va_new (ci := 0) (fs := [.null, .int 0, .int 0]) (C := R_Row) (T := F_Row) (N := 3) hx hb ht i_Row t_Row t_Row_ok hown (ht _ k_84) (ht _ k_24) (ht _ k_2) hK hP hD hS hA rfl (fun j hj => by rcases (show j = 0 ∨ j = 1 ∨ j = 2 by omega) with rfl | rfl | rfl <;> rfl) (Nat.le_of_ble_eq_true rfl) (Nat.le_of_ble_eq_true rfl) d_Book_init_77 (fun q23 H hP hD hS => ?_)
  refine W.widen (k := 15) (n := 245) (by omega) (by omega) ?_
  have hP : va_P (dC, dI) classes [(h0, .inr (2, [.int (-1), .int 0, .ref q1, .ref q4, .int 0, .ref q7, .int 0, .ref q10, .int 0, .ref q12, .null, .int 0, .int 0])), (q12, .inl (cA13, 20, .inr (.inr (.inr (.inr (va_up (va_up (va_up (fun _ => none) 0 (some q14)) 1 (some q17)) 2 (some q20))))))), (q23, .inr (0, [.null, .int 0, .int 0]))] H := hP
  have hD : va_D A [(h0, .inr (2, [.int (-1), .int 0, .ref q1, .ref q4, .int 0, .ref q7, .int 0, .ref q10, .int 0, .ref q12, .null, .int 0, .int 0])), (q12, .inl (cA13, 20, .inr (.inr (.inr (.inr (va_up (va_up (va_up (fun _ => none) 0 (some q14)) 1 (some q17)) 2 (some q20))))))), (q23, .inr (0, [.null, .int 0, .int 0]))] := hD
  refine lv_dup hx hb d_Book_init_80 rfl ?_
  refine lv_bipush (v := (nI 20)) hx hb d_Book_init_81 (by decide) ?_
  have hPc := hP.sub (ws' := [(q23, .inr (0, [.null, .int 0, .int 0]))]) [2] rfl
  have hDc := hD.sub (ws' := [(q23, .inr (0, [.null, .int 0, .int 0]))]) [2] (by decide +kernel) rfl
  have hKc := hK.sub (tys' := []) [] rfl
  have hFc := va_free (wc := [(q23, .inr (0, [.null, .int 0, .int 0]))]) hD hS hA [2] rfl
  refine va_callv (va_runI (As := [.int (nI 20)]) (rest := [.ref q23, .int (nI 3), .ref q12]) ⟨hx, hb, hml, hown, ht⟩ (c_Row_init l dC dI q23 H.size 20 (by decide) (by decide)) (cwI 1 ht (xw_good k_27) rfl rfl rfl (ht _ k_2) (ht _ k_85) (ht _ k_26) rfl (by decide +kernel) ⟨(Nat.le_of_ble_eq_true rfl), (Nat.le_of_ble_eq_true rfl)⟩) ⟨fun a U g mk q => by obtain ⟨q0, q1, qP, qK, qD⟩ := q; exact ⟨q0, q1, qP, va_K.moved (u := U) (U := U.calling g mk a) (Vm.Alike.refl U.vm) qK, qD⟩, fun U hU hW => ⟨rfl, by rw [hU], by rw [hU]; exact hPc, va_K.moved hW.alike hKc, hDc.weaken (fun _ _ _ _ => trivial)⟩⟩ rfl rfl hl.1 rfl (lv_room (Nat.le_of_ble_eq_true rfl)) d_Book_init_83 ⟨(Nat.le_of_ble_eq_true rfl), (Nat.le_of_ble_eq_true rfl)⟩) hS (fun q _ h => hFc q h) hFc (fun u t H1 locs ht9 hvm hw hB hz1 hk1 hS => ?_)
  obtain ⟨q24, cA25, hP1, hK1, hD1⟩ := hB
  rw [ht9] at hP1
  have hK1 := va_K.moved hvm.symm hK1
  obtain ⟨hP, hD⟩ := va_join (wr := [(h0, .inr (2, [.int (-1), .int 0, .ref q1, .ref q4, .int 0, .ref q7, .int 0, .ref q10, .int 0, .ref q12, .null, .int 0, .int 0])), (q12, .inl (cA13, 20, .inr (.inr (.inr (.inr (va_up (va_up (va_up (fun _ => none) 0 (some q14)) 1 (some q17)) 2 (some q20)))))))]) (w1 := [(q23, .inr (0, [.ref q24, .int 0, .int 0])), (q24, .inl (cA25, 20, .inl (fun _ => 0)))]) hP hD [2] [0, 1] rfl rfl (by decide +kernel) (by decide +kernel) hk1 hFc hP1 hD1
  have hK := (hK.sub (tys' := [(cA13, .object R_Row)]) [0] rfl).app hK1
  generalize H1 = H at hP hS ⊢
  have hP : va_P (dC, dI) classes [(h0, .inr (2, [.int (-1), .int 0, .ref q1, .ref q4, .int 0, .ref q7, .int 0, .ref q10, .int 0, .ref q12, .null, .int 0, .int 0])), (q12, .inl (cA13, 20, .inr (.inr (.inr (.inr (va_up (va_up (va_up (fun _ => none) 0 (some q14)) 1 (some q17)) 2 (some q20))))))), (q23, .inr (0, [.ref q24, .int 0, .int 0])), (q24, .inl (cA25, 20, .inl (fun _ => 0)))] H := hP
  have hD : va_D A [(h0, .inr (2, [.int (-1), .int 0, .ref q1, .ref q4, .int 0, .ref q7, .int 0, .ref q10, .int 0, .ref q12, .null, .int 0, .int 0])), (q12, .inl (cA13, 20, .inr (.inr (.inr (.inr (va_up (va_up (va_up (fun _ => none) 0 (some q14)) 1 (some q17)) 2 (some q20))))))), (q23, .inr (0, [.ref q24, .int 0, .int 0])), (q24, .inl (cA25, 20, .inl (fun _ => 0)))] := hD
  have hK : va_K (dC, dI) classes [(cA13, .object R_Row), (cA25, .byte)] s := hK
  refine W.widen (k := 16) (n := 265) (by omega) (by omega) ?_
  refine va_astq hx hb hK hP hD hS 1 0 2 0 rfl rfl rfl rfl (vp_in_nI (by decide) (by decide)) d_Book_init_86 (fun H locs hP hD hS => ?_)
  rw [nI_clamp (by decide)] at hP hD
  have hP : va_P (dC, dI) classes [(h0, .inr (2, [.int (-1), .int 0, .ref q1, .ref q4, .int 0, .ref q7, .int 0, .ref q10, .int 0, .ref q12, .null, .int 0, .int 0])), (q12, .inl (cA13, 20, .inr (.inr (.inr (.inr (va_up (va_up (va_up (va_up (fun _ => none) 0 (some q14)) 1 (some q17)) 2 (some q20)) 3 (some q23))))))), (q23, .inr (0, [.ref q24, .int 0, .int 0])), (q24, .inl (cA25, 20, .inl (fun _ => 0)))] H := hP
  have hD : va_D A [(h0, .inr (2, [.int (-1), .int 0, .ref q1, .ref q4, .int 0, .ref q7, .int 0, .ref q10, .int 0, .ref q12, .null, .int 0, .int 0])), (q12, .inl (cA13, 20, .inr (.inr (.inr (.inr (va_up (va_up (va_up (va_up (fun _ => none) 0 (some q14)) 1 (some q17)) 2 (some q20)) 3 (some q23))))))), (q23, .inr (0, [.ref q24, .int 0, .int 0])), (q24, .inl (cA25, 20, .inl (fun _ => 0)))] := hD
  have hP := hP.sub (ws' := [(h0, .inr (2, [.int (-1), .int 0, .ref q1, .ref q4, .int 0, .ref q7, .int 0, .ref q10, .int 0, .ref q12, .null, .int 0, .int 0])), (q12, .inl (cA13, 20, .inr (.inr (.inr (.inr (va_up (va_up (va_up (va_up (fun _ => none) 0 (some q14)) 1 (some q17)) 2 (some q20)) 3 (some q23)))))))]) [0, 1] rfl
  have hD := hD.sub (ws' := [(h0, .inr (2, [.int (-1), .int 0, .ref q1, .ref q4, .int 0, .ref q7, .int 0, .ref q10, .int 0, .ref q12, .null, .int 0, .int 0])), (q12, .inl (cA13, 20, .inr (.inr (.inr (.inr (va_up (va_up (va_up (va_up (fun _ => none) 0 (some q14)) 1 (some q17)) 2 (some q20)) 3 (some q23)))))))]) [0, 1] (by decide +kernel) rfl
  have hK := hK.sub (tys' := [(cA13, .object R_Row)]) [0] rfl
  refine lv_iinc (v := (nI 4)) (lv' := [(1, .int (nI 4)), (0, .ref h0)]) hx hb d_Book_init_87 hl (k := 0) rfl (by decide) (by decide) rfl (fun ls hl => ?_)
  refine lv_goto (tgt := 66) hx hb d_Book_init_90 (by decide) ?_
  refine lv_iload_n hx hb d_Book_init_66 rfl (lv_at hl 0 rfl) ?_
  refine lv_bipush (v := (nI 20)) hx hb d_Book_init_67 (by decide) ?_
  refine lv_icmp_ge (tgt := 93) hx hb d_Book_init_69 (by decide) (fun c_69 => absurd c_69 (by decide)) (fun _ => ?_)
  refine lv_aload_n hx hb d_Book_init_72 rfl (lv_at hl 1 rfl) ?_
  refine va_get (D := (dC, dI)) (ci := 2) (v := .ref q12) (C := R_Book) (T := F_Book) (N := 13) hx hb ht i_Book hown hK hP 0 rfl rfl 9 (by decide) (ht _ k_92) (fun _ h9 => h9) rfl d_Book_init_73 ?_
  refine lv_iload_n hx hb d_Book_init_76 rfl (lv_at hl 0 rfl) ?_
  refine va_new (ci := 0) (fs := [.null, .int 0, .int 0]) (C := R_Row) (T := F_Row) (N := 3) hx hb ht i_Row t_Row t_Row_ok hown (ht _ k_84) (ht _ k_24) (ht _ k_2) hK hP hD hS hA rfl (fun j hj => by rcases (show j = 0 ∨ j = 1 ∨ j = 2 by omega) with rfl | rfl | rfl <;> rfl) (Nat.le_of_ble_eq_true rfl) (Nat.le_of_ble_eq_true rfl) d_Book_init_77 (fun q26 H hP hD hS => ?_)
  refine W.widen (k := 17) (n := 268) (by omega) (by omega) ?_
  have hP : va_P (dC, dI) classes [(h0, .inr (2, [.int (-1), .int 0, .ref q1, .ref q4, .int 0, .ref q7, .int 0, .ref q10, .int 0, .ref q12, .null, .int 0, .int 0])), (q12, .inl (cA13, 20, .inr (.inr (.inr (.inr (va_up (va_up (va_up (va_up (fun _ => none) 0 (some q14)) 1 (some q17)) 2 (some q20)) 3 (some q23))))))), (q26, .inr (0, [.null, .int 0, .int 0]))] H := hP
  have hD : va_D A [(h0, .inr (2, [.int (-1), .int 0, .ref q1, .ref q4, .int 0, .ref q7, .int 0, .ref q10, .int 0, .ref q12, .null, .int 0, .int 0])), (q12, .inl (cA13, 20, .inr (.inr (.inr (.inr (va_up (va_up (va_up (va_up (fun _ => none) 0 (some q14)) 1 (some q17)) 2 (some q20)) 3 (some q23))))))), (q26, .inr (0, [.null, .int 0, .int 0]))] := hD
  refine lv_dup hx hb d_Book_init_80 rfl ?_
  refine lv_bipush (v := (nI 20)) hx hb d_Book_init_81 (by decide) ?_
  have hPc := hP.sub (ws' := [(q26, .inr (0, [.null, .int 0, .int 0]))]) [2] rfl
  have hDc := hD.sub (ws' := [(q26, .inr (0, [.null, .int 0, .int 0]))]) [2] (by decide +kernel) rfl
  have hKc := hK.sub (tys' := []) [] rfl
  have hFc := va_free (wc := [(q26, .inr (0, [.null, .int 0, .int 0]))]) hD hS hA [2] rfl
  refine va_callv (va_runI (As := [.int (nI 20)]) (rest := [.ref q26, .int (nI 4), .ref q12]) ⟨hx, hb, hml, hown, ht⟩ (c_Row_init l dC dI q26 H.size 20 (by decide) (by decide)) (cwI 1 ht (xw_good k_27) rfl rfl rfl (ht _ k_2) (ht _ k_85) (ht _ k_26) rfl (by decide +kernel) ⟨(Nat.le_of_ble_eq_true rfl), (Nat.le_of_ble_eq_true rfl)⟩) ⟨fun a U g mk q => by obtain ⟨q0, q1, qP, qK, qD⟩ := q; exact ⟨q0, q1, qP, va_K.moved (u := U) (U := U.calling g mk a) (Vm.Alike.refl U.vm) qK, qD⟩, fun U hU hW => ⟨rfl, by rw [hU], by rw [hU]; exact hPc, va_K.moved hW.alike hKc, hDc.weaken (fun _ _ _ _ => trivial)⟩⟩ rfl rfl hl.1 rfl (lv_room (Nat.le_of_ble_eq_true rfl)) d_Book_init_83 ⟨(Nat.le_of_ble_eq_true rfl), (Nat.le_of_ble_eq_true rfl)⟩) hS (fun q _ h => hFc q h) hFc (fun u t H1 locs ht9 hvm hw hB hz1 hk1 hS => ?_)
  obtain ⟨q27, cA28, hP1, hK1, hD1⟩ := hB
  rw [ht9] at hP1
  have hK1 := va_K.moved hvm.symm hK1
  obtain ⟨hP, hD⟩ := va_join (wr := [(h0, .inr (2, [.int (-1), .int 0, .ref q1, .ref q4, .int 0, .ref q7, .int 0, .ref q10, .int 0, .ref q12, .null, .int 0, .int 0])), (q12, .inl (cA13, 20, .inr (.inr (.inr (.inr (va_up (va_up (va_up (va_up (fun _ => none) 0 (some q14)) 1 (some q17)) 2 (some q20)) 3 (some q23)))))))]) (w1 := [(q26, .inr (0, [.ref q27, .int 0, .int 0])), (q27, .inl (cA28, 20, .inl (fun _ => 0)))]) hP hD [2] [0, 1] rfl rfl (by decide +kernel) (by decide +kernel) hk1 hFc hP1 hD1
  have hK := (hK.sub (tys' := [(cA13, .object R_Row)]) [0] rfl).app hK1
  generalize H1 = H at hP hS ⊢
  have hP : va_P (dC, dI) classes [(h0, .inr (2, [.int (-1), .int 0, .ref q1, .ref q4, .int 0, .ref q7, .int 0, .ref q10, .int 0, .ref q12, .null, .int 0, .int 0])), (q12, .inl (cA13, 20, .inr (.inr (.inr (.inr (va_up (va_up (va_up (va_up (fun _ => none) 0 (some q14)) 1 (some q17)) 2 (some q20)) 3 (some q23))))))), (q26, .inr (0, [.ref q27, .int 0, .int 0])), (q27, .inl (cA28, 20, .inl (fun _ => 0)))] H := hP
  have hD : va_D A [(h0, .inr (2, [.int (-1), .int 0, .ref q1, .ref q4, .int 0, .ref q7, .int 0, .ref q10, .int 0, .ref q12, .null, .int 0, .int 0])), (q12, .inl (cA13, 20, .inr (.inr (.inr (.inr (va_up (va_up (va_up (va_up (fun _ => none) 0 (some q14)) 1 (some q17)) 2 (some q20)) 3 (some q23))))))), (q26, .inr (0, [.ref q27, .int 0, .int 0])), (q27, .inl (cA28, 20, .inl (fun _ => 0)))] := hD
  have hK : va_K (dC, dI) classes [(cA13, .object R_Row), (cA28, .byte)] s := hK
  refine W.widen (k := 18) (n := 288) (by omega) (by omega) ?_
  refine va_astq hx hb hK hP hD hS 1 0 2 0 rfl rfl rfl rfl (vp_in_nI (by decide) (by decide)) d_Book_init_86 (fun H locs hP hD hS => ?_)
  rw [nI_clamp (by decide)] at hP hD
  have hP : va_P (dC, dI) classes [(h0, .inr (2, [.int (-1), .int 0, .ref q1, .ref q4, .int 0, .ref q7, .int 0, .ref q10, .int 0, .ref q12, .null, .int 0, .int 0])), (q12, .inl (cA13, 20, .inr (.inr (.inr (.inr (va_up (va_up (va_up (va_up (va_up (fun _ => none) 0 (some q14)) 1 (some q17)) 2 (some q20)) 3 (some q23)) 4 (some q26))))))), (q26, .inr (0, [.ref q27, .int 0, .int 0])), (q27, .inl (cA28, 20, .inl (fun _ => 0)))] H := hP
  have hD : va_D A [(h0, .inr (2, [.int (-1), .int 0, .ref q1, .ref q4, .int 0, .ref q7, .int 0, .ref q10, .int 0, .ref q12, .null, .int 0, .int 0])), (q12, .inl (cA13, 20, .inr (.inr (.inr (.inr (va_up (va_up (va_up (va_up (va_up (fun _ => none) 0 (some q14)) 1 (some q17)) 2 (some q20)) 3 (some q23)) 4 (some q26))))))), (q26, .inr (0, [.ref q27, .int 0, .int 0])), (q27, .inl (cA28, 20, .inl (fun _ => 0)))] := hD
  have hP := hP.sub (ws' := [(h0, .inr (2, [.int (-1), .int 0, .ref q1, .ref q4, .int 0, .ref q7, .int 0, .ref q10, .int 0, .ref q12, .null, .int 0, .int 0])), (q12, .inl (cA13, 20, .inr (.inr (.inr (.inr (va_up (va_up (va_up (va_up (va_up (fun _ => none) 0 (some q14)) 1 (some q17)) 2 (some q20)) 3 (some q23)) 4 (some q26)))))))]) [0, 1] rfl
  have hD := hD.sub (ws' := [(h0, .inr (2, [.int (-1), .int 0, .ref q1, .ref q4, .int 0, .ref q7, .int 0, .ref q10, .int 0, .ref q12, .null, .int 0, .int 0])), (q12, .inl (cA13, 20, .inr (.inr (.inr (.inr (va_up (va_up (va_up (va_up (va_up (fun _ => none) 0 (some q14)) 1 (some q17)) 2 (some q20)) 3 (some q23)) 4 (some q26)))))))]) [0, 1] (by decide +kernel) rfl
  have hK := hK.sub (tys' := [(cA13, .object R_Row)]) [0] rfl
  refine lv_iinc (v := (nI 5)) (lv' := [(1, .int (nI 5)), (0, .ref h0)]) hx hb d_Book_init_87 hl (k := 0) rfl (by decide) (by decide) rfl (fun ls hl => ?_)
  refine lv_goto (tgt := 66) hx hb d_Book_init_90 (by decide) ?_
  refine lv_iload_n hx hb d_Book_init_66 rfl (lv_at hl 0 rfl) ?_
  refine lv_bipush (v := (nI 20)) hx hb d_Book_init_67 (by decide) ?_
  refine lv_icmp_ge (tgt := 93) hx hb d_Book_init_69 (by decide) (fun c_69 => absurd c_69 (by decide)) (fun _ => ?_)
  refine lv_aload_n hx hb d_Book_init_72 rfl (lv_at hl 1 rfl) ?_
  refine va_get (D := (dC, dI)) (ci := 2) (v := .ref q12) (C := R_Book) (T := F_Book) (N := 13) hx hb ht i_Book hown hK hP 0 rfl rfl 9 (by decide) (ht _ k_92) (fun _ h9 => h9) rfl d_Book_init_73 ?_
  refine lv_iload_n hx hb d_Book_init_76 rfl (lv_at hl 0 rfl) ?_
  refine va_new (ci := 0) (fs := [.null, .int 0, .int 0]) (C := R_Row) (T := F_Row) (N := 3) hx hb ht i_Row t_Row t_Row_ok hown (ht _ k_84) (ht _ k_24) (ht _ k_2) hK hP hD hS hA rfl (fun j hj => by rcases (show j = 0 ∨ j = 1 ∨ j = 2 by omega) with rfl | rfl | rfl <;> rfl) (Nat.le_of_ble_eq_true rfl) (Nat.le_of_ble_eq_true rfl) d_Book_init_77 (fun q29 H hP hD hS => ?_)
  refine W.widen (k := 19) (n := 291) (by omega) (by omega) ?_
  have hP : va_P (dC, dI) classes [(h0, .inr (2, [.int (-1), .int 0, .ref q1, .ref q4, .int 0, .ref q7, .int 0, .ref q10, .int 0, .ref q12, .null, .int 0, .int 0])), (q12, .inl (cA13, 20, .inr (.inr (.inr (.inr (va_up (va_up (va_up (va_up (va_up (fun _ => none) 0 (some q14)) 1 (some q17)) 2 (some q20)) 3 (some q23)) 4 (some q26))))))), (q29, .inr (0, [.null, .int 0, .int 0]))] H := hP
  have hD : va_D A [(h0, .inr (2, [.int (-1), .int 0, .ref q1, .ref q4, .int 0, .ref q7, .int 0, .ref q10, .int 0, .ref q12, .null, .int 0, .int 0])), (q12, .inl (cA13, 20, .inr (.inr (.inr (.inr (va_up (va_up (va_up (va_up (va_up (fun _ => none) 0 (some q14)) 1 (some q17)) 2 (some q20)) 3 (some q23)) 4 (some q26))))))), (q29, .inr (0, [.null, .int 0, .int 0]))] := hD
  refine lv_dup hx hb d_Book_init_80 rfl ?_
  refine lv_bipush (v := (nI 20)) hx hb d_Book_init_81 (by decide) ?_
  have hPc := hP.sub (ws' := [(q29, .inr (0, [.null, .int 0, .int 0]))]) [2] rfl
  have hDc := hD.sub (ws' := [(q29, .inr (0, [.null, .int 0, .int 0]))]) [2] (by decide +kernel) rfl
  have hKc := hK.sub (tys' := []) [] rfl
  have hFc := va_free (wc := [(q29, .inr (0, [.null, .int 0, .int 0]))]) hD hS hA [2] rfl
  refine va_callv (va_runI (As := [.int (nI 20)]) (rest := [.ref q29, .int (nI 5), .ref q12]) ⟨hx, hb, hml, hown, ht⟩ (c_Row_init l dC dI q29 H.size 20 (by decide) (by decide)) (cwI 1 ht (xw_good k_27) rfl rfl rfl (ht _ k_2) (ht _ k_85) (ht _ k_26) rfl (by decide +kernel) ⟨(Nat.le_of_ble_eq_true rfl), (Nat.le_of_ble_eq_true rfl)⟩) ⟨fun a U g mk q => by obtain ⟨q0, q1, qP, qK, qD⟩ := q; exact ⟨q0, q1, qP, va_K.moved (u := U) (U := U.calling g mk a) (Vm.Alike.refl U.vm) qK, qD⟩, fun U hU hW => ⟨rfl, by rw [hU], by rw [hU]; exact hPc, va_K.moved hW.alike hKc, hDc.weaken (fun _ _ _ _ => trivial)⟩⟩ rfl rfl hl.1 rfl (lv_room (Nat.le_of_ble_eq_true rfl)) d_Book_init_83 ⟨(Nat.le_of_ble_eq_true rfl), (Nat.le_of_ble_eq_true rfl)⟩) hS (fun q _ h => hFc q h) hFc (fun u t H1 locs ht9 hvm hw hB hz1 hk1 hS => ?_)
  obtain ⟨q30, cA31, hP1, hK1, hD1⟩ := hB
  rw [ht9] at hP1
  have hK1 := va_K.moved hvm.symm hK1
  obtain ⟨hP, hD⟩ := va_join (wr := [(h0, .inr (2, [.int (-1), .int 0, .ref q1, .ref q4, .int 0, .ref q7, .int 0, .ref q10, .int 0, .ref q12, .null, .int 0, .int 0])), (q12, .inl (cA13, 20, .inr (.inr (.inr (.inr (va_up (va_up (va_up (va_up (va_up (fun _ => none) 0 (some q14)) 1 (some q17)) 2 (some q20)) 3 (some q23)) 4 (some q26)))))))]) (w1 := [(q29, .inr (0, [.ref q30, .int 0, .int 0])), (q30, .inl (cA31, 20, .inl (fun _ => 0)))]) hP hD [2] [0, 1] rfl rfl (by decide +kernel) (by decide +kernel) hk1 hFc hP1 hD1
  have hK := (hK.sub (tys' := [(cA13, .object R_Row)]) [0] rfl).app hK1
  generalize H1 = H at hP hS ⊢
  have hP : va_P (dC, dI) classes [(h0, .inr (2, [.int (-1), .int 0, .ref q1, .ref q4, .int 0, .ref q7, .int 0, .ref q10, .int 0, .ref q12, .null, .int 0, .int 0])), (q12, .inl (cA13, 20, .inr (.inr (.inr (.inr (va_up (va_up (va_up (va_up (va_up (fun _ => none) 0 (some q14)) 1 (some q17)) 2 (some q20)) 3 (some q23)) 4 (some q26))))))), (q29, .inr (0, [.ref q30, .int 0, .int 0])), (q30, .inl (cA31, 20, .inl (fun _ => 0)))] H := hP
  have hD : va_D A [(h0, .inr (2, [.int (-1), .int 0, .ref q1, .ref q4, .int 0, .ref q7, .int 0, .ref q10, .int 0, .ref q12, .null, .int 0, .int 0])), (q12, .inl (cA13, 20, .inr (.inr (.inr (.inr (va_up (va_up (va_up (va_up (va_up (fun _ => none) 0 (some q14)) 1 (some q17)) 2 (some q20)) 3 (some q23)) 4 (some q26))))))), (q29, .inr (0, [.ref q30, .int 0, .int 0])), (q30, .inl (cA31, 20, .inl (fun _ => 0)))] := hD
  have hK : va_K (dC, dI) classes [(cA13, .object R_Row), (cA31, .byte)] s := hK
  refine W.widen (k := 20) (n := 311) (by omega) (by omega) ?_
  refine va_astq hx hb hK hP hD hS 1 0 2 0 rfl rfl rfl rfl (vp_in_nI (by decide) (by decide)) d_Book_init_86 (fun H locs hP hD hS => ?_)
  rw [nI_clamp (by decide)] at hP hD
  have hP : va_P (dC, dI) classes [(h0, .inr (2, [.int (-1), .int 0, .ref q1, .ref q4, .int 0, .ref q7, .int 0, .ref q10, .int 0, .ref q12, .null, .int 0, .int 0])), (q12, .inl (cA13, 20, .inr (.inr (.inr (.inr (va_up (va_up (va_up (va_up (va_up (va_up (fun _ => none) 0 (some q14)) 1 (some q17)) 2 (some q20)) 3 (some q23)) 4 (some q26)) 5 (some q29))))))), (q29, .inr (0, [.ref q30, .int 0, .int 0])), (q30, .inl (cA31, 20, .inl (fun _ => 0)))] H := hP
  have hD : va_D A [(h0, .inr (2, [.int (-1), .int 0, .ref q1, .ref q4, .int 0, .ref q7, .int 0, .ref q10, .int 0, .ref q12, .null, .int 0, .int 0])), (q12, .inl (cA13, 20, .inr (.inr (.inr (.inr (va_up (va_up (va_up (va_up (va_up (va_up (fun _ => none) 0 (some q14)) 1 (some q17)) 2 (some q20)) 3 (some q23)) 4 (some q26)) 5 (some q29))))))), (q29, .inr (0, [.ref q30, .int 0, .int 0])), (q30, .inl (cA31, 20, .inl (fun _ => 0)))] := hD
  have hP := hP.sub (ws' := [(h0, .inr (2, [.int (-1), .int 0, .ref q1, .ref q4, .int 0, .ref q7, .int 0, .ref q10, .int 0, .ref q12, .null, .int 0, .int 0])), (q12, .inl (cA13, 20, .inr (.inr (.inr (.inr (va_up (va_up (va_up (va_up (va_up (va_up (fun _ => none) 0 (some q14)) 1 (some q17)) 2 (some q20)) 3 (some q23)) 4 (some q26)) 5 (some q29)))))))]) [0, 1] rfl
  have hD := hD.sub (ws' := [(h0, .inr (2, [.int (-1), .int 0, .ref q1, .ref q4, .int 0, .ref q7, .int 0, .ref q10, .int 0, .ref q12, .null, .int 0, .int 0])), (q12, .inl (cA13, 20, .inr (.inr (.inr (.inr (va_up (va_up (va_up (va_up (va_up (va_up (fun _ => none) 0 (some q14)) 1 (some q17)) 2 (some q20)) 3 (some q23)) 4 (some q26)) 5 (some q29)))))))]) [0, 1] (by decide +kernel) rfl
  have hK := hK.sub (tys' := [(cA13, .object R_Row)]) [0] rfl
  refine lv_iinc (v := (nI 6)) (lv' := [(1, .int (nI 6)), (0, .ref h0)]) hx hb d_Book_init_87 hl (k := 0) rfl (by decide) (by decide) rfl (fun ls hl => ?_)
  refine lv_goto (tgt := 66) hx hb d_Book_init_90 (by decide) ?_
  refine lv_iload_n hx hb d_Book_init_66 rfl (lv_at hl 0 rfl) ?_
  refine lv_bipush (v := (nI 20)) hx hb d_Book_init_67 (by decide) ?_
  refine lv_icmp_ge (tgt := 93) hx hb d_Book_init_69 (by decide) (fun c_69 => absurd c_69 (by decide)) (fun _ => ?_)
  refine lv_aload_n hx hb d_Book_init_72 rfl (lv_at hl 1 rfl) ?_
  refine va_get (D := (dC, dI)) (ci := 2) (v := .ref q12) (C := R_Book) (T := F_Book) (N := 13) hx hb ht i_Book hown hK hP 0 rfl rfl 9 (by decide) (ht _ k_92) (fun _ h9 => h9) rfl d_Book_init_73 ?_
  refine lv_iload_n hx hb d_Book_init_76 rfl (lv_at hl 0 rfl) ?_
  refine va_new (ci := 0) (fs := [.null, .int 0, .int 0]) (C := R_Row) (T := F_Row) (N := 3) hx hb ht i_Row t_Row t_Row_ok hown (ht _ k_84) (ht _ k_24) (ht _ k_2) hK hP hD hS hA rfl (fun j hj => by rcases (show j = 0 ∨ j = 1 ∨ j = 2 by omega) with rfl | rfl | rfl <;> rfl) (Nat.le_of_ble_eq_true rfl) (Nat.le_of_ble_eq_true rfl) d_Book_init_77 (fun q32 H hP hD hS => ?_)
  refine W.widen (k := 21) (n := 314) (by omega) (by omega) ?_
  have hP : va_P (dC, dI) classes [(h0, .inr (2, [.int (-1), .int 0, .ref q1, .ref q4, .int 0, .ref q7, .int 0, .ref q10, .int 0, .ref q12, .null, .int 0, .int 0])), (q12, .inl (cA13, 20, .inr (.inr (.inr (.inr (va_up (va_up (va_up (va_up (va_up (va_up (fun _ => none) 0 (some q14)) 1 (some q17)) 2 (some q20)) 3 (some q23)) 4 (some q26)) 5 (some q29))))))), (q32, .inr (0, [.null, .int 0, .int 0]))] H := hP
  have hD : va_D A [(h0, .inr (2, [.int (-1), .int 0, .ref q1, .ref q4, .int 0, .ref q7, .int 0, .ref q10, .int 0, .ref q12, .null, .int 0, .int 0])), (q12, .inl (cA13, 20, .inr (.inr (.inr (.inr (va_up (va_up (va_up (va_up (va_up (va_up (fun _ => none) 0 (some q14)) 1 (some q17)) 2 (some q20)) 3 (some q23)) 4 (some q26)) 5 (some q29))))))), (q32, .inr (0, [.null, .int 0, .int 0]))] := hD
  refine lv_dup hx hb d_Book_init_80 rfl ?_
  refine lv_bipush (v := (nI 20)) hx hb d_Book_init_81 (by decide) ?_
  have hPc := hP.sub (ws' := [(q32, .inr (0, [.null, .int 0, .int 0]))]) [2] rfl
  have hDc := hD.sub (ws' := [(q32, .inr (0, [.null, .int 0, .int 0]))]) [2] (by decide +kernel) rfl
  have hKc := hK.sub (tys' := []) [] rfl
  have hFc := va_free (wc := [(q32, .inr (0, [.null, .int 0, .int 0]))]) hD hS hA [2] rfl
  refine va_callv (va_runI (As := [.int (nI 20)]) (rest := [.ref q32, .int (nI 6), .ref q12]) ⟨hx, hb, hml, hown, ht⟩ (c_Row_init l dC dI q32 H.size 20 (by decide) (by decide)) (cwI 1 ht (xw_good k_27) rfl rfl rfl (ht _ k_2) (ht _ k_85) (ht _ k_26) rfl (by decide +kernel) ⟨(Nat.le_of_ble_eq_true rfl), (Nat.le_of_ble_eq_true rfl)⟩) ⟨fun a U g mk q => by obtain ⟨q0, q1, qP, qK, qD⟩ := q; exact ⟨q0, q1, qP, va_K.moved (u := U) (U := U.calling g mk a) (Vm.Alike.refl U.vm) qK, qD⟩, fun U hU hW => ⟨rfl, by rw [hU], by rw [hU]; exact hPc, va_K.moved hW.alike hKc, hDc.weaken (fun _ _ _ _ => trivial)⟩⟩ rfl rfl hl.1 rfl (lv_room (Nat.le_of_ble_eq_true rfl)) d_Book_init_83 ⟨(Nat.le_of_ble_eq_true rfl), (Nat.le_of_ble_eq_true rfl)⟩) hS (fun q _ h => hFc q h) hFc (fun u t H1 locs ht9 hvm hw hB hz1 hk1 hS => ?_)
  obtain ⟨q33, cA34, hP1, hK1, hD1⟩ := hB
  rw [ht9] at hP1
  have hK1 := va_K.moved hvm.symm hK1
  obtain ⟨hP, hD⟩ := va_join (wr := [(h0, .inr (2, [.int (-1), .int 0, .ref q1, .ref q4, .int 0, .ref q7, .int 0, .ref q10, .int 0, .ref q12, .null, .int 0, .int 0])), (q12, .inl (cA13, 20, .inr (.inr (.inr (.inr (va_up (va_up (va_up (va_up (va_up (va_up (fun _ => none) 0 (some q14)) 1 (some q17)) 2 (some q20)) 3 (some q23)) 4 (some q26)) 5 (some q29)))))))]) (w1 := [(q32, .inr (0, [.ref q33, .int 0, .int 0])), (q33, .inl (cA34, 20, .inl (fun _ => 0)))]) hP hD [2] [0, 1] rfl rfl (by decide +kernel) (by decide +kernel) hk1 hFc hP1 hD1
  have hK := (hK.sub (tys' := [(cA13, .object R_Row)]) [0] rfl).app hK1
  generalize H1 = H at hP hS ⊢
  have hP : va_P (dC, dI) classes [(h0, .inr (2, [.int (-1), .int 0, .ref q1, .ref q4, .int 0, .ref q7, .int 0, .ref q10, .int 0, .ref q12, .null, .int 0, .int 0])), (q12, .inl (cA13, 20, .inr (.inr (.inr (.inr (va_up (va_up (va_up (va_up (va_up (va_up (fun _ => none) 0 (some q14)) 1 (some q17)) 2 (some q20)) 3 (some q23)) 4 (some q26)) 5 (some q29))))))), (q32, .inr (0, [.ref q33, .int 0, .int 0])), (q33, .inl (cA34, 20, .inl (fun _ => 0)))] H := hP
  have hD : va_D A [(h0, .inr (2, [.int (-1), .int 0, .ref q1, .ref q4, .int 0, .ref q7, .int 0, .ref q10, .int 0, .ref q12, .null, .int 0, .int 0])), (q12, .inl (cA13, 20, .inr (.inr (.inr (.inr (va_up (va_up (va_up (va_up (va_up (va_up (fun _ => none) 0 (some q14)) 1 (some q17)) 2 (some q20)) 3 (some q23)) 4 (some q26)) 5 (some q29))))))), (q32, .inr (0, [.ref q33, .int 0, .int 0])), (q33, .inl (cA34, 20, .inl (fun _ => 0)))] := hD
  have hK : va_K (dC, dI) classes [(cA13, .object R_Row), (cA34, .byte)] s := hK
  refine W.widen (k := 22) (n := 334) (by omega) (by omega) ?_
  refine va_astq hx hb hK hP hD hS 1 0 2 0 rfl rfl rfl rfl (vp_in_nI (by decide) (by decide)) d_Book_init_86 (fun H locs hP hD hS => ?_)
  rw [nI_clamp (by decide)] at hP hD
  have hP : va_P (dC, dI) classes [(h0, .inr (2, [.int (-1), .int 0, .ref q1, .ref q4, .int 0, .ref q7, .int 0, .ref q10, .int 0, .ref q12, .null, .int 0, .int 0])), (q12, .inl (cA13, 20, .inr (.inr (.inr (.inr (va_up (va_up (va_up (va_up (va_up (va_up (va_up (fun _ => none) 0 (some q14)) 1 (some q17)) 2 (some q20)) 3 (some q23)) 4 (some q26)) 5 (some q29)) 6 (some q32))))))), (q32, .inr (0, [.ref q33, .int 0, .int 0])), (q33, .inl (cA34, 20, .inl (fun _ => 0)))] H := hP
  have hD : va_D A [(h0, .inr (2, [.int (-1), .int 0, .ref q1, .ref q4, .int 0, .ref q7, .int 0, .ref q10, .int 0, .ref q12, .null, .int 0, .int 0])), (q12, .inl (cA13, 20, .inr (.inr (.inr (.inr (va_up (va_up (va_up (va_up (va_up (va_up (va_up (fun _ => none) 0 (some q14)) 1 (some q17)) 2 (some q20)) 3 (some q23)) 4 (some q26)) 5 (some q29)) 6 (some q32))))))), (q32, .inr (0, [.ref q33, .int 0, .int 0])), (q33, .inl (cA34, 20, .inl (fun _ => 0)))] := hD
  have hP := hP.sub (ws' := [(h0, .inr (2, [.int (-1), .int 0, .ref q1, .ref q4, .int 0, .ref q7, .int 0, .ref q10, .int 0, .ref q12, .null, .int 0, .int 0])), (q12, .inl (cA13, 20, .inr (.inr (.inr (.inr (va_up (va_up (va_up (va_up (va_up (va_up (va_up (fun _ => none) 0 (some q14)) 1 (some q17)) 2 (some q20)) 3 (some q23)) 4 (some q26)) 5 (some q29)) 6 (some q32)))))))]) [0, 1] rfl
  have hD := hD.sub (ws' := [(h0, .inr (2, [.int (-1), .int 0, .ref q1, .ref q4, .int 0, .ref q7, .int 0, .ref q10, .int 0, .ref q12, .null, .int 0, .int 0])), (q12, .inl (cA13, 20, .inr (.inr (.inr (.inr (va_up (va_up (va_up (va_up (va_up (va_up (va_up (fun _ => none) 0 (some q14)) 1 (some q17)) 2 (some q20)) 3 (some q23)) 4 (some q26)) 5 (some q29)) 6 (some q32)))))))]) [0, 1] (by decide +kernel) rfl
  have hK := hK.sub (tys' := [(cA13, .object R_Row)]) [0] rfl
  refine lv_iinc (v := (nI 7)) (lv' := [(1, .int (nI 7)), (0, .ref h0)]) hx hb d_Book_init_87 hl (k := 0) rfl (by decide) (by decide) rfl (fun ls hl => ?_)
  refine lv_goto (tgt := 66) hx hb d_Book_init_90 (by decide) ?_
  refine lv_iload_n hx hb d_Book_init_66 rfl (lv_at hl 0 rfl) ?_
  refine lv_bipush (v := (nI 20)) hx hb d_Book_init_67 (by decide) ?_
  refine lv_icmp_ge (tgt := 93) hx hb d_Book_init_69 (by decide) (fun c_69 => absurd c_69 (by decide)) (fun _ => ?_)
  refine lv_aload_n hx hb d_Book_init_72 rfl (lv_at hl 1 rfl) ?_
  refine va_get (D := (dC, dI)) (ci := 2) (v := .ref q12) (C := R_Book) (T := F_Book) (N := 13) hx hb ht i_Book hown hK hP 0 rfl rfl 9 (by decide) (ht _ k_92) (fun _ h9 => h9) rfl d_Book_init_73 ?_
  refine lv_iload_n hx hb d_Book_init_76 rfl (lv_at hl 0 rfl) ?_
  refine va_new (ci := 0) (fs := [.null, .int 0, .int 0]) (C := R_Row) (T := F_Row) (N := 3) hx hb ht i_Row t_Row t_Row_ok hown (ht _ k_84) (ht _ k_24) (ht _ k_2) hK hP hD hS hA rfl (fun j hj => by rcases (show j = 0 ∨ j = 1 ∨ j = 2 by omega) with rfl | rfl | rfl <;> rfl) (Nat.le_of_ble_eq_true rfl) (Nat.le_of_ble_eq_true rfl) d_Book_init_77 (fun q35 H hP hD hS => ?_)
  refine W.widen (k := 23) (n := 337) (by omega) (by omega) ?_
  have hP : va_P (dC, dI) classes [(h0, .inr (2, [.int (-1), .int 0, .ref q1, .ref q4, .int 0, .ref q7, .int 0, .ref q10, .int 0, .ref q12, .null, .int 0, .int 0])), (q12, .inl (cA13, 20, .inr (.inr (.inr (.inr (va_up (va_up (va_up (va_up (va_up (va_up (va_up (fun _ => none) 0 (some q14)) 1 (some q17)) 2 (some q20)) 3 (some q23)) 4 (some q26)) 5 (some q29)) 6 (some q32))))))), (q35, .inr (0, [.null, .int 0, .int 0]))] H := hP
  have hD : va_D A [(h0, .inr (2, [.int (-1), .int 0, .ref q1, .ref q4, .int 0, .ref q7, .int 0, .ref q10, .int 0, .ref q12, .null, .int 0, .int 0])), (q12, .inl (cA13, 20, .inr (.inr (.inr (.inr (va_up (va_up (va_up (va_up (va_up (va_up (va_up (fun _ => none) 0 (some q14)) 1 (some q17)) 2 (some q20)) 3 (some q23)) 4 (some q26)) 5 (some q29)) 6 (some q32))))))), (q35, .inr (0, [.null, .int 0, .int 0]))] := hD
  refine lv_dup hx hb d_Book_init_80 rfl ?_
  refine lv_bipush (v := (nI 20)) hx hb d_Book_init_81 (by decide) ?_
  have hPc := hP.sub (ws' := [(q35, .inr (0, [.null, .int 0, .int 0]))]) [2] rfl
  have hDc := hD.sub (ws' := [(q35, .inr (0, [.null, .int 0, .int 0]))]) [2] (by decide +kernel) rfl
  have hKc := hK.sub (tys' := []) [] rfl
  have hFc := va_free (wc := [(q35, .inr (0, [.null, .int 0, .int 0]))]) hD hS hA [2] rfl
  refine va_callv (va_runI (As := [.int (nI 20)]) (rest := [.ref q35, .int (nI 7), .ref q12]) ⟨hx, hb, hml, hown, ht⟩ (c_Row_init l dC dI q35 H.size 20 (by decide) (by decide)) (cwI 1 ht (xw_good k_27) rfl rfl rfl (ht _ k_2) (ht _ k_85) (ht _ k_26) rfl (by decide +kernel) ⟨(Nat.le_of_ble_eq_true rfl), (Nat.le_of_ble_eq_true rfl)⟩) ⟨fun a U g mk q => by obtain ⟨q0, q1, qP, qK, qD⟩ := q; exact ⟨q0, q1, qP, va_K.moved (u := U) (U := U.calling g mk a) (Vm.Alike.refl U.vm) qK, qD⟩, fun U hU hW => ⟨rfl, by rw [hU], by rw [hU]; exact hPc, va_K.moved hW.alike hKc, hDc.weaken (fun _ _ _ _ => trivial)⟩⟩ rfl rfl hl.1 rfl (lv_room (Nat.le_of_ble_eq_true rfl)) d_Book_init_83 ⟨(Nat.le_of_ble_eq_true rfl), (Nat.le_of_ble_eq_true rfl)⟩) hS (fun q _ h => hFc q h) hFc (fun u t H1 locs ht9 hvm hw hB hz1 hk1 hS => ?_)
  obtain ⟨q36, cA37, hP1, hK1, hD1⟩ := hB
  rw [ht9] at hP1
  have hK1 := va_K.moved hvm.symm hK1
  obtain ⟨hP, hD⟩ := va_join (wr := [(h0, .inr (2, [.int (-1), .int 0, .ref q1, .ref q4, .int 0, .ref q7, .int 0, .ref q10, .int 0, .ref q12, .null, .int 0, .int 0])), (q12, .inl (cA13, 20, .inr (.inr (.inr (.inr (va_up (va_up (va_up (va_up (va_up (va_up (va_up (fun _ => none) 0 (some q14)) 1 (some q17)) 2 (some q20)) 3 (some q23)) 4 (some q26)) 5 (some q29)) 6 (some q32)))))))]) (w1 := [(q35, .inr (0, [.ref q36, .int 0, .int 0])), (q36, .inl (cA37, 20, .inl (fun _ => 0)))]) hP hD [2] [0, 1] rfl rfl (by decide +kernel) (by decide +kernel) hk1 hFc hP1 hD1
  have hK := (hK.sub (tys' := [(cA13, .object R_Row)]) [0] rfl).app hK1
  generalize H1 = H at hP hS ⊢
  have hP : va_P (dC, dI) classes [(h0, .inr (2, [.int (-1), .int 0, .ref q1, .ref q4, .int 0, .ref q7, .int 0, .ref q10, .int 0, .ref q12, .null, .int 0, .int 0])), (q12, .inl (cA13, 20, .inr (.inr (.inr (.inr (va_up (va_up (va_up (va_up (va_up (va_up (va_up (fun _ => none) 0 (some q14)) 1 (some q17)) 2 (some q20)) 3 (some q23)) 4 (some q26)) 5 (some q29)) 6 (some q32))))))), (q35, .inr (0, [.ref q36, .int 0, .int 0])), (q36, .inl (cA37, 20, .inl (fun _ => 0)))] H := hP
  have hD : va_D A [(h0, .inr (2, [.int (-1), .int 0, .ref q1, .ref q4, .int 0, .ref q7, .int 0, .ref q10, .int 0, .ref q12, .null, .int 0, .int 0])), (q12, .inl (cA13, 20, .inr (.inr (.inr (.inr (va_up (va_up (va_up (va_up (va_up (va_up (va_up (fun _ => none) 0 (some q14)) 1 (some q17)) 2 (some q20)) 3 (some q23)) 4 (some q26)) 5 (some q29)) 6 (some q32))))))), (q35, .inr (0, [.ref q36, .int 0, .int 0])), (q36, .inl (cA37, 20, .inl (fun _ => 0)))] := hD
  have hK : va_K (dC, dI) classes [(cA13, .object R_Row), (cA37, .byte)] s := hK
  refine W.widen (k := 24) (n := 357) (by omega) (by omega) ?_
  refine va_astq hx hb hK hP hD hS 1 0 2 0 rfl rfl rfl rfl (vp_in_nI (by decide) (by decide)) d_Book_init_86 (fun H locs hP hD hS => ?_)
  rw [nI_clamp (by decide)] at hP hD
  have hP : va_P (dC, dI) classes [(h0, .inr (2, [.int (-1), .int 0, .ref q1, .ref q4, .int 0, .ref q7, .int 0, .ref q10, .int 0, .ref q12, .null, .int 0, .int 0])), (q12, .inl (cA13, 20, .inr (.inr (.inr (.inr (va_up (va_up (va_up (va_up (va_up (va_up (va_up (va_up (fun _ => none) 0 (some q14)) 1 (some q17)) 2 (some q20)) 3 (some q23)) 4 (some q26)) 5 (some q29)) 6 (some q32)) 7 (some q35))))))), (q35, .inr (0, [.ref q36, .int 0, .int 0])), (q36, .inl (cA37, 20, .inl (fun _ => 0)))] H := hP
  have hD : va_D A [(h0, .inr (2, [.int (-1), .int 0, .ref q1, .ref q4, .int 0, .ref q7, .int 0, .ref q10, .int 0, .ref q12, .null, .int 0, .int 0])), (q12, .inl (cA13, 20, .inr (.inr (.inr (.inr (va_up (va_up (va_up (va_up (va_up (va_up (va_up (va_up (fun _ => none) 0 (some q14)) 1 (some q17)) 2 (some q20)) 3 (some q23)) 4 (some q26)) 5 (some q29)) 6 (some q32)) 7 (some q35))))))), (q35, .inr (0, [.ref q36, .int 0, .int 0])), (q36, .inl (cA37, 20, .inl (fun _ => 0)))] := hD
  have hP := hP.sub (ws' := [(h0, .inr (2, [.int (-1), .int 0, .ref q1, .ref q4, .int 0, .ref q7, .int 0, .ref q10, .int 0, .ref q12, .null, .int 0, .int 0])), (q12, .inl (cA13, 20, .inr (.inr (.inr (.inr (va_up (va_up (va_up (va_up (va_up (va_up (va_up (va_up (fun _ => none) 0 (some q14)) 1 (some q17)) 2 (some q20)) 3 (some q23)) 4 (some q26)) 5 (some q29)) 6 (some q32)) 7 (some q35)))))))]) [0, 1] rfl
  have hD := hD.sub (ws' := [(h0, .inr (2, [.int (-1), .int 0, .ref q1, .ref q4, .int 0, .ref q7, .int 0, .ref q10, .int 0, .ref q12, .null, .int 0, .int 0])), (q12, .inl (cA13, 20, .inr (.inr (.inr (.inr (va_up (va_up (va_up (va_up (va_up (va_up (va_up (va_up (fun _ => none) 0 (some q14)) 1 (some q17)) 2 (some q20)) 3 (some q23)) 4 (some q26)) 5 (some q29)) 6 (some q32)) 7 (some q35)))))))]) [0, 1] (by decide +kernel) rfl
  have hK := hK.sub (tys' := [(cA13, .object R_Row)]) [0] rfl
  refine lv_iinc (v := (nI 8)) (lv' := [(1, .int (nI 8)), (0, .ref h0)]) hx hb d_Book_init_87 hl (k := 0) rfl (by decide) (by decide) rfl (fun ls hl => ?_)
  refine lv_goto (tgt := 66) hx hb d_Book_init_90 (by decide) ?_
  refine lv_iload_n hx hb d_Book_init_66 rfl (lv_at hl 0 rfl) ?_
  refine lv_bipush (v := (nI 20)) hx hb d_Book_init_67 (by decide) ?_
  refine lv_icmp_ge (tgt := 93) hx hb d_Book_init_69 (by decide) (fun c_69 => absurd c_69 (by decide)) (fun _ => ?_)
  refine lv_aload_n hx hb d_Book_init_72 rfl (lv_at hl 1 rfl) ?_
  refine va_get (D := (dC, dI)) (ci := 2) (v := .ref q12) (C := R_Book) (T := F_Book) (N := 13) hx hb ht i_Book hown hK hP 0 rfl rfl 9 (by decide) (ht _ k_92) (fun _ h9 => h9) rfl d_Book_init_73 ?_
  refine lv_iload_n hx hb d_Book_init_76 rfl (lv_at hl 0 rfl) ?_
  refine va_new (ci := 0) (fs := [.null, .int 0, .int 0]) (C := R_Row) (T := F_Row) (N := 3) hx hb ht i_Row t_Row t_Row_ok hown (ht _ k_84) (ht _ k_24) (ht _ k_2) hK hP hD hS hA rfl (fun j hj => by rcases (show j = 0 ∨ j = 1 ∨ j = 2 by omega) with rfl | rfl | rfl <;> rfl) (Nat.le_of_ble_eq_true rfl) (Nat.le_of_ble_eq_true rfl) d_Book_init_77 (fun q38 H hP hD hS => ?_)
  refine W.widen (k := 25) (n := 360) (by omega) (by omega) ?_
  have hP : va_P (dC, dI) classes [(h0, .inr (2, [.int (-1), .int 0, .ref q1, .ref q4, .int 0, .ref q7, .int 0, .ref q10, .int 0, .ref q12, .null, .int 0, .int 0])), (q12, .inl (cA13, 20, .inr (.inr (.inr (.inr (va_up (va_up (va_up (va_up (va_up (va_up (va_up (va_up (fun _ => none) 0 (some q14)) 1 (some q17)) 2 (some q20)) 3 (some q23)) 4 (some q26)) 5 (some q29)) 6 (some q32)) 7 (some q35))))))), (q38, .inr (0, [.null, .int 0, .int 0]))] H := hP
  have hD : va_D A [(h0, .inr (2, [.int (-1), .int 0, .ref q1, .ref q4, .int 0, .ref q7, .int 0, .ref q10, .int 0, .ref q12, .null, .int 0, .int 0])), (q12, .inl (cA13, 20, .inr (.inr (.inr (.inr (va_up (va_up (va_up (va_up (va_up (va_up (va_up (va_up (fun _ => none) 0 (some q14)) 1 (some q17)) 2 (some q20)) 3 (some q23)) 4 (some q26)) 5 (some q29)) 6 (some q32)) 7 (some q35))))))), (q38, .inr (0, [.null, .int 0, .int 0]))] := hD
  refine lv_dup hx hb d_Book_init_80 rfl ?_
  refine lv_bipush (v := (nI 20)) hx hb d_Book_init_81 (by decide) ?_
  have hPc := hP.sub (ws' := [(q38, .inr (0, [.null, .int 0, .int 0]))]) [2] rfl
  have hDc := hD.sub (ws' := [(q38, .inr (0, [.null, .int 0, .int 0]))]) [2] (by decide +kernel) rfl
  have hKc := hK.sub (tys' := []) [] rfl
  have hFc := va_free (wc := [(q38, .inr (0, [.null, .int 0, .int 0]))]) hD hS hA [2] rfl
  refine va_callv (va_runI (As := [.int (nI 20)]) (rest := [.ref q38, .int (nI 8), .ref q12]) ⟨hx, hb, hml, hown, ht⟩ (c_Row_init l dC dI q38 H.size 20 (by decide) (by decide)) (cwI 1 ht (xw_good k_27) rfl rfl rfl (ht _ k_2) (ht _ k_85) (ht _ k_26) rfl (by decide +kernel) ⟨(Nat.le_of_ble_eq_true rfl), (Nat.le_of_ble_eq_true rfl)⟩) ⟨fun a U g mk q => by obtain ⟨q0, q1, qP, qK, qD⟩ := q; exact ⟨q0, q1, qP, va_K.moved (u := U) (U := U.calling g mk a) (Vm.Alike.refl U.vm) qK, qD⟩, fun U hU hW => ⟨rfl, by rw [hU], by rw [hU]; exact hPc, va_K.moved hW.alike hKc, hDc.weaken (fun _ _ _ _ => trivial)⟩⟩ rfl rfl hl.1 rfl (lv_room (Nat.le_of_ble_eq_true rfl)) d_Book_init_83 ⟨(Nat.le_of_ble_eq_true rfl), (Nat.le_of_ble_eq_true rfl)⟩) hS (fun q _ h => hFc q h) hFc (fun u t H1 locs ht9 hvm hw hB hz1 hk1 hS => ?_)
  obtain ⟨q39, cA40, hP1, hK1, hD1⟩ := hB
  rw [ht9] at hP1
  have hK1 := va_K.moved hvm.symm hK1
  obtain ⟨hP, hD⟩ := va_join (wr := [(h0, .inr (2, [.int (-1), .int 0, .ref q1, .ref q4, .int 0, .ref q7, .int 0, .ref q10, .int 0, .ref q12, .null, .int 0, .int 0])), (q12, .inl (cA13, 20, .inr (.inr (.inr (.inr (va_up (va_up (va_up (va_up (va_up (va_up (va_up (va_up (fun _ => none) 0 (some q14)) 1 (some q17)) 2 (some q20)) 3 (some q23)) 4 (some q26)) 5 (some q29)) 6 (some q32)) 7 (some q35)))))))]) (w1 := [(q38, .inr (0, [.ref q39, .int 0, .int 0])), (q39, .inl (cA40, 20, .inl (fun _ => 0)))]) hP hD [2] [0, 1] rfl rfl (by decide +kernel) (by decide +kernel) hk1 hFc hP1 hD1
  have hK := (hK.sub (tys' := [(cA13, .object R_Row)]) [0] rfl).app hK1
  generalize H1 = H at hP hS ⊢
  have hP : va_P (dC, dI) classes [(h0, .inr (2, [.int (-1), .int 0, .ref q1, .ref q4, .int 0, .ref q7, .int 0, .ref q10, .int 0, .ref q12, .null, .int 0, .int 0])), (q12, .inl (cA13, 20, .inr (.inr (.inr (.inr (va_up (va_up (va_up (va_up (va_up (va_up (va_up (va_up (fun _ => none) 0 (some q14)) 1 (some q17)) 2 (some q20)) 3 (some q23)) 4 (some q26)) 5 (some q29)) 6 (some q32)) 7 (some q35))))))), (q38, .inr (0, [.ref q39, .int 0, .int 0])), (q39, .inl (cA40, 20, .inl (fun _ => 0)))] H := hP
  have hD : va_D A [(h0, .inr (2, [.int (-1), .int 0, .ref q1, .ref q4, .int 0, .ref q7, .int 0, .ref q10, .int 0, .ref q12, .null, .int 0, .int 0])), (q12, .inl (cA13, 20, .inr (.inr (.inr (.inr (va_up (va_up (va_up (va_up (va_up (va_up (va_up (va_up (fun _ => none) 0 (some q14)) 1 (some q17)) 2 (some q20)) 3 (some q23)) 4 (some q26)) 5 (some q29)) 6 (some q32)) 7 (some q35))))))), (q38, .inr (0, [.ref q39, .int 0, .int 0])), (q39, .inl (cA40, 20, .inl (fun _ => 0)))] := hD
  have hK : va_K (dC, dI) classes [(cA13, .object R_Row), (cA40, .byte)] s := hK
  refine W.widen (k := 26) (n := 380) (by omega) (by omega) ?_
  refine va_astq hx hb hK hP hD hS 1 0 2 0 rfl rfl rfl rfl (vp_in_nI (by decide) (by decide)) d_Book_init_86 (fun H locs hP hD hS => ?_)
  rw [nI_clamp (by decide)] at hP hD
  have hP : va_P (dC, dI) classes [(h0, .inr (2, [.int (-1), .int 0, .ref q1, .ref q4, .int 0, .ref q7, .int 0, .ref q10, .int 0, .ref q12, .null, .int 0, .int 0])), (q12, .inl (cA13, 20, .inr (.inr (.inr (.inr (va_up (va_up (va_up (va_up (va_up (va_up (va_up (va_up (va_up (fun _ => none) 0 (some q14)) 1 (some q17)) 2 (some q20)) 3 (some q23)) 4 (some q26)) 5 (some q29)) 6 (some q32)) 7 (some q35)) 8 (some q38))))))), (q38, .inr (0, [.ref q39, .int 0, .int 0])), (q39, .inl (cA40, 20, .inl (fun _ => 0)))] H := hP
  have hD : va_D A [(h0, .inr (2, [.int (-1), .int 0, .ref q1, .ref q4, .int 0, .ref q7, .int 0, .ref q10, .int 0, .ref q12, .null, .int 0, .int 0])), (q12, .inl (cA13, 20, .inr (.inr (.inr (.inr (va_up (va_up (va_up (va_up (va_up (va_up (va_up (va_up (va_up (fun _ => none) 0 (some q14)) 1 (some q17)) 2 (some q20)) 3 (some q23)) 4 (some q26)) 5 (some q29)) 6 (some q32)) 7 (some q35)) 8 (some q38))))))), (q38, .inr (0, [.ref q39, .int 0, .int 0])), (q39, .inl (cA40, 20, .inl (fun _ => 0)))] := hD
  have hP := hP.sub (ws' := [(h0, .inr (2, [.int (-1), .int 0, .ref q1, .ref q4, .int 0, .ref q7, .int 0, .ref q10, .int 0, .ref q12, .null, .int 0, .int 0])), (q12, .inl (cA13, 20, .inr (.inr (.inr (.inr (va_up (va_up (va_up (va_up (va_up (va_up (va_up (va_up (va_up (fun _ => none) 0 (some q14)) 1 (some q17)) 2 (some q20)) 3 (some q23)) 4 (some q26)) 5 (some q29)) 6 (some q32)) 7 (some q35)) 8 (some q38)))))))]) [0, 1] rfl
  have hD := hD.sub (ws' := [(h0, .inr (2, [.int (-1), .int 0, .ref q1, .ref q4, .int 0, .ref q7, .int 0, .ref q10, .int 0, .ref q12, .null, .int 0, .int 0])), (q12, .inl (cA13, 20, .inr (.inr (.inr (.inr (va_up (va_up (va_up (va_up (va_up (va_up (va_up (va_up (va_up (fun _ => none) 0 (some q14)) 1 (some q17)) 2 (some q20)) 3 (some q23)) 4 (some q26)) 5 (some q29)) 6 (some q32)) 7 (some q35)) 8 (some q38)))))))]) [0, 1] (by decide +kernel) rfl
  have hK := hK.sub (tys' := [(cA13, .object R_Row)]) [0] rfl
  refine lv_iinc (v := (nI 9)) (lv' := [(1, .int (nI 9)), (0, .ref h0)]) hx hb d_Book_init_87 hl (k := 0) rfl (by decide) (by decide) rfl (fun ls hl => ?_)
  refine lv_goto (tgt := 66) hx hb d_Book_init_90 (by decide) ?_
  refine lv_iload_n hx hb d_Book_init_66 rfl (lv_at hl 0 rfl) ?_
  refine lv_bipush (v := (nI 20)) hx hb d_Book_init_67 (by decide) ?_
  refine lv_icmp_ge (tgt := 93) hx hb d_Book_init_69 (by decide) (fun c_69 => absurd c_69 (by decide)) (fun _ => ?_)
  refine lv_aload_n hx hb d_Book_init_72 rfl (lv_at hl 1 rfl) ?_
  refine va_get (D := (dC, dI)) (ci := 2) (v := .ref q12) (C := R_Book) (T := F_Book) (N := 13) hx hb ht i_Book hown hK hP 0 rfl rfl 9 (by decide) (ht _ k_92) (fun _ h9 => h9) rfl d_Book_init_73 ?_
  refine lv_iload_n hx hb d_Book_init_76 rfl (lv_at hl 0 rfl) ?_
  refine va_new (ci := 0) (fs := [.null, .int 0, .int 0]) (C := R_Row) (T := F_Row) (N := 3) hx hb ht i_Row t_Row t_Row_ok hown (ht _ k_84) (ht _ k_24) (ht _ k_2) hK hP hD hS hA rfl (fun j hj => by rcases (show j = 0 ∨ j = 1 ∨ j = 2 by omega) with rfl | rfl | rfl <;> rfl) (Nat.le_of_ble_eq_true rfl) (Nat.le_of_ble_eq_true rfl) d_Book_init_77 (fun q41 H hP hD hS => ?_)
  refine W.widen (k := 27) (n := 383) (by omega) (by omega) ?_
  have hP : va_P (dC, dI) classes [(h0, .inr (2, [.int (-1), .int 0, .ref q1, .ref q4, .int 0, .ref q7, .int 0, .ref q10, .int 0, .ref q12, .null, .int 0, .int 0])), (q12, .inl (cA13, 20, .inr (.inr (.inr (.inr (va_up (va_up (va_up (va_up (va_up (va_up (va_up (va_up (va_up (fun _ => none) 0 (some q14)) 1 (some q17)) 2 (some q20)) 3 (some q23)) 4 (some q26)) 5 (some q29)) 6 (some q32)) 7 (some q35)) 8 (some q38))))))), (q41, .inr (0, [.null, .int 0, .int 0]))] H := hP
  have hD : va_D A [(h0, .inr (2, [.int (-1), .int 0, .ref q1, .ref q4, .int 0, .ref q7, .int 0, .ref q10, .int 0, .ref q12, .null, .int 0, .int 0])), (q12, .inl (cA13, 20, .inr (.inr (.inr (.inr (va_up (va_up (va_up (va_up (va_up (va_up (va_up (va_up (va_up (fun _ => none) 0 (some q14)) 1 (some q17)) 2 (some q20)) 3 (some q23)) 4 (some q26)) 5 (some q29)) 6 (some q32)) 7 (some q35)) 8 (some q38))))))), (q41, .inr (0, [.null, .int 0, .int 0]))] := hD
  refine lv_dup hx hb d_Book_init_80 rfl ?_
  refine lv_bipush (v := (nI 20)) hx hb d_Book_init_81 (by decide) ?_
  have hPc := hP.sub (ws' := [(q41, .inr (0, [.null, .int 0, .int 0]))]) [2] rfl
  have hDc := hD.sub (ws' := [(q41, .inr (0, [.null, .int 0, .int 0]))]) [2] (by decide +kernel) rfl
  have hKc := hK.sub (tys' := []) [] rfl
  have hFc := va_free (wc := [(q41, .inr (0, [.null, .int 0, .int 0]))]) hD hS hA [2] rfl
  refine va_callv (va_runI (As := [.int (nI 20)]) (rest := [.ref q41, .int (nI 9), .ref q12]) ⟨hx, hb, hml, hown, ht⟩ (c_Row_init l dC dI q41 H.size 20 (by decide) (by decide)) (cwI 1 ht (xw_good k_27) rfl rfl rfl (ht _ k_2) (ht _ k_85) (ht _ k_26) rfl (by decide +kernel) ⟨(Nat.le_of_ble_eq_true rfl), (Nat.le_of_ble_eq_true rfl)⟩) ⟨fun a U g mk q => by obtain ⟨q0, q1, qP, qK, qD⟩ := q; exact ⟨q0, q1, qP, va_K.moved (u := U) (U := U.calling g mk a) (Vm.Alike.refl U.vm) qK, qD⟩, fun U hU hW => ⟨rfl, by rw [hU], by rw [hU]; exact hPc, va_K.moved hW.alike hKc, hDc.weaken (fun _ _ _ _ => trivial)⟩⟩ rfl rfl hl.1 rfl (lv_room (Nat.le_of_ble_eq_true rfl)) d_Book_init_83 ⟨(Nat.le_of_ble_eq_true rfl), (Nat.le_of_ble_eq_true rfl)⟩) hS (fun q _ h => hFc q h) hFc (fun u t H1 locs ht9 hvm hw hB hz1 hk1 hS => ?_)
  obtain ⟨q42, cA43, hP1, hK1, hD1⟩ := hB
  rw [ht9] at hP1
  have hK1 := va_K.moved hvm.symm hK1
  obtain ⟨hP, hD⟩ := va_join (wr := [(h0, .inr (2, [.int (-1), .int 0, .ref q1, .ref q4, .int 0, .ref q7, .int 0, .ref q10, .int 0, .ref q12, .null, .int 0, .int 0])), (q12, .inl (cA13, 20, .inr (.inr (.inr (.inr (va_up (va_up (va_up (va_up (va_up (va_up (va_up (va_up (va_up (fun _ => none) 0 (some q14)) 1 (some q17)) 2 (some q20)) 3 (some q23)) 4 (some q26)) 5 (some q29)) 6 (some q32)) 7 (some q35)) 8 (some q38)))))))]) (w1 := [(q41, .inr (0, [.ref q42, .int 0, .int 0])), (q42, .inl (cA43, 20, .inl (fun _ => 0)))]) hP hD [2] [0, 1] rfl rfl (by decide +kernel) (by decide +kernel) hk1 hFc hP1 hD1
  have hK := (hK.sub (tys' := [(cA13, .object R_Row)]) [0] rfl).app hK1
  generalize H1 = H at hP hS ⊢
  have hP : va_P (dC, dI) classes [(h0, .inr (2, [.int (-1), .int 0, .ref q1, .ref q4, .int 0, .ref q7, .int 0, .ref q10, .int 0, .ref q12, .null, .int 0, .int 0])), (q12, .inl (cA13, 20, .inr (.inr (.inr (.inr (va_up (va_up (va_up (va_up (va_up (va_up (va_up (va_up (va_up (fun _ => none) 0 (some q14)) 1 (some q17)) 2 (some q20)) 3 (some q23)) 4 (some q26)) 5 (some q29)) 6 (some q32)) 7 (some q35)) 8 (some q38))))))), (q41, .inr (0, [.ref q42, .int 0, .int 0])), (q42, .inl (cA43, 20, .inl (fun _ => 0)))] H := hP
  have hD : va_D A [(h0, .inr (2, [.int (-1), .int 0, .ref q1, .ref q4, .int 0, .ref q7, .int 0, .ref q10, .int 0, .ref q12, .null, .int 0, .int 0])), (q12, .inl (cA13, 20, .inr (.inr (.inr (.inr (va_up (va_up (va_up (va_up (va_up (va_up (va_up (va_up (va_up (fun _ => none) 0 (some q14)) 1 (some q17)) 2 (some q20)) 3 (some q23)) 4 (some q26)) 5 (some q29)) 6 (some q32)) 7 (some q35)) 8 (some q38))))))), (q41, .inr (0, [.ref q42, .int 0, .int 0])), (q42, .inl (cA43, 20, .inl (fun _ => 0)))] := hD
  have hK : va_K (dC, dI) classes [(cA13, .object R_Row), (cA43, .byte)] s := hK
  refine W.widen (k := 28) (n := 403) (by omega) (by omega) ?_
  refine va_astq hx hb hK hP hD hS 1 0 2 0 rfl rfl rfl rfl (vp_in_nI (by decide) (by decide)) d_Book_init_86 (fun H locs hP hD hS => ?_)
  rw [nI_clamp (by decide)] at hP hD
  have hP : va_P (dC, dI) classes [(h0, .inr (2, [.int (-1), .int 0, .ref q1, .ref q4, .int 0, .ref q7, .int 0, .ref q10, .int 0, .ref q12, .null, .int 0, .int 0])), (q12, .inl (cA13, 20, .inr (.inr (.inr (.inr (va_up (va_up (va_up (va_up (va_up (va_up (va_up (va_up (va_up (va_up (fun _ => none) 0 (some q14)) 1 (some q17)) 2 (some q20)) 3 (some q23)) 4 (some q26)) 5 (some q29)) 6 (some q32)) 7 (some q35)) 8 (some q38)) 9 (some q41))))))), (q41, .inr (0, [.ref q42, .int 0, .int 0])), (q42, .inl (cA43, 20, .inl (fun _ => 0)))] H := hP
  have hD : va_D A [(h0, .inr (2, [.int (-1), .int 0, .ref q1, .ref q4, .int 0, .ref q7, .int 0, .ref q10, .int 0, .ref q12, .null, .int 0, .int 0])), (q12, .inl (cA13, 20, .inr (.inr (.inr (.inr (va_up (va_up (va_up (va_up (va_up (va_up (va_up (va_up (va_up (va_up (fun _ => none) 0 (some q14)) 1 (some q17)) 2 (some q20)) 3 (some q23)) 4 (some q26)) 5 (some q29)) 6 (some q32)) 7 (some q35)) 8 (some q38)) 9 (some q41))))))), (q41, .inr (0, [.ref q42, .int 0, .int 0])), (q42, .inl (cA43, 20, .inl (fun _ => 0)))] := hD
  have hP := hP.sub (ws' := [(h0, .inr (2, [.int (-1), .int 0, .ref q1, .ref q4, .int 0, .ref q7, .int 0, .ref q10, .int 0, .ref q12, .null, .int 0, .int 0])), (q12, .inl (cA13, 20, .inr (.inr (.inr (.inr (va_up (va_up (va_up (va_up (va_up (va_up (va_up (va_up (va_up (va_up (fun _ => none) 0 (some q14)) 1 (some q17)) 2 (some q20)) 3 (some q23)) 4 (some q26)) 5 (some q29)) 6 (some q32)) 7 (some q35)) 8 (some q38)) 9 (some q41)))))))]) [0, 1] rfl
  have hD := hD.sub (ws' := [(h0, .inr (2, [.int (-1), .int 0, .ref q1, .ref q4, .int 0, .ref q7, .int 0, .ref q10, .int 0, .ref q12, .null, .int 0, .int 0])), (q12, .inl (cA13, 20, .inr (.inr (.inr (.inr (va_up (va_up (va_up (va_up (va_up (va_up (va_up (va_up (va_up (va_up (fun _ => none) 0 (some q14)) 1 (some q17)) 2 (some q20)) 3 (some q23)) 4 (some q26)) 5 (some q29)) 6 (some q32)) 7 (some q35)) 8 (some q38)) 9 (some q41)))))))]) [0, 1] (by decide +kernel) rfl
  have hK := hK.sub (tys' := [(cA13, .object R_Row)]) [0] rfl
  refine lv_iinc (v := (nI 10)) (lv' := [(1, .int (nI 10)), (0, .ref h0)]) hx hb d_Book_init_87 hl (k := 0) rfl (by decide) (by decide) rfl (fun ls hl => ?_)
  refine lv_goto (tgt := 66) hx hb d_Book_init_90 (by decide) ?_
  refine lv_iload_n hx hb d_Book_init_66 rfl (lv_at hl 0 rfl) ?_
  refine lv_bipush (v := (nI 20)) hx hb d_Book_init_67 (by decide) ?_
  refine lv_icmp_ge (tgt := 93) hx hb d_Book_init_69 (by decide) (fun c_69 => absurd c_69 (by decide)) (fun _ => ?_)
  refine lv_aload_n hx hb d_Book_init_72 rfl (lv_at hl 1 rfl) ?_
  refine va_get (D := (dC, dI)) (ci := 2) (v := .ref q12) (C := R_Book) (T := F_Book) (N := 13) hx hb ht i_Book hown hK hP 0 rfl rfl 9 (by decide) (ht _ k_92) (fun _ h9 => h9) rfl d_Book_init_73 ?_
  refine lv_iload_n hx hb d_Book_init_76 rfl (lv_at hl 0 rfl) ?_
  refine va_new (ci := 0) (fs := [.null, .int 0, .int 0]) (C := R_Row) (T := F_Row) (N := 3) hx hb ht i_Row t_Row t_Row_ok hown (ht _ k_84) (ht _ k_24) (ht _ k_2) hK hP hD hS hA rfl (fun j hj => by rcases (show j = 0 ∨ j = 1 ∨ j = 2 by omega) with rfl | rfl | rfl <;> rfl) (Nat.le_of_ble_eq_true rfl) (Nat.le_of_ble_eq_true rfl) d_Book_init_77 (fun q44 H hP hD hS => ?_)
  refine W.widen (k := 29) (n := 406) (by omega) (by omega) ?_
  have hP : va_P (dC, dI) classes [(h0, .inr (2, [.int (-1), .int 0, .ref q1, .ref q4, .int 0, .ref q7, .int 0, .ref q10, .int 0, .ref q12, .null, .int 0, .int 0])), (q12, .inl (cA13, 20, .inr (.inr (.inr (.inr (va_up (va_up (va_up (va_up (va_up (va_up (va_up (va_up (va_up (va_up (fun _ => none) 0 (some q14)) 1 (some q17)) 2 (some q20)) 3 (some q23)) 4 (some q26)) 5 (some q29)) 6 (some q32)) 7 (some q35)) 8 (some q38)) 9 (some q41))))))), (q44, .inr (0, [.null, .int 0, .int 0]))] H := hP
  have hD : va_D A [(h0, .inr (2, [.int (-1), .int 0, .ref q1, .ref q4, .int 0, .ref q7, .int 0, .ref q10, .int 0, .ref q12, .null, .int 0, .int 0])), (q12, .inl (cA13, 20, .inr (.inr (.inr (.inr (va_up (va_up (va_up (va_up (va_up (va_up (va_up (va_up (va_up (va_up (fun _ => none) 0 (some q14)) 1 (some q17)) 2 (some q20)) 3 (some q23)) 4 (some q26)) 5 (some q29)) 6 (some q32)) 7 (some q35)) 8 (some q38)) 9 (some q41))))))), (q44, .inr (0, [.null, .int 0, .int 0]))] := hD
  refine lv_dup hx hb d_Book_init_80 rfl ?_
  refine lv_bipush (v := (nI 20)) hx hb d_Book_init_81 (by decide) ?_
  have hPc := hP.sub (ws' := [(q44, .inr (0, [.null, .int 0, .int 0]))]) [2] rfl
  have hDc := hD.sub (ws' := [(q44, .inr (0, [.null, .int 0, .int 0]))]) [2] (by decide +kernel) rfl
  have hKc := hK.sub (tys' := []) [] rfl
  have hFc := va_free (wc := [(q44, .inr (0, [.null, .int 0, .int 0]))]) hD hS hA [2] rfl
  refine va_callv (va_runI (As := [.int (nI 20)]) (rest := [.ref q44, .int (nI 10), .ref q12]) ⟨hx, hb, hml, hown, ht⟩ (c_Row_init l dC dI q44 H.size 20 (by decide) (by decide)) (cwI 1 ht (xw_good k_27) rfl rfl rfl (ht _ k_2) (ht _ k_85) (ht _ k_26) rfl (by decide +kernel) ⟨(Nat.le_of_ble_eq_true rfl), (Nat.le_of_ble_eq_true rfl)⟩) ⟨fun a U g mk q => by obtain ⟨q0, q1, qP, qK, qD⟩ := q; exact ⟨q0, q1, qP, va_K.moved (u := U) (U := U.calling g mk a) (Vm.Alike.refl U.vm) qK, qD⟩, fun U hU hW => ⟨rfl, by rw [hU], by rw [hU]; exact hPc, va_K.moved hW.alike hKc, hDc.weaken (fun _ _ _ _ => trivial)⟩⟩ rfl rfl hl.1 rfl (lv_room (Nat.le_of_ble_eq_true rfl)) d_Book_init_83 ⟨(Nat.le_of_ble_eq_true rfl), (Nat.le_of_ble_eq_true rfl)⟩) hS (fun q _ h => hFc q h) hFc (fun u t H1 locs ht9 hvm hw hB hz1 hk1 hS => ?_)
  obtain ⟨q45, cA46, hP1, hK1, hD1⟩ := hB
  rw [ht9] at hP1
  have hK1 := va_K.moved hvm.symm hK1
  obtain ⟨hP, hD⟩ := va_join (wr := [(h0, .inr (2, [.int (-1), .int 0, .ref q1, .ref q4, .int 0, .ref q7, .int 0, .ref q10, .int 0, .ref q12, .null, .int 0, .int 0])), (q12, .inl (cA13, 20, .inr (.inr (.inr (.inr (va_up (va_up (va_up (va_up (va_up (va_up (va_up (va_up (va_up (va_up (fun _ => none) 0 (some q14)) 1 (some q17)) 2 (some q20)) 3 (some q23)) 4 (some q26)) 5 (some q29)) 6 (some q32)) 7 (some q35)) 8 (some q38)) 9 (some q41)))))))]) (w1 := [(q44, .inr (0, [.ref q45, .int 0, .int 0])), (q45, .inl (cA46, 20, .inl (fun _ => 0)))]) hP hD [2] [0, 1] rfl rfl (by decide +kernel) (by decide +kernel) hk1 hFc hP1 hD1
  have hK := (hK.sub (tys' := [(cA13, .object R_Row)]) [0] rfl).app hK1
  generalize H1 = H at hP hS ⊢
  have hP : va_P (dC, dI) classes [(h0, .inr (2, [.int (-1), .int 0, .ref q1, .ref q4, .int 0, .ref q7, .int 0, .ref q10, .int 0, .ref q12, .null, .int 0, .int 0])), (q12, .inl (cA13, 20, .inr (.inr (.inr (.inr (va_up (va_up (va_up (va_up (va_up (va_up (va_up (va_up (va_up (va_up (fun _ => none) 0 (some q14)) 1 (some q17)) 2 (some q20)) 3 (some q23)) 4 (some q26)) 5 (some q29)) 6 (some q32)) 7 (some q35)) 8 (some q38)) 9 (some q41))))))), (q44, .inr (0, [.ref q45, .int 0, .int 0])), (q45, .inl (cA46, 20, .inl (fun _ => 0)))] H := hP
  have hD : va_D A [(h0, .inr (2, [.int (-1), .int 0, .ref q1, .ref q4, .int 0, .ref q7, .int 0, .ref q10, .int 0, .ref q12, .null, .int 0, .int 0])), (q12, .inl (cA13, 20, .inr (.inr (.inr (.inr (va_up (va_up (va_up (va_up (va_up (va_up (va_up (va_up (va_up (va_up (fun _ => none) 0 (some q14)) 1 (some q17)) 2 (some q20)) 3 (some q23)) 4 (some q26)) 5 (some q29)) 6 (some q32)) 7 (some q35)) 8 (some q38)) 9 (some q41))))))), (q44, .inr (0, [.ref q45, .int 0, .int 0])), (q45, .inl (cA46, 20, .inl (fun _ => 0)))] := hD
  have hK : va_K (dC, dI) classes [(cA13, .object R_Row), (cA46, .byte)] s := hK
  refine W.widen (k := 30) (n := 426) (by omega) (by omega) ?_
  refine va_astq hx hb hK hP hD hS 1 0 2 0 rfl rfl rfl rfl (vp_in_nI (by decide) (by decide)) d_Book_init_86 (fun H locs hP hD hS => ?_)
  rw [nI_clamp (by decide)] at hP hD
  have hP : va_P (dC, dI) classes [(h0, .inr (2, [.int (-1), .int 0, .ref q1, .ref q4, .int 0, .ref q7, .int 0, .ref q10, .int 0, .ref q12, .null, .int 0, .int 0])), (q12, .inl (cA13, 20, .inr (.inr (.inr (.inr (va_up (va_up (va_up (va_up (va_up (va_up (va_up (va_up (va_up (va_up (va_up (fun _ => none) 0 (some q14)) 1 (some q17)) 2 (some q20)) 3 (some q23)) 4 (some q26)) 5 (some q29)) 6 (some q32)) 7 (some q35)) 8 (some q38)) 9 (some q41)) 10 (some q44))))))), (q44, .inr (0, [.ref q45, .int 0, .int 0])), (q45, .inl (cA46, 20, .inl (fun _ => 0)))] H := hP
  have hD : va_D A [(h0, .inr (2, [.int (-1), .int 0, .ref q1, .ref q4, .int 0, .ref q7, .int 0, .ref q10, .int 0, .ref q12, .null, .int 0, .int 0])), (q12, .inl (cA13, 20, .inr (.inr (.inr (.inr (va_up (va_up (va_up (va_up (va_up (va_up (va_up (va_up (va_up (va_up (va_up (fun _ => none) 0 (some q14)) 1 (some q17)) 2 (some q20)) 3 (some q23)) 4 (some q26)) 5 (some q29)) 6 (some q32)) 7 (some q35)) 8 (some q38)) 9 (some q41)) 10 (some q44))))))), (q44, .inr (0, [.ref q45, .int 0, .int 0])), (q45, .inl (cA46, 20, .inl (fun _ => 0)))] := hD
  have hP := hP.sub (ws' := [(h0, .inr (2, [.int (-1), .int 0, .ref q1, .ref q4, .int 0, .ref q7, .int 0, .ref q10, .int 0, .ref q12, .null, .int 0, .int 0])), (q12, .inl (cA13, 20, .inr (.inr (.inr (.inr (va_up (va_up (va_up (va_up (va_up (va_up (va_up (va_up (va_up (va_up (va_up (fun _ => none) 0 (some q14)) 1 (some q17)) 2 (some q20)) 3 (some q23)) 4 (some q26)) 5 (some q29)) 6 (some q32)) 7 (some q35)) 8 (some q38)) 9 (some q41)) 10 (some q44)))))))]) [0, 1] rfl
  have hD := hD.sub (ws' := [(h0, .inr (2, [.int (-1), .int 0, .ref q1, .ref q4, .int 0, .ref q7, .int 0, .ref q10, .int 0, .ref q12, .null, .int 0, .int 0])), (q12, .inl (cA13, 20, .inr (.inr (.inr (.inr (va_up (va_up (va_up (va_up (va_up (va_up (va_up (va_up (va_up (va_up (va_up (fun _ => none) 0 (some q14)) 1 (some q17)) 2 (some q20)) 3 (some q23)) 4 (some q26)) 5 (some q29)) 6 (some q32)) 7 (some q35)) 8 (some q38)) 9 (some q41)) 10 (some q44)))))))]) [0, 1] (by decide +kernel) rfl
  have hK := hK.sub (tys' := [(cA13, .object R_Row)]) [0] rfl
  refine lv_iinc (v := (nI 11)) (lv' := [(1, .int (nI 11)), (0, .ref h0)]) hx hb d_Book_init_87 hl (k := 0) rfl (by decide) (by decide) rfl (fun ls hl => ?_)
  refine lv_goto (tgt := 66) hx hb d_Book_init_90 (by decide) ?_
  refine lv_iload_n hx hb d_Book_init_66 rfl (lv_at hl 0 rfl) ?_
  refine lv_bipush (v := (nI 20)) hx hb d_Book_init_67 (by decide) ?_
  refine lv_icmp_ge (tgt := 93) hx hb d_Book_init_69 (by decide) (fun c_69 => absurd c_69 (by decide)) (fun _ => ?_)
  refine lv_aload_n hx hb d_Book_init_72 rfl (lv_at hl 1 rfl) ?_
  refine va_get (D := (dC, dI)) (ci := 2) (v := .ref q12) (C := R_Book) (T := F_Book) (N := 13) hx hb ht i_Book hown hK hP 0 rfl rfl 9 (by decide) (ht _ k_92) (fun _ h9 => h9) rfl d_Book_init_73 ?_
  refine lv_iload_n hx hb d_Book_init_76 rfl (lv_at hl 0 rfl) ?_
  refine va_new (ci := 0) (fs := [.null, .int 0, .int 0]) (C := R_Row) (T := F_Row) (N := 3) hx hb ht i_Row t_Row t_Row_ok hown (ht _ k_84) (ht _ k_24) (ht _ k_2) hK hP hD hS hA rfl (fun j hj => by rcases (show j = 0 ∨ j = 1 ∨ j = 2 by omega) with rfl | rfl | rfl <;> rfl) (Nat.le_of_ble_eq_true rfl) (Nat.le_of_ble_eq_true rfl) d_Book_init_77 (fun q47 H hP hD hS => ?_)
  refine W.widen (k := 31) (n := 429) (by omega) (by omega) ?_
  have hP : va_P (dC, dI) classes [(h0, .inr (2, [.int (-1), .int 0, .ref q1, .ref q4, .int 0, .ref q7, .int 0, .ref q10, .int 0, .ref q12, .null, .int 0, .int 0])), (q12, .inl (cA13, 20, .inr (.inr (.inr (.inr (va_up (va_up (va_up (va_up (va_up (va_up (va_up (va_up (va_up (va_up (va_up (fun _ => none) 0 (some q14)) 1 (some q17)) 2 (some q20)) 3 (some q23)) 4 (some q26)) 5 (some q29)) 6 (some q32)) 7 (some q35)) 8 (some q38)) 9 (some q41)) 10 (some q44))))))), (q47, .inr (0, [.null, .int 0, .int 0]))] H := hP
  have hD : va_D A [(h0, .inr (2, [.int (-1), .int 0, .ref q1, .ref q4, .int 0, .ref q7, .int 0, .ref q10, .int 0, .ref q12, .null, .int 0, .int 0])), (q12, .inl (cA13, 20, .inr (.inr (.inr (.inr (va_up (va_up (va_up (va_up (va_up (va_up (va_up (va_up (va_up (va_up (va_up (fun _ => none) 0 (some q14)) 1 (some q17)) 2 (some q20)) 3 (some q23)) 4 (some q26)) 5 (some q29)) 6 (some q32)) 7 (some q35)) 8 (some q38)) 9 (some q41)) 10 (some q44))))))), (q47, .inr (0, [.null, .int 0, .int 0]))] := hD
  refine lv_dup hx hb d_Book_init_80 rfl ?_
  refine lv_bipush (v := (nI 20)) hx hb d_Book_init_81 (by decide) ?_
  have hPc := hP.sub (ws' := [(q47, .inr (0, [.null, .int 0, .int 0]))]) [2] rfl
  have hDc := hD.sub (ws' := [(q47, .inr (0, [.null, .int 0, .int 0]))]) [2] (by decide +kernel) rfl
  have hKc := hK.sub (tys' := []) [] rfl
  have hFc := va_free (wc := [(q47, .inr (0, [.null, .int 0, .int 0]))]) hD hS hA [2] rfl
  refine va_callv (va_runI (As := [.int (nI 20)]) (rest := [.ref q47, .int (nI 11), .ref q12]) ⟨hx, hb, hml, hown, ht⟩ (c_Row_init l dC dI q47 H.size 20 (by decide) (by decide)) (cwI 1 ht (xw_good k_27) rfl rfl rfl (ht _ k_2) (ht _ k_85) (ht _ k_26) rfl (by decide +kernel) ⟨(Nat.le_of_ble_eq_true rfl), (Nat.le_of_ble_eq_true rfl)⟩) ⟨fun a U g mk q => by obtain ⟨q0, q1, qP, qK, qD⟩ := q; exact ⟨q0, q1, qP, va_K.moved (u := U) (U := U.calling g mk a) (Vm.Alike.refl U.vm) qK, qD⟩, fun U hU hW => ⟨rfl, by rw [hU], by rw [hU]; exact hPc, va_K.moved hW.alike hKc, hDc.weaken (fun _ _ _ _ => trivial)⟩⟩ rfl rfl hl.1 rfl (lv_room (Nat.le_of_ble_eq_true rfl)) d_Book_init_83 ⟨(Nat.le_of_ble_eq_true rfl), (Nat.le_of_ble_eq_true rfl)⟩) hS (fun q _ h => hFc q h) hFc (fun u t H1 locs ht9 hvm hw hB hz1 hk1 hS => ?_)
  obtain ⟨q48, cA49, hP1, hK1, hD1⟩ := hB
  rw [ht9] at hP1
  have hK1 := va_K.moved hvm.symm hK1
  obtain ⟨hP, hD⟩ := va_join (wr := [(h0, .inr (2, [.int (-1), .int 0, .ref q1, .ref q4, .int 0, .ref q7, .int 0, .ref q10, .int 0, .ref q12, .null, .int 0, .int 0])), (q12, .inl (cA13, 20, .inr (.inr (.inr (.inr (va_up (va_up (va_up (va_up (va_up (va_up (va_up (va_up (va_up (va_up (va_up (fun _ => none) 0 (some q14)) 1 (some q17)) 2 (some q20)) 3 (some q23)) 4 (some q26)) 5 (some q29)) 6 (some q32)) 7 (some q35)) 8 (some q38)) 9 (some q41)) 10 (some q44)))))))]) (w1 := [(q47, .inr (0, [.ref q48, .int 0, .int 0])), (q48, .inl (cA49, 20, .inl (fun _ => 0)))]) hP hD [2] [0, 1] rfl rfl (by decide +kernel) (by decide +kernel) hk1 hFc hP1 hD1
  have hK := (hK.sub (tys' := [(cA13, .object R_Row)]) [0] rfl).app hK1
  generalize H1 = H at hP hS ⊢
  have hP : va_P (dC, dI) classes [(h0, .inr (2, [.int (-1), .int 0, .ref q1, .ref q4, .int 0, .ref q7, .int 0, .ref q10, .int 0, .ref q12, .null, .int 0, .int 0])), (q12, .inl (cA13, 20, .inr (.inr (.inr (.inr (va_up (va_up (va_up (va_up (va_up (va_up (va_up (va_up (va_up (va_up (va_up (fun _ => none) 0 (some q14)) 1 (some q17)) 2 (some q20)) 3 (some q23)) 4 (some q26)) 5 (some q29)) 6 (some q32)) 7 (some q35)) 8 (some q38)) 9 (some q41)) 10 (some q44))))))), (q47, .inr (0, [.ref q48, .int 0, .int 0])), (q48, .inl (cA49, 20, .inl (fun _ => 0)))] H := hP
  have hD : va_D A [(h0, .inr (2, [.int (-1), .int 0, .ref q1, .ref q4, .int 0, .ref q7, .int 0, .ref q10, .int 0, .ref q12, .null, .int 0, .int 0])), (q12, .inl (cA13, 20, .inr (.inr (.inr (.inr (va_up (va_up (va_up (va_up (va_up (va_up (va_up (va_up (va_up (va_up (va_up (fun _ => none) 0 (some q14)) 1 (some q17)) 2 (some q20)) 3 (some q23)) 4 (some q26)) 5 (some q29)) 6 (some q32)) 7 (some q35)) 8 (some q38)) 9 (some q41)) 10 (some q44))))))), (q47, .inr (0, [.ref q48, .int 0, .int 0])), (q48, .inl (cA49, 20, .inl (fun _ => 0)))] := hD
  have hK : va_K (dC, dI) classes [(cA13, .object R_Row), (cA49, .byte)] s := hK
  refine W.widen (k := 32) (n := 449) (by omega) (by omega) ?_
  refine va_astq hx hb hK hP hD hS 1 0 2 0 rfl rfl rfl rfl (vp_in_nI (by decide) (by decide)) d_Book_init_86 (fun H locs hP hD hS => ?_)
  rw [nI_clamp (by decide)] at hP hD
  have hP : va_P (dC, dI) classes [(h0, .inr (2, [.int (-1), .int 0, .ref q1, .ref q4, .int 0, .ref q7, .int 0, .ref q10, .int 0, .ref q12, .null, .int 0, .int 0])), (q12, .inl (cA13, 20, .inr (.inr (.inr (.inr (va_up (va_up (va_up (va_up (va_up (va_up (va_up (va_up (va_up (va_up (va_up (va_up (fun _ => none) 0 (some q14)) 1 (some q17)) 2 (some q20)) 3 (some q23)) 4 (some q26)) 5 (some q29)) 6 (some q32)) 7 (some q35)) 8 (some q38)) 9 (some q41)) 10 (some q44)) 11 (some q47))))))), (q47, .inr (0, [.ref q48, .int 0, .int 0])), (q48, .inl (cA49, 20, .inl (fun _ => 0)))] H := hP
  have hD : va_D A [(h0, .inr (2, [.int (-1), .int 0, .ref q1, .ref q4, .int 0, .ref q7, .int 0, .ref q10, .int 0, .ref q12, .null, .int 0, .int 0])), (q12, .inl (cA13, 20, .inr (.inr (.inr (.inr (va_up (va_up (va_up (va_up (va_up (va_up (va_up (va_up (va_up (va_up (va_up (va_up (fun _ => none) 0 (some q14)) 1 (some q17)) 2 (some q20)) 3 (some q23)) 4 (some q26)) 5 (some q29)) 6 (some q32)) 7 (some q35)) 8 (some q38)) 9 (some q41)) 10 (some q44)) 11 (some q47))))))), (q47, .inr (0, [.ref q48, .int 0, .int 0])), (q48, .inl (cA49, 20, .inl (fun _ => 0)))] := hD
  have hP := hP.sub (ws' := [(h0, .inr (2, [.int (-1), .int 0, .ref q1, .ref q4, .int 0, .ref q7, .int 0, .ref q10, .int 0, .ref q12, .null, .int 0, .int 0])), (q12, .inl (cA13, 20, .inr (.inr (.inr (.inr (va_up (va_up (va_up (va_up (va_up (va_up (va_up (va_up (va_up (va_up (va_up (va_up (fun _ => none) 0 (some q14)) 1 (some q17)) 2 (some q20)) 3 (some q23)) 4 (some q26)) 5 (some q29)) 6 (some q32)) 7 (some q35)) 8 (some q38)) 9 (some q41)) 10 (some q44)) 11 (some q47)))))))]) [0, 1] rfl
  have hD := hD.sub (ws' := [(h0, .inr (2, [.int (-1), .int 0, .ref q1, .ref q4, .int 0, .ref q7, .int 0, .ref q10, .int 0, .ref q12, .null, .int 0, .int 0])), (q12, .inl (cA13, 20, .inr (.inr (.inr (.inr (va_up (va_up (va_up (va_up (va_up (va_up (va_up (va_up (va_up (va_up (va_up (va_up (fun _ => none) 0 (some q14)) 1 (some q17)) 2 (some q20)) 3 (some q23)) 4 (some q26)) 5 (some q29)) 6 (some q32)) 7 (some q35)) 8 (some q38)) 9 (some q41)) 10 (some q44)) 11 (some q47)))))))]) [0, 1] (by decide +kernel) rfl
  have hK := hK.sub (tys' := [(cA13, .object R_Row)]) [0] rfl
  refine lv_iinc (v := (nI 12)) (lv' := [(1, .int (nI 12)), (0, .ref h0)]) hx hb d_Book_init_87 hl (k := 0) rfl (by decide) (by decide) rfl (fun ls hl => ?_)
  refine lv_goto (tgt := 66) hx hb d_Book_init_90 (by decide) ?_
  refine lv_iload_n hx hb d_Book_init_66 rfl (lv_at hl 0 rfl) ?_
  refine lv_bipush (v := (nI 20)) hx hb d_Book_init_67 (by decide) ?_
  refine lv_icmp_ge (tgt := 93) hx hb d_Book_init_69 (by decide) (fun c_69 => absurd c_69 (by decide)) (fun _ => ?_)
  refine lv_aload_n hx hb d_Book_init_72 rfl (lv_at hl 1 rfl) ?_
  refine va_get (D := (dC, dI)) (ci := 2) (v := .ref q12) (C := R_Book) (T := F_Book) (N := 13) hx hb ht i_Book hown hK hP 0 rfl rfl 9 (by decide) (ht _ k_92) (fun _ h9 => h9) rfl d_Book_init_73 ?_
  refine lv_iload_n hx hb d_Book_init_76 rfl (lv_at hl 0 rfl) ?_
  refine va_new (ci := 0) (fs := [.null, .int 0, .int 0]) (C := R_Row) (T := F_Row) (N := 3) hx hb ht i_Row t_Row t_Row_ok hown (ht _ k_84) (ht _ k_24) (ht _ k_2) hK hP hD hS hA rfl (fun j hj => by rcases (show j = 0 ∨ j = 1 ∨ j = 2 by omega) with rfl | rfl | rfl <;> rfl) (Nat.le_of_ble_eq_true rfl) (Nat.le_of_ble_eq_true rfl) d_Book_init_77 (fun q50 H hP hD hS => ?_)
  refine W.widen (k := 33) (n := 452) (by omega) (by omega) ?_
  have hP : va_P (dC, dI) classes [(h0, .inr (2, [.int (-1), .int 0, .ref q1, .ref q4, .int 0, .ref q7, .int 0, .ref q10, .int 0, .ref q12, .null, .int 0, .int 0])), (q12, .inl (cA13, 20, .inr (.inr (.inr (.inr (va_up (va_up (va_up (va_up (va_up (va_up (va_up (va_up (va_up (va_up (va_up (va_up (fun _ => none) 0 (some q14)) 1 (some q17)) 2 (some q20)) 3 (some q23)) 4 (some q26)) 5 (some q29)) 6 (some q32)) 7 (some q35)) 8 (some q38)) 9 (some q41)) 10 (some q44)) 11 (some q47))))))), (q50, .inr (0, [.null, .int 0, .int 0]))] H := hP
  have hD : va_D A [(h0, .inr (2, [.int (-1), .int 0, .ref q1, .ref q4, .int 0, .ref q7, .int 0, .ref q10, .int 0, .ref q12, .null, .int 0, .int 0])), (q12, .inl (cA13, 20, .inr (.inr (.inr (.inr (va_up (va_up (va_up (va_up (va_up (va_up (va_up (va_up (va_up (va_up (va_up (va_up (fun _ => none) 0 (some q14)) 1 (some q17)) 2 (some q20)) 3 (some q23)) 4 (some q26)) 5 (some q29)) 6 (some q32)) 7 (some q35)) 8 (some q38)) 9 (some q41)) 10 (some q44)) 11 (some q47))))))), (q50, .inr (0, [.null, .int 0, .int 0]))] := hD
  refine lv_dup hx hb d_Book_init_80 rfl ?_
  refine lv_bipush (v := (nI 20)) hx hb d_Book_init_81 (by decide) ?_
  have hPc := hP.sub (ws' := [(q50, .inr (0, [.null, .int 0, .int 0]))]) [2] rfl
  have hDc := hD.sub (ws' := [(q50, .inr (0, [.null, .int 0, .int 0]))]) [2] (by decide +kernel) rfl
  have hKc := hK.sub (tys' := []) [] rfl
  have hFc := va_free (wc := [(q50, .inr (0, [.null, .int 0, .int 0]))]) hD hS hA [2] rfl
  refine va_callv (va_runI (As := [.int (nI 20)]) (rest := [.ref q50, .int (nI 12), .ref q12]) ⟨hx, hb, hml, hown, ht⟩ (c_Row_init l dC dI q50 H.size 20 (by decide) (by decide)) (cwI 1 ht (xw_good k_27) rfl rfl rfl (ht _ k_2) (ht _ k_85) (ht _ k_26) rfl (by decide +kernel) ⟨(Nat.le_of_ble_eq_true rfl), (Nat.le_of_ble_eq_true rfl)⟩) ⟨fun a U g mk q => by obtain ⟨q0, q1, qP, qK, qD⟩ := q; exact ⟨q0, q1, qP, va_K.moved (u := U) (U := U.calling g mk a) (Vm.Alike.refl U.vm) qK, qD⟩, fun U hU hW => ⟨rfl, by rw [hU], by rw [hU]; exact hPc, va_K.moved hW.alike hKc, hDc.weaken (fun _ _ _ _ => trivial)⟩⟩ rfl rfl hl.1 rfl (lv_room (Nat.le_of_ble_eq_true rfl)) d_Book_init_83 ⟨(Nat.le_of_ble_eq_true rfl), (Nat.le_of_ble_eq_true rfl)⟩) hS (fun q _ h => hFc q h) hFc (fun u t H1 locs ht9 hvm hw hB hz1 hk1 hS => ?_)
  obtain ⟨q51, cA52, hP1, hK1, hD1⟩ := hB
  rw [ht9] at hP1
  have hK1 := va_K.moved hvm.symm hK1
  obtain ⟨hP, hD⟩ := va_join (wr := [(h0, .inr (2, [.int (-1), .int 0, .ref q1, .ref q4, .int 0, .ref q7, .int 0, .ref q10, .int 0, .ref q12, .null, .int 0, .int 0])), (q12, .inl (cA13, 20, .inr (.inr (.inr (.inr (va_up (va_up (va_up (va_up (va_up (va_up (va_up (va_up (va_up (va_up (va_up (va_up (fun _ => none) 0 (some q14)) 1 (some q17)) 2 (some q20)) 3 (some q23)) 4 (some q26)) 5 (some q29)) 6 (some q32)) 7 (some q35)) 8 (some q38)) 9 (some q41)) 10 (some q44)) 11 (some q47)))))))]) (w1 := [(q50, .inr (0, [.ref q51, .int 0, .int 0])), (q51, .inl (cA52, 20, .inl (fun _ => 0)))]) hP hD [2] [0, 1] rfl rfl (by decide +kernel) (by decide +kernel) hk1 hFc hP1 hD1
  have hK := (hK.sub (tys' := [(cA13, .object R_Row)]) [0] rfl).app hK1
  generalize H1 = H at hP hS ⊢
  have hP : va_P (dC, dI) classes [(h0, .inr (2, [.int (-1), .int 0, .ref q1, .ref q4, .int 0, .ref q7, .int 0, .ref q10, .int 0, .ref q12, .null, .int 0, .int 0])), (q12, .inl (cA13, 20, .inr (.inr (.inr (.inr (va_up (va_up (va_up (va_up (va_up (va_up (va_up (va_up (va_up (va_up (va_up (va_up (fun _ => none) 0 (some q14)) 1 (some q17)) 2 (some q20)) 3 (some q23)) 4 (some q26)) 5 (some q29)) 6 (some q32)) 7 (some q35)) 8 (some q38)) 9 (some q41)) 10 (some q44)) 11 (some q47))))))), (q50, .inr (0, [.ref q51, .int 0, .int 0])), (q51, .inl (cA52, 20, .inl (fun _ => 0)))] H := hP
  have hD : va_D A [(h0, .inr (2, [.int (-1), .int 0, .ref q1, .ref q4, .int 0, .ref q7, .int 0, .ref q10, .int 0, .ref q12, .null, .int 0, .int 0])), (q12, .inl (cA13, 20, .inr (.inr (.inr (.inr (va_up (va_up (va_up (va_up (va_up (va_up (va_up (va_up (va_up (va_up (va_up (va_up (fun _ => none) 0 (some q14)) 1 (some q17)) 2 (some q20)) 3 (some q23)) 4 (some q26)) 5 (some q29)) 6 (some q32)) 7 (some q35)) 8 (some q38)) 9 (some q41)) 10 (some q44)) 11 (some q47))))))), (q50, .inr (0, [.ref q51, .int 0, .int 0])), (q51, .inl (cA52, 20, .inl (fun _ => 0)))] := hD
  have hK : va_K (dC, dI) classes [(cA13, .object R_Row), (cA52, .byte)] s := hK
  refine W.widen (k := 34) (n := 472) (by omega) (by omega) ?_
  refine va_astq hx hb hK hP hD hS 1 0 2 0 rfl rfl rfl rfl (vp_in_nI (by decide) (by decide)) d_Book_init_86 (fun H locs hP hD hS => ?_)
  rw [nI_clamp (by decide)] at hP hD
  have hP : va_P (dC, dI) classes [(h0, .inr (2, [.int (-1), .int 0, .ref q1, .ref q4, .int 0, .ref q7, .int 0, .ref q10, .int 0, .ref q12, .null, .int 0, .int 0])), (q12, .inl (cA13, 20, .inr (.inr (.inr (.inr (va_up (va_up (va_up (va_up (va_up (va_up (va_up (va_up (va_up (va_up (va_up (va_up (va_up (fun _ => none) 0 (some q14)) 1 (some q17)) 2 (some q20)) 3 (some q23)) 4 (some q26)) 5 (some q29)) 6 (some q32)) 7 (some q35)) 8 (some q38)) 9 (some q41)) 10 (some q44)) 11 (some q47)) 12 (some q50))))))), (q50, .inr (0, [.ref q51, .int 0, .int 0])), (q51, .inl (cA52, 20, .inl (fun _ => 0)))] H := hP
  have hD : va_D A [(h0, .inr (2, [.int (-1), .int 0, .ref q1, .ref q4, .int 0, .ref q7, .int 0, .ref q10, .int 0, .ref q12, .null, .int 0, .int 0])), (q12, .inl (cA13, 20, .inr (.inr (.inr (.inr (va_up (va_up (va_up (va_up (va_up (va_up (va_up (va_up (va_up (va_up (va_up (va_up (va_up (fun _ => none) 0 (some q14)) 1 (some q17)) 2 (some q20)) 3 (some q23)) 4 (some q26)) 5 (some q29)) 6 (some q32)) 7 (some q35)) 8 (some q38)) 9 (some q41)) 10 (some q44)) 11 (some q47)) 12 (some q50))))))), (q50, .inr (0, [.ref q51, .int 0, .int 0])), (q51, .inl (cA52, 20, .inl (fun _ => 0)))] := hD
  have hP := hP.sub (ws' := [(h0, .inr (2, [.int (-1), .int 0, .ref q1, .ref q4, .int 0, .ref q7, .int 0, .ref q10, .int 0, .ref q12, .null, .int 0, .int 0])), (q12, .inl (cA13, 20, .inr (.inr (.inr (.inr (va_up (va_up (va_up (va_up (va_up (va_up (va_up (va_up (va_up (va_up (va_up (va_up (va_up (fun _ => none) 0 (some q14)) 1 (some q17)) 2 (some q20)) 3 (some q23)) 4 (some q26)) 5 (some q29)) 6 (some q32)) 7 (some q35)) 8 (some q38)) 9 (some q41)) 10 (some q44)) 11 (some q47)) 12 (some q50)))))))]) [0, 1] rfl
  have hD := hD.sub (ws' := [(h0, .inr (2, [.int (-1), .int 0, .ref q1, .ref q4, .int 0, .ref q7, .int 0, .ref q10, .int 0, .ref q12, .null, .int 0, .int 0])), (q12, .inl (cA13, 20, .inr (.inr (.inr (.inr (va_up (va_up (va_up (va_up (va_up (va_up (va_up (va_up (va_up (va_up (va_up (va_up (va_up (fun _ => none) 0 (some q14)) 1 (some q17)) 2 (some q20)) 3 (some q23)) 4 (some q26)) 5 (some q29)) 6 (some q32)) 7 (some q35)) 8 (some q38)) 9 (some q41)) 10 (some q44)) 11 (some q47)) 12 (some q50)))))))]) [0, 1] (by decide +kernel) rfl
  have hK := hK.sub (tys' := [(cA13, .object R_Row)]) [0] rfl
  refine lv_iinc (v := (nI 13)) (lv' := [(1, .int (nI 13)), (0, .ref h0)]) hx hb d_Book_init_87 hl (k := 0) rfl (by decide) (by decide) rfl (fun ls hl => ?_)
  refine lv_goto (tgt := 66) hx hb d_Book_init_90 (by decide) ?_
  refine lv_iload_n hx hb d_Book_init_66 rfl (lv_at hl 0 rfl) ?_
  refine lv_bipush (v := (nI 20)) hx hb d_Book_init_67 (by decide) ?_
  refine lv_icmp_ge (tgt := 93) hx hb d_Book_init_69 (by decide) (fun c_69 => absurd c_69 (by decide)) (fun _ => ?_)
  refine lv_aload_n hx hb d_Book_init_72 rfl (lv_at hl 1 rfl) ?_
  refine va_get (D := (dC, dI)) (ci := 2) (v := .ref q12) (C := R_Book) (T := F_Book) (N := 13) hx hb ht i_Book hown hK hP 0 rfl rfl 9 (by decide) (ht _ k_92) (fun _ h9 => h9) rfl d_Book_init_73 ?_
  refine lv_iload_n hx hb d_Book_init_76 rfl (lv_at hl 0 rfl) ?_
  refine va_new (ci := 0) (fs := [.null, .int 0, .int 0]) (C := R_Row) (T := F_Row) (N := 3) hx hb ht i_Row t_Row t_Row_ok hown (ht _ k_84) (ht _ k_24) (ht _ k_2) hK hP hD hS hA rfl (fun j hj => by rcases (show j = 0 ∨ j = 1 ∨ j = 2 by omega) with rfl | rfl | rfl <;> rfl) (Nat.le_of_ble_eq_true rfl) (Nat.le_of_ble_eq_true rfl) d_Book_init_77 (fun q53 H hP hD hS => ?_)
  refine W.widen (k := 35) (n := 475) (by omega) (by omega) ?_
  have hP : va_P (dC, dI) classes [(h0, .inr (2, [.int (-1), .int 0, .ref q1, .ref q4, .int 0, .ref q7, .int 0, .ref q10, .int 0, .ref q12, .null, .int 0, .int 0])), (q12, .inl (cA13, 20, .inr (.inr (.inr (.inr (va_up (va_up (va_up (va_up (va_up (va_up (va_up (va_up (va_up (va_up (va_up (va_up (va_up (fun _ => none) 0 (some q14)) 1 (some q17)) 2 (some q20)) 3 (some q23)) 4 (some q26)) 5 (some q29)) 6 (some q32)) 7 (some q35)) 8 (some q38)) 9 (some q41)) 10 (some q44)) 11 (some q47)) 12 (some q50))))))), (q53, .inr (0, [.null, .int 0, .int 0]))] H := hP
  have hD : va_D A [(h0, .inr (2, [.int (-1), .int 0, .ref q1, .ref q4, .int 0, .ref q7, .int 0, .ref q10, .int 0, .ref q12, .null, .int 0, .int 0])), (q12, .inl (cA13, 20, .inr (.inr (.inr (.inr (va_up (va_up (va_up (va_up (va_up (va_up (va_up (va_up (va_up (va_up (va_up (va_up (va_up (fun _ => none) 0 (some q14)) 1 (some q17)) 2 (some q20)) 3 (some q23)) 4 (some q26)) 5 (some q29)) 6 (some q32)) 7 (some q35)) 8 (some q38)) 9 (some q41)) 10 (some q44)) 11 (some q47)) 12 (some q50))))))), (q53, .inr (0, [.null, .int 0, .int 0]))] := hD
  refine lv_dup hx hb d_Book_init_80 rfl ?_
  refine lv_bipush (v := (nI 20)) hx hb d_Book_init_81 (by decide) ?_
  have hPc := hP.sub (ws' := [(q53, .inr (0, [.null, .int 0, .int 0]))]) [2] rfl
  have hDc := hD.sub (ws' := [(q53, .inr (0, [.null, .int 0, .int 0]))]) [2] (by decide +kernel) rfl
  have hKc := hK.sub (tys' := []) [] rfl
  have hFc := va_free (wc := [(q53, .inr (0, [.null, .int 0, .int 0]))]) hD hS hA [2] rfl
  refine va_callv (va_runI (As := [.int (nI 20)]) (rest := [.ref q53, .int (nI 13), .ref q12]) ⟨hx, hb, hml, hown, ht⟩ (c_Row_init l dC dI q53 H.size 20 (by decide) (by decide)) (cwI 1 ht (xw_good k_27) rfl rfl rfl (ht _ k_2) (ht _ k_85) (ht _ k_26) rfl (by decide +kernel) ⟨(Nat.le_of_ble_eq_true rfl), (Nat.le_of_ble_eq_true rfl)⟩) ⟨fun a U g mk q => by obtain ⟨q0, q1, qP, qK, qD⟩ := q; exact ⟨q0, q1, qP, va_K.moved (u := U) (U := U.calling g mk a) (Vm.Alike.refl U.vm) qK, qD⟩, fun U hU hW => ⟨rfl, by rw [hU], by rw [hU]; exact hPc, va_K.moved hW.alike hKc, hDc.weaken (fun _ _ _ _ => trivial)⟩⟩ rfl rfl hl.1 rfl (lv_room (Nat.le_of_ble_eq_true rfl)) d_Book_init_83 ⟨(Nat.le_of_ble_eq_true rfl), (Nat.le_of_ble_eq_true rfl)⟩) hS (fun q _ h => hFc q h) hFc (fun u t H1 locs ht9 hvm hw hB hz1 hk1 hS => ?_)
  obtain ⟨q54, cA55, hP1, hK1, hD1⟩ := hB
  rw [ht9] at hP1
  have hK1 := va_K.moved hvm.symm hK1
  obtain ⟨hP, hD⟩ := va_join (wr := [(h0, .inr (2, [.int (-1), .int 0, .ref q1, .ref q4, .int 0, .ref q7, .int 0, .ref q10, .int 0, .ref q12, .null, .int 0, .int 0])), (q12, .inl (cA13, 20, .inr (.inr (.inr (.inr (va_up (va_up (va_up (va_up (va_up (va_up (va_up (va_up (va_up (va_up (va_up (va_up (va_up (fun _ => none) 0 (some q14)) 1 (some q17)) 2 (some q20)) 3 (some q23)) 4 (some q26)) 5 (some q29)) 6 (some q32)) 7 (some q35)) 8 (some q38)) 9 (some q41)) 10 (some q44)) 11 (some q47)) 12 (some q50)))))))]) (w1 := [(q53, .inr (0, [.ref q54, .int 0, .int 0])), (q54, .inl (cA55, 20, .inl (fun _ => 0)))]) hP hD [2] [0, 1] rfl rfl (by decide +kernel) (by decide +kernel) hk1 hFc hP1 hD1
  have hK := (hK.sub (tys' := [(cA13, .object R_Row)]) [0] rfl).app hK1
  generalize H1 = H at hP hS ⊢
  have hP : va_P (dC, dI) classes [(h0, .inr (2, [.int (-1), .int 0, .ref q1, .ref q4, .int 0, .ref q7, .int 0, .ref q10, .int 0, .ref q12, .null, .int 0, .int 0])), (q12, .inl (cA13, 20, .inr (.inr (.inr (.inr (va_up (va_up (va_up (va_up (va_up (va_up (va_up (va_up (va_up (va_up (va_up (va_up (va_up (fun _ => none) 0 (some q14)) 1 (some q17)) 2 (some q20)) 3 (some q23)) 4 (some q26)) 5 (some q29)) 6 (some q32)) 7 (some q35)) 8 (some q38)) 9 (some q41)) 10 (some q44)) 11 (some q47)) 12 (some q50))))))), (q53, .inr (0, [.ref q54, .int 0, .int 0])), (q54, .inl (cA55, 20, .inl (fun _ => 0)))] H := hP
  have hD : va_D A [(h0, .inr (2, [.int (-1), .int 0, .ref q1, .ref q4, .int 0, .ref q7, .int 0, .ref q10, .int 0, .ref q12, .null, .int 0, .int 0])), (q12, .inl (cA13, 20, .inr (.inr (.inr (.inr (va_up (va_up (va_up (va_up (va_up (va_up (va_up (va_up (va_up (va_up (va_up (va_up (va_up (fun _ => none) 0 (some q14)) 1 (some q17)) 2 (some q20)) 3 (some q23)) 4 (some q26)) 5 (some q29)) 6 (some q32)) 7 (some q35)) 8 (some q38)) 9 (some q41)) 10 (some q44)) 11 (some q47)) 12 (some q50))))))), (q53, .inr (0, [.ref q54, .int 0, .int 0])), (q54, .inl (cA55, 20, .inl (fun _ => 0)))] := hD
  have hK : va_K (dC, dI) classes [(cA13, .object R_Row), (cA55, .byte)] s := hK
  refine W.widen (k := 36) (n := 495) (by omega) (by omega) ?_
  refine va_astq hx hb hK hP hD hS 1 0 2 0 rfl rfl rfl rfl (vp_in_nI (by decide) (by decide)) d_Book_init_86 (fun H locs hP hD hS => ?_)
  rw [nI_clamp (by decide)] at hP hD
  have hP : va_P (dC, dI) classes [(h0, .inr (2, [.int (-1), .int 0, .ref q1, .ref q4, .int 0, .ref q7, .int 0, .ref q10, .int 0, .ref q12, .null, .int 0, .int 0])), (q12, .inl (cA13, 20, .inr (.inr (.inr (.inr (va_up (va_up (va_up (va_up (va_up (va_up (va_up (va_up (va_up (va_up (va_up (va_up (va_up (va_up (fun _ => none) 0 (some q14)) 1 (some q17)) 2 (some q20)) 3 (some q23)) 4 (some q26)) 5 (some q29)) 6 (some q32)) 7 (some q35)) 8 (some q38)) 9 (some q41)) 10 (some q44)) 11 (some q47)) 12 (some q50)) 13 (some q53))))))), (q53, .inr (0, [.ref q54, .int 0, .int 0])), (q54, .inl (cA55, 20, .inl (fun _ => 0)))] H := hP
  have hD : va_D A [(h0, .inr (2, [.int (-1), .int 0, .ref q1, .ref q4, .int 0, .ref q7, .int 0, .ref q10, .int 0, .ref q12, .null, .int 0, .int 0])), (q12, .inl (cA13, 20, .inr (.inr (.inr (.inr (va_up (va_up (va_up (va_up (va_up (va_up (va_up (va_up (va_up (va_up (va_up (va_up (va_up (va_up (fun _ => none) 0 (some q14)) 1 (some q17)) 2 (some q20)) 3 (some q23)) 4 (some q26)) 5 (some q29)) 6 (some q32)) 7 (some q35)) 8 (some q38)) 9 (some q41)) 10 (some q44)) 11 (some q47)) 12 (some q50)) 13 (some q53))))))), (q53, .inr (0, [.ref q54, .int 0, .int 0])), (q54, .inl (cA55, 20, .inl (fun _ => 0)))] := hD
  have hP := hP.sub (ws' := [(h0, .inr (2, [.int (-1), .int 0, .ref q1, .ref q4, .int 0, .ref q7, .int 0, .ref q10, .int 0, .ref q12, .null, .int 0, .int 0])), (q12, .inl (cA13, 20, .inr (.inr (.inr (.inr (va_up (va_up (va_up (va_up (va_up (va_up (va_up (va_up (va_up (va_up (va_up (va_up (va_up (va_up (fun _ => none) 0 (some q14)) 1 (some q17)) 2 (some q20)) 3 (some q23)) 4 (some q26)) 5 (some q29)) 6 (some q32)) 7 (some q35)) 8 (some q38)) 9 (some q41)) 10 (some q44)) 11 (some q47)) 12 (some q50)) 13 (some q53)))))))]) [0, 1] rfl
  have hD := hD.sub (ws' := [(h0, .inr (2, [.int (-1), .int 0, .ref q1, .ref q4, .int 0, .ref q7, .int 0, .ref q10, .int 0, .ref q12, .null, .int 0, .int 0])), (q12, .inl (cA13, 20, .inr (.inr (.inr (.inr (va_up (va_up (va_up (va_up (va_up (va_up (va_up (va_up (va_up (va_up (va_up (va_up (va_up (va_up (fun _ => none) 0 (some q14)) 1 (some q17)) 2 (some q20)) 3 (some q23)) 4 (some q26)) 5 (some q29)) 6 (some q32)) 7 (some q35)) 8 (some q38)) 9 (some q41)) 10 (some q44)) 11 (some q47)) 12 (some q50)) 13 (some q53)))))))]) [0, 1] (by decide +kernel) rfl
  have hK := hK.sub (tys' := [(cA13, .object R_Row)]) [0] rfl
  refine lv_iinc (v := (nI 14)) (lv' := [(1, .int (nI 14)), (0, .ref h0)]) hx hb d_Book_init_87 hl (k := 0) rfl (by decide) (by decide) rfl (fun ls hl => ?_)
  refine lv_goto (tgt := 66) hx hb d_Book_init_90 (by decide) ?_
  refine lv_iload_n hx hb d_Book_init_66 rfl (lv_at hl 0 rfl) ?_
  refine lv_bipush (v := (nI 20)) hx hb d_Book_init_67 (by decide) ?_
  refine lv_icmp_ge (tgt := 93) hx hb d_Book_init_69 (by decide) (fun c_69 => absurd c_69 (by decide)) (fun _ => ?_)
  refine lv_aload_n hx hb d_Book_init_72 rfl (lv_at hl 1 rfl) ?_
  refine va_get (D := (dC, dI)) (ci := 2) (v := .ref q12) (C := R_Book) (T := F_Book) (N := 13) hx hb ht i_Book hown hK hP 0 rfl rfl 9 (by decide) (ht _ k_92) (fun _ h9 => h9) rfl d_Book_init_73 ?_
  refine lv_iload_n hx hb d_Book_init_76 rfl (lv_at hl 0 rfl) ?_
  refine va_new (ci := 0) (fs := [.null, .int 0, .int 0]) (C := R_Row) (T := F_Row) (N := 3) hx hb ht i_Row t_Row t_Row_ok hown (ht _ k_84) (ht _ k_24) (ht _ k_2) hK hP hD hS hA rfl (fun j hj => by rcases (show j = 0 ∨ j = 1 ∨ j = 2 by omega) with rfl | rfl | rfl <;> rfl) (Nat.le_of_ble_eq_true rfl) (Nat.le_of_ble_eq_true rfl) d_Book_init_77 (fun q56 H hP hD hS => ?_)
  refine W.widen (k := 37) (n := 498) (by omega) (by omega) ?_
  have hP : va_P (dC, dI) classes [(h0, .inr (2, [.int (-1), .int 0, .ref q1, .ref q4, .int 0, .ref q7, .int 0, .ref q10, .int 0, .ref q12, .null, .int 0, .int 0])), (q12, .inl (cA13, 20, .inr (.inr (.inr (.inr (va_up (va_up (va_up (va_up (va_up (va_up (va_up (va_up (va_up (va_up (va_up (va_up (va_up (va_up (fun _ => none) 0 (some q14)) 1 (some q17)) 2 (some q20)) 3 (some q23)) 4 (some q26)) 5 (some q29)) 6 (some q32)) 7 (some q35)) 8 (some q38)) 9 (some q41)) 10 (some q44)) 11 (some q47)) 12 (some q50)) 13 (some q53))))))), (q56, .inr (0, [.null, .int 0, .int 0]))] H := hP
  have hD : va_D A [(h0, .inr (2, [.int (-1), .int 0, .ref q1, .ref q4, .int 0, .ref q7, .int 0, .ref q10, .int 0, .ref q12, .null, .int 0, .int 0])), (q12, .inl (cA13, 20, .inr (.inr (.inr (.inr (va_up (va_up (va_up (va_up (va_up (va_up (va_up (va_up (va_up (va_up (va_up (va_up (va_up (va_up (fun _ => none) 0 (some q14)) 1 (some q17)) 2 (some q20)) 3 (some q23)) 4 (some q26)) 5 (some q29)) 6 (some q32)) 7 (some q35)) 8 (some q38)) 9 (some q41)) 10 (some q44)) 11 (some q47)) 12 (some q50)) 13 (some q53))))))), (q56, .inr (0, [.null, .int 0, .int 0]))] := hD
  refine lv_dup hx hb d_Book_init_80 rfl ?_
  refine lv_bipush (v := (nI 20)) hx hb d_Book_init_81 (by decide) ?_
  have hPc := hP.sub (ws' := [(q56, .inr (0, [.null, .int 0, .int 0]))]) [2] rfl
  have hDc := hD.sub (ws' := [(q56, .inr (0, [.null, .int 0, .int 0]))]) [2] (by decide +kernel) rfl
  have hKc := hK.sub (tys' := []) [] rfl
  have hFc := va_free (wc := [(q56, .inr (0, [.null, .int 0, .int 0]))]) hD hS hA [2] rfl
  refine va_callv (va_runI (As := [.int (nI 20)]) (rest := [.ref q56, .int (nI 14), .ref q12]) ⟨hx, hb, hml, hown, ht⟩ (c_Row_init l dC dI q56 H.size 20 (by decide) (by decide)) (cwI 1 ht (xw_good k_27) rfl rfl rfl (ht _ k_2) (ht _ k_85) (ht _ k_26) rfl (by decide +kernel) ⟨(Nat.le_of_ble_eq_true rfl), (Nat.le_of_ble_eq_true rfl)⟩) ⟨fun a U g mk q => by obtain ⟨q0, q1, qP, qK, qD⟩ := q; exact ⟨q0, q1, qP, va_K.moved (u := U) (U := U.calling g mk a) (Vm.Alike.refl U.vm) qK, qD⟩, fun U hU hW => ⟨rfl, by rw [hU], by rw [hU]; exact hPc, va_K.moved hW.alike hKc, hDc.weaken (fun _ _ _ _ => trivial)⟩⟩ rfl rfl hl.1 rfl (lv_room (Nat.le_of_ble_eq_true rfl)) d_Book_init_83 ⟨(Nat.le_of_ble_eq_true rfl), (Nat.le_of_ble_eq_true rfl)⟩) hS (fun q _ h => hFc q h) hFc (fun u t H1 locs ht9 hvm hw hB hz1 hk1 hS => ?_)
  obtain ⟨q57, cA58, hP1, hK1, hD1⟩ := hB
  rw [ht9] at hP1
  have hK1 := va_K.moved hvm.symm hK1
  obtain ⟨hP, hD⟩ := va_join (wr := [(h0, .inr (2, [.int (-1), .int 0, .ref q1, .ref q4, .int 0, .ref q7, .int 0, .ref q10, .int 0, .ref q12, .null, .int 0, .int 0])), (q12, .inl (cA13, 20, .inr (.inr (.inr (.inr (va_up (va_up (va_up (va_up (va_up (va_up (va_up (va_up (va_up (va_up (va_up (va_up (va_up (va_up (fun _ => none) 0 (some q14)) 1 (some q17)) 2 (some q20)) 3 (some q23)) 4 (some q26)) 5 (some q29)) 6 (some q32)) 7 (some q35)) 8 (some q38)) 9 (some q41)) 10 (some q44)) 11 (some q47)) 12 (some q50)) 13 (some q53)))))))]) (w1 := [(q56, .inr (0, [.ref q57, .int 0, .int 0])), (q57, .inl (cA58, 20, .inl (fun _ => 0)))]) hP hD [2] [0, 1] rfl rfl (by decide +kernel) (by decide +kernel) hk1 hFc hP1 hD1
  have hK := (hK.sub (tys' := [(cA13, .object R_Row)]) [0] rfl).app hK1
  generalize H1 = H at hP hS ⊢
  have hP : va_P (dC, dI) classes [(h0, .inr (2, [.int (-1), .int 0, .ref q1, .ref q4, .int 0, .ref q7, .int 0, .ref q10, .int 0, .ref q12, .null, .int 0, .int 0])), (q12, .inl (cA13, 20, .inr (.inr (.inr (.inr (va_up (va_up (va_up (va_up (va_up (va_up (va_up (va_up (va_up (va_up (va_up (va_up (va_up (va_up (fun _ => none) 0 (some q14)) 1 (some q17)) 2 (some q20)) 3 (some q23)) 4 (some q26)) 5 (some q29)) 6 (some q32)) 7 (some q35)) 8 (some q38)) 9 (some q41)) 10 (some q44)) 11 (some q47)) 12 (some q50)) 13 (some q53))))))), (q56, .inr (0, [.ref q57, .int 0, .int 0])), (q57, .inl (cA58, 20, .inl (fun _ => 0)))] H := hP
  have hD : va_D A [(h0, .inr (2, [.int (-1), .int 0, .ref q1, .ref q4, .int 0, .ref q7, .int 0, .ref q10, .int 0, .ref q12, .null, .int 0, .int 0])), (q12, .inl (cA13, 20, .inr (.inr (.inr (.inr (va_up (va_up (va_up (va_up (va_up (va_up (va_up (va_up (va_up (va_up (va_up (va_up (va_up (va_up (fun _ => none) 0 (some q14)) 1 (some q17)) 2 (some q20)) 3 (some q23)) 4 (some q26)) 5 (some q29)) 6 (some q32)) 7 (some q35)) 8 (some q38)) 9 (some q41)) 10 (some q44)) 11 (some q47)) 12 (some q50)) 13 (some q53))))))), (q56, .inr (0, [.ref q57, .int 0, .int 0])), (q57, .inl (cA58, 20, .inl (fun _ => 0)))] := hD
  have hK : va_K (dC, dI) classes [(cA13, .object R_Row), (cA58, .byte)] s := hK
  refine W.widen (k := 38) (n := 518) (by omega) (by omega) ?_
  refine va_astq hx hb hK hP hD hS 1 0 2 0 rfl rfl rfl rfl (vp_in_nI (by decide) (by decide)) d_Book_init_86 (fun H locs hP hD hS => ?_)
  rw [nI_clamp (by decide)] at hP hD
  have hP : va_P (dC, dI) classes [(h0, .inr (2, [.int (-1), .int 0, .ref q1, .ref q4, .int 0, .ref q7, .int 0, .ref q10, .int 0, .ref q12, .null, .int 0, .int 0])), (q12, .inl (cA13, 20, .inr (.inr (.inr (.inr (va_up (va_up (va_up (va_up (va_up (va_up (va_up (va_up (va_up (va_up (va_up (va_up (va_up (va_up (va_up (fun _ => none) 0 (some q14)) 1 (some q17)) 2 (some q20)) 3 (some q23)) 4 (some q26)) 5 (some q29)) 6 (some q32)) 7 (some q35)) 8 (some q38)) 9 (some q41)) 10 (some q44)) 11 (some q47)) 12 (some q50)) 13 (some q53)) 14 (some q56))))))), (q56, .inr (0, [.ref q57, .int 0, .int 0])), (q57, .inl (cA58, 20, .inl (fun _ => 0)))] H := hP
  have hD : va_D A [(h0, .inr (2, [.int (-1), .int 0, .ref q1, .ref q4, .int 0, .ref q7, .int 0, .ref q10, .int 0, .ref q12, .null, .int 0, .int 0])), (q12, .inl (cA13, 20, .inr (.inr (.inr (.inr (va_up (va_up (va_up (va_up (va_up (va_up (va_up (va_up (va_up (va_up (va_up (va_up (va_up (va_up (va_up (fun _ => none) 0 (some q14)) 1 (some q17)) 2 (some q20)) 3 (some q23)) 4 (some q26)) 5 (some q29)) 6 (some q32)) 7 (some q35)) 8 (some q38)) 9 (some q41)) 10 (some q44)) 11 (some q47)) 12 (some q50)) 13 (some q53)) 14 (some q56))))))), (q56, .inr (0, [.ref q57, .int 0, .int 0])), (q57, .inl (cA58, 20, .inl (fun _ => 0)))] := hD
  have hP := hP.sub (ws' := [(h0, .inr (2, [.int (-1), .int 0, .ref q1, .ref q4, .int 0, .ref q7, .int 0, .ref q10, .int 0, .ref q12, .null, .int 0, .int 0])), (q12, .inl (cA13, 20, .inr (.inr (.inr (.inr (va_up (va_up (va_up (va_up (va_up (va_up (va_up (va_up (va_up (va_up (va_up (va_up (va_up (va_up (va_up (fun _ => none) 0 (some q14)) 1 (some q17)) 2 (some q20)) 3 (some q23)) 4 (some q26)) 5 (some q29)) 6 (some q32)) 7 (some q35)) 8 (some q38)) 9 (some q41)) 10 (some q44)) 11 (some q47)) 12 (some q50)) 13 (some q53)) 14 (some q56)))))))]) [0, 1] rfl
  have hD := hD.sub (ws' := [(h0, .inr (2, [.int (-1), .int 0, .ref q1, .ref q4, .int 0, .ref q7, .int 0, .ref q10, .int 0, .ref q12, .null, .int 0, .int 0])), (q12, .inl (cA13, 20, .inr (.inr (.inr (.inr (va_up (va_up (va_up (va_up (va_up (va_up (va_up (va_up (va_up (va_up (va_up (va_up (va_up (va_up (va_up (fun _ => none) 0 (some q14)) 1 (some q17)) 2 (some q20)) 3 (some q23)) 4 (some q26)) 5 (some q29)) 6 (some q32)) 7 (some q35)) 8 (some q38)) 9 (some q41)) 10 (some q44)) 11 (some q47)) 12 (some q50)) 13 (some q53)) 14 (some q56)))))))]) [0, 1] (by decide +kernel) rfl
  have hK := hK.sub (tys' := [(cA13, .object R_Row)]) [0] rfl
  refine lv_iinc (v := (nI 15)) (lv' := [(1, .int (nI 15)), (0, .ref h0)]) hx hb d_Book_init_87 hl (k := 0) rfl (by decide) (by decide) rfl (fun ls hl => ?_)
  refine lv_goto (tgt := 66) hx hb d_Book_init_90 (by decide) ?_
  refine lv_iload_n hx hb d_Book_init_66 rfl (lv_at hl 0 rfl) ?_
  refine lv_bipush (v := (nI 20)) hx hb d_Book_init_67 (by decide) ?_
  refine lv_icmp_ge (tgt := 93) hx hb d_Book_init_69 (by decide) (fun c_69 => absurd c_69 (by decide)) (fun _ => ?_)
  refine lv_aload_n hx hb d_Book_init_72 rfl (lv_at hl 1 rfl) ?_
  refine va_get (D := (dC, dI)) (ci := 2) (v := .ref q12) (C := R_Book) (T := F_Book) (N := 13) hx hb ht i_Book hown hK hP 0 rfl rfl 9 (by decide) (ht _ k_92) (fun _ h9 => h9) rfl d_Book_init_73 ?_
  refine lv_iload_n hx hb d_Book_init_76 rfl (lv_at hl 0 rfl) ?_
  refine va_new (ci := 0) (fs := [.null, .int 0, .int 0]) (C := R_Row) (T := F_Row) (N := 3) hx hb ht i_Row t_Row t_Row_ok hown (ht _ k_84) (ht _ k_24) (ht _ k_2) hK hP hD hS hA rfl (fun j hj => by rcases (show j = 0 ∨ j = 1 ∨ j = 2 by omega) with rfl | rfl | rfl <;> rfl) (Nat.le_of_ble_eq_true rfl) (Nat.le_of_ble_eq_true rfl) d_Book_init_77 (fun q59 H hP hD hS => ?_)
  refine W.widen (k := 39) (n := 521) (by omega) (by omega) ?_
  have hP : va_P (dC, dI) classes [(h0, .inr (2, [.int (-1), .int 0, .ref q1, .ref q4, .int 0, .ref q7, .int 0, .ref q10, .int 0, .ref q12, .null, .int 0, .int 0])), (q12, .inl (cA13, 20, .inr (.inr (.inr (.inr (va_up (va_up (va_up (va_up (va_up (va_up (va_up (va_up (va_up (va_up (va_up (va_up (va_up (va_up (va_up (fun _ => none) 0 (some q14)) 1 (some q17)) 2 (some q20)) 3 (some q23)) 4 (some q26)) 5 (some q29)) 6 (some q32)) 7 (some q35)) 8 (some q38)) 9 (some q41)) 10 (some q44)) 11 (some q47)) 12 (some q50)) 13 (some q53)) 14 (some q56))))))), (q59, .inr (0, [.null, .int 0, .int 0]))] H := hP
  have hD : va_D A [(h0, .inr (2, [.int (-1), .int 0, .ref q1, .ref q4, .int 0, .ref q7, .int 0, .ref q10, .int 0, .ref q12, .null, .int 0, .int 0])), (q12, .inl (cA13, 20, .inr (.inr (.inr (.inr (va_up (va_up (va_up (va_up (va_up (va_up (va_up (va_up (va_up (va_up (va_up (va_up (va_up (va_up (va_up (fun _ => none) 0 (some q14)) 1 (some q17)) 2 (some q20)) 3 (some q23)) 4 (some q26)) 5 (some q29)) 6 (some q32)) 7 (some q35)) 8 (some q38)) 9 (some q41)) 10 (some q44)) 11 (some q47)) 12 (some q50)) 13 (some q53)) 14 (some q56))))))), (q59, .inr (0, [.null, .int 0, .int 0]))] := hD
  refine lv_dup hx hb d_Book_init_80 rfl ?_
  refine lv_bipush (v := (nI 20)) hx hb d_Book_init_81 (by decide) ?_
  have hPc := hP.sub (ws' := [(q59, .inr (0, [.null, .int 0, .int 0]))]) [2] rfl
  have hDc := hD.sub (ws' := [(q59, .inr (0, [.null, .int 0, .int 0]))]) [2] (by decide +kernel) rfl
  have hKc := hK.sub (tys' := []) [] rfl
  have hFc := va_free (wc := [(q59, .inr (0, [.null, .int 0, .int 0]))]) hD hS hA [2] rfl
  refine va_callv (va_runI (As := [.int (nI 20)]) (rest := [.ref q59, .int (nI 15), .ref q12]) ⟨hx, hb, hml, hown, ht⟩ (c_Row_init l dC dI q59 H.size 20 (by decide) (by decide)) (cwI 1 ht (xw_good k_27) rfl rfl rfl (ht _ k_2) (ht _ k_85) (ht _ k_26) rfl (by decide +kernel) ⟨(Nat.le_of_ble_eq_true rfl), (Nat.le_of_ble_eq_true rfl)⟩) ⟨fun a U g mk q => by obtain ⟨q0, q1, qP, qK, qD⟩ := q; exact ⟨q0, q1, qP, va_K.moved (u := U) (U := U.calling g mk a) (Vm.Alike.refl U.vm) qK, qD⟩, fun U hU hW => ⟨rfl, by rw [hU], by rw [hU]; exact hPc, va_K.moved hW.alike hKc, hDc.weaken (fun _ _ _ _ => trivial)⟩⟩ rfl rfl hl.1 rfl (lv_room (Nat.le_of_ble_eq_true rfl)) d_Book_init_83 ⟨(Nat.le_of_ble_eq_true rfl), (Nat.le_of_ble_eq_true rfl)⟩) hS (fun q _ h => hFc q h) hFc (fun u t H1 locs ht9 hvm hw hB hz1 hk1 hS => ?_)
  obtain ⟨q60, cA61, hP1, hK1, hD1⟩ := hB
  rw [ht9] at hP1
  have hK1 := va_K.moved hvm.symm hK1
  obtain ⟨hP, hD⟩ := va_join (wr := [(h0, .inr (2, [.int (-1), .int 0, .ref q1, .ref q4, .int 0, .ref q7, .int 0, .ref q10, .int 0, .ref q12, .null, .int 0, .int 0])), (q12, .inl (cA13, 20, .inr (.inr (.inr (.inr (va_up (va_up (va_up (va_up (va_up (va_up (va_up (va_up (va_up (va_up (va_up (va_up (va_up (va_up (va_up (fun _ => none) 0 (some q14)) 1 (some q17)) 2 (some q20)) 3 (some q23)) 4 (some q26)) 5 (some q29)) 6 (some q32)) 7 (some q35)) 8 (some q38)) 9 (some q41)) 10 (some q44)) 11 (some q47)) 12 (some q50)) 13 (some q53)) 14 (some q56)))))))]) (w1 := [(q59, .inr (0, [.ref q60, .int 0, .int 0])), (q60, .inl (cA61, 20, .inl (fun _ => 0)))]) hP hD [2] [0, 1] rfl rfl (by decide +kernel) (by decide +kernel) hk1 hFc hP1 hD1
  have hK := (hK.sub (tys' := [(cA13, .object R_Row)]) [0] rfl).app hK1
  generalize H1 = H at hP hS ⊢
  have hP : va_P (dC, dI) classes [(h0, .inr (2, [.int (-1), .int 0, .ref q1, .ref q4, .int 0, .ref q7, .int 0, .ref q10, .int 0, .ref q12, .null, .int 0, .int 0])), (q12, .inl (cA13, 20, .inr (.inr (.inr (.inr (va_up (va_up (va_up (va_up (va_up (va_up (va_up (va_up (va_up (va_up (va_up (va_up (va_up (va_up (va_up (fun _ => none) 0 (some q14)) 1 (some q17)) 2 (some q20)) 3 (some q23)) 4 (some q26)) 5 (some q29)) 6 (some q32)) 7 (some q35)) 8 (some q38)) 9 (some q41)) 10 (some q44)) 11 (some q47)) 12 (some q50)) 13 (some q53)) 14 (some q56))))))), (q59, .inr (0, [.ref q60, .int 0, .int 0])), (q60, .inl (cA61, 20, .inl (fun _ => 0)))] H := hP
  have hD : va_D A [(h0, .inr (2, [.int (-1), .int 0, .ref q1, .ref q4, .int 0, .ref q7, .int 0, .ref q10, .int 0, .ref q12, .null, .int 0, .int 0])), (q12, .inl (cA13, 20, .inr (.inr (.inr (.inr (va_up (va_up (va_up (va_up (va_up (va_up (va_up (va_up (va_up (va_up (va_up (va_up (va_up (va_up (va_up (fun _ => none) 0 (some q14)) 1 (some q17)) 2 (some q20)) 3 (some q23)) 4 (some q26)) 5 (some q29)) 6 (some q32)) 7 (some q35)) 8 (some q38)) 9 (some q41)) 10 (some q44)) 11 (some q47)) 12 (some q50)) 13 (some q53)) 14 (some q56))))))), (q59, .inr (0, [.ref q60, .int 0, .int 0])), (q60, .inl (cA61, 20, .inl (fun _ => 0)))] := hD
  have hK : va_K (dC, dI) classes [(cA13, .object R_Row), (cA61, .byte)] s := hK
  refine W.widen (k := 40) (n := 541) (by omega) (by omega) ?_
  refine va_astq hx hb hK hP hD hS 1 0 2 0 rfl rfl rfl rfl (vp_in_nI (by decide) (by decide)) d_Book_init_86 (fun H locs hP hD hS => ?_)
  rw [nI_clamp (by decide)] at hP hD
  have hP : va_P (dC, dI) classes [(h0, .inr (2, [.int (-1), .int 0, .ref q1, .ref q4, .int 0, .ref q7, .int 0, .ref q10, .int 0, .ref q12, .null, .int 0, .int 0])), (q12, .inl (cA13, 20, .inr (.inr (.inr (.inr (va_up (va_up (va_up (va_up (va_up (va_up (va_up (va_up (va_up (va_up (va_up (va_up (va_up (va_up (va_up (va_up (fun _ => none) 0 (some q14)) 1 (some q17)) 2 (some q20)) 3 (some q23)) 4 (some q26)) 5 (some q29)) 6 (some q32)) 7 (some q35)) 8 (some q38)) 9 (some q41)) 10 (some q44)) 11 (some q47)) 12 (some q50)) 13 (some q53)) 14 (some q56)) 15 (some q59))))))), (q59, .inr (0, [.ref q60, .int 0, .int 0])), (q60, .inl (cA61, 20, .inl (fun _ => 0)))] H := hP
  have hD : va_D A [(h0, .inr (2, [.int (-1), .int 0, .ref q1, .ref q4, .int 0, .ref q7, .int 0, .ref q10, .int 0, .ref q12, .null, .int 0, .int 0])), (q12, .inl (cA13, 20, .inr (.inr (.inr (.inr (va_up (va_up (va_up (va_up (va_up (va_up (va_up (va_up (va_up (va_up (va_up (va_up (va_up (va_up (va_up (va_up (fun _ => none) 0 (some q14)) 1 (some q17)) 2 (some q20)) 3 (some q23)) 4 (some q26)) 5 (some q29)) 6 (some q32)) 7 (some q35)) 8 (some q38)) 9 (some q41)) 10 (some q44)) 11 (some q47)) 12 (some q50)) 13 (some q53)) 14 (some q56)) 15 (some q59))))))), (q59, .inr (0, [.ref q60, .int 0, .int 0])), (q60, .inl (cA61, 20, .inl (fun _ => 0)))] := hD
  have hP := hP.sub (ws' := [(h0, .inr (2, [.int (-1), .int 0, .ref q1, .ref q4, .int 0, .ref q7, .int 0, .ref q10, .int 0, .ref q12, .null, .int 0, .int 0])), (q12, .inl (cA13, 20, .inr (.inr (.inr (.inr (va_up (va_up (va_up (va_up (va_up (va_up (va_up (va_up (va_up (va_up (va_up (va_up (va_up (va_up (va_up (va_up (fun _ => none) 0 (some q14)) 1 (some q17)) 2 (some q20)) 3 (some q23)) 4 (some q26)) 5 (some q29)) 6 (some q32)) 7 (some q35)) 8 (some q38)) 9 (some q41)) 10 (some q44)) 11 (some q47)) 12 (some q50)) 13 (some q53)) 14 (some q56)) 15 (some q59)))))))]) [0, 1] rfl
  have hD := hD.sub (ws' := [(h0, .inr (2, [.int (-1), .int 0, .ref q1, .ref q4, .int 0, .ref q7, .int 0, .ref q10, .int 0, .ref q12, .null, .int 0, .int 0])), (q12, .inl (cA13, 20, .inr (.inr (.inr (.inr (va_up (va_up (va_up (va_up (va_up (va_up (va_up (va_up (va_up (va_up (va_up (va_up (va_up (va_up (va_up (va_up (fun _ => none) 0 (some q14)) 1 (some q17)) 2 (some q20)) 3 (some q23)) 4 (some q26)) 5 (some q29)) 6 (some q32)) 7 (some q35)) 8 (some q38)) 9 (some q41)) 10 (some q44)) 11 (some q47)) 12 (some q50)) 13 (some q53)) 14 (some q56)) 15 (some q59)))))))]) [0, 1] (by decide +kernel) rfl
  have hK := hK.sub (tys' := [(cA13, .object R_Row)]) [0] rfl
  refine lv_iinc (v := (nI 16)) (lv' := [(1, .int (nI 16)), (0, .ref h0)]) hx hb d_Book_init_87 hl (k := 0) rfl (by decide) (by decide) rfl (fun ls hl => ?_)
  refine lv_goto (tgt := 66) hx hb d_Book_init_90 (by decide) ?_
  refine lv_iload_n hx hb d_Book_init_66 rfl (lv_at hl 0 rfl) ?_
  refine lv_bipush (v := (nI 20)) hx hb d_Book_init_67 (by decide) ?_
  refine lv_icmp_ge (tgt := 93) hx hb d_Book_init_69 (by decide) (fun c_69 => absurd c_69 (by decide)) (fun _ => ?_)
  refine lv_aload_n hx hb d_Book_init_72 rfl (lv_at hl 1 rfl) ?_
  refine va_get (D := (dC, dI)) (ci := 2) (v := .ref q12) (C := R_Book) (T := F_Book) (N := 13) hx hb ht i_Book hown hK hP 0 rfl rfl 9 (by decide) (ht _ k_92) (fun _ h9 => h9) rfl d_Book_init_73 ?_
  refine lv_iload_n hx hb d_Book_init_76 rfl (lv_at hl 0 rfl) ?_
  refine va_new (ci := 0) (fs := [.null, .int 0, .int 0]) (C := R_Row) (T := F_Row) (N := 3) hx hb ht i_Row t_Row t_Row_ok hown (ht _ k_84) (ht _ k_24) (ht _ k_2) hK hP hD hS hA rfl (fun j hj => by rcases (show j = 0 ∨ j = 1 ∨ j = 2 by omega) with rfl | rfl | rfl <;> rfl) (Nat.le_of_ble_eq_true rfl) (Nat.le_of_ble_eq_true rfl) d_Book_init_77 (fun q62 H hP hD hS => ?_)
  refine W.widen (k := 41) (n := 544) (by omega) (by omega) ?_
  have hP : va_P (dC, dI) classes [(h0, .inr (2, [.int (-1), .int 0, .ref q1, .ref q4, .int 0, .ref q7, .int 0, .ref q10, .int 0, .ref q12, .null, .int 0, .int 0])), (q12, .inl (cA13, 20, .inr (.inr (.inr (.inr (va_up (va_up (va_up (va_up (va_up (va_up (va_up (va_up (va_up (va_up (va_up (va_up (va_up (va_up (va_up (va_up (fun _ => none) 0 (some q14)) 1 (some q17)) 2 (some q20)) 3 (some q23)) 4 (some q26)) 5 (some q29)) 6 (some q32)) 7 (some q35)) 8 (some q38)) 9 (some q41)) 10 (some q44)) 11 (some q47)) 12 (some q50)) 13 (some q53)) 14 (some q56)) 15 (some q59))))))), (q62, .inr (0, [.null, .int 0, .int 0]))] H := hP
  have hD : va_D A [(h0, .inr (2, [.int (-1), .int 0, .ref q1, .ref q4, .int 0, .ref q7, .int 0, .ref q10, .int 0, .ref q12, .null, .int 0, .int 0])), (q12, .inl (cA13, 20, .inr (.inr (.inr (.inr (va_up (va_up (va_up (va_up (va_up (va_up (va_up (va_up (va_up (va_up (va_up (va_up (va_up (va_up (va_up (va_up (fun _ => none) 0 (some q14)) 1 (some q17)) 2 (some q20)) 3 (some q23)) 4 (some q26)) 5 (some q29)) 6 (some q32)) 7 (some q35)) 8 (some q38)) 9 (some q41)) 10 (some q44)) 11 (some q47)) 12 (some q50)) 13 (some q53)) 14 (some q56)) 15 (some q59))))))), (q62, .inr (0, [.null, .int 0, .int 0]))] := hD
  refine lv_dup hx hb d_Book_init_80 rfl ?_
  refine lv_bipush (v := (nI 20)) hx hb d_Book_init_81 (by decide) ?_
  have hPc := hP.sub (ws' := [(q62, .inr (0, [.null, .int 0, .int 0]))]) [2] rfl
  have hDc := hD.sub (ws' := [(q62, .inr (0, [.null, .int 0, .int 0]))]) [2] (by decide +kernel) rfl
  have hKc := hK.sub (tys' := []) [] rfl
  have hFc := va_free (wc := [(q62, .inr (0, [.null, .int 0, .int 0]))]) hD hS hA [2] rfl
  refine va_callv (va_runI (As := [.int (nI 20)]) (rest := [.ref q62, .int (nI 16), .ref q12]) ⟨hx, hb, hml, hown, ht⟩ (c_Row_init l dC dI q62 H.size 20 (by decide) (by decide)) (cwI 1 ht (xw_good k_27) rfl rfl rfl (ht _ k_2) (ht _ k_85) (ht _ k_26) rfl (by decide +kernel) ⟨(Nat.le_of_ble_eq_true rfl), (Nat.le_of_ble_eq_true rfl)⟩) ⟨fun a U g mk q => by obtain ⟨q0, q1, qP, qK, qD⟩ := q; exact ⟨q0, q1, qP, va_K.moved (u := U) (U := U.calling g mk a) (Vm.Alike.refl U.vm) qK, qD⟩, fun U hU hW => ⟨rfl, by rw [hU], by rw [hU]; exact hPc, va_K.moved hW.alike hKc, hDc.weaken (fun _ _ _ _ => trivial)⟩⟩ rfl rfl hl.1 rfl (lv_room (Nat.le_of_ble_eq_true rfl)) d_Book_init_83 ⟨(Nat.le_of_ble_eq_true rfl), (Nat.le_of_ble_eq_true rfl)⟩) hS (fun q _ h => hFc q h) hFc (fun u t H1 locs ht9 hvm hw hB hz1 hk1 hS => ?_)
  obtain ⟨q63, cA64, hP1, hK1, hD1⟩ := hB
  rw [ht9] at hP1
  have hK1 := va_K.moved hvm.symm hK1
  obtain ⟨hP, hD⟩ := va_join (wr := [(h0, .inr (2, [.int (-1), .int 0, .ref q1, .ref q4, .int 0, .ref q7, .int 0, .ref q10, .int 0, .ref q12, .null, .int 0, .int 0])), (q12, .inl (cA13, 20, .inr (.inr (.inr (.inr (va_up (va_up (va_up (va_up (va_up (va_up (va_up (va_up (va_up (va_up (va_up (va_up (va_up (va_up (va_up (va_up (fun _ => none) 0 (some q14)) 1 (some q17)) 2 (some q20)) 3 (some q23)) 4 (some q26)) 5 (some q29)) 6 (some q32)) 7 (some q35)) 8 (some q38)) 9 (some q41)) 10 (some q44)) 11 (some q47)) 12 (some q50)) 13 (some q53)) 14 (some q56)) 15 (some q59)))))))]) (w1 := [(q62, .inr (0, [.ref q63, .int 0, .int 0])), (q63, .inl (cA64, 20, .inl (fun _ => 0)))]) hP hD [2] [0, 1] rfl rfl (by decide +kernel) (by decide +kernel) hk1 hFc hP1 hD1
  have hK := (hK.sub (tys' := [(cA13, .object R_Row)]) [0] rfl).app hK1
  generalize H1 = H at hP hS ⊢
  have hP : va_P (dC, dI) classes [(h0, .inr (2, [.int (-1), .int 0, .ref q1, .ref q4, .int 0, .ref q7, .int 0, .ref q10, .int 0, .ref q12, .null, .int 0, .int 0])), (q12, .inl (cA13, 20, .inr (.inr (.inr (.inr (va_up (va_up (va_up (va_up (va_up (va_up (va_up (va_up (va_up (va_up (va_up (va_up (va_up (va_up (va_up (va_up (fun _ => none) 0 (some q14)) 1 (some q17)) 2 (some q20)) 3 (some q23)) 4 (some q26)) 5 (some q29)) 6 (some q32)) 7 (some q35)) 8 (some q38)) 9 (some q41)) 10 (some q44)) 11 (some q47)) 12 (some q50)) 13 (some q53)) 14 (some q56)) 15 (some q59))))))), (q62, .inr (0, [.ref q63, .int 0, .int 0])), (q63, .inl (cA64, 20, .inl (fun _ => 0)))] H := hP
  have hD : va_D A [(h0, .inr (2, [.int (-1), .int 0, .ref q1, .ref q4, .int 0, .ref q7, .int 0, .ref q10, .int 0, .ref q12, .null, .int 0, .int 0])), (q12, .inl (cA13, 20, .inr (.inr (.inr (.inr (va_up (va_up (va_up (va_up (va_up (va_up (va_up (va_up (va_up (va_up (va_up (va_up (va_up (va_up (va_up (va_up (fun _ => none) 0 (some q14)) 1 (some q17)) 2 (some q20)) 3 (some q23)) 4 (some q26)) 5 (some q29)) 6 (some q32)) 7 (some q35)) 8 (some q38)) 9 (some q41)) 10 (some q44)) 11 (some q47)) 12 (some q50)) 13 (some q53)) 14 (some q56)) 15 (some q59))))))), (q62, .inr (0, [.ref q63, .int 0, .int 0])), (q63, .inl (cA64, 20, .inl (fun _ => 0)))] := hD
  have hK : va_K (dC, dI) classes [(cA13, .object R_Row), (cA64, .byte)] s := hK
  refine W.widen (k := 42) (n := 564) (by omega) (by omega) ?_
  refine va_astq hx hb hK hP hD hS 1 0 2 0 rfl rfl rfl rfl (vp_in_nI (by decide) (by decide)) d_Book_init_86 (fun H locs hP hD hS => ?_)
  rw [nI_clamp (by decide)] at hP hD
  have hP : va_P (dC, dI) classes [(h0, .inr (2, [.int (-1), .int 0, .ref q1, .ref q4, .int 0, .ref q7, .int 0, .ref q10, .int 0, .ref q12, .null, .int 0, .int 0])), (q12, .inl (cA13, 20, .inr (.inr (.inr (.inr (va_up (va_up (va_up (va_up (va_up (va_up (va_up (va_up (va_up (va_up (va_up (va_up (va_up (va_up (va_up (va_up (va_up (fun _ => none) 0 (some q14)) 1 (some q17)) 2 (some q20)) 3 (some q23)) 4 (some q26)) 5 (some q29)) 6 (some q32)) 7 (some q35)) 8 (some q38)) 9 (some q41)) 10 (some q44)) 11 (some q47)) 12 (some q50)) 13 (some q53)) 14 (some q56)) 15 (some q59)) 16 (some q62))))))), (q62, .inr (0, [.ref q63, .int 0, .int 0])), (q63, .inl (cA64, 20, .inl (fun _ => 0)))] H := hP
  have hD : va_D A [(h0, .inr (2, [.int (-1), .int 0, .ref q1, .ref q4, .int 0, .ref q7, .int 0, .ref q10, .int 0, .ref q12, .null, .int 0, .int 0])), (q12, .inl (cA13, 20, .inr (.inr (.inr (.inr (va_up (va_up (va_up (va_up (va_up (va_up (va_up (va_up (va_up (va_up (va_up (va_up (va_up (va_up (va_up (va_up (va_up (fun _ => none) 0 (some q14)) 1 (some q17)) 2 (some q20)) 3 (some q23)) 4 (some q26)) 5 (some q29)) 6 (some q32)) 7 (some q35)) 8 (some q38)) 9 (some q41)) 10 (some q44)) 11 (some q47)) 12 (some q50)) 13 (some q53)) 14 (some q56)) 15 (some q59)) 16 (some q62))))))), (q62, .inr (0, [.ref q63, .int 0, .int 0])), (q63, .inl (cA64, 20, .inl (fun _ => 0)))] := hD
  have hP := hP.sub (ws' := [(h0, .inr (2, [.int (-1), .int 0, .ref q1, .ref q4, .int 0, .ref q7, .int 0, .ref q10, .int 0, .ref q12, .null, .int 0, .int 0])), (q12, .inl (cA13, 20, .inr (.inr (.inr (.inr (va_up (va_up (va_up (va_up (va_up (va_up (va_up (va_up (va_up (va_up (va_up (va_up (va_up (va_up (va_up (va_up (va_up (fun _ => none) 0 (some q14)) 1 (some q17)) 2 (some q20)) 3 (some q23)) 4 (some q26)) 5 (some q29)) 6 (some q32)) 7 (some q35)) 8 (some q38)) 9 (some q41)) 10 (some q44)) 11 (some q47)) 12 (some q50)) 13 (some q53)) 14 (some q56)) 15 (some q59)) 16 (some q62)))))))]) [0, 1] rfl
  have hD := hD.sub (ws' := [(h0, .inr (2, [.int (-1), .int 0, .ref q1, .ref q4, .int 0, .ref q7, .int 0, .ref q10, .int 0, .ref q12, .null, .int 0, .int 0])), (q12, .inl (cA13, 20, .inr (.inr (.inr (.inr (va_up (va_up (va_up (va_up (va_up (va_up (va_up (va_up (va_up (va_up (va_up (va_up (va_up (va_up (va_up (va_up (va_up (fun _ => none) 0 (some q14)) 1 (some q17)) 2 (some q20)) 3 (some q23)) 4 (some q26)) 5 (some q29)) 6 (some q32)) 7 (some q35)) 8 (some q38)) 9 (some q41)) 10 (some q44)) 11 (some q47)) 12 (some q50)) 13 (some q53)) 14 (some q56)) 15 (some q59)) 16 (some q62)))))))]) [0, 1] (by decide +kernel) rfl
  have hK := hK.sub (tys' := [(cA13, .object R_Row)]) [0] rfl
  refine lv_iinc (v := (nI 17)) (lv' := [(1, .int (nI 17)), (0, .ref h0)]) hx hb d_Book_init_87 hl (k := 0) rfl (by decide) (by decide) rfl (fun ls hl => ?_)
  refine lv_goto (tgt := 66) hx hb d_Book_init_90 (by decide) ?_
  refine lv_iload_n hx hb d_Book_init_66 rfl (lv_at hl 0 rfl) ?_
  refine lv_bipush (v := (nI 20)) hx hb d_Book_init_67 (by decide) ?_
  refine lv_icmp_ge (tgt := 93) hx hb d_Book_init_69 (by decide) (fun c_69 => absurd c_69 (by decide)) (fun _ => ?_)
  refine lv_aload_n hx hb d_Book_init_72 rfl (lv_at hl 1 rfl) ?_
  refine va_get (D := (dC, dI)) (ci := 2) (v := .ref q12) (C := R_Book) (T := F_Book) (N := 13) hx hb ht i_Book hown hK hP 0 rfl rfl 9 (by decide) (ht _ k_92) (fun _ h9 => h9) rfl d_Book_init_73 ?_
  refine lv_iload_n hx hb d_Book_init_76 rfl (lv_at hl 0 rfl) ?_
  refine va_new (ci := 0) (fs := [.null, .int 0, .int 0]) (C := R_Row) (T := F_Row) (N := 3) hx hb ht i_Row t_Row t_Row_ok hown (ht _ k_84) (ht _ k_24) (ht _ k_2) hK hP hD hS hA rfl (fun j hj => by rcases (show j = 0 ∨ j = 1 ∨ j = 2 by omega) with rfl | rfl | rfl <;> rfl) (Nat.le_of_ble_eq_true rfl) (Nat.le_of_ble_eq_true rfl) d_Book_init_77 (fun q65 H hP hD hS => ?_)
  refine W.widen (k := 43) (n := 567) (by omega) (by omega) ?_
  have hP : va_P (dC, dI) classes [(h0, .inr (2, [.int (-1), .int 0, .ref q1, .ref q4, .int 0, .ref q7, .int 0, .ref q10, .int 0, .ref q12, .null, .int 0, .int 0])), (q12, .inl (cA13, 20, .inr (.inr (.inr (.inr (va_up (va_up (va_up (va_up (va_up (va_up (va_up (va_up (va_up (va_up (va_up (va_up (va_up (va_up (va_up (va_up (va_up (fun _ => none) 0 (some q14)) 1 (some q17)) 2 (some q20)) 3 (some q23)) 4 (some q26)) 5 (some q29)) 6 (some q32)) 7 (some q35)) 8 (some q38)) 9 (some q41)) 10 (some q44)) 11 (some q47)) 12 (some q50)) 13 (some q53)) 14 (some q56)) 15 (some q59)) 16 (some q62))))))), (q65, .inr (0, [.null, .int 0, .int 0]))] H := hP
  have hD : va_D A [(h0, .inr (2, [.int (-1), .int 0, .ref q1, .ref q4, .int 0, .ref q7, .int 0, .ref q10, .int 0, .ref q12, .null, .int 0, .int 0])), (q12, .inl (cA13, 20, .inr (.inr (.inr (.inr (va_up (va_up (va_up (va_up (va_up (va_up (va_up (va_up (va_up (va_up (va_up (va_up (va_up (va_up (va_up (va_up (va_up (fun _ => none) 0 (some q14)) 1 (some q17)) 2 (some q20)) 3 (some q23)) 4 (some q26)) 5 (some q29)) 6 (some q32)) 7 (some q35)) 8 (some q38)) 9 (some q41)) 10 (some q44)) 11 (some q47)) 12 (some q50)) 13 (some q53)) 14 (some q56)) 15 (some q59)) 16 (some q62))))))), (q65, .inr (0, [.null, .int 0, .int 0]))] := hD
  refine lv_dup hx hb d_Book_init_80 rfl ?_
  refine lv_bipush (v := (nI 20)) hx hb d_Book_init_81 (by decide) ?_
  have hPc := hP.sub (ws' := [(q65, .inr (0, [.null, .int 0, .int 0]))]) [2] rfl
  have hDc := hD.sub (ws' := [(q65, .inr (0, [.null, .int 0, .int 0]))]) [2] (by decide +kernel) rfl
  have hKc := hK.sub (tys' := []) [] rfl
  have hFc := va_free (wc := [(q65, .inr (0, [.null, .int 0, .int 0]))]) hD hS hA [2] rfl
  refine va_callv (va_runI (As := [.int (nI 20)]) (rest := [.ref q65, .int (nI 17), .ref q12]) ⟨hx, hb, hml, hown, ht⟩ (c_Row_init l dC dI q65 H.size 20 (by decide) (by decide)) (cwI 1 ht (xw_good k_27) rfl rfl rfl (ht _ k_2) (ht _ k_85) (ht _ k_26) rfl (by decide +kernel) ⟨(Nat.le_of_ble_eq_true rfl), (Nat.le_of_ble_eq_true rfl)⟩) ⟨fun a U g mk q => by obtain ⟨q0, q1, qP, qK, qD⟩ := q; exact ⟨q0, q1, qP, va_K.moved (u := U) (U := U.calling g mk a) (Vm.Alike.refl U.vm) qK, qD⟩, fun U hU hW => ⟨rfl, by rw [hU], by rw [hU]; exact hPc, va_K.moved hW.alike hKc, hDc.weaken (fun _ _ _ _ => trivial)⟩⟩ rfl rfl hl.1 rfl (lv_room (Nat.le_of_ble_eq_true rfl)) d_Book_init_83 ⟨(Nat.le_of_ble_eq_true rfl), (Nat.le_of_ble_eq_true rfl)⟩) hS (fun q _ h => hFc q h) hFc (fun u t H1 locs ht9 hvm hw hB hz1 hk1 hS => ?_)
  obtain ⟨q66, cA67, hP1, hK1, hD1⟩ := hB
  rw [ht9] at hP1
  have hK1 := va_K.moved hvm.symm hK1
  obtain ⟨hP, hD⟩ := va_join (wr := [(h0, .inr (2, [.int (-1), .int 0, .ref q1, .ref q4, .int 0, .ref q7, .int 0, .ref q10, .int 0, .ref q12, .null, .int 0, .int 0])), (q12, .inl (cA13, 20, .inr (.inr (.inr (.inr (va_up (va_up (va_up (va_up (va_up (va_up (va_up (va_up (va_up (va_up (va_up (va_up (va_up (va_up (va_up (va_up (va_up (fun _ => none) 0 (some q14)) 1 (some q17)) 2 (some q20)) 3 (some q23)) 4 (some q26)) 5 (some q29)) 6 (some q32)) 7 (some q35)) 8 (some q38)) 9 (some q41)) 10 (some q44)) 11 (some q47)) 12 (some q50)) 13 (some q53)) 14 (some q56)) 15 (some q59)) 16 (some q62)))))))]) (w1 := [(q65, .inr (0, [.ref q66, .int 0, .int 0])), (q66, .inl (cA67, 20, .inl (fun _ => 0)))]) hP hD [2] [0, 1] rfl rfl (by decide +kernel) (by decide +kernel) hk1 hFc hP1 hD1
  have hK := (hK.sub (tys' := [(cA13, .object R_Row)]) [0] rfl).app hK1
  generalize H1 = H at hP hS ⊢
  have hP : va_P (dC, dI) classes [(h0, .inr (2, [.int (-1), .int 0, .ref q1, .ref q4, .int 0, .ref q7, .int 0, .ref q10, .int 0, .ref q12, .null, .int 0, .int 0])), (q12, .inl (cA13, 20, .inr (.inr (.inr (.inr (va_up (va_up (va_up (va_up (va_up (va_up (va_up (va_up (va_up (va_up (va_up (va_up (va_up (va_up (va_up (va_up (va_up (fun _ => none) 0 (some q14)) 1 (some q17)) 2 (some q20)) 3 (some q23)) 4 (some q26)) 5 (some q29)) 6 (some q32)) 7 (some q35)) 8 (some q38)) 9 (some q41)) 10 (some q44)) 11 (some q47)) 12 (some q50)) 13 (some q53)) 14 (some q56)) 15 (some q59)) 16 (some q62))))))), (q65, .inr (0, [.ref q66, .int 0, .int 0])), (q66, .inl (cA67, 20, .inl (fun _ => 0)))] H := hP
  have hD : va_D A [(h0, .inr (2, [.int (-1), .int 0, .ref q1, .ref q4, .int 0, .ref q7, .int 0, .ref q10, .int 0, .ref q12, .null, .int 0, .int 0])), (q12, .inl (cA13, 20, .inr (.inr (.inr (.inr (va_up (va_up (va_up (va_up (va_up (va_up (va_up (va_up (va_up (va_up (va_up (va_up (va_up (va_up (va_up (va_up (va_up (fun _ => none) 0 (some q14)) 1 (some q17)) 2 (some q20)) 3 (some q23)) 4 (some q26)) 5 (some q29)) 6 (some q32)) 7 (some q35)) 8 (some q38)) 9 (some q41)) 10 (some q44)) 11 (some q47)) 12 (some q50)) 13 (some q53)) 14 (some q56)) 15 (some q59)) 16 (some q62))))))), (q65, .inr (0, [.ref q66, .int 0, .int 0])), (q66, .inl (cA67, 20, .inl (fun _ => 0)))] := hD
  have hK : va_K (dC, dI) classes [(cA13, .object R_Row), (cA67, .byte)] s := hK
  refine W.widen (k := 44) (n := 587) (by omega) (by omega) ?_
  refine va_astq hx hb hK hP hD hS 1 0 2 0 rfl rfl rfl rfl (vp_in_nI (by decide) (by decide)) d_Book_init_86 (fun H locs hP hD hS => ?_)
  rw [nI_clamp (by decide)] at hP hD
  have hP : va_P (dC, dI) classes [(h0, .inr (2, [.int (-1), .int 0, .ref q1, .ref q4, .int 0, .ref q7, .int 0, .ref q10, .int 0, .ref q12, .null, .int 0, .int 0])), (q12, .inl (cA13, 20, .inr (.inr (.inr (.inr (va_up (va_up (va_up (va_up (va_up (va_up (va_up (va_up (va_up (va_up (va_up (va_up (va_up (va_up (va_up (va_up (va_up (va_up (fun _ => none) 0 (some q14)) 1 (some q17)) 2 (some q20)) 3 (some q23)) 4 (some q26)) 5 (some q29)) 6 (some q32)) 7 (some q35)) 8 (some q38)) 9 (some q41)) 10 (some q44)) 11 (some q47)) 12 (some q50)) 13 (some q53)) 14 (some q56)) 15 (some q59)) 16 (some q62)) 17 (some q65))))))), (q65, .inr (0, [.ref q66, .int 0, .int 0])), (q66, .inl (cA67, 20, .inl (fun _ => 0)))] H := hP
  have hD : va_D A [(h0, .inr (2, [.int (-1), .int 0, .ref q1, .ref q4, .int 0, .ref q7, .int 0, .ref q10, .int 0, .ref q12, .null, .int 0, .int 0])), (q12, .inl (cA13, 20, .inr (.inr (.inr (.inr (va_up (va_up (va_up (va_up (va_up (va_up (va_up (va_up (va_up (va_up (va_up (va_up (va_up (va_up (va_up (va_up (va_up (va_up (fun _ => none) 0 (some q14)) 1 (some q17)) 2 (some q20)) 3 (some q23)) 4 (some q26)) 5 (some q29)) 6 (some q32)) 7 (some q35)) 8 (some q38)) 9 (some q41)) 10 (some q44)) 11 (some q47)) 12 (some q50)) 13 (some q53)) 14 (some q56)) 15 (some q59)) 16 (some q62)) 17 (some q65))))))), (q65, .inr (0, [.ref q66, .int 0, .int 0])), (q66, .inl (cA67, 20, .inl (fun _ => 0)))] := hD
  have hP := hP.sub (ws' := [(h0, .inr (2, [.int (-1), .int 0, .ref q1, .ref q4, .int 0, .ref q7, .int 0, .ref q10, .int 0, .ref q12, .null, .int 0, .int 0])), (q12, .inl (cA13, 20, .inr (.inr (.inr (.inr (va_up (va_up (va_up (va_up (va_up (va_up (va_up (va_up (va_up (va_up (va_up (va_up (va_up (va_up (va_up (va_up (va_up (va_up (fun _ => none) 0 (some q14)) 1 (some q17)) 2 (some q20)) 3 (some q23)) 4 (some q26)) 5 (some q29)) 6 (some q32)) 7 (some q35)) 8 (some q38)) 9 (some q41)) 10 (some q44)) 11 (some q47)) 12 (some q50)) 13 (some q53)) 14 (some q56)) 15 (some q59)) 16 (some q62)) 17 (some q65)))))))]) [0, 1] rfl
  have hD := hD.sub (ws' := [(h0, .inr (2, [.int (-1), .int 0, .ref q1, .ref q4, .int 0, .ref q7, .int 0, .ref q10, .int 0, .ref q12, .null, .int 0, .int 0])), (q12, .inl (cA13, 20, .inr (.inr (.inr (.inr (va_up (va_up (va_up (va_up (va_up (va_up (va_up (va_up (va_up (va_up (va_up (va_up (va_up (va_up (va_up (va_up (va_up (va_up (fun _ => none) 0 (some q14)) 1 (some q17)) 2 (some q20)) 3 (some q23)) 4 (some q26)) 5 (some q29)) 6 (some q32)) 7 (some q35)) 8 (some q38)) 9 (some q41)) 10 (some q44)) 11 (some q47)) 12 (some q50)) 13 (some q53)) 14 (some q56)) 15 (some q59)) 16 (some q62)) 17 (some q65)))))))]) [0, 1] (by decide +kernel) rfl
  have hK := hK.sub (tys' := [(cA13, .object R_Row)]) [0] rfl
  refine lv_iinc (v := (nI 18)) (lv' := [(1, .int (nI 18)), (0, .ref h0)]) hx hb d_Book_init_87 hl (k := 0) rfl (by decide) (by decide) rfl (fun ls hl => ?_)
  refine lv_goto (tgt := 66) hx hb d_Book_init_90 (by decide) ?_
  refine lv_iload_n hx hb d_Book_init_66 rfl (lv_at hl 0 rfl) ?_
  refine lv_bipush (v := (nI 20)) hx hb d_Book_init_67 (by decide) ?_
  refine lv_icmp_ge (tgt := 93) hx hb d_Book_init_69 (by decide) (fun c_69 => absurd c_69 (by decide)) (fun _ => ?_)
  refine lv_aload_n hx hb d_Book_init_72 rfl (lv_at hl 1 rfl) ?_
  refine va_get (D := (dC, dI)) (ci := 2) (v := .ref q12) (C := R_Book) (T := F_Book) (N := 13) hx hb ht i_Book hown hK hP 0 rfl rfl 9 (by decide) (ht _ k_92) (fun _ h9 => h9) rfl d_Book_init_73 ?_
  refine lv_iload_n hx hb d_Book_init_76 rfl (lv_at hl 0 rfl) ?_
  refine va_new (ci := 0) (fs := [.null, .int 0, .int 0]) (C := R_Row) (T := F_Row) (N := 3) hx hb ht i_Row t_Row t_Row_ok hown (ht _ k_84) (ht _ k_24) (ht _ k_2) hK hP hD hS hA rfl (fun j hj => by rcases (show j = 0 ∨ j = 1 ∨ j = 2 by omega) with rfl | rfl | rfl <;> rfl) (Nat.le_of_ble_eq_true rfl) (Nat.le_of_ble_eq_true rfl) d_Book_init_77 (fun q68 H hP hD hS => ?_)
  refine W.widen (k := 45) (n := 590) (by omega) (by omega) ?_
  have hP : va_P (dC, dI) classes [(h0, .inr (2, [.int (-1), .int 0, .ref q1, .ref q4, .int 0, .ref q7, .int 0, .ref q10, .int 0, .ref q12, .null, .int 0, .int 0])), (q12, .inl (cA13, 20, .inr (.inr (.inr (.inr (va_up (va_up (va_up (va_up (va_up (va_up (va_up (va_up (va_up (va_up (va_up (va_up (va_up (va_up (va_up (va_up (va_up (va_up (fun _ => none) 0 (some q14)) 1 (some q17)) 2 (some q20)) 3 (some q23)) 4 (some q26)) 5 (some q29)) 6 (some q32)) 7 (some q35)) 8 (some q38)) 9 (some q41)) 10 (some q44)) 11 (some q47)) 12 (some q50)) 13 (some q53)) 14 (some q56)) 15 (some q59)) 16 (some q62)) 17 (some q65))))))), (q68, .inr (0, [.null, .int 0, .int 0]))] H := hP
  have hD : va_D A [(h0, .inr (2, [.int (-1), .int 0, .ref q1, .ref q4, .int 0, .ref q7, .int 0, .ref q10, .int 0, .ref q12, .null, .int 0, .int 0])), (q12, .inl (cA13, 20, .inr (.inr (.inr (.inr (va_up (va_up (va_up (va_up (va_up (va_up (va_up (va_up (va_up (va_up (va_up (va_up (va_up (va_up (va_up (va_up (va_up (va_up (fun _ => none) 0 (some q14)) 1 (some q17)) 2 (some q20)) 3 (some q23)) 4 (some q26)) 5 (some q29)) 6 (some q32)) 7 (some q35)) 8 (some q38)) 9 (some q41)) 10 (some q44)) 11 (some q47)) 12 (some q50)) 13 (some q53)) 14 (some q56)) 15 (some q59)) 16 (some q62)) 17 (some q65))))))), (q68, .inr (0, [.null, .int 0, .int 0]))] := hD
  refine lv_dup hx hb d_Book_init_80 rfl ?_
  refine lv_bipush (v := (nI 20)) hx hb d_Book_init_81 (by decide) ?_
  have hPc := hP.sub (ws' := [(q68, .inr (0, [.null, .int 0, .int 0]))]) [2] rfl
  have hDc := hD.sub (ws' := [(q68, .inr (0, [.null, .int 0, .int 0]))]) [2] (by decide +kernel) rfl
  have hKc := hK.sub (tys' := []) [] rfl
  have hFc := va_free (wc := [(q68, .inr (0, [.null, .int 0, .int 0]))]) hD hS hA [2] rfl
  refine va_callv (va_runI (As := [.int (nI 20)]) (rest := [.ref q68, .int (nI 18), .ref q12]) ⟨hx, hb, hml, hown, ht⟩ (c_Row_init l dC dI q68 H.size 20 (by decide) (by decide)) (cwI 1 ht (xw_good k_27) rfl rfl rfl (ht _ k_2) (ht _ k_85) (ht _ k_26) rfl (by decide +kernel) ⟨(Nat.le_of_ble_eq_true rfl), (Nat.le_of_ble_eq_true rfl)⟩) ⟨fun a U g mk q => by obtain ⟨q0, q1, qP, qK, qD⟩ := q; exact ⟨q0, q1, qP, va_K.moved (u := U) (U := U.calling g mk a) (Vm.Alike.refl U.vm) qK, qD⟩, fun U hU hW => ⟨rfl, by rw [hU], by rw [hU]; exact hPc, va_K.moved hW.alike hKc, hDc.weaken (fun _ _ _ _ => trivial)⟩⟩ rfl rfl hl.1 rfl (lv_room (Nat.le_of_ble_eq_true rfl)) d_Book_init_83 ⟨(Nat.le_of_ble_eq_true rfl), (Nat.le_of_ble_eq_true rfl)⟩) hS (fun q _ h => hFc q h) hFc (fun u t H1 locs ht9 hvm hw hB hz1 hk1 hS => ?_)
  obtain ⟨q69, cA70, hP1, hK1, hD1⟩ := hB
  rw [ht9] at hP1
  have hK1 := va_K.moved hvm.symm hK1
  obtain ⟨hP, hD⟩ := va_join (wr := [(h0, .inr (2, [.int (-1), .int 0, .ref q1, .ref q4, .int 0, .ref q7, .int 0, .ref q10, .int 0, .ref q12, .null, .int 0, .int 0])), (q12, .inl (cA13, 20, .inr (.inr (.inr (.inr (va_up (va_up (va_up (va_up (va_up (va_up (va_up (va_up (va_up (va_up (va_up (va_up (va_up (va_up (va_up (va_up (va_up (va_up (fun _ => none) 0 (some q14)) 1 (some q17)) 2 (some q20)) 3 (some q23)) 4 (some q26)) 5 (some q29)) 6 (some q32)) 7 (some q35)) 8 (some q38)) 9 (some q41)) 10 (some q44)) 11 (some q47)) 12 (some q50)) 13 (some q53)) 14 (some q56)) 15 (some q59)) 16 (some q62)) 17 (some q65)))))))]) (w1 := [(q68, .inr (0, [.ref q69, .int 0, .int 0])), (q69, .inl (cA70, 20, .inl (fun _ => 0)))]) hP hD [2] [0, 1] rfl rfl (by decide +kernel) (by decide +kernel) hk1 hFc hP1 hD1
  have hK := (hK.sub (tys' := [(cA13, .object R_Row)]) [0] rfl).app hK1
  generalize H1 = H at hP hS ⊢
  have hP : va_P (dC, dI) classes [(h0, .inr (2, [.int (-1), .int 0, .ref q1, .ref q4, .int 0, .ref q7, .int 0, .ref q10, .int 0, .ref q12, .null, .int 0, .int 0])), (q12, .inl (cA13, 20, .inr (.inr (.inr (.inr (va_up (va_up (va_up (va_up (va_up (va_up (va_up (va_up (va_up (va_up (va_up (va_up (va_up (va_up (va_up (va_up (va_up (va_up (fun _ => none) 0 (some q14)) 1 (some q17)) 2 (some q20)) 3 (some q23)) 4 (some q26)) 5 (some q29)) 6 (some q32)) 7 (some q35)) 8 (some q38)) 9 (some q41)) 10 (some q44)) 11 (some q47)) 12 (some q50)) 13 (some q53)) 14 (some q56)) 15 (some q59)) 16 (some q62)) 17 (some q65))))))), (q68, .inr (0, [.ref q69, .int 0, .int 0])), (q69, .inl (cA70, 20, .inl (fun _ => 0)))] H := hP
  have hD : va_D A [(h0, .inr (2, [.int (-1), .int 0, .ref q1, .ref q4, .int 0, .ref q7, .int 0, .ref q10, .int 0, .ref q12, .null, .int 0, .int 0])), (q12, .inl (cA13, 20, .inr (.inr (.inr (.inr (va_up (va_up (va_up (va_up (va_up (va_up (va_up (va_up (va_up (va_up (va_up (va_up (va_up (va_up (va_up (va_up (va_up (va_up (fun _ => none) 0 (some q14)) 1 (some q17)) 2 (some q20)) 3 (some q23)) 4 (some q26)) 5 (some q29)) 6 (some q32)) 7 (some q35)) 8 (some q38)) 9 (some q41)) 10 (some q44)) 11 (some q47)) 12 (some q50)) 13 (some q53)) 14 (some q56)) 15 (some q59)) 16 (some q62)) 17 (some q65))))))), (q68, .inr (0, [.ref q69, .int 0, .int 0])), (q69, .inl (cA70, 20, .inl (fun _ => 0)))] := hD
  have hK : va_K (dC, dI) classes [(cA13, .object R_Row), (cA70, .byte)] s := hK
  refine W.widen (k := 46) (n := 610) (by omega) (by omega) ?_
  refine va_astq hx hb hK hP hD hS 1 0 2 0 rfl rfl rfl rfl (vp_in_nI (by decide) (by decide)) d_Book_init_86 (fun H locs hP hD hS => ?_)
  rw [nI_clamp (by decide)] at hP hD
  have hP : va_P (dC, dI) classes [(h0, .inr (2, [.int (-1), .int 0, .ref q1, .ref q4, .int 0, .ref q7, .int 0, .ref q10, .int 0, .ref q12, .null, .int 0, .int 0])), (q12, .inl (cA13, 20, .inr (.inr (.inr (.inr (va_up (va_up (va_up (va_up (va_up (va_up (va_up (va_up (va_up (va_up (va_up (va_up (va_up (va_up (va_up (va_up (va_up (va_up (va_up (fun _ => none) 0 (some q14)) 1 (some q17)) 2 (some q20)) 3 (some q23)) 4 (some q26)) 5 (some q29)) 6 (some q32)) 7 (some q35)) 8 (some q38)) 9 (some q41)) 10 (some q44)) 11 (some q47)) 12 (some q50)) 13 (some q53)) 14 (some q56)) 15 (some q59)) 16 (some q62)) 17 (some q65)) 18 (some q68))))))), (q68, .inr (0, [.ref q69, .int 0, .int 0])), (q69, .inl (cA70, 20, .inl (fun _ => 0)))] H := hP
  have hD : va_D A [(h0, .inr (2, [.int (-1), .int 0, .ref q1, .ref q4, .int 0, .ref q7, .int 0, .ref q10, .int 0, .ref q12, .null, .int 0, .int 0])), (q12, .inl (cA13, 20, .inr (.inr (.inr (.inr (va_up (va_up (va_up (va_up (va_up (va_up (va_up (va_up (va_up (va_up (va_up (va_up (va_up (va_up (va_up (va_up (va_up (va_up (va_up (fun _ => none) 0 (some q14)) 1 (some q17)) 2 (some q20)) 3 (some q23)) 4 (some q26)) 5 (some q29)) 6 (some q32)) 7 (some q35)) 8 (some q38)) 9 (some q41)) 10 (some q44)) 11 (some q47)) 12 (some q50)) 13 (some q53)) 14 (some q56)) 15 (some q59)) 16 (some q62)) 17 (some q65)) 18 (some q68))))))), (q68, .inr (0, [.ref q69, .int 0, .int 0])), (q69, .inl (cA70, 20, .inl (fun _ => 0)))] := hD
  have hP := hP.sub (ws' := [(h0, .inr (2, [.int (-1), .int 0, .ref q1, .ref q4, .int 0, .ref q7, .int 0, .ref q10, .int 0, .ref q12, .null, .int 0, .int 0])), (q12, .inl (cA13, 20, .inr (.inr (.inr (.inr (va_up (va_up (va_up (va_up (va_up (va_up (va_up (va_up (va_up (va_up (va_up (va_up (va_up (va_up (va_up (va_up (va_up (va_up (va_up (fun _ => none) 0 (some q14)) 1 (some q17)) 2 (some q20)) 3 (some q23)) 4 (some q26)) 5 (some q29)) 6 (some q32)) 7 (some q35)) 8 (some q38)) 9 (some q41)) 10 (some q44)) 11 (some q47)) 12 (some q50)) 13 (some q53)) 14 (some q56)) 15 (some q59)) 16 (some q62)) 17 (some q65)) 18 (some q68)))))))]) [0, 1] rfl
  have hD := hD.sub (ws' := [(h0, .inr (2, [.int (-1), .int 0, .ref q1, .ref q4, .int 0, .ref q7, .int 0, .ref q10, .int 0, .ref q12, .null, .int 0, .int 0])), (q12, .inl (cA13, 20, .inr (.inr (.inr (.inr (va_up (va_up (va_up (va_up (va_up (va_up (va_up (va_up (va_up (va_up (va_up (va_up (va_up (va_up (va_up (va_up (va_up (va_up (va_up (fun _ => none) 0 (some q14)) 1 (some q17)) 2 (some q20)) 3 (some q23)) 4 (some q26)) 5 (some q29)) 6 (some q32)) 7 (some q35)) 8 (some q38)) 9 (some q41)) 10 (some q44)) 11 (some q47)) 12 (some q50)) 13 (some q53)) 14 (some q56)) 15 (some q59)) 16 (some q62)) 17 (some q65)) 18 (some q68)))))))]) [0, 1] (by decide +kernel) rfl
  have hK := hK.sub (tys' := [(cA13, .object R_Row)]) [0] rfl
  refine lv_iinc (v := (nI 19)) (lv' := [(1, .int (nI 19)), (0, .ref h0)]) hx hb d_Book_init_87 hl (k := 0) rfl (by decide) (by decide) rfl (fun ls hl => ?_)
  refine lv_goto (tgt := 66) hx hb d_Book_init_90 (by decide) ?_
  refine lv_iload_n hx hb d_Book_init_66 rfl (lv_at hl 0 rfl) ?_
  refine lv_bipush (v := (nI 20)) hx hb d_Book_init_67 (by decide) ?_
  refine lv_icmp_ge (tgt := 93) hx hb d_Book_init_69 (by decide) (fun c_69 => absurd c_69 (by decide)) (fun _ => ?_)
  refine lv_aload_n hx hb d_Book_init_72 rfl (lv_at hl 1 rfl) ?_
  refine va_get (D := (dC, dI)) (ci := 2) (v := .ref q12) (C := R_Book) (T := F_Book) (N := 13) hx hb ht i_Book hown hK hP 0 rfl rfl 9 (by decide) (ht _ k_92) (fun _ h9 => h9) rfl d_Book_init_73 ?_
  refine lv_iload_n hx hb d_Book_init_76 rfl (lv_at hl 0 rfl) ?_
  refine va_new (ci := 0) (fs := [.null, .int 0, .int 0]) (C := R_Row) (T := F_Row) (N := 3) hx hb ht i_Row t_Row t_Row_ok hown (ht _ k_84) (ht _ k_24) (ht _ k_2) hK hP hD hS hA rfl (fun j hj => by rcases (show j = 0 ∨ j = 1 ∨ j = 2 by omega) with rfl | rfl | rfl <;> rfl) (Nat.le_of_ble_eq_true rfl) (Nat.le_of_ble_eq_true rfl) d_Book_init_77 (fun q71 H hP hD hS => ?_)
  refine W.widen (k := 47) (n := 613) (by omega) (by omega) ?_
  have hP : va_P (dC, dI) classes [(h0, .inr (2, [.int (-1), .int 0, .ref q1, .ref q4, .int 0, .ref q7, .int 0, .ref q10, .int 0, .ref q12, .null, .int 0, .int 0])), (q12, .inl (cA13, 20, .inr (.inr (.inr (.inr (va_up (va_up (va_up (va_up (va_up (va_up (va_up (va_up (va_up (va_up (va_up (va_up (va_up (va_up (va_up (va_up (va_up (va_up (va_up (fun _ => none) 0 (some q14)) 1 (some q17)) 2 (some q20)) 3 (some q23)) 4 (some q26)) 5 (some q29)) 6 (some q32)) 7 (some q35)) 8 (some q38)) 9 (some q41)) 10 (some q44)) 11 (some q47)) 12 (some q50)) 13 (some q53)) 14 (some q56)) 15 (some q59)) 16 (some q62)) 17 (some q65)) 18 (some q68))))))), (q71, .inr (0, [.null, .int 0, .int 0]))] H := hP
  have hD : va_D A [(h0, .inr (2, [.int (-1), .int 0, .ref q1, .ref q4, .int 0, .ref q7, .int 0, .ref q10, .int 0, .ref q12, .null, .int 0, .int 0])), (q12, .inl (cA13, 20, .inr (.inr (.inr (.inr (va_up (va_up (va_up (va_up (va_up (va_up (va_up (va_up (va_up (va_up (va_up (va_up (va_up (va_up (va_up (va_up (va_up (va_up (va_up (fun _ => none) 0 (some q14)) 1 (some q17)) 2 (some q20)) 3 (some q23)) 4 (some q26)) 5 (some q29)) 6 (some q32)) 7 (some q35)) 8 (some q38)) 9 (some q41)) 10 (some q44)) 11 (some q47)) 12 (some q50)) 13 (some q53)) 14 (some q56)) 15 (some q59)) 16 (some q62)) 17 (some q65)) 18 (some q68))))))), (q71, .inr (0, [.null, .int 0, .int 0]))] := hD
  refine lv_dup hx hb d_Book_init_80 rfl ?_
  refine lv_bipush (v := (nI 20)) hx hb d_Book_init_81 (by decide) ?_
  have hPc := hP.sub (ws' := [(q71, .inr (0, [.null, .int 0, .int 0]))]) [2] rfl
  have hDc := hD.sub (ws' := [(q71, .inr (0, [.null, .int 0, .int 0]))]) [2] (by decide +kernel) rfl
  have hKc := hK.sub (tys' := []) [] rfl
  have hFc := va_free (wc := [(q71, .inr (0, [.null, .int 0, .int 0]))]) hD hS hA [2] rfl
  refine va_callv (va_runI (As := [.int (nI 20)]) (rest := [.ref q71, .int (nI 19), .ref q12]) ⟨hx, hb, hml, hown, ht⟩ (c_Row_init l dC dI q71 H.size 20 (by decide) (by decide)) (cwI 1 ht (xw_good k_27) rfl rfl rfl (ht _ k_2) (ht _ k_85) (ht _ k_26) rfl (by decide +kernel) ⟨(Nat.le_of_ble_eq_true rfl), (Nat.le_of_ble_eq_true rfl)⟩) ⟨fun a U g mk q => by obtain ⟨q0, q1, qP, qK, qD⟩ := q; exact ⟨q0, q1, qP, va_K.moved (u := U) (U := U.calling g mk a) (Vm.Alike.refl U.vm) qK, qD⟩, fun U hU hW => ⟨rfl, by rw [hU], by rw [hU]; exact hPc, va_K.moved hW.alike hKc, hDc.weaken (fun _ _ _ _ => trivial)⟩⟩ rfl rfl hl.1 rfl (lv_room (Nat.le_of_ble_eq_true rfl)) d_Book_init_83 ⟨(Nat.le_of_ble_eq_true rfl), (Nat.le_of_ble_eq_true rfl)⟩) hS (fun q _ h => hFc q h) hFc (fun u t H1 locs ht9 hvm hw hB hz1 hk1 hS => ?_)
  obtain ⟨q72, cA73, hP1, hK1, hD1⟩ := hB
  rw [ht9] at hP1
  have hK1 := va_K.moved hvm.symm hK1
  obtain ⟨hP, hD⟩ := va_join (wr := [(h0, .inr (2, [.int (-1), .int 0, .ref q1, .ref q4, .int 0, .ref q7, .int 0, .ref q10, .int 0, .ref q12, .null, .int 0, .int 0])), (q12, .inl (cA13, 20, .inr (.inr (.inr (.inr (va_up (va_up (va_up (va_up (va_up (va_up (va_up (va_up (va_up (va_up (va_up (va_up (va_up (va_up (va_up (va_up (va_up (va_up (va_up (fun _ => none) 0 (some q14)) 1 (some q17)) 2 (some q20)) 3 (some q23)) 4 (some q26)) 5 (some q29)) 6 (some q32)) 7 (some q35)) 8 (some q38)) 9 (some q41)) 10 (some q44)) 11 (some q47)) 12 (some q50)) 13 (some q53)) 14 (some q56)) 15 (some q59)) 16 (some q62)) 17 (some q65)) 18 (some q68)))))))]) (w1 := [(q71, .inr (0, [.ref q72, .int 0, .int 0])), (q72, .inl (cA73, 20, .inl (fun _ => 0)))]) hP hD [2] [0, 1] rfl rfl (by decide +kernel) (by decide +kernel) hk1 hFc hP1 hD1
  have hK := (hK.sub (tys' := [(cA13, .object R_Row)]) [0] rfl).app hK1
  generalize H1 = H at hP hS ⊢
  have hP : va_P (dC, dI) classes [(h0, .inr (2, [.int (-1), .int 0, .ref q1, .ref q4, .int 0, .ref q7, .int 0, .ref q10, .int 0, .ref q12, .null, .int 0, .int 0])), (q12, .inl (cA13, 20, .inr (.inr (.inr (.inr (va_up (va_up (va_up (va_up (va_up (va_up (va_up (va_up (va_up (va_up (va_up (va_up (va_up (va_up (va_up (va_up (va_up (va_up (va_up (fun _ => none) 0 (some q14)) 1 (some q17)) 2 (some q20)) 3 (some q23)) 4 (some q26)) 5 (some q29)) 6 (some q32)) 7 (some q35)) 8 (some q38)) 9 (some q41)) 10 (some q44)) 11 (some q47)) 12 (some q50)) 13 (some q53)) 14 (some q56)) 15 (some q59)) 16 (some q62)) 17 (some q65)) 18 (some q68))))))), (q71, .inr (0, [.ref q72, .int 0, .int 0])), (q72, .inl (cA73, 20, .inl (fun _ => 0)))] H := hP
  have hD : va_D A [(h0, .inr (2, [.int (-1), .int 0, .ref q1, .ref q4, .int 0, .ref q7, .int 0, .ref q10, .int 0, .ref q12, .null, .int 0, .int 0])), (q12, .inl (cA13, 20, .inr (.inr (.inr (.inr (va_up (va_up (va_up (va_up (va_up (va_up (va_up (va_up (va_up (va_up (va_up (va_up (va_up (va_up (va_up (va_up (va_up (va_up (va_up (fun _ => none) 0 (some q14)) 1 (some q17)) 2 (some q20)) 3 (some q23)) 4 (some q26)) 5 (some q29)) 6 (some q32)) 7 (some q35)) 8 (some q38)) 9 (some q41)) 10 (some q44)) 11 (some q47)) 12 (some q50)) 13 (some q53)) 14 (some q56)) 15 (some q59)) 16 (some q62)) 17 (some q65)) 18 (some q68))))))), (q71, .inr (0, [.ref q72, .int 0, .int 0])), (q72, .inl (cA73, 20, .inl (fun _ => 0)))] := hD
  have hK : va_K (dC, dI) classes [(cA13, .object R_Row), (cA73, .byte)] s := hK
  refine W.widen (k := 48) (n := 633) (by omega) (by omega) ?_
  refine va_astq hx hb hK hP hD hS 1 0 2 0 rfl rfl rfl rfl (vp_in_nI (by decide) (by decide)) d_Book_init_86 (fun H locs hP hD hS => ?_)
  rw [nI_clamp (by decide)] at hP hD
  have hP : va_P (dC, dI) classes [(h0, .inr (2, [.int (-1), .int 0, .ref q1, .ref q4, .int 0, .ref q7, .int 0, .ref q10, .int 0, .ref q12, .null, .int 0, .int 0])), (q12, .inl (cA13, 20, .inr (.inr (.inr (.inr (va_up (va_up (va_up (va_up (va_up (va_up (va_up (va_up (va_up (va_up (va_up (va_up (va_up (va_up (va_up (va_up (va_up (va_up (va_up (va_up (fun _ => none) 0 (some q14)) 1 (some q17)) 2 (some q20)) 3 (some q23)) 4 (some q26)) 5 (some q29)) 6 (some q32)) 7 (some q35)) 8 (some q38)) 9 (some q41)) 10 (some q44)) 11 (some q47)) 12 (some q50)) 13 (some q53)) 14 (some q56)) 15 (some q59)) 16 (some q62)) 17 (some q65)) 18 (some q68)) 19 (some q71))))))), (q71, .inr (0, [.ref q72, .int 0, .int 0])), (q72, .inl (cA73, 20, .inl (fun _ => 0)))] H := hP
  have hD : va_D A [(h0, .inr (2, [.int (-1), .int 0, .ref q1, .ref q4, .int 0, .ref q7, .int 0, .ref q10, .int 0, .ref q12, .null, .int 0, .int 0])), (q12, .inl (cA13, 20, .inr (.inr (.inr (.inr (va_up (va_up (va_up (va_up (va_up (va_up (va_up (va_up (va_up (va_up (va_up (va_up (va_up (va_up (va_up (va_up (va_up (va_up (va_up (va_up (fun _ => none) 0 (some q14)) 1 (some q17)) 2 (some q20)) 3 (some q23)) 4 (some q26)) 5 (some q29)) 6 (some q32)) 7 (some q35)) 8 (some q38)) 9 (some q41)) 10 (some q44)) 11 (some q47)) 12 (some q50)) 13 (some q53)) 14 (some q56)) 15 (some q59)) 16 (some q62)) 17 (some q65)) 18 (some q68)) 19 (some q71))))))), (q71, .inr (0, [.ref q72, .int 0, .int 0])), (q72, .inl (cA73, 20, .inl (fun _ => 0)))] := hD
  have hP := hP.sub (ws' := [(h0, .inr (2, [.int (-1), .int 0, .ref q1, .ref q4, .int 0, .ref q7, .int 0, .ref q10, .int 0, .ref q12, .null, .int 0, .int 0])), (q12, .inl (cA13, 20, .inr (.inr (.inr (.inr (va_up (va_up (va_up (va_up (va_up (va_up (va_up (va_up (va_up (va_up (va_up (va_up (va_up (va_up (va_up (va_up (va_up (va_up (va_up (va_up (fun _ => none) 0 (some q14)) 1 (some q17)) 2 (some q20)) 3 (some q23)) 4 (some q26)) 5 (some q29)) 6 (some q32)) 7 (some q35)) 8 (some q38)) 9 (some q41)) 10 (some q44)) 11 (some q47)) 12 (some q50)) 13 (some q53)) 14 (some q56)) 15 (some q59)) 16 (some q62)) 17 (some q65)) 18 (some q68)) 19 (some q71)))))))]) [0, 1] rfl
  have hD := hD.sub (ws' := [(h0, .inr (2, [.int (-1), .int 0, .ref q1, .ref q4, .int 0, .ref q7, .int 0, .ref q10, .int 0, .ref q12, .null, .int 0, .int 0])), (q12, .inl (cA13, 20, .inr (.inr (.inr (.inr (va_up (va_up (va_up (va_up (va_up (va_up (va_up (va_up (va_up (va_up (va_up (va_up (va_up (va_up (va_up (va_up (va_up (va_up (va_up (va_up (fun _ => none) 0 (some q14)) 1 (some q17)) 2 (some q20)) 3 (some q23)) 4 (some q26)) 5 (some q29)) 6 (some q32)) 7 (some q35)) 8 (some q38)) 9 (some q41)) 10 (some q44)) 11 (some q47)) 12 (some q50)) 13 (some q53)) 14 (some q56)) 15 (some q59)) 16 (some q62)) 17 (some q65)) 18 (some q68)) 19 (some q71)))))))]) [0, 1] (by decide +kernel) rfl
  have hK := hK.sub (tys' := [(cA13, .object R_Row)]) [0] rfl
  refine lv_iinc (v := (nI 20)) (lv' := [(1, .int (nI 20)), (0, .ref h0)]) hx hb d_Book_init_87 hl (k := 0) rfl (by decide) (by decide) rfl (fun ls hl => ?_)
  refine lv_goto (tgt := 66) hx hb d_Book_init_90 (by decide) ?_
  refine lv_iload_n hx hb d_Book_init_66 rfl (lv_at hl 0 rfl) ?_
  refine lv_bipush (v := (nI 20)) hx hb d_Book_init_67 (by decide) ?_
  refine lv_icmp_ge (tgt := 93) hx hb d_Book_init_69 (by decide) (fun _ => ?_) (fun c_69 => absurd (by decide) c_69)
  refine lv_aload_n hx hb d_Book_init_93 rfl (lv_at hl 1 rfl) ?_
  refine lv_bipush (v := (nI 20)) hx hb d_Book_init_94 (by decide) ?_
  refine va_newa (atype := .int) (ty := .int) (a0 := (20, .inl (fun _ => 0))) hx hb (ht _ k_69) rfl hK hP hD hS hA (fun _ => rfl) (nI_pos (by decide)) (nI_clamp (by decide)) (by decide) (Nat.le_of_ble_eq_true rfl) (Nat.le_of_ble_eq_true rfl) d_Book_init_96 (fun q74 cA75 H hK hP hD hS => ?_)
  refine W.widen (k := 49) (n := 653) (by omega) (by omega) ?_
  have hP : va_P (dC, dI) classes [(h0, .inr (2, [.int (-1), .int 0, .ref q1, .ref q4, .int 0, .ref q7, .int 0, .ref q10, .int 0, .ref q12, .null, .int 0, .int 0])), (q12, .inl (cA13, 20, .inr (.inr (.inr (.inr (va_up (va_up (va_up (va_up (va_up (va_up (va_up (va_up (va_up (va_up (va_up (va_up (va_up (va_up (va_up (va_up (va_up (va_up (va_up (va_up (fun _ => none) 0 (some q14)) 1 (some q17)) 2 (some q20)) 3 (some q23)) 4 (some q26)) 5 (some q29)) 6 (some q32)) 7 (some q35)) 8 (some q38)) 9 (some q41)) 10 (some q44)) 11 (some q47)) 12 (some q50)) 13 (some q53)) 14 (some q56)) 15 (some q59)) 16 (some q62)) 17 (some q65)) 18 (some q68)) 19 (some q71))))))), (q74, .inl (cA75, 20, .inl (fun _ => 0)))] H := hP
  have hD : va_D A [(h0, .inr (2, [.int (-1), .int 0, .ref q1, .ref q4, .int 0, .ref q7, .int 0, .ref q10, .int 0, .ref q12, .null, .int 0, .int 0])), (q12, .inl (cA13, 20, .inr (.inr (.inr (.inr (va_up (va_up (va_up (va_up (va_up (va_up (va_up (va_up (va_up (va_up (va_up (va_up (va_up (va_up (va_up (va_up (va_up (va_up (va_up (va_up (fun _ => none) 0 (some q14)) 1 (some q17)) 2 (some q20)) 3 (some q23)) 4 (some q26)) 5 (some q29)) 6 (some q32)) 7 (some q35)) 8 (some q38)) 9 (some q41)) 10 (some q44)) 11 (some q47)) 12 (some q50)) 13 (some q53)) 14 (some q56)) 15 (some q59)) 16 (some q62)) 17 (some q65)) 18 (some q68)) 19 (some q71))))))), (q74, .inl (cA75, 20, .inl (fun _ => 0)))] := hD
  have hK : va_K (dC, dI) classes [(cA13, .object R_Row), (cA75, .int)] s := hK
  refine va_putF (D := (dC, dI)) (ci := 2) (v := .ref q74) (ty := .array .int) (C := R_Book) (T := F_Book) (N := 13) hx hb ht i_Book t_Book t_Book_ok n_Book hown hK hP hD hS 0 rfl rfl 10 (by decide) (ht _ k_93) (fun _ h9 => h9) rfl hin rfl (by decide +kernel) rfl rfl (Nat.le_of_ble_eq_true rfl) d_Book_init_98 (fun H locs hP hD hS => ?_)
  have hP : va_P (dC, dI) classes [(h0, .inr (2, [.int (-1), .int 0, .ref q1, .ref q4, .int 0, .ref q7, .int 0, .ref q10, .int 0, .ref q12, .ref q74, .int 0, .int 0])), (q12, .inl (cA13, 20, .inr (.inr (.inr (.inr (va_up (va_up (va_up (va_up (va_up (va_up (va_up (va_up (va_up (va_up (va_up (va_up (va_up (va_up (va_up (va_up (va_up (va_up (va_up (va_up (fun _ => none) 0 (some q14)) 1 (some q17)) 2 (some q20)) 3 (some q23)) 4 (some q26)) 5 (some q29)) 6 (some q32)) 7 (some q35)) 8 (some q38)) 9 (some q41)) 10 (some q44)) 11 (some q47)) 12 (some q50)) 13 (some q53)) 14 (some q56)) 15 (some q59)) 16 (some q62)) 17 (some q65)) 18 (some q68)) 19 (some q71))))))), (q74, .inl (cA75, 20, .inl (fun _ => 0)))] H := hP
  have hD : va_D A [(h0, .inr (2, [.int (-1), .int 0, .ref q1, .ref q4, .int 0, .ref q7, .int 0, .ref q10, .int 0, .ref q12, .ref q74, .int 0, .int 0])), (q12, .inl (cA13, 20, .inr (.inr (.inr (.inr (va_up (va_up (va_up (va_up (va_up (va_up (va_up (va_up (va_up (va_up (va_up (va_up (va_up (va_up (va_up (va_up (va_up (va_up (va_up (va_up (fun _ => none) 0 (some q14)) 1 (some q17)) 2 (some q20)) 3 (some q23)) 4 (some q26)) 5 (some q29)) 6 (some q32)) 7 (some q35)) 8 (some q38)) 9 (some q41)) 10 (some q44)) 11 (some q47)) 12 (some q50)) 13 (some q53)) 14 (some q56)) 15 (some q59)) 16 (some q62)) 17 (some q65)) 18 (some q68)) 19 (some q71))))))), (q74, .inl (cA75, 20, .inl (fun _ => 0)))] := hD
  obtain ⟨hP, hD⟩ := xn_cell (D := (dC, dI)) (ci := 2) (cj := 14) (gs := [.int (-1)]) (ix := ixB) hP hD 0 rfl rfl rfl hN.2.1 ixB_lt (fun k hk => by rcases (show k = 0 by omega) with rfl <;> rfl)
  have hP : va_P (dC, dI) classes [(h0, .inr (14, [.int (-1)])), (q12, .inl (cA13, 20, .inr (.inr (.inr (.inr (va_up (va_up (va_up (va_up (va_up (va_up (va_up (va_up (va_up (va_up (va_up (va_up (va_up (va_up (va_up (va_up (va_up (va_up (va_up (va_up (fun _ => none) 0 (some q14)) 1 (some q17)) 2 (some q20)) 3 (some q23)) 4 (some q26)) 5 (some q29)) 6 (some q32)) 7 (some q35)) 8 (some q38)) 9 (some q41)) 10 (some q44)) 11 (some q47)) 12 (some q50)) 13 (some q53)) 14 (some q56)) 15 (some q59)) 16 (some q62)) 17 (some q65)) 18 (some q68)) 19 (some q71))))))), (q74, .inl (cA75, 20, .inl (fun _ => 0)))] H := hP
  have hD : va_D A [(h0, .inr (14, [.int (-1)])), (q12, .inl (cA13, 20, .inr (.inr (.inr (.inr (va_up (va_up (va_up (va_up (va_up (va_up (va_up (va_up (va_up (va_up (va_up (va_up (va_up (va_up (va_up (va_up (va_up (va_up (va_up (va_up (fun _ => none) 0 (some q14)) 1 (some q17)) 2 (some q20)) 3 (some q23)) 4 (some q26)) 5 (some q29)) 6 (some q32)) 7 (some q35)) 8 (some q38)) 9 (some q41)) 10 (some q44)) 11 (some q47)) 12 (some q50)) 13 (some q53)) 14 (some q56)) 15 (some q59)) 16 (some q62)) 17 (some q65)) 18 (some q68)) 19 (some q71))))))), (q74, .inl (cA75, 20, .inl (fun _ => 0)))] := hD
  have hP9 := hP.sub (ws' := [(h0, .inr (14, [.int (-1)]))]) [0] rfl
  have hD9 := hD.sub (ws' := [(h0, .inr (14, [.int (-1)]))]) [0] (by decide +kernel) rfl
  have hK9 := hK.sub (tys' := []) [] rfl
  exact W.vret hx hb hr (fun t ht9 hW => ⟨⟨(), rfl, trivial, by rw [ht9]; exact hP9, va_K.moved hW.alike hK9, hD9⟩, hS.F ht9⟩) hS.2.2 d_Book_init_101
