theorem d_Scribe_init_0 : decode b_Scribe_init 0 = .ok (.aload_n 0, 1) := by decide +kernel
theorem d_Scribe_init_1 : decode b_Scribe_init 1 = .ok (.invokespecial 3, 3) := by decide +kernel
theorem d_Scribe_init_4 : decode b_Scribe_init 4 = .ok (.aload_n 0, 1) := by decide +kernel
theorem d_Scribe_init_5 : decode b_Scribe_init 5 = .ok (.aload_n 1, 1) := by decide +kernel
theorem d_Scribe_init_6 : decode b_Scribe_init 6 = .ok (.putfield 9, 3) := by decide +kernel
theorem d_Scribe_init_9 : decode b_Scribe_init 9 = .ok (.aload_n 0, 1) := by decide +kernel
theorem d_Scribe_init_10 : decode b_Scribe_init 10 = .ok (.aload_n 2, 1) := by decide +kernel
theorem d_Scribe_init_11 : decode b_Scribe_init 11 = .ok (.putfield 15, 3) := by decide +kernel
theorem d_Scribe_init_14 : decode b_Scribe_init 14 = .ok (.aload_n 0, 1) := by decide +kernel
theorem d_Scribe_init_15 : decode b_Scribe_init 15 = .ok (.new 19, 3) := by decide +kernel
theorem d_Scribe_init_18 : decode b_Scribe_init 18 = .ok (.dup, 1) := by decide +kernel
theorem d_Scribe_init_19 : decode b_Scribe_init 19 = .ok (.sipush 16000, 3) := by decide +kernel
theorem d_Scribe_init_22 : decode b_Scribe_init 22 = .ok (.invokespecial 21, 3) := by decide +kernel
theorem d_Scribe_init_25 : decode b_Scribe_init 25 = .ok (.putfield 24, 3) := by decide +kernel
theorem d_Scribe_init_28 : decode b_Scribe_init 28 = .ok (.aload_n 0, 1) := by decide +kernel
theorem d_Scribe_init_29 : decode b_Scribe_init 29 = .ok (.new 19, 3) := by decide +kernel
theorem d_Scribe_init_32 : decode b_Scribe_init 32 = .ok (.dup, 1) := by decide +kernel
theorem d_Scribe_init_33 : decode b_Scribe_init 33 = .ok (.sipush 6000, 3) := by decide +kernel
theorem d_Scribe_init_36 : decode b_Scribe_init 36 = .ok (.invokespecial 21, 3) := by decide +kernel
theorem d_Scribe_init_39 : decode b_Scribe_init 39 = .ok (.putfield 28, 3) := by decide +kernel
theorem d_Scribe_init_42 : decode b_Scribe_init 42 = .ok (.aload_n 0, 1) := by decide +kernel
theorem d_Scribe_init_43 : decode b_Scribe_init 43 = .ok (.iconst (-1), 1) := by decide +kernel
theorem d_Scribe_init_44 : decode b_Scribe_init 44 = .ok (.putfield 31, 3) := by decide +kernel
theorem d_Scribe_init_47 : decode b_Scribe_init 47 = .ok (.return_, 1) := by decide +kernel
theorem d_Listing_init_0 : decode b_Listing_init 0 = .ok (.aload_n 0, 1) := by decide +kernel
theorem d_Listing_init_1 : decode b_Listing_init 1 = .ok (.invokespecial 3, 3) := by decide +kernel
theorem d_Listing_init_4 : decode b_Listing_init 4 = .ok (.aload_n 0, 1) := by decide +kernel
theorem d_Listing_init_5 : decode b_Listing_init 5 = .ok (.aload_n 1, 1) := by decide +kernel
theorem d_Listing_init_6 : decode b_Listing_init 6 = .ok (.putfield 9, 3) := by decide +kernel
theorem d_Listing_init_9 : decode b_Listing_init 9 = .ok (.aload_n 0, 1) := by decide +kernel
theorem d_Listing_init_10 : decode b_Listing_init 10 = .ok (.aload_n 2, 1) := by decide +kernel
theorem d_Listing_init_11 : decode b_Listing_init 11 = .ok (.putfield 15, 3) := by decide +kernel
theorem d_Listing_init_14 : decode b_Listing_init 14 = .ok (.aload_n 0, 1) := by decide +kernel
theorem d_Listing_init_15 : decode b_Listing_init 15 = .ok (.aload_n 3, 1) := by decide +kernel
theorem d_Listing_init_16 : decode b_Listing_init 16 = .ok (.putfield 19, 3) := by decide +kernel
theorem d_Listing_init_19 : decode b_Listing_init 19 = .ok (.aload_n 0, 1) := by decide +kernel
theorem d_Listing_init_20 : decode b_Listing_init 20 = .ok (.new 23, 3) := by decide +kernel
theorem d_Listing_init_23 : decode b_Listing_init 23 = .ok (.dup, 1) := by decide +kernel
theorem d_Listing_init_24 : decode b_Listing_init 24 = .ok (.sipush 8000, 3) := by decide +kernel
theorem d_Listing_init_27 : decode b_Listing_init 27 = .ok (.invokespecial 27, 3) := by decide +kernel
theorem d_Listing_init_30 : decode b_Listing_init 30 = .ok (.putfield 30, 3) := by decide +kernel
theorem d_Listing_init_33 : decode b_Listing_init 33 = .ok (.aload_n 0, 1) := by decide +kernel
theorem d_Listing_init_34 : decode b_Listing_init 34 = .ok (.bipush 20, 2) := by decide +kernel
theorem d_Listing_init_36 : decode b_Listing_init 36 = .ok (.newarray .int, 2) := by decide +kernel
theorem d_Listing_init_38 : decode b_Listing_init 38 = .ok (.putfield 33, 3) := by decide +kernel
theorem d_Listing_init_41 : decode b_Listing_init 41 = .ok (.aload_n 0, 1) := by decide +kernel
theorem d_Listing_init_42 : decode b_Listing_init 42 = .ok (.bipush 20, 2) := by decide +kernel
theorem d_Listing_init_44 : decode b_Listing_init 44 = .ok (.newarray .int, 2) := by decide +kernel
theorem d_Listing_init_46 : decode b_Listing_init 46 = .ok (.putfield 37, 3) := by decide +kernel
theorem d_Listing_init_49 : decode b_Listing_init 49 = .ok (.aload_n 0, 1) := by decide +kernel
theorem d_Listing_init_50 : decode b_Listing_init 50 = .ok (.bipush 40, 2) := by decide +kernel
theorem d_Listing_init_52 : decode b_Listing_init 52 = .ok (.newarray .int, 2) := by decide +kernel
theorem d_Listing_init_54 : decode b_Listing_init 54 = .ok (.putfield 40, 3) := by decide +kernel
theorem d_Listing_init_57 : decode b_Listing_init 57 = .ok (.aload_n 0, 1) := by decide +kernel
theorem d_Listing_init_58 : decode b_Listing_init 58 = .ok (.bipush 40, 2) := by decide +kernel
theorem d_Listing_init_60 : decode b_Listing_init 60 = .ok (.newarray .int, 2) := by decide +kernel
theorem d_Listing_init_62 : decode b_Listing_init 62 = .ok (.putfield 43, 3) := by decide +kernel
theorem d_Listing_init_65 : decode b_Listing_init 65 = .ok (.aload_n 0, 1) := by decide +kernel
theorem d_Listing_init_66 : decode b_Listing_init 66 = .ok (.bipush 40, 2) := by decide +kernel
theorem d_Listing_init_68 : decode b_Listing_init 68 = .ok (.newarray .int, 2) := by decide +kernel
theorem d_Listing_init_70 : decode b_Listing_init 70 = .ok (.putfield 46, 3) := by decide +kernel
theorem d_Listing_init_73 : decode b_Listing_init 73 = .ok (.aload_n 0, 1) := by decide +kernel
theorem d_Listing_init_74 : decode b_Listing_init 74 = .ok (.new 23, 3) := by decide +kernel
theorem d_Listing_init_77 : decode b_Listing_init 77 = .ok (.dup, 1) := by decide +kernel
theorem d_Listing_init_78 : decode b_Listing_init 78 = .ok (.sipush 3000, 3) := by decide +kernel
theorem d_Listing_init_81 : decode b_Listing_init 81 = .ok (.invokespecial 27, 3) := by decide +kernel
theorem d_Listing_init_84 : decode b_Listing_init 84 = .ok (.putfield 51, 3) := by decide +kernel
theorem d_Listing_init_87 : decode b_Listing_init 87 = .ok (.return_, 1) := by decide +kernel
set_option maxHeartbeats 4000000 in
set_option maxRecDepth 100000 in
/-- Scribe(card, xml) -/
theorem c_Scribe_init (l : Launch) (dC : Nat → ClassId) (dI : Nat → Nat → Nat) (h0 sz a1 a2 : Nat) : Met l y_Scribe_init (Cond.code y_Scribe_init b_Scribe_init 3 none :: xw0) ({ frames := 4, cells := 4, slots := 22006, locals := 100 }) (va_Pc [.ref h0, .ref a1, .ref a2] (fun U => U.heap.size = sz ∧ va_P (dC, dI) classes [(h0, .inr (7, [.null, .null, .null, .null, .null, .int 0, .int 0, .int 0, .int 0]))] U.heap ∧ va_K (dC, dI) classes [] U ∧ va_D (fun _ => True) [(h0, .inr (7, [.null, .null, .null, .null, .null, .int 0, .int 0, .int 0, .int 0]))])) (va_Qv (fun _ : Unit => True) (fun (_ : Unit) (t : State) => ∃ (a1 a2 q1 q4 : Nat) , va_P (dC, dI) classes [(h0, .inr (7, [.ref a1, .ref a2, .ref q1, .ref q4, .null, .int (-1), .int 0, .int 0, .int 0]))] t.heap ∧ va_K (dC, dI) classes [] t ∧ va_D (va_A [(h0, .inr (7, [.null, .null, .null, .null, .null, .int 0, .int 0, .int 0, .int 0]))] sz) [(h0, .inr (7, [.ref a1, .ref a2, .ref q1, .ref q4, .null, .int (-1), .int 0, .int 0, .int 0]))]) (va_A [(h0, .inr (7, [.null, .null, .null, .null, .null, .int 0, .int 0, .int 0, .int 0]))] sz)) 4 22006 (va_A [(h0, .inr (7, [.null, .null, .null, .null, .null, .int 0, .int 0, .int 0, .int 0]))] sz) := by
  refine Met.ofW (cc := b_Scribe_init) (maxL := 3) (ret := none) (by decide) rfl ?_
  intro p e s m args below meth c s₁ B hml hv
  obtain ⟨rfl, hsz, hP, hK, hD0⟩ := hv
  have hx := B.exec
  have hb := B.bytes
  have hr := B.returns
  have hts := atoms_spec (ws := Cond.code y_Scribe_init b_Scribe_init 3 none :: xw0) B.pre
  have ht : ∀ w ∈ xw0, w.before _ s = true := fun w h => hts w (List.mem_cons_of_mem _ h)
  have hown : s.vm.findClass R_Scribe = some m.cls := findClass_of_methodNamed B.named
  have hlocks := B.notSynchronized
  have hin : meth.name = "<init>" := (name_of_methodNamed B.named B.method).1
  subst hsz
  have hD := hD0.self (sz := s.heap.size)
  generalize hAe : va_A [(h0, .inr (7, [.null, .null, .null, .null, .null, .int 0, .int 0, .int 0, .int 0]))] s.heap.size = A at hD ⊢
  have hA : ∀ q : Nat, s.heap.size ≤ q → A q := fun q h => by rw [← hAe]; exact Or.inr h
  have hS : va_S A s.heap s.heap [] := va_S.rf
  have hP : va_P (dC, dI) classes [(h0, .inr (7, [.null, .null, .null, .null, .null, .int 0, .int 0, .int 0, .int 0]))] s.heap := hP
  have hl := lv_entry ([.ref h0, .ref a1, .ref a2]) (n := 3) (Nat.le_of_ble_eq_true rfl)
  rw [lg_entry_eq]
  generalize (lg_sl ([.ref h0, .ref a1, .ref a2]) ++ List.replicate (3 - (lg_sl ([.ref h0, .ref a1, .ref a2])).length) Slot.unset).toArray = ls at hl ⊢
  have hl : lv_has ls 3 [(0, .ref h0), (1, .ref a1), (2, .ref a2)] := hl
  refine lv_aload_n hx hb d_Scribe_init_0 rfl (lv_at hl 0 rfl) ?_
  refine W.objInit hx hb hown (ht _ k_229) (ht _ k_21) (ht _ k_22) rfl (by rw [hml]; exact hl.1) rfl d_Scribe_init_1 (Nat.le_of_ble_eq_true rfl) (Nat.le_of_ble_eq_true rfl) ?_
  refine W.eq (g2 := F0 m 4 ls []) rfl ?_
  refine lv_aload_n hx hb d_Scribe_init_4 rfl (lv_at hl 0 rfl) ?_
  refine lv_aload_n hx hb d_Scribe_init_5 rfl (lv_at hl 1 rfl) ?_
  refine va_putF (D := (dC, dI)) (ci := 7) (v := .ref a1) (ty := .object "AddressHouse$Card") (C := R_Scribe) (T := F_Scribe) (N := 9) hx hb ht i_Scribe t_Scribe t_Scribe_ok n_Scribe hown hK hP hD hS 0 rfl rfl 0 (by decide) (ht _ k_232) (fun _ h9 => h9) rfl hin rfl (by decide +kernel) rfl rfl (Nat.le_of_ble_eq_true rfl) d_Scribe_init_6 (fun H locs hP hD hS => ?_)
  have hP : va_P (dC, dI) classes [(h0, .inr (7, [.ref a1, .null, .null, .null, .null, .int 0, .int 0, .int 0, .int 0]))] H := hP
  have hD : va_D A [(h0, .inr (7, [.ref a1, .null, .null, .null, .null, .int 0, .int 0, .int 0, .int 0]))] := hD
  refine lv_aload_n hx hb d_Scribe_init_9 rfl (lv_at hl 0 rfl) ?_
  refine lv_aload_n hx hb d_Scribe_init_10 rfl (lv_at hl 2 rfl) ?_
  refine va_putF (D := (dC, dI)) (ci := 7) (v := .ref a2) (ty := .object "AddressHouse$Xml") (C := R_Scribe) (T := F_Scribe) (N := 9) hx hb ht i_Scribe t_Scribe t_Scribe_ok n_Scribe hown hK hP hD hS 0 rfl rfl 1 (by decide) (ht _ k_233) (fun _ h9 => h9) rfl hin rfl (by decide +kernel) rfl rfl (Nat.le_of_ble_eq_true rfl) d_Scribe_init_11 (fun H locs hP hD hS => ?_)
  have hP : va_P (dC, dI) classes [(h0, .inr (7, [.ref a1, .ref a2, .null, .null, .null, .int 0, .int 0, .int 0, .int 0]))] H := hP
  have hD : va_D A [(h0, .inr (7, [.ref a1, .ref a2, .null, .null, .null, .int 0, .int 0, .int 0, .int 0]))] := hD
  refine lv_aload_n hx hb d_Scribe_init_14 rfl (lv_at hl 0 rfl) ?_
  refine va_new (ci := 0) (fs := [.null, .int 0, .int 0]) (C := R_Row) (T := F_Row) (N := 3) hx hb ht i_Row t_Row t_Row_ok hown (ht _ k_230) (ht _ k_24) (ht _ k_2) hK hP hD hS hA rfl (fun j hj => by rcases (show j = 0 ∨ j = 1 ∨ j = 2 by omega) with rfl | rfl | rfl <;> rfl) (Nat.le_of_ble_eq_true rfl) (Nat.le_of_ble_eq_true rfl) d_Scribe_init_15 (fun q1 H hP hD hS => ?_)
  refine W.widen (k := 1) (n := 3) (by omega) (by omega) ?_
  have hP : va_P (dC, dI) classes [(h0, .inr (7, [.ref a1, .ref a2, .null, .null, .null, .int 0, .int 0, .int 0, .int 0])), (q1, .inr (0, [.null, .int 0, .int 0]))] H := hP
  have hD : va_D A [(h0, .inr (7, [.ref a1, .ref a2, .null, .null, .null, .int 0, .int 0, .int 0, .int 0])), (q1, .inr (0, [.null, .int 0, .int 0]))] := hD
  refine lv_dup hx hb d_Scribe_init_18 rfl ?_
  refine lv_sipush (v := (nI 16000)) hx hb d_Scribe_init_19 (by decide) ?_
  have hPc := hP.sub (ws' := [(q1, .inr (0, [.null, .int 0, .int 0]))]) [1] rfl
  have hDc := hD.sub (ws' := [(q1, .inr (0, [.null, .int 0, .int 0]))]) [1] (by decide +kernel) rfl
  have hKc := hK.sub (tys' := []) [] rfl
  have hFc := va_free (wc := [(q1, .inr (0, [.null, .int 0, .int 0]))]) hD hS hA [1] rfl
  refine va_callv (va_runI (As := [.int (nI 16000)]) (rest := [.ref q1, .ref h0]) ⟨hx, hb, hml, hown, ht⟩ (c_Row_init l dC dI q1 H.size 16000 (by decide) (by decide)) (cwI 1 ht (xw_good k_27) rfl rfl rfl (ht _ k_2) (ht _ k_231) (ht _ k_26) rfl (by decide +kernel) ⟨(Nat.le_of_ble_eq_true rfl), (Nat.le_of_ble_eq_true rfl)⟩) ⟨fun a U g mk q => by obtain ⟨q0, q1, qP, qK, qD⟩ := q; exact ⟨q0, q1, qP, va_K.moved (u := U) (U := U.calling g mk a) (Vm.Alike.refl U.vm) qK, qD⟩, fun U hU hW => ⟨rfl, by rw [hU], by rw [hU]; exact hPc, va_K.moved hW.alike hKc, hDc.weaken (fun _ _ _ _ => trivial)⟩⟩ rfl rfl hl.1 rfl (lv_room (Nat.le_of_ble_eq_true rfl)) d_Scribe_init_22 ⟨(Nat.le_of_ble_eq_true rfl), (Nat.le_of_ble_eq_true rfl)⟩) hS (fun q _ h => hFc q h) hFc (fun u t H1 locs ht9 hvm hw hB hz1 hk1 hS => ?_)
  obtain ⟨q2, cA3, hP1, hK1, hD1⟩ := hB
  rw [ht9] at hP1
  have hK1 := va_K.moved hvm.symm hK1
  obtain ⟨hP, hD⟩ := va_join (wr := [(h0, .inr (7, [.ref a1, .ref a2, .null, .null, .null, .int 0, .int 0, .int 0, .int 0]))]) (w1 := [(q1, .inr (0, [.ref q2, .int 0, .int 0])), (q2, .inl (cA3, 16000, .inl (fun _ => 0)))]) hP hD [1] [0] rfl rfl (by decide +kernel) (by decide +kernel) hk1 hFc hP1 hD1
  have hK := (hK.sub (tys' := []) [] rfl).app hK1
  generalize H1 = H at hP hS ⊢
  have hP : va_P (dC, dI) classes [(h0, .inr (7, [.ref a1, .ref a2, .null, .null, .null, .int 0, .int 0, .int 0, .int 0])), (q1, .inr (0, [.ref q2, .int 0, .int 0])), (q2, .inl (cA3, 16000, .inl (fun _ => 0)))] H := hP
  have hD : va_D A [(h0, .inr (7, [.ref a1, .ref a2, .null, .null, .null, .int 0, .int 0, .int 0, .int 0])), (q1, .inr (0, [.ref q2, .int 0, .int 0])), (q2, .inl (cA3, 16000, .inl (fun _ => 0)))] := hD
  have hK : va_K (dC, dI) classes [(cA3, .byte)] s := hK
  refine W.widen (k := 2) (n := 16003) (by omega) (by omega) ?_
  refine va_putF (D := (dC, dI)) (ci := 7) (v := .ref q1) (ty := .object "AddressHouse$Row") (C := R_Scribe) (T := F_Scribe) (N := 9) hx hb ht i_Scribe t_Scribe t_Scribe_ok n_Scribe hown hK hP hD hS 0 rfl rfl 2 (by decide) (ht _ k_234) (fun _ h9 => h9) rfl hin rfl (by decide +kernel) rfl rfl (Nat.le_of_ble_eq_true rfl) d_Scribe_init_25 (fun H locs hP hD hS => ?_)
  have hP : va_P (dC, dI) classes [(h0, .inr (7, [.ref a1, .ref a2, .ref q1, .null, .null, .int 0, .int 0, .int 0, .int 0])), (q1, .inr (0, [.ref q2, .int 0, .int 0])), (q2, .inl (cA3, 16000, .inl (fun _ => 0)))] H := hP
  have hD : va_D A [(h0, .inr (7, [.ref a1, .ref a2, .ref q1, .null, .null, .int 0, .int 0, .int 0, .int 0])), (q1, .inr (0, [.ref q2, .int 0, .int 0])), (q2, .inl (cA3, 16000, .inl (fun _ => 0)))] := hD
  refine lv_aload_n hx hb d_Scribe_init_28 rfl (lv_at hl 0 rfl) ?_
  refine va_new (ci := 0) (fs := [.null, .int 0, .int 0]) (C := R_Row) (T := F_Row) (N := 3) hx hb ht i_Row t_Row t_Row_ok hown (ht _ k_230) (ht _ k_24) (ht _ k_2) hK hP hD hS hA rfl (fun j hj => by rcases (show j = 0 ∨ j = 1 ∨ j = 2 by omega) with rfl | rfl | rfl <;> rfl) (Nat.le_of_ble_eq_true rfl) (Nat.le_of_ble_eq_true rfl) d_Scribe_init_29 (fun q4 H hP hD hS => ?_)
  refine W.widen (k := 3) (n := 16006) (by omega) (by omega) ?_
  have hP : va_P (dC, dI) classes [(h0, .inr (7, [.ref a1, .ref a2, .ref q1, .null, .null, .int 0, .int 0, .int 0, .int 0])), (q1, .inr (0, [.ref q2, .int 0, .int 0])), (q2, .inl (cA3, 16000, .inl (fun _ => 0))), (q4, .inr (0, [.null, .int 0, .int 0]))] H := hP
  have hD : va_D A [(h0, .inr (7, [.ref a1, .ref a2, .ref q1, .null, .null, .int 0, .int 0, .int 0, .int 0])), (q1, .inr (0, [.ref q2, .int 0, .int 0])), (q2, .inl (cA3, 16000, .inl (fun _ => 0))), (q4, .inr (0, [.null, .int 0, .int 0]))] := hD
  refine lv_dup hx hb d_Scribe_init_32 rfl ?_
  refine lv_sipush (v := (nI 6000)) hx hb d_Scribe_init_33 (by decide) ?_
  have hPc := hP.sub (ws' := [(q4, .inr (0, [.null, .int 0, .int 0]))]) [3] rfl
  have hDc := hD.sub (ws' := [(q4, .inr (0, [.null, .int 0, .int 0]))]) [3] (by decide +kernel) rfl
  have hKc := hK.sub (tys' := []) [] rfl
  have hFc := va_free (wc := [(q4, .inr (0, [.null, .int 0, .int 0]))]) hD hS hA [3] rfl
  refine va_callv (va_runI (As := [.int (nI 6000)]) (rest := [.ref q4, .ref h0]) ⟨hx, hb, hml, hown, ht⟩ (c_Row_init l dC dI q4 H.size 6000 (by decide) (by decide)) (cwI 1 ht (xw_good k_27) rfl rfl rfl (ht _ k_2) (ht _ k_231) (ht _ k_26) rfl (by decide +kernel) ⟨(Nat.le_of_ble_eq_true rfl), (Nat.le_of_ble_eq_true rfl)⟩) ⟨fun a U g mk q => by obtain ⟨q0, q1, qP, qK, qD⟩ := q; exact ⟨q0, q1, qP, va_K.moved (u := U) (U := U.calling g mk a) (Vm.Alike.refl U.vm) qK, qD⟩, fun U hU hW => ⟨rfl, by rw [hU], by rw [hU]; exact hPc, va_K.moved hW.alike hKc, hDc.weaken (fun _ _ _ _ => trivial)⟩⟩ rfl rfl hl.1 rfl (lv_room (Nat.le_of_ble_eq_true rfl)) d_Scribe_init_36 ⟨(Nat.le_of_ble_eq_true rfl), (Nat.le_of_ble_eq_true rfl)⟩) hS (fun q _ h => hFc q h) hFc (fun u t H1 locs ht9 hvm hw hB hz1 hk1 hS => ?_)
  obtain ⟨q5, cA6, hP1, hK1, hD1⟩ := hB
  rw [ht9] at hP1
  have hK1 := va_K.moved hvm.symm hK1
  obtain ⟨hP, hD⟩ := va_join (wr := [(h0, .inr (7, [.ref a1, .ref a2, .ref q1, .null, .null, .int 0, .int 0, .int 0, .int 0])), (q1, .inr (0, [.ref q2, .int 0, .int 0])), (q2, .inl (cA3, 16000, .inl (fun _ => 0)))]) (w1 := [(q4, .inr (0, [.ref q5, .int 0, .int 0])), (q5, .inl (cA6, 6000, .inl (fun _ => 0)))]) hP hD [3] [0, 1, 2] rfl rfl (by decide +kernel) (by decide +kernel) hk1 hFc hP1 hD1
  have hK := (hK.sub (tys' := [(cA3, .byte)]) [0] rfl).app hK1
  generalize H1 = H at hP hS ⊢
  have hP : va_P (dC, dI) classes [(h0, .inr (7, [.ref a1, .ref a2, .ref q1, .null, .null, .int 0, .int 0, .int 0, .int 0])), (q1, .inr (0, [.ref q2, .int 0, .int 0])), (q2, .inl (cA3, 16000, .inl (fun _ => 0))), (q4, .inr (0, [.ref q5, .int 0, .int 0])), (q5, .inl (cA6, 6000, .inl (fun _ => 0)))] H := hP
  have hD : va_D A [(h0, .inr (7, [.ref a1, .ref a2, .ref q1, .null, .null, .int 0, .int 0, .int 0, .int 0])), (q1, .inr (0, [.ref q2, .int 0, .int 0])), (q2, .inl (cA3, 16000, .inl (fun _ => 0))), (q4, .inr (0, [.ref q5, .int 0, .int 0])), (q5, .inl (cA6, 6000, .inl (fun _ => 0)))] := hD
  have hK : va_K (dC, dI) classes [(cA3, .byte), (cA6, .byte)] s := hK
  refine W.widen (k := 4) (n := 22006) (by omega) (by omega) ?_
  refine va_putF (D := (dC, dI)) (ci := 7) (v := .ref q4) (ty := .object "AddressHouse$Row") (C := R_Scribe) (T := F_Scribe) (N := 9) hx hb ht i_Scribe t_Scribe t_Scribe_ok n_Scribe hown hK hP hD hS 0 rfl rfl 3 (by decide) (ht _ k_235) (fun _ h9 => h9) rfl hin rfl (by decide +kernel) rfl rfl (Nat.le_of_ble_eq_true rfl) d_Scribe_init_39 (fun H locs hP hD hS => ?_)
  have hP : va_P (dC, dI) classes [(h0, .inr (7, [.ref a1, .ref a2, .ref q1, .ref q4, .null, .int 0, .int 0, .int 0, .int 0])), (q1, .inr (0, [.ref q2, .int 0, .int 0])), (q2, .inl (cA3, 16000, .inl (fun _ => 0))), (q4, .inr (0, [.ref q5, .int 0, .int 0])), (q5, .inl (cA6, 6000, .inl (fun _ => 0)))] H := hP
  have hD : va_D A [(h0, .inr (7, [.ref a1, .ref a2, .ref q1, .ref q4, .null, .int 0, .int 0, .int 0, .int 0])), (q1, .inr (0, [.ref q2, .int 0, .int 0])), (q2, .inl (cA3, 16000, .inl (fun _ => 0))), (q4, .inr (0, [.ref q5, .int 0, .int 0])), (q5, .inl (cA6, 6000, .inl (fun _ => 0)))] := hD
  refine lv_aload_n hx hb d_Scribe_init_42 rfl (lv_at hl 0 rfl) ?_
  refine lv_iconst (v := (-1)) hx hb d_Scribe_init_43 (by decide) ?_
  refine va_put (D := (dC, dI)) (ci := 7) (v := .int (-1)) (ty := .int) (C := R_Scribe) (T := F_Scribe) (N := 9) hx hb ht i_Scribe t_Scribe t_Scribe_ok n_Scribe hown hK hP hD hS 0 rfl rfl 5 (by decide) (ht _ k_236) (fun _ h9 => h9) rfl (by decide +kernel) rfl rfl (Nat.le_of_ble_eq_true rfl) d_Scribe_init_44 (fun H locs hP hD hS => ?_)
  have hP : va_P (dC, dI) classes [(h0, .inr (7, [.ref a1, .ref a2, .ref q1, .ref q4, .null, .int (-1), .int 0, .int 0, .int 0])), (q1, .inr (0, [.ref q2, .int 0, .int 0])), (q2, .inl (cA3, 16000, .inl (fun _ => 0))), (q4, .inr (0, [.ref q5, .int 0, .int 0])), (q5, .inl (cA6, 6000, .inl (fun _ => 0)))] H := hP
  have hD : va_D A [(h0, .inr (7, [.ref a1, .ref a2, .ref q1, .ref q4, .null, .int (-1), .int 0, .int 0, .int 0])), (q1, .inr (0, [.ref q2, .int 0, .int 0])), (q2, .inl (cA3, 16000, .inl (fun _ => 0))), (q4, .inr (0, [.ref q5, .int 0, .int 0])), (q5, .inl (cA6, 6000, .inl (fun _ => 0)))] := hD
  have hP9 := hP.sub (ws' := [(h0, .inr (7, [.ref a1, .ref a2, .ref q1, .ref q4, .null, .int (-1), .int 0, .int 0, .int 0]))]) [0] rfl
  have hD9 := hD.sub (ws' := [(h0, .inr (7, [.ref a1, .ref a2, .ref q1, .ref q4, .null, .int (-1), .int 0, .int 0, .int 0]))]) [0] (by decide +kernel) rfl
  have hK9 := hK.sub (tys' := []) [] rfl
  exact W.vret hx hb hr (fun t ht9 hW => ⟨⟨(), rfl, trivial, a1, a2, q1, q4, by rw [ht9]; exact hP9, va_K.moved hW.alike hK9, hD9⟩, hS.F ht9⟩) hS.2.2 d_Scribe_init_47
set_option maxHeartbeats 4000000 in
set_option maxRecDepth 100000 in
/-- Listing(house, xml, body) -/
theorem c_Listing_init (l : Launch) (dC : Nat → ClassId) (dI : Nat → Nat → Nat) (h0 sz a1 a2 a3 : Nat) : Met l y_Listing_init (Cond.code y_Listing_init b_Listing_init 4 none :: xw0) ({ frames := 4, cells := 9, slots := 11166, locals := 100 }) (va_Pc [.ref h0, .ref a1, .ref a2, .ref a3] (fun U => U.heap.size = sz ∧ va_P (dC, dI) classes [(h0, .inr (9, [.null, .null, .int 0, .int 0, .int 0, .null, .null, .int 0, .int 0, .null, .null, .null, .int 0, .null, .null, .null]))] U.heap ∧ va_K (dC, dI) classes [] U ∧ va_D (fun _ => True) [(h0, .inr (9, [.null, .null, .int 0, .int 0, .int 0, .null, .null, .int 0, .int 0, .null, .null, .null, .int 0, .null, .null, .null]))])) (va_Qv (fun _ : Unit => True) (fun (_ : Unit) (t : State) => ∃ (a3 q1 q4 q6 q8 q10 q12 a1 a2 q14 : Nat) , va_P (dC, dI) classes [(h0, .inr (9, [.ref a3, .ref q1, .int 0, .int 0, .int 0, .ref q4, .ref q6, .int 0, .int 0, .ref q8, .ref q10, .ref q12, .int 0, .ref a1, .ref a2, .ref q14]))] t.heap ∧ va_K (dC, dI) classes [] t ∧ va_D (va_A [(h0, .inr (9, [.null, .null, .int 0, .int 0, .int 0, .null, .null, .int 0, .int 0, .null, .null, .null, .int 0, .null, .null, .null]))] sz) [(h0, .inr (9, [.ref a3, .ref q1, .int 0, .int 0, .int 0, .ref q4, .ref q6, .int 0, .int 0, .ref q8, .ref q10, .ref q12, .int 0, .ref a1, .ref a2, .ref q14]))]) (va_A [(h0, .inr (9, [.null, .null, .int 0, .int 0, .int 0, .null, .null, .int 0, .int 0, .null, .null, .null, .int 0, .null, .null, .null]))] sz)) 9 11166 (va_A [(h0, .inr (9, [.null, .null, .int 0, .int 0, .int 0, .null, .null, .int 0, .int 0, .null, .null, .null, .int 0, .null, .null, .null]))] sz) := by
  refine Met.ofW (cc := b_Listing_init) (maxL := 4) (ret := none) (by decide) rfl ?_
  intro p e s m args below meth c s₁ B hml hv
  obtain ⟨rfl, hsz, hP, hK, hD0⟩ := hv
  have hx := B.exec
  have hb := B.bytes
  have hr := B.returns
  have hts := atoms_spec (ws := Cond.code y_Listing_init b_Listing_init 4 none :: xw0) B.pre
  have ht : ∀ w ∈ xw0, w.before _ s = true := fun w h => hts w (List.mem_cons_of_mem _ h)
  have hown : s.vm.findClass R_Listing = some m.cls := findClass_of_methodNamed B.named
  have hlocks := B.notSynchronized
  have hin : meth.name = "<init>" := (name_of_methodNamed B.named B.method).1
  subst hsz
  have hD := hD0.self (sz := s.heap.size)
  generalize hAe : va_A [(h0, .inr (9, [.null, .null, .int 0, .int 0, .int 0, .null, .null, .int 0, .int 0, .null, .null, .null, .int 0, .null, .null, .null]))] s.heap.size = A at hD ⊢
  have hA : ∀ q : Nat, s.heap.size ≤ q → A q := fun q h => by rw [← hAe]; exact Or.inr h
  have hS : va_S A s.heap s.heap [] := va_S.rf
  have hP : va_P (dC, dI) classes [(h0, .inr (9, [.null, .null, .int 0, .int 0, .int 0, .null, .null, .int 0, .int 0, .null, .null, .null, .int 0, .null, .null, .null]))] s.heap := hP
  have hl := lv_entry ([.ref h0, .ref a1, .ref a2, .ref a3]) (n := 4) (Nat.le_of_ble_eq_true rfl)
  rw [lg_entry_eq]
  generalize (lg_sl ([.ref h0, .ref a1, .ref a2, .ref a3]) ++ List.replicate (4 - (lg_sl ([.ref h0, .ref a1, .ref a2, .ref a3])).length) Slot.unset).toArray = ls at hl ⊢
  have hl : lv_has ls 4 [(0, .ref h0), (1, .ref a1), (2, .ref a2), (3, .ref a3)] := hl
  refine lv_aload_n hx hb d_Listing_init_0 rfl (lv_at hl 0 rfl) ?_
  refine W.objInit hx hb hown (ht _ k_253) (ht _ k_21) (ht _ k_22) rfl (by rw [hml]; exact hl.1) rfl d_Listing_init_1 (Nat.le_of_ble_eq_true rfl) (Nat.le_of_ble_eq_true rfl) ?_
  refine W.eq (g2 := F0 m 4 ls []) rfl ?_
  refine lv_aload_n hx hb d_Listing_init_4 rfl (lv_at hl 0 rfl) ?_
  refine lv_aload_n hx hb d_Listing_init_5 rfl (lv_at hl 1 rfl) ?_
  refine va_putF (D := (dC, dI)) (ci := 9) (v := .ref a1) (ty := .object "AddressHouse$House") (C := R_Listing) (T := F_Listing) (N := 16) hx hb ht i_Listing t_Listing t_Listing_ok n_Listing hown hK hP hD hS 0 rfl rfl 13 (by decide) (ht _ k_267) (fun _ h9 => h9) rfl hin rfl (by decide +kernel) rfl rfl (Nat.le_of_ble_eq_true rfl) d_Listing_init_6 (fun H locs hP hD hS => ?_)
  have hP : va_P (dC, dI) classes [(h0, .inr (9, [.null, .null, .int 0, .int 0, .int 0, .null, .null, .int 0, .int 0, .null, .null, .null, .int 0, .ref a1, .null, .null]))] H := hP
  have hD : va_D A [(h0, .inr (9, [.null, .null, .int 0, .int 0, .int 0, .null, .null, .int 0, .int 0, .null, .null, .null, .int 0, .ref a1, .null, .null]))] := hD
  refine lv_aload_n hx hb d_Listing_init_9 rfl (lv_at hl 0 rfl) ?_
  refine lv_aload_n hx hb d_Listing_init_10 rfl (lv_at hl 2 rfl) ?_
  refine va_putF (D := (dC, dI)) (ci := 9) (v := .ref a2) (ty := .object "AddressHouse$Xml") (C := R_Listing) (T := F_Listing) (N := 16) hx hb ht i_Listing t_Listing t_Listing_ok n_Listing hown hK hP hD hS 0 rfl rfl 14 (by decide) (ht _ k_268) (fun _ h9 => h9) rfl hin rfl (by decide +kernel) rfl rfl (Nat.le_of_ble_eq_true rfl) d_Listing_init_11 (fun H locs hP hD hS => ?_)
  have hP : va_P (dC, dI) classes [(h0, .inr (9, [.null, .null, .int 0, .int 0, .int 0, .null, .null, .int 0, .int 0, .null, .null, .null, .int 0, .ref a1, .ref a2, .null]))] H := hP
  have hD : va_D A [(h0, .inr (9, [.null, .null, .int 0, .int 0, .int 0, .null, .null, .int 0, .int 0, .null, .null, .null, .int 0, .ref a1, .ref a2, .null]))] := hD
  refine lv_aload_n hx hb d_Listing_init_14 rfl (lv_at hl 0 rfl) ?_
  refine lv_aload_n hx hb d_Listing_init_15 rfl (lv_at hl 3 rfl) ?_
  refine va_putF (D := (dC, dI)) (ci := 9) (v := .ref a3) (ty := .object "AddressHouse$Row") (C := R_Listing) (T := F_Listing) (N := 16) hx hb ht i_Listing t_Listing t_Listing_ok n_Listing hown hK hP hD hS 0 rfl rfl 0 (by decide) (ht _ k_256) (fun _ h9 => h9) rfl hin rfl (by decide +kernel) rfl rfl (Nat.le_of_ble_eq_true rfl) d_Listing_init_16 (fun H locs hP hD hS => ?_)
  have hP : va_P (dC, dI) classes [(h0, .inr (9, [.ref a3, .null, .int 0, .int 0, .int 0, .null, .null, .int 0, .int 0, .null, .null, .null, .int 0, .ref a1, .ref a2, .null]))] H := hP
  have hD : va_D A [(h0, .inr (9, [.ref a3, .null, .int 0, .int 0, .int 0, .null, .null, .int 0, .int 0, .null, .null, .null, .int 0, .ref a1, .ref a2, .null]))] := hD
  refine lv_aload_n hx hb d_Listing_init_19 rfl (lv_at hl 0 rfl) ?_
  refine va_new (ci := 0) (fs := [.null, .int 0, .int 0]) (C := R_Row) (T := F_Row) (N := 3) hx hb ht i_Row t_Row t_Row_ok hown (ht _ k_254) (ht _ k_24) (ht _ k_2) hK hP hD hS hA rfl (fun j hj => by rcases (show j = 0 ∨ j = 1 ∨ j = 2 by omega) with rfl | rfl | rfl <;> rfl) (Nat.le_of_ble_eq_true rfl) (Nat.le_of_ble_eq_true rfl) d_Listing_init_20 (fun q1 H hP hD hS => ?_)
  refine W.widen (k := 1) (n := 3) (by omega) (by omega) ?_
  have hP : va_P (dC, dI) classes [(h0, .inr (9, [.ref a3, .null, .int 0, .int 0, .int 0, .null, .null, .int 0, .int 0, .null, .null, .null, .int 0, .ref a1, .ref a2, .null])), (q1, .inr (0, [.null, .int 0, .int 0]))] H := hP
  have hD : va_D A [(h0, .inr (9, [.ref a3, .null, .int 0, .int 0, .int 0, .null, .null, .int 0, .int 0, .null, .null, .null, .int 0, .ref a1, .ref a2, .null])), (q1, .inr (0, [.null, .int 0, .int 0]))] := hD
  refine lv_dup hx hb d_Listing_init_23 rfl ?_
  refine lv_sipush (v := (nI 8000)) hx hb d_Listing_init_24 (by decide) ?_
  have hPc := hP.sub (ws' := [(q1, .inr (0, [.null, .int 0, .int 0]))]) [1] rfl
  have hDc := hD.sub (ws' := [(q1, .inr (0, [.null, .int 0, .int 0]))]) [1] (by decide +kernel) rfl
  have hKc := hK.sub (tys' := []) [] rfl
  have hFc := va_free (wc := [(q1, .inr (0, [.null, .int 0, .int 0]))]) hD hS hA [1] rfl
  refine va_callv (va_runI (As := [.int (nI 8000)]) (rest := [.ref q1, .ref h0]) ⟨hx, hb, hml, hown, ht⟩ (c_Row_init l dC dI q1 H.size 8000 (by decide) (by decide)) (cwI 1 ht (xw_good k_27) rfl rfl rfl (ht _ k_2) (ht _ k_255) (ht _ k_26) rfl (by decide +kernel) ⟨(Nat.le_of_ble_eq_true rfl), (Nat.le_of_ble_eq_true rfl)⟩) ⟨fun a U g mk q => by obtain ⟨q0, q1, qP, qK, qD⟩ := q; exact ⟨q0, q1, qP, va_K.moved (u := U) (U := U.calling g mk a) (Vm.Alike.refl U.vm) qK, qD⟩, fun U hU hW => ⟨rfl, by rw [hU], by rw [hU]; exact hPc, va_K.moved hW.alike hKc, hDc.weaken (fun _ _ _ _ => trivial)⟩⟩ rfl rfl hl.1 rfl (lv_room (Nat.le_of_ble_eq_true rfl)) d_Listing_init_27 ⟨(Nat.le_of_ble_eq_true rfl), (Nat.le_of_ble_eq_true rfl)⟩) hS (fun q _ h => hFc q h) hFc (fun u t H1 locs ht9 hvm hw hB hz1 hk1 hS => ?_)
  obtain ⟨q2, cA3, hP1, hK1, hD1⟩ := hB
  rw [ht9] at hP1
  have hK1 := va_K.moved hvm.symm hK1
  obtain ⟨hP, hD⟩ := va_join (wr := [(h0, .inr (9, [.ref a3, .null, .int 0, .int 0, .int 0, .null, .null, .int 0, .int 0, .null, .null, .null, .int 0, .ref a1, .ref a2, .null]))]) (w1 := [(q1, .inr (0, [.ref q2, .int 0, .int 0])), (q2, .inl (cA3, 8000, .inl (fun _ => 0)))]) hP hD [1] [0] rfl rfl (by decide +kernel) (by decide +kernel) hk1 hFc hP1 hD1
  have hK := (hK.sub (tys' := []) [] rfl).app hK1
  generalize H1 = H at hP hS ⊢
  have hP : va_P (dC, dI) classes [(h0, .inr (9, [.ref a3, .null, .int 0, .int 0, .int 0, .null, .null, .int 0, .int 0, .null, .null, .null, .int 0, .ref a1, .ref a2, .null])), (q1, .inr (0, [.ref q2, .int 0, .int 0])), (q2, .inl (cA3, 8000, .inl (fun _ => 0)))] H := hP
  have hD : va_D A [(h0, .inr (9, [.ref a3, .null, .int 0, .int 0, .int 0, .null, .null, .int 0, .int 0, .null, .null, .null, .int 0, .ref a1, .ref a2, .null])), (q1, .inr (0, [.ref q2, .int 0, .int 0])), (q2, .inl (cA3, 8000, .inl (fun _ => 0)))] := hD
  have hK : va_K (dC, dI) classes [(cA3, .byte)] s := hK
  refine W.widen (k := 2) (n := 8003) (by omega) (by omega) ?_
  refine va_putF (D := (dC, dI)) (ci := 9) (v := .ref q1) (ty := .object "AddressHouse$Row") (C := R_Listing) (T := F_Listing) (N := 16) hx hb ht i_Listing t_Listing t_Listing_ok n_Listing hown hK hP hD hS 0 rfl rfl 1 (by decide) (ht _ k_258) (fun _ h9 => h9) rfl hin rfl (by decide +kernel) rfl rfl (Nat.le_of_ble_eq_true rfl) d_Listing_init_30 (fun H locs hP hD hS => ?_)
  have hP : va_P (dC, dI) classes [(h0, .inr (9, [.ref a3, .ref q1, .int 0, .int 0, .int 0, .null, .null, .int 0, .int 0, .null, .null, .null, .int 0, .ref a1, .ref a2, .null])), (q1, .inr (0, [.ref q2, .int 0, .int 0])), (q2, .inl (cA3, 8000, .inl (fun _ => 0)))] H := hP
  have hD : va_D A [(h0, .inr (9, [.ref a3, .ref q1, .int 0, .int 0, .int 0, .null, .null, .int 0, .int 0, .null, .null, .null, .int 0, .ref a1, .ref a2, .null])), (q1, .inr (0, [.ref q2, .int 0, .int 0])), (q2, .inl (cA3, 8000, .inl (fun _ => 0)))] := hD
  refine lv_aload_n hx hb d_Listing_init_33 rfl (lv_at hl 0 rfl) ?_
  refine lv_bipush (v := (nI 20)) hx hb d_Listing_init_34 (by decide) ?_
  refine va_newa (atype := .int) (ty := .int) (a0 := (20, .inl (fun _ => 0))) hx hb (ht _ k_69) rfl hK hP hD hS hA (fun _ => rfl) (nI_pos (by decide)) (nI_clamp (by decide)) (by decide) (Nat.le_of_ble_eq_true rfl) (Nat.le_of_ble_eq_true rfl) d_Listing_init_36 (fun q4 cA5 H hK hP hD hS => ?_)
  refine W.widen (k := 3) (n := 8023) (by omega) (by omega) ?_
  have hP : va_P (dC, dI) classes [(h0, .inr (9, [.ref a3, .ref q1, .int 0, .int 0, .int 0, .null, .null, .int 0, .int 0, .null, .null, .null, .int 0, .ref a1, .ref a2, .null])), (q1, .inr (0, [.ref q2, .int 0, .int 0])), (q2, .inl (cA3, 8000, .inl (fun _ => 0))), (q4, .inl (cA5, 20, .inl (fun _ => 0)))] H := hP
  have hD : va_D A [(h0, .inr (9, [.ref a3, .ref q1, .int 0, .int 0, .int 0, .null, .null, .int 0, .int 0, .null, .null, .null, .int 0, .ref a1, .ref a2, .null])), (q1, .inr (0, [.ref q2, .int 0, .int 0])), (q2, .inl (cA3, 8000, .inl (fun _ => 0))), (q4, .inl (cA5, 20, .inl (fun _ => 0)))] := hD
  have hK : va_K (dC, dI) classes [(cA3, .byte), (cA5, .int)] s := hK
  refine va_putF (D := (dC, dI)) (ci := 9) (v := .ref q4) (ty := .array .int) (C := R_Listing) (T := F_Listing) (N := 16) hx hb ht i_Listing t_Listing t_Listing_ok n_Listing hown hK hP hD hS 0 rfl rfl 5 (by decide) (ht _ k_260) (fun _ h9 => h9) rfl hin rfl (by decide +kernel) rfl rfl (Nat.le_of_ble_eq_true rfl) d_Listing_init_38 (fun H locs hP hD hS => ?_)
  have hP : va_P (dC, dI) classes [(h0, .inr (9, [.ref a3, .ref q1, .int 0, .int 0, .int 0, .ref q4, .null, .int 0, .int 0, .null, .null, .null, .int 0, .ref a1, .ref a2, .null])), (q1, .inr (0, [.ref q2, .int 0, .int 0])), (q2, .inl (cA3, 8000, .inl (fun _ => 0))), (q4, .inl (cA5, 20, .inl (fun _ => 0)))] H := hP
  have hD : va_D A [(h0, .inr (9, [.ref a3, .ref q1, .int 0, .int 0, .int 0, .ref q4, .null, .int 0, .int 0, .null, .null, .null, .int 0, .ref a1, .ref a2, .null])), (q1, .inr (0, [.ref q2, .int 0, .int 0])), (q2, .inl (cA3, 8000, .inl (fun _ => 0))), (q4, .inl (cA5, 20, .inl (fun _ => 0)))] := hD
  refine lv_aload_n hx hb d_Listing_init_41 rfl (lv_at hl 0 rfl) ?_
  refine lv_bipush (v := (nI 20)) hx hb d_Listing_init_42 (by decide) ?_
  refine va_newa (atype := .int) (ty := .int) (a0 := (20, .inl (fun _ => 0))) hx hb (ht _ k_69) rfl hK hP hD hS hA (fun _ => rfl) (nI_pos (by decide)) (nI_clamp (by decide)) (by decide) (Nat.le_of_ble_eq_true rfl) (Nat.le_of_ble_eq_true rfl) d_Listing_init_44 (fun q6 cA7 H hK hP hD hS => ?_)
  refine W.widen (k := 4) (n := 8043) (by omega) (by omega) ?_
  have hP : va_P (dC, dI) classes [(h0, .inr (9, [.ref a3, .ref q1, .int 0, .int 0, .int 0, .ref q4, .null, .int 0, .int 0, .null, .null, .null, .int 0, .ref a1, .ref a2, .null])), (q1, .inr (0, [.ref q2, .int 0, .int 0])), (q2, .inl (cA3, 8000, .inl (fun _ => 0))), (q4, .inl (cA5, 20, .inl (fun _ => 0))), (q6, .inl (cA7, 20, .inl (fun _ => 0)))] H := hP
  have hD : va_D A [(h0, .inr (9, [.ref a3, .ref q1, .int 0, .int 0, .int 0, .ref q4, .null, .int 0, .int 0, .null, .null, .null, .int 0, .ref a1, .ref a2, .null])), (q1, .inr (0, [.ref q2, .int 0, .int 0])), (q2, .inl (cA3, 8000, .inl (fun _ => 0))), (q4, .inl (cA5, 20, .inl (fun _ => 0))), (q6, .inl (cA7, 20, .inl (fun _ => 0)))] := hD
  have hK : va_K (dC, dI) classes [(cA3, .byte), (cA5, .int), (cA7, .int)] s := hK
  refine va_putF (D := (dC, dI)) (ci := 9) (v := .ref q6) (ty := .array .int) (C := R_Listing) (T := F_Listing) (N := 16) hx hb ht i_Listing t_Listing t_Listing_ok n_Listing hown hK hP hD hS 0 rfl rfl 6 (by decide) (ht _ k_261) (fun _ h9 => h9) rfl hin rfl (by decide +kernel) rfl rfl (Nat.le_of_ble_eq_true rfl) d_Listing_init_46 (fun H locs hP hD hS => ?_)
  have hP : va_P (dC, dI) classes [(h0, .inr (9, [.ref a3, .ref q1, .int 0, .int 0, .int 0, .ref q4, .ref q6, .int 0, .int 0, .null, .null, .null, .int 0, .ref a1, .ref a2, .null])), (q1, .inr (0, [.ref q2, .int 0, .int 0])), (q2, .inl (cA3, 8000, .inl (fun _ => 0))), (q4, .inl (cA5, 20, .inl (fun _ => 0))), (q6, .inl (cA7, 20, .inl (fun _ => 0)))] H := hP
  have hD : va_D A [(h0, .inr (9, [.ref a3, .ref q1, .int 0, .int 0, .int 0, .ref q4, .ref q6, .int 0, .int 0, .null, .null, .null, .int 0, .ref a1, .ref a2, .null])), (q1, .inr (0, [.ref q2, .int 0, .int 0])), (q2, .inl (cA3, 8000, .inl (fun _ => 0))), (q4, .inl (cA5, 20, .inl (fun _ => 0))), (q6, .inl (cA7, 20, .inl (fun _ => 0)))] := hD
  refine lv_aload_n hx hb d_Listing_init_49 rfl (lv_at hl 0 rfl) ?_
  refine lv_bipush (v := (nI 40)) hx hb d_Listing_init_50 (by decide) ?_
  refine va_newa (atype := .int) (ty := .int) (a0 := (40, .inl (fun _ => 0))) hx hb (ht _ k_69) rfl hK hP hD hS hA (fun _ => rfl) (nI_pos (by decide)) (nI_clamp (by decide)) (by decide) (Nat.le_of_ble_eq_true rfl) (Nat.le_of_ble_eq_true rfl) d_Listing_init_52 (fun q8 cA9 H hK hP hD hS => ?_)
  refine W.widen (k := 5) (n := 8083) (by omega) (by omega) ?_
  have hP : va_P (dC, dI) classes [(h0, .inr (9, [.ref a3, .ref q1, .int 0, .int 0, .int 0, .ref q4, .ref q6, .int 0, .int 0, .null, .null, .null, .int 0, .ref a1, .ref a2, .null])), (q1, .inr (0, [.ref q2, .int 0, .int 0])), (q2, .inl (cA3, 8000, .inl (fun _ => 0))), (q4, .inl (cA5, 20, .inl (fun _ => 0))), (q6, .inl (cA7, 20, .inl (fun _ => 0))), (q8, .inl (cA9, 40, .inl (fun _ => 0)))] H := hP
  have hD : va_D A [(h0, .inr (9, [.ref a3, .ref q1, .int 0, .int 0, .int 0, .ref q4, .ref q6, .int 0, .int 0, .null, .null, .null, .int 0, .ref a1, .ref a2, .null])), (q1, .inr (0, [.ref q2, .int 0, .int 0])), (q2, .inl (cA3, 8000, .inl (fun _ => 0))), (q4, .inl (cA5, 20, .inl (fun _ => 0))), (q6, .inl (cA7, 20, .inl (fun _ => 0))), (q8, .inl (cA9, 40, .inl (fun _ => 0)))] := hD
  have hK : va_K (dC, dI) classes [(cA3, .byte), (cA5, .int), (cA7, .int), (cA9, .int)] s := hK
  refine va_putF (D := (dC, dI)) (ci := 9) (v := .ref q8) (ty := .array .int) (C := R_Listing) (T := F_Listing) (N := 16) hx hb ht i_Listing t_Listing t_Listing_ok n_Listing hown hK hP hD hS 0 rfl rfl 9 (by decide) (ht _ k_263) (fun _ h9 => h9) rfl hin rfl (by decide +kernel) rfl rfl (Nat.le_of_ble_eq_true rfl) d_Listing_init_54 (fun H locs hP hD hS => ?_)
  have hP : va_P (dC, dI) classes [(h0, .inr (9, [.ref a3, .ref q1, .int 0, .int 0, .int 0, .ref q4, .ref q6, .int 0, .int 0, .ref q8, .null, .null, .int 0, .ref a1, .ref a2, .null])), (q1, .inr (0, [.ref q2, .int 0, .int 0])), (q2, .inl (cA3, 8000, .inl (fun _ => 0))), (q4, .inl (cA5, 20, .inl (fun _ => 0))), (q6, .inl (cA7, 20, .inl (fun _ => 0))), (q8, .inl (cA9, 40, .inl (fun _ => 0)))] H := hP
  have hD : va_D A [(h0, .inr (9, [.ref a3, .ref q1, .int 0, .int 0, .int 0, .ref q4, .ref q6, .int 0, .int 0, .ref q8, .null, .null, .int 0, .ref a1, .ref a2, .null])), (q1, .inr (0, [.ref q2, .int 0, .int 0])), (q2, .inl (cA3, 8000, .inl (fun _ => 0))), (q4, .inl (cA5, 20, .inl (fun _ => 0))), (q6, .inl (cA7, 20, .inl (fun _ => 0))), (q8, .inl (cA9, 40, .inl (fun _ => 0)))] := hD
  refine lv_aload_n hx hb d_Listing_init_57 rfl (lv_at hl 0 rfl) ?_
  refine lv_bipush (v := (nI 40)) hx hb d_Listing_init_58 (by decide) ?_
  refine va_newa (atype := .int) (ty := .int) (a0 := (40, .inl (fun _ => 0))) hx hb (ht _ k_69) rfl hK hP hD hS hA (fun _ => rfl) (nI_pos (by decide)) (nI_clamp (by decide)) (by decide) (Nat.le_of_ble_eq_true rfl) (Nat.le_of_ble_eq_true rfl) d_Listing_init_60 (fun q10 cA11 H hK hP hD hS => ?_)
  refine W.widen (k := 6) (n := 8123) (by omega) (by omega) ?_
  have hP : va_P (dC, dI) classes [(h0, .inr (9, [.ref a3, .ref q1, .int 0, .int 0, .int 0, .ref q4, .ref q6, .int 0, .int 0, .ref q8, .null, .null, .int 0, .ref a1, .ref a2, .null])), (q1, .inr (0, [.ref q2, .int 0, .int 0])), (q2, .inl (cA3, 8000, .inl (fun _ => 0))), (q4, .inl (cA5, 20, .inl (fun _ => 0))), (q6, .inl (cA7, 20, .inl (fun _ => 0))), (q8, .inl (cA9, 40, .inl (fun _ => 0))), (q10, .inl (cA11, 40, .inl (fun _ => 0)))] H := hP
  have hD : va_D A [(h0, .inr (9, [.ref a3, .ref q1, .int 0, .int 0, .int 0, .ref q4, .ref q6, .int 0, .int 0, .ref q8, .null, .null, .int 0, .ref a1, .ref a2, .null])), (q1, .inr (0, [.ref q2, .int 0, .int 0])), (q2, .inl (cA3, 8000, .inl (fun _ => 0))), (q4, .inl (cA5, 20, .inl (fun _ => 0))), (q6, .inl (cA7, 20, .inl (fun _ => 0))), (q8, .inl (cA9, 40, .inl (fun _ => 0))), (q10, .inl (cA11, 40, .inl (fun _ => 0)))] := hD
  have hK : va_K (dC, dI) classes [(cA3, .byte), (cA5, .int), (cA7, .int), (cA9, .int), (cA11, .int)] s := hK
  refine va_putF (D := (dC, dI)) (ci := 9) (v := .ref q10) (ty := .array .int) (C := R_Listing) (T := F_Listing) (N := 16) hx hb ht i_Listing t_Listing t_Listing_ok n_Listing hown hK hP hD hS 0 rfl rfl 10 (by decide) (ht _ k_264) (fun _ h9 => h9) rfl hin rfl (by decide +kernel) rfl rfl (Nat.le_of_ble_eq_true rfl) d_Listing_init_62 (fun H locs hP hD hS => ?_)
  have hP : va_P (dC, dI) classes [(h0, .inr (9, [.ref a3, .ref q1, .int 0, .int 0, .int 0, .ref q4, .ref q6, .int 0, .int 0, .ref q8, .ref q10, .null, .int 0, .ref a1, .ref a2, .null])), (q1, .inr (0, [.ref q2, .int 0, .int 0])), (q2, .inl (cA3, 8000, .inl (fun _ => 0))), (q4, .inl (cA5, 20, .inl (fun _ => 0))), (q6, .inl (cA7, 20, .inl (fun _ => 0))), (q8, .inl (cA9, 40, .inl (fun _ => 0))), (q10, .inl (cA11, 40, .inl (fun _ => 0)))] H := hP
  have hD : va_D A [(h0, .inr (9, [.ref a3, .ref q1, .int 0, .int 0, .int 0, .ref q4, .ref q6, .int 0, .int 0, .ref q8, .ref q10, .null, .int 0, .ref a1, .ref a2, .null])), (q1, .inr (0, [.ref q2, .int 0, .int 0])), (q2, .inl (cA3, 8000, .inl (fun _ => 0))), (q4, .inl (cA5, 20, .inl (fun _ => 0))), (q6, .inl (cA7, 20, .inl (fun _ => 0))), (q8, .inl (cA9, 40, .inl (fun _ => 0))), (q10, .inl (cA11, 40, .inl (fun _ => 0)))] := hD
  refine lv_aload_n hx hb d_Listing_init_65 rfl (lv_at hl 0 rfl) ?_
  refine lv_bipush (v := (nI 40)) hx hb d_Listing_init_66 (by decide) ?_
  refine va_newa (atype := .int) (ty := .int) (a0 := (40, .inl (fun _ => 0))) hx hb (ht _ k_69) rfl hK hP hD hS hA (fun _ => rfl) (nI_pos (by decide)) (nI_clamp (by decide)) (by decide) (Nat.le_of_ble_eq_true rfl) (Nat.le_of_ble_eq_true rfl) d_Listing_init_68 (fun q12 cA13 H hK hP hD hS => ?_)
  refine W.widen (k := 7) (n := 8163) (by omega) (by omega) ?_
  have hP : va_P (dC, dI) classes [(h0, .inr (9, [.ref a3, .ref q1, .int 0, .int 0, .int 0, .ref q4, .ref q6, .int 0, .int 0, .ref q8, .ref q10, .null, .int 0, .ref a1, .ref a2, .null])), (q1, .inr (0, [.ref q2, .int 0, .int 0])), (q2, .inl (cA3, 8000, .inl (fun _ => 0))), (q4, .inl (cA5, 20, .inl (fun _ => 0))), (q6, .inl (cA7, 20, .inl (fun _ => 0))), (q8, .inl (cA9, 40, .inl (fun _ => 0))), (q10, .inl (cA11, 40, .inl (fun _ => 0))), (q12, .inl (cA13, 40, .inl (fun _ => 0)))] H := hP
  have hD : va_D A [(h0, .inr (9, [.ref a3, .ref q1, .int 0, .int 0, .int 0, .ref q4, .ref q6, .int 0, .int 0, .ref q8, .ref q10, .null, .int 0, .ref a1, .ref a2, .null])), (q1, .inr (0, [.ref q2, .int 0, .int 0])), (q2, .inl (cA3, 8000, .inl (fun _ => 0))), (q4, .inl (cA5, 20, .inl (fun _ => 0))), (q6, .inl (cA7, 20, .inl (fun _ => 0))), (q8, .inl (cA9, 40, .inl (fun _ => 0))), (q10, .inl (cA11, 40, .inl (fun _ => 0))), (q12, .inl (cA13, 40, .inl (fun _ => 0)))] := hD
  have hK : va_K (dC, dI) classes [(cA3, .byte), (cA5, .int), (cA7, .int), (cA9, .int), (cA11, .int), (cA13, .int)] s := hK
  refine va_putF (D := (dC, dI)) (ci := 9) (v := .ref q12) (ty := .array .int) (C := R_Listing) (T := F_Listing) (N := 16) hx hb ht i_Listing t_Listing t_Listing_ok n_Listing hown hK hP hD hS 0 rfl rfl 11 (by decide) (ht _ k_265) (fun _ h9 => h9) rfl hin rfl (by decide +kernel) rfl rfl (Nat.le_of_ble_eq_true rfl) d_Listing_init_70 (fun H locs hP hD hS => ?_)
  have hP : va_P (dC, dI) classes [(h0, .inr (9, [.ref a3, .ref q1, .int 0, .int 0, .int 0, .ref q4, .ref q6, .int 0, .int 0, .ref q8, .ref q10, .ref q12, .int 0, .ref a1, .ref a2, .null])), (q1, .inr (0, [.ref q2, .int 0, .int 0])), (q2, .inl (cA3, 8000, .inl (fun _ => 0))), (q4, .inl (cA5, 20, .inl (fun _ => 0))), (q6, .inl (cA7, 20, .inl (fun _ => 0))), (q8, .inl (cA9, 40, .inl (fun _ => 0))), (q10, .inl (cA11, 40, .inl (fun _ => 0))), (q12, .inl (cA13, 40, .inl (fun _ => 0)))] H := hP
  have hD : va_D A [(h0, .inr (9, [.ref a3, .ref q1, .int 0, .int 0, .int 0, .ref q4, .ref q6, .int 0, .int 0, .ref q8, .ref q10, .ref q12, .int 0, .ref a1, .ref a2, .null])), (q1, .inr (0, [.ref q2, .int 0, .int 0])), (q2, .inl (cA3, 8000, .inl (fun _ => 0))), (q4, .inl (cA5, 20, .inl (fun _ => 0))), (q6, .inl (cA7, 20, .inl (fun _ => 0))), (q8, .inl (cA9, 40, .inl (fun _ => 0))), (q10, .inl (cA11, 40, .inl (fun _ => 0))), (q12, .inl (cA13, 40, .inl (fun _ => 0)))] := hD
  refine lv_aload_n hx hb d_Listing_init_73 rfl (lv_at hl 0 rfl) ?_
  refine va_new (ci := 0) (fs := [.null, .int 0, .int 0]) (C := R_Row) (T := F_Row) (N := 3) hx hb ht i_Row t_Row t_Row_ok hown (ht _ k_254) (ht _ k_24) (ht _ k_2) hK hP hD hS hA rfl (fun j hj => by rcases (show j = 0 ∨ j = 1 ∨ j = 2 by omega) with rfl | rfl | rfl <;> rfl) (Nat.le_of_ble_eq_true rfl) (Nat.le_of_ble_eq_true rfl) d_Listing_init_74 (fun q14 H hP hD hS => ?_)
  refine W.widen (k := 8) (n := 8166) (by omega) (by omega) ?_
  have hP : va_P (dC, dI) classes [(h0, .inr (9, [.ref a3, .ref q1, .int 0, .int 0, .int 0, .ref q4, .ref q6, .int 0, .int 0, .ref q8, .ref q10, .ref q12, .int 0, .ref a1, .ref a2, .null])), (q1, .inr (0, [.ref q2, .int 0, .int 0])), (q2, .inl (cA3, 8000, .inl (fun _ => 0))), (q4, .inl (cA5, 20, .inl (fun _ => 0))), (q6, .inl (cA7, 20, .inl (fun _ => 0))), (q8, .inl (cA9, 40, .inl (fun _ => 0))), (q10, .inl (cA11, 40, .inl (fun _ => 0))), (q12, .inl (cA13, 40, .inl (fun _ => 0))), (q14, .inr (0, [.null, .int 0, .int 0]))] H := hP
  have hD : va_D A [(h0, .inr (9, [.ref a3, .ref q1, .int 0, .int 0, .int 0, .ref q4, .ref q6, .int 0, .int 0, .ref q8, .ref q10, .ref q12, .int 0, .ref a1, .ref a2, .null])), (q1, .inr (0, [.ref q2, .int 0, .int 0])), (q2, .inl (cA3, 8000, .inl (fun _ => 0))), (q4, .inl (cA5, 20, .inl (fun _ => 0))), (q6, .inl (cA7, 20, .inl (fun _ => 0))), (q8, .inl (cA9, 40, .inl (fun _ => 0))), (q10, .inl (cA11, 40, .inl (fun _ => 0))), (q12, .inl (cA13, 40, .inl (fun _ => 0))), (q14, .inr (0, [.null, .int 0, .int 0]))] := hD
  refine lv_dup hx hb d_Listing_init_77 rfl ?_
  refine lv_sipush (v := (nI 3000)) hx hb d_Listing_init_78 (by decide) ?_
  have hPc := hP.sub (ws' := [(q14, .inr (0, [.null, .int 0, .int 0]))]) [8] rfl
  have hDc := hD.sub (ws' := [(q14, .inr (0, [.null, .int 0, .int 0]))]) [8] (by decide +kernel) rfl
  have hKc := hK.sub (tys' := []) [] rfl
  have hFc := va_free (wc := [(q14, .inr (0, [.null, .int 0, .int 0]))]) hD hS hA [8] rfl
  refine va_callv (va_runI (As := [.int (nI 3000)]) (rest := [.ref q14, .ref h0]) ⟨hx, hb, hml, hown, ht⟩ (c_Row_init l dC dI q14 H.size 3000 (by decide) (by decide)) (cwI 1 ht (xw_good k_27) rfl rfl rfl (ht _ k_2) (ht _ k_255) (ht _ k_26) rfl (by decide +kernel) ⟨(Nat.le_of_ble_eq_true rfl), (Nat.le_of_ble_eq_true rfl)⟩) ⟨fun a U g mk q => by obtain ⟨q0, q1, qP, qK, qD⟩ := q; exact ⟨q0, q1, qP, va_K.moved (u := U) (U := U.calling g mk a) (Vm.Alike.refl U.vm) qK, qD⟩, fun U hU hW => ⟨rfl, by rw [hU], by rw [hU]; exact hPc, va_K.moved hW.alike hKc, hDc.weaken (fun _ _ _ _ => trivial)⟩⟩ rfl rfl hl.1 rfl (lv_room (Nat.le_of_ble_eq_true rfl)) d_Listing_init_81 ⟨(Nat.le_of_ble_eq_true rfl), (Nat.le_of_ble_eq_true rfl)⟩) hS (fun q _ h => hFc q h) hFc (fun u t H1 locs ht9 hvm hw hB hz1 hk1 hS => ?_)
  obtain ⟨q15, cA16, hP1, hK1, hD1⟩ := hB
  rw [ht9] at hP1
  have hK1 := va_K.moved hvm.symm hK1
  obtain ⟨hP, hD⟩ := va_join (wr := [(h0, .inr (9, [.ref a3, .ref q1, .int 0, .int 0, .int 0, .ref q4, .ref q6, .int 0, .int 0, .ref q8, .ref q10, .ref q12, .int 0, .ref a1, .ref a2, .null])), (q1, .inr (0, [.ref q2, .int 0, .int 0])), (q2, .inl (cA3, 8000, .inl (fun _ => 0))), (q4, .inl (cA5, 20, .inl (fun _ => 0))), (q6, .inl (cA7, 20, .inl (fun _ => 0))), (q8, .inl (cA9, 40, .inl (fun _ => 0))), (q10, .inl (cA11, 40, .inl (fun _ => 0))), (q12, .inl (cA13, 40, .inl (fun _ => 0)))]) (w1 := [(q14, .inr (0, [.ref q15, .int 0, .int 0])), (q15, .inl (cA16, 3000, .inl (fun _ => 0)))]) hP hD [8] [0, 1, 2, 3, 4, 5, 6, 7] rfl rfl (by decide +kernel) (by decide +kernel) hk1 hFc hP1 hD1
  have hK := (hK.sub (tys' := [(cA3, .byte), (cA5, .int), (cA7, .int), (cA9, .int), (cA11, .int), (cA13, .int)]) [0, 1, 2, 3, 4, 5] rfl).app hK1
  generalize H1 = H at hP hS ⊢
  have hP : va_P (dC, dI) classes [(h0, .inr (9, [.ref a3, .ref q1, .int 0, .int 0, .int 0, .ref q4, .ref q6, .int 0, .int 0, .ref q8, .ref q10, .ref q12, .int 0, .ref a1, .ref a2, .null])), (q1, .inr (0, [.ref q2, .int 0, .int 0])), (q2, .inl (cA3, 8000, .inl (fun _ => 0))), (q4, .inl (cA5, 20, .inl (fun _ => 0))), (q6, .inl (cA7, 20, .inl (fun _ => 0))), (q8, .inl (cA9, 40, .inl (fun _ => 0))), (q10, .inl (cA11, 40, .inl (fun _ => 0))), (q12, .inl (cA13, 40, .inl (fun _ => 0))), (q14, .inr (0, [.ref q15, .int 0, .int 0])), (q15, .inl (cA16, 3000, .inl (fun _ => 0)))] H := hP
  have hD : va_D A [(h0, .inr (9, [.ref a3, .ref q1, .int 0, .int 0, .int 0, .ref q4, .ref q6, .int 0, .int 0, .ref q8, .ref q10, .ref q12, .int 0, .ref a1, .ref a2, .null])), (q1, .inr (0, [.ref q2, .int 0, .int 0])), (q2, .inl (cA3, 8000, .inl (fun _ => 0))), (q4, .inl (cA5, 20, .inl (fun _ => 0))), (q6, .inl (cA7, 20, .inl (fun _ => 0))), (q8, .inl (cA9, 40, .inl (fun _ => 0))), (q10, .inl (cA11, 40, .inl (fun _ => 0))), (q12, .inl (cA13, 40, .inl (fun _ => 0))), (q14, .inr (0, [.ref q15, .int 0, .int 0])), (q15, .inl (cA16, 3000, .inl (fun _ => 0)))] := hD
  have hK : va_K (dC, dI) classes [(cA3, .byte), (cA5, .int), (cA7, .int), (cA9, .int), (cA11, .int), (cA13, .int), (cA16, .byte)] s := hK
  refine W.widen (k := 9) (n := 11166) (by omega) (by omega) ?_
  refine va_putF (D := (dC, dI)) (ci := 9) (v := .ref q14) (ty := .object "AddressHouse$Row") (C := R_Listing) (T := F_Listing) (N := 16) hx hb ht i_Listing t_Listing t_Listing_ok n_Listing hown hK hP hD hS 0 rfl rfl 15 (by decide) (ht _ k_269) (fun _ h9 => h9) rfl hin rfl (by decide +kernel) rfl rfl (Nat.le_of_ble_eq_true rfl) d_Listing_init_84 (fun H locs hP hD hS => ?_)
  have hP : va_P (dC, dI) classes [(h0, .inr (9, [.ref a3, .ref q1, .int 0, .int 0, .int 0, .ref q4, .ref q6, .int 0, .int 0, .ref q8, .ref q10, .ref q12, .int 0, .ref a1, .ref a2, .ref q14])), (q1, .inr (0, [.ref q2, .int 0, .int 0])), (q2, .inl (cA3, 8000, .inl (fun _ => 0))), (q4, .inl (cA5, 20, .inl (fun _ => 0))), (q6, .inl (cA7, 20, .inl (fun _ => 0))), (q8, .inl (cA9, 40, .inl (fun _ => 0))), (q10, .inl (cA11, 40, .inl (fun _ => 0))), (q12, .inl (cA13, 40, .inl (fun _ => 0))), (q14, .inr (0, [.ref q15, .int 0, .int 0])), (q15, .inl (cA16, 3000, .inl (fun _ => 0)))] H := hP
  have hD : va_D A [(h0, .inr (9, [.ref a3, .ref q1, .int 0, .int 0, .int 0, .ref q4, .ref q6, .int 0, .int 0, .ref q8, .ref q10, .ref q12, .int 0, .ref a1, .ref a2, .ref q14])), (q1, .inr (0, [.ref q2, .int 0, .int 0])), (q2, .inl (cA3, 8000, .inl (fun _ => 0))), (q4, .inl (cA5, 20, .inl (fun _ => 0))), (q6, .inl (cA7, 20, .inl (fun _ => 0))), (q8, .inl (cA9, 40, .inl (fun _ => 0))), (q10, .inl (cA11, 40, .inl (fun _ => 0))), (q12, .inl (cA13, 40, .inl (fun _ => 0))), (q14, .inr (0, [.ref q15, .int 0, .int 0])), (q15, .inl (cA16, 3000, .inl (fun _ => 0)))] := hD
  have hP9 := hP.sub (ws' := [(h0, .inr (9, [.ref a3, .ref q1, .int 0, .int 0, .int 0, .ref q4, .ref q6, .int 0, .int 0, .ref q8, .ref q10, .ref q12, .int 0, .ref a1, .ref a2, .ref q14]))]) [0] rfl
  have hD9 := hD.sub (ws' := [(h0, .inr (9, [.ref a3, .ref q1, .int 0, .int 0, .int 0, .ref q4, .ref q6, .int 0, .int 0, .ref q8, .ref q10, .ref q12, .int 0, .ref a1, .ref a2, .ref q14]))]) [0] (by decide +kernel) rfl
  have hK9 := hK.sub (tys' := []) [] rfl
  exact W.vret hx hb hr (fun t ht9 hW => ⟨⟨(), rfl, trivial, a3, q1, q4, q6, q8, q10, q12, a1, a2, q14, by rw [ht9]; exact hP9, va_K.moved hW.alike hK9, hD9⟩, hS.F ht9⟩) hS.2.2 d_Listing_init_87
