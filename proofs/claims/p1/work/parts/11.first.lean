def xe (n : Int32) : Int32 := if n < 0 then 0 else if n ≤ 0 then 1 else 0
theorem xh_four {c : Int32} (h1 : ¬ c < 0) (h2 : ¬ nI 4 ≤ c) : ∃ k : Nat, k < 4 ∧ c = nI k := by
  have e1 : 0 ≤ c.toInt := by have := Int32.not_lt.mp h1; exact Int32.le_iff_toInt_le.mp this
  have e2 : c.toInt < 4 := by have := Int32.not_le.mp h2; exact Int32.lt_iff_toInt_lt.mp this
  refine ⟨c.toInt.toNat, by omega, ?_⟩
  apply Int32.toInt_inj.mp
  rw [nI_toInt (by omega)]
  omega
theorem d_Top_feed_0 : decode b_Top_feed 0 = .ok (.aload_n 0, 1) := by decide +kernel
theorem d_Top_feed_1 : decode b_Top_feed 1 = .ok (.getfield 14, 3) := by decide +kernel
theorem d_Top_feed_4 : decode b_Top_feed 4 = .ok (.getfield 78, 3) := by decide +kernel
theorem d_Top_feed_7 : decode b_Top_feed 7 = .ok (.bipush 20, 2) := by decide +kernel
theorem d_Top_feed_9 : decode b_Top_feed 9 = .ok (.iadd, 1) := by decide +kernel
theorem d_Top_feed_10 : decode b_Top_feed 10 = .ok (.sipush 6000, 3) := by decide +kernel
theorem d_Top_feed_13 : decode b_Top_feed 13 = .ok (.if_icmp .le 5, 3) := by decide +kernel
theorem d_Top_feed_18 : decode b_Top_feed 18 = .ok (.aload_n 0, 1) := by decide +kernel
theorem d_Top_feed_19 : decode b_Top_feed 19 = .ok (.getfield 14, 3) := by decide +kernel
theorem d_Top_feed_22 : decode b_Top_feed 22 = .ok (.iload_n 1, 1) := by decide +kernel
theorem d_Top_feed_23 : decode b_Top_feed 23 = .ok (.invokevirtual 82, 3) := by decide +kernel
theorem d_Top_feed_26 : decode b_Top_feed 26 = .ok (.aload_n 0, 1) := by decide +kernel
theorem d_Top_feed_27 : decode b_Top_feed 27 = .ok (.getfield 14, 3) := by decide +kernel
theorem d_Top_feed_30 : decode b_Top_feed 30 = .ok (.iload_n 2, 1) := by decide +kernel
theorem d_Top_feed_31 : decode b_Top_feed 31 = .ok (.invokevirtual 82, 3) := by decide +kernel
theorem d_Top_feed_34 : decode b_Top_feed 34 = .ok (.aload_n 0, 1) := by decide +kernel
theorem d_Top_feed_35 : decode b_Top_feed 35 = .ok (.getfield 14, 3) := by decide +kernel
theorem d_Top_feed_38 : decode b_Top_feed 38 = .ok (.iload_n 3, 1) := by decide +kernel
theorem d_Top_feed_39 : decode b_Top_feed 39 = .ok (.invokevirtual 82, 3) := by decide +kernel
theorem d_Top_feed_42 : decode b_Top_feed 42 = .ok (.aload_n 0, 1) := by decide +kernel
theorem d_Top_feed_43 : decode b_Top_feed 43 = .ok (.getfield 14, 3) := by decide +kernel
theorem d_Top_feed_46 : decode b_Top_feed 46 = .ok (.iload 4, 2) := by decide +kernel
theorem d_Top_feed_48 : decode b_Top_feed 48 = .ok (.invokevirtual 82, 3) := by decide +kernel
theorem d_Top_feed_51 : decode b_Top_feed 51 = .ok (.aload_n 0, 1) := by decide +kernel
theorem d_Top_feed_52 : decode b_Top_feed 52 = .ok (.getfield 14, 3) := by decide +kernel
theorem d_Top_feed_55 : decode b_Top_feed 55 = .ok (.iload 5, 2) := by decide +kernel
theorem d_Top_feed_57 : decode b_Top_feed 57 = .ok (.invokevirtual 82, 3) := by decide +kernel
theorem d_Top_feed_60 : decode b_Top_feed 60 = .ok (.iconst 1, 1) := by decide +kernel
theorem d_Top_feed_61 : decode b_Top_feed 61 = .ok (.ireturn, 1) := by decide +kernel
theorem d_Top_end_0 : decode b_Top_end 0 = .ok (.iload_n 1, 1) := by decide +kernel
theorem d_Top_end_1 : decode b_Top_end 1 = .ok (.ifCond .lt 14, 3) := by decide +kernel
theorem d_Top_end_4 : decode b_Top_end 4 = .ok (.iload_n 1, 1) := by decide +kernel
theorem d_Top_end_5 : decode b_Top_end 5 = .ok (.aload_n 0, 1) := by decide +kernel
theorem d_Top_end_6 : decode b_Top_end 6 = .ok (.getfield 14, 3) := by decide +kernel
theorem d_Top_end_9 : decode b_Top_end 9 = .ok (.getfield 78, 3) := by decide +kernel
theorem d_Top_end_12 : decode b_Top_end 12 = .ok (.if_icmp .le 5, 3) := by decide +kernel
theorem d_Top_end_15 : decode b_Top_end 15 = .ok (.iconst 0, 1) := by decide +kernel
theorem d_Top_end_16 : decode b_Top_end 16 = .ok (.ireturn, 1) := by decide +kernel
theorem d_Top_end_17 : decode b_Top_end 17 = .ok (.aload_n 0, 1) := by decide +kernel
theorem d_Top_end_18 : decode b_Top_end 18 = .ok (.getfield 14, 3) := by decide +kernel
theorem d_Top_end_21 : decode b_Top_end 21 = .ok (.iload_n 1, 1) := by decide +kernel
theorem d_Top_end_22 : decode b_Top_end 22 = .ok (.invokevirtual 85, 3) := by decide +kernel
theorem d_Top_end_25 : decode b_Top_end 25 = .ok (.iconst 1, 1) := by decide +kernel
theorem d_Top_end_26 : decode b_Top_end 26 = .ok (.ireturn, 1) := by decide +kernel
theorem d_Top_user_0 : decode b_Top_user 0 = .ok (.aload_n 0, 1) := by decide +kernel
theorem d_Top_user_1 : decode b_Top_user 1 = .ok (.getfield 32, 3) := by decide +kernel
theorem d_Top_user_4 : decode b_Top_user 4 = .ok (.aload_n 0, 1) := by decide +kernel
theorem d_Top_user_5 : decode b_Top_user 5 = .ok (.getfield 14, 3) := by decide +kernel
theorem d_Top_user_8 : decode b_Top_user 8 = .ok (.invokevirtual 88, 3) := by decide +kernel
theorem d_Top_user_11 : decode b_Top_user 11 = .ok (.istore_n 1, 1) := by decide +kernel
theorem d_Top_user_12 : decode b_Top_user 12 = .ok (.aload_n 0, 1) := by decide +kernel
theorem d_Top_user_13 : decode b_Top_user 13 = .ok (.getfield 14, 3) := by decide +kernel
theorem d_Top_user_16 : decode b_Top_user 16 = .ok (.invokevirtual 92, 3) := by decide +kernel
theorem d_Top_user_19 : decode b_Top_user 19 = .ok (.iload_n 1, 1) := by decide +kernel
theorem d_Top_user_20 : decode b_Top_user 20 = .ok (.ireturn, 1) := by decide +kernel
theorem d_Top_open_0 : decode b_Top_open 0 = .ok (.iconst 0, 1) := by decide +kernel
theorem d_Top_open_1 : decode b_Top_open 1 = .ok (.istore_n 1, 1) := by decide +kernel
theorem d_Top_open_2 : decode b_Top_open 2 = .ok (.iload_n 1, 1) := by decide +kernel
theorem d_Top_open_3 : decode b_Top_open 3 = .ok (.iconst 4, 1) := by decide +kernel
theorem d_Top_open_4 : decode b_Top_open 4 = .ok (.if_icmp .ge 42, 3) := by decide +kernel
theorem d_Top_open_7 : decode b_Top_open 7 = .ok (.aload_n 0, 1) := by decide +kernel
theorem d_Top_open_8 : decode b_Top_open 8 = .ok (.getfield 24, 3) := by decide +kernel
theorem d_Top_open_11 : decode b_Top_open 11 = .ok (.iload_n 1, 1) := by decide +kernel
theorem d_Top_open_12 : decode b_Top_open 12 = .ok (.aaload, 1) := by decide +kernel
theorem d_Top_open_13 : decode b_Top_open 13 = .ok (.getfield 95, 3) := by decide +kernel
theorem d_Top_open_16 : decode b_Top_open 16 = .ok (.ifCond .ne 24, 3) := by decide +kernel
theorem d_Top_open_19 : decode b_Top_open 19 = .ok (.aload_n 0, 1) := by decide +kernel
theorem d_Top_open_20 : decode b_Top_open 20 = .ok (.getfield 24, 3) := by decide +kernel
theorem d_Top_open_23 : decode b_Top_open 23 = .ok (.iload_n 1, 1) := by decide +kernel
theorem d_Top_open_24 : decode b_Top_open 24 = .ok (.aaload, 1) := by decide +kernel
theorem d_Top_open_25 : decode b_Top_open 25 = .ok (.iconst 1, 1) := by decide +kernel
theorem d_Top_open_26 : decode b_Top_open 26 = .ok (.putfield 95, 3) := by decide +kernel
theorem d_Top_open_29 : decode b_Top_open 29 = .ok (.aload_n 0, 1) := by decide +kernel
theorem d_Top_open_30 : decode b_Top_open 30 = .ok (.getfield 24, 3) := by decide +kernel
theorem d_Top_open_33 : decode b_Top_open 33 = .ok (.iload_n 1, 1) := by decide +kernel
theorem d_Top_open_34 : decode b_Top_open 34 = .ok (.aaload, 1) := by decide +kernel
theorem d_Top_open_35 : decode b_Top_open 35 = .ok (.invokevirtual 99, 3) := by decide +kernel
theorem d_Top_open_38 : decode b_Top_open 38 = .ok (.iload_n 1, 1) := by decide +kernel
theorem d_Top_open_39 : decode b_Top_open 39 = .ok (.ireturn, 1) := by decide +kernel
theorem d_Top_isOpen_0 : decode b_Top_isOpen 0 = .ok (.iload_n 1, 1) := by decide +kernel
theorem d_Top_isOpen_1 : decode b_Top_isOpen 1 = .ok (.ifCond .lt 24, 3) := by decide +kernel
theorem d_Top_isOpen_4 : decode b_Top_isOpen 4 = .ok (.iload_n 1, 1) := by decide +kernel
theorem d_Top_isOpen_5 : decode b_Top_isOpen 5 = .ok (.iconst 4, 1) := by decide +kernel
theorem d_Top_isOpen_6 : decode b_Top_isOpen 6 = .ok (.if_icmp .ge 19, 3) := by decide +kernel
theorem d_Top_isOpen_9 : decode b_Top_isOpen 9 = .ok (.aload_n 0, 1) := by decide +kernel
theorem d_Top_isOpen_10 : decode b_Top_isOpen 10 = .ok (.getfield 24, 3) := by decide +kernel
theorem d_Top_isOpen_13 : decode b_Top_isOpen 13 = .ok (.iload_n 1, 1) := by decide +kernel
theorem d_Top_isOpen_14 : decode b_Top_isOpen 14 = .ok (.aaload, 1) := by decide +kernel
theorem d_Top_isOpen_15 : decode b_Top_isOpen 15 = .ok (.getfield 95, 3) := by decide +kernel
theorem d_Top_isOpen_18 : decode b_Top_isOpen 18 = .ok (.ifCond .eq 7, 3) := by decide +kernel
theorem d_Top_isOpen_25 : decode b_Top_isOpen 25 = .ok (.iconst 0, 1) := by decide +kernel
theorem d_Top_isOpen_26 : decode b_Top_isOpen 26 = .ok (.ireturn, 1) := by decide +kernel
theorem d_Top_shut_0 : decode b_Top_shut 0 = .ok (.aload_n 0, 1) := by decide +kernel
theorem d_Top_shut_1 : decode b_Top_shut 1 = .ok (.iload_n 1, 1) := by decide +kernel
theorem d_Top_shut_2 : decode b_Top_shut 2 = .ok (.invokevirtual 102, 3) := by decide +kernel
theorem d_Top_shut_5 : decode b_Top_shut 5 = .ok (.ifCond .ne 5, 3) := by decide +kernel
theorem d_Top_shut_8 : decode b_Top_shut 8 = .ok (.iconst 0, 1) := by decide +kernel
theorem d_Top_shut_9 : decode b_Top_shut 9 = .ok (.ireturn, 1) := by decide +kernel
theorem d_Top_out_0 : decode b_Top_out 0 = .ok (.aload_n 0, 1) := by decide +kernel
theorem d_Top_out_1 : decode b_Top_out 1 = .ok (.getfield 19, 3) := by decide +kernel
theorem d_Top_out_4 : decode b_Top_out 4 = .ok (.getfield 78, 3) := by decide +kernel
theorem d_Top_out_7 : decode b_Top_out 7 = .ok (.ireturn, 1) := by decide +kernel
theorem d_House_addUser_0 : decode b_House_addUser 0 = .ok (.iconst 0, 1) := by decide +kernel
theorem d_House_addUser_1 : decode b_House_addUser 1 = .ok (.istore_n 2, 1) := by decide +kernel
theorem d_House_addUser_2 : decode b_House_addUser 2 = .ok (.iload_n 2, 1) := by decide +kernel
theorem d_House_addUser_3 : decode b_House_addUser 3 = .ok (.aload_n 1, 1) := by decide +kernel
theorem d_House_addUser_4 : decode b_House_addUser 4 = .ok (.getfield 58, 3) := by decide +kernel
theorem d_House_addUser_7 : decode b_House_addUser 7 = .ok (.if_icmp .ge 29, 3) := by decide +kernel
theorem d_House_addUser_36 : decode b_House_addUser 36 = .ok (.aload_n 1, 1) := by decide +kernel
theorem d_House_addUser_37 : decode b_House_addUser 37 = .ok (.getfield 58, 3) := by decide +kernel
theorem d_House_addUser_40 : decode b_House_addUser 40 = .ok (.iload_n 2, 1) := by decide +kernel
theorem d_House_addUser_41 : decode b_House_addUser 41 = .ok (.isub, 1) := by decide +kernel
theorem d_House_addUser_42 : decode b_House_addUser 42 = .ok (.iconst 1, 1) := by decide +kernel
theorem d_House_addUser_43 : decode b_House_addUser 43 = .ok (.isub, 1) := by decide +kernel
theorem d_House_addUser_44 : decode b_House_addUser 44 = .ok (.istore_n 3, 1) := by decide +kernel
theorem d_House_addUser_45 : decode b_House_addUser 45 = .ok (.iload_n 2, 1) := by decide +kernel
theorem d_House_addUser_46 : decode b_House_addUser 46 = .ok (.iconst 1, 1) := by decide +kernel
theorem d_House_addUser_47 : decode b_House_addUser 47 = .ok (.if_icmp .lt 30, 3) := by decide +kernel
theorem d_House_addUser_77 : decode b_House_addUser 77 = .ok (.iconst (-1), 1) := by decide +kernel
theorem d_House_addUser_78 : decode b_House_addUser 78 = .ok (.ireturn, 1) := by decide +kernel
theorem d_Wire_next_0 : decode b_Wire_next 0 = .ok (.aload_n 0, 1) := by decide +kernel
theorem d_Wire_next_1 : decode b_Wire_next 1 = .ok (.getfield 16, 3) := by decide +kernel
theorem d_Wire_next_4 : decode b_Wire_next 4 = .ok (.invokevirtual 30, 3) := by decide +kernel
theorem d_Wire_next_7 : decode b_Wire_next 7 = .ok (.aload_n 0, 1) := by decide +kernel
theorem d_Wire_next_8 : decode b_Wire_next 8 = .ok (.getfield 20, 3) := by decide +kernel
theorem d_Wire_next_11 : decode b_Wire_next 11 = .ok (.invokevirtual 30, 3) := by decide +kernel
theorem d_Wire_next_14 : decode b_Wire_next 14 = .ok (.aload_n 0, 1) := by decide +kernel
theorem d_Wire_next_15 : decode b_Wire_next 15 = .ok (.iconst 0, 1) := by decide +kernel
theorem d_Wire_next_16 : decode b_Wire_next 16 = .ok (.putfield 33, 3) := by decide +kernel
theorem d_Wire_next_19 : decode b_Wire_next 19 = .ok (.return_, 1) := by decide +kernel
set_option maxHeartbeats 4000000 in
set_option maxRecDepth 100000 in
/-- feed on a new object: true -/
theorem c_Top_feed (l : Launch) (dC : Nat → ClassId) (dI : Nat → Nat → Nat) (h0 sz qt qb : Nat) (cA : ClassId) (f : Nat → Int32) (za zb zc zd ze : Int32) (v1 v2 v3 v4 v5 v6 v7 v8 : Value) : Met l y_Top_feed (Cond.code y_Top_feed b_Top_feed 6 (Option.some Jvm.ClassFile.FieldType.boolean) :: xw0) ({ frames := 2, cells := 0, slots := 0, locals := 60 }) (va_Pc [.ref h0, .int za, .int zb, .int zc, .int zd, .int ze] (fun U => U.heap.size = sz ∧ va_P (dC, dI) classes [(h0, .inr (11, [.ref qt, v1, v2, v3, v4, v5, v6, v7, v8])), (qt, .inr (0, [.ref qb, .int 0, .int 0])), (qb, .inl (cA, 6000, .inl f))] U.heap ∧ va_K (dC, dI) classes [(cA, .byte)] U ∧ va_D (fun _ => True) [(h0, .inr (11, [.ref qt, v1, v2, v3, v4, v5, v6, v7, v8])), (qt, .inr (0, [.ref qb, .int 0, .int 0])), (qb, .inl (cA, 6000, .inl f))])) (va_Qi (fun (r : Int32) (_ : Unit) => r = 1) (fun (_ : Unit) (t : State) => va_P (dC, dI) classes [] t.heap ∧ va_K (dC, dI) classes [] t ∧ va_D (va_A [(h0, .inr (11, [.ref qt, v1, v2, v3, v4, v5, v6, v7, v8])), (qt, .inr (0, [.ref qb, .int 0, .int 0])), (qb, .inl (cA, 6000, .inl f))] sz) []) (va_A [(h0, .inr (11, [.ref qt, v1, v2, v3, v4, v5, v6, v7, v8])), (qt, .inr (0, [.ref qb, .int 0, .int 0])), (qb, .inl (cA, 6000, .inl f))] sz)) 0 0 (va_A [(h0, .inr (11, [.ref qt, v1, v2, v3, v4, v5, v6, v7, v8])), (qt, .inr (0, [.ref qb, .int 0, .int 0])), (qb, .inl (cA, 6000, .inl f))] sz) := by
  refine Met.ofW (cc := b_Top_feed) (maxL := 6) (ret := (Option.some Jvm.ClassFile.FieldType.boolean)) (by decide) rfl ?_
  intro p e s m args below meth c s₁ B hml hv
  obtain ⟨rfl, hsz, hP, hK, hD0⟩ := hv
  have hx := B.exec
  have hb := B.bytes
  have hr := B.returns
  have hts := atoms_spec (ws := Cond.code y_Top_feed b_Top_feed 6 (Option.some Jvm.ClassFile.FieldType.boolean) :: xw0) B.pre
  have ht : ∀ w ∈ xw0, w.before _ s = true := fun w h => hts w (List.mem_cons_of_mem _ h)
  have hown : s.vm.findClass R_Top = some m.cls := findClass_of_methodNamed B.named
  have hlocks := B.notSynchronized
  subst hsz
  have hD := hD0.self (sz := s.heap.size)
  generalize hAe : va_A [(h0, .inr (11, [.ref qt, v1, v2, v3, v4, v5, v6, v7, v8])), (qt, .inr (0, [.ref qb, .int 0, .int 0])), (qb, .inl (cA, 6000, .inl f))] s.heap.size = A at hD ⊢
  have hA : ∀ q : Nat, s.heap.size ≤ q → A q := fun q h => by rw [← hAe]; exact Or.inr h
  have hS : va_S A s.heap s.heap [] := va_S.rf
  have hP : va_P (dC, dI) classes [(h0, .inr (11, [.ref qt, v1, v2, v3, v4, v5, v6, v7, v8])), (qt, .inr (0, [.ref qb, .int 0, .int 0])), (qb, .inl (cA, 6000, .inl f))] s.heap := hP
  have hl := lv_entry ([.ref h0, .int za, .int zb, .int zc, .int zd, .int ze]) (n := 6) (Nat.le_of_ble_eq_true rfl)
  rw [lg_entry_eq]
  generalize (lg_sl ([.ref h0, .int za, .int zb, .int zc, .int zd, .int ze]) ++ List.replicate (6 - (lg_sl ([.ref h0, .int za, .int zb, .int zc, .int zd, .int ze])).length) Slot.unset).toArray = ls at hl ⊢
  have hl : lv_has ls 6 [(0, .ref h0), (1, .int za), (2, .int zb), (3, .int zc), (4, .int zd), (5, .int ze)] := hl
  refine lv_aload_n hx hb d_Top_feed_0 rfl (lv_at hl 0 rfl) ?_
  refine va_get (D := (dC, dI)) (ci := 11) (v := .ref qt) (C := R_Top) (T := F_Top) (N := 9) hx hb ht i_Top hown hK hP 0 rfl rfl 0 (by decide) (ht _ k_350) (fun _ h9 => h9) rfl d_Top_feed_1 ?_
  refine va_get (D := (dC, dI)) (ci := 0) (v := .int 0) (C := R_Row) (T := F_Row) (N := 3) hx hb ht i_Row hown hK hP 1 rfl rfl 1 (by decide) (ht _ k_31) (fun _ h9 => h9) rfl d_Top_feed_4 ?_
  refine lv_bipush (v := (nI 20)) hx hb d_Top_feed_7 (by decide) ?_
  refine lv_iadd hx hb d_Top_feed_9 ?_
  refine xw_topn (nI 20) (by decide) ?_
  refine lv_sipush (v := (nI 6000)) hx hb d_Top_feed_10 (by decide) ?_
  refine lv_icmp_le (tgt := 18) hx hb d_Top_feed_13 (by decide) (fun _ => ?_) (fun c_13 => absurd (by decide) c_13)
  refine lv_aload_n hx hb d_Top_feed_18 rfl (lv_at hl 0 rfl) ?_
  refine va_get (D := (dC, dI)) (ci := 11) (v := .ref qt) (C := R_Top) (T := F_Top) (N := 9) hx hb ht i_Top hown hK hP 0 rfl rfl 0 (by decide) (ht _ k_350) (fun _ h9 => h9) rfl d_Top_feed_19 ?_
  refine lv_iload_n hx hb d_Top_feed_22 rfl (lv_at hl 1 rfl) ?_
  have hPc := hP.sub (ws' := [(qt, .inr (0, [.ref qb, .int 0, .int 0])), (qb, .inl (cA, 6000, .inl f))]) [1, 2] rfl
  have hDc := hD.sub (ws' := [(qt, .inr (0, [.ref qb, .int 0, .int 0])), (qb, .inl (cA, 6000, .inl f))]) [1, 2] (by decide +kernel) rfl
  have hKc := hK.sub (tys' := [(cA, .byte)]) [0] rfl
  have hFc := va_free (wc := [(qt, .inr (0, [.ref qb, .int 0, .int 0])), (qb, .inl (cA, 6000, .inl f))]) hD hS hA [1, 2] rfl
  refine va_callv (va_runV (As := [.int za]) (rest := []) ⟨hx, hb, hml, hown, ht⟩ (c_Row_four l dC dI qt s.heap.size qb (0) cA f (.int 0) (by omega) za) ⟨callB_of 1 ht (xw_good k_376) rfl rfl rfl (ht _ k_2) (ht _ k_373) (by decide +kernel) ⟨(Nat.le_of_ble_eq_true rfl), (Nat.le_of_ble_eq_true rfl)⟩, ht _ k_374, ht _ k_375⟩ ⟨fun a U g mk q => by obtain ⟨q0, q1, qP, qK, qD⟩ := q; exact ⟨q0, q1, qP, va_K.moved (u := U) (U := U.calling g mk a) (Vm.Alike.refl U.vm) qK, qD⟩, va_recv hKc hPc (ci := 0) (q0 := 0) rfl rfl, fun U hU hW => ⟨rfl, by rw [hU], by rw [hU]; exact hPc, va_K.moved hW.alike hKc, hDc.weaken (fun _ _ _ _ => trivial)⟩⟩ rfl rfl hl.1 rfl (lv_room (Nat.le_of_ble_eq_true rfl)) d_Top_feed_23 ⟨(Nat.le_of_ble_eq_true rfl), (Nat.le_of_ble_eq_true rfl)⟩) hS (fun q _ h => hFc q h) hFc (fun u t H1 locs ht9 hvm hw hB hz1 hk1 hS => ?_)
  obtain ⟨f1, hP1, hK1, hD1⟩ := hB
  rw [ht9] at hP1
  have hK1 := va_K.moved hvm.symm hK1
  obtain ⟨hP, hD⟩ := va_join (wr := [(h0, .inr (11, [.ref qt, v1, v2, v3, v4, v5, v6, v7, v8]))]) (w1 := [(qt, .inr (0, [.ref qb, .int (nI (0 + 1 + 1 + 1 + 1)), .int 0])), (qb, .inl (cA, 6000, .inl f1))]) hP hD [1, 2] [0] rfl rfl (by decide +kernel) (by decide +kernel) hk1 hFc hP1 hD1
  have hK := (hK.sub (tys' := []) [] rfl).app hK1
  generalize H1 = H at hP hS ⊢
  have hP : va_P (dC, dI) classes [(h0, .inr (11, [.ref qt, v1, v2, v3, v4, v5, v6, v7, v8])), (qt, .inr (0, [.ref qb, .int (nI (0 + 1 + 1 + 1 + 1)), .int 0])), (qb, .inl (cA, 6000, .inl f1))] H := hP
  have hD : va_D A [(h0, .inr (11, [.ref qt, v1, v2, v3, v4, v5, v6, v7, v8])), (qt, .inr (0, [.ref qb, .int (nI (0 + 1 + 1 + 1 + 1)), .int 0])), (qb, .inl (cA, 6000, .inl f1))] := hD
  have hK : va_K (dC, dI) classes [(cA, .byte)] s := hK
  refine W.widen (k := 0) (n := 0) (by omega) (by omega) ?_
  refine lv_aload_n hx hb d_Top_feed_26 rfl (lv_at hl 0 rfl) ?_
  refine va_get (D := (dC, dI)) (ci := 11) (v := .ref qt) (C := R_Top) (T := F_Top) (N := 9) hx hb ht i_Top hown hK hP 0 rfl rfl 0 (by decide) (ht _ k_350) (fun _ h9 => h9) rfl d_Top_feed_27 ?_
  refine lv_iload_n hx hb d_Top_feed_30 rfl (lv_at hl 2 rfl) ?_
  have hPc := hP.sub (ws' := [(qt, .inr (0, [.ref qb, .int (nI (0 + 1 + 1 + 1 + 1)), .int 0])), (qb, .inl (cA, 6000, .inl f1))]) [1, 2] rfl
  have hDc := hD.sub (ws' := [(qt, .inr (0, [.ref qb, .int (nI (0 + 1 + 1 + 1 + 1)), .int 0])), (qb, .inl (cA, 6000, .inl f1))]) [1, 2] (by decide +kernel) rfl
  have hKc := hK.sub (tys' := [(cA, .byte)]) [0] rfl
  have hFc := va_free (wc := [(qt, .inr (0, [.ref qb, .int (nI (0 + 1 + 1 + 1 + 1)), .int 0])), (qb, .inl (cA, 6000, .inl f1))]) hD hS hA [1, 2] rfl
  refine va_callv (va_runV (As := [.int zb]) (rest := []) ⟨hx, hb, hml, hown, ht⟩ (c_Row_four l dC dI qt H.size qb ((0 + 1 + 1 + 1 + 1)) cA f1 (.int 0) (by omega) zb) ⟨callB_of 1 ht (xw_good k_376) rfl rfl rfl (ht _ k_2) (ht _ k_373) (by decide +kernel) ⟨(Nat.le_of_ble_eq_true rfl), (Nat.le_of_ble_eq_true rfl)⟩, ht _ k_374, ht _ k_375⟩ ⟨fun a U g mk q => by obtain ⟨q0, q1, qP, qK, qD⟩ := q; exact ⟨q0, q1, qP, va_K.moved (u := U) (U := U.calling g mk a) (Vm.Alike.refl U.vm) qK, qD⟩, va_recv hKc hPc (ci := 0) (q0 := 0) rfl rfl, fun U hU hW => ⟨rfl, by rw [hU], by rw [hU]; exact hPc, va_K.moved hW.alike hKc, hDc.weaken (fun _ _ _ _ => trivial)⟩⟩ rfl rfl hl.1 rfl (lv_room (Nat.le_of_ble_eq_true rfl)) d_Top_feed_31 ⟨(Nat.le_of_ble_eq_true rfl), (Nat.le_of_ble_eq_true rfl)⟩) hS (fun q _ h => hFc q h) hFc (fun u t H1 locs ht9 hvm hw hB hz1 hk1 hS => ?_)
  obtain ⟨f2, hP1, hK1, hD1⟩ := hB
  rw [ht9] at hP1
  have hK1 := va_K.moved hvm.symm hK1
  obtain ⟨hP, hD⟩ := va_join (wr := [(h0, .inr (11, [.ref qt, v1, v2, v3, v4, v5, v6, v7, v8]))]) (w1 := [(qt, .inr (0, [.ref qb, .int (nI ((0 + 1 + 1 + 1 + 1) + 1 + 1 + 1 + 1)), .int 0])), (qb, .inl (cA, 6000, .inl f2))]) hP hD [1, 2] [0] rfl rfl (by decide +kernel) (by decide +kernel) hk1 hFc hP1 hD1
  have hK := (hK.sub (tys' := []) [] rfl).app hK1
  generalize H1 = H at hP hS ⊢
  have hP : va_P (dC, dI) classes [(h0, .inr (11, [.ref qt, v1, v2, v3, v4, v5, v6, v7, v8])), (qt, .inr (0, [.ref qb, .int (nI ((0 + 1 + 1 + 1 + 1) + 1 + 1 + 1 + 1)), .int 0])), (qb, .inl (cA, 6000, .inl f2))] H := hP
  have hD : va_D A [(h0, .inr (11, [.ref qt, v1, v2, v3, v4, v5, v6, v7, v8])), (qt, .inr (0, [.ref qb, .int (nI ((0 + 1 + 1 + 1 + 1) + 1 + 1 + 1 + 1)), .int 0])), (qb, .inl (cA, 6000, .inl f2))] := hD
  have hK : va_K (dC, dI) classes [(cA, .byte)] s := hK
  refine W.widen (k := 0) (n := 0) (by omega) (by omega) ?_
  refine lv_aload_n hx hb d_Top_feed_34 rfl (lv_at hl 0 rfl) ?_
  refine va_get (D := (dC, dI)) (ci := 11) (v := .ref qt) (C := R_Top) (T := F_Top) (N := 9) hx hb ht i_Top hown hK hP 0 rfl rfl 0 (by decide) (ht _ k_350) (fun _ h9 => h9) rfl d_Top_feed_35 ?_
  refine lv_iload_n hx hb d_Top_feed_38 rfl (lv_at hl 3 rfl) ?_
  have hPc := hP.sub (ws' := [(qt, .inr (0, [.ref qb, .int (nI ((0 + 1 + 1 + 1 + 1) + 1 + 1 + 1 + 1)), .int 0])), (qb, .inl (cA, 6000, .inl f2))]) [1, 2] rfl
  have hDc := hD.sub (ws' := [(qt, .inr (0, [.ref qb, .int (nI ((0 + 1 + 1 + 1 + 1) + 1 + 1 + 1 + 1)), .int 0])), (qb, .inl (cA, 6000, .inl f2))]) [1, 2] (by decide +kernel) rfl
  have hKc := hK.sub (tys' := [(cA, .byte)]) [0] rfl
  have hFc := va_free (wc := [(qt, .inr (0, [.ref qb, .int (nI ((0 + 1 + 1 + 1 + 1) + 1 + 1 + 1 + 1)), .int 0])), (qb, .inl (cA, 6000, .inl f2))]) hD hS hA [1, 2] rfl
  refine va_callv (va_runV (As := [.int zc]) (rest := []) ⟨hx, hb, hml, hown, ht⟩ (c_Row_four l dC dI qt H.size qb (((0 + 1 + 1 + 1 + 1) + 1 + 1 + 1 + 1)) cA f2 (.int 0) (by omega) zc) ⟨callB_of 1 ht (xw_good k_376) rfl rfl rfl (ht _ k_2) (ht _ k_373) (by decide +kernel) ⟨(Nat.le_of_ble_eq_true rfl), (Nat.le_of_ble_eq_true rfl)⟩, ht _ k_374, ht _ k_375⟩ ⟨fun a U g mk q => by obtain ⟨q0, q1, qP, qK, qD⟩ := q; exact ⟨q0, q1, qP, va_K.moved (u := U) (U := U.calling g mk a) (Vm.Alike.refl U.vm) qK, qD⟩, va_recv hKc hPc (ci := 0) (q0 := 0) rfl rfl, fun U hU hW => ⟨rfl, by rw [hU], by rw [hU]; exact hPc, va_K.moved hW.alike hKc, hDc.weaken (fun _ _ _ _ => trivial)⟩⟩ rfl rfl hl.1 rfl (lv_room (Nat.le_of_ble_eq_true rfl)) d_Top_feed_39 ⟨(Nat.le_of_ble_eq_true rfl), (Nat.le_of_ble_eq_true rfl)⟩) hS (fun q _ h => hFc q h) hFc (fun u t H1 locs ht9 hvm hw hB hz1 hk1 hS => ?_)
  obtain ⟨f3, hP1, hK1, hD1⟩ := hB
  rw [ht9] at hP1
  have hK1 := va_K.moved hvm.symm hK1
  obtain ⟨hP, hD⟩ := va_join (wr := [(h0, .inr (11, [.ref qt, v1, v2, v3, v4, v5, v6, v7, v8]))]) (w1 := [(qt, .inr (0, [.ref qb, .int (nI (((0 + 1 + 1 + 1 + 1) + 1 + 1 + 1 + 1) + 1 + 1 + 1 + 1)), .int 0])), (qb, .inl (cA, 6000, .inl f3))]) hP hD [1, 2] [0] rfl rfl (by decide +kernel) (by decide +kernel) hk1 hFc hP1 hD1
  have hK := (hK.sub (tys' := []) [] rfl).app hK1
  generalize H1 = H at hP hS ⊢
  have hP : va_P (dC, dI) classes [(h0, .inr (11, [.ref qt, v1, v2, v3, v4, v5, v6, v7, v8])), (qt, .inr (0, [.ref qb, .int (nI (((0 + 1 + 1 + 1 + 1) + 1 + 1 + 1 + 1) + 1 + 1 + 1 + 1)), .int 0])), (qb, .inl (cA, 6000, .inl f3))] H := hP
  have hD : va_D A [(h0, .inr (11, [.ref qt, v1, v2, v3, v4, v5, v6, v7, v8])), (qt, .inr (0, [.ref qb, .int (nI (((0 + 1 + 1 + 1 + 1) + 1 + 1 + 1 + 1) + 1 + 1 + 1 + 1)), .int 0])), (qb, .inl (cA, 6000, .inl f3))] := hD
  have hK : va_K (dC, dI) classes [(cA, .byte)] s := hK
  refine W.widen (k := 0) (n := 0) (by omega) (by omega) ?_
  refine lv_aload_n hx hb d_Top_feed_42 rfl (lv_at hl 0 rfl) ?_
  refine va_get (D := (dC, dI)) (ci := 11) (v := .ref qt) (C := R_Top) (T := F_Top) (N := 9) hx hb ht i_Top hown hK hP 0 rfl rfl 0 (by decide) (ht _ k_350) (fun _ h9 => h9) rfl d_Top_feed_43 ?_
  refine lv_iload hx hb d_Top_feed_46 (lv_at hl 4 rfl) ?_
  have hPc := hP.sub (ws' := [(qt, .inr (0, [.ref qb, .int (nI (((0 + 1 + 1 + 1 + 1) + 1 + 1 + 1 + 1) + 1 + 1 + 1 + 1)), .int 0])), (qb, .inl (cA, 6000, .inl f3))]) [1, 2] rfl
  have hDc := hD.sub (ws' := [(qt, .inr (0, [.ref qb, .int (nI (((0 + 1 + 1 + 1 + 1) + 1 + 1 + 1 + 1) + 1 + 1 + 1 + 1)), .int 0])), (qb, .inl (cA, 6000, .inl f3))]) [1, 2] (by decide +kernel) rfl
  have hKc := hK.sub (tys' := [(cA, .byte)]) [0] rfl
  have hFc := va_free (wc := [(qt, .inr (0, [.ref qb, .int (nI (((0 + 1 + 1 + 1 + 1) + 1 + 1 + 1 + 1) + 1 + 1 + 1 + 1)), .int 0])), (qb, .inl (cA, 6000, .inl f3))]) hD hS hA [1, 2] rfl
  refine va_callv (va_runV (As := [.int zd]) (rest := []) ⟨hx, hb, hml, hown, ht⟩ (c_Row_four l dC dI qt H.size qb ((((0 + 1 + 1 + 1 + 1) + 1 + 1 + 1 + 1) + 1 + 1 + 1 + 1)) cA f3 (.int 0) (by omega) zd) ⟨callB_of 1 ht (xw_good k_376) rfl rfl rfl (ht _ k_2) (ht _ k_373) (by decide +kernel) ⟨(Nat.le_of_ble_eq_true rfl), (Nat.le_of_ble_eq_true rfl)⟩, ht _ k_374, ht _ k_375⟩ ⟨fun a U g mk q => by obtain ⟨q0, q1, qP, qK, qD⟩ := q; exact ⟨q0, q1, qP, va_K.moved (u := U) (U := U.calling g mk a) (Vm.Alike.refl U.vm) qK, qD⟩, va_recv hKc hPc (ci := 0) (q0 := 0) rfl rfl, fun U hU hW => ⟨rfl, by rw [hU], by rw [hU]; exact hPc, va_K.moved hW.alike hKc, hDc.weaken (fun _ _ _ _ => trivial)⟩⟩ rfl rfl hl.1 rfl (lv_room (Nat.le_of_ble_eq_true rfl)) d_Top_feed_48 ⟨(Nat.le_of_ble_eq_true rfl), (Nat.le_of_ble_eq_true rfl)⟩) hS (fun q _ h => hFc q h) hFc (fun u t H1 locs ht9 hvm hw hB hz1 hk1 hS => ?_)
  obtain ⟨f4, hP1, hK1, hD1⟩ := hB
  rw [ht9] at hP1
  have hK1 := va_K.moved hvm.symm hK1
  obtain ⟨hP, hD⟩ := va_join (wr := [(h0, .inr (11, [.ref qt, v1, v2, v3, v4, v5, v6, v7, v8]))]) (w1 := [(qt, .inr (0, [.ref qb, .int (nI ((((0 + 1 + 1 + 1 + 1) + 1 + 1 + 1 + 1) + 1 + 1 + 1 + 1) + 1 + 1 + 1 + 1)), .int 0])), (qb, .inl (cA, 6000, .inl f4))]) hP hD [1, 2] [0] rfl rfl (by decide +kernel) (by decide +kernel) hk1 hFc hP1 hD1
  have hK := (hK.sub (tys' := []) [] rfl).app hK1
  generalize H1 = H at hP hS ⊢
  have hP : va_P (dC, dI) classes [(h0, .inr (11, [.ref qt, v1, v2, v3, v4, v5, v6, v7, v8])), (qt, .inr (0, [.ref qb, .int (nI ((((0 + 1 + 1 + 1 + 1) + 1 + 1 + 1 + 1) + 1 + 1 + 1 + 1) + 1 + 1 + 1 + 1)), .int 0])), (qb, .inl (cA, 6000, .inl f4))] H := hP
  have hD : va_D A [(h0, .inr (11, [.ref qt, v1, v2, v3, v4, v5, v6, v7, v8])), (qt, .inr (0, [.ref qb, .int (nI ((((0 + 1 + 1 + 1 + 1) + 1 + 1 + 1 + 1) + 1 + 1 + 1 + 1) + 1 + 1 + 1 + 1)), .int 0])), (qb, .inl (cA, 6000, .inl f4))] := hD
  have hK : va_K (dC, dI) classes [(cA, .byte)] s := hK
  refine W.widen (k := 0) (n := 0) (by omega) (by omega) ?_
  refine lv_aload_n hx hb d_Top_feed_51 rfl (lv_at hl 0 rfl) ?_
  refine va_get (D := (dC, dI)) (ci := 11) (v := .ref qt) (C := R_Top) (T := F_Top) (N := 9) hx hb ht i_Top hown hK hP 0 rfl rfl 0 (by decide) (ht _ k_350) (fun _ h9 => h9) rfl d_Top_feed_52 ?_
  refine lv_iload hx hb d_Top_feed_55 (lv_at hl 5 rfl) ?_
  have hPc := hP.sub (ws' := [(qt, .inr (0, [.ref qb, .int (nI ((((0 + 1 + 1 + 1 + 1) + 1 + 1 + 1 + 1) + 1 + 1 + 1 + 1) + 1 + 1 + 1 + 1)), .int 0])), (qb, .inl (cA, 6000, .inl f4))]) [1, 2] rfl
  have hDc := hD.sub (ws' := [(qt, .inr (0, [.ref qb, .int (nI ((((0 + 1 + 1 + 1 + 1) + 1 + 1 + 1 + 1) + 1 + 1 + 1 + 1) + 1 + 1 + 1 + 1)), .int 0])), (qb, .inl (cA, 6000, .inl f4))]) [1, 2] (by decide +kernel) rfl
  have hKc := hK.sub (tys' := [(cA, .byte)]) [0] rfl
  have hFc := va_free (wc := [(qt, .inr (0, [.ref qb, .int (nI ((((0 + 1 + 1 + 1 + 1) + 1 + 1 + 1 + 1) + 1 + 1 + 1 + 1) + 1 + 1 + 1 + 1)), .int 0])), (qb, .inl (cA, 6000, .inl f4))]) hD hS hA [1, 2] rfl
  refine va_callv (va_runV (As := [.int ze]) (rest := []) ⟨hx, hb, hml, hown, ht⟩ (c_Row_four l dC dI qt H.size qb (((((0 + 1 + 1 + 1 + 1) + 1 + 1 + 1 + 1) + 1 + 1 + 1 + 1) + 1 + 1 + 1 + 1)) cA f4 (.int 0) (by omega) ze) ⟨callB_of 1 ht (xw_good k_376) rfl rfl rfl (ht _ k_2) (ht _ k_373) (by decide +kernel) ⟨(Nat.le_of_ble_eq_true rfl), (Nat.le_of_ble_eq_true rfl)⟩, ht _ k_374, ht _ k_375⟩ ⟨fun a U g mk q => by obtain ⟨q0, q1, qP, qK, qD⟩ := q; exact ⟨q0, q1, qP, va_K.moved (u := U) (U := U.calling g mk a) (Vm.Alike.refl U.vm) qK, qD⟩, va_recv hKc hPc (ci := 0) (q0 := 0) rfl rfl, fun U hU hW => ⟨rfl, by rw [hU], by rw [hU]; exact hPc, va_K.moved hW.alike hKc, hDc.weaken (fun _ _ _ _ => trivial)⟩⟩ rfl rfl hl.1 rfl (lv_room (Nat.le_of_ble_eq_true rfl)) d_Top_feed_57 ⟨(Nat.le_of_ble_eq_true rfl), (Nat.le_of_ble_eq_true rfl)⟩) hS (fun q _ h => hFc q h) hFc (fun u t H1 locs ht9 hvm hw hB hz1 hk1 hS => ?_)
  obtain ⟨f5, hP1, hK1, hD1⟩ := hB
  rw [ht9] at hP1
  have hK1 := va_K.moved hvm.symm hK1
  obtain ⟨hP, hD⟩ := va_join (wr := [(h0, .inr (11, [.ref qt, v1, v2, v3, v4, v5, v6, v7, v8]))]) (w1 := [(qt, .inr (0, [.ref qb, .int (nI (((((0 + 1 + 1 + 1 + 1) + 1 + 1 + 1 + 1) + 1 + 1 + 1 + 1) + 1 + 1 + 1 + 1) + 1 + 1 + 1 + 1)), .int 0])), (qb, .inl (cA, 6000, .inl f5))]) hP hD [1, 2] [0] rfl rfl (by decide +kernel) (by decide +kernel) hk1 hFc hP1 hD1
  have hK := (hK.sub (tys' := []) [] rfl).app hK1
  generalize H1 = H at hP hS ⊢
  have hP : va_P (dC, dI) classes [(h0, .inr (11, [.ref qt, v1, v2, v3, v4, v5, v6, v7, v8])), (qt, .inr (0, [.ref qb, .int (nI (((((0 + 1 + 1 + 1 + 1) + 1 + 1 + 1 + 1) + 1 + 1 + 1 + 1) + 1 + 1 + 1 + 1) + 1 + 1 + 1 + 1)), .int 0])), (qb, .inl (cA, 6000, .inl f5))] H := hP
  have hD : va_D A [(h0, .inr (11, [.ref qt, v1, v2, v3, v4, v5, v6, v7, v8])), (qt, .inr (0, [.ref qb, .int (nI (((((0 + 1 + 1 + 1 + 1) + 1 + 1 + 1 + 1) + 1 + 1 + 1 + 1) + 1 + 1 + 1 + 1) + 1 + 1 + 1 + 1)), .int 0])), (qb, .inl (cA, 6000, .inl f5))] := hD
  have hK : va_K (dC, dI) classes [(cA, .byte)] s := hK
  refine W.widen (k := 0) (n := 0) (by omega) (by omega) ?_
  refine lv_iconst (v := (nI 1)) hx hb d_Top_feed_60 (by decide) ?_
  have hP9 := hP.sub (ws' := []) [] rfl
  have hD9 := hD.sub (ws' := []) [] (by decide +kernel) rfl
  have hK9 := hK.sub (tys' := []) [] rfl
  exact W.zret (ty := .boolean) hx hb hr rfl (fun t ht9 hW => ⟨⟨(nI 1), (), rfl, rfl, by rw [ht9]; exact hP9, va_K.moved hW.alike hK9, hD9⟩, hS.F ht9⟩) hS.2.2 d_Top_feed_61
set_option maxHeartbeats 4000000 in
set_option maxRecDepth 100000 in
/-- end(n) on a new object -/
theorem c_Top_end (l : Launch) (dC : Nat → ClassId) (dI : Nat → Nat → Nat) (h0 sz qt : Nat) (vb : Value) (n : Int32) (v1 v2 v3 v4 v5 v6 v7 v8 : Value) : Met l y_Top_end (Cond.code y_Top_end b_Top_end 2 (Option.some Jvm.ClassFile.FieldType.boolean) :: xw0) ({ frames := 1, cells := 0, slots := 0, locals := 30 }) (va_Pc [.ref h0, .int n] (fun U => U.heap.size = sz ∧ va_P (dC, dI) classes [(h0, .inr (11, [.ref qt, v1, v2, v3, v4, v5, v6, v7, v8])), (qt, .inr (0, [vb, .int 0, .int 0]))] U.heap ∧ va_K (dC, dI) classes [] U ∧ va_D (fun _ => True) [(h0, .inr (11, [.ref qt, v1, v2, v3, v4, v5, v6, v7, v8])), (qt, .inr (0, [vb, .int 0, .int 0]))])) (va_Qi (fun (r : Int32) (_ : Unit) => r = xe n) (fun (_ : Unit) (t : State) => va_P (dC, dI) classes [] t.heap ∧ va_K (dC, dI) classes [] t ∧ va_D (va_A [(h0, .inr (11, [.ref qt, v1, v2, v3, v4, v5, v6, v7, v8])), (qt, .inr (0, [vb, .int 0, .int 0]))] sz) []) (va_A [(h0, .inr (11, [.ref qt, v1, v2, v3, v4, v5, v6, v7, v8])), (qt, .inr (0, [vb, .int 0, .int 0]))] sz)) 0 0 (va_A [(h0, .inr (11, [.ref qt, v1, v2, v3, v4, v5, v6, v7, v8])), (qt, .inr (0, [vb, .int 0, .int 0]))] sz) := by
  refine Met.ofW (cc := b_Top_end) (maxL := 2) (ret := (Option.some Jvm.ClassFile.FieldType.boolean)) (by decide) rfl ?_
  intro p e s m args below meth c s₁ B hml hv
  obtain ⟨rfl, hsz, hP, hK, hD0⟩ := hv
  have hx := B.exec
  have hb := B.bytes
  have hr := B.returns
  have hts := atoms_spec (ws := Cond.code y_Top_end b_Top_end 2 (Option.some Jvm.ClassFile.FieldType.boolean) :: xw0) B.pre
  have ht : ∀ w ∈ xw0, w.before _ s = true := fun w h => hts w (List.mem_cons_of_mem _ h)
  have hown : s.vm.findClass R_Top = some m.cls := findClass_of_methodNamed B.named
  have hlocks := B.notSynchronized
  subst hsz
  have hD := hD0.self (sz := s.heap.size)
  generalize hAe : va_A [(h0, .inr (11, [.ref qt, v1, v2, v3, v4, v5, v6, v7, v8])), (qt, .inr (0, [vb, .int 0, .int 0]))] s.heap.size = A at hD ⊢
  have hA : ∀ q : Nat, s.heap.size ≤ q → A q := fun q h => by rw [← hAe]; exact Or.inr h
  have hS : va_S A s.heap s.heap [] := va_S.rf
  have hP : va_P (dC, dI) classes [(h0, .inr (11, [.ref qt, v1, v2, v3, v4, v5, v6, v7, v8])), (qt, .inr (0, [vb, .int 0, .int 0]))] s.heap := hP
  have hl := lv_entry ([.ref h0, .int n]) (n := 2) (Nat.le_of_ble_eq_true rfl)
  rw [lg_entry_eq]
  generalize (lg_sl ([.ref h0, .int n]) ++ List.replicate (2 - (lg_sl ([.ref h0, .int n])).length) Slot.unset).toArray = ls at hl ⊢
  have hl : lv_has ls 2 [(0, .ref h0), (1, .int n)] := hl
  refine lv_iload_n hx hb d_Top_end_0 rfl (lv_at hl 1 rfl) ?_
  refine lv_if_lt (tgt := 15) hx hb d_Top_end_1 (by decide) (fun c_1_0 => ?_) (fun c_1_0 => ?_)
  · refine lv_iconst (v := (nI 0)) hx hb d_Top_end_15 (by decide) ?_
    have hP9 := hP.sub (ws' := []) [] rfl
    have hD9 := hD.sub (ws' := []) [] (by decide +kernel) rfl
    have hK9 := hK.sub (tys' := []) [] rfl
    exact W.zret (ty := .boolean) hx hb hr rfl (fun t ht9 hW => ⟨⟨(nI 0), (), rfl, (by show _ = xe _; unfold xe; rw [if_pos c_1_0]; rfl), by rw [ht9]; exact hP9, va_K.moved hW.alike hK9, hD9⟩, hS.F ht9⟩) hS.2.2 d_Top_end_16
  · refine lv_iload_n hx hb d_Top_end_4 rfl (lv_at hl 1 rfl) ?_
    refine lv_aload_n hx hb d_Top_end_5 rfl (lv_at hl 0 rfl) ?_
    refine va_get (D := (dC, dI)) (ci := 11) (v := .ref qt) (C := R_Top) (T := F_Top) (N := 9) hx hb ht i_Top hown hK hP 0 rfl rfl 0 (by decide) (ht _ k_350) (fun _ h9 => h9) rfl d_Top_end_6 ?_
    refine va_get (D := (dC, dI)) (ci := 0) (v := .int 0) (C := R_Row) (T := F_Row) (N := 3) hx hb ht i_Row hown hK hP 1 rfl rfl 1 (by decide) (ht _ k_31) (fun _ h9 => h9) rfl d_Top_end_9 ?_
    refine lv_icmp_le (tgt := 17) hx hb d_Top_end_12 (by decide) (fun c_12_51 => ?_) (fun c_12_51 => ?_)
    · refine lv_aload_n hx hb d_Top_end_17 rfl (lv_at hl 0 rfl) ?_
      refine va_get (D := (dC, dI)) (ci := 11) (v := .ref qt) (C := R_Top) (T := F_Top) (N := 9) hx hb ht i_Top hown hK hP 0 rfl rfl 0 (by decide) (ht _ k_350) (fun _ h9 => h9) rfl d_Top_end_18 ?_
      refine lv_iload_n hx hb d_Top_end_21 rfl (lv_at hl 1 rfl) ?_
      have hPc := hP.sub (ws' := [(qt, .inr (0, [vb, .int 0, .int 0]))]) [1] rfl
      have hDc := hD.sub (ws' := [(qt, .inr (0, [vb, .int 0, .int 0]))]) [1] (by decide +kernel) rfl
      have hKc := hK.sub (tys' := []) [] rfl
      have hFc := va_free (wc := [(qt, .inr (0, [vb, .int 0, .int 0]))]) hD hS hA [1] rfl
      refine va_callv (va_runV (As := [.int n]) (rest := []) ⟨hx, hb, hml, hown, ht⟩ (c_Row_cut0 l dC dI qt s.heap.size n 0 rfl vb (.int 0)) ⟨callB_of 1 ht (xw_good k_388) rfl rfl rfl (ht _ k_2) (ht _ k_385) (by decide +kernel) ⟨(Nat.le_of_ble_eq_true rfl), (Nat.le_of_ble_eq_true rfl)⟩, ht _ k_386, ht _ k_387⟩ ⟨fun a U g mk q => by obtain ⟨q0, q1, qP, qK, qD⟩ := q; exact ⟨q0, q1, qP, va_K.moved (u := U) (U := U.calling g mk a) (Vm.Alike.refl U.vm) qK, qD⟩, va_recv hKc hPc (ci := 0) (q0 := 0) rfl rfl, fun U hU hW => ⟨rfl, by rw [hU], by rw [hU]; exact hPc, va_K.moved hW.alike hKc, hDc.weaken (fun _ _ _ _ => trivial)⟩⟩ rfl rfl hl.1 rfl (lv_room (Nat.le_of_ble_eq_true rfl)) d_Top_end_22 ⟨(Nat.le_of_ble_eq_true rfl), (Nat.le_of_ble_eq_true rfl)⟩) hS (fun q _ h => hFc q h) hFc (fun u t H1 locs ht9 hvm hw hB hz1 hk1 hS => ?_)
      obtain ⟨hP1, hK1, hD1⟩ := hB
      rw [ht9] at hP1
      have hK1 := va_K.moved hvm.symm hK1
      obtain ⟨hP, hD⟩ := va_join (wr := [(h0, .inr (11, [.ref qt, v1, v2, v3, v4, v5, v6, v7, v8]))]) (w1 := [(qt, .inr (0, [vb, .int 0, .int 0]))]) hP hD [1] [0] rfl rfl (by decide +kernel) (by decide +kernel) hk1 hFc hP1 hD1
      have hK := (hK.sub (tys' := []) [] rfl).app hK1
      generalize H1 = H at hP hS ⊢
      have hP : va_P (dC, dI) classes [(h0, .inr (11, [.ref qt, v1, v2, v3, v4, v5, v6, v7, v8])), (qt, .inr (0, [vb, .int 0, .int 0]))] H := hP
      have hD : va_D A [(h0, .inr (11, [.ref qt, v1, v2, v3, v4, v5, v6, v7, v8])), (qt, .inr (0, [vb, .int 0, .int 0]))] := hD
      have hK : va_K (dC, dI) classes [] s := hK
      refine W.widen (k := 0) (n := 0) (by omega) (by omega) ?_
      refine lv_iconst (v := (nI 1)) hx hb d_Top_end_25 (by decide) ?_
      have hP9 := hP.sub (ws' := []) [] rfl
      have hD9 := hD.sub (ws' := []) [] (by decide +kernel) rfl
      have hK9 := hK.sub (tys' := []) [] rfl
      exact W.zret (ty := .boolean) hx hb hr rfl (fun t ht9 hW => ⟨⟨(nI 1), (), rfl, (by show _ = xe _; unfold xe; rw [if_neg c_1_0, if_pos c_12_51]; rfl), by rw [ht9]; exact hP9, va_K.moved hW.alike hK9, hD9⟩, hS.F ht9⟩) hS.2.2 d_Top_end_26
    · refine lv_iconst (v := (nI 0)) hx hb d_Top_end_15 (by decide) ?_
      have hP9 := hP.sub (ws' := []) [] rfl
      have hD9 := hD.sub (ws' := []) [] (by decide +kernel) rfl
      have hK9 := hK.sub (tys' := []) [] rfl
      exact W.zret (ty := .boolean) hx hb hr rfl (fun t ht9 hW => ⟨⟨(nI 0), (), rfl, (by show _ = xe _; unfold xe; rw [if_neg c_1_0, if_neg c_12_51]; rfl), by rw [ht9]; exact hP9, va_K.moved hW.alike hK9, hD9⟩, hS.F ht9⟩) hS.2.2 d_Top_end_16
set_option maxHeartbeats 4000000 in
set_option maxRecDepth 100000 in
/-- addUser of an empty row: NONE -/
theorem c_House_addUser0 (l : Launch) (dC : Nat → ClassId) (dI : Nat → Nat → Nat) (h0 sz qt : Nat) (vb v1 v2 v3 : Value) : Met l y_House_addUser (Cond.code y_House_addUser b_House_addUser 5 (Option.some Jvm.ClassFile.FieldType.int) :: xw0) ({ frames := 1, cells := 0, slots := 0, locals := 30 }) (va_Pc [.ref h0, .ref qt] (fun U => U.heap.size = sz ∧ va_P (dC, dI) classes [(h0, .inr (17, [v1, v2, v3])), (qt, .inr (0, [vb, .int 0, .int 0]))] U.heap ∧ va_K (dC, dI) classes [] U ∧ va_D (fun _ => True) [(h0, .inr (17, [v1, v2, v3])), (qt, .inr (0, [vb, .int 0, .int 0]))])) (va_Qi (fun (r : Int32) (_ : Unit) => r = -1) (fun (_ : Unit) (t : State) => va_P (dC, dI) classes [(qt, .inr (0, [vb, .int 0, .int 0]))] t.heap ∧ va_K (dC, dI) classes [] t ∧ va_D (va_A [(h0, .inr (17, [v1, v2, v3])), (qt, .inr (0, [vb, .int 0, .int 0]))] sz) [(qt, .inr (0, [vb, .int 0, .int 0]))]) (va_A [(h0, .inr (17, [v1, v2, v3])), (qt, .inr (0, [vb, .int 0, .int 0]))] sz)) 0 0 (va_A [(h0, .inr (17, [v1, v2, v3])), (qt, .inr (0, [vb, .int 0, .int 0]))] sz) := by
  refine Met.ofW (cc := b_House_addUser) (maxL := 5) (ret := (Option.some Jvm.ClassFile.FieldType.int)) (by decide) rfl ?_
  intro p e s m args below meth c s₁ B hml hv
  obtain ⟨rfl, hsz, hP, hK, hD0⟩ := hv
  have hx := B.exec
  have hb := B.bytes
  have hr := B.returns
  have hts := atoms_spec (ws := Cond.code y_House_addUser b_House_addUser 5 (Option.some Jvm.ClassFile.FieldType.int) :: xw0) B.pre
  have ht : ∀ w ∈ xw0, w.before _ s = true := fun w h => hts w (List.mem_cons_of_mem _ h)
  have hown : s.vm.findClass R_House = some m.cls := findClass_of_methodNamed B.named
  have hlocks := B.notSynchronized
  subst hsz
  have hD := hD0.self (sz := s.heap.size)
  generalize hAe : va_A [(h0, .inr (17, [v1, v2, v3])), (qt, .inr (0, [vb, .int 0, .int 0]))] s.heap.size = A at hD ⊢
  have hA : ∀ q : Nat, s.heap.size ≤ q → A q := fun q h => by rw [← hAe]; exact Or.inr h
  have hS : va_S A s.heap s.heap [] := va_S.rf
  have hP : va_P (dC, dI) classes [(h0, .inr (17, [v1, v2, v3])), (qt, .inr (0, [vb, .int 0, .int 0]))] s.heap := hP
  have hl := lv_entry ([.ref h0, .ref qt]) (n := 5) (Nat.le_of_ble_eq_true rfl)
  rw [lg_entry_eq]
  generalize (lg_sl ([.ref h0, .ref qt]) ++ List.replicate (5 - (lg_sl ([.ref h0, .ref qt])).length) Slot.unset).toArray = ls at hl ⊢
  have hl : lv_has ls 5 [(0, .ref h0), (1, .ref qt)] := hl
  refine lv_iconst (v := (nI 0)) hx hb d_House_addUser_0 (by decide) ?_
  refine lv_istore_n (lv' := [(2, .int (nI 0)), (0, .ref h0), (1, .ref qt)]) hx hb d_House_addUser_1 rfl hl (by decide) rfl (fun ls hl => ?_)
  refine lv_iload_n hx hb d_House_addUser_2 rfl (lv_at hl 0 rfl) ?_
  refine lv_aload_n hx hb d_House_addUser_3 rfl (lv_at hl 2 rfl) ?_
  refine va_get (D := (dC, dI)) (ci := 0) (v := .int 0) (C := R_Row) (T := F_Row) (N := 3) hx hb ht i_Row hown hK hP 1 rfl rfl 1 (by decide) (ht _ k_32) (fun _ h9 => h9) rfl d_House_addUser_4 ?_
  refine lv_icmp_ge (tgt := 36) hx hb d_House_addUser_7 (by decide) (fun _ => ?_) (fun c_7_0 => absurd (by decide) c_7_0)
  refine lv_aload_n hx hb d_House_addUser_36 rfl (lv_at hl 2 rfl) ?_
  refine va_get (D := (dC, dI)) (ci := 0) (v := .int 0) (C := R_Row) (T := F_Row) (N := 3) hx hb ht i_Row hown hK hP 1 rfl rfl 1 (by decide) (ht _ k_32) (fun _ h9 => h9) rfl d_House_addUser_37 ?_
  refine lv_iload_n hx hb d_House_addUser_40 rfl (lv_at hl 0 rfl) ?_
  refine lv_isub hx hb d_House_addUser_41 ?_
  refine xw_topn (nI 0) (by decide) ?_
  refine lv_iconst (v := (nI 1)) hx hb d_House_addUser_42 (by decide) ?_
  refine lv_isub hx hb d_House_addUser_43 ?_
  refine xw_topn (-1) (by decide) ?_
  refine lv_istore_n (lv' := [(3, .int (-1)), (2, .int (nI 0)), (0, .ref h0), (1, .ref qt)]) hx hb d_House_addUser_44 rfl hl (by decide) rfl (fun ls hl => ?_)
  refine lv_iload_n hx hb d_House_addUser_45 rfl (lv_at hl 1 rfl) ?_
  refine lv_iconst (v := (nI 1)) hx hb d_House_addUser_46 (by decide) ?_
  refine lv_icmp_lt (tgt := 77) hx hb d_House_addUser_47 (by decide) (fun _ => ?_) (fun c_47 => absurd (by decide) c_47)
  refine lv_iconst (v := (-1)) hx hb d_House_addUser_77 (by decide) ?_
  have hP9 := hP.sub (ws' := [(qt, .inr (0, [vb, .int 0, .int 0]))]) [1] rfl
  have hD9 := hD.sub (ws' := [(qt, .inr (0, [vb, .int 0, .int 0]))]) [1] (by decide +kernel) rfl
  have hK9 := hK.sub (tys' := []) [] rfl
  exact W.iret hx hb hr (fun t ht9 hW => ⟨⟨(-1), (), rfl, rfl, by rw [ht9]; exact hP9, va_K.moved hW.alike hK9, hD9⟩, hS.F ht9⟩) hS.2.2 d_House_addUser_78
set_option maxHeartbeats 4000000 in
set_option maxRecDepth 100000 in
/-- user() on a new object: NONE -/
theorem c_Top_user (l : Launch) (dC : Nat → ClassId) (dI : Nat → Nat → Nat) (h0 sz qt qh : Nat) (vb w1 w2 w3 : Value) (v1 v2 v4 v5 v6 v7 v8 : Value) : Met l y_Top_user (Cond.code y_Top_user b_Top_user 2 (Option.some Jvm.ClassFile.FieldType.int) :: xw0) ({ frames := 2, cells := 0, slots := 0, locals := 60 }) (va_Pc [.ref h0] (fun U => U.heap.size = sz ∧ va_P (dC, dI) classes [(h0, .inr (11, [.ref qt, v1, v2, .ref qh, v4, v5, v6, v7, v8])), (qt, .inr (0, [vb, .int 0, .int 0])), (qh, .inr (17, [w1, w2, w3]))] U.heap ∧ va_K (dC, dI) classes [] U ∧ va_D (fun _ => True) [(h0, .inr (11, [.ref qt, v1, v2, .ref qh, v4, v5, v6, v7, v8])), (qt, .inr (0, [vb, .int 0, .int 0])), (qh, .inr (17, [w1, w2, w3]))])) (va_Qi (fun (r : Int32) (_ : Unit) => r = -1) (fun (_ : Unit) (t : State) => va_P (dC, dI) classes [] t.heap ∧ va_K (dC, dI) classes [] t ∧ va_D (va_A [(h0, .inr (11, [.ref qt, v1, v2, .ref qh, v4, v5, v6, v7, v8])), (qt, .inr (0, [vb, .int 0, .int 0])), (qh, .inr (17, [w1, w2, w3]))] sz) []) (va_A [(h0, .inr (11, [.ref qt, v1, v2, .ref qh, v4, v5, v6, v7, v8])), (qt, .inr (0, [vb, .int 0, .int 0])), (qh, .inr (17, [w1, w2, w3]))] sz)) 0 0 (va_A [(h0, .inr (11, [.ref qt, v1, v2, .ref qh, v4, v5, v6, v7, v8])), (qt, .inr (0, [vb, .int 0, .int 0])), (qh, .inr (17, [w1, w2, w3]))] sz) := by
  refine Met.ofW (cc := b_Top_user) (maxL := 2) (ret := (Option.some Jvm.ClassFile.FieldType.int)) (by decide) rfl ?_
  intro p e s m args below meth c s₁ B hml hv
  obtain ⟨rfl, hsz, hP, hK, hD0⟩ := hv
  have hx := B.exec
  have hb := B.bytes
  have hr := B.returns
  have hts := atoms_spec (ws := Cond.code y_Top_user b_Top_user 2 (Option.some Jvm.ClassFile.FieldType.int) :: xw0) B.pre
  have ht : ∀ w ∈ xw0, w.before _ s = true := fun w h => hts w (List.mem_cons_of_mem _ h)
  have hown : s.vm.findClass R_Top = some m.cls := findClass_of_methodNamed B.named
  have hlocks := B.notSynchronized
  subst hsz
  have hD := hD0.self (sz := s.heap.size)
  generalize hAe : va_A [(h0, .inr (11, [.ref qt, v1, v2, .ref qh, v4, v5, v6, v7, v8])), (qt, .inr (0, [vb, .int 0, .int 0])), (qh, .inr (17, [w1, w2, w3]))] s.heap.size = A at hD ⊢
  have hA : ∀ q : Nat, s.heap.size ≤ q → A q := fun q h => by rw [← hAe]; exact Or.inr h
  have hS : va_S A s.heap s.heap [] := va_S.rf
  have hP : va_P (dC, dI) classes [(h0, .inr (11, [.ref qt, v1, v2, .ref qh, v4, v5, v6, v7, v8])), (qt, .inr (0, [vb, .int 0, .int 0])), (qh, .inr (17, [w1, w2, w3]))] s.heap := hP
  have hl := lv_entry ([.ref h0]) (n := 2) (Nat.le_of_ble_eq_true rfl)
  rw [lg_entry_eq]
  generalize (lg_sl ([.ref h0]) ++ List.replicate (2 - (lg_sl ([.ref h0])).length) Slot.unset).toArray = ls at hl ⊢
  have hl : lv_has ls 2 [(0, .ref h0)] := hl
  refine lv_aload_n hx hb d_Top_user_0 rfl (lv_at hl 0 rfl) ?_
  refine va_get (D := (dC, dI)) (ci := 11) (v := .ref qh) (C := R_Top) (T := F_Top) (N := 9) hx hb ht i_Top hown hK hP 0 rfl rfl 3 (by decide) (ht _ k_353) (fun _ h9 => h9) rfl d_Top_user_1 ?_
  refine lv_aload_n hx hb d_Top_user_4 rfl (lv_at hl 0 rfl) ?_
  refine va_get (D := (dC, dI)) (ci := 11) (v := .ref qt) (C := R_Top) (T := F_Top) (N := 9) hx hb ht i_Top hown hK hP 0 rfl rfl 0 (by decide) (ht _ k_350) (fun _ h9 => h9) rfl d_Top_user_5 ?_
  have hPc := hP.sub (ws' := [(qh, .inr (17, [w1, w2, w3])), (qt, .inr (0, [vb, .int 0, .int 0]))]) [2, 1] rfl
  have hDc := hD.sub (ws' := [(qh, .inr (17, [w1, w2, w3])), (qt, .inr (0, [vb, .int 0, .int 0]))]) [2, 1] (by decide +kernel) rfl
  have hKc := hK.sub (tys' := []) [] rfl
  have hFc := va_free (wc := [(qh, .inr (17, [w1, w2, w3])), (qt, .inr (0, [vb, .int 0, .int 0]))]) hD hS hA [2, 1] rfl
  refine va_calli (va_runV (As := [.ref qt]) (rest := []) ⟨hx, hb, hml, hown, ht⟩ (c_House_addUser0 l dC dI qh s.heap.size qt vb w1 w2 w3) ⟨callB_of 1 ht (xw_good k_396) rfl rfl rfl (ht _ k_4) (ht _ k_393) (by decide +kernel) ⟨(Nat.le_of_ble_eq_true rfl), (Nat.le_of_ble_eq_true rfl)⟩, ht _ k_394, ht _ k_395⟩ ⟨fun a U g mk q => by obtain ⟨q0, q1, qP, qK, qD⟩ := q; exact ⟨q0, q1, qP, va_K.moved (u := U) (U := U.calling g mk a) (Vm.Alike.refl U.vm) qK, qD⟩, va_recv hKc hPc (ci := 17) (q0 := 0) rfl rfl, fun U hU hW => ⟨rfl, by rw [hU], by rw [hU]; exact hPc, va_K.moved hW.alike hKc, hDc.weaken (fun _ _ _ _ => trivial)⟩⟩ rfl rfl hl.1 rfl (lv_room (Nat.le_of_ble_eq_true rfl)) d_Top_user_8 ⟨(Nat.le_of_ble_eq_true rfl), (Nat.le_of_ble_eq_true rfl)⟩) hS (fun q _ h => hFc q h) hFc (fun r1 u t H1 locs ht9 hvm hw hB hz1 hk1 hS => ?_)
  obtain ⟨hP1, hK1, hD1⟩ := hB
  rw [ht9] at hP1
  have hK1 := va_K.moved hvm.symm hK1
  obtain ⟨hP, hD⟩ := va_join (wr := [(h0, .inr (11, [.ref qt, v1, v2, .ref qh, v4, v5, v6, v7, v8]))]) (w1 := [(qt, .inr (0, [vb, .int 0, .int 0]))]) hP hD [2, 1] [0] rfl rfl (by decide +kernel) (by decide +kernel) hk1 hFc hP1 hD1
  have hK := (hK.sub (tys' := []) [] rfl).app hK1
  generalize H1 = H at hP hS ⊢
  have hP : va_P (dC, dI) classes [(h0, .inr (11, [.ref qt, v1, v2, .ref qh, v4, v5, v6, v7, v8])), (qt, .inr (0, [vb, .int 0, .int 0]))] H := hP
  have hD : va_D A [(h0, .inr (11, [.ref qt, v1, v2, .ref qh, v4, v5, v6, v7, v8])), (qt, .inr (0, [vb, .int 0, .int 0]))] := hD
  have hK : va_K (dC, dI) classes [] s := hK
  refine W.widen (k := 0) (n := 0) (by omega) (by omega) ?_
  have hw : r1 = (-1) := hw
  subst hw
  refine lv_istore_n (lv' := [(1, .int (-1)), (0, .ref h0)]) hx hb d_Top_user_11 rfl hl (by decide) rfl (fun ls hl => ?_)
  refine lv_aload_n hx hb d_Top_user_12 rfl (lv_at hl 1 rfl) ?_
  refine va_get (D := (dC, dI)) (ci := 11) (v := .ref qt) (C := R_Top) (T := F_Top) (N := 9) hx hb ht i_Top hown hK hP 0 rfl rfl 0 (by decide) (ht _ k_350) (fun _ h9 => h9) rfl d_Top_user_13 ?_
  have hPc := hP.sub (ws' := [(qt, .inr (0, [vb, .int 0, .int 0]))]) [1] rfl
  have hDc := hD.sub (ws' := [(qt, .inr (0, [vb, .int 0, .int 0]))]) [1] (by decide +kernel) rfl
  have hKc := hK.sub (tys' := []) [] rfl
  have hFc := va_free (wc := [(qt, .inr (0, [vb, .int 0, .int 0]))]) hD hS hA [1] rfl
  refine va_callv (va_runV (As := []) (rest := []) ⟨hx, hb, hml, hown, ht⟩ (c_Row_clear l dC dI qt H.size vb 0 0) ⟨callB_of 0 ht (xw_good k_406) rfl rfl rfl (ht _ k_2) (ht _ k_403) (by decide +kernel) ⟨(Nat.le_of_ble_eq_true rfl), (Nat.le_of_ble_eq_true rfl)⟩, ht _ k_404, ht _ k_405⟩ ⟨fun a U g mk q => by obtain ⟨q0, q1, qP, qK, qD⟩ := q; exact ⟨q0, q1, qP, va_K.moved (u := U) (U := U.calling g mk a) (Vm.Alike.refl U.vm) qK, qD⟩, va_recv hKc hPc (ci := 0) (q0 := 0) rfl rfl, fun U hU hW => ⟨rfl, by rw [hU], by rw [hU]; exact hPc, va_K.moved hW.alike hKc, hDc.weaken (fun _ _ _ _ => trivial)⟩⟩ rfl rfl hl.1 rfl (lv_room (Nat.le_of_ble_eq_true rfl)) d_Top_user_16 ⟨(Nat.le_of_ble_eq_true rfl), (Nat.le_of_ble_eq_true rfl)⟩) hS (fun q _ h => hFc q h) hFc (fun u t H1 locs ht9 hvm hw hB hz1 hk1 hS => ?_)
  obtain ⟨hP1, hK1, hD1⟩ := hB
  rw [ht9] at hP1
  have hK1 := va_K.moved hvm.symm hK1
  obtain ⟨hP, hD⟩ := va_join (wr := [(h0, .inr (11, [.ref qt, v1, v2, .ref qh, v4, v5, v6, v7, v8]))]) (w1 := [(qt, .inr (0, [vb, .int (nI 0), .int (nI 0)]))]) hP hD [1] [0] rfl rfl (by decide +kernel) (by decide +kernel) hk1 hFc hP1 hD1
  have hK := (hK.sub (tys' := []) [] rfl).app hK1
  generalize H1 = H at hP hS ⊢
  have hP : va_P (dC, dI) classes [(h0, .inr (11, [.ref qt, v1, v2, .ref qh, v4, v5, v6, v7, v8])), (qt, .inr (0, [vb, .int (nI 0), .int (nI 0)]))] H := hP
  have hD : va_D A [(h0, .inr (11, [.ref qt, v1, v2, .ref qh, v4, v5, v6, v7, v8])), (qt, .inr (0, [vb, .int (nI 0), .int (nI 0)]))] := hD
  have hK : va_K (dC, dI) classes [] s := hK
  refine W.widen (k := 0) (n := 0) (by omega) (by omega) ?_
  refine lv_iload_n hx hb d_Top_user_19 rfl (lv_at hl 0 rfl) ?_
  have hP9 := hP.sub (ws' := []) [] rfl
  have hD9 := hD.sub (ws' := []) [] (by decide +kernel) rfl
  have hK9 := hK.sub (tys' := []) [] rfl
  exact W.iret hx hb hr (fun t ht9 hW => ⟨⟨(-1), (), rfl, rfl, by rw [ht9]; exact hP9, va_K.moved hW.alike hK9, hD9⟩, hS.F ht9⟩) hS.2.2 d_Top_user_20
set_option maxHeartbeats 4000000 in
set_option maxRecDepth 100000 in
/-- next() of a new wire -/
theorem c_Wire_next0 (l : Launch) (dC : Nat → ClassId) (dI : Nat → Nat → Nat) (h0 sz qh ql : Nat) (u2 u3 vb vc : Value) : Met l y_Wire_next (Cond.code y_Wire_next b_Wire_next 1 none :: xw0) ({ frames := 1, cells := 0, slots := 0, locals := 30 }) (va_Pc [.ref h0] (fun U => U.heap.size = sz ∧ va_P (dC, dI) classes [(h0, .inr (1, [.ref qh, .ref ql, u2, u3, .int (nI 1), .int 0, .int 0, .int 0, .int 0, .int 0, .int 0])), (qh, .inr (0, [vb, .int 0, .int 0])), (ql, .inr (0, [vc, .int 0, .int 0]))] U.heap ∧ va_K (dC, dI) classes [] U ∧ va_D (fun _ => True) [(h0, .inr (1, [.ref qh, .ref ql, u2, u3, .int (nI 1), .int 0, .int 0, .int 0, .int 0, .int 0, .int 0])), (qh, .inr (0, [vb, .int 0, .int 0])), (ql, .inr (0, [vc, .int 0, .int 0]))])) (va_Qv (fun _ : Unit => True) (fun (_ : Unit) (t : State) => va_P (dC, dI) classes [] t.heap ∧ va_K (dC, dI) classes [] t ∧ va_D (va_A [(h0, .inr (1, [.ref qh, .ref ql, u2, u3, .int (nI 1), .int 0, .int 0, .int 0, .int 0, .int 0, .int 0])), (qh, .inr (0, [vb, .int 0, .int 0])), (ql, .inr (0, [vc, .int 0, .int 0]))] sz) []) (va_A [(h0, .inr (1, [.ref qh, .ref ql, u2, u3, .int (nI 1), .int 0, .int 0, .int 0, .int 0, .int 0, .int 0])), (qh, .inr (0, [vb, .int 0, .int 0])), (ql, .inr (0, [vc, .int 0, .int 0]))] sz)) 0 0 (va_A [(h0, .inr (1, [.ref qh, .ref ql, u2, u3, .int (nI 1), .int 0, .int 0, .int 0, .int 0, .int 0, .int 0])), (qh, .inr (0, [vb, .int 0, .int 0])), (ql, .inr (0, [vc, .int 0, .int 0]))] sz) := by
  refine Met.ofW (cc := b_Wire_next) (maxL := 1) (ret := none) (by decide) rfl ?_
  intro p e s m args below meth c s₁ B hml hv
  obtain ⟨rfl, hsz, hP, hK, hD0⟩ := hv
  have hx := B.exec
  have hb := B.bytes
  have hr := B.returns
  have hts := atoms_spec (ws := Cond.code y_Wire_next b_Wire_next 1 none :: xw0) B.pre
  have ht : ∀ w ∈ xw0, w.before _ s = true := fun w h => hts w (List.mem_cons_of_mem _ h)
  have hown : s.vm.findClass R_Wire = some m.cls := findClass_of_methodNamed B.named
  have hlocks := B.notSynchronized
  subst hsz
  have hD := hD0.self (sz := s.heap.size)
  generalize hAe : va_A [(h0, .inr (1, [.ref qh, .ref ql, u2, u3, .int (nI 1), .int 0, .int 0, .int 0, .int 0, .int 0, .int 0])), (qh, .inr (0, [vb, .int 0, .int 0])), (ql, .inr (0, [vc, .int 0, .int 0]))] s.heap.size = A at hD ⊢
  have hA : ∀ q : Nat, s.heap.size ≤ q → A q := fun q h => by rw [← hAe]; exact Or.inr h
  have hS : va_S A s.heap s.heap [] := va_S.rf
  have hP : va_P (dC, dI) classes [(h0, .inr (1, [.ref qh, .ref ql, u2, u3, .int (nI 1), .int 0, .int 0, .int 0, .int 0, .int 0, .int 0])), (qh, .inr (0, [vb, .int 0, .int 0])), (ql, .inr (0, [vc, .int 0, .int 0]))] s.heap := hP
  have hl := lv_entry ([.ref h0]) (n := 1) (Nat.le_of_ble_eq_true rfl)
  rw [lg_entry_eq]
  generalize (lg_sl ([.ref h0]) ++ List.replicate (1 - (lg_sl ([.ref h0])).length) Slot.unset).toArray = ls at hl ⊢
  have hl : lv_has ls 1 [(0, .ref h0)] := hl
  refine lv_aload_n hx hb d_Wire_next_0 rfl (lv_at hl 0 rfl) ?_
  refine va_get (D := (dC, dI)) (ci := 1) (v := .ref qh) (C := R_Wire) (T := F_Wire) (N := 11) hx hb ht i_Wire hown hK hP 0 rfl rfl 0 (by decide) (ht _ k_50) (fun _ h9 => h9) rfl d_Wire_next_1 ?_
  have hPc := hP.sub (ws' := [(qh, .inr (0, [vb, .int 0, .int 0]))]) [1] rfl
  have hDc := hD.sub (ws' := [(qh, .inr (0, [vb, .int 0, .int 0]))]) [1] (by decide +kernel) rfl
  have hKc := hK.sub (tys' := []) [] rfl
  have hFc := va_free (wc := [(qh, .inr (0, [vb, .int 0, .int 0]))]) hD hS hA [1] rfl
  refine va_callv (va_runV (As := []) (rest := []) ⟨hx, hb, hml, hown, ht⟩ (c_Row_clear l dC dI qh s.heap.size vb 0 0) ⟨callB_of 0 ht (xw_good k_406) rfl rfl rfl (ht _ k_2) (ht _ k_415) (by decide +kernel) ⟨(Nat.le_of_ble_eq_true rfl), (Nat.le_of_ble_eq_true rfl)⟩, ht _ k_404, ht _ k_405⟩ ⟨fun a U g mk q => by obtain ⟨q0, q1, qP, qK, qD⟩ := q; exact ⟨q0, q1, qP, va_K.moved (u := U) (U := U.calling g mk a) (Vm.Alike.refl U.vm) qK, qD⟩, va_recv hKc hPc (ci := 0) (q0 := 0) rfl rfl, fun U hU hW => ⟨rfl, by rw [hU], by rw [hU]; exact hPc, va_K.moved hW.alike hKc, hDc.weaken (fun _ _ _ _ => trivial)⟩⟩ rfl rfl hl.1 rfl (lv_room (Nat.le_of_ble_eq_true rfl)) d_Wire_next_4 ⟨(Nat.le_of_ble_eq_true rfl), (Nat.le_of_ble_eq_true rfl)⟩) hS (fun q _ h => hFc q h) hFc (fun u t H1 locs ht9 hvm hw hB hz1 hk1 hS => ?_)
  obtain ⟨hP1, hK1, hD1⟩ := hB
  rw [ht9] at hP1
  have hK1 := va_K.moved hvm.symm hK1
  obtain ⟨hP, hD⟩ := va_join (wr := [(h0, .inr (1, [.ref qh, .ref ql, u2, u3, .int (nI 1), .int 0, .int 0, .int 0, .int 0, .int 0, .int 0])), (ql, .inr (0, [vc, .int 0, .int 0]))]) (w1 := [(qh, .inr (0, [vb, .int (nI 0), .int (nI 0)]))]) hP hD [1] [0, 2] rfl rfl (by decide +kernel) (by decide +kernel) hk1 hFc hP1 hD1
  have hK := (hK.sub (tys' := []) [] rfl).app hK1
  generalize H1 = H at hP hS ⊢
  have hP : va_P (dC, dI) classes [(h0, .inr (1, [.ref qh, .ref ql, u2, u3, .int (nI 1), .int 0, .int 0, .int 0, .int 0, .int 0, .int 0])), (ql, .inr (0, [vc, .int 0, .int 0])), (qh, .inr (0, [vb, .int (nI 0), .int (nI 0)]))] H := hP
  have hD : va_D A [(h0, .inr (1, [.ref qh, .ref ql, u2, u3, .int (nI 1), .int 0, .int 0, .int 0, .int 0, .int 0, .int 0])), (ql, .inr (0, [vc, .int 0, .int 0])), (qh, .inr (0, [vb, .int (nI 0), .int (nI 0)]))] := hD
  have hK : va_K (dC, dI) classes [] s := hK
  refine W.widen (k := 0) (n := 0) (by omega) (by omega) ?_
  refine lv_aload_n hx hb d_Wire_next_7 rfl (lv_at hl 0 rfl) ?_
  refine va_get (D := (dC, dI)) (ci := 1) (v := .ref ql) (C := R_Wire) (T := F_Wire) (N := 11) hx hb ht i_Wire hown hK hP 0 rfl rfl 1 (by decide) (ht _ k_51) (fun _ h9 => h9) rfl d_Wire_next_8 ?_
  have hPc := hP.sub (ws' := [(ql, .inr (0, [vc, .int 0, .int 0]))]) [1] rfl
  have hDc := hD.sub (ws' := [(ql, .inr (0, [vc, .int 0, .int 0]))]) [1] (by decide +kernel) rfl
  have hKc := hK.sub (tys' := []) [] rfl
  have hFc := va_free (wc := [(ql, .inr (0, [vc, .int 0, .int 0]))]) hD hS hA [1] rfl
  refine va_callv (va_runV (As := []) (rest := []) ⟨hx, hb, hml, hown, ht⟩ (c_Row_clear l dC dI ql H.size vc 0 0) ⟨callB_of 0 ht (xw_good k_406) rfl rfl rfl (ht _ k_2) (ht _ k_415) (by decide +kernel) ⟨(Nat.le_of_ble_eq_true rfl), (Nat.le_of_ble_eq_true rfl)⟩, ht _ k_404, ht _ k_405⟩ ⟨fun a U g mk q => by obtain ⟨q0, q1, qP, qK, qD⟩ := q; exact ⟨q0, q1, qP, va_K.moved (u := U) (U := U.calling g mk a) (Vm.Alike.refl U.vm) qK, qD⟩, va_recv hKc hPc (ci := 0) (q0 := 0) rfl rfl, fun U hU hW => ⟨rfl, by rw [hU], by rw [hU]; exact hPc, va_K.moved hW.alike hKc, hDc.weaken (fun _ _ _ _ => trivial)⟩⟩ rfl rfl hl.1 rfl (lv_room (Nat.le_of_ble_eq_true rfl)) d_Wire_next_11 ⟨(Nat.le_of_ble_eq_true rfl), (Nat.le_of_ble_eq_true rfl)⟩) hS (fun q _ h => hFc q h) hFc (fun u t H1 locs ht9 hvm hw hB hz1 hk1 hS => ?_)
  obtain ⟨hP1, hK1, hD1⟩ := hB
  rw [ht9] at hP1
  have hK1 := va_K.moved hvm.symm hK1
  obtain ⟨hP, hD⟩ := va_join (wr := [(h0, .inr (1, [.ref qh, .ref ql, u2, u3, .int (nI 1), .int 0, .int 0, .int 0, .int 0, .int 0, .int 0])), (qh, .inr (0, [vb, .int (nI 0), .int (nI 0)]))]) (w1 := [(ql, .inr (0, [vc, .int (nI 0), .int (nI 0)]))]) hP hD [1] [0, 2] rfl rfl (by decide +kernel) (by decide +kernel) hk1 hFc hP1 hD1
  have hK := (hK.sub (tys' := []) [] rfl).app hK1
  generalize H1 = H at hP hS ⊢
  have hP : va_P (dC, dI) classes [(h0, .inr (1, [.ref qh, .ref ql, u2, u3, .int (nI 1), .int 0, .int 0, .int 0, .int 0, .int 0, .int 0])), (qh, .inr (0, [vb, .int (nI 0), .int (nI 0)])), (ql, .inr (0, [vc, .int (nI 0), .int (nI 0)]))] H := hP
  have hD : va_D A [(h0, .inr (1, [.ref qh, .ref ql, u2, u3, .int (nI 1), .int 0, .int 0, .int 0, .int 0, .int 0, .int 0])), (qh, .inr (0, [vb, .int (nI 0), .int (nI 0)])), (ql, .inr (0, [vc, .int (nI 0), .int (nI 0)]))] := hD
  have hK : va_K (dC, dI) classes [] s := hK
  refine W.widen (k := 0) (n := 0) (by omega) (by omega) ?_
  refine lv_aload_n hx hb d_Wire_next_14 rfl (lv_at hl 0 rfl) ?_
  refine lv_iconst (v := (nI 0)) hx hb d_Wire_next_15 (by decide) ?_
  refine va_put (D := (dC, dI)) (ci := 1) (v := .int (nI 0)) (ty := .int) (C := R_Wire) (T := F_Wire) (N := 11) hx hb ht i_Wire t_Wire t_Wire_ok n_Wire hown hK hP hD hS 0 rfl rfl 7 (by decide) (ht _ k_56) (fun _ h9 => h9) rfl (by decide +kernel) rfl rfl (Nat.le_of_ble_eq_true rfl) d_Wire_next_16 (fun H locs hP hD hS => ?_)
  have hP : va_P (dC, dI) classes [(h0, .inr (1, [.ref qh, .ref ql, u2, u3, .int (nI 1), .int 0, .int 0, .int (nI 0), .int 0, .int 0, .int 0])), (qh, .inr (0, [vb, .int (nI 0), .int (nI 0)])), (ql, .inr (0, [vc, .int (nI 0), .int (nI 0)]))] H := hP
  have hD : va_D A [(h0, .inr (1, [.ref qh, .ref ql, u2, u3, .int (nI 1), .int 0, .int 0, .int (nI 0), .int 0, .int 0, .int 0])), (qh, .inr (0, [vb, .int (nI 0), .int (nI 0)])), (ql, .inr (0, [vc, .int (nI 0), .int (nI 0)]))] := hD
  have hP9 := hP.sub (ws' := []) [] rfl
  have hD9 := hD.sub (ws' := []) [] (by decide +kernel) rfl
  have hK9 := hK.sub (tys' := []) [] rfl
  exact W.vret hx hb hr (fun t ht9 hW => ⟨⟨(), rfl, trivial, by rw [ht9]; exact hP9, va_K.moved hW.alike hK9, hD9⟩, hS.F ht9⟩) hS.2.2 d_Wire_next_19
set_option maxHeartbeats 4000000 in
set_option maxRecDepth 100000 in
/-- open() on a new object: 0 -/
theorem c_Top_open (l : Launch) (dC : Nat → ClassId) (dI : Nat → Nat → Nat) (h0 sz qw qh ql k0 k1 k2 k3 : Nat) (cA : ClassId) (u2 u3 vb vc : Value) (v0 v1 v3 v4 v5 v6 v7 v8 : Value) : Met l y_Top_open (Cond.code y_Top_open b_Top_open 2 (Option.some Jvm.ClassFile.FieldType.int) :: xw0) ({ frames := 2, cells := 0, slots := 0, locals := 60 }) (va_Pc [.ref h0] (fun U => U.heap.size = sz ∧ va_P (dC, dI) classes [(h0, .inr (11, [v0, v1, .ref qw, v3, v4, v5, v6, v7, v8])), (qw, .inl (cA, 4, .inr (.inr (.inr (.inr (va_up (va_up (va_up (va_up (fun _ => none) 0 (some k0)) 1 (some k1)) 2 (some k2)) 3 (some k3))))))), (k0, .inr (1, [.ref qh, .ref ql, u2, u3, .int 0, .int 0, .int 0, .int 0, .int 0, .int 0, .int 0])), (qh, .inr (0, [vb, .int 0, .int 0])), (ql, .inr (0, [vc, .int 0, .int 0]))] U.heap ∧ va_K (dC, dI) classes [(cA, .object R_Wire)] U ∧ va_D (fun _ => True) [(h0, .inr (11, [v0, v1, .ref qw, v3, v4, v5, v6, v7, v8])), (qw, .inl (cA, 4, .inr (.inr (.inr (.inr (va_up (va_up (va_up (va_up (fun _ => none) 0 (some k0)) 1 (some k1)) 2 (some k2)) 3 (some k3))))))), (k0, .inr (1, [.ref qh, .ref ql, u2, u3, .int 0, .int 0, .int 0, .int 0, .int 0, .int 0, .int 0])), (qh, .inr (0, [vb, .int 0, .int 0])), (ql, .inr (0, [vc, .int 0, .int 0]))])) (va_Qi (fun (r : Int32) (_ : Unit) => r = 0) (fun (_ : Unit) (t : State) => va_P (dC, dI) classes [] t.heap ∧ va_K (dC, dI) classes [] t ∧ va_D (va_A [(h0, .inr (11, [v0, v1, .ref qw, v3, v4, v5, v6, v7, v8])), (qw, .inl (cA, 4, .inr (.inr (.inr (.inr (va_up (va_up (va_up (va_up (fun _ => none) 0 (some k0)) 1 (some k1)) 2 (some k2)) 3 (some k3))))))), (k0, .inr (1, [.ref qh, .ref ql, u2, u3, .int 0, .int 0, .int 0, .int 0, .int 0, .int 0, .int 0])), (qh, .inr (0, [vb, .int 0, .int 0])), (ql, .inr (0, [vc, .int 0, .int 0]))] sz) []) (va_A [(h0, .inr (11, [v0, v1, .ref qw, v3, v4, v5, v6, v7, v8])), (qw, .inl (cA, 4, .inr (.inr (.inr (.inr (va_up (va_up (va_up (va_up (fun _ => none) 0 (some k0)) 1 (some k1)) 2 (some k2)) 3 (some k3))))))), (k0, .inr (1, [.ref qh, .ref ql, u2, u3, .int 0, .int 0, .int 0, .int 0, .int 0, .int 0, .int 0])), (qh, .inr (0, [vb, .int 0, .int 0])), (ql, .inr (0, [vc, .int 0, .int 0]))] sz)) 0 0 (va_A [(h0, .inr (11, [v0, v1, .ref qw, v3, v4, v5, v6, v7, v8])), (qw, .inl (cA, 4, .inr (.inr (.inr (.inr (va_up (va_up (va_up (va_up (fun _ => none) 0 (some k0)) 1 (some k1)) 2 (some k2)) 3 (some k3))))))), (k0, .inr (1, [.ref qh, .ref ql, u2, u3, .int 0, .int 0, .int 0, .int 0, .int 0, .int 0, .int 0])), (qh, .inr (0, [vb, .int 0, .int 0])), (ql, .inr (0, [vc, .int 0, .int 0]))] sz) := by
  refine Met.ofW (cc := b_Top_open) (maxL := 2) (ret := (Option.some Jvm.ClassFile.FieldType.int)) (by decide) rfl ?_
  intro p e s m args below meth c s₁ B hml hv
  obtain ⟨rfl, hsz, hP, hK, hD0⟩ := hv
  have hx := B.exec
  have hb := B.bytes
  have hr := B.returns
  have hts := atoms_spec (ws := Cond.code y_Top_open b_Top_open 2 (Option.some Jvm.ClassFile.FieldType.int) :: xw0) B.pre
  have ht : ∀ w ∈ xw0, w.before _ s = true := fun w h => hts w (List.mem_cons_of_mem _ h)
  have hown : s.vm.findClass R_Top = some m.cls := findClass_of_methodNamed B.named
  have hlocks := B.notSynchronized
  subst hsz
  have hD := hD0.self (sz := s.heap.size)
  generalize hAe : va_A [(h0, .inr (11, [v0, v1, .ref qw, v3, v4, v5, v6, v7, v8])), (qw, .inl (cA, 4, .inr (.inr (.inr (.inr (va_up (va_up (va_up (va_up (fun _ => none) 0 (some k0)) 1 (some k1)) 2 (some k2)) 3 (some k3))))))), (k0, .inr (1, [.ref qh, .ref ql, u2, u3, .int 0, .int 0, .int 0, .int 0, .int 0, .int 0, .int 0])), (qh, .inr (0, [vb, .int 0, .int 0])), (ql, .inr (0, [vc, .int 0, .int 0]))] s.heap.size = A at hD ⊢
  have hA : ∀ q : Nat, s.heap.size ≤ q → A q := fun q h => by rw [← hAe]; exact Or.inr h
  have hS : va_S A s.heap s.heap [] := va_S.rf
  have hP : va_P (dC, dI) classes [(h0, .inr (11, [v0, v1, .ref qw, v3, v4, v5, v6, v7, v8])), (qw, .inl (cA, 4, .inr (.inr (.inr (.inr (va_up (va_up (va_up (va_up (fun _ => none) 0 (some k0)) 1 (some k1)) 2 (some k2)) 3 (some k3))))))), (k0, .inr (1, [.ref qh, .ref ql, u2, u3, .int 0, .int 0, .int 0, .int 0, .int 0, .int 0, .int 0])), (qh, .inr (0, [vb, .int 0, .int 0])), (ql, .inr (0, [vc, .int 0, .int 0]))] s.heap := hP
  have hl := lv_entry ([.ref h0]) (n := 2) (Nat.le_of_ble_eq_true rfl)
  rw [lg_entry_eq]
  generalize (lg_sl ([.ref h0]) ++ List.replicate (2 - (lg_sl ([.ref h0])).length) Slot.unset).toArray = ls at hl ⊢
  have hl : lv_has ls 2 [(0, .ref h0)] := hl
  refine lv_iconst (v := (nI 0)) hx hb d_Top_open_0 (by decide) ?_
  refine lv_istore_n (lv' := [(1, .int (nI 0)), (0, .ref h0)]) hx hb d_Top_open_1 rfl hl (by decide) rfl (fun ls hl => ?_)
  refine lv_iload_n hx hb d_Top_open_2 rfl (lv_at hl 0 rfl) ?_
  refine lv_iconst (v := (nI 4)) hx hb d_Top_open_3 (by decide) ?_
  refine lv_icmp_ge (tgt := 46) hx hb d_Top_open_4 (by decide) (fun c_4 => absurd c_4 (by decide)) (fun _ => ?_)
  refine lv_aload_n hx hb d_Top_open_7 rfl (lv_at hl 1 rfl) ?_
  refine va_get (D := (dC, dI)) (ci := 11) (v := .ref qw) (C := R_Top) (T := F_Top) (N := 9) hx hb ht i_Top hown hK hP 0 rfl rfl 2 (by decide) (ht _ k_352) (fun _ h9 => h9) rfl d_Top_open_8 ?_
  refine lv_iload_n hx hb d_Top_open_11 rfl (lv_at hl 0 rfl) ?_
  refine va_aldq hx hb hK hP 1 0 rfl rfl (vp_in_nI (by decide) (by decide)) d_Top_open_12 ?_
  refine xw_topv (.ref k0) (by rw [nI_clamp (by decide)]; rfl) ?_
  refine va_get (D := (dC, dI)) (ci := 1) (v := .int 0) (C := R_Wire) (T := F_Wire) (N := 11) hx hb ht i_Wire hown hK hP 2 rfl rfl 4 (by decide) (ht _ k_55) (fun _ h9 => h9) rfl d_Top_open_13 ?_
  refine lv_if_ne (tgt := 40) hx hb d_Top_open_16 (by decide) (fun c_16_0 => absurd (by decide) c_16_0) (fun _ => ?_)
  refine lv_aload_n hx hb d_Top_open_19 rfl (lv_at hl 1 rfl) ?_
  refine va_get (D := (dC, dI)) (ci := 11) (v := .ref qw) (C := R_Top) (T := F_Top) (N := 9) hx hb ht i_Top hown hK hP 0 rfl rfl 2 (by decide) (ht _ k_352) (fun _ h9 => h9) rfl d_Top_open_20 ?_
  refine lv_iload_n hx hb d_Top_open_23 rfl (lv_at hl 0 rfl) ?_
  refine va_aldq hx hb hK hP 1 0 rfl rfl (vp_in_nI (by decide) (by decide)) d_Top_open_24 ?_
  refine xw_topv (.ref k0) (by rw [nI_clamp (by decide)]; rfl) ?_
  refine lv_iconst (v := (nI 1)) hx hb d_Top_open_25 (by decide) ?_
  refine va_put (D := (dC, dI)) (ci := 1) (v := .int (nI 1)) (ty := .boolean) (C := R_Wire) (T := F_Wire) (N := 11) hx hb ht i_Wire t_Wire t_Wire_ok n_Wire hown hK hP hD hS 2 rfl rfl 4 (by decide) (ht _ k_55) (fun _ h9 => h9) rfl (by decide +kernel) rfl rfl (Nat.le_of_ble_eq_true rfl) d_Top_open_26 (fun H locs hP hD hS => ?_)
  have hP : va_P (dC, dI) classes [(h0, .inr (11, [v0, v1, .ref qw, v3, v4, v5, v6, v7, v8])), (qw, .inl (cA, 4, .inr (.inr (.inr (.inr (va_up (va_up (va_up (va_up (fun _ => none) 0 (some k0)) 1 (some k1)) 2 (some k2)) 3 (some k3))))))), (k0, .inr (1, [.ref qh, .ref ql, u2, u3, .int (nI 1), .int 0, .int 0, .int 0, .int 0, .int 0, .int 0])), (qh, .inr (0, [vb, .int 0, .int 0])), (ql, .inr (0, [vc, .int 0, .int 0]))] H := hP
  have hD : va_D A [(h0, .inr (11, [v0, v1, .ref qw, v3, v4, v5, v6, v7, v8])), (qw, .inl (cA, 4, .inr (.inr (.inr (.inr (va_up (va_up (va_up (va_up (fun _ => none) 0 (some k0)) 1 (some k1)) 2 (some k2)) 3 (some k3))))))), (k0, .inr (1, [.ref qh, .ref ql, u2, u3, .int (nI 1), .int 0, .int 0, .int 0, .int 0, .int 0, .int 0])), (qh, .inr (0, [vb, .int 0, .int 0])), (ql, .inr (0, [vc, .int 0, .int 0]))] := hD
  refine lv_aload_n hx hb d_Top_open_29 rfl (lv_at hl 1 rfl) ?_
  refine va_get (D := (dC, dI)) (ci := 11) (v := .ref qw) (C := R_Top) (T := F_Top) (N := 9) hx hb ht i_Top hown hK hP 0 rfl rfl 2 (by decide) (ht _ k_352) (fun _ h9 => h9) rfl d_Top_open_30 ?_
  refine lv_iload_n hx hb d_Top_open_33 rfl (lv_at hl 0 rfl) ?_
  refine va_aldq hx hb hK hP 1 0 rfl rfl (vp_in_nI (by decide) (by decide)) d_Top_open_34 ?_
  refine xw_topv (.ref k0) (by rw [nI_clamp (by decide)]; rfl) ?_
  have hPc := hP.sub (ws' := [(k0, .inr (1, [.ref qh, .ref ql, u2, u3, .int (nI 1), .int 0, .int 0, .int 0, .int 0, .int 0, .int 0])), (qh, .inr (0, [vb, .int 0, .int 0])), (ql, .inr (0, [vc, .int 0, .int 0]))]) [2, 3, 4] rfl
  have hDc := hD.sub (ws' := [(k0, .inr (1, [.ref qh, .ref ql, u2, u3, .int (nI 1), .int 0, .int 0, .int 0, .int 0, .int 0, .int 0])), (qh, .inr (0, [vb, .int 0, .int 0])), (ql, .inr (0, [vc, .int 0, .int 0]))]) [2, 3, 4] (by decide +kernel) rfl
  have hKc := hK.sub (tys' := []) [] rfl
  have hFc := va_free (wc := [(k0, .inr (1, [.ref qh, .ref ql, u2, u3, .int (nI 1), .int 0, .int 0, .int 0, .int 0, .int 0, .int 0])), (qh, .inr (0, [vb, .int 0, .int 0])), (ql, .inr (0, [vc, .int 0, .int 0]))]) hD hS hA [2, 3, 4] rfl
  refine va_callv (va_runV (As := []) (rest := []) ⟨hx, hb, hml, hown, ht⟩ (c_Wire_next0 l dC dI k0 H.size qh ql u2 u3 vb vc) ⟨callB_of 0 ht (xw_good k_414) rfl rfl rfl (ht _ k_3) (ht _ k_411) (by decide +kernel) ⟨(Nat.le_of_ble_eq_true rfl), (Nat.le_of_ble_eq_true rfl)⟩, ht _ k_412, ht _ k_413⟩ ⟨fun a U g mk q => by obtain ⟨q0, q1, qP, qK, qD⟩ := q; exact ⟨q0, q1, qP, va_K.moved (u := U) (U := U.calling g mk a) (Vm.Alike.refl U.vm) qK, qD⟩, va_recv hKc hPc (ci := 1) (q0 := 0) rfl rfl, fun U hU hW => ⟨rfl, by rw [hU], by rw [hU]; exact hPc, va_K.moved hW.alike hKc, hDc.weaken (fun _ _ _ _ => trivial)⟩⟩ rfl rfl hl.1 rfl (lv_room (Nat.le_of_ble_eq_true rfl)) d_Top_open_35 ⟨(Nat.le_of_ble_eq_true rfl), (Nat.le_of_ble_eq_true rfl)⟩) hS (fun q _ h => hFc q h) hFc (fun u t H1 locs ht9 hvm hw hB hz1 hk1 hS => ?_)
  obtain ⟨hP1, hK1, hD1⟩ := hB
  rw [ht9] at hP1
  have hK1 := va_K.moved hvm.symm hK1
  obtain ⟨hP, hD⟩ := va_join (wr := [(h0, .inr (11, [v0, v1, .ref qw, v3, v4, v5, v6, v7, v8])), (qw, .inl (cA, 4, .inr (.inr (.inr (.inr (va_up (va_up (va_up (va_up (fun _ => none) 0 (some k0)) 1 (some k1)) 2 (some k2)) 3 (some k3)))))))]) (w1 := []) hP hD [2, 3, 4] [0, 1] rfl rfl (by decide +kernel) (by decide +kernel) hk1 hFc hP1 hD1
  have hK := (hK.sub (tys' := [(cA, .object R_Wire)]) [0] rfl).app hK1
  generalize H1 = H at hP hS ⊢
  have hP : va_P (dC, dI) classes [(h0, .inr (11, [v0, v1, .ref qw, v3, v4, v5, v6, v7, v8])), (qw, .inl (cA, 4, .inr (.inr (.inr (.inr (va_up (va_up (va_up (va_up (fun _ => none) 0 (some k0)) 1 (some k1)) 2 (some k2)) 3 (some k3)))))))] H := hP
  have hD : va_D A [(h0, .inr (11, [v0, v1, .ref qw, v3, v4, v5, v6, v7, v8])), (qw, .inl (cA, 4, .inr (.inr (.inr (.inr (va_up (va_up (va_up (va_up (fun _ => none) 0 (some k0)) 1 (some k1)) 2 (some k2)) 3 (some k3)))))))] := hD
  have hK : va_K (dC, dI) classes [(cA, .object R_Wire)] s := hK
  refine W.widen (k := 0) (n := 0) (by omega) (by omega) ?_
  refine lv_iload_n hx hb d_Top_open_38 rfl (lv_at hl 0 rfl) ?_
  have hP9 := hP.sub (ws' := []) [] rfl
  have hD9 := hD.sub (ws' := []) [] (by decide +kernel) rfl
  have hK9 := hK.sub (tys' := []) [] rfl
  exact W.iret hx hb hr (fun t ht9 hW => ⟨⟨(nI 0), (), rfl, rfl, by rw [ht9]; exact hP9, va_K.moved hW.alike hK9, hD9⟩, hS.F ht9⟩) hS.2.2 d_Top_open_39
set_option maxHeartbeats 4000000 in
set_option maxRecDepth 100000 in
/-- isOpen(c) on a new object: false -/
theorem c_Top_isOpen (l : Launch) (dC : Nat → ClassId) (dI : Nat → Nat → Nat) (h0 sz qw k0 k1 k2 k3 : Nat) (cA : ClassId) (u0 u1 u2 u3 : Value) (v0 v1 v3 v4 v5 v6 v7 v8 : Value) (cj : Int32) : Met l y_Top_isOpen (Cond.code y_Top_isOpen b_Top_isOpen 2 (Option.some Jvm.ClassFile.FieldType.boolean) :: xw0) ({ frames := 0, cells := 0, slots := 0, locals := 0 }) (va_Pc [.ref h0, .int cj] (fun U => U.heap.size = sz ∧ va_P (dC, dI) classes [(h0, .inr (11, [v0, v1, .ref qw, v3, v4, v5, v6, v7, v8])), (qw, .inl (cA, 4, .inr (.inr (.inr (.inr (va_up (va_up (va_up (va_up (fun _ => none) 0 (some k0)) 1 (some k1)) 2 (some k2)) 3 (some k3))))))), (k0, .inr (1, [u0, u1, u2, u3, .int 0, .int 0, .int 0, .int 0, .int 0, .int 0, .int 0])), (k1, .inr (16, [.int 0])), (k2, .inr (16, [.int 0])), (k3, .inr (16, [.int 0]))] U.heap ∧ va_K (dC, dI) classes [(cA, .object R_Wire)] U ∧ va_D (fun _ => True) [(h0, .inr (11, [v0, v1, .ref qw, v3, v4, v5, v6, v7, v8])), (qw, .inl (cA, 4, .inr (.inr (.inr (.inr (va_up (va_up (va_up (va_up (fun _ => none) 0 (some k0)) 1 (some k1)) 2 (some k2)) 3 (some k3))))))), (k0, .inr (1, [u0, u1, u2, u3, .int 0, .int 0, .int 0, .int 0, .int 0, .int 0, .int 0])), (k1, .inr (16, [.int 0])), (k2, .inr (16, [.int 0])), (k3, .inr (16, [.int 0]))])) (va_Qi (fun (r : Int32) (_ : Unit) => r = 0) (fun (_ : Unit) (t : State) => va_P (dC, dI) classes [] t.heap ∧ va_K (dC, dI) classes [] t ∧ va_D (va_A [(h0, .inr (11, [v0, v1, .ref qw, v3, v4, v5, v6, v7, v8])), (qw, .inl (cA, 4, .inr (.inr (.inr (.inr (va_up (va_up (va_up (va_up (fun _ => none) 0 (some k0)) 1 (some k1)) 2 (some k2)) 3 (some k3))))))), (k0, .inr (1, [u0, u1, u2, u3, .int 0, .int 0, .int 0, .int 0, .int 0, .int 0, .int 0])), (k1, .inr (16, [.int 0])), (k2, .inr (16, [.int 0])), (k3, .inr (16, [.int 0]))] sz) []) (va_A [(h0, .inr (11, [v0, v1, .ref qw, v3, v4, v5, v6, v7, v8])), (qw, .inl (cA, 4, .inr (.inr (.inr (.inr (va_up (va_up (va_up (va_up (fun _ => none) 0 (some k0)) 1 (some k1)) 2 (some k2)) 3 (some k3))))))), (k0, .inr (1, [u0, u1, u2, u3, .int 0, .int 0, .int 0, .int 0, .int 0, .int 0, .int 0])), (k1, .inr (16, [.int 0])), (k2, .inr (16, [.int 0])), (k3, .inr (16, [.int 0]))] sz)) 0 0 (va_A [(h0, .inr (11, [v0, v1, .ref qw, v3, v4, v5, v6, v7, v8])), (qw, .inl (cA, 4, .inr (.inr (.inr (.inr (va_up (va_up (va_up (va_up (fun _ => none) 0 (some k0)) 1 (some k1)) 2 (some k2)) 3 (some k3))))))), (k0, .inr (1, [u0, u1, u2, u3, .int 0, .int 0, .int 0, .int 0, .int 0, .int 0, .int 0])), (k1, .inr (16, [.int 0])), (k2, .inr (16, [.int 0])), (k3, .inr (16, [.int 0]))] sz) := by
  refine Met.ofW (cc := b_Top_isOpen) (maxL := 2) (ret := (Option.some Jvm.ClassFile.FieldType.boolean)) (by decide) rfl ?_
  intro p e s m args below meth c s₁ B hml hv
  obtain ⟨rfl, hsz, hP, hK, hD0⟩ := hv
  have hx := B.exec
  have hb := B.bytes
  have hr := B.returns
  have hts := atoms_spec (ws := Cond.code y_Top_isOpen b_Top_isOpen 2 (Option.some Jvm.ClassFile.FieldType.boolean) :: xw0) B.pre
  have ht : ∀ w ∈ xw0, w.before _ s = true := fun w h => hts w (List.mem_cons_of_mem _ h)
  have hown : s.vm.findClass R_Top = some m.cls := findClass_of_methodNamed B.named
  have hlocks := B.notSynchronized
  subst hsz
  have hD := hD0.self (sz := s.heap.size)
  generalize hAe : va_A [(h0, .inr (11, [v0, v1, .ref qw, v3, v4, v5, v6, v7, v8])), (qw, .inl (cA, 4, .inr (.inr (.inr (.inr (va_up (va_up (va_up (va_up (fun _ => none) 0 (some k0)) 1 (some k1)) 2 (some k2)) 3 (some k3))))))), (k0, .inr (1, [u0, u1, u2, u3, .int 0, .int 0, .int 0, .int 0, .int 0, .int 0, .int 0])), (k1, .inr (16, [.int 0])), (k2, .inr (16, [.int 0])), (k3, .inr (16, [.int 0]))] s.heap.size = A at hD ⊢
  have hA : ∀ q : Nat, s.heap.size ≤ q → A q := fun q h => by rw [← hAe]; exact Or.inr h
  have hS : va_S A s.heap s.heap [] := va_S.rf
  have hP : va_P (dC, dI) classes [(h0, .inr (11, [v0, v1, .ref qw, v3, v4, v5, v6, v7, v8])), (qw, .inl (cA, 4, .inr (.inr (.inr (.inr (va_up (va_up (va_up (va_up (fun _ => none) 0 (some k0)) 1 (some k1)) 2 (some k2)) 3 (some k3))))))), (k0, .inr (1, [u0, u1, u2, u3, .int 0, .int 0, .int 0, .int 0, .int 0, .int 0, .int 0])), (k1, .inr (16, [.int 0])), (k2, .inr (16, [.int 0])), (k3, .inr (16, [.int 0]))] s.heap := hP
  have hl := lv_entry ([.ref h0, .int cj]) (n := 2) (Nat.le_of_ble_eq_true rfl)
  rw [lg_entry_eq]
  generalize (lg_sl ([.ref h0, .int cj]) ++ List.replicate (2 - (lg_sl ([.ref h0, .int cj])).length) Slot.unset).toArray = ls at hl ⊢
  have hl : lv_has ls 2 [(0, .ref h0), (1, .int cj)] := hl
  refine lv_iload_n hx hb d_Top_isOpen_0 rfl (lv_at hl 1 rfl) ?_
  refine lv_if_lt (tgt := 25) hx hb d_Top_isOpen_1 (by decide) (fun c_1_0 => ?_) (fun c_1_0 => ?_)
  · refine lv_iconst (v := (nI 0)) hx hb d_Top_isOpen_25 (by decide) ?_
    have hP9 := hP.sub (ws' := []) [] rfl
    have hD9 := hD.sub (ws' := []) [] (by decide +kernel) rfl
    have hK9 := hK.sub (tys' := []) [] rfl
    exact W.zret (ty := .boolean) hx hb hr rfl (fun t ht9 hW => ⟨⟨(nI 0), (), rfl, rfl, by rw [ht9]; exact hP9, va_K.moved hW.alike hK9, hD9⟩, hS.F ht9⟩) hS.2.2 d_Top_isOpen_26
  · refine lv_iload_n hx hb d_Top_isOpen_4 rfl (lv_at hl 1 rfl) ?_
    refine lv_iconst (v := (nI 4)) hx hb d_Top_isOpen_5 (by decide) ?_
    refine lv_icmp_ge (tgt := 25) hx hb d_Top_isOpen_6 (by decide) (fun c_6_51 => ?_) (fun c_6_51 => ?_)
    · refine lv_iconst (v := (nI 0)) hx hb d_Top_isOpen_25 (by decide) ?_
      have hP9 := hP.sub (ws' := []) [] rfl
      have hD9 := hD.sub (ws' := []) [] (by decide +kernel) rfl
      have hK9 := hK.sub (tys' := []) [] rfl
      exact W.zret (ty := .boolean) hx hb hr rfl (fun t ht9 hW => ⟨⟨(nI 0), (), rfl, rfl, by rw [ht9]; exact hP9, va_K.moved hW.alike hK9, hD9⟩, hS.F ht9⟩) hS.2.2 d_Top_isOpen_26
    · refine lv_aload_n hx hb d_Top_isOpen_9 rfl (lv_at hl 0 rfl) ?_
      refine va_get (D := (dC, dI)) (ci := 11) (v := .ref qw) (C := R_Top) (T := F_Top) (N := 9) hx hb ht i_Top hown hK hP 0 rfl rfl 2 (by decide) (ht _ k_352) (fun _ h9 => h9) rfl d_Top_isOpen_10 ?_
      refine lv_iload_n hx hb d_Top_isOpen_13 rfl (lv_at hl 1 rfl) ?_
      obtain ⟨k, hk, rfl⟩ := xh_four c_1_0 c_6_51
      rcases (show k = 0 ∨ k = 1 ∨ k = 2 ∨ k = 3 by omega) with rfl | rfl | rfl | rfl
      · refine va_aldq hx hb hK hP 1 0 rfl rfl (vp_in_nI (by decide) (by decide)) d_Top_isOpen_14 ?_
        refine xw_topv (.ref k0) (by rw [nI_clamp (by decide)]; rfl) ?_
        refine va_get (D := (dC, dI)) (ci := 1) (v := .int 0) (C := R_Wire) (T := F_Wire) (N := 11) hx hb ht i_Wire hown hK hP 2 rfl rfl 4 (by decide) (ht _ k_55) (fun _ h9 => h9) rfl d_Top_isOpen_15 ?_
        refine lv_if_eq (tgt := 25) hx hb d_Top_isOpen_18 (by decide) (fun _ => ?_) (fun c_18_102 => absurd (by decide) c_18_102)
        refine lv_iconst (v := (nI 0)) hx hb d_Top_isOpen_25 (by decide) ?_
        have hP9 := hP.sub (ws' := []) [] rfl
        have hD9 := hD.sub (ws' := []) [] (by decide +kernel) rfl
        have hK9 := hK.sub (tys' := []) [] rfl
        exact W.zret (ty := .boolean) hx hb hr rfl (fun t ht9 hW => ⟨⟨(nI 0), (), rfl, rfl, by rw [ht9]; exact hP9, va_K.moved hW.alike hK9, hD9⟩, hS.F ht9⟩) hS.2.2 d_Top_isOpen_26
      · refine va_aldq hx hb hK hP 1 0 rfl rfl (vp_in_nI (by decide) (by decide)) d_Top_isOpen_14 ?_
        refine xw_topv (.ref k1) (by rw [nI_clamp (by decide)]; rfl) ?_
        refine va_get (D := (dC, dI)) (ci := 16) (v := .int 0) (C := R_Wire) (T := F_WireS) (N := 1) hx hb ht i_WireS hown hK hP 3 rfl rfl 0 (by decide) (ht _ k_55) (fun _ h9 => h9) rfl d_Top_isOpen_15 ?_
        refine lv_if_eq (tgt := 25) hx hb d_Top_isOpen_18 (by decide) (fun _ => ?_) (fun c_18_103 => absurd (by decide) c_18_103)
        refine lv_iconst (v := (nI 0)) hx hb d_Top_isOpen_25 (by decide) ?_
        have hP9 := hP.sub (ws' := []) [] rfl
        have hD9 := hD.sub (ws' := []) [] (by decide +kernel) rfl
        have hK9 := hK.sub (tys' := []) [] rfl
        exact W.zret (ty := .boolean) hx hb hr rfl (fun t ht9 hW => ⟨⟨(nI 0), (), rfl, rfl, by rw [ht9]; exact hP9, va_K.moved hW.alike hK9, hD9⟩, hS.F ht9⟩) hS.2.2 d_Top_isOpen_26
      · refine va_aldq hx hb hK hP 1 0 rfl rfl (vp_in_nI (by decide) (by decide)) d_Top_isOpen_14 ?_
        refine xw_topv (.ref k2) (by rw [nI_clamp (by decide)]; rfl) ?_
        refine va_get (D := (dC, dI)) (ci := 16) (v := .int 0) (C := R_Wire) (T := F_WireS) (N := 1) hx hb ht i_WireS hown hK hP 4 rfl rfl 0 (by decide) (ht _ k_55) (fun _ h9 => h9) rfl d_Top_isOpen_15 ?_
        refine lv_if_eq (tgt := 25) hx hb d_Top_isOpen_18 (by decide) (fun _ => ?_) (fun c_18_104 => absurd (by decide) c_18_104)
        refine lv_iconst (v := (nI 0)) hx hb d_Top_isOpen_25 (by decide) ?_
        have hP9 := hP.sub (ws' := []) [] rfl
        have hD9 := hD.sub (ws' := []) [] (by decide +kernel) rfl
        have hK9 := hK.sub (tys' := []) [] rfl
        exact W.zret (ty := .boolean) hx hb hr rfl (fun t ht9 hW => ⟨⟨(nI 0), (), rfl, rfl, by rw [ht9]; exact hP9, va_K.moved hW.alike hK9, hD9⟩, hS.F ht9⟩) hS.2.2 d_Top_isOpen_26
      · refine va_aldq hx hb hK hP 1 0 rfl rfl (vp_in_nI (by decide) (by decide)) d_Top_isOpen_14 ?_
        refine xw_topv (.ref k3) (by rw [nI_clamp (by decide)]; rfl) ?_
        refine va_get (D := (dC, dI)) (ci := 16) (v := .int 0) (C := R_Wire) (T := F_WireS) (N := 1) hx hb ht i_WireS hown hK hP 5 rfl rfl 0 (by decide) (ht _ k_55) (fun _ h9 => h9) rfl d_Top_isOpen_15 ?_
        refine lv_if_eq (tgt := 25) hx hb d_Top_isOpen_18 (by decide) (fun _ => ?_) (fun c_18_105 => absurd (by decide) c_18_105)
        refine lv_iconst (v := (nI 0)) hx hb d_Top_isOpen_25 (by decide) ?_
        have hP9 := hP.sub (ws' := []) [] rfl
        have hD9 := hD.sub (ws' := []) [] (by decide +kernel) rfl
        have hK9 := hK.sub (tys' := []) [] rfl
        exact W.zret (ty := .boolean) hx hb hr rfl (fun t ht9 hW => ⟨⟨(nI 0), (), rfl, rfl, by rw [ht9]; exact hP9, va_K.moved hW.alike hK9, hD9⟩, hS.F ht9⟩) hS.2.2 d_Top_isOpen_26
set_option maxHeartbeats 4000000 in
set_option maxRecDepth 100000 in
/-- shut(c) on a new object: false -/
theorem c_Top_shut (l : Launch) (dC : Nat → ClassId) (dI : Nat → Nat → Nat) (h0 sz qw k0 k1 k2 k3 : Nat) (cA : ClassId) (u0 u1 u2 u3 : Value) (v0 v1 v3 v4 v5 v6 v7 v8 : Value) (cj : Int32) : Met l y_Top_shut (Cond.code y_Top_shut b_Top_shut 2 (Option.some Jvm.ClassFile.FieldType.boolean) :: xw0) ({ frames := 1, cells := 0, slots := 0, locals := 30 }) (va_Pc [.ref h0, .int cj] (fun U => U.heap.size = sz ∧ va_P (dC, dI) classes [(h0, .inr (11, [v0, v1, .ref qw, v3, v4, v5, v6, v7, v8])), (qw, .inl (cA, 4, .inr (.inr (.inr (.inr (va_up (va_up (va_up (va_up (fun _ => none) 0 (some k0)) 1 (some k1)) 2 (some k2)) 3 (some k3))))))), (k0, .inr (1, [u0, u1, u2, u3, .int 0, .int 0, .int 0, .int 0, .int 0, .int 0, .int 0])), (k1, .inr (16, [.int 0])), (k2, .inr (16, [.int 0])), (k3, .inr (16, [.int 0]))] U.heap ∧ va_K (dC, dI) classes [(cA, .object R_Wire)] U ∧ va_D (fun _ => True) [(h0, .inr (11, [v0, v1, .ref qw, v3, v4, v5, v6, v7, v8])), (qw, .inl (cA, 4, .inr (.inr (.inr (.inr (va_up (va_up (va_up (va_up (fun _ => none) 0 (some k0)) 1 (some k1)) 2 (some k2)) 3 (some k3))))))), (k0, .inr (1, [u0, u1, u2, u3, .int 0, .int 0, .int 0, .int 0, .int 0, .int 0, .int 0])), (k1, .inr (16, [.int 0])), (k2, .inr (16, [.int 0])), (k3, .inr (16, [.int 0]))])) (va_Qi (fun (r : Int32) (_ : Unit) => r = 0) (fun (_ : Unit) (t : State) => va_P (dC, dI) classes [] t.heap ∧ va_K (dC, dI) classes [] t ∧ va_D (va_A [(h0, .inr (11, [v0, v1, .ref qw, v3, v4, v5, v6, v7, v8])), (qw, .inl (cA, 4, .inr (.inr (.inr (.inr (va_up (va_up (va_up (va_up (fun _ => none) 0 (some k0)) 1 (some k1)) 2 (some k2)) 3 (some k3))))))), (k0, .inr (1, [u0, u1, u2, u3, .int 0, .int 0, .int 0, .int 0, .int 0, .int 0, .int 0])), (k1, .inr (16, [.int 0])), (k2, .inr (16, [.int 0])), (k3, .inr (16, [.int 0]))] sz) []) (va_A [(h0, .inr (11, [v0, v1, .ref qw, v3, v4, v5, v6, v7, v8])), (qw, .inl (cA, 4, .inr (.inr (.inr (.inr (va_up (va_up (va_up (va_up (fun _ => none) 0 (some k0)) 1 (some k1)) 2 (some k2)) 3 (some k3))))))), (k0, .inr (1, [u0, u1, u2, u3, .int 0, .int 0, .int 0, .int 0, .int 0, .int 0, .int 0])), (k1, .inr (16, [.int 0])), (k2, .inr (16, [.int 0])), (k3, .inr (16, [.int 0]))] sz)) 0 0 (va_A [(h0, .inr (11, [v0, v1, .ref qw, v3, v4, v5, v6, v7, v8])), (qw, .inl (cA, 4, .inr (.inr (.inr (.inr (va_up (va_up (va_up (va_up (fun _ => none) 0 (some k0)) 1 (some k1)) 2 (some k2)) 3 (some k3))))))), (k0, .inr (1, [u0, u1, u2, u3, .int 0, .int 0, .int 0, .int 0, .int 0, .int 0, .int 0])), (k1, .inr (16, [.int 0])), (k2, .inr (16, [.int 0])), (k3, .inr (16, [.int 0]))] sz) := by
  refine Met.ofW (cc := b_Top_shut) (maxL := 2) (ret := (Option.some Jvm.ClassFile.FieldType.boolean)) (by decide) rfl ?_
  intro p e s m args below meth c s₁ B hml hv
  obtain ⟨rfl, hsz, hP, hK, hD0⟩ := hv
  have hx := B.exec
  have hb := B.bytes
  have hr := B.returns
  have hts := atoms_spec (ws := Cond.code y_Top_shut b_Top_shut 2 (Option.some Jvm.ClassFile.FieldType.boolean) :: xw0) B.pre
  have ht : ∀ w ∈ xw0, w.before _ s = true := fun w h => hts w (List.mem_cons_of_mem _ h)
  have hown : s.vm.findClass R_Top = some m.cls := findClass_of_methodNamed B.named
  have hlocks := B.notSynchronized
  subst hsz
  have hD := hD0.self (sz := s.heap.size)
  generalize hAe : va_A [(h0, .inr (11, [v0, v1, .ref qw, v3, v4, v5, v6, v7, v8])), (qw, .inl (cA, 4, .inr (.inr (.inr (.inr (va_up (va_up (va_up (va_up (fun _ => none) 0 (some k0)) 1 (some k1)) 2 (some k2)) 3 (some k3))))))), (k0, .inr (1, [u0, u1, u2, u3, .int 0, .int 0, .int 0, .int 0, .int 0, .int 0, .int 0])), (k1, .inr (16, [.int 0])), (k2, .inr (16, [.int 0])), (k3, .inr (16, [.int 0]))] s.heap.size = A at hD ⊢
  have hA : ∀ q : Nat, s.heap.size ≤ q → A q := fun q h => by rw [← hAe]; exact Or.inr h
  have hS : va_S A s.heap s.heap [] := va_S.rf
  have hP : va_P (dC, dI) classes [(h0, .inr (11, [v0, v1, .ref qw, v3, v4, v5, v6, v7, v8])), (qw, .inl (cA, 4, .inr (.inr (.inr (.inr (va_up (va_up (va_up (va_up (fun _ => none) 0 (some k0)) 1 (some k1)) 2 (some k2)) 3 (some k3))))))), (k0, .inr (1, [u0, u1, u2, u3, .int 0, .int 0, .int 0, .int 0, .int 0, .int 0, .int 0])), (k1, .inr (16, [.int 0])), (k2, .inr (16, [.int 0])), (k3, .inr (16, [.int 0]))] s.heap := hP
  have hl := lv_entry ([.ref h0, .int cj]) (n := 2) (Nat.le_of_ble_eq_true rfl)
  rw [lg_entry_eq]
  generalize (lg_sl ([.ref h0, .int cj]) ++ List.replicate (2 - (lg_sl ([.ref h0, .int cj])).length) Slot.unset).toArray = ls at hl ⊢
  have hl : lv_has ls 2 [(0, .ref h0), (1, .int cj)] := hl
  refine lv_aload_n hx hb d_Top_shut_0 rfl (lv_at hl 0 rfl) ?_
  refine lv_iload_n hx hb d_Top_shut_1 rfl (lv_at hl 1 rfl) ?_
  have hPc := hP.sub (ws' := [(h0, .inr (11, [v0, v1, .ref qw, v3, v4, v5, v6, v7, v8])), (qw, .inl (cA, 4, .inr (.inr (.inr (.inr (va_up (va_up (va_up (va_up (fun _ => none) 0 (some k0)) 1 (some k1)) 2 (some k2)) 3 (some k3))))))), (k0, .inr (1, [u0, u1, u2, u3, .int 0, .int 0, .int 0, .int 0, .int 0, .int 0, .int 0])), (k1, .inr (16, [.int 0])), (k2, .inr (16, [.int 0])), (k3, .inr (16, [.int 0]))]) [0, 1, 2, 3, 4, 5] rfl
  have hDc := hD.sub (ws' := [(h0, .inr (11, [v0, v1, .ref qw, v3, v4, v5, v6, v7, v8])), (qw, .inl (cA, 4, .inr (.inr (.inr (.inr (va_up (va_up (va_up (va_up (fun _ => none) 0 (some k0)) 1 (some k1)) 2 (some k2)) 3 (some k3))))))), (k0, .inr (1, [u0, u1, u2, u3, .int 0, .int 0, .int 0, .int 0, .int 0, .int 0, .int 0])), (k1, .inr (16, [.int 0])), (k2, .inr (16, [.int 0])), (k3, .inr (16, [.int 0]))]) [0, 1, 2, 3, 4, 5] (by decide +kernel) rfl
  have hKc := hK.sub (tys' := [(cA, .object R_Wire)]) [0] rfl
  have hFc := va_free (wc := [(h0, .inr (11, [v0, v1, .ref qw, v3, v4, v5, v6, v7, v8])), (qw, .inl (cA, 4, .inr (.inr (.inr (.inr (va_up (va_up (va_up (va_up (fun _ => none) 0 (some k0)) 1 (some k1)) 2 (some k2)) 3 (some k3))))))), (k0, .inr (1, [u0, u1, u2, u3, .int 0, .int 0, .int 0, .int 0, .int 0, .int 0, .int 0])), (k1, .inr (16, [.int 0])), (k2, .inr (16, [.int 0])), (k3, .inr (16, [.int 0]))]) hD hS hA [0, 1, 2, 3, 4, 5] rfl
  refine va_calli (va_runV (As := [.int cj]) (rest := []) ⟨hx, hb, hml, hown, ht⟩ (c_Top_isOpen l dC dI h0 s.heap.size qw k0 k1 k2 k3 cA u0 u1 u2 u3 v0 v1 v3 v4 v5 v6 v7 v8 cj) ⟨callB_of 1 ht (xw_good k_419) rfl rfl rfl (ht _ k_1) (ht _ k_424) (by decide +kernel) ⟨(Nat.le_of_ble_eq_true rfl), (Nat.le_of_ble_eq_true rfl)⟩, ht _ k_417, ht _ k_418⟩ ⟨fun a U g mk q => by obtain ⟨q0, q1, qP, qK, qD⟩ := q; exact ⟨q0, q1, qP, va_K.moved (u := U) (U := U.calling g mk a) (Vm.Alike.refl U.vm) qK, qD⟩, va_recv hKc hPc (ci := 11) (q0 := 0) rfl rfl, fun U hU hW => ⟨rfl, by rw [hU], by rw [hU]; exact hPc, va_K.moved hW.alike hKc, hDc.weaken (fun _ _ _ _ => trivial)⟩⟩ rfl rfl hl.1 rfl (lv_room (Nat.le_of_ble_eq_true rfl)) d_Top_shut_2 ⟨(Nat.le_of_ble_eq_true rfl), (Nat.le_of_ble_eq_true rfl)⟩) hS (fun q _ h => hFc q h) hFc (fun r1 u t H1 locs ht9 hvm hw hB hz1 hk1 hS => ?_)
  obtain ⟨hP1, hK1, hD1⟩ := hB
  rw [ht9] at hP1
  have hK1 := va_K.moved hvm.symm hK1
  obtain ⟨hP, hD⟩ := va_join (wr := []) (w1 := []) hP hD [0, 1, 2, 3, 4, 5] [] rfl rfl (by decide +kernel) (by decide +kernel) hk1 hFc hP1 hD1
  have hK := (hK.sub (tys' := []) [] rfl).app hK1
  generalize H1 = H at hP hS ⊢
  have hP : va_P (dC, dI) classes [] H := hP
  have hD : va_D A [] := hD
  have hK : va_K (dC, dI) classes [] s := hK
  refine W.widen (k := 0) (n := 0) (by omega) (by omega) ?_
  have hw : r1 = 0 := hw
  subst hw
  refine lv_if_ne (tgt := 10) hx hb d_Top_shut_5 (by decide) (fun c_5_1 => absurd (by decide) c_5_1) (fun _ => ?_)
  refine lv_iconst (v := (nI 0)) hx hb d_Top_shut_8 (by decide) ?_
  have hP9 := hP.sub (ws' := []) [] rfl
  have hD9 := hD.sub (ws' := []) [] (by decide +kernel) rfl
  have hK9 := hK.sub (tys' := []) [] rfl
  exact W.zret (ty := .boolean) hx hb hr rfl (fun t ht9 hW => ⟨⟨(nI 0), (), rfl, rfl, by rw [ht9]; exact hP9, va_K.moved hW.alike hK9, hD9⟩, hS.F ht9⟩) hS.2.2 d_Top_shut_9
set_option maxHeartbeats 4000000 in
set_option maxRecDepth 100000 in
/-- out() on a new object: 0 -/
theorem c_Top_out (l : Launch) (dC : Nat → ClassId) (dI : Nat → Nat → Nat) (h0 sz qa : Nat) (vb : Value) (v0 v2 v3 v4 v5 v6 v7 v8 : Value) : Met l y_Top_out (Cond.code y_Top_out b_Top_out 1 (Option.some Jvm.ClassFile.FieldType.int) :: xw0) ({ frames := 0, cells := 0, slots := 0, locals := 0 }) (va_Pc [.ref h0] (fun U => U.heap.size = sz ∧ va_P (dC, dI) classes [(h0, .inr (11, [v0, .ref qa, v2, v3, v4, v5, v6, v7, v8])), (qa, .inr (0, [vb, .int 0, .int 0]))] U.heap ∧ va_K (dC, dI) classes [] U ∧ va_D (fun _ => True) [(h0, .inr (11, [v0, .ref qa, v2, v3, v4, v5, v6, v7, v8])), (qa, .inr (0, [vb, .int 0, .int 0]))])) (va_Qi (fun (r : Int32) (_ : Unit) => r = 0) (fun (_ : Unit) (t : State) => va_P (dC, dI) classes [] t.heap ∧ va_K (dC, dI) classes [] t ∧ va_D (va_A [(h0, .inr (11, [v0, .ref qa, v2, v3, v4, v5, v6, v7, v8])), (qa, .inr (0, [vb, .int 0, .int 0]))] sz) []) (va_A [(h0, .inr (11, [v0, .ref qa, v2, v3, v4, v5, v6, v7, v8])), (qa, .inr (0, [vb, .int 0, .int 0]))] sz)) 0 0 (va_A [(h0, .inr (11, [v0, .ref qa, v2, v3, v4, v5, v6, v7, v8])), (qa, .inr (0, [vb, .int 0, .int 0]))] sz) := by
  refine Met.ofW (cc := b_Top_out) (maxL := 1) (ret := (Option.some Jvm.ClassFile.FieldType.int)) (by decide) rfl ?_
  intro p e s m args below meth c s₁ B hml hv
  obtain ⟨rfl, hsz, hP, hK, hD0⟩ := hv
  have hx := B.exec
  have hb := B.bytes
  have hr := B.returns
  have hts := atoms_spec (ws := Cond.code y_Top_out b_Top_out 1 (Option.some Jvm.ClassFile.FieldType.int) :: xw0) B.pre
  have ht : ∀ w ∈ xw0, w.before _ s = true := fun w h => hts w (List.mem_cons_of_mem _ h)
  have hown : s.vm.findClass R_Top = some m.cls := findClass_of_methodNamed B.named
  have hlocks := B.notSynchronized
  subst hsz
  have hD := hD0.self (sz := s.heap.size)
  generalize hAe : va_A [(h0, .inr (11, [v0, .ref qa, v2, v3, v4, v5, v6, v7, v8])), (qa, .inr (0, [vb, .int 0, .int 0]))] s.heap.size = A at hD ⊢
  have hA : ∀ q : Nat, s.heap.size ≤ q → A q := fun q h => by rw [← hAe]; exact Or.inr h
  have hS : va_S A s.heap s.heap [] := va_S.rf
  have hP : va_P (dC, dI) classes [(h0, .inr (11, [v0, .ref qa, v2, v3, v4, v5, v6, v7, v8])), (qa, .inr (0, [vb, .int 0, .int 0]))] s.heap := hP
  have hl := lv_entry ([.ref h0]) (n := 1) (Nat.le_of_ble_eq_true rfl)
  rw [lg_entry_eq]
  generalize (lg_sl ([.ref h0]) ++ List.replicate (1 - (lg_sl ([.ref h0])).length) Slot.unset).toArray = ls at hl ⊢
  have hl : lv_has ls 1 [(0, .ref h0)] := hl
  refine lv_aload_n hx hb d_Top_out_0 rfl (lv_at hl 0 rfl) ?_
  refine va_get (D := (dC, dI)) (ci := 11) (v := .ref qa) (C := R_Top) (T := F_Top) (N := 9) hx hb ht i_Top hown hK hP 0 rfl rfl 1 (by decide) (ht _ k_351) (fun _ h9 => h9) rfl d_Top_out_1 ?_
  refine va_get (D := (dC, dI)) (ci := 0) (v := .int 0) (C := R_Row) (T := F_Row) (N := 3) hx hb ht i_Row hown hK hP 1 rfl rfl 1 (by decide) (ht _ k_31) (fun _ h9 => h9) rfl d_Top_out_4 ?_
  have hP9 := hP.sub (ws' := []) [] rfl
  have hD9 := hD.sub (ws' := []) [] (by decide +kernel) rfl
  have hK9 := hK.sub (tys' := []) [] rfl
  exact W.iret hx hb hr (fun t ht9 hW => ⟨⟨0, (), rfl, rfl, by rw [ht9]; exact hP9, va_K.moved hW.alike hK9, hD9⟩, hS.F ht9⟩) hS.2.2 d_Top_out_7
