theorem d_Model_turn_0 : decode b_Model_turn 0 = .ok (.aload_n 0, 1) := by decide +kernel
theorem d_Model_turn_1 : decode b_Model_turn 1 = .ok (.iconst 0, 1) := by decide +kernel
theorem d_Model_turn_2 : decode b_Model_turn 2 = .ok (.putfield 340, 3) := by decide +kernel
theorem d_Model_turn_5 : decode b_Model_turn 5 = .ok (.aload_n 0, 1) := by decide +kernel
theorem d_Model_turn_6 : decode b_Model_turn 6 = .ok (.getfield 343, 3) := by decide +kernel
theorem d_Model_turn_9 : decode b_Model_turn 9 = .ok (.istore_n 2, 1) := by decide +kernel
theorem d_Model_turn_10 : decode b_Model_turn 10 = .ok (.aload_n 0, 1) := by decide +kernel
theorem d_Model_turn_11 : decode b_Model_turn 11 = .ok (.iconst 0, 1) := by decide +kernel
theorem d_Model_turn_12 : decode b_Model_turn 12 = .ok (.putfield 343, 3) := by decide +kernel
theorem d_Model_turn_15 : decode b_Model_turn 15 = .ok (.aload_n 0, 1) := by decide +kernel
theorem d_Model_turn_16 : decode b_Model_turn 16 = .ok (.iconst 0, 1) := by decide +kernel
theorem d_Model_turn_17 : decode b_Model_turn 17 = .ok (.putfield 378, 3) := by decide +kernel
theorem d_Model_turn_20 : decode b_Model_turn 20 = .ok (.aload_n 0, 1) := by decide +kernel
theorem d_Model_turn_21 : decode b_Model_turn 21 = .ok (.iconst 0, 1) := by decide +kernel
theorem d_Model_turn_22 : decode b_Model_turn 22 = .ok (.putfield 448, 3) := by decide +kernel
theorem d_Model_turn_25 : decode b_Model_turn 25 = .ok (.aload_n 0, 1) := by decide +kernel
theorem d_Model_turn_26 : decode b_Model_turn 26 = .ok (.iconst 0, 1) := by decide +kernel
theorem d_Model_turn_27 : decode b_Model_turn 27 = .ok (.putfield 519, 3) := by decide +kernel
theorem d_Model_turn_30 : decode b_Model_turn 30 = .ok (.iload_n 1, 1) := by decide +kernel
theorem d_Model_turn_31 : decode b_Model_turn 31 = .ok (.ifCond .eq 13, 3) := by decide +kernel
theorem d_Model_turn_34 : decode b_Model_turn 34 = .ok (.iload_n 1, 1) := by decide +kernel
theorem d_Model_turn_35 : decode b_Model_turn 35 = .ok (.iconst 3, 1) := by decide +kernel
theorem d_Model_turn_36 : decode b_Model_turn 36 = .ok (.if_icmp .eq 8, 3) := by decide +kernel
theorem d_Model_turn_39 : decode b_Model_turn 39 = .ok (.iload_n 1, 1) := by decide +kernel
theorem d_Model_turn_40 : decode b_Model_turn 40 = .ok (.iconst 4, 1) := by decide +kernel
theorem d_Model_turn_41 : decode b_Model_turn 41 = .ok (.if_icmp .ne 16, 3) := by decide +kernel
theorem d_Model_turn_44 : decode b_Model_turn 44 = .ok (.aload_n 0, 1) := by decide +kernel
theorem d_Model_turn_45 : decode b_Model_turn 45 = .ok (.aload_n 0, 1) := by decide +kernel
theorem d_Model_turn_46 : decode b_Model_turn 46 = .ok (.getfield 7, 3) := by decide +kernel
theorem d_Model_turn_49 : decode b_Model_turn 49 = .ok (.iconst 0, 1) := by decide +kernel
theorem d_Model_turn_50 : decode b_Model_turn 50 = .ok (.iload_n 2, 1) := by decide +kernel
theorem d_Model_turn_51 : decode b_Model_turn 51 = .ok (.invokevirtual 781, 3) := by decide +kernel
theorem d_Model_turn_54 : decode b_Model_turn 54 = .ok (.ifCond .ne 5, 3) := by decide +kernel
theorem d_Model_turn_57 : decode b_Model_turn 57 = .ok (.iconst (-1), 1) := by decide +kernel
theorem d_Model_turn_58 : decode b_Model_turn 58 = .ok (.ireturn, 1) := by decide +kernel
theorem d_Model_readCard_0 : decode b_Model_readCard 0 = .ok (.aload_n 0, 1) := by decide +kernel
theorem d_Model_readCard_1 : decode b_Model_readCard 1 = .ok (.iconst 0, 1) := by decide +kernel
theorem d_Model_readCard_2 : decode b_Model_readCard 2 = .ok (.putfield 1039, 3) := by decide +kernel
theorem d_Model_readCard_5 : decode b_Model_readCard 5 = .ok (.aload_n 0, 1) := by decide +kernel
theorem d_Model_readCard_6 : decode b_Model_readCard 6 = .ok (.iconst 0, 1) := by decide +kernel
theorem d_Model_readCard_7 : decode b_Model_readCard 7 = .ok (.putfield 1042, 3) := by decide +kernel
theorem d_Model_readCard_10 : decode b_Model_readCard 10 = .ok (.aload_n 0, 1) := by decide +kernel
theorem d_Model_readCard_11 : decode b_Model_readCard 11 = .ok (.iconst 0, 1) := by decide +kernel
theorem d_Model_readCard_12 : decode b_Model_readCard 12 = .ok (.putfield 1045, 3) := by decide +kernel
theorem d_Model_readCard_15 : decode b_Model_readCard 15 = .ok (.aload_n 0, 1) := by decide +kernel
theorem d_Model_readCard_16 : decode b_Model_readCard 16 = .ok (.getfield 261, 3) := by decide +kernel
theorem d_Model_readCard_19 : decode b_Model_readCard 19 = .ok (.iconst 0, 1) := by decide +kernel
theorem d_Model_readCard_20 : decode b_Model_readCard 20 = .ok (.iconst 0, 1) := by decide +kernel
theorem d_Model_readCard_21 : decode b_Model_readCard 21 = .ok (.iastore, 1) := by decide +kernel
theorem d_Model_readCard_22 : decode b_Model_readCard 22 = .ok (.aload_n 0, 1) := by decide +kernel
theorem d_Model_readCard_23 : decode b_Model_readCard 23 = .ok (.aload_n 1, 1) := by decide +kernel
theorem d_Model_readCard_24 : decode b_Model_readCard 24 = .ok (.iload_n 2, 1) := by decide +kernel
theorem d_Model_readCard_25 : decode b_Model_readCard 25 = .ok (.iload_n 3, 1) := by decide +kernel
theorem d_Model_readCard_26 : decode b_Model_readCard 26 = .ok (.invokevirtual 1048, 3) := by decide +kernel
theorem d_Model_readCard_29 : decode b_Model_readCard 29 = .ok (.ifCond .ne 5, 3) := by decide +kernel
theorem d_Model_readCard_32 : decode b_Model_readCard 32 = .ok (.iconst 0, 1) := by decide +kernel
theorem d_Model_readCard_33 : decode b_Model_readCard 33 = .ok (.ireturn, 1) := by decide +kernel
theorem d_Model_unfold_0 : decode b_Model_unfold 0 = .ok (.aload_n 0, 1) := by decide +kernel
theorem d_Model_unfold_1 : decode b_Model_unfold 1 = .ok (.iconst 0, 1) := by decide +kernel
theorem d_Model_unfold_2 : decode b_Model_unfold 2 = .ok (.putfield 1036, 3) := by decide +kernel
theorem d_Model_unfold_5 : decode b_Model_unfold 5 = .ok (.iconst 0, 1) := by decide +kernel
theorem d_Model_unfold_6 : decode b_Model_unfold 6 = .ok (.istore 4, 2) := by decide +kernel
theorem d_Model_unfold_8 : decode b_Model_unfold 8 = .ok (.iload 4, 2) := by decide +kernel
theorem d_Model_unfold_10 : decode b_Model_unfold 10 = .ok (.iload_n 3, 1) := by decide +kernel
theorem d_Model_unfold_11 : decode b_Model_unfold 11 = .ok (.if_icmp .ge 99, 3) := by decide +kernel
theorem d_Model_unfold_110 : decode b_Model_unfold 110 = .ok (.iconst 0, 1) := by decide +kernel
theorem d_Model_unfold_111 : decode b_Model_unfold 111 = .ok (.istore 4, 2) := by decide +kernel
theorem d_Model_unfold_113 : decode b_Model_unfold 113 = .ok (.iload 4, 2) := by decide +kernel
theorem d_Model_unfold_115 : decode b_Model_unfold 115 = .ok (.aload_n 0, 1) := by decide +kernel
theorem d_Model_unfold_116 : decode b_Model_unfold 116 = .ok (.getfield 1036, 3) := by decide +kernel
theorem d_Model_unfold_119 : decode b_Model_unfold 119 = .ok (.if_icmp .ge 146, 3) := by decide +kernel
theorem d_Model_unfold_265 : decode b_Model_unfold 265 = .ok (.aload_n 0, 1) := by decide +kernel
theorem d_Model_unfold_266 : decode b_Model_unfold 266 = .ok (.getfield 1036, 3) := by decide +kernel
theorem d_Model_unfold_269 : decode b_Model_unfold 269 = .ok (.iconst 1, 1) := by decide +kernel
theorem d_Model_unfold_270 : decode b_Model_unfold 270 = .ok (.if_icmp .le 23, 3) := by decide +kernel
theorem d_Model_unfold_293 : decode b_Model_unfold 293 = .ok (.iconst 0, 1) := by decide +kernel
theorem d_Model_unfold_294 : decode b_Model_unfold 294 = .ok (.ireturn, 1) := by decide +kernel
theorem d_Model_cards_0 : decode b_Model_cards 0 = .ok (.iconst 0, 1) := by decide +kernel
theorem d_Model_cards_1 : decode b_Model_cards 1 = .ok (.istore_n 1, 1) := by decide +kernel
theorem d_Model_cards_2 : decode b_Model_cards 2 = .ok (.iconst 0, 1) := by decide +kernel
theorem d_Model_cards_3 : decode b_Model_cards 3 = .ok (.istore_n 2, 1) := by decide +kernel
theorem d_Model_cards_4 : decode b_Model_cards 4 = .ok (.iload_n 2, 1) := by decide +kernel
theorem d_Model_cards_5 : decode b_Model_cards 5 = .ok (.bipush 16, 2) := by decide +kernel
theorem d_Model_cards_7 : decode b_Model_cards 7 = .ok (.if_icmp .ge 26, 3) := by decide +kernel
theorem d_Model_cards_10 : decode b_Model_cards 10 = .ok (.iload_n 1, 1) := by decide +kernel
theorem d_Model_cards_11 : decode b_Model_cards 11 = .ok (.aload_n 0, 1) := by decide +kernel
theorem d_Model_cards_12 : decode b_Model_cards 12 = .ok (.getfield 89, 3) := by decide +kernel
theorem d_Model_cards_15 : decode b_Model_cards 15 = .ok (.iload_n 2, 1) := by decide +kernel
theorem d_Model_cards_16 : decode b_Model_cards 16 = .ok (.baload, 1) := by decide +kernel
theorem d_Model_cards_17 : decode b_Model_cards 17 = .ok (.ifCond .eq 7, 3) := by decide +kernel
theorem d_Model_cards_24 : decode b_Model_cards 24 = .ok (.iconst 0, 1) := by decide +kernel
theorem d_Model_cards_25 : decode b_Model_cards 25 = .ok (.iadd, 1) := by decide +kernel
theorem d_Model_cards_26 : decode b_Model_cards 26 = .ok (.istore_n 1, 1) := by decide +kernel
theorem d_Model_cards_27 : decode b_Model_cards 27 = .ok (.iinc 2 1, 3) := by decide +kernel
theorem d_Model_cards_30 : decode b_Model_cards 30 = .ok (.goto (-26), 3) := by decide +kernel
theorem d_Model_cards_33 : decode b_Model_cards 33 = .ok (.iload_n 1, 1) := by decide +kernel
theorem d_Model_cards_34 : decode b_Model_cards 34 = .ok (.ireturn, 1) := by decide +kernel
theorem d_Model_count_0 : decode b_Model_count 0 = .ok (.aload_n 0, 1) := by decide +kernel
theorem d_Model_count_1 : decode b_Model_count 1 = .ok (.iconst 0, 1) := by decide +kernel
theorem d_Model_count_2 : decode b_Model_count 2 = .ok (.putfield 340, 3) := by decide +kernel
theorem d_Model_count_5 : decode b_Model_count 5 = .ok (.iload_n 1, 1) := by decide +kernel
theorem d_Model_count_6 : decode b_Model_count 6 = .ok (.iconst 1, 1) := by decide +kernel
theorem d_Model_count_7 : decode b_Model_count 7 = .ok (.if_icmp .ne 8, 3) := by decide +kernel
theorem d_Model_count_10 : decode b_Model_count 10 = .ok (.aload_n 0, 1) := by decide +kernel
theorem d_Model_count_11 : decode b_Model_count 11 = .ok (.invokevirtual 836, 3) := by decide +kernel
theorem d_Model_count_14 : decode b_Model_count 14 = .ok (.ireturn, 1) := by decide +kernel
theorem d_Model_count_15 : decode b_Model_count 15 = .ok (.iload_n 1, 1) := by decide +kernel
theorem d_Model_count_16 : decode b_Model_count 16 = .ok (.iconst 2, 1) := by decide +kernel
theorem d_Model_count_17 : decode b_Model_count 17 = .ok (.if_icmp .ne 8, 3) := by decide +kernel
theorem d_Model_count_20 : decode b_Model_count 20 = .ok (.aload_n 0, 1) := by decide +kernel
theorem d_Model_count_21 : decode b_Model_count 21 = .ok (.getfield 768, 3) := by decide +kernel
theorem d_Model_count_24 : decode b_Model_count 24 = .ok (.ireturn, 1) := by decide +kernel
theorem d_Model_count_25 : decode b_Model_count 25 = .ok (.iconst 0, 1) := by decide +kernel
theorem d_Model_count_26 : decode b_Model_count 26 = .ok (.istore_n 2, 1) := by decide +kernel
theorem d_Model_count_27 : decode b_Model_count 27 = .ok (.iconst 0, 1) := by decide +kernel
theorem d_Model_count_28 : decode b_Model_count 28 = .ok (.istore_n 3, 1) := by decide +kernel
theorem d_Model_count_29 : decode b_Model_count 29 = .ok (.iload_n 3, 1) := by decide +kernel
theorem d_Model_count_30 : decode b_Model_count 30 = .ok (.bipush 6, 2) := by decide +kernel
theorem d_Model_count_32 : decode b_Model_count 32 = .ok (.if_icmp .ge 26, 3) := by decide +kernel
theorem d_Model_count_35 : decode b_Model_count 35 = .ok (.iload_n 2, 1) := by decide +kernel
theorem d_Model_count_36 : decode b_Model_count 36 = .ok (.aload_n 0, 1) := by decide +kernel
theorem d_Model_count_37 : decode b_Model_count 37 = .ok (.getfield 41, 3) := by decide +kernel
theorem d_Model_count_40 : decode b_Model_count 40 = .ok (.iload_n 3, 1) := by decide +kernel
theorem d_Model_count_41 : decode b_Model_count 41 = .ok (.baload, 1) := by decide +kernel
theorem d_Model_count_42 : decode b_Model_count 42 = .ok (.ifCond .eq 7, 3) := by decide +kernel
theorem d_Model_count_49 : decode b_Model_count 49 = .ok (.iconst 0, 1) := by decide +kernel
theorem d_Model_count_50 : decode b_Model_count 50 = .ok (.iadd, 1) := by decide +kernel
theorem d_Model_count_51 : decode b_Model_count 51 = .ok (.istore_n 2, 1) := by decide +kernel
theorem d_Model_count_52 : decode b_Model_count 52 = .ok (.iinc 3 1, 3) := by decide +kernel
theorem d_Model_count_55 : decode b_Model_count 55 = .ok (.goto (-26), 3) := by decide +kernel
theorem d_Model_count_58 : decode b_Model_count 58 = .ok (.iload_n 1, 1) := by decide +kernel
theorem d_Model_count_59 : decode b_Model_count 59 = .ok (.ifCond .ne 7, 3) := by decide +kernel
theorem d_Model_count_62 : decode b_Model_count 62 = .ok (.iload_n 2, 1) := by decide +kernel
theorem d_Model_count_63 : decode b_Model_count 63 = .ok (.goto 4, 3) := by decide +kernel
theorem d_Model_count_66 : decode b_Model_count 66 = .ok (.iconst (-1), 1) := by decide +kernel
theorem d_Model_count_67 : decode b_Model_count 67 = .ok (.ireturn, 1) := by decide +kernel
set_option maxHeartbeats 4000000 in
set_option maxRecDepth 100000 in
/-- unfold of nothing: false -/
theorem c_Model_unfold0 (l : Launch) (dC : Nat → ClassId) (dI : Nat → Nat → Nat) (h0 sz qt : Nat) (m0 m1 m2 m3 m4 m5 m6 m7 m8 m9 m10 m11 m12 m13 m14 m15 : Value) : Met l y_Model_unfold (Cond.code y_Model_unfold b_Model_unfold 7 (Option.some Jvm.ClassFile.FieldType.boolean) :: xv0) ({ frames := 0, cells := 0, slots := 0, locals := 0 }) (va_Pc [.ref h0, .ref qt, .int (nI 0), .int 0] (fun U => U.heap.size = sz ∧ va_P (dC, dI) classes [(h0, .inr (13, [m0, m1, m2, m3, m4, m5, m6, m7, m8, m9, m10, m11, m12, m13, m14, m15]))] U.heap ∧ va_K (dC, dI) classes [] U ∧ va_D (fun _ => True) [(h0, .inr (13, [m0, m1, m2, m3, m4, m5, m6, m7, m8, m9, m10, m11, m12, m13, m14, m15]))])) (va_Qi (fun (r : Int32) (_ : Unit) => r = 0) (fun (_ : Unit) (t : State) => va_P (dC, dI) classes [] t.heap ∧ va_K (dC, dI) classes [] t ∧ va_D (va_A [(h0, .inr (13, [m0, m1, m2, m3, m4, m5, m6, m7, m8, m9, m10, m11, m12, m13, m14, m15]))] sz) []) (va_A [(h0, .inr (13, [m0, m1, m2, m3, m4, m5, m6, m7, m8, m9, m10, m11, m12, m13, m14, m15]))] sz)) 0 0 (va_A [(h0, .inr (13, [m0, m1, m2, m3, m4, m5, m6, m7, m8, m9, m10, m11, m12, m13, m14, m15]))] sz) := by
  refine Met.ofW (cc := b_Model_unfold) (maxL := 7) (ret := (Option.some Jvm.ClassFile.FieldType.boolean)) (by decide) rfl ?_
  intro p e s m args below meth c s₁ B hml hv
  obtain ⟨rfl, hsz, hP, hK, hD0⟩ := hv
  have hx := B.exec
  have hb := B.bytes
  have hr := B.returns
  have hts := atoms_spec (ws := Cond.code y_Model_unfold b_Model_unfold 7 (Option.some Jvm.ClassFile.FieldType.boolean) :: xv0) B.pre
  have ht : ∀ w ∈ xv0, w.before _ s = true := fun w h => hts w (List.mem_cons_of_mem _ h)
  have hown : s.vm.findClass R_Model = some m.cls := findClass_of_methodNamed B.named
  have hlocks := B.notSynchronized
  subst hsz
  have hD := hD0.self (sz := s.heap.size)
  generalize hAe : va_A [(h0, .inr (13, [m0, m1, m2, m3, m4, m5, m6, m7, m8, m9, m10, m11, m12, m13, m14, m15]))] s.heap.size = A at hD ⊢
  have hA : ∀ q : Nat, s.heap.size ≤ q → A q := fun q h => by rw [← hAe]; exact Or.inr h
  have hS : va_S A s.heap s.heap [] := va_S.rf
  have hP : va_P (dC, dI) classes [(h0, .inr (13, [m0, m1, m2, m3, m4, m5, m6, m7, m8, m9, m10, m11, m12, m13, m14, m15]))] s.heap := hP
  have hl := lv_entry ([.ref h0, .ref qt, .int (nI 0), .int 0]) (n := 7) (Nat.le_of_ble_eq_true rfl)
  rw [lg_entry_eq]
  generalize (lg_sl ([.ref h0, .ref qt, .int (nI 0), .int 0]) ++ List.replicate (7 - (lg_sl ([.ref h0, .ref qt, .int (nI 0), .int 0])).length) Slot.unset).toArray = ls at hl ⊢
  have hl : lv_has ls 7 [(0, .ref h0), (1, .ref qt), (2, .int (nI 0)), (3, .int 0)] := hl
  refine lv_aload_n hx hb d_Model_unfold_0 rfl (lv_at hl 0 rfl) ?_
  refine lv_iconst (v := (nI 0)) hx hb d_Model_unfold_1 (by decide) ?_
  refine va_put (D := (dC, dI)) (ci := 13) (v := .int (nI 0)) (ty := .int) (C := R_Model) (T := F_ModelS) (N := 16) hx hb ht i_ModelS t_ModelS t_ModelS_ok n_ModelS hown hK hP hD hS 0 rfl rfl 15 (by decide) (ht _ v_104) (fun _ h9 => h9) rfl (by decide +kernel) rfl rfl (Nat.le_of_ble_eq_true rfl) d_Model_unfold_2 (fun H locs hP hD hS => ?_)
  have hP : va_P (dC, dI) classes [(h0, .inr (13, [m0, m1, m2, m3, m4, m5, m6, m7, m8, m9, m10, m11, m12, m13, m14, .int (nI 0)]))] H := hP
  have hD : va_D A [(h0, .inr (13, [m0, m1, m2, m3, m4, m5, m6, m7, m8, m9, m10, m11, m12, m13, m14, .int (nI 0)]))] := hD
  refine lv_iconst (v := (nI 0)) hx hb d_Model_unfold_5 (by decide) ?_
  refine lv_istore (lv' := [(4, .int (nI 0)), (0, .ref h0), (1, .ref qt), (2, .int (nI 0)), (3, .int 0)]) hx hb d_Model_unfold_6 hl (by decide) rfl (fun ls hl => ?_)
  refine lv_iload hx hb d_Model_unfold_8 (lv_at hl 0 rfl) ?_
  refine lv_iload_n hx hb d_Model_unfold_10 rfl (lv_at hl 4 rfl) ?_
  refine lv_icmp_ge (tgt := 110) hx hb d_Model_unfold_11 (by decide) (fun _ => ?_) (fun c_11_0 => absurd (by decide) c_11_0)
  refine lv_iconst (v := (nI 0)) hx hb d_Model_unfold_110 (by decide) ?_
  refine lv_istore (lv' := [(4, .int (nI 0)), (0, .ref h0), (1, .ref qt), (2, .int (nI 0)), (3, .int 0)]) hx hb d_Model_unfold_111 hl (by decide) rfl (fun ls hl => ?_)
  refine lv_iload hx hb d_Model_unfold_113 (lv_at hl 0 rfl) ?_
  refine lv_aload_n hx hb d_Model_unfold_115 rfl (lv_at hl 1 rfl) ?_
  refine va_get (D := (dC, dI)) (ci := 13) (v := .int (nI 0)) (C := R_Model) (T := F_ModelS) (N := 16) hx hb ht i_ModelS hown hK hP 0 rfl rfl 15 (by decide) (ht _ v_104) (fun _ h9 => h9) rfl d_Model_unfold_116 ?_
  refine lv_icmp_ge (tgt := 265) hx hb d_Model_unfold_119 (by decide) (fun _ => ?_) (fun c_119 => absurd (by decide) c_119)
  refine lv_aload_n hx hb d_Model_unfold_265 rfl (lv_at hl 1 rfl) ?_
  refine va_get (D := (dC, dI)) (ci := 13) (v := .int (nI 0)) (C := R_Model) (T := F_ModelS) (N := 16) hx hb ht i_ModelS hown hK hP 0 rfl rfl 15 (by decide) (ht _ v_104) (fun _ h9 => h9) rfl d_Model_unfold_266 ?_
  refine lv_iconst (v := (nI 1)) hx hb d_Model_unfold_269 (by decide) ?_
  refine lv_icmp_le (tgt := 293) hx hb d_Model_unfold_270 (by decide) (fun _ => ?_) (fun c_270 => absurd (by decide) c_270)
  refine lv_iconst (v := (nI 0)) hx hb d_Model_unfold_293 (by decide) ?_
  have hP9 := hP.sub (ws' := []) [] rfl
  have hD9 := hD.sub (ws' := []) [] (by decide +kernel) rfl
  have hK9 := hK.sub (tys' := []) [] rfl
  exact W.zret (ty := .boolean) hx hb hr rfl (fun t ht9 hW => ⟨⟨(nI 0), (), rfl, rfl, by rw [ht9]; exact hP9, va_K.moved hW.alike hK9, hD9⟩, hS.F ht9⟩) hS.2.2 d_Model_unfold_294
set_option maxHeartbeats 4000000 in
set_option maxRecDepth 100000 in
/-- readCard of nothing: false -/
theorem c_Model_readCard0 (l : Launch) (dC : Nat → ClassId) (dI : Nat → Nat → Nat) (h0 sz qt qm : Nat) (cA : ClassId) (f : Nat → Int32) (m0 m1 m2 m3 m4 m5 m6 m7 m8 m9 m10 m11 m12 m13 m15 : Value) : Met l y_Model_readCard (Cond.code y_Model_readCard b_Model_readCard 6 (Option.some Jvm.ClassFile.FieldType.boolean) :: xv0) ({ frames := 1, cells := 0, slots := 0, locals := 40 }) (va_Pc [.ref h0, .ref qt, .int (nI 0), .int 0] (fun U => U.heap.size = sz ∧ va_P (dC, dI) classes [(h0, .inr (13, [m0, m1, m2, m3, m4, m5, m6, m7, m8, m9, m10, m11, m12, m13, .ref qm, m15])), (qm, .inl (cA, 2, .inl f))] U.heap ∧ va_K (dC, dI) classes [(cA, .int)] U ∧ va_D (fun _ => True) [(h0, .inr (13, [m0, m1, m2, m3, m4, m5, m6, m7, m8, m9, m10, m11, m12, m13, .ref qm, m15])), (qm, .inl (cA, 2, .inl f))])) (va_Qi (fun (r : Int32) (_ : Unit) => r = 0) (fun (_ : Unit) (t : State) => va_P (dC, dI) classes [] t.heap ∧ va_K (dC, dI) classes [] t ∧ va_D (va_A [(h0, .inr (13, [m0, m1, m2, m3, m4, m5, m6, m7, m8, m9, m10, m11, m12, m13, .ref qm, m15])), (qm, .inl (cA, 2, .inl f))] sz) []) (va_A [(h0, .inr (13, [m0, m1, m2, m3, m4, m5, m6, m7, m8, m9, m10, m11, m12, m13, .ref qm, m15])), (qm, .inl (cA, 2, .inl f))] sz)) 0 0 (va_A [(h0, .inr (13, [m0, m1, m2, m3, m4, m5, m6, m7, m8, m9, m10, m11, m12, m13, .ref qm, m15])), (qm, .inl (cA, 2, .inl f))] sz) := by
  refine Met.ofW (cc := b_Model_readCard) (maxL := 6) (ret := (Option.some Jvm.ClassFile.FieldType.boolean)) (by decide) rfl ?_
  intro p e s m args below meth c s₁ B hml hv
  obtain ⟨rfl, hsz, hP, hK, hD0⟩ := hv
  have hx := B.exec
  have hb := B.bytes
  have hr := B.returns
  have hts := atoms_spec (ws := Cond.code y_Model_readCard b_Model_readCard 6 (Option.some Jvm.ClassFile.FieldType.boolean) :: xv0) B.pre
  have ht : ∀ w ∈ xv0, w.before _ s = true := fun w h => hts w (List.mem_cons_of_mem _ h)
  have hown : s.vm.findClass R_Model = some m.cls := findClass_of_methodNamed B.named
  have hlocks := B.notSynchronized
  subst hsz
  have hD := hD0.self (sz := s.heap.size)
  generalize hAe : va_A [(h0, .inr (13, [m0, m1, m2, m3, m4, m5, m6, m7, m8, m9, m10, m11, m12, m13, .ref qm, m15])), (qm, .inl (cA, 2, .inl f))] s.heap.size = A at hD ⊢
  have hA : ∀ q : Nat, s.heap.size ≤ q → A q := fun q h => by rw [← hAe]; exact Or.inr h
  have hS : va_S A s.heap s.heap [] := va_S.rf
  have hP : va_P (dC, dI) classes [(h0, .inr (13, [m0, m1, m2, m3, m4, m5, m6, m7, m8, m9, m10, m11, m12, m13, .ref qm, m15])), (qm, .inl (cA, 2, .inl f))] s.heap := hP
  have hl := lv_entry ([.ref h0, .ref qt, .int (nI 0), .int 0]) (n := 6) (Nat.le_of_ble_eq_true rfl)
  rw [lg_entry_eq]
  generalize (lg_sl ([.ref h0, .ref qt, .int (nI 0), .int 0]) ++ List.replicate (6 - (lg_sl ([.ref h0, .ref qt, .int (nI 0), .int 0])).length) Slot.unset).toArray = ls at hl ⊢
  have hl : lv_has ls 6 [(0, .ref h0), (1, .ref qt), (2, .int (nI 0)), (3, .int 0)] := hl
  refine lv_aload_n hx hb d_Model_readCard_0 rfl (lv_at hl 0 rfl) ?_
  refine lv_iconst (v := (nI 0)) hx hb d_Model_readCard_1 (by decide) ?_
  refine va_put (D := (dC, dI)) (ci := 13) (v := .int (nI 0)) (ty := .int) (C := R_Model) (T := F_ModelS) (N := 16) hx hb ht i_ModelS t_ModelS t_ModelS_ok n_ModelS hown hK hP hD hS 0 rfl rfl 11 (by decide) (ht _ v_106) (fun _ h9 => h9) rfl (by decide +kernel) rfl rfl (Nat.le_of_ble_eq_true rfl) d_Model_readCard_2 (fun H locs hP hD hS => ?_)
  have hP : va_P (dC, dI) classes [(h0, .inr (13, [m0, m1, m2, m3, m4, m5, m6, m7, m8, m9, m10, .int (nI 0), m12, m13, .ref qm, m15])), (qm, .inl (cA, 2, .inl f))] H := hP
  have hD : va_D A [(h0, .inr (13, [m0, m1, m2, m3, m4, m5, m6, m7, m8, m9, m10, .int (nI 0), m12, m13, .ref qm, m15])), (qm, .inl (cA, 2, .inl f))] := hD
  refine lv_aload_n hx hb d_Model_readCard_5 rfl (lv_at hl 0 rfl) ?_
  refine lv_iconst (v := (nI 0)) hx hb d_Model_readCard_6 (by decide) ?_
  refine va_put (D := (dC, dI)) (ci := 13) (v := .int (nI 0)) (ty := .int) (C := R_Model) (T := F_ModelS) (N := 16) hx hb ht i_ModelS t_ModelS t_ModelS_ok n_ModelS hown hK hP hD hS 0 rfl rfl 12 (by decide) (ht _ v_108) (fun _ h9 => h9) rfl (by decide +kernel) rfl rfl (Nat.le_of_ble_eq_true rfl) d_Model_readCard_7 (fun H locs hP hD hS => ?_)
  have hP : va_P (dC, dI) classes [(h0, .inr (13, [m0, m1, m2, m3, m4, m5, m6, m7, m8, m9, m10, .int (nI 0), .int (nI 0), m13, .ref qm, m15])), (qm, .inl (cA, 2, .inl f))] H := hP
  have hD : va_D A [(h0, .inr (13, [m0, m1, m2, m3, m4, m5, m6, m7, m8, m9, m10, .int (nI 0), .int (nI 0), m13, .ref qm, m15])), (qm, .inl (cA, 2, .inl f))] := hD
  refine lv_aload_n hx hb d_Model_readCard_10 rfl (lv_at hl 0 rfl) ?_
  refine lv_iconst (v := (nI 0)) hx hb d_Model_readCard_11 (by decide) ?_
  refine va_put (D := (dC, dI)) (ci := 13) (v := .int (nI 0)) (ty := .int) (C := R_Model) (T := F_ModelS) (N := 16) hx hb ht i_ModelS t_ModelS t_ModelS_ok n_ModelS hown hK hP hD hS 0 rfl rfl 13 (by decide) (ht _ v_125) (fun _ h9 => h9) rfl (by decide +kernel) rfl rfl (Nat.le_of_ble_eq_true rfl) d_Model_readCard_12 (fun H locs hP hD hS => ?_)
  have hP : va_P (dC, dI) classes [(h0, .inr (13, [m0, m1, m2, m3, m4, m5, m6, m7, m8, m9, m10, .int (nI 0), .int (nI 0), .int (nI 0), .ref qm, m15])), (qm, .inl (cA, 2, .inl f))] H := hP
  have hD : va_D A [(h0, .inr (13, [m0, m1, m2, m3, m4, m5, m6, m7, m8, m9, m10, .int (nI 0), .int (nI 0), .int (nI 0), .ref qm, m15])), (qm, .inl (cA, 2, .inl f))] := hD
  refine lv_aload_n hx hb d_Model_readCard_15 rfl (lv_at hl 0 rfl) ?_
  refine va_get (D := (dC, dI)) (ci := 13) (v := .ref qm) (C := R_Model) (T := F_ModelS) (N := 16) hx hb ht i_ModelS hown hK hP 0 rfl rfl 14 (by decide) (ht _ v_110) (fun _ h9 => h9) rfl d_Model_readCard_16 ?_
  refine lv_iconst (v := (nI 0)) hx hb d_Model_readCard_19 (by decide) ?_
  refine lv_iconst (v := (nI 0)) hx hb d_Model_readCard_20 (by decide) ?_
  refine xw_iast hx hb hK hP hD hS 1 0 rfl rfl (vp_in_nI (by decide) (by decide)) d_Model_readCard_21 (fun f1 H locs hP hD hS => ?_)
  have hP : va_P (dC, dI) classes [(h0, .inr (13, [m0, m1, m2, m3, m4, m5, m6, m7, m8, m9, m10, .int (nI 0), .int (nI 0), .int (nI 0), .ref qm, m15])), (qm, .inl (cA, 2, .inl f1))] H := hP
  have hD : va_D A [(h0, .inr (13, [m0, m1, m2, m3, m4, m5, m6, m7, m8, m9, m10, .int (nI 0), .int (nI 0), .int (nI 0), .ref qm, m15])), (qm, .inl (cA, 2, .inl f1))] := hD
  refine lv_aload_n hx hb d_Model_readCard_22 rfl (lv_at hl 0 rfl) ?_
  refine lv_aload_n hx hb d_Model_readCard_23 rfl (lv_at hl 1 rfl) ?_
  refine lv_iload_n hx hb d_Model_readCard_24 rfl (lv_at hl 2 rfl) ?_
  refine lv_iload_n hx hb d_Model_readCard_25 rfl (lv_at hl 3 rfl) ?_
  have hPc := hP.sub (ws' := [(h0, .inr (13, [m0, m1, m2, m3, m4, m5, m6, m7, m8, m9, m10, .int (nI 0), .int (nI 0), .int (nI 0), .ref qm, m15]))]) [0] rfl
  have hDc := hD.sub (ws' := [(h0, .inr (13, [m0, m1, m2, m3, m4, m5, m6, m7, m8, m9, m10, .int (nI 0), .int (nI 0), .int (nI 0), .ref qm, m15]))]) [0] (by decide +kernel) rfl
  have hKc := hK.sub (tys' := []) [] rfl
  have hFc := va_free (wc := [(h0, .inr (13, [m0, m1, m2, m3, m4, m5, m6, m7, m8, m9, m10, .int (nI 0), .int (nI 0), .int (nI 0), .ref qm, m15]))]) hD hS hA [0] rfl
  refine va_calli (va_runV (As := [.ref qt, .int (nI 0), .int 0]) (rest := []) ⟨hx, hb, hml, hown, ht⟩ (c_Model_unfold0 l dC dI h0 H.size qt m0 m1 m2 m3 m4 m5 m6 m7 m8 m9 m10 (.int (nI 0)) (.int (nI 0)) (.int (nI 0)) (.ref qm) m15) ⟨callB_of 3 ht (xv_good v_177) rfl rfl rfl (ht _ v_0) (ht _ v_175) (by decide +kernel) ⟨(Nat.le_of_ble_eq_true rfl), (Nat.le_of_ble_eq_true rfl)⟩, ht _ v_176, ht _ v_195⟩ ⟨fun a U g mk q => by obtain ⟨q0, q1, qP, qK, qD⟩ := q; exact ⟨q0, q1, qP, va_K.moved (u := U) (U := U.calling g mk a) (Vm.Alike.refl U.vm) qK, qD⟩, va_recv hKc hPc (ci := 13) (q0 := 0) rfl rfl, fun U hU hW => ⟨rfl, by rw [hU], by rw [hU]; exact hPc, va_K.moved hW.alike hKc, hDc.weaken (fun _ _ _ _ => trivial)⟩⟩ rfl rfl hl.1 rfl (lv_room (Nat.le_of_ble_eq_true rfl)) d_Model_readCard_26 ⟨(Nat.le_of_ble_eq_true rfl), (Nat.le_of_ble_eq_true rfl)⟩) hS (fun q _ h => hFc q h) hFc (fun r2 u t H1 locs ht9 hvm hw hB hz1 hk1 hS => ?_)
  obtain ⟨hP1, hK1, hD1⟩ := hB
  rw [ht9] at hP1
  have hK1 := va_K.moved hvm.symm hK1
  obtain ⟨hP, hD⟩ := va_join (wr := [(qm, .inl (cA, 2, .inl f1))]) (w1 := []) hP hD [0] [1] rfl rfl (by decide +kernel) (by decide +kernel) hk1 hFc hP1 hD1
  have hK := (hK.sub (tys' := [(cA, .int)]) [0] rfl).app hK1
  generalize H1 = H at hP hS ⊢
  have hP : va_P (dC, dI) classes [(qm, .inl (cA, 2, .inl f1))] H := hP
  have hD : va_D A [(qm, .inl (cA, 2, .inl f1))] := hD
  have hK : va_K (dC, dI) classes [(cA, .int)] s := hK
  refine W.widen (k := 0) (n := 0) (by omega) (by omega) ?_
  have hw : r2 = 0 := hw
  subst hw
  refine lv_if_ne (tgt := 34) hx hb d_Model_readCard_29 (by decide) (fun c_29_2 => absurd (by decide) c_29_2) (fun _ => ?_)
  refine lv_iconst (v := (nI 0)) hx hb d_Model_readCard_32 (by decide) ?_
  have hP9 := hP.sub (ws' := []) [] rfl
  have hD9 := hD.sub (ws' := []) [] (by decide +kernel) rfl
  have hK9 := hK.sub (tys' := []) [] rfl
  exact W.zret (ty := .boolean) hx hb hr rfl (fun t ht9 hW => ⟨⟨(nI 0), (), rfl, rfl, by rw [ht9]; exact hP9, va_K.moved hW.alike hK9, hD9⟩, hS.F ht9⟩) hS.2.2 d_Model_readCard_33
set_option maxHeartbeats 4000000 in
set_option maxRecDepth 100000 in
/-- turn(n) of the reference: NONE -/
theorem c_Model_turn (l : Launch) (dC : Nat → ClassId) (dI : Nat → Nat → Nat) (h0 sz qt qm : Nat) (cA : ClassId) (f : Nat → Int32) (n : Int32) (m0 m3 m4 m5 m6 m7 m8 m9 m10 m11 m12 m13 m15 : Value) : Met l y_Model_turn (Cond.code y_Model_turn b_Model_turn 4 (Option.some Jvm.ClassFile.FieldType.int) :: xv0) ({ frames := 2, cells := 0, slots := 0, locals := 80 }) (va_Pc [.ref h0, .int n] (fun U => U.heap.size = sz ∧ va_P (dC, dI) classes [(h0, .inr (13, [m0, .ref qt, .int 0, m3, m4, m5, m6, m7, m8, m9, m10, m11, m12, m13, .ref qm, m15])), (qm, .inl (cA, 2, .inl f))] U.heap ∧ va_K (dC, dI) classes [(cA, .int)] U ∧ va_D (fun _ => True) [(h0, .inr (13, [m0, .ref qt, .int 0, m3, m4, m5, m6, m7, m8, m9, m10, m11, m12, m13, .ref qm, m15])), (qm, .inl (cA, 2, .inl f))])) (va_Qi (fun (r : Int32) (_ : Unit) => r = -1) (fun (_ : Unit) (t : State) => va_P (dC, dI) classes [] t.heap ∧ va_K (dC, dI) classes [] t ∧ va_D (va_A [(h0, .inr (13, [m0, .ref qt, .int 0, m3, m4, m5, m6, m7, m8, m9, m10, m11, m12, m13, .ref qm, m15])), (qm, .inl (cA, 2, .inl f))] sz) []) (va_A [(h0, .inr (13, [m0, .ref qt, .int 0, m3, m4, m5, m6, m7, m8, m9, m10, m11, m12, m13, .ref qm, m15])), (qm, .inl (cA, 2, .inl f))] sz)) 0 0 (va_A [(h0, .inr (13, [m0, .ref qt, .int 0, m3, m4, m5, m6, m7, m8, m9, m10, m11, m12, m13, .ref qm, m15])), (qm, .inl (cA, 2, .inl f))] sz) := by
  refine Met.ofW (cc := b_Model_turn) (maxL := 4) (ret := (Option.some Jvm.ClassFile.FieldType.int)) (by decide) rfl ?_
  intro p e s m args below meth c s₁ B hml hv
  obtain ⟨rfl, hsz, hP, hK, hD0⟩ := hv
  have hx := B.exec
  have hb := B.bytes
  have hr := B.returns
  have hts := atoms_spec (ws := Cond.code y_Model_turn b_Model_turn 4 (Option.some Jvm.ClassFile.FieldType.int) :: xv0) B.pre
  have ht : ∀ w ∈ xv0, w.before _ s = true := fun w h => hts w (List.mem_cons_of_mem _ h)
  have hown : s.vm.findClass R_Model = some m.cls := findClass_of_methodNamed B.named
  have hlocks := B.notSynchronized
  subst hsz
  have hD := hD0.self (sz := s.heap.size)
  generalize hAe : va_A [(h0, .inr (13, [m0, .ref qt, .int 0, m3, m4, m5, m6, m7, m8, m9, m10, m11, m12, m13, .ref qm, m15])), (qm, .inl (cA, 2, .inl f))] s.heap.size = A at hD ⊢
  have hA : ∀ q : Nat, s.heap.size ≤ q → A q := fun q h => by rw [← hAe]; exact Or.inr h
  have hS : va_S A s.heap s.heap [] := va_S.rf
  have hP : va_P (dC, dI) classes [(h0, .inr (13, [m0, .ref qt, .int 0, m3, m4, m5, m6, m7, m8, m9, m10, m11, m12, m13, .ref qm, m15])), (qm, .inl (cA, 2, .inl f))] s.heap := hP
  have hl := lv_entry ([.ref h0, .int n]) (n := 4) (Nat.le_of_ble_eq_true rfl)
  rw [lg_entry_eq]
  generalize (lg_sl ([.ref h0, .int n]) ++ List.replicate (4 - (lg_sl ([.ref h0, .int n])).length) Slot.unset).toArray = ls at hl ⊢
  have hl : lv_has ls 4 [(0, .ref h0), (1, .int n)] := hl
  refine lv_aload_n hx hb d_Model_turn_0 rfl (lv_at hl 0 rfl) ?_
  refine lv_iconst (v := (nI 0)) hx hb d_Model_turn_1 (by decide) ?_
  refine va_put (D := (dC, dI)) (ci := 13) (v := .int (nI 0)) (ty := .int) (C := R_Model) (T := F_ModelS) (N := 16) hx hb ht i_ModelS t_ModelS t_ModelS_ok n_ModelS hown hK hP hD hS 0 rfl rfl 0 (by decide) (ht _ v_15) (fun _ h9 => h9) rfl (by decide +kernel) rfl rfl (Nat.le_of_ble_eq_true rfl) d_Model_turn_2 (fun H locs hP hD hS => ?_)
  have hP : va_P (dC, dI) classes [(h0, .inr (13, [.int (nI 0), .ref qt, .int 0, m3, m4, m5, m6, m7, m8, m9, m10, m11, m12, m13, .ref qm, m15])), (qm, .inl (cA, 2, .inl f))] H := hP
  have hD : va_D A [(h0, .inr (13, [.int (nI 0), .ref qt, .int 0, m3, m4, m5, m6, m7, m8, m9, m10, m11, m12, m13, .ref qm, m15])), (qm, .inl (cA, 2, .inl f))] := hD
  refine lv_aload_n hx hb d_Model_turn_5 rfl (lv_at hl 0 rfl) ?_
  refine va_get (D := (dC, dI)) (ci := 13) (v := .int 0) (C := R_Model) (T := F_ModelS) (N := 16) hx hb ht i_ModelS hown hK hP 0 rfl rfl 2 (by decide) (ht _ v_17) (fun _ h9 => h9) rfl d_Model_turn_6 ?_
  refine lv_istore_n (lv' := [(2, .int 0), (0, .ref h0), (1, .int n)]) hx hb d_Model_turn_9 rfl hl (by decide) rfl (fun ls hl => ?_)
  refine lv_aload_n hx hb d_Model_turn_10 rfl (lv_at hl 1 rfl) ?_
  refine lv_iconst (v := (nI 0)) hx hb d_Model_turn_11 (by decide) ?_
  refine va_put (D := (dC, dI)) (ci := 13) (v := .int (nI 0)) (ty := .int) (C := R_Model) (T := F_ModelS) (N := 16) hx hb ht i_ModelS t_ModelS t_ModelS_ok n_ModelS hown hK hP hD hS 0 rfl rfl 2 (by decide) (ht _ v_17) (fun _ h9 => h9) rfl (by decide +kernel) rfl rfl (Nat.le_of_ble_eq_true rfl) d_Model_turn_12 (fun H locs hP hD hS => ?_)
  have hP : va_P (dC, dI) classes [(h0, .inr (13, [.int (nI 0), .ref qt, .int (nI 0), m3, m4, m5, m6, m7, m8, m9, m10, m11, m12, m13, .ref qm, m15])), (qm, .inl (cA, 2, .inl f))] H := hP
  have hD : va_D A [(h0, .inr (13, [.int (nI 0), .ref qt, .int (nI 0), m3, m4, m5, m6, m7, m8, m9, m10, m11, m12, m13, .ref qm, m15])), (qm, .inl (cA, 2, .inl f))] := hD
  refine lv_aload_n hx hb d_Model_turn_15 rfl (lv_at hl 1 rfl) ?_
  refine lv_iconst (v := (nI 0)) hx hb d_Model_turn_16 (by decide) ?_
  refine va_put (D := (dC, dI)) (ci := 13) (v := .int (nI 0)) (ty := .int) (C := R_Model) (T := F_ModelS) (N := 16) hx hb ht i_ModelS t_ModelS t_ModelS_ok n_ModelS hown hK hP hD hS 0 rfl rfl 5 (by decide) (ht _ v_22) (fun _ h9 => h9) rfl (by decide +kernel) rfl rfl (Nat.le_of_ble_eq_true rfl) d_Model_turn_17 (fun H locs hP hD hS => ?_)
  have hP : va_P (dC, dI) classes [(h0, .inr (13, [.int (nI 0), .ref qt, .int (nI 0), m3, m4, .int (nI 0), m6, m7, m8, m9, m10, m11, m12, m13, .ref qm, m15])), (qm, .inl (cA, 2, .inl f))] H := hP
  have hD : va_D A [(h0, .inr (13, [.int (nI 0), .ref qt, .int (nI 0), m3, m4, .int (nI 0), m6, m7, m8, m9, m10, m11, m12, m13, .ref qm, m15])), (qm, .inl (cA, 2, .inl f))] := hD
  refine lv_aload_n hx hb d_Model_turn_20 rfl (lv_at hl 1 rfl) ?_
  refine lv_iconst (v := (nI 0)) hx hb d_Model_turn_21 (by decide) ?_
  refine va_put (D := (dC, dI)) (ci := 13) (v := .int (nI 0)) (ty := .int) (C := R_Model) (T := F_ModelS) (N := 16) hx hb ht i_ModelS t_ModelS t_ModelS_ok n_ModelS hown hK hP hD hS 0 rfl rfl 9 (by decide) (ht _ v_62) (fun _ h9 => h9) rfl (by decide +kernel) rfl rfl (Nat.le_of_ble_eq_true rfl) d_Model_turn_22 (fun H locs hP hD hS => ?_)
  have hP : va_P (dC, dI) classes [(h0, .inr (13, [.int (nI 0), .ref qt, .int (nI 0), m3, m4, .int (nI 0), m6, m7, m8, .int (nI 0), m10, m11, m12, m13, .ref qm, m15])), (qm, .inl (cA, 2, .inl f))] H := hP
  have hD : va_D A [(h0, .inr (13, [.int (nI 0), .ref qt, .int (nI 0), m3, m4, .int (nI 0), m6, m7, m8, .int (nI 0), m10, m11, m12, m13, .ref qm, m15])), (qm, .inl (cA, 2, .inl f))] := hD
  refine lv_aload_n hx hb d_Model_turn_25 rfl (lv_at hl 1 rfl) ?_
  refine lv_iconst (v := (nI 0)) hx hb d_Model_turn_26 (by decide) ?_
  refine va_put (D := (dC, dI)) (ci := 13) (v := .int (nI 0)) (ty := .boolean) (C := R_Model) (T := F_ModelS) (N := 16) hx hb ht i_ModelS t_ModelS t_ModelS_ok n_ModelS hown hK hP hD hS 0 rfl rfl 10 (by decide) (ht _ v_63) (fun _ h9 => h9) rfl (by decide +kernel) rfl rfl (Nat.le_of_ble_eq_true rfl) d_Model_turn_27 (fun H locs hP hD hS => ?_)
  have hP : va_P (dC, dI) classes [(h0, .inr (13, [.int (nI 0), .ref qt, .int (nI 0), m3, m4, .int (nI 0), m6, m7, m8, .int (nI 0), .int (nI 0), m11, m12, m13, .ref qm, m15])), (qm, .inl (cA, 2, .inl f))] H := hP
  have hD : va_D A [(h0, .inr (13, [.int (nI 0), .ref qt, .int (nI 0), m3, m4, .int (nI 0), m6, m7, m8, .int (nI 0), .int (nI 0), m11, m12, m13, .ref qm, m15])), (qm, .inl (cA, 2, .inl f))] := hD
  refine lv_iload_n hx hb d_Model_turn_30 rfl (lv_at hl 2 rfl) ?_
  refine lv_if_eq (tgt := 44) hx hb d_Model_turn_31 (by decide) (fun c_31_0 => ?_) (fun c_31_0 => ?_)
  · refine lv_aload_n hx hb d_Model_turn_44 rfl (lv_at hl 1 rfl) ?_
    refine lv_aload_n hx hb d_Model_turn_45 rfl (lv_at hl 1 rfl) ?_
    refine va_get (D := (dC, dI)) (ci := 13) (v := .ref qt) (C := R_Model) (T := F_ModelS) (N := 16) hx hb ht i_ModelS hown hK hP 0 rfl rfl 1 (by decide) (ht _ v_16) (fun _ h9 => h9) rfl d_Model_turn_46 ?_
    refine lv_iconst (v := (nI 0)) hx hb d_Model_turn_49 (by decide) ?_
    refine lv_iload_n hx hb d_Model_turn_50 rfl (lv_at hl 0 rfl) ?_
    have hPc := hP.sub (ws' := [(h0, .inr (13, [.int (nI 0), .ref qt, .int (nI 0), m3, m4, .int (nI 0), m6, m7, m8, .int (nI 0), .int (nI 0), m11, m12, m13, .ref qm, m15])), (qm, .inl (cA, 2, .inl f))]) [0, 1] rfl
    have hDc := hD.sub (ws' := [(h0, .inr (13, [.int (nI 0), .ref qt, .int (nI 0), m3, m4, .int (nI 0), m6, m7, m8, .int (nI 0), .int (nI 0), m11, m12, m13, .ref qm, m15])), (qm, .inl (cA, 2, .inl f))]) [0, 1] (by decide +kernel) rfl
    have hKc := hK.sub (tys' := [(cA, .int)]) [0] rfl
    have hFc := va_free (wc := [(h0, .inr (13, [.int (nI 0), .ref qt, .int (nI 0), m3, m4, .int (nI 0), m6, m7, m8, .int (nI 0), .int (nI 0), m11, m12, m13, .ref qm, m15])), (qm, .inl (cA, 2, .inl f))]) hD hS hA [0, 1] rfl
    refine va_calli (va_runV (As := [.ref qt, .int (nI 0), .int 0]) (rest := []) ⟨hx, hb, hml, hown, ht⟩ (c_Model_readCard0 l dC dI h0 H.size qt qm cA f (.int (nI 0)) (.ref qt) (.int (nI 0)) m3 m4 (.int (nI 0)) m6 m7 m8 (.int (nI 0)) (.int (nI 0)) m11 m12 m13 m15) ⟨callB_of 3 ht (xv_good v_174) rfl rfl rfl (ht _ v_0) (ht _ v_172) (by decide +kernel) ⟨(Nat.le_of_ble_eq_true rfl), (Nat.le_of_ble_eq_true rfl)⟩, ht _ v_173, ht _ v_194⟩ ⟨fun a U g mk q => by obtain ⟨q0, q1, qP, qK, qD⟩ := q; exact ⟨q0, q1, qP, va_K.moved (u := U) (U := U.calling g mk a) (Vm.Alike.refl U.vm) qK, qD⟩, va_recv hKc hPc (ci := 13) (q0 := 0) rfl rfl, fun U hU hW => ⟨rfl, by rw [hU], by rw [hU]; exact hPc, va_K.moved hW.alike hKc, hDc.weaken (fun _ _ _ _ => trivial)⟩⟩ rfl rfl hl.1 rfl (lv_room (Nat.le_of_ble_eq_true rfl)) d_Model_turn_51 ⟨(Nat.le_of_ble_eq_true rfl), (Nat.le_of_ble_eq_true rfl)⟩) hS (fun q _ h => hFc q h) hFc (fun r2 u t H1 locs ht9 hvm hw hB hz1 hk1 hS => ?_)
    obtain ⟨hP1, hK1, hD1⟩ := hB
    rw [ht9] at hP1
    have hK1 := va_K.moved hvm.symm hK1
    obtain ⟨hP, hD⟩ := va_join (wr := []) (w1 := []) hP hD [0, 1] [] rfl rfl (by decide +kernel) (by decide +kernel) hk1 hFc hP1 hD1
    have hK := (hK.sub (tys' := []) [] rfl).app hK1
    generalize H1 = H at hP hS ⊢
    have hP : va_P (dC, dI) classes [] H := hP
    have hD : va_D A [] := hD
    have hK : va_K (dC, dI) classes [] s := hK
    refine W.widen (k := 0) (n := 0) (by omega) (by omega) ?_
    have hw : r2 = 0 := hw
    subst hw
    refine lv_if_ne (tgt := 59) hx hb d_Model_turn_54 (by decide) (fun c_54_2 => absurd (by decide) c_54_2) (fun _ => ?_)
    refine lv_iconst (v := (-1)) hx hb d_Model_turn_57 (by decide) ?_
    have hP9 := hP.sub (ws' := []) [] rfl
    have hD9 := hD.sub (ws' := []) [] (by decide +kernel) rfl
    have hK9 := hK.sub (tys' := []) [] rfl
    exact W.iret hx hb hr (fun t ht9 hW => ⟨⟨(-1), (), rfl, rfl, by rw [ht9]; exact hP9, va_K.moved hW.alike hK9, hD9⟩, hS.F ht9⟩) hS.2.2 d_Model_turn_58
  · refine lv_iload_n hx hb d_Model_turn_34 rfl (lv_at hl 2 rfl) ?_
    refine lv_iconst (v := (nI 3)) hx hb d_Model_turn_35 (by decide) ?_
    refine lv_icmp_eq (tgt := 44) hx hb d_Model_turn_36 (by decide) (fun c_36_53 => ?_) (fun c_36_53 => ?_)
    · refine lv_aload_n hx hb d_Model_turn_44 rfl (lv_at hl 1 rfl) ?_
      refine lv_aload_n hx hb d_Model_turn_45 rfl (lv_at hl 1 rfl) ?_
      refine va_get (D := (dC, dI)) (ci := 13) (v := .ref qt) (C := R_Model) (T := F_ModelS) (N := 16) hx hb ht i_ModelS hown hK hP 0 rfl rfl 1 (by decide) (ht _ v_16) (fun _ h9 => h9) rfl d_Model_turn_46 ?_
      refine lv_iconst (v := (nI 0)) hx hb d_Model_turn_49 (by decide) ?_
      refine lv_iload_n hx hb d_Model_turn_50 rfl (lv_at hl 0 rfl) ?_
      have hPc := hP.sub (ws' := [(h0, .inr (13, [.int (nI 0), .ref qt, .int (nI 0), m3, m4, .int (nI 0), m6, m7, m8, .int (nI 0), .int (nI 0), m11, m12, m13, .ref qm, m15])), (qm, .inl (cA, 2, .inl f))]) [0, 1] rfl
      have hDc := hD.sub (ws' := [(h0, .inr (13, [.int (nI 0), .ref qt, .int (nI 0), m3, m4, .int (nI 0), m6, m7, m8, .int (nI 0), .int (nI 0), m11, m12, m13, .ref qm, m15])), (qm, .inl (cA, 2, .inl f))]) [0, 1] (by decide +kernel) rfl
      have hKc := hK.sub (tys' := [(cA, .int)]) [0] rfl
      have hFc := va_free (wc := [(h0, .inr (13, [.int (nI 0), .ref qt, .int (nI 0), m3, m4, .int (nI 0), m6, m7, m8, .int (nI 0), .int (nI 0), m11, m12, m13, .ref qm, m15])), (qm, .inl (cA, 2, .inl f))]) hD hS hA [0, 1] rfl
      refine va_calli (va_runV (As := [.ref qt, .int (nI 0), .int 0]) (rest := []) ⟨hx, hb, hml, hown, ht⟩ (c_Model_readCard0 l dC dI h0 H.size qt qm cA f (.int (nI 0)) (.ref qt) (.int (nI 0)) m3 m4 (.int (nI 0)) m6 m7 m8 (.int (nI 0)) (.int (nI 0)) m11 m12 m13 m15) ⟨callB_of 3 ht (xv_good v_174) rfl rfl rfl (ht _ v_0) (ht _ v_172) (by decide +kernel) ⟨(Nat.le_of_ble_eq_true rfl), (Nat.le_of_ble_eq_true rfl)⟩, ht _ v_173, ht _ v_194⟩ ⟨fun a U g mk q => by obtain ⟨q0, q1, qP, qK, qD⟩ := q; exact ⟨q0, q1, qP, va_K.moved (u := U) (U := U.calling g mk a) (Vm.Alike.refl U.vm) qK, qD⟩, va_recv hKc hPc (ci := 13) (q0 := 0) rfl rfl, fun U hU hW => ⟨rfl, by rw [hU], by rw [hU]; exact hPc, va_K.moved hW.alike hKc, hDc.weaken (fun _ _ _ _ => trivial)⟩⟩ rfl rfl hl.1 rfl (lv_room (Nat.le_of_ble_eq_true rfl)) d_Model_turn_51 ⟨(Nat.le_of_ble_eq_true rfl), (Nat.le_of_ble_eq_true rfl)⟩) hS (fun q _ h => hFc q h) hFc (fun r55 u t H1 locs ht9 hvm hw hB hz1 hk1 hS => ?_)
      obtain ⟨hP1, hK1, hD1⟩ := hB
      rw [ht9] at hP1
      have hK1 := va_K.moved hvm.symm hK1
      obtain ⟨hP, hD⟩ := va_join (wr := []) (w1 := []) hP hD [0, 1] [] rfl rfl (by decide +kernel) (by decide +kernel) hk1 hFc hP1 hD1
      have hK := (hK.sub (tys' := []) [] rfl).app hK1
      generalize H1 = H at hP hS ⊢
      have hP : va_P (dC, dI) classes [] H := hP
      have hD : va_D A [] := hD
      have hK : va_K (dC, dI) classes [] s := hK
      refine W.widen (k := 0) (n := 0) (by omega) (by omega) ?_
      have hw : r55 = 0 := hw
      subst hw
      refine lv_if_ne (tgt := 59) hx hb d_Model_turn_54 (by decide) (fun c_54_55 => absurd (by decide) c_54_55) (fun _ => ?_)
      refine lv_iconst (v := (-1)) hx hb d_Model_turn_57 (by decide) ?_
      have hP9 := hP.sub (ws' := []) [] rfl
      have hD9 := hD.sub (ws' := []) [] (by decide +kernel) rfl
      have hK9 := hK.sub (tys' := []) [] rfl
      exact W.iret hx hb hr (fun t ht9 hW => ⟨⟨(-1), (), rfl, rfl, by rw [ht9]; exact hP9, va_K.moved hW.alike hK9, hD9⟩, hS.F ht9⟩) hS.2.2 d_Model_turn_58
    · refine lv_iload_n hx hb d_Model_turn_39 rfl (lv_at hl 2 rfl) ?_
      refine lv_iconst (v := (nI 4)) hx hb d_Model_turn_40 (by decide) ?_
      refine lv_icmp_ne (tgt := 57) hx hb d_Model_turn_41 (by decide) (fun c_41_106 => ?_) (fun c_41_106 => ?_)
      · refine lv_iconst (v := (-1)) hx hb d_Model_turn_57 (by decide) ?_
        have hP9 := hP.sub (ws' := []) [] rfl
        have hD9 := hD.sub (ws' := []) [] (by decide +kernel) rfl
        have hK9 := hK.sub (tys' := []) [] rfl
        exact W.iret hx hb hr (fun t ht9 hW => ⟨⟨(-1), (), rfl, rfl, by rw [ht9]; exact hP9, va_K.moved hW.alike hK9, hD9⟩, hS.F ht9⟩) hS.2.2 d_Model_turn_58
      · refine lv_aload_n hx hb d_Model_turn_44 rfl (lv_at hl 1 rfl) ?_
        refine lv_aload_n hx hb d_Model_turn_45 rfl (lv_at hl 1 rfl) ?_
        refine va_get (D := (dC, dI)) (ci := 13) (v := .ref qt) (C := R_Model) (T := F_ModelS) (N := 16) hx hb ht i_ModelS hown hK hP 0 rfl rfl 1 (by decide) (ht _ v_16) (fun _ h9 => h9) rfl d_Model_turn_46 ?_
        refine lv_iconst (v := (nI 0)) hx hb d_Model_turn_49 (by decide) ?_
        refine lv_iload_n hx hb d_Model_turn_50 rfl (lv_at hl 0 rfl) ?_
        have hPc := hP.sub (ws' := [(h0, .inr (13, [.int (nI 0), .ref qt, .int (nI 0), m3, m4, .int (nI 0), m6, m7, m8, .int (nI 0), .int (nI 0), m11, m12, m13, .ref qm, m15])), (qm, .inl (cA, 2, .inl f))]) [0, 1] rfl
        have hDc := hD.sub (ws' := [(h0, .inr (13, [.int (nI 0), .ref qt, .int (nI 0), m3, m4, .int (nI 0), m6, m7, m8, .int (nI 0), .int (nI 0), m11, m12, m13, .ref qm, m15])), (qm, .inl (cA, 2, .inl f))]) [0, 1] (by decide +kernel) rfl
        have hKc := hK.sub (tys' := [(cA, .int)]) [0] rfl
        have hFc := va_free (wc := [(h0, .inr (13, [.int (nI 0), .ref qt, .int (nI 0), m3, m4, .int (nI 0), m6, m7, m8, .int (nI 0), .int (nI 0), m11, m12, m13, .ref qm, m15])), (qm, .inl (cA, 2, .inl f))]) hD hS hA [0, 1] rfl
        refine va_calli (va_runV (As := [.ref qt, .int (nI 0), .int 0]) (rest := []) ⟨hx, hb, hml, hown, ht⟩ (c_Model_readCard0 l dC dI h0 H.size qt qm cA f (.int (nI 0)) (.ref qt) (.int (nI 0)) m3 m4 (.int (nI 0)) m6 m7 m8 (.int (nI 0)) (.int (nI 0)) m11 m12 m13 m15) ⟨callB_of 3 ht (xv_good v_174) rfl rfl rfl (ht _ v_0) (ht _ v_172) (by decide +kernel) ⟨(Nat.le_of_ble_eq_true rfl), (Nat.le_of_ble_eq_true rfl)⟩, ht _ v_173, ht _ v_194⟩ ⟨fun a U g mk q => by obtain ⟨q0, q1, qP, qK, qD⟩ := q; exact ⟨q0, q1, qP, va_K.moved (u := U) (U := U.calling g mk a) (Vm.Alike.refl U.vm) qK, qD⟩, va_recv hKc hPc (ci := 13) (q0 := 0) rfl rfl, fun U hU hW => ⟨rfl, by rw [hU], by rw [hU]; exact hPc, va_K.moved hW.alike hKc, hDc.weaken (fun _ _ _ _ => trivial)⟩⟩ rfl rfl hl.1 rfl (lv_room (Nat.le_of_ble_eq_true rfl)) d_Model_turn_51 ⟨(Nat.le_of_ble_eq_true rfl), (Nat.le_of_ble_eq_true rfl)⟩) hS (fun q _ h => hFc q h) hFc (fun r158 u t H1 locs ht9 hvm hw hB hz1 hk1 hS => ?_)
        obtain ⟨hP1, hK1, hD1⟩ := hB
        rw [ht9] at hP1
        have hK1 := va_K.moved hvm.symm hK1
        obtain ⟨hP, hD⟩ := va_join (wr := []) (w1 := []) hP hD [0, 1] [] rfl rfl (by decide +kernel) (by decide +kernel) hk1 hFc hP1 hD1
        have hK := (hK.sub (tys' := []) [] rfl).app hK1
        generalize H1 = H at hP hS ⊢
        have hP : va_P (dC, dI) classes [] H := hP
        have hD : va_D A [] := hD
        have hK : va_K (dC, dI) classes [] s := hK
        refine W.widen (k := 0) (n := 0) (by omega) (by omega) ?_
        have hw : r158 = 0 := hw
        subst hw
        refine lv_if_ne (tgt := 59) hx hb d_Model_turn_54 (by decide) (fun c_54_158 => absurd (by decide) c_54_158) (fun _ => ?_)
        refine lv_iconst (v := (-1)) hx hb d_Model_turn_57 (by decide) ?_
        have hP9 := hP.sub (ws' := []) [] rfl
        have hD9 := hD.sub (ws' := []) [] (by decide +kernel) rfl
        have hK9 := hK.sub (tys' := []) [] rfl
        exact W.iret hx hb hr (fun t ht9 hW => ⟨⟨(-1), (), rfl, rfl, by rw [ht9]; exact hP9, va_K.moved hW.alike hK9, hD9⟩, hS.F ht9⟩) hS.2.2 d_Model_turn_58
set_option maxHeartbeats 4000000 in
set_option maxRecDepth 100000 in
/-- cards of the reference: 0 -/
theorem c_Model_cards0 (l : Launch) (dC : Nat → ClassId) (dI : Nat → Nat → Nat) (h0 sz qk : Nat) (cA : ClassId) (m0 m1 m2 m3 m4 m5 m6 m8 m9 m10 m11 m12 m13 m14 m15 : Value) : Met l y_Model_cards (Cond.code y_Model_cards b_Model_cards 3 (Option.some Jvm.ClassFile.FieldType.int) :: xv0) ({ frames := 0, cells := 0, slots := 0, locals := 0 }) (va_Pc [.ref h0] (fun U => U.heap.size = sz ∧ va_P (dC, dI) classes [(h0, .inr (13, [m0, m1, m2, m3, m4, m5, m6, .ref qk, m8, m9, m10, m11, m12, m13, m14, m15])), (qk, .inl (cA, 16, .inl (fun _ => 0)))] U.heap ∧ va_K (dC, dI) classes [(cA, .boolean)] U ∧ va_D (fun _ => True) [(h0, .inr (13, [m0, m1, m2, m3, m4, m5, m6, .ref qk, m8, m9, m10, m11, m12, m13, m14, m15])), (qk, .inl (cA, 16, .inl (fun _ => 0)))])) (va_Qi (fun (r : Int32) (_ : Unit) => r = 0) (fun (_ : Unit) (t : State) => va_P (dC, dI) classes [] t.heap ∧ va_K (dC, dI) classes [] t ∧ va_D (va_A [(h0, .inr (13, [m0, m1, m2, m3, m4, m5, m6, .ref qk, m8, m9, m10, m11, m12, m13, m14, m15])), (qk, .inl (cA, 16, .inl (fun _ => 0)))] sz) []) (va_A [(h0, .inr (13, [m0, m1, m2, m3, m4, m5, m6, .ref qk, m8, m9, m10, m11, m12, m13, m14, m15])), (qk, .inl (cA, 16, .inl (fun _ => 0)))] sz)) 0 0 (va_A [(h0, .inr (13, [m0, m1, m2, m3, m4, m5, m6, .ref qk, m8, m9, m10, m11, m12, m13, m14, m15])), (qk, .inl (cA, 16, .inl (fun _ => 0)))] sz) := by
  refine Met.ofW (cc := b_Model_cards) (maxL := 3) (ret := (Option.some Jvm.ClassFile.FieldType.int)) (by decide) rfl ?_
  intro p e s m args below meth c s₁ B hml hv
  obtain ⟨rfl, hsz, hP, hK, hD0⟩ := hv
  have hx := B.exec
  have hb := B.bytes
  have hr := B.returns
  have hts := atoms_spec (ws := Cond.code y_Model_cards b_Model_cards 3 (Option.some Jvm.ClassFile.FieldType.int) :: xv0) B.pre
  have ht : ∀ w ∈ xv0, w.before _ s = true := fun w h => hts w (List.mem_cons_of_mem _ h)
  have hown : s.vm.findClass R_Model = some m.cls := findClass_of_methodNamed B.named
  have hlocks := B.notSynchronized
  subst hsz
  have hD := hD0.self (sz := s.heap.size)
  generalize hAe : va_A [(h0, .inr (13, [m0, m1, m2, m3, m4, m5, m6, .ref qk, m8, m9, m10, m11, m12, m13, m14, m15])), (qk, .inl (cA, 16, .inl (fun _ => 0)))] s.heap.size = A at hD ⊢
  have hA : ∀ q : Nat, s.heap.size ≤ q → A q := fun q h => by rw [← hAe]; exact Or.inr h
  have hS : va_S A s.heap s.heap [] := va_S.rf
  have hP : va_P (dC, dI) classes [(h0, .inr (13, [m0, m1, m2, m3, m4, m5, m6, .ref qk, m8, m9, m10, m11, m12, m13, m14, m15])), (qk, .inl (cA, 16, .inl (fun _ => 0)))] s.heap := hP
  have hl := lv_entry ([.ref h0]) (n := 3) (Nat.le_of_ble_eq_true rfl)
  rw [lg_entry_eq]
  generalize (lg_sl ([.ref h0]) ++ List.replicate (3 - (lg_sl ([.ref h0])).length) Slot.unset).toArray = ls at hl ⊢
  have hl : lv_has ls 3 [(0, .ref h0)] := hl
  refine lv_iconst (v := (nI 0)) hx hb d_Model_cards_0 (by decide) ?_
  refine lv_istore_n (lv' := [(1, .int (nI 0)), (0, .ref h0)]) hx hb d_Model_cards_1 rfl hl (by decide) rfl (fun ls hl => ?_)
  refine lv_iconst (v := (nI 0)) hx hb d_Model_cards_2 (by decide) ?_
  refine lv_istore_n (lv' := [(2, .int (nI 0)), (1, .int (nI 0)), (0, .ref h0)]) hx hb d_Model_cards_3 rfl hl (by decide) rfl (fun ls hl => ?_)
  refine lv_iload_n hx hb d_Model_cards_4 rfl (lv_at hl 0 rfl) ?_
  refine lv_bipush (v := (nI 16)) hx hb d_Model_cards_5 (by decide) ?_
  refine lv_icmp_ge (tgt := 33) hx hb d_Model_cards_7 (by decide) (fun c_7 => absurd c_7 (by decide)) (fun _ => ?_)
  refine lv_iload_n hx hb d_Model_cards_10 rfl (lv_at hl 1 rfl) ?_
  refine lv_aload_n hx hb d_Model_cards_11 rfl (lv_at hl 2 rfl) ?_
  refine va_get (D := (dC, dI)) (ci := 13) (v := .ref qk) (C := R_Model) (T := F_ModelS) (N := 16) hx hb ht i_ModelS hown hK hP 0 rfl rfl 7 (by decide) (ht _ v_44) (fun _ h9 => h9) rfl d_Model_cards_12 ?_
  refine lv_iload_n hx hb d_Model_cards_15 rfl (lv_at hl 0 rfl) ?_
  refine va_zald hx hb hK hP 1 0 rfl rfl (vp_in_nI (by decide) (by decide)) d_Model_cards_16 ?_
  refine xw_topn 0 rfl ?_
  refine lv_if_eq (tgt := 24) hx hb d_Model_cards_17 (by decide) (fun _ => ?_) (fun c_17_0 => absurd (by decide) c_17_0)
  refine lv_iconst (v := (nI 0)) hx hb d_Model_cards_24 (by decide) ?_
  refine lv_iadd hx hb d_Model_cards_25 ?_
  refine xw_topn (nI 0) (by decide) ?_
  refine lv_istore_n (lv' := [(1, .int (nI 0)), (2, .int (nI 0)), (0, .ref h0)]) hx hb d_Model_cards_26 rfl hl (by decide) rfl (fun ls hl => ?_)
  refine lv_iinc (v := (nI 1)) (lv' := [(2, .int (nI 1)), (1, .int (nI 0)), (0, .ref h0)]) hx hb d_Model_cards_27 hl (k := 1) rfl (by decide) (by decide) rfl (fun ls hl => ?_)
  refine lv_goto (tgt := 4) hx hb d_Model_cards_30 (by decide) ?_
  refine lv_iload_n hx hb d_Model_cards_4 rfl (lv_at hl 0 rfl) ?_
  refine lv_bipush (v := (nI 16)) hx hb d_Model_cards_5 (by decide) ?_
  refine lv_icmp_ge (tgt := 33) hx hb d_Model_cards_7 (by decide) (fun c_7 => absurd c_7 (by decide)) (fun _ => ?_)
  refine lv_iload_n hx hb d_Model_cards_10 rfl (lv_at hl 1 rfl) ?_
  refine lv_aload_n hx hb d_Model_cards_11 rfl (lv_at hl 2 rfl) ?_
  refine va_get (D := (dC, dI)) (ci := 13) (v := .ref qk) (C := R_Model) (T := F_ModelS) (N := 16) hx hb ht i_ModelS hown hK hP 0 rfl rfl 7 (by decide) (ht _ v_44) (fun _ h9 => h9) rfl d_Model_cards_12 ?_
  refine lv_iload_n hx hb d_Model_cards_15 rfl (lv_at hl 0 rfl) ?_
  refine va_zald hx hb hK hP 1 0 rfl rfl (vp_in_nI (by decide) (by decide)) d_Model_cards_16 ?_
  refine xw_topn 0 rfl ?_
  refine lv_if_eq (tgt := 24) hx hb d_Model_cards_17 (by decide) (fun _ => ?_) (fun c_17_1 => absurd (by decide) c_17_1)
  refine lv_iconst (v := (nI 0)) hx hb d_Model_cards_24 (by decide) ?_
  refine lv_iadd hx hb d_Model_cards_25 ?_
  refine xw_topn (nI 0) (by decide) ?_
  refine lv_istore_n (lv' := [(1, .int (nI 0)), (2, .int (nI 1)), (0, .ref h0)]) hx hb d_Model_cards_26 rfl hl (by decide) rfl (fun ls hl => ?_)
  refine lv_iinc (v := (nI 2)) (lv' := [(2, .int (nI 2)), (1, .int (nI 0)), (0, .ref h0)]) hx hb d_Model_cards_27 hl (k := 1) rfl (by decide) (by decide) rfl (fun ls hl => ?_)
  refine lv_goto (tgt := 4) hx hb d_Model_cards_30 (by decide) ?_
  refine lv_iload_n hx hb d_Model_cards_4 rfl (lv_at hl 0 rfl) ?_
  refine lv_bipush (v := (nI 16)) hx hb d_Model_cards_5 (by decide) ?_
  refine lv_icmp_ge (tgt := 33) hx hb d_Model_cards_7 (by decide) (fun c_7 => absurd c_7 (by decide)) (fun _ => ?_)
  refine lv_iload_n hx hb d_Model_cards_10 rfl (lv_at hl 1 rfl) ?_
  refine lv_aload_n hx hb d_Model_cards_11 rfl (lv_at hl 2 rfl) ?_
  refine va_get (D := (dC, dI)) (ci := 13) (v := .ref qk) (C := R_Model) (T := F_ModelS) (N := 16) hx hb ht i_ModelS hown hK hP 0 rfl rfl 7 (by decide) (ht _ v_44) (fun _ h9 => h9) rfl d_Model_cards_12 ?_
  refine lv_iload_n hx hb d_Model_cards_15 rfl (lv_at hl 0 rfl) ?_
  refine va_zald hx hb hK hP 1 0 rfl rfl (vp_in_nI (by decide) (by decide)) d_Model_cards_16 ?_
  refine xw_topn 0 rfl ?_
  refine lv_if_eq (tgt := 24) hx hb d_Model_cards_17 (by decide) (fun _ => ?_) (fun c_17_2 => absurd (by decide) c_17_2)
  refine lv_iconst (v := (nI 0)) hx hb d_Model_cards_24 (by decide) ?_
  refine lv_iadd hx hb d_Model_cards_25 ?_
  refine xw_topn (nI 0) (by decide) ?_
  refine lv_istore_n (lv' := [(1, .int (nI 0)), (2, .int (nI 2)), (0, .ref h0)]) hx hb d_Model_cards_26 rfl hl (by decide) rfl (fun ls hl => ?_)
  refine lv_iinc (v := (nI 3)) (lv' := [(2, .int (nI 3)), (1, .int (nI 0)), (0, .ref h0)]) hx hb d_Model_cards_27 hl (k := 1) rfl (by decide) (by decide) rfl (fun ls hl => ?_)
  refine lv_goto (tgt := 4) hx hb d_Model_cards_30 (by decide) ?_
  refine lv_iload_n hx hb d_Model_cards_4 rfl (lv_at hl 0 rfl) ?_
  refine lv_bipush (v := (nI 16)) hx hb d_Model_cards_5 (by decide) ?_
  refine lv_icmp_ge (tgt := 33) hx hb d_Model_cards_7 (by decide) (fun c_7 => absurd c_7 (by decide)) (fun _ => ?_)
  refine lv_iload_n hx hb d_Model_cards_10 rfl (lv_at hl 1 rfl) ?_
  refine lv_aload_n hx hb d_Model_cards_11 rfl (lv_at hl 2 rfl) ?_
  refine va_get (D := (dC, dI)) (ci := 13) (v := .ref qk) (C := R_Model) (T := F_ModelS) (N := 16) hx hb ht i_ModelS hown hK hP 0 rfl rfl 7 (by decide) (ht _ v_44) (fun _ h9 => h9) rfl d_Model_cards_12 ?_
  refine lv_iload_n hx hb d_Model_cards_15 rfl (lv_at hl 0 rfl) ?_
  refine va_zald hx hb hK hP 1 0 rfl rfl (vp_in_nI (by decide) (by decide)) d_Model_cards_16 ?_
  refine xw_topn 0 rfl ?_
  refine lv_if_eq (tgt := 24) hx hb d_Model_cards_17 (by decide) (fun _ => ?_) (fun c_17_3 => absurd (by decide) c_17_3)
  refine lv_iconst (v := (nI 0)) hx hb d_Model_cards_24 (by decide) ?_
  refine lv_iadd hx hb d_Model_cards_25 ?_
  refine xw_topn (nI 0) (by decide) ?_
  refine lv_istore_n (lv' := [(1, .int (nI 0)), (2, .int (nI 3)), (0, .ref h0)]) hx hb d_Model_cards_26 rfl hl (by decide) rfl (fun ls hl => ?_)
  refine lv_iinc (v := (nI 4)) (lv' := [(2, .int (nI 4)), (1, .int (nI 0)), (0, .ref h0)]) hx hb d_Model_cards_27 hl (k := 1) rfl (by decide) (by decide) rfl (fun ls hl => ?_)
  refine lv_goto (tgt := 4) hx hb d_Model_cards_30 (by decide) ?_
  refine lv_iload_n hx hb d_Model_cards_4 rfl (lv_at hl 0 rfl) ?_
  refine lv_bipush (v := (nI 16)) hx hb d_Model_cards_5 (by decide) ?_
  refine lv_icmp_ge (tgt := 33) hx hb d_Model_cards_7 (by decide) (fun c_7 => absurd c_7 (by decide)) (fun _ => ?_)
  refine lv_iload_n hx hb d_Model_cards_10 rfl (lv_at hl 1 rfl) ?_
  refine lv_aload_n hx hb d_Model_cards_11 rfl (lv_at hl 2 rfl) ?_
  refine va_get (D := (dC, dI)) (ci := 13) (v := .ref qk) (C := R_Model) (T := F_ModelS) (N := 16) hx hb ht i_ModelS hown hK hP 0 rfl rfl 7 (by decide) (ht _ v_44) (fun _ h9 => h9) rfl d_Model_cards_12 ?_
  refine lv_iload_n hx hb d_Model_cards_15 rfl (lv_at hl 0 rfl) ?_
  refine va_zald hx hb hK hP 1 0 rfl rfl (vp_in_nI (by decide) (by decide)) d_Model_cards_16 ?_
  refine xw_topn 0 rfl ?_
  refine lv_if_eq (tgt := 24) hx hb d_Model_cards_17 (by decide) (fun _ => ?_) (fun c_17_4 => absurd (by decide) c_17_4)
  refine lv_iconst (v := (nI 0)) hx hb d_Model_cards_24 (by decide) ?_
  refine lv_iadd hx hb d_Model_cards_25 ?_
  refine xw_topn (nI 0) (by decide) ?_
  refine lv_istore_n (lv' := [(1, .int (nI 0)), (2, .int (nI 4)), (0, .ref h0)]) hx hb d_Model_cards_26 rfl hl (by decide) rfl (fun ls hl => ?_)
  refine lv_iinc (v := (nI 5)) (lv' := [(2, .int (nI 5)), (1, .int (nI 0)), (0, .ref h0)]) hx hb d_Model_cards_27 hl (k := 1) rfl (by decide) (by decide) rfl (fun ls hl => ?_)
  refine lv_goto (tgt := 4) hx hb d_Model_cards_30 (by decide) ?_
  refine lv_iload_n hx hb d_Model_cards_4 rfl (lv_at hl 0 rfl) ?_
  refine lv_bipush (v := (nI 16)) hx hb d_Model_cards_5 (by decide) ?_
  refine lv_icmp_ge (tgt := 33) hx hb d_Model_cards_7 (by decide) (fun c_7 => absurd c_7 (by decide)) (fun _ => ?_)
  refine lv_iload_n hx hb d_Model_cards_10 rfl (lv_at hl 1 rfl) ?_
  refine lv_aload_n hx hb d_Model_cards_11 rfl (lv_at hl 2 rfl) ?_
  refine va_get (D := (dC, dI)) (ci := 13) (v := .ref qk) (C := R_Model) (T := F_ModelS) (N := 16) hx hb ht i_ModelS hown hK hP 0 rfl rfl 7 (by decide) (ht _ v_44) (fun _ h9 => h9) rfl d_Model_cards_12 ?_
  refine lv_iload_n hx hb d_Model_cards_15 rfl (lv_at hl 0 rfl) ?_
  refine va_zald hx hb hK hP 1 0 rfl rfl (vp_in_nI (by decide) (by decide)) d_Model_cards_16 ?_
  refine xw_topn 0 rfl ?_
  refine lv_if_eq (tgt := 24) hx hb d_Model_cards_17 (by decide) (fun _ => ?_) (fun c_17_5 => absurd (by decide) c_17_5)
  refine lv_iconst (v := (nI 0)) hx hb d_Model_cards_24 (by decide) ?_
  refine lv_iadd hx hb d_Model_cards_25 ?_
  refine xw_topn (nI 0) (by decide) ?_
  refine lv_istore_n (lv' := [(1, .int (nI 0)), (2, .int (nI 5)), (0, .ref h0)]) hx hb d_Model_cards_26 rfl hl (by decide) rfl (fun ls hl => ?_)
  refine lv_iinc (v := (nI 6)) (lv' := [(2, .int (nI 6)), (1, .int (nI 0)), (0, .ref h0)]) hx hb d_Model_cards_27 hl (k := 1) rfl (by decide) (by decide) rfl (fun ls hl => ?_)
  refine lv_goto (tgt := 4) hx hb d_Model_cards_30 (by decide) ?_
  refine lv_iload_n hx hb d_Model_cards_4 rfl (lv_at hl 0 rfl) ?_
  refine lv_bipush (v := (nI 16)) hx hb d_Model_cards_5 (by decide) ?_
  refine lv_icmp_ge (tgt := 33) hx hb d_Model_cards_7 (by decide) (fun c_7 => absurd c_7 (by decide)) (fun _ => ?_)
  refine lv_iload_n hx hb d_Model_cards_10 rfl (lv_at hl 1 rfl) ?_
  refine lv_aload_n hx hb d_Model_cards_11 rfl (lv_at hl 2 rfl) ?_
  refine va_get (D := (dC, dI)) (ci := 13) (v := .ref qk) (C := R_Model) (T := F_ModelS) (N := 16) hx hb ht i_ModelS hown hK hP 0 rfl rfl 7 (by decide) (ht _ v_44) (fun _ h9 => h9) rfl d_Model_cards_12 ?_
  refine lv_iload_n hx hb d_Model_cards_15 rfl (lv_at hl 0 rfl) ?_
  refine va_zald hx hb hK hP 1 0 rfl rfl (vp_in_nI (by decide) (by decide)) d_Model_cards_16 ?_
  refine xw_topn 0 rfl ?_
  refine lv_if_eq (tgt := 24) hx hb d_Model_cards_17 (by decide) (fun _ => ?_) (fun c_17_6 => absurd (by decide) c_17_6)
  refine lv_iconst (v := (nI 0)) hx hb d_Model_cards_24 (by decide) ?_
  refine lv_iadd hx hb d_Model_cards_25 ?_
  refine xw_topn (nI 0) (by decide) ?_
  refine lv_istore_n (lv' := [(1, .int (nI 0)), (2, .int (nI 6)), (0, .ref h0)]) hx hb d_Model_cards_26 rfl hl (by decide) rfl (fun ls hl => ?_)
  refine lv_iinc (v := (nI 7)) (lv' := [(2, .int (nI 7)), (1, .int (nI 0)), (0, .ref h0)]) hx hb d_Model_cards_27 hl (k := 1) rfl (by decide) (by decide) rfl (fun ls hl => ?_)
  refine lv_goto (tgt := 4) hx hb d_Model_cards_30 (by decide) ?_
  refine lv_iload_n hx hb d_Model_cards_4 rfl (lv_at hl 0 rfl) ?_
  refine lv_bipush (v := (nI 16)) hx hb d_Model_cards_5 (by decide) ?_
  refine lv_icmp_ge (tgt := 33) hx hb d_Model_cards_7 (by decide) (fun c_7 => absurd c_7 (by decide)) (fun _ => ?_)
  refine lv_iload_n hx hb d_Model_cards_10 rfl (lv_at hl 1 rfl) ?_
  refine lv_aload_n hx hb d_Model_cards_11 rfl (lv_at hl 2 rfl) ?_
  refine va_get (D := (dC, dI)) (ci := 13) (v := .ref qk) (C := R_Model) (T := F_ModelS) (N := 16) hx hb ht i_ModelS hown hK hP 0 rfl rfl 7 (by decide) (ht _ v_44) (fun _ h9 => h9) rfl d_Model_cards_12 ?_
  refine lv_iload_n hx hb d_Model_cards_15 rfl (lv_at hl 0 rfl) ?_
  refine va_zald hx hb hK hP 1 0 rfl rfl (vp_in_nI (by decide) (by decide)) d_Model_cards_16 ?_
  refine xw_topn 0 rfl ?_
  refine lv_if_eq (tgt := 24) hx hb d_Model_cards_17 (by decide) (fun _ => ?_) (fun c_17_7 => absurd (by decide) c_17_7)
  refine lv_iconst (v := (nI 0)) hx hb d_Model_cards_24 (by decide) ?_
  refine lv_iadd hx hb d_Model_cards_25 ?_
  refine xw_topn (nI 0) (by decide) ?_
  refine lv_istore_n (lv' := [(1, .int (nI 0)), (2, .int (nI 7)), (0, .ref h0)]) hx hb d_Model_cards_26 rfl hl (by decide) rfl (fun ls hl => ?_)
  refine lv_iinc (v := (nI 8)) (lv' := [(2, .int (nI 8)), (1, .int (nI 0)), (0, .ref h0)]) hx hb d_Model_cards_27 hl (k := 1) rfl (by decide) (by decide) rfl (fun ls hl => ?_)
  refine lv_goto (tgt := 4) hx hb d_Model_cards_30 (by decide) ?_
  refine lv_iload_n hx hb d_Model_cards_4 rfl (lv_at hl 0 rfl) ?_
  refine lv_bipush (v := (nI 16)) hx hb d_Model_cards_5 (by decide) ?_
  refine lv_icmp_ge (tgt := 33) hx hb d_Model_cards_7 (by decide) (fun c_7 => absurd c_7 (by decide)) (fun _ => ?_)
  refine lv_iload_n hx hb d_Model_cards_10 rfl (lv_at hl 1 rfl) ?_
  refine lv_aload_n hx hb d_Model_cards_11 rfl (lv_at hl 2 rfl) ?_
  refine va_get (D := (dC, dI)) (ci := 13) (v := .ref qk) (C := R_Model) (T := F_ModelS) (N := 16) hx hb ht i_ModelS hown hK hP 0 rfl rfl 7 (by decide) (ht _ v_44) (fun _ h9 => h9) rfl d_Model_cards_12 ?_
  refine lv_iload_n hx hb d_Model_cards_15 rfl (lv_at hl 0 rfl) ?_
  refine va_zald hx hb hK hP 1 0 rfl rfl (vp_in_nI (by decide) (by decide)) d_Model_cards_16 ?_
  refine xw_topn 0 rfl ?_
  refine lv_if_eq (tgt := 24) hx hb d_Model_cards_17 (by decide) (fun _ => ?_) (fun c_17_8 => absurd (by decide) c_17_8)
  refine lv_iconst (v := (nI 0)) hx hb d_Model_cards_24 (by decide) ?_
  refine lv_iadd hx hb d_Model_cards_25 ?_
  refine xw_topn (nI 0) (by decide) ?_
  refine lv_istore_n (lv' := [(1, .int (nI 0)), (2, .int (nI 8)), (0, .ref h0)]) hx hb d_Model_cards_26 rfl hl (by decide) rfl (fun ls hl => ?_)
  refine lv_iinc (v := (nI 9)) (lv' := [(2, .int (nI 9)), (1, .int (nI 0)), (0, .ref h0)]) hx hb d_Model_cards_27 hl (k := 1) rfl (by decide) (by decide) rfl (fun ls hl => ?_)
  refine lv_goto (tgt := 4) hx hb d_Model_cards_30 (by decide) ?_
  refine lv_iload_n hx hb d_Model_cards_4 rfl (lv_at hl 0 rfl) ?_
  refine lv_bipush (v := (nI 16)) hx hb d_Model_cards_5 (by decide) ?_
  refine lv_icmp_ge (tgt := 33) hx hb d_Model_cards_7 (by decide) (fun c_7 => absurd c_7 (by decide)) (fun _ => ?_)
  refine lv_iload_n hx hb d_Model_cards_10 rfl (lv_at hl 1 rfl) ?_
  refine lv_aload_n hx hb d_Model_cards_11 rfl (lv_at hl 2 rfl) ?_
  refine va_get (D := (dC, dI)) (ci := 13) (v := .ref qk) (C := R_Model) (T := F_ModelS) (N := 16) hx hb ht i_ModelS hown hK hP 0 rfl rfl 7 (by decide) (ht _ v_44) (fun _ h9 => h9) rfl d_Model_cards_12 ?_
  refine lv_iload_n hx hb d_Model_cards_15 rfl (lv_at hl 0 rfl) ?_
  refine va_zald hx hb hK hP 1 0 rfl rfl (vp_in_nI (by decide) (by decide)) d_Model_cards_16 ?_
  refine xw_topn 0 rfl ?_
  refine lv_if_eq (tgt := 24) hx hb d_Model_cards_17 (by decide) (fun _ => ?_) (fun c_17_9 => absurd (by decide) c_17_9)
  refine lv_iconst (v := (nI 0)) hx hb d_Model_cards_24 (by decide) ?_
  refine lv_iadd hx hb d_Model_cards_25 ?_
  refine xw_topn (nI 0) (by decide) ?_
  refine lv_istore_n (lv' := [(1, .int (nI 0)), (2, .int (nI 9)), (0, .ref h0)]) hx hb d_Model_cards_26 rfl hl (by decide) rfl (fun ls hl => ?_)
  refine lv_iinc (v := (nI 10)) (lv' := [(2, .int (nI 10)), (1, .int (nI 0)), (0, .ref h0)]) hx hb d_Model_cards_27 hl (k := 1) rfl (by decide) (by decide) rfl (fun ls hl => ?_)
  refine lv_goto (tgt := 4) hx hb d_Model_cards_30 (by decide) ?_
  refine lv_iload_n hx hb d_Model_cards_4 rfl (lv_at hl 0 rfl) ?_
  refine lv_bipush (v := (nI 16)) hx hb d_Model_cards_5 (by decide) ?_
  refine lv_icmp_ge (tgt := 33) hx hb d_Model_cards_7 (by decide) (fun c_7 => absurd c_7 (by decide)) (fun _ => ?_)
  refine lv_iload_n hx hb d_Model_cards_10 rfl (lv_at hl 1 rfl) ?_
  refine lv_aload_n hx hb d_Model_cards_11 rfl (lv_at hl 2 rfl) ?_
  refine va_get (D := (dC, dI)) (ci := 13) (v := .ref qk) (C := R_Model) (T := F_ModelS) (N := 16) hx hb ht i_ModelS hown hK hP 0 rfl rfl 7 (by decide) (ht _ v_44) (fun _ h9 => h9) rfl d_Model_cards_12 ?_
  refine lv_iload_n hx hb d_Model_cards_15 rfl (lv_at hl 0 rfl) ?_
  refine va_zald hx hb hK hP 1 0 rfl rfl (vp_in_nI (by decide) (by decide)) d_Model_cards_16 ?_
  refine xw_topn 0 rfl ?_
  refine lv_if_eq (tgt := 24) hx hb d_Model_cards_17 (by decide) (fun _ => ?_) (fun c_17_10 => absurd (by decide) c_17_10)
  refine lv_iconst (v := (nI 0)) hx hb d_Model_cards_24 (by decide) ?_
  refine lv_iadd hx hb d_Model_cards_25 ?_
  refine xw_topn (nI 0) (by decide) ?_
  refine lv_istore_n (lv' := [(1, .int (nI 0)), (2, .int (nI 10)), (0, .ref h0)]) hx hb d_Model_cards_26 rfl hl (by decide) rfl (fun ls hl => ?_)
  refine lv_iinc (v := (nI 11)) (lv' := [(2, .int (nI 11)), (1, .int (nI 0)), (0, .ref h0)]) hx hb d_Model_cards_27 hl (k := 1) rfl (by decide) (by decide) rfl (fun ls hl => ?_)
  refine lv_goto (tgt := 4) hx hb d_Model_cards_30 (by decide) ?_
  refine lv_iload_n hx hb d_Model_cards_4 rfl (lv_at hl 0 rfl) ?_
  refine lv_bipush (v := (nI 16)) hx hb d_Model_cards_5 (by decide) ?_
  refine lv_icmp_ge (tgt := 33) hx hb d_Model_cards_7 (by decide) (fun c_7 => absurd c_7 (by decide)) (fun _ => ?_)
  refine lv_iload_n hx hb d_Model_cards_10 rfl (lv_at hl 1 rfl) ?_
  refine lv_aload_n hx hb d_Model_cards_11 rfl (lv_at hl 2 rfl) ?_
  refine va_get (D := (dC, dI)) (ci := 13) (v := .ref qk) (C := R_Model) (T := F_ModelS) (N := 16) hx hb ht i_ModelS hown hK hP 0 rfl rfl 7 (by decide) (ht _ v_44) (fun _ h9 => h9) rfl d_Model_cards_12 ?_
  refine lv_iload_n hx hb d_Model_cards_15 rfl (lv_at hl 0 rfl) ?_
  refine va_zald hx hb hK hP 1 0 rfl rfl (vp_in_nI (by decide) (by decide)) d_Model_cards_16 ?_
  refine xw_topn 0 rfl ?_
  refine lv_if_eq (tgt := 24) hx hb d_Model_cards_17 (by decide) (fun _ => ?_) (fun c_17_11 => absurd (by decide) c_17_11)
  refine lv_iconst (v := (nI 0)) hx hb d_Model_cards_24 (by decide) ?_
  refine lv_iadd hx hb d_Model_cards_25 ?_
  refine xw_topn (nI 0) (by decide) ?_
  refine lv_istore_n (lv' := [(1, .int (nI 0)), (2, .int (nI 11)), (0, .ref h0)]) hx hb d_Model_cards_26 rfl hl (by decide) rfl (fun ls hl => ?_)
  refine lv_iinc (v := (nI 12)) (lv' := [(2, .int (nI 12)), (1, .int (nI 0)), (0, .ref h0)]) hx hb d_Model_cards_27 hl (k := 1) rfl (by decide) (by decide) rfl (fun ls hl => ?_)
  refine lv_goto (tgt := 4) hx hb d_Model_cards_30 (by decide) ?_
  refine lv_iload_n hx hb d_Model_cards_4 rfl (lv_at hl 0 rfl) ?_
  refine lv_bipush (v := (nI 16)) hx hb d_Model_cards_5 (by decide) ?_
  refine lv_icmp_ge (tgt := 33) hx hb d_Model_cards_7 (by decide) (fun c_7 => absurd c_7 (by decide)) (fun _ => ?_)
  refine lv_iload_n hx hb d_Model_cards_10 rfl (lv_at hl 1 rfl) ?_
  refine lv_aload_n hx hb d_Model_cards_11 rfl (lv_at hl 2 rfl) ?_
  refine va_get (D := (dC, dI)) (ci := 13) (v := .ref qk) (C := R_Model) (T := F_ModelS) (N := 16) hx hb ht i_ModelS hown hK hP 0 rfl rfl 7 (by decide) (ht _ v_44) (fun _ h9 => h9) rfl d_Model_cards_12 ?_
  refine lv_iload_n hx hb d_Model_cards_15 rfl (lv_at hl 0 rfl) ?_
  refine va_zald hx hb hK hP 1 0 rfl rfl (vp_in_nI (by decide) (by decide)) d_Model_cards_16 ?_
  refine xw_topn 0 rfl ?_
  refine lv_if_eq (tgt := 24) hx hb d_Model_cards_17 (by decide) (fun _ => ?_) (fun c_17_12 => absurd (by decide) c_17_12)
  refine lv_iconst (v := (nI 0)) hx hb d_Model_cards_24 (by decide) ?_
  refine lv_iadd hx hb d_Model_cards_25 ?_
  refine xw_topn (nI 0) (by decide) ?_
  refine lv_istore_n (lv' := [(1, .int (nI 0)), (2, .int (nI 12)), (0, .ref h0)]) hx hb d_Model_cards_26 rfl hl (by decide) rfl (fun ls hl => ?_)
  refine lv_iinc (v := (nI 13)) (lv' := [(2, .int (nI 13)), (1, .int (nI 0)), (0, .ref h0)]) hx hb d_Model_cards_27 hl (k := 1) rfl (by decide) (by decide) rfl (fun ls hl => ?_)
  refine lv_goto (tgt := 4) hx hb d_Model_cards_30 (by decide) ?_
  refine lv_iload_n hx hb d_Model_cards_4 rfl (lv_at hl 0 rfl) ?_
  refine lv_bipush (v := (nI 16)) hx hb d_Model_cards_5 (by decide) ?_
  refine lv_icmp_ge (tgt := 33) hx hb d_Model_cards_7 (by decide) (fun c_7 => absurd c_7 (by decide)) (fun _ => ?_)
  refine lv_iload_n hx hb d_Model_cards_10 rfl (lv_at hl 1 rfl) ?_
  refine lv_aload_n hx hb d_Model_cards_11 rfl (lv_at hl 2 rfl) ?_
  refine va_get (D := (dC, dI)) (ci := 13) (v := .ref qk) (C := R_Model) (T := F_ModelS) (N := 16) hx hb ht i_ModelS hown hK hP 0 rfl rfl 7 (by decide) (ht _ v_44) (fun _ h9 => h9) rfl d_Model_cards_12 ?_
  refine lv_iload_n hx hb d_Model_cards_15 rfl (lv_at hl 0 rfl) ?_
  refine va_zald hx hb hK hP 1 0 rfl rfl (vp_in_nI (by decide) (by decide)) d_Model_cards_16 ?_
  refine xw_topn 0 rfl ?_
  refine lv_if_eq (tgt := 24) hx hb d_Model_cards_17 (by decide) (fun _ => ?_) (fun c_17_13 => absurd (by decide) c_17_13)
  refine lv_iconst (v := (nI 0)) hx hb d_Model_cards_24 (by decide) ?_
  refine lv_iadd hx hb d_Model_cards_25 ?_
  refine xw_topn (nI 0) (by decide) ?_
  refine lv_istore_n (lv' := [(1, .int (nI 0)), (2, .int (nI 13)), (0, .ref h0)]) hx hb d_Model_cards_26 rfl hl (by decide) rfl (fun ls hl => ?_)
  refine lv_iinc (v := (nI 14)) (lv' := [(2, .int (nI 14)), (1, .int (nI 0)), (0, .ref h0)]) hx hb d_Model_cards_27 hl (k := 1) rfl (by decide) (by decide) rfl (fun ls hl => ?_)
  refine lv_goto (tgt := 4) hx hb d_Model_cards_30 (by decide) ?_
  refine lv_iload_n hx hb d_Model_cards_4 rfl (lv_at hl 0 rfl) ?_
  refine lv_bipush (v := (nI 16)) hx hb d_Model_cards_5 (by decide) ?_
  refine lv_icmp_ge (tgt := 33) hx hb d_Model_cards_7 (by decide) (fun c_7 => absurd c_7 (by decide)) (fun _ => ?_)
  refine lv_iload_n hx hb d_Model_cards_10 rfl (lv_at hl 1 rfl) ?_
  refine lv_aload_n hx hb d_Model_cards_11 rfl (lv_at hl 2 rfl) ?_
  refine va_get (D := (dC, dI)) (ci := 13) (v := .ref qk) (C := R_Model) (T := F_ModelS) (N := 16) hx hb ht i_ModelS hown hK hP 0 rfl rfl 7 (by decide) (ht _ v_44) (fun _ h9 => h9) rfl d_Model_cards_12 ?_
  refine lv_iload_n hx hb d_Model_cards_15 rfl (lv_at hl 0 rfl) ?_
  refine va_zald hx hb hK hP 1 0 rfl rfl (vp_in_nI (by decide) (by decide)) d_Model_cards_16 ?_
  refine xw_topn 0 rfl ?_
  refine lv_if_eq (tgt := 24) hx hb d_Model_cards_17 (by decide) (fun _ => ?_) (fun c_17_14 => absurd (by decide) c_17_14)
  refine lv_iconst (v := (nI 0)) hx hb d_Model_cards_24 (by decide) ?_
  refine lv_iadd hx hb d_Model_cards_25 ?_
  refine xw_topn (nI 0) (by decide) ?_
  refine lv_istore_n (lv' := [(1, .int (nI 0)), (2, .int (nI 14)), (0, .ref h0)]) hx hb d_Model_cards_26 rfl hl (by decide) rfl (fun ls hl => ?_)
  refine lv_iinc (v := (nI 15)) (lv' := [(2, .int (nI 15)), (1, .int (nI 0)), (0, .ref h0)]) hx hb d_Model_cards_27 hl (k := 1) rfl (by decide) (by decide) rfl (fun ls hl => ?_)
  refine lv_goto (tgt := 4) hx hb d_Model_cards_30 (by decide) ?_
  refine lv_iload_n hx hb d_Model_cards_4 rfl (lv_at hl 0 rfl) ?_
  refine lv_bipush (v := (nI 16)) hx hb d_Model_cards_5 (by decide) ?_
  refine lv_icmp_ge (tgt := 33) hx hb d_Model_cards_7 (by decide) (fun c_7 => absurd c_7 (by decide)) (fun _ => ?_)
  refine lv_iload_n hx hb d_Model_cards_10 rfl (lv_at hl 1 rfl) ?_
  refine lv_aload_n hx hb d_Model_cards_11 rfl (lv_at hl 2 rfl) ?_
  refine va_get (D := (dC, dI)) (ci := 13) (v := .ref qk) (C := R_Model) (T := F_ModelS) (N := 16) hx hb ht i_ModelS hown hK hP 0 rfl rfl 7 (by decide) (ht _ v_44) (fun _ h9 => h9) rfl d_Model_cards_12 ?_
  refine lv_iload_n hx hb d_Model_cards_15 rfl (lv_at hl 0 rfl) ?_
  refine va_zald hx hb hK hP 1 0 rfl rfl (vp_in_nI (by decide) (by decide)) d_Model_cards_16 ?_
  refine xw_topn 0 rfl ?_
  refine lv_if_eq (tgt := 24) hx hb d_Model_cards_17 (by decide) (fun _ => ?_) (fun c_17_15 => absurd (by decide) c_17_15)
  refine lv_iconst (v := (nI 0)) hx hb d_Model_cards_24 (by decide) ?_
  refine lv_iadd hx hb d_Model_cards_25 ?_
  refine xw_topn (nI 0) (by decide) ?_
  refine lv_istore_n (lv' := [(1, .int (nI 0)), (2, .int (nI 15)), (0, .ref h0)]) hx hb d_Model_cards_26 rfl hl (by decide) rfl (fun ls hl => ?_)
  refine lv_iinc (v := (nI 16)) (lv' := [(2, .int (nI 16)), (1, .int (nI 0)), (0, .ref h0)]) hx hb d_Model_cards_27 hl (k := 1) rfl (by decide) (by decide) rfl (fun ls hl => ?_)
  refine lv_goto (tgt := 4) hx hb d_Model_cards_30 (by decide) ?_
  refine lv_iload_n hx hb d_Model_cards_4 rfl (lv_at hl 0 rfl) ?_
  refine lv_bipush (v := (nI 16)) hx hb d_Model_cards_5 (by decide) ?_
  refine lv_icmp_ge (tgt := 33) hx hb d_Model_cards_7 (by decide) (fun _ => ?_) (fun c_7 => absurd (by decide) c_7)
  refine lv_iload_n hx hb d_Model_cards_33 rfl (lv_at hl 1 rfl) ?_
  have hP9 := hP.sub (ws' := []) [] rfl
  have hD9 := hD.sub (ws' := []) [] (by decide +kernel) rfl
  have hK9 := hK.sub (tys' := []) [] rfl
  exact W.iret hx hb hr (fun t ht9 hW => ⟨⟨(nI 0), (), rfl, rfl, by rw [ht9]; exact hP9, va_K.moved hW.alike hK9, hD9⟩, hS.F ht9⟩) hS.2.2 d_Model_cards_34
set_option maxHeartbeats 4000000 in
set_option maxRecDepth 100000 in
/-- count(n) of the reference -/
theorem c_Model_count (l : Launch) (dC : Nat → ClassId) (dI : Nat → Nat → Nat) (h0 sz qk qb : Nat) (cA cB : ClassId) (n : Int32) (m0 m1 m2 m3 m4 m5 m9 m10 m11 m12 m13 m14 m15 : Value) : Met l y_Model_count (Cond.code y_Model_count b_Model_count 4 (Option.some Jvm.ClassFile.FieldType.int) :: xv0) ({ frames := 1, cells := 0, slots := 0, locals := 40 }) (va_Pc [.ref h0, .int n] (fun U => U.heap.size = sz ∧ va_P (dC, dI) classes [(h0, .inr (13, [m0, m1, m2, m3, m4, m5, .ref qb, .ref qk, .int 0, m9, m10, m11, m12, m13, m14, m15])), (qk, .inl (cA, 16, .inl (fun _ => 0))), (qb, .inl (cB, 6, .inl (fun _ => 0)))] U.heap ∧ va_K (dC, dI) classes [(cA, .boolean), (cB, .boolean)] U ∧ va_D (fun _ => True) [(h0, .inr (13, [m0, m1, m2, m3, m4, m5, .ref qb, .ref qk, .int 0, m9, m10, m11, m12, m13, m14, m15])), (qk, .inl (cA, 16, .inl (fun _ => 0))), (qb, .inl (cB, 6, .inl (fun _ => 0)))])) (va_Qi (fun (r : Int32) (_ : Unit) => r = xc n) (fun (_ : Unit) (t : State) => va_P (dC, dI) classes [] t.heap ∧ va_K (dC, dI) classes [] t ∧ va_D (va_A [(h0, .inr (13, [m0, m1, m2, m3, m4, m5, .ref qb, .ref qk, .int 0, m9, m10, m11, m12, m13, m14, m15])), (qk, .inl (cA, 16, .inl (fun _ => 0))), (qb, .inl (cB, 6, .inl (fun _ => 0)))] sz) []) (va_A [(h0, .inr (13, [m0, m1, m2, m3, m4, m5, .ref qb, .ref qk, .int 0, m9, m10, m11, m12, m13, m14, m15])), (qk, .inl (cA, 16, .inl (fun _ => 0))), (qb, .inl (cB, 6, .inl (fun _ => 0)))] sz)) 0 0 (va_A [(h0, .inr (13, [m0, m1, m2, m3, m4, m5, .ref qb, .ref qk, .int 0, m9, m10, m11, m12, m13, m14, m15])), (qk, .inl (cA, 16, .inl (fun _ => 0))), (qb, .inl (cB, 6, .inl (fun _ => 0)))] sz) := by
  refine Met.ofW (cc := b_Model_count) (maxL := 4) (ret := (Option.some Jvm.ClassFile.FieldType.int)) (by decide) rfl ?_
  intro p e s m args below meth c s₁ B hml hv
  obtain ⟨rfl, hsz, hP, hK, hD0⟩ := hv
  have hx := B.exec
  have hb := B.bytes
  have hr := B.returns
  have hts := atoms_spec (ws := Cond.code y_Model_count b_Model_count 4 (Option.some Jvm.ClassFile.FieldType.int) :: xv0) B.pre
  have ht : ∀ w ∈ xv0, w.before _ s = true := fun w h => hts w (List.mem_cons_of_mem _ h)
  have hown : s.vm.findClass R_Model = some m.cls := findClass_of_methodNamed B.named
  have hlocks := B.notSynchronized
  subst hsz
  have hD := hD0.self (sz := s.heap.size)
  generalize hAe : va_A [(h0, .inr (13, [m0, m1, m2, m3, m4, m5, .ref qb, .ref qk, .int 0, m9, m10, m11, m12, m13, m14, m15])), (qk, .inl (cA, 16, .inl (fun _ => 0))), (qb, .inl (cB, 6, .inl (fun _ => 0)))] s.heap.size = A at hD ⊢
  have hA : ∀ q : Nat, s.heap.size ≤ q → A q := fun q h => by rw [← hAe]; exact Or.inr h
  have hS : va_S A s.heap s.heap [] := va_S.rf
  have hP : va_P (dC, dI) classes [(h0, .inr (13, [m0, m1, m2, m3, m4, m5, .ref qb, .ref qk, .int 0, m9, m10, m11, m12, m13, m14, m15])), (qk, .inl (cA, 16, .inl (fun _ => 0))), (qb, .inl (cB, 6, .inl (fun _ => 0)))] s.heap := hP
  have hl := lv_entry ([.ref h0, .int n]) (n := 4) (Nat.le_of_ble_eq_true rfl)
  rw [lg_entry_eq]
  generalize (lg_sl ([.ref h0, .int n]) ++ List.replicate (4 - (lg_sl ([.ref h0, .int n])).length) Slot.unset).toArray = ls at hl ⊢
  have hl : lv_has ls 4 [(0, .ref h0), (1, .int n)] := hl
  refine lv_aload_n hx hb d_Model_count_0 rfl (lv_at hl 0 rfl) ?_
  refine lv_iconst (v := (nI 0)) hx hb d_Model_count_1 (by decide) ?_
  refine va_put (D := (dC, dI)) (ci := 13) (v := .int (nI 0)) (ty := .int) (C := R_Model) (T := F_ModelS) (N := 16) hx hb ht i_ModelS t_ModelS t_ModelS_ok n_ModelS hown hK hP hD hS 0 rfl rfl 0 (by decide) (ht _ v_15) (fun _ h9 => h9) rfl (by decide +kernel) rfl rfl (Nat.le_of_ble_eq_true rfl) d_Model_count_2 (fun H locs hP hD hS => ?_)
  have hP : va_P (dC, dI) classes [(h0, .inr (13, [.int (nI 0), m1, m2, m3, m4, m5, .ref qb, .ref qk, .int 0, m9, m10, m11, m12, m13, m14, m15])), (qk, .inl (cA, 16, .inl (fun _ => 0))), (qb, .inl (cB, 6, .inl (fun _ => 0)))] H := hP
  have hD : va_D A [(h0, .inr (13, [.int (nI 0), m1, m2, m3, m4, m5, .ref qb, .ref qk, .int 0, m9, m10, m11, m12, m13, m14, m15])), (qk, .inl (cA, 16, .inl (fun _ => 0))), (qb, .inl (cB, 6, .inl (fun _ => 0)))] := hD
  refine lv_iload_n hx hb d_Model_count_5 rfl (lv_at hl 1 rfl) ?_
  refine lv_iconst (v := (nI 1)) hx hb d_Model_count_6 (by decide) ?_
  refine lv_icmp_ne (tgt := 15) hx hb d_Model_count_7 (by decide) (fun c_7_0 => ?_) (fun c_7_0 => ?_)
  · refine lv_iload_n hx hb d_Model_count_15 rfl (lv_at hl 1 rfl) ?_
    refine lv_iconst (v := (nI 2)) hx hb d_Model_count_16 (by decide) ?_
    refine lv_icmp_ne (tgt := 25) hx hb d_Model_count_17 (by decide) (fun c_17_1 => ?_) (fun c_17_1 => ?_)
    · refine lv_iconst (v := (nI 0)) hx hb d_Model_count_25 (by decide) ?_
      refine lv_istore_n (lv' := [(2, .int (nI 0)), (0, .ref h0), (1, .int n)]) hx hb d_Model_count_26 rfl hl (by decide) rfl (fun ls hl => ?_)
      refine lv_iconst (v := (nI 0)) hx hb d_Model_count_27 (by decide) ?_
      refine lv_istore_n (lv' := [(3, .int (nI 0)), (2, .int (nI 0)), (0, .ref h0), (1, .int n)]) hx hb d_Model_count_28 rfl hl (by decide) rfl (fun ls hl => ?_)
      refine lv_iload_n hx hb d_Model_count_29 rfl (lv_at hl 0 rfl) ?_
      refine lv_bipush (v := (nI 6)) hx hb d_Model_count_30 (by decide) ?_
      refine lv_icmp_ge (tgt := 58) hx hb d_Model_count_32 (by decide) (fun c_32 => absurd c_32 (by decide)) (fun _ => ?_)
      refine lv_iload_n hx hb d_Model_count_35 rfl (lv_at hl 1 rfl) ?_
      refine lv_aload_n hx hb d_Model_count_36 rfl (lv_at hl 2 rfl) ?_
      refine va_get (D := (dC, dI)) (ci := 13) (v := .ref qb) (C := R_Model) (T := F_ModelS) (N := 16) hx hb ht i_ModelS hown hK hP 0 rfl rfl 6 (by decide) (ht _ v_28) (fun _ h9 => h9) rfl d_Model_count_37 ?_
      refine lv_iload_n hx hb d_Model_count_40 rfl (lv_at hl 0 rfl) ?_
      refine va_zald hx hb hK hP 2 1 rfl rfl (vp_in_nI (by decide) (by decide)) d_Model_count_41 ?_
      refine xw_topn 0 rfl ?_
      refine lv_if_eq (tgt := 49) hx hb d_Model_count_42 (by decide) (fun _ => ?_) (fun c_42_2 => absurd (by decide) c_42_2)
      refine lv_iconst (v := (nI 0)) hx hb d_Model_count_49 (by decide) ?_
      refine lv_iadd hx hb d_Model_count_50 ?_
      refine xw_topn (nI 0) (by decide) ?_
      refine lv_istore_n (lv' := [(2, .int (nI 0)), (3, .int (nI 0)), (0, .ref h0), (1, .int n)]) hx hb d_Model_count_51 rfl hl (by decide) rfl (fun ls hl => ?_)
      refine lv_iinc (v := (nI 1)) (lv' := [(3, .int (nI 1)), (2, .int (nI 0)), (0, .ref h0), (1, .int n)]) hx hb d_Model_count_52 hl (k := 1) rfl (by decide) (by decide) rfl (fun ls hl => ?_)
      refine lv_goto (tgt := 29) hx hb d_Model_count_55 (by decide) ?_
      refine lv_iload_n hx hb d_Model_count_29 rfl (lv_at hl 0 rfl) ?_
      refine lv_bipush (v := (nI 6)) hx hb d_Model_count_30 (by decide) ?_
      refine lv_icmp_ge (tgt := 58) hx hb d_Model_count_32 (by decide) (fun c_32 => absurd c_32 (by decide)) (fun _ => ?_)
      refine lv_iload_n hx hb d_Model_count_35 rfl (lv_at hl 1 rfl) ?_
      refine lv_aload_n hx hb d_Model_count_36 rfl (lv_at hl 2 rfl) ?_
      refine va_get (D := (dC, dI)) (ci := 13) (v := .ref qb) (C := R_Model) (T := F_ModelS) (N := 16) hx hb ht i_ModelS hown hK hP 0 rfl rfl 6 (by decide) (ht _ v_28) (fun _ h9 => h9) rfl d_Model_count_37 ?_
      refine lv_iload_n hx hb d_Model_count_40 rfl (lv_at hl 0 rfl) ?_
      refine va_zald hx hb hK hP 2 1 rfl rfl (vp_in_nI (by decide) (by decide)) d_Model_count_41 ?_
      refine xw_topn 0 rfl ?_
      refine lv_if_eq (tgt := 49) hx hb d_Model_count_42 (by decide) (fun _ => ?_) (fun c_42_3 => absurd (by decide) c_42_3)
      refine lv_iconst (v := (nI 0)) hx hb d_Model_count_49 (by decide) ?_
      refine lv_iadd hx hb d_Model_count_50 ?_
      refine xw_topn (nI 0) (by decide) ?_
      refine lv_istore_n (lv' := [(2, .int (nI 0)), (3, .int (nI 1)), (0, .ref h0), (1, .int n)]) hx hb d_Model_count_51 rfl hl (by decide) rfl (fun ls hl => ?_)
      refine lv_iinc (v := (nI 2)) (lv' := [(3, .int (nI 2)), (2, .int (nI 0)), (0, .ref h0), (1, .int n)]) hx hb d_Model_count_52 hl (k := 1) rfl (by decide) (by decide) rfl (fun ls hl => ?_)
      refine lv_goto (tgt := 29) hx hb d_Model_count_55 (by decide) ?_
      refine lv_iload_n hx hb d_Model_count_29 rfl (lv_at hl 0 rfl) ?_
      refine lv_bipush (v := (nI 6)) hx hb d_Model_count_30 (by decide) ?_
      refine lv_icmp_ge (tgt := 58) hx hb d_Model_count_32 (by decide) (fun c_32 => absurd c_32 (by decide)) (fun _ => ?_)
      refine lv_iload_n hx hb d_Model_count_35 rfl (lv_at hl 1 rfl) ?_
      refine lv_aload_n hx hb d_Model_count_36 rfl (lv_at hl 2 rfl) ?_
      refine va_get (D := (dC, dI)) (ci := 13) (v := .ref qb) (C := R_Model) (T := F_ModelS) (N := 16) hx hb ht i_ModelS hown hK hP 0 rfl rfl 6 (by decide) (ht _ v_28) (fun _ h9 => h9) rfl d_Model_count_37 ?_
      refine lv_iload_n hx hb d_Model_count_40 rfl (lv_at hl 0 rfl) ?_
      refine va_zald hx hb hK hP 2 1 rfl rfl (vp_in_nI (by decide) (by decide)) d_Model_count_41 ?_
      refine xw_topn 0 rfl ?_
      refine lv_if_eq (tgt := 49) hx hb d_Model_count_42 (by decide) (fun _ => ?_) (fun c_42_4 => absurd (by decide) c_42_4)
      refine lv_iconst (v := (nI 0)) hx hb d_Model_count_49 (by decide) ?_
      refine lv_iadd hx hb d_Model_count_50 ?_
      refine xw_topn (nI 0) (by decide) ?_
      refine lv_istore_n (lv' := [(2, .int (nI 0)), (3, .int (nI 2)), (0, .ref h0), (1, .int n)]) hx hb d_Model_count_51 rfl hl (by decide) rfl (fun ls hl => ?_)
      refine lv_iinc (v := (nI 3)) (lv' := [(3, .int (nI 3)), (2, .int (nI 0)), (0, .ref h0), (1, .int n)]) hx hb d_Model_count_52 hl (k := 1) rfl (by decide) (by decide) rfl (fun ls hl => ?_)
      refine lv_goto (tgt := 29) hx hb d_Model_count_55 (by decide) ?_
      refine lv_iload_n hx hb d_Model_count_29 rfl (lv_at hl 0 rfl) ?_
      refine lv_bipush (v := (nI 6)) hx hb d_Model_count_30 (by decide) ?_
      refine lv_icmp_ge (tgt := 58) hx hb d_Model_count_32 (by decide) (fun c_32 => absurd c_32 (by decide)) (fun _ => ?_)
      refine lv_iload_n hx hb d_Model_count_35 rfl (lv_at hl 1 rfl) ?_
      refine lv_aload_n hx hb d_Model_count_36 rfl (lv_at hl 2 rfl) ?_
      refine va_get (D := (dC, dI)) (ci := 13) (v := .ref qb) (C := R_Model) (T := F_ModelS) (N := 16) hx hb ht i_ModelS hown hK hP 0 rfl rfl 6 (by decide) (ht _ v_28) (fun _ h9 => h9) rfl d_Model_count_37 ?_
      refine lv_iload_n hx hb d_Model_count_40 rfl (lv_at hl 0 rfl) ?_
      refine va_zald hx hb hK hP 2 1 rfl rfl (vp_in_nI (by decide) (by decide)) d_Model_count_41 ?_
      refine xw_topn 0 rfl ?_
      refine lv_if_eq (tgt := 49) hx hb d_Model_count_42 (by decide) (fun _ => ?_) (fun c_42_5 => absurd (by decide) c_42_5)
      refine lv_iconst (v := (nI 0)) hx hb d_Model_count_49 (by decide) ?_
      refine lv_iadd hx hb d_Model_count_50 ?_
      refine xw_topn (nI 0) (by decide) ?_
      refine lv_istore_n (lv' := [(2, .int (nI 0)), (3, .int (nI 3)), (0, .ref h0), (1, .int n)]) hx hb d_Model_count_51 rfl hl (by decide) rfl (fun ls hl => ?_)
      refine lv_iinc (v := (nI 4)) (lv' := [(3, .int (nI 4)), (2, .int (nI 0)), (0, .ref h0), (1, .int n)]) hx hb d_Model_count_52 hl (k := 1) rfl (by decide) (by decide) rfl (fun ls hl => ?_)
      refine lv_goto (tgt := 29) hx hb d_Model_count_55 (by decide) ?_
      refine lv_iload_n hx hb d_Model_count_29 rfl (lv_at hl 0 rfl) ?_
      refine lv_bipush (v := (nI 6)) hx hb d_Model_count_30 (by decide) ?_
      refine lv_icmp_ge (tgt := 58) hx hb d_Model_count_32 (by decide) (fun c_32 => absurd c_32 (by decide)) (fun _ => ?_)
      refine lv_iload_n hx hb d_Model_count_35 rfl (lv_at hl 1 rfl) ?_
      refine lv_aload_n hx hb d_Model_count_36 rfl (lv_at hl 2 rfl) ?_
      refine va_get (D := (dC, dI)) (ci := 13) (v := .ref qb) (C := R_Model) (T := F_ModelS) (N := 16) hx hb ht i_ModelS hown hK hP 0 rfl rfl 6 (by decide) (ht _ v_28) (fun _ h9 => h9) rfl d_Model_count_37 ?_
      refine lv_iload_n hx hb d_Model_count_40 rfl (lv_at hl 0 rfl) ?_
      refine va_zald hx hb hK hP 2 1 rfl rfl (vp_in_nI (by decide) (by decide)) d_Model_count_41 ?_
      refine xw_topn 0 rfl ?_
      refine lv_if_eq (tgt := 49) hx hb d_Model_count_42 (by decide) (fun _ => ?_) (fun c_42_6 => absurd (by decide) c_42_6)
      refine lv_iconst (v := (nI 0)) hx hb d_Model_count_49 (by decide) ?_
      refine lv_iadd hx hb d_Model_count_50 ?_
      refine xw_topn (nI 0) (by decide) ?_
      refine lv_istore_n (lv' := [(2, .int (nI 0)), (3, .int (nI 4)), (0, .ref h0), (1, .int n)]) hx hb d_Model_count_51 rfl hl (by decide) rfl (fun ls hl => ?_)
      refine lv_iinc (v := (nI 5)) (lv' := [(3, .int (nI 5)), (2, .int (nI 0)), (0, .ref h0), (1, .int n)]) hx hb d_Model_count_52 hl (k := 1) rfl (by decide) (by decide) rfl (fun ls hl => ?_)
      refine lv_goto (tgt := 29) hx hb d_Model_count_55 (by decide) ?_
      refine lv_iload_n hx hb d_Model_count_29 rfl (lv_at hl 0 rfl) ?_
      refine lv_bipush (v := (nI 6)) hx hb d_Model_count_30 (by decide) ?_
      refine lv_icmp_ge (tgt := 58) hx hb d_Model_count_32 (by decide) (fun c_32 => absurd c_32 (by decide)) (fun _ => ?_)
      refine lv_iload_n hx hb d_Model_count_35 rfl (lv_at hl 1 rfl) ?_
      refine lv_aload_n hx hb d_Model_count_36 rfl (lv_at hl 2 rfl) ?_
      refine va_get (D := (dC, dI)) (ci := 13) (v := .ref qb) (C := R_Model) (T := F_ModelS) (N := 16) hx hb ht i_ModelS hown hK hP 0 rfl rfl 6 (by decide) (ht _ v_28) (fun _ h9 => h9) rfl d_Model_count_37 ?_
      refine lv_iload_n hx hb d_Model_count_40 rfl (lv_at hl 0 rfl) ?_
      refine va_zald hx hb hK hP 2 1 rfl rfl (vp_in_nI (by decide) (by decide)) d_Model_count_41 ?_
      refine xw_topn 0 rfl ?_
      refine lv_if_eq (tgt := 49) hx hb d_Model_count_42 (by decide) (fun _ => ?_) (fun c_42_7 => absurd (by decide) c_42_7)
      refine lv_iconst (v := (nI 0)) hx hb d_Model_count_49 (by decide) ?_
      refine lv_iadd hx hb d_Model_count_50 ?_
      refine xw_topn (nI 0) (by decide) ?_
      refine lv_istore_n (lv' := [(2, .int (nI 0)), (3, .int (nI 5)), (0, .ref h0), (1, .int n)]) hx hb d_Model_count_51 rfl hl (by decide) rfl (fun ls hl => ?_)
      refine lv_iinc (v := (nI 6)) (lv' := [(3, .int (nI 6)), (2, .int (nI 0)), (0, .ref h0), (1, .int n)]) hx hb d_Model_count_52 hl (k := 1) rfl (by decide) (by decide) rfl (fun ls hl => ?_)
      refine lv_goto (tgt := 29) hx hb d_Model_count_55 (by decide) ?_
      refine lv_iload_n hx hb d_Model_count_29 rfl (lv_at hl 0 rfl) ?_
      refine lv_bipush (v := (nI 6)) hx hb d_Model_count_30 (by decide) ?_
      refine lv_icmp_ge (tgt := 58) hx hb d_Model_count_32 (by decide) (fun _ => ?_) (fun c_32 => absurd (by decide) c_32)
      refine lv_iload_n hx hb d_Model_count_58 rfl (lv_at hl 3 rfl) ?_
      refine lv_if_ne (tgt := 66) hx hb d_Model_count_59 (by decide) (fun c_59_8 => ?_) (fun c_59_8 => ?_)
      · refine lv_iconst (v := (-1)) hx hb d_Model_count_66 (by decide) ?_
        have hP9 := hP.sub (ws' := []) [] rfl
        have hD9 := hD.sub (ws' := []) [] (by decide +kernel) rfl
        have hK9 := hK.sub (tys' := []) [] rfl
        exact W.iret hx hb hr (fun t ht9 hW => ⟨⟨(-1), (), rfl, (by show _ = xc _; unfold xc; rw [if_neg (show ¬ n = 1 from c_7_0), if_neg (show ¬ n = 2 from c_17_1), if_neg (show ¬ n = 0 from c_59_8)]), by rw [ht9]; exact hP9, va_K.moved hW.alike hK9, hD9⟩, hS.F ht9⟩) hS.2.2 d_Model_count_67
      · refine lv_iload_n hx hb d_Model_count_62 rfl (lv_at hl 1 rfl) ?_
        refine lv_goto (tgt := 67) hx hb d_Model_count_63 (by decide) ?_
        have hP9 := hP.sub (ws' := []) [] rfl
        have hD9 := hD.sub (ws' := []) [] (by decide +kernel) rfl
        have hK9 := hK.sub (tys' := []) [] rfl
        exact W.iret hx hb hr (fun t ht9 hW => ⟨⟨(nI 0), (), rfl, (by show _ = xc _; unfold xc; rw [if_neg (show ¬ n = 1 from c_7_0), if_neg (show ¬ n = 2 from c_17_1), if_pos (show n = 0 from c_59_8)] <;> rfl), by rw [ht9]; exact hP9, va_K.moved hW.alike hK9, hD9⟩, hS.F ht9⟩) hS.2.2 d_Model_count_67
    · refine lv_aload_n hx hb d_Model_count_20 rfl (lv_at hl 0 rfl) ?_
      refine va_get (D := (dC, dI)) (ci := 13) (v := .int 0) (C := R_Model) (T := F_ModelS) (N := 16) hx hb ht i_ModelS hown hK hP 0 rfl rfl 8 (by decide) (ht _ v_51) (fun _ h9 => h9) rfl d_Model_count_21 ?_
      have hP9 := hP.sub (ws' := []) [] rfl
      have hD9 := hD.sub (ws' := []) [] (by decide +kernel) rfl
      have hK9 := hK.sub (tys' := []) [] rfl
      exact W.iret hx hb hr (fun t ht9 hW => ⟨⟨0, (), rfl, (by show _ = xc _; unfold xc; rw [if_neg (show ¬ n = 1 from c_7_0), if_pos (show n = 2 from c_17_1)] <;> rfl), by rw [ht9]; exact hP9, va_K.moved hW.alike hK9, hD9⟩, hS.F ht9⟩) hS.2.2 d_Model_count_24
  · refine lv_aload_n hx hb d_Model_count_10 rfl (lv_at hl 0 rfl) ?_
    have hPc := hP.sub (ws' := [(h0, .inr (13, [.int (nI 0), m1, m2, m3, m4, m5, .ref qb, .ref qk, .int 0, m9, m10, m11, m12, m13, m14, m15])), (qk, .inl (cA, 16, .inl (fun _ => 0)))]) [0, 1] rfl
    have hDc := hD.sub (ws' := [(h0, .inr (13, [.int (nI 0), m1, m2, m3, m4, m5, .ref qb, .ref qk, .int 0, m9, m10, m11, m12, m13, m14, m15])), (qk, .inl (cA, 16, .inl (fun _ => 0)))]) [0, 1] (by decide +kernel) rfl
    have hKc := hK.sub (tys' := [(cA, .boolean)]) [0] rfl
    have hFc := va_free (wc := [(h0, .inr (13, [.int (nI 0), m1, m2, m3, m4, m5, .ref qb, .ref qk, .int 0, m9, m10, m11, m12, m13, m14, m15])), (qk, .inl (cA, 16, .inl (fun _ => 0)))]) hD hS hA [0, 1] rfl
    refine va_calli (va_runV (As := []) (rest := []) ⟨hx, hb, hml, hown, ht⟩ (c_Model_cards0 l dC dI h0 H.size qk cA (.int (nI 0)) m1 m2 m3 m4 m5 (.ref qb) (.int 0) m9 m10 m11 m12 m13 m14 m15) ⟨callB_of 0 ht (xv_good v_185) rfl rfl rfl (ht _ v_0) (ht _ v_183) (by decide +kernel) ⟨(Nat.le_of_ble_eq_true rfl), (Nat.le_of_ble_eq_true rfl)⟩, ht _ v_184, ht _ v_193⟩ ⟨fun a U g mk q => by obtain ⟨q0, q1, qP, qK, qD⟩ := q; exact ⟨q0, q1, qP, va_K.moved (u := U) (U := U.calling g mk a) (Vm.Alike.refl U.vm) qK, qD⟩, va_recv hKc hPc (ci := 13) (q0 := 0) rfl rfl, fun U hU hW => ⟨rfl, by rw [hU], by rw [hU]; exact hPc, va_K.moved hW.alike hKc, hDc.weaken (fun _ _ _ _ => trivial)⟩⟩ rfl rfl hl.1 rfl (lv_room (Nat.le_of_ble_eq_true rfl)) d_Model_count_11 ⟨(Nat.le_of_ble_eq_true rfl), (Nat.le_of_ble_eq_true rfl)⟩) hS (fun q _ h => hFc q h) hFc (fun r53 u t H1 locs ht9 hvm hw hB hz1 hk1 hS => ?_)
    obtain ⟨hP1, hK1, hD1⟩ := hB
    rw [ht9] at hP1
    have hK1 := va_K.moved hvm.symm hK1
    obtain ⟨hP, hD⟩ := va_join (wr := [(qb, .inl (cB, 6, .inl (fun _ => 0)))]) (w1 := []) hP hD [0, 1] [2] rfl rfl (by decide +kernel) (by decide +kernel) hk1 hFc hP1 hD1
    have hK := (hK.sub (tys' := [(cB, .boolean)]) [1] rfl).app hK1
    generalize H1 = H at hP hS ⊢
    have hP : va_P (dC, dI) classes [(qb, .inl (cB, 6, .inl (fun _ => 0)))] H := hP
    have hD : va_D A [(qb, .inl (cB, 6, .inl (fun _ => 0)))] := hD
    have hK : va_K (dC, dI) classes [(cB, .boolean)] s := hK
    refine W.widen (k := 0) (n := 0) (by omega) (by omega) ?_
    have hw : r53 = 0 := hw
    subst hw
    have hP9 := hP.sub (ws' := []) [] rfl
    have hD9 := hD.sub (ws' := []) [] (by decide +kernel) rfl
    have hK9 := hK.sub (tys' := []) [] rfl
    exact W.iret hx hb hr (fun t ht9 hW => ⟨⟨0, (), rfl, (by show _ = xc _; unfold xc; rw [if_pos (show n = 1 from c_7_0)] <;> rfl), by rw [ht9]; exact hP9, va_K.moved hW.alike hK9, hD9⟩, hS.F ht9⟩) hS.2.2 d_Model_count_14
