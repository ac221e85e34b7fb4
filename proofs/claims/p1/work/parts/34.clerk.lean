theorem d_Card_init_0 : decode b_Card_init 0 = .ok (.aload_n 0, 1) := by decide +kernel
theorem d_Card_init_1 : decode b_Card_init 1 = .ok (.invokespecial 3, 3) := by decide +kernel
theorem d_Card_init_4 : decode b_Card_init 4 = .ok (.aload_n 0, 1) := by decide +kernel
theorem d_Card_init_5 : decode b_Card_init 5 = .ok (.new 9, 3) := by decide +kernel
theorem d_Card_init_8 : decode b_Card_init 8 = .ok (.dup, 1) := by decide +kernel
theorem d_Card_init_9 : decode b_Card_init 9 = .ok (.sipush 6000, 3) := by decide +kernel
theorem d_Card_init_12 : decode b_Card_init 12 = .ok (.invokespecial 11, 3) := by decide +kernel
theorem d_Card_init_15 : decode b_Card_init 15 = .ok (.putfield 14, 3) := by decide +kernel
theorem d_Card_init_18 : decode b_Card_init 18 = .ok (.aload_n 0, 1) := by decide +kernel
theorem d_Card_init_19 : decode b_Card_init 19 = .ok (.bipush 40, 2) := by decide +kernel
theorem d_Card_init_21 : decode b_Card_init 21 = .ok (.bipush 9, 2) := by decide +kernel
theorem d_Card_init_23 : decode b_Card_init 23 = .ok (.multianewarray 20 2, 4) := by decide +kernel
theorem d_Card_init_27 : decode b_Card_init 27 = .ok (.putfield 22, 3) := by decide +kernel
theorem d_Card_init_30 : decode b_Card_init 30 = .ok (.aload_n 0, 1) := by decide +kernel
theorem d_Card_init_31 : decode b_Card_init 31 = .ok (.sipush 320, 3) := by decide +kernel
theorem d_Card_init_34 : decode b_Card_init 34 = .ok (.bipush 9, 2) := by decide +kernel
theorem d_Card_init_36 : decode b_Card_init 36 = .ok (.multianewarray 20 2, 4) := by decide +kernel
theorem d_Card_init_40 : decode b_Card_init 40 = .ok (.putfield 25, 3) := by decide +kernel
theorem d_Card_init_43 : decode b_Card_init 43 = .ok (.aload_n 0, 1) := by decide +kernel
theorem d_Card_init_44 : decode b_Card_init 44 = .ok (.sipush 2560, 3) := by decide +kernel
theorem d_Card_init_47 : decode b_Card_init 47 = .ok (.newarray .int, 2) := by decide +kernel
theorem d_Card_init_49 : decode b_Card_init 49 = .ok (.putfield 28, 3) := by decide +kernel
theorem d_Card_init_52 : decode b_Card_init 52 = .ok (.aload_n 0, 1) := by decide +kernel
theorem d_Card_init_53 : decode b_Card_init 53 = .ok (.sipush 2560, 3) := by decide +kernel
theorem d_Card_init_56 : decode b_Card_init 56 = .ok (.newarray .int, 2) := by decide +kernel
theorem d_Card_init_58 : decode b_Card_init 58 = .ok (.putfield 32, 3) := by decide +kernel
theorem d_Card_init_61 : decode b_Card_init 61 = .ok (.aload_n 0, 1) := by decide +kernel
theorem d_Card_init_62 : decode b_Card_init 62 = .ok (.bipush 34, 2) := by decide +kernel
theorem d_Card_init_64 : decode b_Card_init 64 = .ok (.newarray .int, 2) := by decide +kernel
theorem d_Card_init_66 : decode b_Card_init 66 = .ok (.putfield 35, 3) := by decide +kernel
theorem d_Card_init_69 : decode b_Card_init 69 = .ok (.return_, 1) := by decide +kernel
theorem d_Xml_init_0 : decode b_Xml_init 0 = .ok (.aload_n 0, 1) := by decide +kernel
theorem d_Xml_init_1 : decode b_Xml_init 1 = .ok (.invokespecial 3, 3) := by decide +kernel
theorem d_Xml_init_4 : decode b_Xml_init 4 = .ok (.aload_n 0, 1) := by decide +kernel
theorem d_Xml_init_5 : decode b_Xml_init 5 = .ok (.sipush 200, 3) := by decide +kernel
theorem d_Xml_init_8 : decode b_Xml_init 8 = .ok (.bipush 9, 2) := by decide +kernel
theorem d_Xml_init_10 : decode b_Xml_init 10 = .ok (.multianewarray 11 2, 4) := by decide +kernel
theorem d_Xml_init_14 : decode b_Xml_init 14 = .ok (.putfield 13, 3) := by decide +kernel
theorem d_Xml_init_17 : decode b_Xml_init 17 = .ok (.aload_n 0, 1) := by decide +kernel
theorem d_Xml_init_18 : decode b_Xml_init 18 = .ok (.sipush 600, 3) := by decide +kernel
theorem d_Xml_init_21 : decode b_Xml_init 21 = .ok (.bipush 9, 2) := by decide +kernel
theorem d_Xml_init_23 : decode b_Xml_init 23 = .ok (.multianewarray 11 2, 4) := by decide +kernel
theorem d_Xml_init_27 : decode b_Xml_init 27 = .ok (.putfield 18, 3) := by decide +kernel
theorem d_Xml_init_30 : decode b_Xml_init 30 = .ok (.aload_n 0, 1) := by decide +kernel
theorem d_Xml_init_31 : decode b_Xml_init 31 = .ok (.new 21, 3) := by decide +kernel
theorem d_Xml_init_34 : decode b_Xml_init 34 = .ok (.dup, 1) := by decide +kernel
theorem d_Xml_init_35 : decode b_Xml_init 35 = .ok (.sipush 3000, 3) := by decide +kernel
theorem d_Xml_init_38 : decode b_Xml_init 38 = .ok (.invokespecial 23, 3) := by decide +kernel
theorem d_Xml_init_41 : decode b_Xml_init 41 = .ok (.putfield 26, 3) := by decide +kernel
theorem d_Xml_init_44 : decode b_Xml_init 44 = .ok (.aload_n 0, 1) := by decide +kernel
theorem d_Xml_init_45 : decode b_Xml_init 45 = .ok (.sipush 375, 3) := by decide +kernel
theorem d_Xml_init_48 : decode b_Xml_init 48 = .ok (.iconst 2, 1) := by decide +kernel
theorem d_Xml_init_49 : decode b_Xml_init 49 = .ok (.multianewarray 11 2, 4) := by decide +kernel
theorem d_Xml_init_53 : decode b_Xml_init 53 = .ok (.putfield 30, 3) := by decide +kernel
theorem d_Xml_init_56 : decode b_Xml_init 56 = .ok (.aload_n 0, 1) := by decide +kernel
theorem d_Xml_init_57 : decode b_Xml_init 57 = .ok (.sipush 375, 3) := by decide +kernel
theorem d_Xml_init_60 : decode b_Xml_init 60 = .ok (.iconst 3, 1) := by decide +kernel
theorem d_Xml_init_61 : decode b_Xml_init 61 = .ok (.multianewarray 11 2, 4) := by decide +kernel
theorem d_Xml_init_65 : decode b_Xml_init 65 = .ok (.putfield 33, 3) := by decide +kernel
theorem d_Xml_init_68 : decode b_Xml_init 68 = .ok (.aload_n 0, 1) := by decide +kernel
theorem d_Xml_init_69 : decode b_Xml_init 69 = .ok (.bipush 20, 2) := by decide +kernel
theorem d_Xml_init_71 : decode b_Xml_init 71 = .ok (.newarray .int, 2) := by decide +kernel
theorem d_Xml_init_73 : decode b_Xml_init 73 = .ok (.putfield 36, 3) := by decide +kernel
theorem d_Xml_init_76 : decode b_Xml_init 76 = .ok (.aload_n 0, 1) := by decide +kernel
theorem d_Xml_init_77 : decode b_Xml_init 77 = .ok (.bipush 20, 2) := by decide +kernel
theorem d_Xml_init_79 : decode b_Xml_init 79 = .ok (.newarray .int, 2) := by decide +kernel
theorem d_Xml_init_81 : decode b_Xml_init 81 = .ok (.putfield 40, 3) := by decide +kernel
theorem d_Xml_init_84 : decode b_Xml_init 84 = .ok (.aload_n 0, 1) := by decide +kernel
theorem d_Xml_init_85 : decode b_Xml_init 85 = .ok (.new 21, 3) := by decide +kernel
theorem d_Xml_init_88 : decode b_Xml_init 88 = .ok (.dup, 1) := by decide +kernel
theorem d_Xml_init_89 : decode b_Xml_init 89 = .ok (.sipush 3000, 3) := by decide +kernel
theorem d_Xml_init_92 : decode b_Xml_init 92 = .ok (.invokespecial 23, 3) := by decide +kernel
theorem d_Xml_init_95 : decode b_Xml_init 95 = .ok (.putfield 43, 3) := by decide +kernel
theorem d_Xml_init_98 : decode b_Xml_init 98 = .ok (.aload_n 0, 1) := by decide +kernel
theorem d_Xml_init_99 : decode b_Xml_init 99 = .ok (.sipush 3000, 3) := by decide +kernel
theorem d_Xml_init_102 : decode b_Xml_init 102 = .ok (.newarray .int, 2) := by decide +kernel
theorem d_Xml_init_104 : decode b_Xml_init 104 = .ok (.putfield 46, 3) := by decide +kernel
theorem d_Xml_init_107 : decode b_Xml_init 107 = .ok (.aload_n 0, 1) := by decide +kernel
theorem d_Xml_init_108 : decode b_Xml_init 108 = .ok (.new 21, 3) := by decide +kernel
theorem d_Xml_init_111 : decode b_Xml_init 111 = .ok (.dup, 1) := by decide +kernel
theorem d_Xml_init_112 : decode b_Xml_init 112 = .ok (.sipush 3000, 3) := by decide +kernel
theorem d_Xml_init_115 : decode b_Xml_init 115 = .ok (.invokespecial 23, 3) := by decide +kernel
theorem d_Xml_init_118 : decode b_Xml_init 118 = .ok (.putfield 49, 3) := by decide +kernel
theorem d_Xml_init_121 : decode b_Xml_init 121 = .ok (.aload_n 0, 1) := by decide +kernel
theorem d_Xml_init_122 : decode b_Xml_init 122 = .ok (.aload_n 0, 1) := by decide +kernel
theorem d_Xml_init_123 : decode b_Xml_init 123 = .ok (.getfield 49, 3) := by decide +kernel
theorem d_Xml_init_126 : decode b_Xml_init 126 = .ok (.putfield 52, 3) := by decide +kernel
theorem d_Xml_init_129 : decode b_Xml_init 129 = .ok (.return_, 1) := by decide +kernel
theorem d_Filter_init_0 : decode b_Filter_init 0 = .ok (.aload_n 0, 1) := by decide +kernel
theorem d_Filter_init_1 : decode b_Filter_init 1 = .ok (.invokespecial 3, 3) := by decide +kernel
theorem d_Filter_init_4 : decode b_Filter_init 4 = .ok (.aload_n 0, 1) := by decide +kernel
theorem d_Filter_init_5 : decode b_Filter_init 5 = .ok (.aload_n 1, 1) := by decide +kernel
theorem d_Filter_init_6 : decode b_Filter_init 6 = .ok (.putfield 9, 3) := by decide +kernel
theorem d_Filter_init_9 : decode b_Filter_init 9 = .ok (.aload_n 0, 1) := by decide +kernel
theorem d_Filter_init_10 : decode b_Filter_init 10 = .ok (.aload_n 2, 1) := by decide +kernel
theorem d_Filter_init_11 : decode b_Filter_init 11 = .ok (.putfield 15, 3) := by decide +kernel
theorem d_Filter_init_14 : decode b_Filter_init 14 = .ok (.aload_n 0, 1) := by decide +kernel
theorem d_Filter_init_15 : decode b_Filter_init 15 = .ok (.sipush 200, 3) := by decide +kernel
theorem d_Filter_init_18 : decode b_Filter_init 18 = .ok (.bipush 10, 2) := by decide +kernel
theorem d_Filter_init_20 : decode b_Filter_init 20 = .ok (.multianewarray 21 2, 4) := by decide +kernel
theorem d_Filter_init_24 : decode b_Filter_init 24 = .ok (.putfield 23, 3) := by decide +kernel
theorem d_Filter_init_27 : decode b_Filter_init 27 = .ok (.aload_n 0, 1) := by decide +kernel
theorem d_Filter_init_28 : decode b_Filter_init 28 = .ok (.sipush 200, 3) := by decide +kernel
theorem d_Filter_init_31 : decode b_Filter_init 31 = .ok (.bipush 10, 2) := by decide +kernel
theorem d_Filter_init_33 : decode b_Filter_init 33 = .ok (.multianewarray 21 2, 4) := by decide +kernel
theorem d_Filter_init_37 : decode b_Filter_init 37 = .ok (.putfield 26, 3) := by decide +kernel
theorem d_Filter_init_40 : decode b_Filter_init 40 = .ok (.aload_n 0, 1) := by decide +kernel
theorem d_Filter_init_41 : decode b_Filter_init 41 = .ok (.new 29, 3) := by decide +kernel
theorem d_Filter_init_44 : decode b_Filter_init 44 = .ok (.dup, 1) := by decide +kernel
theorem d_Filter_init_45 : decode b_Filter_init 45 = .ok (.sipush 3000, 3) := by decide +kernel
theorem d_Filter_init_48 : decode b_Filter_init 48 = .ok (.invokespecial 33, 3) := by decide +kernel
theorem d_Filter_init_51 : decode b_Filter_init 51 = .ok (.putfield 36, 3) := by decide +kernel
theorem d_Filter_init_54 : decode b_Filter_init 54 = .ok (.aload_n 0, 1) := by decide +kernel
theorem d_Filter_init_55 : decode b_Filter_init 55 = .ok (.new 29, 3) := by decide +kernel
theorem d_Filter_init_58 : decode b_Filter_init 58 = .ok (.dup, 1) := by decide +kernel
theorem d_Filter_init_59 : decode b_Filter_init 59 = .ok (.sipush 6000, 3) := by decide +kernel
theorem d_Filter_init_62 : decode b_Filter_init 62 = .ok (.invokespecial 33, 3) := by decide +kernel
theorem d_Filter_init_65 : decode b_Filter_init 65 = .ok (.putfield 40, 3) := by decide +kernel
theorem d_Filter_init_68 : decode b_Filter_init 68 = .ok (.return_, 1) := by decide +kernel
theorem d_Clerk_init_0 : decode b_Clerk_init 0 = .ok (.aload_n 0, 1) := by decide +kernel
theorem d_Clerk_init_1 : decode b_Clerk_init 1 = .ok (.invokespecial 5, 3) := by decide +kernel
theorem d_Clerk_init_4 : decode b_Clerk_init 4 = .ok (.aload_n 0, 1) := by decide +kernel
theorem d_Clerk_init_5 : decode b_Clerk_init 5 = .ok (.aload_n 1, 1) := by decide +kernel
theorem d_Clerk_init_6 : decode b_Clerk_init 6 = .ok (.putfield 11, 3) := by decide +kernel
theorem d_Clerk_init_9 : decode b_Clerk_init 9 = .ok (.aload_n 0, 1) := by decide +kernel
theorem d_Clerk_init_10 : decode b_Clerk_init 10 = .ok (.aload_n 2, 1) := by decide +kernel
theorem d_Clerk_init_11 : decode b_Clerk_init 11 = .ok (.putfield 15, 3) := by decide +kernel
theorem d_Clerk_init_14 : decode b_Clerk_init 14 = .ok (.aload_n 0, 1) := by decide +kernel
theorem d_Clerk_init_15 : decode b_Clerk_init 15 = .ok (.aload_n 3, 1) := by decide +kernel
theorem d_Clerk_init_16 : decode b_Clerk_init 16 = .ok (.putfield 19, 3) := by decide +kernel
theorem d_Clerk_init_19 : decode b_Clerk_init 19 = .ok (.aload_n 0, 1) := by decide +kernel
theorem d_Clerk_init_20 : decode b_Clerk_init 20 = .ok (.aload 4, 2) := by decide +kernel
theorem d_Clerk_init_22 : decode b_Clerk_init 22 = .ok (.putfield 23, 3) := by decide +kernel
theorem d_Clerk_init_25 : decode b_Clerk_init 25 = .ok (.aload_n 0, 1) := by decide +kernel
theorem d_Clerk_init_26 : decode b_Clerk_init 26 = .ok (.new 27, 3) := by decide +kernel
theorem d_Clerk_init_29 : decode b_Clerk_init 29 = .ok (.dup, 1) := by decide +kernel
theorem d_Clerk_init_30 : decode b_Clerk_init 30 = .ok (.aload 4, 2) := by decide +kernel
theorem d_Clerk_init_32 : decode b_Clerk_init 32 = .ok (.aload_n 3, 1) := by decide +kernel
theorem d_Clerk_init_33 : decode b_Clerk_init 33 = .ok (.invokespecial 29, 3) := by decide +kernel
theorem d_Clerk_init_36 : decode b_Clerk_init 36 = .ok (.putfield 32, 3) := by decide +kernel
theorem d_Clerk_init_39 : decode b_Clerk_init 39 = .ok (.aload_n 0, 1) := by decide +kernel
theorem d_Clerk_init_40 : decode b_Clerk_init 40 = .ok (.new 36, 3) := by decide +kernel
theorem d_Clerk_init_43 : decode b_Clerk_init 43 = .ok (.dup, 1) := by decide +kernel
theorem d_Clerk_init_44 : decode b_Clerk_init 44 = .ok (.sipush 400, 3) := by decide +kernel
theorem d_Clerk_init_47 : decode b_Clerk_init 47 = .ok (.invokespecial 38, 3) := by decide +kernel
theorem d_Clerk_init_50 : decode b_Clerk_init 50 = .ok (.putfield 41, 3) := by decide +kernel
theorem d_Clerk_init_53 : decode b_Clerk_init 53 = .ok (.aload_n 0, 1) := by decide +kernel
theorem d_Clerk_init_54 : decode b_Clerk_init 54 = .ok (.new 36, 3) := by decide +kernel
theorem d_Clerk_init_57 : decode b_Clerk_init 57 = .ok (.dup, 1) := by decide +kernel
theorem d_Clerk_init_58 : decode b_Clerk_init 58 = .ok (.sipush 3000, 3) := by decide +kernel
theorem d_Clerk_init_61 : decode b_Clerk_init 61 = .ok (.invokespecial 38, 3) := by decide +kernel
theorem d_Clerk_init_64 : decode b_Clerk_init 64 = .ok (.putfield 47, 3) := by decide +kernel
theorem d_Clerk_init_67 : decode b_Clerk_init 67 = .ok (.return_, 1) := by decide +kernel
set_option maxHeartbeats 4000000 in
set_option maxRecDepth 100000 in
/-- Card(): an empty text, a tally of zeros -/
theorem c_Card_init (l : Launch) (dC : Nat → ClassId) (dI : Nat → Nat → Nat) (h0 sz : Nat) : Met l y_Card_init (Cond.code y_Card_init b_Card_init 1 none :: xw0) ({ frames := 4, cells := 367, slots := 14757, locals := 100 }) (va_Pc [.ref h0] (fun U => U.heap.size = sz ∧ va_P (dC, dI) classes [(h0, .inr (5, [.null, .int 0, .null, .int 0, .null, .int 0, .null, .null, .int 0, .null]))] U.heap ∧ va_K (dC, dI) classes [] U ∧ va_D (fun _ => True) [(h0, .inr (5, [.null, .int 0, .null, .int 0, .null, .int 0, .null, .null, .int 0, .null]))] ∧ xm_K U)) (va_Qv (fun _ : Unit => True) (fun (_ : Unit) (t : State) => ∃ (q1 q4 q5 q6 q8 q10 q2 : Nat) (cA11 : ClassId), va_P (dC, dI) classes [(h0, .inr (5, [.ref q1, .int 0, .ref q4, .int 0, .ref q5, .int 0, .ref q6, .ref q8, .int 0, .ref q10])), (q1, .inr (0, [.ref q2, .int 0, .int 0])), (q10, .inl (cA11, 34, .inl (fun _ => 0)))] t.heap ∧ va_K (dC, dI) classes [(cA11, .int)] t ∧ va_D (va_A [(h0, .inr (5, [.null, .int 0, .null, .int 0, .null, .int 0, .null, .null, .int 0, .null]))] sz) [(h0, .inr (5, [.ref q1, .int 0, .ref q4, .int 0, .ref q5, .int 0, .ref q6, .ref q8, .int 0, .ref q10])), (q1, .inr (0, [.ref q2, .int 0, .int 0])), (q10, .inl (cA11, 34, .inl (fun _ => 0)))]) (va_A [(h0, .inr (5, [.null, .int 0, .null, .int 0, .null, .int 0, .null, .null, .int 0, .null]))] sz)) 367 14757 (va_A [(h0, .inr (5, [.null, .int 0, .null, .int 0, .null, .int 0, .null, .null, .int 0, .null]))] sz) := by
  refine Met.ofW (cc := b_Card_init) (maxL := 1) (ret := none) (by decide) rfl ?_
  intro p e s m args below meth c s₁ B hml hv
  obtain ⟨rfl, hsz, hP, hK, hD0, hO_Z⟩ := hv
  have hx := B.exec
  have hb := B.bytes
  have hr := B.returns
  have hts := atoms_spec (ws := Cond.code y_Card_init b_Card_init 1 none :: xw0) B.pre
  have ht : ∀ w ∈ xw0, w.before _ s = true := fun w h => hts w (List.mem_cons_of_mem _ h)
  have hown : s.vm.findClass R_Card = some m.cls := findClass_of_methodNamed B.named
  have hlocks := B.notSynchronized
  have hin : meth.name = "<init>" := (name_of_methodNamed B.named B.method).1
  subst hsz
  have hD := hD0.self (sz := s.heap.size)
  generalize hAe : va_A [(h0, .inr (5, [.null, .int 0, .null, .int 0, .null, .int 0, .null, .null, .int 0, .null]))] s.heap.size = A at hD ⊢
  have hA : ∀ q : Nat, s.heap.size ≤ q → A q := fun q h => by rw [← hAe]; exact Or.inr h
  have hS : va_S A s.heap s.heap [] := va_S.rf
  have hP : va_P (dC, dI) classes [(h0, .inr (5, [.null, .int 0, .null, .int 0, .null, .int 0, .null, .null, .int 0, .null]))] s.heap := hP
  have hl := lv_entry ([.ref h0]) (n := 1) (Nat.le_of_ble_eq_true rfl)
  rw [lg_entry_eq]
  generalize (lg_sl ([.ref h0]) ++ List.replicate (1 - (lg_sl ([.ref h0])).length) Slot.unset).toArray = ls at hl ⊢
  have hl : lv_has ls 1 [(0, .ref h0)] := hl
  refine lv_aload_n hx hb d_Card_init_0 rfl (lv_at hl 0 rfl) ?_
  refine W.objInit hx hb hown (ht _ k_161) (ht _ k_21) (ht _ k_22) rfl (by rw [hml]; exact hl.1) rfl d_Card_init_1 (Nat.le_of_ble_eq_true rfl) (Nat.le_of_ble_eq_true rfl) ?_
  refine W.eq (g2 := F0 m 4 ls []) rfl ?_
  refine lv_aload_n hx hb d_Card_init_4 rfl (lv_at hl 0 rfl) ?_
  refine va_new (ci := 0) (fs := [.null, .int 0, .int 0]) (C := R_Row) (T := F_Row) (N := 3) hx hb ht i_Row t_Row t_Row_ok hown (ht _ k_162) (ht _ k_24) (ht _ k_2) hK hP hD hS hA rfl (fun j hj => by rcases (show j = 0 ∨ j = 1 ∨ j = 2 by omega) with rfl | rfl | rfl <;> rfl) (Nat.le_of_ble_eq_true rfl) (Nat.le_of_ble_eq_true rfl) d_Card_init_5 (fun q1 H hP hD hS => ?_)
  refine W.widen (k := 1) (n := 3) (by omega) (by omega) ?_
  have hP : va_P (dC, dI) classes [(h0, .inr (5, [.null, .int 0, .null, .int 0, .null, .int 0, .null, .null, .int 0, .null])), (q1, .inr (0, [.null, .int 0, .int 0]))] H := hP
  have hD : va_D A [(h0, .inr (5, [.null, .int 0, .null, .int 0, .null, .int 0, .null, .null, .int 0, .null])), (q1, .inr (0, [.null, .int 0, .int 0]))] := hD
  refine lv_dup hx hb d_Card_init_8 rfl ?_
  refine lv_sipush (v := (nI 6000)) hx hb d_Card_init_9 (by decide) ?_
  have hPc := hP.sub (ws' := [(q1, .inr (0, [.null, .int 0, .int 0]))]) [1] rfl
  have hDc := hD.sub (ws' := [(q1, .inr (0, [.null, .int 0, .int 0]))]) [1] (by decide +kernel) rfl
  have hKc := hK.sub (tys' := []) [] rfl
  have hFc := va_free (wc := [(q1, .inr (0, [.null, .int 0, .int 0]))]) hD hS hA [1] rfl
  refine va_callv (va_runI (As := [.int (nI 6000)]) (rest := [.ref q1, .ref h0]) ⟨hx, hb, hml, hown, ht⟩ (c_Row_init l dC dI q1 H.size 6000 (by decide) (by decide)) (cwI 1 ht (xw_good k_27) rfl rfl rfl (ht _ k_2) (ht _ k_163) (ht _ k_26) rfl (by decide +kernel) ⟨(Nat.le_of_ble_eq_true rfl), (Nat.le_of_ble_eq_true rfl)⟩) ⟨fun a U g mk q => by obtain ⟨q0, q1, qP, qK, qD⟩ := q; exact ⟨q0, q1, qP, va_K.moved (u := U) (U := U.calling g mk a) (Vm.Alike.refl U.vm) qK, qD⟩, fun U hU hW => ⟨rfl, by rw [hU], by rw [hU]; exact hPc, va_K.moved hW.alike hKc, hDc.weaken (fun _ _ _ _ => trivial)⟩⟩ rfl rfl hl.1 rfl (lv_room (Nat.le_of_ble_eq_true rfl)) d_Card_init_12 ⟨(Nat.le_of_ble_eq_true rfl), (Nat.le_of_ble_eq_true rfl)⟩) hS (fun q _ h => hFc q h) hFc (fun u t H1 locs ht9 hvm hw hB hz1 hk1 hS => ?_)
  obtain ⟨q2, cA3, hP1, hK1, hD1⟩ := hB
  rw [ht9] at hP1
  have hK1 := va_K.moved hvm.symm hK1
  obtain ⟨hP, hD⟩ := va_join (wr := [(h0, .inr (5, [.null, .int 0, .null, .int 0, .null, .int 0, .null, .null, .int 0, .null]))]) (w1 := [(q1, .inr (0, [.ref q2, .int 0, .int 0])), (q2, .inl (cA3, 6000, .inl (fun _ => 0)))]) hP hD [1] [0] rfl rfl (by decide +kernel) (by decide +kernel) hk1 hFc hP1 hD1
  have hK := (hK.sub (tys' := []) [] rfl).app hK1
  generalize H1 = H at hP hS ⊢
  have hP : va_P (dC, dI) classes [(h0, .inr (5, [.null, .int 0, .null, .int 0, .null, .int 0, .null, .null, .int 0, .null])), (q1, .inr (0, [.ref q2, .int 0, .int 0])), (q2, .inl (cA3, 6000, .inl (fun _ => 0)))] H := hP
  have hD : va_D A [(h0, .inr (5, [.null, .int 0, .null, .int 0, .null, .int 0, .null, .null, .int 0, .null])), (q1, .inr (0, [.ref q2, .int 0, .int 0])), (q2, .inl (cA3, 6000, .inl (fun _ => 0)))] := hD
  have hK : va_K (dC, dI) classes [(cA3, .byte)] s := hK
  refine W.widen (k := 2) (n := 6003) (by omega) (by omega) ?_
  refine va_putF (D := (dC, dI)) (ci := 5) (v := .ref q1) (ty := .object "AddressHouse$Row") (C := R_Card) (T := F_Card) (N := 10) hx hb ht i_Card t_Card t_Card_ok n_Card hown hK hP hD hS 0 rfl rfl 0 (by decide) (ht _ k_165) (fun _ h9 => h9) rfl hin rfl (by decide +kernel) rfl rfl (Nat.le_of_ble_eq_true rfl) d_Card_init_15 (fun H locs hP hD hS => ?_)
  have hP : va_P (dC, dI) classes [(h0, .inr (5, [.ref q1, .int 0, .null, .int 0, .null, .int 0, .null, .null, .int 0, .null])), (q1, .inr (0, [.ref q2, .int 0, .int 0])), (q2, .inl (cA3, 6000, .inl (fun _ => 0)))] H := hP
  have hD : va_D A [(h0, .inr (5, [.ref q1, .int 0, .null, .int 0, .null, .int 0, .null, .null, .int 0, .null])), (q1, .inr (0, [.ref q2, .int 0, .int 0])), (q2, .inl (cA3, 6000, .inl (fun _ => 0)))] := hD
  refine lv_aload_n hx hb d_Card_init_18 rfl (lv_at hl 0 rfl) ?_
  refine lv_bipush (v := (nI 40)) hx hb d_Card_init_19 (by decide) ?_
  refine lv_bipush (v := (nI 9)) hx hb d_Card_init_21 (by decide) ?_
  refine xw_multi (n := 40) (k := 9) hx hb hown (ht _ k_164) hO_Z hP hS hA (by decide) (by decide) (Nat.le_of_ble_eq_true rfl) (Nat.le_of_ble_eq_true rfl) d_Card_init_23 (fun q4 H locs hP hS => ?_)
  refine W.widen (k := 43) (n := 6403) (by omega) (by omega) ?_
  refine va_putF (D := (dC, dI)) (ci := 5) (v := .ref q4) (ty := .array (.array .int)) (C := R_Card) (T := F_Card) (N := 10) hx hb ht i_Card t_Card t_Card_ok n_Card hown hK hP hD hS 0 rfl rfl 2 (by decide) (ht _ k_167) (fun _ h9 => h9) rfl hin rfl (by decide +kernel) rfl rfl (Nat.le_of_ble_eq_true rfl) d_Card_init_27 (fun H locs hP hD hS => ?_)
  have hP : va_P (dC, dI) classes [(h0, .inr (5, [.ref q1, .int 0, .ref q4, .int 0, .null, .int 0, .null, .null, .int 0, .null])), (q1, .inr (0, [.ref q2, .int 0, .int 0])), (q2, .inl (cA3, 6000, .inl (fun _ => 0)))] H := hP
  have hD : va_D A [(h0, .inr (5, [.ref q1, .int 0, .ref q4, .int 0, .null, .int 0, .null, .null, .int 0, .null])), (q1, .inr (0, [.ref q2, .int 0, .int 0])), (q2, .inl (cA3, 6000, .inl (fun _ => 0)))] := hD
  refine lv_aload_n hx hb d_Card_init_30 rfl (lv_at hl 0 rfl) ?_
  refine lv_sipush (v := (nI 320)) hx hb d_Card_init_31 (by decide) ?_
  refine lv_bipush (v := (nI 9)) hx hb d_Card_init_34 (by decide) ?_
  refine xw_multi (n := 320) (k := 9) hx hb hown (ht _ k_164) hO_Z hP hS hA (by decide) (by decide) (Nat.le_of_ble_eq_true rfl) (Nat.le_of_ble_eq_true rfl) d_Card_init_36 (fun q5 H locs hP hS => ?_)
  refine W.widen (k := 364) (n := 9603) (by omega) (by omega) ?_
  refine va_putF (D := (dC, dI)) (ci := 5) (v := .ref q5) (ty := .array (.array .int)) (C := R_Card) (T := F_Card) (N := 10) hx hb ht i_Card t_Card t_Card_ok n_Card hown hK hP hD hS 0 rfl rfl 4 (by decide) (ht _ k_169) (fun _ h9 => h9) rfl hin rfl (by decide +kernel) rfl rfl (Nat.le_of_ble_eq_true rfl) d_Card_init_40 (fun H locs hP hD hS => ?_)
  have hP : va_P (dC, dI) classes [(h0, .inr (5, [.ref q1, .int 0, .ref q4, .int 0, .ref q5, .int 0, .null, .null, .int 0, .null])), (q1, .inr (0, [.ref q2, .int 0, .int 0])), (q2, .inl (cA3, 6000, .inl (fun _ => 0)))] H := hP
  have hD : va_D A [(h0, .inr (5, [.ref q1, .int 0, .ref q4, .int 0, .ref q5, .int 0, .null, .null, .int 0, .null])), (q1, .inr (0, [.ref q2, .int 0, .int 0])), (q2, .inl (cA3, 6000, .inl (fun _ => 0)))] := hD
  refine lv_aload_n hx hb d_Card_init_43 rfl (lv_at hl 0 rfl) ?_
  refine lv_sipush (v := (nI 2560)) hx hb d_Card_init_44 (by decide) ?_
  refine va_newa (atype := .int) (ty := .int) (a0 := (2560, .inl (fun _ => 0))) hx hb (ht _ k_69) rfl hK hP hD hS hA (fun _ => rfl) (nI_pos (by decide)) (nI_clamp (by decide)) (by decide) (Nat.le_of_ble_eq_true rfl) (Nat.le_of_ble_eq_true rfl) d_Card_init_47 (fun q6 cA7 H hK hP hD hS => ?_)
  refine W.widen (k := 365) (n := 12163) (by omega) (by omega) ?_
  have hP : va_P (dC, dI) classes [(h0, .inr (5, [.ref q1, .int 0, .ref q4, .int 0, .ref q5, .int 0, .null, .null, .int 0, .null])), (q1, .inr (0, [.ref q2, .int 0, .int 0])), (q2, .inl (cA3, 6000, .inl (fun _ => 0))), (q6, .inl (cA7, 2560, .inl (fun _ => 0)))] H := hP
  have hD : va_D A [(h0, .inr (5, [.ref q1, .int 0, .ref q4, .int 0, .ref q5, .int 0, .null, .null, .int 0, .null])), (q1, .inr (0, [.ref q2, .int 0, .int 0])), (q2, .inl (cA3, 6000, .inl (fun _ => 0))), (q6, .inl (cA7, 2560, .inl (fun _ => 0)))] := hD
  have hK : va_K (dC, dI) classes [(cA3, .byte), (cA7, .int)] s := hK
  refine va_putF (D := (dC, dI)) (ci := 5) (v := .ref q6) (ty := .array .int) (C := R_Card) (T := F_Card) (N := 10) hx hb ht i_Card t_Card t_Card_ok n_Card hown hK hP hD hS 0 rfl rfl 6 (by decide) (ht _ k_171) (fun _ h9 => h9) rfl hin rfl (by decide +kernel) rfl rfl (Nat.le_of_ble_eq_true rfl) d_Card_init_49 (fun H locs hP hD hS => ?_)
  have hP : va_P (dC, dI) classes [(h0, .inr (5, [.ref q1, .int 0, .ref q4, .int 0, .ref q5, .int 0, .ref q6, .null, .int 0, .null])), (q1, .inr (0, [.ref q2, .int 0, .int 0])), (q2, .inl (cA3, 6000, .inl (fun _ => 0))), (q6, .inl (cA7, 2560, .inl (fun _ => 0)))] H := hP
  have hD : va_D A [(h0, .inr (5, [.ref q1, .int 0, .ref q4, .int 0, .ref q5, .int 0, .ref q6, .null, .int 0, .null])), (q1, .inr (0, [.ref q2, .int 0, .int 0])), (q2, .inl (cA3, 6000, .inl (fun _ => 0))), (q6, .inl (cA7, 2560, .inl (fun _ => 0)))] := hD
  refine lv_aload_n hx hb d_Card_init_52 rfl (lv_at hl 0 rfl) ?_
  refine lv_sipush (v := (nI 2560)) hx hb d_Card_init_53 (by decide) ?_
  refine va_newa (atype := .int) (ty := .int) (a0 := (2560, .inl (fun _ => 0))) hx hb (ht _ k_69) rfl hK hP hD hS hA (fun _ => rfl) (nI_pos (by decide)) (nI_clamp (by decide)) (by decide) (Nat.le_of_ble_eq_true rfl) (Nat.le_of_ble_eq_true rfl) d_Card_init_56 (fun q8 cA9 H hK hP hD hS => ?_)
  refine W.widen (k := 366) (n := 14723) (by omega) (by omega) ?_
  have hP : va_P (dC, dI) classes [(h0, .inr (5, [.ref q1, .int 0, .ref q4, .int 0, .ref q5, .int 0, .ref q6, .null, .int 0, .null])), (q1, .inr (0, [.ref q2, .int 0, .int 0])), (q2, .inl (cA3, 6000, .inl (fun _ => 0))), (q6, .inl (cA7, 2560, .inl (fun _ => 0))), (q8, .inl (cA9, 2560, .inl (fun _ => 0)))] H := hP
  have hD : va_D A [(h0, .inr (5, [.ref q1, .int 0, .ref q4, .int 0, .ref q5, .int 0, .ref q6, .null, .int 0, .null])), (q1, .inr (0, [.ref q2, .int 0, .int 0])), (q2, .inl (cA3, 6000, .inl (fun _ => 0))), (q6, .inl (cA7, 2560, .inl (fun _ => 0))), (q8, .inl (cA9, 2560, .inl (fun _ => 0)))] := hD
  have hK : va_K (dC, dI) classes [(cA3, .byte), (cA7, .int), (cA9, .int)] s := hK
  refine va_putF (D := (dC, dI)) (ci := 5) (v := .ref q8) (ty := .array .int) (C := R_Card) (T := F_Card) (N := 10) hx hb ht i_Card t_Card t_Card_ok n_Card hown hK hP hD hS 0 rfl rfl 7 (by decide) (ht _ k_172) (fun _ h9 => h9) rfl hin rfl (by decide +kernel) rfl rfl (Nat.le_of_ble_eq_true rfl) d_Card_init_58 (fun H locs hP hD hS => ?_)
  have hP : va_P (dC, dI) classes [(h0, .inr (5, [.ref q1, .int 0, .ref q4, .int 0, .ref q5, .int 0, .ref q6, .ref q8, .int 0, .null])), (q1, .inr (0, [.ref q2, .int 0, .int 0])), (q2, .inl (cA3, 6000, .inl (fun _ => 0))), (q6, .inl (cA7, 2560, .inl (fun _ => 0))), (q8, .inl (cA9, 2560, .inl (fun _ => 0)))] H := hP
  have hD : va_D A [(h0, .inr (5, [.ref q1, .int 0, .ref q4, .int 0, .ref q5, .int 0, .ref q6, .ref q8, .int 0, .null])), (q1, .inr (0, [.ref q2, .int 0, .int 0])), (q2, .inl (cA3, 6000, .inl (fun _ => 0))), (q6, .inl (cA7, 2560, .inl (fun _ => 0))), (q8, .inl (cA9, 2560, .inl (fun _ => 0)))] := hD
  refine lv_aload_n hx hb d_Card_init_61 rfl (lv_at hl 0 rfl) ?_
  refine lv_bipush (v := (nI 34)) hx hb d_Card_init_62 (by decide) ?_
  refine va_newa (atype := .int) (ty := .int) (a0 := (34, .inl (fun _ => 0))) hx hb (ht _ k_69) rfl hK hP hD hS hA (fun _ => rfl) (nI_pos (by decide)) (nI_clamp (by decide)) (by decide) (Nat.le_of_ble_eq_true rfl) (Nat.le_of_ble_eq_true rfl) d_Card_init_64 (fun q10 cA11 H hK hP hD hS => ?_)
  refine W.widen (k := 367) (n := 14757) (by omega) (by omega) ?_
  have hP : va_P (dC, dI) classes [(h0, .inr (5, [.ref q1, .int 0, .ref q4, .int 0, .ref q5, .int 0, .ref q6, .ref q8, .int 0, .null])), (q1, .inr (0, [.ref q2, .int 0, .int 0])), (q2, .inl (cA3, 6000, .inl (fun _ => 0))), (q6, .inl (cA7, 2560, .inl (fun _ => 0))), (q8, .inl (cA9, 2560, .inl (fun _ => 0))), (q10, .inl (cA11, 34, .inl (fun _ => 0)))] H := hP
  have hD : va_D A [(h0, .inr (5, [.ref q1, .int 0, .ref q4, .int 0, .ref q5, .int 0, .ref q6, .ref q8, .int 0, .null])), (q1, .inr (0, [.ref q2, .int 0, .int 0])), (q2, .inl (cA3, 6000, .inl (fun _ => 0))), (q6, .inl (cA7, 2560, .inl (fun _ => 0))), (q8, .inl (cA9, 2560, .inl (fun _ => 0))), (q10, .inl (cA11, 34, .inl (fun _ => 0)))] := hD
  have hK : va_K (dC, dI) classes [(cA3, .byte), (cA7, .int), (cA9, .int), (cA11, .int)] s := hK
  refine va_putF (D := (dC, dI)) (ci := 5) (v := .ref q10) (ty := .array .int) (C := R_Card) (T := F_Card) (N := 10) hx hb ht i_Card t_Card t_Card_ok n_Card hown hK hP hD hS 0 rfl rfl 9 (by decide) (ht _ k_174) (fun _ h9 => h9) rfl hin rfl (by decide +kernel) rfl rfl (Nat.le_of_ble_eq_true rfl) d_Card_init_66 (fun H locs hP hD hS => ?_)
  have hP : va_P (dC, dI) classes [(h0, .inr (5, [.ref q1, .int 0, .ref q4, .int 0, .ref q5, .int 0, .ref q6, .ref q8, .int 0, .ref q10])), (q1, .inr (0, [.ref q2, .int 0, .int 0])), (q2, .inl (cA3, 6000, .inl (fun _ => 0))), (q6, .inl (cA7, 2560, .inl (fun _ => 0))), (q8, .inl (cA9, 2560, .inl (fun _ => 0))), (q10, .inl (cA11, 34, .inl (fun _ => 0)))] H := hP
  have hD : va_D A [(h0, .inr (5, [.ref q1, .int 0, .ref q4, .int 0, .ref q5, .int 0, .ref q6, .ref q8, .int 0, .ref q10])), (q1, .inr (0, [.ref q2, .int 0, .int 0])), (q2, .inl (cA3, 6000, .inl (fun _ => 0))), (q6, .inl (cA7, 2560, .inl (fun _ => 0))), (q8, .inl (cA9, 2560, .inl (fun _ => 0))), (q10, .inl (cA11, 34, .inl (fun _ => 0)))] := hD
  have hP9 := hP.sub (ws' := [(h0, .inr (5, [.ref q1, .int 0, .ref q4, .int 0, .ref q5, .int 0, .ref q6, .ref q8, .int 0, .ref q10])), (q1, .inr (0, [.ref q2, .int 0, .int 0])), (q10, .inl (cA11, 34, .inl (fun _ => 0)))]) [0, 1, 5] rfl
  have hD9 := hD.sub (ws' := [(h0, .inr (5, [.ref q1, .int 0, .ref q4, .int 0, .ref q5, .int 0, .ref q6, .ref q8, .int 0, .ref q10])), (q1, .inr (0, [.ref q2, .int 0, .int 0])), (q10, .inl (cA11, 34, .inl (fun _ => 0)))]) [0, 1, 5] (by decide +kernel) rfl
  have hK9 := hK.sub (tys' := [(cA11, .int)]) [3] rfl
  exact W.vret hx hb hr (fun t ht9 hW => ⟨⟨(), rfl, trivial, q1, q4, q5, q6, q8, q10, q2, cA11, by rw [ht9]; exact hP9, va_K.moved hW.alike hK9, hD9⟩, hS.F ht9⟩) hS.2.2 d_Card_init_69
set_option maxHeartbeats 4000000 in
set_option maxRecDepth 100000 in
/-- Xml() -/
theorem c_Xml_init (l : Launch) (dC : Nat → ClassId) (dI : Nat → Nat → Nat) (h0 sz : Nat) : Met l y_Xml_init (Cond.code y_Xml_init b_Xml_init 1 none :: xw0) ({ frames := 4, cells := 1563, slots := 22674, locals := 100 }) (va_Pc [.ref h0] (fun U => U.heap.size = sz ∧ va_P (dC, dI) classes [(h0, .inr (6, [.null, .int 0, .null, .int 0, .null, .null, .int 0, .null, .int 0, .null, .null, .int 0, .null, .null, .null, .null, .int 0]))] U.heap ∧ va_K (dC, dI) classes [] U ∧ va_D (fun _ => True) [(h0, .inr (6, [.null, .int 0, .null, .int 0, .null, .null, .int 0, .null, .int 0, .null, .null, .int 0, .null, .null, .null, .null, .int 0]))] ∧ xm_K U)) (va_Qv (fun _ : Unit => True) (fun (_ : Unit) (t : State) => ∃ (q1 q2 q3 q6 q7 q8 q10 q12 q15 q17 : Nat) , va_P (dC, dI) classes [(h0, .inr (6, [.ref q1, .int 0, .ref q2, .int 0, .ref q3, .ref q6, .int 0, .ref q7, .int 0, .ref q8, .ref q10, .int 0, .ref q12, .ref q15, .ref q17, .ref q17, .int 0]))] t.heap ∧ va_K (dC, dI) classes [] t ∧ va_D (va_A [(h0, .inr (6, [.null, .int 0, .null, .int 0, .null, .null, .int 0, .null, .int 0, .null, .null, .int 0, .null, .null, .null, .null, .int 0]))] sz) [(h0, .inr (6, [.ref q1, .int 0, .ref q2, .int 0, .ref q3, .ref q6, .int 0, .ref q7, .int 0, .ref q8, .ref q10, .int 0, .ref q12, .ref q15, .ref q17, .ref q17, .int 0]))]) (va_A [(h0, .inr (6, [.null, .int 0, .null, .int 0, .null, .null, .int 0, .null, .int 0, .null, .null, .int 0, .null, .null, .null, .null, .int 0]))] sz)) 1563 22674 (va_A [(h0, .inr (6, [.null, .int 0, .null, .int 0, .null, .null, .int 0, .null, .int 0, .null, .null, .int 0, .null, .null, .null, .null, .int 0]))] sz) := by
  refine Met.ofW (cc := b_Xml_init) (maxL := 1) (ret := none) (by decide) rfl ?_
  intro p e s m args below meth c s₁ B hml hv
  obtain ⟨rfl, hsz, hP, hK, hD0, hO_Z⟩ := hv
  have hx := B.exec
  have hb := B.bytes
  have hr := B.returns
  have hts := atoms_spec (ws := Cond.code y_Xml_init b_Xml_init 1 none :: xw0) B.pre
  have ht : ∀ w ∈ xw0, w.before _ s = true := fun w h => hts w (List.mem_cons_of_mem _ h)
  have hown : s.vm.findClass R_Xml = some m.cls := findClass_of_methodNamed B.named
  have hlocks := B.notSynchronized
  have hin : meth.name = "<init>" := (name_of_methodNamed B.named B.method).1
  subst hsz
  have hD := hD0.self (sz := s.heap.size)
  generalize hAe : va_A [(h0, .inr (6, [.null, .int 0, .null, .int 0, .null, .null, .int 0, .null, .int 0, .null, .null, .int 0, .null, .null, .null, .null, .int 0]))] s.heap.size = A at hD ⊢
  have hA : ∀ q : Nat, s.heap.size ≤ q → A q := fun q h => by rw [← hAe]; exact Or.inr h
  have hS : va_S A s.heap s.heap [] := va_S.rf
  have hP : va_P (dC, dI) classes [(h0, .inr (6, [.null, .int 0, .null, .int 0, .null, .null, .int 0, .null, .int 0, .null, .null, .int 0, .null, .null, .null, .null, .int 0]))] s.heap := hP
  have hl := lv_entry ([.ref h0]) (n := 1) (Nat.le_of_ble_eq_true rfl)
  rw [lg_entry_eq]
  generalize (lg_sl ([.ref h0]) ++ List.replicate (1 - (lg_sl ([.ref h0])).length) Slot.unset).toArray = ls at hl ⊢
  have hl : lv_has ls 1 [(0, .ref h0)] := hl
  refine lv_aload_n hx hb d_Xml_init_0 rfl (lv_at hl 0 rfl) ?_
  refine W.objInit hx hb hown (ht _ k_191) (ht _ k_21) (ht _ k_22) rfl (by rw [hml]; exact hl.1) rfl d_Xml_init_1 (Nat.le_of_ble_eq_true rfl) (Nat.le_of_ble_eq_true rfl) ?_
  refine W.eq (g2 := F0 m 4 ls []) rfl ?_
  refine lv_aload_n hx hb d_Xml_init_4 rfl (lv_at hl 0 rfl) ?_
  refine lv_sipush (v := (nI 200)) hx hb d_Xml_init_5 (by decide) ?_
  refine lv_bipush (v := (nI 9)) hx hb d_Xml_init_8 (by decide) ?_
  refine xw_multi (n := 200) (k := 9) hx hb hown (ht _ k_192) hO_Z hP hS hA (by decide) (by decide) (Nat.le_of_ble_eq_true rfl) (Nat.le_of_ble_eq_true rfl) d_Xml_init_10 (fun q1 H locs hP hS => ?_)
  refine W.widen (k := 201) (n := 2000) (by omega) (by omega) ?_
  refine va_putF (D := (dC, dI)) (ci := 6) (v := .ref q1) (ty := .array (.array .int)) (C := R_Xml) (T := F_Xml) (N := 17) hx hb ht i_Xml t_Xml t_Xml_ok n_Xml hown hK hP hD hS 0 rfl rfl 0 (by decide) (ht _ k_195) (fun _ h9 => h9) rfl hin rfl (by decide +kernel) rfl rfl (Nat.le_of_ble_eq_true rfl) d_Xml_init_14 (fun H locs hP hD hS => ?_)
  have hP : va_P (dC, dI) classes [(h0, .inr (6, [.ref q1, .int 0, .null, .int 0, .null, .null, .int 0, .null, .int 0, .null, .null, .int 0, .null, .null, .null, .null, .int 0]))] H := hP
  have hD : va_D A [(h0, .inr (6, [.ref q1, .int 0, .null, .int 0, .null, .null, .int 0, .null, .int 0, .null, .null, .int 0, .null, .null, .null, .null, .int 0]))] := hD
  refine lv_aload_n hx hb d_Xml_init_17 rfl (lv_at hl 0 rfl) ?_
  refine lv_sipush (v := (nI 600)) hx hb d_Xml_init_18 (by decide) ?_
  refine lv_bipush (v := (nI 9)) hx hb d_Xml_init_21 (by decide) ?_
  refine xw_multi (n := 600) (k := 9) hx hb hown (ht _ k_192) hO_Z hP hS hA (by decide) (by decide) (Nat.le_of_ble_eq_true rfl) (Nat.le_of_ble_eq_true rfl) d_Xml_init_23 (fun q2 H locs hP hS => ?_)
  refine W.widen (k := 802) (n := 8000) (by omega) (by omega) ?_
  refine va_putF (D := (dC, dI)) (ci := 6) (v := .ref q2) (ty := .array (.array .int)) (C := R_Xml) (T := F_Xml) (N := 17) hx hb ht i_Xml t_Xml t_Xml_ok n_Xml hown hK hP hD hS 0 rfl rfl 2 (by decide) (ht _ k_196) (fun _ h9 => h9) rfl hin rfl (by decide +kernel) rfl rfl (Nat.le_of_ble_eq_true rfl) d_Xml_init_27 (fun H locs hP hD hS => ?_)
  have hP : va_P (dC, dI) classes [(h0, .inr (6, [.ref q1, .int 0, .ref q2, .int 0, .null, .null, .int 0, .null, .int 0, .null, .null, .int 0, .null, .null, .null, .null, .int 0]))] H := hP
  have hD : va_D A [(h0, .inr (6, [.ref q1, .int 0, .ref q2, .int 0, .null, .null, .int 0, .null, .int 0, .null, .null, .int 0, .null, .null, .null, .null, .int 0]))] := hD
  refine lv_aload_n hx hb d_Xml_init_30 rfl (lv_at hl 0 rfl) ?_
  refine va_new (ci := 0) (fs := [.null, .int 0, .int 0]) (C := R_Row) (T := F_Row) (N := 3) hx hb ht i_Row t_Row t_Row_ok hown (ht _ k_193) (ht _ k_24) (ht _ k_2) hK hP hD hS hA rfl (fun j hj => by rcases (show j = 0 ∨ j = 1 ∨ j = 2 by omega) with rfl | rfl | rfl <;> rfl) (Nat.le_of_ble_eq_true rfl) (Nat.le_of_ble_eq_true rfl) d_Xml_init_31 (fun q3 H hP hD hS => ?_)
  refine W.widen (k := 803) (n := 8003) (by omega) (by omega) ?_
  have hP : va_P (dC, dI) classes [(h0, .inr (6, [.ref q1, .int 0, .ref q2, .int 0, .null, .null, .int 0, .null, .int 0, .null, .null, .int 0, .null, .null, .null, .null, .int 0])), (q3, .inr (0, [.null, .int 0, .int 0]))] H := hP
  have hD : va_D A [(h0, .inr (6, [.ref q1, .int 0, .ref q2, .int 0, .null, .null, .int 0, .null, .int 0, .null, .null, .int 0, .null, .null, .null, .null, .int 0])), (q3, .inr (0, [.null, .int 0, .int 0]))] := hD
  refine lv_dup hx hb d_Xml_init_34 rfl ?_
  refine lv_sipush (v := (nI 3000)) hx hb d_Xml_init_35 (by decide) ?_
  have hPc := hP.sub (ws' := [(q3, .inr (0, [.null, .int 0, .int 0]))]) [1] rfl
  have hDc := hD.sub (ws' := [(q3, .inr (0, [.null, .int 0, .int 0]))]) [1] (by decide +kernel) rfl
  have hKc := hK.sub (tys' := []) [] rfl
  have hFc := va_free (wc := [(q3, .inr (0, [.null, .int 0, .int 0]))]) hD hS hA [1] rfl
  refine va_callv (va_runI (As := [.int (nI 3000)]) (rest := [.ref q3, .ref h0]) ⟨hx, hb, hml, hown, ht⟩ (c_Row_init l dC dI q3 H.size 3000 (by decide) (by decide)) (cwI 1 ht (xw_good k_27) rfl rfl rfl (ht _ k_2) (ht _ k_194) (ht _ k_26) rfl (by decide +kernel) ⟨(Nat.le_of_ble_eq_true rfl), (Nat.le_of_ble_eq_true rfl)⟩) ⟨fun a U g mk q => by obtain ⟨q0, q1, qP, qK, qD⟩ := q; exact ⟨q0, q1, qP, va_K.moved (u := U) (U := U.calling g mk a) (Vm.Alike.refl U.vm) qK, qD⟩, fun U hU hW => ⟨rfl, by rw [hU], by rw [hU]; exact hPc, va_K.moved hW.alike hKc, hDc.weaken (fun _ _ _ _ => trivial)⟩⟩ rfl rfl hl.1 rfl (lv_room (Nat.le_of_ble_eq_true rfl)) d_Xml_init_38 ⟨(Nat.le_of_ble_eq_true rfl), (Nat.le_of_ble_eq_true rfl)⟩) hS (fun q _ h => hFc q h) hFc (fun u t H1 locs ht9 hvm hw hB hz1 hk1 hS => ?_)
  obtain ⟨q4, cA5, hP1, hK1, hD1⟩ := hB
  rw [ht9] at hP1
  have hK1 := va_K.moved hvm.symm hK1
  obtain ⟨hP, hD⟩ := va_join (wr := [(h0, .inr (6, [.ref q1, .int 0, .ref q2, .int 0, .null, .null, .int 0, .null, .int 0, .null, .null, .int 0, .null, .null, .null, .null, .int 0]))]) (w1 := [(q3, .inr (0, [.ref q4, .int 0, .int 0])), (q4, .inl (cA5, 3000, .inl (fun _ => 0)))]) hP hD [1] [0] rfl rfl (by decide +kernel) (by decide +kernel) hk1 hFc hP1 hD1
  have hK := (hK.sub (tys' := []) [] rfl).app hK1
  generalize H1 = H at hP hS ⊢
  have hP : va_P (dC, dI) classes [(h0, .inr (6, [.ref q1, .int 0, .ref q2, .int 0, .null, .null, .int 0, .null, .int 0, .null, .null, .int 0, .null, .null, .null, .null, .int 0])), (q3, .inr (0, [.ref q4, .int 0, .int 0])), (q4, .inl (cA5, 3000, .inl (fun _ => 0)))] H := hP
  have hD : va_D A [(h0, .inr (6, [.ref q1, .int 0, .ref q2, .int 0, .null, .null, .int 0, .null, .int 0, .null, .null, .int 0, .null, .null, .null, .null, .int 0])), (q3, .inr (0, [.ref q4, .int 0, .int 0])), (q4, .inl (cA5, 3000, .inl (fun _ => 0)))] := hD
  have hK : va_K (dC, dI) classes [(cA5, .byte)] s := hK
  refine W.widen (k := 804) (n := 11003) (by omega) (by omega) ?_
  refine va_putF (D := (dC, dI)) (ci := 6) (v := .ref q3) (ty := .object "AddressHouse$Row") (C := R_Xml) (T := F_Xml) (N := 17) hx hb ht i_Xml t_Xml t_Xml_ok n_Xml hown hK hP hD hS 0 rfl rfl 4 (by decide) (ht _ k_197) (fun _ h9 => h9) rfl hin rfl (by decide +kernel) rfl rfl (Nat.le_of_ble_eq_true rfl) d_Xml_init_41 (fun H locs hP hD hS => ?_)
  have hP : va_P (dC, dI) classes [(h0, .inr (6, [.ref q1, .int 0, .ref q2, .int 0, .ref q3, .null, .int 0, .null, .int 0, .null, .null, .int 0, .null, .null, .null, .null, .int 0])), (q3, .inr (0, [.ref q4, .int 0, .int 0])), (q4, .inl (cA5, 3000, .inl (fun _ => 0)))] H := hP
  have hD : va_D A [(h0, .inr (6, [.ref q1, .int 0, .ref q2, .int 0, .ref q3, .null, .int 0, .null, .int 0, .null, .null, .int 0, .null, .null, .null, .null, .int 0])), (q3, .inr (0, [.ref q4, .int 0, .int 0])), (q4, .inl (cA5, 3000, .inl (fun _ => 0)))] := hD
  refine lv_aload_n hx hb d_Xml_init_44 rfl (lv_at hl 0 rfl) ?_
  refine lv_sipush (v := (nI 375)) hx hb d_Xml_init_45 (by decide) ?_
  refine lv_iconst (v := (nI 2)) hx hb d_Xml_init_48 (by decide) ?_
  refine xw_multi (n := 375) (k := 2) hx hb hown (ht _ k_192) hO_Z hP hS hA (by decide) (by decide) (Nat.le_of_ble_eq_true rfl) (Nat.le_of_ble_eq_true rfl) d_Xml_init_49 (fun q6 H locs hP hS => ?_)
  refine W.widen (k := 1180) (n := 12128) (by omega) (by omega) ?_
  refine va_putF (D := (dC, dI)) (ci := 6) (v := .ref q6) (ty := .array (.array .int)) (C := R_Xml) (T := F_Xml) (N := 17) hx hb ht i_Xml t_Xml t_Xml_ok n_Xml hown hK hP hD hS 0 rfl rfl 5 (by decide) (ht _ k_198) (fun _ h9 => h9) rfl hin rfl (by decide +kernel) rfl rfl (Nat.le_of_ble_eq_true rfl) d_Xml_init_53 (fun H locs hP hD hS => ?_)
  have hP : va_P (dC, dI) classes [(h0, .inr (6, [.ref q1, .int 0, .ref q2, .int 0, .ref q3, .ref q6, .int 0, .null, .int 0, .null, .null, .int 0, .null, .null, .null, .null, .int 0])), (q3, .inr (0, [.ref q4, .int 0, .int 0])), (q4, .inl (cA5, 3000, .inl (fun _ => 0)))] H := hP
  have hD : va_D A [(h0, .inr (6, [.ref q1, .int 0, .ref q2, .int 0, .ref q3, .ref q6, .int 0, .null, .int 0, .null, .null, .int 0, .null, .null, .null, .null, .int 0])), (q3, .inr (0, [.ref q4, .int 0, .int 0])), (q4, .inl (cA5, 3000, .inl (fun _ => 0)))] := hD
  refine lv_aload_n hx hb d_Xml_init_56 rfl (lv_at hl 0 rfl) ?_
  refine lv_sipush (v := (nI 375)) hx hb d_Xml_init_57 (by decide) ?_
  refine lv_iconst (v := (nI 3)) hx hb d_Xml_init_60 (by decide) ?_
  refine xw_multi (n := 375) (k := 3) hx hb hown (ht _ k_192) hO_Z hP hS hA (by decide) (by decide) (Nat.le_of_ble_eq_true rfl) (Nat.le_of_ble_eq_true rfl) d_Xml_init_61 (fun q7 H locs hP hS => ?_)
  refine W.widen (k := 1556) (n := 13628) (by omega) (by omega) ?_
  refine va_putF (D := (dC, dI)) (ci := 6) (v := .ref q7) (ty := .array (.array .int)) (C := R_Xml) (T := F_Xml) (N := 17) hx hb ht i_Xml t_Xml t_Xml_ok n_Xml hown hK hP hD hS 0 rfl rfl 7 (by decide) (ht _ k_199) (fun _ h9 => h9) rfl hin rfl (by decide +kernel) rfl rfl (Nat.le_of_ble_eq_true rfl) d_Xml_init_65 (fun H locs hP hD hS => ?_)
  have hP : va_P (dC, dI) classes [(h0, .inr (6, [.ref q1, .int 0, .ref q2, .int 0, .ref q3, .ref q6, .int 0, .ref q7, .int 0, .null, .null, .int 0, .null, .null, .null, .null, .int 0])), (q3, .inr (0, [.ref q4, .int 0, .int 0])), (q4, .inl (cA5, 3000, .inl (fun _ => 0)))] H := hP
  have hD : va_D A [(h0, .inr (6, [.ref q1, .int 0, .ref q2, .int 0, .ref q3, .ref q6, .int 0, .ref q7, .int 0, .null, .null, .int 0, .null, .null, .null, .null, .int 0])), (q3, .inr (0, [.ref q4, .int 0, .int 0])), (q4, .inl (cA5, 3000, .inl (fun _ => 0)))] := hD
  refine lv_aload_n hx hb d_Xml_init_68 rfl (lv_at hl 0 rfl) ?_
  refine lv_bipush (v := (nI 20)) hx hb d_Xml_init_69 (by decide) ?_
  refine va_newa (atype := .int) (ty := .int) (a0 := (20, .inl (fun _ => 0))) hx hb (ht _ k_69) rfl hK hP hD hS hA (fun _ => rfl) (nI_pos (by decide)) (nI_clamp (by decide)) (by decide) (Nat.le_of_ble_eq_true rfl) (Nat.le_of_ble_eq_true rfl) d_Xml_init_71 (fun q8 cA9 H hK hP hD hS => ?_)
  refine W.widen (k := 1557) (n := 13648) (by omega) (by omega) ?_
  have hP : va_P (dC, dI) classes [(h0, .inr (6, [.ref q1, .int 0, .ref q2, .int 0, .ref q3, .ref q6, .int 0, .ref q7, .int 0, .null, .null, .int 0, .null, .null, .null, .null, .int 0])), (q3, .inr (0, [.ref q4, .int 0, .int 0])), (q4, .inl (cA5, 3000, .inl (fun _ => 0))), (q8, .inl (cA9, 20, .inl (fun _ => 0)))] H := hP
  have hD : va_D A [(h0, .inr (6, [.ref q1, .int 0, .ref q2, .int 0, .ref q3, .ref q6, .int 0, .ref q7, .int 0, .null, .null, .int 0, .null, .null, .null, .null, .int 0])), (q3, .inr (0, [.ref q4, .int 0, .int 0])), (q4, .inl (cA5, 3000, .inl (fun _ => 0))), (q8, .inl (cA9, 20, .inl (fun _ => 0)))] := hD
  have hK : va_K (dC, dI) classes [(cA5, .byte), (cA9, .int)] s := hK
  refine va_putF (D := (dC, dI)) (ci := 6) (v := .ref q8) (ty := .array .int) (C := R_Xml) (T := F_Xml) (N := 17) hx hb ht i_Xml t_Xml t_Xml_ok n_Xml hown hK hP hD hS 0 rfl rfl 9 (by decide) (ht _ k_200) (fun _ h9 => h9) rfl hin rfl (by decide +kernel) rfl rfl (Nat.le_of_ble_eq_true rfl) d_Xml_init_73 (fun H locs hP hD hS => ?_)
  have hP : va_P (dC, dI) classes [(h0, .inr (6, [.ref q1, .int 0, .ref q2, .int 0, .ref q3, .ref q6, .int 0, .ref q7, .int 0, .ref q8, .null, .int 0, .null, .null, .null, .null, .int 0])), (q3, .inr (0, [.ref q4, .int 0, .int 0])), (q4, .inl (cA5, 3000, .inl (fun _ => 0))), (q8, .inl (cA9, 20, .inl (fun _ => 0)))] H := hP
  have hD : va_D A [(h0, .inr (6, [.ref q1, .int 0, .ref q2, .int 0, .ref q3, .ref q6, .int 0, .ref q7, .int 0, .ref q8, .null, .int 0, .null, .null, .null, .null, .int 0])), (q3, .inr (0, [.ref q4, .int 0, .int 0])), (q4, .inl (cA5, 3000, .inl (fun _ => 0))), (q8, .inl (cA9, 20, .inl (fun _ => 0)))] := hD
  refine lv_aload_n hx hb d_Xml_init_76 rfl (lv_at hl 0 rfl) ?_
  refine lv_bipush (v := (nI 20)) hx hb d_Xml_init_77 (by decide) ?_
  refine va_newa (atype := .int) (ty := .int) (a0 := (20, .inl (fun _ => 0))) hx hb (ht _ k_69) rfl hK hP hD hS hA (fun _ => rfl) (nI_pos (by decide)) (nI_clamp (by decide)) (by decide) (Nat.le_of_ble_eq_true rfl) (Nat.le_of_ble_eq_true rfl) d_Xml_init_79 (fun q10 cA11 H hK hP hD hS => ?_)
  refine W.widen (k := 1558) (n := 13668) (by omega) (by omega) ?_
  have hP : va_P (dC, dI) classes [(h0, .inr (6, [.ref q1, .int 0, .ref q2, .int 0, .ref q3, .ref q6, .int 0, .ref q7, .int 0, .ref q8, .null, .int 0, .null, .null, .null, .null, .int 0])), (q3, .inr (0, [.ref q4, .int 0, .int 0])), (q4, .inl (cA5, 3000, .inl (fun _ => 0))), (q8, .inl (cA9, 20, .inl (fun _ => 0))), (q10, .inl (cA11, 20, .inl (fun _ => 0)))] H := hP
  have hD : va_D A [(h0, .inr (6, [.ref q1, .int 0, .ref q2, .int 0, .ref q3, .ref q6, .int 0, .ref q7, .int 0, .ref q8, .null, .int 0, .null, .null, .null, .null, .int 0])), (q3, .inr (0, [.ref q4, .int 0, .int 0])), (q4, .inl (cA5, 3000, .inl (fun _ => 0))), (q8, .inl (cA9, 20, .inl (fun _ => 0))), (q10, .inl (cA11, 20, .inl (fun _ => 0)))] := hD
  have hK : va_K (dC, dI) classes [(cA5, .byte), (cA9, .int), (cA11, .int)] s := hK
  refine va_putF (D := (dC, dI)) (ci := 6) (v := .ref q10) (ty := .array .int) (C := R_Xml) (T := F_Xml) (N := 17) hx hb ht i_Xml t_Xml t_Xml_ok n_Xml hown hK hP hD hS 0 rfl rfl 10 (by decide) (ht _ k_201) (fun _ h9 => h9) rfl hin rfl (by decide +kernel) rfl rfl (Nat.le_of_ble_eq_true rfl) d_Xml_init_81 (fun H locs hP hD hS => ?_)
  have hP : va_P (dC, dI) classes [(h0, .inr (6, [.ref q1, .int 0, .ref q2, .int 0, .ref q3, .ref q6, .int 0, .ref q7, .int 0, .ref q8, .ref q10, .int 0, .null, .null, .null, .null, .int 0])), (q3, .inr (0, [.ref q4, .int 0, .int 0])), (q4, .inl (cA5, 3000, .inl (fun _ => 0))), (q8, .inl (cA9, 20, .inl (fun _ => 0))), (q10, .inl (cA11, 20, .inl (fun _ => 0)))] H := hP
  have hD : va_D A [(h0, .inr (6, [.ref q1, .int 0, .ref q2, .int 0, .ref q3, .ref q6, .int 0, .ref q7, .int 0, .ref q8, .ref q10, .int 0, .null, .null, .null, .null, .int 0])), (q3, .inr (0, [.ref q4, .int 0, .int 0])), (q4, .inl (cA5, 3000, .inl (fun _ => 0))), (q8, .inl (cA9, 20, .inl (fun _ => 0))), (q10, .inl (cA11, 20, .inl (fun _ => 0)))] := hD
  refine lv_aload_n hx hb d_Xml_init_84 rfl (lv_at hl 0 rfl) ?_
  refine va_new (ci := 0) (fs := [.null, .int 0, .int 0]) (C := R_Row) (T := F_Row) (N := 3) hx hb ht i_Row t_Row t_Row_ok hown (ht _ k_193) (ht _ k_24) (ht _ k_2) hK hP hD hS hA rfl (fun j hj => by rcases (show j = 0 ∨ j = 1 ∨ j = 2 by omega) with rfl | rfl | rfl <;> rfl) (Nat.le_of_ble_eq_true rfl) (Nat.le_of_ble_eq_true rfl) d_Xml_init_85 (fun q12 H hP hD hS => ?_)
  refine W.widen (k := 1559) (n := 13671) (by omega) (by omega) ?_
  have hP : va_P (dC, dI) classes [(h0, .inr (6, [.ref q1, .int 0, .ref q2, .int 0, .ref q3, .ref q6, .int 0, .ref q7, .int 0, .ref q8, .ref q10, .int 0, .null, .null, .null, .null, .int 0])), (q3, .inr (0, [.ref q4, .int 0, .int 0])), (q4, .inl (cA5, 3000, .inl (fun _ => 0))), (q8, .inl (cA9, 20, .inl (fun _ => 0))), (q10, .inl (cA11, 20, .inl (fun _ => 0))), (q12, .inr (0, [.null, .int 0, .int 0]))] H := hP
  have hD : va_D A [(h0, .inr (6, [.ref q1, .int 0, .ref q2, .int 0, .ref q3, .ref q6, .int 0, .ref q7, .int 0, .ref q8, .ref q10, .int 0, .null, .null, .null, .null, .int 0])), (q3, .inr (0, [.ref q4, .int 0, .int 0])), (q4, .inl (cA5, 3000, .inl (fun _ => 0))), (q8, .inl (cA9, 20, .inl (fun _ => 0))), (q10, .inl (cA11, 20, .inl (fun _ => 0))), (q12, .inr (0, [.null, .int 0, .int 0]))] := hD
  refine lv_dup hx hb d_Xml_init_88 rfl ?_
  refine lv_sipush (v := (nI 3000)) hx hb d_Xml_init_89 (by decide) ?_
  have hPc := hP.sub (ws' := [(q12, .inr (0, [.null, .int 0, .int 0]))]) [5] rfl
  have hDc := hD.sub (ws' := [(q12, .inr (0, [.null, .int 0, .int 0]))]) [5] (by decide +kernel) rfl
  have hKc := hK.sub (tys' := []) [] rfl
  have hFc := va_free (wc := [(q12, .inr (0, [.null, .int 0, .int 0]))]) hD hS hA [5] rfl
  refine va_callv (va_runI (As := [.int (nI 3000)]) (rest := [.ref q12, .ref h0]) ⟨hx, hb, hml, hown, ht⟩ (c_Row_init l dC dI q12 H.size 3000 (by decide) (by decide)) (cwI 1 ht (xw_good k_27) rfl rfl rfl (ht _ k_2) (ht _ k_194) (ht _ k_26) rfl (by decide +kernel) ⟨(Nat.le_of_ble_eq_true rfl), (Nat.le_of_ble_eq_true rfl)⟩) ⟨fun a U g mk q => by obtain ⟨q0, q1, qP, qK, qD⟩ := q; exact ⟨q0, q1, qP, va_K.moved (u := U) (U := U.calling g mk a) (Vm.Alike.refl U.vm) qK, qD⟩, fun U hU hW => ⟨rfl, by rw [hU], by rw [hU]; exact hPc, va_K.moved hW.alike hKc, hDc.weaken (fun _ _ _ _ => trivial)⟩⟩ rfl rfl hl.1 rfl (lv_room (Nat.le_of_ble_eq_true rfl)) d_Xml_init_92 ⟨(Nat.le_of_ble_eq_true rfl), (Nat.le_of_ble_eq_true rfl)⟩) hS (fun q _ h => hFc q h) hFc (fun u t H1 locs ht9 hvm hw hB hz1 hk1 hS => ?_)
  obtain ⟨q13, cA14, hP1, hK1, hD1⟩ := hB
  rw [ht9] at hP1
  have hK1 := va_K.moved hvm.symm hK1
  obtain ⟨hP, hD⟩ := va_join (wr := [(h0, .inr (6, [.ref q1, .int 0, .ref q2, .int 0, .ref q3, .ref q6, .int 0, .ref q7, .int 0, .ref q8, .ref q10, .int 0, .null, .null, .null, .null, .int 0])), (q3, .inr (0, [.ref q4, .int 0, .int 0])), (q4, .inl (cA5, 3000, .inl (fun _ => 0))), (q8, .inl (cA9, 20, .inl (fun _ => 0))), (q10, .inl (cA11, 20, .inl (fun _ => 0)))]) (w1 := [(q12, .inr (0, [.ref q13, .int 0, .int 0])), (q13, .inl (cA14, 3000, .inl (fun _ => 0)))]) hP hD [5] [0, 1, 2, 3, 4] rfl rfl (by decide +kernel) (by decide +kernel) hk1 hFc hP1 hD1
  have hK := (hK.sub (tys' := [(cA5, .byte), (cA9, .int), (cA11, .int)]) [0, 1, 2] rfl).app hK1
  generalize H1 = H at hP hS ⊢
  have hP : va_P (dC, dI) classes [(h0, .inr (6, [.ref q1, .int 0, .ref q2, .int 0, .ref q3, .ref q6, .int 0, .ref q7, .int 0, .ref q8, .ref q10, .int 0, .null, .null, .null, .null, .int 0])), (q3, .inr (0, [.ref q4, .int 0, .int 0])), (q4, .inl (cA5, 3000, .inl (fun _ => 0))), (q8, .inl (cA9, 20, .inl (fun _ => 0))), (q10, .inl (cA11, 20, .inl (fun _ => 0))), (q12, .inr (0, [.ref q13, .int 0, .int 0])), (q13, .inl (cA14, 3000, .inl (fun _ => 0)))] H := hP
  have hD : va_D A [(h0, .inr (6, [.ref q1, .int 0, .ref q2, .int 0, .ref q3, .ref q6, .int 0, .ref q7, .int 0, .ref q8, .ref q10, .int 0, .null, .null, .null, .null, .int 0])), (q3, .inr (0, [.ref q4, .int 0, .int 0])), (q4, .inl (cA5, 3000, .inl (fun _ => 0))), (q8, .inl (cA9, 20, .inl (fun _ => 0))), (q10, .inl (cA11, 20, .inl (fun _ => 0))), (q12, .inr (0, [.ref q13, .int 0, .int 0])), (q13, .inl (cA14, 3000, .inl (fun _ => 0)))] := hD
  have hK : va_K (dC, dI) classes [(cA5, .byte), (cA9, .int), (cA11, .int), (cA14, .byte)] s := hK
  refine W.widen (k := 1560) (n := 16671) (by omega) (by omega) ?_
  refine va_putF (D := (dC, dI)) (ci := 6) (v := .ref q12) (ty := .object "AddressHouse$Row") (C := R_Xml) (T := F_Xml) (N := 17) hx hb ht i_Xml t_Xml t_Xml_ok n_Xml hown hK hP hD hS 0 rfl rfl 12 (by decide) (ht _ k_202) (fun _ h9 => h9) rfl hin rfl (by decide +kernel) rfl rfl (Nat.le_of_ble_eq_true rfl) d_Xml_init_95 (fun H locs hP hD hS => ?_)
  have hP : va_P (dC, dI) classes [(h0, .inr (6, [.ref q1, .int 0, .ref q2, .int 0, .ref q3, .ref q6, .int 0, .ref q7, .int 0, .ref q8, .ref q10, .int 0, .ref q12, .null, .null, .null, .int 0])), (q3, .inr (0, [.ref q4, .int 0, .int 0])), (q4, .inl (cA5, 3000, .inl (fun _ => 0))), (q8, .inl (cA9, 20, .inl (fun _ => 0))), (q10, .inl (cA11, 20, .inl (fun _ => 0))), (q12, .inr (0, [.ref q13, .int 0, .int 0])), (q13, .inl (cA14, 3000, .inl (fun _ => 0)))] H := hP
  have hD : va_D A [(h0, .inr (6, [.ref q1, .int 0, .ref q2, .int 0, .ref q3, .ref q6, .int 0, .ref q7, .int 0, .ref q8, .ref q10, .int 0, .ref q12, .null, .null, .null, .int 0])), (q3, .inr (0, [.ref q4, .int 0, .int 0])), (q4, .inl (cA5, 3000, .inl (fun _ => 0))), (q8, .inl (cA9, 20, .inl (fun _ => 0))), (q10, .inl (cA11, 20, .inl (fun _ => 0))), (q12, .inr (0, [.ref q13, .int 0, .int 0])), (q13, .inl (cA14, 3000, .inl (fun _ => 0)))] := hD
  refine lv_aload_n hx hb d_Xml_init_98 rfl (lv_at hl 0 rfl) ?_
  refine lv_sipush (v := (nI 3000)) hx hb d_Xml_init_99 (by decide) ?_
  refine va_newa (atype := .int) (ty := .int) (a0 := (3000, .inl (fun _ => 0))) hx hb (ht _ k_69) rfl hK hP hD hS hA (fun _ => rfl) (nI_pos (by decide)) (nI_clamp (by decide)) (by decide) (Nat.le_of_ble_eq_true rfl) (Nat.le_of_ble_eq_true rfl) d_Xml_init_102 (fun q15 cA16 H hK hP hD hS => ?_)
  refine W.widen (k := 1561) (n := 19671) (by omega) (by omega) ?_
  have hP : va_P (dC, dI) classes [(h0, .inr (6, [.ref q1, .int 0, .ref q2, .int 0, .ref q3, .ref q6, .int 0, .ref q7, .int 0, .ref q8, .ref q10, .int 0, .ref q12, .null, .null, .null, .int 0])), (q3, .inr (0, [.ref q4, .int 0, .int 0])), (q4, .inl (cA5, 3000, .inl (fun _ => 0))), (q8, .inl (cA9, 20, .inl (fun _ => 0))), (q10, .inl (cA11, 20, .inl (fun _ => 0))), (q12, .inr (0, [.ref q13, .int 0, .int 0])), (q13, .inl (cA14, 3000, .inl (fun _ => 0))), (q15, .inl (cA16, 3000, .inl (fun _ => 0)))] H := hP
  have hD : va_D A [(h0, .inr (6, [.ref q1, .int 0, .ref q2, .int 0, .ref q3, .ref q6, .int 0, .ref q7, .int 0, .ref q8, .ref q10, .int 0, .ref q12, .null, .null, .null, .int 0])), (q3, .inr (0, [.ref q4, .int 0, .int 0])), (q4, .inl (cA5, 3000, .inl (fun _ => 0))), (q8, .inl (cA9, 20, .inl (fun _ => 0))), (q10, .inl (cA11, 20, .inl (fun _ => 0))), (q12, .inr (0, [.ref q13, .int 0, .int 0])), (q13, .inl (cA14, 3000, .inl (fun _ => 0))), (q15, .inl (cA16, 3000, .inl (fun _ => 0)))] := hD
  have hK : va_K (dC, dI) classes [(cA5, .byte), (cA9, .int), (cA11, .int), (cA14, .byte), (cA16, .int)] s := hK
  refine va_putF (D := (dC, dI)) (ci := 6) (v := .ref q15) (ty := .array .int) (C := R_Xml) (T := F_Xml) (N := 17) hx hb ht i_Xml t_Xml t_Xml_ok n_Xml hown hK hP hD hS 0 rfl rfl 13 (by decide) (ht _ k_203) (fun _ h9 => h9) rfl hin rfl (by decide +kernel) rfl rfl (Nat.le_of_ble_eq_true rfl) d_Xml_init_104 (fun H locs hP hD hS => ?_)
  have hP : va_P (dC, dI) classes [(h0, .inr (6, [.ref q1, .int 0, .ref q2, .int 0, .ref q3, .ref q6, .int 0, .ref q7, .int 0, .ref q8, .ref q10, .int 0, .ref q12, .ref q15, .null, .null, .int 0])), (q3, .inr (0, [.ref q4, .int 0, .int 0])), (q4, .inl (cA5, 3000, .inl (fun _ => 0))), (q8, .inl (cA9, 20, .inl (fun _ => 0))), (q10, .inl (cA11, 20, .inl (fun _ => 0))), (q12, .inr (0, [.ref q13, .int 0, .int 0])), (q13, .inl (cA14, 3000, .inl (fun _ => 0))), (q15, .inl (cA16, 3000, .inl (fun _ => 0)))] H := hP
  have hD : va_D A [(h0, .inr (6, [.ref q1, .int 0, .ref q2, .int 0, .ref q3, .ref q6, .int 0, .ref q7, .int 0, .ref q8, .ref q10, .int 0, .ref q12, .ref q15, .null, .null, .int 0])), (q3, .inr (0, [.ref q4, .int 0, .int 0])), (q4, .inl (cA5, 3000, .inl (fun _ => 0))), (q8, .inl (cA9, 20, .inl (fun _ => 0))), (q10, .inl (cA11, 20, .inl (fun _ => 0))), (q12, .inr (0, [.ref q13, .int 0, .int 0])), (q13, .inl (cA14, 3000, .inl (fun _ => 0))), (q15, .inl (cA16, 3000, .inl (fun _ => 0)))] := hD
  refine lv_aload_n hx hb d_Xml_init_107 rfl (lv_at hl 0 rfl) ?_
  refine va_new (ci := 0) (fs := [.null, .int 0, .int 0]) (C := R_Row) (T := F_Row) (N := 3) hx hb ht i_Row t_Row t_Row_ok hown (ht _ k_193) (ht _ k_24) (ht _ k_2) hK hP hD hS hA rfl (fun j hj => by rcases (show j = 0 ∨ j = 1 ∨ j = 2 by omega) with rfl | rfl | rfl <;> rfl) (Nat.le_of_ble_eq_true rfl) (Nat.le_of_ble_eq_true rfl) d_Xml_init_108 (fun q17 H hP hD hS => ?_)
  refine W.widen (k := 1562) (n := 19674) (by omega) (by omega) ?_
  have hP : va_P (dC, dI) classes [(h0, .inr (6, [.ref q1, .int 0, .ref q2, .int 0, .ref q3, .ref q6, .int 0, .ref q7, .int 0, .ref q8, .ref q10, .int 0, .ref q12, .ref q15, .null, .null, .int 0])), (q3, .inr (0, [.ref q4, .int 0, .int 0])), (q4, .inl (cA5, 3000, .inl (fun _ => 0))), (q8, .inl (cA9, 20, .inl (fun _ => 0))), (q10, .inl (cA11, 20, .inl (fun _ => 0))), (q12, .inr (0, [.ref q13, .int 0, .int 0])), (q13, .inl (cA14, 3000, .inl (fun _ => 0))), (q15, .inl (cA16, 3000, .inl (fun _ => 0))), (q17, .inr (0, [.null, .int 0, .int 0]))] H := hP
  have hD : va_D A [(h0, .inr (6, [.ref q1, .int 0, .ref q2, .int 0, .ref q3, .ref q6, .int 0, .ref q7, .int 0, .ref q8, .ref q10, .int 0, .ref q12, .ref q15, .null, .null, .int 0])), (q3, .inr (0, [.ref q4, .int 0, .int 0])), (q4, .inl (cA5, 3000, .inl (fun _ => 0))), (q8, .inl (cA9, 20, .inl (fun _ => 0))), (q10, .inl (cA11, 20, .inl (fun _ => 0))), (q12, .inr (0, [.ref q13, .int 0, .int 0])), (q13, .inl (cA14, 3000, .inl (fun _ => 0))), (q15, .inl (cA16, 3000, .inl (fun _ => 0))), (q17, .inr (0, [.null, .int 0, .int 0]))] := hD
  refine lv_dup hx hb d_Xml_init_111 rfl ?_
  refine lv_sipush (v := (nI 3000)) hx hb d_Xml_init_112 (by decide) ?_
  have hPc := hP.sub (ws' := [(q17, .inr (0, [.null, .int 0, .int 0]))]) [8] rfl
  have hDc := hD.sub (ws' := [(q17, .inr (0, [.null, .int 0, .int 0]))]) [8] (by decide +kernel) rfl
  have hKc := hK.sub (tys' := []) [] rfl
  have hFc := va_free (wc := [(q17, .inr (0, [.null, .int 0, .int 0]))]) hD hS hA [8] rfl
  refine va_callv (va_runI (As := [.int (nI 3000)]) (rest := [.ref q17, .ref h0]) ⟨hx, hb, hml, hown, ht⟩ (c_Row_init l dC dI q17 H.size 3000 (by decide) (by decide)) (cwI 1 ht (xw_good k_27) rfl rfl rfl (ht _ k_2) (ht _ k_194) (ht _ k_26) rfl (by decide +kernel) ⟨(Nat.le_of_ble_eq_true rfl), (Nat.le_of_ble_eq_true rfl)⟩) ⟨fun a U g mk q => by obtain ⟨q0, q1, qP, qK, qD⟩ := q; exact ⟨q0, q1, qP, va_K.moved (u := U) (U := U.calling g mk a) (Vm.Alike.refl U.vm) qK, qD⟩, fun U hU hW => ⟨rfl, by rw [hU], by rw [hU]; exact hPc, va_K.moved hW.alike hKc, hDc.weaken (fun _ _ _ _ => trivial)⟩⟩ rfl rfl hl.1 rfl (lv_room (Nat.le_of_ble_eq_true rfl)) d_Xml_init_115 ⟨(Nat.le_of_ble_eq_true rfl), (Nat.le_of_ble_eq_true rfl)⟩) hS (fun q _ h => hFc q h) hFc (fun u t H1 locs ht9 hvm hw hB hz1 hk1 hS => ?_)
  obtain ⟨q18, cA19, hP1, hK1, hD1⟩ := hB
  rw [ht9] at hP1
  have hK1 := va_K.moved hvm.symm hK1
  obtain ⟨hP, hD⟩ := va_join (wr := [(h0, .inr (6, [.ref q1, .int 0, .ref q2, .int 0, .ref q3, .ref q6, .int 0, .ref q7, .int 0, .ref q8, .ref q10, .int 0, .ref q12, .ref q15, .null, .null, .int 0])), (q3, .inr (0, [.ref q4, .int 0, .int 0])), (q4, .inl (cA5, 3000, .inl (fun _ => 0))), (q8, .inl (cA9, 20, .inl (fun _ => 0))), (q10, .inl (cA11, 20, .inl (fun _ => 0))), (q12, .inr (0, [.ref q13, .int 0, .int 0])), (q13, .inl (cA14, 3000, .inl (fun _ => 0))), (q15, .inl (cA16, 3000, .inl (fun _ => 0)))]) (w1 := [(q17, .inr (0, [.ref q18, .int 0, .int 0])), (q18, .inl (cA19, 3000, .inl (fun _ => 0)))]) hP hD [8] [0, 1, 2, 3, 4, 5, 6, 7] rfl rfl (by decide +kernel) (by decide +kernel) hk1 hFc hP1 hD1
  have hK := (hK.sub (tys' := [(cA5, .byte), (cA9, .int), (cA11, .int), (cA14, .byte), (cA16, .int)]) [0, 1, 2, 3, 4] rfl).app hK1
  generalize H1 = H at hP hS ⊢
  have hP : va_P (dC, dI) classes [(h0, .inr (6, [.ref q1, .int 0, .ref q2, .int 0, .ref q3, .ref q6, .int 0, .ref q7, .int 0, .ref q8, .ref q10, .int 0, .ref q12, .ref q15, .null, .null, .int 0])), (q3, .inr (0, [.ref q4, .int 0, .int 0])), (q4, .inl (cA5, 3000, .inl (fun _ => 0))), (q8, .inl (cA9, 20, .inl (fun _ => 0))), (q10, .inl (cA11, 20, .inl (fun _ => 0))), (q12, .inr (0, [.ref q13, .int 0, .int 0])), (q13, .inl (cA14, 3000, .inl (fun _ => 0))), (q15, .inl (cA16, 3000, .inl (fun _ => 0))), (q17, .inr (0, [.ref q18, .int 0, .int 0])), (q18, .inl (cA19, 3000, .inl (fun _ => 0)))] H := hP
  have hD : va_D A [(h0, .inr (6, [.ref q1, .int 0, .ref q2, .int 0, .ref q3, .ref q6, .int 0, .ref q7, .int 0, .ref q8, .ref q10, .int 0, .ref q12, .ref q15, .null, .null, .int 0])), (q3, .inr (0, [.ref q4, .int 0, .int 0])), (q4, .inl (cA5, 3000, .inl (fun _ => 0))), (q8, .inl (cA9, 20, .inl (fun _ => 0))), (q10, .inl (cA11, 20, .inl (fun _ => 0))), (q12, .inr (0, [.ref q13, .int 0, .int 0])), (q13, .inl (cA14, 3000, .inl (fun _ => 0))), (q15, .inl (cA16, 3000, .inl (fun _ => 0))), (q17, .inr (0, [.ref q18, .int 0, .int 0])), (q18, .inl (cA19, 3000, .inl (fun _ => 0)))] := hD
  have hK : va_K (dC, dI) classes [(cA5, .byte), (cA9, .int), (cA11, .int), (cA14, .byte), (cA16, .int), (cA19, .byte)] s := hK
  refine W.widen (k := 1563) (n := 22674) (by omega) (by omega) ?_
  refine va_putF (D := (dC, dI)) (ci := 6) (v := .ref q17) (ty := .object "AddressHouse$Row") (C := R_Xml) (T := F_Xml) (N := 17) hx hb ht i_Xml t_Xml t_Xml_ok n_Xml hown hK hP hD hS 0 rfl rfl 14 (by decide) (ht _ k_204) (fun _ h9 => h9) rfl hin rfl (by decide +kernel) rfl rfl (Nat.le_of_ble_eq_true rfl) d_Xml_init_118 (fun H locs hP hD hS => ?_)
  have hP : va_P (dC, dI) classes [(h0, .inr (6, [.ref q1, .int 0, .ref q2, .int 0, .ref q3, .ref q6, .int 0, .ref q7, .int 0, .ref q8, .ref q10, .int 0, .ref q12, .ref q15, .ref q17, .null, .int 0])), (q3, .inr (0, [.ref q4, .int 0, .int 0])), (q4, .inl (cA5, 3000, .inl (fun _ => 0))), (q8, .inl (cA9, 20, .inl (fun _ => 0))), (q10, .inl (cA11, 20, .inl (fun _ => 0))), (q12, .inr (0, [.ref q13, .int 0, .int 0])), (q13, .inl (cA14, 3000, .inl (fun _ => 0))), (q15, .inl (cA16, 3000, .inl (fun _ => 0))), (q17, .inr (0, [.ref q18, .int 0, .int 0])), (q18, .inl (cA19, 3000, .inl (fun _ => 0)))] H := hP
  have hD : va_D A [(h0, .inr (6, [.ref q1, .int 0, .ref q2, .int 0, .ref q3, .ref q6, .int 0, .ref q7, .int 0, .ref q8, .ref q10, .int 0, .ref q12, .ref q15, .ref q17, .null, .int 0])), (q3, .inr (0, [.ref q4, .int 0, .int 0])), (q4, .inl (cA5, 3000, .inl (fun _ => 0))), (q8, .inl (cA9, 20, .inl (fun _ => 0))), (q10, .inl (cA11, 20, .inl (fun _ => 0))), (q12, .inr (0, [.ref q13, .int 0, .int 0])), (q13, .inl (cA14, 3000, .inl (fun _ => 0))), (q15, .inl (cA16, 3000, .inl (fun _ => 0))), (q17, .inr (0, [.ref q18, .int 0, .int 0])), (q18, .inl (cA19, 3000, .inl (fun _ => 0)))] := hD
  refine lv_aload_n hx hb d_Xml_init_121 rfl (lv_at hl 0 rfl) ?_
  refine lv_aload_n hx hb d_Xml_init_122 rfl (lv_at hl 0 rfl) ?_
  refine va_get (D := (dC, dI)) (ci := 6) (v := .ref q17) (C := R_Xml) (T := F_Xml) (N := 17) hx hb ht i_Xml hown hK hP 0 rfl rfl 14 (by decide) (ht _ k_204) (fun _ h9 => h9) rfl d_Xml_init_123 ?_
  refine va_put (D := (dC, dI)) (ci := 6) (v := .ref q17) (ty := .object "AddressHouse$Row") (C := R_Xml) (T := F_Xml) (N := 17) hx hb ht i_Xml t_Xml t_Xml_ok n_Xml hown hK hP hD hS 0 rfl rfl 15 (by decide) (ht _ k_205) (fun _ h9 => h9) rfl (by decide +kernel) rfl rfl (Nat.le_of_ble_eq_true rfl) d_Xml_init_126 (fun H locs hP hD hS => ?_)
  have hP : va_P (dC, dI) classes [(h0, .inr (6, [.ref q1, .int 0, .ref q2, .int 0, .ref q3, .ref q6, .int 0, .ref q7, .int 0, .ref q8, .ref q10, .int 0, .ref q12, .ref q15, .ref q17, .ref q17, .int 0])), (q3, .inr (0, [.ref q4, .int 0, .int 0])), (q4, .inl (cA5, 3000, .inl (fun _ => 0))), (q8, .inl (cA9, 20, .inl (fun _ => 0))), (q10, .inl (cA11, 20, .inl (fun _ => 0))), (q12, .inr (0, [.ref q13, .int 0, .int 0])), (q13, .inl (cA14, 3000, .inl (fun _ => 0))), (q15, .inl (cA16, 3000, .inl (fun _ => 0))), (q17, .inr (0, [.ref q18, .int 0, .int 0])), (q18, .inl (cA19, 3000, .inl (fun _ => 0)))] H := hP
  have hD : va_D A [(h0, .inr (6, [.ref q1, .int 0, .ref q2, .int 0, .ref q3, .ref q6, .int 0, .ref q7, .int 0, .ref q8, .ref q10, .int 0, .ref q12, .ref q15, .ref q17, .ref q17, .int 0])), (q3, .inr (0, [.ref q4, .int 0, .int 0])), (q4, .inl (cA5, 3000, .inl (fun _ => 0))), (q8, .inl (cA9, 20, .inl (fun _ => 0))), (q10, .inl (cA11, 20, .inl (fun _ => 0))), (q12, .inr (0, [.ref q13, .int 0, .int 0])), (q13, .inl (cA14, 3000, .inl (fun _ => 0))), (q15, .inl (cA16, 3000, .inl (fun _ => 0))), (q17, .inr (0, [.ref q18, .int 0, .int 0])), (q18, .inl (cA19, 3000, .inl (fun _ => 0)))] := hD
  have hP9 := hP.sub (ws' := [(h0, .inr (6, [.ref q1, .int 0, .ref q2, .int 0, .ref q3, .ref q6, .int 0, .ref q7, .int 0, .ref q8, .ref q10, .int 0, .ref q12, .ref q15, .ref q17, .ref q17, .int 0]))]) [0] rfl
  have hD9 := hD.sub (ws' := [(h0, .inr (6, [.ref q1, .int 0, .ref q2, .int 0, .ref q3, .ref q6, .int 0, .ref q7, .int 0, .ref q8, .ref q10, .int 0, .ref q12, .ref q15, .ref q17, .ref q17, .int 0]))]) [0] (by decide +kernel) rfl
  have hK9 := hK.sub (tys' := []) [] rfl
  exact W.vret hx hb hr (fun t ht9 hW => ⟨⟨(), rfl, trivial, q1, q2, q3, q6, q7, q8, q10, q12, q15, q17, by rw [ht9]; exact hP9, va_K.moved hW.alike hK9, hD9⟩, hS.F ht9⟩) hS.2.2 d_Xml_init_129
set_option maxHeartbeats 4000000 in
set_option maxRecDepth 100000 in
/-- Filter(xml, card) -/
theorem c_Filter_init (l : Launch) (dC : Nat → ClassId) (dI : Nat → Nat → Nat) (h0 sz a1 a2 : Nat) : Met l y_Filter_init (Cond.code y_Filter_init b_Filter_init 3 none :: xw0) ({ frames := 4, cells := 406, slots := 13406, locals := 100 }) (va_Pc [.ref h0, .ref a1, .ref a2] (fun U => U.heap.size = sz ∧ va_P (dC, dI) classes [(h0, .inr (8, [.null, .null, .null, .int 0, .null, .int 0, .int 0, .null, .null]))] U.heap ∧ va_K (dC, dI) classes [] U ∧ va_D (fun _ => True) [(h0, .inr (8, [.null, .null, .null, .int 0, .null, .int 0, .int 0, .null, .null]))] ∧ xm_K U)) (va_Qv (fun _ : Unit => True) (fun (_ : Unit) (t : State) => ∃ (a1 a2 q1 q2 q3 q6 : Nat) , va_P (dC, dI) classes [(h0, .inr (8, [.ref a1, .ref a2, .ref q1, .int 0, .ref q2, .int 0, .int 0, .ref q3, .ref q6]))] t.heap ∧ va_K (dC, dI) classes [] t ∧ va_D (va_A [(h0, .inr (8, [.null, .null, .null, .int 0, .null, .int 0, .int 0, .null, .null]))] sz) [(h0, .inr (8, [.ref a1, .ref a2, .ref q1, .int 0, .ref q2, .int 0, .int 0, .ref q3, .ref q6]))]) (va_A [(h0, .inr (8, [.null, .null, .null, .int 0, .null, .int 0, .int 0, .null, .null]))] sz)) 406 13406 (va_A [(h0, .inr (8, [.null, .null, .null, .int 0, .null, .int 0, .int 0, .null, .null]))] sz) := by
  refine Met.ofW (cc := b_Filter_init) (maxL := 3) (ret := none) (by decide) rfl ?_
  intro p e s m args below meth c s₁ B hml hv
  obtain ⟨rfl, hsz, hP, hK, hD0, hO_Z⟩ := hv
  have hx := B.exec
  have hb := B.bytes
  have hr := B.returns
  have hts := atoms_spec (ws := Cond.code y_Filter_init b_Filter_init 3 none :: xw0) B.pre
  have ht : ∀ w ∈ xw0, w.before _ s = true := fun w h => hts w (List.mem_cons_of_mem _ h)
  have hown : s.vm.findClass R_Filter = some m.cls := findClass_of_methodNamed B.named
  have hlocks := B.notSynchronized
  have hin : meth.name = "<init>" := (name_of_methodNamed B.named B.method).1
  subst hsz
  have hD := hD0.self (sz := s.heap.size)
  generalize hAe : va_A [(h0, .inr (8, [.null, .null, .null, .int 0, .null, .int 0, .int 0, .null, .null]))] s.heap.size = A at hD ⊢
  have hA : ∀ q : Nat, s.heap.size ≤ q → A q := fun q h => by rw [← hAe]; exact Or.inr h
  have hS : va_S A s.heap s.heap [] := va_S.rf
  have hP : va_P (dC, dI) classes [(h0, .inr (8, [.null, .null, .null, .int 0, .null, .int 0, .int 0, .null, .null]))] s.heap := hP
  have hl := lv_entry ([.ref h0, .ref a1, .ref a2]) (n := 3) (Nat.le_of_ble_eq_true rfl)
  rw [lg_entry_eq]
  generalize (lg_sl ([.ref h0, .ref a1, .ref a2]) ++ List.replicate (3 - (lg_sl ([.ref h0, .ref a1, .ref a2])).length) Slot.unset).toArray = ls at hl ⊢
  have hl : lv_has ls 3 [(0, .ref h0), (1, .ref a1), (2, .ref a2)] := hl
  refine lv_aload_n hx hb d_Filter_init_0 rfl (lv_at hl 0 rfl) ?_
  refine W.objInit hx hb hown (ht _ k_298) (ht _ k_21) (ht _ k_22) rfl (by rw [hml]; exact hl.1) rfl d_Filter_init_1 (Nat.le_of_ble_eq_true rfl) (Nat.le_of_ble_eq_true rfl) ?_
  refine W.eq (g2 := F0 m 4 ls []) rfl ?_
  refine lv_aload_n hx hb d_Filter_init_4 rfl (lv_at hl 0 rfl) ?_
  refine lv_aload_n hx hb d_Filter_init_5 rfl (lv_at hl 1 rfl) ?_
  refine va_putF (D := (dC, dI)) (ci := 8) (v := .ref a1) (ty := .object "AddressHouse$Xml") (C := R_Filter) (T := F_Filter) (N := 9) hx hb ht i_Filter t_Filter t_Filter_ok n_Filter hown hK hP hD hS 0 rfl rfl 0 (by decide) (ht _ k_302) (fun _ h9 => h9) rfl hin rfl (by decide +kernel) rfl rfl (Nat.le_of_ble_eq_true rfl) d_Filter_init_6 (fun H locs hP hD hS => ?_)
  have hP : va_P (dC, dI) classes [(h0, .inr (8, [.ref a1, .null, .null, .int 0, .null, .int 0, .int 0, .null, .null]))] H := hP
  have hD : va_D A [(h0, .inr (8, [.ref a1, .null, .null, .int 0, .null, .int 0, .int 0, .null, .null]))] := hD
  refine lv_aload_n hx hb d_Filter_init_9 rfl (lv_at hl 0 rfl) ?_
  refine lv_aload_n hx hb d_Filter_init_10 rfl (lv_at hl 2 rfl) ?_
  refine va_putF (D := (dC, dI)) (ci := 8) (v := .ref a2) (ty := .object "AddressHouse$Card") (C := R_Filter) (T := F_Filter) (N := 9) hx hb ht i_Filter t_Filter t_Filter_ok n_Filter hown hK hP hD hS 0 rfl rfl 1 (by decide) (ht _ k_303) (fun _ h9 => h9) rfl hin rfl (by decide +kernel) rfl rfl (Nat.le_of_ble_eq_true rfl) d_Filter_init_11 (fun H locs hP hD hS => ?_)
  have hP : va_P (dC, dI) classes [(h0, .inr (8, [.ref a1, .ref a2, .null, .int 0, .null, .int 0, .int 0, .null, .null]))] H := hP
  have hD : va_D A [(h0, .inr (8, [.ref a1, .ref a2, .null, .int 0, .null, .int 0, .int 0, .null, .null]))] := hD
  refine lv_aload_n hx hb d_Filter_init_14 rfl (lv_at hl 0 rfl) ?_
  refine lv_sipush (v := (nI 200)) hx hb d_Filter_init_15 (by decide) ?_
  refine lv_bipush (v := (nI 10)) hx hb d_Filter_init_18 (by decide) ?_
  refine xw_multi (n := 200) (k := 10) hx hb hown (ht _ k_299) hO_Z hP hS hA (by decide) (by decide) (Nat.le_of_ble_eq_true rfl) (Nat.le_of_ble_eq_true rfl) d_Filter_init_20 (fun q1 H locs hP hS => ?_)
  refine W.widen (k := 201) (n := 2200) (by omega) (by omega) ?_
  refine va_putF (D := (dC, dI)) (ci := 8) (v := .ref q1) (ty := .array (.array .int)) (C := R_Filter) (T := F_Filter) (N := 9) hx hb ht i_Filter t_Filter t_Filter_ok n_Filter hown hK hP hD hS 0 rfl rfl 2 (by decide) (ht _ k_304) (fun _ h9 => h9) rfl hin rfl (by decide +kernel) rfl rfl (Nat.le_of_ble_eq_true rfl) d_Filter_init_24 (fun H locs hP hD hS => ?_)
  have hP : va_P (dC, dI) classes [(h0, .inr (8, [.ref a1, .ref a2, .ref q1, .int 0, .null, .int 0, .int 0, .null, .null]))] H := hP
  have hD : va_D A [(h0, .inr (8, [.ref a1, .ref a2, .ref q1, .int 0, .null, .int 0, .int 0, .null, .null]))] := hD
  refine lv_aload_n hx hb d_Filter_init_27 rfl (lv_at hl 0 rfl) ?_
  refine lv_sipush (v := (nI 200)) hx hb d_Filter_init_28 (by decide) ?_
  refine lv_bipush (v := (nI 10)) hx hb d_Filter_init_31 (by decide) ?_
  refine xw_multi (n := 200) (k := 10) hx hb hown (ht _ k_299) hO_Z hP hS hA (by decide) (by decide) (Nat.le_of_ble_eq_true rfl) (Nat.le_of_ble_eq_true rfl) d_Filter_init_33 (fun q2 H locs hP hS => ?_)
  refine W.widen (k := 402) (n := 4400) (by omega) (by omega) ?_
  refine va_putF (D := (dC, dI)) (ci := 8) (v := .ref q2) (ty := .array (.array .int)) (C := R_Filter) (T := F_Filter) (N := 9) hx hb ht i_Filter t_Filter t_Filter_ok n_Filter hown hK hP hD hS 0 rfl rfl 4 (by decide) (ht _ k_305) (fun _ h9 => h9) rfl hin rfl (by decide +kernel) rfl rfl (Nat.le_of_ble_eq_true rfl) d_Filter_init_37 (fun H locs hP hD hS => ?_)
  have hP : va_P (dC, dI) classes [(h0, .inr (8, [.ref a1, .ref a2, .ref q1, .int 0, .ref q2, .int 0, .int 0, .null, .null]))] H := hP
  have hD : va_D A [(h0, .inr (8, [.ref a1, .ref a2, .ref q1, .int 0, .ref q2, .int 0, .int 0, .null, .null]))] := hD
  refine lv_aload_n hx hb d_Filter_init_40 rfl (lv_at hl 0 rfl) ?_
  refine va_new (ci := 0) (fs := [.null, .int 0, .int 0]) (C := R_Row) (T := F_Row) (N := 3) hx hb ht i_Row t_Row t_Row_ok hown (ht _ k_300) (ht _ k_24) (ht _ k_2) hK hP hD hS hA rfl (fun j hj => by rcases (show j = 0 ∨ j = 1 ∨ j = 2 by omega) with rfl | rfl | rfl <;> rfl) (Nat.le_of_ble_eq_true rfl) (Nat.le_of_ble_eq_true rfl) d_Filter_init_41 (fun q3 H hP hD hS => ?_)
  refine W.widen (k := 403) (n := 4403) (by omega) (by omega) ?_
  have hP : va_P (dC, dI) classes [(h0, .inr (8, [.ref a1, .ref a2, .ref q1, .int 0, .ref q2, .int 0, .int 0, .null, .null])), (q3, .inr (0, [.null, .int 0, .int 0]))] H := hP
  have hD : va_D A [(h0, .inr (8, [.ref a1, .ref a2, .ref q1, .int 0, .ref q2, .int 0, .int 0, .null, .null])), (q3, .inr (0, [.null, .int 0, .int 0]))] := hD
  refine lv_dup hx hb d_Filter_init_44 rfl ?_
  refine lv_sipush (v := (nI 3000)) hx hb d_Filter_init_45 (by decide) ?_
  have hPc := hP.sub (ws' := [(q3, .inr (0, [.null, .int 0, .int 0]))]) [1] rfl
  have hDc := hD.sub (ws' := [(q3, .inr (0, [.null, .int 0, .int 0]))]) [1] (by decide +kernel) rfl
  have hKc := hK.sub (tys' := []) [] rfl
  have hFc := va_free (wc := [(q3, .inr (0, [.null, .int 0, .int 0]))]) hD hS hA [1] rfl
  refine va_callv (va_runI (As := [.int (nI 3000)]) (rest := [.ref q3, .ref h0]) ⟨hx, hb, hml, hown, ht⟩ (c_Row_init l dC dI q3 H.size 3000 (by decide) (by decide)) (cwI 1 ht (xw_good k_27) rfl rfl rfl (ht _ k_2) (ht _ k_301) (ht _ k_26) rfl (by decide +kernel) ⟨(Nat.le_of_ble_eq_true rfl), (Nat.le_of_ble_eq_true rfl)⟩) ⟨fun a U g mk q => by obtain ⟨q0, q1, qP, qK, qD⟩ := q; exact ⟨q0, q1, qP, va_K.moved (u := U) (U := U.calling g mk a) (Vm.Alike.refl U.vm) qK, qD⟩, fun U hU hW => ⟨rfl, by rw [hU], by rw [hU]; exact hPc, va_K.moved hW.alike hKc, hDc.weaken (fun _ _ _ _ => trivial)⟩⟩ rfl rfl hl.1 rfl (lv_room (Nat.le_of_ble_eq_true rfl)) d_Filter_init_48 ⟨(Nat.le_of_ble_eq_true rfl), (Nat.le_of_ble_eq_true rfl)⟩) hS (fun q _ h => hFc q h) hFc (fun u t H1 locs ht9 hvm hw hB hz1 hk1 hS => ?_)
  obtain ⟨q4, cA5, hP1, hK1, hD1⟩ := hB
  rw [ht9] at hP1
  have hK1 := va_K.moved hvm.symm hK1
  obtain ⟨hP, hD⟩ := va_join (wr := [(h0, .inr (8, [.ref a1, .ref a2, .ref q1, .int 0, .ref q2, .int 0, .int 0, .null, .null]))]) (w1 := [(q3, .inr (0, [.ref q4, .int 0, .int 0])), (q4, .inl (cA5, 3000, .inl (fun _ => 0)))]) hP hD [1] [0] rfl rfl (by decide +kernel) (by decide +kernel) hk1 hFc hP1 hD1
  have hK := (hK.sub (tys' := []) [] rfl).app hK1
  generalize H1 = H at hP hS ⊢
  have hP : va_P (dC, dI) classes [(h0, .inr (8, [.ref a1, .ref a2, .ref q1, .int 0, .ref q2, .int 0, .int 0, .null, .null])), (q3, .inr (0, [.ref q4, .int 0, .int 0])), (q4, .inl (cA5, 3000, .inl (fun _ => 0)))] H := hP
  have hD : va_D A [(h0, .inr (8, [.ref a1, .ref a2, .ref q1, .int 0, .ref q2, .int 0, .int 0, .null, .null])), (q3, .inr (0, [.ref q4, .int 0, .int 0])), (q4, .inl (cA5, 3000, .inl (fun _ => 0)))] := hD
  have hK : va_K (dC, dI) classes [(cA5, .byte)] s := hK
  refine W.widen (k := 404) (n := 7403) (by omega) (by omega) ?_
  refine va_putF (D := (dC, dI)) (ci := 8) (v := .ref q3) (ty := .object "AddressHouse$Row") (C := R_Filter) (T := F_Filter) (N := 9) hx hb ht i_Filter t_Filter t_Filter_ok n_Filter hown hK hP hD hS 0 rfl rfl 7 (by decide) (ht _ k_306) (fun _ h9 => h9) rfl hin rfl (by decide +kernel) rfl rfl (Nat.le_of_ble_eq_true rfl) d_Filter_init_51 (fun H locs hP hD hS => ?_)
  have hP : va_P (dC, dI) classes [(h0, .inr (8, [.ref a1, .ref a2, .ref q1, .int 0, .ref q2, .int 0, .int 0, .ref q3, .null])), (q3, .inr (0, [.ref q4, .int 0, .int 0])), (q4, .inl (cA5, 3000, .inl (fun _ => 0)))] H := hP
  have hD : va_D A [(h0, .inr (8, [.ref a1, .ref a2, .ref q1, .int 0, .ref q2, .int 0, .int 0, .ref q3, .null])), (q3, .inr (0, [.ref q4, .int 0, .int 0])), (q4, .inl (cA5, 3000, .inl (fun _ => 0)))] := hD
  refine lv_aload_n hx hb d_Filter_init_54 rfl (lv_at hl 0 rfl) ?_
  refine va_new (ci := 0) (fs := [.null, .int 0, .int 0]) (C := R_Row) (T := F_Row) (N := 3) hx hb ht i_Row t_Row t_Row_ok hown (ht _ k_300) (ht _ k_24) (ht _ k_2) hK hP hD hS hA rfl (fun j hj => by rcases (show j = 0 ∨ j = 1 ∨ j = 2 by omega) with rfl | rfl | rfl <;> rfl) (Nat.le_of_ble_eq_true rfl) (Nat.le_of_ble_eq_true rfl) d_Filter_init_55 (fun q6 H hP hD hS => ?_)
  refine W.widen (k := 405) (n := 7406) (by omega) (by omega) ?_
  have hP : va_P (dC, dI) classes [(h0, .inr (8, [.ref a1, .ref a2, .ref q1, .int 0, .ref q2, .int 0, .int 0, .ref q3, .null])), (q3, .inr (0, [.ref q4, .int 0, .int 0])), (q4, .inl (cA5, 3000, .inl (fun _ => 0))), (q6, .inr (0, [.null, .int 0, .int 0]))] H := hP
  have hD : va_D A [(h0, .inr (8, [.ref a1, .ref a2, .ref q1, .int 0, .ref q2, .int 0, .int 0, .ref q3, .null])), (q3, .inr (0, [.ref q4, .int 0, .int 0])), (q4, .inl (cA5, 3000, .inl (fun _ => 0))), (q6, .inr (0, [.null, .int 0, .int 0]))] := hD
  refine lv_dup hx hb d_Filter_init_58 rfl ?_
  refine lv_sipush (v := (nI 6000)) hx hb d_Filter_init_59 (by decide) ?_
  have hPc := hP.sub (ws' := [(q6, .inr (0, [.null, .int 0, .int 0]))]) [3] rfl
  have hDc := hD.sub (ws' := [(q6, .inr (0, [.null, .int 0, .int 0]))]) [3] (by decide +kernel) rfl
  have hKc := hK.sub (tys' := []) [] rfl
  have hFc := va_free (wc := [(q6, .inr (0, [.null, .int 0, .int 0]))]) hD hS hA [3] rfl
  refine va_callv (va_runI (As := [.int (nI 6000)]) (rest := [.ref q6, .ref h0]) ⟨hx, hb, hml, hown, ht⟩ (c_Row_init l dC dI q6 H.size 6000 (by decide) (by decide)) (cwI 1 ht (xw_good k_27) rfl rfl rfl (ht _ k_2) (ht _ k_301) (ht _ k_26) rfl (by decide +kernel) ⟨(Nat.le_of_ble_eq_true rfl), (Nat.le_of_ble_eq_true rfl)⟩) ⟨fun a U g mk q => by obtain ⟨q0, q1, qP, qK, qD⟩ := q; exact ⟨q0, q1, qP, va_K.moved (u := U) (U := U.calling g mk a) (Vm.Alike.refl U.vm) qK, qD⟩, fun U hU hW => ⟨rfl, by rw [hU], by rw [hU]; exact hPc, va_K.moved hW.alike hKc, hDc.weaken (fun _ _ _ _ => trivial)⟩⟩ rfl rfl hl.1 rfl (lv_room (Nat.le_of_ble_eq_true rfl)) d_Filter_init_62 ⟨(Nat.le_of_ble_eq_true rfl), (Nat.le_of_ble_eq_true rfl)⟩) hS (fun q _ h => hFc q h) hFc (fun u t H1 locs ht9 hvm hw hB hz1 hk1 hS => ?_)
  obtain ⟨q7, cA8, hP1, hK1, hD1⟩ := hB
  rw [ht9] at hP1
  have hK1 := va_K.moved hvm.symm hK1
  obtain ⟨hP, hD⟩ := va_join (wr := [(h0, .inr (8, [.ref a1, .ref a2, .ref q1, .int 0, .ref q2, .int 0, .int 0, .ref q3, .null])), (q3, .inr (0, [.ref q4, .int 0, .int 0])), (q4, .inl (cA5, 3000, .inl (fun _ => 0)))]) (w1 := [(q6, .inr (0, [.ref q7, .int 0, .int 0])), (q7, .inl (cA8, 6000, .inl (fun _ => 0)))]) hP hD [3] [0, 1, 2] rfl rfl (by decide +kernel) (by decide +kernel) hk1 hFc hP1 hD1
  have hK := (hK.sub (tys' := [(cA5, .byte)]) [0] rfl).app hK1
  generalize H1 = H at hP hS ⊢
  have hP : va_P (dC, dI) classes [(h0, .inr (8, [.ref a1, .ref a2, .ref q1, .int 0, .ref q2, .int 0, .int 0, .ref q3, .null])), (q3, .inr (0, [.ref q4, .int 0, .int 0])), (q4, .inl (cA5, 3000, .inl (fun _ => 0))), (q6, .inr (0, [.ref q7, .int 0, .int 0])), (q7, .inl (cA8, 6000, .inl (fun _ => 0)))] H := hP
  have hD : va_D A [(h0, .inr (8, [.ref a1, .ref a2, .ref q1, .int 0, .ref q2, .int 0, .int 0, .ref q3, .null])), (q3, .inr (0, [.ref q4, .int 0, .int 0])), (q4, .inl (cA5, 3000, .inl (fun _ => 0))), (q6, .inr (0, [.ref q7, .int 0, .int 0])), (q7, .inl (cA8, 6000, .inl (fun _ => 0)))] := hD
  have hK : va_K (dC, dI) classes [(cA5, .byte), (cA8, .byte)] s := hK
  refine W.widen (k := 406) (n := 13406) (by omega) (by omega) ?_
  refine va_putF (D := (dC, dI)) (ci := 8) (v := .ref q6) (ty := .object "AddressHouse$Row") (C := R_Filter) (T := F_Filter) (N := 9) hx hb ht i_Filter t_Filter t_Filter_ok n_Filter hown hK hP hD hS 0 rfl rfl 8 (by decide) (ht _ k_307) (fun _ h9 => h9) rfl hin rfl (by decide +kernel) rfl rfl (Nat.le_of_ble_eq_true rfl) d_Filter_init_65 (fun H locs hP hD hS => ?_)
  have hP : va_P (dC, dI) classes [(h0, .inr (8, [.ref a1, .ref a2, .ref q1, .int 0, .ref q2, .int 0, .int 0, .ref q3, .ref q6])), (q3, .inr (0, [.ref q4, .int 0, .int 0])), (q4, .inl (cA5, 3000, .inl (fun _ => 0))), (q6, .inr (0, [.ref q7, .int 0, .int 0])), (q7, .inl (cA8, 6000, .inl (fun _ => 0)))] H := hP
  have hD : va_D A [(h0, .inr (8, [.ref a1, .ref a2, .ref q1, .int 0, .ref q2, .int 0, .int 0, .ref q3, .ref q6])), (q3, .inr (0, [.ref q4, .int 0, .int 0])), (q4, .inl (cA5, 3000, .inl (fun _ => 0))), (q6, .inr (0, [.ref q7, .int 0, .int 0])), (q7, .inl (cA8, 6000, .inl (fun _ => 0)))] := hD
  have hP9 := hP.sub (ws' := [(h0, .inr (8, [.ref a1, .ref a2, .ref q1, .int 0, .ref q2, .int 0, .int 0, .ref q3, .ref q6]))]) [0] rfl
  have hD9 := hD.sub (ws' := [(h0, .inr (8, [.ref a1, .ref a2, .ref q1, .int 0, .ref q2, .int 0, .int 0, .ref q3, .ref q6]))]) [0] (by decide +kernel) rfl
  have hK9 := hK.sub (tys' := []) [] rfl
  exact W.vret hx hb hr (fun t ht9 hW => ⟨⟨(), rfl, trivial, a1, a2, q1, q2, q3, q6, by rw [ht9]; exact hP9, va_K.moved hW.alike hK9, hD9⟩, hS.F ht9⟩) hS.2.2 d_Filter_init_68
set_option maxHeartbeats 4000000 in
set_option maxRecDepth 100000 in
/-- Clerk(house, listing, card, xml) -/
theorem c_Clerk_init (l : Launch) (dC : Nat → ClassId) (dI : Nat → Nat → Nat) (h0 sz a1 a2 a3 a4 : Nat) : Met l y_Clerk_init (Cond.code y_Clerk_init b_Clerk_init 5 none :: xw0) ({ frames := 5, cells := 411, slots := 16821, locals := 130 }) (va_Pc [.ref h0, .ref a1, .ref a2, .ref a3, .ref a4] (fun U => U.heap.size = sz ∧ va_P (dC, dI) classes [(h0, .inr (10, [.int 0, .int 0, .null, .int 0, .null, .null, .null, .null, .null, .null, .null, .null, .int 0, .int 0, .int 0, .int 0, .int 0, .int 0]))] U.heap ∧ va_K (dC, dI) classes [] U ∧ va_D (fun _ => True) [(h0, .inr (10, [.int 0, .int 0, .null, .int 0, .null, .null, .null, .null, .null, .null, .null, .null, .int 0, .int 0, .int 0, .int 0, .int 0, .int 0]))] ∧ xm_K U)) (va_Qv (fun _ : Unit => True) (fun (_ : Unit) (t : State) => ∃ (a1 a2 a3 a4 q1 q8 q11 : Nat) , va_P (dC, dI) classes [(h0, .inr (10, [.int 0, .int 0, .null, .int 0, .ref a1, .ref a2, .ref a3, .ref a4, .ref q1, .ref q8, .ref q11, .null, .int 0, .int 0, .int 0, .int 0, .int 0, .int 0]))] t.heap ∧ va_K (dC, dI) classes [] t ∧ va_D (va_A [(h0, .inr (10, [.int 0, .int 0, .null, .int 0, .null, .null, .null, .null, .null, .null, .null, .null, .int 0, .int 0, .int 0, .int 0, .int 0, .int 0]))] sz) [(h0, .inr (10, [.int 0, .int 0, .null, .int 0, .ref a1, .ref a2, .ref a3, .ref a4, .ref q1, .ref q8, .ref q11, .null, .int 0, .int 0, .int 0, .int 0, .int 0, .int 0]))]) (va_A [(h0, .inr (10, [.int 0, .int 0, .null, .int 0, .null, .null, .null, .null, .null, .null, .null, .null, .int 0, .int 0, .int 0, .int 0, .int 0, .int 0]))] sz)) 411 16821 (va_A [(h0, .inr (10, [.int 0, .int 0, .null, .int 0, .null, .null, .null, .null, .null, .null, .null, .null, .int 0, .int 0, .int 0, .int 0, .int 0, .int 0]))] sz) := by
  refine Met.ofW (cc := b_Clerk_init) (maxL := 5) (ret := none) (by decide) rfl ?_
  intro p e s m args below meth c s₁ B hml hv
  obtain ⟨rfl, hsz, hP, hK, hD0, hO_Z⟩ := hv
  have hx := B.exec
  have hb := B.bytes
  have hr := B.returns
  have hts := atoms_spec (ws := Cond.code y_Clerk_init b_Clerk_init 5 none :: xw0) B.pre
  have ht : ∀ w ∈ xw0, w.before _ s = true := fun w h => hts w (List.mem_cons_of_mem _ h)
  have hown : s.vm.findClass R_Clerk = some m.cls := findClass_of_methodNamed B.named
  have hlocks := B.notSynchronized
  have hin : meth.name = "<init>" := (name_of_methodNamed B.named B.method).1
  subst hsz
  have hD := hD0.self (sz := s.heap.size)
  generalize hAe : va_A [(h0, .inr (10, [.int 0, .int 0, .null, .int 0, .null, .null, .null, .null, .null, .null, .null, .null, .int 0, .int 0, .int 0, .int 0, .int 0, .int 0]))] s.heap.size = A at hD ⊢
  have hA : ∀ q : Nat, s.heap.size ≤ q → A q := fun q h => by rw [← hAe]; exact Or.inr h
  have hS : va_S A s.heap s.heap [] := va_S.rf
  have hP : va_P (dC, dI) classes [(h0, .inr (10, [.int 0, .int 0, .null, .int 0, .null, .null, .null, .null, .null, .null, .null, .null, .int 0, .int 0, .int 0, .int 0, .int 0, .int 0]))] s.heap := hP
  have hl := lv_entry ([.ref h0, .ref a1, .ref a2, .ref a3, .ref a4]) (n := 5) (Nat.le_of_ble_eq_true rfl)
  rw [lg_entry_eq]
  generalize (lg_sl ([.ref h0, .ref a1, .ref a2, .ref a3, .ref a4]) ++ List.replicate (5 - (lg_sl ([.ref h0, .ref a1, .ref a2, .ref a3, .ref a4])).length) Slot.unset).toArray = ls at hl ⊢
  have hl : lv_has ls 5 [(0, .ref h0), (1, .ref a1), (2, .ref a2), (3, .ref a3), (4, .ref a4)] := hl
  refine lv_aload_n hx hb d_Clerk_init_0 rfl (lv_at hl 0 rfl) ?_
  refine W.objInit hx hb hown (ht _ k_292) (ht _ k_21) (ht _ k_22) rfl (by rw [hml]; exact hl.1) rfl d_Clerk_init_1 (Nat.le_of_ble_eq_true rfl) (Nat.le_of_ble_eq_true rfl) ?_
  refine W.eq (g2 := F0 m 4 ls []) rfl ?_
  refine lv_aload_n hx hb d_Clerk_init_4 rfl (lv_at hl 0 rfl) ?_
  refine lv_aload_n hx hb d_Clerk_init_5 rfl (lv_at hl 1 rfl) ?_
  refine va_putF (D := (dC, dI)) (ci := 10) (v := .ref a1) (ty := .object "AddressHouse$House") (C := R_Clerk) (T := F_Clerk) (N := 18) hx hb ht i_Clerk t_Clerk t_Clerk_ok n_Clerk hown hK hP hD hS 0 rfl rfl 4 (by decide) (ht _ k_324) (fun _ h9 => h9) rfl hin rfl (by decide +kernel) rfl rfl (Nat.le_of_ble_eq_true rfl) d_Clerk_init_6 (fun H locs hP hD hS => ?_)
  have hP : va_P (dC, dI) classes [(h0, .inr (10, [.int 0, .int 0, .null, .int 0, .ref a1, .null, .null, .null, .null, .null, .null, .null, .int 0, .int 0, .int 0, .int 0, .int 0, .int 0]))] H := hP
  have hD : va_D A [(h0, .inr (10, [.int 0, .int 0, .null, .int 0, .ref a1, .null, .null, .null, .null, .null, .null, .null, .int 0, .int 0, .int 0, .int 0, .int 0, .int 0]))] := hD
  refine lv_aload_n hx hb d_Clerk_init_9 rfl (lv_at hl 0 rfl) ?_
  refine lv_aload_n hx hb d_Clerk_init_10 rfl (lv_at hl 2 rfl) ?_
  refine va_putF (D := (dC, dI)) (ci := 10) (v := .ref a2) (ty := .object "AddressHouse$Listing") (C := R_Clerk) (T := F_Clerk) (N := 18) hx hb ht i_Clerk t_Clerk t_Clerk_ok n_Clerk hown hK hP hD hS 0 rfl rfl 5 (by decide) (ht _ k_325) (fun _ h9 => h9) rfl hin rfl (by decide +kernel) rfl rfl (Nat.le_of_ble_eq_true rfl) d_Clerk_init_11 (fun H locs hP hD hS => ?_)
  have hP : va_P (dC, dI) classes [(h0, .inr (10, [.int 0, .int 0, .null, .int 0, .ref a1, .ref a2, .null, .null, .null, .null, .null, .null, .int 0, .int 0, .int 0, .int 0, .int 0, .int 0]))] H := hP
  have hD : va_D A [(h0, .inr (10, [.int 0, .int 0, .null, .int 0, .ref a1, .ref a2, .null, .null, .null, .null, .null, .null, .int 0, .int 0, .int 0, .int 0, .int 0, .int 0]))] := hD
  refine lv_aload_n hx hb d_Clerk_init_14 rfl (lv_at hl 0 rfl) ?_
  refine lv_aload_n hx hb d_Clerk_init_15 rfl (lv_at hl 3 rfl) ?_
  refine va_putF (D := (dC, dI)) (ci := 10) (v := .ref a3) (ty := .object "AddressHouse$Card") (C := R_Clerk) (T := F_Clerk) (N := 18) hx hb ht i_Clerk t_Clerk t_Clerk_ok n_Clerk hown hK hP hD hS 0 rfl rfl 6 (by decide) (ht _ k_326) (fun _ h9 => h9) rfl hin rfl (by decide +kernel) rfl rfl (Nat.le_of_ble_eq_true rfl) d_Clerk_init_16 (fun H locs hP hD hS => ?_)
  have hP : va_P (dC, dI) classes [(h0, .inr (10, [.int 0, .int 0, .null, .int 0, .ref a1, .ref a2, .ref a3, .null, .null, .null, .null, .null, .int 0, .int 0, .int 0, .int 0, .int 0, .int 0]))] H := hP
  have hD : va_D A [(h0, .inr (10, [.int 0, .int 0, .null, .int 0, .ref a1, .ref a2, .ref a3, .null, .null, .null, .null, .null, .int 0, .int 0, .int 0, .int 0, .int 0, .int 0]))] := hD
  refine lv_aload_n hx hb d_Clerk_init_19 rfl (lv_at hl 0 rfl) ?_
  refine lv_aload hx hb d_Clerk_init_20 (lv_at hl 4 rfl) ?_
  refine va_putF (D := (dC, dI)) (ci := 10) (v := .ref a4) (ty := .object "AddressHouse$Xml") (C := R_Clerk) (T := F_Clerk) (N := 18) hx hb ht i_Clerk t_Clerk t_Clerk_ok n_Clerk hown hK hP hD hS 0 rfl rfl 7 (by decide) (ht _ k_327) (fun _ h9 => h9) rfl hin rfl (by decide +kernel) rfl rfl (Nat.le_of_ble_eq_true rfl) d_Clerk_init_22 (fun H locs hP hD hS => ?_)
  have hP : va_P (dC, dI) classes [(h0, .inr (10, [.int 0, .int 0, .null, .int 0, .ref a1, .ref a2, .ref a3, .ref a4, .null, .null, .null, .null, .int 0, .int 0, .int 0, .int 0, .int 0, .int 0]))] H := hP
  have hD : va_D A [(h0, .inr (10, [.int 0, .int 0, .null, .int 0, .ref a1, .ref a2, .ref a3, .ref a4, .null, .null, .null, .null, .int 0, .int 0, .int 0, .int 0, .int 0, .int 0]))] := hD
  refine lv_aload_n hx hb d_Clerk_init_25 rfl (lv_at hl 0 rfl) ?_
  refine va_new (ci := 8) (fs := [.null, .null, .null, .int 0, .null, .int 0, .int 0, .null, .null]) (C := R_Filter) (T := F_Filter) (N := 9) hx hb ht i_Filter t_Filter t_Filter_ok hown (ht _ k_293) (ht _ k_294) (ht _ k_12) hK hP hD hS hA rfl (fun j hj => by rcases (show j = 0 ∨ j = 1 ∨ j = 2 ∨ j = 3 ∨ j = 4 ∨ j = 5 ∨ j = 6 ∨ j = 7 ∨ j = 8 by omega) with rfl | rfl | rfl | rfl | rfl | rfl | rfl | rfl | rfl <;> rfl) (Nat.le_of_ble_eq_true rfl) (Nat.le_of_ble_eq_true rfl) d_Clerk_init_26 (fun q1 H hP hD hS => ?_)
  refine W.widen (k := 1) (n := 9) (by omega) (by omega) ?_
  have hP : va_P (dC, dI) classes [(h0, .inr (10, [.int 0, .int 0, .null, .int 0, .ref a1, .ref a2, .ref a3, .ref a4, .null, .null, .null, .null, .int 0, .int 0, .int 0, .int 0, .int 0, .int 0])), (q1, .inr (8, [.null, .null, .null, .int 0, .null, .int 0, .int 0, .null, .null]))] H := hP
  have hD : va_D A [(h0, .inr (10, [.int 0, .int 0, .null, .int 0, .ref a1, .ref a2, .ref a3, .ref a4, .null, .null, .null, .null, .int 0, .int 0, .int 0, .int 0, .int 0, .int 0])), (q1, .inr (8, [.null, .null, .null, .int 0, .null, .int 0, .int 0, .null, .null]))] := hD
  refine lv_dup hx hb d_Clerk_init_29 rfl ?_
  refine lv_aload hx hb d_Clerk_init_30 (lv_at hl 4 rfl) ?_
  refine lv_aload_n hx hb d_Clerk_init_32 rfl (lv_at hl 3 rfl) ?_
  have hPc := hP.sub (ws' := [(q1, .inr (8, [.null, .null, .null, .int 0, .null, .int 0, .int 0, .null, .null]))]) [1] rfl
  have hDc := hD.sub (ws' := [(q1, .inr (8, [.null, .null, .null, .int 0, .null, .int 0, .int 0, .null, .null]))]) [1] (by decide +kernel) rfl
  have hKc := hK.sub (tys' := []) [] rfl
  have hFc := va_free (wc := [(q1, .inr (8, [.null, .null, .null, .int 0, .null, .int 0, .int 0, .null, .null]))]) hD hS hA [1] rfl
  refine va_callv (va_runI (As := [.ref a4, .ref a3]) (rest := [.ref q1, .ref h0]) ⟨hx, hb, hml, hown, ht⟩ (c_Filter_init l dC dI q1 H.size a4 a3) (cwI 2 ht (xw_good k_297) rfl rfl rfl (ht _ k_12) (ht _ k_295) (ht _ k_296) rfl (by decide +kernel) ⟨(Nat.le_of_ble_eq_true rfl), (Nat.le_of_ble_eq_true rfl)⟩) ⟨fun a U g mk q => by obtain ⟨q0, q1, qP, qK, qD, qO_Z⟩ := q; exact ⟨q0, q1, qP, va_K.moved (u := U) (U := U.calling g mk a) (Vm.Alike.refl U.vm) qK, qD, xm_K.moved (u := U) (U := U.calling g mk a) (Vm.Alike.refl U.vm) qO_Z⟩, fun U hU hW => ⟨rfl, by rw [hU], by rw [hU]; exact hPc, va_K.moved hW.alike hKc, hDc.weaken (fun _ _ _ _ => trivial), xm_K.moved hW.alike hO_Z⟩⟩ rfl rfl hl.1 rfl (lv_room (Nat.le_of_ble_eq_true rfl)) d_Clerk_init_33 ⟨(Nat.le_of_ble_eq_true rfl), (Nat.le_of_ble_eq_true rfl)⟩) hS (fun q _ h => hFc q h) hFc (fun u t H1 locs ht9 hvm hw hB hz1 hk1 hS => ?_)
  obtain ⟨q2, q3, q4, q5, q6, q7, hP1, hK1, hD1⟩ := hB
  rw [ht9] at hP1
  have hK1 := va_K.moved hvm.symm hK1
  obtain ⟨hP, hD⟩ := va_join (wr := [(h0, .inr (10, [.int 0, .int 0, .null, .int 0, .ref a1, .ref a2, .ref a3, .ref a4, .null, .null, .null, .null, .int 0, .int 0, .int 0, .int 0, .int 0, .int 0]))]) (w1 := [(q1, .inr (8, [.ref q2, .ref q3, .ref q4, .int 0, .ref q5, .int 0, .int 0, .ref q6, .ref q7]))]) hP hD [1] [0] rfl rfl (by decide +kernel) (by decide +kernel) hk1 hFc hP1 hD1
  have hK := (hK.sub (tys' := []) [] rfl).app hK1
  generalize H1 = H at hP hS ⊢
  have hP : va_P (dC, dI) classes [(h0, .inr (10, [.int 0, .int 0, .null, .int 0, .ref a1, .ref a2, .ref a3, .ref a4, .null, .null, .null, .null, .int 0, .int 0, .int 0, .int 0, .int 0, .int 0])), (q1, .inr (8, [.ref q2, .ref q3, .ref q4, .int 0, .ref q5, .int 0, .int 0, .ref q6, .ref q7]))] H := hP
  have hD : va_D A [(h0, .inr (10, [.int 0, .int 0, .null, .int 0, .ref a1, .ref a2, .ref a3, .ref a4, .null, .null, .null, .null, .int 0, .int 0, .int 0, .int 0, .int 0, .int 0])), (q1, .inr (8, [.ref q2, .ref q3, .ref q4, .int 0, .ref q5, .int 0, .int 0, .ref q6, .ref q7]))] := hD
  have hK : va_K (dC, dI) classes [] s := hK
  refine W.widen (k := 407) (n := 13415) (by omega) (by omega) ?_
  refine va_putF (D := (dC, dI)) (ci := 10) (v := .ref q1) (ty := .object "AddressHouse$Filter") (C := R_Clerk) (T := F_Clerk) (N := 18) hx hb ht i_Clerk t_Clerk t_Clerk_ok n_Clerk hown hK hP hD hS 0 rfl rfl 8 (by decide) (ht _ k_328) (fun _ h9 => h9) rfl hin rfl (by decide +kernel) rfl rfl (Nat.le_of_ble_eq_true rfl) d_Clerk_init_36 (fun H locs hP hD hS => ?_)
  have hP : va_P (dC, dI) classes [(h0, .inr (10, [.int 0, .int 0, .null, .int 0, .ref a1, .ref a2, .ref a3, .ref a4, .ref q1, .null, .null, .null, .int 0, .int 0, .int 0, .int 0, .int 0, .int 0])), (q1, .inr (8, [.ref q2, .ref q3, .ref q4, .int 0, .ref q5, .int 0, .int 0, .ref q6, .ref q7]))] H := hP
  have hD : va_D A [(h0, .inr (10, [.int 0, .int 0, .null, .int 0, .ref a1, .ref a2, .ref a3, .ref a4, .ref q1, .null, .null, .null, .int 0, .int 0, .int 0, .int 0, .int 0, .int 0])), (q1, .inr (8, [.ref q2, .ref q3, .ref q4, .int 0, .ref q5, .int 0, .int 0, .ref q6, .ref q7]))] := hD
  refine lv_aload_n hx hb d_Clerk_init_39 rfl (lv_at hl 0 rfl) ?_
  refine va_new (ci := 0) (fs := [.null, .int 0, .int 0]) (C := R_Row) (T := F_Row) (N := 3) hx hb ht i_Row t_Row t_Row_ok hown (ht _ k_318) (ht _ k_24) (ht _ k_2) hK hP hD hS hA rfl (fun j hj => by rcases (show j = 0 ∨ j = 1 ∨ j = 2 by omega) with rfl | rfl | rfl <;> rfl) (Nat.le_of_ble_eq_true rfl) (Nat.le_of_ble_eq_true rfl) d_Clerk_init_40 (fun q8 H hP hD hS => ?_)
  refine W.widen (k := 408) (n := 13418) (by omega) (by omega) ?_
  have hP : va_P (dC, dI) classes [(h0, .inr (10, [.int 0, .int 0, .null, .int 0, .ref a1, .ref a2, .ref a3, .ref a4, .ref q1, .null, .null, .null, .int 0, .int 0, .int 0, .int 0, .int 0, .int 0])), (q1, .inr (8, [.ref q2, .ref q3, .ref q4, .int 0, .ref q5, .int 0, .int 0, .ref q6, .ref q7])), (q8, .inr (0, [.null, .int 0, .int 0]))] H := hP
  have hD : va_D A [(h0, .inr (10, [.int 0, .int 0, .null, .int 0, .ref a1, .ref a2, .ref a3, .ref a4, .ref q1, .null, .null, .null, .int 0, .int 0, .int 0, .int 0, .int 0, .int 0])), (q1, .inr (8, [.ref q2, .ref q3, .ref q4, .int 0, .ref q5, .int 0, .int 0, .ref q6, .ref q7])), (q8, .inr (0, [.null, .int 0, .int 0]))] := hD
  refine lv_dup hx hb d_Clerk_init_43 rfl ?_
  refine lv_sipush (v := (nI 400)) hx hb d_Clerk_init_44 (by decide) ?_
  have hPc := hP.sub (ws' := [(q8, .inr (0, [.null, .int 0, .int 0]))]) [2] rfl
  have hDc := hD.sub (ws' := [(q8, .inr (0, [.null, .int 0, .int 0]))]) [2] (by decide +kernel) rfl
  have hKc := hK.sub (tys' := []) [] rfl
  have hFc := va_free (wc := [(q8, .inr (0, [.null, .int 0, .int 0]))]) hD hS hA [2] rfl
  refine va_callv (va_runI (As := [.int (nI 400)]) (rest := [.ref q8, .ref h0]) ⟨hx, hb, hml, hown, ht⟩ (c_Row_init l dC dI q8 H.size 400 (by decide) (by decide)) (cwI 1 ht (xw_good k_27) rfl rfl rfl (ht _ k_2) (ht _ k_319) (ht _ k_26) rfl (by decide +kernel) ⟨(Nat.le_of_ble_eq_true rfl), (Nat.le_of_ble_eq_true rfl)⟩) ⟨fun a U g mk q => by obtain ⟨q0, q1, qP, qK, qD⟩ := q; exact ⟨q0, q1, qP, va_K.moved (u := U) (U := U.calling g mk a) (Vm.Alike.refl U.vm) qK, qD⟩, fun U hU hW => ⟨rfl, by rw [hU], by rw [hU]; exact hPc, va_K.moved hW.alike hKc, hDc.weaken (fun _ _ _ _ => trivial)⟩⟩ rfl rfl hl.1 rfl (lv_room (Nat.le_of_ble_eq_true rfl)) d_Clerk_init_47 ⟨(Nat.le_of_ble_eq_true rfl), (Nat.le_of_ble_eq_true rfl)⟩) hS (fun q _ h => hFc q h) hFc (fun u t H1 locs ht9 hvm hw hB hz1 hk1 hS => ?_)
  obtain ⟨q9, cA10, hP1, hK1, hD1⟩ := hB
  rw [ht9] at hP1
  have hK1 := va_K.moved hvm.symm hK1
  obtain ⟨hP, hD⟩ := va_join (wr := [(h0, .inr (10, [.int 0, .int 0, .null, .int 0, .ref a1, .ref a2, .ref a3, .ref a4, .ref q1, .null, .null, .null, .int 0, .int 0, .int 0, .int 0, .int 0, .int 0])), (q1, .inr (8, [.ref q2, .ref q3, .ref q4, .int 0, .ref q5, .int 0, .int 0, .ref q6, .ref q7]))]) (w1 := [(q8, .inr (0, [.ref q9, .int 0, .int 0])), (q9, .inl (cA10, 400, .inl (fun _ => 0)))]) hP hD [2] [0, 1] rfl rfl (by decide +kernel) (by decide +kernel) hk1 hFc hP1 hD1
  have hK := (hK.sub (tys' := []) [] rfl).app hK1
  generalize H1 = H at hP hS ⊢
  have hP : va_P (dC, dI) classes [(h0, .inr (10, [.int 0, .int 0, .null, .int 0, .ref a1, .ref a2, .ref a3, .ref a4, .ref q1, .null, .null, .null, .int 0, .int 0, .int 0, .int 0, .int 0, .int 0])), (q1, .inr (8, [.ref q2, .ref q3, .ref q4, .int 0, .ref q5, .int 0, .int 0, .ref q6, .ref q7])), (q8, .inr (0, [.ref q9, .int 0, .int 0])), (q9, .inl (cA10, 400, .inl (fun _ => 0)))] H := hP
  have hD : va_D A [(h0, .inr (10, [.int 0, .int 0, .null, .int 0, .ref a1, .ref a2, .ref a3, .ref a4, .ref q1, .null, .null, .null, .int 0, .int 0, .int 0, .int 0, .int 0, .int 0])), (q1, .inr (8, [.ref q2, .ref q3, .ref q4, .int 0, .ref q5, .int 0, .int 0, .ref q6, .ref q7])), (q8, .inr (0, [.ref q9, .int 0, .int 0])), (q9, .inl (cA10, 400, .inl (fun _ => 0)))] := hD
  have hK : va_K (dC, dI) classes [(cA10, .byte)] s := hK
  refine W.widen (k := 409) (n := 13818) (by omega) (by omega) ?_
  refine va_putF (D := (dC, dI)) (ci := 10) (v := .ref q8) (ty := .object "AddressHouse$Row") (C := R_Clerk) (T := F_Clerk) (N := 18) hx hb ht i_Clerk t_Clerk t_Clerk_ok n_Clerk hown hK hP hD hS 0 rfl rfl 9 (by decide) (ht _ k_329) (fun _ h9 => h9) rfl hin rfl (by decide +kernel) rfl rfl (Nat.le_of_ble_eq_true rfl) d_Clerk_init_50 (fun H locs hP hD hS => ?_)
  have hP : va_P (dC, dI) classes [(h0, .inr (10, [.int 0, .int 0, .null, .int 0, .ref a1, .ref a2, .ref a3, .ref a4, .ref q1, .ref q8, .null, .null, .int 0, .int 0, .int 0, .int 0, .int 0, .int 0])), (q1, .inr (8, [.ref q2, .ref q3, .ref q4, .int 0, .ref q5, .int 0, .int 0, .ref q6, .ref q7])), (q8, .inr (0, [.ref q9, .int 0, .int 0])), (q9, .inl (cA10, 400, .inl (fun _ => 0)))] H := hP
  have hD : va_D A [(h0, .inr (10, [.int 0, .int 0, .null, .int 0, .ref a1, .ref a2, .ref a3, .ref a4, .ref q1, .ref q8, .null, .null, .int 0, .int 0, .int 0, .int 0, .int 0, .int 0])), (q1, .inr (8, [.ref q2, .ref q3, .ref q4, .int 0, .ref q5, .int 0, .int 0, .ref q6, .ref q7])), (q8, .inr (0, [.ref q9, .int 0, .int 0])), (q9, .inl (cA10, 400, .inl (fun _ => 0)))] := hD
  refine lv_aload_n hx hb d_Clerk_init_53 rfl (lv_at hl 0 rfl) ?_
  refine va_new (ci := 0) (fs := [.null, .int 0, .int 0]) (C := R_Row) (T := F_Row) (N := 3) hx hb ht i_Row t_Row t_Row_ok hown (ht _ k_318) (ht _ k_24) (ht _ k_2) hK hP hD hS hA rfl (fun j hj => by rcases (show j = 0 ∨ j = 1 ∨ j = 2 by omega) with rfl | rfl | rfl <;> rfl) (Nat.le_of_ble_eq_true rfl) (Nat.le_of_ble_eq_true rfl) d_Clerk_init_54 (fun q11 H hP hD hS => ?_)
  refine W.widen (k := 410) (n := 13821) (by omega) (by omega) ?_
  have hP : va_P (dC, dI) classes [(h0, .inr (10, [.int 0, .int 0, .null, .int 0, .ref a1, .ref a2, .ref a3, .ref a4, .ref q1, .ref q8, .null, .null, .int 0, .int 0, .int 0, .int 0, .int 0, .int 0])), (q1, .inr (8, [.ref q2, .ref q3, .ref q4, .int 0, .ref q5, .int 0, .int 0, .ref q6, .ref q7])), (q8, .inr (0, [.ref q9, .int 0, .int 0])), (q9, .inl (cA10, 400, .inl (fun _ => 0))), (q11, .inr (0, [.null, .int 0, .int 0]))] H := hP
  have hD : va_D A [(h0, .inr (10, [.int 0, .int 0, .null, .int 0, .ref a1, .ref a2, .ref a3, .ref a4, .ref q1, .ref q8, .null, .null, .int 0, .int 0, .int 0, .int 0, .int 0, .int 0])), (q1, .inr (8, [.ref q2, .ref q3, .ref q4, .int 0, .ref q5, .int 0, .int 0, .ref q6, .ref q7])), (q8, .inr (0, [.ref q9, .int 0, .int 0])), (q9, .inl (cA10, 400, .inl (fun _ => 0))), (q11, .inr (0, [.null, .int 0, .int 0]))] := hD
  refine lv_dup hx hb d_Clerk_init_57 rfl ?_
  refine lv_sipush (v := (nI 3000)) hx hb d_Clerk_init_58 (by decide) ?_
  have hPc := hP.sub (ws' := [(q11, .inr (0, [.null, .int 0, .int 0]))]) [4] rfl
  have hDc := hD.sub (ws' := [(q11, .inr (0, [.null, .int 0, .int 0]))]) [4] (by decide +kernel) rfl
  have hKc := hK.sub (tys' := []) [] rfl
  have hFc := va_free (wc := [(q11, .inr (0, [.null, .int 0, .int 0]))]) hD hS hA [4] rfl
  refine va_callv (va_runI (As := [.int (nI 3000)]) (rest := [.ref q11, .ref h0]) ⟨hx, hb, hml, hown, ht⟩ (c_Row_init l dC dI q11 H.size 3000 (by decide) (by decide)) (cwI 1 ht (xw_good k_27) rfl rfl rfl (ht _ k_2) (ht _ k_319) (ht _ k_26) rfl (by decide +kernel) ⟨(Nat.le_of_ble_eq_true rfl), (Nat.le_of_ble_eq_true rfl)⟩) ⟨fun a U g mk q => by obtain ⟨q0, q1, qP, qK, qD⟩ := q; exact ⟨q0, q1, qP, va_K.moved (u := U) (U := U.calling g mk a) (Vm.Alike.refl U.vm) qK, qD⟩, fun U hU hW => ⟨rfl, by rw [hU], by rw [hU]; exact hPc, va_K.moved hW.alike hKc, hDc.weaken (fun _ _ _ _ => trivial)⟩⟩ rfl rfl hl.1 rfl (lv_room (Nat.le_of_ble_eq_true rfl)) d_Clerk_init_61 ⟨(Nat.le_of_ble_eq_true rfl), (Nat.le_of_ble_eq_true rfl)⟩) hS (fun q _ h => hFc q h) hFc (fun u t H1 locs ht9 hvm hw hB hz1 hk1 hS => ?_)
  obtain ⟨q12, cA13, hP1, hK1, hD1⟩ := hB
  rw [ht9] at hP1
  have hK1 := va_K.moved hvm.symm hK1
  obtain ⟨hP, hD⟩ := va_join (wr := [(h0, .inr (10, [.int 0, .int 0, .null, .int 0, .ref a1, .ref a2, .ref a3, .ref a4, .ref q1, .ref q8, .null, .null, .int 0, .int 0, .int 0, .int 0, .int 0, .int 0])), (q1, .inr (8, [.ref q2, .ref q3, .ref q4, .int 0, .ref q5, .int 0, .int 0, .ref q6, .ref q7])), (q8, .inr (0, [.ref q9, .int 0, .int 0])), (q9, .inl (cA10, 400, .inl (fun _ => 0)))]) (w1 := [(q11, .inr (0, [.ref q12, .int 0, .int 0])), (q12, .inl (cA13, 3000, .inl (fun _ => 0)))]) hP hD [4] [0, 1, 2, 3] rfl rfl (by decide +kernel) (by decide +kernel) hk1 hFc hP1 hD1
  have hK := (hK.sub (tys' := [(cA10, .byte)]) [0] rfl).app hK1
  generalize H1 = H at hP hS ⊢
  have hP : va_P (dC, dI) classes [(h0, .inr (10, [.int 0, .int 0, .null, .int 0, .ref a1, .ref a2, .ref a3, .ref a4, .ref q1, .ref q8, .null, .null, .int 0, .int 0, .int 0, .int 0, .int 0, .int 0])), (q1, .inr (8, [.ref q2, .ref q3, .ref q4, .int 0, .ref q5, .int 0, .int 0, .ref q6, .ref q7])), (q8, .inr (0, [.ref q9, .int 0, .int 0])), (q9, .inl (cA10, 400, .inl (fun _ => 0))), (q11, .inr (0, [.ref q12, .int 0, .int 0])), (q12, .inl (cA13, 3000, .inl (fun _ => 0)))] H := hP
  have hD : va_D A [(h0, .inr (10, [.int 0, .int 0, .null, .int 0, .ref a1, .ref a2, .ref a3, .ref a4, .ref q1, .ref q8, .null, .null, .int 0, .int 0, .int 0, .int 0, .int 0, .int 0])), (q1, .inr (8, [.ref q2, .ref q3, .ref q4, .int 0, .ref q5, .int 0, .int 0, .ref q6, .ref q7])), (q8, .inr (0, [.ref q9, .int 0, .int 0])), (q9, .inl (cA10, 400, .inl (fun _ => 0))), (q11, .inr (0, [.ref q12, .int 0, .int 0])), (q12, .inl (cA13, 3000, .inl (fun _ => 0)))] := hD
  have hK : va_K (dC, dI) classes [(cA10, .byte), (cA13, .byte)] s := hK
  refine W.widen (k := 411) (n := 16821) (by omega) (by omega) ?_
  refine va_putF (D := (dC, dI)) (ci := 10) (v := .ref q11) (ty := .object "AddressHouse$Row") (C := R_Clerk) (T := F_Clerk) (N := 18) hx hb ht i_Clerk t_Clerk t_Clerk_ok n_Clerk hown hK hP hD hS 0 rfl rfl 10 (by decide) (ht _ k_330) (fun _ h9 => h9) rfl hin rfl (by decide +kernel) rfl rfl (Nat.le_of_ble_eq_true rfl) d_Clerk_init_64 (fun H locs hP hD hS => ?_)
  have hP : va_P (dC, dI) classes [(h0, .inr (10, [.int 0, .int 0, .null, .int 0, .ref a1, .ref a2, .ref a3, .ref a4, .ref q1, .ref q8, .ref q11, .null, .int 0, .int 0, .int 0, .int 0, .int 0, .int 0])), (q1, .inr (8, [.ref q2, .ref q3, .ref q4, .int 0, .ref q5, .int 0, .int 0, .ref q6, .ref q7])), (q8, .inr (0, [.ref q9, .int 0, .int 0])), (q9, .inl (cA10, 400, .inl (fun _ => 0))), (q11, .inr (0, [.ref q12, .int 0, .int 0])), (q12, .inl (cA13, 3000, .inl (fun _ => 0)))] H := hP
  have hD : va_D A [(h0, .inr (10, [.int 0, .int 0, .null, .int 0, .ref a1, .ref a2, .ref a3, .ref a4, .ref q1, .ref q8, .ref q11, .null, .int 0, .int 0, .int 0, .int 0, .int 0, .int 0])), (q1, .inr (8, [.ref q2, .ref q3, .ref q4, .int 0, .ref q5, .int 0, .int 0, .ref q6, .ref q7])), (q8, .inr (0, [.ref q9, .int 0, .int 0])), (q9, .inl (cA10, 400, .inl (fun _ => 0))), (q11, .inr (0, [.ref q12, .int 0, .int 0])), (q12, .inl (cA13, 3000, .inl (fun _ => 0)))] := hD
  have hP9 := hP.sub (ws' := [(h0, .inr (10, [.int 0, .int 0, .null, .int 0, .ref a1, .ref a2, .ref a3, .ref a4, .ref q1, .ref q8, .ref q11, .null, .int 0, .int 0, .int 0, .int 0, .int 0, .int 0]))]) [0] rfl
  have hD9 := hD.sub (ws' := [(h0, .inr (10, [.int 0, .int 0, .null, .int 0, .ref a1, .ref a2, .ref a3, .ref a4, .ref q1, .ref q8, .ref q11, .null, .int 0, .int 0, .int 0, .int 0, .int 0, .int 0]))]) [0] (by decide +kernel) rfl
  have hK9 := hK.sub (tys' := []) [] rfl
  exact W.vret hx hb hr (fun t ht9 hW => ⟨⟨(), rfl, trivial, a1, a2, a3, a4, q1, q8, q11, by rw [ht9]; exact hP9, va_K.moved hW.alike hK9, hD9⟩, hS.F ht9⟩) hS.2.2 d_Clerk_init_67
