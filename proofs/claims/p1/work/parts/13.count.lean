def xc (n : Int32) : Int32 := if n = 1 then 0 else if n = 2 then 0 else if n = 0 then 0 else -1
theorem xh_tab {w : Int32} (h0 : ¬ w = 0) (h1 : ¬ w = 1) (h2 : ¬ w = 2) : w.toInt < 0 ∨ 2 < w.toInt := by
  refine Classical.byContradiction fun h => ?_
  have e : w.toInt = 0 ∨ w.toInt = 1 ∨ w.toInt = 2 := by omega
  rcases e with e | e | e
  · exact h0 (Int32.toInt_inj.mp e)
  · exact h1 (Int32.toInt_inj.mp e)
  · exact h2 (Int32.toInt_inj.mp e)
theorem d_Top_count_0 : decode b_Top_count 0 = .ok (.iload_n 1, 1) := by decide +kernel
theorem d_Top_count_1 : decode b_Top_count 1 = .ok (.tableswitch 51 0 2 #[27, 35, 43], 27) := by decide +kernel
theorem d_Top_count_28 : decode b_Top_count 28 = .ok (.aload_n 0, 1) := by decide +kernel
theorem d_Top_count_29 : decode b_Top_count 29 = .ok (.getfield 32, 3) := by decide +kernel
theorem d_Top_count_32 : decode b_Top_count 32 = .ok (.invokevirtual 195, 3) := by decide +kernel
theorem d_Top_count_35 : decode b_Top_count 35 = .ok (.ireturn, 1) := by decide +kernel
theorem d_Top_count_36 : decode b_Top_count 36 = .ok (.aload_n 0, 1) := by decide +kernel
theorem d_Top_count_37 : decode b_Top_count 37 = .ok (.getfield 32, 3) := by decide +kernel
theorem d_Top_count_40 : decode b_Top_count 40 = .ok (.invokevirtual 199, 3) := by decide +kernel
theorem d_Top_count_43 : decode b_Top_count 43 = .ok (.ireturn, 1) := by decide +kernel
theorem d_Top_count_44 : decode b_Top_count 44 = .ok (.aload_n 0, 1) := by decide +kernel
theorem d_Top_count_45 : decode b_Top_count 45 = .ok (.getfield 32, 3) := by decide +kernel
theorem d_Top_count_48 : decode b_Top_count 48 = .ok (.getfield 202, 3) := by decide +kernel
theorem d_Top_count_51 : decode b_Top_count 51 = .ok (.ireturn, 1) := by decide +kernel
theorem d_Top_count_52 : decode b_Top_count 52 = .ok (.iconst (-1), 1) := by decide +kernel
theorem d_Top_count_53 : decode b_Top_count 53 = .ok (.ireturn, 1) := by decide +kernel
theorem d_House_bookCount_0 : decode b_House_bookCount 0 = .ok (.iconst 0, 1) := by decide +kernel
theorem d_House_bookCount_1 : decode b_House_bookCount 1 = .ok (.istore_n 1, 1) := by decide +kernel
theorem d_House_bookCount_2 : decode b_House_bookCount 2 = .ok (.iconst 0, 1) := by decide +kernel
theorem d_House_bookCount_3 : decode b_House_bookCount 3 = .ok (.istore_n 2, 1) := by decide +kernel
theorem d_House_bookCount_4 : decode b_House_bookCount 4 = .ok (.iload_n 2, 1) := by decide +kernel
theorem d_House_bookCount_5 : decode b_House_bookCount 5 = .ok (.bipush 6, 2) := by decide +kernel
theorem d_House_bookCount_7 : decode b_House_bookCount 7 = .ok (.if_icmp .ge 25, 3) := by decide +kernel
theorem d_House_bookCount_10 : decode b_House_bookCount 10 = .ok (.aload_n 0, 1) := by decide +kernel
theorem d_House_bookCount_11 : decode b_House_bookCount 11 = .ok (.getfield 26, 3) := by decide +kernel
theorem d_House_bookCount_14 : decode b_House_bookCount 14 = .ok (.iload_n 2, 1) := by decide +kernel
theorem d_House_bookCount_15 : decode b_House_bookCount 15 = .ok (.aaload, 1) := by decide +kernel
theorem d_House_bookCount_16 : decode b_House_bookCount 16 = .ok (.getfield 162, 3) := by decide +kernel
theorem d_House_bookCount_19 : decode b_House_bookCount 19 = .ok (.iconst (-1), 1) := by decide +kernel
theorem d_House_bookCount_20 : decode b_House_bookCount 20 = .ok (.if_icmp .eq 6, 3) := by decide +kernel
theorem d_House_bookCount_26 : decode b_House_bookCount 26 = .ok (.iinc 2 1, 3) := by decide +kernel
theorem d_House_bookCount_29 : decode b_House_bookCount 29 = .ok (.goto (-25), 3) := by decide +kernel
theorem d_House_bookCount_32 : decode b_House_bookCount 32 = .ok (.iload_n 1, 1) := by decide +kernel
theorem d_House_bookCount_33 : decode b_House_bookCount 33 = .ok (.ireturn, 1) := by decide +kernel
theorem d_House_itemCount_0 : decode b_House_itemCount 0 = .ok (.iconst 0, 1) := by decide +kernel
theorem d_House_itemCount_1 : decode b_House_itemCount 1 = .ok (.istore_n 1, 1) := by decide +kernel
theorem d_House_itemCount_2 : decode b_House_itemCount 2 = .ok (.iconst 0, 1) := by decide +kernel
theorem d_House_itemCount_3 : decode b_House_itemCount 3 = .ok (.istore_n 2, 1) := by decide +kernel
theorem d_House_itemCount_4 : decode b_House_itemCount 4 = .ok (.iload_n 2, 1) := by decide +kernel
theorem d_House_itemCount_5 : decode b_House_itemCount 5 = .ok (.bipush 16, 2) := by decide +kernel
theorem d_House_itemCount_7 : decode b_House_itemCount 7 = .ok (.if_icmp .ge 25, 3) := by decide +kernel
theorem d_House_itemCount_10 : decode b_House_itemCount 10 = .ok (.aload_n 0, 1) := by decide +kernel
theorem d_House_itemCount_11 : decode b_House_itemCount 11 = .ok (.getfield 33, 3) := by decide +kernel
theorem d_House_itemCount_14 : decode b_House_itemCount 14 = .ok (.iload_n 2, 1) := by decide +kernel
theorem d_House_itemCount_15 : decode b_House_itemCount 15 = .ok (.aaload, 1) := by decide +kernel
theorem d_House_itemCount_16 : decode b_House_itemCount 16 = .ok (.getfield 166, 3) := by decide +kernel
theorem d_House_itemCount_19 : decode b_House_itemCount 19 = .ok (.iconst (-1), 1) := by decide +kernel
theorem d_House_itemCount_20 : decode b_House_itemCount 20 = .ok (.if_icmp .eq 6, 3) := by decide +kernel
theorem d_House_itemCount_26 : decode b_House_itemCount 26 = .ok (.iinc 2 1, 3) := by decide +kernel
theorem d_House_itemCount_29 : decode b_House_itemCount 29 = .ok (.goto (-25), 3) := by decide +kernel
theorem d_House_itemCount_32 : decode b_House_itemCount 32 = .ok (.iload_n 1, 1) := by decide +kernel
theorem d_House_itemCount_33 : decode b_House_itemCount 33 = .ok (.ireturn, 1) := by decide +kernel
set_option maxHeartbeats 4000000 in
set_option maxRecDepth 100000 in
/-- bookCount of a new house: 0 -/
theorem c_House_bookCount0 (l : Launch) (dC : Nat → ClassId) (dI : Nat → Nat → Nat) (h0 sz qb b0 b1 b2 b3 b4 b5 : Nat) (cA : ClassId) (v1 v2 : Value) : Met l y_House_bookCount (Cond.code y_House_bookCount b_House_bookCount 3 (Option.some Jvm.ClassFile.FieldType.int) :: xw0) ({ frames := 0, cells := 0, slots := 0, locals := 0 }) (va_Pc [.ref h0] (fun U => U.heap.size = sz ∧ va_P (dC, dI) classes [(h0, .inr (17, [.ref qb, v1, v2])), (qb, .inl (cA, 6, .inr (.inr (.inr (.inr (va_up (va_up (va_up (va_up (va_up (va_up (fun _ => none) 0 (some b0)) 1 (some b1)) 2 (some b2)) 3 (some b3)) 4 (some b4)) 5 (some b5))))))), (b0, .inr (14, [.int (-1)])), (b1, .inr (14, [.int (-1)])), (b2, .inr (14, [.int (-1)])), (b3, .inr (14, [.int (-1)])), (b4, .inr (14, [.int (-1)])), (b5, .inr (14, [.int (-1)]))] U.heap ∧ va_K (dC, dI) classes [(cA, .object R_Book)] U ∧ va_D (fun _ => True) [(h0, .inr (17, [.ref qb, v1, v2])), (qb, .inl (cA, 6, .inr (.inr (.inr (.inr (va_up (va_up (va_up (va_up (va_up (va_up (fun _ => none) 0 (some b0)) 1 (some b1)) 2 (some b2)) 3 (some b3)) 4 (some b4)) 5 (some b5))))))), (b0, .inr (14, [.int (-1)])), (b1, .inr (14, [.int (-1)])), (b2, .inr (14, [.int (-1)])), (b3, .inr (14, [.int (-1)])), (b4, .inr (14, [.int (-1)])), (b5, .inr (14, [.int (-1)]))])) (va_Qi (fun (r : Int32) (_ : Unit) => r = 0) (fun (_ : Unit) (t : State) => va_P (dC, dI) classes [] t.heap ∧ va_K (dC, dI) classes [] t ∧ va_D (va_A [(h0, .inr (17, [.ref qb, v1, v2])), (qb, .inl (cA, 6, .inr (.inr (.inr (.inr (va_up (va_up (va_up (va_up (va_up (va_up (fun _ => none) 0 (some b0)) 1 (some b1)) 2 (some b2)) 3 (some b3)) 4 (some b4)) 5 (some b5))))))), (b0, .inr (14, [.int (-1)])), (b1, .inr (14, [.int (-1)])), (b2, .inr (14, [.int (-1)])), (b3, .inr (14, [.int (-1)])), (b4, .inr (14, [.int (-1)])), (b5, .inr (14, [.int (-1)]))] sz) []) (va_A [(h0, .inr (17, [.ref qb, v1, v2])), (qb, .inl (cA, 6, .inr (.inr (.inr (.inr (va_up (va_up (va_up (va_up (va_up (va_up (fun _ => none) 0 (some b0)) 1 (some b1)) 2 (some b2)) 3 (some b3)) 4 (some b4)) 5 (some b5))))))), (b0, .inr (14, [.int (-1)])), (b1, .inr (14, [.int (-1)])), (b2, .inr (14, [.int (-1)])), (b3, .inr (14, [.int (-1)])), (b4, .inr (14, [.int (-1)])), (b5, .inr (14, [.int (-1)]))] sz)) 0 0 (va_A [(h0, .inr (17, [.ref qb, v1, v2])), (qb, .inl (cA, 6, .inr (.inr (.inr (.inr (va_up (va_up (va_up (va_up (va_up (va_up (fun _ => none) 0 (some b0)) 1 (some b1)) 2 (some b2)) 3 (some b3)) 4 (some b4)) 5 (some b5))))))), (b0, .inr (14, [.int (-1)])), (b1, .inr (14, [.int (-1)])), (b2, .inr (14, [.int (-1)])), (b3, .inr (14, [.int (-1)])), (b4, .inr (14, [.int (-1)])), (b5, .inr (14, [.int (-1)]))] sz) := by
  refine Met.ofW (cc := b_House_bookCount) (maxL := 3) (ret := (Option.some Jvm.ClassFile.FieldType.int)) (by decide) rfl ?_
  intro p e s m args below meth c s₁ B hml hv
  obtain ⟨rfl, hsz, hP, hK, hD0⟩ := hv
  have hx := B.exec
  have hb := B.bytes
  have hr := B.returns
  have hts := atoms_spec (ws := Cond.code y_House_bookCount b_House_bookCount 3 (Option.some Jvm.ClassFile.FieldType.int) :: xw0) B.pre
  have ht : ∀ w ∈ xw0, w.before _ s = true := fun w h => hts w (List.mem_cons_of_mem _ h)
  have hown : s.vm.findClass R_House = some m.cls := findClass_of_methodNamed B.named
  have hlocks := B.notSynchronized
  subst hsz
  have hD := hD0.self (sz := s.heap.size)
  generalize hAe : va_A [(h0, .inr (17, [.ref qb, v1, v2])), (qb, .inl (cA, 6, .inr (.inr (.inr (.inr (va_up (va_up (va_up (va_up (va_up (va_up (fun _ => none) 0 (some b0)) 1 (some b1)) 2 (some b2)) 3 (some b3)) 4 (some b4)) 5 (some b5))))))), (b0, .inr (14, [.int (-1)])), (b1, .inr (14, [.int (-1)])), (b2, .inr (14, [.int (-1)])), (b3, .inr (14, [.int (-1)])), (b4, .inr (14, [.int (-1)])), (b5, .inr (14, [.int (-1)]))] s.heap.size = A at hD ⊢
  have hA : ∀ q : Nat, s.heap.size ≤ q → A q := fun q h => by rw [← hAe]; exact Or.inr h
  have hS : va_S A s.heap s.heap [] := va_S.rf
  have hP : va_P (dC, dI) classes [(h0, .inr (17, [.ref qb, v1, v2])), (qb, .inl (cA, 6, .inr (.inr (.inr (.inr (va_up (va_up (va_up (va_up (va_up (va_up (fun _ => none) 0 (some b0)) 1 (some b1)) 2 (some b2)) 3 (some b3)) 4 (some b4)) 5 (some b5))))))), (b0, .inr (14, [.int (-1)])), (b1, .inr (14, [.int (-1)])), (b2, .inr (14, [.int (-1)])), (b3, .inr (14, [.int (-1)])), (b4, .inr (14, [.int (-1)])), (b5, .inr (14, [.int (-1)]))] s.heap := hP
  have hl := lv_entry ([.ref h0]) (n := 3) (Nat.le_of_ble_eq_true rfl)
  rw [lg_entry_eq]
  generalize (lg_sl ([.ref h0]) ++ List.replicate (3 - (lg_sl ([.ref h0])).length) Slot.unset).toArray = ls at hl ⊢
  have hl : lv_has ls 3 [(0, .ref h0)] := hl
  refine lv_iconst (v := (nI 0)) hx hb d_House_bookCount_0 (by decide) ?_
  refine lv_istore_n (lv' := [(1, .int (nI 0)), (0, .ref h0)]) hx hb d_House_bookCount_1 rfl hl (by decide) rfl (fun ls hl => ?_)
  refine lv_iconst (v := (nI 0)) hx hb d_House_bookCount_2 (by decide) ?_
  refine lv_istore_n (lv' := [(2, .int (nI 0)), (1, .int (nI 0)), (0, .ref h0)]) hx hb d_House_bookCount_3 rfl hl (by decide) rfl (fun ls hl => ?_)
  refine lv_iload_n hx hb d_House_bookCount_4 rfl (lv_at hl 0 rfl) ?_
  refine lv_bipush (v := (nI 6)) hx hb d_House_bookCount_5 (by decide) ?_
  refine lv_icmp_ge (tgt := 32) hx hb d_House_bookCount_7 (by decide) (fun c_7 => absurd c_7 (by decide)) (fun _ => ?_)
  refine lv_aload_n hx hb d_House_bookCount_10 rfl (lv_at hl 2 rfl) ?_
  refine va_get (D := (dC, dI)) (ci := 17) (v := .ref qb) (C := R_House) (T := F_HouseS) (N := 3) hx hb ht i_HouseS hown hK hP 0 rfl rfl 0 (by decide) (ht _ k_130) (fun _ h9 => h9) rfl d_House_bookCount_11 ?_
  refine lv_iload_n hx hb d_House_bookCount_14 rfl (lv_at hl 0 rfl) ?_
  refine va_aldq hx hb hK hP 1 0 rfl rfl (vp_in_nI (by decide) (by decide)) d_House_bookCount_15 ?_
  refine xw_topv (.ref b0) (by rw [nI_clamp (by decide)]; rfl) ?_
  refine va_get (D := (dC, dI)) (ci := 14) (v := .int (-1)) (C := R_Book) (T := F_BookS) (N := 1) hx hb ht i_BookS hown hK hP 2 rfl rfl 0 (by decide) (ht _ k_87) (fun _ h9 => h9) rfl d_House_bookCount_16 ?_
  refine lv_iconst (v := (-1)) hx hb d_House_bookCount_19 (by decide) ?_
  refine lv_icmp_eq (tgt := 26) hx hb d_House_bookCount_20 (by decide) (fun _ => ?_) (fun c_20_0 => absurd (by decide) c_20_0)
  refine lv_iinc (v := (nI 1)) (lv' := [(2, .int (nI 1)), (1, .int (nI 0)), (0, .ref h0)]) hx hb d_House_bookCount_26 hl (k := 0) rfl (by decide) (by decide) rfl (fun ls hl => ?_)
  refine lv_goto (tgt := 4) hx hb d_House_bookCount_29 (by decide) ?_
  refine lv_iload_n hx hb d_House_bookCount_4 rfl (lv_at hl 0 rfl) ?_
  refine lv_bipush (v := (nI 6)) hx hb d_House_bookCount_5 (by decide) ?_
  refine lv_icmp_ge (tgt := 32) hx hb d_House_bookCount_7 (by decide) (fun c_7 => absurd c_7 (by decide)) (fun _ => ?_)
  refine lv_aload_n hx hb d_House_bookCount_10 rfl (lv_at hl 2 rfl) ?_
  refine va_get (D := (dC, dI)) (ci := 17) (v := .ref qb) (C := R_House) (T := F_HouseS) (N := 3) hx hb ht i_HouseS hown hK hP 0 rfl rfl 0 (by decide) (ht _ k_130) (fun _ h9 => h9) rfl d_House_bookCount_11 ?_
  refine lv_iload_n hx hb d_House_bookCount_14 rfl (lv_at hl 0 rfl) ?_
  refine va_aldq hx hb hK hP 1 0 rfl rfl (vp_in_nI (by decide) (by decide)) d_House_bookCount_15 ?_
  refine xw_topv (.ref b1) (by rw [nI_clamp (by decide)]; rfl) ?_
  refine va_get (D := (dC, dI)) (ci := 14) (v := .int (-1)) (C := R_Book) (T := F_BookS) (N := 1) hx hb ht i_BookS hown hK hP 3 rfl rfl 0 (by decide) (ht _ k_87) (fun _ h9 => h9) rfl d_House_bookCount_16 ?_
  refine lv_iconst (v := (-1)) hx hb d_House_bookCount_19 (by decide) ?_
  refine lv_icmp_eq (tgt := 26) hx hb d_House_bookCount_20 (by decide) (fun _ => ?_) (fun c_20_1 => absurd (by decide) c_20_1)
  refine lv_iinc (v := (nI 2)) (lv' := [(2, .int (nI 2)), (1, .int (nI 0)), (0, .ref h0)]) hx hb d_House_bookCount_26 hl (k := 0) rfl (by decide) (by decide) rfl (fun ls hl => ?_)
  refine lv_goto (tgt := 4) hx hb d_House_bookCount_29 (by decide) ?_
  refine lv_iload_n hx hb d_House_bookCount_4 rfl (lv_at hl 0 rfl) ?_
  refine lv_bipush (v := (nI 6)) hx hb d_House_bookCount_5 (by decide) ?_
  refine lv_icmp_ge (tgt := 32) hx hb d_House_bookCount_7 (by decide) (fun c_7 => absurd c_7 (by decide)) (fun _ => ?_)
  refine lv_aload_n hx hb d_House_bookCount_10 rfl (lv_at hl 2 rfl) ?_
  refine va_get (D := (dC, dI)) (ci := 17) (v := .ref qb) (C := R_House) (T := F_HouseS) (N := 3) hx hb ht i_HouseS hown hK hP 0 rfl rfl 0 (by decide) (ht _ k_130) (fun _ h9 => h9) rfl d_House_bookCount_11 ?_
  refine lv_iload_n hx hb d_House_bookCount_14 rfl (lv_at hl 0 rfl) ?_
  refine va_aldq hx hb hK hP 1 0 rfl rfl (vp_in_nI (by decide) (by decide)) d_House_bookCount_15 ?_
  refine xw_topv (.ref b2) (by rw [nI_clamp (by decide)]; rfl) ?_
  refine va_get (D := (dC, dI)) (ci := 14) (v := .int (-1)) (C := R_Book) (T := F_BookS) (N := 1) hx hb ht i_BookS hown hK hP 4 rfl rfl 0 (by decide) (ht _ k_87) (fun _ h9 => h9) rfl d_House_bookCount_16 ?_
  refine lv_iconst (v := (-1)) hx hb d_House_bookCount_19 (by decide) ?_
  refine lv_icmp_eq (tgt := 26) hx hb d_House_bookCount_20 (by decide) (fun _ => ?_) (fun c_20_2 => absurd (by decide) c_20_2)
  refine lv_iinc (v := (nI 3)) (lv' := [(2, .int (nI 3)), (1, .int (nI 0)), (0, .ref h0)]) hx hb d_House_bookCount_26 hl (k := 0) rfl (by decide) (by decide) rfl (fun ls hl => ?_)
  refine lv_goto (tgt := 4) hx hb d_House_bookCount_29 (by decide) ?_
  refine lv_iload_n hx hb d_House_bookCount_4 rfl (lv_at hl 0 rfl) ?_
  refine lv_bipush (v := (nI 6)) hx hb d_House_bookCount_5 (by decide) ?_
  refine lv_icmp_ge (tgt := 32) hx hb d_House_bookCount_7 (by decide) (fun c_7 => absurd c_7 (by decide)) (fun _ => ?_)
  refine lv_aload_n hx hb d_House_bookCount_10 rfl (lv_at hl 2 rfl) ?_
  refine va_get (D := (dC, dI)) (ci := 17) (v := .ref qb) (C := R_House) (T := F_HouseS) (N := 3) hx hb ht i_HouseS hown hK hP 0 rfl rfl 0 (by decide) (ht _ k_130) (fun _ h9 => h9) rfl d_House_bookCount_11 ?_
  refine lv_iload_n hx hb d_House_bookCount_14 rfl (lv_at hl 0 rfl) ?_
  refine va_aldq hx hb hK hP 1 0 rfl rfl (vp_in_nI (by decide) (by decide)) d_House_bookCount_15 ?_
  refine xw_topv (.ref b3) (by rw [nI_clamp (by decide)]; rfl) ?_
  refine va_get (D := (dC, dI)) (ci := 14) (v := .int (-1)) (C := R_Book) (T := F_BookS) (N := 1) hx hb ht i_BookS hown hK hP 5 rfl rfl 0 (by decide) (ht _ k_87) (fun _ h9 => h9) rfl d_House_bookCount_16 ?_
  refine lv_iconst (v := (-1)) hx hb d_House_bookCount_19 (by decide) ?_
  refine lv_icmp_eq (tgt := 26) hx hb d_House_bookCount_20 (by decide) (fun _ => ?_) (fun c_20_3 => absurd (by decide) c_20_3)
  refine lv_iinc (v := (nI 4)) (lv' := [(2, .int (nI 4)), (1, .int (nI 0)), (0, .ref h0)]) hx hb d_House_bookCount_26 hl (k := 0) rfl (by decide) (by decide) rfl (fun ls hl => ?_)
  refine lv_goto (tgt := 4) hx hb d_House_bookCount_29 (by decide) ?_
  refine lv_iload_n hx hb d_House_bookCount_4 rfl (lv_at hl 0 rfl) ?_
  refine lv_bipush (v := (nI 6)) hx hb d_House_bookCount_5 (by decide) ?_
  refine lv_icmp_ge (tgt := 32) hx hb d_House_bookCount_7 (by decide) (fun c_7 => absurd c_7 (by decide)) (fun _ => ?_)
  refine lv_aload_n hx hb d_House_bookCount_10 rfl (lv_at hl 2 rfl) ?_
  refine va_get (D := (dC, dI)) (ci := 17) (v := .ref qb) (C := R_House) (T := F_HouseS) (N := 3) hx hb ht i_HouseS hown hK hP 0 rfl rfl 0 (by decide) (ht _ k_130) (fun _ h9 => h9) rfl d_House_bookCount_11 ?_
  refine lv_iload_n hx hb d_House_bookCount_14 rfl (lv_at hl 0 rfl) ?_
  refine va_aldq hx hb hK hP 1 0 rfl rfl (vp_in_nI (by decide) (by decide)) d_House_bookCount_15 ?_
  refine xw_topv (.ref b4) (by rw [nI_clamp (by decide)]; rfl) ?_
  refine va_get (D := (dC, dI)) (ci := 14) (v := .int (-1)) (C := R_Book) (T := F_BookS) (N := 1) hx hb ht i_BookS hown hK hP 6 rfl rfl 0 (by decide) (ht _ k_87) (fun _ h9 => h9) rfl d_House_bookCount_16 ?_
  refine lv_iconst (v := (-1)) hx hb d_House_bookCount_19 (by decide) ?_
  refine lv_icmp_eq (tgt := 26) hx hb d_House_bookCount_20 (by decide) (fun _ => ?_) (fun c_20_4 => absurd (by decide) c_20_4)
  refine lv_iinc (v := (nI 5)) (lv' := [(2, .int (nI 5)), (1, .int (nI 0)), (0, .ref h0)]) hx hb d_House_bookCount_26 hl (k := 0) rfl (by decide) (by decide) rfl (fun ls hl => ?_)
  refine lv_goto (tgt := 4) hx hb d_House_bookCount_29 (by decide) ?_
  refine lv_iload_n hx hb d_House_bookCount_4 rfl (lv_at hl 0 rfl) ?_
  refine lv_bipush (v := (nI 6)) hx hb d_House_bookCount_5 (by decide) ?_
  refine lv_icmp_ge (tgt := 32) hx hb d_House_bookCount_7 (by decide) (fun c_7 => absurd c_7 (by decide)) (fun _ => ?_)
  refine lv_aload_n hx hb d_House_bookCount_10 rfl (lv_at hl 2 rfl) ?_
  refine va_get (D := (dC, dI)) (ci := 17) (v := .ref qb) (C := R_House) (T := F_HouseS) (N := 3) hx hb ht i_HouseS hown hK hP 0 rfl rfl 0 (by decide) (ht _ k_130) (fun _ h9 => h9) rfl d_House_bookCount_11 ?_
  refine lv_iload_n hx hb d_House_bookCount_14 rfl (lv_at hl 0 rfl) ?_
  refine va_aldq hx hb hK hP 1 0 rfl rfl (vp_in_nI (by decide) (by decide)) d_House_bookCount_15 ?_
  refine xw_topv (.ref b5) (by rw [nI_clamp (by decide)]; rfl) ?_
  refine va_get (D := (dC, dI)) (ci := 14) (v := .int (-1)) (C := R_Book) (T := F_BookS) (N := 1) hx hb ht i_BookS hown hK hP 7 rfl rfl 0 (by decide) (ht _ k_87) (fun _ h9 => h9) rfl d_House_bookCount_16 ?_
  refine lv_iconst (v := (-1)) hx hb d_House_bookCount_19 (by decide) ?_
  refine lv_icmp_eq (tgt := 26) hx hb d_House_bookCount_20 (by decide) (fun _ => ?_) (fun c_20_5 => absurd (by decide) c_20_5)
  refine lv_iinc (v := (nI 6)) (lv' := [(2, .int (nI 6)), (1, .int (nI 0)), (0, .ref h0)]) hx hb d_House_bookCount_26 hl (k := 0) rfl (by decide) (by decide) rfl (fun ls hl => ?_)
  refine lv_goto (tgt := 4) hx hb d_House_bookCount_29 (by decide) ?_
  refine lv_iload_n hx hb d_House_bookCount_4 rfl (lv_at hl 0 rfl) ?_
  refine lv_bipush (v := (nI 6)) hx hb d_House_bookCount_5 (by decide) ?_
  refine lv_icmp_ge (tgt := 32) hx hb d_House_bookCount_7 (by decide) (fun _ => ?_) (fun c_7 => absurd (by decide) c_7)
  refine lv_iload_n hx hb d_House_bookCount_32 rfl (lv_at hl 1 rfl) ?_
  have hP9 := hP.sub (ws' := []) [] rfl
  have hD9 := hD.sub (ws' := []) [] (by decide +kernel) rfl
  have hK9 := hK.sub (tys' := []) [] rfl
  exact W.iret hx hb hr (fun t ht9 hW => ⟨⟨(nI 0), (), rfl, rfl, by rw [ht9]; exact hP9, va_K.moved hW.alike hK9, hD9⟩, hS.F ht9⟩) hS.2.2 d_House_bookCount_33
set_option maxHeartbeats 4000000 in
set_option maxRecDepth 100000 in
/-- itemCount of a new house: 0 -/
theorem c_House_itemCount0 (l : Launch) (dC : Nat → ClassId) (dI : Nat → Nat → Nat) (h0 sz qb b0 b1 b2 b3 b4 b5 b6 b7 b8 b9 b10 b11 b12 b13 b14 b15 : Nat) (cA : ClassId) (v1 v2 : Value) : Met l y_House_itemCount (Cond.code y_House_itemCount b_House_itemCount 3 (Option.some Jvm.ClassFile.FieldType.int) :: xw0) ({ frames := 0, cells := 0, slots := 0, locals := 0 }) (va_Pc [.ref h0] (fun U => U.heap.size = sz ∧ va_P (dC, dI) classes [(h0, .inr (17, [v1, .ref qb, v2])), (qb, .inl (cA, 16, .inr (.inr (.inr (.inr (va_up (va_up (va_up (va_up (va_up (va_up (va_up (va_up (va_up (va_up (va_up (va_up (va_up (va_up (va_up (va_up (fun _ => none) 0 (some b0)) 1 (some b1)) 2 (some b2)) 3 (some b3)) 4 (some b4)) 5 (some b5)) 6 (some b6)) 7 (some b7)) 8 (some b8)) 9 (some b9)) 10 (some b10)) 11 (some b11)) 12 (some b12)) 13 (some b13)) 14 (some b14)) 15 (some b15))))))), (b0, .inr (15, [.int (-1)])), (b1, .inr (15, [.int (-1)])), (b2, .inr (15, [.int (-1)])), (b3, .inr (15, [.int (-1)])), (b4, .inr (15, [.int (-1)])), (b5, .inr (15, [.int (-1)])), (b6, .inr (15, [.int (-1)])), (b7, .inr (15, [.int (-1)])), (b8, .inr (15, [.int (-1)])), (b9, .inr (15, [.int (-1)])), (b10, .inr (15, [.int (-1)])), (b11, .inr (15, [.int (-1)])), (b12, .inr (15, [.int (-1)])), (b13, .inr (15, [.int (-1)])), (b14, .inr (15, [.int (-1)])), (b15, .inr (15, [.int (-1)]))] U.heap ∧ va_K (dC, dI) classes [(cA, .object R_Item)] U ∧ va_D (fun _ => True) [(h0, .inr (17, [v1, .ref qb, v2])), (qb, .inl (cA, 16, .inr (.inr (.inr (.inr (va_up (va_up (va_up (va_up (va_up (va_up (va_up (va_up (va_up (va_up (va_up (va_up (va_up (va_up (va_up (va_up (fun _ => none) 0 (some b0)) 1 (some b1)) 2 (some b2)) 3 (some b3)) 4 (some b4)) 5 (some b5)) 6 (some b6)) 7 (some b7)) 8 (some b8)) 9 (some b9)) 10 (some b10)) 11 (some b11)) 12 (some b12)) 13 (some b13)) 14 (some b14)) 15 (some b15))))))), (b0, .inr (15, [.int (-1)])), (b1, .inr (15, [.int (-1)])), (b2, .inr (15, [.int (-1)])), (b3, .inr (15, [.int (-1)])), (b4, .inr (15, [.int (-1)])), (b5, .inr (15, [.int (-1)])), (b6, .inr (15, [.int (-1)])), (b7, .inr (15, [.int (-1)])), (b8, .inr (15, [.int (-1)])), (b9, .inr (15, [.int (-1)])), (b10, .inr (15, [.int (-1)])), (b11, .inr (15, [.int (-1)])), (b12, .inr (15, [.int (-1)])), (b13, .inr (15, [.int (-1)])), (b14, .inr (15, [.int (-1)])), (b15, .inr (15, [.int (-1)]))])) (va_Qi (fun (r : Int32) (_ : Unit) => r = 0) (fun (_ : Unit) (t : State) => va_P (dC, dI) classes [] t.heap ∧ va_K (dC, dI) classes [] t ∧ va_D (va_A [(h0, .inr (17, [v1, .ref qb, v2])), (qb, .inl (cA, 16, .inr (.inr (.inr (.inr (va_up (va_up (va_up (va_up (va_up (va_up (va_up (va_up (va_up (va_up (va_up (va_up (va_up (va_up (va_up (va_up (fun _ => none) 0 (some b0)) 1 (some b1)) 2 (some b2)) 3 (some b3)) 4 (some b4)) 5 (some b5)) 6 (some b6)) 7 (some b7)) 8 (some b8)) 9 (some b9)) 10 (some b10)) 11 (some b11)) 12 (some b12)) 13 (some b13)) 14 (some b14)) 15 (some b15))))))), (b0, .inr (15, [.int (-1)])), (b1, .inr (15, [.int (-1)])), (b2, .inr (15, [.int (-1)])), (b3, .inr (15, [.int (-1)])), (b4, .inr (15, [.int (-1)])), (b5, .inr (15, [.int (-1)])), (b6, .inr (15, [.int (-1)])), (b7, .inr (15, [.int (-1)])), (b8, .inr (15, [.int (-1)])), (b9, .inr (15, [.int (-1)])), (b10, .inr (15, [.int (-1)])), (b11, .inr (15, [.int (-1)])), (b12, .inr (15, [.int (-1)])), (b13, .inr (15, [.int (-1)])), (b14, .inr (15, [.int (-1)])), (b15, .inr (15, [.int (-1)]))] sz) []) (va_A [(h0, .inr (17, [v1, .ref qb, v2])), (qb, .inl (cA, 16, .inr (.inr (.inr (.inr (va_up (va_up (va_up (va_up (va_up (va_up (va_up (va_up (va_up (va_up (va_up (va_up (va_up (va_up (va_up (va_up (fun _ => none) 0 (some b0)) 1 (some b1)) 2 (some b2)) 3 (some b3)) 4 (some b4)) 5 (some b5)) 6 (some b6)) 7 (some b7)) 8 (some b8)) 9 (some b9)) 10 (some b10)) 11 (some b11)) 12 (some b12)) 13 (some b13)) 14 (some b14)) 15 (some b15))))))), (b0, .inr (15, [.int (-1)])), (b1, .inr (15, [.int (-1)])), (b2, .inr (15, [.int (-1)])), (b3, .inr (15, [.int (-1)])), (b4, .inr (15, [.int (-1)])), (b5, .inr (15, [.int (-1)])), (b6, .inr (15, [.int (-1)])), (b7, .inr (15, [.int (-1)])), (b8, .inr (15, [.int (-1)])), (b9, .inr (15, [.int (-1)])), (b10, .inr (15, [.int (-1)])), (b11, .inr (15, [.int (-1)])), (b12, .inr (15, [.int (-1)])), (b13, .inr (15, [.int (-1)])), (b14, .inr (15, [.int (-1)])), (b15, .inr (15, [.int (-1)]))] sz)) 0 0 (va_A [(h0, .inr (17, [v1, .ref qb, v2])), (qb, .inl (cA, 16, .inr (.inr (.inr (.inr (va_up (va_up (va_up (va_up (va_up (va_up (va_up (va_up (va_up (va_up (va_up (va_up (va_up (va_up (va_up (va_up (fun _ => none) 0 (some b0)) 1 (some b1)) 2 (some b2)) 3 (some b3)) 4 (some b4)) 5 (some b5)) 6 (some b6)) 7 (some b7)) 8 (some b8)) 9 (some b9)) 10 (some b10)) 11 (some b11)) 12 (some b12)) 13 (some b13)) 14 (some b14)) 15 (some b15))))))), (b0, .inr (15, [.int (-1)])), (b1, .inr (15, [.int (-1)])), (b2, .inr (15, [.int (-1)])), (b3, .inr (15, [.int (-1)])), (b4, .inr (15, [.int (-1)])), (b5, .inr (15, [.int (-1)])), (b6, .inr (15, [.int (-1)])), (b7, .inr (15, [.int (-1)])), (b8, .inr (15, [.int (-1)])), (b9, .inr (15, [.int (-1)])), (b10, .inr (15, [.int (-1)])), (b11, .inr (15, [.int (-1)])), (b12, .inr (15, [.int (-1)])), (b13, .inr (15, [.int (-1)])), (b14, .inr (15, [.int (-1)])), (b15, .inr (15, [.int (-1)]))] sz) := by
  refine Met.ofW (cc := b_House_itemCount) (maxL := 3) (ret := (Option.some Jvm.ClassFile.FieldType.int)) (by decide) rfl ?_
  intro p e s m args below meth c s₁ B hml hv
  obtain ⟨rfl, hsz, hP, hK, hD0⟩ := hv
  have hx := B.exec
  have hb := B.bytes
  have hr := B.returns
  have hts := atoms_spec (ws := Cond.code y_House_itemCount b_House_itemCount 3 (Option.some Jvm.ClassFile.FieldType.int) :: xw0) B.pre
  have ht : ∀ w ∈ xw0, w.before _ s = true := fun w h => hts w (List.mem_cons_of_mem _ h)
  have hown : s.vm.findClass R_House = some m.cls := findClass_of_methodNamed B.named
  have hlocks := B.notSynchronized
  subst hsz
  have hD := hD0.self (sz := s.heap.size)
  generalize hAe : va_A [(h0, .inr (17, [v1, .ref qb, v2])), (qb, .inl (cA, 16, .inr (.inr (.inr (.inr (va_up (va_up (va_up (va_up (va_up (va_up (va_up (va_up (va_up (va_up (va_up (va_up (va_up (va_up (va_up (va_up (fun _ => none) 0 (some b0)) 1 (some b1)) 2 (some b2)) 3 (some b3)) 4 (some b4)) 5 (some b5)) 6 (some b6)) 7 (some b7)) 8 (some b8)) 9 (some b9)) 10 (some b10)) 11 (some b11)) 12 (some b12)) 13 (some b13)) 14 (some b14)) 15 (some b15))))))), (b0, .inr (15, [.int (-1)])), (b1, .inr (15, [.int (-1)])), (b2, .inr (15, [.int (-1)])), (b3, .inr (15, [.int (-1)])), (b4, .inr (15, [.int (-1)])), (b5, .inr (15, [.int (-1)])), (b6, .inr (15, [.int (-1)])), (b7, .inr (15, [.int (-1)])), (b8, .inr (15, [.int (-1)])), (b9, .inr (15, [.int (-1)])), (b10, .inr (15, [.int (-1)])), (b11, .inr (15, [.int (-1)])), (b12, .inr (15, [.int (-1)])), (b13, .inr (15, [.int (-1)])), (b14, .inr (15, [.int (-1)])), (b15, .inr (15, [.int (-1)]))] s.heap.size = A at hD ⊢
  have hA : ∀ q : Nat, s.heap.size ≤ q → A q := fun q h => by rw [← hAe]; exact Or.inr h
  have hS : va_S A s.heap s.heap [] := va_S.rf
  have hP : va_P (dC, dI) classes [(h0, .inr (17, [v1, .ref qb, v2])), (qb, .inl (cA, 16, .inr (.inr (.inr (.inr (va_up (va_up (va_up (va_up (va_up (va_up (va_up (va_up (va_up (va_up (va_up (va_up (va_up (va_up (va_up (va_up (fun _ => none) 0 (some b0)) 1 (some b1)) 2 (some b2)) 3 (some b3)) 4 (some b4)) 5 (some b5)) 6 (some b6)) 7 (some b7)) 8 (some b8)) 9 (some b9)) 10 (some b10)) 11 (some b11)) 12 (some b12)) 13 (some b13)) 14 (some b14)) 15 (some b15))))))), (b0, .inr (15, [.int (-1)])), (b1, .inr (15, [.int (-1)])), (b2, .inr (15, [.int (-1)])), (b3, .inr (15, [.int (-1)])), (b4, .inr (15, [.int (-1)])), (b5, .inr (15, [.int (-1)])), (b6, .inr (15, [.int (-1)])), (b7, .inr (15, [.int (-1)])), (b8, .inr (15, [.int (-1)])), (b9, .inr (15, [.int (-1)])), (b10, .inr (15, [.int (-1)])), (b11, .inr (15, [.int (-1)])), (b12, .inr (15, [.int (-1)])), (b13, .inr (15, [.int (-1)])), (b14, .inr (15, [.int (-1)])), (b15, .inr (15, [.int (-1)]))] s.heap := hP
  have hl := lv_entry ([.ref h0]) (n := 3) (Nat.le_of_ble_eq_true rfl)
  rw [lg_entry_eq]
  generalize (lg_sl ([.ref h0]) ++ List.replicate (3 - (lg_sl ([.ref h0])).length) Slot.unset).toArray = ls at hl ⊢
  have hl : lv_has ls 3 [(0, .ref h0)] := hl
  refine lv_iconst (v := (nI 0)) hx hb d_House_itemCount_0 (by decide) ?_
  refine lv_istore_n (lv' := [(1, .int (nI 0)), (0, .ref h0)]) hx hb d_House_itemCount_1 rfl hl (by decide) rfl (fun ls hl => ?_)
  refine lv_iconst (v := (nI 0)) hx hb d_House_itemCount_2 (by decide) ?_
  refine lv_istore_n (lv' := [(2, .int (nI 0)), (1, .int (nI 0)), (0, .ref h0)]) hx hb d_House_itemCount_3 rfl hl (by decide) rfl (fun ls hl => ?_)
  refine lv_iload_n hx hb d_House_itemCount_4 rfl (lv_at hl 0 rfl) ?_
  refine lv_bipush (v := (nI 16)) hx hb d_House_itemCount_5 (by decide) ?_
  refine lv_icmp_ge (tgt := 32) hx hb d_House_itemCount_7 (by decide) (fun c_7 => absurd c_7 (by decide)) (fun _ => ?_)
  refine lv_aload_n hx hb d_House_itemCount_10 rfl (lv_at hl 2 rfl) ?_
  refine va_get (D := (dC, dI)) (ci := 17) (v := .ref qb) (C := R_House) (T := F_HouseS) (N := 3) hx hb ht i_HouseS hown hK hP 0 rfl rfl 1 (by decide) (ht _ k_131) (fun _ h9 => h9) rfl d_House_itemCount_11 ?_
  refine lv_iload_n hx hb d_House_itemCount_14 rfl (lv_at hl 0 rfl) ?_
  refine va_aldq hx hb hK hP 1 0 rfl rfl (vp_in_nI (by decide) (by decide)) d_House_itemCount_15 ?_
  refine xw_topv (.ref b0) (by rw [nI_clamp (by decide)]; rfl) ?_
  refine va_get (D := (dC, dI)) (ci := 15) (v := .int (-1)) (C := R_Item) (T := F_ItemS) (N := 1) hx hb ht i_ItemS hown hK hP 2 rfl rfl 0 (by decide) (ht _ k_117) (fun _ h9 => h9) rfl d_House_itemCount_16 ?_
  refine lv_iconst (v := (-1)) hx hb d_House_itemCount_19 (by decide) ?_
  refine lv_icmp_eq (tgt := 26) hx hb d_House_itemCount_20 (by decide) (fun _ => ?_) (fun c_20_0 => absurd (by decide) c_20_0)
  refine lv_iinc (v := (nI 1)) (lv' := [(2, .int (nI 1)), (1, .int (nI 0)), (0, .ref h0)]) hx hb d_House_itemCount_26 hl (k := 0) rfl (by decide) (by decide) rfl (fun ls hl => ?_)
  refine lv_goto (tgt := 4) hx hb d_House_itemCount_29 (by decide) ?_
  refine lv_iload_n hx hb d_House_itemCount_4 rfl (lv_at hl 0 rfl) ?_
  refine lv_bipush (v := (nI 16)) hx hb d_House_itemCount_5 (by decide) ?_
  refine lv_icmp_ge (tgt := 32) hx hb d_House_itemCount_7 (by decide) (fun c_7 => absurd c_7 (by decide)) (fun _ => ?_)
  refine lv_aload_n hx hb d_House_itemCount_10 rfl (lv_at hl 2 rfl) ?_
  refine va_get (D := (dC, dI)) (ci := 17) (v := .ref qb) (C := R_House) (T := F_HouseS) (N := 3) hx hb ht i_HouseS hown hK hP 0 rfl rfl 1 (by decide) (ht _ k_131) (fun _ h9 => h9) rfl d_House_itemCount_11 ?_
  refine lv_iload_n hx hb d_House_itemCount_14 rfl (lv_at hl 0 rfl) ?_
  refine va_aldq hx hb hK hP 1 0 rfl rfl (vp_in_nI (by decide) (by decide)) d_House_itemCount_15 ?_
  refine xw_topv (.ref b1) (by rw [nI_clamp (by decide)]; rfl) ?_
  refine va_get (D := (dC, dI)) (ci := 15) (v := .int (-1)) (C := R_Item) (T := F_ItemS) (N := 1) hx hb ht i_ItemS hown hK hP 3 rfl rfl 0 (by decide) (ht _ k_117) (fun _ h9 => h9) rfl d_House_itemCount_16 ?_
  refine lv_iconst (v := (-1)) hx hb d_House_itemCount_19 (by decide) ?_
  refine lv_icmp_eq (tgt := 26) hx hb d_House_itemCount_20 (by decide) (fun _ => ?_) (fun c_20_1 => absurd (by decide) c_20_1)
  refine lv_iinc (v := (nI 2)) (lv' := [(2, .int (nI 2)), (1, .int (nI 0)), (0, .ref h0)]) hx hb d_House_itemCount_26 hl (k := 0) rfl (by decide) (by decide) rfl (fun ls hl => ?_)
  refine lv_goto (tgt := 4) hx hb d_House_itemCount_29 (by decide) ?_
  refine lv_iload_n hx hb d_House_itemCount_4 rfl (lv_at hl 0 rfl) ?_
  refine lv_bipush (v := (nI 16)) hx hb d_House_itemCount_5 (by decide) ?_
  refine lv_icmp_ge (tgt := 32) hx hb d_House_itemCount_7 (by decide) (fun c_7 => absurd c_7 (by decide)) (fun _ => ?_)
  refine lv_aload_n hx hb d_House_itemCount_10 rfl (lv_at hl 2 rfl) ?_
  refine va_get (D := (dC, dI)) (ci := 17) (v := .ref qb) (C := R_House) (T := F_HouseS) (N := 3) hx hb ht i_HouseS hown hK hP 0 rfl rfl 1 (by decide) (ht _ k_131) (fun _ h9 => h9) rfl d_House_itemCount_11 ?_
  refine lv_iload_n hx hb d_House_itemCount_14 rfl (lv_at hl 0 rfl) ?_
  refine va_aldq hx hb hK hP 1 0 rfl rfl (vp_in_nI (by decide) (by decide)) d_House_itemCount_15 ?_
  refine xw_topv (.ref b2) (by rw [nI_clamp (by decide)]; rfl) ?_
  refine va_get (D := (dC, dI)) (ci := 15) (v := .int (-1)) (C := R_Item) (T := F_ItemS) (N := 1) hx hb ht i_ItemS hown hK hP 4 rfl rfl 0 (by decide) (ht _ k_117) (fun _ h9 => h9) rfl d_House_itemCount_16 ?_
  refine lv_iconst (v := (-1)) hx hb d_House_itemCount_19 (by decide) ?_
  refine lv_icmp_eq (tgt := 26) hx hb d_House_itemCount_20 (by decide) (fun _ => ?_) (fun c_20_2 => absurd (by decide) c_20_2)
  refine lv_iinc (v := (nI 3)) (lv' := [(2, .int (nI 3)), (1, .int (nI 0)), (0, .ref h0)]) hx hb d_House_itemCount_26 hl (k := 0) rfl (by decide) (by decide) rfl (fun ls hl => ?_)
  refine lv_goto (tgt := 4) hx hb d_House_itemCount_29 (by decide) ?_
  refine lv_iload_n hx hb d_House_itemCount_4 rfl (lv_at hl 0 rfl) ?_
  refine lv_bipush (v := (nI 16)) hx hb d_House_itemCount_5 (by decide) ?_
  refine lv_icmp_ge (tgt := 32) hx hb d_House_itemCount_7 (by decide) (fun c_7 => absurd c_7 (by decide)) (fun _ => ?_)
  refine lv_aload_n hx hb d_House_itemCount_10 rfl (lv_at hl 2 rfl) ?_
  refine va_get (D := (dC, dI)) (ci := 17) (v := .ref qb) (C := R_House) (T := F_HouseS) (N := 3) hx hb ht i_HouseS hown hK hP 0 rfl rfl 1 (by decide) (ht _ k_131) (fun _ h9 => h9) rfl d_House_itemCount_11 ?_
  refine lv_iload_n hx hb d_House_itemCount_14 rfl (lv_at hl 0 rfl) ?_
  refine va_aldq hx hb hK hP 1 0 rfl rfl (vp_in_nI (by decide) (by decide)) d_House_itemCount_15 ?_
  refine xw_topv (.ref b3) (by rw [nI_clamp (by decide)]; rfl) ?_
  refine va_get (D := (dC, dI)) (ci := 15) (v := .int (-1)) (C := R_Item) (T := F_ItemS) (N := 1) hx hb ht i_ItemS hown hK hP 5 rfl rfl 0 (by decide) (ht _ k_117) (fun _ h9 => h9) rfl d_House_itemCount_16 ?_
  refine lv_iconst (v := (-1)) hx hb d_House_itemCount_19 (by decide) ?_
  refine lv_icmp_eq (tgt := 26) hx hb d_House_itemCount_20 (by decide) (fun _ => ?_) (fun c_20_3 => absurd (by decide) c_20_3)
  refine lv_iinc (v := (nI 4)) (lv' := [(2, .int (nI 4)), (1, .int (nI 0)), (0, .ref h0)]) hx hb d_House_itemCount_26 hl (k := 0) rfl (by decide) (by decide) rfl (fun ls hl => ?_)
  refine lv_goto (tgt := 4) hx hb d_House_itemCount_29 (by decide) ?_
  refine lv_iload_n hx hb d_House_itemCount_4 rfl (lv_at hl 0 rfl) ?_
  refine lv_bipush (v := (nI 16)) hx hb d_House_itemCount_5 (by decide) ?_
  refine lv_icmp_ge (tgt := 32) hx hb d_House_itemCount_7 (by decide) (fun c_7 => absurd c_7 (by decide)) (fun _ => ?_)
  refine lv_aload_n hx hb d_House_itemCount_10 rfl (lv_at hl 2 rfl) ?_
  refine va_get (D := (dC, dI)) (ci := 17) (v := .ref qb) (C := R_House) (T := F_HouseS) (N := 3) hx hb ht i_HouseS hown hK hP 0 rfl rfl 1 (by decide) (ht _ k_131) (fun _ h9 => h9) rfl d_House_itemCount_11 ?_
  refine lv_iload_n hx hb d_House_itemCount_14 rfl (lv_at hl 0 rfl) ?_
  refine va_aldq hx hb hK hP 1 0 rfl rfl (vp_in_nI (by decide) (by decide)) d_House_itemCount_15 ?_
  refine xw_topv (.ref b4) (by rw [nI_clamp (by decide)]; rfl) ?_
  refine va_get (D := (dC, dI)) (ci := 15) (v := .int (-1)) (C := R_Item) (T := F_ItemS) (N := 1) hx hb ht i_ItemS hown hK hP 6 rfl rfl 0 (by decide) (ht _ k_117) (fun _ h9 => h9) rfl d_House_itemCount_16 ?_
  refine lv_iconst (v := (-1)) hx hb d_House_itemCount_19 (by decide) ?_
  refine lv_icmp_eq (tgt := 26) hx hb d_House_itemCount_20 (by decide) (fun _ => ?_) (fun c_20_4 => absurd (by decide) c_20_4)
  refine lv_iinc (v := (nI 5)) (lv' := [(2, .int (nI 5)), (1, .int (nI 0)), (0, .ref h0)]) hx hb d_House_itemCount_26 hl (k := 0) rfl (by decide) (by decide) rfl (fun ls hl => ?_)
  refine lv_goto (tgt := 4) hx hb d_House_itemCount_29 (by decide) ?_
  refine lv_iload_n hx hb d_House_itemCount_4 rfl (lv_at hl 0 rfl) ?_
  refine lv_bipush (v := (nI 16)) hx hb d_House_itemCount_5 (by decide) ?_
  refine lv_icmp_ge (tgt := 32) hx hb d_House_itemCount_7 (by decide) (fun c_7 => absurd c_7 (by decide)) (fun _ => ?_)
  refine lv_aload_n hx hb d_House_itemCount_10 rfl (lv_at hl 2 rfl) ?_
  refine va_get (D := (dC, dI)) (ci := 17) (v := .ref qb) (C := R_House) (T := F_HouseS) (N := 3) hx hb ht i_HouseS hown hK hP 0 rfl rfl 1 (by decide) (ht _ k_131) (fun _ h9 => h9) rfl d_House_itemCount_11 ?_
  refine lv_iload_n hx hb d_House_itemCount_14 rfl (lv_at hl 0 rfl) ?_
  refine va_aldq hx hb hK hP 1 0 rfl rfl (vp_in_nI (by decide) (by decide)) d_House_itemCount_15 ?_
  refine xw_topv (.ref b5) (by rw [nI_clamp (by decide)]; rfl) ?_
  refine va_get (D := (dC, dI)) (ci := 15) (v := .int (-1)) (C := R_Item) (T := F_ItemS) (N := 1) hx hb ht i_ItemS hown hK hP 7 rfl rfl 0 (by decide) (ht _ k_117) (fun _ h9 => h9) rfl d_House_itemCount_16 ?_
  refine lv_iconst (v := (-1)) hx hb d_House_itemCount_19 (by decide) ?_
  refine lv_icmp_eq (tgt := 26) hx hb d_House_itemCount_20 (by decide) (fun _ => ?_) (fun c_20_5 => absurd (by decide) c_20_5)
  refine lv_iinc (v := (nI 6)) (lv' := [(2, .int (nI 6)), (1, .int (nI 0)), (0, .ref h0)]) hx hb d_House_itemCount_26 hl (k := 0) rfl (by decide) (by decide) rfl (fun ls hl => ?_)
  refine lv_goto (tgt := 4) hx hb d_House_itemCount_29 (by decide) ?_
  refine lv_iload_n hx hb d_House_itemCount_4 rfl (lv_at hl 0 rfl) ?_
  refine lv_bipush (v := (nI 16)) hx hb d_House_itemCount_5 (by decide) ?_
  refine lv_icmp_ge (tgt := 32) hx hb d_House_itemCount_7 (by decide) (fun c_7 => absurd c_7 (by decide)) (fun _ => ?_)
  refine lv_aload_n hx hb d_House_itemCount_10 rfl (lv_at hl 2 rfl) ?_
  refine va_get (D := (dC, dI)) (ci := 17) (v := .ref qb) (C := R_House) (T := F_HouseS) (N := 3) hx hb ht i_HouseS hown hK hP 0 rfl rfl 1 (by decide) (ht _ k_131) (fun _ h9 => h9) rfl d_House_itemCount_11 ?_
  refine lv_iload_n hx hb d_House_itemCount_14 rfl (lv_at hl 0 rfl) ?_
  refine va_aldq hx hb hK hP 1 0 rfl rfl (vp_in_nI (by decide) (by decide)) d_House_itemCount_15 ?_
  refine xw_topv (.ref b6) (by rw [nI_clamp (by decide)]; rfl) ?_
  refine va_get (D := (dC, dI)) (ci := 15) (v := .int (-1)) (C := R_Item) (T := F_ItemS) (N := 1) hx hb ht i_ItemS hown hK hP 8 rfl rfl 0 (by decide) (ht _ k_117) (fun _ h9 => h9) rfl d_House_itemCount_16 ?_
  refine lv_iconst (v := (-1)) hx hb d_House_itemCount_19 (by decide) ?_
  refine lv_icmp_eq (tgt := 26) hx hb d_House_itemCount_20 (by decide) (fun _ => ?_) (fun c_20_6 => absurd (by decide) c_20_6)
  refine lv_iinc (v := (nI 7)) (lv' := [(2, .int (nI 7)), (1, .int (nI 0)), (0, .ref h0)]) hx hb d_House_itemCount_26 hl (k := 0) rfl (by decide) (by decide) rfl (fun ls hl => ?_)
  refine lv_goto (tgt := 4) hx hb d_House_itemCount_29 (by decide) ?_
  refine lv_iload_n hx hb d_House_itemCount_4 rfl (lv_at hl 0 rfl) ?_
  refine lv_bipush (v := (nI 16)) hx hb d_House_itemCount_5 (by decide) ?_
  refine lv_icmp_ge (tgt := 32) hx hb d_House_itemCount_7 (by decide) (fun c_7 => absurd c_7 (by decide)) (fun _ => ?_)
  refine lv_aload_n hx hb d_House_itemCount_10 rfl (lv_at hl 2 rfl) ?_
  refine va_get (D := (dC, dI)) (ci := 17) (v := .ref qb) (C := R_House) (T := F_HouseS) (N := 3) hx hb ht i_HouseS hown hK hP 0 rfl rfl 1 (by decide) (ht _ k_131) (fun _ h9 => h9) rfl d_House_itemCount_11 ?_
  refine lv_iload_n hx hb d_House_itemCount_14 rfl (lv_at hl 0 rfl) ?_
  refine va_aldq hx hb hK hP 1 0 rfl rfl (vp_in_nI (by decide) (by decide)) d_House_itemCount_15 ?_
  refine xw_topv (.ref b7) (by rw [nI_clamp (by decide)]; rfl) ?_
  refine va_get (D := (dC, dI)) (ci := 15) (v := .int (-1)) (C := R_Item) (T := F_ItemS) (N := 1) hx hb ht i_ItemS hown hK hP 9 rfl rfl 0 (by decide) (ht _ k_117) (fun _ h9 => h9) rfl d_House_itemCount_16 ?_
  refine lv_iconst (v := (-1)) hx hb d_House_itemCount_19 (by decide) ?_
  refine lv_icmp_eq (tgt := 26) hx hb d_House_itemCount_20 (by decide) (fun _ => ?_) (fun c_20_7 => absurd (by decide) c_20_7)
  refine lv_iinc (v := (nI 8)) (lv' := [(2, .int (nI 8)), (1, .int (nI 0)), (0, .ref h0)]) hx hb d_House_itemCount_26 hl (k := 0) rfl (by decide) (by decide) rfl (fun ls hl => ?_)
  refine lv_goto (tgt := 4) hx hb d_House_itemCount_29 (by decide) ?_
  refine lv_iload_n hx hb d_House_itemCount_4 rfl (lv_at hl 0 rfl) ?_
  refine lv_bipush (v := (nI 16)) hx hb d_House_itemCount_5 (by decide) ?_
  refine lv_icmp_ge (tgt := 32) hx hb d_House_itemCount_7 (by decide) (fun c_7 => absurd c_7 (by decide)) (fun _ => ?_)
  refine lv_aload_n hx hb d_House_itemCount_10 rfl (lv_at hl 2 rfl) ?_
  refine va_get (D := (dC, dI)) (ci := 17) (v := .ref qb) (C := R_House) (T := F_HouseS) (N := 3) hx hb ht i_HouseS hown hK hP 0 rfl rfl 1 (by decide) (ht _ k_131) (fun _ h9 => h9) rfl d_House_itemCount_11 ?_
  refine lv_iload_n hx hb d_House_itemCount_14 rfl (lv_at hl 0 rfl) ?_
  refine va_aldq hx hb hK hP 1 0 rfl rfl (vp_in_nI (by decide) (by decide)) d_House_itemCount_15 ?_
  refine xw_topv (.ref b8) (by rw [nI_clamp (by decide)]; rfl) ?_
  refine va_get (D := (dC, dI)) (ci := 15) (v := .int (-1)) (C := R_Item) (T := F_ItemS) (N := 1) hx hb ht i_ItemS hown hK hP 10 rfl rfl 0 (by decide) (ht _ k_117) (fun _ h9 => h9) rfl d_House_itemCount_16 ?_
  refine lv_iconst (v := (-1)) hx hb d_House_itemCount_19 (by decide) ?_
  refine lv_icmp_eq (tgt := 26) hx hb d_House_itemCount_20 (by decide) (fun _ => ?_) (fun c_20_8 => absurd (by decide) c_20_8)
  refine lv_iinc (v := (nI 9)) (lv' := [(2, .int (nI 9)), (1, .int (nI 0)), (0, .ref h0)]) hx hb d_House_itemCount_26 hl (k := 0) rfl (by decide) (by decide) rfl (fun ls hl => ?_)
  refine lv_goto (tgt := 4) hx hb d_House_itemCount_29 (by decide) ?_
  refine lv_iload_n hx hb d_House_itemCount_4 rfl (lv_at hl 0 rfl) ?_
  refine lv_bipush (v := (nI 16)) hx hb d_House_itemCount_5 (by decide) ?_
  refine lv_icmp_ge (tgt := 32) hx hb d_House_itemCount_7 (by decide) (fun c_7 => absurd c_7 (by decide)) (fun _ => ?_)
  refine lv_aload_n hx hb d_House_itemCount_10 rfl (lv_at hl 2 rfl) ?_
  refine va_get (D := (dC, dI)) (ci := 17) (v := .ref qb) (C := R_House) (T := F_HouseS) (N := 3) hx hb ht i_HouseS hown hK hP 0 rfl rfl 1 (by decide) (ht _ k_131) (fun _ h9 => h9) rfl d_House_itemCount_11 ?_
  refine lv_iload_n hx hb d_House_itemCount_14 rfl (lv_at hl 0 rfl) ?_
  refine va_aldq hx hb hK hP 1 0 rfl rfl (vp_in_nI (by decide) (by decide)) d_House_itemCount_15 ?_
  refine xw_topv (.ref b9) (by rw [nI_clamp (by decide)]; rfl) ?_
  refine va_get (D := (dC, dI)) (ci := 15) (v := .int (-1)) (C := R_Item) (T := F_ItemS) (N := 1) hx hb ht i_ItemS hown hK hP 11 rfl rfl 0 (by decide) (ht _ k_117) (fun _ h9 => h9) rfl d_House_itemCount_16 ?_
  refine lv_iconst (v := (-1)) hx hb d_House_itemCount_19 (by decide) ?_
  refine lv_icmp_eq (tgt := 26) hx hb d_House_itemCount_20 (by decide) (fun _ => ?_) (fun c_20_9 => absurd (by decide) c_20_9)
  refine lv_iinc (v := (nI 10)) (lv' := [(2, .int (nI 10)), (1, .int (nI 0)), (0, .ref h0)]) hx hb d_House_itemCount_26 hl (k := 0) rfl (by decide) (by decide) rfl (fun ls hl => ?_)
  refine lv_goto (tgt := 4) hx hb d_House_itemCount_29 (by decide) ?_
  refine lv_iload_n hx hb d_House_itemCount_4 rfl (lv_at hl 0 rfl) ?_
  refine lv_bipush (v := (nI 16)) hx hb d_House_itemCount_5 (by decide) ?_
  refine lv_icmp_ge (tgt := 32) hx hb d_House_itemCount_7 (by decide) (fun c_7 => absurd c_7 (by decide)) (fun _ => ?_)
  refine lv_aload_n hx hb d_House_itemCount_10 rfl (lv_at hl 2 rfl) ?_
  refine va_get (D := (dC, dI)) (ci := 17) (v := .ref qb) (C := R_House) (T := F_HouseS) (N := 3) hx hb ht i_HouseS hown hK hP 0 rfl rfl 1 (by decide) (ht _ k_131) (fun _ h9 => h9) rfl d_House_itemCount_11 ?_
  refine lv_iload_n hx hb d_House_itemCount_14 rfl (lv_at hl 0 rfl) ?_
  refine va_aldq hx hb hK hP 1 0 rfl rfl (vp_in_nI (by decide) (by decide)) d_House_itemCount_15 ?_
  refine xw_topv (.ref b10) (by rw [nI_clamp (by decide)]; rfl) ?_
  refine va_get (D := (dC, dI)) (ci := 15) (v := .int (-1)) (C := R_Item) (T := F_ItemS) (N := 1) hx hb ht i_ItemS hown hK hP 12 rfl rfl 0 (by decide) (ht _ k_117) (fun _ h9 => h9) rfl d_House_itemCount_16 ?_
  refine lv_iconst (v := (-1)) hx hb d_House_itemCount_19 (by decide) ?_
  refine lv_icmp_eq (tgt := 26) hx hb d_House_itemCount_20 (by decide) (fun _ => ?_) (fun c_20_10 => absurd (by decide) c_20_10)
  refine lv_iinc (v := (nI 11)) (lv' := [(2, .int (nI 11)), (1, .int (nI 0)), (0, .ref h0)]) hx hb d_House_itemCount_26 hl (k := 0) rfl (by decide) (by decide) rfl (fun ls hl => ?_)
  refine lv_goto (tgt := 4) hx hb d_House_itemCount_29 (by decide) ?_
  refine lv_iload_n hx hb d_House_itemCount_4 rfl (lv_at hl 0 rfl) ?_
  refine lv_bipush (v := (nI 16)) hx hb d_House_itemCount_5 (by decide) ?_
  refine lv_icmp_ge (tgt := 32) hx hb d_House_itemCount_7 (by decide) (fun c_7 => absurd c_7 (by decide)) (fun _ => ?_)
  refine lv_aload_n hx hb d_House_itemCount_10 rfl (lv_at hl 2 rfl) ?_
  refine va_get (D := (dC, dI)) (ci := 17) (v := .ref qb) (C := R_House) (T := F_HouseS) (N := 3) hx hb ht i_HouseS hown hK hP 0 rfl rfl 1 (by decide) (ht _ k_131) (fun _ h9 => h9) rfl d_House_itemCount_11 ?_
  refine lv_iload_n hx hb d_House_itemCount_14 rfl (lv_at hl 0 rfl) ?_
  refine va_aldq hx hb hK hP 1 0 rfl rfl (vp_in_nI (by decide) (by decide)) d_House_itemCount_15 ?_
  refine xw_topv (.ref b11) (by rw [nI_clamp (by decide)]; rfl) ?_
  refine va_get (D := (dC, dI)) (ci := 15) (v := .int (-1)) (C := R_Item) (T := F_ItemS) (N := 1) hx hb ht i_ItemS hown hK hP 13 rfl rfl 0 (by decide) (ht _ k_117) (fun _ h9 => h9) rfl d_House_itemCount_16 ?_
  refine lv_iconst (v := (-1)) hx hb d_House_itemCount_19 (by decide) ?_
  refine lv_icmp_eq (tgt := 26) hx hb d_House_itemCount_20 (by decide) (fun _ => ?_) (fun c_20_11 => absurd (by decide) c_20_11)
  refine lv_iinc (v := (nI 12)) (lv' := [(2, .int (nI 12)), (1, .int (nI 0)), (0, .ref h0)]) hx hb d_House_itemCount_26 hl (k := 0) rfl (by decide) (by decide) rfl (fun ls hl => ?_)
  refine lv_goto (tgt := 4) hx hb d_House_itemCount_29 (by decide) ?_
  refine lv_iload_n hx hb d_House_itemCount_4 rfl (lv_at hl 0 rfl) ?_
  refine lv_bipush (v := (nI 16)) hx hb d_House_itemCount_5 (by decide) ?_
  refine lv_icmp_ge (tgt := 32) hx hb d_House_itemCount_7 (by decide) (fun c_7 => absurd c_7 (by decide)) (fun _ => ?_)
  refine lv_aload_n hx hb d_House_itemCount_10 rfl (lv_at hl 2 rfl) ?_
  refine va_get (D := (dC, dI)) (ci := 17) (v := .ref qb) (C := R_House) (T := F_HouseS) (N := 3) hx hb ht i_HouseS hown hK hP 0 rfl rfl 1 (by decide) (ht _ k_131) (fun _ h9 => h9) rfl d_House_itemCount_11 ?_
  refine lv_iload_n hx hb d_House_itemCount_14 rfl (lv_at hl 0 rfl) ?_
  refine va_aldq hx hb hK hP 1 0 rfl rfl (vp_in_nI (by decide) (by decide)) d_House_itemCount_15 ?_
  refine xw_topv (.ref b12) (by rw [nI_clamp (by decide)]; rfl) ?_
  refine va_get (D := (dC, dI)) (ci := 15) (v := .int (-1)) (C := R_Item) (T := F_ItemS) (N := 1) hx hb ht i_ItemS hown hK hP 14 rfl rfl 0 (by decide) (ht _ k_117) (fun _ h9 => h9) rfl d_House_itemCount_16 ?_
  refine lv_iconst (v := (-1)) hx hb d_House_itemCount_19 (by decide) ?_
  refine lv_icmp_eq (tgt := 26) hx hb d_House_itemCount_20 (by decide) (fun _ => ?_) (fun c_20_12 => absurd (by decide) c_20_12)
  refine lv_iinc (v := (nI 13)) (lv' := [(2, .int (nI 13)), (1, .int (nI 0)), (0, .ref h0)]) hx hb d_House_itemCount_26 hl (k := 0) rfl (by decide) (by decide) rfl (fun ls hl => ?_)
  refine lv_goto (tgt := 4) hx hb d_House_itemCount_29 (by decide) ?_
  refine lv_iload_n hx hb d_House_itemCount_4 rfl (lv_at hl 0 rfl) ?_
  refine lv_bipush (v := (nI 16)) hx hb d_House_itemCount_5 (by decide) ?_
  refine lv_icmp_ge (tgt := 32) hx hb d_House_itemCount_7 (by decide) (fun c_7 => absurd c_7 (by decide)) (fun _ => ?_)
  refine lv_aload_n hx hb d_House_itemCount_10 rfl (lv_at hl 2 rfl) ?_
  refine va_get (D := (dC, dI)) (ci := 17) (v := .ref qb) (C := R_House) (T := F_HouseS) (N := 3) hx hb ht i_HouseS hown hK hP 0 rfl rfl 1 (by decide) (ht _ k_131) (fun _ h9 => h9) rfl d_House_itemCount_11 ?_
  refine lv_iload_n hx hb d_House_itemCount_14 rfl (lv_at hl 0 rfl) ?_
  refine va_aldq hx hb hK hP 1 0 rfl rfl (vp_in_nI (by decide) (by decide)) d_House_itemCount_15 ?_
  refine xw_topv (.ref b13) (by rw [nI_clamp (by decide)]; rfl) ?_
  refine va_get (D := (dC, dI)) (ci := 15) (v := .int (-1)) (C := R_Item) (T := F_ItemS) (N := 1) hx hb ht i_ItemS hown hK hP 15 rfl rfl 0 (by decide) (ht _ k_117) (fun _ h9 => h9) rfl d_House_itemCount_16 ?_
  refine lv_iconst (v := (-1)) hx hb d_House_itemCount_19 (by decide) ?_
  refine lv_icmp_eq (tgt := 26) hx hb d_House_itemCount_20 (by decide) (fun _ => ?_) (fun c_20_13 => absurd (by decide) c_20_13)
  refine lv_iinc (v := (nI 14)) (lv' := [(2, .int (nI 14)), (1, .int (nI 0)), (0, .ref h0)]) hx hb d_House_itemCount_26 hl (k := 0) rfl (by decide) (by decide) rfl (fun ls hl => ?_)
  refine lv_goto (tgt := 4) hx hb d_House_itemCount_29 (by decide) ?_
  refine lv_iload_n hx hb d_House_itemCount_4 rfl (lv_at hl 0 rfl) ?_
  refine lv_bipush (v := (nI 16)) hx hb d_House_itemCount_5 (by decide) ?_
  refine lv_icmp_ge (tgt := 32) hx hb d_House_itemCount_7 (by decide) (fun c_7 => absurd c_7 (by decide)) (fun _ => ?_)
  refine lv_aload_n hx hb d_House_itemCount_10 rfl (lv_at hl 2 rfl) ?_
  refine va_get (D := (dC, dI)) (ci := 17) (v := .ref qb) (C := R_House) (T := F_HouseS) (N := 3) hx hb ht i_HouseS hown hK hP 0 rfl rfl 1 (by decide) (ht _ k_131) (fun _ h9 => h9) rfl d_House_itemCount_11 ?_
  refine lv_iload_n hx hb d_House_itemCount_14 rfl (lv_at hl 0 rfl) ?_
  refine va_aldq hx hb hK hP 1 0 rfl rfl (vp_in_nI (by decide) (by decide)) d_House_itemCount_15 ?_
  refine xw_topv (.ref b14) (by rw [nI_clamp (by decide)]; rfl) ?_
  refine va_get (D := (dC, dI)) (ci := 15) (v := .int (-1)) (C := R_Item) (T := F_ItemS) (N := 1) hx hb ht i_ItemS hown hK hP 16 rfl rfl 0 (by decide) (ht _ k_117) (fun _ h9 => h9) rfl d_House_itemCount_16 ?_
  refine lv_iconst (v := (-1)) hx hb d_House_itemCount_19 (by decide) ?_
  refine lv_icmp_eq (tgt := 26) hx hb d_House_itemCount_20 (by decide) (fun _ => ?_) (fun c_20_14 => absurd (by decide) c_20_14)
  refine lv_iinc (v := (nI 15)) (lv' := [(2, .int (nI 15)), (1, .int (nI 0)), (0, .ref h0)]) hx hb d_House_itemCount_26 hl (k := 0) rfl (by decide) (by decide) rfl (fun ls hl => ?_)
  refine lv_goto (tgt := 4) hx hb d_House_itemCount_29 (by decide) ?_
  refine lv_iload_n hx hb d_House_itemCount_4 rfl (lv_at hl 0 rfl) ?_
  refine lv_bipush (v := (nI 16)) hx hb d_House_itemCount_5 (by decide) ?_
  refine lv_icmp_ge (tgt := 32) hx hb d_House_itemCount_7 (by decide) (fun c_7 => absurd c_7 (by decide)) (fun _ => ?_)
  refine lv_aload_n hx hb d_House_itemCount_10 rfl (lv_at hl 2 rfl) ?_
  refine va_get (D := (dC, dI)) (ci := 17) (v := .ref qb) (C := R_House) (T := F_HouseS) (N := 3) hx hb ht i_HouseS hown hK hP 0 rfl rfl 1 (by decide) (ht _ k_131) (fun _ h9 => h9) rfl d_House_itemCount_11 ?_
  refine lv_iload_n hx hb d_House_itemCount_14 rfl (lv_at hl 0 rfl) ?_
  refine va_aldq hx hb hK hP 1 0 rfl rfl (vp_in_nI (by decide) (by decide)) d_House_itemCount_15 ?_
  refine xw_topv (.ref b15) (by rw [nI_clamp (by decide)]; rfl) ?_
  refine va_get (D := (dC, dI)) (ci := 15) (v := .int (-1)) (C := R_Item) (T := F_ItemS) (N := 1) hx hb ht i_ItemS hown hK hP 17 rfl rfl 0 (by decide) (ht _ k_117) (fun _ h9 => h9) rfl d_House_itemCount_16 ?_
  refine lv_iconst (v := (-1)) hx hb d_House_itemCount_19 (by decide) ?_
  refine lv_icmp_eq (tgt := 26) hx hb d_House_itemCount_20 (by decide) (fun _ => ?_) (fun c_20_15 => absurd (by decide) c_20_15)
  refine lv_iinc (v := (nI 16)) (lv' := [(2, .int (nI 16)), (1, .int (nI 0)), (0, .ref h0)]) hx hb d_House_itemCount_26 hl (k := 0) rfl (by decide) (by decide) rfl (fun ls hl => ?_)
  refine lv_goto (tgt := 4) hx hb d_House_itemCount_29 (by decide) ?_
  refine lv_iload_n hx hb d_House_itemCount_4 rfl (lv_at hl 0 rfl) ?_
  refine lv_bipush (v := (nI 16)) hx hb d_House_itemCount_5 (by decide) ?_
  refine lv_icmp_ge (tgt := 32) hx hb d_House_itemCount_7 (by decide) (fun _ => ?_) (fun c_7 => absurd (by decide) c_7)
  refine lv_iload_n hx hb d_House_itemCount_32 rfl (lv_at hl 1 rfl) ?_
  have hP9 := hP.sub (ws' := []) [] rfl
  have hD9 := hD.sub (ws' := []) [] (by decide +kernel) rfl
  have hK9 := hK.sub (tys' := []) [] rfl
  exact W.iret hx hb hr (fun t ht9 hW => ⟨⟨(nI 0), (), rfl, rfl, by rw [ht9]; exact hP9, va_K.moved hW.alike hK9, hD9⟩, hS.F ht9⟩) hS.2.2 d_House_itemCount_33
set_option maxHeartbeats 4000000 in
set_option maxRecDepth 100000 in
/-- count(n) on a new object -/
theorem c_Top_count (l : Launch) (dC : Nat → ClassId) (dI : Nat → Nat → Nat) (h0 sz qh qb qi b0 b1 b2 b3 b4 b5 i0 i1 i2 i3 i4 i5 i6 i7 i8 i9 i10 i11 i12 i13 i14 i15 : Nat) (cA cB : ClassId) (n : Int32) (v0 v1 v2 v4 v5 v6 v7 v8 : Value) : Met l y_Top_count (Cond.code y_Top_count b_Top_count 2 (Option.some Jvm.ClassFile.FieldType.int) :: xw0) ({ frames := 1, cells := 0, slots := 0, locals := 30 }) (va_Pc [.ref h0, .int n] (fun U => U.heap.size = sz ∧ va_P (dC, dI) classes [(h0, .inr (11, [v0, v1, v2, .ref qh, v4, v5, v6, v7, v8])), (qh, .inr (17, [.ref qb, .ref qi, .int 0])), (qb, .inl (cA, 6, .inr (.inr (.inr (.inr (va_up (va_up (va_up (va_up (va_up (va_up (fun _ => none) 0 (some b0)) 1 (some b1)) 2 (some b2)) 3 (some b3)) 4 (some b4)) 5 (some b5))))))), (b0, .inr (14, [.int (-1)])), (b1, .inr (14, [.int (-1)])), (b2, .inr (14, [.int (-1)])), (b3, .inr (14, [.int (-1)])), (b4, .inr (14, [.int (-1)])), (b5, .inr (14, [.int (-1)])), (qi, .inl (cB, 16, .inr (.inr (.inr (.inr (va_up (va_up (va_up (va_up (va_up (va_up (va_up (va_up (va_up (va_up (va_up (va_up (va_up (va_up (va_up (va_up (fun _ => none) 0 (some i0)) 1 (some i1)) 2 (some i2)) 3 (some i3)) 4 (some i4)) 5 (some i5)) 6 (some i6)) 7 (some i7)) 8 (some i8)) 9 (some i9)) 10 (some i10)) 11 (some i11)) 12 (some i12)) 13 (some i13)) 14 (some i14)) 15 (some i15))))))), (i0, .inr (15, [.int (-1)])), (i1, .inr (15, [.int (-1)])), (i2, .inr (15, [.int (-1)])), (i3, .inr (15, [.int (-1)])), (i4, .inr (15, [.int (-1)])), (i5, .inr (15, [.int (-1)])), (i6, .inr (15, [.int (-1)])), (i7, .inr (15, [.int (-1)])), (i8, .inr (15, [.int (-1)])), (i9, .inr (15, [.int (-1)])), (i10, .inr (15, [.int (-1)])), (i11, .inr (15, [.int (-1)])), (i12, .inr (15, [.int (-1)])), (i13, .inr (15, [.int (-1)])), (i14, .inr (15, [.int (-1)])), (i15, .inr (15, [.int (-1)]))] U.heap ∧ va_K (dC, dI) classes [(cA, .object R_Book), (cB, .object R_Item)] U ∧ va_D (fun _ => True) [(h0, .inr (11, [v0, v1, v2, .ref qh, v4, v5, v6, v7, v8])), (qh, .inr (17, [.ref qb, .ref qi, .int 0])), (qb, .inl (cA, 6, .inr (.inr (.inr (.inr (va_up (va_up (va_up (va_up (va_up (va_up (fun _ => none) 0 (some b0)) 1 (some b1)) 2 (some b2)) 3 (some b3)) 4 (some b4)) 5 (some b5))))))), (b0, .inr (14, [.int (-1)])), (b1, .inr (14, [.int (-1)])), (b2, .inr (14, [.int (-1)])), (b3, .inr (14, [.int (-1)])), (b4, .inr (14, [.int (-1)])), (b5, .inr (14, [.int (-1)])), (qi, .inl (cB, 16, .inr (.inr (.inr (.inr (va_up (va_up (va_up (va_up (va_up (va_up (va_up (va_up (va_up (va_up (va_up (va_up (va_up (va_up (va_up (va_up (fun _ => none) 0 (some i0)) 1 (some i1)) 2 (some i2)) 3 (some i3)) 4 (some i4)) 5 (some i5)) 6 (some i6)) 7 (some i7)) 8 (some i8)) 9 (some i9)) 10 (some i10)) 11 (some i11)) 12 (some i12)) 13 (some i13)) 14 (some i14)) 15 (some i15))))))), (i0, .inr (15, [.int (-1)])), (i1, .inr (15, [.int (-1)])), (i2, .inr (15, [.int (-1)])), (i3, .inr (15, [.int (-1)])), (i4, .inr (15, [.int (-1)])), (i5, .inr (15, [.int (-1)])), (i6, .inr (15, [.int (-1)])), (i7, .inr (15, [.int (-1)])), (i8, .inr (15, [.int (-1)])), (i9, .inr (15, [.int (-1)])), (i10, .inr (15, [.int (-1)])), (i11, .inr (15, [.int (-1)])), (i12, .inr (15, [.int (-1)])), (i13, .inr (15, [.int (-1)])), (i14, .inr (15, [.int (-1)])), (i15, .inr (15, [.int (-1)]))])) (va_Qi (fun (r : Int32) (_ : Unit) => r = xc n) (fun (_ : Unit) (t : State) => va_P (dC, dI) classes [] t.heap ∧ va_K (dC, dI) classes [] t ∧ va_D (va_A [(h0, .inr (11, [v0, v1, v2, .ref qh, v4, v5, v6, v7, v8])), (qh, .inr (17, [.ref qb, .ref qi, .int 0])), (qb, .inl (cA, 6, .inr (.inr (.inr (.inr (va_up (va_up (va_up (va_up (va_up (va_up (fun _ => none) 0 (some b0)) 1 (some b1)) 2 (some b2)) 3 (some b3)) 4 (some b4)) 5 (some b5))))))), (b0, .inr (14, [.int (-1)])), (b1, .inr (14, [.int (-1)])), (b2, .inr (14, [.int (-1)])), (b3, .inr (14, [.int (-1)])), (b4, .inr (14, [.int (-1)])), (b5, .inr (14, [.int (-1)])), (qi, .inl (cB, 16, .inr (.inr (.inr (.inr (va_up (va_up (va_up (va_up (va_up (va_up (va_up (va_up (va_up (va_up (va_up (va_up (va_up (va_up (va_up (va_up (fun _ => none) 0 (some i0)) 1 (some i1)) 2 (some i2)) 3 (some i3)) 4 (some i4)) 5 (some i5)) 6 (some i6)) 7 (some i7)) 8 (some i8)) 9 (some i9)) 10 (some i10)) 11 (some i11)) 12 (some i12)) 13 (some i13)) 14 (some i14)) 15 (some i15))))))), (i0, .inr (15, [.int (-1)])), (i1, .inr (15, [.int (-1)])), (i2, .inr (15, [.int (-1)])), (i3, .inr (15, [.int (-1)])), (i4, .inr (15, [.int (-1)])), (i5, .inr (15, [.int (-1)])), (i6, .inr (15, [.int (-1)])), (i7, .inr (15, [.int (-1)])), (i8, .inr (15, [.int (-1)])), (i9, .inr (15, [.int (-1)])), (i10, .inr (15, [.int (-1)])), (i11, .inr (15, [.int (-1)])), (i12, .inr (15, [.int (-1)])), (i13, .inr (15, [.int (-1)])), (i14, .inr (15, [.int (-1)])), (i15, .inr (15, [.int (-1)]))] sz) []) (va_A [(h0, .inr (11, [v0, v1, v2, .ref qh, v4, v5, v6, v7, v8])), (qh, .inr (17, [.ref qb, .ref qi, .int 0])), (qb, .inl (cA, 6, .inr (.inr (.inr (.inr (va_up (va_up (va_up (va_up (va_up (va_up (fun _ => none) 0 (some b0)) 1 (some b1)) 2 (some b2)) 3 (some b3)) 4 (some b4)) 5 (some b5))))))), (b0, .inr (14, [.int (-1)])), (b1, .inr (14, [.int (-1)])), (b2, .inr (14, [.int (-1)])), (b3, .inr (14, [.int (-1)])), (b4, .inr (14, [.int (-1)])), (b5, .inr (14, [.int (-1)])), (qi, .inl (cB, 16, .inr (.inr (.inr (.inr (va_up (va_up (va_up (va_up (va_up (va_up (va_up (va_up (va_up (va_up (va_up (va_up (va_up (va_up (va_up (va_up (fun _ => none) 0 (some i0)) 1 (some i1)) 2 (some i2)) 3 (some i3)) 4 (some i4)) 5 (some i5)) 6 (some i6)) 7 (some i7)) 8 (some i8)) 9 (some i9)) 10 (some i10)) 11 (some i11)) 12 (some i12)) 13 (some i13)) 14 (some i14)) 15 (some i15))))))), (i0, .inr (15, [.int (-1)])), (i1, .inr (15, [.int (-1)])), (i2, .inr (15, [.int (-1)])), (i3, .inr (15, [.int (-1)])), (i4, .inr (15, [.int (-1)])), (i5, .inr (15, [.int (-1)])), (i6, .inr (15, [.int (-1)])), (i7, .inr (15, [.int (-1)])), (i8, .inr (15, [.int (-1)])), (i9, .inr (15, [.int (-1)])), (i10, .inr (15, [.int (-1)])), (i11, .inr (15, [.int (-1)])), (i12, .inr (15, [.int (-1)])), (i13, .inr (15, [.int (-1)])), (i14, .inr (15, [.int (-1)])), (i15, .inr (15, [.int (-1)]))] sz)) 0 0 (va_A [(h0, .inr (11, [v0, v1, v2, .ref qh, v4, v5, v6, v7, v8])), (qh, .inr (17, [.ref qb, .ref qi, .int 0])), (qb, .inl (cA, 6, .inr (.inr (.inr (.inr (va_up (va_up (va_up (va_up (va_up (va_up (fun _ => none) 0 (some b0)) 1 (some b1)) 2 (some b2)) 3 (some b3)) 4 (some b4)) 5 (some b5))))))), (b0, .inr (14, [.int (-1)])), (b1, .inr (14, [.int (-1)])), (b2, .inr (14, [.int (-1)])), (b3, .inr (14, [.int (-1)])), (b4, .inr (14, [.int (-1)])), (b5, .inr (14, [.int (-1)])), (qi, .inl (cB, 16, .inr (.inr (.inr (.inr (va_up (va_up (va_up (va_up (va_up (va_up (va_up (va_up (va_up (va_up (va_up (va_up (va_up (va_up (va_up (va_up (fun _ => none) 0 (some i0)) 1 (some i1)) 2 (some i2)) 3 (some i3)) 4 (some i4)) 5 (some i5)) 6 (some i6)) 7 (some i7)) 8 (some i8)) 9 (some i9)) 10 (some i10)) 11 (some i11)) 12 (some i12)) 13 (some i13)) 14 (some i14)) 15 (some i15))))))), (i0, .inr (15, [.int (-1)])), (i1, .inr (15, [.int (-1)])), (i2, .inr (15, [.int (-1)])), (i3, .inr (15, [.int (-1)])), (i4, .inr (15, [.int (-1)])), (i5, .inr (15, [.int (-1)])), (i6, .inr (15, [.int (-1)])), (i7, .inr (15, [.int (-1)])), (i8, .inr (15, [.int (-1)])), (i9, .inr (15, [.int (-1)])), (i10, .inr (15, [.int (-1)])), (i11, .inr (15, [.int (-1)])), (i12, .inr (15, [.int (-1)])), (i13, .inr (15, [.int (-1)])), (i14, .inr (15, [.int (-1)])), (i15, .inr (15, [.int (-1)]))] sz) := by
  refine Met.ofW (cc := b_Top_count) (maxL := 2) (ret := (Option.some Jvm.ClassFile.FieldType.int)) (by decide) rfl ?_
  intro p e s m args below meth c s₁ B hml hv
  obtain ⟨rfl, hsz, hP, hK, hD0⟩ := hv
  have hx := B.exec
  have hb := B.bytes
  have hr := B.returns
  have hts := atoms_spec (ws := Cond.code y_Top_count b_Top_count 2 (Option.some Jvm.ClassFile.FieldType.int) :: xw0) B.pre
  have ht : ∀ w ∈ xw0, w.before _ s = true := fun w h => hts w (List.mem_cons_of_mem _ h)
  have hown : s.vm.findClass R_Top = some m.cls := findClass_of_methodNamed B.named
  have hlocks := B.notSynchronized
  subst hsz
  have hD := hD0.self (sz := s.heap.size)
  generalize hAe : va_A [(h0, .inr (11, [v0, v1, v2, .ref qh, v4, v5, v6, v7, v8])), (qh, .inr (17, [.ref qb, .ref qi, .int 0])), (qb, .inl (cA, 6, .inr (.inr (.inr (.inr (va_up (va_up (va_up (va_up (va_up (va_up (fun _ => none) 0 (some b0)) 1 (some b1)) 2 (some b2)) 3 (some b3)) 4 (some b4)) 5 (some b5))))))), (b0, .inr (14, [.int (-1)])), (b1, .inr (14, [.int (-1)])), (b2, .inr (14, [.int (-1)])), (b3, .inr (14, [.int (-1)])), (b4, .inr (14, [.int (-1)])), (b5, .inr (14, [.int (-1)])), (qi, .inl (cB, 16, .inr (.inr (.inr (.inr (va_up (va_up (va_up (va_up (va_up (va_up (va_up (va_up (va_up (va_up (va_up (va_up (va_up (va_up (va_up (va_up (fun _ => none) 0 (some i0)) 1 (some i1)) 2 (some i2)) 3 (some i3)) 4 (some i4)) 5 (some i5)) 6 (some i6)) 7 (some i7)) 8 (some i8)) 9 (some i9)) 10 (some i10)) 11 (some i11)) 12 (some i12)) 13 (some i13)) 14 (some i14)) 15 (some i15))))))), (i0, .inr (15, [.int (-1)])), (i1, .inr (15, [.int (-1)])), (i2, .inr (15, [.int (-1)])), (i3, .inr (15, [.int (-1)])), (i4, .inr (15, [.int (-1)])), (i5, .inr (15, [.int (-1)])), (i6, .inr (15, [.int (-1)])), (i7, .inr (15, [.int (-1)])), (i8, .inr (15, [.int (-1)])), (i9, .inr (15, [.int (-1)])), (i10, .inr (15, [.int (-1)])), (i11, .inr (15, [.int (-1)])), (i12, .inr (15, [.int (-1)])), (i13, .inr (15, [.int (-1)])), (i14, .inr (15, [.int (-1)])), (i15, .inr (15, [.int (-1)]))] s.heap.size = A at hD ⊢
  have hA : ∀ q : Nat, s.heap.size ≤ q → A q := fun q h => by rw [← hAe]; exact Or.inr h
  have hS : va_S A s.heap s.heap [] := va_S.rf
  have hP : va_P (dC, dI) classes [(h0, .inr (11, [v0, v1, v2, .ref qh, v4, v5, v6, v7, v8])), (qh, .inr (17, [.ref qb, .ref qi, .int 0])), (qb, .inl (cA, 6, .inr (.inr (.inr (.inr (va_up (va_up (va_up (va_up (va_up (va_up (fun _ => none) 0 (some b0)) 1 (some b1)) 2 (some b2)) 3 (some b3)) 4 (some b4)) 5 (some b5))))))), (b0, .inr (14, [.int (-1)])), (b1, .inr (14, [.int (-1)])), (b2, .inr (14, [.int (-1)])), (b3, .inr (14, [.int (-1)])), (b4, .inr (14, [.int (-1)])), (b5, .inr (14, [.int (-1)])), (qi, .inl (cB, 16, .inr (.inr (.inr (.inr (va_up (va_up (va_up (va_up (va_up (va_up (va_up (va_up (va_up (va_up (va_up (va_up (va_up (va_up (va_up (va_up (fun _ => none) 0 (some i0)) 1 (some i1)) 2 (some i2)) 3 (some i3)) 4 (some i4)) 5 (some i5)) 6 (some i6)) 7 (some i7)) 8 (some i8)) 9 (some i9)) 10 (some i10)) 11 (some i11)) 12 (some i12)) 13 (some i13)) 14 (some i14)) 15 (some i15))))))), (i0, .inr (15, [.int (-1)])), (i1, .inr (15, [.int (-1)])), (i2, .inr (15, [.int (-1)])), (i3, .inr (15, [.int (-1)])), (i4, .inr (15, [.int (-1)])), (i5, .inr (15, [.int (-1)])), (i6, .inr (15, [.int (-1)])), (i7, .inr (15, [.int (-1)])), (i8, .inr (15, [.int (-1)])), (i9, .inr (15, [.int (-1)])), (i10, .inr (15, [.int (-1)])), (i11, .inr (15, [.int (-1)])), (i12, .inr (15, [.int (-1)])), (i13, .inr (15, [.int (-1)])), (i14, .inr (15, [.int (-1)])), (i15, .inr (15, [.int (-1)]))] s.heap := hP
  have hl := lv_entry ([.ref h0, .int n]) (n := 2) (Nat.le_of_ble_eq_true rfl)
  rw [lg_entry_eq]
  generalize (lg_sl ([.ref h0, .int n]) ++ List.replicate (2 - (lg_sl ([.ref h0, .int n])).length) Slot.unset).toArray = ls at hl ⊢
  have hl : lv_has ls 2 [(0, .ref h0), (1, .int n)] := hl
  refine lv_iload_n hx hb d_Top_count_0 rfl (lv_at hl 1 rfl) ?_
  by_cases e_0 : n = 0
  · subst e_0
    refine lv_tableIn (tgt := 28) hx hb d_Top_count_1 (by decide) (by decide) rfl (by decide) ?_
    refine lv_aload_n hx hb d_Top_count_28 rfl (lv_at hl 0 rfl) ?_
    refine va_get (D := (dC, dI)) (ci := 11) (v := .ref qh) (C := R_Top) (T := F_Top) (N := 9) hx hb ht i_Top hown hK hP 0 rfl rfl 3 (by decide) (ht _ k_353) (fun _ h9 => h9) rfl d_Top_count_29 ?_
    have hPc := hP.sub (ws' := [(qh, .inr (17, [.ref qb, .ref qi, .int 0])), (qb, .inl (cA, 6, .inr (.inr (.inr (.inr (va_up (va_up (va_up (va_up (va_up (va_up (fun _ => none) 0 (some b0)) 1 (some b1)) 2 (some b2)) 3 (some b3)) 4 (some b4)) 5 (some b5))))))), (b0, .inr (14, [.int (-1)])), (b1, .inr (14, [.int (-1)])), (b2, .inr (14, [.int (-1)])), (b3, .inr (14, [.int (-1)])), (b4, .inr (14, [.int (-1)])), (b5, .inr (14, [.int (-1)]))]) [1, 2, 3, 4, 5, 6, 7, 8] rfl
    have hDc := hD.sub (ws' := [(qh, .inr (17, [.ref qb, .ref qi, .int 0])), (qb, .inl (cA, 6, .inr (.inr (.inr (.inr (va_up (va_up (va_up (va_up (va_up (va_up (fun _ => none) 0 (some b0)) 1 (some b1)) 2 (some b2)) 3 (some b3)) 4 (some b4)) 5 (some b5))))))), (b0, .inr (14, [.int (-1)])), (b1, .inr (14, [.int (-1)])), (b2, .inr (14, [.int (-1)])), (b3, .inr (14, [.int (-1)])), (b4, .inr (14, [.int (-1)])), (b5, .inr (14, [.int (-1)]))]) [1, 2, 3, 4, 5, 6, 7, 8] (by decide +kernel) rfl
    have hKc := hK.sub (tys' := [(cA, .object R_Book)]) [0] rfl
    have hFc := va_free (wc := [(qh, .inr (17, [.ref qb, .ref qi, .int 0])), (qb, .inl (cA, 6, .inr (.inr (.inr (.inr (va_up (va_up (va_up (va_up (va_up (va_up (fun _ => none) 0 (some b0)) 1 (some b1)) 2 (some b2)) 3 (some b3)) 4 (some b4)) 5 (some b5))))))), (b0, .inr (14, [.int (-1)])), (b1, .inr (14, [.int (-1)])), (b2, .inr (14, [.int (-1)])), (b3, .inr (14, [.int (-1)])), (b4, .inr (14, [.int (-1)])), (b5, .inr (14, [.int (-1)]))]) hD hS hA [1, 2, 3, 4, 5, 6, 7, 8] rfl
    refine va_calli (va_runV (As := []) (rest := []) ⟨hx, hb, hml, hown, ht⟩ (c_House_bookCount0 l dC dI qh s.heap.size qb b0 b1 b2 b3 b4 b5 cA (.ref qi) (.int 0)) ⟨callB_of 0 ht (xw_good k_461) rfl rfl rfl (ht _ k_4) (ht _ k_458) (by decide +kernel) ⟨(Nat.le_of_ble_eq_true rfl), (Nat.le_of_ble_eq_true rfl)⟩, ht _ k_459, ht _ k_460⟩ ⟨fun a U g mk q => by obtain ⟨q0, q1, qP, qK, qD⟩ := q; exact ⟨q0, q1, qP, va_K.moved (u := U) (U := U.calling g mk a) (Vm.Alike.refl U.vm) qK, qD⟩, va_recv hKc hPc (ci := 17) (q0 := 0) rfl rfl, fun U hU hW => ⟨rfl, by rw [hU], by rw [hU]; exact hPc, va_K.moved hW.alike hKc, hDc.weaken (fun _ _ _ _ => trivial)⟩⟩ rfl rfl hl.1 rfl (lv_room (Nat.le_of_ble_eq_true rfl)) d_Top_count_32 ⟨(Nat.le_of_ble_eq_true rfl), (Nat.le_of_ble_eq_true rfl)⟩) hS (fun q _ h => hFc q h) hFc (fun r101 u t H1 locs ht9 hvm hw hB hz1 hk1 hS => ?_)
    obtain ⟨hP1, hK1, hD1⟩ := hB
    rw [ht9] at hP1
    have hK1 := va_K.moved hvm.symm hK1
    obtain ⟨hP, hD⟩ := va_join (wr := [(h0, .inr (11, [v0, v1, v2, .ref qh, v4, v5, v6, v7, v8])), (qi, .inl (cB, 16, .inr (.inr (.inr (.inr (va_up (va_up (va_up (va_up (va_up (va_up (va_up (va_up (va_up (va_up (va_up (va_up (va_up (va_up (va_up (va_up (fun _ => none) 0 (some i0)) 1 (some i1)) 2 (some i2)) 3 (some i3)) 4 (some i4)) 5 (some i5)) 6 (some i6)) 7 (some i7)) 8 (some i8)) 9 (some i9)) 10 (some i10)) 11 (some i11)) 12 (some i12)) 13 (some i13)) 14 (some i14)) 15 (some i15))))))), (i0, .inr (15, [.int (-1)])), (i1, .inr (15, [.int (-1)])), (i2, .inr (15, [.int (-1)])), (i3, .inr (15, [.int (-1)])), (i4, .inr (15, [.int (-1)])), (i5, .inr (15, [.int (-1)])), (i6, .inr (15, [.int (-1)])), (i7, .inr (15, [.int (-1)])), (i8, .inr (15, [.int (-1)])), (i9, .inr (15, [.int (-1)])), (i10, .inr (15, [.int (-1)])), (i11, .inr (15, [.int (-1)])), (i12, .inr (15, [.int (-1)])), (i13, .inr (15, [.int (-1)])), (i14, .inr (15, [.int (-1)])), (i15, .inr (15, [.int (-1)]))]) (w1 := []) hP hD [1, 2, 3, 4, 5, 6, 7, 8] [0, 9, 10, 11, 12, 13, 14, 15, 16, 17, 18, 19, 20, 21, 22, 23, 24, 25] rfl rfl (by decide +kernel) (by decide +kernel) hk1 hFc hP1 hD1
    have hK := (hK.sub (tys' := [(cB, .object R_Item)]) [1] rfl).app hK1
    generalize H1 = H at hP hS ⊢
    have hP : va_P (dC, dI) classes [(h0, .inr (11, [v0, v1, v2, .ref qh, v4, v5, v6, v7, v8])), (qi, .inl (cB, 16, .inr (.inr (.inr (.inr (va_up (va_up (va_up (va_up (va_up (va_up (va_up (va_up (va_up (va_up (va_up (va_up (va_up (va_up (va_up (va_up (fun _ => none) 0 (some i0)) 1 (some i1)) 2 (some i2)) 3 (some i3)) 4 (some i4)) 5 (some i5)) 6 (some i6)) 7 (some i7)) 8 (some i8)) 9 (some i9)) 10 (some i10)) 11 (some i11)) 12 (some i12)) 13 (some i13)) 14 (some i14)) 15 (some i15))))))), (i0, .inr (15, [.int (-1)])), (i1, .inr (15, [.int (-1)])), (i2, .inr (15, [.int (-1)])), (i3, .inr (15, [.int (-1)])), (i4, .inr (15, [.int (-1)])), (i5, .inr (15, [.int (-1)])), (i6, .inr (15, [.int (-1)])), (i7, .inr (15, [.int (-1)])), (i8, .inr (15, [.int (-1)])), (i9, .inr (15, [.int (-1)])), (i10, .inr (15, [.int (-1)])), (i11, .inr (15, [.int (-1)])), (i12, .inr (15, [.int (-1)])), (i13, .inr (15, [.int (-1)])), (i14, .inr (15, [.int (-1)])), (i15, .inr (15, [.int (-1)]))] H := hP
    have hD : va_D A [(h0, .inr (11, [v0, v1, v2, .ref qh, v4, v5, v6, v7, v8])), (qi, .inl (cB, 16, .inr (.inr (.inr (.inr (va_up (va_up (va_up (va_up (va_up (va_up (va_up (va_up (va_up (va_up (va_up (va_up (va_up (va_up (va_up (va_up (fun _ => none) 0 (some i0)) 1 (some i1)) 2 (some i2)) 3 (some i3)) 4 (some i4)) 5 (some i5)) 6 (some i6)) 7 (some i7)) 8 (some i8)) 9 (some i9)) 10 (some i10)) 11 (some i11)) 12 (some i12)) 13 (some i13)) 14 (some i14)) 15 (some i15))))))), (i0, .inr (15, [.int (-1)])), (i1, .inr (15, [.int (-1)])), (i2, .inr (15, [.int (-1)])), (i3, .inr (15, [.int (-1)])), (i4, .inr (15, [.int (-1)])), (i5, .inr (15, [.int (-1)])), (i6, .inr (15, [.int (-1)])), (i7, .inr (15, [.int (-1)])), (i8, .inr (15, [.int (-1)])), (i9, .inr (15, [.int (-1)])), (i10, .inr (15, [.int (-1)])), (i11, .inr (15, [.int (-1)])), (i12, .inr (15, [.int (-1)])), (i13, .inr (15, [.int (-1)])), (i14, .inr (15, [.int (-1)])), (i15, .inr (15, [.int (-1)]))] := hD
    have hK : va_K (dC, dI) classes [(cB, .object R_Item)] s := hK
    refine W.widen (k := 0) (n := 0) (by omega) (by omega) ?_
    have hw : r101 = 0 := hw
    subst hw
    have hP9 := hP.sub (ws' := []) [] rfl
    have hD9 := hD.sub (ws' := []) [] (by decide +kernel) rfl
    have hK9 := hK.sub (tys' := []) [] rfl
    exact W.iret hx hb hr (fun t ht9 hW => ⟨⟨0, (), rfl, (by decide), by rw [ht9]; exact hP9, va_K.moved hW.alike hK9, hD9⟩, hS.F ht9⟩) hS.2.2 d_Top_count_35
  · by_cases e_1 : n = 1
    · subst e_1
      refine lv_tableIn (tgt := 36) hx hb d_Top_count_1 (by decide) (by decide) rfl (by decide) ?_
      refine lv_aload_n hx hb d_Top_count_36 rfl (lv_at hl 0 rfl) ?_
      refine va_get (D := (dC, dI)) (ci := 11) (v := .ref qh) (C := R_Top) (T := F_Top) (N := 9) hx hb ht i_Top hown hK hP 0 rfl rfl 3 (by decide) (ht _ k_353) (fun _ h9 => h9) rfl d_Top_count_37 ?_
      have hPc := hP.sub (ws' := [(qh, .inr (17, [.ref qb, .ref qi, .int 0])), (qi, .inl (cB, 16, .inr (.inr (.inr (.inr (va_up (va_up (va_up (va_up (va_up (va_up (va_up (va_up (va_up (va_up (va_up (va_up (va_up (va_up (va_up (va_up (fun _ => none) 0 (some i0)) 1 (some i1)) 2 (some i2)) 3 (some i3)) 4 (some i4)) 5 (some i5)) 6 (some i6)) 7 (some i7)) 8 (some i8)) 9 (some i9)) 10 (some i10)) 11 (some i11)) 12 (some i12)) 13 (some i13)) 14 (some i14)) 15 (some i15))))))), (i0, .inr (15, [.int (-1)])), (i1, .inr (15, [.int (-1)])), (i2, .inr (15, [.int (-1)])), (i3, .inr (15, [.int (-1)])), (i4, .inr (15, [.int (-1)])), (i5, .inr (15, [.int (-1)])), (i6, .inr (15, [.int (-1)])), (i7, .inr (15, [.int (-1)])), (i8, .inr (15, [.int (-1)])), (i9, .inr (15, [.int (-1)])), (i10, .inr (15, [.int (-1)])), (i11, .inr (15, [.int (-1)])), (i12, .inr (15, [.int (-1)])), (i13, .inr (15, [.int (-1)])), (i14, .inr (15, [.int (-1)])), (i15, .inr (15, [.int (-1)]))]) [1, 9, 10, 11, 12, 13, 14, 15, 16, 17, 18, 19, 20, 21, 22, 23, 24, 25] rfl
      have hDc := hD.sub (ws' := [(qh, .inr (17, [.ref qb, .ref qi, .int 0])), (qi, .inl (cB, 16, .inr (.inr (.inr (.inr (va_up (va_up (va_up (va_up (va_up (va_up (va_up (va_up (va_up (va_up (va_up (va_up (va_up (va_up (va_up (va_up (fun _ => none) 0 (some i0)) 1 (some i1)) 2 (some i2)) 3 (some i3)) 4 (some i4)) 5 (some i5)) 6 (some i6)) 7 (some i7)) 8 (some i8)) 9 (some i9)) 10 (some i10)) 11 (some i11)) 12 (some i12)) 13 (some i13)) 14 (some i14)) 15 (some i15))))))), (i0, .inr (15, [.int (-1)])), (i1, .inr (15, [.int (-1)])), (i2, .inr (15, [.int (-1)])), (i3, .inr (15, [.int (-1)])), (i4, .inr (15, [.int (-1)])), (i5, .inr (15, [.int (-1)])), (i6, .inr (15, [.int (-1)])), (i7, .inr (15, [.int (-1)])), (i8, .inr (15, [.int (-1)])), (i9, .inr (15, [.int (-1)])), (i10, .inr (15, [.int (-1)])), (i11, .inr (15, [.int (-1)])), (i12, .inr (15, [.int (-1)])), (i13, .inr (15, [.int (-1)])), (i14, .inr (15, [.int (-1)])), (i15, .inr (15, [.int (-1)]))]) [1, 9, 10, 11, 12, 13, 14, 15, 16, 17, 18, 19, 20, 21, 22, 23, 24, 25] (by decide +kernel) rfl
      have hKc := hK.sub (tys' := [(cB, .object R_Item)]) [1] rfl
      have hFc := va_free (wc := [(qh, .inr (17, [.ref qb, .ref qi, .int 0])), (qi, .inl (cB, 16, .inr (.inr (.inr (.inr (va_up (va_up (va_up (va_up (va_up (va_up (va_up (va_up (va_up (va_up (va_up (va_up (va_up (va_up (va_up (va_up (fun _ => none) 0 (some i0)) 1 (some i1)) 2 (some i2)) 3 (some i3)) 4 (some i4)) 5 (some i5)) 6 (some i6)) 7 (some i7)) 8 (some i8)) 9 (some i9)) 10 (some i10)) 11 (some i11)) 12 (some i12)) 13 (some i13)) 14 (some i14)) 15 (some i15))))))), (i0, .inr (15, [.int (-1)])), (i1, .inr (15, [.int (-1)])), (i2, .inr (15, [.int (-1)])), (i3, .inr (15, [.int (-1)])), (i4, .inr (15, [.int (-1)])), (i5, .inr (15, [.int (-1)])), (i6, .inr (15, [.int (-1)])), (i7, .inr (15, [.int (-1)])), (i8, .inr (15, [.int (-1)])), (i9, .inr (15, [.int (-1)])), (i10, .inr (15, [.int (-1)])), (i11, .inr (15, [.int (-1)])), (i12, .inr (15, [.int (-1)])), (i13, .inr (15, [.int (-1)])), (i14, .inr (15, [.int (-1)])), (i15, .inr (15, [.int (-1)]))]) hD hS hA [1, 9, 10, 11, 12, 13, 14, 15, 16, 17, 18, 19, 20, 21, 22, 23, 24, 25] rfl
      refine va_calli (va_runV (As := []) (rest := []) ⟨hx, hb, hml, hown, ht⟩ (c_House_itemCount0 l dC dI qh s.heap.size qi i0 i1 i2 i3 i4 i5 i6 i7 i8 i9 i10 i11 i12 i13 i14 i15 cB (.ref qb) (.int 0)) ⟨callB_of 0 ht (xw_good k_465) rfl rfl rfl (ht _ k_4) (ht _ k_462) (by decide +kernel) ⟨(Nat.le_of_ble_eq_true rfl), (Nat.le_of_ble_eq_true rfl)⟩, ht _ k_463, ht _ k_464⟩ ⟨fun a U g mk q => by obtain ⟨q0, q1, qP, qK, qD⟩ := q; exact ⟨q0, q1, qP, va_K.moved (u := U) (U := U.calling g mk a) (Vm.Alike.refl U.vm) qK, qD⟩, va_recv hKc hPc (ci := 17) (q0 := 0) rfl rfl, fun U hU hW => ⟨rfl, by rw [hU], by rw [hU]; exact hPc, va_K.moved hW.alike hKc, hDc.weaken (fun _ _ _ _ => trivial)⟩⟩ rfl rfl hl.1 rfl (lv_room (Nat.le_of_ble_eq_true rfl)) d_Top_count_40 ⟨(Nat.le_of_ble_eq_true rfl), (Nat.le_of_ble_eq_true rfl)⟩) hS (fun q _ h => hFc q h) hFc (fun r201 u t H1 locs ht9 hvm hw hB hz1 hk1 hS => ?_)
      obtain ⟨hP1, hK1, hD1⟩ := hB
      rw [ht9] at hP1
      have hK1 := va_K.moved hvm.symm hK1
      obtain ⟨hP, hD⟩ := va_join (wr := [(h0, .inr (11, [v0, v1, v2, .ref qh, v4, v5, v6, v7, v8])), (qb, .inl (cA, 6, .inr (.inr (.inr (.inr (va_up (va_up (va_up (va_up (va_up (va_up (fun _ => none) 0 (some b0)) 1 (some b1)) 2 (some b2)) 3 (some b3)) 4 (some b4)) 5 (some b5))))))), (b0, .inr (14, [.int (-1)])), (b1, .inr (14, [.int (-1)])), (b2, .inr (14, [.int (-1)])), (b3, .inr (14, [.int (-1)])), (b4, .inr (14, [.int (-1)])), (b5, .inr (14, [.int (-1)]))]) (w1 := []) hP hD [1, 9, 10, 11, 12, 13, 14, 15, 16, 17, 18, 19, 20, 21, 22, 23, 24, 25] [0, 2, 3, 4, 5, 6, 7, 8] rfl rfl (by decide +kernel) (by decide +kernel) hk1 hFc hP1 hD1
      have hK := (hK.sub (tys' := [(cA, .object R_Book)]) [0] rfl).app hK1
      generalize H1 = H at hP hS ⊢
      have hP : va_P (dC, dI) classes [(h0, .inr (11, [v0, v1, v2, .ref qh, v4, v5, v6, v7, v8])), (qb, .inl (cA, 6, .inr (.inr (.inr (.inr (va_up (va_up (va_up (va_up (va_up (va_up (fun _ => none) 0 (some b0)) 1 (some b1)) 2 (some b2)) 3 (some b3)) 4 (some b4)) 5 (some b5))))))), (b0, .inr (14, [.int (-1)])), (b1, .inr (14, [.int (-1)])), (b2, .inr (14, [.int (-1)])), (b3, .inr (14, [.int (-1)])), (b4, .inr (14, [.int (-1)])), (b5, .inr (14, [.int (-1)]))] H := hP
      have hD : va_D A [(h0, .inr (11, [v0, v1, v2, .ref qh, v4, v5, v6, v7, v8])), (qb, .inl (cA, 6, .inr (.inr (.inr (.inr (va_up (va_up (va_up (va_up (va_up (va_up (fun _ => none) 0 (some b0)) 1 (some b1)) 2 (some b2)) 3 (some b3)) 4 (some b4)) 5 (some b5))))))), (b0, .inr (14, [.int (-1)])), (b1, .inr (14, [.int (-1)])), (b2, .inr (14, [.int (-1)])), (b3, .inr (14, [.int (-1)])), (b4, .inr (14, [.int (-1)])), (b5, .inr (14, [.int (-1)]))] := hD
      have hK : va_K (dC, dI) classes [(cA, .object R_Book)] s := hK
      refine W.widen (k := 0) (n := 0) (by omega) (by omega) ?_
      have hw : r201 = 0 := hw
      subst hw
      have hP9 := hP.sub (ws' := []) [] rfl
      have hD9 := hD.sub (ws' := []) [] (by decide +kernel) rfl
      have hK9 := hK.sub (tys' := []) [] rfl
      exact W.iret hx hb hr (fun t ht9 hW => ⟨⟨0, (), rfl, (by decide), by rw [ht9]; exact hP9, va_K.moved hW.alike hK9, hD9⟩, hS.F ht9⟩) hS.2.2 d_Top_count_43
    · by_cases e_2 : n = 2
      · subst e_2
        refine lv_tableIn (tgt := 44) hx hb d_Top_count_1 (by decide) (by decide) rfl (by decide) ?_
        refine lv_aload_n hx hb d_Top_count_44 rfl (lv_at hl 0 rfl) ?_
        refine va_get (D := (dC, dI)) (ci := 11) (v := .ref qh) (C := R_Top) (T := F_Top) (N := 9) hx hb ht i_Top hown hK hP 0 rfl rfl 3 (by decide) (ht _ k_353) (fun _ h9 => h9) rfl d_Top_count_45 ?_
        refine va_get (D := (dC, dI)) (ci := 17) (v := .int 0) (C := R_House) (T := F_HouseS) (N := 3) hx hb ht i_HouseS hown hK hP 1 rfl rfl 2 (by decide) (ht _ k_132) (fun _ h9 => h9) rfl d_Top_count_48 ?_
        have hP9 := hP.sub (ws' := []) [] rfl
        have hD9 := hD.sub (ws' := []) [] (by decide +kernel) rfl
        have hK9 := hK.sub (tys' := []) [] rfl
        exact W.iret hx hb hr (fun t ht9 hW => ⟨⟨0, (), rfl, (by decide), by rw [ht9]; exact hP9, va_K.moved hW.alike hK9, hD9⟩, hS.F ht9⟩) hS.2.2 d_Top_count_51
      · refine lv_tableOut (tgt := 52) hx hb d_Top_count_1 (xh_tab e_0 e_1 e_2) (by decide) ?_
        refine lv_iconst (v := (-1)) hx hb d_Top_count_52 (by decide) ?_
        have hP9 := hP.sub (ws' := []) [] rfl
        have hD9 := hD.sub (ws' := []) [] (by decide +kernel) rfl
        have hK9 := hK.sub (tys' := []) [] rfl
        exact W.iret hx hb hr (fun t ht9 hW => ⟨⟨(-1), (), rfl, (by show _ = xc _; unfold xc; rw [if_neg e_1, if_neg e_2, if_neg e_0]), by rw [ht9]; exact hP9, va_K.moved hW.alike hK9, hD9⟩, hS.F ht9⟩) hS.2.2 d_Top_count_53
