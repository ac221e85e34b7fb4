theorem d_Top_turn_0 : decode b_Top_turn 0 = .ok (.aload_n 0, 1) := by decide +kernel
theorem d_Top_turn_1 : decode b_Top_turn 1 = .ok (.getfield 19, 3) := by decide +kernel
theorem d_Top_turn_4 : decode b_Top_turn 4 = .ok (.invokevirtual 92, 3) := by decide +kernel
theorem d_Top_turn_7 : decode b_Top_turn 7 = .ok (.iload_n 1, 1) := by decide +kernel
theorem d_Top_turn_8 : decode b_Top_turn 8 = .ok (.ifCond .eq 13, 3) := by decide +kernel
theorem d_Top_turn_11 : decode b_Top_turn 11 = .ok (.iload_n 1, 1) := by decide +kernel
theorem d_Top_turn_12 : decode b_Top_turn 12 = .ok (.iconst 3, 1) := by decide +kernel
theorem d_Top_turn_13 : decode b_Top_turn 13 = .ok (.if_icmp .eq 8, 3) := by decide +kernel
theorem d_Top_turn_16 : decode b_Top_turn 16 = .ok (.iload_n 1, 1) := by decide +kernel
theorem d_Top_turn_17 : decode b_Top_turn 17 = .ok (.iconst 4, 1) := by decide +kernel
theorem d_Top_turn_18 : decode b_Top_turn 18 = .ok (.if_icmp .ne 21, 3) := by decide +kernel
theorem d_Top_turn_21 : decode b_Top_turn 21 = .ok (.aload_n 0, 1) := by decide +kernel
theorem d_Top_turn_22 : decode b_Top_turn 22 = .ok (.getfield 39, 3) := by decide +kernel
theorem d_Top_turn_25 : decode b_Top_turn 25 = .ok (.aload_n 0, 1) := by decide +kernel
theorem d_Top_turn_26 : decode b_Top_turn 26 = .ok (.getfield 14, 3) := by decide +kernel
theorem d_Top_turn_29 : decode b_Top_turn 29 = .ok (.invokevirtual 194, 3) := by decide +kernel
theorem d_Top_turn_32 : decode b_Top_turn 32 = .ok (.ifCond .eq 7, 3) := by decide +kernel
theorem d_Top_turn_39 : decode b_Top_turn 39 = .ok (.iconst 0, 1) := by decide +kernel
theorem d_Top_turn_40 : decode b_Top_turn 40 = .ok (.istore_n 2, 1) := by decide +kernel
theorem d_Top_turn_41 : decode b_Top_turn 41 = .ok (.aload_n 0, 1) := by decide +kernel
theorem d_Top_turn_42 : decode b_Top_turn 42 = .ok (.getfield 14, 3) := by decide +kernel
theorem d_Top_turn_45 : decode b_Top_turn 45 = .ok (.invokevirtual 92, 3) := by decide +kernel
theorem d_Top_turn_48 : decode b_Top_turn 48 = .ok (.iload_n 2, 1) := by decide +kernel
theorem d_Top_turn_49 : decode b_Top_turn 49 = .ok (.ifCond .ne 5, 3) := by decide +kernel
theorem d_Top_turn_52 : decode b_Top_turn 52 = .ok (.iconst (-1), 1) := by decide +kernel
theorem d_Top_turn_53 : decode b_Top_turn 53 = .ok (.ireturn, 1) := by decide +kernel
theorem d_Card_read_0 : decode b_Card_read 0 = .ok (.aload_n 0, 1) := by decide +kernel
theorem d_Card_read_1 : decode b_Card_read 1 = .ok (.aload_n 1, 1) := by decide +kernel
theorem d_Card_read_2 : decode b_Card_read 2 = .ok (.invokevirtual 38, 3) := by decide +kernel
theorem d_Card_read_5 : decode b_Card_read 5 = .ok (.aload_n 0, 1) := by decide +kernel
theorem d_Card_read_6 : decode b_Card_read 6 = .ok (.iconst 0, 1) := by decide +kernel
theorem d_Card_read_7 : decode b_Card_read 7 = .ok (.putfield 42, 3) := by decide +kernel
theorem d_Card_read_10 : decode b_Card_read 10 = .ok (.aload_n 0, 1) := by decide +kernel
theorem d_Card_read_11 : decode b_Card_read 11 = .ok (.iconst 0, 1) := by decide +kernel
theorem d_Card_read_12 : decode b_Card_read 12 = .ok (.putfield 46, 3) := by decide +kernel
theorem d_Card_read_15 : decode b_Card_read 15 = .ok (.aload_n 0, 1) := by decide +kernel
theorem d_Card_read_16 : decode b_Card_read 16 = .ok (.iconst 0, 1) := by decide +kernel
theorem d_Card_read_17 : decode b_Card_read 17 = .ok (.putfield 49, 3) := by decide +kernel
theorem d_Card_read_20 : decode b_Card_read 20 = .ok (.aload_n 0, 1) := by decide +kernel
theorem d_Card_read_21 : decode b_Card_read 21 = .ok (.iconst 0, 1) := by decide +kernel
theorem d_Card_read_22 : decode b_Card_read 22 = .ok (.putfield 52, 3) := by decide +kernel
theorem d_Card_read_25 : decode b_Card_read 25 = .ok (.iconst 0, 1) := by decide +kernel
theorem d_Card_read_26 : decode b_Card_read 26 = .ok (.istore_n 2, 1) := by decide +kernel
theorem d_Card_read_27 : decode b_Card_read 27 = .ok (.iload_n 2, 1) := by decide +kernel
theorem d_Card_read_28 : decode b_Card_read 28 = .ok (.bipush 34, 2) := by decide +kernel
theorem d_Card_read_30 : decode b_Card_read 30 = .ok (.if_icmp .ge 16, 3) := by decide +kernel
theorem d_Card_read_33 : decode b_Card_read 33 = .ok (.aload_n 0, 1) := by decide +kernel
theorem d_Card_read_34 : decode b_Card_read 34 = .ok (.getfield 35, 3) := by decide +kernel
theorem d_Card_read_37 : decode b_Card_read 37 = .ok (.iload_n 2, 1) := by decide +kernel
theorem d_Card_read_38 : decode b_Card_read 38 = .ok (.iconst 0, 1) := by decide +kernel
theorem d_Card_read_39 : decode b_Card_read 39 = .ok (.iastore, 1) := by decide +kernel
theorem d_Card_read_40 : decode b_Card_read 40 = .ok (.iinc 2 1, 3) := by decide +kernel
theorem d_Card_read_43 : decode b_Card_read 43 = .ok (.goto (-16), 3) := by decide +kernel
theorem d_Card_read_46 : decode b_Card_read 46 = .ok (.aload_n 0, 1) := by decide +kernel
theorem d_Card_read_47 : decode b_Card_read 47 = .ok (.invokevirtual 55, 3) := by decide +kernel
theorem d_Card_read_50 : decode b_Card_read 50 = .ok (.ifCond .ne 5, 3) := by decide +kernel
theorem d_Card_read_55 : decode b_Card_read 55 = .ok (.iconst 0, 1) := by decide +kernel
theorem d_Card_read_56 : decode b_Card_read 56 = .ok (.istore_n 2, 1) := by decide +kernel
theorem d_Card_read_57 : decode b_Card_read 57 = .ok (.iconst 0, 1) := by decide +kernel
theorem d_Card_read_58 : decode b_Card_read 58 = .ok (.istore_n 3, 1) := by decide +kernel
theorem d_Card_read_59 : decode b_Card_read 59 = .ok (.iconst 0, 1) := by decide +kernel
theorem d_Card_read_60 : decode b_Card_read 60 = .ok (.istore 4, 2) := by decide +kernel
theorem d_Card_read_62 : decode b_Card_read 62 = .ok (.iload 4, 2) := by decide +kernel
theorem d_Card_read_64 : decode b_Card_read 64 = .ok (.aload_n 0, 1) := by decide +kernel
theorem d_Card_read_65 : decode b_Card_read 65 = .ok (.getfield 14, 3) := by decide +kernel
theorem d_Card_read_68 : decode b_Card_read 68 = .ok (.getfield 59, 3) := by decide +kernel
theorem d_Card_read_71 : decode b_Card_read 71 = .ok (.if_icmp .ge 104, 3) := by decide +kernel
theorem d_Card_read_175 : decode b_Card_read 175 = .ok (.iload_n 2, 1) := by decide +kernel
theorem d_Card_read_176 : decode b_Card_read 176 = .ok (.aload_n 0, 1) := by decide +kernel
theorem d_Card_read_177 : decode b_Card_read 177 = .ok (.getfield 14, 3) := by decide +kernel
theorem d_Card_read_180 : decode b_Card_read 180 = .ok (.getfield 59, 3) := by decide +kernel
theorem d_Card_read_183 : decode b_Card_read 183 = .ok (.if_icmp .ne 21, 3) := by decide +kernel
theorem d_Card_read_186 : decode b_Card_read 186 = .ok (.aload_n 0, 1) := by decide +kernel
theorem d_Card_read_187 : decode b_Card_read 187 = .ok (.getfield 46, 3) := by decide +kernel
theorem d_Card_read_190 : decode b_Card_read 190 = .ok (.ifCond .le 14, 3) := by decide +kernel
theorem d_Card_read_204 : decode b_Card_read 204 = .ok (.iconst 0, 1) := by decide +kernel
theorem d_Card_read_205 : decode b_Card_read 205 = .ok (.ireturn, 1) := by decide +kernel
theorem d_Card_unfold_0 : decode b_Card_unfold 0 = .ok (.aload_n 0, 1) := by decide +kernel
theorem d_Card_unfold_1 : decode b_Card_unfold 1 = .ok (.getfield 14, 3) := by decide +kernel
theorem d_Card_unfold_4 : decode b_Card_unfold 4 = .ok (.invokevirtual 78, 3) := by decide +kernel
theorem d_Card_unfold_7 : decode b_Card_unfold 7 = .ok (.iconst 0, 1) := by decide +kernel
theorem d_Card_unfold_8 : decode b_Card_unfold 8 = .ok (.istore_n 2, 1) := by decide +kernel
theorem d_Card_unfold_9 : decode b_Card_unfold 9 = .ok (.iload_n 2, 1) := by decide +kernel
theorem d_Card_unfold_10 : decode b_Card_unfold 10 = .ok (.aload_n 1, 1) := by decide +kernel
theorem d_Card_unfold_11 : decode b_Card_unfold 11 = .ok (.getfield 59, 3) := by decide +kernel
theorem d_Card_unfold_14 : decode b_Card_unfold 14 = .ok (.if_icmp .ge 71, 3) := by decide +kernel
theorem d_Card_unfold_85 : decode b_Card_unfold 85 = .ok (.return_, 1) := by decide +kernel
theorem d_Card_isClean_0 : decode b_Card_isClean 0 = .ok (.iconst 0, 1) := by decide +kernel
theorem d_Card_isClean_1 : decode b_Card_isClean 1 = .ok (.istore_n 1, 1) := by decide +kernel
theorem d_Card_isClean_2 : decode b_Card_isClean 2 = .ok (.iload_n 1, 1) := by decide +kernel
theorem d_Card_isClean_3 : decode b_Card_isClean 3 = .ok (.aload_n 0, 1) := by decide +kernel
theorem d_Card_isClean_4 : decode b_Card_isClean 4 = .ok (.getfield 14, 3) := by decide +kernel
theorem d_Card_isClean_7 : decode b_Card_isClean 7 = .ok (.getfield 59, 3) := by decide +kernel
theorem d_Card_isClean_10 : decode b_Card_isClean 10 = .ok (.if_icmp .ge 74, 3) := by decide +kernel
theorem d_Card_isClean_84 : decode b_Card_isClean 84 = .ok (.iconst 1, 1) := by decide +kernel
theorem d_Card_isClean_85 : decode b_Card_isClean 85 = .ok (.ireturn, 1) := by decide +kernel
set_option maxHeartbeats 4000000 in
set_option maxRecDepth 100000 in
/-- unfold of an empty row -/
theorem c_Card_unfold0 (l : Launch) (dC : Nat → ClassId) (dI : Nat → Nat → Nat) (h0 sz qt qx : Nat) (u2 u4 u6 u7 vy vt vx : Value) : Met l y_Card_unfold (Cond.code y_Card_unfold b_Card_unfold 4 none :: xw0) ({ frames := 1, cells := 0, slots := 0, locals := 30 }) (va_Pc [.ref h0, .ref qt] (fun U => U.heap.size = sz ∧ va_P (dC, dI) classes [(h0, .inr (5, [.ref qx, .int 0, u2, .int 0, u4, .int 0, u6, u7, .int 0, vy])), (qt, .inr (0, [vt, .int 0, .int 0])), (qx, .inr (0, [vx, .int 0, .int 0]))] U.heap ∧ va_K (dC, dI) classes [] U ∧ va_D (fun _ => True) [(h0, .inr (5, [.ref qx, .int 0, u2, .int 0, u4, .int 0, u6, u7, .int 0, vy])), (qt, .inr (0, [vt, .int 0, .int 0])), (qx, .inr (0, [vx, .int 0, .int 0]))])) (va_Qv (fun _ : Unit => True) (fun (_ : Unit) (t : State) => va_P (dC, dI) classes [(h0, .inr (5, [.ref qx, .int 0, u2, .int 0, u4, .int 0, u6, u7, .int 0, vy])), (qt, .inr (0, [vt, .int 0, .int 0])), (qx, .inr (0, [vx, .int (nI 0), .int (nI 0)]))] t.heap ∧ va_K (dC, dI) classes [] t ∧ va_D (va_A [(h0, .inr (5, [.ref qx, .int 0, u2, .int 0, u4, .int 0, u6, u7, .int 0, vy])), (qt, .inr (0, [vt, .int 0, .int 0])), (qx, .inr (0, [vx, .int 0, .int 0]))] sz) [(h0, .inr (5, [.ref qx, .int 0, u2, .int 0, u4, .int 0, u6, u7, .int 0, vy])), (qt, .inr (0, [vt, .int 0, .int 0])), (qx, .inr (0, [vx, .int (nI 0), .int (nI 0)]))]) (va_A [(h0, .inr (5, [.ref qx, .int 0, u2, .int 0, u4, .int 0, u6, u7, .int 0, vy])), (qt, .inr (0, [vt, .int 0, .int 0])), (qx, .inr (0, [vx, .int 0, .int 0]))] sz)) 0 0 (va_A [(h0, .inr (5, [.ref qx, .int 0, u2, .int 0, u4, .int 0, u6, u7, .int 0, vy])), (qt, .inr (0, [vt, .int 0, .int 0])), (qx, .inr (0, [vx, .int 0, .int 0]))] sz) := by
  refine Met.ofW (cc := b_Card_unfold) (maxL := 4) (ret := none) (by decide) rfl ?_
  intro p e s m args below meth c s₁ B hml hv
  obtain ⟨rfl, hsz, hP, hK, hD0⟩ := hv
  have hx := B.exec
  have hb := B.bytes
  have hr := B.returns
  have hts := atoms_spec (ws := Cond.code y_Card_unfold b_Card_unfold 4 none :: xw0) B.pre
  have ht : ∀ w ∈ xw0, w.before _ s = true := fun w h => hts w (List.mem_cons_of_mem _ h)
  have hown : s.vm.findClass R_Card = some m.cls := findClass_of_methodNamed B.named
  have hlocks := B.notSynchronized
  subst hsz
  have hD := hD0.self (sz := s.heap.size)
  generalize hAe : va_A [(h0, .inr (5, [.ref qx, .int 0, u2, .int 0, u4, .int 0, u6, u7, .int 0, vy])), (qt, .inr (0, [vt, .int 0, .int 0])), (qx, .inr (0, [vx, .int 0, .int 0]))] s.heap.size = A at hD ⊢
  have hA : ∀ q : Nat, s.heap.size ≤ q → A q := fun q h => by rw [← hAe]; exact Or.inr h
  have hS : va_S A s.heap s.heap [] := va_S.rf
  have hP : va_P (dC, dI) classes [(h0, .inr (5, [.ref qx, .int 0, u2, .int 0, u4, .int 0, u6, u7, .int 0, vy])), (qt, .inr (0, [vt, .int 0, .int 0])), (qx, .inr (0, [vx, .int 0, .int 0]))] s.heap := hP
  have hl := lv_entry ([.ref h0, .ref qt]) (n := 4) (Nat.le_of_ble_eq_true rfl)
  rw [lg_entry_eq]
  generalize (lg_sl ([.ref h0, .ref qt]) ++ List.replicate (4 - (lg_sl ([.ref h0, .ref qt])).length) Slot.unset).toArray = ls at hl ⊢
  have hl : lv_has ls 4 [(0, .ref h0), (1, .ref qt)] := hl
  refine lv_aload_n hx hb d_Card_unfold_0 rfl (lv_at hl 0 rfl) ?_
  refine va_get (D := (dC, dI)) (ci := 5) (v := .ref qx) (C := R_Card) (T := F_Card) (N := 10) hx hb ht i_Card hown hK hP 0 rfl rfl 0 (by decide) (ht _ k_165) (fun _ h9 => h9) rfl d_Card_unfold_1 ?_
  have hPc := hP.sub (ws' := [(qx, .inr (0, [vx, .int 0, .int 0]))]) [2] rfl
  have hDc := hD.sub (ws' := [(qx, .inr (0, [vx, .int 0, .int 0]))]) [2] (by decide +kernel) rfl
  have hKc := hK.sub (tys' := []) [] rfl
  have hFc := va_free (wc := [(qx, .inr (0, [vx, .int 0, .int 0]))]) hD hS hA [2] rfl
  refine va_callv (va_runV (As := []) (rest := []) ⟨hx, hb, hml, hown, ht⟩ (c_Row_clear l dC dI qx s.heap.size vx 0 0) ⟨callB_of 0 ht (xw_good k_406) rfl rfl rfl (ht _ k_2) (ht _ k_440) (by decide +kernel) ⟨(Nat.le_of_ble_eq_true rfl), (Nat.le_of_ble_eq_true rfl)⟩, ht _ k_404, ht _ k_405⟩ ⟨fun a U g mk q => by obtain ⟨q0, q1, qP, qK, qD⟩ := q; exact ⟨q0, q1, qP, va_K.moved (u := U) (U := U.calling g mk a) (Vm.Alike.refl U.vm) qK, qD⟩, va_recv hKc hPc (ci := 0) (q0 := 0) rfl rfl, fun U hU hW => ⟨rfl, by rw [hU], by rw [hU]; exact hPc, va_K.moved hW.alike hKc, hDc.weaken (fun _ _ _ _ => trivial)⟩⟩ rfl rfl hl.1 rfl (lv_room (Nat.le_of_ble_eq_true rfl)) d_Card_unfold_4 ⟨(Nat.le_of_ble_eq_true rfl), (Nat.le_of_ble_eq_true rfl)⟩) hS (fun q _ h => hFc q h) hFc (fun u t H1 locs ht9 hvm hw hB hz1 hk1 hS => ?_)
  obtain ⟨hP1, hK1, hD1⟩ := hB
  rw [ht9] at hP1
  have hK1 := va_K.moved hvm.symm hK1
  obtain ⟨hP, hD⟩ := va_join (wr := [(h0, .inr (5, [.ref qx, .int 0, u2, .int 0, u4, .int 0, u6, u7, .int 0, vy])), (qt, .inr (0, [vt, .int 0, .int 0]))]) (w1 := [(qx, .inr (0, [vx, .int (nI 0), .int (nI 0)]))]) hP hD [2] [0, 1] rfl rfl (by decide +kernel) (by decide +kernel) hk1 hFc hP1 hD1
  have hK := (hK.sub (tys' := []) [] rfl).app hK1
  generalize H1 = H at hP hS ⊢
  have hP : va_P (dC, dI) classes [(h0, .inr (5, [.ref qx, .int 0, u2, .int 0, u4, .int 0, u6, u7, .int 0, vy])), (qt, .inr (0, [vt, .int 0, .int 0])), (qx, .inr (0, [vx, .int (nI 0), .int (nI 0)]))] H := hP
  have hD : va_D A [(h0, .inr (5, [.ref qx, .int 0, u2, .int 0, u4, .int 0, u6, u7, .int 0, vy])), (qt, .inr (0, [vt, .int 0, .int 0])), (qx, .inr (0, [vx, .int (nI 0), .int (nI 0)]))] := hD
  have hK : va_K (dC, dI) classes [] s := hK
  refine W.widen (k := 0) (n := 0) (by omega) (by omega) ?_
  refine lv_iconst (v := (nI 0)) hx hb d_Card_unfold_7 (by decide) ?_
  refine lv_istore_n (lv' := [(2, .int (nI 0)), (0, .ref h0), (1, .ref qt)]) hx hb d_Card_unfold_8 rfl hl (by decide) rfl (fun ls hl => ?_)
  refine lv_iload_n hx hb d_Card_unfold_9 rfl (lv_at hl 0 rfl) ?_
  refine lv_aload_n hx hb d_Card_unfold_10 rfl (lv_at hl 2 rfl) ?_
  refine va_get (D := (dC, dI)) (ci := 0) (v := .int 0) (C := R_Row) (T := F_Row) (N := 3) hx hb ht i_Row hown hK hP 1 rfl rfl 1 (by decide) (ht _ k_33) (fun _ h9 => h9) rfl d_Card_unfold_11 ?_
  refine lv_icmp_ge (tgt := 85) hx hb d_Card_unfold_14 (by decide) (fun _ => ?_) (fun c_14_0 => absurd (by decide) c_14_0)
  have hP9 := hP.sub (ws' := [(h0, .inr (5, [.ref qx, .int 0, u2, .int 0, u4, .int 0, u6, u7, .int 0, vy])), (qt, .inr (0, [vt, .int 0, .int 0])), (qx, .inr (0, [vx, .int (nI 0), .int (nI 0)]))]) [0, 1, 2] rfl
  have hD9 := hD.sub (ws' := [(h0, .inr (5, [.ref qx, .int 0, u2, .int 0, u4, .int 0, u6, u7, .int 0, vy])), (qt, .inr (0, [vt, .int 0, .int 0])), (qx, .inr (0, [vx, .int (nI 0), .int (nI 0)]))]) [0, 1, 2] (by decide +kernel) rfl
  have hK9 := hK.sub (tys' := []) [] rfl
  exact W.vret hx hb hr (fun t ht9 hW => ⟨⟨(), rfl, trivial, by rw [ht9]; exact hP9, va_K.moved hW.alike hK9, hD9⟩, hS.F ht9⟩) hS.2.2 d_Card_unfold_85
set_option maxHeartbeats 4000000 in
set_option maxRecDepth 100000 in
/-- isClean of an empty text: true -/
theorem c_Card_isClean0 (l : Launch) (dC : Nat → ClassId) (dI : Nat → Nat → Nat) (h0 sz qx : Nat) (u1 u2 u3 u4 u5 u6 u7 u8 u9 vx w2 : Value) : Met l y_Card_isClean (Cond.code y_Card_isClean b_Card_isClean 3 (Option.some Jvm.ClassFile.FieldType.boolean) :: xw0) ({ frames := 0, cells := 0, slots := 0, locals := 0 }) (va_Pc [.ref h0] (fun U => U.heap.size = sz ∧ va_P (dC, dI) classes [(h0, .inr (5, [.ref qx, u1, u2, u3, u4, u5, u6, u7, u8, u9])), (qx, .inr (0, [vx, .int (nI 0), w2]))] U.heap ∧ va_K (dC, dI) classes [] U ∧ va_D (fun _ => True) [(h0, .inr (5, [.ref qx, u1, u2, u3, u4, u5, u6, u7, u8, u9])), (qx, .inr (0, [vx, .int (nI 0), w2]))])) (va_Qi (fun (r : Int32) (_ : Unit) => r = 1) (fun (_ : Unit) (t : State) => va_P (dC, dI) classes [(h0, .inr (5, [.ref qx, u1, u2, u3, u4, u5, u6, u7, u8, u9])), (qx, .inr (0, [vx, .int (nI 0), w2]))] t.heap ∧ va_K (dC, dI) classes [] t ∧ va_D (va_A [(h0, .inr (5, [.ref qx, u1, u2, u3, u4, u5, u6, u7, u8, u9])), (qx, .inr (0, [vx, .int (nI 0), w2]))] sz) [(h0, .inr (5, [.ref qx, u1, u2, u3, u4, u5, u6, u7, u8, u9])), (qx, .inr (0, [vx, .int (nI 0), w2]))]) (va_A [(h0, .inr (5, [.ref qx, u1, u2, u3, u4, u5, u6, u7, u8, u9])), (qx, .inr (0, [vx, .int (nI 0), w2]))] sz)) 0 0 (va_A [(h0, .inr (5, [.ref qx, u1, u2, u3, u4, u5, u6, u7, u8, u9])), (qx, .inr (0, [vx, .int (nI 0), w2]))] sz) := by
  refine Met.ofW (cc := b_Card_isClean) (maxL := 3) (ret := (Option.some Jvm.ClassFile.FieldType.boolean)) (by decide) rfl ?_
  intro p e s m args below meth c s₁ B hml hv
  obtain ⟨rfl, hsz, hP, hK, hD0⟩ := hv
  have hx := B.exec
  have hb := B.bytes
  have hr := B.returns
  have hts := atoms_spec (ws := Cond.code y_Card_isClean b_Card_isClean 3 (Option.some Jvm.ClassFile.FieldType.boolean) :: xw0) B.pre
  have ht : ∀ w ∈ xw0, w.before _ s = true := fun w h => hts w (List.mem_cons_of_mem _ h)
  have hown : s.vm.findClass R_Card = some m.cls := findClass_of_methodNamed B.named
  have hlocks := B.notSynchronized
  subst hsz
  have hD := hD0.self (sz := s.heap.size)
  generalize hAe : va_A [(h0, .inr (5, [.ref qx, u1, u2, u3, u4, u5, u6, u7, u8, u9])), (qx, .inr (0, [vx, .int (nI 0), w2]))] s.heap.size = A at hD ⊢
  have hA : ∀ q : Nat, s.heap.size ≤ q → A q := fun q h => by rw [← hAe]; exact Or.inr h
  have hS : va_S A s.heap s.heap [] := va_S.rf
  have hP : va_P (dC, dI) classes [(h0, .inr (5, [.ref qx, u1, u2, u3, u4, u5, u6, u7, u8, u9])), (qx, .inr (0, [vx, .int (nI 0), w2]))] s.heap := hP
  have hl := lv_entry ([.ref h0]) (n := 3) (Nat.le_of_ble_eq_true rfl)
  rw [lg_entry_eq]
  generalize (lg_sl ([.ref h0]) ++ List.replicate (3 - (lg_sl ([.ref h0])).length) Slot.unset).toArray = ls at hl ⊢
  have hl : lv_has ls 3 [(0, .ref h0)] := hl
  refine lv_iconst (v := (nI 0)) hx hb d_Card_isClean_0 (by decide) ?_
  refine lv_istore_n (lv' := [(1, .int (nI 0)), (0, .ref h0)]) hx hb d_Card_isClean_1 rfl hl (by decide) rfl (fun ls hl => ?_)
  refine lv_iload_n hx hb d_Card_isClean_2 rfl (lv_at hl 0 rfl) ?_
  refine lv_aload_n hx hb d_Card_isClean_3 rfl (lv_at hl 1 rfl) ?_
  refine va_get (D := (dC, dI)) (ci := 5) (v := .ref qx) (C := R_Card) (T := F_Card) (N := 10) hx hb ht i_Card hown hK hP 0 rfl rfl 0 (by decide) (ht _ k_165) (fun _ h9 => h9) rfl d_Card_isClean_4 ?_
  refine va_get (D := (dC, dI)) (ci := 0) (v := .int (nI 0)) (C := R_Row) (T := F_Row) (N := 3) hx hb ht i_Row hown hK hP 1 rfl rfl 1 (by decide) (ht _ k_33) (fun _ h9 => h9) rfl d_Card_isClean_7 ?_
  refine lv_icmp_ge (tgt := 84) hx hb d_Card_isClean_10 (by decide) (fun _ => ?_) (fun c_10 => absurd (by decide) c_10)
  refine lv_iconst (v := (nI 1)) hx hb d_Card_isClean_84 (by decide) ?_
  have hP9 := hP.sub (ws' := [(h0, .inr (5, [.ref qx, u1, u2, u3, u4, u5, u6, u7, u8, u9])), (qx, .inr (0, [vx, .int (nI 0), w2]))]) [0, 1] rfl
  have hD9 := hD.sub (ws' := [(h0, .inr (5, [.ref qx, u1, u2, u3, u4, u5, u6, u7, u8, u9])), (qx, .inr (0, [vx, .int (nI 0), w2]))]) [0, 1] (by decide +kernel) rfl
  have hK9 := hK.sub (tys' := []) [] rfl
  exact W.zret (ty := .boolean) hx hb hr rfl (fun t ht9 hW => ⟨⟨(nI 1), (), rfl, rfl, by rw [ht9]; exact hP9, va_K.moved hW.alike hK9, hD9⟩, hS.F ht9⟩) hS.2.2 d_Card_isClean_85
set_option maxHeartbeats 4000000 in
set_option maxRecDepth 100000 in
/-- read of an empty row: false -/
theorem c_Card_read0 (l : Launch) (dC : Nat → ClassId) (dI : Nat → Nat → Nat) (h0 sz qt qx qy : Nat) (cA : ClassId) (f : Nat → Int32) (u2 u4 u6 u7 vt vx : Value) : Met l y_Card_read (Cond.code y_Card_read b_Card_read 7 (Option.some Jvm.ClassFile.FieldType.boolean) :: xw0) ({ frames := 2, cells := 0, slots := 0, locals := 60 }) (va_Pc [.ref h0, .ref qt] (fun U => U.heap.size = sz ∧ va_P (dC, dI) classes [(h0, .inr (5, [.ref qx, .int 0, u2, .int 0, u4, .int 0, u6, u7, .int 0, .ref qy])), (qt, .inr (0, [vt, .int 0, .int 0])), (qx, .inr (0, [vx, .int 0, .int 0])), (qy, .inl (cA, 34, .inl f))] U.heap ∧ va_K (dC, dI) classes [(cA, .int)] U ∧ va_D (fun _ => True) [(h0, .inr (5, [.ref qx, .int 0, u2, .int 0, u4, .int 0, u6, u7, .int 0, .ref qy])), (qt, .inr (0, [vt, .int 0, .int 0])), (qx, .inr (0, [vx, .int 0, .int 0])), (qy, .inl (cA, 34, .inl f))])) (va_Qi (fun (r : Int32) (_ : Unit) => r = 0) (fun (_ : Unit) (t : State) => va_P (dC, dI) classes [(qt, .inr (0, [vt, .int 0, .int 0]))] t.heap ∧ va_K (dC, dI) classes [] t ∧ va_D (va_A [(h0, .inr (5, [.ref qx, .int 0, u2, .int 0, u4, .int 0, u6, u7, .int 0, .ref qy])), (qt, .inr (0, [vt, .int 0, .int 0])), (qx, .inr (0, [vx, .int 0, .int 0])), (qy, .inl (cA, 34, .inl f))] sz) [(qt, .inr (0, [vt, .int 0, .int 0]))]) (va_A [(h0, .inr (5, [.ref qx, .int 0, u2, .int 0, u4, .int 0, u6, u7, .int 0, .ref qy])), (qt, .inr (0, [vt, .int 0, .int 0])), (qx, .inr (0, [vx, .int 0, .int 0])), (qy, .inl (cA, 34, .inl f))] sz)) 0 0 (va_A [(h0, .inr (5, [.ref qx, .int 0, u2, .int 0, u4, .int 0, u6, u7, .int 0, .ref qy])), (qt, .inr (0, [vt, .int 0, .int 0])), (qx, .inr (0, [vx, .int 0, .int 0])), (qy, .inl (cA, 34, .inl f))] sz) := by
  refine Met.ofW (cc := b_Card_read) (maxL := 7) (ret := (Option.some Jvm.ClassFile.FieldType.boolean)) (by decide) rfl ?_
  intro p e s m args below meth c s₁ B hml hv
  obtain ⟨rfl, hsz, hP, hK, hD0⟩ := hv
  have hx := B.exec
  have hb := B.bytes
  have hr := B.returns
  have hts := atoms_spec (ws := Cond.code y_Card_read b_Card_read 7 (Option.some Jvm.ClassFile.FieldType.boolean) :: xw0) B.pre
  have ht : ∀ w ∈ xw0, w.before _ s = true := fun w h => hts w (List.mem_cons_of_mem _ h)
  have hown : s.vm.findClass R_Card = some m.cls := findClass_of_methodNamed B.named
  have hlocks := B.notSynchronized
  subst hsz
  have hD := hD0.self (sz := s.heap.size)
  generalize hAe : va_A [(h0, .inr (5, [.ref qx, .int 0, u2, .int 0, u4, .int 0, u6, u7, .int 0, .ref qy])), (qt, .inr (0, [vt, .int 0, .int 0])), (qx, .inr (0, [vx, .int 0, .int 0])), (qy, .inl (cA, 34, .inl f))] s.heap.size = A at hD ⊢
  have hA : ∀ q : Nat, s.heap.size ≤ q → A q := fun q h => by rw [← hAe]; exact Or.inr h
  have hS : va_S A s.heap s.heap [] := va_S.rf
  have hP : va_P (dC, dI) classes [(h0, .inr (5, [.ref qx, .int 0, u2, .int 0, u4, .int 0, u6, u7, .int 0, .ref qy])), (qt, .inr (0, [vt, .int 0, .int 0])), (qx, .inr (0, [vx, .int 0, .int 0])), (qy, .inl (cA, 34, .inl f))] s.heap := hP
  have hl := lv_entry ([.ref h0, .ref qt]) (n := 7) (Nat.le_of_ble_eq_true rfl)
  rw [lg_entry_eq]
  generalize (lg_sl ([.ref h0, .ref qt]) ++ List.replicate (7 - (lg_sl ([.ref h0, .ref qt])).length) Slot.unset).toArray = ls at hl ⊢
  have hl : lv_has ls 7 [(0, .ref h0), (1, .ref qt)] := hl
  refine lv_aload_n hx hb d_Card_read_0 rfl (lv_at hl 0 rfl) ?_
  refine lv_aload_n hx hb d_Card_read_1 rfl (lv_at hl 1 rfl) ?_
  have hPc := hP.sub (ws' := [(h0, .inr (5, [.ref qx, .int 0, u2, .int 0, u4, .int 0, u6, u7, .int 0, .ref qy])), (qt, .inr (0, [vt, .int 0, .int 0])), (qx, .inr (0, [vx, .int 0, .int 0]))]) [0, 1, 2] rfl
  have hDc := hD.sub (ws' := [(h0, .inr (5, [.ref qx, .int 0, u2, .int 0, u4, .int 0, u6, u7, .int 0, .ref qy])), (qt, .inr (0, [vt, .int 0, .int 0])), (qx, .inr (0, [vx, .int 0, .int 0]))]) [0, 1, 2] (by decide +kernel) rfl
  have hKc := hK.sub (tys' := []) [] rfl
  have hFc := va_free (wc := [(h0, .inr (5, [.ref qx, .int 0, u2, .int 0, u4, .int 0, u6, u7, .int 0, .ref qy])), (qt, .inr (0, [vt, .int 0, .int 0])), (qx, .inr (0, [vx, .int 0, .int 0]))]) hD hS hA [0, 1, 2] rfl
  refine va_callv (va_runV (As := [.ref qt]) (rest := []) ⟨hx, hb, hml, hown, ht⟩ (c_Card_unfold0 l dC dI h0 s.heap.size qt qx u2 u4 u6 u7 (.ref qy) vt vx) ⟨callB_of 1 ht (xw_good k_439) rfl rfl rfl (ht _ k_7) (ht _ k_437) (by decide +kernel) ⟨(Nat.le_of_ble_eq_true rfl), (Nat.le_of_ble_eq_true rfl)⟩, ht _ k_438, ht _ k_514⟩ ⟨fun a U g mk q => by obtain ⟨q0, q1, qP, qK, qD⟩ := q; exact ⟨q0, q1, qP, va_K.moved (u := U) (U := U.calling g mk a) (Vm.Alike.refl U.vm) qK, qD⟩, va_recv hKc hPc (ci := 5) (q0 := 0) rfl rfl, fun U hU hW => ⟨rfl, by rw [hU], by rw [hU]; exact hPc, va_K.moved hW.alike hKc, hDc.weaken (fun _ _ _ _ => trivial)⟩⟩ rfl rfl hl.1 rfl (lv_room (Nat.le_of_ble_eq_true rfl)) d_Card_read_2 ⟨(Nat.le_of_ble_eq_true rfl), (Nat.le_of_ble_eq_true rfl)⟩) hS (fun q _ h => hFc q h) hFc (fun u t H1 locs ht9 hvm hw hB hz1 hk1 hS => ?_)
  obtain ⟨hP1, hK1, hD1⟩ := hB
  rw [ht9] at hP1
  have hK1 := va_K.moved hvm.symm hK1
  obtain ⟨hP, hD⟩ := va_join (wr := [(qy, .inl (cA, 34, .inl f))]) (w1 := [(h0, .inr (5, [.ref qx, .int 0, u2, .int 0, u4, .int 0, u6, u7, .int 0, .ref qy])), (qt, .inr (0, [vt, .int 0, .int 0])), (qx, .inr (0, [vx, .int (nI 0), .int (nI 0)]))]) hP hD [0, 1, 2] [3] rfl rfl (by decide +kernel) (by decide +kernel) hk1 hFc hP1 hD1
  have hK := (hK.sub (tys' := [(cA, .int)]) [0] rfl).app hK1
  generalize H1 = H at hP hS ⊢
  have hP : va_P (dC, dI) classes [(qy, .inl (cA, 34, .inl f)), (h0, .inr (5, [.ref qx, .int 0, u2, .int 0, u4, .int 0, u6, u7, .int 0, .ref qy])), (qt, .inr (0, [vt, .int 0, .int 0])), (qx, .inr (0, [vx, .int (nI 0), .int (nI 0)]))] H := hP
  have hD : va_D A [(qy, .inl (cA, 34, .inl f)), (h0, .inr (5, [.ref qx, .int 0, u2, .int 0, u4, .int 0, u6, u7, .int 0, .ref qy])), (qt, .inr (0, [vt, .int 0, .int 0])), (qx, .inr (0, [vx, .int (nI 0), .int (nI 0)]))] := hD
  have hK : va_K (dC, dI) classes [(cA, .int)] s := hK
  refine W.widen (k := 0) (n := 0) (by omega) (by omega) ?_
  refine lv_aload_n hx hb d_Card_read_5 rfl (lv_at hl 0 rfl) ?_
  refine lv_iconst (v := (nI 0)) hx hb d_Card_read_6 (by decide) ?_
  refine va_put (D := (dC, dI)) (ci := 5) (v := .int (nI 0)) (ty := .int) (C := R_Card) (T := F_Card) (N := 10) hx hb ht i_Card t_Card t_Card_ok n_Card hown hK hP hD hS 1 rfl rfl 1 (by decide) (ht _ k_166) (fun _ h9 => h9) rfl (by decide +kernel) rfl rfl (Nat.le_of_ble_eq_true rfl) d_Card_read_7 (fun H locs hP hD hS => ?_)
  have hP : va_P (dC, dI) classes [(qy, .inl (cA, 34, .inl f)), (h0, .inr (5, [.ref qx, .int (nI 0), u2, .int 0, u4, .int 0, u6, u7, .int 0, .ref qy])), (qt, .inr (0, [vt, .int 0, .int 0])), (qx, .inr (0, [vx, .int (nI 0), .int (nI 0)]))] H := hP
  have hD : va_D A [(qy, .inl (cA, 34, .inl f)), (h0, .inr (5, [.ref qx, .int (nI 0), u2, .int 0, u4, .int 0, u6, u7, .int 0, .ref qy])), (qt, .inr (0, [vt, .int 0, .int 0])), (qx, .inr (0, [vx, .int (nI 0), .int (nI 0)]))] := hD
  refine lv_aload_n hx hb d_Card_read_10 rfl (lv_at hl 0 rfl) ?_
  refine lv_iconst (v := (nI 0)) hx hb d_Card_read_11 (by decide) ?_
  refine va_put (D := (dC, dI)) (ci := 5) (v := .int (nI 0)) (ty := .int) (C := R_Card) (T := F_Card) (N := 10) hx hb ht i_Card t_Card t_Card_ok n_Card hown hK hP hD hS 1 rfl rfl 3 (by decide) (ht _ k_168) (fun _ h9 => h9) rfl (by decide +kernel) rfl rfl (Nat.le_of_ble_eq_true rfl) d_Card_read_12 (fun H locs hP hD hS => ?_)
  have hP : va_P (dC, dI) classes [(qy, .inl (cA, 34, .inl f)), (h0, .inr (5, [.ref qx, .int (nI 0), u2, .int (nI 0), u4, .int 0, u6, u7, .int 0, .ref qy])), (qt, .inr (0, [vt, .int 0, .int 0])), (qx, .inr (0, [vx, .int (nI 0), .int (nI 0)]))] H := hP
  have hD : va_D A [(qy, .inl (cA, 34, .inl f)), (h0, .inr (5, [.ref qx, .int (nI 0), u2, .int (nI 0), u4, .int 0, u6, u7, .int 0, .ref qy])), (qt, .inr (0, [vt, .int 0, .int 0])), (qx, .inr (0, [vx, .int (nI 0), .int (nI 0)]))] := hD
  refine lv_aload_n hx hb d_Card_read_15 rfl (lv_at hl 0 rfl) ?_
  refine lv_iconst (v := (nI 0)) hx hb d_Card_read_16 (by decide) ?_
  refine va_put (D := (dC, dI)) (ci := 5) (v := .int (nI 0)) (ty := .int) (C := R_Card) (T := F_Card) (N := 10) hx hb ht i_Card t_Card t_Card_ok n_Card hown hK hP hD hS 1 rfl rfl 5 (by decide) (ht _ k_170) (fun _ h9 => h9) rfl (by decide +kernel) rfl rfl (Nat.le_of_ble_eq_true rfl) d_Card_read_17 (fun H locs hP hD hS => ?_)
  have hP : va_P (dC, dI) classes [(qy, .inl (cA, 34, .inl f)), (h0, .inr (5, [.ref qx, .int (nI 0), u2, .int (nI 0), u4, .int (nI 0), u6, u7, .int 0, .ref qy])), (qt, .inr (0, [vt, .int 0, .int 0])), (qx, .inr (0, [vx, .int (nI 0), .int (nI 0)]))] H := hP
  have hD : va_D A [(qy, .inl (cA, 34, .inl f)), (h0, .inr (5, [.ref qx, .int (nI 0), u2, .int (nI 0), u4, .int (nI 0), u6, u7, .int 0, .ref qy])), (qt, .inr (0, [vt, .int 0, .int 0])), (qx, .inr (0, [vx, .int (nI 0), .int (nI 0)]))] := hD
  refine lv_aload_n hx hb d_Card_read_20 rfl (lv_at hl 0 rfl) ?_
  refine lv_iconst (v := (nI 0)) hx hb d_Card_read_21 (by decide) ?_
  refine va_put (D := (dC, dI)) (ci := 5) (v := .int (nI 0)) (ty := .int) (C := R_Card) (T := F_Card) (N := 10) hx hb ht i_Card t_Card t_Card_ok n_Card hown hK hP hD hS 1 rfl rfl 8 (by decide) (ht _ k_173) (fun _ h9 => h9) rfl (by decide +kernel) rfl rfl (Nat.le_of_ble_eq_true rfl) d_Card_read_22 (fun H locs hP hD hS => ?_)
  have hP : va_P (dC, dI) classes [(qy, .inl (cA, 34, .inl f)), (h0, .inr (5, [.ref qx, .int (nI 0), u2, .int (nI 0), u4, .int (nI 0), u6, u7, .int (nI 0), .ref qy])), (qt, .inr (0, [vt, .int 0, .int 0])), (qx, .inr (0, [vx, .int (nI 0), .int (nI 0)]))] H := hP
  have hD : va_D A [(qy, .inl (cA, 34, .inl f)), (h0, .inr (5, [.ref qx, .int (nI 0), u2, .int (nI 0), u4, .int (nI 0), u6, u7, .int (nI 0), .ref qy])), (qt, .inr (0, [vt, .int 0, .int 0])), (qx, .inr (0, [vx, .int (nI 0), .int (nI 0)]))] := hD
  refine lv_iconst (v := (nI 0)) hx hb d_Card_read_25 (by decide) ?_
  refine lv_istore_n (lv' := [(2, .int (nI 0)), (0, .ref h0), (1, .ref qt)]) hx hb d_Card_read_26 rfl hl (by decide) rfl (fun ls hl => ?_)
  refine lv_iload_n hx hb d_Card_read_27 rfl (lv_at hl 0 rfl) ?_
  refine lv_bipush (v := (nI 34)) hx hb d_Card_read_28 (by decide) ?_
  refine lv_icmp_ge (tgt := 46) hx hb d_Card_read_30 (by decide) (fun c_30 => absurd c_30 (by decide)) (fun _ => ?_)
  refine lv_aload_n hx hb d_Card_read_33 rfl (lv_at hl 1 rfl) ?_
  refine va_get (D := (dC, dI)) (ci := 5) (v := .ref qy) (C := R_Card) (T := F_Card) (N := 10) hx hb ht i_Card hown hK hP 1 rfl rfl 9 (by decide) (ht _ k_174) (fun _ h9 => h9) rfl d_Card_read_34 ?_
  refine lv_iload_n hx hb d_Card_read_37 rfl (lv_at hl 0 rfl) ?_
  refine lv_iconst (v := (nI 0)) hx hb d_Card_read_38 (by decide) ?_
  refine xw_iast hx hb hK hP hD hS 0 0 rfl rfl (vp_in_nI (by decide) (by decide)) d_Card_read_39 (fun f1 H locs hP hD hS => ?_)
  have hP : va_P (dC, dI) classes [(qy, .inl (cA, 34, .inl f1)), (h0, .inr (5, [.ref qx, .int (nI 0), u2, .int (nI 0), u4, .int (nI 0), u6, u7, .int (nI 0), .ref qy])), (qt, .inr (0, [vt, .int 0, .int 0])), (qx, .inr (0, [vx, .int (nI 0), .int (nI 0)]))] H := hP
  have hD : va_D A [(qy, .inl (cA, 34, .inl f1)), (h0, .inr (5, [.ref qx, .int (nI 0), u2, .int (nI 0), u4, .int (nI 0), u6, u7, .int (nI 0), .ref qy])), (qt, .inr (0, [vt, .int 0, .int 0])), (qx, .inr (0, [vx, .int (nI 0), .int (nI 0)]))] := hD
  refine lv_iinc (v := (nI 1)) (lv' := [(2, .int (nI 1)), (0, .ref h0), (1, .ref qt)]) hx hb d_Card_read_40 hl (k := 0) rfl (by decide) (by decide) rfl (fun ls hl => ?_)
  refine lv_goto (tgt := 27) hx hb d_Card_read_43 (by decide) ?_
  refine lv_iload_n hx hb d_Card_read_27 rfl (lv_at hl 0 rfl) ?_
  refine lv_bipush (v := (nI 34)) hx hb d_Card_read_28 (by decide) ?_
  refine lv_icmp_ge (tgt := 46) hx hb d_Card_read_30 (by decide) (fun c_30 => absurd c_30 (by decide)) (fun _ => ?_)
  refine lv_aload_n hx hb d_Card_read_33 rfl (lv_at hl 1 rfl) ?_
  refine va_get (D := (dC, dI)) (ci := 5) (v := .ref qy) (C := R_Card) (T := F_Card) (N := 10) hx hb ht i_Card hown hK hP 1 rfl rfl 9 (by decide) (ht _ k_174) (fun _ h9 => h9) rfl d_Card_read_34 ?_
  refine lv_iload_n hx hb d_Card_read_37 rfl (lv_at hl 0 rfl) ?_
  refine lv_iconst (v := (nI 0)) hx hb d_Card_read_38 (by decide) ?_
  refine xw_iast hx hb hK hP hD hS 0 0 rfl rfl (vp_in_nI (by decide) (by decide)) d_Card_read_39 (fun f2 H locs hP hD hS => ?_)
  have hP : va_P (dC, dI) classes [(qy, .inl (cA, 34, .inl f2)), (h0, .inr (5, [.ref qx, .int (nI 0), u2, .int (nI 0), u4, .int (nI 0), u6, u7, .int (nI 0), .ref qy])), (qt, .inr (0, [vt, .int 0, .int 0])), (qx, .inr (0, [vx, .int (nI 0), .int (nI 0)]))] H := hP
  have hD : va_D A [(qy, .inl (cA, 34, .inl f2)), (h0, .inr (5, [.ref qx, .int (nI 0), u2, .int (nI 0), u4, .int (nI 0), u6, u7, .int (nI 0), .ref qy])), (qt, .inr (0, [vt, .int 0, .int 0])), (qx, .inr (0, [vx, .int (nI 0), .int (nI 0)]))] := hD
  refine lv_iinc (v := (nI 2)) (lv' := [(2, .int (nI 2)), (0, .ref h0), (1, .ref qt)]) hx hb d_Card_read_40 hl (k := 0) rfl (by decide) (by decide) rfl (fun ls hl => ?_)
  refine lv_goto (tgt := 27) hx hb d_Card_read_43 (by decide) ?_
  refine lv_iload_n hx hb d_Card_read_27 rfl (lv_at hl 0 rfl) ?_
  refine lv_bipush (v := (nI 34)) hx hb d_Card_read_28 (by decide) ?_
  refine lv_icmp_ge (tgt := 46) hx hb d_Card_read_30 (by decide) (fun c_30 => absurd c_30 (by decide)) (fun _ => ?_)
  refine lv_aload_n hx hb d_Card_read_33 rfl (lv_at hl 1 rfl) ?_
  refine va_get (D := (dC, dI)) (ci := 5) (v := .ref qy) (C := R_Card) (T := F_Card) (N := 10) hx hb ht i_Card hown hK hP 1 rfl rfl 9 (by decide) (ht _ k_174) (fun _ h9 => h9) rfl d_Card_read_34 ?_
  refine lv_iload_n hx hb d_Card_read_37 rfl (lv_at hl 0 rfl) ?_
  refine lv_iconst (v := (nI 0)) hx hb d_Card_read_38 (by decide) ?_
  refine xw_iast hx hb hK hP hD hS 0 0 rfl rfl (vp_in_nI (by decide) (by decide)) d_Card_read_39 (fun f3 H locs hP hD hS => ?_)
  have hP : va_P (dC, dI) classes [(qy, .inl (cA, 34, .inl f3)), (h0, .inr (5, [.ref qx, .int (nI 0), u2, .int (nI 0), u4, .int (nI 0), u6, u7, .int (nI 0), .ref qy])), (qt, .inr (0, [vt, .int 0, .int 0])), (qx, .inr (0, [vx, .int (nI 0), .int (nI 0)]))] H := hP
  have hD : va_D A [(qy, .inl (cA, 34, .inl f3)), (h0, .inr (5, [.ref qx, .int (nI 0), u2, .int (nI 0), u4, .int (nI 0), u6, u7, .int (nI 0), .ref qy])), (qt, .inr (0, [vt, .int 0, .int 0])), (qx, .inr (0, [vx, .int (nI 0), .int (nI 0)]))] := hD
  refine lv_iinc (v := (nI 3)) (lv' := [(2, .int (nI 3)), (0, .ref h0), (1, .ref qt)]) hx hb d_Card_read_40 hl (k := 0) rfl (by decide) (by decide) rfl (fun ls hl => ?_)
  refine lv_goto (tgt := 27) hx hb d_Card_read_43 (by decide) ?_
  refine lv_iload_n hx hb d_Card_read_27 rfl (lv_at hl 0 rfl) ?_
  refine lv_bipush (v := (nI 34)) hx hb d_Card_read_28 (by decide) ?_
  refine lv_icmp_ge (tgt := 46) hx hb d_Card_read_30 (by decide) (fun c_30 => absurd c_30 (by decide)) (fun _ => ?_)
  refine lv_aload_n hx hb d_Card_read_33 rfl (lv_at hl 1 rfl) ?_
  refine va_get (D := (dC, dI)) (ci := 5) (v := .ref qy) (C := R_Card) (T := F_Card) (N := 10) hx hb ht i_Card hown hK hP 1 rfl rfl 9 (by decide) (ht _ k_174) (fun _ h9 => h9) rfl d_Card_read_34 ?_
  refine lv_iload_n hx hb d_Card_read_37 rfl (lv_at hl 0 rfl) ?_
  refine lv_iconst (v := (nI 0)) hx hb d_Card_read_38 (by decide) ?_
  refine xw_iast hx hb hK hP hD hS 0 0 rfl rfl (vp_in_nI (by decide) (by decide)) d_Card_read_39 (fun f4 H locs hP hD hS => ?_)
  have hP : va_P (dC, dI) classes [(qy, .inl (cA, 34, .inl f4)), (h0, .inr (5, [.ref qx, .int (nI 0), u2, .int (nI 0), u4, .int (nI 0), u6, u7, .int (nI 0), .ref qy])), (qt, .inr (0, [vt, .int 0, .int 0])), (qx, .inr (0, [vx, .int (nI 0), .int (nI 0)]))] H := hP
  have hD : va_D A [(qy, .inl (cA, 34, .inl f4)), (h0, .inr (5, [.ref qx, .int (nI 0), u2, .int (nI 0), u4, .int (nI 0), u6, u7, .int (nI 0), .ref qy])), (qt, .inr (0, [vt, .int 0, .int 0])), (qx, .inr (0, [vx, .int (nI 0), .int (nI 0)]))] := hD
  refine lv_iinc (v := (nI 4)) (lv' := [(2, .int (nI 4)), (0, .ref h0), (1, .ref qt)]) hx hb d_Card_read_40 hl (k := 0) rfl (by decide) (by decide) rfl (fun ls hl => ?_)
  refine lv_goto (tgt := 27) hx hb d_Card_read_43 (by decide) ?_
  refine lv_iload_n hx hb d_Card_read_27 rfl (lv_at hl 0 rfl) ?_
  refine lv_bipush (v := (nI 34)) hx hb d_Card_read_28 (by decide) ?_
  refine lv_icmp_ge (tgt := 46) hx hb d_Card_read_30 (by decide) (fun c_30 => absurd c_30 (by decide)) (fun _ => ?_)
  refine lv_aload_n hx hb d_Card_read_33 rfl (lv_at hl 1 rfl) ?_
  refine va_get (D := (dC, dI)) (ci := 5) (v := .ref qy) (C := R_Card) (T := F_Card) (N := 10) hx hb ht i_Card hown hK hP 1 rfl rfl 9 (by decide) (ht _ k_174) (fun _ h9 => h9) rfl d_Card_read_34 ?_
  refine lv_iload_n hx hb d_Card_read_37 rfl (lv_at hl 0 rfl) ?_
  refine lv_iconst (v := (nI 0)) hx hb d_Card_read_38 (by decide) ?_
  refine xw_iast hx hb hK hP hD hS 0 0 rfl rfl (vp_in_nI (by decide) (by decide)) d_Card_read_39 (fun f5 H locs hP hD hS => ?_)
  have hP : va_P (dC, dI) classes [(qy, .inl (cA, 34, .inl f5)), (h0, .inr (5, [.ref qx, .int (nI 0), u2, .int (nI 0), u4, .int (nI 0), u6, u7, .int (nI 0), .ref qy])), (qt, .inr (0, [vt, .int 0, .int 0])), (qx, .inr (0, [vx, .int (nI 0), .int (nI 0)]))] H := hP
  have hD : va_D A [(qy, .inl (cA, 34, .inl f5)), (h0, .inr (5, [.ref qx, .int (nI 0), u2, .int (nI 0), u4, .int (nI 0), u6, u7, .int (nI 0), .ref qy])), (qt, .inr (0, [vt, .int 0, .int 0])), (qx, .inr (0, [vx, .int (nI 0), .int (nI 0)]))] := hD
  refine lv_iinc (v := (nI 5)) (lv' := [(2, .int (nI 5)), (0, .ref h0), (1, .ref qt)]) hx hb d_Card_read_40 hl (k := 0) rfl (by decide) (by decide) rfl (fun ls hl => ?_)
  refine lv_goto (tgt := 27) hx hb d_Card_read_43 (by decide) ?_
  refine lv_iload_n hx hb d_Card_read_27 rfl (lv_at hl 0 rfl) ?_
  refine lv_bipush (v := (nI 34)) hx hb d_Card_read_28 (by decide) ?_
  refine lv_icmp_ge (tgt := 46) hx hb d_Card_read_30 (by decide) (fun c_30 => absurd c_30 (by decide)) (fun _ => ?_)
  refine lv_aload_n hx hb d_Card_read_33 rfl (lv_at hl 1 rfl) ?_
  refine va_get (D := (dC, dI)) (ci := 5) (v := .ref qy) (C := R_Card) (T := F_Card) (N := 10) hx hb ht i_Card hown hK hP 1 rfl rfl 9 (by decide) (ht _ k_174) (fun _ h9 => h9) rfl d_Card_read_34 ?_
  refine lv_iload_n hx hb d_Card_read_37 rfl (lv_at hl 0 rfl) ?_
  refine lv_iconst (v := (nI 0)) hx hb d_Card_read_38 (by decide) ?_
  refine xw_iast hx hb hK hP hD hS 0 0 rfl rfl (vp_in_nI (by decide) (by decide)) d_Card_read_39 (fun f6 H locs hP hD hS => ?_)
  have hP : va_P (dC, dI) classes [(qy, .inl (cA, 34, .inl f6)), (h0, .inr (5, [.ref qx, .int (nI 0), u2, .int (nI 0), u4, .int (nI 0), u6, u7, .int (nI 0), .ref qy])), (qt, .inr (0, [vt, .int 0, .int 0])), (qx, .inr (0, [vx, .int (nI 0), .int (nI 0)]))] H := hP
  have hD : va_D A [(qy, .inl (cA, 34, .inl f6)), (h0, .inr (5, [.ref qx, .int (nI 0), u2, .int (nI 0), u4, .int (nI 0), u6, u7, .int (nI 0), .ref qy])), (qt, .inr (0, [vt, .int 0, .int 0])), (qx, .inr (0, [vx, .int (nI 0), .int (nI 0)]))] := hD
  refine lv_iinc (v := (nI 6)) (lv' := [(2, .int (nI 6)), (0, .ref h0), (1, .ref qt)]) hx hb d_Card_read_40 hl (k := 0) rfl (by decide) (by decide) rfl (fun ls hl => ?_)
  refine lv_goto (tgt := 27) hx hb d_Card_read_43 (by decide) ?_
  refine lv_iload_n hx hb d_Card_read_27 rfl (lv_at hl 0 rfl) ?_
  refine lv_bipush (v := (nI 34)) hx hb d_Card_read_28 (by decide) ?_
  refine lv_icmp_ge (tgt := 46) hx hb d_Card_read_30 (by decide) (fun c_30 => absurd c_30 (by decide)) (fun _ => ?_)
  refine lv_aload_n hx hb d_Card_read_33 rfl (lv_at hl 1 rfl) ?_
  refine va_get (D := (dC, dI)) (ci := 5) (v := .ref qy) (C := R_Card) (T := F_Card) (N := 10) hx hb ht i_Card hown hK hP 1 rfl rfl 9 (by decide) (ht _ k_174) (fun _ h9 => h9) rfl d_Card_read_34 ?_
  refine lv_iload_n hx hb d_Card_read_37 rfl (lv_at hl 0 rfl) ?_
  refine lv_iconst (v := (nI 0)) hx hb d_Card_read_38 (by decide) ?_
  refine xw_iast hx hb hK hP hD hS 0 0 rfl rfl (vp_in_nI (by decide) (by decide)) d_Card_read_39 (fun f7 H locs hP hD hS => ?_)
  have hP : va_P (dC, dI) classes [(qy, .inl (cA, 34, .inl f7)), (h0, .inr (5, [.ref qx, .int (nI 0), u2, .int (nI 0), u4, .int (nI 0), u6, u7, .int (nI 0), .ref qy])), (qt, .inr (0, [vt, .int 0, .int 0])), (qx, .inr (0, [vx, .int (nI 0), .int (nI 0)]))] H := hP
  have hD : va_D A [(qy, .inl (cA, 34, .inl f7)), (h0, .inr (5, [.ref qx, .int (nI 0), u2, .int (nI 0), u4, .int (nI 0), u6, u7, .int (nI 0), .ref qy])), (qt, .inr (0, [vt, .int 0, .int 0])), (qx, .inr (0, [vx, .int (nI 0), .int (nI 0)]))] := hD
  refine lv_iinc (v := (nI 7)) (lv' := [(2, .int (nI 7)), (0, .ref h0), (1, .ref qt)]) hx hb d_Card_read_40 hl (k := 0) rfl (by decide) (by decide) rfl (fun ls hl => ?_)
  refine lv_goto (tgt := 27) hx hb d_Card_read_43 (by decide) ?_
  refine lv_iload_n hx hb d_Card_read_27 rfl (lv_at hl 0 rfl) ?_
  refine lv_bipush (v := (nI 34)) hx hb d_Card_read_28 (by decide) ?_
  refine lv_icmp_ge (tgt := 46) hx hb d_Card_read_30 (by decide) (fun c_30 => absurd c_30 (by decide)) (fun _ => ?_)
  refine lv_aload_n hx hb d_Card_read_33 rfl (lv_at hl 1 rfl) ?_
  refine va_get (D := (dC, dI)) (ci := 5) (v := .ref qy) (C := R_Card) (T := F_Card) (N := 10) hx hb ht i_Card hown hK hP 1 rfl rfl 9 (by decide) (ht _ k_174) (fun _ h9 => h9) rfl d_Card_read_34 ?_
  refine lv_iload_n hx hb d_Card_read_37 rfl (lv_at hl 0 rfl) ?_
  refine lv_iconst (v := (nI 0)) hx hb d_Card_read_38 (by decide) ?_
  refine xw_iast hx hb hK hP hD hS 0 0 rfl rfl (vp_in_nI (by decide) (by decide)) d_Card_read_39 (fun f8 H locs hP hD hS => ?_)
  have hP : va_P (dC, dI) classes [(qy, .inl (cA, 34, .inl f8)), (h0, .inr (5, [.ref qx, .int (nI 0), u2, .int (nI 0), u4, .int (nI 0), u6, u7, .int (nI 0), .ref qy])), (qt, .inr (0, [vt, .int 0, .int 0])), (qx, .inr (0, [vx, .int (nI 0), .int (nI 0)]))] H := hP
  have hD : va_D A [(qy, .inl (cA, 34, .inl f8)), (h0, .inr (5, [.ref qx, .int (nI 0), u2, .int (nI 0), u4, .int (nI 0), u6, u7, .int (nI 0), .ref qy])), (qt, .inr (0, [vt, .int 0, .int 0])), (qx, .inr (0, [vx, .int (nI 0), .int (nI 0)]))] := hD
  refine lv_iinc (v := (nI 8)) (lv' := [(2, .int (nI 8)), (0, .ref h0), (1, .ref qt)]) hx hb d_Card_read_40 hl (k := 0) rfl (by decide) (by decide) rfl (fun ls hl => ?_)
  refine lv_goto (tgt := 27) hx hb d_Card_read_43 (by decide) ?_
  refine lv_iload_n hx hb d_Card_read_27 rfl (lv_at hl 0 rfl) ?_
  refine lv_bipush (v := (nI 34)) hx hb d_Card_read_28 (by decide) ?_
  refine lv_icmp_ge (tgt := 46) hx hb d_Card_read_30 (by decide) (fun c_30 => absurd c_30 (by decide)) (fun _ => ?_)
  refine lv_aload_n hx hb d_Card_read_33 rfl (lv_at hl 1 rfl) ?_
  refine va_get (D := (dC, dI)) (ci := 5) (v := .ref qy) (C := R_Card) (T := F_Card) (N := 10) hx hb ht i_Card hown hK hP 1 rfl rfl 9 (by decide) (ht _ k_174) (fun _ h9 => h9) rfl d_Card_read_34 ?_
  refine lv_iload_n hx hb d_Card_read_37 rfl (lv_at hl 0 rfl) ?_
  refine lv_iconst (v := (nI 0)) hx hb d_Card_read_38 (by decide) ?_
  refine xw_iast hx hb hK hP hD hS 0 0 rfl rfl (vp_in_nI (by decide) (by decide)) d_Card_read_39 (fun f9 H locs hP hD hS => ?_)
  have hP : va_P (dC, dI) classes [(qy, .inl (cA, 34, .inl f9)), (h0, .inr (5, [.ref qx, .int (nI 0), u2, .int (nI 0), u4, .int (nI 0), u6, u7, .int (nI 0), .ref qy])), (qt, .inr (0, [vt, .int 0, .int 0])), (qx, .inr (0, [vx, .int (nI 0), .int (nI 0)]))] H := hP
  have hD : va_D A [(qy, .inl (cA, 34, .inl f9)), (h0, .inr (5, [.ref qx, .int (nI 0), u2, .int (nI 0), u4, .int (nI 0), u6, u7, .int (nI 0), .ref qy])), (qt, .inr (0, [vt, .int 0, .int 0])), (qx, .inr (0, [vx, .int (nI 0), .int (nI 0)]))] := hD
  refine lv_iinc (v := (nI 9)) (lv' := [(2, .int (nI 9)), (0, .ref h0), (1, .ref qt)]) hx hb d_Card_read_40 hl (k := 0) rfl (by decide) (by decide) rfl (fun ls hl => ?_)
  refine lv_goto (tgt := 27) hx hb d_Card_read_43 (by decide) ?_
  refine lv_iload_n hx hb d_Card_read_27 rfl (lv_at hl 0 rfl) ?_
  refine lv_bipush (v := (nI 34)) hx hb d_Card_read_28 (by decide) ?_
  refine lv_icmp_ge (tgt := 46) hx hb d_Card_read_30 (by decide) (fun c_30 => absurd c_30 (by decide)) (fun _ => ?_)
  refine lv_aload_n hx hb d_Card_read_33 rfl (lv_at hl 1 rfl) ?_
  refine va_get (D := (dC, dI)) (ci := 5) (v := .ref qy) (C := R_Card) (T := F_Card) (N := 10) hx hb ht i_Card hown hK hP 1 rfl rfl 9 (by decide) (ht _ k_174) (fun _ h9 => h9) rfl d_Card_read_34 ?_
  refine lv_iload_n hx hb d_Card_read_37 rfl (lv_at hl 0 rfl) ?_
  refine lv_iconst (v := (nI 0)) hx hb d_Card_read_38 (by decide) ?_
  refine xw_iast hx hb hK hP hD hS 0 0 rfl rfl (vp_in_nI (by decide) (by decide)) d_Card_read_39 (fun f10 H locs hP hD hS => ?_)
  have hP : va_P (dC, dI) classes [(qy, .inl (cA, 34, .inl f10)), (h0, .inr (5, [.ref qx, .int (nI 0), u2, .int (nI 0), u4, .int (nI 0), u6, u7, .int (nI 0), .ref qy])), (qt, .inr (0, [vt, .int 0, .int 0])), (qx, .inr (0, [vx, .int (nI 0), .int (nI 0)]))] H := hP
  have hD : va_D A [(qy, .inl (cA, 34, .inl f10)), (h0, .inr (5, [.ref qx, .int (nI 0), u2, .int (nI 0), u4, .int (nI 0), u6, u7, .int (nI 0), .ref qy])), (qt, .inr (0, [vt, .int 0, .int 0])), (qx, .inr (0, [vx, .int (nI 0), .int (nI 0)]))] := hD
  refine lv_iinc (v := (nI 10)) (lv' := [(2, .int (nI 10)), (0, .ref h0), (1, .ref qt)]) hx hb d_Card_read_40 hl (k := 0) rfl (by decide) (by decide) rfl (fun ls hl => ?_)
  refine lv_goto (tgt := 27) hx hb d_Card_read_43 (by decide) ?_
  refine lv_iload_n hx hb d_Card_read_27 rfl (lv_at hl 0 rfl) ?_
  refine lv_bipush (v := (nI 34)) hx hb d_Card_read_28 (by decide) ?_
  refine lv_icmp_ge (tgt := 46) hx hb d_Card_read_30 (by decide) (fun c_30 => absurd c_30 (by decide)) (fun _ => ?_)
  refine lv_aload_n hx hb d_Card_read_33 rfl (lv_at hl 1 rfl) ?_
  refine va_get (D := (dC, dI)) (ci := 5) (v := .ref qy) (C := R_Card) (T := F_Card) (N := 10) hx hb ht i_Card hown hK hP 1 rfl rfl 9 (by decide) (ht _ k_174) (fun _ h9 => h9) rfl d_Card_read_34 ?_
  refine lv_iload_n hx hb d_Card_read_37 rfl (lv_at hl 0 rfl) ?_
  refine lv_iconst (v := (nI 0)) hx hb d_Card_read_38 (by decide) ?_
  refine xw_iast hx hb hK hP hD hS 0 0 rfl rfl (vp_in_nI (by decide) (by decide)) d_Card_read_39 (fun f11 H locs hP hD hS => ?_)
  have hP : va_P (dC, dI) classes [(qy, .inl (cA, 34, .inl f11)), (h0, .inr (5, [.ref qx, .int (nI 0), u2, .int (nI 0), u4, .int (nI 0), u6, u7, .int (nI 0), .ref qy])), (qt, .inr (0, [vt, .int 0, .int 0])), (qx, .inr (0, [vx, .int (nI 0), .int (nI 0)]))] H := hP
  have hD : va_D A [(qy, .inl (cA, 34, .inl f11)), (h0, .inr (5, [.ref qx, .int (nI 0), u2, .int (nI 0), u4, .int (nI 0), u6, u7, .int (nI 0), .ref qy])), (qt, .inr (0, [vt, .int 0, .int 0])), (qx, .inr (0, [vx, .int (nI 0), .int (nI 0)]))] := hD
  refine lv_iinc (v := (nI 11)) (lv' := [(2, .int (nI 11)), (0, .ref h0), (1, .ref qt)]) hx hb d_Card_read_40 hl (k := 0) rfl (by decide) (by decide) rfl (fun ls hl => ?_)
  refine lv_goto (tgt := 27) hx hb d_Card_read_43 (by decide) ?_
  refine lv_iload_n hx hb d_Card_read_27 rfl (lv_at hl 0 rfl) ?_
  refine lv_bipush (v := (nI 34)) hx hb d_Card_read_28 (by decide) ?_
  refine lv_icmp_ge (tgt := 46) hx hb d_Card_read_30 (by decide) (fun c_30 => absurd c_30 (by decide)) (fun _ => ?_)
  refine lv_aload_n hx hb d_Card_read_33 rfl (lv_at hl 1 rfl) ?_
  refine va_get (D := (dC, dI)) (ci := 5) (v := .ref qy) (C := R_Card) (T := F_Card) (N := 10) hx hb ht i_Card hown hK hP 1 rfl rfl 9 (by decide) (ht _ k_174) (fun _ h9 => h9) rfl d_Card_read_34 ?_
  refine lv_iload_n hx hb d_Card_read_37 rfl (lv_at hl 0 rfl) ?_
  refine lv_iconst (v := (nI 0)) hx hb d_Card_read_38 (by decide) ?_
  refine xw_iast hx hb hK hP hD hS 0 0 rfl rfl (vp_in_nI (by decide) (by decide)) d_Card_read_39 (fun f12 H locs hP hD hS => ?_)
  have hP : va_P (dC, dI) classes [(qy, .inl (cA, 34, .inl f12)), (h0, .inr (5, [.ref qx, .int (nI 0), u2, .int (nI 0), u4, .int (nI 0), u6, u7, .int (nI 0), .ref qy])), (qt, .inr (0, [vt, .int 0, .int 0])), (qx, .inr (0, [vx, .int (nI 0), .int (nI 0)]))] H := hP
  have hD : va_D A [(qy, .inl (cA, 34, .inl f12)), (h0, .inr (5, [.ref qx, .int (nI 0), u2, .int (nI 0), u4, .int (nI 0), u6, u7, .int (nI 0), .ref qy])), (qt, .inr (0, [vt, .int 0, .int 0])), (qx, .inr (0, [vx, .int (nI 0), .int (nI 0)]))] := hD
  refine lv_iinc (v := (nI 12)) (lv' := [(2, .int (nI 12)), (0, .ref h0), (1, .ref qt)]) hx hb d_Card_read_40 hl (k := 0) rfl (by decide) (by decide) rfl (fun ls hl => ?_)
  refine lv_goto (tgt := 27) hx hb d_Card_read_43 (by decide) ?_
  refine lv_iload_n hx hb d_Card_read_27 rfl (lv_at hl 0 rfl) ?_
  refine lv_bipush (v := (nI 34)) hx hb d_Card_read_28 (by decide) ?_
  refine lv_icmp_ge (tgt := 46) hx hb d_Card_read_30 (by decide) (fun c_30 => absurd c_30 (by decide)) (fun _ => ?_)
  refine lv_aload_n hx hb d_Card_read_33 rfl (lv_at hl 1 rfl) ?_
  refine va_get (D := (dC, dI)) (ci := 5) (v := .ref qy) (C := R_Card) (T := F_Card) (N := 10) hx hb ht i_Card hown hK hP 1 rfl rfl 9 (by decide) (ht _ k_174) (fun _ h9 => h9) rfl d_Card_read_34 ?_
  refine lv_iload_n hx hb d_Card_read_37 rfl (lv_at hl 0 rfl) ?_
  refine lv_iconst (v := (nI 0)) hx hb d_Card_read_38 (by decide) ?_
  refine xw_iast hx hb hK hP hD hS 0 0 rfl rfl (vp_in_nI (by decide) (by decide)) d_Card_read_39 (fun f13 H locs hP hD hS => ?_)
  have hP : va_P (dC, dI) classes [(qy, .inl (cA, 34, .inl f13)), (h0, .inr (5, [.ref qx, .int (nI 0), u2, .int (nI 0), u4, .int (nI 0), u6, u7, .int (nI 0), .ref qy])), (qt, .inr (0, [vt, .int 0, .int 0])), (qx, .inr (0, [vx, .int (nI 0), .int (nI 0)]))] H := hP
  have hD : va_D A [(qy, .inl (cA, 34, .inl f13)), (h0, .inr (5, [.ref qx, .int (nI 0), u2, .int (nI 0), u4, .int (nI 0), u6, u7, .int (nI 0), .ref qy])), (qt, .inr (0, [vt, .int 0, .int 0])), (qx, .inr (0, [vx, .int (nI 0), .int (nI 0)]))] := hD
  refine lv_iinc (v := (nI 13)) (lv' := [(2, .int (nI 13)), (0, .ref h0), (1, .ref qt)]) hx hb d_Card_read_40 hl (k := 0) rfl (by decide) (by decide) rfl (fun ls hl => ?_)
  refine lv_goto (tgt := 27) hx hb d_Card_read_43 (by decide) ?_
  refine lv_iload_n hx hb d_Card_read_27 rfl (lv_at hl 0 rfl) ?_
  refine lv_bipush (v := (nI 34)) hx hb d_Card_read_28 (by decide) ?_
  refine lv_icmp_ge (tgt := 46) hx hb d_Card_read_30 (by decide) (fun c_30 => absurd c_30 (by decide)) (fun _ => ?_)
  refine lv_aload_n hx hb d_Card_read_33 rfl (lv_at hl 1 rfl) ?_
  refine va_get (D := (dC, dI)) (ci := 5) (v := .ref qy) (C := R_Card) (T := F_Card) (N := 10) hx hb ht i_Card hown hK hP 1 rfl rfl 9 (by decide) (ht _ k_174) (fun _ h9 => h9) rfl d_Card_read_34 ?_
  refine lv_iload_n hx hb d_Card_read_37 rfl (lv_at hl 0 rfl) ?_
  refine lv_iconst (v := (nI 0)) hx hb d_Card_read_38 (by decide) ?_
  refine xw_iast hx hb hK hP hD hS 0 0 rfl rfl (vp_in_nI (by decide) (by decide)) d_Card_read_39 (fun f14 H locs hP hD hS => ?_)
  have hP : va_P (dC, dI) classes [(qy, .inl (cA, 34, .inl f14)), (h0, .inr (5, [.ref qx, .int (nI 0), u2, .int (nI 0), u4, .int (nI 0), u6, u7, .int (nI 0), .ref qy])), (qt, .inr (0, [vt, .int 0, .int 0])), (qx, .inr (0, [vx, .int (nI 0), .int (nI 0)]))] H := hP
  have hD : va_D A [(qy, .inl (cA, 34, .inl f14)), (h0, .inr (5, [.ref qx, .int (nI 0), u2, .int (nI 0), u4, .int (nI 0), u6, u7, .int (nI 0), .ref qy])), (qt, .inr (0, [vt, .int 0, .int 0])), (qx, .inr (0, [vx, .int (nI 0), .int (nI 0)]))] := hD
  refine lv_iinc (v := (nI 14)) (lv' := [(2, .int (nI 14)), (0, .ref h0), (1, .ref qt)]) hx hb d_Card_read_40 hl (k := 0) rfl (by decide) (by decide) rfl (fun ls hl => ?_)
  refine lv_goto (tgt := 27) hx hb d_Card_read_43 (by decide) ?_
  refine lv_iload_n hx hb d_Card_read_27 rfl (lv_at hl 0 rfl) ?_
  refine lv_bipush (v := (nI 34)) hx hb d_Card_read_28 (by decide) ?_
  refine lv_icmp_ge (tgt := 46) hx hb d_Card_read_30 (by decide) (fun c_30 => absurd c_30 (by decide)) (fun _ => ?_)
  refine lv_aload_n hx hb d_Card_read_33 rfl (lv_at hl 1 rfl) ?_
  refine va_get (D := (dC, dI)) (ci := 5) (v := .ref qy) (C := R_Card) (T := F_Card) (N := 10) hx hb ht i_Card hown hK hP 1 rfl rfl 9 (by decide) (ht _ k_174) (fun _ h9 => h9) rfl d_Card_read_34 ?_
  refine lv_iload_n hx hb d_Card_read_37 rfl (lv_at hl 0 rfl) ?_
  refine lv_iconst (v := (nI 0)) hx hb d_Card_read_38 (by decide) ?_
  refine xw_iast hx hb hK hP hD hS 0 0 rfl rfl (vp_in_nI (by decide) (by decide)) d_Card_read_39 (fun f15 H locs hP hD hS => ?_)
  have hP : va_P (dC, dI) classes [(qy, .inl (cA, 34, .inl f15)), (h0, .inr (5, [.ref qx, .int (nI 0), u2, .int (nI 0), u4, .int (nI 0), u6, u7, .int (nI 0), .ref qy])), (qt, .inr (0, [vt, .int 0, .int 0])), (qx, .inr (0, [vx, .int (nI 0), .int (nI 0)]))] H := hP
  have hD : va_D A [(qy, .inl (cA, 34, .inl f15)), (h0, .inr (5, [.ref qx, .int (nI 0), u2, .int (nI 0), u4, .int (nI 0), u6, u7, .int (nI 0), .ref qy])), (qt, .inr (0, [vt, .int 0, .int 0])), (qx, .inr (0, [vx, .int (nI 0), .int (nI 0)]))] := hD
  refine lv_iinc (v := (nI 15)) (lv' := [(2, .int (nI 15)), (0, .ref h0), (1, .ref qt)]) hx hb d_Card_read_40 hl (k := 0) rfl (by decide) (by decide) rfl (fun ls hl => ?_)
  refine lv_goto (tgt := 27) hx hb d_Card_read_43 (by decide) ?_
  refine lv_iload_n hx hb d_Card_read_27 rfl (lv_at hl 0 rfl) ?_
  refine lv_bipush (v := (nI 34)) hx hb d_Card_read_28 (by decide) ?_
  refine lv_icmp_ge (tgt := 46) hx hb d_Card_read_30 (by decide) (fun c_30 => absurd c_30 (by decide)) (fun _ => ?_)
  refine lv_aload_n hx hb d_Card_read_33 rfl (lv_at hl 1 rfl) ?_
  refine va_get (D := (dC, dI)) (ci := 5) (v := .ref qy) (C := R_Card) (T := F_Card) (N := 10) hx hb ht i_Card hown hK hP 1 rfl rfl 9 (by decide) (ht _ k_174) (fun _ h9 => h9) rfl d_Card_read_34 ?_
  refine lv_iload_n hx hb d_Card_read_37 rfl (lv_at hl 0 rfl) ?_
  refine lv_iconst (v := (nI 0)) hx hb d_Card_read_38 (by decide) ?_
  refine xw_iast hx hb hK hP hD hS 0 0 rfl rfl (vp_in_nI (by decide) (by decide)) d_Card_read_39 (fun f16 H locs hP hD hS => ?_)
  have hP : va_P (dC, dI) classes [(qy, .inl (cA, 34, .inl f16)), (h0, .inr (5, [.ref qx, .int (nI 0), u2, .int (nI 0), u4, .int (nI 0), u6, u7, .int (nI 0), .ref qy])), (qt, .inr (0, [vt, .int 0, .int 0])), (qx, .inr (0, [vx, .int (nI 0), .int (nI 0)]))] H := hP
  have hD : va_D A [(qy, .inl (cA, 34, .inl f16)), (h0, .inr (5, [.ref qx, .int (nI 0), u2, .int (nI 0), u4, .int (nI 0), u6, u7, .int (nI 0), .ref qy])), (qt, .inr (0, [vt, .int 0, .int 0])), (qx, .inr (0, [vx, .int (nI 0), .int (nI 0)]))] := hD
  refine lv_iinc (v := (nI 16)) (lv' := [(2, .int (nI 16)), (0, .ref h0), (1, .ref qt)]) hx hb d_Card_read_40 hl (k := 0) rfl (by decide) (by decide) rfl (fun ls hl => ?_)
  refine lv_goto (tgt := 27) hx hb d_Card_read_43 (by decide) ?_
  refine lv_iload_n hx hb d_Card_read_27 rfl (lv_at hl 0 rfl) ?_
  refine lv_bipush (v := (nI 34)) hx hb d_Card_read_28 (by decide) ?_
  refine lv_icmp_ge (tgt := 46) hx hb d_Card_read_30 (by decide) (fun c_30 => absurd c_30 (by decide)) (fun _ => ?_)
  refine lv_aload_n hx hb d_Card_read_33 rfl (lv_at hl 1 rfl) ?_
  refine va_get (D := (dC, dI)) (ci := 5) (v := .ref qy) (C := R_Card) (T := F_Card) (N := 10) hx hb ht i_Card hown hK hP 1 rfl rfl 9 (by decide) (ht _ k_174) (fun _ h9 => h9) rfl d_Card_read_34 ?_
  refine lv_iload_n hx hb d_Card_read_37 rfl (lv_at hl 0 rfl) ?_
  refine lv_iconst (v := (nI 0)) hx hb d_Card_read_38 (by decide) ?_
  refine xw_iast hx hb hK hP hD hS 0 0 rfl rfl (vp_in_nI (by decide) (by decide)) d_Card_read_39 (fun f17 H locs hP hD hS => ?_)
  have hP : va_P (dC, dI) classes [(qy, .inl (cA, 34, .inl f17)), (h0, .inr (5, [.ref qx, .int (nI 0), u2, .int (nI 0), u4, .int (nI 0), u6, u7, .int (nI 0), .ref qy])), (qt, .inr (0, [vt, .int 0, .int 0])), (qx, .inr (0, [vx, .int (nI 0), .int (nI 0)]))] H := hP
  have hD : va_D A [(qy, .inl (cA, 34, .inl f17)), (h0, .inr (5, [.ref qx, .int (nI 0), u2, .int (nI 0), u4, .int (nI 0), u6, u7, .int (nI 0), .ref qy])), (qt, .inr (0, [vt, .int 0, .int 0])), (qx, .inr (0, [vx, .int (nI 0), .int (nI 0)]))] := hD
  refine lv_iinc (v := (nI 17)) (lv' := [(2, .int (nI 17)), (0, .ref h0), (1, .ref qt)]) hx hb d_Card_read_40 hl (k := 0) rfl (by decide) (by decide) rfl (fun ls hl => ?_)
  refine lv_goto (tgt := 27) hx hb d_Card_read_43 (by decide) ?_
  refine lv_iload_n hx hb d_Card_read_27 rfl (lv_at hl 0 rfl) ?_
  refine lv_bipush (v := (nI 34)) hx hb d_Card_read_28 (by decide) ?_
  refine lv_icmp_ge (tgt := 46) hx hb d_Card_read_30 (by decide) (fun c_30 => absurd c_30 (by decide)) (fun _ => ?_)
  refine lv_aload_n hx hb d_Card_read_33 rfl (lv_at hl 1 rfl) ?_
  refine va_get (D := (dC, dI)) (ci := 5) (v := .ref qy) (C := R_Card) (T := F_Card) (N := 10) hx hb ht i_Card hown hK hP 1 rfl rfl 9 (by decide) (ht _ k_174) (fun _ h9 => h9) rfl d_Card_read_34 ?_
  refine lv_iload_n hx hb d_Card_read_37 rfl (lv_at hl 0 rfl) ?_
  refine lv_iconst (v := (nI 0)) hx hb d_Card_read_38 (by decide) ?_
  refine xw_iast hx hb hK hP hD hS 0 0 rfl rfl (vp_in_nI (by decide) (by decide)) d_Card_read_39 (fun f18 H locs hP hD hS => ?_)
  have hP : va_P (dC, dI) classes [(qy, .inl (cA, 34, .inl f18)), (h0, .inr (5, [.ref qx, .int (nI 0), u2, .int (nI 0), u4, .int (nI 0), u6, u7, .int (nI 0), .ref qy])), (qt, .inr (0, [vt, .int 0, .int 0])), (qx, .inr (0, [vx, .int (nI 0), .int (nI 0)]))] H := hP
  have hD : va_D A [(qy, .inl (cA, 34, .inl f18)), (h0, .inr (5, [.ref qx, .int (nI 0), u2, .int (nI 0), u4, .int (nI 0), u6, u7, .int (nI 0), .ref qy])), (qt, .inr (0, [vt, .int 0, .int 0])), (qx, .inr (0, [vx, .int (nI 0), .int (nI 0)]))] := hD
  refine lv_iinc (v := (nI 18)) (lv' := [(2, .int (nI 18)), (0, .ref h0), (1, .ref qt)]) hx hb d_Card_read_40 hl (k := 0) rfl (by decide) (by decide) rfl (fun ls hl => ?_)
  refine lv_goto (tgt := 27) hx hb d_Card_read_43 (by decide) ?_
  refine lv_iload_n hx hb d_Card_read_27 rfl (lv_at hl 0 rfl) ?_
  refine lv_bipush (v := (nI 34)) hx hb d_Card_read_28 (by decide) ?_
  refine lv_icmp_ge (tgt := 46) hx hb d_Card_read_30 (by decide) (fun c_30 => absurd c_30 (by decide)) (fun _ => ?_)
  refine lv_aload_n hx hb d_Card_read_33 rfl (lv_at hl 1 rfl) ?_
  refine va_get (D := (dC, dI)) (ci := 5) (v := .ref qy) (C := R_Card) (T := F_Card) (N := 10) hx hb ht i_Card hown hK hP 1 rfl rfl 9 (by decide) (ht _ k_174) (fun _ h9 => h9) rfl d_Card_read_34 ?_
  refine lv_iload_n hx hb d_Card_read_37 rfl (lv_at hl 0 rfl) ?_
  refine lv_iconst (v := (nI 0)) hx hb d_Card_read_38 (by decide) ?_
  refine xw_iast hx hb hK hP hD hS 0 0 rfl rfl (vp_in_nI (by decide) (by decide)) d_Card_read_39 (fun f19 H locs hP hD hS => ?_)
  have hP : va_P (dC, dI) classes [(qy, .inl (cA, 34, .inl f19)), (h0, .inr (5, [.ref qx, .int (nI 0), u2, .int (nI 0), u4, .int (nI 0), u6, u7, .int (nI 0), .ref qy])), (qt, .inr (0, [vt, .int 0, .int 0])), (qx, .inr (0, [vx, .int (nI 0), .int (nI 0)]))] H := hP
  have hD : va_D A [(qy, .inl (cA, 34, .inl f19)), (h0, .inr (5, [.ref qx, .int (nI 0), u2, .int (nI 0), u4, .int (nI 0), u6, u7, .int (nI 0), .ref qy])), (qt, .inr (0, [vt, .int 0, .int 0])), (qx, .inr (0, [vx, .int (nI 0), .int (nI 0)]))] := hD
  refine lv_iinc (v := (nI 19)) (lv' := [(2, .int (nI 19)), (0, .ref h0), (1, .ref qt)]) hx hb d_Card_read_40 hl (k := 0) rfl (by decide) (by decide) rfl (fun ls hl => ?_)
  refine lv_goto (tgt := 27) hx hb d_Card_read_43 (by decide) ?_
  refine lv_iload_n hx hb d_Card_read_27 rfl (lv_at hl 0 rfl) ?_
  refine lv_bipush (v := (nI 34)) hx hb d_Card_read_28 (by decide) ?_
  refine lv_icmp_ge (tgt := 46) hx hb d_Card_read_30 (by decide) (fun c_30 => absurd c_30 (by decide)) (fun _ => ?_)
  refine lv_aload_n hx hb d_Card_read_33 rfl (lv_at hl 1 rfl) ?_
  refine va_get (D := (dC, dI)) (ci := 5) (v := .ref qy) (C := R_Card) (T := F_Card) (N := 10) hx hb ht i_Card hown hK hP 1 rfl rfl 9 (by decide) (ht _ k_174) (fun _ h9 => h9) rfl d_Card_read_34 ?_
  refine lv_iload_n hx hb d_Card_read_37 rfl (lv_at hl 0 rfl) ?_
  refine lv_iconst (v := (nI 0)) hx hb d_Card_read_38 (by decide) ?_
  refine xw_iast hx hb hK hP hD hS 0 0 rfl rfl (vp_in_nI (by decide) (by decide)) d_Card_read_39 (fun f20 H locs hP hD hS => ?_)
  have hP : va_P (dC, dI) classes [(qy, .inl (cA, 34, .inl f20)), (h0, .inr (5, [.ref qx, .int (nI 0), u2, .int (nI 0), u4, .int (nI 0), u6, u7, .int (nI 0), .ref qy])), (qt, .inr (0, [vt, .int 0, .int 0])), (qx, .inr (0, [vx, .int (nI 0), .int (nI 0)]))] H := hP
  have hD : va_D A [(qy, .inl (cA, 34, .inl f20)), (h0, .inr (5, [.ref qx, .int (nI 0), u2, .int (nI 0), u4, .int (nI 0), u6, u7, .int (nI 0), .ref qy])), (qt, .inr (0, [vt, .int 0, .int 0])), (qx, .inr (0, [vx, .int (nI 0), .int (nI 0)]))] := hD
  refine lv_iinc (v := (nI 20)) (lv' := [(2, .int (nI 20)), (0, .ref h0), (1, .ref qt)]) hx hb d_Card_read_40 hl (k := 0) rfl (by decide) (by decide) rfl (fun ls hl => ?_)
  refine lv_goto (tgt := 27) hx hb d_Card_read_43 (by decide) ?_
  refine lv_iload_n hx hb d_Card_read_27 rfl (lv_at hl 0 rfl) ?_
  refine lv_bipush (v := (nI 34)) hx hb d_Card_read_28 (by decide) ?_
  refine lv_icmp_ge (tgt := 46) hx hb d_Card_read_30 (by decide) (fun c_30 => absurd c_30 (by decide)) (fun _ => ?_)
  refine lv_aload_n hx hb d_Card_read_33 rfl (lv_at hl 1 rfl) ?_
  refine va_get (D := (dC, dI)) (ci := 5) (v := .ref qy) (C := R_Card) (T := F_Card) (N := 10) hx hb ht i_Card hown hK hP 1 rfl rfl 9 (by decide) (ht _ k_174) (fun _ h9 => h9) rfl d_Card_read_34 ?_
  refine lv_iload_n hx hb d_Card_read_37 rfl (lv_at hl 0 rfl) ?_
  refine lv_iconst (v := (nI 0)) hx hb d_Card_read_38 (by decide) ?_
  refine xw_iast hx hb hK hP hD hS 0 0 rfl rfl (vp_in_nI (by decide) (by decide)) d_Card_read_39 (fun f21 H locs hP hD hS => ?_)
  have hP : va_P (dC, dI) classes [(qy, .inl (cA, 34, .inl f21)), (h0, .inr (5, [.ref qx, .int (nI 0), u2, .int (nI 0), u4, .int (nI 0), u6, u7, .int (nI 0), .ref qy])), (qt, .inr (0, [vt, .int 0, .int 0])), (qx, .inr (0, [vx, .int (nI 0), .int (nI 0)]))] H := hP
  have hD : va_D A [(qy, .inl (cA, 34, .inl f21)), (h0, .inr (5, [.ref qx, .int (nI 0), u2, .int (nI 0), u4, .int (nI 0), u6, u7, .int (nI 0), .ref qy])), (qt, .inr (0, [vt, .int 0, .int 0])), (qx, .inr (0, [vx, .int (nI 0), .int (nI 0)]))] := hD
  refine lv_iinc (v := (nI 21)) (lv' := [(2, .int (nI 21)), (0, .ref h0), (1, .ref qt)]) hx hb d_Card_read_40 hl (k := 0) rfl (by decide) (by decide) rfl (fun ls hl => ?_)
  refine lv_goto (tgt := 27) hx hb d_Card_read_43 (by decide) ?_
  refine lv_iload_n hx hb d_Card_read_27 rfl (lv_at hl 0 rfl) ?_
  refine lv_bipush (v := (nI 34)) hx hb d_Card_read_28 (by decide) ?_
  refine lv_icmp_ge (tgt := 46) hx hb d_Card_read_30 (by decide) (fun c_30 => absurd c_30 (by decide)) (fun _ => ?_)
  refine lv_aload_n hx hb d_Card_read_33 rfl (lv_at hl 1 rfl) ?_
  refine va_get (D := (dC, dI)) (ci := 5) (v := .ref qy) (C := R_Card) (T := F_Card) (N := 10) hx hb ht i_Card hown hK hP 1 rfl rfl 9 (by decide) (ht _ k_174) (fun _ h9 => h9) rfl d_Card_read_34 ?_
  refine lv_iload_n hx hb d_Card_read_37 rfl (lv_at hl 0 rfl) ?_
  refine lv_iconst (v := (nI 0)) hx hb d_Card_read_38 (by decide) ?_
  refine xw_iast hx hb hK hP hD hS 0 0 rfl rfl (vp_in_nI (by decide) (by decide)) d_Card_read_39 (fun f22 H locs hP hD hS => ?_)
  have hP : va_P (dC, dI) classes [(qy, .inl (cA, 34, .inl f22)), (h0, .inr (5, [.ref qx, .int (nI 0), u2, .int (nI 0), u4, .int (nI 0), u6, u7, .int (nI 0), .ref qy])), (qt, .inr (0, [vt, .int 0, .int 0])), (qx, .inr (0, [vx, .int (nI 0), .int (nI 0)]))] H := hP
  have hD : va_D A [(qy, .inl (cA, 34, .inl f22)), (h0, .inr (5, [.ref qx, .int (nI 0), u2, .int (nI 0), u4, .int (nI 0), u6, u7, .int (nI 0), .ref qy])), (qt, .inr (0, [vt, .int 0, .int 0])), (qx, .inr (0, [vx, .int (nI 0), .int (nI 0)]))] := hD
  refine lv_iinc (v := (nI 22)) (lv' := [(2, .int (nI 22)), (0, .ref h0), (1, .ref qt)]) hx hb d_Card_read_40 hl (k := 0) rfl (by decide) (by decide) rfl (fun ls hl => ?_)
  refine lv_goto (tgt := 27) hx hb d_Card_read_43 (by decide) ?_
  refine lv_iload_n hx hb d_Card_read_27 rfl (lv_at hl 0 rfl) ?_
  refine lv_bipush (v := (nI 34)) hx hb d_Card_read_28 (by decide) ?_
  refine lv_icmp_ge (tgt := 46) hx hb d_Card_read_30 (by decide) (fun c_30 => absurd c_30 (by decide)) (fun _ => ?_)
  refine lv_aload_n hx hb d_Card_read_33 rfl (lv_at hl 1 rfl) ?_
  refine va_get (D := (dC, dI)) (ci := 5) (v := .ref qy) (C := R_Card) (T := F_Card) (N := 10) hx hb ht i_Card hown hK hP 1 rfl rfl 9 (by decide) (ht _ k_174) (fun _ h9 => h9) rfl d_Card_read_34 ?_
  refine lv_iload_n hx hb d_Card_read_37 rfl (lv_at hl 0 rfl) ?_
  refine lv_iconst (v := (nI 0)) hx hb d_Card_read_38 (by decide) ?_
  refine xw_iast hx hb hK hP hD hS 0 0 rfl rfl (vp_in_nI (by decide) (by decide)) d_Card_read_39 (fun f23 H locs hP hD hS => ?_)
  have hP : va_P (dC, dI) classes [(qy, .inl (cA, 34, .inl f23)), (h0, .inr (5, [.ref qx, .int (nI 0), u2, .int (nI 0), u4, .int (nI 0), u6, u7, .int (nI 0), .ref qy])), (qt, .inr (0, [vt, .int 0, .int 0])), (qx, .inr (0, [vx, .int (nI 0), .int (nI 0)]))] H := hP
  have hD : va_D A [(qy, .inl (cA, 34, .inl f23)), (h0, .inr (5, [.ref qx, .int (nI 0), u2, .int (nI 0), u4, .int (nI 0), u6, u7, .int (nI 0), .ref qy])), (qt, .inr (0, [vt, .int 0, .int 0])), (qx, .inr (0, [vx, .int (nI 0), .int (nI 0)]))] := hD
  refine lv_iinc (v := (nI 23)) (lv' := [(2, .int (nI 23)), (0, .ref h0), (1, .ref qt)]) hx hb d_Card_read_40 hl (k := 0) rfl (by decide) (by decide) rfl (fun ls hl => ?_)
  refine lv_goto (tgt := 27) hx hb d_Card_read_43 (by decide) ?_
  refine lv_iload_n hx hb d_Card_read_27 rfl (lv_at hl 0 rfl) ?_
  refine lv_bipush (v := (nI 34)) hx hb d_Card_read_28 (by decide) ?_
  refine lv_icmp_ge (tgt := 46) hx hb d_Card_read_30 (by decide) (fun c_30 => absurd c_30 (by decide)) (fun _ => ?_)
  refine lv_aload_n hx hb d_Card_read_33 rfl (lv_at hl 1 rfl) ?_
  refine va_get (D := (dC, dI)) (ci := 5) (v := .ref qy) (C := R_Card) (T := F_Card) (N := 10) hx hb ht i_Card hown hK hP 1 rfl rfl 9 (by decide) (ht _ k_174) (fun _ h9 => h9) rfl d_Card_read_34 ?_
  refine lv_iload_n hx hb d_Card_read_37 rfl (lv_at hl 0 rfl) ?_
  refine lv_iconst (v := (nI 0)) hx hb d_Card_read_38 (by decide) ?_
  refine xw_iast hx hb hK hP hD hS 0 0 rfl rfl (vp_in_nI (by decide) (by decide)) d_Card_read_39 (fun f24 H locs hP hD hS => ?_)
  have hP : va_P (dC, dI) classes [(qy, .inl (cA, 34, .inl f24)), (h0, .inr (5, [.ref qx, .int (nI 0), u2, .int (nI 0), u4, .int (nI 0), u6, u7, .int (nI 0), .ref qy])), (qt, .inr (0, [vt, .int 0, .int 0])), (qx, .inr (0, [vx, .int (nI 0), .int (nI 0)]))] H := hP
  have hD : va_D A [(qy, .inl (cA, 34, .inl f24)), (h0, .inr (5, [.ref qx, .int (nI 0), u2, .int (nI 0), u4, .int (nI 0), u6, u7, .int (nI 0), .ref qy])), (qt, .inr (0, [vt, .int 0, .int 0])), (qx, .inr (0, [vx, .int (nI 0), .int (nI 0)]))] := hD
  refine lv_iinc (v := (nI 24)) (lv' := [(2, .int (nI 24)), (0, .ref h0), (1, .ref qt)]) hx hb d_Card_read_40 hl (k := 0) rfl (by decide) (by decide) rfl (fun ls hl => ?_)
  refine lv_goto (tgt := 27) hx hb d_Card_read_43 (by decide) ?_
  refine lv_iload_n hx hb d_Card_read_27 rfl (lv_at hl 0 rfl) ?_
  refine lv_bipush (v := (nI 34)) hx hb d_Card_read_28 (by decide) ?_
  refine lv_icmp_ge (tgt := 46) hx hb d_Card_read_30 (by decide) (fun c_30 => absurd c_30 (by decide)) (fun _ => ?_)
  refine lv_aload_n hx hb d_Card_read_33 rfl (lv_at hl 1 rfl) ?_
  refine va_get (D := (dC, dI)) (ci := 5) (v := .ref qy) (C := R_Card) (T := F_Card) (N := 10) hx hb ht i_Card hown hK hP 1 rfl rfl 9 (by decide) (ht _ k_174) (fun _ h9 => h9) rfl d_Card_read_34 ?_
  refine lv_iload_n hx hb d_Card_read_37 rfl (lv_at hl 0 rfl) ?_
  refine lv_iconst (v := (nI 0)) hx hb d_Card_read_38 (by decide) ?_
  refine xw_iast hx hb hK hP hD hS 0 0 rfl rfl (vp_in_nI (by decide) (by decide)) d_Card_read_39 (fun f25 H locs hP hD hS => ?_)
  have hP : va_P (dC, dI) classes [(qy, .inl (cA, 34, .inl f25)), (h0, .inr (5, [.ref qx, .int (nI 0), u2, .int (nI 0), u4, .int (nI 0), u6, u7, .int (nI 0), .ref qy])), (qt, .inr (0, [vt, .int 0, .int 0])), (qx, .inr (0, [vx, .int (nI 0), .int (nI 0)]))] H := hP
  have hD : va_D A [(qy, .inl (cA, 34, .inl f25)), (h0, .inr (5, [.ref qx, .int (nI 0), u2, .int (nI 0), u4, .int (nI 0), u6, u7, .int (nI 0), .ref qy])), (qt, .inr (0, [vt, .int 0, .int 0])), (qx, .inr (0, [vx, .int (nI 0), .int (nI 0)]))] := hD
  refine lv_iinc (v := (nI 25)) (lv' := [(2, .int (nI 25)), (0, .ref h0), (1, .ref qt)]) hx hb d_Card_read_40 hl (k := 0) rfl (by decide) (by decide) rfl (fun ls hl => ?_)
  refine lv_goto (tgt := 27) hx hb d_Card_read_43 (by decide) ?_
  refine lv_iload_n hx hb d_Card_read_27 rfl (lv_at hl 0 rfl) ?_
  refine lv_bipush (v := (nI 34)) hx hb d_Card_read_28 (by decide) ?_
  refine lv_icmp_ge (tgt := 46) hx hb d_Card_read_30 (by decide) (fun c_30 => absurd c_30 (by decide)) (fun _ => ?_)
  refine lv_aload_n hx hb d_Card_read_33 rfl (lv_at hl 1 rfl) ?_
  refine va_get (D := (dC, dI)) (ci := 5) (v := .ref qy) (C := R_Card) (T := F_Card) (N := 10) hx hb ht i_Card hown hK hP 1 rfl rfl 9 (by decide) (ht _ k_174) (fun _ h9 => h9) rfl d_Card_read_34 ?_
  refine lv_iload_n hx hb d_Card_read_37 rfl (lv_at hl 0 rfl) ?_
  refine lv_iconst (v := (nI 0)) hx hb d_Card_read_38 (by decide) ?_
  refine xw_iast hx hb hK hP hD hS 0 0 rfl rfl (vp_in_nI (by decide) (by decide)) d_Card_read_39 (fun f26 H locs hP hD hS => ?_)
  have hP : va_P (dC, dI) classes [(qy, .inl (cA, 34, .inl f26)), (h0, .inr (5, [.ref qx, .int (nI 0), u2, .int (nI 0), u4, .int (nI 0), u6, u7, .int (nI 0), .ref qy])), (qt, .inr (0, [vt, .int 0, .int 0])), (qx, .inr (0, [vx, .int (nI 0), .int (nI 0)]))] H := hP
  have hD : va_D A [(qy, .inl (cA, 34, .inl f26)), (h0, .inr (5, [.ref qx, .int (nI 0), u2, .int (nI 0), u4, .int (nI 0), u6, u7, .int (nI 0), .ref qy])), (qt, .inr (0, [vt, .int 0, .int 0])), (qx, .inr (0, [vx, .int (nI 0), .int (nI 0)]))] := hD
  refine lv_iinc (v := (nI 26)) (lv' := [(2, .int (nI 26)), (0, .ref h0), (1, .ref qt)]) hx hb d_Card_read_40 hl (k := 0) rfl (by decide) (by decide) rfl (fun ls hl => ?_)
  refine lv_goto (tgt := 27) hx hb d_Card_read_43 (by decide) ?_
  refine lv_iload_n hx hb d_Card_read_27 rfl (lv_at hl 0 rfl) ?_
  refine lv_bipush (v := (nI 34)) hx hb d_Card_read_28 (by decide) ?_
  refine lv_icmp_ge (tgt := 46) hx hb d_Card_read_30 (by decide) (fun c_30 => absurd c_30 (by decide)) (fun _ => ?_)
  refine lv_aload_n hx hb d_Card_read_33 rfl (lv_at hl 1 rfl) ?_
  refine va_get (D := (dC, dI)) (ci := 5) (v := .ref qy) (C := R_Card) (T := F_Card) (N := 10) hx hb ht i_Card hown hK hP 1 rfl rfl 9 (by decide) (ht _ k_174) (fun _ h9 => h9) rfl d_Card_read_34 ?_
  refine lv_iload_n hx hb d_Card_read_37 rfl (lv_at hl 0 rfl) ?_
  refine lv_iconst (v := (nI 0)) hx hb d_Card_read_38 (by decide) ?_
  refine xw_iast hx hb hK hP hD hS 0 0 rfl rfl (vp_in_nI (by decide) (by decide)) d_Card_read_39 (fun f27 H locs hP hD hS => ?_)
  have hP : va_P (dC, dI) classes [(qy, .inl (cA, 34, .inl f27)), (h0, .inr (5, [.ref qx, .int (nI 0), u2, .int (nI 0), u4, .int (nI 0), u6, u7, .int (nI 0), .ref qy])), (qt, .inr (0, [vt, .int 0, .int 0])), (qx, .inr (0, [vx, .int (nI 0), .int (nI 0)]))] H := hP
  have hD : va_D A [(qy, .inl (cA, 34, .inl f27)), (h0, .inr (5, [.ref qx, .int (nI 0), u2, .int (nI 0), u4, .int (nI 0), u6, u7, .int (nI 0), .ref qy])), (qt, .inr (0, [vt, .int 0, .int 0])), (qx, .inr (0, [vx, .int (nI 0), .int (nI 0)]))] := hD
  refine lv_iinc (v := (nI 27)) (lv' := [(2, .int (nI 27)), (0, .ref h0), (1, .ref qt)]) hx hb d_Card_read_40 hl (k := 0) rfl (by decide) (by decide) rfl (fun ls hl => ?_)
  refine lv_goto (tgt := 27) hx hb d_Card_read_43 (by decide) ?_
  refine lv_iload_n hx hb d_Card_read_27 rfl (lv_at hl 0 rfl) ?_
  refine lv_bipush (v := (nI 34)) hx hb d_Card_read_28 (by decide) ?_
  refine lv_icmp_ge (tgt := 46) hx hb d_Card_read_30 (by decide) (fun c_30 => absurd c_30 (by decide)) (fun _ => ?_)
  refine lv_aload_n hx hb d_Card_read_33 rfl (lv_at hl 1 rfl) ?_
  refine va_get (D := (dC, dI)) (ci := 5) (v := .ref qy) (C := R_Card) (T := F_Card) (N := 10) hx hb ht i_Card hown hK hP 1 rfl rfl 9 (by decide) (ht _ k_174) (fun _ h9 => h9) rfl d_Card_read_34 ?_
  refine lv_iload_n hx hb d_Card_read_37 rfl (lv_at hl 0 rfl) ?_
  refine lv_iconst (v := (nI 0)) hx hb d_Card_read_38 (by decide) ?_
  refine xw_iast hx hb hK hP hD hS 0 0 rfl rfl (vp_in_nI (by decide) (by decide)) d_Card_read_39 (fun f28 H locs hP hD hS => ?_)
  have hP : va_P (dC, dI) classes [(qy, .inl (cA, 34, .inl f28)), (h0, .inr (5, [.ref qx, .int (nI 0), u2, .int (nI 0), u4, .int (nI 0), u6, u7, .int (nI 0), .ref qy])), (qt, .inr (0, [vt, .int 0, .int 0])), (qx, .inr (0, [vx, .int (nI 0), .int (nI 0)]))] H := hP
  have hD : va_D A [(qy, .inl (cA, 34, .inl f28)), (h0, .inr (5, [.ref qx, .int (nI 0), u2, .int (nI 0), u4, .int (nI 0), u6, u7, .int (nI 0), .ref qy])), (qt, .inr (0, [vt, .int 0, .int 0])), (qx, .inr (0, [vx, .int (nI 0), .int (nI 0)]))] := hD
  refine lv_iinc (v := (nI 28)) (lv' := [(2, .int (nI 28)), (0, .ref h0), (1, .ref qt)]) hx hb d_Card_read_40 hl (k := 0) rfl (by decide) (by decide) rfl (fun ls hl => ?_)
  refine lv_goto (tgt := 27) hx hb d_Card_read_43 (by decide) ?_
  refine lv_iload_n hx hb d_Card_read_27 rfl (lv_at hl 0 rfl) ?_
  refine lv_bipush (v := (nI 34)) hx hb d_Card_read_28 (by decide) ?_
  refine lv_icmp_ge (tgt := 46) hx hb d_Card_read_30 (by decide) (fun c_30 => absurd c_30 (by decide)) (fun _ => ?_)
  refine lv_aload_n hx hb d_Card_read_33 rfl (lv_at hl 1 rfl) ?_
  refine va_get (D := (dC, dI)) (ci := 5) (v := .ref qy) (C := R_Card) (T := F_Card) (N := 10) hx hb ht i_Card hown hK hP 1 rfl rfl 9 (by decide) (ht _ k_174) (fun _ h9 => h9) rfl d_Card_read_34 ?_
  refine lv_iload_n hx hb d_Card_read_37 rfl (lv_at hl 0 rfl) ?_
  refine lv_iconst (v := (nI 0)) hx hb d_Card_read_38 (by decide) ?_
  refine xw_iast hx hb hK hP hD hS 0 0 rfl rfl (vp_in_nI (by decide) (by decide)) d_Card_read_39 (fun f29 H locs hP hD hS => ?_)
  have hP : va_P (dC, dI) classes [(qy, .inl (cA, 34, .inl f29)), (h0, .inr (5, [.ref qx, .int (nI 0), u2, .int (nI 0), u4, .int (nI 0), u6, u7, .int (nI 0), .ref qy])), (qt, .inr (0, [vt, .int 0, .int 0])), (qx, .inr (0, [vx, .int (nI 0), .int (nI 0)]))] H := hP
  have hD : va_D A [(qy, .inl (cA, 34, .inl f29)), (h0, .inr (5, [.ref qx, .int (nI 0), u2, .int (nI 0), u4, .int (nI 0), u6, u7, .int (nI 0), .ref qy])), (qt, .inr (0, [vt, .int 0, .int 0])), (qx, .inr (0, [vx, .int (nI 0), .int (nI 0)]))] := hD
  refine lv_iinc (v := (nI 29)) (lv' := [(2, .int (nI 29)), (0, .ref h0), (1, .ref qt)]) hx hb d_Card_read_40 hl (k := 0) rfl (by decide) (by decide) rfl (fun ls hl => ?_)
  refine lv_goto (tgt := 27) hx hb d_Card_read_43 (by decide) ?_
  refine lv_iload_n hx hb d_Card_read_27 rfl (lv_at hl 0 rfl) ?_
  refine lv_bipush (v := (nI 34)) hx hb d_Card_read_28 (by decide) ?_
  refine lv_icmp_ge (tgt := 46) hx hb d_Card_read_30 (by decide) (fun c_30 => absurd c_30 (by decide)) (fun _ => ?_)
  refine lv_aload_n hx hb d_Card_read_33 rfl (lv_at hl 1 rfl) ?_
  refine va_get (D := (dC, dI)) (ci := 5) (v := .ref qy) (C := R_Card) (T := F_Card) (N := 10) hx hb ht i_Card hown hK hP 1 rfl rfl 9 (by decide) (ht _ k_174) (fun _ h9 => h9) rfl d_Card_read_34 ?_
  refine lv_iload_n hx hb d_Card_read_37 rfl (lv_at hl 0 rfl) ?_
  refine lv_iconst (v := (nI 0)) hx hb d_Card_read_38 (by decide) ?_
  refine xw_iast hx hb hK hP hD hS 0 0 rfl rfl (vp_in_nI (by decide) (by decide)) d_Card_read_39 (fun f30 H locs hP hD hS => ?_)
  have hP : va_P (dC, dI) classes [(qy, .inl (cA, 34, .inl f30)), (h0, .inr (5, [.ref qx, .int (nI 0), u2, .int (nI 0), u4, .int (nI 0), u6, u7, .int (nI 0), .ref qy])), (qt, .inr (0, [vt, .int 0, .int 0])), (qx, .inr (0, [vx, .int (nI 0), .int (nI 0)]))] H := hP
  have hD : va_D A [(qy, .inl (cA, 34, .inl f30)), (h0, .inr (5, [.ref qx, .int (nI 0), u2, .int (nI 0), u4, .int (nI 0), u6, u7, .int (nI 0), .ref qy])), (qt, .inr (0, [vt, .int 0, .int 0])), (qx, .inr (0, [vx, .int (nI 0), .int (nI 0)]))] := hD
  refine lv_iinc (v := (nI 30)) (lv' := [(2, .int (nI 30)), (0, .ref h0), (1, .ref qt)]) hx hb d_Card_read_40 hl (k := 0) rfl (by decide) (by decide) rfl (fun ls hl => ?_)
  refine lv_goto (tgt := 27) hx hb d_Card_read_43 (by decide) ?_
  refine lv_iload_n hx hb d_Card_read_27 rfl (lv_at hl 0 rfl) ?_
  refine lv_bipush (v := (nI 34)) hx hb d_Card_read_28 (by decide) ?_
  refine lv_icmp_ge (tgt := 46) hx hb d_Card_read_30 (by decide) (fun c_30 => absurd c_30 (by decide)) (fun _ => ?_)
  refine lv_aload_n hx hb d_Card_read_33 rfl (lv_at hl 1 rfl) ?_
  refine va_get (D := (dC, dI)) (ci := 5) (v := .ref qy) (C := R_Card) (T := F_Card) (N := 10) hx hb ht i_Card hown hK hP 1 rfl rfl 9 (by decide) (ht _ k_174) (fun _ h9 => h9) rfl d_Card_read_34 ?_
  refine lv_iload_n hx hb d_Card_read_37 rfl (lv_at hl 0 rfl) ?_
  refine lv_iconst (v := (nI 0)) hx hb d_Card_read_38 (by decide) ?_
  refine xw_iast hx hb hK hP hD hS 0 0 rfl rfl (vp_in_nI (by decide) (by decide)) d_Card_read_39 (fun f31 H locs hP hD hS => ?_)
  have hP : va_P (dC, dI) classes [(qy, .inl (cA, 34, .inl f31)), (h0, .inr (5, [.ref qx, .int (nI 0), u2, .int (nI 0), u4, .int (nI 0), u6, u7, .int (nI 0), .ref qy])), (qt, .inr (0, [vt, .int 0, .int 0])), (qx, .inr (0, [vx, .int (nI 0), .int (nI 0)]))] H := hP
  have hD : va_D A [(qy, .inl (cA, 34, .inl f31)), (h0, .inr (5, [.ref qx, .int (nI 0), u2, .int (nI 0), u4, .int (nI 0), u6, u7, .int (nI 0), .ref qy])), (qt, .inr (0, [vt, .int 0, .int 0])), (qx, .inr (0, [vx, .int (nI 0), .int (nI 0)]))] := hD
  refine lv_iinc (v := (nI 31)) (lv' := [(2, .int (nI 31)), (0, .ref h0), (1, .ref qt)]) hx hb d_Card_read_40 hl (k := 0) rfl (by decide) (by decide) rfl (fun ls hl => ?_)
  refine lv_goto (tgt := 27) hx hb d_Card_read_43 (by decide) ?_
  refine lv_iload_n hx hb d_Card_read_27 rfl (lv_at hl 0 rfl) ?_
  refine lv_bipush (v := (nI 34)) hx hb d_Card_read_28 (by decide) ?_
  refine lv_icmp_ge (tgt := 46) hx hb d_Card_read_30 (by decide) (fun c_30 => absurd c_30 (by decide)) (fun _ => ?_)
  refine lv_aload_n hx hb d_Card_read_33 rfl (lv_at hl 1 rfl) ?_
  refine va_get (D := (dC, dI)) (ci := 5) (v := .ref qy) (C := R_Card) (T := F_Card) (N := 10) hx hb ht i_Card hown hK hP 1 rfl rfl 9 (by decide) (ht _ k_174) (fun _ h9 => h9) rfl d_Card_read_34 ?_
  refine lv_iload_n hx hb d_Card_read_37 rfl (lv_at hl 0 rfl) ?_
  refine lv_iconst (v := (nI 0)) hx hb d_Card_read_38 (by decide) ?_
  refine xw_iast hx hb hK hP hD hS 0 0 rfl rfl (vp_in_nI (by decide) (by decide)) d_Card_read_39 (fun f32 H locs hP hD hS => ?_)
  have hP : va_P (dC, dI) classes [(qy, .inl (cA, 34, .inl f32)), (h0, .inr (5, [.ref qx, .int (nI 0), u2, .int (nI 0), u4, .int (nI 0), u6, u7, .int (nI 0), .ref qy])), (qt, .inr (0, [vt, .int 0, .int 0])), (qx, .inr (0, [vx, .int (nI 0), .int (nI 0)]))] H := hP
  have hD : va_D A [(qy, .inl (cA, 34, .inl f32)), (h0, .inr (5, [.ref qx, .int (nI 0), u2, .int (nI 0), u4, .int (nI 0), u6, u7, .int (nI 0), .ref qy])), (qt, .inr (0, [vt, .int 0, .int 0])), (qx, .inr (0, [vx, .int (nI 0), .int (nI 0)]))] := hD
  refine lv_iinc (v := (nI 32)) (lv' := [(2, .int (nI 32)), (0, .ref h0), (1, .ref qt)]) hx hb d_Card_read_40 hl (k := 0) rfl (by decide) (by decide) rfl (fun ls hl => ?_)
  refine lv_goto (tgt := 27) hx hb d_Card_read_43 (by decide) ?_
  refine lv_iload_n hx hb d_Card_read_27 rfl (lv_at hl 0 rfl) ?_
  refine lv_bipush (v := (nI 34)) hx hb d_Card_read_28 (by decide) ?_
  refine lv_icmp_ge (tgt := 46) hx hb d_Card_read_30 (by decide) (fun c_30 => absurd c_30 (by decide)) (fun _ => ?_)
  refine lv_aload_n hx hb d_Card_read_33 rfl (lv_at hl 1 rfl) ?_
  refine va_get (D := (dC, dI)) (ci := 5) (v := .ref qy) (C := R_Card) (T := F_Card) (N := 10) hx hb ht i_Card hown hK hP 1 rfl rfl 9 (by decide) (ht _ k_174) (fun _ h9 => h9) rfl d_Card_read_34 ?_
  refine lv_iload_n hx hb d_Card_read_37 rfl (lv_at hl 0 rfl) ?_
  refine lv_iconst (v := (nI 0)) hx hb d_Card_read_38 (by decide) ?_
  refine xw_iast hx hb hK hP hD hS 0 0 rfl rfl (vp_in_nI (by decide) (by decide)) d_Card_read_39 (fun f33 H locs hP hD hS => ?_)
  have hP : va_P (dC, dI) classes [(qy, .inl (cA, 34, .inl f33)), (h0, .inr (5, [.ref qx, .int (nI 0), u2, .int (nI 0), u4, .int (nI 0), u6, u7, .int (nI 0), .ref qy])), (qt, .inr (0, [vt, .int 0, .int 0])), (qx, .inr (0, [vx, .int (nI 0), .int (nI 0)]))] H := hP
  have hD : va_D A [(qy, .inl (cA, 34, .inl f33)), (h0, .inr (5, [.ref qx, .int (nI 0), u2, .int (nI 0), u4, .int (nI 0), u6, u7, .int (nI 0), .ref qy])), (qt, .inr (0, [vt, .int 0, .int 0])), (qx, .inr (0, [vx, .int (nI 0), .int (nI 0)]))] := hD
  refine lv_iinc (v := (nI 33)) (lv' := [(2, .int (nI 33)), (0, .ref h0), (1, .ref qt)]) hx hb d_Card_read_40 hl (k := 0) rfl (by decide) (by decide) rfl (fun ls hl => ?_)
  refine lv_goto (tgt := 27) hx hb d_Card_read_43 (by decide) ?_
  refine lv_iload_n hx hb d_Card_read_27 rfl (lv_at hl 0 rfl) ?_
  refine lv_bipush (v := (nI 34)) hx hb d_Card_read_28 (by decide) ?_
  refine lv_icmp_ge (tgt := 46) hx hb d_Card_read_30 (by decide) (fun c_30 => absurd c_30 (by decide)) (fun _ => ?_)
  refine lv_aload_n hx hb d_Card_read_33 rfl (lv_at hl 1 rfl) ?_
  refine va_get (D := (dC, dI)) (ci := 5) (v := .ref qy) (C := R_Card) (T := F_Card) (N := 10) hx hb ht i_Card hown hK hP 1 rfl rfl 9 (by decide) (ht _ k_174) (fun _ h9 => h9) rfl d_Card_read_34 ?_
  refine lv_iload_n hx hb d_Card_read_37 rfl (lv_at hl 0 rfl) ?_
  refine lv_iconst (v := (nI 0)) hx hb d_Card_read_38 (by decide) ?_
  refine xw_iast hx hb hK hP hD hS 0 0 rfl rfl (vp_in_nI (by decide) (by decide)) d_Card_read_39 (fun f34 H locs hP hD hS => ?_)
  have hP : va_P (dC, dI) classes [(qy, .inl (cA, 34, .inl f34)), (h0, .inr (5, [.ref qx, .int (nI 0), u2, .int (nI 0), u4, .int (nI 0), u6, u7, .int (nI 0), .ref qy])), (qt, .inr (0, [vt, .int 0, .int 0])), (qx, .inr (0, [vx, .int (nI 0), .int (nI 0)]))] H := hP
  have hD : va_D A [(qy, .inl (cA, 34, .inl f34)), (h0, .inr (5, [.ref qx, .int (nI 0), u2, .int (nI 0), u4, .int (nI 0), u6, u7, .int (nI 0), .ref qy])), (qt, .inr (0, [vt, .int 0, .int 0])), (qx, .inr (0, [vx, .int (nI 0), .int (nI 0)]))] := hD
  refine lv_iinc (v := (nI 34)) (lv' := [(2, .int (nI 34)), (0, .ref h0), (1, .ref qt)]) hx hb d_Card_read_40 hl (k := 0) rfl (by decide) (by decide) rfl (fun ls hl => ?_)
  refine lv_goto (tgt := 27) hx hb d_Card_read_43 (by decide) ?_
  refine lv_iload_n hx hb d_Card_read_27 rfl (lv_at hl 0 rfl) ?_
  refine lv_bipush (v := (nI 34)) hx hb d_Card_read_28 (by decide) ?_
  refine lv_icmp_ge (tgt := 46) hx hb d_Card_read_30 (by decide) (fun _ => ?_) (fun c_30 => absurd (by decide) c_30)
  refine lv_aload_n hx hb d_Card_read_46 rfl (lv_at hl 1 rfl) ?_
  have hPc := hP.sub (ws' := [(h0, .inr (5, [.ref qx, .int (nI 0), u2, .int (nI 0), u4, .int (nI 0), u6, u7, .int (nI 0), .ref qy])), (qx, .inr (0, [vx, .int (nI 0), .int (nI 0)]))]) [1, 3] rfl
  have hDc := hD.sub (ws' := [(h0, .inr (5, [.ref qx, .int (nI 0), u2, .int (nI 0), u4, .int (nI 0), u6, u7, .int (nI 0), .ref qy])), (qx, .inr (0, [vx, .int (nI 0), .int (nI 0)]))]) [1, 3] (by decide +kernel) rfl
  have hKc := hK.sub (tys' := []) [] rfl
  have hFc := va_free (wc := [(h0, .inr (5, [.ref qx, .int (nI 0), u2, .int (nI 0), u4, .int (nI 0), u6, u7, .int (nI 0), .ref qy])), (qx, .inr (0, [vx, .int (nI 0), .int (nI 0)]))]) hD hS hA [1, 3] rfl
  refine va_calli (va_runV (As := []) (rest := []) ⟨hx, hb, hml, hown, ht⟩ (c_Card_isClean0 l dC dI h0 H.size qx (.int (nI 0)) u2 (.int (nI 0)) u4 (.int (nI 0)) u6 u7 (.int (nI 0)) (.ref qy) vx (.int (nI 0))) ⟨callB_of 0 ht (xw_good k_445) rfl rfl rfl (ht _ k_7) (ht _ k_443) (by decide +kernel) ⟨(Nat.le_of_ble_eq_true rfl), (Nat.le_of_ble_eq_true rfl)⟩, ht _ k_444, ht _ k_515⟩ ⟨fun a U g mk q => by obtain ⟨q0, q1, qP, qK, qD⟩ := q; exact ⟨q0, q1, qP, va_K.moved (u := U) (U := U.calling g mk a) (Vm.Alike.refl U.vm) qK, qD⟩, va_recv hKc hPc (ci := 5) (q0 := 0) rfl rfl, fun U hU hW => ⟨rfl, by rw [hU], by rw [hU]; exact hPc, va_K.moved hW.alike hKc, hDc.weaken (fun _ _ _ _ => trivial)⟩⟩ rfl rfl hl.1 rfl (lv_room (Nat.le_of_ble_eq_true rfl)) d_Card_read_47 ⟨(Nat.le_of_ble_eq_true rfl), (Nat.le_of_ble_eq_true rfl)⟩) hS (fun q _ h => hFc q h) hFc (fun r35 u t H1 locs ht9 hvm hw hB hz1 hk1 hS => ?_)
  obtain ⟨hP1, hK1, hD1⟩ := hB
  rw [ht9] at hP1
  have hK1 := va_K.moved hvm.symm hK1
  obtain ⟨hP, hD⟩ := va_join (wr := [(qy, .inl (cA, 34, .inl f34)), (qt, .inr (0, [vt, .int 0, .int 0]))]) (w1 := [(h0, .inr (5, [.ref qx, .int (nI 0), u2, .int (nI 0), u4, .int (nI 0), u6, u7, .int (nI 0), .ref qy])), (qx, .inr (0, [vx, .int (nI 0), .int (nI 0)]))]) hP hD [1, 3] [0, 2] rfl rfl (by decide +kernel) (by decide +kernel) hk1 hFc hP1 hD1
  have hK := (hK.sub (tys' := [(cA, .int)]) [0] rfl).app hK1
  generalize H1 = H at hP hS ⊢
  have hP : va_P (dC, dI) classes [(qy, .inl (cA, 34, .inl f34)), (qt, .inr (0, [vt, .int 0, .int 0])), (h0, .inr (5, [.ref qx, .int (nI 0), u2, .int (nI 0), u4, .int (nI 0), u6, u7, .int (nI 0), .ref qy])), (qx, .inr (0, [vx, .int (nI 0), .int (nI 0)]))] H := hP
  have hD : va_D A [(qy, .inl (cA, 34, .inl f34)), (qt, .inr (0, [vt, .int 0, .int 0])), (h0, .inr (5, [.ref qx, .int (nI 0), u2, .int (nI 0), u4, .int (nI 0), u6, u7, .int (nI 0), .ref qy])), (qx, .inr (0, [vx, .int (nI 0), .int (nI 0)]))] := hD
  have hK : va_K (dC, dI) classes [(cA, .int)] s := hK
  refine W.widen (k := 0) (n := 0) (by omega) (by omega) ?_
  have hw : r35 = (nI 1) := hw
  subst hw
  refine lv_if_ne (tgt := 55) hx hb d_Card_read_50 (by decide) (fun _ => ?_) (fun c_50_35 => absurd c_50_35 (by decide))
  refine lv_iconst (v := (nI 0)) hx hb d_Card_read_55 (by decide) ?_
  refine lv_istore_n (lv' := [(2, .int (nI 0)), (0, .ref h0), (1, .ref qt)]) hx hb d_Card_read_56 rfl hl (by decide) rfl (fun ls hl => ?_)
  refine lv_iconst (v := (nI 0)) hx hb d_Card_read_57 (by decide) ?_
  refine lv_istore_n (lv' := [(3, .int (nI 0)), (2, .int (nI 0)), (0, .ref h0), (1, .ref qt)]) hx hb d_Card_read_58 rfl hl (by decide) rfl (fun ls hl => ?_)
  refine lv_iconst (v := (nI 0)) hx hb d_Card_read_59 (by decide) ?_
  refine lv_istore (lv' := [(4, .int (nI 0)), (3, .int (nI 0)), (2, .int (nI 0)), (0, .ref h0), (1, .ref qt)]) hx hb d_Card_read_60 hl (by decide) rfl (fun ls hl => ?_)
  refine lv_iload hx hb d_Card_read_62 (lv_at hl 0 rfl) ?_
  refine lv_aload_n hx hb d_Card_read_64 rfl (lv_at hl 3 rfl) ?_
  refine va_get (D := (dC, dI)) (ci := 5) (v := .ref qx) (C := R_Card) (T := F_Card) (N := 10) hx hb ht i_Card hown hK hP 2 rfl rfl 0 (by decide) (ht _ k_165) (fun _ h9 => h9) rfl d_Card_read_65 ?_
  refine va_get (D := (dC, dI)) (ci := 0) (v := .int (nI 0)) (C := R_Row) (T := F_Row) (N := 3) hx hb ht i_Row hown hK hP 3 rfl rfl 1 (by decide) (ht _ k_33) (fun _ h9 => h9) rfl d_Card_read_68 ?_
  refine lv_icmp_ge (tgt := 175) hx hb d_Card_read_71 (by decide) (fun _ => ?_) (fun c_71 => absurd (by decide) c_71)
  refine lv_iload_n hx hb d_Card_read_175 rfl (lv_at hl 2 rfl) ?_
  refine lv_aload_n hx hb d_Card_read_176 rfl (lv_at hl 3 rfl) ?_
  refine va_get (D := (dC, dI)) (ci := 5) (v := .ref qx) (C := R_Card) (T := F_Card) (N := 10) hx hb ht i_Card hown hK hP 2 rfl rfl 0 (by decide) (ht _ k_165) (fun _ h9 => h9) rfl d_Card_read_177 ?_
  refine va_get (D := (dC, dI)) (ci := 0) (v := .int (nI 0)) (C := R_Row) (T := F_Row) (N := 3) hx hb ht i_Row hown hK hP 3 rfl rfl 1 (by decide) (ht _ k_33) (fun _ h9 => h9) rfl d_Card_read_180 ?_
  refine lv_icmp_ne (tgt := 204) hx hb d_Card_read_183 (by decide) (fun c_183 => absurd (by decide) c_183) (fun _ => ?_)
  refine lv_aload_n hx hb d_Card_read_186 rfl (lv_at hl 3 rfl) ?_
  refine va_get (D := (dC, dI)) (ci := 5) (v := .int (nI 0)) (C := R_Card) (T := F_Card) (N := 10) hx hb ht i_Card hown hK hP 2 rfl rfl 3 (by decide) (ht _ k_168) (fun _ h9 => h9) rfl d_Card_read_187 ?_
  refine lv_if_le (tgt := 204) hx hb d_Card_read_190 (by decide) (fun _ => ?_) (fun c_190_36 => absurd (by decide) c_190_36)
  refine lv_iconst (v := (nI 0)) hx hb d_Card_read_204 (by decide) ?_
  have hP9 := hP.sub (ws' := [(qt, .inr (0, [vt, .int 0, .int 0]))]) [1] rfl
  have hD9 := hD.sub (ws' := [(qt, .inr (0, [vt, .int 0, .int 0]))]) [1] (by decide +kernel) rfl
  have hK9 := hK.sub (tys' := []) [] rfl
  exact W.zret (ty := .boolean) hx hb hr rfl (fun t ht9 hW => ⟨⟨(nI 0), (), rfl, rfl, by rw [ht9]; exact hP9, va_K.moved hW.alike hK9, hD9⟩, hS.F ht9⟩) hS.2.2 d_Card_read_205
set_option maxHeartbeats 4000000 in
set_option maxRecDepth 100000 in
/-- turn(n) on a new object: NONE -/
theorem c_Top_turn (l : Launch) (dC : Nat → ClassId) (dI : Nat → Nat → Nat) (h0 sz qt qa qc qx qy : Nat) (cA : ClassId) (f : Nat → Int32) (u2 u4 u6 u7 vt va vx : Value) (n : Int32) (v2 v3 v5 v6 v7 v8 : Value) : Met l y_Top_turn (Cond.code y_Top_turn b_Top_turn 3 (Option.some Jvm.ClassFile.FieldType.int) :: xw0) ({ frames := 3, cells := 0, slots := 0, locals := 90 }) (va_Pc [.ref h0, .int n] (fun U => U.heap.size = sz ∧ va_P (dC, dI) classes [(h0, .inr (11, [.ref qt, .ref qa, v2, v3, .ref qc, v5, v6, v7, v8])), (qt, .inr (0, [vt, .int 0, .int 0])), (qa, .inr (0, [va, .int 0, .int 0])), (qc, .inr (5, [.ref qx, .int 0, u2, .int 0, u4, .int 0, u6, u7, .int 0, .ref qy])), (qx, .inr (0, [vx, .int 0, .int 0])), (qy, .inl (cA, 34, .inl f))] U.heap ∧ va_K (dC, dI) classes [(cA, .int)] U ∧ va_D (fun _ => True) [(h0, .inr (11, [.ref qt, .ref qa, v2, v3, .ref qc, v5, v6, v7, v8])), (qt, .inr (0, [vt, .int 0, .int 0])), (qa, .inr (0, [va, .int 0, .int 0])), (qc, .inr (5, [.ref qx, .int 0, u2, .int 0, u4, .int 0, u6, u7, .int 0, .ref qy])), (qx, .inr (0, [vx, .int 0, .int 0])), (qy, .inl (cA, 34, .inl f))])) (va_Qi (fun (r : Int32) (_ : Unit) => r = -1) (fun (_ : Unit) (t : State) => va_P (dC, dI) classes [] t.heap ∧ va_K (dC, dI) classes [] t ∧ va_D (va_A [(h0, .inr (11, [.ref qt, .ref qa, v2, v3, .ref qc, v5, v6, v7, v8])), (qt, .inr (0, [vt, .int 0, .int 0])), (qa, .inr (0, [va, .int 0, .int 0])), (qc, .inr (5, [.ref qx, .int 0, u2, .int 0, u4, .int 0, u6, u7, .int 0, .ref qy])), (qx, .inr (0, [vx, .int 0, .int 0])), (qy, .inl (cA, 34, .inl f))] sz) []) (va_A [(h0, .inr (11, [.ref qt, .ref qa, v2, v3, .ref qc, v5, v6, v7, v8])), (qt, .inr (0, [vt, .int 0, .int 0])), (qa, .inr (0, [va, .int 0, .int 0])), (qc, .inr (5, [.ref qx, .int 0, u2, .int 0, u4, .int 0, u6, u7, .int 0, .ref qy])), (qx, .inr (0, [vx, .int 0, .int 0])), (qy, .inl (cA, 34, .inl f))] sz)) 0 0 (va_A [(h0, .inr (11, [.ref qt, .ref qa, v2, v3, .ref qc, v5, v6, v7, v8])), (qt, .inr (0, [vt, .int 0, .int 0])), (qa, .inr (0, [va, .int 0, .int 0])), (qc, .inr (5, [.ref qx, .int 0, u2, .int 0, u4, .int 0, u6, u7, .int 0, .ref qy])), (qx, .inr (0, [vx, .int 0, .int 0])), (qy, .inl (cA, 34, .inl f))] sz) := by
  refine Met.ofW (cc := b_Top_turn) (maxL := 3) (ret := (Option.some Jvm.ClassFile.FieldType.int)) (by decide) rfl ?_
  intro p e s m args below meth c s₁ B hml hv
  obtain ⟨rfl, hsz, hP, hK, hD0⟩ := hv
  have hx := B.exec
  have hb := B.bytes
  have hr := B.returns
  have hts := atoms_spec (ws := Cond.code y_Top_turn b_Top_turn 3 (Option.some Jvm.ClassFile.FieldType.int) :: xw0) B.pre
  have ht : ∀ w ∈ xw0, w.before _ s = true := fun w h => hts w (List.mem_cons_of_mem _ h)
  have hown : s.vm.findClass R_Top = some m.cls := findClass_of_methodNamed B.named
  have hlocks := B.notSynchronized
  subst hsz
  have hD := hD0.self (sz := s.heap.size)
  generalize hAe : va_A [(h0, .inr (11, [.ref qt, .ref qa, v2, v3, .ref qc, v5, v6, v7, v8])), (qt, .inr (0, [vt, .int 0, .int 0])), (qa, .inr (0, [va, .int 0, .int 0])), (qc, .inr (5, [.ref qx, .int 0, u2, .int 0, u4, .int 0, u6, u7, .int 0, .ref qy])), (qx, .inr (0, [vx, .int 0, .int 0])), (qy, .inl (cA, 34, .inl f))] s.heap.size = A at hD ⊢
  have hA : ∀ q : Nat, s.heap.size ≤ q → A q := fun q h => by rw [← hAe]; exact Or.inr h
  have hS : va_S A s.heap s.heap [] := va_S.rf
  have hP : va_P (dC, dI) classes [(h0, .inr (11, [.ref qt, .ref qa, v2, v3, .ref qc, v5, v6, v7, v8])), (qt, .inr (0, [vt, .int 0, .int 0])), (qa, .inr (0, [va, .int 0, .int 0])), (qc, .inr (5, [.ref qx, .int 0, u2, .int 0, u4, .int 0, u6, u7, .int 0, .ref qy])), (qx, .inr (0, [vx, .int 0, .int 0])), (qy, .inl (cA, 34, .inl f))] s.heap := hP
  have hl := lv_entry ([.ref h0, .int n]) (n := 3) (Nat.le_of_ble_eq_true rfl)
  rw [lg_entry_eq]
  generalize (lg_sl ([.ref h0, .int n]) ++ List.replicate (3 - (lg_sl ([.ref h0, .int n])).length) Slot.unset).toArray = ls at hl ⊢
  have hl : lv_has ls 3 [(0, .ref h0), (1, .int n)] := hl
  refine lv_aload_n hx hb d_Top_turn_0 rfl (lv_at hl 0 rfl) ?_
  refine va_get (D := (dC, dI)) (ci := 11) (v := .ref qa) (C := R_Top) (T := F_Top) (N := 9) hx hb ht i_Top hown hK hP 0 rfl rfl 1 (by decide) (ht _ k_351) (fun _ h9 => h9) rfl d_Top_turn_1 ?_
  have hPc := hP.sub (ws' := [(qa, .inr (0, [va, .int 0, .int 0]))]) [2] rfl
  have hDc := hD.sub (ws' := [(qa, .inr (0, [va, .int 0, .int 0]))]) [2] (by decide +kernel) rfl
  have hKc := hK.sub (tys' := []) [] rfl
  have hFc := va_free (wc := [(qa, .inr (0, [va, .int 0, .int 0]))]) hD hS hA [2] rfl
  refine va_callv (va_runV (As := []) (rest := []) ⟨hx, hb, hml, hown, ht⟩ (c_Row_clear l dC dI qa s.heap.size va 0 0) ⟨callB_of 0 ht (xw_good k_406) rfl rfl rfl (ht _ k_2) (ht _ k_403) (by decide +kernel) ⟨(Nat.le_of_ble_eq_true rfl), (Nat.le_of_ble_eq_true rfl)⟩, ht _ k_404, ht _ k_405⟩ ⟨fun a U g mk q => by obtain ⟨q0, q1, qP, qK, qD⟩ := q; exact ⟨q0, q1, qP, va_K.moved (u := U) (U := U.calling g mk a) (Vm.Alike.refl U.vm) qK, qD⟩, va_recv hKc hPc (ci := 0) (q0 := 0) rfl rfl, fun U hU hW => ⟨rfl, by rw [hU], by rw [hU]; exact hPc, va_K.moved hW.alike hKc, hDc.weaken (fun _ _ _ _ => trivial)⟩⟩ rfl rfl hl.1 rfl (lv_room (Nat.le_of_ble_eq_true rfl)) d_Top_turn_4 ⟨(Nat.le_of_ble_eq_true rfl), (Nat.le_of_ble_eq_true rfl)⟩) hS (fun q _ h => hFc q h) hFc (fun u t H1 locs ht9 hvm hw hB hz1 hk1 hS => ?_)
  obtain ⟨hP1, hK1, hD1⟩ := hB
  rw [ht9] at hP1
  have hK1 := va_K.moved hvm.symm hK1
  obtain ⟨hP, hD⟩ := va_join (wr := [(h0, .inr (11, [.ref qt, .ref qa, v2, v3, .ref qc, v5, v6, v7, v8])), (qt, .inr (0, [vt, .int 0, .int 0])), (qc, .inr (5, [.ref qx, .int 0, u2, .int 0, u4, .int 0, u6, u7, .int 0, .ref qy])), (qx, .inr (0, [vx, .int 0, .int 0])), (qy, .inl (cA, 34, .inl f))]) (w1 := [(qa, .inr (0, [va, .int (nI 0), .int (nI 0)]))]) hP hD [2] [0, 1, 3, 4, 5] rfl rfl (by decide +kernel) (by decide +kernel) hk1 hFc hP1 hD1
  have hK := (hK.sub (tys' := [(cA, .int)]) [0] rfl).app hK1
  generalize H1 = H at hP hS ⊢
  have hP : va_P (dC, dI) classes [(h0, .inr (11, [.ref qt, .ref qa, v2, v3, .ref qc, v5, v6, v7, v8])), (qt, .inr (0, [vt, .int 0, .int 0])), (qc, .inr (5, [.ref qx, .int 0, u2, .int 0, u4, .int 0, u6, u7, .int 0, .ref qy])), (qx, .inr (0, [vx, .int 0, .int 0])), (qy, .inl (cA, 34, .inl f)), (qa, .inr (0, [va, .int (nI 0), .int (nI 0)]))] H := hP
  have hD : va_D A [(h0, .inr (11, [.ref qt, .ref qa, v2, v3, .ref qc, v5, v6, v7, v8])), (qt, .inr (0, [vt, .int 0, .int 0])), (qc, .inr (5, [.ref qx, .int 0, u2, .int 0, u4, .int 0, u6, u7, .int 0, .ref qy])), (qx, .inr (0, [vx, .int 0, .int 0])), (qy, .inl (cA, 34, .inl f)), (qa, .inr (0, [va, .int (nI 0), .int (nI 0)]))] := hD
  have hK : va_K (dC, dI) classes [(cA, .int)] s := hK
  refine W.widen (k := 0) (n := 0) (by omega) (by omega) ?_
  refine lv_iload_n hx hb d_Top_turn_7 rfl (lv_at hl 1 rfl) ?_
  refine lv_if_eq (tgt := 21) hx hb d_Top_turn_8 (by decide) (fun c_8_0 => ?_) (fun c_8_0 => ?_)
  · refine lv_aload_n hx hb d_Top_turn_21 rfl (lv_at hl 0 rfl) ?_
    refine va_get (D := (dC, dI)) (ci := 11) (v := .ref qc) (C := R_Top) (T := F_Top) (N := 9) hx hb ht i_Top hown hK hP 0 rfl rfl 4 (by decide) (ht _ k_354) (fun _ h9 => h9) rfl d_Top_turn_22 ?_
    refine lv_aload_n hx hb d_Top_turn_25 rfl (lv_at hl 0 rfl) ?_
    refine va_get (D := (dC, dI)) (ci := 11) (v := .ref qt) (C := R_Top) (T := F_Top) (N := 9) hx hb ht i_Top hown hK hP 0 rfl rfl 0 (by decide) (ht _ k_350) (fun _ h9 => h9) rfl d_Top_turn_26 ?_
    have hPc := hP.sub (ws' := [(qc, .inr (5, [.ref qx, .int 0, u2, .int 0, u4, .int 0, u6, u7, .int 0, .ref qy])), (qt, .inr (0, [vt, .int 0, .int 0])), (qx, .inr (0, [vx, .int 0, .int 0])), (qy, .inl (cA, 34, .inl f))]) [2, 1, 3, 4] rfl
    have hDc := hD.sub (ws' := [(qc, .inr (5, [.ref qx, .int 0, u2, .int 0, u4, .int 0, u6, u7, .int 0, .ref qy])), (qt, .inr (0, [vt, .int 0, .int 0])), (qx, .inr (0, [vx, .int 0, .int 0])), (qy, .inl (cA, 34, .inl f))]) [2, 1, 3, 4] (by decide +kernel) rfl
    have hKc := hK.sub (tys' := [(cA, .int)]) [0] rfl
    have hFc := va_free (wc := [(qc, .inr (5, [.ref qx, .int 0, u2, .int 0, u4, .int 0, u6, u7, .int 0, .ref qy])), (qt, .inr (0, [vt, .int 0, .int 0])), (qx, .inr (0, [vx, .int 0, .int 0])), (qy, .inl (cA, 34, .inl f))]) hD hS hA [2, 1, 3, 4] rfl
    refine va_calli (va_runV (As := [.ref qt]) (rest := []) ⟨hx, hb, hml, hown, ht⟩ (c_Card_read0 l dC dI qc H.size qt qx qy cA f u2 u4 u6 u7 vt vx) ⟨callB_of 1 ht (xw_good k_436) rfl rfl rfl (ht _ k_7) (ht _ k_433) (by decide +kernel) ⟨(Nat.le_of_ble_eq_true rfl), (Nat.le_of_ble_eq_true rfl)⟩, ht _ k_434, ht _ k_435⟩ ⟨fun a U g mk q => by obtain ⟨q0, q1, qP, qK, qD⟩ := q; exact ⟨q0, q1, qP, va_K.moved (u := U) (U := U.calling g mk a) (Vm.Alike.refl U.vm) qK, qD⟩, va_recv hKc hPc (ci := 5) (q0 := 0) rfl rfl, fun U hU hW => ⟨rfl, by rw [hU], by rw [hU]; exact hPc, va_K.moved hW.alike hKc, hDc.weaken (fun _ _ _ _ => trivial)⟩⟩ rfl rfl hl.1 rfl (lv_room (Nat.le_of_ble_eq_true rfl)) d_Top_turn_29 ⟨(Nat.le_of_ble_eq_true rfl), (Nat.le_of_ble_eq_true rfl)⟩) hS (fun q _ h => hFc q h) hFc (fun r2 u t H1 locs ht9 hvm hw hB hz1 hk1 hS => ?_)
    obtain ⟨hP1, hK1, hD1⟩ := hB
    rw [ht9] at hP1
    have hK1 := va_K.moved hvm.symm hK1
    obtain ⟨hP, hD⟩ := va_join (wr := [(h0, .inr (11, [.ref qt, .ref qa, v2, v3, .ref qc, v5, v6, v7, v8])), (qa, .inr (0, [va, .int (nI 0), .int (nI 0)]))]) (w1 := [(qt, .inr (0, [vt, .int 0, .int 0]))]) hP hD [2, 1, 3, 4] [0, 5] rfl rfl (by decide +kernel) (by decide +kernel) hk1 hFc hP1 hD1
    have hK := (hK.sub (tys' := []) [] rfl).app hK1
    generalize H1 = H at hP hS ⊢
    have hP : va_P (dC, dI) classes [(h0, .inr (11, [.ref qt, .ref qa, v2, v3, .ref qc, v5, v6, v7, v8])), (qa, .inr (0, [va, .int (nI 0), .int (nI 0)])), (qt, .inr (0, [vt, .int 0, .int 0]))] H := hP
    have hD : va_D A [(h0, .inr (11, [.ref qt, .ref qa, v2, v3, .ref qc, v5, v6, v7, v8])), (qa, .inr (0, [va, .int (nI 0), .int (nI 0)])), (qt, .inr (0, [vt, .int 0, .int 0]))] := hD
    have hK : va_K (dC, dI) classes [] s := hK
    refine W.widen (k := 0) (n := 0) (by omega) (by omega) ?_
    have hw : r2 = 0 := hw
    subst hw
    refine lv_if_eq (tgt := 39) hx hb d_Top_turn_32 (by decide) (fun _ => ?_) (fun c_32_2 => absurd (by decide) c_32_2)
    refine lv_iconst (v := (nI 0)) hx hb d_Top_turn_39 (by decide) ?_
    refine lv_istore_n (lv' := [(2, .int (nI 0)), (0, .ref h0), (1, .int n)]) hx hb d_Top_turn_40 rfl hl (by decide) rfl (fun ls hl => ?_)
    refine lv_aload_n hx hb d_Top_turn_41 rfl (lv_at hl 1 rfl) ?_
    refine va_get (D := (dC, dI)) (ci := 11) (v := .ref qt) (C := R_Top) (T := F_Top) (N := 9) hx hb ht i_Top hown hK hP 0 rfl rfl 0 (by decide) (ht _ k_350) (fun _ h9 => h9) rfl d_Top_turn_42 ?_
    have hPc := hP.sub (ws' := [(qt, .inr (0, [vt, .int 0, .int 0]))]) [2] rfl
    have hDc := hD.sub (ws' := [(qt, .inr (0, [vt, .int 0, .int 0]))]) [2] (by decide +kernel) rfl
    have hKc := hK.sub (tys' := []) [] rfl
    have hFc := va_free (wc := [(qt, .inr (0, [vt, .int 0, .int 0]))]) hD hS hA [2] rfl
    refine va_callv (va_runV (As := []) (rest := []) ⟨hx, hb, hml, hown, ht⟩ (c_Row_clear l dC dI qt H.size vt 0 0) ⟨callB_of 0 ht (xw_good k_406) rfl rfl rfl (ht _ k_2) (ht _ k_403) (by decide +kernel) ⟨(Nat.le_of_ble_eq_true rfl), (Nat.le_of_ble_eq_true rfl)⟩, ht _ k_404, ht _ k_405⟩ ⟨fun a U g mk q => by obtain ⟨q0, q1, qP, qK, qD⟩ := q; exact ⟨q0, q1, qP, va_K.moved (u := U) (U := U.calling g mk a) (Vm.Alike.refl U.vm) qK, qD⟩, va_recv hKc hPc (ci := 0) (q0 := 0) rfl rfl, fun U hU hW => ⟨rfl, by rw [hU], by rw [hU]; exact hPc, va_K.moved hW.alike hKc, hDc.weaken (fun _ _ _ _ => trivial)⟩⟩ rfl rfl hl.1 rfl (lv_room (Nat.le_of_ble_eq_true rfl)) d_Top_turn_45 ⟨(Nat.le_of_ble_eq_true rfl), (Nat.le_of_ble_eq_true rfl)⟩) hS (fun q _ h => hFc q h) hFc (fun u t H1 locs ht9 hvm hw hB hz1 hk1 hS => ?_)
    obtain ⟨hP1, hK1, hD1⟩ := hB
    rw [ht9] at hP1
    have hK1 := va_K.moved hvm.symm hK1
    obtain ⟨hP, hD⟩ := va_join (wr := [(h0, .inr (11, [.ref qt, .ref qa, v2, v3, .ref qc, v5, v6, v7, v8])), (qa, .inr (0, [va, .int (nI 0), .int (nI 0)]))]) (w1 := [(qt, .inr (0, [vt, .int (nI 0), .int (nI 0)]))]) hP hD [2] [0, 1] rfl rfl (by decide +kernel) (by decide +kernel) hk1 hFc hP1 hD1
    have hK := (hK.sub (tys' := []) [] rfl).app hK1
    generalize H1 = H at hP hS ⊢
    have hP : va_P (dC, dI) classes [(h0, .inr (11, [.ref qt, .ref qa, v2, v3, .ref qc, v5, v6, v7, v8])), (qa, .inr (0, [va, .int (nI 0), .int (nI 0)])), (qt, .inr (0, [vt, .int (nI 0), .int (nI 0)]))] H := hP
    have hD : va_D A [(h0, .inr (11, [.ref qt, .ref qa, v2, v3, .ref qc, v5, v6, v7, v8])), (qa, .inr (0, [va, .int (nI 0), .int (nI 0)])), (qt, .inr (0, [vt, .int (nI 0), .int (nI 0)]))] := hD
    have hK : va_K (dC, dI) classes [] s := hK
    refine W.widen (k := 0) (n := 0) (by omega) (by omega) ?_
    refine lv_iload_n hx hb d_Top_turn_48 rfl (lv_at hl 0 rfl) ?_
    refine lv_if_ne (tgt := 54) hx hb d_Top_turn_49 (by decide) (fun c_49_3 => absurd (by decide) c_49_3) (fun _ => ?_)
    refine lv_iconst (v := (-1)) hx hb d_Top_turn_52 (by decide) ?_
    have hP9 := hP.sub (ws' := []) [] rfl
    have hD9 := hD.sub (ws' := []) [] (by decide +kernel) rfl
    have hK9 := hK.sub (tys' := []) [] rfl
    exact W.iret hx hb hr (fun t ht9 hW => ⟨⟨(-1), (), rfl, rfl, by rw [ht9]; exact hP9, va_K.moved hW.alike hK9, hD9⟩, hS.F ht9⟩) hS.2.2 d_Top_turn_53
  · refine lv_iload_n hx hb d_Top_turn_11 rfl (lv_at hl 1 rfl) ?_
    refine lv_iconst (v := (nI 3)) hx hb d_Top_turn_12 (by decide) ?_
    refine lv_icmp_eq (tgt := 21) hx hb d_Top_turn_13 (by decide) (fun c_13_54 => ?_) (fun c_13_54 => ?_)
    · refine lv_aload_n hx hb d_Top_turn_21 rfl (lv_at hl 0 rfl) ?_
      refine va_get (D := (dC, dI)) (ci := 11) (v := .ref qc) (C := R_Top) (T := F_Top) (N := 9) hx hb ht i_Top hown hK hP 0 rfl rfl 4 (by decide) (ht _ k_354) (fun _ h9 => h9) rfl d_Top_turn_22 ?_
      refine lv_aload_n hx hb d_Top_turn_25 rfl (lv_at hl 0 rfl) ?_
      refine va_get (D := (dC, dI)) (ci := 11) (v := .ref qt) (C := R_Top) (T := F_Top) (N := 9) hx hb ht i_Top hown hK hP 0 rfl rfl 0 (by decide) (ht _ k_350) (fun _ h9 => h9) rfl d_Top_turn_26 ?_
      have hPc := hP.sub (ws' := [(qc, .inr (5, [.ref qx, .int 0, u2, .int 0, u4, .int 0, u6, u7, .int 0, .ref qy])), (qt, .inr (0, [vt, .int 0, .int 0])), (qx, .inr (0, [vx, .int 0, .int 0])), (qy, .inl (cA, 34, .inl f))]) [2, 1, 3, 4] rfl
      have hDc := hD.sub (ws' := [(qc, .inr (5, [.ref qx, .int 0, u2, .int 0, u4, .int 0, u6, u7, .int 0, .ref qy])), (qt, .inr (0, [vt, .int 0, .int 0])), (qx, .inr (0, [vx, .int 0, .int 0])), (qy, .inl (cA, 34, .inl f))]) [2, 1, 3, 4] (by decide +kernel) rfl
      have hKc := hK.sub (tys' := [(cA, .int)]) [0] rfl
      have hFc := va_free (wc := [(qc, .inr (5, [.ref qx, .int 0, u2, .int 0, u4, .int 0, u6, u7, .int 0, .ref qy])), (qt, .inr (0, [vt, .int 0, .int 0])), (qx, .inr (0, [vx, .int 0, .int 0])), (qy, .inl (cA, 34, .inl f))]) hD hS hA [2, 1, 3, 4] rfl
      refine va_calli (va_runV (As := [.ref qt]) (rest := []) ⟨hx, hb, hml, hown, ht⟩ (c_Card_read0 l dC dI qc H.size qt qx qy cA f u2 u4 u6 u7 vt vx) ⟨callB_of 1 ht (xw_good k_436) rfl rfl rfl (ht _ k_7) (ht _ k_433) (by decide +kernel) ⟨(Nat.le_of_ble_eq_true rfl), (Nat.le_of_ble_eq_true rfl)⟩, ht _ k_434, ht _ k_435⟩ ⟨fun a U g mk q => by obtain ⟨q0, q1, qP, qK, qD⟩ := q; exact ⟨q0, q1, qP, va_K.moved (u := U) (U := U.calling g mk a) (Vm.Alike.refl U.vm) qK, qD⟩, va_recv hKc hPc (ci := 5) (q0 := 0) rfl rfl, fun U hU hW => ⟨rfl, by rw [hU], by rw [hU]; exact hPc, va_K.moved hW.alike hKc, hDc.weaken (fun _ _ _ _ => trivial)⟩⟩ rfl rfl hl.1 rfl (lv_room (Nat.le_of_ble_eq_true rfl)) d_Top_turn_29 ⟨(Nat.le_of_ble_eq_true rfl), (Nat.le_of_ble_eq_true rfl)⟩) hS (fun q _ h => hFc q h) hFc (fun r56 u t H1 locs ht9 hvm hw hB hz1 hk1 hS => ?_)
      obtain ⟨hP1, hK1, hD1⟩ := hB
      rw [ht9] at hP1
      have hK1 := va_K.moved hvm.symm hK1
      obtain ⟨hP, hD⟩ := va_join (wr := [(h0, .inr (11, [.ref qt, .ref qa, v2, v3, .ref qc, v5, v6, v7, v8])), (qa, .inr (0, [va, .int (nI 0), .int (nI 0)]))]) (w1 := [(qt, .inr (0, [vt, .int 0, .int 0]))]) hP hD [2, 1, 3, 4] [0, 5] rfl rfl (by decide +kernel) (by decide +kernel) hk1 hFc hP1 hD1
      have hK := (hK.sub (tys' := []) [] rfl).app hK1
      generalize H1 = H at hP hS ⊢
      have hP : va_P (dC, dI) classes [(h0, .inr (11, [.ref qt, .ref qa, v2, v3, .ref qc, v5, v6, v7, v8])), (qa, .inr (0, [va, .int (nI 0), .int (nI 0)])), (qt, .inr (0, [vt, .int 0, .int 0]))] H := hP
      have hD : va_D A [(h0, .inr (11, [.ref qt, .ref qa, v2, v3, .ref qc, v5, v6, v7, v8])), (qa, .inr (0, [va, .int (nI 0), .int (nI 0)])), (qt, .inr (0, [vt, .int 0, .int 0]))] := hD
      have hK : va_K (dC, dI) classes [] s := hK
      refine W.widen (k := 0) (n := 0) (by omega) (by omega) ?_
      have hw : r56 = 0 := hw
      subst hw
      refine lv_if_eq (tgt := 39) hx hb d_Top_turn_32 (by decide) (fun _ => ?_) (fun c_32_56 => absurd (by decide) c_32_56)
      refine lv_iconst (v := (nI 0)) hx hb d_Top_turn_39 (by decide) ?_
      refine lv_istore_n (lv' := [(2, .int (nI 0)), (0, .ref h0), (1, .int n)]) hx hb d_Top_turn_40 rfl hl (by decide) rfl (fun ls hl => ?_)
      refine lv_aload_n hx hb d_Top_turn_41 rfl (lv_at hl 1 rfl) ?_
      refine va_get (D := (dC, dI)) (ci := 11) (v := .ref qt) (C := R_Top) (T := F_Top) (N := 9) hx hb ht i_Top hown hK hP 0 rfl rfl 0 (by decide) (ht _ k_350) (fun _ h9 => h9) rfl d_Top_turn_42 ?_
      have hPc := hP.sub (ws' := [(qt, .inr (0, [vt, .int 0, .int 0]))]) [2] rfl
      have hDc := hD.sub (ws' := [(qt, .inr (0, [vt, .int 0, .int 0]))]) [2] (by decide +kernel) rfl
      have hKc := hK.sub (tys' := []) [] rfl
      have hFc := va_free (wc := [(qt, .inr (0, [vt, .int 0, .int 0]))]) hD hS hA [2] rfl
      refine va_callv (va_runV (As := []) (rest := []) ⟨hx, hb, hml, hown, ht⟩ (c_Row_clear l dC dI qt H.size vt 0 0) ⟨callB_of 0 ht (xw_good k_406) rfl rfl rfl (ht _ k_2) (ht _ k_403) (by decide +kernel) ⟨(Nat.le_of_ble_eq_true rfl), (Nat.le_of_ble_eq_true rfl)⟩, ht _ k_404, ht _ k_405⟩ ⟨fun a U g mk q => by obtain ⟨q0, q1, qP, qK, qD⟩ := q; exact ⟨q0, q1, qP, va_K.moved (u := U) (U := U.calling g mk a) (Vm.Alike.refl U.vm) qK, qD⟩, va_recv hKc hPc (ci := 0) (q0 := 0) rfl rfl, fun U hU hW => ⟨rfl, by rw [hU], by rw [hU]; exact hPc, va_K.moved hW.alike hKc, hDc.weaken (fun _ _ _ _ => trivial)⟩⟩ rfl rfl hl.1 rfl (lv_room (Nat.le_of_ble_eq_true rfl)) d_Top_turn_45 ⟨(Nat.le_of_ble_eq_true rfl), (Nat.le_of_ble_eq_true rfl)⟩) hS (fun q _ h => hFc q h) hFc (fun u t H1 locs ht9 hvm hw hB hz1 hk1 hS => ?_)
      obtain ⟨hP1, hK1, hD1⟩ := hB
      rw [ht9] at hP1
      have hK1 := va_K.moved hvm.symm hK1
      obtain ⟨hP, hD⟩ := va_join (wr := [(h0, .inr (11, [.ref qt, .ref qa, v2, v3, .ref qc, v5, v6, v7, v8])), (qa, .inr (0, [va, .int (nI 0), .int (nI 0)]))]) (w1 := [(qt, .inr (0, [vt, .int (nI 0), .int (nI 0)]))]) hP hD [2] [0, 1] rfl rfl (by decide +kernel) (by decide +kernel) hk1 hFc hP1 hD1
      have hK := (hK.sub (tys' := []) [] rfl).app hK1
      generalize H1 = H at hP hS ⊢
      have hP : va_P (dC, dI) classes [(h0, .inr (11, [.ref qt, .ref qa, v2, v3, .ref qc, v5, v6, v7, v8])), (qa, .inr (0, [va, .int (nI 0), .int (nI 0)])), (qt, .inr (0, [vt, .int (nI 0), .int (nI 0)]))] H := hP
      have hD : va_D A [(h0, .inr (11, [.ref qt, .ref qa, v2, v3, .ref qc, v5, v6, v7, v8])), (qa, .inr (0, [va, .int (nI 0), .int (nI 0)])), (qt, .inr (0, [vt, .int (nI 0), .int (nI 0)]))] := hD
      have hK : va_K (dC, dI) classes [] s := hK
      refine W.widen (k := 0) (n := 0) (by omega) (by omega) ?_
      refine lv_iload_n hx hb d_Top_turn_48 rfl (lv_at hl 0 rfl) ?_
      refine lv_if_ne (tgt := 54) hx hb d_Top_turn_49 (by decide) (fun c_49_57 => absurd (by decide) c_49_57) (fun _ => ?_)
      refine lv_iconst (v := (-1)) hx hb d_Top_turn_52 (by decide) ?_
      have hP9 := hP.sub (ws' := []) [] rfl
      have hD9 := hD.sub (ws' := []) [] (by decide +kernel) rfl
      have hK9 := hK.sub (tys' := []) [] rfl
      exact W.iret hx hb hr (fun t ht9 hW => ⟨⟨(-1), (), rfl, rfl, by rw [ht9]; exact hP9, va_K.moved hW.alike hK9, hD9⟩, hS.F ht9⟩) hS.2.2 d_Top_turn_53
    · refine lv_iload_n hx hb d_Top_turn_16 rfl (lv_at hl 1 rfl) ?_
      refine lv_iconst (v := (nI 4)) hx hb d_Top_turn_17 (by decide) ?_
      refine lv_icmp_ne (tgt := 39) hx hb d_Top_turn_18 (by decide) (fun c_18_108 => ?_) (fun c_18_108 => ?_)
      · refine lv_iconst (v := (nI 0)) hx hb d_Top_turn_39 (by decide) ?_
        refine lv_istore_n (lv' := [(2, .int (nI 0)), (0, .ref h0), (1, .int n)]) hx hb d_Top_turn_40 rfl hl (by decide) rfl (fun ls hl => ?_)
        refine lv_aload_n hx hb d_Top_turn_41 rfl (lv_at hl 1 rfl) ?_
        refine va_get (D := (dC, dI)) (ci := 11) (v := .ref qt) (C := R_Top) (T := F_Top) (N := 9) hx hb ht i_Top hown hK hP 0 rfl rfl 0 (by decide) (ht _ k_350) (fun _ h9 => h9) rfl d_Top_turn_42 ?_
        have hPc := hP.sub (ws' := [(qt, .inr (0, [vt, .int 0, .int 0]))]) [1] rfl
        have hDc := hD.sub (ws' := [(qt, .inr (0, [vt, .int 0, .int 0]))]) [1] (by decide +kernel) rfl
        have hKc := hK.sub (tys' := []) [] rfl
        have hFc := va_free (wc := [(qt, .inr (0, [vt, .int 0, .int 0]))]) hD hS hA [1] rfl
        refine va_callv (va_runV (As := []) (rest := []) ⟨hx, hb, hml, hown, ht⟩ (c_Row_clear l dC dI qt H.size vt 0 0) ⟨callB_of 0 ht (xw_good k_406) rfl rfl rfl (ht _ k_2) (ht _ k_403) (by decide +kernel) ⟨(Nat.le_of_ble_eq_true rfl), (Nat.le_of_ble_eq_true rfl)⟩, ht _ k_404, ht _ k_405⟩ ⟨fun a U g mk q => by obtain ⟨q0, q1, qP, qK, qD⟩ := q; exact ⟨q0, q1, qP, va_K.moved (u := U) (U := U.calling g mk a) (Vm.Alike.refl U.vm) qK, qD⟩, va_recv hKc hPc (ci := 0) (q0 := 0) rfl rfl, fun U hU hW => ⟨rfl, by rw [hU], by rw [hU]; exact hPc, va_K.moved hW.alike hKc, hDc.weaken (fun _ _ _ _ => trivial)⟩⟩ rfl rfl hl.1 rfl (lv_room (Nat.le_of_ble_eq_true rfl)) d_Top_turn_45 ⟨(Nat.le_of_ble_eq_true rfl), (Nat.le_of_ble_eq_true rfl)⟩) hS (fun q _ h => hFc q h) hFc (fun u t H1 locs ht9 hvm hw hB hz1 hk1 hS => ?_)
        obtain ⟨hP1, hK1, hD1⟩ := hB
        rw [ht9] at hP1
        have hK1 := va_K.moved hvm.symm hK1
        obtain ⟨hP, hD⟩ := va_join (wr := [(h0, .inr (11, [.ref qt, .ref qa, v2, v3, .ref qc, v5, v6, v7, v8])), (qc, .inr (5, [.ref qx, .int 0, u2, .int 0, u4, .int 0, u6, u7, .int 0, .ref qy])), (qx, .inr (0, [vx, .int 0, .int 0])), (qy, .inl (cA, 34, .inl f)), (qa, .inr (0, [va, .int (nI 0), .int (nI 0)]))]) (w1 := [(qt, .inr (0, [vt, .int (nI 0), .int (nI 0)]))]) hP hD [1] [0, 2, 3, 4, 5] rfl rfl (by decide +kernel) (by decide +kernel) hk1 hFc hP1 hD1
        have hK := (hK.sub (tys' := [(cA, .int)]) [0] rfl).app hK1
        generalize H1 = H at hP hS ⊢
        have hP : va_P (dC, dI) classes [(h0, .inr (11, [.ref qt, .ref qa, v2, v3, .ref qc, v5, v6, v7, v8])), (qc, .inr (5, [.ref qx, .int 0, u2, .int 0, u4, .int 0, u6, u7, .int 0, .ref qy])), (qx, .inr (0, [vx, .int 0, .int 0])), (qy, .inl (cA, 34, .inl f)), (qa, .inr (0, [va, .int (nI 0), .int (nI 0)])), (qt, .inr (0, [vt, .int (nI 0), .int (nI 0)]))] H := hP
        have hD : va_D A [(h0, .inr (11, [.ref qt, .ref qa, v2, v3, .ref qc, v5, v6, v7, v8])), (qc, .inr (5, [.ref qx, .int 0, u2, .int 0, u4, .int 0, u6, u7, .int 0, .ref qy])), (qx, .inr (0, [vx, .int 0, .int 0])), (qy, .inl (cA, 34, .inl f)), (qa, .inr (0, [va, .int (nI 0), .int (nI 0)])), (qt, .inr (0, [vt, .int (nI 0), .int (nI 0)]))] := hD
        have hK : va_K (dC, dI) classes [(cA, .int)] s := hK
        refine W.widen (k := 0) (n := 0) (by omega) (by omega) ?_
        refine lv_iload_n hx hb d_Top_turn_48 rfl (lv_at hl 0 rfl) ?_
        refine lv_if_ne (tgt := 54) hx hb d_Top_turn_49 (by decide) (fun c_49_109 => absurd (by decide) c_49_109) (fun _ => ?_)
        refine lv_iconst (v := (-1)) hx hb d_Top_turn_52 (by decide) ?_
        have hP9 := hP.sub (ws' := []) [] rfl
        have hD9 := hD.sub (ws' := []) [] (by decide +kernel) rfl
        have hK9 := hK.sub (tys' := []) [] rfl
        exact W.iret hx hb hr (fun t ht9 hW => ⟨⟨(-1), (), rfl, rfl, by rw [ht9]; exact hP9, va_K.moved hW.alike hK9, hD9⟩, hS.F ht9⟩) hS.2.2 d_Top_turn_53
      · refine lv_aload_n hx hb d_Top_turn_21 rfl (lv_at hl 0 rfl) ?_
        refine va_get (D := (dC, dI)) (ci := 11) (v := .ref qc) (C := R_Top) (T := F_Top) (N := 9) hx hb ht i_Top hown hK hP 0 rfl rfl 4 (by decide) (ht _ k_354) (fun _ h9 => h9) rfl d_Top_turn_22 ?_
        refine lv_aload_n hx hb d_Top_turn_25 rfl (lv_at hl 0 rfl) ?_
        refine va_get (D := (dC, dI)) (ci := 11) (v := .ref qt) (C := R_Top) (T := F_Top) (N := 9) hx hb ht i_Top hown hK hP 0 rfl rfl 0 (by decide) (ht _ k_350) (fun _ h9 => h9) rfl d_Top_turn_26 ?_
        have hPc := hP.sub (ws' := [(qc, .inr (5, [.ref qx, .int 0, u2, .int 0, u4, .int 0, u6, u7, .int 0, .ref qy])), (qt, .inr (0, [vt, .int 0, .int 0])), (qx, .inr (0, [vx, .int 0, .int 0])), (qy, .inl (cA, 34, .inl f))]) [2, 1, 3, 4] rfl
        have hDc := hD.sub (ws' := [(qc, .inr (5, [.ref qx, .int 0, u2, .int 0, u4, .int 0, u6, u7, .int 0, .ref qy])), (qt, .inr (0, [vt, .int 0, .int 0])), (qx, .inr (0, [vx, .int 0, .int 0])), (qy, .inl (cA, 34, .inl f))]) [2, 1, 3, 4] (by decide +kernel) rfl
        have hKc := hK.sub (tys' := [(cA, .int)]) [0] rfl
        have hFc := va_free (wc := [(qc, .inr (5, [.ref qx, .int 0, u2, .int 0, u4, .int 0, u6, u7, .int 0, .ref qy])), (qt, .inr (0, [vt, .int 0, .int 0])), (qx, .inr (0, [vx, .int 0, .int 0])), (qy, .inl (cA, 34, .inl f))]) hD hS hA [2, 1, 3, 4] rfl
        refine va_calli (va_runV (As := [.ref qt]) (rest := []) ⟨hx, hb, hml, hown, ht⟩ (c_Card_read0 l dC dI qc H.size qt qx qy cA f u2 u4 u6 u7 vt vx) ⟨callB_of 1 ht (xw_good k_436) rfl rfl rfl (ht _ k_7) (ht _ k_433) (by decide +kernel) ⟨(Nat.le_of_ble_eq_true rfl), (Nat.le_of_ble_eq_true rfl)⟩, ht _ k_434, ht _ k_435⟩ ⟨fun a U g mk q => by obtain ⟨q0, q1, qP, qK, qD⟩ := q; exact ⟨q0, q1, qP, va_K.moved (u := U) (U := U.calling g mk a) (Vm.Alike.refl U.vm) qK, qD⟩, va_recv hKc hPc (ci := 5) (q0 := 0) rfl rfl, fun U hU hW => ⟨rfl, by rw [hU], by rw [hU]; exact hPc, va_K.moved hW.alike hKc, hDc.weaken (fun _ _ _ _ => trivial)⟩⟩ rfl rfl hl.1 rfl (lv_room (Nat.le_of_ble_eq_true rfl)) d_Top_turn_29 ⟨(Nat.le_of_ble_eq_true rfl), (Nat.le_of_ble_eq_true rfl)⟩) hS (fun q _ h => hFc q h) hFc (fun r161 u t H1 locs ht9 hvm hw hB hz1 hk1 hS => ?_)
        obtain ⟨hP1, hK1, hD1⟩ := hB
        rw [ht9] at hP1
        have hK1 := va_K.moved hvm.symm hK1
        obtain ⟨hP, hD⟩ := va_join (wr := [(h0, .inr (11, [.ref qt, .ref qa, v2, v3, .ref qc, v5, v6, v7, v8])), (qa, .inr (0, [va, .int (nI 0), .int (nI 0)]))]) (w1 := [(qt, .inr (0, [vt, .int 0, .int 0]))]) hP hD [2, 1, 3, 4] [0, 5] rfl rfl (by decide +kernel) (by decide +kernel) hk1 hFc hP1 hD1
        have hK := (hK.sub (tys' := []) [] rfl).app hK1
        generalize H1 = H at hP hS ⊢
        have hP : va_P (dC, dI) classes [(h0, .inr (11, [.ref qt, .ref qa, v2, v3, .ref qc, v5, v6, v7, v8])), (qa, .inr (0, [va, .int (nI 0), .int (nI 0)])), (qt, .inr (0, [vt, .int 0, .int 0]))] H := hP
        have hD : va_D A [(h0, .inr (11, [.ref qt, .ref qa, v2, v3, .ref qc, v5, v6, v7, v8])), (qa, .inr (0, [va, .int (nI 0), .int (nI 0)])), (qt, .inr (0, [vt, .int 0, .int 0]))] := hD
        have hK : va_K (dC, dI) classes [] s := hK
        refine W.widen (k := 0) (n := 0) (by omega) (by omega) ?_
        have hw : r161 = 0 := hw
        subst hw
        refine lv_if_eq (tgt := 39) hx hb d_Top_turn_32 (by decide) (fun _ => ?_) (fun c_32_161 => absurd (by decide) c_32_161)
        refine lv_iconst (v := (nI 0)) hx hb d_Top_turn_39 (by decide) ?_
        refine lv_istore_n (lv' := [(2, .int (nI 0)), (0, .ref h0), (1, .int n)]) hx hb d_Top_turn_40 rfl hl (by decide) rfl (fun ls hl => ?_)
        refine lv_aload_n hx hb d_Top_turn_41 rfl (lv_at hl 1 rfl) ?_
        refine va_get (D := (dC, dI)) (ci := 11) (v := .ref qt) (C := R_Top) (T := F_Top) (N := 9) hx hb ht i_Top hown hK hP 0 rfl rfl 0 (by decide) (ht _ k_350) (fun _ h9 => h9) rfl d_Top_turn_42 ?_
        have hPc := hP.sub (ws' := [(qt, .inr (0, [vt, .int 0, .int 0]))]) [2] rfl
        have hDc := hD.sub (ws' := [(qt, .inr (0, [vt, .int 0, .int 0]))]) [2] (by decide +kernel) rfl
        have hKc := hK.sub (tys' := []) [] rfl
        have hFc := va_free (wc := [(qt, .inr (0, [vt, .int 0, .int 0]))]) hD hS hA [2] rfl
        refine va_callv (va_runV (As := []) (rest := []) ⟨hx, hb, hml, hown, ht⟩ (c_Row_clear l dC dI qt H.size vt 0 0) ⟨callB_of 0 ht (xw_good k_406) rfl rfl rfl (ht _ k_2) (ht _ k_403) (by decide +kernel) ⟨(Nat.le_of_ble_eq_true rfl), (Nat.le_of_ble_eq_true rfl)⟩, ht _ k_404, ht _ k_405⟩ ⟨fun a U g mk q => by obtain ⟨q0, q1, qP, qK, qD⟩ := q; exact ⟨q0, q1, qP, va_K.moved (u := U) (U := U.calling g mk a) (Vm.Alike.refl U.vm) qK, qD⟩, va_recv hKc hPc (ci := 0) (q0 := 0) rfl rfl, fun U hU hW => ⟨rfl, by rw [hU], by rw [hU]; exact hPc, va_K.moved hW.alike hKc, hDc.weaken (fun _ _ _ _ => trivial)⟩⟩ rfl rfl hl.1 rfl (lv_room (Nat.le_of_ble_eq_true rfl)) d_Top_turn_45 ⟨(Nat.le_of_ble_eq_true rfl), (Nat.le_of_ble_eq_true rfl)⟩) hS (fun q _ h => hFc q h) hFc (fun u t H1 locs ht9 hvm hw hB hz1 hk1 hS => ?_)
        obtain ⟨hP1, hK1, hD1⟩ := hB
        rw [ht9] at hP1
        have hK1 := va_K.moved hvm.symm hK1
        obtain ⟨hP, hD⟩ := va_join (wr := [(h0, .inr (11, [.ref qt, .ref qa, v2, v3, .ref qc, v5, v6, v7, v8])), (qa, .inr (0, [va, .int (nI 0), .int (nI 0)]))]) (w1 := [(qt, .inr (0, [vt, .int (nI 0), .int (nI 0)]))]) hP hD [2] [0, 1] rfl rfl (by decide +kernel) (by decide +kernel) hk1 hFc hP1 hD1
        have hK := (hK.sub (tys' := []) [] rfl).app hK1
        generalize H1 = H at hP hS ⊢
        have hP : va_P (dC, dI) classes [(h0, .inr (11, [.ref qt, .ref qa, v2, v3, .ref qc, v5, v6, v7, v8])), (qa, .inr (0, [va, .int (nI 0), .int (nI 0)])), (qt, .inr (0, [vt, .int (nI 0), .int (nI 0)]))] H := hP
        have hD : va_D A [(h0, .inr (11, [.ref qt, .ref qa, v2, v3, .ref qc, v5, v6, v7, v8])), (qa, .inr (0, [va, .int (nI 0), .int (nI 0)])), (qt, .inr (0, [vt, .int (nI 0), .int (nI 0)]))] := hD
        have hK : va_K (dC, dI) classes [] s := hK
        refine W.widen (k := 0) (n := 0) (by omega) (by omega) ?_
        refine lv_iload_n hx hb d_Top_turn_48 rfl (lv_at hl 0 rfl) ?_
        refine lv_if_ne (tgt := 54) hx hb d_Top_turn_49 (by decide) (fun c_49_162 => absurd (by decide) c_49_162) (fun _ => ?_)
        refine lv_iconst (v := (-1)) hx hb d_Top_turn_52 (by decide) ?_
        have hP9 := hP.sub (ws' := []) [] rfl
        have hD9 := hD.sub (ws' := []) [] (by decide +kernel) rfl
        have hK9 := hK.sub (tys' := []) [] rfl
        exact W.iret hx hb hr (fun t ht9 hW => ⟨⟨(-1), (), rfl, rfl, by rw [ht9]; exact hP9, va_K.moved hW.alike hK9, hD9⟩, hS.F ht9⟩) hS.2.2 d_Top_turn_53
