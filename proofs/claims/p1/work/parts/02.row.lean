theorem d_Row_init_0 : decode b_Row_init 0 = .ok (.aload_n 0, 1) := by decide +kernel
theorem d_Row_init_1 : decode b_Row_init 1 = .ok (.invokespecial 3, 3) := by decide +kernel
theorem d_Row_init_4 : decode b_Row_init 4 = .ok (.aload_n 0, 1) := by decide +kernel
theorem d_Row_init_5 : decode b_Row_init 5 = .ok (.iload_n 1, 1) := by decide +kernel
theorem d_Row_init_6 : decode b_Row_init 6 = .ok (.ifCond .le 7, 3) := by decide +kernel
theorem d_Row_init_9 : decode b_Row_init 9 = .ok (.iload_n 1, 1) := by decide +kernel
theorem d_Row_init_10 : decode b_Row_init 10 = .ok (.goto 4, 3) := by decide +kernel
theorem d_Row_init_13 : decode b_Row_init 13 = .ok (.iconst 0, 1) := by decide +kernel
theorem d_Row_init_14 : decode b_Row_init 14 = .ok (.newarray .byte, 2) := by decide +kernel
theorem d_Row_init_16 : decode b_Row_init 16 = .ok (.putfield 9, 3) := by decide +kernel
theorem d_Row_init_19 : decode b_Row_init 19 = .ok (.return_, 1) := by decide +kernel
set_option maxHeartbeats 4000000 in
set_option maxRecDepth 100000 in
/-- Row(n): its bytes are n zeros -/
theorem c_Row_init (l : Launch) (dC : Nat → ClassId) (dI : Nat → Nat → Nat) (h0 sz n : Nat) (hn0 : 0 < n) (hn1 : n ≤ 65536) : Met l y_Row_init (Cond.code y_Row_init b_Row_init 2 none :: xw0) ({ frames := 1, cells := 1, slots := n, locals := 12 }) (va_Pc [.ref h0, .int (nI n)] (fun U => U.heap.size = sz ∧ va_P (dC, dI) classes [(h0, .inr (0, [.null, .int 0, .int 0]))] U.heap ∧ va_K (dC, dI) classes [] U ∧ va_D (fun _ => True) [(h0, .inr (0, [.null, .int 0, .int 0]))])) (va_Qv (fun _ : Unit => True) (fun (_ : Unit) (t : State) => ∃ (q : Nat) (cA : ClassId), va_P (dC, dI) classes [(h0, .inr (0, [.ref q, .int 0, .int 0])), (q, .inl (cA, n, .inl (fun _ => 0)))] t.heap ∧ va_K (dC, dI) classes [(cA, .byte)] t ∧ va_D (va_A [(h0, .inr (0, [.null, .int 0, .int 0]))] sz) [(h0, .inr (0, [.ref q, .int 0, .int 0])), (q, .inl (cA, n, .inl (fun _ => 0)))]) (va_A [(h0, .inr (0, [.null, .int 0, .int 0]))] sz)) 1 n (va_A [(h0, .inr (0, [.null, .int 0, .int 0]))] sz) := by
  refine Met.ofW (cc := b_Row_init) (maxL := 2) (ret := none) (by decide) rfl ?_
  intro p e s m args below meth c s₁ B hml hv
  obtain ⟨rfl, hsz, hP, hK, hD0⟩ := hv
  have hx := B.exec
  have hb := B.bytes
  have hr := B.returns
  have hts := atoms_spec (ws := Cond.code y_Row_init b_Row_init 2 none :: xw0) B.pre
  have ht : ∀ w ∈ xw0, w.before _ s = true := fun w h => hts w (List.mem_cons_of_mem _ h)
  have hown : s.vm.findClass R_Row = some m.cls := findClass_of_methodNamed B.named
  have hlocks := B.notSynchronized
  have hin : meth.name = "<init>" := (name_of_methodNamed B.named B.method).1
  subst hsz
  have hD := hD0.self (sz := s.heap.size)
  generalize hAe : va_A [(h0, .inr (0, [.null, .int 0, .int 0]))] s.heap.size = A at hD ⊢
  have hA : ∀ q : Nat, s.heap.size ≤ q → A q := fun q h => by rw [← hAe]; exact Or.inr h
  have hS : va_S A s.heap s.heap [] := va_S.rf
  have hP : va_P (dC, dI) classes [(h0, .inr (0, [.null, .int 0, .int 0]))] s.heap := hP
  have hl := lv_entry ([.ref h0, .int (nI n)]) (n := 2) (Nat.le_of_ble_eq_true rfl)
  rw [lg_entry_eq]
  generalize (lg_sl ([.ref h0, .int (nI n)]) ++ List.replicate (2 - (lg_sl ([.ref h0, .int (nI n)])).length) Slot.unset).toArray = ls at hl ⊢
  have hl : lv_has ls 2 [(0, .ref h0), (1, .int (nI n))] := hl
  refine lv_aload_n hx hb d_Row_init_0 rfl (lv_at hl 0 rfl) ?_
  refine W.objInit hx hb hown (ht _ k_28) (ht _ k_21) (ht _ k_22) rfl (by rw [hml]; exact hl.1) rfl d_Row_init_1 (Nat.le_of_ble_eq_true rfl) (Nat.le_of_ble_eq_true rfl) ?_
  refine W.eq (g2 := F0 m 4 ls []) rfl ?_
  refine lv_aload_n hx hb d_Row_init_4 rfl (lv_at hl 0 rfl) ?_
  refine lv_iload_n hx hb d_Row_init_5 rfl (lv_at hl 1 rfl) ?_
  refine lv_if_le (tgt := 13) hx hb d_Row_init_6 (by decide) (fun c_6 => absurd c_6 (nI_nle hn0 (by omega))) (fun c_6 => ?_)
  refine lv_iload_n hx hb d_Row_init_9 rfl (lv_at hl 1 rfl) ?_
  refine lv_goto (tgt := 14) hx hb d_Row_init_10 (by decide) ?_
  refine va_newa (atype := .byte) (ty := .byte) (a0 := (n, .inl (fun _ => 0))) hx hb (ht _ k_40) rfl hK hP hD hS hA (fun _ => rfl) (nI_pos (by omega)) (nI_clamp (by omega)) (by show n * 1 ≤ _; omega) (Nat.le_of_ble_eq_true rfl) (by show 0 + n ≤ n; omega) d_Row_init_14 (fun q1 cA2 H hK hP hD hS => ?_)
  refine W.widen (k := 1) (n := n) (by omega) (by omega) ?_
  have hP : va_P (dC, dI) classes [(h0, .inr (0, [.null, .int 0, .int 0])), (q1, .inl (cA2, n, .inl (fun _ => 0)))] H := hP
  have hD : va_D A [(h0, .inr (0, [.null, .int 0, .int 0])), (q1, .inl (cA2, n, .inl (fun _ => 0)))] := hD
  have hK : va_K (dC, dI) classes [(cA2, .byte)] s := hK
  refine va_putF (D := (dC, dI)) (ci := 0) (v := .ref q1) (ty := .array .byte) (C := R_Row) (T := F_Row) (N := 3) hx hb ht i_Row t_Row t_Row_ok n_Row hown hK hP hD hS 0 rfl rfl 0 (by decide) (ht _ k_29) (fun _ h9 => h9) rfl hin rfl (by decide +kernel) rfl rfl (Nat.le_of_ble_eq_true rfl) d_Row_init_16 (fun H locs hP hD hS => ?_)
  have hP : va_P (dC, dI) classes [(h0, .inr (0, [.ref q1, .int 0, .int 0])), (q1, .inl (cA2, n, .inl (fun _ => 0)))] H := hP
  have hD : va_D A [(h0, .inr (0, [.ref q1, .int 0, .int 0])), (q1, .inl (cA2, n, .inl (fun _ => 0)))] := hD
  exact W.vret hx hb hr (fun t ht9 hW => ⟨⟨(), rfl, trivial, q1, cA2, by rw [ht9]; exact hP, va_K.moved hW.alike hK, hD⟩, hS.F ht9⟩) hS.2.2 d_Row_init_19
