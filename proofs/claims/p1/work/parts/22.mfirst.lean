theorem xh_3 {c : Int32} (h : ¬ nI 3 < c) : ¬ nI 4 ≤ c := by
  intro h4
  exact h (Int32.lt_of_lt_of_le (by decide) h4)
theorem d_Model_feed_0 : decode b_Model_feed 0 = .ok (.aload_n 0, 1) := by decide +kernel
theorem d_Model_feed_1 : decode b_Model_feed 1 = .ok (.iconst 0, 1) := by decide +kernel
theorem d_Model_feed_2 : decode b_Model_feed 2 = .ok (.putfield 340, 3) := by decide +kernel
theorem d_Model_feed_5 : decode b_Model_feed 5 = .ok (.aload_n 0, 1) := by decide +kernel
theorem d_Model_feed_6 : decode b_Model_feed 6 = .ok (.getfield 343, 3) := by decide +kernel
theorem d_Model_feed_9 : decode b_Model_feed 9 = .ok (.bipush 20, 2) := by decide +kernel
theorem d_Model_feed_11 : decode b_Model_feed 11 = .ok (.iadd, 1) := by decide +kernel
theorem d_Model_feed_12 : decode b_Model_feed 12 = .ok (.sipush 6000, 3) := by decide +kernel
theorem d_Model_feed_15 : decode b_Model_feed 15 = .ok (.if_icmp .le 5, 3) := by decide +kernel
theorem d_Model_feed_20 : decode b_Model_feed 20 = .ok (.iconst 0, 1) := by decide +kernel
theorem d_Model_feed_21 : decode b_Model_feed 21 = .ok (.istore 6, 2) := by decide +kernel
theorem d_Model_feed_23 : decode b_Model_feed 23 = .ok (.iload 6, 2) := by decide +kernel
theorem d_Model_feed_25 : decode b_Model_feed 25 = .ok (.bipush 20, 2) := by decide +kernel
theorem d_Model_feed_27 : decode b_Model_feed 27 = .ok (.if_icmp .ge 86, 3) := by decide +kernel
theorem d_Model_feed_30 : decode b_Model_feed 30 = .ok (.iload_n 1, 1) := by decide +kernel
theorem d_Model_feed_31 : decode b_Model_feed 31 = .ok (.istore 7, 2) := by decide +kernel
theorem d_Model_feed_33 : decode b_Model_feed 33 = .ok (.iload 6, 2) := by decide +kernel
theorem d_Model_feed_35 : decode b_Model_feed 35 = .ok (.iconst 4, 1) := by decide +kernel
theorem d_Model_feed_36 : decode b_Model_feed 36 = .ok (.if_icmp .lt 6, 3) := by decide +kernel
theorem d_Model_feed_39 : decode b_Model_feed 39 = .ok (.iload_n 2, 1) := by decide +kernel
theorem d_Model_feed_40 : decode b_Model_feed 40 = .ok (.istore 7, 2) := by decide +kernel
theorem d_Model_feed_42 : decode b_Model_feed 42 = .ok (.iload 6, 2) := by decide +kernel
theorem d_Model_feed_44 : decode b_Model_feed 44 = .ok (.bipush 8, 2) := by decide +kernel
theorem d_Model_feed_46 : decode b_Model_feed 46 = .ok (.if_icmp .lt 6, 3) := by decide +kernel
theorem d_Model_feed_49 : decode b_Model_feed 49 = .ok (.iload_n 3, 1) := by decide +kernel
theorem d_Model_feed_50 : decode b_Model_feed 50 = .ok (.istore 7, 2) := by decide +kernel
theorem d_Model_feed_52 : decode b_Model_feed 52 = .ok (.iload 6, 2) := by decide +kernel
theorem d_Model_feed_54 : decode b_Model_feed 54 = .ok (.bipush 12, 2) := by decide +kernel
theorem d_Model_feed_56 : decode b_Model_feed 56 = .ok (.if_icmp .lt 7, 3) := by decide +kernel
theorem d_Model_feed_59 : decode b_Model_feed 59 = .ok (.iload 4, 2) := by decide +kernel
theorem d_Model_feed_61 : decode b_Model_feed 61 = .ok (.istore 7, 2) := by decide +kernel
theorem d_Model_feed_63 : decode b_Model_feed 63 = .ok (.iload 6, 2) := by decide +kernel
theorem d_Model_feed_65 : decode b_Model_feed 65 = .ok (.bipush 16, 2) := by decide +kernel
theorem d_Model_feed_67 : decode b_Model_feed 67 = .ok (.if_icmp .lt 7, 3) := by decide +kernel
theorem d_Model_feed_70 : decode b_Model_feed 70 = .ok (.iload 5, 2) := by decide +kernel
theorem d_Model_feed_72 : decode b_Model_feed 72 = .ok (.istore 7, 2) := by decide +kernel
theorem d_Model_feed_74 : decode b_Model_feed 74 = .ok (.aload_n 0, 1) := by decide +kernel
theorem d_Model_feed_75 : decode b_Model_feed 75 = .ok (.getfield 7, 3) := by decide +kernel
theorem d_Model_feed_78 : decode b_Model_feed 78 = .ok (.aload_n 0, 1) := by decide +kernel
theorem d_Model_feed_79 : decode b_Model_feed 79 = .ok (.getfield 343, 3) := by decide +kernel
theorem d_Model_feed_82 : decode b_Model_feed 82 = .ok (.iload 7, 2) := by decide +kernel
theorem d_Model_feed_84 : decode b_Model_feed 84 = .ok (.bipush 24, 2) := by decide +kernel
theorem d_Model_feed_86 : decode b_Model_feed 86 = .ok (.bipush 8, 2) := by decide +kernel
theorem d_Model_feed_88 : decode b_Model_feed 88 = .ok (.iload 6, 2) := by decide +kernel
theorem d_Model_feed_90 : decode b_Model_feed 90 = .ok (.iconst 3, 1) := by decide +kernel
theorem d_Model_feed_91 : decode b_Model_feed 91 = .ok (.iand, 1) := by decide +kernel
theorem d_Model_feed_92 : decode b_Model_feed 92 = .ok (.imul, 1) := by decide +kernel
theorem d_Model_feed_93 : decode b_Model_feed 93 = .ok (.isub, 1) := by decide +kernel
theorem d_Model_feed_94 : decode b_Model_feed 94 = .ok (.ishr, 1) := by decide +kernel
theorem d_Model_feed_95 : decode b_Model_feed 95 = .ok (.i2b, 1) := by decide +kernel
theorem d_Model_feed_96 : decode b_Model_feed 96 = .ok (.bastore, 1) := by decide +kernel
theorem d_Model_feed_97 : decode b_Model_feed 97 = .ok (.aload_n 0, 1) := by decide +kernel
theorem d_Model_feed_98 : decode b_Model_feed 98 = .ok (.dup, 1) := by decide +kernel
theorem d_Model_feed_99 : decode b_Model_feed 99 = .ok (.getfield 343, 3) := by decide +kernel
theorem d_Model_feed_102 : decode b_Model_feed 102 = .ok (.iconst 1, 1) := by decide +kernel
theorem d_Model_feed_103 : decode b_Model_feed 103 = .ok (.iadd, 1) := by decide +kernel
theorem d_Model_feed_104 : decode b_Model_feed 104 = .ok (.putfield 343, 3) := by decide +kernel
theorem d_Model_feed_107 : decode b_Model_feed 107 = .ok (.iinc 6 1, 3) := by decide +kernel
theorem d_Model_feed_110 : decode b_Model_feed 110 = .ok (.goto (-87), 3) := by decide +kernel
theorem d_Model_feed_113 : decode b_Model_feed 113 = .ok (.iconst 1, 1) := by decide +kernel
theorem d_Model_feed_114 : decode b_Model_feed 114 = .ok (.ireturn, 1) := by decide +kernel
theorem d_Model_end_0 : decode b_Model_end 0 = .ok (.aload_n 0, 1) := by decide +kernel
theorem d_Model_end_1 : decode b_Model_end 1 = .ok (.iconst 0, 1) := by decide +kernel
theorem d_Model_end_2 : decode b_Model_end 2 = .ok (.putfield 340, 3) := by decide +kernel
theorem d_Model_end_5 : decode b_Model_end 5 = .ok (.iload_n 1, 1) := by decide +kernel
theorem d_Model_end_6 : decode b_Model_end 6 = .ok (.ifCond .lt 11, 3) := by decide +kernel
theorem d_Model_end_9 : decode b_Model_end 9 = .ok (.iload_n 1, 1) := by decide +kernel
theorem d_Model_end_10 : decode b_Model_end 10 = .ok (.aload_n 0, 1) := by decide +kernel
theorem d_Model_end_11 : decode b_Model_end 11 = .ok (.getfield 343, 3) := by decide +kernel
theorem d_Model_end_14 : decode b_Model_end 14 = .ok (.if_icmp .le 5, 3) := by decide +kernel
theorem d_Model_end_17 : decode b_Model_end 17 = .ok (.iconst 0, 1) := by decide +kernel
theorem d_Model_end_18 : decode b_Model_end 18 = .ok (.ireturn, 1) := by decide +kernel
theorem d_Model_end_19 : decode b_Model_end 19 = .ok (.aload_n 0, 1) := by decide +kernel
theorem d_Model_end_20 : decode b_Model_end 20 = .ok (.iload_n 1, 1) := by decide +kernel
theorem d_Model_end_21 : decode b_Model_end 21 = .ok (.putfield 343, 3) := by decide +kernel
theorem d_Model_end_24 : decode b_Model_end 24 = .ok (.iconst 1, 1) := by decide +kernel
theorem d_Model_end_25 : decode b_Model_end 25 = .ok (.ireturn, 1) := by decide +kernel
theorem d_Model_user_0 : decode b_Model_user 0 = .ok (.aload_n 0, 1) := by decide +kernel
theorem d_Model_user_1 : decode b_Model_user 1 = .ok (.iconst 0, 1) := by decide +kernel
theorem d_Model_user_2 : decode b_Model_user 2 = .ok (.putfield 340, 3) := by decide +kernel
theorem d_Model_user_5 : decode b_Model_user 5 = .ok (.aload_n 0, 1) := by decide +kernel
theorem d_Model_user_6 : decode b_Model_user 6 = .ok (.getfield 343, 3) := by decide +kernel
theorem d_Model_user_9 : decode b_Model_user 9 = .ok (.istore_n 1, 1) := by decide +kernel
theorem d_Model_user_10 : decode b_Model_user 10 = .ok (.aload_n 0, 1) := by decide +kernel
theorem d_Model_user_11 : decode b_Model_user 11 = .ok (.iconst 0, 1) := by decide +kernel
theorem d_Model_user_12 : decode b_Model_user 12 = .ok (.putfield 343, 3) := by decide +kernel
theorem d_Model_user_15 : decode b_Model_user 15 = .ok (.iconst 0, 1) := by decide +kernel
theorem d_Model_user_16 : decode b_Model_user 16 = .ok (.istore_n 2, 1) := by decide +kernel
theorem d_Model_user_17 : decode b_Model_user 17 = .ok (.iload_n 2, 1) := by decide +kernel
theorem d_Model_user_18 : decode b_Model_user 18 = .ok (.iload_n 1, 1) := by decide +kernel
theorem d_Model_user_19 : decode b_Model_user 19 = .ok (.if_icmp .ge 21, 3) := by decide +kernel
theorem d_Model_user_40 : decode b_Model_user 40 = .ok (.iload_n 2, 1) := by decide +kernel
theorem d_Model_user_41 : decode b_Model_user 41 = .ok (.iconst 1, 1) := by decide +kernel
theorem d_Model_user_42 : decode b_Model_user 42 = .ok (.if_icmp .lt 52, 3) := by decide +kernel
theorem d_Model_user_94 : decode b_Model_user 94 = .ok (.iconst (-1), 1) := by decide +kernel
theorem d_Model_user_95 : decode b_Model_user 95 = .ok (.ireturn, 1) := by decide +kernel
theorem d_Model_open_0 : decode b_Model_open 0 = .ok (.aload_n 0, 1) := by decide +kernel
theorem d_Model_open_1 : decode b_Model_open 1 = .ok (.iconst 0, 1) := by decide +kernel
theorem d_Model_open_2 : decode b_Model_open 2 = .ok (.putfield 340, 3) := by decide +kernel
theorem d_Model_open_5 : decode b_Model_open 5 = .ok (.iconst 0, 1) := by decide +kernel
theorem d_Model_open_6 : decode b_Model_open 6 = .ok (.istore_n 1, 1) := by decide +kernel
theorem d_Model_open_7 : decode b_Model_open 7 = .ok (.iload_n 1, 1) := by decide +kernel
theorem d_Model_open_8 : decode b_Model_open 8 = .ok (.iconst 4, 1) := by decide +kernel
theorem d_Model_open_9 : decode b_Model_open 9 = .ok (.if_icmp .ge 37, 3) := by decide +kernel
theorem d_Model_open_12 : decode b_Model_open 12 = .ok (.aload_n 0, 1) := by decide +kernel
theorem d_Model_open_13 : decode b_Model_open 13 = .ok (.getfield 21, 3) := by decide +kernel
theorem d_Model_open_16 : decode b_Model_open 16 = .ok (.iload_n 1, 1) := by decide +kernel
theorem d_Model_open_17 : decode b_Model_open 17 = .ok (.baload, 1) := by decide +kernel
theorem d_Model_open_18 : decode b_Model_open 18 = .ok (.ifCond .eq 6, 3) := by decide +kernel
theorem d_Model_open_24 : decode b_Model_open 24 = .ok (.aload_n 0, 1) := by decide +kernel
theorem d_Model_open_25 : decode b_Model_open 25 = .ok (.getfield 21, 3) := by decide +kernel
theorem d_Model_open_28 : decode b_Model_open 28 = .ok (.iload_n 1, 1) := by decide +kernel
theorem d_Model_open_29 : decode b_Model_open 29 = .ok (.iconst 1, 1) := by decide +kernel
theorem d_Model_open_30 : decode b_Model_open 30 = .ok (.bastore, 1) := by decide +kernel
theorem d_Model_open_31 : decode b_Model_open 31 = .ok (.aload_n 0, 1) := by decide +kernel
theorem d_Model_open_32 : decode b_Model_open 32 = .ok (.getfield 17, 3) := by decide +kernel
theorem d_Model_open_35 : decode b_Model_open 35 = .ok (.iload_n 1, 1) := by decide +kernel
theorem d_Model_open_36 : decode b_Model_open 36 = .ok (.iconst 0, 1) := by decide +kernel
theorem d_Model_open_37 : decode b_Model_open 37 = .ok (.iastore, 1) := by decide +kernel
theorem d_Model_open_38 : decode b_Model_open 38 = .ok (.iload_n 1, 1) := by decide +kernel
theorem d_Model_open_39 : decode b_Model_open 39 = .ok (.ireturn, 1) := by decide +kernel
theorem d_Model_isOpen_0 : decode b_Model_isOpen 0 = .ok (.aload_n 0, 1) := by decide +kernel
theorem d_Model_isOpen_1 : decode b_Model_isOpen 1 = .ok (.iconst 0, 1) := by decide +kernel
theorem d_Model_isOpen_2 : decode b_Model_isOpen 2 = .ok (.putfield 340, 3) := by decide +kernel
theorem d_Model_isOpen_5 : decode b_Model_isOpen 5 = .ok (.iload_n 1, 1) := by decide +kernel
theorem d_Model_isOpen_6 : decode b_Model_isOpen 6 = .ok (.ifCond .lt 21, 3) := by decide +kernel
theorem d_Model_isOpen_9 : decode b_Model_isOpen 9 = .ok (.iload_n 1, 1) := by decide +kernel
theorem d_Model_isOpen_10 : decode b_Model_isOpen 10 = .ok (.iconst 4, 1) := by decide +kernel
theorem d_Model_isOpen_11 : decode b_Model_isOpen 11 = .ok (.if_icmp .ge 16, 3) := by decide +kernel
theorem d_Model_isOpen_14 : decode b_Model_isOpen 14 = .ok (.aload_n 0, 1) := by decide +kernel
theorem d_Model_isOpen_15 : decode b_Model_isOpen 15 = .ok (.getfield 21, 3) := by decide +kernel
theorem d_Model_isOpen_18 : decode b_Model_isOpen 18 = .ok (.iload_n 1, 1) := by decide +kernel
theorem d_Model_isOpen_19 : decode b_Model_isOpen 19 = .ok (.baload, 1) := by decide +kernel
theorem d_Model_isOpen_20 : decode b_Model_isOpen 20 = .ok (.ifCond .eq 7, 3) := by decide +kernel
theorem d_Model_isOpen_27 : decode b_Model_isOpen 27 = .ok (.iconst 0, 1) := by decide +kernel
theorem d_Model_isOpen_28 : decode b_Model_isOpen 28 = .ok (.ireturn, 1) := by decide +kernel
theorem d_Model_shut_0 : decode b_Model_shut 0 = .ok (.aload_n 0, 1) := by decide +kernel
theorem d_Model_shut_1 : decode b_Model_shut 1 = .ok (.iconst 0, 1) := by decide +kernel
theorem d_Model_shut_2 : decode b_Model_shut 2 = .ok (.putfield 340, 3) := by decide +kernel
theorem d_Model_shut_5 : decode b_Model_shut 5 = .ok (.iload_n 1, 1) := by decide +kernel
theorem d_Model_shut_6 : decode b_Model_shut 6 = .ok (.ifCond .lt 17, 3) := by decide +kernel
theorem d_Model_shut_9 : decode b_Model_shut 9 = .ok (.iload_n 1, 1) := by decide +kernel
theorem d_Model_shut_10 : decode b_Model_shut 10 = .ok (.iconst 3, 1) := by decide +kernel
theorem d_Model_shut_11 : decode b_Model_shut 11 = .ok (.if_icmp .gt 12, 3) := by decide +kernel
theorem d_Model_shut_14 : decode b_Model_shut 14 = .ok (.aload_n 0, 1) := by decide +kernel
theorem d_Model_shut_15 : decode b_Model_shut 15 = .ok (.getfield 21, 3) := by decide +kernel
theorem d_Model_shut_18 : decode b_Model_shut 18 = .ok (.iload_n 1, 1) := by decide +kernel
theorem d_Model_shut_19 : decode b_Model_shut 19 = .ok (.baload, 1) := by decide +kernel
theorem d_Model_shut_20 : decode b_Model_shut 20 = .ok (.ifCond .ne 5, 3) := by decide +kernel
theorem d_Model_shut_23 : decode b_Model_shut 23 = .ok (.iconst 0, 1) := by decide +kernel
theorem d_Model_shut_24 : decode b_Model_shut 24 = .ok (.ireturn, 1) := by decide +kernel
theorem d_Model_come_0 : decode b_Model_come 0 = .ok (.aload_n 0, 1) := by decide +kernel
theorem d_Model_come_1 : decode b_Model_come 1 = .ok (.iload_n 1, 1) := by decide +kernel
theorem d_Model_come_2 : decode b_Model_come 2 = .ok (.ifCond .lt 21, 3) := by decide +kernel
theorem d_Model_come_5 : decode b_Model_come 5 = .ok (.iload_n 1, 1) := by decide +kernel
theorem d_Model_come_6 : decode b_Model_come 6 = .ok (.iconst 4, 1) := by decide +kernel
theorem d_Model_come_7 : decode b_Model_come 7 = .ok (.if_icmp .ge 16, 3) := by decide +kernel
theorem d_Model_come_10 : decode b_Model_come 10 = .ok (.aload_n 0, 1) := by decide +kernel
theorem d_Model_come_11 : decode b_Model_come 11 = .ok (.getfield 21, 3) := by decide +kernel
theorem d_Model_come_14 : decode b_Model_come 14 = .ok (.iload_n 1, 1) := by decide +kernel
theorem d_Model_come_15 : decode b_Model_come 15 = .ok (.baload, 1) := by decide +kernel
theorem d_Model_come_16 : decode b_Model_come 16 = .ok (.ifCond .eq 7, 3) := by decide +kernel
theorem d_Model_come_23 : decode b_Model_come 23 = .ok (.iconst 1, 1) := by decide +kernel
theorem d_Model_come_24 : decode b_Model_come 24 = .ok (.putfield 340, 3) := by decide +kernel
theorem d_Model_come_27 : decode b_Model_come 27 = .ok (.aload_n 0, 1) := by decide +kernel
theorem d_Model_come_28 : decode b_Model_come 28 = .ok (.getfield 340, 3) := by decide +kernel
theorem d_Model_come_31 : decode b_Model_come 31 = .ok (.iconst 1, 1) := by decide +kernel
theorem d_Model_come_32 : decode b_Model_come 32 = .ok (.if_icmp .ne 5, 3) := by decide +kernel
theorem d_Model_come_35 : decode b_Model_come 35 = .ok (.iconst 0, 1) := by decide +kernel
theorem d_Model_come_36 : decode b_Model_come 36 = .ok (.ireturn, 1) := by decide +kernel
theorem d_Model_out_0 : decode b_Model_out 0 = .ok (.aload_n 0, 1) := by decide +kernel
theorem d_Model_out_1 : decode b_Model_out 1 = .ok (.iconst 0, 1) := by decide +kernel
theorem d_Model_out_2 : decode b_Model_out 2 = .ok (.putfield 340, 3) := by decide +kernel
theorem d_Model_out_5 : decode b_Model_out 5 = .ok (.aload_n 0, 1) := by decide +kernel
theorem d_Model_out_6 : decode b_Model_out 6 = .ok (.getfield 378, 3) := by decide +kernel
theorem d_Model_out_9 : decode b_Model_out 9 = .ok (.ireturn, 1) := by decide +kernel
theorem d_Model_outAt_0 : decode b_Model_outAt 0 = .ok (.aload_n 0, 1) := by decide +kernel
theorem d_Model_outAt_1 : decode b_Model_outAt 1 = .ok (.iload_n 1, 1) := by decide +kernel
theorem d_Model_outAt_2 : decode b_Model_outAt 2 = .ok (.ifCond .lt 15, 3) := by decide +kernel
theorem d_Model_outAt_5 : decode b_Model_outAt 5 = .ok (.iload_n 1, 1) := by decide +kernel
theorem d_Model_outAt_6 : decode b_Model_outAt 6 = .ok (.aload_n 0, 1) := by decide +kernel
theorem d_Model_outAt_7 : decode b_Model_outAt 7 = .ok (.getfield 378, 3) := by decide +kernel
theorem d_Model_outAt_10 : decode b_Model_outAt 10 = .ok (.if_icmp .ge 7, 3) := by decide +kernel
theorem d_Model_outAt_17 : decode b_Model_outAt 17 = .ok (.iconst 1, 1) := by decide +kernel
theorem d_Model_outAt_18 : decode b_Model_outAt 18 = .ok (.putfield 340, 3) := by decide +kernel
theorem d_Model_outAt_21 : decode b_Model_outAt 21 = .ok (.aload_n 0, 1) := by decide +kernel
theorem d_Model_outAt_22 : decode b_Model_outAt 22 = .ok (.getfield 340, 3) := by decide +kernel
theorem d_Model_outAt_25 : decode b_Model_outAt 25 = .ok (.ifCond .ne 16, 3) := by decide +kernel
theorem d_Model_outAt_41 : decode b_Model_outAt 41 = .ok (.iconst 0, 1) := by decide +kernel
theorem d_Model_outAt_42 : decode b_Model_outAt 42 = .ok (.ireturn, 1) := by decide +kernel
theorem d_Model_thrown_0 : decode b_Model_thrown 0 = .ok (.aload_n 0, 1) := by decide +kernel
theorem d_Model_thrown_1 : decode b_Model_thrown 1 = .ok (.getfield 340, 3) := by decide +kernel
theorem d_Model_thrown_4 : decode b_Model_thrown 4 = .ok (.ireturn, 1) := by decide +kernel
set_option maxHeartbeats 4000000 in
set_option maxRecDepth 100000 in
/-- feed of the reference: true -/
theorem c_Model_feed (l : Launch) (dC : Nat → ClassId) (dI : Nat → Nat → Nat) (h0 sz qt : Nat) (cA : ClassId) (f : Nat → Int32) (za zb zc zd ze : Int32) (m0 m3 m4 m5 m6 m7 m8 m9 m10 m11 m12 m13 m14 m15 : Value) : Met l y_Model_feed (Cond.code y_Model_feed b_Model_feed 8 (Option.some Jvm.ClassFile.FieldType.boolean) :: xv0) ({ frames := 0, cells := 0, slots := 0, locals := 0 }) (va_Pc [.ref h0, .int za, .int zb, .int zc, .int zd, .int ze] (fun U => U.heap.size = sz ∧ va_P (dC, dI) classes [(h0, .inr (13, [m0, .ref qt, .int 0, m3, m4, m5, m6, m7, m8, m9, m10, m11, m12, m13, m14, m15])), (qt, .inl (cA, 6000, .inl f))] U.heap ∧ va_K (dC, dI) classes [(cA, .byte)] U ∧ va_D (fun _ => True) [(h0, .inr (13, [m0, .ref qt, .int 0, m3, m4, m5, m6, m7, m8, m9, m10, m11, m12, m13, m14, m15])), (qt, .inl (cA, 6000, .inl f))])) (va_Qi (fun (r : Int32) (_ : Unit) => r = 1) (fun (_ : Unit) (t : State) => va_P (dC, dI) classes [] t.heap ∧ va_K (dC, dI) classes [] t ∧ va_D (va_A [(h0, .inr (13, [m0, .ref qt, .int 0, m3, m4, m5, m6, m7, m8, m9, m10, m11, m12, m13, m14, m15])), (qt, .inl (cA, 6000, .inl f))] sz) []) (va_A [(h0, .inr (13, [m0, .ref qt, .int 0, m3, m4, m5, m6, m7, m8, m9, m10, m11, m12, m13, m14, m15])), (qt, .inl (cA, 6000, .inl f))] sz)) 0 0 (va_A [(h0, .inr (13, [m0, .ref qt, .int 0, m3, m4, m5, m6, m7, m8, m9, m10, m11, m12, m13, m14, m15])), (qt, .inl (cA, 6000, .inl f))] sz) := by
  refine Met.ofW (cc := b_Model_feed) (maxL := 8) (ret := (Option.some Jvm.ClassFile.FieldType.boolean)) (by decide) rfl ?_
  intro p e s m args below meth c s₁ B hml hv
  obtain ⟨rfl, hsz, hP, hK, hD0⟩ := hv
  have hx := B.exec
  have hb := B.bytes
  have hr := B.returns
  have hts := atoms_spec (ws := Cond.code y_Model_feed b_Model_feed 8 (Option.some Jvm.ClassFile.FieldType.boolean) :: xv0) B.pre
  have ht : ∀ w ∈ xv0, w.before _ s = true := fun w h => hts w (List.mem_cons_of_mem _ h)
  have hown : s.vm.findClass R_Model = some m.cls := findClass_of_methodNamed B.named
  have hlocks := B.notSynchronized
  subst hsz
  have hD := hD0.self (sz := s.heap.size)
  generalize hAe : va_A [(h0, .inr (13, [m0, .ref qt, .int 0, m3, m4, m5, m6, m7, m8, m9, m10, m11, m12, m13, m14, m15])), (qt, .inl (cA, 6000, .inl f))] s.heap.size = A at hD ⊢
  have hA : ∀ q : Nat, s.heap.size ≤ q → A q := fun q h => by rw [← hAe]; exact Or.inr h
  have hS : va_S A s.heap s.heap [] := va_S.rf
  have hP : va_P (dC, dI) classes [(h0, .inr (13, [m0, .ref qt, .int 0, m3, m4, m5, m6, m7, m8, m9, m10, m11, m12, m13, m14, m15])), (qt, .inl (cA, 6000, .inl f))] s.heap := hP
  have hl := lv_entry ([.ref h0, .int za, .int zb, .int zc, .int zd, .int ze]) (n := 8) (Nat.le_of_ble_eq_true rfl)
  rw [lg_entry_eq]
  generalize (lg_sl ([.ref h0, .int za, .int zb, .int zc, .int zd, .int ze]) ++ List.replicate (8 - (lg_sl ([.ref h0, .int za, .int zb, .int zc, .int zd, .int ze])).length) Slot.unset).toArray = ls at hl ⊢
  have hl : lv_has ls 8 [(0, .ref h0), (1, .int za), (2, .int zb), (3, .int zc), (4, .int zd), (5, .int ze)] := hl
  refine lv_aload_n hx hb d_Model_feed_0 rfl (lv_at hl 0 rfl) ?_
  refine lv_iconst (v := (nI 0)) hx hb d_Model_feed_1 (by decide) ?_
  refine va_put (D := (dC, dI)) (ci := 13) (v := .int (nI 0)) (ty := .int) (C := R_Model) (T := F_ModelS) (N := 16) hx hb ht i_ModelS t_ModelS t_ModelS_ok n_ModelS hown hK hP hD hS 0 rfl rfl 0 (by decide) (ht _ v_15) (fun _ h9 => h9) rfl (by decide +kernel) rfl rfl (Nat.le_of_ble_eq_true rfl) d_Model_feed_2 (fun H locs hP hD hS => ?_)
  have hP : va_P (dC, dI) classes [(h0, .inr (13, [.int (nI 0), .ref qt, .int 0, m3, m4, m5, m6, m7, m8, m9, m10, m11, m12, m13, m14, m15])), (qt, .inl (cA, 6000, .inl f))] H := hP
  have hD : va_D A [(h0, .inr (13, [.int (nI 0), .ref qt, .int 0, m3, m4, m5, m6, m7, m8, m9, m10, m11, m12, m13, m14, m15])), (qt, .inl (cA, 6000, .inl f))] := hD
  refine lv_aload_n hx hb d_Model_feed_5 rfl (lv_at hl 0 rfl) ?_
  refine va_get (D := (dC, dI)) (ci := 13) (v := .int 0) (C := R_Model) (T := F_ModelS) (N := 16) hx hb ht i_ModelS hown hK hP 0 rfl rfl 2 (by decide) (ht _ v_17) (fun _ h9 => h9) rfl d_Model_feed_6 ?_
  refine lv_bipush (v := (nI 20)) hx hb d_Model_feed_9 (by decide) ?_
  refine lv_iadd hx hb d_Model_feed_11 ?_
  refine xw_topn (nI 20) (by decide) ?_
  refine lv_sipush (v := (nI 6000)) hx hb d_Model_feed_12 (by decide) ?_
  refine lv_icmp_le (tgt := 20) hx hb d_Model_feed_15 (by decide) (fun _ => ?_) (fun c_15 => absurd (by decide) c_15)
  refine lv_iconst (v := (nI 0)) hx hb d_Model_feed_20 (by decide) ?_
  refine lv_istore (lv' := [(6, .int (nI 0)), (0, .ref h0), (1, .int za), (2, .int zb), (3, .int zc), (4, .int zd), (5, .int ze)]) hx hb d_Model_feed_21 hl (by decide) rfl (fun ls hl => ?_)
  refine lv_iload hx hb d_Model_feed_23 (lv_at hl 0 rfl) ?_
  refine lv_bipush (v := (nI 20)) hx hb d_Model_feed_25 (by decide) ?_
  refine lv_icmp_ge (tgt := 113) hx hb d_Model_feed_27 (by decide) (fun c_27 => absurd c_27 (by decide)) (fun _ => ?_)
  refine lv_iload_n hx hb d_Model_feed_30 rfl (lv_at hl 2 rfl) ?_
  refine lv_istore (lv' := [(7, .int za), (6, .int (nI 0)), (0, .ref h0), (1, .int za), (2, .int zb), (3, .int zc), (4, .int zd), (5, .int ze)]) hx hb d_Model_feed_31 hl (by decide) rfl (fun ls hl => ?_)
  refine lv_iload hx hb d_Model_feed_33 (lv_at hl 1 rfl) ?_
  refine lv_iconst (v := (nI 4)) hx hb d_Model_feed_35 (by decide) ?_
  refine lv_icmp_lt (tgt := 42) hx hb d_Model_feed_36 (by decide) (fun _ => ?_) (fun c_36 => absurd (by decide) c_36)
  refine lv_iload hx hb d_Model_feed_42 (lv_at hl 1 rfl) ?_
  refine lv_bipush (v := (nI 8)) hx hb d_Model_feed_44 (by decide) ?_
  refine lv_icmp_lt (tgt := 52) hx hb d_Model_feed_46 (by decide) (fun _ => ?_) (fun c_46 => absurd (by decide) c_46)
  refine lv_iload hx hb d_Model_feed_52 (lv_at hl 1 rfl) ?_
  refine lv_bipush (v := (nI 12)) hx hb d_Model_feed_54 (by decide) ?_
  refine lv_icmp_lt (tgt := 63) hx hb d_Model_feed_56 (by decide) (fun _ => ?_) (fun c_56 => absurd (by decide) c_56)
  refine lv_iload hx hb d_Model_feed_63 (lv_at hl 1 rfl) ?_
  refine lv_bipush (v := (nI 16)) hx hb d_Model_feed_65 (by decide) ?_
  refine lv_icmp_lt (tgt := 74) hx hb d_Model_feed_67 (by decide) (fun _ => ?_) (fun c_67 => absurd (by decide) c_67)
  refine lv_aload_n hx hb d_Model_feed_74 rfl (lv_at hl 2 rfl) ?_
  refine va_get (D := (dC, dI)) (ci := 13) (v := .ref qt) (C := R_Model) (T := F_ModelS) (N := 16) hx hb ht i_ModelS hown hK hP 0 rfl rfl 1 (by decide) (ht _ v_16) (fun _ h9 => h9) rfl d_Model_feed_75 ?_
  refine lv_aload_n hx hb d_Model_feed_78 rfl (lv_at hl 2 rfl) ?_
  refine va_get (D := (dC, dI)) (ci := 13) (v := .int 0) (C := R_Model) (T := F_ModelS) (N := 16) hx hb ht i_ModelS hown hK hP 0 rfl rfl 2 (by decide) (ht _ v_17) (fun _ h9 => h9) rfl d_Model_feed_79 ?_
  refine lv_iload hx hb d_Model_feed_82 (lv_at hl 0 rfl) ?_
  refine lv_bipush (v := (nI 24)) hx hb d_Model_feed_84 (by decide) ?_
  refine lv_bipush (v := (nI 8)) hx hb d_Model_feed_86 (by decide) ?_
  refine lv_iload hx hb d_Model_feed_88 (lv_at hl 1 rfl) ?_
  refine lv_iconst (v := (nI 3)) hx hb d_Model_feed_90 (by decide) ?_
  refine lv_iand hx hb d_Model_feed_91 ?_
  refine xw_topn (nI 0) (by decide) ?_
  refine lv_imul hx hb d_Model_feed_92 ?_
  refine xw_topn (nI 0) (by decide) ?_
  refine lv_isub hx hb d_Model_feed_93 ?_
  refine xw_topn (nI 24) (by decide) ?_
  refine lv_ishr hx hb d_Model_feed_94 ?_
  refine lv_topi (fun y1 _ => ?_)
  refine lv_i2b hx hb d_Model_feed_95 rfl ?_
  refine lv_topi (fun y2 _ => ?_)
  refine xw_bast hx hb hK hP hD hS 1 0 rfl rfl (vp_in_nI (by decide) (by decide)) d_Model_feed_96 (fun f3 H locs hP hD hS => ?_)
  have hP : va_P (dC, dI) classes [(h0, .inr (13, [.int (nI 0), .ref qt, .int 0, m3, m4, m5, m6, m7, m8, m9, m10, m11, m12, m13, m14, m15])), (qt, .inl (cA, 6000, .inl f3))] H := hP
  have hD : va_D A [(h0, .inr (13, [.int (nI 0), .ref qt, .int 0, m3, m4, m5, m6, m7, m8, m9, m10, m11, m12, m13, m14, m15])), (qt, .inl (cA, 6000, .inl f3))] := hD
  refine lv_aload_n hx hb d_Model_feed_97 rfl (lv_at hl 2 rfl) ?_
  refine lv_dup hx hb d_Model_feed_98 rfl ?_
  refine va_get (D := (dC, dI)) (ci := 13) (v := .int 0) (C := R_Model) (T := F_ModelS) (N := 16) hx hb ht i_ModelS hown hK hP 0 rfl rfl 2 (by decide) (ht _ v_17) (fun _ h9 => h9) rfl d_Model_feed_99 ?_
  refine lv_iconst (v := (nI 1)) hx hb d_Model_feed_102 (by decide) ?_
  refine lv_iadd hx hb d_Model_feed_103 ?_
  refine xw_topn (nI 1) (by decide) ?_
  refine va_put (D := (dC, dI)) (ci := 13) (v := .int (nI 1)) (ty := .int) (C := R_Model) (T := F_ModelS) (N := 16) hx hb ht i_ModelS t_ModelS t_ModelS_ok n_ModelS hown hK hP hD hS 0 rfl rfl 2 (by decide) (ht _ v_17) (fun _ h9 => h9) rfl (by decide +kernel) rfl rfl (Nat.le_of_ble_eq_true rfl) d_Model_feed_104 (fun H locs hP hD hS => ?_)
  have hP : va_P (dC, dI) classes [(h0, .inr (13, [.int (nI 0), .ref qt, .int (nI 1), m3, m4, m5, m6, m7, m8, m9, m10, m11, m12, m13, m14, m15])), (qt, .inl (cA, 6000, .inl f3))] H := hP
  have hD : va_D A [(h0, .inr (13, [.int (nI 0), .ref qt, .int (nI 1), m3, m4, m5, m6, m7, m8, m9, m10, m11, m12, m13, m14, m15])), (qt, .inl (cA, 6000, .inl f3))] := hD
  refine lv_iinc (v := (nI 1)) (lv' := [(6, .int (nI 1)), (7, .int za), (0, .ref h0), (1, .int za), (2, .int zb), (3, .int zc), (4, .int zd), (5, .int ze)]) hx hb d_Model_feed_107 hl (k := 1) rfl (by decide) (by decide) rfl (fun ls hl => ?_)
  refine lv_goto (tgt := 23) hx hb d_Model_feed_110 (by decide) ?_
  refine lv_iload hx hb d_Model_feed_23 (lv_at hl 0 rfl) ?_
  refine lv_bipush (v := (nI 20)) hx hb d_Model_feed_25 (by decide) ?_
  refine lv_icmp_ge (tgt := 113) hx hb d_Model_feed_27 (by decide) (fun c_27 => absurd c_27 (by decide)) (fun _ => ?_)
  refine lv_iload_n hx hb d_Model_feed_30 rfl (lv_at hl 3 rfl) ?_
  refine lv_istore (lv' := [(7, .int za), (6, .int (nI 1)), (0, .ref h0), (1, .int za), (2, .int zb), (3, .int zc), (4, .int zd), (5, .int ze)]) hx hb d_Model_feed_31 hl (by decide) rfl (fun ls hl => ?_)
  refine lv_iload hx hb d_Model_feed_33 (lv_at hl 1 rfl) ?_
  refine lv_iconst (v := (nI 4)) hx hb d_Model_feed_35 (by decide) ?_
  refine lv_icmp_lt (tgt := 42) hx hb d_Model_feed_36 (by decide) (fun _ => ?_) (fun c_36 => absurd (by decide) c_36)
  refine lv_iload hx hb d_Model_feed_42 (lv_at hl 1 rfl) ?_
  refine lv_bipush (v := (nI 8)) hx hb d_Model_feed_44 (by decide) ?_
  refine lv_icmp_lt (tgt := 52) hx hb d_Model_feed_46 (by decide) (fun _ => ?_) (fun c_46 => absurd (by decide) c_46)
  refine lv_iload hx hb d_Model_feed_52 (lv_at hl 1 rfl) ?_
  refine lv_bipush (v := (nI 12)) hx hb d_Model_feed_54 (by decide) ?_
  refine lv_icmp_lt (tgt := 63) hx hb d_Model_feed_56 (by decide) (fun _ => ?_) (fun c_56 => absurd (by decide) c_56)
  refine lv_iload hx hb d_Model_feed_63 (lv_at hl 1 rfl) ?_
  refine lv_bipush (v := (nI 16)) hx hb d_Model_feed_65 (by decide) ?_
  refine lv_icmp_lt (tgt := 74) hx hb d_Model_feed_67 (by decide) (fun _ => ?_) (fun c_67 => absurd (by decide) c_67)
  refine lv_aload_n hx hb d_Model_feed_74 rfl (lv_at hl 2 rfl) ?_
  refine va_get (D := (dC, dI)) (ci := 13) (v := .ref qt) (C := R_Model) (T := F_ModelS) (N := 16) hx hb ht i_ModelS hown hK hP 0 rfl rfl 1 (by decide) (ht _ v_16) (fun _ h9 => h9) rfl d_Model_feed_75 ?_
  refine lv_aload_n hx hb d_Model_feed_78 rfl (lv_at hl 2 rfl) ?_
  refine va_get (D := (dC, dI)) (ci := 13) (v := .int (nI 1)) (C := R_Model) (T := F_ModelS) (N := 16) hx hb ht i_ModelS hown hK hP 0 rfl rfl 2 (by decide) (ht _ v_17) (fun _ h9 => h9) rfl d_Model_feed_79 ?_
  refine lv_iload hx hb d_Model_feed_82 (lv_at hl 0 rfl) ?_
  refine lv_bipush (v := (nI 24)) hx hb d_Model_feed_84 (by decide) ?_
  refine lv_bipush (v := (nI 8)) hx hb d_Model_feed_86 (by decide) ?_
  refine lv_iload hx hb d_Model_feed_88 (lv_at hl 1 rfl) ?_
  refine lv_iconst (v := (nI 3)) hx hb d_Model_feed_90 (by decide) ?_
  refine lv_iand hx hb d_Model_feed_91 ?_
  refine xw_topn (nI 1) (by decide) ?_
  refine lv_imul hx hb d_Model_feed_92 ?_
  refine xw_topn (nI 8) (by decide) ?_
  refine lv_isub hx hb d_Model_feed_93 ?_
  refine xw_topn (nI 16) (by decide) ?_
  refine lv_ishr hx hb d_Model_feed_94 ?_
  refine lv_topi (fun y4 _ => ?_)
  refine lv_i2b hx hb d_Model_feed_95 rfl ?_
  refine lv_topi (fun y5 _ => ?_)
  refine xw_bast hx hb hK hP hD hS 1 0 rfl rfl (vp_in_nI (by decide) (by decide)) d_Model_feed_96 (fun f6 H locs hP hD hS => ?_)
  have hP : va_P (dC, dI) classes [(h0, .inr (13, [.int (nI 0), .ref qt, .int (nI 1), m3, m4, m5, m6, m7, m8, m9, m10, m11, m12, m13, m14, m15])), (qt, .inl (cA, 6000, .inl f6))] H := hP
  have hD : va_D A [(h0, .inr (13, [.int (nI 0), .ref qt, .int (nI 1), m3, m4, m5, m6, m7, m8, m9, m10, m11, m12, m13, m14, m15])), (qt, .inl (cA, 6000, .inl f6))] := hD
  refine lv_aload_n hx hb d_Model_feed_97 rfl (lv_at hl 2 rfl) ?_
  refine lv_dup hx hb d_Model_feed_98 rfl ?_
  refine va_get (D := (dC, dI)) (ci := 13) (v := .int (nI 1)) (C := R_Model) (T := F_ModelS) (N := 16) hx hb ht i_ModelS hown hK hP 0 rfl rfl 2 (by decide) (ht _ v_17) (fun _ h9 => h9) rfl d_Model_feed_99 ?_
  refine lv_iconst (v := (nI 1)) hx hb d_Model_feed_102 (by decide) ?_
  refine lv_iadd hx hb d_Model_feed_103 ?_
  refine xw_topn (nI 2) (by decide) ?_
  refine va_put (D := (dC, dI)) (ci := 13) (v := .int (nI 2)) (ty := .int) (C := R_Model) (T := F_ModelS) (N := 16) hx hb ht i_ModelS t_ModelS t_ModelS_ok n_ModelS hown hK hP hD hS 0 rfl rfl 2 (by decide) (ht _ v_17) (fun _ h9 => h9) rfl (by decide +kernel) rfl rfl (Nat.le_of_ble_eq_true rfl) d_Model_feed_104 (fun H locs hP hD hS => ?_)
  have hP : va_P (dC, dI) classes [(h0, .inr (13, [.int (nI 0), .ref qt, .int (nI 2), m3, m4, m5, m6, m7, m8, m9, m10, m11, m12, m13, m14, m15])), (qt, .inl (cA, 6000, .inl f6))] H := hP
  have hD : va_D A [(h0, .inr (13, [.int (nI 0), .ref qt, .int (nI 2), m3, m4, m5, m6, m7, m8, m9, m10, m11, m12, m13, m14, m15])), (qt, .inl (cA, 6000, .inl f6))] := hD
  refine lv_iinc (v := (nI 2)) (lv' := [(6, .int (nI 2)), (7, .int za), (0, .ref h0), (1, .int za), (2, .int zb), (3, .int zc), (4, .int zd), (5, .int ze)]) hx hb d_Model_feed_107 hl (k := 1) rfl (by decide) (by decide) rfl (fun ls hl => ?_)
  refine lv_goto (tgt := 23) hx hb d_Model_feed_110 (by decide) ?_
  refine lv_iload hx hb d_Model_feed_23 (lv_at hl 0 rfl) ?_
  refine lv_bipush (v := (nI 20)) hx hb d_Model_feed_25 (by decide) ?_
  refine lv_icmp_ge (tgt := 113) hx hb d_Model_feed_27 (by decide) (fun c_27 => absurd c_27 (by decide)) (fun _ => ?_)
  refine lv_iload_n hx hb d_Model_feed_30 rfl (lv_at hl 3 rfl) ?_
  refine lv_istore (lv' := [(7, .int za), (6, .int (nI 2)), (0, .ref h0), (1, .int za), (2, .int zb), (3, .int zc), (4, .int zd), (5, .int ze)]) hx hb d_Model_feed_31 hl (by decide) rfl (fun ls hl => ?_)
  refine lv_iload hx hb d_Model_feed_33 (lv_at hl 1 rfl) ?_
  refine lv_iconst (v := (nI 4)) hx hb d_Model_feed_35 (by decide) ?_
  refine lv_icmp_lt (tgt := 42) hx hb d_Model_feed_36 (by decide) (fun _ => ?_) (fun c_36 => absurd (by decide) c_36)
  refine lv_iload hx hb d_Model_feed_42 (lv_at hl 1 rfl) ?_
  refine lv_bipush (v := (nI 8)) hx hb d_Model_feed_44 (by decide) ?_
  refine lv_icmp_lt (tgt := 52) hx hb d_Model_feed_46 (by decide) (fun _ => ?_) (fun c_46 => absurd (by decide) c_46)
  refine lv_iload hx hb d_Model_feed_52 (lv_at hl 1 rfl) ?_
  refine lv_bipush (v := (nI 12)) hx hb d_Model_feed_54 (by decide) ?_
  refine lv_icmp_lt (tgt := 63) hx hb d_Model_feed_56 (by decide) (fun _ => ?_) (fun c_56 => absurd (by decide) c_56)
  refine lv_iload hx hb d_Model_feed_63 (lv_at hl 1 rfl) ?_
  refine lv_bipush (v := (nI 16)) hx hb d_Model_feed_65 (by decide) ?_
  refine lv_icmp_lt (tgt := 74) hx hb d_Model_feed_67 (by decide) (fun _ => ?_) (fun c_67 => absurd (by decide) c_67)
  refine lv_aload_n hx hb d_Model_feed_74 rfl (lv_at hl 2 rfl) ?_
  refine va_get (D := (dC, dI)) (ci := 13) (v := .ref qt) (C := R_Model) (T := F_ModelS) (N := 16) hx hb ht i_ModelS hown hK hP 0 rfl rfl 1 (by decide) (ht _ v_16) (fun _ h9 => h9) rfl d_Model_feed_75 ?_
  refine lv_aload_n hx hb d_Model_feed_78 rfl (lv_at hl 2 rfl) ?_
  refine va_get (D := (dC, dI)) (ci := 13) (v := .int (nI 2)) (C := R_Model) (T := F_ModelS) (N := 16) hx hb ht i_ModelS hown hK hP 0 rfl rfl 2 (by decide) (ht _ v_17) (fun _ h9 => h9) rfl d_Model_feed_79 ?_
  refine lv_iload hx hb d_Model_feed_82 (lv_at hl 0 rfl) ?_
  refine lv_bipush (v := (nI 24)) hx hb d_Model_feed_84 (by decide) ?_
  refine lv_bipush (v := (nI 8)) hx hb d_Model_feed_86 (by decide) ?_
  refine lv_iload hx hb d_Model_feed_88 (lv_at hl 1 rfl) ?_
  refine lv_iconst (v := (nI 3)) hx hb d_Model_feed_90 (by decide) ?_
  refine lv_iand hx hb d_Model_feed_91 ?_
  refine xw_topn (nI 2) (by decide) ?_
  refine lv_imul hx hb d_Model_feed_92 ?_
  refine xw_topn (nI 16) (by decide) ?_
  refine lv_isub hx hb d_Model_feed_93 ?_
  refine xw_topn (nI 8) (by decide) ?_
  refine lv_ishr hx hb d_Model_feed_94 ?_
  refine lv_topi (fun y7 _ => ?_)
  refine lv_i2b hx hb d_Model_feed_95 rfl ?_
  refine lv_topi (fun y8 _ => ?_)
  refine xw_bast hx hb hK hP hD hS 1 0 rfl rfl (vp_in_nI (by decide) (by decide)) d_Model_feed_96 (fun f9 H locs hP hD hS => ?_)
  have hP : va_P (dC, dI) classes [(h0, .inr (13, [.int (nI 0), .ref qt, .int (nI 2), m3, m4, m5, m6, m7, m8, m9, m10, m11, m12, m13, m14, m15])), (qt, .inl (cA, 6000, .inl f9))] H := hP
  have hD : va_D A [(h0, .inr (13, [.int (nI 0), .ref qt, .int (nI 2), m3, m4, m5, m6, m7, m8, m9, m10, m11, m12, m13, m14, m15])), (qt, .inl (cA, 6000, .inl f9))] := hD
  refine lv_aload_n hx hb d_Model_feed_97 rfl (lv_at hl 2 rfl) ?_
  refine lv_dup hx hb d_Model_feed_98 rfl ?_
  refine va_get (D := (dC, dI)) (ci := 13) (v := .int (nI 2)) (C := R_Model) (T := F_ModelS) (N := 16) hx hb ht i_ModelS hown hK hP 0 rfl rfl 2 (by decide) (ht _ v_17) (fun _ h9 => h9) rfl d_Model_feed_99 ?_
  refine lv_iconst (v := (nI 1)) hx hb d_Model_feed_102 (by decide) ?_
  refine lv_iadd hx hb d_Model_feed_103 ?_
  refine xw_topn (nI 3) (by decide) ?_
  refine va_put (D := (dC, dI)) (ci := 13) (v := .int (nI 3)) (ty := .int) (C := R_Model) (T := F_ModelS) (N := 16) hx hb ht i_ModelS t_ModelS t_ModelS_ok n_ModelS hown hK hP hD hS 0 rfl rfl 2 (by decide) (ht _ v_17) (fun _ h9 => h9) rfl (by decide +kernel) rfl rfl (Nat.le_of_ble_eq_true rfl) d_Model_feed_104 (fun H locs hP hD hS => ?_)
  have hP : va_P (dC, dI) classes [(h0, .inr (13, [.int (nI 0), .ref qt, .int (nI 3), m3, m4, m5, m6, m7, m8, m9, m10, m11, m12, m13, m14, m15])), (qt, .inl (cA, 6000, .inl f9))] H := hP
  have hD : va_D A [(h0, .inr (13, [.int (nI 0), .ref qt, .int (nI 3), m3, m4, m5, m6, m7, m8, m9, m10, m11, m12, m13, m14, m15])), (qt, .inl (cA, 6000, .inl f9))] := hD
  refine lv_iinc (v := (nI 3)) (lv' := [(6, .int (nI 3)), (7, .int za), (0, .ref h0), (1, .int za), (2, .int zb), (3, .int zc), (4, .int zd), (5, .int ze)]) hx hb d_Model_feed_107 hl (k := 1) rfl (by decide) (by decide) rfl (fun ls hl => ?_)
  refine lv_goto (tgt := 23) hx hb d_Model_feed_110 (by decide) ?_
  refine lv_iload hx hb d_Model_feed_23 (lv_at hl 0 rfl) ?_
  refine lv_bipush (v := (nI 20)) hx hb d_Model_feed_25 (by decide) ?_
  refine lv_icmp_ge (tgt := 113) hx hb d_Model_feed_27 (by decide) (fun c_27 => absurd c_27 (by decide)) (fun _ => ?_)
  refine lv_iload_n hx hb d_Model_feed_30 rfl (lv_at hl 3 rfl) ?_
  refine lv_istore (lv' := [(7, .int za), (6, .int (nI 3)), (0, .ref h0), (1, .int za), (2, .int zb), (3, .int zc), (4, .int zd), (5, .int ze)]) hx hb d_Model_feed_31 hl (by decide) rfl (fun ls hl => ?_)
  refine lv_iload hx hb d_Model_feed_33 (lv_at hl 1 rfl) ?_
  refine lv_iconst (v := (nI 4)) hx hb d_Model_feed_35 (by decide) ?_
  refine lv_icmp_lt (tgt := 42) hx hb d_Model_feed_36 (by decide) (fun _ => ?_) (fun c_36 => absurd (by decide) c_36)
  refine lv_iload hx hb d_Model_feed_42 (lv_at hl 1 rfl) ?_
  refine lv_bipush (v := (nI 8)) hx hb d_Model_feed_44 (by decide) ?_
  refine lv_icmp_lt (tgt := 52) hx hb d_Model_feed_46 (by decide) (fun _ => ?_) (fun c_46 => absurd (by decide) c_46)
  refine lv_iload hx hb d_Model_feed_52 (lv_at hl 1 rfl) ?_
  refine lv_bipush (v := (nI 12)) hx hb d_Model_feed_54 (by decide) ?_
  refine lv_icmp_lt (tgt := 63) hx hb d_Model_feed_56 (by decide) (fun _ => ?_) (fun c_56 => absurd (by decide) c_56)
  refine lv_iload hx hb d_Model_feed_63 (lv_at hl 1 rfl) ?_
  refine lv_bipush (v := (nI 16)) hx hb d_Model_feed_65 (by decide) ?_
  refine lv_icmp_lt (tgt := 74) hx hb d_Model_feed_67 (by decide) (fun _ => ?_) (fun c_67 => absurd (by decide) c_67)
  refine lv_aload_n hx hb d_Model_feed_74 rfl (lv_at hl 2 rfl) ?_
  refine va_get (D := (dC, dI)) (ci := 13) (v := .ref qt) (C := R_Model) (T := F_ModelS) (N := 16) hx hb ht i_ModelS hown hK hP 0 rfl rfl 1 (by decide) (ht _ v_16) (fun _ h9 => h9) rfl d_Model_feed_75 ?_
  refine lv_aload_n hx hb d_Model_feed_78 rfl (lv_at hl 2 rfl) ?_
  refine va_get (D := (dC, dI)) (ci := 13) (v := .int (nI 3)) (C := R_Model) (T := F_ModelS) (N := 16) hx hb ht i_ModelS hown hK hP 0 rfl rfl 2 (by decide) (ht _ v_17) (fun _ h9 => h9) rfl d_Model_feed_79 ?_
  refine lv_iload hx hb d_Model_feed_82 (lv_at hl 0 rfl) ?_
  refine lv_bipush (v := (nI 24)) hx hb d_Model_feed_84 (by decide) ?_
  refine lv_bipush (v := (nI 8)) hx hb d_Model_feed_86 (by decide) ?_
  refine lv_iload hx hb d_Model_feed_88 (lv_at hl 1 rfl) ?_
  refine lv_iconst (v := (nI 3)) hx hb d_Model_feed_90 (by decide) ?_
  refine lv_iand hx hb d_Model_feed_91 ?_
  refine xw_topn (nI 3) (by decide) ?_
  refine lv_imul hx hb d_Model_feed_92 ?_
  refine xw_topn (nI 24) (by decide) ?_
  refine lv_isub hx hb d_Model_feed_93 ?_
  refine xw_topn (nI 0) (by decide) ?_
  refine lv_ishr hx hb d_Model_feed_94 ?_
  refine lv_topi (fun y10 _ => ?_)
  refine lv_i2b hx hb d_Model_feed_95 rfl ?_
  refine lv_topi (fun y11 _ => ?_)
  refine xw_bast hx hb hK hP hD hS 1 0 rfl rfl (vp_in_nI (by decide) (by decide)) d_Model_feed_96 (fun f12 H locs hP hD hS => ?_)
  have hP : va_P (dC, dI) classes [(h0, .inr (13, [.int (nI 0), .ref qt, .int (nI 3), m3, m4, m5, m6, m7, m8, m9, m10, m11, m12, m13, m14, m15])), (qt, .inl (cA, 6000, .inl f12))] H := hP
  have hD : va_D A [(h0, .inr (13, [.int (nI 0), .ref qt, .int (nI 3), m3, m4, m5, m6, m7, m8, m9, m10, m11, m12, m13, m14, m15])), (qt, .inl (cA, 6000, .inl f12))] := hD
  refine lv_aload_n hx hb d_Model_feed_97 rfl (lv_at hl 2 rfl) ?_
  refine lv_dup hx hb d_Model_feed_98 rfl ?_
  refine va_get (D := (dC, dI)) (ci := 13) (v := .int (nI 3)) (C := R_Model) (T := F_ModelS) (N := 16) hx hb ht i_ModelS hown hK hP 0 rfl rfl 2 (by decide) (ht _ v_17) (fun _ h9 => h9) rfl d_Model_feed_99 ?_
  refine lv_iconst (v := (nI 1)) hx hb d_Model_feed_102 (by decide) ?_
  refine lv_iadd hx hb d_Model_feed_103 ?_
  refine xw_topn (nI 4) (by decide) ?_
  refine va_put (D := (dC, dI)) (ci := 13) (v := .int (nI 4)) (ty := .int) (C := R_Model) (T := F_ModelS) (N := 16) hx hb ht i_ModelS t_ModelS t_ModelS_ok n_ModelS hown hK hP hD hS 0 rfl rfl 2 (by decide) (ht _ v_17) (fun _ h9 => h9) rfl (by decide +kernel) rfl rfl (Nat.le_of_ble_eq_true rfl) d_Model_feed_104 (fun H locs hP hD hS => ?_)
  have hP : va_P (dC, dI) classes [(h0, .inr (13, [.int (nI 0), .ref qt, .int (nI 4), m3, m4, m5, m6, m7, m8, m9, m10, m11, m12, m13, m14, m15])), (qt, .inl (cA, 6000, .inl f12))] H := hP
  have hD : va_D A [(h0, .inr (13, [.int (nI 0), .ref qt, .int (nI 4), m3, m4, m5, m6, m7, m8, m9, m10, m11, m12, m13, m14, m15])), (qt, .inl (cA, 6000, .inl f12))] := hD
  refine lv_iinc (v := (nI 4)) (lv' := [(6, .int (nI 4)), (7, .int za), (0, .ref h0), (1, .int za), (2, .int zb), (3, .int zc), (4, .int zd), (5, .int ze)]) hx hb d_Model_feed_107 hl (k := 1) rfl (by decide) (by decide) rfl (fun ls hl => ?_)
  refine lv_goto (tgt := 23) hx hb d_Model_feed_110 (by decide) ?_
  refine lv_iload hx hb d_Model_feed_23 (lv_at hl 0 rfl) ?_
  refine lv_bipush (v := (nI 20)) hx hb d_Model_feed_25 (by decide) ?_
  refine lv_icmp_ge (tgt := 113) hx hb d_Model_feed_27 (by decide) (fun c_27 => absurd c_27 (by decide)) (fun _ => ?_)
  refine lv_iload_n hx hb d_Model_feed_30 rfl (lv_at hl 3 rfl) ?_
  refine lv_istore (lv' := [(7, .int za), (6, .int (nI 4)), (0, .ref h0), (1, .int za), (2, .int zb), (3, .int zc), (4, .int zd), (5, .int ze)]) hx hb d_Model_feed_31 hl (by decide) rfl (fun ls hl => ?_)
  refine lv_iload hx hb d_Model_feed_33 (lv_at hl 1 rfl) ?_
  refine lv_iconst (v := (nI 4)) hx hb d_Model_feed_35 (by decide) ?_
  refine lv_icmp_lt (tgt := 42) hx hb d_Model_feed_36 (by decide) (fun c_36 => absurd c_36 (by decide)) (fun _ => ?_)
  refine lv_iload_n hx hb d_Model_feed_39 rfl (lv_at hl 4 rfl) ?_
  refine lv_istore (lv' := [(7, .int zb), (6, .int (nI 4)), (0, .ref h0), (1, .int za), (2, .int zb), (3, .int zc), (4, .int zd), (5, .int ze)]) hx hb d_Model_feed_40 hl (by decide) rfl (fun ls hl => ?_)
  refine lv_iload hx hb d_Model_feed_42 (lv_at hl 1 rfl) ?_
  refine lv_bipush (v := (nI 8)) hx hb d_Model_feed_44 (by decide) ?_
  refine lv_icmp_lt (tgt := 52) hx hb d_Model_feed_46 (by decide) (fun _ => ?_) (fun c_46 => absurd (by decide) c_46)
  refine lv_iload hx hb d_Model_feed_52 (lv_at hl 1 rfl) ?_
  refine lv_bipush (v := (nI 12)) hx hb d_Model_feed_54 (by decide) ?_
  refine lv_icmp_lt (tgt := 63) hx hb d_Model_feed_56 (by decide) (fun _ => ?_) (fun c_56 => absurd (by decide) c_56)
  refine lv_iload hx hb d_Model_feed_63 (lv_at hl 1 rfl) ?_
  refine lv_bipush (v := (nI 16)) hx hb d_Model_feed_65 (by decide) ?_
  refine lv_icmp_lt (tgt := 74) hx hb d_Model_feed_67 (by decide) (fun _ => ?_) (fun c_67 => absurd (by decide) c_67)
  refine lv_aload_n hx hb d_Model_feed_74 rfl (lv_at hl 2 rfl) ?_
  refine va_get (D := (dC, dI)) (ci := 13) (v := .ref qt) (C := R_Model) (T := F_ModelS) (N := 16) hx hb ht i_ModelS hown hK hP 0 rfl rfl 1 (by decide) (ht _ v_16) (fun _ h9 => h9) rfl d_Model_feed_75 ?_
  refine lv_aload_n hx hb d_Model_feed_78 rfl (lv_at hl 2 rfl) ?_
  refine va_get (D := (dC, dI)) (ci := 13) (v := .int (nI 4)) (C := R_Model) (T := F_ModelS) (N := 16) hx hb ht i_ModelS hown hK hP 0 rfl rfl 2 (by decide) (ht _ v_17) (fun _ h9 => h9) rfl d_Model_feed_79 ?_
  refine lv_iload hx hb d_Model_feed_82 (lv_at hl 0 rfl) ?_
  refine lv_bipush (v := (nI 24)) hx hb d_Model_feed_84 (by decide) ?_
  refine lv_bipush (v := (nI 8)) hx hb d_Model_feed_86 (by decide) ?_
  refine lv_iload hx hb d_Model_feed_88 (lv_at hl 1 rfl) ?_
  refine lv_iconst (v := (nI 3)) hx hb d_Model_feed_90 (by decide) ?_
  refine lv_iand hx hb d_Model_feed_91 ?_
  refine xw_topn (nI 0) (by decide) ?_
  refine lv_imul hx hb d_Model_feed_92 ?_
  refine xw_topn (nI 0) (by decide) ?_
  refine lv_isub hx hb d_Model_feed_93 ?_
  refine xw_topn (nI 24) (by decide) ?_
  refine lv_ishr hx hb d_Model_feed_94 ?_
  refine lv_topi (fun y13 _ => ?_)
  refine lv_i2b hx hb d_Model_feed_95 rfl ?_
  refine lv_topi (fun y14 _ => ?_)
  refine xw_bast hx hb hK hP hD hS 1 0 rfl rfl (vp_in_nI (by decide) (by decide)) d_Model_feed_96 (fun f15 H locs hP hD hS => ?_)
  have hP : va_P (dC, dI) classes [(h0, .inr (13, [.int (nI 0), .ref qt, .int (nI 4), m3, m4, m5, m6, m7, m8, m9, m10, m11, m12, m13, m14, m15])), (qt, .inl (cA, 6000, .inl f15))] H := hP
  have hD : va_D A [(h0, .inr (13, [.int (nI 0), .ref qt, .int (nI 4), m3, m4, m5, m6, m7, m8, m9, m10, m11, m12, m13, m14, m15])), (qt, .inl (cA, 6000, .inl f15))] := hD
  refine lv_aload_n hx hb d_Model_feed_97 rfl (lv_at hl 2 rfl) ?_
  refine lv_dup hx hb d_Model_feed_98 rfl ?_
  refine va_get (D := (dC, dI)) (ci := 13) (v := .int (nI 4)) (C := R_Model) (T := F_ModelS) (N := 16) hx hb ht i_ModelS hown hK hP 0 rfl rfl 2 (by decide) (ht _ v_17) (fun _ h9 => h9) rfl d_Model_feed_99 ?_
  refine lv_iconst (v := (nI 1)) hx hb d_Model_feed_102 (by decide) ?_
  refine lv_iadd hx hb d_Model_feed_103 ?_
  refine xw_topn (nI 5) (by decide) ?_
  refine va_put (D := (dC, dI)) (ci := 13) (v := .int (nI 5)) (ty := .int) (C := R_Model) (T := F_ModelS) (N := 16) hx hb ht i_ModelS t_ModelS t_ModelS_ok n_ModelS hown hK hP hD hS 0 rfl rfl 2 (by decide) (ht _ v_17) (fun _ h9 => h9) rfl (by decide +kernel) rfl rfl (Nat.le_of_ble_eq_true rfl) d_Model_feed_104 (fun H locs hP hD hS => ?_)
  have hP : va_P (dC, dI) classes [(h0, .inr (13, [.int (nI 0), .ref qt, .int (nI 5), m3, m4, m5, m6, m7, m8, m9, m10, m11, m12, m13, m14, m15])), (qt, .inl (cA, 6000, .inl f15))] H := hP
  have hD : va_D A [(h0, .inr (13, [.int (nI 0), .ref qt, .int (nI 5), m3, m4, m5, m6, m7, m8, m9, m10, m11, m12, m13, m14, m15])), (qt, .inl (cA, 6000, .inl f15))] := hD
  refine lv_iinc (v := (nI 5)) (lv' := [(6, .int (nI 5)), (7, .int zb), (0, .ref h0), (1, .int za), (2, .int zb), (3, .int zc), (4, .int zd), (5, .int ze)]) hx hb d_Model_feed_107 hl (k := 1) rfl (by decide) (by decide) rfl (fun ls hl => ?_)
  refine lv_goto (tgt := 23) hx hb d_Model_feed_110 (by decide) ?_
  refine lv_iload hx hb d_Model_feed_23 (lv_at hl 0 rfl) ?_
  refine lv_bipush (v := (nI 20)) hx hb d_Model_feed_25 (by decide) ?_
  refine lv_icmp_ge (tgt := 113) hx hb d_Model_feed_27 (by decide) (fun c_27 => absurd c_27 (by decide)) (fun _ => ?_)
  refine lv_iload_n hx hb d_Model_feed_30 rfl (lv_at hl 3 rfl) ?_
  refine lv_istore (lv' := [(7, .int za), (6, .int (nI 5)), (0, .ref h0), (1, .int za), (2, .int zb), (3, .int zc), (4, .int zd), (5, .int ze)]) hx hb d_Model_feed_31 hl (by decide) rfl (fun ls hl => ?_)
  refine lv_iload hx hb d_Model_feed_33 (lv_at hl 1 rfl) ?_
  refine lv_iconst (v := (nI 4)) hx hb d_Model_feed_35 (by decide) ?_
  refine lv_icmp_lt (tgt := 42) hx hb d_Model_feed_36 (by decide) (fun c_36 => absurd c_36 (by decide)) (fun _ => ?_)
  refine lv_iload_n hx hb d_Model_feed_39 rfl (lv_at hl 4 rfl) ?_
  refine lv_istore (lv' := [(7, .int zb), (6, .int (nI 5)), (0, .ref h0), (1, .int za), (2, .int zb), (3, .int zc), (4, .int zd), (5, .int ze)]) hx hb d_Model_feed_40 hl (by decide) rfl (fun ls hl => ?_)
  refine lv_iload hx hb d_Model_feed_42 (lv_at hl 1 rfl) ?_
  refine lv_bipush (v := (nI 8)) hx hb d_Model_feed_44 (by decide) ?_
  refine lv_icmp_lt (tgt := 52) hx hb d_Model_feed_46 (by decide) (fun _ => ?_) (fun c_46 => absurd (by decide) c_46)
  refine lv_iload hx hb d_Model_feed_52 (lv_at hl 1 rfl) ?_
  refine lv_bipush (v := (nI 12)) hx hb d_Model_feed_54 (by decide) ?_
  refine lv_icmp_lt (tgt := 63) hx hb d_Model_feed_56 (by decide) (fun _ => ?_) (fun c_56 => absurd (by decide) c_56)
  refine lv_iload hx hb d_Model_feed_63 (lv_at hl 1 rfl) ?_
  refine lv_bipush (v := (nI 16)) hx hb d_Model_feed_65 (by decide) ?_
  refine lv_icmp_lt (tgt := 74) hx hb d_Model_feed_67 (by decide) (fun _ => ?_) (fun c_67 => absurd (by decide) c_67)
  refine lv_aload_n hx hb d_Model_feed_74 rfl (lv_at hl 2 rfl) ?_
  refine va_get (D := (dC, dI)) (ci := 13) (v := .ref qt) (C := R_Model) (T := F_ModelS) (N := 16) hx hb ht i_ModelS hown hK hP 0 rfl rfl 1 (by decide) (ht _ v_16) (fun _ h9 => h9) rfl d_Model_feed_75 ?_
  refine lv_aload_n hx hb d_Model_feed_78 rfl (lv_at hl 2 rfl) ?_
  refine va_get (D := (dC, dI)) (ci := 13) (v := .int (nI 5)) (C := R_Model) (T := F_ModelS) (N := 16) hx hb ht i_ModelS hown hK hP 0 rfl rfl 2 (by decide) (ht _ v_17) (fun _ h9 => h9) rfl d_Model_feed_79 ?_
  refine lv_iload hx hb d_Model_feed_82 (lv_at hl 0 rfl) ?_
  refine lv_bipush (v := (nI 24)) hx hb d_Model_feed_84 (by decide) ?_
  refine lv_bipush (v := (nI 8)) hx hb d_Model_feed_86 (by decide) ?_
  refine lv_iload hx hb d_Model_feed_88 (lv_at hl 1 rfl) ?_
  refine lv_iconst (v := (nI 3)) hx hb d_Model_feed_90 (by decide) ?_
  refine lv_iand hx hb d_Model_feed_91 ?_
  refine xw_topn (nI 1) (by decide) ?_
  refine lv_imul hx hb d_Model_feed_92 ?_
  refine xw_topn (nI 8) (by decide) ?_
  refine lv_isub hx hb d_Model_feed_93 ?_
  refine xw_topn (nI 16) (by decide) ?_
  refine lv_ishr hx hb d_Model_feed_94 ?_
  refine lv_topi (fun y16 _ => ?_)
  refine lv_i2b hx hb d_Model_feed_95 rfl ?_
  refine lv_topi (fun y17 _ => ?_)
  refine xw_bast hx hb hK hP hD hS 1 0 rfl rfl (vp_in_nI (by decide) (by decide)) d_Model_feed_96 (fun f18 H locs hP hD hS => ?_)
  have hP : va_P (dC, dI) classes [(h0, .inr (13, [.int (nI 0), .ref qt, .int (nI 5), m3, m4, m5, m6, m7, m8, m9, m10, m11, m12, m13, m14, m15])), (qt, .inl (cA, 6000, .inl f18))] H := hP
  have hD : va_D A [(h0, .inr (13, [.int (nI 0), .ref qt, .int (nI 5), m3, m4, m5, m6, m7, m8, m9, m10, m11, m12, m13, m14, m15])), (qt, .inl (cA, 6000, .inl f18))] := hD
  refine lv_aload_n hx hb d_Model_feed_97 rfl (lv_at hl 2 rfl) ?_
  refine lv_dup hx hb d_Model_feed_98 rfl ?_
  refine va_get (D := (dC, dI)) (ci := 13) (v := .int (nI 5)) (C := R_Model) (T := F_ModelS) (N := 16) hx hb ht i_ModelS hown hK hP 0 rfl rfl 2 (by decide) (ht _ v_17) (fun _ h9 => h9) rfl d_Model_feed_99 ?_
  refine lv_iconst (v := (nI 1)) hx hb d_Model_feed_102 (by decide) ?_
  refine lv_iadd hx hb d_Model_feed_103 ?_
  refine xw_topn (nI 6) (by decide) ?_
  refine va_put (D := (dC, dI)) (ci := 13) (v := .int (nI 6)) (ty := .int) (C := R_Model) (T := F_ModelS) (N := 16) hx hb ht i_ModelS t_ModelS t_ModelS_ok n_ModelS hown hK hP hD hS 0 rfl rfl 2 (by decide) (ht _ v_17) (fun _ h9 => h9) rfl (by decide +kernel) rfl rfl (Nat.le_of_ble_eq_true rfl) d_Model_feed_104 (fun H locs hP hD hS => ?_)
  have hP : va_P (dC, dI) classes [(h0, .inr (13, [.int (nI 0), .ref qt, .int (nI 6), m3, m4, m5, m6, m7, m8, m9, m10, m11, m12, m13, m14, m15])), (qt, .inl (cA, 6000, .inl f18))] H := hP
  have hD : va_D A [(h0, .inr (13, [.int (nI 0), .ref qt, .int (nI 6), m3, m4, m5, m6, m7, m8, m9, m10, m11, m12, m13, m14, m15])), (qt, .inl (cA, 6000, .inl f18))] := hD
  refine lv_iinc (v := (nI 6)) (lv' := [(6, .int (nI 6)), (7, .int zb), (0, .ref h0), (1, .int za), (2, .int zb), (3, .int zc), (4, .int zd), (5, .int ze)]) hx hb d_Model_feed_107 hl (k := 1) rfl (by decide) (by decide) rfl (fun ls hl => ?_)
  refine lv_goto (tgt := 23) hx hb d_Model_feed_110 (by decide) ?_
  refine lv_iload hx hb d_Model_feed_23 (lv_at hl 0 rfl) ?_
  refine lv_bipush (v := (nI 20)) hx hb d_Model_feed_25 (by decide) ?_
  refine lv_icmp_ge (tgt := 113) hx hb d_Model_feed_27 (by decide) (fun c_27 => absurd c_27 (by decide)) (fun _ => ?_)
  refine lv_iload_n hx hb d_Model_feed_30 rfl (lv_at hl 3 rfl) ?_
  refine lv_istore (lv' := [(7, .int za), (6, .int (nI 6)), (0, .ref h0), (1, .int za), (2, .int zb), (3, .int zc), (4, .int zd), (5, .int ze)]) hx hb d_Model_feed_31 hl (by decide) rfl (fun ls hl => ?_)
  refine lv_iload hx hb d_Model_feed_33 (lv_at hl 1 rfl) ?_
  refine lv_iconst (v := (nI 4)) hx hb d_Model_feed_35 (by decide) ?_
  refine lv_icmp_lt (tgt := 42) hx hb d_Model_feed_36 (by decide) (fun c_36 => absurd c_36 (by decide)) (fun _ => ?_)
  refine lv_iload_n hx hb d_Model_feed_39 rfl (lv_at hl 4 rfl) ?_
  refine lv_istore (lv' := [(7, .int zb), (6, .int (nI 6)), (0, .ref h0), (1, .int za), (2, .int zb), (3, .int zc), (4, .int zd), (5, .int ze)]) hx hb d_Model_feed_40 hl (by decide) rfl (fun ls hl => ?_)
  refine lv_iload hx hb d_Model_feed_42 (lv_at hl 1 rfl) ?_
  refine lv_bipush (v := (nI 8)) hx hb d_Model_feed_44 (by decide) ?_
  refine lv_icmp_lt (tgt := 52) hx hb d_Model_feed_46 (by decide) (fun _ => ?_) (fun c_46 => absurd (by decide) c_46)
  refine lv_iload hx hb d_Model_feed_52 (lv_at hl 1 rfl) ?_
  refine lv_bipush (v := (nI 12)) hx hb d_Model_feed_54 (by decide) ?_
  refine lv_icmp_lt (tgt := 63) hx hb d_Model_feed_56 (by decide) (fun _ => ?_) (fun c_56 => absurd (by decide) c_56)
  refine lv_iload hx hb d_Model_feed_63 (lv_at hl 1 rfl) ?_
  refine lv_bipush (v := (nI 16)) hx hb d_Model_feed_65 (by decide) ?_
  refine lv_icmp_lt (tgt := 74) hx hb d_Model_feed_67 (by decide) (fun _ => ?_) (fun c_67 => absurd (by decide) c_67)
  refine lv_aload_n hx hb d_Model_feed_74 rfl (lv_at hl 2 rfl) ?_
  refine va_get (D := (dC, dI)) (ci := 13) (v := .ref qt) (C := R_Model) (T := F_ModelS) (N := 16) hx hb ht i_ModelS hown hK hP 0 rfl rfl 1 (by decide) (ht _ v_16) (fun _ h9 => h9) rfl d_Model_feed_75 ?_
  refine lv_aload_n hx hb d_Model_feed_78 rfl (lv_at hl 2 rfl) ?_
  refine va_get (D := (dC, dI)) (ci := 13) (v := .int (nI 6)) (C := R_Model) (T := F_ModelS) (N := 16) hx hb ht i_ModelS hown hK hP 0 rfl rfl 2 (by decide) (ht _ v_17) (fun _ h9 => h9) rfl d_Model_feed_79 ?_
  refine lv_iload hx hb d_Model_feed_82 (lv_at hl 0 rfl) ?_
  refine lv_bipush (v := (nI 24)) hx hb d_Model_feed_84 (by decide) ?_
  refine lv_bipush (v := (nI 8)) hx hb d_Model_feed_86 (by decide) ?_
  refine lv_iload hx hb d_Model_feed_88 (lv_at hl 1 rfl) ?_
  refine lv_iconst (v := (nI 3)) hx hb d_Model_feed_90 (by decide) ?_
  refine lv_iand hx hb d_Model_feed_91 ?_
  refine xw_topn (nI 2) (by decide) ?_
  refine lv_imul hx hb d_Model_feed_92 ?_
  refine xw_topn (nI 16) (by decide) ?_
  refine lv_isub hx hb d_Model_feed_93 ?_
  refine xw_topn (nI 8) (by decide) ?_
  refine lv_ishr hx hb d_Model_feed_94 ?_
  refine lv_topi (fun y19 _ => ?_)
  refine lv_i2b hx hb d_Model_feed_95 rfl ?_
  refine lv_topi (fun y20 _ => ?_)
  refine xw_bast hx hb hK hP hD hS 1 0 rfl rfl (vp_in_nI (by decide) (by decide)) d_Model_feed_96 (fun f21 H locs hP hD hS => ?_)
  have hP : va_P (dC, dI) classes [(h0, .inr (13, [.int (nI 0), .ref qt, .int (nI 6), m3, m4, m5, m6, m7, m8, m9, m10, m11, m12, m13, m14, m15])), (qt, .inl (cA, 6000, .inl f21))] H := hP
  have hD : va_D A [(h0, .inr (13, [.int (nI 0), .ref qt, .int (nI 6), m3, m4, m5, m6, m7, m8, m9, m10, m11, m12, m13, m14, m15])), (qt, .inl (cA, 6000, .inl f21))] := hD
  refine lv_aload_n hx hb d_Model_feed_97 rfl (lv_at hl 2 rfl) ?_
  refine lv_dup hx hb d_Model_feed_98 rfl ?_
  refine va_get (D := (dC, dI)) (ci := 13) (v := .int (nI 6)) (C := R_Model) (T := F_ModelS) (N := 16) hx hb ht i_ModelS hown hK hP 0 rfl rfl 2 (by decide) (ht _ v_17) (fun _ h9 => h9) rfl d_Model_feed_99 ?_
  refine lv_iconst (v := (nI 1)) hx hb d_Model_feed_102 (by decide) ?_
  refine lv_iadd hx hb d_Model_feed_103 ?_
  refine xw_topn (nI 7) (by decide) ?_
  refine va_put (D := (dC, dI)) (ci := 13) (v := .int (nI 7)) (ty := .int) (C := R_Model) (T := F_ModelS) (N := 16) hx hb ht i_ModelS t_ModelS t_ModelS_ok n_ModelS hown hK hP hD hS 0 rfl rfl 2 (by decide) (ht _ v_17) (fun _ h9 => h9) rfl (by decide +kernel) rfl rfl (Nat.le_of_ble_eq_true rfl) d_Model_feed_104 (fun H locs hP hD hS => ?_)
  have hP : va_P (dC, dI) classes [(h0, .inr (13, [.int (nI 0), .ref qt, .int (nI 7), m3, m4, m5, m6, m7, m8, m9, m10, m11, m12, m13, m14, m15])), (qt, .inl (cA, 6000, .inl f21))] H := hP
  have hD : va_D A [(h0, .inr (13, [.int (nI 0), .ref qt, .int (nI 7), m3, m4, m5, m6, m7, m8, m9, m10, m11, m12, m13, m14, m15])), (qt, .inl (cA, 6000, .inl f21))] := hD
  refine lv_iinc (v := (nI 7)) (lv' := [(6, .int (nI 7)), (7, .int zb), (0, .ref h0), (1, .int za), (2, .int zb), (3, .int zc), (4, .int zd), (5, .int ze)]) hx hb d_Model_feed_107 hl (k := 1) rfl (by decide) (by decide) rfl (fun ls hl => ?_)
  refine lv_goto (tgt := 23) hx hb d_Model_feed_110 (by decide) ?_
  refine lv_iload hx hb d_Model_feed_23 (lv_at hl 0 rfl) ?_
  refine lv_bipush (v := (nI 20)) hx hb d_Model_feed_25 (by decide) ?_
  refine lv_icmp_ge (tgt := 113) hx hb d_Model_feed_27 (by decide) (fun c_27 => absurd c_27 (by decide)) (fun _ => ?_)
  refine lv_iload_n hx hb d_Model_feed_30 rfl (lv_at hl 3 rfl) ?_
  refine lv_istore (lv' := [(7, .int za), (6, .int (nI 7)), (0, .ref h0), (1, .int za), (2, .int zb), (3, .int zc), (4, .int zd), (5, .int ze)]) hx hb d_Model_feed_31 hl (by decide) rfl (fun ls hl => ?_)
  refine lv_iload hx hb d_Model_feed_33 (lv_at hl 1 rfl) ?_
  refine lv_iconst (v := (nI 4)) hx hb d_Model_feed_35 (by decide) ?_
  refine lv_icmp_lt (tgt := 42) hx hb d_Model_feed_36 (by decide) (fun c_36 => absurd c_36 (by decide)) (fun _ => ?_)
  refine lv_iload_n hx hb d_Model_feed_39 rfl (lv_at hl 4 rfl) ?_
  refine lv_istore (lv' := [(7, .int zb), (6, .int (nI 7)), (0, .ref h0), (1, .int za), (2, .int zb), (3, .int zc), (4, .int zd), (5, .int ze)]) hx hb d_Model_feed_40 hl (by decide) rfl (fun ls hl => ?_)
  refine lv_iload hx hb d_Model_feed_42 (lv_at hl 1 rfl) ?_
  refine lv_bipush (v := (nI 8)) hx hb d_Model_feed_44 (by decide) ?_
  refine lv_icmp_lt (tgt := 52) hx hb d_Model_feed_46 (by decide) (fun _ => ?_) (fun c_46 => absurd (by decide) c_46)
  refine lv_iload hx hb d_Model_feed_52 (lv_at hl 1 rfl) ?_
  refine lv_bipush (v := (nI 12)) hx hb d_Model_feed_54 (by decide) ?_
  refine lv_icmp_lt (tgt := 63) hx hb d_Model_feed_56 (by decide) (fun _ => ?_) (fun c_56 => absurd (by decide) c_56)
  refine lv_iload hx hb d_Model_feed_63 (lv_at hl 1 rfl) ?_
  refine lv_bipush (v := (nI 16)) hx hb d_Model_feed_65 (by decide) ?_
  refine lv_icmp_lt (tgt := 74) hx hb d_Model_feed_67 (by decide) (fun _ => ?_) (fun c_67 => absurd (by decide) c_67)
  refine lv_aload_n hx hb d_Model_feed_74 rfl (lv_at hl 2 rfl) ?_
  refine va_get (D := (dC, dI)) (ci := 13) (v := .ref qt) (C := R_Model) (T := F_ModelS) (N := 16) hx hb ht i_ModelS hown hK hP 0 rfl rfl 1 (by decide) (ht _ v_16) (fun _ h9 => h9) rfl d_Model_feed_75 ?_
  refine lv_aload_n hx hb d_Model_feed_78 rfl (lv_at hl 2 rfl) ?_
  refine va_get (D := (dC, dI)) (ci := 13) (v := .int (nI 7)) (C := R_Model) (T := F_ModelS) (N := 16) hx hb ht i_ModelS hown hK hP 0 rfl rfl 2 (by decide) (ht _ v_17) (fun _ h9 => h9) rfl d_Model_feed_79 ?_
  refine lv_iload hx hb d_Model_feed_82 (lv_at hl 0 rfl) ?_
  refine lv_bipush (v := (nI 24)) hx hb d_Model_feed_84 (by decide) ?_
  refine lv_bipush (v := (nI 8)) hx hb d_Model_feed_86 (by decide) ?_
  refine lv_iload hx hb d_Model_feed_88 (lv_at hl 1 rfl) ?_
  refine lv_iconst (v := (nI 3)) hx hb d_Model_feed_90 (by decide) ?_
  refine lv_iand hx hb d_Model_feed_91 ?_
  refine xw_topn (nI 3) (by decide) ?_
  refine lv_imul hx hb d_Model_feed_92 ?_
  refine xw_topn (nI 24) (by decide) ?_
  refine lv_isub hx hb d_Model_feed_93 ?_
  refine xw_topn (nI 0) (by decide) ?_
  refine lv_ishr hx hb d_Model_feed_94 ?_
  refine lv_topi (fun y22 _ => ?_)
  refine lv_i2b hx hb d_Model_feed_95 rfl ?_
  refine lv_topi (fun y23 _ => ?_)
  refine xw_bast hx hb hK hP hD hS 1 0 rfl rfl (vp_in_nI (by decide) (by decide)) d_Model_feed_96 (fun f24 H locs hP hD hS => ?_)
  have hP : va_P (dC, dI) classes [(h0, .inr (13, [.int (nI 0), .ref qt, .int (nI 7), m3, m4, m5, m6, m7, m8, m9, m10, m11, m12, m13, m14, m15])), (qt, .inl (cA, 6000, .inl f24))] H := hP
  have hD : va_D A [(h0, .inr (13, [.int (nI 0), .ref qt, .int (nI 7), m3, m4, m5, m6, m7, m8, m9, m10, m11, m12, m13, m14, m15])), (qt, .inl (cA, 6000, .inl f24))] := hD
  refine lv_aload_n hx hb d_Model_feed_97 rfl (lv_at hl 2 rfl) ?_
  refine lv_dup hx hb d_Model_feed_98 rfl ?_
  refine va_get (D := (dC, dI)) (ci := 13) (v := .int (nI 7)) (C := R_Model) (T := F_ModelS) (N := 16) hx hb ht i_ModelS hown hK hP 0 rfl rfl 2 (by decide) (ht _ v_17) (fun _ h9 => h9) rfl d_Model_feed_99 ?_
  refine lv_iconst (v := (nI 1)) hx hb d_Model_feed_102 (by decide) ?_
  refine lv_iadd hx hb d_Model_feed_103 ?_
  refine xw_topn (nI 8) (by decide) ?_
  refine va_put (D := (dC, dI)) (ci := 13) (v := .int (nI 8)) (ty := .int) (C := R_Model) (T := F_ModelS) (N := 16) hx hb ht i_ModelS t_ModelS t_ModelS_ok n_ModelS hown hK hP hD hS 0 rfl rfl 2 (by decide) (ht _ v_17) (fun _ h9 => h9) rfl (by decide +kernel) rfl rfl (Nat.le_of_ble_eq_true rfl) d_Model_feed_104 (fun H locs hP hD hS => ?_)
  have hP : va_P (dC, dI) classes [(h0, .inr (13, [.int (nI 0), .ref qt, .int (nI 8), m3, m4, m5, m6, m7, m8, m9, m10, m11, m12, m13, m14, m15])), (qt, .inl (cA, 6000, .inl f24))] H := hP
  have hD : va_D A [(h0, .inr (13, [.int (nI 0), .ref qt, .int (nI 8), m3, m4, m5, m6, m7, m8, m9, m10, m11, m12, m13, m14, m15])), (qt, .inl (cA, 6000, .inl f24))] := hD
  refine lv_iinc (v := (nI 8)) (lv' := [(6, .int (nI 8)), (7, .int zb), (0, .ref h0), (1, .int za), (2, .int zb), (3, .int zc), (4, .int zd), (5, .int ze)]) hx hb d_Model_feed_107 hl (k := 1) rfl (by decide) (by decide) rfl (fun ls hl => ?_)
  refine lv_goto (tgt := 23) hx hb d_Model_feed_110 (by decide) ?_
  refine lv_iload hx hb d_Model_feed_23 (lv_at hl 0 rfl) ?_
  refine lv_bipush (v := (nI 20)) hx hb d_Model_feed_25 (by decide) ?_
  refine lv_icmp_ge (tgt := 113) hx hb d_Model_feed_27 (by decide) (fun c_27 => absurd c_27 (by decide)) (fun _ => ?_)
  refine lv_iload_n hx hb d_Model_feed_30 rfl (lv_at hl 3 rfl) ?_
  refine lv_istore (lv' := [(7, .int za), (6, .int (nI 8)), (0, .ref h0), (1, .int za), (2, .int zb), (3, .int zc), (4, .int zd), (5, .int ze)]) hx hb d_Model_feed_31 hl (by decide) rfl (fun ls hl => ?_)
  refine lv_iload hx hb d_Model_feed_33 (lv_at hl 1 rfl) ?_
  refine lv_iconst (v := (nI 4)) hx hb d_Model_feed_35 (by decide) ?_
  refine lv_icmp_lt (tgt := 42) hx hb d_Model_feed_36 (by decide) (fun c_36 => absurd c_36 (by decide)) (fun _ => ?_)
  refine lv_iload_n hx hb d_Model_feed_39 rfl (lv_at hl 4 rfl) ?_
  refine lv_istore (lv' := [(7, .int zb), (6, .int (nI 8)), (0, .ref h0), (1, .int za), (2, .int zb), (3, .int zc), (4, .int zd), (5, .int ze)]) hx hb d_Model_feed_40 hl (by decide) rfl (fun ls hl => ?_)
  refine lv_iload hx hb d_Model_feed_42 (lv_at hl 1 rfl) ?_
  refine lv_bipush (v := (nI 8)) hx hb d_Model_feed_44 (by decide) ?_
  refine lv_icmp_lt (tgt := 52) hx hb d_Model_feed_46 (by decide) (fun c_46 => absurd c_46 (by decide)) (fun _ => ?_)
  refine lv_iload_n hx hb d_Model_feed_49 rfl (lv_at hl 5 rfl) ?_
  refine lv_istore (lv' := [(7, .int zc), (6, .int (nI 8)), (0, .ref h0), (1, .int za), (2, .int zb), (3, .int zc), (4, .int zd), (5, .int ze)]) hx hb d_Model_feed_50 hl (by decide) rfl (fun ls hl => ?_)
  refine lv_iload hx hb d_Model_feed_52 (lv_at hl 1 rfl) ?_
  refine lv_bipush (v := (nI 12)) hx hb d_Model_feed_54 (by decide) ?_
  refine lv_icmp_lt (tgt := 63) hx hb d_Model_feed_56 (by decide) (fun _ => ?_) (fun c_56 => absurd (by decide) c_56)
  refine lv_iload hx hb d_Model_feed_63 (lv_at hl 1 rfl) ?_
  refine lv_bipush (v := (nI 16)) hx hb d_Model_feed_65 (by decide) ?_
  refine lv_icmp_lt (tgt := 74) hx hb d_Model_feed_67 (by decide) (fun _ => ?_) (fun c_67 => absurd (by decide) c_67)
  refine lv_aload_n hx hb d_Model_feed_74 rfl (lv_at hl 2 rfl) ?_
  refine va_get (D := (dC, dI)) (ci := 13) (v := .ref qt) (C := R_Model) (T := F_ModelS) (N := 16) hx hb ht i_ModelS hown hK hP 0 rfl rfl 1 (by decide) (ht _ v_16) (fun _ h9 => h9) rfl d_Model_feed_75 ?_
  refine lv_aload_n hx hb d_Model_feed_78 rfl (lv_at hl 2 rfl) ?_
  refine va_get (D := (dC, dI)) (ci := 13) (v := .int (nI 8)) (C := R_Model) (T := F_ModelS) (N := 16) hx hb ht i_ModelS hown hK hP 0 rfl rfl 2 (by decide) (ht _ v_17) (fun _ h9 => h9) rfl d_Model_feed_79 ?_
  refine lv_iload hx hb d_Model_feed_82 (lv_at hl 0 rfl) ?_
  refine lv_bipush (v := (nI 24)) hx hb d_Model_feed_84 (by decide) ?_
  refine lv_bipush (v := (nI 8)) hx hb d_Model_feed_86 (by decide) ?_
  refine lv_iload hx hb d_Model_feed_88 (lv_at hl 1 rfl) ?_
  refine lv_iconst (v := (nI 3)) hx hb d_Model_feed_90 (by decide) ?_
  refine lv_iand hx hb d_Model_feed_91 ?_
  refine xw_topn (nI 0) (by decide) ?_
  refine lv_imul hx hb d_Model_feed_92 ?_
  refine xw_topn (nI 0) (by decide) ?_
  refine lv_isub hx hb d_Model_feed_93 ?_
  refine xw_topn (nI 24) (by decide) ?_
  refine lv_ishr hx hb d_Model_feed_94 ?_
  refine lv_topi (fun y25 _ => ?_)
  refine lv_i2b hx hb d_Model_feed_95 rfl ?_
  refine lv_topi (fun y26 _ => ?_)
  refine xw_bast hx hb hK hP hD hS 1 0 rfl rfl (vp_in_nI (by decide) (by decide)) d_Model_feed_96 (fun f27 H locs hP hD hS => ?_)
  have hP : va_P (dC, dI) classes [(h0, .inr (13, [.int (nI 0), .ref qt, .int (nI 8), m3, m4, m5, m6, m7, m8, m9, m10, m11, m12, m13, m14, m15])), (qt, .inl (cA, 6000, .inl f27))] H := hP
  have hD : va_D A [(h0, .inr (13, [.int (nI 0), .ref qt, .int (nI 8), m3, m4, m5, m6, m7, m8, m9, m10, m11, m12, m13, m14, m15])), (qt, .inl (cA, 6000, .inl f27))] := hD
  refine lv_aload_n hx hb d_Model_feed_97 rfl (lv_at hl 2 rfl) ?_
  refine lv_dup hx hb d_Model_feed_98 rfl ?_
  refine va_get (D := (dC, dI)) (ci := 13) (v := .int (nI 8)) (C := R_Model) (T := F_ModelS) (N := 16) hx hb ht i_ModelS hown hK hP 0 rfl rfl 2 (by decide) (ht _ v_17) (fun _ h9 => h9) rfl d_Model_feed_99 ?_
  refine lv_iconst (v := (nI 1)) hx hb d_Model_feed_102 (by decide) ?_
  refine lv_iadd hx hb d_Model_feed_103 ?_
  refine xw_topn (nI 9) (by decide) ?_
  refine va_put (D := (dC, dI)) (ci := 13) (v := .int (nI 9)) (ty := .int) (C := R_Model) (T := F_ModelS) (N := 16) hx hb ht i_ModelS t_ModelS t_ModelS_ok n_ModelS hown hK hP hD hS 0 rfl rfl 2 (by decide) (ht _ v_17) (fun _ h9 => h9) rfl (by decide +kernel) rfl rfl (Nat.le_of_ble_eq_true rfl) d_Model_feed_104 (fun H locs hP hD hS => ?_)
  have hP : va_P (dC, dI) classes [(h0, .inr (13, [.int (nI 0), .ref qt, .int (nI 9), m3, m4, m5, m6, m7, m8, m9, m10, m11, m12, m13, m14, m15])), (qt, .inl (cA, 6000, .inl f27))] H := hP
  have hD : va_D A [(h0, .inr (13, [.int (nI 0), .ref qt, .int (nI 9), m3, m4, m5, m6, m7, m8, m9, m10, m11, m12, m13, m14, m15])), (qt, .inl (cA, 6000, .inl f27))] := hD
  refine lv_iinc (v := (nI 9)) (lv' := [(6, .int (nI 9)), (7, .int zc), (0, .ref h0), (1, .int za), (2, .int zb), (3, .int zc), (4, .int zd), (5, .int ze)]) hx hb d_Model_feed_107 hl (k := 1) rfl (by decide) (by decide) rfl (fun ls hl => ?_)
  refine lv_goto (tgt := 23) hx hb d_Model_feed_110 (by decide) ?_
  refine lv_iload hx hb d_Model_feed_23 (lv_at hl 0 rfl) ?_
  refine lv_bipush (v := (nI 20)) hx hb d_Model_feed_25 (by decide) ?_
  refine lv_icmp_ge (tgt := 113) hx hb d_Model_feed_27 (by decide) (fun c_27 => absurd c_27 (by decide)) (fun _ => ?_)
  refine lv_iload_n hx hb d_Model_feed_30 rfl (lv_at hl 3 rfl) ?_
  refine lv_istore (lv' := [(7, .int za), (6, .int (nI 9)), (0, .ref h0), (1, .int za), (2, .int zb), (3, .int zc), (4, .int zd), (5, .int ze)]) hx hb d_Model_feed_31 hl (by decide) rfl (fun ls hl => ?_)
  refine lv_iload hx hb d_Model_feed_33 (lv_at hl 1 rfl) ?_
  refine lv_iconst (v := (nI 4)) hx hb d_Model_feed_35 (by decide) ?_
  refine lv_icmp_lt (tgt := 42) hx hb d_Model_feed_36 (by decide) (fun c_36 => absurd c_36 (by decide)) (fun _ => ?_)
  refine lv_iload_n hx hb d_Model_feed_39 rfl (lv_at hl 4 rfl) ?_
  refine lv_istore (lv' := [(7, .int zb), (6, .int (nI 9)), (0, .ref h0), (1, .int za), (2, .int zb), (3, .int zc), (4, .int zd), (5, .int ze)]) hx hb d_Model_feed_40 hl (by decide) rfl (fun ls hl => ?_)
  refine lv_iload hx hb d_Model_feed_42 (lv_at hl 1 rfl) ?_
  refine lv_bipush (v := (nI 8)) hx hb d_Model_feed_44 (by decide) ?_
  refine lv_icmp_lt (tgt := 52) hx hb d_Model_feed_46 (by decide) (fun c_46 => absurd c_46 (by decide)) (fun _ => ?_)
  refine lv_iload_n hx hb d_Model_feed_49 rfl (lv_at hl 5 rfl) ?_
  refine lv_istore (lv' := [(7, .int zc), (6, .int (nI 9)), (0, .ref h0), (1, .int za), (2, .int zb), (3, .int zc), (4, .int zd), (5, .int ze)]) hx hb d_Model_feed_50 hl (by decide) rfl (fun ls hl => ?_)
  refine lv_iload hx hb d_Model_feed_52 (lv_at hl 1 rfl) ?_
  refine lv_bipush (v := (nI 12)) hx hb d_Model_feed_54 (by decide) ?_
  refine lv_icmp_lt (tgt := 63) hx hb d_Model_feed_56 (by decide) (fun _ => ?_) (fun c_56 => absurd (by decide) c_56)
  refine lv_iload hx hb d_Model_feed_63 (lv_at hl 1 rfl) ?_
  refine lv_bipush (v := (nI 16)) hx hb d_Model_feed_65 (by decide) ?_
  refine lv_icmp_lt (tgt := 74) hx hb d_Model_feed_67 (by decide) (fun _ => ?_) (fun c_67 => absurd (by decide) c_67)
  refine lv_aload_n hx hb d_Model_feed_74 rfl (lv_at hl 2 rfl) ?_
  refine va_get (D := (dC, dI)) (ci := 13) (v := .ref qt) (C := R_Model) (T := F_ModelS) (N := 16) hx hb ht i_ModelS hown hK hP 0 rfl rfl 1 (by decide) (ht _ v_16) (fun _ h9 => h9) rfl d_Model_feed_75 ?_
  refine lv_aload_n hx hb d_Model_feed_78 rfl (lv_at hl 2 rfl) ?_
  refine va_get (D := (dC, dI)) (ci := 13) (v := .int (nI 9)) (C := R_Model) (T := F_ModelS) (N := 16) hx hb ht i_ModelS hown hK hP 0 rfl rfl 2 (by decide) (ht _ v_17) (fun _ h9 => h9) rfl d_Model_feed_79 ?_
  refine lv_iload hx hb d_Model_feed_82 (lv_at hl 0 rfl) ?_
  refine lv_bipush (v := (nI 24)) hx hb d_Model_feed_84 (by decide) ?_
  refine lv_bipush (v := (nI 8)) hx hb d_Model_feed_86 (by decide) ?_
  refine lv_iload hx hb d_Model_feed_88 (lv_at hl 1 rfl) ?_
  refine lv_iconst (v := (nI 3)) hx hb d_Model_feed_90 (by decide) ?_
  refine lv_iand hx hb d_Model_feed_91 ?_
  refine xw_topn (nI 1) (by decide) ?_
  refine lv_imul hx hb d_Model_feed_92 ?_
  refine xw_topn (nI 8) (by decide) ?_
  refine lv_isub hx hb d_Model_feed_93 ?_
  refine xw_topn (nI 16) (by decide) ?_
  refine lv_ishr hx hb d_Model_feed_94 ?_
  refine lv_topi (fun y28 _ => ?_)
  refine lv_i2b hx hb d_Model_feed_95 rfl ?_
  refine lv_topi (fun y29 _ => ?_)
  refine xw_bast hx hb hK hP hD hS 1 0 rfl rfl (vp_in_nI (by decide) (by decide)) d_Model_feed_96 (fun f30 H locs hP hD hS => ?_)
  have hP : va_P (dC, dI) classes [(h0, .inr (13, [.int (nI 0), .ref qt, .int (nI 9), m3, m4, m5, m6, m7, m8, m9, m10, m11, m12, m13, m14, m15])), (qt, .inl (cA, 6000, .inl f30))] H := hP
  have hD : va_D A [(h0, .inr (13, [.int (nI 0), .ref qt, .int (nI 9), m3, m4, m5, m6, m7, m8, m9, m10, m11, m12, m13, m14, m15])), (qt, .inl (cA, 6000, .inl f30))] := hD
  refine lv_aload_n hx hb d_Model_feed_97 rfl (lv_at hl 2 rfl) ?_
  refine lv_dup hx hb d_Model_feed_98 rfl ?_
  refine va_get (D := (dC, dI)) (ci := 13) (v := .int (nI 9)) (C := R_Model) (T := F_ModelS) (N := 16) hx hb ht i_ModelS hown hK hP 0 rfl rfl 2 (by decide) (ht _ v_17) (fun _ h9 => h9) rfl d_Model_feed_99 ?_
  refine lv_iconst (v := (nI 1)) hx hb d_Model_feed_102 (by decide) ?_
  refine lv_iadd hx hb d_Model_feed_103 ?_
  refine xw_topn (nI 10) (by decide) ?_
  refine va_put (D := (dC, dI)) (ci := 13) (v := .int (nI 10)) (ty := .int) (C := R_Model) (T := F_ModelS) (N := 16) hx hb ht i_ModelS t_ModelS t_ModelS_ok n_ModelS hown hK hP hD hS 0 rfl rfl 2 (by decide) (ht _ v_17) (fun _ h9 => h9) rfl (by decide +kernel) rfl rfl (Nat.le_of_ble_eq_true rfl) d_Model_feed_104 (fun H locs hP hD hS => ?_)
  have hP : va_P (dC, dI) classes [(h0, .inr (13, [.int (nI 0), .ref qt, .int (nI 10), m3, m4, m5, m6, m7, m8, m9, m10, m11, m12, m13, m14, m15])), (qt, .inl (cA, 6000, .inl f30))] H := hP
  have hD : va_D A [(h0, .inr (13, [.int (nI 0), .ref qt, .int (nI 10), m3, m4, m5, m6, m7, m8, m9, m10, m11, m12, m13, m14, m15])), (qt, .inl (cA, 6000, .inl f30))] := hD
  refine lv_iinc (v := (nI 10)) (lv' := [(6, .int (nI 10)), (7, .int zc), (0, .ref h0), (1, .int za), (2, .int zb), (3, .int zc), (4, .int zd), (5, .int ze)]) hx hb d_Model_feed_107 hl (k := 1) rfl (by decide) (by decide) rfl (fun ls hl => ?_)
  refine lv_goto (tgt := 23) hx hb d_Model_feed_110 (by decide) ?_
  refine lv_iload hx hb d_Model_feed_23 (lv_at hl 0 rfl) ?_
  refine lv_bipush (v := (nI 20)) hx hb d_Model_feed_25 (by decide) ?_
  refine lv_icmp_ge (tgt := 113) hx hb d_Model_feed_27 (by decide) (fun c_27 => absurd c_27 (by decide)) (fun _ => ?_)
  refine lv_iload_n hx hb d_Model_feed_30 rfl (lv_at hl 3 rfl) ?_
  refine lv_istore (lv' := [(7, .int za), (6, .int (nI 10)), (0, .ref h0), (1, .int za), (2, .int zb), (3, .int zc), (4, .int zd), (5, .int ze)]) hx hb d_Model_feed_31 hl (by decide) rfl (fun ls hl => ?_)
  refine lv_iload hx hb d_Model_feed_33 (lv_at hl 1 rfl) ?_
  refine lv_iconst (v := (nI 4)) hx hb d_Model_feed_35 (by decide) ?_
  refine lv_icmp_lt (tgt := 42) hx hb d_Model_feed_36 (by decide) (fun c_36 => absurd c_36 (by decide)) (fun _ => ?_)
  refine lv_iload_n hx hb d_Model_feed_39 rfl (lv_at hl 4 rfl) ?_
  refine lv_istore (lv' := [(7, .int zb), (6, .int (nI 10)), (0, .ref h0), (1, .int za), (2, .int zb), (3, .int zc), (4, .int zd), (5, .int ze)]) hx hb d_Model_feed_40 hl (by decide) rfl (fun ls hl => ?_)
  refine lv_iload hx hb d_Model_feed_42 (lv_at hl 1 rfl) ?_
  refine lv_bipush (v := (nI 8)) hx hb d_Model_feed_44 (by decide) ?_
  refine lv_icmp_lt (tgt := 52) hx hb d_Model_feed_46 (by decide) (fun c_46 => absurd c_46 (by decide)) (fun _ => ?_)
  refine lv_iload_n hx hb d_Model_feed_49 rfl (lv_at hl 5 rfl) ?_
  refine lv_istore (lv' := [(7, .int zc), (6, .int (nI 10)), (0, .ref h0), (1, .int za), (2, .int zb), (3, .int zc), (4, .int zd), (5, .int ze)]) hx hb d_Model_feed_50 hl (by decide) rfl (fun ls hl => ?_)
  refine lv_iload hx hb d_Model_feed_52 (lv_at hl 1 rfl) ?_
  refine lv_bipush (v := (nI 12)) hx hb d_Model_feed_54 (by decide) ?_
  refine lv_icmp_lt (tgt := 63) hx hb d_Model_feed_56 (by decide) (fun _ => ?_) (fun c_56 => absurd (by decide) c_56)
  refine lv_iload hx hb d_Model_feed_63 (lv_at hl 1 rfl) ?_
  refine lv_bipush (v := (nI 16)) hx hb d_Model_feed_65 (by decide) ?_
  refine lv_icmp_lt (tgt := 74) hx hb d_Model_feed_67 (by decide) (fun _ => ?_) (fun c_67 => absurd (by decide) c_67)
  refine lv_aload_n hx hb d_Model_feed_74 rfl (lv_at hl 2 rfl) ?_
  refine va_get (D := (dC, dI)) (ci := 13) (v := .ref qt) (C := R_Model) (T := F_ModelS) (N := 16) hx hb ht i_ModelS hown hK hP 0 rfl rfl 1 (by decide) (ht _ v_16) (fun _ h9 => h9) rfl d_Model_feed_75 ?_
  refine lv_aload_n hx hb d_Model_feed_78 rfl (lv_at hl 2 rfl) ?_
  refine va_get (D := (dC, dI)) (ci := 13) (v := .int (nI 10)) (C := R_Model) (T := F_ModelS) (N := 16) hx hb ht i_ModelS hown hK hP 0 rfl rfl 2 (by decide) (ht _ v_17) (fun _ h9 => h9) rfl d_Model_feed_79 ?_
  refine lv_iload hx hb d_Model_feed_82 (lv_at hl 0 rfl) ?_
  refine lv_bipush (v := (nI 24)) hx hb d_Model_feed_84 (by decide) ?_
  refine lv_bipush (v := (nI 8)) hx hb d_Model_feed_86 (by decide) ?_
  refine lv_iload hx hb d_Model_feed_88 (lv_at hl 1 rfl) ?_
  refine lv_iconst (v := (nI 3)) hx hb d_Model_feed_90 (by decide) ?_
  refine lv_iand hx hb d_Model_feed_91 ?_
  refine xw_topn (nI 2) (by decide) ?_
  refine lv_imul hx hb d_Model_feed_92 ?_
  refine xw_topn (nI 16) (by decide) ?_
  refine lv_isub hx hb d_Model_feed_93 ?_
  refine xw_topn (nI 8) (by decide) ?_
  refine lv_ishr hx hb d_Model_feed_94 ?_
  refine lv_topi (fun y31 _ => ?_)
  refine lv_i2b hx hb d_Model_feed_95 rfl ?_
  refine lv_topi (fun y32 _ => ?_)
  refine xw_bast hx hb hK hP hD hS 1 0 rfl rfl (vp_in_nI (by decide) (by decide)) d_Model_feed_96 (fun f33 H locs hP hD hS => ?_)
  have hP : va_P (dC, dI) classes [(h0, .inr (13, [.int (nI 0), .ref qt, .int (nI 10), m3, m4, m5, m6, m7, m8, m9, m10, m11, m12, m13, m14, m15])), (qt, .inl (cA, 6000, .inl f33))] H := hP
  have hD : va_D A [(h0, .inr (13, [.int (nI 0), .ref qt, .int (nI 10), m3, m4, m5, m6, m7, m8, m9, m10, m11, m12, m13, m14, m15])), (qt, .inl (cA, 6000, .inl f33))] := hD
  refine lv_aload_n hx hb d_Model_feed_97 rfl (lv_at hl 2 rfl) ?_
  refine lv_dup hx hb d_Model_feed_98 rfl ?_
  refine va_get (D := (dC, dI)) (ci := 13) (v := .int (nI 10)) (C := R_Model) (T := F_ModelS) (N := 16) hx hb ht i_ModelS hown hK hP 0 rfl rfl 2 (by decide) (ht _ v_17) (fun _ h9 => h9) rfl d_Model_feed_99 ?_
  refine lv_iconst (v := (nI 1)) hx hb d_Model_feed_102 (by decide) ?_
  refine lv_iadd hx hb d_Model_feed_103 ?_
  refine xw_topn (nI 11) (by decide) ?_
  refine va_put (D := (dC, dI)) (ci := 13) (v := .int (nI 11)) (ty := .int) (C := R_Model) (T := F_ModelS) (N := 16) hx hb ht i_ModelS t_ModelS t_ModelS_ok n_ModelS hown hK hP hD hS 0 rfl rfl 2 (by decide) (ht _ v_17) (fun _ h9 => h9) rfl (by decide +kernel) rfl rfl (Nat.le_of_ble_eq_true rfl) d_Model_feed_104 (fun H locs hP hD hS => ?_)
  have hP : va_P (dC, dI) classes [(h0, .inr (13, [.int (nI 0), .ref qt, .int (nI 11), m3, m4, m5, m6, m7, m8, m9, m10, m11, m12, m13, m14, m15])), (qt, .inl (cA, 6000, .inl f33))] H := hP
  have hD : va_D A [(h0, .inr (13, [.int (nI 0), .ref qt, .int (nI 11), m3, m4, m5, m6, m7, m8, m9, m10, m11, m12, m13, m14, m15])), (qt, .inl (cA, 6000, .inl f33))] := hD
  refine lv_iinc (v := (nI 11)) (lv' := [(6, .int (nI 11)), (7, .int zc), (0, .ref h0), (1, .int za), (2, .int zb), (3, .int zc), (4, .int zd), (5, .int ze)]) hx hb d_Model_feed_107 hl (k := 1) rfl (by decide) (by decide) rfl (fun ls hl => ?_)
  refine lv_goto (tgt := 23) hx hb d_Model_feed_110 (by decide) ?_
  refine lv_iload hx hb d_Model_feed_23 (lv_at hl 0 rfl) ?_
  refine lv_bipush (v := (nI 20)) hx hb d_Model_feed_25 (by decide) ?_
  refine lv_icmp_ge (tgt := 113) hx hb d_Model_feed_27 (by decide) (fun c_27 => absurd c_27 (by decide)) (fun _ => ?_)
  refine lv_iload_n hx hb d_Model_feed_30 rfl (lv_at hl 3 rfl) ?_
  refine lv_istore (lv' := [(7, .int za), (6, .int (nI 11)), (0, .ref h0), (1, .int za), (2, .int zb), (3, .int zc), (4, .int zd), (5, .int ze)]) hx hb d_Model_feed_31 hl (by decide) rfl (fun ls hl => ?_)
  refine lv_iload hx hb d_Model_feed_33 (lv_at hl 1 rfl) ?_
  refine lv_iconst (v := (nI 4)) hx hb d_Model_feed_35 (by decide) ?_
  refine lv_icmp_lt (tgt := 42) hx hb d_Model_feed_36 (by decide) (fun c_36 => absurd c_36 (by decide)) (fun _ => ?_)
  refine lv_iload_n hx hb d_Model_feed_39 rfl (lv_at hl 4 rfl) ?_
  refine lv_istore (lv' := [(7, .int zb), (6, .int (nI 11)), (0, .ref h0), (1, .int za), (2, .int zb), (3, .int zc), (4, .int zd), (5, .int ze)]) hx hb d_Model_feed_40 hl (by decide) rfl (fun ls hl => ?_)
  refine lv_iload hx hb d_Model_feed_42 (lv_at hl 1 rfl) ?_
  refine lv_bipush (v := (nI 8)) hx hb d_Model_feed_44 (by decide) ?_
  refine lv_icmp_lt (tgt := 52) hx hb d_Model_feed_46 (by decide) (fun c_46 => absurd c_46 (by decide)) (fun _ => ?_)
  refine lv_iload_n hx hb d_Model_feed_49 rfl (lv_at hl 5 rfl) ?_
  refine lv_istore (lv' := [(7, .int zc), (6, .int (nI 11)), (0, .ref h0), (1, .int za), (2, .int zb), (3, .int zc), (4, .int zd), (5, .int ze)]) hx hb d_Model_feed_50 hl (by decide) rfl (fun ls hl => ?_)
  refine lv_iload hx hb d_Model_feed_52 (lv_at hl 1 rfl) ?_
  refine lv_bipush (v := (nI 12)) hx hb d_Model_feed_54 (by decide) ?_
  refine lv_icmp_lt (tgt := 63) hx hb d_Model_feed_56 (by decide) (fun _ => ?_) (fun c_56 => absurd (by decide) c_56)
  refine lv_iload hx hb d_Model_feed_63 (lv_at hl 1 rfl) ?_
  refine lv_bipush (v := (nI 16)) hx hb d_Model_feed_65 (by decide) ?_
  refine lv_icmp_lt (tgt := 74) hx hb d_Model_feed_67 (by decide) (fun _ => ?_) (fun c_67 => absurd (by decide) c_67)
  refine lv_aload_n hx hb d_Model_feed_74 rfl (lv_at hl 2 rfl) ?_
  refine va_get (D := (dC, dI)) (ci := 13) (v := .ref qt) (C := R_Model) (T := F_ModelS) (N := 16) hx hb ht i_ModelS hown hK hP 0 rfl rfl 1 (by decide) (ht _ v_16) (fun _ h9 => h9) rfl d_Model_feed_75 ?_
  refine lv_aload_n hx hb d_Model_feed_78 rfl (lv_at hl 2 rfl) ?_
  refine va_get (D := (dC, dI)) (ci := 13) (v := .int (nI 11)) (C := R_Model) (T := F_ModelS) (N := 16) hx hb ht i_ModelS hown hK hP 0 rfl rfl 2 (by decide) (ht _ v_17) (fun _ h9 => h9) rfl d_Model_feed_79 ?_
  refine lv_iload hx hb d_Model_feed_82 (lv_at hl 0 rfl) ?_
  refine lv_bipush (v := (nI 24)) hx hb d_Model_feed_84 (by decide) ?_
  refine lv_bipush (v := (nI 8)) hx hb d_Model_feed_86 (by decide) ?_
  refine lv_iload hx hb d_Model_feed_88 (lv_at hl 1 rfl) ?_
  refine lv_iconst (v := (nI 3)) hx hb d_Model_feed_90 (by decide) ?_
  refine lv_iand hx hb d_Model_feed_91 ?_
  refine xw_topn (nI 3) (by decide) ?_
  refine lv_imul hx hb d_Model_feed_92 ?_
  refine xw_topn (nI 24) (by decide) ?_
  refine lv_isub hx hb d_Model_feed_93 ?_
  refine xw_topn (nI 0) (by decide) ?_
  refine lv_ishr hx hb d_Model_feed_94 ?_
  refine lv_topi (fun y34 _ => ?_)
  refine lv_i2b hx hb d_Model_feed_95 rfl ?_
  refine lv_topi (fun y35 _ => ?_)
  refine xw_bast hx hb hK hP hD hS 1 0 rfl rfl (vp_in_nI (by decide) (by decide)) d_Model_feed_96 (fun f36 H locs hP hD hS => ?_)
  have hP : va_P (dC, dI) classes [(h0, .inr (13, [.int (nI 0), .ref qt, .int (nI 11), m3, m4, m5, m6, m7, m8, m9, m10, m11, m12, m13, m14, m15])), (qt, .inl (cA, 6000, .inl f36))] H := hP
  have hD : va_D A [(h0, .inr (13, [.int (nI 0), .ref qt, .int (nI 11), m3, m4, m5, m6, m7, m8, m9, m10, m11, m12, m13, m14, m15])), (qt, .inl (cA, 6000, .inl f36))] := hD
  refine lv_aload_n hx hb d_Model_feed_97 rfl (lv_at hl 2 rfl) ?_
  refine lv_dup hx hb d_Model_feed_98 rfl ?_
  refine va_get (D := (dC, dI)) (ci := 13) (v := .int (nI 11)) (C := R_Model) (T := F_ModelS) (N := 16) hx hb ht i_ModelS hown hK hP 0 rfl rfl 2 (by decide) (ht _ v_17) (fun _ h9 => h9) rfl d_Model_feed_99 ?_
  refine lv_iconst (v := (nI 1)) hx hb d_Model_feed_102 (by decide) ?_
  refine lv_iadd hx hb d_Model_feed_103 ?_
  refine xw_topn (nI 12) (by decide) ?_
  refine va_put (D := (dC, dI)) (ci := 13) (v := .int (nI 12)) (ty := .int) (C := R_Model) (T := F_ModelS) (N := 16) hx hb ht i_ModelS t_ModelS t_ModelS_ok n_ModelS hown hK hP hD hS 0 rfl rfl 2 (by decide) (ht _ v_17) (fun _ h9 => h9) rfl (by decide +kernel) rfl rfl (Nat.le_of_ble_eq_true rfl) d_Model_feed_104 (fun H locs hP hD hS => ?_)
  have hP : va_P (dC, dI) classes [(h0, .inr (13, [.int (nI 0), .ref qt, .int (nI 12), m3, m4, m5, m6, m7, m8, m9, m10, m11, m12, m13, m14, m15])), (qt, .inl (cA, 6000, .inl f36))] H := hP
  have hD : va_D A [(h0, .inr (13, [.int (nI 0), .ref qt, .int (nI 12), m3, m4, m5, m6, m7, m8, m9, m10, m11, m12, m13, m14, m15])), (qt, .inl (cA, 6000, .inl f36))] := hD
  refine lv_iinc (v := (nI 12)) (lv' := [(6, .int (nI 12)), (7, .int zc), (0, .ref h0), (1, .int za), (2, .int zb), (3, .int zc), (4, .int zd), (5, .int ze)]) hx hb d_Model_feed_107 hl (k := 1) rfl (by decide) (by decide) rfl (fun ls hl => ?_)
  refine lv_goto (tgt := 23) hx hb d_Model_feed_110 (by decide) ?_
  refine lv_iload hx hb d_Model_feed_23 (lv_at hl 0 rfl) ?_
  refine lv_bipush (v := (nI 20)) hx hb d_Model_feed_25 (by decide) ?_
  refine lv_icmp_ge (tgt := 113) hx hb d_Model_feed_27 (by decide) (fun c_27 => absurd c_27 (by decide)) (fun _ => ?_)
  refine lv_iload_n hx hb d_Model_feed_30 rfl (lv_at hl 3 rfl) ?_
  refine lv_istore (lv' := [(7, .int za), (6, .int (nI 12)), (0, .ref h0), (1, .int za), (2, .int zb), (3, .int zc), (4, .int zd), (5, .int ze)]) hx hb d_Model_feed_31 hl (by decide) rfl (fun ls hl => ?_)
  refine lv_iload hx hb d_Model_feed_33 (lv_at hl 1 rfl) ?_
  refine lv_iconst (v := (nI 4)) hx hb d_Model_feed_35 (by decide) ?_
  refine lv_icmp_lt (tgt := 42) hx hb d_Model_feed_36 (by decide) (fun c_36 => absurd c_36 (by decide)) (fun _ => ?_)
  refine lv_iload_n hx hb d_Model_feed_39 rfl (lv_at hl 4 rfl) ?_
  refine lv_istore (lv' := [(7, .int zb), (6, .int (nI 12)), (0, .ref h0), (1, .int za), (2, .int zb), (3, .int zc), (4, .int zd), (5, .int ze)]) hx hb d_Model_feed_40 hl (by decide) rfl (fun ls hl => ?_)
  refine lv_iload hx hb d_Model_feed_42 (lv_at hl 1 rfl) ?_
  refine lv_bipush (v := (nI 8)) hx hb d_Model_feed_44 (by decide) ?_
  refine lv_icmp_lt (tgt := 52) hx hb d_Model_feed_46 (by decide) (fun c_46 => absurd c_46 (by decide)) (fun _ => ?_)
  refine lv_iload_n hx hb d_Model_feed_49 rfl (lv_at hl 5 rfl) ?_
  refine lv_istore (lv' := [(7, .int zc), (6, .int (nI 12)), (0, .ref h0), (1, .int za), (2, .int zb), (3, .int zc), (4, .int zd), (5, .int ze)]) hx hb d_Model_feed_50 hl (by decide) rfl (fun ls hl => ?_)
  refine lv_iload hx hb d_Model_feed_52 (lv_at hl 1 rfl) ?_
  refine lv_bipush (v := (nI 12)) hx hb d_Model_feed_54 (by decide) ?_
  refine lv_icmp_lt (tgt := 63) hx hb d_Model_feed_56 (by decide) (fun c_56 => absurd c_56 (by decide)) (fun _ => ?_)
  refine lv_iload hx hb d_Model_feed_59 (lv_at hl 6 rfl) ?_
  refine lv_istore (lv' := [(7, .int zd), (6, .int (nI 12)), (0, .ref h0), (1, .int za), (2, .int zb), (3, .int zc), (4, .int zd), (5, .int ze)]) hx hb d_Model_feed_61 hl (by decide) rfl (fun ls hl => ?_)
  refine lv_iload hx hb d_Model_feed_63 (lv_at hl 1 rfl) ?_
  refine lv_bipush (v := (nI 16)) hx hb d_Model_feed_65 (by decide) ?_
  refine lv_icmp_lt (tgt := 74) hx hb d_Model_feed_67 (by decide) (fun _ => ?_) (fun c_67 => absurd (by decide) c_67)
  refine lv_aload_n hx hb d_Model_feed_74 rfl (lv_at hl 2 rfl) ?_
  refine va_get (D := (dC, dI)) (ci := 13) (v := .ref qt) (C := R_Model) (T := F_ModelS) (N := 16) hx hb ht i_ModelS hown hK hP 0 rfl rfl 1 (by decide) (ht _ v_16) (fun _ h9 => h9) rfl d_Model_feed_75 ?_
  refine lv_aload_n hx hb d_Model_feed_78 rfl (lv_at hl 2 rfl) ?_
  refine va_get (D := (dC, dI)) (ci := 13) (v := .int (nI 12)) (C := R_Model) (T := F_ModelS) (N := 16) hx hb ht i_ModelS hown hK hP 0 rfl rfl 2 (by decide) (ht _ v_17) (fun _ h9 => h9) rfl d_Model_feed_79 ?_
  refine lv_iload hx hb d_Model_feed_82 (lv_at hl 0 rfl) ?_
  refine lv_bipush (v := (nI 24)) hx hb d_Model_feed_84 (by decide) ?_
  refine lv_bipush (v := (nI 8)) hx hb d_Model_feed_86 (by decide) ?_
  refine lv_iload hx hb d_Model_feed_88 (lv_at hl 1 rfl) ?_
  refine lv_iconst (v := (nI 3)) hx hb d_Model_feed_90 (by decide) ?_
  refine lv_iand hx hb d_Model_feed_91 ?_
  refine xw_topn (nI 0) (by decide) ?_
  refine lv_imul hx hb d_Model_feed_92 ?_
  refine xw_topn (nI 0) (by decide) ?_
  refine lv_isub hx hb d_Model_feed_93 ?_
  refine xw_topn (nI 24) (by decide) ?_
  refine lv_ishr hx hb d_Model_feed_94 ?_
  refine lv_topi (fun y37 _ => ?_)
  refine lv_i2b hx hb d_Model_feed_95 rfl ?_
  refine lv_topi (fun y38 _ => ?_)
  refine xw_bast hx hb hK hP hD hS 1 0 rfl rfl (vp_in_nI (by decide) (by decide)) d_Model_feed_96 (fun f39 H locs hP hD hS => ?_)
  have hP : va_P (dC, dI) classes [(h0, .inr (13, [.int (nI 0), .ref qt, .int (nI 12), m3, m4, m5, m6, m7, m8, m9, m10, m11, m12, m13, m14, m15])), (qt, .inl (cA, 6000, .inl f39))] H := hP
  have hD : va_D A [(h0, .inr (13, [.int (nI 0), .ref qt, .int (nI 12), m3, m4, m5, m6, m7, m8, m9, m10, m11, m12, m13, m14, m15])), (qt, .inl (cA, 6000, .inl f39))] := hD
  refine lv_aload_n hx hb d_Model_feed_97 rfl (lv_at hl 2 rfl) ?_
  refine lv_dup hx hb d_Model_feed_98 rfl ?_
  refine va_get (D := (dC, dI)) (ci := 13) (v := .int (nI 12)) (C := R_Model) (T := F_ModelS) (N := 16) hx hb ht i_ModelS hown hK hP 0 rfl rfl 2 (by decide) (ht _ v_17) (fun _ h9 => h9) rfl d_Model_feed_99 ?_
  refine lv_iconst (v := (nI 1)) hx hb d_Model_feed_102 (by decide) ?_
  refine lv_iadd hx hb d_Model_feed_103 ?_
  refine xw_topn (nI 13) (by decide) ?_
  refine va_put (D := (dC, dI)) (ci := 13) (v := .int (nI 13)) (ty := .int) (C := R_Model) (T := F_ModelS) (N := 16) hx hb ht i_ModelS t_ModelS t_ModelS_ok n_ModelS hown hK hP hD hS 0 rfl rfl 2 (by decide) (ht _ v_17) (fun _ h9 => h9) rfl (by decide +kernel) rfl rfl (Nat.le_of_ble_eq_true rfl) d_Model_feed_104 (fun H locs hP hD hS => ?_)
  have hP : va_P (dC, dI) classes [(h0, .inr (13, [.int (nI 0), .ref qt, .int (nI 13), m3, m4, m5, m6, m7, m8, m9, m10, m11, m12, m13, m14, m15])), (qt, .inl (cA, 6000, .inl f39))] H := hP
  have hD : va_D A [(h0, .inr (13, [.int (nI 0), .ref qt, .int (nI 13), m3, m4, m5, m6, m7, m8, m9, m10, m11, m12, m13, m14, m15])), (qt, .inl (cA, 6000, .inl f39))] := hD
  refine lv_iinc (v := (nI 13)) (lv' := [(6, .int (nI 13)), (7, .int zd), (0, .ref h0), (1, .int za), (2, .int zb), (3, .int zc), (4, .int zd), (5, .int ze)]) hx hb d_Model_feed_107 hl (k := 1) rfl (by decide) (by decide) rfl (fun ls hl => ?_)
  refine lv_goto (tgt := 23) hx hb d_Model_feed_110 (by decide) ?_
  refine lv_iload hx hb d_Model_feed_23 (lv_at hl 0 rfl) ?_
  refine lv_bipush (v := (nI 20)) hx hb d_Model_feed_25 (by decide) ?_
  refine lv_icmp_ge (tgt := 113) hx hb d_Model_feed_27 (by decide) (fun c_27 => absurd c_27 (by decide)) (fun _ => ?_)
  refine lv_iload_n hx hb d_Model_feed_30 rfl (lv_at hl 3 rfl) ?_
  refine lv_istore (lv' := [(7, .int za), (6, .int (nI 13)), (0, .ref h0), (1, .int za), (2, .int zb), (3, .int zc), (4, .int zd), (5, .int ze)]) hx hb d_Model_feed_31 hl (by decide) rfl (fun ls hl => ?_)
  refine lv_iload hx hb d_Model_feed_33 (lv_at hl 1 rfl) ?_
  refine lv_iconst (v := (nI 4)) hx hb d_Model_feed_35 (by decide) ?_
  refine lv_icmp_lt (tgt := 42) hx hb d_Model_feed_36 (by decide) (fun c_36 => absurd c_36 (by decide)) (fun _ => ?_)
  refine lv_iload_n hx hb d_Model_feed_39 rfl (lv_at hl 4 rfl) ?_
  refine lv_istore (lv' := [(7, .int zb), (6, .int (nI 13)), (0, .ref h0), (1, .int za), (2, .int zb), (3, .int zc), (4, .int zd), (5, .int ze)]) hx hb d_Model_feed_40 hl (by decide) rfl (fun ls hl => ?_)
  refine lv_iload hx hb d_Model_feed_42 (lv_at hl 1 rfl) ?_
  refine lv_bipush (v := (nI 8)) hx hb d_Model_feed_44 (by decide) ?_
  refine lv_icmp_lt (tgt := 52) hx hb d_Model_feed_46 (by decide) (fun c_46 => absurd c_46 (by decide)) (fun _ => ?_)
  refine lv_iload_n hx hb d_Model_feed_49 rfl (lv_at hl 5 rfl) ?_
  refine lv_istore (lv' := [(7, .int zc), (6, .int (nI 13)), (0, .ref h0), (1, .int za), (2, .int zb), (3, .int zc), (4, .int zd), (5, .int ze)]) hx hb d_Model_feed_50 hl (by decide) rfl (fun ls hl => ?_)
  refine lv_iload hx hb d_Model_feed_52 (lv_at hl 1 rfl) ?_
  refine lv_bipush (v := (nI 12)) hx hb d_Model_feed_54 (by decide) ?_
  refine lv_icmp_lt (tgt := 63) hx hb d_Model_feed_56 (by decide) (fun c_56 => absurd c_56 (by decide)) (fun _ => ?_)
  refine lv_iload hx hb d_Model_feed_59 (lv_at hl 6 rfl) ?_
  refine lv_istore (lv' := [(7, .int zd), (6, .int (nI 13)), (0, .ref h0), (1, .int za), (2, .int zb), (3, .int zc), (4, .int zd), (5, .int ze)]) hx hb d_Model_feed_61 hl (by decide) rfl (fun ls hl => ?_)
  refine lv_iload hx hb d_Model_feed_63 (lv_at hl 1 rfl) ?_
  refine lv_bipush (v := (nI 16)) hx hb d_Model_feed_65 (by decide) ?_
  refine lv_icmp_lt (tgt := 74) hx hb d_Model_feed_67 (by decide) (fun _ => ?_) (fun c_67 => absurd (by decide) c_67)
  refine lv_aload_n hx hb d_Model_feed_74 rfl (lv_at hl 2 rfl) ?_
  refine va_get (D := (dC, dI)) (ci := 13) (v := .ref qt) (C := R_Model) (T := F_ModelS) (N := 16) hx hb ht i_ModelS hown hK hP 0 rfl rfl 1 (by decide) (ht _ v_16) (fun _ h9 => h9) rfl d_Model_feed_75 ?_
  refine lv_aload_n hx hb d_Model_feed_78 rfl (lv_at hl 2 rfl) ?_
  refine va_get (D := (dC, dI)) (ci := 13) (v := .int (nI 13)) (C := R_Model) (T := F_ModelS) (N := 16) hx hb ht i_ModelS hown hK hP 0 rfl rfl 2 (by decide) (ht _ v_17) (fun _ h9 => h9) rfl d_Model_feed_79 ?_
  refine lv_iload hx hb d_Model_feed_82 (lv_at hl 0 rfl) ?_
  refine lv_bipush (v := (nI 24)) hx hb d_Model_feed_84 (by decide) ?_
  refine lv_bipush (v := (nI 8)) hx hb d_Model_feed_86 (by decide) ?_
  refine lv_iload hx hb d_Model_feed_88 (lv_at hl 1 rfl) ?_
  refine lv_iconst (v := (nI 3)) hx hb d_Model_feed_90 (by decide) ?_
  refine lv_iand hx hb d_Model_feed_91 ?_
  refine xw_topn (nI 1) (by decide) ?_
  refine lv_imul hx hb d_Model_feed_92 ?_
  refine xw_topn (nI 8) (by decide) ?_
  refine lv_isub hx hb d_Model_feed_93 ?_
  refine xw_topn (nI 16) (by decide) ?_
  refine lv_ishr hx hb d_Model_feed_94 ?_
  refine lv_topi (fun y40 _ => ?_)
  refine lv_i2b hx hb d_Model_feed_95 rfl ?_
  refine lv_topi (fun y41 _ => ?_)
  refine xw_bast hx hb hK hP hD hS 1 0 rfl rfl (vp_in_nI (by decide) (by decide)) d_Model_feed_96 (fun f42 H locs hP hD hS => ?_)
  have hP : va_P (dC, dI) classes [(h0, .inr (13, [.int (nI 0), .ref qt, .int (nI 13), m3, m4, m5, m6, m7, m8, m9, m10, m11, m12, m13, m14, m15])), (qt, .inl (cA, 6000, .inl f42))] H := hP
  have hD : va_D A [(h0, .inr (13, [.int (nI 0), .ref qt, .int (nI 13), m3, m4, m5, m6, m7, m8, m9, m10, m11, m12, m13, m14, m15])), (qt, .inl (cA, 6000, .inl f42))] := hD
  refine lv_aload_n hx hb d_Model_feed_97 rfl (lv_at hl 2 rfl) ?_
  refine lv_dup hx hb d_Model_feed_98 rfl ?_
  refine va_get (D := (dC, dI)) (ci := 13) (v := .int (nI 13)) (C := R_Model) (T := F_ModelS) (N := 16) hx hb ht i_ModelS hown hK hP 0 rfl rfl 2 (by decide) (ht _ v_17) (fun _ h9 => h9) rfl d_Model_feed_99 ?_
  refine lv_iconst (v := (nI 1)) hx hb d_Model_feed_102 (by decide) ?_
  refine lv_iadd hx hb d_Model_feed_103 ?_
  refine xw_topn (nI 14) (by decide) ?_
  refine va_put (D := (dC, dI)) (ci := 13) (v := .int (nI 14)) (ty := .int) (C := R_Model) (T := F_ModelS) (N := 16) hx hb ht i_ModelS t_ModelS t_ModelS_ok n_ModelS hown hK hP hD hS 0 rfl rfl 2 (by decide) (ht _ v_17) (fun _ h9 => h9) rfl (by decide +kernel) rfl rfl (Nat.le_of_ble_eq_true rfl) d_Model_feed_104 (fun H locs hP hD hS => ?_)
  have hP : va_P (dC, dI) classes [(h0, .inr (13, [.int (nI 0), .ref qt, .int (nI 14), m3, m4, m5, m6, m7, m8, m9, m10, m11, m12, m13, m14, m15])), (qt, .inl (cA, 6000, .inl f42))] H := hP
  have hD : va_D A [(h0, .inr (13, [.int (nI 0), .ref qt, .int (nI 14), m3, m4, m5, m6, m7, m8, m9, m10, m11, m12, m13, m14, m15])), (qt, .inl (cA, 6000, .inl f42))] := hD
  refine lv_iinc (v := (nI 14)) (lv' := [(6, .int (nI 14)), (7, .int zd), (0, .ref h0), (1, .int za), (2, .int zb), (3, .int zc), (4, .int zd), (5, .int ze)]) hx hb d_Model_feed_107 hl (k := 1) rfl (by decide) (by decide) rfl (fun ls hl => ?_)
  refine lv_goto (tgt := 23) hx hb d_Model_feed_110 (by decide) ?_
  refine lv_iload hx hb d_Model_feed_23 (lv_at hl 0 rfl) ?_
  refine lv_bipush (v := (nI 20)) hx hb d_Model_feed_25 (by decide) ?_
  refine lv_icmp_ge (tgt := 113) hx hb d_Model_feed_27 (by decide) (fun c_27 => absurd c_27 (by decide)) (fun _ => ?_)
  refine lv_iload_n hx hb d_Model_feed_30 rfl (lv_at hl 3 rfl) ?_
  refine lv_istore (lv' := [(7, .int za), (6, .int (nI 14)), (0, .ref h0), (1, .int za), (2, .int zb), (3, .int zc), (4, .int zd), (5, .int ze)]) hx hb d_Model_feed_31 hl (by decide) rfl (fun ls hl => ?_)
  refine lv_iload hx hb d_Model_feed_33 (lv_at hl 1 rfl) ?_
  refine lv_iconst (v := (nI 4)) hx hb d_Model_feed_35 (by decide) ?_
  refine lv_icmp_lt (tgt := 42) hx hb d_Model_feed_36 (by decide) (fun c_36 => absurd c_36 (by decide)) (fun _ => ?_)
  refine lv_iload_n hx hb d_Model_feed_39 rfl (lv_at hl 4 rfl) ?_
  refine lv_istore (lv' := [(7, .int zb), (6, .int (nI 14)), (0, .ref h0), (1, .int za), (2, .int zb), (3, .int zc), (4, .int zd), (5, .int ze)]) hx hb d_Model_feed_40 hl (by decide) rfl (fun ls hl => ?_)
  refine lv_iload hx hb d_Model_feed_42 (lv_at hl 1 rfl) ?_
  refine lv_bipush (v := (nI 8)) hx hb d_Model_feed_44 (by decide) ?_
  refine lv_icmp_lt (tgt := 52) hx hb d_Model_feed_46 (by decide) (fun c_46 => absurd c_46 (by decide)) (fun _ => ?_)
  refine lv_iload_n hx hb d_Model_feed_49 rfl (lv_at hl 5 rfl) ?_
  refine lv_istore (lv' := [(7, .int zc), (6, .int (nI 14)), (0, .ref h0), (1, .int za), (2, .int zb), (3, .int zc), (4, .int zd), (5, .int ze)]) hx hb d_Model_feed_50 hl (by decide) rfl (fun ls hl => ?_)
  refine lv_iload hx hb d_Model_feed_52 (lv_at hl 1 rfl) ?_
  refine lv_bipush (v := (nI 12)) hx hb d_Model_feed_54 (by decide) ?_
  refine lv_icmp_lt (tgt := 63) hx hb d_Model_feed_56 (by decide) (fun c_56 => absurd c_56 (by decide)) (fun _ => ?_)
  refine lv_iload hx hb d_Model_feed_59 (lv_at hl 6 rfl) ?_
  refine lv_istore (lv' := [(7, .int zd), (6, .int (nI 14)), (0, .ref h0), (1, .int za), (2, .int zb), (3, .int zc), (4, .int zd), (5, .int ze)]) hx hb d_Model_feed_61 hl (by decide) rfl (fun ls hl => ?_)
  refine lv_iload hx hb d_Model_feed_63 (lv_at hl 1 rfl) ?_
  refine lv_bipush (v := (nI 16)) hx hb d_Model_feed_65 (by decide) ?_
  refine lv_icmp_lt (tgt := 74) hx hb d_Model_feed_67 (by decide) (fun _ => ?_) (fun c_67 => absurd (by decide) c_67)
  refine lv_aload_n hx hb d_Model_feed_74 rfl (lv_at hl 2 rfl) ?_
  refine va_get (D := (dC, dI)) (ci := 13) (v := .ref qt) (C := R_Model) (T := F_ModelS) (N := 16) hx hb ht i_ModelS hown hK hP 0 rfl rfl 1 (by decide) (ht _ v_16) (fun _ h9 => h9) rfl d_Model_feed_75 ?_
  refine lv_aload_n hx hb d_Model_feed_78 rfl (lv_at hl 2 rfl) ?_
  refine va_get (D := (dC, dI)) (ci := 13) (v := .int (nI 14)) (C := R_Model) (T := F_ModelS) (N := 16) hx hb ht i_ModelS hown hK hP 0 rfl rfl 2 (by decide) (ht _ v_17) (fun _ h9 => h9) rfl d_Model_feed_79 ?_
  refine lv_iload hx hb d_Model_feed_82 (lv_at hl 0 rfl) ?_
  refine lv_bipush (v := (nI 24)) hx hb d_Model_feed_84 (by decide) ?_
  refine lv_bipush (v := (nI 8)) hx hb d_Model_feed_86 (by decide) ?_
  refine lv_iload hx hb d_Model_feed_88 (lv_at hl 1 rfl) ?_
  refine lv_iconst (v := (nI 3)) hx hb d_Model_feed_90 (by decide) ?_
  refine lv_iand hx hb d_Model_feed_91 ?_
  refine xw_topn (nI 2) (by decide) ?_
  refine lv_imul hx hb d_Model_feed_92 ?_
  refine xw_topn (nI 16) (by decide) ?_
  refine lv_isub hx hb d_Model_feed_93 ?_
  refine xw_topn (nI 8) (by decide) ?_
  refine lv_ishr hx hb d_Model_feed_94 ?_
  refine lv_topi (fun y43 _ => ?_)
  refine lv_i2b hx hb d_Model_feed_95 rfl ?_
  refine lv_topi (fun y44 _ => ?_)
  refine xw_bast hx hb hK hP hD hS 1 0 rfl rfl (vp_in_nI (by decide) (by decide)) d_Model_feed_96 (fun f45 H locs hP hD hS => ?_)
  have hP : va_P (dC, dI) classes [(h0, .inr (13, [.int (nI 0), .ref qt, .int (nI 14), m3, m4, m5, m6, m7, m8, m9, m10, m11, m12, m13, m14, m15])), (qt, .inl (cA, 6000, .inl f45))] H := hP
  have hD : va_D A [(h0, .inr (13, [.int (nI 0), .ref qt, .int (nI 14), m3, m4, m5, m6, m7, m8, m9, m10, m11, m12, m13, m14, m15])), (qt, .inl (cA, 6000, .inl f45))] := hD
  refine lv_aload_n hx hb d_Model_feed_97 rfl (lv_at hl 2 rfl) ?_
  refine lv_dup hx hb d_Model_feed_98 rfl ?_
  refine va_get (D := (dC, dI)) (ci := 13) (v := .int (nI 14)) (C := R_Model) (T := F_ModelS) (N := 16) hx hb ht i_ModelS hown hK hP 0 rfl rfl 2 (by decide) (ht _ v_17) (fun _ h9 => h9) rfl d_Model_feed_99 ?_
  refine lv_iconst (v := (nI 1)) hx hb d_Model_feed_102 (by decide) ?_
  refine lv_iadd hx hb d_Model_feed_103 ?_
  refine xw_topn (nI 15) (by decide) ?_
  refine va_put (D := (dC, dI)) (ci := 13) (v := .int (nI 15)) (ty := .int) (C := R_Model) (T := F_ModelS) (N := 16) hx hb ht i_ModelS t_ModelS t_ModelS_ok n_ModelS hown hK hP hD hS 0 rfl rfl 2 (by decide) (ht _ v_17) (fun _ h9 => h9) rfl (by decide +kernel) rfl rfl (Nat.le_of_ble_eq_true rfl) d_Model_feed_104 (fun H locs hP hD hS => ?_)
  have hP : va_P (dC, dI) classes [(h0, .inr (13, [.int (nI 0), .ref qt, .int (nI 15), m3, m4, m5, m6, m7, m8, m9, m10, m11, m12, m13, m14, m15])), (qt, .inl (cA, 6000, .inl f45))] H := hP
  have hD : va_D A [(h0, .inr (13, [.int (nI 0), .ref qt, .int (nI 15), m3, m4, m5, m6, m7, m8, m9, m10, m11, m12, m13, m14, m15])), (qt, .inl (cA, 6000, .inl f45))] := hD
  refine lv_iinc (v := (nI 15)) (lv' := [(6, .int (nI 15)), (7, .int zd), (0, .ref h0), (1, .int za), (2, .int zb), (3, .int zc), (4, .int zd), (5, .int ze)]) hx hb d_Model_feed_107 hl (k := 1) rfl (by decide) (by decide) rfl (fun ls hl => ?_)
  refine lv_goto (tgt := 23) hx hb d_Model_feed_110 (by decide) ?_
  refine lv_iload hx hb d_Model_feed_23 (lv_at hl 0 rfl) ?_
  refine lv_bipush (v := (nI 20)) hx hb d_Model_feed_25 (by decide) ?_
  refine lv_icmp_ge (tgt := 113) hx hb d_Model_feed_27 (by decide) (fun c_27 => absurd c_27 (by decide)) (fun _ => ?_)
  refine lv_iload_n hx hb d_Model_feed_30 rfl (lv_at hl 3 rfl) ?_
  refine lv_istore (lv' := [(7, .int za), (6, .int (nI 15)), (0, .ref h0), (1, .int za), (2, .int zb), (3, .int zc), (4, .int zd), (5, .int ze)]) hx hb d_Model_feed_31 hl (by decide) rfl (fun ls hl => ?_)
  refine lv_iload hx hb d_Model_feed_33 (lv_at hl 1 rfl) ?_
  refine lv_iconst (v := (nI 4)) hx hb d_Model_feed_35 (by decide) ?_
  refine lv_icmp_lt (tgt := 42) hx hb d_Model_feed_36 (by decide) (fun c_36 => absurd c_36 (by decide)) (fun _ => ?_)
  refine lv_iload_n hx hb d_Model_feed_39 rfl (lv_at hl 4 rfl) ?_
  refine lv_istore (lv' := [(7, .int zb), (6, .int (nI 15)), (0, .ref h0), (1, .int za), (2, .int zb), (3, .int zc), (4, .int zd), (5, .int ze)]) hx hb d_Model_feed_40 hl (by decide) rfl (fun ls hl => ?_)
  refine lv_iload hx hb d_Model_feed_42 (lv_at hl 1 rfl) ?_
  refine lv_bipush (v := (nI 8)) hx hb d_Model_feed_44 (by decide) ?_
  refine lv_icmp_lt (tgt := 52) hx hb d_Model_feed_46 (by decide) (fun c_46 => absurd c_46 (by decide)) (fun _ => ?_)
  refine lv_iload_n hx hb d_Model_feed_49 rfl (lv_at hl 5 rfl) ?_
  refine lv_istore (lv' := [(7, .int zc), (6, .int (nI 15)), (0, .ref h0), (1, .int za), (2, .int zb), (3, .int zc), (4, .int zd), (5, .int ze)]) hx hb d_Model_feed_50 hl (by decide) rfl (fun ls hl => ?_)
  refine lv_iload hx hb d_Model_feed_52 (lv_at hl 1 rfl) ?_
  refine lv_bipush (v := (nI 12)) hx hb d_Model_feed_54 (by decide) ?_
  refine lv_icmp_lt (tgt := 63) hx hb d_Model_feed_56 (by decide) (fun c_56 => absurd c_56 (by decide)) (fun _ => ?_)
  refine lv_iload hx hb d_Model_feed_59 (lv_at hl 6 rfl) ?_
  refine lv_istore (lv' := [(7, .int zd), (6, .int (nI 15)), (0, .ref h0), (1, .int za), (2, .int zb), (3, .int zc), (4, .int zd), (5, .int ze)]) hx hb d_Model_feed_61 hl (by decide) rfl (fun ls hl => ?_)
  refine lv_iload hx hb d_Model_feed_63 (lv_at hl 1 rfl) ?_
  refine lv_bipush (v := (nI 16)) hx hb d_Model_feed_65 (by decide) ?_
  refine lv_icmp_lt (tgt := 74) hx hb d_Model_feed_67 (by decide) (fun _ => ?_) (fun c_67 => absurd (by decide) c_67)
  refine lv_aload_n hx hb d_Model_feed_74 rfl (lv_at hl 2 rfl) ?_
  refine va_get (D := (dC, dI)) (ci := 13) (v := .ref qt) (C := R_Model) (T := F_ModelS) (N := 16) hx hb ht i_ModelS hown hK hP 0 rfl rfl 1 (by decide) (ht _ v_16) (fun _ h9 => h9) rfl d_Model_feed_75 ?_
  refine lv_aload_n hx hb d_Model_feed_78 rfl (lv_at hl 2 rfl) ?_
  refine va_get (D := (dC, dI)) (ci := 13) (v := .int (nI 15)) (C := R_Model) (T := F_ModelS) (N := 16) hx hb ht i_ModelS hown hK hP 0 rfl rfl 2 (by decide) (ht _ v_17) (fun _ h9 => h9) rfl d_Model_feed_79 ?_
  refine lv_iload hx hb d_Model_feed_82 (lv_at hl 0 rfl) ?_
  refine lv_bipush (v := (nI 24)) hx hb d_Model_feed_84 (by decide) ?_
  refine lv_bipush (v := (nI 8)) hx hb d_Model_feed_86 (by decide) ?_
  refine lv_iload hx hb d_Model_feed_88 (lv_at hl 1 rfl) ?_
  refine lv_iconst (v := (nI 3)) hx hb d_Model_feed_90 (by decide) ?_
  refine lv_iand hx hb d_Model_feed_91 ?_
  refine xw_topn (nI 3) (by decide) ?_
  refine lv_imul hx hb d_Model_feed_92 ?_
  refine xw_topn (nI 24) (by decide) ?_
  refine lv_isub hx hb d_Model_feed_93 ?_
  refine xw_topn (nI 0) (by decide) ?_
  refine lv_ishr hx hb d_Model_feed_94 ?_
  refine lv_topi (fun y46 _ => ?_)
  refine lv_i2b hx hb d_Model_feed_95 rfl ?_
  refine lv_topi (fun y47 _ => ?_)
  refine xw_bast hx hb hK hP hD hS 1 0 rfl rfl (vp_in_nI (by decide) (by decide)) d_Model_feed_96 (fun f48 H locs hP hD hS => ?_)
  have hP : va_P (dC, dI) classes [(h0, .inr (13, [.int (nI 0), .ref qt, .int (nI 15), m3, m4, m5, m6, m7, m8, m9, m10, m11, m12, m13, m14, m15])), (qt, .inl (cA, 6000, .inl f48))] H := hP
  have hD : va_D A [(h0, .inr (13, [.int (nI 0), .ref qt, .int (nI 15), m3, m4, m5, m6, m7, m8, m9, m10, m11, m12, m13, m14, m15])), (qt, .inl (cA, 6000, .inl f48))] := hD
  refine lv_aload_n hx hb d_Model_feed_97 rfl (lv_at hl 2 rfl) ?_
  refine lv_dup hx hb d_Model_feed_98 rfl ?_
  refine va_get (D := (dC, dI)) (ci := 13) (v := .int (nI 15)) (C := R_Model) (T := F_ModelS) (N := 16) hx hb ht i_ModelS hown hK hP 0 rfl rfl 2 (by decide) (ht _ v_17) (fun _ h9 => h9) rfl d_Model_feed_99 ?_
  refine lv_iconst (v := (nI 1)) hx hb d_Model_feed_102 (by decide) ?_
  refine lv_iadd hx hb d_Model_feed_103 ?_
  refine xw_topn (nI 16) (by decide) ?_
  refine va_put (D := (dC, dI)) (ci := 13) (v := .int (nI 16)) (ty := .int) (C := R_Model) (T := F_ModelS) (N := 16) hx hb ht i_ModelS t_ModelS t_ModelS_ok n_ModelS hown hK hP hD hS 0 rfl rfl 2 (by decide) (ht _ v_17) (fun _ h9 => h9) rfl (by decide +kernel) rfl rfl (Nat.le_of_ble_eq_true rfl) d_Model_feed_104 (fun H locs hP hD hS => ?_)
  have hP : va_P (dC, dI) classes [(h0, .inr (13, [.int (nI 0), .ref qt, .int (nI 16), m3, m4, m5, m6, m7, m8, m9, m10, m11, m12, m13, m14, m15])), (qt, .inl (cA, 6000, .inl f48))] H := hP
  have hD : va_D A [(h0, .inr (13, [.int (nI 0), .ref qt, .int (nI 16), m3, m4, m5, m6, m7, m8, m9, m10, m11, m12, m13, m14, m15])), (qt, .inl (cA, 6000, .inl f48))] := hD
  refine lv_iinc (v := (nI 16)) (lv' := [(6, .int (nI 16)), (7, .int zd), (0, .ref h0), (1, .int za), (2, .int zb), (3, .int zc), (4, .int zd), (5, .int ze)]) hx hb d_Model_feed_107 hl (k := 1) rfl (by decide) (by decide) rfl (fun ls hl => ?_)
  refine lv_goto (tgt := 23) hx hb d_Model_feed_110 (by decide) ?_
  refine lv_iload hx hb d_Model_feed_23 (lv_at hl 0 rfl) ?_
  refine lv_bipush (v := (nI 20)) hx hb d_Model_feed_25 (by decide) ?_
  refine lv_icmp_ge (tgt := 113) hx hb d_Model_feed_27 (by decide) (fun c_27 => absurd c_27 (by decide)) (fun _ => ?_)
  refine lv_iload_n hx hb d_Model_feed_30 rfl (lv_at hl 3 rfl) ?_
  refine lv_istore (lv' := [(7, .int za), (6, .int (nI 16)), (0, .ref h0), (1, .int za), (2, .int zb), (3, .int zc), (4, .int zd), (5, .int ze)]) hx hb d_Model_feed_31 hl (by decide) rfl (fun ls hl => ?_)
  refine lv_iload hx hb d_Model_feed_33 (lv_at hl 1 rfl) ?_
  refine lv_iconst (v := (nI 4)) hx hb d_Model_feed_35 (by decide) ?_
  refine lv_icmp_lt (tgt := 42) hx hb d_Model_feed_36 (by decide) (fun c_36 => absurd c_36 (by decide)) (fun _ => ?_)
  refine lv_iload_n hx hb d_Model_feed_39 rfl (lv_at hl 4 rfl) ?_
  refine lv_istore (lv' := [(7, .int zb), (6, .int (nI 16)), (0, .ref h0), (1, .int za), (2, .int zb), (3, .int zc), (4, .int zd), (5, .int ze)]) hx hb d_Model_feed_40 hl (by decide) rfl (fun ls hl => ?_)
  refine lv_iload hx hb d_Model_feed_42 (lv_at hl 1 rfl) ?_
  refine lv_bipush (v := (nI 8)) hx hb d_Model_feed_44 (by decide) ?_
  refine lv_icmp_lt (tgt := 52) hx hb d_Model_feed_46 (by decide) (fun c_46 => absurd c_46 (by decide)) (fun _ => ?_)
  refine lv_iload_n hx hb d_Model_feed_49 rfl (lv_at hl 5 rfl) ?_
  refine lv_istore (lv' := [(7, .int zc), (6, .int (nI 16)), (0, .ref h0), (1, .int za), (2, .int zb), (3, .int zc), (4, .int zd), (5, .int ze)]) hx hb d_Model_feed_50 hl (by decide) rfl (fun ls hl => ?_)
  refine lv_iload hx hb d_Model_feed_52 (lv_at hl 1 rfl) ?_
  refine lv_bipush (v := (nI 12)) hx hb d_Model_feed_54 (by decide) ?_
  refine lv_icmp_lt (tgt := 63) hx hb d_Model_feed_56 (by decide) (fun c_56 => absurd c_56 (by decide)) (fun _ => ?_)
  refine lv_iload hx hb d_Model_feed_59 (lv_at hl 6 rfl) ?_
  refine lv_istore (lv' := [(7, .int zd), (6, .int (nI 16)), (0, .ref h0), (1, .int za), (2, .int zb), (3, .int zc), (4, .int zd), (5, .int ze)]) hx hb d_Model_feed_61 hl (by decide) rfl (fun ls hl => ?_)
  refine lv_iload hx hb d_Model_feed_63 (lv_at hl 1 rfl) ?_
  refine lv_bipush (v := (nI 16)) hx hb d_Model_feed_65 (by decide) ?_
  refine lv_icmp_lt (tgt := 74) hx hb d_Model_feed_67 (by decide) (fun c_67 => absurd c_67 (by decide)) (fun _ => ?_)
  refine lv_iload hx hb d_Model_feed_70 (lv_at hl 7 rfl) ?_
  refine lv_istore (lv' := [(7, .int ze), (6, .int (nI 16)), (0, .ref h0), (1, .int za), (2, .int zb), (3, .int zc), (4, .int zd), (5, .int ze)]) hx hb d_Model_feed_72 hl (by decide) rfl (fun ls hl => ?_)
  refine lv_aload_n hx hb d_Model_feed_74 rfl (lv_at hl 2 rfl) ?_
  refine va_get (D := (dC, dI)) (ci := 13) (v := .ref qt) (C := R_Model) (T := F_ModelS) (N := 16) hx hb ht i_ModelS hown hK hP 0 rfl rfl 1 (by decide) (ht _ v_16) (fun _ h9 => h9) rfl d_Model_feed_75 ?_
  refine lv_aload_n hx hb d_Model_feed_78 rfl (lv_at hl 2 rfl) ?_
  refine va_get (D := (dC, dI)) (ci := 13) (v := .int (nI 16)) (C := R_Model) (T := F_ModelS) (N := 16) hx hb ht i_ModelS hown hK hP 0 rfl rfl 2 (by decide) (ht _ v_17) (fun _ h9 => h9) rfl d_Model_feed_79 ?_
  refine lv_iload hx hb d_Model_feed_82 (lv_at hl 0 rfl) ?_
  refine lv_bipush (v := (nI 24)) hx hb d_Model_feed_84 (by decide) ?_
  refine lv_bipush (v := (nI 8)) hx hb d_Model_feed_86 (by decide) ?_
  refine lv_iload hx hb d_Model_feed_88 (lv_at hl 1 rfl) ?_
  refine lv_iconst (v := (nI 3)) hx hb d_Model_feed_90 (by decide) ?_
  refine lv_iand hx hb d_Model_feed_91 ?_
  refine xw_topn (nI 0) (by decide) ?_
  refine lv_imul hx hb d_Model_feed_92 ?_
  refine xw_topn (nI 0) (by decide) ?_
  refine lv_isub hx hb d_Model_feed_93 ?_
  refine xw_topn (nI 24) (by decide) ?_
  refine lv_ishr hx hb d_Model_feed_94 ?_
  refine lv_topi (fun y49 _ => ?_)
  refine lv_i2b hx hb d_Model_feed_95 rfl ?_
  refine lv_topi (fun y50 _ => ?_)
  refine xw_bast hx hb hK hP hD hS 1 0 rfl rfl (vp_in_nI (by decide) (by decide)) d_Model_feed_96 (fun f51 H locs hP hD hS => ?_)
  have hP : va_P (dC, dI) classes [(h0, .inr (13, [.int (nI 0), .ref qt, .int (nI 16), m3, m4, m5, m6, m7, m8, m9, m10, m11, m12, m13, m14, m15])), (qt, .inl (cA, 6000, .inl f51))] H := hP
  have hD : va_D A [(h0, .inr (13, [.int (nI 0), .ref qt, .int (nI 16), m3, m4, m5, m6, m7, m8, m9, m10, m11, m12, m13, m14, m15])), (qt, .inl (cA, 6000, .inl f51))] := hD
  refine lv_aload_n hx hb d_Model_feed_97 rfl (lv_at hl 2 rfl) ?_
  refine lv_dup hx hb d_Model_feed_98 rfl ?_
  refine va_get (D := (dC, dI)) (ci := 13) (v := .int (nI 16)) (C := R_Model) (T := F_ModelS) (N := 16) hx hb ht i_ModelS hown hK hP 0 rfl rfl 2 (by decide) (ht _ v_17) (fun _ h9 => h9) rfl d_Model_feed_99 ?_
  refine lv_iconst (v := (nI 1)) hx hb d_Model_feed_102 (by decide) ?_
  refine lv_iadd hx hb d_Model_feed_103 ?_
  refine xw_topn (nI 17) (by decide) ?_
  refine va_put (D := (dC, dI)) (ci := 13) (v := .int (nI 17)) (ty := .int) (C := R_Model) (T := F_ModelS) (N := 16) hx hb ht i_ModelS t_ModelS t_ModelS_ok n_ModelS hown hK hP hD hS 0 rfl rfl 2 (by decide) (ht _ v_17) (fun _ h9 => h9) rfl (by decide +kernel) rfl rfl (Nat.le_of_ble_eq_true rfl) d_Model_feed_104 (fun H locs hP hD hS => ?_)
  have hP : va_P (dC, dI) classes [(h0, .inr (13, [.int (nI 0), .ref qt, .int (nI 17), m3, m4, m5, m6, m7, m8, m9, m10, m11, m12, m13, m14, m15])), (qt, .inl (cA, 6000, .inl f51))] H := hP
  have hD : va_D A [(h0, .inr (13, [.int (nI 0), .ref qt, .int (nI 17), m3, m4, m5, m6, m7, m8, m9, m10, m11, m12, m13, m14, m15])), (qt, .inl (cA, 6000, .inl f51))] := hD
  refine lv_iinc (v := (nI 17)) (lv' := [(6, .int (nI 17)), (7, .int ze), (0, .ref h0), (1, .int za), (2, .int zb), (3, .int zc), (4, .int zd), (5, .int ze)]) hx hb d_Model_feed_107 hl (k := 1) rfl (by decide) (by decide) rfl (fun ls hl => ?_)
  refine lv_goto (tgt := 23) hx hb d_Model_feed_110 (by decide) ?_
  refine lv_iload hx hb d_Model_feed_23 (lv_at hl 0 rfl) ?_
  refine lv_bipush (v := (nI 20)) hx hb d_Model_feed_25 (by decide) ?_
  refine lv_icmp_ge (tgt := 113) hx hb d_Model_feed_27 (by decide) (fun c_27 => absurd c_27 (by decide)) (fun _ => ?_)
  refine lv_iload_n hx hb d_Model_feed_30 rfl (lv_at hl 3 rfl) ?_
  refine lv_istore (lv' := [(7, .int za), (6, .int (nI 17)), (0, .ref h0), (1, .int za), (2, .int zb), (3, .int zc), (4, .int zd), (5, .int ze)]) hx hb d_Model_feed_31 hl (by decide) rfl (fun ls hl => ?_)
  refine lv_iload hx hb d_Model_feed_33 (lv_at hl 1 rfl) ?_
  refine lv_iconst (v := (nI 4)) hx hb d_Model_feed_35 (by decide) ?_
  refine lv_icmp_lt (tgt := 42) hx hb d_Model_feed_36 (by decide) (fun c_36 => absurd c_36 (by decide)) (fun _ => ?_)
  refine lv_iload_n hx hb d_Model_feed_39 rfl (lv_at hl 4 rfl) ?_
  refine lv_istore (lv' := [(7, .int zb), (6, .int (nI 17)), (0, .ref h0), (1, .int za), (2, .int zb), (3, .int zc), (4, .int zd), (5, .int ze)]) hx hb d_Model_feed_40 hl (by decide) rfl (fun ls hl => ?_)
  refine lv_iload hx hb d_Model_feed_42 (lv_at hl 1 rfl) ?_
  refine lv_bipush (v := (nI 8)) hx hb d_Model_feed_44 (by decide) ?_
  refine lv_icmp_lt (tgt := 52) hx hb d_Model_feed_46 (by decide) (fun c_46 => absurd c_46 (by decide)) (fun _ => ?_)
  refine lv_iload_n hx hb d_Model_feed_49 rfl (lv_at hl 5 rfl) ?_
  refine lv_istore (lv' := [(7, .int zc), (6, .int (nI 17)), (0, .ref h0), (1, .int za), (2, .int zb), (3, .int zc), (4, .int zd), (5, .int ze)]) hx hb d_Model_feed_50 hl (by decide) rfl (fun ls hl => ?_)
  refine lv_iload hx hb d_Model_feed_52 (lv_at hl 1 rfl) ?_
  refine lv_bipush (v := (nI 12)) hx hb d_Model_feed_54 (by decide) ?_
  refine lv_icmp_lt (tgt := 63) hx hb d_Model_feed_56 (by decide) (fun c_56 => absurd c_56 (by decide)) (fun _ => ?_)
  refine lv_iload hx hb d_Model_feed_59 (lv_at hl 6 rfl) ?_
  refine lv_istore (lv' := [(7, .int zd), (6, .int (nI 17)), (0, .ref h0), (1, .int za), (2, .int zb), (3, .int zc), (4, .int zd), (5, .int ze)]) hx hb d_Model_feed_61 hl (by decide) rfl (fun ls hl => ?_)
  refine lv_iload hx hb d_Model_feed_63 (lv_at hl 1 rfl) ?_
  refine lv_bipush (v := (nI 16)) hx hb d_Model_feed_65 (by decide) ?_
  refine lv_icmp_lt (tgt := 74) hx hb d_Model_feed_67 (by decide) (fun c_67 => absurd c_67 (by decide)) (fun _ => ?_)
  refine lv_iload hx hb d_Model_feed_70 (lv_at hl 7 rfl) ?_
  refine lv_istore (lv' := [(7, .int ze), (6, .int (nI 17)), (0, .ref h0), (1, .int za), (2, .int zb), (3, .int zc), (4, .int zd), (5, .int ze)]) hx hb d_Model_feed_72 hl (by decide) rfl (fun ls hl => ?_)
  refine lv_aload_n hx hb d_Model_feed_74 rfl (lv_at hl 2 rfl) ?_
  refine va_get (D := (dC, dI)) (ci := 13) (v := .ref qt) (C := R_Model) (T := F_ModelS) (N := 16) hx hb ht i_ModelS hown hK hP 0 rfl rfl 1 (by decide) (ht _ v_16) (fun _ h9 => h9) rfl d_Model_feed_75 ?_
  refine lv_aload_n hx hb d_Model_feed_78 rfl (lv_at hl 2 rfl) ?_
  refine va_get (D := (dC, dI)) (ci := 13) (v := .int (nI 17)) (C := R_Model) (T := F_ModelS) (N := 16) hx hb ht i_ModelS hown hK hP 0 rfl rfl 2 (by decide) (ht _ v_17) (fun _ h9 => h9) rfl d_Model_feed_79 ?_
  refine lv_iload hx hb d_Model_feed_82 (lv_at hl 0 rfl) ?_
  refine lv_bipush (v := (nI 24)) hx hb d_Model_feed_84 (by decide) ?_
  refine lv_bipush (v := (nI 8)) hx hb d_Model_feed_86 (by decide) ?_
  refine lv_iload hx hb d_Model_feed_88 (lv_at hl 1 rfl) ?_
  refine lv_iconst (v := (nI 3)) hx hb d_Model_feed_90 (by decide) ?_
  refine lv_iand hx hb d_Model_feed_91 ?_
  refine xw_topn (nI 1) (by decide) ?_
  refine lv_imul hx hb d_Model_feed_92 ?_
  refine xw_topn (nI 8) (by decide) ?_
  refine lv_isub hx hb d_Model_feed_93 ?_
  refine xw_topn (nI 16) (by decide) ?_
  refine lv_ishr hx hb d_Model_feed_94 ?_
  refine lv_topi (fun y52 _ => ?_)
  refine lv_i2b hx hb d_Model_feed_95 rfl ?_
  refine lv_topi (fun y53 _ => ?_)
  refine xw_bast hx hb hK hP hD hS 1 0 rfl rfl (vp_in_nI (by decide) (by decide)) d_Model_feed_96 (fun f54 H locs hP hD hS => ?_)
  have hP : va_P (dC, dI) classes [(h0, .inr (13, [.int (nI 0), .ref qt, .int (nI 17), m3, m4, m5, m6, m7, m8, m9, m10, m11, m12, m13, m14, m15])), (qt, .inl (cA, 6000, .inl f54))] H := hP
  have hD : va_D A [(h0, .inr (13, [.int (nI 0), .ref qt, .int (nI 17), m3, m4, m5, m6, m7, m8, m9, m10, m11, m12, m13, m14, m15])), (qt, .inl (cA, 6000, .inl f54))] := hD
  refine lv_aload_n hx hb d_Model_feed_97 rfl (lv_at hl 2 rfl) ?_
  refine lv_dup hx hb d_Model_feed_98 rfl ?_
  refine va_get (D := (dC, dI)) (ci := 13) (v := .int (nI 17)) (C := R_Model) (T := F_ModelS) (N := 16) hx hb ht i_ModelS hown hK hP 0 rfl rfl 2 (by decide) (ht _ v_17) (fun _ h9 => h9) rfl d_Model_feed_99 ?_
  refine lv_iconst (v := (nI 1)) hx hb d_Model_feed_102 (by decide) ?_
  refine lv_iadd hx hb d_Model_feed_103 ?_
  refine xw_topn (nI 18) (by decide) ?_
  refine va_put (D := (dC, dI)) (ci := 13) (v := .int (nI 18)) (ty := .int) (C := R_Model) (T := F_ModelS) (N := 16) hx hb ht i_ModelS t_ModelS t_ModelS_ok n_ModelS hown hK hP hD hS 0 rfl rfl 2 (by decide) (ht _ v_17) (fun _ h9 => h9) rfl (by decide +kernel) rfl rfl (Nat.le_of_ble_eq_true rfl) d_Model_feed_104 (fun H locs hP hD hS => ?_)
  have hP : va_P (dC, dI) classes [(h0, .inr (13, [.int (nI 0), .ref qt, .int (nI 18), m3, m4, m5, m6, m7, m8, m9, m10, m11, m12, m13, m14, m15])), (qt, .inl (cA, 6000, .inl f54))] H := hP
  have hD : va_D A [(h0, .inr (13, [.int (nI 0), .ref qt, .int (nI 18), m3, m4, m5, m6, m7, m8, m9, m10, m11, m12, m13, m14, m15])), (qt, .inl (cA, 6000, .inl f54))] := hD
  refine lv_iinc (v := (nI 18)) (lv' := [(6, .int (nI 18)), (7, .int ze), (0, .ref h0), (1, .int za), (2, .int zb), (3, .int zc), (4, .int zd), (5, .int ze)]) hx hb d_Model_feed_107 hl (k := 1) rfl (by decide) (by decide) rfl (fun ls hl => ?_)
  refine lv_goto (tgt := 23) hx hb d_Model_feed_110 (by decide) ?_
  refine lv_iload hx hb d_Model_feed_23 (lv_at hl 0 rfl) ?_
  refine lv_bipush (v := (nI 20)) hx hb d_Model_feed_25 (by decide) ?_
  refine lv_icmp_ge (tgt := 113) hx hb d_Model_feed_27 (by decide) (fun c_27 => absurd c_27 (by decide)) (fun _ => ?_)
  refine lv_iload_n hx hb d_Model_feed_30 rfl (lv_at hl 3 rfl) ?_
  refine lv_istore (lv' := [(7, .int za), (6, .int (nI 18)), (0, .ref h0), (1, .int za), (2, .int zb), (3, .int zc), (4, .int zd), (5, .int ze)]) hx hb d_Model_feed_31 hl (by decide) rfl (fun ls hl => ?_)
  refine lv_iload hx hb d_Model_feed_33 (lv_at hl 1 rfl) ?_
  refine lv_iconst (v := (nI 4)) hx hb d_Model_feed_35 (by decide) ?_
  refine lv_icmp_lt (tgt := 42) hx hb d_Model_feed_36 (by decide) (fun c_36 => absurd c_36 (by decide)) (fun _ => ?_)
  refine lv_iload_n hx hb d_Model_feed_39 rfl (lv_at hl 4 rfl) ?_
  refine lv_istore (lv' := [(7, .int zb), (6, .int (nI 18)), (0, .ref h0), (1, .int za), (2, .int zb), (3, .int zc), (4, .int zd), (5, .int ze)]) hx hb d_Model_feed_40 hl (by decide) rfl (fun ls hl => ?_)
  refine lv_iload hx hb d_Model_feed_42 (lv_at hl 1 rfl) ?_
  refine lv_bipush (v := (nI 8)) hx hb d_Model_feed_44 (by decide) ?_
  refine lv_icmp_lt (tgt := 52) hx hb d_Model_feed_46 (by decide) (fun c_46 => absurd c_46 (by decide)) (fun _ => ?_)
  refine lv_iload_n hx hb d_Model_feed_49 rfl (lv_at hl 5 rfl) ?_
  refine lv_istore (lv' := [(7, .int zc), (6, .int (nI 18)), (0, .ref h0), (1, .int za), (2, .int zb), (3, .int zc), (4, .int zd), (5, .int ze)]) hx hb d_Model_feed_50 hl (by decide) rfl (fun ls hl => ?_)
  refine lv_iload hx hb d_Model_feed_52 (lv_at hl 1 rfl) ?_
  refine lv_bipush (v := (nI 12)) hx hb d_Model_feed_54 (by decide) ?_
  refine lv_icmp_lt (tgt := 63) hx hb d_Model_feed_56 (by decide) (fun c_56 => absurd c_56 (by decide)) (fun _ => ?_)
  refine lv_iload hx hb d_Model_feed_59 (lv_at hl 6 rfl) ?_
  refine lv_istore (lv' := [(7, .int zd), (6, .int (nI 18)), (0, .ref h0), (1, .int za), (2, .int zb), (3, .int zc), (4, .int zd), (5, .int ze)]) hx hb d_Model_feed_61 hl (by decide) rfl (fun ls hl => ?_)
  refine lv_iload hx hb d_Model_feed_63 (lv_at hl 1 rfl) ?_
  refine lv_bipush (v := (nI 16)) hx hb d_Model_feed_65 (by decide) ?_
  refine lv_icmp_lt (tgt := 74) hx hb d_Model_feed_67 (by decide) (fun c_67 => absurd c_67 (by decide)) (fun _ => ?_)
  refine lv_iload hx hb d_Model_feed_70 (lv_at hl 7 rfl) ?_
  refine lv_istore (lv' := [(7, .int ze), (6, .int (nI 18)), (0, .ref h0), (1, .int za), (2, .int zb), (3, .int zc), (4, .int zd), (5, .int ze)]) hx hb d_Model_feed_72 hl (by decide) rfl (fun ls hl => ?_)
  refine lv_aload_n hx hb d_Model_feed_74 rfl (lv_at hl 2 rfl) ?_
  refine va_get (D := (dC, dI)) (ci := 13) (v := .ref qt) (C := R_Model) (T := F_ModelS) (N := 16) hx hb ht i_ModelS hown hK hP 0 rfl rfl 1 (by decide) (ht _ v_16) (fun _ h9 => h9) rfl d_Model_feed_75 ?_
  refine lv_aload_n hx hb d_Model_feed_78 rfl (lv_at hl 2 rfl) ?_
  refine va_get (D := (dC, dI)) (ci := 13) (v := .int (nI 18)) (C := R_Model) (T := F_ModelS) (N := 16) hx hb ht i_ModelS hown hK hP 0 rfl rfl 2 (by decide) (ht _ v_17) (fun _ h9 => h9) rfl d_Model_feed_79 ?_
  refine lv_iload hx hb d_Model_feed_82 (lv_at hl 0 rfl) ?_
  refine lv_bipush (v := (nI 24)) hx hb d_Model_feed_84 (by decide) ?_
  refine lv_bipush (v := (nI 8)) hx hb d_Model_feed_86 (by decide) ?_
  refine lv_iload hx hb d_Model_feed_88 (lv_at hl 1 rfl) ?_
  refine lv_iconst (v := (nI 3)) hx hb d_Model_feed_90 (by decide) ?_
  refine lv_iand hx hb d_Model_feed_91 ?_
  refine xw_topn (nI 2) (by decide) ?_
  refine lv_imul hx hb d_Model_feed_92 ?_
  refine xw_topn (nI 16) (by decide) ?_
  refine lv_isub hx hb d_Model_feed_93 ?_
  refine xw_topn (nI 8) (by decide) ?_
  refine lv_ishr hx hb d_Model_feed_94 ?_
  refine lv_topi (fun y55 _ => ?_)
  refine lv_i2b hx hb d_Model_feed_95 rfl ?_
  refine lv_topi (fun y56 _ => ?_)
  refine xw_bast hx hb hK hP hD hS 1 0 rfl rfl (vp_in_nI (by decide) (by decide)) d_Model_feed_96 (fun f57 H locs hP hD hS => ?_)
  have hP : va_P (dC, dI) classes [(h0, .inr (13, [.int (nI 0), .ref qt, .int (nI 18), m3, m4, m5, m6, m7, m8, m9, m10, m11, m12, m13, m14, m15])), (qt, .inl (cA, 6000, .inl f57))] H := hP
  have hD : va_D A [(h0, .inr (13, [.int (nI 0), .ref qt, .int (nI 18), m3, m4, m5, m6, m7, m8, m9, m10, m11, m12, m13, m14, m15])), (qt, .inl (cA, 6000, .inl f57))] := hD
  refine lv_aload_n hx hb d_Model_feed_97 rfl (lv_at hl 2 rfl) ?_
  refine lv_dup hx hb d_Model_feed_98 rfl ?_
  refine va_get (D := (dC, dI)) (ci := 13) (v := .int (nI 18)) (C := R_Model) (T := F_ModelS) (N := 16) hx hb ht i_ModelS hown hK hP 0 rfl rfl 2 (by decide) (ht _ v_17) (fun _ h9 => h9) rfl d_Model_feed_99 ?_
  refine lv_iconst (v := (nI 1)) hx hb d_Model_feed_102 (by decide) ?_
  refine lv_iadd hx hb d_Model_feed_103 ?_
  refine xw_topn (nI 19) (by decide) ?_
  refine va_put (D := (dC, dI)) (ci := 13) (v := .int (nI 19)) (ty := .int) (C := R_Model) (T := F_ModelS) (N := 16) hx hb ht i_ModelS t_ModelS t_ModelS_ok n_ModelS hown hK hP hD hS 0 rfl rfl 2 (by decide) (ht _ v_17) (fun _ h9 => h9) rfl (by decide +kernel) rfl rfl (Nat.le_of_ble_eq_true rfl) d_Model_feed_104 (fun H locs hP hD hS => ?_)
  have hP : va_P (dC, dI) classes [(h0, .inr (13, [.int (nI 0), .ref qt, .int (nI 19), m3, m4, m5, m6, m7, m8, m9, m10, m11, m12, m13, m14, m15])), (qt, .inl (cA, 6000, .inl f57))] H := hP
  have hD : va_D A [(h0, .inr (13, [.int (nI 0), .ref qt, .int (nI 19), m3, m4, m5, m6, m7, m8, m9, m10, m11, m12, m13, m14, m15])), (qt, .inl (cA, 6000, .inl f57))] := hD
  refine lv_iinc (v := (nI 19)) (lv' := [(6, .int (nI 19)), (7, .int ze), (0, .ref h0), (1, .int za), (2, .int zb), (3, .int zc), (4, .int zd), (5, .int ze)]) hx hb d_Model_feed_107 hl (k := 1) rfl (by decide) (by decide) rfl (fun ls hl => ?_)
  refine lv_goto (tgt := 23) hx hb d_Model_feed_110 (by decide) ?_
  refine lv_iload hx hb d_Model_feed_23 (lv_at hl 0 rfl) ?_
  refine lv_bipush (v := (nI 20)) hx hb d_Model_feed_25 (by decide) ?_
  refine lv_icmp_ge (tgt := 113) hx hb d_Model_feed_27 (by decide) (fun c_27 => absurd c_27 (by decide)) (fun _ => ?_)
  refine lv_iload_n hx hb d_Model_feed_30 rfl (lv_at hl 3 rfl) ?_
  refine lv_istore (lv' := [(7, .int za), (6, .int (nI 19)), (0, .ref h0), (1, .int za), (2, .int zb), (3, .int zc), (4, .int zd), (5, .int ze)]) hx hb d_Model_feed_31 hl (by decide) rfl (fun ls hl => ?_)
  refine lv_iload hx hb d_Model_feed_33 (lv_at hl 1 rfl) ?_
  refine lv_iconst (v := (nI 4)) hx hb d_Model_feed_35 (by decide) ?_
  refine lv_icmp_lt (tgt := 42) hx hb d_Model_feed_36 (by decide) (fun c_36 => absurd c_36 (by decide)) (fun _ => ?_)
  refine lv_iload_n hx hb d_Model_feed_39 rfl (lv_at hl 4 rfl) ?_
  refine lv_istore (lv' := [(7, .int zb), (6, .int (nI 19)), (0, .ref h0), (1, .int za), (2, .int zb), (3, .int zc), (4, .int zd), (5, .int ze)]) hx hb d_Model_feed_40 hl (by decide) rfl (fun ls hl => ?_)
  refine lv_iload hx hb d_Model_feed_42 (lv_at hl 1 rfl) ?_
  refine lv_bipush (v := (nI 8)) hx hb d_Model_feed_44 (by decide) ?_
  refine lv_icmp_lt (tgt := 52) hx hb d_Model_feed_46 (by decide) (fun c_46 => absurd c_46 (by decide)) (fun _ => ?_)
  refine lv_iload_n hx hb d_Model_feed_49 rfl (lv_at hl 5 rfl) ?_
  refine lv_istore (lv' := [(7, .int zc), (6, .int (nI 19)), (0, .ref h0), (1, .int za), (2, .int zb), (3, .int zc), (4, .int zd), (5, .int ze)]) hx hb d_Model_feed_50 hl (by decide) rfl (fun ls hl => ?_)
  refine lv_iload hx hb d_Model_feed_52 (lv_at hl 1 rfl) ?_
  refine lv_bipush (v := (nI 12)) hx hb d_Model_feed_54 (by decide) ?_
  refine lv_icmp_lt (tgt := 63) hx hb d_Model_feed_56 (by decide) (fun c_56 => absurd c_56 (by decide)) (fun _ => ?_)
  refine lv_iload hx hb d_Model_feed_59 (lv_at hl 6 rfl) ?_
  refine lv_istore (lv' := [(7, .int zd), (6, .int (nI 19)), (0, .ref h0), (1, .int za), (2, .int zb), (3, .int zc), (4, .int zd), (5, .int ze)]) hx hb d_Model_feed_61 hl (by decide) rfl (fun ls hl => ?_)
  refine lv_iload hx hb d_Model_feed_63 (lv_at hl 1 rfl) ?_
  refine lv_bipush (v := (nI 16)) hx hb d_Model_feed_65 (by decide) ?_
  refine lv_icmp_lt (tgt := 74) hx hb d_Model_feed_67 (by decide) (fun c_67 => absurd c_67 (by decide)) (fun _ => ?_)
  refine lv_iload hx hb d_Model_feed_70 (lv_at hl 7 rfl) ?_
  refine lv_istore (lv' := [(7, .int ze), (6, .int (nI 19)), (0, .ref h0), (1, .int za), (2, .int zb), (3, .int zc), (4, .int zd), (5, .int ze)]) hx hb d_Model_feed_72 hl (by decide) rfl (fun ls hl => ?_)
  refine lv_aload_n hx hb d_Model_feed_74 rfl (lv_at hl 2 rfl) ?_
  refine va_get (D := (dC, dI)) (ci := 13) (v := .ref qt) (C := R_Model) (T := F_ModelS) (N := 16) hx hb ht i_ModelS hown hK hP 0 rfl rfl 1 (by decide) (ht _ v_16) (fun _ h9 => h9) rfl d_Model_feed_75 ?_
  refine lv_aload_n hx hb d_Model_feed_78 rfl (lv_at hl 2 rfl) ?_
  refine va_get (D := (dC, dI)) (ci := 13) (v := .int (nI 19)) (C := R_Model) (T := F_ModelS) (N := 16) hx hb ht i_ModelS hown hK hP 0 rfl rfl 2 (by decide) (ht _ v_17) (fun _ h9 => h9) rfl d_Model_feed_79 ?_
  refine lv_iload hx hb d_Model_feed_82 (lv_at hl 0 rfl) ?_
  refine lv_bipush (v := (nI 24)) hx hb d_Model_feed_84 (by decide) ?_
  refine lv_bipush (v := (nI 8)) hx hb d_Model_feed_86 (by decide) ?_
  refine lv_iload hx hb d_Model_feed_88 (lv_at hl 1 rfl) ?_
  refine lv_iconst (v := (nI 3)) hx hb d_Model_feed_90 (by decide) ?_
  refine lv_iand hx hb d_Model_feed_91 ?_
  refine xw_topn (nI 3) (by decide) ?_
  refine lv_imul hx hb d_Model_feed_92 ?_
  refine xw_topn (nI 24) (by decide) ?_
  refine lv_isub hx hb d_Model_feed_93 ?_
  refine xw_topn (nI 0) (by decide) ?_
  refine lv_ishr hx hb d_Model_feed_94 ?_
  refine lv_topi (fun y58 _ => ?_)
  refine lv_i2b hx hb d_Model_feed_95 rfl ?_
  refine lv_topi (fun y59 _ => ?_)
  refine xw_bast hx hb hK hP hD hS 1 0 rfl rfl (vp_in_nI (by decide) (by decide)) d_Model_feed_96 (fun f60 H locs hP hD hS => ?_)
  have hP : va_P (dC, dI) classes [(h0, .inr (13, [.int (nI 0), .ref qt, .int (nI 19), m3, m4, m5, m6, m7, m8, m9, m10, m11, m12, m13, m14, m15])), (qt, .inl (cA, 6000, .inl f60))] H := hP
  have hD : va_D A [(h0, .inr (13, [.int (nI 0), .ref qt, .int (nI 19), m3, m4, m5, m6, m7, m8, m9, m10, m11, m12, m13, m14, m15])), (qt, .inl (cA, 6000, .inl f60))] := hD
  refine lv_aload_n hx hb d_Model_feed_97 rfl (lv_at hl 2 rfl) ?_
  refine lv_dup hx hb d_Model_feed_98 rfl ?_
  refine va_get (D := (dC, dI)) (ci := 13) (v := .int (nI 19)) (C := R_Model) (T := F_ModelS) (N := 16) hx hb ht i_ModelS hown hK hP 0 rfl rfl 2 (by decide) (ht _ v_17) (fun _ h9 => h9) rfl d_Model_feed_99 ?_
  refine lv_iconst (v := (nI 1)) hx hb d_Model_feed_102 (by decide) ?_
  refine lv_iadd hx hb d_Model_feed_103 ?_
  refine xw_topn (nI 20) (by decide) ?_
  refine va_put (D := (dC, dI)) (ci := 13) (v := .int (nI 20)) (ty := .int) (C := R_Model) (T := F_ModelS) (N := 16) hx hb ht i_ModelS t_ModelS t_ModelS_ok n_ModelS hown hK hP hD hS 0 rfl rfl 2 (by decide) (ht _ v_17) (fun _ h9 => h9) rfl (by decide +kernel) rfl rfl (Nat.le_of_ble_eq_true rfl) d_Model_feed_104 (fun H locs hP hD hS => ?_)
  have hP : va_P (dC, dI) classes [(h0, .inr (13, [.int (nI 0), .ref qt, .int (nI 20), m3, m4, m5, m6, m7, m8, m9, m10, m11, m12, m13, m14, m15])), (qt, .inl (cA, 6000, .inl f60))] H := hP
  have hD : va_D A [(h0, .inr (13, [.int (nI 0), .ref qt, .int (nI 20), m3, m4, m5, m6, m7, m8, m9, m10, m11, m12, m13, m14, m15])), (qt, .inl (cA, 6000, .inl f60))] := hD
  refine lv_iinc (v := (nI 20)) (lv' := [(6, .int (nI 20)), (7, .int ze), (0, .ref h0), (1, .int za), (2, .int zb), (3, .int zc), (4, .int zd), (5, .int ze)]) hx hb d_Model_feed_107 hl (k := 1) rfl (by decide) (by decide) rfl (fun ls hl => ?_)
  refine lv_goto (tgt := 23) hx hb d_Model_feed_110 (by decide) ?_
  refine lv_iload hx hb d_Model_feed_23 (lv_at hl 0 rfl) ?_
  refine lv_bipush (v := (nI 20)) hx hb d_Model_feed_25 (by decide) ?_
  refine lv_icmp_ge (tgt := 113) hx hb d_Model_feed_27 (by decide) (fun _ => ?_) (fun c_27 => absurd (by decide) c_27)
  refine lv_iconst (v := (nI 1)) hx hb d_Model_feed_113 (by decide) ?_
  have hP9 := hP.sub (ws' := []) [] rfl
  have hD9 := hD.sub (ws' := []) [] (by decide +kernel) rfl
  have hK9 := hK.sub (tys' := []) [] rfl
  exact W.zret (ty := .boolean) hx hb hr rfl (fun t ht9 hW => ⟨⟨(nI 1), (), rfl, rfl, by rw [ht9]; exact hP9, va_K.moved hW.alike hK9, hD9⟩, hS.F ht9⟩) hS.2.2 d_Model_feed_114
set_option maxHeartbeats 4000000 in
set_option maxRecDepth 100000 in
/-- end(n) of the reference -/
theorem c_Model_end (l : Launch) (dC : Nat → ClassId) (dI : Nat → Nat → Nat) (h0 sz : Nat) (n : Int32) (m0 m1 m3 m4 m5 m6 m7 m8 m9 m10 m11 m12 m13 m14 m15 : Value) : Met l y_Model_end (Cond.code y_Model_end b_Model_end 2 (Option.some Jvm.ClassFile.FieldType.boolean) :: xv0) ({ frames := 0, cells := 0, slots := 0, locals := 0 }) (va_Pc [.ref h0, .int n] (fun U => U.heap.size = sz ∧ va_P (dC, dI) classes [(h0, .inr (13, [m0, m1, .int 0, m3, m4, m5, m6, m7, m8, m9, m10, m11, m12, m13, m14, m15]))] U.heap ∧ va_K (dC, dI) classes [] U ∧ va_D (fun _ => True) [(h0, .inr (13, [m0, m1, .int 0, m3, m4, m5, m6, m7, m8, m9, m10, m11, m12, m13, m14, m15]))])) (va_Qi (fun (r : Int32) (_ : Unit) => r = xe n) (fun (_ : Unit) (t : State) => va_P (dC, dI) classes [] t.heap ∧ va_K (dC, dI) classes [] t ∧ va_D (va_A [(h0, .inr (13, [m0, m1, .int 0, m3, m4, m5, m6, m7, m8, m9, m10, m11, m12, m13, m14, m15]))] sz) []) (va_A [(h0, .inr (13, [m0, m1, .int 0, m3, m4, m5, m6, m7, m8, m9, m10, m11, m12, m13, m14, m15]))] sz)) 0 0 (va_A [(h0, .inr (13, [m0, m1, .int 0, m3, m4, m5, m6, m7, m8, m9, m10, m11, m12, m13, m14, m15]))] sz) := by
  refine Met.ofW (cc := b_Model_end) (maxL := 2) (ret := (Option.some Jvm.ClassFile.FieldType.boolean)) (by decide) rfl ?_
  intro p e s m args below meth c s₁ B hml hv
  obtain ⟨rfl, hsz, hP, hK, hD0⟩ := hv
  have hx := B.exec
  have hb := B.bytes
  have hr := B.returns
  have hts := atoms_spec (ws := Cond.code y_Model_end b_Model_end 2 (Option.some Jvm.ClassFile.FieldType.boolean) :: xv0) B.pre
  have ht : ∀ w ∈ xv0, w.before _ s = true := fun w h => hts w (List.mem_cons_of_mem _ h)
  have hown : s.vm.findClass R_Model = some m.cls := findClass_of_methodNamed B.named
  have hlocks := B.notSynchronized
  subst hsz
  have hD := hD0.self (sz := s.heap.size)
  generalize hAe : va_A [(h0, .inr (13, [m0, m1, .int 0, m3, m4, m5, m6, m7, m8, m9, m10, m11, m12, m13, m14, m15]))] s.heap.size = A at hD ⊢
  have hA : ∀ q : Nat, s.heap.size ≤ q → A q := fun q h => by rw [← hAe]; exact Or.inr h
  have hS : va_S A s.heap s.heap [] := va_S.rf
  have hP : va_P (dC, dI) classes [(h0, .inr (13, [m0, m1, .int 0, m3, m4, m5, m6, m7, m8, m9, m10, m11, m12, m13, m14, m15]))] s.heap := hP
  have hl := lv_entry ([.ref h0, .int n]) (n := 2) (Nat.le_of_ble_eq_true rfl)
  rw [lg_entry_eq]
  generalize (lg_sl ([.ref h0, .int n]) ++ List.replicate (2 - (lg_sl ([.ref h0, .int n])).length) Slot.unset).toArray = ls at hl ⊢
  have hl : lv_has ls 2 [(0, .ref h0), (1, .int n)] := hl
  refine lv_aload_n hx hb d_Model_end_0 rfl (lv_at hl 0 rfl) ?_
  refine lv_iconst (v := (nI 0)) hx hb d_Model_end_1 (by decide) ?_
  refine va_put (D := (dC, dI)) (ci := 13) (v := .int (nI 0)) (ty := .int) (C := R_Model) (T := F_ModelS) (N := 16) hx hb ht i_ModelS t_ModelS t_ModelS_ok n_ModelS hown hK hP hD hS 0 rfl rfl 0 (by decide) (ht _ v_15) (fun _ h9 => h9) rfl (by decide +kernel) rfl rfl (Nat.le_of_ble_eq_true rfl) d_Model_end_2 (fun H locs hP hD hS => ?_)
  have hP : va_P (dC, dI) classes [(h0, .inr (13, [.int (nI 0), m1, .int 0, m3, m4, m5, m6, m7, m8, m9, m10, m11, m12, m13, m14, m15]))] H := hP
  have hD : va_D A [(h0, .inr (13, [.int (nI 0), m1, .int 0, m3, m4, m5, m6, m7, m8, m9, m10, m11, m12, m13, m14, m15]))] := hD
  refine lv_iload_n hx hb d_Model_end_5 rfl (lv_at hl 1 rfl) ?_
  refine lv_if_lt (tgt := 17) hx hb d_Model_end_6 (by decide) (fun c_6_0 => ?_) (fun c_6_0 => ?_)
  · refine lv_iconst (v := (nI 0)) hx hb d_Model_end_17 (by decide) ?_
    have hP9 := hP.sub (ws' := []) [] rfl
    have hD9 := hD.sub (ws' := []) [] (by decide +kernel) rfl
    have hK9 := hK.sub (tys' := []) [] rfl
    exact W.zret (ty := .boolean) hx hb hr rfl (fun t ht9 hW => ⟨⟨(nI 0), (), rfl, (by show _ = xe _; unfold xe; rw [if_pos c_6_0]; rfl), by rw [ht9]; exact hP9, va_K.moved hW.alike hK9, hD9⟩, hS.F ht9⟩) hS.2.2 d_Model_end_18
  · refine lv_iload_n hx hb d_Model_end_9 rfl (lv_at hl 1 rfl) ?_
    refine lv_aload_n hx hb d_Model_end_10 rfl (lv_at hl 0 rfl) ?_
    refine va_get (D := (dC, dI)) (ci := 13) (v := .int 0) (C := R_Model) (T := F_ModelS) (N := 16) hx hb ht i_ModelS hown hK hP 0 rfl rfl 2 (by decide) (ht _ v_17) (fun _ h9 => h9) rfl d_Model_end_11 ?_
    refine lv_icmp_le (tgt := 19) hx hb d_Model_end_14 (by decide) (fun c_14_51 => ?_) (fun c_14_51 => ?_)
    · refine lv_aload_n hx hb d_Model_end_19 rfl (lv_at hl 0 rfl) ?_
      refine lv_iload_n hx hb d_Model_end_20 rfl (lv_at hl 1 rfl) ?_
      refine va_put (D := (dC, dI)) (ci := 13) (v := .int n) (ty := .int) (C := R_Model) (T := F_ModelS) (N := 16) hx hb ht i_ModelS t_ModelS t_ModelS_ok n_ModelS hown hK hP hD hS 0 rfl rfl 2 (by decide) (ht _ v_17) (fun _ h9 => h9) rfl (by decide +kernel) rfl rfl (Nat.le_of_ble_eq_true rfl) d_Model_end_21 (fun H locs hP hD hS => ?_)
      have hP : va_P (dC, dI) classes [(h0, .inr (13, [.int (nI 0), m1, .int n, m3, m4, m5, m6, m7, m8, m9, m10, m11, m12, m13, m14, m15]))] H := hP
      have hD : va_D A [(h0, .inr (13, [.int (nI 0), m1, .int n, m3, m4, m5, m6, m7, m8, m9, m10, m11, m12, m13, m14, m15]))] := hD
      refine lv_iconst (v := (nI 1)) hx hb d_Model_end_24 (by decide) ?_
      have hP9 := hP.sub (ws' := []) [] rfl
      have hD9 := hD.sub (ws' := []) [] (by decide +kernel) rfl
      have hK9 := hK.sub (tys' := []) [] rfl
      exact W.zret (ty := .boolean) hx hb hr rfl (fun t ht9 hW => ⟨⟨(nI 1), (), rfl, (by show _ = xe _; unfold xe; rw [if_neg c_6_0, if_pos c_14_51]; rfl), by rw [ht9]; exact hP9, va_K.moved hW.alike hK9, hD9⟩, hS.F ht9⟩) hS.2.2 d_Model_end_25
    · refine lv_iconst (v := (nI 0)) hx hb d_Model_end_17 (by decide) ?_
      have hP9 := hP.sub (ws' := []) [] rfl
      have hD9 := hD.sub (ws' := []) [] (by decide +kernel) rfl
      have hK9 := hK.sub (tys' := []) [] rfl
      exact W.zret (ty := .boolean) hx hb hr rfl (fun t ht9 hW => ⟨⟨(nI 0), (), rfl, (by show _ = xe _; unfold xe; rw [if_neg c_6_0, if_neg c_14_51]; rfl), by rw [ht9]; exact hP9, va_K.moved hW.alike hK9, hD9⟩, hS.F ht9⟩) hS.2.2 d_Model_end_18
set_option maxHeartbeats 4000000 in
set_option maxRecDepth 100000 in
/-- user() of the reference: NONE -/
theorem c_Model_user (l : Launch) (dC : Nat → ClassId) (dI : Nat → Nat → Nat) (h0 sz : Nat) (m0 m1 m3 m4 m5 m6 m7 m8 m9 m10 m11 m12 m13 m14 m15 : Value) : Met l y_Model_user (Cond.code y_Model_user b_Model_user 4 (Option.some Jvm.ClassFile.FieldType.int) :: xv0) ({ frames := 0, cells := 0, slots := 0, locals := 0 }) (va_Pc [.ref h0] (fun U => U.heap.size = sz ∧ va_P (dC, dI) classes [(h0, .inr (13, [m0, m1, .int 0, m3, m4, m5, m6, m7, m8, m9, m10, m11, m12, m13, m14, m15]))] U.heap ∧ va_K (dC, dI) classes [] U ∧ va_D (fun _ => True) [(h0, .inr (13, [m0, m1, .int 0, m3, m4, m5, m6, m7, m8, m9, m10, m11, m12, m13, m14, m15]))])) (va_Qi (fun (r : Int32) (_ : Unit) => r = -1) (fun (_ : Unit) (t : State) => va_P (dC, dI) classes [] t.heap ∧ va_K (dC, dI) classes [] t ∧ va_D (va_A [(h0, .inr (13, [m0, m1, .int 0, m3, m4, m5, m6, m7, m8, m9, m10, m11, m12, m13, m14, m15]))] sz) []) (va_A [(h0, .inr (13, [m0, m1, .int 0, m3, m4, m5, m6, m7, m8, m9, m10, m11, m12, m13, m14, m15]))] sz)) 0 0 (va_A [(h0, .inr (13, [m0, m1, .int 0, m3, m4, m5, m6, m7, m8, m9, m10, m11, m12, m13, m14, m15]))] sz) := by
  refine Met.ofW (cc := b_Model_user) (maxL := 4) (ret := (Option.some Jvm.ClassFile.FieldType.int)) (by decide) rfl ?_
  intro p e s m args below meth c s₁ B hml hv
  obtain ⟨rfl, hsz, hP, hK, hD0⟩ := hv
  have hx := B.exec
  have hb := B.bytes
  have hr := B.returns
  have hts := atoms_spec (ws := Cond.code y_Model_user b_Model_user 4 (Option.some Jvm.ClassFile.FieldType.int) :: xv0) B.pre
  have ht : ∀ w ∈ xv0, w.before _ s = true := fun w h => hts w (List.mem_cons_of_mem _ h)
  have hown : s.vm.findClass R_Model = some m.cls := findClass_of_methodNamed B.named
  have hlocks := B.notSynchronized
  subst hsz
  have hD := hD0.self (sz := s.heap.size)
  generalize hAe : va_A [(h0, .inr (13, [m0, m1, .int 0, m3, m4, m5, m6, m7, m8, m9, m10, m11, m12, m13, m14, m15]))] s.heap.size = A at hD ⊢
  have hA : ∀ q : Nat, s.heap.size ≤ q → A q := fun q h => by rw [← hAe]; exact Or.inr h
  have hS : va_S A s.heap s.heap [] := va_S.rf
  have hP : va_P (dC, dI) classes [(h0, .inr (13, [m0, m1, .int 0, m3, m4, m5, m6, m7, m8, m9, m10, m11, m12, m13, m14, m15]))] s.heap := hP
  have hl := lv_entry ([.ref h0]) (n := 4) (Nat.le_of_ble_eq_true rfl)
  rw [lg_entry_eq]
  generalize (lg_sl ([.ref h0]) ++ List.replicate (4 - (lg_sl ([.ref h0])).length) Slot.unset).toArray = ls at hl ⊢
  have hl : lv_has ls 4 [(0, .ref h0)] := hl
  refine lv_aload_n hx hb d_Model_user_0 rfl (lv_at hl 0 rfl) ?_
  refine lv_iconst (v := (nI 0)) hx hb d_Model_user_1 (by decide) ?_
  refine va_put (D := (dC, dI)) (ci := 13) (v := .int (nI 0)) (ty := .int) (C := R_Model) (T := F_ModelS) (N := 16) hx hb ht i_ModelS t_ModelS t_ModelS_ok n_ModelS hown hK hP hD hS 0 rfl rfl 0 (by decide) (ht _ v_15) (fun _ h9 => h9) rfl (by decide +kernel) rfl rfl (Nat.le_of_ble_eq_true rfl) d_Model_user_2 (fun H locs hP hD hS => ?_)
  have hP : va_P (dC, dI) classes [(h0, .inr (13, [.int (nI 0), m1, .int 0, m3, m4, m5, m6, m7, m8, m9, m10, m11, m12, m13, m14, m15]))] H := hP
  have hD : va_D A [(h0, .inr (13, [.int (nI 0), m1, .int 0, m3, m4, m5, m6, m7, m8, m9, m10, m11, m12, m13, m14, m15]))] := hD
  refine lv_aload_n hx hb d_Model_user_5 rfl (lv_at hl 0 rfl) ?_
  refine va_get (D := (dC, dI)) (ci := 13) (v := .int 0) (C := R_Model) (T := F_ModelS) (N := 16) hx hb ht i_ModelS hown hK hP 0 rfl rfl 2 (by decide) (ht _ v_17) (fun _ h9 => h9) rfl d_Model_user_6 ?_
  refine lv_istore_n (lv' := [(1, .int 0), (0, .ref h0)]) hx hb d_Model_user_9 rfl hl (by decide) rfl (fun ls hl => ?_)
  refine lv_aload_n hx hb d_Model_user_10 rfl (lv_at hl 1 rfl) ?_
  refine lv_iconst (v := (nI 0)) hx hb d_Model_user_11 (by decide) ?_
  refine va_put (D := (dC, dI)) (ci := 13) (v := .int (nI 0)) (ty := .int) (C := R_Model) (T := F_ModelS) (N := 16) hx hb ht i_ModelS t_ModelS t_ModelS_ok n_ModelS hown hK hP hD hS 0 rfl rfl 2 (by decide) (ht _ v_17) (fun _ h9 => h9) rfl (by decide +kernel) rfl rfl (Nat.le_of_ble_eq_true rfl) d_Model_user_12 (fun H locs hP hD hS => ?_)
  have hP : va_P (dC, dI) classes [(h0, .inr (13, [.int (nI 0), m1, .int (nI 0), m3, m4, m5, m6, m7, m8, m9, m10, m11, m12, m13, m14, m15]))] H := hP
  have hD : va_D A [(h0, .inr (13, [.int (nI 0), m1, .int (nI 0), m3, m4, m5, m6, m7, m8, m9, m10, m11, m12, m13, m14, m15]))] := hD
  refine lv_iconst (v := (nI 0)) hx hb d_Model_user_15 (by decide) ?_
  refine lv_istore_n (lv' := [(2, .int (nI 0)), (1, .int 0), (0, .ref h0)]) hx hb d_Model_user_16 rfl hl (by decide) rfl (fun ls hl => ?_)
  refine lv_iload_n hx hb d_Model_user_17 rfl (lv_at hl 0 rfl) ?_
  refine lv_iload_n hx hb d_Model_user_18 rfl (lv_at hl 1 rfl) ?_
  refine lv_icmp_ge (tgt := 40) hx hb d_Model_user_19 (by decide) (fun _ => ?_) (fun c_19_0 => absurd (by decide) c_19_0)
  refine lv_iload_n hx hb d_Model_user_40 rfl (lv_at hl 0 rfl) ?_
  refine lv_iconst (v := (nI 1)) hx hb d_Model_user_41 (by decide) ?_
  refine lv_icmp_lt (tgt := 94) hx hb d_Model_user_42 (by decide) (fun _ => ?_) (fun c_42 => absurd (by decide) c_42)
  refine lv_iconst (v := (-1)) hx hb d_Model_user_94 (by decide) ?_
  have hP9 := hP.sub (ws' := []) [] rfl
  have hD9 := hD.sub (ws' := []) [] (by decide +kernel) rfl
  have hK9 := hK.sub (tys' := []) [] rfl
  exact W.iret hx hb hr (fun t ht9 hW => ⟨⟨(-1), (), rfl, rfl, by rw [ht9]; exact hP9, va_K.moved hW.alike hK9, hD9⟩, hS.F ht9⟩) hS.2.2 d_Model_user_95
set_option maxHeartbeats 4000000 in
set_option maxRecDepth 100000 in
/-- open() of the reference: 0 -/
theorem c_Model_open (l : Launch) (dC : Nat → ClassId) (dI : Nat → Nat → Nat) (h0 sz qc qu : Nat) (cC cU : ClassId) (g : Nat → Int32) (m0 m1 m2 m5 m6 m7 m8 m9 m10 m11 m12 m13 m14 m15 : Value) : Met l y_Model_open (Cond.code y_Model_open b_Model_open 2 (Option.some Jvm.ClassFile.FieldType.int) :: xv0) ({ frames := 0, cells := 0, slots := 0, locals := 0 }) (va_Pc [.ref h0] (fun U => U.heap.size = sz ∧ va_P (dC, dI) classes [(h0, .inr (13, [m0, m1, m2, .ref qc, .ref qu, m5, m6, m7, m8, m9, m10, m11, m12, m13, m14, m15])), (qu, .inl (cU, 4, .inl (fun _ => 0))), (qc, .inl (cC, 4, .inl g))] U.heap ∧ va_K (dC, dI) classes [(cU, .boolean), (cC, .int)] U ∧ va_D (fun _ => True) [(h0, .inr (13, [m0, m1, m2, .ref qc, .ref qu, m5, m6, m7, m8, m9, m10, m11, m12, m13, m14, m15])), (qu, .inl (cU, 4, .inl (fun _ => 0))), (qc, .inl (cC, 4, .inl g))])) (va_Qi (fun (r : Int32) (_ : Unit) => r = 0) (fun (_ : Unit) (t : State) => va_P (dC, dI) classes [] t.heap ∧ va_K (dC, dI) classes [] t ∧ va_D (va_A [(h0, .inr (13, [m0, m1, m2, .ref qc, .ref qu, m5, m6, m7, m8, m9, m10, m11, m12, m13, m14, m15])), (qu, .inl (cU, 4, .inl (fun _ => 0))), (qc, .inl (cC, 4, .inl g))] sz) []) (va_A [(h0, .inr (13, [m0, m1, m2, .ref qc, .ref qu, m5, m6, m7, m8, m9, m10, m11, m12, m13, m14, m15])), (qu, .inl (cU, 4, .inl (fun _ => 0))), (qc, .inl (cC, 4, .inl g))] sz)) 0 0 (va_A [(h0, .inr (13, [m0, m1, m2, .ref qc, .ref qu, m5, m6, m7, m8, m9, m10, m11, m12, m13, m14, m15])), (qu, .inl (cU, 4, .inl (fun _ => 0))), (qc, .inl (cC, 4, .inl g))] sz) := by
  refine Met.ofW (cc := b_Model_open) (maxL := 2) (ret := (Option.some Jvm.ClassFile.FieldType.int)) (by decide) rfl ?_
  intro p e s m args below meth c s₁ B hml hv
  obtain ⟨rfl, hsz, hP, hK, hD0⟩ := hv
  have hx := B.exec
  have hb := B.bytes
  have hr := B.returns
  have hts := atoms_spec (ws := Cond.code y_Model_open b_Model_open 2 (Option.some Jvm.ClassFile.FieldType.int) :: xv0) B.pre
  have ht : ∀ w ∈ xv0, w.before _ s = true := fun w h => hts w (List.mem_cons_of_mem _ h)
  have hown : s.vm.findClass R_Model = some m.cls := findClass_of_methodNamed B.named
  have hlocks := B.notSynchronized
  subst hsz
  have hD := hD0.self (sz := s.heap.size)
  generalize hAe : va_A [(h0, .inr (13, [m0, m1, m2, .ref qc, .ref qu, m5, m6, m7, m8, m9, m10, m11, m12, m13, m14, m15])), (qu, .inl (cU, 4, .inl (fun _ => 0))), (qc, .inl (cC, 4, .inl g))] s.heap.size = A at hD ⊢
  have hA : ∀ q : Nat, s.heap.size ≤ q → A q := fun q h => by rw [← hAe]; exact Or.inr h
  have hS : va_S A s.heap s.heap [] := va_S.rf
  have hP : va_P (dC, dI) classes [(h0, .inr (13, [m0, m1, m2, .ref qc, .ref qu, m5, m6, m7, m8, m9, m10, m11, m12, m13, m14, m15])), (qu, .inl (cU, 4, .inl (fun _ => 0))), (qc, .inl (cC, 4, .inl g))] s.heap := hP
  have hl := lv_entry ([.ref h0]) (n := 2) (Nat.le_of_ble_eq_true rfl)
  rw [lg_entry_eq]
  generalize (lg_sl ([.ref h0]) ++ List.replicate (2 - (lg_sl ([.ref h0])).length) Slot.unset).toArray = ls at hl ⊢
  have hl : lv_has ls 2 [(0, .ref h0)] := hl
  refine lv_aload_n hx hb d_Model_open_0 rfl (lv_at hl 0 rfl) ?_
  refine lv_iconst (v := (nI 0)) hx hb d_Model_open_1 (by decide) ?_
  refine va_put (D := (dC, dI)) (ci := 13) (v := .int (nI 0)) (ty := .int) (C := R_Model) (T := F_ModelS) (N := 16) hx hb ht i_ModelS t_ModelS t_ModelS_ok n_ModelS hown hK hP hD hS 0 rfl rfl 0 (by decide) (ht _ v_15) (fun _ h9 => h9) rfl (by decide +kernel) rfl rfl (Nat.le_of_ble_eq_true rfl) d_Model_open_2 (fun H locs hP hD hS => ?_)
  have hP : va_P (dC, dI) classes [(h0, .inr (13, [.int (nI 0), m1, m2, .ref qc, .ref qu, m5, m6, m7, m8, m9, m10, m11, m12, m13, m14, m15])), (qu, .inl (cU, 4, .inl (fun _ => 0))), (qc, .inl (cC, 4, .inl g))] H := hP
  have hD : va_D A [(h0, .inr (13, [.int (nI 0), m1, m2, .ref qc, .ref qu, m5, m6, m7, m8, m9, m10, m11, m12, m13, m14, m15])), (qu, .inl (cU, 4, .inl (fun _ => 0))), (qc, .inl (cC, 4, .inl g))] := hD
  refine lv_iconst (v := (nI 0)) hx hb d_Model_open_5 (by decide) ?_
  refine lv_istore_n (lv' := [(1, .int (nI 0)), (0, .ref h0)]) hx hb d_Model_open_6 rfl hl (by decide) rfl (fun ls hl => ?_)
  refine lv_iload_n hx hb d_Model_open_7 rfl (lv_at hl 0 rfl) ?_
  refine lv_iconst (v := (nI 4)) hx hb d_Model_open_8 (by decide) ?_
  refine lv_icmp_ge (tgt := 46) hx hb d_Model_open_9 (by decide) (fun c_9 => absurd c_9 (by decide)) (fun _ => ?_)
  refine lv_aload_n hx hb d_Model_open_12 rfl (lv_at hl 1 rfl) ?_
  refine va_get (D := (dC, dI)) (ci := 13) (v := .ref qu) (C := R_Model) (T := F_ModelS) (N := 16) hx hb ht i_ModelS hown hK hP 0 rfl rfl 4 (by decide) (ht _ v_20) (fun _ h9 => h9) rfl d_Model_open_13 ?_
  refine lv_iload_n hx hb d_Model_open_16 rfl (lv_at hl 0 rfl) ?_
  refine va_zald hx hb hK hP 1 0 rfl rfl (vp_in_nI (by decide) (by decide)) d_Model_open_17 ?_
  refine xw_topn 0 rfl ?_
  refine lv_if_eq (tgt := 24) hx hb d_Model_open_18 (by decide) (fun _ => ?_) (fun c_18_0 => absurd (by decide) c_18_0)
  refine lv_aload_n hx hb d_Model_open_24 rfl (lv_at hl 1 rfl) ?_
  refine va_get (D := (dC, dI)) (ci := 13) (v := .ref qu) (C := R_Model) (T := F_ModelS) (N := 16) hx hb ht i_ModelS hown hK hP 0 rfl rfl 4 (by decide) (ht _ v_20) (fun _ h9 => h9) rfl d_Model_open_25 ?_
  refine lv_iload_n hx hb d_Model_open_28 rfl (lv_at hl 0 rfl) ?_
  refine lv_iconst (v := (nI 1)) hx hb d_Model_open_29 (by decide) ?_
  refine xw_zast hx hb hK hP hD hS 1 0 rfl rfl (vp_in_nI (by decide) (by decide)) d_Model_open_30 (fun f2 H locs hP hD hS => ?_)
  have hP : va_P (dC, dI) classes [(h0, .inr (13, [.int (nI 0), m1, m2, .ref qc, .ref qu, m5, m6, m7, m8, m9, m10, m11, m12, m13, m14, m15])), (qu, .inl (cU, 4, .inl f2)), (qc, .inl (cC, 4, .inl g))] H := hP
  have hD : va_D A [(h0, .inr (13, [.int (nI 0), m1, m2, .ref qc, .ref qu, m5, m6, m7, m8, m9, m10, m11, m12, m13, m14, m15])), (qu, .inl (cU, 4, .inl f2)), (qc, .inl (cC, 4, .inl g))] := hD
  refine lv_aload_n hx hb d_Model_open_31 rfl (lv_at hl 1 rfl) ?_
  refine va_get (D := (dC, dI)) (ci := 13) (v := .ref qc) (C := R_Model) (T := F_ModelS) (N := 16) hx hb ht i_ModelS hown hK hP 0 rfl rfl 3 (by decide) (ht _ v_19) (fun _ h9 => h9) rfl d_Model_open_32 ?_
  refine lv_iload_n hx hb d_Model_open_35 rfl (lv_at hl 0 rfl) ?_
  refine lv_iconst (v := (nI 0)) hx hb d_Model_open_36 (by decide) ?_
  refine xw_iast hx hb hK hP hD hS 2 1 rfl rfl (vp_in_nI (by decide) (by decide)) d_Model_open_37 (fun f3 H locs hP hD hS => ?_)
  have hP : va_P (dC, dI) classes [(h0, .inr (13, [.int (nI 0), m1, m2, .ref qc, .ref qu, m5, m6, m7, m8, m9, m10, m11, m12, m13, m14, m15])), (qu, .inl (cU, 4, .inl f2)), (qc, .inl (cC, 4, .inl f3))] H := hP
  have hD : va_D A [(h0, .inr (13, [.int (nI 0), m1, m2, .ref qc, .ref qu, m5, m6, m7, m8, m9, m10, m11, m12, m13, m14, m15])), (qu, .inl (cU, 4, .inl f2)), (qc, .inl (cC, 4, .inl f3))] := hD
  refine lv_iload_n hx hb d_Model_open_38 rfl (lv_at hl 0 rfl) ?_
  have hP9 := hP.sub (ws' := []) [] rfl
  have hD9 := hD.sub (ws' := []) [] (by decide +kernel) rfl
  have hK9 := hK.sub (tys' := []) [] rfl
  exact W.iret hx hb hr (fun t ht9 hW => ⟨⟨(nI 0), (), rfl, rfl, by rw [ht9]; exact hP9, va_K.moved hW.alike hK9, hD9⟩, hS.F ht9⟩) hS.2.2 d_Model_open_39
set_option maxHeartbeats 4000000 in
set_option maxRecDepth 100000 in
/-- isOpen(c) of the reference: false -/
theorem c_Model_isOpen (l : Launch) (dC : Nat → ClassId) (dI : Nat → Nat → Nat) (h0 sz qu : Nat) (cU : ClassId) (cj : Int32) (m0 m1 m2 m3 m5 m6 m7 m8 m9 m10 m11 m12 m13 m14 m15 : Value) : Met l y_Model_isOpen (Cond.code y_Model_isOpen b_Model_isOpen 2 (Option.some Jvm.ClassFile.FieldType.boolean) :: xv0) ({ frames := 0, cells := 0, slots := 0, locals := 0 }) (va_Pc [.ref h0, .int cj] (fun U => U.heap.size = sz ∧ va_P (dC, dI) classes [(h0, .inr (13, [m0, m1, m2, m3, .ref qu, m5, m6, m7, m8, m9, m10, m11, m12, m13, m14, m15])), (qu, .inl (cU, 4, .inl (fun _ => 0)))] U.heap ∧ va_K (dC, dI) classes [(cU, .boolean)] U ∧ va_D (fun _ => True) [(h0, .inr (13, [m0, m1, m2, m3, .ref qu, m5, m6, m7, m8, m9, m10, m11, m12, m13, m14, m15])), (qu, .inl (cU, 4, .inl (fun _ => 0)))])) (va_Qi (fun (r : Int32) (_ : Unit) => r = 0) (fun (_ : Unit) (t : State) => va_P (dC, dI) classes [] t.heap ∧ va_K (dC, dI) classes [] t ∧ va_D (va_A [(h0, .inr (13, [m0, m1, m2, m3, .ref qu, m5, m6, m7, m8, m9, m10, m11, m12, m13, m14, m15])), (qu, .inl (cU, 4, .inl (fun _ => 0)))] sz) []) (va_A [(h0, .inr (13, [m0, m1, m2, m3, .ref qu, m5, m6, m7, m8, m9, m10, m11, m12, m13, m14, m15])), (qu, .inl (cU, 4, .inl (fun _ => 0)))] sz)) 0 0 (va_A [(h0, .inr (13, [m0, m1, m2, m3, .ref qu, m5, m6, m7, m8, m9, m10, m11, m12, m13, m14, m15])), (qu, .inl (cU, 4, .inl (fun _ => 0)))] sz) := by
  refine Met.ofW (cc := b_Model_isOpen) (maxL := 2) (ret := (Option.some Jvm.ClassFile.FieldType.boolean)) (by decide) rfl ?_
  intro p e s m args below meth c s₁ B hml hv
  obtain ⟨rfl, hsz, hP, hK, hD0⟩ := hv
  have hx := B.exec
  have hb := B.bytes
  have hr := B.returns
  have hts := atoms_spec (ws := Cond.code y_Model_isOpen b_Model_isOpen 2 (Option.some Jvm.ClassFile.FieldType.boolean) :: xv0) B.pre
  have ht : ∀ w ∈ xv0, w.before _ s = true := fun w h => hts w (List.mem_cons_of_mem _ h)
  have hown : s.vm.findClass R_Model = some m.cls := findClass_of_methodNamed B.named
  have hlocks := B.notSynchronized
  subst hsz
  have hD := hD0.self (sz := s.heap.size)
  generalize hAe : va_A [(h0, .inr (13, [m0, m1, m2, m3, .ref qu, m5, m6, m7, m8, m9, m10, m11, m12, m13, m14, m15])), (qu, .inl (cU, 4, .inl (fun _ => 0)))] s.heap.size = A at hD ⊢
  have hA : ∀ q : Nat, s.heap.size ≤ q → A q := fun q h => by rw [← hAe]; exact Or.inr h
  have hS : va_S A s.heap s.heap [] := va_S.rf
  have hP : va_P (dC, dI) classes [(h0, .inr (13, [m0, m1, m2, m3, .ref qu, m5, m6, m7, m8, m9, m10, m11, m12, m13, m14, m15])), (qu, .inl (cU, 4, .inl (fun _ => 0)))] s.heap := hP
  have hl := lv_entry ([.ref h0, .int cj]) (n := 2) (Nat.le_of_ble_eq_true rfl)
  rw [lg_entry_eq]
  generalize (lg_sl ([.ref h0, .int cj]) ++ List.replicate (2 - (lg_sl ([.ref h0, .int cj])).length) Slot.unset).toArray = ls at hl ⊢
  have hl : lv_has ls 2 [(0, .ref h0), (1, .int cj)] := hl
  refine lv_aload_n hx hb d_Model_isOpen_0 rfl (lv_at hl 0 rfl) ?_
  refine lv_iconst (v := (nI 0)) hx hb d_Model_isOpen_1 (by decide) ?_
  refine va_put (D := (dC, dI)) (ci := 13) (v := .int (nI 0)) (ty := .int) (C := R_Model) (T := F_ModelS) (N := 16) hx hb ht i_ModelS t_ModelS t_ModelS_ok n_ModelS hown hK hP hD hS 0 rfl rfl 0 (by decide) (ht _ v_15) (fun _ h9 => h9) rfl (by decide +kernel) rfl rfl (Nat.le_of_ble_eq_true rfl) d_Model_isOpen_2 (fun H locs hP hD hS => ?_)
  have hP : va_P (dC, dI) classes [(h0, .inr (13, [.int (nI 0), m1, m2, m3, .ref qu, m5, m6, m7, m8, m9, m10, m11, m12, m13, m14, m15])), (qu, .inl (cU, 4, .inl (fun _ => 0)))] H := hP
  have hD : va_D A [(h0, .inr (13, [.int (nI 0), m1, m2, m3, .ref qu, m5, m6, m7, m8, m9, m10, m11, m12, m13, m14, m15])), (qu, .inl (cU, 4, .inl (fun _ => 0)))] := hD
  refine lv_iload_n hx hb d_Model_isOpen_5 rfl (lv_at hl 1 rfl) ?_
  refine lv_if_lt (tgt := 27) hx hb d_Model_isOpen_6 (by decide) (fun c_6_0 => ?_) (fun c_6_0 => ?_)
  · refine lv_iconst (v := (nI 0)) hx hb d_Model_isOpen_27 (by decide) ?_
    have hP9 := hP.sub (ws' := []) [] rfl
    have hD9 := hD.sub (ws' := []) [] (by decide +kernel) rfl
    have hK9 := hK.sub (tys' := []) [] rfl
    exact W.zret (ty := .boolean) hx hb hr rfl (fun t ht9 hW => ⟨⟨(nI 0), (), rfl, rfl, by rw [ht9]; exact hP9, va_K.moved hW.alike hK9, hD9⟩, hS.F ht9⟩) hS.2.2 d_Model_isOpen_28
  · refine lv_iload_n hx hb d_Model_isOpen_9 rfl (lv_at hl 1 rfl) ?_
    refine lv_iconst (v := (nI 4)) hx hb d_Model_isOpen_10 (by decide) ?_
    refine lv_icmp_ge (tgt := 27) hx hb d_Model_isOpen_11 (by decide) (fun c_11_51 => ?_) (fun c_11_51 => ?_)
    · refine lv_iconst (v := (nI 0)) hx hb d_Model_isOpen_27 (by decide) ?_
      have hP9 := hP.sub (ws' := []) [] rfl
      have hD9 := hD.sub (ws' := []) [] (by decide +kernel) rfl
      have hK9 := hK.sub (tys' := []) [] rfl
      exact W.zret (ty := .boolean) hx hb hr rfl (fun t ht9 hW => ⟨⟨(nI 0), (), rfl, rfl, by rw [ht9]; exact hP9, va_K.moved hW.alike hK9, hD9⟩, hS.F ht9⟩) hS.2.2 d_Model_isOpen_28
    · refine lv_aload_n hx hb d_Model_isOpen_14 rfl (lv_at hl 0 rfl) ?_
      refine va_get (D := (dC, dI)) (ci := 13) (v := .ref qu) (C := R_Model) (T := F_ModelS) (N := 16) hx hb ht i_ModelS hown hK hP 0 rfl rfl 4 (by decide) (ht _ v_20) (fun _ h9 => h9) rfl d_Model_isOpen_15 ?_
      refine lv_iload_n hx hb d_Model_isOpen_18 rfl (lv_at hl 1 rfl) ?_
      obtain ⟨k, hk, rfl⟩ := xh_four c_6_0 c_11_51
      rcases (show k = 0 ∨ k = 1 ∨ k = 2 ∨ k = 3 by omega) with rfl | rfl | rfl | rfl
      · refine va_zald hx hb hK hP 1 0 rfl rfl (vp_in_nI (by decide) (by decide)) d_Model_isOpen_19 ?_
        refine xw_topn 0 rfl ?_
        refine lv_if_eq (tgt := 27) hx hb d_Model_isOpen_20 (by decide) (fun _ => ?_) (fun c_20_102 => absurd (by decide) c_20_102)
        refine lv_iconst (v := (nI 0)) hx hb d_Model_isOpen_27 (by decide) ?_
        have hP9 := hP.sub (ws' := []) [] rfl
        have hD9 := hD.sub (ws' := []) [] (by decide +kernel) rfl
        have hK9 := hK.sub (tys' := []) [] rfl
        exact W.zret (ty := .boolean) hx hb hr rfl (fun t ht9 hW => ⟨⟨(nI 0), (), rfl, rfl, by rw [ht9]; exact hP9, va_K.moved hW.alike hK9, hD9⟩, hS.F ht9⟩) hS.2.2 d_Model_isOpen_28
      · refine va_zald hx hb hK hP 1 0 rfl rfl (vp_in_nI (by decide) (by decide)) d_Model_isOpen_19 ?_
        refine xw_topn 0 rfl ?_
        refine lv_if_eq (tgt := 27) hx hb d_Model_isOpen_20 (by decide) (fun _ => ?_) (fun c_20_103 => absurd (by decide) c_20_103)
        refine lv_iconst (v := (nI 0)) hx hb d_Model_isOpen_27 (by decide) ?_
        have hP9 := hP.sub (ws' := []) [] rfl
        have hD9 := hD.sub (ws' := []) [] (by decide +kernel) rfl
        have hK9 := hK.sub (tys' := []) [] rfl
        exact W.zret (ty := .boolean) hx hb hr rfl (fun t ht9 hW => ⟨⟨(nI 0), (), rfl, rfl, by rw [ht9]; exact hP9, va_K.moved hW.alike hK9, hD9⟩, hS.F ht9⟩) hS.2.2 d_Model_isOpen_28
      · refine va_zald hx hb hK hP 1 0 rfl rfl (vp_in_nI (by decide) (by decide)) d_Model_isOpen_19 ?_
        refine xw_topn 0 rfl ?_
        refine lv_if_eq (tgt := 27) hx hb d_Model_isOpen_20 (by decide) (fun _ => ?_) (fun c_20_104 => absurd (by decide) c_20_104)
        refine lv_iconst (v := (nI 0)) hx hb d_Model_isOpen_27 (by decide) ?_
        have hP9 := hP.sub (ws' := []) [] rfl
        have hD9 := hD.sub (ws' := []) [] (by decide +kernel) rfl
        have hK9 := hK.sub (tys' := []) [] rfl
        exact W.zret (ty := .boolean) hx hb hr rfl (fun t ht9 hW => ⟨⟨(nI 0), (), rfl, rfl, by rw [ht9]; exact hP9, va_K.moved hW.alike hK9, hD9⟩, hS.F ht9⟩) hS.2.2 d_Model_isOpen_28
      · refine va_zald hx hb hK hP 1 0 rfl rfl (vp_in_nI (by decide) (by decide)) d_Model_isOpen_19 ?_
        refine xw_topn 0 rfl ?_
        refine lv_if_eq (tgt := 27) hx hb d_Model_isOpen_20 (by decide) (fun _ => ?_) (fun c_20_105 => absurd (by decide) c_20_105)
        refine lv_iconst (v := (nI 0)) hx hb d_Model_isOpen_27 (by decide) ?_
        have hP9 := hP.sub (ws' := []) [] rfl
        have hD9 := hD.sub (ws' := []) [] (by decide +kernel) rfl
        have hK9 := hK.sub (tys' := []) [] rfl
        exact W.zret (ty := .boolean) hx hb hr rfl (fun t ht9 hW => ⟨⟨(nI 0), (), rfl, rfl, by rw [ht9]; exact hP9, va_K.moved hW.alike hK9, hD9⟩, hS.F ht9⟩) hS.2.2 d_Model_isOpen_28
set_option maxHeartbeats 4000000 in
set_option maxRecDepth 100000 in
/-- shut(c) of the reference: false -/
theorem c_Model_shut (l : Launch) (dC : Nat → ClassId) (dI : Nat → Nat → Nat) (h0 sz qu : Nat) (cU : ClassId) (cj : Int32) (m0 m1 m2 m3 m5 m6 m7 m8 m9 m10 m11 m12 m13 m14 m15 : Value) : Met l y_Model_shut (Cond.code y_Model_shut b_Model_shut 2 (Option.some Jvm.ClassFile.FieldType.boolean) :: xv0) ({ frames := 0, cells := 0, slots := 0, locals := 0 }) (va_Pc [.ref h0, .int cj] (fun U => U.heap.size = sz ∧ va_P (dC, dI) classes [(h0, .inr (13, [m0, m1, m2, m3, .ref qu, m5, m6, m7, m8, m9, m10, m11, m12, m13, m14, m15])), (qu, .inl (cU, 4, .inl (fun _ => 0)))] U.heap ∧ va_K (dC, dI) classes [(cU, .boolean)] U ∧ va_D (fun _ => True) [(h0, .inr (13, [m0, m1, m2, m3, .ref qu, m5, m6, m7, m8, m9, m10, m11, m12, m13, m14, m15])), (qu, .inl (cU, 4, .inl (fun _ => 0)))])) (va_Qi (fun (r : Int32) (_ : Unit) => r = 0) (fun (_ : Unit) (t : State) => va_P (dC, dI) classes [] t.heap ∧ va_K (dC, dI) classes [] t ∧ va_D (va_A [(h0, .inr (13, [m0, m1, m2, m3, .ref qu, m5, m6, m7, m8, m9, m10, m11, m12, m13, m14, m15])), (qu, .inl (cU, 4, .inl (fun _ => 0)))] sz) []) (va_A [(h0, .inr (13, [m0, m1, m2, m3, .ref qu, m5, m6, m7, m8, m9, m10, m11, m12, m13, m14, m15])), (qu, .inl (cU, 4, .inl (fun _ => 0)))] sz)) 0 0 (va_A [(h0, .inr (13, [m0, m1, m2, m3, .ref qu, m5, m6, m7, m8, m9, m10, m11, m12, m13, m14, m15])), (qu, .inl (cU, 4, .inl (fun _ => 0)))] sz) := by
  refine Met.ofW (cc := b_Model_shut) (maxL := 2) (ret := (Option.some Jvm.ClassFile.FieldType.boolean)) (by decide) rfl ?_
  intro p e s m args below meth c s₁ B hml hv
  obtain ⟨rfl, hsz, hP, hK, hD0⟩ := hv
  have hx := B.exec
  have hb := B.bytes
  have hr := B.returns
  have hts := atoms_spec (ws := Cond.code y_Model_shut b_Model_shut 2 (Option.some Jvm.ClassFile.FieldType.boolean) :: xv0) B.pre
  have ht : ∀ w ∈ xv0, w.before _ s = true := fun w h => hts w (List.mem_cons_of_mem _ h)
  have hown : s.vm.findClass R_Model = some m.cls := findClass_of_methodNamed B.named
  have hlocks := B.notSynchronized
  subst hsz
  have hD := hD0.self (sz := s.heap.size)
  generalize hAe : va_A [(h0, .inr (13, [m0, m1, m2, m3, .ref qu, m5, m6, m7, m8, m9, m10, m11, m12, m13, m14, m15])), (qu, .inl (cU, 4, .inl (fun _ => 0)))] s.heap.size = A at hD ⊢
  have hA : ∀ q : Nat, s.heap.size ≤ q → A q := fun q h => by rw [← hAe]; exact Or.inr h
  have hS : va_S A s.heap s.heap [] := va_S.rf
  have hP : va_P (dC, dI) classes [(h0, .inr (13, [m0, m1, m2, m3, .ref qu, m5, m6, m7, m8, m9, m10, m11, m12, m13, m14, m15])), (qu, .inl (cU, 4, .inl (fun _ => 0)))] s.heap := hP
  have hl := lv_entry ([.ref h0, .int cj]) (n := 2) (Nat.le_of_ble_eq_true rfl)
  rw [lg_entry_eq]
  generalize (lg_sl ([.ref h0, .int cj]) ++ List.replicate (2 - (lg_sl ([.ref h0, .int cj])).length) Slot.unset).toArray = ls at hl ⊢
  have hl : lv_has ls 2 [(0, .ref h0), (1, .int cj)] := hl
  refine lv_aload_n hx hb d_Model_shut_0 rfl (lv_at hl 0 rfl) ?_
  refine lv_iconst (v := (nI 0)) hx hb d_Model_shut_1 (by decide) ?_
  refine va_put (D := (dC, dI)) (ci := 13) (v := .int (nI 0)) (ty := .int) (C := R_Model) (T := F_ModelS) (N := 16) hx hb ht i_ModelS t_ModelS t_ModelS_ok n_ModelS hown hK hP hD hS 0 rfl rfl 0 (by decide) (ht _ v_15) (fun _ h9 => h9) rfl (by decide +kernel) rfl rfl (Nat.le_of_ble_eq_true rfl) d_Model_shut_2 (fun H locs hP hD hS => ?_)
  have hP : va_P (dC, dI) classes [(h0, .inr (13, [.int (nI 0), m1, m2, m3, .ref qu, m5, m6, m7, m8, m9, m10, m11, m12, m13, m14, m15])), (qu, .inl (cU, 4, .inl (fun _ => 0)))] H := hP
  have hD : va_D A [(h0, .inr (13, [.int (nI 0), m1, m2, m3, .ref qu, m5, m6, m7, m8, m9, m10, m11, m12, m13, m14, m15])), (qu, .inl (cU, 4, .inl (fun _ => 0)))] := hD
  refine lv_iload_n hx hb d_Model_shut_5 rfl (lv_at hl 1 rfl) ?_
  refine lv_if_lt (tgt := 23) hx hb d_Model_shut_6 (by decide) (fun c_6_0 => ?_) (fun c_6_0 => ?_)
  · refine lv_iconst (v := (nI 0)) hx hb d_Model_shut_23 (by decide) ?_
    have hP9 := hP.sub (ws' := []) [] rfl
    have hD9 := hD.sub (ws' := []) [] (by decide +kernel) rfl
    have hK9 := hK.sub (tys' := []) [] rfl
    exact W.zret (ty := .boolean) hx hb hr rfl (fun t ht9 hW => ⟨⟨(nI 0), (), rfl, rfl, by rw [ht9]; exact hP9, va_K.moved hW.alike hK9, hD9⟩, hS.F ht9⟩) hS.2.2 d_Model_shut_24
  · refine lv_iload_n hx hb d_Model_shut_9 rfl (lv_at hl 1 rfl) ?_
    refine lv_iconst (v := (nI 3)) hx hb d_Model_shut_10 (by decide) ?_
    refine lv_icmp_gt (tgt := 23) hx hb d_Model_shut_11 (by decide) (fun c_11_51 => ?_) (fun c_11_51 => ?_)
    · refine lv_iconst (v := (nI 0)) hx hb d_Model_shut_23 (by decide) ?_
      have hP9 := hP.sub (ws' := []) [] rfl
      have hD9 := hD.sub (ws' := []) [] (by decide +kernel) rfl
      have hK9 := hK.sub (tys' := []) [] rfl
      exact W.zret (ty := .boolean) hx hb hr rfl (fun t ht9 hW => ⟨⟨(nI 0), (), rfl, rfl, by rw [ht9]; exact hP9, va_K.moved hW.alike hK9, hD9⟩, hS.F ht9⟩) hS.2.2 d_Model_shut_24
    · refine lv_aload_n hx hb d_Model_shut_14 rfl (lv_at hl 0 rfl) ?_
      refine va_get (D := (dC, dI)) (ci := 13) (v := .ref qu) (C := R_Model) (T := F_ModelS) (N := 16) hx hb ht i_ModelS hown hK hP 0 rfl rfl 4 (by decide) (ht _ v_20) (fun _ h9 => h9) rfl d_Model_shut_15 ?_
      refine lv_iload_n hx hb d_Model_shut_18 rfl (lv_at hl 1 rfl) ?_
      obtain ⟨k, hk, rfl⟩ := xh_four c_6_0 (xh_3 c_11_51)
      rcases (show k = 0 ∨ k = 1 ∨ k = 2 ∨ k = 3 by omega) with rfl | rfl | rfl | rfl
      · refine va_zald hx hb hK hP 1 0 rfl rfl (vp_in_nI (by decide) (by decide)) d_Model_shut_19 ?_
        refine xw_topn 0 rfl ?_
        refine lv_if_ne (tgt := 25) hx hb d_Model_shut_20 (by decide) (fun c_20_102 => absurd (by decide) c_20_102) (fun _ => ?_)
        refine lv_iconst (v := (nI 0)) hx hb d_Model_shut_23 (by decide) ?_
        have hP9 := hP.sub (ws' := []) [] rfl
        have hD9 := hD.sub (ws' := []) [] (by decide +kernel) rfl
        have hK9 := hK.sub (tys' := []) [] rfl
        exact W.zret (ty := .boolean) hx hb hr rfl (fun t ht9 hW => ⟨⟨(nI 0), (), rfl, rfl, by rw [ht9]; exact hP9, va_K.moved hW.alike hK9, hD9⟩, hS.F ht9⟩) hS.2.2 d_Model_shut_24
      · refine va_zald hx hb hK hP 1 0 rfl rfl (vp_in_nI (by decide) (by decide)) d_Model_shut_19 ?_
        refine xw_topn 0 rfl ?_
        refine lv_if_ne (tgt := 25) hx hb d_Model_shut_20 (by decide) (fun c_20_103 => absurd (by decide) c_20_103) (fun _ => ?_)
        refine lv_iconst (v := (nI 0)) hx hb d_Model_shut_23 (by decide) ?_
        have hP9 := hP.sub (ws' := []) [] rfl
        have hD9 := hD.sub (ws' := []) [] (by decide +kernel) rfl
        have hK9 := hK.sub (tys' := []) [] rfl
        exact W.zret (ty := .boolean) hx hb hr rfl (fun t ht9 hW => ⟨⟨(nI 0), (), rfl, rfl, by rw [ht9]; exact hP9, va_K.moved hW.alike hK9, hD9⟩, hS.F ht9⟩) hS.2.2 d_Model_shut_24
      · refine va_zald hx hb hK hP 1 0 rfl rfl (vp_in_nI (by decide) (by decide)) d_Model_shut_19 ?_
        refine xw_topn 0 rfl ?_
        refine lv_if_ne (tgt := 25) hx hb d_Model_shut_20 (by decide) (fun c_20_104 => absurd (by decide) c_20_104) (fun _ => ?_)
        refine lv_iconst (v := (nI 0)) hx hb d_Model_shut_23 (by decide) ?_
        have hP9 := hP.sub (ws' := []) [] rfl
        have hD9 := hD.sub (ws' := []) [] (by decide +kernel) rfl
        have hK9 := hK.sub (tys' := []) [] rfl
        exact W.zret (ty := .boolean) hx hb hr rfl (fun t ht9 hW => ⟨⟨(nI 0), (), rfl, rfl, by rw [ht9]; exact hP9, va_K.moved hW.alike hK9, hD9⟩, hS.F ht9⟩) hS.2.2 d_Model_shut_24
      · refine va_zald hx hb hK hP 1 0 rfl rfl (vp_in_nI (by decide) (by decide)) d_Model_shut_19 ?_
        refine xw_topn 0 rfl ?_
        refine lv_if_ne (tgt := 25) hx hb d_Model_shut_20 (by decide) (fun c_20_105 => absurd (by decide) c_20_105) (fun _ => ?_)
        refine lv_iconst (v := (nI 0)) hx hb d_Model_shut_23 (by decide) ?_
        have hP9 := hP.sub (ws' := []) [] rfl
        have hD9 := hD.sub (ws' := []) [] (by decide +kernel) rfl
        have hK9 := hK.sub (tys' := []) [] rfl
        exact W.zret (ty := .boolean) hx hb hr rfl (fun t ht9 hW => ⟨⟨(nI 0), (), rfl, rfl, by rw [ht9]; exact hP9, va_K.moved hW.alike hK9, hD9⟩, hS.F ht9⟩) hS.2.2 d_Model_shut_24
set_option maxHeartbeats 4000000 in
set_option maxRecDepth 100000 in
/-- come(c) of the reference: thrown -/
theorem c_Model_come (l : Launch) (dC : Nat → ClassId) (dI : Nat → Nat → Nat) (h0 sz qu : Nat) (cU : ClassId) (cj : Int32) (m0 m1 m2 m3 m5 m6 m7 m8 m9 m10 m11 m12 m13 m14 m15 : Value) : Met l y_Model_come (Cond.code y_Model_come b_Model_come 3 (Option.some Jvm.ClassFile.FieldType.int) :: xv0) ({ frames := 0, cells := 0, slots := 0, locals := 0 }) (va_Pc [.ref h0, .int cj] (fun U => U.heap.size = sz ∧ va_P (dC, dI) classes [(h0, .inr (13, [m0, m1, m2, m3, .ref qu, m5, m6, m7, m8, m9, m10, m11, m12, m13, m14, m15])), (qu, .inl (cU, 4, .inl (fun _ => 0)))] U.heap ∧ va_K (dC, dI) classes [(cU, .boolean)] U ∧ va_D (fun _ => True) [(h0, .inr (13, [m0, m1, m2, m3, .ref qu, m5, m6, m7, m8, m9, m10, m11, m12, m13, m14, m15])), (qu, .inl (cU, 4, .inl (fun _ => 0)))])) (va_Qi (fun (r : Int32) (_ : Unit) => r = 0) (fun (_ : Unit) (t : State) => va_P (dC, dI) classes [(h0, .inr (13, [.int (nI 1), m1, m2, m3, .ref qu, m5, m6, m7, m8, m9, m10, m11, m12, m13, m14, m15]))] t.heap ∧ va_K (dC, dI) classes [] t ∧ va_D (va_A [(h0, .inr (13, [m0, m1, m2, m3, .ref qu, m5, m6, m7, m8, m9, m10, m11, m12, m13, m14, m15])), (qu, .inl (cU, 4, .inl (fun _ => 0)))] sz) [(h0, .inr (13, [.int (nI 1), m1, m2, m3, .ref qu, m5, m6, m7, m8, m9, m10, m11, m12, m13, m14, m15]))]) (va_A [(h0, .inr (13, [m0, m1, m2, m3, .ref qu, m5, m6, m7, m8, m9, m10, m11, m12, m13, m14, m15])), (qu, .inl (cU, 4, .inl (fun _ => 0)))] sz)) 0 0 (va_A [(h0, .inr (13, [m0, m1, m2, m3, .ref qu, m5, m6, m7, m8, m9, m10, m11, m12, m13, m14, m15])), (qu, .inl (cU, 4, .inl (fun _ => 0)))] sz) := by
  refine Met.ofW (cc := b_Model_come) (maxL := 3) (ret := (Option.some Jvm.ClassFile.FieldType.int)) (by decide) rfl ?_
  intro p e s m args below meth c s₁ B hml hv
  obtain ⟨rfl, hsz, hP, hK, hD0⟩ := hv
  have hx := B.exec
  have hb := B.bytes
  have hr := B.returns
  have hts := atoms_spec (ws := Cond.code y_Model_come b_Model_come 3 (Option.some Jvm.ClassFile.FieldType.int) :: xv0) B.pre
  have ht : ∀ w ∈ xv0, w.before _ s = true := fun w h => hts w (List.mem_cons_of_mem _ h)
  have hown : s.vm.findClass R_Model = some m.cls := findClass_of_methodNamed B.named
  have hlocks := B.notSynchronized
  subst hsz
  have hD := hD0.self (sz := s.heap.size)
  generalize hAe : va_A [(h0, .inr (13, [m0, m1, m2, m3, .ref qu, m5, m6, m7, m8, m9, m10, m11, m12, m13, m14, m15])), (qu, .inl (cU, 4, .inl (fun _ => 0)))] s.heap.size = A at hD ⊢
  have hA : ∀ q : Nat, s.heap.size ≤ q → A q := fun q h => by rw [← hAe]; exact Or.inr h
  have hS : va_S A s.heap s.heap [] := va_S.rf
  have hP : va_P (dC, dI) classes [(h0, .inr (13, [m0, m1, m2, m3, .ref qu, m5, m6, m7, m8, m9, m10, m11, m12, m13, m14, m15])), (qu, .inl (cU, 4, .inl (fun _ => 0)))] s.heap := hP
  have hl := lv_entry ([.ref h0, .int cj]) (n := 3) (Nat.le_of_ble_eq_true rfl)
  rw [lg_entry_eq]
  generalize (lg_sl ([.ref h0, .int cj]) ++ List.replicate (3 - (lg_sl ([.ref h0, .int cj])).length) Slot.unset).toArray = ls at hl ⊢
  have hl : lv_has ls 3 [(0, .ref h0), (1, .int cj)] := hl
  refine lv_aload_n hx hb d_Model_come_0 rfl (lv_at hl 0 rfl) ?_
  refine lv_iload_n hx hb d_Model_come_1 rfl (lv_at hl 1 rfl) ?_
  refine lv_if_lt (tgt := 23) hx hb d_Model_come_2 (by decide) (fun c_2_0 => ?_) (fun c_2_0 => ?_)
  · refine lv_iconst (v := (nI 1)) hx hb d_Model_come_23 (by decide) ?_
    refine va_put (D := (dC, dI)) (ci := 13) (v := .int (nI 1)) (ty := .int) (C := R_Model) (T := F_ModelS) (N := 16) hx hb ht i_ModelS t_ModelS t_ModelS_ok n_ModelS hown hK hP hD hS 0 rfl rfl 0 (by decide) (ht _ v_15) (fun _ h9 => h9) rfl (by decide +kernel) rfl rfl (Nat.le_of_ble_eq_true rfl) d_Model_come_24 (fun H locs hP hD hS => ?_)
    have hP : va_P (dC, dI) classes [(h0, .inr (13, [.int (nI 1), m1, m2, m3, .ref qu, m5, m6, m7, m8, m9, m10, m11, m12, m13, m14, m15])), (qu, .inl (cU, 4, .inl (fun _ => 0)))] H := hP
    have hD : va_D A [(h0, .inr (13, [.int (nI 1), m1, m2, m3, .ref qu, m5, m6, m7, m8, m9, m10, m11, m12, m13, m14, m15])), (qu, .inl (cU, 4, .inl (fun _ => 0)))] := hD
    refine lv_aload_n hx hb d_Model_come_27 rfl (lv_at hl 0 rfl) ?_
    refine va_get (D := (dC, dI)) (ci := 13) (v := .int (nI 1)) (C := R_Model) (T := F_ModelS) (N := 16) hx hb ht i_ModelS hown hK hP 0 rfl rfl 0 (by decide) (ht _ v_15) (fun _ h9 => h9) rfl d_Model_come_28 ?_
    refine lv_iconst (v := (nI 1)) hx hb d_Model_come_31 (by decide) ?_
    refine lv_icmp_ne (tgt := 37) hx hb d_Model_come_32 (by decide) (fun c_32 => absurd (by decide) c_32) (fun _ => ?_)
    refine lv_iconst (v := (nI 0)) hx hb d_Model_come_35 (by decide) ?_
    have hP9 := hP.sub (ws' := [(h0, .inr (13, [.int (nI 1), m1, m2, m3, .ref qu, m5, m6, m7, m8, m9, m10, m11, m12, m13, m14, m15]))]) [0] rfl
    have hD9 := hD.sub (ws' := [(h0, .inr (13, [.int (nI 1), m1, m2, m3, .ref qu, m5, m6, m7, m8, m9, m10, m11, m12, m13, m14, m15]))]) [0] (by decide +kernel) rfl
    have hK9 := hK.sub (tys' := []) [] rfl
    exact W.iret hx hb hr (fun t ht9 hW => ⟨⟨(nI 0), (), rfl, rfl, by rw [ht9]; exact hP9, va_K.moved hW.alike hK9, hD9⟩, hS.F ht9⟩) hS.2.2 d_Model_come_36
  · refine lv_iload_n hx hb d_Model_come_5 rfl (lv_at hl 1 rfl) ?_
    refine lv_iconst (v := (nI 4)) hx hb d_Model_come_6 (by decide) ?_
    refine lv_icmp_ge (tgt := 23) hx hb d_Model_come_7 (by decide) (fun c_7_51 => ?_) (fun c_7_51 => ?_)
    · refine lv_iconst (v := (nI 1)) hx hb d_Model_come_23 (by decide) ?_
      refine va_put (D := (dC, dI)) (ci := 13) (v := .int (nI 1)) (ty := .int) (C := R_Model) (T := F_ModelS) (N := 16) hx hb ht i_ModelS t_ModelS t_ModelS_ok n_ModelS hown hK hP hD hS 0 rfl rfl 0 (by decide) (ht _ v_15) (fun _ h9 => h9) rfl (by decide +kernel) rfl rfl (Nat.le_of_ble_eq_true rfl) d_Model_come_24 (fun H locs hP hD hS => ?_)
      have hP : va_P (dC, dI) classes [(h0, .inr (13, [.int (nI 1), m1, m2, m3, .ref qu, m5, m6, m7, m8, m9, m10, m11, m12, m13, m14, m15])), (qu, .inl (cU, 4, .inl (fun _ => 0)))] H := hP
      have hD : va_D A [(h0, .inr (13, [.int (nI 1), m1, m2, m3, .ref qu, m5, m6, m7, m8, m9, m10, m11, m12, m13, m14, m15])), (qu, .inl (cU, 4, .inl (fun _ => 0)))] := hD
      refine lv_aload_n hx hb d_Model_come_27 rfl (lv_at hl 0 rfl) ?_
      refine va_get (D := (dC, dI)) (ci := 13) (v := .int (nI 1)) (C := R_Model) (T := F_ModelS) (N := 16) hx hb ht i_ModelS hown hK hP 0 rfl rfl 0 (by decide) (ht _ v_15) (fun _ h9 => h9) rfl d_Model_come_28 ?_
      refine lv_iconst (v := (nI 1)) hx hb d_Model_come_31 (by decide) ?_
      refine lv_icmp_ne (tgt := 37) hx hb d_Model_come_32 (by decide) (fun c_32 => absurd (by decide) c_32) (fun _ => ?_)
      refine lv_iconst (v := (nI 0)) hx hb d_Model_come_35 (by decide) ?_
      have hP9 := hP.sub (ws' := [(h0, .inr (13, [.int (nI 1), m1, m2, m3, .ref qu, m5, m6, m7, m8, m9, m10, m11, m12, m13, m14, m15]))]) [0] rfl
      have hD9 := hD.sub (ws' := [(h0, .inr (13, [.int (nI 1), m1, m2, m3, .ref qu, m5, m6, m7, m8, m9, m10, m11, m12, m13, m14, m15]))]) [0] (by decide +kernel) rfl
      have hK9 := hK.sub (tys' := []) [] rfl
      exact W.iret hx hb hr (fun t ht9 hW => ⟨⟨(nI 0), (), rfl, rfl, by rw [ht9]; exact hP9, va_K.moved hW.alike hK9, hD9⟩, hS.F ht9⟩) hS.2.2 d_Model_come_36
    · refine lv_aload_n hx hb d_Model_come_10 rfl (lv_at hl 0 rfl) ?_
      refine va_get (D := (dC, dI)) (ci := 13) (v := .ref qu) (C := R_Model) (T := F_ModelS) (N := 16) hx hb ht i_ModelS hown hK hP 0 rfl rfl 4 (by decide) (ht _ v_20) (fun _ h9 => h9) rfl d_Model_come_11 ?_
      refine lv_iload_n hx hb d_Model_come_14 rfl (lv_at hl 1 rfl) ?_
      obtain ⟨k, hk, rfl⟩ := xh_four c_2_0 c_7_51
      rcases (show k = 0 ∨ k = 1 ∨ k = 2 ∨ k = 3 by omega) with rfl | rfl | rfl | rfl
      · refine va_zald hx hb hK hP 1 0 rfl rfl (vp_in_nI (by decide) (by decide)) d_Model_come_15 ?_
        refine xw_topn 0 rfl ?_
        refine lv_if_eq (tgt := 23) hx hb d_Model_come_16 (by decide) (fun _ => ?_) (fun c_16_102 => absurd (by decide) c_16_102)
        refine lv_iconst (v := (nI 1)) hx hb d_Model_come_23 (by decide) ?_
        refine va_put (D := (dC, dI)) (ci := 13) (v := .int (nI 1)) (ty := .int) (C := R_Model) (T := F_ModelS) (N := 16) hx hb ht i_ModelS t_ModelS t_ModelS_ok n_ModelS hown hK hP hD hS 0 rfl rfl 0 (by decide) (ht _ v_15) (fun _ h9 => h9) rfl (by decide +kernel) rfl rfl (Nat.le_of_ble_eq_true rfl) d_Model_come_24 (fun H locs hP hD hS => ?_)
        have hP : va_P (dC, dI) classes [(h0, .inr (13, [.int (nI 1), m1, m2, m3, .ref qu, m5, m6, m7, m8, m9, m10, m11, m12, m13, m14, m15])), (qu, .inl (cU, 4, .inl (fun _ => 0)))] H := hP
        have hD : va_D A [(h0, .inr (13, [.int (nI 1), m1, m2, m3, .ref qu, m5, m6, m7, m8, m9, m10, m11, m12, m13, m14, m15])), (qu, .inl (cU, 4, .inl (fun _ => 0)))] := hD
        refine lv_aload_n hx hb d_Model_come_27 rfl (lv_at hl 0 rfl) ?_
        refine va_get (D := (dC, dI)) (ci := 13) (v := .int (nI 1)) (C := R_Model) (T := F_ModelS) (N := 16) hx hb ht i_ModelS hown hK hP 0 rfl rfl 0 (by decide) (ht _ v_15) (fun _ h9 => h9) rfl d_Model_come_28 ?_
        refine lv_iconst (v := (nI 1)) hx hb d_Model_come_31 (by decide) ?_
        refine lv_icmp_ne (tgt := 37) hx hb d_Model_come_32 (by decide) (fun c_32 => absurd (by decide) c_32) (fun _ => ?_)
        refine lv_iconst (v := (nI 0)) hx hb d_Model_come_35 (by decide) ?_
        have hP9 := hP.sub (ws' := [(h0, .inr (13, [.int (nI 1), m1, m2, m3, .ref qu, m5, m6, m7, m8, m9, m10, m11, m12, m13, m14, m15]))]) [0] rfl
        have hD9 := hD.sub (ws' := [(h0, .inr (13, [.int (nI 1), m1, m2, m3, .ref qu, m5, m6, m7, m8, m9, m10, m11, m12, m13, m14, m15]))]) [0] (by decide +kernel) rfl
        have hK9 := hK.sub (tys' := []) [] rfl
        exact W.iret hx hb hr (fun t ht9 hW => ⟨⟨(nI 0), (), rfl, rfl, by rw [ht9]; exact hP9, va_K.moved hW.alike hK9, hD9⟩, hS.F ht9⟩) hS.2.2 d_Model_come_36
      · refine va_zald hx hb hK hP 1 0 rfl rfl (vp_in_nI (by decide) (by decide)) d_Model_come_15 ?_
        refine xw_topn 0 rfl ?_
        refine lv_if_eq (tgt := 23) hx hb d_Model_come_16 (by decide) (fun _ => ?_) (fun c_16_103 => absurd (by decide) c_16_103)
        refine lv_iconst (v := (nI 1)) hx hb d_Model_come_23 (by decide) ?_
        refine va_put (D := (dC, dI)) (ci := 13) (v := .int (nI 1)) (ty := .int) (C := R_Model) (T := F_ModelS) (N := 16) hx hb ht i_ModelS t_ModelS t_ModelS_ok n_ModelS hown hK hP hD hS 0 rfl rfl 0 (by decide) (ht _ v_15) (fun _ h9 => h9) rfl (by decide +kernel) rfl rfl (Nat.le_of_ble_eq_true rfl) d_Model_come_24 (fun H locs hP hD hS => ?_)
        have hP : va_P (dC, dI) classes [(h0, .inr (13, [.int (nI 1), m1, m2, m3, .ref qu, m5, m6, m7, m8, m9, m10, m11, m12, m13, m14, m15])), (qu, .inl (cU, 4, .inl (fun _ => 0)))] H := hP
        have hD : va_D A [(h0, .inr (13, [.int (nI 1), m1, m2, m3, .ref qu, m5, m6, m7, m8, m9, m10, m11, m12, m13, m14, m15])), (qu, .inl (cU, 4, .inl (fun _ => 0)))] := hD
        refine lv_aload_n hx hb d_Model_come_27 rfl (lv_at hl 0 rfl) ?_
        refine va_get (D := (dC, dI)) (ci := 13) (v := .int (nI 1)) (C := R_Model) (T := F_ModelS) (N := 16) hx hb ht i_ModelS hown hK hP 0 rfl rfl 0 (by decide) (ht _ v_15) (fun _ h9 => h9) rfl d_Model_come_28 ?_
        refine lv_iconst (v := (nI 1)) hx hb d_Model_come_31 (by decide) ?_
        refine lv_icmp_ne (tgt := 37) hx hb d_Model_come_32 (by decide) (fun c_32 => absurd (by decide) c_32) (fun _ => ?_)
        refine lv_iconst (v := (nI 0)) hx hb d_Model_come_35 (by decide) ?_
        have hP9 := hP.sub (ws' := [(h0, .inr (13, [.int (nI 1), m1, m2, m3, .ref qu, m5, m6, m7, m8, m9, m10, m11, m12, m13, m14, m15]))]) [0] rfl
        have hD9 := hD.sub (ws' := [(h0, .inr (13, [.int (nI 1), m1, m2, m3, .ref qu, m5, m6, m7, m8, m9, m10, m11, m12, m13, m14, m15]))]) [0] (by decide +kernel) rfl
        have hK9 := hK.sub (tys' := []) [] rfl
        exact W.iret hx hb hr (fun t ht9 hW => ⟨⟨(nI 0), (), rfl, rfl, by rw [ht9]; exact hP9, va_K.moved hW.alike hK9, hD9⟩, hS.F ht9⟩) hS.2.2 d_Model_come_36
      · refine va_zald hx hb hK hP 1 0 rfl rfl (vp_in_nI (by decide) (by decide)) d_Model_come_15 ?_
        refine xw_topn 0 rfl ?_
        refine lv_if_eq (tgt := 23) hx hb d_Model_come_16 (by decide) (fun _ => ?_) (fun c_16_104 => absurd (by decide) c_16_104)
        refine lv_iconst (v := (nI 1)) hx hb d_Model_come_23 (by decide) ?_
        refine va_put (D := (dC, dI)) (ci := 13) (v := .int (nI 1)) (ty := .int) (C := R_Model) (T := F_ModelS) (N := 16) hx hb ht i_ModelS t_ModelS t_ModelS_ok n_ModelS hown hK hP hD hS 0 rfl rfl 0 (by decide) (ht _ v_15) (fun _ h9 => h9) rfl (by decide +kernel) rfl rfl (Nat.le_of_ble_eq_true rfl) d_Model_come_24 (fun H locs hP hD hS => ?_)
        have hP : va_P (dC, dI) classes [(h0, .inr (13, [.int (nI 1), m1, m2, m3, .ref qu, m5, m6, m7, m8, m9, m10, m11, m12, m13, m14, m15])), (qu, .inl (cU, 4, .inl (fun _ => 0)))] H := hP
        have hD : va_D A [(h0, .inr (13, [.int (nI 1), m1, m2, m3, .ref qu, m5, m6, m7, m8, m9, m10, m11, m12, m13, m14, m15])), (qu, .inl (cU, 4, .inl (fun _ => 0)))] := hD
        refine lv_aload_n hx hb d_Model_come_27 rfl (lv_at hl 0 rfl) ?_
        refine va_get (D := (dC, dI)) (ci := 13) (v := .int (nI 1)) (C := R_Model) (T := F_ModelS) (N := 16) hx hb ht i_ModelS hown hK hP 0 rfl rfl 0 (by decide) (ht _ v_15) (fun _ h9 => h9) rfl d_Model_come_28 ?_
        refine lv_iconst (v := (nI 1)) hx hb d_Model_come_31 (by decide) ?_
        refine lv_icmp_ne (tgt := 37) hx hb d_Model_come_32 (by decide) (fun c_32 => absurd (by decide) c_32) (fun _ => ?_)
        refine lv_iconst (v := (nI 0)) hx hb d_Model_come_35 (by decide) ?_
        have hP9 := hP.sub (ws' := [(h0, .inr (13, [.int (nI 1), m1, m2, m3, .ref qu, m5, m6, m7, m8, m9, m10, m11, m12, m13, m14, m15]))]) [0] rfl
        have hD9 := hD.sub (ws' := [(h0, .inr (13, [.int (nI 1), m1, m2, m3, .ref qu, m5, m6, m7, m8, m9, m10, m11, m12, m13, m14, m15]))]) [0] (by decide +kernel) rfl
        have hK9 := hK.sub (tys' := []) [] rfl
        exact W.iret hx hb hr (fun t ht9 hW => ⟨⟨(nI 0), (), rfl, rfl, by rw [ht9]; exact hP9, va_K.moved hW.alike hK9, hD9⟩, hS.F ht9⟩) hS.2.2 d_Model_come_36
      · refine va_zald hx hb hK hP 1 0 rfl rfl (vp_in_nI (by decide) (by decide)) d_Model_come_15 ?_
        refine xw_topn 0 rfl ?_
        refine lv_if_eq (tgt := 23) hx hb d_Model_come_16 (by decide) (fun _ => ?_) (fun c_16_105 => absurd (by decide) c_16_105)
        refine lv_iconst (v := (nI 1)) hx hb d_Model_come_23 (by decide) ?_
        refine va_put (D := (dC, dI)) (ci := 13) (v := .int (nI 1)) (ty := .int) (C := R_Model) (T := F_ModelS) (N := 16) hx hb ht i_ModelS t_ModelS t_ModelS_ok n_ModelS hown hK hP hD hS 0 rfl rfl 0 (by decide) (ht _ v_15) (fun _ h9 => h9) rfl (by decide +kernel) rfl rfl (Nat.le_of_ble_eq_true rfl) d_Model_come_24 (fun H locs hP hD hS => ?_)
        have hP : va_P (dC, dI) classes [(h0, .inr (13, [.int (nI 1), m1, m2, m3, .ref qu, m5, m6, m7, m8, m9, m10, m11, m12, m13, m14, m15])), (qu, .inl (cU, 4, .inl (fun _ => 0)))] H := hP
        have hD : va_D A [(h0, .inr (13, [.int (nI 1), m1, m2, m3, .ref qu, m5, m6, m7, m8, m9, m10, m11, m12, m13, m14, m15])), (qu, .inl (cU, 4, .inl (fun _ => 0)))] := hD
        refine lv_aload_n hx hb d_Model_come_27 rfl (lv_at hl 0 rfl) ?_
        refine va_get (D := (dC, dI)) (ci := 13) (v := .int (nI 1)) (C := R_Model) (T := F_ModelS) (N := 16) hx hb ht i_ModelS hown hK hP 0 rfl rfl 0 (by decide) (ht _ v_15) (fun _ h9 => h9) rfl d_Model_come_28 ?_
        refine lv_iconst (v := (nI 1)) hx hb d_Model_come_31 (by decide) ?_
        refine lv_icmp_ne (tgt := 37) hx hb d_Model_come_32 (by decide) (fun c_32 => absurd (by decide) c_32) (fun _ => ?_)
        refine lv_iconst (v := (nI 0)) hx hb d_Model_come_35 (by decide) ?_
        have hP9 := hP.sub (ws' := [(h0, .inr (13, [.int (nI 1), m1, m2, m3, .ref qu, m5, m6, m7, m8, m9, m10, m11, m12, m13, m14, m15]))]) [0] rfl
        have hD9 := hD.sub (ws' := [(h0, .inr (13, [.int (nI 1), m1, m2, m3, .ref qu, m5, m6, m7, m8, m9, m10, m11, m12, m13, m14, m15]))]) [0] (by decide +kernel) rfl
        have hK9 := hK.sub (tys' := []) [] rfl
        exact W.iret hx hb hr (fun t ht9 hW => ⟨⟨(nI 0), (), rfl, rfl, by rw [ht9]; exact hP9, va_K.moved hW.alike hK9, hD9⟩, hS.F ht9⟩) hS.2.2 d_Model_come_36
set_option maxHeartbeats 4000000 in
set_option maxRecDepth 100000 in
/-- out() of the reference: 0 -/
theorem c_Model_out (l : Launch) (dC : Nat → ClassId) (dI : Nat → Nat → Nat) (h0 sz : Nat) (m0 m1 m2 m3 m4 m6 m7 m8 m9 m10 m11 m12 m13 m14 m15 : Value) : Met l y_Model_out (Cond.code y_Model_out b_Model_out 1 (Option.some Jvm.ClassFile.FieldType.int) :: xv0) ({ frames := 0, cells := 0, slots := 0, locals := 0 }) (va_Pc [.ref h0] (fun U => U.heap.size = sz ∧ va_P (dC, dI) classes [(h0, .inr (13, [m0, m1, m2, m3, m4, .int 0, m6, m7, m8, m9, m10, m11, m12, m13, m14, m15]))] U.heap ∧ va_K (dC, dI) classes [] U ∧ va_D (fun _ => True) [(h0, .inr (13, [m0, m1, m2, m3, m4, .int 0, m6, m7, m8, m9, m10, m11, m12, m13, m14, m15]))])) (va_Qi (fun (r : Int32) (_ : Unit) => r = 0) (fun (_ : Unit) (t : State) => va_P (dC, dI) classes [] t.heap ∧ va_K (dC, dI) classes [] t ∧ va_D (va_A [(h0, .inr (13, [m0, m1, m2, m3, m4, .int 0, m6, m7, m8, m9, m10, m11, m12, m13, m14, m15]))] sz) []) (va_A [(h0, .inr (13, [m0, m1, m2, m3, m4, .int 0, m6, m7, m8, m9, m10, m11, m12, m13, m14, m15]))] sz)) 0 0 (va_A [(h0, .inr (13, [m0, m1, m2, m3, m4, .int 0, m6, m7, m8, m9, m10, m11, m12, m13, m14, m15]))] sz) := by
  refine Met.ofW (cc := b_Model_out) (maxL := 1) (ret := (Option.some Jvm.ClassFile.FieldType.int)) (by decide) rfl ?_
  intro p e s m args below meth c s₁ B hml hv
  obtain ⟨rfl, hsz, hP, hK, hD0⟩ := hv
  have hx := B.exec
  have hb := B.bytes
  have hr := B.returns
  have hts := atoms_spec (ws := Cond.code y_Model_out b_Model_out 1 (Option.some Jvm.ClassFile.FieldType.int) :: xv0) B.pre
  have ht : ∀ w ∈ xv0, w.before _ s = true := fun w h => hts w (List.mem_cons_of_mem _ h)
  have hown : s.vm.findClass R_Model = some m.cls := findClass_of_methodNamed B.named
  have hlocks := B.notSynchronized
  subst hsz
  have hD := hD0.self (sz := s.heap.size)
  generalize hAe : va_A [(h0, .inr (13, [m0, m1, m2, m3, m4, .int 0, m6, m7, m8, m9, m10, m11, m12, m13, m14, m15]))] s.heap.size = A at hD ⊢
  have hA : ∀ q : Nat, s.heap.size ≤ q → A q := fun q h => by rw [← hAe]; exact Or.inr h
  have hS : va_S A s.heap s.heap [] := va_S.rf
  have hP : va_P (dC, dI) classes [(h0, .inr (13, [m0, m1, m2, m3, m4, .int 0, m6, m7, m8, m9, m10, m11, m12, m13, m14, m15]))] s.heap := hP
  have hl := lv_entry ([.ref h0]) (n := 1) (Nat.le_of_ble_eq_true rfl)
  rw [lg_entry_eq]
  generalize (lg_sl ([.ref h0]) ++ List.replicate (1 - (lg_sl ([.ref h0])).length) Slot.unset).toArray = ls at hl ⊢
  have hl : lv_has ls 1 [(0, .ref h0)] := hl
  refine lv_aload_n hx hb d_Model_out_0 rfl (lv_at hl 0 rfl) ?_
  refine lv_iconst (v := (nI 0)) hx hb d_Model_out_1 (by decide) ?_
  refine va_put (D := (dC, dI)) (ci := 13) (v := .int (nI 0)) (ty := .int) (C := R_Model) (T := F_ModelS) (N := 16) hx hb ht i_ModelS t_ModelS t_ModelS_ok n_ModelS hown hK hP hD hS 0 rfl rfl 0 (by decide) (ht _ v_15) (fun _ h9 => h9) rfl (by decide +kernel) rfl rfl (Nat.le_of_ble_eq_true rfl) d_Model_out_2 (fun H locs hP hD hS => ?_)
  have hP : va_P (dC, dI) classes [(h0, .inr (13, [.int (nI 0), m1, m2, m3, m4, .int 0, m6, m7, m8, m9, m10, m11, m12, m13, m14, m15]))] H := hP
  have hD : va_D A [(h0, .inr (13, [.int (nI 0), m1, m2, m3, m4, .int 0, m6, m7, m8, m9, m10, m11, m12, m13, m14, m15]))] := hD
  refine lv_aload_n hx hb d_Model_out_5 rfl (lv_at hl 0 rfl) ?_
  refine va_get (D := (dC, dI)) (ci := 13) (v := .int 0) (C := R_Model) (T := F_ModelS) (N := 16) hx hb ht i_ModelS hown hK hP 0 rfl rfl 5 (by decide) (ht _ v_22) (fun _ h9 => h9) rfl d_Model_out_6 ?_
  have hP9 := hP.sub (ws' := []) [] rfl
  have hD9 := hD.sub (ws' := []) [] (by decide +kernel) rfl
  have hK9 := hK.sub (tys' := []) [] rfl
  exact W.iret hx hb hr (fun t ht9 hW => ⟨⟨0, (), rfl, rfl, by rw [ht9]; exact hP9, va_K.moved hW.alike hK9, hD9⟩, hS.F ht9⟩) hS.2.2 d_Model_out_9
set_option maxHeartbeats 4000000 in
set_option maxRecDepth 100000 in
/-- outAt(i) of the reference: thrown -/
theorem c_Model_outAt (l : Launch) (dC : Nat → ClassId) (dI : Nat → Nat → Nat) (h0 sz : Nat) (i : Int32) (m0 m1 m2 m3 m4 m6 m7 m8 m9 m10 m11 m12 m13 m14 m15 : Value) : Met l y_Model_outAt (Cond.code y_Model_outAt b_Model_outAt 2 (Option.some Jvm.ClassFile.FieldType.int) :: xv0) ({ frames := 0, cells := 0, slots := 0, locals := 0 }) (va_Pc [.ref h0, .int i] (fun U => U.heap.size = sz ∧ va_P (dC, dI) classes [(h0, .inr (13, [m0, m1, m2, m3, m4, .int 0, m6, m7, m8, m9, m10, m11, m12, m13, m14, m15]))] U.heap ∧ va_K (dC, dI) classes [] U ∧ va_D (fun _ => True) [(h0, .inr (13, [m0, m1, m2, m3, m4, .int 0, m6, m7, m8, m9, m10, m11, m12, m13, m14, m15]))])) (va_Qi (fun (r : Int32) (_ : Unit) => r = 0) (fun (_ : Unit) (t : State) => va_P (dC, dI) classes [(h0, .inr (13, [.int (nI 1), m1, m2, m3, m4, .int 0, m6, m7, m8, m9, m10, m11, m12, m13, m14, m15]))] t.heap ∧ va_K (dC, dI) classes [] t ∧ va_D (va_A [(h0, .inr (13, [m0, m1, m2, m3, m4, .int 0, m6, m7, m8, m9, m10, m11, m12, m13, m14, m15]))] sz) [(h0, .inr (13, [.int (nI 1), m1, m2, m3, m4, .int 0, m6, m7, m8, m9, m10, m11, m12, m13, m14, m15]))]) (va_A [(h0, .inr (13, [m0, m1, m2, m3, m4, .int 0, m6, m7, m8, m9, m10, m11, m12, m13, m14, m15]))] sz)) 0 0 (va_A [(h0, .inr (13, [m0, m1, m2, m3, m4, .int 0, m6, m7, m8, m9, m10, m11, m12, m13, m14, m15]))] sz) := by
  refine Met.ofW (cc := b_Model_outAt) (maxL := 2) (ret := (Option.some Jvm.ClassFile.FieldType.int)) (by decide) rfl ?_
  intro p e s m args below meth c s₁ B hml hv
  obtain ⟨rfl, hsz, hP, hK, hD0⟩ := hv
  have hx := B.exec
  have hb := B.bytes
  have hr := B.returns
  have hts := atoms_spec (ws := Cond.code y_Model_outAt b_Model_outAt 2 (Option.some Jvm.ClassFile.FieldType.int) :: xv0) B.pre
  have ht : ∀ w ∈ xv0, w.before _ s = true := fun w h => hts w (List.mem_cons_of_mem _ h)
  have hown : s.vm.findClass R_Model = some m.cls := findClass_of_methodNamed B.named
  have hlocks := B.notSynchronized
  subst hsz
  have hD := hD0.self (sz := s.heap.size)
  generalize hAe : va_A [(h0, .inr (13, [m0, m1, m2, m3, m4, .int 0, m6, m7, m8, m9, m10, m11, m12, m13, m14, m15]))] s.heap.size = A at hD ⊢
  have hA : ∀ q : Nat, s.heap.size ≤ q → A q := fun q h => by rw [← hAe]; exact Or.inr h
  have hS : va_S A s.heap s.heap [] := va_S.rf
  have hP : va_P (dC, dI) classes [(h0, .inr (13, [m0, m1, m2, m3, m4, .int 0, m6, m7, m8, m9, m10, m11, m12, m13, m14, m15]))] s.heap := hP
  have hl := lv_entry ([.ref h0, .int i]) (n := 2) (Nat.le_of_ble_eq_true rfl)
  rw [lg_entry_eq]
  generalize (lg_sl ([.ref h0, .int i]) ++ List.replicate (2 - (lg_sl ([.ref h0, .int i])).length) Slot.unset).toArray = ls at hl ⊢
  have hl : lv_has ls 2 [(0, .ref h0), (1, .int i)] := hl
  refine lv_aload_n hx hb d_Model_outAt_0 rfl (lv_at hl 0 rfl) ?_
  refine lv_iload_n hx hb d_Model_outAt_1 rfl (lv_at hl 1 rfl) ?_
  refine lv_if_lt (tgt := 17) hx hb d_Model_outAt_2 (by decide) (fun c_2_0 => ?_) (fun c_2_0 => ?_)
  · refine lv_iconst (v := (nI 1)) hx hb d_Model_outAt_17 (by decide) ?_
    refine va_put (D := (dC, dI)) (ci := 13) (v := .int (nI 1)) (ty := .int) (C := R_Model) (T := F_ModelS) (N := 16) hx hb ht i_ModelS t_ModelS t_ModelS_ok n_ModelS hown hK hP hD hS 0 rfl rfl 0 (by decide) (ht _ v_15) (fun _ h9 => h9) rfl (by decide +kernel) rfl rfl (Nat.le_of_ble_eq_true rfl) d_Model_outAt_18 (fun H locs hP hD hS => ?_)
    have hP : va_P (dC, dI) classes [(h0, .inr (13, [.int (nI 1), m1, m2, m3, m4, .int 0, m6, m7, m8, m9, m10, m11, m12, m13, m14, m15]))] H := hP
    have hD : va_D A [(h0, .inr (13, [.int (nI 1), m1, m2, m3, m4, .int 0, m6, m7, m8, m9, m10, m11, m12, m13, m14, m15]))] := hD
    refine lv_aload_n hx hb d_Model_outAt_21 rfl (lv_at hl 0 rfl) ?_
    refine va_get (D := (dC, dI)) (ci := 13) (v := .int (nI 1)) (C := R_Model) (T := F_ModelS) (N := 16) hx hb ht i_ModelS hown hK hP 0 rfl rfl 0 (by decide) (ht _ v_15) (fun _ h9 => h9) rfl d_Model_outAt_22 ?_
    refine lv_if_ne (tgt := 41) hx hb d_Model_outAt_25 (by decide) (fun _ => ?_) (fun c_25_1 => absurd c_25_1 (by decide))
    refine lv_iconst (v := (nI 0)) hx hb d_Model_outAt_41 (by decide) ?_
    have hP9 := hP.sub (ws' := [(h0, .inr (13, [.int (nI 1), m1, m2, m3, m4, .int 0, m6, m7, m8, m9, m10, m11, m12, m13, m14, m15]))]) [0] rfl
    have hD9 := hD.sub (ws' := [(h0, .inr (13, [.int (nI 1), m1, m2, m3, m4, .int 0, m6, m7, m8, m9, m10, m11, m12, m13, m14, m15]))]) [0] (by decide +kernel) rfl
    have hK9 := hK.sub (tys' := []) [] rfl
    exact W.iret hx hb hr (fun t ht9 hW => ⟨⟨(nI 0), (), rfl, rfl, by rw [ht9]; exact hP9, va_K.moved hW.alike hK9, hD9⟩, hS.F ht9⟩) hS.2.2 d_Model_outAt_42
  · refine lv_iload_n hx hb d_Model_outAt_5 rfl (lv_at hl 1 rfl) ?_
    refine lv_aload_n hx hb d_Model_outAt_6 rfl (lv_at hl 0 rfl) ?_
    refine va_get (D := (dC, dI)) (ci := 13) (v := .int 0) (C := R_Model) (T := F_ModelS) (N := 16) hx hb ht i_ModelS hown hK hP 0 rfl rfl 5 (by decide) (ht _ v_22) (fun _ h9 => h9) rfl d_Model_outAt_7 ?_
    refine lv_icmp_ge (tgt := 17) hx hb d_Model_outAt_10 (by decide) (fun c_10_52 => ?_) (fun c_10_52 => absurd (xh_ge c_2_0 rfl) c_10_52)
    refine lv_iconst (v := (nI 1)) hx hb d_Model_outAt_17 (by decide) ?_
    refine va_put (D := (dC, dI)) (ci := 13) (v := .int (nI 1)) (ty := .int) (C := R_Model) (T := F_ModelS) (N := 16) hx hb ht i_ModelS t_ModelS t_ModelS_ok n_ModelS hown hK hP hD hS 0 rfl rfl 0 (by decide) (ht _ v_15) (fun _ h9 => h9) rfl (by decide +kernel) rfl rfl (Nat.le_of_ble_eq_true rfl) d_Model_outAt_18 (fun H locs hP hD hS => ?_)
    have hP : va_P (dC, dI) classes [(h0, .inr (13, [.int (nI 1), m1, m2, m3, m4, .int 0, m6, m7, m8, m9, m10, m11, m12, m13, m14, m15]))] H := hP
    have hD : va_D A [(h0, .inr (13, [.int (nI 1), m1, m2, m3, m4, .int 0, m6, m7, m8, m9, m10, m11, m12, m13, m14, m15]))] := hD
    refine lv_aload_n hx hb d_Model_outAt_21 rfl (lv_at hl 0 rfl) ?_
    refine va_get (D := (dC, dI)) (ci := 13) (v := .int (nI 1)) (C := R_Model) (T := F_ModelS) (N := 16) hx hb ht i_ModelS hown hK hP 0 rfl rfl 0 (by decide) (ht _ v_15) (fun _ h9 => h9) rfl d_Model_outAt_22 ?_
    refine lv_if_ne (tgt := 41) hx hb d_Model_outAt_25 (by decide) (fun _ => ?_) (fun c_25_53 => absurd c_25_53 (by decide))
    refine lv_iconst (v := (nI 0)) hx hb d_Model_outAt_41 (by decide) ?_
    have hP9 := hP.sub (ws' := [(h0, .inr (13, [.int (nI 1), m1, m2, m3, m4, .int 0, m6, m7, m8, m9, m10, m11, m12, m13, m14, m15]))]) [0] rfl
    have hD9 := hD.sub (ws' := [(h0, .inr (13, [.int (nI 1), m1, m2, m3, m4, .int 0, m6, m7, m8, m9, m10, m11, m12, m13, m14, m15]))]) [0] (by decide +kernel) rfl
    have hK9 := hK.sub (tys' := []) [] rfl
    exact W.iret hx hb hr (fun t ht9 hW => ⟨⟨(nI 0), (), rfl, rfl, by rw [ht9]; exact hP9, va_K.moved hW.alike hK9, hD9⟩, hS.F ht9⟩) hS.2.2 d_Model_outAt_42
set_option maxHeartbeats 4000000 in
set_option maxRecDepth 100000 in
/-- thrown() of the reference -/
theorem c_Model_thrown (l : Launch) (dC : Nat → ClassId) (dI : Nat → Nat → Nat) (h0 sz : Nat) (x : Int32) (m1 m2 m3 m4 m5 m6 m7 m8 m9 m10 m11 m12 m13 m14 m15 : Value) : Met l y_Model_thrown (Cond.code y_Model_thrown b_Model_thrown 1 (Option.some Jvm.ClassFile.FieldType.int) :: xv0) ({ frames := 0, cells := 0, slots := 0, locals := 0 }) (va_Pc [.ref h0] (fun U => U.heap.size = sz ∧ va_P (dC, dI) classes [(h0, .inr (13, [.int x, m1, m2, m3, m4, m5, m6, m7, m8, m9, m10, m11, m12, m13, m14, m15]))] U.heap ∧ va_K (dC, dI) classes [] U ∧ va_D (fun _ => True) [(h0, .inr (13, [.int x, m1, m2, m3, m4, m5, m6, m7, m8, m9, m10, m11, m12, m13, m14, m15]))])) (va_Qi (fun (r : Int32) (_ : Unit) => r = x) (fun (_ : Unit) (t : State) => va_P (dC, dI) classes [] t.heap ∧ va_K (dC, dI) classes [] t ∧ va_D (va_A [(h0, .inr (13, [.int x, m1, m2, m3, m4, m5, m6, m7, m8, m9, m10, m11, m12, m13, m14, m15]))] sz) []) (va_A [(h0, .inr (13, [.int x, m1, m2, m3, m4, m5, m6, m7, m8, m9, m10, m11, m12, m13, m14, m15]))] sz)) 0 0 (va_A [(h0, .inr (13, [.int x, m1, m2, m3, m4, m5, m6, m7, m8, m9, m10, m11, m12, m13, m14, m15]))] sz) := by
  refine Met.ofW (cc := b_Model_thrown) (maxL := 1) (ret := (Option.some Jvm.ClassFile.FieldType.int)) (by decide) rfl ?_
  intro p e s m args below meth c s₁ B hml hv
  obtain ⟨rfl, hsz, hP, hK, hD0⟩ := hv
  have hx := B.exec
  have hb := B.bytes
  have hr := B.returns
  have hts := atoms_spec (ws := Cond.code y_Model_thrown b_Model_thrown 1 (Option.some Jvm.ClassFile.FieldType.int) :: xv0) B.pre
  have ht : ∀ w ∈ xv0, w.before _ s = true := fun w h => hts w (List.mem_cons_of_mem _ h)
  have hown : s.vm.findClass R_Model = some m.cls := findClass_of_methodNamed B.named
  have hlocks := B.notSynchronized
  subst hsz
  have hD := hD0.self (sz := s.heap.size)
  generalize hAe : va_A [(h0, .inr (13, [.int x, m1, m2, m3, m4, m5, m6, m7, m8, m9, m10, m11, m12, m13, m14, m15]))] s.heap.size = A at hD ⊢
  have hA : ∀ q : Nat, s.heap.size ≤ q → A q := fun q h => by rw [← hAe]; exact Or.inr h
  have hS : va_S A s.heap s.heap [] := va_S.rf
  have hP : va_P (dC, dI) classes [(h0, .inr (13, [.int x, m1, m2, m3, m4, m5, m6, m7, m8, m9, m10, m11, m12, m13, m14, m15]))] s.heap := hP
  have hl := lv_entry ([.ref h0]) (n := 1) (Nat.le_of_ble_eq_true rfl)
  rw [lg_entry_eq]
  generalize (lg_sl ([.ref h0]) ++ List.replicate (1 - (lg_sl ([.ref h0])).length) Slot.unset).toArray = ls at hl ⊢
  have hl : lv_has ls 1 [(0, .ref h0)] := hl
  refine lv_aload_n hx hb d_Model_thrown_0 rfl (lv_at hl 0 rfl) ?_
  refine va_get (D := (dC, dI)) (ci := 13) (v := .int x) (C := R_Model) (T := F_ModelS) (N := 16) hx hb ht i_ModelS hown hK hP 0 rfl rfl 0 (by decide) (ht _ v_15) (fun _ h9 => h9) rfl d_Model_thrown_1 ?_
  have hP9 := hP.sub (ws' := []) [] rfl
  have hD9 := hD.sub (ws' := []) [] (by decide +kernel) rfl
  have hK9 := hK.sub (tys' := []) [] rfl
  exact W.iret hx hb hr (fun t ht9 hW => ⟨⟨x, (), rfl, rfl, by rw [ht9]; exact hP9, va_K.moved hW.alike hK9, hD9⟩, hS.F ht9⟩) hS.2.2 d_Model_thrown_4
