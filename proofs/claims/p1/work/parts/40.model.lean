def xq_I (fs gs : List Value) : Prop := fs.length = 177 ∧ ∀ k, k < 16 → vp_V fs (ixM k) = vp_V gs k
theorem xq_put {fs gs : List Value} {k : Nat} {v : Value} (hk : ∀ j, j < 16 → ixM j ≠ k) (h : xq_I fs gs) : xq_I (fs.set k v) gs := by
  refine ⟨by rw [List.length_set]; exact h.1, fun j hj => ?_⟩
  rw [← h.2 j hj]
  show (fs.set k v).getD (ixM j) .null = fs.getD (ixM j) .null
  rw [List.getD_eq_getElem?_getD, List.getD_eq_getElem?_getD, List.getElem?_set_ne (Ne.symm (hk j hj))]
theorem xq_putN {fs gs : List Value} {v : Value} (i k : Nat) (hi : i < 16) (hik : ixM i = k) (hinj : ∀ j, j < 16 → j ≠ i → ixM j ≠ k) (hlt : k < 177) (hg : gs.length = 16) (h : xq_I fs gs) : xq_I (fs.set k v) (gs.set i v) := by
  refine ⟨by rw [List.length_set]; exact h.1, fun j hj => ?_⟩
  show (fs.set k v).getD (ixM j) .null = (gs.set i v).getD j .null
  by_cases hji : j = i
  · subst hji
    rw [hik, List.getD_eq_getElem?_getD, List.getD_eq_getElem?_getD, List.getElem?_set_self (by rw [h.1]; exact hlt), List.getElem?_set_self (by rw [hg]; exact hi)]
  · rw [List.getD_eq_getElem?_getD, List.getD_eq_getElem?_getD, List.getElem?_set_ne (Ne.symm (hinj j hj hji)), List.getElem?_set_ne (Ne.symm hji), ← List.getD_eq_getElem?_getD, ← List.getD_eq_getElem?_getD]
    exact h.2 j hj
section XMP
variable {p : Program} {l : Launch} {e : Env} {R : Room} {s : State} {m : MethodId} {args : Array Value} {below : List Frame} {meth : Method} {c : Code} {H : Heap} {locs : List Loc} {cells slots : Nat} {Q : State → Prop}
variable {cc : ByteArray} {pc : Nat} {ls : Array Slot} {rest : List Value} {dC : Nat → ClassId} {dI : Nat → Nat → Nat} {A : Nat → Prop} {a : Nat} {tys : List (ClassId × FieldType)} {ws : va_W} {H0 : Heap}
theorem xm_putF (hexec : p.tables.exec = Jvm.exec) (hb : c.code = cc) {index : Nat} {f d : String} (ht : ∀ w ∈ xv0, w.before args s = true) (hown : s.vm.findClass R_Model = some m.cls) (hK : va_K (dC, dI) classes tys s) (hP : va_P (dC, dI) classes ws H) (hD : va_D A ws) (hS : va_S A H0 H locs) {fs : List Value} (he : ws[0]? = some (a, .inr (12, fs))) (k : Nat) (hk : k < 177) (hT : F_Model k = (R_Model, f, d, true))
    (hlink : (Cond.fieldLink R_Model index R_Model f d).before args s = true) (hin2 : meth.name = "<init>") {ty : FieldType} {v : Value} (hd : parseFieldDescriptor d = some ty) (hn : narrow ty v = v) (hfit : fits ty v = true) (hl : k < fs.length) (hdg : decode cc pc = .ok (.putfield index, 3))
    (kk : ∀ (H1 : Heap) (locs1 : List Loc), va_P (dC, dI) classes (ws.set 0 (a, .inr (12, fs.set k v))) H1 → va_D A (ws.set 0 (a, .inr (12, fs.set k v))) → va_S A H0 H1 locs1 → W p l e R s m args below meth c H1 locs1 cells slots Q (F0 m (pc + 3) ls rest)) : W p l e R s m args below meth c H locs cells slots Q (F0 m pc ls (v :: .ref a :: rest)) :=
  va_putF (D := (dC, dI)) (ci := 12) (C := R_Model) (T := F_Model) (N := 177) hexec hb ht i_Model t_Model t_Model_ok n_Model hown hK hP hD hS 0 he rfl k hk (by rw [hT]; exact hlink) (by rw [hT]; exact fun _ h => h) (by rw [hT]) hin2 (by rw [hT]) (by rw [hT]; exact hd) hn hfit hl hdg kk
theorem xm_put (hexec : p.tables.exec = Jvm.exec) (hb : c.code = cc) {index : Nat} {f d : String} (ht : ∀ w ∈ xv0, w.before args s = true) (hown : s.vm.findClass R_Model = some m.cls) (hK : va_K (dC, dI) classes tys s) (hP : va_P (dC, dI) classes ws H) (hD : va_D A ws) (hS : va_S A H0 H locs) {fs : List Value} (he : ws[0]? = some (a, .inr (12, fs))) (k : Nat) (hk : k < 177) (hT : F_Model k = (R_Model, f, d, false))
    (hlink : (Cond.fieldLink R_Model index R_Model f d).before args s = true) {ty : FieldType} {v : Value} (hd : parseFieldDescriptor d = some ty) (hn : narrow ty v = v) (hfit : fits ty v = true) (hl : k < fs.length) (hdg : decode cc pc = .ok (.putfield index, 3))
    (kk : ∀ (H1 : Heap) (locs1 : List Loc), va_P (dC, dI) classes (ws.set 0 (a, .inr (12, fs.set k v))) H1 → va_D A (ws.set 0 (a, .inr (12, fs.set k v))) → va_S A H0 H1 locs1 → W p l e R s m args below meth c H1 locs1 cells slots Q (F0 m (pc + 3) ls rest)) : W p l e R s m args below meth c H locs cells slots Q (F0 m pc ls (v :: .ref a :: rest)) :=
  va_put (D := (dC, dI)) (ci := 12) (C := R_Model) (T := F_Model) (N := 177) hexec hb ht i_Model t_Model t_Model_ok n_Model hown hK hP hD hS 0 he rfl k hk (by rw [hT]; exact hlink) (by rw [hT]; exact fun _ h => h) (by rw [hT]) (by rw [hT]; exact hd) hn hfit hl hdg kk
end XMP
theorem fM_1 : F_Model 1 = (R_Model, "tape", "[B", true) := by decide +kernel
theorem fM_3 : F_Model 3 = (R_Model, "cons", "[B", true) := by decide +kernel
theorem fM_4 : F_Model 4 = (R_Model, "conLen", "[I", true) := by decide +kernel
theorem fM_5 : F_Model 5 = (R_Model, "isUp", "[Z", true) := by decide +kernel
theorem fM_6 : F_Model 6 = (R_Model, "outs", "[B", true) := by decide +kernel
theorem fM_9 : F_Model 9 = (R_Model, "userName", "[B", true) := by decide +kernel
theorem fM_10 : F_Model 10 = (R_Model, "userNameLen", "[I", true) := by decide +kernel
theorem fM_11 : F_Model 11 = (R_Model, "userPass", "[B", true) := by decide +kernel
theorem fM_12 : F_Model 12 = (R_Model, "userPassLen", "[I", true) := by decide +kernel
theorem fM_13 : F_Model 13 = (R_Model, "bookThere", "[Z", true) := by decide +kernel
theorem fM_14 : F_Model 14 = (R_Model, "bookOwner", "[I", true) := by decide +kernel
theorem fM_15 : F_Model 15 = (R_Model, "bookName", "[B", true) := by decide +kernel
theorem fM_16 : F_Model 16 = (R_Model, "bookNameLen", "[I", true) := by decide +kernel
theorem fM_17 : F_Model 17 = (R_Model, "bookMade", "[I", true) := by decide +kernel
theorem fM_18 : F_Model 18 = (R_Model, "bookTitle", "[B", true) := by decide +kernel
theorem fM_19 : F_Model 19 = (R_Model, "bookTitleLen", "[I", true) := by decide +kernel
theorem fM_20 : F_Model 20 = (R_Model, "bookAbout", "[B", true) := by decide +kernel
theorem fM_21 : F_Model 21 = (R_Model, "bookAboutLen", "[I", true) := by decide +kernel
theorem fM_22 : F_Model 22 = (R_Model, "readers", "[I", true) := by decide +kernel
theorem fM_23 : F_Model 23 = (R_Model, "readersLen", "[I", true) := by decide +kernel
theorem fM_24 : F_Model 24 = (R_Model, "goneName", "[B", true) := by decide +kernel
theorem fM_25 : F_Model 25 = (R_Model, "goneNameLen", "[I", true) := by decide +kernel
theorem fM_26 : F_Model 26 = (R_Model, "goneAt", "[I", true) := by decide +kernel
theorem fM_27 : F_Model 27 = (R_Model, "gone", "[I", true) := by decide +kernel
theorem fM_28 : F_Model 28 = (R_Model, "forgotten", "[I", true) := by decide +kernel
theorem fM_29 : F_Model 29 = (R_Model, "cardThere", "[Z", true) := by decide +kernel
theorem fM_30 : F_Model 30 = (R_Model, "cardBook", "[I", true) := by decide +kernel
theorem fM_31 : F_Model 31 = (R_Model, "cardName", "[B", true) := by decide +kernel
theorem fM_32 : F_Model 32 = (R_Model, "cardNameLen", "[I", true) := by decide +kernel
theorem fM_33 : F_Model 33 = (R_Model, "cardAt", "[I", true) := by decide +kernel
theorem fM_34 : F_Model 34 = (R_Model, "cardText", "[B", true) := by decide +kernel
theorem fM_35 : F_Model 35 = (R_Model, "cardTextLen", "[I", true) := by decide +kernel
theorem fM_39 : F_Model 39 = (R_Model, "head", "[B", true) := by decide +kernel
theorem fM_41 : F_Model 41 = (R_Model, "body", "[B", true) := by decide +kernel
theorem fM_49 : F_Model 49 = (R_Model, "nameAt", "[I", true) := by decide +kernel
theorem fM_50 : F_Model 50 = (R_Model, "nameLen", "[I", true) := by decide +kernel
theorem fM_51 : F_Model 51 = (R_Model, "valueAt", "[I", true) := by decide +kernel
theorem fM_52 : F_Model 52 = (R_Model, "valueLen", "[I", true) := by decide +kernel
theorem fM_54 : F_Model 54 = (R_Model, "extra", "[B", true) := by decide +kernel
theorem fM_56 : F_Model 56 = (R_Model, "doc", "[B", true) := by decide +kernel
theorem fM_60 : F_Model 60 = (R_Model, "whole", "[B", true) := by decide +kernel
theorem fM_66 : F_Model 66 = (R_Model, "path", "[B", true) := by decide +kernel
theorem fM_74 : F_Model 74 = (R_Model, "plain", "[B", true) := by decide +kernel
theorem fM_76 : F_Model 76 = (R_Model, "bare", "[B", true) := by decide +kernel
theorem fM_77 : F_Model 77 = (R_Model, "uid", "[B", true) := by decide +kernel
theorem fM_79 : F_Model 79 = (R_Model, "xp", "[B", true) := by decide +kernel
theorem fM_81 : F_Model 81 = (R_Model, "eSpaceAt", "[I", true) := by decide +kernel
theorem fM_82 : F_Model 82 = (R_Model, "eSpaceLen", "[I", true) := by decide +kernel
theorem fM_83 : F_Model 83 = (R_Model, "eNameAt", "[I", true) := by decide +kernel
theorem fM_84 : F_Model 84 = (R_Model, "eNameLen", "[I", true) := by decide +kernel
theorem fM_85 : F_Model 85 = (R_Model, "eParent", "[I", true) := by decide +kernel
theorem fM_86 : F_Model 86 = (R_Model, "eFirst", "[I", true) := by decide +kernel
theorem fM_87 : F_Model 87 = (R_Model, "eLast", "[I", true) := by decide +kernel
theorem fM_88 : F_Model 88 = (R_Model, "eNext", "[I", true) := by decide +kernel
theorem fM_89 : F_Model 89 = (R_Model, "eTextAt", "[I", true) := by decide +kernel
theorem fM_90 : F_Model 90 = (R_Model, "eTextLen", "[I", true) := by decide +kernel
theorem fM_92 : F_Model 92 = (R_Model, "aFirst", "[I", true) := by decide +kernel
theorem fM_93 : F_Model 93 = (R_Model, "aMany", "[I", true) := by decide +kernel
theorem fM_94 : F_Model 94 = (R_Model, "aSpaceAt", "[I", true) := by decide +kernel
theorem fM_95 : F_Model 95 = (R_Model, "aSpaceLen", "[I", true) := by decide +kernel
theorem fM_96 : F_Model 96 = (R_Model, "aNameAt", "[I", true) := by decide +kernel
theorem fM_97 : F_Model 97 = (R_Model, "aNameLen", "[I", true) := by decide +kernel
theorem fM_98 : F_Model 98 = (R_Model, "aValAt", "[I", true) := by decide +kernel
theorem fM_99 : F_Model 99 = (R_Model, "aValLen", "[I", true) := by decide +kernel
theorem fM_101 : F_Model 101 = (R_Model, "rawAt", "[I", true) := by decide +kernel
theorem fM_102 : F_Model 102 = (R_Model, "rawColon", "[I", true) := by decide +kernel
theorem fM_103 : F_Model 103 = (R_Model, "rawEnd", "[I", true) := by decide +kernel
theorem fM_104 : F_Model 104 = (R_Model, "sPrefixAt", "[I", true) := by decide +kernel
theorem fM_105 : F_Model 105 = (R_Model, "sPrefixLen", "[I", true) := by decide +kernel
theorem fM_106 : F_Model 106 = (R_Model, "sSpaceAt", "[I", true) := by decide +kernel
theorem fM_107 : F_Model 107 = (R_Model, "sSpaceLen", "[I", true) := by decide +kernel
theorem fM_114 : F_Model 114 = (R_Model, "open", "[I", true) := by decide +kernel
theorem fM_115 : F_Model 115 = (R_Model, "openSays", "[I", true) := by decide +kernel
theorem fM_116 : F_Model 116 = (R_Model, "openAt", "[I", true) := by decide +kernel
theorem fM_117 : F_Model 117 = (R_Model, "openEnd", "[I", true) := by decide +kernel
theorem fM_118 : F_Model 118 = (R_Model, "pieceAt", "[I", true) := by decide +kernel
theorem fM_119 : F_Model 119 = (R_Model, "pieceLen", "[I", true) := by decide +kernel
theorem fM_120 : F_Model 120 = (R_Model, "pieceOf", "[I", true) := by decide +kernel
theorem fM_127 : F_Model 127 = (R_Model, "raw", "[B", true) := by decide +kernel
theorem fM_129 : F_Model 129 = (R_Model, "cp", "[B", true) := by decide +kernel
theorem fM_131 : F_Model 131 = (R_Model, "vp", "[I", true) := by decide +kernel
theorem fM_134 : F_Model 134 = (R_Model, "many", "[I", true) := by decide +kernel
theorem fM_135 : F_Model 135 = (R_Model, "pGroupAt", "[I", true) := by decide +kernel
theorem fM_136 : F_Model 136 = (R_Model, "pGroupLen", "[I", true) := by decide +kernel
theorem fM_137 : F_Model 137 = (R_Model, "pNameAt", "[I", true) := by decide +kernel
theorem fM_138 : F_Model 138 = (R_Model, "pNameLen", "[I", true) := by decide +kernel
theorem fM_139 : F_Model 139 = (R_Model, "pKind", "[I", true) := by decide +kernel
theorem fM_140 : F_Model 140 = (R_Model, "pValAt", "[I", true) := by decide +kernel
theorem fM_141 : F_Model 141 = (R_Model, "pValLen", "[I", true) := by decide +kernel
theorem fM_142 : F_Model 142 = (R_Model, "pMany", "[I", true) := by decide +kernel
theorem fM_143 : F_Model 143 = (R_Model, "kNameAt", "[I", true) := by decide +kernel
theorem fM_144 : F_Model 144 = (R_Model, "kNameLen", "[I", true) := by decide +kernel
theorem fM_145 : F_Model 145 = (R_Model, "kFirst", "[I", true) := by decide +kernel
theorem fM_146 : F_Model 146 = (R_Model, "kMany", "[I", true) := by decide +kernel
theorem fM_147 : F_Model 147 = (R_Model, "vAt", "[I", true) := by decide +kernel
theorem fM_148 : F_Model 148 = (R_Model, "vLen", "[I", true) := by decide +kernel
theorem fM_150 : F_Model 150 = (R_Model, "line", "[B", true) := by decide +kernel
theorem fM_152 : F_Model 152 = (R_Model, "shown", "I", false) := by decide +kernel
theorem fM_153 : F_Model 153 = (R_Model, "naming", "I", false) := by decide +kernel
theorem fM_161 : F_Model 161 = (R_Model, "ask", "[I", true) := by decide +kernel
theorem fM_165 : F_Model 165 = (R_Model, "allowed", "[Z", true) := by decide +kernel
theorem fM_166 : F_Model 166 = (R_Model, "patch", "[I", true) := by decide +kernel
theorem fM_167 : F_Model 167 = (R_Model, "sets", "[Z", true) := by decide +kernel
theorem fM_169 : F_Model 169 = (R_Model, "told", "[I", true) := by decide +kernel
theorem fM_173 : F_Model 173 = (R_Model, "meant", "[B", true) := by decide +kernel
theorem fM_175 : F_Model 175 = (R_Model, "hay", "[I", true) := by decide +kernel
theorem fM_176 : F_Model 176 = (R_Model, "needle", "[I", true) := by decide +kernel
theorem d_Model_init_0 : decode b_Model_init 0 = .ok (.aload_n 0, 1) := by decide +kernel
theorem d_Model_init_1 : decode b_Model_init 1 = .ok (.invokespecial 1, 3) := by decide +kernel
theorem d_Model_init_4 : decode b_Model_init 4 = .ok (.aload_n 0, 1) := by decide +kernel
theorem d_Model_init_5 : decode b_Model_init 5 = .ok (.sipush 6000, 3) := by decide +kernel
theorem d_Model_init_8 : decode b_Model_init 8 = .ok (.newarray .byte, 2) := by decide +kernel
theorem d_Model_init_10 : decode b_Model_init 10 = .ok (.putfield 7, 3) := by decide +kernel
theorem d_Model_init_13 : decode b_Model_init 13 = .ok (.aload_n 0, 1) := by decide +kernel
theorem d_Model_init_14 : decode b_Model_init 14 = .ok (.ldc 13, 2) := by decide +kernel
theorem d_Model_init_16 : decode b_Model_init 16 = .ok (.newarray .byte, 2) := by decide +kernel
theorem d_Model_init_18 : decode b_Model_init 18 = .ok (.putfield 14, 3) := by decide +kernel
theorem d_Model_init_21 : decode b_Model_init 21 = .ok (.aload_n 0, 1) := by decide +kernel
theorem d_Model_init_22 : decode b_Model_init 22 = .ok (.iconst 4, 1) := by decide +kernel
theorem d_Model_init_23 : decode b_Model_init 23 = .ok (.newarray .int, 2) := by decide +kernel
theorem d_Model_init_25 : decode b_Model_init 25 = .ok (.putfield 17, 3) := by decide +kernel
theorem d_Model_init_28 : decode b_Model_init 28 = .ok (.aload_n 0, 1) := by decide +kernel
theorem d_Model_init_29 : decode b_Model_init 29 = .ok (.iconst 4, 1) := by decide +kernel
theorem d_Model_init_30 : decode b_Model_init 30 = .ok (.newarray .boolean, 2) := by decide +kernel
theorem d_Model_init_32 : decode b_Model_init 32 = .ok (.putfield 21, 3) := by decide +kernel
theorem d_Model_init_35 : decode b_Model_init 35 = .ok (.aload_n 0, 1) := by decide +kernel
theorem d_Model_init_36 : decode b_Model_init 36 = .ok (.ldc 25, 2) := by decide +kernel
theorem d_Model_init_38 : decode b_Model_init 38 = .ok (.newarray .byte, 2) := by decide +kernel
theorem d_Model_init_40 : decode b_Model_init 40 = .ok (.putfield 26, 3) := by decide +kernel
theorem d_Model_init_43 : decode b_Model_init 43 = .ok (.aload_n 0, 1) := by decide +kernel
theorem d_Model_init_44 : decode b_Model_init 44 = .ok (.bipush 48, 2) := by decide +kernel
theorem d_Model_init_46 : decode b_Model_init 46 = .ok (.newarray .byte, 2) := by decide +kernel
theorem d_Model_init_48 : decode b_Model_init 48 = .ok (.putfield 29, 3) := by decide +kernel
theorem d_Model_init_51 : decode b_Model_init 51 = .ok (.aload_n 0, 1) := by decide +kernel
theorem d_Model_init_52 : decode b_Model_init 52 = .ok (.iconst 4, 1) := by decide +kernel
theorem d_Model_init_53 : decode b_Model_init 53 = .ok (.newarray .int, 2) := by decide +kernel
theorem d_Model_init_55 : decode b_Model_init 55 = .ok (.putfield 32, 3) := by decide +kernel
theorem d_Model_init_58 : decode b_Model_init 58 = .ok (.aload_n 0, 1) := by decide +kernel
theorem d_Model_init_59 : decode b_Model_init 59 = .ok (.bipush 80, 2) := by decide +kernel
theorem d_Model_init_61 : decode b_Model_init 61 = .ok (.newarray .byte, 2) := by decide +kernel
theorem d_Model_init_63 : decode b_Model_init 63 = .ok (.putfield 35, 3) := by decide +kernel
theorem d_Model_init_66 : decode b_Model_init 66 = .ok (.aload_n 0, 1) := by decide +kernel
theorem d_Model_init_67 : decode b_Model_init 67 = .ok (.iconst 4, 1) := by decide +kernel
theorem d_Model_init_68 : decode b_Model_init 68 = .ok (.newarray .int, 2) := by decide +kernel
theorem d_Model_init_70 : decode b_Model_init 70 = .ok (.putfield 38, 3) := by decide +kernel
theorem d_Model_init_73 : decode b_Model_init 73 = .ok (.aload_n 0, 1) := by decide +kernel
theorem d_Model_init_74 : decode b_Model_init 74 = .ok (.bipush 6, 2) := by decide +kernel
theorem d_Model_init_76 : decode b_Model_init 76 = .ok (.newarray .boolean, 2) := by decide +kernel
theorem d_Model_init_78 : decode b_Model_init 78 = .ok (.putfield 41, 3) := by decide +kernel
theorem d_Model_init_81 : decode b_Model_init 81 = .ok (.aload_n 0, 1) := by decide +kernel
theorem d_Model_init_82 : decode b_Model_init 82 = .ok (.bipush 6, 2) := by decide +kernel
theorem d_Model_init_84 : decode b_Model_init 84 = .ok (.newarray .int, 2) := by decide +kernel
theorem d_Model_init_86 : decode b_Model_init 86 = .ok (.putfield 44, 3) := by decide +kernel
theorem d_Model_init_89 : decode b_Model_init 89 = .ok (.aload_n 0, 1) := by decide +kernel
theorem d_Model_init_90 : decode b_Model_init 90 = .ok (.bipush 120, 2) := by decide +kernel
theorem d_Model_init_92 : decode b_Model_init 92 = .ok (.newarray .byte, 2) := by decide +kernel
theorem d_Model_init_94 : decode b_Model_init 94 = .ok (.putfield 47, 3) := by decide +kernel
theorem d_Model_init_97 : decode b_Model_init 97 = .ok (.aload_n 0, 1) := by decide +kernel
theorem d_Model_init_98 : decode b_Model_init 98 = .ok (.bipush 6, 2) := by decide +kernel
theorem d_Model_init_100 : decode b_Model_init 100 = .ok (.newarray .int, 2) := by decide +kernel
theorem d_Model_init_102 : decode b_Model_init 102 = .ok (.putfield 50, 3) := by decide +kernel
theorem d_Model_init_105 : decode b_Model_init 105 = .ok (.aload_n 0, 1) := by decide +kernel
theorem d_Model_init_106 : decode b_Model_init 106 = .ok (.bipush 6, 2) := by decide +kernel
theorem d_Model_init_108 : decode b_Model_init 108 = .ok (.newarray .int, 2) := by decide +kernel
theorem d_Model_init_110 : decode b_Model_init 110 = .ok (.putfield 53, 3) := by decide +kernel
theorem d_Model_init_113 : decode b_Model_init 113 = .ok (.aload_n 0, 1) := by decide +kernel
theorem d_Model_init_114 : decode b_Model_init 114 = .ok (.sipush 360, 3) := by decide +kernel
theorem d_Model_init_117 : decode b_Model_init 117 = .ok (.newarray .byte, 2) := by decide +kernel
theorem d_Model_init_119 : decode b_Model_init 119 = .ok (.putfield 56, 3) := by decide +kernel
theorem d_Model_init_122 : decode b_Model_init 122 = .ok (.aload_n 0, 1) := by decide +kernel
theorem d_Model_init_123 : decode b_Model_init 123 = .ok (.bipush 6, 2) := by decide +kernel
theorem d_Model_init_125 : decode b_Model_init 125 = .ok (.newarray .int, 2) := by decide +kernel
theorem d_Model_init_127 : decode b_Model_init 127 = .ok (.putfield 59, 3) := by decide +kernel
theorem d_Model_init_130 : decode b_Model_init 130 = .ok (.aload_n 0, 1) := by decide +kernel
theorem d_Model_init_131 : decode b_Model_init 131 = .ok (.sipush 360, 3) := by decide +kernel
theorem d_Model_init_134 : decode b_Model_init 134 = .ok (.newarray .byte, 2) := by decide +kernel
theorem d_Model_init_136 : decode b_Model_init 136 = .ok (.putfield 62, 3) := by decide +kernel
theorem d_Model_init_139 : decode b_Model_init 139 = .ok (.aload_n 0, 1) := by decide +kernel
theorem d_Model_init_140 : decode b_Model_init 140 = .ok (.bipush 6, 2) := by decide +kernel
theorem d_Model_init_142 : decode b_Model_init 142 = .ok (.newarray .int, 2) := by decide +kernel
theorem d_Model_init_144 : decode b_Model_init 144 = .ok (.putfield 65, 3) := by decide +kernel
theorem d_Model_init_147 : decode b_Model_init 147 = .ok (.aload_n 0, 1) := by decide +kernel
theorem d_Model_init_148 : decode b_Model_init 148 = .ok (.bipush 24, 2) := by decide +kernel
theorem d_Model_init_150 : decode b_Model_init 150 = .ok (.newarray .int, 2) := by decide +kernel
theorem d_Model_init_152 : decode b_Model_init 152 = .ok (.putfield 68, 3) := by decide +kernel
theorem d_Model_init_155 : decode b_Model_init 155 = .ok (.aload_n 0, 1) := by decide +kernel
theorem d_Model_init_156 : decode b_Model_init 156 = .ok (.bipush 6, 2) := by decide +kernel
theorem d_Model_init_158 : decode b_Model_init 158 = .ok (.newarray .int, 2) := by decide +kernel
theorem d_Model_init_160 : decode b_Model_init 160 = .ok (.putfield 71, 3) := by decide +kernel
theorem d_Model_init_163 : decode b_Model_init 163 = .ok (.aload_n 0, 1) := by decide +kernel
theorem d_Model_init_164 : decode b_Model_init 164 = .ok (.sipush 2400, 3) := by decide +kernel
theorem d_Model_init_167 : decode b_Model_init 167 = .ok (.newarray .byte, 2) := by decide +kernel
theorem d_Model_init_169 : decode b_Model_init 169 = .ok (.putfield 74, 3) := by decide +kernel
theorem d_Model_init_172 : decode b_Model_init 172 = .ok (.aload_n 0, 1) := by decide +kernel
theorem d_Model_init_173 : decode b_Model_init 173 = .ok (.bipush 120, 2) := by decide +kernel
theorem d_Model_init_175 : decode b_Model_init 175 = .ok (.newarray .int, 2) := by decide +kernel
theorem d_Model_init_177 : decode b_Model_init 177 = .ok (.putfield 77, 3) := by decide +kernel
theorem d_Model_init_180 : decode b_Model_init 180 = .ok (.aload_n 0, 1) := by decide +kernel
theorem d_Model_init_181 : decode b_Model_init 181 = .ok (.bipush 120, 2) := by decide +kernel
theorem d_Model_init_183 : decode b_Model_init 183 = .ok (.newarray .int, 2) := by decide +kernel
theorem d_Model_init_185 : decode b_Model_init 185 = .ok (.putfield 80, 3) := by decide +kernel
theorem d_Model_init_188 : decode b_Model_init 188 = .ok (.aload_n 0, 1) := by decide +kernel
theorem d_Model_init_189 : decode b_Model_init 189 = .ok (.bipush 6, 2) := by decide +kernel
theorem d_Model_init_191 : decode b_Model_init 191 = .ok (.newarray .int, 2) := by decide +kernel
theorem d_Model_init_193 : decode b_Model_init 193 = .ok (.putfield 83, 3) := by decide +kernel
theorem d_Model_init_196 : decode b_Model_init 196 = .ok (.aload_n 0, 1) := by decide +kernel
theorem d_Model_init_197 : decode b_Model_init 197 = .ok (.bipush 6, 2) := by decide +kernel
theorem d_Model_init_199 : decode b_Model_init 199 = .ok (.newarray .int, 2) := by decide +kernel
theorem d_Model_init_201 : decode b_Model_init 201 = .ok (.putfield 86, 3) := by decide +kernel
theorem d_Model_init_204 : decode b_Model_init 204 = .ok (.aload_n 0, 1) := by decide +kernel
theorem d_Model_init_205 : decode b_Model_init 205 = .ok (.bipush 16, 2) := by decide +kernel
theorem d_Model_init_207 : decode b_Model_init 207 = .ok (.newarray .boolean, 2) := by decide +kernel
theorem d_Model_init_209 : decode b_Model_init 209 = .ok (.putfield 89, 3) := by decide +kernel
theorem d_Model_init_212 : decode b_Model_init 212 = .ok (.aload_n 0, 1) := by decide +kernel
theorem d_Model_init_213 : decode b_Model_init 213 = .ok (.bipush 16, 2) := by decide +kernel
theorem d_Model_init_215 : decode b_Model_init 215 = .ok (.newarray .int, 2) := by decide +kernel
theorem d_Model_init_217 : decode b_Model_init 217 = .ok (.putfield 92, 3) := by decide +kernel
theorem d_Model_init_220 : decode b_Model_init 220 = .ok (.aload_n 0, 1) := by decide +kernel
theorem d_Model_init_221 : decode b_Model_init 221 = .ok (.sipush 320, 3) := by decide +kernel
theorem d_Model_init_224 : decode b_Model_init 224 = .ok (.newarray .byte, 2) := by decide +kernel
theorem d_Model_init_226 : decode b_Model_init 226 = .ok (.putfield 95, 3) := by decide +kernel
theorem d_Model_init_229 : decode b_Model_init 229 = .ok (.aload_n 0, 1) := by decide +kernel
theorem d_Model_init_230 : decode b_Model_init 230 = .ok (.bipush 16, 2) := by decide +kernel
theorem d_Model_init_232 : decode b_Model_init 232 = .ok (.newarray .int, 2) := by decide +kernel
theorem d_Model_init_234 : decode b_Model_init 234 = .ok (.putfield 98, 3) := by decide +kernel
theorem d_Model_init_237 : decode b_Model_init 237 = .ok (.aload_n 0, 1) := by decide +kernel
theorem d_Model_init_238 : decode b_Model_init 238 = .ok (.bipush 16, 2) := by decide +kernel
theorem d_Model_init_240 : decode b_Model_init 240 = .ok (.newarray .int, 2) := by decide +kernel
theorem d_Model_init_242 : decode b_Model_init 242 = .ok (.putfield 101, 3) := by decide +kernel
theorem d_Model_init_245 : decode b_Model_init 245 = .ok (.aload_n 0, 1) := by decide +kernel
theorem d_Model_init_246 : decode b_Model_init 246 = .ok (.ldc 104, 2) := by decide +kernel
theorem d_Model_init_248 : decode b_Model_init 248 = .ok (.newarray .byte, 2) := by decide +kernel
theorem d_Model_init_250 : decode b_Model_init 250 = .ok (.putfield 105, 3) := by decide +kernel
theorem d_Model_init_253 : decode b_Model_init 253 = .ok (.aload_n 0, 1) := by decide +kernel
theorem d_Model_init_254 : decode b_Model_init 254 = .ok (.bipush 16, 2) := by decide +kernel
theorem d_Model_init_256 : decode b_Model_init 256 = .ok (.newarray .int, 2) := by decide +kernel
theorem d_Model_init_258 : decode b_Model_init 258 = .ok (.putfield 108, 3) := by decide +kernel
theorem d_Model_init_261 : decode b_Model_init 261 = .ok (.aload_n 0, 1) := by decide +kernel
theorem d_Model_init_262 : decode b_Model_init 262 = .ok (.sipush 2004, 3) := by decide +kernel
theorem d_Model_init_265 : decode b_Model_init 265 = .ok (.newarray .byte, 2) := by decide +kernel
theorem d_Model_init_267 : decode b_Model_init 267 = .ok (.putfield 111, 3) := by decide +kernel
theorem d_Model_init_270 : decode b_Model_init 270 = .ok (.aload_n 0, 1) := by decide +kernel
theorem d_Model_init_271 : decode b_Model_init 271 = .ok (.sipush 3000, 3) := by decide +kernel
theorem d_Model_init_274 : decode b_Model_init 274 = .ok (.newarray .byte, 2) := by decide +kernel
theorem d_Model_init_276 : decode b_Model_init 276 = .ok (.putfield 114, 3) := by decide +kernel
theorem d_Model_init_279 : decode b_Model_init 279 = .ok (.aload_n 0, 1) := by decide +kernel
theorem d_Model_init_280 : decode b_Model_init 280 = .ok (.bipush 20, 2) := by decide +kernel
theorem d_Model_init_282 : decode b_Model_init 282 = .ok (.newarray .int, 2) := by decide +kernel
theorem d_Model_init_284 : decode b_Model_init 284 = .ok (.putfield 117, 3) := by decide +kernel
theorem d_Model_init_287 : decode b_Model_init 287 = .ok (.aload_n 0, 1) := by decide +kernel
theorem d_Model_init_288 : decode b_Model_init 288 = .ok (.bipush 20, 2) := by decide +kernel
theorem d_Model_init_290 : decode b_Model_init 290 = .ok (.newarray .int, 2) := by decide +kernel
theorem d_Model_init_292 : decode b_Model_init 292 = .ok (.putfield 120, 3) := by decide +kernel
theorem d_Model_init_295 : decode b_Model_init 295 = .ok (.aload_n 0, 1) := by decide +kernel
theorem d_Model_init_296 : decode b_Model_init 296 = .ok (.bipush 20, 2) := by decide +kernel
theorem d_Model_init_298 : decode b_Model_init 298 = .ok (.newarray .int, 2) := by decide +kernel
theorem d_Model_init_300 : decode b_Model_init 300 = .ok (.putfield 123, 3) := by decide +kernel
theorem d_Model_init_303 : decode b_Model_init 303 = .ok (.aload_n 0, 1) := by decide +kernel
theorem d_Model_init_304 : decode b_Model_init 304 = .ok (.bipush 20, 2) := by decide +kernel
theorem d_Model_init_306 : decode b_Model_init 306 = .ok (.newarray .int, 2) := by decide +kernel
theorem d_Model_init_308 : decode b_Model_init 308 = .ok (.putfield 126, 3) := by decide +kernel
theorem d_Model_init_311 : decode b_Model_init 311 = .ok (.aload_n 0, 1) := by decide +kernel
theorem d_Model_init_312 : decode b_Model_init 312 = .ok (.sipush 600, 3) := by decide +kernel
theorem d_Model_init_315 : decode b_Model_init 315 = .ok (.newarray .byte, 2) := by decide +kernel
theorem d_Model_init_317 : decode b_Model_init 317 = .ok (.putfield 129, 3) := by decide +kernel
theorem d_Model_init_320 : decode b_Model_init 320 = .ok (.aload_n 0, 1) := by decide +kernel
theorem d_Model_init_321 : decode b_Model_init 321 = .ok (.ldc 132, 2) := by decide +kernel
theorem d_Model_init_323 : decode b_Model_init 323 = .ok (.newarray .byte, 2) := by decide +kernel
theorem d_Model_init_325 : decode b_Model_init 325 = .ok (.putfield 133, 3) := by decide +kernel
theorem d_Model_init_328 : decode b_Model_init 328 = .ok (.aload_n 0, 1) := by decide +kernel
theorem d_Model_init_329 : decode b_Model_init 329 = .ok (.ldc 136, 2) := by decide +kernel
theorem d_Model_init_331 : decode b_Model_init 331 = .ok (.newarray .byte, 2) := by decide +kernel
theorem d_Model_init_333 : decode b_Model_init 333 = .ok (.putfield 137, 3) := by decide +kernel
theorem d_Model_init_336 : decode b_Model_init 336 = .ok (.aload_n 0, 1) := by decide +kernel
theorem d_Model_init_337 : decode b_Model_init 337 = .ok (.sipush 3200, 3) := by decide +kernel
theorem d_Model_init_340 : decode b_Model_init 340 = .ok (.newarray .byte, 2) := by decide +kernel
theorem d_Model_init_342 : decode b_Model_init 342 = .ok (.putfield 140, 3) := by decide +kernel
theorem d_Model_init_345 : decode b_Model_init 345 = .ok (.aload_n 0, 1) := by decide +kernel
theorem d_Model_init_346 : decode b_Model_init 346 = .ok (.sipush 4600, 3) := by decide +kernel
theorem d_Model_init_349 : decode b_Model_init 349 = .ok (.newarray .byte, 2) := by decide +kernel
theorem d_Model_init_351 : decode b_Model_init 351 = .ok (.putfield 143, 3) := by decide +kernel
theorem d_Model_init_354 : decode b_Model_init 354 = .ok (.aload_n 0, 1) := by decide +kernel
theorem d_Model_init_355 : decode b_Model_init 355 = .ok (.sipush 2004, 3) := by decide +kernel
theorem d_Model_init_358 : decode b_Model_init 358 = .ok (.newarray .byte, 2) := by decide +kernel
theorem d_Model_init_360 : decode b_Model_init 360 = .ok (.putfield 146, 3) := by decide +kernel
theorem d_Model_init_363 : decode b_Model_init 363 = .ok (.aload_n 0, 1) := by decide +kernel
theorem d_Model_init_364 : decode b_Model_init 364 = .ok (.sipush 6000, 3) := by decide +kernel
theorem d_Model_init_367 : decode b_Model_init 367 = .ok (.newarray .byte, 2) := by decide +kernel
theorem d_Model_init_369 : decode b_Model_init 369 = .ok (.putfield 149, 3) := by decide +kernel
theorem d_Model_init_372 : decode b_Model_init 372 = .ok (.aload_n 0, 1) := by decide +kernel
theorem d_Model_init_373 : decode b_Model_init 373 = .ok (.sipush 12000, 3) := by decide +kernel
theorem d_Model_init_376 : decode b_Model_init 376 = .ok (.newarray .byte, 2) := by decide +kernel
theorem d_Model_init_378 : decode b_Model_init 378 = .ok (.putfield 152, 3) := by decide +kernel
theorem d_Model_init_381 : decode b_Model_init 381 = .ok (.aload_n 0, 1) := by decide +kernel
theorem d_Model_init_382 : decode b_Model_init 382 = .ok (.sipush 200, 3) := by decide +kernel
theorem d_Model_init_385 : decode b_Model_init 385 = .ok (.newarray .int, 2) := by decide +kernel
theorem d_Model_init_387 : decode b_Model_init 387 = .ok (.putfield 155, 3) := by decide +kernel
theorem d_Model_init_390 : decode b_Model_init 390 = .ok (.aload_n 0, 1) := by decide +kernel
theorem d_Model_init_391 : decode b_Model_init 391 = .ok (.sipush 200, 3) := by decide +kernel
theorem d_Model_init_394 : decode b_Model_init 394 = .ok (.newarray .int, 2) := by decide +kernel
theorem d_Model_init_396 : decode b_Model_init 396 = .ok (.putfield 158, 3) := by decide +kernel
theorem d_Model_init_399 : decode b_Model_init 399 = .ok (.aload_n 0, 1) := by decide +kernel
theorem d_Model_init_400 : decode b_Model_init 400 = .ok (.sipush 200, 3) := by decide +kernel
theorem d_Model_init_403 : decode b_Model_init 403 = .ok (.newarray .int, 2) := by decide +kernel
theorem d_Model_init_405 : decode b_Model_init 405 = .ok (.putfield 161, 3) := by decide +kernel
theorem d_Model_init_408 : decode b_Model_init 408 = .ok (.aload_n 0, 1) := by decide +kernel
theorem d_Model_init_409 : decode b_Model_init 409 = .ok (.sipush 200, 3) := by decide +kernel
theorem d_Model_init_412 : decode b_Model_init 412 = .ok (.newarray .int, 2) := by decide +kernel
theorem d_Model_init_414 : decode b_Model_init 414 = .ok (.putfield 164, 3) := by decide +kernel
theorem d_Model_init_417 : decode b_Model_init 417 = .ok (.aload_n 0, 1) := by decide +kernel
theorem d_Model_init_418 : decode b_Model_init 418 = .ok (.sipush 200, 3) := by decide +kernel
theorem d_Model_init_421 : decode b_Model_init 421 = .ok (.newarray .int, 2) := by decide +kernel
theorem d_Model_init_423 : decode b_Model_init 423 = .ok (.putfield 167, 3) := by decide +kernel
theorem d_Model_init_426 : decode b_Model_init 426 = .ok (.aload_n 0, 1) := by decide +kernel
theorem d_Model_init_427 : decode b_Model_init 427 = .ok (.sipush 200, 3) := by decide +kernel
theorem d_Model_init_430 : decode b_Model_init 430 = .ok (.newarray .int, 2) := by decide +kernel
theorem d_Model_init_432 : decode b_Model_init 432 = .ok (.putfield 170, 3) := by decide +kernel
theorem d_Model_init_435 : decode b_Model_init 435 = .ok (.aload_n 0, 1) := by decide +kernel
theorem d_Model_init_436 : decode b_Model_init 436 = .ok (.sipush 200, 3) := by decide +kernel
theorem d_Model_init_439 : decode b_Model_init 439 = .ok (.newarray .int, 2) := by decide +kernel
theorem d_Model_init_441 : decode b_Model_init 441 = .ok (.putfield 173, 3) := by decide +kernel
theorem d_Model_init_444 : decode b_Model_init 444 = .ok (.aload_n 0, 1) := by decide +kernel
theorem d_Model_init_445 : decode b_Model_init 445 = .ok (.sipush 200, 3) := by decide +kernel
theorem d_Model_init_448 : decode b_Model_init 448 = .ok (.newarray .int, 2) := by decide +kernel
theorem d_Model_init_450 : decode b_Model_init 450 = .ok (.putfield 176, 3) := by decide +kernel
theorem d_Model_init_453 : decode b_Model_init 453 = .ok (.aload_n 0, 1) := by decide +kernel
theorem d_Model_init_454 : decode b_Model_init 454 = .ok (.sipush 200, 3) := by decide +kernel
theorem d_Model_init_457 : decode b_Model_init 457 = .ok (.newarray .int, 2) := by decide +kernel
theorem d_Model_init_459 : decode b_Model_init 459 = .ok (.putfield 179, 3) := by decide +kernel
theorem d_Model_init_462 : decode b_Model_init 462 = .ok (.aload_n 0, 1) := by decide +kernel
theorem d_Model_init_463 : decode b_Model_init 463 = .ok (.sipush 200, 3) := by decide +kernel
theorem d_Model_init_466 : decode b_Model_init 466 = .ok (.newarray .int, 2) := by decide +kernel
theorem d_Model_init_468 : decode b_Model_init 468 = .ok (.putfield 182, 3) := by decide +kernel
theorem d_Model_init_471 : decode b_Model_init 471 = .ok (.aload_n 0, 1) := by decide +kernel
theorem d_Model_init_472 : decode b_Model_init 472 = .ok (.sipush 200, 3) := by decide +kernel
theorem d_Model_init_475 : decode b_Model_init 475 = .ok (.newarray .int, 2) := by decide +kernel
theorem d_Model_init_477 : decode b_Model_init 477 = .ok (.putfield 185, 3) := by decide +kernel
theorem d_Model_init_480 : decode b_Model_init 480 = .ok (.aload_n 0, 1) := by decide +kernel
theorem d_Model_init_481 : decode b_Model_init 481 = .ok (.sipush 200, 3) := by decide +kernel
theorem d_Model_init_484 : decode b_Model_init 484 = .ok (.newarray .int, 2) := by decide +kernel
theorem d_Model_init_486 : decode b_Model_init 486 = .ok (.putfield 188, 3) := by decide +kernel
theorem d_Model_init_489 : decode b_Model_init 489 = .ok (.aload_n 0, 1) := by decide +kernel
theorem d_Model_init_490 : decode b_Model_init 490 = .ok (.sipush 2000, 3) := by decide +kernel
theorem d_Model_init_493 : decode b_Model_init 493 = .ok (.newarray .int, 2) := by decide +kernel
theorem d_Model_init_495 : decode b_Model_init 495 = .ok (.putfield 191, 3) := by decide +kernel
theorem d_Model_init_498 : decode b_Model_init 498 = .ok (.aload_n 0, 1) := by decide +kernel
theorem d_Model_init_499 : decode b_Model_init 499 = .ok (.sipush 2000, 3) := by decide +kernel
theorem d_Model_init_502 : decode b_Model_init 502 = .ok (.newarray .int, 2) := by decide +kernel
theorem d_Model_init_504 : decode b_Model_init 504 = .ok (.putfield 194, 3) := by decide +kernel
theorem d_Model_init_507 : decode b_Model_init 507 = .ok (.aload_n 0, 1) := by decide +kernel
theorem d_Model_init_508 : decode b_Model_init 508 = .ok (.sipush 2000, 3) := by decide +kernel
theorem d_Model_init_511 : decode b_Model_init 511 = .ok (.newarray .int, 2) := by decide +kernel
theorem d_Model_init_513 : decode b_Model_init 513 = .ok (.putfield 197, 3) := by decide +kernel
theorem d_Model_init_516 : decode b_Model_init 516 = .ok (.aload_n 0, 1) := by decide +kernel
theorem d_Model_init_517 : decode b_Model_init 517 = .ok (.sipush 2000, 3) := by decide +kernel
theorem d_Model_init_520 : decode b_Model_init 520 = .ok (.newarray .int, 2) := by decide +kernel
theorem d_Model_init_522 : decode b_Model_init 522 = .ok (.putfield 200, 3) := by decide +kernel
theorem d_Model_init_525 : decode b_Model_init 525 = .ok (.aload_n 0, 1) := by decide +kernel
theorem d_Model_init_526 : decode b_Model_init 526 = .ok (.sipush 2000, 3) := by decide +kernel
theorem d_Model_init_529 : decode b_Model_init 529 = .ok (.newarray .int, 2) := by decide +kernel
theorem d_Model_init_531 : decode b_Model_init 531 = .ok (.putfield 203, 3) := by decide +kernel
theorem d_Model_init_534 : decode b_Model_init 534 = .ok (.aload_n 0, 1) := by decide +kernel
theorem d_Model_init_535 : decode b_Model_init 535 = .ok (.sipush 2000, 3) := by decide +kernel
theorem d_Model_init_538 : decode b_Model_init 538 = .ok (.newarray .int, 2) := by decide +kernel
theorem d_Model_init_540 : decode b_Model_init 540 = .ok (.putfield 206, 3) := by decide +kernel
theorem d_Model_init_543 : decode b_Model_init 543 = .ok (.aload_n 0, 1) := by decide +kernel
theorem d_Model_init_544 : decode b_Model_init 544 = .ok (.bipush 10, 2) := by decide +kernel
theorem d_Model_init_546 : decode b_Model_init 546 = .ok (.newarray .int, 2) := by decide +kernel
theorem d_Model_init_548 : decode b_Model_init 548 = .ok (.putfield 209, 3) := by decide +kernel
theorem d_Model_init_551 : decode b_Model_init 551 = .ok (.aload_n 0, 1) := by decide +kernel
theorem d_Model_init_552 : decode b_Model_init 552 = .ok (.bipush 10, 2) := by decide +kernel
theorem d_Model_init_554 : decode b_Model_init 554 = .ok (.newarray .int, 2) := by decide +kernel
theorem d_Model_init_556 : decode b_Model_init 556 = .ok (.putfield 212, 3) := by decide +kernel
theorem d_Model_init_559 : decode b_Model_init 559 = .ok (.aload_n 0, 1) := by decide +kernel
theorem d_Model_init_560 : decode b_Model_init 560 = .ok (.bipush 10, 2) := by decide +kernel
theorem d_Model_init_562 : decode b_Model_init 562 = .ok (.newarray .int, 2) := by decide +kernel
theorem d_Model_init_564 : decode b_Model_init 564 = .ok (.putfield 215, 3) := by decide +kernel
theorem d_Model_init_567 : decode b_Model_init 567 = .ok (.aload_n 0, 1) := by decide +kernel
theorem d_Model_init_568 : decode b_Model_init 568 = .ok (.sipush 400, 3) := by decide +kernel
theorem d_Model_init_571 : decode b_Model_init 571 = .ok (.newarray .int, 2) := by decide +kernel
theorem d_Model_init_573 : decode b_Model_init 573 = .ok (.putfield 218, 3) := by decide +kernel
theorem d_Model_init_576 : decode b_Model_init 576 = .ok (.aload_n 0, 1) := by decide +kernel
theorem d_Model_init_577 : decode b_Model_init 577 = .ok (.sipush 400, 3) := by decide +kernel
theorem d_Model_init_580 : decode b_Model_init 580 = .ok (.newarray .int, 2) := by decide +kernel
theorem d_Model_init_582 : decode b_Model_init 582 = .ok (.putfield 221, 3) := by decide +kernel
theorem d_Model_init_585 : decode b_Model_init 585 = .ok (.aload_n 0, 1) := by decide +kernel
theorem d_Model_init_586 : decode b_Model_init 586 = .ok (.sipush 400, 3) := by decide +kernel
theorem d_Model_init_589 : decode b_Model_init 589 = .ok (.newarray .int, 2) := by decide +kernel
theorem d_Model_init_591 : decode b_Model_init 591 = .ok (.putfield 224, 3) := by decide +kernel
theorem d_Model_init_594 : decode b_Model_init 594 = .ok (.aload_n 0, 1) := by decide +kernel
theorem d_Model_init_595 : decode b_Model_init 595 = .ok (.sipush 400, 3) := by decide +kernel
theorem d_Model_init_598 : decode b_Model_init 598 = .ok (.newarray .int, 2) := by decide +kernel
theorem d_Model_init_600 : decode b_Model_init 600 = .ok (.putfield 227, 3) := by decide +kernel
theorem d_Model_init_603 : decode b_Model_init 603 = .ok (.aload_n 0, 1) := by decide +kernel
theorem d_Model_init_604 : decode b_Model_init 604 = .ok (.bipush 20, 2) := by decide +kernel
theorem d_Model_init_606 : decode b_Model_init 606 = .ok (.newarray .int, 2) := by decide +kernel
theorem d_Model_init_608 : decode b_Model_init 608 = .ok (.putfield 230, 3) := by decide +kernel
theorem d_Model_init_611 : decode b_Model_init 611 = .ok (.aload_n 0, 1) := by decide +kernel
theorem d_Model_init_612 : decode b_Model_init 612 = .ok (.bipush 20, 2) := by decide +kernel
theorem d_Model_init_614 : decode b_Model_init 614 = .ok (.newarray .int, 2) := by decide +kernel
theorem d_Model_init_616 : decode b_Model_init 616 = .ok (.putfield 233, 3) := by decide +kernel
theorem d_Model_init_619 : decode b_Model_init 619 = .ok (.aload_n 0, 1) := by decide +kernel
theorem d_Model_init_620 : decode b_Model_init 620 = .ok (.bipush 20, 2) := by decide +kernel
theorem d_Model_init_622 : decode b_Model_init 622 = .ok (.newarray .int, 2) := by decide +kernel
theorem d_Model_init_624 : decode b_Model_init 624 = .ok (.putfield 236, 3) := by decide +kernel
theorem d_Model_init_627 : decode b_Model_init 627 = .ok (.aload_n 0, 1) := by decide +kernel
theorem d_Model_init_628 : decode b_Model_init 628 = .ok (.bipush 20, 2) := by decide +kernel
theorem d_Model_init_630 : decode b_Model_init 630 = .ok (.newarray .int, 2) := by decide +kernel
theorem d_Model_init_632 : decode b_Model_init 632 = .ok (.putfield 239, 3) := by decide +kernel
theorem d_Model_init_635 : decode b_Model_init 635 = .ok (.aload_n 0, 1) := by decide +kernel
theorem d_Model_init_636 : decode b_Model_init 636 = .ok (.sipush 1600, 3) := by decide +kernel
theorem d_Model_init_639 : decode b_Model_init 639 = .ok (.newarray .int, 2) := by decide +kernel
theorem d_Model_init_641 : decode b_Model_init 641 = .ok (.putfield 242, 3) := by decide +kernel
theorem d_Model_init_644 : decode b_Model_init 644 = .ok (.aload_n 0, 1) := by decide +kernel
theorem d_Model_init_645 : decode b_Model_init 645 = .ok (.sipush 1600, 3) := by decide +kernel
theorem d_Model_init_648 : decode b_Model_init 648 = .ok (.newarray .int, 2) := by decide +kernel
theorem d_Model_init_650 : decode b_Model_init 650 = .ok (.putfield 245, 3) := by decide +kernel
theorem d_Model_init_653 : decode b_Model_init 653 = .ok (.aload_n 0, 1) := by decide +kernel
theorem d_Model_init_654 : decode b_Model_init 654 = .ok (.sipush 1600, 3) := by decide +kernel
theorem d_Model_init_657 : decode b_Model_init 657 = .ok (.newarray .int, 2) := by decide +kernel
theorem d_Model_init_659 : decode b_Model_init 659 = .ok (.putfield 248, 3) := by decide +kernel
theorem d_Model_init_662 : decode b_Model_init 662 = .ok (.aload_n 0, 1) := by decide +kernel
theorem d_Model_init_663 : decode b_Model_init 663 = .ok (.sipush 6000, 3) := by decide +kernel
theorem d_Model_init_666 : decode b_Model_init 666 = .ok (.newarray .byte, 2) := by decide +kernel
theorem d_Model_init_668 : decode b_Model_init 668 = .ok (.putfield 251, 3) := by decide +kernel
theorem d_Model_init_671 : decode b_Model_init 671 = .ok (.aload_n 0, 1) := by decide +kernel
theorem d_Model_init_672 : decode b_Model_init 672 = .ok (.ldc 254, 2) := by decide +kernel
theorem d_Model_init_674 : decode b_Model_init 674 = .ok (.newarray .byte, 2) := by decide +kernel
theorem d_Model_init_676 : decode b_Model_init 676 = .ok (.putfield 255, 3) := by decide +kernel
theorem d_Model_init_679 : decode b_Model_init 679 = .ok (.aload_n 0, 1) := by decide +kernel
theorem d_Model_init_680 : decode b_Model_init 680 = .ok (.ldc 254, 2) := by decide +kernel
theorem d_Model_init_682 : decode b_Model_init 682 = .ok (.newarray .int, 2) := by decide +kernel
theorem d_Model_init_684 : decode b_Model_init 684 = .ok (.putfield 258, 3) := by decide +kernel
theorem d_Model_init_687 : decode b_Model_init 687 = .ok (.aload_n 0, 1) := by decide +kernel
theorem d_Model_init_688 : decode b_Model_init 688 = .ok (.iconst 2, 1) := by decide +kernel
theorem d_Model_init_689 : decode b_Model_init 689 = .ok (.newarray .int, 2) := by decide +kernel
theorem d_Model_init_691 : decode b_Model_init 691 = .ok (.putfield 261, 3) := by decide +kernel
theorem d_Model_init_694 : decode b_Model_init 694 = .ok (.aload_n 0, 1) := by decide +kernel
theorem d_Model_init_695 : decode b_Model_init 695 = .ok (.sipush 200, 3) := by decide +kernel
theorem d_Model_init_698 : decode b_Model_init 698 = .ok (.newarray .int, 2) := by decide +kernel
theorem d_Model_init_700 : decode b_Model_init 700 = .ok (.putfield 264, 3) := by decide +kernel
theorem d_Model_init_703 : decode b_Model_init 703 = .ok (.aload_n 0, 1) := by decide +kernel
theorem d_Model_init_704 : decode b_Model_init 704 = .ok (.sipush 200, 3) := by decide +kernel
theorem d_Model_init_707 : decode b_Model_init 707 = .ok (.newarray .int, 2) := by decide +kernel
theorem d_Model_init_709 : decode b_Model_init 709 = .ok (.putfield 267, 3) := by decide +kernel
theorem d_Model_init_712 : decode b_Model_init 712 = .ok (.aload_n 0, 1) := by decide +kernel
theorem d_Model_init_713 : decode b_Model_init 713 = .ok (.sipush 200, 3) := by decide +kernel
theorem d_Model_init_716 : decode b_Model_init 716 = .ok (.newarray .int, 2) := by decide +kernel
theorem d_Model_init_718 : decode b_Model_init 718 = .ok (.putfield 270, 3) := by decide +kernel
theorem d_Model_init_721 : decode b_Model_init 721 = .ok (.aload_n 0, 1) := by decide +kernel
theorem d_Model_init_722 : decode b_Model_init 722 = .ok (.sipush 200, 3) := by decide +kernel
theorem d_Model_init_725 : decode b_Model_init 725 = .ok (.newarray .int, 2) := by decide +kernel
theorem d_Model_init_727 : decode b_Model_init 727 = .ok (.putfield 273, 3) := by decide +kernel
theorem d_Model_init_730 : decode b_Model_init 730 = .ok (.aload_n 0, 1) := by decide +kernel
theorem d_Model_init_731 : decode b_Model_init 731 = .ok (.sipush 200, 3) := by decide +kernel
theorem d_Model_init_734 : decode b_Model_init 734 = .ok (.newarray .int, 2) := by decide +kernel
theorem d_Model_init_736 : decode b_Model_init 736 = .ok (.putfield 276, 3) := by decide +kernel
theorem d_Model_init_739 : decode b_Model_init 739 = .ok (.aload_n 0, 1) := by decide +kernel
theorem d_Model_init_740 : decode b_Model_init 740 = .ok (.sipush 200, 3) := by decide +kernel
theorem d_Model_init_743 : decode b_Model_init 743 = .ok (.newarray .int, 2) := by decide +kernel
theorem d_Model_init_745 : decode b_Model_init 745 = .ok (.putfield 279, 3) := by decide +kernel
theorem d_Model_init_748 : decode b_Model_init 748 = .ok (.aload_n 0, 1) := by decide +kernel
theorem d_Model_init_749 : decode b_Model_init 749 = .ok (.sipush 200, 3) := by decide +kernel
theorem d_Model_init_752 : decode b_Model_init 752 = .ok (.newarray .int, 2) := by decide +kernel
theorem d_Model_init_754 : decode b_Model_init 754 = .ok (.putfield 282, 3) := by decide +kernel
theorem d_Model_init_757 : decode b_Model_init 757 = .ok (.aload_n 0, 1) := by decide +kernel
theorem d_Model_init_758 : decode b_Model_init 758 = .ok (.sipush 200, 3) := by decide +kernel
theorem d_Model_init_761 : decode b_Model_init 761 = .ok (.newarray .int, 2) := by decide +kernel
theorem d_Model_init_763 : decode b_Model_init 763 = .ok (.putfield 285, 3) := by decide +kernel
theorem d_Model_init_766 : decode b_Model_init 766 = .ok (.aload_n 0, 1) := by decide +kernel
theorem d_Model_init_767 : decode b_Model_init 767 = .ok (.sipush 3200, 3) := by decide +kernel
theorem d_Model_init_770 : decode b_Model_init 770 = .ok (.newarray .int, 2) := by decide +kernel
theorem d_Model_init_772 : decode b_Model_init 772 = .ok (.putfield 288, 3) := by decide +kernel
theorem d_Model_init_775 : decode b_Model_init 775 = .ok (.aload_n 0, 1) := by decide +kernel
theorem d_Model_init_776 : decode b_Model_init 776 = .ok (.sipush 3200, 3) := by decide +kernel
theorem d_Model_init_779 : decode b_Model_init 779 = .ok (.newarray .int, 2) := by decide +kernel
theorem d_Model_init_781 : decode b_Model_init 781 = .ok (.putfield 291, 3) := by decide +kernel
theorem d_Model_init_784 : decode b_Model_init 784 = .ok (.aload_n 0, 1) := by decide +kernel
theorem d_Model_init_785 : decode b_Model_init 785 = .ok (.sipush 3200, 3) := by decide +kernel
theorem d_Model_init_788 : decode b_Model_init 788 = .ok (.newarray .int, 2) := by decide +kernel
theorem d_Model_init_790 : decode b_Model_init 790 = .ok (.putfield 294, 3) := by decide +kernel
theorem d_Model_init_793 : decode b_Model_init 793 = .ok (.aload_n 0, 1) := by decide +kernel
theorem d_Model_init_794 : decode b_Model_init 794 = .ok (.sipush 3200, 3) := by decide +kernel
theorem d_Model_init_797 : decode b_Model_init 797 = .ok (.newarray .int, 2) := by decide +kernel
theorem d_Model_init_799 : decode b_Model_init 799 = .ok (.putfield 297, 3) := by decide +kernel
theorem d_Model_init_802 : decode b_Model_init 802 = .ok (.aload_n 0, 1) := by decide +kernel
theorem d_Model_init_803 : decode b_Model_init 803 = .ok (.sipush 12000, 3) := by decide +kernel
theorem d_Model_init_806 : decode b_Model_init 806 = .ok (.newarray .int, 2) := by decide +kernel
theorem d_Model_init_808 : decode b_Model_init 808 = .ok (.putfield 300, 3) := by decide +kernel
theorem d_Model_init_811 : decode b_Model_init 811 = .ok (.aload_n 0, 1) := by decide +kernel
theorem d_Model_init_812 : decode b_Model_init 812 = .ok (.sipush 12000, 3) := by decide +kernel
theorem d_Model_init_815 : decode b_Model_init 815 = .ok (.newarray .int, 2) := by decide +kernel
theorem d_Model_init_817 : decode b_Model_init 817 = .ok (.putfield 303, 3) := by decide +kernel
theorem d_Model_init_820 : decode b_Model_init 820 = .ok (.aload_n 0, 1) := by decide +kernel
theorem d_Model_init_821 : decode b_Model_init 821 = .ok (.sipush 20000, 3) := by decide +kernel
theorem d_Model_init_824 : decode b_Model_init 824 = .ok (.newarray .byte, 2) := by decide +kernel
theorem d_Model_init_826 : decode b_Model_init 826 = .ok (.putfield 306, 3) := by decide +kernel
theorem d_Model_init_829 : decode b_Model_init 829 = .ok (.aload_n 0, 1) := by decide +kernel
theorem d_Model_init_830 : decode b_Model_init 830 = .ok (.iconst (-1), 1) := by decide +kernel
theorem d_Model_init_831 : decode b_Model_init 831 = .ok (.putfield 309, 3) := by decide +kernel
theorem d_Model_init_834 : decode b_Model_init 834 = .ok (.aload_n 0, 1) := by decide +kernel
theorem d_Model_init_835 : decode b_Model_init 835 = .ok (.iconst (-1), 1) := by decide +kernel
theorem d_Model_init_836 : decode b_Model_init 836 = .ok (.putfield 313, 3) := by decide +kernel
theorem d_Model_init_839 : decode b_Model_init 839 = .ok (.aload_n 0, 1) := by decide +kernel
theorem d_Model_init_840 : decode b_Model_init 840 = .ok (.bipush 20, 2) := by decide +kernel
theorem d_Model_init_842 : decode b_Model_init 842 = .ok (.newarray .int, 2) := by decide +kernel
theorem d_Model_init_844 : decode b_Model_init 844 = .ok (.putfield 316, 3) := by decide +kernel
theorem d_Model_init_847 : decode b_Model_init 847 = .ok (.aload_n 0, 1) := by decide +kernel
theorem d_Model_init_848 : decode b_Model_init 848 = .ok (.bipush 20, 2) := by decide +kernel
theorem d_Model_init_850 : decode b_Model_init 850 = .ok (.newarray .boolean, 2) := by decide +kernel
theorem d_Model_init_852 : decode b_Model_init 852 = .ok (.putfield 319, 3) := by decide +kernel
theorem d_Model_init_855 : decode b_Model_init 855 = .ok (.aload_n 0, 1) := by decide +kernel
theorem d_Model_init_856 : decode b_Model_init 856 = .ok (.bipush 20, 2) := by decide +kernel
theorem d_Model_init_858 : decode b_Model_init 858 = .ok (.newarray .int, 2) := by decide +kernel
theorem d_Model_init_860 : decode b_Model_init 860 = .ok (.putfield 322, 3) := by decide +kernel
theorem d_Model_init_863 : decode b_Model_init 863 = .ok (.aload_n 0, 1) := by decide +kernel
theorem d_Model_init_864 : decode b_Model_init 864 = .ok (.bipush 20, 2) := by decide +kernel
theorem d_Model_init_866 : decode b_Model_init 866 = .ok (.newarray .boolean, 2) := by decide +kernel
theorem d_Model_init_868 : decode b_Model_init 868 = .ok (.putfield 325, 3) := by decide +kernel
theorem d_Model_init_871 : decode b_Model_init 871 = .ok (.aload_n 0, 1) := by decide +kernel
theorem d_Model_init_872 : decode b_Model_init 872 = .ok (.iconst 4, 1) := by decide +kernel
theorem d_Model_init_873 : decode b_Model_init 873 = .ok (.newarray .int, 2) := by decide +kernel
theorem d_Model_init_875 : decode b_Model_init 875 = .ok (.putfield 328, 3) := by decide +kernel
theorem d_Model_init_878 : decode b_Model_init 878 = .ok (.aload_n 0, 1) := by decide +kernel
theorem d_Model_init_879 : decode b_Model_init 879 = .ok (.sipush 6000, 3) := by decide +kernel
theorem d_Model_init_882 : decode b_Model_init 882 = .ok (.newarray .byte, 2) := by decide +kernel
theorem d_Model_init_884 : decode b_Model_init 884 = .ok (.putfield 331, 3) := by decide +kernel
theorem d_Model_init_887 : decode b_Model_init 887 = .ok (.aload_n 0, 1) := by decide +kernel
theorem d_Model_init_888 : decode b_Model_init 888 = .ok (.sipush 6000, 3) := by decide +kernel
theorem d_Model_init_891 : decode b_Model_init 891 = .ok (.newarray .int, 2) := by decide +kernel
theorem d_Model_init_893 : decode b_Model_init 893 = .ok (.putfield 334, 3) := by decide +kernel
theorem d_Model_init_896 : decode b_Model_init 896 = .ok (.aload_n 0, 1) := by decide +kernel
theorem d_Model_init_897 : decode b_Model_init 897 = .ok (.sipush 4000, 3) := by decide +kernel
theorem d_Model_init_900 : decode b_Model_init 900 = .ok (.newarray .int, 2) := by decide +kernel
theorem d_Model_init_902 : decode b_Model_init 902 = .ok (.putfield 337, 3) := by decide +kernel
theorem d_Model_init_905 : decode b_Model_init 905 = .ok (.return_, 1) := by decide +kernel
set_option maxHeartbeats 4000000 in
set_option maxRecDepth 100000 in
/-- AddressHouseModel() -/
theorem c_Model_init (l : Launch) (dC : Nat → ClassId) (dI : Nat → Nat → Nat) (hN : xn_ok dC dI) (h0 sz : Nat) (fs : List Value) (hI : xq_I fs [.int 0, .null, .int 0, .null, .null, .int 0, .null, .null, .int 0, .int 0, .int 0, .int 0, .int 0, .int 0, .null, .int 0]) : Met l y_Model_init (Cond.code y_Model_init b_Model_init 1 none :: xv0) ({ frames := 1, cells := 105, slots := 638022, locals := 12 }) (va_Pc [.ref h0] (fun U => U.heap.size = sz ∧ va_P (dC, dI) classes [(h0, .inr (12, fs))] U.heap ∧ va_K (dC, dI) classes [] U ∧ va_D (fun _ => True) [(h0, .inr (12, fs))])) (va_Qv (fun _ : Unit => True) (fun (_ : Unit) (t : State) => ∃ (Q0 Q1 Q2 Q3 Q4 Q5 : Nat) (C0 C1 C2 C3 C4 C5 : ClassId) , va_P (dC, dI) classes [(h0, .inr (13, [.int 0, .ref Q0, .int 0, .ref Q1, .ref Q2, .int 0, .ref Q3, .ref Q4, .int 0, .int 0, .int 0, .int 0, .int 0, .int 0, .ref Q5, .int 0])), (Q0, .inl (C0, 6000, .inl (fun _ => 0))), (Q1, .inl (C1, 4, .inl (fun _ => 0))), (Q2, .inl (C2, 4, .inl (fun _ => 0))), (Q3, .inl (C3, 6, .inl (fun _ => 0))), (Q4, .inl (C4, 16, .inl (fun _ => 0))), (Q5, .inl (C5, 2, .inl (fun _ => 0)))] t.heap ∧ va_K (dC, dI) classes [(C0, .byte), (C1, .int), (C2, .boolean), (C3, .boolean), (C4, .boolean), (C5, .int)] t ∧ va_D (va_A [(h0, .inr (12, fs))] sz) [(h0, .inr (13, [.int 0, .ref Q0, .int 0, .ref Q1, .ref Q2, .int 0, .ref Q3, .ref Q4, .int 0, .int 0, .int 0, .int 0, .int 0, .int 0, .ref Q5, .int 0])), (Q0, .inl (C0, 6000, .inl (fun _ => 0))), (Q1, .inl (C1, 4, .inl (fun _ => 0))), (Q2, .inl (C2, 4, .inl (fun _ => 0))), (Q3, .inl (C3, 6, .inl (fun _ => 0))), (Q4, .inl (C4, 16, .inl (fun _ => 0))), (Q5, .inl (C5, 2, .inl (fun _ => 0)))]) (va_A [(h0, .inr (12, fs))] sz)) 105 638022 (va_A [(h0, .inr (12, fs))] sz) := by
  refine Met.ofW (cc := b_Model_init) (maxL := 1) (ret := none) (by decide) rfl ?_
  intro p e s m args below meth c s₁ B hml hv
  obtain ⟨rfl, hsz, hP, hK, hD0⟩ := hv
  have hx := B.exec
  have hb := B.bytes
  have hr := B.returns
  have hts := atoms_spec (ws := Cond.code y_Model_init b_Model_init 1 none :: xv0) B.pre
  have ht : ∀ w ∈ xv0, w.before _ s = true := fun w h => hts w (List.mem_cons_of_mem _ h)
  have hown : s.vm.findClass R_Model = some m.cls := findClass_of_methodNamed B.named
  have hlocks := B.notSynchronized
  have hin : meth.name = "<init>" := (name_of_methodNamed B.named B.method).1
  subst hsz
  have hD := hD0.self (sz := s.heap.size)
  generalize hAe : va_A [(h0, .inr (12, fs))] s.heap.size = A at hD ⊢
  have hA : ∀ q : Nat, s.heap.size ≤ q → A q := fun q h => by rw [← hAe]; exact Or.inr h
  have hS : va_S A s.heap s.heap [] := va_S.rf
  have hP : va_P (dC, dI) classes [(h0, .inr (12, fs))] s.heap := hP
  have hl := lv_entry ([.ref h0]) (n := 1) (Nat.le_of_ble_eq_true rfl)
  rw [lg_entry_eq]
  generalize (lg_sl ([.ref h0]) ++ List.replicate (1 - (lg_sl ([.ref h0])).length) Slot.unset).toArray = ls at hl ⊢
  have hl : lv_has ls 1 [(0, .ref h0)] := hl
  refine lv_aload_n hx hb d_Model_init_0 rfl (lv_at hl 0 rfl) ?_
  refine W.objInit hx hb hown (ht _ v_8) (ht _ v_1) (ht _ v_2) rfl (by rw [hml]; exact hl.1) rfl d_Model_init_1 (Nat.le_of_ble_eq_true rfl) (Nat.le_of_ble_eq_true rfl) ?_
  refine W.eq (g2 := F0 m 4 ls []) rfl ?_
  refine lv_aload_n hx hb d_Model_init_4 rfl (lv_at hl 0 rfl) ?_
  refine lv_sipush (v := (nI 6000)) hx hb d_Model_init_5 (by decide) ?_
  refine va_newa (atype := .byte) (ty := .byte) (a0 := (6000, .inl (fun _ => 0))) hx hb (ht _ v_3) rfl hK hP hD hS hA (fun _ => rfl) (nI_pos (by decide)) (nI_clamp (by decide)) (by decide) (Nat.le_of_ble_eq_true rfl) (Nat.le_of_ble_eq_true rfl) d_Model_init_8 (fun q1 cA2 H hK hP hD hS => ?_)
  refine W.widen (k := 1) (n := 6000) (by omega) (by omega) ?_
  have hP : va_P (dC, dI) classes [(h0, .inr (12, fs)), (q1, .inl (cA2, 6000, .inl (fun _ => 0)))] H := hP
  have hD : va_D A [(h0, .inr (12, fs)), (q1, .inl (cA2, 6000, .inl (fun _ => 0)))] := hD
  have hK : va_K (dC, dI) classes [(cA2, .byte)] s := hK
  refine xm_putF (v := .ref q1) (ty := .array .byte) hx hb ht hown hK hP hD hS rfl 1 (by decide) fM_1 (ht _ v_16) hin (by decide +kernel) rfl rfl (by rw [hI.1]; decide) d_Model_init_10 (fun H locs hP hD hS => ?_)
  have hI := xq_putN (v := .ref q1) 1 1 (by decide) (by decide) (by decide +kernel) (by decide) rfl hI
  generalize List.set fs 1 (.ref q1) = fs3 at hP hD hI
  have hP : va_P (dC, dI) classes [(h0, .inr (12, fs3)), (q1, .inl (cA2, 6000, .inl (fun _ => 0)))] H := hP
  have hD : va_D A [(h0, .inr (12, fs3)), (q1, .inl (cA2, 6000, .inl (fun _ => 0)))] := hD
  have hI : xq_I fs3 [.int 0, .ref q1, .int 0, .null, .null, .int 0, .null, .null, .int 0, .int 0, .int 0, .int 0, .int 0, .int 0, .null, .int 0] := hI
  refine lv_aload_n hx hb d_Model_init_13 rfl (lv_at hl 0 rfl) ?_
  refine lv_ldc (v := (nI 160000)) hx hb hown (ht _ v_9) d_Model_init_14 ?_
  refine xw_newO (atype := .byte) hx hb (ht _ v_3) hP hS (nI_pos (by decide)) (nI_clamp (by decide)) (by decide) (Nat.le_of_ble_eq_true rfl) (Nat.le_of_ble_eq_true rfl) d_Model_init_16 (fun q4 H hP hS => ?_)
  refine W.widen (k := 2) (n := 166000) (by omega) (by omega) ?_
  refine xm_putF (v := .ref q4) (ty := .array .byte) hx hb ht hown hK hP hD hS rfl 3 (by decide) fM_3 (ht _ v_18) hin (by decide +kernel) rfl rfl (by rw [hI.1]; decide) d_Model_init_18 (fun H locs hP hD hS => ?_)
  have hI := xq_put (k := 3) (v := .ref q4) (by decide +kernel) hI
  generalize List.set fs3 3 (.ref q4) = fs5 at hP hD hI
  have hP : va_P (dC, dI) classes [(h0, .inr (12, fs5)), (q1, .inl (cA2, 6000, .inl (fun _ => 0)))] H := hP
  have hD : va_D A [(h0, .inr (12, fs5)), (q1, .inl (cA2, 6000, .inl (fun _ => 0)))] := hD
  have hI : xq_I fs5 [.int 0, .ref q1, .int 0, .null, .null, .int 0, .null, .null, .int 0, .int 0, .int 0, .int 0, .int 0, .int 0, .null, .int 0] := hI
  refine lv_aload_n hx hb d_Model_init_21 rfl (lv_at hl 0 rfl) ?_
  refine lv_iconst (v := (nI 4)) hx hb d_Model_init_22 (by decide) ?_
  refine va_newa (atype := .int) (ty := .int) (a0 := (4, .inl (fun _ => 0))) hx hb (ht _ v_4) rfl hK hP hD hS hA (fun _ => rfl) (nI_pos (by decide)) (nI_clamp (by decide)) (by decide) (Nat.le_of_ble_eq_true rfl) (Nat.le_of_ble_eq_true rfl) d_Model_init_23 (fun q6 cA7 H hK hP hD hS => ?_)
  refine W.widen (k := 3) (n := 166004) (by omega) (by omega) ?_
  have hP : va_P (dC, dI) classes [(h0, .inr (12, fs5)), (q1, .inl (cA2, 6000, .inl (fun _ => 0))), (q6, .inl (cA7, 4, .inl (fun _ => 0)))] H := hP
  have hD : va_D A [(h0, .inr (12, fs5)), (q1, .inl (cA2, 6000, .inl (fun _ => 0))), (q6, .inl (cA7, 4, .inl (fun _ => 0)))] := hD
  have hK : va_K (dC, dI) classes [(cA2, .byte), (cA7, .int)] s := hK
  refine xm_putF (v := .ref q6) (ty := .array .int) hx hb ht hown hK hP hD hS rfl 4 (by decide) fM_4 (ht _ v_19) hin (by decide +kernel) rfl rfl (by rw [hI.1]; decide) d_Model_init_25 (fun H locs hP hD hS => ?_)
  have hI := xq_putN (v := .ref q6) 3 4 (by decide) (by decide) (by decide +kernel) (by decide) rfl hI
  generalize List.set fs5 4 (.ref q6) = fs8 at hP hD hI
  have hP : va_P (dC, dI) classes [(h0, .inr (12, fs8)), (q1, .inl (cA2, 6000, .inl (fun _ => 0))), (q6, .inl (cA7, 4, .inl (fun _ => 0)))] H := hP
  have hD : va_D A [(h0, .inr (12, fs8)), (q1, .inl (cA2, 6000, .inl (fun _ => 0))), (q6, .inl (cA7, 4, .inl (fun _ => 0)))] := hD
  have hI : xq_I fs8 [.int 0, .ref q1, .int 0, .ref q6, .null, .int 0, .null, .null, .int 0, .int 0, .int 0, .int 0, .int 0, .int 0, .null, .int 0] := hI
  refine lv_aload_n hx hb d_Model_init_28 rfl (lv_at hl 0 rfl) ?_
  refine lv_iconst (v := (nI 4)) hx hb d_Model_init_29 (by decide) ?_
  refine va_newa (atype := .boolean) (ty := .boolean) (a0 := (4, .inl (fun _ => 0))) hx hb (ht _ v_137) rfl hK hP hD hS hA (fun _ => rfl) (nI_pos (by decide)) (nI_clamp (by decide)) (by decide) (Nat.le_of_ble_eq_true rfl) (Nat.le_of_ble_eq_true rfl) d_Model_init_30 (fun q9 cA10 H hK hP hD hS => ?_)
  refine W.widen (k := 4) (n := 166008) (by omega) (by omega) ?_
  have hP : va_P (dC, dI) classes [(h0, .inr (12, fs8)), (q1, .inl (cA2, 6000, .inl (fun _ => 0))), (q6, .inl (cA7, 4, .inl (fun _ => 0))), (q9, .inl (cA10, 4, .inl (fun _ => 0)))] H := hP
  have hD : va_D A [(h0, .inr (12, fs8)), (q1, .inl (cA2, 6000, .inl (fun _ => 0))), (q6, .inl (cA7, 4, .inl (fun _ => 0))), (q9, .inl (cA10, 4, .inl (fun _ => 0)))] := hD
  have hK : va_K (dC, dI) classes [(cA2, .byte), (cA7, .int), (cA10, .boolean)] s := hK
  refine xm_putF (v := .ref q9) (ty := .array .boolean) hx hb ht hown hK hP hD hS rfl 5 (by decide) fM_5 (ht _ v_20) hin (by decide +kernel) rfl rfl (by rw [hI.1]; decide) d_Model_init_32 (fun H locs hP hD hS => ?_)
  have hI := xq_putN (v := .ref q9) 4 5 (by decide) (by decide) (by decide +kernel) (by decide) rfl hI
  generalize List.set fs8 5 (.ref q9) = fs11 at hP hD hI
  have hP : va_P (dC, dI) classes [(h0, .inr (12, fs11)), (q1, .inl (cA2, 6000, .inl (fun _ => 0))), (q6, .inl (cA7, 4, .inl (fun _ => 0))), (q9, .inl (cA10, 4, .inl (fun _ => 0)))] H := hP
  have hD : va_D A [(h0, .inr (12, fs11)), (q1, .inl (cA2, 6000, .inl (fun _ => 0))), (q6, .inl (cA7, 4, .inl (fun _ => 0))), (q9, .inl (cA10, 4, .inl (fun _ => 0)))] := hD
  have hI : xq_I fs11 [.int 0, .ref q1, .int 0, .ref q6, .ref q9, .int 0, .null, .null, .int 0, .int 0, .int 0, .int 0, .int 0, .int 0, .null, .int 0] := hI
  refine lv_aload_n hx hb d_Model_init_35 rfl (lv_at hl 0 rfl) ?_
  refine lv_ldc (v := (nI 65536)) hx hb hown (ht _ v_10) d_Model_init_36 ?_
  refine xw_newO (atype := .byte) hx hb (ht _ v_3) hP hS (nI_pos (by decide)) (nI_clamp (by decide)) (by decide) (Nat.le_of_ble_eq_true rfl) (Nat.le_of_ble_eq_true rfl) d_Model_init_38 (fun q12 H hP hS => ?_)
  refine W.widen (k := 5) (n := 231544) (by omega) (by omega) ?_
  refine xm_putF (v := .ref q12) (ty := .array .byte) hx hb ht hown hK hP hD hS rfl 6 (by decide) fM_6 (ht _ v_21) hin (by decide +kernel) rfl rfl (by rw [hI.1]; decide) d_Model_init_40 (fun H locs hP hD hS => ?_)
  have hI := xq_put (k := 6) (v := .ref q12) (by decide +kernel) hI
  generalize List.set fs11 6 (.ref q12) = fs13 at hP hD hI
  have hP : va_P (dC, dI) classes [(h0, .inr (12, fs13)), (q1, .inl (cA2, 6000, .inl (fun _ => 0))), (q6, .inl (cA7, 4, .inl (fun _ => 0))), (q9, .inl (cA10, 4, .inl (fun _ => 0)))] H := hP
  have hD : va_D A [(h0, .inr (12, fs13)), (q1, .inl (cA2, 6000, .inl (fun _ => 0))), (q6, .inl (cA7, 4, .inl (fun _ => 0))), (q9, .inl (cA10, 4, .inl (fun _ => 0)))] := hD
  have hI : xq_I fs13 [.int 0, .ref q1, .int 0, .ref q6, .ref q9, .int 0, .null, .null, .int 0, .int 0, .int 0, .int 0, .int 0, .int 0, .null, .int 0] := hI
  refine lv_aload_n hx hb d_Model_init_43 rfl (lv_at hl 0 rfl) ?_
  refine lv_bipush (v := (nI 48)) hx hb d_Model_init_44 (by decide) ?_
  refine xw_newO (atype := .byte) hx hb (ht _ v_3) hP hS (nI_pos (by decide)) (nI_clamp (by decide)) (by decide) (Nat.le_of_ble_eq_true rfl) (Nat.le_of_ble_eq_true rfl) d_Model_init_46 (fun q14 H hP hS => ?_)
  refine W.widen (k := 6) (n := 231592) (by omega) (by omega) ?_
  refine xm_putF (v := .ref q14) (ty := .array .byte) hx hb ht hown hK hP hD hS rfl 9 (by decide) fM_9 (ht _ v_24) hin (by decide +kernel) rfl rfl (by rw [hI.1]; decide) d_Model_init_48 (fun H locs hP hD hS => ?_)
  have hI := xq_put (k := 9) (v := .ref q14) (by decide +kernel) hI
  generalize List.set fs13 9 (.ref q14) = fs15 at hP hD hI
  have hP : va_P (dC, dI) classes [(h0, .inr (12, fs15)), (q1, .inl (cA2, 6000, .inl (fun _ => 0))), (q6, .inl (cA7, 4, .inl (fun _ => 0))), (q9, .inl (cA10, 4, .inl (fun _ => 0)))] H := hP
  have hD : va_D A [(h0, .inr (12, fs15)), (q1, .inl (cA2, 6000, .inl (fun _ => 0))), (q6, .inl (cA7, 4, .inl (fun _ => 0))), (q9, .inl (cA10, 4, .inl (fun _ => 0)))] := hD
  have hI : xq_I fs15 [.int 0, .ref q1, .int 0, .ref q6, .ref q9, .int 0, .null, .null, .int 0, .int 0, .int 0, .int 0, .int 0, .int 0, .null, .int 0] := hI
  refine lv_aload_n hx hb d_Model_init_51 rfl (lv_at hl 0 rfl) ?_
  refine lv_iconst (v := (nI 4)) hx hb d_Model_init_52 (by decide) ?_
  refine xw_newO (atype := .int) hx hb (ht _ v_4) hP hS (nI_pos (by decide)) (nI_clamp (by decide)) (by decide) (Nat.le_of_ble_eq_true rfl) (Nat.le_of_ble_eq_true rfl) d_Model_init_53 (fun q16 H hP hS => ?_)
  refine W.widen (k := 7) (n := 231596) (by omega) (by omega) ?_
  refine xm_putF (v := .ref q16) (ty := .array .int) hx hb ht hown hK hP hD hS rfl 10 (by decide) fM_10 (ht _ v_25) hin (by decide +kernel) rfl rfl (by rw [hI.1]; decide) d_Model_init_55 (fun H locs hP hD hS => ?_)
  have hI := xq_put (k := 10) (v := .ref q16) (by decide +kernel) hI
  generalize List.set fs15 10 (.ref q16) = fs17 at hP hD hI
  have hP : va_P (dC, dI) classes [(h0, .inr (12, fs17)), (q1, .inl (cA2, 6000, .inl (fun _ => 0))), (q6, .inl (cA7, 4, .inl (fun _ => 0))), (q9, .inl (cA10, 4, .inl (fun _ => 0)))] H := hP
  have hD : va_D A [(h0, .inr (12, fs17)), (q1, .inl (cA2, 6000, .inl (fun _ => 0))), (q6, .inl (cA7, 4, .inl (fun _ => 0))), (q9, .inl (cA10, 4, .inl (fun _ => 0)))] := hD
  have hI : xq_I fs17 [.int 0, .ref q1, .int 0, .ref q6, .ref q9, .int 0, .null, .null, .int 0, .int 0, .int 0, .int 0, .int 0, .int 0, .null, .int 0] := hI
  refine lv_aload_n hx hb d_Model_init_58 rfl (lv_at hl 0 rfl) ?_
  refine lv_bipush (v := (nI 80)) hx hb d_Model_init_59 (by decide) ?_
  refine xw_newO (atype := .byte) hx hb (ht _ v_3) hP hS (nI_pos (by decide)) (nI_clamp (by decide)) (by decide) (Nat.le_of_ble_eq_true rfl) (Nat.le_of_ble_eq_true rfl) d_Model_init_61 (fun q18 H hP hS => ?_)
  refine W.widen (k := 8) (n := 231676) (by omega) (by omega) ?_
  refine xm_putF (v := .ref q18) (ty := .array .byte) hx hb ht hown hK hP hD hS rfl 11 (by decide) fM_11 (ht _ v_26) hin (by decide +kernel) rfl rfl (by rw [hI.1]; decide) d_Model_init_63 (fun H locs hP hD hS => ?_)
  have hI := xq_put (k := 11) (v := .ref q18) (by decide +kernel) hI
  generalize List.set fs17 11 (.ref q18) = fs19 at hP hD hI
  have hP : va_P (dC, dI) classes [(h0, .inr (12, fs19)), (q1, .inl (cA2, 6000, .inl (fun _ => 0))), (q6, .inl (cA7, 4, .inl (fun _ => 0))), (q9, .inl (cA10, 4, .inl (fun _ => 0)))] H := hP
  have hD : va_D A [(h0, .inr (12, fs19)), (q1, .inl (cA2, 6000, .inl (fun _ => 0))), (q6, .inl (cA7, 4, .inl (fun _ => 0))), (q9, .inl (cA10, 4, .inl (fun _ => 0)))] := hD
  have hI : xq_I fs19 [.int 0, .ref q1, .int 0, .ref q6, .ref q9, .int 0, .null, .null, .int 0, .int 0, .int 0, .int 0, .int 0, .int 0, .null, .int 0] := hI
  refine lv_aload_n hx hb d_Model_init_66 rfl (lv_at hl 0 rfl) ?_
  refine lv_iconst (v := (nI 4)) hx hb d_Model_init_67 (by decide) ?_
  refine xw_newO (atype := .int) hx hb (ht _ v_4) hP hS (nI_pos (by decide)) (nI_clamp (by decide)) (by decide) (Nat.le_of_ble_eq_true rfl) (Nat.le_of_ble_eq_true rfl) d_Model_init_68 (fun q20 H hP hS => ?_)
  refine W.widen (k := 9) (n := 231680) (by omega) (by omega) ?_
  refine xm_putF (v := .ref q20) (ty := .array .int) hx hb ht hown hK hP hD hS rfl 12 (by decide) fM_12 (ht _ v_27) hin (by decide +kernel) rfl rfl (by rw [hI.1]; decide) d_Model_init_70 (fun H locs hP hD hS => ?_)
  have hI := xq_put (k := 12) (v := .ref q20) (by decide +kernel) hI
  generalize List.set fs19 12 (.ref q20) = fs21 at hP hD hI
  have hP : va_P (dC, dI) classes [(h0, .inr (12, fs21)), (q1, .inl (cA2, 6000, .inl (fun _ => 0))), (q6, .inl (cA7, 4, .inl (fun _ => 0))), (q9, .inl (cA10, 4, .inl (fun _ => 0)))] H := hP
  have hD : va_D A [(h0, .inr (12, fs21)), (q1, .inl (cA2, 6000, .inl (fun _ => 0))), (q6, .inl (cA7, 4, .inl (fun _ => 0))), (q9, .inl (cA10, 4, .inl (fun _ => 0)))] := hD
  have hI : xq_I fs21 [.int 0, .ref q1, .int 0, .ref q6, .ref q9, .int 0, .null, .null, .int 0, .int 0, .int 0, .int 0, .int 0, .int 0, .null, .int 0] := hI
  refine lv_aload_n hx hb d_Model_init_73 rfl (lv_at hl 0 rfl) ?_
  refine lv_bipush (v := (nI 6)) hx hb d_Model_init_74 (by decide) ?_
  refine va_newa (atype := .boolean) (ty := .boolean) (a0 := (6, .inl (fun _ => 0))) hx hb (ht _ v_137) rfl hK hP hD hS hA (fun _ => rfl) (nI_pos (by decide)) (nI_clamp (by decide)) (by decide) (Nat.le_of_ble_eq_true rfl) (Nat.le_of_ble_eq_true rfl) d_Model_init_76 (fun q22 cA23 H hK hP hD hS => ?_)
  refine W.widen (k := 10) (n := 231686) (by omega) (by omega) ?_
  have hP : va_P (dC, dI) classes [(h0, .inr (12, fs21)), (q1, .inl (cA2, 6000, .inl (fun _ => 0))), (q6, .inl (cA7, 4, .inl (fun _ => 0))), (q9, .inl (cA10, 4, .inl (fun _ => 0))), (q22, .inl (cA23, 6, .inl (fun _ => 0)))] H := hP
  have hD : va_D A [(h0, .inr (12, fs21)), (q1, .inl (cA2, 6000, .inl (fun _ => 0))), (q6, .inl (cA7, 4, .inl (fun _ => 0))), (q9, .inl (cA10, 4, .inl (fun _ => 0))), (q22, .inl (cA23, 6, .inl (fun _ => 0)))] := hD
  have hK : va_K (dC, dI) classes [(cA2, .byte), (cA7, .int), (cA10, .boolean), (cA23, .boolean)] s := hK
  refine xm_putF (v := .ref q22) (ty := .array .boolean) hx hb ht hown hK hP hD hS rfl 13 (by decide) fM_13 (ht _ v_28) hin (by decide +kernel) rfl rfl (by rw [hI.1]; decide) d_Model_init_78 (fun H locs hP hD hS => ?_)
  have hI := xq_putN (v := .ref q22) 6 13 (by decide) (by decide) (by decide +kernel) (by decide) rfl hI
  generalize List.set fs21 13 (.ref q22) = fs24 at hP hD hI
  have hP : va_P (dC, dI) classes [(h0, .inr (12, fs24)), (q1, .inl (cA2, 6000, .inl (fun _ => 0))), (q6, .inl (cA7, 4, .inl (fun _ => 0))), (q9, .inl (cA10, 4, .inl (fun _ => 0))), (q22, .inl (cA23, 6, .inl (fun _ => 0)))] H := hP
  have hD : va_D A [(h0, .inr (12, fs24)), (q1, .inl (cA2, 6000, .inl (fun _ => 0))), (q6, .inl (cA7, 4, .inl (fun _ => 0))), (q9, .inl (cA10, 4, .inl (fun _ => 0))), (q22, .inl (cA23, 6, .inl (fun _ => 0)))] := hD
  have hI : xq_I fs24 [.int 0, .ref q1, .int 0, .ref q6, .ref q9, .int 0, .ref q22, .null, .int 0, .int 0, .int 0, .int 0, .int 0, .int 0, .null, .int 0] := hI
  refine lv_aload_n hx hb d_Model_init_81 rfl (lv_at hl 0 rfl) ?_
  refine lv_bipush (v := (nI 6)) hx hb d_Model_init_82 (by decide) ?_
  refine xw_newO (atype := .int) hx hb (ht _ v_4) hP hS (nI_pos (by decide)) (nI_clamp (by decide)) (by decide) (Nat.le_of_ble_eq_true rfl) (Nat.le_of_ble_eq_true rfl) d_Model_init_84 (fun q25 H hP hS => ?_)
  refine W.widen (k := 11) (n := 231692) (by omega) (by omega) ?_
  refine xm_putF (v := .ref q25) (ty := .array .int) hx hb ht hown hK hP hD hS rfl 14 (by decide) fM_14 (ht _ v_29) hin (by decide +kernel) rfl rfl (by rw [hI.1]; decide) d_Model_init_86 (fun H locs hP hD hS => ?_)
  have hI := xq_put (k := 14) (v := .ref q25) (by decide +kernel) hI
  generalize List.set fs24 14 (.ref q25) = fs26 at hP hD hI
  have hP : va_P (dC, dI) classes [(h0, .inr (12, fs26)), (q1, .inl (cA2, 6000, .inl (fun _ => 0))), (q6, .inl (cA7, 4, .inl (fun _ => 0))), (q9, .inl (cA10, 4, .inl (fun _ => 0))), (q22, .inl (cA23, 6, .inl (fun _ => 0)))] H := hP
  have hD : va_D A [(h0, .inr (12, fs26)), (q1, .inl (cA2, 6000, .inl (fun _ => 0))), (q6, .inl (cA7, 4, .inl (fun _ => 0))), (q9, .inl (cA10, 4, .inl (fun _ => 0))), (q22, .inl (cA23, 6, .inl (fun _ => 0)))] := hD
  have hI : xq_I fs26 [.int 0, .ref q1, .int 0, .ref q6, .ref q9, .int 0, .ref q22, .null, .int 0, .int 0, .int 0, .int 0, .int 0, .int 0, .null, .int 0] := hI
  refine lv_aload_n hx hb d_Model_init_89 rfl (lv_at hl 0 rfl) ?_
  refine lv_bipush (v := (nI 120)) hx hb d_Model_init_90 (by decide) ?_
  refine xw_newO (atype := .byte) hx hb (ht _ v_3) hP hS (nI_pos (by decide)) (nI_clamp (by decide)) (by decide) (Nat.le_of_ble_eq_true rfl) (Nat.le_of_ble_eq_true rfl) d_Model_init_92 (fun q27 H hP hS => ?_)
  refine W.widen (k := 12) (n := 231812) (by omega) (by omega) ?_
  refine xm_putF (v := .ref q27) (ty := .array .byte) hx hb ht hown hK hP hD hS rfl 15 (by decide) fM_15 (ht _ v_30) hin (by decide +kernel) rfl rfl (by rw [hI.1]; decide) d_Model_init_94 (fun H locs hP hD hS => ?_)
  have hI := xq_put (k := 15) (v := .ref q27) (by decide +kernel) hI
  generalize List.set fs26 15 (.ref q27) = fs28 at hP hD hI
  have hP : va_P (dC, dI) classes [(h0, .inr (12, fs28)), (q1, .inl (cA2, 6000, .inl (fun _ => 0))), (q6, .inl (cA7, 4, .inl (fun _ => 0))), (q9, .inl (cA10, 4, .inl (fun _ => 0))), (q22, .inl (cA23, 6, .inl (fun _ => 0)))] H := hP
  have hD : va_D A [(h0, .inr (12, fs28)), (q1, .inl (cA2, 6000, .inl (fun _ => 0))), (q6, .inl (cA7, 4, .inl (fun _ => 0))), (q9, .inl (cA10, 4, .inl (fun _ => 0))), (q22, .inl (cA23, 6, .inl (fun _ => 0)))] := hD
  have hI : xq_I fs28 [.int 0, .ref q1, .int 0, .ref q6, .ref q9, .int 0, .ref q22, .null, .int 0, .int 0, .int 0, .int 0, .int 0, .int 0, .null, .int 0] := hI
  refine lv_aload_n hx hb d_Model_init_97 rfl (lv_at hl 0 rfl) ?_
  refine lv_bipush (v := (nI 6)) hx hb d_Model_init_98 (by decide) ?_
  refine xw_newO (atype := .int) hx hb (ht _ v_4) hP hS (nI_pos (by decide)) (nI_clamp (by decide)) (by decide) (Nat.le_of_ble_eq_true rfl) (Nat.le_of_ble_eq_true rfl) d_Model_init_100 (fun q29 H hP hS => ?_)
  refine W.widen (k := 13) (n := 231818) (by omega) (by omega) ?_
  refine xm_putF (v := .ref q29) (ty := .array .int) hx hb ht hown hK hP hD hS rfl 16 (by decide) fM_16 (ht _ v_31) hin (by decide +kernel) rfl rfl (by rw [hI.1]; decide) d_Model_init_102 (fun H locs hP hD hS => ?_)
  have hI := xq_put (k := 16) (v := .ref q29) (by decide +kernel) hI
  generalize List.set fs28 16 (.ref q29) = fs30 at hP hD hI
  have hP : va_P (dC, dI) classes [(h0, .inr (12, fs30)), (q1, .inl (cA2, 6000, .inl (fun _ => 0))), (q6, .inl (cA7, 4, .inl (fun _ => 0))), (q9, .inl (cA10, 4, .inl (fun _ => 0))), (q22, .inl (cA23, 6, .inl (fun _ => 0)))] H := hP
  have hD : va_D A [(h0, .inr (12, fs30)), (q1, .inl (cA2, 6000, .inl (fun _ => 0))), (q6, .inl (cA7, 4, .inl (fun _ => 0))), (q9, .inl (cA10, 4, .inl (fun _ => 0))), (q22, .inl (cA23, 6, .inl (fun _ => 0)))] := hD
  have hI : xq_I fs30 [.int 0, .ref q1, .int 0, .ref q6, .ref q9, .int 0, .ref q22, .null, .int 0, .int 0, .int 0, .int 0, .int 0, .int 0, .null, .int 0] := hI
  refine lv_aload_n hx hb d_Model_init_105 rfl (lv_at hl 0 rfl) ?_
  refine lv_bipush (v := (nI 6)) hx hb d_Model_init_106 (by decide) ?_
  refine xw_newO (atype := .int) hx hb (ht _ v_4) hP hS (nI_pos (by decide)) (nI_clamp (by decide)) (by decide) (Nat.le_of_ble_eq_true rfl) (Nat.le_of_ble_eq_true rfl) d_Model_init_108 (fun q31 H hP hS => ?_)
  refine W.widen (k := 14) (n := 231824) (by omega) (by omega) ?_
  refine xm_putF (v := .ref q31) (ty := .array .int) hx hb ht hown hK hP hD hS rfl 17 (by decide) fM_17 (ht _ v_32) hin (by decide +kernel) rfl rfl (by rw [hI.1]; decide) d_Model_init_110 (fun H locs hP hD hS => ?_)
  have hI := xq_put (k := 17) (v := .ref q31) (by decide +kernel) hI
  generalize List.set fs30 17 (.ref q31) = fs32 at hP hD hI
  have hP : va_P (dC, dI) classes [(h0, .inr (12, fs32)), (q1, .inl (cA2, 6000, .inl (fun _ => 0))), (q6, .inl (cA7, 4, .inl (fun _ => 0))), (q9, .inl (cA10, 4, .inl (fun _ => 0))), (q22, .inl (cA23, 6, .inl (fun _ => 0)))] H := hP
  have hD : va_D A [(h0, .inr (12, fs32)), (q1, .inl (cA2, 6000, .inl (fun _ => 0))), (q6, .inl (cA7, 4, .inl (fun _ => 0))), (q9, .inl (cA10, 4, .inl (fun _ => 0))), (q22, .inl (cA23, 6, .inl (fun _ => 0)))] := hD
  have hI : xq_I fs32 [.int 0, .ref q1, .int 0, .ref q6, .ref q9, .int 0, .ref q22, .null, .int 0, .int 0, .int 0, .int 0, .int 0, .int 0, .null, .int 0] := hI
  refine lv_aload_n hx hb d_Model_init_113 rfl (lv_at hl 0 rfl) ?_
  refine lv_sipush (v := (nI 360)) hx hb d_Model_init_114 (by decide) ?_
  refine xw_newO (atype := .byte) hx hb (ht _ v_3) hP hS (nI_pos (by decide)) (nI_clamp (by decide)) (by decide) (Nat.le_of_ble_eq_true rfl) (Nat.le_of_ble_eq_true rfl) d_Model_init_117 (fun q33 H hP hS => ?_)
  refine W.widen (k := 15) (n := 232184) (by omega) (by omega) ?_
  refine xm_putF (v := .ref q33) (ty := .array .byte) hx hb ht hown hK hP hD hS rfl 18 (by decide) fM_18 (ht _ v_33) hin (by decide +kernel) rfl rfl (by rw [hI.1]; decide) d_Model_init_119 (fun H locs hP hD hS => ?_)
  have hI := xq_put (k := 18) (v := .ref q33) (by decide +kernel) hI
  generalize List.set fs32 18 (.ref q33) = fs34 at hP hD hI
  have hP : va_P (dC, dI) classes [(h0, .inr (12, fs34)), (q1, .inl (cA2, 6000, .inl (fun _ => 0))), (q6, .inl (cA7, 4, .inl (fun _ => 0))), (q9, .inl (cA10, 4, .inl (fun _ => 0))), (q22, .inl (cA23, 6, .inl (fun _ => 0)))] H := hP
  have hD : va_D A [(h0, .inr (12, fs34)), (q1, .inl (cA2, 6000, .inl (fun _ => 0))), (q6, .inl (cA7, 4, .inl (fun _ => 0))), (q9, .inl (cA10, 4, .inl (fun _ => 0))), (q22, .inl (cA23, 6, .inl (fun _ => 0)))] := hD
  have hI : xq_I fs34 [.int 0, .ref q1, .int 0, .ref q6, .ref q9, .int 0, .ref q22, .null, .int 0, .int 0, .int 0, .int 0, .int 0, .int 0, .null, .int 0] := hI
  refine lv_aload_n hx hb d_Model_init_122 rfl (lv_at hl 0 rfl) ?_
  refine lv_bipush (v := (nI 6)) hx hb d_Model_init_123 (by decide) ?_
  refine xw_newO (atype := .int) hx hb (ht _ v_4) hP hS (nI_pos (by decide)) (nI_clamp (by decide)) (by decide) (Nat.le_of_ble_eq_true rfl) (Nat.le_of_ble_eq_true rfl) d_Model_init_125 (fun q35 H hP hS => ?_)
  refine W.widen (k := 16) (n := 232190) (by omega) (by omega) ?_
  refine xm_putF (v := .ref q35) (ty := .array .int) hx hb ht hown hK hP hD hS rfl 19 (by decide) fM_19 (ht _ v_34) hin (by decide +kernel) rfl rfl (by rw [hI.1]; decide) d_Model_init_127 (fun H locs hP hD hS => ?_)
  have hI := xq_put (k := 19) (v := .ref q35) (by decide +kernel) hI
  generalize List.set fs34 19 (.ref q35) = fs36 at hP hD hI
  have hP : va_P (dC, dI) classes [(h0, .inr (12, fs36)), (q1, .inl (cA2, 6000, .inl (fun _ => 0))), (q6, .inl (cA7, 4, .inl (fun _ => 0))), (q9, .inl (cA10, 4, .inl (fun _ => 0))), (q22, .inl (cA23, 6, .inl (fun _ => 0)))] H := hP
  have hD : va_D A [(h0, .inr (12, fs36)), (q1, .inl (cA2, 6000, .inl (fun _ => 0))), (q6, .inl (cA7, 4, .inl (fun _ => 0))), (q9, .inl (cA10, 4, .inl (fun _ => 0))), (q22, .inl (cA23, 6, .inl (fun _ => 0)))] := hD
  have hI : xq_I fs36 [.int 0, .ref q1, .int 0, .ref q6, .ref q9, .int 0, .ref q22, .null, .int 0, .int 0, .int 0, .int 0, .int 0, .int 0, .null, .int 0] := hI
  refine lv_aload_n hx hb d_Model_init_130 rfl (lv_at hl 0 rfl) ?_
  refine lv_sipush (v := (nI 360)) hx hb d_Model_init_131 (by decide) ?_
  refine xw_newO (atype := .byte) hx hb (ht _ v_3) hP hS (nI_pos (by decide)) (nI_clamp (by decide)) (by decide) (Nat.le_of_ble_eq_true rfl) (Nat.le_of_ble_eq_true rfl) d_Model_init_134 (fun q37 H hP hS => ?_)
  refine W.widen (k := 17) (n := 232550) (by omega) (by omega) ?_
  refine xm_putF (v := .ref q37) (ty := .array .byte) hx hb ht hown hK hP hD hS rfl 20 (by decide) fM_20 (ht _ v_35) hin (by decide +kernel) rfl rfl (by rw [hI.1]; decide) d_Model_init_136 (fun H locs hP hD hS => ?_)
  have hI := xq_put (k := 20) (v := .ref q37) (by decide +kernel) hI
  generalize List.set fs36 20 (.ref q37) = fs38 at hP hD hI
  have hP : va_P (dC, dI) classes [(h0, .inr (12, fs38)), (q1, .inl (cA2, 6000, .inl (fun _ => 0))), (q6, .inl (cA7, 4, .inl (fun _ => 0))), (q9, .inl (cA10, 4, .inl (fun _ => 0))), (q22, .inl (cA23, 6, .inl (fun _ => 0)))] H := hP
  have hD : va_D A [(h0, .inr (12, fs38)), (q1, .inl (cA2, 6000, .inl (fun _ => 0))), (q6, .inl (cA7, 4, .inl (fun _ => 0))), (q9, .inl (cA10, 4, .inl (fun _ => 0))), (q22, .inl (cA23, 6, .inl (fun _ => 0)))] := hD
  have hI : xq_I fs38 [.int 0, .ref q1, .int 0, .ref q6, .ref q9, .int 0, .ref q22, .null, .int 0, .int 0, .int 0, .int 0, .int 0, .int 0, .null, .int 0] := hI
  refine lv_aload_n hx hb d_Model_init_139 rfl (lv_at hl 0 rfl) ?_
  refine lv_bipush (v := (nI 6)) hx hb d_Model_init_140 (by decide) ?_
  refine xw_newO (atype := .int) hx hb (ht _ v_4) hP hS (nI_pos (by decide)) (nI_clamp (by decide)) (by decide) (Nat.le_of_ble_eq_true rfl) (Nat.le_of_ble_eq_true rfl) d_Model_init_142 (fun q39 H hP hS => ?_)
  refine W.widen (k := 18) (n := 232556) (by omega) (by omega) ?_
  refine xm_putF (v := .ref q39) (ty := .array .int) hx hb ht hown hK hP hD hS rfl 21 (by decide) fM_21 (ht _ v_36) hin (by decide +kernel) rfl rfl (by rw [hI.1]; decide) d_Model_init_144 (fun H locs hP hD hS => ?_)
  have hI := xq_put (k := 21) (v := .ref q39) (by decide +kernel) hI
  generalize List.set fs38 21 (.ref q39) = fs40 at hP hD hI
  have hP : va_P (dC, dI) classes [(h0, .inr (12, fs40)), (q1, .inl (cA2, 6000, .inl (fun _ => 0))), (q6, .inl (cA7, 4, .inl (fun _ => 0))), (q9, .inl (cA10, 4, .inl (fun _ => 0))), (q22, .inl (cA23, 6, .inl (fun _ => 0)))] H := hP
  have hD : va_D A [(h0, .inr (12, fs40)), (q1, .inl (cA2, 6000, .inl (fun _ => 0))), (q6, .inl (cA7, 4, .inl (fun _ => 0))), (q9, .inl (cA10, 4, .inl (fun _ => 0))), (q22, .inl (cA23, 6, .inl (fun _ => 0)))] := hD
  have hI : xq_I fs40 [.int 0, .ref q1, .int 0, .ref q6, .ref q9, .int 0, .ref q22, .null, .int 0, .int 0, .int 0, .int 0, .int 0, .int 0, .null, .int 0] := hI
  refine lv_aload_n hx hb d_Model_init_147 rfl (lv_at hl 0 rfl) ?_
  refine lv_bipush (v := (nI 24)) hx hb d_Model_init_148 (by decide) ?_
  refine xw_newO (atype := .int) hx hb (ht _ v_4) hP hS (nI_pos (by decide)) (nI_clamp (by decide)) (by decide) (Nat.le_of_ble_eq_true rfl) (Nat.le_of_ble_eq_true rfl) d_Model_init_150 (fun q41 H hP hS => ?_)
  refine W.widen (k := 19) (n := 232580) (by omega) (by omega) ?_
  refine xm_putF (v := .ref q41) (ty := .array .int) hx hb ht hown hK hP hD hS rfl 22 (by decide) fM_22 (ht _ v_37) hin (by decide +kernel) rfl rfl (by rw [hI.1]; decide) d_Model_init_152 (fun H locs hP hD hS => ?_)
  have hI := xq_put (k := 22) (v := .ref q41) (by decide +kernel) hI
  generalize List.set fs40 22 (.ref q41) = fs42 at hP hD hI
  have hP : va_P (dC, dI) classes [(h0, .inr (12, fs42)), (q1, .inl (cA2, 6000, .inl (fun _ => 0))), (q6, .inl (cA7, 4, .inl (fun _ => 0))), (q9, .inl (cA10, 4, .inl (fun _ => 0))), (q22, .inl (cA23, 6, .inl (fun _ => 0)))] H := hP
  have hD : va_D A [(h0, .inr (12, fs42)), (q1, .inl (cA2, 6000, .inl (fun _ => 0))), (q6, .inl (cA7, 4, .inl (fun _ => 0))), (q9, .inl (cA10, 4, .inl (fun _ => 0))), (q22, .inl (cA23, 6, .inl (fun _ => 0)))] := hD
  have hI : xq_I fs42 [.int 0, .ref q1, .int 0, .ref q6, .ref q9, .int 0, .ref q22, .null, .int 0, .int 0, .int 0, .int 0, .int 0, .int 0, .null, .int 0] := hI
  refine lv_aload_n hx hb d_Model_init_155 rfl (lv_at hl 0 rfl) ?_
  refine lv_bipush (v := (nI 6)) hx hb d_Model_init_156 (by decide) ?_
  refine xw_newO (atype := .int) hx hb (ht _ v_4) hP hS (nI_pos (by decide)) (nI_clamp (by decide)) (by decide) (Nat.le_of_ble_eq_true rfl) (Nat.le_of_ble_eq_true rfl) d_Model_init_158 (fun q43 H hP hS => ?_)
  refine W.widen (k := 20) (n := 232586) (by omega) (by omega) ?_
  refine xm_putF (v := .ref q43) (ty := .array .int) hx hb ht hown hK hP hD hS rfl 23 (by decide) fM_23 (ht _ v_38) hin (by decide +kernel) rfl rfl (by rw [hI.1]; decide) d_Model_init_160 (fun H locs hP hD hS => ?_)
  have hI := xq_put (k := 23) (v := .ref q43) (by decide +kernel) hI
  generalize List.set fs42 23 (.ref q43) = fs44 at hP hD hI
  have hP : va_P (dC, dI) classes [(h0, .inr (12, fs44)), (q1, .inl (cA2, 6000, .inl (fun _ => 0))), (q6, .inl (cA7, 4, .inl (fun _ => 0))), (q9, .inl (cA10, 4, .inl (fun _ => 0))), (q22, .inl (cA23, 6, .inl (fun _ => 0)))] H := hP
  have hD : va_D A [(h0, .inr (12, fs44)), (q1, .inl (cA2, 6000, .inl (fun _ => 0))), (q6, .inl (cA7, 4, .inl (fun _ => 0))), (q9, .inl (cA10, 4, .inl (fun _ => 0))), (q22, .inl (cA23, 6, .inl (fun _ => 0)))] := hD
  have hI : xq_I fs44 [.int 0, .ref q1, .int 0, .ref q6, .ref q9, .int 0, .ref q22, .null, .int 0, .int 0, .int 0, .int 0, .int 0, .int 0, .null, .int 0] := hI
  refine lv_aload_n hx hb d_Model_init_163 rfl (lv_at hl 0 rfl) ?_
  refine lv_sipush (v := (nI 2400)) hx hb d_Model_init_164 (by decide) ?_
  refine xw_newO (atype := .byte) hx hb (ht _ v_3) hP hS (nI_pos (by decide)) (nI_clamp (by decide)) (by decide) (Nat.le_of_ble_eq_true rfl) (Nat.le_of_ble_eq_true rfl) d_Model_init_167 (fun q45 H hP hS => ?_)
  refine W.widen (k := 21) (n := 234986) (by omega) (by omega) ?_
  refine xm_putF (v := .ref q45) (ty := .array .byte) hx hb ht hown hK hP hD hS rfl 24 (by decide) fM_24 (ht _ v_39) hin (by decide +kernel) rfl rfl (by rw [hI.1]; decide) d_Model_init_169 (fun H locs hP hD hS => ?_)
  have hI := xq_put (k := 24) (v := .ref q45) (by decide +kernel) hI
  generalize List.set fs44 24 (.ref q45) = fs46 at hP hD hI
  have hP : va_P (dC, dI) classes [(h0, .inr (12, fs46)), (q1, .inl (cA2, 6000, .inl (fun _ => 0))), (q6, .inl (cA7, 4, .inl (fun _ => 0))), (q9, .inl (cA10, 4, .inl (fun _ => 0))), (q22, .inl (cA23, 6, .inl (fun _ => 0)))] H := hP
  have hD : va_D A [(h0, .inr (12, fs46)), (q1, .inl (cA2, 6000, .inl (fun _ => 0))), (q6, .inl (cA7, 4, .inl (fun _ => 0))), (q9, .inl (cA10, 4, .inl (fun _ => 0))), (q22, .inl (cA23, 6, .inl (fun _ => 0)))] := hD
  have hI : xq_I fs46 [.int 0, .ref q1, .int 0, .ref q6, .ref q9, .int 0, .ref q22, .null, .int 0, .int 0, .int 0, .int 0, .int 0, .int 0, .null, .int 0] := hI
  refine lv_aload_n hx hb d_Model_init_172 rfl (lv_at hl 0 rfl) ?_
  refine lv_bipush (v := (nI 120)) hx hb d_Model_init_173 (by decide) ?_
  refine xw_newO (atype := .int) hx hb (ht _ v_4) hP hS (nI_pos (by decide)) (nI_clamp (by decide)) (by decide) (Nat.le_of_ble_eq_true rfl) (Nat.le_of_ble_eq_true rfl) d_Model_init_175 (fun q47 H hP hS => ?_)
  refine W.widen (k := 22) (n := 235106) (by omega) (by omega) ?_
  refine xm_putF (v := .ref q47) (ty := .array .int) hx hb ht hown hK hP hD hS rfl 25 (by decide) fM_25 (ht _ v_40) hin (by decide +kernel) rfl rfl (by rw [hI.1]; decide) d_Model_init_177 (fun H locs hP hD hS => ?_)
  have hI := xq_put (k := 25) (v := .ref q47) (by decide +kernel) hI
  generalize List.set fs46 25 (.ref q47) = fs48 at hP hD hI
  have hP : va_P (dC, dI) classes [(h0, .inr (12, fs48)), (q1, .inl (cA2, 6000, .inl (fun _ => 0))), (q6, .inl (cA7, 4, .inl (fun _ => 0))), (q9, .inl (cA10, 4, .inl (fun _ => 0))), (q22, .inl (cA23, 6, .inl (fun _ => 0)))] H := hP
  have hD : va_D A [(h0, .inr (12, fs48)), (q1, .inl (cA2, 6000, .inl (fun _ => 0))), (q6, .inl (cA7, 4, .inl (fun _ => 0))), (q9, .inl (cA10, 4, .inl (fun _ => 0))), (q22, .inl (cA23, 6, .inl (fun _ => 0)))] := hD
  have hI : xq_I fs48 [.int 0, .ref q1, .int 0, .ref q6, .ref q9, .int 0, .ref q22, .null, .int 0, .int 0, .int 0, .int 0, .int 0, .int 0, .null, .int 0] := hI
  refine lv_aload_n hx hb d_Model_init_180 rfl (lv_at hl 0 rfl) ?_
  refine lv_bipush (v := (nI 120)) hx hb d_Model_init_181 (by decide) ?_
  refine xw_newO (atype := .int) hx hb (ht _ v_4) hP hS (nI_pos (by decide)) (nI_clamp (by decide)) (by decide) (Nat.le_of_ble_eq_true rfl) (Nat.le_of_ble_eq_true rfl) d_Model_init_183 (fun q49 H hP hS => ?_)
  refine W.widen (k := 23) (n := 235226) (by omega) (by omega) ?_
  refine xm_putF (v := .ref q49) (ty := .array .int) hx hb ht hown hK hP hD hS rfl 26 (by decide) fM_26 (ht _ v_41) hin (by decide +kernel) rfl rfl (by rw [hI.1]; decide) d_Model_init_185 (fun H locs hP hD hS => ?_)
  have hI := xq_put (k := 26) (v := .ref q49) (by decide +kernel) hI
  generalize List.set fs48 26 (.ref q49) = fs50 at hP hD hI
  have hP : va_P (dC, dI) classes [(h0, .inr (12, fs50)), (q1, .inl (cA2, 6000, .inl (fun _ => 0))), (q6, .inl (cA7, 4, .inl (fun _ => 0))), (q9, .inl (cA10, 4, .inl (fun _ => 0))), (q22, .inl (cA23, 6, .inl (fun _ => 0)))] H := hP
  have hD : va_D A [(h0, .inr (12, fs50)), (q1, .inl (cA2, 6000, .inl (fun _ => 0))), (q6, .inl (cA7, 4, .inl (fun _ => 0))), (q9, .inl (cA10, 4, .inl (fun _ => 0))), (q22, .inl (cA23, 6, .inl (fun _ => 0)))] := hD
  have hI : xq_I fs50 [.int 0, .ref q1, .int 0, .ref q6, .ref q9, .int 0, .ref q22, .null, .int 0, .int 0, .int 0, .int 0, .int 0, .int 0, .null, .int 0] := hI
  refine lv_aload_n hx hb d_Model_init_188 rfl (lv_at hl 0 rfl) ?_
  refine lv_bipush (v := (nI 6)) hx hb d_Model_init_189 (by decide) ?_
  refine xw_newO (atype := .int) hx hb (ht _ v_4) hP hS (nI_pos (by decide)) (nI_clamp (by decide)) (by decide) (Nat.le_of_ble_eq_true rfl) (Nat.le_of_ble_eq_true rfl) d_Model_init_191 (fun q51 H hP hS => ?_)
  refine W.widen (k := 24) (n := 235232) (by omega) (by omega) ?_
  refine xm_putF (v := .ref q51) (ty := .array .int) hx hb ht hown hK hP hD hS rfl 27 (by decide) fM_27 (ht _ v_42) hin (by decide +kernel) rfl rfl (by rw [hI.1]; decide) d_Model_init_193 (fun H locs hP hD hS => ?_)
  have hI := xq_put (k := 27) (v := .ref q51) (by decide +kernel) hI
  generalize List.set fs50 27 (.ref q51) = fs52 at hP hD hI
  have hP : va_P (dC, dI) classes [(h0, .inr (12, fs52)), (q1, .inl (cA2, 6000, .inl (fun _ => 0))), (q6, .inl (cA7, 4, .inl (fun _ => 0))), (q9, .inl (cA10, 4, .inl (fun _ => 0))), (q22, .inl (cA23, 6, .inl (fun _ => 0)))] H := hP
  have hD : va_D A [(h0, .inr (12, fs52)), (q1, .inl (cA2, 6000, .inl (fun _ => 0))), (q6, .inl (cA7, 4, .inl (fun _ => 0))), (q9, .inl (cA10, 4, .inl (fun _ => 0))), (q22, .inl (cA23, 6, .inl (fun _ => 0)))] := hD
  have hI : xq_I fs52 [.int 0, .ref q1, .int 0, .ref q6, .ref q9, .int 0, .ref q22, .null, .int 0, .int 0, .int 0, .int 0, .int 0, .int 0, .null, .int 0] := hI
  refine lv_aload_n hx hb d_Model_init_196 rfl (lv_at hl 0 rfl) ?_
  refine lv_bipush (v := (nI 6)) hx hb d_Model_init_197 (by decide) ?_
  refine xw_newO (atype := .int) hx hb (ht _ v_4) hP hS (nI_pos (by decide)) (nI_clamp (by decide)) (by decide) (Nat.le_of_ble_eq_true rfl) (Nat.le_of_ble_eq_true rfl) d_Model_init_199 (fun q53 H hP hS => ?_)
  refine W.widen (k := 25) (n := 235238) (by omega) (by omega) ?_
  refine xm_putF (v := .ref q53) (ty := .array .int) hx hb ht hown hK hP hD hS rfl 28 (by decide) fM_28 (ht _ v_43) hin (by decide +kernel) rfl rfl (by rw [hI.1]; decide) d_Model_init_201 (fun H locs hP hD hS => ?_)
  have hI := xq_put (k := 28) (v := .ref q53) (by decide +kernel) hI
  generalize List.set fs52 28 (.ref q53) = fs54 at hP hD hI
  have hP : va_P (dC, dI) classes [(h0, .inr (12, fs54)), (q1, .inl (cA2, 6000, .inl (fun _ => 0))), (q6, .inl (cA7, 4, .inl (fun _ => 0))), (q9, .inl (cA10, 4, .inl (fun _ => 0))), (q22, .inl (cA23, 6, .inl (fun _ => 0)))] H := hP
  have hD : va_D A [(h0, .inr (12, fs54)), (q1, .inl (cA2, 6000, .inl (fun _ => 0))), (q6, .inl (cA7, 4, .inl (fun _ => 0))), (q9, .inl (cA10, 4, .inl (fun _ => 0))), (q22, .inl (cA23, 6, .inl (fun _ => 0)))] := hD
  have hI : xq_I fs54 [.int 0, .ref q1, .int 0, .ref q6, .ref q9, .int 0, .ref q22, .null, .int 0, .int 0, .int 0, .int 0, .int 0, .int 0, .null, .int 0] := hI
  refine lv_aload_n hx hb d_Model_init_204 rfl (lv_at hl 0 rfl) ?_
  refine lv_bipush (v := (nI 16)) hx hb d_Model_init_205 (by decide) ?_
  refine va_newa (atype := .boolean) (ty := .boolean) (a0 := (16, .inl (fun _ => 0))) hx hb (ht _ v_137) rfl hK hP hD hS hA (fun _ => rfl) (nI_pos (by decide)) (nI_clamp (by decide)) (by decide) (Nat.le_of_ble_eq_true rfl) (Nat.le_of_ble_eq_true rfl) d_Model_init_207 (fun q55 cA56 H hK hP hD hS => ?_)
  refine W.widen (k := 26) (n := 235254) (by omega) (by omega) ?_
  have hP : va_P (dC, dI) classes [(h0, .inr (12, fs54)), (q1, .inl (cA2, 6000, .inl (fun _ => 0))), (q6, .inl (cA7, 4, .inl (fun _ => 0))), (q9, .inl (cA10, 4, .inl (fun _ => 0))), (q22, .inl (cA23, 6, .inl (fun _ => 0))), (q55, .inl (cA56, 16, .inl (fun _ => 0)))] H := hP
  have hD : va_D A [(h0, .inr (12, fs54)), (q1, .inl (cA2, 6000, .inl (fun _ => 0))), (q6, .inl (cA7, 4, .inl (fun _ => 0))), (q9, .inl (cA10, 4, .inl (fun _ => 0))), (q22, .inl (cA23, 6, .inl (fun _ => 0))), (q55, .inl (cA56, 16, .inl (fun _ => 0)))] := hD
  have hK : va_K (dC, dI) classes [(cA2, .byte), (cA7, .int), (cA10, .boolean), (cA23, .boolean), (cA56, .boolean)] s := hK
  refine xm_putF (v := .ref q55) (ty := .array .boolean) hx hb ht hown hK hP hD hS rfl 29 (by decide) fM_29 (ht _ v_44) hin (by decide +kernel) rfl rfl (by rw [hI.1]; decide) d_Model_init_209 (fun H locs hP hD hS => ?_)
  have hI := xq_putN (v := .ref q55) 7 29 (by decide) (by decide) (by decide +kernel) (by decide) rfl hI
  generalize List.set fs54 29 (.ref q55) = fs57 at hP hD hI
  have hP : va_P (dC, dI) classes [(h0, .inr (12, fs57)), (q1, .inl (cA2, 6000, .inl (fun _ => 0))), (q6, .inl (cA7, 4, .inl (fun _ => 0))), (q9, .inl (cA10, 4, .inl (fun _ => 0))), (q22, .inl (cA23, 6, .inl (fun _ => 0))), (q55, .inl (cA56, 16, .inl (fun _ => 0)))] H := hP
  have hD : va_D A [(h0, .inr (12, fs57)), (q1, .inl (cA2, 6000, .inl (fun _ => 0))), (q6, .inl (cA7, 4, .inl (fun _ => 0))), (q9, .inl (cA10, 4, .inl (fun _ => 0))), (q22, .inl (cA23, 6, .inl (fun _ => 0))), (q55, .inl (cA56, 16, .inl (fun _ => 0)))] := hD
  have hI : xq_I fs57 [.int 0, .ref q1, .int 0, .ref q6, .ref q9, .int 0, .ref q22, .ref q55, .int 0, .int 0, .int 0, .int 0, .int 0, .int 0, .null, .int 0] := hI
  refine lv_aload_n hx hb d_Model_init_212 rfl (lv_at hl 0 rfl) ?_
  refine lv_bipush (v := (nI 16)) hx hb d_Model_init_213 (by decide) ?_
  refine xw_newO (atype := .int) hx hb (ht _ v_4) hP hS (nI_pos (by decide)) (nI_clamp (by decide)) (by decide) (Nat.le_of_ble_eq_true rfl) (Nat.le_of_ble_eq_true rfl) d_Model_init_215 (fun q58 H hP hS => ?_)
  refine W.widen (k := 27) (n := 235270) (by omega) (by omega) ?_
  refine xm_putF (v := .ref q58) (ty := .array .int) hx hb ht hown hK hP hD hS rfl 30 (by decide) fM_30 (ht _ v_45) hin (by decide +kernel) rfl rfl (by rw [hI.1]; decide) d_Model_init_217 (fun H locs hP hD hS => ?_)
  have hI := xq_put (k := 30) (v := .ref q58) (by decide +kernel) hI
  generalize List.set fs57 30 (.ref q58) = fs59 at hP hD hI
  have hP : va_P (dC, dI) classes [(h0, .inr (12, fs59)), (q1, .inl (cA2, 6000, .inl (fun _ => 0))), (q6, .inl (cA7, 4, .inl (fun _ => 0))), (q9, .inl (cA10, 4, .inl (fun _ => 0))), (q22, .inl (cA23, 6, .inl (fun _ => 0))), (q55, .inl (cA56, 16, .inl (fun _ => 0)))] H := hP
  have hD : va_D A [(h0, .inr (12, fs59)), (q1, .inl (cA2, 6000, .inl (fun _ => 0))), (q6, .inl (cA7, 4, .inl (fun _ => 0))), (q9, .inl (cA10, 4, .inl (fun _ => 0))), (q22, .inl (cA23, 6, .inl (fun _ => 0))), (q55, .inl (cA56, 16, .inl (fun _ => 0)))] := hD
  have hI : xq_I fs59 [.int 0, .ref q1, .int 0, .ref q6, .ref q9, .int 0, .ref q22, .ref q55, .int 0, .int 0, .int 0, .int 0, .int 0, .int 0, .null, .int 0] := hI
  refine lv_aload_n hx hb d_Model_init_220 rfl (lv_at hl 0 rfl) ?_
  refine lv_sipush (v := (nI 320)) hx hb d_Model_init_221 (by decide) ?_
  refine xw_newO (atype := .byte) hx hb (ht _ v_3) hP hS (nI_pos (by decide)) (nI_clamp (by decide)) (by decide) (Nat.le_of_ble_eq_true rfl) (Nat.le_of_ble_eq_true rfl) d_Model_init_224 (fun q60 H hP hS => ?_)
  refine W.widen (k := 28) (n := 235590) (by omega) (by omega) ?_
  refine xm_putF (v := .ref q60) (ty := .array .byte) hx hb ht hown hK hP hD hS rfl 31 (by decide) fM_31 (ht _ v_46) hin (by decide +kernel) rfl rfl (by rw [hI.1]; decide) d_Model_init_226 (fun H locs hP hD hS => ?_)
  have hI := xq_put (k := 31) (v := .ref q60) (by decide +kernel) hI
  generalize List.set fs59 31 (.ref q60) = fs61 at hP hD hI
  have hP : va_P (dC, dI) classes [(h0, .inr (12, fs61)), (q1, .inl (cA2, 6000, .inl (fun _ => 0))), (q6, .inl (cA7, 4, .inl (fun _ => 0))), (q9, .inl (cA10, 4, .inl (fun _ => 0))), (q22, .inl (cA23, 6, .inl (fun _ => 0))), (q55, .inl (cA56, 16, .inl (fun _ => 0)))] H := hP
  have hD : va_D A [(h0, .inr (12, fs61)), (q1, .inl (cA2, 6000, .inl (fun _ => 0))), (q6, .inl (cA7, 4, .inl (fun _ => 0))), (q9, .inl (cA10, 4, .inl (fun _ => 0))), (q22, .inl (cA23, 6, .inl (fun _ => 0))), (q55, .inl (cA56, 16, .inl (fun _ => 0)))] := hD
  have hI : xq_I fs61 [.int 0, .ref q1, .int 0, .ref q6, .ref q9, .int 0, .ref q22, .ref q55, .int 0, .int 0, .int 0, .int 0, .int 0, .int 0, .null, .int 0] := hI
  refine lv_aload_n hx hb d_Model_init_229 rfl (lv_at hl 0 rfl) ?_
  refine lv_bipush (v := (nI 16)) hx hb d_Model_init_230 (by decide) ?_
  refine xw_newO (atype := .int) hx hb (ht _ v_4) hP hS (nI_pos (by decide)) (nI_clamp (by decide)) (by decide) (Nat.le_of_ble_eq_true rfl) (Nat.le_of_ble_eq_true rfl) d_Model_init_232 (fun q62 H hP hS => ?_)
  refine W.widen (k := 29) (n := 235606) (by omega) (by omega) ?_
  refine xm_putF (v := .ref q62) (ty := .array .int) hx hb ht hown hK hP hD hS rfl 32 (by decide) fM_32 (ht _ v_47) hin (by decide +kernel) rfl rfl (by rw [hI.1]; decide) d_Model_init_234 (fun H locs hP hD hS => ?_)
  have hI := xq_put (k := 32) (v := .ref q62) (by decide +kernel) hI
  generalize List.set fs61 32 (.ref q62) = fs63 at hP hD hI
  have hP : va_P (dC, dI) classes [(h0, .inr (12, fs63)), (q1, .inl (cA2, 6000, .inl (fun _ => 0))), (q6, .inl (cA7, 4, .inl (fun _ => 0))), (q9, .inl (cA10, 4, .inl (fun _ => 0))), (q22, .inl (cA23, 6, .inl (fun _ => 0))), (q55, .inl (cA56, 16, .inl (fun _ => 0)))] H := hP
  have hD : va_D A [(h0, .inr (12, fs63)), (q1, .inl (cA2, 6000, .inl (fun _ => 0))), (q6, .inl (cA7, 4, .inl (fun _ => 0))), (q9, .inl (cA10, 4, .inl (fun _ => 0))), (q22, .inl (cA23, 6, .inl (fun _ => 0))), (q55, .inl (cA56, 16, .inl (fun _ => 0)))] := hD
  have hI : xq_I fs63 [.int 0, .ref q1, .int 0, .ref q6, .ref q9, .int 0, .ref q22, .ref q55, .int 0, .int 0, .int 0, .int 0, .int 0, .int 0, .null, .int 0] := hI
  refine lv_aload_n hx hb d_Model_init_237 rfl (lv_at hl 0 rfl) ?_
  refine lv_bipush (v := (nI 16)) hx hb d_Model_init_238 (by decide) ?_
  refine xw_newO (atype := .int) hx hb (ht _ v_4) hP hS (nI_pos (by decide)) (nI_clamp (by decide)) (by decide) (Nat.le_of_ble_eq_true rfl) (Nat.le_of_ble_eq_true rfl) d_Model_init_240 (fun q64 H hP hS => ?_)
  refine W.widen (k := 30) (n := 235622) (by omega) (by omega) ?_
  refine xm_putF (v := .ref q64) (ty := .array .int) hx hb ht hown hK hP hD hS rfl 33 (by decide) fM_33 (ht _ v_48) hin (by decide +kernel) rfl rfl (by rw [hI.1]; decide) d_Model_init_242 (fun H locs hP hD hS => ?_)
  have hI := xq_put (k := 33) (v := .ref q64) (by decide +kernel) hI
  generalize List.set fs63 33 (.ref q64) = fs65 at hP hD hI
  have hP : va_P (dC, dI) classes [(h0, .inr (12, fs65)), (q1, .inl (cA2, 6000, .inl (fun _ => 0))), (q6, .inl (cA7, 4, .inl (fun _ => 0))), (q9, .inl (cA10, 4, .inl (fun _ => 0))), (q22, .inl (cA23, 6, .inl (fun _ => 0))), (q55, .inl (cA56, 16, .inl (fun _ => 0)))] H := hP
  have hD : va_D A [(h0, .inr (12, fs65)), (q1, .inl (cA2, 6000, .inl (fun _ => 0))), (q6, .inl (cA7, 4, .inl (fun _ => 0))), (q9, .inl (cA10, 4, .inl (fun _ => 0))), (q22, .inl (cA23, 6, .inl (fun _ => 0))), (q55, .inl (cA56, 16, .inl (fun _ => 0)))] := hD
  have hI : xq_I fs65 [.int 0, .ref q1, .int 0, .ref q6, .ref q9, .int 0, .ref q22, .ref q55, .int 0, .int 0, .int 0, .int 0, .int 0, .int 0, .null, .int 0] := hI
  refine lv_aload_n hx hb d_Model_init_245 rfl (lv_at hl 0 rfl) ?_
  refine lv_ldc (v := (nI 64000)) hx hb hown (ht _ v_11) d_Model_init_246 ?_
  refine xw_newO (atype := .byte) hx hb (ht _ v_3) hP hS (nI_pos (by decide)) (nI_clamp (by decide)) (by decide) (Nat.le_of_ble_eq_true rfl) (Nat.le_of_ble_eq_true rfl) d_Model_init_248 (fun q66 H hP hS => ?_)
  refine W.widen (k := 31) (n := 299622) (by omega) (by omega) ?_
  refine xm_putF (v := .ref q66) (ty := .array .byte) hx hb ht hown hK hP hD hS rfl 34 (by decide) fM_34 (ht _ v_49) hin (by decide +kernel) rfl rfl (by rw [hI.1]; decide) d_Model_init_250 (fun H locs hP hD hS => ?_)
  have hI := xq_put (k := 34) (v := .ref q66) (by decide +kernel) hI
  generalize List.set fs65 34 (.ref q66) = fs67 at hP hD hI
  have hP : va_P (dC, dI) classes [(h0, .inr (12, fs67)), (q1, .inl (cA2, 6000, .inl (fun _ => 0))), (q6, .inl (cA7, 4, .inl (fun _ => 0))), (q9, .inl (cA10, 4, .inl (fun _ => 0))), (q22, .inl (cA23, 6, .inl (fun _ => 0))), (q55, .inl (cA56, 16, .inl (fun _ => 0)))] H := hP
  have hD : va_D A [(h0, .inr (12, fs67)), (q1, .inl (cA2, 6000, .inl (fun _ => 0))), (q6, .inl (cA7, 4, .inl (fun _ => 0))), (q9, .inl (cA10, 4, .inl (fun _ => 0))), (q22, .inl (cA23, 6, .inl (fun _ => 0))), (q55, .inl (cA56, 16, .inl (fun _ => 0)))] := hD
  have hI : xq_I fs67 [.int 0, .ref q1, .int 0, .ref q6, .ref q9, .int 0, .ref q22, .ref q55, .int 0, .int 0, .int 0, .int 0, .int 0, .int 0, .null, .int 0] := hI
  refine lv_aload_n hx hb d_Model_init_253 rfl (lv_at hl 0 rfl) ?_
  refine lv_bipush (v := (nI 16)) hx hb d_Model_init_254 (by decide) ?_
  refine xw_newO (atype := .int) hx hb (ht _ v_4) hP hS (nI_pos (by decide)) (nI_clamp (by decide)) (by decide) (Nat.le_of_ble_eq_true rfl) (Nat.le_of_ble_eq_true rfl) d_Model_init_256 (fun q68 H hP hS => ?_)
  refine W.widen (k := 32) (n := 299638) (by omega) (by omega) ?_
  refine xm_putF (v := .ref q68) (ty := .array .int) hx hb ht hown hK hP hD hS rfl 35 (by decide) fM_35 (ht _ v_50) hin (by decide +kernel) rfl rfl (by rw [hI.1]; decide) d_Model_init_258 (fun H locs hP hD hS => ?_)
  have hI := xq_put (k := 35) (v := .ref q68) (by decide +kernel) hI
  generalize List.set fs67 35 (.ref q68) = fs69 at hP hD hI
  have hP : va_P (dC, dI) classes [(h0, .inr (12, fs69)), (q1, .inl (cA2, 6000, .inl (fun _ => 0))), (q6, .inl (cA7, 4, .inl (fun _ => 0))), (q9, .inl (cA10, 4, .inl (fun _ => 0))), (q22, .inl (cA23, 6, .inl (fun _ => 0))), (q55, .inl (cA56, 16, .inl (fun _ => 0)))] H := hP
  have hD : va_D A [(h0, .inr (12, fs69)), (q1, .inl (cA2, 6000, .inl (fun _ => 0))), (q6, .inl (cA7, 4, .inl (fun _ => 0))), (q9, .inl (cA10, 4, .inl (fun _ => 0))), (q22, .inl (cA23, 6, .inl (fun _ => 0))), (q55, .inl (cA56, 16, .inl (fun _ => 0)))] := hD
  have hI : xq_I fs69 [.int 0, .ref q1, .int 0, .ref q6, .ref q9, .int 0, .ref q22, .ref q55, .int 0, .int 0, .int 0, .int 0, .int 0, .int 0, .null, .int 0] := hI
  refine lv_aload_n hx hb d_Model_init_261 rfl (lv_at hl 0 rfl) ?_
  refine lv_sipush (v := (nI 2004)) hx hb d_Model_init_262 (by decide) ?_
  refine xw_newO (atype := .byte) hx hb (ht _ v_3) hP hS (nI_pos (by decide)) (nI_clamp (by decide)) (by decide) (Nat.le_of_ble_eq_true rfl) (Nat.le_of_ble_eq_true rfl) d_Model_init_265 (fun q70 H hP hS => ?_)
  refine W.widen (k := 33) (n := 301642) (by omega) (by omega) ?_
  refine xm_putF (v := .ref q70) (ty := .array .byte) hx hb ht hown hK hP hD hS rfl 39 (by decide) fM_39 (ht _ v_54) hin (by decide +kernel) rfl rfl (by rw [hI.1]; decide) d_Model_init_267 (fun H locs hP hD hS => ?_)
  have hI := xq_put (k := 39) (v := .ref q70) (by decide +kernel) hI
  generalize List.set fs69 39 (.ref q70) = fs71 at hP hD hI
  have hP : va_P (dC, dI) classes [(h0, .inr (12, fs71)), (q1, .inl (cA2, 6000, .inl (fun _ => 0))), (q6, .inl (cA7, 4, .inl (fun _ => 0))), (q9, .inl (cA10, 4, .inl (fun _ => 0))), (q22, .inl (cA23, 6, .inl (fun _ => 0))), (q55, .inl (cA56, 16, .inl (fun _ => 0)))] H := hP
  have hD : va_D A [(h0, .inr (12, fs71)), (q1, .inl (cA2, 6000, .inl (fun _ => 0))), (q6, .inl (cA7, 4, .inl (fun _ => 0))), (q9, .inl (cA10, 4, .inl (fun _ => 0))), (q22, .inl (cA23, 6, .inl (fun _ => 0))), (q55, .inl (cA56, 16, .inl (fun _ => 0)))] := hD
  have hI : xq_I fs71 [.int 0, .ref q1, .int 0, .ref q6, .ref q9, .int 0, .ref q22, .ref q55, .int 0, .int 0, .int 0, .int 0, .int 0, .int 0, .null, .int 0] := hI
  refine lv_aload_n hx hb d_Model_init_270 rfl (lv_at hl 0 rfl) ?_
  refine lv_sipush (v := (nI 3000)) hx hb d_Model_init_271 (by decide) ?_
  refine xw_newO (atype := .byte) hx hb (ht _ v_3) hP hS (nI_pos (by decide)) (nI_clamp (by decide)) (by decide) (Nat.le_of_ble_eq_true rfl) (Nat.le_of_ble_eq_true rfl) d_Model_init_274 (fun q72 H hP hS => ?_)
  refine W.widen (k := 34) (n := 304642) (by omega) (by omega) ?_
  refine xm_putF (v := .ref q72) (ty := .array .byte) hx hb ht hown hK hP hD hS rfl 41 (by decide) fM_41 (ht _ v_55) hin (by decide +kernel) rfl rfl (by rw [hI.1]; decide) d_Model_init_276 (fun H locs hP hD hS => ?_)
  have hI := xq_put (k := 41) (v := .ref q72) (by decide +kernel) hI
  generalize List.set fs71 41 (.ref q72) = fs73 at hP hD hI
  have hP : va_P (dC, dI) classes [(h0, .inr (12, fs73)), (q1, .inl (cA2, 6000, .inl (fun _ => 0))), (q6, .inl (cA7, 4, .inl (fun _ => 0))), (q9, .inl (cA10, 4, .inl (fun _ => 0))), (q22, .inl (cA23, 6, .inl (fun _ => 0))), (q55, .inl (cA56, 16, .inl (fun _ => 0)))] H := hP
  have hD : va_D A [(h0, .inr (12, fs73)), (q1, .inl (cA2, 6000, .inl (fun _ => 0))), (q6, .inl (cA7, 4, .inl (fun _ => 0))), (q9, .inl (cA10, 4, .inl (fun _ => 0))), (q22, .inl (cA23, 6, .inl (fun _ => 0))), (q55, .inl (cA56, 16, .inl (fun _ => 0)))] := hD
  have hI : xq_I fs73 [.int 0, .ref q1, .int 0, .ref q6, .ref q9, .int 0, .ref q22, .ref q55, .int 0, .int 0, .int 0, .int 0, .int 0, .int 0, .null, .int 0] := hI
  refine lv_aload_n hx hb d_Model_init_279 rfl (lv_at hl 0 rfl) ?_
  refine lv_bipush (v := (nI 20)) hx hb d_Model_init_280 (by decide) ?_
  refine xw_newO (atype := .int) hx hb (ht _ v_4) hP hS (nI_pos (by decide)) (nI_clamp (by decide)) (by decide) (Nat.le_of_ble_eq_true rfl) (Nat.le_of_ble_eq_true rfl) d_Model_init_282 (fun q74 H hP hS => ?_)
  refine W.widen (k := 35) (n := 304662) (by omega) (by omega) ?_
  refine xm_putF (v := .ref q74) (ty := .array .int) hx hb ht hown hK hP hD hS rfl 49 (by decide) fM_49 (ht _ v_56) hin (by decide +kernel) rfl rfl (by rw [hI.1]; decide) d_Model_init_284 (fun H locs hP hD hS => ?_)
  have hI := xq_put (k := 49) (v := .ref q74) (by decide +kernel) hI
  generalize List.set fs73 49 (.ref q74) = fs75 at hP hD hI
  have hP : va_P (dC, dI) classes [(h0, .inr (12, fs75)), (q1, .inl (cA2, 6000, .inl (fun _ => 0))), (q6, .inl (cA7, 4, .inl (fun _ => 0))), (q9, .inl (cA10, 4, .inl (fun _ => 0))), (q22, .inl (cA23, 6, .inl (fun _ => 0))), (q55, .inl (cA56, 16, .inl (fun _ => 0)))] H := hP
  have hD : va_D A [(h0, .inr (12, fs75)), (q1, .inl (cA2, 6000, .inl (fun _ => 0))), (q6, .inl (cA7, 4, .inl (fun _ => 0))), (q9, .inl (cA10, 4, .inl (fun _ => 0))), (q22, .inl (cA23, 6, .inl (fun _ => 0))), (q55, .inl (cA56, 16, .inl (fun _ => 0)))] := hD
  have hI : xq_I fs75 [.int 0, .ref q1, .int 0, .ref q6, .ref q9, .int 0, .ref q22, .ref q55, .int 0, .int 0, .int 0, .int 0, .int 0, .int 0, .null, .int 0] := hI
  refine lv_aload_n hx hb d_Model_init_287 rfl (lv_at hl 0 rfl) ?_
  refine lv_bipush (v := (nI 20)) hx hb d_Model_init_288 (by decide) ?_
  refine xw_newO (atype := .int) hx hb (ht _ v_4) hP hS (nI_pos (by decide)) (nI_clamp (by decide)) (by decide) (Nat.le_of_ble_eq_true rfl) (Nat.le_of_ble_eq_true rfl) d_Model_init_290 (fun q76 H hP hS => ?_)
  refine W.widen (k := 36) (n := 304682) (by omega) (by omega) ?_
  refine xm_putF (v := .ref q76) (ty := .array .int) hx hb ht hown hK hP hD hS rfl 50 (by decide) fM_50 (ht _ v_57) hin (by decide +kernel) rfl rfl (by rw [hI.1]; decide) d_Model_init_292 (fun H locs hP hD hS => ?_)
  have hI := xq_put (k := 50) (v := .ref q76) (by decide +kernel) hI
  generalize List.set fs75 50 (.ref q76) = fs77 at hP hD hI
  have hP : va_P (dC, dI) classes [(h0, .inr (12, fs77)), (q1, .inl (cA2, 6000, .inl (fun _ => 0))), (q6, .inl (cA7, 4, .inl (fun _ => 0))), (q9, .inl (cA10, 4, .inl (fun _ => 0))), (q22, .inl (cA23, 6, .inl (fun _ => 0))), (q55, .inl (cA56, 16, .inl (fun _ => 0)))] H := hP
  have hD : va_D A [(h0, .inr (12, fs77)), (q1, .inl (cA2, 6000, .inl (fun _ => 0))), (q6, .inl (cA7, 4, .inl (fun _ => 0))), (q9, .inl (cA10, 4, .inl (fun _ => 0))), (q22, .inl (cA23, 6, .inl (fun _ => 0))), (q55, .inl (cA56, 16, .inl (fun _ => 0)))] := hD
  have hI : xq_I fs77 [.int 0, .ref q1, .int 0, .ref q6, .ref q9, .int 0, .ref q22, .ref q55, .int 0, .int 0, .int 0, .int 0, .int 0, .int 0, .null, .int 0] := hI
  refine lv_aload_n hx hb d_Model_init_295 rfl (lv_at hl 0 rfl) ?_
  refine lv_bipush (v := (nI 20)) hx hb d_Model_init_296 (by decide) ?_
  refine xw_newO (atype := .int) hx hb (ht _ v_4) hP hS (nI_pos (by decide)) (nI_clamp (by decide)) (by decide) (Nat.le_of_ble_eq_true rfl) (Nat.le_of_ble_eq_true rfl) d_Model_init_298 (fun q78 H hP hS => ?_)
  refine W.widen (k := 37) (n := 304702) (by omega) (by omega) ?_
  refine xm_putF (v := .ref q78) (ty := .array .int) hx hb ht hown hK hP hD hS rfl 51 (by decide) fM_51 (ht _ v_58) hin (by decide +kernel) rfl rfl (by rw [hI.1]; decide) d_Model_init_300 (fun H locs hP hD hS => ?_)
  have hI := xq_put (k := 51) (v := .ref q78) (by decide +kernel) hI
  generalize List.set fs77 51 (.ref q78) = fs79 at hP hD hI
  have hP : va_P (dC, dI) classes [(h0, .inr (12, fs79)), (q1, .inl (cA2, 6000, .inl (fun _ => 0))), (q6, .inl (cA7, 4, .inl (fun _ => 0))), (q9, .inl (cA10, 4, .inl (fun _ => 0))), (q22, .inl (cA23, 6, .inl (fun _ => 0))), (q55, .inl (cA56, 16, .inl (fun _ => 0)))] H := hP
  have hD : va_D A [(h0, .inr (12, fs79)), (q1, .inl (cA2, 6000, .inl (fun _ => 0))), (q6, .inl (cA7, 4, .inl (fun _ => 0))), (q9, .inl (cA10, 4, .inl (fun _ => 0))), (q22, .inl (cA23, 6, .inl (fun _ => 0))), (q55, .inl (cA56, 16, .inl (fun _ => 0)))] := hD
  have hI : xq_I fs79 [.int 0, .ref q1, .int 0, .ref q6, .ref q9, .int 0, .ref q22, .ref q55, .int 0, .int 0, .int 0, .int 0, .int 0, .int 0, .null, .int 0] := hI
  refine lv_aload_n hx hb d_Model_init_303 rfl (lv_at hl 0 rfl) ?_
  refine lv_bipush (v := (nI 20)) hx hb d_Model_init_304 (by decide) ?_
  refine xw_newO (atype := .int) hx hb (ht _ v_4) hP hS (nI_pos (by decide)) (nI_clamp (by decide)) (by decide) (Nat.le_of_ble_eq_true rfl) (Nat.le_of_ble_eq_true rfl) d_Model_init_306 (fun q80 H hP hS => ?_)
  refine W.widen (k := 38) (n := 304722) (by omega) (by omega) ?_
  refine xm_putF (v := .ref q80) (ty := .array .int) hx hb ht hown hK hP hD hS rfl 52 (by decide) fM_52 (ht _ v_59) hin (by decide +kernel) rfl rfl (by rw [hI.1]; decide) d_Model_init_308 (fun H locs hP hD hS => ?_)
  have hI := xq_put (k := 52) (v := .ref q80) (by decide +kernel) hI
  generalize List.set fs79 52 (.ref q80) = fs81 at hP hD hI
  have hP : va_P (dC, dI) classes [(h0, .inr (12, fs81)), (q1, .inl (cA2, 6000, .inl (fun _ => 0))), (q6, .inl (cA7, 4, .inl (fun _ => 0))), (q9, .inl (cA10, 4, .inl (fun _ => 0))), (q22, .inl (cA23, 6, .inl (fun _ => 0))), (q55, .inl (cA56, 16, .inl (fun _ => 0)))] H := hP
  have hD : va_D A [(h0, .inr (12, fs81)), (q1, .inl (cA2, 6000, .inl (fun _ => 0))), (q6, .inl (cA7, 4, .inl (fun _ => 0))), (q9, .inl (cA10, 4, .inl (fun _ => 0))), (q22, .inl (cA23, 6, .inl (fun _ => 0))), (q55, .inl (cA56, 16, .inl (fun _ => 0)))] := hD
  have hI : xq_I fs81 [.int 0, .ref q1, .int 0, .ref q6, .ref q9, .int 0, .ref q22, .ref q55, .int 0, .int 0, .int 0, .int 0, .int 0, .int 0, .null, .int 0] := hI
  refine lv_aload_n hx hb d_Model_init_311 rfl (lv_at hl 0 rfl) ?_
  refine lv_sipush (v := (nI 600)) hx hb d_Model_init_312 (by decide) ?_
  refine xw_newO (atype := .byte) hx hb (ht _ v_3) hP hS (nI_pos (by decide)) (nI_clamp (by decide)) (by decide) (Nat.le_of_ble_eq_true rfl) (Nat.le_of_ble_eq_true rfl) d_Model_init_315 (fun q82 H hP hS => ?_)
  refine W.widen (k := 39) (n := 305322) (by omega) (by omega) ?_
  refine xm_putF (v := .ref q82) (ty := .array .byte) hx hb ht hown hK hP hD hS rfl 54 (by decide) fM_54 (ht _ v_60) hin (by decide +kernel) rfl rfl (by rw [hI.1]; decide) d_Model_init_317 (fun H locs hP hD hS => ?_)
  have hI := xq_put (k := 54) (v := .ref q82) (by decide +kernel) hI
  generalize List.set fs81 54 (.ref q82) = fs83 at hP hD hI
  have hP : va_P (dC, dI) classes [(h0, .inr (12, fs83)), (q1, .inl (cA2, 6000, .inl (fun _ => 0))), (q6, .inl (cA7, 4, .inl (fun _ => 0))), (q9, .inl (cA10, 4, .inl (fun _ => 0))), (q22, .inl (cA23, 6, .inl (fun _ => 0))), (q55, .inl (cA56, 16, .inl (fun _ => 0)))] H := hP
  have hD : va_D A [(h0, .inr (12, fs83)), (q1, .inl (cA2, 6000, .inl (fun _ => 0))), (q6, .inl (cA7, 4, .inl (fun _ => 0))), (q9, .inl (cA10, 4, .inl (fun _ => 0))), (q22, .inl (cA23, 6, .inl (fun _ => 0))), (q55, .inl (cA56, 16, .inl (fun _ => 0)))] := hD
  have hI : xq_I fs83 [.int 0, .ref q1, .int 0, .ref q6, .ref q9, .int 0, .ref q22, .ref q55, .int 0, .int 0, .int 0, .int 0, .int 0, .int 0, .null, .int 0] := hI
  refine lv_aload_n hx hb d_Model_init_320 rfl (lv_at hl 0 rfl) ?_
  refine lv_ldc (v := (nI 61000)) hx hb hown (ht _ v_12) d_Model_init_321 ?_
  refine xw_newO (atype := .byte) hx hb (ht _ v_3) hP hS (nI_pos (by decide)) (nI_clamp (by decide)) (by decide) (Nat.le_of_ble_eq_true rfl) (Nat.le_of_ble_eq_true rfl) d_Model_init_323 (fun q84 H hP hS => ?_)
  refine W.widen (k := 40) (n := 366322) (by omega) (by omega) ?_
  refine xm_putF (v := .ref q84) (ty := .array .byte) hx hb ht hown hK hP hD hS rfl 56 (by decide) fM_56 (ht _ v_61) hin (by decide +kernel) rfl rfl (by rw [hI.1]; decide) d_Model_init_325 (fun H locs hP hD hS => ?_)
  have hI := xq_put (k := 56) (v := .ref q84) (by decide +kernel) hI
  generalize List.set fs83 56 (.ref q84) = fs85 at hP hD hI
  have hP : va_P (dC, dI) classes [(h0, .inr (12, fs85)), (q1, .inl (cA2, 6000, .inl (fun _ => 0))), (q6, .inl (cA7, 4, .inl (fun _ => 0))), (q9, .inl (cA10, 4, .inl (fun _ => 0))), (q22, .inl (cA23, 6, .inl (fun _ => 0))), (q55, .inl (cA56, 16, .inl (fun _ => 0)))] H := hP
  have hD : va_D A [(h0, .inr (12, fs85)), (q1, .inl (cA2, 6000, .inl (fun _ => 0))), (q6, .inl (cA7, 4, .inl (fun _ => 0))), (q9, .inl (cA10, 4, .inl (fun _ => 0))), (q22, .inl (cA23, 6, .inl (fun _ => 0))), (q55, .inl (cA56, 16, .inl (fun _ => 0)))] := hD
  have hI : xq_I fs85 [.int 0, .ref q1, .int 0, .ref q6, .ref q9, .int 0, .ref q22, .ref q55, .int 0, .int 0, .int 0, .int 0, .int 0, .int 0, .null, .int 0] := hI
  refine lv_aload_n hx hb d_Model_init_328 rfl (lv_at hl 0 rfl) ?_
  refine lv_ldc (v := (nI 62500)) hx hb hown (ht _ v_13) d_Model_init_329 ?_
  refine xw_newO (atype := .byte) hx hb (ht _ v_3) hP hS (nI_pos (by decide)) (nI_clamp (by decide)) (by decide) (Nat.le_of_ble_eq_true rfl) (Nat.le_of_ble_eq_true rfl) d_Model_init_331 (fun q86 H hP hS => ?_)
  refine W.widen (k := 41) (n := 428822) (by omega) (by omega) ?_
  refine xm_putF (v := .ref q86) (ty := .array .byte) hx hb ht hown hK hP hD hS rfl 60 (by decide) fM_60 (ht _ v_64) hin (by decide +kernel) rfl rfl (by rw [hI.1]; decide) d_Model_init_333 (fun H locs hP hD hS => ?_)
  have hI := xq_put (k := 60) (v := .ref q86) (by decide +kernel) hI
  generalize List.set fs85 60 (.ref q86) = fs87 at hP hD hI
  have hP : va_P (dC, dI) classes [(h0, .inr (12, fs87)), (q1, .inl (cA2, 6000, .inl (fun _ => 0))), (q6, .inl (cA7, 4, .inl (fun _ => 0))), (q9, .inl (cA10, 4, .inl (fun _ => 0))), (q22, .inl (cA23, 6, .inl (fun _ => 0))), (q55, .inl (cA56, 16, .inl (fun _ => 0)))] H := hP
  have hD : va_D A [(h0, .inr (12, fs87)), (q1, .inl (cA2, 6000, .inl (fun _ => 0))), (q6, .inl (cA7, 4, .inl (fun _ => 0))), (q9, .inl (cA10, 4, .inl (fun _ => 0))), (q22, .inl (cA23, 6, .inl (fun _ => 0))), (q55, .inl (cA56, 16, .inl (fun _ => 0)))] := hD
  have hI : xq_I fs87 [.int 0, .ref q1, .int 0, .ref q6, .ref q9, .int 0, .ref q22, .ref q55, .int 0, .int 0, .int 0, .int 0, .int 0, .int 0, .null, .int 0] := hI
  refine lv_aload_n hx hb d_Model_init_336 rfl (lv_at hl 0 rfl) ?_
  refine lv_sipush (v := (nI 3200)) hx hb d_Model_init_337 (by decide) ?_
  refine xw_newO (atype := .byte) hx hb (ht _ v_3) hP hS (nI_pos (by decide)) (nI_clamp (by decide)) (by decide) (Nat.le_of_ble_eq_true rfl) (Nat.le_of_ble_eq_true rfl) d_Model_init_340 (fun q88 H hP hS => ?_)
  refine W.widen (k := 42) (n := 432022) (by omega) (by omega) ?_
  refine xm_putF (v := .ref q88) (ty := .array .byte) hx hb ht hown hK hP hD hS rfl 66 (by decide) fM_66 (ht _ v_65) hin (by decide +kernel) rfl rfl (by rw [hI.1]; decide) d_Model_init_342 (fun H locs hP hD hS => ?_)
  have hI := xq_put (k := 66) (v := .ref q88) (by decide +kernel) hI
  generalize List.set fs87 66 (.ref q88) = fs89 at hP hD hI
  have hP : va_P (dC, dI) classes [(h0, .inr (12, fs89)), (q1, .inl (cA2, 6000, .inl (fun _ => 0))), (q6, .inl (cA7, 4, .inl (fun _ => 0))), (q9, .inl (cA10, 4, .inl (fun _ => 0))), (q22, .inl (cA23, 6, .inl (fun _ => 0))), (q55, .inl (cA56, 16, .inl (fun _ => 0)))] H := hP
  have hD : va_D A [(h0, .inr (12, fs89)), (q1, .inl (cA2, 6000, .inl (fun _ => 0))), (q6, .inl (cA7, 4, .inl (fun _ => 0))), (q9, .inl (cA10, 4, .inl (fun _ => 0))), (q22, .inl (cA23, 6, .inl (fun _ => 0))), (q55, .inl (cA56, 16, .inl (fun _ => 0)))] := hD
  have hI : xq_I fs89 [.int 0, .ref q1, .int 0, .ref q6, .ref q9, .int 0, .ref q22, .ref q55, .int 0, .int 0, .int 0, .int 0, .int 0, .int 0, .null, .int 0] := hI
  refine lv_aload_n hx hb d_Model_init_345 rfl (lv_at hl 0 rfl) ?_
  refine lv_sipush (v := (nI 4600)) hx hb d_Model_init_346 (by decide) ?_
  refine xw_newO (atype := .byte) hx hb (ht _ v_3) hP hS (nI_pos (by decide)) (nI_clamp (by decide)) (by decide) (Nat.le_of_ble_eq_true rfl) (Nat.le_of_ble_eq_true rfl) d_Model_init_349 (fun q90 H hP hS => ?_)
  refine W.widen (k := 43) (n := 436622) (by omega) (by omega) ?_
  refine xm_putF (v := .ref q90) (ty := .array .byte) hx hb ht hown hK hP hD hS rfl 74 (by decide) fM_74 (ht _ v_66) hin (by decide +kernel) rfl rfl (by rw [hI.1]; decide) d_Model_init_351 (fun H locs hP hD hS => ?_)
  have hI := xq_put (k := 74) (v := .ref q90) (by decide +kernel) hI
  generalize List.set fs89 74 (.ref q90) = fs91 at hP hD hI
  have hP : va_P (dC, dI) classes [(h0, .inr (12, fs91)), (q1, .inl (cA2, 6000, .inl (fun _ => 0))), (q6, .inl (cA7, 4, .inl (fun _ => 0))), (q9, .inl (cA10, 4, .inl (fun _ => 0))), (q22, .inl (cA23, 6, .inl (fun _ => 0))), (q55, .inl (cA56, 16, .inl (fun _ => 0)))] H := hP
  have hD : va_D A [(h0, .inr (12, fs91)), (q1, .inl (cA2, 6000, .inl (fun _ => 0))), (q6, .inl (cA7, 4, .inl (fun _ => 0))), (q9, .inl (cA10, 4, .inl (fun _ => 0))), (q22, .inl (cA23, 6, .inl (fun _ => 0))), (q55, .inl (cA56, 16, .inl (fun _ => 0)))] := hD
  have hI : xq_I fs91 [.int 0, .ref q1, .int 0, .ref q6, .ref q9, .int 0, .ref q22, .ref q55, .int 0, .int 0, .int 0, .int 0, .int 0, .int 0, .null, .int 0] := hI
  refine lv_aload_n hx hb d_Model_init_354 rfl (lv_at hl 0 rfl) ?_
  refine lv_sipush (v := (nI 2004)) hx hb d_Model_init_355 (by decide) ?_
  refine xw_newO (atype := .byte) hx hb (ht _ v_3) hP hS (nI_pos (by decide)) (nI_clamp (by decide)) (by decide) (Nat.le_of_ble_eq_true rfl) (Nat.le_of_ble_eq_true rfl) d_Model_init_358 (fun q92 H hP hS => ?_)
  refine W.widen (k := 44) (n := 438626) (by omega) (by omega) ?_
  refine xm_putF (v := .ref q92) (ty := .array .byte) hx hb ht hown hK hP hD hS rfl 76 (by decide) fM_76 (ht _ v_67) hin (by decide +kernel) rfl rfl (by rw [hI.1]; decide) d_Model_init_360 (fun H locs hP hD hS => ?_)
  have hI := xq_put (k := 76) (v := .ref q92) (by decide +kernel) hI
  generalize List.set fs91 76 (.ref q92) = fs93 at hP hD hI
  have hP : va_P (dC, dI) classes [(h0, .inr (12, fs93)), (q1, .inl (cA2, 6000, .inl (fun _ => 0))), (q6, .inl (cA7, 4, .inl (fun _ => 0))), (q9, .inl (cA10, 4, .inl (fun _ => 0))), (q22, .inl (cA23, 6, .inl (fun _ => 0))), (q55, .inl (cA56, 16, .inl (fun _ => 0)))] H := hP
  have hD : va_D A [(h0, .inr (12, fs93)), (q1, .inl (cA2, 6000, .inl (fun _ => 0))), (q6, .inl (cA7, 4, .inl (fun _ => 0))), (q9, .inl (cA10, 4, .inl (fun _ => 0))), (q22, .inl (cA23, 6, .inl (fun _ => 0))), (q55, .inl (cA56, 16, .inl (fun _ => 0)))] := hD
  have hI : xq_I fs93 [.int 0, .ref q1, .int 0, .ref q6, .ref q9, .int 0, .ref q22, .ref q55, .int 0, .int 0, .int 0, .int 0, .int 0, .int 0, .null, .int 0] := hI
  refine lv_aload_n hx hb d_Model_init_363 rfl (lv_at hl 0 rfl) ?_
  refine lv_sipush (v := (nI 6000)) hx hb d_Model_init_364 (by decide) ?_
  refine xw_newO (atype := .byte) hx hb (ht _ v_3) hP hS (nI_pos (by decide)) (nI_clamp (by decide)) (by decide) (Nat.le_of_ble_eq_true rfl) (Nat.le_of_ble_eq_true rfl) d_Model_init_367 (fun q94 H hP hS => ?_)
  refine W.widen (k := 45) (n := 444626) (by omega) (by omega) ?_
  refine xm_putF (v := .ref q94) (ty := .array .byte) hx hb ht hown hK hP hD hS rfl 77 (by decide) fM_77 (ht _ v_68) hin (by decide +kernel) rfl rfl (by rw [hI.1]; decide) d_Model_init_369 (fun H locs hP hD hS => ?_)
  have hI := xq_put (k := 77) (v := .ref q94) (by decide +kernel) hI
  generalize List.set fs93 77 (.ref q94) = fs95 at hP hD hI
  have hP : va_P (dC, dI) classes [(h0, .inr (12, fs95)), (q1, .inl (cA2, 6000, .inl (fun _ => 0))), (q6, .inl (cA7, 4, .inl (fun _ => 0))), (q9, .inl (cA10, 4, .inl (fun _ => 0))), (q22, .inl (cA23, 6, .inl (fun _ => 0))), (q55, .inl (cA56, 16, .inl (fun _ => 0)))] H := hP
  have hD : va_D A [(h0, .inr (12, fs95)), (q1, .inl (cA2, 6000, .inl (fun _ => 0))), (q6, .inl (cA7, 4, .inl (fun _ => 0))), (q9, .inl (cA10, 4, .inl (fun _ => 0))), (q22, .inl (cA23, 6, .inl (fun _ => 0))), (q55, .inl (cA56, 16, .inl (fun _ => 0)))] := hD
  have hI : xq_I fs95 [.int 0, .ref q1, .int 0, .ref q6, .ref q9, .int 0, .ref q22, .ref q55, .int 0, .int 0, .int 0, .int 0, .int 0, .int 0, .null, .int 0] := hI
  refine lv_aload_n hx hb d_Model_init_372 rfl (lv_at hl 0 rfl) ?_
  refine lv_sipush (v := (nI 12000)) hx hb d_Model_init_373 (by decide) ?_
  refine xw_newO (atype := .byte) hx hb (ht _ v_3) hP hS (nI_pos (by decide)) (nI_clamp (by decide)) (by decide) (Nat.le_of_ble_eq_true rfl) (Nat.le_of_ble_eq_true rfl) d_Model_init_376 (fun q96 H hP hS => ?_)
  refine W.widen (k := 46) (n := 456626) (by omega) (by omega) ?_
  refine xm_putF (v := .ref q96) (ty := .array .byte) hx hb ht hown hK hP hD hS rfl 79 (by decide) fM_79 (ht _ v_69) hin (by decide +kernel) rfl rfl (by rw [hI.1]; decide) d_Model_init_378 (fun H locs hP hD hS => ?_)
  have hI := xq_put (k := 79) (v := .ref q96) (by decide +kernel) hI
  generalize List.set fs95 79 (.ref q96) = fs97 at hP hD hI
  have hP : va_P (dC, dI) classes [(h0, .inr (12, fs97)), (q1, .inl (cA2, 6000, .inl (fun _ => 0))), (q6, .inl (cA7, 4, .inl (fun _ => 0))), (q9, .inl (cA10, 4, .inl (fun _ => 0))), (q22, .inl (cA23, 6, .inl (fun _ => 0))), (q55, .inl (cA56, 16, .inl (fun _ => 0)))] H := hP
  have hD : va_D A [(h0, .inr (12, fs97)), (q1, .inl (cA2, 6000, .inl (fun _ => 0))), (q6, .inl (cA7, 4, .inl (fun _ => 0))), (q9, .inl (cA10, 4, .inl (fun _ => 0))), (q22, .inl (cA23, 6, .inl (fun _ => 0))), (q55, .inl (cA56, 16, .inl (fun _ => 0)))] := hD
  have hI : xq_I fs97 [.int 0, .ref q1, .int 0, .ref q6, .ref q9, .int 0, .ref q22, .ref q55, .int 0, .int 0, .int 0, .int 0, .int 0, .int 0, .null, .int 0] := hI
  refine lv_aload_n hx hb d_Model_init_381 rfl (lv_at hl 0 rfl) ?_
  refine lv_sipush (v := (nI 200)) hx hb d_Model_init_382 (by decide) ?_
  refine xw_newO (atype := .int) hx hb (ht _ v_4) hP hS (nI_pos (by decide)) (nI_clamp (by decide)) (by decide) (Nat.le_of_ble_eq_true rfl) (Nat.le_of_ble_eq_true rfl) d_Model_init_385 (fun q98 H hP hS => ?_)
  refine W.widen (k := 47) (n := 456826) (by omega) (by omega) ?_
  refine xm_putF (v := .ref q98) (ty := .array .int) hx hb ht hown hK hP hD hS rfl 81 (by decide) fM_81 (ht _ v_70) hin (by decide +kernel) rfl rfl (by rw [hI.1]; decide) d_Model_init_387 (fun H locs hP hD hS => ?_)
  have hI := xq_put (k := 81) (v := .ref q98) (by decide +kernel) hI
  generalize List.set fs97 81 (.ref q98) = fs99 at hP hD hI
  have hP : va_P (dC, dI) classes [(h0, .inr (12, fs99)), (q1, .inl (cA2, 6000, .inl (fun _ => 0))), (q6, .inl (cA7, 4, .inl (fun _ => 0))), (q9, .inl (cA10, 4, .inl (fun _ => 0))), (q22, .inl (cA23, 6, .inl (fun _ => 0))), (q55, .inl (cA56, 16, .inl (fun _ => 0)))] H := hP
  have hD : va_D A [(h0, .inr (12, fs99)), (q1, .inl (cA2, 6000, .inl (fun _ => 0))), (q6, .inl (cA7, 4, .inl (fun _ => 0))), (q9, .inl (cA10, 4, .inl (fun _ => 0))), (q22, .inl (cA23, 6, .inl (fun _ => 0))), (q55, .inl (cA56, 16, .inl (fun _ => 0)))] := hD
  have hI : xq_I fs99 [.int 0, .ref q1, .int 0, .ref q6, .ref q9, .int 0, .ref q22, .ref q55, .int 0, .int 0, .int 0, .int 0, .int 0, .int 0, .null, .int 0] := hI
  refine lv_aload_n hx hb d_Model_init_390 rfl (lv_at hl 0 rfl) ?_
  refine lv_sipush (v := (nI 200)) hx hb d_Model_init_391 (by decide) ?_
  refine xw_newO (atype := .int) hx hb (ht _ v_4) hP hS (nI_pos (by decide)) (nI_clamp (by decide)) (by decide) (Nat.le_of_ble_eq_true rfl) (Nat.le_of_ble_eq_true rfl) d_Model_init_394 (fun q100 H hP hS => ?_)
  refine W.widen (k := 48) (n := 457026) (by omega) (by omega) ?_
  refine xm_putF (v := .ref q100) (ty := .array .int) hx hb ht hown hK hP hD hS rfl 82 (by decide) fM_82 (ht _ v_71) hin (by decide +kernel) rfl rfl (by rw [hI.1]; decide) d_Model_init_396 (fun H locs hP hD hS => ?_)
  have hI := xq_put (k := 82) (v := .ref q100) (by decide +kernel) hI
  generalize List.set fs99 82 (.ref q100) = fs101 at hP hD hI
  have hP : va_P (dC, dI) classes [(h0, .inr (12, fs101)), (q1, .inl (cA2, 6000, .inl (fun _ => 0))), (q6, .inl (cA7, 4, .inl (fun _ => 0))), (q9, .inl (cA10, 4, .inl (fun _ => 0))), (q22, .inl (cA23, 6, .inl (fun _ => 0))), (q55, .inl (cA56, 16, .inl (fun _ => 0)))] H := hP
  have hD : va_D A [(h0, .inr (12, fs101)), (q1, .inl (cA2, 6000, .inl (fun _ => 0))), (q6, .inl (cA7, 4, .inl (fun _ => 0))), (q9, .inl (cA10, 4, .inl (fun _ => 0))), (q22, .inl (cA23, 6, .inl (fun _ => 0))), (q55, .inl (cA56, 16, .inl (fun _ => 0)))] := hD
  have hI : xq_I fs101 [.int 0, .ref q1, .int 0, .ref q6, .ref q9, .int 0, .ref q22, .ref q55, .int 0, .int 0, .int 0, .int 0, .int 0, .int 0, .null, .int 0] := hI
  refine lv_aload_n hx hb d_Model_init_399 rfl (lv_at hl 0 rfl) ?_
  refine lv_sipush (v := (nI 200)) hx hb d_Model_init_400 (by decide) ?_
  refine xw_newO (atype := .int) hx hb (ht _ v_4) hP hS (nI_pos (by decide)) (nI_clamp (by decide)) (by decide) (Nat.le_of_ble_eq_true rfl) (Nat.le_of_ble_eq_true rfl) d_Model_init_403 (fun q102 H hP hS => ?_)
  refine W.widen (k := 49) (n := 457226) (by omega) (by omega) ?_
  refine xm_putF (v := .ref q102) (ty := .array .int) hx hb ht hown hK hP hD hS rfl 83 (by decide) fM_83 (ht _ v_72) hin (by decide +kernel) rfl rfl (by rw [hI.1]; decide) d_Model_init_405 (fun H locs hP hD hS => ?_)
  have hI := xq_put (k := 83) (v := .ref q102) (by decide +kernel) hI
  generalize List.set fs101 83 (.ref q102) = fs103 at hP hD hI
  have hP : va_P (dC, dI) classes [(h0, .inr (12, fs103)), (q1, .inl (cA2, 6000, .inl (fun _ => 0))), (q6, .inl (cA7, 4, .inl (fun _ => 0))), (q9, .inl (cA10, 4, .inl (fun _ => 0))), (q22, .inl (cA23, 6, .inl (fun _ => 0))), (q55, .inl (cA56, 16, .inl (fun _ => 0)))] H := hP
  have hD : va_D A [(h0, .inr (12, fs103)), (q1, .inl (cA2, 6000, .inl (fun _ => 0))), (q6, .inl (cA7, 4, .inl (fun _ => 0))), (q9, .inl (cA10, 4, .inl (fun _ => 0))), (q22, .inl (cA23, 6, .inl (fun _ => 0))), (q55, .inl (cA56, 16, .inl (fun _ => 0)))] := hD
  have hI : xq_I fs103 [.int 0, .ref q1, .int 0, .ref q6, .ref q9, .int 0, .ref q22, .ref q55, .int 0, .int 0, .int 0, .int 0, .int 0, .int 0, .null, .int 0] := hI
  refine lv_aload_n hx hb d_Model_init_408 rfl (lv_at hl 0 rfl) ?_
  refine lv_sipush (v := (nI 200)) hx hb d_Model_init_409 (by decide) ?_
  refine xw_newO (atype := .int) hx hb (ht _ v_4) hP hS (nI_pos (by decide)) (nI_clamp (by decide)) (by decide) (Nat.le_of_ble_eq_true rfl) (Nat.le_of_ble_eq_true rfl) d_Model_init_412 (fun q104 H hP hS => ?_)
  refine W.widen (k := 50) (n := 457426) (by omega) (by omega) ?_
  refine xm_putF (v := .ref q104) (ty := .array .int) hx hb ht hown hK hP hD hS rfl 84 (by decide) fM_84 (ht _ v_73) hin (by decide +kernel) rfl rfl (by rw [hI.1]; decide) d_Model_init_414 (fun H locs hP hD hS => ?_)
  have hI := xq_put (k := 84) (v := .ref q104) (by decide +kernel) hI
  generalize List.set fs103 84 (.ref q104) = fs105 at hP hD hI
  have hP : va_P (dC, dI) classes [(h0, .inr (12, fs105)), (q1, .inl (cA2, 6000, .inl (fun _ => 0))), (q6, .inl (cA7, 4, .inl (fun _ => 0))), (q9, .inl (cA10, 4, .inl (fun _ => 0))), (q22, .inl (cA23, 6, .inl (fun _ => 0))), (q55, .inl (cA56, 16, .inl (fun _ => 0)))] H := hP
  have hD : va_D A [(h0, .inr (12, fs105)), (q1, .inl (cA2, 6000, .inl (fun _ => 0))), (q6, .inl (cA7, 4, .inl (fun _ => 0))), (q9, .inl (cA10, 4, .inl (fun _ => 0))), (q22, .inl (cA23, 6, .inl (fun _ => 0))), (q55, .inl (cA56, 16, .inl (fun _ => 0)))] := hD
  have hI : xq_I fs105 [.int 0, .ref q1, .int 0, .ref q6, .ref q9, .int 0, .ref q22, .ref q55, .int 0, .int 0, .int 0, .int 0, .int 0, .int 0, .null, .int 0] := hI
  refine lv_aload_n hx hb d_Model_init_417 rfl (lv_at hl 0 rfl) ?_
  refine lv_sipush (v := (nI 200)) hx hb d_Model_init_418 (by decide) ?_
  refine xw_newO (atype := .int) hx hb (ht _ v_4) hP hS (nI_pos (by decide)) (nI_clamp (by decide)) (by decide) (Nat.le_of_ble_eq_true rfl) (Nat.le_of_ble_eq_true rfl) d_Model_init_421 (fun q106 H hP hS => ?_)
  refine W.widen (k := 51) (n := 457626) (by omega) (by omega) ?_
  refine xm_putF (v := .ref q106) (ty := .array .int) hx hb ht hown hK hP hD hS rfl 85 (by decide) fM_85 (ht _ v_74) hin (by decide +kernel) rfl rfl (by rw [hI.1]; decide) d_Model_init_423 (fun H locs hP hD hS => ?_)
  have hI := xq_put (k := 85) (v := .ref q106) (by decide +kernel) hI
  generalize List.set fs105 85 (.ref q106) = fs107 at hP hD hI
  have hP : va_P (dC, dI) classes [(h0, .inr (12, fs107)), (q1, .inl (cA2, 6000, .inl (fun _ => 0))), (q6, .inl (cA7, 4, .inl (fun _ => 0))), (q9, .inl (cA10, 4, .inl (fun _ => 0))), (q22, .inl (cA23, 6, .inl (fun _ => 0))), (q55, .inl (cA56, 16, .inl (fun _ => 0)))] H := hP
  have hD : va_D A [(h0, .inr (12, fs107)), (q1, .inl (cA2, 6000, .inl (fun _ => 0))), (q6, .inl (cA7, 4, .inl (fun _ => 0))), (q9, .inl (cA10, 4, .inl (fun _ => 0))), (q22, .inl (cA23, 6, .inl (fun _ => 0))), (q55, .inl (cA56, 16, .inl (fun _ => 0)))] := hD
  have hI : xq_I fs107 [.int 0, .ref q1, .int 0, .ref q6, .ref q9, .int 0, .ref q22, .ref q55, .int 0, .int 0, .int 0, .int 0, .int 0, .int 0, .null, .int 0] := hI
  refine lv_aload_n hx hb d_Model_init_426 rfl (lv_at hl 0 rfl) ?_
  refine lv_sipush (v := (nI 200)) hx hb d_Model_init_427 (by decide) ?_
  refine xw_newO (atype := .int) hx hb (ht _ v_4) hP hS (nI_pos (by decide)) (nI_clamp (by decide)) (by decide) (Nat.le_of_ble_eq_true rfl) (Nat.le_of_ble_eq_true rfl) d_Model_init_430 (fun q108 H hP hS => ?_)
  refine W.widen (k := 52) (n := 457826) (by omega) (by omega) ?_
  refine xm_putF (v := .ref q108) (ty := .array .int) hx hb ht hown hK hP hD hS rfl 86 (by decide) fM_86 (ht _ v_75) hin (by decide +kernel) rfl rfl (by rw [hI.1]; decide) d_Model_init_432 (fun H locs hP hD hS => ?_)
  have hI := xq_put (k := 86) (v := .ref q108) (by decide +kernel) hI
  generalize List.set fs107 86 (.ref q108) = fs109 at hP hD hI
  have hP : va_P (dC, dI) classes [(h0, .inr (12, fs109)), (q1, .inl (cA2, 6000, .inl (fun _ => 0))), (q6, .inl (cA7, 4, .inl (fun _ => 0))), (q9, .inl (cA10, 4, .inl (fun _ => 0))), (q22, .inl (cA23, 6, .inl (fun _ => 0))), (q55, .inl (cA56, 16, .inl (fun _ => 0)))] H := hP
  have hD : va_D A [(h0, .inr (12, fs109)), (q1, .inl (cA2, 6000, .inl (fun _ => 0))), (q6, .inl (cA7, 4, .inl (fun _ => 0))), (q9, .inl (cA10, 4, .inl (fun _ => 0))), (q22, .inl (cA23, 6, .inl (fun _ => 0))), (q55, .inl (cA56, 16, .inl (fun _ => 0)))] := hD
  have hI : xq_I fs109 [.int 0, .ref q1, .int 0, .ref q6, .ref q9, .int 0, .ref q22, .ref q55, .int 0, .int 0, .int 0, .int 0, .int 0, .int 0, .null, .int 0] := hI
  refine lv_aload_n hx hb d_Model_init_435 rfl (lv_at hl 0 rfl) ?_
  refine lv_sipush (v := (nI 200)) hx hb d_Model_init_436 (by decide) ?_
  refine xw_newO (atype := .int) hx hb (ht _ v_4) hP hS (nI_pos (by decide)) (nI_clamp (by decide)) (by decide) (Nat.le_of_ble_eq_true rfl) (Nat.le_of_ble_eq_true rfl) d_Model_init_439 (fun q110 H hP hS => ?_)
  refine W.widen (k := 53) (n := 458026) (by omega) (by omega) ?_
  refine xm_putF (v := .ref q110) (ty := .array .int) hx hb ht hown hK hP hD hS rfl 87 (by decide) fM_87 (ht _ v_76) hin (by decide +kernel) rfl rfl (by rw [hI.1]; decide) d_Model_init_441 (fun H locs hP hD hS => ?_)
  have hI := xq_put (k := 87) (v := .ref q110) (by decide +kernel) hI
  generalize List.set fs109 87 (.ref q110) = fs111 at hP hD hI
  have hP : va_P (dC, dI) classes [(h0, .inr (12, fs111)), (q1, .inl (cA2, 6000, .inl (fun _ => 0))), (q6, .inl (cA7, 4, .inl (fun _ => 0))), (q9, .inl (cA10, 4, .inl (fun _ => 0))), (q22, .inl (cA23, 6, .inl (fun _ => 0))), (q55, .inl (cA56, 16, .inl (fun _ => 0)))] H := hP
  have hD : va_D A [(h0, .inr (12, fs111)), (q1, .inl (cA2, 6000, .inl (fun _ => 0))), (q6, .inl (cA7, 4, .inl (fun _ => 0))), (q9, .inl (cA10, 4, .inl (fun _ => 0))), (q22, .inl (cA23, 6, .inl (fun _ => 0))), (q55, .inl (cA56, 16, .inl (fun _ => 0)))] := hD
  have hI : xq_I fs111 [.int 0, .ref q1, .int 0, .ref q6, .ref q9, .int 0, .ref q22, .ref q55, .int 0, .int 0, .int 0, .int 0, .int 0, .int 0, .null, .int 0] := hI
  refine lv_aload_n hx hb d_Model_init_444 rfl (lv_at hl 0 rfl) ?_
  refine lv_sipush (v := (nI 200)) hx hb d_Model_init_445 (by decide) ?_
  refine xw_newO (atype := .int) hx hb (ht _ v_4) hP hS (nI_pos (by decide)) (nI_clamp (by decide)) (by decide) (Nat.le_of_ble_eq_true rfl) (Nat.le_of_ble_eq_true rfl) d_Model_init_448 (fun q112 H hP hS => ?_)
  refine W.widen (k := 54) (n := 458226) (by omega) (by omega) ?_
  refine xm_putF (v := .ref q112) (ty := .array .int) hx hb ht hown hK hP hD hS rfl 88 (by decide) fM_88 (ht _ v_77) hin (by decide +kernel) rfl rfl (by rw [hI.1]; decide) d_Model_init_450 (fun H locs hP hD hS => ?_)
  have hI := xq_put (k := 88) (v := .ref q112) (by decide +kernel) hI
  generalize List.set fs111 88 (.ref q112) = fs113 at hP hD hI
  have hP : va_P (dC, dI) classes [(h0, .inr (12, fs113)), (q1, .inl (cA2, 6000, .inl (fun _ => 0))), (q6, .inl (cA7, 4, .inl (fun _ => 0))), (q9, .inl (cA10, 4, .inl (fun _ => 0))), (q22, .inl (cA23, 6, .inl (fun _ => 0))), (q55, .inl (cA56, 16, .inl (fun _ => 0)))] H := hP
  have hD : va_D A [(h0, .inr (12, fs113)), (q1, .inl (cA2, 6000, .inl (fun _ => 0))), (q6, .inl (cA7, 4, .inl (fun _ => 0))), (q9, .inl (cA10, 4, .inl (fun _ => 0))), (q22, .inl (cA23, 6, .inl (fun _ => 0))), (q55, .inl (cA56, 16, .inl (fun _ => 0)))] := hD
  have hI : xq_I fs113 [.int 0, .ref q1, .int 0, .ref q6, .ref q9, .int 0, .ref q22, .ref q55, .int 0, .int 0, .int 0, .int 0, .int 0, .int 0, .null, .int 0] := hI
  refine lv_aload_n hx hb d_Model_init_453 rfl (lv_at hl 0 rfl) ?_
  refine lv_sipush (v := (nI 200)) hx hb d_Model_init_454 (by decide) ?_
  refine xw_newO (atype := .int) hx hb (ht _ v_4) hP hS (nI_pos (by decide)) (nI_clamp (by decide)) (by decide) (Nat.le_of_ble_eq_true rfl) (Nat.le_of_ble_eq_true rfl) d_Model_init_457 (fun q114 H hP hS => ?_)
  refine W.widen (k := 55) (n := 458426) (by omega) (by omega) ?_
  refine xm_putF (v := .ref q114) (ty := .array .int) hx hb ht hown hK hP hD hS rfl 89 (by decide) fM_89 (ht _ v_78) hin (by decide +kernel) rfl rfl (by rw [hI.1]; decide) d_Model_init_459 (fun H locs hP hD hS => ?_)
  have hI := xq_put (k := 89) (v := .ref q114) (by decide +kernel) hI
  generalize List.set fs113 89 (.ref q114) = fs115 at hP hD hI
  have hP : va_P (dC, dI) classes [(h0, .inr (12, fs115)), (q1, .inl (cA2, 6000, .inl (fun _ => 0))), (q6, .inl (cA7, 4, .inl (fun _ => 0))), (q9, .inl (cA10, 4, .inl (fun _ => 0))), (q22, .inl (cA23, 6, .inl (fun _ => 0))), (q55, .inl (cA56, 16, .inl (fun _ => 0)))] H := hP
  have hD : va_D A [(h0, .inr (12, fs115)), (q1, .inl (cA2, 6000, .inl (fun _ => 0))), (q6, .inl (cA7, 4, .inl (fun _ => 0))), (q9, .inl (cA10, 4, .inl (fun _ => 0))), (q22, .inl (cA23, 6, .inl (fun _ => 0))), (q55, .inl (cA56, 16, .inl (fun _ => 0)))] := hD
  have hI : xq_I fs115 [.int 0, .ref q1, .int 0, .ref q6, .ref q9, .int 0, .ref q22, .ref q55, .int 0, .int 0, .int 0, .int 0, .int 0, .int 0, .null, .int 0] := hI
  refine lv_aload_n hx hb d_Model_init_462 rfl (lv_at hl 0 rfl) ?_
  refine lv_sipush (v := (nI 200)) hx hb d_Model_init_463 (by decide) ?_
  refine xw_newO (atype := .int) hx hb (ht _ v_4) hP hS (nI_pos (by decide)) (nI_clamp (by decide)) (by decide) (Nat.le_of_ble_eq_true rfl) (Nat.le_of_ble_eq_true rfl) d_Model_init_466 (fun q116 H hP hS => ?_)
  refine W.widen (k := 56) (n := 458626) (by omega) (by omega) ?_
  refine xm_putF (v := .ref q116) (ty := .array .int) hx hb ht hown hK hP hD hS rfl 90 (by decide) fM_90 (ht _ v_79) hin (by decide +kernel) rfl rfl (by rw [hI.1]; decide) d_Model_init_468 (fun H locs hP hD hS => ?_)
  have hI := xq_put (k := 90) (v := .ref q116) (by decide +kernel) hI
  generalize List.set fs115 90 (.ref q116) = fs117 at hP hD hI
  have hP : va_P (dC, dI) classes [(h0, .inr (12, fs117)), (q1, .inl (cA2, 6000, .inl (fun _ => 0))), (q6, .inl (cA7, 4, .inl (fun _ => 0))), (q9, .inl (cA10, 4, .inl (fun _ => 0))), (q22, .inl (cA23, 6, .inl (fun _ => 0))), (q55, .inl (cA56, 16, .inl (fun _ => 0)))] H := hP
  have hD : va_D A [(h0, .inr (12, fs117)), (q1, .inl (cA2, 6000, .inl (fun _ => 0))), (q6, .inl (cA7, 4, .inl (fun _ => 0))), (q9, .inl (cA10, 4, .inl (fun _ => 0))), (q22, .inl (cA23, 6, .inl (fun _ => 0))), (q55, .inl (cA56, 16, .inl (fun _ => 0)))] := hD
  have hI : xq_I fs117 [.int 0, .ref q1, .int 0, .ref q6, .ref q9, .int 0, .ref q22, .ref q55, .int 0, .int 0, .int 0, .int 0, .int 0, .int 0, .null, .int 0] := hI
  refine lv_aload_n hx hb d_Model_init_471 rfl (lv_at hl 0 rfl) ?_
  refine lv_sipush (v := (nI 200)) hx hb d_Model_init_472 (by decide) ?_
  refine xw_newO (atype := .int) hx hb (ht _ v_4) hP hS (nI_pos (by decide)) (nI_clamp (by decide)) (by decide) (Nat.le_of_ble_eq_true rfl) (Nat.le_of_ble_eq_true rfl) d_Model_init_475 (fun q118 H hP hS => ?_)
  refine W.widen (k := 57) (n := 458826) (by omega) (by omega) ?_
  refine xm_putF (v := .ref q118) (ty := .array .int) hx hb ht hown hK hP hD hS rfl 92 (by decide) fM_92 (ht _ v_80) hin (by decide +kernel) rfl rfl (by rw [hI.1]; decide) d_Model_init_477 (fun H locs hP hD hS => ?_)
  have hI := xq_put (k := 92) (v := .ref q118) (by decide +kernel) hI
  generalize List.set fs117 92 (.ref q118) = fs119 at hP hD hI
  have hP : va_P (dC, dI) classes [(h0, .inr (12, fs119)), (q1, .inl (cA2, 6000, .inl (fun _ => 0))), (q6, .inl (cA7, 4, .inl (fun _ => 0))), (q9, .inl (cA10, 4, .inl (fun _ => 0))), (q22, .inl (cA23, 6, .inl (fun _ => 0))), (q55, .inl (cA56, 16, .inl (fun _ => 0)))] H := hP
  have hD : va_D A [(h0, .inr (12, fs119)), (q1, .inl (cA2, 6000, .inl (fun _ => 0))), (q6, .inl (cA7, 4, .inl (fun _ => 0))), (q9, .inl (cA10, 4, .inl (fun _ => 0))), (q22, .inl (cA23, 6, .inl (fun _ => 0))), (q55, .inl (cA56, 16, .inl (fun _ => 0)))] := hD
  have hI : xq_I fs119 [.int 0, .ref q1, .int 0, .ref q6, .ref q9, .int 0, .ref q22, .ref q55, .int 0, .int 0, .int 0, .int 0, .int 0, .int 0, .null, .int 0] := hI
  refine lv_aload_n hx hb d_Model_init_480 rfl (lv_at hl 0 rfl) ?_
  refine lv_sipush (v := (nI 200)) hx hb d_Model_init_481 (by decide) ?_
  refine xw_newO (atype := .int) hx hb (ht _ v_4) hP hS (nI_pos (by decide)) (nI_clamp (by decide)) (by decide) (Nat.le_of_ble_eq_true rfl) (Nat.le_of_ble_eq_true rfl) d_Model_init_484 (fun q120 H hP hS => ?_)
  refine W.widen (k := 58) (n := 459026) (by omega) (by omega) ?_
  refine xm_putF (v := .ref q120) (ty := .array .int) hx hb ht hown hK hP hD hS rfl 93 (by decide) fM_93 (ht _ v_81) hin (by decide +kernel) rfl rfl (by rw [hI.1]; decide) d_Model_init_486 (fun H locs hP hD hS => ?_)
  have hI := xq_put (k := 93) (v := .ref q120) (by decide +kernel) hI
  generalize List.set fs119 93 (.ref q120) = fs121 at hP hD hI
  have hP : va_P (dC, dI) classes [(h0, .inr (12, fs121)), (q1, .inl (cA2, 6000, .inl (fun _ => 0))), (q6, .inl (cA7, 4, .inl (fun _ => 0))), (q9, .inl (cA10, 4, .inl (fun _ => 0))), (q22, .inl (cA23, 6, .inl (fun _ => 0))), (q55, .inl (cA56, 16, .inl (fun _ => 0)))] H := hP
  have hD : va_D A [(h0, .inr (12, fs121)), (q1, .inl (cA2, 6000, .inl (fun _ => 0))), (q6, .inl (cA7, 4, .inl (fun _ => 0))), (q9, .inl (cA10, 4, .inl (fun _ => 0))), (q22, .inl (cA23, 6, .inl (fun _ => 0))), (q55, .inl (cA56, 16, .inl (fun _ => 0)))] := hD
  have hI : xq_I fs121 [.int 0, .ref q1, .int 0, .ref q6, .ref q9, .int 0, .ref q22, .ref q55, .int 0, .int 0, .int 0, .int 0, .int 0, .int 0, .null, .int 0] := hI
  refine lv_aload_n hx hb d_Model_init_489 rfl (lv_at hl 0 rfl) ?_
  refine lv_sipush (v := (nI 2000)) hx hb d_Model_init_490 (by decide) ?_
  refine xw_newO (atype := .int) hx hb (ht _ v_4) hP hS (nI_pos (by decide)) (nI_clamp (by decide)) (by decide) (Nat.le_of_ble_eq_true rfl) (Nat.le_of_ble_eq_true rfl) d_Model_init_493 (fun q122 H hP hS => ?_)
  refine W.widen (k := 59) (n := 461026) (by omega) (by omega) ?_
  refine xm_putF (v := .ref q122) (ty := .array .int) hx hb ht hown hK hP hD hS rfl 94 (by decide) fM_94 (ht _ v_82) hin (by decide +kernel) rfl rfl (by rw [hI.1]; decide) d_Model_init_495 (fun H locs hP hD hS => ?_)
  have hI := xq_put (k := 94) (v := .ref q122) (by decide +kernel) hI
  generalize List.set fs121 94 (.ref q122) = fs123 at hP hD hI
  have hP : va_P (dC, dI) classes [(h0, .inr (12, fs123)), (q1, .inl (cA2, 6000, .inl (fun _ => 0))), (q6, .inl (cA7, 4, .inl (fun _ => 0))), (q9, .inl (cA10, 4, .inl (fun _ => 0))), (q22, .inl (cA23, 6, .inl (fun _ => 0))), (q55, .inl (cA56, 16, .inl (fun _ => 0)))] H := hP
  have hD : va_D A [(h0, .inr (12, fs123)), (q1, .inl (cA2, 6000, .inl (fun _ => 0))), (q6, .inl (cA7, 4, .inl (fun _ => 0))), (q9, .inl (cA10, 4, .inl (fun _ => 0))), (q22, .inl (cA23, 6, .inl (fun _ => 0))), (q55, .inl (cA56, 16, .inl (fun _ => 0)))] := hD
  have hI : xq_I fs123 [.int 0, .ref q1, .int 0, .ref q6, .ref q9, .int 0, .ref q22, .ref q55, .int 0, .int 0, .int 0, .int 0, .int 0, .int 0, .null, .int 0] := hI
  refine lv_aload_n hx hb d_Model_init_498 rfl (lv_at hl 0 rfl) ?_
  refine lv_sipush (v := (nI 2000)) hx hb d_Model_init_499 (by decide) ?_
  refine xw_newO (atype := .int) hx hb (ht _ v_4) hP hS (nI_pos (by decide)) (nI_clamp (by decide)) (by decide) (Nat.le_of_ble_eq_true rfl) (Nat.le_of_ble_eq_true rfl) d_Model_init_502 (fun q124 H hP hS => ?_)
  refine W.widen (k := 60) (n := 463026) (by omega) (by omega) ?_
  refine xm_putF (v := .ref q124) (ty := .array .int) hx hb ht hown hK hP hD hS rfl 95 (by decide) fM_95 (ht _ v_83) hin (by decide +kernel) rfl rfl (by rw [hI.1]; decide) d_Model_init_504 (fun H locs hP hD hS => ?_)
  have hI := xq_put (k := 95) (v := .ref q124) (by decide +kernel) hI
  generalize List.set fs123 95 (.ref q124) = fs125 at hP hD hI
  have hP : va_P (dC, dI) classes [(h0, .inr (12, fs125)), (q1, .inl (cA2, 6000, .inl (fun _ => 0))), (q6, .inl (cA7, 4, .inl (fun _ => 0))), (q9, .inl (cA10, 4, .inl (fun _ => 0))), (q22, .inl (cA23, 6, .inl (fun _ => 0))), (q55, .inl (cA56, 16, .inl (fun _ => 0)))] H := hP
  have hD : va_D A [(h0, .inr (12, fs125)), (q1, .inl (cA2, 6000, .inl (fun _ => 0))), (q6, .inl (cA7, 4, .inl (fun _ => 0))), (q9, .inl (cA10, 4, .inl (fun _ => 0))), (q22, .inl (cA23, 6, .inl (fun _ => 0))), (q55, .inl (cA56, 16, .inl (fun _ => 0)))] := hD
  have hI : xq_I fs125 [.int 0, .ref q1, .int 0, .ref q6, .ref q9, .int 0, .ref q22, .ref q55, .int 0, .int 0, .int 0, .int 0, .int 0, .int 0, .null, .int 0] := hI
  refine lv_aload_n hx hb d_Model_init_507 rfl (lv_at hl 0 rfl) ?_
  refine lv_sipush (v := (nI 2000)) hx hb d_Model_init_508 (by decide) ?_
  refine xw_newO (atype := .int) hx hb (ht _ v_4) hP hS (nI_pos (by decide)) (nI_clamp (by decide)) (by decide) (Nat.le_of_ble_eq_true rfl) (Nat.le_of_ble_eq_true rfl) d_Model_init_511 (fun q126 H hP hS => ?_)
  refine W.widen (k := 61) (n := 465026) (by omega) (by omega) ?_
  refine xm_putF (v := .ref q126) (ty := .array .int) hx hb ht hown hK hP hD hS rfl 96 (by decide) fM_96 (ht _ v_84) hin (by decide +kernel) rfl rfl (by rw [hI.1]; decide) d_Model_init_513 (fun H locs hP hD hS => ?_)
  have hI := xq_put (k := 96) (v := .ref q126) (by decide +kernel) hI
  generalize List.set fs125 96 (.ref q126) = fs127 at hP hD hI
  have hP : va_P (dC, dI) classes [(h0, .inr (12, fs127)), (q1, .inl (cA2, 6000, .inl (fun _ => 0))), (q6, .inl (cA7, 4, .inl (fun _ => 0))), (q9, .inl (cA10, 4, .inl (fun _ => 0))), (q22, .inl (cA23, 6, .inl (fun _ => 0))), (q55, .inl (cA56, 16, .inl (fun _ => 0)))] H := hP
  have hD : va_D A [(h0, .inr (12, fs127)), (q1, .inl (cA2, 6000, .inl (fun _ => 0))), (q6, .inl (cA7, 4, .inl (fun _ => 0))), (q9, .inl (cA10, 4, .inl (fun _ => 0))), (q22, .inl (cA23, 6, .inl (fun _ => 0))), (q55, .inl (cA56, 16, .inl (fun _ => 0)))] := hD
  have hI : xq_I fs127 [.int 0, .ref q1, .int 0, .ref q6, .ref q9, .int 0, .ref q22, .ref q55, .int 0, .int 0, .int 0, .int 0, .int 0, .int 0, .null, .int 0] := hI
  refine lv_aload_n hx hb d_Model_init_516 rfl (lv_at hl 0 rfl) ?_
  refine lv_sipush (v := (nI 2000)) hx hb d_Model_init_517 (by decide) ?_
  refine xw_newO (atype := .int) hx hb (ht _ v_4) hP hS (nI_pos (by decide)) (nI_clamp (by decide)) (by decide) (Nat.le_of_ble_eq_true rfl) (Nat.le_of_ble_eq_true rfl) d_Model_init_520 (fun q128 H hP hS => ?_)
  refine W.widen (k := 62) (n := 467026) (by omega) (by omega) ?_
  refine xm_putF (v := .ref q128) (ty := .array .int) hx hb ht hown hK hP hD hS rfl 97 (by decide) fM_97 (ht _ v_85) hin (by decide +kernel) rfl rfl (by rw [hI.1]; decide) d_Model_init_522 (fun H locs hP hD hS => ?_)
  have hI := xq_put (k := 97) (v := .ref q128) (by decide +kernel) hI
  generalize List.set fs127 97 (.ref q128) = fs129 at hP hD hI
  have hP : va_P (dC, dI) classes [(h0, .inr (12, fs129)), (q1, .inl (cA2, 6000, .inl (fun _ => 0))), (q6, .inl (cA7, 4, .inl (fun _ => 0))), (q9, .inl (cA10, 4, .inl (fun _ => 0))), (q22, .inl (cA23, 6, .inl (fun _ => 0))), (q55, .inl (cA56, 16, .inl (fun _ => 0)))] H := hP
  have hD : va_D A [(h0, .inr (12, fs129)), (q1, .inl (cA2, 6000, .inl (fun _ => 0))), (q6, .inl (cA7, 4, .inl (fun _ => 0))), (q9, .inl (cA10, 4, .inl (fun _ => 0))), (q22, .inl (cA23, 6, .inl (fun _ => 0))), (q55, .inl (cA56, 16, .inl (fun _ => 0)))] := hD
  have hI : xq_I fs129 [.int 0, .ref q1, .int 0, .ref q6, .ref q9, .int 0, .ref q22, .ref q55, .int 0, .int 0, .int 0, .int 0, .int 0, .int 0, .null, .int 0] := hI
  refine lv_aload_n hx hb d_Model_init_525 rfl (lv_at hl 0 rfl) ?_
  refine lv_sipush (v := (nI 2000)) hx hb d_Model_init_526 (by decide) ?_
  refine xw_newO (atype := .int) hx hb (ht _ v_4) hP hS (nI_pos (by decide)) (nI_clamp (by decide)) (by decide) (Nat.le_of_ble_eq_true rfl) (Nat.le_of_ble_eq_true rfl) d_Model_init_529 (fun q130 H hP hS => ?_)
  refine W.widen (k := 63) (n := 469026) (by omega) (by omega) ?_
  refine xm_putF (v := .ref q130) (ty := .array .int) hx hb ht hown hK hP hD hS rfl 98 (by decide) fM_98 (ht _ v_86) hin (by decide +kernel) rfl rfl (by rw [hI.1]; decide) d_Model_init_531 (fun H locs hP hD hS => ?_)
  have hI := xq_put (k := 98) (v := .ref q130) (by decide +kernel) hI
  generalize List.set fs129 98 (.ref q130) = fs131 at hP hD hI
  have hP : va_P (dC, dI) classes [(h0, .inr (12, fs131)), (q1, .inl (cA2, 6000, .inl (fun _ => 0))), (q6, .inl (cA7, 4, .inl (fun _ => 0))), (q9, .inl (cA10, 4, .inl (fun _ => 0))), (q22, .inl (cA23, 6, .inl (fun _ => 0))), (q55, .inl (cA56, 16, .inl (fun _ => 0)))] H := hP
  have hD : va_D A [(h0, .inr (12, fs131)), (q1, .inl (cA2, 6000, .inl (fun _ => 0))), (q6, .inl (cA7, 4, .inl (fun _ => 0))), (q9, .inl (cA10, 4, .inl (fun _ => 0))), (q22, .inl (cA23, 6, .inl (fun _ => 0))), (q55, .inl (cA56, 16, .inl (fun _ => 0)))] := hD
  have hI : xq_I fs131 [.int 0, .ref q1, .int 0, .ref q6, .ref q9, .int 0, .ref q22, .ref q55, .int 0, .int 0, .int 0, .int 0, .int 0, .int 0, .null, .int 0] := hI
  refine lv_aload_n hx hb d_Model_init_534 rfl (lv_at hl 0 rfl) ?_
  refine lv_sipush (v := (nI 2000)) hx hb d_Model_init_535 (by decide) ?_
  refine xw_newO (atype := .int) hx hb (ht _ v_4) hP hS (nI_pos (by decide)) (nI_clamp (by decide)) (by decide) (Nat.le_of_ble_eq_true rfl) (Nat.le_of_ble_eq_true rfl) d_Model_init_538 (fun q132 H hP hS => ?_)
  refine W.widen (k := 64) (n := 471026) (by omega) (by omega) ?_
  refine xm_putF (v := .ref q132) (ty := .array .int) hx hb ht hown hK hP hD hS rfl 99 (by decide) fM_99 (ht _ v_87) hin (by decide +kernel) rfl rfl (by rw [hI.1]; decide) d_Model_init_540 (fun H locs hP hD hS => ?_)
  have hI := xq_put (k := 99) (v := .ref q132) (by decide +kernel) hI
  generalize List.set fs131 99 (.ref q132) = fs133 at hP hD hI
  have hP : va_P (dC, dI) classes [(h0, .inr (12, fs133)), (q1, .inl (cA2, 6000, .inl (fun _ => 0))), (q6, .inl (cA7, 4, .inl (fun _ => 0))), (q9, .inl (cA10, 4, .inl (fun _ => 0))), (q22, .inl (cA23, 6, .inl (fun _ => 0))), (q55, .inl (cA56, 16, .inl (fun _ => 0)))] H := hP
  have hD : va_D A [(h0, .inr (12, fs133)), (q1, .inl (cA2, 6000, .inl (fun _ => 0))), (q6, .inl (cA7, 4, .inl (fun _ => 0))), (q9, .inl (cA10, 4, .inl (fun _ => 0))), (q22, .inl (cA23, 6, .inl (fun _ => 0))), (q55, .inl (cA56, 16, .inl (fun _ => 0)))] := hD
  have hI : xq_I fs133 [.int 0, .ref q1, .int 0, .ref q6, .ref q9, .int 0, .ref q22, .ref q55, .int 0, .int 0, .int 0, .int 0, .int 0, .int 0, .null, .int 0] := hI
  refine lv_aload_n hx hb d_Model_init_543 rfl (lv_at hl 0 rfl) ?_
  refine lv_bipush (v := (nI 10)) hx hb d_Model_init_544 (by decide) ?_
  refine xw_newO (atype := .int) hx hb (ht _ v_4) hP hS (nI_pos (by decide)) (nI_clamp (by decide)) (by decide) (Nat.le_of_ble_eq_true rfl) (Nat.le_of_ble_eq_true rfl) d_Model_init_546 (fun q134 H hP hS => ?_)
  refine W.widen (k := 65) (n := 471036) (by omega) (by omega) ?_
  refine xm_putF (v := .ref q134) (ty := .array .int) hx hb ht hown hK hP hD hS rfl 101 (by decide) fM_101 (ht _ v_88) hin (by decide +kernel) rfl rfl (by rw [hI.1]; decide) d_Model_init_548 (fun H locs hP hD hS => ?_)
  have hI := xq_put (k := 101) (v := .ref q134) (by decide +kernel) hI
  generalize List.set fs133 101 (.ref q134) = fs135 at hP hD hI
  have hP : va_P (dC, dI) classes [(h0, .inr (12, fs135)), (q1, .inl (cA2, 6000, .inl (fun _ => 0))), (q6, .inl (cA7, 4, .inl (fun _ => 0))), (q9, .inl (cA10, 4, .inl (fun _ => 0))), (q22, .inl (cA23, 6, .inl (fun _ => 0))), (q55, .inl (cA56, 16, .inl (fun _ => 0)))] H := hP
  have hD : va_D A [(h0, .inr (12, fs135)), (q1, .inl (cA2, 6000, .inl (fun _ => 0))), (q6, .inl (cA7, 4, .inl (fun _ => 0))), (q9, .inl (cA10, 4, .inl (fun _ => 0))), (q22, .inl (cA23, 6, .inl (fun _ => 0))), (q55, .inl (cA56, 16, .inl (fun _ => 0)))] := hD
  have hI : xq_I fs135 [.int 0, .ref q1, .int 0, .ref q6, .ref q9, .int 0, .ref q22, .ref q55, .int 0, .int 0, .int 0, .int 0, .int 0, .int 0, .null, .int 0] := hI
  refine lv_aload_n hx hb d_Model_init_551 rfl (lv_at hl 0 rfl) ?_
  refine lv_bipush (v := (nI 10)) hx hb d_Model_init_552 (by decide) ?_
  refine xw_newO (atype := .int) hx hb (ht _ v_4) hP hS (nI_pos (by decide)) (nI_clamp (by decide)) (by decide) (Nat.le_of_ble_eq_true rfl) (Nat.le_of_ble_eq_true rfl) d_Model_init_554 (fun q136 H hP hS => ?_)
  refine W.widen (k := 66) (n := 471046) (by omega) (by omega) ?_
  refine xm_putF (v := .ref q136) (ty := .array .int) hx hb ht hown hK hP hD hS rfl 102 (by decide) fM_102 (ht _ v_89) hin (by decide +kernel) rfl rfl (by rw [hI.1]; decide) d_Model_init_556 (fun H locs hP hD hS => ?_)
  have hI := xq_put (k := 102) (v := .ref q136) (by decide +kernel) hI
  generalize List.set fs135 102 (.ref q136) = fs137 at hP hD hI
  have hP : va_P (dC, dI) classes [(h0, .inr (12, fs137)), (q1, .inl (cA2, 6000, .inl (fun _ => 0))), (q6, .inl (cA7, 4, .inl (fun _ => 0))), (q9, .inl (cA10, 4, .inl (fun _ => 0))), (q22, .inl (cA23, 6, .inl (fun _ => 0))), (q55, .inl (cA56, 16, .inl (fun _ => 0)))] H := hP
  have hD : va_D A [(h0, .inr (12, fs137)), (q1, .inl (cA2, 6000, .inl (fun _ => 0))), (q6, .inl (cA7, 4, .inl (fun _ => 0))), (q9, .inl (cA10, 4, .inl (fun _ => 0))), (q22, .inl (cA23, 6, .inl (fun _ => 0))), (q55, .inl (cA56, 16, .inl (fun _ => 0)))] := hD
  have hI : xq_I fs137 [.int 0, .ref q1, .int 0, .ref q6, .ref q9, .int 0, .ref q22, .ref q55, .int 0, .int 0, .int 0, .int 0, .int 0, .int 0, .null, .int 0] := hI
  refine lv_aload_n hx hb d_Model_init_559 rfl (lv_at hl 0 rfl) ?_
  refine lv_bipush (v := (nI 10)) hx hb d_Model_init_560 (by decide) ?_
  refine xw_newO (atype := .int) hx hb (ht _ v_4) hP hS (nI_pos (by decide)) (nI_clamp (by decide)) (by decide) (Nat.le_of_ble_eq_true rfl) (Nat.le_of_ble_eq_true rfl) d_Model_init_562 (fun q138 H hP hS => ?_)
  refine W.widen (k := 67) (n := 471056) (by omega) (by omega) ?_
  refine xm_putF (v := .ref q138) (ty := .array .int) hx hb ht hown hK hP hD hS rfl 103 (by decide) fM_103 (ht _ v_90) hin (by decide +kernel) rfl rfl (by rw [hI.1]; decide) d_Model_init_564 (fun H locs hP hD hS => ?_)
  have hI := xq_put (k := 103) (v := .ref q138) (by decide +kernel) hI
  generalize List.set fs137 103 (.ref q138) = fs139 at hP hD hI
  have hP : va_P (dC, dI) classes [(h0, .inr (12, fs139)), (q1, .inl (cA2, 6000, .inl (fun _ => 0))), (q6, .inl (cA7, 4, .inl (fun _ => 0))), (q9, .inl (cA10, 4, .inl (fun _ => 0))), (q22, .inl (cA23, 6, .inl (fun _ => 0))), (q55, .inl (cA56, 16, .inl (fun _ => 0)))] H := hP
  have hD : va_D A [(h0, .inr (12, fs139)), (q1, .inl (cA2, 6000, .inl (fun _ => 0))), (q6, .inl (cA7, 4, .inl (fun _ => 0))), (q9, .inl (cA10, 4, .inl (fun _ => 0))), (q22, .inl (cA23, 6, .inl (fun _ => 0))), (q55, .inl (cA56, 16, .inl (fun _ => 0)))] := hD
  have hI : xq_I fs139 [.int 0, .ref q1, .int 0, .ref q6, .ref q9, .int 0, .ref q22, .ref q55, .int 0, .int 0, .int 0, .int 0, .int 0, .int 0, .null, .int 0] := hI
  refine lv_aload_n hx hb d_Model_init_567 rfl (lv_at hl 0 rfl) ?_
  refine lv_sipush (v := (nI 400)) hx hb d_Model_init_568 (by decide) ?_
  refine xw_newO (atype := .int) hx hb (ht _ v_4) hP hS (nI_pos (by decide)) (nI_clamp (by decide)) (by decide) (Nat.le_of_ble_eq_true rfl) (Nat.le_of_ble_eq_true rfl) d_Model_init_571 (fun q140 H hP hS => ?_)
  refine W.widen (k := 68) (n := 471456) (by omega) (by omega) ?_
  refine xm_putF (v := .ref q140) (ty := .array .int) hx hb ht hown hK hP hD hS rfl 104 (by decide) fM_104 (ht _ v_91) hin (by decide +kernel) rfl rfl (by rw [hI.1]; decide) d_Model_init_573 (fun H locs hP hD hS => ?_)
  have hI := xq_put (k := 104) (v := .ref q140) (by decide +kernel) hI
  generalize List.set fs139 104 (.ref q140) = fs141 at hP hD hI
  have hP : va_P (dC, dI) classes [(h0, .inr (12, fs141)), (q1, .inl (cA2, 6000, .inl (fun _ => 0))), (q6, .inl (cA7, 4, .inl (fun _ => 0))), (q9, .inl (cA10, 4, .inl (fun _ => 0))), (q22, .inl (cA23, 6, .inl (fun _ => 0))), (q55, .inl (cA56, 16, .inl (fun _ => 0)))] H := hP
  have hD : va_D A [(h0, .inr (12, fs141)), (q1, .inl (cA2, 6000, .inl (fun _ => 0))), (q6, .inl (cA7, 4, .inl (fun _ => 0))), (q9, .inl (cA10, 4, .inl (fun _ => 0))), (q22, .inl (cA23, 6, .inl (fun _ => 0))), (q55, .inl (cA56, 16, .inl (fun _ => 0)))] := hD
  have hI : xq_I fs141 [.int 0, .ref q1, .int 0, .ref q6, .ref q9, .int 0, .ref q22, .ref q55, .int 0, .int 0, .int 0, .int 0, .int 0, .int 0, .null, .int 0] := hI
  refine lv_aload_n hx hb d_Model_init_576 rfl (lv_at hl 0 rfl) ?_
  refine lv_sipush (v := (nI 400)) hx hb d_Model_init_577 (by decide) ?_
  refine xw_newO (atype := .int) hx hb (ht _ v_4) hP hS (nI_pos (by decide)) (nI_clamp (by decide)) (by decide) (Nat.le_of_ble_eq_true rfl) (Nat.le_of_ble_eq_true rfl) d_Model_init_580 (fun q142 H hP hS => ?_)
  refine W.widen (k := 69) (n := 471856) (by omega) (by omega) ?_
  refine xm_putF (v := .ref q142) (ty := .array .int) hx hb ht hown hK hP hD hS rfl 105 (by decide) fM_105 (ht _ v_92) hin (by decide +kernel) rfl rfl (by rw [hI.1]; decide) d_Model_init_582 (fun H locs hP hD hS => ?_)
  have hI := xq_put (k := 105) (v := .ref q142) (by decide +kernel) hI
  generalize List.set fs141 105 (.ref q142) = fs143 at hP hD hI
  have hP : va_P (dC, dI) classes [(h0, .inr (12, fs143)), (q1, .inl (cA2, 6000, .inl (fun _ => 0))), (q6, .inl (cA7, 4, .inl (fun _ => 0))), (q9, .inl (cA10, 4, .inl (fun _ => 0))), (q22, .inl (cA23, 6, .inl (fun _ => 0))), (q55, .inl (cA56, 16, .inl (fun _ => 0)))] H := hP
  have hD : va_D A [(h0, .inr (12, fs143)), (q1, .inl (cA2, 6000, .inl (fun _ => 0))), (q6, .inl (cA7, 4, .inl (fun _ => 0))), (q9, .inl (cA10, 4, .inl (fun _ => 0))), (q22, .inl (cA23, 6, .inl (fun _ => 0))), (q55, .inl (cA56, 16, .inl (fun _ => 0)))] := hD
  have hI : xq_I fs143 [.int 0, .ref q1, .int 0, .ref q6, .ref q9, .int 0, .ref q22, .ref q55, .int 0, .int 0, .int 0, .int 0, .int 0, .int 0, .null, .int 0] := hI
  refine lv_aload_n hx hb d_Model_init_585 rfl (lv_at hl 0 rfl) ?_
  refine lv_sipush (v := (nI 400)) hx hb d_Model_init_586 (by decide) ?_
  refine xw_newO (atype := .int) hx hb (ht _ v_4) hP hS (nI_pos (by decide)) (nI_clamp (by decide)) (by decide) (Nat.le_of_ble_eq_true rfl) (Nat.le_of_ble_eq_true rfl) d_Model_init_589 (fun q144 H hP hS => ?_)
  refine W.widen (k := 70) (n := 472256) (by omega) (by omega) ?_
  refine xm_putF (v := .ref q144) (ty := .array .int) hx hb ht hown hK hP hD hS rfl 106 (by decide) fM_106 (ht _ v_93) hin (by decide +kernel) rfl rfl (by rw [hI.1]; decide) d_Model_init_591 (fun H locs hP hD hS => ?_)
  have hI := xq_put (k := 106) (v := .ref q144) (by decide +kernel) hI
  generalize List.set fs143 106 (.ref q144) = fs145 at hP hD hI
  have hP : va_P (dC, dI) classes [(h0, .inr (12, fs145)), (q1, .inl (cA2, 6000, .inl (fun _ => 0))), (q6, .inl (cA7, 4, .inl (fun _ => 0))), (q9, .inl (cA10, 4, .inl (fun _ => 0))), (q22, .inl (cA23, 6, .inl (fun _ => 0))), (q55, .inl (cA56, 16, .inl (fun _ => 0)))] H := hP
  have hD : va_D A [(h0, .inr (12, fs145)), (q1, .inl (cA2, 6000, .inl (fun _ => 0))), (q6, .inl (cA7, 4, .inl (fun _ => 0))), (q9, .inl (cA10, 4, .inl (fun _ => 0))), (q22, .inl (cA23, 6, .inl (fun _ => 0))), (q55, .inl (cA56, 16, .inl (fun _ => 0)))] := hD
  have hI : xq_I fs145 [.int 0, .ref q1, .int 0, .ref q6, .ref q9, .int 0, .ref q22, .ref q55, .int 0, .int 0, .int 0, .int 0, .int 0, .int 0, .null, .int 0] := hI
  refine lv_aload_n hx hb d_Model_init_594 rfl (lv_at hl 0 rfl) ?_
  refine lv_sipush (v := (nI 400)) hx hb d_Model_init_595 (by decide) ?_
  refine xw_newO (atype := .int) hx hb (ht _ v_4) hP hS (nI_pos (by decide)) (nI_clamp (by decide)) (by decide) (Nat.le_of_ble_eq_true rfl) (Nat.le_of_ble_eq_true rfl) d_Model_init_598 (fun q146 H hP hS => ?_)
  refine W.widen (k := 71) (n := 472656) (by omega) (by omega) ?_
  refine xm_putF (v := .ref q146) (ty := .array .int) hx hb ht hown hK hP hD hS rfl 107 (by decide) fM_107 (ht _ v_94) hin (by decide +kernel) rfl rfl (by rw [hI.1]; decide) d_Model_init_600 (fun H locs hP hD hS => ?_)
  have hI := xq_put (k := 107) (v := .ref q146) (by decide +kernel) hI
  generalize List.set fs145 107 (.ref q146) = fs147 at hP hD hI
  have hP : va_P (dC, dI) classes [(h0, .inr (12, fs147)), (q1, .inl (cA2, 6000, .inl (fun _ => 0))), (q6, .inl (cA7, 4, .inl (fun _ => 0))), (q9, .inl (cA10, 4, .inl (fun _ => 0))), (q22, .inl (cA23, 6, .inl (fun _ => 0))), (q55, .inl (cA56, 16, .inl (fun _ => 0)))] H := hP
  have hD : va_D A [(h0, .inr (12, fs147)), (q1, .inl (cA2, 6000, .inl (fun _ => 0))), (q6, .inl (cA7, 4, .inl (fun _ => 0))), (q9, .inl (cA10, 4, .inl (fun _ => 0))), (q22, .inl (cA23, 6, .inl (fun _ => 0))), (q55, .inl (cA56, 16, .inl (fun _ => 0)))] := hD
  have hI : xq_I fs147 [.int 0, .ref q1, .int 0, .ref q6, .ref q9, .int 0, .ref q22, .ref q55, .int 0, .int 0, .int 0, .int 0, .int 0, .int 0, .null, .int 0] := hI
  refine lv_aload_n hx hb d_Model_init_603 rfl (lv_at hl 0 rfl) ?_
  refine lv_bipush (v := (nI 20)) hx hb d_Model_init_604 (by decide) ?_
  refine xw_newO (atype := .int) hx hb (ht _ v_4) hP hS (nI_pos (by decide)) (nI_clamp (by decide)) (by decide) (Nat.le_of_ble_eq_true rfl) (Nat.le_of_ble_eq_true rfl) d_Model_init_606 (fun q148 H hP hS => ?_)
  refine W.widen (k := 72) (n := 472676) (by omega) (by omega) ?_
  refine xm_putF (v := .ref q148) (ty := .array .int) hx hb ht hown hK hP hD hS rfl 114 (by decide) fM_114 (ht _ v_96) hin (by decide +kernel) rfl rfl (by rw [hI.1]; decide) d_Model_init_608 (fun H locs hP hD hS => ?_)
  have hI := xq_put (k := 114) (v := .ref q148) (by decide +kernel) hI
  generalize List.set fs147 114 (.ref q148) = fs149 at hP hD hI
  have hP : va_P (dC, dI) classes [(h0, .inr (12, fs149)), (q1, .inl (cA2, 6000, .inl (fun _ => 0))), (q6, .inl (cA7, 4, .inl (fun _ => 0))), (q9, .inl (cA10, 4, .inl (fun _ => 0))), (q22, .inl (cA23, 6, .inl (fun _ => 0))), (q55, .inl (cA56, 16, .inl (fun _ => 0)))] H := hP
  have hD : va_D A [(h0, .inr (12, fs149)), (q1, .inl (cA2, 6000, .inl (fun _ => 0))), (q6, .inl (cA7, 4, .inl (fun _ => 0))), (q9, .inl (cA10, 4, .inl (fun _ => 0))), (q22, .inl (cA23, 6, .inl (fun _ => 0))), (q55, .inl (cA56, 16, .inl (fun _ => 0)))] := hD
  have hI : xq_I fs149 [.int 0, .ref q1, .int 0, .ref q6, .ref q9, .int 0, .ref q22, .ref q55, .int 0, .int 0, .int 0, .int 0, .int 0, .int 0, .null, .int 0] := hI
  refine lv_aload_n hx hb d_Model_init_611 rfl (lv_at hl 0 rfl) ?_
  refine lv_bipush (v := (nI 20)) hx hb d_Model_init_612 (by decide) ?_
  refine xw_newO (atype := .int) hx hb (ht _ v_4) hP hS (nI_pos (by decide)) (nI_clamp (by decide)) (by decide) (Nat.le_of_ble_eq_true rfl) (Nat.le_of_ble_eq_true rfl) d_Model_init_614 (fun q150 H hP hS => ?_)
  refine W.widen (k := 73) (n := 472696) (by omega) (by omega) ?_
  refine xm_putF (v := .ref q150) (ty := .array .int) hx hb ht hown hK hP hD hS rfl 115 (by decide) fM_115 (ht _ v_97) hin (by decide +kernel) rfl rfl (by rw [hI.1]; decide) d_Model_init_616 (fun H locs hP hD hS => ?_)
  have hI := xq_put (k := 115) (v := .ref q150) (by decide +kernel) hI
  generalize List.set fs149 115 (.ref q150) = fs151 at hP hD hI
  have hP : va_P (dC, dI) classes [(h0, .inr (12, fs151)), (q1, .inl (cA2, 6000, .inl (fun _ => 0))), (q6, .inl (cA7, 4, .inl (fun _ => 0))), (q9, .inl (cA10, 4, .inl (fun _ => 0))), (q22, .inl (cA23, 6, .inl (fun _ => 0))), (q55, .inl (cA56, 16, .inl (fun _ => 0)))] H := hP
  have hD : va_D A [(h0, .inr (12, fs151)), (q1, .inl (cA2, 6000, .inl (fun _ => 0))), (q6, .inl (cA7, 4, .inl (fun _ => 0))), (q9, .inl (cA10, 4, .inl (fun _ => 0))), (q22, .inl (cA23, 6, .inl (fun _ => 0))), (q55, .inl (cA56, 16, .inl (fun _ => 0)))] := hD
  have hI : xq_I fs151 [.int 0, .ref q1, .int 0, .ref q6, .ref q9, .int 0, .ref q22, .ref q55, .int 0, .int 0, .int 0, .int 0, .int 0, .int 0, .null, .int 0] := hI
  refine lv_aload_n hx hb d_Model_init_619 rfl (lv_at hl 0 rfl) ?_
  refine lv_bipush (v := (nI 20)) hx hb d_Model_init_620 (by decide) ?_
  refine xw_newO (atype := .int) hx hb (ht _ v_4) hP hS (nI_pos (by decide)) (nI_clamp (by decide)) (by decide) (Nat.le_of_ble_eq_true rfl) (Nat.le_of_ble_eq_true rfl) d_Model_init_622 (fun q152 H hP hS => ?_)
  refine W.widen (k := 74) (n := 472716) (by omega) (by omega) ?_
  refine xm_putF (v := .ref q152) (ty := .array .int) hx hb ht hown hK hP hD hS rfl 116 (by decide) fM_116 (ht _ v_98) hin (by decide +kernel) rfl rfl (by rw [hI.1]; decide) d_Model_init_624 (fun H locs hP hD hS => ?_)
  have hI := xq_put (k := 116) (v := .ref q152) (by decide +kernel) hI
  generalize List.set fs151 116 (.ref q152) = fs153 at hP hD hI
  have hP : va_P (dC, dI) classes [(h0, .inr (12, fs153)), (q1, .inl (cA2, 6000, .inl (fun _ => 0))), (q6, .inl (cA7, 4, .inl (fun _ => 0))), (q9, .inl (cA10, 4, .inl (fun _ => 0))), (q22, .inl (cA23, 6, .inl (fun _ => 0))), (q55, .inl (cA56, 16, .inl (fun _ => 0)))] H := hP
  have hD : va_D A [(h0, .inr (12, fs153)), (q1, .inl (cA2, 6000, .inl (fun _ => 0))), (q6, .inl (cA7, 4, .inl (fun _ => 0))), (q9, .inl (cA10, 4, .inl (fun _ => 0))), (q22, .inl (cA23, 6, .inl (fun _ => 0))), (q55, .inl (cA56, 16, .inl (fun _ => 0)))] := hD
  have hI : xq_I fs153 [.int 0, .ref q1, .int 0, .ref q6, .ref q9, .int 0, .ref q22, .ref q55, .int 0, .int 0, .int 0, .int 0, .int 0, .int 0, .null, .int 0] := hI
  refine lv_aload_n hx hb d_Model_init_627 rfl (lv_at hl 0 rfl) ?_
  refine lv_bipush (v := (nI 20)) hx hb d_Model_init_628 (by decide) ?_
  refine xw_newO (atype := .int) hx hb (ht _ v_4) hP hS (nI_pos (by decide)) (nI_clamp (by decide)) (by decide) (Nat.le_of_ble_eq_true rfl) (Nat.le_of_ble_eq_true rfl) d_Model_init_630 (fun q154 H hP hS => ?_)
  refine W.widen (k := 75) (n := 472736) (by omega) (by omega) ?_
  refine xm_putF (v := .ref q154) (ty := .array .int) hx hb ht hown hK hP hD hS rfl 117 (by decide) fM_117 (ht _ v_99) hin (by decide +kernel) rfl rfl (by rw [hI.1]; decide) d_Model_init_632 (fun H locs hP hD hS => ?_)
  have hI := xq_put (k := 117) (v := .ref q154) (by decide +kernel) hI
  generalize List.set fs153 117 (.ref q154) = fs155 at hP hD hI
  have hP : va_P (dC, dI) classes [(h0, .inr (12, fs155)), (q1, .inl (cA2, 6000, .inl (fun _ => 0))), (q6, .inl (cA7, 4, .inl (fun _ => 0))), (q9, .inl (cA10, 4, .inl (fun _ => 0))), (q22, .inl (cA23, 6, .inl (fun _ => 0))), (q55, .inl (cA56, 16, .inl (fun _ => 0)))] H := hP
  have hD : va_D A [(h0, .inr (12, fs155)), (q1, .inl (cA2, 6000, .inl (fun _ => 0))), (q6, .inl (cA7, 4, .inl (fun _ => 0))), (q9, .inl (cA10, 4, .inl (fun _ => 0))), (q22, .inl (cA23, 6, .inl (fun _ => 0))), (q55, .inl (cA56, 16, .inl (fun _ => 0)))] := hD
  have hI : xq_I fs155 [.int 0, .ref q1, .int 0, .ref q6, .ref q9, .int 0, .ref q22, .ref q55, .int 0, .int 0, .int 0, .int 0, .int 0, .int 0, .null, .int 0] := hI
  refine lv_aload_n hx hb d_Model_init_635 rfl (lv_at hl 0 rfl) ?_
  refine lv_sipush (v := (nI 1600)) hx hb d_Model_init_636 (by decide) ?_
  refine xw_newO (atype := .int) hx hb (ht _ v_4) hP hS (nI_pos (by decide)) (nI_clamp (by decide)) (by decide) (Nat.le_of_ble_eq_true rfl) (Nat.le_of_ble_eq_true rfl) d_Model_init_639 (fun q156 H hP hS => ?_)
  refine W.widen (k := 76) (n := 474336) (by omega) (by omega) ?_
  refine xm_putF (v := .ref q156) (ty := .array .int) hx hb ht hown hK hP hD hS rfl 118 (by decide) fM_118 (ht _ v_100) hin (by decide +kernel) rfl rfl (by rw [hI.1]; decide) d_Model_init_641 (fun H locs hP hD hS => ?_)
  have hI := xq_put (k := 118) (v := .ref q156) (by decide +kernel) hI
  generalize List.set fs155 118 (.ref q156) = fs157 at hP hD hI
  have hP : va_P (dC, dI) classes [(h0, .inr (12, fs157)), (q1, .inl (cA2, 6000, .inl (fun _ => 0))), (q6, .inl (cA7, 4, .inl (fun _ => 0))), (q9, .inl (cA10, 4, .inl (fun _ => 0))), (q22, .inl (cA23, 6, .inl (fun _ => 0))), (q55, .inl (cA56, 16, .inl (fun _ => 0)))] H := hP
  have hD : va_D A [(h0, .inr (12, fs157)), (q1, .inl (cA2, 6000, .inl (fun _ => 0))), (q6, .inl (cA7, 4, .inl (fun _ => 0))), (q9, .inl (cA10, 4, .inl (fun _ => 0))), (q22, .inl (cA23, 6, .inl (fun _ => 0))), (q55, .inl (cA56, 16, .inl (fun _ => 0)))] := hD
  have hI : xq_I fs157 [.int 0, .ref q1, .int 0, .ref q6, .ref q9, .int 0, .ref q22, .ref q55, .int 0, .int 0, .int 0, .int 0, .int 0, .int 0, .null, .int 0] := hI
  refine lv_aload_n hx hb d_Model_init_644 rfl (lv_at hl 0 rfl) ?_
  refine lv_sipush (v := (nI 1600)) hx hb d_Model_init_645 (by decide) ?_
  refine xw_newO (atype := .int) hx hb (ht _ v_4) hP hS (nI_pos (by decide)) (nI_clamp (by decide)) (by decide) (Nat.le_of_ble_eq_true rfl) (Nat.le_of_ble_eq_true rfl) d_Model_init_648 (fun q158 H hP hS => ?_)
  refine W.widen (k := 77) (n := 475936) (by omega) (by omega) ?_
  refine xm_putF (v := .ref q158) (ty := .array .int) hx hb ht hown hK hP hD hS rfl 119 (by decide) fM_119 (ht _ v_101) hin (by decide +kernel) rfl rfl (by rw [hI.1]; decide) d_Model_init_650 (fun H locs hP hD hS => ?_)
  have hI := xq_put (k := 119) (v := .ref q158) (by decide +kernel) hI
  generalize List.set fs157 119 (.ref q158) = fs159 at hP hD hI
  have hP : va_P (dC, dI) classes [(h0, .inr (12, fs159)), (q1, .inl (cA2, 6000, .inl (fun _ => 0))), (q6, .inl (cA7, 4, .inl (fun _ => 0))), (q9, .inl (cA10, 4, .inl (fun _ => 0))), (q22, .inl (cA23, 6, .inl (fun _ => 0))), (q55, .inl (cA56, 16, .inl (fun _ => 0)))] H := hP
  have hD : va_D A [(h0, .inr (12, fs159)), (q1, .inl (cA2, 6000, .inl (fun _ => 0))), (q6, .inl (cA7, 4, .inl (fun _ => 0))), (q9, .inl (cA10, 4, .inl (fun _ => 0))), (q22, .inl (cA23, 6, .inl (fun _ => 0))), (q55, .inl (cA56, 16, .inl (fun _ => 0)))] := hD
  have hI : xq_I fs159 [.int 0, .ref q1, .int 0, .ref q6, .ref q9, .int 0, .ref q22, .ref q55, .int 0, .int 0, .int 0, .int 0, .int 0, .int 0, .null, .int 0] := hI
  refine lv_aload_n hx hb d_Model_init_653 rfl (lv_at hl 0 rfl) ?_
  refine lv_sipush (v := (nI 1600)) hx hb d_Model_init_654 (by decide) ?_
  refine xw_newO (atype := .int) hx hb (ht _ v_4) hP hS (nI_pos (by decide)) (nI_clamp (by decide)) (by decide) (Nat.le_of_ble_eq_true rfl) (Nat.le_of_ble_eq_true rfl) d_Model_init_657 (fun q160 H hP hS => ?_)
  refine W.widen (k := 78) (n := 477536) (by omega) (by omega) ?_
  refine xm_putF (v := .ref q160) (ty := .array .int) hx hb ht hown hK hP hD hS rfl 120 (by decide) fM_120 (ht _ v_102) hin (by decide +kernel) rfl rfl (by rw [hI.1]; decide) d_Model_init_659 (fun H locs hP hD hS => ?_)
  have hI := xq_put (k := 120) (v := .ref q160) (by decide +kernel) hI
  generalize List.set fs159 120 (.ref q160) = fs161 at hP hD hI
  have hP : va_P (dC, dI) classes [(h0, .inr (12, fs161)), (q1, .inl (cA2, 6000, .inl (fun _ => 0))), (q6, .inl (cA7, 4, .inl (fun _ => 0))), (q9, .inl (cA10, 4, .inl (fun _ => 0))), (q22, .inl (cA23, 6, .inl (fun _ => 0))), (q55, .inl (cA56, 16, .inl (fun _ => 0)))] H := hP
  have hD : va_D A [(h0, .inr (12, fs161)), (q1, .inl (cA2, 6000, .inl (fun _ => 0))), (q6, .inl (cA7, 4, .inl (fun _ => 0))), (q9, .inl (cA10, 4, .inl (fun _ => 0))), (q22, .inl (cA23, 6, .inl (fun _ => 0))), (q55, .inl (cA56, 16, .inl (fun _ => 0)))] := hD
  have hI : xq_I fs161 [.int 0, .ref q1, .int 0, .ref q6, .ref q9, .int 0, .ref q22, .ref q55, .int 0, .int 0, .int 0, .int 0, .int 0, .int 0, .null, .int 0] := hI
  refine lv_aload_n hx hb d_Model_init_662 rfl (lv_at hl 0 rfl) ?_
  refine lv_sipush (v := (nI 6000)) hx hb d_Model_init_663 (by decide) ?_
  refine xw_newO (atype := .byte) hx hb (ht _ v_3) hP hS (nI_pos (by decide)) (nI_clamp (by decide)) (by decide) (Nat.le_of_ble_eq_true rfl) (Nat.le_of_ble_eq_true rfl) d_Model_init_666 (fun q162 H hP hS => ?_)
  refine W.widen (k := 79) (n := 483536) (by omega) (by omega) ?_
  refine xm_putF (v := .ref q162) (ty := .array .byte) hx hb ht hown hK hP hD hS rfl 127 (by decide) fM_127 (ht _ v_103) hin (by decide +kernel) rfl rfl (by rw [hI.1]; decide) d_Model_init_668 (fun H locs hP hD hS => ?_)
  have hI := xq_put (k := 127) (v := .ref q162) (by decide +kernel) hI
  generalize List.set fs161 127 (.ref q162) = fs163 at hP hD hI
  have hP : va_P (dC, dI) classes [(h0, .inr (12, fs163)), (q1, .inl (cA2, 6000, .inl (fun _ => 0))), (q6, .inl (cA7, 4, .inl (fun _ => 0))), (q9, .inl (cA10, 4, .inl (fun _ => 0))), (q22, .inl (cA23, 6, .inl (fun _ => 0))), (q55, .inl (cA56, 16, .inl (fun _ => 0)))] H := hP
  have hD : va_D A [(h0, .inr (12, fs163)), (q1, .inl (cA2, 6000, .inl (fun _ => 0))), (q6, .inl (cA7, 4, .inl (fun _ => 0))), (q9, .inl (cA10, 4, .inl (fun _ => 0))), (q22, .inl (cA23, 6, .inl (fun _ => 0))), (q55, .inl (cA56, 16, .inl (fun _ => 0)))] := hD
  have hI : xq_I fs163 [.int 0, .ref q1, .int 0, .ref q6, .ref q9, .int 0, .ref q22, .ref q55, .int 0, .int 0, .int 0, .int 0, .int 0, .int 0, .null, .int 0] := hI
  refine lv_aload_n hx hb d_Model_init_671 rfl (lv_at hl 0 rfl) ?_
  refine lv_ldc (v := (nI 40000)) hx hb hown (ht _ v_14) d_Model_init_672 ?_
  refine xw_newO (atype := .byte) hx hb (ht _ v_3) hP hS (nI_pos (by decide)) (nI_clamp (by decide)) (by decide) (Nat.le_of_ble_eq_true rfl) (Nat.le_of_ble_eq_true rfl) d_Model_init_674 (fun q164 H hP hS => ?_)
  refine W.widen (k := 80) (n := 523536) (by omega) (by omega) ?_
  refine xm_putF (v := .ref q164) (ty := .array .byte) hx hb ht hown hK hP hD hS rfl 129 (by decide) fM_129 (ht _ v_105) hin (by decide +kernel) rfl rfl (by rw [hI.1]; decide) d_Model_init_676 (fun H locs hP hD hS => ?_)
  have hI := xq_put (k := 129) (v := .ref q164) (by decide +kernel) hI
  generalize List.set fs163 129 (.ref q164) = fs165 at hP hD hI
  have hP : va_P (dC, dI) classes [(h0, .inr (12, fs165)), (q1, .inl (cA2, 6000, .inl (fun _ => 0))), (q6, .inl (cA7, 4, .inl (fun _ => 0))), (q9, .inl (cA10, 4, .inl (fun _ => 0))), (q22, .inl (cA23, 6, .inl (fun _ => 0))), (q55, .inl (cA56, 16, .inl (fun _ => 0)))] H := hP
  have hD : va_D A [(h0, .inr (12, fs165)), (q1, .inl (cA2, 6000, .inl (fun _ => 0))), (q6, .inl (cA7, 4, .inl (fun _ => 0))), (q9, .inl (cA10, 4, .inl (fun _ => 0))), (q22, .inl (cA23, 6, .inl (fun _ => 0))), (q55, .inl (cA56, 16, .inl (fun _ => 0)))] := hD
  have hI : xq_I fs165 [.int 0, .ref q1, .int 0, .ref q6, .ref q9, .int 0, .ref q22, .ref q55, .int 0, .int 0, .int 0, .int 0, .int 0, .int 0, .null, .int 0] := hI
  refine lv_aload_n hx hb d_Model_init_679 rfl (lv_at hl 0 rfl) ?_
  refine lv_ldc (v := (nI 40000)) hx hb hown (ht _ v_14) d_Model_init_680 ?_
  refine xw_newO (atype := .int) hx hb (ht _ v_4) hP hS (nI_pos (by decide)) (nI_clamp (by decide)) (by decide) (Nat.le_of_ble_eq_true rfl) (Nat.le_of_ble_eq_true rfl) d_Model_init_682 (fun q166 H hP hS => ?_)
  refine W.widen (k := 81) (n := 563536) (by omega) (by omega) ?_
  refine xm_putF (v := .ref q166) (ty := .array .int) hx hb ht hown hK hP hD hS rfl 131 (by decide) fM_131 (ht _ v_107) hin (by decide +kernel) rfl rfl (by rw [hI.1]; decide) d_Model_init_684 (fun H locs hP hD hS => ?_)
  have hI := xq_put (k := 131) (v := .ref q166) (by decide +kernel) hI
  generalize List.set fs165 131 (.ref q166) = fs167 at hP hD hI
  have hP : va_P (dC, dI) classes [(h0, .inr (12, fs167)), (q1, .inl (cA2, 6000, .inl (fun _ => 0))), (q6, .inl (cA7, 4, .inl (fun _ => 0))), (q9, .inl (cA10, 4, .inl (fun _ => 0))), (q22, .inl (cA23, 6, .inl (fun _ => 0))), (q55, .inl (cA56, 16, .inl (fun _ => 0)))] H := hP
  have hD : va_D A [(h0, .inr (12, fs167)), (q1, .inl (cA2, 6000, .inl (fun _ => 0))), (q6, .inl (cA7, 4, .inl (fun _ => 0))), (q9, .inl (cA10, 4, .inl (fun _ => 0))), (q22, .inl (cA23, 6, .inl (fun _ => 0))), (q55, .inl (cA56, 16, .inl (fun _ => 0)))] := hD
  have hI : xq_I fs167 [.int 0, .ref q1, .int 0, .ref q6, .ref q9, .int 0, .ref q22, .ref q55, .int 0, .int 0, .int 0, .int 0, .int 0, .int 0, .null, .int 0] := hI
  refine lv_aload_n hx hb d_Model_init_687 rfl (lv_at hl 0 rfl) ?_
  refine lv_iconst (v := (nI 2)) hx hb d_Model_init_688 (by decide) ?_
  refine va_newa (atype := .int) (ty := .int) (a0 := (2, .inl (fun _ => 0))) hx hb (ht _ v_4) rfl hK hP hD hS hA (fun _ => rfl) (nI_pos (by decide)) (nI_clamp (by decide)) (by decide) (Nat.le_of_ble_eq_true rfl) (Nat.le_of_ble_eq_true rfl) d_Model_init_689 (fun q168 cA169 H hK hP hD hS => ?_)
  refine W.widen (k := 82) (n := 563538) (by omega) (by omega) ?_
  have hP : va_P (dC, dI) classes [(h0, .inr (12, fs167)), (q1, .inl (cA2, 6000, .inl (fun _ => 0))), (q6, .inl (cA7, 4, .inl (fun _ => 0))), (q9, .inl (cA10, 4, .inl (fun _ => 0))), (q22, .inl (cA23, 6, .inl (fun _ => 0))), (q55, .inl (cA56, 16, .inl (fun _ => 0))), (q168, .inl (cA169, 2, .inl (fun _ => 0)))] H := hP
  have hD : va_D A [(h0, .inr (12, fs167)), (q1, .inl (cA2, 6000, .inl (fun _ => 0))), (q6, .inl (cA7, 4, .inl (fun _ => 0))), (q9, .inl (cA10, 4, .inl (fun _ => 0))), (q22, .inl (cA23, 6, .inl (fun _ => 0))), (q55, .inl (cA56, 16, .inl (fun _ => 0))), (q168, .inl (cA169, 2, .inl (fun _ => 0)))] := hD
  have hK : va_K (dC, dI) classes [(cA2, .byte), (cA7, .int), (cA10, .boolean), (cA23, .boolean), (cA56, .boolean), (cA169, .int)] s := hK
  refine xm_putF (v := .ref q168) (ty := .array .int) hx hb ht hown hK hP hD hS rfl 134 (by decide) fM_134 (ht _ v_110) hin (by decide +kernel) rfl rfl (by rw [hI.1]; decide) d_Model_init_691 (fun H locs hP hD hS => ?_)
  have hI := xq_putN (v := .ref q168) 14 134 (by decide) (by decide) (by decide +kernel) (by decide) rfl hI
  generalize List.set fs167 134 (.ref q168) = fs170 at hP hD hI
  have hP : va_P (dC, dI) classes [(h0, .inr (12, fs170)), (q1, .inl (cA2, 6000, .inl (fun _ => 0))), (q6, .inl (cA7, 4, .inl (fun _ => 0))), (q9, .inl (cA10, 4, .inl (fun _ => 0))), (q22, .inl (cA23, 6, .inl (fun _ => 0))), (q55, .inl (cA56, 16, .inl (fun _ => 0))), (q168, .inl (cA169, 2, .inl (fun _ => 0)))] H := hP
  have hD : va_D A [(h0, .inr (12, fs170)), (q1, .inl (cA2, 6000, .inl (fun _ => 0))), (q6, .inl (cA7, 4, .inl (fun _ => 0))), (q9, .inl (cA10, 4, .inl (fun _ => 0))), (q22, .inl (cA23, 6, .inl (fun _ => 0))), (q55, .inl (cA56, 16, .inl (fun _ => 0))), (q168, .inl (cA169, 2, .inl (fun _ => 0)))] := hD
  have hI : xq_I fs170 [.int 0, .ref q1, .int 0, .ref q6, .ref q9, .int 0, .ref q22, .ref q55, .int 0, .int 0, .int 0, .int 0, .int 0, .int 0, .ref q168, .int 0] := hI
  refine lv_aload_n hx hb d_Model_init_694 rfl (lv_at hl 0 rfl) ?_
  refine lv_sipush (v := (nI 200)) hx hb d_Model_init_695 (by decide) ?_
  refine xw_newO (atype := .int) hx hb (ht _ v_4) hP hS (nI_pos (by decide)) (nI_clamp (by decide)) (by decide) (Nat.le_of_ble_eq_true rfl) (Nat.le_of_ble_eq_true rfl) d_Model_init_698 (fun q171 H hP hS => ?_)
  refine W.widen (k := 83) (n := 563738) (by omega) (by omega) ?_
  refine xm_putF (v := .ref q171) (ty := .array .int) hx hb ht hown hK hP hD hS rfl 135 (by decide) fM_135 (ht _ v_111) hin (by decide +kernel) rfl rfl (by rw [hI.1]; decide) d_Model_init_700 (fun H locs hP hD hS => ?_)
  have hI := xq_put (k := 135) (v := .ref q171) (by decide +kernel) hI
  generalize List.set fs170 135 (.ref q171) = fs172 at hP hD hI
  have hP : va_P (dC, dI) classes [(h0, .inr (12, fs172)), (q1, .inl (cA2, 6000, .inl (fun _ => 0))), (q6, .inl (cA7, 4, .inl (fun _ => 0))), (q9, .inl (cA10, 4, .inl (fun _ => 0))), (q22, .inl (cA23, 6, .inl (fun _ => 0))), (q55, .inl (cA56, 16, .inl (fun _ => 0))), (q168, .inl (cA169, 2, .inl (fun _ => 0)))] H := hP
  have hD : va_D A [(h0, .inr (12, fs172)), (q1, .inl (cA2, 6000, .inl (fun _ => 0))), (q6, .inl (cA7, 4, .inl (fun _ => 0))), (q9, .inl (cA10, 4, .inl (fun _ => 0))), (q22, .inl (cA23, 6, .inl (fun _ => 0))), (q55, .inl (cA56, 16, .inl (fun _ => 0))), (q168, .inl (cA169, 2, .inl (fun _ => 0)))] := hD
  have hI : xq_I fs172 [.int 0, .ref q1, .int 0, .ref q6, .ref q9, .int 0, .ref q22, .ref q55, .int 0, .int 0, .int 0, .int 0, .int 0, .int 0, .ref q168, .int 0] := hI
  refine lv_aload_n hx hb d_Model_init_703 rfl (lv_at hl 0 rfl) ?_
  refine lv_sipush (v := (nI 200)) hx hb d_Model_init_704 (by decide) ?_
  refine xw_newO (atype := .int) hx hb (ht _ v_4) hP hS (nI_pos (by decide)) (nI_clamp (by decide)) (by decide) (Nat.le_of_ble_eq_true rfl) (Nat.le_of_ble_eq_true rfl) d_Model_init_707 (fun q173 H hP hS => ?_)
  refine W.widen (k := 84) (n := 563938) (by omega) (by omega) ?_
  refine xm_putF (v := .ref q173) (ty := .array .int) hx hb ht hown hK hP hD hS rfl 136 (by decide) fM_136 (ht _ v_112) hin (by decide +kernel) rfl rfl (by rw [hI.1]; decide) d_Model_init_709 (fun H locs hP hD hS => ?_)
  have hI := xq_put (k := 136) (v := .ref q173) (by decide +kernel) hI
  generalize List.set fs172 136 (.ref q173) = fs174 at hP hD hI
  have hP : va_P (dC, dI) classes [(h0, .inr (12, fs174)), (q1, .inl (cA2, 6000, .inl (fun _ => 0))), (q6, .inl (cA7, 4, .inl (fun _ => 0))), (q9, .inl (cA10, 4, .inl (fun _ => 0))), (q22, .inl (cA23, 6, .inl (fun _ => 0))), (q55, .inl (cA56, 16, .inl (fun _ => 0))), (q168, .inl (cA169, 2, .inl (fun _ => 0)))] H := hP
  have hD : va_D A [(h0, .inr (12, fs174)), (q1, .inl (cA2, 6000, .inl (fun _ => 0))), (q6, .inl (cA7, 4, .inl (fun _ => 0))), (q9, .inl (cA10, 4, .inl (fun _ => 0))), (q22, .inl (cA23, 6, .inl (fun _ => 0))), (q55, .inl (cA56, 16, .inl (fun _ => 0))), (q168, .inl (cA169, 2, .inl (fun _ => 0)))] := hD
  have hI : xq_I fs174 [.int 0, .ref q1, .int 0, .ref q6, .ref q9, .int 0, .ref q22, .ref q55, .int 0, .int 0, .int 0, .int 0, .int 0, .int 0, .ref q168, .int 0] := hI
  refine lv_aload_n hx hb d_Model_init_712 rfl (lv_at hl 0 rfl) ?_
  refine lv_sipush (v := (nI 200)) hx hb d_Model_init_713 (by decide) ?_
  refine xw_newO (atype := .int) hx hb (ht _ v_4) hP hS (nI_pos (by decide)) (nI_clamp (by decide)) (by decide) (Nat.le_of_ble_eq_true rfl) (Nat.le_of_ble_eq_true rfl) d_Model_init_716 (fun q175 H hP hS => ?_)
  refine W.widen (k := 85) (n := 564138) (by omega) (by omega) ?_
  refine xm_putF (v := .ref q175) (ty := .array .int) hx hb ht hown hK hP hD hS rfl 137 (by decide) fM_137 (ht _ v_113) hin (by decide +kernel) rfl rfl (by rw [hI.1]; decide) d_Model_init_718 (fun H locs hP hD hS => ?_)
  have hI := xq_put (k := 137) (v := .ref q175) (by decide +kernel) hI
  generalize List.set fs174 137 (.ref q175) = fs176 at hP hD hI
  have hP : va_P (dC, dI) classes [(h0, .inr (12, fs176)), (q1, .inl (cA2, 6000, .inl (fun _ => 0))), (q6, .inl (cA7, 4, .inl (fun _ => 0))), (q9, .inl (cA10, 4, .inl (fun _ => 0))), (q22, .inl (cA23, 6, .inl (fun _ => 0))), (q55, .inl (cA56, 16, .inl (fun _ => 0))), (q168, .inl (cA169, 2, .inl (fun _ => 0)))] H := hP
  have hD : va_D A [(h0, .inr (12, fs176)), (q1, .inl (cA2, 6000, .inl (fun _ => 0))), (q6, .inl (cA7, 4, .inl (fun _ => 0))), (q9, .inl (cA10, 4, .inl (fun _ => 0))), (q22, .inl (cA23, 6, .inl (fun _ => 0))), (q55, .inl (cA56, 16, .inl (fun _ => 0))), (q168, .inl (cA169, 2, .inl (fun _ => 0)))] := hD
  have hI : xq_I fs176 [.int 0, .ref q1, .int 0, .ref q6, .ref q9, .int 0, .ref q22, .ref q55, .int 0, .int 0, .int 0, .int 0, .int 0, .int 0, .ref q168, .int 0] := hI
  refine lv_aload_n hx hb d_Model_init_721 rfl (lv_at hl 0 rfl) ?_
  refine lv_sipush (v := (nI 200)) hx hb d_Model_init_722 (by decide) ?_
  refine xw_newO (atype := .int) hx hb (ht _ v_4) hP hS (nI_pos (by decide)) (nI_clamp (by decide)) (by decide) (Nat.le_of_ble_eq_true rfl) (Nat.le_of_ble_eq_true rfl) d_Model_init_725 (fun q177 H hP hS => ?_)
  refine W.widen (k := 86) (n := 564338) (by omega) (by omega) ?_
  refine xm_putF (v := .ref q177) (ty := .array .int) hx hb ht hown hK hP hD hS rfl 138 (by decide) fM_138 (ht _ v_114) hin (by decide +kernel) rfl rfl (by rw [hI.1]; decide) d_Model_init_727 (fun H locs hP hD hS => ?_)
  have hI := xq_put (k := 138) (v := .ref q177) (by decide +kernel) hI
  generalize List.set fs176 138 (.ref q177) = fs178 at hP hD hI
  have hP : va_P (dC, dI) classes [(h0, .inr (12, fs178)), (q1, .inl (cA2, 6000, .inl (fun _ => 0))), (q6, .inl (cA7, 4, .inl (fun _ => 0))), (q9, .inl (cA10, 4, .inl (fun _ => 0))), (q22, .inl (cA23, 6, .inl (fun _ => 0))), (q55, .inl (cA56, 16, .inl (fun _ => 0))), (q168, .inl (cA169, 2, .inl (fun _ => 0)))] H := hP
  have hD : va_D A [(h0, .inr (12, fs178)), (q1, .inl (cA2, 6000, .inl (fun _ => 0))), (q6, .inl (cA7, 4, .inl (fun _ => 0))), (q9, .inl (cA10, 4, .inl (fun _ => 0))), (q22, .inl (cA23, 6, .inl (fun _ => 0))), (q55, .inl (cA56, 16, .inl (fun _ => 0))), (q168, .inl (cA169, 2, .inl (fun _ => 0)))] := hD
  have hI : xq_I fs178 [.int 0, .ref q1, .int 0, .ref q6, .ref q9, .int 0, .ref q22, .ref q55, .int 0, .int 0, .int 0, .int 0, .int 0, .int 0, .ref q168, .int 0] := hI
  refine lv_aload_n hx hb d_Model_init_730 rfl (lv_at hl 0 rfl) ?_
  refine lv_sipush (v := (nI 200)) hx hb d_Model_init_731 (by decide) ?_
  refine xw_newO (atype := .int) hx hb (ht _ v_4) hP hS (nI_pos (by decide)) (nI_clamp (by decide)) (by decide) (Nat.le_of_ble_eq_true rfl) (Nat.le_of_ble_eq_true rfl) d_Model_init_734 (fun q179 H hP hS => ?_)
  refine W.widen (k := 87) (n := 564538) (by omega) (by omega) ?_
  refine xm_putF (v := .ref q179) (ty := .array .int) hx hb ht hown hK hP hD hS rfl 139 (by decide) fM_139 (ht _ v_115) hin (by decide +kernel) rfl rfl (by rw [hI.1]; decide) d_Model_init_736 (fun H locs hP hD hS => ?_)
  have hI := xq_put (k := 139) (v := .ref q179) (by decide +kernel) hI
  generalize List.set fs178 139 (.ref q179) = fs180 at hP hD hI
  have hP : va_P (dC, dI) classes [(h0, .inr (12, fs180)), (q1, .inl (cA2, 6000, .inl (fun _ => 0))), (q6, .inl (cA7, 4, .inl (fun _ => 0))), (q9, .inl (cA10, 4, .inl (fun _ => 0))), (q22, .inl (cA23, 6, .inl (fun _ => 0))), (q55, .inl (cA56, 16, .inl (fun _ => 0))), (q168, .inl (cA169, 2, .inl (fun _ => 0)))] H := hP
  have hD : va_D A [(h0, .inr (12, fs180)), (q1, .inl (cA2, 6000, .inl (fun _ => 0))), (q6, .inl (cA7, 4, .inl (fun _ => 0))), (q9, .inl (cA10, 4, .inl (fun _ => 0))), (q22, .inl (cA23, 6, .inl (fun _ => 0))), (q55, .inl (cA56, 16, .inl (fun _ => 0))), (q168, .inl (cA169, 2, .inl (fun _ => 0)))] := hD
  have hI : xq_I fs180 [.int 0, .ref q1, .int 0, .ref q6, .ref q9, .int 0, .ref q22, .ref q55, .int 0, .int 0, .int 0, .int 0, .int 0, .int 0, .ref q168, .int 0] := hI
  refine lv_aload_n hx hb d_Model_init_739 rfl (lv_at hl 0 rfl) ?_
  refine lv_sipush (v := (nI 200)) hx hb d_Model_init_740 (by decide) ?_
  refine xw_newO (atype := .int) hx hb (ht _ v_4) hP hS (nI_pos (by decide)) (nI_clamp (by decide)) (by decide) (Nat.le_of_ble_eq_true rfl) (Nat.le_of_ble_eq_true rfl) d_Model_init_743 (fun q181 H hP hS => ?_)
  refine W.widen (k := 88) (n := 564738) (by omega) (by omega) ?_
  refine xm_putF (v := .ref q181) (ty := .array .int) hx hb ht hown hK hP hD hS rfl 140 (by decide) fM_140 (ht _ v_116) hin (by decide +kernel) rfl rfl (by rw [hI.1]; decide) d_Model_init_745 (fun H locs hP hD hS => ?_)
  have hI := xq_put (k := 140) (v := .ref q181) (by decide +kernel) hI
  generalize List.set fs180 140 (.ref q181) = fs182 at hP hD hI
  have hP : va_P (dC, dI) classes [(h0, .inr (12, fs182)), (q1, .inl (cA2, 6000, .inl (fun _ => 0))), (q6, .inl (cA7, 4, .inl (fun _ => 0))), (q9, .inl (cA10, 4, .inl (fun _ => 0))), (q22, .inl (cA23, 6, .inl (fun _ => 0))), (q55, .inl (cA56, 16, .inl (fun _ => 0))), (q168, .inl (cA169, 2, .inl (fun _ => 0)))] H := hP
  have hD : va_D A [(h0, .inr (12, fs182)), (q1, .inl (cA2, 6000, .inl (fun _ => 0))), (q6, .inl (cA7, 4, .inl (fun _ => 0))), (q9, .inl (cA10, 4, .inl (fun _ => 0))), (q22, .inl (cA23, 6, .inl (fun _ => 0))), (q55, .inl (cA56, 16, .inl (fun _ => 0))), (q168, .inl (cA169, 2, .inl (fun _ => 0)))] := hD
  have hI : xq_I fs182 [.int 0, .ref q1, .int 0, .ref q6, .ref q9, .int 0, .ref q22, .ref q55, .int 0, .int 0, .int 0, .int 0, .int 0, .int 0, .ref q168, .int 0] := hI
  refine lv_aload_n hx hb d_Model_init_748 rfl (lv_at hl 0 rfl) ?_
  refine lv_sipush (v := (nI 200)) hx hb d_Model_init_749 (by decide) ?_
  refine xw_newO (atype := .int) hx hb (ht _ v_4) hP hS (nI_pos (by decide)) (nI_clamp (by decide)) (by decide) (Nat.le_of_ble_eq_true rfl) (Nat.le_of_ble_eq_true rfl) d_Model_init_752 (fun q183 H hP hS => ?_)
  refine W.widen (k := 89) (n := 564938) (by omega) (by omega) ?_
  refine xm_putF (v := .ref q183) (ty := .array .int) hx hb ht hown hK hP hD hS rfl 141 (by decide) fM_141 (ht _ v_117) hin (by decide +kernel) rfl rfl (by rw [hI.1]; decide) d_Model_init_754 (fun H locs hP hD hS => ?_)
  have hI := xq_put (k := 141) (v := .ref q183) (by decide +kernel) hI
  generalize List.set fs182 141 (.ref q183) = fs184 at hP hD hI
  have hP : va_P (dC, dI) classes [(h0, .inr (12, fs184)), (q1, .inl (cA2, 6000, .inl (fun _ => 0))), (q6, .inl (cA7, 4, .inl (fun _ => 0))), (q9, .inl (cA10, 4, .inl (fun _ => 0))), (q22, .inl (cA23, 6, .inl (fun _ => 0))), (q55, .inl (cA56, 16, .inl (fun _ => 0))), (q168, .inl (cA169, 2, .inl (fun _ => 0)))] H := hP
  have hD : va_D A [(h0, .inr (12, fs184)), (q1, .inl (cA2, 6000, .inl (fun _ => 0))), (q6, .inl (cA7, 4, .inl (fun _ => 0))), (q9, .inl (cA10, 4, .inl (fun _ => 0))), (q22, .inl (cA23, 6, .inl (fun _ => 0))), (q55, .inl (cA56, 16, .inl (fun _ => 0))), (q168, .inl (cA169, 2, .inl (fun _ => 0)))] := hD
  have hI : xq_I fs184 [.int 0, .ref q1, .int 0, .ref q6, .ref q9, .int 0, .ref q22, .ref q55, .int 0, .int 0, .int 0, .int 0, .int 0, .int 0, .ref q168, .int 0] := hI
  refine lv_aload_n hx hb d_Model_init_757 rfl (lv_at hl 0 rfl) ?_
  refine lv_sipush (v := (nI 200)) hx hb d_Model_init_758 (by decide) ?_
  refine xw_newO (atype := .int) hx hb (ht _ v_4) hP hS (nI_pos (by decide)) (nI_clamp (by decide)) (by decide) (Nat.le_of_ble_eq_true rfl) (Nat.le_of_ble_eq_true rfl) d_Model_init_761 (fun q185 H hP hS => ?_)
  refine W.widen (k := 90) (n := 565138) (by omega) (by omega) ?_
  refine xm_putF (v := .ref q185) (ty := .array .int) hx hb ht hown hK hP hD hS rfl 142 (by decide) fM_142 (ht _ v_118) hin (by decide +kernel) rfl rfl (by rw [hI.1]; decide) d_Model_init_763 (fun H locs hP hD hS => ?_)
  have hI := xq_put (k := 142) (v := .ref q185) (by decide +kernel) hI
  generalize List.set fs184 142 (.ref q185) = fs186 at hP hD hI
  have hP : va_P (dC, dI) classes [(h0, .inr (12, fs186)), (q1, .inl (cA2, 6000, .inl (fun _ => 0))), (q6, .inl (cA7, 4, .inl (fun _ => 0))), (q9, .inl (cA10, 4, .inl (fun _ => 0))), (q22, .inl (cA23, 6, .inl (fun _ => 0))), (q55, .inl (cA56, 16, .inl (fun _ => 0))), (q168, .inl (cA169, 2, .inl (fun _ => 0)))] H := hP
  have hD : va_D A [(h0, .inr (12, fs186)), (q1, .inl (cA2, 6000, .inl (fun _ => 0))), (q6, .inl (cA7, 4, .inl (fun _ => 0))), (q9, .inl (cA10, 4, .inl (fun _ => 0))), (q22, .inl (cA23, 6, .inl (fun _ => 0))), (q55, .inl (cA56, 16, .inl (fun _ => 0))), (q168, .inl (cA169, 2, .inl (fun _ => 0)))] := hD
  have hI : xq_I fs186 [.int 0, .ref q1, .int 0, .ref q6, .ref q9, .int 0, .ref q22, .ref q55, .int 0, .int 0, .int 0, .int 0, .int 0, .int 0, .ref q168, .int 0] := hI
  refine lv_aload_n hx hb d_Model_init_766 rfl (lv_at hl 0 rfl) ?_
  refine lv_sipush (v := (nI 3200)) hx hb d_Model_init_767 (by decide) ?_
  refine xw_newO (atype := .int) hx hb (ht _ v_4) hP hS (nI_pos (by decide)) (nI_clamp (by decide)) (by decide) (Nat.le_of_ble_eq_true rfl) (Nat.le_of_ble_eq_true rfl) d_Model_init_770 (fun q187 H hP hS => ?_)
  refine W.widen (k := 91) (n := 568338) (by omega) (by omega) ?_
  refine xm_putF (v := .ref q187) (ty := .array .int) hx hb ht hown hK hP hD hS rfl 143 (by decide) fM_143 (ht _ v_119) hin (by decide +kernel) rfl rfl (by rw [hI.1]; decide) d_Model_init_772 (fun H locs hP hD hS => ?_)
  have hI := xq_put (k := 143) (v := .ref q187) (by decide +kernel) hI
  generalize List.set fs186 143 (.ref q187) = fs188 at hP hD hI
  have hP : va_P (dC, dI) classes [(h0, .inr (12, fs188)), (q1, .inl (cA2, 6000, .inl (fun _ => 0))), (q6, .inl (cA7, 4, .inl (fun _ => 0))), (q9, .inl (cA10, 4, .inl (fun _ => 0))), (q22, .inl (cA23, 6, .inl (fun _ => 0))), (q55, .inl (cA56, 16, .inl (fun _ => 0))), (q168, .inl (cA169, 2, .inl (fun _ => 0)))] H := hP
  have hD : va_D A [(h0, .inr (12, fs188)), (q1, .inl (cA2, 6000, .inl (fun _ => 0))), (q6, .inl (cA7, 4, .inl (fun _ => 0))), (q9, .inl (cA10, 4, .inl (fun _ => 0))), (q22, .inl (cA23, 6, .inl (fun _ => 0))), (q55, .inl (cA56, 16, .inl (fun _ => 0))), (q168, .inl (cA169, 2, .inl (fun _ => 0)))] := hD
  have hI : xq_I fs188 [.int 0, .ref q1, .int 0, .ref q6, .ref q9, .int 0, .ref q22, .ref q55, .int 0, .int 0, .int 0, .int 0, .int 0, .int 0, .ref q168, .int 0] := hI
  refine lv_aload_n hx hb d_Model_init_775 rfl (lv_at hl 0 rfl) ?_
  refine lv_sipush (v := (nI 3200)) hx hb d_Model_init_776 (by decide) ?_
  refine xw_newO (atype := .int) hx hb (ht _ v_4) hP hS (nI_pos (by decide)) (nI_clamp (by decide)) (by decide) (Nat.le_of_ble_eq_true rfl) (Nat.le_of_ble_eq_true rfl) d_Model_init_779 (fun q189 H hP hS => ?_)
  refine W.widen (k := 92) (n := 571538) (by omega) (by omega) ?_
  refine xm_putF (v := .ref q189) (ty := .array .int) hx hb ht hown hK hP hD hS rfl 144 (by decide) fM_144 (ht _ v_120) hin (by decide +kernel) rfl rfl (by rw [hI.1]; decide) d_Model_init_781 (fun H locs hP hD hS => ?_)
  have hI := xq_put (k := 144) (v := .ref q189) (by decide +kernel) hI
  generalize List.set fs188 144 (.ref q189) = fs190 at hP hD hI
  have hP : va_P (dC, dI) classes [(h0, .inr (12, fs190)), (q1, .inl (cA2, 6000, .inl (fun _ => 0))), (q6, .inl (cA7, 4, .inl (fun _ => 0))), (q9, .inl (cA10, 4, .inl (fun _ => 0))), (q22, .inl (cA23, 6, .inl (fun _ => 0))), (q55, .inl (cA56, 16, .inl (fun _ => 0))), (q168, .inl (cA169, 2, .inl (fun _ => 0)))] H := hP
  have hD : va_D A [(h0, .inr (12, fs190)), (q1, .inl (cA2, 6000, .inl (fun _ => 0))), (q6, .inl (cA7, 4, .inl (fun _ => 0))), (q9, .inl (cA10, 4, .inl (fun _ => 0))), (q22, .inl (cA23, 6, .inl (fun _ => 0))), (q55, .inl (cA56, 16, .inl (fun _ => 0))), (q168, .inl (cA169, 2, .inl (fun _ => 0)))] := hD
  have hI : xq_I fs190 [.int 0, .ref q1, .int 0, .ref q6, .ref q9, .int 0, .ref q22, .ref q55, .int 0, .int 0, .int 0, .int 0, .int 0, .int 0, .ref q168, .int 0] := hI
  refine lv_aload_n hx hb d_Model_init_784 rfl (lv_at hl 0 rfl) ?_
  refine lv_sipush (v := (nI 3200)) hx hb d_Model_init_785 (by decide) ?_
  refine xw_newO (atype := .int) hx hb (ht _ v_4) hP hS (nI_pos (by decide)) (nI_clamp (by decide)) (by decide) (Nat.le_of_ble_eq_true rfl) (Nat.le_of_ble_eq_true rfl) d_Model_init_788 (fun q191 H hP hS => ?_)
  refine W.widen (k := 93) (n := 574738) (by omega) (by omega) ?_
  refine xm_putF (v := .ref q191) (ty := .array .int) hx hb ht hown hK hP hD hS rfl 145 (by decide) fM_145 (ht _ v_121) hin (by decide +kernel) rfl rfl (by rw [hI.1]; decide) d_Model_init_790 (fun H locs hP hD hS => ?_)
  have hI := xq_put (k := 145) (v := .ref q191) (by decide +kernel) hI
  generalize List.set fs190 145 (.ref q191) = fs192 at hP hD hI
  have hP : va_P (dC, dI) classes [(h0, .inr (12, fs192)), (q1, .inl (cA2, 6000, .inl (fun _ => 0))), (q6, .inl (cA7, 4, .inl (fun _ => 0))), (q9, .inl (cA10, 4, .inl (fun _ => 0))), (q22, .inl (cA23, 6, .inl (fun _ => 0))), (q55, .inl (cA56, 16, .inl (fun _ => 0))), (q168, .inl (cA169, 2, .inl (fun _ => 0)))] H := hP
  have hD : va_D A [(h0, .inr (12, fs192)), (q1, .inl (cA2, 6000, .inl (fun _ => 0))), (q6, .inl (cA7, 4, .inl (fun _ => 0))), (q9, .inl (cA10, 4, .inl (fun _ => 0))), (q22, .inl (cA23, 6, .inl (fun _ => 0))), (q55, .inl (cA56, 16, .inl (fun _ => 0))), (q168, .inl (cA169, 2, .inl (fun _ => 0)))] := hD
  have hI : xq_I fs192 [.int 0, .ref q1, .int 0, .ref q6, .ref q9, .int 0, .ref q22, .ref q55, .int 0, .int 0, .int 0, .int 0, .int 0, .int 0, .ref q168, .int 0] := hI
  refine lv_aload_n hx hb d_Model_init_793 rfl (lv_at hl 0 rfl) ?_
  refine lv_sipush (v := (nI 3200)) hx hb d_Model_init_794 (by decide) ?_
  refine xw_newO (atype := .int) hx hb (ht _ v_4) hP hS (nI_pos (by decide)) (nI_clamp (by decide)) (by decide) (Nat.le_of_ble_eq_true rfl) (Nat.le_of_ble_eq_true rfl) d_Model_init_797 (fun q193 H hP hS => ?_)
  refine W.widen (k := 94) (n := 577938) (by omega) (by omega) ?_
  refine xm_putF (v := .ref q193) (ty := .array .int) hx hb ht hown hK hP hD hS rfl 146 (by decide) fM_146 (ht _ v_122) hin (by decide +kernel) rfl rfl (by rw [hI.1]; decide) d_Model_init_799 (fun H locs hP hD hS => ?_)
  have hI := xq_put (k := 146) (v := .ref q193) (by decide +kernel) hI
  generalize List.set fs192 146 (.ref q193) = fs194 at hP hD hI
  have hP : va_P (dC, dI) classes [(h0, .inr (12, fs194)), (q1, .inl (cA2, 6000, .inl (fun _ => 0))), (q6, .inl (cA7, 4, .inl (fun _ => 0))), (q9, .inl (cA10, 4, .inl (fun _ => 0))), (q22, .inl (cA23, 6, .inl (fun _ => 0))), (q55, .inl (cA56, 16, .inl (fun _ => 0))), (q168, .inl (cA169, 2, .inl (fun _ => 0)))] H := hP
  have hD : va_D A [(h0, .inr (12, fs194)), (q1, .inl (cA2, 6000, .inl (fun _ => 0))), (q6, .inl (cA7, 4, .inl (fun _ => 0))), (q9, .inl (cA10, 4, .inl (fun _ => 0))), (q22, .inl (cA23, 6, .inl (fun _ => 0))), (q55, .inl (cA56, 16, .inl (fun _ => 0))), (q168, .inl (cA169, 2, .inl (fun _ => 0)))] := hD
  have hI : xq_I fs194 [.int 0, .ref q1, .int 0, .ref q6, .ref q9, .int 0, .ref q22, .ref q55, .int 0, .int 0, .int 0, .int 0, .int 0, .int 0, .ref q168, .int 0] := hI
  refine lv_aload_n hx hb d_Model_init_802 rfl (lv_at hl 0 rfl) ?_
  refine lv_sipush (v := (nI 12000)) hx hb d_Model_init_803 (by decide) ?_
  refine xw_newO (atype := .int) hx hb (ht _ v_4) hP hS (nI_pos (by decide)) (nI_clamp (by decide)) (by decide) (Nat.le_of_ble_eq_true rfl) (Nat.le_of_ble_eq_true rfl) d_Model_init_806 (fun q195 H hP hS => ?_)
  refine W.widen (k := 95) (n := 589938) (by omega) (by omega) ?_
  refine xm_putF (v := .ref q195) (ty := .array .int) hx hb ht hown hK hP hD hS rfl 147 (by decide) fM_147 (ht _ v_123) hin (by decide +kernel) rfl rfl (by rw [hI.1]; decide) d_Model_init_808 (fun H locs hP hD hS => ?_)
  have hI := xq_put (k := 147) (v := .ref q195) (by decide +kernel) hI
  generalize List.set fs194 147 (.ref q195) = fs196 at hP hD hI
  have hP : va_P (dC, dI) classes [(h0, .inr (12, fs196)), (q1, .inl (cA2, 6000, .inl (fun _ => 0))), (q6, .inl (cA7, 4, .inl (fun _ => 0))), (q9, .inl (cA10, 4, .inl (fun _ => 0))), (q22, .inl (cA23, 6, .inl (fun _ => 0))), (q55, .inl (cA56, 16, .inl (fun _ => 0))), (q168, .inl (cA169, 2, .inl (fun _ => 0)))] H := hP
  have hD : va_D A [(h0, .inr (12, fs196)), (q1, .inl (cA2, 6000, .inl (fun _ => 0))), (q6, .inl (cA7, 4, .inl (fun _ => 0))), (q9, .inl (cA10, 4, .inl (fun _ => 0))), (q22, .inl (cA23, 6, .inl (fun _ => 0))), (q55, .inl (cA56, 16, .inl (fun _ => 0))), (q168, .inl (cA169, 2, .inl (fun _ => 0)))] := hD
  have hI : xq_I fs196 [.int 0, .ref q1, .int 0, .ref q6, .ref q9, .int 0, .ref q22, .ref q55, .int 0, .int 0, .int 0, .int 0, .int 0, .int 0, .ref q168, .int 0] := hI
  refine lv_aload_n hx hb d_Model_init_811 rfl (lv_at hl 0 rfl) ?_
  refine lv_sipush (v := (nI 12000)) hx hb d_Model_init_812 (by decide) ?_
  refine xw_newO (atype := .int) hx hb (ht _ v_4) hP hS (nI_pos (by decide)) (nI_clamp (by decide)) (by decide) (Nat.le_of_ble_eq_true rfl) (Nat.le_of_ble_eq_true rfl) d_Model_init_815 (fun q197 H hP hS => ?_)
  refine W.widen (k := 96) (n := 601938) (by omega) (by omega) ?_
  refine xm_putF (v := .ref q197) (ty := .array .int) hx hb ht hown hK hP hD hS rfl 148 (by decide) fM_148 (ht _ v_124) hin (by decide +kernel) rfl rfl (by rw [hI.1]; decide) d_Model_init_817 (fun H locs hP hD hS => ?_)
  have hI := xq_put (k := 148) (v := .ref q197) (by decide +kernel) hI
  generalize List.set fs196 148 (.ref q197) = fs198 at hP hD hI
  have hP : va_P (dC, dI) classes [(h0, .inr (12, fs198)), (q1, .inl (cA2, 6000, .inl (fun _ => 0))), (q6, .inl (cA7, 4, .inl (fun _ => 0))), (q9, .inl (cA10, 4, .inl (fun _ => 0))), (q22, .inl (cA23, 6, .inl (fun _ => 0))), (q55, .inl (cA56, 16, .inl (fun _ => 0))), (q168, .inl (cA169, 2, .inl (fun _ => 0)))] H := hP
  have hD : va_D A [(h0, .inr (12, fs198)), (q1, .inl (cA2, 6000, .inl (fun _ => 0))), (q6, .inl (cA7, 4, .inl (fun _ => 0))), (q9, .inl (cA10, 4, .inl (fun _ => 0))), (q22, .inl (cA23, 6, .inl (fun _ => 0))), (q55, .inl (cA56, 16, .inl (fun _ => 0))), (q168, .inl (cA169, 2, .inl (fun _ => 0)))] := hD
  have hI : xq_I fs198 [.int 0, .ref q1, .int 0, .ref q6, .ref q9, .int 0, .ref q22, .ref q55, .int 0, .int 0, .int 0, .int 0, .int 0, .int 0, .ref q168, .int 0] := hI
  refine lv_aload_n hx hb d_Model_init_820 rfl (lv_at hl 0 rfl) ?_
  refine lv_sipush (v := (nI 20000)) hx hb d_Model_init_821 (by decide) ?_
  refine xw_newO (atype := .byte) hx hb (ht _ v_3) hP hS (nI_pos (by decide)) (nI_clamp (by decide)) (by decide) (Nat.le_of_ble_eq_true rfl) (Nat.le_of_ble_eq_true rfl) d_Model_init_824 (fun q199 H hP hS => ?_)
  refine W.widen (k := 97) (n := 621938) (by omega) (by omega) ?_
  refine xm_putF (v := .ref q199) (ty := .array .byte) hx hb ht hown hK hP hD hS rfl 150 (by decide) fM_150 (ht _ v_126) hin (by decide +kernel) rfl rfl (by rw [hI.1]; decide) d_Model_init_826 (fun H locs hP hD hS => ?_)
  have hI := xq_put (k := 150) (v := .ref q199) (by decide +kernel) hI
  generalize List.set fs198 150 (.ref q199) = fs200 at hP hD hI
  have hP : va_P (dC, dI) classes [(h0, .inr (12, fs200)), (q1, .inl (cA2, 6000, .inl (fun _ => 0))), (q6, .inl (cA7, 4, .inl (fun _ => 0))), (q9, .inl (cA10, 4, .inl (fun _ => 0))), (q22, .inl (cA23, 6, .inl (fun _ => 0))), (q55, .inl (cA56, 16, .inl (fun _ => 0))), (q168, .inl (cA169, 2, .inl (fun _ => 0)))] H := hP
  have hD : va_D A [(h0, .inr (12, fs200)), (q1, .inl (cA2, 6000, .inl (fun _ => 0))), (q6, .inl (cA7, 4, .inl (fun _ => 0))), (q9, .inl (cA10, 4, .inl (fun _ => 0))), (q22, .inl (cA23, 6, .inl (fun _ => 0))), (q55, .inl (cA56, 16, .inl (fun _ => 0))), (q168, .inl (cA169, 2, .inl (fun _ => 0)))] := hD
  have hI : xq_I fs200 [.int 0, .ref q1, .int 0, .ref q6, .ref q9, .int 0, .ref q22, .ref q55, .int 0, .int 0, .int 0, .int 0, .int 0, .int 0, .ref q168, .int 0] := hI
  refine lv_aload_n hx hb d_Model_init_829 rfl (lv_at hl 0 rfl) ?_
  refine lv_iconst (v := (-1)) hx hb d_Model_init_830 (by decide) ?_
  refine xm_put (v := .int (-1)) (ty := .int) hx hb ht hown hK hP hD hS rfl 152 (by decide) fM_152 (ht _ v_127) (by decide +kernel) rfl rfl (by rw [hI.1]; decide) d_Model_init_831 (fun H locs hP hD hS => ?_)
  have hI := xq_put (k := 152) (v := .int (-1)) (by decide +kernel) hI
  generalize List.set fs200 152 (.int (-1)) = fs201 at hP hD hI
  have hP : va_P (dC, dI) classes [(h0, .inr (12, fs201)), (q1, .inl (cA2, 6000, .inl (fun _ => 0))), (q6, .inl (cA7, 4, .inl (fun _ => 0))), (q9, .inl (cA10, 4, .inl (fun _ => 0))), (q22, .inl (cA23, 6, .inl (fun _ => 0))), (q55, .inl (cA56, 16, .inl (fun _ => 0))), (q168, .inl (cA169, 2, .inl (fun _ => 0)))] H := hP
  have hD : va_D A [(h0, .inr (12, fs201)), (q1, .inl (cA2, 6000, .inl (fun _ => 0))), (q6, .inl (cA7, 4, .inl (fun _ => 0))), (q9, .inl (cA10, 4, .inl (fun _ => 0))), (q22, .inl (cA23, 6, .inl (fun _ => 0))), (q55, .inl (cA56, 16, .inl (fun _ => 0))), (q168, .inl (cA169, 2, .inl (fun _ => 0)))] := hD
  have hI : xq_I fs201 [.int 0, .ref q1, .int 0, .ref q6, .ref q9, .int 0, .ref q22, .ref q55, .int 0, .int 0, .int 0, .int 0, .int 0, .int 0, .ref q168, .int 0] := hI
  refine lv_aload_n hx hb d_Model_init_834 rfl (lv_at hl 0 rfl) ?_
  refine lv_iconst (v := (-1)) hx hb d_Model_init_835 (by decide) ?_
  refine xm_put (v := .int (-1)) (ty := .int) hx hb ht hown hK hP hD hS rfl 153 (by decide) fM_153 (ht _ v_128) (by decide +kernel) rfl rfl (by rw [hI.1]; decide) d_Model_init_836 (fun H locs hP hD hS => ?_)
  have hI := xq_put (k := 153) (v := .int (-1)) (by decide +kernel) hI
  generalize List.set fs201 153 (.int (-1)) = fs202 at hP hD hI
  have hP : va_P (dC, dI) classes [(h0, .inr (12, fs202)), (q1, .inl (cA2, 6000, .inl (fun _ => 0))), (q6, .inl (cA7, 4, .inl (fun _ => 0))), (q9, .inl (cA10, 4, .inl (fun _ => 0))), (q22, .inl (cA23, 6, .inl (fun _ => 0))), (q55, .inl (cA56, 16, .inl (fun _ => 0))), (q168, .inl (cA169, 2, .inl (fun _ => 0)))] H := hP
  have hD : va_D A [(h0, .inr (12, fs202)), (q1, .inl (cA2, 6000, .inl (fun _ => 0))), (q6, .inl (cA7, 4, .inl (fun _ => 0))), (q9, .inl (cA10, 4, .inl (fun _ => 0))), (q22, .inl (cA23, 6, .inl (fun _ => 0))), (q55, .inl (cA56, 16, .inl (fun _ => 0))), (q168, .inl (cA169, 2, .inl (fun _ => 0)))] := hD
  have hI : xq_I fs202 [.int 0, .ref q1, .int 0, .ref q6, .ref q9, .int 0, .ref q22, .ref q55, .int 0, .int 0, .int 0, .int 0, .int 0, .int 0, .ref q168, .int 0] := hI
  refine lv_aload_n hx hb d_Model_init_839 rfl (lv_at hl 0 rfl) ?_
  refine lv_bipush (v := (nI 20)) hx hb d_Model_init_840 (by decide) ?_
  refine xw_newO (atype := .int) hx hb (ht _ v_4) hP hS (nI_pos (by decide)) (nI_clamp (by decide)) (by decide) (Nat.le_of_ble_eq_true rfl) (Nat.le_of_ble_eq_true rfl) d_Model_init_842 (fun q203 H hP hS => ?_)
  refine W.widen (k := 98) (n := 621958) (by omega) (by omega) ?_
  refine xm_putF (v := .ref q203) (ty := .array .int) hx hb ht hown hK hP hD hS rfl 161 (by decide) fM_161 (ht _ v_129) hin (by decide +kernel) rfl rfl (by rw [hI.1]; decide) d_Model_init_844 (fun H locs hP hD hS => ?_)
  have hI := xq_put (k := 161) (v := .ref q203) (by decide +kernel) hI
  generalize List.set fs202 161 (.ref q203) = fs204 at hP hD hI
  have hP : va_P (dC, dI) classes [(h0, .inr (12, fs204)), (q1, .inl (cA2, 6000, .inl (fun _ => 0))), (q6, .inl (cA7, 4, .inl (fun _ => 0))), (q9, .inl (cA10, 4, .inl (fun _ => 0))), (q22, .inl (cA23, 6, .inl (fun _ => 0))), (q55, .inl (cA56, 16, .inl (fun _ => 0))), (q168, .inl (cA169, 2, .inl (fun _ => 0)))] H := hP
  have hD : va_D A [(h0, .inr (12, fs204)), (q1, .inl (cA2, 6000, .inl (fun _ => 0))), (q6, .inl (cA7, 4, .inl (fun _ => 0))), (q9, .inl (cA10, 4, .inl (fun _ => 0))), (q22, .inl (cA23, 6, .inl (fun _ => 0))), (q55, .inl (cA56, 16, .inl (fun _ => 0))), (q168, .inl (cA169, 2, .inl (fun _ => 0)))] := hD
  have hI : xq_I fs204 [.int 0, .ref q1, .int 0, .ref q6, .ref q9, .int 0, .ref q22, .ref q55, .int 0, .int 0, .int 0, .int 0, .int 0, .int 0, .ref q168, .int 0] := hI
  refine lv_aload_n hx hb d_Model_init_847 rfl (lv_at hl 0 rfl) ?_
  refine lv_bipush (v := (nI 20)) hx hb d_Model_init_848 (by decide) ?_
  refine xw_newO (atype := .boolean) hx hb (ht _ v_137) hP hS (nI_pos (by decide)) (nI_clamp (by decide)) (by decide) (Nat.le_of_ble_eq_true rfl) (Nat.le_of_ble_eq_true rfl) d_Model_init_850 (fun q205 H hP hS => ?_)
  refine W.widen (k := 99) (n := 621978) (by omega) (by omega) ?_
  refine xm_putF (v := .ref q205) (ty := .array .boolean) hx hb ht hown hK hP hD hS rfl 165 (by decide) fM_165 (ht _ v_130) hin (by decide +kernel) rfl rfl (by rw [hI.1]; decide) d_Model_init_852 (fun H locs hP hD hS => ?_)
  have hI := xq_put (k := 165) (v := .ref q205) (by decide +kernel) hI
  generalize List.set fs204 165 (.ref q205) = fs206 at hP hD hI
  have hP : va_P (dC, dI) classes [(h0, .inr (12, fs206)), (q1, .inl (cA2, 6000, .inl (fun _ => 0))), (q6, .inl (cA7, 4, .inl (fun _ => 0))), (q9, .inl (cA10, 4, .inl (fun _ => 0))), (q22, .inl (cA23, 6, .inl (fun _ => 0))), (q55, .inl (cA56, 16, .inl (fun _ => 0))), (q168, .inl (cA169, 2, .inl (fun _ => 0)))] H := hP
  have hD : va_D A [(h0, .inr (12, fs206)), (q1, .inl (cA2, 6000, .inl (fun _ => 0))), (q6, .inl (cA7, 4, .inl (fun _ => 0))), (q9, .inl (cA10, 4, .inl (fun _ => 0))), (q22, .inl (cA23, 6, .inl (fun _ => 0))), (q55, .inl (cA56, 16, .inl (fun _ => 0))), (q168, .inl (cA169, 2, .inl (fun _ => 0)))] := hD
  have hI : xq_I fs206 [.int 0, .ref q1, .int 0, .ref q6, .ref q9, .int 0, .ref q22, .ref q55, .int 0, .int 0, .int 0, .int 0, .int 0, .int 0, .ref q168, .int 0] := hI
  refine lv_aload_n hx hb d_Model_init_855 rfl (lv_at hl 0 rfl) ?_
  refine lv_bipush (v := (nI 20)) hx hb d_Model_init_856 (by decide) ?_
  refine xw_newO (atype := .int) hx hb (ht _ v_4) hP hS (nI_pos (by decide)) (nI_clamp (by decide)) (by decide) (Nat.le_of_ble_eq_true rfl) (Nat.le_of_ble_eq_true rfl) d_Model_init_858 (fun q207 H hP hS => ?_)
  refine W.widen (k := 100) (n := 621998) (by omega) (by omega) ?_
  refine xm_putF (v := .ref q207) (ty := .array .int) hx hb ht hown hK hP hD hS rfl 166 (by decide) fM_166 (ht _ v_131) hin (by decide +kernel) rfl rfl (by rw [hI.1]; decide) d_Model_init_860 (fun H locs hP hD hS => ?_)
  have hI := xq_put (k := 166) (v := .ref q207) (by decide +kernel) hI
  generalize List.set fs206 166 (.ref q207) = fs208 at hP hD hI
  have hP : va_P (dC, dI) classes [(h0, .inr (12, fs208)), (q1, .inl (cA2, 6000, .inl (fun _ => 0))), (q6, .inl (cA7, 4, .inl (fun _ => 0))), (q9, .inl (cA10, 4, .inl (fun _ => 0))), (q22, .inl (cA23, 6, .inl (fun _ => 0))), (q55, .inl (cA56, 16, .inl (fun _ => 0))), (q168, .inl (cA169, 2, .inl (fun _ => 0)))] H := hP
  have hD : va_D A [(h0, .inr (12, fs208)), (q1, .inl (cA2, 6000, .inl (fun _ => 0))), (q6, .inl (cA7, 4, .inl (fun _ => 0))), (q9, .inl (cA10, 4, .inl (fun _ => 0))), (q22, .inl (cA23, 6, .inl (fun _ => 0))), (q55, .inl (cA56, 16, .inl (fun _ => 0))), (q168, .inl (cA169, 2, .inl (fun _ => 0)))] := hD
  have hI : xq_I fs208 [.int 0, .ref q1, .int 0, .ref q6, .ref q9, .int 0, .ref q22, .ref q55, .int 0, .int 0, .int 0, .int 0, .int 0, .int 0, .ref q168, .int 0] := hI
  refine lv_aload_n hx hb d_Model_init_863 rfl (lv_at hl 0 rfl) ?_
  refine lv_bipush (v := (nI 20)) hx hb d_Model_init_864 (by decide) ?_
  refine xw_newO (atype := .boolean) hx hb (ht _ v_137) hP hS (nI_pos (by decide)) (nI_clamp (by decide)) (by decide) (Nat.le_of_ble_eq_true rfl) (Nat.le_of_ble_eq_true rfl) d_Model_init_866 (fun q209 H hP hS => ?_)
  refine W.widen (k := 101) (n := 622018) (by omega) (by omega) ?_
  refine xm_putF (v := .ref q209) (ty := .array .boolean) hx hb ht hown hK hP hD hS rfl 167 (by decide) fM_167 (ht _ v_132) hin (by decide +kernel) rfl rfl (by rw [hI.1]; decide) d_Model_init_868 (fun H locs hP hD hS => ?_)
  have hI := xq_put (k := 167) (v := .ref q209) (by decide +kernel) hI
  generalize List.set fs208 167 (.ref q209) = fs210 at hP hD hI
  have hP : va_P (dC, dI) classes [(h0, .inr (12, fs210)), (q1, .inl (cA2, 6000, .inl (fun _ => 0))), (q6, .inl (cA7, 4, .inl (fun _ => 0))), (q9, .inl (cA10, 4, .inl (fun _ => 0))), (q22, .inl (cA23, 6, .inl (fun _ => 0))), (q55, .inl (cA56, 16, .inl (fun _ => 0))), (q168, .inl (cA169, 2, .inl (fun _ => 0)))] H := hP
  have hD : va_D A [(h0, .inr (12, fs210)), (q1, .inl (cA2, 6000, .inl (fun _ => 0))), (q6, .inl (cA7, 4, .inl (fun _ => 0))), (q9, .inl (cA10, 4, .inl (fun _ => 0))), (q22, .inl (cA23, 6, .inl (fun _ => 0))), (q55, .inl (cA56, 16, .inl (fun _ => 0))), (q168, .inl (cA169, 2, .inl (fun _ => 0)))] := hD
  have hI : xq_I fs210 [.int 0, .ref q1, .int 0, .ref q6, .ref q9, .int 0, .ref q22, .ref q55, .int 0, .int 0, .int 0, .int 0, .int 0, .int 0, .ref q168, .int 0] := hI
  refine lv_aload_n hx hb d_Model_init_871 rfl (lv_at hl 0 rfl) ?_
  refine lv_iconst (v := (nI 4)) hx hb d_Model_init_872 (by decide) ?_
  refine xw_newO (atype := .int) hx hb (ht _ v_4) hP hS (nI_pos (by decide)) (nI_clamp (by decide)) (by decide) (Nat.le_of_ble_eq_true rfl) (Nat.le_of_ble_eq_true rfl) d_Model_init_873 (fun q211 H hP hS => ?_)
  refine W.widen (k := 102) (n := 622022) (by omega) (by omega) ?_
  refine xm_putF (v := .ref q211) (ty := .array .int) hx hb ht hown hK hP hD hS rfl 169 (by decide) fM_169 (ht _ v_133) hin (by decide +kernel) rfl rfl (by rw [hI.1]; decide) d_Model_init_875 (fun H locs hP hD hS => ?_)
  have hI := xq_put (k := 169) (v := .ref q211) (by decide +kernel) hI
  generalize List.set fs210 169 (.ref q211) = fs212 at hP hD hI
  have hP : va_P (dC, dI) classes [(h0, .inr (12, fs212)), (q1, .inl (cA2, 6000, .inl (fun _ => 0))), (q6, .inl (cA7, 4, .inl (fun _ => 0))), (q9, .inl (cA10, 4, .inl (fun _ => 0))), (q22, .inl (cA23, 6, .inl (fun _ => 0))), (q55, .inl (cA56, 16, .inl (fun _ => 0))), (q168, .inl (cA169, 2, .inl (fun _ => 0)))] H := hP
  have hD : va_D A [(h0, .inr (12, fs212)), (q1, .inl (cA2, 6000, .inl (fun _ => 0))), (q6, .inl (cA7, 4, .inl (fun _ => 0))), (q9, .inl (cA10, 4, .inl (fun _ => 0))), (q22, .inl (cA23, 6, .inl (fun _ => 0))), (q55, .inl (cA56, 16, .inl (fun _ => 0))), (q168, .inl (cA169, 2, .inl (fun _ => 0)))] := hD
  have hI : xq_I fs212 [.int 0, .ref q1, .int 0, .ref q6, .ref q9, .int 0, .ref q22, .ref q55, .int 0, .int 0, .int 0, .int 0, .int 0, .int 0, .ref q168, .int 0] := hI
  refine lv_aload_n hx hb d_Model_init_878 rfl (lv_at hl 0 rfl) ?_
  refine lv_sipush (v := (nI 6000)) hx hb d_Model_init_879 (by decide) ?_
  refine xw_newO (atype := .byte) hx hb (ht _ v_3) hP hS (nI_pos (by decide)) (nI_clamp (by decide)) (by decide) (Nat.le_of_ble_eq_true rfl) (Nat.le_of_ble_eq_true rfl) d_Model_init_882 (fun q213 H hP hS => ?_)
  refine W.widen (k := 103) (n := 628022) (by omega) (by omega) ?_
  refine xm_putF (v := .ref q213) (ty := .array .byte) hx hb ht hown hK hP hD hS rfl 173 (by decide) fM_173 (ht _ v_134) hin (by decide +kernel) rfl rfl (by rw [hI.1]; decide) d_Model_init_884 (fun H locs hP hD hS => ?_)
  have hI := xq_put (k := 173) (v := .ref q213) (by decide +kernel) hI
  generalize List.set fs212 173 (.ref q213) = fs214 at hP hD hI
  have hP : va_P (dC, dI) classes [(h0, .inr (12, fs214)), (q1, .inl (cA2, 6000, .inl (fun _ => 0))), (q6, .inl (cA7, 4, .inl (fun _ => 0))), (q9, .inl (cA10, 4, .inl (fun _ => 0))), (q22, .inl (cA23, 6, .inl (fun _ => 0))), (q55, .inl (cA56, 16, .inl (fun _ => 0))), (q168, .inl (cA169, 2, .inl (fun _ => 0)))] H := hP
  have hD : va_D A [(h0, .inr (12, fs214)), (q1, .inl (cA2, 6000, .inl (fun _ => 0))), (q6, .inl (cA7, 4, .inl (fun _ => 0))), (q9, .inl (cA10, 4, .inl (fun _ => 0))), (q22, .inl (cA23, 6, .inl (fun _ => 0))), (q55, .inl (cA56, 16, .inl (fun _ => 0))), (q168, .inl (cA169, 2, .inl (fun _ => 0)))] := hD
  have hI : xq_I fs214 [.int 0, .ref q1, .int 0, .ref q6, .ref q9, .int 0, .ref q22, .ref q55, .int 0, .int 0, .int 0, .int 0, .int 0, .int 0, .ref q168, .int 0] := hI
  refine lv_aload_n hx hb d_Model_init_887 rfl (lv_at hl 0 rfl) ?_
  refine lv_sipush (v := (nI 6000)) hx hb d_Model_init_888 (by decide) ?_
  refine xw_newO (atype := .int) hx hb (ht _ v_4) hP hS (nI_pos (by decide)) (nI_clamp (by decide)) (by decide) (Nat.le_of_ble_eq_true rfl) (Nat.le_of_ble_eq_true rfl) d_Model_init_891 (fun q215 H hP hS => ?_)
  refine W.widen (k := 104) (n := 634022) (by omega) (by omega) ?_
  refine xm_putF (v := .ref q215) (ty := .array .int) hx hb ht hown hK hP hD hS rfl 175 (by decide) fM_175 (ht _ v_135) hin (by decide +kernel) rfl rfl (by rw [hI.1]; decide) d_Model_init_893 (fun H locs hP hD hS => ?_)
  have hI := xq_put (k := 175) (v := .ref q215) (by decide +kernel) hI
  generalize List.set fs214 175 (.ref q215) = fs216 at hP hD hI
  have hP : va_P (dC, dI) classes [(h0, .inr (12, fs216)), (q1, .inl (cA2, 6000, .inl (fun _ => 0))), (q6, .inl (cA7, 4, .inl (fun _ => 0))), (q9, .inl (cA10, 4, .inl (fun _ => 0))), (q22, .inl (cA23, 6, .inl (fun _ => 0))), (q55, .inl (cA56, 16, .inl (fun _ => 0))), (q168, .inl (cA169, 2, .inl (fun _ => 0)))] H := hP
  have hD : va_D A [(h0, .inr (12, fs216)), (q1, .inl (cA2, 6000, .inl (fun _ => 0))), (q6, .inl (cA7, 4, .inl (fun _ => 0))), (q9, .inl (cA10, 4, .inl (fun _ => 0))), (q22, .inl (cA23, 6, .inl (fun _ => 0))), (q55, .inl (cA56, 16, .inl (fun _ => 0))), (q168, .inl (cA169, 2, .inl (fun _ => 0)))] := hD
  have hI : xq_I fs216 [.int 0, .ref q1, .int 0, .ref q6, .ref q9, .int 0, .ref q22, .ref q55, .int 0, .int 0, .int 0, .int 0, .int 0, .int 0, .ref q168, .int 0] := hI
  refine lv_aload_n hx hb d_Model_init_896 rfl (lv_at hl 0 rfl) ?_
  refine lv_sipush (v := (nI 4000)) hx hb d_Model_init_897 (by decide) ?_
  refine xw_newO (atype := .int) hx hb (ht _ v_4) hP hS (nI_pos (by decide)) (nI_clamp (by decide)) (by decide) (Nat.le_of_ble_eq_true rfl) (Nat.le_of_ble_eq_true rfl) d_Model_init_900 (fun q217 H hP hS => ?_)
  refine W.widen (k := 105) (n := 638022) (by omega) (by omega) ?_
  refine xm_putF (v := .ref q217) (ty := .array .int) hx hb ht hown hK hP hD hS rfl 176 (by decide) fM_176 (ht _ v_136) hin (by decide +kernel) rfl rfl (by rw [hI.1]; decide) d_Model_init_902 (fun H locs hP hD hS => ?_)
  have hI := xq_put (k := 176) (v := .ref q217) (by decide +kernel) hI
  generalize List.set fs216 176 (.ref q217) = fs218 at hP hD hI
  have hP : va_P (dC, dI) classes [(h0, .inr (12, fs218)), (q1, .inl (cA2, 6000, .inl (fun _ => 0))), (q6, .inl (cA7, 4, .inl (fun _ => 0))), (q9, .inl (cA10, 4, .inl (fun _ => 0))), (q22, .inl (cA23, 6, .inl (fun _ => 0))), (q55, .inl (cA56, 16, .inl (fun _ => 0))), (q168, .inl (cA169, 2, .inl (fun _ => 0)))] H := hP
  have hD : va_D A [(h0, .inr (12, fs218)), (q1, .inl (cA2, 6000, .inl (fun _ => 0))), (q6, .inl (cA7, 4, .inl (fun _ => 0))), (q9, .inl (cA10, 4, .inl (fun _ => 0))), (q22, .inl (cA23, 6, .inl (fun _ => 0))), (q55, .inl (cA56, 16, .inl (fun _ => 0))), (q168, .inl (cA169, 2, .inl (fun _ => 0)))] := hD
  have hI : xq_I fs218 [.int 0, .ref q1, .int 0, .ref q6, .ref q9, .int 0, .ref q22, .ref q55, .int 0, .int 0, .int 0, .int 0, .int 0, .int 0, .ref q168, .int 0] := hI
  obtain ⟨hP, hD⟩ := xn_cell (D := (dC, dI)) (ci := 12) (cj := 13) (gs := [.int 0, .ref q1, .int 0, .ref q6, .ref q9, .int 0, .ref q22, .ref q55, .int 0, .int 0, .int 0, .int 0, .int 0, .int 0, .ref q168, .int 0]) (ix := ixM) hP hD 0 rfl rfl rfl hN.1 ixM_lt (fun k hk => (hI.2 k hk).symm)
  have hP : va_P (dC, dI) classes [(h0, .inr (13, [.int 0, .ref q1, .int 0, .ref q6, .ref q9, .int 0, .ref q22, .ref q55, .int 0, .int 0, .int 0, .int 0, .int 0, .int 0, .ref q168, .int 0])), (q1, .inl (cA2, 6000, .inl (fun _ => 0))), (q6, .inl (cA7, 4, .inl (fun _ => 0))), (q9, .inl (cA10, 4, .inl (fun _ => 0))), (q22, .inl (cA23, 6, .inl (fun _ => 0))), (q55, .inl (cA56, 16, .inl (fun _ => 0))), (q168, .inl (cA169, 2, .inl (fun _ => 0)))] H := hP
  have hD : va_D A [(h0, .inr (13, [.int 0, .ref q1, .int 0, .ref q6, .ref q9, .int 0, .ref q22, .ref q55, .int 0, .int 0, .int 0, .int 0, .int 0, .int 0, .ref q168, .int 0])), (q1, .inl (cA2, 6000, .inl (fun _ => 0))), (q6, .inl (cA7, 4, .inl (fun _ => 0))), (q9, .inl (cA10, 4, .inl (fun _ => 0))), (q22, .inl (cA23, 6, .inl (fun _ => 0))), (q55, .inl (cA56, 16, .inl (fun _ => 0))), (q168, .inl (cA169, 2, .inl (fun _ => 0)))] := hD
  have hP9 := hP.sub (ws' := [(h0, .inr (13, [.int 0, .ref q1, .int 0, .ref q6, .ref q9, .int 0, .ref q22, .ref q55, .int 0, .int 0, .int 0, .int 0, .int 0, .int 0, .ref q168, .int 0])), (q1, .inl (cA2, 6000, .inl (fun _ => 0))), (q6, .inl (cA7, 4, .inl (fun _ => 0))), (q9, .inl (cA10, 4, .inl (fun _ => 0))), (q22, .inl (cA23, 6, .inl (fun _ => 0))), (q55, .inl (cA56, 16, .inl (fun _ => 0))), (q168, .inl (cA169, 2, .inl (fun _ => 0)))]) [0, 1, 2, 3, 4, 5, 6] rfl
  have hD9 := hD.sub (ws' := [(h0, .inr (13, [.int 0, .ref q1, .int 0, .ref q6, .ref q9, .int 0, .ref q22, .ref q55, .int 0, .int 0, .int 0, .int 0, .int 0, .int 0, .ref q168, .int 0])), (q1, .inl (cA2, 6000, .inl (fun _ => 0))), (q6, .inl (cA7, 4, .inl (fun _ => 0))), (q9, .inl (cA10, 4, .inl (fun _ => 0))), (q22, .inl (cA23, 6, .inl (fun _ => 0))), (q55, .inl (cA56, 16, .inl (fun _ => 0))), (q168, .inl (cA169, 2, .inl (fun _ => 0)))]) [0, 1, 2, 3, 4, 5, 6] (by decide +kernel) rfl
  have hK9 := hK.sub (tys' := [(cA2, .byte), (cA7, .int), (cA10, .boolean), (cA23, .boolean), (cA56, .boolean), (cA169, .int)]) [0, 1, 2, 3, 4, 5] rfl
  exact W.vret hx hb hr (fun t ht9 hW => ⟨⟨(), rfl, trivial, q1, q6, q9, q22, q55, q168, cA2, cA7, cA10, cA23, cA56, cA169, by rw [ht9]; exact hP9, va_K.moved hW.alike hK9, hD9⟩, hS.F ht9⟩) hS.2.2 d_Model_init_905
