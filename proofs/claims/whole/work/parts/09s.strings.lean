set_option maxHeartbeats 4000000
theorem dJ0_length_8abf5_0 : decode cJ0_length_8abf5 0 = .ok (.aload_n 0, 1) := by decide +kernel
theorem dJ0_length_8abf5_1 : decode cJ0_length_8abf5 1 = .ok (.getfield 9, 3) := by decide +kernel
theorem dJ0_length_8abf5_4 : decode cJ0_length_8abf5 4 = .ok (.arraylength, 1) := by decide +kernel
theorem dJ0_length_8abf5_5 : decode cJ0_length_8abf5 5 = .ok (.aload_n 0, 1) := by decide +kernel
theorem dJ0_length_8abf5_6 : decode cJ0_length_8abf5 6 = .ok (.invokevirtual 335, 3) := by decide +kernel
theorem dJ0_length_8abf5_9 : decode cJ0_length_8abf5 9 = .ok (.ishr, 1) := by decide +kernel
theorem dJ0_length_8abf5_10 : decode cJ0_length_8abf5 10 = .ok (.ireturn, 1) := by decide +kernel
theorem zy_J0_length_8abf5 : zYv yJ0_length_8abf5 cJ0_length_8abf5 1 (some .int) 0 := ⟨zw_692, zw_693, zw_16, zw_694, by decide, by decide, by decide⟩
theorem dJ0_charAt_5068e_0 : decode cJ0_charAt_5068e 0 = .ok (.aload_n 0, 1) := by decide +kernel
theorem dJ0_charAt_5068e_1 : decode cJ0_charAt_5068e 1 = .ok (.invokevirtual 492, 3) := by decide +kernel
theorem dJ0_charAt_5068e_4 : decode cJ0_charAt_5068e 4 = .ok (.ifCond .eq 12, 3) := by decide +kernel
theorem dJ0_charAt_5068e_7 : decode cJ0_charAt_5068e 7 = .ok (.aload_n 0, 1) := by decide +kernel
theorem dJ0_charAt_5068e_8 : decode cJ0_charAt_5068e 8 = .ok (.getfield 9, 3) := by decide +kernel
theorem dJ0_charAt_5068e_11 : decode cJ0_charAt_5068e 11 = .ok (.iload_n 1, 1) := by decide +kernel
theorem dJ0_charAt_5068e_12 : decode cJ0_charAt_5068e 12 = .ok (.invokestatic 495, 3) := by decide +kernel
theorem dJ0_charAt_5068e_15 : decode cJ0_charAt_5068e 15 = .ok (.ireturn, 1) := by decide +kernel
theorem dJ0_charAt_5068e_16 : decode cJ0_charAt_5068e 16 = .ok (.aload_n 0, 1) := by decide +kernel
theorem dJ0_charAt_5068e_17 : decode cJ0_charAt_5068e 17 = .ok (.getfield 9, 3) := by decide +kernel
theorem dJ0_charAt_5068e_20 : decode cJ0_charAt_5068e 20 = .ok (.iload_n 1, 1) := by decide +kernel
theorem dJ0_charAt_5068e_21 : decode cJ0_charAt_5068e 21 = .ok (.invokestatic 498, 3) := by decide +kernel
theorem dJ0_charAt_5068e_24 : decode cJ0_charAt_5068e 24 = .ok (.ireturn, 1) := by decide +kernel
theorem zy_J0_charAt_5068e : zYv yJ0_charAt_5068e cJ0_charAt_5068e 2 (some .char) 1 := ⟨zw_702, zw_703, zw_16, zw_704, by decide, by decide, by decide⟩
theorem dJ0_coder_7d493_0 : decode cJ0_coder_7d493 0 = .ok (.getstatic 38, 3) := by decide +kernel
theorem dJ0_coder_7d493_3 : decode cJ0_coder_7d493 3 = .ok (.ifCond .eq 10, 3) := by decide +kernel
theorem dJ0_coder_7d493_6 : decode cJ0_coder_7d493 6 = .ok (.aload_n 0, 1) := by decide +kernel
theorem dJ0_coder_7d493_7 : decode cJ0_coder_7d493 7 = .ok (.getfield 15, 3) := by decide +kernel
theorem dJ0_coder_7d493_10 : decode cJ0_coder_7d493 10 = .ok (.goto 4, 3) := by decide +kernel
theorem dJ0_coder_7d493_13 : decode cJ0_coder_7d493 13 = .ok (.iconst 1, 1) := by decide +kernel
theorem dJ0_coder_7d493_14 : decode cJ0_coder_7d493 14 = .ok (.ireturn, 1) := by decide +kernel
theorem zy_J0_coder_7d493 : zYv yJ0_coder_7d493 cJ0_coder_7d493 1 (some .byte) 0 := ⟨zw_696, zw_697, zw_16, zw_698, by decide, by decide, by decide⟩
theorem dJ0_isLatin1_aae02_0 : decode cJ0_isLatin1_aae02 0 = .ok (.getstatic 38, 3) := by decide +kernel
theorem dJ0_isLatin1_aae02_3 : decode cJ0_isLatin1_aae02 3 = .ok (.ifCond .eq 14, 3) := by decide +kernel
theorem dJ0_isLatin1_aae02_6 : decode cJ0_isLatin1_aae02 6 = .ok (.aload_n 0, 1) := by decide +kernel
theorem dJ0_isLatin1_aae02_7 : decode cJ0_isLatin1_aae02 7 = .ok (.getfield 15, 3) := by decide +kernel
theorem dJ0_isLatin1_aae02_10 : decode cJ0_isLatin1_aae02 10 = .ok (.ifCond .ne 7, 3) := by decide +kernel
theorem dJ0_isLatin1_aae02_13 : decode cJ0_isLatin1_aae02 13 = .ok (.iconst 1, 1) := by decide +kernel
theorem dJ0_isLatin1_aae02_14 : decode cJ0_isLatin1_aae02 14 = .ok (.goto 4, 3) := by decide +kernel
theorem dJ0_isLatin1_aae02_17 : decode cJ0_isLatin1_aae02 17 = .ok (.iconst 0, 1) := by decide +kernel
theorem dJ0_isLatin1_aae02_18 : decode cJ0_isLatin1_aae02 18 = .ok (.ireturn, 1) := by decide +kernel
theorem zy_J0_isLatin1_aae02 : zYv yJ0_isLatin1_aae02 cJ0_isLatin1_aae02 1 (some .boolean) 0 := ⟨zw_706, zw_707, zw_16, zw_708, by decide, by decide, by decide⟩
theorem dJ0_checkIndex_df160_0 : decode cJ0_checkIndex_df160 0 = .ok (.iload_n 0, 1) := by decide +kernel
theorem dJ0_checkIndex_df160_1 : decode cJ0_checkIndex_df160 1 = .ok (.iload_n 1, 1) := by decide +kernel
theorem dJ0_checkIndex_df160_2 : decode cJ0_checkIndex_df160 2 = .ok (.getstatic 1053, 3) := by decide +kernel
theorem dJ0_checkIndex_df160_5 : decode cJ0_checkIndex_df160 5 = .ok (.invokestatic 1059, 3) := by decide +kernel
theorem dJ0_checkIndex_df160_8 : decode cJ0_checkIndex_df160 8 = .ok (.pop, 1) := by decide +kernel
theorem dJ0_checkIndex_df160_9 : decode cJ0_checkIndex_df160 9 = .ok (.return_, 1) := by decide +kernel
theorem zy_J0_checkIndex_df160 : zYs yJ0_checkIndex_df160 cJ0_checkIndex_df160 2 none 2 := ⟨zw_713, zw_16, zw_714, by decide, by decide, by decide⟩
theorem dJ1_charAt_3b067_0 : decode cJ1_charAt_3b067 0 = .ok (.iload_n 1, 1) := by decide +kernel
theorem dJ1_charAt_3b067_1 : decode cJ1_charAt_3b067 1 = .ok (.aload_n 0, 1) := by decide +kernel
theorem dJ1_charAt_3b067_2 : decode cJ1_charAt_3b067 2 = .ok (.arraylength, 1) := by decide +kernel
theorem dJ1_charAt_3b067_3 : decode cJ1_charAt_3b067 3 = .ok (.invokestatic 9, 3) := by decide +kernel
theorem dJ1_charAt_3b067_6 : decode cJ1_charAt_3b067 6 = .ok (.aload_n 0, 1) := by decide +kernel
theorem dJ1_charAt_3b067_7 : decode cJ1_charAt_3b067 7 = .ok (.iload_n 1, 1) := by decide +kernel
theorem dJ1_charAt_3b067_8 : decode cJ1_charAt_3b067 8 = .ok (.baload, 1) := by decide +kernel
theorem dJ1_charAt_3b067_9 : decode cJ1_charAt_3b067 9 = .ok (.sipush 255, 3) := by decide +kernel
theorem dJ1_charAt_3b067_12 : decode cJ1_charAt_3b067 12 = .ok (.iand, 1) := by decide +kernel
theorem dJ1_charAt_3b067_13 : decode cJ1_charAt_3b067 13 = .ok (.i2c, 1) := by decide +kernel
theorem dJ1_charAt_3b067_14 : decode cJ1_charAt_3b067 14 = .ok (.ireturn, 1) := by decide +kernel
theorem zy_J1_charAt_3b067 : zYs yJ1_charAt_3b067 cJ1_charAt_3b067 2 (some .char) 2 := ⟨zw_710, zw_17, zw_711, by decide, by decide, by decide⟩
theorem dJ3_checkIndex_8e157_0 : decode cJ3_checkIndex_8e157 0 = .ok (.iload_n 0, 1) := by decide +kernel
theorem dJ3_checkIndex_8e157_1 : decode cJ3_checkIndex_8e157 1 = .ok (.ifCond .lt 8, 3) := by decide +kernel
theorem dJ3_checkIndex_8e157_4 : decode cJ3_checkIndex_8e157 4 = .ok (.iload_n 0, 1) := by decide +kernel
theorem dJ3_checkIndex_8e157_5 : decode cJ3_checkIndex_8e157 5 = .ok (.iload_n 1, 1) := by decide +kernel
theorem dJ3_checkIndex_8e157_6 : decode cJ3_checkIndex_8e157 6 = .ok (.if_icmp .lt 10, 3) := by decide +kernel
theorem dJ3_checkIndex_8e157_9 : decode cJ3_checkIndex_8e157 9 = .ok (.aload_n 2, 1) := by decide +kernel
theorem dJ3_checkIndex_8e157_10 : decode cJ3_checkIndex_8e157 10 = .ok (.iload_n 0, 1) := by decide +kernel
theorem dJ3_checkIndex_8e157_11 : decode cJ3_checkIndex_8e157 11 = .ok (.iload_n 1, 1) := by decide +kernel
theorem dJ3_checkIndex_8e157_12 : decode cJ3_checkIndex_8e157 12 = .ok (.invokestatic 95, 3) := by decide +kernel
theorem dJ3_checkIndex_8e157_15 : decode cJ3_checkIndex_8e157 15 = .ok (.athrow, 1) := by decide +kernel
theorem dJ3_checkIndex_8e157_16 : decode cJ3_checkIndex_8e157 16 = .ok (.iload_n 0, 1) := by decide +kernel
theorem dJ3_checkIndex_8e157_17 : decode cJ3_checkIndex_8e157 17 = .ok (.ireturn, 1) := by decide +kernel
theorem zy_J3_checkIndex_8e157 : zYs yJ3_checkIndex_8e157 cJ3_checkIndex_8e157 3 (some .int) 3 := ⟨zw_718, zw_18, zw_719, by decide, by decide, by decide⟩
theorem zb_sgetv {C : zC} {own : String} {cc : ByteArray} {n : Nat} {ret : Option FieldType} {rm : Room} {cs : Nat × Nat} {pc : Nat} {lv : List (Nat × Value)} {st : List Value} {S : zS} (E : zE C own cc n ret rm) {i : Nat} (hi : i < 21) {index : Nat} (hw : Cond.fieldLink own index "java/lang/String" "value" "[B" ∈ zT) (d : decode cc pc = .ok (.getfield index, 3)) (kk : zB C cs (pc + 3) lv (.ref (C.X.2.2.2.2.2 i) :: st) S) : zB C cs pc lv (.ref (C.X.2.2.2.2.1 i) :: st) S := by
  obtain ⟨p, l, e, R, s, m, args, below, meth, c, Q, X, nn⟩ := C
  intro H locs ls hl hW hS
  exact vk_getf E.1 E.2.1 (E.2.2.2.2.2.2.2.2.2.2.2.2.1.2.2.2.1.1 i hi).2.2.1 hS E.2.2.2.2.1 (E.2.2.2.2.2.1 _ hw) (fun _ h => h) d (kk H locs ls hl hW hS)
theorem zb_sgetc {C : zC} {own : String} {cc : ByteArray} {n : Nat} {ret : Option FieldType} {rm : Room} {cs : Nat × Nat} {pc : Nat} {lv : List (Nat × Value)} {st : List Value} {S : zS} (E : zE C own cc n ret rm) {i : Nat} (hi : i < 21) {index : Nat} (hw : Cond.fieldLink own index "java/lang/String" "coder" "B" ∈ zT) (d : decode cc pc = .ok (.getfield index, 3)) (kk : zB C cs (pc + 3) lv (.int 0 :: st) S) : zB C cs pc lv (.ref (C.X.2.2.2.2.1 i) :: st) S := by
  obtain ⟨p, l, e, R, s, m, args, below, meth, c, Q, X, nn⟩ := C
  intro H locs ls hl hW hS
  exact vk_getf E.1 E.2.1 (E.2.2.2.2.2.2.2.2.2.2.2.2.1.2.2.2.1.1 i hi).2.1 hS E.2.2.2.2.1 (E.2.2.2.2.2.1 _ hw) (fun _ h => h) d (kk H locs ls hl hW hS)
theorem zb_slen {C : zC} {own : String} {cc : ByteArray} {n : Nat} {ret : Option FieldType} {rm : Room} {cs : Nat × Nat} {pc : Nat} {lv : List (Nat × Value)} {st : List Value} {S : zS} (E : zE C own cc n ret rm) {i : Nat} (hi : i < 21) (d : decode cc pc = .ok (.arraylength, 1)) (kk : zB C cs (pc + 1) lv (.int (Int32.ofNat (zlen.getD i 0)) :: st) S) : zB C cs pc lv (.ref (C.X.2.2.2.2.2 i) :: st) S := by
  obtain ⟨p, l, e, R, s, m, args, below, meth, c, Q, X, nn⟩ := C
  intro H locs ls hl hW hS
  exact va_tlen E.1 E.2.1 (E.2.2.2.2.2.2.2.2.2.2.2.2.1.2.2.2.1.1 i hi).2.2.2 hS rfl d (kk H locs ls hl hW hS)
theorem zb_sbald {C : zC} {own : String} {cc : ByteArray} {n : Nat} {ret : Option FieldType} {rm : Room} {cs : Nat × Nat} {pc : Nat} {lv : List (Nat × Value)} {st : List Value} {S : zS} (E : zE C own cc n ret rm) {i : Nat} (hi : i < 21) {x : Int32} (hin : vp_in x (zlen.getD i 0)) (d : decode cc pc = .ok (.baload, 1)) (kk : zB C cs (pc + 1) lv (.int ((zbyt.getD i []).getD x.toNatClampNeg 0) :: st) S) : zB C cs pc lv (.int x :: .ref (C.X.2.2.2.2.2 i) :: st) S := by
  obtain ⟨p, l, e, R, s, m, args, below, meth, c, Q, X, nn⟩ := C
  intro H locs ls hl hW hS
  exact va_tb E.1 E.2.1 (E.2.2.2.2.2.2.2.2.2.2.2.2.1.2.2.2.1.1 i hi).2.2.2 hS hin rfl d (kk H locs ls hl hW hS)
theorem zb_scomp {C : zC} {own : String} {cc : ByteArray} {n : Nat} {ret : Option FieldType} {rm : Room} {cs : Nat × Nat} {pc : Nat} {lv : List (Nat × Value)} {st : List Value} {S : zS} (E : zE C own cc n ret rm) {index : Nat} (hw : Cond.fieldLink own index "java/lang/String" "COMPACT_STRINGS" "Z" ∈ zT) (d : decode cc pc = .ok (.getstatic index, 3)) (kk : zB C cs (pc + 3) lv (.int 1 :: st) S) : zB C cs pc lv st S := by
  obtain ⟨p, l, e, R, s, m, args, below, meth, c, Q, X, nn⟩ := C
  intro H locs ls hl hW hS
  exact va_gets E.1 E.2.1 E.2.2.2.2.2.2.2.2.2.2.2.2.1.2.2.2.2.1 hS E.2.2.2.2.1 (E.2.2.2.2.2.1 _ hw) (fun _ h => h) d (kk H locs ls hl hW hS)
theorem zb_sfmt {C : zC} {own : String} {cc : ByteArray} {n : Nat} {ret : Option FieldType} {rm : Room} {cs : Nat × Nat} {pc : Nat} {lv : List (Nat × Value)} {st : List Value} {S : zS} (E : zE C own cc n ret rm) {index : Nat} (hw : Cond.fieldLink own index "jdk/internal/util/Preconditions" "SIOOBE_FORMATTER" "Ljava/util/function/BiFunction;" ∈ zT) (d : decode cc pc = .ok (.getstatic index, 3)) (kn : zB C cs (pc + 3) lv (.null :: st) S) (kk : ∀ t : Nat, zB C cs (pc + 3) lv (.ref t :: st) S) : zB C cs pc lv st S := by
  obtain ⟨p, l, e, R, s, m, args, below, meth, c, Q, X, nn⟩ := C
  intro H locs ls hl hW hS
  rcases E.2.2.2.2.2.2.2.2.2.2.2.2.1.2.2.2.2.2 with h | ⟨t, h⟩
  · exact va_gets E.1 E.2.1 h hS E.2.2.2.2.1 (E.2.2.2.2.2.1 _ hw) (fun _ h => h) d (kn H locs ls hl hW hS)
  · exact va_gets E.1 E.2.1 h hS E.2.2.2.2.1 (E.2.2.2.2.2.1 _ hw) (fun _ h => h) d (kk t H locs ls hl hW hS)
theorem zb_ldcS {C : zC} {own : String} {cc : ByteArray} {n : Nat} {ret : Option FieldType} {rm : Room} {cs : Nat × Nat} {pc : Nat} {lv : List (Nat × Value)} {st : List Value} {S : zS} (E : zE C own cc n ret rm) {index i : Nat} {tx : String} (hown2 : own = RX7) (hq : (index, tx, i) ∈ zJ) (d : decode cc pc = .ok (.ldc index, 2)) (kk : zB C cs (pc + 2) lv (.ref (C.X.2.2.2.2.1 i) :: st) S) : zB C cs pc lv st S := by
  obtain ⟨p, l, e, R, s, m, args, below, meth, c, Q, X, nn⟩ := C
  intro H locs ls hl hW hS
  subst hown2
  exact va_ldcS E.1 E.2.1 E.2.2.2.2.1 (E.2.2.2.2.2.2.2.2.2.2.2.1 _ hq) d (kk H locs ls hl hW hS)
theorem zJ_0 : (99, "farm", 0) ∈ zJ := List.mem_of_getElem? (i := 0) rfl
theorem zJ_1 : (188, "pounds", 1) ∈ zJ := List.mem_of_getElem? (i := 1) rfl
theorem zJ_2 : (190, "shillings", 2) ∈ zJ := List.mem_of_getElem? (i := 2) rfl
theorem zJ_3 : (192, "pence", 3) ∈ zJ := List.mem_of_getElem? (i := 3) rfl
theorem zJ_4 : (173, "min", 4) ∈ zJ := List.mem_of_getElem? (i := 4) rfl
theorem zJ_5 : (178, "max", 5) ∈ zJ := List.mem_of_getElem? (i := 5) rfl
theorem zJ_6 : (180, "term", 6) ∈ zJ := List.mem_of_getElem? (i := 6) rfl
theorem zJ_7 : (182, "year", 7) ∈ zJ := List.mem_of_getElem? (i := 7) rfl
theorem zJ_8 : (184, "debt", 8) ∈ zJ := List.mem_of_getElem? (i := 8) rfl
theorem zJ_9 : (186, "paid", 9) ∈ zJ := List.mem_of_getElem? (i := 9) rfl
theorem zJ_10 : (108, "blanched", 10) ∈ zJ := List.mem_of_getElem? (i := 10) rfl
theorem zJ_11 : (113, "allow", 11) ∈ zJ := List.mem_of_getElem? (i := 11) rfl
theorem zJ_12 : (115, "pardon", 12) ∈ zJ := List.mem_of_getElem? (i := 12) rfl
theorem zJ_13 : (124, "in", 13) ∈ zJ := List.mem_of_getElem? (i := 13) rfl
theorem zJ_14 : (129, "split", 14) ∈ zJ := List.mem_of_getElem? (i := 14) rfl
theorem zJ_15 : (83, "for", 15) ∈ zJ := List.mem_of_getElem? (i := 15) rfl
theorem zJ_16 : (147, "not", 16) ∈ zJ := List.mem_of_getElem? (i := 16) rfl
theorem zJ_17 : (158, "all", 17) ∈ zJ := List.mem_of_getElem? (i := 17) rfl
theorem zJ_18 : (160, "shire", 18) ∈ zJ := List.mem_of_getElem? (i := 18) rfl
theorem zJ_19 : (145, "and", 19) ∈ zJ := List.mem_of_getElem? (i := 19) rfl
theorem zJ_20 : (134, "or", 20) ∈ zJ := List.mem_of_getElem? (i := 20) rfl
theorem zb_cSTi {C : zC} {own : String} {cc : ByteArray} {n : Nat} {ret : Option FieldType} {rm : Room} {cs : Nat × Nat} {pc : Nat} {lv : List (Nat × Value)} {st : List Value} {S : zS} (E : zE C own cc n ret rm) {y : MethodName} {cy : ByteArray} {ny na : Nat} {ry : Option FieldType} {rm2 : Room} {S2 : zS} {r : Int32} (As : List Value) (i : Nat) (hi : i < 21) (hcls : y.cls = "java/lang/String") (hY : zYv y cy ny ry na) {index : Nat} (hl : Cond.methodLink own index y ∈ zT) (hM : zMi C.l y cy ny ry rm2 C.X (.ref (C.X.2.2.2.2.1 i) :: As) S r S2) (hR : rm2.frames + 1 ≤ rm.frames ∧ 8 + (ny + 11) + rm2.locals ≤ rm.locals ∧ cs.1 + rm2.cells ≤ rm.cells ∧ cs.2 + rm2.slots ≤ rm.slots) (hn : As.length = na) {stk : List Value} (hst : stk = As.reverse ++ .ref (C.X.2.2.2.2.1 i) :: st) (hcat : (st.map fun v => v.category).sum ≤ 8) (d : decode cc pc = .ok (.invokevirtual index, 3)) {cs2 : Nat × Nat} (hcs2 : (cs.1 + rm2.cells, cs.2 + rm2.slots) = cs2) (kk : zB C cs2 (pc + 3) lv (.int r :: st) S2) : zB C cs pc lv stk S := by
  obtain ⟨p, l, e, R, s, m, args, below, meth, c, Q, X, nn⟩ := C
  intro H locs ls hl0 hW hS
  subst hst
  subst hcs2
  obtain ⟨y1, y2, y3, y4, y5⟩ := hY
  have hR2 : R = rm := E.2.2.2.2.2.2.2.2.1
  subst hR2
  have run := va_runV (ws := Cond.code y cy ny ry :: zT) (H := H) (locs := locs) (cells := cs.1) (slots := cs.2) (l := l) (e := e) (below := below) (meth := meth) (rest := st) (g := F0 m pc ls _) ⟨E.1, E.2.1, E.2.2.1, E.2.2.2.2.1, E.2.2.2.2.2.1⟩ hM ⟨zcb E.2.2.2.2.2.1 y3 y4 y5 hl ⟨hR.1, hR.2.1⟩, E.2.2.2.2.2.1 _ y1, E.2.2.2.2.2.1 _ y2⟩ ⟨zK_blind, ⟨by rw [hcls]; exact vk_recv E.2.2.2.2.2.2.2.2.2.2.2.2.1.2.2.2.1 hi hS, fun U hU hWm => ⟨rfl, by rw [hU]; exact hW, zK.to E.2.2.2.2.2.2.2.2.2 hS hU hWm⟩⟩⟩ rfl hn (hl0.1.trans E.2.2.2.1) rfl (by show 2 * 0 + _ ≤ 8; omega) d ⟨hR.2.2.1, hR.2.2.2⟩
  refine va_calli run hS (fun q _ h => h) (fun q h => h) ?_
  intro r2 u t H1 locs1 ht hal hpo hB hz hfr hS1
  obtain ⟨rfl, rfl⟩ := hpo
  exact kk H1 locs1 ls hl0 (by rw [← ht]; exact hB.1) hS1
theorem c_J0_coder_7d493 {l : Launch} {X : zX} {S : zS} {i : Nat} (hi : i < 21) : zMi l yJ0_coder_7d493 cJ0_coder_7d493 1 (some .byte) ({ frames := 0, cells := 0, slots := 0, locals := 0 } : Room) X [.ref (X.2.2.2.2.1 i)] S 0 S := by
  refine zMi.of (by decide) (Nat.le_of_ble_eq_true rfl) (fun C E hl hX hQ => ?_)
  subst hl
  subst hX
  refine zb_scomp E zw_699 dJ0_coder_7d493_0 ?_
  refine zb_if_eq E dJ0_coder_7d493_3 (tgt := 13) rfl (fun hc => absurd hc (by decide)) (fun hc => ?_)
  refine zb_aload_n E dJ0_coder_7d493_6 0 rfl rfl ?_
  refine zb_sgetc E hi zw_1818 dJ0_coder_7d493_7 ?_
  refine zb_goto E dJ0_coder_7d493_10 (tgt := 14) rfl ?_
  exact zb_zret E hQ (ty := .byte) rfl rfl (by decide) dJ0_coder_7d493_14
theorem c_J0_isLatin1_aae02 {l : Launch} {X : zX} {S : zS} {i : Nat} (hi : i < 21) : zMi l yJ0_isLatin1_aae02 cJ0_isLatin1_aae02 1 (some .boolean) ({ frames := 0, cells := 0, slots := 0, locals := 0 } : Room) X [.ref (X.2.2.2.2.1 i)] S 1 S := by
  refine zMi.of (by decide) (Nat.le_of_ble_eq_true rfl) (fun C E hl hX hQ => ?_)
  subst hl
  subst hX
  refine zb_scomp E zw_699 dJ0_isLatin1_aae02_0 ?_
  refine zb_if_eq E dJ0_isLatin1_aae02_3 (tgt := 17) rfl (fun hc => absurd hc (by decide)) (fun hc => ?_)
  refine zb_aload_n E dJ0_isLatin1_aae02_6 0 rfl rfl ?_
  refine zb_sgetc E hi zw_1818 dJ0_isLatin1_aae02_7 ?_
  refine zb_if_ne E dJ0_isLatin1_aae02_10 (tgt := 17) rfl (fun hc => absurd rfl hc) (fun hc => ?_)
  refine zb_iconst E dJ0_isLatin1_aae02_13 (v := 1) rfl ?_
  refine zb_goto E dJ0_isLatin1_aae02_14 (tgt := 18) rfl ?_
  exact zb_zret E hQ (ty := .boolean) rfl rfl (by decide) dJ0_isLatin1_aae02_18
theorem zlen_sh : ∀ i, i < 21 → Int32.ofNat (zlen.getD i 0) >>> ((0 : Int32) &&& 31) = Int32.ofNat (zlen.getD i 0) := by decide +kernel
theorem zlen_small : ∀ i, i < 21 → zlen.getD i 0 < 100 := by decide +kernel
theorem c_J0_length_8abf5 {l : Launch} {X : zX} {S : zS} {i : Nat} (hi : i < 21) : zMi l yJ0_length_8abf5 cJ0_length_8abf5 1 (some .int) ({ frames := 1, cells := 0, slots := 0, locals := 20 } : Room) X [.ref (X.2.2.2.2.1 i)] S (Int32.ofNat (zlen.getD i 0)) S := by
  refine zMi.of (by decide) (Nat.le_of_ble_eq_true rfl) (fun C E hl hX hQ => ?_)
  subst hl
  subst hX
  refine zb_aload_n E dJ0_length_8abf5_0 0 rfl rfl ?_
  refine zb_sgetv E hi zw_1817 dJ0_length_8abf5_1 ?_
  refine zb_slen E hi dJ0_length_8abf5_4 ?_
  refine zb_aload_n E dJ0_length_8abf5_5 0 rfl rfl ?_
  refine zb_cSTi E [] i hi rfl zy_J0_coder_7d493 zw_695 (c_J0_coder_7d493 hi) (by decide) rfl rfl (by first | decide | simp [Value.category]) dJ0_length_8abf5_6 (cs2 := (0, 0)) rfl ?_
  refine zb_ishr E dJ0_length_8abf5_9 ?_
  rw [zlen_sh i hi]
  exact zb_iret E hQ rfl (by decide) dJ0_length_8abf5_10
theorem c_J3_checkIndex_8e157N {l : Launch} {X : zX} {S : zS} {x : Int32} {n : Nat} (h : vp_in x n) (hn : n < 2 ^ 31) : zMi l yJ3_checkIndex_8e157 cJ3_checkIndex_8e157 3 (some .int) ({ frames := 0, cells := 0, slots := 0, locals := 0 } : Room) X [.int x, .int (Int32.ofNat n), .null] S x S := by
  obtain ⟨j, hj, rfl⟩ := vp_in_of h hn
  refine zMi.of (by decide) (Nat.le_of_ble_eq_true rfl) (fun C E hl hX hQ => ?_)
  subst hl
  subst hX
  refine zb_iload_n E dJ3_checkIndex_8e157_0 0 rfl rfl ?_
  refine zb_if_lt E dJ3_checkIndex_8e157_1 (tgt := 9) rfl (fun hc => absurd hc (nI_pos (by omega))) (fun hc => ?_)
  refine zb_iload_n E dJ3_checkIndex_8e157_4 0 rfl rfl ?_
  refine zb_iload_n E dJ3_checkIndex_8e157_5 1 rfl rfl ?_
  refine zb_icmp_lt E dJ3_checkIndex_8e157_6 (tgt := 16) rfl (fun hc => ?_) (fun hc => absurd (nI_lt hj hn) hc)
  refine zb_iload_n E dJ3_checkIndex_8e157_16 0 rfl rfl ?_
  exact zb_iret E hQ rfl (by decide) dJ3_checkIndex_8e157_17
theorem c_J3_checkIndex_8e157R {l : Launch} {X : zX} {S : zS} {t : Nat} {x : Int32} {n : Nat} (h : vp_in x n) (hn : n < 2 ^ 31) : zMi l yJ3_checkIndex_8e157 cJ3_checkIndex_8e157 3 (some .int) ({ frames := 0, cells := 0, slots := 0, locals := 0 } : Room) X [.int x, .int (Int32.ofNat n), .ref t] S x S := by
  obtain ⟨j, hj, rfl⟩ := vp_in_of h hn
  refine zMi.of (by decide) (Nat.le_of_ble_eq_true rfl) (fun C E hl hX hQ => ?_)
  subst hl
  subst hX
  refine zb_iload_n E dJ3_checkIndex_8e157_0 0 rfl rfl ?_
  refine zb_if_lt E dJ3_checkIndex_8e157_1 (tgt := 9) rfl (fun hc => absurd hc (nI_pos (by omega))) (fun hc => ?_)
  refine zb_iload_n E dJ3_checkIndex_8e157_4 0 rfl rfl ?_
  refine zb_iload_n E dJ3_checkIndex_8e157_5 1 rfl rfl ?_
  refine zb_icmp_lt E dJ3_checkIndex_8e157_6 (tgt := 16) rfl (fun hc => ?_) (fun hc => absurd (nI_lt hj hn) hc)
  refine zb_iload_n E dJ3_checkIndex_8e157_16 0 rfl rfl ?_
  exact zb_iret E hQ rfl (by decide) dJ3_checkIndex_8e157_17
theorem c_J0_checkIndex_df160 {l : Launch} {X : zX} {S : zS} {x : Int32} {n : Nat} (h : vp_in x n) (hn : n < 2 ^ 31) : zMv l yJ0_checkIndex_df160 cJ0_checkIndex_df160 2 none ({ frames := 1, cells := 0, slots := 0, locals := 22 } : Room) X [.int x, .int (Int32.ofNat n)] S S := by
  refine zMv.of (by decide) (Nat.le_of_ble_eq_true rfl) (fun C E hl hX hQ => ?_)
  subst hl
  subst hX
  refine zb_iload_n E dJ0_checkIndex_df160_0 0 rfl rfl ?_
  refine zb_iload_n E dJ0_checkIndex_df160_1 1 rfl rfl ?_
  refine zb_sfmt E zw_715 dJ0_checkIndex_df160_2 ?_ (fun t => ?_)
  · refine zb_cSi E [.int x, .int (Int32.ofNat n), .null] zy_J3_checkIndex_8e157 zw_717 (c_J3_checkIndex_8e157N h hn) (by decide) rfl rfl (by first | decide | simp [Value.category]) dJ0_checkIndex_df160_5 (cs2 := (0, 0)) rfl ?_
    refine zb_pop E dJ0_checkIndex_df160_8 rfl ?_
    exact zb_vret E hQ rfl (by decide) dJ0_checkIndex_df160_9
  · refine zb_cSi E [.int x, .int (Int32.ofNat n), .ref t] zy_J3_checkIndex_8e157 zw_717 (c_J3_checkIndex_8e157R h hn) (by decide) rfl rfl (by first | decide | simp [Value.category]) dJ0_checkIndex_df160_5 (cs2 := (0, 0)) rfl ?_
    refine zb_pop E dJ0_checkIndex_df160_8 rfl ?_
    exact zb_vret E hQ rfl (by decide) dJ0_checkIndex_df160_9
theorem kS_nar (i j : Nat) : narrow .char (.int (kS_ch i j)) = .int (kS_ch i j) := by
  have h := pk_nc (((zbyt.getD i []).getD j 0) &&& 255)
  exact h
theorem c_J1_charAt_3b067 {l : Launch} {X : zX} {S : zS} {i : Nat} (hi : i < 21) {x : Int32} (h : vp_in x (zlen.getD i 0)) : zMi l yJ1_charAt_3b067 cJ1_charAt_3b067 2 (some .char) ({ frames := 2, cells := 0, slots := 0, locals := 43 } : Room) X [.ref (X.2.2.2.2.2 i), .int x] S (kS_ch i (ix x)) S := by
  refine zMi.of (by decide) (Nat.le_of_ble_eq_true rfl) (fun C E hl hX hQ => ?_)
  subst hl
  subst hX
  refine zb_iload_n E dJ1_charAt_3b067_0 1 rfl rfl ?_
  refine zb_aload_n E dJ1_charAt_3b067_1 0 rfl rfl ?_
  refine zb_slen E hi dJ1_charAt_3b067_2 ?_
  refine zb_cSv E [.int x, .int (Int32.ofNat (zlen.getD i 0))] zy_J0_checkIndex_df160 zw_712 (c_J0_checkIndex_df160 h (Nat.lt_trans (zlen_small i hi) (by decide))) (by decide) rfl rfl (by first | decide | simp [Value.category]) dJ1_charAt_3b067_3 (cs2 := (0, 0)) rfl ?_
  refine zb_aload_n E dJ1_charAt_3b067_6 0 rfl rfl ?_
  refine zb_iload_n E dJ1_charAt_3b067_7 1 rfl rfl ?_
  refine zb_sbald E hi h dJ1_charAt_3b067_8 ?_
  refine zb_sipush E dJ1_charAt_3b067_9 (v := 255) rfl ?_
  refine zb_iand E dJ1_charAt_3b067_12 ?_
  refine zb_i2c E dJ1_charAt_3b067_13 ?_
  exact zb_zret E hQ (ty := .char) rfl (kS_nar i (ix x)) (by decide) dJ1_charAt_3b067_14
theorem c_J0_charAt_5068e {l : Launch} {X : zX} {S : zS} {i : Nat} (hi : i < 21) {x : Int32} (h : vp_in x (zlen.getD i 0)) : zMi l yJ0_charAt_5068e cJ0_charAt_5068e 2 (some .char) ({ frames := 3, cells := 0, slots := 0, locals := 64 } : Room) X [.ref (X.2.2.2.2.1 i), .int x] S (kS_ch i (ix x)) S := by
  refine zMi.of (by decide) (Nat.le_of_ble_eq_true rfl) (fun C E hl hX hQ => ?_)
  subst hl
  subst hX
  refine zb_aload_n E dJ0_charAt_5068e_0 0 rfl rfl ?_
  refine zb_cSTi E [] i hi rfl zy_J0_isLatin1_aae02 zw_705 (c_J0_isLatin1_aae02 hi) (by decide) rfl rfl (by first | decide | simp [Value.category]) dJ0_charAt_5068e_1 (cs2 := (0, 0)) rfl ?_
  refine zb_if_eq E dJ0_charAt_5068e_4 (tgt := 16) rfl (fun hc => absurd hc (by decide)) (fun hc => ?_)
  refine zb_aload_n E dJ0_charAt_5068e_7 0 rfl rfl ?_
  refine zb_sgetv E hi zw_1817 dJ0_charAt_5068e_8 ?_
  refine zb_iload_n E dJ0_charAt_5068e_11 1 rfl rfl ?_
  refine zb_cSi E [.ref (C.X.2.2.2.2.2 i), .int x] zy_J1_charAt_3b067 zw_709 (c_J1_charAt_3b067 hi h) (by decide) rfl rfl (by first | decide | simp [Value.category]) dJ0_charAt_5068e_12 (cs2 := (0, 0)) rfl ?_
  exact zb_zret E hQ (ty := .char) rfl (kS_nar i (ix x)) (by decide) dJ0_charAt_5068e_15
