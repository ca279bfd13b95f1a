set_option maxHeartbeats 4000000
set_option maxRecDepth 100000
-- ChequeredCloth.feed
theorem dX11_feed_0 : decode cX11_feed 0 = .ok (.aload_n 0, 1) := by decide +kernel
theorem dX11_feed_1 : decode cX11_feed 1 = .ok (.getfield 30, 3) := by decide +kernel
theorem dX11_feed_4 : decode cX11_feed 4 = .ok (.invokevirtual 50, 3) := by decide +kernel
theorem dX11_feed_7 : decode cX11_feed 7 = .ok (.ifCond .ne 5, 3) := by decide +kernel
theorem dX11_feed_10 : decode cX11_feed 10 = .ok (.iconst (-1), 1) := by decide +kernel
theorem dX11_feed_11 : decode cX11_feed 11 = .ok (.ireturn, 1) := by decide +kernel
theorem dX11_feed_12 : decode cX11_feed 12 = .ok (.aload_n 0, 1) := by decide +kernel
theorem dX11_feed_13 : decode cX11_feed 13 = .ok (.getfield 30, 3) := by decide +kernel
theorem dX11_feed_16 : decode cX11_feed 16 = .ok (.iload_n 1, 1) := by decide +kernel
theorem dX11_feed_17 : decode cX11_feed 17 = .ok (.invokevirtual 54, 3) := by decide +kernel
theorem dX11_feed_20 : decode cX11_feed 20 = .ok (.pop, 1) := by decide +kernel
theorem dX11_feed_21 : decode cX11_feed 21 = .ok (.aload_n 0, 1) := by decide +kernel
theorem dX11_feed_22 : decode cX11_feed 22 = .ok (.getfield 30, 3) := by decide +kernel
theorem dX11_feed_25 : decode cX11_feed 25 = .ok (.iload_n 2, 1) := by decide +kernel
theorem dX11_feed_26 : decode cX11_feed 26 = .ok (.invokevirtual 54, 3) := by decide +kernel
theorem dX11_feed_29 : decode cX11_feed 29 = .ok (.pop, 1) := by decide +kernel
theorem dX11_feed_30 : decode cX11_feed 30 = .ok (.aload_n 0, 1) := by decide +kernel
theorem dX11_feed_31 : decode cX11_feed 31 = .ok (.getfield 30, 3) := by decide +kernel
theorem dX11_feed_34 : decode cX11_feed 34 = .ok (.iload_n 3, 1) := by decide +kernel
theorem dX11_feed_35 : decode cX11_feed 35 = .ok (.invokevirtual 54, 3) := by decide +kernel
theorem dX11_feed_38 : decode cX11_feed 38 = .ok (.pop, 1) := by decide +kernel
theorem dX11_feed_39 : decode cX11_feed 39 = .ok (.aload_n 0, 1) := by decide +kernel
theorem dX11_feed_40 : decode cX11_feed 40 = .ok (.getfield 30, 3) := by decide +kernel
theorem dX11_feed_43 : decode cX11_feed 43 = .ok (.iload 4, 2) := by decide +kernel
theorem dX11_feed_45 : decode cX11_feed 45 = .ok (.invokevirtual 54, 3) := by decide +kernel
theorem dX11_feed_48 : decode cX11_feed 48 = .ok (.pop, 1) := by decide +kernel
theorem dX11_feed_49 : decode cX11_feed 49 = .ok (.aload_n 0, 1) := by decide +kernel
theorem dX11_feed_50 : decode cX11_feed 50 = .ok (.getfield 30, 3) := by decide +kernel
theorem dX11_feed_53 : decode cX11_feed 53 = .ok (.iload 5, 2) := by decide +kernel
theorem dX11_feed_55 : decode cX11_feed 55 = .ok (.invokevirtual 54, 3) := by decide +kernel
theorem dX11_feed_58 : decode cX11_feed 58 = .ok (.ireturn, 1) := by decide +kernel
theorem zy_X11_feed : zYv yX11_feed cX11_feed 6 (some .int) 5 := ⟨zw_373, zw_374, zw_1, zw_375, by decide, by decide, by decide⟩
theorem c_X11_feed_0 {C : zC} {I : Nat → Nat → Int32} {J : Nat → Nat → Int64} {Rr : Nat → Nat → Option Nat} {D : zD} (N : Nat) (a1 : Int32) (a2 : Int32) (a3 : Int32) (a4 : Int32) (a5 : Int32) (rr : Int32) (y_v_reader_length : Int32) (y_v_reader_tape : (Nat → Int32)) (E : zE C RX11 cX11_feed 6 (some .int) ({ frames := 1, cells := 0, slots := 0, locals := 22 } : Room)) (hQ : C.Q = zQi C ({ frames := 1, cells := 0, slots := 0, locals := 22 } : Room) rr ((va_up (va_up I 33 (va_up (I 33) 3 y_v_reader_length)) 34 y_v_reader_tape), J, Rr, D)) (v_reader_length : Int32) (v_reader_tape : (Nat → Int32)) (h : pK_feed N a1 a2 a3 a4 a5 v_reader_length v_reader_tape = some (rr, y_v_reader_length, y_v_reader_tape)) : zB C (0, 0) 0 [(0, .ref (C.X.1 + 0)), (1, .int a1), (2, .int a2), (3, .int a3), (4, .int a4), (5, .int a5)] [] ((va_up (va_up I 33 (va_up (I 33) 3 v_reader_length)) 34 v_reader_tape), J, Rr, D) := by
  refine zb_aload_n E dX11_feed_0 0 rfl rfl ?_
  refine zb_get E 0 (by decide) (zF_0 C.X) rfl zin11 2 (by decide) zw_355 (v := .ref (C.X.1 + 33)) rfl dX11_feed_1 ?_
  obtain ⟨rc1, hc_4, h⟩ := bd1_s h
  refine zb_cVi E [] 33 zy_X7_hasRoom zw_376 (by decide) (zF_33 _ _ _ _) rfl (c_X7_hasRoom v_reader_length rfl hc_4) (by decide) rfl rfl (by first | decide | simp [Value.category]) dX11_feed_4 (cs2 := (0, 0)) rfl ?_
  refine zb_if_ne E dX11_feed_7 (tgt := 12) rfl (fun hc => ?_) (fun hc => ?_)
  · have h := if_f h hc
    refine zb_aload_n E dX11_feed_12 0 rfl rfl ?_
    refine zb_get E 0 (by decide) (zF_0 C.X) rfl zin11 2 (by decide) zw_355 (v := .ref (C.X.1 + 33)) rfl dX11_feed_13 ?_
    refine zb_iload_n E dX11_feed_16 1 rfl rfl ?_
    obtain ⟨rc2, v_reader_length_c2, v_reader_tape_c2, hc_17, h⟩ := bd3_s h
    refine zb_cVi E [.int a1] 33 zy_X7_append zw_380 (by decide) (zF_33 _ _ _ _) rfl (c_X7_append (va_up (I 33) 3 v_reader_length) rfl v_reader_length rfl v_reader_tape rfl hc_17) (by decide) rfl rfl (by first | decide | simp [Value.category]) dX11_feed_17 (cs2 := (0, 0)) rfl ?_
    refine zb_S (S2 := ((va_up (va_up I 33 (va_up (I 33) 3 v_reader_length_c2)) 34 v_reader_tape_c2), J, Rr, D)) (zS_eq ((zcgF ((zcgV zn1).trans (zn2 (by decide : (34 : Nat) ≠ 33)))).trans zn1) rfl) ?_
    refine zb_pop E dX11_feed_20 rfl ?_
    refine zb_aload_n E dX11_feed_21 0 rfl rfl ?_
    refine zb_get E 0 (by decide) (zF_0 C.X) rfl zin11 2 (by decide) zw_355 (v := .ref (C.X.1 + 33)) rfl dX11_feed_22 ?_
    refine zb_iload_n E dX11_feed_25 2 rfl rfl ?_
    obtain ⟨rc3, v_reader_length_c3, v_reader_tape_c3, hc_26, h⟩ := bd3_s h
    refine zb_cVi E [.int a2] 33 zy_X7_append zw_380 (by decide) (zF_33 _ _ _ _) rfl (c_X7_append (va_up (I 33) 3 v_reader_length_c2) rfl v_reader_length_c2 rfl v_reader_tape_c2 rfl hc_26) (by decide) rfl rfl (by first | decide | simp [Value.category]) dX11_feed_26 (cs2 := (0, 0)) rfl ?_
    refine zb_S (S2 := ((va_up (va_up I 33 (va_up (I 33) 3 v_reader_length_c3)) 34 v_reader_tape_c3), J, Rr, D)) (zS_eq ((zcgF ((zcgV zn1).trans (zn2 (by decide : (34 : Nat) ≠ 33)))).trans zn1) rfl) ?_
    refine zb_pop E dX11_feed_29 rfl ?_
    refine zb_aload_n E dX11_feed_30 0 rfl rfl ?_
    refine zb_get E 0 (by decide) (zF_0 C.X) rfl zin11 2 (by decide) zw_355 (v := .ref (C.X.1 + 33)) rfl dX11_feed_31 ?_
    refine zb_iload_n E dX11_feed_34 3 rfl rfl ?_
    obtain ⟨rc4, v_reader_length_c4, v_reader_tape_c4, hc_35, h⟩ := bd3_s h
    refine zb_cVi E [.int a3] 33 zy_X7_append zw_380 (by decide) (zF_33 _ _ _ _) rfl (c_X7_append (va_up (I 33) 3 v_reader_length_c3) rfl v_reader_length_c3 rfl v_reader_tape_c3 rfl hc_35) (by decide) rfl rfl (by first | decide | simp [Value.category]) dX11_feed_35 (cs2 := (0, 0)) rfl ?_
    refine zb_S (S2 := ((va_up (va_up I 33 (va_up (I 33) 3 v_reader_length_c4)) 34 v_reader_tape_c4), J, Rr, D)) (zS_eq ((zcgF ((zcgV zn1).trans (zn2 (by decide : (34 : Nat) ≠ 33)))).trans zn1) rfl) ?_
    refine zb_pop E dX11_feed_38 rfl ?_
    refine zb_aload_n E dX11_feed_39 0 rfl rfl ?_
    refine zb_get E 0 (by decide) (zF_0 C.X) rfl zin11 2 (by decide) zw_355 (v := .ref (C.X.1 + 33)) rfl dX11_feed_40 ?_
    refine zb_iload E dX11_feed_43 4 rfl ?_
    obtain ⟨rc5, v_reader_length_c5, v_reader_tape_c5, hc_45, h⟩ := bd3_s h
    refine zb_cVi E [.int a4] 33 zy_X7_append zw_380 (by decide) (zF_33 _ _ _ _) rfl (c_X7_append (va_up (I 33) 3 v_reader_length_c4) rfl v_reader_length_c4 rfl v_reader_tape_c4 rfl hc_45) (by decide) rfl rfl (by first | decide | simp [Value.category]) dX11_feed_45 (cs2 := (0, 0)) rfl ?_
    refine zb_S (S2 := ((va_up (va_up I 33 (va_up (I 33) 3 v_reader_length_c5)) 34 v_reader_tape_c5), J, Rr, D)) (zS_eq ((zcgF ((zcgV zn1).trans (zn2 (by decide : (34 : Nat) ≠ 33)))).trans zn1) rfl) ?_
    refine zb_pop E dX11_feed_48 rfl ?_
    refine zb_aload_n E dX11_feed_49 0 rfl rfl ?_
    refine zb_get E 0 (by decide) (zF_0 C.X) rfl zin11 2 (by decide) zw_355 (v := .ref (C.X.1 + 33)) rfl dX11_feed_50 ?_
    refine zb_iload E dX11_feed_53 5 rfl ?_
    obtain ⟨rc6, v_reader_length_c6, v_reader_tape_c6, hc_55, h⟩ := bd3_s h
    refine zb_cVi E [.int a5] 33 zy_X7_append zw_380 (by decide) (zF_33 _ _ _ _) rfl (c_X7_append (va_up (I 33) 3 v_reader_length_c5) rfl v_reader_length_c5 rfl v_reader_tape_c5 rfl hc_55) (by decide) rfl rfl (by first | decide | simp [Value.category]) dX11_feed_55 (cs2 := (0, 0)) rfl ?_
    refine zb_S (S2 := ((va_up (va_up I 33 (va_up (I 33) 3 v_reader_length_c6)) 34 v_reader_tape_c6), J, Rr, D)) (zS_eq ((zcgF ((zcgV zn1).trans (zn2 (by decide : (34 : Nat) ≠ 33)))).trans zn1) rfl) ?_
    obtain ⟨rfl, rfl, rfl⟩ := zinj3 h
    exact zb_iret E hQ rfl ⟨Nat.zero_le _, Nat.zero_le _⟩ dX11_feed_58
  · have h := if_t h hc
    refine zb_iconst E dX11_feed_10 (v := (-1)) rfl ?_
    obtain ⟨rfl, rfl, rfl⟩ := zinj3 h
    exact zb_iret E hQ rfl ⟨Nat.zero_le _, Nat.zero_le _⟩ dX11_feed_11
theorem c_X11_feed {l : Launch} {X : zX} {I : Nat → Nat → Int32} {J : Nat → Nat → Int64} {Rr : Nat → Nat → Option Nat} {D : zD} {N : Nat} {a1 : Int32} {a2 : Int32} {a3 : Int32} {a4 : Int32} {a5 : Int32} (oI33 : Nat → Int32) (eoI33 : I 33 = oI33) (v_reader_length : Int32) (e_v_reader_length : I 33 3 = v_reader_length) (v_reader_tape : (Nat → Int32)) (e_v_reader_tape : I 34 = v_reader_tape) {rr : Int32} {y_v_reader_length : Int32} {y_v_reader_tape : (Nat → Int32)} (h : pK_feed N a1 a2 a3 a4 a5 v_reader_length v_reader_tape = some (rr, y_v_reader_length, y_v_reader_tape)) : zMi l yX11_feed cX11_feed 6 (some .int) ({ frames := 1, cells := 0, slots := 0, locals := 22 } : Room) X [.ref (X.1 + 0), .int a1, .int a2, .int a3, .int a4, .int a5] (I, J, Rr, D) rr ((va_up (va_up I 33 (va_up oI33 3 y_v_reader_length)) 34 y_v_reader_tape), J, Rr, D) := by
  subst eoI33
  refine zMi.of (by decide) (Nat.le_of_ble_eq_true rfl) (fun C E hl hX hQ => ?_)
  subst hl
  subst hX
  have eI0 : (va_up (va_up I 33 (va_up (I 33) 3 v_reader_length)) 34 v_reader_tape) = I := by rw [zup_idE e_v_reader_length, zup_id, zup_idE e_v_reader_tape]
  have eJ0 : J = J := rfl
  refine zb_S (S2 := ((va_up (va_up I 33 (va_up (I 33) 3 v_reader_length)) 34 v_reader_tape), J, Rr, D)) (zS_eq eI0.symm eJ0.symm) ?_
  exact c_X11_feed_0 N a1 a2 a3 a4 a5 rr y_v_reader_length y_v_reader_tape E hQ v_reader_length v_reader_tape h
-- ChequeredCloth.end
theorem dX11_end_0 : decode cX11_end 0 = .ok (.aload_n 0, 1) := by decide +kernel
theorem dX11_end_1 : decode cX11_end 1 = .ok (.getfield 30, 3) := by decide +kernel
theorem dX11_end_4 : decode cX11_end 4 = .ok (.iload_n 1, 1) := by decide +kernel
theorem dX11_end_5 : decode cX11_end 5 = .ok (.invokevirtual 58, 3) := by decide +kernel
theorem dX11_end_8 : decode cX11_end 8 = .ok (.ireturn, 1) := by decide +kernel
theorem zy_X11_end : zYv yX11_end cX11_end 2 (some .boolean) 1 := ⟨zw_385, zw_386, zw_1, zw_387, by decide, by decide, by decide⟩
theorem c_X11_end_0 {C : zC} {I : Nat → Nat → Int32} {J : Nat → Nat → Int64} {Rr : Nat → Nat → Option Nat} {D : zD} (a1 : Int32) (rr : Int32) (y_v_reader_length : Int32) (E : zE C RX11 cX11_end 2 (some .boolean) ({ frames := 1, cells := 0, slots := 0, locals := 21 } : Room)) (hQ : C.Q = zQi C ({ frames := 1, cells := 0, slots := 0, locals := 21 } : Room) rr ((va_up I 33 (va_up (I 33) 3 y_v_reader_length)), J, Rr, D)) (v_reader_length : Int32) (h : pK_end a1 v_reader_length = some (rr, y_v_reader_length)) : zB C (0, 0) 0 [(0, .ref (C.X.1 + 0)), (1, .int a1)] [] ((va_up I 33 (va_up (I 33) 3 v_reader_length)), J, Rr, D) := by
  refine zb_aload_n E dX11_end_0 0 rfl rfl ?_
  refine zb_get E 0 (by decide) (zF_0 C.X) rfl zin11 2 (by decide) zw_355 (v := .ref (C.X.1 + 33)) rfl dX11_end_1 ?_
  refine zb_iload_n E dX11_end_4 1 rfl rfl ?_
  obtain ⟨rc1, v_reader_length_c1, hc_5, h⟩ := bd2_s h
  refine zb_cVi E [.int a1] 33 zy_X7_shorten zw_388 (by decide) (zF_33 _ _ _ _) rfl (c_X7_shorten (va_up (I 33) 3 v_reader_length) rfl v_reader_length rfl hc_5) (by decide) rfl rfl (by first | decide | simp [Value.category]) dX11_end_5 (cs2 := (0, 0)) rfl ?_
  refine zb_S (S2 := ((va_up I 33 (va_up (I 33) 3 v_reader_length_c1)), J, Rr, D)) (zS_eq ((zcgV zn1).trans zn1) rfl) ?_
  obtain ⟨gB, h⟩ := gd_s h
  obtain ⟨rfl, rfl⟩ := zinj2 h
  exact zb_zret E hQ (ty := .boolean) rfl (isB_n gB) ⟨Nat.zero_le _, Nat.zero_le _⟩ dX11_end_8
theorem c_X11_end {l : Launch} {X : zX} {I : Nat → Nat → Int32} {J : Nat → Nat → Int64} {Rr : Nat → Nat → Option Nat} {D : zD} {a1 : Int32} (oI33 : Nat → Int32) (eoI33 : I 33 = oI33) (v_reader_length : Int32) (e_v_reader_length : I 33 3 = v_reader_length) {rr : Int32} {y_v_reader_length : Int32} (h : pK_end a1 v_reader_length = some (rr, y_v_reader_length)) : zMi l yX11_end cX11_end 2 (some .boolean) ({ frames := 1, cells := 0, slots := 0, locals := 21 } : Room) X [.ref (X.1 + 0), .int a1] (I, J, Rr, D) rr ((va_up I 33 (va_up oI33 3 y_v_reader_length)), J, Rr, D) := by
  subst eoI33
  refine zMi.of (by decide) (Nat.le_of_ble_eq_true rfl) (fun C E hl hX hQ => ?_)
  subst hl
  subst hX
  have eI0 : (va_up I 33 (va_up (I 33) 3 v_reader_length)) = I := by rw [zup_idE e_v_reader_length, zup_id]
  have eJ0 : J = J := rfl
  refine zb_S (S2 := ((va_up I 33 (va_up (I 33) 3 v_reader_length)), J, Rr, D)) (zS_eq eI0.symm eJ0.symm) ?_
  exact c_X11_end_0 a1 rr y_v_reader_length E hQ v_reader_length h
-- ChequeredCloth.put
theorem dX11_put_0 : decode cX11_put 0 = .ok (.aload_n 0, 1) := by decide +kernel
theorem dX11_put_1 : decode cX11_put 1 = .ok (.getfield 16, 3) := by decide +kernel
theorem dX11_put_4 : decode cX11_put 4 = .ok (.iload_n 1, 1) := by decide +kernel
theorem dX11_put_5 : decode cX11_put 5 = .ok (.iload_n 2, 1) := by decide +kernel
theorem dX11_put_6 : decode cX11_put 6 = .ok (.invokevirtual 62, 3) := by decide +kernel
theorem dX11_put_9 : decode cX11_put 9 = .ok (.ireturn, 1) := by decide +kernel
theorem zy_X11_put : zYv yX11_put cX11_put 3 (some .boolean) 2 := ⟨zw_393, zw_394, zw_1, zw_395, by decide, by decide, by decide⟩
theorem c_X11_put_0 {C : zC} {I : Nat → Nat → Int32} {J : Nat → Nat → Int64} {Rr : Nat → Nat → Option Nat} {D : zD} (a1 : Int32) (a2 : Int32) (rr : Int32) (y_v_counters_lying : (Nat → Int32)) (E : zE C RX11 cX11_put 3 (some .boolean) ({ frames := 2, cells := 0, slots := 0, locals := 42 } : Room)) (hQ : C.Q = zQi C ({ frames := 2, cells := 0, slots := 0, locals := 42 } : Room) rr ((va_up I 2 y_v_counters_lying), J, Rr, D)) (v_counters_lying : (Nat → Int32)) (h : pK_put a1 a2 v_counters_lying = some (rr, y_v_counters_lying)) : zB C (0, 0) 0 [(0, .ref (C.X.1 + 0)), (1, .int a1), (2, .int a2)] [] ((va_up I 2 v_counters_lying), J, Rr, D) := by
  refine zb_aload_n E dX11_put_0 0 rfl rfl ?_
  refine zb_get E 0 (by decide) (zF_0 C.X) rfl zin11 0 (by decide) zw_353 (v := .ref (C.X.1 + 1)) rfl dX11_put_1 ?_
  refine zb_iload_n E dX11_put_4 1 rfl rfl ?_
  refine zb_iload_n E dX11_put_5 2 rfl rfl ?_
  obtain ⟨rc1, v_counters_lying_c1, hc_6, h⟩ := bd2_s h
  refine zb_cVi E [.int a1, .int a2] 1 zy_X3_set zw_396 (by decide) (zF_1 _ _ _ _) rfl (c_X3_set v_counters_lying rfl hc_6) (by decide) rfl rfl (by first | decide | simp [Value.category]) dX11_put_6 (cs2 := (0, 0)) rfl ?_
  refine zb_S (S2 := ((va_up I 2 v_counters_lying_c1), J, Rr, D)) (zS_eq zn1 rfl) ?_
  obtain ⟨gB, h⟩ := gd_s h
  obtain ⟨rfl, rfl⟩ := zinj2 h
  exact zb_zret E hQ (ty := .boolean) rfl (isB_n gB) ⟨Nat.zero_le _, Nat.zero_le _⟩ dX11_put_9
theorem c_X11_put {l : Launch} {X : zX} {I : Nat → Nat → Int32} {J : Nat → Nat → Int64} {Rr : Nat → Nat → Option Nat} {D : zD} {a1 : Int32} {a2 : Int32} (v_counters_lying : (Nat → Int32)) (e_v_counters_lying : I 2 = v_counters_lying) {rr : Int32} {y_v_counters_lying : (Nat → Int32)} (h : pK_put a1 a2 v_counters_lying = some (rr, y_v_counters_lying)) : zMi l yX11_put cX11_put 3 (some .boolean) ({ frames := 2, cells := 0, slots := 0, locals := 42 } : Room) X [.ref (X.1 + 0), .int a1, .int a2] (I, J, Rr, D) rr ((va_up I 2 y_v_counters_lying), J, Rr, D) := by
  refine zMi.of (by decide) (Nat.le_of_ble_eq_true rfl) (fun C E hl hX hQ => ?_)
  subst hl
  subst hX
  have eI0 : (va_up I 2 v_counters_lying) = I := by rw [zup_idE e_v_counters_lying]
  have eJ0 : J = J := rfl
  refine zb_S (S2 := ((va_up I 2 v_counters_lying), J, Rr, D)) (zS_eq eI0.symm eJ0.symm) ?_
  exact c_X11_put_0 a1 a2 rr y_v_counters_lying E hQ v_counters_lying h
-- ChequeredCloth.lies
theorem dX11_lies_0 : decode cX11_lies 0 = .ok (.aload_n 0, 1) := by decide +kernel
theorem dX11_lies_1 : decode cX11_lies 1 = .ok (.getfield 16, 3) := by decide +kernel
theorem dX11_lies_4 : decode cX11_lies 4 = .ok (.iload_n 1, 1) := by decide +kernel
theorem dX11_lies_5 : decode cX11_lies 5 = .ok (.invokevirtual 66, 3) := by decide +kernel
theorem dX11_lies_8 : decode cX11_lies 8 = .ok (.ireturn, 1) := by decide +kernel
theorem zy_X11_lies : zYv yX11_lies cX11_lies 2 (some .int) 1 := ⟨zw_404, zw_405, zw_1, zw_406, by decide, by decide, by decide⟩
theorem c_X11_lies_0 {C : zC} {I : Nat → Nat → Int32} {J : Nat → Nat → Int64} {Rr : Nat → Nat → Option Nat} {D : zD} (a1 : Int32) (v_counters_lying : (Nat → Int32)) (e_v_counters_lying : I 2 = v_counters_lying) (rr : Int32) (E : zE C RX11 cX11_lies 2 (some .int) ({ frames := 2, cells := 0, slots := 0, locals := 41 } : Room)) (hQ : C.Q = zQi C ({ frames := 2, cells := 0, slots := 0, locals := 41 } : Room) rr (I, J, Rr, D)) (h : pK_lies a1 v_counters_lying = some rr) : zB C (0, 0) 0 [(0, .ref (C.X.1 + 0)), (1, .int a1)] [] (I, J, Rr, D) := by
  refine zb_aload_n E dX11_lies_0 0 rfl rfl ?_
  refine zb_get E 0 (by decide) (zF_0 C.X) rfl zin11 0 (by decide) zw_353 (v := .ref (C.X.1 + 1)) rfl dX11_lies_1 ?_
  refine zb_iload_n E dX11_lies_4 1 rfl rfl ?_
  obtain ⟨rc1, hc_5, h⟩ := bd1_s h
  refine zb_cVi E [.int a1] 1 zy_X3_countAt zw_407 (by decide) (zF_1 _ _ _ _) rfl (c_X3_countAt v_counters_lying (by exact e_v_counters_lying) hc_5) (by decide) rfl rfl (by first | decide | simp [Value.category]) dX11_lies_5 (cs2 := (0, 0)) rfl ?_
  obtain rfl := zinj1 h
  exact zb_iret E hQ rfl ⟨Nat.zero_le _, Nat.zero_le _⟩ dX11_lies_8
theorem c_X11_lies {l : Launch} {X : zX} {I : Nat → Nat → Int32} {J : Nat → Nat → Int64} {Rr : Nat → Nat → Option Nat} {D : zD} {a1 : Int32} (v_counters_lying : (Nat → Int32)) (e_v_counters_lying : I 2 = v_counters_lying) {rr : Int32} (h : pK_lies a1 v_counters_lying = some rr) : zMi l yX11_lies cX11_lies 2 (some .int) ({ frames := 2, cells := 0, slots := 0, locals := 41 } : Room) X [.ref (X.1 + 0), .int a1] (I, J, Rr, D) rr (I, J, Rr, D) := by
  refine zMi.of (by decide) (Nat.le_of_ble_eq_true rfl) (fun C E hl hX hQ => ?_)
  subst hl
  subst hX
  have eI0 : I = I := rfl
  have eJ0 : J = J := rfl
  refine zb_S (S2 := (I, J, Rr, D)) (zS_eq eI0.symm eJ0.symm) ?_
  exact c_X11_lies_0 a1 v_counters_lying e_v_counters_lying rr E hQ h
-- ChequeredCloth.worth
theorem dX11_worth_0 : decode cX11_worth 0 = .ok (.aload_n 0, 1) := by decide +kernel
theorem dX11_worth_1 : decode cX11_worth 1 = .ok (.getfield 16, 3) := by decide +kernel
theorem dX11_worth_4 : decode cX11_worth 4 = .ok (.invokevirtual 69, 3) := by decide +kernel
theorem dX11_worth_7 : decode cX11_worth 7 = .ok (.lreturn, 1) := by decide +kernel
theorem zy_X11_worth : zYv yX11_worth cX11_worth 1 (some .long) 0 := ⟨zw_412, zw_413, zw_1, zw_414, by decide, by decide, by decide⟩
theorem c_X11_worth_0 {C : zC} {I : Nat → Nat → Int32} {J : Nat → Nat → Int64} {Rr : Nat → Nat → Option Nat} {D : zD} (N : Nat) (v_counters_lying : (Nat → Int32)) (e_v_counters_lying : I 2 = v_counters_lying) (rr : Int64) (E : zE C RX11 cX11_worth 1 (some .long) ({ frames := 1, cells := 0, slots := 0, locals := 23 } : Room)) (hQ : C.Q = zQl C ({ frames := 1, cells := 0, slots := 0, locals := 23 } : Room) rr (I, J, Rr, D)) (h : pK_worth N v_counters_lying = some rr) : zB C (0, 0) 0 [(0, .ref (C.X.1 + 0))] [] (I, J, Rr, D) := by
  refine zb_aload_n E dX11_worth_0 0 rfl rfl ?_
  refine zb_get E 0 (by decide) (zF_0 C.X) rfl zin11 0 (by decide) zw_353 (v := .ref (C.X.1 + 1)) rfl dX11_worth_1 ?_
  obtain ⟨rc1, hc_4, h⟩ := bd1_s h
  refine zb_cVl E [] 1 zy_X3_total zw_415 (by decide) (zF_1 _ _ _ _) rfl (c_X3_total v_counters_lying (by exact e_v_counters_lying) hc_4) (by decide) rfl rfl (by first | decide | simp [Value.category]) dX11_worth_4 (cs2 := (0, 0)) rfl ?_
  obtain rfl := zinj1 h
  exact zb_lret E hQ rfl ⟨Nat.zero_le _, Nat.zero_le _⟩ dX11_worth_7
theorem c_X11_worth {l : Launch} {X : zX} {I : Nat → Nat → Int32} {J : Nat → Nat → Int64} {Rr : Nat → Nat → Option Nat} {D : zD} {N : Nat} (v_counters_lying : (Nat → Int32)) (e_v_counters_lying : I 2 = v_counters_lying) {rr : Int64} (h : pK_worth N v_counters_lying = some rr) : zMl l yX11_worth cX11_worth 1 (some .long) ({ frames := 1, cells := 0, slots := 0, locals := 23 } : Room) X [.ref (X.1 + 0)] (I, J, Rr, D) rr (I, J, Rr, D) := by
  refine zMl.of (by decide) (Nat.le_of_ble_eq_true rfl) (fun C E hl hX hQ => ?_)
  subst hl
  subst hX
  have eI0 : I = I := rfl
  have eJ0 : J = J := rfl
  refine zb_S (S2 := (I, J, Rr, D)) (zS_eq eI0.symm eJ0.symm) ?_
  exact c_X11_worth_0 N v_counters_lying e_v_counters_lying rr E hQ h
-- ChequeredCloth.plain
theorem dX11_plain_0 : decode cX11_plain 0 = .ok (.aload_n 0, 1) := by decide +kernel
theorem dX11_plain_1 : decode cX11_plain 1 = .ok (.getfield 16, 3) := by decide +kernel
theorem dX11_plain_4 : decode cX11_plain 4 = .ok (.iload_n 1, 1) := by decide +kernel
theorem dX11_plain_5 : decode cX11_plain 5 = .ok (.iload_n 2, 1) := by decide +kernel
theorem dX11_plain_6 : decode cX11_plain 6 = .ok (.invokevirtual 73, 3) := by decide +kernel
theorem dX11_plain_9 : decode cX11_plain 9 = .ok (.ireturn, 1) := by decide +kernel
theorem zy_X11_plain : zYv yX11_plain cX11_plain 3 (some .int) 2 := ⟨zw_422, zw_423, zw_1, zw_424, by decide, by decide, by decide⟩
theorem c_X11_plain_0 {C : zC} {I : Nat → Nat → Int32} {J : Nat → Nat → Int64} {Rr : Nat → Nat → Option Nat} {D : zD} (N : Nat) (a1 : Int32) (a2 : Int32) (rr : Int32) (y_v_counters_due : (Nat → Int32)) (E : zE C RX11 cX11_plain 3 (some .int) ({ frames := 2, cells := 0, slots := 0, locals := 45 } : Room)) (hQ : C.Q = zQi C ({ frames := 2, cells := 0, slots := 0, locals := 45 } : Room) rr ((va_up I 4 y_v_counters_due), J, Rr, D)) (v_counters_due : (Nat → Int32)) (h : pK_plain N a1 a2 v_counters_due = some (rr, y_v_counters_due)) : zB C (0, 0) 0 [(0, .ref (C.X.1 + 0)), (1, .int a1), (2, .int a2)] [] ((va_up I 4 v_counters_due), J, Rr, D) := by
  refine zb_aload_n E dX11_plain_0 0 rfl rfl ?_
  refine zb_get E 0 (by decide) (zF_0 C.X) rfl zin11 0 (by decide) zw_353 (v := .ref (C.X.1 + 1)) rfl dX11_plain_1 ?_
  refine zb_iload_n E dX11_plain_4 1 rfl rfl ?_
  refine zb_iload_n E dX11_plain_5 2 rfl rfl ?_
  obtain ⟨rc1, v_counters_due_c1, hc_6, h⟩ := bd2_s h
  refine zb_cVi E [.int a1, .int a2] 1 zy_X3_plainAt zw_425 (by decide) (zF_1 _ _ _ _) rfl (c_X3_plainAt v_counters_due rfl hc_6) (by decide) rfl rfl (by first | decide | simp [Value.category]) dX11_plain_6 (cs2 := (0, 0)) rfl ?_
  refine zb_S (S2 := ((va_up I 4 v_counters_due_c1), J, Rr, D)) (zS_eq zn1 rfl) ?_
  obtain ⟨rfl, rfl⟩ := zinj2 h
  exact zb_iret E hQ rfl ⟨Nat.zero_le _, Nat.zero_le _⟩ dX11_plain_9
theorem c_X11_plain {l : Launch} {X : zX} {I : Nat → Nat → Int32} {J : Nat → Nat → Int64} {Rr : Nat → Nat → Option Nat} {D : zD} {N : Nat} {a1 : Int32} {a2 : Int32} (v_counters_due : (Nat → Int32)) (e_v_counters_due : I 4 = v_counters_due) {rr : Int32} {y_v_counters_due : (Nat → Int32)} (h : pK_plain N a1 a2 v_counters_due = some (rr, y_v_counters_due)) : zMi l yX11_plain cX11_plain 3 (some .int) ({ frames := 2, cells := 0, slots := 0, locals := 45 } : Room) X [.ref (X.1 + 0), .int a1, .int a2] (I, J, Rr, D) rr ((va_up I 4 y_v_counters_due), J, Rr, D) := by
  refine zMi.of (by decide) (Nat.le_of_ble_eq_true rfl) (fun C E hl hX hQ => ?_)
  subst hl
  subst hX
  have eI0 : (va_up I 4 v_counters_due) = I := by rw [zup_idE e_v_counters_due]
  have eJ0 : J = J := rfl
  refine zb_S (S2 := ((va_up I 4 v_counters_due), J, Rr, D)) (zS_eq eI0.symm eJ0.symm) ?_
  exact c_X11_plain_0 N a1 a2 rr y_v_counters_due E hQ v_counters_due h
-- ChequeredCloth.lay
theorem dX11_lay_0 : decode cX11_lay 0 = .ok (.aload_n 0, 1) := by decide +kernel
theorem dX11_lay_1 : decode cX11_lay 1 = .ok (.getfield 16, 3) := by decide +kernel
theorem dX11_lay_4 : decode cX11_lay 4 = .ok (.iload_n 1, 1) := by decide +kernel
theorem dX11_lay_5 : decode cX11_lay 5 = .ok (.invokevirtual 77, 3) := by decide +kernel
theorem dX11_lay_8 : decode cX11_lay 8 = .ok (.ireturn, 1) := by decide +kernel
theorem zy_X11_lay : zYv yX11_lay cX11_lay 2 (some .int) 1 := ⟨zw_435, zw_436, zw_1, zw_437, by decide, by decide, by decide⟩
theorem c_X11_lay_0 {C : zC} {I : Nat → Nat → Int32} {J : Nat → Nat → Int64} {Rr : Nat → Nat → Option Nat} {D : zD} (N : Nat) (a1 : Int32) (rr : Int32) (y_v_counters_due : (Nat → Int32)) (y_v_counters_lying : (Nat → Int32)) (y_v_counters_trial : (Nat → Int32)) (E : zE C RX11 cX11_lay 2 (some .int) ({ frames := 2, cells := 0, slots := 0, locals := 94 } : Room)) (hQ : C.Q = zQi C ({ frames := 2, cells := 0, slots := 0, locals := 94 } : Room) rr ((va_up (va_up (va_up I 2 y_v_counters_lying) 3 y_v_counters_trial) 4 y_v_counters_due), J, Rr, D)) (v_counters_due : (Nat → Int32)) (v_counters_lying : (Nat → Int32)) (v_counters_trial : (Nat → Int32)) (h : pK_lay N a1 v_counters_due v_counters_lying v_counters_trial = some (rr, y_v_counters_due, y_v_counters_lying, y_v_counters_trial)) : zB C (0, 0) 0 [(0, .ref (C.X.1 + 0)), (1, .int a1)] [] ((va_up (va_up (va_up I 2 v_counters_lying) 3 v_counters_trial) 4 v_counters_due), J, Rr, D) := by
  refine zb_aload_n E dX11_lay_0 0 rfl rfl ?_
  refine zb_get E 0 (by decide) (zF_0 C.X) rfl zin11 0 (by decide) zw_353 (v := .ref (C.X.1 + 1)) rfl dX11_lay_1 ?_
  refine zb_iload_n E dX11_lay_4 1 rfl rfl ?_
  obtain ⟨rc1, v_counters_due_c1, v_counters_lying_c1, v_counters_trial_c1, hc_5, h⟩ := bd4_s h
  refine zb_cVi E [.int a1] 1 zy_X3_add zw_438 (by decide) (zF_1 _ _ _ _) rfl (c_X3_add v_counters_due rfl v_counters_lying rfl v_counters_trial rfl hc_5) (by decide) rfl rfl (by first | decide | simp [Value.category]) dX11_lay_5 (cs2 := (0, 0)) rfl ?_
  refine zb_S (S2 := ((va_up (va_up (va_up I 2 v_counters_lying_c1) 3 v_counters_trial_c1) 4 v_counters_due_c1), J, Rr, D)) (zS_eq ((zcgF ((zcgF (zn3 (by decide : (4 : Nat) ≠ 2) (by decide : (3 : Nat) ≠ 2))).trans (zn2 (by decide : (4 : Nat) ≠ 3)))).trans zn1) rfl) ?_
  obtain ⟨rfl, rfl, rfl, rfl⟩ := zinj4 h
  exact zb_iret E hQ rfl ⟨Nat.zero_le _, Nat.zero_le _⟩ dX11_lay_8
theorem c_X11_lay {l : Launch} {X : zX} {I : Nat → Nat → Int32} {J : Nat → Nat → Int64} {Rr : Nat → Nat → Option Nat} {D : zD} {N : Nat} {a1 : Int32} (v_counters_due : (Nat → Int32)) (e_v_counters_due : I 4 = v_counters_due) (v_counters_lying : (Nat → Int32)) (e_v_counters_lying : I 2 = v_counters_lying) (v_counters_trial : (Nat → Int32)) (e_v_counters_trial : I 3 = v_counters_trial) {rr : Int32} {y_v_counters_due : (Nat → Int32)} {y_v_counters_lying : (Nat → Int32)} {y_v_counters_trial : (Nat → Int32)} (h : pK_lay N a1 v_counters_due v_counters_lying v_counters_trial = some (rr, y_v_counters_due, y_v_counters_lying, y_v_counters_trial)) : zMi l yX11_lay cX11_lay 2 (some .int) ({ frames := 2, cells := 0, slots := 0, locals := 94 } : Room) X [.ref (X.1 + 0), .int a1] (I, J, Rr, D) rr ((va_up (va_up (va_up I 2 y_v_counters_lying) 3 y_v_counters_trial) 4 y_v_counters_due), J, Rr, D) := by
  refine zMi.of (by decide) (Nat.le_of_ble_eq_true rfl) (fun C E hl hX hQ => ?_)
  subst hl
  subst hX
  have eI0 : (va_up (va_up (va_up I 2 v_counters_lying) 3 v_counters_trial) 4 v_counters_due) = I := by rw [zup_idE e_v_counters_lying, zup_idE e_v_counters_trial, zup_idE e_v_counters_due]
  have eJ0 : J = J := rfl
  refine zb_S (S2 := ((va_up (va_up (va_up I 2 v_counters_lying) 3 v_counters_trial) 4 v_counters_due), J, Rr, D)) (zS_eq eI0.symm eJ0.symm) ?_
  exact c_X11_lay_0 N a1 rr y_v_counters_due y_v_counters_lying y_v_counters_trial E hQ v_counters_due v_counters_lying v_counters_trial h
-- ChequeredCloth.draw
theorem dX11_draw_0 : decode cX11_draw 0 = .ok (.aload_n 0, 1) := by decide +kernel
theorem dX11_draw_1 : decode cX11_draw 1 = .ok (.getfield 16, 3) := by decide +kernel
theorem dX11_draw_4 : decode cX11_draw 4 = .ok (.iload_n 1, 1) := by decide +kernel
theorem dX11_draw_5 : decode cX11_draw 5 = .ok (.invokevirtual 80, 3) := by decide +kernel
theorem dX11_draw_8 : decode cX11_draw 8 = .ok (.ireturn, 1) := by decide +kernel
theorem zy_X11_draw : zYv yX11_draw cX11_draw 2 (some .int) 1 := ⟨zw_452, zw_453, zw_1, zw_454, by decide, by decide, by decide⟩
theorem c_X11_draw_0 {C : zC} {I : Nat → Nat → Int32} {J : Nat → Nat → Int64} {Rr : Nat → Nat → Option Nat} {D : zD} (N : Nat) (a1 : Int32) (rr : Int32) (y_v_counters_due : (Nat → Int32)) (y_v_counters_lying : (Nat → Int32)) (y_v_counters_trial : (Nat → Int32)) (E : zE C RX11 cX11_draw 2 (some .int) ({ frames := 2, cells := 0, slots := 0, locals := 96 } : Room)) (hQ : C.Q = zQi C ({ frames := 2, cells := 0, slots := 0, locals := 96 } : Room) rr ((va_up (va_up (va_up I 2 y_v_counters_lying) 3 y_v_counters_trial) 4 y_v_counters_due), J, Rr, D)) (v_counters_due : (Nat → Int32)) (v_counters_lying : (Nat → Int32)) (v_counters_trial : (Nat → Int32)) (h : pK_draw N a1 v_counters_due v_counters_lying v_counters_trial = some (rr, y_v_counters_due, y_v_counters_lying, y_v_counters_trial)) : zB C (0, 0) 0 [(0, .ref (C.X.1 + 0)), (1, .int a1)] [] ((va_up (va_up (va_up I 2 v_counters_lying) 3 v_counters_trial) 4 v_counters_due), J, Rr, D) := by
  refine zb_aload_n E dX11_draw_0 0 rfl rfl ?_
  refine zb_get E 0 (by decide) (zF_0 C.X) rfl zin11 0 (by decide) zw_353 (v := .ref (C.X.1 + 1)) rfl dX11_draw_1 ?_
  refine zb_iload_n E dX11_draw_4 1 rfl rfl ?_
  obtain ⟨rc1, v_counters_due_c1, v_counters_lying_c1, v_counters_trial_c1, hc_5, h⟩ := bd4_s h
  refine zb_cVi E [.int a1] 1 zy_X3_take zw_455 (by decide) (zF_1 _ _ _ _) rfl (c_X3_take v_counters_due rfl v_counters_lying rfl v_counters_trial rfl hc_5) (by decide) rfl rfl (by first | decide | simp [Value.category]) dX11_draw_5 (cs2 := (0, 0)) rfl ?_
  refine zb_S (S2 := ((va_up (va_up (va_up I 2 v_counters_lying_c1) 3 v_counters_trial_c1) 4 v_counters_due_c1), J, Rr, D)) (zS_eq ((zcgF ((zcgF (zn3 (by decide : (4 : Nat) ≠ 2) (by decide : (3 : Nat) ≠ 2))).trans (zn2 (by decide : (4 : Nat) ≠ 3)))).trans zn1) rfl) ?_
  obtain ⟨rfl, rfl, rfl, rfl⟩ := zinj4 h
  exact zb_iret E hQ rfl ⟨Nat.zero_le _, Nat.zero_le _⟩ dX11_draw_8
theorem c_X11_draw {l : Launch} {X : zX} {I : Nat → Nat → Int32} {J : Nat → Nat → Int64} {Rr : Nat → Nat → Option Nat} {D : zD} {N : Nat} {a1 : Int32} (v_counters_due : (Nat → Int32)) (e_v_counters_due : I 4 = v_counters_due) (v_counters_lying : (Nat → Int32)) (e_v_counters_lying : I 2 = v_counters_lying) (v_counters_trial : (Nat → Int32)) (e_v_counters_trial : I 3 = v_counters_trial) {rr : Int32} {y_v_counters_due : (Nat → Int32)} {y_v_counters_lying : (Nat → Int32)} {y_v_counters_trial : (Nat → Int32)} (h : pK_draw N a1 v_counters_due v_counters_lying v_counters_trial = some (rr, y_v_counters_due, y_v_counters_lying, y_v_counters_trial)) : zMi l yX11_draw cX11_draw 2 (some .int) ({ frames := 2, cells := 0, slots := 0, locals := 96 } : Room) X [.ref (X.1 + 0), .int a1] (I, J, Rr, D) rr ((va_up (va_up (va_up I 2 y_v_counters_lying) 3 y_v_counters_trial) 4 y_v_counters_due), J, Rr, D) := by
  refine zMi.of (by decide) (Nat.le_of_ble_eq_true rfl) (fun C E hl hX hQ => ?_)
  subst hl
  subst hX
  have eI0 : (va_up (va_up (va_up I 2 v_counters_lying) 3 v_counters_trial) 4 v_counters_due) = I := by rw [zup_idE e_v_counters_lying, zup_idE e_v_counters_trial, zup_idE e_v_counters_due]
  have eJ0 : J = J := rfl
  refine zb_S (S2 := ((va_up (va_up (va_up I 2 v_counters_lying) 3 v_counters_trial) 4 v_counters_due), J, Rr, D)) (zS_eq eI0.symm eJ0.symm) ?_
  exact c_X11_draw_0 N a1 rr y_v_counters_due y_v_counters_lying y_v_counters_trial E hQ v_counters_due v_counters_lying v_counters_trial h
-- ChequeredCloth.steps
theorem dX11_steps_0 : decode cX11_steps 0 = .ok (.aload_n 0, 1) := by decide +kernel
theorem dX11_steps_1 : decode cX11_steps 1 = .ok (.getfield 16, 3) := by decide +kernel
theorem dX11_steps_4 : decode cX11_steps 4 = .ok (.iload_n 1, 1) := by decide +kernel
theorem dX11_steps_5 : decode cX11_steps 5 = .ok (.invokevirtual 83, 3) := by decide +kernel
theorem dX11_steps_8 : decode cX11_steps 8 = .ok (.ireturn, 1) := by decide +kernel
theorem zy_X11_steps : zYv yX11_steps cX11_steps 2 (some .int) 1 := ⟨zw_464, zw_465, zw_1, zw_466, by decide, by decide, by decide⟩
theorem c_X11_steps_0 {C : zC} {I : Nat → Nat → Int32} {J : Nat → Nat → Int64} {Rr : Nat → Nat → Option Nat} {D : zD} (N : Nat) (a1 : Int32) (v_counters_lying : (Nat → Int32)) (e_v_counters_lying : I 2 = v_counters_lying) (rr : Int32) (y_v_counters_due : (Nat → Int32)) (E : zE C RX11 cX11_steps 2 (some .int) ({ frames := 3, cells := 0, slots := 0, locals := 84 } : Room)) (hQ : C.Q = zQi C ({ frames := 3, cells := 0, slots := 0, locals := 84 } : Room) rr ((va_up I 4 y_v_counters_due), J, Rr, D)) (v_counters_due : (Nat → Int32)) (h : pK_steps N a1 v_counters_due v_counters_lying = some (rr, y_v_counters_due)) : zB C (0, 0) 0 [(0, .ref (C.X.1 + 0)), (1, .int a1)] [] ((va_up I 4 v_counters_due), J, Rr, D) := by
  refine zb_aload_n E dX11_steps_0 0 rfl rfl ?_
  refine zb_get E 0 (by decide) (zF_0 C.X) rfl zin11 0 (by decide) zw_353 (v := .ref (C.X.1 + 1)) rfl dX11_steps_1 ?_
  refine zb_iload_n E dX11_steps_4 1 rfl rfl ?_
  obtain ⟨rc1, v_counters_due_c1, hc_5, h⟩ := bd2_s h
  refine zb_cVi E [.int a1] 1 zy_X3_fewestSteps zw_467 (by decide) (zF_1 _ _ _ _) rfl (c_X3_fewestSteps v_counters_lying (by exact e_v_counters_lying) v_counters_due rfl hc_5) (by decide) rfl rfl (by first | decide | simp [Value.category]) dX11_steps_5 (cs2 := (0, 0)) rfl ?_
  refine zb_S (S2 := ((va_up I 4 v_counters_due_c1), J, Rr, D)) (zS_eq zn1 rfl) ?_
  obtain ⟨rfl, rfl⟩ := zinj2 h
  exact zb_iret E hQ rfl ⟨Nat.zero_le _, Nat.zero_le _⟩ dX11_steps_8
theorem c_X11_steps {l : Launch} {X : zX} {I : Nat → Nat → Int32} {J : Nat → Nat → Int64} {Rr : Nat → Nat → Option Nat} {D : zD} {N : Nat} {a1 : Int32} (v_counters_lying : (Nat → Int32)) (e_v_counters_lying : I 2 = v_counters_lying) (v_counters_due : (Nat → Int32)) (e_v_counters_due : I 4 = v_counters_due) {rr : Int32} {y_v_counters_due : (Nat → Int32)} (h : pK_steps N a1 v_counters_due v_counters_lying = some (rr, y_v_counters_due)) : zMi l yX11_steps cX11_steps 2 (some .int) ({ frames := 3, cells := 0, slots := 0, locals := 84 } : Room) X [.ref (X.1 + 0), .int a1] (I, J, Rr, D) rr ((va_up I 4 y_v_counters_due), J, Rr, D) := by
  refine zMi.of (by decide) (Nat.le_of_ble_eq_true rfl) (fun C E hl hX hQ => ?_)
  subst hl
  subst hX
  have eI0 : (va_up I 4 v_counters_due) = I := by rw [zup_idE e_v_counters_due]
  have eJ0 : J = J := rfl
  refine zb_S (S2 := ((va_up I 4 v_counters_due), J, Rr, D)) (zS_eq eI0.symm eJ0.symm) ?_
  exact c_X11_steps_0 N a1 v_counters_lying e_v_counters_lying rr y_v_counters_due E hQ v_counters_due h
