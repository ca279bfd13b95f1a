set_option maxHeartbeats 4000000
set_option maxRecDepth 100000
-- ChequeredCloth.feed
abbrev R_pK_feed : Type := Int32 × Int32 × (Nat → Int32)
def pK_feed (N : Nat) (a1 : Int32) (a2 : Int32) (a3 : Int32) (a4 : Int32) (a5 : Int32) (v_reader_length : Int32) (v_reader_tape : (Nat → Int32)) : Option R_pK_feed :=
  bd1 (pReader_hasRoom v_reader_length) fun rc1 =>
  if rc1 = 0 then
    some ((-1), v_reader_length, v_reader_tape)
  else
    bd3 (pReader_append N a1 v_reader_length v_reader_tape) fun rc2 v_reader_length_c2 v_reader_tape_c2 =>
    bd3 (pReader_append N a2 v_reader_length_c2 v_reader_tape_c2) fun rc3 v_reader_length_c3 v_reader_tape_c3 =>
    bd3 (pReader_append N a3 v_reader_length_c3 v_reader_tape_c3) fun rc4 v_reader_length_c4 v_reader_tape_c4 =>
    bd3 (pReader_append N a4 v_reader_length_c4 v_reader_tape_c4) fun rc5 v_reader_length_c5 v_reader_tape_c5 =>
    bd3 (pReader_append N a5 v_reader_length_c5 v_reader_tape_c5) fun rc6 v_reader_length_c6 v_reader_tape_c6 =>
    some (rc6, v_reader_length_c6, v_reader_tape_c6)
theorem dX11_feed_0 : decode cX11_feed 0 = .ok (.aload_n 0, 1) := by decide +kernel
theorem dX11_feed_1 : decode cX11_feed 1 = .ok (.getfield 30, 3) := by decide +kernel
theorem dX11_feed_4 : decode cX11_feed 4 = .ok (.invokevirtual 50, 3) := by decide +kernel
theorem dX11_feed_7 : decode cX11_feed 7 = .ok (.ifCond .ne 5, 3) := by decide +kernel
theorem dX11_feed_10 : decode cX11_feed 10 = .ok (.iconst (-1), 1) := by decide +kernel
theorem dX11_feed_11 : decode cX11_feed 11 = .ok (.ireturn, 1) := by decide +kernel
theorem dX11_feed_12 : decode cX11_feed 12 = .ok (.aload_n 0, 1) := by decide +kernel
theorem dX11_feed_13 : decode cX11_feed 13 = .ok (.getfield 30, 3) := by decide +kernel
theorem dX11_feed_16 : decode cX11_feed 16 = .ok (.iload_n 1, 1) := by decide +kernel
theorem dX11_feed_17 : decode cX11_feed 17 = .ok (.invokevirtual 54, 3) := by decide +kernel
theorem dX11_feed_20 : decode cX11_feed 20 = .ok (.pop, 1) := by decide +kernel
theorem dX11_feed_21 : decode cX11_feed 21 = .ok (.aload_n 0, 1) := by decide +kernel
theorem dX11_feed_22 : decode cX11_feed 22 = .ok (.getfield 30, 3) := by decide +kernel
theorem dX11_feed_25 : decode cX11_feed 25 = .ok (.iload_n 2, 1) := by decide +kernel
theorem dX11_feed_26 : decode cX11_feed 26 = .ok (.invokevirtual 54, 3) := by decide +kernel
theorem dX11_feed_29 : decode cX11_feed 29 = .ok (.pop, 1) := by decide +kernel
theorem dX11_feed_30 : decode cX11_feed 30 = .ok (.aload_n 0, 1) := by decide +kernel
theorem dX11_feed_31 : decode cX11_feed 31 = .ok (.getfield 30, 3) := by decide +kernel
theorem dX11_feed_34 : decode cX11_feed 34 = .ok (.iload_n 3, 1) := by decide +kernel
theorem dX11_feed_35 : decode cX11_feed 35 = .ok (.invokevirtual 54, 3) := by decide +kernel
theorem dX11_feed_38 : decode cX11_feed 38 = .ok (.pop, 1) := by decide +kernel
theorem dX11_feed_39 : decode cX11_feed 39 = .ok (.aload_n 0, 1) := by decide +kernel
theorem dX11_feed_40 : decode cX11_feed 40 = .ok (.getfield 30, 3) := by decide +kernel
theorem dX11_feed_43 : decode cX11_feed 43 = .ok (.iload 4, 2) := by decide +kernel
theorem dX11_feed_45 : decode cX11_feed 45 = .ok (.invokevirtual 54, 3) := by decide +kernel
theorem dX11_feed_48 : decode cX11_feed 48 = .ok (.pop, 1) := by decide +kernel
theorem dX11_feed_49 : decode cX11_feed 49 = .ok (.aload_n 0, 1) := by decide +kernel
theorem dX11_feed_50 : decode cX11_feed 50 = .ok (.getfield 30, 3) := by decide +kernel
theorem dX11_feed_53 : decode cX11_feed 53 = .ok (.iload 5, 2) := by decide +kernel
theorem dX11_feed_55 : decode cX11_feed 55 = .ok (.invokevirtual 54, 3) := by decide +kernel
theorem dX11_feed_58 : decode cX11_feed 58 = .ok (.ireturn, 1) := by decide +kernel
theorem zy_X11_feed : zYv yX11_feed cX11_feed 6 (some .int) 5 := ⟨zw_373, zw_374, zw_1, zw_375, by decide, by decide, by decide⟩
theorem c_X11_feed_0 {C : zC} {I : Nat → Nat → Int32} {J : Nat → Nat → Int64} {Rr : Nat → Nat → Option Nat} {D : zD} (N : Nat) (a1 : Int32) (a2 : Int32) (a3 : Int32) (a4 : Int32) (a5 : Int32) (rr : Int32) (y_v_reader_length : Int32) (y_v_reader_tape : (Nat → Int32)) (E : zE C RX11 cX11_feed 6 (some .int) ({ frames := 1, cells := 0, slots := 0, locals := 22 } : Room)) (hQ : C.Q = zQi C ({ frames := 1, cells := 0, slots := 0, locals := 22 } : Room) rr ((va_up (va_up I 33 (va_up (I 33) 3 y_v_reader_length)) 34 y_v_reader_tape), J, Rr, D)) (v_reader_length : Int32) (v_reader_tape : (Nat → Int32)) (h : pK_feed N a1 a2 a3 a4 a5 v_reader_length v_reader_tape = some (rr, y_v_reader_length, y_v_reader_tape)) : zB C (0, 0) 0 [(0, .ref (C.X.1 + 0)), (1, .int a1), (2, .int a2), (3, .int a3), (4, .int a4), (5, .int a5)] [] ((va_up (va_up I 33 (va_up (I 33) 3 v_reader_length)) 34 v_reader_tape), J, Rr, D) := by
  refine zb_aload_n E dX11_feed_0 0 rfl rfl ?_
  refine zb_get E 0 (by decide) (zF_0 C.X) rfl zin11 2 (by decide) zw_355 (v := .ref (C.X.1 + 33)) rfl dX11_feed_1 ?_
  obtain ⟨rc1, hc_4, h⟩ := bd1_s h
  refine zb_cVi E [] 33 zy_X7_hasRoom zw_376 (by decide) (zF_33 _ _ _ _) rfl (c_X7_hasRoom v_reader_length rfl hc_4) (by decide) rfl rfl (by first | decide | simp [Value.category]) dX11_feed_4 (cs2 := (0, 0)) rfl ?_
  refine zb_if_ne E dX11_feed_7 (tgt := 12) rfl (fun hc => ?_) (fun hc => ?_)
  · have h := if_f h hc
    refine zb_aload_n E dX11_feed_12 0 rfl rfl ?_
    refine zb_get E 0 (by decide) (zF_0 C.X) rfl zin11 2 (by decide) zw_355 (v := .ref (C.X.1 + 33)) rfl dX11_feed_13 ?_
    refine zb_iload_n E dX11_feed_16 1 rfl rfl ?_
    obtain ⟨rc2, v_reader_length_c2, v_reader_tape_c2, hc_17, h⟩ := bd3_s h
    refine zb_cVi E [.int a1] 33 zy_X7_append zw_380 (by decide) (zF_33 _ _ _ _) rfl (c_X7_append (va_up (I 33) 3 v_reader_length) rfl v_reader_length rfl v_reader_tape rfl hc_17) (by decide) rfl rfl (by first | decide | simp [Value.category]) dX11_feed_17 (cs2 := (0, 0)) rfl ?_
    refine zb_S (S2 := ((va_up (va_up I 33 (va_up (I 33) 3 v_reader_length_c2)) 34 v_reader_tape_c2), J, Rr, D)) (zS_eq ((zcgF ((zcgV zn1).trans (zn2 (by decide : (34 : Nat) ≠ 33)))).trans zn1) rfl) ?_
    refine zb_pop E dX11_feed_20 rfl ?_
    refine zb_aload_n E dX11_feed_21 0 rfl rfl ?_
    refine zb_get E 0 (by decide) (zF_0 C.X) rfl zin11 2 (by decide) zw_355 (v := .ref (C.X.1 + 33)) rfl dX11_feed_22 ?_
    refine zb_iload_n E dX11_feed_25 2 rfl rfl ?_
    obtain ⟨rc3, v_reader_length_c3, v_reader_tape_c3, hc_26, h⟩ := bd3_s h
    refine zb_cVi E [.int a2] 33 zy_X7_append zw_380 (by decide) (zF_33 _ _ _ _) rfl (c_X7_append (va_up (I 33) 3 v_reader_length_c2) rfl v_reader_length_c2 rfl v_reader_tape_c2 rfl hc_26) (by decide) rfl rfl (by first | decide | simp [Value.category]) dX11_feed_26 (cs2 := (0, 0)) rfl ?_
    refine zb_S (S2 := ((va_up (va_up I 33 (va_up (I 33) 3 v_reader_length_c3)) 34 v_reader_tape_c3), J, Rr, D)) (zS_eq ((zcgF ((zcgV zn1).trans (zn2 (by decide : (34 : Nat) ≠ 33)))).trans zn1) rfl) ?_
    refine zb_pop E dX11_feed_29 rfl ?_
    refine zb_aload_n E dX11_feed_30 0 rfl rfl ?_
    refine zb_get E 0 (by decide) (zF_0 C.X) rfl zin11 2 (by decide) zw_355 (v := .ref (C.X.1 + 33)) rfl dX11_feed_31 ?_
    refine zb_iload_n E dX11_feed_34 3 rfl rfl ?_
    obtain ⟨rc4, v_reader_length_c4, v_reader_tape_c4, hc_35, h⟩ := bd3_s h
    refine zb_cVi E [.int a3] 33 zy_X7_append zw_380 (by decide) (zF_33 _ _ _ _) rfl (c_X7_append (va_up (I 33) 3 v_reader_length_c3) rfl v_reader_length_c3 rfl v_reader_tape_c3 rfl hc_35) (by decide) rfl rfl (by first | decide | simp [Value.category]) dX11_feed_35 (cs2 := (0, 0)) rfl ?_
    refine zb_S (S2 := ((va_up (va_up I 33 (va_up (I 33) 3 v_reader_length_c4)) 34 v_reader_tape_c4), J, Rr, D)) (zS_eq ((zcgF ((zcgV zn1).trans (zn2 (by decide : (34 : Nat) ≠ 33)))).trans zn1) rfl) ?_
    refine zb_pop E dX11_feed_38 rfl ?_
    refine zb_aload_n E dX11_feed_39 0 rfl rfl ?_
    refine zb_get E 0 (by decide) (zF_0 C.X) rfl zin11 2 (by decide) zw_355 (v := .ref (C.X.1 + 33)) rfl dX11_feed_40 ?_
    refine zb_iload E dX11_feed_43 4 rfl ?_
    obtain ⟨rc5, v_reader_length_c5, v_reader_tape_c5, hc_45, h⟩ := bd3_s h
    refine zb_cVi E [.int a4] 33 zy_X7_append zw_380 (by decide) (zF_33 _ _ _ _) rfl (c_X7_append (va_up (I 33) 3 v_reader_length_c4) rfl v_reader_length_c4 rfl v_reader_tape_c4 rfl hc_45) (by decide) rfl rfl (by first | decide | simp [Value.category]) dX11_feed_45 (cs2 := (0, 0)) rfl ?_
    refine zb_S (S2 := ((va_up (va_up I 33 (va_up (I 33) 3 v_reader_length_c5)) 34 v_reader_tape_c5), J, Rr, D)) (zS_eq ((zcgF ((zcgV zn1).trans (zn2 (by decide : (34 : Nat) ≠ 33)))).trans zn1) rfl) ?_
    refine zb_pop E dX11_feed_48 rfl ?_
    refine zb_aload_n E dX11_feed_49 0 rfl rfl ?_
    refine zb_get E 0 (by decide) (zF_0 C.X) rfl zin11 2 (by decide) zw_355 (v := .ref (C.X.1 + 33)) rfl dX11_feed_50 ?_
    refine zb_iload E dX11_feed_53 5 rfl ?_
    obtain ⟨rc6, v_reader_length_c6, v_reader_tape_c6, hc_55, h⟩ := bd3_s h
    refine zb_cVi E [.int a5] 33 zy_X7_append zw_380 (by decide) (zF_33 _ _ _ _) rfl (c_X7_append (va_up (I 33) 3 v_reader_length_c5) rfl v_reader_length_c5 rfl v_reader_tape_c5 rfl hc_55) (by decide) rfl rfl (by first | decide | simp [Value.category]) dX11_feed_55 (cs2 := (0, 0)) rfl ?_
    refine zb_S (S2 := ((va_up (va_up I 33 (va_up (I 33) 3 v_reader_length_c6)) 34 v_reader_tape_c6), J, Rr, D)) (zS_eq ((zcgF ((zcgV zn1).trans (zn2 (by decide : (34 : Nat) ≠ 33)))).trans zn1) rfl) ?_
    obtain ⟨rfl, rfl, rfl⟩ := zinj3 h
    exact zb_iret E hQ rfl ⟨Nat.zero_le _, Nat.zero_le _⟩ dX11_feed_58
  · have h := if_t h hc
    refine zb_iconst E dX11_feed_10 (v := (-1)) rfl ?_
    obtain ⟨rfl, rfl, rfl⟩ := zinj3 h
    exact zb_iret E hQ rfl ⟨Nat.zero_le _, Nat.zero_le _⟩ dX11_feed_11
theorem c_X11_feed {l : Launch} {X : zX} {I : Nat → Nat → Int32} {J : Nat → Nat → Int64} {Rr : Nat → Nat → Option Nat} {D : zD} {N : Nat} {a1 : Int32} {a2 : Int32} {a3 : Int32} {a4 : Int32} {a5 : Int32} (oI33 : Nat → Int32) (eoI33 : I 33 = oI33) (v_reader_length : Int32) (e_v_reader_length : I 33 3 = v_reader_length) (v_reader_tape : (Nat → Int32)) (e_v_reader_tape : I 34 = v_reader_tape) {rr : Int32} {y_v_reader_length : Int32} {y_v_reader_tape : (Nat → Int32)} (h : pK_feed N a1 a2 a3 a4 a5 v_reader_length v_reader_tape = some (rr, y_v_reader_length, y_v_reader_tape)) : zMi l yX11_feed cX11_feed 6 (some .int) ({ frames := 1, cells := 0, slots := 0, locals := 22 } : Room) X [.ref (X.1 + 0), .int a1, .int a2, .int a3, .int a4, .int a5] (I, J, Rr, D) rr ((va_up (va_up I 33 (va_up oI33 3 y_v_reader_length)) 34 y_v_reader_tape), J, Rr, D) := by
  subst eoI33
  refine zMi.of (by decide) (Nat.le_of_ble_eq_true rfl) (fun C E hl hX hQ => ?_)
  subst hl
  subst hX
  have eI0 : (va_up (va_up I 33 (va_up (I 33) 3 v_reader_length)) 34 v_reader_tape) = I := by rw [zup_idE e_v_reader_length, zup_id, zup_idE e_v_reader_tape]
  have eJ0 : J = J := rfl
  refine zb_S (S2 := ((va_up (va_up I 33 (va_up (I 33) 3 v_reader_length)) 34 v_reader_tape), J, Rr, D)) (zS_eq eI0.symm eJ0.symm) ?_
  exact c_X11_feed_0 N a1 a2 a3 a4 a5 rr y_v_reader_length y_v_reader_tape E hQ v_reader_length v_reader_tape h
-- ChequeredCloth.end
abbrev R_pK_end : Type := Int32 × Int32
def pK_end (a1 : Int32) (v_reader_length : Int32) : Option R_pK_end :=
  bd2 (pReader_shorten a1 v_reader_length) fun rc1 v_reader_length_c1 =>
  gd (isB rc1) (some (rc1, v_reader_length_c1))
theorem dX11_end_0 : decode cX11_end 0 = .ok (.aload_n 0, 1) := by decide +kernel
theorem dX11_end_1 : decode cX11_end 1 = .ok (.getfield 30, 3) := by decide +kernel
theorem dX11_end_4 : decode cX11_end 4 = .ok (.iload_n 1, 1) := by decide +kernel
theorem dX11_end_5 : decode cX11_end 5 = .ok (.invokevirtual 58, 3) := by decide +kernel
theorem dX11_end_8 : decode cX11_end 8 = .ok (.ireturn, 1) := by decide +kernel
theorem zy_X11_end : zYv yX11_end cX11_end 2 (some .boolean) 1 := ⟨zw_385, zw_386, zw_1, zw_387, by decide, by decide, by decide⟩
theorem c_X11_end_0 {C : zC} {I : Nat → Nat → Int32} {J : Nat → Nat → Int64} {Rr : Nat → Nat → Option Nat} {D : zD} (a1 : Int32) (rr : Int32) (y_v_reader_length : Int32) (E : zE C RX11 cX11_end 2 (some .boolean) ({ frames := 1, cells := 0, slots := 0, locals := 21 } : Room)) (hQ : C.Q = zQi C ({ frames := 1, cells := 0, slots := 0, locals := 21 } : Room) rr ((va_up I 33 (va_up (I 33) 3 y_v_reader_length)), J, Rr, D)) (v_reader_length : Int32) (h : pK_end a1 v_reader_length = some (rr, y_v_reader_length)) : zB C (0, 0) 0 [(0, .ref (C.X.1 + 0)), (1, .int a1)] [] ((va_up I 33 (va_up (I 33) 3 v_reader_length)), J, Rr, D) := by
  refine zb_aload_n E dX11_end_0 0 rfl rfl ?_
  refine zb_get E 0 (by decide) (zF_0 C.X) rfl zin11 2 (by decide) zw_355 (v := .ref (C.X.1 + 33)) rfl dX11_end_1 ?_
  refine zb_iload_n E dX11_end_4 1 rfl rfl ?_
  obtain ⟨rc1, v_reader_length_c1, hc_5, h⟩ := bd2_s h
  refine zb_cVi E [.int a1] 33 zy_X7_shorten zw_388 (by decide) (zF_33 _ _ _ _) rfl (c_X7_shorten (va_up (I 33) 3 v_reader_length) rfl v_reader_length rfl hc_5) (by decide) rfl rfl (by first | decide | simp [Value.category]) dX11_end_5 (cs2 := (0, 0)) rfl ?_
  refine zb_S (S2 := ((va_up I 33 (va_up (I 33) 3 v_reader_length_c1)), J, Rr, D)) (zS_eq ((zcgV zn1).trans zn1) rfl) ?_
  obtain ⟨gB, h⟩ := gd_s h
  obtain ⟨rfl, rfl⟩ := zinj2 h
  exact zb_zret E hQ (ty := .boolean) rfl (isB_n gB) ⟨Nat.zero_le _, Nat.zero_le _⟩ dX11_end_8
theorem c_X11_end {l : Launch} {X : zX} {I : Nat → Nat → Int32} {J : Nat → Nat → Int64} {Rr : Nat → Nat → Option Nat} {D : zD} {a1 : Int32} (oI33 : Nat → Int32) (eoI33 : I 33 = oI33) (v_reader_length : Int32) (e_v_reader_length : I 33 3 = v_reader_length) {rr : Int32} {y_v_reader_length : Int32} (h : pK_end a1 v_reader_length = some (rr, y_v_reader_length)) : zMi l yX11_end cX11_end 2 (some .boolean) ({ frames := 1, cells := 0, slots := 0, locals := 21 } : Room) X [.ref (X.1 + 0), .int a1] (I, J, Rr, D) rr ((va_up I 33 (va_up oI33 3 y_v_reader_length)), J, Rr, D) := by
  subst eoI33
  refine zMi.of (by decide) (Nat.le_of_ble_eq_true rfl) (fun C E hl hX hQ => ?_)
  subst hl
  subst hX
  have eI0 : (va_up I 33 (va_up (I 33) 3 v_reader_length)) = I := by rw [zup_idE e_v_reader_length, zup_id]
  have eJ0 : J = J := rfl
  refine zb_S (S2 := ((va_up I 33 (va_up (I 33) 3 v_reader_length)), J, Rr, D)) (zS_eq eI0.symm eJ0.symm) ?_
  exact c_X11_end_0 a1 rr y_v_reader_length E hQ v_reader_length h
-- ChequeredCloth.put
abbrev R_pK_put : Type := Int32 × (Nat → Int32)
def pK_put (a1 : Int32) (a2 : Int32) (v_counters_lying : (Nat → Int32)) : Option R_pK_put :=
  bd2 (pCounters_set a1 a2 v_counters_lying) fun rc1 v_counters_lying_c1 =>
  gd (isB rc1) (some (rc1, v_counters_lying_c1))
theorem dX11_put_0 : decode cX11_put 0 = .ok (.aload_n 0, 1) := by decide +kernel
theorem dX11_put_1 : decode cX11_put 1 = .ok (.getfield 16, 3) := by decide +kernel
theorem dX11_put_4 : decode cX11_put 4 = .ok (.iload_n 1, 1) := by decide +kernel
theorem dX11_put_5 : decode cX11_put 5 = .ok (.iload_n 2, 1) := by decide +kernel
theorem dX11_put_6 : decode cX11_put 6 = .ok (.invokevirtual 62, 3) := by decide +kernel
theorem dX11_put_9 : decode cX11_put 9 = .ok (.ireturn, 1) := by decide +kernel
theorem zy_X11_put : zYv yX11_put cX11_put 3 (some .boolean) 2 := ⟨zw_393, zw_394, zw_1, zw_395, by decide, by decide, by decide⟩
theorem c_X11_put_0 {C : zC} {I : Nat → Nat → Int32} {J : Nat → Nat → Int64} {Rr : Nat → Nat → Option Nat} {D : zD} (a1 : Int32) (a2 : Int32) (rr : Int32) (y_v_counters_lying : (Nat → Int32)) (E : zE C RX11 cX11_put 3 (some .boolean) ({ frames := 2, cells := 0, slots := 0, locals := 42 } : Room)) (hQ : C.Q = zQi C ({ frames := 2, cells := 0, slots := 0, locals := 42 } : Room) rr ((va_up I 2 y_v_counters_lying), J, Rr, D)) (v_counters_lying : (Nat → Int32)) (h : pK_put a1 a2 v_counters_lying = some (rr, y_v_counters_lying)) : zB C (0, 0) 0 [(0, .ref (C.X.1 + 0)), (1, .int a1), (2, .int a2)] [] ((va_up I 2 v_counters_lying), J, Rr, D) := by
  refine zb_aload_n E dX11_put_0 0 rfl rfl ?_
  refine zb_get E 0 (by decide) (zF_0 C.X) rfl zin11 0 (by decide) zw_353 (v := .ref (C.X.1 + 1)) rfl dX11_put_1 ?_
  refine zb_iload_n E dX11_put_4 1 rfl rfl ?_
  refine zb_iload_n E dX11_put_5 2 rfl rfl ?_
  obtain ⟨rc1, v_counters_lying_c1, hc_6, h⟩ := bd2_s h
  refine zb_cVi E [.int a1, .int a2] 1 zy_X3_set zw_396 (by decide) (zF_1 _ _ _ _) rfl (c_X3_set v_counters_lying rfl hc_6) (by decide) rfl rfl (by first | decide | simp [Value.category]) dX11_put_6 (cs2 := (0, 0)) rfl ?_
  refine zb_S (S2 := ((va_up I 2 v_counters_lying_c1), J, Rr, D)) (zS_eq zn1 rfl) ?_
  obtain ⟨gB, h⟩ := gd_s h
  obtain ⟨rfl, rfl⟩ := zinj2 h
  exact zb_zret E hQ (ty := .boolean) rfl (isB_n gB) ⟨Nat.zero_le _, Nat.zero_le _⟩ dX11_put_9
theorem c_X11_put {l : Launch} {X : zX} {I : Nat → Nat → Int32} {J : Nat → Nat → Int64} {Rr : Nat → Nat → Option Nat} {D : zD} {a1 : Int32} {a2 : Int32} (v_counters_lying : (Nat → Int32)) (e_v_counters_lying : I 2 = v_counters_lying) {rr : Int32} {y_v_counters_lying : (Nat → Int32)} (h : pK_put a1 a2 v_counters_lying = some (rr, y_v_counters_lying)) : zMi l yX11_put cX11_put 3 (some .boolean) ({ frames := 2, cells := 0, slots := 0, locals := 42 } : Room) X [.ref (X.1 + 0), .int a1, .int a2] (I, J, Rr, D) rr ((va_up I 2 y_v_counters_lying), J, Rr, D) := by
  refine zMi.of (by decide) (Nat.le_of_ble_eq_true rfl) (fun C E hl hX hQ => ?_)
  subst hl
  subst hX
  have eI0 : (va_up I 2 v_counters_lying) = I := by rw [zup_idE e_v_counters_lying]
  have eJ0 : J = J := rfl
  refine zb_S (S2 := ((va_up I 2 v_counters_lying), J, Rr, D)) (zS_eq eI0.symm eJ0.symm) ?_
  exact c_X11_put_0 a1 a2 rr y_v_counters_lying E hQ v_counters_lying h
-- ChequeredCloth.lies
abbrev R_pK_lies : Type := Int32
def pK_lies (a1 : Int32) (v_counters_lying : (Nat → Int32)) : Option R_pK_lies :=
  bd1 (pCounters_countAt a1 v_counters_lying) fun rc1 =>
  some rc1
theorem dX11_lies_0 : decode cX11_lies 0 = .ok (.aload_n 0, 1) := by decide +kernel
theorem dX11_lies_1 : decode cX11_lies 1 = .ok (.getfield 16, 3) := by decide +kernel
theorem dX11_lies_4 : decode cX11_lies 4 = .ok (.iload_n 1, 1) := by decide +kernel
theorem dX11_lies_5 : decode cX11_lies 5 = .ok (.invokevirtual 66, 3) := by decide +kernel
theorem dX11_lies_8 : decode cX11_lies 8 = .ok (.ireturn, 1) := by decide +kernel
theorem zy_X11_lies : zYv yX11_lies cX11_lies 2 (some .int) 1 := ⟨zw_404, zw_405, zw_1, zw_406, by decide, by decide, by decide⟩
theorem c_X11_lies_0 {C : zC} {I : Nat → Nat → Int32} {J : Nat → Nat → Int64} {Rr : Nat → Nat → Option Nat} {D : zD} (a1 : Int32) (v_counters_lying : (Nat → Int32)) (e_v_counters_lying : I 2 = v_counters_lying) (rr : Int32) (E : zE C RX11 cX11_lies 2 (some .int) ({ frames := 2, cells := 0, slots := 0, locals := 41 } : Room)) (hQ : C.Q = zQi C ({ frames := 2, cells := 0, slots := 0, locals := 41 } : Room) rr (I, J, Rr, D)) (h : pK_lies a1 v_counters_lying = some rr) : zB C (0, 0) 0 [(0, .ref (C.X.1 + 0)), (1, .int a1)] [] (I, J, Rr, D) := by
  refine zb_aload_n E dX11_lies_0 0 rfl rfl ?_
  refine zb_get E 0 (by decide) (zF_0 C.X) rfl zin11 0 (by decide) zw_353 (v := .ref (C.X.1 + 1)) rfl dX11_lies_1 ?_
  refine zb_iload_n E dX11_lies_4 1 rfl rfl ?_
  obtain ⟨rc1, hc_5, h⟩ := bd1_s h
  refine zb_cVi E [.int a1] 1 zy_X3_countAt zw_407 (by decide) (zF_1 _ _ _ _) rfl (c_X3_countAt v_counters_lying (by exact e_v_counters_lying) hc_5) (by decide) rfl rfl (by first | decide | simp [Value.category]) dX11_lies_5 (cs2 := (0, 0)) rfl ?_
  obtain rfl := zinj1 h
  exact zb_iret E hQ rfl ⟨Nat.zero_le _, Nat.zero_le _⟩ dX11_lies_8
theorem c_X11_lies {l : Launch} {X : zX} {I : Nat → Nat → Int32} {J : Nat → Nat → Int64} {Rr : Nat → Nat → Option Nat} {D : zD} {a1 : Int32} (v_counters_lying : (Nat → Int32)) (e_v_counters_lying : I 2 = v_counters_lying) {rr : Int32} (h : pK_lies a1 v_counters_lying = some rr) : zMi l yX11_lies cX11_lies 2 (some .int) ({ frames := 2, cells := 0, slots := 0, locals := 41 } : Room) X [.ref (X.1 + 0), .int a1] (I, J, Rr, D) rr (I, J, Rr, D) := by
  refine zMi.of (by decide) (Nat.le_of_ble_eq_true rfl) (fun C E hl hX hQ => ?_)
  subst hl
  subst hX
  have eI0 : I = I := rfl
  have eJ0 : J = J := rfl
  refine zb_S (S2 := (I, J, Rr, D)) (zS_eq eI0.symm eJ0.symm) ?_
  exact c_X11_lies_0 a1 v_counters_lying e_v_counters_lying rr E hQ h
-- ChequeredCloth.worth
abbrev R_pK_worth : Type := Int64
def pK_worth (N : Nat) (v_counters_lying : (Nat → Int32)) : Option R_pK_worth :=
  bd1 (pCounters_total N v_counters_lying) fun rc1 =>
  some rc1
theorem dX11_worth_0 : decode cX11_worth 0 = .ok (.aload_n 0, 1) := by decide +kernel
theorem dX11_worth_1 : decode cX11_worth 1 = .ok (.getfield 16, 3) := by decide +kernel
theorem dX11_worth_4 : decode cX11_worth 4 = .ok (.invokevirtual 69, 3) := by decide +kernel
theorem dX11_worth_7 : decode cX11_worth 7 = .ok (.lreturn, 1) := by decide +kernel
theorem zy_X11_worth : zYv yX11_worth cX11_worth 1 (some .long) 0 := ⟨zw_412, zw_413, zw_1, zw_414, by decide, by decide, by decide⟩
theorem c_X11_worth_0 {C : zC} {I : Nat → Nat → Int32} {J : Nat → Nat → Int64} {Rr : Nat → Nat → Option Nat} {D : zD} (N : Nat) (v_counters_lying : (Nat → Int32)) (e_v_counters_lying : I 2 = v_counters_lying) (rr : Int64) (E : zE C RX11 cX11_worth 1 (some .long) ({ frames := 1, cells := 0, slots := 0, locals := 23 } : Room)) (hQ : C.Q = zQl C ({ frames := 1, cells := 0, slots := 0, locals := 23 } : Room) rr (I, J, Rr, D)) (h : pK_worth N v_counters_lying = some rr) : zB C (0, 0) 0 [(0, .ref (C.X.1 + 0))] [] (I, J, Rr, D) := by
  refine zb_aload_n E dX11_worth_0 0 rfl rfl ?_
  refine zb_get E 0 (by decide) (zF_0 C.X) rfl zin11 0 (by decide) zw_353 (v := .ref (C.X.1 + 1)) rfl dX11_worth_1 ?_
  obtain ⟨rc1, hc_4, h⟩ := bd1_s h
  refine zb_cVl E [] 1 zy_X3_total zw_415 (by decide) (zF_1 _ _ _ _) rfl (c_X3_total v_counters_lying (by exact e_v_counters_lying) hc_4) (by decide) rfl rfl (by first | decide | simp [Value.category]) dX11_worth_4 (cs2 := (0, 0)) rfl ?_
  obtain rfl := zinj1 h
  exact zb_lret E hQ rfl ⟨Nat.zero_le _, Nat.zero_le _⟩ dX11_worth_7
theorem c_X11_worth {l : Launch} {X : zX} {I : Nat → Nat → Int32} {J : Nat → Nat → Int64} {Rr : Nat → Nat → Option Nat} {D : zD} {N : Nat} (v_counters_lying : (Nat → Int32)) (e_v_counters_lying : I 2 = v_counters_lying) {rr : Int64} (h : pK_worth N v_counters_lying = some rr) : zMl l yX11_worth cX11_worth 1 (some .long) ({ frames := 1, cells := 0, slots := 0, locals := 23 } : Room) X [.ref (X.1 + 0)] (I, J, Rr, D) rr (I, J, Rr, D) := by
  refine zMl.of (by decide) (Nat.le_of_ble_eq_true rfl) (fun C E hl hX hQ => ?_)
  subst hl
  subst hX
  have eI0 : I = I := rfl
  have eJ0 : J = J := rfl
  refine zb_S (S2 := (I, J, Rr, D)) (zS_eq eI0.symm eJ0.symm) ?_
  exact c_X11_worth_0 N v_counters_lying e_v_counters_lying rr E hQ h
-- ChequeredCloth.plain
abbrev R_pK_plain : Type := Int32 × (Nat → Int32)
def pK_plain (N : Nat) (a1 : Int32) (a2 : Int32) (v_counters_due : (Nat → Int32)) : Option R_pK_plain :=
  bd2 (pCounters_plainAt N a1 a2 v_counters_due) fun rc1 v_counters_due_c1 =>
  some (rc1, v_counters_due_c1)
theorem dX11_plain_0 : decode cX11_plain 0 = .ok (.aload_n 0, 1) := by decide +kernel
theorem dX11_plain_1 : decode cX11_plain 1 = .ok (.getfield 16, 3) := by decide +kernel
theorem dX11_plain_4 : decode cX11_plain 4 = .ok (.iload_n 1, 1) := by decide +kernel
theorem dX11_plain_5 : decode cX11_plain 5 = .ok (.iload_n 2, 1) := by decide +kernel
theorem dX11_plain_6 : decode cX11_plain 6 = .ok (.invokevirtual 73, 3) := by decide +kernel
theorem dX11_plain_9 : decode cX11_plain 9 = .ok (.ireturn, 1) := by decide +kernel
theorem zy_X11_plain : zYv yX11_plain cX11_plain 3 (some .int) 2 := ⟨zw_422, zw_423, zw_1, zw_424, by decide, by decide, by decide⟩
theorem c_X11_plain_0 {C : zC} {I : Nat → Nat → Int32} {J : Nat → Nat → Int64} {Rr : Nat → Nat → Option Nat} {D : zD} (N : Nat) (a1 : Int32) (a2 : Int32) (rr : Int32) (y_v_counters_due : (Nat → Int32)) (E : zE C RX11 cX11_plain 3 (some .int) ({ frames := 2, cells := 0, slots := 0, locals := 45 } : Room)) (hQ : C.Q = zQi C ({ frames := 2, cells := 0, slots := 0, locals := 45 } : Room) rr ((va_up I 4 y_v_counters_due), J, Rr, D)) (v_counters_due : (Nat → Int32)) (h : pK_plain N a1 a2 v_counters_due = some (rr, y_v_counters_due)) : zB C (0, 0) 0 [(0, .ref (C.X.1 + 0)), (1, .int a1), (2, .int a2)] [] ((va_up I 4 v_counters_due), J, Rr, D) := by
  refine zb_aload_n E dX11_plain_0 0 rfl rfl ?_
  refine zb_get E 0 (by decide) (zF_0 C.X) rfl zin11 0 (by decide) zw_353 (v := .ref (C.X.1 + 1)) rfl dX11_plain_1 ?_
  refine zb_iload_n E dX11_plain_4 1 rfl rfl ?_
  refine zb_iload_n E dX11_plain_5 2 rfl rfl ?_
  obtain ⟨rc1, v_counters_due_c1, hc_6, h⟩ := bd2_s h
  refine zb_cVi E [.int a1, .int a2] 1 zy_X3_plainAt zw_425 (by decide) (zF_1 _ _ _ _) rfl (c_X3_plainAt v_counters_due rfl hc_6) (by decide) rfl rfl (by first | decide | simp [Value.category]) dX11_plain_6 (cs2 := (0, 0)) rfl ?_
  refine zb_S (S2 := ((va_up I 4 v_counters_due_c1), J, Rr, D)) (zS_eq zn1 rfl) ?_
  obtain ⟨rfl, rfl⟩ := zinj2 h
  exact zb_iret E hQ rfl ⟨Nat.zero_le _, Nat.zero_le _⟩ dX11_plain_9
theorem c_X11_plain {l : Launch} {X : zX} {I : Nat → Nat → Int32} {J : Nat → Nat → Int64} {Rr : Nat → Nat → Option Nat} {D : zD} {N : Nat} {a1 : Int32} {a2 : Int32} (v_counters_due : (Nat → Int32)) (e_v_counters_due : I 4 = v_counters_due) {rr : Int32} {y_v_counters_due : (Nat → Int32)} (h : pK_plain N a1 a2 v_counters_due = some (rr, y_v_counters_due)) : zMi l yX11_plain cX11_plain 3 (some .int) ({ frames := 2, cells := 0, slots := 0, locals := 45 } : Room) X [.ref (X.1 + 0), .int a1, .int a2] (I, J, Rr, D) rr ((va_up I 4 y_v_counters_due), J, Rr, D) := by
  refine zMi.of (by decide) (Nat.le_of_ble_eq_true rfl) (fun C E hl hX hQ => ?_)
  subst hl
  subst hX
  have eI0 : (va_up I 4 v_counters_due) = I := by rw [zup_idE e_v_counters_due]
  have eJ0 : J = J := rfl
  refine zb_S (S2 := ((va_up I 4 v_counters_due), J, Rr, D)) (zS_eq eI0.symm eJ0.symm) ?_
  exact c_X11_plain_0 N a1 a2 rr y_v_counters_due E hQ v_counters_due h
-- ChequeredCloth.lay
abbrev R_pK_lay : Type := Int32 × (Nat → Int32) × (Nat → Int32) × (Nat → Int32)
def pK_lay (N : Nat) (a1 : Int32) (v_counters_due : (Nat → Int32)) (v_counters_lying : (Nat → Int32)) (v_counters_trial : (Nat → Int32)) : Option R_pK_lay :=
  bd4 (pCounters_add N a1 v_counters_due v_counters_lying v_counters_trial) fun rc1 v_counters_due_c1 v_counters_lying_c1 v_counters_trial_c1 =>
  some (rc1, v_counters_due_c1, v_counters_lying_c1, v_counters_trial_c1)
theorem dX11_lay_0 : decode cX11_lay 0 = .ok (.aload_n 0, 1) := by decide +kernel
theorem dX11_lay_1 : decode cX11_lay 1 = .ok (.getfield 16, 3) := by decide +kernel
theorem dX11_lay_4 : decode cX11_lay 4 = .ok (.iload_n 1, 1) := by decide +kernel
theorem dX11_lay_5 : decode cX11_lay 5 = .ok (.invokevirtual 77, 3) := by decide +kernel
theorem dX11_lay_8 : decode cX11_lay 8 = .ok (.ireturn, 1) := by decide +kernel
theorem zy_X11_lay : zYv yX11_lay cX11_lay 2 (some .int) 1 := ⟨zw_435, zw_436, zw_1, zw_437, by decide, by decide, by decide⟩
theorem c_X11_lay_0 {C : zC} {I : Nat → Nat → Int32} {J : Nat → Nat → Int64} {Rr : Nat → Nat → Option Nat} {D : zD} (N : Nat) (a1 : Int32) (rr : Int32) (y_v_counters_due : (Nat → Int32)) (y_v_counters_lying : (Nat → Int32)) (y_v_counters_trial : (Nat → Int32)) (E : zE C RX11 cX11_lay 2 (some .int) ({ frames := 2, cells := 0, slots := 0, locals := 94 } : Room)) (hQ : C.Q = zQi C ({ frames := 2, cells := 0, slots := 0, locals := 94 } : Room) rr ((va_up (va_up (va_up I 2 y_v_counters_lying) 3 y_v_counters_trial) 4 y_v_counters_due), J, Rr, D)) (v_counters_due : (Nat → Int32)) (v_counters_lying : (Nat → Int32)) (v_counters_trial : (Nat → Int32)) (h : pK_lay N a1 v_counters_due v_counters_lying v_counters_trial = some (rr, y_v_counters_due, y_v_counters_lying, y_v_counters_trial)) : zB C (0, 0) 0 [(0, .ref (C.X.1 + 0)), (1, .int a1)] [] ((va_up (va_up (va_up I 2 v_counters_lying) 3 v_counters_trial) 4 v_counters_due), J, Rr, D) := by
  refine zb_aload_n E dX11_lay_0 0 rfl rfl ?_
  refine zb_get E 0 (by decide) (zF_0 C.X) rfl zin11 0 (by decide) zw_353 (v := .ref (C.X.1 + 1)) rfl dX11_lay_1 ?_
  refine zb_iload_n E dX11_lay_4 1 rfl rfl ?_
  obtain ⟨rc1, v_counters_due_c1, v_counters_lying_c1, v_counters_trial_c1, hc_5, h⟩ := bd4_s h
  refine zb_cVi E [.int a1] 1 zy_X3_add zw_438 (by decide) (zF_1 _ _ _ _) rfl (c_X3_add v_counters_due rfl v_counters_lying rfl v_counters_trial rfl hc_5) (by decide) rfl rfl (by first | decide | simp [Value.category]) dX11_lay_5 (cs2 := (0, 0)) rfl ?_
  refine zb_S (S2 := ((va_up (va_up (va_up I 2 v_counters_lying_c1) 3 v_counters_trial_c1) 4 v_counters_due_c1), J, Rr, D)) (zS_eq ((zcgF ((zcgF (zn3 (by decide : (4 : Nat) ≠ 2) (by decide : (3 : Nat) ≠ 2))).trans (zn2 (by decide : (4 : Nat) ≠ 3)))).trans zn1) rfl) ?_
  obtain ⟨rfl, rfl, rfl, rfl⟩ := zinj4 h
  exact zb_iret E hQ rfl ⟨Nat.zero_le _, Nat.zero_le _⟩ dX11_lay_8
theorem c_X11_lay {l : Launch} {X : zX} {I : Nat → Nat → Int32} {J : Nat → Nat → Int64} {Rr : Nat → Nat → Option Nat} {D : zD} {N : Nat} {a1 : Int32} (v_counters_due : (Nat → Int32)) (e_v_counters_due : I 4 = v_counters_due) (v_counters_lying : (Nat → Int32)) (e_v_counters_lying : I 2 = v_counters_lying) (v_counters_trial : (Nat → Int32)) (e_v_counters_trial : I 3 = v_counters_trial) {rr : Int32} {y_v_counters_due : (Nat → Int32)} {y_v_counters_lying : (Nat → Int32)} {y_v_counters_trial : (Nat → Int32)} (h : pK_lay N a1 v_counters_due v_counters_lying v_counters_trial = some (rr, y_v_counters_due, y_v_counters_lying, y_v_counters_trial)) : zMi l yX11_lay cX11_lay 2 (some .int) ({ frames := 2, cells := 0, slots := 0, locals := 94 } : Room) X [.ref (X.1 + 0), .int a1] (I, J, Rr, D) rr ((va_up (va_up (va_up I 2 y_v_counters_lying) 3 y_v_counters_trial) 4 y_v_counters_due), J, Rr, D) := by
  refine zMi.of (by decide) (Nat.le_of_ble_eq_true rfl) (fun C E hl hX hQ => ?_)
  subst hl
  subst hX
  have eI0 : (va_up (va_up (va_up I 2 v_counters_lying) 3 v_counters_trial) 4 v_counters_due) = I := by rw [zup_idE e_v_counters_lying, zup_idE e_v_counters_trial, zup_idE e_v_counters_due]
  have eJ0 : J = J := rfl
  refine zb_S (S2 := ((va_up (va_up (va_up I 2 v_counters_lying) 3 v_counters_trial) 4 v_counters_due), J, Rr, D)) (zS_eq eI0.symm eJ0.symm) ?_
  exact c_X11_lay_0 N a1 rr y_v_counters_due y_v_counters_lying y_v_counters_trial E hQ v_counters_due v_counters_lying v_counters_trial h
-- ChequeredCloth.draw
abbrev R_pK_draw : Type := Int32 × (Nat → Int32) × (Nat → Int32) × (Nat → Int32)
def pK_draw (N : Nat) (a1 : Int32) (v_counters_due : (Nat → Int32)) (v_counters_lying : (Nat → Int32)) (v_counters_trial : (Nat → Int32)) : Option R_pK_draw :=
  bd4 (pCounters_take N a1 v_counters_due v_counters_lying v_counters_trial) fun rc1 v_counters_due_c1 v_counters_lying_c1 v_counters_trial_c1 =>
  some (rc1, v_counters_due_c1, v_counters_lying_c1, v_counters_trial_c1)
theorem dX11_draw_0 : decode cX11_draw 0 = .ok (.aload_n 0, 1) := by decide +kernel
theorem dX11_draw_1 : decode cX11_draw 1 = .ok (.getfield 16, 3) := by decide +kernel
theorem dX11_draw_4 : decode cX11_draw 4 = .ok (.iload_n 1, 1) := by decide +kernel
theorem dX11_draw_5 : decode cX11_draw 5 = .ok (.invokevirtual 80, 3) := by decide +kernel
theorem dX11_draw_8 : decode cX11_draw 8 = .ok (.ireturn, 1) := by decide +kernel
theorem zy_X11_draw : zYv yX11_draw cX11_draw 2 (some .int) 1 := ⟨zw_452, zw_453, zw_1, zw_454, by decide, by decide, by decide⟩
theorem c_X11_draw_0 {C : zC} {I : Nat → Nat → Int32} {J : Nat → Nat → Int64} {Rr : Nat → Nat → Option Nat} {D : zD} (N : Nat) (a1 : Int32) (rr : Int32) (y_v_counters_due : (Nat → Int32)) (y_v_counters_lying : (Nat → Int32)) (y_v_counters_trial : (Nat → Int32)) (E : zE C RX11 cX11_draw 2 (some .int) ({ frames := 2, cells := 0, slots := 0, locals := 96 } : Room)) (hQ : C.Q = zQi C ({ frames := 2, cells := 0, slots := 0, locals := 96 } : Room) rr ((va_up (va_up (va_up I 2 y_v_counters_lying) 3 y_v_counters_trial) 4 y_v_counters_due), J, Rr, D)) (v_counters_due : (Nat → Int32)) (v_counters_lying : (Nat → Int32)) (v_counters_trial : (Nat → Int32)) (h : pK_draw N a1 v_counters_due v_counters_lying v_counters_trial = some (rr, y_v_counters_due, y_v_counters_lying, y_v_counters_trial)) : zB C (0, 0) 0 [(0, .ref (C.X.1 + 0)), (1, .int a1)] [] ((va_up (va_up (va_up I 2 v_counters_lying) 3 v_counters_trial) 4 v_counters_due), J, Rr, D) := by
  refine zb_aload_n E dX11_draw_0 0 rfl rfl ?_
  refine zb_get E 0 (by decide) (zF_0 C.X) rfl zin11 0 (by decide) zw_353 (v := .ref (C.X.1 + 1)) rfl dX11_draw_1 ?_
  refine zb_iload_n E dX11_draw_4 1 rfl rfl ?_
  obtain ⟨rc1, v_counters_due_c1, v_counters_lying_c1, v_counters_trial_c1, hc_5, h⟩ := bd4_s h
  refine zb_cVi E [.int a1] 1 zy_X3_take zw_455 (by decide) (zF_1 _ _ _ _) rfl (c_X3_take v_counters_due rfl v_counters_lying rfl v_counters_trial rfl hc_5) (by decide) rfl rfl (by first | decide | simp [Value.category]) dX11_draw_5 (cs2 := (0, 0)) rfl ?_
  refine zb_S (S2 := ((va_up (va_up (va_up I 2 v_counters_lying_c1) 3 v_counters_trial_c1) 4 v_counters_due_c1), J, Rr, D)) (zS_eq ((zcgF ((zcgF (zn3 (by decide : (4 : Nat) ≠ 2) (by decide : (3 : Nat) ≠ 2))).trans (zn2 (by decide : (4 : Nat) ≠ 3)))).trans zn1) rfl) ?_
  obtain ⟨rfl, rfl, rfl, rfl⟩ := zinj4 h
  exact zb_iret E hQ rfl ⟨Nat.zero_le _, Nat.zero_le _⟩ dX11_draw_8
theorem c_X11_draw {l : Launch} {X : zX} {I : Nat → Nat → Int32} {J : Nat → Nat → Int64} {Rr : Nat → Nat → Option Nat} {D : zD} {N : Nat} {a1 : Int32} (v_counters_due : (Nat → Int32)) (e_v_counters_due : I 4 = v_counters_due) (v_counters_lying : (Nat → Int32)) (e_v_counters_lying : I 2 = v_counters_lying) (v_counters_trial : (Nat → Int32)) (e_v_counters_trial : I 3 = v_counters_trial) {rr : Int32} {y_v_counters_due : (Nat → Int32)} {y_v_counters_lying : (Nat → Int32)} {y_v_counters_trial : (Nat → Int32)} (h : pK_draw N a1 v_counters_due v_counters_lying v_counters_trial = some (rr, y_v_counters_due, y_v_counters_lying, y_v_counters_trial)) : zMi l yX11_draw cX11_draw 2 (some .int) ({ frames := 2, cells := 0, slots := 0, locals := 96 } : Room) X [.ref (X.1 + 0), .int a1] (I, J, Rr, D) rr ((va_up (va_up (va_up I 2 y_v_counters_lying) 3 y_v_counters_trial) 4 y_v_counters_due), J, Rr, D) := by
  refine zMi.of (by decide) (Nat.le_of_ble_eq_true rfl) (fun C E hl hX hQ => ?_)
  subst hl
  subst hX
  have eI0 : (va_up (va_up (va_up I 2 v_counters_lying) 3 v_counters_trial) 4 v_counters_due) = I := by rw [zup_idE e_v_counters_lying, zup_idE e_v_counters_trial, zup_idE e_v_counters_due]
  have eJ0 : J = J := rfl
  refine zb_S (S2 := ((va_up (va_up (va_up I 2 v_counters_lying) 3 v_counters_trial) 4 v_counters_due), J, Rr, D)) (zS_eq eI0.symm eJ0.symm) ?_
  exact c_X11_draw_0 N a1 rr y_v_counters_due y_v_counters_lying y_v_counters_trial E hQ v_counters_due v_counters_lying v_counters_trial h
-- ChequeredCloth.steps
abbrev R_pK_steps : Type := Int32 × (Nat → Int32)
def pK_steps (N : Nat) (a1 : Int32) (v_counters_due : (Nat → Int32)) (v_counters_lying : (Nat → Int32)) : Option R_pK_steps :=
  bd2 (pCounters_fewestSteps N a1 v_counters_due v_counters_lying) fun rc1 v_counters_due_c1 =>
  some (rc1, v_counters_due_c1)
theorem dX11_steps_0 : decode cX11_steps 0 = .ok (.aload_n 0, 1) := by decide +kernel
theorem dX11_steps_1 : decode cX11_steps 1 = .ok (.getfield 16, 3) := by decide +kernel
theorem dX11_steps_4 : decode cX11_steps 4 = .ok (.iload_n 1, 1) := by decide +kernel
theorem dX11_steps_5 : decode cX11_steps 5 = .ok (.invokevirtual 83, 3) := by decide +kernel
theorem dX11_steps_8 : decode cX11_steps 8 = .ok (.ireturn, 1) := by decide +kernel
theorem zy_X11_steps : zYv yX11_steps cX11_steps 2 (some .int) 1 := ⟨zw_464, zw_465, zw_1, zw_466, by decide, by decide, by decide⟩
theorem c_X11_steps_0 {C : zC} {I : Nat → Nat → Int32} {J : Nat → Nat → Int64} {Rr : Nat → Nat → Option Nat} {D : zD} (N : Nat) (a1 : Int32) (v_counters_lying : (Nat → Int32)) (e_v_counters_lying : I 2 = v_counters_lying) (rr : Int32) (y_v_counters_due : (Nat → Int32)) (E : zE C RX11 cX11_steps 2 (some .int) ({ frames := 3, cells := 0, slots := 0, locals := 84 } : Room)) (hQ : C.Q = zQi C ({ frames := 3, cells := 0, slots := 0, locals := 84 } : Room) rr ((va_up I 4 y_v_counters_due), J, Rr, D)) (v_counters_due : (Nat → Int32)) (h : pK_steps N a1 v_counters_due v_counters_lying = some (rr, y_v_counters_due)) : zB C (0, 0) 0 [(0, .ref (C.X.1 + 0)), (1, .int a1)] [] ((va_up I 4 v_counters_due), J, Rr, D) := by
  refine zb_aload_n E dX11_steps_0 0 rfl rfl ?_
  refine zb_get E 0 (by decide) (zF_0 C.X) rfl zin11 0 (by decide) zw_353 (v := .ref (C.X.1 + 1)) rfl dX11_steps_1 ?_
  refine zb_iload_n E dX11_steps_4 1 rfl rfl ?_
  obtain ⟨rc1, v_counters_due_c1, hc_5, h⟩ := bd2_s h
  refine zb_cVi E [.int a1] 1 zy_X3_fewestSteps zw_467 (by decide) (zF_1 _ _ _ _) rfl (c_X3_fewestSteps v_counters_lying (by exact e_v_counters_lying) v_counters_due rfl hc_5) (by decide) rfl rfl (by first | decide | simp [Value.category]) dX11_steps_5 (cs2 := (0, 0)) rfl ?_
  refine zb_S (S2 := ((va_up I 4 v_counters_due_c1), J, Rr, D)) (zS_eq zn1 rfl) ?_
  obtain ⟨rfl, rfl⟩ := zinj2 h
  exact zb_iret E hQ rfl ⟨Nat.zero_le _, Nat.zero_le _⟩ dX11_steps_8
theorem c_X11_steps {l : Launch} {X : zX} {I : Nat → Nat → Int32} {J : Nat → Nat → Int64} {Rr : Nat → Nat → Option Nat} {D : zD} {N : Nat} {a1 : Int32} (v_counters_lying : (Nat → Int32)) (e_v_counters_lying : I 2 = v_counters_lying) (v_counters_due : (Nat → Int32)) (e_v_counters_due : I 4 = v_counters_due) {rr : Int32} {y_v_counters_due : (Nat → Int32)} (h : pK_steps N a1 v_counters_due v_counters_lying = some (rr, y_v_counters_due)) : zMi l yX11_steps cX11_steps 2 (some .int) ({ frames := 3, cells := 0, slots := 0, locals := 84 } : Room) X [.ref (X.1 + 0), .int a1] (I, J, Rr, D) rr ((va_up I 4 y_v_counters_due), J, Rr, D) := by
  refine zMi.of (by decide) (Nat.le_of_ble_eq_true rfl) (fun C E hl hX hQ => ?_)
  subst hl
  subst hX
  have eI0 : (va_up I 4 v_counters_due) = I := by rw [zup_idE e_v_counters_due]
  have eJ0 : J = J := rfl
  refine zb_S (S2 := ((va_up I 4 v_counters_due), J, Rr, D)) (zS_eq eI0.symm eJ0.symm) ?_
  exact c_X11_steps_0 N a1 v_counters_lying e_v_counters_lying rr y_v_counters_due E hQ v_counters_due h
-- ChequeredCloth.cut
abbrev R_pK_cut : Type := Int32 × Int32 × Int32 × (Nat → Int32) × (Nat → Int32) × (Nat → Int32) × (Nat → Int32)
def pK_cut (N : Nat) (a1 : Int32) (a2 : Int32) (a3 : Int32) (a4 : Int32) (v_chest_changes : Int32) (v_chest_isMatched : Int32) (v_chest_fits : (Nat → Int32)) (v_chest_places : (Nat → Int32)) (v_chest_sizes : (Nat → Int32)) (v_chest_worths : (Nat → Int32)) : Option R_pK_cut :=
  bd1 (pK_isStick a2) fun rc1 =>
  if rc1 = 0 then
    some ((-1), v_chest_changes, v_chest_isMatched, v_chest_fits, v_chest_places, v_chest_sizes, v_chest_worths)
  else
    bd1 (pK_half a1 a2) fun rc2 =>
    bd7 (pChest_addCut N rc2 a3 a4 v_chest_changes v_chest_isMatched v_chest_fits v_chest_places v_chest_sizes v_chest_worths) fun rc3 v_chest_changes_c3 v_chest_isMatched_c3 v_chest_fits_c3 v_chest_places_c3 v_chest_sizes_c3 v_chest_worths_c3 =>
    some (rc3, v_chest_changes_c3, v_chest_isMatched_c3, v_chest_fits_c3, v_chest_places_c3, v_chest_sizes_c3, v_chest_worths_c3)
theorem dX11_cut_0 : decode cX11_cut 0 = .ok (.iload_n 2, 1) := by decide +kernel
theorem dX11_cut_1 : decode cX11_cut 1 = .ok (.invokestatic 86, 3) := by decide +kernel
theorem dX11_cut_4 : decode cX11_cut 4 = .ok (.ifCond .eq 21, 3) := by decide +kernel
theorem dX11_cut_7 : decode cX11_cut 7 = .ok (.aload_n 0, 1) := by decide +kernel
theorem dX11_cut_8 : decode cX11_cut 8 = .ok (.getfield 23, 3) := by decide +kernel
theorem dX11_cut_11 : decode cX11_cut 11 = .ok (.iload_n 1, 1) := by decide +kernel
theorem dX11_cut_12 : decode cX11_cut 12 = .ok (.iload_n 2, 1) := by decide +kernel
theorem dX11_cut_13 : decode cX11_cut 13 = .ok (.invokestatic 89, 3) := by decide +kernel
theorem dX11_cut_16 : decode cX11_cut 16 = .ok (.iload_n 3, 1) := by decide +kernel
theorem dX11_cut_17 : decode cX11_cut 17 = .ok (.iload 4, 2) := by decide +kernel
theorem dX11_cut_19 : decode cX11_cut 19 = .ok (.invokevirtual 93, 3) := by decide +kernel
theorem dX11_cut_22 : decode cX11_cut 22 = .ok (.goto 4, 3) := by decide +kernel
theorem dX11_cut_25 : decode cX11_cut 25 = .ok (.iconst (-1), 1) := by decide +kernel
theorem dX11_cut_26 : decode cX11_cut 26 = .ok (.ireturn, 1) := by decide +kernel
theorem zy_X11_cut : zYv yX11_cut cX11_cut 5 (some .int) 4 := ⟨zw_484, zw_485, zw_1, zw_486, by decide, by decide, by decide⟩
theorem c_X11_cut_0 {C : zC} {I : Nat → Nat → Int32} {J : Nat → Nat → Int64} {Rr : Nat → Nat → Option Nat} {D : zD} (N : Nat) (a1 : Int32) (a2 : Int32) (a3 : Int32) (a4 : Int32) (rr : Int32) (y_v_chest_changes : Int32) (y_v_chest_isMatched : Int32) (y_v_chest_fits : (Nat → Int32)) (y_v_chest_places : (Nat → Int32)) (y_v_chest_sizes : (Nat → Int32)) (y_v_chest_worths : (Nat → Int32)) (E : zE C RX11 cX11_cut 5 (some .int) ({ frames := 2, cells := 0, slots := 0, locals := 47 } : Room)) (hQ : C.Q = zQi C ({ frames := 2, cells := 0, slots := 0, locals := 47 } : Room) rr ((va_up (va_up (va_up (va_up (va_up I 5 (va_up (va_up (I 5) 11 y_v_chest_isMatched) 12 y_v_chest_changes)) 6 y_v_chest_places) 7 y_v_chest_worths) 8 y_v_chest_sizes) 9 y_v_chest_fits), J, Rr, D)) (v_chest_changes : Int32) (v_chest_isMatched : Int32) (v_chest_fits : (Nat → Int32)) (v_chest_places : (Nat → Int32)) (v_chest_sizes : (Nat → Int32)) (v_chest_worths : (Nat → Int32)) (h : pK_cut N a1 a2 a3 a4 v_chest_changes v_chest_isMatched v_chest_fits v_chest_places v_chest_sizes v_chest_worths = some (rr, y_v_chest_changes, y_v_chest_isMatched, y_v_chest_fits, y_v_chest_places, y_v_chest_sizes, y_v_chest_worths)) : zB C (0, 0) 0 [(0, .ref (C.X.1 + 0)), (1, .int a1), (2, .int a2), (3, .int a3), (4, .int a4)] [] ((va_up (va_up (va_up (va_up (va_up I 5 (va_up (va_up (I 5) 11 v_chest_isMatched) 12 v_chest_changes)) 6 v_chest_places) 7 v_chest_worths) 8 v_chest_sizes) 9 v_chest_fits), J, Rr, D) := by
  refine zb_iload_n E dX11_cut_0 2 rfl rfl ?_
  obtain ⟨rc1, hc_1, h⟩ := bd1_s h
  refine zb_cSi E [.int a2] zy_X11_isStick zw_487 (c_X11_isStick hc_1) (by decide) rfl rfl (by first | decide | simp [Value.category]) dX11_cut_1 (cs2 := (0, 0)) rfl ?_
  refine zb_if_eq E dX11_cut_4 (tgt := 25) rfl (fun hc => ?_) (fun hc => ?_)
  · have h := if_t h hc
    refine zb_iconst E dX11_cut_25 (v := (-1)) rfl ?_
    obtain ⟨rfl, rfl, rfl, rfl, rfl, rfl, rfl⟩ := zinj7 h
    exact zb_iret E hQ rfl ⟨Nat.zero_le _, Nat.zero_le _⟩ dX11_cut_26
  · have h := if_f h hc
    refine zb_aload_n E dX11_cut_7 0 rfl rfl ?_
    refine zb_get E 0 (by decide) (zF_0 C.X) rfl zin11 1 (by decide) zw_354 (v := .ref (C.X.1 + 5)) rfl dX11_cut_8 ?_
    refine zb_iload_n E dX11_cut_11 1 rfl rfl ?_
    refine zb_iload_n E dX11_cut_12 2 rfl rfl ?_
    obtain ⟨rc2, hc_13, h⟩ := bd1_s h
    refine zb_cSi E [.int a1, .int a2] zy_X11_half zw_490 (c_X11_half hc_13) (by decide) rfl rfl (by first | decide | simp [Value.category]) dX11_cut_13 (cs2 := (0, 0)) rfl ?_
    refine zb_iload_n E dX11_cut_16 3 rfl rfl ?_
    refine zb_iload E dX11_cut_17 4 rfl ?_
    obtain ⟨rc3, v_chest_changes_c3, v_chest_isMatched_c3, v_chest_fits_c3, v_chest_places_c3, v_chest_sizes_c3, v_chest_worths_c3, hc_19, h⟩ := bd7_s h
    refine zb_cVi E [.int rc2, .int a3, .int a4] 5 zy_X2_addCut zw_493 (by decide) (zF_5 _ _ _ _) rfl (c_X2_addCut (va_up (va_up (I 5) 11 v_chest_isMatched) 12 v_chest_changes) rfl v_chest_changes rfl v_chest_isMatched rfl v_chest_fits rfl v_chest_places rfl v_chest_sizes rfl v_chest_worths rfl hc_19) (by decide) rfl rfl (by first | decide | simp [Value.category]) dX11_cut_19 (cs2 := (0, 0)) rfl ?_
    refine zb_S (S2 := ((va_up (va_up (va_up (va_up (va_up I 5 (va_up (va_up (I 5) 11 v_chest_isMatched_c3) 12 v_chest_changes_c3)) 6 v_chest_places_c3) 7 v_chest_worths_c3) 8 v_chest_sizes_c3) 9 v_chest_fits_c3), J, Rr, D)) (zS_eq ((zcgF ((zcgF ((zcgF ((zcgF ((zcgV ((zcgF (zn2 (by decide : (12 : Nat) ≠ 11))).trans zn1)).trans (zn5 (by decide : (9 : Nat) ≠ 5) (by decide : (8 : Nat) ≠ 5) (by decide : (7 : Nat) ≠ 5) (by decide : (6 : Nat) ≠ 5)))).trans (zn4 (by decide : (9 : Nat) ≠ 6) (by decide : (8 : Nat) ≠ 6) (by decide : (7 : Nat) ≠ 6)))).trans (zn3 (by decide : (9 : Nat) ≠ 7) (by decide : (8 : Nat) ≠ 7)))).trans (zn2 (by decide : (9 : Nat) ≠ 8)))).trans zn1) rfl) ?_
    refine zb_goto E dX11_cut_22 (tgt := 26) rfl ?_
    obtain ⟨rfl, rfl, rfl, rfl, rfl, rfl, rfl⟩ := zinj7 h
    exact zb_iret E hQ rfl ⟨Nat.zero_le _, Nat.zero_le _⟩ dX11_cut_26
theorem c_X11_cut {l : Launch} {X : zX} {I : Nat → Nat → Int32} {J : Nat → Nat → Int64} {Rr : Nat → Nat → Option Nat} {D : zD} {N : Nat} {a1 : Int32} {a2 : Int32} {a3 : Int32} {a4 : Int32} (oI5 : Nat → Int32) (eoI5 : I 5 = oI5) (v_chest_changes : Int32) (e_v_chest_changes : I 5 12 = v_chest_changes) (v_chest_isMatched : Int32) (e_v_chest_isMatched : I 5 11 = v_chest_isMatched) (v_chest_fits : (Nat → Int32)) (e_v_chest_fits : I 9 = v_chest_fits) (v_chest_places : (Nat → Int32)) (e_v_chest_places : I 6 = v_chest_places) (v_chest_sizes : (Nat → Int32)) (e_v_chest_sizes : I 8 = v_chest_sizes) (v_chest_worths : (Nat → Int32)) (e_v_chest_worths : I 7 = v_chest_worths) {rr : Int32} {y_v_chest_changes : Int32} {y_v_chest_isMatched : Int32} {y_v_chest_fits : (Nat → Int32)} {y_v_chest_places : (Nat → Int32)} {y_v_chest_sizes : (Nat → Int32)} {y_v_chest_worths : (Nat → Int32)} (h : pK_cut N a1 a2 a3 a4 v_chest_changes v_chest_isMatched v_chest_fits v_chest_places v_chest_sizes v_chest_worths = some (rr, y_v_chest_changes, y_v_chest_isMatched, y_v_chest_fits, y_v_chest_places, y_v_chest_sizes, y_v_chest_worths)) : zMi l yX11_cut cX11_cut 5 (some .int) ({ frames := 2, cells := 0, slots := 0, locals := 47 } : Room) X [.ref (X.1 + 0), .int a1, .int a2, .int a3, .int a4] (I, J, Rr, D) rr ((va_up (va_up (va_up (va_up (va_up I 5 (va_up (va_up oI5 11 y_v_chest_isMatched) 12 y_v_chest_changes)) 6 y_v_chest_places) 7 y_v_chest_worths) 8 y_v_chest_sizes) 9 y_v_chest_fits), J, Rr, D) := by
  subst eoI5
  refine zMi.of (by decide) (Nat.le_of_ble_eq_true rfl) (fun C E hl hX hQ => ?_)
  subst hl
  subst hX
  have eI0 : (va_up (va_up (va_up (va_up (va_up I 5 (va_up (va_up (I 5) 11 v_chest_isMatched) 12 v_chest_changes)) 6 v_chest_places) 7 v_chest_worths) 8 v_chest_sizes) 9 v_chest_fits) = I := by rw [zup_idE e_v_chest_isMatched, zup_idE e_v_chest_changes, zup_id, zup_idE e_v_chest_places, zup_idE e_v_chest_worths, zup_idE e_v_chest_sizes, zup_idE e_v_chest_fits]
  have eJ0 : J = J := rfl
  refine zb_S (S2 := ((va_up (va_up (va_up (va_up (va_up I 5 (va_up (va_up (I 5) 11 v_chest_isMatched) 12 v_chest_changes)) 6 v_chest_places) 7 v_chest_worths) 8 v_chest_sizes) 9 v_chest_fits), J, Rr, D)) (zS_eq eI0.symm eJ0.symm) ?_
  exact c_X11_cut_0 N a1 a2 a3 a4 rr y_v_chest_changes y_v_chest_isMatched y_v_chest_fits y_v_chest_places y_v_chest_sizes y_v_chest_worths E hQ v_chest_changes v_chest_isMatched v_chest_fits v_chest_places v_chest_sizes v_chest_worths h
-- ChequeredCloth.burn
abbrev R_pK_burn : Type := Int32 × Int32 × Int32 × (Nat → Int32) × (Nat → Int32)
def pK_burn (N : Nat) (a1 : Int32) (a2 : Int32) (v_chest_changes : Int32) (v_chest_isMatched : Int32) (v_chest_fits : (Nat → Int32)) (v_chest_sizes : (Nat → Int32)) : Option R_pK_burn :=
  bd1 (pK_isStick a2) fun rc1 =>
  if rc1 = 0 then
    some (0, v_chest_changes, v_chest_isMatched, v_chest_fits, v_chest_sizes)
  else
    bd1 (pK_half a1 a2) fun rc2 =>
    bd5 (pChest_clear N rc2 v_chest_changes v_chest_isMatched v_chest_fits v_chest_sizes) fun rc3 v_chest_changes_c3 v_chest_isMatched_c3 v_chest_fits_c3 v_chest_sizes_c3 =>
    if rc3 = 0 then
      some (0, v_chest_changes_c3, v_chest_isMatched_c3, v_chest_fits_c3, v_chest_sizes_c3)
    else
      some (1, v_chest_changes_c3, v_chest_isMatched_c3, v_chest_fits_c3, v_chest_sizes_c3)
theorem dX11_burn_0 : decode cX11_burn 0 = .ok (.iload_n 2, 1) := by decide +kernel
theorem dX11_burn_1 : decode cX11_burn 1 = .ok (.invokestatic 86, 3) := by decide +kernel
theorem dX11_burn_4 : decode cX11_burn 4 = .ok (.ifCond .eq 22, 3) := by decide +kernel
theorem dX11_burn_7 : decode cX11_burn 7 = .ok (.aload_n 0, 1) := by decide +kernel
theorem dX11_burn_8 : decode cX11_burn 8 = .ok (.getfield 23, 3) := by decide +kernel
theorem dX11_burn_11 : decode cX11_burn 11 = .ok (.iload_n 1, 1) := by decide +kernel
theorem dX11_burn_12 : decode cX11_burn 12 = .ok (.iload_n 2, 1) := by decide +kernel
theorem dX11_burn_13 : decode cX11_burn 13 = .ok (.invokestatic 89, 3) := by decide +kernel
theorem dX11_burn_16 : decode cX11_burn 16 = .ok (.invokevirtual 97, 3) := by decide +kernel
theorem dX11_burn_19 : decode cX11_burn 19 = .ok (.ifCond .eq 7, 3) := by decide +kernel
theorem dX11_burn_22 : decode cX11_burn 22 = .ok (.iconst 1, 1) := by decide +kernel
theorem dX11_burn_23 : decode cX11_burn 23 = .ok (.goto 4, 3) := by decide +kernel
theorem dX11_burn_26 : decode cX11_burn 26 = .ok (.iconst 0, 1) := by decide +kernel
theorem dX11_burn_27 : decode cX11_burn 27 = .ok (.ireturn, 1) := by decide +kernel
theorem zy_X11_burn : zYv yX11_burn cX11_burn 3 (some .boolean) 2 := ⟨zw_507, zw_508, zw_1, zw_509, by decide, by decide, by decide⟩
theorem c_X11_burn_0 {C : zC} {I : Nat → Nat → Int32} {J : Nat → Nat → Int64} {Rr : Nat → Nat → Option Nat} {D : zD} (N : Nat) (a1 : Int32) (a2 : Int32) (rr : Int32) (y_v_chest_changes : Int32) (y_v_chest_isMatched : Int32) (y_v_chest_fits : (Nat → Int32)) (y_v_chest_sizes : (Nat → Int32)) (E : zE C RX11 cX11_burn 3 (some .boolean) ({ frames := 3, cells := 0, slots := 0, locals := 62 } : Room)) (hQ : C.Q = zQi C ({ frames := 3, cells := 0, slots := 0, locals := 62 } : Room) rr ((va_up (va_up (va_up I 5 (va_up (va_up (I 5) 11 y_v_chest_isMatched) 12 y_v_chest_changes)) 8 y_v_chest_sizes) 9 y_v_chest_fits), J, Rr, D)) (v_chest_changes : Int32) (v_chest_isMatched : Int32) (v_chest_fits : (Nat → Int32)) (v_chest_sizes : (Nat → Int32)) (h : pK_burn N a1 a2 v_chest_changes v_chest_isMatched v_chest_fits v_chest_sizes = some (rr, y_v_chest_changes, y_v_chest_isMatched, y_v_chest_fits, y_v_chest_sizes)) : zB C (0, 0) 0 [(0, .ref (C.X.1 + 0)), (1, .int a1), (2, .int a2)] [] ((va_up (va_up (va_up I 5 (va_up (va_up (I 5) 11 v_chest_isMatched) 12 v_chest_changes)) 8 v_chest_sizes) 9 v_chest_fits), J, Rr, D) := by
  refine zb_iload_n E dX11_burn_0 2 rfl rfl ?_
  obtain ⟨rc1, hc_1, h⟩ := bd1_s h
  refine zb_cSi E [.int a2] zy_X11_isStick zw_487 (c_X11_isStick hc_1) (by decide) rfl rfl (by first | decide | simp [Value.category]) dX11_burn_1 (cs2 := (0, 0)) rfl ?_
  refine zb_if_eq E dX11_burn_4 (tgt := 26) rfl (fun hc => ?_) (fun hc => ?_)
  · have h := if_t h hc
    refine zb_iconst E dX11_burn_26 (v := 0) rfl ?_
    obtain ⟨rfl, rfl, rfl, rfl, rfl⟩ := zinj5 h
    exact zb_zret E hQ (ty := .boolean) rfl rfl ⟨Nat.zero_le _, Nat.zero_le _⟩ dX11_burn_27
  · have h := if_f h hc
    refine zb_aload_n E dX11_burn_7 0 rfl rfl ?_
    refine zb_get E 0 (by decide) (zF_0 C.X) rfl zin11 1 (by decide) zw_354 (v := .ref (C.X.1 + 5)) rfl dX11_burn_8 ?_
    refine zb_iload_n E dX11_burn_11 1 rfl rfl ?_
    refine zb_iload_n E dX11_burn_12 2 rfl rfl ?_
    obtain ⟨rc2, hc_13, h⟩ := bd1_s h
    refine zb_cSi E [.int a1, .int a2] zy_X11_half zw_490 (c_X11_half hc_13) (by decide) rfl rfl (by first | decide | simp [Value.category]) dX11_burn_13 (cs2 := (0, 0)) rfl ?_
    obtain ⟨rc3, v_chest_changes_c3, v_chest_isMatched_c3, v_chest_fits_c3, v_chest_sizes_c3, hc_16, h⟩ := bd5_s h
    refine zb_cVi E [.int rc2] 5 zy_X2_clear zw_510 (by decide) (zF_5 _ _ _ _) rfl (c_X2_clear (va_up (va_up (I 5) 11 v_chest_isMatched) 12 v_chest_changes) rfl v_chest_changes rfl v_chest_isMatched rfl v_chest_fits rfl v_chest_sizes rfl hc_16) (by decide) rfl rfl (by first | decide | simp [Value.category]) dX11_burn_16 (cs2 := (0, 0)) rfl ?_
    refine zb_S (S2 := ((va_up (va_up (va_up I 5 (va_up (va_up (I 5) 11 v_chest_isMatched_c3) 12 v_chest_changes_c3)) 8 v_chest_sizes_c3) 9 v_chest_fits_c3), J, Rr, D)) (zS_eq ((zcgF ((zcgF ((zcgV ((zcgF (zn2 (by decide : (12 : Nat) ≠ 11))).trans zn1)).trans (zn3 (by decide : (9 : Nat) ≠ 5) (by decide : (8 : Nat) ≠ 5)))).trans (zn2 (by decide : (9 : Nat) ≠ 8)))).trans zn1) rfl) ?_
    refine zb_if_eq E dX11_burn_19 (tgt := 26) rfl (fun hc => ?_) (fun hc => ?_)
    · have h := if_t h hc
      refine zb_iconst E dX11_burn_26 (v := 0) rfl ?_
      obtain ⟨rfl, rfl, rfl, rfl, rfl⟩ := zinj5 h
      exact zb_zret E hQ (ty := .boolean) rfl rfl ⟨Nat.zero_le _, Nat.zero_le _⟩ dX11_burn_27
    · have h := if_f h hc
      refine zb_iconst E dX11_burn_22 (v := 1) rfl ?_
      refine zb_goto E dX11_burn_23 (tgt := 27) rfl ?_
      obtain ⟨rfl, rfl, rfl, rfl, rfl⟩ := zinj5 h
      exact zb_zret E hQ (ty := .boolean) rfl rfl ⟨Nat.zero_le _, Nat.zero_le _⟩ dX11_burn_27
theorem c_X11_burn {l : Launch} {X : zX} {I : Nat → Nat → Int32} {J : Nat → Nat → Int64} {Rr : Nat → Nat → Option Nat} {D : zD} {N : Nat} {a1 : Int32} {a2 : Int32} (oI5 : Nat → Int32) (eoI5 : I 5 = oI5) (v_chest_changes : Int32) (e_v_chest_changes : I 5 12 = v_chest_changes) (v_chest_isMatched : Int32) (e_v_chest_isMatched : I 5 11 = v_chest_isMatched) (v_chest_fits : (Nat → Int32)) (e_v_chest_fits : I 9 = v_chest_fits) (v_chest_sizes : (Nat → Int32)) (e_v_chest_sizes : I 8 = v_chest_sizes) {rr : Int32} {y_v_chest_changes : Int32} {y_v_chest_isMatched : Int32} {y_v_chest_fits : (Nat → Int32)} {y_v_chest_sizes : (Nat → Int32)} (h : pK_burn N a1 a2 v_chest_changes v_chest_isMatched v_chest_fits v_chest_sizes = some (rr, y_v_chest_changes, y_v_chest_isMatched, y_v_chest_fits, y_v_chest_sizes)) : zMi l yX11_burn cX11_burn 3 (some .boolean) ({ frames := 3, cells := 0, slots := 0, locals := 62 } : Room) X [.ref (X.1 + 0), .int a1, .int a2] (I, J, Rr, D) rr ((va_up (va_up (va_up I 5 (va_up (va_up oI5 11 y_v_chest_isMatched) 12 y_v_chest_changes)) 8 y_v_chest_sizes) 9 y_v_chest_fits), J, Rr, D) := by
  subst eoI5
  refine zMi.of (by decide) (Nat.le_of_ble_eq_true rfl) (fun C E hl hX hQ => ?_)
  subst hl
  subst hX
  have eI0 : (va_up (va_up (va_up I 5 (va_up (va_up (I 5) 11 v_chest_isMatched) 12 v_chest_changes)) 8 v_chest_sizes) 9 v_chest_fits) = I := by rw [zup_idE e_v_chest_isMatched, zup_idE e_v_chest_changes, zup_id, zup_idE e_v_chest_sizes, zup_idE e_v_chest_fits]
  have eJ0 : J = J := rfl
  refine zb_S (S2 := ((va_up (va_up (va_up I 5 (va_up (va_up (I 5) 11 v_chest_isMatched) 12 v_chest_changes)) 8 v_chest_sizes) 9 v_chest_fits), J, Rr, D)) (zS_eq eI0.symm eJ0.symm) ?_
  exact c_X11_burn_0 N a1 a2 rr y_v_chest_changes y_v_chest_isMatched y_v_chest_fits y_v_chest_sizes E hQ v_chest_changes v_chest_isMatched v_chest_fits v_chest_sizes h
-- ChequeredCloth.sum
abbrev R_pK_sum : Type := Int32
def pK_sum (N : Nat) (a1 : Int32) (a2 : Int32) (v_chest_sizes : (Nat → Int32)) (v_chest_worths : (Nat → Int32)) : Option R_pK_sum :=
  bd1 (pK_isStick a2) fun rc1 =>
  if rc1 = 0 then
    some (-1)
  else
    bd1 (pK_half a1 a2) fun rc2 =>
    bd1 (pChest_worthOf N rc2 v_chest_sizes v_chest_worths) fun rc3 =>
    some rc3
theorem dX11_sum_0 : decode cX11_sum 0 = .ok (.iload_n 2, 1) := by decide +kernel
theorem dX11_sum_1 : decode cX11_sum 1 = .ok (.invokestatic 86, 3) := by decide +kernel
theorem dX11_sum_4 : decode cX11_sum 4 = .ok (.ifCond .eq 18, 3) := by decide +kernel
theorem dX11_sum_7 : decode cX11_sum 7 = .ok (.aload_n 0, 1) := by decide +kernel
theorem dX11_sum_8 : decode cX11_sum 8 = .ok (.getfield 23, 3) := by decide +kernel
theorem dX11_sum_11 : decode cX11_sum 11 = .ok (.iload_n 1, 1) := by decide +kernel
theorem dX11_sum_12 : decode cX11_sum 12 = .ok (.iload_n 2, 1) := by decide +kernel
theorem dX11_sum_13 : decode cX11_sum 13 = .ok (.invokestatic 89, 3) := by decide +kernel
theorem dX11_sum_16 : decode cX11_sum 16 = .ok (.invokevirtual 100, 3) := by decide +kernel
theorem dX11_sum_19 : decode cX11_sum 19 = .ok (.goto 4, 3) := by decide +kernel
theorem dX11_sum_22 : decode cX11_sum 22 = .ok (.iconst (-1), 1) := by decide +kernel
theorem dX11_sum_23 : decode cX11_sum 23 = .ok (.ireturn, 1) := by decide +kernel
theorem zy_X11_sum : zYv yX11_sum cX11_sum 3 (some .int) 2 := ⟨zw_519, zw_520, zw_1, zw_521, by decide, by decide, by decide⟩
theorem c_X11_sum_0 {C : zC} {I : Nat → Nat → Int32} {J : Nat → Nat → Int64} {Rr : Nat → Nat → Option Nat} {D : zD} (N : Nat) (a1 : Int32) (a2 : Int32) (v_chest_sizes : (Nat → Int32)) (e_v_chest_sizes : I 8 = v_chest_sizes) (v_chest_worths : (Nat → Int32)) (e_v_chest_worths : I 7 = v_chest_worths) (rr : Int32) (E : zE C RX11 cX11_sum 3 (some .int) ({ frames := 3, cells := 0, slots := 0, locals := 64 } : Room)) (hQ : C.Q = zQi C ({ frames := 3, cells := 0, slots := 0, locals := 64 } : Room) rr (I, J, Rr, D)) (h : pK_sum N a1 a2 v_chest_sizes v_chest_worths = some rr) : zB C (0, 0) 0 [(0, .ref (C.X.1 + 0)), (1, .int a1), (2, .int a2)] [] (I, J, Rr, D) := by
  refine zb_iload_n E dX11_sum_0 2 rfl rfl ?_
  obtain ⟨rc1, hc_1, h⟩ := bd1_s h
  refine zb_cSi E [.int a2] zy_X11_isStick zw_487 (c_X11_isStick hc_1) (by decide) rfl rfl (by first | decide | simp [Value.category]) dX11_sum_1 (cs2 := (0, 0)) rfl ?_
  refine zb_if_eq E dX11_sum_4 (tgt := 22) rfl (fun hc => ?_) (fun hc => ?_)
  · have h := if_t h hc
    refine zb_iconst E dX11_sum_22 (v := (-1)) rfl ?_
    obtain rfl := zinj1 h
    exact zb_iret E hQ rfl ⟨Nat.zero_le _, Nat.zero_le _⟩ dX11_sum_23
  · have h := if_f h hc
    refine zb_aload_n E dX11_sum_7 0 rfl rfl ?_
    refine zb_get E 0 (by decide) (zF_0 C.X) rfl zin11 1 (by decide) zw_354 (v := .ref (C.X.1 + 5)) rfl dX11_sum_8 ?_
    refine zb_iload_n E dX11_sum_11 1 rfl rfl ?_
    refine zb_iload_n E dX11_sum_12 2 rfl rfl ?_
    obtain ⟨rc2, hc_13, h⟩ := bd1_s h
    refine zb_cSi E [.int a1, .int a2] zy_X11_half zw_490 (c_X11_half hc_13) (by decide) rfl rfl (by first | decide | simp [Value.category]) dX11_sum_13 (cs2 := (0, 0)) rfl ?_
    obtain ⟨rc3, hc_16, h⟩ := bd1_s h
    refine zb_cVi E [.int rc2] 5 zy_X2_worthOf zw_522 (by decide) (zF_5 _ _ _ _) rfl (c_X2_worthOf v_chest_sizes (by exact e_v_chest_sizes) v_chest_worths (by exact e_v_chest_worths) hc_16) (by decide) rfl rfl (by first | decide | simp [Value.category]) dX11_sum_16 (cs2 := (0, 0)) rfl ?_
    refine zb_goto E dX11_sum_19 (tgt := 23) rfl ?_
    obtain rfl := zinj1 h
    exact zb_iret E hQ rfl ⟨Nat.zero_le _, Nat.zero_le _⟩ dX11_sum_23
theorem c_X11_sum {l : Launch} {X : zX} {I : Nat → Nat → Int32} {J : Nat → Nat → Int64} {Rr : Nat → Nat → Option Nat} {D : zD} {N : Nat} {a1 : Int32} {a2 : Int32} (v_chest_sizes : (Nat → Int32)) (e_v_chest_sizes : I 8 = v_chest_sizes) (v_chest_worths : (Nat → Int32)) (e_v_chest_worths : I 7 = v_chest_worths) {rr : Int32} (h : pK_sum N a1 a2 v_chest_sizes v_chest_worths = some rr) : zMi l yX11_sum cX11_sum 3 (some .int) ({ frames := 3, cells := 0, slots := 0, locals := 64 } : Room) X [.ref (X.1 + 0), .int a1, .int a2] (I, J, Rr, D) rr (I, J, Rr, D) := by
  refine zMi.of (by decide) (Nat.le_of_ble_eq_true rfl) (fun C E hl hX hQ => ?_)
  subst hl
  subst hX
  have eI0 : I = I := rfl
  have eJ0 : J = J := rfl
  refine zb_S (S2 := (I, J, Rr, D)) (zS_eq eI0.symm eJ0.symm) ?_
  exact c_X11_sum_0 N a1 a2 v_chest_sizes e_v_chest_sizes v_chest_worths e_v_chest_worths rr E hQ h
-- ChequeredCloth.wear
abbrev R_pK_wear : Type := Int32 × Int32 × Int32 × Int32 × Int32 × Int32 × (Nat → Int32)
def pK_wear (a1 : Int32) (a2 : Int32) (a3 : Int32) (v_chest_changes : Int32) (v_chest_grain : Int32) (v_chest_isMatched : Int32) (v_chest_limit : Int32) (v_chest_lost : Int32) (v_chest_fits : (Nat → Int32)) : Option R_pK_wear :=
  bd7 (pChest_setWear a1 a2 a3 v_chest_changes v_chest_grain v_chest_isMatched v_chest_limit v_chest_lost v_chest_fits) fun rc1 v_chest_changes_c1 v_chest_grain_c1 v_chest_isMatched_c1 v_chest_limit_c1 v_chest_lost_c1 v_chest_fits_c1 =>
  gd (isB rc1) (some (rc1, v_chest_changes_c1, v_chest_grain_c1, v_chest_isMatched_c1, v_chest_limit_c1, v_chest_lost_c1, v_chest_fits_c1))
theorem dX11_wear_0 : decode cX11_wear 0 = .ok (.aload_n 0, 1) := by decide +kernel
theorem dX11_wear_1 : decode cX11_wear 1 = .ok (.getfield 23, 3) := by decide +kernel
theorem dX11_wear_4 : decode cX11_wear 4 = .ok (.iload_n 1, 1) := by decide +kernel
theorem dX11_wear_5 : decode cX11_wear 5 = .ok (.iload_n 2, 1) := by decide +kernel
theorem dX11_wear_6 : decode cX11_wear 6 = .ok (.iload_n 3, 1) := by decide +kernel
theorem dX11_wear_7 : decode cX11_wear 7 = .ok (.invokevirtual 103, 3) := by decide +kernel
theorem dX11_wear_10 : decode cX11_wear 10 = .ok (.ireturn, 1) := by decide +kernel
theorem zy_X11_wear : zYv yX11_wear cX11_wear 4 (some .boolean) 3 := ⟨zw_527, zw_528, zw_1, zw_529, by decide, by decide, by decide⟩
theorem c_X11_wear_0 {C : zC} {I : Nat → Nat → Int32} {J : Nat → Nat → Int64} {Rr : Nat → Nat → Option Nat} {D : zD} (a1 : Int32) (a2 : Int32) (a3 : Int32) (rr : Int32) (y_v_chest_changes : Int32) (y_v_chest_grain : Int32) (y_v_chest_isMatched : Int32) (y_v_chest_limit : Int32) (y_v_chest_lost : Int32) (y_v_chest_fits : (Nat → Int32)) (E : zE C RX11 cX11_wear 4 (some .boolean) ({ frames := 2, cells := 0, slots := 0, locals := 47 } : Room)) (hQ : C.Q = zQi C ({ frames := 2, cells := 0, slots := 0, locals := 47 } : Room) rr ((va_up (va_up I 5 (va_up (va_up (va_up (va_up (va_up (I 5) 8 y_v_chest_grain) 9 y_v_chest_lost) 10 y_v_chest_limit) 11 y_v_chest_isMatched) 12 y_v_chest_changes)) 9 y_v_chest_fits), J, Rr, D)) (v_chest_changes : Int32) (v_chest_grain : Int32) (v_chest_isMatched : Int32) (v_chest_limit : Int32) (v_chest_lost : Int32) (v_chest_fits : (Nat → Int32)) (h : pK_wear a1 a2 a3 v_chest_changes v_chest_grain v_chest_isMatched v_chest_limit v_chest_lost v_chest_fits = some (rr, y_v_chest_changes, y_v_chest_grain, y_v_chest_isMatched, y_v_chest_limit, y_v_chest_lost, y_v_chest_fits)) : zB C (0, 0) 0 [(0, .ref (C.X.1 + 0)), (1, .int a1), (2, .int a2), (3, .int a3)] [] ((va_up (va_up I 5 (va_up (va_up (va_up (va_up (va_up (I 5) 8 v_chest_grain) 9 v_chest_lost) 10 v_chest_limit) 11 v_chest_isMatched) 12 v_chest_changes)) 9 v_chest_fits), J, Rr, D) := by
  refine zb_aload_n E dX11_wear_0 0 rfl rfl ?_
  refine zb_get E 0 (by decide) (zF_0 C.X) rfl zin11 1 (by decide) zw_354 (v := .ref (C.X.1 + 5)) rfl dX11_wear_1 ?_
  refine zb_iload_n E dX11_wear_4 1 rfl rfl ?_
  refine zb_iload_n E dX11_wear_5 2 rfl rfl ?_
  refine zb_iload_n E dX11_wear_6 3 rfl rfl ?_
  obtain ⟨rc1, v_chest_changes_c1, v_chest_grain_c1, v_chest_isMatched_c1, v_chest_limit_c1, v_chest_lost_c1, v_chest_fits_c1, hc_7, h⟩ := bd7_s h
  refine zb_cVi E [.int a1, .int a2, .int a3] 5 zy_X2_setWear zw_530 (by decide) (zF_5 _ _ _ _) rfl (c_X2_setWear (va_up (va_up (va_up (va_up (va_up (I 5) 8 v_chest_grain) 9 v_chest_lost) 10 v_chest_limit) 11 v_chest_isMatched) 12 v_chest_changes) rfl v_chest_changes rfl v_chest_grain rfl v_chest_isMatched rfl v_chest_limit rfl v_chest_lost rfl v_chest_fits rfl hc_7) (by decide) rfl rfl (by first | decide | simp [Value.category]) dX11_wear_7 (cs2 := (0, 0)) rfl ?_
  refine zb_S (S2 := ((va_up (va_up I 5 (va_up (va_up (va_up (va_up (va_up (I 5) 8 v_chest_grain_c1) 9 v_chest_lost_c1) 10 v_chest_limit_c1) 11 v_chest_isMatched_c1) 12 v_chest_changes_c1)) 9 v_chest_fits_c1), J, Rr, D)) (zS_eq ((zcgF ((zcgV ((zcgF ((zcgF ((zcgF ((zcgF (zn5 (by decide : (12 : Nat) ≠ 8) (by decide : (11 : Nat) ≠ 8) (by decide : (10 : Nat) ≠ 8) (by decide : (9 : Nat) ≠ 8))).trans (zn4 (by decide : (12 : Nat) ≠ 9) (by decide : (11 : Nat) ≠ 9) (by decide : (10 : Nat) ≠ 9)))).trans (zn3 (by decide : (12 : Nat) ≠ 10) (by decide : (11 : Nat) ≠ 10)))).trans (zn2 (by decide : (12 : Nat) ≠ 11)))).trans zn1)).trans (zn2 (by decide : (9 : Nat) ≠ 5)))).trans zn1) rfl) ?_
  obtain ⟨gB, h⟩ := gd_s h
  obtain ⟨rfl, rfl, rfl, rfl, rfl, rfl, rfl⟩ := zinj7 h
  exact zb_zret E hQ (ty := .boolean) rfl (isB_n gB) ⟨Nat.zero_le _, Nat.zero_le _⟩ dX11_wear_10
theorem c_X11_wear {l : Launch} {X : zX} {I : Nat → Nat → Int32} {J : Nat → Nat → Int64} {Rr : Nat → Nat → Option Nat} {D : zD} {a1 : Int32} {a2 : Int32} {a3 : Int32} (oI5 : Nat → Int32) (eoI5 : I 5 = oI5) (v_chest_changes : Int32) (e_v_chest_changes : I 5 12 = v_chest_changes) (v_chest_grain : Int32) (e_v_chest_grain : I 5 8 = v_chest_grain) (v_chest_isMatched : Int32) (e_v_chest_isMatched : I 5 11 = v_chest_isMatched) (v_chest_limit : Int32) (e_v_chest_limit : I 5 10 = v_chest_limit) (v_chest_lost : Int32) (e_v_chest_lost : I 5 9 = v_chest_lost) (v_chest_fits : (Nat → Int32)) (e_v_chest_fits : I 9 = v_chest_fits) {rr : Int32} {y_v_chest_changes : Int32} {y_v_chest_grain : Int32} {y_v_chest_isMatched : Int32} {y_v_chest_limit : Int32} {y_v_chest_lost : Int32} {y_v_chest_fits : (Nat → Int32)} (h : pK_wear a1 a2 a3 v_chest_changes v_chest_grain v_chest_isMatched v_chest_limit v_chest_lost v_chest_fits = some (rr, y_v_chest_changes, y_v_chest_grain, y_v_chest_isMatched, y_v_chest_limit, y_v_chest_lost, y_v_chest_fits)) : zMi l yX11_wear cX11_wear 4 (some .boolean) ({ frames := 2, cells := 0, slots := 0, locals := 47 } : Room) X [.ref (X.1 + 0), .int a1, .int a2, .int a3] (I, J, Rr, D) rr ((va_up (va_up I 5 (va_up (va_up (va_up (va_up (va_up oI5 8 y_v_chest_grain) 9 y_v_chest_lost) 10 y_v_chest_limit) 11 y_v_chest_isMatched) 12 y_v_chest_changes)) 9 y_v_chest_fits), J, Rr, D) := by
  subst eoI5
  refine zMi.of (by decide) (Nat.le_of_ble_eq_true rfl) (fun C E hl hX hQ => ?_)
  subst hl
  subst hX
  have eI0 : (va_up (va_up I 5 (va_up (va_up (va_up (va_up (va_up (I 5) 8 v_chest_grain) 9 v_chest_lost) 10 v_chest_limit) 11 v_chest_isMatched) 12 v_chest_changes)) 9 v_chest_fits) = I := by rw [zup_idE e_v_chest_grain, zup_idE e_v_chest_lost, zup_idE e_v_chest_limit, zup_idE e_v_chest_isMatched, zup_idE e_v_chest_changes, zup_id, zup_idE e_v_chest_fits]
  have eJ0 : J = J := rfl
  refine zb_S (S2 := ((va_up (va_up I 5 (va_up (va_up (va_up (va_up (va_up (I 5) 8 v_chest_grain) 9 v_chest_lost) 10 v_chest_limit) 11 v_chest_isMatched) 12 v_chest_changes)) 9 v_chest_fits), J, Rr, D)) (zS_eq eI0.symm eJ0.symm) ?_
  exact c_X11_wear_0 a1 a2 a3 rr y_v_chest_changes y_v_chest_grain y_v_chest_isMatched y_v_chest_limit y_v_chest_lost y_v_chest_fits E hQ v_chest_changes v_chest_grain v_chest_isMatched v_chest_limit v_chest_lost v_chest_fits h
-- ChequeredCloth.fit
abbrev R_pK_fit : Type := Int32 × (Nat → Int32) × (Nat → Int32) × (Nat → Int32)
def pK_fit (N : Nat) (a1 : Int32) (a2 : Int32) (v_chest_grain : Int32) (v_chest_lost : Int32) (v_chest_above : (Nat → Int32)) (v_chest_fits : (Nat → Int32)) (v_chest_places : (Nat → Int32)) (v_chest_row : (Nat → Int32)) (v_chest_sizes : (Nat → Int32)) (v_chest_worths : (Nat → Int32)) : Option R_pK_fit :=
  bd1 (pK_isStick a1) fun rc1 =>
  if rc1 = 0 then
    some ((-1), v_chest_above, v_chest_fits, v_chest_row)
  else
    bd1 (pK_isStick a2) fun rc2 =>
    if rc2 = 0 then
      some ((-1), v_chest_above, v_chest_fits, v_chest_row)
    else
      bd4 (pChest_fitOf N a1 a2 v_chest_grain v_chest_lost v_chest_above v_chest_fits v_chest_places v_chest_row v_chest_sizes v_chest_worths) fun rc3 v_chest_above_c3 v_chest_fits_c3 v_chest_row_c3 =>
      some (rc3, v_chest_above_c3, v_chest_fits_c3, v_chest_row_c3)
theorem dX11_fit_0 : decode cX11_fit 0 = .ok (.iload_n 1, 1) := by decide +kernel
theorem dX11_fit_1 : decode cX11_fit 1 = .ok (.invokestatic 86, 3) := by decide +kernel
theorem dX11_fit_4 : decode cX11_fit 4 = .ok (.ifCond .eq 22, 3) := by decide +kernel
theorem dX11_fit_7 : decode cX11_fit 7 = .ok (.iload_n 2, 1) := by decide +kernel
theorem dX11_fit_8 : decode cX11_fit 8 = .ok (.invokestatic 86, 3) := by decide +kernel
theorem dX11_fit_11 : decode cX11_fit 11 = .ok (.ifCond .eq 15, 3) := by decide +kernel
theorem dX11_fit_14 : decode cX11_fit 14 = .ok (.aload_n 0, 1) := by decide +kernel
theorem dX11_fit_15 : decode cX11_fit 15 = .ok (.getfield 23, 3) := by decide +kernel
theorem dX11_fit_18 : decode cX11_fit 18 = .ok (.iload_n 1, 1) := by decide +kernel
theorem dX11_fit_19 : decode cX11_fit 19 = .ok (.iload_n 2, 1) := by decide +kernel
theorem dX11_fit_20 : decode cX11_fit 20 = .ok (.invokevirtual 107, 3) := by decide +kernel
theorem dX11_fit_23 : decode cX11_fit 23 = .ok (.goto 4, 3) := by decide +kernel
theorem dX11_fit_26 : decode cX11_fit 26 = .ok (.iconst (-1), 1) := by decide +kernel
theorem dX11_fit_27 : decode cX11_fit 27 = .ok (.ireturn, 1) := by decide +kernel
theorem zy_X11_fit : zYv yX11_fit cX11_fit 3 (some .int) 2 := ⟨zw_535, zw_536, zw_1, zw_537, by decide, by decide, by decide⟩
theorem c_X11_fit_0 {C : zC} {I : Nat → Nat → Int32} {J : Nat → Nat → Int64} {Rr : Nat → Nat → Option Nat} {D : zD} (N : Nat) (a1 : Int32) (a2 : Int32) (v_chest_grain : Int32) (e_v_chest_grain : I 5 8 = v_chest_grain) (v_chest_lost : Int32) (e_v_chest_lost : I 5 9 = v_chest_lost) (v_chest_places : (Nat → Int32)) (e_v_chest_places : I 6 = v_chest_places) (v_chest_sizes : (Nat → Int32)) (e_v_chest_sizes : I 8 = v_chest_sizes) (v_chest_worths : (Nat → Int32)) (e_v_chest_worths : I 7 = v_chest_worths) (rr : Int32) (y_v_chest_above : (Nat → Int32)) (y_v_chest_fits : (Nat → Int32)) (y_v_chest_row : (Nat → Int32)) (E : zE C RX11 cX11_fit 3 (some .int) ({ frames := 4, cells := 0, slots := 0, locals := 121 } : Room)) (hQ : C.Q = zQi C ({ frames := 4, cells := 0, slots := 0, locals := 121 } : Room) rr ((va_up (va_up (va_up I 10 y_v_chest_above) 11 y_v_chest_row) 9 y_v_chest_fits), J, Rr, D)) (v_chest_above : (Nat → Int32)) (v_chest_fits : (Nat → Int32)) (v_chest_row : (Nat → Int32)) (h : pK_fit N a1 a2 v_chest_grain v_chest_lost v_chest_above v_chest_fits v_chest_places v_chest_row v_chest_sizes v_chest_worths = some (rr, y_v_chest_above, y_v_chest_fits, y_v_chest_row)) : zB C (0, 0) 0 [(0, .ref (C.X.1 + 0)), (1, .int a1), (2, .int a2)] [] ((va_up (va_up (va_up I 10 v_chest_above) 11 v_chest_row) 9 v_chest_fits), J, Rr, D) := by
  refine zb_iload_n E dX11_fit_0 1 rfl rfl ?_
  obtain ⟨rc1, hc_1, h⟩ := bd1_s h
  refine zb_cSi E [.int a1] zy_X11_isStick zw_487 (c_X11_isStick hc_1) (by decide) rfl rfl (by first | decide | simp [Value.category]) dX11_fit_1 (cs2 := (0, 0)) rfl ?_
  refine zb_if_eq E dX11_fit_4 (tgt := 26) rfl (fun hc => ?_) (fun hc => ?_)
  · have h := if_t h hc
    refine zb_iconst E dX11_fit_26 (v := (-1)) rfl ?_
    obtain ⟨rfl, rfl, rfl, rfl⟩ := zinj4 h
    exact zb_iret E hQ rfl ⟨Nat.zero_le _, Nat.zero_le _⟩ dX11_fit_27
  · have h := if_f h hc
    refine zb_iload_n E dX11_fit_7 2 rfl rfl ?_
    obtain ⟨rc2, hc_8, h⟩ := bd1_s h
    refine zb_cSi E [.int a2] zy_X11_isStick zw_487 (c_X11_isStick hc_8) (by decide) rfl rfl (by first | decide | simp [Value.category]) dX11_fit_8 (cs2 := (0, 0)) rfl ?_
    refine zb_if_eq E dX11_fit_11 (tgt := 26) rfl (fun hc => ?_) (fun hc => ?_)
    · have h := if_t h hc
      refine zb_iconst E dX11_fit_26 (v := (-1)) rfl ?_
      obtain ⟨rfl, rfl, rfl, rfl⟩ := zinj4 h
      exact zb_iret E hQ rfl ⟨Nat.zero_le _, Nat.zero_le _⟩ dX11_fit_27
    · have h := if_f h hc
      refine zb_aload_n E dX11_fit_14 0 rfl rfl ?_
      refine zb_get E 0 (by decide) (zF_0 C.X) rfl zin11 1 (by decide) zw_354 (v := .ref (C.X.1 + 5)) rfl dX11_fit_15 ?_
      refine zb_iload_n E dX11_fit_18 1 rfl rfl ?_
      refine zb_iload_n E dX11_fit_19 2 rfl rfl ?_
      obtain ⟨rc3, v_chest_above_c3, v_chest_fits_c3, v_chest_row_c3, hc_20, h⟩ := bd4_s h
      refine zb_cVi E [.int a1, .int a2] 5 zy_X2_fitOf zw_538 (by decide) (zF_5 _ _ _ _) rfl (c_X2_fitOf v_chest_grain (by exact e_v_chest_grain) v_chest_lost (by exact e_v_chest_lost) v_chest_places (by exact e_v_chest_places) v_chest_sizes (by exact e_v_chest_sizes) v_chest_worths (by exact e_v_chest_worths) v_chest_above rfl v_chest_fits rfl v_chest_row rfl hc_20) (by decide) rfl rfl (by first | decide | simp [Value.category]) dX11_fit_20 (cs2 := (0, 0)) rfl ?_
      refine zb_S (S2 := ((va_up (va_up (va_up I 10 v_chest_above_c3) 11 v_chest_row_c3) 9 v_chest_fits_c3), J, Rr, D)) (zS_eq ((zcgF ((zcgF (zn3 (by decide : (9 : Nat) ≠ 10) (by decide : (11 : Nat) ≠ 10))).trans (zn2 (by decide : (9 : Nat) ≠ 11)))).trans zn1) rfl) ?_
      refine zb_goto E dX11_fit_23 (tgt := 27) rfl ?_
      obtain ⟨rfl, rfl, rfl, rfl⟩ := zinj4 h
      exact zb_iret E hQ rfl ⟨Nat.zero_le _, Nat.zero_le _⟩ dX11_fit_27
theorem c_X11_fit {l : Launch} {X : zX} {I : Nat → Nat → Int32} {J : Nat → Nat → Int64} {Rr : Nat → Nat → Option Nat} {D : zD} {N : Nat} {a1 : Int32} {a2 : Int32} (v_chest_grain : Int32) (e_v_chest_grain : I 5 8 = v_chest_grain) (v_chest_lost : Int32) (e_v_chest_lost : I 5 9 = v_chest_lost) (v_chest_places : (Nat → Int32)) (e_v_chest_places : I 6 = v_chest_places) (v_chest_sizes : (Nat → Int32)) (e_v_chest_sizes : I 8 = v_chest_sizes) (v_chest_worths : (Nat → Int32)) (e_v_chest_worths : I 7 = v_chest_worths) (v_chest_above : (Nat → Int32)) (e_v_chest_above : I 10 = v_chest_above) (v_chest_fits : (Nat → Int32)) (e_v_chest_fits : I 9 = v_chest_fits) (v_chest_row : (Nat → Int32)) (e_v_chest_row : I 11 = v_chest_row) {rr : Int32} {y_v_chest_above : (Nat → Int32)} {y_v_chest_fits : (Nat → Int32)} {y_v_chest_row : (Nat → Int32)} (h : pK_fit N a1 a2 v_chest_grain v_chest_lost v_chest_above v_chest_fits v_chest_places v_chest_row v_chest_sizes v_chest_worths = some (rr, y_v_chest_above, y_v_chest_fits, y_v_chest_row)) : zMi l yX11_fit cX11_fit 3 (some .int) ({ frames := 4, cells := 0, slots := 0, locals := 121 } : Room) X [.ref (X.1 + 0), .int a1, .int a2] (I, J, Rr, D) rr ((va_up (va_up (va_up I 10 y_v_chest_above) 11 y_v_chest_row) 9 y_v_chest_fits), J, Rr, D) := by
  refine zMi.of (by decide) (Nat.le_of_ble_eq_true rfl) (fun C E hl hX hQ => ?_)
  subst hl
  subst hX
  have eI0 : (va_up (va_up (va_up I 10 v_chest_above) 11 v_chest_row) 9 v_chest_fits) = I := by rw [zup_idE e_v_chest_above, zup_idE e_v_chest_row, zup_idE e_v_chest_fits]
  have eJ0 : J = J := rfl
  refine zb_S (S2 := ((va_up (va_up (va_up I 10 v_chest_above) 11 v_chest_row) 9 v_chest_fits), J, Rr, D)) (zS_eq eI0.symm eJ0.symm) ?_
  exact c_X11_fit_0 N a1 a2 v_chest_grain e_v_chest_grain v_chest_lost e_v_chest_lost v_chest_places e_v_chest_places v_chest_sizes e_v_chest_sizes v_chest_worths e_v_chest_worths rr y_v_chest_above y_v_chest_fits y_v_chest_row E hQ v_chest_above v_chest_fits v_chest_row h
-- ChequeredCloth.mate
abbrev R_pK_mate : Type := Int32 × Int32 × (Nat → Int32) × (Nat → Int32) × (Nat → Int32) × (Nat → Int32) × (Nat → Int64) × (Nat → Nat → Int64) × (Nat → Int64) × (Nat → Int32) × (Nat → Int32) × (Nat → Int32) × (Nat → Int64) × (Nat → Int32)
def pK_mate (N : Nat) (a1 : Int32) (v_chest_grain : Int32) (v_chest_isMatched : Int32) (v_chest_limit : Int32) (v_chest_lost : Int32) (v_chest_above : (Nat → Int32)) (v_chest_fits : (Nat → Int32)) (v_chest_goodWorths : (Nat → Int32)) (v_chest_matcher_cameFrom : (Nat → Int32)) (v_chest_matcher_columnPrices : (Nat → Int64)) (v_chest_matcher_costs : (Nat → Nat → Int64)) (v_chest_matcher_gaps : (Nat → Int64)) (v_chest_matcher_isReached : (Nat → Int32)) (v_chest_matcher_mates : (Nat → Int32)) (v_chest_matcher_rowOf : (Nat → Int32)) (v_chest_matcher_rowPrices : (Nat → Int64)) (v_chest_places : (Nat → Int32)) (v_chest_row : (Nat → Int32)) (v_chest_sizes : (Nat → Int32)) (v_chest_worths : (Nat → Int32)) : Option R_pK_mate :=
  bd1 (pK_isStick a1) fun rc1 =>
  if rc1 = 0 then
    some ((-1), v_chest_isMatched, v_chest_above, v_chest_fits, v_chest_goodWorths, v_chest_matcher_cameFrom, v_chest_matcher_columnPrices, v_chest_matcher_costs, v_chest_matcher_gaps, v_chest_matcher_isReached, v_chest_matcher_mates, v_chest_matcher_rowOf, v_chest_matcher_rowPrices, v_chest_row)
  else
    bd14 (pChest_mateOf N a1 v_chest_grain v_chest_isMatched v_chest_limit v_chest_lost v_chest_above v_chest_fits v_chest_goodWorths v_chest_matcher_cameFrom v_chest_matcher_columnPrices v_chest_matcher_costs v_chest_matcher_gaps v_chest_matcher_isReached v_chest_matcher_mates v_chest_matcher_rowOf v_chest_matcher_rowPrices v_chest_places v_chest_row v_chest_sizes v_chest_worths) fun rc2 v_chest_isMatched_c2 v_chest_above_c2 v_chest_fits_c2 v_chest_goodWorths_c2 v_chest_matcher_cameFrom_c2 v_chest_matcher_columnPrices_c2 v_chest_matcher_costs_c2 v_chest_matcher_gaps_c2 v_chest_matcher_isReached_c2 v_chest_matcher_mates_c2 v_chest_matcher_rowOf_c2 v_chest_matcher_rowPrices_c2 v_chest_row_c2 =>
    some (rc2, v_chest_isMatched_c2, v_chest_above_c2, v_chest_fits_c2, v_chest_goodWorths_c2, v_chest_matcher_cameFrom_c2, v_chest_matcher_columnPrices_c2, v_chest_matcher_costs_c2, v_chest_matcher_gaps_c2, v_chest_matcher_isReached_c2, v_chest_matcher_mates_c2, v_chest_matcher_rowOf_c2, v_chest_matcher_rowPrices_c2, v_chest_row_c2)
theorem dX11_mate_0 : decode cX11_mate 0 = .ok (.iload_n 1, 1) := by decide +kernel
theorem dX11_mate_1 : decode cX11_mate 1 = .ok (.invokestatic 86, 3) := by decide +kernel
theorem dX11_mate_4 : decode cX11_mate 4 = .ok (.ifCond .eq 14, 3) := by decide +kernel
theorem dX11_mate_7 : decode cX11_mate 7 = .ok (.aload_n 0, 1) := by decide +kernel
theorem dX11_mate_8 : decode cX11_mate 8 = .ok (.getfield 23, 3) := by decide +kernel
theorem dX11_mate_11 : decode cX11_mate 11 = .ok (.iload_n 1, 1) := by decide +kernel
theorem dX11_mate_12 : decode cX11_mate 12 = .ok (.invokevirtual 110, 3) := by decide +kernel
theorem dX11_mate_15 : decode cX11_mate 15 = .ok (.goto 4, 3) := by decide +kernel
theorem dX11_mate_18 : decode cX11_mate 18 = .ok (.iconst (-1), 1) := by decide +kernel
theorem dX11_mate_19 : decode cX11_mate 19 = .ok (.ireturn, 1) := by decide +kernel
theorem zy_X11_mate : zYv yX11_mate cX11_mate 2 (some .int) 1 := ⟨zw_555, zw_556, zw_1, zw_557, by decide, by decide, by decide⟩
theorem c_X11_mate_0 {C : zC} {I : Nat → Nat → Int32} {J : Nat → Nat → Int64} {Rr : Nat → Nat → Option Nat} {D : zD} (N : Nat) (a1 : Int32) (v_chest_grain : Int32) (e_v_chest_grain : I 5 8 = v_chest_grain) (v_chest_limit : Int32) (e_v_chest_limit : I 5 10 = v_chest_limit) (v_chest_lost : Int32) (e_v_chest_lost : I 5 9 = v_chest_lost) (v_chest_places : (Nat → Int32)) (e_v_chest_places : I 6 = v_chest_places) (v_chest_sizes : (Nat → Int32)) (e_v_chest_sizes : I 8 = v_chest_sizes) (v_chest_worths : (Nat → Int32)) (e_v_chest_worths : I 7 = v_chest_worths) (rr : Int32) (y_v_chest_isMatched : Int32) (y_v_chest_above : (Nat → Int32)) (y_v_chest_fits : (Nat → Int32)) (y_v_chest_goodWorths : (Nat → Int32)) (y_v_chest_matcher_cameFrom : (Nat → Int32)) (y_v_chest_matcher_columnPrices : (Nat → Int64)) (y_v_chest_matcher_costs : (Nat → Nat → Int64)) (y_v_chest_matcher_gaps : (Nat → Int64)) (y_v_chest_matcher_isReached : (Nat → Int32)) (y_v_chest_matcher_mates : (Nat → Int32)) (y_v_chest_matcher_rowOf : (Nat → Int32)) (y_v_chest_matcher_rowPrices : (Nat → Int64)) (y_v_chest_row : (Nat → Int32)) (E : zE C RX11 cX11_mate 2 (some .int) ({ frames := 6, cells := 0, slots := 0, locals := 165 } : Room)) (hQ : C.Q = zQi C ({ frames := 6, cells := 0, slots := 0, locals := 165 } : Room) rr ((va_up (va_up (va_up (va_up (va_up (va_up (va_up (va_up (va_up I 10 y_v_chest_above) 11 y_v_chest_row) 12 y_v_chest_goodWorths) 29 y_v_chest_matcher_rowOf) 30 y_v_chest_matcher_cameFrom) 31 y_v_chest_matcher_isReached) 32 y_v_chest_matcher_mates) 5 (va_up (I 5) 11 y_v_chest_isMatched)) 9 y_v_chest_fits), (va_up (va_up (va_up (zg J y_v_chest_matcher_costs) 26 y_v_chest_matcher_rowPrices) 27 y_v_chest_matcher_columnPrices) 28 y_v_chest_matcher_gaps), Rr, D)) (v_chest_isMatched : Int32) (v_chest_above : (Nat → Int32)) (v_chest_fits : (Nat → Int32)) (v_chest_goodWorths : (Nat → Int32)) (v_chest_matcher_cameFrom : (Nat → Int32)) (v_chest_matcher_columnPrices : (Nat → Int64)) (v_chest_matcher_costs : (Nat → Nat → Int64)) (v_chest_matcher_gaps : (Nat → Int64)) (v_chest_matcher_isReached : (Nat → Int32)) (v_chest_matcher_mates : (Nat → Int32)) (v_chest_matcher_rowOf : (Nat → Int32)) (v_chest_matcher_rowPrices : (Nat → Int64)) (v_chest_row : (Nat → Int32)) (h : pK_mate N a1 v_chest_grain v_chest_isMatched v_chest_limit v_chest_lost v_chest_above v_chest_fits v_chest_goodWorths v_chest_matcher_cameFrom v_chest_matcher_columnPrices v_chest_matcher_costs v_chest_matcher_gaps v_chest_matcher_isReached v_chest_matcher_mates v_chest_matcher_rowOf v_chest_matcher_rowPrices v_chest_places v_chest_row v_chest_sizes v_chest_worths = some (rr, y_v_chest_isMatched, y_v_chest_above, y_v_chest_fits, y_v_chest_goodWorths, y_v_chest_matcher_cameFrom, y_v_chest_matcher_columnPrices, y_v_chest_matcher_costs, y_v_chest_matcher_gaps, y_v_chest_matcher_isReached, y_v_chest_matcher_mates, y_v_chest_matcher_rowOf, y_v_chest_matcher_rowPrices, y_v_chest_row)) : zB C (0, 0) 0 [(0, .ref (C.X.1 + 0)), (1, .int a1)] [] ((va_up (va_up (va_up (va_up (va_up (va_up (va_up (va_up (va_up I 10 v_chest_above) 11 v_chest_row) 12 v_chest_goodWorths) 29 v_chest_matcher_rowOf) 30 v_chest_matcher_cameFrom) 31 v_chest_matcher_isReached) 32 v_chest_matcher_mates) 5 (va_up (I 5) 11 v_chest_isMatched)) 9 v_chest_fits), (va_up (va_up (va_up (zg J v_chest_matcher_costs) 26 v_chest_matcher_rowPrices) 27 v_chest_matcher_columnPrices) 28 v_chest_matcher_gaps), Rr, D) := by
  refine zb_iload_n E dX11_mate_0 1 rfl rfl ?_
  obtain ⟨rc1, hc_1, h⟩ := bd1_s h
  refine zb_cSi E [.int a1] zy_X11_isStick zw_487 (c_X11_isStick hc_1) (by decide) rfl rfl (by first | decide | simp [Value.category]) dX11_mate_1 (cs2 := (0, 0)) rfl ?_
  refine zb_if_eq E dX11_mate_4 (tgt := 18) rfl (fun hc => ?_) (fun hc => ?_)
  · have h := if_t h hc
    refine zb_iconst E dX11_mate_18 (v := (-1)) rfl ?_
    obtain ⟨rfl, rfl, rfl, rfl, rfl, rfl, rfl, rfl, rfl, rfl, rfl, rfl, rfl, rfl⟩ := zinj14 h
    exact zb_iret E hQ rfl ⟨Nat.zero_le _, Nat.zero_le _⟩ dX11_mate_19
  · have h := if_f h hc
    refine zb_aload_n E dX11_mate_7 0 rfl rfl ?_
    refine zb_get E 0 (by decide) (zF_0 C.X) rfl zin11 1 (by decide) zw_354 (v := .ref (C.X.1 + 5)) rfl dX11_mate_8 ?_
    refine zb_iload_n E dX11_mate_11 1 rfl rfl ?_
    obtain ⟨rc2, v_chest_isMatched_c2, v_chest_above_c2, v_chest_fits_c2, v_chest_goodWorths_c2, v_chest_matcher_cameFrom_c2, v_chest_matcher_columnPrices_c2, v_chest_matcher_costs_c2, v_chest_matcher_gaps_c2, v_chest_matcher_isReached_c2, v_chest_matcher_mates_c2, v_chest_matcher_rowOf_c2, v_chest_matcher_rowPrices_c2, v_chest_row_c2, hc_12, h⟩ := bd14_s h
    refine zb_cVi E [.int a1] 5 zy_X2_mateOf zw_558 (by decide) (zF_5 _ _ _ _) rfl (c_X2_mateOf (va_up (I 5) 11 v_chest_isMatched) rfl v_chest_grain (by exact e_v_chest_grain) v_chest_limit (by exact e_v_chest_limit) v_chest_lost (by exact e_v_chest_lost) v_chest_places (by exact e_v_chest_places) v_chest_sizes (by exact e_v_chest_sizes) v_chest_worths (by exact e_v_chest_worths) v_chest_isMatched rfl v_chest_above rfl v_chest_fits rfl v_chest_goodWorths rfl v_chest_matcher_cameFrom rfl v_chest_matcher_columnPrices rfl v_chest_matcher_costs (by exact fun q hq => (zup_n (zgne hq (by decide : (28 : Nat) < 15 ∨ 26 ≤ (28 : Nat)))).trans ((zup_n (zgne hq (by decide : (27 : Nat) < 15 ∨ 26 ≤ (27 : Nat)))).trans ((zup_n (zgne hq (by decide : (26 : Nat) < 15 ∨ 26 ≤ (26 : Nat)))).trans (zg_at hq)))) v_chest_matcher_gaps rfl v_chest_matcher_isReached rfl v_chest_matcher_mates rfl v_chest_matcher_rowOf rfl v_chest_matcher_rowPrices rfl v_chest_row rfl hc_12) (by decide) rfl rfl (by first | decide | simp [Value.category]) dX11_mate_12 (cs2 := (0, 0)) rfl ?_
    refine zb_S (S2 := ((va_up (va_up (va_up (va_up (va_up (va_up (va_up (va_up (va_up I 10 v_chest_above_c2) 11 v_chest_row_c2) 12 v_chest_goodWorths_c2) 29 v_chest_matcher_rowOf_c2) 30 v_chest_matcher_cameFrom_c2) 31 v_chest_matcher_isReached_c2) 32 v_chest_matcher_mates_c2) 5 (va_up (I 5) 11 v_chest_isMatched_c2)) 9 v_chest_fits_c2), (va_up (va_up (va_up (zg J v_chest_matcher_costs_c2) 26 v_chest_matcher_rowPrices_c2) 27 v_chest_matcher_columnPrices_c2) 28 v_chest_matcher_gaps_c2), Rr, D)) (zS_eq ((zcgF ((zcgF ((zcgF ((zcgF ((zcgF ((zcgF ((zcgF ((zcgF (zn9 (by decide : (9 : Nat) ≠ 10) (by decide : (5 : Nat) ≠ 10) (by decide : (32 : Nat) ≠ 10) (by decide : (31 : Nat) ≠ 10) (by decide : (30 : Nat) ≠ 10) (by decide : (29 : Nat) ≠ 10) (by decide : (12 : Nat) ≠ 10) (by decide : (11 : Nat) ≠ 10))).trans (zn8 (by decide : (9 : Nat) ≠ 11) (by decide : (5 : Nat) ≠ 11) (by decide : (32 : Nat) ≠ 11) (by decide : (31 : Nat) ≠ 11) (by decide : (30 : Nat) ≠ 11) (by decide : (29 : Nat) ≠ 11) (by decide : (12 : Nat) ≠ 11)))).trans (zn7 (by decide : (9 : Nat) ≠ 12) (by decide : (5 : Nat) ≠ 12) (by decide : (32 : Nat) ≠ 12) (by decide : (31 : Nat) ≠ 12) (by decide : (30 : Nat) ≠ 12) (by decide : (29 : Nat) ≠ 12)))).trans (zn6 (by decide : (9 : Nat) ≠ 29) (by decide : (5 : Nat) ≠ 29) (by decide : (32 : Nat) ≠ 29) (by decide : (31 : Nat) ≠ 29) (by decide : (30 : Nat) ≠ 29)))).trans (zn5 (by decide : (9 : Nat) ≠ 30) (by decide : (5 : Nat) ≠ 30) (by decide : (32 : Nat) ≠ 30) (by decide : (31 : Nat) ≠ 30)))).trans (zn4 (by decide : (9 : Nat) ≠ 31) (by decide : (5 : Nat) ≠ 31) (by decide : (32 : Nat) ≠ 31)))).trans (zn3 (by decide : (9 : Nat) ≠ 32) (by decide : (5 : Nat) ≠ 32)))).trans ((zcgV zn1).trans (zn2 (by decide : (9 : Nat) ≠ 5))))).trans zn1) ((zcgF ((zcgF ((zcgF ((zgc (by decide : (28 : Nat) < 15 ∨ 26 ≤ (28 : Nat))).trans (zcgF ((zgc (by decide : (27 : Nat) < 15 ∨ 26 ≤ (27 : Nat))).trans (zcgF ((zgc (by decide : (26 : Nat) < 15 ∨ 26 ≤ (26 : Nat))).trans (zcgF zg_zg))))))).trans (zn3 (by decide : (28 : Nat) ≠ 26) (by decide : (27 : Nat) ≠ 26)))).trans (zn2 (by decide : (28 : Nat) ≠ 27)))).trans zn1)) ?_
    refine zb_goto E dX11_mate_15 (tgt := 19) rfl ?_
    obtain ⟨rfl, rfl, rfl, rfl, rfl, rfl, rfl, rfl, rfl, rfl, rfl, rfl, rfl, rfl⟩ := zinj14 h
    exact zb_iret E hQ rfl ⟨Nat.zero_le _, Nat.zero_le _⟩ dX11_mate_19
theorem c_X11_mate {l : Launch} {X : zX} {I : Nat → Nat → Int32} {J : Nat → Nat → Int64} {Rr : Nat → Nat → Option Nat} {D : zD} {N : Nat} {a1 : Int32} (oI5 : Nat → Int32) (eoI5 : I 5 = oI5) (v_chest_grain : Int32) (e_v_chest_grain : I 5 8 = v_chest_grain) (v_chest_limit : Int32) (e_v_chest_limit : I 5 10 = v_chest_limit) (v_chest_lost : Int32) (e_v_chest_lost : I 5 9 = v_chest_lost) (v_chest_places : (Nat → Int32)) (e_v_chest_places : I 6 = v_chest_places) (v_chest_sizes : (Nat → Int32)) (e_v_chest_sizes : I 8 = v_chest_sizes) (v_chest_worths : (Nat → Int32)) (e_v_chest_worths : I 7 = v_chest_worths) (v_chest_isMatched : Int32) (e_v_chest_isMatched : I 5 11 = v_chest_isMatched) (v_chest_above : (Nat → Int32)) (e_v_chest_above : I 10 = v_chest_above) (v_chest_fits : (Nat → Int32)) (e_v_chest_fits : I 9 = v_chest_fits) (v_chest_goodWorths : (Nat → Int32)) (e_v_chest_goodWorths : I 12 = v_chest_goodWorths) (v_chest_matcher_cameFrom : (Nat → Int32)) (e_v_chest_matcher_cameFrom : I 30 = v_chest_matcher_cameFrom) (v_chest_matcher_columnPrices : (Nat → Int64)) (e_v_chest_matcher_columnPrices : J 27 = v_chest_matcher_columnPrices) (v_chest_matcher_costs : (Nat → Nat → Int64)) (e_v_chest_matcher_costs : ∀ q, q < 11 → J (15 + q) = v_chest_matcher_costs q) (v_chest_matcher_gaps : (Nat → Int64)) (e_v_chest_matcher_gaps : J 28 = v_chest_matcher_gaps) (v_chest_matcher_isReached : (Nat → Int32)) (e_v_chest_matcher_isReached : I 31 = v_chest_matcher_isReached) (v_chest_matcher_mates : (Nat → Int32)) (e_v_chest_matcher_mates : I 32 = v_chest_matcher_mates) (v_chest_matcher_rowOf : (Nat → Int32)) (e_v_chest_matcher_rowOf : I 29 = v_chest_matcher_rowOf) (v_chest_matcher_rowPrices : (Nat → Int64)) (e_v_chest_matcher_rowPrices : J 26 = v_chest_matcher_rowPrices) (v_chest_row : (Nat → Int32)) (e_v_chest_row : I 11 = v_chest_row) {rr : Int32} {y_v_chest_isMatched : Int32} {y_v_chest_above : (Nat → Int32)} {y_v_chest_fits : (Nat → Int32)} {y_v_chest_goodWorths : (Nat → Int32)} {y_v_chest_matcher_cameFrom : (Nat → Int32)} {y_v_chest_matcher_columnPrices : (Nat → Int64)} {y_v_chest_matcher_costs : (Nat → Nat → Int64)} {y_v_chest_matcher_gaps : (Nat → Int64)} {y_v_chest_matcher_isReached : (Nat → Int32)} {y_v_chest_matcher_mates : (Nat → Int32)} {y_v_chest_matcher_rowOf : (Nat → Int32)} {y_v_chest_matcher_rowPrices : (Nat → Int64)} {y_v_chest_row : (Nat → Int32)} (h : pK_mate N a1 v_chest_grain v_chest_isMatched v_chest_limit v_chest_lost v_chest_above v_chest_fits v_chest_goodWorths v_chest_matcher_cameFrom v_chest_matcher_columnPrices v_chest_matcher_costs v_chest_matcher_gaps v_chest_matcher_isReached v_chest_matcher_mates v_chest_matcher_rowOf v_chest_matcher_rowPrices v_chest_places v_chest_row v_chest_sizes v_chest_worths = some (rr, y_v_chest_isMatched, y_v_chest_above, y_v_chest_fits, y_v_chest_goodWorths, y_v_chest_matcher_cameFrom, y_v_chest_matcher_columnPrices, y_v_chest_matcher_costs, y_v_chest_matcher_gaps, y_v_chest_matcher_isReached, y_v_chest_matcher_mates, y_v_chest_matcher_rowOf, y_v_chest_matcher_rowPrices, y_v_chest_row)) : zMi l yX11_mate cX11_mate 2 (some .int) ({ frames := 6, cells := 0, slots := 0, locals := 165 } : Room) X [.ref (X.1 + 0), .int a1] (I, J, Rr, D) rr ((va_up (va_up (va_up (va_up (va_up (va_up (va_up (va_up (va_up I 10 y_v_chest_above) 11 y_v_chest_row) 12 y_v_chest_goodWorths) 29 y_v_chest_matcher_rowOf) 30 y_v_chest_matcher_cameFrom) 31 y_v_chest_matcher_isReached) 32 y_v_chest_matcher_mates) 5 (va_up oI5 11 y_v_chest_isMatched)) 9 y_v_chest_fits), (va_up (va_up (va_up (zg J y_v_chest_matcher_costs) 26 y_v_chest_matcher_rowPrices) 27 y_v_chest_matcher_columnPrices) 28 y_v_chest_matcher_gaps), Rr, D) := by
  subst eoI5
  refine zMi.of (by decide) (Nat.le_of_ble_eq_true rfl) (fun C E hl hX hQ => ?_)
  subst hl
  subst hX
  have eI0 : (va_up (va_up (va_up (va_up (va_up (va_up (va_up (va_up (va_up I 10 v_chest_above) 11 v_chest_row) 12 v_chest_goodWorths) 29 v_chest_matcher_rowOf) 30 v_chest_matcher_cameFrom) 31 v_chest_matcher_isReached) 32 v_chest_matcher_mates) 5 (va_up (I 5) 11 v_chest_isMatched)) 9 v_chest_fits) = I := by rw [zup_idE e_v_chest_above, zup_idE e_v_chest_row, zup_idE e_v_chest_goodWorths, zup_idE e_v_chest_matcher_rowOf, zup_idE e_v_chest_matcher_cameFrom, zup_idE e_v_chest_matcher_isReached, zup_idE e_v_chest_matcher_mates, zup_idE e_v_chest_isMatched, zup_id, zup_idE e_v_chest_fits]
  have eJ0 : (va_up (va_up (va_up (zg J v_chest_matcher_costs) 26 v_chest_matcher_rowPrices) 27 v_chest_matcher_columnPrices) 28 v_chest_matcher_gaps) = J := by rw [zg_id e_v_chest_matcher_costs, zup_idE e_v_chest_matcher_rowPrices, zup_idE e_v_chest_matcher_columnPrices, zup_idE e_v_chest_matcher_gaps]
  refine zb_S (S2 := ((va_up (va_up (va_up (va_up (va_up (va_up (va_up (va_up (va_up I 10 v_chest_above) 11 v_chest_row) 12 v_chest_goodWorths) 29 v_chest_matcher_rowOf) 30 v_chest_matcher_cameFrom) 31 v_chest_matcher_isReached) 32 v_chest_matcher_mates) 5 (va_up (I 5) 11 v_chest_isMatched)) 9 v_chest_fits), (va_up (va_up (va_up (zg J v_chest_matcher_costs) 26 v_chest_matcher_rowPrices) 27 v_chest_matcher_columnPrices) 28 v_chest_matcher_gaps), Rr, D)) (zS_eq eI0.symm eJ0.symm) ?_
  exact c_X11_mate_0 N a1 v_chest_grain e_v_chest_grain v_chest_limit e_v_chest_limit v_chest_lost e_v_chest_lost v_chest_places e_v_chest_places v_chest_sizes e_v_chest_sizes v_chest_worths e_v_chest_worths rr y_v_chest_isMatched y_v_chest_above y_v_chest_fits y_v_chest_goodWorths y_v_chest_matcher_cameFrom y_v_chest_matcher_columnPrices y_v_chest_matcher_costs y_v_chest_matcher_gaps y_v_chest_matcher_isReached y_v_chest_matcher_mates y_v_chest_matcher_rowOf y_v_chest_matcher_rowPrices y_v_chest_row E hQ v_chest_isMatched v_chest_above v_chest_fits v_chest_goodWorths v_chest_matcher_cameFrom v_chest_matcher_columnPrices v_chest_matcher_costs v_chest_matcher_gaps v_chest_matcher_isReached v_chest_matcher_mates v_chest_matcher_rowOf v_chest_matcher_rowPrices v_chest_row h
-- ChequeredCloth.matched
abbrev R_pK_matched : Type := Int32 × Int32 × (Nat → Int32) × (Nat → Int32) × (Nat → Int32) × (Nat → Int32) × (Nat → Int64) × (Nat → Nat → Int64) × (Nat → Int64) × (Nat → Int32) × (Nat → Int32) × (Nat → Int32) × (Nat → Int64) × (Nat → Int32)
def pK_matched (N : Nat) (a1 : Int32) (v_chest_grain : Int32) (v_chest_isMatched : Int32) (v_chest_limit : Int32) (v_chest_lost : Int32) (v_chest_above : (Nat → Int32)) (v_chest_fits : (Nat → Int32)) (v_chest_goodWorths : (Nat → Int32)) (v_chest_matcher_cameFrom : (Nat → Int32)) (v_chest_matcher_columnPrices : (Nat → Int64)) (v_chest_matcher_costs : (Nat → Nat → Int64)) (v_chest_matcher_gaps : (Nat → Int64)) (v_chest_matcher_isReached : (Nat → Int32)) (v_chest_matcher_mates : (Nat → Int32)) (v_chest_matcher_rowOf : (Nat → Int32)) (v_chest_matcher_rowPrices : (Nat → Int64)) (v_chest_places : (Nat → Int32)) (v_chest_row : (Nat → Int32)) (v_chest_sizes : (Nat → Int32)) (v_chest_worths : (Nat → Int32)) : Option R_pK_matched :=
  if a1 = 0 then
    bd14 (pChest_pairsMatched N v_chest_grain v_chest_isMatched v_chest_limit v_chest_lost v_chest_above v_chest_fits v_chest_goodWorths v_chest_matcher_cameFrom v_chest_matcher_columnPrices v_chest_matcher_costs v_chest_matcher_gaps v_chest_matcher_isReached v_chest_matcher_mates v_chest_matcher_rowOf v_chest_matcher_rowPrices v_chest_places v_chest_row v_chest_sizes v_chest_worths) fun rc2 v_chest_isMatched_c2 v_chest_above_c2 v_chest_fits_c2 v_chest_goodWorths_c2 v_chest_matcher_cameFrom_c2 v_chest_matcher_columnPrices_c2 v_chest_matcher_costs_c2 v_chest_matcher_gaps_c2 v_chest_matcher_isReached_c2 v_chest_matcher_mates_c2 v_chest_matcher_rowOf_c2 v_chest_matcher_rowPrices_c2 v_chest_row_c2 =>
    some (rc2, v_chest_isMatched_c2, v_chest_above_c2, v_chest_fits_c2, v_chest_goodWorths_c2, v_chest_matcher_cameFrom_c2, v_chest_matcher_columnPrices_c2, v_chest_matcher_costs_c2, v_chest_matcher_gaps_c2, v_chest_matcher_isReached_c2, v_chest_matcher_mates_c2, v_chest_matcher_rowOf_c2, v_chest_matcher_rowPrices_c2, v_chest_row_c2)
  else
    if a1 = 1 then
      bd14 (pChest_fitMatched N v_chest_grain v_chest_isMatched v_chest_limit v_chest_lost v_chest_above v_chest_fits v_chest_goodWorths v_chest_matcher_cameFrom v_chest_matcher_columnPrices v_chest_matcher_costs v_chest_matcher_gaps v_chest_matcher_isReached v_chest_matcher_mates v_chest_matcher_rowOf v_chest_matcher_rowPrices v_chest_places v_chest_row v_chest_sizes v_chest_worths) fun rc1 v_chest_isMatched_c1 v_chest_above_c1 v_chest_fits_c1 v_chest_goodWorths_c1 v_chest_matcher_cameFrom_c1 v_chest_matcher_columnPrices_c1 v_chest_matcher_costs_c1 v_chest_matcher_gaps_c1 v_chest_matcher_isReached_c1 v_chest_matcher_mates_c1 v_chest_matcher_rowOf_c1 v_chest_matcher_rowPrices_c1 v_chest_row_c1 =>
      some (rc1, v_chest_isMatched_c1, v_chest_above_c1, v_chest_fits_c1, v_chest_goodWorths_c1, v_chest_matcher_cameFrom_c1, v_chest_matcher_columnPrices_c1, v_chest_matcher_costs_c1, v_chest_matcher_gaps_c1, v_chest_matcher_isReached_c1, v_chest_matcher_mates_c1, v_chest_matcher_rowOf_c1, v_chest_matcher_rowPrices_c1, v_chest_row_c1)
    else
      some ((-1), v_chest_isMatched, v_chest_above, v_chest_fits, v_chest_goodWorths, v_chest_matcher_cameFrom, v_chest_matcher_columnPrices, v_chest_matcher_costs, v_chest_matcher_gaps, v_chest_matcher_isReached, v_chest_matcher_mates, v_chest_matcher_rowOf, v_chest_matcher_rowPrices, v_chest_row)
theorem dX11_matched_0 : decode cX11_matched 0 = .ok (.iload_n 1, 1) := by decide +kernel
theorem dX11_matched_1 : decode cX11_matched 1 = .ok (.ifCond .ne 13, 3) := by decide +kernel
theorem dX11_matched_4 : decode cX11_matched 4 = .ok (.aload_n 0, 1) := by decide +kernel
theorem dX11_matched_5 : decode cX11_matched 5 = .ok (.getfield 23, 3) := by decide +kernel
theorem dX11_matched_8 : decode cX11_matched 8 = .ok (.invokevirtual 113, 3) := by decide +kernel
theorem dX11_matched_11 : decode cX11_matched 11 = .ok (.goto 19, 3) := by decide +kernel
theorem dX11_matched_14 : decode cX11_matched 14 = .ok (.iload_n 1, 1) := by decide +kernel
theorem dX11_matched_15 : decode cX11_matched 15 = .ok (.iconst 1, 1) := by decide +kernel
theorem dX11_matched_16 : decode cX11_matched 16 = .ok (.if_icmp .ne 13, 3) := by decide +kernel
theorem dX11_matched_19 : decode cX11_matched 19 = .ok (.aload_n 0, 1) := by decide +kernel
theorem dX11_matched_20 : decode cX11_matched 20 = .ok (.getfield 23, 3) := by decide +kernel
theorem dX11_matched_23 : decode cX11_matched 23 = .ok (.invokevirtual 117, 3) := by decide +kernel
theorem dX11_matched_26 : decode cX11_matched 26 = .ok (.goto 4, 3) := by decide +kernel
theorem dX11_matched_29 : decode cX11_matched 29 = .ok (.iconst (-1), 1) := by decide +kernel
theorem dX11_matched_30 : decode cX11_matched 30 = .ok (.ireturn, 1) := by decide +kernel
theorem zy_X11_matched : zYv yX11_matched cX11_matched 2 (some .int) 1 := ⟨zw_610, zw_611, zw_1, zw_612, by decide, by decide, by decide⟩
theorem c_X11_matched_0 {C : zC} {I : Nat → Nat → Int32} {J : Nat → Nat → Int64} {Rr : Nat → Nat → Option Nat} {D : zD} (N : Nat) (a1 : Int32) (v_chest_grain : Int32) (e_v_chest_grain : I 5 8 = v_chest_grain) (v_chest_limit : Int32) (e_v_chest_limit : I 5 10 = v_chest_limit) (v_chest_lost : Int32) (e_v_chest_lost : I 5 9 = v_chest_lost) (v_chest_places : (Nat → Int32)) (e_v_chest_places : I 6 = v_chest_places) (v_chest_sizes : (Nat → Int32)) (e_v_chest_sizes : I 8 = v_chest_sizes) (v_chest_worths : (Nat → Int32)) (e_v_chest_worths : I 7 = v_chest_worths) (rr : Int32) (y_v_chest_isMatched : Int32) (y_v_chest_above : (Nat → Int32)) (y_v_chest_fits : (Nat → Int32)) (y_v_chest_goodWorths : (Nat → Int32)) (y_v_chest_matcher_cameFrom : (Nat → Int32)) (y_v_chest_matcher_columnPrices : (Nat → Int64)) (y_v_chest_matcher_costs : (Nat → Nat → Int64)) (y_v_chest_matcher_gaps : (Nat → Int64)) (y_v_chest_matcher_isReached : (Nat → Int32)) (y_v_chest_matcher_mates : (Nat → Int32)) (y_v_chest_matcher_rowOf : (Nat → Int32)) (y_v_chest_matcher_rowPrices : (Nat → Int64)) (y_v_chest_row : (Nat → Int32)) (E : zE C RX11 cX11_matched 2 (some .int) ({ frames := 6, cells := 0, slots := 0, locals := 167 } : Room)) (hQ : C.Q = zQi C ({ frames := 6, cells := 0, slots := 0, locals := 167 } : Room) rr ((va_up (va_up (va_up (va_up (va_up (va_up (va_up (va_up (va_up I 10 y_v_chest_above) 11 y_v_chest_row) 12 y_v_chest_goodWorths) 29 y_v_chest_matcher_rowOf) 30 y_v_chest_matcher_cameFrom) 31 y_v_chest_matcher_isReached) 32 y_v_chest_matcher_mates) 5 (va_up (I 5) 11 y_v_chest_isMatched)) 9 y_v_chest_fits), (va_up (va_up (va_up (zg J y_v_chest_matcher_costs) 26 y_v_chest_matcher_rowPrices) 27 y_v_chest_matcher_columnPrices) 28 y_v_chest_matcher_gaps), Rr, D)) (v_chest_isMatched : Int32) (v_chest_above : (Nat → Int32)) (v_chest_fits : (Nat → Int32)) (v_chest_goodWorths : (Nat → Int32)) (v_chest_matcher_cameFrom : (Nat → Int32)) (v_chest_matcher_columnPrices : (Nat → Int64)) (v_chest_matcher_costs : (Nat → Nat → Int64)) (v_chest_matcher_gaps : (Nat → Int64)) (v_chest_matcher_isReached : (Nat → Int32)) (v_chest_matcher_mates : (Nat → Int32)) (v_chest_matcher_rowOf : (Nat → Int32)) (v_chest_matcher_rowPrices : (Nat → Int64)) (v_chest_row : (Nat → Int32)) (h : pK_matched N a1 v_chest_grain v_chest_isMatched v_chest_limit v_chest_lost v_chest_above v_chest_fits v_chest_goodWorths v_chest_matcher_cameFrom v_chest_matcher_columnPrices v_chest_matcher_costs v_chest_matcher_gaps v_chest_matcher_isReached v_chest_matcher_mates v_chest_matcher_rowOf v_chest_matcher_rowPrices v_chest_places v_chest_row v_chest_sizes v_chest_worths = some (rr, y_v_chest_isMatched, y_v_chest_above, y_v_chest_fits, y_v_chest_goodWorths, y_v_chest_matcher_cameFrom, y_v_chest_matcher_columnPrices, y_v_chest_matcher_costs, y_v_chest_matcher_gaps, y_v_chest_matcher_isReached, y_v_chest_matcher_mates, y_v_chest_matcher_rowOf, y_v_chest_matcher_rowPrices, y_v_chest_row)) : zB C (0, 0) 0 [(0, .ref (C.X.1 + 0)), (1, .int a1)] [] ((va_up (va_up (va_up (va_up (va_up (va_up (va_up (va_up (va_up I 10 v_chest_above) 11 v_chest_row) 12 v_chest_goodWorths) 29 v_chest_matcher_rowOf) 30 v_chest_matcher_cameFrom) 31 v_chest_matcher_isReached) 32 v_chest_matcher_mates) 5 (va_up (I 5) 11 v_chest_isMatched)) 9 v_chest_fits), (va_up (va_up (va_up (zg J v_chest_matcher_costs) 26 v_chest_matcher_rowPrices) 27 v_chest_matcher_columnPrices) 28 v_chest_matcher_gaps), Rr, D) := by
  refine zb_iload_n E dX11_matched_0 1 rfl rfl ?_
  refine zb_if_ne E dX11_matched_1 (tgt := 14) rfl (fun hc => ?_) (fun hc => ?_)
  · have h := if_f h hc
    refine zb_iload_n E dX11_matched_14 1 rfl rfl ?_
    refine zb_iconst E dX11_matched_15 (v := 1) rfl ?_
    refine zb_icmp_ne E dX11_matched_16 (tgt := 29) rfl (fun hc => ?_) (fun hc => ?_)
    · have h := if_f h hc
      refine zb_iconst E dX11_matched_29 (v := (-1)) rfl ?_
      obtain ⟨rfl, rfl, rfl, rfl, rfl, rfl, rfl, rfl, rfl, rfl, rfl, rfl, rfl, rfl⟩ := zinj14 h
      exact zb_iret E hQ rfl ⟨Nat.zero_le _, Nat.zero_le _⟩ dX11_matched_30
    · have h := if_t h hc
      refine zb_aload_n E dX11_matched_19 0 rfl rfl ?_
      refine zb_get E 0 (by decide) (zF_0 C.X) rfl zin11 1 (by decide) zw_354 (v := .ref (C.X.1 + 5)) rfl dX11_matched_20 ?_
      obtain ⟨rc1, v_chest_isMatched_c1, v_chest_above_c1, v_chest_fits_c1, v_chest_goodWorths_c1, v_chest_matcher_cameFrom_c1, v_chest_matcher_columnPrices_c1, v_chest_matcher_costs_c1, v_chest_matcher_gaps_c1, v_chest_matcher_isReached_c1, v_chest_matcher_mates_c1, v_chest_matcher_rowOf_c1, v_chest_matcher_rowPrices_c1, v_chest_row_c1, hc_23, h⟩ := bd14_s h
      refine zb_cVi E [] 5 zy_X2_fitMatched zw_617 (by decide) (zF_5 _ _ _ _) rfl (c_X2_fitMatched (va_up (I 5) 11 v_chest_isMatched) rfl v_chest_grain (by exact e_v_chest_grain) v_chest_limit (by exact e_v_chest_limit) v_chest_lost (by exact e_v_chest_lost) v_chest_places (by exact e_v_chest_places) v_chest_sizes (by exact e_v_chest_sizes) v_chest_worths (by exact e_v_chest_worths) v_chest_isMatched rfl v_chest_above rfl v_chest_fits rfl v_chest_goodWorths rfl v_chest_matcher_cameFrom rfl v_chest_matcher_columnPrices rfl v_chest_matcher_costs (by exact fun q hq => (zup_n (zgne hq (by decide : (28 : Nat) < 15 ∨ 26 ≤ (28 : Nat)))).trans ((zup_n (zgne hq (by decide : (27 : Nat) < 15 ∨ 26 ≤ (27 : Nat)))).trans ((zup_n (zgne hq (by decide : (26 : Nat) < 15 ∨ 26 ≤ (26 : Nat)))).trans (zg_at hq)))) v_chest_matcher_gaps rfl v_chest_matcher_isReached rfl v_chest_matcher_mates rfl v_chest_matcher_rowOf rfl v_chest_matcher_rowPrices rfl v_chest_row rfl hc_23) (by decide) rfl rfl (by first | decide | simp [Value.category]) dX11_matched_23 (cs2 := (0, 0)) rfl ?_
      refine zb_S (S2 := ((va_up (va_up (va_up (va_up (va_up (va_up (va_up (va_up (va_up I 10 v_chest_above_c1) 11 v_chest_row_c1) 12 v_chest_goodWorths_c1) 29 v_chest_matcher_rowOf_c1) 30 v_chest_matcher_cameFrom_c1) 31 v_chest_matcher_isReached_c1) 32 v_chest_matcher_mates_c1) 5 (va_up (I 5) 11 v_chest_isMatched_c1)) 9 v_chest_fits_c1), (va_up (va_up (va_up (zg J v_chest_matcher_costs_c1) 26 v_chest_matcher_rowPrices_c1) 27 v_chest_matcher_columnPrices_c1) 28 v_chest_matcher_gaps_c1), Rr, D)) (zS_eq ((zcgF ((zcgF ((zcgF ((zcgF ((zcgF ((zcgF ((zcgF ((zcgF (zn9 (by decide : (9 : Nat) ≠ 10) (by decide : (5 : Nat) ≠ 10) (by decide : (32 : Nat) ≠ 10) (by decide : (31 : Nat) ≠ 10) (by decide : (30 : Nat) ≠ 10) (by decide : (29 : Nat) ≠ 10) (by decide : (12 : Nat) ≠ 10) (by decide : (11 : Nat) ≠ 10))).trans (zn8 (by decide : (9 : Nat) ≠ 11) (by decide : (5 : Nat) ≠ 11) (by decide : (32 : Nat) ≠ 11) (by decide : (31 : Nat) ≠ 11) (by decide : (30 : Nat) ≠ 11) (by decide : (29 : Nat) ≠ 11) (by decide : (12 : Nat) ≠ 11)))).trans (zn7 (by decide : (9 : Nat) ≠ 12) (by decide : (5 : Nat) ≠ 12) (by decide : (32 : Nat) ≠ 12) (by decide : (31 : Nat) ≠ 12) (by decide : (30 : Nat) ≠ 12) (by decide : (29 : Nat) ≠ 12)))).trans (zn6 (by decide : (9 : Nat) ≠ 29) (by decide : (5 : Nat) ≠ 29) (by decide : (32 : Nat) ≠ 29) (by decide : (31 : Nat) ≠ 29) (by decide : (30 : Nat) ≠ 29)))).trans (zn5 (by decide : (9 : Nat) ≠ 30) (by decide : (5 : Nat) ≠ 30) (by decide : (32 : Nat) ≠ 30) (by decide : (31 : Nat) ≠ 30)))).trans (zn4 (by decide : (9 : Nat) ≠ 31) (by decide : (5 : Nat) ≠ 31) (by decide : (32 : Nat) ≠ 31)))).trans (zn3 (by decide : (9 : Nat) ≠ 32) (by decide : (5 : Nat) ≠ 32)))).trans ((zcgV zn1).trans (zn2 (by decide : (9 : Nat) ≠ 5))))).trans zn1) ((zcgF ((zcgF ((zcgF ((zgc (by decide : (28 : Nat) < 15 ∨ 26 ≤ (28 : Nat))).trans (zcgF ((zgc (by decide : (27 : Nat) < 15 ∨ 26 ≤ (27 : Nat))).trans (zcgF ((zgc (by decide : (26 : Nat) < 15 ∨ 26 ≤ (26 : Nat))).trans (zcgF zg_zg))))))).trans (zn3 (by decide : (28 : Nat) ≠ 26) (by decide : (27 : Nat) ≠ 26)))).trans (zn2 (by decide : (28 : Nat) ≠ 27)))).trans zn1)) ?_
      refine zb_goto E dX11_matched_26 (tgt := 30) rfl ?_
      obtain ⟨rfl, rfl, rfl, rfl, rfl, rfl, rfl, rfl, rfl, rfl, rfl, rfl, rfl, rfl⟩ := zinj14 h
      exact zb_iret E hQ rfl ⟨Nat.zero_le _, Nat.zero_le _⟩ dX11_matched_30
  · have h := if_t h hc
    refine zb_aload_n E dX11_matched_4 0 rfl rfl ?_
    refine zb_get E 0 (by decide) (zF_0 C.X) rfl zin11 1 (by decide) zw_354 (v := .ref (C.X.1 + 5)) rfl dX11_matched_5 ?_
    obtain ⟨rc2, v_chest_isMatched_c2, v_chest_above_c2, v_chest_fits_c2, v_chest_goodWorths_c2, v_chest_matcher_cameFrom_c2, v_chest_matcher_columnPrices_c2, v_chest_matcher_costs_c2, v_chest_matcher_gaps_c2, v_chest_matcher_isReached_c2, v_chest_matcher_mates_c2, v_chest_matcher_rowOf_c2, v_chest_matcher_rowPrices_c2, v_chest_row_c2, hc_8, h⟩ := bd14_s h
    refine zb_cVi E [] 5 zy_X2_pairsMatched zw_613 (by decide) (zF_5 _ _ _ _) rfl (c_X2_pairsMatched (va_up (I 5) 11 v_chest_isMatched) rfl v_chest_grain (by exact e_v_chest_grain) v_chest_limit (by exact e_v_chest_limit) v_chest_lost (by exact e_v_chest_lost) v_chest_places (by exact e_v_chest_places) v_chest_sizes (by exact e_v_chest_sizes) v_chest_worths (by exact e_v_chest_worths) v_chest_isMatched rfl v_chest_above rfl v_chest_fits rfl v_chest_goodWorths rfl v_chest_matcher_cameFrom rfl v_chest_matcher_columnPrices rfl v_chest_matcher_costs (by exact fun q hq => (zup_n (zgne hq (by decide : (28 : Nat) < 15 ∨ 26 ≤ (28 : Nat)))).trans ((zup_n (zgne hq (by decide : (27 : Nat) < 15 ∨ 26 ≤ (27 : Nat)))).trans ((zup_n (zgne hq (by decide : (26 : Nat) < 15 ∨ 26 ≤ (26 : Nat)))).trans (zg_at hq)))) v_chest_matcher_gaps rfl v_chest_matcher_isReached rfl v_chest_matcher_mates rfl v_chest_matcher_rowOf rfl v_chest_matcher_rowPrices rfl v_chest_row rfl hc_8) (by decide) rfl rfl (by first | decide | simp [Value.category]) dX11_matched_8 (cs2 := (0, 0)) rfl ?_
    refine zb_S (S2 := ((va_up (va_up (va_up (va_up (va_up (va_up (va_up (va_up (va_up I 10 v_chest_above_c2) 11 v_chest_row_c2) 12 v_chest_goodWorths_c2) 29 v_chest_matcher_rowOf_c2) 30 v_chest_matcher_cameFrom_c2) 31 v_chest_matcher_isReached_c2) 32 v_chest_matcher_mates_c2) 5 (va_up (I 5) 11 v_chest_isMatched_c2)) 9 v_chest_fits_c2), (va_up (va_up (va_up (zg J v_chest_matcher_costs_c2) 26 v_chest_matcher_rowPrices_c2) 27 v_chest_matcher_columnPrices_c2) 28 v_chest_matcher_gaps_c2), Rr, D)) (zS_eq ((zcgF ((zcgF ((zcgF ((zcgF ((zcgF ((zcgF ((zcgF ((zcgF (zn9 (by decide : (9 : Nat) ≠ 10) (by decide : (5 : Nat) ≠ 10) (by decide : (32 : Nat) ≠ 10) (by decide : (31 : Nat) ≠ 10) (by decide : (30 : Nat) ≠ 10) (by decide : (29 : Nat) ≠ 10) (by decide : (12 : Nat) ≠ 10) (by decide : (11 : Nat) ≠ 10))).trans (zn8 (by decide : (9 : Nat) ≠ 11) (by decide : (5 : Nat) ≠ 11) (by decide : (32 : Nat) ≠ 11) (by decide : (31 : Nat) ≠ 11) (by decide : (30 : Nat) ≠ 11) (by decide : (29 : Nat) ≠ 11) (by decide : (12 : Nat) ≠ 11)))).trans (zn7 (by decide : (9 : Nat) ≠ 12) (by decide : (5 : Nat) ≠ 12) (by decide : (32 : Nat) ≠ 12) (by decide : (31 : Nat) ≠ 12) (by decide : (30 : Nat) ≠ 12) (by decide : (29 : Nat) ≠ 12)))).trans (zn6 (by decide : (9 : Nat) ≠ 29) (by decide : (5 : Nat) ≠ 29) (by decide : (32 : Nat) ≠ 29) (by decide : (31 : Nat) ≠ 29) (by decide : (30 : Nat) ≠ 29)))).trans (zn5 (by decide : (9 : Nat) ≠ 30) (by decide : (5 : Nat) ≠ 30) (by decide : (32 : Nat) ≠ 30) (by decide : (31 : Nat) ≠ 30)))).trans (zn4 (by decide : (9 : Nat) ≠ 31) (by decide : (5 : Nat) ≠ 31) (by decide : (32 : Nat) ≠ 31)))).trans (zn3 (by decide : (9 : Nat) ≠ 32) (by decide : (5 : Nat) ≠ 32)))).trans ((zcgV zn1).trans (zn2 (by decide : (9 : Nat) ≠ 5))))).trans zn1) ((zcgF ((zcgF ((zcgF ((zgc (by decide : (28 : Nat) < 15 ∨ 26 ≤ (28 : Nat))).trans (zcgF ((zgc (by decide : (27 : Nat) < 15 ∨ 26 ≤ (27 : Nat))).trans (zcgF ((zgc (by decide : (26 : Nat) < 15 ∨ 26 ≤ (26 : Nat))).trans (zcgF zg_zg))))))).trans (zn3 (by decide : (28 : Nat) ≠ 26) (by decide : (27 : Nat) ≠ 26)))).trans (zn2 (by decide : (28 : Nat) ≠ 27)))).trans zn1)) ?_
    refine zb_goto E dX11_matched_11 (tgt := 30) rfl ?_
    obtain ⟨rfl, rfl, rfl, rfl, rfl, rfl, rfl, rfl, rfl, rfl, rfl, rfl, rfl, rfl⟩ := zinj14 h
    exact zb_iret E hQ rfl ⟨Nat.zero_le _, Nat.zero_le _⟩ dX11_matched_30
theorem c_X11_matched {l : Launch} {X : zX} {I : Nat → Nat → Int32} {J : Nat → Nat → Int64} {Rr : Nat → Nat → Option Nat} {D : zD} {N : Nat} {a1 : Int32} (oI5 : Nat → Int32) (eoI5 : I 5 = oI5) (v_chest_grain : Int32) (e_v_chest_grain : I 5 8 = v_chest_grain) (v_chest_limit : Int32) (e_v_chest_limit : I 5 10 = v_chest_limit) (v_chest_lost : Int32) (e_v_chest_lost : I 5 9 = v_chest_lost) (v_chest_places : (Nat → Int32)) (e_v_chest_places : I 6 = v_chest_places) (v_chest_sizes : (Nat → Int32)) (e_v_chest_sizes : I 8 = v_chest_sizes) (v_chest_worths : (Nat → Int32)) (e_v_chest_worths : I 7 = v_chest_worths) (v_chest_isMatched : Int32) (e_v_chest_isMatched : I 5 11 = v_chest_isMatched) (v_chest_above : (Nat → Int32)) (e_v_chest_above : I 10 = v_chest_above) (v_chest_fits : (Nat → Int32)) (e_v_chest_fits : I 9 = v_chest_fits) (v_chest_goodWorths : (Nat → Int32)) (e_v_chest_goodWorths : I 12 = v_chest_goodWorths) (v_chest_matcher_cameFrom : (Nat → Int32)) (e_v_chest_matcher_cameFrom : I 30 = v_chest_matcher_cameFrom) (v_chest_matcher_columnPrices : (Nat → Int64)) (e_v_chest_matcher_columnPrices : J 27 = v_chest_matcher_columnPrices) (v_chest_matcher_costs : (Nat → Nat → Int64)) (e_v_chest_matcher_costs : ∀ q, q < 11 → J (15 + q) = v_chest_matcher_costs q) (v_chest_matcher_gaps : (Nat → Int64)) (e_v_chest_matcher_gaps : J 28 = v_chest_matcher_gaps) (v_chest_matcher_isReached : (Nat → Int32)) (e_v_chest_matcher_isReached : I 31 = v_chest_matcher_isReached) (v_chest_matcher_mates : (Nat → Int32)) (e_v_chest_matcher_mates : I 32 = v_chest_matcher_mates) (v_chest_matcher_rowOf : (Nat → Int32)) (e_v_chest_matcher_rowOf : I 29 = v_chest_matcher_rowOf) (v_chest_matcher_rowPrices : (Nat → Int64)) (e_v_chest_matcher_rowPrices : J 26 = v_chest_matcher_rowPrices) (v_chest_row : (Nat → Int32)) (e_v_chest_row : I 11 = v_chest_row) {rr : Int32} {y_v_chest_isMatched : Int32} {y_v_chest_above : (Nat → Int32)} {y_v_chest_fits : (Nat → Int32)} {y_v_chest_goodWorths : (Nat → Int32)} {y_v_chest_matcher_cameFrom : (Nat → Int32)} {y_v_chest_matcher_columnPrices : (Nat → Int64)} {y_v_chest_matcher_costs : (Nat → Nat → Int64)} {y_v_chest_matcher_gaps : (Nat → Int64)} {y_v_chest_matcher_isReached : (Nat → Int32)} {y_v_chest_matcher_mates : (Nat → Int32)} {y_v_chest_matcher_rowOf : (Nat → Int32)} {y_v_chest_matcher_rowPrices : (Nat → Int64)} {y_v_chest_row : (Nat → Int32)} (h : pK_matched N a1 v_chest_grain v_chest_isMatched v_chest_limit v_chest_lost v_chest_above v_chest_fits v_chest_goodWorths v_chest_matcher_cameFrom v_chest_matcher_columnPrices v_chest_matcher_costs v_chest_matcher_gaps v_chest_matcher_isReached v_chest_matcher_mates v_chest_matcher_rowOf v_chest_matcher_rowPrices v_chest_places v_chest_row v_chest_sizes v_chest_worths = some (rr, y_v_chest_isMatched, y_v_chest_above, y_v_chest_fits, y_v_chest_goodWorths, y_v_chest_matcher_cameFrom, y_v_chest_matcher_columnPrices, y_v_chest_matcher_costs, y_v_chest_matcher_gaps, y_v_chest_matcher_isReached, y_v_chest_matcher_mates, y_v_chest_matcher_rowOf, y_v_chest_matcher_rowPrices, y_v_chest_row)) : zMi l yX11_matched cX11_matched 2 (some .int) ({ frames := 6, cells := 0, slots := 0, locals := 167 } : Room) X [.ref (X.1 + 0), .int a1] (I, J, Rr, D) rr ((va_up (va_up (va_up (va_up (va_up (va_up (va_up (va_up (va_up I 10 y_v_chest_above) 11 y_v_chest_row) 12 y_v_chest_goodWorths) 29 y_v_chest_matcher_rowOf) 30 y_v_chest_matcher_cameFrom) 31 y_v_chest_matcher_isReached) 32 y_v_chest_matcher_mates) 5 (va_up oI5 11 y_v_chest_isMatched)) 9 y_v_chest_fits), (va_up (va_up (va_up (zg J y_v_chest_matcher_costs) 26 y_v_chest_matcher_rowPrices) 27 y_v_chest_matcher_columnPrices) 28 y_v_chest_matcher_gaps), Rr, D) := by
  subst eoI5
  refine zMi.of (by decide) (Nat.le_of_ble_eq_true rfl) (fun C E hl hX hQ => ?_)
  subst hl
  subst hX
  have eI0 : (va_up (va_up (va_up (va_up (va_up (va_up (va_up (va_up (va_up I 10 v_chest_above) 11 v_chest_row) 12 v_chest_goodWorths) 29 v_chest_matcher_rowOf) 30 v_chest_matcher_cameFrom) 31 v_chest_matcher_isReached) 32 v_chest_matcher_mates) 5 (va_up (I 5) 11 v_chest_isMatched)) 9 v_chest_fits) = I := by rw [zup_idE e_v_chest_above, zup_idE e_v_chest_row, zup_idE e_v_chest_goodWorths, zup_idE e_v_chest_matcher_rowOf, zup_idE e_v_chest_matcher_cameFrom, zup_idE e_v_chest_matcher_isReached, zup_idE e_v_chest_matcher_mates, zup_idE e_v_chest_isMatched, zup_id, zup_idE e_v_chest_fits]
  have eJ0 : (va_up (va_up (va_up (zg J v_chest_matcher_costs) 26 v_chest_matcher_rowPrices) 27 v_chest_matcher_columnPrices) 28 v_chest_matcher_gaps) = J := by rw [zg_id e_v_chest_matcher_costs, zup_idE e_v_chest_matcher_rowPrices, zup_idE e_v_chest_matcher_columnPrices, zup_idE e_v_chest_matcher_gaps]
  refine zb_S (S2 := ((va_up (va_up (va_up (va_up (va_up (va_up (va_up (va_up (va_up I 10 v_chest_above) 11 v_chest_row) 12 v_chest_goodWorths) 29 v_chest_matcher_rowOf) 30 v_chest_matcher_cameFrom) 31 v_chest_matcher_isReached) 32 v_chest_matcher_mates) 5 (va_up (I 5) 11 v_chest_isMatched)) 9 v_chest_fits), (va_up (va_up (va_up (zg J v_chest_matcher_costs) 26 v_chest_matcher_rowPrices) 27 v_chest_matcher_columnPrices) 28 v_chest_matcher_gaps), Rr, D)) (zS_eq eI0.symm eJ0.symm) ?_
  exact c_X11_matched_0 N a1 v_chest_grain e_v_chest_grain v_chest_limit e_v_chest_limit v_chest_lost e_v_chest_lost v_chest_places e_v_chest_places v_chest_sizes e_v_chest_sizes v_chest_worths e_v_chest_worths rr y_v_chest_isMatched y_v_chest_above y_v_chest_fits y_v_chest_goodWorths y_v_chest_matcher_cameFrom y_v_chest_matcher_columnPrices y_v_chest_matcher_costs y_v_chest_matcher_gaps y_v_chest_matcher_isReached y_v_chest_matcher_mates y_v_chest_matcher_rowOf y_v_chest_matcher_rowPrices y_v_chest_row E hQ v_chest_isMatched v_chest_above v_chest_fits v_chest_goodWorths v_chest_matcher_cameFrom v_chest_matcher_columnPrices v_chest_matcher_costs v_chest_matcher_gaps v_chest_matcher_isReached v_chest_matcher_mates v_chest_matcher_rowOf v_chest_matcher_rowPrices v_chest_row h
-- ChequeredCloth.writ
abbrev R_pK_writ : Type := Int32 × Dyn × Int32 × (Nat → Int32) × (Nat → Int32) × (Nat → Int32) × (Nat → Int32) × (Nat → Option Nat) × Int32 × Int32 × Int32 × Int32 × Int32 × Int32 × Int32 × Int32 × Int32 × (Nat → Int32) × (Nat → Option Nat)
def pK_writ_b17 (N : Nat) (a1 : Int32) (v_reader_tape : (Nat → Int32)) (v_D : Dyn) (v_acts_count : Int32) (v_acts_amounts : (Nat → Int32)) (v_acts_kinds : (Nat → Int32)) (v_acts_shires : (Nat → Int32)) (v_acts_terms : (Nat → Int32)) (v_acts_writs : (Nat → Option Nat)) (v_reader_at : Int32) (v_reader_count : Int32) (v_reader_fault : Int32) (v_reader_faultAt : Int32) (v_reader_kind : Int32) (v_reader_length : Int32) (v_reader_open : Int32) (v_reader_size : Int32) (v_reader_stop : Int32) (v_reader_code : (Nat → Int32)) (v_reader_statements : (Nat → Option Nat)) : Option R_pK_writ :=
  bd1 (pReader_wipe v_reader_length) fun v_reader_length_c6 =>
  some ((-2), v_D, v_acts_count, v_acts_amounts, v_acts_kinds, v_acts_shires, v_acts_terms, v_acts_writs, v_reader_at, v_reader_count, v_reader_fault, v_reader_faultAt, v_reader_kind, v_reader_length_c6, v_reader_open, v_reader_size, v_reader_stop, v_reader_code, v_reader_statements)
def pK_writ (N : Nat) (a1 : Int32) (v_D : Dyn) (v_acts_count : Int32) (v_acts_amounts : (Nat → Int32)) (v_acts_kinds : (Nat → Int32)) (v_acts_shires : (Nat → Int32)) (v_acts_terms : (Nat → Int32)) (v_acts_writs : (Nat → Option Nat)) (v_reader_at : Int32) (v_reader_count : Int32) (v_reader_fault : Int32) (v_reader_faultAt : Int32) (v_reader_kind : Int32) (v_reader_length : Int32) (v_reader_open : Int32) (v_reader_size : Int32) (v_reader_stop : Int32) (v_reader_code : (Nat → Int32)) (v_reader_statements : (Nat → Option Nat)) (v_reader_tape : (Nat → Int32)) : Option R_pK_writ :=
  bd1 (pK_isTerm a1) fun rc1 =>
  if rc1 = 0 then
    pK_writ_b17 N a1 v_reader_tape v_D v_acts_count v_acts_amounts v_acts_kinds v_acts_shires v_acts_terms v_acts_writs v_reader_at v_reader_count v_reader_fault v_reader_faultAt v_reader_kind v_reader_length v_reader_open v_reader_size v_reader_stop v_reader_code v_reader_statements
  else
    bd1 (pActs_isFull v_acts_count) fun rc2 =>
    if rc2 = 0 then
      bd13 (pReader_read N v_D v_reader_at v_reader_count v_reader_fault v_reader_faultAt v_reader_kind v_reader_length v_reader_open v_reader_size v_reader_stop v_reader_code v_reader_statements v_reader_tape) fun rc3 v_D_c3 v_reader_at_c3 v_reader_count_c3 v_reader_fault_c3 v_reader_faultAt_c3 v_reader_kind_c3 v_reader_length_c3 v_reader_open_c3 v_reader_size_c3 v_reader_stop_c3 v_reader_code_c3 v_reader_statements_c3 =>
      opn rc3 (
        some ((-1), v_D_c3, v_acts_count, v_acts_amounts, v_acts_kinds, v_acts_shires, v_acts_terms, v_acts_writs, v_reader_at_c3, v_reader_count_c3, v_reader_fault_c3, v_reader_faultAt_c3, v_reader_kind_c3, v_reader_length_c3, v_reader_open_c3, v_reader_size_c3, v_reader_stop_c3, v_reader_code_c3, v_reader_statements_c3)) fun y4 =>
        bd7 (pActs_addWrit a1 (some y4) v_D_c3 v_acts_count v_acts_amounts v_acts_kinds v_acts_shires v_acts_terms v_acts_writs) fun rc5 v_acts_count_c5 v_acts_amounts_c5 v_acts_kinds_c5 v_acts_shires_c5 v_acts_terms_c5 v_acts_writs_c5 =>
        some (rc5, v_D_c3, v_acts_count_c5, v_acts_amounts_c5, v_acts_kinds_c5, v_acts_shires_c5, v_acts_terms_c5, v_acts_writs_c5, v_reader_at_c3, v_reader_count_c3, v_reader_fault_c3, v_reader_faultAt_c3, v_reader_kind_c3, v_reader_length_c3, v_reader_open_c3, v_reader_size_c3, v_reader_stop_c3, v_reader_code_c3, v_reader_statements_c3)
    else
      pK_writ_b17 N a1 v_reader_tape v_D v_acts_count v_acts_amounts v_acts_kinds v_acts_shires v_acts_terms v_acts_writs v_reader_at v_reader_count v_reader_fault v_reader_faultAt v_reader_kind v_reader_length v_reader_open v_reader_size v_reader_stop v_reader_code v_reader_statements
theorem dX11_writ_0 : decode cX11_writ 0 = .ok (.iload_n 1, 1) := by decide +kernel
theorem dX11_writ_1 : decode cX11_writ 1 = .ok (.invokestatic 120, 3) := by decide +kernel
theorem dX11_writ_4 : decode cX11_writ 4 = .ok (.ifCond .eq 13, 3) := by decide +kernel
theorem dX11_writ_7 : decode cX11_writ 7 = .ok (.aload_n 0, 1) := by decide +kernel
theorem dX11_writ_8 : decode cX11_writ 8 = .ok (.getfield 37, 3) := by decide +kernel
theorem dX11_writ_11 : decode cX11_writ 11 = .ok (.invokevirtual 123, 3) := by decide +kernel
theorem dX11_writ_14 : decode cX11_writ 14 = .ok (.ifCond .eq 13, 3) := by decide +kernel
theorem dX11_writ_17 : decode cX11_writ 17 = .ok (.aload_n 0, 1) := by decide +kernel
theorem dX11_writ_18 : decode cX11_writ 18 = .ok (.getfield 30, 3) := by decide +kernel
theorem dX11_writ_21 : decode cX11_writ 21 = .ok (.invokevirtual 126, 3) := by decide +kernel
theorem dX11_writ_24 : decode cX11_writ 24 = .ok (.bipush (-2), 2) := by decide +kernel
theorem dX11_writ_26 : decode cX11_writ 26 = .ok (.ireturn, 1) := by decide +kernel
theorem dX11_writ_27 : decode cX11_writ 27 = .ok (.aload_n 0, 1) := by decide +kernel
theorem dX11_writ_28 : decode cX11_writ 28 = .ok (.getfield 30, 3) := by decide +kernel
theorem dX11_writ_31 : decode cX11_writ 31 = .ok (.invokevirtual 129, 3) := by decide +kernel
theorem dX11_writ_34 : decode cX11_writ 34 = .ok (.astore_n 2, 1) := by decide +kernel
theorem dX11_writ_35 : decode cX11_writ 35 = .ok (.aload_n 2, 1) := by decide +kernel
theorem dX11_writ_36 : decode cX11_writ 36 = .ok (.ifnonnull 7, 3) := by decide +kernel
theorem dX11_writ_39 : decode cX11_writ 39 = .ok (.iconst (-1), 1) := by decide +kernel
theorem dX11_writ_40 : decode cX11_writ 40 = .ok (.goto 12, 3) := by decide +kernel
theorem dX11_writ_43 : decode cX11_writ 43 = .ok (.aload_n 0, 1) := by decide +kernel
theorem dX11_writ_44 : decode cX11_writ 44 = .ok (.getfield 37, 3) := by decide +kernel
theorem dX11_writ_47 : decode cX11_writ 47 = .ok (.iload_n 1, 1) := by decide +kernel
theorem dX11_writ_48 : decode cX11_writ 48 = .ok (.aload_n 2, 1) := by decide +kernel
theorem dX11_writ_49 : decode cX11_writ 49 = .ok (.invokevirtual 133, 3) := by decide +kernel
theorem dX11_writ_52 : decode cX11_writ 52 = .ok (.ireturn, 1) := by decide +kernel
theorem zy_X11_writ : zYv yX11_writ cX11_writ 3 (some .int) 1 := ⟨zw_622, zw_623, zw_1, zw_624, by decide, by decide, by decide⟩
theorem c_X11_writ_b17 {C : zC} {I : Nat → Nat → Int32} {J : Nat → Nat → Int64} {Rr : Nat → Nat → Option Nat}  (N : Nat) (a1 : Int32) (v_reader_tape : (Nat → Int32)) (e_v_reader_tape : I 34 = v_reader_tape) (rr : Int32) (y_v_D : Dyn) (y_v_acts_count : Int32) (y_v_acts_amounts : (Nat → Int32)) (y_v_acts_kinds : (Nat → Int32)) (y_v_acts_shires : (Nat → Int32)) (y_v_acts_terms : (Nat → Int32)) (y_v_acts_writs : (Nat → Option Nat)) (y_v_reader_at : Int32) (y_v_reader_count : Int32) (y_v_reader_fault : Int32) (y_v_reader_faultAt : Int32) (y_v_reader_kind : Int32) (y_v_reader_length : Int32) (y_v_reader_open : Int32) (y_v_reader_size : Int32) (y_v_reader_stop : Int32) (y_v_reader_code : (Nat → Int32)) (y_v_reader_statements : (Nat → Option Nat)) (E : zE C RX11 cX11_writ 3 (some .int) ({ frames := 666, cells := 27, slots := 794, locals := 16615 } : Room)) (hQ : C.Q = zQi C ({ frames := 666, cells := 27, slots := 794, locals := 16615 } : Room) rr ((va_up (va_up (va_up (va_up (va_up (va_up (va_up I 33 (va_up (va_up (va_up (va_up (va_up (va_up (va_up (va_up (va_up (I 33) 3 y_v_reader_length) 4 y_v_reader_size) 5 y_v_reader_count) 6 y_v_reader_kind) 7 y_v_reader_at) 8 y_v_reader_stop) 9 y_v_reader_open) 10 y_v_reader_fault) 11 y_v_reader_faultAt)) 35 y_v_reader_code) 37 (va_up (I 37) 6 y_v_acts_count)) 38 y_v_acts_kinds) 39 y_v_acts_shires) 40 y_v_acts_terms) 41 y_v_acts_amounts), J, (va_up (va_up Rr 36 y_v_reader_statements) 43 y_v_acts_writs), y_v_D)) (v_D : Dyn) (v_acts_count : Int32) (v_acts_amounts : (Nat → Int32)) (v_acts_kinds : (Nat → Int32)) (v_acts_shires : (Nat → Int32)) (v_acts_terms : (Nat → Int32)) (v_acts_writs : (Nat → Option Nat)) (v_reader_at : Int32) (v_reader_count : Int32) (v_reader_fault : Int32) (v_reader_faultAt : Int32) (v_reader_kind : Int32) (v_reader_length : Int32) (v_reader_open : Int32) (v_reader_size : Int32) (v_reader_stop : Int32) (v_reader_code : (Nat → Int32)) (v_reader_statements : (Nat → Option Nat)) (h : pK_writ_b17 N a1 v_reader_tape v_D v_acts_count v_acts_amounts v_acts_kinds v_acts_shires v_acts_terms v_acts_writs v_reader_at v_reader_count v_reader_fault v_reader_faultAt v_reader_kind v_reader_length v_reader_open v_reader_size v_reader_stop v_reader_code v_reader_statements = some (rr, y_v_D, y_v_acts_count, y_v_acts_amounts, y_v_acts_kinds, y_v_acts_shires, y_v_acts_terms, y_v_acts_writs, y_v_reader_at, y_v_reader_count, y_v_reader_fault, y_v_reader_faultAt, y_v_reader_kind, y_v_reader_length, y_v_reader_open, y_v_reader_size, y_v_reader_stop, y_v_reader_code, y_v_reader_statements)) : zB C (0, 0) 17 [(0, .ref (C.X.1 + 0))] [] ((va_up (va_up (va_up (va_up (va_up (va_up (va_up I 33 (va_up (va_up (va_up (va_up (va_up (va_up (va_up (va_up (va_up (I 33) 3 v_reader_length) 4 v_reader_size) 5 v_reader_count) 6 v_reader_kind) 7 v_reader_at) 8 v_reader_stop) 9 v_reader_open) 10 v_reader_fault) 11 v_reader_faultAt)) 35 v_reader_code) 37 (va_up (I 37) 6 v_acts_count)) 38 v_acts_kinds) 39 v_acts_shires) 40 v_acts_terms) 41 v_acts_amounts), J, (va_up (va_up Rr 36 v_reader_statements) 43 v_acts_writs), v_D) := by
  refine zb_aload_n E dX11_writ_17 0 rfl rfl ?_
  refine zb_getX E 0 (by decide) (zF_0 C.X) rfl zin11 2 (by decide) zw_355 ((zup_n (by decide : (0 : Nat) ≠ 41)).trans ((zup_n (by decide : (0 : Nat) ≠ 40)).trans ((zup_n (by decide : (0 : Nat) ≠ 39)).trans ((zup_n (by decide : (0 : Nat) ≠ 38)).trans ((zup_n (by decide : (0 : Nat) ≠ 37)).trans ((zup_n (by decide : (0 : Nat) ≠ 35)).trans (zup_n (by decide : (0 : Nat) ≠ 33)))))))) rfl (v := .ref (C.X.1 + 33)) rfl dX11_writ_18 ?_
  obtain ⟨v_reader_length_c6, hc_21, h⟩ := bd1_s h
  refine zb_cVv E [] 33 zy_X7_wipe zw_632 (by decide) (zF_33 _ _ _ _) rfl (c_X7_wipe (va_up (va_up (va_up (va_up (va_up (va_up (va_up (va_up (va_up (I 33) 3 v_reader_length) 4 v_reader_size) 5 v_reader_count) 6 v_reader_kind) 7 v_reader_at) 8 v_reader_stop) 9 v_reader_open) 10 v_reader_fault) 11 v_reader_faultAt) ((zup_n (by decide : (33 : Nat) ≠ 41)).trans ((zup_n (by decide : (33 : Nat) ≠ 40)).trans ((zup_n (by decide : (33 : Nat) ≠ 39)).trans ((zup_n (by decide : (33 : Nat) ≠ 38)).trans ((zup_n (by decide : (33 : Nat) ≠ 37)).trans ((zup_n (by decide : (33 : Nat) ≠ 35)).trans zup_s)))))) v_reader_length (zcf (f := ((va_up (va_up (va_up (va_up (va_up (va_up (va_up I 33 (va_up (va_up (va_up (va_up (va_up (va_up (va_up (va_up (va_up (I 33) 3 v_reader_length) 4 v_reader_size) 5 v_reader_count) 6 v_reader_kind) 7 v_reader_at) 8 v_reader_stop) 9 v_reader_open) 10 v_reader_fault) 11 v_reader_faultAt)) 35 v_reader_code) 37 (va_up (I 37) 6 v_acts_count)) 38 v_acts_kinds) 39 v_acts_shires) 40 v_acts_terms) 41 v_acts_amounts) 33)) ((zup_n (by decide : (33 : Nat) ≠ 41)).trans ((zup_n (by decide : (33 : Nat) ≠ 40)).trans ((zup_n (by decide : (33 : Nat) ≠ 39)).trans ((zup_n (by decide : (33 : Nat) ≠ 38)).trans ((zup_n (by decide : (33 : Nat) ≠ 37)).trans ((zup_n (by decide : (33 : Nat) ≠ 35)).trans zup_s)))))) rfl) hc_21) (by decide) rfl rfl (by first | decide | simp [Value.category, zva_cat]) dX11_writ_21 (cs2 := (0, 0)) rfl ?_
  refine zb_S (S2 := ((va_up (va_up (va_up (va_up (va_up (va_up (va_up I 33 (va_up (va_up (va_up (va_up (va_up (va_up (va_up (va_up (va_up (I 33) 3 v_reader_length_c6) 4 v_reader_size) 5 v_reader_count) 6 v_reader_kind) 7 v_reader_at) 8 v_reader_stop) 9 v_reader_open) 10 v_reader_fault) 11 v_reader_faultAt)) 35 v_reader_code) 37 (va_up (I 37) 6 v_acts_count)) 38 v_acts_kinds) 39 v_acts_shires) 40 v_acts_terms) 41 v_acts_amounts), J, (va_up (va_up Rr 36 v_reader_statements) 43 v_acts_writs), v_D)) (zS_eq3 ((zcgV (zn9 (by decide : (11 : Nat) ≠ 3) (by decide : (10 : Nat) ≠ 3) (by decide : (9 : Nat) ≠ 3) (by decide : (8 : Nat) ≠ 3) (by decide : (7 : Nat) ≠ 3) (by decide : (6 : Nat) ≠ 3) (by decide : (5 : Nat) ≠ 3) (by decide : (4 : Nat) ≠ 3))).trans (zn7 (by decide : (41 : Nat) ≠ 33) (by decide : (40 : Nat) ≠ 33) (by decide : (39 : Nat) ≠ 33) (by decide : (38 : Nat) ≠ 33) (by decide : (37 : Nat) ≠ 33) (by decide : (35 : Nat) ≠ 33))) rfl rfl) ?_
  refine zb_bipush E dX11_writ_24 (v := (-2)) rfl ?_
  obtain ⟨rfl, rfl, rfl, rfl, rfl, rfl, rfl, rfl, rfl, rfl, rfl, rfl, rfl, rfl, rfl, rfl, rfl, rfl, rfl⟩ := zinj19 h
  exact zb_iret E hQ rfl ⟨by decide, by decide⟩ dX11_writ_26
theorem c_X11_writ_0 {C : zC} {I : Nat → Nat → Int32} {J : Nat → Nat → Int64} {Rr : Nat → Nat → Option Nat}  (N : Nat) (a1 : Int32) (v_reader_tape : (Nat → Int32)) (e_v_reader_tape : I 34 = v_reader_tape) (rr : Int32) (y_v_D : Dyn) (y_v_acts_count : Int32) (y_v_acts_amounts : (Nat → Int32)) (y_v_acts_kinds : (Nat → Int32)) (y_v_acts_shires : (Nat → Int32)) (y_v_acts_terms : (Nat → Int32)) (y_v_acts_writs : (Nat → Option Nat)) (y_v_reader_at : Int32) (y_v_reader_count : Int32) (y_v_reader_fault : Int32) (y_v_reader_faultAt : Int32) (y_v_reader_kind : Int32) (y_v_reader_length : Int32) (y_v_reader_open : Int32) (y_v_reader_size : Int32) (y_v_reader_stop : Int32) (y_v_reader_code : (Nat → Int32)) (y_v_reader_statements : (Nat → Option Nat)) (E : zE C RX11 cX11_writ 3 (some .int) ({ frames := 666, cells := 27, slots := 794, locals := 16615 } : Room)) (hQ : C.Q = zQi C ({ frames := 666, cells := 27, slots := 794, locals := 16615 } : Room) rr ((va_up (va_up (va_up (va_up (va_up (va_up (va_up I 33 (va_up (va_up (va_up (va_up (va_up (va_up (va_up (va_up (va_up (I 33) 3 y_v_reader_length) 4 y_v_reader_size) 5 y_v_reader_count) 6 y_v_reader_kind) 7 y_v_reader_at) 8 y_v_reader_stop) 9 y_v_reader_open) 10 y_v_reader_fault) 11 y_v_reader_faultAt)) 35 y_v_reader_code) 37 (va_up (I 37) 6 y_v_acts_count)) 38 y_v_acts_kinds) 39 y_v_acts_shires) 40 y_v_acts_terms) 41 y_v_acts_amounts), J, (va_up (va_up Rr 36 y_v_reader_statements) 43 y_v_acts_writs), y_v_D)) (v_D : Dyn) (v_acts_count : Int32) (v_acts_amounts : (Nat → Int32)) (v_acts_kinds : (Nat → Int32)) (v_acts_shires : (Nat → Int32)) (v_acts_terms : (Nat → Int32)) (v_acts_writs : (Nat → Option Nat)) (v_reader_at : Int32) (v_reader_count : Int32) (v_reader_fault : Int32) (v_reader_faultAt : Int32) (v_reader_kind : Int32) (v_reader_length : Int32) (v_reader_open : Int32) (v_reader_size : Int32) (v_reader_stop : Int32) (v_reader_code : (Nat → Int32)) (v_reader_statements : (Nat → Option Nat)) (h : pK_writ N a1 v_D v_acts_count v_acts_amounts v_acts_kinds v_acts_shires v_acts_terms v_acts_writs v_reader_at v_reader_count v_reader_fault v_reader_faultAt v_reader_kind v_reader_length v_reader_open v_reader_size v_reader_stop v_reader_code v_reader_statements v_reader_tape = some (rr, y_v_D, y_v_acts_count, y_v_acts_amounts, y_v_acts_kinds, y_v_acts_shires, y_v_acts_terms, y_v_acts_writs, y_v_reader_at, y_v_reader_count, y_v_reader_fault, y_v_reader_faultAt, y_v_reader_kind, y_v_reader_length, y_v_reader_open, y_v_reader_size, y_v_reader_stop, y_v_reader_code, y_v_reader_statements)) : zB C (0, 0) 0 [(0, .ref (C.X.1 + 0)), (1, .int a1)] [] ((va_up (va_up (va_up (va_up (va_up (va_up (va_up I 33 (va_up (va_up (va_up (va_up (va_up (va_up (va_up (va_up (va_up (I 33) 3 v_reader_length) 4 v_reader_size) 5 v_reader_count) 6 v_reader_kind) 7 v_reader_at) 8 v_reader_stop) 9 v_reader_open) 10 v_reader_fault) 11 v_reader_faultAt)) 35 v_reader_code) 37 (va_up (I 37) 6 v_acts_count)) 38 v_acts_kinds) 39 v_acts_shires) 40 v_acts_terms) 41 v_acts_amounts), J, (va_up (va_up Rr 36 v_reader_statements) 43 v_acts_writs), v_D) := by
  refine zb_iload_n E dX11_writ_0 1 rfl rfl ?_
  obtain ⟨rc1, hc_1, h⟩ := bd1_s h
  refine zb_cSi E [.int a1] zy_X11_isTerm zw_625 (c_X11_isTerm hc_1) (by decide) rfl rfl (by first | decide | simp [Value.category, zva_cat]) dX11_writ_1 (cs2 := (0, 0)) rfl ?_
  refine zb_if_eq E dX11_writ_4 (tgt := 17) rfl (fun hc => ?_) (fun hc => ?_)
  · have h := if_t h hc
    refine zb_sub [0] rfl ?_
    exact c_X11_writ_b17 N a1 v_reader_tape e_v_reader_tape rr y_v_D y_v_acts_count y_v_acts_amounts y_v_acts_kinds y_v_acts_shires y_v_acts_terms y_v_acts_writs y_v_reader_at y_v_reader_count y_v_reader_fault y_v_reader_faultAt y_v_reader_kind y_v_reader_length y_v_reader_open y_v_reader_size y_v_reader_stop y_v_reader_code y_v_reader_statements E hQ v_D v_acts_count v_acts_amounts v_acts_kinds v_acts_shires v_acts_terms v_acts_writs v_reader_at v_reader_count v_reader_fault v_reader_faultAt v_reader_kind v_reader_length v_reader_open v_reader_size v_reader_stop v_reader_code v_reader_statements h
  · have h := if_f h hc
    refine zb_aload_n E dX11_writ_7 0 rfl rfl ?_
    refine zb_getX E 0 (by decide) (zF_0 C.X) rfl zin11 3 (by decide) zw_356 ((zup_n (by decide : (0 : Nat) ≠ 41)).trans ((zup_n (by decide : (0 : Nat) ≠ 40)).trans ((zup_n (by decide : (0 : Nat) ≠ 39)).trans ((zup_n (by decide : (0 : Nat) ≠ 38)).trans ((zup_n (by decide : (0 : Nat) ≠ 37)).trans ((zup_n (by decide : (0 : Nat) ≠ 35)).trans (zup_n (by decide : (0 : Nat) ≠ 33)))))))) rfl (v := .ref (C.X.1 + 37)) rfl dX11_writ_8 ?_
    obtain ⟨rc2, hc_11, h⟩ := bd1_s h
    refine zb_cVi E [] 37 zy_X0_isFull zw_628 (by decide) (zF_37 _ _ _ _) rfl (c_X0_isFull v_acts_count (zcf (f := ((va_up (va_up (va_up (va_up (va_up (va_up (va_up I 33 (va_up (va_up (va_up (va_up (va_up (va_up (va_up (va_up (va_up (I 33) 3 v_reader_length) 4 v_reader_size) 5 v_reader_count) 6 v_reader_kind) 7 v_reader_at) 8 v_reader_stop) 9 v_reader_open) 10 v_reader_fault) 11 v_reader_faultAt)) 35 v_reader_code) 37 (va_up (I 37) 6 v_acts_count)) 38 v_acts_kinds) 39 v_acts_shires) 40 v_acts_terms) 41 v_acts_amounts) 37)) ((zup_n (by decide : (37 : Nat) ≠ 41)).trans ((zup_n (by decide : (37 : Nat) ≠ 40)).trans ((zup_n (by decide : (37 : Nat) ≠ 39)).trans ((zup_n (by decide : (37 : Nat) ≠ 38)).trans zup_s)))) rfl) hc_11) (by decide) rfl rfl (by first | decide | simp [Value.category, zva_cat]) dX11_writ_11 (cs2 := (0, 0)) rfl ?_
    refine zb_if_eq E dX11_writ_14 (tgt := 27) rfl (fun hc => ?_) (fun hc => ?_)
    · have h := if_t h hc
      refine zb_aload_n E dX11_writ_27 0 rfl rfl ?_
      refine zb_getX E 0 (by decide) (zF_0 C.X) rfl zin11 2 (by decide) zw_355 ((zup_n (by decide : (0 : Nat) ≠ 41)).trans ((zup_n (by decide : (0 : Nat) ≠ 40)).trans ((zup_n (by decide : (0 : Nat) ≠ 39)).trans ((zup_n (by decide : (0 : Nat) ≠ 38)).trans ((zup_n (by decide : (0 : Nat) ≠ 37)).trans ((zup_n (by decide : (0 : Nat) ≠ 35)).trans (zup_n (by decide : (0 : Nat) ≠ 33)))))))) rfl (v := .ref (C.X.1 + 33)) rfl dX11_writ_28 ?_
      obtain ⟨rc3, v_D_c3, v_reader_at_c3, v_reader_count_c3, v_reader_fault_c3, v_reader_faultAt_c3, v_reader_kind_c3, v_reader_length_c3, v_reader_open_c3, v_reader_size_c3, v_reader_stop_c3, v_reader_code_c3, v_reader_statements_c3, hc_31, h⟩ := bd13_s h
      refine zb_cVq E [] 33 zy_X7_read zw_636 (by decide) (zF_33 _ _ _ _) rfl (c_X7_read (va_up (va_up (va_up (va_up (va_up (va_up (va_up (va_up (va_up (I 33) 3 v_reader_length) 4 v_reader_size) 5 v_reader_count) 6 v_reader_kind) 7 v_reader_at) 8 v_reader_stop) 9 v_reader_open) 10 v_reader_fault) 11 v_reader_faultAt) ((zup_n (by decide : (33 : Nat) ≠ 41)).trans ((zup_n (by decide : (33 : Nat) ≠ 40)).trans ((zup_n (by decide : (33 : Nat) ≠ 39)).trans ((zup_n (by decide : (33 : Nat) ≠ 38)).trans ((zup_n (by decide : (33 : Nat) ≠ 37)).trans ((zup_n (by decide : (33 : Nat) ≠ 35)).trans zup_s)))))) v_reader_tape (((zup_n (by decide : (34 : Nat) ≠ 41)).trans ((zup_n (by decide : (34 : Nat) ≠ 40)).trans ((zup_n (by decide : (34 : Nat) ≠ 39)).trans ((zup_n (by decide : (34 : Nat) ≠ 38)).trans ((zup_n (by decide : (34 : Nat) ≠ 37)).trans ((zup_n (by decide : (34 : Nat) ≠ 35)).trans (zup_n (by decide : (34 : Nat) ≠ 33)))))))).trans e_v_reader_tape) v_reader_at (zcf (f := ((va_up (va_up (va_up (va_up (va_up (va_up (va_up I 33 (va_up (va_up (va_up (va_up (va_up (va_up (va_up (va_up (va_up (I 33) 3 v_reader_length) 4 v_reader_size) 5 v_reader_count) 6 v_reader_kind) 7 v_reader_at) 8 v_reader_stop) 9 v_reader_open) 10 v_reader_fault) 11 v_reader_faultAt)) 35 v_reader_code) 37 (va_up (I 37) 6 v_acts_count)) 38 v_acts_kinds) 39 v_acts_shires) 40 v_acts_terms) 41 v_acts_amounts) 33)) ((zup_n (by decide : (33 : Nat) ≠ 41)).trans ((zup_n (by decide : (33 : Nat) ≠ 40)).trans ((zup_n (by decide : (33 : Nat) ≠ 39)).trans ((zup_n (by decide : (33 : Nat) ≠ 38)).trans ((zup_n (by decide : (33 : Nat) ≠ 37)).trans ((zup_n (by decide : (33 : Nat) ≠ 35)).trans zup_s)))))) rfl) v_reader_count (zcf (f := ((va_up (va_up (va_up (va_up (va_up (va_up (va_up I 33 (va_up (va_up (va_up (va_up (va_up (va_up (va_up (va_up (va_up (I 33) 3 v_reader_length) 4 v_reader_size) 5 v_reader_count) 6 v_reader_kind) 7 v_reader_at) 8 v_reader_stop) 9 v_reader_open) 10 v_reader_fault) 11 v_reader_faultAt)) 35 v_reader_code) 37 (va_up (I 37) 6 v_acts_count)) 38 v_acts_kinds) 39 v_acts_shires) 40 v_acts_terms) 41 v_acts_amounts) 33)) ((zup_n (by decide : (33 : Nat) ≠ 41)).trans ((zup_n (by decide : (33 : Nat) ≠ 40)).trans ((zup_n (by decide : (33 : Nat) ≠ 39)).trans ((zup_n (by decide : (33 : Nat) ≠ 38)).trans ((zup_n (by decide : (33 : Nat) ≠ 37)).trans ((zup_n (by decide : (33 : Nat) ≠ 35)).trans zup_s)))))) rfl) v_reader_fault (zcf (f := ((va_up (va_up (va_up (va_up (va_up (va_up (va_up I 33 (va_up (va_up (va_up (va_up (va_up (va_up (va_up (va_up (va_up (I 33) 3 v_reader_length) 4 v_reader_size) 5 v_reader_count) 6 v_reader_kind) 7 v_reader_at) 8 v_reader_stop) 9 v_reader_open) 10 v_reader_fault) 11 v_reader_faultAt)) 35 v_reader_code) 37 (va_up (I 37) 6 v_acts_count)) 38 v_acts_kinds) 39 v_acts_shires) 40 v_acts_terms) 41 v_acts_amounts) 33)) ((zup_n (by decide : (33 : Nat) ≠ 41)).trans ((zup_n (by decide : (33 : Nat) ≠ 40)).trans ((zup_n (by decide : (33 : Nat) ≠ 39)).trans ((zup_n (by decide : (33 : Nat) ≠ 38)).trans ((zup_n (by decide : (33 : Nat) ≠ 37)).trans ((zup_n (by decide : (33 : Nat) ≠ 35)).trans zup_s)))))) rfl) v_reader_faultAt (zcf (f := ((va_up (va_up (va_up (va_up (va_up (va_up (va_up I 33 (va_up (va_up (va_up (va_up (va_up (va_up (va_up (va_up (va_up (I 33) 3 v_reader_length) 4 v_reader_size) 5 v_reader_count) 6 v_reader_kind) 7 v_reader_at) 8 v_reader_stop) 9 v_reader_open) 10 v_reader_fault) 11 v_reader_faultAt)) 35 v_reader_code) 37 (va_up (I 37) 6 v_acts_count)) 38 v_acts_kinds) 39 v_acts_shires) 40 v_acts_terms) 41 v_acts_amounts) 33)) ((zup_n (by decide : (33 : Nat) ≠ 41)).trans ((zup_n (by decide : (33 : Nat) ≠ 40)).trans ((zup_n (by decide : (33 : Nat) ≠ 39)).trans ((zup_n (by decide : (33 : Nat) ≠ 38)).trans ((zup_n (by decide : (33 : Nat) ≠ 37)).trans ((zup_n (by decide : (33 : Nat) ≠ 35)).trans zup_s)))))) rfl) v_reader_kind (zcf (f := ((va_up (va_up (va_up (va_up (va_up (va_up (va_up I 33 (va_up (va_up (va_up (va_up (va_up (va_up (va_up (va_up (va_up (I 33) 3 v_reader_length) 4 v_reader_size) 5 v_reader_count) 6 v_reader_kind) 7 v_reader_at) 8 v_reader_stop) 9 v_reader_open) 10 v_reader_fault) 11 v_reader_faultAt)) 35 v_reader_code) 37 (va_up (I 37) 6 v_acts_count)) 38 v_acts_kinds) 39 v_acts_shires) 40 v_acts_terms) 41 v_acts_amounts) 33)) ((zup_n (by decide : (33 : Nat) ≠ 41)).trans ((zup_n (by decide : (33 : Nat) ≠ 40)).trans ((zup_n (by decide : (33 : Nat) ≠ 39)).trans ((zup_n (by decide : (33 : Nat) ≠ 38)).trans ((zup_n (by decide : (33 : Nat) ≠ 37)).trans ((zup_n (by decide : (33 : Nat) ≠ 35)).trans zup_s)))))) rfl) v_reader_length (zcf (f := ((va_up (va_up (va_up (va_up (va_up (va_up (va_up I 33 (va_up (va_up (va_up (va_up (va_up (va_up (va_up (va_up (va_up (I 33) 3 v_reader_length) 4 v_reader_size) 5 v_reader_count) 6 v_reader_kind) 7 v_reader_at) 8 v_reader_stop) 9 v_reader_open) 10 v_reader_fault) 11 v_reader_faultAt)) 35 v_reader_code) 37 (va_up (I 37) 6 v_acts_count)) 38 v_acts_kinds) 39 v_acts_shires) 40 v_acts_terms) 41 v_acts_amounts) 33)) ((zup_n (by decide : (33 : Nat) ≠ 41)).trans ((zup_n (by decide : (33 : Nat) ≠ 40)).trans ((zup_n (by decide : (33 : Nat) ≠ 39)).trans ((zup_n (by decide : (33 : Nat) ≠ 38)).trans ((zup_n (by decide : (33 : Nat) ≠ 37)).trans ((zup_n (by decide : (33 : Nat) ≠ 35)).trans zup_s)))))) rfl) v_reader_open (zcf (f := ((va_up (va_up (va_up (va_up (va_up (va_up (va_up I 33 (va_up (va_up (va_up (va_up (va_up (va_up (va_up (va_up (va_up (I 33) 3 v_reader_length) 4 v_reader_size) 5 v_reader_count) 6 v_reader_kind) 7 v_reader_at) 8 v_reader_stop) 9 v_reader_open) 10 v_reader_fault) 11 v_reader_faultAt)) 35 v_reader_code) 37 (va_up (I 37) 6 v_acts_count)) 38 v_acts_kinds) 39 v_acts_shires) 40 v_acts_terms) 41 v_acts_amounts) 33)) ((zup_n (by decide : (33 : Nat) ≠ 41)).trans ((zup_n (by decide : (33 : Nat) ≠ 40)).trans ((zup_n (by decide : (33 : Nat) ≠ 39)).trans ((zup_n (by decide : (33 : Nat) ≠ 38)).trans ((zup_n (by decide : (33 : Nat) ≠ 37)).trans ((zup_n (by decide : (33 : Nat) ≠ 35)).trans zup_s)))))) rfl) v_reader_size (zcf (f := ((va_up (va_up (va_up (va_up (va_up (va_up (va_up I 33 (va_up (va_up (va_up (va_up (va_up (va_up (va_up (va_up (va_up (I 33) 3 v_reader_length) 4 v_reader_size) 5 v_reader_count) 6 v_reader_kind) 7 v_reader_at) 8 v_reader_stop) 9 v_reader_open) 10 v_reader_fault) 11 v_reader_faultAt)) 35 v_reader_code) 37 (va_up (I 37) 6 v_acts_count)) 38 v_acts_kinds) 39 v_acts_shires) 40 v_acts_terms) 41 v_acts_amounts) 33)) ((zup_n (by decide : (33 : Nat) ≠ 41)).trans ((zup_n (by decide : (33 : Nat) ≠ 40)).trans ((zup_n (by decide : (33 : Nat) ≠ 39)).trans ((zup_n (by decide : (33 : Nat) ≠ 38)).trans ((zup_n (by decide : (33 : Nat) ≠ 37)).trans ((zup_n (by decide : (33 : Nat) ≠ 35)).trans zup_s)))))) rfl) v_reader_stop (zcf (f := ((va_up (va_up (va_up (va_up (va_up (va_up (va_up I 33 (va_up (va_up (va_up (va_up (va_up (va_up (va_up (va_up (va_up (I 33) 3 v_reader_length) 4 v_reader_size) 5 v_reader_count) 6 v_reader_kind) 7 v_reader_at) 8 v_reader_stop) 9 v_reader_open) 10 v_reader_fault) 11 v_reader_faultAt)) 35 v_reader_code) 37 (va_up (I 37) 6 v_acts_count)) 38 v_acts_kinds) 39 v_acts_shires) 40 v_acts_terms) 41 v_acts_amounts) 33)) ((zup_n (by decide : (33 : Nat) ≠ 41)).trans ((zup_n (by decide : (33 : Nat) ≠ 40)).trans ((zup_n (by decide : (33 : Nat) ≠ 39)).trans ((zup_n (by decide : (33 : Nat) ≠ 38)).trans ((zup_n (by decide : (33 : Nat) ≠ 37)).trans ((zup_n (by decide : (33 : Nat) ≠ 35)).trans zup_s)))))) rfl) v_reader_code ((zup_n (by decide : (35 : Nat) ≠ 41)).trans ((zup_n (by decide : (35 : Nat) ≠ 40)).trans ((zup_n (by decide : (35 : Nat) ≠ 39)).trans ((zup_n (by decide : (35 : Nat) ≠ 38)).trans ((zup_n (by decide : (35 : Nat) ≠ 37)).trans zup_s))))) v_reader_statements ((zup_n (by decide : (36 : Nat) ≠ 43)).trans zup_s) hc_31) (by decide) rfl rfl (by first | decide | simp [Value.category, zva_cat]) dX11_writ_31 (cs2 := (27, 794)) rfl ?_
      refine zb_S (S2 := ((va_up (va_up (va_up (va_up (va_up (va_up (va_up I 33 (va_up (va_up (va_up (va_up (va_up (va_up (va_up (va_up (va_up (I 33) 3 v_reader_length_c3) 4 v_reader_size_c3) 5 v_reader_count_c3) 6 v_reader_kind_c3) 7 v_reader_at_c3) 8 v_reader_stop_c3) 9 v_reader_open_c3) 10 v_reader_fault_c3) 11 v_reader_faultAt_c3)) 35 v_reader_code_c3) 37 (va_up (I 37) 6 v_acts_count)) 38 v_acts_kinds) 39 v_acts_shires) 40 v_acts_terms) 41 v_acts_amounts), J, (va_up (va_up Rr 36 v_reader_statements_c3) 43 v_acts_writs), v_D_c3)) (zS_eq3 ((zcgF ((zcgV ((zcgF ((zcgF ((zcgF ((zcgF ((zcgF ((zcgF ((zcgF ((zcgF (zn9 (by decide : (11 : Nat) ≠ 3) (by decide : (10 : Nat) ≠ 3) (by decide : (9 : Nat) ≠ 3) (by decide : (8 : Nat) ≠ 3) (by decide : (7 : Nat) ≠ 3) (by decide : (6 : Nat) ≠ 3) (by decide : (5 : Nat) ≠ 3) (by decide : (4 : Nat) ≠ 3))).trans (zn8 (by decide : (11 : Nat) ≠ 4) (by decide : (10 : Nat) ≠ 4) (by decide : (9 : Nat) ≠ 4) (by decide : (8 : Nat) ≠ 4) (by decide : (7 : Nat) ≠ 4) (by decide : (6 : Nat) ≠ 4) (by decide : (5 : Nat) ≠ 4)))).trans (zn7 (by decide : (11 : Nat) ≠ 5) (by decide : (10 : Nat) ≠ 5) (by decide : (9 : Nat) ≠ 5) (by decide : (8 : Nat) ≠ 5) (by decide : (7 : Nat) ≠ 5) (by decide : (6 : Nat) ≠ 5)))).trans (zn6 (by decide : (11 : Nat) ≠ 6) (by decide : (10 : Nat) ≠ 6) (by decide : (9 : Nat) ≠ 6) (by decide : (8 : Nat) ≠ 6) (by decide : (7 : Nat) ≠ 6)))).trans (zn5 (by decide : (11 : Nat) ≠ 7) (by decide : (10 : Nat) ≠ 7) (by decide : (9 : Nat) ≠ 7) (by decide : (8 : Nat) ≠ 7)))).trans (zn4 (by decide : (11 : Nat) ≠ 8) (by decide : (10 : Nat) ≠ 8) (by decide : (9 : Nat) ≠ 8)))).trans (zn3 (by decide : (11 : Nat) ≠ 9) (by decide : (10 : Nat) ≠ 9)))).trans (zn2 (by decide : (11 : Nat) ≠ 10)))).trans zn1)).trans (zn7 (by decide : (41 : Nat) ≠ 33) (by decide : (40 : Nat) ≠ 33) (by decide : (39 : Nat) ≠ 33) (by decide : (38 : Nat) ≠ 33) (by decide : (37 : Nat) ≠ 33) (by decide : (35 : Nat) ≠ 33)))).trans (zn6 (by decide : (41 : Nat) ≠ 35) (by decide : (40 : Nat) ≠ 35) (by decide : (39 : Nat) ≠ 35) (by decide : (38 : Nat) ≠ 35) (by decide : (37 : Nat) ≠ 35))) rfl (zn2 (by decide : (43 : Nat) ≠ 36))) ?_
      refine zb_astore_nQ E dX11_writ_34 rfl (by decide) (lv2 := [(2, va_rf (zq C.X rc3)), (0, .ref (C.X.1 + 0)), (1, .int a1)]) rfl ?_
      refine zb_aload_nQ E dX11_writ_35 0 rfl rfl ?_
      rcases opn_s h with ⟨hq_y4, h⟩ | ⟨y4, hq_y4, h⟩
      · refine zb_LS (lv2 := [(2, .null), (0, .ref (C.X.1 + 0)), (1, .int a1)]) (st2 := [.null]) (by first | rfl | (rw [hq_y4]; rfl)) (by first | rfl | (rw [hq_y4]; rfl)) ?_
        refine zb_ifnonnullN E dX11_writ_36 ?_
        refine zb_iconst E dX11_writ_39 (v := (-1)) rfl ?_
        refine zb_goto E dX11_writ_40 (tgt := 52) rfl ?_
        obtain ⟨rfl, rfl, rfl, rfl, rfl, rfl, rfl, rfl, rfl, rfl, rfl, rfl, rfl, rfl, rfl, rfl, rfl, rfl, rfl⟩ := zinj19 h
        exact zb_iret E hQ rfl ⟨by decide, by decide⟩ dX11_writ_52
      · refine zb_LS (lv2 := [(2, .ref (C.X.1 + 182 + y4)), (0, .ref (C.X.1 + 0)), (1, .int a1)]) (st2 := [.ref (C.X.1 + 182 + y4)]) (by first | rfl | (rw [hq_y4]; rfl)) (by first | rfl | (rw [hq_y4]; rfl)) ?_
        refine zb_ifnonnullS E dX11_writ_36 (tgt := 43) rfl ?_
        refine zb_aload_n E dX11_writ_43 1 rfl rfl ?_
        refine zb_getX E 0 (by decide) (zF_0 C.X) rfl zin11 3 (by decide) zw_356 ((zup_n (by decide : (0 : Nat) ≠ 41)).trans ((zup_n (by decide : (0 : Nat) ≠ 40)).trans ((zup_n (by decide : (0 : Nat) ≠ 39)).trans ((zup_n (by decide : (0 : Nat) ≠ 38)).trans ((zup_n (by decide : (0 : Nat) ≠ 37)).trans ((zup_n (by decide : (0 : Nat) ≠ 35)).trans (zup_n (by decide : (0 : Nat) ≠ 33)))))))) rfl (v := .ref (C.X.1 + 37)) rfl dX11_writ_44 ?_
        refine zb_iload_n E dX11_writ_47 2 rfl rfl ?_
        refine zb_aload_n E dX11_writ_48 0 rfl rfl ?_
        obtain ⟨rc5, v_acts_count_c5, v_acts_amounts_c5, v_acts_kinds_c5, v_acts_shires_c5, v_acts_terms_c5, v_acts_writs_c5, hc_49, h⟩ := bd7_s h
        refine zb_cVi E [.int a1, .ref (C.X.1 + 182 + y4)] 37 zy_X0_addWrit zw_856 (by decide) (zF_37 _ _ _ _) rfl (c_X0_addWrit (va_up (I 37) 6 v_acts_count) ((zup_n (by decide : (37 : Nat) ≠ 41)).trans ((zup_n (by decide : (37 : Nat) ≠ 40)).trans ((zup_n (by decide : (37 : Nat) ≠ 39)).trans ((zup_n (by decide : (37 : Nat) ≠ 38)).trans zup_s)))) v_acts_count (zcf (f := ((va_up (va_up (va_up (va_up (va_up (va_up (va_up I 33 (va_up (va_up (va_up (va_up (va_up (va_up (va_up (va_up (va_up (I 33) 3 v_reader_length_c3) 4 v_reader_size_c3) 5 v_reader_count_c3) 6 v_reader_kind_c3) 7 v_reader_at_c3) 8 v_reader_stop_c3) 9 v_reader_open_c3) 10 v_reader_fault_c3) 11 v_reader_faultAt_c3)) 35 v_reader_code_c3) 37 (va_up (I 37) 6 v_acts_count)) 38 v_acts_kinds) 39 v_acts_shires) 40 v_acts_terms) 41 v_acts_amounts) 37)) ((zup_n (by decide : (37 : Nat) ≠ 41)).trans ((zup_n (by decide : (37 : Nat) ≠ 40)).trans ((zup_n (by decide : (37 : Nat) ≠ 39)).trans ((zup_n (by decide : (37 : Nat) ≠ 38)).trans zup_s)))) rfl) v_acts_amounts zup_s v_acts_kinds ((zup_n (by decide : (38 : Nat) ≠ 41)).trans ((zup_n (by decide : (38 : Nat) ≠ 40)).trans ((zup_n (by decide : (38 : Nat) ≠ 39)).trans zup_s))) v_acts_shires ((zup_n (by decide : (39 : Nat) ≠ 41)).trans ((zup_n (by decide : (39 : Nat) ≠ 40)).trans zup_s)) v_acts_terms ((zup_n (by decide : (40 : Nat) ≠ 41)).trans zup_s) v_acts_writs zup_s hc_49) (by decide) rfl rfl (by first | decide | simp [Value.category, zva_cat]) dX11_writ_49 (cs2 := (27, 794)) rfl ?_
        refine zb_S (S2 := ((va_up (va_up (va_up (va_up (va_up (va_up (va_up I 33 (va_up (va_up (va_up (va_up (va_up (va_up (va_up (va_up (va_up (I 33) 3 v_reader_length_c3) 4 v_reader_size_c3) 5 v_reader_count_c3) 6 v_reader_kind_c3) 7 v_reader_at_c3) 8 v_reader_stop_c3) 9 v_reader_open_c3) 10 v_reader_fault_c3) 11 v_reader_faultAt_c3)) 35 v_reader_code_c3) 37 (va_up (I 37) 6 v_acts_count_c5)) 38 v_acts_kinds_c5) 39 v_acts_shires_c5) 40 v_acts_terms_c5) 41 v_acts_amounts_c5), J, (va_up (va_up Rr 36 v_reader_statements_c3) 43 v_acts_writs_c5), v_D_c3)) (zS_eq3 ((zcgF ((zcgF ((zcgF ((zcgF ((zcgV zn1).trans (zn5 (by decide : (41 : Nat) ≠ 37) (by decide : (40 : Nat) ≠ 37) (by decide : (39 : Nat) ≠ 37) (by decide : (38 : Nat) ≠ 37)))).trans (zn4 (by decide : (41 : Nat) ≠ 38) (by decide : (40 : Nat) ≠ 38) (by decide : (39 : Nat) ≠ 38)))).trans (zn3 (by decide : (41 : Nat) ≠ 39) (by decide : (40 : Nat) ≠ 39)))).trans (zn2 (by decide : (41 : Nat) ≠ 40)))).trans zn1) rfl zn1) ?_
        obtain ⟨rfl, rfl, rfl, rfl, rfl, rfl, rfl, rfl, rfl, rfl, rfl, rfl, rfl, rfl, rfl, rfl, rfl, rfl, rfl⟩ := zinj19 h
        exact zb_iret E hQ rfl ⟨by decide, by decide⟩ dX11_writ_52
    · have h := if_f h hc
      refine zb_sub [0] rfl ?_
      refine zb_W (cs2 := (0, 0)) (by decide) ?_
      exact c_X11_writ_b17 N a1 v_reader_tape e_v_reader_tape rr y_v_D y_v_acts_count y_v_acts_amounts y_v_acts_kinds y_v_acts_shires y_v_acts_terms y_v_acts_writs y_v_reader_at y_v_reader_count y_v_reader_fault y_v_reader_faultAt y_v_reader_kind y_v_reader_length y_v_reader_open y_v_reader_size y_v_reader_stop y_v_reader_code y_v_reader_statements E hQ v_D v_acts_count v_acts_amounts v_acts_kinds v_acts_shires v_acts_terms v_acts_writs v_reader_at v_reader_count v_reader_fault v_reader_faultAt v_reader_kind v_reader_length v_reader_open v_reader_size v_reader_stop v_reader_code v_reader_statements h
theorem c_X11_writ {l : Launch} {X : zX} {I : Nat → Nat → Int32} {J : Nat → Nat → Int64} {Rr : Nat → Nat → Option Nat} {v_D : zD} {N : Nat} {a1 : Int32} (oI33 : Nat → Int32) (eoI33 : I 33 = oI33) (oI37 : Nat → Int32) (eoI37 : I 37 = oI37) (v_reader_tape : (Nat → Int32)) (e_v_reader_tape : I 34 = v_reader_tape) (v_acts_count : Int32) (e_v_acts_count : I 37 6 = v_acts_count) (v_acts_amounts : (Nat → Int32)) (e_v_acts_amounts : I 41 = v_acts_amounts) (v_acts_kinds : (Nat → Int32)) (e_v_acts_kinds : I 38 = v_acts_kinds) (v_acts_shires : (Nat → Int32)) (e_v_acts_shires : I 39 = v_acts_shires) (v_acts_terms : (Nat → Int32)) (e_v_acts_terms : I 40 = v_acts_terms) (v_acts_writs : (Nat → Option Nat)) (e_v_acts_writs : Rr 43 = v_acts_writs) (v_reader_at : Int32) (e_v_reader_at : I 33 7 = v_reader_at) (v_reader_count : Int32) (e_v_reader_count : I 33 5 = v_reader_count) (v_reader_fault : Int32) (e_v_reader_fault : I 33 10 = v_reader_fault) (v_reader_faultAt : Int32) (e_v_reader_faultAt : I 33 11 = v_reader_faultAt) (v_reader_kind : Int32) (e_v_reader_kind : I 33 6 = v_reader_kind) (v_reader_length : Int32) (e_v_reader_length : I 33 3 = v_reader_length) (v_reader_open : Int32) (e_v_reader_open : I 33 9 = v_reader_open) (v_reader_size : Int32) (e_v_reader_size : I 33 4 = v_reader_size) (v_reader_stop : Int32) (e_v_reader_stop : I 33 8 = v_reader_stop) (v_reader_code : (Nat → Int32)) (e_v_reader_code : I 35 = v_reader_code) (v_reader_statements : (Nat → Option Nat)) (e_v_reader_statements : Rr 36 = v_reader_statements) {rr : Int32} {y_v_D : Dyn} {y_v_acts_count : Int32} {y_v_acts_amounts : (Nat → Int32)} {y_v_acts_kinds : (Nat → Int32)} {y_v_acts_shires : (Nat → Int32)} {y_v_acts_terms : (Nat → Int32)} {y_v_acts_writs : (Nat → Option Nat)} {y_v_reader_at : Int32} {y_v_reader_count : Int32} {y_v_reader_fault : Int32} {y_v_reader_faultAt : Int32} {y_v_reader_kind : Int32} {y_v_reader_length : Int32} {y_v_reader_open : Int32} {y_v_reader_size : Int32} {y_v_reader_stop : Int32} {y_v_reader_code : (Nat → Int32)} {y_v_reader_statements : (Nat → Option Nat)} (h : pK_writ N a1 v_D v_acts_count v_acts_amounts v_acts_kinds v_acts_shires v_acts_terms v_acts_writs v_reader_at v_reader_count v_reader_fault v_reader_faultAt v_reader_kind v_reader_length v_reader_open v_reader_size v_reader_stop v_reader_code v_reader_statements v_reader_tape = some (rr, y_v_D, y_v_acts_count, y_v_acts_amounts, y_v_acts_kinds, y_v_acts_shires, y_v_acts_terms, y_v_acts_writs, y_v_reader_at, y_v_reader_count, y_v_reader_fault, y_v_reader_faultAt, y_v_reader_kind, y_v_reader_length, y_v_reader_open, y_v_reader_size, y_v_reader_stop, y_v_reader_code, y_v_reader_statements)) : zMi l yX11_writ cX11_writ 3 (some .int) ({ frames := 666, cells := 27, slots := 794, locals := 16615 } : Room) X [.ref (X.1 + 0), .int a1] (I, J, Rr, v_D) rr ((va_up (va_up (va_up (va_up (va_up (va_up (va_up I 33 (va_up (va_up (va_up (va_up (va_up (va_up (va_up (va_up (va_up oI33 3 y_v_reader_length) 4 y_v_reader_size) 5 y_v_reader_count) 6 y_v_reader_kind) 7 y_v_reader_at) 8 y_v_reader_stop) 9 y_v_reader_open) 10 y_v_reader_fault) 11 y_v_reader_faultAt)) 35 y_v_reader_code) 37 (va_up oI37 6 y_v_acts_count)) 38 y_v_acts_kinds) 39 y_v_acts_shires) 40 y_v_acts_terms) 41 y_v_acts_amounts), J, (va_up (va_up Rr 36 y_v_reader_statements) 43 y_v_acts_writs), y_v_D) := by
  subst eoI33
  subst eoI37
  refine zMi.of (by decide) (Nat.le_of_ble_eq_true rfl) (fun C E hl hX hQ => ?_)
  subst hl
  subst hX
  have eI0 : (va_up (va_up (va_up (va_up (va_up (va_up (va_up I 33 (va_up (va_up (va_up (va_up (va_up (va_up (va_up (va_up (va_up (I 33) 3 v_reader_length) 4 v_reader_size) 5 v_reader_count) 6 v_reader_kind) 7 v_reader_at) 8 v_reader_stop) 9 v_reader_open) 10 v_reader_fault) 11 v_reader_faultAt)) 35 v_reader_code) 37 (va_up (I 37) 6 v_acts_count)) 38 v_acts_kinds) 39 v_acts_shires) 40 v_acts_terms) 41 v_acts_amounts) = I := by rw [zup_idE e_v_reader_length, zup_idE e_v_reader_size, zup_idE e_v_reader_count, zup_idE e_v_reader_kind, zup_idE e_v_reader_at, zup_idE e_v_reader_stop, zup_idE e_v_reader_open, zup_idE e_v_reader_fault, zup_idE e_v_reader_faultAt, zup_id, zup_idE e_v_reader_code, zup_idE e_v_acts_count, zup_id, zup_idE e_v_acts_kinds, zup_idE e_v_acts_shires, zup_idE e_v_acts_terms, zup_idE e_v_acts_amounts]
  have eJ0 : J = J := rfl
  have eR0 : (va_up (va_up Rr 36 v_reader_statements) 43 v_acts_writs) = Rr := by rw [zup_idE e_v_reader_statements, zup_idE e_v_acts_writs]
  refine zb_S (S2 := ((va_up (va_up (va_up (va_up (va_up (va_up (va_up I 33 (va_up (va_up (va_up (va_up (va_up (va_up (va_up (va_up (va_up (I 33) 3 v_reader_length) 4 v_reader_size) 5 v_reader_count) 6 v_reader_kind) 7 v_reader_at) 8 v_reader_stop) 9 v_reader_open) 10 v_reader_fault) 11 v_reader_faultAt)) 35 v_reader_code) 37 (va_up (I 37) 6 v_acts_count)) 38 v_acts_kinds) 39 v_acts_shires) 40 v_acts_terms) 41 v_acts_amounts), J, (va_up (va_up Rr 36 v_reader_statements) 43 v_acts_writs), v_D)) (zS_eq3 eI0.symm eJ0.symm eR0.symm) ?_
  exact c_X11_writ_0 N a1 v_reader_tape e_v_reader_tape rr y_v_D y_v_acts_count y_v_acts_amounts y_v_acts_kinds y_v_acts_shires y_v_acts_terms y_v_acts_writs y_v_reader_at y_v_reader_count y_v_reader_fault y_v_reader_faultAt y_v_reader_kind y_v_reader_length y_v_reader_open y_v_reader_size y_v_reader_stop y_v_reader_code y_v_reader_statements E hQ v_D v_acts_count v_acts_amounts v_acts_kinds v_acts_shires v_acts_terms v_acts_writs v_reader_at v_reader_count v_reader_fault v_reader_faultAt v_reader_kind v_reader_length v_reader_open v_reader_size v_reader_stop v_reader_code v_reader_statements h
-- ChequeredCloth.fault
abbrev R_pK_fault : Type := Int32
def pK_fault (a1 : Int32) (v_reader_fault : Int32) (v_reader_faultAt : Int32) : Option R_pK_fault :=
  if a1 = 0 then
    bd1 (pReader_faultFound v_reader_fault) fun rc2 =>
    some rc2
  else
    if a1 = 1 then
      bd1 (pReader_faultPlace v_reader_faultAt) fun rc1 =>
      some rc1
    else
      some (-1)
theorem dX11_fault_0 : decode cX11_fault 0 = .ok (.iload_n 1, 1) := by decide +kernel
theorem dX11_fault_1 : decode cX11_fault 1 = .ok (.ifCond .ne 13, 3) := by decide +kernel
theorem dX11_fault_4 : decode cX11_fault 4 = .ok (.aload_n 0, 1) := by decide +kernel
theorem dX11_fault_5 : decode cX11_fault 5 = .ok (.getfield 30, 3) := by decide +kernel
theorem dX11_fault_8 : decode cX11_fault 8 = .ok (.invokevirtual 137, 3) := by decide +kernel
theorem dX11_fault_11 : decode cX11_fault 11 = .ok (.goto 19, 3) := by decide +kernel
theorem dX11_fault_14 : decode cX11_fault 14 = .ok (.iload_n 1, 1) := by decide +kernel
theorem dX11_fault_15 : decode cX11_fault 15 = .ok (.iconst 1, 1) := by decide +kernel
theorem dX11_fault_16 : decode cX11_fault 16 = .ok (.if_icmp .ne 13, 3) := by decide +kernel
theorem dX11_fault_19 : decode cX11_fault 19 = .ok (.aload_n 0, 1) := by decide +kernel
theorem dX11_fault_20 : decode cX11_fault 20 = .ok (.getfield 30, 3) := by decide +kernel
theorem dX11_fault_23 : decode cX11_fault 23 = .ok (.invokevirtual 140, 3) := by decide +kernel
theorem dX11_fault_26 : decode cX11_fault 26 = .ok (.goto 4, 3) := by decide +kernel
theorem dX11_fault_29 : decode cX11_fault 29 = .ok (.iconst (-1), 1) := by decide +kernel
theorem dX11_fault_30 : decode cX11_fault 30 = .ok (.ireturn, 1) := by decide +kernel
theorem zy_X11_fault : zYv yX11_fault cX11_fault 2 (some .int) 1 := ⟨zw_866, zw_867, zw_1, zw_868, by decide, by decide, by decide⟩
theorem c_X11_fault_0 {C : zC} {I : Nat → Nat → Int32} {J : Nat → Nat → Int64} {Rr : Nat → Nat → Option Nat} {D : zD} (a1 : Int32) (v_reader_fault : Int32) (e_v_reader_fault : I 33 10 = v_reader_fault) (v_reader_faultAt : Int32) (e_v_reader_faultAt : I 33 11 = v_reader_faultAt) (rr : Int32) (E : zE C RX11 cX11_fault 2 (some .int) ({ frames := 1, cells := 0, slots := 0, locals := 20 } : Room)) (hQ : C.Q = zQi C ({ frames := 1, cells := 0, slots := 0, locals := 20 } : Room) rr (I, J, Rr, D)) (h : pK_fault a1 v_reader_fault v_reader_faultAt = some rr) : zB C (0, 0) 0 [(0, .ref (C.X.1 + 0)), (1, .int a1)] [] (I, J, Rr, D) := by
  refine zb_iload_n E dX11_fault_0 1 rfl rfl ?_
  refine zb_if_ne E dX11_fault_1 (tgt := 14) rfl (fun hc => ?_) (fun hc => ?_)
  · have h := if_f h hc
    refine zb_iload_n E dX11_fault_14 1 rfl rfl ?_
    refine zb_iconst E dX11_fault_15 (v := 1) rfl ?_
    refine zb_icmp_ne E dX11_fault_16 (tgt := 29) rfl (fun hc => ?_) (fun hc => ?_)
    · have h := if_f h hc
      refine zb_iconst E dX11_fault_29 (v := (-1)) rfl ?_
      obtain rfl := zinj1 h
      exact zb_iret E hQ rfl ⟨Nat.zero_le _, Nat.zero_le _⟩ dX11_fault_30
    · have h := if_t h hc
      refine zb_aload_n E dX11_fault_19 0 rfl rfl ?_
      refine zb_get E 0 (by decide) (zF_0 C.X) rfl zin11 2 (by decide) zw_355 (v := .ref (C.X.1 + 33)) rfl dX11_fault_20 ?_
      obtain ⟨rc1, hc_23, h⟩ := bd1_s h
      refine zb_cVi E [] 33 zy_X7_faultPlace zw_873 (by decide) (zF_33 _ _ _ _) rfl (c_X7_faultPlace v_reader_faultAt (by exact e_v_reader_faultAt) hc_23) (by decide) rfl rfl (by first | decide | simp [Value.category]) dX11_fault_23 (cs2 := (0, 0)) rfl ?_
      refine zb_goto E dX11_fault_26 (tgt := 30) rfl ?_
      obtain rfl := zinj1 h
      exact zb_iret E hQ rfl ⟨Nat.zero_le _, Nat.zero_le _⟩ dX11_fault_30
  · have h := if_t h hc
    refine zb_aload_n E dX11_fault_4 0 rfl rfl ?_
    refine zb_get E 0 (by decide) (zF_0 C.X) rfl zin11 2 (by decide) zw_355 (v := .ref (C.X.1 + 33)) rfl dX11_fault_5 ?_
    obtain ⟨rc2, hc_8, h⟩ := bd1_s h
    refine zb_cVi E [] 33 zy_X7_faultFound zw_869 (by decide) (zF_33 _ _ _ _) rfl (c_X7_faultFound v_reader_fault (by exact e_v_reader_fault) hc_8) (by decide) rfl rfl (by first | decide | simp [Value.category]) dX11_fault_8 (cs2 := (0, 0)) rfl ?_
    refine zb_goto E dX11_fault_11 (tgt := 30) rfl ?_
    obtain rfl := zinj1 h
    exact zb_iret E hQ rfl ⟨Nat.zero_le _, Nat.zero_le _⟩ dX11_fault_30
theorem c_X11_fault {l : Launch} {X : zX} {I : Nat → Nat → Int32} {J : Nat → Nat → Int64} {Rr : Nat → Nat → Option Nat} {D : zD} {a1 : Int32} (v_reader_fault : Int32) (e_v_reader_fault : I 33 10 = v_reader_fault) (v_reader_faultAt : Int32) (e_v_reader_faultAt : I 33 11 = v_reader_faultAt) {rr : Int32} (h : pK_fault a1 v_reader_fault v_reader_faultAt = some rr) : zMi l yX11_fault cX11_fault 2 (some .int) ({ frames := 1, cells := 0, slots := 0, locals := 20 } : Room) X [.ref (X.1 + 0), .int a1] (I, J, Rr, D) rr (I, J, Rr, D) := by
  refine zMi.of (by decide) (Nat.le_of_ble_eq_true rfl) (fun C E hl hX hQ => ?_)
  subst hl
  subst hX
  have eI0 : I = I := rfl
  have eJ0 : J = J := rfl
  refine zb_S (S2 := (I, J, Rr, D)) (zS_eq eI0.symm eJ0.symm) ?_
  exact c_X11_fault_0 a1 v_reader_fault e_v_reader_fault v_reader_faultAt e_v_reader_faultAt rr E hQ h
-- ChequeredCloth.presentAct
abbrev R_pK_presentAct : Type := Int32
def pK_presentAct (v_knownAt : Int32) (v_acts_count : Int32) : Option R_pK_presentAct :=
  if v_knownAt = (-1) then
    bd1 (pActs_size v_acts_count) fun rc1 =>
    some rc1
  else
    some v_knownAt
theorem dX11_presentAct_0 : decode cX11_presentAct 0 = .ok (.aload_n 0, 1) := by decide +kernel
theorem dX11_presentAct_1 : decode cX11_presentAct 1 = .ok (.getfield 9, 3) := by decide +kernel
theorem dX11_presentAct_4 : decode cX11_presentAct 4 = .ok (.iconst (-1), 1) := by decide +kernel
theorem dX11_presentAct_5 : decode cX11_presentAct 5 = .ok (.if_icmp .ne 13, 3) := by decide +kernel
theorem dX11_presentAct_8 : decode cX11_presentAct 8 = .ok (.aload_n 0, 1) := by decide +kernel
theorem dX11_presentAct_9 : decode cX11_presentAct 9 = .ok (.getfield 37, 3) := by decide +kernel
theorem dX11_presentAct_12 : decode cX11_presentAct 12 = .ok (.invokevirtual 162, 3) := by decide +kernel
theorem dX11_presentAct_15 : decode cX11_presentAct 15 = .ok (.goto 7, 3) := by decide +kernel
theorem dX11_presentAct_18 : decode cX11_presentAct 18 = .ok (.aload_n 0, 1) := by decide +kernel
theorem dX11_presentAct_19 : decode cX11_presentAct 19 = .ok (.getfield 9, 3) := by decide +kernel
theorem dX11_presentAct_22 : decode cX11_presentAct 22 = .ok (.ireturn, 1) := by decide +kernel
theorem zy_X11_presentAct : zYv yX11_presentAct cX11_presentAct 1 (some .int) 0 := ⟨zw_883, zws_31, zw_1, zw_884, by decide, by decide, by decide⟩
theorem c_X11_presentAct_0 {C : zC} {I : Nat → Nat → Int32} {J : Nat → Nat → Int64} {Rr : Nat → Nat → Option Nat} {D : zD} (v_knownAt : Int32) (e_v_knownAt : I 0 5 = v_knownAt) (v_acts_count : Int32) (e_v_acts_count : I 37 6 = v_acts_count) (rr : Int32) (E : zE C RX11 cX11_presentAct 1 (some .int) ({ frames := 1, cells := 0, slots := 0, locals := 20 } : Room)) (hQ : C.Q = zQi C ({ frames := 1, cells := 0, slots := 0, locals := 20 } : Room) rr (I, J, Rr, D)) (h : pK_presentAct v_knownAt v_acts_count = some rr) : zB C (0, 0) 0 [(0, .ref (C.X.1 + 0))] [] (I, J, Rr, D) := by
  refine zb_aload_n E dX11_presentAct_0 0 rfl rfl ?_
  refine zb_get E 0 (by decide) (zF_0 C.X) rfl zin11 5 (by decide) zw_358 (v := .int v_knownAt) (by exact congrArg (fun z => some (Value.int z)) e_v_knownAt) dX11_presentAct_1 ?_
  refine zb_iconst E dX11_presentAct_4 (v := (-1)) rfl ?_
  refine zb_icmp_ne E dX11_presentAct_5 (tgt := 18) rfl (fun hc => ?_) (fun hc => ?_)
  · have h := if_f h hc
    refine zb_aload_n E dX11_presentAct_18 0 rfl rfl ?_
    refine zb_get E 0 (by decide) (zF_0 C.X) rfl zin11 5 (by decide) zw_358 (v := .int v_knownAt) (by exact congrArg (fun z => some (Value.int z)) e_v_knownAt) dX11_presentAct_19 ?_
    obtain rfl := zinj1 h
    exact zb_iret E hQ rfl ⟨Nat.zero_le _, Nat.zero_le _⟩ dX11_presentAct_22
  · have h := if_t h hc
    refine zb_aload_n E dX11_presentAct_8 0 rfl rfl ?_
    refine zb_get E 0 (by decide) (zF_0 C.X) rfl zin11 3 (by decide) zw_356 (v := .ref (C.X.1 + 37)) rfl dX11_presentAct_9 ?_
    obtain ⟨rc1, hc_12, h⟩ := bd1_s h
    refine zb_cVi E [] 37 zy_X0_size zw_885 (by decide) (zF_37 _ _ _ _) rfl (c_X0_size v_acts_count (by exact e_v_acts_count) hc_12) (by decide) rfl rfl (by first | decide | simp [Value.category]) dX11_presentAct_12 (cs2 := (0, 0)) rfl ?_
    refine zb_goto E dX11_presentAct_15 (tgt := 22) rfl ?_
    obtain rfl := zinj1 h
    exact zb_iret E hQ rfl ⟨Nat.zero_le _, Nat.zero_le _⟩ dX11_presentAct_22
theorem c_X11_presentAct {l : Launch} {X : zX} {I : Nat → Nat → Int32} {J : Nat → Nat → Int64} {Rr : Nat → Nat → Option Nat} {D : zD} (v_knownAt : Int32) (e_v_knownAt : I 0 5 = v_knownAt) (v_acts_count : Int32) (e_v_acts_count : I 37 6 = v_acts_count) {rr : Int32} (h : pK_presentAct v_knownAt v_acts_count = some rr) : zMi l yX11_presentAct cX11_presentAct 1 (some .int) ({ frames := 1, cells := 0, slots := 0, locals := 20 } : Room) X [.ref (X.1 + 0)] (I, J, Rr, D) rr (I, J, Rr, D) := by
  refine zMi.of (by decide) (Nat.le_of_ble_eq_true rfl) (fun C E hl hX hQ => ?_)
  subst hl
  subst hX
  have eI0 : I = I := rfl
  have eJ0 : J = J := rfl
  refine zb_S (S2 := (I, J, Rr, D)) (zS_eq eI0.symm eJ0.symm) ?_
  exact c_X11_presentAct_0 v_knownAt e_v_knownAt v_acts_count e_v_acts_count rr E hQ h
-- ChequeredCloth.pays
abbrev R_pK_pays : Type := Int32 × Int32 × Int32 × (Nat → Int32) × (Nat → Int32) × (Nat → Int32) × (Nat → Int32)
def pK_pays_b30 (a1 : Int32) (a2 : Int32) (a3 : Int32) (s0 : Int32) (v_acts_count : Int32) (v_acts_payments : Int32) (v_acts_amounts : (Nat → Int32)) (v_acts_kinds : (Nat → Int32)) (v_acts_shires : (Nat → Int32)) (v_acts_terms : (Nat → Int32)) : Option R_pK_pays :=
  if s0 = 0 then
    some ((-1), v_acts_count, v_acts_payments, v_acts_amounts, v_acts_kinds, v_acts_shires, v_acts_terms)
  else
    bd7 (pActs_addPayment 2 a1 a2 a3 v_acts_count v_acts_payments v_acts_amounts v_acts_kinds v_acts_shires v_acts_terms) fun rc3 v_acts_count_c3 v_acts_payments_c3 v_acts_amounts_c3 v_acts_kinds_c3 v_acts_shires_c3 v_acts_terms_c3 =>
    some (rc3, v_acts_count_c3, v_acts_payments_c3, v_acts_amounts_c3, v_acts_kinds_c3, v_acts_shires_c3, v_acts_terms_c3)
def pK_pays (a1 : Int32) (a2 : Int32) (a3 : Int32) (v_acts_count : Int32) (v_acts_payments : Int32) (v_acts_amounts : (Nat → Int32)) (v_acts_kinds : (Nat → Int32)) (v_acts_shires : (Nat → Int32)) (v_acts_terms : (Nat → Int32)) : Option R_pK_pays :=
  bd1 (pK_isShire a1) fun rc1 =>
  if rc1 = 0 then
    pK_pays_b30 a1 a2 a3 0 v_acts_count v_acts_payments v_acts_amounts v_acts_kinds v_acts_shires v_acts_terms
  else
    bd1 (pK_isTerm a2) fun rc2 =>
    if rc2 = 0 then
      pK_pays_b30 a1 a2 a3 0 v_acts_count v_acts_payments v_acts_amounts v_acts_kinds v_acts_shires v_acts_terms
    else
      if a3 < 1 then
        pK_pays_b30 a1 a2 a3 0 v_acts_count v_acts_payments v_acts_amounts v_acts_kinds v_acts_shires v_acts_terms
      else
        if 1000000 < a3 then
          pK_pays_b30 a1 a2 a3 0 v_acts_count v_acts_payments v_acts_amounts v_acts_kinds v_acts_shires v_acts_terms
        else
          pK_pays_b30 a1 a2 a3 1 v_acts_count v_acts_payments v_acts_amounts v_acts_kinds v_acts_shires v_acts_terms
theorem dX11_pays_0 : decode cX11_pays 0 = .ok (.iload_n 1, 1) := by decide +kernel
theorem dX11_pays_1 : decode cX11_pays 1 = .ok (.invokestatic 149, 3) := by decide +kernel
theorem dX11_pays_4 : decode cX11_pays 4 = .ok (.ifCond .eq 25, 3) := by decide +kernel
theorem dX11_pays_7 : decode cX11_pays 7 = .ok (.iload_n 2, 1) := by decide +kernel
theorem dX11_pays_8 : decode cX11_pays 8 = .ok (.invokestatic 120, 3) := by decide +kernel
theorem dX11_pays_11 : decode cX11_pays 11 = .ok (.ifCond .eq 18, 3) := by decide +kernel
theorem dX11_pays_14 : decode cX11_pays 14 = .ok (.iload_n 3, 1) := by decide +kernel
theorem dX11_pays_15 : decode cX11_pays 15 = .ok (.iconst 1, 1) := by decide +kernel
theorem dX11_pays_16 : decode cX11_pays 16 = .ok (.if_icmp .lt 13, 3) := by decide +kernel
theorem dX11_pays_19 : decode cX11_pays 19 = .ok (.iload_n 3, 1) := by decide +kernel
theorem dX11_pays_20 : decode cX11_pays 20 = .ok (.ldc 152, 2) := by decide +kernel
theorem dX11_pays_22 : decode cX11_pays 22 = .ok (.if_icmp .gt 7, 3) := by decide +kernel
theorem dX11_pays_25 : decode cX11_pays 25 = .ok (.iconst 1, 1) := by decide +kernel
theorem dX11_pays_26 : decode cX11_pays 26 = .ok (.goto 4, 3) := by decide +kernel
theorem dX11_pays_29 : decode cX11_pays 29 = .ok (.iconst 0, 1) := by decide +kernel
theorem dX11_pays_30 : decode cX11_pays 30 = .ok (.istore 4, 2) := by decide +kernel
theorem dX11_pays_32 : decode cX11_pays 32 = .ok (.iload 4, 2) := by decide +kernel
theorem dX11_pays_34 : decode cX11_pays 34 = .ok (.ifCond .eq 17, 3) := by decide +kernel
theorem dX11_pays_37 : decode cX11_pays 37 = .ok (.aload_n 0, 1) := by decide +kernel
theorem dX11_pays_38 : decode cX11_pays 38 = .ok (.getfield 37, 3) := by decide +kernel
theorem dX11_pays_41 : decode cX11_pays 41 = .ok (.iconst 2, 1) := by decide +kernel
theorem dX11_pays_42 : decode cX11_pays 42 = .ok (.iload_n 1, 1) := by decide +kernel
theorem dX11_pays_43 : decode cX11_pays 43 = .ok (.iload_n 2, 1) := by decide +kernel
theorem dX11_pays_44 : decode cX11_pays 44 = .ok (.iload_n 3, 1) := by decide +kernel
theorem dX11_pays_45 : decode cX11_pays 45 = .ok (.invokevirtual 153, 3) := by decide +kernel
theorem dX11_pays_48 : decode cX11_pays 48 = .ok (.goto 4, 3) := by decide +kernel
theorem dX11_pays_51 : decode cX11_pays 51 = .ok (.iconst (-1), 1) := by decide +kernel
theorem dX11_pays_52 : decode cX11_pays 52 = .ok (.ireturn, 1) := by decide +kernel
theorem zy_X11_pays : zYv yX11_pays cX11_pays 5 (some .int) 3 := ⟨zw_942, zw_943, zw_1, zw_944, by decide, by decide, by decide⟩
theorem c_X11_pays_b30 {C : zC} {I : Nat → Nat → Int32} {J : Nat → Nat → Int64} {Rr : Nat → Nat → Option Nat} {D : zD} (a1 : Int32) (a2 : Int32) (a3 : Int32) (rr : Int32) (y_v_acts_count : Int32) (y_v_acts_payments : Int32) (y_v_acts_amounts : (Nat → Int32)) (y_v_acts_kinds : (Nat → Int32)) (y_v_acts_shires : (Nat → Int32)) (y_v_acts_terms : (Nat → Int32)) (E : zE C RX11 cX11_pays 5 (some .int) ({ frames := 3, cells := 0, slots := 0, locals := 68 } : Room)) (hQ : C.Q = zQi C ({ frames := 3, cells := 0, slots := 0, locals := 68 } : Room) rr ((va_up (va_up (va_up (va_up (va_up I 37 (va_up (va_up (I 37) 6 y_v_acts_count) 7 y_v_acts_payments)) 38 y_v_acts_kinds) 39 y_v_acts_shires) 40 y_v_acts_terms) 41 y_v_acts_amounts), J, Rr, D)) (s0 : Int32) (v_acts_count : Int32) (v_acts_payments : Int32) (v_acts_amounts : (Nat → Int32)) (v_acts_kinds : (Nat → Int32)) (v_acts_shires : (Nat → Int32)) (v_acts_terms : (Nat → Int32)) (h : pK_pays_b30 a1 a2 a3 s0 v_acts_count v_acts_payments v_acts_amounts v_acts_kinds v_acts_shires v_acts_terms = some (rr, y_v_acts_count, y_v_acts_payments, y_v_acts_amounts, y_v_acts_kinds, y_v_acts_shires, y_v_acts_terms)) : zB C (0, 0) 30 [(0, .ref (C.X.1 + 0)), (1, .int a1), (2, .int a2), (3, .int a3)] [.int s0] ((va_up (va_up (va_up (va_up (va_up I 37 (va_up (va_up (I 37) 6 v_acts_count) 7 v_acts_payments)) 38 v_acts_kinds) 39 v_acts_shires) 40 v_acts_terms) 41 v_acts_amounts), J, Rr, D) := by
  refine zb_istore E dX11_pays_30 (by decide) (lv2 := [(4, .int s0), (0, .ref (C.X.1 + 0)), (1, .int a1), (2, .int a2), (3, .int a3)]) rfl ?_
  refine zb_iload E dX11_pays_32 0 rfl ?_
  refine zb_if_eq E dX11_pays_34 (tgt := 51) rfl (fun hc => ?_) (fun hc => ?_)
  · have h := if_t h hc
    refine zb_iconst E dX11_pays_51 (v := (-1)) rfl ?_
    obtain ⟨rfl, rfl, rfl, rfl, rfl, rfl, rfl⟩ := zinj7 h
    exact zb_iret E hQ rfl ⟨Nat.zero_le _, Nat.zero_le _⟩ dX11_pays_52
  · have h := if_f h hc
    refine zb_aload_n E dX11_pays_37 1 rfl rfl ?_
    refine zb_get E 0 (by decide) (zF_0 C.X) rfl zin11 3 (by decide) zw_356 (v := .ref (C.X.1 + 37)) rfl dX11_pays_38 ?_
    refine zb_iconst E dX11_pays_41 (v := 2) rfl ?_
    refine zb_iload_n E dX11_pays_42 2 rfl rfl ?_
    refine zb_iload_n E dX11_pays_43 3 rfl rfl ?_
    refine zb_iload_n E dX11_pays_44 4 rfl rfl ?_
    obtain ⟨rc3, v_acts_count_c3, v_acts_payments_c3, v_acts_amounts_c3, v_acts_kinds_c3, v_acts_shires_c3, v_acts_terms_c3, hc_45, h⟩ := bd7_s h
    refine zb_cVi E [.int 2, .int a1, .int a2, .int a3] 37 zy_X0_addPayment zw_949 (by decide) (zF_37 _ _ _ _) rfl (c_X0_addPayment (va_up (va_up (I 37) 6 v_acts_count) 7 v_acts_payments) rfl v_acts_count rfl v_acts_payments rfl v_acts_amounts rfl v_acts_kinds rfl v_acts_shires rfl v_acts_terms rfl hc_45) (by decide) rfl rfl (by first | decide | simp [Value.category]) dX11_pays_45 (cs2 := (0, 0)) rfl ?_
    refine zb_S (S2 := ((va_up (va_up (va_up (va_up (va_up I 37 (va_up (va_up (I 37) 6 v_acts_count_c3) 7 v_acts_payments_c3)) 38 v_acts_kinds_c3) 39 v_acts_shires_c3) 40 v_acts_terms_c3) 41 v_acts_amounts_c3), J, Rr, D)) (zS_eq ((zcgF ((zcgF ((zcgF ((zcgF ((zcgV ((zcgF (zn2 (by decide : (7 : Nat) ≠ 6))).trans zn1)).trans (zn5 (by decide : (41 : Nat) ≠ 37) (by decide : (40 : Nat) ≠ 37) (by decide : (39 : Nat) ≠ 37) (by decide : (38 : Nat) ≠ 37)))).trans (zn4 (by decide : (41 : Nat) ≠ 38) (by decide : (40 : Nat) ≠ 38) (by decide : (39 : Nat) ≠ 38)))).trans (zn3 (by decide : (41 : Nat) ≠ 39) (by decide : (40 : Nat) ≠ 39)))).trans (zn2 (by decide : (41 : Nat) ≠ 40)))).trans zn1) rfl) ?_
    refine zb_goto E dX11_pays_48 (tgt := 52) rfl ?_
    obtain ⟨rfl, rfl, rfl, rfl, rfl, rfl, rfl⟩ := zinj7 h
    exact zb_iret E hQ rfl ⟨Nat.zero_le _, Nat.zero_le _⟩ dX11_pays_52
theorem c_X11_pays_0 {C : zC} {I : Nat → Nat → Int32} {J : Nat → Nat → Int64} {Rr : Nat → Nat → Option Nat} {D : zD} (a1 : Int32) (a2 : Int32) (a3 : Int32) (rr : Int32) (y_v_acts_count : Int32) (y_v_acts_payments : Int32) (y_v_acts_amounts : (Nat → Int32)) (y_v_acts_kinds : (Nat → Int32)) (y_v_acts_shires : (Nat → Int32)) (y_v_acts_terms : (Nat → Int32)) (E : zE C RX11 cX11_pays 5 (some .int) ({ frames := 3, cells := 0, slots := 0, locals := 68 } : Room)) (hQ : C.Q = zQi C ({ frames := 3, cells := 0, slots := 0, locals := 68 } : Room) rr ((va_up (va_up (va_up (va_up (va_up I 37 (va_up (va_up (I 37) 6 y_v_acts_count) 7 y_v_acts_payments)) 38 y_v_acts_kinds) 39 y_v_acts_shires) 40 y_v_acts_terms) 41 y_v_acts_amounts), J, Rr, D)) (v_acts_count : Int32) (v_acts_payments : Int32) (v_acts_amounts : (Nat → Int32)) (v_acts_kinds : (Nat → Int32)) (v_acts_shires : (Nat → Int32)) (v_acts_terms : (Nat → Int32)) (h : pK_pays a1 a2 a3 v_acts_count v_acts_payments v_acts_amounts v_acts_kinds v_acts_shires v_acts_terms = some (rr, y_v_acts_count, y_v_acts_payments, y_v_acts_amounts, y_v_acts_kinds, y_v_acts_shires, y_v_acts_terms)) : zB C (0, 0) 0 [(0, .ref (C.X.1 + 0)), (1, .int a1), (2, .int a2), (3, .int a3)] [] ((va_up (va_up (va_up (va_up (va_up I 37 (va_up (va_up (I 37) 6 v_acts_count) 7 v_acts_payments)) 38 v_acts_kinds) 39 v_acts_shires) 40 v_acts_terms) 41 v_acts_amounts), J, Rr, D) := by
  refine zb_iload_n E dX11_pays_0 1 rfl rfl ?_
  obtain ⟨rc1, hc_1, h⟩ := bd1_s h
  refine zb_cSi E [.int a1] zy_X11_isShire zw_945 (c_X11_isShire hc_1) (by decide) rfl rfl (by first | decide | simp [Value.category]) dX11_pays_1 (cs2 := (0, 0)) rfl ?_
  refine zb_if_eq E dX11_pays_4 (tgt := 29) rfl (fun hc => ?_) (fun hc => ?_)
  · have h := if_t h hc
    refine zb_iconst E dX11_pays_29 (v := 0) rfl ?_
    exact c_X11_pays_b30 a1 a2 a3 rr y_v_acts_count y_v_acts_payments y_v_acts_amounts y_v_acts_kinds y_v_acts_shires y_v_acts_terms E hQ 0 v_acts_count v_acts_payments v_acts_amounts v_acts_kinds v_acts_shires v_acts_terms h
  · have h := if_f h hc
    refine zb_iload_n E dX11_pays_7 2 rfl rfl ?_
    obtain ⟨rc2, hc_8, h⟩ := bd1_s h
    refine zb_cSi E [.int a2] zy_X11_isTerm zw_625 (c_X11_isTerm hc_8) (by decide) rfl rfl (by first | decide | simp [Value.category]) dX11_pays_8 (cs2 := (0, 0)) rfl ?_
    refine zb_if_eq E dX11_pays_11 (tgt := 29) rfl (fun hc => ?_) (fun hc => ?_)
    · have h := if_t h hc
      refine zb_iconst E dX11_pays_29 (v := 0) rfl ?_
      exact c_X11_pays_b30 a1 a2 a3 rr y_v_acts_count y_v_acts_payments y_v_acts_amounts y_v_acts_kinds y_v_acts_shires y_v_acts_terms E hQ 0 v_acts_count v_acts_payments v_acts_amounts v_acts_kinds v_acts_shires v_acts_terms h
    · have h := if_f h hc
      refine zb_iload_n E dX11_pays_14 3 rfl rfl ?_
      refine zb_iconst E dX11_pays_15 (v := 1) rfl ?_
      refine zb_icmp_lt E dX11_pays_16 (tgt := 29) rfl (fun hc => ?_) (fun hc => ?_)
      · have h := if_t h hc
        refine zb_iconst E dX11_pays_29 (v := 0) rfl ?_
        exact c_X11_pays_b30 a1 a2 a3 rr y_v_acts_count y_v_acts_payments y_v_acts_amounts y_v_acts_kinds y_v_acts_shires y_v_acts_terms E hQ 0 v_acts_count v_acts_payments v_acts_amounts v_acts_kinds v_acts_shires v_acts_terms h
      · have h := if_f h hc
        refine zb_iload_n E dX11_pays_19 3 rfl rfl ?_
        refine zb_ldc E dX11_pays_20 (v := 1000000) zw_948 ?_
        refine zb_icmp_gt E dX11_pays_22 (tgt := 29) rfl (fun hc => ?_) (fun hc => ?_)
        · have h := if_t h hc
          refine zb_iconst E dX11_pays_29 (v := 0) rfl ?_
          exact c_X11_pays_b30 a1 a2 a3 rr y_v_acts_count y_v_acts_payments y_v_acts_amounts y_v_acts_kinds y_v_acts_shires y_v_acts_terms E hQ 0 v_acts_count v_acts_payments v_acts_amounts v_acts_kinds v_acts_shires v_acts_terms h
        · have h := if_f h hc
          refine zb_iconst E dX11_pays_25 (v := 1) rfl ?_
          refine zb_goto E dX11_pays_26 (tgt := 30) rfl ?_
          exact c_X11_pays_b30 a1 a2 a3 rr y_v_acts_count y_v_acts_payments y_v_acts_amounts y_v_acts_kinds y_v_acts_shires y_v_acts_terms E hQ 1 v_acts_count v_acts_payments v_acts_amounts v_acts_kinds v_acts_shires v_acts_terms h
theorem c_X11_pays {l : Launch} {X : zX} {I : Nat → Nat → Int32} {J : Nat → Nat → Int64} {Rr : Nat → Nat → Option Nat} {D : zD} {a1 : Int32} {a2 : Int32} {a3 : Int32} (oI37 : Nat → Int32) (eoI37 : I 37 = oI37) (v_acts_count : Int32) (e_v_acts_count : I 37 6 = v_acts_count) (v_acts_payments : Int32) (e_v_acts_payments : I 37 7 = v_acts_payments) (v_acts_amounts : (Nat → Int32)) (e_v_acts_amounts : I 41 = v_acts_amounts) (v_acts_kinds : (Nat → Int32)) (e_v_acts_kinds : I 38 = v_acts_kinds) (v_acts_shires : (Nat → Int32)) (e_v_acts_shires : I 39 = v_acts_shires) (v_acts_terms : (Nat → Int32)) (e_v_acts_terms : I 40 = v_acts_terms) {rr : Int32} {y_v_acts_count : Int32} {y_v_acts_payments : Int32} {y_v_acts_amounts : (Nat → Int32)} {y_v_acts_kinds : (Nat → Int32)} {y_v_acts_shires : (Nat → Int32)} {y_v_acts_terms : (Nat → Int32)} (h : pK_pays a1 a2 a3 v_acts_count v_acts_payments v_acts_amounts v_acts_kinds v_acts_shires v_acts_terms = some (rr, y_v_acts_count, y_v_acts_payments, y_v_acts_amounts, y_v_acts_kinds, y_v_acts_shires, y_v_acts_terms)) : zMi l yX11_pays cX11_pays 5 (some .int) ({ frames := 3, cells := 0, slots := 0, locals := 68 } : Room) X [.ref (X.1 + 0), .int a1, .int a2, .int a3] (I, J, Rr, D) rr ((va_up (va_up (va_up (va_up (va_up I 37 (va_up (va_up oI37 6 y_v_acts_count) 7 y_v_acts_payments)) 38 y_v_acts_kinds) 39 y_v_acts_shires) 40 y_v_acts_terms) 41 y_v_acts_amounts), J, Rr, D) := by
  subst eoI37
  refine zMi.of (by decide) (Nat.le_of_ble_eq_true rfl) (fun C E hl hX hQ => ?_)
  subst hl
  subst hX
  have eI0 : (va_up (va_up (va_up (va_up (va_up I 37 (va_up (va_up (I 37) 6 v_acts_count) 7 v_acts_payments)) 38 v_acts_kinds) 39 v_acts_shires) 40 v_acts_terms) 41 v_acts_amounts) = I := by rw [zup_idE e_v_acts_count, zup_idE e_v_acts_payments, zup_id, zup_idE e_v_acts_kinds, zup_idE e_v_acts_shires, zup_idE e_v_acts_terms, zup_idE e_v_acts_amounts]
  have eJ0 : J = J := rfl
  refine zb_S (S2 := ((va_up (va_up (va_up (va_up (va_up I 37 (va_up (va_up (I 37) 6 v_acts_count) 7 v_acts_payments)) 38 v_acts_kinds) 39 v_acts_shires) 40 v_acts_terms) 41 v_acts_amounts), J, Rr, D)) (zS_eq eI0.symm eJ0.symm) ?_
  exact c_X11_pays_0 a1 a2 a3 rr y_v_acts_count y_v_acts_payments y_v_acts_amounts y_v_acts_kinds y_v_acts_shires y_v_acts_terms E hQ v_acts_count v_acts_payments v_acts_amounts v_acts_kinds v_acts_shires v_acts_terms h
-- ChequeredCloth.tally
abbrev R_pK_tally : Type := Int32 × Int32 × Int32 × (Nat → Int32) × (Nat → Int32) × (Nat → Int32) × (Nat → Int32)
def pK_tally_b26 (a1 : Int32) (a2 : Int32) (a3 : Int32) (s0 : Int32) (v_acts_count : Int32) (v_acts_payments : Int32) (v_acts_amounts : (Nat → Int32)) (v_acts_kinds : (Nat → Int32)) (v_acts_shires : (Nat → Int32)) (v_acts_terms : (Nat → Int32)) : Option R_pK_tally :=
  if s0 = 0 then
    some ((-1), v_acts_count, v_acts_payments, v_acts_amounts, v_acts_kinds, v_acts_shires, v_acts_terms)
  else
    bd7 (pActs_addPayment 3 a1 a2 a3 v_acts_count v_acts_payments v_acts_amounts v_acts_kinds v_acts_shires v_acts_terms) fun rc4 v_acts_count_c4 v_acts_payments_c4 v_acts_amounts_c4 v_acts_kinds_c4 v_acts_shires_c4 v_acts_terms_c4 =>
    some (rc4, v_acts_count_c4, v_acts_payments_c4, v_acts_amounts_c4, v_acts_kinds_c4, v_acts_shires_c4, v_acts_terms_c4)
def pK_tally (a1 : Int32) (a2 : Int32) (a3 : Int32) (v_acts_count : Int32) (v_acts_payments : Int32) (v_acts_amounts : (Nat → Int32)) (v_acts_kinds : (Nat → Int32)) (v_acts_shires : (Nat → Int32)) (v_acts_terms : (Nat → Int32)) : Option R_pK_tally :=
  bd1 (pK_isShire a1) fun rc1 =>
  if rc1 = 0 then
    pK_tally_b26 a1 a2 a3 0 v_acts_count v_acts_payments v_acts_amounts v_acts_kinds v_acts_shires v_acts_terms
  else
    bd1 (pK_isTerm a2) fun rc2 =>
    if rc2 = 0 then
      pK_tally_b26 a1 a2 a3 0 v_acts_count v_acts_payments v_acts_amounts v_acts_kinds v_acts_shires v_acts_terms
    else
      bd1 (pK_isStick a3) fun rc3 =>
      if rc3 = 0 then
        pK_tally_b26 a1 a2 a3 0 v_acts_count v_acts_payments v_acts_amounts v_acts_kinds v_acts_shires v_acts_terms
      else
        pK_tally_b26 a1 a2 a3 1 v_acts_count v_acts_payments v_acts_amounts v_acts_kinds v_acts_shires v_acts_terms
theorem dX11_tally_0 : decode cX11_tally 0 = .ok (.iload_n 1, 1) := by decide +kernel
theorem dX11_tally_1 : decode cX11_tally 1 = .ok (.invokestatic 149, 3) := by decide +kernel
theorem dX11_tally_4 : decode cX11_tally 4 = .ok (.ifCond .eq 21, 3) := by decide +kernel
theorem dX11_tally_7 : decode cX11_tally 7 = .ok (.iload_n 2, 1) := by decide +kernel
theorem dX11_tally_8 : decode cX11_tally 8 = .ok (.invokestatic 120, 3) := by decide +kernel
theorem dX11_tally_11 : decode cX11_tally 11 = .ok (.ifCond .eq 14, 3) := by decide +kernel
theorem dX11_tally_14 : decode cX11_tally 14 = .ok (.iload_n 3, 1) := by decide +kernel
theorem dX11_tally_15 : decode cX11_tally 15 = .ok (.invokestatic 86, 3) := by decide +kernel
theorem dX11_tally_18 : decode cX11_tally 18 = .ok (.ifCond .eq 7, 3) := by decide +kernel
theorem dX11_tally_21 : decode cX11_tally 21 = .ok (.iconst 1, 1) := by decide +kernel
theorem dX11_tally_22 : decode cX11_tally 22 = .ok (.goto 4, 3) := by decide +kernel
theorem dX11_tally_25 : decode cX11_tally 25 = .ok (.iconst 0, 1) := by decide +kernel
theorem dX11_tally_26 : decode cX11_tally 26 = .ok (.istore 4, 2) := by decide +kernel
theorem dX11_tally_28 : decode cX11_tally 28 = .ok (.iload 4, 2) := by decide +kernel
theorem dX11_tally_30 : decode cX11_tally 30 = .ok (.ifCond .eq 17, 3) := by decide +kernel
theorem dX11_tally_33 : decode cX11_tally 33 = .ok (.aload_n 0, 1) := by decide +kernel
theorem dX11_tally_34 : decode cX11_tally 34 = .ok (.getfield 37, 3) := by decide +kernel
theorem dX11_tally_37 : decode cX11_tally 37 = .ok (.iconst 3, 1) := by decide +kernel
theorem dX11_tally_38 : decode cX11_tally 38 = .ok (.iload_n 1, 1) := by decide +kernel
theorem dX11_tally_39 : decode cX11_tally 39 = .ok (.iload_n 2, 1) := by decide +kernel
theorem dX11_tally_40 : decode cX11_tally 40 = .ok (.iload_n 3, 1) := by decide +kernel
theorem dX11_tally_41 : decode cX11_tally 41 = .ok (.invokevirtual 153, 3) := by decide +kernel
theorem dX11_tally_44 : decode cX11_tally 44 = .ok (.goto 4, 3) := by decide +kernel
theorem dX11_tally_47 : decode cX11_tally 47 = .ok (.iconst (-1), 1) := by decide +kernel
theorem dX11_tally_48 : decode cX11_tally 48 = .ok (.ireturn, 1) := by decide +kernel
theorem zy_X11_tally : zYv yX11_tally cX11_tally 5 (some .int) 3 := ⟨zw_954, zw_955, zw_1, zw_956, by decide, by decide, by decide⟩
theorem c_X11_tally_b26 {C : zC} {I : Nat → Nat → Int32} {J : Nat → Nat → Int64} {Rr : Nat → Nat → Option Nat} {D : zD} (a1 : Int32) (a2 : Int32) (a3 : Int32) (rr : Int32) (y_v_acts_count : Int32) (y_v_acts_payments : Int32) (y_v_acts_amounts : (Nat → Int32)) (y_v_acts_kinds : (Nat → Int32)) (y_v_acts_shires : (Nat → Int32)) (y_v_acts_terms : (Nat → Int32)) (E : zE C RX11 cX11_tally 5 (some .int) ({ frames := 3, cells := 0, slots := 0, locals := 68 } : Room)) (hQ : C.Q = zQi C ({ frames := 3, cells := 0, slots := 0, locals := 68 } : Room) rr ((va_up (va_up (va_up (va_up (va_up I 37 (va_up (va_up (I 37) 6 y_v_acts_count) 7 y_v_acts_payments)) 38 y_v_acts_kinds) 39 y_v_acts_shires) 40 y_v_acts_terms) 41 y_v_acts_amounts), J, Rr, D)) (s0 : Int32) (v_acts_count : Int32) (v_acts_payments : Int32) (v_acts_amounts : (Nat → Int32)) (v_acts_kinds : (Nat → Int32)) (v_acts_shires : (Nat → Int32)) (v_acts_terms : (Nat → Int32)) (h : pK_tally_b26 a1 a2 a3 s0 v_acts_count v_acts_payments v_acts_amounts v_acts_kinds v_acts_shires v_acts_terms = some (rr, y_v_acts_count, y_v_acts_payments, y_v_acts_amounts, y_v_acts_kinds, y_v_acts_shires, y_v_acts_terms)) : zB C (0, 0) 26 [(0, .ref (C.X.1 + 0)), (1, .int a1), (2, .int a2), (3, .int a3)] [.int s0] ((va_up (va_up (va_up (va_up (va_up I 37 (va_up (va_up (I 37) 6 v_acts_count) 7 v_acts_payments)) 38 v_acts_kinds) 39 v_acts_shires) 40 v_acts_terms) 41 v_acts_amounts), J, Rr, D) := by
  refine zb_istore E dX11_tally_26 (by decide) (lv2 := [(4, .int s0), (0, .ref (C.X.1 + 0)), (1, .int a1), (2, .int a2), (3, .int a3)]) rfl ?_
  refine zb_iload E dX11_tally_28 0 rfl ?_
  refine zb_if_eq E dX11_tally_30 (tgt := 47) rfl (fun hc => ?_) (fun hc => ?_)
  · have h := if_t h hc
    refine zb_iconst E dX11_tally_47 (v := (-1)) rfl ?_
    obtain ⟨rfl, rfl, rfl, rfl, rfl, rfl, rfl⟩ := zinj7 h
    exact zb_iret E hQ rfl ⟨Nat.zero_le _, Nat.zero_le _⟩ dX11_tally_48
  · have h := if_f h hc
    refine zb_aload_n E dX11_tally_33 1 rfl rfl ?_
    refine zb_get E 0 (by decide) (zF_0 C.X) rfl zin11 3 (by decide) zw_356 (v := .ref (C.X.1 + 37)) rfl dX11_tally_34 ?_
    refine zb_iconst E dX11_tally_37 (v := 3) rfl ?_
    refine zb_iload_n E dX11_tally_38 2 rfl rfl ?_
    refine zb_iload_n E dX11_tally_39 3 rfl rfl ?_
    refine zb_iload_n E dX11_tally_40 4 rfl rfl ?_
    obtain ⟨rc4, v_acts_count_c4, v_acts_payments_c4, v_acts_amounts_c4, v_acts_kinds_c4, v_acts_shires_c4, v_acts_terms_c4, hc_41, h⟩ := bd7_s h
    refine zb_cVi E [.int 3, .int a1, .int a2, .int a3] 37 zy_X0_addPayment zw_949 (by decide) (zF_37 _ _ _ _) rfl (c_X0_addPayment (va_up (va_up (I 37) 6 v_acts_count) 7 v_acts_payments) rfl v_acts_count rfl v_acts_payments rfl v_acts_amounts rfl v_acts_kinds rfl v_acts_shires rfl v_acts_terms rfl hc_41) (by decide) rfl rfl (by first | decide | simp [Value.category]) dX11_tally_41 (cs2 := (0, 0)) rfl ?_
    refine zb_S (S2 := ((va_up (va_up (va_up (va_up (va_up I 37 (va_up (va_up (I 37) 6 v_acts_count_c4) 7 v_acts_payments_c4)) 38 v_acts_kinds_c4) 39 v_acts_shires_c4) 40 v_acts_terms_c4) 41 v_acts_amounts_c4), J, Rr, D)) (zS_eq ((zcgF ((zcgF ((zcgF ((zcgF ((zcgV ((zcgF (zn2 (by decide : (7 : Nat) ≠ 6))).trans zn1)).trans (zn5 (by decide : (41 : Nat) ≠ 37) (by decide : (40 : Nat) ≠ 37) (by decide : (39 : Nat) ≠ 37) (by decide : (38 : Nat) ≠ 37)))).trans (zn4 (by decide : (41 : Nat) ≠ 38) (by decide : (40 : Nat) ≠ 38) (by decide : (39 : Nat) ≠ 38)))).trans (zn3 (by decide : (41 : Nat) ≠ 39) (by decide : (40 : Nat) ≠ 39)))).trans (zn2 (by decide : (41 : Nat) ≠ 40)))).trans zn1) rfl) ?_
    refine zb_goto E dX11_tally_44 (tgt := 48) rfl ?_
    obtain ⟨rfl, rfl, rfl, rfl, rfl, rfl, rfl⟩ := zinj7 h
    exact zb_iret E hQ rfl ⟨Nat.zero_le _, Nat.zero_le _⟩ dX11_tally_48
theorem c_X11_tally_0 {C : zC} {I : Nat → Nat → Int32} {J : Nat → Nat → Int64} {Rr : Nat → Nat → Option Nat} {D : zD} (a1 : Int32) (a2 : Int32) (a3 : Int32) (rr : Int32) (y_v_acts_count : Int32) (y_v_acts_payments : Int32) (y_v_acts_amounts : (Nat → Int32)) (y_v_acts_kinds : (Nat → Int32)) (y_v_acts_shires : (Nat → Int32)) (y_v_acts_terms : (Nat → Int32)) (E : zE C RX11 cX11_tally 5 (some .int) ({ frames := 3, cells := 0, slots := 0, locals := 68 } : Room)) (hQ : C.Q = zQi C ({ frames := 3, cells := 0, slots := 0, locals := 68 } : Room) rr ((va_up (va_up (va_up (va_up (va_up I 37 (va_up (va_up (I 37) 6 y_v_acts_count) 7 y_v_acts_payments)) 38 y_v_acts_kinds) 39 y_v_acts_shires) 40 y_v_acts_terms) 41 y_v_acts_amounts), J, Rr, D)) (v_acts_count : Int32) (v_acts_payments : Int32) (v_acts_amounts : (Nat → Int32)) (v_acts_kinds : (Nat → Int32)) (v_acts_shires : (Nat → Int32)) (v_acts_terms : (Nat → Int32)) (h : pK_tally a1 a2 a3 v_acts_count v_acts_payments v_acts_amounts v_acts_kinds v_acts_shires v_acts_terms = some (rr, y_v_acts_count, y_v_acts_payments, y_v_acts_amounts, y_v_acts_kinds, y_v_acts_shires, y_v_acts_terms)) : zB C (0, 0) 0 [(0, .ref (C.X.1 + 0)), (1, .int a1), (2, .int a2), (3, .int a3)] [] ((va_up (va_up (va_up (va_up (va_up I 37 (va_up (va_up (I 37) 6 v_acts_count) 7 v_acts_payments)) 38 v_acts_kinds) 39 v_acts_shires) 40 v_acts_terms) 41 v_acts_amounts), J, Rr, D) := by
  refine zb_iload_n E dX11_tally_0 1 rfl rfl ?_
  obtain ⟨rc1, hc_1, h⟩ := bd1_s h
  refine zb_cSi E [.int a1] zy_X11_isShire zw_945 (c_X11_isShire hc_1) (by decide) rfl rfl (by first | decide | simp [Value.category]) dX11_tally_1 (cs2 := (0, 0)) rfl ?_
  refine zb_if_eq E dX11_tally_4 (tgt := 25) rfl (fun hc => ?_) (fun hc => ?_)
  · have h := if_t h hc
    refine zb_iconst E dX11_tally_25 (v := 0) rfl ?_
    exact c_X11_tally_b26 a1 a2 a3 rr y_v_acts_count y_v_acts_payments y_v_acts_amounts y_v_acts_kinds y_v_acts_shires y_v_acts_terms E hQ 0 v_acts_count v_acts_payments v_acts_amounts v_acts_kinds v_acts_shires v_acts_terms h
  · have h := if_f h hc
    refine zb_iload_n E dX11_tally_7 2 rfl rfl ?_
    obtain ⟨rc2, hc_8, h⟩ := bd1_s h
    refine zb_cSi E [.int a2] zy_X11_isTerm zw_625 (c_X11_isTerm hc_8) (by decide) rfl rfl (by first | decide | simp [Value.category]) dX11_tally_8 (cs2 := (0, 0)) rfl ?_
    refine zb_if_eq E dX11_tally_11 (tgt := 25) rfl (fun hc => ?_) (fun hc => ?_)
    · have h := if_t h hc
      refine zb_iconst E dX11_tally_25 (v := 0) rfl ?_
      exact c_X11_tally_b26 a1 a2 a3 rr y_v_acts_count y_v_acts_payments y_v_acts_amounts y_v_acts_kinds y_v_acts_shires y_v_acts_terms E hQ 0 v_acts_count v_acts_payments v_acts_amounts v_acts_kinds v_acts_shires v_acts_terms h
    · have h := if_f h hc
      refine zb_iload_n E dX11_tally_14 3 rfl rfl ?_
      obtain ⟨rc3, hc_15, h⟩ := bd1_s h
      refine zb_cSi E [.int a3] zy_X11_isStick zw_487 (c_X11_isStick hc_15) (by decide) rfl rfl (by first | decide | simp [Value.category]) dX11_tally_15 (cs2 := (0, 0)) rfl ?_
      refine zb_if_eq E dX11_tally_18 (tgt := 25) rfl (fun hc => ?_) (fun hc => ?_)
      · have h := if_t h hc
        refine zb_iconst E dX11_tally_25 (v := 0) rfl ?_
        exact c_X11_tally_b26 a1 a2 a3 rr y_v_acts_count y_v_acts_payments y_v_acts_amounts y_v_acts_kinds y_v_acts_shires y_v_acts_terms E hQ 0 v_acts_count v_acts_payments v_acts_amounts v_acts_kinds v_acts_shires v_acts_terms h
      · have h := if_f h hc
        refine zb_iconst E dX11_tally_21 (v := 1) rfl ?_
        refine zb_goto E dX11_tally_22 (tgt := 26) rfl ?_
        exact c_X11_tally_b26 a1 a2 a3 rr y_v_acts_count y_v_acts_payments y_v_acts_amounts y_v_acts_kinds y_v_acts_shires y_v_acts_terms E hQ 1 v_acts_count v_acts_payments v_acts_amounts v_acts_kinds v_acts_shires v_acts_terms h
theorem c_X11_tally {l : Launch} {X : zX} {I : Nat → Nat → Int32} {J : Nat → Nat → Int64} {Rr : Nat → Nat → Option Nat} {D : zD} {a1 : Int32} {a2 : Int32} {a3 : Int32} (oI37 : Nat → Int32) (eoI37 : I 37 = oI37) (v_acts_count : Int32) (e_v_acts_count : I 37 6 = v_acts_count) (v_acts_payments : Int32) (e_v_acts_payments : I 37 7 = v_acts_payments) (v_acts_amounts : (Nat → Int32)) (e_v_acts_amounts : I 41 = v_acts_amounts) (v_acts_kinds : (Nat → Int32)) (e_v_acts_kinds : I 38 = v_acts_kinds) (v_acts_shires : (Nat → Int32)) (e_v_acts_shires : I 39 = v_acts_shires) (v_acts_terms : (Nat → Int32)) (e_v_acts_terms : I 40 = v_acts_terms) {rr : Int32} {y_v_acts_count : Int32} {y_v_acts_payments : Int32} {y_v_acts_amounts : (Nat → Int32)} {y_v_acts_kinds : (Nat → Int32)} {y_v_acts_shires : (Nat → Int32)} {y_v_acts_terms : (Nat → Int32)} (h : pK_tally a1 a2 a3 v_acts_count v_acts_payments v_acts_amounts v_acts_kinds v_acts_shires v_acts_terms = some (rr, y_v_acts_count, y_v_acts_payments, y_v_acts_amounts, y_v_acts_kinds, y_v_acts_shires, y_v_acts_terms)) : zMi l yX11_tally cX11_tally 5 (some .int) ({ frames := 3, cells := 0, slots := 0, locals := 68 } : Room) X [.ref (X.1 + 0), .int a1, .int a2, .int a3] (I, J, Rr, D) rr ((va_up (va_up (va_up (va_up (va_up I 37 (va_up (va_up oI37 6 y_v_acts_count) 7 y_v_acts_payments)) 38 y_v_acts_kinds) 39 y_v_acts_shires) 40 y_v_acts_terms) 41 y_v_acts_amounts), J, Rr, D) := by
  subst eoI37
  refine zMi.of (by decide) (Nat.le_of_ble_eq_true rfl) (fun C E hl hX hQ => ?_)
  subst hl
  subst hX
  have eI0 : (va_up (va_up (va_up (va_up (va_up I 37 (va_up (va_up (I 37) 6 v_acts_count) 7 v_acts_payments)) 38 v_acts_kinds) 39 v_acts_shires) 40 v_acts_terms) 41 v_acts_amounts) = I := by rw [zup_idE e_v_acts_count, zup_idE e_v_acts_payments, zup_id, zup_idE e_v_acts_kinds, zup_idE e_v_acts_shires, zup_idE e_v_acts_terms, zup_idE e_v_acts_amounts]
  have eJ0 : J = J := rfl
  refine zb_S (S2 := ((va_up (va_up (va_up (va_up (va_up I 37 (va_up (va_up (I 37) 6 v_acts_count) 7 v_acts_payments)) 38 v_acts_kinds) 39 v_acts_shires) 40 v_acts_terms) 41 v_acts_amounts), J, Rr, D)) (zS_eq eI0.symm eJ0.symm) ?_
  exact c_X11_tally_0 a1 a2 a3 rr y_v_acts_count y_v_acts_payments y_v_acts_amounts y_v_acts_kinds y_v_acts_shires y_v_acts_terms E hQ v_acts_count v_acts_payments v_acts_amounts v_acts_kinds v_acts_shires v_acts_terms h
-- ChequeredCloth.fire
abbrev R_pK_fire : Type := Int32 × Int32 × (Nat → Int32) × (Nat → Int32) × (Nat → Int32) × (Nat → Int32)
def pK_fire_b22 (a1 : Int32) (a2 : Int32) (s0 : Int32) (v_acts_count : Int32) (v_acts_amounts : (Nat → Int32)) (v_acts_kinds : (Nat → Int32)) (v_acts_shires : (Nat → Int32)) (v_acts_terms : (Nat → Int32)) : Option R_pK_fire :=
  if s0 = 0 then
    some ((-1), v_acts_count, v_acts_amounts, v_acts_kinds, v_acts_shires, v_acts_terms)
  else
    bd6 (pActs_add 4 (-1) a1 a2 v_acts_count v_acts_amounts v_acts_kinds v_acts_shires v_acts_terms) fun rc2 v_acts_count_c2 v_acts_amounts_c2 v_acts_kinds_c2 v_acts_shires_c2 v_acts_terms_c2 =>
    some (rc2, v_acts_count_c2, v_acts_amounts_c2, v_acts_kinds_c2, v_acts_shires_c2, v_acts_terms_c2)
def pK_fire (a1 : Int32) (a2 : Int32) (v_acts_count : Int32) (v_acts_amounts : (Nat → Int32)) (v_acts_kinds : (Nat → Int32)) (v_acts_shires : (Nat → Int32)) (v_acts_terms : (Nat → Int32)) : Option R_pK_fire :=
  bd1 (pK_isTerm a1) fun rc1 =>
  if rc1 = 0 then
    pK_fire_b22 a1 a2 0 v_acts_count v_acts_amounts v_acts_kinds v_acts_shires v_acts_terms
  else
    if a2 < 0 then
      pK_fire_b22 a1 a2 0 v_acts_count v_acts_amounts v_acts_kinds v_acts_shires v_acts_terms
    else
      if 120 < a2 then
        pK_fire_b22 a1 a2 0 v_acts_count v_acts_amounts v_acts_kinds v_acts_shires v_acts_terms
      else
        pK_fire_b22 a1 a2 1 v_acts_count v_acts_amounts v_acts_kinds v_acts_shires v_acts_terms
theorem dX11_fire_0 : decode cX11_fire 0 = .ok (.iload_n 1, 1) := by decide +kernel
theorem dX11_fire_1 : decode cX11_fire 1 = .ok (.invokestatic 120, 3) := by decide +kernel
theorem dX11_fire_4 : decode cX11_fire 4 = .ok (.ifCond .eq 17, 3) := by decide +kernel
theorem dX11_fire_7 : decode cX11_fire 7 = .ok (.iload_n 2, 1) := by decide +kernel
theorem dX11_fire_8 : decode cX11_fire 8 = .ok (.ifCond .lt 13, 3) := by decide +kernel
theorem dX11_fire_11 : decode cX11_fire 11 = .ok (.iload_n 2, 1) := by decide +kernel
theorem dX11_fire_12 : decode cX11_fire 12 = .ok (.bipush 120, 2) := by decide +kernel
theorem dX11_fire_14 : decode cX11_fire 14 = .ok (.if_icmp .gt 7, 3) := by decide +kernel
theorem dX11_fire_17 : decode cX11_fire 17 = .ok (.iconst 1, 1) := by decide +kernel
theorem dX11_fire_18 : decode cX11_fire 18 = .ok (.goto 4, 3) := by decide +kernel
theorem dX11_fire_21 : decode cX11_fire 21 = .ok (.iconst 0, 1) := by decide +kernel
theorem dX11_fire_22 : decode cX11_fire 22 = .ok (.istore_n 3, 1) := by decide +kernel
theorem dX11_fire_23 : decode cX11_fire 23 = .ok (.iload_n 3, 1) := by decide +kernel
theorem dX11_fire_24 : decode cX11_fire 24 = .ok (.ifCond .eq 17, 3) := by decide +kernel
theorem dX11_fire_27 : decode cX11_fire 27 = .ok (.aload_n 0, 1) := by decide +kernel
theorem dX11_fire_28 : decode cX11_fire 28 = .ok (.getfield 37, 3) := by decide +kernel
theorem dX11_fire_31 : decode cX11_fire 31 = .ok (.iconst 4, 1) := by decide +kernel
theorem dX11_fire_32 : decode cX11_fire 32 = .ok (.iconst (-1), 1) := by decide +kernel
theorem dX11_fire_33 : decode cX11_fire 33 = .ok (.iload_n 1, 1) := by decide +kernel
theorem dX11_fire_34 : decode cX11_fire 34 = .ok (.iload_n 2, 1) := by decide +kernel
theorem dX11_fire_35 : decode cX11_fire 35 = .ok (.invokevirtual 157, 3) := by decide +kernel
theorem dX11_fire_38 : decode cX11_fire 38 = .ok (.goto 4, 3) := by decide +kernel
theorem dX11_fire_41 : decode cX11_fire 41 = .ok (.iconst (-1), 1) := by decide +kernel
theorem dX11_fire_42 : decode cX11_fire 42 = .ok (.ireturn, 1) := by decide +kernel
theorem zy_X11_fire : zYv yX11_fire cX11_fire 4 (some .int) 2 := ⟨zw_958, zw_959, zw_1, zw_960, by decide, by decide, by decide⟩
theorem c_X11_fire_b22 {C : zC} {I : Nat → Nat → Int32} {J : Nat → Nat → Int64} {Rr : Nat → Nat → Option Nat} {D : zD} (a1 : Int32) (a2 : Int32) (rr : Int32) (y_v_acts_count : Int32) (y_v_acts_amounts : (Nat → Int32)) (y_v_acts_kinds : (Nat → Int32)) (y_v_acts_shires : (Nat → Int32)) (y_v_acts_terms : (Nat → Int32)) (E : zE C RX11 cX11_fire 4 (some .int) ({ frames := 2, cells := 0, slots := 0, locals := 44 } : Room)) (hQ : C.Q = zQi C ({ frames := 2, cells := 0, slots := 0, locals := 44 } : Room) rr ((va_up (va_up (va_up (va_up (va_up I 37 (va_up (I 37) 6 y_v_acts_count)) 38 y_v_acts_kinds) 39 y_v_acts_shires) 40 y_v_acts_terms) 41 y_v_acts_amounts), J, Rr, D)) (s0 : Int32) (v_acts_count : Int32) (v_acts_amounts : (Nat → Int32)) (v_acts_kinds : (Nat → Int32)) (v_acts_shires : (Nat → Int32)) (v_acts_terms : (Nat → Int32)) (h : pK_fire_b22 a1 a2 s0 v_acts_count v_acts_amounts v_acts_kinds v_acts_shires v_acts_terms = some (rr, y_v_acts_count, y_v_acts_amounts, y_v_acts_kinds, y_v_acts_shires, y_v_acts_terms)) : zB C (0, 0) 22 [(0, .ref (C.X.1 + 0)), (1, .int a1), (2, .int a2)] [.int s0] ((va_up (va_up (va_up (va_up (va_up I 37 (va_up (I 37) 6 v_acts_count)) 38 v_acts_kinds) 39 v_acts_shires) 40 v_acts_terms) 41 v_acts_amounts), J, Rr, D) := by
  refine zb_istore_n E dX11_fire_22 rfl (by decide) (lv2 := [(3, .int s0), (0, .ref (C.X.1 + 0)), (1, .int a1), (2, .int a2)]) rfl ?_
  refine zb_iload_n E dX11_fire_23 0 rfl rfl ?_
  refine zb_if_eq E dX11_fire_24 (tgt := 41) rfl (fun hc => ?_) (fun hc => ?_)
  · have h := if_t h hc
    refine zb_iconst E dX11_fire_41 (v := (-1)) rfl ?_
    obtain ⟨rfl, rfl, rfl, rfl, rfl, rfl⟩ := zinj6 h
    exact zb_iret E hQ rfl ⟨Nat.zero_le _, Nat.zero_le _⟩ dX11_fire_42
  · have h := if_f h hc
    refine zb_aload_n E dX11_fire_27 1 rfl rfl ?_
    refine zb_get E 0 (by decide) (zF_0 C.X) rfl zin11 3 (by decide) zw_356 (v := .ref (C.X.1 + 37)) rfl dX11_fire_28 ?_
    refine zb_iconst E dX11_fire_31 (v := 4) rfl ?_
    refine zb_iconst E dX11_fire_32 (v := (-1)) rfl ?_
    refine zb_iload_n E dX11_fire_33 2 rfl rfl ?_
    refine zb_iload_n E dX11_fire_34 3 rfl rfl ?_
    obtain ⟨rc2, v_acts_count_c2, v_acts_amounts_c2, v_acts_kinds_c2, v_acts_shires_c2, v_acts_terms_c2, hc_35, h⟩ := bd6_s h
    refine zb_cVi E [.int 4, .int (-1), .int a1, .int a2] 37 zy_X0_add zw_961 (by decide) (zF_37 _ _ _ _) rfl (c_X0_add (va_up (I 37) 6 v_acts_count) rfl v_acts_count rfl v_acts_amounts rfl v_acts_kinds rfl v_acts_shires rfl v_acts_terms rfl hc_35) (by decide) rfl rfl (by first | decide | simp [Value.category]) dX11_fire_35 (cs2 := (0, 0)) rfl ?_
    refine zb_S (S2 := ((va_up (va_up (va_up (va_up (va_up I 37 (va_up (I 37) 6 v_acts_count_c2)) 38 v_acts_kinds_c2) 39 v_acts_shires_c2) 40 v_acts_terms_c2) 41 v_acts_amounts_c2), J, Rr, D)) (zS_eq ((zcgF ((zcgF ((zcgF ((zcgF ((zcgV zn1).trans (zn5 (by decide : (41 : Nat) ≠ 37) (by decide : (40 : Nat) ≠ 37) (by decide : (39 : Nat) ≠ 37) (by decide : (38 : Nat) ≠ 37)))).trans (zn4 (by decide : (41 : Nat) ≠ 38) (by decide : (40 : Nat) ≠ 38) (by decide : (39 : Nat) ≠ 38)))).trans (zn3 (by decide : (41 : Nat) ≠ 39) (by decide : (40 : Nat) ≠ 39)))).trans (zn2 (by decide : (41 : Nat) ≠ 40)))).trans zn1) rfl) ?_
    refine zb_goto E dX11_fire_38 (tgt := 42) rfl ?_
    obtain ⟨rfl, rfl, rfl, rfl, rfl, rfl⟩ := zinj6 h
    exact zb_iret E hQ rfl ⟨Nat.zero_le _, Nat.zero_le _⟩ dX11_fire_42
theorem c_X11_fire_0 {C : zC} {I : Nat → Nat → Int32} {J : Nat → Nat → Int64} {Rr : Nat → Nat → Option Nat} {D : zD} (a1 : Int32) (a2 : Int32) (rr : Int32) (y_v_acts_count : Int32) (y_v_acts_amounts : (Nat → Int32)) (y_v_acts_kinds : (Nat → Int32)) (y_v_acts_shires : (Nat → Int32)) (y_v_acts_terms : (Nat → Int32)) (E : zE C RX11 cX11_fire 4 (some .int) ({ frames := 2, cells := 0, slots := 0, locals := 44 } : Room)) (hQ : C.Q = zQi C ({ frames := 2, cells := 0, slots := 0, locals := 44 } : Room) rr ((va_up (va_up (va_up (va_up (va_up I 37 (va_up (I 37) 6 y_v_acts_count)) 38 y_v_acts_kinds) 39 y_v_acts_shires) 40 y_v_acts_terms) 41 y_v_acts_amounts), J, Rr, D)) (v_acts_count : Int32) (v_acts_amounts : (Nat → Int32)) (v_acts_kinds : (Nat → Int32)) (v_acts_shires : (Nat → Int32)) (v_acts_terms : (Nat → Int32)) (h : pK_fire a1 a2 v_acts_count v_acts_amounts v_acts_kinds v_acts_shires v_acts_terms = some (rr, y_v_acts_count, y_v_acts_amounts, y_v_acts_kinds, y_v_acts_shires, y_v_acts_terms)) : zB C (0, 0) 0 [(0, .ref (C.X.1 + 0)), (1, .int a1), (2, .int a2)] [] ((va_up (va_up (va_up (va_up (va_up I 37 (va_up (I 37) 6 v_acts_count)) 38 v_acts_kinds) 39 v_acts_shires) 40 v_acts_terms) 41 v_acts_amounts), J, Rr, D) := by
  refine zb_iload_n E dX11_fire_0 1 rfl rfl ?_
  obtain ⟨rc1, hc_1, h⟩ := bd1_s h
  refine zb_cSi E [.int a1] zy_X11_isTerm zw_625 (c_X11_isTerm hc_1) (by decide) rfl rfl (by first | decide | simp [Value.category]) dX11_fire_1 (cs2 := (0, 0)) rfl ?_
  refine zb_if_eq E dX11_fire_4 (tgt := 21) rfl (fun hc => ?_) (fun hc => ?_)
  · have h := if_t h hc
    refine zb_iconst E dX11_fire_21 (v := 0) rfl ?_
    exact c_X11_fire_b22 a1 a2 rr y_v_acts_count y_v_acts_amounts y_v_acts_kinds y_v_acts_shires y_v_acts_terms E hQ 0 v_acts_count v_acts_amounts v_acts_kinds v_acts_shires v_acts_terms h
  · have h := if_f h hc
    refine zb_iload_n E dX11_fire_7 2 rfl rfl ?_
    refine zb_if_lt E dX11_fire_8 (tgt := 21) rfl (fun hc => ?_) (fun hc => ?_)
    · have h := if_t h hc
      refine zb_iconst E dX11_fire_21 (v := 0) rfl ?_
      exact c_X11_fire_b22 a1 a2 rr y_v_acts_count y_v_acts_amounts y_v_acts_kinds y_v_acts_shires y_v_acts_terms E hQ 0 v_acts_count v_acts_amounts v_acts_kinds v_acts_shires v_acts_terms h
    · have h := if_f h hc
      refine zb_iload_n E dX11_fire_11 2 rfl rfl ?_
      refine zb_bipush E dX11_fire_12 (v := 120) rfl ?_
      refine zb_icmp_gt E dX11_fire_14 (tgt := 21) rfl (fun hc => ?_) (fun hc => ?_)
      · have h := if_t h hc
        refine zb_iconst E dX11_fire_21 (v := 0) rfl ?_
        exact c_X11_fire_b22 a1 a2 rr y_v_acts_count y_v_acts_amounts y_v_acts_kinds y_v_acts_shires y_v_acts_terms E hQ 0 v_acts_count v_acts_amounts v_acts_kinds v_acts_shires v_acts_terms h
      · have h := if_f h hc
        refine zb_iconst E dX11_fire_17 (v := 1) rfl ?_
        refine zb_goto E dX11_fire_18 (tgt := 22) rfl ?_
        exact c_X11_fire_b22 a1 a2 rr y_v_acts_count y_v_acts_amounts y_v_acts_kinds y_v_acts_shires y_v_acts_terms E hQ 1 v_acts_count v_acts_amounts v_acts_kinds v_acts_shires v_acts_terms h
theorem c_X11_fire {l : Launch} {X : zX} {I : Nat → Nat → Int32} {J : Nat → Nat → Int64} {Rr : Nat → Nat → Option Nat} {D : zD} {a1 : Int32} {a2 : Int32} (oI37 : Nat → Int32) (eoI37 : I 37 = oI37) (v_acts_count : Int32) (e_v_acts_count : I 37 6 = v_acts_count) (v_acts_amounts : (Nat → Int32)) (e_v_acts_amounts : I 41 = v_acts_amounts) (v_acts_kinds : (Nat → Int32)) (e_v_acts_kinds : I 38 = v_acts_kinds) (v_acts_shires : (Nat → Int32)) (e_v_acts_shires : I 39 = v_acts_shires) (v_acts_terms : (Nat → Int32)) (e_v_acts_terms : I 40 = v_acts_terms) {rr : Int32} {y_v_acts_count : Int32} {y_v_acts_amounts : (Nat → Int32)} {y_v_acts_kinds : (Nat → Int32)} {y_v_acts_shires : (Nat → Int32)} {y_v_acts_terms : (Nat → Int32)} (h : pK_fire a1 a2 v_acts_count v_acts_amounts v_acts_kinds v_acts_shires v_acts_terms = some (rr, y_v_acts_count, y_v_acts_amounts, y_v_acts_kinds, y_v_acts_shires, y_v_acts_terms)) : zMi l yX11_fire cX11_fire 4 (some .int) ({ frames := 2, cells := 0, slots := 0, locals := 44 } : Room) X [.ref (X.1 + 0), .int a1, .int a2] (I, J, Rr, D) rr ((va_up (va_up (va_up (va_up (va_up I 37 (va_up oI37 6 y_v_acts_count)) 38 y_v_acts_kinds) 39 y_v_acts_shires) 40 y_v_acts_terms) 41 y_v_acts_amounts), J, Rr, D) := by
  subst eoI37
  refine zMi.of (by decide) (Nat.le_of_ble_eq_true rfl) (fun C E hl hX hQ => ?_)
  subst hl
  subst hX
  have eI0 : (va_up (va_up (va_up (va_up (va_up I 37 (va_up (I 37) 6 v_acts_count)) 38 v_acts_kinds) 39 v_acts_shires) 40 v_acts_terms) 41 v_acts_amounts) = I := by rw [zup_idE e_v_acts_count, zup_id, zup_idE e_v_acts_kinds, zup_idE e_v_acts_shires, zup_idE e_v_acts_terms, zup_idE e_v_acts_amounts]
  have eJ0 : J = J := rfl
  refine zb_S (S2 := ((va_up (va_up (va_up (va_up (va_up I 37 (va_up (I 37) 6 v_acts_count)) 38 v_acts_kinds) 39 v_acts_shires) 40 v_acts_terms) 41 v_acts_amounts), J, Rr, D)) (zS_eq eI0.symm eJ0.symm) ?_
  exact c_X11_fire_0 a1 a2 rr y_v_acts_count y_v_acts_amounts y_v_acts_kinds y_v_acts_shires y_v_acts_terms E hQ v_acts_count v_acts_amounts v_acts_kinds v_acts_shires v_acts_terms h
-- ChequeredCloth.annul
abbrev R_pK_annul : Type := Int32 × Int32 × (Nat → Int32) × (Nat → Int32) × (Nat → Int32) × (Nat → Int32) × (Nat → Int32)
def pK_annul (a1 : Int32) (v_acts_count : Int32) (v_acts_amounts : (Nat → Int32)) (v_acts_kinds : (Nat → Int32)) (v_acts_shires : (Nat → Int32)) (v_acts_terms : (Nat → Int32)) (v_acts_voidedBy : (Nat → Int32)) : Option R_pK_annul :=
  bd7 (pActs_addVoid a1 v_acts_count v_acts_amounts v_acts_kinds v_acts_shires v_acts_terms v_acts_voidedBy) fun rc1 v_acts_count_c1 v_acts_amounts_c1 v_acts_kinds_c1 v_acts_shires_c1 v_acts_terms_c1 v_acts_voidedBy_c1 =>
  some (rc1, v_acts_count_c1, v_acts_amounts_c1, v_acts_kinds_c1, v_acts_shires_c1, v_acts_terms_c1, v_acts_voidedBy_c1)
theorem dX11_annul_0 : decode cX11_annul 0 = .ok (.aload_n 0, 1) := by decide +kernel
theorem dX11_annul_1 : decode cX11_annul 1 = .ok (.getfield 37, 3) := by decide +kernel
theorem dX11_annul_4 : decode cX11_annul 4 = .ok (.iload_n 1, 1) := by decide +kernel
theorem dX11_annul_5 : decode cX11_annul 5 = .ok (.invokevirtual 159, 3) := by decide +kernel
theorem dX11_annul_8 : decode cX11_annul 8 = .ok (.ireturn, 1) := by decide +kernel
theorem zy_X11_annul : zYv yX11_annul cX11_annul 2 (some .int) 1 := ⟨zw_963, zw_964, zw_1, zw_965, by decide, by decide, by decide⟩
theorem c_X11_annul_0 {C : zC} {I : Nat → Nat → Int32} {J : Nat → Nat → Int64} {Rr : Nat → Nat → Option Nat} {D : zD} (a1 : Int32) (rr : Int32) (y_v_acts_count : Int32) (y_v_acts_amounts : (Nat → Int32)) (y_v_acts_kinds : (Nat → Int32)) (y_v_acts_shires : (Nat → Int32)) (y_v_acts_terms : (Nat → Int32)) (y_v_acts_voidedBy : (Nat → Int32)) (E : zE C RX11 cX11_annul 2 (some .int) ({ frames := 3, cells := 0, slots := 0, locals := 65 } : Room)) (hQ : C.Q = zQi C ({ frames := 3, cells := 0, slots := 0, locals := 65 } : Room) rr ((va_up (va_up (va_up (va_up (va_up (va_up I 37 (va_up (I 37) 6 y_v_acts_count)) 38 y_v_acts_kinds) 39 y_v_acts_shires) 40 y_v_acts_terms) 41 y_v_acts_amounts) 42 y_v_acts_voidedBy), J, Rr, D)) (v_acts_count : Int32) (v_acts_amounts : (Nat → Int32)) (v_acts_kinds : (Nat → Int32)) (v_acts_shires : (Nat → Int32)) (v_acts_terms : (Nat → Int32)) (v_acts_voidedBy : (Nat → Int32)) (h : pK_annul a1 v_acts_count v_acts_amounts v_acts_kinds v_acts_shires v_acts_terms v_acts_voidedBy = some (rr, y_v_acts_count, y_v_acts_amounts, y_v_acts_kinds, y_v_acts_shires, y_v_acts_terms, y_v_acts_voidedBy)) : zB C (0, 0) 0 [(0, .ref (C.X.1 + 0)), (1, .int a1)] [] ((va_up (va_up (va_up (va_up (va_up (va_up I 37 (va_up (I 37) 6 v_acts_count)) 38 v_acts_kinds) 39 v_acts_shires) 40 v_acts_terms) 41 v_acts_amounts) 42 v_acts_voidedBy), J, Rr, D) := by
  refine zb_aload_n E dX11_annul_0 0 rfl rfl ?_
  refine zb_get E 0 (by decide) (zF_0 C.X) rfl zin11 3 (by decide) zw_356 (v := .ref (C.X.1 + 37)) rfl dX11_annul_1 ?_
  refine zb_iload_n E dX11_annul_4 1 rfl rfl ?_
  obtain ⟨rc1, v_acts_count_c1, v_acts_amounts_c1, v_acts_kinds_c1, v_acts_shires_c1, v_acts_terms_c1, v_acts_voidedBy_c1, hc_5, h⟩ := bd7_s h
  refine zb_cVi E [.int a1] 37 zy_X0_addVoid zw_966 (by decide) (zF_37 _ _ _ _) rfl (c_X0_addVoid (va_up (I 37) 6 v_acts_count) rfl v_acts_count rfl v_acts_amounts rfl v_acts_kinds rfl v_acts_shires rfl v_acts_terms rfl v_acts_voidedBy rfl hc_5) (by decide) rfl rfl (by first | decide | simp [Value.category]) dX11_annul_5 (cs2 := (0, 0)) rfl ?_
  refine zb_S (S2 := ((va_up (va_up (va_up (va_up (va_up (va_up I 37 (va_up (I 37) 6 v_acts_count_c1)) 38 v_acts_kinds_c1) 39 v_acts_shires_c1) 40 v_acts_terms_c1) 41 v_acts_amounts_c1) 42 v_acts_voidedBy_c1), J, Rr, D)) (zS_eq ((zcgF ((zcgF ((zcgF ((zcgF ((zcgF ((zcgV zn1).trans (zn6 (by decide : (42 : Nat) ≠ 37) (by decide : (41 : Nat) ≠ 37) (by decide : (40 : Nat) ≠ 37) (by decide : (39 : Nat) ≠ 37) (by decide : (38 : Nat) ≠ 37)))).trans (zn5 (by decide : (42 : Nat) ≠ 38) (by decide : (41 : Nat) ≠ 38) (by decide : (40 : Nat) ≠ 38) (by decide : (39 : Nat) ≠ 38)))).trans (zn4 (by decide : (42 : Nat) ≠ 39) (by decide : (41 : Nat) ≠ 39) (by decide : (40 : Nat) ≠ 39)))).trans (zn3 (by decide : (42 : Nat) ≠ 40) (by decide : (41 : Nat) ≠ 40)))).trans (zn2 (by decide : (42 : Nat) ≠ 41)))).trans zn1) rfl) ?_
  obtain ⟨rfl, rfl, rfl, rfl, rfl, rfl, rfl⟩ := zinj7 h
  exact zb_iret E hQ rfl ⟨Nat.zero_le _, Nat.zero_le _⟩ dX11_annul_8
theorem c_X11_annul {l : Launch} {X : zX} {I : Nat → Nat → Int32} {J : Nat → Nat → Int64} {Rr : Nat → Nat → Option Nat} {D : zD} {a1 : Int32} (oI37 : Nat → Int32) (eoI37 : I 37 = oI37) (v_acts_count : Int32) (e_v_acts_count : I 37 6 = v_acts_count) (v_acts_amounts : (Nat → Int32)) (e_v_acts_amounts : I 41 = v_acts_amounts) (v_acts_kinds : (Nat → Int32)) (e_v_acts_kinds : I 38 = v_acts_kinds) (v_acts_shires : (Nat → Int32)) (e_v_acts_shires : I 39 = v_acts_shires) (v_acts_terms : (Nat → Int32)) (e_v_acts_terms : I 40 = v_acts_terms) (v_acts_voidedBy : (Nat → Int32)) (e_v_acts_voidedBy : I 42 = v_acts_voidedBy) {rr : Int32} {y_v_acts_count : Int32} {y_v_acts_amounts : (Nat → Int32)} {y_v_acts_kinds : (Nat → Int32)} {y_v_acts_shires : (Nat → Int32)} {y_v_acts_terms : (Nat → Int32)} {y_v_acts_voidedBy : (Nat → Int32)} (h : pK_annul a1 v_acts_count v_acts_amounts v_acts_kinds v_acts_shires v_acts_terms v_acts_voidedBy = some (rr, y_v_acts_count, y_v_acts_amounts, y_v_acts_kinds, y_v_acts_shires, y_v_acts_terms, y_v_acts_voidedBy)) : zMi l yX11_annul cX11_annul 2 (some .int) ({ frames := 3, cells := 0, slots := 0, locals := 65 } : Room) X [.ref (X.1 + 0), .int a1] (I, J, Rr, D) rr ((va_up (va_up (va_up (va_up (va_up (va_up I 37 (va_up oI37 6 y_v_acts_count)) 38 y_v_acts_kinds) 39 y_v_acts_shires) 40 y_v_acts_terms) 41 y_v_acts_amounts) 42 y_v_acts_voidedBy), J, Rr, D) := by
  subst eoI37
  refine zMi.of (by decide) (Nat.le_of_ble_eq_true rfl) (fun C E hl hX hQ => ?_)
  subst hl
  subst hX
  have eI0 : (va_up (va_up (va_up (va_up (va_up (va_up I 37 (va_up (I 37) 6 v_acts_count)) 38 v_acts_kinds) 39 v_acts_shires) 40 v_acts_terms) 41 v_acts_amounts) 42 v_acts_voidedBy) = I := by rw [zup_idE e_v_acts_count, zup_id, zup_idE e_v_acts_kinds, zup_idE e_v_acts_shires, zup_idE e_v_acts_terms, zup_idE e_v_acts_amounts, zup_idE e_v_acts_voidedBy]
  have eJ0 : J = J := rfl
  refine zb_S (S2 := ((va_up (va_up (va_up (va_up (va_up (va_up I 37 (va_up (I 37) 6 v_acts_count)) 38 v_acts_kinds) 39 v_acts_shires) 40 v_acts_terms) 41 v_acts_amounts) 42 v_acts_voidedBy), J, Rr, D)) (zS_eq eI0.symm eJ0.symm) ?_
  exact c_X11_annul_0 a1 rr y_v_acts_count y_v_acts_amounts y_v_acts_kinds y_v_acts_shires y_v_acts_terms y_v_acts_voidedBy E hQ v_acts_count v_acts_amounts v_acts_kinds v_acts_shires v_acts_terms v_acts_voidedBy h
-- ChequeredCloth.as
abbrev R_pK_as : Type := Int32 × Int32
def pK_as (a1 : Int32) (v_knownAt : Int32) (v_acts_count : Int32) : Option R_pK_as :=
  if a1 < (-1) then
    some (0, v_knownAt)
  else
    bd1 (pActs_size v_acts_count) fun rc1 =>
    if a1 ≤ rc1 then
      some (1, a1)
    else
      some (0, v_knownAt)
theorem dX11_as_0 : decode cX11_as 0 = .ok (.iload_n 1, 1) := by decide +kernel
theorem dX11_as_1 : decode cX11_as 1 = .ok (.iconst (-1), 1) := by decide +kernel
theorem dX11_as_2 : decode cX11_as 2 = .ok (.if_icmp .lt 14, 3) := by decide +kernel
theorem dX11_as_5 : decode cX11_as 5 = .ok (.iload_n 1, 1) := by decide +kernel
theorem dX11_as_6 : decode cX11_as 6 = .ok (.aload_n 0, 1) := by decide +kernel
theorem dX11_as_7 : decode cX11_as 7 = .ok (.getfield 37, 3) := by decide +kernel
theorem dX11_as_10 : decode cX11_as 10 = .ok (.invokevirtual 162, 3) := by decide +kernel
theorem dX11_as_13 : decode cX11_as 13 = .ok (.if_icmp .le 5, 3) := by decide +kernel
theorem dX11_as_16 : decode cX11_as 16 = .ok (.iconst 0, 1) := by decide +kernel
theorem dX11_as_17 : decode cX11_as 17 = .ok (.ireturn, 1) := by decide +kernel
theorem dX11_as_18 : decode cX11_as 18 = .ok (.aload_n 0, 1) := by decide +kernel
theorem dX11_as_19 : decode cX11_as 19 = .ok (.iload_n 1, 1) := by decide +kernel
theorem dX11_as_20 : decode cX11_as 20 = .ok (.putfield 9, 3) := by decide +kernel
theorem dX11_as_23 : decode cX11_as 23 = .ok (.iconst 1, 1) := by decide +kernel
theorem dX11_as_24 : decode cX11_as 24 = .ok (.ireturn, 1) := by decide +kernel
theorem zy_X11_as : zYv yX11_as cX11_as 2 (some .boolean) 1 := ⟨zw_971, zw_972, zw_1, zw_973, by decide, by decide, by decide⟩
theorem c_X11_as_0 {C : zC} {I : Nat → Nat → Int32} {J : Nat → Nat → Int64} {Rr : Nat → Nat → Option Nat} {D : zD} (a1 : Int32) (v_acts_count : Int32) (e_v_acts_count : I 37 6 = v_acts_count) (rr : Int32) (y_v_knownAt : Int32) (E : zE C RX11 cX11_as 2 (some .boolean) ({ frames := 1, cells := 0, slots := 0, locals := 20 } : Room)) (hQ : C.Q = zQi C ({ frames := 1, cells := 0, slots := 0, locals := 20 } : Room) rr ((va_up I 0 (va_up (I 0) 5 y_v_knownAt)), J, Rr, D)) (v_knownAt : Int32) (h : pK_as a1 v_knownAt v_acts_count = some (rr, y_v_knownAt)) : zB C (0, 0) 0 [(0, .ref (C.X.1 + 0)), (1, .int a1)] [] ((va_up I 0 (va_up (I 0) 5 v_knownAt)), J, Rr, D) := by
  refine zb_iload_n E dX11_as_0 1 rfl rfl ?_
  refine zb_iconst E dX11_as_1 (v := (-1)) rfl ?_
  refine zb_icmp_lt E dX11_as_2 (tgt := 16) rfl (fun hc => ?_) (fun hc => ?_)
  · have h := if_t h hc
    refine zb_iconst E dX11_as_16 (v := 0) rfl ?_
    obtain ⟨rfl, rfl⟩ := zinj2 h
    exact zb_zret E hQ (ty := .boolean) rfl rfl ⟨Nat.zero_le _, Nat.zero_le _⟩ dX11_as_17
  · have h := if_f h hc
    refine zb_iload_n E dX11_as_5 1 rfl rfl ?_
    refine zb_aload_n E dX11_as_6 0 rfl rfl ?_
    refine zb_get E 0 (by decide) (zF_0 C.X) rfl zin11 3 (by decide) zw_356 (v := .ref (C.X.1 + 37)) rfl dX11_as_7 ?_
    obtain ⟨rc1, hc_10, h⟩ := bd1_s h
    refine zb_cVi E [] 37 zy_X0_size zw_885 (by decide) (zF_37 _ _ _ _) rfl (c_X0_size v_acts_count (by exact e_v_acts_count) hc_10) (by decide) rfl rfl (by first | decide | simp [Value.category]) dX11_as_10 (cs2 := (0, 0)) rfl ?_
    refine zb_icmp_le E dX11_as_13 (tgt := 18) rfl (fun hc => ?_) (fun hc => ?_)
    · have h := if_t h hc
      refine zb_aload_n E dX11_as_18 0 rfl rfl ?_
      refine zb_iload_n E dX11_as_19 1 rfl rfl ?_
      refine zb_put E 0 (by decide) (zF_0 C.X) rfl zin11 5 (by decide) zw_358 tyX11 tyX11_ok nmX11 rfl rfl rfl (I2 := (va_up I 0 (va_up (I 0) 5 a1))) (J2 := J) ((zset11_5 C.X (va_up (I 0) 5 v_knownAt) (J 0) a1).trans (congrArg (fun g => zf11 C.X g (J 0)) zn1)) (by rw [zflen11]; decide) (fun j hj => ⟨(zup_n hj).trans (zup_n hj).symm, rfl⟩) dX11_as_20 ?_
      refine zb_iconst E dX11_as_23 (v := 1) rfl ?_
      obtain ⟨rfl, rfl⟩ := zinj2 h
      exact zb_zret E hQ (ty := .boolean) rfl rfl ⟨Nat.zero_le _, Nat.zero_le _⟩ dX11_as_24
    · have h := if_f h hc
      refine zb_iconst E dX11_as_16 (v := 0) rfl ?_
      obtain ⟨rfl, rfl⟩ := zinj2 h
      exact zb_zret E hQ (ty := .boolean) rfl rfl ⟨Nat.zero_le _, Nat.zero_le _⟩ dX11_as_17
theorem c_X11_as {l : Launch} {X : zX} {I : Nat → Nat → Int32} {J : Nat → Nat → Int64} {Rr : Nat → Nat → Option Nat} {D : zD} {a1 : Int32} (oI0 : Nat → Int32) (eoI0 : I 0 = oI0) (v_acts_count : Int32) (e_v_acts_count : I 37 6 = v_acts_count) (v_knownAt : Int32) (e_v_knownAt : I 0 5 = v_knownAt) {rr : Int32} {y_v_knownAt : Int32} (h : pK_as a1 v_knownAt v_acts_count = some (rr, y_v_knownAt)) : zMi l yX11_as cX11_as 2 (some .boolean) ({ frames := 1, cells := 0, slots := 0, locals := 20 } : Room) X [.ref (X.1 + 0), .int a1] (I, J, Rr, D) rr ((va_up I 0 (va_up oI0 5 y_v_knownAt)), J, Rr, D) := by
  subst eoI0
  refine zMi.of (by decide) (Nat.le_of_ble_eq_true rfl) (fun C E hl hX hQ => ?_)
  subst hl
  subst hX
  have eI0 : (va_up I 0 (va_up (I 0) 5 v_knownAt)) = I := by rw [zup_idE e_v_knownAt, zup_id]
  have eJ0 : J = J := rfl
  refine zb_S (S2 := ((va_up I 0 (va_up (I 0) 5 v_knownAt)), J, Rr, D)) (zS_eq eI0.symm eJ0.symm) ?_
  exact c_X11_as_0 a1 v_acts_count e_v_acts_count rr y_v_knownAt E hQ v_knownAt h
-- ChequeredCloth.moved
abbrev R_pK_moved : Type := Int32
def pK_moved (v_audit_movedTo : Int32) : Option R_pK_moved :=
  bd1 (pAudit_movedTo v_audit_movedTo) fun rc1 =>
  some rc1
theorem dX11_moved_0 : decode cX11_moved 0 = .ok (.aload_n 0, 1) := by decide +kernel
theorem dX11_moved_1 : decode cX11_moved 1 = .ok (.getfield 46, 3) := by decide +kernel
theorem dX11_moved_4 : decode cX11_moved 4 = .ok (.invokevirtual 192, 3) := by decide +kernel
theorem dX11_moved_7 : decode cX11_moved 7 = .ok (.ireturn, 1) := by decide +kernel
theorem zy_X11_moved : zYv yX11_moved cX11_moved 1 (some .int) 0 := ⟨zw_1133, zw_1134, zw_1, zw_1135, by decide, by decide, by decide⟩
theorem c_X11_moved_0 {C : zC} {I : Nat → Nat → Int32} {J : Nat → Nat → Int64} {Rr : Nat → Nat → Option Nat} {D : zD} (v_audit_movedTo : Int32) (e_v_audit_movedTo : I 44 9 = v_audit_movedTo) (rr : Int32) (E : zE C RX11 cX11_moved 1 (some .int) ({ frames := 1, cells := 0, slots := 0, locals := 20 } : Room)) (hQ : C.Q = zQi C ({ frames := 1, cells := 0, slots := 0, locals := 20 } : Room) rr (I, J, Rr, D)) (h : pK_moved v_audit_movedTo = some rr) : zB C (0, 0) 0 [(0, .ref (C.X.1 + 0))] [] (I, J, Rr, D) := by
  refine zb_aload_n E dX11_moved_0 0 rfl rfl ?_
  refine zb_get E 0 (by decide) (zF_0 C.X) rfl zin11 4 (by decide) zw_357 (v := .ref (C.X.1 + 44)) rfl dX11_moved_1 ?_
  obtain ⟨rc1, hc_4, h⟩ := bd1_s h
  refine zb_cVi E [] 44 zy_X1_movedTo zw_1136 (by decide) (zF_44 _ _ _ _) rfl (c_X1_movedTo v_audit_movedTo (by exact e_v_audit_movedTo) hc_4) (by decide) rfl rfl (by first | decide | simp [Value.category]) dX11_moved_4 (cs2 := (0, 0)) rfl ?_
  obtain rfl := zinj1 h
  exact zb_iret E hQ rfl ⟨Nat.zero_le _, Nat.zero_le _⟩ dX11_moved_7
theorem c_X11_moved {l : Launch} {X : zX} {I : Nat → Nat → Int32} {J : Nat → Nat → Int64} {Rr : Nat → Nat → Option Nat} {D : zD} (v_audit_movedTo : Int32) (e_v_audit_movedTo : I 44 9 = v_audit_movedTo) {rr : Int32} (h : pK_moved v_audit_movedTo = some rr) : zMi l yX11_moved cX11_moved 1 (some .int) ({ frames := 1, cells := 0, slots := 0, locals := 20 } : Room) X [.ref (X.1 + 0)] (I, J, Rr, D) rr (I, J, Rr, D) := by
  refine zMi.of (by decide) (Nat.le_of_ble_eq_true rfl) (fun C E hl hX hQ => ?_)
  subst hl
  subst hX
  have eI0 : I = I := rfl
  have eJ0 : J = J := rfl
  refine zb_S (S2 := (I, J, Rr, D)) (zS_eq eI0.symm eJ0.symm) ?_
  exact c_X11_moved_0 v_audit_movedTo e_v_audit_movedTo rr E hQ h
-- ChequeredCloth.all
abbrev R_pK_all : Type := Int32
def pK_all (N : Nat) (a1 : Int32) (v_knownAt : Int32) (v_acts_count : Int32) (v_chest_sizes : (Nat → Int32)) : Option R_pK_all :=
  if a1 = 0 then
    bd1 (pActs_size v_acts_count) fun rc1 =>
    some rc1
  else if a1 = 1 then
    bd1 (pK_presentAct v_knownAt v_acts_count) fun rc2 =>
    some rc2
  else if a1 = 2 then
    bd1 (pChest_halvesFrom N 0 v_chest_sizes) fun rc3 =>
    some rc3
  else if a1 = 3 then
    bd1 (pChest_halvesFrom N 10 v_chest_sizes) fun rc4 =>
    some rc4
  else
    some (-1)
theorem dX11_all_0 : decode cX11_all 0 = .ok (.iload_n 1, 1) := by decide +kernel
theorem dX11_all_1 : decode cX11_all 1 = .ok (.tableswitch 63 0 3 #[31, 39, 44, 53], 31) := by decide +kernel
theorem dX11_all_32 : decode cX11_all 32 = .ok (.aload_n 0, 1) := by decide +kernel
theorem dX11_all_33 : decode cX11_all 33 = .ok (.getfield 37, 3) := by decide +kernel
theorem dX11_all_36 : decode cX11_all 36 = .ok (.invokevirtual 162, 3) := by decide +kernel
theorem dX11_all_39 : decode cX11_all 39 = .ok (.ireturn, 1) := by decide +kernel
theorem dX11_all_40 : decode cX11_all 40 = .ok (.aload_n 0, 1) := by decide +kernel
theorem dX11_all_41 : decode cX11_all 41 = .ok (.invokevirtual 143, 3) := by decide +kernel
theorem dX11_all_44 : decode cX11_all 44 = .ok (.ireturn, 1) := by decide +kernel
theorem dX11_all_45 : decode cX11_all 45 = .ok (.aload_n 0, 1) := by decide +kernel
theorem dX11_all_46 : decode cX11_all 46 = .ok (.getfield 23, 3) := by decide +kernel
theorem dX11_all_49 : decode cX11_all 49 = .ok (.iconst 0, 1) := by decide +kernel
theorem dX11_all_50 : decode cX11_all 50 = .ok (.invokevirtual 199, 3) := by decide +kernel
theorem dX11_all_53 : decode cX11_all 53 = .ok (.ireturn, 1) := by decide +kernel
theorem dX11_all_54 : decode cX11_all 54 = .ok (.aload_n 0, 1) := by decide +kernel
theorem dX11_all_55 : decode cX11_all 55 = .ok (.getfield 23, 3) := by decide +kernel
theorem dX11_all_58 : decode cX11_all 58 = .ok (.bipush 10, 2) := by decide +kernel
theorem dX11_all_60 : decode cX11_all 60 = .ok (.invokevirtual 199, 3) := by decide +kernel
theorem dX11_all_63 : decode cX11_all 63 = .ok (.ireturn, 1) := by decide +kernel
theorem dX11_all_64 : decode cX11_all 64 = .ok (.iconst (-1), 1) := by decide +kernel
theorem dX11_all_65 : decode cX11_all 65 = .ok (.ireturn, 1) := by decide +kernel
theorem zy_X11_all : zYv yX11_all cX11_all 2 (some .int) 1 := ⟨zw_1153, zw_1154, zw_1, zw_1155, by decide, by decide, by decide⟩
theorem c_X11_all_0 {C : zC} {I : Nat → Nat → Int32} {J : Nat → Nat → Int64} {Rr : Nat → Nat → Option Nat} {D : zD} (N : Nat) (a1 : Int32) (v_knownAt : Int32) (e_v_knownAt : I 0 5 = v_knownAt) (v_acts_count : Int32) (e_v_acts_count : I 37 6 = v_acts_count) (v_chest_sizes : (Nat → Int32)) (e_v_chest_sizes : I 8 = v_chest_sizes) (rr : Int32) (E : zE C RX11 cX11_all 2 (some .int) ({ frames := 3, cells := 0, slots := 0, locals := 64 } : Room)) (hQ : C.Q = zQi C ({ frames := 3, cells := 0, slots := 0, locals := 64 } : Room) rr (I, J, Rr, D)) (h : pK_all N a1 v_knownAt v_acts_count v_chest_sizes = some rr) : zB C (0, 0) 0 [(0, .ref (C.X.1 + 0)), (1, .int a1)] [] (I, J, Rr, D) := by
  refine zb_iload_n E dX11_all_0 1 rfl rfl ?_
  by_cases hc0 : a1 = 0
  · have h := if_t h hc0
    refine zb_tableIn E dX11_all_1 (tgt := 32) (by rw [hc0]; decide) (by rw [hc0]; decide) (by rw [hc0]; rfl) rfl ?_
    refine zb_aload_n E dX11_all_32 0 rfl rfl ?_
    refine zb_get E 0 (by decide) (zF_0 C.X) rfl zin11 3 (by decide) zw_356 (v := .ref (C.X.1 + 37)) rfl dX11_all_33 ?_
    obtain ⟨rc1, hc_36, h⟩ := bd1_s h
    refine zb_cVi E [] 37 zy_X0_size zw_885 (by decide) (zF_37 _ _ _ _) rfl (c_X0_size v_acts_count (by exact e_v_acts_count) hc_36) (by decide) rfl rfl (by first | decide | simp [Value.category]) dX11_all_36 (cs2 := (0, 0)) rfl ?_
    obtain rfl := zinj1 h
    exact zb_iret E hQ rfl ⟨Nat.zero_le _, Nat.zero_le _⟩ dX11_all_39
  have h := if_f h hc0
  by_cases hc1 : a1 = 1
  · have h := if_t h hc1
    refine zb_tableIn E dX11_all_1 (tgt := 40) (by rw [hc1]; decide) (by rw [hc1]; decide) (by rw [hc1]; rfl) rfl ?_
    refine zb_aload_n E dX11_all_40 0 rfl rfl ?_
    obtain ⟨rc2, hc_41, h⟩ := bd1_s h
    refine zb_cVi E [] 0 zy_X11_presentAct zw_881 (by decide) (zF_0 _ _ _ _) rfl (c_X11_presentAct v_knownAt (by exact e_v_knownAt) v_acts_count (by exact e_v_acts_count) hc_41) (by decide) rfl rfl (by first | decide | simp [Value.category]) dX11_all_41 (cs2 := (0, 0)) rfl ?_
    obtain rfl := zinj1 h
    exact zb_iret E hQ rfl ⟨Nat.zero_le _, Nat.zero_le _⟩ dX11_all_44
  have h := if_f h hc1
  by_cases hc2 : a1 = 2
  · have h := if_t h hc2
    refine zb_tableIn E dX11_all_1 (tgt := 45) (by rw [hc2]; decide) (by rw [hc2]; decide) (by rw [hc2]; rfl) rfl ?_
    refine zb_aload_n E dX11_all_45 0 rfl rfl ?_
    refine zb_get E 0 (by decide) (zF_0 C.X) rfl zin11 1 (by decide) zw_354 (v := .ref (C.X.1 + 5)) rfl dX11_all_46 ?_
    refine zb_iconst E dX11_all_49 (v := 0) rfl ?_
    obtain ⟨rc3, hc_50, h⟩ := bd1_s h
    refine zb_cVi E [.int 0] 5 zy_X2_halvesFrom zw_1156 (by decide) (zF_5 _ _ _ _) rfl (c_X2_halvesFrom v_chest_sizes (by exact e_v_chest_sizes) hc_50) (by decide) rfl rfl (by first | decide | simp [Value.category]) dX11_all_50 (cs2 := (0, 0)) rfl ?_
    obtain rfl := zinj1 h
    exact zb_iret E hQ rfl ⟨Nat.zero_le _, Nat.zero_le _⟩ dX11_all_53
  have h := if_f h hc2
  by_cases hc3 : a1 = 3
  · have h := if_t h hc3
    refine zb_tableIn E dX11_all_1 (tgt := 54) (by rw [hc3]; decide) (by rw [hc3]; decide) (by rw [hc3]; rfl) rfl ?_
    refine zb_aload_n E dX11_all_54 0 rfl rfl ?_
    refine zb_get E 0 (by decide) (zF_0 C.X) rfl zin11 1 (by decide) zw_354 (v := .ref (C.X.1 + 5)) rfl dX11_all_55 ?_
    refine zb_bipush E dX11_all_58 (v := 10) rfl ?_
    obtain ⟨rc4, hc_60, h⟩ := bd1_s h
    refine zb_cVi E [.int 10] 5 zy_X2_halvesFrom zw_1156 (by decide) (zF_5 _ _ _ _) rfl (c_X2_halvesFrom v_chest_sizes (by exact e_v_chest_sizes) hc_60) (by decide) rfl rfl (by first | decide | simp [Value.category]) dX11_all_60 (cs2 := (0, 0)) rfl ?_
    obtain rfl := zinj1 h
    exact zb_iret E hQ rfl ⟨Nat.zero_le _, Nat.zero_le _⟩ dX11_all_63
  have h := if_f h hc3
  have hz0 : ¬ (a1).toInt = (0 : Int) := fun e => hc0 (Int32.toInt_inj.mp (e.trans (by decide)))
  have hz1 : ¬ (a1).toInt = (1 : Int) := fun e => hc1 (Int32.toInt_inj.mp (e.trans (by decide)))
  have hz2 : ¬ (a1).toInt = (2 : Int) := fun e => hc2 (Int32.toInt_inj.mp (e.trans (by decide)))
  have hz3 : ¬ (a1).toInt = (3 : Int) := fun e => hc3 (Int32.toInt_inj.mp (e.trans (by decide)))
  refine zb_tableOut E dX11_all_1 (tgt := 64) (by omega) rfl ?_
  refine zb_iconst E dX11_all_64 (v := (-1)) rfl ?_
  obtain rfl := zinj1 h
  exact zb_iret E hQ rfl ⟨Nat.zero_le _, Nat.zero_le _⟩ dX11_all_65
theorem c_X11_all {l : Launch} {X : zX} {I : Nat → Nat → Int32} {J : Nat → Nat → Int64} {Rr : Nat → Nat → Option Nat} {D : zD} {N : Nat} {a1 : Int32} (v_knownAt : Int32) (e_v_knownAt : I 0 5 = v_knownAt) (v_acts_count : Int32) (e_v_acts_count : I 37 6 = v_acts_count) (v_chest_sizes : (Nat → Int32)) (e_v_chest_sizes : I 8 = v_chest_sizes) {rr : Int32} (h : pK_all N a1 v_knownAt v_acts_count v_chest_sizes = some rr) : zMi l yX11_all cX11_all 2 (some .int) ({ frames := 3, cells := 0, slots := 0, locals := 64 } : Room) X [.ref (X.1 + 0), .int a1] (I, J, Rr, D) rr (I, J, Rr, D) := by
  refine zMi.of (by decide) (Nat.le_of_ble_eq_true rfl) (fun C E hl hX hQ => ?_)
  subst hl
  subst hX
  have eI0 : I = I := rfl
  have eJ0 : J = J := rfl
  refine zb_S (S2 := (I, J, Rr, D)) (zS_eq eI0.symm eJ0.symm) ?_
  exact c_X11_all_0 N a1 v_knownAt e_v_knownAt v_acts_count e_v_acts_count v_chest_sizes e_v_chest_sizes rr E hQ h
