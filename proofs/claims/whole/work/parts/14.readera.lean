set_option maxHeartbeats 4000000
set_option maxRecDepth 100000
-- ChequeredCloth$Reader.hasRoom
theorem dX7_hasRoom_0 : decode cX7_hasRoom 0 = .ok (.aload_n 0, 1) := by decide +kernel
theorem dX7_hasRoom_1 : decode cX7_hasRoom 1 = .ok (.getfield 29, 3) := by decide +kernel
theorem dX7_hasRoom_4 : decode cX7_hasRoom 4 = .ok (.bipush 20, 2) := by decide +kernel
theorem dX7_hasRoom_6 : decode cX7_hasRoom 6 = .ok (.iadd, 1) := by decide +kernel
theorem dX7_hasRoom_7 : decode cX7_hasRoom 7 = .ok (.sipush 600, 3) := by decide +kernel
theorem dX7_hasRoom_10 : decode cX7_hasRoom 10 = .ok (.if_icmp .gt 7, 3) := by decide +kernel
theorem dX7_hasRoom_13 : decode cX7_hasRoom 13 = .ok (.iconst 1, 1) := by decide +kernel
theorem dX7_hasRoom_14 : decode cX7_hasRoom 14 = .ok (.goto 4, 3) := by decide +kernel
theorem dX7_hasRoom_17 : decode cX7_hasRoom 17 = .ok (.iconst 0, 1) := by decide +kernel
theorem dX7_hasRoom_18 : decode cX7_hasRoom 18 = .ok (.ireturn, 1) := by decide +kernel
theorem zy_X7_hasRoom : zYv yX7_hasRoom cX7_hasRoom 1 (some .boolean) 0 := ⟨zw_377, zw_378, zw_6, zw_379, by decide, by decide, by decide⟩
theorem c_X7_hasRoom_0 {C : zC} {I : Nat → Nat → Int32} {J : Nat → Nat → Int64} {Rr : Nat → Nat → Option Nat} {D : zD} (v_length : Int32) (e_v_length : I 33 3 = v_length) (rr : Int32) (E : zE C RX7 cX7_hasRoom 1 (some .boolean) ({ frames := 0, cells := 0, slots := 0, locals := 0 } : Room)) (hQ : C.Q = zQi C ({ frames := 0, cells := 0, slots := 0, locals := 0 } : Room) rr (I, J, Rr, D)) (h : pReader_hasRoom v_length = some rr) : zB C (0, 0) 0 [(0, .ref (C.X.1 + 33))] [] (I, J, Rr, D) := by
  refine zb_aload_n E dX7_hasRoom_0 0 rfl rfl ?_
  refine zb_get E 33 (by decide) (zF_33 C.X) rfl zin7 3 (by decide) zw_141 (v := .int v_length) (by exact congrArg (fun z => some (Value.int z)) e_v_length) dX7_hasRoom_1 ?_
  refine zb_bipush E dX7_hasRoom_4 (v := 20) rfl ?_
  refine zb_iadd E dX7_hasRoom_6 ?_
  refine zb_sipush E dX7_hasRoom_7 (v := 600) rfl ?_
  refine zb_icmp_gt E dX7_hasRoom_10 (tgt := 17) rfl (fun hc => ?_) (fun hc => ?_)
  · have h := if_t h hc
    refine zb_iconst E dX7_hasRoom_17 (v := 0) rfl ?_
    obtain rfl := zinj1 h
    exact zb_zret E hQ (ty := .boolean) rfl rfl ⟨Nat.zero_le _, Nat.zero_le _⟩ dX7_hasRoom_18
  · have h := if_f h hc
    refine zb_iconst E dX7_hasRoom_13 (v := 1) rfl ?_
    refine zb_goto E dX7_hasRoom_14 (tgt := 18) rfl ?_
    obtain rfl := zinj1 h
    exact zb_zret E hQ (ty := .boolean) rfl rfl ⟨Nat.zero_le _, Nat.zero_le _⟩ dX7_hasRoom_18
theorem c_X7_hasRoom {l : Launch} {X : zX} {I : Nat → Nat → Int32} {J : Nat → Nat → Int64} {Rr : Nat → Nat → Option Nat} {D : zD} (v_length : Int32) (e_v_length : I 33 3 = v_length) {rr : Int32} (h : pReader_hasRoom v_length = some rr) : zMi l yX7_hasRoom cX7_hasRoom 1 (some .boolean) ({ frames := 0, cells := 0, slots := 0, locals := 0 } : Room) X [.ref (X.1 + 33)] (I, J, Rr, D) rr (I, J, Rr, D) := by
  refine zMi.of (by decide) (Nat.le_of_ble_eq_true rfl) (fun C E hl hX hQ => ?_)
  subst hl
  subst hX
  have eI0 : I = I := rfl
  have eJ0 : J = J := rfl
  refine zb_S (S2 := (I, J, Rr, D)) (zS_eq eI0.symm eJ0.symm) ?_
  exact c_X7_hasRoom_0 v_length e_v_length rr E hQ h
-- ChequeredCloth$Reader.append
theorem dX7_append_0 : decode cX7_append 0 = .ok (.bipush 24, 2) := by decide +kernel
theorem dX7_append_2 : decode cX7_append 2 = .ok (.istore_n 2, 1) := by decide +kernel
theorem dX7_append_3 : decode cX7_append 3 = .ok (.iload_n 2, 1) := by decide +kernel
theorem dX7_append_4 : decode cX7_append 4 = .ok (.ifCond .lt 46, 3) := by decide +kernel
theorem dX7_append_7 : decode cX7_append 7 = .ok (.aload_n 0, 1) := by decide +kernel
theorem dX7_append_8 : decode cX7_append 8 = .ok (.getfield 29, 3) := by decide +kernel
theorem dX7_append_11 : decode cX7_append 11 = .ok (.sipush 600, 3) := by decide +kernel
theorem dX7_append_14 : decode cX7_append 14 = .ok (.if_icmp .ge 36, 3) := by decide +kernel
theorem dX7_append_17 : decode cX7_append 17 = .ok (.aload_n 0, 1) := by decide +kernel
theorem dX7_append_18 : decode cX7_append 18 = .ok (.getfield 11, 3) := by decide +kernel
theorem dX7_append_21 : decode cX7_append 21 = .ok (.aload_n 0, 1) := by decide +kernel
theorem dX7_append_22 : decode cX7_append 22 = .ok (.getfield 29, 3) := by decide +kernel
theorem dX7_append_25 : decode cX7_append 25 = .ok (.iload_n 1, 1) := by decide +kernel
theorem dX7_append_26 : decode cX7_append 26 = .ok (.iload_n 2, 1) := by decide +kernel
theorem dX7_append_27 : decode cX7_append 27 = .ok (.iushr, 1) := by decide +kernel
theorem dX7_append_28 : decode cX7_append 28 = .ok (.sipush 255, 3) := by decide +kernel
theorem dX7_append_31 : decode cX7_append 31 = .ok (.iand, 1) := by decide +kernel
theorem dX7_append_32 : decode cX7_append 32 = .ok (.i2c, 1) := by decide +kernel
theorem dX7_append_33 : decode cX7_append 33 = .ok (.castore, 1) := by decide +kernel
theorem dX7_append_34 : decode cX7_append 34 = .ok (.aload_n 0, 1) := by decide +kernel
theorem dX7_append_35 : decode cX7_append 35 = .ok (.dup, 1) := by decide +kernel
theorem dX7_append_36 : decode cX7_append 36 = .ok (.getfield 29, 3) := by decide +kernel
theorem dX7_append_39 : decode cX7_append 39 = .ok (.iconst 1, 1) := by decide +kernel
theorem dX7_append_40 : decode cX7_append 40 = .ok (.iadd, 1) := by decide +kernel
theorem dX7_append_41 : decode cX7_append 41 = .ok (.putfield 29, 3) := by decide +kernel
theorem dX7_append_44 : decode cX7_append 44 = .ok (.iinc 2 (-8), 3) := by decide +kernel
theorem dX7_append_47 : decode cX7_append 47 = .ok (.goto (-44), 3) := by decide +kernel
theorem dX7_append_50 : decode cX7_append 50 = .ok (.aload_n 0, 1) := by decide +kernel
theorem dX7_append_51 : decode cX7_append 51 = .ok (.getfield 29, 3) := by decide +kernel
theorem dX7_append_54 : decode cX7_append 54 = .ok (.ireturn, 1) := by decide +kernel
theorem zy_X7_append : zYv yX7_append cX7_append 3 (some .int) 1 := ⟨zw_381, zw_382, zw_6, zw_383, by decide, by decide, by decide⟩
theorem c_X7_append_b3 {C : zC} {I : Nat → Nat → Int32} {J : Nat → Nat → Int64} {Rr : Nat → Nat → Option Nat} {D : zD} (N : Nat) (a1 : Int32) (rr : Int32) (y_v_length : Int32) (y_v_tape : (Nat → Int32)) (E : zE C RX7 cX7_append 3 (some .int) ({ frames := 0, cells := 0, slots := 0, locals := 0 } : Room)) (hQ : C.Q = zQi C ({ frames := 0, cells := 0, slots := 0, locals := 0 } : Room) rr ((va_up (va_up I 33 (va_up (I 33) 3 y_v_length)) 34 y_v_tape), J, Rr, D)) (k50 : Int32 → (Nat → Int32) → Option R_pReader_append) (hk50 : ∀ (v_length : Int32) (v_tape : (Nat → Int32)), k50 v_length v_tape = some (rr, y_v_length, y_v_tape) → zB C (0, 0) 50 [(0, .ref (C.X.1 + 33))] [] ((va_up (va_up I 33 (va_up (I 33) 3 v_length)) 34 v_tape), J, Rr, D)) : ∀ (n9 : Nat) (x2 : Int32) (v_length : Int32) (v_tape : (Nat → Int32)), pReader_append_b3 N a1 k50 n9 x2 v_length v_tape = some (rr, y_v_length, y_v_tape) → zB C (0, 0) 3 [(0, .ref (C.X.1 + 33)), (1, .int a1), (2, .int x2)] [] ((va_up (va_up I 33 (va_up (I 33) 3 v_length)) 34 v_tape), J, Rr, D) := by
  refine zlp3_ind (P := fun (x2 : Int32) (v_length : Int32) (v_tape : (Nat → Int32)) => zB C (0, 0) 3 [(0, .ref (C.X.1 + 33)), (1, .int a1), (2, .int x2)] [] ((va_up (va_up I 33 (va_up (I 33) 3 v_length)) 34 v_tape), J, Rr, D)) (fun self ih => ?_)
  intro x2 v_length v_tape h
  refine zb_iload_n E dX7_append_3 2 rfl rfl ?_
  refine zb_if_lt E dX7_append_4 (tgt := 50) rfl (fun hc => ?_) (fun hc => ?_)
  · have h := if_t h hc
    refine zb_sub [0] rfl ?_
    exact hk50 v_length v_tape h
  · have h := if_f h hc
    refine zb_aload_n E dX7_append_7 0 rfl rfl ?_
    refine zb_get E 33 (by decide) (zF_33 C.X) rfl zin7 3 (by decide) zw_141 (v := .int v_length) rfl dX7_append_8 ?_
    refine zb_sipush E dX7_append_11 (v := 600) rfl ?_
    refine zb_icmp_ge E dX7_append_14 (tgt := 50) rfl (fun hc => ?_) (fun hc => ?_)
    · have h := if_t h hc
      refine zb_sub [0] rfl ?_
      exact hk50 v_length v_tape h
    · have h := if_f h hc
      refine zb_aload_n E dX7_append_17 0 rfl rfl ?_
      refine zb_get E 33 (by decide) (zF_33 C.X) rfl zin7 0 (by decide) zw_138 (v := .ref (C.X.1 + 34)) rfl dX7_append_18 ?_
      refine zb_aload_n E dX7_append_21 0 rfl rfl ?_
      refine zb_get E 33 (by decide) (zF_33 C.X) rfl zin7 3 (by decide) zw_141 (v := .int v_length) rfl dX7_append_22 ?_
      refine zb_iload_n E dX7_append_25 1 rfl rfl ?_
      refine zb_iload_n E dX7_append_26 2 rfl rfl ?_
      refine zb_iushr E dX7_append_27 ?_
      refine zb_sipush E dX7_append_28 (v := 255) rfl ?_
      refine zb_iand E dX7_append_31 ?_
      refine zb_i2c E dX7_append_32 ?_
      obtain ⟨g1, h⟩ := gd_s h
      refine zb_cast E 34 (by decide) zF_34 (f := v_tape) rfl (ib_in g1) dX7_append_33 (I2 := (va_up (va_up I 33 (va_up (I 33) 3 v_length)) 34 (upd v_tape (ix v_length) (nC (i2c ((iush a1 x2) &&& 255)))))) zn1 ?_
      refine zb_aload_n E dX7_append_34 0 rfl rfl ?_
      refine zb_dup E dX7_append_35 rfl ?_
      refine zb_get E 33 (by decide) (zF_33 C.X) rfl zin7 3 (by decide) zw_141 (v := .int v_length) rfl dX7_append_36 ?_
      refine zb_iconst E dX7_append_39 (v := 1) rfl ?_
      refine zb_iadd E dX7_append_40 ?_
      refine zb_put E 33 (by decide) (zF_33 C.X) rfl zin7 3 (by decide) zw_141 tyX7 tyX7_ok nmX7 rfl rfl rfl (I2 := (va_up (va_up I 33 (va_up (I 33) 3 (v_length + 1))) 34 (upd v_tape (ix v_length) (nC (i2c ((iush a1 x2) &&& 255)))))) (J2 := J) ((zset7_3 C.X (va_up (I 33) 3 v_length) (J 33) (v_length + 1)).trans (congrArg (fun g => zf7 C.X g (J 33)) zn1)) (by rw [zflen7]; decide) (fun j hj => ⟨zup_cg ((zup_n hj).trans (zup_n hj).symm), rfl⟩) dX7_append_41 ?_
      refine zb_iinc E dX7_append_44 2 rfl (v := (x2 + (-8))) rfl (by decide) (lv2 := [(2, .int (x2 + (-8))), (0, .ref (C.X.1 + 33)), (1, .int a1)]) rfl ?_
      refine zb_goto E dX7_append_47 (tgt := 3) rfl ?_
      refine zb_sub [1, 2, 0] rfl ?_
      exact ih (x2 + (-8)) (v_length + 1) (upd v_tape (ix v_length) (nC (i2c ((iush a1 x2) &&& 255)))) h
theorem c_X7_append_b50 {C : zC} {I : Nat → Nat → Int32} {J : Nat → Nat → Int64} {Rr : Nat → Nat → Option Nat} {D : zD} (N : Nat) (a1 : Int32) (rr : Int32) (y_v_length : Int32) (y_v_tape : (Nat → Int32)) (E : zE C RX7 cX7_append 3 (some .int) ({ frames := 0, cells := 0, slots := 0, locals := 0 } : Room)) (hQ : C.Q = zQi C ({ frames := 0, cells := 0, slots := 0, locals := 0 } : Room) rr ((va_up (va_up I 33 (va_up (I 33) 3 y_v_length)) 34 y_v_tape), J, Rr, D)) (v_length : Int32) (v_tape : (Nat → Int32)) (h : pReader_append_b50 N a1 v_length v_tape = some (rr, y_v_length, y_v_tape)) : zB C (0, 0) 50 [(0, .ref (C.X.1 + 33))] [] ((va_up (va_up I 33 (va_up (I 33) 3 v_length)) 34 v_tape), J, Rr, D) := by
  refine zb_aload_n E dX7_append_50 0 rfl rfl ?_
  refine zb_get E 33 (by decide) (zF_33 C.X) rfl zin7 3 (by decide) zw_141 (v := .int v_length) rfl dX7_append_51 ?_
  obtain ⟨rfl, rfl, rfl⟩ := zinj3 h
  exact zb_iret E hQ rfl ⟨Nat.zero_le _, Nat.zero_le _⟩ dX7_append_54
theorem c_X7_append_0 {C : zC} {I : Nat → Nat → Int32} {J : Nat → Nat → Int64} {Rr : Nat → Nat → Option Nat} {D : zD} (N : Nat) (a1 : Int32) (rr : Int32) (y_v_length : Int32) (y_v_tape : (Nat → Int32)) (E : zE C RX7 cX7_append 3 (some .int) ({ frames := 0, cells := 0, slots := 0, locals := 0 } : Room)) (hQ : C.Q = zQi C ({ frames := 0, cells := 0, slots := 0, locals := 0 } : Room) rr ((va_up (va_up I 33 (va_up (I 33) 3 y_v_length)) 34 y_v_tape), J, Rr, D)) (v_length : Int32) (v_tape : (Nat → Int32)) (h : pReader_append N a1 v_length v_tape = some (rr, y_v_length, y_v_tape)) : zB C (0, 0) 0 [(0, .ref (C.X.1 + 33)), (1, .int a1)] [] ((va_up (va_up I 33 (va_up (I 33) 3 v_length)) 34 v_tape), J, Rr, D) := by
  refine zb_bipush E dX7_append_0 (v := 24) rfl ?_
  refine zb_istore_n E dX7_append_2 rfl (by decide) (lv2 := [(2, .int 24), (0, .ref (C.X.1 + 33)), (1, .int a1)]) rfl ?_
  refine zb_sub [1, 2, 0] rfl ?_
  exact c_X7_append_b3 N a1 rr y_v_length y_v_tape E hQ _ (fun v_length_z1 v_tape_z2 h => c_X7_append_b50 N a1 rr y_v_length y_v_tape E hQ v_length_z1 v_tape_z2 h) _ 24 v_length v_tape h
theorem c_X7_append {l : Launch} {X : zX} {I : Nat → Nat → Int32} {J : Nat → Nat → Int64} {Rr : Nat → Nat → Option Nat} {D : zD} {N : Nat} {a1 : Int32} (oI33 : Nat → Int32) (eoI33 : I 33 = oI33) (v_length : Int32) (e_v_length : I 33 3 = v_length) (v_tape : (Nat → Int32)) (e_v_tape : I 34 = v_tape) {rr : Int32} {y_v_length : Int32} {y_v_tape : (Nat → Int32)} (h : pReader_append N a1 v_length v_tape = some (rr, y_v_length, y_v_tape)) : zMi l yX7_append cX7_append 3 (some .int) ({ frames := 0, cells := 0, slots := 0, locals := 0 } : Room) X [.ref (X.1 + 33), .int a1] (I, J, Rr, D) rr ((va_up (va_up I 33 (va_up oI33 3 y_v_length)) 34 y_v_tape), J, Rr, D) := by
  subst eoI33
  refine zMi.of (by decide) (Nat.le_of_ble_eq_true rfl) (fun C E hl hX hQ => ?_)
  subst hl
  subst hX
  have eI0 : (va_up (va_up I 33 (va_up (I 33) 3 v_length)) 34 v_tape) = I := by rw [zup_idE e_v_length, zup_id, zup_idE e_v_tape]
  have eJ0 : J = J := rfl
  refine zb_S (S2 := ((va_up (va_up I 33 (va_up (I 33) 3 v_length)) 34 v_tape), J, Rr, D)) (zS_eq eI0.symm eJ0.symm) ?_
  exact c_X7_append_0 N a1 rr y_v_length y_v_tape E hQ v_length v_tape h
-- ChequeredCloth$Reader.shorten
theorem dX7_shorten_0 : decode cX7_shorten 0 = .ok (.iload_n 1, 1) := by decide +kernel
theorem dX7_shorten_1 : decode cX7_shorten 1 = .ok (.ifCond .lt 11, 3) := by decide +kernel
theorem dX7_shorten_4 : decode cX7_shorten 4 = .ok (.iload_n 1, 1) := by decide +kernel
theorem dX7_shorten_5 : decode cX7_shorten 5 = .ok (.aload_n 0, 1) := by decide +kernel
theorem dX7_shorten_6 : decode cX7_shorten 6 = .ok (.getfield 29, 3) := by decide +kernel
theorem dX7_shorten_9 : decode cX7_shorten 9 = .ok (.if_icmp .le 5, 3) := by decide +kernel
theorem dX7_shorten_12 : decode cX7_shorten 12 = .ok (.iconst 0, 1) := by decide +kernel
theorem dX7_shorten_13 : decode cX7_shorten 13 = .ok (.ireturn, 1) := by decide +kernel
theorem dX7_shorten_14 : decode cX7_shorten 14 = .ok (.aload_n 0, 1) := by decide +kernel
theorem dX7_shorten_15 : decode cX7_shorten 15 = .ok (.iload_n 1, 1) := by decide +kernel
theorem dX7_shorten_16 : decode cX7_shorten 16 = .ok (.putfield 29, 3) := by decide +kernel
theorem dX7_shorten_19 : decode cX7_shorten 19 = .ok (.iconst 1, 1) := by decide +kernel
theorem dX7_shorten_20 : decode cX7_shorten 20 = .ok (.ireturn, 1) := by decide +kernel
theorem zy_X7_shorten : zYv yX7_shorten cX7_shorten 2 (some .boolean) 1 := ⟨zw_389, zw_390, zw_6, zw_391, by decide, by decide, by decide⟩
theorem c_X7_shorten_0 {C : zC} {I : Nat → Nat → Int32} {J : Nat → Nat → Int64} {Rr : Nat → Nat → Option Nat} {D : zD} (a1 : Int32) (rr : Int32) (y_v_length : Int32) (E : zE C RX7 cX7_shorten 2 (some .boolean) ({ frames := 0, cells := 0, slots := 0, locals := 0 } : Room)) (hQ : C.Q = zQi C ({ frames := 0, cells := 0, slots := 0, locals := 0 } : Room) rr ((va_up I 33 (va_up (I 33) 3 y_v_length)), J, Rr, D)) (v_length : Int32) (h : pReader_shorten a1 v_length = some (rr, y_v_length)) : zB C (0, 0) 0 [(0, .ref (C.X.1 + 33)), (1, .int a1)] [] ((va_up I 33 (va_up (I 33) 3 v_length)), J, Rr, D) := by
  refine zb_iload_n E dX7_shorten_0 1 rfl rfl ?_
  refine zb_if_lt E dX7_shorten_1 (tgt := 12) rfl (fun hc => ?_) (fun hc => ?_)
  · have h := if_t h hc
    refine zb_iconst E dX7_shorten_12 (v := 0) rfl ?_
    obtain ⟨rfl, rfl⟩ := zinj2 h
    exact zb_zret E hQ (ty := .boolean) rfl rfl ⟨Nat.zero_le _, Nat.zero_le _⟩ dX7_shorten_13
  · have h := if_f h hc
    refine zb_iload_n E dX7_shorten_4 1 rfl rfl ?_
    refine zb_aload_n E dX7_shorten_5 0 rfl rfl ?_
    refine zb_get E 33 (by decide) (zF_33 C.X) rfl zin7 3 (by decide) zw_141 (v := .int v_length) rfl dX7_shorten_6 ?_
    refine zb_icmp_le E dX7_shorten_9 (tgt := 14) rfl (fun hc => ?_) (fun hc => ?_)
    · have h := if_t h hc
      refine zb_aload_n E dX7_shorten_14 0 rfl rfl ?_
      refine zb_iload_n E dX7_shorten_15 1 rfl rfl ?_
      refine zb_put E 33 (by decide) (zF_33 C.X) rfl zin7 3 (by decide) zw_141 tyX7 tyX7_ok nmX7 rfl rfl rfl (I2 := (va_up I 33 (va_up (I 33) 3 a1))) (J2 := J) ((zset7_3 C.X (va_up (I 33) 3 v_length) (J 33) a1).trans (congrArg (fun g => zf7 C.X g (J 33)) zn1)) (by rw [zflen7]; decide) (fun j hj => ⟨(zup_n hj).trans (zup_n hj).symm, rfl⟩) dX7_shorten_16 ?_
      refine zb_iconst E dX7_shorten_19 (v := 1) rfl ?_
      obtain ⟨rfl, rfl⟩ := zinj2 h
      exact zb_zret E hQ (ty := .boolean) rfl rfl ⟨Nat.zero_le _, Nat.zero_le _⟩ dX7_shorten_20
    · have h := if_f h hc
      refine zb_iconst E dX7_shorten_12 (v := 0) rfl ?_
      obtain ⟨rfl, rfl⟩ := zinj2 h
      exact zb_zret E hQ (ty := .boolean) rfl rfl ⟨Nat.zero_le _, Nat.zero_le _⟩ dX7_shorten_13
theorem c_X7_shorten {l : Launch} {X : zX} {I : Nat → Nat → Int32} {J : Nat → Nat → Int64} {Rr : Nat → Nat → Option Nat} {D : zD} {a1 : Int32} (oI33 : Nat → Int32) (eoI33 : I 33 = oI33) (v_length : Int32) (e_v_length : I 33 3 = v_length) {rr : Int32} {y_v_length : Int32} (h : pReader_shorten a1 v_length = some (rr, y_v_length)) : zMi l yX7_shorten cX7_shorten 2 (some .boolean) ({ frames := 0, cells := 0, slots := 0, locals := 0 } : Room) X [.ref (X.1 + 33), .int a1] (I, J, Rr, D) rr ((va_up I 33 (va_up oI33 3 y_v_length)), J, Rr, D) := by
  subst eoI33
  refine zMi.of (by decide) (Nat.le_of_ble_eq_true rfl) (fun C E hl hX hQ => ?_)
  subst hl
  subst hX
  have eI0 : (va_up I 33 (va_up (I 33) 3 v_length)) = I := by rw [zup_idE e_v_length, zup_id]
  have eJ0 : J = J := rfl
  refine zb_S (S2 := ((va_up I 33 (va_up (I 33) 3 v_length)), J, Rr, D)) (zS_eq eI0.symm eJ0.symm) ?_
  exact c_X7_shorten_0 a1 rr y_v_length E hQ v_length h
-- ChequeredCloth$Reader.wipe
theorem dX7_wipe_0 : decode cX7_wipe 0 = .ok (.aload_n 0, 1) := by decide +kernel
theorem dX7_wipe_1 : decode cX7_wipe 1 = .ok (.iconst 0, 1) := by decide +kernel
theorem dX7_wipe_2 : decode cX7_wipe 2 = .ok (.putfield 29, 3) := by decide +kernel
theorem dX7_wipe_5 : decode cX7_wipe 5 = .ok (.return_, 1) := by decide +kernel
theorem zy_X7_wipe : zYv yX7_wipe cX7_wipe 1 none 0 := ⟨zw_633, zw_634, zw_6, zw_635, by decide, by decide, by decide⟩
theorem c_X7_wipe_0 {C : zC} {I : Nat → Nat → Int32} {J : Nat → Nat → Int64} {Rr : Nat → Nat → Option Nat} {D : zD} (y_v_length : Int32) (E : zE C RX7 cX7_wipe 1 none ({ frames := 0, cells := 0, slots := 0, locals := 0 } : Room)) (hQ : C.Q = zQv C ({ frames := 0, cells := 0, slots := 0, locals := 0 } : Room) ((va_up I 33 (va_up (I 33) 3 y_v_length)), J, Rr, D)) (v_length : Int32) (h : pReader_wipe v_length = some y_v_length) : zB C (0, 0) 0 [(0, .ref (C.X.1 + 33))] [] ((va_up I 33 (va_up (I 33) 3 v_length)), J, Rr, D) := by
  refine zb_aload_n E dX7_wipe_0 0 rfl rfl ?_
  refine zb_iconst E dX7_wipe_1 (v := 0) rfl ?_
  refine zb_put E 33 (by decide) (zF_33 C.X) rfl zin7 3 (by decide) zw_141 tyX7 tyX7_ok nmX7 rfl rfl rfl (I2 := (va_up I 33 (va_up (I 33) 3 0))) (J2 := J) ((zset7_3 C.X (va_up (I 33) 3 v_length) (J 33) 0).trans (congrArg (fun g => zf7 C.X g (J 33)) zn1)) (by rw [zflen7]; decide) (fun j hj => ⟨(zup_n hj).trans (zup_n hj).symm, rfl⟩) dX7_wipe_2 ?_
  obtain rfl := zinj1 h
  exact zb_vret E hQ rfl ⟨Nat.zero_le _, Nat.zero_le _⟩ dX7_wipe_5
theorem c_X7_wipe {l : Launch} {X : zX} {I : Nat → Nat → Int32} {J : Nat → Nat → Int64} {Rr : Nat → Nat → Option Nat} {D : zD} (oI33 : Nat → Int32) (eoI33 : I 33 = oI33) (v_length : Int32) (e_v_length : I 33 3 = v_length) {y_v_length : Int32} (h : pReader_wipe v_length = some y_v_length) : zMv l yX7_wipe cX7_wipe 1 none ({ frames := 0, cells := 0, slots := 0, locals := 0 } : Room) X [.ref (X.1 + 33)] (I, J, Rr, D) ((va_up I 33 (va_up oI33 3 y_v_length)), J, Rr, D) := by
  subst eoI33
  refine zMv.of (by decide) (Nat.le_of_ble_eq_true rfl) (fun C E hl hX hQ => ?_)
  subst hl
  subst hX
  have eI0 : (va_up I 33 (va_up (I 33) 3 v_length)) = I := by rw [zup_idE e_v_length, zup_id]
  have eJ0 : J = J := rfl
  refine zb_S (S2 := ((va_up I 33 (va_up (I 33) 3 v_length)), J, Rr, D)) (zS_eq eI0.symm eJ0.symm) ?_
  exact c_X7_wipe_0 y_v_length E hQ v_length h
-- ChequeredCloth$Reader.next
theorem dX7_next_0 : decode cX7_next 0 = .ok (.aload_n 0, 1) := by decide +kernel
theorem dX7_next_1 : decode cX7_next 1 = .ok (.getfield 47, 3) := by decide +kernel
theorem dX7_next_4 : decode cX7_next 4 = .ok (.istore_n 1, 1) := by decide +kernel
theorem dX7_next_5 : decode cX7_next 5 = .ok (.aload_n 0, 1) := by decide +kernel
theorem dX7_next_6 : decode cX7_next 6 = .ok (.getfield 44, 3) := by decide +kernel
theorem dX7_next_9 : decode cX7_next 9 = .ok (.iconst 1, 1) := by decide +kernel
theorem dX7_next_10 : decode cX7_next 10 = .ok (.if_icmp .eq 11, 3) := by decide +kernel
theorem dX7_next_13 : decode cX7_next 13 = .ok (.aload_n 0, 1) := by decide +kernel
theorem dX7_next_14 : decode cX7_next 14 = .ok (.getfield 44, 3) := by decide +kernel
theorem dX7_next_17 : decode cX7_next 17 = .ok (.iconst 2, 1) := by decide +kernel
theorem dX7_next_18 : decode cX7_next 18 = .ok (.if_icmp .ne 7, 3) := by decide +kernel
theorem dX7_next_21 : decode cX7_next 21 = .ok (.iconst 1, 1) := by decide +kernel
theorem dX7_next_22 : decode cX7_next 22 = .ok (.goto 4, 3) := by decide +kernel
theorem dX7_next_25 : decode cX7_next 25 = .ok (.iconst 0, 1) := by decide +kernel
theorem dX7_next_26 : decode cX7_next 26 = .ok (.istore_n 2, 1) := by decide +kernel
theorem dX7_next_27 : decode cX7_next 27 = .ok (.aload_n 0, 1) := by decide +kernel
theorem dX7_next_28 : decode cX7_next 28 = .ok (.getfield 47, 3) := by decide +kernel
theorem dX7_next_31 : decode cX7_next 31 = .ok (.aload_n 0, 1) := by decide +kernel
theorem dX7_next_32 : decode cX7_next 32 = .ok (.getfield 29, 3) := by decide +kernel
theorem dX7_next_35 : decode cX7_next 35 = .ok (.if_icmp .ge 44, 3) := by decide +kernel
theorem dX7_next_38 : decode cX7_next 38 = .ok (.aload_n 0, 1) := by decide +kernel
theorem dX7_next_39 : decode cX7_next 39 = .ok (.getfield 11, 3) := by decide +kernel
theorem dX7_next_42 : decode cX7_next 42 = .ok (.aload_n 0, 1) := by decide +kernel
theorem dX7_next_43 : decode cX7_next 43 = .ok (.getfield 47, 3) := by decide +kernel
theorem dX7_next_46 : decode cX7_next 46 = .ok (.caload, 1) := by decide +kernel
theorem dX7_next_47 : decode cX7_next 47 = .ok (.bipush 32, 2) := by decide +kernel
theorem dX7_next_49 : decode cX7_next 49 = .ok (.if_icmp .eq 17, 3) := by decide +kernel
theorem dX7_next_52 : decode cX7_next 52 = .ok (.aload_n 0, 1) := by decide +kernel
theorem dX7_next_53 : decode cX7_next 53 = .ok (.getfield 11, 3) := by decide +kernel
theorem dX7_next_56 : decode cX7_next 56 = .ok (.aload_n 0, 1) := by decide +kernel
theorem dX7_next_57 : decode cX7_next 57 = .ok (.getfield 47, 3) := by decide +kernel
theorem dX7_next_60 : decode cX7_next 60 = .ok (.caload, 1) := by decide +kernel
theorem dX7_next_61 : decode cX7_next 61 = .ok (.bipush 10, 2) := by decide +kernel
theorem dX7_next_63 : decode cX7_next 63 = .ok (.if_icmp .ne 16, 3) := by decide +kernel
theorem dX7_next_66 : decode cX7_next 66 = .ok (.aload_n 0, 1) := by decide +kernel
theorem dX7_next_67 : decode cX7_next 67 = .ok (.dup, 1) := by decide +kernel
theorem dX7_next_68 : decode cX7_next 68 = .ok (.getfield 47, 3) := by decide +kernel
theorem dX7_next_71 : decode cX7_next 71 = .ok (.iconst 1, 1) := by decide +kernel
theorem dX7_next_72 : decode cX7_next 72 = .ok (.iadd, 1) := by decide +kernel
theorem dX7_next_73 : decode cX7_next 73 = .ok (.putfield 47, 3) := by decide +kernel
theorem dX7_next_76 : decode cX7_next 76 = .ok (.goto (-49), 3) := by decide +kernel
theorem dX7_next_79 : decode cX7_next 79 = .ok (.aload_n 0, 1) := by decide +kernel
theorem dX7_next_80 : decode cX7_next 80 = .ok (.aload_n 0, 1) := by decide +kernel
theorem dX7_next_81 : decode cX7_next 81 = .ok (.getfield 47, 3) := by decide +kernel
theorem dX7_next_84 : decode cX7_next 84 = .ok (.putfield 57, 3) := by decide +kernel
theorem dX7_next_87 : decode cX7_next 87 = .ok (.aload_n 0, 1) := by decide +kernel
theorem dX7_next_88 : decode cX7_next 88 = .ok (.getfield 57, 3) := by decide +kernel
theorem dX7_next_91 : decode cX7_next 91 = .ok (.aload_n 0, 1) := by decide +kernel
theorem dX7_next_92 : decode cX7_next 92 = .ok (.getfield 29, 3) := by decide +kernel
theorem dX7_next_95 : decode cX7_next 95 = .ok (.if_icmp .lt 9, 3) := by decide +kernel
theorem dX7_next_98 : decode cX7_next 98 = .ok (.aload_n 0, 1) := by decide +kernel
theorem dX7_next_99 : decode cX7_next 99 = .ok (.iconst 0, 1) := by decide +kernel
theorem dX7_next_100 : decode cX7_next 100 = .ok (.putfield 44, 3) := by decide +kernel
theorem dX7_next_103 : decode cX7_next 103 = .ok (.return_, 1) := by decide +kernel
theorem dX7_next_104 : decode cX7_next 104 = .ok (.aload_n 0, 1) := by decide +kernel
theorem dX7_next_105 : decode cX7_next 105 = .ok (.getfield 47, 3) := by decide +kernel
theorem dX7_next_108 : decode cX7_next 108 = .ok (.aload_n 0, 1) := by decide +kernel
theorem dX7_next_109 : decode cX7_next 109 = .ok (.getfield 29, 3) := by decide +kernel
theorem dX7_next_112 : decode cX7_next 112 = .ok (.if_icmp .ge 44, 3) := by decide +kernel
theorem dX7_next_115 : decode cX7_next 115 = .ok (.aload_n 0, 1) := by decide +kernel
theorem dX7_next_116 : decode cX7_next 116 = .ok (.getfield 11, 3) := by decide +kernel
theorem dX7_next_119 : decode cX7_next 119 = .ok (.aload_n 0, 1) := by decide +kernel
theorem dX7_next_120 : decode cX7_next 120 = .ok (.getfield 47, 3) := by decide +kernel
theorem dX7_next_123 : decode cX7_next 123 = .ok (.caload, 1) := by decide +kernel
theorem dX7_next_124 : decode cX7_next 124 = .ok (.bipush 97, 2) := by decide +kernel
theorem dX7_next_126 : decode cX7_next 126 = .ok (.if_icmp .lt 30, 3) := by decide +kernel
theorem dX7_next_129 : decode cX7_next 129 = .ok (.aload_n 0, 1) := by decide +kernel
theorem dX7_next_130 : decode cX7_next 130 = .ok (.getfield 11, 3) := by decide +kernel
theorem dX7_next_133 : decode cX7_next 133 = .ok (.aload_n 0, 1) := by decide +kernel
theorem dX7_next_134 : decode cX7_next 134 = .ok (.getfield 47, 3) := by decide +kernel
theorem dX7_next_137 : decode cX7_next 137 = .ok (.caload, 1) := by decide +kernel
theorem dX7_next_138 : decode cX7_next 138 = .ok (.bipush 122, 2) := by decide +kernel
theorem dX7_next_140 : decode cX7_next 140 = .ok (.if_icmp .gt 16, 3) := by decide +kernel
theorem dX7_next_143 : decode cX7_next 143 = .ok (.aload_n 0, 1) := by decide +kernel
theorem dX7_next_144 : decode cX7_next 144 = .ok (.dup, 1) := by decide +kernel
theorem dX7_next_145 : decode cX7_next 145 = .ok (.getfield 47, 3) := by decide +kernel
theorem dX7_next_148 : decode cX7_next 148 = .ok (.iconst 1, 1) := by decide +kernel
theorem dX7_next_149 : decode cX7_next 149 = .ok (.iadd, 1) := by decide +kernel
theorem dX7_next_150 : decode cX7_next 150 = .ok (.putfield 47, 3) := by decide +kernel
theorem dX7_next_153 : decode cX7_next 153 = .ok (.goto (-49), 3) := by decide +kernel
theorem dX7_next_156 : decode cX7_next 156 = .ok (.aload_n 0, 1) := by decide +kernel
theorem dX7_next_157 : decode cX7_next 157 = .ok (.iconst 1, 1) := by decide +kernel
theorem dX7_next_158 : decode cX7_next 158 = .ok (.putfield 44, 3) := by decide +kernel
theorem dX7_next_161 : decode cX7_next 161 = .ok (.aload_n 0, 1) := by decide +kernel
theorem dX7_next_162 : decode cX7_next 162 = .ok (.getfield 47, 3) := by decide +kernel
theorem dX7_next_165 : decode cX7_next 165 = .ok (.aload_n 0, 1) := by decide +kernel
theorem dX7_next_166 : decode cX7_next 166 = .ok (.getfield 57, 3) := by decide +kernel
theorem dX7_next_169 : decode cX7_next 169 = .ok (.if_icmp .ne 60, 3) := by decide +kernel
theorem dX7_next_172 : decode cX7_next 172 = .ok (.aload_n 0, 1) := by decide +kernel
theorem dX7_next_173 : decode cX7_next 173 = .ok (.getfield 47, 3) := by decide +kernel
theorem dX7_next_176 : decode cX7_next 176 = .ok (.aload_n 0, 1) := by decide +kernel
theorem dX7_next_177 : decode cX7_next 177 = .ok (.getfield 29, 3) := by decide +kernel
theorem dX7_next_180 : decode cX7_next 180 = .ok (.if_icmp .ge 44, 3) := by decide +kernel
theorem dX7_next_183 : decode cX7_next 183 = .ok (.aload_n 0, 1) := by decide +kernel
theorem dX7_next_184 : decode cX7_next 184 = .ok (.getfield 11, 3) := by decide +kernel
theorem dX7_next_187 : decode cX7_next 187 = .ok (.aload_n 0, 1) := by decide +kernel
theorem dX7_next_188 : decode cX7_next 188 = .ok (.getfield 47, 3) := by decide +kernel
theorem dX7_next_191 : decode cX7_next 191 = .ok (.caload, 1) := by decide +kernel
theorem dX7_next_192 : decode cX7_next 192 = .ok (.bipush 48, 2) := by decide +kernel
theorem dX7_next_194 : decode cX7_next 194 = .ok (.if_icmp .lt 30, 3) := by decide +kernel
theorem dX7_next_197 : decode cX7_next 197 = .ok (.aload_n 0, 1) := by decide +kernel
theorem dX7_next_198 : decode cX7_next 198 = .ok (.getfield 11, 3) := by decide +kernel
theorem dX7_next_201 : decode cX7_next 201 = .ok (.aload_n 0, 1) := by decide +kernel
theorem dX7_next_202 : decode cX7_next 202 = .ok (.getfield 47, 3) := by decide +kernel
theorem dX7_next_205 : decode cX7_next 205 = .ok (.caload, 1) := by decide +kernel
theorem dX7_next_206 : decode cX7_next 206 = .ok (.bipush 57, 2) := by decide +kernel
theorem dX7_next_208 : decode cX7_next 208 = .ok (.if_icmp .gt 16, 3) := by decide +kernel
theorem dX7_next_211 : decode cX7_next 211 = .ok (.aload_n 0, 1) := by decide +kernel
theorem dX7_next_212 : decode cX7_next 212 = .ok (.dup, 1) := by decide +kernel
theorem dX7_next_213 : decode cX7_next 213 = .ok (.getfield 47, 3) := by decide +kernel
theorem dX7_next_216 : decode cX7_next 216 = .ok (.iconst 1, 1) := by decide +kernel
theorem dX7_next_217 : decode cX7_next 217 = .ok (.iadd, 1) := by decide +kernel
theorem dX7_next_218 : decode cX7_next 218 = .ok (.putfield 47, 3) := by decide +kernel
theorem dX7_next_221 : decode cX7_next 221 = .ok (.goto (-49), 3) := by decide +kernel
theorem dX7_next_224 : decode cX7_next 224 = .ok (.aload_n 0, 1) := by decide +kernel
theorem dX7_next_225 : decode cX7_next 225 = .ok (.iconst 2, 1) := by decide +kernel
theorem dX7_next_226 : decode cX7_next 226 = .ok (.putfield 44, 3) := by decide +kernel
theorem dX7_next_229 : decode cX7_next 229 = .ok (.aload_n 0, 1) := by decide +kernel
theorem dX7_next_230 : decode cX7_next 230 = .ok (.getfield 47, 3) := by decide +kernel
theorem dX7_next_233 : decode cX7_next 233 = .ok (.aload_n 0, 1) := by decide +kernel
theorem dX7_next_234 : decode cX7_next 234 = .ok (.getfield 57, 3) := by decide +kernel
theorem dX7_next_237 : decode cX7_next 237 = .ok (.if_icmp .ne 21, 3) := by decide +kernel
theorem dX7_next_240 : decode cX7_next 240 = .ok (.aload_n 0, 1) := by decide +kernel
theorem dX7_next_241 : decode cX7_next 241 = .ok (.dup, 1) := by decide +kernel
theorem dX7_next_242 : decode cX7_next 242 = .ok (.getfield 47, 3) := by decide +kernel
theorem dX7_next_245 : decode cX7_next 245 = .ok (.iconst 1, 1) := by decide +kernel
theorem dX7_next_246 : decode cX7_next 246 = .ok (.iadd, 1) := by decide +kernel
theorem dX7_next_247 : decode cX7_next 247 = .ok (.putfield 47, 3) := by decide +kernel
theorem dX7_next_250 : decode cX7_next 250 = .ok (.aload_n 0, 1) := by decide +kernel
theorem dX7_next_251 : decode cX7_next 251 = .ok (.iconst 3, 1) := by decide +kernel
theorem dX7_next_252 : decode cX7_next 252 = .ok (.putfield 44, 3) := by decide +kernel
theorem dX7_next_255 : decode cX7_next 255 = .ok (.goto 20, 3) := by decide +kernel
theorem dX7_next_258 : decode cX7_next 258 = .ok (.iload_n 2, 1) := by decide +kernel
theorem dX7_next_259 : decode cX7_next 259 = .ok (.ifCond .eq 16, 3) := by decide +kernel
theorem dX7_next_262 : decode cX7_next 262 = .ok (.aload_n 0, 1) := by decide +kernel
theorem dX7_next_263 : decode cX7_next 263 = .ok (.getfield 57, 3) := by decide +kernel
theorem dX7_next_266 : decode cX7_next 266 = .ok (.iload_n 1, 1) := by decide +kernel
theorem dX7_next_267 : decode cX7_next 267 = .ok (.if_icmp .ne 8, 3) := by decide +kernel
theorem dX7_next_270 : decode cX7_next 270 = .ok (.aload_n 0, 1) := by decide +kernel
theorem dX7_next_271 : decode cX7_next 271 = .ok (.iconst 4, 1) := by decide +kernel
theorem dX7_next_272 : decode cX7_next 272 = .ok (.putfield 44, 3) := by decide +kernel
theorem dX7_next_275 : decode cX7_next 275 = .ok (.return_, 1) := by decide +kernel
theorem zy_X7_next : zYv yX7_next cX7_next 3 none 0 := ⟨zw_642, zws_11, zw_6, zw_643, by decide, by decide, by decide⟩
theorem c_X7_next_b66 {C : zC} {I : Nat → Nat → Int32} {J : Nat → Nat → Int64} {Rr : Nat → Nat → Option Nat} {D : zD} (N : Nat) (v_length : Int32) (e_v_length : I 33 3 = v_length) (v_tape : (Nat → Int32)) (e_v_tape : I 34 = v_tape) (y_v_at : Int32) (y_v_kind : Int32) (y_v_stop : Int32) (E : zE C RX7 cX7_next 3 none ({ frames := 0, cells := 0, slots := 0, locals := 0 } : Room)) (hQ : C.Q = zQv C ({ frames := 0, cells := 0, slots := 0, locals := 0 } : Room) ((va_up I 33 (va_up (va_up (va_up (I 33) 6 y_v_kind) 7 y_v_at) 8 y_v_stop)), J, Rr, D)) (x1 : Int32) (x2 : Int32) (v_at : Int32) (v_kind : Int32) (v_stop : Int32) (self : Int32 → Option R_pReader_next) (ih : ∀ (v_stop : Int32), self v_stop = some (y_v_at, y_v_kind, y_v_stop) → zB C (0, 0) 27 [(0, .ref (C.X.1 + 33)), (1, .int x1), (2, .int x2)] [] ((va_up I 33 (va_up (va_up (va_up (I 33) 6 v_kind) 7 v_at) 8 v_stop)), J, Rr, D)) (k79 : Int32 → Option R_pReader_next) (hk79 : ∀ (v_stop : Int32), k79 v_stop = some (y_v_at, y_v_kind, y_v_stop) → zB C (0, 0) 79 [(0, .ref (C.X.1 + 33)), (1, .int x1), (2, .int x2)] [] ((va_up I 33 (va_up (va_up (va_up (I 33) 6 v_kind) 7 v_at) 8 v_stop)), J, Rr, D)) (h : pReader_next_b66 N v_length v_tape self k79 x1 x2 v_at v_kind v_stop = some (y_v_at, y_v_kind, y_v_stop)) : zB C (0, 0) 66 [(0, .ref (C.X.1 + 33)), (1, .int x1), (2, .int x2)] [] ((va_up I 33 (va_up (va_up (va_up (I 33) 6 v_kind) 7 v_at) 8 v_stop)), J, Rr, D) := by
  refine zb_aload_n E dX7_next_66 0 rfl rfl ?_
  refine zb_dup E dX7_next_67 rfl ?_
  refine zb_get E 33 (by decide) (zF_33 C.X) rfl zin7 8 (by decide) zw_146 (v := .int v_stop) rfl dX7_next_68 ?_
  refine zb_iconst E dX7_next_71 (v := 1) rfl ?_
  refine zb_iadd E dX7_next_72 ?_
  refine zb_put E 33 (by decide) (zF_33 C.X) rfl zin7 8 (by decide) zw_146 tyX7 tyX7_ok nmX7 rfl rfl rfl (I2 := (va_up I 33 (va_up (va_up (va_up (I 33) 6 v_kind) 7 v_at) 8 (v_stop + 1)))) (J2 := J) ((zset7_8 C.X (va_up (va_up (va_up (I 33) 6 v_kind) 7 v_at) 8 v_stop) (J 33) (v_stop + 1)).trans (congrArg (fun g => zf7 C.X g (J 33)) zn1)) (by rw [zflen7]; decide) (fun j hj => ⟨(zup_n hj).trans (zup_n hj).symm, rfl⟩) dX7_next_73 ?_
  refine zb_goto E dX7_next_76 (tgt := 27) rfl ?_
  exact ih (v_stop + 1) h
theorem c_X7_next_b27 {C : zC} {I : Nat → Nat → Int32} {J : Nat → Nat → Int64} {Rr : Nat → Nat → Option Nat} {D : zD} (N : Nat) (v_length : Int32) (e_v_length : I 33 3 = v_length) (v_tape : (Nat → Int32)) (e_v_tape : I 34 = v_tape) (y_v_at : Int32) (y_v_kind : Int32) (y_v_stop : Int32) (E : zE C RX7 cX7_next 3 none ({ frames := 0, cells := 0, slots := 0, locals := 0 } : Room)) (hQ : C.Q = zQv C ({ frames := 0, cells := 0, slots := 0, locals := 0 } : Room) ((va_up I 33 (va_up (va_up (va_up (I 33) 6 y_v_kind) 7 y_v_at) 8 y_v_stop)), J, Rr, D)) (x1 : Int32) (x2 : Int32) (v_at : Int32) (v_kind : Int32) (k79 : Int32 → Option R_pReader_next) (hk79 : ∀ (v_stop : Int32), k79 v_stop = some (y_v_at, y_v_kind, y_v_stop) → zB C (0, 0) 79 [(0, .ref (C.X.1 + 33)), (1, .int x1), (2, .int x2)] [] ((va_up I 33 (va_up (va_up (va_up (I 33) 6 v_kind) 7 v_at) 8 v_stop)), J, Rr, D)) : ∀ (n9 : Nat) (v_stop : Int32), pReader_next_b27 N v_length v_tape x1 x2 v_at v_kind k79 n9 v_stop = some (y_v_at, y_v_kind, y_v_stop) → zB C (0, 0) 27 [(0, .ref (C.X.1 + 33)), (1, .int x1), (2, .int x2)] [] ((va_up I 33 (va_up (va_up (va_up (I 33) 6 v_kind) 7 v_at) 8 v_stop)), J, Rr, D) := by
  refine zlp1_ind (P := fun (v_stop : Int32) => zB C (0, 0) 27 [(0, .ref (C.X.1 + 33)), (1, .int x1), (2, .int x2)] [] ((va_up I 33 (va_up (va_up (va_up (I 33) 6 v_kind) 7 v_at) 8 v_stop)), J, Rr, D)) (fun self ih => ?_)
  intro v_stop h
  refine zb_aload_n E dX7_next_27 0 rfl rfl ?_
  refine zb_get E 33 (by decide) (zF_33 C.X) rfl zin7 8 (by decide) zw_146 (v := .int v_stop) rfl dX7_next_28 ?_
  refine zb_aload_n E dX7_next_31 0 rfl rfl ?_
  refine zb_get E 33 (by decide) (zF_33 C.X) rfl zin7 3 (by decide) zw_141 (v := .int v_length) (by exact congrArg (fun z => some (Value.int z)) e_v_length) dX7_next_32 ?_
  refine zb_icmp_ge E dX7_next_35 (tgt := 79) rfl (fun hc => ?_) (fun hc => ?_)
  · have h := if_t h hc
    exact hk79 v_stop h
  · have h := if_f h hc
    refine zb_aload_n E dX7_next_38 0 rfl rfl ?_
    refine zb_get E 33 (by decide) (zF_33 C.X) rfl zin7 0 (by decide) zw_138 (v := .ref (C.X.1 + 34)) rfl dX7_next_39 ?_
    refine zb_aload_n E dX7_next_42 0 rfl rfl ?_
    refine zb_get E 33 (by decide) (zF_33 C.X) rfl zin7 8 (by decide) zw_146 (v := .int v_stop) rfl dX7_next_43 ?_
    obtain ⟨g1, h⟩ := gd_s h
    refine zb_cald E 34 (by decide) zF_34 (f := v_tape) (by exact e_v_tape) (ib_in g1) dX7_next_46 ?_
    refine zb_bipush E dX7_next_47 (v := 32) rfl ?_
    refine zb_icmp_eq E dX7_next_49 (tgt := 66) rfl (fun hc => ?_) (fun hc => ?_)
    · have h := if_t h hc
      exact c_X7_next_b66 N v_length e_v_length v_tape e_v_tape y_v_at y_v_kind y_v_stop E hQ x1 x2 v_at v_kind v_stop self ih k79 hk79 h
    · have h := if_f h hc
      refine zb_aload_n E dX7_next_52 0 rfl rfl ?_
      refine zb_get E 33 (by decide) (zF_33 C.X) rfl zin7 0 (by decide) zw_138 (v := .ref (C.X.1 + 34)) rfl dX7_next_53 ?_
      refine zb_aload_n E dX7_next_56 0 rfl rfl ?_
      refine zb_get E 33 (by decide) (zF_33 C.X) rfl zin7 8 (by decide) zw_146 (v := .int v_stop) rfl dX7_next_57 ?_
      refine zb_cald E 34 (by decide) zF_34 (f := v_tape) (by exact e_v_tape) (ib_in g1) dX7_next_60 ?_
      refine zb_bipush E dX7_next_61 (v := 10) rfl ?_
      refine zb_icmp_ne E dX7_next_63 (tgt := 79) rfl (fun hc => ?_) (fun hc => ?_)
      · have h := if_f h hc
        exact hk79 v_stop h
      · have h := if_t h hc
        exact c_X7_next_b66 N v_length e_v_length v_tape e_v_tape y_v_at y_v_kind y_v_stop E hQ x1 x2 v_at v_kind v_stop self ih k79 hk79 h
theorem c_X7_next_b104 {C : zC} {I : Nat → Nat → Int32} {J : Nat → Nat → Int64} {Rr : Nat → Nat → Option Nat} {D : zD} (N : Nat) (v_length : Int32) (e_v_length : I 33 3 = v_length) (v_tape : (Nat → Int32)) (e_v_tape : I 34 = v_tape) (y_v_at : Int32) (y_v_kind : Int32) (y_v_stop : Int32) (E : zE C RX7 cX7_next 3 none ({ frames := 0, cells := 0, slots := 0, locals := 0 } : Room)) (hQ : C.Q = zQv C ({ frames := 0, cells := 0, slots := 0, locals := 0 } : Room) ((va_up I 33 (va_up (va_up (va_up (I 33) 6 y_v_kind) 7 y_v_at) 8 y_v_stop)), J, Rr, D)) (x1 : Int32) (x2 : Int32) (v_at : Int32) (v_kind : Int32) (k156 : Int32 → Option R_pReader_next) (hk156 : ∀ (v_stop : Int32), k156 v_stop = some (y_v_at, y_v_kind, y_v_stop) → zB C (0, 0) 156 [(0, .ref (C.X.1 + 33)), (1, .int x1), (2, .int x2)] [] ((va_up I 33 (va_up (va_up (va_up (I 33) 6 v_kind) 7 v_at) 8 v_stop)), J, Rr, D)) : ∀ (n9 : Nat) (v_stop : Int32), pReader_next_b104 N v_length v_tape x1 x2 v_at v_kind k156 n9 v_stop = some (y_v_at, y_v_kind, y_v_stop) → zB C (0, 0) 104 [(0, .ref (C.X.1 + 33)), (1, .int x1), (2, .int x2)] [] ((va_up I 33 (va_up (va_up (va_up (I 33) 6 v_kind) 7 v_at) 8 v_stop)), J, Rr, D) := by
  refine zlp1_ind (P := fun (v_stop : Int32) => zB C (0, 0) 104 [(0, .ref (C.X.1 + 33)), (1, .int x1), (2, .int x2)] [] ((va_up I 33 (va_up (va_up (va_up (I 33) 6 v_kind) 7 v_at) 8 v_stop)), J, Rr, D)) (fun self ih => ?_)
  intro v_stop h
  refine zb_aload_n E dX7_next_104 0 rfl rfl ?_
  refine zb_get E 33 (by decide) (zF_33 C.X) rfl zin7 8 (by decide) zw_146 (v := .int v_stop) rfl dX7_next_105 ?_
  refine zb_aload_n E dX7_next_108 0 rfl rfl ?_
  refine zb_get E 33 (by decide) (zF_33 C.X) rfl zin7 3 (by decide) zw_141 (v := .int v_length) (by exact congrArg (fun z => some (Value.int z)) e_v_length) dX7_next_109 ?_
  refine zb_icmp_ge E dX7_next_112 (tgt := 156) rfl (fun hc => ?_) (fun hc => ?_)
  · have h := if_t h hc
    exact hk156 v_stop h
  · have h := if_f h hc
    refine zb_aload_n E dX7_next_115 0 rfl rfl ?_
    refine zb_get E 33 (by decide) (zF_33 C.X) rfl zin7 0 (by decide) zw_138 (v := .ref (C.X.1 + 34)) rfl dX7_next_116 ?_
    refine zb_aload_n E dX7_next_119 0 rfl rfl ?_
    refine zb_get E 33 (by decide) (zF_33 C.X) rfl zin7 8 (by decide) zw_146 (v := .int v_stop) rfl dX7_next_120 ?_
    obtain ⟨g2, h⟩ := gd_s h
    refine zb_cald E 34 (by decide) zF_34 (f := v_tape) (by exact e_v_tape) (ib_in g2) dX7_next_123 ?_
    refine zb_bipush E dX7_next_124 (v := 97) rfl ?_
    refine zb_icmp_lt E dX7_next_126 (tgt := 156) rfl (fun hc => ?_) (fun hc => ?_)
    · have h := if_t h hc
      exact hk156 v_stop h
    · have h := if_f h hc
      refine zb_aload_n E dX7_next_129 0 rfl rfl ?_
      refine zb_get E 33 (by decide) (zF_33 C.X) rfl zin7 0 (by decide) zw_138 (v := .ref (C.X.1 + 34)) rfl dX7_next_130 ?_
      refine zb_aload_n E dX7_next_133 0 rfl rfl ?_
      refine zb_get E 33 (by decide) (zF_33 C.X) rfl zin7 8 (by decide) zw_146 (v := .int v_stop) rfl dX7_next_134 ?_
      refine zb_cald E 34 (by decide) zF_34 (f := v_tape) (by exact e_v_tape) (ib_in g2) dX7_next_137 ?_
      refine zb_bipush E dX7_next_138 (v := 122) rfl ?_
      refine zb_icmp_gt E dX7_next_140 (tgt := 156) rfl (fun hc => ?_) (fun hc => ?_)
      · have h := if_t h hc
        exact hk156 v_stop h
      · have h := if_f h hc
        refine zb_aload_n E dX7_next_143 0 rfl rfl ?_
        refine zb_dup E dX7_next_144 rfl ?_
        refine zb_get E 33 (by decide) (zF_33 C.X) rfl zin7 8 (by decide) zw_146 (v := .int v_stop) rfl dX7_next_145 ?_
        refine zb_iconst E dX7_next_148 (v := 1) rfl ?_
        refine zb_iadd E dX7_next_149 ?_
        refine zb_put E 33 (by decide) (zF_33 C.X) rfl zin7 8 (by decide) zw_146 tyX7 tyX7_ok nmX7 rfl rfl rfl (I2 := (va_up I 33 (va_up (va_up (va_up (I 33) 6 v_kind) 7 v_at) 8 (v_stop + 1)))) (J2 := J) ((zset7_8 C.X (va_up (va_up (va_up (I 33) 6 v_kind) 7 v_at) 8 v_stop) (J 33) (v_stop + 1)).trans (congrArg (fun g => zf7 C.X g (J 33)) zn1)) (by rw [zflen7]; decide) (fun j hj => ⟨(zup_n hj).trans (zup_n hj).symm, rfl⟩) dX7_next_150 ?_
        refine zb_goto E dX7_next_153 (tgt := 104) rfl ?_
        exact ih (v_stop + 1) h
theorem c_X7_next_b229 {C : zC} {I : Nat → Nat → Int32} {J : Nat → Nat → Int64} {Rr : Nat → Nat → Option Nat} {D : zD} (N : Nat) (v_length : Int32) (e_v_length : I 33 3 = v_length) (v_tape : (Nat → Int32)) (e_v_tape : I 34 = v_tape) (y_v_at : Int32) (y_v_kind : Int32) (y_v_stop : Int32) (E : zE C RX7 cX7_next 3 none ({ frames := 0, cells := 0, slots := 0, locals := 0 } : Room)) (hQ : C.Q = zQv C ({ frames := 0, cells := 0, slots := 0, locals := 0 } : Room) ((va_up I 33 (va_up (va_up (va_up (I 33) 6 y_v_kind) 7 y_v_at) 8 y_v_stop)), J, Rr, D)) (x1 : Int32) (x2 : Int32) (v_at : Int32) (v_kind : Int32) (v_stop : Int32) (h : pReader_next_b229 N v_length v_tape x1 x2 v_at v_kind v_stop = some (y_v_at, y_v_kind, y_v_stop)) : zB C (0, 0) 229 [(0, .ref (C.X.1 + 33)), (1, .int x1), (2, .int x2)] [] ((va_up I 33 (va_up (va_up (va_up (I 33) 6 v_kind) 7 v_at) 8 v_stop)), J, Rr, D) := by
  refine zb_aload_n E dX7_next_229 0 rfl rfl ?_
  refine zb_get E 33 (by decide) (zF_33 C.X) rfl zin7 8 (by decide) zw_146 (v := .int v_stop) rfl dX7_next_230 ?_
  refine zb_aload_n E dX7_next_233 0 rfl rfl ?_
  refine zb_get E 33 (by decide) (zF_33 C.X) rfl zin7 7 (by decide) zw_145 (v := .int v_at) rfl dX7_next_234 ?_
  refine zb_icmp_ne E dX7_next_237 (tgt := 258) rfl (fun hc => ?_) (fun hc => ?_)
  · have h := if_f h hc
    refine zb_iload_n E dX7_next_258 2 rfl rfl ?_
    refine zb_if_eq E dX7_next_259 (tgt := 275) rfl (fun hc => ?_) (fun hc => ?_)
    · have h := if_t h hc
      obtain ⟨rfl, rfl, rfl⟩ := zinj3 h
      exact zb_vret E hQ rfl ⟨Nat.zero_le _, Nat.zero_le _⟩ dX7_next_275
    · have h := if_f h hc
      refine zb_aload_n E dX7_next_262 0 rfl rfl ?_
      refine zb_get E 33 (by decide) (zF_33 C.X) rfl zin7 7 (by decide) zw_145 (v := .int v_at) rfl dX7_next_263 ?_
      refine zb_iload_n E dX7_next_266 1 rfl rfl ?_
      refine zb_icmp_ne E dX7_next_267 (tgt := 275) rfl (fun hc => ?_) (fun hc => ?_)
      · have h := if_f h hc
        obtain ⟨rfl, rfl, rfl⟩ := zinj3 h
        exact zb_vret E hQ rfl ⟨Nat.zero_le _, Nat.zero_le _⟩ dX7_next_275
      · have h := if_t h hc
        refine zb_aload_n E dX7_next_270 0 rfl rfl ?_
        refine zb_iconst E dX7_next_271 (v := 4) rfl ?_
        refine zb_put E 33 (by decide) (zF_33 C.X) rfl zin7 6 (by decide) zw_144 tyX7 tyX7_ok nmX7 rfl rfl rfl (I2 := (va_up I 33 (va_up (va_up (va_up (I 33) 6 4) 7 v_at) 8 v_stop))) (J2 := J) ((zset7_6 C.X (va_up (va_up (va_up (I 33) 6 v_kind) 7 v_at) 8 v_stop) (J 33) 4).trans (congrArg (fun g => zf7 C.X g (J 33)) (zn3 (by decide : (8 : Nat) ≠ 6) (by decide : (7 : Nat) ≠ 6)))) (by rw [zflen7]; decide) (fun j hj => ⟨(zup_n hj).trans (zup_n hj).symm, rfl⟩) dX7_next_272 ?_
        obtain ⟨rfl, rfl, rfl⟩ := zinj3 h
        exact zb_vret E hQ rfl ⟨Nat.zero_le _, Nat.zero_le _⟩ dX7_next_275
  · have h := if_t h hc
    refine zb_aload_n E dX7_next_240 0 rfl rfl ?_
    refine zb_dup E dX7_next_241 rfl ?_
    refine zb_get E 33 (by decide) (zF_33 C.X) rfl zin7 8 (by decide) zw_146 (v := .int v_stop) rfl dX7_next_242 ?_
    refine zb_iconst E dX7_next_245 (v := 1) rfl ?_
    refine zb_iadd E dX7_next_246 ?_
    refine zb_put E 33 (by decide) (zF_33 C.X) rfl zin7 8 (by decide) zw_146 tyX7 tyX7_ok nmX7 rfl rfl rfl (I2 := (va_up I 33 (va_up (va_up (va_up (I 33) 6 v_kind) 7 v_at) 8 (v_stop + 1)))) (J2 := J) ((zset7_8 C.X (va_up (va_up (va_up (I 33) 6 v_kind) 7 v_at) 8 v_stop) (J 33) (v_stop + 1)).trans (congrArg (fun g => zf7 C.X g (J 33)) zn1)) (by rw [zflen7]; decide) (fun j hj => ⟨(zup_n hj).trans (zup_n hj).symm, rfl⟩) dX7_next_247 ?_
    refine zb_aload_n E dX7_next_250 0 rfl rfl ?_
    refine zb_iconst E dX7_next_251 (v := 3) rfl ?_
    refine zb_put E 33 (by decide) (zF_33 C.X) rfl zin7 6 (by decide) zw_144 tyX7 tyX7_ok nmX7 rfl rfl rfl (I2 := (va_up I 33 (va_up (va_up (va_up (I 33) 6 3) 7 v_at) 8 (v_stop + 1)))) (J2 := J) ((zset7_6 C.X (va_up (va_up (va_up (I 33) 6 v_kind) 7 v_at) 8 (v_stop + 1)) (J 33) 3).trans (congrArg (fun g => zf7 C.X g (J 33)) (zn3 (by decide : (8 : Nat) ≠ 6) (by decide : (7 : Nat) ≠ 6)))) (by rw [zflen7]; decide) (fun j hj => ⟨(zup_n hj).trans (zup_n hj).symm, rfl⟩) dX7_next_252 ?_
    refine zb_goto E dX7_next_255 (tgt := 275) rfl ?_
    obtain ⟨rfl, rfl, rfl⟩ := zinj3 h
    exact zb_vret E hQ rfl ⟨Nat.zero_le _, Nat.zero_le _⟩ dX7_next_275
theorem c_X7_next_b172 {C : zC} {I : Nat → Nat → Int32} {J : Nat → Nat → Int64} {Rr : Nat → Nat → Option Nat} {D : zD} (N : Nat) (v_length : Int32) (e_v_length : I 33 3 = v_length) (v_tape : (Nat → Int32)) (e_v_tape : I 34 = v_tape) (y_v_at : Int32) (y_v_kind : Int32) (y_v_stop : Int32) (E : zE C RX7 cX7_next 3 none ({ frames := 0, cells := 0, slots := 0, locals := 0 } : Room)) (hQ : C.Q = zQv C ({ frames := 0, cells := 0, slots := 0, locals := 0 } : Room) ((va_up I 33 (va_up (va_up (va_up (I 33) 6 y_v_kind) 7 y_v_at) 8 y_v_stop)), J, Rr, D)) (x1 : Int32) (x2 : Int32) (v_at : Int32) (v_kind : Int32) (k224 : Int32 → Option R_pReader_next) (hk224 : ∀ (v_stop : Int32), k224 v_stop = some (y_v_at, y_v_kind, y_v_stop) → zB C (0, 0) 224 [(0, .ref (C.X.1 + 33)), (1, .int x1), (2, .int x2)] [] ((va_up I 33 (va_up (va_up (va_up (I 33) 6 v_kind) 7 v_at) 8 v_stop)), J, Rr, D)) : ∀ (n9 : Nat) (v_stop : Int32), pReader_next_b172 N v_length v_tape x1 x2 v_at v_kind k224 n9 v_stop = some (y_v_at, y_v_kind, y_v_stop) → zB C (0, 0) 172 [(0, .ref (C.X.1 + 33)), (1, .int x1), (2, .int x2)] [] ((va_up I 33 (va_up (va_up (va_up (I 33) 6 v_kind) 7 v_at) 8 v_stop)), J, Rr, D) := by
  refine zlp1_ind (P := fun (v_stop : Int32) => zB C (0, 0) 172 [(0, .ref (C.X.1 + 33)), (1, .int x1), (2, .int x2)] [] ((va_up I 33 (va_up (va_up (va_up (I 33) 6 v_kind) 7 v_at) 8 v_stop)), J, Rr, D)) (fun self ih => ?_)
  intro v_stop h
  refine zb_aload_n E dX7_next_172 0 rfl rfl ?_
  refine zb_get E 33 (by decide) (zF_33 C.X) rfl zin7 8 (by decide) zw_146 (v := .int v_stop) rfl dX7_next_173 ?_
  refine zb_aload_n E dX7_next_176 0 rfl rfl ?_
  refine zb_get E 33 (by decide) (zF_33 C.X) rfl zin7 3 (by decide) zw_141 (v := .int v_length) (by exact congrArg (fun z => some (Value.int z)) e_v_length) dX7_next_177 ?_
  refine zb_icmp_ge E dX7_next_180 (tgt := 224) rfl (fun hc => ?_) (fun hc => ?_)
  · have h := if_t h hc
    exact hk224 v_stop h
  · have h := if_f h hc
    refine zb_aload_n E dX7_next_183 0 rfl rfl ?_
    refine zb_get E 33 (by decide) (zF_33 C.X) rfl zin7 0 (by decide) zw_138 (v := .ref (C.X.1 + 34)) rfl dX7_next_184 ?_
    refine zb_aload_n E dX7_next_187 0 rfl rfl ?_
    refine zb_get E 33 (by decide) (zF_33 C.X) rfl zin7 8 (by decide) zw_146 (v := .int v_stop) rfl dX7_next_188 ?_
    obtain ⟨g3, h⟩ := gd_s h
    refine zb_cald E 34 (by decide) zF_34 (f := v_tape) (by exact e_v_tape) (ib_in g3) dX7_next_191 ?_
    refine zb_bipush E dX7_next_192 (v := 48) rfl ?_
    refine zb_icmp_lt E dX7_next_194 (tgt := 224) rfl (fun hc => ?_) (fun hc => ?_)
    · have h := if_t h hc
      exact hk224 v_stop h
    · have h := if_f h hc
      refine zb_aload_n E dX7_next_197 0 rfl rfl ?_
      refine zb_get E 33 (by decide) (zF_33 C.X) rfl zin7 0 (by decide) zw_138 (v := .ref (C.X.1 + 34)) rfl dX7_next_198 ?_
      refine zb_aload_n E dX7_next_201 0 rfl rfl ?_
      refine zb_get E 33 (by decide) (zF_33 C.X) rfl zin7 8 (by decide) zw_146 (v := .int v_stop) rfl dX7_next_202 ?_
      refine zb_cald E 34 (by decide) zF_34 (f := v_tape) (by exact e_v_tape) (ib_in g3) dX7_next_205 ?_
      refine zb_bipush E dX7_next_206 (v := 57) rfl ?_
      refine zb_icmp_gt E dX7_next_208 (tgt := 224) rfl (fun hc => ?_) (fun hc => ?_)
      · have h := if_t h hc
        exact hk224 v_stop h
      · have h := if_f h hc
        refine zb_aload_n E dX7_next_211 0 rfl rfl ?_
        refine zb_dup E dX7_next_212 rfl ?_
        refine zb_get E 33 (by decide) (zF_33 C.X) rfl zin7 8 (by decide) zw_146 (v := .int v_stop) rfl dX7_next_213 ?_
        refine zb_iconst E dX7_next_216 (v := 1) rfl ?_
        refine zb_iadd E dX7_next_217 ?_
        refine zb_put E 33 (by decide) (zF_33 C.X) rfl zin7 8 (by decide) zw_146 tyX7 tyX7_ok nmX7 rfl rfl rfl (I2 := (va_up I 33 (va_up (va_up (va_up (I 33) 6 v_kind) 7 v_at) 8 (v_stop + 1)))) (J2 := J) ((zset7_8 C.X (va_up (va_up (va_up (I 33) 6 v_kind) 7 v_at) 8 v_stop) (J 33) (v_stop + 1)).trans (congrArg (fun g => zf7 C.X g (J 33)) zn1)) (by rw [zflen7]; decide) (fun j hj => ⟨(zup_n hj).trans (zup_n hj).symm, rfl⟩) dX7_next_218 ?_
        refine zb_goto E dX7_next_221 (tgt := 172) rfl ?_
        exact ih (v_stop + 1) h
theorem c_X7_next_b224 {C : zC} {I : Nat → Nat → Int32} {J : Nat → Nat → Int64} {Rr : Nat → Nat → Option Nat} {D : zD} (N : Nat) (v_length : Int32) (e_v_length : I 33 3 = v_length) (v_tape : (Nat → Int32)) (e_v_tape : I 34 = v_tape) (y_v_at : Int32) (y_v_kind : Int32) (y_v_stop : Int32) (E : zE C RX7 cX7_next 3 none ({ frames := 0, cells := 0, slots := 0, locals := 0 } : Room)) (hQ : C.Q = zQv C ({ frames := 0, cells := 0, slots := 0, locals := 0 } : Room) ((va_up I 33 (va_up (va_up (va_up (I 33) 6 y_v_kind) 7 y_v_at) 8 y_v_stop)), J, Rr, D)) (x1 : Int32) (x2 : Int32) (v_at : Int32) (v_kind : Int32) (v_stop : Int32) (h : pReader_next_b224 N v_length v_tape x1 x2 v_at v_kind v_stop = some (y_v_at, y_v_kind, y_v_stop)) : zB C (0, 0) 224 [(0, .ref (C.X.1 + 33)), (1, .int x1), (2, .int x2)] [] ((va_up I 33 (va_up (va_up (va_up (I 33) 6 v_kind) 7 v_at) 8 v_stop)), J, Rr, D) := by
  refine zb_aload_n E dX7_next_224 0 rfl rfl ?_
  refine zb_iconst E dX7_next_225 (v := 2) rfl ?_
  refine zb_put E 33 (by decide) (zF_33 C.X) rfl zin7 6 (by decide) zw_144 tyX7 tyX7_ok nmX7 rfl rfl rfl (I2 := (va_up I 33 (va_up (va_up (va_up (I 33) 6 2) 7 v_at) 8 v_stop))) (J2 := J) ((zset7_6 C.X (va_up (va_up (va_up (I 33) 6 v_kind) 7 v_at) 8 v_stop) (J 33) 2).trans (congrArg (fun g => zf7 C.X g (J 33)) (zn3 (by decide : (8 : Nat) ≠ 6) (by decide : (7 : Nat) ≠ 6)))) (by rw [zflen7]; decide) (fun j hj => ⟨(zup_n hj).trans (zup_n hj).symm, rfl⟩) dX7_next_226 ?_
  exact c_X7_next_b229 N v_length e_v_length v_tape e_v_tape y_v_at y_v_kind y_v_stop E hQ x1 x2 v_at 2 v_stop h
theorem c_X7_next_b156 {C : zC} {I : Nat → Nat → Int32} {J : Nat → Nat → Int64} {Rr : Nat → Nat → Option Nat} {D : zD} (N : Nat) (v_length : Int32) (e_v_length : I 33 3 = v_length) (v_tape : (Nat → Int32)) (e_v_tape : I 34 = v_tape) (y_v_at : Int32) (y_v_kind : Int32) (y_v_stop : Int32) (E : zE C RX7 cX7_next 3 none ({ frames := 0, cells := 0, slots := 0, locals := 0 } : Room)) (hQ : C.Q = zQv C ({ frames := 0, cells := 0, slots := 0, locals := 0 } : Room) ((va_up I 33 (va_up (va_up (va_up (I 33) 6 y_v_kind) 7 y_v_at) 8 y_v_stop)), J, Rr, D)) (x1 : Int32) (x2 : Int32) (v_at : Int32) (v_kind : Int32) (v_stop : Int32) (h : pReader_next_b156 N v_length v_tape x1 x2 v_at v_kind v_stop = some (y_v_at, y_v_kind, y_v_stop)) : zB C (0, 0) 156 [(0, .ref (C.X.1 + 33)), (1, .int x1), (2, .int x2)] [] ((va_up I 33 (va_up (va_up (va_up (I 33) 6 v_kind) 7 v_at) 8 v_stop)), J, Rr, D) := by
  refine zb_aload_n E dX7_next_156 0 rfl rfl ?_
  refine zb_iconst E dX7_next_157 (v := 1) rfl ?_
  refine zb_put E 33 (by decide) (zF_33 C.X) rfl zin7 6 (by decide) zw_144 tyX7 tyX7_ok nmX7 rfl rfl rfl (I2 := (va_up I 33 (va_up (va_up (va_up (I 33) 6 1) 7 v_at) 8 v_stop))) (J2 := J) ((zset7_6 C.X (va_up (va_up (va_up (I 33) 6 v_kind) 7 v_at) 8 v_stop) (J 33) 1).trans (congrArg (fun g => zf7 C.X g (J 33)) (zn3 (by decide : (8 : Nat) ≠ 6) (by decide : (7 : Nat) ≠ 6)))) (by rw [zflen7]; decide) (fun j hj => ⟨(zup_n hj).trans (zup_n hj).symm, rfl⟩) dX7_next_158 ?_
  refine zb_aload_n E dX7_next_161 0 rfl rfl ?_
  refine zb_get E 33 (by decide) (zF_33 C.X) rfl zin7 8 (by decide) zw_146 (v := .int v_stop) rfl dX7_next_162 ?_
  refine zb_aload_n E dX7_next_165 0 rfl rfl ?_
  refine zb_get E 33 (by decide) (zF_33 C.X) rfl zin7 7 (by decide) zw_145 (v := .int v_at) rfl dX7_next_166 ?_
  refine zb_icmp_ne E dX7_next_169 (tgt := 229) rfl (fun hc => ?_) (fun hc => ?_)
  · have h := if_f h hc
    exact c_X7_next_b229 N v_length e_v_length v_tape e_v_tape y_v_at y_v_kind y_v_stop E hQ x1 x2 v_at 1 v_stop h
  · have h := if_t h hc
    exact c_X7_next_b172 N v_length e_v_length v_tape e_v_tape y_v_at y_v_kind y_v_stop E hQ x1 x2 v_at 1 _ (fun v_stop_z3 h => c_X7_next_b224 N v_length e_v_length v_tape e_v_tape y_v_at y_v_kind y_v_stop E hQ x1 x2 v_at 1 v_stop_z3 h) _ v_stop h
theorem c_X7_next_b79 {C : zC} {I : Nat → Nat → Int32} {J : Nat → Nat → Int64} {Rr : Nat → Nat → Option Nat} {D : zD} (N : Nat) (v_length : Int32) (e_v_length : I 33 3 = v_length) (v_tape : (Nat → Int32)) (e_v_tape : I 34 = v_tape) (y_v_at : Int32) (y_v_kind : Int32) (y_v_stop : Int32) (E : zE C RX7 cX7_next 3 none ({ frames := 0, cells := 0, slots := 0, locals := 0 } : Room)) (hQ : C.Q = zQv C ({ frames := 0, cells := 0, slots := 0, locals := 0 } : Room) ((va_up I 33 (va_up (va_up (va_up (I 33) 6 y_v_kind) 7 y_v_at) 8 y_v_stop)), J, Rr, D)) (x1 : Int32) (x2 : Int32) (v_at : Int32) (v_kind : Int32) (v_stop : Int32) (h : pReader_next_b79 N v_length v_tape x1 x2 v_at v_kind v_stop = some (y_v_at, y_v_kind, y_v_stop)) : zB C (0, 0) 79 [(0, .ref (C.X.1 + 33)), (1, .int x1), (2, .int x2)] [] ((va_up I 33 (va_up (va_up (va_up (I 33) 6 v_kind) 7 v_at) 8 v_stop)), J, Rr, D) := by
  refine zb_aload_n E dX7_next_79 0 rfl rfl ?_
  refine zb_aload_n E dX7_next_80 0 rfl rfl ?_
  refine zb_get E 33 (by decide) (zF_33 C.X) rfl zin7 8 (by decide) zw_146 (v := .int v_stop) rfl dX7_next_81 ?_
  refine zb_put E 33 (by decide) (zF_33 C.X) rfl zin7 7 (by decide) zw_145 tyX7 tyX7_ok nmX7 rfl rfl rfl (I2 := (va_up I 33 (va_up (va_up (va_up (I 33) 6 v_kind) 7 v_stop) 8 v_stop))) (J2 := J) ((zset7_7 C.X (va_up (va_up (va_up (I 33) 6 v_kind) 7 v_at) 8 v_stop) (J 33) v_stop).trans (congrArg (fun g => zf7 C.X g (J 33)) (zn2 (by decide : (8 : Nat) ≠ 7)))) (by rw [zflen7]; decide) (fun j hj => ⟨(zup_n hj).trans (zup_n hj).symm, rfl⟩) dX7_next_84 ?_
  refine zb_aload_n E dX7_next_87 0 rfl rfl ?_
  refine zb_get E 33 (by decide) (zF_33 C.X) rfl zin7 7 (by decide) zw_145 (v := .int v_stop) rfl dX7_next_88 ?_
  refine zb_aload_n E dX7_next_91 0 rfl rfl ?_
  refine zb_get E 33 (by decide) (zF_33 C.X) rfl zin7 3 (by decide) zw_141 (v := .int v_length) (by exact congrArg (fun z => some (Value.int z)) e_v_length) dX7_next_92 ?_
  refine zb_icmp_lt E dX7_next_95 (tgt := 104) rfl (fun hc => ?_) (fun hc => ?_)
  · have h := if_t h hc
    exact c_X7_next_b104 N v_length e_v_length v_tape e_v_tape y_v_at y_v_kind y_v_stop E hQ x1 x2 v_stop v_kind _ (fun v_stop_z2 h => c_X7_next_b156 N v_length e_v_length v_tape e_v_tape y_v_at y_v_kind y_v_stop E hQ x1 x2 v_stop v_kind v_stop_z2 h) _ v_stop h
  · have h := if_f h hc
    refine zb_aload_n E dX7_next_98 0 rfl rfl ?_
    refine zb_iconst E dX7_next_99 (v := 0) rfl ?_
    refine zb_put E 33 (by decide) (zF_33 C.X) rfl zin7 6 (by decide) zw_144 tyX7 tyX7_ok nmX7 rfl rfl rfl (I2 := (va_up I 33 (va_up (va_up (va_up (I 33) 6 0) 7 v_stop) 8 v_stop))) (J2 := J) ((zset7_6 C.X (va_up (va_up (va_up (I 33) 6 v_kind) 7 v_stop) 8 v_stop) (J 33) 0).trans (congrArg (fun g => zf7 C.X g (J 33)) (zn3 (by decide : (8 : Nat) ≠ 6) (by decide : (7 : Nat) ≠ 6)))) (by rw [zflen7]; decide) (fun j hj => ⟨(zup_n hj).trans (zup_n hj).symm, rfl⟩) dX7_next_100 ?_
    obtain ⟨rfl, rfl, rfl⟩ := zinj3 h
    exact zb_vret E hQ rfl ⟨Nat.zero_le _, Nat.zero_le _⟩ dX7_next_103
theorem c_X7_next_0 {C : zC} {I : Nat → Nat → Int32} {J : Nat → Nat → Int64} {Rr : Nat → Nat → Option Nat} {D : zD} (N : Nat) (v_length : Int32) (e_v_length : I 33 3 = v_length) (v_tape : (Nat → Int32)) (e_v_tape : I 34 = v_tape) (y_v_at : Int32) (y_v_kind : Int32) (y_v_stop : Int32) (E : zE C RX7 cX7_next 3 none ({ frames := 0, cells := 0, slots := 0, locals := 0 } : Room)) (hQ : C.Q = zQv C ({ frames := 0, cells := 0, slots := 0, locals := 0 } : Room) ((va_up I 33 (va_up (va_up (va_up (I 33) 6 y_v_kind) 7 y_v_at) 8 y_v_stop)), J, Rr, D)) (v_at : Int32) (v_kind : Int32) (v_stop : Int32) (h : pReader_next N v_at v_kind v_length v_stop v_tape = some (y_v_at, y_v_kind, y_v_stop)) : zB C (0, 0) 0 [(0, .ref (C.X.1 + 33))] [] ((va_up I 33 (va_up (va_up (va_up (I 33) 6 v_kind) 7 v_at) 8 v_stop)), J, Rr, D) := by
  refine zb_aload_n E dX7_next_0 0 rfl rfl ?_
  refine zb_get E 33 (by decide) (zF_33 C.X) rfl zin7 8 (by decide) zw_146 (v := .int v_stop) rfl dX7_next_1 ?_
  refine zb_istore_n E dX7_next_4 rfl (by decide) (lv2 := [(1, .int v_stop), (0, .ref (C.X.1 + 33))]) rfl ?_
  refine zb_aload_n E dX7_next_5 1 rfl rfl ?_
  refine zb_get E 33 (by decide) (zF_33 C.X) rfl zin7 6 (by decide) zw_144 (v := .int v_kind) rfl dX7_next_6 ?_
  refine zb_iconst E dX7_next_9 (v := 1) rfl ?_
  refine zb_icmp_eq E dX7_next_10 (tgt := 21) rfl (fun hc => ?_) (fun hc => ?_)
  · have h := if_t h hc
    refine zb_iconst E dX7_next_21 (v := 1) rfl ?_
    refine zb_goto E dX7_next_22 (tgt := 26) rfl ?_
    refine zb_istore_n E dX7_next_26 rfl (by decide) (lv2 := [(2, .int 1), (1, .int v_stop), (0, .ref (C.X.1 + 33))]) rfl ?_
    refine zb_sub [2, 1, 0] rfl ?_
    exact c_X7_next_b27 N v_length e_v_length v_tape e_v_tape y_v_at y_v_kind y_v_stop E hQ v_stop 1 v_at v_kind _ (fun v_stop_z1 h => c_X7_next_b79 N v_length e_v_length v_tape e_v_tape y_v_at y_v_kind y_v_stop E hQ v_stop 1 v_at v_kind v_stop_z1 h) _ v_stop h
  · have h := if_f h hc
    refine zb_aload_n E dX7_next_13 1 rfl rfl ?_
    refine zb_get E 33 (by decide) (zF_33 C.X) rfl zin7 6 (by decide) zw_144 (v := .int v_kind) rfl dX7_next_14 ?_
    refine zb_iconst E dX7_next_17 (v := 2) rfl ?_
    refine zb_icmp_ne E dX7_next_18 (tgt := 25) rfl (fun hc => ?_) (fun hc => ?_)
    · have h := if_f h hc
      refine zb_iconst E dX7_next_25 (v := 0) rfl ?_
      refine zb_istore_n E dX7_next_26 rfl (by decide) (lv2 := [(2, .int 0), (1, .int v_stop), (0, .ref (C.X.1 + 33))]) rfl ?_
      refine zb_sub [2, 1, 0] rfl ?_
      exact c_X7_next_b27 N v_length e_v_length v_tape e_v_tape y_v_at y_v_kind y_v_stop E hQ v_stop 0 v_at v_kind _ (fun v_stop_z4 h => c_X7_next_b79 N v_length e_v_length v_tape e_v_tape y_v_at y_v_kind y_v_stop E hQ v_stop 0 v_at v_kind v_stop_z4 h) _ v_stop h
    · have h := if_t h hc
      refine zb_iconst E dX7_next_21 (v := 1) rfl ?_
      refine zb_goto E dX7_next_22 (tgt := 26) rfl ?_
      refine zb_istore_n E dX7_next_26 rfl (by decide) (lv2 := [(2, .int 1), (1, .int v_stop), (0, .ref (C.X.1 + 33))]) rfl ?_
      refine zb_sub [2, 1, 0] rfl ?_
      exact c_X7_next_b27 N v_length e_v_length v_tape e_v_tape y_v_at y_v_kind y_v_stop E hQ v_stop 1 v_at v_kind _ (fun v_stop_z5 h => c_X7_next_b79 N v_length e_v_length v_tape e_v_tape y_v_at y_v_kind y_v_stop E hQ v_stop 1 v_at v_kind v_stop_z5 h) _ v_stop h
theorem c_X7_next {l : Launch} {X : zX} {I : Nat → Nat → Int32} {J : Nat → Nat → Int64} {Rr : Nat → Nat → Option Nat} {D : zD} {N : Nat} (oI33 : Nat → Int32) (eoI33 : I 33 = oI33) (v_length : Int32) (e_v_length : I 33 3 = v_length) (v_tape : (Nat → Int32)) (e_v_tape : I 34 = v_tape) (v_at : Int32) (e_v_at : I 33 7 = v_at) (v_kind : Int32) (e_v_kind : I 33 6 = v_kind) (v_stop : Int32) (e_v_stop : I 33 8 = v_stop) {y_v_at : Int32} {y_v_kind : Int32} {y_v_stop : Int32} (h : pReader_next N v_at v_kind v_length v_stop v_tape = some (y_v_at, y_v_kind, y_v_stop)) : zMv l yX7_next cX7_next 3 none ({ frames := 0, cells := 0, slots := 0, locals := 0 } : Room) X [.ref (X.1 + 33)] (I, J, Rr, D) ((va_up I 33 (va_up (va_up (va_up oI33 6 y_v_kind) 7 y_v_at) 8 y_v_stop)), J, Rr, D) := by
  subst eoI33
  refine zMv.of (by decide) (Nat.le_of_ble_eq_true rfl) (fun C E hl hX hQ => ?_)
  subst hl
  subst hX
  have eI0 : (va_up I 33 (va_up (va_up (va_up (I 33) 6 v_kind) 7 v_at) 8 v_stop)) = I := by rw [zup_idE e_v_kind, zup_idE e_v_at, zup_idE e_v_stop, zup_id]
  have eJ0 : J = J := rfl
  refine zb_S (S2 := ((va_up I 33 (va_up (va_up (va_up (I 33) 6 v_kind) 7 v_at) 8 v_stop)), J, Rr, D)) (zS_eq eI0.symm eJ0.symm) ?_
  exact c_X7_next_0 N v_length e_v_length v_tape e_v_tape y_v_at y_v_kind y_v_stop E hQ v_at v_kind v_stop h
-- ChequeredCloth$Reader.takeWord
theorem dX7_takeWord_0 : decode cX7_takeWord 0 = .ok (.aload_n 0, 1) := by decide +kernel
theorem dX7_takeWord_1 : decode cX7_takeWord 1 = .ok (.getfield 44, 3) := by decide +kernel
theorem dX7_takeWord_4 : decode cX7_takeWord 4 = .ok (.iconst 1, 1) := by decide +kernel
theorem dX7_takeWord_5 : decode cX7_takeWord 5 = .ok (.if_icmp .ne 19, 3) := by decide +kernel
theorem dX7_takeWord_8 : decode cX7_takeWord 8 = .ok (.aload_n 0, 1) := by decide +kernel
theorem dX7_takeWord_9 : decode cX7_takeWord 9 = .ok (.getfield 47, 3) := by decide +kernel
theorem dX7_takeWord_12 : decode cX7_takeWord 12 = .ok (.aload_n 0, 1) := by decide +kernel
theorem dX7_takeWord_13 : decode cX7_takeWord 13 = .ok (.getfield 57, 3) := by decide +kernel
theorem dX7_takeWord_16 : decode cX7_takeWord 16 = .ok (.isub, 1) := by decide +kernel
theorem dX7_takeWord_17 : decode cX7_takeWord 17 = .ok (.aload_n 1, 1) := by decide +kernel
theorem dX7_takeWord_18 : decode cX7_takeWord 18 = .ok (.invokevirtual 194, 3) := by decide +kernel
theorem dX7_takeWord_21 : decode cX7_takeWord 21 = .ok (.if_icmp .eq 5, 3) := by decide +kernel
theorem dX7_takeWord_24 : decode cX7_takeWord 24 = .ok (.iconst 0, 1) := by decide +kernel
theorem dX7_takeWord_25 : decode cX7_takeWord 25 = .ok (.ireturn, 1) := by decide +kernel
theorem dX7_takeWord_26 : decode cX7_takeWord 26 = .ok (.iconst 0, 1) := by decide +kernel
theorem dX7_takeWord_27 : decode cX7_takeWord 27 = .ok (.istore_n 2, 1) := by decide +kernel
theorem dX7_takeWord_28 : decode cX7_takeWord 28 = .ok (.iload_n 2, 1) := by decide +kernel
theorem dX7_takeWord_29 : decode cX7_takeWord 29 = .ok (.aload_n 1, 1) := by decide +kernel
theorem dX7_takeWord_30 : decode cX7_takeWord 30 = .ok (.invokevirtual 194, 3) := by decide +kernel
theorem dX7_takeWord_33 : decode cX7_takeWord 33 = .ok (.if_icmp .ge 30, 3) := by decide +kernel
theorem dX7_takeWord_36 : decode cX7_takeWord 36 = .ok (.aload_n 0, 1) := by decide +kernel
theorem dX7_takeWord_37 : decode cX7_takeWord 37 = .ok (.getfield 11, 3) := by decide +kernel
theorem dX7_takeWord_40 : decode cX7_takeWord 40 = .ok (.aload_n 0, 1) := by decide +kernel
theorem dX7_takeWord_41 : decode cX7_takeWord 41 = .ok (.getfield 57, 3) := by decide +kernel
theorem dX7_takeWord_44 : decode cX7_takeWord 44 = .ok (.iload_n 2, 1) := by decide +kernel
theorem dX7_takeWord_45 : decode cX7_takeWord 45 = .ok (.iadd, 1) := by decide +kernel
theorem dX7_takeWord_46 : decode cX7_takeWord 46 = .ok (.caload, 1) := by decide +kernel
theorem dX7_takeWord_47 : decode cX7_takeWord 47 = .ok (.aload_n 1, 1) := by decide +kernel
theorem dX7_takeWord_48 : decode cX7_takeWord 48 = .ok (.iload_n 2, 1) := by decide +kernel
theorem dX7_takeWord_49 : decode cX7_takeWord 49 = .ok (.invokevirtual 198, 3) := by decide +kernel
theorem dX7_takeWord_52 : decode cX7_takeWord 52 = .ok (.if_icmp .eq 5, 3) := by decide +kernel
theorem dX7_takeWord_55 : decode cX7_takeWord 55 = .ok (.iconst 0, 1) := by decide +kernel
theorem dX7_takeWord_56 : decode cX7_takeWord 56 = .ok (.ireturn, 1) := by decide +kernel
theorem dX7_takeWord_57 : decode cX7_takeWord 57 = .ok (.iinc 2 1, 3) := by decide +kernel
theorem dX7_takeWord_60 : decode cX7_takeWord 60 = .ok (.goto (-32), 3) := by decide +kernel
theorem dX7_takeWord_63 : decode cX7_takeWord 63 = .ok (.aload_n 0, 1) := by decide +kernel
theorem dX7_takeWord_64 : decode cX7_takeWord 64 = .ok (.invokevirtual 50, 3) := by decide +kernel
theorem dX7_takeWord_67 : decode cX7_takeWord 67 = .ok (.iconst 1, 1) := by decide +kernel
theorem dX7_takeWord_68 : decode cX7_takeWord 68 = .ok (.ireturn, 1) := by decide +kernel
theorem zy_X7_takeWord : zYv yX7_takeWord cX7_takeWord 3 (some .boolean) 1 := ⟨zw_689, zws_14, zw_6, zw_690, by decide, by decide, by decide⟩
theorem c_X7_takeWord_b28 {C : zC} {I : Nat → Nat → Int32} {J : Nat → Nat → Int64} {Rr : Nat → Nat → Option Nat} {D : zD} (N : Nat) (a1 : Nat) (ha1 : a1 < 21) (v_length : Int32) (e_v_length : I 33 3 = v_length) (v_tape : (Nat → Int32)) (e_v_tape : I 34 = v_tape) (rr : Int32) (y_v_at : Int32) (y_v_kind : Int32) (y_v_stop : Int32) (E : zE C RX7 cX7_takeWord 3 (some .boolean) ({ frames := 4, cells := 0, slots := 0, locals := 85 } : Room)) (hQ : C.Q = zQi C ({ frames := 4, cells := 0, slots := 0, locals := 85 } : Room) rr ((va_up I 33 (va_up (va_up (va_up (I 33) 6 y_v_kind) 7 y_v_at) 8 y_v_stop)), J, Rr, D)) (v_at : Int32) (v_kind : Int32) (v_stop : Int32) (k63 : Option R_pReader_takeWord) (hk63 : k63 = some (rr, y_v_at, y_v_kind, y_v_stop) → zB C (0, 0) 63 [(0, .ref (C.X.1 + 33))] [] ((va_up I 33 (va_up (va_up (va_up (I 33) 6 v_kind) 7 v_at) 8 v_stop)), J, Rr, D)) : ∀ (n9 : Nat) (x2 : Int32), pReader_takeWord_b28 N a1 v_length v_tape v_at v_kind v_stop k63 n9 x2 = some (rr, y_v_at, y_v_kind, y_v_stop) → zB C (0, 0) 28 [(0, .ref (C.X.1 + 33)), (1, .ref (C.X.2.2.2.2.1 a1)), (2, .int x2)] [] ((va_up I 33 (va_up (va_up (va_up (I 33) 6 v_kind) 7 v_at) 8 v_stop)), J, Rr, D) := by
  refine zlp1_ind (P := fun (x2 : Int32) => zB C (0, 0) 28 [(0, .ref (C.X.1 + 33)), (1, .ref (C.X.2.2.2.2.1 a1)), (2, .int x2)] [] ((va_up I 33 (va_up (va_up (va_up (I 33) 6 v_kind) 7 v_at) 8 v_stop)), J, Rr, D)) (fun self ih => ?_)
  intro x2 h
  refine zb_iload_n E dX7_takeWord_28 2 rfl rfl ?_
  refine zb_aload_n E dX7_takeWord_29 1 rfl rfl ?_
  refine zb_cSTi E [] a1 ha1 rfl zy_J0_length_8abf5 zw_691 (c_J0_length_8abf5 ha1) (by decide) rfl rfl (by first | decide | simp [Value.category]) dX7_takeWord_30 (cs2 := (0, 0)) rfl ?_
  refine zb_icmp_ge E dX7_takeWord_33 (tgt := 63) rfl (fun hc => ?_) (fun hc => ?_)
  · have h := if_t h hc
    refine zb_sub [0] rfl ?_
    exact hk63 h
  · have h := if_f h hc
    refine zb_aload_n E dX7_takeWord_36 0 rfl rfl ?_
    refine zb_get E 33 (by decide) (zF_33 C.X) rfl zin7 0 (by decide) zw_138 (v := .ref (C.X.1 + 34)) rfl dX7_takeWord_37 ?_
    refine zb_aload_n E dX7_takeWord_40 0 rfl rfl ?_
    refine zb_get E 33 (by decide) (zF_33 C.X) rfl zin7 7 (by decide) zw_145 (v := .int v_at) rfl dX7_takeWord_41 ?_
    refine zb_iload_n E dX7_takeWord_44 2 rfl rfl ?_
    refine zb_iadd E dX7_takeWord_45 ?_
    obtain ⟨g1, h⟩ := gd_s h
    refine zb_cald E 34 (by decide) zF_34 (f := v_tape) (by exact e_v_tape) (ib_in g1) dX7_takeWord_46 ?_
    refine zb_aload_n E dX7_takeWord_47 1 rfl rfl ?_
    refine zb_iload_n E dX7_takeWord_48 2 rfl rfl ?_
    obtain ⟨g2, h⟩ := gd_s h
    refine zb_cSTi E [.int x2] a1 ha1 rfl zy_J0_charAt_5068e zw_701 (c_J0_charAt_5068e ha1 (ib_in g2)) (by decide) rfl rfl (by first | decide | simp [Value.category]) dX7_takeWord_49 (cs2 := (0, 0)) rfl ?_
    refine zb_icmp_eq E dX7_takeWord_52 (tgt := 57) rfl (fun hc => ?_) (fun hc => ?_)
    · have h := if_t h hc
      refine zb_iinc E dX7_takeWord_57 2 rfl (v := (x2 + 1)) rfl (by decide) (lv2 := [(2, .int (x2 + 1)), (0, .ref (C.X.1 + 33)), (1, .ref (C.X.2.2.2.2.1 a1))]) rfl ?_
      refine zb_goto E dX7_takeWord_60 (tgt := 28) rfl ?_
      refine zb_sub [1, 2, 0] rfl ?_
      exact ih (x2 + 1) h
    · have h := if_f h hc
      refine zb_iconst E dX7_takeWord_55 (v := 0) rfl ?_
      obtain ⟨rfl, rfl, rfl, rfl⟩ := zinj4 h
      exact zb_zret E hQ (ty := .boolean) rfl rfl ⟨Nat.zero_le _, Nat.zero_le _⟩ dX7_takeWord_56
theorem c_X7_takeWord_b63 {C : zC} {I : Nat → Nat → Int32} {J : Nat → Nat → Int64} {Rr : Nat → Nat → Option Nat} {D : zD} (N : Nat) (a1 : Nat) (ha1 : a1 < 21) (v_length : Int32) (e_v_length : I 33 3 = v_length) (v_tape : (Nat → Int32)) (e_v_tape : I 34 = v_tape) (rr : Int32) (y_v_at : Int32) (y_v_kind : Int32) (y_v_stop : Int32) (E : zE C RX7 cX7_takeWord 3 (some .boolean) ({ frames := 4, cells := 0, slots := 0, locals := 85 } : Room)) (hQ : C.Q = zQi C ({ frames := 4, cells := 0, slots := 0, locals := 85 } : Room) rr ((va_up I 33 (va_up (va_up (va_up (I 33) 6 y_v_kind) 7 y_v_at) 8 y_v_stop)), J, Rr, D)) (v_at : Int32) (v_kind : Int32) (v_stop : Int32) (h : pReader_takeWord_b63 N a1 v_length v_tape v_at v_kind v_stop = some (rr, y_v_at, y_v_kind, y_v_stop)) : zB C (0, 0) 63 [(0, .ref (C.X.1 + 33))] [] ((va_up I 33 (va_up (va_up (va_up (I 33) 6 v_kind) 7 v_at) 8 v_stop)), J, Rr, D) := by
  refine zb_aload_n E dX7_takeWord_63 0 rfl rfl ?_
  obtain ⟨v_at_c3, v_kind_c3, v_stop_c3, hc_64, h⟩ := bd3_s h
  refine zb_cVv E [] 33 zy_X7_next zw_640 (by decide) (zF_33 _ _ _ _) rfl (c_X7_next (va_up (va_up (va_up (I 33) 6 v_kind) 7 v_at) 8 v_stop) rfl v_length (by exact e_v_length) v_tape (by exact e_v_tape) v_at rfl v_kind rfl v_stop rfl hc_64) (by decide) rfl rfl (by first | decide | simp [Value.category]) dX7_takeWord_64 (cs2 := (0, 0)) rfl ?_
  refine zb_S (S2 := ((va_up I 33 (va_up (va_up (va_up (I 33) 6 v_kind_c3) 7 v_at_c3) 8 v_stop_c3)), J, Rr, D)) (zS_eq ((zcgV ((zcgF ((zcgF (zn3 (by decide : (8 : Nat) ≠ 6) (by decide : (7 : Nat) ≠ 6))).trans (zn2 (by decide : (8 : Nat) ≠ 7)))).trans zn1)).trans zn1) rfl) ?_
  refine zb_iconst E dX7_takeWord_67 (v := 1) rfl ?_
  obtain ⟨rfl, rfl, rfl, rfl⟩ := zinj4 h
  exact zb_zret E hQ (ty := .boolean) rfl rfl ⟨Nat.zero_le _, Nat.zero_le _⟩ dX7_takeWord_68
theorem c_X7_takeWord_0 {C : zC} {I : Nat → Nat → Int32} {J : Nat → Nat → Int64} {Rr : Nat → Nat → Option Nat} {D : zD} (N : Nat) (a1 : Nat) (ha1 : a1 < 21) (v_length : Int32) (e_v_length : I 33 3 = v_length) (v_tape : (Nat → Int32)) (e_v_tape : I 34 = v_tape) (rr : Int32) (y_v_at : Int32) (y_v_kind : Int32) (y_v_stop : Int32) (E : zE C RX7 cX7_takeWord 3 (some .boolean) ({ frames := 4, cells := 0, slots := 0, locals := 85 } : Room)) (hQ : C.Q = zQi C ({ frames := 4, cells := 0, slots := 0, locals := 85 } : Room) rr ((va_up I 33 (va_up (va_up (va_up (I 33) 6 y_v_kind) 7 y_v_at) 8 y_v_stop)), J, Rr, D)) (v_at : Int32) (v_kind : Int32) (v_stop : Int32) (h : pReader_takeWord N a1 v_at v_kind v_length v_stop v_tape = some (rr, y_v_at, y_v_kind, y_v_stop)) : zB C (0, 0) 0 [(0, .ref (C.X.1 + 33)), (1, .ref (C.X.2.2.2.2.1 a1))] [] ((va_up I 33 (va_up (va_up (va_up (I 33) 6 v_kind) 7 v_at) 8 v_stop)), J, Rr, D) := by
  refine zb_aload_n E dX7_takeWord_0 0 rfl rfl ?_
  refine zb_get E 33 (by decide) (zF_33 C.X) rfl zin7 6 (by decide) zw_144 (v := .int v_kind) rfl dX7_takeWord_1 ?_
  refine zb_iconst E dX7_takeWord_4 (v := 1) rfl ?_
  refine zb_icmp_ne E dX7_takeWord_5 (tgt := 24) rfl (fun hc => ?_) (fun hc => ?_)
  · have h := if_f h hc
    refine zb_iconst E dX7_takeWord_24 (v := 0) rfl ?_
    obtain ⟨rfl, rfl, rfl, rfl⟩ := zinj4 h
    exact zb_zret E hQ (ty := .boolean) rfl rfl ⟨Nat.zero_le _, Nat.zero_le _⟩ dX7_takeWord_25
  · have h := if_t h hc
    refine zb_aload_n E dX7_takeWord_8 0 rfl rfl ?_
    refine zb_get E 33 (by decide) (zF_33 C.X) rfl zin7 8 (by decide) zw_146 (v := .int v_stop) rfl dX7_takeWord_9 ?_
    refine zb_aload_n E dX7_takeWord_12 0 rfl rfl ?_
    refine zb_get E 33 (by decide) (zF_33 C.X) rfl zin7 7 (by decide) zw_145 (v := .int v_at) rfl dX7_takeWord_13 ?_
    refine zb_isub E dX7_takeWord_16 ?_
    refine zb_aload_n E dX7_takeWord_17 1 rfl rfl ?_
    refine zb_cSTi E [] a1 ha1 rfl zy_J0_length_8abf5 zw_691 (c_J0_length_8abf5 ha1) (by decide) rfl rfl (by first | decide | simp [Value.category]) dX7_takeWord_18 (cs2 := (0, 0)) rfl ?_
    refine zb_icmp_eq E dX7_takeWord_21 (tgt := 26) rfl (fun hc => ?_) (fun hc => ?_)
    · have h := if_t h hc
      refine zb_iconst E dX7_takeWord_26 (v := 0) rfl ?_
      refine zb_istore_n E dX7_takeWord_27 rfl (by decide) (lv2 := [(2, .int 0), (0, .ref (C.X.1 + 33)), (1, .ref (C.X.2.2.2.2.1 a1))]) rfl ?_
      refine zb_sub [1, 2, 0] rfl ?_
      exact c_X7_takeWord_b28 N a1 ha1 v_length e_v_length v_tape e_v_tape rr y_v_at y_v_kind y_v_stop E hQ v_at v_kind v_stop _ (fun h => c_X7_takeWord_b63 N a1 ha1 v_length e_v_length v_tape e_v_tape rr y_v_at y_v_kind y_v_stop E hQ v_at v_kind v_stop h) _ 0 h
    · have h := if_f h hc
      refine zb_iconst E dX7_takeWord_24 (v := 0) rfl ?_
      obtain ⟨rfl, rfl, rfl, rfl⟩ := zinj4 h
      exact zb_zret E hQ (ty := .boolean) rfl rfl ⟨Nat.zero_le _, Nat.zero_le _⟩ dX7_takeWord_25
theorem c_X7_takeWord {l : Launch} {X : zX} {I : Nat → Nat → Int32} {J : Nat → Nat → Int64} {Rr : Nat → Nat → Option Nat} {D : zD} {N : Nat} {a1 : Nat} (ha1 : a1 < 21) (oI33 : Nat → Int32) (eoI33 : I 33 = oI33) (v_length : Int32) (e_v_length : I 33 3 = v_length) (v_tape : (Nat → Int32)) (e_v_tape : I 34 = v_tape) (v_at : Int32) (e_v_at : I 33 7 = v_at) (v_kind : Int32) (e_v_kind : I 33 6 = v_kind) (v_stop : Int32) (e_v_stop : I 33 8 = v_stop) {rr : Int32} {y_v_at : Int32} {y_v_kind : Int32} {y_v_stop : Int32} (h : pReader_takeWord N a1 v_at v_kind v_length v_stop v_tape = some (rr, y_v_at, y_v_kind, y_v_stop)) : zMi l yX7_takeWord cX7_takeWord 3 (some .boolean) ({ frames := 4, cells := 0, slots := 0, locals := 85 } : Room) X [.ref (X.1 + 33), .ref (X.2.2.2.2.1 a1)] (I, J, Rr, D) rr ((va_up I 33 (va_up (va_up (va_up oI33 6 y_v_kind) 7 y_v_at) 8 y_v_stop)), J, Rr, D) := by
  subst eoI33
  refine zMi.of (by decide) (Nat.le_of_ble_eq_true rfl) (fun C E hl hX hQ => ?_)
  subst hl
  subst hX
  have eI0 : (va_up I 33 (va_up (va_up (va_up (I 33) 6 v_kind) 7 v_at) 8 v_stop)) = I := by rw [zup_idE e_v_kind, zup_idE e_v_at, zup_idE e_v_stop, zup_id]
  have eJ0 : J = J := rfl
  refine zb_S (S2 := ((va_up I 33 (va_up (va_up (va_up (I 33) 6 v_kind) 7 v_at) 8 v_stop)), J, Rr, D)) (zS_eq eI0.symm eJ0.symm) ?_
  exact c_X7_takeWord_0 N a1 ha1 v_length e_v_length v_tape e_v_tape rr y_v_at y_v_kind y_v_stop E hQ v_at v_kind v_stop h
-- ChequeredCloth$Reader.fail
theorem dX7_fail_0 : decode cX7_fail 0 = .ok (.aload_n 0, 1) := by decide +kernel
theorem dX7_fail_1 : decode cX7_fail 1 = .ok (.iload_n 1, 1) := by decide +kernel
theorem dX7_fail_2 : decode cX7_fail 2 = .ok (.putfield 32, 3) := by decide +kernel
theorem dX7_fail_5 : decode cX7_fail 5 = .ok (.aload_n 0, 1) := by decide +kernel
theorem dX7_fail_6 : decode cX7_fail 6 = .ok (.iload_n 2, 1) := by decide +kernel
theorem dX7_fail_7 : decode cX7_fail 7 = .ok (.putfield 25, 3) := by decide +kernel
theorem dX7_fail_10 : decode cX7_fail 10 = .ok (.iconst 0, 1) := by decide +kernel
theorem dX7_fail_11 : decode cX7_fail 11 = .ok (.ireturn, 1) := by decide +kernel
theorem zy_X7_fail : zYv yX7_fail cX7_fail 3 (some .boolean) 2 := ⟨zw_758, zws_19, zw_6, zw_759, by decide, by decide, by decide⟩
theorem c_X7_fail_0 {C : zC} {I : Nat → Nat → Int32} {J : Nat → Nat → Int64} {Rr : Nat → Nat → Option Nat} {D : zD} (a1 : Int32) (a2 : Int32) (rr : Int32) (y_v_fault : Int32) (y_v_faultAt : Int32) (E : zE C RX7 cX7_fail 3 (some .boolean) ({ frames := 0, cells := 0, slots := 0, locals := 0 } : Room)) (hQ : C.Q = zQi C ({ frames := 0, cells := 0, slots := 0, locals := 0 } : Room) rr ((va_up I 33 (va_up (va_up (I 33) 10 y_v_fault) 11 y_v_faultAt)), J, Rr, D)) (v_fault : Int32) (v_faultAt : Int32) (h : pReader_fail a1 a2 v_fault v_faultAt = some (rr, y_v_fault, y_v_faultAt)) : zB C (0, 0) 0 [(0, .ref (C.X.1 + 33)), (1, .int a1), (2, .int a2)] [] ((va_up I 33 (va_up (va_up (I 33) 10 v_fault) 11 v_faultAt)), J, Rr, D) := by
  refine zb_aload_n E dX7_fail_0 0 rfl rfl ?_
  refine zb_iload_n E dX7_fail_1 1 rfl rfl ?_
  refine zb_put E 33 (by decide) (zF_33 C.X) rfl zin7 10 (by decide) zw_148 tyX7 tyX7_ok nmX7 rfl rfl rfl (I2 := (va_up I 33 (va_up (va_up (I 33) 10 a1) 11 v_faultAt))) (J2 := J) ((zset7_10 C.X (va_up (va_up (I 33) 10 v_fault) 11 v_faultAt) (J 33) a1).trans (congrArg (fun g => zf7 C.X g (J 33)) (zn2 (by decide : (11 : Nat) ≠ 10)))) (by rw [zflen7]; decide) (fun j hj => ⟨(zup_n hj).trans (zup_n hj).symm, rfl⟩) dX7_fail_2 ?_
  refine zb_aload_n E dX7_fail_5 0 rfl rfl ?_
  refine zb_iload_n E dX7_fail_6 2 rfl rfl ?_
  refine zb_put E 33 (by decide) (zF_33 C.X) rfl zin7 11 (by decide) zw_149 tyX7 tyX7_ok nmX7 rfl rfl rfl (I2 := (va_up I 33 (va_up (va_up (I 33) 10 a1) 11 a2))) (J2 := J) ((zset7_11 C.X (va_up (va_up (I 33) 10 a1) 11 v_faultAt) (J 33) a2).trans (congrArg (fun g => zf7 C.X g (J 33)) zn1)) (by rw [zflen7]; decide) (fun j hj => ⟨(zup_n hj).trans (zup_n hj).symm, rfl⟩) dX7_fail_7 ?_
  refine zb_iconst E dX7_fail_10 (v := 0) rfl ?_
  obtain ⟨rfl, rfl, rfl⟩ := zinj3 h
  exact zb_zret E hQ (ty := .boolean) rfl rfl ⟨Nat.zero_le _, Nat.zero_le _⟩ dX7_fail_11
theorem c_X7_fail {l : Launch} {X : zX} {I : Nat → Nat → Int32} {J : Nat → Nat → Int64} {Rr : Nat → Nat → Option Nat} {D : zD} {a1 : Int32} {a2 : Int32} (oI33 : Nat → Int32) (eoI33 : I 33 = oI33) (v_fault : Int32) (e_v_fault : I 33 10 = v_fault) (v_faultAt : Int32) (e_v_faultAt : I 33 11 = v_faultAt) {rr : Int32} {y_v_fault : Int32} {y_v_faultAt : Int32} (h : pReader_fail a1 a2 v_fault v_faultAt = some (rr, y_v_fault, y_v_faultAt)) : zMi l yX7_fail cX7_fail 3 (some .boolean) ({ frames := 0, cells := 0, slots := 0, locals := 0 } : Room) X [.ref (X.1 + 33), .int a1, .int a2] (I, J, Rr, D) rr ((va_up I 33 (va_up (va_up oI33 10 y_v_fault) 11 y_v_faultAt)), J, Rr, D) := by
  subst eoI33
  refine zMi.of (by decide) (Nat.le_of_ble_eq_true rfl) (fun C E hl hX hQ => ?_)
  subst hl
  subst hX
  have eI0 : (va_up I 33 (va_up (va_up (I 33) 10 v_fault) 11 v_faultAt)) = I := by rw [zup_idE e_v_fault, zup_idE e_v_faultAt, zup_id]
  have eJ0 : J = J := rfl
  refine zb_S (S2 := ((va_up I 33 (va_up (va_up (I 33) 10 v_fault) 11 v_faultAt)), J, Rr, D)) (zS_eq eI0.symm eJ0.symm) ?_
  exact c_X7_fail_0 a1 a2 rr y_v_fault y_v_faultAt E hQ v_fault v_faultAt h
-- ChequeredCloth$Reader.readNumber
theorem dX7_readNumber_0 : decode cX7_readNumber 0 = .ok (.aload_n 0, 1) := by decide +kernel
theorem dX7_readNumber_1 : decode cX7_readNumber 1 = .ok (.getfield 44, 3) := by decide +kernel
theorem dX7_readNumber_4 : decode cX7_readNumber 4 = .ok (.iconst 2, 1) := by decide +kernel
theorem dX7_readNumber_5 : decode cX7_readNumber 5 = .ok (.if_icmp .eq 15, 3) := by decide +kernel
theorem dX7_readNumber_8 : decode cX7_readNumber 8 = .ok (.aload_n 0, 1) := by decide +kernel
theorem dX7_readNumber_9 : decode cX7_readNumber 9 = .ok (.iconst 1, 1) := by decide +kernel
theorem dX7_readNumber_10 : decode cX7_readNumber 10 = .ok (.aload_n 0, 1) := by decide +kernel
theorem dX7_readNumber_11 : decode cX7_readNumber 11 = .ok (.getfield 57, 3) := by decide +kernel
theorem dX7_readNumber_14 : decode cX7_readNumber 14 = .ok (.invokevirtual 60, 3) := by decide +kernel
theorem dX7_readNumber_17 : decode cX7_readNumber 17 = .ok (.pop, 1) := by decide +kernel
theorem dX7_readNumber_18 : decode cX7_readNumber 18 = .ok (.iconst (-1), 1) := by decide +kernel
theorem dX7_readNumber_19 : decode cX7_readNumber 19 = .ok (.ireturn, 1) := by decide +kernel
theorem dX7_readNumber_20 : decode cX7_readNumber 20 = .ok (.aload_n 0, 1) := by decide +kernel
theorem dX7_readNumber_21 : decode cX7_readNumber 21 = .ok (.getfield 47, 3) := by decide +kernel
theorem dX7_readNumber_24 : decode cX7_readNumber 24 = .ok (.aload_n 0, 1) := by decide +kernel
theorem dX7_readNumber_25 : decode cX7_readNumber 25 = .ok (.getfield 57, 3) := by decide +kernel
theorem dX7_readNumber_28 : decode cX7_readNumber 28 = .ok (.isub, 1) := by decide +kernel
theorem dX7_readNumber_29 : decode cX7_readNumber 29 = .ok (.iconst 5, 1) := by decide +kernel
theorem dX7_readNumber_30 : decode cX7_readNumber 30 = .ok (.if_icmp .le 17, 3) := by decide +kernel
theorem dX7_readNumber_33 : decode cX7_readNumber 33 = .ok (.aload_n 0, 1) := by decide +kernel
theorem dX7_readNumber_34 : decode cX7_readNumber 34 = .ok (.iconst 1, 1) := by decide +kernel
theorem dX7_readNumber_35 : decode cX7_readNumber 35 = .ok (.aload_n 0, 1) := by decide +kernel
theorem dX7_readNumber_36 : decode cX7_readNumber 36 = .ok (.getfield 57, 3) := by decide +kernel
theorem dX7_readNumber_39 : decode cX7_readNumber 39 = .ok (.iconst 5, 1) := by decide +kernel
theorem dX7_readNumber_40 : decode cX7_readNumber 40 = .ok (.iadd, 1) := by decide +kernel
theorem dX7_readNumber_41 : decode cX7_readNumber 41 = .ok (.invokevirtual 60, 3) := by decide +kernel
theorem dX7_readNumber_44 : decode cX7_readNumber 44 = .ok (.pop, 1) := by decide +kernel
theorem dX7_readNumber_45 : decode cX7_readNumber 45 = .ok (.iconst (-1), 1) := by decide +kernel
theorem dX7_readNumber_46 : decode cX7_readNumber 46 = .ok (.ireturn, 1) := by decide +kernel
theorem dX7_readNumber_47 : decode cX7_readNumber 47 = .ok (.iconst 0, 1) := by decide +kernel
theorem dX7_readNumber_48 : decode cX7_readNumber 48 = .ok (.istore_n 3, 1) := by decide +kernel
theorem dX7_readNumber_49 : decode cX7_readNumber 49 = .ok (.aload_n 0, 1) := by decide +kernel
theorem dX7_readNumber_50 : decode cX7_readNumber 50 = .ok (.getfield 57, 3) := by decide +kernel
theorem dX7_readNumber_53 : decode cX7_readNumber 53 = .ok (.istore 4, 2) := by decide +kernel
theorem dX7_readNumber_55 : decode cX7_readNumber 55 = .ok (.iload 4, 2) := by decide +kernel
theorem dX7_readNumber_57 : decode cX7_readNumber 57 = .ok (.aload_n 0, 1) := by decide +kernel
theorem dX7_readNumber_58 : decode cX7_readNumber 58 = .ok (.getfield 47, 3) := by decide +kernel
theorem dX7_readNumber_61 : decode cX7_readNumber 61 = .ok (.if_icmp .ge 25, 3) := by decide +kernel
theorem dX7_readNumber_64 : decode cX7_readNumber 64 = .ok (.iload_n 3, 1) := by decide +kernel
theorem dX7_readNumber_65 : decode cX7_readNumber 65 = .ok (.bipush 10, 2) := by decide +kernel
theorem dX7_readNumber_67 : decode cX7_readNumber 67 = .ok (.imul, 1) := by decide +kernel
theorem dX7_readNumber_68 : decode cX7_readNumber 68 = .ok (.aload_n 0, 1) := by decide +kernel
theorem dX7_readNumber_69 : decode cX7_readNumber 69 = .ok (.getfield 11, 3) := by decide +kernel
theorem dX7_readNumber_72 : decode cX7_readNumber 72 = .ok (.iload 4, 2) := by decide +kernel
theorem dX7_readNumber_74 : decode cX7_readNumber 74 = .ok (.caload, 1) := by decide +kernel
theorem dX7_readNumber_75 : decode cX7_readNumber 75 = .ok (.iadd, 1) := by decide +kernel
theorem dX7_readNumber_76 : decode cX7_readNumber 76 = .ok (.bipush 48, 2) := by decide +kernel
theorem dX7_readNumber_78 : decode cX7_readNumber 78 = .ok (.isub, 1) := by decide +kernel
theorem dX7_readNumber_79 : decode cX7_readNumber 79 = .ok (.istore_n 3, 1) := by decide +kernel
theorem dX7_readNumber_80 : decode cX7_readNumber 80 = .ok (.iinc 4 1, 3) := by decide +kernel
theorem dX7_readNumber_83 : decode cX7_readNumber 83 = .ok (.goto (-28), 3) := by decide +kernel
theorem dX7_readNumber_86 : decode cX7_readNumber 86 = .ok (.iload_n 3, 1) := by decide +kernel
theorem dX7_readNumber_87 : decode cX7_readNumber 87 = .ok (.iload_n 1, 1) := by decide +kernel
theorem dX7_readNumber_88 : decode cX7_readNumber 88 = .ok (.if_icmp .lt 8, 3) := by decide +kernel
theorem dX7_readNumber_91 : decode cX7_readNumber 91 = .ok (.iload_n 3, 1) := by decide +kernel
theorem dX7_readNumber_92 : decode cX7_readNumber 92 = .ok (.iload_n 2, 1) := by decide +kernel
theorem dX7_readNumber_93 : decode cX7_readNumber 93 = .ok (.if_icmp .le 15, 3) := by decide +kernel
theorem dX7_readNumber_96 : decode cX7_readNumber 96 = .ok (.aload_n 0, 1) := by decide +kernel
theorem dX7_readNumber_97 : decode cX7_readNumber 97 = .ok (.iconst 2, 1) := by decide +kernel
theorem dX7_readNumber_98 : decode cX7_readNumber 98 = .ok (.aload_n 0, 1) := by decide +kernel
theorem dX7_readNumber_99 : decode cX7_readNumber 99 = .ok (.getfield 57, 3) := by decide +kernel
theorem dX7_readNumber_102 : decode cX7_readNumber 102 = .ok (.invokevirtual 60, 3) := by decide +kernel
theorem dX7_readNumber_105 : decode cX7_readNumber 105 = .ok (.pop, 1) := by decide +kernel
theorem dX7_readNumber_106 : decode cX7_readNumber 106 = .ok (.iconst (-1), 1) := by decide +kernel
theorem dX7_readNumber_107 : decode cX7_readNumber 107 = .ok (.ireturn, 1) := by decide +kernel
theorem dX7_readNumber_108 : decode cX7_readNumber 108 = .ok (.aload_n 0, 1) := by decide +kernel
theorem dX7_readNumber_109 : decode cX7_readNumber 109 = .ok (.invokevirtual 50, 3) := by decide +kernel
theorem dX7_readNumber_112 : decode cX7_readNumber 112 = .ok (.iload_n 3, 1) := by decide +kernel
theorem dX7_readNumber_113 : decode cX7_readNumber 113 = .ok (.ireturn, 1) := by decide +kernel
theorem zy_X7_readNumber : zYv yX7_readNumber cX7_readNumber 5 (some .int) 2 := ⟨zw_754, zws_18, zw_6, zw_755, by decide, by decide, by decide⟩
theorem c_X7_readNumber_b55 {C : zC} {I : Nat → Nat → Int32} {J : Nat → Nat → Int64} {Rr : Nat → Nat → Option Nat} {D : zD} (N : Nat) (a1 : Int32) (a2 : Int32) (v_length : Int32) (e_v_length : I 33 3 = v_length) (v_tape : (Nat → Int32)) (e_v_tape : I 34 = v_tape) (rr : Int32) (y_v_at : Int32) (y_v_fault : Int32) (y_v_faultAt : Int32) (y_v_kind : Int32) (y_v_stop : Int32) (E : zE C RX7 cX7_readNumber 5 (some .int) ({ frames := 1, cells := 0, slots := 0, locals := 22 } : Room)) (hQ : C.Q = zQi C ({ frames := 1, cells := 0, slots := 0, locals := 22 } : Room) rr ((va_up I 33 (va_up (va_up (va_up (va_up (va_up (I 33) 6 y_v_kind) 7 y_v_at) 8 y_v_stop) 10 y_v_fault) 11 y_v_faultAt)), J, Rr, D)) (v_at : Int32) (v_fault : Int32) (v_faultAt : Int32) (v_kind : Int32) (v_stop : Int32) (k86 : Int32 → Option R_pReader_readNumber) (hk86 : ∀ (x3 : Int32), k86 x3 = some (rr, y_v_at, y_v_fault, y_v_faultAt, y_v_kind, y_v_stop) → zB C (0, 0) 86 [(0, .ref (C.X.1 + 33)), (1, .int a1), (2, .int a2), (3, .int x3)] [] ((va_up I 33 (va_up (va_up (va_up (va_up (va_up (I 33) 6 v_kind) 7 v_at) 8 v_stop) 10 v_fault) 11 v_faultAt)), J, Rr, D)) : ∀ (n9 : Nat) (x3 : Int32) (x4 : Int32), pReader_readNumber_b55 N a1 a2 v_length v_tape v_at v_fault v_faultAt v_kind v_stop k86 n9 x3 x4 = some (rr, y_v_at, y_v_fault, y_v_faultAt, y_v_kind, y_v_stop) → zB C (0, 0) 55 [(0, .ref (C.X.1 + 33)), (1, .int a1), (2, .int a2), (3, .int x3), (4, .int x4)] [] ((va_up I 33 (va_up (va_up (va_up (va_up (va_up (I 33) 6 v_kind) 7 v_at) 8 v_stop) 10 v_fault) 11 v_faultAt)), J, Rr, D) := by
  refine zlp2_ind (P := fun (x3 : Int32) (x4 : Int32) => zB C (0, 0) 55 [(0, .ref (C.X.1 + 33)), (1, .int a1), (2, .int a2), (3, .int x3), (4, .int x4)] [] ((va_up I 33 (va_up (va_up (va_up (va_up (va_up (I 33) 6 v_kind) 7 v_at) 8 v_stop) 10 v_fault) 11 v_faultAt)), J, Rr, D)) (fun self ih => ?_)
  intro x3 x4 h
  refine zb_iload E dX7_readNumber_55 4 rfl ?_
  refine zb_aload_n E dX7_readNumber_57 0 rfl rfl ?_
  refine zb_get E 33 (by decide) (zF_33 C.X) rfl zin7 8 (by decide) zw_146 (v := .int v_stop) rfl dX7_readNumber_58 ?_
  refine zb_icmp_ge E dX7_readNumber_61 (tgt := 86) rfl (fun hc => ?_) (fun hc => ?_)
  · have h := if_t h hc
    refine zb_sub [0, 1, 2, 3] rfl ?_
    exact hk86 x3 h
  · have h := if_f h hc
    refine zb_iload_n E dX7_readNumber_64 3 rfl rfl ?_
    refine zb_bipush E dX7_readNumber_65 (v := 10) rfl ?_
    refine zb_imul E dX7_readNumber_67 ?_
    refine zb_aload_n E dX7_readNumber_68 0 rfl rfl ?_
    refine zb_get E 33 (by decide) (zF_33 C.X) rfl zin7 0 (by decide) zw_138 (v := .ref (C.X.1 + 34)) rfl dX7_readNumber_69 ?_
    refine zb_iload E dX7_readNumber_72 4 rfl ?_
    obtain ⟨g3, h⟩ := gd_s h
    refine zb_cald E 34 (by decide) zF_34 (f := v_tape) (by exact e_v_tape) (ib_in g3) dX7_readNumber_74 ?_
    refine zb_iadd E dX7_readNumber_75 ?_
    refine zb_bipush E dX7_readNumber_76 (v := 48) rfl ?_
    refine zb_isub E dX7_readNumber_78 ?_
    refine zb_istore_n E dX7_readNumber_79 rfl (by decide) (lv2 := [(3, .int (((x3 * 10) + (v_tape (ix x4))) - 48)), (0, .ref (C.X.1 + 33)), (1, .int a1), (2, .int a2), (4, .int x4)]) rfl ?_
    refine zb_iinc E dX7_readNumber_80 4 rfl (v := (x4 + 1)) rfl (by decide) (lv2 := [(4, .int (x4 + 1)), (3, .int (((x3 * 10) + (v_tape (ix x4))) - 48)), (0, .ref (C.X.1 + 33)), (1, .int a1), (2, .int a2)]) rfl ?_
    refine zb_goto E dX7_readNumber_83 (tgt := 55) rfl ?_
    refine zb_sub [2, 3, 4, 1, 0] rfl ?_
    exact ih (((x3 * 10) + (v_tape (ix x4))) - 48) (x4 + 1) h
theorem c_X7_readNumber_b96 {C : zC} {I : Nat → Nat → Int32} {J : Nat → Nat → Int64} {Rr : Nat → Nat → Option Nat} {D : zD} (N : Nat) (a1 : Int32) (a2 : Int32) (v_length : Int32) (e_v_length : I 33 3 = v_length) (v_tape : (Nat → Int32)) (e_v_tape : I 34 = v_tape) (rr : Int32) (y_v_at : Int32) (y_v_fault : Int32) (y_v_faultAt : Int32) (y_v_kind : Int32) (y_v_stop : Int32) (E : zE C RX7 cX7_readNumber 5 (some .int) ({ frames := 1, cells := 0, slots := 0, locals := 22 } : Room)) (hQ : C.Q = zQi C ({ frames := 1, cells := 0, slots := 0, locals := 22 } : Room) rr ((va_up I 33 (va_up (va_up (va_up (va_up (va_up (I 33) 6 y_v_kind) 7 y_v_at) 8 y_v_stop) 10 y_v_fault) 11 y_v_faultAt)), J, Rr, D)) (v_at : Int32) (v_fault : Int32) (v_faultAt : Int32) (v_kind : Int32) (v_stop : Int32) (h : pReader_readNumber_b96 N a1 a2 v_length v_tape v_at v_fault v_faultAt v_kind v_stop = some (rr, y_v_at, y_v_fault, y_v_faultAt, y_v_kind, y_v_stop)) : zB C (0, 0) 96 [(0, .ref (C.X.1 + 33))] [] ((va_up I 33 (va_up (va_up (va_up (va_up (va_up (I 33) 6 v_kind) 7 v_at) 8 v_stop) 10 v_fault) 11 v_faultAt)), J, Rr, D) := by
  refine zb_aload_n E dX7_readNumber_96 0 rfl rfl ?_
  refine zb_iconst E dX7_readNumber_97 (v := 2) rfl ?_
  refine zb_aload_n E dX7_readNumber_98 0 rfl rfl ?_
  refine zb_get E 33 (by decide) (zF_33 C.X) rfl zin7 7 (by decide) zw_145 (v := .int v_at) rfl dX7_readNumber_99 ?_
  obtain ⟨rc5, v_fault_c5, v_faultAt_c5, hc_102, h⟩ := bd3_s h
  refine zb_cVi E [.int 2, .int v_at] 33 zy_X7_fail zw_756 (by decide) (zF_33 _ _ _ _) rfl (c_X7_fail (va_up (va_up (va_up (va_up (va_up (I 33) 6 v_kind) 7 v_at) 8 v_stop) 10 v_fault) 11 v_faultAt) rfl v_fault rfl v_faultAt rfl hc_102) (by decide) rfl rfl (by first | decide | simp [Value.category]) dX7_readNumber_102 (cs2 := (0, 0)) rfl ?_
  refine zb_S (S2 := ((va_up I 33 (va_up (va_up (va_up (va_up (va_up (I 33) 6 v_kind) 7 v_at) 8 v_stop) 10 v_fault_c5) 11 v_faultAt_c5)), J, Rr, D)) (zS_eq ((zcgV ((zcgF (zn2 (by decide : (11 : Nat) ≠ 10))).trans zn1)).trans zn1) rfl) ?_
  refine zb_pop E dX7_readNumber_105 rfl ?_
  refine zb_iconst E dX7_readNumber_106 (v := (-1)) rfl ?_
  obtain ⟨rfl, rfl, rfl, rfl, rfl, rfl⟩ := zinj6 h
  exact zb_iret E hQ rfl ⟨Nat.zero_le _, Nat.zero_le _⟩ dX7_readNumber_107
theorem c_X7_readNumber_b86 {C : zC} {I : Nat → Nat → Int32} {J : Nat → Nat → Int64} {Rr : Nat → Nat → Option Nat} {D : zD} (N : Nat) (a1 : Int32) (a2 : Int32) (v_length : Int32) (e_v_length : I 33 3 = v_length) (v_tape : (Nat → Int32)) (e_v_tape : I 34 = v_tape) (rr : Int32) (y_v_at : Int32) (y_v_fault : Int32) (y_v_faultAt : Int32) (y_v_kind : Int32) (y_v_stop : Int32) (E : zE C RX7 cX7_readNumber 5 (some .int) ({ frames := 1, cells := 0, slots := 0, locals := 22 } : Room)) (hQ : C.Q = zQi C ({ frames := 1, cells := 0, slots := 0, locals := 22 } : Room) rr ((va_up I 33 (va_up (va_up (va_up (va_up (va_up (I 33) 6 y_v_kind) 7 y_v_at) 8 y_v_stop) 10 y_v_fault) 11 y_v_faultAt)), J, Rr, D)) (x3 : Int32) (v_at : Int32) (v_fault : Int32) (v_faultAt : Int32) (v_kind : Int32) (v_stop : Int32) (h : pReader_readNumber_b86 N a1 a2 v_length v_tape x3 v_at v_fault v_faultAt v_kind v_stop = some (rr, y_v_at, y_v_fault, y_v_faultAt, y_v_kind, y_v_stop)) : zB C (0, 0) 86 [(0, .ref (C.X.1 + 33)), (1, .int a1), (2, .int a2), (3, .int x3)] [] ((va_up I 33 (va_up (va_up (va_up (va_up (va_up (I 33) 6 v_kind) 7 v_at) 8 v_stop) 10 v_fault) 11 v_faultAt)), J, Rr, D) := by
  refine zb_iload_n E dX7_readNumber_86 3 rfl rfl ?_
  refine zb_iload_n E dX7_readNumber_87 1 rfl rfl ?_
  refine zb_icmp_lt E dX7_readNumber_88 (tgt := 96) rfl (fun hc => ?_) (fun hc => ?_)
  · have h := if_t h hc
    refine zb_sub [0] rfl ?_
    exact c_X7_readNumber_b96 N a1 a2 v_length e_v_length v_tape e_v_tape rr y_v_at y_v_fault y_v_faultAt y_v_kind y_v_stop E hQ v_at v_fault v_faultAt v_kind v_stop h
  · have h := if_f h hc
    refine zb_iload_n E dX7_readNumber_91 3 rfl rfl ?_
    refine zb_iload_n E dX7_readNumber_92 2 rfl rfl ?_
    refine zb_icmp_le E dX7_readNumber_93 (tgt := 108) rfl (fun hc => ?_) (fun hc => ?_)
    · have h := if_t h hc
      refine zb_aload_n E dX7_readNumber_108 0 rfl rfl ?_
      obtain ⟨v_at_c4, v_kind_c4, v_stop_c4, hc_109, h⟩ := bd3_s h
      refine zb_cVv E [] 33 zy_X7_next zw_640 (by decide) (zF_33 _ _ _ _) rfl (c_X7_next (va_up (va_up (va_up (va_up (va_up (I 33) 6 v_kind) 7 v_at) 8 v_stop) 10 v_fault) 11 v_faultAt) rfl v_length (by exact e_v_length) v_tape (by exact e_v_tape) v_at rfl v_kind rfl v_stop rfl hc_109) (by decide) rfl rfl (by first | decide | simp [Value.category]) dX7_readNumber_109 (cs2 := (0, 0)) rfl ?_
      refine zb_S (S2 := ((va_up I 33 (va_up (va_up (va_up (va_up (va_up (I 33) 6 v_kind_c4) 7 v_at_c4) 8 v_stop_c4) 10 v_fault) 11 v_faultAt)), J, Rr, D)) (zS_eq ((zcgV ((zcgF ((zcgF (zn5 (by decide : (11 : Nat) ≠ 6) (by decide : (10 : Nat) ≠ 6) (by decide : (8 : Nat) ≠ 6) (by decide : (7 : Nat) ≠ 6))).trans (zn4 (by decide : (11 : Nat) ≠ 7) (by decide : (10 : Nat) ≠ 7) (by decide : (8 : Nat) ≠ 7)))).trans (zn3 (by decide : (11 : Nat) ≠ 8) (by decide : (10 : Nat) ≠ 8)))).trans zn1) rfl) ?_
      refine zb_iload_n E dX7_readNumber_112 3 rfl rfl ?_
      obtain ⟨rfl, rfl, rfl, rfl, rfl, rfl⟩ := zinj6 h
      exact zb_iret E hQ rfl ⟨Nat.zero_le _, Nat.zero_le _⟩ dX7_readNumber_113
    · have h := if_f h hc
      refine zb_sub [0] rfl ?_
      exact c_X7_readNumber_b96 N a1 a2 v_length e_v_length v_tape e_v_tape rr y_v_at y_v_fault y_v_faultAt y_v_kind y_v_stop E hQ v_at v_fault v_faultAt v_kind v_stop h
theorem c_X7_readNumber_0 {C : zC} {I : Nat → Nat → Int32} {J : Nat → Nat → Int64} {Rr : Nat → Nat → Option Nat} {D : zD} (N : Nat) (a1 : Int32) (a2 : Int32) (v_length : Int32) (e_v_length : I 33 3 = v_length) (v_tape : (Nat → Int32)) (e_v_tape : I 34 = v_tape) (rr : Int32) (y_v_at : Int32) (y_v_fault : Int32) (y_v_faultAt : Int32) (y_v_kind : Int32) (y_v_stop : Int32) (E : zE C RX7 cX7_readNumber 5 (some .int) ({ frames := 1, cells := 0, slots := 0, locals := 22 } : Room)) (hQ : C.Q = zQi C ({ frames := 1, cells := 0, slots := 0, locals := 22 } : Room) rr ((va_up I 33 (va_up (va_up (va_up (va_up (va_up (I 33) 6 y_v_kind) 7 y_v_at) 8 y_v_stop) 10 y_v_fault) 11 y_v_faultAt)), J, Rr, D)) (v_at : Int32) (v_fault : Int32) (v_faultAt : Int32) (v_kind : Int32) (v_stop : Int32) (h : pReader_readNumber N a1 a2 v_at v_fault v_faultAt v_kind v_length v_stop v_tape = some (rr, y_v_at, y_v_fault, y_v_faultAt, y_v_kind, y_v_stop)) : zB C (0, 0) 0 [(0, .ref (C.X.1 + 33)), (1, .int a1), (2, .int a2)] [] ((va_up I 33 (va_up (va_up (va_up (va_up (va_up (I 33) 6 v_kind) 7 v_at) 8 v_stop) 10 v_fault) 11 v_faultAt)), J, Rr, D) := by
  refine zb_aload_n E dX7_readNumber_0 0 rfl rfl ?_
  refine zb_get E 33 (by decide) (zF_33 C.X) rfl zin7 6 (by decide) zw_144 (v := .int v_kind) rfl dX7_readNumber_1 ?_
  refine zb_iconst E dX7_readNumber_4 (v := 2) rfl ?_
  refine zb_icmp_eq E dX7_readNumber_5 (tgt := 20) rfl (fun hc => ?_) (fun hc => ?_)
  · have h := if_t h hc
    refine zb_aload_n E dX7_readNumber_20 0 rfl rfl ?_
    refine zb_get E 33 (by decide) (zF_33 C.X) rfl zin7 8 (by decide) zw_146 (v := .int v_stop) rfl dX7_readNumber_21 ?_
    refine zb_aload_n E dX7_readNumber_24 0 rfl rfl ?_
    refine zb_get E 33 (by decide) (zF_33 C.X) rfl zin7 7 (by decide) zw_145 (v := .int v_at) rfl dX7_readNumber_25 ?_
    refine zb_isub E dX7_readNumber_28 ?_
    refine zb_iconst E dX7_readNumber_29 (v := 5) rfl ?_
    refine zb_icmp_le E dX7_readNumber_30 (tgt := 47) rfl (fun hc => ?_) (fun hc => ?_)
    · have h := if_t h hc
      refine zb_iconst E dX7_readNumber_47 (v := 0) rfl ?_
      refine zb_istore_n E dX7_readNumber_48 rfl (by decide) (lv2 := [(3, .int 0), (0, .ref (C.X.1 + 33)), (1, .int a1), (2, .int a2)]) rfl ?_
      refine zb_aload_n E dX7_readNumber_49 1 rfl rfl ?_
      refine zb_get E 33 (by decide) (zF_33 C.X) rfl zin7 7 (by decide) zw_145 (v := .int v_at) rfl dX7_readNumber_50 ?_
      refine zb_istore E dX7_readNumber_53 (by decide) (lv2 := [(4, .int v_at), (3, .int 0), (0, .ref (C.X.1 + 33)), (1, .int a1), (2, .int a2)]) rfl ?_
      refine zb_sub [2, 3, 4, 1, 0] rfl ?_
      exact c_X7_readNumber_b55 N a1 a2 v_length e_v_length v_tape e_v_tape rr y_v_at y_v_fault y_v_faultAt y_v_kind y_v_stop E hQ v_at v_fault v_faultAt v_kind v_stop _ (fun x3_z1 h => c_X7_readNumber_b86 N a1 a2 v_length e_v_length v_tape e_v_tape rr y_v_at y_v_fault y_v_faultAt y_v_kind y_v_stop E hQ x3_z1 v_at v_fault v_faultAt v_kind v_stop h) _ 0 v_at h
    · have h := if_f h hc
      refine zb_aload_n E dX7_readNumber_33 0 rfl rfl ?_
      refine zb_iconst E dX7_readNumber_34 (v := 1) rfl ?_
      refine zb_aload_n E dX7_readNumber_35 0 rfl rfl ?_
      refine zb_get E 33 (by decide) (zF_33 C.X) rfl zin7 7 (by decide) zw_145 (v := .int v_at) rfl dX7_readNumber_36 ?_
      refine zb_iconst E dX7_readNumber_39 (v := 5) rfl ?_
      refine zb_iadd E dX7_readNumber_40 ?_
      obtain ⟨rc1, v_fault_c1, v_faultAt_c1, hc_41, h⟩ := bd3_s h
      refine zb_cVi E [.int 1, .int (v_at + 5)] 33 zy_X7_fail zw_756 (by decide) (zF_33 _ _ _ _) rfl (c_X7_fail (va_up (va_up (va_up (va_up (va_up (I 33) 6 v_kind) 7 v_at) 8 v_stop) 10 v_fault) 11 v_faultAt) rfl v_fault rfl v_faultAt rfl hc_41) (by decide) rfl rfl (by first | decide | simp [Value.category]) dX7_readNumber_41 (cs2 := (0, 0)) rfl ?_
      refine zb_S (S2 := ((va_up I 33 (va_up (va_up (va_up (va_up (va_up (I 33) 6 v_kind) 7 v_at) 8 v_stop) 10 v_fault_c1) 11 v_faultAt_c1)), J, Rr, D)) (zS_eq ((zcgV ((zcgF (zn2 (by decide : (11 : Nat) ≠ 10))).trans zn1)).trans zn1) rfl) ?_
      refine zb_pop E dX7_readNumber_44 rfl ?_
      refine zb_iconst E dX7_readNumber_45 (v := (-1)) rfl ?_
      obtain ⟨rfl, rfl, rfl, rfl, rfl, rfl⟩ := zinj6 h
      exact zb_iret E hQ rfl ⟨Nat.zero_le _, Nat.zero_le _⟩ dX7_readNumber_46
  · have h := if_f h hc
    refine zb_aload_n E dX7_readNumber_8 0 rfl rfl ?_
    refine zb_iconst E dX7_readNumber_9 (v := 1) rfl ?_
    refine zb_aload_n E dX7_readNumber_10 0 rfl rfl ?_
    refine zb_get E 33 (by decide) (zF_33 C.X) rfl zin7 7 (by decide) zw_145 (v := .int v_at) rfl dX7_readNumber_11 ?_
    obtain ⟨rc2, v_fault_c2, v_faultAt_c2, hc_14, h⟩ := bd3_s h
    refine zb_cVi E [.int 1, .int v_at] 33 zy_X7_fail zw_756 (by decide) (zF_33 _ _ _ _) rfl (c_X7_fail (va_up (va_up (va_up (va_up (va_up (I 33) 6 v_kind) 7 v_at) 8 v_stop) 10 v_fault) 11 v_faultAt) rfl v_fault rfl v_faultAt rfl hc_14) (by decide) rfl rfl (by first | decide | simp [Value.category]) dX7_readNumber_14 (cs2 := (0, 0)) rfl ?_
    refine zb_S (S2 := ((va_up I 33 (va_up (va_up (va_up (va_up (va_up (I 33) 6 v_kind) 7 v_at) 8 v_stop) 10 v_fault_c2) 11 v_faultAt_c2)), J, Rr, D)) (zS_eq ((zcgV ((zcgF (zn2 (by decide : (11 : Nat) ≠ 10))).trans zn1)).trans zn1) rfl) ?_
    refine zb_pop E dX7_readNumber_17 rfl ?_
    refine zb_iconst E dX7_readNumber_18 (v := (-1)) rfl ?_
    obtain ⟨rfl, rfl, rfl, rfl, rfl, rfl⟩ := zinj6 h
    exact zb_iret E hQ rfl ⟨Nat.zero_le _, Nat.zero_le _⟩ dX7_readNumber_19
theorem c_X7_readNumber {l : Launch} {X : zX} {I : Nat → Nat → Int32} {J : Nat → Nat → Int64} {Rr : Nat → Nat → Option Nat} {D : zD} {N : Nat} {a1 : Int32} {a2 : Int32} (oI33 : Nat → Int32) (eoI33 : I 33 = oI33) (v_length : Int32) (e_v_length : I 33 3 = v_length) (v_tape : (Nat → Int32)) (e_v_tape : I 34 = v_tape) (v_at : Int32) (e_v_at : I 33 7 = v_at) (v_fault : Int32) (e_v_fault : I 33 10 = v_fault) (v_faultAt : Int32) (e_v_faultAt : I 33 11 = v_faultAt) (v_kind : Int32) (e_v_kind : I 33 6 = v_kind) (v_stop : Int32) (e_v_stop : I 33 8 = v_stop) {rr : Int32} {y_v_at : Int32} {y_v_fault : Int32} {y_v_faultAt : Int32} {y_v_kind : Int32} {y_v_stop : Int32} (h : pReader_readNumber N a1 a2 v_at v_fault v_faultAt v_kind v_length v_stop v_tape = some (rr, y_v_at, y_v_fault, y_v_faultAt, y_v_kind, y_v_stop)) : zMi l yX7_readNumber cX7_readNumber 5 (some .int) ({ frames := 1, cells := 0, slots := 0, locals := 22 } : Room) X [.ref (X.1 + 33), .int a1, .int a2] (I, J, Rr, D) rr ((va_up I 33 (va_up (va_up (va_up (va_up (va_up oI33 6 y_v_kind) 7 y_v_at) 8 y_v_stop) 10 y_v_fault) 11 y_v_faultAt)), J, Rr, D) := by
  subst eoI33
  refine zMi.of (by decide) (Nat.le_of_ble_eq_true rfl) (fun C E hl hX hQ => ?_)
  subst hl
  subst hX
  have eI0 : (va_up I 33 (va_up (va_up (va_up (va_up (va_up (I 33) 6 v_kind) 7 v_at) 8 v_stop) 10 v_fault) 11 v_faultAt)) = I := by rw [zup_idE e_v_kind, zup_idE e_v_at, zup_idE e_v_stop, zup_idE e_v_fault, zup_idE e_v_faultAt, zup_id]
  have eJ0 : J = J := rfl
  refine zb_S (S2 := ((va_up I 33 (va_up (va_up (va_up (va_up (va_up (I 33) 6 v_kind) 7 v_at) 8 v_stop) 10 v_fault) 11 v_faultAt)), J, Rr, D)) (zS_eq eI0.symm eJ0.symm) ?_
  exact c_X7_readNumber_0 N a1 a2 v_length e_v_length v_tape e_v_tape rr y_v_at y_v_fault y_v_faultAt y_v_kind y_v_stop E hQ v_at v_fault v_faultAt v_kind v_stop h
-- ChequeredCloth$Reader.takeUnit
theorem dX7_takeUnit_0 : decode cX7_takeUnit 0 = .ok (.aload_n 0, 1) := by decide +kernel
theorem dX7_takeUnit_1 : decode cX7_takeUnit 1 = .ok (.ldc 188, 2) := by decide +kernel
theorem dX7_takeUnit_3 : decode cX7_takeUnit 3 = .ok (.invokevirtual 101, 3) := by decide +kernel
theorem dX7_takeUnit_6 : decode cX7_takeUnit 6 = .ok (.ifCond .eq 7, 3) := by decide +kernel
theorem dX7_takeUnit_9 : decode cX7_takeUnit 9 = .ok (.sipush 240, 3) := by decide +kernel
theorem dX7_takeUnit_12 : decode cX7_takeUnit 12 = .ok (.ireturn, 1) := by decide +kernel
theorem dX7_takeUnit_13 : decode cX7_takeUnit 13 = .ok (.aload_n 0, 1) := by decide +kernel
theorem dX7_takeUnit_14 : decode cX7_takeUnit 14 = .ok (.ldc 190, 2) := by decide +kernel
theorem dX7_takeUnit_16 : decode cX7_takeUnit 16 = .ok (.invokevirtual 101, 3) := by decide +kernel
theorem dX7_takeUnit_19 : decode cX7_takeUnit 19 = .ok (.ifCond .eq 6, 3) := by decide +kernel
theorem dX7_takeUnit_22 : decode cX7_takeUnit 22 = .ok (.bipush 12, 2) := by decide +kernel
theorem dX7_takeUnit_24 : decode cX7_takeUnit 24 = .ok (.ireturn, 1) := by decide +kernel
theorem dX7_takeUnit_25 : decode cX7_takeUnit 25 = .ok (.aload_n 0, 1) := by decide +kernel
theorem dX7_takeUnit_26 : decode cX7_takeUnit 26 = .ok (.ldc 192, 2) := by decide +kernel
theorem dX7_takeUnit_28 : decode cX7_takeUnit 28 = .ok (.invokevirtual 101, 3) := by decide +kernel
theorem dX7_takeUnit_31 : decode cX7_takeUnit 31 = .ok (.pop, 1) := by decide +kernel
theorem dX7_takeUnit_32 : decode cX7_takeUnit 32 = .ok (.iconst 1, 1) := by decide +kernel
theorem dX7_takeUnit_33 : decode cX7_takeUnit 33 = .ok (.ireturn, 1) := by decide +kernel
theorem zy_X7_takeUnit : zYv yX7_takeUnit cX7_takeUnit 1 (some .int) 0 := ⟨zw_762, zws_20, zw_6, zw_763, by decide, by decide, by decide⟩
theorem c_X7_takeUnit_0 {C : zC} {I : Nat → Nat → Int32} {J : Nat → Nat → Int64} {Rr : Nat → Nat → Option Nat} {D : zD} (N : Nat) (v_length : Int32) (e_v_length : I 33 3 = v_length) (v_tape : (Nat → Int32)) (e_v_tape : I 34 = v_tape) (rr : Int32) (y_v_at : Int32) (y_v_kind : Int32) (y_v_stop : Int32) (E : zE C RX7 cX7_takeUnit 1 (some .int) ({ frames := 5, cells := 0, slots := 0, locals := 107 } : Room)) (hQ : C.Q = zQi C ({ frames := 5, cells := 0, slots := 0, locals := 107 } : Room) rr ((va_up I 33 (va_up (va_up (va_up (I 33) 6 y_v_kind) 7 y_v_at) 8 y_v_stop)), J, Rr, D)) (v_at : Int32) (v_kind : Int32) (v_stop : Int32) (h : pReader_takeUnit N v_at v_kind v_length v_stop v_tape = some (rr, y_v_at, y_v_kind, y_v_stop)) : zB C (0, 0) 0 [(0, .ref (C.X.1 + 33))] [] ((va_up I 33 (va_up (va_up (va_up (I 33) 6 v_kind) 7 v_at) 8 v_stop)), J, Rr, D) := by
  refine zb_aload_n E dX7_takeUnit_0 0 rfl rfl ?_
  refine zb_ldcS E rfl zJ_1 dX7_takeUnit_1 ?_
  obtain ⟨rc1, v_at_c1, v_kind_c1, v_stop_c1, hc_3, h⟩ := bd4_s h
  refine zb_cVi E [.ref (C.X.2.2.2.2.1 1)] 33 zy_X7_takeWord zw_687 (by decide) (zF_33 _ _ _ _) rfl (c_X7_takeWord (by decide) (va_up (va_up (va_up (I 33) 6 v_kind) 7 v_at) 8 v_stop) rfl v_length (by exact e_v_length) v_tape (by exact e_v_tape) v_at rfl v_kind rfl v_stop rfl hc_3) (by decide) rfl rfl (by first | decide | simp [Value.category]) dX7_takeUnit_3 (cs2 := (0, 0)) rfl ?_
  refine zb_S (S2 := ((va_up I 33 (va_up (va_up (va_up (I 33) 6 v_kind_c1) 7 v_at_c1) 8 v_stop_c1)), J, Rr, D)) (zS_eq ((zcgV ((zcgF ((zcgF (zn3 (by decide : (8 : Nat) ≠ 6) (by decide : (7 : Nat) ≠ 6))).trans (zn2 (by decide : (8 : Nat) ≠ 7)))).trans zn1)).trans zn1) rfl) ?_
  refine zb_if_eq E dX7_takeUnit_6 (tgt := 13) rfl (fun hc => ?_) (fun hc => ?_)
  · have h := if_t h hc
    refine zb_aload_n E dX7_takeUnit_13 0 rfl rfl ?_
    refine zb_ldcS E rfl zJ_2 dX7_takeUnit_14 ?_
    obtain ⟨rc2, v_at_c2, v_kind_c2, v_stop_c2, hc_16, h⟩ := bd4_s h
    refine zb_cVi E [.ref (C.X.2.2.2.2.1 2)] 33 zy_X7_takeWord zw_687 (by decide) (zF_33 _ _ _ _) rfl (c_X7_takeWord (by decide) (va_up (va_up (va_up (I 33) 6 v_kind_c1) 7 v_at_c1) 8 v_stop_c1) rfl v_length (by exact e_v_length) v_tape (by exact e_v_tape) v_at_c1 rfl v_kind_c1 rfl v_stop_c1 rfl hc_16) (by decide) rfl rfl (by first | decide | simp [Value.category]) dX7_takeUnit_16 (cs2 := (0, 0)) rfl ?_
    refine zb_S (S2 := ((va_up I 33 (va_up (va_up (va_up (I 33) 6 v_kind_c2) 7 v_at_c2) 8 v_stop_c2)), J, Rr, D)) (zS_eq ((zcgV ((zcgF ((zcgF (zn3 (by decide : (8 : Nat) ≠ 6) (by decide : (7 : Nat) ≠ 6))).trans (zn2 (by decide : (8 : Nat) ≠ 7)))).trans zn1)).trans zn1) rfl) ?_
    refine zb_if_eq E dX7_takeUnit_19 (tgt := 25) rfl (fun hc => ?_) (fun hc => ?_)
    · have h := if_t h hc
      refine zb_aload_n E dX7_takeUnit_25 0 rfl rfl ?_
      refine zb_ldcS E rfl zJ_3 dX7_takeUnit_26 ?_
      obtain ⟨rc3, v_at_c3, v_kind_c3, v_stop_c3, hc_28, h⟩ := bd4_s h
      refine zb_cVi E [.ref (C.X.2.2.2.2.1 3)] 33 zy_X7_takeWord zw_687 (by decide) (zF_33 _ _ _ _) rfl (c_X7_takeWord (by decide) (va_up (va_up (va_up (I 33) 6 v_kind_c2) 7 v_at_c2) 8 v_stop_c2) rfl v_length (by exact e_v_length) v_tape (by exact e_v_tape) v_at_c2 rfl v_kind_c2 rfl v_stop_c2 rfl hc_28) (by decide) rfl rfl (by first | decide | simp [Value.category]) dX7_takeUnit_28 (cs2 := (0, 0)) rfl ?_
      refine zb_S (S2 := ((va_up I 33 (va_up (va_up (va_up (I 33) 6 v_kind_c3) 7 v_at_c3) 8 v_stop_c3)), J, Rr, D)) (zS_eq ((zcgV ((zcgF ((zcgF (zn3 (by decide : (8 : Nat) ≠ 6) (by decide : (7 : Nat) ≠ 6))).trans (zn2 (by decide : (8 : Nat) ≠ 7)))).trans zn1)).trans zn1) rfl) ?_
      refine zb_pop E dX7_takeUnit_31 rfl ?_
      refine zb_iconst E dX7_takeUnit_32 (v := 1) rfl ?_
      obtain ⟨rfl, rfl, rfl, rfl⟩ := zinj4 h
      exact zb_iret E hQ rfl ⟨Nat.zero_le _, Nat.zero_le _⟩ dX7_takeUnit_33
    · have h := if_f h hc
      refine zb_bipush E dX7_takeUnit_22 (v := 12) rfl ?_
      obtain ⟨rfl, rfl, rfl, rfl⟩ := zinj4 h
      exact zb_iret E hQ rfl ⟨Nat.zero_le _, Nat.zero_le _⟩ dX7_takeUnit_24
  · have h := if_f h hc
    refine zb_sipush E dX7_takeUnit_9 (v := 240) rfl ?_
    obtain ⟨rfl, rfl, rfl, rfl⟩ := zinj4 h
    exact zb_iret E hQ rfl ⟨Nat.zero_le _, Nat.zero_le _⟩ dX7_takeUnit_12
theorem c_X7_takeUnit {l : Launch} {X : zX} {I : Nat → Nat → Int32} {J : Nat → Nat → Int64} {Rr : Nat → Nat → Option Nat} {D : zD} {N : Nat} (oI33 : Nat → Int32) (eoI33 : I 33 = oI33) (v_length : Int32) (e_v_length : I 33 3 = v_length) (v_tape : (Nat → Int32)) (e_v_tape : I 34 = v_tape) (v_at : Int32) (e_v_at : I 33 7 = v_at) (v_kind : Int32) (e_v_kind : I 33 6 = v_kind) (v_stop : Int32) (e_v_stop : I 33 8 = v_stop) {rr : Int32} {y_v_at : Int32} {y_v_kind : Int32} {y_v_stop : Int32} (h : pReader_takeUnit N v_at v_kind v_length v_stop v_tape = some (rr, y_v_at, y_v_kind, y_v_stop)) : zMi l yX7_takeUnit cX7_takeUnit 1 (some .int) ({ frames := 5, cells := 0, slots := 0, locals := 107 } : Room) X [.ref (X.1 + 33)] (I, J, Rr, D) rr ((va_up I 33 (va_up (va_up (va_up oI33 6 y_v_kind) 7 y_v_at) 8 y_v_stop)), J, Rr, D) := by
  subst eoI33
  refine zMi.of (by decide) (Nat.le_of_ble_eq_true rfl) (fun C E hl hX hQ => ?_)
  subst hl
  subst hX
  have eI0 : (va_up I 33 (va_up (va_up (va_up (I 33) 6 v_kind) 7 v_at) 8 v_stop)) = I := by rw [zup_idE e_v_kind, zup_idE e_v_at, zup_idE e_v_stop, zup_id]
  have eJ0 : J = J := rfl
  refine zb_S (S2 := ((va_up I 33 (va_up (va_up (va_up (I 33) 6 v_kind) 7 v_at) 8 v_stop)), J, Rr, D)) (zS_eq eI0.symm eJ0.symm) ?_
  exact c_X7_takeUnit_0 N v_length e_v_length v_tape e_v_tape rr y_v_at y_v_kind y_v_stop E hQ v_at v_kind v_stop h
-- ChequeredCloth$Reader.emit
theorem dX7_emit_0 : decode cX7_emit 0 = .ok (.aload_n 0, 1) := by decide +kernel
theorem dX7_emit_1 : decode cX7_emit 1 = .ok (.getfield 35, 3) := by decide +kernel
theorem dX7_emit_4 : decode cX7_emit 4 = .ok (.sipush 600, 3) := by decide +kernel
theorem dX7_emit_7 : decode cX7_emit 7 = .ok (.if_icmp .lt 13, 3) := by decide +kernel
theorem dX7_emit_10 : decode cX7_emit 10 = .ok (.aload_n 0, 1) := by decide +kernel
theorem dX7_emit_11 : decode cX7_emit 11 = .ok (.iconst 1, 1) := by decide +kernel
theorem dX7_emit_12 : decode cX7_emit 12 = .ok (.aload_n 0, 1) := by decide +kernel
theorem dX7_emit_13 : decode cX7_emit 13 = .ok (.getfield 57, 3) := by decide +kernel
theorem dX7_emit_16 : decode cX7_emit 16 = .ok (.invokevirtual 60, 3) := by decide +kernel
theorem dX7_emit_19 : decode cX7_emit 19 = .ok (.ireturn, 1) := by decide +kernel
theorem dX7_emit_20 : decode cX7_emit 20 = .ok (.aload_n 0, 1) := by decide +kernel
theorem dX7_emit_21 : decode cX7_emit 21 = .ok (.getfield 15, 3) := by decide +kernel
theorem dX7_emit_24 : decode cX7_emit 24 = .ok (.aload_n 0, 1) := by decide +kernel
theorem dX7_emit_25 : decode cX7_emit 25 = .ok (.getfield 35, 3) := by decide +kernel
theorem dX7_emit_28 : decode cX7_emit 28 = .ok (.iload_n 1, 1) := by decide +kernel
theorem dX7_emit_29 : decode cX7_emit 29 = .ok (.iastore, 1) := by decide +kernel
theorem dX7_emit_30 : decode cX7_emit 30 = .ok (.aload_n 0, 1) := by decide +kernel
theorem dX7_emit_31 : decode cX7_emit 31 = .ok (.dup, 1) := by decide +kernel
theorem dX7_emit_32 : decode cX7_emit 32 = .ok (.getfield 35, 3) := by decide +kernel
theorem dX7_emit_35 : decode cX7_emit 35 = .ok (.iconst 1, 1) := by decide +kernel
theorem dX7_emit_36 : decode cX7_emit 36 = .ok (.iadd, 1) := by decide +kernel
theorem dX7_emit_37 : decode cX7_emit 37 = .ok (.putfield 35, 3) := by decide +kernel
theorem dX7_emit_40 : decode cX7_emit 40 = .ok (.iconst 1, 1) := by decide +kernel
theorem dX7_emit_41 : decode cX7_emit 41 = .ok (.ireturn, 1) := by decide +kernel
theorem zy_X7_emit : zYv yX7_emit cX7_emit 2 (some .boolean) 1 := ⟨zw_769, zws_21, zw_6, zw_770, by decide, by decide, by decide⟩
theorem c_X7_emit_0 {C : zC} {I : Nat → Nat → Int32} {J : Nat → Nat → Int64} {Rr : Nat → Nat → Option Nat} {D : zD} (a1 : Int32) (v_at : Int32) (e_v_at : I 33 7 = v_at) (rr : Int32) (y_v_fault : Int32) (y_v_faultAt : Int32) (y_v_size : Int32) (y_v_code : (Nat → Int32)) (E : zE C RX7 cX7_emit 2 (some .boolean) ({ frames := 1, cells := 0, slots := 0, locals := 22 } : Room)) (hQ : C.Q = zQi C ({ frames := 1, cells := 0, slots := 0, locals := 22 } : Room) rr ((va_up (va_up I 33 (va_up (va_up (va_up (I 33) 4 y_v_size) 10 y_v_fault) 11 y_v_faultAt)) 35 y_v_code), J, Rr, D)) (v_fault : Int32) (v_faultAt : Int32) (v_size : Int32) (v_code : (Nat → Int32)) (h : pReader_emit a1 v_at v_fault v_faultAt v_size v_code = some (rr, y_v_fault, y_v_faultAt, y_v_size, y_v_code)) : zB C (0, 0) 0 [(0, .ref (C.X.1 + 33)), (1, .int a1)] [] ((va_up (va_up I 33 (va_up (va_up (va_up (I 33) 4 v_size) 10 v_fault) 11 v_faultAt)) 35 v_code), J, Rr, D) := by
  refine zb_aload_n E dX7_emit_0 0 rfl rfl ?_
  refine zb_get E 33 (by decide) (zF_33 C.X) rfl zin7 4 (by decide) zw_142 (v := .int v_size) rfl dX7_emit_1 ?_
  refine zb_sipush E dX7_emit_4 (v := 600) rfl ?_
  refine zb_icmp_lt E dX7_emit_7 (tgt := 20) rfl (fun hc => ?_) (fun hc => ?_)
  · have h := if_t h hc
    refine zb_aload_n E dX7_emit_20 0 rfl rfl ?_
    refine zb_get E 33 (by decide) (zF_33 C.X) rfl zin7 1 (by decide) zw_139 (v := .ref (C.X.1 + 35)) rfl dX7_emit_21 ?_
    refine zb_aload_n E dX7_emit_24 0 rfl rfl ?_
    refine zb_get E 33 (by decide) (zF_33 C.X) rfl zin7 4 (by decide) zw_142 (v := .int v_size) rfl dX7_emit_25 ?_
    refine zb_iload_n E dX7_emit_28 1 rfl rfl ?_
    obtain ⟨g1, h⟩ := gd_s h
    refine zb_iast E 35 (by decide) zF_35 (f := v_code) rfl (ib_in g1) dX7_emit_29 (I2 := (va_up (va_up I 33 (va_up (va_up (va_up (I 33) 4 v_size) 10 v_fault) 11 v_faultAt)) 35 (upd v_code (ix v_size) a1))) zn1 ?_
    refine zb_aload_n E dX7_emit_30 0 rfl rfl ?_
    refine zb_dup E dX7_emit_31 rfl ?_
    refine zb_get E 33 (by decide) (zF_33 C.X) rfl zin7 4 (by decide) zw_142 (v := .int v_size) rfl dX7_emit_32 ?_
    refine zb_iconst E dX7_emit_35 (v := 1) rfl ?_
    refine zb_iadd E dX7_emit_36 ?_
    refine zb_put E 33 (by decide) (zF_33 C.X) rfl zin7 4 (by decide) zw_142 tyX7 tyX7_ok nmX7 rfl rfl rfl (I2 := (va_up (va_up I 33 (va_up (va_up (va_up (I 33) 4 (v_size + 1)) 10 v_fault) 11 v_faultAt)) 35 (upd v_code (ix v_size) a1))) (J2 := J) ((zset7_4 C.X (va_up (va_up (va_up (I 33) 4 v_size) 10 v_fault) 11 v_faultAt) (J 33) (v_size + 1)).trans (congrArg (fun g => zf7 C.X g (J 33)) (zn3 (by decide : (11 : Nat) ≠ 4) (by decide : (10 : Nat) ≠ 4)))) (by rw [zflen7]; decide) (fun j hj => ⟨zup_cg ((zup_n hj).trans (zup_n hj).symm), rfl⟩) dX7_emit_37 ?_
    refine zb_iconst E dX7_emit_40 (v := 1) rfl ?_
    obtain ⟨rfl, rfl, rfl, rfl, rfl⟩ := zinj5 h
    exact zb_zret E hQ (ty := .boolean) rfl rfl ⟨Nat.zero_le _, Nat.zero_le _⟩ dX7_emit_41
  · have h := if_f h hc
    refine zb_aload_n E dX7_emit_10 0 rfl rfl ?_
    refine zb_iconst E dX7_emit_11 (v := 1) rfl ?_
    refine zb_aload_n E dX7_emit_12 0 rfl rfl ?_
    refine zb_get E 33 (by decide) (zF_33 C.X) rfl zin7 7 (by decide) zw_145 (v := .int v_at) (by exact congrArg (fun z => some (Value.int z)) e_v_at) dX7_emit_13 ?_
    obtain ⟨rc2, v_fault_c2, v_faultAt_c2, hc_16, h⟩ := bd3_s h
    refine zb_cVi E [.int 1, .int v_at] 33 zy_X7_fail zw_756 (by decide) (zF_33 _ _ _ _) rfl (c_X7_fail (va_up (va_up (va_up (I 33) 4 v_size) 10 v_fault) 11 v_faultAt) rfl v_fault rfl v_faultAt rfl hc_16) (by decide) rfl rfl (by first | decide | simp [Value.category]) dX7_emit_16 (cs2 := (0, 0)) rfl ?_
    refine zb_S (S2 := ((va_up (va_up I 33 (va_up (va_up (va_up (I 33) 4 v_size) 10 v_fault_c2) 11 v_faultAt_c2)) 35 v_code), J, Rr, D)) (zS_eq ((zcgV ((zcgF (zn2 (by decide : (11 : Nat) ≠ 10))).trans zn1)).trans (zn2 (by decide : (35 : Nat) ≠ 33))) rfl) ?_
    obtain ⟨gB, h⟩ := gd_s h
    obtain ⟨rfl, rfl, rfl, rfl, rfl⟩ := zinj5 h
    exact zb_zret E hQ (ty := .boolean) rfl (isB_n gB) ⟨Nat.zero_le _, Nat.zero_le _⟩ dX7_emit_19
theorem c_X7_emit {l : Launch} {X : zX} {I : Nat → Nat → Int32} {J : Nat → Nat → Int64} {Rr : Nat → Nat → Option Nat} {D : zD} {a1 : Int32} (oI33 : Nat → Int32) (eoI33 : I 33 = oI33) (v_at : Int32) (e_v_at : I 33 7 = v_at) (v_fault : Int32) (e_v_fault : I 33 10 = v_fault) (v_faultAt : Int32) (e_v_faultAt : I 33 11 = v_faultAt) (v_size : Int32) (e_v_size : I 33 4 = v_size) (v_code : (Nat → Int32)) (e_v_code : I 35 = v_code) {rr : Int32} {y_v_fault : Int32} {y_v_faultAt : Int32} {y_v_size : Int32} {y_v_code : (Nat → Int32)} (h : pReader_emit a1 v_at v_fault v_faultAt v_size v_code = some (rr, y_v_fault, y_v_faultAt, y_v_size, y_v_code)) : zMi l yX7_emit cX7_emit 2 (some .boolean) ({ frames := 1, cells := 0, slots := 0, locals := 22 } : Room) X [.ref (X.1 + 33), .int a1] (I, J, Rr, D) rr ((va_up (va_up I 33 (va_up (va_up (va_up oI33 4 y_v_size) 10 y_v_fault) 11 y_v_faultAt)) 35 y_v_code), J, Rr, D) := by
  subst eoI33
  refine zMi.of (by decide) (Nat.le_of_ble_eq_true rfl) (fun C E hl hX hQ => ?_)
  subst hl
  subst hX
  have eI0 : (va_up (va_up I 33 (va_up (va_up (va_up (I 33) 4 v_size) 10 v_fault) 11 v_faultAt)) 35 v_code) = I := by rw [zup_idE e_v_size, zup_idE e_v_fault, zup_idE e_v_faultAt, zup_id, zup_idE e_v_code]
  have eJ0 : J = J := rfl
  refine zb_S (S2 := ((va_up (va_up I 33 (va_up (va_up (va_up (I 33) 4 v_size) 10 v_fault) 11 v_faultAt)) 35 v_code), J, Rr, D)) (zS_eq eI0.symm eJ0.symm) ?_
  exact c_X7_emit_0 a1 v_at e_v_at rr y_v_fault y_v_faultAt y_v_size y_v_code E hQ v_fault v_faultAt v_size v_code h
-- ChequeredCloth$Reader.takeMark
theorem dX7_takeMark_0 : decode cX7_takeMark 0 = .ok (.aload_n 0, 1) := by decide +kernel
theorem dX7_takeMark_1 : decode cX7_takeMark 1 = .ok (.getfield 44, 3) := by decide +kernel
theorem dX7_takeMark_4 : decode cX7_takeMark 4 = .ok (.iconst 3, 1) := by decide +kernel
theorem dX7_takeMark_5 : decode cX7_takeMark 5 = .ok (.if_icmp .ne 16, 3) := by decide +kernel
theorem dX7_takeMark_8 : decode cX7_takeMark 8 = .ok (.aload_n 0, 1) := by decide +kernel
theorem dX7_takeMark_9 : decode cX7_takeMark 9 = .ok (.getfield 11, 3) := by decide +kernel
theorem dX7_takeMark_12 : decode cX7_takeMark 12 = .ok (.aload_n 0, 1) := by decide +kernel
theorem dX7_takeMark_13 : decode cX7_takeMark 13 = .ok (.getfield 57, 3) := by decide +kernel
theorem dX7_takeMark_16 : decode cX7_takeMark 16 = .ok (.caload, 1) := by decide +kernel
theorem dX7_takeMark_17 : decode cX7_takeMark 17 = .ok (.iload_n 1, 1) := by decide +kernel
theorem dX7_takeMark_18 : decode cX7_takeMark 18 = .ok (.if_icmp .eq 5, 3) := by decide +kernel
theorem dX7_takeMark_21 : decode cX7_takeMark 21 = .ok (.iconst 0, 1) := by decide +kernel
theorem dX7_takeMark_22 : decode cX7_takeMark 22 = .ok (.ireturn, 1) := by decide +kernel
theorem dX7_takeMark_23 : decode cX7_takeMark 23 = .ok (.aload_n 0, 1) := by decide +kernel
theorem dX7_takeMark_24 : decode cX7_takeMark 24 = .ok (.invokevirtual 50, 3) := by decide +kernel
theorem dX7_takeMark_27 : decode cX7_takeMark 27 = .ok (.iconst 1, 1) := by decide +kernel
theorem dX7_takeMark_28 : decode cX7_takeMark 28 = .ok (.ireturn, 1) := by decide +kernel
theorem zy_X7_takeMark : zYv yX7_takeMark cX7_takeMark 2 (some .boolean) 1 := ⟨zw_773, zws_22, zw_6, zw_774, by decide, by decide, by decide⟩
theorem c_X7_takeMark_0 {C : zC} {I : Nat → Nat → Int32} {J : Nat → Nat → Int64} {Rr : Nat → Nat → Option Nat} {D : zD} (N : Nat) (a1 : Int32) (v_length : Int32) (e_v_length : I 33 3 = v_length) (v_tape : (Nat → Int32)) (e_v_tape : I 34 = v_tape) (rr : Int32) (y_v_at : Int32) (y_v_kind : Int32) (y_v_stop : Int32) (E : zE C RX7 cX7_takeMark 2 (some .boolean) ({ frames := 1, cells := 0, slots := 0, locals := 22 } : Room)) (hQ : C.Q = zQi C ({ frames := 1, cells := 0, slots := 0, locals := 22 } : Room) rr ((va_up I 33 (va_up (va_up (va_up (I 33) 6 y_v_kind) 7 y_v_at) 8 y_v_stop)), J, Rr, D)) (v_at : Int32) (v_kind : Int32) (v_stop : Int32) (h : pReader_takeMark N a1 v_at v_kind v_length v_stop v_tape = some (rr, y_v_at, y_v_kind, y_v_stop)) : zB C (0, 0) 0 [(0, .ref (C.X.1 + 33)), (1, .int a1)] [] ((va_up I 33 (va_up (va_up (va_up (I 33) 6 v_kind) 7 v_at) 8 v_stop)), J, Rr, D) := by
  refine zb_aload_n E dX7_takeMark_0 0 rfl rfl ?_
  refine zb_get E 33 (by decide) (zF_33 C.X) rfl zin7 6 (by decide) zw_144 (v := .int v_kind) rfl dX7_takeMark_1 ?_
  refine zb_iconst E dX7_takeMark_4 (v := 3) rfl ?_
  refine zb_icmp_ne E dX7_takeMark_5 (tgt := 21) rfl (fun hc => ?_) (fun hc => ?_)
  · have h := if_f h hc
    refine zb_iconst E dX7_takeMark_21 (v := 0) rfl ?_
    obtain ⟨rfl, rfl, rfl, rfl⟩ := zinj4 h
    exact zb_zret E hQ (ty := .boolean) rfl rfl ⟨Nat.zero_le _, Nat.zero_le _⟩ dX7_takeMark_22
  · have h := if_t h hc
    refine zb_aload_n E dX7_takeMark_8 0 rfl rfl ?_
    refine zb_get E 33 (by decide) (zF_33 C.X) rfl zin7 0 (by decide) zw_138 (v := .ref (C.X.1 + 34)) rfl dX7_takeMark_9 ?_
    refine zb_aload_n E dX7_takeMark_12 0 rfl rfl ?_
    refine zb_get E 33 (by decide) (zF_33 C.X) rfl zin7 7 (by decide) zw_145 (v := .int v_at) rfl dX7_takeMark_13 ?_
    obtain ⟨g1, h⟩ := gd_s h
    refine zb_cald E 34 (by decide) zF_34 (f := v_tape) (by exact e_v_tape) (ib_in g1) dX7_takeMark_16 ?_
    refine zb_iload_n E dX7_takeMark_17 1 rfl rfl ?_
    refine zb_icmp_eq E dX7_takeMark_18 (tgt := 23) rfl (fun hc => ?_) (fun hc => ?_)
    · have h := if_t h hc
      refine zb_aload_n E dX7_takeMark_23 0 rfl rfl ?_
      obtain ⟨v_at_c2, v_kind_c2, v_stop_c2, hc_24, h⟩ := bd3_s h
      refine zb_cVv E [] 33 zy_X7_next zw_640 (by decide) (zF_33 _ _ _ _) rfl (c_X7_next (va_up (va_up (va_up (I 33) 6 v_kind) 7 v_at) 8 v_stop) rfl v_length (by exact e_v_length) v_tape (by exact e_v_tape) v_at rfl v_kind rfl v_stop rfl hc_24) (by decide) rfl rfl (by first | decide | simp [Value.category]) dX7_takeMark_24 (cs2 := (0, 0)) rfl ?_
      refine zb_S (S2 := ((va_up I 33 (va_up (va_up (va_up (I 33) 6 v_kind_c2) 7 v_at_c2) 8 v_stop_c2)), J, Rr, D)) (zS_eq ((zcgV ((zcgF ((zcgF (zn3 (by decide : (8 : Nat) ≠ 6) (by decide : (7 : Nat) ≠ 6))).trans (zn2 (by decide : (8 : Nat) ≠ 7)))).trans zn1)).trans zn1) rfl) ?_
      refine zb_iconst E dX7_takeMark_27 (v := 1) rfl ?_
      obtain ⟨rfl, rfl, rfl, rfl⟩ := zinj4 h
      exact zb_zret E hQ (ty := .boolean) rfl rfl ⟨Nat.zero_le _, Nat.zero_le _⟩ dX7_takeMark_28
    · have h := if_f h hc
      refine zb_iconst E dX7_takeMark_21 (v := 0) rfl ?_
      obtain ⟨rfl, rfl, rfl, rfl⟩ := zinj4 h
      exact zb_zret E hQ (ty := .boolean) rfl rfl ⟨Nat.zero_le _, Nat.zero_le _⟩ dX7_takeMark_22
theorem c_X7_takeMark {l : Launch} {X : zX} {I : Nat → Nat → Int32} {J : Nat → Nat → Int64} {Rr : Nat → Nat → Option Nat} {D : zD} {N : Nat} {a1 : Int32} (oI33 : Nat → Int32) (eoI33 : I 33 = oI33) (v_length : Int32) (e_v_length : I 33 3 = v_length) (v_tape : (Nat → Int32)) (e_v_tape : I 34 = v_tape) (v_at : Int32) (e_v_at : I 33 7 = v_at) (v_kind : Int32) (e_v_kind : I 33 6 = v_kind) (v_stop : Int32) (e_v_stop : I 33 8 = v_stop) {rr : Int32} {y_v_at : Int32} {y_v_kind : Int32} {y_v_stop : Int32} (h : pReader_takeMark N a1 v_at v_kind v_length v_stop v_tape = some (rr, y_v_at, y_v_kind, y_v_stop)) : zMi l yX7_takeMark cX7_takeMark 2 (some .boolean) ({ frames := 1, cells := 0, slots := 0, locals := 22 } : Room) X [.ref (X.1 + 33), .int a1] (I, J, Rr, D) rr ((va_up I 33 (va_up (va_up (va_up oI33 6 y_v_kind) 7 y_v_at) 8 y_v_stop)), J, Rr, D) := by
  subst eoI33
  refine zMi.of (by decide) (Nat.le_of_ble_eq_true rfl) (fun C E hl hX hQ => ?_)
  subst hl
  subst hX
  have eI0 : (va_up I 33 (va_up (va_up (va_up (I 33) 6 v_kind) 7 v_at) 8 v_stop)) = I := by rw [zup_idE e_v_kind, zup_idE e_v_at, zup_idE e_v_stop, zup_id]
  have eJ0 : J = J := rfl
  refine zb_S (S2 := ((va_up I 33 (va_up (va_up (va_up (I 33) 6 v_kind) 7 v_at) 8 v_stop)), J, Rr, D)) (zS_eq eI0.symm eJ0.symm) ?_
  exact c_X7_takeMark_0 N a1 v_length e_v_length v_tape e_v_tape rr y_v_at y_v_kind y_v_stop E hQ v_at v_kind v_stop h
-- ChequeredCloth$Reader.opens
theorem dX7_opens_0 : decode cX7_opens 0 = .ok (.aload_n 0, 1) := by decide +kernel
theorem dX7_opens_1 : decode cX7_opens 1 = .ok (.getfield 41, 3) := by decide +kernel
theorem dX7_opens_4 : decode cX7_opens 4 = .ok (.bipush 6, 2) := by decide +kernel
theorem dX7_opens_6 : decode cX7_opens 6 = .ok (.if_icmp .lt 10, 3) := by decide +kernel
theorem dX7_opens_9 : decode cX7_opens 9 = .ok (.aload_n 0, 1) := by decide +kernel
theorem dX7_opens_10 : decode cX7_opens 10 = .ok (.iconst 3, 1) := by decide +kernel
theorem dX7_opens_11 : decode cX7_opens 11 = .ok (.iload_n 1, 1) := by decide +kernel
theorem dX7_opens_12 : decode cX7_opens 12 = .ok (.invokevirtual 60, 3) := by decide +kernel
theorem dX7_opens_15 : decode cX7_opens 15 = .ok (.ireturn, 1) := by decide +kernel
theorem dX7_opens_16 : decode cX7_opens 16 = .ok (.aload_n 0, 1) := by decide +kernel
theorem dX7_opens_17 : decode cX7_opens 17 = .ok (.dup, 1) := by decide +kernel
theorem dX7_opens_18 : decode cX7_opens 18 = .ok (.getfield 41, 3) := by decide +kernel
theorem dX7_opens_21 : decode cX7_opens 21 = .ok (.iconst 1, 1) := by decide +kernel
theorem dX7_opens_22 : decode cX7_opens 22 = .ok (.iadd, 1) := by decide +kernel
theorem dX7_opens_23 : decode cX7_opens 23 = .ok (.putfield 41, 3) := by decide +kernel
theorem dX7_opens_26 : decode cX7_opens 26 = .ok (.iconst 1, 1) := by decide +kernel
theorem dX7_opens_27 : decode cX7_opens 27 = .ok (.ireturn, 1) := by decide +kernel
theorem zy_X7_opens : zYv yX7_opens cX7_opens 2 (some .boolean) 1 := ⟨zw_777, zws_23, zw_6, zw_778, by decide, by decide, by decide⟩
theorem c_X7_opens_0 {C : zC} {I : Nat → Nat → Int32} {J : Nat → Nat → Int64} {Rr : Nat → Nat → Option Nat} {D : zD} (a1 : Int32) (rr : Int32) (y_v_fault : Int32) (y_v_faultAt : Int32) (y_v_open : Int32) (E : zE C RX7 cX7_opens 2 (some .boolean) ({ frames := 1, cells := 0, slots := 0, locals := 22 } : Room)) (hQ : C.Q = zQi C ({ frames := 1, cells := 0, slots := 0, locals := 22 } : Room) rr ((va_up I 33 (va_up (va_up (va_up (I 33) 9 y_v_open) 10 y_v_fault) 11 y_v_faultAt)), J, Rr, D)) (v_fault : Int32) (v_faultAt : Int32) (v_open : Int32) (h : pReader_opens a1 v_fault v_faultAt v_open = some (rr, y_v_fault, y_v_faultAt, y_v_open)) : zB C (0, 0) 0 [(0, .ref (C.X.1 + 33)), (1, .int a1)] [] ((va_up I 33 (va_up (va_up (va_up (I 33) 9 v_open) 10 v_fault) 11 v_faultAt)), J, Rr, D) := by
  refine zb_aload_n E dX7_opens_0 0 rfl rfl ?_
  refine zb_get E 33 (by decide) (zF_33 C.X) rfl zin7 9 (by decide) zw_147 (v := .int v_open) rfl dX7_opens_1 ?_
  refine zb_bipush E dX7_opens_4 (v := 6) rfl ?_
  refine zb_icmp_lt E dX7_opens_6 (tgt := 16) rfl (fun hc => ?_) (fun hc => ?_)
  · have h := if_t h hc
    refine zb_aload_n E dX7_opens_16 0 rfl rfl ?_
    refine zb_dup E dX7_opens_17 rfl ?_
    refine zb_get E 33 (by decide) (zF_33 C.X) rfl zin7 9 (by decide) zw_147 (v := .int v_open) rfl dX7_opens_18 ?_
    refine zb_iconst E dX7_opens_21 (v := 1) rfl ?_
    refine zb_iadd E dX7_opens_22 ?_
    refine zb_put E 33 (by decide) (zF_33 C.X) rfl zin7 9 (by decide) zw_147 tyX7 tyX7_ok nmX7 rfl rfl rfl (I2 := (va_up I 33 (va_up (va_up (va_up (I 33) 9 (v_open + 1)) 10 v_fault) 11 v_faultAt))) (J2 := J) ((zset7_9 C.X (va_up (va_up (va_up (I 33) 9 v_open) 10 v_fault) 11 v_faultAt) (J 33) (v_open + 1)).trans (congrArg (fun g => zf7 C.X g (J 33)) (zn3 (by decide : (11 : Nat) ≠ 9) (by decide : (10 : Nat) ≠ 9)))) (by rw [zflen7]; decide) (fun j hj => ⟨(zup_n hj).trans (zup_n hj).symm, rfl⟩) dX7_opens_23 ?_
    refine zb_iconst E dX7_opens_26 (v := 1) rfl ?_
    obtain ⟨rfl, rfl, rfl, rfl⟩ := zinj4 h
    exact zb_zret E hQ (ty := .boolean) rfl rfl ⟨Nat.zero_le _, Nat.zero_le _⟩ dX7_opens_27
  · have h := if_f h hc
    refine zb_aload_n E dX7_opens_9 0 rfl rfl ?_
    refine zb_iconst E dX7_opens_10 (v := 3) rfl ?_
    refine zb_iload_n E dX7_opens_11 1 rfl rfl ?_
    obtain ⟨rc1, v_fault_c1, v_faultAt_c1, hc_12, h⟩ := bd3_s h
    refine zb_cVi E [.int 3, .int a1] 33 zy_X7_fail zw_756 (by decide) (zF_33 _ _ _ _) rfl (c_X7_fail (va_up (va_up (va_up (I 33) 9 v_open) 10 v_fault) 11 v_faultAt) rfl v_fault rfl v_faultAt rfl hc_12) (by decide) rfl rfl (by first | decide | simp [Value.category]) dX7_opens_12 (cs2 := (0, 0)) rfl ?_
    refine zb_S (S2 := ((va_up I 33 (va_up (va_up (va_up (I 33) 9 v_open) 10 v_fault_c1) 11 v_faultAt_c1)), J, Rr, D)) (zS_eq ((zcgV ((zcgF (zn2 (by decide : (11 : Nat) ≠ 10))).trans zn1)).trans zn1) rfl) ?_
    obtain ⟨gB, h⟩ := gd_s h
    obtain ⟨rfl, rfl, rfl, rfl⟩ := zinj4 h
    exact zb_zret E hQ (ty := .boolean) rfl (isB_n gB) ⟨Nat.zero_le _, Nat.zero_le _⟩ dX7_opens_15
theorem c_X7_opens {l : Launch} {X : zX} {I : Nat → Nat → Int32} {J : Nat → Nat → Int64} {Rr : Nat → Nat → Option Nat} {D : zD} {a1 : Int32} (oI33 : Nat → Int32) (eoI33 : I 33 = oI33) (v_fault : Int32) (e_v_fault : I 33 10 = v_fault) (v_faultAt : Int32) (e_v_faultAt : I 33 11 = v_faultAt) (v_open : Int32) (e_v_open : I 33 9 = v_open) {rr : Int32} {y_v_fault : Int32} {y_v_faultAt : Int32} {y_v_open : Int32} (h : pReader_opens a1 v_fault v_faultAt v_open = some (rr, y_v_fault, y_v_faultAt, y_v_open)) : zMi l yX7_opens cX7_opens 2 (some .boolean) ({ frames := 1, cells := 0, slots := 0, locals := 22 } : Room) X [.ref (X.1 + 33), .int a1] (I, J, Rr, D) rr ((va_up I 33 (va_up (va_up (va_up oI33 9 y_v_open) 10 y_v_fault) 11 y_v_faultAt)), J, Rr, D) := by
  subst eoI33
  refine zMi.of (by decide) (Nat.le_of_ble_eq_true rfl) (fun C E hl hX hQ => ?_)
  subst hl
  subst hX
  have eI0 : (va_up I 33 (va_up (va_up (va_up (I 33) 9 v_open) 10 v_fault) 11 v_faultAt)) = I := by rw [zup_idE e_v_open, zup_idE e_v_fault, zup_idE e_v_faultAt, zup_id]
  have eJ0 : J = J := rfl
  refine zb_S (S2 := ((va_up I 33 (va_up (va_up (va_up (I 33) 9 v_open) 10 v_fault) 11 v_faultAt)), J, Rr, D)) (zS_eq eI0.symm eJ0.symm) ?_
  exact c_X7_opens_0 a1 rr y_v_fault y_v_faultAt y_v_open E hQ v_fault v_faultAt v_open h
-- ChequeredCloth$Reader.needMark
theorem dX7_needMark_0 : decode cX7_needMark 0 = .ok (.aload_n 0, 1) := by decide +kernel
theorem dX7_needMark_1 : decode cX7_needMark 1 = .ok (.iload_n 1, 1) := by decide +kernel
theorem dX7_needMark_2 : decode cX7_needMark 2 = .ok (.invokevirtual 155, 3) := by decide +kernel
theorem dX7_needMark_5 : decode cX7_needMark 5 = .ok (.ifCond .ne 15, 3) := by decide +kernel
theorem dX7_needMark_8 : decode cX7_needMark 8 = .ok (.aload_n 0, 1) := by decide +kernel
theorem dX7_needMark_9 : decode cX7_needMark 9 = .ok (.iconst 1, 1) := by decide +kernel
theorem dX7_needMark_10 : decode cX7_needMark 10 = .ok (.aload_n 0, 1) := by decide +kernel
theorem dX7_needMark_11 : decode cX7_needMark 11 = .ok (.getfield 57, 3) := by decide +kernel
theorem dX7_needMark_14 : decode cX7_needMark 14 = .ok (.invokevirtual 60, 3) := by decide +kernel
theorem dX7_needMark_17 : decode cX7_needMark 17 = .ok (.ifCond .eq 7, 3) := by decide +kernel
theorem dX7_needMark_20 : decode cX7_needMark 20 = .ok (.iconst 1, 1) := by decide +kernel
theorem dX7_needMark_21 : decode cX7_needMark 21 = .ok (.goto 4, 3) := by decide +kernel
theorem dX7_needMark_24 : decode cX7_needMark 24 = .ok (.iconst 0, 1) := by decide +kernel
theorem dX7_needMark_25 : decode cX7_needMark 25 = .ok (.ireturn, 1) := by decide +kernel
theorem zy_X7_needMark : zYv yX7_needMark cX7_needMark 2 (some .boolean) 1 := ⟨zw_781, zws_24, zw_6, zw_782, by decide, by decide, by decide⟩
theorem c_X7_needMark_0 {C : zC} {I : Nat → Nat → Int32} {J : Nat → Nat → Int64} {Rr : Nat → Nat → Option Nat} {D : zD} (N : Nat) (a1 : Int32) (v_length : Int32) (e_v_length : I 33 3 = v_length) (v_tape : (Nat → Int32)) (e_v_tape : I 34 = v_tape) (rr : Int32) (y_v_at : Int32) (y_v_fault : Int32) (y_v_faultAt : Int32) (y_v_kind : Int32) (y_v_stop : Int32) (E : zE C RX7 cX7_needMark 2 (some .boolean) ({ frames := 2, cells := 0, slots := 0, locals := 43 } : Room)) (hQ : C.Q = zQi C ({ frames := 2, cells := 0, slots := 0, locals := 43 } : Room) rr ((va_up I 33 (va_up (va_up (va_up (va_up (va_up (I 33) 6 y_v_kind) 7 y_v_at) 8 y_v_stop) 10 y_v_fault) 11 y_v_faultAt)), J, Rr, D)) (v_at : Int32) (v_fault : Int32) (v_faultAt : Int32) (v_kind : Int32) (v_stop : Int32) (h : pReader_needMark N a1 v_at v_fault v_faultAt v_kind v_length v_stop v_tape = some (rr, y_v_at, y_v_fault, y_v_faultAt, y_v_kind, y_v_stop)) : zB C (0, 0) 0 [(0, .ref (C.X.1 + 33)), (1, .int a1)] [] ((va_up I 33 (va_up (va_up (va_up (va_up (va_up (I 33) 6 v_kind) 7 v_at) 8 v_stop) 10 v_fault) 11 v_faultAt)), J, Rr, D) := by
  refine zb_aload_n E dX7_needMark_0 0 rfl rfl ?_
  refine zb_iload_n E dX7_needMark_1 1 rfl rfl ?_
  obtain ⟨rc1, v_at_c1, v_kind_c1, v_stop_c1, hc_2, h⟩ := bd4_s h
  refine zb_cVi E [.int a1] 33 zy_X7_takeMark zw_771 (by decide) (zF_33 _ _ _ _) rfl (c_X7_takeMark (va_up (va_up (va_up (va_up (va_up (I 33) 6 v_kind) 7 v_at) 8 v_stop) 10 v_fault) 11 v_faultAt) rfl v_length (by exact e_v_length) v_tape (by exact e_v_tape) v_at rfl v_kind rfl v_stop rfl hc_2) (by decide) rfl rfl (by first | decide | simp [Value.category]) dX7_needMark_2 (cs2 := (0, 0)) rfl ?_
  refine zb_S (S2 := ((va_up I 33 (va_up (va_up (va_up (va_up (va_up (I 33) 6 v_kind_c1) 7 v_at_c1) 8 v_stop_c1) 10 v_fault) 11 v_faultAt)), J, Rr, D)) (zS_eq ((zcgV ((zcgF ((zcgF (zn5 (by decide : (11 : Nat) ≠ 6) (by decide : (10 : Nat) ≠ 6) (by decide : (8 : Nat) ≠ 6) (by decide : (7 : Nat) ≠ 6))).trans (zn4 (by decide : (11 : Nat) ≠ 7) (by decide : (10 : Nat) ≠ 7) (by decide : (8 : Nat) ≠ 7)))).trans (zn3 (by decide : (11 : Nat) ≠ 8) (by decide : (10 : Nat) ≠ 8)))).trans zn1) rfl) ?_
  refine zb_if_ne E dX7_needMark_5 (tgt := 20) rfl (fun hc => ?_) (fun hc => ?_)
  · have h := if_f h hc
    refine zb_iconst E dX7_needMark_20 (v := 1) rfl ?_
    refine zb_goto E dX7_needMark_21 (tgt := 25) rfl ?_
    obtain ⟨rfl, rfl, rfl, rfl, rfl, rfl⟩ := zinj6 h
    exact zb_zret E hQ (ty := .boolean) rfl rfl ⟨Nat.zero_le _, Nat.zero_le _⟩ dX7_needMark_25
  · have h := if_t h hc
    refine zb_aload_n E dX7_needMark_8 0 rfl rfl ?_
    refine zb_iconst E dX7_needMark_9 (v := 1) rfl ?_
    refine zb_aload_n E dX7_needMark_10 0 rfl rfl ?_
    refine zb_get E 33 (by decide) (zF_33 C.X) rfl zin7 7 (by decide) zw_145 (v := .int v_at_c1) rfl dX7_needMark_11 ?_
    obtain ⟨rc2, v_fault_c2, v_faultAt_c2, hc_14, h⟩ := bd3_s h
    refine zb_cVi E [.int 1, .int v_at_c1] 33 zy_X7_fail zw_756 (by decide) (zF_33 _ _ _ _) rfl (c_X7_fail (va_up (va_up (va_up (va_up (va_up (I 33) 6 v_kind_c1) 7 v_at_c1) 8 v_stop_c1) 10 v_fault) 11 v_faultAt) rfl v_fault rfl v_faultAt rfl hc_14) (by decide) rfl rfl (by first | decide | simp [Value.category]) dX7_needMark_14 (cs2 := (0, 0)) rfl ?_
    refine zb_S (S2 := ((va_up I 33 (va_up (va_up (va_up (va_up (va_up (I 33) 6 v_kind_c1) 7 v_at_c1) 8 v_stop_c1) 10 v_fault_c2) 11 v_faultAt_c2)), J, Rr, D)) (zS_eq ((zcgV ((zcgF (zn2 (by decide : (11 : Nat) ≠ 10))).trans zn1)).trans zn1) rfl) ?_
    refine zb_if_eq E dX7_needMark_17 (tgt := 24) rfl (fun hc => ?_) (fun hc => ?_)
    · have h := if_t h hc
      refine zb_iconst E dX7_needMark_24 (v := 0) rfl ?_
      obtain ⟨rfl, rfl, rfl, rfl, rfl, rfl⟩ := zinj6 h
      exact zb_zret E hQ (ty := .boolean) rfl rfl ⟨Nat.zero_le _, Nat.zero_le _⟩ dX7_needMark_25
    · have h := if_f h hc
      refine zb_iconst E dX7_needMark_20 (v := 1) rfl ?_
      refine zb_goto E dX7_needMark_21 (tgt := 25) rfl ?_
      obtain ⟨rfl, rfl, rfl, rfl, rfl, rfl⟩ := zinj6 h
      exact zb_zret E hQ (ty := .boolean) rfl rfl ⟨Nat.zero_le _, Nat.zero_le _⟩ dX7_needMark_25
theorem c_X7_needMark {l : Launch} {X : zX} {I : Nat → Nat → Int32} {J : Nat → Nat → Int64} {Rr : Nat → Nat → Option Nat} {D : zD} {N : Nat} {a1 : Int32} (oI33 : Nat → Int32) (eoI33 : I 33 = oI33) (v_length : Int32) (e_v_length : I 33 3 = v_length) (v_tape : (Nat → Int32)) (e_v_tape : I 34 = v_tape) (v_at : Int32) (e_v_at : I 33 7 = v_at) (v_fault : Int32) (e_v_fault : I 33 10 = v_fault) (v_faultAt : Int32) (e_v_faultAt : I 33 11 = v_faultAt) (v_kind : Int32) (e_v_kind : I 33 6 = v_kind) (v_stop : Int32) (e_v_stop : I 33 8 = v_stop) {rr : Int32} {y_v_at : Int32} {y_v_fault : Int32} {y_v_faultAt : Int32} {y_v_kind : Int32} {y_v_stop : Int32} (h : pReader_needMark N a1 v_at v_fault v_faultAt v_kind v_length v_stop v_tape = some (rr, y_v_at, y_v_fault, y_v_faultAt, y_v_kind, y_v_stop)) : zMi l yX7_needMark cX7_needMark 2 (some .boolean) ({ frames := 2, cells := 0, slots := 0, locals := 43 } : Room) X [.ref (X.1 + 33), .int a1] (I, J, Rr, D) rr ((va_up I 33 (va_up (va_up (va_up (va_up (va_up oI33 6 y_v_kind) 7 y_v_at) 8 y_v_stop) 10 y_v_fault) 11 y_v_faultAt)), J, Rr, D) := by
  subst eoI33
  refine zMi.of (by decide) (Nat.le_of_ble_eq_true rfl) (fun C E hl hX hQ => ?_)
  subst hl
  subst hX
  have eI0 : (va_up I 33 (va_up (va_up (va_up (va_up (va_up (I 33) 6 v_kind) 7 v_at) 8 v_stop) 10 v_fault) 11 v_faultAt)) = I := by rw [zup_idE e_v_kind, zup_idE e_v_at, zup_idE e_v_stop, zup_idE e_v_fault, zup_idE e_v_faultAt, zup_id]
  have eJ0 : J = J := rfl
  refine zb_S (S2 := ((va_up I 33 (va_up (va_up (va_up (va_up (va_up (I 33) 6 v_kind) 7 v_at) 8 v_stop) 10 v_fault) 11 v_faultAt)), J, Rr, D)) (zS_eq eI0.symm eJ0.symm) ?_
  exact c_X7_needMark_0 N a1 v_length e_v_length v_tape e_v_tape rr y_v_at y_v_fault y_v_faultAt y_v_kind y_v_stop E hQ v_at v_fault v_faultAt v_kind v_stop h
-- ChequeredCloth$Reader.closes
theorem dX7_closes_0 : decode cX7_closes 0 = .ok (.aload_n 0, 1) := by decide +kernel
theorem dX7_closes_1 : decode cX7_closes 1 = .ok (.dup, 1) := by decide +kernel
theorem dX7_closes_2 : decode cX7_closes 2 = .ok (.getfield 41, 3) := by decide +kernel
theorem dX7_closes_5 : decode cX7_closes 5 = .ok (.iconst 1, 1) := by decide +kernel
theorem dX7_closes_6 : decode cX7_closes 6 = .ok (.isub, 1) := by decide +kernel
theorem dX7_closes_7 : decode cX7_closes 7 = .ok (.putfield 41, 3) := by decide +kernel
theorem dX7_closes_10 : decode cX7_closes 10 = .ok (.iconst 1, 1) := by decide +kernel
theorem dX7_closes_11 : decode cX7_closes 11 = .ok (.ireturn, 1) := by decide +kernel
theorem zy_X7_closes : zYv yX7_closes cX7_closes 1 (some .boolean) 0 := ⟨zw_785, zws_25, zw_6, zw_786, by decide, by decide, by decide⟩
theorem c_X7_closes_0 {C : zC} {I : Nat → Nat → Int32} {J : Nat → Nat → Int64} {Rr : Nat → Nat → Option Nat} {D : zD} (rr : Int32) (y_v_open : Int32) (E : zE C RX7 cX7_closes 1 (some .boolean) ({ frames := 0, cells := 0, slots := 0, locals := 0 } : Room)) (hQ : C.Q = zQi C ({ frames := 0, cells := 0, slots := 0, locals := 0 } : Room) rr ((va_up I 33 (va_up (I 33) 9 y_v_open)), J, Rr, D)) (v_open : Int32) (h : pReader_closes v_open = some (rr, y_v_open)) : zB C (0, 0) 0 [(0, .ref (C.X.1 + 33))] [] ((va_up I 33 (va_up (I 33) 9 v_open)), J, Rr, D) := by
  refine zb_aload_n E dX7_closes_0 0 rfl rfl ?_
  refine zb_dup E dX7_closes_1 rfl ?_
  refine zb_get E 33 (by decide) (zF_33 C.X) rfl zin7 9 (by decide) zw_147 (v := .int v_open) rfl dX7_closes_2 ?_
  refine zb_iconst E dX7_closes_5 (v := 1) rfl ?_
  refine zb_isub E dX7_closes_6 ?_
  refine zb_put E 33 (by decide) (zF_33 C.X) rfl zin7 9 (by decide) zw_147 tyX7 tyX7_ok nmX7 rfl rfl rfl (I2 := (va_up I 33 (va_up (I 33) 9 (v_open - 1)))) (J2 := J) ((zset7_9 C.X (va_up (I 33) 9 v_open) (J 33) (v_open - 1)).trans (congrArg (fun g => zf7 C.X g (J 33)) zn1)) (by rw [zflen7]; decide) (fun j hj => ⟨(zup_n hj).trans (zup_n hj).symm, rfl⟩) dX7_closes_7 ?_
  refine zb_iconst E dX7_closes_10 (v := 1) rfl ?_
  obtain ⟨rfl, rfl⟩ := zinj2 h
  exact zb_zret E hQ (ty := .boolean) rfl rfl ⟨Nat.zero_le _, Nat.zero_le _⟩ dX7_closes_11
theorem c_X7_closes {l : Launch} {X : zX} {I : Nat → Nat → Int32} {J : Nat → Nat → Int64} {Rr : Nat → Nat → Option Nat} {D : zD} (oI33 : Nat → Int32) (eoI33 : I 33 = oI33) (v_open : Int32) (e_v_open : I 33 9 = v_open) {rr : Int32} {y_v_open : Int32} (h : pReader_closes v_open = some (rr, y_v_open)) : zMi l yX7_closes cX7_closes 1 (some .boolean) ({ frames := 0, cells := 0, slots := 0, locals := 0 } : Room) X [.ref (X.1 + 33)] (I, J, Rr, D) rr ((va_up I 33 (va_up oI33 9 y_v_open)), J, Rr, D) := by
  subst eoI33
  refine zMi.of (by decide) (Nat.le_of_ble_eq_true rfl) (fun C E hl hX hQ => ?_)
  subst hl
  subst hX
  have eI0 : (va_up I 33 (va_up (I 33) 9 v_open)) = I := by rw [zup_idE e_v_open, zup_id]
  have eJ0 : J = J := rfl
  refine zb_S (S2 := ((va_up I 33 (va_up (I 33) 9 v_open)), J, Rr, D)) (zS_eq eI0.symm eJ0.symm) ?_
  exact c_X7_closes_0 rr y_v_open E hQ v_open h
-- ChequeredCloth$Reader.readPart
theorem dX7_readPart_0 : decode cX7_readPart 0 = .ok (.aload_n 0, 1) := by decide +kernel
theorem dX7_readPart_1 : decode cX7_readPart 1 = .ok (.getfield 57, 3) := by decide +kernel
theorem dX7_readPart_4 : decode cX7_readPart 4 = .ok (.istore_n 1, 1) := by decide +kernel
theorem dX7_readPart_5 : decode cX7_readPart 5 = .ok (.aload_n 0, 1) := by decide +kernel
theorem dX7_readPart_6 : decode cX7_readPart 6 = .ok (.getfield 44, 3) := by decide +kernel
theorem dX7_readPart_9 : decode cX7_readPart 9 = .ok (.iconst 2, 1) := by decide +kernel
theorem dX7_readPart_10 : decode cX7_readPart 10 = .ok (.if_icmp .ne 35, 3) := by decide +kernel
theorem dX7_readPart_13 : decode cX7_readPart 13 = .ok (.aload_n 0, 1) := by decide +kernel
theorem dX7_readPart_14 : decode cX7_readPart 14 = .ok (.iconst 0, 1) := by decide +kernel
theorem dX7_readPart_15 : decode cX7_readPart 15 = .ok (.ldc 168, 2) := by decide +kernel
theorem dX7_readPart_17 : decode cX7_readPart 17 = .ok (.invokevirtual 117, 3) := by decide +kernel
theorem dX7_readPart_20 : decode cX7_readPart 20 = .ok (.istore_n 2, 1) := by decide +kernel
theorem dX7_readPart_21 : decode cX7_readPart 21 = .ok (.iload_n 2, 1) := by decide +kernel
theorem dX7_readPart_22 : decode cX7_readPart 22 = .ok (.iconst (-1), 1) := by decide +kernel
theorem dX7_readPart_23 : decode cX7_readPart 23 = .ok (.if_icmp .eq 20, 3) := by decide +kernel
theorem dX7_readPart_26 : decode cX7_readPart 26 = .ok (.aload_n 0, 1) := by decide +kernel
theorem dX7_readPart_27 : decode cX7_readPart 27 = .ok (.iload_n 2, 1) := by decide +kernel
theorem dX7_readPart_28 : decode cX7_readPart 28 = .ok (.aload_n 0, 1) := by decide +kernel
theorem dX7_readPart_29 : decode cX7_readPart 29 = .ok (.invokevirtual 169, 3) := by decide +kernel
theorem dX7_readPart_32 : decode cX7_readPart 32 = .ok (.imul, 1) := by decide +kernel
theorem dX7_readPart_33 : decode cX7_readPart 33 = .ok (.invokevirtual 138, 3) := by decide +kernel
theorem dX7_readPart_36 : decode cX7_readPart 36 = .ok (.ifCond .eq 7, 3) := by decide +kernel
theorem dX7_readPart_39 : decode cX7_readPart 39 = .ok (.iconst 1, 1) := by decide +kernel
theorem dX7_readPart_40 : decode cX7_readPart 40 = .ok (.goto 4, 3) := by decide +kernel
theorem dX7_readPart_43 : decode cX7_readPart 43 = .ok (.iconst 0, 1) := by decide +kernel
theorem dX7_readPart_44 : decode cX7_readPart 44 = .ok (.ireturn, 1) := by decide +kernel
theorem dX7_readPart_45 : decode cX7_readPart 45 = .ok (.aload_n 0, 1) := by decide +kernel
theorem dX7_readPart_46 : decode cX7_readPart 46 = .ok (.bipush 40, 2) := by decide +kernel
theorem dX7_readPart_48 : decode cX7_readPart 48 = .ok (.invokevirtual 155, 3) := by decide +kernel
theorem dX7_readPart_51 : decode cX7_readPart 51 = .ok (.ifCond .eq 40, 3) := by decide +kernel
theorem dX7_readPart_54 : decode cX7_readPart 54 = .ok (.aload_n 0, 1) := by decide +kernel
theorem dX7_readPart_55 : decode cX7_readPart 55 = .ok (.iload_n 1, 1) := by decide +kernel
theorem dX7_readPart_56 : decode cX7_readPart 56 = .ok (.invokevirtual 149, 3) := by decide +kernel
theorem dX7_readPart_59 : decode cX7_readPart 59 = .ok (.ifCond .eq 30, 3) := by decide +kernel
theorem dX7_readPart_62 : decode cX7_readPart 62 = .ok (.aload_n 0, 1) := by decide +kernel
theorem dX7_readPart_63 : decode cX7_readPart 63 = .ok (.invokevirtual 105, 3) := by decide +kernel
theorem dX7_readPart_66 : decode cX7_readPart 66 = .ok (.ifCond .eq 23, 3) := by decide +kernel
theorem dX7_readPart_69 : decode cX7_readPart 69 = .ok (.aload_n 0, 1) := by decide +kernel
theorem dX7_readPart_70 : decode cX7_readPart 70 = .ok (.bipush 41, 2) := by decide +kernel
theorem dX7_readPart_72 : decode cX7_readPart 72 = .ok (.invokevirtual 95, 3) := by decide +kernel
theorem dX7_readPart_75 : decode cX7_readPart 75 = .ok (.ifCond .eq 14, 3) := by decide +kernel
theorem dX7_readPart_78 : decode cX7_readPart 78 = .ok (.aload_n 0, 1) := by decide +kernel
theorem dX7_readPart_79 : decode cX7_readPart 79 = .ok (.invokevirtual 152, 3) := by decide +kernel
theorem dX7_readPart_82 : decode cX7_readPart 82 = .ok (.ifCond .eq 7, 3) := by decide +kernel
theorem dX7_readPart_85 : decode cX7_readPart 85 = .ok (.iconst 1, 1) := by decide +kernel
theorem dX7_readPart_86 : decode cX7_readPart 86 = .ok (.goto 4, 3) := by decide +kernel
theorem dX7_readPart_89 : decode cX7_readPart 89 = .ok (.iconst 0, 1) := by decide +kernel
theorem dX7_readPart_90 : decode cX7_readPart 90 = .ok (.ireturn, 1) := by decide +kernel
theorem dX7_readPart_91 : decode cX7_readPart 91 = .ok (.aload_n 0, 1) := by decide +kernel
theorem dX7_readPart_92 : decode cX7_readPart 92 = .ok (.ldc 173, 2) := by decide +kernel
theorem dX7_readPart_94 : decode cX7_readPart 94 = .ok (.invokevirtual 101, 3) := by decide +kernel
theorem dX7_readPart_97 : decode cX7_readPart 97 = .ok (.ifCond .eq 25, 3) := by decide +kernel
theorem dX7_readPart_100 : decode cX7_readPart 100 = .ok (.aload_n 0, 1) := by decide +kernel
theorem dX7_readPart_101 : decode cX7_readPart 101 = .ok (.invokevirtual 175, 3) := by decide +kernel
theorem dX7_readPart_104 : decode cX7_readPart 104 = .ok (.ifCond .eq 16, 3) := by decide +kernel
theorem dX7_readPart_107 : decode cX7_readPart 107 = .ok (.aload_n 0, 1) := by decide +kernel
theorem dX7_readPart_108 : decode cX7_readPart 108 = .ok (.bipush (-11), 2) := by decide +kernel
theorem dX7_readPart_110 : decode cX7_readPart 110 = .ok (.invokevirtual 138, 3) := by decide +kernel
theorem dX7_readPart_113 : decode cX7_readPart 113 = .ok (.ifCond .eq 7, 3) := by decide +kernel
theorem dX7_readPart_116 : decode cX7_readPart 116 = .ok (.iconst 1, 1) := by decide +kernel
theorem dX7_readPart_117 : decode cX7_readPart 117 = .ok (.goto 4, 3) := by decide +kernel
theorem dX7_readPart_120 : decode cX7_readPart 120 = .ok (.iconst 0, 1) := by decide +kernel
theorem dX7_readPart_121 : decode cX7_readPart 121 = .ok (.ireturn, 1) := by decide +kernel
theorem dX7_readPart_122 : decode cX7_readPart 122 = .ok (.aload_n 0, 1) := by decide +kernel
theorem dX7_readPart_123 : decode cX7_readPart 123 = .ok (.ldc 178, 2) := by decide +kernel
theorem dX7_readPart_125 : decode cX7_readPart 125 = .ok (.invokevirtual 101, 3) := by decide +kernel
theorem dX7_readPart_128 : decode cX7_readPart 128 = .ok (.ifCond .eq 25, 3) := by decide +kernel
theorem dX7_readPart_131 : decode cX7_readPart 131 = .ok (.aload_n 0, 1) := by decide +kernel
theorem dX7_readPart_132 : decode cX7_readPart 132 = .ok (.invokevirtual 175, 3) := by decide +kernel
theorem dX7_readPart_135 : decode cX7_readPart 135 = .ok (.ifCond .eq 16, 3) := by decide +kernel
theorem dX7_readPart_138 : decode cX7_readPart 138 = .ok (.aload_n 0, 1) := by decide +kernel
theorem dX7_readPart_139 : decode cX7_readPart 139 = .ok (.bipush (-12), 2) := by decide +kernel
theorem dX7_readPart_141 : decode cX7_readPart 141 = .ok (.invokevirtual 138, 3) := by decide +kernel
theorem dX7_readPart_144 : decode cX7_readPart 144 = .ok (.ifCond .eq 7, 3) := by decide +kernel
theorem dX7_readPart_147 : decode cX7_readPart 147 = .ok (.iconst 1, 1) := by decide +kernel
theorem dX7_readPart_148 : decode cX7_readPart 148 = .ok (.goto 4, 3) := by decide +kernel
theorem dX7_readPart_151 : decode cX7_readPart 151 = .ok (.iconst 0, 1) := by decide +kernel
theorem dX7_readPart_152 : decode cX7_readPart 152 = .ok (.ireturn, 1) := by decide +kernel
theorem dX7_readPart_153 : decode cX7_readPart 153 = .ok (.aload_n 0, 1) := by decide +kernel
theorem dX7_readPart_154 : decode cX7_readPart 154 = .ok (.ldc 180, 2) := by decide +kernel
theorem dX7_readPart_156 : decode cX7_readPart 156 = .ok (.invokevirtual 101, 3) := by decide +kernel
theorem dX7_readPart_159 : decode cX7_readPart 159 = .ok (.ifCond .eq 7, 3) := by decide +kernel
theorem dX7_readPart_162 : decode cX7_readPart 162 = .ok (.iconst (-1), 1) := by decide +kernel
theorem dX7_readPart_163 : decode cX7_readPart 163 = .ok (.goto 46, 3) := by decide +kernel
theorem dX7_readPart_166 : decode cX7_readPart 166 = .ok (.aload_n 0, 1) := by decide +kernel
theorem dX7_readPart_167 : decode cX7_readPart 167 = .ok (.ldc 182, 2) := by decide +kernel
theorem dX7_readPart_169 : decode cX7_readPart 169 = .ok (.invokevirtual 101, 3) := by decide +kernel
theorem dX7_readPart_172 : decode cX7_readPart 172 = .ok (.ifCond .eq 8, 3) := by decide +kernel
theorem dX7_readPart_175 : decode cX7_readPart 175 = .ok (.bipush (-2), 2) := by decide +kernel
theorem dX7_readPart_177 : decode cX7_readPart 177 = .ok (.goto 32, 3) := by decide +kernel
theorem dX7_readPart_180 : decode cX7_readPart 180 = .ok (.aload_n 0, 1) := by decide +kernel
theorem dX7_readPart_181 : decode cX7_readPart 181 = .ok (.ldc 184, 2) := by decide +kernel
theorem dX7_readPart_183 : decode cX7_readPart 183 = .ok (.invokevirtual 101, 3) := by decide +kernel
theorem dX7_readPart_186 : decode cX7_readPart 186 = .ok (.ifCond .eq 8, 3) := by decide +kernel
theorem dX7_readPart_189 : decode cX7_readPart 189 = .ok (.bipush (-3), 2) := by decide +kernel
theorem dX7_readPart_191 : decode cX7_readPart 191 = .ok (.goto 18, 3) := by decide +kernel
theorem dX7_readPart_194 : decode cX7_readPart 194 = .ok (.aload_n 0, 1) := by decide +kernel
theorem dX7_readPart_195 : decode cX7_readPart 195 = .ok (.ldc 186, 2) := by decide +kernel
theorem dX7_readPart_197 : decode cX7_readPart 197 = .ok (.invokevirtual 101, 3) := by decide +kernel
theorem dX7_readPart_200 : decode cX7_readPart 200 = .ok (.ifCond .eq 8, 3) := by decide +kernel
theorem dX7_readPart_203 : decode cX7_readPart 203 = .ok (.bipush (-4), 2) := by decide +kernel
theorem dX7_readPart_205 : decode cX7_readPart 205 = .ok (.goto 4, 3) := by decide +kernel
theorem dX7_readPart_208 : decode cX7_readPart 208 = .ok (.iconst 0, 1) := by decide +kernel
theorem dX7_readPart_209 : decode cX7_readPart 209 = .ok (.istore_n 2, 1) := by decide +kernel
theorem dX7_readPart_210 : decode cX7_readPart 210 = .ok (.iload_n 2, 1) := by decide +kernel
theorem dX7_readPart_211 : decode cX7_readPart 211 = .ok (.ifCond .ne 15, 3) := by decide +kernel
theorem dX7_readPart_214 : decode cX7_readPart 214 = .ok (.aload_n 0, 1) := by decide +kernel
theorem dX7_readPart_215 : decode cX7_readPart 215 = .ok (.iconst 1, 1) := by decide +kernel
theorem dX7_readPart_216 : decode cX7_readPart 216 = .ok (.aload_n 0, 1) := by decide +kernel
theorem dX7_readPart_217 : decode cX7_readPart 217 = .ok (.getfield 57, 3) := by decide +kernel
theorem dX7_readPart_220 : decode cX7_readPart 220 = .ok (.invokevirtual 60, 3) := by decide +kernel
theorem dX7_readPart_223 : decode cX7_readPart 223 = .ok (.goto 8, 3) := by decide +kernel
theorem dX7_readPart_226 : decode cX7_readPart 226 = .ok (.aload_n 0, 1) := by decide +kernel
theorem dX7_readPart_227 : decode cX7_readPart 227 = .ok (.iload_n 2, 1) := by decide +kernel
theorem dX7_readPart_228 : decode cX7_readPart 228 = .ok (.invokevirtual 138, 3) := by decide +kernel
theorem dX7_readPart_231 : decode cX7_readPart 231 = .ok (.ireturn, 1) := by decide +kernel
theorem dX7_readProduct_0 : decode cX7_readProduct 0 = .ok (.aload_n 0, 1) := by decide +kernel
theorem dX7_readProduct_1 : decode cX7_readProduct 1 = .ok (.invokevirtual 165, 3) := by decide +kernel
theorem dX7_readProduct_4 : decode cX7_readProduct 4 = .ok (.istore_n 1, 1) := by decide +kernel
theorem dX7_readProduct_5 : decode cX7_readProduct 5 = .ok (.iconst 0, 1) := by decide +kernel
theorem dX7_readProduct_6 : decode cX7_readProduct 6 = .ok (.istore_n 2, 1) := by decide +kernel
theorem dX7_readProduct_7 : decode cX7_readProduct 7 = .ok (.iload_n 2, 1) := by decide +kernel
theorem dX7_readProduct_8 : decode cX7_readProduct 8 = .ok (.sipush 600, 3) := by decide +kernel
theorem dX7_readProduct_11 : decode cX7_readProduct 11 = .ok (.if_icmp .ge 70, 3) := by decide +kernel
theorem dX7_readProduct_14 : decode cX7_readProduct 14 = .ok (.iload_n 1, 1) := by decide +kernel
theorem dX7_readProduct_15 : decode cX7_readProduct 15 = .ok (.ifCond .eq 66, 3) := by decide +kernel
theorem dX7_readProduct_18 : decode cX7_readProduct 18 = .ok (.aload_n 0, 1) := by decide +kernel
theorem dX7_readProduct_19 : decode cX7_readProduct 19 = .ok (.bipush 42, 2) := by decide +kernel
theorem dX7_readProduct_21 : decode cX7_readProduct 21 = .ok (.invokevirtual 155, 3) := by decide +kernel
theorem dX7_readProduct_24 : decode cX7_readProduct 24 = .ok (.ifCond .eq 8, 3) := by decide +kernel
theorem dX7_readProduct_27 : decode cX7_readProduct 27 = .ok (.bipush (-9), 2) := by decide +kernel
theorem dX7_readProduct_29 : decode cX7_readProduct 29 = .ok (.goto 18, 3) := by decide +kernel
theorem dX7_readProduct_32 : decode cX7_readProduct 32 = .ok (.aload_n 0, 1) := by decide +kernel
theorem dX7_readProduct_33 : decode cX7_readProduct 33 = .ok (.bipush 47, 2) := by decide +kernel
theorem dX7_readProduct_35 : decode cX7_readProduct 35 = .ok (.invokevirtual 155, 3) := by decide +kernel
theorem dX7_readProduct_38 : decode cX7_readProduct 38 = .ok (.ifCond .eq 8, 3) := by decide +kernel
theorem dX7_readProduct_41 : decode cX7_readProduct 41 = .ok (.bipush (-10), 2) := by decide +kernel
theorem dX7_readProduct_43 : decode cX7_readProduct 43 = .ok (.goto 4, 3) := by decide +kernel
theorem dX7_readProduct_46 : decode cX7_readProduct 46 = .ok (.iconst 0, 1) := by decide +kernel
theorem dX7_readProduct_47 : decode cX7_readProduct 47 = .ok (.istore_n 3, 1) := by decide +kernel
theorem dX7_readProduct_48 : decode cX7_readProduct 48 = .ok (.iload_n 3, 1) := by decide +kernel
theorem dX7_readProduct_49 : decode cX7_readProduct 49 = .ok (.ifCond .ne 5, 3) := by decide +kernel
theorem dX7_readProduct_52 : decode cX7_readProduct 52 = .ok (.iconst 1, 1) := by decide +kernel
theorem dX7_readProduct_53 : decode cX7_readProduct 53 = .ok (.ireturn, 1) := by decide +kernel
theorem dX7_readProduct_54 : decode cX7_readProduct 54 = .ok (.aload_n 0, 1) := by decide +kernel
theorem dX7_readProduct_55 : decode cX7_readProduct 55 = .ok (.invokevirtual 165, 3) := by decide +kernel
theorem dX7_readProduct_58 : decode cX7_readProduct 58 = .ok (.ifCond .eq 15, 3) := by decide +kernel
theorem dX7_readProduct_61 : decode cX7_readProduct 61 = .ok (.aload_n 0, 1) := by decide +kernel
theorem dX7_readProduct_62 : decode cX7_readProduct 62 = .ok (.iload_n 3, 1) := by decide +kernel
theorem dX7_readProduct_63 : decode cX7_readProduct 63 = .ok (.invokevirtual 138, 3) := by decide +kernel
theorem dX7_readProduct_66 : decode cX7_readProduct 66 = .ok (.ifCond .eq 7, 3) := by decide +kernel
theorem dX7_readProduct_69 : decode cX7_readProduct 69 = .ok (.iconst 1, 1) := by decide +kernel
theorem dX7_readProduct_70 : decode cX7_readProduct 70 = .ok (.goto 4, 3) := by decide +kernel
theorem dX7_readProduct_73 : decode cX7_readProduct 73 = .ok (.iconst 0, 1) := by decide +kernel
theorem dX7_readProduct_74 : decode cX7_readProduct 74 = .ok (.istore_n 1, 1) := by decide +kernel
theorem dX7_readProduct_75 : decode cX7_readProduct 75 = .ok (.iinc 2 1, 3) := by decide +kernel
theorem dX7_readProduct_78 : decode cX7_readProduct 78 = .ok (.goto (-71), 3) := by decide +kernel
theorem dX7_readProduct_81 : decode cX7_readProduct 81 = .ok (.iload_n 1, 1) := by decide +kernel
theorem dX7_readProduct_82 : decode cX7_readProduct 82 = .ok (.ireturn, 1) := by decide +kernel
theorem dX7_readSum_0 : decode cX7_readSum 0 = .ok (.aload_n 0, 1) := by decide +kernel
theorem dX7_readSum_1 : decode cX7_readSum 1 = .ok (.invokevirtual 162, 3) := by decide +kernel
theorem dX7_readSum_4 : decode cX7_readSum 4 = .ok (.istore_n 1, 1) := by decide +kernel
theorem dX7_readSum_5 : decode cX7_readSum 5 = .ok (.iconst 0, 1) := by decide +kernel
theorem dX7_readSum_6 : decode cX7_readSum 6 = .ok (.istore_n 2, 1) := by decide +kernel
theorem dX7_readSum_7 : decode cX7_readSum 7 = .ok (.iload_n 2, 1) := by decide +kernel
theorem dX7_readSum_8 : decode cX7_readSum 8 = .ok (.sipush 600, 3) := by decide +kernel
theorem dX7_readSum_11 : decode cX7_readSum 11 = .ok (.if_icmp .ge 70, 3) := by decide +kernel
theorem dX7_readSum_14 : decode cX7_readSum 14 = .ok (.iload_n 1, 1) := by decide +kernel
theorem dX7_readSum_15 : decode cX7_readSum 15 = .ok (.ifCond .eq 66, 3) := by decide +kernel
theorem dX7_readSum_18 : decode cX7_readSum 18 = .ok (.aload_n 0, 1) := by decide +kernel
theorem dX7_readSum_19 : decode cX7_readSum 19 = .ok (.bipush 43, 2) := by decide +kernel
theorem dX7_readSum_21 : decode cX7_readSum 21 = .ok (.invokevirtual 155, 3) := by decide +kernel
theorem dX7_readSum_24 : decode cX7_readSum 24 = .ok (.ifCond .eq 8, 3) := by decide +kernel
theorem dX7_readSum_27 : decode cX7_readSum 27 = .ok (.bipush (-7), 2) := by decide +kernel
theorem dX7_readSum_29 : decode cX7_readSum 29 = .ok (.goto 18, 3) := by decide +kernel
theorem dX7_readSum_32 : decode cX7_readSum 32 = .ok (.aload_n 0, 1) := by decide +kernel
theorem dX7_readSum_33 : decode cX7_readSum 33 = .ok (.bipush 45, 2) := by decide +kernel
theorem dX7_readSum_35 : decode cX7_readSum 35 = .ok (.invokevirtual 155, 3) := by decide +kernel
theorem dX7_readSum_38 : decode cX7_readSum 38 = .ok (.ifCond .eq 8, 3) := by decide +kernel
theorem dX7_readSum_41 : decode cX7_readSum 41 = .ok (.bipush (-8), 2) := by decide +kernel
theorem dX7_readSum_43 : decode cX7_readSum 43 = .ok (.goto 4, 3) := by decide +kernel
theorem dX7_readSum_46 : decode cX7_readSum 46 = .ok (.iconst 0, 1) := by decide +kernel
theorem dX7_readSum_47 : decode cX7_readSum 47 = .ok (.istore_n 3, 1) := by decide +kernel
theorem dX7_readSum_48 : decode cX7_readSum 48 = .ok (.iload_n 3, 1) := by decide +kernel
theorem dX7_readSum_49 : decode cX7_readSum 49 = .ok (.ifCond .ne 5, 3) := by decide +kernel
theorem dX7_readSum_52 : decode cX7_readSum 52 = .ok (.iconst 1, 1) := by decide +kernel
theorem dX7_readSum_53 : decode cX7_readSum 53 = .ok (.ireturn, 1) := by decide +kernel
theorem dX7_readSum_54 : decode cX7_readSum 54 = .ok (.aload_n 0, 1) := by decide +kernel
theorem dX7_readSum_55 : decode cX7_readSum 55 = .ok (.invokevirtual 162, 3) := by decide +kernel
theorem dX7_readSum_58 : decode cX7_readSum 58 = .ok (.ifCond .eq 15, 3) := by decide +kernel
theorem dX7_readSum_61 : decode cX7_readSum 61 = .ok (.aload_n 0, 1) := by decide +kernel
theorem dX7_readSum_62 : decode cX7_readSum 62 = .ok (.iload_n 3, 1) := by decide +kernel
theorem dX7_readSum_63 : decode cX7_readSum 63 = .ok (.invokevirtual 138, 3) := by decide +kernel
theorem dX7_readSum_66 : decode cX7_readSum 66 = .ok (.ifCond .eq 7, 3) := by decide +kernel
theorem dX7_readSum_69 : decode cX7_readSum 69 = .ok (.iconst 1, 1) := by decide +kernel
theorem dX7_readSum_70 : decode cX7_readSum 70 = .ok (.goto 4, 3) := by decide +kernel
theorem dX7_readSum_73 : decode cX7_readSum 73 = .ok (.iconst 0, 1) := by decide +kernel
theorem dX7_readSum_74 : decode cX7_readSum 74 = .ok (.istore_n 1, 1) := by decide +kernel
theorem dX7_readSum_75 : decode cX7_readSum 75 = .ok (.iinc 2 1, 3) := by decide +kernel
theorem dX7_readSum_78 : decode cX7_readSum 78 = .ok (.goto (-71), 3) := by decide +kernel
theorem dX7_readSum_81 : decode cX7_readSum 81 = .ok (.iload_n 1, 1) := by decide +kernel
theorem dX7_readSum_82 : decode cX7_readSum 82 = .ok (.ireturn, 1) := by decide +kernel
theorem dX7_readTwo_0 : decode cX7_readTwo 0 = .ok (.aload_n 0, 1) := by decide +kernel
theorem dX7_readTwo_1 : decode cX7_readTwo 1 = .ok (.getfield 57, 3) := by decide +kernel
theorem dX7_readTwo_4 : decode cX7_readTwo 4 = .ok (.istore_n 1, 1) := by decide +kernel
theorem dX7_readTwo_5 : decode cX7_readTwo 5 = .ok (.aload_n 0, 1) := by decide +kernel
theorem dX7_readTwo_6 : decode cX7_readTwo 6 = .ok (.bipush 40, 2) := by decide +kernel
theorem dX7_readTwo_8 : decode cX7_readTwo 8 = .ok (.invokevirtual 95, 3) := by decide +kernel
theorem dX7_readTwo_11 : decode cX7_readTwo 11 = .ok (.ifCond .eq 54, 3) := by decide +kernel
theorem dX7_readTwo_14 : decode cX7_readTwo 14 = .ok (.aload_n 0, 1) := by decide +kernel
theorem dX7_readTwo_15 : decode cX7_readTwo 15 = .ok (.iload_n 1, 1) := by decide +kernel
theorem dX7_readTwo_16 : decode cX7_readTwo 16 = .ok (.invokevirtual 149, 3) := by decide +kernel
theorem dX7_readTwo_19 : decode cX7_readTwo 19 = .ok (.ifCond .eq 46, 3) := by decide +kernel
theorem dX7_readTwo_22 : decode cX7_readTwo 22 = .ok (.aload_n 0, 1) := by decide +kernel
theorem dX7_readTwo_23 : decode cX7_readTwo 23 = .ok (.invokevirtual 105, 3) := by decide +kernel
theorem dX7_readTwo_26 : decode cX7_readTwo 26 = .ok (.ifCond .eq 39, 3) := by decide +kernel
theorem dX7_readTwo_29 : decode cX7_readTwo 29 = .ok (.aload_n 0, 1) := by decide +kernel
theorem dX7_readTwo_30 : decode cX7_readTwo 30 = .ok (.bipush 44, 2) := by decide +kernel
theorem dX7_readTwo_32 : decode cX7_readTwo 32 = .ok (.invokevirtual 95, 3) := by decide +kernel
theorem dX7_readTwo_35 : decode cX7_readTwo 35 = .ok (.ifCond .eq 30, 3) := by decide +kernel
theorem dX7_readTwo_38 : decode cX7_readTwo 38 = .ok (.aload_n 0, 1) := by decide +kernel
theorem dX7_readTwo_39 : decode cX7_readTwo 39 = .ok (.invokevirtual 105, 3) := by decide +kernel
theorem dX7_readTwo_42 : decode cX7_readTwo 42 = .ok (.ifCond .eq 23, 3) := by decide +kernel
theorem dX7_readTwo_45 : decode cX7_readTwo 45 = .ok (.aload_n 0, 1) := by decide +kernel
theorem dX7_readTwo_46 : decode cX7_readTwo 46 = .ok (.bipush 41, 2) := by decide +kernel
theorem dX7_readTwo_48 : decode cX7_readTwo 48 = .ok (.invokevirtual 95, 3) := by decide +kernel
theorem dX7_readTwo_51 : decode cX7_readTwo 51 = .ok (.ifCond .eq 14, 3) := by decide +kernel
theorem dX7_readTwo_54 : decode cX7_readTwo 54 = .ok (.aload_n 0, 1) := by decide +kernel
theorem dX7_readTwo_55 : decode cX7_readTwo 55 = .ok (.invokevirtual 152, 3) := by decide +kernel
theorem dX7_readTwo_58 : decode cX7_readTwo 58 = .ok (.ifCond .eq 7, 3) := by decide +kernel
theorem dX7_readTwo_61 : decode cX7_readTwo 61 = .ok (.iconst 1, 1) := by decide +kernel
theorem dX7_readTwo_62 : decode cX7_readTwo 62 = .ok (.goto 4, 3) := by decide +kernel
theorem dX7_readTwo_65 : decode cX7_readTwo 65 = .ok (.iconst 0, 1) := by decide +kernel
theorem dX7_readTwo_66 : decode cX7_readTwo 66 = .ok (.ireturn, 1) := by decide +kernel
theorem zy_X7_readPart : zYv yX7_readPart cX7_readPart 3 (some .boolean) 0 := ⟨zw_749, zws_17, zw_6, zw_750, by decide, by decide, by decide⟩
theorem zy_X7_readProduct : zYv yX7_readProduct cX7_readProduct 4 (some .boolean) 0 := ⟨zw_745, zws_16, zw_6, zw_746, by decide, by decide, by decide⟩
theorem zy_X7_readSum : zYv yX7_readSum cX7_readSum 4 (some .boolean) 0 := ⟨zw_741, zws_15, zw_6, zw_742, by decide, by decide, by decide⟩
theorem zy_X7_readTwo : zYv yX7_readTwo cX7_readTwo 2 (some .boolean) 0 := ⟨zw_790, zws_26, zw_6, zw_791, by decide, by decide, by decide⟩
def pG_readPart_readProduct_readSum_readTwo_0 (v_length : Int32) (v_tape : (Nat → Int32)) (rec : Nat → Int32 → Int32 → Int32 → Int32 → Int32 → Int32 → Int32 → (Nat → Int32) → Option R_pReader_readPart) (rm : Room) : Prop := ∀ {l : Launch} {X : zX} {I : Nat → Nat → Int32} {J : Nat → Nat → Int64} {Rr : Nat → Nat → Option Nat} {D : zD} (oI33 : Nat → Int32) (eoI33 : I 33 = oI33) (e_v_length : I 33 3 = v_length) (e_v_tape : I 34 = v_tape) (v_at : Int32) (e_v_at : I 33 7 = v_at) (v_fault : Int32) (e_v_fault : I 33 10 = v_fault) (v_faultAt : Int32) (e_v_faultAt : I 33 11 = v_faultAt) (v_kind : Int32) (e_v_kind : I 33 6 = v_kind) (v_open : Int32) (e_v_open : I 33 9 = v_open) (v_size : Int32) (e_v_size : I 33 4 = v_size) (v_stop : Int32) (e_v_stop : I 33 8 = v_stop) (v_code : (Nat → Int32)) (e_v_code : I 35 = v_code) {rr : Int32} {y_v_at : Int32} {y_v_fault : Int32} {y_v_faultAt : Int32} {y_v_kind : Int32} {y_v_open : Int32} {y_v_size : Int32} {y_v_stop : Int32} {y_v_code : (Nat → Int32)}, rec 0 v_at v_fault v_faultAt v_kind v_open v_size v_stop v_code = some (rr, y_v_at, y_v_fault, y_v_faultAt, y_v_kind, y_v_open, y_v_size, y_v_stop, y_v_code) → zMi l yX7_readPart cX7_readPart 3 (some .boolean) rm X [.ref (X.1 + 33)] (I, J, Rr, D) rr ((va_up (va_up I 33 (va_up (va_up (va_up (va_up (va_up (va_up (va_up oI33 4 y_v_size) 6 y_v_kind) 7 y_v_at) 8 y_v_stop) 9 y_v_open) 10 y_v_fault) 11 y_v_faultAt)) 35 y_v_code), J, Rr, D)
def pG_readPart_readProduct_readSum_readTwo_1 (v_length : Int32) (v_tape : (Nat → Int32)) (rec : Nat → Int32 → Int32 → Int32 → Int32 → Int32 → Int32 → Int32 → (Nat → Int32) → Option R_pReader_readProduct) (rm : Room) : Prop := ∀ {l : Launch} {X : zX} {I : Nat → Nat → Int32} {J : Nat → Nat → Int64} {Rr : Nat → Nat → Option Nat} {D : zD} (oI33 : Nat → Int32) (eoI33 : I 33 = oI33) (e_v_length : I 33 3 = v_length) (e_v_tape : I 34 = v_tape) (v_at : Int32) (e_v_at : I 33 7 = v_at) (v_fault : Int32) (e_v_fault : I 33 10 = v_fault) (v_faultAt : Int32) (e_v_faultAt : I 33 11 = v_faultAt) (v_kind : Int32) (e_v_kind : I 33 6 = v_kind) (v_open : Int32) (e_v_open : I 33 9 = v_open) (v_size : Int32) (e_v_size : I 33 4 = v_size) (v_stop : Int32) (e_v_stop : I 33 8 = v_stop) (v_code : (Nat → Int32)) (e_v_code : I 35 = v_code) {rr : Int32} {y_v_at : Int32} {y_v_fault : Int32} {y_v_faultAt : Int32} {y_v_kind : Int32} {y_v_open : Int32} {y_v_size : Int32} {y_v_stop : Int32} {y_v_code : (Nat → Int32)}, rec 1 v_at v_fault v_faultAt v_kind v_open v_size v_stop v_code = some (rr, y_v_at, y_v_fault, y_v_faultAt, y_v_kind, y_v_open, y_v_size, y_v_stop, y_v_code) → zMi l yX7_readProduct cX7_readProduct 4 (some .boolean) rm X [.ref (X.1 + 33)] (I, J, Rr, D) rr ((va_up (va_up I 33 (va_up (va_up (va_up (va_up (va_up (va_up (va_up oI33 4 y_v_size) 6 y_v_kind) 7 y_v_at) 8 y_v_stop) 9 y_v_open) 10 y_v_fault) 11 y_v_faultAt)) 35 y_v_code), J, Rr, D)
def pG_readPart_readProduct_readSum_readTwo_2 (v_length : Int32) (v_tape : (Nat → Int32)) (rec : Nat → Int32 → Int32 → Int32 → Int32 → Int32 → Int32 → Int32 → (Nat → Int32) → Option R_pReader_readSum) (rm : Room) : Prop := ∀ {l : Launch} {X : zX} {I : Nat → Nat → Int32} {J : Nat → Nat → Int64} {Rr : Nat → Nat → Option Nat} {D : zD} (oI33 : Nat → Int32) (eoI33 : I 33 = oI33) (e_v_length : I 33 3 = v_length) (e_v_tape : I 34 = v_tape) (v_at : Int32) (e_v_at : I 33 7 = v_at) (v_fault : Int32) (e_v_fault : I 33 10 = v_fault) (v_faultAt : Int32) (e_v_faultAt : I 33 11 = v_faultAt) (v_kind : Int32) (e_v_kind : I 33 6 = v_kind) (v_open : Int32) (e_v_open : I 33 9 = v_open) (v_size : Int32) (e_v_size : I 33 4 = v_size) (v_stop : Int32) (e_v_stop : I 33 8 = v_stop) (v_code : (Nat → Int32)) (e_v_code : I 35 = v_code) {rr : Int32} {y_v_at : Int32} {y_v_fault : Int32} {y_v_faultAt : Int32} {y_v_kind : Int32} {y_v_open : Int32} {y_v_size : Int32} {y_v_stop : Int32} {y_v_code : (Nat → Int32)}, rec 2 v_at v_fault v_faultAt v_kind v_open v_size v_stop v_code = some (rr, y_v_at, y_v_fault, y_v_faultAt, y_v_kind, y_v_open, y_v_size, y_v_stop, y_v_code) → zMi l yX7_readSum cX7_readSum 4 (some .boolean) rm X [.ref (X.1 + 33)] (I, J, Rr, D) rr ((va_up (va_up I 33 (va_up (va_up (va_up (va_up (va_up (va_up (va_up oI33 4 y_v_size) 6 y_v_kind) 7 y_v_at) 8 y_v_stop) 9 y_v_open) 10 y_v_fault) 11 y_v_faultAt)) 35 y_v_code), J, Rr, D)
def pG_readPart_readProduct_readSum_readTwo_3 (v_length : Int32) (v_tape : (Nat → Int32)) (rec : Nat → Int32 → Int32 → Int32 → Int32 → Int32 → Int32 → Int32 → (Nat → Int32) → Option R_pReader_readTwo) (rm : Room) : Prop := ∀ {l : Launch} {X : zX} {I : Nat → Nat → Int32} {J : Nat → Nat → Int64} {Rr : Nat → Nat → Option Nat} {D : zD} (oI33 : Nat → Int32) (eoI33 : I 33 = oI33) (e_v_length : I 33 3 = v_length) (e_v_tape : I 34 = v_tape) (v_at : Int32) (e_v_at : I 33 7 = v_at) (v_fault : Int32) (e_v_fault : I 33 10 = v_fault) (v_faultAt : Int32) (e_v_faultAt : I 33 11 = v_faultAt) (v_kind : Int32) (e_v_kind : I 33 6 = v_kind) (v_open : Int32) (e_v_open : I 33 9 = v_open) (v_size : Int32) (e_v_size : I 33 4 = v_size) (v_stop : Int32) (e_v_stop : I 33 8 = v_stop) (v_code : (Nat → Int32)) (e_v_code : I 35 = v_code) {rr : Int32} {y_v_at : Int32} {y_v_fault : Int32} {y_v_faultAt : Int32} {y_v_kind : Int32} {y_v_open : Int32} {y_v_size : Int32} {y_v_stop : Int32} {y_v_code : (Nat → Int32)}, rec 3 v_at v_fault v_faultAt v_kind v_open v_size v_stop v_code = some (rr, y_v_at, y_v_fault, y_v_faultAt, y_v_kind, y_v_open, y_v_size, y_v_stop, y_v_code) → zMi l yX7_readTwo cX7_readTwo 2 (some .boolean) rm X [.ref (X.1 + 33)] (I, J, Rr, D) rr ((va_up (va_up I 33 (va_up (va_up (va_up (va_up (va_up (va_up (va_up oI33 4 y_v_size) 6 y_v_kind) 7 y_v_at) 8 y_v_stop) 9 y_v_open) 10 y_v_fault) 11 y_v_faultAt)) 35 y_v_code), J, Rr, D)
def pG_readPart_readProduct_readSum_readTwo_H (v_length : Int32) (v_tape : (Nat → Int32)) (rec : Nat → Int32 → Int32 → Int32 → Int32 → Int32 → Int32 → Int32 → (Nat → Int32) → Option R_pReader_readPart) (rm : Room) : Prop := pG_readPart_readProduct_readSum_readTwo_0 v_length v_tape rec rm ∧ pG_readPart_readProduct_readSum_readTwo_1 v_length v_tape rec rm ∧ pG_readPart_readProduct_readSum_readTwo_2 v_length v_tape rec rm ∧ pG_readPart_readProduct_readSum_readTwo_3 v_length v_tape rec rm
theorem c_X7_readPart_b209 {C : zC} {I : Nat → Nat → Int32} {J : Nat → Nat → Int64} {Rr : Nat → Nat → Option Nat} {D : zD} (N : Nat) (d9 : Nat) (rec : Nat → Int32 → Int32 → Int32 → Int32 → Int32 → Int32 → Int32 → (Nat → Int32) → Option R_pReader_readPart) (v_length : Int32) (e_v_length : I 33 3 = v_length) (v_tape : (Nat → Int32)) (e_v_tape : I 34 = v_tape) (hrec : pG_readPart_readProduct_readSum_readTwo_H v_length v_tape rec (zrm 14 327 d9)) (rr : Int32) (y_v_at : Int32) (y_v_fault : Int32) (y_v_faultAt : Int32) (y_v_kind : Int32) (y_v_open : Int32) (y_v_size : Int32) (y_v_stop : Int32) (y_v_code : (Nat → Int32)) (E : zE C RX7 cX7_readPart 3 (some .boolean) (zrm 14 327 (d9 + 1))) (hQ : C.Q = zQi C (zrm 14 327 (d9 + 1)) rr ((va_up (va_up I 33 (va_up (va_up (va_up (va_up (va_up (va_up (va_up (I 33) 4 y_v_size) 6 y_v_kind) 7 y_v_at) 8 y_v_stop) 9 y_v_open) 10 y_v_fault) 11 y_v_faultAt)) 35 y_v_code), J, Rr, D)) (s0 : Int32) (v_at : Int32) (v_fault : Int32) (v_faultAt : Int32) (v_kind : Int32) (v_open : Int32) (v_size : Int32) (v_stop : Int32) (v_code : (Nat → Int32)) (h : pReader_readPart_b209 N rec v_length v_tape s0 v_at v_fault v_faultAt v_kind v_open v_size v_stop v_code = some (rr, y_v_at, y_v_fault, y_v_faultAt, y_v_kind, y_v_open, y_v_size, y_v_stop, y_v_code)) : zB C (0, 0) 209 [(0, .ref (C.X.1 + 33))] [.int s0] ((va_up (va_up I 33 (va_up (va_up (va_up (va_up (va_up (va_up (va_up (I 33) 4 v_size) 6 v_kind) 7 v_at) 8 v_stop) 9 v_open) 10 v_fault) 11 v_faultAt)) 35 v_code), J, Rr, D) := by
  refine zb_istore_n E dX7_readPart_209 rfl (by decide) (lv2 := [(2, .int s0), (0, .ref (C.X.1 + 33))]) rfl ?_
  refine zb_iload_n E dX7_readPart_210 0 rfl rfl ?_
  refine zb_if_ne E dX7_readPart_211 (tgt := 226) rfl (fun hc => ?_) (fun hc => ?_)
  · have h := if_f h hc
    refine zb_aload_n E dX7_readPart_226 1 rfl rfl ?_
    refine zb_iload_n E dX7_readPart_227 0 rfl rfl ?_
    obtain ⟨rc19, v_fault_c19, v_faultAt_c19, v_size_c19, v_code_c19, hc_228, h⟩ := bd5_s h
    refine zb_cVi E [.int s0] 33 zy_X7_emit zw_767 (by decide) (zF_33 _ _ _ _) rfl (c_X7_emit (va_up (va_up (va_up (va_up (va_up (va_up (va_up (I 33) 4 v_size) 6 v_kind) 7 v_at) 8 v_stop) 9 v_open) 10 v_fault) 11 v_faultAt) rfl v_at rfl v_fault rfl v_faultAt rfl v_size rfl v_code rfl hc_228) (zrm_ok (by decide)) rfl rfl (by first | decide | simp [Value.category]) dX7_readPart_228 (cs2 := (0, 0)) rfl ?_
    refine zb_S (S2 := ((va_up (va_up I 33 (va_up (va_up (va_up (va_up (va_up (va_up (va_up (I 33) 4 v_size_c19) 6 v_kind) 7 v_at) 8 v_stop) 9 v_open) 10 v_fault_c19) 11 v_faultAt_c19)) 35 v_code_c19), J, Rr, D)) (zS_eq ((zcgF ((zcgV ((zcgF ((zcgF (zn7 (by decide : (11 : Nat) ≠ 4) (by decide : (10 : Nat) ≠ 4) (by decide : (9 : Nat) ≠ 4) (by decide : (8 : Nat) ≠ 4) (by decide : (7 : Nat) ≠ 4) (by decide : (6 : Nat) ≠ 4))).trans (zn2 (by decide : (11 : Nat) ≠ 10)))).trans zn1)).trans (zn2 (by decide : (35 : Nat) ≠ 33)))).trans zn1) rfl) ?_
    obtain ⟨gB, h⟩ := gd_s h
    obtain ⟨rfl, rfl, rfl, rfl, rfl, rfl, rfl, rfl, rfl⟩ := zinj9 h
    exact zb_zret E hQ (ty := .boolean) rfl (isB_n gB) ⟨Nat.zero_le _, Nat.zero_le _⟩ dX7_readPart_231
  · have h := if_t h hc
    refine zb_aload_n E dX7_readPart_214 1 rfl rfl ?_
    refine zb_iconst E dX7_readPart_215 (v := 1) rfl ?_
    refine zb_aload_n E dX7_readPart_216 1 rfl rfl ?_
    refine zb_get E 33 (by decide) (zF_33 C.X) rfl zin7 7 (by decide) zw_145 (v := .int v_at) rfl dX7_readPart_217 ?_
    obtain ⟨rc20, v_fault_c20, v_faultAt_c20, hc_220, h⟩ := bd3_s h
    refine zb_cVi E [.int 1, .int v_at] 33 zy_X7_fail zw_756 (by decide) (zF_33 _ _ _ _) rfl (c_X7_fail (va_up (va_up (va_up (va_up (va_up (va_up (va_up (I 33) 4 v_size) 6 v_kind) 7 v_at) 8 v_stop) 9 v_open) 10 v_fault) 11 v_faultAt) rfl v_fault rfl v_faultAt rfl hc_220) (zrm_ok (by decide)) rfl rfl (by first | decide | simp [Value.category]) dX7_readPart_220 (cs2 := (0, 0)) rfl ?_
    refine zb_S (S2 := ((va_up (va_up I 33 (va_up (va_up (va_up (va_up (va_up (va_up (va_up (I 33) 4 v_size) 6 v_kind) 7 v_at) 8 v_stop) 9 v_open) 10 v_fault_c20) 11 v_faultAt_c20)) 35 v_code), J, Rr, D)) (zS_eq ((zcgV ((zcgF (zn2 (by decide : (11 : Nat) ≠ 10))).trans zn1)).trans (zn2 (by decide : (35 : Nat) ≠ 33))) rfl) ?_
    refine zb_goto E dX7_readPart_223 (tgt := 231) rfl ?_
    obtain ⟨gB, h⟩ := gd_s h
    obtain ⟨rfl, rfl, rfl, rfl, rfl, rfl, rfl, rfl, rfl⟩ := zinj9 h
    exact zb_zret E hQ (ty := .boolean) rfl (isB_n gB) ⟨Nat.zero_le _, Nat.zero_le _⟩ dX7_readPart_231
theorem c_X7_readPart_0 {C : zC} {I : Nat → Nat → Int32} {J : Nat → Nat → Int64} {Rr : Nat → Nat → Option Nat} {D : zD} (N : Nat) (d9 : Nat) (rec : Nat → Int32 → Int32 → Int32 → Int32 → Int32 → Int32 → Int32 → (Nat → Int32) → Option R_pReader_readPart) (v_length : Int32) (e_v_length : I 33 3 = v_length) (v_tape : (Nat → Int32)) (e_v_tape : I 34 = v_tape) (hrec : pG_readPart_readProduct_readSum_readTwo_H v_length v_tape rec (zrm 14 327 d9)) (rr : Int32) (y_v_at : Int32) (y_v_fault : Int32) (y_v_faultAt : Int32) (y_v_kind : Int32) (y_v_open : Int32) (y_v_size : Int32) (y_v_stop : Int32) (y_v_code : (Nat → Int32)) (E : zE C RX7 cX7_readPart 3 (some .boolean) (zrm 14 327 (d9 + 1))) (hQ : C.Q = zQi C (zrm 14 327 (d9 + 1)) rr ((va_up (va_up I 33 (va_up (va_up (va_up (va_up (va_up (va_up (va_up (I 33) 4 y_v_size) 6 y_v_kind) 7 y_v_at) 8 y_v_stop) 9 y_v_open) 10 y_v_fault) 11 y_v_faultAt)) 35 y_v_code), J, Rr, D)) (v_at : Int32) (v_fault : Int32) (v_faultAt : Int32) (v_kind : Int32) (v_open : Int32) (v_size : Int32) (v_stop : Int32) (v_code : (Nat → Int32)) (h : pReader_readPart_G N rec v_length v_tape v_at v_fault v_faultAt v_kind v_open v_size v_stop v_code = some (rr, y_v_at, y_v_fault, y_v_faultAt, y_v_kind, y_v_open, y_v_size, y_v_stop, y_v_code)) : zB C (0, 0) 0 [(0, .ref (C.X.1 + 33))] [] ((va_up (va_up I 33 (va_up (va_up (va_up (va_up (va_up (va_up (va_up (I 33) 4 v_size) 6 v_kind) 7 v_at) 8 v_stop) 9 v_open) 10 v_fault) 11 v_faultAt)) 35 v_code), J, Rr, D) := by
  refine zb_aload_n E dX7_readPart_0 0 rfl rfl ?_
  refine zb_get E 33 (by decide) (zF_33 C.X) rfl zin7 7 (by decide) zw_145 (v := .int v_at) rfl dX7_readPart_1 ?_
  refine zb_istore_n E dX7_readPart_4 rfl (by decide) (lv2 := [(1, .int v_at), (0, .ref (C.X.1 + 33))]) rfl ?_
  refine zb_aload_n E dX7_readPart_5 1 rfl rfl ?_
  refine zb_get E 33 (by decide) (zF_33 C.X) rfl zin7 6 (by decide) zw_144 (v := .int v_kind) rfl dX7_readPart_6 ?_
  refine zb_iconst E dX7_readPart_9 (v := 2) rfl ?_
  refine zb_icmp_ne E dX7_readPart_10 (tgt := 45) rfl (fun hc => ?_) (fun hc => ?_)
  · have h := if_f h hc
    refine zb_aload_n E dX7_readPart_45 1 rfl rfl ?_
    refine zb_bipush E dX7_readPart_46 (v := 40) rfl ?_
    obtain ⟨rc1, v_at_c1, v_kind_c1, v_stop_c1, hc_48, h⟩ := bd4_s h
    refine zb_cVi E [.int 40] 33 zy_X7_takeMark zw_771 (by decide) (zF_33 _ _ _ _) rfl (c_X7_takeMark (va_up (va_up (va_up (va_up (va_up (va_up (va_up (I 33) 4 v_size) 6 v_kind) 7 v_at) 8 v_stop) 9 v_open) 10 v_fault) 11 v_faultAt) rfl v_length (by exact e_v_length) v_tape (by exact e_v_tape) v_at rfl v_kind rfl v_stop rfl hc_48) (zrm_ok (by decide)) rfl rfl (by first | decide | simp [Value.category]) dX7_readPart_48 (cs2 := (0, 0)) rfl ?_
    refine zb_S (S2 := ((va_up (va_up I 33 (va_up (va_up (va_up (va_up (va_up (va_up (va_up (I 33) 4 v_size) 6 v_kind_c1) 7 v_at_c1) 8 v_stop_c1) 9 v_open) 10 v_fault) 11 v_faultAt)) 35 v_code), J, Rr, D)) (zS_eq ((zcgV ((zcgF ((zcgF (zn6 (by decide : (11 : Nat) ≠ 6) (by decide : (10 : Nat) ≠ 6) (by decide : (9 : Nat) ≠ 6) (by decide : (8 : Nat) ≠ 6) (by decide : (7 : Nat) ≠ 6))).trans (zn5 (by decide : (11 : Nat) ≠ 7) (by decide : (10 : Nat) ≠ 7) (by decide : (9 : Nat) ≠ 7) (by decide : (8 : Nat) ≠ 7)))).trans (zn4 (by decide : (11 : Nat) ≠ 8) (by decide : (10 : Nat) ≠ 8) (by decide : (9 : Nat) ≠ 8)))).trans (zn2 (by decide : (35 : Nat) ≠ 33))) rfl) ?_
    refine zb_if_eq E dX7_readPart_51 (tgt := 91) rfl (fun hc => ?_) (fun hc => ?_)
    · have h := if_t h hc
      refine zb_aload_n E dX7_readPart_91 1 rfl rfl ?_
      refine zb_ldcS E rfl zJ_4 dX7_readPart_92 ?_
      obtain ⟨rc2, v_at_c2, v_kind_c2, v_stop_c2, hc_94, h⟩ := bd4_s h
      refine zb_cVi E [.ref (C.X.2.2.2.2.1 4)] 33 zy_X7_takeWord zw_687 (by decide) (zF_33 _ _ _ _) rfl (c_X7_takeWord (by decide) (va_up (va_up (va_up (va_up (va_up (va_up (va_up (I 33) 4 v_size) 6 v_kind_c1) 7 v_at_c1) 8 v_stop_c1) 9 v_open) 10 v_fault) 11 v_faultAt) rfl v_length (by exact e_v_length) v_tape (by exact e_v_tape) v_at_c1 rfl v_kind_c1 rfl v_stop_c1 rfl hc_94) (zrm_ok (by decide)) rfl rfl (by first | decide | simp [Value.category]) dX7_readPart_94 (cs2 := (0, 0)) rfl ?_
      refine zb_S (S2 := ((va_up (va_up I 33 (va_up (va_up (va_up (va_up (va_up (va_up (va_up (I 33) 4 v_size) 6 v_kind_c2) 7 v_at_c2) 8 v_stop_c2) 9 v_open) 10 v_fault) 11 v_faultAt)) 35 v_code), J, Rr, D)) (zS_eq ((zcgV ((zcgF ((zcgF (zn6 (by decide : (11 : Nat) ≠ 6) (by decide : (10 : Nat) ≠ 6) (by decide : (9 : Nat) ≠ 6) (by decide : (8 : Nat) ≠ 6) (by decide : (7 : Nat) ≠ 6))).trans (zn5 (by decide : (11 : Nat) ≠ 7) (by decide : (10 : Nat) ≠ 7) (by decide : (9 : Nat) ≠ 7) (by decide : (8 : Nat) ≠ 7)))).trans (zn4 (by decide : (11 : Nat) ≠ 8) (by decide : (10 : Nat) ≠ 8) (by decide : (9 : Nat) ≠ 8)))).trans (zn2 (by decide : (35 : Nat) ≠ 33))) rfl) ?_
      refine zb_if_eq E dX7_readPart_97 (tgt := 122) rfl (fun hc => ?_) (fun hc => ?_)
      · have h := if_t h hc
        refine zb_aload_n E dX7_readPart_122 1 rfl rfl ?_
        refine zb_ldcS E rfl zJ_5 dX7_readPart_123 ?_
        obtain ⟨rc3, v_at_c3, v_kind_c3, v_stop_c3, hc_125, h⟩ := bd4_s h
        refine zb_cVi E [.ref (C.X.2.2.2.2.1 5)] 33 zy_X7_takeWord zw_687 (by decide) (zF_33 _ _ _ _) rfl (c_X7_takeWord (by decide) (va_up (va_up (va_up (va_up (va_up (va_up (va_up (I 33) 4 v_size) 6 v_kind_c2) 7 v_at_c2) 8 v_stop_c2) 9 v_open) 10 v_fault) 11 v_faultAt) rfl v_length (by exact e_v_length) v_tape (by exact e_v_tape) v_at_c2 rfl v_kind_c2 rfl v_stop_c2 rfl hc_125) (zrm_ok (by decide)) rfl rfl (by first | decide | simp [Value.category]) dX7_readPart_125 (cs2 := (0, 0)) rfl ?_
        refine zb_S (S2 := ((va_up (va_up I 33 (va_up (va_up (va_up (va_up (va_up (va_up (va_up (I 33) 4 v_size) 6 v_kind_c3) 7 v_at_c3) 8 v_stop_c3) 9 v_open) 10 v_fault) 11 v_faultAt)) 35 v_code), J, Rr, D)) (zS_eq ((zcgV ((zcgF ((zcgF (zn6 (by decide : (11 : Nat) ≠ 6) (by decide : (10 : Nat) ≠ 6) (by decide : (9 : Nat) ≠ 6) (by decide : (8 : Nat) ≠ 6) (by decide : (7 : Nat) ≠ 6))).trans (zn5 (by decide : (11 : Nat) ≠ 7) (by decide : (10 : Nat) ≠ 7) (by decide : (9 : Nat) ≠ 7) (by decide : (8 : Nat) ≠ 7)))).trans (zn4 (by decide : (11 : Nat) ≠ 8) (by decide : (10 : Nat) ≠ 8) (by decide : (9 : Nat) ≠ 8)))).trans (zn2 (by decide : (35 : Nat) ≠ 33))) rfl) ?_
        refine zb_if_eq E dX7_readPart_128 (tgt := 153) rfl (fun hc => ?_) (fun hc => ?_)
        · have h := if_t h hc
          refine zb_aload_n E dX7_readPart_153 1 rfl rfl ?_
          refine zb_ldcS E rfl zJ_6 dX7_readPart_154 ?_
          obtain ⟨rc4, v_at_c4, v_kind_c4, v_stop_c4, hc_156, h⟩ := bd4_s h
          refine zb_cVi E [.ref (C.X.2.2.2.2.1 6)] 33 zy_X7_takeWord zw_687 (by decide) (zF_33 _ _ _ _) rfl (c_X7_takeWord (by decide) (va_up (va_up (va_up (va_up (va_up (va_up (va_up (I 33) 4 v_size) 6 v_kind_c3) 7 v_at_c3) 8 v_stop_c3) 9 v_open) 10 v_fault) 11 v_faultAt) rfl v_length (by exact e_v_length) v_tape (by exact e_v_tape) v_at_c3 rfl v_kind_c3 rfl v_stop_c3 rfl hc_156) (zrm_ok (by decide)) rfl rfl (by first | decide | simp [Value.category]) dX7_readPart_156 (cs2 := (0, 0)) rfl ?_
          refine zb_S (S2 := ((va_up (va_up I 33 (va_up (va_up (va_up (va_up (va_up (va_up (va_up (I 33) 4 v_size) 6 v_kind_c4) 7 v_at_c4) 8 v_stop_c4) 9 v_open) 10 v_fault) 11 v_faultAt)) 35 v_code), J, Rr, D)) (zS_eq ((zcgV ((zcgF ((zcgF (zn6 (by decide : (11 : Nat) ≠ 6) (by decide : (10 : Nat) ≠ 6) (by decide : (9 : Nat) ≠ 6) (by decide : (8 : Nat) ≠ 6) (by decide : (7 : Nat) ≠ 6))).trans (zn5 (by decide : (11 : Nat) ≠ 7) (by decide : (10 : Nat) ≠ 7) (by decide : (9 : Nat) ≠ 7) (by decide : (8 : Nat) ≠ 7)))).trans (zn4 (by decide : (11 : Nat) ≠ 8) (by decide : (10 : Nat) ≠ 8) (by decide : (9 : Nat) ≠ 8)))).trans (zn2 (by decide : (35 : Nat) ≠ 33))) rfl) ?_
          refine zb_if_eq E dX7_readPart_159 (tgt := 166) rfl (fun hc => ?_) (fun hc => ?_)
          · have h := if_t h hc
            refine zb_aload_n E dX7_readPart_166 1 rfl rfl ?_
            refine zb_ldcS E rfl zJ_7 dX7_readPart_167 ?_
            obtain ⟨rc5, v_at_c5, v_kind_c5, v_stop_c5, hc_169, h⟩ := bd4_s h
            refine zb_cVi E [.ref (C.X.2.2.2.2.1 7)] 33 zy_X7_takeWord zw_687 (by decide) (zF_33 _ _ _ _) rfl (c_X7_takeWord (by decide) (va_up (va_up (va_up (va_up (va_up (va_up (va_up (I 33) 4 v_size) 6 v_kind_c4) 7 v_at_c4) 8 v_stop_c4) 9 v_open) 10 v_fault) 11 v_faultAt) rfl v_length (by exact e_v_length) v_tape (by exact e_v_tape) v_at_c4 rfl v_kind_c4 rfl v_stop_c4 rfl hc_169) (zrm_ok (by decide)) rfl rfl (by first | decide | simp [Value.category]) dX7_readPart_169 (cs2 := (0, 0)) rfl ?_
            refine zb_S (S2 := ((va_up (va_up I 33 (va_up (va_up (va_up (va_up (va_up (va_up (va_up (I 33) 4 v_size) 6 v_kind_c5) 7 v_at_c5) 8 v_stop_c5) 9 v_open) 10 v_fault) 11 v_faultAt)) 35 v_code), J, Rr, D)) (zS_eq ((zcgV ((zcgF ((zcgF (zn6 (by decide : (11 : Nat) ≠ 6) (by decide : (10 : Nat) ≠ 6) (by decide : (9 : Nat) ≠ 6) (by decide : (8 : Nat) ≠ 6) (by decide : (7 : Nat) ≠ 6))).trans (zn5 (by decide : (11 : Nat) ≠ 7) (by decide : (10 : Nat) ≠ 7) (by decide : (9 : Nat) ≠ 7) (by decide : (8 : Nat) ≠ 7)))).trans (zn4 (by decide : (11 : Nat) ≠ 8) (by decide : (10 : Nat) ≠ 8) (by decide : (9 : Nat) ≠ 8)))).trans (zn2 (by decide : (35 : Nat) ≠ 33))) rfl) ?_
            refine zb_if_eq E dX7_readPart_172 (tgt := 180) rfl (fun hc => ?_) (fun hc => ?_)
            · have h := if_t h hc
              refine zb_aload_n E dX7_readPart_180 1 rfl rfl ?_
              refine zb_ldcS E rfl zJ_8 dX7_readPart_181 ?_
              obtain ⟨rc6, v_at_c6, v_kind_c6, v_stop_c6, hc_183, h⟩ := bd4_s h
              refine zb_cVi E [.ref (C.X.2.2.2.2.1 8)] 33 zy_X7_takeWord zw_687 (by decide) (zF_33 _ _ _ _) rfl (c_X7_takeWord (by decide) (va_up (va_up (va_up (va_up (va_up (va_up (va_up (I 33) 4 v_size) 6 v_kind_c5) 7 v_at_c5) 8 v_stop_c5) 9 v_open) 10 v_fault) 11 v_faultAt) rfl v_length (by exact e_v_length) v_tape (by exact e_v_tape) v_at_c5 rfl v_kind_c5 rfl v_stop_c5 rfl hc_183) (zrm_ok (by decide)) rfl rfl (by first | decide | simp [Value.category]) dX7_readPart_183 (cs2 := (0, 0)) rfl ?_
              refine zb_S (S2 := ((va_up (va_up I 33 (va_up (va_up (va_up (va_up (va_up (va_up (va_up (I 33) 4 v_size) 6 v_kind_c6) 7 v_at_c6) 8 v_stop_c6) 9 v_open) 10 v_fault) 11 v_faultAt)) 35 v_code), J, Rr, D)) (zS_eq ((zcgV ((zcgF ((zcgF (zn6 (by decide : (11 : Nat) ≠ 6) (by decide : (10 : Nat) ≠ 6) (by decide : (9 : Nat) ≠ 6) (by decide : (8 : Nat) ≠ 6) (by decide : (7 : Nat) ≠ 6))).trans (zn5 (by decide : (11 : Nat) ≠ 7) (by decide : (10 : Nat) ≠ 7) (by decide : (9 : Nat) ≠ 7) (by decide : (8 : Nat) ≠ 7)))).trans (zn4 (by decide : (11 : Nat) ≠ 8) (by decide : (10 : Nat) ≠ 8) (by decide : (9 : Nat) ≠ 8)))).trans (zn2 (by decide : (35 : Nat) ≠ 33))) rfl) ?_
              refine zb_if_eq E dX7_readPart_186 (tgt := 194) rfl (fun hc => ?_) (fun hc => ?_)
              · have h := if_t h hc
                refine zb_aload_n E dX7_readPart_194 1 rfl rfl ?_
                refine zb_ldcS E rfl zJ_9 dX7_readPart_195 ?_
                obtain ⟨rc7, v_at_c7, v_kind_c7, v_stop_c7, hc_197, h⟩ := bd4_s h
                refine zb_cVi E [.ref (C.X.2.2.2.2.1 9)] 33 zy_X7_takeWord zw_687 (by decide) (zF_33 _ _ _ _) rfl (c_X7_takeWord (by decide) (va_up (va_up (va_up (va_up (va_up (va_up (va_up (I 33) 4 v_size) 6 v_kind_c6) 7 v_at_c6) 8 v_stop_c6) 9 v_open) 10 v_fault) 11 v_faultAt) rfl v_length (by exact e_v_length) v_tape (by exact e_v_tape) v_at_c6 rfl v_kind_c6 rfl v_stop_c6 rfl hc_197) (zrm_ok (by decide)) rfl rfl (by first | decide | simp [Value.category]) dX7_readPart_197 (cs2 := (0, 0)) rfl ?_
                refine zb_S (S2 := ((va_up (va_up I 33 (va_up (va_up (va_up (va_up (va_up (va_up (va_up (I 33) 4 v_size) 6 v_kind_c7) 7 v_at_c7) 8 v_stop_c7) 9 v_open) 10 v_fault) 11 v_faultAt)) 35 v_code), J, Rr, D)) (zS_eq ((zcgV ((zcgF ((zcgF (zn6 (by decide : (11 : Nat) ≠ 6) (by decide : (10 : Nat) ≠ 6) (by decide : (9 : Nat) ≠ 6) (by decide : (8 : Nat) ≠ 6) (by decide : (7 : Nat) ≠ 6))).trans (zn5 (by decide : (11 : Nat) ≠ 7) (by decide : (10 : Nat) ≠ 7) (by decide : (9 : Nat) ≠ 7) (by decide : (8 : Nat) ≠ 7)))).trans (zn4 (by decide : (11 : Nat) ≠ 8) (by decide : (10 : Nat) ≠ 8) (by decide : (9 : Nat) ≠ 8)))).trans (zn2 (by decide : (35 : Nat) ≠ 33))) rfl) ?_
                refine zb_if_eq E dX7_readPart_200 (tgt := 208) rfl (fun hc => ?_) (fun hc => ?_)
                · have h := if_t h hc
                  refine zb_iconst E dX7_readPart_208 (v := 0) rfl ?_
                  refine zb_sub [1] rfl ?_
                  exact c_X7_readPart_b209 N d9 rec v_length e_v_length v_tape e_v_tape hrec rr y_v_at y_v_fault y_v_faultAt y_v_kind y_v_open y_v_size y_v_stop y_v_code E hQ 0 v_at_c7 v_fault v_faultAt v_kind_c7 v_open v_size v_stop_c7 v_code h
                · have h := if_f h hc
                  refine zb_bipush E dX7_readPart_203 (v := (-4)) rfl ?_
                  refine zb_goto E dX7_readPart_205 (tgt := 209) rfl ?_
                  refine zb_sub [1] rfl ?_
                  exact c_X7_readPart_b209 N d9 rec v_length e_v_length v_tape e_v_tape hrec rr y_v_at y_v_fault y_v_faultAt y_v_kind y_v_open y_v_size y_v_stop y_v_code E hQ (-4) v_at_c7 v_fault v_faultAt v_kind_c7 v_open v_size v_stop_c7 v_code h
              · have h := if_f h hc
                refine zb_bipush E dX7_readPart_189 (v := (-3)) rfl ?_
                refine zb_goto E dX7_readPart_191 (tgt := 209) rfl ?_
                refine zb_sub [1] rfl ?_
                exact c_X7_readPart_b209 N d9 rec v_length e_v_length v_tape e_v_tape hrec rr y_v_at y_v_fault y_v_faultAt y_v_kind y_v_open y_v_size y_v_stop y_v_code E hQ (-3) v_at_c6 v_fault v_faultAt v_kind_c6 v_open v_size v_stop_c6 v_code h
            · have h := if_f h hc
              refine zb_bipush E dX7_readPart_175 (v := (-2)) rfl ?_
              refine zb_goto E dX7_readPart_177 (tgt := 209) rfl ?_
              refine zb_sub [1] rfl ?_
              exact c_X7_readPart_b209 N d9 rec v_length e_v_length v_tape e_v_tape hrec rr y_v_at y_v_fault y_v_faultAt y_v_kind y_v_open y_v_size y_v_stop y_v_code E hQ (-2) v_at_c5 v_fault v_faultAt v_kind_c5 v_open v_size v_stop_c5 v_code h
          · have h := if_f h hc
            refine zb_iconst E dX7_readPart_162 (v := (-1)) rfl ?_
            refine zb_goto E dX7_readPart_163 (tgt := 209) rfl ?_
            refine zb_sub [1] rfl ?_
            exact c_X7_readPart_b209 N d9 rec v_length e_v_length v_tape e_v_tape hrec rr y_v_at y_v_fault y_v_faultAt y_v_kind y_v_open y_v_size y_v_stop y_v_code E hQ (-1) v_at_c4 v_fault v_faultAt v_kind_c4 v_open v_size v_stop_c4 v_code h
        · have h := if_f h hc
          refine zb_aload_n E dX7_readPart_131 1 rfl rfl ?_
          obtain ⟨rc8, v_at_c8, v_fault_c8, v_faultAt_c8, v_kind_c8, v_open_c8, v_size_c8, v_stop_c8, v_code_c8, hc_132, h⟩ := bd9_s h
          refine zb_cVi E [] 33 zy_X7_readTwo zw_788 (by decide) (zF_33 _ _ _ _) rfl (hrec.2.2.2 (va_up (va_up (va_up (va_up (va_up (va_up (va_up (I 33) 4 v_size) 6 v_kind_c3) 7 v_at_c3) 8 v_stop_c3) 9 v_open) 10 v_fault) 11 v_faultAt) rfl (by exact e_v_length) (by exact e_v_tape) v_at_c3 rfl v_fault rfl v_faultAt rfl v_kind_c3 rfl v_open rfl v_size rfl v_stop_c3 rfl v_code rfl hc_132) (zrm_rec (by decide)) rfl rfl (by first | decide | simp [Value.category]) dX7_readPart_132 (cs2 := (0, 0)) rfl ?_
          refine zb_S (S2 := ((va_up (va_up I 33 (va_up (va_up (va_up (va_up (va_up (va_up (va_up (I 33) 4 v_size_c8) 6 v_kind_c8) 7 v_at_c8) 8 v_stop_c8) 9 v_open_c8) 10 v_fault_c8) 11 v_faultAt_c8)) 35 v_code_c8), J, Rr, D)) (zS_eq ((zcgF ((zcgV ((zcgF ((zcgF ((zcgF ((zcgF ((zcgF ((zcgF (zn7 (by decide : (11 : Nat) ≠ 4) (by decide : (10 : Nat) ≠ 4) (by decide : (9 : Nat) ≠ 4) (by decide : (8 : Nat) ≠ 4) (by decide : (7 : Nat) ≠ 4) (by decide : (6 : Nat) ≠ 4))).trans (zn6 (by decide : (11 : Nat) ≠ 6) (by decide : (10 : Nat) ≠ 6) (by decide : (9 : Nat) ≠ 6) (by decide : (8 : Nat) ≠ 6) (by decide : (7 : Nat) ≠ 6)))).trans (zn5 (by decide : (11 : Nat) ≠ 7) (by decide : (10 : Nat) ≠ 7) (by decide : (9 : Nat) ≠ 7) (by decide : (8 : Nat) ≠ 7)))).trans (zn4 (by decide : (11 : Nat) ≠ 8) (by decide : (10 : Nat) ≠ 8) (by decide : (9 : Nat) ≠ 8)))).trans (zn3 (by decide : (11 : Nat) ≠ 9) (by decide : (10 : Nat) ≠ 9)))).trans (zn2 (by decide : (11 : Nat) ≠ 10)))).trans zn1)).trans (zn2 (by decide : (35 : Nat) ≠ 33)))).trans zn1) rfl) ?_
          refine zb_if_eq E dX7_readPart_135 (tgt := 151) rfl (fun hc => ?_) (fun hc => ?_)
          · have h := if_t h hc
            refine zb_iconst E dX7_readPart_151 (v := 0) rfl ?_
            obtain ⟨rfl, rfl, rfl, rfl, rfl, rfl, rfl, rfl, rfl⟩ := zinj9 h
            exact zb_zret E hQ (ty := .boolean) rfl rfl ⟨Nat.zero_le _, Nat.zero_le _⟩ dX7_readPart_152
          · have h := if_f h hc
            refine zb_aload_n E dX7_readPart_138 1 rfl rfl ?_
            refine zb_bipush E dX7_readPart_139 (v := (-12)) rfl ?_
            obtain ⟨rc9, v_fault_c9, v_faultAt_c9, v_size_c9, v_code_c9, hc_141, h⟩ := bd5_s h
            refine zb_cVi E [.int (-12)] 33 zy_X7_emit zw_767 (by decide) (zF_33 _ _ _ _) rfl (c_X7_emit (va_up (va_up (va_up (va_up (va_up (va_up (va_up (I 33) 4 v_size_c8) 6 v_kind_c8) 7 v_at_c8) 8 v_stop_c8) 9 v_open_c8) 10 v_fault_c8) 11 v_faultAt_c8) rfl v_at_c8 rfl v_fault_c8 rfl v_faultAt_c8 rfl v_size_c8 rfl v_code_c8 rfl hc_141) (zrm_ok (by decide)) rfl rfl (by first | decide | simp [Value.category]) dX7_readPart_141 (cs2 := (0, 0)) rfl ?_
            refine zb_S (S2 := ((va_up (va_up I 33 (va_up (va_up (va_up (va_up (va_up (va_up (va_up (I 33) 4 v_size_c9) 6 v_kind_c8) 7 v_at_c8) 8 v_stop_c8) 9 v_open_c8) 10 v_fault_c9) 11 v_faultAt_c9)) 35 v_code_c9), J, Rr, D)) (zS_eq ((zcgF ((zcgV ((zcgF ((zcgF (zn7 (by decide : (11 : Nat) ≠ 4) (by decide : (10 : Nat) ≠ 4) (by decide : (9 : Nat) ≠ 4) (by decide : (8 : Nat) ≠ 4) (by decide : (7 : Nat) ≠ 4) (by decide : (6 : Nat) ≠ 4))).trans (zn2 (by decide : (11 : Nat) ≠ 10)))).trans zn1)).trans (zn2 (by decide : (35 : Nat) ≠ 33)))).trans zn1) rfl) ?_
            refine zb_if_eq E dX7_readPart_144 (tgt := 151) rfl (fun hc => ?_) (fun hc => ?_)
            · have h := if_t h hc
              refine zb_iconst E dX7_readPart_151 (v := 0) rfl ?_
              obtain ⟨rfl, rfl, rfl, rfl, rfl, rfl, rfl, rfl, rfl⟩ := zinj9 h
              exact zb_zret E hQ (ty := .boolean) rfl rfl ⟨Nat.zero_le _, Nat.zero_le _⟩ dX7_readPart_152
            · have h := if_f h hc
              refine zb_iconst E dX7_readPart_147 (v := 1) rfl ?_
              refine zb_goto E dX7_readPart_148 (tgt := 152) rfl ?_
              obtain ⟨rfl, rfl, rfl, rfl, rfl, rfl, rfl, rfl, rfl⟩ := zinj9 h
              exact zb_zret E hQ (ty := .boolean) rfl rfl ⟨Nat.zero_le _, Nat.zero_le _⟩ dX7_readPart_152
      · have h := if_f h hc
        refine zb_aload_n E dX7_readPart_100 1 rfl rfl ?_
        obtain ⟨rc10, v_at_c10, v_fault_c10, v_faultAt_c10, v_kind_c10, v_open_c10, v_size_c10, v_stop_c10, v_code_c10, hc_101, h⟩ := bd9_s h
        refine zb_cVi E [] 33 zy_X7_readTwo zw_788 (by decide) (zF_33 _ _ _ _) rfl (hrec.2.2.2 (va_up (va_up (va_up (va_up (va_up (va_up (va_up (I 33) 4 v_size) 6 v_kind_c2) 7 v_at_c2) 8 v_stop_c2) 9 v_open) 10 v_fault) 11 v_faultAt) rfl (by exact e_v_length) (by exact e_v_tape) v_at_c2 rfl v_fault rfl v_faultAt rfl v_kind_c2 rfl v_open rfl v_size rfl v_stop_c2 rfl v_code rfl hc_101) (zrm_rec (by decide)) rfl rfl (by first | decide | simp [Value.category]) dX7_readPart_101 (cs2 := (0, 0)) rfl ?_
        refine zb_S (S2 := ((va_up (va_up I 33 (va_up (va_up (va_up (va_up (va_up (va_up (va_up (I 33) 4 v_size_c10) 6 v_kind_c10) 7 v_at_c10) 8 v_stop_c10) 9 v_open_c10) 10 v_fault_c10) 11 v_faultAt_c10)) 35 v_code_c10), J, Rr, D)) (zS_eq ((zcgF ((zcgV ((zcgF ((zcgF ((zcgF ((zcgF ((zcgF ((zcgF (zn7 (by decide : (11 : Nat) ≠ 4) (by decide : (10 : Nat) ≠ 4) (by decide : (9 : Nat) ≠ 4) (by decide : (8 : Nat) ≠ 4) (by decide : (7 : Nat) ≠ 4) (by decide : (6 : Nat) ≠ 4))).trans (zn6 (by decide : (11 : Nat) ≠ 6) (by decide : (10 : Nat) ≠ 6) (by decide : (9 : Nat) ≠ 6) (by decide : (8 : Nat) ≠ 6) (by decide : (7 : Nat) ≠ 6)))).trans (zn5 (by decide : (11 : Nat) ≠ 7) (by decide : (10 : Nat) ≠ 7) (by decide : (9 : Nat) ≠ 7) (by decide : (8 : Nat) ≠ 7)))).trans (zn4 (by decide : (11 : Nat) ≠ 8) (by decide : (10 : Nat) ≠ 8) (by decide : (9 : Nat) ≠ 8)))).trans (zn3 (by decide : (11 : Nat) ≠ 9) (by decide : (10 : Nat) ≠ 9)))).trans (zn2 (by decide : (11 : Nat) ≠ 10)))).trans zn1)).trans (zn2 (by decide : (35 : Nat) ≠ 33)))).trans zn1) rfl) ?_
        refine zb_if_eq E dX7_readPart_104 (tgt := 120) rfl (fun hc => ?_) (fun hc => ?_)
        · have h := if_t h hc
          refine zb_iconst E dX7_readPart_120 (v := 0) rfl ?_
          obtain ⟨rfl, rfl, rfl, rfl, rfl, rfl, rfl, rfl, rfl⟩ := zinj9 h
          exact zb_zret E hQ (ty := .boolean) rfl rfl ⟨Nat.zero_le _, Nat.zero_le _⟩ dX7_readPart_121
        · have h := if_f h hc
          refine zb_aload_n E dX7_readPart_107 1 rfl rfl ?_
          refine zb_bipush E dX7_readPart_108 (v := (-11)) rfl ?_
          obtain ⟨rc11, v_fault_c11, v_faultAt_c11, v_size_c11, v_code_c11, hc_110, h⟩ := bd5_s h
          refine zb_cVi E [.int (-11)] 33 zy_X7_emit zw_767 (by decide) (zF_33 _ _ _ _) rfl (c_X7_emit (va_up (va_up (va_up (va_up (va_up (va_up (va_up (I 33) 4 v_size_c10) 6 v_kind_c10) 7 v_at_c10) 8 v_stop_c10) 9 v_open_c10) 10 v_fault_c10) 11 v_faultAt_c10) rfl v_at_c10 rfl v_fault_c10 rfl v_faultAt_c10 rfl v_size_c10 rfl v_code_c10 rfl hc_110) (zrm_ok (by decide)) rfl rfl (by first | decide | simp [Value.category]) dX7_readPart_110 (cs2 := (0, 0)) rfl ?_
          refine zb_S (S2 := ((va_up (va_up I 33 (va_up (va_up (va_up (va_up (va_up (va_up (va_up (I 33) 4 v_size_c11) 6 v_kind_c10) 7 v_at_c10) 8 v_stop_c10) 9 v_open_c10) 10 v_fault_c11) 11 v_faultAt_c11)) 35 v_code_c11), J, Rr, D)) (zS_eq ((zcgF ((zcgV ((zcgF ((zcgF (zn7 (by decide : (11 : Nat) ≠ 4) (by decide : (10 : Nat) ≠ 4) (by decide : (9 : Nat) ≠ 4) (by decide : (8 : Nat) ≠ 4) (by decide : (7 : Nat) ≠ 4) (by decide : (6 : Nat) ≠ 4))).trans (zn2 (by decide : (11 : Nat) ≠ 10)))).trans zn1)).trans (zn2 (by decide : (35 : Nat) ≠ 33)))).trans zn1) rfl) ?_
          refine zb_if_eq E dX7_readPart_113 (tgt := 120) rfl (fun hc => ?_) (fun hc => ?_)
          · have h := if_t h hc
            refine zb_iconst E dX7_readPart_120 (v := 0) rfl ?_
            obtain ⟨rfl, rfl, rfl, rfl, rfl, rfl, rfl, rfl, rfl⟩ := zinj9 h
            exact zb_zret E hQ (ty := .boolean) rfl rfl ⟨Nat.zero_le _, Nat.zero_le _⟩ dX7_readPart_121
          · have h := if_f h hc
            refine zb_iconst E dX7_readPart_116 (v := 1) rfl ?_
            refine zb_goto E dX7_readPart_117 (tgt := 121) rfl ?_
            obtain ⟨rfl, rfl, rfl, rfl, rfl, rfl, rfl, rfl, rfl⟩ := zinj9 h
            exact zb_zret E hQ (ty := .boolean) rfl rfl ⟨Nat.zero_le _, Nat.zero_le _⟩ dX7_readPart_121
    · have h := if_f h hc
      refine zb_aload_n E dX7_readPart_54 1 rfl rfl ?_
      refine zb_iload_n E dX7_readPart_55 0 rfl rfl ?_
      obtain ⟨rc12, v_fault_c12, v_faultAt_c12, v_open_c12, hc_56, h⟩ := bd4_s h
      refine zb_cVi E [.int v_at] 33 zy_X7_opens zw_775 (by decide) (zF_33 _ _ _ _) rfl (c_X7_opens (va_up (va_up (va_up (va_up (va_up (va_up (va_up (I 33) 4 v_size) 6 v_kind_c1) 7 v_at_c1) 8 v_stop_c1) 9 v_open) 10 v_fault) 11 v_faultAt) rfl v_fault rfl v_faultAt rfl v_open rfl hc_56) (zrm_ok (by decide)) rfl rfl (by first | decide | simp [Value.category]) dX7_readPart_56 (cs2 := (0, 0)) rfl ?_
      refine zb_S (S2 := ((va_up (va_up I 33 (va_up (va_up (va_up (va_up (va_up (va_up (va_up (I 33) 4 v_size) 6 v_kind_c1) 7 v_at_c1) 8 v_stop_c1) 9 v_open_c12) 10 v_fault_c12) 11 v_faultAt_c12)) 35 v_code), J, Rr, D)) (zS_eq ((zcgV ((zcgF ((zcgF (zn3 (by decide : (11 : Nat) ≠ 9) (by decide : (10 : Nat) ≠ 9))).trans (zn2 (by decide : (11 : Nat) ≠ 10)))).trans zn1)).trans (zn2 (by decide : (35 : Nat) ≠ 33))) rfl) ?_
      refine zb_if_eq E dX7_readPart_59 (tgt := 89) rfl (fun hc => ?_) (fun hc => ?_)
      · have h := if_t h hc
        refine zb_iconst E dX7_readPart_89 (v := 0) rfl ?_
        obtain ⟨rfl, rfl, rfl, rfl, rfl, rfl, rfl, rfl, rfl⟩ := zinj9 h
        exact zb_zret E hQ (ty := .boolean) rfl rfl ⟨Nat.zero_le _, Nat.zero_le _⟩ dX7_readPart_90
      · have h := if_f h hc
        refine zb_aload_n E dX7_readPart_62 1 rfl rfl ?_
        obtain ⟨rc13, v_at_c13, v_fault_c13, v_faultAt_c13, v_kind_c13, v_open_c13, v_size_c13, v_stop_c13, v_code_c13, hc_63, h⟩ := bd9_s h
        refine zb_cVi E [] 33 zy_X7_readSum zw_739 (by decide) (zF_33 _ _ _ _) rfl (hrec.2.2.1 (va_up (va_up (va_up (va_up (va_up (va_up (va_up (I 33) 4 v_size) 6 v_kind_c1) 7 v_at_c1) 8 v_stop_c1) 9 v_open_c12) 10 v_fault_c12) 11 v_faultAt_c12) rfl (by exact e_v_length) (by exact e_v_tape) v_at_c1 rfl v_fault_c12 rfl v_faultAt_c12 rfl v_kind_c1 rfl v_open_c12 rfl v_size rfl v_stop_c1 rfl v_code rfl hc_63) (zrm_rec (by decide)) rfl rfl (by first | decide | simp [Value.category]) dX7_readPart_63 (cs2 := (0, 0)) rfl ?_
        refine zb_S (S2 := ((va_up (va_up I 33 (va_up (va_up (va_up (va_up (va_up (va_up (va_up (I 33) 4 v_size_c13) 6 v_kind_c13) 7 v_at_c13) 8 v_stop_c13) 9 v_open_c13) 10 v_fault_c13) 11 v_faultAt_c13)) 35 v_code_c13), J, Rr, D)) (zS_eq ((zcgF ((zcgV ((zcgF ((zcgF ((zcgF ((zcgF ((zcgF ((zcgF (zn7 (by decide : (11 : Nat) ≠ 4) (by decide : (10 : Nat) ≠ 4) (by decide : (9 : Nat) ≠ 4) (by decide : (8 : Nat) ≠ 4) (by decide : (7 : Nat) ≠ 4) (by decide : (6 : Nat) ≠ 4))).trans (zn6 (by decide : (11 : Nat) ≠ 6) (by decide : (10 : Nat) ≠ 6) (by decide : (9 : Nat) ≠ 6) (by decide : (8 : Nat) ≠ 6) (by decide : (7 : Nat) ≠ 6)))).trans (zn5 (by decide : (11 : Nat) ≠ 7) (by decide : (10 : Nat) ≠ 7) (by decide : (9 : Nat) ≠ 7) (by decide : (8 : Nat) ≠ 7)))).trans (zn4 (by decide : (11 : Nat) ≠ 8) (by decide : (10 : Nat) ≠ 8) (by decide : (9 : Nat) ≠ 8)))).trans (zn3 (by decide : (11 : Nat) ≠ 9) (by decide : (10 : Nat) ≠ 9)))).trans (zn2 (by decide : (11 : Nat) ≠ 10)))).trans zn1)).trans (zn2 (by decide : (35 : Nat) ≠ 33)))).trans zn1) rfl) ?_
        refine zb_if_eq E dX7_readPart_66 (tgt := 89) rfl (fun hc => ?_) (fun hc => ?_)
        · have h := if_t h hc
          refine zb_iconst E dX7_readPart_89 (v := 0) rfl ?_
          obtain ⟨rfl, rfl, rfl, rfl, rfl, rfl, rfl, rfl, rfl⟩ := zinj9 h
          exact zb_zret E hQ (ty := .boolean) rfl rfl ⟨Nat.zero_le _, Nat.zero_le _⟩ dX7_readPart_90
        · have h := if_f h hc
          refine zb_aload_n E dX7_readPart_69 1 rfl rfl ?_
          refine zb_bipush E dX7_readPart_70 (v := 41) rfl ?_
          obtain ⟨rc14, v_at_c14, v_fault_c14, v_faultAt_c14, v_kind_c14, v_stop_c14, hc_72, h⟩ := bd6_s h
          refine zb_cVi E [.int 41] 33 zy_X7_needMark zw_779 (by decide) (zF_33 _ _ _ _) rfl (c_X7_needMark (va_up (va_up (va_up (va_up (va_up (va_up (va_up (I 33) 4 v_size_c13) 6 v_kind_c13) 7 v_at_c13) 8 v_stop_c13) 9 v_open_c13) 10 v_fault_c13) 11 v_faultAt_c13) rfl v_length (by exact e_v_length) v_tape (by exact e_v_tape) v_at_c13 rfl v_fault_c13 rfl v_faultAt_c13 rfl v_kind_c13 rfl v_stop_c13 rfl hc_72) (zrm_ok (by decide)) rfl rfl (by first | decide | simp [Value.category]) dX7_readPart_72 (cs2 := (0, 0)) rfl ?_
          refine zb_S (S2 := ((va_up (va_up I 33 (va_up (va_up (va_up (va_up (va_up (va_up (va_up (I 33) 4 v_size_c13) 6 v_kind_c14) 7 v_at_c14) 8 v_stop_c14) 9 v_open_c13) 10 v_fault_c14) 11 v_faultAt_c14)) 35 v_code_c13), J, Rr, D)) (zS_eq ((zcgV ((zcgF ((zcgF ((zcgF ((zcgF (zn6 (by decide : (11 : Nat) ≠ 6) (by decide : (10 : Nat) ≠ 6) (by decide : (9 : Nat) ≠ 6) (by decide : (8 : Nat) ≠ 6) (by decide : (7 : Nat) ≠ 6))).trans (zn5 (by decide : (11 : Nat) ≠ 7) (by decide : (10 : Nat) ≠ 7) (by decide : (9 : Nat) ≠ 7) (by decide : (8 : Nat) ≠ 7)))).trans (zn4 (by decide : (11 : Nat) ≠ 8) (by decide : (10 : Nat) ≠ 8) (by decide : (9 : Nat) ≠ 8)))).trans (zn2 (by decide : (11 : Nat) ≠ 10)))).trans zn1)).trans (zn2 (by decide : (35 : Nat) ≠ 33))) rfl) ?_
          refine zb_if_eq E dX7_readPart_75 (tgt := 89) rfl (fun hc => ?_) (fun hc => ?_)
          · have h := if_t h hc
            refine zb_iconst E dX7_readPart_89 (v := 0) rfl ?_
            obtain ⟨rfl, rfl, rfl, rfl, rfl, rfl, rfl, rfl, rfl⟩ := zinj9 h
            exact zb_zret E hQ (ty := .boolean) rfl rfl ⟨Nat.zero_le _, Nat.zero_le _⟩ dX7_readPart_90
          · have h := if_f h hc
            refine zb_aload_n E dX7_readPart_78 1 rfl rfl ?_
            obtain ⟨rc15, v_open_c15, hc_79, h⟩ := bd2_s h
            refine zb_cVi E [] 33 zy_X7_closes zw_783 (by decide) (zF_33 _ _ _ _) rfl (c_X7_closes (va_up (va_up (va_up (va_up (va_up (va_up (va_up (I 33) 4 v_size_c13) 6 v_kind_c14) 7 v_at_c14) 8 v_stop_c14) 9 v_open_c13) 10 v_fault_c14) 11 v_faultAt_c14) rfl v_open_c13 rfl hc_79) (zrm_ok (by decide)) rfl rfl (by first | decide | simp [Value.category]) dX7_readPart_79 (cs2 := (0, 0)) rfl ?_
            refine zb_S (S2 := ((va_up (va_up I 33 (va_up (va_up (va_up (va_up (va_up (va_up (va_up (I 33) 4 v_size_c13) 6 v_kind_c14) 7 v_at_c14) 8 v_stop_c14) 9 v_open_c15) 10 v_fault_c14) 11 v_faultAt_c14)) 35 v_code_c13), J, Rr, D)) (zS_eq ((zcgV (zn3 (by decide : (11 : Nat) ≠ 9) (by decide : (10 : Nat) ≠ 9))).trans (zn2 (by decide : (35 : Nat) ≠ 33))) rfl) ?_
            refine zb_if_eq E dX7_readPart_82 (tgt := 89) rfl (fun hc => ?_) (fun hc => ?_)
            · have h := if_t h hc
              refine zb_iconst E dX7_readPart_89 (v := 0) rfl ?_
              obtain ⟨rfl, rfl, rfl, rfl, rfl, rfl, rfl, rfl, rfl⟩ := zinj9 h
              exact zb_zret E hQ (ty := .boolean) rfl rfl ⟨Nat.zero_le _, Nat.zero_le _⟩ dX7_readPart_90
            · have h := if_f h hc
              refine zb_iconst E dX7_readPart_85 (v := 1) rfl ?_
              refine zb_goto E dX7_readPart_86 (tgt := 90) rfl ?_
              obtain ⟨rfl, rfl, rfl, rfl, rfl, rfl, rfl, rfl, rfl⟩ := zinj9 h
              exact zb_zret E hQ (ty := .boolean) rfl rfl ⟨Nat.zero_le _, Nat.zero_le _⟩ dX7_readPart_90
  · have h := if_t h hc
    refine zb_aload_n E dX7_readPart_13 1 rfl rfl ?_
    refine zb_iconst E dX7_readPart_14 (v := 0) rfl ?_
    refine zb_ldc E dX7_readPart_15 (v := 99999) zw_751 ?_
    obtain ⟨rc16, v_at_c16, v_fault_c16, v_faultAt_c16, v_kind_c16, v_stop_c16, hc_17, h⟩ := bd6_s h
    refine zb_cVi E [.int 0, .int 99999] 33 zy_X7_readNumber zw_752 (by decide) (zF_33 _ _ _ _) rfl (c_X7_readNumber (va_up (va_up (va_up (va_up (va_up (va_up (va_up (I 33) 4 v_size) 6 v_kind) 7 v_at) 8 v_stop) 9 v_open) 10 v_fault) 11 v_faultAt) rfl v_length (by exact e_v_length) v_tape (by exact e_v_tape) v_at rfl v_fault rfl v_faultAt rfl v_kind rfl v_stop rfl hc_17) (zrm_ok (by decide)) rfl rfl (by first | decide | simp [Value.category]) dX7_readPart_17 (cs2 := (0, 0)) rfl ?_
    refine zb_S (S2 := ((va_up (va_up I 33 (va_up (va_up (va_up (va_up (va_up (va_up (va_up (I 33) 4 v_size) 6 v_kind_c16) 7 v_at_c16) 8 v_stop_c16) 9 v_open) 10 v_fault_c16) 11 v_faultAt_c16)) 35 v_code), J, Rr, D)) (zS_eq ((zcgV ((zcgF ((zcgF ((zcgF ((zcgF (zn6 (by decide : (11 : Nat) ≠ 6) (by decide : (10 : Nat) ≠ 6) (by decide : (9 : Nat) ≠ 6) (by decide : (8 : Nat) ≠ 6) (by decide : (7 : Nat) ≠ 6))).trans (zn5 (by decide : (11 : Nat) ≠ 7) (by decide : (10 : Nat) ≠ 7) (by decide : (9 : Nat) ≠ 7) (by decide : (8 : Nat) ≠ 7)))).trans (zn4 (by decide : (11 : Nat) ≠ 8) (by decide : (10 : Nat) ≠ 8) (by decide : (9 : Nat) ≠ 8)))).trans (zn2 (by decide : (11 : Nat) ≠ 10)))).trans zn1)).trans (zn2 (by decide : (35 : Nat) ≠ 33))) rfl) ?_
    refine zb_istore_n E dX7_readPart_20 rfl (by decide) (lv2 := [(2, .int rc16), (1, .int v_at), (0, .ref (C.X.1 + 33))]) rfl ?_
    refine zb_iload_n E dX7_readPart_21 0 rfl rfl ?_
    refine zb_iconst E dX7_readPart_22 (v := (-1)) rfl ?_
    refine zb_icmp_eq E dX7_readPart_23 (tgt := 43) rfl (fun hc => ?_) (fun hc => ?_)
    · have h := if_t h hc
      refine zb_iconst E dX7_readPart_43 (v := 0) rfl ?_
      obtain ⟨rfl, rfl, rfl, rfl, rfl, rfl, rfl, rfl, rfl⟩ := zinj9 h
      exact zb_zret E hQ (ty := .boolean) rfl rfl ⟨Nat.zero_le _, Nat.zero_le _⟩ dX7_readPart_44
    · have h := if_f h hc
      refine zb_aload_n E dX7_readPart_26 2 rfl rfl ?_
      refine zb_iload_n E dX7_readPart_27 0 rfl rfl ?_
      refine zb_aload_n E dX7_readPart_28 2 rfl rfl ?_
      obtain ⟨rc17, v_at_c17, v_kind_c17, v_stop_c17, hc_29, h⟩ := bd4_s h
      refine zb_cVi E [] 33 zy_X7_takeUnit zw_760 (by decide) (zF_33 _ _ _ _) rfl (c_X7_takeUnit (va_up (va_up (va_up (va_up (va_up (va_up (va_up (I 33) 4 v_size) 6 v_kind_c16) 7 v_at_c16) 8 v_stop_c16) 9 v_open) 10 v_fault_c16) 11 v_faultAt_c16) rfl v_length (by exact e_v_length) v_tape (by exact e_v_tape) v_at_c16 rfl v_kind_c16 rfl v_stop_c16 rfl hc_29) (zrm_ok (by decide)) rfl rfl (by first | decide | simp [Value.category]) dX7_readPart_29 (cs2 := (0, 0)) rfl ?_
      refine zb_S (S2 := ((va_up (va_up I 33 (va_up (va_up (va_up (va_up (va_up (va_up (va_up (I 33) 4 v_size) 6 v_kind_c17) 7 v_at_c17) 8 v_stop_c17) 9 v_open) 10 v_fault_c16) 11 v_faultAt_c16)) 35 v_code), J, Rr, D)) (zS_eq ((zcgV ((zcgF ((zcgF (zn6 (by decide : (11 : Nat) ≠ 6) (by decide : (10 : Nat) ≠ 6) (by decide : (9 : Nat) ≠ 6) (by decide : (8 : Nat) ≠ 6) (by decide : (7 : Nat) ≠ 6))).trans (zn5 (by decide : (11 : Nat) ≠ 7) (by decide : (10 : Nat) ≠ 7) (by decide : (9 : Nat) ≠ 7) (by decide : (8 : Nat) ≠ 7)))).trans (zn4 (by decide : (11 : Nat) ≠ 8) (by decide : (10 : Nat) ≠ 8) (by decide : (9 : Nat) ≠ 8)))).trans (zn2 (by decide : (35 : Nat) ≠ 33))) rfl) ?_
      refine zb_imul E dX7_readPart_32 ?_
      obtain ⟨rc18, v_fault_c18, v_faultAt_c18, v_size_c18, v_code_c18, hc_33, h⟩ := bd5_s h
      refine zb_cVi E [.int (rc16 * rc17)] 33 zy_X7_emit zw_767 (by decide) (zF_33 _ _ _ _) rfl (c_X7_emit (va_up (va_up (va_up (va_up (va_up (va_up (va_up (I 33) 4 v_size) 6 v_kind_c17) 7 v_at_c17) 8 v_stop_c17) 9 v_open) 10 v_fault_c16) 11 v_faultAt_c16) rfl v_at_c17 rfl v_fault_c16 rfl v_faultAt_c16 rfl v_size rfl v_code rfl hc_33) (zrm_ok (by decide)) rfl rfl (by first | decide | simp [Value.category]) dX7_readPart_33 (cs2 := (0, 0)) rfl ?_
      refine zb_S (S2 := ((va_up (va_up I 33 (va_up (va_up (va_up (va_up (va_up (va_up (va_up (I 33) 4 v_size_c18) 6 v_kind_c17) 7 v_at_c17) 8 v_stop_c17) 9 v_open) 10 v_fault_c18) 11 v_faultAt_c18)) 35 v_code_c18), J, Rr, D)) (zS_eq ((zcgF ((zcgV ((zcgF ((zcgF (zn7 (by decide : (11 : Nat) ≠ 4) (by decide : (10 : Nat) ≠ 4) (by decide : (9 : Nat) ≠ 4) (by decide : (8 : Nat) ≠ 4) (by decide : (7 : Nat) ≠ 4) (by decide : (6 : Nat) ≠ 4))).trans (zn2 (by decide : (11 : Nat) ≠ 10)))).trans zn1)).trans (zn2 (by decide : (35 : Nat) ≠ 33)))).trans zn1) rfl) ?_
      refine zb_if_eq E dX7_readPart_36 (tgt := 43) rfl (fun hc => ?_) (fun hc => ?_)
      · have h := if_t h hc
        refine zb_iconst E dX7_readPart_43 (v := 0) rfl ?_
        obtain ⟨rfl, rfl, rfl, rfl, rfl, rfl, rfl, rfl, rfl⟩ := zinj9 h
        exact zb_zret E hQ (ty := .boolean) rfl rfl ⟨Nat.zero_le _, Nat.zero_le _⟩ dX7_readPart_44
      · have h := if_f h hc
        refine zb_iconst E dX7_readPart_39 (v := 1) rfl ?_
        refine zb_goto E dX7_readPart_40 (tgt := 44) rfl ?_
        obtain ⟨rfl, rfl, rfl, rfl, rfl, rfl, rfl, rfl, rfl⟩ := zinj9 h
        exact zb_zret E hQ (ty := .boolean) rfl rfl ⟨Nat.zero_le _, Nat.zero_le _⟩ dX7_readPart_44
theorem c_X7_readPart_G (N d9 : Nat) (rec : Nat → Int32 → Int32 → Int32 → Int32 → Int32 → Int32 → Int32 → (Nat → Int32) → Option R_pReader_readPart) {l : Launch} {X : zX} {I : Nat → Nat → Int32} {J : Nat → Nat → Int64} {Rr : Nat → Nat → Option Nat} {D : zD} (oI33 : Nat → Int32) (eoI33 : I 33 = oI33) (v_length : Int32) (e_v_length : I 33 3 = v_length) (v_tape : (Nat → Int32)) (e_v_tape : I 34 = v_tape) (v_at : Int32) (e_v_at : I 33 7 = v_at) (v_fault : Int32) (e_v_fault : I 33 10 = v_fault) (v_faultAt : Int32) (e_v_faultAt : I 33 11 = v_faultAt) (v_kind : Int32) (e_v_kind : I 33 6 = v_kind) (v_open : Int32) (e_v_open : I 33 9 = v_open) (v_size : Int32) (e_v_size : I 33 4 = v_size) (v_stop : Int32) (e_v_stop : I 33 8 = v_stop) (v_code : (Nat → Int32)) (e_v_code : I 35 = v_code) {rr : Int32} {y_v_at : Int32} {y_v_fault : Int32} {y_v_faultAt : Int32} {y_v_kind : Int32} {y_v_open : Int32} {y_v_size : Int32} {y_v_stop : Int32} {y_v_code : (Nat → Int32)} (hrec : pG_readPart_readProduct_readSum_readTwo_H v_length v_tape rec (zrm 14 327 d9)) (h : pReader_readPart_G N rec v_length v_tape v_at v_fault v_faultAt v_kind v_open v_size v_stop v_code = some (rr, y_v_at, y_v_fault, y_v_faultAt, y_v_kind, y_v_open, y_v_size, y_v_stop, y_v_code)) : zMi l yX7_readPart cX7_readPart 3 (some .boolean) (zrm 14 327 (d9 + 1)) X [.ref (X.1 + 33)] (I, J, Rr, D) rr ((va_up (va_up I 33 (va_up (va_up (va_up (va_up (va_up (va_up (va_up oI33 4 y_v_size) 6 y_v_kind) 7 y_v_at) 8 y_v_stop) 9 y_v_open) 10 y_v_fault) 11 y_v_faultAt)) 35 y_v_code), J, Rr, D) := by
  subst eoI33
  refine zMi.of (by decide) (Nat.le_of_ble_eq_true rfl) (fun C E hl hX hQ => ?_)
  subst hl
  subst hX
  have eI0 : (va_up (va_up I 33 (va_up (va_up (va_up (va_up (va_up (va_up (va_up (I 33) 4 v_size) 6 v_kind) 7 v_at) 8 v_stop) 9 v_open) 10 v_fault) 11 v_faultAt)) 35 v_code) = I := by rw [zup_idE e_v_size, zup_idE e_v_kind, zup_idE e_v_at, zup_idE e_v_stop, zup_idE e_v_open, zup_idE e_v_fault, zup_idE e_v_faultAt, zup_id, zup_idE e_v_code]
  have eJ0 : J = J := rfl
  refine zb_S (S2 := ((va_up (va_up I 33 (va_up (va_up (va_up (va_up (va_up (va_up (va_up (I 33) 4 v_size) 6 v_kind) 7 v_at) 8 v_stop) 9 v_open) 10 v_fault) 11 v_faultAt)) 35 v_code), J, Rr, D)) (zS_eq eI0.symm eJ0.symm) ?_
  exact c_X7_readPart_0 N d9 rec v_length e_v_length v_tape e_v_tape hrec rr y_v_at y_v_fault y_v_faultAt y_v_kind y_v_open y_v_size y_v_stop y_v_code E hQ v_at v_fault v_faultAt v_kind v_open v_size v_stop v_code h
theorem c_X7_readProduct_b47 {C : zC} {I : Nat → Nat → Int32} {J : Nat → Nat → Int64} {Rr : Nat → Nat → Option Nat} {D : zD} (N : Nat) (d9 : Nat) (rec : Nat → Int32 → Int32 → Int32 → Int32 → Int32 → Int32 → Int32 → (Nat → Int32) → Option R_pReader_readProduct) (v_length : Int32) (e_v_length : I 33 3 = v_length) (v_tape : (Nat → Int32)) (e_v_tape : I 34 = v_tape) (hrec : pG_readPart_readProduct_readSum_readTwo_H v_length v_tape rec (zrm 14 327 d9)) (rr : Int32) (y_v_at : Int32) (y_v_fault : Int32) (y_v_faultAt : Int32) (y_v_kind : Int32) (y_v_open : Int32) (y_v_size : Int32) (y_v_stop : Int32) (y_v_code : (Nat → Int32)) (E : zE C RX7 cX7_readProduct 4 (some .boolean) (zrm 14 327 (d9 + 1))) (hQ : C.Q = zQi C (zrm 14 327 (d9 + 1)) rr ((va_up (va_up I 33 (va_up (va_up (va_up (va_up (va_up (va_up (va_up (I 33) 4 y_v_size) 6 y_v_kind) 7 y_v_at) 8 y_v_stop) 9 y_v_open) 10 y_v_fault) 11 y_v_faultAt)) 35 y_v_code), J, Rr, D)) (x2 : Int32) (s0 : Int32) (v_at : Int32) (v_fault : Int32) (v_faultAt : Int32) (v_kind : Int32) (v_open : Int32) (v_size : Int32) (v_stop : Int32) (v_code : (Nat → Int32)) (self : Int32 → Int32 → Int32 → Int32 → Int32 → Int32 → Int32 → Int32 → Int32 → (Nat → Int32) → Option R_pReader_readProduct) (ih : ∀ (x1 : Int32) (x2 : Int32) (v_at : Int32) (v_fault : Int32) (v_faultAt : Int32) (v_kind : Int32) (v_open : Int32) (v_size : Int32) (v_stop : Int32) (v_code : (Nat → Int32)), self x1 x2 v_at v_fault v_faultAt v_kind v_open v_size v_stop v_code = some (rr, y_v_at, y_v_fault, y_v_faultAt, y_v_kind, y_v_open, y_v_size, y_v_stop, y_v_code) → zB C (0, 0) 7 [(0, .ref (C.X.1 + 33)), (1, .int x1), (2, .int x2)] [] ((va_up (va_up I 33 (va_up (va_up (va_up (va_up (va_up (va_up (va_up (I 33) 4 v_size) 6 v_kind) 7 v_at) 8 v_stop) 9 v_open) 10 v_fault) 11 v_faultAt)) 35 v_code), J, Rr, D)) (h : pReader_readProduct_b47 N rec v_length v_tape self x2 s0 v_at v_fault v_faultAt v_kind v_open v_size v_stop v_code = some (rr, y_v_at, y_v_fault, y_v_faultAt, y_v_kind, y_v_open, y_v_size, y_v_stop, y_v_code)) : zB C (0, 0) 47 [(0, .ref (C.X.1 + 33)), (2, .int x2)] [.int s0] ((va_up (va_up I 33 (va_up (va_up (va_up (va_up (va_up (va_up (va_up (I 33) 4 v_size) 6 v_kind) 7 v_at) 8 v_stop) 9 v_open) 10 v_fault) 11 v_faultAt)) 35 v_code), J, Rr, D) := by
  refine zb_istore_n E dX7_readProduct_47 rfl (by decide) (lv2 := [(3, .int s0), (0, .ref (C.X.1 + 33)), (2, .int x2)]) rfl ?_
  refine zb_iload_n E dX7_readProduct_48 0 rfl rfl ?_
  refine zb_if_ne E dX7_readProduct_49 (tgt := 54) rfl (fun hc => ?_) (fun hc => ?_)
  · have h := if_f h hc
    refine zb_aload_n E dX7_readProduct_54 1 rfl rfl ?_
    obtain ⟨rc4, v_at_c4, v_fault_c4, v_faultAt_c4, v_kind_c4, v_open_c4, v_size_c4, v_stop_c4, v_code_c4, hc_55, h⟩ := bd9_s h
    refine zb_cVi E [] 33 zy_X7_readPart zw_747 (by decide) (zF_33 _ _ _ _) rfl (hrec.1 (va_up (va_up (va_up (va_up (va_up (va_up (va_up (I 33) 4 v_size) 6 v_kind) 7 v_at) 8 v_stop) 9 v_open) 10 v_fault) 11 v_faultAt) rfl (by exact e_v_length) (by exact e_v_tape) v_at rfl v_fault rfl v_faultAt rfl v_kind rfl v_open rfl v_size rfl v_stop rfl v_code rfl hc_55) (zrm_rec (by decide)) rfl rfl (by first | decide | simp [Value.category]) dX7_readProduct_55 (cs2 := (0, 0)) rfl ?_
    refine zb_S (S2 := ((va_up (va_up I 33 (va_up (va_up (va_up (va_up (va_up (va_up (va_up (I 33) 4 v_size_c4) 6 v_kind_c4) 7 v_at_c4) 8 v_stop_c4) 9 v_open_c4) 10 v_fault_c4) 11 v_faultAt_c4)) 35 v_code_c4), J, Rr, D)) (zS_eq ((zcgF ((zcgV ((zcgF ((zcgF ((zcgF ((zcgF ((zcgF ((zcgF (zn7 (by decide : (11 : Nat) ≠ 4) (by decide : (10 : Nat) ≠ 4) (by decide : (9 : Nat) ≠ 4) (by decide : (8 : Nat) ≠ 4) (by decide : (7 : Nat) ≠ 4) (by decide : (6 : Nat) ≠ 4))).trans (zn6 (by decide : (11 : Nat) ≠ 6) (by decide : (10 : Nat) ≠ 6) (by decide : (9 : Nat) ≠ 6) (by decide : (8 : Nat) ≠ 6) (by decide : (7 : Nat) ≠ 6)))).trans (zn5 (by decide : (11 : Nat) ≠ 7) (by decide : (10 : Nat) ≠ 7) (by decide : (9 : Nat) ≠ 7) (by decide : (8 : Nat) ≠ 7)))).trans (zn4 (by decide : (11 : Nat) ≠ 8) (by decide : (10 : Nat) ≠ 8) (by decide : (9 : Nat) ≠ 8)))).trans (zn3 (by decide : (11 : Nat) ≠ 9) (by decide : (10 : Nat) ≠ 9)))).trans (zn2 (by decide : (11 : Nat) ≠ 10)))).trans zn1)).trans (zn2 (by decide : (35 : Nat) ≠ 33)))).trans zn1) rfl) ?_
    refine zb_if_eq E dX7_readProduct_58 (tgt := 73) rfl (fun hc => ?_) (fun hc => ?_)
    · have h := if_t h hc
      refine zb_iconst E dX7_readProduct_73 (v := 0) rfl ?_
      refine zb_istore_n E dX7_readProduct_74 rfl (by decide) (lv2 := [(1, .int 0), (3, .int s0), (0, .ref (C.X.1 + 33)), (2, .int x2)]) rfl ?_
      refine zb_iinc E dX7_readProduct_75 3 rfl (v := (x2 + 1)) rfl (by decide) (lv2 := [(2, .int (x2 + 1)), (1, .int 0), (3, .int s0), (0, .ref (C.X.1 + 33))]) rfl ?_
      refine zb_goto E dX7_readProduct_78 (tgt := 7) rfl ?_
      refine zb_sub [3, 1, 0] rfl ?_
      exact ih 0 (x2 + 1) v_at_c4 v_fault_c4 v_faultAt_c4 v_kind_c4 v_open_c4 v_size_c4 v_stop_c4 v_code_c4 h
    · have h := if_f h hc
      refine zb_aload_n E dX7_readProduct_61 1 rfl rfl ?_
      refine zb_iload_n E dX7_readProduct_62 0 rfl rfl ?_
      obtain ⟨rc5, v_fault_c5, v_faultAt_c5, v_size_c5, v_code_c5, hc_63, h⟩ := bd5_s h
      refine zb_cVi E [.int s0] 33 zy_X7_emit zw_767 (by decide) (zF_33 _ _ _ _) rfl (c_X7_emit (va_up (va_up (va_up (va_up (va_up (va_up (va_up (I 33) 4 v_size_c4) 6 v_kind_c4) 7 v_at_c4) 8 v_stop_c4) 9 v_open_c4) 10 v_fault_c4) 11 v_faultAt_c4) rfl v_at_c4 rfl v_fault_c4 rfl v_faultAt_c4 rfl v_size_c4 rfl v_code_c4 rfl hc_63) (zrm_ok (by decide)) rfl rfl (by first | decide | simp [Value.category]) dX7_readProduct_63 (cs2 := (0, 0)) rfl ?_
      refine zb_S (S2 := ((va_up (va_up I 33 (va_up (va_up (va_up (va_up (va_up (va_up (va_up (I 33) 4 v_size_c5) 6 v_kind_c4) 7 v_at_c4) 8 v_stop_c4) 9 v_open_c4) 10 v_fault_c5) 11 v_faultAt_c5)) 35 v_code_c5), J, Rr, D)) (zS_eq ((zcgF ((zcgV ((zcgF ((zcgF (zn7 (by decide : (11 : Nat) ≠ 4) (by decide : (10 : Nat) ≠ 4) (by decide : (9 : Nat) ≠ 4) (by decide : (8 : Nat) ≠ 4) (by decide : (7 : Nat) ≠ 4) (by decide : (6 : Nat) ≠ 4))).trans (zn2 (by decide : (11 : Nat) ≠ 10)))).trans zn1)).trans (zn2 (by decide : (35 : Nat) ≠ 33)))).trans zn1) rfl) ?_
      refine zb_if_eq E dX7_readProduct_66 (tgt := 73) rfl (fun hc => ?_) (fun hc => ?_)
      · have h := if_t h hc
        refine zb_iconst E dX7_readProduct_73 (v := 0) rfl ?_
        refine zb_istore_n E dX7_readProduct_74 rfl (by decide) (lv2 := [(1, .int 0), (3, .int s0), (0, .ref (C.X.1 + 33)), (2, .int x2)]) rfl ?_
        refine zb_iinc E dX7_readProduct_75 3 rfl (v := (x2 + 1)) rfl (by decide) (lv2 := [(2, .int (x2 + 1)), (1, .int 0), (3, .int s0), (0, .ref (C.X.1 + 33))]) rfl ?_
        refine zb_goto E dX7_readProduct_78 (tgt := 7) rfl ?_
        refine zb_sub [3, 1, 0] rfl ?_
        exact ih 0 (x2 + 1) v_at_c4 v_fault_c5 v_faultAt_c5 v_kind_c4 v_open_c4 v_size_c5 v_stop_c4 v_code_c5 h
      · have h := if_f h hc
        refine zb_iconst E dX7_readProduct_69 (v := 1) rfl ?_
        refine zb_goto E dX7_readProduct_70 (tgt := 74) rfl ?_
        refine zb_istore_n E dX7_readProduct_74 rfl (by decide) (lv2 := [(1, .int 1), (3, .int s0), (0, .ref (C.X.1 + 33)), (2, .int x2)]) rfl ?_
        refine zb_iinc E dX7_readProduct_75 3 rfl (v := (x2 + 1)) rfl (by decide) (lv2 := [(2, .int (x2 + 1)), (1, .int 1), (3, .int s0), (0, .ref (C.X.1 + 33))]) rfl ?_
        refine zb_goto E dX7_readProduct_78 (tgt := 7) rfl ?_
        refine zb_sub [3, 1, 0] rfl ?_
        exact ih 1 (x2 + 1) v_at_c4 v_fault_c5 v_faultAt_c5 v_kind_c4 v_open_c4 v_size_c5 v_stop_c4 v_code_c5 h
  · have h := if_t h hc
    refine zb_iconst E dX7_readProduct_52 (v := 1) rfl ?_
    obtain ⟨rfl, rfl, rfl, rfl, rfl, rfl, rfl, rfl, rfl⟩ := zinj9 h
    exact zb_zret E hQ (ty := .boolean) rfl rfl ⟨Nat.zero_le _, Nat.zero_le _⟩ dX7_readProduct_53
theorem c_X7_readProduct_b7 {C : zC} {I : Nat → Nat → Int32} {J : Nat → Nat → Int64} {Rr : Nat → Nat → Option Nat} {D : zD} (N : Nat) (d9 : Nat) (rec : Nat → Int32 → Int32 → Int32 → Int32 → Int32 → Int32 → Int32 → (Nat → Int32) → Option R_pReader_readProduct) (v_length : Int32) (e_v_length : I 33 3 = v_length) (v_tape : (Nat → Int32)) (e_v_tape : I 34 = v_tape) (hrec : pG_readPart_readProduct_readSum_readTwo_H v_length v_tape rec (zrm 14 327 d9)) (rr : Int32) (y_v_at : Int32) (y_v_fault : Int32) (y_v_faultAt : Int32) (y_v_kind : Int32) (y_v_open : Int32) (y_v_size : Int32) (y_v_stop : Int32) (y_v_code : (Nat → Int32)) (E : zE C RX7 cX7_readProduct 4 (some .boolean) (zrm 14 327 (d9 + 1))) (hQ : C.Q = zQi C (zrm 14 327 (d9 + 1)) rr ((va_up (va_up I 33 (va_up (va_up (va_up (va_up (va_up (va_up (va_up (I 33) 4 y_v_size) 6 y_v_kind) 7 y_v_at) 8 y_v_stop) 9 y_v_open) 10 y_v_fault) 11 y_v_faultAt)) 35 y_v_code), J, Rr, D))  : ∀ (n9 : Nat) (x1 : Int32) (x2 : Int32) (v_at : Int32) (v_fault : Int32) (v_faultAt : Int32) (v_kind : Int32) (v_open : Int32) (v_size : Int32) (v_stop : Int32) (v_code : (Nat → Int32)), pReader_readProduct_b7 N rec v_length v_tape n9 x1 x2 v_at v_fault v_faultAt v_kind v_open v_size v_stop v_code = some (rr, y_v_at, y_v_fault, y_v_faultAt, y_v_kind, y_v_open, y_v_size, y_v_stop, y_v_code) → zB C (0, 0) 7 [(0, .ref (C.X.1 + 33)), (1, .int x1), (2, .int x2)] [] ((va_up (va_up I 33 (va_up (va_up (va_up (va_up (va_up (va_up (va_up (I 33) 4 v_size) 6 v_kind) 7 v_at) 8 v_stop) 9 v_open) 10 v_fault) 11 v_faultAt)) 35 v_code), J, Rr, D) := by
  refine zlp10_ind (P := fun (x1 : Int32) (x2 : Int32) (v_at : Int32) (v_fault : Int32) (v_faultAt : Int32) (v_kind : Int32) (v_open : Int32) (v_size : Int32) (v_stop : Int32) (v_code : (Nat → Int32)) => zB C (0, 0) 7 [(0, .ref (C.X.1 + 33)), (1, .int x1), (2, .int x2)] [] ((va_up (va_up I 33 (va_up (va_up (va_up (va_up (va_up (va_up (va_up (I 33) 4 v_size) 6 v_kind) 7 v_at) 8 v_stop) 9 v_open) 10 v_fault) 11 v_faultAt)) 35 v_code), J, Rr, D)) (fun self ih => ?_)
  intro x1 x2 v_at v_fault v_faultAt v_kind v_open v_size v_stop v_code h
  refine zb_iload_n E dX7_readProduct_7 2 rfl rfl ?_
  refine zb_sipush E dX7_readProduct_8 (v := 600) rfl ?_
  refine zb_icmp_ge E dX7_readProduct_11 (tgt := 81) rfl (fun hc => ?_) (fun hc => ?_)
  · have h := if_t h hc
    refine zb_iload_n E dX7_readProduct_81 1 rfl rfl ?_
    obtain ⟨gB, h⟩ := gd_s h
    obtain ⟨rfl, rfl, rfl, rfl, rfl, rfl, rfl, rfl, rfl⟩ := zinj9 h
    exact zb_zret E hQ (ty := .boolean) rfl (isB_n gB) ⟨Nat.zero_le _, Nat.zero_le _⟩ dX7_readProduct_82
  · have h := if_f h hc
    refine zb_iload_n E dX7_readProduct_14 1 rfl rfl ?_
    refine zb_if_eq E dX7_readProduct_15 (tgt := 81) rfl (fun hc => ?_) (fun hc => ?_)
    · have h := if_t h hc
      refine zb_iload_n E dX7_readProduct_81 1 rfl rfl ?_
      obtain ⟨gB, h⟩ := gd_s h
      obtain ⟨rfl, rfl, rfl, rfl, rfl, rfl, rfl, rfl, rfl⟩ := zinj9 h
      exact zb_zret E hQ (ty := .boolean) rfl (isB_n gB) ⟨Nat.zero_le _, Nat.zero_le _⟩ dX7_readProduct_82
    · have h := if_f h hc
      refine zb_aload_n E dX7_readProduct_18 0 rfl rfl ?_
      refine zb_bipush E dX7_readProduct_19 (v := 42) rfl ?_
      obtain ⟨rc2, v_at_c2, v_kind_c2, v_stop_c2, hc_21, h⟩ := bd4_s h
      refine zb_cVi E [.int 42] 33 zy_X7_takeMark zw_771 (by decide) (zF_33 _ _ _ _) rfl (c_X7_takeMark (va_up (va_up (va_up (va_up (va_up (va_up (va_up (I 33) 4 v_size) 6 v_kind) 7 v_at) 8 v_stop) 9 v_open) 10 v_fault) 11 v_faultAt) rfl v_length (by exact e_v_length) v_tape (by exact e_v_tape) v_at rfl v_kind rfl v_stop rfl hc_21) (zrm_ok (by decide)) rfl rfl (by first | decide | simp [Value.category]) dX7_readProduct_21 (cs2 := (0, 0)) rfl ?_
      refine zb_S (S2 := ((va_up (va_up I 33 (va_up (va_up (va_up (va_up (va_up (va_up (va_up (I 33) 4 v_size) 6 v_kind_c2) 7 v_at_c2) 8 v_stop_c2) 9 v_open) 10 v_fault) 11 v_faultAt)) 35 v_code), J, Rr, D)) (zS_eq ((zcgV ((zcgF ((zcgF (zn6 (by decide : (11 : Nat) ≠ 6) (by decide : (10 : Nat) ≠ 6) (by decide : (9 : Nat) ≠ 6) (by decide : (8 : Nat) ≠ 6) (by decide : (7 : Nat) ≠ 6))).trans (zn5 (by decide : (11 : Nat) ≠ 7) (by decide : (10 : Nat) ≠ 7) (by decide : (9 : Nat) ≠ 7) (by decide : (8 : Nat) ≠ 7)))).trans (zn4 (by decide : (11 : Nat) ≠ 8) (by decide : (10 : Nat) ≠ 8) (by decide : (9 : Nat) ≠ 8)))).trans (zn2 (by decide : (35 : Nat) ≠ 33))) rfl) ?_
      refine zb_if_eq E dX7_readProduct_24 (tgt := 32) rfl (fun hc => ?_) (fun hc => ?_)
      · have h := if_t h hc
        refine zb_aload_n E dX7_readProduct_32 0 rfl rfl ?_
        refine zb_bipush E dX7_readProduct_33 (v := 47) rfl ?_
        obtain ⟨rc3, v_at_c3, v_kind_c3, v_stop_c3, hc_35, h⟩ := bd4_s h
        refine zb_cVi E [.int 47] 33 zy_X7_takeMark zw_771 (by decide) (zF_33 _ _ _ _) rfl (c_X7_takeMark (va_up (va_up (va_up (va_up (va_up (va_up (va_up (I 33) 4 v_size) 6 v_kind_c2) 7 v_at_c2) 8 v_stop_c2) 9 v_open) 10 v_fault) 11 v_faultAt) rfl v_length (by exact e_v_length) v_tape (by exact e_v_tape) v_at_c2 rfl v_kind_c2 rfl v_stop_c2 rfl hc_35) (zrm_ok (by decide)) rfl rfl (by first | decide | simp [Value.category]) dX7_readProduct_35 (cs2 := (0, 0)) rfl ?_
        refine zb_S (S2 := ((va_up (va_up I 33 (va_up (va_up (va_up (va_up (va_up (va_up (va_up (I 33) 4 v_size) 6 v_kind_c3) 7 v_at_c3) 8 v_stop_c3) 9 v_open) 10 v_fault) 11 v_faultAt)) 35 v_code), J, Rr, D)) (zS_eq ((zcgV ((zcgF ((zcgF (zn6 (by decide : (11 : Nat) ≠ 6) (by decide : (10 : Nat) ≠ 6) (by decide : (9 : Nat) ≠ 6) (by decide : (8 : Nat) ≠ 6) (by decide : (7 : Nat) ≠ 6))).trans (zn5 (by decide : (11 : Nat) ≠ 7) (by decide : (10 : Nat) ≠ 7) (by decide : (9 : Nat) ≠ 7) (by decide : (8 : Nat) ≠ 7)))).trans (zn4 (by decide : (11 : Nat) ≠ 8) (by decide : (10 : Nat) ≠ 8) (by decide : (9 : Nat) ≠ 8)))).trans (zn2 (by decide : (35 : Nat) ≠ 33))) rfl) ?_
        refine zb_if_eq E dX7_readProduct_38 (tgt := 46) rfl (fun hc => ?_) (fun hc => ?_)
        · have h := if_t h hc
          refine zb_iconst E dX7_readProduct_46 (v := 0) rfl ?_
          refine zb_sub [0, 2] rfl ?_
          exact c_X7_readProduct_b47 N d9 rec v_length e_v_length v_tape e_v_tape hrec rr y_v_at y_v_fault y_v_faultAt y_v_kind y_v_open y_v_size y_v_stop y_v_code E hQ x2 0 v_at_c3 v_fault v_faultAt v_kind_c3 v_open v_size v_stop_c3 v_code self ih h
        · have h := if_f h hc
          refine zb_bipush E dX7_readProduct_41 (v := (-10)) rfl ?_
          refine zb_goto E dX7_readProduct_43 (tgt := 47) rfl ?_
          refine zb_sub [0, 2] rfl ?_
          exact c_X7_readProduct_b47 N d9 rec v_length e_v_length v_tape e_v_tape hrec rr y_v_at y_v_fault y_v_faultAt y_v_kind y_v_open y_v_size y_v_stop y_v_code E hQ x2 (-10) v_at_c3 v_fault v_faultAt v_kind_c3 v_open v_size v_stop_c3 v_code self ih h
      · have h := if_f h hc
        refine zb_bipush E dX7_readProduct_27 (v := (-9)) rfl ?_
        refine zb_goto E dX7_readProduct_29 (tgt := 47) rfl ?_
        refine zb_sub [0, 2] rfl ?_
        exact c_X7_readProduct_b47 N d9 rec v_length e_v_length v_tape e_v_tape hrec rr y_v_at y_v_fault y_v_faultAt y_v_kind y_v_open y_v_size y_v_stop y_v_code E hQ x2 (-9) v_at_c2 v_fault v_faultAt v_kind_c2 v_open v_size v_stop_c2 v_code self ih h
theorem c_X7_readProduct_0 {C : zC} {I : Nat → Nat → Int32} {J : Nat → Nat → Int64} {Rr : Nat → Nat → Option Nat} {D : zD} (N : Nat) (d9 : Nat) (rec : Nat → Int32 → Int32 → Int32 → Int32 → Int32 → Int32 → Int32 → (Nat → Int32) → Option R_pReader_readProduct) (v_length : Int32) (e_v_length : I 33 3 = v_length) (v_tape : (Nat → Int32)) (e_v_tape : I 34 = v_tape) (hrec : pG_readPart_readProduct_readSum_readTwo_H v_length v_tape rec (zrm 14 327 d9)) (rr : Int32) (y_v_at : Int32) (y_v_fault : Int32) (y_v_faultAt : Int32) (y_v_kind : Int32) (y_v_open : Int32) (y_v_size : Int32) (y_v_stop : Int32) (y_v_code : (Nat → Int32)) (E : zE C RX7 cX7_readProduct 4 (some .boolean) (zrm 14 327 (d9 + 1))) (hQ : C.Q = zQi C (zrm 14 327 (d9 + 1)) rr ((va_up (va_up I 33 (va_up (va_up (va_up (va_up (va_up (va_up (va_up (I 33) 4 y_v_size) 6 y_v_kind) 7 y_v_at) 8 y_v_stop) 9 y_v_open) 10 y_v_fault) 11 y_v_faultAt)) 35 y_v_code), J, Rr, D)) (v_at : Int32) (v_fault : Int32) (v_faultAt : Int32) (v_kind : Int32) (v_open : Int32) (v_size : Int32) (v_stop : Int32) (v_code : (Nat → Int32)) (h : pReader_readProduct_G N rec v_length v_tape v_at v_fault v_faultAt v_kind v_open v_size v_stop v_code = some (rr, y_v_at, y_v_fault, y_v_faultAt, y_v_kind, y_v_open, y_v_size, y_v_stop, y_v_code)) : zB C (0, 0) 0 [(0, .ref (C.X.1 + 33))] [] ((va_up (va_up I 33 (va_up (va_up (va_up (va_up (va_up (va_up (va_up (I 33) 4 v_size) 6 v_kind) 7 v_at) 8 v_stop) 9 v_open) 10 v_fault) 11 v_faultAt)) 35 v_code), J, Rr, D) := by
  refine zb_aload_n E dX7_readProduct_0 0 rfl rfl ?_
  obtain ⟨rc1, v_at_c1, v_fault_c1, v_faultAt_c1, v_kind_c1, v_open_c1, v_size_c1, v_stop_c1, v_code_c1, hc_1, h⟩ := bd9_s h
  refine zb_cVi E [] 33 zy_X7_readPart zw_747 (by decide) (zF_33 _ _ _ _) rfl (hrec.1 (va_up (va_up (va_up (va_up (va_up (va_up (va_up (I 33) 4 v_size) 6 v_kind) 7 v_at) 8 v_stop) 9 v_open) 10 v_fault) 11 v_faultAt) rfl (by exact e_v_length) (by exact e_v_tape) v_at rfl v_fault rfl v_faultAt rfl v_kind rfl v_open rfl v_size rfl v_stop rfl v_code rfl hc_1) (zrm_rec (by decide)) rfl rfl (by first | decide | simp [Value.category]) dX7_readProduct_1 (cs2 := (0, 0)) rfl ?_
  refine zb_S (S2 := ((va_up (va_up I 33 (va_up (va_up (va_up (va_up (va_up (va_up (va_up (I 33) 4 v_size_c1) 6 v_kind_c1) 7 v_at_c1) 8 v_stop_c1) 9 v_open_c1) 10 v_fault_c1) 11 v_faultAt_c1)) 35 v_code_c1), J, Rr, D)) (zS_eq ((zcgF ((zcgV ((zcgF ((zcgF ((zcgF ((zcgF ((zcgF ((zcgF (zn7 (by decide : (11 : Nat) ≠ 4) (by decide : (10 : Nat) ≠ 4) (by decide : (9 : Nat) ≠ 4) (by decide : (8 : Nat) ≠ 4) (by decide : (7 : Nat) ≠ 4) (by decide : (6 : Nat) ≠ 4))).trans (zn6 (by decide : (11 : Nat) ≠ 6) (by decide : (10 : Nat) ≠ 6) (by decide : (9 : Nat) ≠ 6) (by decide : (8 : Nat) ≠ 6) (by decide : (7 : Nat) ≠ 6)))).trans (zn5 (by decide : (11 : Nat) ≠ 7) (by decide : (10 : Nat) ≠ 7) (by decide : (9 : Nat) ≠ 7) (by decide : (8 : Nat) ≠ 7)))).trans (zn4 (by decide : (11 : Nat) ≠ 8) (by decide : (10 : Nat) ≠ 8) (by decide : (9 : Nat) ≠ 8)))).trans (zn3 (by decide : (11 : Nat) ≠ 9) (by decide : (10 : Nat) ≠ 9)))).trans (zn2 (by decide : (11 : Nat) ≠ 10)))).trans zn1)).trans (zn2 (by decide : (35 : Nat) ≠ 33)))).trans zn1) rfl) ?_
  refine zb_istore_n E dX7_readProduct_4 rfl (by decide) (lv2 := [(1, .int rc1), (0, .ref (C.X.1 + 33))]) rfl ?_
  refine zb_iconst E dX7_readProduct_5 (v := 0) rfl ?_
  refine zb_istore_n E dX7_readProduct_6 rfl (by decide) (lv2 := [(2, .int 0), (1, .int rc1), (0, .ref (C.X.1 + 33))]) rfl ?_
  refine zb_sub [2, 1, 0] rfl ?_
  exact c_X7_readProduct_b7 N d9 rec v_length e_v_length v_tape e_v_tape hrec rr y_v_at y_v_fault y_v_faultAt y_v_kind y_v_open y_v_size y_v_stop y_v_code E hQ _ rc1 0 v_at_c1 v_fault_c1 v_faultAt_c1 v_kind_c1 v_open_c1 v_size_c1 v_stop_c1 v_code_c1 h
theorem c_X7_readProduct_G (N d9 : Nat) (rec : Nat → Int32 → Int32 → Int32 → Int32 → Int32 → Int32 → Int32 → (Nat → Int32) → Option R_pReader_readProduct) {l : Launch} {X : zX} {I : Nat → Nat → Int32} {J : Nat → Nat → Int64} {Rr : Nat → Nat → Option Nat} {D : zD} (oI33 : Nat → Int32) (eoI33 : I 33 = oI33) (v_length : Int32) (e_v_length : I 33 3 = v_length) (v_tape : (Nat → Int32)) (e_v_tape : I 34 = v_tape) (v_at : Int32) (e_v_at : I 33 7 = v_at) (v_fault : Int32) (e_v_fault : I 33 10 = v_fault) (v_faultAt : Int32) (e_v_faultAt : I 33 11 = v_faultAt) (v_kind : Int32) (e_v_kind : I 33 6 = v_kind) (v_open : Int32) (e_v_open : I 33 9 = v_open) (v_size : Int32) (e_v_size : I 33 4 = v_size) (v_stop : Int32) (e_v_stop : I 33 8 = v_stop) (v_code : (Nat → Int32)) (e_v_code : I 35 = v_code) {rr : Int32} {y_v_at : Int32} {y_v_fault : Int32} {y_v_faultAt : Int32} {y_v_kind : Int32} {y_v_open : Int32} {y_v_size : Int32} {y_v_stop : Int32} {y_v_code : (Nat → Int32)} (hrec : pG_readPart_readProduct_readSum_readTwo_H v_length v_tape rec (zrm 14 327 d9)) (h : pReader_readProduct_G N rec v_length v_tape v_at v_fault v_faultAt v_kind v_open v_size v_stop v_code = some (rr, y_v_at, y_v_fault, y_v_faultAt, y_v_kind, y_v_open, y_v_size, y_v_stop, y_v_code)) : zMi l yX7_readProduct cX7_readProduct 4 (some .boolean) (zrm 14 327 (d9 + 1)) X [.ref (X.1 + 33)] (I, J, Rr, D) rr ((va_up (va_up I 33 (va_up (va_up (va_up (va_up (va_up (va_up (va_up oI33 4 y_v_size) 6 y_v_kind) 7 y_v_at) 8 y_v_stop) 9 y_v_open) 10 y_v_fault) 11 y_v_faultAt)) 35 y_v_code), J, Rr, D) := by
  subst eoI33
  refine zMi.of (by decide) (Nat.le_of_ble_eq_true rfl) (fun C E hl hX hQ => ?_)
  subst hl
  subst hX
  have eI0 : (va_up (va_up I 33 (va_up (va_up (va_up (va_up (va_up (va_up (va_up (I 33) 4 v_size) 6 v_kind) 7 v_at) 8 v_stop) 9 v_open) 10 v_fault) 11 v_faultAt)) 35 v_code) = I := by rw [zup_idE e_v_size, zup_idE e_v_kind, zup_idE e_v_at, zup_idE e_v_stop, zup_idE e_v_open, zup_idE e_v_fault, zup_idE e_v_faultAt, zup_id, zup_idE e_v_code]
  have eJ0 : J = J := rfl
  refine zb_S (S2 := ((va_up (va_up I 33 (va_up (va_up (va_up (va_up (va_up (va_up (va_up (I 33) 4 v_size) 6 v_kind) 7 v_at) 8 v_stop) 9 v_open) 10 v_fault) 11 v_faultAt)) 35 v_code), J, Rr, D)) (zS_eq eI0.symm eJ0.symm) ?_
  exact c_X7_readProduct_0 N d9 rec v_length e_v_length v_tape e_v_tape hrec rr y_v_at y_v_fault y_v_faultAt y_v_kind y_v_open y_v_size y_v_stop y_v_code E hQ v_at v_fault v_faultAt v_kind v_open v_size v_stop v_code h
theorem c_X7_readSum_b47 {C : zC} {I : Nat → Nat → Int32} {J : Nat → Nat → Int64} {Rr : Nat → Nat → Option Nat} {D : zD} (N : Nat) (d9 : Nat) (rec : Nat → Int32 → Int32 → Int32 → Int32 → Int32 → Int32 → Int32 → (Nat → Int32) → Option R_pReader_readSum) (v_length : Int32) (e_v_length : I 33 3 = v_length) (v_tape : (Nat → Int32)) (e_v_tape : I 34 = v_tape) (hrec : pG_readPart_readProduct_readSum_readTwo_H v_length v_tape rec (zrm 14 327 d9)) (rr : Int32) (y_v_at : Int32) (y_v_fault : Int32) (y_v_faultAt : Int32) (y_v_kind : Int32) (y_v_open : Int32) (y_v_size : Int32) (y_v_stop : Int32) (y_v_code : (Nat → Int32)) (E : zE C RX7 cX7_readSum 4 (some .boolean) (zrm 14 327 (d9 + 1))) (hQ : C.Q = zQi C (zrm 14 327 (d9 + 1)) rr ((va_up (va_up I 33 (va_up (va_up (va_up (va_up (va_up (va_up (va_up (I 33) 4 y_v_size) 6 y_v_kind) 7 y_v_at) 8 y_v_stop) 9 y_v_open) 10 y_v_fault) 11 y_v_faultAt)) 35 y_v_code), J, Rr, D)) (x2 : Int32) (s0 : Int32) (v_at : Int32) (v_fault : Int32) (v_faultAt : Int32) (v_kind : Int32) (v_open : Int32) (v_size : Int32) (v_stop : Int32) (v_code : (Nat → Int32)) (self : Int32 → Int32 → Int32 → Int32 → Int32 → Int32 → Int32 → Int32 → Int32 → (Nat → Int32) → Option R_pReader_readSum) (ih : ∀ (x1 : Int32) (x2 : Int32) (v_at : Int32) (v_fault : Int32) (v_faultAt : Int32) (v_kind : Int32) (v_open : Int32) (v_size : Int32) (v_stop : Int32) (v_code : (Nat → Int32)), self x1 x2 v_at v_fault v_faultAt v_kind v_open v_size v_stop v_code = some (rr, y_v_at, y_v_fault, y_v_faultAt, y_v_kind, y_v_open, y_v_size, y_v_stop, y_v_code) → zB C (0, 0) 7 [(0, .ref (C.X.1 + 33)), (1, .int x1), (2, .int x2)] [] ((va_up (va_up I 33 (va_up (va_up (va_up (va_up (va_up (va_up (va_up (I 33) 4 v_size) 6 v_kind) 7 v_at) 8 v_stop) 9 v_open) 10 v_fault) 11 v_faultAt)) 35 v_code), J, Rr, D)) (h : pReader_readSum_b47 N rec v_length v_tape self x2 s0 v_at v_fault v_faultAt v_kind v_open v_size v_stop v_code = some (rr, y_v_at, y_v_fault, y_v_faultAt, y_v_kind, y_v_open, y_v_size, y_v_stop, y_v_code)) : zB C (0, 0) 47 [(0, .ref (C.X.1 + 33)), (2, .int x2)] [.int s0] ((va_up (va_up I 33 (va_up (va_up (va_up (va_up (va_up (va_up (va_up (I 33) 4 v_size) 6 v_kind) 7 v_at) 8 v_stop) 9 v_open) 10 v_fault) 11 v_faultAt)) 35 v_code), J, Rr, D) := by
  refine zb_istore_n E dX7_readSum_47 rfl (by decide) (lv2 := [(3, .int s0), (0, .ref (C.X.1 + 33)), (2, .int x2)]) rfl ?_
  refine zb_iload_n E dX7_readSum_48 0 rfl rfl ?_
  refine zb_if_ne E dX7_readSum_49 (tgt := 54) rfl (fun hc => ?_) (fun hc => ?_)
  · have h := if_f h hc
    refine zb_aload_n E dX7_readSum_54 1 rfl rfl ?_
    obtain ⟨rc4, v_at_c4, v_fault_c4, v_faultAt_c4, v_kind_c4, v_open_c4, v_size_c4, v_stop_c4, v_code_c4, hc_55, h⟩ := bd9_s h
    refine zb_cVi E [] 33 zy_X7_readProduct zw_743 (by decide) (zF_33 _ _ _ _) rfl (hrec.2.1 (va_up (va_up (va_up (va_up (va_up (va_up (va_up (I 33) 4 v_size) 6 v_kind) 7 v_at) 8 v_stop) 9 v_open) 10 v_fault) 11 v_faultAt) rfl (by exact e_v_length) (by exact e_v_tape) v_at rfl v_fault rfl v_faultAt rfl v_kind rfl v_open rfl v_size rfl v_stop rfl v_code rfl hc_55) (zrm_rec (by decide)) rfl rfl (by first | decide | simp [Value.category]) dX7_readSum_55 (cs2 := (0, 0)) rfl ?_
    refine zb_S (S2 := ((va_up (va_up I 33 (va_up (va_up (va_up (va_up (va_up (va_up (va_up (I 33) 4 v_size_c4) 6 v_kind_c4) 7 v_at_c4) 8 v_stop_c4) 9 v_open_c4) 10 v_fault_c4) 11 v_faultAt_c4)) 35 v_code_c4), J, Rr, D)) (zS_eq ((zcgF ((zcgV ((zcgF ((zcgF ((zcgF ((zcgF ((zcgF ((zcgF (zn7 (by decide : (11 : Nat) ≠ 4) (by decide : (10 : Nat) ≠ 4) (by decide : (9 : Nat) ≠ 4) (by decide : (8 : Nat) ≠ 4) (by decide : (7 : Nat) ≠ 4) (by decide : (6 : Nat) ≠ 4))).trans (zn6 (by decide : (11 : Nat) ≠ 6) (by decide : (10 : Nat) ≠ 6) (by decide : (9 : Nat) ≠ 6) (by decide : (8 : Nat) ≠ 6) (by decide : (7 : Nat) ≠ 6)))).trans (zn5 (by decide : (11 : Nat) ≠ 7) (by decide : (10 : Nat) ≠ 7) (by decide : (9 : Nat) ≠ 7) (by decide : (8 : Nat) ≠ 7)))).trans (zn4 (by decide : (11 : Nat) ≠ 8) (by decide : (10 : Nat) ≠ 8) (by decide : (9 : Nat) ≠ 8)))).trans (zn3 (by decide : (11 : Nat) ≠ 9) (by decide : (10 : Nat) ≠ 9)))).trans (zn2 (by decide : (11 : Nat) ≠ 10)))).trans zn1)).trans (zn2 (by decide : (35 : Nat) ≠ 33)))).trans zn1) rfl) ?_
    refine zb_if_eq E dX7_readSum_58 (tgt := 73) rfl (fun hc => ?_) (fun hc => ?_)
    · have h := if_t h hc
      refine zb_iconst E dX7_readSum_73 (v := 0) rfl ?_
      refine zb_istore_n E dX7_readSum_74 rfl (by decide) (lv2 := [(1, .int 0), (3, .int s0), (0, .ref (C.X.1 + 33)), (2, .int x2)]) rfl ?_
      refine zb_iinc E dX7_readSum_75 3 rfl (v := (x2 + 1)) rfl (by decide) (lv2 := [(2, .int (x2 + 1)), (1, .int 0), (3, .int s0), (0, .ref (C.X.1 + 33))]) rfl ?_
      refine zb_goto E dX7_readSum_78 (tgt := 7) rfl ?_
      refine zb_sub [3, 1, 0] rfl ?_
      exact ih 0 (x2 + 1) v_at_c4 v_fault_c4 v_faultAt_c4 v_kind_c4 v_open_c4 v_size_c4 v_stop_c4 v_code_c4 h
    · have h := if_f h hc
      refine zb_aload_n E dX7_readSum_61 1 rfl rfl ?_
      refine zb_iload_n E dX7_readSum_62 0 rfl rfl ?_
      obtain ⟨rc5, v_fault_c5, v_faultAt_c5, v_size_c5, v_code_c5, hc_63, h⟩ := bd5_s h
      refine zb_cVi E [.int s0] 33 zy_X7_emit zw_767 (by decide) (zF_33 _ _ _ _) rfl (c_X7_emit (va_up (va_up (va_up (va_up (va_up (va_up (va_up (I 33) 4 v_size_c4) 6 v_kind_c4) 7 v_at_c4) 8 v_stop_c4) 9 v_open_c4) 10 v_fault_c4) 11 v_faultAt_c4) rfl v_at_c4 rfl v_fault_c4 rfl v_faultAt_c4 rfl v_size_c4 rfl v_code_c4 rfl hc_63) (zrm_ok (by decide)) rfl rfl (by first | decide | simp [Value.category]) dX7_readSum_63 (cs2 := (0, 0)) rfl ?_
      refine zb_S (S2 := ((va_up (va_up I 33 (va_up (va_up (va_up (va_up (va_up (va_up (va_up (I 33) 4 v_size_c5) 6 v_kind_c4) 7 v_at_c4) 8 v_stop_c4) 9 v_open_c4) 10 v_fault_c5) 11 v_faultAt_c5)) 35 v_code_c5), J, Rr, D)) (zS_eq ((zcgF ((zcgV ((zcgF ((zcgF (zn7 (by decide : (11 : Nat) ≠ 4) (by decide : (10 : Nat) ≠ 4) (by decide : (9 : Nat) ≠ 4) (by decide : (8 : Nat) ≠ 4) (by decide : (7 : Nat) ≠ 4) (by decide : (6 : Nat) ≠ 4))).trans (zn2 (by decide : (11 : Nat) ≠ 10)))).trans zn1)).trans (zn2 (by decide : (35 : Nat) ≠ 33)))).trans zn1) rfl) ?_
      refine zb_if_eq E dX7_readSum_66 (tgt := 73) rfl (fun hc => ?_) (fun hc => ?_)
      · have h := if_t h hc
        refine zb_iconst E dX7_readSum_73 (v := 0) rfl ?_
        refine zb_istore_n E dX7_readSum_74 rfl (by decide) (lv2 := [(1, .int 0), (3, .int s0), (0, .ref (C.X.1 + 33)), (2, .int x2)]) rfl ?_
        refine zb_iinc E dX7_readSum_75 3 rfl (v := (x2 + 1)) rfl (by decide) (lv2 := [(2, .int (x2 + 1)), (1, .int 0), (3, .int s0), (0, .ref (C.X.1 + 33))]) rfl ?_
        refine zb_goto E dX7_readSum_78 (tgt := 7) rfl ?_
        refine zb_sub [3, 1, 0] rfl ?_
        exact ih 0 (x2 + 1) v_at_c4 v_fault_c5 v_faultAt_c5 v_kind_c4 v_open_c4 v_size_c5 v_stop_c4 v_code_c5 h
      · have h := if_f h hc
        refine zb_iconst E dX7_readSum_69 (v := 1) rfl ?_
        refine zb_goto E dX7_readSum_70 (tgt := 74) rfl ?_
        refine zb_istore_n E dX7_readSum_74 rfl (by decide) (lv2 := [(1, .int 1), (3, .int s0), (0, .ref (C.X.1 + 33)), (2, .int x2)]) rfl ?_
        refine zb_iinc E dX7_readSum_75 3 rfl (v := (x2 + 1)) rfl (by decide) (lv2 := [(2, .int (x2 + 1)), (1, .int 1), (3, .int s0), (0, .ref (C.X.1 + 33))]) rfl ?_
        refine zb_goto E dX7_readSum_78 (tgt := 7) rfl ?_
        refine zb_sub [3, 1, 0] rfl ?_
        exact ih 1 (x2 + 1) v_at_c4 v_fault_c5 v_faultAt_c5 v_kind_c4 v_open_c4 v_size_c5 v_stop_c4 v_code_c5 h
  · have h := if_t h hc
    refine zb_iconst E dX7_readSum_52 (v := 1) rfl ?_
    obtain ⟨rfl, rfl, rfl, rfl, rfl, rfl, rfl, rfl, rfl⟩ := zinj9 h
    exact zb_zret E hQ (ty := .boolean) rfl rfl ⟨Nat.zero_le _, Nat.zero_le _⟩ dX7_readSum_53
theorem c_X7_readSum_b7 {C : zC} {I : Nat → Nat → Int32} {J : Nat → Nat → Int64} {Rr : Nat → Nat → Option Nat} {D : zD} (N : Nat) (d9 : Nat) (rec : Nat → Int32 → Int32 → Int32 → Int32 → Int32 → Int32 → Int32 → (Nat → Int32) → Option R_pReader_readSum) (v_length : Int32) (e_v_length : I 33 3 = v_length) (v_tape : (Nat → Int32)) (e_v_tape : I 34 = v_tape) (hrec : pG_readPart_readProduct_readSum_readTwo_H v_length v_tape rec (zrm 14 327 d9)) (rr : Int32) (y_v_at : Int32) (y_v_fault : Int32) (y_v_faultAt : Int32) (y_v_kind : Int32) (y_v_open : Int32) (y_v_size : Int32) (y_v_stop : Int32) (y_v_code : (Nat → Int32)) (E : zE C RX7 cX7_readSum 4 (some .boolean) (zrm 14 327 (d9 + 1))) (hQ : C.Q = zQi C (zrm 14 327 (d9 + 1)) rr ((va_up (va_up I 33 (va_up (va_up (va_up (va_up (va_up (va_up (va_up (I 33) 4 y_v_size) 6 y_v_kind) 7 y_v_at) 8 y_v_stop) 9 y_v_open) 10 y_v_fault) 11 y_v_faultAt)) 35 y_v_code), J, Rr, D))  : ∀ (n9 : Nat) (x1 : Int32) (x2 : Int32) (v_at : Int32) (v_fault : Int32) (v_faultAt : Int32) (v_kind : Int32) (v_open : Int32) (v_size : Int32) (v_stop : Int32) (v_code : (Nat → Int32)), pReader_readSum_b7 N rec v_length v_tape n9 x1 x2 v_at v_fault v_faultAt v_kind v_open v_size v_stop v_code = some (rr, y_v_at, y_v_fault, y_v_faultAt, y_v_kind, y_v_open, y_v_size, y_v_stop, y_v_code) → zB C (0, 0) 7 [(0, .ref (C.X.1 + 33)), (1, .int x1), (2, .int x2)] [] ((va_up (va_up I 33 (va_up (va_up (va_up (va_up (va_up (va_up (va_up (I 33) 4 v_size) 6 v_kind) 7 v_at) 8 v_stop) 9 v_open) 10 v_fault) 11 v_faultAt)) 35 v_code), J, Rr, D) := by
  refine zlp10_ind (P := fun (x1 : Int32) (x2 : Int32) (v_at : Int32) (v_fault : Int32) (v_faultAt : Int32) (v_kind : Int32) (v_open : Int32) (v_size : Int32) (v_stop : Int32) (v_code : (Nat → Int32)) => zB C (0, 0) 7 [(0, .ref (C.X.1 + 33)), (1, .int x1), (2, .int x2)] [] ((va_up (va_up I 33 (va_up (va_up (va_up (va_up (va_up (va_up (va_up (I 33) 4 v_size) 6 v_kind) 7 v_at) 8 v_stop) 9 v_open) 10 v_fault) 11 v_faultAt)) 35 v_code), J, Rr, D)) (fun self ih => ?_)
  intro x1 x2 v_at v_fault v_faultAt v_kind v_open v_size v_stop v_code h
  refine zb_iload_n E dX7_readSum_7 2 rfl rfl ?_
  refine zb_sipush E dX7_readSum_8 (v := 600) rfl ?_
  refine zb_icmp_ge E dX7_readSum_11 (tgt := 81) rfl (fun hc => ?_) (fun hc => ?_)
  · have h := if_t h hc
    refine zb_iload_n E dX7_readSum_81 1 rfl rfl ?_
    obtain ⟨gB, h⟩ := gd_s h
    obtain ⟨rfl, rfl, rfl, rfl, rfl, rfl, rfl, rfl, rfl⟩ := zinj9 h
    exact zb_zret E hQ (ty := .boolean) rfl (isB_n gB) ⟨Nat.zero_le _, Nat.zero_le _⟩ dX7_readSum_82
  · have h := if_f h hc
    refine zb_iload_n E dX7_readSum_14 1 rfl rfl ?_
    refine zb_if_eq E dX7_readSum_15 (tgt := 81) rfl (fun hc => ?_) (fun hc => ?_)
    · have h := if_t h hc
      refine zb_iload_n E dX7_readSum_81 1 rfl rfl ?_
      obtain ⟨gB, h⟩ := gd_s h
      obtain ⟨rfl, rfl, rfl, rfl, rfl, rfl, rfl, rfl, rfl⟩ := zinj9 h
      exact zb_zret E hQ (ty := .boolean) rfl (isB_n gB) ⟨Nat.zero_le _, Nat.zero_le _⟩ dX7_readSum_82
    · have h := if_f h hc
      refine zb_aload_n E dX7_readSum_18 0 rfl rfl ?_
      refine zb_bipush E dX7_readSum_19 (v := 43) rfl ?_
      obtain ⟨rc2, v_at_c2, v_kind_c2, v_stop_c2, hc_21, h⟩ := bd4_s h
      refine zb_cVi E [.int 43] 33 zy_X7_takeMark zw_771 (by decide) (zF_33 _ _ _ _) rfl (c_X7_takeMark (va_up (va_up (va_up (va_up (va_up (va_up (va_up (I 33) 4 v_size) 6 v_kind) 7 v_at) 8 v_stop) 9 v_open) 10 v_fault) 11 v_faultAt) rfl v_length (by exact e_v_length) v_tape (by exact e_v_tape) v_at rfl v_kind rfl v_stop rfl hc_21) (zrm_ok (by decide)) rfl rfl (by first | decide | simp [Value.category]) dX7_readSum_21 (cs2 := (0, 0)) rfl ?_
      refine zb_S (S2 := ((va_up (va_up I 33 (va_up (va_up (va_up (va_up (va_up (va_up (va_up (I 33) 4 v_size) 6 v_kind_c2) 7 v_at_c2) 8 v_stop_c2) 9 v_open) 10 v_fault) 11 v_faultAt)) 35 v_code), J, Rr, D)) (zS_eq ((zcgV ((zcgF ((zcgF (zn6 (by decide : (11 : Nat) ≠ 6) (by decide : (10 : Nat) ≠ 6) (by decide : (9 : Nat) ≠ 6) (by decide : (8 : Nat) ≠ 6) (by decide : (7 : Nat) ≠ 6))).trans (zn5 (by decide : (11 : Nat) ≠ 7) (by decide : (10 : Nat) ≠ 7) (by decide : (9 : Nat) ≠ 7) (by decide : (8 : Nat) ≠ 7)))).trans (zn4 (by decide : (11 : Nat) ≠ 8) (by decide : (10 : Nat) ≠ 8) (by decide : (9 : Nat) ≠ 8)))).trans (zn2 (by decide : (35 : Nat) ≠ 33))) rfl) ?_
      refine zb_if_eq E dX7_readSum_24 (tgt := 32) rfl (fun hc => ?_) (fun hc => ?_)
      · have h := if_t h hc
        refine zb_aload_n E dX7_readSum_32 0 rfl rfl ?_
        refine zb_bipush E dX7_readSum_33 (v := 45) rfl ?_
        obtain ⟨rc3, v_at_c3, v_kind_c3, v_stop_c3, hc_35, h⟩ := bd4_s h
        refine zb_cVi E [.int 45] 33 zy_X7_takeMark zw_771 (by decide) (zF_33 _ _ _ _) rfl (c_X7_takeMark (va_up (va_up (va_up (va_up (va_up (va_up (va_up (I 33) 4 v_size) 6 v_kind_c2) 7 v_at_c2) 8 v_stop_c2) 9 v_open) 10 v_fault) 11 v_faultAt) rfl v_length (by exact e_v_length) v_tape (by exact e_v_tape) v_at_c2 rfl v_kind_c2 rfl v_stop_c2 rfl hc_35) (zrm_ok (by decide)) rfl rfl (by first | decide | simp [Value.category]) dX7_readSum_35 (cs2 := (0, 0)) rfl ?_
        refine zb_S (S2 := ((va_up (va_up I 33 (va_up (va_up (va_up (va_up (va_up (va_up (va_up (I 33) 4 v_size) 6 v_kind_c3) 7 v_at_c3) 8 v_stop_c3) 9 v_open) 10 v_fault) 11 v_faultAt)) 35 v_code), J, Rr, D)) (zS_eq ((zcgV ((zcgF ((zcgF (zn6 (by decide : (11 : Nat) ≠ 6) (by decide : (10 : Nat) ≠ 6) (by decide : (9 : Nat) ≠ 6) (by decide : (8 : Nat) ≠ 6) (by decide : (7 : Nat) ≠ 6))).trans (zn5 (by decide : (11 : Nat) ≠ 7) (by decide : (10 : Nat) ≠ 7) (by decide : (9 : Nat) ≠ 7) (by decide : (8 : Nat) ≠ 7)))).trans (zn4 (by decide : (11 : Nat) ≠ 8) (by decide : (10 : Nat) ≠ 8) (by decide : (9 : Nat) ≠ 8)))).trans (zn2 (by decide : (35 : Nat) ≠ 33))) rfl) ?_
        refine zb_if_eq E dX7_readSum_38 (tgt := 46) rfl (fun hc => ?_) (fun hc => ?_)
        · have h := if_t h hc
          refine zb_iconst E dX7_readSum_46 (v := 0) rfl ?_
          refine zb_sub [0, 2] rfl ?_
          exact c_X7_readSum_b47 N d9 rec v_length e_v_length v_tape e_v_tape hrec rr y_v_at y_v_fault y_v_faultAt y_v_kind y_v_open y_v_size y_v_stop y_v_code E hQ x2 0 v_at_c3 v_fault v_faultAt v_kind_c3 v_open v_size v_stop_c3 v_code self ih h
        · have h := if_f h hc
          refine zb_bipush E dX7_readSum_41 (v := (-8)) rfl ?_
          refine zb_goto E dX7_readSum_43 (tgt := 47) rfl ?_
          refine zb_sub [0, 2] rfl ?_
          exact c_X7_readSum_b47 N d9 rec v_length e_v_length v_tape e_v_tape hrec rr y_v_at y_v_fault y_v_faultAt y_v_kind y_v_open y_v_size y_v_stop y_v_code E hQ x2 (-8) v_at_c3 v_fault v_faultAt v_kind_c3 v_open v_size v_stop_c3 v_code self ih h
      · have h := if_f h hc
        refine zb_bipush E dX7_readSum_27 (v := (-7)) rfl ?_
        refine zb_goto E dX7_readSum_29 (tgt := 47) rfl ?_
        refine zb_sub [0, 2] rfl ?_
        exact c_X7_readSum_b47 N d9 rec v_length e_v_length v_tape e_v_tape hrec rr y_v_at y_v_fault y_v_faultAt y_v_kind y_v_open y_v_size y_v_stop y_v_code E hQ x2 (-7) v_at_c2 v_fault v_faultAt v_kind_c2 v_open v_size v_stop_c2 v_code self ih h
theorem c_X7_readSum_0 {C : zC} {I : Nat → Nat → Int32} {J : Nat → Nat → Int64} {Rr : Nat → Nat → Option Nat} {D : zD} (N : Nat) (d9 : Nat) (rec : Nat → Int32 → Int32 → Int32 → Int32 → Int32 → Int32 → Int32 → (Nat → Int32) → Option R_pReader_readSum) (v_length : Int32) (e_v_length : I 33 3 = v_length) (v_tape : (Nat → Int32)) (e_v_tape : I 34 = v_tape) (hrec : pG_readPart_readProduct_readSum_readTwo_H v_length v_tape rec (zrm 14 327 d9)) (rr : Int32) (y_v_at : Int32) (y_v_fault : Int32) (y_v_faultAt : Int32) (y_v_kind : Int32) (y_v_open : Int32) (y_v_size : Int32) (y_v_stop : Int32) (y_v_code : (Nat → Int32)) (E : zE C RX7 cX7_readSum 4 (some .boolean) (zrm 14 327 (d9 + 1))) (hQ : C.Q = zQi C (zrm 14 327 (d9 + 1)) rr ((va_up (va_up I 33 (va_up (va_up (va_up (va_up (va_up (va_up (va_up (I 33) 4 y_v_size) 6 y_v_kind) 7 y_v_at) 8 y_v_stop) 9 y_v_open) 10 y_v_fault) 11 y_v_faultAt)) 35 y_v_code), J, Rr, D)) (v_at : Int32) (v_fault : Int32) (v_faultAt : Int32) (v_kind : Int32) (v_open : Int32) (v_size : Int32) (v_stop : Int32) (v_code : (Nat → Int32)) (h : pReader_readSum_G N rec v_length v_tape v_at v_fault v_faultAt v_kind v_open v_size v_stop v_code = some (rr, y_v_at, y_v_fault, y_v_faultAt, y_v_kind, y_v_open, y_v_size, y_v_stop, y_v_code)) : zB C (0, 0) 0 [(0, .ref (C.X.1 + 33))] [] ((va_up (va_up I 33 (va_up (va_up (va_up (va_up (va_up (va_up (va_up (I 33) 4 v_size) 6 v_kind) 7 v_at) 8 v_stop) 9 v_open) 10 v_fault) 11 v_faultAt)) 35 v_code), J, Rr, D) := by
  refine zb_aload_n E dX7_readSum_0 0 rfl rfl ?_
  obtain ⟨rc1, v_at_c1, v_fault_c1, v_faultAt_c1, v_kind_c1, v_open_c1, v_size_c1, v_stop_c1, v_code_c1, hc_1, h⟩ := bd9_s h
  refine zb_cVi E [] 33 zy_X7_readProduct zw_743 (by decide) (zF_33 _ _ _ _) rfl (hrec.2.1 (va_up (va_up (va_up (va_up (va_up (va_up (va_up (I 33) 4 v_size) 6 v_kind) 7 v_at) 8 v_stop) 9 v_open) 10 v_fault) 11 v_faultAt) rfl (by exact e_v_length) (by exact e_v_tape) v_at rfl v_fault rfl v_faultAt rfl v_kind rfl v_open rfl v_size rfl v_stop rfl v_code rfl hc_1) (zrm_rec (by decide)) rfl rfl (by first | decide | simp [Value.category]) dX7_readSum_1 (cs2 := (0, 0)) rfl ?_
  refine zb_S (S2 := ((va_up (va_up I 33 (va_up (va_up (va_up (va_up (va_up (va_up (va_up (I 33) 4 v_size_c1) 6 v_kind_c1) 7 v_at_c1) 8 v_stop_c1) 9 v_open_c1) 10 v_fault_c1) 11 v_faultAt_c1)) 35 v_code_c1), J, Rr, D)) (zS_eq ((zcgF ((zcgV ((zcgF ((zcgF ((zcgF ((zcgF ((zcgF ((zcgF (zn7 (by decide : (11 : Nat) ≠ 4) (by decide : (10 : Nat) ≠ 4) (by decide : (9 : Nat) ≠ 4) (by decide : (8 : Nat) ≠ 4) (by decide : (7 : Nat) ≠ 4) (by decide : (6 : Nat) ≠ 4))).trans (zn6 (by decide : (11 : Nat) ≠ 6) (by decide : (10 : Nat) ≠ 6) (by decide : (9 : Nat) ≠ 6) (by decide : (8 : Nat) ≠ 6) (by decide : (7 : Nat) ≠ 6)))).trans (zn5 (by decide : (11 : Nat) ≠ 7) (by decide : (10 : Nat) ≠ 7) (by decide : (9 : Nat) ≠ 7) (by decide : (8 : Nat) ≠ 7)))).trans (zn4 (by decide : (11 : Nat) ≠ 8) (by decide : (10 : Nat) ≠ 8) (by decide : (9 : Nat) ≠ 8)))).trans (zn3 (by decide : (11 : Nat) ≠ 9) (by decide : (10 : Nat) ≠ 9)))).trans (zn2 (by decide : (11 : Nat) ≠ 10)))).trans zn1)).trans (zn2 (by decide : (35 : Nat) ≠ 33)))).trans zn1) rfl) ?_
  refine zb_istore_n E dX7_readSum_4 rfl (by decide) (lv2 := [(1, .int rc1), (0, .ref (C.X.1 + 33))]) rfl ?_
  refine zb_iconst E dX7_readSum_5 (v := 0) rfl ?_
  refine zb_istore_n E dX7_readSum_6 rfl (by decide) (lv2 := [(2, .int 0), (1, .int rc1), (0, .ref (C.X.1 + 33))]) rfl ?_
  refine zb_sub [2, 1, 0] rfl ?_
  exact c_X7_readSum_b7 N d9 rec v_length e_v_length v_tape e_v_tape hrec rr y_v_at y_v_fault y_v_faultAt y_v_kind y_v_open y_v_size y_v_stop y_v_code E hQ _ rc1 0 v_at_c1 v_fault_c1 v_faultAt_c1 v_kind_c1 v_open_c1 v_size_c1 v_stop_c1 v_code_c1 h
theorem c_X7_readSum_G (N d9 : Nat) (rec : Nat → Int32 → Int32 → Int32 → Int32 → Int32 → Int32 → Int32 → (Nat → Int32) → Option R_pReader_readSum) {l : Launch} {X : zX} {I : Nat → Nat → Int32} {J : Nat → Nat → Int64} {Rr : Nat → Nat → Option Nat} {D : zD} (oI33 : Nat → Int32) (eoI33 : I 33 = oI33) (v_length : Int32) (e_v_length : I 33 3 = v_length) (v_tape : (Nat → Int32)) (e_v_tape : I 34 = v_tape) (v_at : Int32) (e_v_at : I 33 7 = v_at) (v_fault : Int32) (e_v_fault : I 33 10 = v_fault) (v_faultAt : Int32) (e_v_faultAt : I 33 11 = v_faultAt) (v_kind : Int32) (e_v_kind : I 33 6 = v_kind) (v_open : Int32) (e_v_open : I 33 9 = v_open) (v_size : Int32) (e_v_size : I 33 4 = v_size) (v_stop : Int32) (e_v_stop : I 33 8 = v_stop) (v_code : (Nat → Int32)) (e_v_code : I 35 = v_code) {rr : Int32} {y_v_at : Int32} {y_v_fault : Int32} {y_v_faultAt : Int32} {y_v_kind : Int32} {y_v_open : Int32} {y_v_size : Int32} {y_v_stop : Int32} {y_v_code : (Nat → Int32)} (hrec : pG_readPart_readProduct_readSum_readTwo_H v_length v_tape rec (zrm 14 327 d9)) (h : pReader_readSum_G N rec v_length v_tape v_at v_fault v_faultAt v_kind v_open v_size v_stop v_code = some (rr, y_v_at, y_v_fault, y_v_faultAt, y_v_kind, y_v_open, y_v_size, y_v_stop, y_v_code)) : zMi l yX7_readSum cX7_readSum 4 (some .boolean) (zrm 14 327 (d9 + 1)) X [.ref (X.1 + 33)] (I, J, Rr, D) rr ((va_up (va_up I 33 (va_up (va_up (va_up (va_up (va_up (va_up (va_up oI33 4 y_v_size) 6 y_v_kind) 7 y_v_at) 8 y_v_stop) 9 y_v_open) 10 y_v_fault) 11 y_v_faultAt)) 35 y_v_code), J, Rr, D) := by
  subst eoI33
  refine zMi.of (by decide) (Nat.le_of_ble_eq_true rfl) (fun C E hl hX hQ => ?_)
  subst hl
  subst hX
  have eI0 : (va_up (va_up I 33 (va_up (va_up (va_up (va_up (va_up (va_up (va_up (I 33) 4 v_size) 6 v_kind) 7 v_at) 8 v_stop) 9 v_open) 10 v_fault) 11 v_faultAt)) 35 v_code) = I := by rw [zup_idE e_v_size, zup_idE e_v_kind, zup_idE e_v_at, zup_idE e_v_stop, zup_idE e_v_open, zup_idE e_v_fault, zup_idE e_v_faultAt, zup_id, zup_idE e_v_code]
  have eJ0 : J = J := rfl
  refine zb_S (S2 := ((va_up (va_up I 33 (va_up (va_up (va_up (va_up (va_up (va_up (va_up (I 33) 4 v_size) 6 v_kind) 7 v_at) 8 v_stop) 9 v_open) 10 v_fault) 11 v_faultAt)) 35 v_code), J, Rr, D)) (zS_eq eI0.symm eJ0.symm) ?_
  exact c_X7_readSum_0 N d9 rec v_length e_v_length v_tape e_v_tape hrec rr y_v_at y_v_fault y_v_faultAt y_v_kind y_v_open y_v_size y_v_stop y_v_code E hQ v_at v_fault v_faultAt v_kind v_open v_size v_stop v_code h
theorem c_X7_readTwo_0 {C : zC} {I : Nat → Nat → Int32} {J : Nat → Nat → Int64} {Rr : Nat → Nat → Option Nat} {D : zD} (N : Nat) (d9 : Nat) (rec : Nat → Int32 → Int32 → Int32 → Int32 → Int32 → Int32 → Int32 → (Nat → Int32) → Option R_pReader_readTwo) (v_length : Int32) (e_v_length : I 33 3 = v_length) (v_tape : (Nat → Int32)) (e_v_tape : I 34 = v_tape) (hrec : pG_readPart_readProduct_readSum_readTwo_H v_length v_tape rec (zrm 14 327 d9)) (rr : Int32) (y_v_at : Int32) (y_v_fault : Int32) (y_v_faultAt : Int32) (y_v_kind : Int32) (y_v_open : Int32) (y_v_size : Int32) (y_v_stop : Int32) (y_v_code : (Nat → Int32)) (E : zE C RX7 cX7_readTwo 2 (some .boolean) (zrm 14 327 (d9 + 1))) (hQ : C.Q = zQi C (zrm 14 327 (d9 + 1)) rr ((va_up (va_up I 33 (va_up (va_up (va_up (va_up (va_up (va_up (va_up (I 33) 4 y_v_size) 6 y_v_kind) 7 y_v_at) 8 y_v_stop) 9 y_v_open) 10 y_v_fault) 11 y_v_faultAt)) 35 y_v_code), J, Rr, D)) (v_at : Int32) (v_fault : Int32) (v_faultAt : Int32) (v_kind : Int32) (v_open : Int32) (v_size : Int32) (v_stop : Int32) (v_code : (Nat → Int32)) (h : pReader_readTwo_G N rec v_length v_tape v_at v_fault v_faultAt v_kind v_open v_size v_stop v_code = some (rr, y_v_at, y_v_fault, y_v_faultAt, y_v_kind, y_v_open, y_v_size, y_v_stop, y_v_code)) : zB C (0, 0) 0 [(0, .ref (C.X.1 + 33))] [] ((va_up (va_up I 33 (va_up (va_up (va_up (va_up (va_up (va_up (va_up (I 33) 4 v_size) 6 v_kind) 7 v_at) 8 v_stop) 9 v_open) 10 v_fault) 11 v_faultAt)) 35 v_code), J, Rr, D) := by
  refine zb_aload_n E dX7_readTwo_0 0 rfl rfl ?_
  refine zb_get E 33 (by decide) (zF_33 C.X) rfl zin7 7 (by decide) zw_145 (v := .int v_at) rfl dX7_readTwo_1 ?_
  refine zb_istore_n E dX7_readTwo_4 rfl (by decide) (lv2 := [(1, .int v_at), (0, .ref (C.X.1 + 33))]) rfl ?_
  refine zb_aload_n E dX7_readTwo_5 1 rfl rfl ?_
  refine zb_bipush E dX7_readTwo_6 (v := 40) rfl ?_
  obtain ⟨rc1, v_at_c1, v_fault_c1, v_faultAt_c1, v_kind_c1, v_stop_c1, hc_8, h⟩ := bd6_s h
  refine zb_cVi E [.int 40] 33 zy_X7_needMark zw_779 (by decide) (zF_33 _ _ _ _) rfl (c_X7_needMark (va_up (va_up (va_up (va_up (va_up (va_up (va_up (I 33) 4 v_size) 6 v_kind) 7 v_at) 8 v_stop) 9 v_open) 10 v_fault) 11 v_faultAt) rfl v_length (by exact e_v_length) v_tape (by exact e_v_tape) v_at rfl v_fault rfl v_faultAt rfl v_kind rfl v_stop rfl hc_8) (zrm_ok (by decide)) rfl rfl (by first | decide | simp [Value.category]) dX7_readTwo_8 (cs2 := (0, 0)) rfl ?_
  refine zb_S (S2 := ((va_up (va_up I 33 (va_up (va_up (va_up (va_up (va_up (va_up (va_up (I 33) 4 v_size) 6 v_kind_c1) 7 v_at_c1) 8 v_stop_c1) 9 v_open) 10 v_fault_c1) 11 v_faultAt_c1)) 35 v_code), J, Rr, D)) (zS_eq ((zcgV ((zcgF ((zcgF ((zcgF ((zcgF (zn6 (by decide : (11 : Nat) ≠ 6) (by decide : (10 : Nat) ≠ 6) (by decide : (9 : Nat) ≠ 6) (by decide : (8 : Nat) ≠ 6) (by decide : (7 : Nat) ≠ 6))).trans (zn5 (by decide : (11 : Nat) ≠ 7) (by decide : (10 : Nat) ≠ 7) (by decide : (9 : Nat) ≠ 7) (by decide : (8 : Nat) ≠ 7)))).trans (zn4 (by decide : (11 : Nat) ≠ 8) (by decide : (10 : Nat) ≠ 8) (by decide : (9 : Nat) ≠ 8)))).trans (zn2 (by decide : (11 : Nat) ≠ 10)))).trans zn1)).trans (zn2 (by decide : (35 : Nat) ≠ 33))) rfl) ?_
  refine zb_if_eq E dX7_readTwo_11 (tgt := 65) rfl (fun hc => ?_) (fun hc => ?_)
  · have h := if_t h hc
    refine zb_iconst E dX7_readTwo_65 (v := 0) rfl ?_
    obtain ⟨rfl, rfl, rfl, rfl, rfl, rfl, rfl, rfl, rfl⟩ := zinj9 h
    exact zb_zret E hQ (ty := .boolean) rfl rfl ⟨Nat.zero_le _, Nat.zero_le _⟩ dX7_readTwo_66
  · have h := if_f h hc
    refine zb_aload_n E dX7_readTwo_14 1 rfl rfl ?_
    refine zb_iload_n E dX7_readTwo_15 0 rfl rfl ?_
    obtain ⟨rc2, v_fault_c2, v_faultAt_c2, v_open_c2, hc_16, h⟩ := bd4_s h
    refine zb_cVi E [.int v_at] 33 zy_X7_opens zw_775 (by decide) (zF_33 _ _ _ _) rfl (c_X7_opens (va_up (va_up (va_up (va_up (va_up (va_up (va_up (I 33) 4 v_size) 6 v_kind_c1) 7 v_at_c1) 8 v_stop_c1) 9 v_open) 10 v_fault_c1) 11 v_faultAt_c1) rfl v_fault_c1 rfl v_faultAt_c1 rfl v_open rfl hc_16) (zrm_ok (by decide)) rfl rfl (by first | decide | simp [Value.category]) dX7_readTwo_16 (cs2 := (0, 0)) rfl ?_
    refine zb_S (S2 := ((va_up (va_up I 33 (va_up (va_up (va_up (va_up (va_up (va_up (va_up (I 33) 4 v_size) 6 v_kind_c1) 7 v_at_c1) 8 v_stop_c1) 9 v_open_c2) 10 v_fault_c2) 11 v_faultAt_c2)) 35 v_code), J, Rr, D)) (zS_eq ((zcgV ((zcgF ((zcgF (zn3 (by decide : (11 : Nat) ≠ 9) (by decide : (10 : Nat) ≠ 9))).trans (zn2 (by decide : (11 : Nat) ≠ 10)))).trans zn1)).trans (zn2 (by decide : (35 : Nat) ≠ 33))) rfl) ?_
    refine zb_if_eq E dX7_readTwo_19 (tgt := 65) rfl (fun hc => ?_) (fun hc => ?_)
    · have h := if_t h hc
      refine zb_iconst E dX7_readTwo_65 (v := 0) rfl ?_
      obtain ⟨rfl, rfl, rfl, rfl, rfl, rfl, rfl, rfl, rfl⟩ := zinj9 h
      exact zb_zret E hQ (ty := .boolean) rfl rfl ⟨Nat.zero_le _, Nat.zero_le _⟩ dX7_readTwo_66
    · have h := if_f h hc
      refine zb_aload_n E dX7_readTwo_22 1 rfl rfl ?_
      obtain ⟨rc3, v_at_c3, v_fault_c3, v_faultAt_c3, v_kind_c3, v_open_c3, v_size_c3, v_stop_c3, v_code_c3, hc_23, h⟩ := bd9_s h
      refine zb_cVi E [] 33 zy_X7_readSum zw_739 (by decide) (zF_33 _ _ _ _) rfl (hrec.2.2.1 (va_up (va_up (va_up (va_up (va_up (va_up (va_up (I 33) 4 v_size) 6 v_kind_c1) 7 v_at_c1) 8 v_stop_c1) 9 v_open_c2) 10 v_fault_c2) 11 v_faultAt_c2) rfl (by exact e_v_length) (by exact e_v_tape) v_at_c1 rfl v_fault_c2 rfl v_faultAt_c2 rfl v_kind_c1 rfl v_open_c2 rfl v_size rfl v_stop_c1 rfl v_code rfl hc_23) (zrm_rec (by decide)) rfl rfl (by first | decide | simp [Value.category]) dX7_readTwo_23 (cs2 := (0, 0)) rfl ?_
      refine zb_S (S2 := ((va_up (va_up I 33 (va_up (va_up (va_up (va_up (va_up (va_up (va_up (I 33) 4 v_size_c3) 6 v_kind_c3) 7 v_at_c3) 8 v_stop_c3) 9 v_open_c3) 10 v_fault_c3) 11 v_faultAt_c3)) 35 v_code_c3), J, Rr, D)) (zS_eq ((zcgF ((zcgV ((zcgF ((zcgF ((zcgF ((zcgF ((zcgF ((zcgF (zn7 (by decide : (11 : Nat) ≠ 4) (by decide : (10 : Nat) ≠ 4) (by decide : (9 : Nat) ≠ 4) (by decide : (8 : Nat) ≠ 4) (by decide : (7 : Nat) ≠ 4) (by decide : (6 : Nat) ≠ 4))).trans (zn6 (by decide : (11 : Nat) ≠ 6) (by decide : (10 : Nat) ≠ 6) (by decide : (9 : Nat) ≠ 6) (by decide : (8 : Nat) ≠ 6) (by decide : (7 : Nat) ≠ 6)))).trans (zn5 (by decide : (11 : Nat) ≠ 7) (by decide : (10 : Nat) ≠ 7) (by decide : (9 : Nat) ≠ 7) (by decide : (8 : Nat) ≠ 7)))).trans (zn4 (by decide : (11 : Nat) ≠ 8) (by decide : (10 : Nat) ≠ 8) (by decide : (9 : Nat) ≠ 8)))).trans (zn3 (by decide : (11 : Nat) ≠ 9) (by decide : (10 : Nat) ≠ 9)))).trans (zn2 (by decide : (11 : Nat) ≠ 10)))).trans zn1)).trans (zn2 (by decide : (35 : Nat) ≠ 33)))).trans zn1) rfl) ?_
      refine zb_if_eq E dX7_readTwo_26 (tgt := 65) rfl (fun hc => ?_) (fun hc => ?_)
      · have h := if_t h hc
        refine zb_iconst E dX7_readTwo_65 (v := 0) rfl ?_
        obtain ⟨rfl, rfl, rfl, rfl, rfl, rfl, rfl, rfl, rfl⟩ := zinj9 h
        exact zb_zret E hQ (ty := .boolean) rfl rfl ⟨Nat.zero_le _, Nat.zero_le _⟩ dX7_readTwo_66
      · have h := if_f h hc
        refine zb_aload_n E dX7_readTwo_29 1 rfl rfl ?_
        refine zb_bipush E dX7_readTwo_30 (v := 44) rfl ?_
        obtain ⟨rc4, v_at_c4, v_fault_c4, v_faultAt_c4, v_kind_c4, v_stop_c4, hc_32, h⟩ := bd6_s h
        refine zb_cVi E [.int 44] 33 zy_X7_needMark zw_779 (by decide) (zF_33 _ _ _ _) rfl (c_X7_needMark (va_up (va_up (va_up (va_up (va_up (va_up (va_up (I 33) 4 v_size_c3) 6 v_kind_c3) 7 v_at_c3) 8 v_stop_c3) 9 v_open_c3) 10 v_fault_c3) 11 v_faultAt_c3) rfl v_length (by exact e_v_length) v_tape (by exact e_v_tape) v_at_c3 rfl v_fault_c3 rfl v_faultAt_c3 rfl v_kind_c3 rfl v_stop_c3 rfl hc_32) (zrm_ok (by decide)) rfl rfl (by first | decide | simp [Value.category]) dX7_readTwo_32 (cs2 := (0, 0)) rfl ?_
        refine zb_S (S2 := ((va_up (va_up I 33 (va_up (va_up (va_up (va_up (va_up (va_up (va_up (I 33) 4 v_size_c3) 6 v_kind_c4) 7 v_at_c4) 8 v_stop_c4) 9 v_open_c3) 10 v_fault_c4) 11 v_faultAt_c4)) 35 v_code_c3), J, Rr, D)) (zS_eq ((zcgV ((zcgF ((zcgF ((zcgF ((zcgF (zn6 (by decide : (11 : Nat) ≠ 6) (by decide : (10 : Nat) ≠ 6) (by decide : (9 : Nat) ≠ 6) (by decide : (8 : Nat) ≠ 6) (by decide : (7 : Nat) ≠ 6))).trans (zn5 (by decide : (11 : Nat) ≠ 7) (by decide : (10 : Nat) ≠ 7) (by decide : (9 : Nat) ≠ 7) (by decide : (8 : Nat) ≠ 7)))).trans (zn4 (by decide : (11 : Nat) ≠ 8) (by decide : (10 : Nat) ≠ 8) (by decide : (9 : Nat) ≠ 8)))).trans (zn2 (by decide : (11 : Nat) ≠ 10)))).trans zn1)).trans (zn2 (by decide : (35 : Nat) ≠ 33))) rfl) ?_
        refine zb_if_eq E dX7_readTwo_35 (tgt := 65) rfl (fun hc => ?_) (fun hc => ?_)
        · have h := if_t h hc
          refine zb_iconst E dX7_readTwo_65 (v := 0) rfl ?_
          obtain ⟨rfl, rfl, rfl, rfl, rfl, rfl, rfl, rfl, rfl⟩ := zinj9 h
          exact zb_zret E hQ (ty := .boolean) rfl rfl ⟨Nat.zero_le _, Nat.zero_le _⟩ dX7_readTwo_66
        · have h := if_f h hc
          refine zb_aload_n E dX7_readTwo_38 1 rfl rfl ?_
          obtain ⟨rc5, v_at_c5, v_fault_c5, v_faultAt_c5, v_kind_c5, v_open_c5, v_size_c5, v_stop_c5, v_code_c5, hc_39, h⟩ := bd9_s h
          refine zb_cVi E [] 33 zy_X7_readSum zw_739 (by decide) (zF_33 _ _ _ _) rfl (hrec.2.2.1 (va_up (va_up (va_up (va_up (va_up (va_up (va_up (I 33) 4 v_size_c3) 6 v_kind_c4) 7 v_at_c4) 8 v_stop_c4) 9 v_open_c3) 10 v_fault_c4) 11 v_faultAt_c4) rfl (by exact e_v_length) (by exact e_v_tape) v_at_c4 rfl v_fault_c4 rfl v_faultAt_c4 rfl v_kind_c4 rfl v_open_c3 rfl v_size_c3 rfl v_stop_c4 rfl v_code_c3 rfl hc_39) (zrm_rec (by decide)) rfl rfl (by first | decide | simp [Value.category]) dX7_readTwo_39 (cs2 := (0, 0)) rfl ?_
          refine zb_S (S2 := ((va_up (va_up I 33 (va_up (va_up (va_up (va_up (va_up (va_up (va_up (I 33) 4 v_size_c5) 6 v_kind_c5) 7 v_at_c5) 8 v_stop_c5) 9 v_open_c5) 10 v_fault_c5) 11 v_faultAt_c5)) 35 v_code_c5), J, Rr, D)) (zS_eq ((zcgF ((zcgV ((zcgF ((zcgF ((zcgF ((zcgF ((zcgF ((zcgF (zn7 (by decide : (11 : Nat) ≠ 4) (by decide : (10 : Nat) ≠ 4) (by decide : (9 : Nat) ≠ 4) (by decide : (8 : Nat) ≠ 4) (by decide : (7 : Nat) ≠ 4) (by decide : (6 : Nat) ≠ 4))).trans (zn6 (by decide : (11 : Nat) ≠ 6) (by decide : (10 : Nat) ≠ 6) (by decide : (9 : Nat) ≠ 6) (by decide : (8 : Nat) ≠ 6) (by decide : (7 : Nat) ≠ 6)))).trans (zn5 (by decide : (11 : Nat) ≠ 7) (by decide : (10 : Nat) ≠ 7) (by decide : (9 : Nat) ≠ 7) (by decide : (8 : Nat) ≠ 7)))).trans (zn4 (by decide : (11 : Nat) ≠ 8) (by decide : (10 : Nat) ≠ 8) (by decide : (9 : Nat) ≠ 8)))).trans (zn3 (by decide : (11 : Nat) ≠ 9) (by decide : (10 : Nat) ≠ 9)))).trans (zn2 (by decide : (11 : Nat) ≠ 10)))).trans zn1)).trans (zn2 (by decide : (35 : Nat) ≠ 33)))).trans zn1) rfl) ?_
          refine zb_if_eq E dX7_readTwo_42 (tgt := 65) rfl (fun hc => ?_) (fun hc => ?_)
          · have h := if_t h hc
            refine zb_iconst E dX7_readTwo_65 (v := 0) rfl ?_
            obtain ⟨rfl, rfl, rfl, rfl, rfl, rfl, rfl, rfl, rfl⟩ := zinj9 h
            exact zb_zret E hQ (ty := .boolean) rfl rfl ⟨Nat.zero_le _, Nat.zero_le _⟩ dX7_readTwo_66
          · have h := if_f h hc
            refine zb_aload_n E dX7_readTwo_45 1 rfl rfl ?_
            refine zb_bipush E dX7_readTwo_46 (v := 41) rfl ?_
            obtain ⟨rc6, v_at_c6, v_fault_c6, v_faultAt_c6, v_kind_c6, v_stop_c6, hc_48, h⟩ := bd6_s h
            refine zb_cVi E [.int 41] 33 zy_X7_needMark zw_779 (by decide) (zF_33 _ _ _ _) rfl (c_X7_needMark (va_up (va_up (va_up (va_up (va_up (va_up (va_up (I 33) 4 v_size_c5) 6 v_kind_c5) 7 v_at_c5) 8 v_stop_c5) 9 v_open_c5) 10 v_fault_c5) 11 v_faultAt_c5) rfl v_length (by exact e_v_length) v_tape (by exact e_v_tape) v_at_c5 rfl v_fault_c5 rfl v_faultAt_c5 rfl v_kind_c5 rfl v_stop_c5 rfl hc_48) (zrm_ok (by decide)) rfl rfl (by first | decide | simp [Value.category]) dX7_readTwo_48 (cs2 := (0, 0)) rfl ?_
            refine zb_S (S2 := ((va_up (va_up I 33 (va_up (va_up (va_up (va_up (va_up (va_up (va_up (I 33) 4 v_size_c5) 6 v_kind_c6) 7 v_at_c6) 8 v_stop_c6) 9 v_open_c5) 10 v_fault_c6) 11 v_faultAt_c6)) 35 v_code_c5), J, Rr, D)) (zS_eq ((zcgV ((zcgF ((zcgF ((zcgF ((zcgF (zn6 (by decide : (11 : Nat) ≠ 6) (by decide : (10 : Nat) ≠ 6) (by decide : (9 : Nat) ≠ 6) (by decide : (8 : Nat) ≠ 6) (by decide : (7 : Nat) ≠ 6))).trans (zn5 (by decide : (11 : Nat) ≠ 7) (by decide : (10 : Nat) ≠ 7) (by decide : (9 : Nat) ≠ 7) (by decide : (8 : Nat) ≠ 7)))).trans (zn4 (by decide : (11 : Nat) ≠ 8) (by decide : (10 : Nat) ≠ 8) (by decide : (9 : Nat) ≠ 8)))).trans (zn2 (by decide : (11 : Nat) ≠ 10)))).trans zn1)).trans (zn2 (by decide : (35 : Nat) ≠ 33))) rfl) ?_
            refine zb_if_eq E dX7_readTwo_51 (tgt := 65) rfl (fun hc => ?_) (fun hc => ?_)
            · have h := if_t h hc
              refine zb_iconst E dX7_readTwo_65 (v := 0) rfl ?_
              obtain ⟨rfl, rfl, rfl, rfl, rfl, rfl, rfl, rfl, rfl⟩ := zinj9 h
              exact zb_zret E hQ (ty := .boolean) rfl rfl ⟨Nat.zero_le _, Nat.zero_le _⟩ dX7_readTwo_66
            · have h := if_f h hc
              refine zb_aload_n E dX7_readTwo_54 1 rfl rfl ?_
              obtain ⟨rc7, v_open_c7, hc_55, h⟩ := bd2_s h
              refine zb_cVi E [] 33 zy_X7_closes zw_783 (by decide) (zF_33 _ _ _ _) rfl (c_X7_closes (va_up (va_up (va_up (va_up (va_up (va_up (va_up (I 33) 4 v_size_c5) 6 v_kind_c6) 7 v_at_c6) 8 v_stop_c6) 9 v_open_c5) 10 v_fault_c6) 11 v_faultAt_c6) rfl v_open_c5 rfl hc_55) (zrm_ok (by decide)) rfl rfl (by first | decide | simp [Value.category]) dX7_readTwo_55 (cs2 := (0, 0)) rfl ?_
              refine zb_S (S2 := ((va_up (va_up I 33 (va_up (va_up (va_up (va_up (va_up (va_up (va_up (I 33) 4 v_size_c5) 6 v_kind_c6) 7 v_at_c6) 8 v_stop_c6) 9 v_open_c7) 10 v_fault_c6) 11 v_faultAt_c6)) 35 v_code_c5), J, Rr, D)) (zS_eq ((zcgV (zn3 (by decide : (11 : Nat) ≠ 9) (by decide : (10 : Nat) ≠ 9))).trans (zn2 (by decide : (35 : Nat) ≠ 33))) rfl) ?_
              refine zb_if_eq E dX7_readTwo_58 (tgt := 65) rfl (fun hc => ?_) (fun hc => ?_)
              · have h := if_t h hc
                refine zb_iconst E dX7_readTwo_65 (v := 0) rfl ?_
                obtain ⟨rfl, rfl, rfl, rfl, rfl, rfl, rfl, rfl, rfl⟩ := zinj9 h
                exact zb_zret E hQ (ty := .boolean) rfl rfl ⟨Nat.zero_le _, Nat.zero_le _⟩ dX7_readTwo_66
              · have h := if_f h hc
                refine zb_iconst E dX7_readTwo_61 (v := 1) rfl ?_
                refine zb_goto E dX7_readTwo_62 (tgt := 66) rfl ?_
                obtain ⟨rfl, rfl, rfl, rfl, rfl, rfl, rfl, rfl, rfl⟩ := zinj9 h
                exact zb_zret E hQ (ty := .boolean) rfl rfl ⟨Nat.zero_le _, Nat.zero_le _⟩ dX7_readTwo_66
theorem c_X7_readTwo_G (N d9 : Nat) (rec : Nat → Int32 → Int32 → Int32 → Int32 → Int32 → Int32 → Int32 → (Nat → Int32) → Option R_pReader_readTwo) {l : Launch} {X : zX} {I : Nat → Nat → Int32} {J : Nat → Nat → Int64} {Rr : Nat → Nat → Option Nat} {D : zD} (oI33 : Nat → Int32) (eoI33 : I 33 = oI33) (v_length : Int32) (e_v_length : I 33 3 = v_length) (v_tape : (Nat → Int32)) (e_v_tape : I 34 = v_tape) (v_at : Int32) (e_v_at : I 33 7 = v_at) (v_fault : Int32) (e_v_fault : I 33 10 = v_fault) (v_faultAt : Int32) (e_v_faultAt : I 33 11 = v_faultAt) (v_kind : Int32) (e_v_kind : I 33 6 = v_kind) (v_open : Int32) (e_v_open : I 33 9 = v_open) (v_size : Int32) (e_v_size : I 33 4 = v_size) (v_stop : Int32) (e_v_stop : I 33 8 = v_stop) (v_code : (Nat → Int32)) (e_v_code : I 35 = v_code) {rr : Int32} {y_v_at : Int32} {y_v_fault : Int32} {y_v_faultAt : Int32} {y_v_kind : Int32} {y_v_open : Int32} {y_v_size : Int32} {y_v_stop : Int32} {y_v_code : (Nat → Int32)} (hrec : pG_readPart_readProduct_readSum_readTwo_H v_length v_tape rec (zrm 14 327 d9)) (h : pReader_readTwo_G N rec v_length v_tape v_at v_fault v_faultAt v_kind v_open v_size v_stop v_code = some (rr, y_v_at, y_v_fault, y_v_faultAt, y_v_kind, y_v_open, y_v_size, y_v_stop, y_v_code)) : zMi l yX7_readTwo cX7_readTwo 2 (some .boolean) (zrm 14 327 (d9 + 1)) X [.ref (X.1 + 33)] (I, J, Rr, D) rr ((va_up (va_up I 33 (va_up (va_up (va_up (va_up (va_up (va_up (va_up oI33 4 y_v_size) 6 y_v_kind) 7 y_v_at) 8 y_v_stop) 9 y_v_open) 10 y_v_fault) 11 y_v_faultAt)) 35 y_v_code), J, Rr, D) := by
  subst eoI33
  refine zMi.of (by decide) (Nat.le_of_ble_eq_true rfl) (fun C E hl hX hQ => ?_)
  subst hl
  subst hX
  have eI0 : (va_up (va_up I 33 (va_up (va_up (va_up (va_up (va_up (va_up (va_up (I 33) 4 v_size) 6 v_kind) 7 v_at) 8 v_stop) 9 v_open) 10 v_fault) 11 v_faultAt)) 35 v_code) = I := by rw [zup_idE e_v_size, zup_idE e_v_kind, zup_idE e_v_at, zup_idE e_v_stop, zup_idE e_v_open, zup_idE e_v_fault, zup_idE e_v_faultAt, zup_id, zup_idE e_v_code]
  have eJ0 : J = J := rfl
  refine zb_S (S2 := ((va_up (va_up I 33 (va_up (va_up (va_up (va_up (va_up (va_up (va_up (I 33) 4 v_size) 6 v_kind) 7 v_at) 8 v_stop) 9 v_open) 10 v_fault) 11 v_faultAt)) 35 v_code), J, Rr, D)) (zS_eq eI0.symm eJ0.symm) ?_
  exact c_X7_readTwo_0 N d9 rec v_length e_v_length v_tape e_v_tape hrec rr y_v_at y_v_fault y_v_faultAt y_v_kind y_v_open y_v_size y_v_stop y_v_code E hQ v_at v_fault v_faultAt v_kind v_open v_size v_stop v_code h
theorem pG_readPart_readProduct_readSum_readTwo_all (N : Nat) (v_length : Int32) (v_tape : (Nat → Int32)) : ∀ d9 : Nat, pG_readPart_readProduct_readSum_readTwo_H v_length v_tape (pG_readPart_readProduct_readSum_readTwo N v_length v_tape d9) (zrm 14 327 d9) := by
  intro d9
  induction d9 with
  | zero =>
    refine ⟨?_, ?_, ?_, ?_⟩
    · intro l X I J Rr D oI33 eoI33 e_v_length e_v_tape v_at e_v_at v_fault e_v_fault v_faultAt e_v_faultAt v_kind e_v_kind v_open e_v_open v_size e_v_size v_stop e_v_stop v_code e_v_code rr y_v_at y_v_fault y_v_faultAt y_v_kind y_v_open y_v_size y_v_stop y_v_code h
      exact nomatch (show (none : Option R_pReader_readPart) = some _ from h)
    · intro l X I J Rr D oI33 eoI33 e_v_length e_v_tape v_at e_v_at v_fault e_v_fault v_faultAt e_v_faultAt v_kind e_v_kind v_open e_v_open v_size e_v_size v_stop e_v_stop v_code e_v_code rr y_v_at y_v_fault y_v_faultAt y_v_kind y_v_open y_v_size y_v_stop y_v_code h
      exact nomatch (show (none : Option R_pReader_readProduct) = some _ from h)
    · intro l X I J Rr D oI33 eoI33 e_v_length e_v_tape v_at e_v_at v_fault e_v_fault v_faultAt e_v_faultAt v_kind e_v_kind v_open e_v_open v_size e_v_size v_stop e_v_stop v_code e_v_code rr y_v_at y_v_fault y_v_faultAt y_v_kind y_v_open y_v_size y_v_stop y_v_code h
      exact nomatch (show (none : Option R_pReader_readSum) = some _ from h)
    · intro l X I J Rr D oI33 eoI33 e_v_length e_v_tape v_at e_v_at v_fault e_v_fault v_faultAt e_v_faultAt v_kind e_v_kind v_open e_v_open v_size e_v_size v_stop e_v_stop v_code e_v_code rr y_v_at y_v_fault y_v_faultAt y_v_kind y_v_open y_v_size y_v_stop y_v_code h
      exact nomatch (show (none : Option R_pReader_readTwo) = some _ from h)
  | succ d9 ih =>
    refine ⟨?_, ?_, ?_, ?_⟩
    · intro l X I J Rr D oI33 eoI33 e_v_length e_v_tape v_at e_v_at v_fault e_v_fault v_faultAt e_v_faultAt v_kind e_v_kind v_open e_v_open v_size e_v_size v_stop e_v_stop v_code e_v_code rr y_v_at y_v_fault y_v_faultAt y_v_kind y_v_open y_v_size y_v_stop y_v_code h
      exact c_X7_readPart_G N d9 (pG_readPart_readProduct_readSum_readTwo N v_length v_tape d9) oI33 eoI33 v_length e_v_length v_tape e_v_tape v_at e_v_at v_fault e_v_fault v_faultAt e_v_faultAt v_kind e_v_kind v_open e_v_open v_size e_v_size v_stop e_v_stop v_code e_v_code ih h
    · intro l X I J Rr D oI33 eoI33 e_v_length e_v_tape v_at e_v_at v_fault e_v_fault v_faultAt e_v_faultAt v_kind e_v_kind v_open e_v_open v_size e_v_size v_stop e_v_stop v_code e_v_code rr y_v_at y_v_fault y_v_faultAt y_v_kind y_v_open y_v_size y_v_stop y_v_code h
      exact c_X7_readProduct_G N d9 (pG_readPart_readProduct_readSum_readTwo N v_length v_tape d9) oI33 eoI33 v_length e_v_length v_tape e_v_tape v_at e_v_at v_fault e_v_fault v_faultAt e_v_faultAt v_kind e_v_kind v_open e_v_open v_size e_v_size v_stop e_v_stop v_code e_v_code ih h
    · intro l X I J Rr D oI33 eoI33 e_v_length e_v_tape v_at e_v_at v_fault e_v_fault v_faultAt e_v_faultAt v_kind e_v_kind v_open e_v_open v_size e_v_size v_stop e_v_stop v_code e_v_code rr y_v_at y_v_fault y_v_faultAt y_v_kind y_v_open y_v_size y_v_stop y_v_code h
      exact c_X7_readSum_G N d9 (pG_readPart_readProduct_readSum_readTwo N v_length v_tape d9) oI33 eoI33 v_length e_v_length v_tape e_v_tape v_at e_v_at v_fault e_v_fault v_faultAt e_v_faultAt v_kind e_v_kind v_open e_v_open v_size e_v_size v_stop e_v_stop v_code e_v_code ih h
    · intro l X I J Rr D oI33 eoI33 e_v_length e_v_tape v_at e_v_at v_fault e_v_fault v_faultAt e_v_faultAt v_kind e_v_kind v_open e_v_open v_size e_v_size v_stop e_v_stop v_code e_v_code rr y_v_at y_v_fault y_v_faultAt y_v_kind y_v_open y_v_size y_v_stop y_v_code h
      exact c_X7_readTwo_G N d9 (pG_readPart_readProduct_readSum_readTwo N v_length v_tape d9) oI33 eoI33 v_length e_v_length v_tape e_v_tape v_at e_v_at v_fault e_v_fault v_faultAt e_v_faultAt v_kind e_v_kind v_open e_v_open v_size e_v_size v_stop e_v_stop v_code e_v_code ih h
theorem c_X7_readPart {N : Nat} {l : Launch} {X : zX} {I : Nat → Nat → Int32} {J : Nat → Nat → Int64} {Rr : Nat → Nat → Option Nat} {D : zD} (oI33 : Nat → Int32) (eoI33 : I 33 = oI33) (v_length : Int32) (e_v_length : I 33 3 = v_length) (v_tape : (Nat → Int32)) (e_v_tape : I 34 = v_tape) (v_at : Int32) (e_v_at : I 33 7 = v_at) (v_fault : Int32) (e_v_fault : I 33 10 = v_fault) (v_faultAt : Int32) (e_v_faultAt : I 33 11 = v_faultAt) (v_kind : Int32) (e_v_kind : I 33 6 = v_kind) (v_open : Int32) (e_v_open : I 33 9 = v_open) (v_size : Int32) (e_v_size : I 33 4 = v_size) (v_stop : Int32) (e_v_stop : I 33 8 = v_stop) (v_code : (Nat → Int32)) (e_v_code : I 35 = v_code) {rr : Int32} {y_v_at : Int32} {y_v_fault : Int32} {y_v_faultAt : Int32} {y_v_kind : Int32} {y_v_open : Int32} {y_v_size : Int32} {y_v_stop : Int32} {y_v_code : (Nat → Int32)} (h : pReader_readPart N v_at v_fault v_faultAt v_kind v_length v_open v_size v_stop v_code v_tape = some (rr, y_v_at, y_v_fault, y_v_faultAt, y_v_kind, y_v_open, y_v_size, y_v_stop, y_v_code)) : zMi l yX7_readPart cX7_readPart 3 (some .boolean) ({ frames := 334, cells := 0, slots := 0, locals := 8327 } : Room) X [.ref (X.1 + 33)] (I, J, Rr, D) rr ((va_up (va_up I 33 (va_up (va_up (va_up (va_up (va_up (va_up (va_up oI33 4 y_v_size) 6 y_v_kind) 7 y_v_at) 8 y_v_stop) 9 y_v_open) 10 y_v_fault) 11 y_v_faultAt)) 35 y_v_code), J, Rr, D) := (pG_readPart_readProduct_readSum_readTwo_all N v_length v_tape 40).1 oI33 eoI33 e_v_length e_v_tape v_at e_v_at v_fault e_v_fault v_faultAt e_v_faultAt v_kind e_v_kind v_open e_v_open v_size e_v_size v_stop e_v_stop v_code e_v_code h
theorem c_X7_readProduct {N : Nat} {l : Launch} {X : zX} {I : Nat → Nat → Int32} {J : Nat → Nat → Int64} {Rr : Nat → Nat → Option Nat} {D : zD} (oI33 : Nat → Int32) (eoI33 : I 33 = oI33) (v_length : Int32) (e_v_length : I 33 3 = v_length) (v_tape : (Nat → Int32)) (e_v_tape : I 34 = v_tape) (v_at : Int32) (e_v_at : I 33 7 = v_at) (v_fault : Int32) (e_v_fault : I 33 10 = v_fault) (v_faultAt : Int32) (e_v_faultAt : I 33 11 = v_faultAt) (v_kind : Int32) (e_v_kind : I 33 6 = v_kind) (v_open : Int32) (e_v_open : I 33 9 = v_open) (v_size : Int32) (e_v_size : I 33 4 = v_size) (v_stop : Int32) (e_v_stop : I 33 8 = v_stop) (v_code : (Nat → Int32)) (e_v_code : I 35 = v_code) {rr : Int32} {y_v_at : Int32} {y_v_fault : Int32} {y_v_faultAt : Int32} {y_v_kind : Int32} {y_v_open : Int32} {y_v_size : Int32} {y_v_stop : Int32} {y_v_code : (Nat → Int32)} (h : pReader_readProduct N v_at v_fault v_faultAt v_kind v_length v_open v_size v_stop v_code v_tape = some (rr, y_v_at, y_v_fault, y_v_faultAt, y_v_kind, y_v_open, y_v_size, y_v_stop, y_v_code)) : zMi l yX7_readProduct cX7_readProduct 4 (some .boolean) ({ frames := 334, cells := 0, slots := 0, locals := 8327 } : Room) X [.ref (X.1 + 33)] (I, J, Rr, D) rr ((va_up (va_up I 33 (va_up (va_up (va_up (va_up (va_up (va_up (va_up oI33 4 y_v_size) 6 y_v_kind) 7 y_v_at) 8 y_v_stop) 9 y_v_open) 10 y_v_fault) 11 y_v_faultAt)) 35 y_v_code), J, Rr, D) := (pG_readPart_readProduct_readSum_readTwo_all N v_length v_tape 40).2.1 oI33 eoI33 e_v_length e_v_tape v_at e_v_at v_fault e_v_fault v_faultAt e_v_faultAt v_kind e_v_kind v_open e_v_open v_size e_v_size v_stop e_v_stop v_code e_v_code h
theorem c_X7_readSum {N : Nat} {l : Launch} {X : zX} {I : Nat → Nat → Int32} {J : Nat → Nat → Int64} {Rr : Nat → Nat → Option Nat} {D : zD} (oI33 : Nat → Int32) (eoI33 : I 33 = oI33) (v_length : Int32) (e_v_length : I 33 3 = v_length) (v_tape : (Nat → Int32)) (e_v_tape : I 34 = v_tape) (v_at : Int32) (e_v_at : I 33 7 = v_at) (v_fault : Int32) (e_v_fault : I 33 10 = v_fault) (v_faultAt : Int32) (e_v_faultAt : I 33 11 = v_faultAt) (v_kind : Int32) (e_v_kind : I 33 6 = v_kind) (v_open : Int32) (e_v_open : I 33 9 = v_open) (v_size : Int32) (e_v_size : I 33 4 = v_size) (v_stop : Int32) (e_v_stop : I 33 8 = v_stop) (v_code : (Nat → Int32)) (e_v_code : I 35 = v_code) {rr : Int32} {y_v_at : Int32} {y_v_fault : Int32} {y_v_faultAt : Int32} {y_v_kind : Int32} {y_v_open : Int32} {y_v_size : Int32} {y_v_stop : Int32} {y_v_code : (Nat → Int32)} (h : pReader_readSum N v_at v_fault v_faultAt v_kind v_length v_open v_size v_stop v_code v_tape = some (rr, y_v_at, y_v_fault, y_v_faultAt, y_v_kind, y_v_open, y_v_size, y_v_stop, y_v_code)) : zMi l yX7_readSum cX7_readSum 4 (some .boolean) ({ frames := 334, cells := 0, slots := 0, locals := 8327 } : Room) X [.ref (X.1 + 33)] (I, J, Rr, D) rr ((va_up (va_up I 33 (va_up (va_up (va_up (va_up (va_up (va_up (va_up oI33 4 y_v_size) 6 y_v_kind) 7 y_v_at) 8 y_v_stop) 9 y_v_open) 10 y_v_fault) 11 y_v_faultAt)) 35 y_v_code), J, Rr, D) := (pG_readPart_readProduct_readSum_readTwo_all N v_length v_tape 40).2.2.1 oI33 eoI33 e_v_length e_v_tape v_at e_v_at v_fault e_v_fault v_faultAt e_v_faultAt v_kind e_v_kind v_open e_v_open v_size e_v_size v_stop e_v_stop v_code e_v_code h
theorem c_X7_readTwo {N : Nat} {l : Launch} {X : zX} {I : Nat → Nat → Int32} {J : Nat → Nat → Int64} {Rr : Nat → Nat → Option Nat} {D : zD} (oI33 : Nat → Int32) (eoI33 : I 33 = oI33) (v_length : Int32) (e_v_length : I 33 3 = v_length) (v_tape : (Nat → Int32)) (e_v_tape : I 34 = v_tape) (v_at : Int32) (e_v_at : I 33 7 = v_at) (v_fault : Int32) (e_v_fault : I 33 10 = v_fault) (v_faultAt : Int32) (e_v_faultAt : I 33 11 = v_faultAt) (v_kind : Int32) (e_v_kind : I 33 6 = v_kind) (v_open : Int32) (e_v_open : I 33 9 = v_open) (v_size : Int32) (e_v_size : I 33 4 = v_size) (v_stop : Int32) (e_v_stop : I 33 8 = v_stop) (v_code : (Nat → Int32)) (e_v_code : I 35 = v_code) {rr : Int32} {y_v_at : Int32} {y_v_fault : Int32} {y_v_faultAt : Int32} {y_v_kind : Int32} {y_v_open : Int32} {y_v_size : Int32} {y_v_stop : Int32} {y_v_code : (Nat → Int32)} (h : pReader_readTwo N v_at v_fault v_faultAt v_kind v_length v_open v_size v_stop v_code v_tape = some (rr, y_v_at, y_v_fault, y_v_faultAt, y_v_kind, y_v_open, y_v_size, y_v_stop, y_v_code)) : zMi l yX7_readTwo cX7_readTwo 2 (some .boolean) ({ frames := 334, cells := 0, slots := 0, locals := 8327 } : Room) X [.ref (X.1 + 33)] (I, J, Rr, D) rr ((va_up (va_up I 33 (va_up (va_up (va_up (va_up (va_up (va_up (va_up oI33 4 y_v_size) 6 y_v_kind) 7 y_v_at) 8 y_v_stop) 9 y_v_open) 10 y_v_fault) 11 y_v_faultAt)) 35 y_v_code), J, Rr, D) := (pG_readPart_readProduct_readSum_readTwo_all N v_length v_tape 40).2.2.2 oI33 eoI33 e_v_length e_v_tape v_at e_v_at v_fault e_v_fault v_faultAt e_v_faultAt v_kind e_v_kind v_open e_v_open v_size e_v_size v_stop e_v_stop v_code e_v_code h
-- ChequeredCloth$Reader.needWord
theorem dX7_needWord_0 : decode cX7_needWord 0 = .ok (.aload_n 0, 1) := by decide +kernel
theorem dX7_needWord_1 : decode cX7_needWord 1 = .ok (.aload_n 1, 1) := by decide +kernel
theorem dX7_needWord_2 : decode cX7_needWord 2 = .ok (.invokevirtual 101, 3) := by decide +kernel
theorem dX7_needWord_5 : decode cX7_needWord 5 = .ok (.ifCond .ne 15, 3) := by decide +kernel
theorem dX7_needWord_8 : decode cX7_needWord 8 = .ok (.aload_n 0, 1) := by decide +kernel
theorem dX7_needWord_9 : decode cX7_needWord 9 = .ok (.iconst 1, 1) := by decide +kernel
theorem dX7_needWord_10 : decode cX7_needWord 10 = .ok (.aload_n 0, 1) := by decide +kernel
theorem dX7_needWord_11 : decode cX7_needWord 11 = .ok (.getfield 57, 3) := by decide +kernel
theorem dX7_needWord_14 : decode cX7_needWord 14 = .ok (.invokevirtual 60, 3) := by decide +kernel
theorem dX7_needWord_17 : decode cX7_needWord 17 = .ok (.ifCond .eq 7, 3) := by decide +kernel
theorem dX7_needWord_20 : decode cX7_needWord 20 = .ok (.iconst 1, 1) := by decide +kernel
theorem dX7_needWord_21 : decode cX7_needWord 21 = .ok (.goto 4, 3) := by decide +kernel
theorem dX7_needWord_24 : decode cX7_needWord 24 = .ok (.iconst 0, 1) := by decide +kernel
theorem dX7_needWord_25 : decode cX7_needWord 25 = .ok (.ireturn, 1) := by decide +kernel
theorem zy_X7_needWord : zYv yX7_needWord cX7_needWord 2 (some .boolean) 1 := ⟨zw_803, zws_27, zw_6, zw_804, by decide, by decide, by decide⟩
theorem c_X7_needWord_0 {C : zC} {I : Nat → Nat → Int32} {J : Nat → Nat → Int64} {Rr : Nat → Nat → Option Nat} {D : zD} (N : Nat) (a1 : Nat) (ha1 : a1 < 21) (v_length : Int32) (e_v_length : I 33 3 = v_length) (v_tape : (Nat → Int32)) (e_v_tape : I 34 = v_tape) (rr : Int32) (y_v_at : Int32) (y_v_fault : Int32) (y_v_faultAt : Int32) (y_v_kind : Int32) (y_v_stop : Int32) (E : zE C RX7 cX7_needWord 2 (some .boolean) ({ frames := 5, cells := 0, slots := 0, locals := 107 } : Room)) (hQ : C.Q = zQi C ({ frames := 5, cells := 0, slots := 0, locals := 107 } : Room) rr ((va_up I 33 (va_up (va_up (va_up (va_up (va_up (I 33) 6 y_v_kind) 7 y_v_at) 8 y_v_stop) 10 y_v_fault) 11 y_v_faultAt)), J, Rr, D)) (v_at : Int32) (v_fault : Int32) (v_faultAt : Int32) (v_kind : Int32) (v_stop : Int32) (h : pReader_needWord N a1 v_at v_fault v_faultAt v_kind v_length v_stop v_tape = some (rr, y_v_at, y_v_fault, y_v_faultAt, y_v_kind, y_v_stop)) : zB C (0, 0) 0 [(0, .ref (C.X.1 + 33)), (1, .ref (C.X.2.2.2.2.1 a1))] [] ((va_up I 33 (va_up (va_up (va_up (va_up (va_up (I 33) 6 v_kind) 7 v_at) 8 v_stop) 10 v_fault) 11 v_faultAt)), J, Rr, D) := by
  refine zb_aload_n E dX7_needWord_0 0 rfl rfl ?_
  refine zb_aload_n E dX7_needWord_1 1 rfl rfl ?_
  obtain ⟨rc1, v_at_c1, v_kind_c1, v_stop_c1, hc_2, h⟩ := bd4_s h
  refine zb_cVi E [.ref (C.X.2.2.2.2.1 a1)] 33 zy_X7_takeWord zw_687 (by decide) (zF_33 _ _ _ _) rfl (c_X7_takeWord ha1 (va_up (va_up (va_up (va_up (va_up (I 33) 6 v_kind) 7 v_at) 8 v_stop) 10 v_fault) 11 v_faultAt) rfl v_length (by exact e_v_length) v_tape (by exact e_v_tape) v_at rfl v_kind rfl v_stop rfl hc_2) (by decide) rfl rfl (by first | decide | simp [Value.category]) dX7_needWord_2 (cs2 := (0, 0)) rfl ?_
  refine zb_S (S2 := ((va_up I 33 (va_up (va_up (va_up (va_up (va_up (I 33) 6 v_kind_c1) 7 v_at_c1) 8 v_stop_c1) 10 v_fault) 11 v_faultAt)), J, Rr, D)) (zS_eq ((zcgV ((zcgF ((zcgF (zn5 (by decide : (11 : Nat) ≠ 6) (by decide : (10 : Nat) ≠ 6) (by decide : (8 : Nat) ≠ 6) (by decide : (7 : Nat) ≠ 6))).trans (zn4 (by decide : (11 : Nat) ≠ 7) (by decide : (10 : Nat) ≠ 7) (by decide : (8 : Nat) ≠ 7)))).trans (zn3 (by decide : (11 : Nat) ≠ 8) (by decide : (10 : Nat) ≠ 8)))).trans zn1) rfl) ?_
  refine zb_if_ne E dX7_needWord_5 (tgt := 20) rfl (fun hc => ?_) (fun hc => ?_)
  · have h := if_f h hc
    refine zb_iconst E dX7_needWord_20 (v := 1) rfl ?_
    refine zb_goto E dX7_needWord_21 (tgt := 25) rfl ?_
    obtain ⟨rfl, rfl, rfl, rfl, rfl, rfl⟩ := zinj6 h
    exact zb_zret E hQ (ty := .boolean) rfl rfl ⟨Nat.zero_le _, Nat.zero_le _⟩ dX7_needWord_25
  · have h := if_t h hc
    refine zb_aload_n E dX7_needWord_8 0 rfl rfl ?_
    refine zb_iconst E dX7_needWord_9 (v := 1) rfl ?_
    refine zb_aload_n E dX7_needWord_10 0 rfl rfl ?_
    refine zb_get E 33 (by decide) (zF_33 C.X) rfl zin7 7 (by decide) zw_145 (v := .int v_at_c1) rfl dX7_needWord_11 ?_
    obtain ⟨rc2, v_fault_c2, v_faultAt_c2, hc_14, h⟩ := bd3_s h
    refine zb_cVi E [.int 1, .int v_at_c1] 33 zy_X7_fail zw_756 (by decide) (zF_33 _ _ _ _) rfl (c_X7_fail (va_up (va_up (va_up (va_up (va_up (I 33) 6 v_kind_c1) 7 v_at_c1) 8 v_stop_c1) 10 v_fault) 11 v_faultAt) rfl v_fault rfl v_faultAt rfl hc_14) (by decide) rfl rfl (by first | decide | simp [Value.category]) dX7_needWord_14 (cs2 := (0, 0)) rfl ?_
    refine zb_S (S2 := ((va_up I 33 (va_up (va_up (va_up (va_up (va_up (I 33) 6 v_kind_c1) 7 v_at_c1) 8 v_stop_c1) 10 v_fault_c2) 11 v_faultAt_c2)), J, Rr, D)) (zS_eq ((zcgV ((zcgF (zn2 (by decide : (11 : Nat) ≠ 10))).trans zn1)).trans zn1) rfl) ?_
    refine zb_if_eq E dX7_needWord_17 (tgt := 24) rfl (fun hc => ?_) (fun hc => ?_)
    · have h := if_t h hc
      refine zb_iconst E dX7_needWord_24 (v := 0) rfl ?_
      obtain ⟨rfl, rfl, rfl, rfl, rfl, rfl⟩ := zinj6 h
      exact zb_zret E hQ (ty := .boolean) rfl rfl ⟨Nat.zero_le _, Nat.zero_le _⟩ dX7_needWord_25
    · have h := if_f h hc
      refine zb_iconst E dX7_needWord_20 (v := 1) rfl ?_
      refine zb_goto E dX7_needWord_21 (tgt := 25) rfl ?_
      obtain ⟨rfl, rfl, rfl, rfl, rfl, rfl⟩ := zinj6 h
      exact zb_zret E hQ (ty := .boolean) rfl rfl ⟨Nat.zero_le _, Nat.zero_le _⟩ dX7_needWord_25
theorem c_X7_needWord {l : Launch} {X : zX} {I : Nat → Nat → Int32} {J : Nat → Nat → Int64} {Rr : Nat → Nat → Option Nat} {D : zD} {N : Nat} {a1 : Nat} (ha1 : a1 < 21) (oI33 : Nat → Int32) (eoI33 : I 33 = oI33) (v_length : Int32) (e_v_length : I 33 3 = v_length) (v_tape : (Nat → Int32)) (e_v_tape : I 34 = v_tape) (v_at : Int32) (e_v_at : I 33 7 = v_at) (v_fault : Int32) (e_v_fault : I 33 10 = v_fault) (v_faultAt : Int32) (e_v_faultAt : I 33 11 = v_faultAt) (v_kind : Int32) (e_v_kind : I 33 6 = v_kind) (v_stop : Int32) (e_v_stop : I 33 8 = v_stop) {rr : Int32} {y_v_at : Int32} {y_v_fault : Int32} {y_v_faultAt : Int32} {y_v_kind : Int32} {y_v_stop : Int32} (h : pReader_needWord N a1 v_at v_fault v_faultAt v_kind v_length v_stop v_tape = some (rr, y_v_at, y_v_fault, y_v_faultAt, y_v_kind, y_v_stop)) : zMi l yX7_needWord cX7_needWord 2 (some .boolean) ({ frames := 5, cells := 0, slots := 0, locals := 107 } : Room) X [.ref (X.1 + 33), .ref (X.2.2.2.2.1 a1)] (I, J, Rr, D) rr ((va_up I 33 (va_up (va_up (va_up (va_up (va_up oI33 6 y_v_kind) 7 y_v_at) 8 y_v_stop) 10 y_v_fault) 11 y_v_faultAt)), J, Rr, D) := by
  subst eoI33
  refine zMi.of (by decide) (Nat.le_of_ble_eq_true rfl) (fun C E hl hX hQ => ?_)
  subst hl
  subst hX
  have eI0 : (va_up I 33 (va_up (va_up (va_up (va_up (va_up (I 33) 6 v_kind) 7 v_at) 8 v_stop) 10 v_fault) 11 v_faultAt)) = I := by rw [zup_idE e_v_kind, zup_idE e_v_at, zup_idE e_v_stop, zup_idE e_v_fault, zup_idE e_v_faultAt, zup_id]
  have eJ0 : J = J := rfl
  refine zb_S (S2 := ((va_up I 33 (va_up (va_up (va_up (va_up (va_up (I 33) 6 v_kind) 7 v_at) 8 v_stop) 10 v_fault) 11 v_faultAt)), J, Rr, D)) (zS_eq eI0.symm eJ0.symm) ?_
  exact c_X7_needWord_0 N a1 ha1 v_length e_v_length v_tape e_v_tape rr y_v_at y_v_fault y_v_faultAt y_v_kind y_v_stop E hQ v_at v_fault v_faultAt v_kind v_stop h
-- ChequeredCloth$Reader.readDuty
theorem dX7_readDuty_0 : decode cX7_readDuty 0 = .ok (.aload_n 0, 1) := by decide +kernel
theorem dX7_readDuty_1 : decode cX7_readDuty 1 = .ok (.ldc 99, 2) := by decide +kernel
theorem dX7_readDuty_3 : decode cX7_readDuty 3 = .ok (.invokevirtual 101, 3) := by decide +kernel
theorem dX7_readDuty_6 : decode cX7_readDuty 6 = .ok (.ifCond .eq 37, 3) := by decide +kernel
theorem dX7_readDuty_9 : decode cX7_readDuty 9 = .ok (.aload_n 1, 1) := by decide +kernel
theorem dX7_readDuty_10 : decode cX7_readDuty 10 = .ok (.iconst 1, 1) := by decide +kernel
theorem dX7_readDuty_11 : decode cX7_readDuty 11 = .ok (.putfield 104, 3) := by decide +kernel
theorem dX7_readDuty_14 : decode cX7_readDuty 14 = .ok (.aload_n 0, 1) := by decide +kernel
theorem dX7_readDuty_15 : decode cX7_readDuty 15 = .ok (.invokevirtual 105, 3) := by decide +kernel
theorem dX7_readDuty_18 : decode cX7_readDuty 18 = .ok (.istore_n 2, 1) := by decide +kernel
theorem dX7_readDuty_19 : decode cX7_readDuty 19 = .ok (.aload_n 1, 1) := by decide +kernel
theorem dX7_readDuty_20 : decode cX7_readDuty 20 = .ok (.iload_n 2, 1) := by decide +kernel
theorem dX7_readDuty_21 : decode cX7_readDuty 21 = .ok (.ifCond .eq 16, 3) := by decide +kernel
theorem dX7_readDuty_24 : decode cX7_readDuty 24 = .ok (.aload_n 0, 1) := by decide +kernel
theorem dX7_readDuty_25 : decode cX7_readDuty 25 = .ok (.ldc 108, 2) := by decide +kernel
theorem dX7_readDuty_27 : decode cX7_readDuty 27 = .ok (.invokevirtual 101, 3) := by decide +kernel
theorem dX7_readDuty_30 : decode cX7_readDuty 30 = .ok (.ifCond .eq 7, 3) := by decide +kernel
theorem dX7_readDuty_33 : decode cX7_readDuty 33 = .ok (.iconst 1, 1) := by decide +kernel
theorem dX7_readDuty_34 : decode cX7_readDuty 34 = .ok (.goto 4, 3) := by decide +kernel
theorem dX7_readDuty_37 : decode cX7_readDuty 37 = .ok (.iconst 0, 1) := by decide +kernel
theorem dX7_readDuty_38 : decode cX7_readDuty 38 = .ok (.putfield 110, 3) := by decide +kernel
theorem dX7_readDuty_41 : decode cX7_readDuty 41 = .ok (.iload_n 2, 1) := by decide +kernel
theorem dX7_readDuty_42 : decode cX7_readDuty 42 = .ok (.ireturn, 1) := by decide +kernel
theorem dX7_readDuty_43 : decode cX7_readDuty 43 = .ok (.aload_n 0, 1) := by decide +kernel
theorem dX7_readDuty_44 : decode cX7_readDuty 44 = .ok (.ldc 113, 2) := by decide +kernel
theorem dX7_readDuty_46 : decode cX7_readDuty 46 = .ok (.invokevirtual 101, 3) := by decide +kernel
theorem dX7_readDuty_49 : decode cX7_readDuty 49 = .ok (.ifCond .eq 13, 3) := by decide +kernel
theorem dX7_readDuty_52 : decode cX7_readDuty 52 = .ok (.aload_n 1, 1) := by decide +kernel
theorem dX7_readDuty_53 : decode cX7_readDuty 53 = .ok (.iconst 2, 1) := by decide +kernel
theorem dX7_readDuty_54 : decode cX7_readDuty 54 = .ok (.putfield 104, 3) := by decide +kernel
theorem dX7_readDuty_57 : decode cX7_readDuty 57 = .ok (.aload_n 0, 1) := by decide +kernel
theorem dX7_readDuty_58 : decode cX7_readDuty 58 = .ok (.invokevirtual 105, 3) := by decide +kernel
theorem dX7_readDuty_61 : decode cX7_readDuty 61 = .ok (.ireturn, 1) := by decide +kernel
theorem dX7_readDuty_62 : decode cX7_readDuty 62 = .ok (.aload_n 0, 1) := by decide +kernel
theorem dX7_readDuty_63 : decode cX7_readDuty 63 = .ok (.ldc 115, 2) := by decide +kernel
theorem dX7_readDuty_65 : decode cX7_readDuty 65 = .ok (.invokevirtual 101, 3) := by decide +kernel
theorem dX7_readDuty_68 : decode cX7_readDuty 68 = .ok (.ifCond .eq 80, 3) := by decide +kernel
theorem dX7_readDuty_71 : decode cX7_readDuty 71 = .ok (.aload_n 1, 1) := by decide +kernel
theorem dX7_readDuty_72 : decode cX7_readDuty 72 = .ok (.iconst 3, 1) := by decide +kernel
theorem dX7_readDuty_73 : decode cX7_readDuty 73 = .ok (.putfield 104, 3) := by decide +kernel
theorem dX7_readDuty_76 : decode cX7_readDuty 76 = .ok (.aload_n 1, 1) := by decide +kernel
theorem dX7_readDuty_77 : decode cX7_readDuty 77 = .ok (.aload_n 0, 1) := by decide +kernel
theorem dX7_readDuty_78 : decode cX7_readDuty 78 = .ok (.iconst 1, 1) := by decide +kernel
theorem dX7_readDuty_79 : decode cX7_readDuty 79 = .ok (.sipush 999, 3) := by decide +kernel
theorem dX7_readDuty_82 : decode cX7_readDuty 82 = .ok (.invokevirtual 117, 3) := by decide +kernel
theorem dX7_readDuty_85 : decode cX7_readDuty 85 = .ok (.putfield 121, 3) := by decide +kernel
theorem dX7_readDuty_88 : decode cX7_readDuty 88 = .ok (.aload_n 1, 1) := by decide +kernel
theorem dX7_readDuty_89 : decode cX7_readDuty 89 = .ok (.getfield 121, 3) := by decide +kernel
theorem dX7_readDuty_92 : decode cX7_readDuty 92 = .ok (.iconst (-1), 1) := by decide +kernel
theorem dX7_readDuty_93 : decode cX7_readDuty 93 = .ok (.if_icmp .eq 16, 3) := by decide +kernel
theorem dX7_readDuty_96 : decode cX7_readDuty 96 = .ok (.aload_n 0, 1) := by decide +kernel
theorem dX7_readDuty_97 : decode cX7_readDuty 97 = .ok (.ldc 124, 2) := by decide +kernel
theorem dX7_readDuty_99 : decode cX7_readDuty 99 = .ok (.invokevirtual 85, 3) := by decide +kernel
theorem dX7_readDuty_102 : decode cX7_readDuty 102 = .ok (.ifCond .eq 7, 3) := by decide +kernel
theorem dX7_readDuty_105 : decode cX7_readDuty 105 = .ok (.iconst 1, 1) := by decide +kernel
theorem dX7_readDuty_106 : decode cX7_readDuty 106 = .ok (.goto 4, 3) := by decide +kernel
theorem dX7_readDuty_109 : decode cX7_readDuty 109 = .ok (.iconst 0, 1) := by decide +kernel
theorem dX7_readDuty_110 : decode cX7_readDuty 110 = .ok (.istore_n 2, 1) := by decide +kernel
theorem dX7_readDuty_111 : decode cX7_readDuty 111 = .ok (.aload_n 1, 1) := by decide +kernel
theorem dX7_readDuty_112 : decode cX7_readDuty 112 = .ok (.iload_n 2, 1) := by decide +kernel
theorem dX7_readDuty_113 : decode cX7_readDuty 113 = .ok (.ifCond .eq 17, 3) := by decide +kernel
theorem dX7_readDuty_116 : decode cX7_readDuty 116 = .ok (.aload_n 0, 1) := by decide +kernel
theorem dX7_readDuty_117 : decode cX7_readDuty 117 = .ok (.aload_n 1, 1) := by decide +kernel
theorem dX7_readDuty_118 : decode cX7_readDuty 118 = .ok (.getfield 121, 3) := by decide +kernel
theorem dX7_readDuty_121 : decode cX7_readDuty 121 = .ok (.sipush 999, 3) := by decide +kernel
theorem dX7_readDuty_124 : decode cX7_readDuty 124 = .ok (.invokevirtual 117, 3) := by decide +kernel
theorem dX7_readDuty_127 : decode cX7_readDuty 127 = .ok (.goto 4, 3) := by decide +kernel
theorem dX7_readDuty_130 : decode cX7_readDuty 130 = .ok (.iconst (-1), 1) := by decide +kernel
theorem dX7_readDuty_131 : decode cX7_readDuty 131 = .ok (.putfield 126, 3) := by decide +kernel
theorem dX7_readDuty_134 : decode cX7_readDuty 134 = .ok (.aload_n 1, 1) := by decide +kernel
theorem dX7_readDuty_135 : decode cX7_readDuty 135 = .ok (.getfield 126, 3) := by decide +kernel
theorem dX7_readDuty_138 : decode cX7_readDuty 138 = .ok (.iconst (-1), 1) := by decide +kernel
theorem dX7_readDuty_139 : decode cX7_readDuty 139 = .ok (.if_icmp .eq 7, 3) := by decide +kernel
theorem dX7_readDuty_142 : decode cX7_readDuty 142 = .ok (.iconst 1, 1) := by decide +kernel
theorem dX7_readDuty_143 : decode cX7_readDuty 143 = .ok (.goto 4, 3) := by decide +kernel
theorem dX7_readDuty_146 : decode cX7_readDuty 146 = .ok (.iconst 0, 1) := by decide +kernel
theorem dX7_readDuty_147 : decode cX7_readDuty 147 = .ok (.ireturn, 1) := by decide +kernel
theorem dX7_readDuty_148 : decode cX7_readDuty 148 = .ok (.aload_n 0, 1) := by decide +kernel
theorem dX7_readDuty_149 : decode cX7_readDuty 149 = .ok (.ldc 129, 2) := by decide +kernel
theorem dX7_readDuty_151 : decode cX7_readDuty 151 = .ok (.invokevirtual 101, 3) := by decide +kernel
theorem dX7_readDuty_154 : decode cX7_readDuty 154 = .ok (.ifCond .eq 33, 3) := by decide +kernel
theorem dX7_readDuty_157 : decode cX7_readDuty 157 = .ok (.aload_n 1, 1) := by decide +kernel
theorem dX7_readDuty_158 : decode cX7_readDuty 158 = .ok (.iconst 4, 1) := by decide +kernel
theorem dX7_readDuty_159 : decode cX7_readDuty 159 = .ok (.putfield 104, 3) := by decide +kernel
theorem dX7_readDuty_162 : decode cX7_readDuty 162 = .ok (.aload_n 1, 1) := by decide +kernel
theorem dX7_readDuty_163 : decode cX7_readDuty 163 = .ok (.aload_n 0, 1) := by decide +kernel
theorem dX7_readDuty_164 : decode cX7_readDuty 164 = .ok (.iconst 2, 1) := by decide +kernel
theorem dX7_readDuty_165 : decode cX7_readDuty 165 = .ok (.bipush 20, 2) := by decide +kernel
theorem dX7_readDuty_167 : decode cX7_readDuty 167 = .ok (.invokevirtual 117, 3) := by decide +kernel
theorem dX7_readDuty_170 : decode cX7_readDuty 170 = .ok (.putfield 121, 3) := by decide +kernel
theorem dX7_readDuty_173 : decode cX7_readDuty 173 = .ok (.aload_n 1, 1) := by decide +kernel
theorem dX7_readDuty_174 : decode cX7_readDuty 174 = .ok (.getfield 121, 3) := by decide +kernel
theorem dX7_readDuty_177 : decode cX7_readDuty 177 = .ok (.iconst (-1), 1) := by decide +kernel
theorem dX7_readDuty_178 : decode cX7_readDuty 178 = .ok (.if_icmp .eq 7, 3) := by decide +kernel
theorem dX7_readDuty_181 : decode cX7_readDuty 181 = .ok (.iconst 1, 1) := by decide +kernel
theorem dX7_readDuty_182 : decode cX7_readDuty 182 = .ok (.goto 4, 3) := by decide +kernel
theorem dX7_readDuty_185 : decode cX7_readDuty 185 = .ok (.iconst 0, 1) := by decide +kernel
theorem dX7_readDuty_186 : decode cX7_readDuty 186 = .ok (.ireturn, 1) := by decide +kernel
theorem dX7_readDuty_187 : decode cX7_readDuty 187 = .ok (.aload_n 0, 1) := by decide +kernel
theorem dX7_readDuty_188 : decode cX7_readDuty 188 = .ok (.iconst 1, 1) := by decide +kernel
theorem dX7_readDuty_189 : decode cX7_readDuty 189 = .ok (.aload_n 0, 1) := by decide +kernel
theorem dX7_readDuty_190 : decode cX7_readDuty 190 = .ok (.getfield 57, 3) := by decide +kernel
theorem dX7_readDuty_193 : decode cX7_readDuty 193 = .ok (.invokevirtual 60, 3) := by decide +kernel
theorem dX7_readDuty_196 : decode cX7_readDuty 196 = .ok (.ireturn, 1) := by decide +kernel
theorem zy_X7_readDuty : zYv yX7_readDuty cX7_readDuty 3 (some .boolean) 1 := ⟨zw_684, zws_13, zw_6, zw_685, by decide, by decide, by decide⟩
theorem c_X7_readDuty_b131 {C : zC} {I : Nat → Nat → Int32} {J : Nat → Nat → Int64} {Rr : Nat → Nat → Option Nat}  (N : Nat) (a1 : (Option Nat)) (v_length : Int32) (e_v_length : I 33 3 = v_length) (v_tape : (Nat → Int32)) (e_v_tape : I 34 = v_tape) (rr : Int32) (y_v_D : Dyn) (y_v_at : Int32) (y_v_fault : Int32) (y_v_faultAt : Int32) (y_v_kind : Int32) (y_v_open : Int32) (y_v_size : Int32) (y_v_stop : Int32) (y_v_code : (Nat → Int32)) (E : zE C RX7 cX7_readDuty 3 (some .boolean) ({ frames := 335, cells := 0, slots := 0, locals := 8350 } : Room)) (hQ : C.Q = zQi C ({ frames := 335, cells := 0, slots := 0, locals := 8350 } : Room) rr ((va_up (va_up I 33 (va_up (va_up (va_up (va_up (va_up (va_up (va_up (I 33) 4 y_v_size) 6 y_v_kind) 7 y_v_at) 8 y_v_stop) 9 y_v_open) 10 y_v_fault) 11 y_v_faultAt)) 35 y_v_code), J, Rr, y_v_D)) (s0 : (Option Nat)) (s1 : Int32) (v_D : Dyn) (v_at : Int32) (v_fault : Int32) (v_faultAt : Int32) (v_kind : Int32) (v_open : Int32) (v_size : Int32) (v_stop : Int32) (v_code : (Nat → Int32)) (h : pReader_readDuty_b131 N a1 v_length v_tape s0 s1 v_D v_at v_fault v_faultAt v_kind v_open v_size v_stop v_code = some (rr, y_v_D, y_v_at, y_v_fault, y_v_faultAt, y_v_kind, y_v_open, y_v_size, y_v_stop, y_v_code)) : zB C (0, 0) 131 [(1, va_rf (zq C.X a1))] [.int s1, va_rf (zq C.X s0)] ((va_up (va_up I 33 (va_up (va_up (va_up (va_up (va_up (va_up (va_up (I 33) 4 v_size) 6 v_kind) 7 v_at) 8 v_stop) 9 v_open) 10 v_fault) 11 v_faultAt)) 35 v_code), J, Rr, v_D) := by
  obtain ⟨y29, hq_y29, h⟩ := bd1_s h
  refine zb_LS (lv2 := [(1, va_rf (zq C.X a1))]) (st2 := [.int s1, .ref (C.X.1 + 182 + y29)]) (by first | rfl | (rw [hq_y29]; rfl)) (by first | rfl | (rw [hq_y29]; rfl)) ?_
  obtain ⟨v_D30, hb_v_D30, h⟩ := bd1_s h
  obtain ⟨hy_v_D30, hz_v_D30, hf_v_D30, ho_v_D30, hn_v_D30⟩ := dPI_f (X := C.X) hb_v_D30 (by decide)
  refine zb_dputN E y29 hy_v_D30 hz_v_D30 rfl zin9 3 (by decide) znw_24 tyX9 tyX9_ok nmX9 rfl rfl rfl (D2 := v_D30) hf_v_D30 (zSt_lt (by decide)) ho_v_D30 hn_v_D30 dX7_readDuty_131 ?_
  refine zb_aload_nQ E dX7_readDuty_134 0 rfl rfl ?_
  obtain ⟨y31, hq_y31, h⟩ := bd1_s h
  refine zb_LS (lv2 := [(1, .ref (C.X.1 + 182 + y31))]) (st2 := [.ref (C.X.1 + 182 + y31)]) (by first | rfl | (rw [hq_y31]; rfl)) (by first | rfl | (rw [hq_y31]; rfl)) ?_
  obtain ⟨d32, hb_d32, h⟩ := bd1_s h
  obtain ⟨⟨hy_d32, hz_d32⟩, hv_d32⟩ := dGI_s hb_d32
  refine zb_dgetN E y31 hy_d32 (zDe_0 hz_d32) rfl zin9 3 (by decide) znw_24 (v := .int d32) (by exact congrArg (fun z => some (Value.int z)) hv_d32) dX7_readDuty_135 ?_
  refine zb_iconst E dX7_readDuty_138 (v := (-1)) rfl ?_
  refine zb_icmp_eq E dX7_readDuty_139 (tgt := 146) rfl (fun hc => ?_) (fun hc => ?_)
  · have h := if_t h hc
    refine zb_iconst E dX7_readDuty_146 (v := 0) rfl ?_
    obtain ⟨rfl, rfl, rfl, rfl, rfl, rfl, rfl, rfl, rfl, rfl⟩ := zinj10 h
    exact zb_zret E hQ (ty := .boolean) rfl rfl ⟨Nat.zero_le _, Nat.zero_le _⟩ dX7_readDuty_147
  · have h := if_f h hc
    refine zb_iconst E dX7_readDuty_142 (v := 1) rfl ?_
    refine zb_goto E dX7_readDuty_143 (tgt := 147) rfl ?_
    obtain ⟨rfl, rfl, rfl, rfl, rfl, rfl, rfl, rfl, rfl, rfl⟩ := zinj10 h
    exact zb_zret E hQ (ty := .boolean) rfl rfl ⟨Nat.zero_le _, Nat.zero_le _⟩ dX7_readDuty_147
theorem c_X7_readDuty_b110 {C : zC} {I : Nat → Nat → Int32} {J : Nat → Nat → Int64} {Rr : Nat → Nat → Option Nat}  (N : Nat) (a1 : (Option Nat)) (v_length : Int32) (e_v_length : I 33 3 = v_length) (v_tape : (Nat → Int32)) (e_v_tape : I 34 = v_tape) (rr : Int32) (y_v_D : Dyn) (y_v_at : Int32) (y_v_fault : Int32) (y_v_faultAt : Int32) (y_v_kind : Int32) (y_v_open : Int32) (y_v_size : Int32) (y_v_stop : Int32) (y_v_code : (Nat → Int32)) (E : zE C RX7 cX7_readDuty 3 (some .boolean) ({ frames := 335, cells := 0, slots := 0, locals := 8350 } : Room)) (hQ : C.Q = zQi C ({ frames := 335, cells := 0, slots := 0, locals := 8350 } : Room) rr ((va_up (va_up I 33 (va_up (va_up (va_up (va_up (va_up (va_up (va_up (I 33) 4 y_v_size) 6 y_v_kind) 7 y_v_at) 8 y_v_stop) 9 y_v_open) 10 y_v_fault) 11 y_v_faultAt)) 35 y_v_code), J, Rr, y_v_D)) (s0 : Int32) (v_D : Dyn) (v_at : Int32) (v_fault : Int32) (v_faultAt : Int32) (v_kind : Int32) (v_open : Int32) (v_size : Int32) (v_stop : Int32) (v_code : (Nat → Int32)) (h : pReader_readDuty_b110 N a1 v_length v_tape s0 v_D v_at v_fault v_faultAt v_kind v_open v_size v_stop v_code = some (rr, y_v_D, y_v_at, y_v_fault, y_v_faultAt, y_v_kind, y_v_open, y_v_size, y_v_stop, y_v_code)) : zB C (0, 0) 110 [(0, .ref (C.X.1 + 33)), (1, va_rf (zq C.X a1))] [.int s0] ((va_up (va_up I 33 (va_up (va_up (va_up (va_up (va_up (va_up (va_up (I 33) 4 v_size) 6 v_kind) 7 v_at) 8 v_stop) 9 v_open) 10 v_fault) 11 v_faultAt)) 35 v_code), J, Rr, v_D) := by
  refine zb_istore_n E dX7_readDuty_110 rfl (by decide) (lv2 := [(2, .int s0), (0, .ref (C.X.1 + 33)), (1, va_rf (zq C.X a1))]) (by generalize zq C.X a1 = z9; cases z9 <;> rfl) ?_
  refine zb_aload_nQ E dX7_readDuty_111 2 rfl rfl ?_
  refine zb_iload_n E dX7_readDuty_112 0 rfl rfl ?_
  refine zb_if_eq E dX7_readDuty_113 (tgt := 130) rfl (fun hc => ?_) (fun hc => ?_)
  · have h := if_t h hc
    refine zb_iconst E dX7_readDuty_130 (v := (-1)) rfl ?_
    refine zb_sub [2] rfl ?_
    exact c_X7_readDuty_b131 N a1 v_length e_v_length v_tape e_v_tape rr y_v_D y_v_at y_v_fault y_v_faultAt y_v_kind y_v_open y_v_size y_v_stop y_v_code E hQ a1 (-1) v_D v_at v_fault v_faultAt v_kind v_open v_size v_stop v_code h
  · have h := if_f h hc
    refine zb_aload_n E dX7_readDuty_116 1 rfl rfl ?_
    refine zb_aload_nQ E dX7_readDuty_117 2 rfl rfl ?_
    obtain ⟨y24, hq_y24, h⟩ := bd1_s h
    refine zb_LS (lv2 := [(2, .int s0), (0, .ref (C.X.1 + 33)), (1, .ref (C.X.1 + 182 + y24))]) (st2 := [.ref (C.X.1 + 182 + y24), .ref (C.X.1 + 33), .ref (C.X.1 + 182 + y24)]) (by first | rfl | (rw [hq_y24]; rfl)) (by first | rfl | (rw [hq_y24]; rfl)) ?_
    obtain ⟨d25, hb_d25, h⟩ := bd1_s h
    obtain ⟨⟨hy_d25, hz_d25⟩, hv_d25⟩ := dGI_s hb_d25
    refine zb_dgetN E y24 hy_d25 (zDe_0 hz_d25) rfl zin9 2 (by decide) znw_22 (v := .int d25) (by exact congrArg (fun z => some (Value.int z)) hv_d25) dX7_readDuty_118 ?_
    refine zb_sipush E dX7_readDuty_121 (v := 999) rfl ?_
    obtain ⟨rc26, v_at_c26, v_fault_c26, v_faultAt_c26, v_kind_c26, v_stop_c26, hc_124, h⟩ := bd6_s h
    refine zb_cVi E [.int d25, .int 999] 33 zy_X7_readNumber zw_752 (by decide) (zF_33 _ _ _ _) rfl (c_X7_readNumber (va_up (va_up (va_up (va_up (va_up (va_up (va_up (I 33) 4 v_size) 6 v_kind) 7 v_at) 8 v_stop) 9 v_open) 10 v_fault) 11 v_faultAt) ((zup_n (by decide : (33 : Nat) ≠ 35)).trans zup_s) v_length (zcf (f := ((va_up (va_up I 33 (va_up (va_up (va_up (va_up (va_up (va_up (va_up (I 33) 4 v_size) 6 v_kind) 7 v_at) 8 v_stop) 9 v_open) 10 v_fault) 11 v_faultAt)) 35 v_code) 33)) ((zup_n (by decide : (33 : Nat) ≠ 35)).trans zup_s) (by exact e_v_length)) v_tape (((zup_n (by decide : (34 : Nat) ≠ 35)).trans (zup_n (by decide : (34 : Nat) ≠ 33))).trans e_v_tape) v_at (zcf (f := ((va_up (va_up I 33 (va_up (va_up (va_up (va_up (va_up (va_up (va_up (I 33) 4 v_size) 6 v_kind) 7 v_at) 8 v_stop) 9 v_open) 10 v_fault) 11 v_faultAt)) 35 v_code) 33)) ((zup_n (by decide : (33 : Nat) ≠ 35)).trans zup_s) rfl) v_fault (zcf (f := ((va_up (va_up I 33 (va_up (va_up (va_up (va_up (va_up (va_up (va_up (I 33) 4 v_size) 6 v_kind) 7 v_at) 8 v_stop) 9 v_open) 10 v_fault) 11 v_faultAt)) 35 v_code) 33)) ((zup_n (by decide : (33 : Nat) ≠ 35)).trans zup_s) rfl) v_faultAt (zcf (f := ((va_up (va_up I 33 (va_up (va_up (va_up (va_up (va_up (va_up (va_up (I 33) 4 v_size) 6 v_kind) 7 v_at) 8 v_stop) 9 v_open) 10 v_fault) 11 v_faultAt)) 35 v_code) 33)) ((zup_n (by decide : (33 : Nat) ≠ 35)).trans zup_s) rfl) v_kind (zcf (f := ((va_up (va_up I 33 (va_up (va_up (va_up (va_up (va_up (va_up (va_up (I 33) 4 v_size) 6 v_kind) 7 v_at) 8 v_stop) 9 v_open) 10 v_fault) 11 v_faultAt)) 35 v_code) 33)) ((zup_n (by decide : (33 : Nat) ≠ 35)).trans zup_s) rfl) v_stop (zcf (f := ((va_up (va_up I 33 (va_up (va_up (va_up (va_up (va_up (va_up (va_up (I 33) 4 v_size) 6 v_kind) 7 v_at) 8 v_stop) 9 v_open) 10 v_fault) 11 v_faultAt)) 35 v_code) 33)) ((zup_n (by decide : (33 : Nat) ≠ 35)).trans zup_s) rfl) hc_124) (by decide) rfl rfl (by first | decide | simp [Value.category, zva_cat]) dX7_readDuty_124 (cs2 := (0, 0)) rfl ?_
    refine zb_S (S2 := ((va_up (va_up I 33 (va_up (va_up (va_up (va_up (va_up (va_up (va_up (I 33) 4 v_size) 6 v_kind_c26) 7 v_at_c26) 8 v_stop_c26) 9 v_open) 10 v_fault_c26) 11 v_faultAt_c26)) 35 v_code), J, Rr, v_D)) (zS_eq3 ((zcgV ((zcgF ((zcgF ((zcgF ((zcgF (zn6 (by decide : (11 : Nat) ≠ 6) (by decide : (10 : Nat) ≠ 6) (by decide : (9 : Nat) ≠ 6) (by decide : (8 : Nat) ≠ 6) (by decide : (7 : Nat) ≠ 6))).trans (zn5 (by decide : (11 : Nat) ≠ 7) (by decide : (10 : Nat) ≠ 7) (by decide : (9 : Nat) ≠ 7) (by decide : (8 : Nat) ≠ 7)))).trans (zn4 (by decide : (11 : Nat) ≠ 8) (by decide : (10 : Nat) ≠ 8) (by decide : (9 : Nat) ≠ 8)))).trans (zn2 (by decide : (11 : Nat) ≠ 10)))).trans zn1)).trans (zn2 (by decide : (35 : Nat) ≠ 33))) rfl rfl) ?_
    refine zb_goto E dX7_readDuty_127 (tgt := 131) rfl ?_
    refine zb_sub [2] rfl ?_
    refine zb_LS (lv2 := [(1, va_rf (zq C.X a1))]) (by first | (rw [hq_y24]; done) | (rw [hq_y24]; rfl)) rfl ?_
    exact c_X7_readDuty_b131 N a1 v_length e_v_length v_tape e_v_tape rr y_v_D y_v_at y_v_fault y_v_faultAt y_v_kind y_v_open y_v_size y_v_stop y_v_code E hQ (some y24) rc26 v_D v_at_c26 v_fault_c26 v_faultAt_c26 v_kind_c26 v_open v_size v_stop_c26 v_code h
theorem c_X7_readDuty_b38 {C : zC} {I : Nat → Nat → Int32} {J : Nat → Nat → Int64} {Rr : Nat → Nat → Option Nat}  (N : Nat) (a1 : (Option Nat)) (v_length : Int32) (e_v_length : I 33 3 = v_length) (v_tape : (Nat → Int32)) (e_v_tape : I 34 = v_tape) (rr : Int32) (y_v_D : Dyn) (y_v_at : Int32) (y_v_fault : Int32) (y_v_faultAt : Int32) (y_v_kind : Int32) (y_v_open : Int32) (y_v_size : Int32) (y_v_stop : Int32) (y_v_code : (Nat → Int32)) (E : zE C RX7 cX7_readDuty 3 (some .boolean) ({ frames := 335, cells := 0, slots := 0, locals := 8350 } : Room)) (hQ : C.Q = zQi C ({ frames := 335, cells := 0, slots := 0, locals := 8350 } : Room) rr ((va_up (va_up I 33 (va_up (va_up (va_up (va_up (va_up (va_up (va_up (I 33) 4 y_v_size) 6 y_v_kind) 7 y_v_at) 8 y_v_stop) 9 y_v_open) 10 y_v_fault) 11 y_v_faultAt)) 35 y_v_code), J, Rr, y_v_D)) (x2 : Int32) (s0 : Nat) (s1 : Int32) (v_D : Dyn) (v_at : Int32) (v_fault : Int32) (v_faultAt : Int32) (v_kind : Int32) (v_open : Int32) (v_size : Int32) (v_stop : Int32) (v_code : (Nat → Int32)) (h : pReader_readDuty_b38 N a1 v_length v_tape x2 s0 s1 v_D v_at v_fault v_faultAt v_kind v_open v_size v_stop v_code = some (rr, y_v_D, y_v_at, y_v_fault, y_v_faultAt, y_v_kind, y_v_open, y_v_size, y_v_stop, y_v_code)) : zB C (0, 0) 38 [(2, .int x2)] [.int s1, .ref (C.X.1 + 182 + s0)] ((va_up (va_up I 33 (va_up (va_up (va_up (va_up (va_up (va_up (va_up (I 33) 4 v_size) 6 v_kind) 7 v_at) 8 v_stop) 9 v_open) 10 v_fault) 11 v_faultAt)) 35 v_code), J, Rr, v_D) := by
  obtain ⟨g28, h⟩ := gd_s h
  obtain ⟨v_D27, hb_v_D27, h⟩ := bd1_s h
  obtain ⟨hy_v_D27, hz_v_D27, hf_v_D27, ho_v_D27, hn_v_D27⟩ := dPI_f (X := C.X) hb_v_D27 (by decide)
  refine zb_dputN E s0 hy_v_D27 hz_v_D27 rfl zin9 1 (by decide) znw_20 tyX9 tyX9_ok nmX9 rfl (isB_n g28) (isB_f g28) (D2 := v_D27) hf_v_D27 (zSt_lt (by decide)) ho_v_D27 hn_v_D27 dX7_readDuty_38 ?_
  refine zb_iload_n E dX7_readDuty_41 0 rfl rfl ?_
  obtain ⟨gB, h⟩ := gd_s h
  obtain ⟨rfl, rfl, rfl, rfl, rfl, rfl, rfl, rfl, rfl, rfl⟩ := zinj10 h
  exact zb_zret E hQ (ty := .boolean) rfl (isB_n gB) ⟨Nat.zero_le _, Nat.zero_le _⟩ dX7_readDuty_42
theorem c_X7_readDuty_0 {C : zC} {I : Nat → Nat → Int32} {J : Nat → Nat → Int64} {Rr : Nat → Nat → Option Nat}  (N : Nat) (a1 : (Option Nat)) (v_length : Int32) (e_v_length : I 33 3 = v_length) (v_tape : (Nat → Int32)) (e_v_tape : I 34 = v_tape) (rr : Int32) (y_v_D : Dyn) (y_v_at : Int32) (y_v_fault : Int32) (y_v_faultAt : Int32) (y_v_kind : Int32) (y_v_open : Int32) (y_v_size : Int32) (y_v_stop : Int32) (y_v_code : (Nat → Int32)) (E : zE C RX7 cX7_readDuty 3 (some .boolean) ({ frames := 335, cells := 0, slots := 0, locals := 8350 } : Room)) (hQ : C.Q = zQi C ({ frames := 335, cells := 0, slots := 0, locals := 8350 } : Room) rr ((va_up (va_up I 33 (va_up (va_up (va_up (va_up (va_up (va_up (va_up (I 33) 4 y_v_size) 6 y_v_kind) 7 y_v_at) 8 y_v_stop) 9 y_v_open) 10 y_v_fault) 11 y_v_faultAt)) 35 y_v_code), J, Rr, y_v_D)) (v_D : Dyn) (v_at : Int32) (v_fault : Int32) (v_faultAt : Int32) (v_kind : Int32) (v_open : Int32) (v_size : Int32) (v_stop : Int32) (v_code : (Nat → Int32)) (h : pReader_readDuty N a1 v_D v_at v_fault v_faultAt v_kind v_length v_open v_size v_stop v_code v_tape = some (rr, y_v_D, y_v_at, y_v_fault, y_v_faultAt, y_v_kind, y_v_open, y_v_size, y_v_stop, y_v_code)) : zB C (0, 0) 0 [(0, .ref (C.X.1 + 33)), (1, va_rf (zq C.X a1))] [] ((va_up (va_up I 33 (va_up (va_up (va_up (va_up (va_up (va_up (va_up (I 33) 4 v_size) 6 v_kind) 7 v_at) 8 v_stop) 9 v_open) 10 v_fault) 11 v_faultAt)) 35 v_code), J, Rr, v_D) := by
  refine zb_aload_n E dX7_readDuty_0 0 rfl rfl ?_
  refine zb_ldcS E rfl zJ_0 dX7_readDuty_1 ?_
  obtain ⟨rc1, v_at_c1, v_kind_c1, v_stop_c1, hc_3, h⟩ := bd4_s h
  refine zb_cVi E [.ref (C.X.2.2.2.2.1 0)] 33 zy_X7_takeWord zw_687 (by decide) (zF_33 _ _ _ _) rfl (c_X7_takeWord (by decide) (va_up (va_up (va_up (va_up (va_up (va_up (va_up (I 33) 4 v_size) 6 v_kind) 7 v_at) 8 v_stop) 9 v_open) 10 v_fault) 11 v_faultAt) ((zup_n (by decide : (33 : Nat) ≠ 35)).trans zup_s) v_length (zcf (f := ((va_up (va_up I 33 (va_up (va_up (va_up (va_up (va_up (va_up (va_up (I 33) 4 v_size) 6 v_kind) 7 v_at) 8 v_stop) 9 v_open) 10 v_fault) 11 v_faultAt)) 35 v_code) 33)) ((zup_n (by decide : (33 : Nat) ≠ 35)).trans zup_s) (by exact e_v_length)) v_tape (((zup_n (by decide : (34 : Nat) ≠ 35)).trans (zup_n (by decide : (34 : Nat) ≠ 33))).trans e_v_tape) v_at (zcf (f := ((va_up (va_up I 33 (va_up (va_up (va_up (va_up (va_up (va_up (va_up (I 33) 4 v_size) 6 v_kind) 7 v_at) 8 v_stop) 9 v_open) 10 v_fault) 11 v_faultAt)) 35 v_code) 33)) ((zup_n (by decide : (33 : Nat) ≠ 35)).trans zup_s) rfl) v_kind (zcf (f := ((va_up (va_up I 33 (va_up (va_up (va_up (va_up (va_up (va_up (va_up (I 33) 4 v_size) 6 v_kind) 7 v_at) 8 v_stop) 9 v_open) 10 v_fault) 11 v_faultAt)) 35 v_code) 33)) ((zup_n (by decide : (33 : Nat) ≠ 35)).trans zup_s) rfl) v_stop (zcf (f := ((va_up (va_up I 33 (va_up (va_up (va_up (va_up (va_up (va_up (va_up (I 33) 4 v_size) 6 v_kind) 7 v_at) 8 v_stop) 9 v_open) 10 v_fault) 11 v_faultAt)) 35 v_code) 33)) ((zup_n (by decide : (33 : Nat) ≠ 35)).trans zup_s) rfl) hc_3) (by decide) rfl rfl (by first | decide | simp [Value.category, zva_cat]) dX7_readDuty_3 (cs2 := (0, 0)) rfl ?_
  refine zb_S (S2 := ((va_up (va_up I 33 (va_up (va_up (va_up (va_up (va_up (va_up (va_up (I 33) 4 v_size) 6 v_kind_c1) 7 v_at_c1) 8 v_stop_c1) 9 v_open) 10 v_fault) 11 v_faultAt)) 35 v_code), J, Rr, v_D)) (zS_eq3 ((zcgV ((zcgF ((zcgF (zn6 (by decide : (11 : Nat) ≠ 6) (by decide : (10 : Nat) ≠ 6) (by decide : (9 : Nat) ≠ 6) (by decide : (8 : Nat) ≠ 6) (by decide : (7 : Nat) ≠ 6))).trans (zn5 (by decide : (11 : Nat) ≠ 7) (by decide : (10 : Nat) ≠ 7) (by decide : (9 : Nat) ≠ 7) (by decide : (8 : Nat) ≠ 7)))).trans (zn4 (by decide : (11 : Nat) ≠ 8) (by decide : (10 : Nat) ≠ 8) (by decide : (9 : Nat) ≠ 8)))).trans (zn2 (by decide : (35 : Nat) ≠ 33))) rfl rfl) ?_
  refine zb_if_eq E dX7_readDuty_6 (tgt := 43) rfl (fun hc => ?_) (fun hc => ?_)
  · have h := if_t h hc
    refine zb_aload_n E dX7_readDuty_43 0 rfl rfl ?_
    refine zb_ldcS E rfl zJ_11 dX7_readDuty_44 ?_
    obtain ⟨rc2, v_at_c2, v_kind_c2, v_stop_c2, hc_46, h⟩ := bd4_s h
    refine zb_cVi E [.ref (C.X.2.2.2.2.1 11)] 33 zy_X7_takeWord zw_687 (by decide) (zF_33 _ _ _ _) rfl (c_X7_takeWord (by decide) (va_up (va_up (va_up (va_up (va_up (va_up (va_up (I 33) 4 v_size) 6 v_kind_c1) 7 v_at_c1) 8 v_stop_c1) 9 v_open) 10 v_fault) 11 v_faultAt) ((zup_n (by decide : (33 : Nat) ≠ 35)).trans zup_s) v_length (zcf (f := ((va_up (va_up I 33 (va_up (va_up (va_up (va_up (va_up (va_up (va_up (I 33) 4 v_size) 6 v_kind_c1) 7 v_at_c1) 8 v_stop_c1) 9 v_open) 10 v_fault) 11 v_faultAt)) 35 v_code) 33)) ((zup_n (by decide : (33 : Nat) ≠ 35)).trans zup_s) (by exact e_v_length)) v_tape (((zup_n (by decide : (34 : Nat) ≠ 35)).trans (zup_n (by decide : (34 : Nat) ≠ 33))).trans e_v_tape) v_at_c1 (zcf (f := ((va_up (va_up I 33 (va_up (va_up (va_up (va_up (va_up (va_up (va_up (I 33) 4 v_size) 6 v_kind_c1) 7 v_at_c1) 8 v_stop_c1) 9 v_open) 10 v_fault) 11 v_faultAt)) 35 v_code) 33)) ((zup_n (by decide : (33 : Nat) ≠ 35)).trans zup_s) rfl) v_kind_c1 (zcf (f := ((va_up (va_up I 33 (va_up (va_up (va_up (va_up (va_up (va_up (va_up (I 33) 4 v_size) 6 v_kind_c1) 7 v_at_c1) 8 v_stop_c1) 9 v_open) 10 v_fault) 11 v_faultAt)) 35 v_code) 33)) ((zup_n (by decide : (33 : Nat) ≠ 35)).trans zup_s) rfl) v_stop_c1 (zcf (f := ((va_up (va_up I 33 (va_up (va_up (va_up (va_up (va_up (va_up (va_up (I 33) 4 v_size) 6 v_kind_c1) 7 v_at_c1) 8 v_stop_c1) 9 v_open) 10 v_fault) 11 v_faultAt)) 35 v_code) 33)) ((zup_n (by decide : (33 : Nat) ≠ 35)).trans zup_s) rfl) hc_46) (by decide) rfl rfl (by first | decide | simp [Value.category, zva_cat]) dX7_readDuty_46 (cs2 := (0, 0)) rfl ?_
    refine zb_S (S2 := ((va_up (va_up I 33 (va_up (va_up (va_up (va_up (va_up (va_up (va_up (I 33) 4 v_size) 6 v_kind_c2) 7 v_at_c2) 8 v_stop_c2) 9 v_open) 10 v_fault) 11 v_faultAt)) 35 v_code), J, Rr, v_D)) (zS_eq3 ((zcgV ((zcgF ((zcgF (zn6 (by decide : (11 : Nat) ≠ 6) (by decide : (10 : Nat) ≠ 6) (by decide : (9 : Nat) ≠ 6) (by decide : (8 : Nat) ≠ 6) (by decide : (7 : Nat) ≠ 6))).trans (zn5 (by decide : (11 : Nat) ≠ 7) (by decide : (10 : Nat) ≠ 7) (by decide : (9 : Nat) ≠ 7) (by decide : (8 : Nat) ≠ 7)))).trans (zn4 (by decide : (11 : Nat) ≠ 8) (by decide : (10 : Nat) ≠ 8) (by decide : (9 : Nat) ≠ 8)))).trans (zn2 (by decide : (35 : Nat) ≠ 33))) rfl rfl) ?_
    refine zb_if_eq E dX7_readDuty_49 (tgt := 62) rfl (fun hc => ?_) (fun hc => ?_)
    · have h := if_t h hc
      refine zb_aload_n E dX7_readDuty_62 0 rfl rfl ?_
      refine zb_ldcS E rfl zJ_12 dX7_readDuty_63 ?_
      obtain ⟨rc3, v_at_c3, v_kind_c3, v_stop_c3, hc_65, h⟩ := bd4_s h
      refine zb_cVi E [.ref (C.X.2.2.2.2.1 12)] 33 zy_X7_takeWord zw_687 (by decide) (zF_33 _ _ _ _) rfl (c_X7_takeWord (by decide) (va_up (va_up (va_up (va_up (va_up (va_up (va_up (I 33) 4 v_size) 6 v_kind_c2) 7 v_at_c2) 8 v_stop_c2) 9 v_open) 10 v_fault) 11 v_faultAt) ((zup_n (by decide : (33 : Nat) ≠ 35)).trans zup_s) v_length (zcf (f := ((va_up (va_up I 33 (va_up (va_up (va_up (va_up (va_up (va_up (va_up (I 33) 4 v_size) 6 v_kind_c2) 7 v_at_c2) 8 v_stop_c2) 9 v_open) 10 v_fault) 11 v_faultAt)) 35 v_code) 33)) ((zup_n (by decide : (33 : Nat) ≠ 35)).trans zup_s) (by exact e_v_length)) v_tape (((zup_n (by decide : (34 : Nat) ≠ 35)).trans (zup_n (by decide : (34 : Nat) ≠ 33))).trans e_v_tape) v_at_c2 (zcf (f := ((va_up (va_up I 33 (va_up (va_up (va_up (va_up (va_up (va_up (va_up (I 33) 4 v_size) 6 v_kind_c2) 7 v_at_c2) 8 v_stop_c2) 9 v_open) 10 v_fault) 11 v_faultAt)) 35 v_code) 33)) ((zup_n (by decide : (33 : Nat) ≠ 35)).trans zup_s) rfl) v_kind_c2 (zcf (f := ((va_up (va_up I 33 (va_up (va_up (va_up (va_up (va_up (va_up (va_up (I 33) 4 v_size) 6 v_kind_c2) 7 v_at_c2) 8 v_stop_c2) 9 v_open) 10 v_fault) 11 v_faultAt)) 35 v_code) 33)) ((zup_n (by decide : (33 : Nat) ≠ 35)).trans zup_s) rfl) v_stop_c2 (zcf (f := ((va_up (va_up I 33 (va_up (va_up (va_up (va_up (va_up (va_up (va_up (I 33) 4 v_size) 6 v_kind_c2) 7 v_at_c2) 8 v_stop_c2) 9 v_open) 10 v_fault) 11 v_faultAt)) 35 v_code) 33)) ((zup_n (by decide : (33 : Nat) ≠ 35)).trans zup_s) rfl) hc_65) (by decide) rfl rfl (by first | decide | simp [Value.category, zva_cat]) dX7_readDuty_65 (cs2 := (0, 0)) rfl ?_
      refine zb_S (S2 := ((va_up (va_up I 33 (va_up (va_up (va_up (va_up (va_up (va_up (va_up (I 33) 4 v_size) 6 v_kind_c3) 7 v_at_c3) 8 v_stop_c3) 9 v_open) 10 v_fault) 11 v_faultAt)) 35 v_code), J, Rr, v_D)) (zS_eq3 ((zcgV ((zcgF ((zcgF (zn6 (by decide : (11 : Nat) ≠ 6) (by decide : (10 : Nat) ≠ 6) (by decide : (9 : Nat) ≠ 6) (by decide : (8 : Nat) ≠ 6) (by decide : (7 : Nat) ≠ 6))).trans (zn5 (by decide : (11 : Nat) ≠ 7) (by decide : (10 : Nat) ≠ 7) (by decide : (9 : Nat) ≠ 7) (by decide : (8 : Nat) ≠ 7)))).trans (zn4 (by decide : (11 : Nat) ≠ 8) (by decide : (10 : Nat) ≠ 8) (by decide : (9 : Nat) ≠ 8)))).trans (zn2 (by decide : (35 : Nat) ≠ 33))) rfl rfl) ?_
      refine zb_if_eq E dX7_readDuty_68 (tgt := 148) rfl (fun hc => ?_) (fun hc => ?_)
      · have h := if_t h hc
        refine zb_aload_n E dX7_readDuty_148 0 rfl rfl ?_
        refine zb_ldcS E rfl zJ_14 dX7_readDuty_149 ?_
        obtain ⟨rc4, v_at_c4, v_kind_c4, v_stop_c4, hc_151, h⟩ := bd4_s h
        refine zb_cVi E [.ref (C.X.2.2.2.2.1 14)] 33 zy_X7_takeWord zw_687 (by decide) (zF_33 _ _ _ _) rfl (c_X7_takeWord (by decide) (va_up (va_up (va_up (va_up (va_up (va_up (va_up (I 33) 4 v_size) 6 v_kind_c3) 7 v_at_c3) 8 v_stop_c3) 9 v_open) 10 v_fault) 11 v_faultAt) ((zup_n (by decide : (33 : Nat) ≠ 35)).trans zup_s) v_length (zcf (f := ((va_up (va_up I 33 (va_up (va_up (va_up (va_up (va_up (va_up (va_up (I 33) 4 v_size) 6 v_kind_c3) 7 v_at_c3) 8 v_stop_c3) 9 v_open) 10 v_fault) 11 v_faultAt)) 35 v_code) 33)) ((zup_n (by decide : (33 : Nat) ≠ 35)).trans zup_s) (by exact e_v_length)) v_tape (((zup_n (by decide : (34 : Nat) ≠ 35)).trans (zup_n (by decide : (34 : Nat) ≠ 33))).trans e_v_tape) v_at_c3 (zcf (f := ((va_up (va_up I 33 (va_up (va_up (va_up (va_up (va_up (va_up (va_up (I 33) 4 v_size) 6 v_kind_c3) 7 v_at_c3) 8 v_stop_c3) 9 v_open) 10 v_fault) 11 v_faultAt)) 35 v_code) 33)) ((zup_n (by decide : (33 : Nat) ≠ 35)).trans zup_s) rfl) v_kind_c3 (zcf (f := ((va_up (va_up I 33 (va_up (va_up (va_up (va_up (va_up (va_up (va_up (I 33) 4 v_size) 6 v_kind_c3) 7 v_at_c3) 8 v_stop_c3) 9 v_open) 10 v_fault) 11 v_faultAt)) 35 v_code) 33)) ((zup_n (by decide : (33 : Nat) ≠ 35)).trans zup_s) rfl) v_stop_c3 (zcf (f := ((va_up (va_up I 33 (va_up (va_up (va_up (va_up (va_up (va_up (va_up (I 33) 4 v_size) 6 v_kind_c3) 7 v_at_c3) 8 v_stop_c3) 9 v_open) 10 v_fault) 11 v_faultAt)) 35 v_code) 33)) ((zup_n (by decide : (33 : Nat) ≠ 35)).trans zup_s) rfl) hc_151) (by decide) rfl rfl (by first | decide | simp [Value.category, zva_cat]) dX7_readDuty_151 (cs2 := (0, 0)) rfl ?_
        refine zb_S (S2 := ((va_up (va_up I 33 (va_up (va_up (va_up (va_up (va_up (va_up (va_up (I 33) 4 v_size) 6 v_kind_c4) 7 v_at_c4) 8 v_stop_c4) 9 v_open) 10 v_fault) 11 v_faultAt)) 35 v_code), J, Rr, v_D)) (zS_eq3 ((zcgV ((zcgF ((zcgF (zn6 (by decide : (11 : Nat) ≠ 6) (by decide : (10 : Nat) ≠ 6) (by decide : (9 : Nat) ≠ 6) (by decide : (8 : Nat) ≠ 6) (by decide : (7 : Nat) ≠ 6))).trans (zn5 (by decide : (11 : Nat) ≠ 7) (by decide : (10 : Nat) ≠ 7) (by decide : (9 : Nat) ≠ 7) (by decide : (8 : Nat) ≠ 7)))).trans (zn4 (by decide : (11 : Nat) ≠ 8) (by decide : (10 : Nat) ≠ 8) (by decide : (9 : Nat) ≠ 8)))).trans (zn2 (by decide : (35 : Nat) ≠ 33))) rfl rfl) ?_
        refine zb_if_eq E dX7_readDuty_154 (tgt := 187) rfl (fun hc => ?_) (fun hc => ?_)
        · have h := if_t h hc
          refine zb_aload_n E dX7_readDuty_187 0 rfl rfl ?_
          refine zb_iconst E dX7_readDuty_188 (v := 1) rfl ?_
          refine zb_aload_n E dX7_readDuty_189 0 rfl rfl ?_
          refine zb_getX E 33 (by decide) (zF_33 C.X) rfl zin7 7 (by decide) zw_145 ((zup_n (by decide : (33 : Nat) ≠ 35)).trans zup_s) rfl (v := .int v_at_c4) rfl dX7_readDuty_190 ?_
          obtain ⟨rc5, v_fault_c5, v_faultAt_c5, hc_193, h⟩ := bd3_s h
          refine zb_cVi E [.int 1, .int v_at_c4] 33 zy_X7_fail zw_756 (by decide) (zF_33 _ _ _ _) rfl (c_X7_fail (va_up (va_up (va_up (va_up (va_up (va_up (va_up (I 33) 4 v_size) 6 v_kind_c4) 7 v_at_c4) 8 v_stop_c4) 9 v_open) 10 v_fault) 11 v_faultAt) ((zup_n (by decide : (33 : Nat) ≠ 35)).trans zup_s) v_fault (zcf (f := ((va_up (va_up I 33 (va_up (va_up (va_up (va_up (va_up (va_up (va_up (I 33) 4 v_size) 6 v_kind_c4) 7 v_at_c4) 8 v_stop_c4) 9 v_open) 10 v_fault) 11 v_faultAt)) 35 v_code) 33)) ((zup_n (by decide : (33 : Nat) ≠ 35)).trans zup_s) rfl) v_faultAt (zcf (f := ((va_up (va_up I 33 (va_up (va_up (va_up (va_up (va_up (va_up (va_up (I 33) 4 v_size) 6 v_kind_c4) 7 v_at_c4) 8 v_stop_c4) 9 v_open) 10 v_fault) 11 v_faultAt)) 35 v_code) 33)) ((zup_n (by decide : (33 : Nat) ≠ 35)).trans zup_s) rfl) hc_193) (by decide) rfl rfl (by first | decide | simp [Value.category, zva_cat]) dX7_readDuty_193 (cs2 := (0, 0)) rfl ?_
          refine zb_S (S2 := ((va_up (va_up I 33 (va_up (va_up (va_up (va_up (va_up (va_up (va_up (I 33) 4 v_size) 6 v_kind_c4) 7 v_at_c4) 8 v_stop_c4) 9 v_open) 10 v_fault_c5) 11 v_faultAt_c5)) 35 v_code), J, Rr, v_D)) (zS_eq3 ((zcgV ((zcgF (zn2 (by decide : (11 : Nat) ≠ 10))).trans zn1)).trans (zn2 (by decide : (35 : Nat) ≠ 33))) rfl rfl) ?_
          obtain ⟨gB, h⟩ := gd_s h
          obtain ⟨rfl, rfl, rfl, rfl, rfl, rfl, rfl, rfl, rfl, rfl⟩ := zinj10 h
          exact zb_zret E hQ (ty := .boolean) rfl (isB_n gB) ⟨Nat.zero_le _, Nat.zero_le _⟩ dX7_readDuty_196
        · have h := if_f h hc
          refine zb_aload_nQ E dX7_readDuty_157 1 rfl rfl ?_
          refine zb_iconst E dX7_readDuty_158 (v := 4) rfl ?_
          obtain ⟨y6, hq_y6, h⟩ := bd1_s h
          refine zb_LS (lv2 := [(0, .ref (C.X.1 + 33)), (1, .ref (C.X.1 + 182 + y6))]) (st2 := [.int 4, .ref (C.X.1 + 182 + y6)]) (by first | rfl | (rw [hq_y6]; rfl)) (by first | rfl | (rw [hq_y6]; rfl)) ?_
          obtain ⟨v_D7, hb_v_D7, h⟩ := bd1_s h
          obtain ⟨hy_v_D7, hz_v_D7, hf_v_D7, ho_v_D7, hn_v_D7⟩ := dPI_f (X := C.X) hb_v_D7 (by decide)
          refine zb_dputN E y6 hy_v_D7 hz_v_D7 rfl zin9 0 (by decide) znw_18 tyX9 tyX9_ok nmX9 rfl rfl rfl (D2 := v_D7) hf_v_D7 (zSt_lt (by decide)) ho_v_D7 hn_v_D7 dX7_readDuty_159 ?_
          refine zb_aload_n E dX7_readDuty_162 1 rfl rfl ?_
          refine zb_aload_n E dX7_readDuty_163 0 rfl rfl ?_
          refine zb_iconst E dX7_readDuty_164 (v := 2) rfl ?_
          refine zb_bipush E dX7_readDuty_165 (v := 20) rfl ?_
          obtain ⟨rc8, v_at_c8, v_fault_c8, v_faultAt_c8, v_kind_c8, v_stop_c8, hc_167, h⟩ := bd6_s h
          refine zb_cVi E [.int 2, .int 20] 33 zy_X7_readNumber zw_752 (by decide) (zF_33 _ _ _ _) rfl (c_X7_readNumber (va_up (va_up (va_up (va_up (va_up (va_up (va_up (I 33) 4 v_size) 6 v_kind_c4) 7 v_at_c4) 8 v_stop_c4) 9 v_open) 10 v_fault) 11 v_faultAt) ((zup_n (by decide : (33 : Nat) ≠ 35)).trans zup_s) v_length (zcf (f := ((va_up (va_up I 33 (va_up (va_up (va_up (va_up (va_up (va_up (va_up (I 33) 4 v_size) 6 v_kind_c4) 7 v_at_c4) 8 v_stop_c4) 9 v_open) 10 v_fault) 11 v_faultAt)) 35 v_code) 33)) ((zup_n (by decide : (33 : Nat) ≠ 35)).trans zup_s) (by exact e_v_length)) v_tape (((zup_n (by decide : (34 : Nat) ≠ 35)).trans (zup_n (by decide : (34 : Nat) ≠ 33))).trans e_v_tape) v_at_c4 (zcf (f := ((va_up (va_up I 33 (va_up (va_up (va_up (va_up (va_up (va_up (va_up (I 33) 4 v_size) 6 v_kind_c4) 7 v_at_c4) 8 v_stop_c4) 9 v_open) 10 v_fault) 11 v_faultAt)) 35 v_code) 33)) ((zup_n (by decide : (33 : Nat) ≠ 35)).trans zup_s) rfl) v_fault (zcf (f := ((va_up (va_up I 33 (va_up (va_up (va_up (va_up (va_up (va_up (va_up (I 33) 4 v_size) 6 v_kind_c4) 7 v_at_c4) 8 v_stop_c4) 9 v_open) 10 v_fault) 11 v_faultAt)) 35 v_code) 33)) ((zup_n (by decide : (33 : Nat) ≠ 35)).trans zup_s) rfl) v_faultAt (zcf (f := ((va_up (va_up I 33 (va_up (va_up (va_up (va_up (va_up (va_up (va_up (I 33) 4 v_size) 6 v_kind_c4) 7 v_at_c4) 8 v_stop_c4) 9 v_open) 10 v_fault) 11 v_faultAt)) 35 v_code) 33)) ((zup_n (by decide : (33 : Nat) ≠ 35)).trans zup_s) rfl) v_kind_c4 (zcf (f := ((va_up (va_up I 33 (va_up (va_up (va_up (va_up (va_up (va_up (va_up (I 33) 4 v_size) 6 v_kind_c4) 7 v_at_c4) 8 v_stop_c4) 9 v_open) 10 v_fault) 11 v_faultAt)) 35 v_code) 33)) ((zup_n (by decide : (33 : Nat) ≠ 35)).trans zup_s) rfl) v_stop_c4 (zcf (f := ((va_up (va_up I 33 (va_up (va_up (va_up (va_up (va_up (va_up (va_up (I 33) 4 v_size) 6 v_kind_c4) 7 v_at_c4) 8 v_stop_c4) 9 v_open) 10 v_fault) 11 v_faultAt)) 35 v_code) 33)) ((zup_n (by decide : (33 : Nat) ≠ 35)).trans zup_s) rfl) hc_167) (by decide) rfl rfl (by first | decide | simp [Value.category, zva_cat]) dX7_readDuty_167 (cs2 := (0, 0)) rfl ?_
          refine zb_S (S2 := ((va_up (va_up I 33 (va_up (va_up (va_up (va_up (va_up (va_up (va_up (I 33) 4 v_size) 6 v_kind_c8) 7 v_at_c8) 8 v_stop_c8) 9 v_open) 10 v_fault_c8) 11 v_faultAt_c8)) 35 v_code), J, Rr, v_D7)) (zS_eq3 ((zcgV ((zcgF ((zcgF ((zcgF ((zcgF (zn6 (by decide : (11 : Nat) ≠ 6) (by decide : (10 : Nat) ≠ 6) (by decide : (9 : Nat) ≠ 6) (by decide : (8 : Nat) ≠ 6) (by decide : (7 : Nat) ≠ 6))).trans (zn5 (by decide : (11 : Nat) ≠ 7) (by decide : (10 : Nat) ≠ 7) (by decide : (9 : Nat) ≠ 7) (by decide : (8 : Nat) ≠ 7)))).trans (zn4 (by decide : (11 : Nat) ≠ 8) (by decide : (10 : Nat) ≠ 8) (by decide : (9 : Nat) ≠ 8)))).trans (zn2 (by decide : (11 : Nat) ≠ 10)))).trans zn1)).trans (zn2 (by decide : (35 : Nat) ≠ 33))) rfl rfl) ?_
          obtain ⟨v_D9, hb_v_D9, h⟩ := bd1_s h
          obtain ⟨hy_v_D9, hz_v_D9, hf_v_D9, ho_v_D9, hn_v_D9⟩ := dPI_f (X := C.X) hb_v_D9 (by decide)
          refine zb_dputN E y6 hy_v_D9 hz_v_D9 rfl zin9 2 (by decide) znw_22 tyX9 tyX9_ok nmX9 rfl rfl rfl (D2 := v_D9) hf_v_D9 (zSt_lt (by decide)) ho_v_D9 hn_v_D9 dX7_readDuty_170 ?_
          refine zb_aload_n E dX7_readDuty_173 1 rfl rfl ?_
          obtain ⟨d10, hb_d10, h⟩ := bd1_s h
          obtain ⟨⟨hy_d10, hz_d10⟩, hv_d10⟩ := dGI_s hb_d10
          refine zb_dgetN E y6 hy_d10 (zDe_0 hz_d10) rfl zin9 2 (by decide) znw_22 (v := .int d10) (by exact congrArg (fun z => some (Value.int z)) hv_d10) dX7_readDuty_174 ?_
          refine zb_iconst E dX7_readDuty_177 (v := (-1)) rfl ?_
          refine zb_icmp_eq E dX7_readDuty_178 (tgt := 185) rfl (fun hc => ?_) (fun hc => ?_)
          · have h := if_t h hc
            refine zb_iconst E dX7_readDuty_185 (v := 0) rfl ?_
            obtain ⟨rfl, rfl, rfl, rfl, rfl, rfl, rfl, rfl, rfl, rfl⟩ := zinj10 h
            exact zb_zret E hQ (ty := .boolean) rfl rfl ⟨Nat.zero_le _, Nat.zero_le _⟩ dX7_readDuty_186
          · have h := if_f h hc
            refine zb_iconst E dX7_readDuty_181 (v := 1) rfl ?_
            refine zb_goto E dX7_readDuty_182 (tgt := 186) rfl ?_
            obtain ⟨rfl, rfl, rfl, rfl, rfl, rfl, rfl, rfl, rfl, rfl⟩ := zinj10 h
            exact zb_zret E hQ (ty := .boolean) rfl rfl ⟨Nat.zero_le _, Nat.zero_le _⟩ dX7_readDuty_186
      · have h := if_f h hc
        refine zb_aload_nQ E dX7_readDuty_71 1 rfl rfl ?_
        refine zb_iconst E dX7_readDuty_72 (v := 3) rfl ?_
        obtain ⟨y11, hq_y11, h⟩ := bd1_s h
        refine zb_LS (lv2 := [(0, .ref (C.X.1 + 33)), (1, .ref (C.X.1 + 182 + y11))]) (st2 := [.int 3, .ref (C.X.1 + 182 + y11)]) (by first | rfl | (rw [hq_y11]; rfl)) (by first | rfl | (rw [hq_y11]; rfl)) ?_
        obtain ⟨v_D12, hb_v_D12, h⟩ := bd1_s h
        obtain ⟨hy_v_D12, hz_v_D12, hf_v_D12, ho_v_D12, hn_v_D12⟩ := dPI_f (X := C.X) hb_v_D12 (by decide)
        refine zb_dputN E y11 hy_v_D12 hz_v_D12 rfl zin9 0 (by decide) znw_18 tyX9 tyX9_ok nmX9 rfl rfl rfl (D2 := v_D12) hf_v_D12 (zSt_lt (by decide)) ho_v_D12 hn_v_D12 dX7_readDuty_73 ?_
        refine zb_aload_n E dX7_readDuty_76 1 rfl rfl ?_
        refine zb_aload_n E dX7_readDuty_77 0 rfl rfl ?_
        refine zb_iconst E dX7_readDuty_78 (v := 1) rfl ?_
        refine zb_sipush E dX7_readDuty_79 (v := 999) rfl ?_
        obtain ⟨rc13, v_at_c13, v_fault_c13, v_faultAt_c13, v_kind_c13, v_stop_c13, hc_82, h⟩ := bd6_s h
        refine zb_cVi E [.int 1, .int 999] 33 zy_X7_readNumber zw_752 (by decide) (zF_33 _ _ _ _) rfl (c_X7_readNumber (va_up (va_up (va_up (va_up (va_up (va_up (va_up (I 33) 4 v_size) 6 v_kind_c3) 7 v_at_c3) 8 v_stop_c3) 9 v_open) 10 v_fault) 11 v_faultAt) ((zup_n (by decide : (33 : Nat) ≠ 35)).trans zup_s) v_length (zcf (f := ((va_up (va_up I 33 (va_up (va_up (va_up (va_up (va_up (va_up (va_up (I 33) 4 v_size) 6 v_kind_c3) 7 v_at_c3) 8 v_stop_c3) 9 v_open) 10 v_fault) 11 v_faultAt)) 35 v_code) 33)) ((zup_n (by decide : (33 : Nat) ≠ 35)).trans zup_s) (by exact e_v_length)) v_tape (((zup_n (by decide : (34 : Nat) ≠ 35)).trans (zup_n (by decide : (34 : Nat) ≠ 33))).trans e_v_tape) v_at_c3 (zcf (f := ((va_up (va_up I 33 (va_up (va_up (va_up (va_up (va_up (va_up (va_up (I 33) 4 v_size) 6 v_kind_c3) 7 v_at_c3) 8 v_stop_c3) 9 v_open) 10 v_fault) 11 v_faultAt)) 35 v_code) 33)) ((zup_n (by decide : (33 : Nat) ≠ 35)).trans zup_s) rfl) v_fault (zcf (f := ((va_up (va_up I 33 (va_up (va_up (va_up (va_up (va_up (va_up (va_up (I 33) 4 v_size) 6 v_kind_c3) 7 v_at_c3) 8 v_stop_c3) 9 v_open) 10 v_fault) 11 v_faultAt)) 35 v_code) 33)) ((zup_n (by decide : (33 : Nat) ≠ 35)).trans zup_s) rfl) v_faultAt (zcf (f := ((va_up (va_up I 33 (va_up (va_up (va_up (va_up (va_up (va_up (va_up (I 33) 4 v_size) 6 v_kind_c3) 7 v_at_c3) 8 v_stop_c3) 9 v_open) 10 v_fault) 11 v_faultAt)) 35 v_code) 33)) ((zup_n (by decide : (33 : Nat) ≠ 35)).trans zup_s) rfl) v_kind_c3 (zcf (f := ((va_up (va_up I 33 (va_up (va_up (va_up (va_up (va_up (va_up (va_up (I 33) 4 v_size) 6 v_kind_c3) 7 v_at_c3) 8 v_stop_c3) 9 v_open) 10 v_fault) 11 v_faultAt)) 35 v_code) 33)) ((zup_n (by decide : (33 : Nat) ≠ 35)).trans zup_s) rfl) v_stop_c3 (zcf (f := ((va_up (va_up I 33 (va_up (va_up (va_up (va_up (va_up (va_up (va_up (I 33) 4 v_size) 6 v_kind_c3) 7 v_at_c3) 8 v_stop_c3) 9 v_open) 10 v_fault) 11 v_faultAt)) 35 v_code) 33)) ((zup_n (by decide : (33 : Nat) ≠ 35)).trans zup_s) rfl) hc_82) (by decide) rfl rfl (by first | decide | simp [Value.category, zva_cat]) dX7_readDuty_82 (cs2 := (0, 0)) rfl ?_
        refine zb_S (S2 := ((va_up (va_up I 33 (va_up (va_up (va_up (va_up (va_up (va_up (va_up (I 33) 4 v_size) 6 v_kind_c13) 7 v_at_c13) 8 v_stop_c13) 9 v_open) 10 v_fault_c13) 11 v_faultAt_c13)) 35 v_code), J, Rr, v_D12)) (zS_eq3 ((zcgV ((zcgF ((zcgF ((zcgF ((zcgF (zn6 (by decide : (11 : Nat) ≠ 6) (by decide : (10 : Nat) ≠ 6) (by decide : (9 : Nat) ≠ 6) (by decide : (8 : Nat) ≠ 6) (by decide : (7 : Nat) ≠ 6))).trans (zn5 (by decide : (11 : Nat) ≠ 7) (by decide : (10 : Nat) ≠ 7) (by decide : (9 : Nat) ≠ 7) (by decide : (8 : Nat) ≠ 7)))).trans (zn4 (by decide : (11 : Nat) ≠ 8) (by decide : (10 : Nat) ≠ 8) (by decide : (9 : Nat) ≠ 8)))).trans (zn2 (by decide : (11 : Nat) ≠ 10)))).trans zn1)).trans (zn2 (by decide : (35 : Nat) ≠ 33))) rfl rfl) ?_
        obtain ⟨v_D14, hb_v_D14, h⟩ := bd1_s h
        obtain ⟨hy_v_D14, hz_v_D14, hf_v_D14, ho_v_D14, hn_v_D14⟩ := dPI_f (X := C.X) hb_v_D14 (by decide)
        refine zb_dputN E y11 hy_v_D14 hz_v_D14 rfl zin9 2 (by decide) znw_22 tyX9 tyX9_ok nmX9 rfl rfl rfl (D2 := v_D14) hf_v_D14 (zSt_lt (by decide)) ho_v_D14 hn_v_D14 dX7_readDuty_85 ?_
        refine zb_aload_n E dX7_readDuty_88 1 rfl rfl ?_
        obtain ⟨d15, hb_d15, h⟩ := bd1_s h
        obtain ⟨⟨hy_d15, hz_d15⟩, hv_d15⟩ := dGI_s hb_d15
        refine zb_dgetN E y11 hy_d15 (zDe_0 hz_d15) rfl zin9 2 (by decide) znw_22 (v := .int d15) (by exact congrArg (fun z => some (Value.int z)) hv_d15) dX7_readDuty_89 ?_
        refine zb_iconst E dX7_readDuty_92 (v := (-1)) rfl ?_
        refine zb_icmp_eq E dX7_readDuty_93 (tgt := 109) rfl (fun hc => ?_) (fun hc => ?_)
        · have h := if_t h hc
          refine zb_iconst E dX7_readDuty_109 (v := 0) rfl ?_
          refine zb_LS (lv2 := [(0, .ref (C.X.1 + 33)), (1, va_rf (zq C.X a1))]) (by first | (rw [hq_y11]; done) | (rw [hq_y11]; rfl)) rfl ?_
          exact c_X7_readDuty_b110 N a1 v_length e_v_length v_tape e_v_tape rr y_v_D y_v_at y_v_fault y_v_faultAt y_v_kind y_v_open y_v_size y_v_stop y_v_code E hQ 0 v_D14 v_at_c13 v_fault_c13 v_faultAt_c13 v_kind_c13 v_open v_size v_stop_c13 v_code h
        · have h := if_f h hc
          refine zb_aload_n E dX7_readDuty_96 0 rfl rfl ?_
          refine zb_ldcS E rfl zJ_13 dX7_readDuty_97 ?_
          obtain ⟨rc16, v_at_c16, v_fault_c16, v_faultAt_c16, v_kind_c16, v_stop_c16, hc_99, h⟩ := bd6_s h
          refine zb_cVi E [.ref (C.X.2.2.2.2.1 13)] 33 zy_X7_needWord zw_801 (by decide) (zF_33 _ _ _ _) rfl (c_X7_needWord (by decide) (va_up (va_up (va_up (va_up (va_up (va_up (va_up (I 33) 4 v_size) 6 v_kind_c13) 7 v_at_c13) 8 v_stop_c13) 9 v_open) 10 v_fault_c13) 11 v_faultAt_c13) ((zup_n (by decide : (33 : Nat) ≠ 35)).trans zup_s) v_length (zcf (f := ((va_up (va_up I 33 (va_up (va_up (va_up (va_up (va_up (va_up (va_up (I 33) 4 v_size) 6 v_kind_c13) 7 v_at_c13) 8 v_stop_c13) 9 v_open) 10 v_fault_c13) 11 v_faultAt_c13)) 35 v_code) 33)) ((zup_n (by decide : (33 : Nat) ≠ 35)).trans zup_s) (by exact e_v_length)) v_tape (((zup_n (by decide : (34 : Nat) ≠ 35)).trans (zup_n (by decide : (34 : Nat) ≠ 33))).trans e_v_tape) v_at_c13 (zcf (f := ((va_up (va_up I 33 (va_up (va_up (va_up (va_up (va_up (va_up (va_up (I 33) 4 v_size) 6 v_kind_c13) 7 v_at_c13) 8 v_stop_c13) 9 v_open) 10 v_fault_c13) 11 v_faultAt_c13)) 35 v_code) 33)) ((zup_n (by decide : (33 : Nat) ≠ 35)).trans zup_s) rfl) v_fault_c13 (zcf (f := ((va_up (va_up I 33 (va_up (va_up (va_up (va_up (va_up (va_up (va_up (I 33) 4 v_size) 6 v_kind_c13) 7 v_at_c13) 8 v_stop_c13) 9 v_open) 10 v_fault_c13) 11 v_faultAt_c13)) 35 v_code) 33)) ((zup_n (by decide : (33 : Nat) ≠ 35)).trans zup_s) rfl) v_faultAt_c13 (zcf (f := ((va_up (va_up I 33 (va_up (va_up (va_up (va_up (va_up (va_up (va_up (I 33) 4 v_size) 6 v_kind_c13) 7 v_at_c13) 8 v_stop_c13) 9 v_open) 10 v_fault_c13) 11 v_faultAt_c13)) 35 v_code) 33)) ((zup_n (by decide : (33 : Nat) ≠ 35)).trans zup_s) rfl) v_kind_c13 (zcf (f := ((va_up (va_up I 33 (va_up (va_up (va_up (va_up (va_up (va_up (va_up (I 33) 4 v_size) 6 v_kind_c13) 7 v_at_c13) 8 v_stop_c13) 9 v_open) 10 v_fault_c13) 11 v_faultAt_c13)) 35 v_code) 33)) ((zup_n (by decide : (33 : Nat) ≠ 35)).trans zup_s) rfl) v_stop_c13 (zcf (f := ((va_up (va_up I 33 (va_up (va_up (va_up (va_up (va_up (va_up (va_up (I 33) 4 v_size) 6 v_kind_c13) 7 v_at_c13) 8 v_stop_c13) 9 v_open) 10 v_fault_c13) 11 v_faultAt_c13)) 35 v_code) 33)) ((zup_n (by decide : (33 : Nat) ≠ 35)).trans zup_s) rfl) hc_99) (by decide) rfl rfl (by first | decide | simp [Value.category, zva_cat]) dX7_readDuty_99 (cs2 := (0, 0)) rfl ?_
          refine zb_S (S2 := ((va_up (va_up I 33 (va_up (va_up (va_up (va_up (va_up (va_up (va_up (I 33) 4 v_size) 6 v_kind_c16) 7 v_at_c16) 8 v_stop_c16) 9 v_open) 10 v_fault_c16) 11 v_faultAt_c16)) 35 v_code), J, Rr, v_D14)) (zS_eq3 ((zcgV ((zcgF ((zcgF ((zcgF ((zcgF (zn6 (by decide : (11 : Nat) ≠ 6) (by decide : (10 : Nat) ≠ 6) (by decide : (9 : Nat) ≠ 6) (by decide : (8 : Nat) ≠ 6) (by decide : (7 : Nat) ≠ 6))).trans (zn5 (by decide : (11 : Nat) ≠ 7) (by decide : (10 : Nat) ≠ 7) (by decide : (9 : Nat) ≠ 7) (by decide : (8 : Nat) ≠ 7)))).trans (zn4 (by decide : (11 : Nat) ≠ 8) (by decide : (10 : Nat) ≠ 8) (by decide : (9 : Nat) ≠ 8)))).trans (zn2 (by decide : (11 : Nat) ≠ 10)))).trans zn1)).trans (zn2 (by decide : (35 : Nat) ≠ 33))) rfl rfl) ?_
          refine zb_if_eq E dX7_readDuty_102 (tgt := 109) rfl (fun hc => ?_) (fun hc => ?_)
          · have h := if_t h hc
            refine zb_iconst E dX7_readDuty_109 (v := 0) rfl ?_
            refine zb_LS (lv2 := [(0, .ref (C.X.1 + 33)), (1, va_rf (zq C.X a1))]) (by first | (rw [hq_y11]; done) | (rw [hq_y11]; rfl)) rfl ?_
            exact c_X7_readDuty_b110 N a1 v_length e_v_length v_tape e_v_tape rr y_v_D y_v_at y_v_fault y_v_faultAt y_v_kind y_v_open y_v_size y_v_stop y_v_code E hQ 0 v_D14 v_at_c16 v_fault_c16 v_faultAt_c16 v_kind_c16 v_open v_size v_stop_c16 v_code h
          · have h := if_f h hc
            refine zb_iconst E dX7_readDuty_105 (v := 1) rfl ?_
            refine zb_goto E dX7_readDuty_106 (tgt := 110) rfl ?_
            refine zb_LS (lv2 := [(0, .ref (C.X.1 + 33)), (1, va_rf (zq C.X a1))]) (by first | (rw [hq_y11]; done) | (rw [hq_y11]; rfl)) rfl ?_
            exact c_X7_readDuty_b110 N a1 v_length e_v_length v_tape e_v_tape rr y_v_D y_v_at y_v_fault y_v_faultAt y_v_kind y_v_open y_v_size y_v_stop y_v_code E hQ 1 v_D14 v_at_c16 v_fault_c16 v_faultAt_c16 v_kind_c16 v_open v_size v_stop_c16 v_code h
    · have h := if_f h hc
      refine zb_aload_nQ E dX7_readDuty_52 1 rfl rfl ?_
      refine zb_iconst E dX7_readDuty_53 (v := 2) rfl ?_
      obtain ⟨y17, hq_y17, h⟩ := bd1_s h
      refine zb_LS (lv2 := [(0, .ref (C.X.1 + 33)), (1, .ref (C.X.1 + 182 + y17))]) (st2 := [.int 2, .ref (C.X.1 + 182 + y17)]) (by first | rfl | (rw [hq_y17]; rfl)) (by first | rfl | (rw [hq_y17]; rfl)) ?_
      obtain ⟨v_D18, hb_v_D18, h⟩ := bd1_s h
      obtain ⟨hy_v_D18, hz_v_D18, hf_v_D18, ho_v_D18, hn_v_D18⟩ := dPI_f (X := C.X) hb_v_D18 (by decide)
      refine zb_dputN E y17 hy_v_D18 hz_v_D18 rfl zin9 0 (by decide) znw_18 tyX9 tyX9_ok nmX9 rfl rfl rfl (D2 := v_D18) hf_v_D18 (zSt_lt (by decide)) ho_v_D18 hn_v_D18 dX7_readDuty_54 ?_
      refine zb_aload_n E dX7_readDuty_57 0 rfl rfl ?_
      obtain ⟨rc19, v_at_c19, v_fault_c19, v_faultAt_c19, v_kind_c19, v_open_c19, v_size_c19, v_stop_c19, v_code_c19, hc_58, h⟩ := bd9_s h
      refine zb_cVi E [] 33 zy_X7_readSum zw_739 (by decide) (zF_33 _ _ _ _) rfl (c_X7_readSum (va_up (va_up (va_up (va_up (va_up (va_up (va_up (I 33) 4 v_size) 6 v_kind_c2) 7 v_at_c2) 8 v_stop_c2) 9 v_open) 10 v_fault) 11 v_faultAt) ((zup_n (by decide : (33 : Nat) ≠ 35)).trans zup_s) v_length (zcf (f := ((va_up (va_up I 33 (va_up (va_up (va_up (va_up (va_up (va_up (va_up (I 33) 4 v_size) 6 v_kind_c2) 7 v_at_c2) 8 v_stop_c2) 9 v_open) 10 v_fault) 11 v_faultAt)) 35 v_code) 33)) ((zup_n (by decide : (33 : Nat) ≠ 35)).trans zup_s) (by exact e_v_length)) v_tape (((zup_n (by decide : (34 : Nat) ≠ 35)).trans (zup_n (by decide : (34 : Nat) ≠ 33))).trans e_v_tape) v_at_c2 (zcf (f := ((va_up (va_up I 33 (va_up (va_up (va_up (va_up (va_up (va_up (va_up (I 33) 4 v_size) 6 v_kind_c2) 7 v_at_c2) 8 v_stop_c2) 9 v_open) 10 v_fault) 11 v_faultAt)) 35 v_code) 33)) ((zup_n (by decide : (33 : Nat) ≠ 35)).trans zup_s) rfl) v_fault (zcf (f := ((va_up (va_up I 33 (va_up (va_up (va_up (va_up (va_up (va_up (va_up (I 33) 4 v_size) 6 v_kind_c2) 7 v_at_c2) 8 v_stop_c2) 9 v_open) 10 v_fault) 11 v_faultAt)) 35 v_code) 33)) ((zup_n (by decide : (33 : Nat) ≠ 35)).trans zup_s) rfl) v_faultAt (zcf (f := ((va_up (va_up I 33 (va_up (va_up (va_up (va_up (va_up (va_up (va_up (I 33) 4 v_size) 6 v_kind_c2) 7 v_at_c2) 8 v_stop_c2) 9 v_open) 10 v_fault) 11 v_faultAt)) 35 v_code) 33)) ((zup_n (by decide : (33 : Nat) ≠ 35)).trans zup_s) rfl) v_kind_c2 (zcf (f := ((va_up (va_up I 33 (va_up (va_up (va_up (va_up (va_up (va_up (va_up (I 33) 4 v_size) 6 v_kind_c2) 7 v_at_c2) 8 v_stop_c2) 9 v_open) 10 v_fault) 11 v_faultAt)) 35 v_code) 33)) ((zup_n (by decide : (33 : Nat) ≠ 35)).trans zup_s) rfl) v_open (zcf (f := ((va_up (va_up I 33 (va_up (va_up (va_up (va_up (va_up (va_up (va_up (I 33) 4 v_size) 6 v_kind_c2) 7 v_at_c2) 8 v_stop_c2) 9 v_open) 10 v_fault) 11 v_faultAt)) 35 v_code) 33)) ((zup_n (by decide : (33 : Nat) ≠ 35)).trans zup_s) rfl) v_size (zcf (f := ((va_up (va_up I 33 (va_up (va_up (va_up (va_up (va_up (va_up (va_up (I 33) 4 v_size) 6 v_kind_c2) 7 v_at_c2) 8 v_stop_c2) 9 v_open) 10 v_fault) 11 v_faultAt)) 35 v_code) 33)) ((zup_n (by decide : (33 : Nat) ≠ 35)).trans zup_s) rfl) v_stop_c2 (zcf (f := ((va_up (va_up I 33 (va_up (va_up (va_up (va_up (va_up (va_up (va_up (I 33) 4 v_size) 6 v_kind_c2) 7 v_at_c2) 8 v_stop_c2) 9 v_open) 10 v_fault) 11 v_faultAt)) 35 v_code) 33)) ((zup_n (by decide : (33 : Nat) ≠ 35)).trans zup_s) rfl) v_code zup_s hc_58) (by decide) rfl rfl (by first | decide | simp [Value.category, zva_cat]) dX7_readDuty_58 (cs2 := (0, 0)) rfl ?_
      refine zb_S (S2 := ((va_up (va_up I 33 (va_up (va_up (va_up (va_up (va_up (va_up (va_up (I 33) 4 v_size_c19) 6 v_kind_c19) 7 v_at_c19) 8 v_stop_c19) 9 v_open_c19) 10 v_fault_c19) 11 v_faultAt_c19)) 35 v_code_c19), J, Rr, v_D18)) (zS_eq3 ((zcgF ((zcgV ((zcgF ((zcgF ((zcgF ((zcgF ((zcgF ((zcgF (zn7 (by decide : (11 : Nat) ≠ 4) (by decide : (10 : Nat) ≠ 4) (by decide : (9 : Nat) ≠ 4) (by decide : (8 : Nat) ≠ 4) (by decide : (7 : Nat) ≠ 4) (by decide : (6 : Nat) ≠ 4))).trans (zn6 (by decide : (11 : Nat) ≠ 6) (by decide : (10 : Nat) ≠ 6) (by decide : (9 : Nat) ≠ 6) (by decide : (8 : Nat) ≠ 6) (by decide : (7 : Nat) ≠ 6)))).trans (zn5 (by decide : (11 : Nat) ≠ 7) (by decide : (10 : Nat) ≠ 7) (by decide : (9 : Nat) ≠ 7) (by decide : (8 : Nat) ≠ 7)))).trans (zn4 (by decide : (11 : Nat) ≠ 8) (by decide : (10 : Nat) ≠ 8) (by decide : (9 : Nat) ≠ 8)))).trans (zn3 (by decide : (11 : Nat) ≠ 9) (by decide : (10 : Nat) ≠ 9)))).trans (zn2 (by decide : (11 : Nat) ≠ 10)))).trans zn1)).trans (zn2 (by decide : (35 : Nat) ≠ 33)))).trans zn1) rfl rfl) ?_
      obtain ⟨gB, h⟩ := gd_s h
      obtain ⟨rfl, rfl, rfl, rfl, rfl, rfl, rfl, rfl, rfl, rfl⟩ := zinj10 h
      exact zb_zret E hQ (ty := .boolean) rfl (isB_n gB) ⟨Nat.zero_le _, Nat.zero_le _⟩ dX7_readDuty_61
  · have h := if_f h hc
    refine zb_aload_nQ E dX7_readDuty_9 1 rfl rfl ?_
    refine zb_iconst E dX7_readDuty_10 (v := 1) rfl ?_
    obtain ⟨y20, hq_y20, h⟩ := bd1_s h
    refine zb_LS (lv2 := [(0, .ref (C.X.1 + 33)), (1, .ref (C.X.1 + 182 + y20))]) (st2 := [.int 1, .ref (C.X.1 + 182 + y20)]) (by first | rfl | (rw [hq_y20]; rfl)) (by first | rfl | (rw [hq_y20]; rfl)) ?_
    obtain ⟨v_D21, hb_v_D21, h⟩ := bd1_s h
    obtain ⟨hy_v_D21, hz_v_D21, hf_v_D21, ho_v_D21, hn_v_D21⟩ := dPI_f (X := C.X) hb_v_D21 (by decide)
    refine zb_dputN E y20 hy_v_D21 hz_v_D21 rfl zin9 0 (by decide) znw_18 tyX9 tyX9_ok nmX9 rfl rfl rfl (D2 := v_D21) hf_v_D21 (zSt_lt (by decide)) ho_v_D21 hn_v_D21 dX7_readDuty_11 ?_
    refine zb_aload_n E dX7_readDuty_14 0 rfl rfl ?_
    obtain ⟨rc22, v_at_c22, v_fault_c22, v_faultAt_c22, v_kind_c22, v_open_c22, v_size_c22, v_stop_c22, v_code_c22, hc_15, h⟩ := bd9_s h
    refine zb_cVi E [] 33 zy_X7_readSum zw_739 (by decide) (zF_33 _ _ _ _) rfl (c_X7_readSum (va_up (va_up (va_up (va_up (va_up (va_up (va_up (I 33) 4 v_size) 6 v_kind_c1) 7 v_at_c1) 8 v_stop_c1) 9 v_open) 10 v_fault) 11 v_faultAt) ((zup_n (by decide : (33 : Nat) ≠ 35)).trans zup_s) v_length (zcf (f := ((va_up (va_up I 33 (va_up (va_up (va_up (va_up (va_up (va_up (va_up (I 33) 4 v_size) 6 v_kind_c1) 7 v_at_c1) 8 v_stop_c1) 9 v_open) 10 v_fault) 11 v_faultAt)) 35 v_code) 33)) ((zup_n (by decide : (33 : Nat) ≠ 35)).trans zup_s) (by exact e_v_length)) v_tape (((zup_n (by decide : (34 : Nat) ≠ 35)).trans (zup_n (by decide : (34 : Nat) ≠ 33))).trans e_v_tape) v_at_c1 (zcf (f := ((va_up (va_up I 33 (va_up (va_up (va_up (va_up (va_up (va_up (va_up (I 33) 4 v_size) 6 v_kind_c1) 7 v_at_c1) 8 v_stop_c1) 9 v_open) 10 v_fault) 11 v_faultAt)) 35 v_code) 33)) ((zup_n (by decide : (33 : Nat) ≠ 35)).trans zup_s) rfl) v_fault (zcf (f := ((va_up (va_up I 33 (va_up (va_up (va_up (va_up (va_up (va_up (va_up (I 33) 4 v_size) 6 v_kind_c1) 7 v_at_c1) 8 v_stop_c1) 9 v_open) 10 v_fault) 11 v_faultAt)) 35 v_code) 33)) ((zup_n (by decide : (33 : Nat) ≠ 35)).trans zup_s) rfl) v_faultAt (zcf (f := ((va_up (va_up I 33 (va_up (va_up (va_up (va_up (va_up (va_up (va_up (I 33) 4 v_size) 6 v_kind_c1) 7 v_at_c1) 8 v_stop_c1) 9 v_open) 10 v_fault) 11 v_faultAt)) 35 v_code) 33)) ((zup_n (by decide : (33 : Nat) ≠ 35)).trans zup_s) rfl) v_kind_c1 (zcf (f := ((va_up (va_up I 33 (va_up (va_up (va_up (va_up (va_up (va_up (va_up (I 33) 4 v_size) 6 v_kind_c1) 7 v_at_c1) 8 v_stop_c1) 9 v_open) 10 v_fault) 11 v_faultAt)) 35 v_code) 33)) ((zup_n (by decide : (33 : Nat) ≠ 35)).trans zup_s) rfl) v_open (zcf (f := ((va_up (va_up I 33 (va_up (va_up (va_up (va_up (va_up (va_up (va_up (I 33) 4 v_size) 6 v_kind_c1) 7 v_at_c1) 8 v_stop_c1) 9 v_open) 10 v_fault) 11 v_faultAt)) 35 v_code) 33)) ((zup_n (by decide : (33 : Nat) ≠ 35)).trans zup_s) rfl) v_size (zcf (f := ((va_up (va_up I 33 (va_up (va_up (va_up (va_up (va_up (va_up (va_up (I 33) 4 v_size) 6 v_kind_c1) 7 v_at_c1) 8 v_stop_c1) 9 v_open) 10 v_fault) 11 v_faultAt)) 35 v_code) 33)) ((zup_n (by decide : (33 : Nat) ≠ 35)).trans zup_s) rfl) v_stop_c1 (zcf (f := ((va_up (va_up I 33 (va_up (va_up (va_up (va_up (va_up (va_up (va_up (I 33) 4 v_size) 6 v_kind_c1) 7 v_at_c1) 8 v_stop_c1) 9 v_open) 10 v_fault) 11 v_faultAt)) 35 v_code) 33)) ((zup_n (by decide : (33 : Nat) ≠ 35)).trans zup_s) rfl) v_code zup_s hc_15) (by decide) rfl rfl (by first | decide | simp [Value.category, zva_cat]) dX7_readDuty_15 (cs2 := (0, 0)) rfl ?_
    refine zb_S (S2 := ((va_up (va_up I 33 (va_up (va_up (va_up (va_up (va_up (va_up (va_up (I 33) 4 v_size_c22) 6 v_kind_c22) 7 v_at_c22) 8 v_stop_c22) 9 v_open_c22) 10 v_fault_c22) 11 v_faultAt_c22)) 35 v_code_c22), J, Rr, v_D21)) (zS_eq3 ((zcgF ((zcgV ((zcgF ((zcgF ((zcgF ((zcgF ((zcgF ((zcgF (zn7 (by decide : (11 : Nat) ≠ 4) (by decide : (10 : Nat) ≠ 4) (by decide : (9 : Nat) ≠ 4) (by decide : (8 : Nat) ≠ 4) (by decide : (7 : Nat) ≠ 4) (by decide : (6 : Nat) ≠ 4))).trans (zn6 (by decide : (11 : Nat) ≠ 6) (by decide : (10 : Nat) ≠ 6) (by decide : (9 : Nat) ≠ 6) (by decide : (8 : Nat) ≠ 6) (by decide : (7 : Nat) ≠ 6)))).trans (zn5 (by decide : (11 : Nat) ≠ 7) (by decide : (10 : Nat) ≠ 7) (by decide : (9 : Nat) ≠ 7) (by decide : (8 : Nat) ≠ 7)))).trans (zn4 (by decide : (11 : Nat) ≠ 8) (by decide : (10 : Nat) ≠ 8) (by decide : (9 : Nat) ≠ 8)))).trans (zn3 (by decide : (11 : Nat) ≠ 9) (by decide : (10 : Nat) ≠ 9)))).trans (zn2 (by decide : (11 : Nat) ≠ 10)))).trans zn1)).trans (zn2 (by decide : (35 : Nat) ≠ 33)))).trans zn1) rfl rfl) ?_
    refine zb_istore_n E dX7_readDuty_18 rfl (by decide) (lv2 := [(2, .int rc22), (0, .ref (C.X.1 + 33)), (1, .ref (C.X.1 + 182 + y20))]) rfl ?_
    refine zb_aload_n E dX7_readDuty_19 2 rfl rfl ?_
    refine zb_iload_n E dX7_readDuty_20 0 rfl rfl ?_
    refine zb_if_eq E dX7_readDuty_21 (tgt := 37) rfl (fun hc => ?_) (fun hc => ?_)
    · have h := if_t h hc
      refine zb_iconst E dX7_readDuty_37 (v := 0) rfl ?_
      refine zb_sub [0] rfl ?_
      exact c_X7_readDuty_b38 N a1 v_length e_v_length v_tape e_v_tape rr y_v_D y_v_at y_v_fault y_v_faultAt y_v_kind y_v_open y_v_size y_v_stop y_v_code E hQ rc22 y20 0 v_D21 v_at_c22 v_fault_c22 v_faultAt_c22 v_kind_c22 v_open_c22 v_size_c22 v_stop_c22 v_code_c22 h
    · have h := if_f h hc
      refine zb_aload_n E dX7_readDuty_24 1 rfl rfl ?_
      refine zb_ldcS E rfl zJ_10 dX7_readDuty_25 ?_
      obtain ⟨rc23, v_at_c23, v_kind_c23, v_stop_c23, hc_27, h⟩ := bd4_s h
      refine zb_cVi E [.ref (C.X.2.2.2.2.1 10)] 33 zy_X7_takeWord zw_687 (by decide) (zF_33 _ _ _ _) rfl (c_X7_takeWord (by decide) (va_up (va_up (va_up (va_up (va_up (va_up (va_up (I 33) 4 v_size_c22) 6 v_kind_c22) 7 v_at_c22) 8 v_stop_c22) 9 v_open_c22) 10 v_fault_c22) 11 v_faultAt_c22) ((zup_n (by decide : (33 : Nat) ≠ 35)).trans zup_s) v_length (zcf (f := ((va_up (va_up I 33 (va_up (va_up (va_up (va_up (va_up (va_up (va_up (I 33) 4 v_size_c22) 6 v_kind_c22) 7 v_at_c22) 8 v_stop_c22) 9 v_open_c22) 10 v_fault_c22) 11 v_faultAt_c22)) 35 v_code_c22) 33)) ((zup_n (by decide : (33 : Nat) ≠ 35)).trans zup_s) (by exact e_v_length)) v_tape (((zup_n (by decide : (34 : Nat) ≠ 35)).trans (zup_n (by decide : (34 : Nat) ≠ 33))).trans e_v_tape) v_at_c22 (zcf (f := ((va_up (va_up I 33 (va_up (va_up (va_up (va_up (va_up (va_up (va_up (I 33) 4 v_size_c22) 6 v_kind_c22) 7 v_at_c22) 8 v_stop_c22) 9 v_open_c22) 10 v_fault_c22) 11 v_faultAt_c22)) 35 v_code_c22) 33)) ((zup_n (by decide : (33 : Nat) ≠ 35)).trans zup_s) rfl) v_kind_c22 (zcf (f := ((va_up (va_up I 33 (va_up (va_up (va_up (va_up (va_up (va_up (va_up (I 33) 4 v_size_c22) 6 v_kind_c22) 7 v_at_c22) 8 v_stop_c22) 9 v_open_c22) 10 v_fault_c22) 11 v_faultAt_c22)) 35 v_code_c22) 33)) ((zup_n (by decide : (33 : Nat) ≠ 35)).trans zup_s) rfl) v_stop_c22 (zcf (f := ((va_up (va_up I 33 (va_up (va_up (va_up (va_up (va_up (va_up (va_up (I 33) 4 v_size_c22) 6 v_kind_c22) 7 v_at_c22) 8 v_stop_c22) 9 v_open_c22) 10 v_fault_c22) 11 v_faultAt_c22)) 35 v_code_c22) 33)) ((zup_n (by decide : (33 : Nat) ≠ 35)).trans zup_s) rfl) hc_27) (by decide) rfl rfl (by first | decide | simp [Value.category, zva_cat]) dX7_readDuty_27 (cs2 := (0, 0)) rfl ?_
      refine zb_S (S2 := ((va_up (va_up I 33 (va_up (va_up (va_up (va_up (va_up (va_up (va_up (I 33) 4 v_size_c22) 6 v_kind_c23) 7 v_at_c23) 8 v_stop_c23) 9 v_open_c22) 10 v_fault_c22) 11 v_faultAt_c22)) 35 v_code_c22), J, Rr, v_D21)) (zS_eq3 ((zcgV ((zcgF ((zcgF (zn6 (by decide : (11 : Nat) ≠ 6) (by decide : (10 : Nat) ≠ 6) (by decide : (9 : Nat) ≠ 6) (by decide : (8 : Nat) ≠ 6) (by decide : (7 : Nat) ≠ 6))).trans (zn5 (by decide : (11 : Nat) ≠ 7) (by decide : (10 : Nat) ≠ 7) (by decide : (9 : Nat) ≠ 7) (by decide : (8 : Nat) ≠ 7)))).trans (zn4 (by decide : (11 : Nat) ≠ 8) (by decide : (10 : Nat) ≠ 8) (by decide : (9 : Nat) ≠ 8)))).trans (zn2 (by decide : (35 : Nat) ≠ 33))) rfl rfl) ?_
      refine zb_if_eq E dX7_readDuty_30 (tgt := 37) rfl (fun hc => ?_) (fun hc => ?_)
      · have h := if_t h hc
        refine zb_iconst E dX7_readDuty_37 (v := 0) rfl ?_
        refine zb_sub [0] rfl ?_
        exact c_X7_readDuty_b38 N a1 v_length e_v_length v_tape e_v_tape rr y_v_D y_v_at y_v_fault y_v_faultAt y_v_kind y_v_open y_v_size y_v_stop y_v_code E hQ rc22 y20 0 v_D21 v_at_c23 v_fault_c22 v_faultAt_c22 v_kind_c23 v_open_c22 v_size_c22 v_stop_c23 v_code_c22 h
      · have h := if_f h hc
        refine zb_iconst E dX7_readDuty_33 (v := 1) rfl ?_
        refine zb_goto E dX7_readDuty_34 (tgt := 38) rfl ?_
        refine zb_sub [0] rfl ?_
        exact c_X7_readDuty_b38 N a1 v_length e_v_length v_tape e_v_tape rr y_v_D y_v_at y_v_fault y_v_faultAt y_v_kind y_v_open y_v_size y_v_stop y_v_code E hQ rc22 y20 1 v_D21 v_at_c23 v_fault_c22 v_faultAt_c22 v_kind_c23 v_open_c22 v_size_c22 v_stop_c23 v_code_c22 h
theorem c_X7_readDuty {l : Launch} {X : zX} {I : Nat → Nat → Int32} {J : Nat → Nat → Int64} {Rr : Nat → Nat → Option Nat} {v_D : zD} {N : Nat} {a1 : (Option Nat)} (oI33 : Nat → Int32) (eoI33 : I 33 = oI33) (v_length : Int32) (e_v_length : I 33 3 = v_length) (v_tape : (Nat → Int32)) (e_v_tape : I 34 = v_tape) (v_at : Int32) (e_v_at : I 33 7 = v_at) (v_fault : Int32) (e_v_fault : I 33 10 = v_fault) (v_faultAt : Int32) (e_v_faultAt : I 33 11 = v_faultAt) (v_kind : Int32) (e_v_kind : I 33 6 = v_kind) (v_open : Int32) (e_v_open : I 33 9 = v_open) (v_size : Int32) (e_v_size : I 33 4 = v_size) (v_stop : Int32) (e_v_stop : I 33 8 = v_stop) (v_code : (Nat → Int32)) (e_v_code : I 35 = v_code) {rr : Int32} {y_v_D : Dyn} {y_v_at : Int32} {y_v_fault : Int32} {y_v_faultAt : Int32} {y_v_kind : Int32} {y_v_open : Int32} {y_v_size : Int32} {y_v_stop : Int32} {y_v_code : (Nat → Int32)} (h : pReader_readDuty N a1 v_D v_at v_fault v_faultAt v_kind v_length v_open v_size v_stop v_code v_tape = some (rr, y_v_D, y_v_at, y_v_fault, y_v_faultAt, y_v_kind, y_v_open, y_v_size, y_v_stop, y_v_code)) : zMi l yX7_readDuty cX7_readDuty 3 (some .boolean) ({ frames := 335, cells := 0, slots := 0, locals := 8350 } : Room) X [.ref (X.1 + 33), va_rf (zq X a1)] (I, J, Rr, v_D) rr ((va_up (va_up I 33 (va_up (va_up (va_up (va_up (va_up (va_up (va_up oI33 4 y_v_size) 6 y_v_kind) 7 y_v_at) 8 y_v_stop) 9 y_v_open) 10 y_v_fault) 11 y_v_faultAt)) 35 y_v_code), J, Rr, y_v_D) := by
  subst eoI33
  refine zMi.of (by decide) (by generalize zq X a1 = z9; cases z9 <;> exact Nat.le_of_ble_eq_true rfl) (fun C E hl hX hQ => ?_)
  subst hl
  subst hX
  refine zb_LS (lv2 := [(0, .ref (C.X.1 + 33)), (1, va_rf (zq C.X a1))]) (by generalize zq C.X a1 = z9; cases z9 <;> rfl) rfl ?_
  have eI0 : (va_up (va_up I 33 (va_up (va_up (va_up (va_up (va_up (va_up (va_up (I 33) 4 v_size) 6 v_kind) 7 v_at) 8 v_stop) 9 v_open) 10 v_fault) 11 v_faultAt)) 35 v_code) = I := by rw [zup_idE e_v_size, zup_idE e_v_kind, zup_idE e_v_at, zup_idE e_v_stop, zup_idE e_v_open, zup_idE e_v_fault, zup_idE e_v_faultAt, zup_id, zup_idE e_v_code]
  have eJ0 : J = J := rfl
  refine zb_S (S2 := ((va_up (va_up I 33 (va_up (va_up (va_up (va_up (va_up (va_up (va_up (I 33) 4 v_size) 6 v_kind) 7 v_at) 8 v_stop) 9 v_open) 10 v_fault) 11 v_faultAt)) 35 v_code), J, Rr, v_D)) (zS_eq eI0.symm eJ0.symm) ?_
  exact c_X7_readDuty_0 N a1 v_length e_v_length v_tape e_v_tape rr y_v_D y_v_at y_v_fault y_v_faultAt y_v_kind y_v_open y_v_size y_v_stop y_v_code E hQ v_D v_at v_fault v_faultAt v_kind v_open v_size v_stop v_code h
