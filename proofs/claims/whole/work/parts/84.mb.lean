set_option maxHeartbeats 4000000
set_option maxRecDepth 100000
-- ChequeredClothModel.sum
theorem dX12_sum_0 : decode cX12_sum 0 = .ok (.iload_n 1, 1) := by decide +kernel
theorem dX12_sum_1 : decode cX12_sum 1 = .ok (.iload_n 2, 1) := by decide +kernel
theorem dX12_sum_2 : decode cX12_sum 2 = .ok (.invokestatic 231, 3) := by decide +kernel
theorem dX12_sum_5 : decode cX12_sum 5 = .ok (.istore_n 3, 1) := by decide +kernel
theorem dX12_sum_6 : decode cX12_sum 6 = .ok (.aload_n 0, 1) := by decide +kernel
theorem dX12_sum_7 : decode cX12_sum 7 = .ok (.iload_n 3, 1) := by decide +kernel
theorem dX12_sum_8 : decode cX12_sum 8 = .ok (.invokevirtual 239, 3) := by decide +kernel
theorem dX12_sum_11 : decode cX12_sum 11 = .ok (.ifCond .eq 11, 3) := by decide +kernel
theorem dX12_sum_14 : decode cX12_sum 14 = .ok (.aload_n 0, 1) := by decide +kernel
theorem dX12_sum_15 : decode cX12_sum 15 = .ok (.iload_n 3, 1) := by decide +kernel
theorem dX12_sum_16 : decode cX12_sum 16 = .ok (.invokevirtual 243, 3) := by decide +kernel
theorem dX12_sum_19 : decode cX12_sum 19 = .ok (.goto 4, 3) := by decide +kernel
theorem dX12_sum_22 : decode cX12_sum 22 = .ok (.iconst (-1), 1) := by decide +kernel
theorem dX12_sum_23 : decode cX12_sum 23 = .ok (.ireturn, 1) := by decide +kernel
theorem zy_X12_sum : zYv yX12_sum cX12_sum 4 (some .int) 2 := ⟨zw_1502, zw_1503, zw_12, zw_1504, by decide, by decide, by decide⟩
theorem c_X12_sum_0 {C : zC} {I : Nat → Nat → Int32} {J : Nat → Nat → Int64} {Rr : Nat → Nat → Option Nat} {D : zD} (N : Nat) (a1 : Int32) (a2 : Int32) (v_cutWorth : (Nat → Int32)) (e_v_cutWorth : I 137 = v_cutWorth) (v_cuts : (Nat → Int32)) (e_v_cuts : I 135 = v_cuts) (v_pence : (Nat → Int32)) (e_v_pence : I 138 = v_pence) (rr : Int32) (E : zE C RX12 cX12_sum 4 (some .int) ({ frames := 2, cells := 0, slots := 0, locals := 46 } : Room)) (hQ : C.Q = zQi C ({ frames := 2, cells := 0, slots := 0, locals := 46 } : Room) rr (I, J, Rr, D)) (h : pM_sum N a1 a2 v_cutWorth v_cuts v_pence = some rr) : zB C (0, 0) 0 [(0, .ref (C.X.1 + 128)), (1, .int a1), (2, .int a2)] [] (I, J, Rr, D) := by
  refine zb_iload_n E dX12_sum_0 1 rfl rfl ?_
  refine zb_iload_n E dX12_sum_1 2 rfl rfl ?_
  obtain ⟨rc1, hc_2, h⟩ := bd1_s h
  refine zb_cSi E [.int a1, .int a2] zy_X12_half zw_1487 (c_X12_half hc_2) (by decide) rfl rfl (by first | decide | simp [Value.category]) dX12_sum_2 (cs2 := (0, 0)) rfl ?_
  refine zb_istore_n E dX12_sum_5 rfl (by decide) (lv2 := [(3, .int rc1), (0, .ref (C.X.1 + 128)), (1, .int a1), (2, .int a2)]) rfl ?_
  refine zb_aload_n E dX12_sum_6 1 rfl rfl ?_
  refine zb_iload_n E dX12_sum_7 0 rfl rfl ?_
  obtain ⟨rc2, hc_8, h⟩ := bd1_s h
  refine zb_cVi E [.int rc1] 128 zy_X12_isThere zw_1497 (by decide) (zF_128 _ _ _ _) rfl (c_X12_isThere v_cuts (by exact e_v_cuts) hc_8) (by decide) rfl rfl (by first | decide | simp [Value.category]) dX12_sum_8 (cs2 := (0, 0)) rfl ?_
  refine zb_if_eq E dX12_sum_11 (tgt := 22) rfl (fun hc => ?_) (fun hc => ?_)
  · have h := if_t h hc
    refine zb_iconst E dX12_sum_22 (v := (-1)) rfl ?_
    obtain rfl := zinj1 h
    exact zb_iret E hQ rfl ⟨Nat.zero_le _, Nat.zero_le _⟩ dX12_sum_23
  · have h := if_f h hc
    refine zb_aload_n E dX12_sum_14 1 rfl rfl ?_
    refine zb_iload_n E dX12_sum_15 0 rfl rfl ?_
    obtain ⟨rc3, hc_16, h⟩ := bd1_s h
    refine zb_cVi E [.int rc1] 128 zy_X12_sumOf zw_1505 (by decide) (zF_128 _ _ _ _) rfl (c_X12_sumOf v_cutWorth (by exact e_v_cutWorth) v_cuts (by exact e_v_cuts) v_pence (by exact e_v_pence) hc_16) (by decide) rfl rfl (by first | decide | simp [Value.category]) dX12_sum_16 (cs2 := (0, 0)) rfl ?_
    refine zb_goto E dX12_sum_19 (tgt := 23) rfl ?_
    obtain rfl := zinj1 h
    exact zb_iret E hQ rfl ⟨Nat.zero_le _, Nat.zero_le _⟩ dX12_sum_23
theorem c_X12_sum {l : Launch} {X : zX} {I : Nat → Nat → Int32} {J : Nat → Nat → Int64} {Rr : Nat → Nat → Option Nat} {D : zD} {N : Nat} {a1 : Int32} {a2 : Int32} (v_cutWorth : (Nat → Int32)) (e_v_cutWorth : I 137 = v_cutWorth) (v_cuts : (Nat → Int32)) (e_v_cuts : I 135 = v_cuts) (v_pence : (Nat → Int32)) (e_v_pence : I 138 = v_pence) {rr : Int32} (h : pM_sum N a1 a2 v_cutWorth v_cuts v_pence = some rr) : zMi l yX12_sum cX12_sum 4 (some .int) ({ frames := 2, cells := 0, slots := 0, locals := 46 } : Room) X [.ref (X.1 + 128), .int a1, .int a2] (I, J, Rr, D) rr (I, J, Rr, D) := by
  refine zMi.of (by decide) (Nat.le_of_ble_eq_true rfl) (fun C E hl hX hQ => ?_)
  subst hl
  subst hX
  have eI0 : I = I := rfl
  have eJ0 : J = J := rfl
  refine zb_S (S2 := (I, J, Rr, D)) (zS_eq eI0.symm eJ0.symm) ?_
  exact c_X12_sum_0 N a1 a2 v_cutWorth e_v_cutWorth v_cuts e_v_cuts v_pence e_v_pence rr E hQ h
-- ChequeredClothModel.wear
theorem dX12_wear_0 : decode cX12_wear 0 = .ok (.iload_n 1, 1) := by decide +kernel
theorem dX12_wear_1 : decode cX12_wear 1 = .ok (.i2l, 1) := by decide +kernel
theorem dX12_wear_2 : decode cX12_wear 2 = .ok (.lconst 0, 1) := by decide +kernel
theorem dX12_wear_3 : decode cX12_wear 3 = .ok (.ldc2_w 246, 3) := by decide +kernel
theorem dX12_wear_6 : decode cX12_wear 6 = .ok (.invokestatic 199, 3) := by decide +kernel
theorem dX12_wear_9 : decode cX12_wear 9 = .ok (.ifCond .eq 27, 3) := by decide +kernel
theorem dX12_wear_12 : decode cX12_wear 12 = .ok (.iload_n 2, 1) := by decide +kernel
theorem dX12_wear_13 : decode cX12_wear 13 = .ok (.i2l, 1) := by decide +kernel
theorem dX12_wear_14 : decode cX12_wear 14 = .ok (.lconst 1, 1) := by decide +kernel
theorem dX12_wear_15 : decode cX12_wear 15 = .ok (.ldc2_w 248, 3) := by decide +kernel
theorem dX12_wear_18 : decode cX12_wear 18 = .ok (.invokestatic 199, 3) := by decide +kernel
theorem dX12_wear_21 : decode cX12_wear 21 = .ok (.ifCond .eq 15, 3) := by decide +kernel
theorem dX12_wear_24 : decode cX12_wear 24 = .ok (.iload_n 3, 1) := by decide +kernel
theorem dX12_wear_25 : decode cX12_wear 25 = .ok (.i2l, 1) := by decide +kernel
theorem dX12_wear_26 : decode cX12_wear 26 = .ok (.lconst 0, 1) := by decide +kernel
theorem dX12_wear_27 : decode cX12_wear 27 = .ok (.ldc2_w 250, 3) := by decide +kernel
theorem dX12_wear_30 : decode cX12_wear 30 = .ok (.invokestatic 199, 3) := by decide +kernel
theorem dX12_wear_33 : decode cX12_wear 33 = .ok (.ifCond .ne 5, 3) := by decide +kernel
theorem dX12_wear_36 : decode cX12_wear 36 = .ok (.iconst 0, 1) := by decide +kernel
theorem dX12_wear_37 : decode cX12_wear 37 = .ok (.ireturn, 1) := by decide +kernel
theorem dX12_wear_38 : decode cX12_wear 38 = .ok (.aload_n 0, 1) := by decide +kernel
theorem dX12_wear_39 : decode cX12_wear 39 = .ok (.iload_n 1, 1) := by decide +kernel
theorem dX12_wear_40 : decode cX12_wear 40 = .ok (.putfield 41, 3) := by decide +kernel
theorem dX12_wear_43 : decode cX12_wear 43 = .ok (.aload_n 0, 1) := by decide +kernel
theorem dX12_wear_44 : decode cX12_wear 44 = .ok (.iload_n 2, 1) := by decide +kernel
theorem dX12_wear_45 : decode cX12_wear 45 = .ok (.putfield 45, 3) := by decide +kernel
theorem dX12_wear_48 : decode cX12_wear 48 = .ok (.aload_n 0, 1) := by decide +kernel
theorem dX12_wear_49 : decode cX12_wear 49 = .ok (.iload_n 3, 1) := by decide +kernel
theorem dX12_wear_50 : decode cX12_wear 50 = .ok (.putfield 48, 3) := by decide +kernel
theorem dX12_wear_53 : decode cX12_wear 53 = .ok (.iconst 1, 1) := by decide +kernel
theorem dX12_wear_54 : decode cX12_wear 54 = .ok (.ireturn, 1) := by decide +kernel
theorem zy_X12_wear : zYv yX12_wear cX12_wear 4 (some .boolean) 3 := ⟨zw_1510, zw_1511, zw_12, zw_1512, by decide, by decide, by decide⟩
theorem c_X12_wear_0 {C : zC} {I : Nat → Nat → Int32} {J : Nat → Nat → Int64} {Rr : Nat → Nat → Option Nat} {D : zD} (a1 : Int32) (a2 : Int32) (a3 : Int32) (rr : Int32) (y_v_grain : Int32) (y_v_limit : Int32) (y_v_lost : Int32) (E : zE C RX12 cX12_wear 4 (some .boolean) ({ frames := 1, cells := 0, slots := 0, locals := 25 } : Room)) (hQ : C.Q = zQi C ({ frames := 1, cells := 0, slots := 0, locals := 25 } : Room) rr ((va_up I 128 (va_up (va_up (va_up (I 128) 10 y_v_grain) 11 y_v_lost) 12 y_v_limit)), J, Rr, D)) (v_grain : Int32) (v_limit : Int32) (v_lost : Int32) (h : pM_wear a1 a2 a3 v_grain v_limit v_lost = some (rr, y_v_grain, y_v_limit, y_v_lost)) : zB C (0, 0) 0 [(0, .ref (C.X.1 + 128)), (1, .int a1), (2, .int a2), (3, .int a3)] [] ((va_up I 128 (va_up (va_up (va_up (I 128) 10 v_grain) 11 v_lost) 12 v_limit)), J, Rr, D) := by
  refine zb_iload_n E dX12_wear_0 1 rfl rfl ?_
  refine zb_i2l E dX12_wear_1 ?_
  refine zb_lconst E dX12_wear_2 (v := 0) rfl ?_
  refine zb_ldc2 E dX12_wear_3 (v := 20) zw_1513 ?_
  obtain ⟨rc1, hc_6, h⟩ := bd1_s h
  refine zb_cSi E [.long (i2l a1), .long 0, .long 20] zy_X12_isIn zw_1429 (c_X12_isIn hc_6) (by decide) rfl rfl (by first | decide | simp [Value.category]) dX12_wear_6 (cs2 := (0, 0)) rfl ?_
  refine zb_if_eq E dX12_wear_9 (tgt := 36) rfl (fun hc => ?_) (fun hc => ?_)
  · have h := if_t h hc
    refine zb_iconst E dX12_wear_36 (v := 0) rfl ?_
    obtain ⟨rfl, rfl, rfl, rfl⟩ := zinj4 h
    exact zb_zret E hQ (ty := .boolean) rfl rfl ⟨Nat.zero_le _, Nat.zero_le _⟩ dX12_wear_37
  · have h := if_f h hc
    refine zb_iload_n E dX12_wear_12 2 rfl rfl ?_
    refine zb_i2l E dX12_wear_13 ?_
    refine zb_lconst E dX12_wear_14 (v := 1) rfl ?_
    refine zb_ldc2 E dX12_wear_15 (v := 100) zw_1514 ?_
    obtain ⟨rc2, hc_18, h⟩ := bd1_s h
    refine zb_cSi E [.long (i2l a2), .long 1, .long 100] zy_X12_isIn zw_1429 (c_X12_isIn hc_18) (by decide) rfl rfl (by first | decide | simp [Value.category]) dX12_wear_18 (cs2 := (0, 0)) rfl ?_
    refine zb_if_eq E dX12_wear_21 (tgt := 36) rfl (fun hc => ?_) (fun hc => ?_)
    · have h := if_t h hc
      refine zb_iconst E dX12_wear_36 (v := 0) rfl ?_
      obtain ⟨rfl, rfl, rfl, rfl⟩ := zinj4 h
      exact zb_zret E hQ (ty := .boolean) rfl rfl ⟨Nat.zero_le _, Nat.zero_le _⟩ dX12_wear_37
    · have h := if_f h hc
      refine zb_iload_n E dX12_wear_24 3 rfl rfl ?_
      refine zb_i2l E dX12_wear_25 ?_
      refine zb_lconst E dX12_wear_26 (v := 0) rfl ?_
      refine zb_ldc2 E dX12_wear_27 (v := 500) zw_1515 ?_
      obtain ⟨rc3, hc_30, h⟩ := bd1_s h
      refine zb_cSi E [.long (i2l a3), .long 0, .long 500] zy_X12_isIn zw_1429 (c_X12_isIn hc_30) (by decide) rfl rfl (by first | decide | simp [Value.category]) dX12_wear_30 (cs2 := (0, 0)) rfl ?_
      refine zb_if_ne E dX12_wear_33 (tgt := 38) rfl (fun hc => ?_) (fun hc => ?_)
      · have h := if_f h hc
        refine zb_aload_n E dX12_wear_38 0 rfl rfl ?_
        refine zb_iload_n E dX12_wear_39 1 rfl rfl ?_
        refine zb_put E 128 (by decide) (zF_128 C.X) rfl zin12 10 (by decide) zw_1178 tyX12 tyX12_ok nmX12 rfl rfl rfl (I2 := (va_up I 128 (va_up (va_up (va_up (I 128) 10 a1) 11 v_lost) 12 v_limit))) (J2 := J) ((zset12_10 C.X (va_up (va_up (va_up (I 128) 10 v_grain) 11 v_lost) 12 v_limit) (J 128) a1).trans (congrArg (fun g => zf12 C.X g (J 128)) (zn3 (by decide : (12 : Nat) ≠ 10) (by decide : (11 : Nat) ≠ 10)))) (by rw [zflen12]; decide) (fun j hj => ⟨(zup_n hj).trans (zup_n hj).symm, rfl⟩) dX12_wear_40 ?_
        refine zb_aload_n E dX12_wear_43 0 rfl rfl ?_
        refine zb_iload_n E dX12_wear_44 2 rfl rfl ?_
        refine zb_put E 128 (by decide) (zF_128 C.X) rfl zin12 11 (by decide) zw_1179 tyX12 tyX12_ok nmX12 rfl rfl rfl (I2 := (va_up I 128 (va_up (va_up (va_up (I 128) 10 a1) 11 a2) 12 v_limit))) (J2 := J) ((zset12_11 C.X (va_up (va_up (va_up (I 128) 10 a1) 11 v_lost) 12 v_limit) (J 128) a2).trans (congrArg (fun g => zf12 C.X g (J 128)) (zn2 (by decide : (12 : Nat) ≠ 11)))) (by rw [zflen12]; decide) (fun j hj => ⟨(zup_n hj).trans (zup_n hj).symm, rfl⟩) dX12_wear_45 ?_
        refine zb_aload_n E dX12_wear_48 0 rfl rfl ?_
        refine zb_iload_n E dX12_wear_49 3 rfl rfl ?_
        refine zb_put E 128 (by decide) (zF_128 C.X) rfl zin12 12 (by decide) zw_1180 tyX12 tyX12_ok nmX12 rfl rfl rfl (I2 := (va_up I 128 (va_up (va_up (va_up (I 128) 10 a1) 11 a2) 12 a3))) (J2 := J) ((zset12_12 C.X (va_up (va_up (va_up (I 128) 10 a1) 11 a2) 12 v_limit) (J 128) a3).trans (congrArg (fun g => zf12 C.X g (J 128)) zn1)) (by rw [zflen12]; decide) (fun j hj => ⟨(zup_n hj).trans (zup_n hj).symm, rfl⟩) dX12_wear_50 ?_
        refine zb_iconst E dX12_wear_53 (v := 1) rfl ?_
        obtain ⟨rfl, rfl, rfl, rfl⟩ := zinj4 h
        exact zb_zret E hQ (ty := .boolean) rfl rfl ⟨Nat.zero_le _, Nat.zero_le _⟩ dX12_wear_54
      · have h := if_t h hc
        refine zb_iconst E dX12_wear_36 (v := 0) rfl ?_
        obtain ⟨rfl, rfl, rfl, rfl⟩ := zinj4 h
        exact zb_zret E hQ (ty := .boolean) rfl rfl ⟨Nat.zero_le _, Nat.zero_le _⟩ dX12_wear_37
theorem c_X12_wear {l : Launch} {X : zX} {I : Nat → Nat → Int32} {J : Nat → Nat → Int64} {Rr : Nat → Nat → Option Nat} {D : zD} {a1 : Int32} {a2 : Int32} {a3 : Int32} (oI128 : Nat → Int32) (eoI128 : I 128 = oI128) (v_grain : Int32) (e_v_grain : I 128 10 = v_grain) (v_limit : Int32) (e_v_limit : I 128 12 = v_limit) (v_lost : Int32) (e_v_lost : I 128 11 = v_lost) {rr : Int32} {y_v_grain : Int32} {y_v_limit : Int32} {y_v_lost : Int32} (h : pM_wear a1 a2 a3 v_grain v_limit v_lost = some (rr, y_v_grain, y_v_limit, y_v_lost)) : zMi l yX12_wear cX12_wear 4 (some .boolean) ({ frames := 1, cells := 0, slots := 0, locals := 25 } : Room) X [.ref (X.1 + 128), .int a1, .int a2, .int a3] (I, J, Rr, D) rr ((va_up I 128 (va_up (va_up (va_up oI128 10 y_v_grain) 11 y_v_lost) 12 y_v_limit)), J, Rr, D) := by
  subst eoI128
  refine zMi.of (by decide) (Nat.le_of_ble_eq_true rfl) (fun C E hl hX hQ => ?_)
  subst hl
  subst hX
  have eI0 : (va_up I 128 (va_up (va_up (va_up (I 128) 10 v_grain) 11 v_lost) 12 v_limit)) = I := by rw [zup_idE e_v_grain, zup_idE e_v_lost, zup_idE e_v_limit, zup_id]
  have eJ0 : J = J := rfl
  refine zb_S (S2 := ((va_up I 128 (va_up (va_up (va_up (I 128) 10 v_grain) 11 v_lost) 12 v_limit)), J, Rr, D)) (zS_eq eI0.symm eJ0.symm) ?_
  exact c_X12_wear_0 a1 a2 a3 rr y_v_grain y_v_limit y_v_lost E hQ v_grain v_limit v_lost h
-- ChequeredClothModel.pairs
theorem dX12_pairs_0 : decode cX12_pairs 0 = .ok (.aload_n 0, 1) := by decide +kernel
theorem dX12_pairs_1 : decode cX12_pairs 1 = .ok (.getfield 34, 3) := by decide +kernel
theorem dX12_pairs_4 : decode cX12_pairs 4 = .ok (.iload_n 1, 1) := by decide +kernel
theorem dX12_pairs_5 : decode cX12_pairs 5 = .ok (.iaload, 1) := by decide +kernel
theorem dX12_pairs_6 : decode cX12_pairs 6 = .ok (.aload_n 0, 1) := by decide +kernel
theorem dX12_pairs_7 : decode cX12_pairs 7 = .ok (.getfield 34, 3) := by decide +kernel
theorem dX12_pairs_10 : decode cX12_pairs 10 = .ok (.iload_n 2, 1) := by decide +kernel
theorem dX12_pairs_11 : decode cX12_pairs 11 = .ok (.iaload, 1) := by decide +kernel
theorem dX12_pairs_12 : decode cX12_pairs 12 = .ok (.if_icmp .ne 30, 3) := by decide +kernel
theorem dX12_pairs_15 : decode cX12_pairs 15 = .ok (.aload_n 0, 1) := by decide +kernel
theorem dX12_pairs_16 : decode cX12_pairs 16 = .ok (.getfield 31, 3) := by decide +kernel
theorem dX12_pairs_19 : decode cX12_pairs 19 = .ok (.iload_n 1, 1) := by decide +kernel
theorem dX12_pairs_20 : decode cX12_pairs 20 = .ok (.iaload, 1) := by decide +kernel
theorem dX12_pairs_21 : decode cX12_pairs 21 = .ok (.aload_n 0, 1) := by decide +kernel
theorem dX12_pairs_22 : decode cX12_pairs 22 = .ok (.getfield 31, 3) := by decide +kernel
theorem dX12_pairs_25 : decode cX12_pairs 25 = .ok (.iload_n 2, 1) := by decide +kernel
theorem dX12_pairs_26 : decode cX12_pairs 26 = .ok (.iaload, 1) := by decide +kernel
theorem dX12_pairs_27 : decode cX12_pairs 27 = .ok (.isub, 1) := by decide +kernel
theorem dX12_pairs_28 : decode cX12_pairs 28 = .ok (.invokestatic 226, 3) := by decide +kernel
theorem dX12_pairs_31 : decode cX12_pairs 31 = .ok (.aload_n 0, 1) := by decide +kernel
theorem dX12_pairs_32 : decode cX12_pairs 32 = .ok (.getfield 41, 3) := by decide +kernel
theorem dX12_pairs_35 : decode cX12_pairs 35 = .ok (.if_icmp .gt 7, 3) := by decide +kernel
theorem dX12_pairs_38 : decode cX12_pairs 38 = .ok (.iconst 1, 1) := by decide +kernel
theorem dX12_pairs_39 : decode cX12_pairs 39 = .ok (.goto 4, 3) := by decide +kernel
theorem dX12_pairs_42 : decode cX12_pairs 42 = .ok (.iconst 0, 1) := by decide +kernel
theorem dX12_pairs_43 : decode cX12_pairs 43 = .ok (.ireturn, 1) := by decide +kernel
theorem zy_X12_pairs : zYv yX12_pairs cX12_pairs 3 (some .boolean) 2 := ⟨zw_1526, zws_51, zw_12, zw_1527, by decide, by decide, by decide⟩
theorem c_X12_pairs_0 {C : zC} {I : Nat → Nat → Int32} {J : Nat → Nat → Int64} {Rr : Nat → Nat → Option Nat} {D : zD} (a1 : Int32) (a2 : Int32) (v_grain : Int32) (e_v_grain : I 128 10 = v_grain) (v_cutAt : (Nat → Int32)) (e_v_cutAt : I 136 = v_cutAt) (v_cutWorth : (Nat → Int32)) (e_v_cutWorth : I 137 = v_cutWorth) (rr : Int32) (E : zE C RX12 cX12_pairs 3 (some .boolean) ({ frames := 1, cells := 0, slots := 0, locals := 20 } : Room)) (hQ : C.Q = zQi C ({ frames := 1, cells := 0, slots := 0, locals := 20 } : Room) rr (I, J, Rr, D)) (h : pM_pairs a1 a2 v_grain v_cutAt v_cutWorth = some rr) : zB C (0, 0) 0 [(0, .ref (C.X.1 + 128)), (1, .int a1), (2, .int a2)] [] (I, J, Rr, D) := by
  refine zb_aload_n E dX12_pairs_0 0 rfl rfl ?_
  refine zb_get E 128 (by decide) (zF_128 C.X) rfl zin12 8 (by decide) zw_1176 (v := .ref (C.X.1 + 137)) rfl dX12_pairs_1 ?_
  refine zb_iload_n E dX12_pairs_4 1 rfl rfl ?_
  obtain ⟨g1, h⟩ := gd_s h
  refine zb_iald E 137 (by decide) zF_137 (f := v_cutWorth) (by exact e_v_cutWorth) (ib_in g1) dX12_pairs_5 ?_
  refine zb_aload_n E dX12_pairs_6 0 rfl rfl ?_
  refine zb_get E 128 (by decide) (zF_128 C.X) rfl zin12 8 (by decide) zw_1176 (v := .ref (C.X.1 + 137)) rfl dX12_pairs_7 ?_
  refine zb_iload_n E dX12_pairs_10 2 rfl rfl ?_
  obtain ⟨g2, h⟩ := gd_s h
  refine zb_iald E 137 (by decide) zF_137 (f := v_cutWorth) (by exact e_v_cutWorth) (ib_in g2) dX12_pairs_11 ?_
  refine zb_icmp_ne E dX12_pairs_12 (tgt := 42) rfl (fun hc => ?_) (fun hc => ?_)
  · have h := if_f h hc
    refine zb_iconst E dX12_pairs_42 (v := 0) rfl ?_
    obtain rfl := zinj1 h
    exact zb_zret E hQ (ty := .boolean) rfl rfl ⟨Nat.zero_le _, Nat.zero_le _⟩ dX12_pairs_43
  · have h := if_t h hc
    refine zb_aload_n E dX12_pairs_15 0 rfl rfl ?_
    refine zb_get E 128 (by decide) (zF_128 C.X) rfl zin12 7 (by decide) zw_1175 (v := .ref (C.X.1 + 136)) rfl dX12_pairs_16 ?_
    refine zb_iload_n E dX12_pairs_19 1 rfl rfl ?_
    refine zb_iald E 136 (by decide) zF_136 (f := v_cutAt) (by exact e_v_cutAt) (ib_in g1) dX12_pairs_20 ?_
    refine zb_aload_n E dX12_pairs_21 0 rfl rfl ?_
    refine zb_get E 128 (by decide) (zF_128 C.X) rfl zin12 7 (by decide) zw_1175 (v := .ref (C.X.1 + 136)) rfl dX12_pairs_22 ?_
    refine zb_iload_n E dX12_pairs_25 2 rfl rfl ?_
    refine zb_iald E 136 (by decide) zF_136 (f := v_cutAt) (by exact e_v_cutAt) (ib_in g2) dX12_pairs_26 ?_
    refine zb_isub E dX12_pairs_27 ?_
    obtain ⟨rc3, hc_28, h⟩ := bd1_s h
    refine zb_cSi E [.int ((v_cutAt (ix a1)) - (v_cutAt (ix a2)))] zy_X12_size zw_1480 (c_X12_size hc_28) (by decide) rfl rfl (by first | decide | simp [Value.category]) dX12_pairs_28 (cs2 := (0, 0)) rfl ?_
    refine zb_aload_n E dX12_pairs_31 0 rfl rfl ?_
    refine zb_get E 128 (by decide) (zF_128 C.X) rfl zin12 10 (by decide) zw_1178 (v := .int v_grain) (by exact congrArg (fun z => some (Value.int z)) e_v_grain) dX12_pairs_32 ?_
    refine zb_icmp_gt E dX12_pairs_35 (tgt := 42) rfl (fun hc => ?_) (fun hc => ?_)
    · have h := if_t h hc
      refine zb_iconst E dX12_pairs_42 (v := 0) rfl ?_
      obtain rfl := zinj1 h
      exact zb_zret E hQ (ty := .boolean) rfl rfl ⟨Nat.zero_le _, Nat.zero_le _⟩ dX12_pairs_43
    · have h := if_f h hc
      refine zb_iconst E dX12_pairs_38 (v := 1) rfl ?_
      refine zb_goto E dX12_pairs_39 (tgt := 43) rfl ?_
      obtain rfl := zinj1 h
      exact zb_zret E hQ (ty := .boolean) rfl rfl ⟨Nat.zero_le _, Nat.zero_le _⟩ dX12_pairs_43
theorem c_X12_pairs {l : Launch} {X : zX} {I : Nat → Nat → Int32} {J : Nat → Nat → Int64} {Rr : Nat → Nat → Option Nat} {D : zD} {a1 : Int32} {a2 : Int32} (v_grain : Int32) (e_v_grain : I 128 10 = v_grain) (v_cutAt : (Nat → Int32)) (e_v_cutAt : I 136 = v_cutAt) (v_cutWorth : (Nat → Int32)) (e_v_cutWorth : I 137 = v_cutWorth) {rr : Int32} (h : pM_pairs a1 a2 v_grain v_cutAt v_cutWorth = some rr) : zMi l yX12_pairs cX12_pairs 3 (some .boolean) ({ frames := 1, cells := 0, slots := 0, locals := 20 } : Room) X [.ref (X.1 + 128), .int a1, .int a2] (I, J, Rr, D) rr (I, J, Rr, D) := by
  refine zMi.of (by decide) (Nat.le_of_ble_eq_true rfl) (fun C E hl hX hQ => ?_)
  subst hl
  subst hX
  have eI0 : I = I := rfl
  have eJ0 : J = J := rfl
  refine zb_S (S2 := (I, J, Rr, D)) (zS_eq eI0.symm eJ0.symm) ?_
  exact c_X12_pairs_0 a1 a2 v_grain e_v_grain v_cutAt e_v_cutAt v_cutWorth e_v_cutWorth rr E hQ h
-- ChequeredClothModel.fitOf
theorem dX12_fitOf_0 : decode cX12_fitOf 0 = .ok (.iconst 0, 1) := by decide +kernel
theorem dX12_fitOf_1 : decode cX12_fitOf 1 = .ok (.istore_n 3, 1) := by decide +kernel
theorem dX12_fitOf_2 : decode cX12_fitOf 2 = .ok (.iload_n 3, 1) := by decide +kernel
theorem dX12_fitOf_3 : decode cX12_fitOf 3 = .ok (.aload_n 0, 1) := by decide +kernel
theorem dX12_fitOf_4 : decode cX12_fitOf 4 = .ok (.getfield 28, 3) := by decide +kernel
theorem dX12_fitOf_7 : decode cX12_fitOf 7 = .ok (.iload_n 1, 1) := by decide +kernel
theorem dX12_fitOf_8 : decode cX12_fitOf 8 = .ok (.iaload, 1) := by decide +kernel
theorem dX12_fitOf_9 : decode cX12_fitOf 9 = .ok (.if_icmp .gt 253, 3) := by decide +kernel
theorem dX12_fitOf_12 : decode cX12_fitOf 12 = .ok (.iconst 0, 1) := by decide +kernel
theorem dX12_fitOf_13 : decode cX12_fitOf 13 = .ok (.istore 4, 2) := by decide +kernel
theorem dX12_fitOf_15 : decode cX12_fitOf 15 = .ok (.iload 4, 2) := by decide +kernel
theorem dX12_fitOf_17 : decode cX12_fitOf 17 = .ok (.aload_n 0, 1) := by decide +kernel
theorem dX12_fitOf_18 : decode cX12_fitOf 18 = .ok (.getfield 28, 3) := by decide +kernel
theorem dX12_fitOf_21 : decode cX12_fitOf 21 = .ok (.iload_n 2, 1) := by decide +kernel
theorem dX12_fitOf_22 : decode cX12_fitOf 22 = .ok (.iaload, 1) := by decide +kernel
theorem dX12_fitOf_23 : decode cX12_fitOf 23 = .ok (.if_icmp .gt 233, 3) := by decide +kernel
theorem dX12_fitOf_26 : decode cX12_fitOf 26 = .ok (.iload_n 3, 1) := by decide +kernel
theorem dX12_fitOf_27 : decode cX12_fitOf 27 = .ok (.ifCond .ne 12, 3) := by decide +kernel
theorem dX12_fitOf_30 : decode cX12_fitOf 30 = .ok (.iload 4, 2) := by decide +kernel
theorem dX12_fitOf_32 : decode cX12_fitOf 32 = .ok (.ifCond .ne 7, 3) := by decide +kernel
theorem dX12_fitOf_35 : decode cX12_fitOf 35 = .ok (.iconst 0, 1) := by decide +kernel
theorem dX12_fitOf_36 : decode cX12_fitOf 36 = .ok (.goto 5, 3) := by decide +kernel
theorem dX12_fitOf_39 : decode cX12_fitOf 39 = .ok (.ldc 225, 2) := by decide +kernel
theorem dX12_fitOf_41 : decode cX12_fitOf 41 = .ok (.istore 5, 2) := by decide +kernel
theorem dX12_fitOf_43 : decode cX12_fitOf 43 = .ok (.iload_n 3, 1) := by decide +kernel
theorem dX12_fitOf_44 : decode cX12_fitOf 44 = .ok (.ifCond .le 48, 3) := by decide +kernel
theorem dX12_fitOf_47 : decode cX12_fitOf 47 = .ok (.aload_n 0, 1) := by decide +kernel
theorem dX12_fitOf_48 : decode cX12_fitOf 48 = .ok (.getfield 51, 3) := by decide +kernel
theorem dX12_fitOf_51 : decode cX12_fitOf 51 = .ok (.bipush 13, 2) := by decide +kernel
theorem dX12_fitOf_53 : decode cX12_fitOf 53 = .ok (.iload_n 3, 1) := by decide +kernel
theorem dX12_fitOf_54 : decode cX12_fitOf 54 = .ok (.iconst 1, 1) := by decide +kernel
theorem dX12_fitOf_55 : decode cX12_fitOf 55 = .ok (.isub, 1) := by decide +kernel
theorem dX12_fitOf_56 : decode cX12_fitOf 56 = .ok (.imul, 1) := by decide +kernel
theorem dX12_fitOf_57 : decode cX12_fitOf 57 = .ok (.iload 4, 2) := by decide +kernel
theorem dX12_fitOf_59 : decode cX12_fitOf 59 = .ok (.iadd, 1) := by decide +kernel
theorem dX12_fitOf_60 : decode cX12_fitOf 60 = .ok (.iaload, 1) := by decide +kernel
theorem dX12_fitOf_61 : decode cX12_fitOf 61 = .ok (.aload_n 0, 1) := by decide +kernel
theorem dX12_fitOf_62 : decode cX12_fitOf 62 = .ok (.getfield 45, 3) := by decide +kernel
theorem dX12_fitOf_65 : decode cX12_fitOf 65 = .ok (.iadd, 1) := by decide +kernel
theorem dX12_fitOf_66 : decode cX12_fitOf 66 = .ok (.iload 5, 2) := by decide +kernel
theorem dX12_fitOf_68 : decode cX12_fitOf 68 = .ok (.if_icmp .ge 24, 3) := by decide +kernel
theorem dX12_fitOf_71 : decode cX12_fitOf 71 = .ok (.aload_n 0, 1) := by decide +kernel
theorem dX12_fitOf_72 : decode cX12_fitOf 72 = .ok (.getfield 51, 3) := by decide +kernel
theorem dX12_fitOf_75 : decode cX12_fitOf 75 = .ok (.bipush 13, 2) := by decide +kernel
theorem dX12_fitOf_77 : decode cX12_fitOf 77 = .ok (.iload_n 3, 1) := by decide +kernel
theorem dX12_fitOf_78 : decode cX12_fitOf 78 = .ok (.iconst 1, 1) := by decide +kernel
theorem dX12_fitOf_79 : decode cX12_fitOf 79 = .ok (.isub, 1) := by decide +kernel
theorem dX12_fitOf_80 : decode cX12_fitOf 80 = .ok (.imul, 1) := by decide +kernel
theorem dX12_fitOf_81 : decode cX12_fitOf 81 = .ok (.iload 4, 2) := by decide +kernel
theorem dX12_fitOf_83 : decode cX12_fitOf 83 = .ok (.iadd, 1) := by decide +kernel
theorem dX12_fitOf_84 : decode cX12_fitOf 84 = .ok (.iaload, 1) := by decide +kernel
theorem dX12_fitOf_85 : decode cX12_fitOf 85 = .ok (.aload_n 0, 1) := by decide +kernel
theorem dX12_fitOf_86 : decode cX12_fitOf 86 = .ok (.getfield 45, 3) := by decide +kernel
theorem dX12_fitOf_89 : decode cX12_fitOf 89 = .ok (.iadd, 1) := by decide +kernel
theorem dX12_fitOf_90 : decode cX12_fitOf 90 = .ok (.istore 5, 2) := by decide +kernel
theorem dX12_fitOf_92 : decode cX12_fitOf 92 = .ok (.iload 4, 2) := by decide +kernel
theorem dX12_fitOf_94 : decode cX12_fitOf 94 = .ok (.ifCond .le 48, 3) := by decide +kernel
theorem dX12_fitOf_97 : decode cX12_fitOf 97 = .ok (.aload_n 0, 1) := by decide +kernel
theorem dX12_fitOf_98 : decode cX12_fitOf 98 = .ok (.getfield 51, 3) := by decide +kernel
theorem dX12_fitOf_101 : decode cX12_fitOf 101 = .ok (.bipush 13, 2) := by decide +kernel
theorem dX12_fitOf_103 : decode cX12_fitOf 103 = .ok (.iload_n 3, 1) := by decide +kernel
theorem dX12_fitOf_104 : decode cX12_fitOf 104 = .ok (.imul, 1) := by decide +kernel
theorem dX12_fitOf_105 : decode cX12_fitOf 105 = .ok (.iload 4, 2) := by decide +kernel
theorem dX12_fitOf_107 : decode cX12_fitOf 107 = .ok (.iadd, 1) := by decide +kernel
theorem dX12_fitOf_108 : decode cX12_fitOf 108 = .ok (.iconst 1, 1) := by decide +kernel
theorem dX12_fitOf_109 : decode cX12_fitOf 109 = .ok (.isub, 1) := by decide +kernel
theorem dX12_fitOf_110 : decode cX12_fitOf 110 = .ok (.iaload, 1) := by decide +kernel
theorem dX12_fitOf_111 : decode cX12_fitOf 111 = .ok (.aload_n 0, 1) := by decide +kernel
theorem dX12_fitOf_112 : decode cX12_fitOf 112 = .ok (.getfield 45, 3) := by decide +kernel
theorem dX12_fitOf_115 : decode cX12_fitOf 115 = .ok (.iadd, 1) := by decide +kernel
theorem dX12_fitOf_116 : decode cX12_fitOf 116 = .ok (.iload 5, 2) := by decide +kernel
theorem dX12_fitOf_118 : decode cX12_fitOf 118 = .ok (.if_icmp .ge 24, 3) := by decide +kernel
theorem dX12_fitOf_121 : decode cX12_fitOf 121 = .ok (.aload_n 0, 1) := by decide +kernel
theorem dX12_fitOf_122 : decode cX12_fitOf 122 = .ok (.getfield 51, 3) := by decide +kernel
theorem dX12_fitOf_125 : decode cX12_fitOf 125 = .ok (.bipush 13, 2) := by decide +kernel
theorem dX12_fitOf_127 : decode cX12_fitOf 127 = .ok (.iload_n 3, 1) := by decide +kernel
theorem dX12_fitOf_128 : decode cX12_fitOf 128 = .ok (.imul, 1) := by decide +kernel
theorem dX12_fitOf_129 : decode cX12_fitOf 129 = .ok (.iload 4, 2) := by decide +kernel
theorem dX12_fitOf_131 : decode cX12_fitOf 131 = .ok (.iadd, 1) := by decide +kernel
theorem dX12_fitOf_132 : decode cX12_fitOf 132 = .ok (.iconst 1, 1) := by decide +kernel
theorem dX12_fitOf_133 : decode cX12_fitOf 133 = .ok (.isub, 1) := by decide +kernel
theorem dX12_fitOf_134 : decode cX12_fitOf 134 = .ok (.iaload, 1) := by decide +kernel
theorem dX12_fitOf_135 : decode cX12_fitOf 135 = .ok (.aload_n 0, 1) := by decide +kernel
theorem dX12_fitOf_136 : decode cX12_fitOf 136 = .ok (.getfield 45, 3) := by decide +kernel
theorem dX12_fitOf_139 : decode cX12_fitOf 139 = .ok (.iadd, 1) := by decide +kernel
theorem dX12_fitOf_140 : decode cX12_fitOf 140 = .ok (.istore 5, 2) := by decide +kernel
theorem dX12_fitOf_142 : decode cX12_fitOf 142 = .ok (.iload_n 3, 1) := by decide +kernel
theorem dX12_fitOf_143 : decode cX12_fitOf 143 = .ok (.ifCond .le 93, 3) := by decide +kernel
theorem dX12_fitOf_146 : decode cX12_fitOf 146 = .ok (.iload 4, 2) := by decide +kernel
theorem dX12_fitOf_148 : decode cX12_fitOf 148 = .ok (.ifCond .le 88, 3) := by decide +kernel
theorem dX12_fitOf_151 : decode cX12_fitOf 151 = .ok (.aload_n 0, 1) := by decide +kernel
theorem dX12_fitOf_152 : decode cX12_fitOf 152 = .ok (.bipush 12, 2) := by decide +kernel
theorem dX12_fitOf_154 : decode cX12_fitOf 154 = .ok (.iload_n 1, 1) := by decide +kernel
theorem dX12_fitOf_155 : decode cX12_fitOf 155 = .ok (.imul, 1) := by decide +kernel
theorem dX12_fitOf_156 : decode cX12_fitOf 156 = .ok (.iload_n 3, 1) := by decide +kernel
theorem dX12_fitOf_157 : decode cX12_fitOf 157 = .ok (.iadd, 1) := by decide +kernel
theorem dX12_fitOf_158 : decode cX12_fitOf 158 = .ok (.iconst 1, 1) := by decide +kernel
theorem dX12_fitOf_159 : decode cX12_fitOf 159 = .ok (.isub, 1) := by decide +kernel
theorem dX12_fitOf_160 : decode cX12_fitOf 160 = .ok (.bipush 12, 2) := by decide +kernel
theorem dX12_fitOf_162 : decode cX12_fitOf 162 = .ok (.iload_n 2, 1) := by decide +kernel
theorem dX12_fitOf_163 : decode cX12_fitOf 163 = .ok (.imul, 1) := by decide +kernel
theorem dX12_fitOf_164 : decode cX12_fitOf 164 = .ok (.iload 4, 2) := by decide +kernel
theorem dX12_fitOf_166 : decode cX12_fitOf 166 = .ok (.iadd, 1) := by decide +kernel
theorem dX12_fitOf_167 : decode cX12_fitOf 167 = .ok (.iconst 1, 1) := by decide +kernel
theorem dX12_fitOf_168 : decode cX12_fitOf 168 = .ok (.isub, 1) := by decide +kernel
theorem dX12_fitOf_169 : decode cX12_fitOf 169 = .ok (.invokevirtual 252, 3) := by decide +kernel
theorem dX12_fitOf_172 : decode cX12_fitOf 172 = .ok (.ifCond .eq 64, 3) := by decide +kernel
theorem dX12_fitOf_175 : decode cX12_fitOf 175 = .ok (.aload_n 0, 1) := by decide +kernel
theorem dX12_fitOf_176 : decode cX12_fitOf 176 = .ok (.getfield 51, 3) := by decide +kernel
theorem dX12_fitOf_179 : decode cX12_fitOf 179 = .ok (.bipush 13, 2) := by decide +kernel
theorem dX12_fitOf_181 : decode cX12_fitOf 181 = .ok (.iload_n 3, 1) := by decide +kernel
theorem dX12_fitOf_182 : decode cX12_fitOf 182 = .ok (.iconst 1, 1) := by decide +kernel
theorem dX12_fitOf_183 : decode cX12_fitOf 183 = .ok (.isub, 1) := by decide +kernel
theorem dX12_fitOf_184 : decode cX12_fitOf 184 = .ok (.imul, 1) := by decide +kernel
theorem dX12_fitOf_185 : decode cX12_fitOf 185 = .ok (.iload 4, 2) := by decide +kernel
theorem dX12_fitOf_187 : decode cX12_fitOf 187 = .ok (.iadd, 1) := by decide +kernel
theorem dX12_fitOf_188 : decode cX12_fitOf 188 = .ok (.iconst 1, 1) := by decide +kernel
theorem dX12_fitOf_189 : decode cX12_fitOf 189 = .ok (.isub, 1) := by decide +kernel
theorem dX12_fitOf_190 : decode cX12_fitOf 190 = .ok (.iaload, 1) := by decide +kernel
theorem dX12_fitOf_191 : decode cX12_fitOf 191 = .ok (.aload_n 0, 1) := by decide +kernel
theorem dX12_fitOf_192 : decode cX12_fitOf 192 = .ok (.getfield 31, 3) := by decide +kernel
theorem dX12_fitOf_195 : decode cX12_fitOf 195 = .ok (.bipush 12, 2) := by decide +kernel
theorem dX12_fitOf_197 : decode cX12_fitOf 197 = .ok (.iload_n 1, 1) := by decide +kernel
theorem dX12_fitOf_198 : decode cX12_fitOf 198 = .ok (.imul, 1) := by decide +kernel
theorem dX12_fitOf_199 : decode cX12_fitOf 199 = .ok (.iload_n 3, 1) := by decide +kernel
theorem dX12_fitOf_200 : decode cX12_fitOf 200 = .ok (.iadd, 1) := by decide +kernel
theorem dX12_fitOf_201 : decode cX12_fitOf 201 = .ok (.iconst 1, 1) := by decide +kernel
theorem dX12_fitOf_202 : decode cX12_fitOf 202 = .ok (.isub, 1) := by decide +kernel
theorem dX12_fitOf_203 : decode cX12_fitOf 203 = .ok (.iaload, 1) := by decide +kernel
theorem dX12_fitOf_204 : decode cX12_fitOf 204 = .ok (.aload_n 0, 1) := by decide +kernel
theorem dX12_fitOf_205 : decode cX12_fitOf 205 = .ok (.getfield 31, 3) := by decide +kernel
theorem dX12_fitOf_208 : decode cX12_fitOf 208 = .ok (.bipush 12, 2) := by decide +kernel
theorem dX12_fitOf_210 : decode cX12_fitOf 210 = .ok (.iload_n 2, 1) := by decide +kernel
theorem dX12_fitOf_211 : decode cX12_fitOf 211 = .ok (.imul, 1) := by decide +kernel
theorem dX12_fitOf_212 : decode cX12_fitOf 212 = .ok (.iload 4, 2) := by decide +kernel
theorem dX12_fitOf_214 : decode cX12_fitOf 214 = .ok (.iadd, 1) := by decide +kernel
theorem dX12_fitOf_215 : decode cX12_fitOf 215 = .ok (.iconst 1, 1) := by decide +kernel
theorem dX12_fitOf_216 : decode cX12_fitOf 216 = .ok (.isub, 1) := by decide +kernel
theorem dX12_fitOf_217 : decode cX12_fitOf 217 = .ok (.iaload, 1) := by decide +kernel
theorem dX12_fitOf_218 : decode cX12_fitOf 218 = .ok (.isub, 1) := by decide +kernel
theorem dX12_fitOf_219 : decode cX12_fitOf 219 = .ok (.invokestatic 226, 3) := by decide +kernel
theorem dX12_fitOf_222 : decode cX12_fitOf 222 = .ok (.iadd, 1) := by decide +kernel
theorem dX12_fitOf_223 : decode cX12_fitOf 223 = .ok (.istore 6, 2) := by decide +kernel
theorem dX12_fitOf_225 : decode cX12_fitOf 225 = .ok (.iload 6, 2) := by decide +kernel
theorem dX12_fitOf_227 : decode cX12_fitOf 227 = .ok (.iload 5, 2) := by decide +kernel
theorem dX12_fitOf_229 : decode cX12_fitOf 229 = .ok (.if_icmp .ge 7, 3) := by decide +kernel
theorem dX12_fitOf_232 : decode cX12_fitOf 232 = .ok (.iload 6, 2) := by decide +kernel
theorem dX12_fitOf_234 : decode cX12_fitOf 234 = .ok (.istore 5, 2) := by decide +kernel
theorem dX12_fitOf_236 : decode cX12_fitOf 236 = .ok (.aload_n 0, 1) := by decide +kernel
theorem dX12_fitOf_237 : decode cX12_fitOf 237 = .ok (.getfield 51, 3) := by decide +kernel
theorem dX12_fitOf_240 : decode cX12_fitOf 240 = .ok (.bipush 13, 2) := by decide +kernel
theorem dX12_fitOf_242 : decode cX12_fitOf 242 = .ok (.iload_n 3, 1) := by decide +kernel
theorem dX12_fitOf_243 : decode cX12_fitOf 243 = .ok (.imul, 1) := by decide +kernel
theorem dX12_fitOf_244 : decode cX12_fitOf 244 = .ok (.iload 4, 2) := by decide +kernel
theorem dX12_fitOf_246 : decode cX12_fitOf 246 = .ok (.iadd, 1) := by decide +kernel
theorem dX12_fitOf_247 : decode cX12_fitOf 247 = .ok (.iload 5, 2) := by decide +kernel
theorem dX12_fitOf_249 : decode cX12_fitOf 249 = .ok (.iastore, 1) := by decide +kernel
theorem dX12_fitOf_250 : decode cX12_fitOf 250 = .ok (.iinc 4 1, 3) := by decide +kernel
theorem dX12_fitOf_253 : decode cX12_fitOf 253 = .ok (.goto (-238), 3) := by decide +kernel
theorem dX12_fitOf_256 : decode cX12_fitOf 256 = .ok (.iinc 3 1, 3) := by decide +kernel
theorem dX12_fitOf_259 : decode cX12_fitOf 259 = .ok (.goto (-257), 3) := by decide +kernel
theorem dX12_fitOf_262 : decode cX12_fitOf 262 = .ok (.aload_n 0, 1) := by decide +kernel
theorem dX12_fitOf_263 : decode cX12_fitOf 263 = .ok (.getfield 51, 3) := by decide +kernel
theorem dX12_fitOf_266 : decode cX12_fitOf 266 = .ok (.bipush 13, 2) := by decide +kernel
theorem dX12_fitOf_268 : decode cX12_fitOf 268 = .ok (.aload_n 0, 1) := by decide +kernel
theorem dX12_fitOf_269 : decode cX12_fitOf 269 = .ok (.getfield 28, 3) := by decide +kernel
theorem dX12_fitOf_272 : decode cX12_fitOf 272 = .ok (.iload_n 1, 1) := by decide +kernel
theorem dX12_fitOf_273 : decode cX12_fitOf 273 = .ok (.iaload, 1) := by decide +kernel
theorem dX12_fitOf_274 : decode cX12_fitOf 274 = .ok (.imul, 1) := by decide +kernel
theorem dX12_fitOf_275 : decode cX12_fitOf 275 = .ok (.aload_n 0, 1) := by decide +kernel
theorem dX12_fitOf_276 : decode cX12_fitOf 276 = .ok (.getfield 28, 3) := by decide +kernel
theorem dX12_fitOf_279 : decode cX12_fitOf 279 = .ok (.iload_n 2, 1) := by decide +kernel
theorem dX12_fitOf_280 : decode cX12_fitOf 280 = .ok (.iaload, 1) := by decide +kernel
theorem dX12_fitOf_281 : decode cX12_fitOf 281 = .ok (.iadd, 1) := by decide +kernel
theorem dX12_fitOf_282 : decode cX12_fitOf 282 = .ok (.iaload, 1) := by decide +kernel
theorem dX12_fitOf_283 : decode cX12_fitOf 283 = .ok (.ireturn, 1) := by decide +kernel
theorem zy_X12_fitOf : zYv yX12_fitOf cX12_fitOf 7 (some .int) 2 := ⟨zw_1522, zws_50, zw_12, zw_1523, by decide, by decide, by decide⟩
theorem c_X12_fitOf_b236 {C : zC} {I : Nat → Nat → Int32} {J : Nat → Nat → Int64} {Rr : Nat → Nat → Option Nat} {D : zD} (N : Nat) (a1 : Int32) (a2 : Int32) (v_grain : Int32) (e_v_grain : I 128 10 = v_grain) (v_lost : Int32) (e_v_lost : I 128 11 = v_lost) (v_cutAt : (Nat → Int32)) (e_v_cutAt : I 136 = v_cutAt) (v_cutWorth : (Nat → Int32)) (e_v_cutWorth : I 137 = v_cutWorth) (v_cuts : (Nat → Int32)) (e_v_cuts : I 135 = v_cuts) (rr : Int32) (y_v_cost : (Nat → Int32)) (E : zE C RX12 cX12_fitOf 7 (some .int) ({ frames := 2, cells := 0, slots := 0, locals := 42 } : Room)) (hQ : C.Q = zQi C ({ frames := 2, cells := 0, slots := 0, locals := 42 } : Room) rr ((va_up I 139 y_v_cost), J, Rr, D)) (x3 : Int32) (x4 : Int32) (x5 : Int32) (v_cost : (Nat → Int32)) (self : Int32 → (Nat → Int32) → Option R_pM_fitOf) (ih : ∀ (x4 : Int32) (v_cost : (Nat → Int32)), self x4 v_cost = some (rr, y_v_cost) → zB C (0, 0) 15 [(0, .ref (C.X.1 + 128)), (1, .int a1), (2, .int a2), (3, .int x3), (4, .int x4)] [] ((va_up I 139 v_cost), J, Rr, D)) (k256 : (Nat → Int32) → Option R_pM_fitOf) (hk256 : ∀ (v_cost : (Nat → Int32)), k256 v_cost = some (rr, y_v_cost) → zB C (0, 0) 256 [(0, .ref (C.X.1 + 128)), (1, .int a1), (2, .int a2), (3, .int x3)] [] ((va_up I 139 v_cost), J, Rr, D)) (h : pM_fitOf_b236 N a1 a2 v_grain v_lost v_cutAt v_cutWorth v_cuts self k256 x3 x4 x5 v_cost = some (rr, y_v_cost)) : zB C (0, 0) 236 [(0, .ref (C.X.1 + 128)), (1, .int a1), (2, .int a2), (3, .int x3), (4, .int x4), (5, .int x5)] [] ((va_up I 139 v_cost), J, Rr, D) := by
  refine zb_aload_n E dX12_fitOf_236 0 rfl rfl ?_
  refine zb_get E 128 (by decide) (zF_128 C.X) rfl zin12 13 (by decide) zw_1181 (v := .ref (C.X.1 + 139)) rfl dX12_fitOf_237 ?_
  refine zb_bipush E dX12_fitOf_240 (v := 13) rfl ?_
  refine zb_iload_n E dX12_fitOf_242 3 rfl rfl ?_
  refine zb_imul E dX12_fitOf_243 ?_
  refine zb_iload E dX12_fitOf_244 4 rfl ?_
  refine zb_iadd E dX12_fitOf_246 ?_
  refine zb_iload E dX12_fitOf_247 5 rfl ?_
  obtain ⟨g12, h⟩ := gd_s h
  refine zb_iast E 139 (by decide) zF_139 (f := v_cost) rfl (ib_in g12) dX12_fitOf_249 (I2 := (va_up I 139 (upd v_cost (ix ((13 * x3) + x4)) x5))) zn1 ?_
  refine zb_iinc E dX12_fitOf_250 4 rfl (v := (x4 + 1)) rfl (by decide) (lv2 := [(4, .int (x4 + 1)), (0, .ref (C.X.1 + 128)), (1, .int a1), (2, .int a2), (3, .int x3), (5, .int x5)]) rfl ?_
  refine zb_goto E dX12_fitOf_253 (tgt := 15) rfl ?_
  refine zb_sub [1, 2, 3, 4, 0] rfl ?_
  exact ih (x4 + 1) (upd v_cost (ix ((13 * x3) + x4)) x5) h
theorem c_X12_fitOf_b142 {C : zC} {I : Nat → Nat → Int32} {J : Nat → Nat → Int64} {Rr : Nat → Nat → Option Nat} {D : zD} (N : Nat) (a1 : Int32) (a2 : Int32) (v_grain : Int32) (e_v_grain : I 128 10 = v_grain) (v_lost : Int32) (e_v_lost : I 128 11 = v_lost) (v_cutAt : (Nat → Int32)) (e_v_cutAt : I 136 = v_cutAt) (v_cutWorth : (Nat → Int32)) (e_v_cutWorth : I 137 = v_cutWorth) (v_cuts : (Nat → Int32)) (e_v_cuts : I 135 = v_cuts) (rr : Int32) (y_v_cost : (Nat → Int32)) (E : zE C RX12 cX12_fitOf 7 (some .int) ({ frames := 2, cells := 0, slots := 0, locals := 42 } : Room)) (hQ : C.Q = zQi C ({ frames := 2, cells := 0, slots := 0, locals := 42 } : Room) rr ((va_up I 139 y_v_cost), J, Rr, D)) (x3 : Int32) (x4 : Int32) (x5 : Int32) (v_cost : (Nat → Int32)) (self : Int32 → (Nat → Int32) → Option R_pM_fitOf) (ih : ∀ (x4 : Int32) (v_cost : (Nat → Int32)), self x4 v_cost = some (rr, y_v_cost) → zB C (0, 0) 15 [(0, .ref (C.X.1 + 128)), (1, .int a1), (2, .int a2), (3, .int x3), (4, .int x4)] [] ((va_up I 139 v_cost), J, Rr, D)) (k256 : (Nat → Int32) → Option R_pM_fitOf) (hk256 : ∀ (v_cost : (Nat → Int32)), k256 v_cost = some (rr, y_v_cost) → zB C (0, 0) 256 [(0, .ref (C.X.1 + 128)), (1, .int a1), (2, .int a2), (3, .int x3)] [] ((va_up I 139 v_cost), J, Rr, D)) (h : pM_fitOf_b142 N a1 a2 v_grain v_lost v_cutAt v_cutWorth v_cuts self k256 x3 x4 x5 v_cost = some (rr, y_v_cost)) : zB C (0, 0) 142 [(0, .ref (C.X.1 + 128)), (1, .int a1), (2, .int a2), (3, .int x3), (4, .int x4), (5, .int x5)] [] ((va_up I 139 v_cost), J, Rr, D) := by
  refine zb_iload_n E dX12_fitOf_142 3 rfl rfl ?_
  refine zb_if_le E dX12_fitOf_143 (tgt := 236) rfl (fun hc => ?_) (fun hc => ?_)
  · have h := if_t h hc
    exact c_X12_fitOf_b236 N a1 a2 v_grain e_v_grain v_lost e_v_lost v_cutAt e_v_cutAt v_cutWorth e_v_cutWorth v_cuts e_v_cuts rr y_v_cost E hQ x3 x4 x5 v_cost self ih k256 hk256 h
  · have h := if_f h hc
    refine zb_iload E dX12_fitOf_146 4 rfl ?_
    refine zb_if_le E dX12_fitOf_148 (tgt := 236) rfl (fun hc => ?_) (fun hc => ?_)
    · have h := if_t h hc
      exact c_X12_fitOf_b236 N a1 a2 v_grain e_v_grain v_lost e_v_lost v_cutAt e_v_cutAt v_cutWorth e_v_cutWorth v_cuts e_v_cuts rr y_v_cost E hQ x3 x4 x5 v_cost self ih k256 hk256 h
    · have h := if_f h hc
      refine zb_aload_n E dX12_fitOf_151 0 rfl rfl ?_
      refine zb_bipush E dX12_fitOf_152 (v := 12) rfl ?_
      refine zb_iload_n E dX12_fitOf_154 1 rfl rfl ?_
      refine zb_imul E dX12_fitOf_155 ?_
      refine zb_iload_n E dX12_fitOf_156 3 rfl rfl ?_
      refine zb_iadd E dX12_fitOf_157 ?_
      refine zb_iconst E dX12_fitOf_158 (v := 1) rfl ?_
      refine zb_isub E dX12_fitOf_159 ?_
      refine zb_bipush E dX12_fitOf_160 (v := 12) rfl ?_
      refine zb_iload_n E dX12_fitOf_162 2 rfl rfl ?_
      refine zb_imul E dX12_fitOf_163 ?_
      refine zb_iload E dX12_fitOf_164 4 rfl ?_
      refine zb_iadd E dX12_fitOf_166 ?_
      refine zb_iconst E dX12_fitOf_167 (v := 1) rfl ?_
      refine zb_isub E dX12_fitOf_168 ?_
      obtain ⟨rc7, hc_169, h⟩ := bd1_s h
      refine zb_cVi E [.int (((12 * a1) + x3) - 1), .int (((12 * a2) + x4) - 1)] 128 zy_X12_pairs zw_1524 (by decide) (zF_128 _ _ _ _) rfl (c_X12_pairs v_grain (by exact e_v_grain) v_cutAt (by exact e_v_cutAt) v_cutWorth (by exact e_v_cutWorth) hc_169) (by decide) rfl rfl (by first | decide | simp [Value.category]) dX12_fitOf_169 (cs2 := (0, 0)) rfl ?_
      refine zb_if_eq E dX12_fitOf_172 (tgt := 236) rfl (fun hc => ?_) (fun hc => ?_)
      · have h := if_t h hc
        exact c_X12_fitOf_b236 N a1 a2 v_grain e_v_grain v_lost e_v_lost v_cutAt e_v_cutAt v_cutWorth e_v_cutWorth v_cuts e_v_cuts rr y_v_cost E hQ x3 x4 x5 v_cost self ih k256 hk256 h
      · have h := if_f h hc
        refine zb_aload_n E dX12_fitOf_175 0 rfl rfl ?_
        refine zb_get E 128 (by decide) (zF_128 C.X) rfl zin12 13 (by decide) zw_1181 (v := .ref (C.X.1 + 139)) rfl dX12_fitOf_176 ?_
        refine zb_bipush E dX12_fitOf_179 (v := 13) rfl ?_
        refine zb_iload_n E dX12_fitOf_181 3 rfl rfl ?_
        refine zb_iconst E dX12_fitOf_182 (v := 1) rfl ?_
        refine zb_isub E dX12_fitOf_183 ?_
        refine zb_imul E dX12_fitOf_184 ?_
        refine zb_iload E dX12_fitOf_185 4 rfl ?_
        refine zb_iadd E dX12_fitOf_187 ?_
        refine zb_iconst E dX12_fitOf_188 (v := 1) rfl ?_
        refine zb_isub E dX12_fitOf_189 ?_
        obtain ⟨g8, h⟩ := gd_s h
        refine zb_iald E 139 (by decide) zF_139 (f := v_cost) rfl (ib_in g8) dX12_fitOf_190 ?_
        refine zb_aload_n E dX12_fitOf_191 0 rfl rfl ?_
        refine zb_get E 128 (by decide) (zF_128 C.X) rfl zin12 7 (by decide) zw_1175 (v := .ref (C.X.1 + 136)) rfl dX12_fitOf_192 ?_
        refine zb_bipush E dX12_fitOf_195 (v := 12) rfl ?_
        refine zb_iload_n E dX12_fitOf_197 1 rfl rfl ?_
        refine zb_imul E dX12_fitOf_198 ?_
        refine zb_iload_n E dX12_fitOf_199 3 rfl rfl ?_
        refine zb_iadd E dX12_fitOf_200 ?_
        refine zb_iconst E dX12_fitOf_201 (v := 1) rfl ?_
        refine zb_isub E dX12_fitOf_202 ?_
        obtain ⟨g9, h⟩ := gd_s h
        refine zb_iald E 136 (by decide) zF_136 (f := v_cutAt) (by exact e_v_cutAt) (ib_in g9) dX12_fitOf_203 ?_
        refine zb_aload_n E dX12_fitOf_204 0 rfl rfl ?_
        refine zb_get E 128 (by decide) (zF_128 C.X) rfl zin12 7 (by decide) zw_1175 (v := .ref (C.X.1 + 136)) rfl dX12_fitOf_205 ?_
        refine zb_bipush E dX12_fitOf_208 (v := 12) rfl ?_
        refine zb_iload_n E dX12_fitOf_210 2 rfl rfl ?_
        refine zb_imul E dX12_fitOf_211 ?_
        refine zb_iload E dX12_fitOf_212 4 rfl ?_
        refine zb_iadd E dX12_fitOf_214 ?_
        refine zb_iconst E dX12_fitOf_215 (v := 1) rfl ?_
        refine zb_isub E dX12_fitOf_216 ?_
        obtain ⟨g10, h⟩ := gd_s h
        refine zb_iald E 136 (by decide) zF_136 (f := v_cutAt) (by exact e_v_cutAt) (ib_in g10) dX12_fitOf_217 ?_
        refine zb_isub E dX12_fitOf_218 ?_
        obtain ⟨rc11, hc_219, h⟩ := bd1_s h
        refine zb_cSi E [.int ((v_cutAt (ix (((12 * a1) + x3) - 1))) - (v_cutAt (ix (((12 * a2) + x4) - 1))))] zy_X12_size zw_1480 (c_X12_size hc_219) (by decide) rfl rfl (by first | decide | simp [Value.category]) dX12_fitOf_219 (cs2 := (0, 0)) rfl ?_
        refine zb_iadd E dX12_fitOf_222 ?_
        refine zb_istore E dX12_fitOf_223 (by decide) (lv2 := [(6, .int ((v_cost (ix (((13 * (x3 - 1)) + x4) - 1))) + rc11)), (0, .ref (C.X.1 + 128)), (1, .int a1), (2, .int a2), (3, .int x3), (4, .int x4), (5, .int x5)]) rfl ?_
        refine zb_iload E dX12_fitOf_225 0 rfl ?_
        refine zb_iload E dX12_fitOf_227 6 rfl ?_
        refine zb_icmp_ge E dX12_fitOf_229 (tgt := 236) rfl (fun hc => ?_) (fun hc => ?_)
        · have h := if_t h hc
          refine zb_sub [1, 2, 3, 4, 5, 6] rfl ?_
          exact c_X12_fitOf_b236 N a1 a2 v_grain e_v_grain v_lost e_v_lost v_cutAt e_v_cutAt v_cutWorth e_v_cutWorth v_cuts e_v_cuts rr y_v_cost E hQ x3 x4 x5 v_cost self ih k256 hk256 h
        · have h := if_f h hc
          refine zb_iload E dX12_fitOf_232 0 rfl ?_
          refine zb_istore E dX12_fitOf_234 (by decide) (lv2 := [(5, .int ((v_cost (ix (((13 * (x3 - 1)) + x4) - 1))) + rc11)), (6, .int ((v_cost (ix (((13 * (x3 - 1)) + x4) - 1))) + rc11)), (0, .ref (C.X.1 + 128)), (1, .int a1), (2, .int a2), (3, .int x3), (4, .int x4)]) rfl ?_
          refine zb_sub [2, 3, 4, 5, 6, 0] rfl ?_
          exact c_X12_fitOf_b236 N a1 a2 v_grain e_v_grain v_lost e_v_lost v_cutAt e_v_cutAt v_cutWorth e_v_cutWorth v_cuts e_v_cuts rr y_v_cost E hQ x3 x4 ((v_cost (ix (((13 * (x3 - 1)) + x4) - 1))) + rc11) v_cost self ih k256 hk256 h
theorem c_X12_fitOf_b92 {C : zC} {I : Nat → Nat → Int32} {J : Nat → Nat → Int64} {Rr : Nat → Nat → Option Nat} {D : zD} (N : Nat) (a1 : Int32) (a2 : Int32) (v_grain : Int32) (e_v_grain : I 128 10 = v_grain) (v_lost : Int32) (e_v_lost : I 128 11 = v_lost) (v_cutAt : (Nat → Int32)) (e_v_cutAt : I 136 = v_cutAt) (v_cutWorth : (Nat → Int32)) (e_v_cutWorth : I 137 = v_cutWorth) (v_cuts : (Nat → Int32)) (e_v_cuts : I 135 = v_cuts) (rr : Int32) (y_v_cost : (Nat → Int32)) (E : zE C RX12 cX12_fitOf 7 (some .int) ({ frames := 2, cells := 0, slots := 0, locals := 42 } : Room)) (hQ : C.Q = zQi C ({ frames := 2, cells := 0, slots := 0, locals := 42 } : Room) rr ((va_up I 139 y_v_cost), J, Rr, D)) (x3 : Int32) (x4 : Int32) (x5 : Int32) (v_cost : (Nat → Int32)) (self : Int32 → (Nat → Int32) → Option R_pM_fitOf) (ih : ∀ (x4 : Int32) (v_cost : (Nat → Int32)), self x4 v_cost = some (rr, y_v_cost) → zB C (0, 0) 15 [(0, .ref (C.X.1 + 128)), (1, .int a1), (2, .int a2), (3, .int x3), (4, .int x4)] [] ((va_up I 139 v_cost), J, Rr, D)) (k256 : (Nat → Int32) → Option R_pM_fitOf) (hk256 : ∀ (v_cost : (Nat → Int32)), k256 v_cost = some (rr, y_v_cost) → zB C (0, 0) 256 [(0, .ref (C.X.1 + 128)), (1, .int a1), (2, .int a2), (3, .int x3)] [] ((va_up I 139 v_cost), J, Rr, D)) (h : pM_fitOf_b92 N a1 a2 v_grain v_lost v_cutAt v_cutWorth v_cuts self k256 x3 x4 x5 v_cost = some (rr, y_v_cost)) : zB C (0, 0) 92 [(0, .ref (C.X.1 + 128)), (1, .int a1), (2, .int a2), (3, .int x3), (4, .int x4), (5, .int x5)] [] ((va_up I 139 v_cost), J, Rr, D) := by
  refine zb_iload E dX12_fitOf_92 4 rfl ?_
  refine zb_if_le E dX12_fitOf_94 (tgt := 142) rfl (fun hc => ?_) (fun hc => ?_)
  · have h := if_t h hc
    exact c_X12_fitOf_b142 N a1 a2 v_grain e_v_grain v_lost e_v_lost v_cutAt e_v_cutAt v_cutWorth e_v_cutWorth v_cuts e_v_cuts rr y_v_cost E hQ x3 x4 x5 v_cost self ih k256 hk256 h
  · have h := if_f h hc
    refine zb_aload_n E dX12_fitOf_97 0 rfl rfl ?_
    refine zb_get E 128 (by decide) (zF_128 C.X) rfl zin12 13 (by decide) zw_1181 (v := .ref (C.X.1 + 139)) rfl dX12_fitOf_98 ?_
    refine zb_bipush E dX12_fitOf_101 (v := 13) rfl ?_
    refine zb_iload_n E dX12_fitOf_103 3 rfl rfl ?_
    refine zb_imul E dX12_fitOf_104 ?_
    refine zb_iload E dX12_fitOf_105 4 rfl ?_
    refine zb_iadd E dX12_fitOf_107 ?_
    refine zb_iconst E dX12_fitOf_108 (v := 1) rfl ?_
    refine zb_isub E dX12_fitOf_109 ?_
    obtain ⟨g6, h⟩ := gd_s h
    refine zb_iald E 139 (by decide) zF_139 (f := v_cost) rfl (ib_in g6) dX12_fitOf_110 ?_
    refine zb_aload_n E dX12_fitOf_111 0 rfl rfl ?_
    refine zb_get E 128 (by decide) (zF_128 C.X) rfl zin12 11 (by decide) zw_1179 (v := .int v_lost) (by exact congrArg (fun z => some (Value.int z)) e_v_lost) dX12_fitOf_112 ?_
    refine zb_iadd E dX12_fitOf_115 ?_
    refine zb_iload E dX12_fitOf_116 5 rfl ?_
    refine zb_icmp_ge E dX12_fitOf_118 (tgt := 142) rfl (fun hc => ?_) (fun hc => ?_)
    · have h := if_t h hc
      exact c_X12_fitOf_b142 N a1 a2 v_grain e_v_grain v_lost e_v_lost v_cutAt e_v_cutAt v_cutWorth e_v_cutWorth v_cuts e_v_cuts rr y_v_cost E hQ x3 x4 x5 v_cost self ih k256 hk256 h
    · have h := if_f h hc
      refine zb_aload_n E dX12_fitOf_121 0 rfl rfl ?_
      refine zb_get E 128 (by decide) (zF_128 C.X) rfl zin12 13 (by decide) zw_1181 (v := .ref (C.X.1 + 139)) rfl dX12_fitOf_122 ?_
      refine zb_bipush E dX12_fitOf_125 (v := 13) rfl ?_
      refine zb_iload_n E dX12_fitOf_127 3 rfl rfl ?_
      refine zb_imul E dX12_fitOf_128 ?_
      refine zb_iload E dX12_fitOf_129 4 rfl ?_
      refine zb_iadd E dX12_fitOf_131 ?_
      refine zb_iconst E dX12_fitOf_132 (v := 1) rfl ?_
      refine zb_isub E dX12_fitOf_133 ?_
      refine zb_iald E 139 (by decide) zF_139 (f := v_cost) rfl (ib_in g6) dX12_fitOf_134 ?_
      refine zb_aload_n E dX12_fitOf_135 0 rfl rfl ?_
      refine zb_get E 128 (by decide) (zF_128 C.X) rfl zin12 11 (by decide) zw_1179 (v := .int v_lost) (by exact congrArg (fun z => some (Value.int z)) e_v_lost) dX12_fitOf_136 ?_
      refine zb_iadd E dX12_fitOf_139 ?_
      refine zb_istore E dX12_fitOf_140 (by decide) (lv2 := [(5, .int ((v_cost (ix (((13 * x3) + x4) - 1))) + v_lost)), (0, .ref (C.X.1 + 128)), (1, .int a1), (2, .int a2), (3, .int x3), (4, .int x4)]) rfl ?_
      refine zb_sub [1, 2, 3, 4, 5, 0] rfl ?_
      exact c_X12_fitOf_b142 N a1 a2 v_grain e_v_grain v_lost e_v_lost v_cutAt e_v_cutAt v_cutWorth e_v_cutWorth v_cuts e_v_cuts rr y_v_cost E hQ x3 x4 ((v_cost (ix (((13 * x3) + x4) - 1))) + v_lost) v_cost self ih k256 hk256 h
theorem c_X12_fitOf_b41 {C : zC} {I : Nat → Nat → Int32} {J : Nat → Nat → Int64} {Rr : Nat → Nat → Option Nat} {D : zD} (N : Nat) (a1 : Int32) (a2 : Int32) (v_grain : Int32) (e_v_grain : I 128 10 = v_grain) (v_lost : Int32) (e_v_lost : I 128 11 = v_lost) (v_cutAt : (Nat → Int32)) (e_v_cutAt : I 136 = v_cutAt) (v_cutWorth : (Nat → Int32)) (e_v_cutWorth : I 137 = v_cutWorth) (v_cuts : (Nat → Int32)) (e_v_cuts : I 135 = v_cuts) (rr : Int32) (y_v_cost : (Nat → Int32)) (E : zE C RX12 cX12_fitOf 7 (some .int) ({ frames := 2, cells := 0, slots := 0, locals := 42 } : Room)) (hQ : C.Q = zQi C ({ frames := 2, cells := 0, slots := 0, locals := 42 } : Room) rr ((va_up I 139 y_v_cost), J, Rr, D)) (x3 : Int32) (x4 : Int32) (s0 : Int32) (v_cost : (Nat → Int32)) (self : Int32 → (Nat → Int32) → Option R_pM_fitOf) (ih : ∀ (x4 : Int32) (v_cost : (Nat → Int32)), self x4 v_cost = some (rr, y_v_cost) → zB C (0, 0) 15 [(0, .ref (C.X.1 + 128)), (1, .int a1), (2, .int a2), (3, .int x3), (4, .int x4)] [] ((va_up I 139 v_cost), J, Rr, D)) (k256 : (Nat → Int32) → Option R_pM_fitOf) (hk256 : ∀ (v_cost : (Nat → Int32)), k256 v_cost = some (rr, y_v_cost) → zB C (0, 0) 256 [(0, .ref (C.X.1 + 128)), (1, .int a1), (2, .int a2), (3, .int x3)] [] ((va_up I 139 v_cost), J, Rr, D)) (h : pM_fitOf_b41 N a1 a2 v_grain v_lost v_cutAt v_cutWorth v_cuts self k256 x3 x4 s0 v_cost = some (rr, y_v_cost)) : zB C (0, 0) 41 [(0, .ref (C.X.1 + 128)), (1, .int a1), (2, .int a2), (3, .int x3), (4, .int x4)] [.int s0] ((va_up I 139 v_cost), J, Rr, D) := by
  refine zb_istore E dX12_fitOf_41 (by decide) (lv2 := [(5, .int s0), (0, .ref (C.X.1 + 128)), (1, .int a1), (2, .int a2), (3, .int x3), (4, .int x4)]) rfl ?_
  refine zb_iload_n E dX12_fitOf_43 4 rfl rfl ?_
  refine zb_if_le E dX12_fitOf_44 (tgt := 92) rfl (fun hc => ?_) (fun hc => ?_)
  · have h := if_t h hc
    refine zb_sub [1, 2, 3, 4, 5, 0] rfl ?_
    exact c_X12_fitOf_b92 N a1 a2 v_grain e_v_grain v_lost e_v_lost v_cutAt e_v_cutAt v_cutWorth e_v_cutWorth v_cuts e_v_cuts rr y_v_cost E hQ x3 x4 s0 v_cost self ih k256 hk256 h
  · have h := if_f h hc
    refine zb_aload_n E dX12_fitOf_47 1 rfl rfl ?_
    refine zb_get E 128 (by decide) (zF_128 C.X) rfl zin12 13 (by decide) zw_1181 (v := .ref (C.X.1 + 139)) rfl dX12_fitOf_48 ?_
    refine zb_bipush E dX12_fitOf_51 (v := 13) rfl ?_
    refine zb_iload_n E dX12_fitOf_53 4 rfl rfl ?_
    refine zb_iconst E dX12_fitOf_54 (v := 1) rfl ?_
    refine zb_isub E dX12_fitOf_55 ?_
    refine zb_imul E dX12_fitOf_56 ?_
    refine zb_iload E dX12_fitOf_57 5 rfl ?_
    refine zb_iadd E dX12_fitOf_59 ?_
    obtain ⟨g5, h⟩ := gd_s h
    refine zb_iald E 139 (by decide) zF_139 (f := v_cost) rfl (ib_in g5) dX12_fitOf_60 ?_
    refine zb_aload_n E dX12_fitOf_61 1 rfl rfl ?_
    refine zb_get E 128 (by decide) (zF_128 C.X) rfl zin12 11 (by decide) zw_1179 (v := .int v_lost) (by exact congrArg (fun z => some (Value.int z)) e_v_lost) dX12_fitOf_62 ?_
    refine zb_iadd E dX12_fitOf_65 ?_
    refine zb_iload E dX12_fitOf_66 0 rfl ?_
    refine zb_icmp_ge E dX12_fitOf_68 (tgt := 92) rfl (fun hc => ?_) (fun hc => ?_)
    · have h := if_t h hc
      refine zb_sub [1, 2, 3, 4, 5, 0] rfl ?_
      exact c_X12_fitOf_b92 N a1 a2 v_grain e_v_grain v_lost e_v_lost v_cutAt e_v_cutAt v_cutWorth e_v_cutWorth v_cuts e_v_cuts rr y_v_cost E hQ x3 x4 s0 v_cost self ih k256 hk256 h
    · have h := if_f h hc
      refine zb_aload_n E dX12_fitOf_71 1 rfl rfl ?_
      refine zb_get E 128 (by decide) (zF_128 C.X) rfl zin12 13 (by decide) zw_1181 (v := .ref (C.X.1 + 139)) rfl dX12_fitOf_72 ?_
      refine zb_bipush E dX12_fitOf_75 (v := 13) rfl ?_
      refine zb_iload_n E dX12_fitOf_77 4 rfl rfl ?_
      refine zb_iconst E dX12_fitOf_78 (v := 1) rfl ?_
      refine zb_isub E dX12_fitOf_79 ?_
      refine zb_imul E dX12_fitOf_80 ?_
      refine zb_iload E dX12_fitOf_81 5 rfl ?_
      refine zb_iadd E dX12_fitOf_83 ?_
      refine zb_iald E 139 (by decide) zF_139 (f := v_cost) rfl (ib_in g5) dX12_fitOf_84 ?_
      refine zb_aload_n E dX12_fitOf_85 1 rfl rfl ?_
      refine zb_get E 128 (by decide) (zF_128 C.X) rfl zin12 11 (by decide) zw_1179 (v := .int v_lost) (by exact congrArg (fun z => some (Value.int z)) e_v_lost) dX12_fitOf_86 ?_
      refine zb_iadd E dX12_fitOf_89 ?_
      refine zb_istore E dX12_fitOf_90 (by decide) (lv2 := [(5, .int ((v_cost (ix ((13 * (x3 - 1)) + x4))) + v_lost)), (0, .ref (C.X.1 + 128)), (1, .int a1), (2, .int a2), (3, .int x3), (4, .int x4)]) rfl ?_
      refine zb_sub [1, 2, 3, 4, 5, 0] rfl ?_
      exact c_X12_fitOf_b92 N a1 a2 v_grain e_v_grain v_lost e_v_lost v_cutAt e_v_cutAt v_cutWorth e_v_cutWorth v_cuts e_v_cuts rr y_v_cost E hQ x3 x4 ((v_cost (ix ((13 * (x3 - 1)) + x4))) + v_lost) v_cost self ih k256 hk256 h
theorem c_X12_fitOf_b39 {C : zC} {I : Nat → Nat → Int32} {J : Nat → Nat → Int64} {Rr : Nat → Nat → Option Nat} {D : zD} (N : Nat) (a1 : Int32) (a2 : Int32) (v_grain : Int32) (e_v_grain : I 128 10 = v_grain) (v_lost : Int32) (e_v_lost : I 128 11 = v_lost) (v_cutAt : (Nat → Int32)) (e_v_cutAt : I 136 = v_cutAt) (v_cutWorth : (Nat → Int32)) (e_v_cutWorth : I 137 = v_cutWorth) (v_cuts : (Nat → Int32)) (e_v_cuts : I 135 = v_cuts) (rr : Int32) (y_v_cost : (Nat → Int32)) (E : zE C RX12 cX12_fitOf 7 (some .int) ({ frames := 2, cells := 0, slots := 0, locals := 42 } : Room)) (hQ : C.Q = zQi C ({ frames := 2, cells := 0, slots := 0, locals := 42 } : Room) rr ((va_up I 139 y_v_cost), J, Rr, D)) (x3 : Int32) (x4 : Int32) (v_cost : (Nat → Int32)) (self : Int32 → (Nat → Int32) → Option R_pM_fitOf) (ih : ∀ (x4 : Int32) (v_cost : (Nat → Int32)), self x4 v_cost = some (rr, y_v_cost) → zB C (0, 0) 15 [(0, .ref (C.X.1 + 128)), (1, .int a1), (2, .int a2), (3, .int x3), (4, .int x4)] [] ((va_up I 139 v_cost), J, Rr, D)) (k256 : (Nat → Int32) → Option R_pM_fitOf) (hk256 : ∀ (v_cost : (Nat → Int32)), k256 v_cost = some (rr, y_v_cost) → zB C (0, 0) 256 [(0, .ref (C.X.1 + 128)), (1, .int a1), (2, .int a2), (3, .int x3)] [] ((va_up I 139 v_cost), J, Rr, D)) (h : pM_fitOf_b39 N a1 a2 v_grain v_lost v_cutAt v_cutWorth v_cuts self k256 x3 x4 v_cost = some (rr, y_v_cost)) : zB C (0, 0) 39 [(0, .ref (C.X.1 + 128)), (1, .int a1), (2, .int a2), (3, .int x3), (4, .int x4)] [] ((va_up I 139 v_cost), J, Rr, D) := by
  refine zb_ldc E dX12_fitOf_39 (v := 100000000) zw_1479 ?_
  exact c_X12_fitOf_b41 N a1 a2 v_grain e_v_grain v_lost e_v_lost v_cutAt e_v_cutAt v_cutWorth e_v_cutWorth v_cuts e_v_cuts rr y_v_cost E hQ x3 x4 100000000 v_cost self ih k256 hk256 h
theorem c_X12_fitOf_b15 {C : zC} {I : Nat → Nat → Int32} {J : Nat → Nat → Int64} {Rr : Nat → Nat → Option Nat} {D : zD} (N : Nat) (a1 : Int32) (a2 : Int32) (v_grain : Int32) (e_v_grain : I 128 10 = v_grain) (v_lost : Int32) (e_v_lost : I 128 11 = v_lost) (v_cutAt : (Nat → Int32)) (e_v_cutAt : I 136 = v_cutAt) (v_cutWorth : (Nat → Int32)) (e_v_cutWorth : I 137 = v_cutWorth) (v_cuts : (Nat → Int32)) (e_v_cuts : I 135 = v_cuts) (rr : Int32) (y_v_cost : (Nat → Int32)) (E : zE C RX12 cX12_fitOf 7 (some .int) ({ frames := 2, cells := 0, slots := 0, locals := 42 } : Room)) (hQ : C.Q = zQi C ({ frames := 2, cells := 0, slots := 0, locals := 42 } : Room) rr ((va_up I 139 y_v_cost), J, Rr, D)) (x3 : Int32) (k256 : (Nat → Int32) → Option R_pM_fitOf) (hk256 : ∀ (v_cost : (Nat → Int32)), k256 v_cost = some (rr, y_v_cost) → zB C (0, 0) 256 [(0, .ref (C.X.1 + 128)), (1, .int a1), (2, .int a2), (3, .int x3)] [] ((va_up I 139 v_cost), J, Rr, D)) : ∀ (n9 : Nat) (x4 : Int32) (v_cost : (Nat → Int32)), pM_fitOf_b15 N a1 a2 v_grain v_lost v_cutAt v_cutWorth v_cuts x3 k256 n9 x4 v_cost = some (rr, y_v_cost) → zB C (0, 0) 15 [(0, .ref (C.X.1 + 128)), (1, .int a1), (2, .int a2), (3, .int x3), (4, .int x4)] [] ((va_up I 139 v_cost), J, Rr, D) := by
  refine zlp2_ind (P := fun (x4 : Int32) (v_cost : (Nat → Int32)) => zB C (0, 0) 15 [(0, .ref (C.X.1 + 128)), (1, .int a1), (2, .int a2), (3, .int x3), (4, .int x4)] [] ((va_up I 139 v_cost), J, Rr, D)) (fun self ih => ?_)
  intro x4 v_cost h
  refine zb_iload E dX12_fitOf_15 4 rfl ?_
  refine zb_aload_n E dX12_fitOf_17 0 rfl rfl ?_
  refine zb_get E 128 (by decide) (zF_128 C.X) rfl zin12 6 (by decide) zw_1174 (v := .ref (C.X.1 + 135)) rfl dX12_fitOf_18 ?_
  refine zb_iload_n E dX12_fitOf_21 2 rfl rfl ?_
  obtain ⟨g4, h⟩ := gd_s h
  refine zb_iald E 135 (by decide) zF_135 (f := v_cuts) (by exact e_v_cuts) (ib_in g4) dX12_fitOf_22 ?_
  refine zb_icmp_gt E dX12_fitOf_23 (tgt := 256) rfl (fun hc => ?_) (fun hc => ?_)
  · have h := if_t h hc
    refine zb_sub [0, 1, 2, 3] rfl ?_
    exact hk256 v_cost h
  · have h := if_f h hc
    refine zb_iload_n E dX12_fitOf_26 3 rfl rfl ?_
    refine zb_if_ne E dX12_fitOf_27 (tgt := 39) rfl (fun hc => ?_) (fun hc => ?_)
    · have h := if_f h hc
      exact c_X12_fitOf_b39 N a1 a2 v_grain e_v_grain v_lost e_v_lost v_cutAt e_v_cutAt v_cutWorth e_v_cutWorth v_cuts e_v_cuts rr y_v_cost E hQ x3 x4 v_cost self ih k256 hk256 h
    · have h := if_t h hc
      refine zb_iload E dX12_fitOf_30 4 rfl ?_
      refine zb_if_ne E dX12_fitOf_32 (tgt := 39) rfl (fun hc => ?_) (fun hc => ?_)
      · have h := if_f h hc
        exact c_X12_fitOf_b39 N a1 a2 v_grain e_v_grain v_lost e_v_lost v_cutAt e_v_cutAt v_cutWorth e_v_cutWorth v_cuts e_v_cuts rr y_v_cost E hQ x3 x4 v_cost self ih k256 hk256 h
      · have h := if_t h hc
        refine zb_iconst E dX12_fitOf_35 (v := 0) rfl ?_
        refine zb_goto E dX12_fitOf_36 (tgt := 41) rfl ?_
        exact c_X12_fitOf_b41 N a1 a2 v_grain e_v_grain v_lost e_v_lost v_cutAt e_v_cutAt v_cutWorth e_v_cutWorth v_cuts e_v_cuts rr y_v_cost E hQ x3 x4 0 v_cost self ih k256 hk256 h
theorem c_X12_fitOf_b256 {C : zC} {I : Nat → Nat → Int32} {J : Nat → Nat → Int64} {Rr : Nat → Nat → Option Nat} {D : zD} (N : Nat) (a1 : Int32) (a2 : Int32) (v_grain : Int32) (e_v_grain : I 128 10 = v_grain) (v_lost : Int32) (e_v_lost : I 128 11 = v_lost) (v_cutAt : (Nat → Int32)) (e_v_cutAt : I 136 = v_cutAt) (v_cutWorth : (Nat → Int32)) (e_v_cutWorth : I 137 = v_cutWorth) (v_cuts : (Nat → Int32)) (e_v_cuts : I 135 = v_cuts) (rr : Int32) (y_v_cost : (Nat → Int32)) (E : zE C RX12 cX12_fitOf 7 (some .int) ({ frames := 2, cells := 0, slots := 0, locals := 42 } : Room)) (hQ : C.Q = zQi C ({ frames := 2, cells := 0, slots := 0, locals := 42 } : Room) rr ((va_up I 139 y_v_cost), J, Rr, D)) (x3 : Int32) (v_cost : (Nat → Int32)) (self : Int32 → (Nat → Int32) → Option R_pM_fitOf) (ih : ∀ (x3 : Int32) (v_cost : (Nat → Int32)), self x3 v_cost = some (rr, y_v_cost) → zB C (0, 0) 2 [(0, .ref (C.X.1 + 128)), (1, .int a1), (2, .int a2), (3, .int x3)] [] ((va_up I 139 v_cost), J, Rr, D)) (h : pM_fitOf_b256 N a1 a2 v_grain v_lost v_cutAt v_cutWorth v_cuts self x3 v_cost = some (rr, y_v_cost)) : zB C (0, 0) 256 [(0, .ref (C.X.1 + 128)), (1, .int a1), (2, .int a2), (3, .int x3)] [] ((va_up I 139 v_cost), J, Rr, D) := by
  refine zb_iinc E dX12_fitOf_256 3 rfl (v := (x3 + 1)) rfl (by decide) (lv2 := [(3, .int (x3 + 1)), (0, .ref (C.X.1 + 128)), (1, .int a1), (2, .int a2)]) rfl ?_
  refine zb_goto E dX12_fitOf_259 (tgt := 2) rfl ?_
  refine zb_sub [1, 2, 3, 0] rfl ?_
  exact ih (x3 + 1) v_cost h
theorem c_X12_fitOf_b2 {C : zC} {I : Nat → Nat → Int32} {J : Nat → Nat → Int64} {Rr : Nat → Nat → Option Nat} {D : zD} (N : Nat) (a1 : Int32) (a2 : Int32) (v_grain : Int32) (e_v_grain : I 128 10 = v_grain) (v_lost : Int32) (e_v_lost : I 128 11 = v_lost) (v_cutAt : (Nat → Int32)) (e_v_cutAt : I 136 = v_cutAt) (v_cutWorth : (Nat → Int32)) (e_v_cutWorth : I 137 = v_cutWorth) (v_cuts : (Nat → Int32)) (e_v_cuts : I 135 = v_cuts) (rr : Int32) (y_v_cost : (Nat → Int32)) (E : zE C RX12 cX12_fitOf 7 (some .int) ({ frames := 2, cells := 0, slots := 0, locals := 42 } : Room)) (hQ : C.Q = zQi C ({ frames := 2, cells := 0, slots := 0, locals := 42 } : Room) rr ((va_up I 139 y_v_cost), J, Rr, D))  : ∀ (n9 : Nat) (x3 : Int32) (v_cost : (Nat → Int32)), pM_fitOf_b2 N a1 a2 v_grain v_lost v_cutAt v_cutWorth v_cuts n9 x3 v_cost = some (rr, y_v_cost) → zB C (0, 0) 2 [(0, .ref (C.X.1 + 128)), (1, .int a1), (2, .int a2), (3, .int x3)] [] ((va_up I 139 v_cost), J, Rr, D) := by
  refine zlp2_ind (P := fun (x3 : Int32) (v_cost : (Nat → Int32)) => zB C (0, 0) 2 [(0, .ref (C.X.1 + 128)), (1, .int a1), (2, .int a2), (3, .int x3)] [] ((va_up I 139 v_cost), J, Rr, D)) (fun self ih => ?_)
  intro x3 v_cost h
  refine zb_iload_n E dX12_fitOf_2 3 rfl rfl ?_
  refine zb_aload_n E dX12_fitOf_3 0 rfl rfl ?_
  refine zb_get E 128 (by decide) (zF_128 C.X) rfl zin12 6 (by decide) zw_1174 (v := .ref (C.X.1 + 135)) rfl dX12_fitOf_4 ?_
  refine zb_iload_n E dX12_fitOf_7 1 rfl rfl ?_
  obtain ⟨g1, h⟩ := gd_s h
  refine zb_iald E 135 (by decide) zF_135 (f := v_cuts) (by exact e_v_cuts) (ib_in g1) dX12_fitOf_8 ?_
  refine zb_icmp_gt E dX12_fitOf_9 (tgt := 262) rfl (fun hc => ?_) (fun hc => ?_)
  · have h := if_t h hc
    refine zb_aload_n E dX12_fitOf_262 0 rfl rfl ?_
    refine zb_get E 128 (by decide) (zF_128 C.X) rfl zin12 13 (by decide) zw_1181 (v := .ref (C.X.1 + 139)) rfl dX12_fitOf_263 ?_
    refine zb_bipush E dX12_fitOf_266 (v := 13) rfl ?_
    refine zb_aload_n E dX12_fitOf_268 0 rfl rfl ?_
    refine zb_get E 128 (by decide) (zF_128 C.X) rfl zin12 6 (by decide) zw_1174 (v := .ref (C.X.1 + 135)) rfl dX12_fitOf_269 ?_
    refine zb_iload_n E dX12_fitOf_272 1 rfl rfl ?_
    refine zb_iald E 135 (by decide) zF_135 (f := v_cuts) (by exact e_v_cuts) (ib_in g1) dX12_fitOf_273 ?_
    refine zb_imul E dX12_fitOf_274 ?_
    refine zb_aload_n E dX12_fitOf_275 0 rfl rfl ?_
    refine zb_get E 128 (by decide) (zF_128 C.X) rfl zin12 6 (by decide) zw_1174 (v := .ref (C.X.1 + 135)) rfl dX12_fitOf_276 ?_
    refine zb_iload_n E dX12_fitOf_279 2 rfl rfl ?_
    obtain ⟨g2, h⟩ := gd_s h
    refine zb_iald E 135 (by decide) zF_135 (f := v_cuts) (by exact e_v_cuts) (ib_in g2) dX12_fitOf_280 ?_
    refine zb_iadd E dX12_fitOf_281 ?_
    obtain ⟨g3, h⟩ := gd_s h
    refine zb_iald E 139 (by decide) zF_139 (f := v_cost) rfl (ib_in g3) dX12_fitOf_282 ?_
    obtain ⟨rfl, rfl⟩ := zinj2 h
    exact zb_iret E hQ rfl ⟨Nat.zero_le _, Nat.zero_le _⟩ dX12_fitOf_283
  · have h := if_f h hc
    refine zb_iconst E dX12_fitOf_12 (v := 0) rfl ?_
    refine zb_istore E dX12_fitOf_13 (by decide) (lv2 := [(4, .int 0), (0, .ref (C.X.1 + 128)), (1, .int a1), (2, .int a2), (3, .int x3)]) rfl ?_
    refine zb_sub [1, 2, 3, 4, 0] rfl ?_
    exact c_X12_fitOf_b15 N a1 a2 v_grain e_v_grain v_lost e_v_lost v_cutAt e_v_cutAt v_cutWorth e_v_cutWorth v_cuts e_v_cuts rr y_v_cost E hQ x3 _ (fun v_cost_z1 h => c_X12_fitOf_b256 N a1 a2 v_grain e_v_grain v_lost e_v_lost v_cutAt e_v_cutAt v_cutWorth e_v_cutWorth v_cuts e_v_cuts rr y_v_cost E hQ x3 v_cost_z1 self ih h) _ 0 v_cost h
theorem c_X12_fitOf_0 {C : zC} {I : Nat → Nat → Int32} {J : Nat → Nat → Int64} {Rr : Nat → Nat → Option Nat} {D : zD} (N : Nat) (a1 : Int32) (a2 : Int32) (v_grain : Int32) (e_v_grain : I 128 10 = v_grain) (v_lost : Int32) (e_v_lost : I 128 11 = v_lost) (v_cutAt : (Nat → Int32)) (e_v_cutAt : I 136 = v_cutAt) (v_cutWorth : (Nat → Int32)) (e_v_cutWorth : I 137 = v_cutWorth) (v_cuts : (Nat → Int32)) (e_v_cuts : I 135 = v_cuts) (rr : Int32) (y_v_cost : (Nat → Int32)) (E : zE C RX12 cX12_fitOf 7 (some .int) ({ frames := 2, cells := 0, slots := 0, locals := 42 } : Room)) (hQ : C.Q = zQi C ({ frames := 2, cells := 0, slots := 0, locals := 42 } : Room) rr ((va_up I 139 y_v_cost), J, Rr, D)) (v_cost : (Nat → Int32)) (h : pM_fitOf N a1 a2 v_grain v_lost v_cost v_cutAt v_cutWorth v_cuts = some (rr, y_v_cost)) : zB C (0, 0) 0 [(0, .ref (C.X.1 + 128)), (1, .int a1), (2, .int a2)] [] ((va_up I 139 v_cost), J, Rr, D) := by
  refine zb_iconst E dX12_fitOf_0 (v := 0) rfl ?_
  refine zb_istore_n E dX12_fitOf_1 rfl (by decide) (lv2 := [(3, .int 0), (0, .ref (C.X.1 + 128)), (1, .int a1), (2, .int a2)]) rfl ?_
  refine zb_sub [1, 2, 3, 0] rfl ?_
  exact c_X12_fitOf_b2 N a1 a2 v_grain e_v_grain v_lost e_v_lost v_cutAt e_v_cutAt v_cutWorth e_v_cutWorth v_cuts e_v_cuts rr y_v_cost E hQ _ 0 v_cost h
theorem c_X12_fitOf {l : Launch} {X : zX} {I : Nat → Nat → Int32} {J : Nat → Nat → Int64} {Rr : Nat → Nat → Option Nat} {D : zD} {N : Nat} {a1 : Int32} {a2 : Int32} (v_grain : Int32) (e_v_grain : I 128 10 = v_grain) (v_lost : Int32) (e_v_lost : I 128 11 = v_lost) (v_cutAt : (Nat → Int32)) (e_v_cutAt : I 136 = v_cutAt) (v_cutWorth : (Nat → Int32)) (e_v_cutWorth : I 137 = v_cutWorth) (v_cuts : (Nat → Int32)) (e_v_cuts : I 135 = v_cuts) (v_cost : (Nat → Int32)) (e_v_cost : I 139 = v_cost) {rr : Int32} {y_v_cost : (Nat → Int32)} (h : pM_fitOf N a1 a2 v_grain v_lost v_cost v_cutAt v_cutWorth v_cuts = some (rr, y_v_cost)) : zMi l yX12_fitOf cX12_fitOf 7 (some .int) ({ frames := 2, cells := 0, slots := 0, locals := 42 } : Room) X [.ref (X.1 + 128), .int a1, .int a2] (I, J, Rr, D) rr ((va_up I 139 y_v_cost), J, Rr, D) := by
  refine zMi.of (by decide) (Nat.le_of_ble_eq_true rfl) (fun C E hl hX hQ => ?_)
  subst hl
  subst hX
  have eI0 : (va_up I 139 v_cost) = I := by rw [zup_idE e_v_cost]
  have eJ0 : J = J := rfl
  refine zb_S (S2 := ((va_up I 139 v_cost), J, Rr, D)) (zS_eq eI0.symm eJ0.symm) ?_
  exact c_X12_fitOf_0 N a1 a2 v_grain e_v_grain v_lost e_v_lost v_cutAt e_v_cutAt v_cutWorth e_v_cutWorth v_cuts e_v_cuts rr y_v_cost E hQ v_cost h
-- ChequeredClothModel.fit
theorem dX12_fit_0 : decode cX12_fit 0 = .ok (.iconst 0, 1) := by decide +kernel
theorem dX12_fit_1 : decode cX12_fit 1 = .ok (.iload_n 1, 1) := by decide +kernel
theorem dX12_fit_2 : decode cX12_fit 2 = .ok (.invokestatic 231, 3) := by decide +kernel
theorem dX12_fit_5 : decode cX12_fit 5 = .ok (.istore_n 3, 1) := by decide +kernel
theorem dX12_fit_6 : decode cX12_fit 6 = .ok (.iconst 1, 1) := by decide +kernel
theorem dX12_fit_7 : decode cX12_fit 7 = .ok (.iload_n 2, 1) := by decide +kernel
theorem dX12_fit_8 : decode cX12_fit 8 = .ok (.invokestatic 231, 3) := by decide +kernel
theorem dX12_fit_11 : decode cX12_fit 11 = .ok (.istore 4, 2) := by decide +kernel
theorem dX12_fit_13 : decode cX12_fit 13 = .ok (.aload_n 0, 1) := by decide +kernel
theorem dX12_fit_14 : decode cX12_fit 14 = .ok (.iload_n 3, 1) := by decide +kernel
theorem dX12_fit_15 : decode cX12_fit 15 = .ok (.invokevirtual 239, 3) := by decide +kernel
theorem dX12_fit_18 : decode cX12_fit 18 = .ok (.ifCond .eq 22, 3) := by decide +kernel
theorem dX12_fit_21 : decode cX12_fit 21 = .ok (.aload_n 0, 1) := by decide +kernel
theorem dX12_fit_22 : decode cX12_fit 22 = .ok (.iload 4, 2) := by decide +kernel
theorem dX12_fit_24 : decode cX12_fit 24 = .ok (.invokevirtual 239, 3) := by decide +kernel
theorem dX12_fit_27 : decode cX12_fit 27 = .ok (.ifCond .eq 13, 3) := by decide +kernel
theorem dX12_fit_30 : decode cX12_fit 30 = .ok (.aload_n 0, 1) := by decide +kernel
theorem dX12_fit_31 : decode cX12_fit 31 = .ok (.iload_n 3, 1) := by decide +kernel
theorem dX12_fit_32 : decode cX12_fit 32 = .ok (.iload 4, 2) := by decide +kernel
theorem dX12_fit_34 : decode cX12_fit 34 = .ok (.invokevirtual 256, 3) := by decide +kernel
theorem dX12_fit_37 : decode cX12_fit 37 = .ok (.goto 4, 3) := by decide +kernel
theorem dX12_fit_40 : decode cX12_fit 40 = .ok (.iconst (-1), 1) := by decide +kernel
theorem dX12_fit_41 : decode cX12_fit 41 = .ok (.ireturn, 1) := by decide +kernel
theorem zy_X12_fit : zYv yX12_fit cX12_fit 5 (some .int) 2 := ⟨zw_1517, zw_1518, zw_12, zw_1519, by decide, by decide, by decide⟩
theorem c_X12_fit_0 {C : zC} {I : Nat → Nat → Int32} {J : Nat → Nat → Int64} {Rr : Nat → Nat → Option Nat} {D : zD} (N : Nat) (a1 : Int32) (a2 : Int32) (v_grain : Int32) (e_v_grain : I 128 10 = v_grain) (v_lost : Int32) (e_v_lost : I 128 11 = v_lost) (v_cutAt : (Nat → Int32)) (e_v_cutAt : I 136 = v_cutAt) (v_cutWorth : (Nat → Int32)) (e_v_cutWorth : I 137 = v_cutWorth) (v_cuts : (Nat → Int32)) (e_v_cuts : I 135 = v_cuts) (rr : Int32) (y_v_cost : (Nat → Int32)) (E : zE C RX12 cX12_fit 5 (some .int) ({ frames := 3, cells := 0, slots := 0, locals := 68 } : Room)) (hQ : C.Q = zQi C ({ frames := 3, cells := 0, slots := 0, locals := 68 } : Room) rr ((va_up I 139 y_v_cost), J, Rr, D)) (v_cost : (Nat → Int32)) (h : pM_fit N a1 a2 v_grain v_lost v_cost v_cutAt v_cutWorth v_cuts = some (rr, y_v_cost)) : zB C (0, 0) 0 [(0, .ref (C.X.1 + 128)), (1, .int a1), (2, .int a2)] [] ((va_up I 139 v_cost), J, Rr, D) := by
  refine zb_iconst E dX12_fit_0 (v := 0) rfl ?_
  refine zb_iload_n E dX12_fit_1 1 rfl rfl ?_
  obtain ⟨rc1, hc_2, h⟩ := bd1_s h
  refine zb_cSi E [.int 0, .int a1] zy_X12_half zw_1487 (c_X12_half hc_2) (by decide) rfl rfl (by first | decide | simp [Value.category]) dX12_fit_2 (cs2 := (0, 0)) rfl ?_
  refine zb_istore_n E dX12_fit_5 rfl (by decide) (lv2 := [(3, .int rc1), (0, .ref (C.X.1 + 128)), (1, .int a1), (2, .int a2)]) rfl ?_
  refine zb_iconst E dX12_fit_6 (v := 1) rfl ?_
  refine zb_iload_n E dX12_fit_7 3 rfl rfl ?_
  obtain ⟨rc2, hc_8, h⟩ := bd1_s h
  refine zb_cSi E [.int 1, .int a2] zy_X12_half zw_1487 (c_X12_half hc_8) (by decide) rfl rfl (by first | decide | simp [Value.category]) dX12_fit_8 (cs2 := (0, 0)) rfl ?_
  refine zb_istore E dX12_fit_11 (by decide) (lv2 := [(4, .int rc2), (3, .int rc1), (0, .ref (C.X.1 + 128)), (1, .int a1), (2, .int a2)]) rfl ?_
  refine zb_aload_n E dX12_fit_13 2 rfl rfl ?_
  refine zb_iload_n E dX12_fit_14 1 rfl rfl ?_
  obtain ⟨rc3, hc_15, h⟩ := bd1_s h
  refine zb_cVi E [.int rc1] 128 zy_X12_isThere zw_1497 (by decide) (zF_128 _ _ _ _) rfl (c_X12_isThere v_cuts (by exact e_v_cuts) hc_15) (by decide) rfl rfl (by first | decide | simp [Value.category]) dX12_fit_15 (cs2 := (0, 0)) rfl ?_
  refine zb_if_eq E dX12_fit_18 (tgt := 40) rfl (fun hc => ?_) (fun hc => ?_)
  · have h := if_t h hc
    refine zb_iconst E dX12_fit_40 (v := (-1)) rfl ?_
    obtain ⟨rfl, rfl⟩ := zinj2 h
    exact zb_iret E hQ rfl ⟨Nat.zero_le _, Nat.zero_le _⟩ dX12_fit_41
  · have h := if_f h hc
    refine zb_aload_n E dX12_fit_21 2 rfl rfl ?_
    refine zb_iload E dX12_fit_22 0 rfl ?_
    obtain ⟨rc4, hc_24, h⟩ := bd1_s h
    refine zb_cVi E [.int rc2] 128 zy_X12_isThere zw_1497 (by decide) (zF_128 _ _ _ _) rfl (c_X12_isThere v_cuts (by exact e_v_cuts) hc_24) (by decide) rfl rfl (by first | decide | simp [Value.category]) dX12_fit_24 (cs2 := (0, 0)) rfl ?_
    refine zb_if_eq E dX12_fit_27 (tgt := 40) rfl (fun hc => ?_) (fun hc => ?_)
    · have h := if_t h hc
      refine zb_iconst E dX12_fit_40 (v := (-1)) rfl ?_
      obtain ⟨rfl, rfl⟩ := zinj2 h
      exact zb_iret E hQ rfl ⟨Nat.zero_le _, Nat.zero_le _⟩ dX12_fit_41
    · have h := if_f h hc
      refine zb_aload_n E dX12_fit_30 2 rfl rfl ?_
      refine zb_iload_n E dX12_fit_31 1 rfl rfl ?_
      refine zb_iload E dX12_fit_32 0 rfl ?_
      obtain ⟨rc5, v_cost_c5, hc_34, h⟩ := bd2_s h
      refine zb_cVi E [.int rc1, .int rc2] 128 zy_X12_fitOf zw_1520 (by decide) (zF_128 _ _ _ _) rfl (c_X12_fitOf v_grain (by exact e_v_grain) v_lost (by exact e_v_lost) v_cutAt (by exact e_v_cutAt) v_cutWorth (by exact e_v_cutWorth) v_cuts (by exact e_v_cuts) v_cost rfl hc_34) (by decide) rfl rfl (by first | decide | simp [Value.category]) dX12_fit_34 (cs2 := (0, 0)) rfl ?_
      refine zb_S (S2 := ((va_up I 139 v_cost_c5), J, Rr, D)) (zS_eq zn1 rfl) ?_
      refine zb_goto E dX12_fit_37 (tgt := 41) rfl ?_
      obtain ⟨rfl, rfl⟩ := zinj2 h
      exact zb_iret E hQ rfl ⟨Nat.zero_le _, Nat.zero_le _⟩ dX12_fit_41
theorem c_X12_fit {l : Launch} {X : zX} {I : Nat → Nat → Int32} {J : Nat → Nat → Int64} {Rr : Nat → Nat → Option Nat} {D : zD} {N : Nat} {a1 : Int32} {a2 : Int32} (v_grain : Int32) (e_v_grain : I 128 10 = v_grain) (v_lost : Int32) (e_v_lost : I 128 11 = v_lost) (v_cutAt : (Nat → Int32)) (e_v_cutAt : I 136 = v_cutAt) (v_cutWorth : (Nat → Int32)) (e_v_cutWorth : I 137 = v_cutWorth) (v_cuts : (Nat → Int32)) (e_v_cuts : I 135 = v_cuts) (v_cost : (Nat → Int32)) (e_v_cost : I 139 = v_cost) {rr : Int32} {y_v_cost : (Nat → Int32)} (h : pM_fit N a1 a2 v_grain v_lost v_cost v_cutAt v_cutWorth v_cuts = some (rr, y_v_cost)) : zMi l yX12_fit cX12_fit 5 (some .int) ({ frames := 3, cells := 0, slots := 0, locals := 68 } : Room) X [.ref (X.1 + 128), .int a1, .int a2] (I, J, Rr, D) rr ((va_up I 139 y_v_cost), J, Rr, D) := by
  refine zMi.of (by decide) (Nat.le_of_ble_eq_true rfl) (fun C E hl hX hQ => ?_)
  subst hl
  subst hX
  have eI0 : (va_up I 139 v_cost) = I := by rw [zup_idE e_v_cost]
  have eJ0 : J = J := rfl
  refine zb_S (S2 := ((va_up I 139 v_cost), J, Rr, D)) (zS_eq eI0.symm eJ0.symm) ?_
  exact c_X12_fit_0 N a1 a2 v_grain e_v_grain v_lost e_v_lost v_cutAt e_v_cutAt v_cutWorth e_v_cutWorth v_cuts e_v_cuts rr y_v_cost E hQ v_cost h
-- ChequeredClothModel.canPair
theorem dX12_canPair_0 : decode cX12_canPair 0 = .ok (.aload_n 0, 1) := by decide +kernel
theorem dX12_canPair_1 : decode cX12_canPair 1 = .ok (.getfield 60, 3) := by decide +kernel
theorem dX12_canPair_4 : decode cX12_canPair 4 = .ok (.bipush 10, 2) := by decide +kernel
theorem dX12_canPair_6 : decode cX12_canPair 6 = .ok (.iload_n 1, 1) := by decide +kernel
theorem dX12_canPair_7 : decode cX12_canPair 7 = .ok (.imul, 1) := by decide +kernel
theorem dX12_canPair_8 : decode cX12_canPair 8 = .ok (.iload_n 2, 1) := by decide +kernel
theorem dX12_canPair_9 : decode cX12_canPair 9 = .ok (.iadd, 1) := by decide +kernel
theorem dX12_canPair_10 : decode cX12_canPair 10 = .ok (.iaload, 1) := by decide +kernel
theorem dX12_canPair_11 : decode cX12_canPair 11 = .ok (.aload_n 0, 1) := by decide +kernel
theorem dX12_canPair_12 : decode cX12_canPair 12 = .ok (.getfield 48, 3) := by decide +kernel
theorem dX12_canPair_15 : decode cX12_canPair 15 = .ok (.if_icmp .gt 15, 3) := by decide +kernel
theorem dX12_canPair_18 : decode cX12_canPair 18 = .ok (.iload_n 3, 1) := by decide +kernel
theorem dX12_canPair_19 : decode cX12_canPair 19 = .ok (.iload_n 2, 1) := by decide +kernel
theorem dX12_canPair_20 : decode cX12_canPair 20 = .ok (.ishr, 1) := by decide +kernel
theorem dX12_canPair_21 : decode cX12_canPair 21 = .ok (.iconst 1, 1) := by decide +kernel
theorem dX12_canPair_22 : decode cX12_canPair 22 = .ok (.iand, 1) := by decide +kernel
theorem dX12_canPair_23 : decode cX12_canPair 23 = .ok (.ifCond .ne 7, 3) := by decide +kernel
theorem dX12_canPair_26 : decode cX12_canPair 26 = .ok (.iconst 1, 1) := by decide +kernel
theorem dX12_canPair_27 : decode cX12_canPair 27 = .ok (.goto 4, 3) := by decide +kernel
theorem dX12_canPair_30 : decode cX12_canPair 30 = .ok (.iconst 0, 1) := by decide +kernel
theorem dX12_canPair_31 : decode cX12_canPair 31 = .ok (.ireturn, 1) := by decide +kernel
theorem zy_X12_canPair : zYv yX12_canPair cX12_canPair 4 (some .boolean) 3 := ⟨zw_1538, zws_53, zw_12, zw_1539, by decide, by decide, by decide⟩
theorem c_X12_canPair_0 {C : zC} {I : Nat → Nat → Int32} {J : Nat → Nat → Int64} {Rr : Nat → Nat → Option Nat} {D : zD} (a1 : Int32) (a2 : Int32) (a3 : Int32) (v_limit : Int32) (e_v_limit : I 128 12 = v_limit) (v_fits : (Nat → Int32)) (e_v_fits : I 142 = v_fits) (rr : Int32) (E : zE C RX12 cX12_canPair 4 (some .boolean) ({ frames := 0, cells := 0, slots := 0, locals := 0 } : Room)) (hQ : C.Q = zQi C ({ frames := 0, cells := 0, slots := 0, locals := 0 } : Room) rr (I, J, Rr, D)) (h : pM_canPair a1 a2 a3 v_limit v_fits = some rr) : zB C (0, 0) 0 [(0, .ref (C.X.1 + 128)), (1, .int a1), (2, .int a2), (3, .int a3)] [] (I, J, Rr, D) := by
  refine zb_aload_n E dX12_canPair_0 0 rfl rfl ?_
  refine zb_get E 128 (by decide) (zF_128 C.X) rfl zin12 16 (by decide) zw_1184 (v := .ref (C.X.1 + 142)) rfl dX12_canPair_1 ?_
  refine zb_bipush E dX12_canPair_4 (v := 10) rfl ?_
  refine zb_iload_n E dX12_canPair_6 1 rfl rfl ?_
  refine zb_imul E dX12_canPair_7 ?_
  refine zb_iload_n E dX12_canPair_8 2 rfl rfl ?_
  refine zb_iadd E dX12_canPair_9 ?_
  obtain ⟨g1, h⟩ := gd_s h
  refine zb_iald E 142 (by decide) zF_142 (f := v_fits) (by exact e_v_fits) (ib_in g1) dX12_canPair_10 ?_
  refine zb_aload_n E dX12_canPair_11 0 rfl rfl ?_
  refine zb_get E 128 (by decide) (zF_128 C.X) rfl zin12 12 (by decide) zw_1180 (v := .int v_limit) (by exact congrArg (fun z => some (Value.int z)) e_v_limit) dX12_canPair_12 ?_
  refine zb_icmp_gt E dX12_canPair_15 (tgt := 30) rfl (fun hc => ?_) (fun hc => ?_)
  · have h := if_t h hc
    refine zb_iconst E dX12_canPair_30 (v := 0) rfl ?_
    obtain rfl := zinj1 h
    exact zb_zret E hQ (ty := .boolean) rfl rfl ⟨Nat.zero_le _, Nat.zero_le _⟩ dX12_canPair_31
  · have h := if_f h hc
    refine zb_iload_n E dX12_canPair_18 3 rfl rfl ?_
    refine zb_iload_n E dX12_canPair_19 2 rfl rfl ?_
    refine zb_ishr E dX12_canPair_20 ?_
    refine zb_iconst E dX12_canPair_21 (v := 1) rfl ?_
    refine zb_iand E dX12_canPair_22 ?_
    refine zb_if_ne E dX12_canPair_23 (tgt := 30) rfl (fun hc => ?_) (fun hc => ?_)
    · have h := if_f h hc
      refine zb_iconst E dX12_canPair_30 (v := 0) rfl ?_
      obtain rfl := zinj1 h
      exact zb_zret E hQ (ty := .boolean) rfl rfl ⟨Nat.zero_le _, Nat.zero_le _⟩ dX12_canPair_31
    · have h := if_t h hc
      refine zb_iconst E dX12_canPair_26 (v := 1) rfl ?_
      refine zb_goto E dX12_canPair_27 (tgt := 31) rfl ?_
      obtain rfl := zinj1 h
      exact zb_zret E hQ (ty := .boolean) rfl rfl ⟨Nat.zero_le _, Nat.zero_le _⟩ dX12_canPair_31
theorem c_X12_canPair {l : Launch} {X : zX} {I : Nat → Nat → Int32} {J : Nat → Nat → Int64} {Rr : Nat → Nat → Option Nat} {D : zD} {a1 : Int32} {a2 : Int32} {a3 : Int32} (v_limit : Int32) (e_v_limit : I 128 12 = v_limit) (v_fits : (Nat → Int32)) (e_v_fits : I 142 = v_fits) {rr : Int32} (h : pM_canPair a1 a2 a3 v_limit v_fits = some rr) : zMi l yX12_canPair cX12_canPair 4 (some .boolean) ({ frames := 0, cells := 0, slots := 0, locals := 0 } : Room) X [.ref (X.1 + 128), .int a1, .int a2, .int a3] (I, J, Rr, D) rr (I, J, Rr, D) := by
  refine zMi.of (by decide) (Nat.le_of_ble_eq_true rfl) (fun C E hl hX hQ => ?_)
  subst hl
  subst hX
  have eI0 : I = I := rfl
  have eJ0 : J = J := rfl
  refine zb_S (S2 := (I, J, Rr, D)) (zS_eq eI0.symm eJ0.symm) ?_
  exact c_X12_canPair_0 a1 a2 a3 v_limit e_v_limit v_fits e_v_fits rr E hQ h
-- ChequeredClothModel.paired
theorem dX12_paired_0 : decode cX12_paired 0 = .ok (.aload_n 0, 1) := by decide +kernel
theorem dX12_paired_1 : decode cX12_paired 1 = .ok (.getfield 54, 3) := by decide +kernel
theorem dX12_paired_4 : decode cX12_paired 4 = .ok (.sipush 1024, 3) := by decide +kernel
theorem dX12_paired_7 : decode cX12_paired 7 = .ok (.iload_n 1, 1) := by decide +kernel
theorem dX12_paired_8 : decode cX12_paired 8 = .ok (.iconst 1, 1) := by decide +kernel
theorem dX12_paired_9 : decode cX12_paired 9 = .ok (.iadd, 1) := by decide +kernel
theorem dX12_paired_10 : decode cX12_paired 10 = .ok (.imul, 1) := by decide +kernel
theorem dX12_paired_11 : decode cX12_paired 11 = .ok (.iload_n 3, 1) := by decide +kernel
theorem dX12_paired_12 : decode cX12_paired 12 = .ok (.iconst 1, 1) := by decide +kernel
theorem dX12_paired_13 : decode cX12_paired 13 = .ok (.iload_n 2, 1) := by decide +kernel
theorem dX12_paired_14 : decode cX12_paired 14 = .ok (.ishl, 1) := by decide +kernel
theorem dX12_paired_15 : decode cX12_paired 15 = .ok (.ior, 1) := by decide +kernel
theorem dX12_paired_16 : decode cX12_paired 16 = .ok (.iadd, 1) := by decide +kernel
theorem dX12_paired_17 : decode cX12_paired 17 = .ok (.iaload, 1) := by decide +kernel
theorem dX12_paired_18 : decode cX12_paired 18 = .ok (.ldc_w 268, 3) := by decide +kernel
theorem dX12_paired_21 : decode cX12_paired 21 = .ok (.iadd, 1) := by decide +kernel
theorem dX12_paired_22 : decode cX12_paired 22 = .ok (.aload_n 0, 1) := by decide +kernel
theorem dX12_paired_23 : decode cX12_paired 23 = .ok (.getfield 60, 3) := by decide +kernel
theorem dX12_paired_26 : decode cX12_paired 26 = .ok (.bipush 10, 2) := by decide +kernel
theorem dX12_paired_28 : decode cX12_paired 28 = .ok (.iload_n 1, 1) := by decide +kernel
theorem dX12_paired_29 : decode cX12_paired 29 = .ok (.imul, 1) := by decide +kernel
theorem dX12_paired_30 : decode cX12_paired 30 = .ok (.iload_n 2, 1) := by decide +kernel
theorem dX12_paired_31 : decode cX12_paired 31 = .ok (.iadd, 1) := by decide +kernel
theorem dX12_paired_32 : decode cX12_paired 32 = .ok (.iaload, 1) := by decide +kernel
theorem dX12_paired_33 : decode cX12_paired 33 = .ok (.isub, 1) := by decide +kernel
theorem dX12_paired_34 : decode cX12_paired 34 = .ok (.ireturn, 1) := by decide +kernel
theorem zy_X12_paired : zYv yX12_paired cX12_paired 4 (some .int) 3 := ⟨zw_1542, zws_54, zw_12, zw_1543, by decide, by decide, by decide⟩
theorem c_X12_paired_0 {C : zC} {I : Nat → Nat → Int32} {J : Nat → Nat → Int64} {Rr : Nat → Nat → Option Nat} {D : zD} (a1 : Int32) (a2 : Int32) (a3 : Int32) (v_best : (Nat → Int32)) (e_v_best : I 140 = v_best) (v_fits : (Nat → Int32)) (e_v_fits : I 142 = v_fits) (rr : Int32) (E : zE C RX12 cX12_paired 4 (some .int) ({ frames := 0, cells := 0, slots := 0, locals := 0 } : Room)) (hQ : C.Q = zQi C ({ frames := 0, cells := 0, slots := 0, locals := 0 } : Room) rr (I, J, Rr, D)) (h : pM_paired a1 a2 a3 v_best v_fits = some rr) : zB C (0, 0) 0 [(0, .ref (C.X.1 + 128)), (1, .int a1), (2, .int a2), (3, .int a3)] [] (I, J, Rr, D) := by
  refine zb_aload_n E dX12_paired_0 0 rfl rfl ?_
  refine zb_get E 128 (by decide) (zF_128 C.X) rfl zin12 14 (by decide) zw_1182 (v := .ref (C.X.1 + 140)) rfl dX12_paired_1 ?_
  refine zb_sipush E dX12_paired_4 (v := 1024) rfl ?_
  refine zb_iload_n E dX12_paired_7 1 rfl rfl ?_
  refine zb_iconst E dX12_paired_8 (v := 1) rfl ?_
  refine zb_iadd E dX12_paired_9 ?_
  refine zb_imul E dX12_paired_10 ?_
  refine zb_iload_n E dX12_paired_11 3 rfl rfl ?_
  refine zb_iconst E dX12_paired_12 (v := 1) rfl ?_
  refine zb_iload_n E dX12_paired_13 2 rfl rfl ?_
  refine zb_ishl E dX12_paired_14 ?_
  refine zb_ior E dX12_paired_15 ?_
  refine zb_iadd E dX12_paired_16 ?_
  obtain ⟨g1, h⟩ := gd_s h
  refine zb_iald E 140 (by decide) zF_140 (f := v_best) (by exact e_v_best) (ib_in g1) dX12_paired_17 ?_
  refine zb_ldcw E dX12_paired_18 (v := 100000) zw_1544 ?_
  refine zb_iadd E dX12_paired_21 ?_
  refine zb_aload_n E dX12_paired_22 0 rfl rfl ?_
  refine zb_get E 128 (by decide) (zF_128 C.X) rfl zin12 16 (by decide) zw_1184 (v := .ref (C.X.1 + 142)) rfl dX12_paired_23 ?_
  refine zb_bipush E dX12_paired_26 (v := 10) rfl ?_
  refine zb_iload_n E dX12_paired_28 1 rfl rfl ?_
  refine zb_imul E dX12_paired_29 ?_
  refine zb_iload_n E dX12_paired_30 2 rfl rfl ?_
  refine zb_iadd E dX12_paired_31 ?_
  obtain ⟨g2, h⟩ := gd_s h
  refine zb_iald E 142 (by decide) zF_142 (f := v_fits) (by exact e_v_fits) (ib_in g2) dX12_paired_32 ?_
  refine zb_isub E dX12_paired_33 ?_
  obtain rfl := zinj1 h
  exact zb_iret E hQ rfl ⟨Nat.zero_le _, Nat.zero_le _⟩ dX12_paired_34
theorem c_X12_paired {l : Launch} {X : zX} {I : Nat → Nat → Int32} {J : Nat → Nat → Int64} {Rr : Nat → Nat → Option Nat} {D : zD} {a1 : Int32} {a2 : Int32} {a3 : Int32} (v_best : (Nat → Int32)) (e_v_best : I 140 = v_best) (v_fits : (Nat → Int32)) (e_v_fits : I 142 = v_fits) {rr : Int32} (h : pM_paired a1 a2 a3 v_best v_fits = some rr) : zMi l yX12_paired cX12_paired 4 (some .int) ({ frames := 0, cells := 0, slots := 0, locals := 0 } : Room) X [.ref (X.1 + 128), .int a1, .int a2, .int a3] (I, J, Rr, D) rr (I, J, Rr, D) := by
  refine zMi.of (by decide) (Nat.le_of_ble_eq_true rfl) (fun C E hl hX hQ => ?_)
  subst hl
  subst hX
  have eI0 : I = I := rfl
  have eJ0 : J = J := rfl
  refine zb_S (S2 := (I, J, Rr, D)) (zS_eq eI0.symm eJ0.symm) ?_
  exact c_X12_paired_0 a1 a2 a3 v_best e_v_best v_fits e_v_fits rr E hQ h
-- ChequeredClothModel.matches
theorem dX12_matches_0 : decode cX12_matches 0 = .ok (.iconst 0, 1) := by decide +kernel
theorem dX12_matches_1 : decode cX12_matches 1 = .ok (.istore_n 1, 1) := by decide +kernel
theorem dX12_matches_2 : decode cX12_matches 2 = .ok (.iload_n 1, 1) := by decide +kernel
theorem dX12_matches_3 : decode cX12_matches 3 = .ok (.bipush 10, 2) := by decide +kernel
theorem dX12_matches_5 : decode cX12_matches 5 = .ok (.if_icmp .ge 67, 3) := by decide +kernel
theorem dX12_matches_8 : decode cX12_matches 8 = .ok (.iconst 0, 1) := by decide +kernel
theorem dX12_matches_9 : decode cX12_matches 9 = .ok (.istore_n 2, 1) := by decide +kernel
theorem dX12_matches_10 : decode cX12_matches 10 = .ok (.iload_n 2, 1) := by decide +kernel
theorem dX12_matches_11 : decode cX12_matches 11 = .ok (.bipush 10, 2) := by decide +kernel
theorem dX12_matches_13 : decode cX12_matches 13 = .ok (.if_icmp .ge 53, 3) := by decide +kernel
theorem dX12_matches_16 : decode cX12_matches 16 = .ok (.aload_n 0, 1) := by decide +kernel
theorem dX12_matches_17 : decode cX12_matches 17 = .ok (.getfield 60, 3) := by decide +kernel
theorem dX12_matches_20 : decode cX12_matches 20 = .ok (.bipush 10, 2) := by decide +kernel
theorem dX12_matches_22 : decode cX12_matches 22 = .ok (.iload_n 1, 1) := by decide +kernel
theorem dX12_matches_23 : decode cX12_matches 23 = .ok (.imul, 1) := by decide +kernel
theorem dX12_matches_24 : decode cX12_matches 24 = .ok (.iload_n 2, 1) := by decide +kernel
theorem dX12_matches_25 : decode cX12_matches 25 = .ok (.iadd, 1) := by decide +kernel
theorem dX12_matches_26 : decode cX12_matches 26 = .ok (.aload_n 0, 1) := by decide +kernel
theorem dX12_matches_27 : decode cX12_matches 27 = .ok (.iload_n 1, 1) := by decide +kernel
theorem dX12_matches_28 : decode cX12_matches 28 = .ok (.invokevirtual 239, 3) := by decide +kernel
theorem dX12_matches_31 : decode cX12_matches 31 = .ok (.ifCond .eq 26, 3) := by decide +kernel
theorem dX12_matches_34 : decode cX12_matches 34 = .ok (.aload_n 0, 1) := by decide +kernel
theorem dX12_matches_35 : decode cX12_matches 35 = .ok (.bipush 10, 2) := by decide +kernel
theorem dX12_matches_37 : decode cX12_matches 37 = .ok (.iload_n 2, 1) := by decide +kernel
theorem dX12_matches_38 : decode cX12_matches 38 = .ok (.iadd, 1) := by decide +kernel
theorem dX12_matches_39 : decode cX12_matches 39 = .ok (.invokevirtual 239, 3) := by decide +kernel
theorem dX12_matches_42 : decode cX12_matches 42 = .ok (.ifCond .eq 15, 3) := by decide +kernel
theorem dX12_matches_45 : decode cX12_matches 45 = .ok (.aload_n 0, 1) := by decide +kernel
theorem dX12_matches_46 : decode cX12_matches 46 = .ok (.iload_n 1, 1) := by decide +kernel
theorem dX12_matches_47 : decode cX12_matches 47 = .ok (.bipush 10, 2) := by decide +kernel
theorem dX12_matches_49 : decode cX12_matches 49 = .ok (.iload_n 2, 1) := by decide +kernel
theorem dX12_matches_50 : decode cX12_matches 50 = .ok (.iadd, 1) := by decide +kernel
theorem dX12_matches_51 : decode cX12_matches 51 = .ok (.invokevirtual 256, 3) := by decide +kernel
theorem dX12_matches_54 : decode cX12_matches 54 = .ok (.goto 5, 3) := by decide +kernel
theorem dX12_matches_57 : decode cX12_matches 57 = .ok (.ldc 225, 2) := by decide +kernel
theorem dX12_matches_59 : decode cX12_matches 59 = .ok (.iastore, 1) := by decide +kernel
theorem dX12_matches_60 : decode cX12_matches 60 = .ok (.iinc 2 1, 3) := by decide +kernel
theorem dX12_matches_63 : decode cX12_matches 63 = .ok (.goto (-53), 3) := by decide +kernel
theorem dX12_matches_66 : decode cX12_matches 66 = .ok (.iinc 1 1, 3) := by decide +kernel
theorem dX12_matches_69 : decode cX12_matches 69 = .ok (.goto (-67), 3) := by decide +kernel
theorem dX12_matches_72 : decode cX12_matches 72 = .ok (.iconst 0, 1) := by decide +kernel
theorem dX12_matches_73 : decode cX12_matches 73 = .ok (.istore_n 1, 1) := by decide +kernel
theorem dX12_matches_74 : decode cX12_matches 74 = .ok (.iload_n 1, 1) := by decide +kernel
theorem dX12_matches_75 : decode cX12_matches 75 = .ok (.sipush 1024, 3) := by decide +kernel
theorem dX12_matches_78 : decode cX12_matches 78 = .ok (.if_icmp .ge 20, 3) := by decide +kernel
theorem dX12_matches_81 : decode cX12_matches 81 = .ok (.aload_n 0, 1) := by decide +kernel
theorem dX12_matches_82 : decode cX12_matches 82 = .ok (.getfield 54, 3) := by decide +kernel
theorem dX12_matches_85 : decode cX12_matches 85 = .ok (.sipush 10240, 3) := by decide +kernel
theorem dX12_matches_88 : decode cX12_matches 88 = .ok (.iload_n 1, 1) := by decide +kernel
theorem dX12_matches_89 : decode cX12_matches 89 = .ok (.iadd, 1) := by decide +kernel
theorem dX12_matches_90 : decode cX12_matches 90 = .ok (.iconst 0, 1) := by decide +kernel
theorem dX12_matches_91 : decode cX12_matches 91 = .ok (.iastore, 1) := by decide +kernel
theorem dX12_matches_92 : decode cX12_matches 92 = .ok (.iinc 1 1, 3) := by decide +kernel
theorem dX12_matches_95 : decode cX12_matches 95 = .ok (.goto (-21), 3) := by decide +kernel
theorem dX12_matches_98 : decode cX12_matches 98 = .ok (.bipush 9, 2) := by decide +kernel
theorem dX12_matches_100 : decode cX12_matches 100 = .ok (.istore_n 1, 1) := by decide +kernel
theorem dX12_matches_101 : decode cX12_matches 101 = .ok (.iload_n 1, 1) := by decide +kernel
theorem dX12_matches_102 : decode cX12_matches 102 = .ok (.ifCond .lt 100, 3) := by decide +kernel
theorem dX12_matches_105 : decode cX12_matches 105 = .ok (.iconst 0, 1) := by decide +kernel
theorem dX12_matches_106 : decode cX12_matches 106 = .ok (.istore_n 2, 1) := by decide +kernel
theorem dX12_matches_107 : decode cX12_matches 107 = .ok (.iload_n 2, 1) := by decide +kernel
theorem dX12_matches_108 : decode cX12_matches 108 = .ok (.sipush 1024, 3) := by decide +kernel
theorem dX12_matches_111 : decode cX12_matches 111 = .ok (.if_icmp .ge 85, 3) := by decide +kernel
theorem dX12_matches_114 : decode cX12_matches 114 = .ok (.aload_n 0, 1) := by decide +kernel
theorem dX12_matches_115 : decode cX12_matches 115 = .ok (.getfield 54, 3) := by decide +kernel
theorem dX12_matches_118 : decode cX12_matches 118 = .ok (.sipush 1024, 3) := by decide +kernel
theorem dX12_matches_121 : decode cX12_matches 121 = .ok (.iload_n 1, 1) := by decide +kernel
theorem dX12_matches_122 : decode cX12_matches 122 = .ok (.iconst 1, 1) := by decide +kernel
theorem dX12_matches_123 : decode cX12_matches 123 = .ok (.iadd, 1) := by decide +kernel
theorem dX12_matches_124 : decode cX12_matches 124 = .ok (.imul, 1) := by decide +kernel
theorem dX12_matches_125 : decode cX12_matches 125 = .ok (.iload_n 2, 1) := by decide +kernel
theorem dX12_matches_126 : decode cX12_matches 126 = .ok (.iadd, 1) := by decide +kernel
theorem dX12_matches_127 : decode cX12_matches 127 = .ok (.iaload, 1) := by decide +kernel
theorem dX12_matches_128 : decode cX12_matches 128 = .ok (.istore_n 3, 1) := by decide +kernel
theorem dX12_matches_129 : decode cX12_matches 129 = .ok (.iconst 0, 1) := by decide +kernel
theorem dX12_matches_130 : decode cX12_matches 130 = .ok (.istore 4, 2) := by decide +kernel
theorem dX12_matches_132 : decode cX12_matches 132 = .ok (.iload 4, 2) := by decide +kernel
theorem dX12_matches_134 : decode cX12_matches 134 = .ok (.bipush 10, 2) := by decide +kernel
theorem dX12_matches_136 : decode cX12_matches 136 = .ok (.if_icmp .ge 41, 3) := by decide +kernel
theorem dX12_matches_139 : decode cX12_matches 139 = .ok (.aload_n 0, 1) := by decide +kernel
theorem dX12_matches_140 : decode cX12_matches 140 = .ok (.iload_n 1, 1) := by decide +kernel
theorem dX12_matches_141 : decode cX12_matches 141 = .ok (.iload 4, 2) := by decide +kernel
theorem dX12_matches_143 : decode cX12_matches 143 = .ok (.iload_n 2, 1) := by decide +kernel
theorem dX12_matches_144 : decode cX12_matches 144 = .ok (.invokevirtual 260, 3) := by decide +kernel
theorem dX12_matches_147 : decode cX12_matches 147 = .ok (.ifCond .eq 24, 3) := by decide +kernel
theorem dX12_matches_150 : decode cX12_matches 150 = .ok (.aload_n 0, 1) := by decide +kernel
theorem dX12_matches_151 : decode cX12_matches 151 = .ok (.iload_n 1, 1) := by decide +kernel
theorem dX12_matches_152 : decode cX12_matches 152 = .ok (.iload 4, 2) := by decide +kernel
theorem dX12_matches_154 : decode cX12_matches 154 = .ok (.iload_n 2, 1) := by decide +kernel
theorem dX12_matches_155 : decode cX12_matches 155 = .ok (.invokevirtual 264, 3) := by decide +kernel
theorem dX12_matches_158 : decode cX12_matches 158 = .ok (.iload_n 3, 1) := by decide +kernel
theorem dX12_matches_159 : decode cX12_matches 159 = .ok (.if_icmp .le 12, 3) := by decide +kernel
theorem dX12_matches_162 : decode cX12_matches 162 = .ok (.aload_n 0, 1) := by decide +kernel
theorem dX12_matches_163 : decode cX12_matches 163 = .ok (.iload_n 1, 1) := by decide +kernel
theorem dX12_matches_164 : decode cX12_matches 164 = .ok (.iload 4, 2) := by decide +kernel
theorem dX12_matches_166 : decode cX12_matches 166 = .ok (.iload_n 2, 1) := by decide +kernel
theorem dX12_matches_167 : decode cX12_matches 167 = .ok (.invokevirtual 264, 3) := by decide +kernel
theorem dX12_matches_170 : decode cX12_matches 170 = .ok (.istore_n 3, 1) := by decide +kernel
theorem dX12_matches_171 : decode cX12_matches 171 = .ok (.iinc 4 1, 3) := by decide +kernel
theorem dX12_matches_174 : decode cX12_matches 174 = .ok (.goto (-42), 3) := by decide +kernel
theorem dX12_matches_177 : decode cX12_matches 177 = .ok (.aload_n 0, 1) := by decide +kernel
theorem dX12_matches_178 : decode cX12_matches 178 = .ok (.getfield 54, 3) := by decide +kernel
theorem dX12_matches_181 : decode cX12_matches 181 = .ok (.sipush 1024, 3) := by decide +kernel
theorem dX12_matches_184 : decode cX12_matches 184 = .ok (.iload_n 1, 1) := by decide +kernel
theorem dX12_matches_185 : decode cX12_matches 185 = .ok (.imul, 1) := by decide +kernel
theorem dX12_matches_186 : decode cX12_matches 186 = .ok (.iload_n 2, 1) := by decide +kernel
theorem dX12_matches_187 : decode cX12_matches 187 = .ok (.iadd, 1) := by decide +kernel
theorem dX12_matches_188 : decode cX12_matches 188 = .ok (.iload_n 3, 1) := by decide +kernel
theorem dX12_matches_189 : decode cX12_matches 189 = .ok (.iastore, 1) := by decide +kernel
theorem dX12_matches_190 : decode cX12_matches 190 = .ok (.iinc 2 1, 3) := by decide +kernel
theorem dX12_matches_193 : decode cX12_matches 193 = .ok (.goto (-86), 3) := by decide +kernel
theorem dX12_matches_196 : decode cX12_matches 196 = .ok (.iinc 1 (-1), 3) := by decide +kernel
theorem dX12_matches_199 : decode cX12_matches 199 = .ok (.goto (-98), 3) := by decide +kernel
theorem dX12_matches_202 : decode cX12_matches 202 = .ok (.iconst 0, 1) := by decide +kernel
theorem dX12_matches_203 : decode cX12_matches 203 = .ok (.istore_n 1, 1) := by decide +kernel
theorem dX12_matches_204 : decode cX12_matches 204 = .ok (.iconst 0, 1) := by decide +kernel
theorem dX12_matches_205 : decode cX12_matches 205 = .ok (.istore_n 2, 1) := by decide +kernel
theorem dX12_matches_206 : decode cX12_matches 206 = .ok (.iload_n 2, 1) := by decide +kernel
theorem dX12_matches_207 : decode cX12_matches 207 = .ok (.bipush 10, 2) := by decide +kernel
theorem dX12_matches_209 : decode cX12_matches 209 = .ok (.if_icmp .ge 89, 3) := by decide +kernel
theorem dX12_matches_212 : decode cX12_matches 212 = .ok (.aload_n 0, 1) := by decide +kernel
theorem dX12_matches_213 : decode cX12_matches 213 = .ok (.getfield 57, 3) := by decide +kernel
theorem dX12_matches_216 : decode cX12_matches 216 = .ok (.iload_n 2, 1) := by decide +kernel
theorem dX12_matches_217 : decode cX12_matches 217 = .ok (.iconst (-1), 1) := by decide +kernel
theorem dX12_matches_218 : decode cX12_matches 218 = .ok (.iastore, 1) := by decide +kernel
theorem dX12_matches_219 : decode cX12_matches 219 = .ok (.bipush 9, 2) := by decide +kernel
theorem dX12_matches_221 : decode cX12_matches 221 = .ok (.istore_n 3, 1) := by decide +kernel
theorem dX12_matches_222 : decode cX12_matches 222 = .ok (.iload_n 3, 1) := by decide +kernel
theorem dX12_matches_223 : decode cX12_matches 223 = .ok (.ifCond .lt 48, 3) := by decide +kernel
theorem dX12_matches_226 : decode cX12_matches 226 = .ok (.aload_n 0, 1) := by decide +kernel
theorem dX12_matches_227 : decode cX12_matches 227 = .ok (.iload_n 2, 1) := by decide +kernel
theorem dX12_matches_228 : decode cX12_matches 228 = .ok (.iload_n 3, 1) := by decide +kernel
theorem dX12_matches_229 : decode cX12_matches 229 = .ok (.iload_n 1, 1) := by decide +kernel
theorem dX12_matches_230 : decode cX12_matches 230 = .ok (.invokevirtual 260, 3) := by decide +kernel
theorem dX12_matches_233 : decode cX12_matches 233 = .ok (.ifCond .eq 32, 3) := by decide +kernel
theorem dX12_matches_236 : decode cX12_matches 236 = .ok (.aload_n 0, 1) := by decide +kernel
theorem dX12_matches_237 : decode cX12_matches 237 = .ok (.iload_n 2, 1) := by decide +kernel
theorem dX12_matches_238 : decode cX12_matches 238 = .ok (.iload_n 3, 1) := by decide +kernel
theorem dX12_matches_239 : decode cX12_matches 239 = .ok (.iload_n 1, 1) := by decide +kernel
theorem dX12_matches_240 : decode cX12_matches 240 = .ok (.invokevirtual 264, 3) := by decide +kernel
theorem dX12_matches_243 : decode cX12_matches 243 = .ok (.aload_n 0, 1) := by decide +kernel
theorem dX12_matches_244 : decode cX12_matches 244 = .ok (.getfield 54, 3) := by decide +kernel
theorem dX12_matches_247 : decode cX12_matches 247 = .ok (.sipush 1024, 3) := by decide +kernel
theorem dX12_matches_250 : decode cX12_matches 250 = .ok (.iload_n 2, 1) := by decide +kernel
theorem dX12_matches_251 : decode cX12_matches 251 = .ok (.imul, 1) := by decide +kernel
theorem dX12_matches_252 : decode cX12_matches 252 = .ok (.iload_n 1, 1) := by decide +kernel
theorem dX12_matches_253 : decode cX12_matches 253 = .ok (.iadd, 1) := by decide +kernel
theorem dX12_matches_254 : decode cX12_matches 254 = .ok (.iaload, 1) := by decide +kernel
theorem dX12_matches_255 : decode cX12_matches 255 = .ok (.if_icmp .ne 10, 3) := by decide +kernel
theorem dX12_matches_258 : decode cX12_matches 258 = .ok (.aload_n 0, 1) := by decide +kernel
theorem dX12_matches_259 : decode cX12_matches 259 = .ok (.getfield 57, 3) := by decide +kernel
theorem dX12_matches_262 : decode cX12_matches 262 = .ok (.iload_n 2, 1) := by decide +kernel
theorem dX12_matches_263 : decode cX12_matches 263 = .ok (.iload_n 3, 1) := by decide +kernel
theorem dX12_matches_264 : decode cX12_matches 264 = .ok (.iastore, 1) := by decide +kernel
theorem dX12_matches_265 : decode cX12_matches 265 = .ok (.iinc 3 (-1), 3) := by decide +kernel
theorem dX12_matches_268 : decode cX12_matches 268 = .ok (.goto (-46), 3) := by decide +kernel
theorem dX12_matches_271 : decode cX12_matches 271 = .ok (.aload_n 0, 1) := by decide +kernel
theorem dX12_matches_272 : decode cX12_matches 272 = .ok (.getfield 57, 3) := by decide +kernel
theorem dX12_matches_275 : decode cX12_matches 275 = .ok (.iload_n 2, 1) := by decide +kernel
theorem dX12_matches_276 : decode cX12_matches 276 = .ok (.iaload, 1) := by decide +kernel
theorem dX12_matches_277 : decode cX12_matches 277 = .ok (.iconst (-1), 1) := by decide +kernel
theorem dX12_matches_278 : decode cX12_matches 278 = .ok (.if_icmp .eq 14, 3) := by decide +kernel
theorem dX12_matches_281 : decode cX12_matches 281 = .ok (.iload_n 1, 1) := by decide +kernel
theorem dX12_matches_282 : decode cX12_matches 282 = .ok (.iconst 1, 1) := by decide +kernel
theorem dX12_matches_283 : decode cX12_matches 283 = .ok (.aload_n 0, 1) := by decide +kernel
theorem dX12_matches_284 : decode cX12_matches 284 = .ok (.getfield 57, 3) := by decide +kernel
theorem dX12_matches_287 : decode cX12_matches 287 = .ok (.iload_n 2, 1) := by decide +kernel
theorem dX12_matches_288 : decode cX12_matches 288 = .ok (.iaload, 1) := by decide +kernel
theorem dX12_matches_289 : decode cX12_matches 289 = .ok (.ishl, 1) := by decide +kernel
theorem dX12_matches_290 : decode cX12_matches 290 = .ok (.ior, 1) := by decide +kernel
theorem dX12_matches_291 : decode cX12_matches 291 = .ok (.istore_n 1, 1) := by decide +kernel
theorem dX12_matches_292 : decode cX12_matches 292 = .ok (.iinc 2 1, 3) := by decide +kernel
theorem dX12_matches_295 : decode cX12_matches 295 = .ok (.goto (-89), 3) := by decide +kernel
theorem dX12_matches_298 : decode cX12_matches 298 = .ok (.return_, 1) := by decide +kernel
theorem zy_X12_matches : zYv yX12_matches cX12_matches 5 none 0 := ⟨zw_1534, zws_52, zw_12, zw_1535, by decide, by decide, by decide⟩
theorem c_X12_matches_b59 {C : zC} {I : Nat → Nat → Int32} {J : Nat → Nat → Int64} {Rr : Nat → Nat → Option Nat} {D : zD} (N : Nat) (v_grain : Int32) (e_v_grain : I 128 10 = v_grain) (v_limit : Int32) (e_v_limit : I 128 12 = v_limit) (v_lost : Int32) (e_v_lost : I 128 11 = v_lost) (v_cutAt : (Nat → Int32)) (e_v_cutAt : I 136 = v_cutAt) (v_cutWorth : (Nat → Int32)) (e_v_cutWorth : I 137 = v_cutWorth) (v_cuts : (Nat → Int32)) (e_v_cuts : I 135 = v_cuts) (y_v_best : (Nat → Int32)) (y_v_cost : (Nat → Int32)) (y_v_fits : (Nat → Int32)) (y_v_mates : (Nat → Int32)) (E : zE C RX12 cX12_matches 5 none ({ frames := 3, cells := 0, slots := 0, locals := 68 } : Room)) (hQ : C.Q = zQv C ({ frames := 3, cells := 0, slots := 0, locals := 68 } : Room) ((va_up (va_up (va_up (va_up I 139 y_v_cost) 140 y_v_best) 141 y_v_mates) 142 y_v_fits), J, Rr, D)) (x1 : Int32) (x2 : Int32) (s1 : Int32) (s2 : Int32) (v_best : (Nat → Int32)) (v_cost : (Nat → Int32)) (v_fits : (Nat → Int32)) (v_mates : (Nat → Int32)) (self : Int32 → (Nat → Int32) → (Nat → Int32) → Option R_pM_matches) (ih : ∀ (x2 : Int32) (v_cost : (Nat → Int32)) (v_fits : (Nat → Int32)), self x2 v_cost v_fits = some (y_v_best, y_v_cost, y_v_fits, y_v_mates) → zB C (0, 0) 10 [(0, .ref (C.X.1 + 128)), (1, .int x1), (2, .int x2)] [] ((va_up (va_up (va_up (va_up I 139 v_cost) 140 v_best) 141 v_mates) 142 v_fits), J, Rr, D)) (k66 : (Nat → Int32) → (Nat → Int32) → Option R_pM_matches) (hk66 : ∀ (v_cost : (Nat → Int32)) (v_fits : (Nat → Int32)), k66 v_cost v_fits = some (y_v_best, y_v_cost, y_v_fits, y_v_mates) → zB C (0, 0) 66 [(0, .ref (C.X.1 + 128)), (1, .int x1)] [] ((va_up (va_up (va_up (va_up I 139 v_cost) 140 v_best) 141 v_mates) 142 v_fits), J, Rr, D)) (h : pM_matches_b59 N v_grain v_limit v_lost v_cutAt v_cutWorth v_cuts self k66 x1 x2 s1 s2 v_best v_cost v_fits v_mates = some (y_v_best, y_v_cost, y_v_fits, y_v_mates)) : zB C (0, 0) 59 [(0, .ref (C.X.1 + 128)), (1, .int x1), (2, .int x2)] [.int s2, .int s1, .ref (C.X.1 + 142)] ((va_up (va_up (va_up (va_up I 139 v_cost) 140 v_best) 141 v_mates) 142 v_fits), J, Rr, D) := by
  obtain ⟨g5, h⟩ := gd_s h
  refine zb_iast E 142 (by decide) zF_142 (f := v_fits) rfl (ib_in g5) dX12_matches_59 (I2 := (va_up (va_up (va_up (va_up I 139 v_cost) 140 v_best) 141 v_mates) 142 (upd v_fits (ix s1) s2))) zn1 ?_
  refine zb_iinc E dX12_matches_60 2 rfl (v := (x2 + 1)) rfl (by decide) (lv2 := [(2, .int (x2 + 1)), (0, .ref (C.X.1 + 128)), (1, .int x1)]) rfl ?_
  refine zb_goto E dX12_matches_63 (tgt := 10) rfl ?_
  refine zb_sub [1, 2, 0] rfl ?_
  exact ih (x2 + 1) v_cost (upd v_fits (ix s1) s2) h
theorem c_X12_matches_b57 {C : zC} {I : Nat → Nat → Int32} {J : Nat → Nat → Int64} {Rr : Nat → Nat → Option Nat} {D : zD} (N : Nat) (v_grain : Int32) (e_v_grain : I 128 10 = v_grain) (v_limit : Int32) (e_v_limit : I 128 12 = v_limit) (v_lost : Int32) (e_v_lost : I 128 11 = v_lost) (v_cutAt : (Nat → Int32)) (e_v_cutAt : I 136 = v_cutAt) (v_cutWorth : (Nat → Int32)) (e_v_cutWorth : I 137 = v_cutWorth) (v_cuts : (Nat → Int32)) (e_v_cuts : I 135 = v_cuts) (y_v_best : (Nat → Int32)) (y_v_cost : (Nat → Int32)) (y_v_fits : (Nat → Int32)) (y_v_mates : (Nat → Int32)) (E : zE C RX12 cX12_matches 5 none ({ frames := 3, cells := 0, slots := 0, locals := 68 } : Room)) (hQ : C.Q = zQv C ({ frames := 3, cells := 0, slots := 0, locals := 68 } : Room) ((va_up (va_up (va_up (va_up I 139 y_v_cost) 140 y_v_best) 141 y_v_mates) 142 y_v_fits), J, Rr, D)) (x1 : Int32) (x2 : Int32) (s1 : Int32) (v_best : (Nat → Int32)) (v_cost : (Nat → Int32)) (v_fits : (Nat → Int32)) (v_mates : (Nat → Int32)) (self : Int32 → (Nat → Int32) → (Nat → Int32) → Option R_pM_matches) (ih : ∀ (x2 : Int32) (v_cost : (Nat → Int32)) (v_fits : (Nat → Int32)), self x2 v_cost v_fits = some (y_v_best, y_v_cost, y_v_fits, y_v_mates) → zB C (0, 0) 10 [(0, .ref (C.X.1 + 128)), (1, .int x1), (2, .int x2)] [] ((va_up (va_up (va_up (va_up I 139 v_cost) 140 v_best) 141 v_mates) 142 v_fits), J, Rr, D)) (k66 : (Nat → Int32) → (Nat → Int32) → Option R_pM_matches) (hk66 : ∀ (v_cost : (Nat → Int32)) (v_fits : (Nat → Int32)), k66 v_cost v_fits = some (y_v_best, y_v_cost, y_v_fits, y_v_mates) → zB C (0, 0) 66 [(0, .ref (C.X.1 + 128)), (1, .int x1)] [] ((va_up (va_up (va_up (va_up I 139 v_cost) 140 v_best) 141 v_mates) 142 v_fits), J, Rr, D)) (h : pM_matches_b57 N v_grain v_limit v_lost v_cutAt v_cutWorth v_cuts self k66 x1 x2 s1 v_best v_cost v_fits v_mates = some (y_v_best, y_v_cost, y_v_fits, y_v_mates)) : zB C (0, 0) 57 [(0, .ref (C.X.1 + 128)), (1, .int x1), (2, .int x2)] [.int s1, .ref (C.X.1 + 142)] ((va_up (va_up (va_up (va_up I 139 v_cost) 140 v_best) 141 v_mates) 142 v_fits), J, Rr, D) := by
  refine zb_ldc E dX12_matches_57 (v := 100000000) zw_1479 ?_
  exact c_X12_matches_b59 N v_grain e_v_grain v_limit e_v_limit v_lost e_v_lost v_cutAt e_v_cutAt v_cutWorth e_v_cutWorth v_cuts e_v_cuts y_v_best y_v_cost y_v_fits y_v_mates E hQ x1 x2 s1 100000000 v_best v_cost v_fits v_mates self ih k66 hk66 h
theorem c_X12_matches_b10 {C : zC} {I : Nat → Nat → Int32} {J : Nat → Nat → Int64} {Rr : Nat → Nat → Option Nat} {D : zD} (N : Nat) (v_grain : Int32) (e_v_grain : I 128 10 = v_grain) (v_limit : Int32) (e_v_limit : I 128 12 = v_limit) (v_lost : Int32) (e_v_lost : I 128 11 = v_lost) (v_cutAt : (Nat → Int32)) (e_v_cutAt : I 136 = v_cutAt) (v_cutWorth : (Nat → Int32)) (e_v_cutWorth : I 137 = v_cutWorth) (v_cuts : (Nat → Int32)) (e_v_cuts : I 135 = v_cuts) (y_v_best : (Nat → Int32)) (y_v_cost : (Nat → Int32)) (y_v_fits : (Nat → Int32)) (y_v_mates : (Nat → Int32)) (E : zE C RX12 cX12_matches 5 none ({ frames := 3, cells := 0, slots := 0, locals := 68 } : Room)) (hQ : C.Q = zQv C ({ frames := 3, cells := 0, slots := 0, locals := 68 } : Room) ((va_up (va_up (va_up (va_up I 139 y_v_cost) 140 y_v_best) 141 y_v_mates) 142 y_v_fits), J, Rr, D)) (x1 : Int32) (v_best : (Nat → Int32)) (v_mates : (Nat → Int32)) (k66 : (Nat → Int32) → (Nat → Int32) → Option R_pM_matches) (hk66 : ∀ (v_cost : (Nat → Int32)) (v_fits : (Nat → Int32)), k66 v_cost v_fits = some (y_v_best, y_v_cost, y_v_fits, y_v_mates) → zB C (0, 0) 66 [(0, .ref (C.X.1 + 128)), (1, .int x1)] [] ((va_up (va_up (va_up (va_up I 139 v_cost) 140 v_best) 141 v_mates) 142 v_fits), J, Rr, D)) : ∀ (n9 : Nat) (x2 : Int32) (v_cost : (Nat → Int32)) (v_fits : (Nat → Int32)), pM_matches_b10 N v_grain v_limit v_lost v_cutAt v_cutWorth v_cuts x1 v_best v_mates k66 n9 x2 v_cost v_fits = some (y_v_best, y_v_cost, y_v_fits, y_v_mates) → zB C (0, 0) 10 [(0, .ref (C.X.1 + 128)), (1, .int x1), (2, .int x2)] [] ((va_up (va_up (va_up (va_up I 139 v_cost) 140 v_best) 141 v_mates) 142 v_fits), J, Rr, D) := by
  refine zlp3_ind (P := fun (x2 : Int32) (v_cost : (Nat → Int32)) (v_fits : (Nat → Int32)) => zB C (0, 0) 10 [(0, .ref (C.X.1 + 128)), (1, .int x1), (2, .int x2)] [] ((va_up (va_up (va_up (va_up I 139 v_cost) 140 v_best) 141 v_mates) 142 v_fits), J, Rr, D)) (fun self ih => ?_)
  intro x2 v_cost v_fits h
  refine zb_iload_n E dX12_matches_10 2 rfl rfl ?_
  refine zb_bipush E dX12_matches_11 (v := 10) rfl ?_
  refine zb_icmp_ge E dX12_matches_13 (tgt := 66) rfl (fun hc => ?_) (fun hc => ?_)
  · have h := if_t h hc
    refine zb_sub [0, 1] rfl ?_
    exact hk66 v_cost v_fits h
  · have h := if_f h hc
    refine zb_aload_n E dX12_matches_16 0 rfl rfl ?_
    refine zb_get E 128 (by decide) (zF_128 C.X) rfl zin12 16 (by decide) zw_1184 (v := .ref (C.X.1 + 142)) rfl dX12_matches_17 ?_
    refine zb_bipush E dX12_matches_20 (v := 10) rfl ?_
    refine zb_iload_n E dX12_matches_22 1 rfl rfl ?_
    refine zb_imul E dX12_matches_23 ?_
    refine zb_iload_n E dX12_matches_24 2 rfl rfl ?_
    refine zb_iadd E dX12_matches_25 ?_
    refine zb_aload_n E dX12_matches_26 0 rfl rfl ?_
    refine zb_iload_n E dX12_matches_27 1 rfl rfl ?_
    obtain ⟨rc1, hc_28, h⟩ := bd1_s h
    refine zb_cVi E [.int x1] 128 zy_X12_isThere zw_1497 (by decide) (zF_128 _ _ _ _) rfl (c_X12_isThere v_cuts (by exact e_v_cuts) hc_28) (by decide) rfl rfl (by first | decide | simp [Value.category]) dX12_matches_28 (cs2 := (0, 0)) rfl ?_
    refine zb_if_eq E dX12_matches_31 (tgt := 57) rfl (fun hc => ?_) (fun hc => ?_)
    · have h := if_t h hc
      exact c_X12_matches_b57 N v_grain e_v_grain v_limit e_v_limit v_lost e_v_lost v_cutAt e_v_cutAt v_cutWorth e_v_cutWorth v_cuts e_v_cuts y_v_best y_v_cost y_v_fits y_v_mates E hQ x1 x2 ((10 * x1) + x2) v_best v_cost v_fits v_mates self ih k66 hk66 h
    · have h := if_f h hc
      refine zb_aload_n E dX12_matches_34 0 rfl rfl ?_
      refine zb_bipush E dX12_matches_35 (v := 10) rfl ?_
      refine zb_iload_n E dX12_matches_37 2 rfl rfl ?_
      refine zb_iadd E dX12_matches_38 ?_
      obtain ⟨rc2, hc_39, h⟩ := bd1_s h
      refine zb_cVi E [.int (10 + x2)] 128 zy_X12_isThere zw_1497 (by decide) (zF_128 _ _ _ _) rfl (c_X12_isThere v_cuts (by exact e_v_cuts) hc_39) (by decide) rfl rfl (by first | decide | simp [Value.category]) dX12_matches_39 (cs2 := (0, 0)) rfl ?_
      refine zb_if_eq E dX12_matches_42 (tgt := 57) rfl (fun hc => ?_) (fun hc => ?_)
      · have h := if_t h hc
        exact c_X12_matches_b57 N v_grain e_v_grain v_limit e_v_limit v_lost e_v_lost v_cutAt e_v_cutAt v_cutWorth e_v_cutWorth v_cuts e_v_cuts y_v_best y_v_cost y_v_fits y_v_mates E hQ x1 x2 ((10 * x1) + x2) v_best v_cost v_fits v_mates self ih k66 hk66 h
      · have h := if_f h hc
        refine zb_aload_n E dX12_matches_45 0 rfl rfl ?_
        refine zb_iload_n E dX12_matches_46 1 rfl rfl ?_
        refine zb_bipush E dX12_matches_47 (v := 10) rfl ?_
        refine zb_iload_n E dX12_matches_49 2 rfl rfl ?_
        refine zb_iadd E dX12_matches_50 ?_
        obtain ⟨rc3, v_cost_c3, hc_51, h⟩ := bd2_s h
        refine zb_cVi E [.int x1, .int (10 + x2)] 128 zy_X12_fitOf zw_1520 (by decide) (zF_128 _ _ _ _) rfl (c_X12_fitOf v_grain (by exact e_v_grain) v_lost (by exact e_v_lost) v_cutAt (by exact e_v_cutAt) v_cutWorth (by exact e_v_cutWorth) v_cuts (by exact e_v_cuts) v_cost rfl hc_51) (by decide) rfl rfl (by first | decide | simp [Value.category]) dX12_matches_51 (cs2 := (0, 0)) rfl ?_
        refine zb_S (S2 := ((va_up (va_up (va_up (va_up I 139 v_cost_c3) 140 v_best) 141 v_mates) 142 v_fits), J, Rr, D)) (zS_eq (zn4 (by decide : (142 : Nat) ≠ 139) (by decide : (141 : Nat) ≠ 139) (by decide : (140 : Nat) ≠ 139)) rfl) ?_
        refine zb_goto E dX12_matches_54 (tgt := 59) rfl ?_
        exact c_X12_matches_b59 N v_grain e_v_grain v_limit e_v_limit v_lost e_v_lost v_cutAt e_v_cutAt v_cutWorth e_v_cutWorth v_cuts e_v_cuts y_v_best y_v_cost y_v_fits y_v_mates E hQ x1 x2 ((10 * x1) + x2) rc3 v_best v_cost_c3 v_fits v_mates self ih k66 hk66 h
theorem c_X12_matches_b66 {C : zC} {I : Nat → Nat → Int32} {J : Nat → Nat → Int64} {Rr : Nat → Nat → Option Nat} {D : zD} (N : Nat) (v_grain : Int32) (e_v_grain : I 128 10 = v_grain) (v_limit : Int32) (e_v_limit : I 128 12 = v_limit) (v_lost : Int32) (e_v_lost : I 128 11 = v_lost) (v_cutAt : (Nat → Int32)) (e_v_cutAt : I 136 = v_cutAt) (v_cutWorth : (Nat → Int32)) (e_v_cutWorth : I 137 = v_cutWorth) (v_cuts : (Nat → Int32)) (e_v_cuts : I 135 = v_cuts) (y_v_best : (Nat → Int32)) (y_v_cost : (Nat → Int32)) (y_v_fits : (Nat → Int32)) (y_v_mates : (Nat → Int32)) (E : zE C RX12 cX12_matches 5 none ({ frames := 3, cells := 0, slots := 0, locals := 68 } : Room)) (hQ : C.Q = zQv C ({ frames := 3, cells := 0, slots := 0, locals := 68 } : Room) ((va_up (va_up (va_up (va_up I 139 y_v_cost) 140 y_v_best) 141 y_v_mates) 142 y_v_fits), J, Rr, D)) (x1 : Int32) (v_best : (Nat → Int32)) (v_cost : (Nat → Int32)) (v_fits : (Nat → Int32)) (v_mates : (Nat → Int32)) (self : Int32 → (Nat → Int32) → (Nat → Int32) → Option R_pM_matches) (ih : ∀ (x1 : Int32) (v_cost : (Nat → Int32)) (v_fits : (Nat → Int32)), self x1 v_cost v_fits = some (y_v_best, y_v_cost, y_v_fits, y_v_mates) → zB C (0, 0) 2 [(0, .ref (C.X.1 + 128)), (1, .int x1)] [] ((va_up (va_up (va_up (va_up I 139 v_cost) 140 v_best) 141 v_mates) 142 v_fits), J, Rr, D)) (k72 : (Nat → Int32) → (Nat → Int32) → Option R_pM_matches) (hk72 : ∀ (v_cost : (Nat → Int32)) (v_fits : (Nat → Int32)), k72 v_cost v_fits = some (y_v_best, y_v_cost, y_v_fits, y_v_mates) → zB C (0, 0) 72 [(0, .ref (C.X.1 + 128))] [] ((va_up (va_up (va_up (va_up I 139 v_cost) 140 v_best) 141 v_mates) 142 v_fits), J, Rr, D)) (h : pM_matches_b66 N v_grain v_limit v_lost v_cutAt v_cutWorth v_cuts self k72 x1 v_best v_cost v_fits v_mates = some (y_v_best, y_v_cost, y_v_fits, y_v_mates)) : zB C (0, 0) 66 [(0, .ref (C.X.1 + 128)), (1, .int x1)] [] ((va_up (va_up (va_up (va_up I 139 v_cost) 140 v_best) 141 v_mates) 142 v_fits), J, Rr, D) := by
  refine zb_iinc E dX12_matches_66 1 rfl (v := (x1 + 1)) rfl (by decide) (lv2 := [(1, .int (x1 + 1)), (0, .ref (C.X.1 + 128))]) rfl ?_
  refine zb_goto E dX12_matches_69 (tgt := 2) rfl ?_
  refine zb_sub [1, 0] rfl ?_
  exact ih (x1 + 1) v_cost v_fits h
theorem c_X12_matches_b2 {C : zC} {I : Nat → Nat → Int32} {J : Nat → Nat → Int64} {Rr : Nat → Nat → Option Nat} {D : zD} (N : Nat) (v_grain : Int32) (e_v_grain : I 128 10 = v_grain) (v_limit : Int32) (e_v_limit : I 128 12 = v_limit) (v_lost : Int32) (e_v_lost : I 128 11 = v_lost) (v_cutAt : (Nat → Int32)) (e_v_cutAt : I 136 = v_cutAt) (v_cutWorth : (Nat → Int32)) (e_v_cutWorth : I 137 = v_cutWorth) (v_cuts : (Nat → Int32)) (e_v_cuts : I 135 = v_cuts) (y_v_best : (Nat → Int32)) (y_v_cost : (Nat → Int32)) (y_v_fits : (Nat → Int32)) (y_v_mates : (Nat → Int32)) (E : zE C RX12 cX12_matches 5 none ({ frames := 3, cells := 0, slots := 0, locals := 68 } : Room)) (hQ : C.Q = zQv C ({ frames := 3, cells := 0, slots := 0, locals := 68 } : Room) ((va_up (va_up (va_up (va_up I 139 y_v_cost) 140 y_v_best) 141 y_v_mates) 142 y_v_fits), J, Rr, D)) (v_best : (Nat → Int32)) (v_mates : (Nat → Int32)) (k72 : (Nat → Int32) → (Nat → Int32) → Option R_pM_matches) (hk72 : ∀ (v_cost : (Nat → Int32)) (v_fits : (Nat → Int32)), k72 v_cost v_fits = some (y_v_best, y_v_cost, y_v_fits, y_v_mates) → zB C (0, 0) 72 [(0, .ref (C.X.1 + 128))] [] ((va_up (va_up (va_up (va_up I 139 v_cost) 140 v_best) 141 v_mates) 142 v_fits), J, Rr, D)) : ∀ (n9 : Nat) (x1 : Int32) (v_cost : (Nat → Int32)) (v_fits : (Nat → Int32)), pM_matches_b2 N v_grain v_limit v_lost v_cutAt v_cutWorth v_cuts v_best v_mates k72 n9 x1 v_cost v_fits = some (y_v_best, y_v_cost, y_v_fits, y_v_mates) → zB C (0, 0) 2 [(0, .ref (C.X.1 + 128)), (1, .int x1)] [] ((va_up (va_up (va_up (va_up I 139 v_cost) 140 v_best) 141 v_mates) 142 v_fits), J, Rr, D) := by
  refine zlp3_ind (P := fun (x1 : Int32) (v_cost : (Nat → Int32)) (v_fits : (Nat → Int32)) => zB C (0, 0) 2 [(0, .ref (C.X.1 + 128)), (1, .int x1)] [] ((va_up (va_up (va_up (va_up I 139 v_cost) 140 v_best) 141 v_mates) 142 v_fits), J, Rr, D)) (fun self ih => ?_)
  intro x1 v_cost v_fits h
  refine zb_iload_n E dX12_matches_2 1 rfl rfl ?_
  refine zb_bipush E dX12_matches_3 (v := 10) rfl ?_
  refine zb_icmp_ge E dX12_matches_5 (tgt := 72) rfl (fun hc => ?_) (fun hc => ?_)
  · have h := if_t h hc
    refine zb_sub [0] rfl ?_
    exact hk72 v_cost v_fits h
  · have h := if_f h hc
    refine zb_iconst E dX12_matches_8 (v := 0) rfl ?_
    refine zb_istore_n E dX12_matches_9 rfl (by decide) (lv2 := [(2, .int 0), (0, .ref (C.X.1 + 128)), (1, .int x1)]) rfl ?_
    refine zb_sub [1, 2, 0] rfl ?_
    exact c_X12_matches_b10 N v_grain e_v_grain v_limit e_v_limit v_lost e_v_lost v_cutAt e_v_cutAt v_cutWorth e_v_cutWorth v_cuts e_v_cuts y_v_best y_v_cost y_v_fits y_v_mates E hQ x1 v_best v_mates _ (fun v_cost_z1 v_fits_z2 h => c_X12_matches_b66 N v_grain e_v_grain v_limit e_v_limit v_lost e_v_lost v_cutAt e_v_cutAt v_cutWorth e_v_cutWorth v_cuts e_v_cuts y_v_best y_v_cost y_v_fits y_v_mates E hQ x1 v_best v_cost_z1 v_fits_z2 v_mates self ih k72 hk72 h) _ 0 v_cost v_fits h
theorem c_X12_matches_b74 {C : zC} {I : Nat → Nat → Int32} {J : Nat → Nat → Int64} {Rr : Nat → Nat → Option Nat} {D : zD} (N : Nat) (v_grain : Int32) (e_v_grain : I 128 10 = v_grain) (v_limit : Int32) (e_v_limit : I 128 12 = v_limit) (v_lost : Int32) (e_v_lost : I 128 11 = v_lost) (v_cutAt : (Nat → Int32)) (e_v_cutAt : I 136 = v_cutAt) (v_cutWorth : (Nat → Int32)) (e_v_cutWorth : I 137 = v_cutWorth) (v_cuts : (Nat → Int32)) (e_v_cuts : I 135 = v_cuts) (y_v_best : (Nat → Int32)) (y_v_cost : (Nat → Int32)) (y_v_fits : (Nat → Int32)) (y_v_mates : (Nat → Int32)) (E : zE C RX12 cX12_matches 5 none ({ frames := 3, cells := 0, slots := 0, locals := 68 } : Room)) (hQ : C.Q = zQv C ({ frames := 3, cells := 0, slots := 0, locals := 68 } : Room) ((va_up (va_up (va_up (va_up I 139 y_v_cost) 140 y_v_best) 141 y_v_mates) 142 y_v_fits), J, Rr, D)) (v_cost : (Nat → Int32)) (v_fits : (Nat → Int32)) (v_mates : (Nat → Int32)) (k98 : (Nat → Int32) → Option R_pM_matches) (hk98 : ∀ (v_best : (Nat → Int32)), k98 v_best = some (y_v_best, y_v_cost, y_v_fits, y_v_mates) → zB C (0, 0) 98 [(0, .ref (C.X.1 + 128))] [] ((va_up (va_up (va_up (va_up I 139 v_cost) 140 v_best) 141 v_mates) 142 v_fits), J, Rr, D)) : ∀ (n9 : Nat) (x1 : Int32) (v_best : (Nat → Int32)), pM_matches_b74 N v_grain v_limit v_lost v_cutAt v_cutWorth v_cuts v_cost v_fits v_mates k98 n9 x1 v_best = some (y_v_best, y_v_cost, y_v_fits, y_v_mates) → zB C (0, 0) 74 [(0, .ref (C.X.1 + 128)), (1, .int x1)] [] ((va_up (va_up (va_up (va_up I 139 v_cost) 140 v_best) 141 v_mates) 142 v_fits), J, Rr, D) := by
  refine zlp2_ind (P := fun (x1 : Int32) (v_best : (Nat → Int32)) => zB C (0, 0) 74 [(0, .ref (C.X.1 + 128)), (1, .int x1)] [] ((va_up (va_up (va_up (va_up I 139 v_cost) 140 v_best) 141 v_mates) 142 v_fits), J, Rr, D)) (fun self ih => ?_)
  intro x1 v_best h
  refine zb_iload_n E dX12_matches_74 1 rfl rfl ?_
  refine zb_sipush E dX12_matches_75 (v := 1024) rfl ?_
  refine zb_icmp_ge E dX12_matches_78 (tgt := 98) rfl (fun hc => ?_) (fun hc => ?_)
  · have h := if_t h hc
    refine zb_sub [0] rfl ?_
    exact hk98 v_best h
  · have h := if_f h hc
    refine zb_aload_n E dX12_matches_81 0 rfl rfl ?_
    refine zb_get E 128 (by decide) (zF_128 C.X) rfl zin12 14 (by decide) zw_1182 (v := .ref (C.X.1 + 140)) rfl dX12_matches_82 ?_
    refine zb_sipush E dX12_matches_85 (v := 10240) rfl ?_
    refine zb_iload_n E dX12_matches_88 1 rfl rfl ?_
    refine zb_iadd E dX12_matches_89 ?_
    refine zb_iconst E dX12_matches_90 (v := 0) rfl ?_
    obtain ⟨g4, h⟩ := gd_s h
    refine zb_iast E 140 (by decide) zF_140 (f := v_best) rfl (ib_in g4) dX12_matches_91 (I2 := (va_up (va_up (va_up (va_up I 139 v_cost) 140 (upd v_best (ix (10240 + x1)) 0)) 141 v_mates) 142 v_fits)) (zn3 (by decide : (142 : Nat) ≠ 140) (by decide : (141 : Nat) ≠ 140)) ?_
    refine zb_iinc E dX12_matches_92 1 rfl (v := (x1 + 1)) rfl (by decide) (lv2 := [(1, .int (x1 + 1)), (0, .ref (C.X.1 + 128))]) rfl ?_
    refine zb_goto E dX12_matches_95 (tgt := 74) rfl ?_
    refine zb_sub [1, 0] rfl ?_
    exact ih (x1 + 1) (upd v_best (ix (10240 + x1)) 0) h
theorem c_X12_matches_b132 {C : zC} {I : Nat → Nat → Int32} {J : Nat → Nat → Int64} {Rr : Nat → Nat → Option Nat} {D : zD} (N : Nat) (v_grain : Int32) (e_v_grain : I 128 10 = v_grain) (v_limit : Int32) (e_v_limit : I 128 12 = v_limit) (v_lost : Int32) (e_v_lost : I 128 11 = v_lost) (v_cutAt : (Nat → Int32)) (e_v_cutAt : I 136 = v_cutAt) (v_cutWorth : (Nat → Int32)) (e_v_cutWorth : I 137 = v_cutWorth) (v_cuts : (Nat → Int32)) (e_v_cuts : I 135 = v_cuts) (y_v_best : (Nat → Int32)) (y_v_cost : (Nat → Int32)) (y_v_fits : (Nat → Int32)) (y_v_mates : (Nat → Int32)) (E : zE C RX12 cX12_matches 5 none ({ frames := 3, cells := 0, slots := 0, locals := 68 } : Room)) (hQ : C.Q = zQv C ({ frames := 3, cells := 0, slots := 0, locals := 68 } : Room) ((va_up (va_up (va_up (va_up I 139 y_v_cost) 140 y_v_best) 141 y_v_mates) 142 y_v_fits), J, Rr, D)) (x1 : Int32) (x2 : Int32) (v_best : (Nat → Int32)) (v_cost : (Nat → Int32)) (v_fits : (Nat → Int32)) (v_mates : (Nat → Int32)) (k177 : Int32 → Option R_pM_matches) (hk177 : ∀ (x3 : Int32), k177 x3 = some (y_v_best, y_v_cost, y_v_fits, y_v_mates) → zB C (0, 0) 177 [(0, .ref (C.X.1 + 128)), (1, .int x1), (2, .int x2), (3, .int x3)] [] ((va_up (va_up (va_up (va_up I 139 v_cost) 140 v_best) 141 v_mates) 142 v_fits), J, Rr, D)) : ∀ (n9 : Nat) (x3 : Int32) (x4 : Int32), pM_matches_b132 N v_grain v_limit v_lost v_cutAt v_cutWorth v_cuts x1 x2 v_best v_cost v_fits v_mates k177 n9 x3 x4 = some (y_v_best, y_v_cost, y_v_fits, y_v_mates) → zB C (0, 0) 132 [(0, .ref (C.X.1 + 128)), (1, .int x1), (2, .int x2), (3, .int x3), (4, .int x4)] [] ((va_up (va_up (va_up (va_up I 139 v_cost) 140 v_best) 141 v_mates) 142 v_fits), J, Rr, D) := by
  refine zlp2_ind (P := fun (x3 : Int32) (x4 : Int32) => zB C (0, 0) 132 [(0, .ref (C.X.1 + 128)), (1, .int x1), (2, .int x2), (3, .int x3), (4, .int x4)] [] ((va_up (va_up (va_up (va_up I 139 v_cost) 140 v_best) 141 v_mates) 142 v_fits), J, Rr, D)) (fun self ih => ?_)
  intro x3 x4 h
  refine zb_iload E dX12_matches_132 4 rfl ?_
  refine zb_bipush E dX12_matches_134 (v := 10) rfl ?_
  refine zb_icmp_ge E dX12_matches_136 (tgt := 177) rfl (fun hc => ?_) (fun hc => ?_)
  · have h := if_t h hc
    refine zb_sub [0, 1, 2, 3] rfl ?_
    exact hk177 x3 h
  · have h := if_f h hc
    refine zb_aload_n E dX12_matches_139 0 rfl rfl ?_
    refine zb_iload_n E dX12_matches_140 1 rfl rfl ?_
    refine zb_iload E dX12_matches_141 4 rfl ?_
    refine zb_iload_n E dX12_matches_143 2 rfl rfl ?_
    obtain ⟨rc8, hc_144, h⟩ := bd1_s h
    refine zb_cVi E [.int x1, .int x4, .int x2] 128 zy_X12_canPair zw_1536 (by decide) (zF_128 _ _ _ _) rfl (c_X12_canPair v_limit (by exact e_v_limit) v_fits rfl hc_144) (by decide) rfl rfl (by first | decide | simp [Value.category]) dX12_matches_144 (cs2 := (0, 0)) rfl ?_
    refine zb_if_eq E dX12_matches_147 (tgt := 171) rfl (fun hc => ?_) (fun hc => ?_)
    · have h := if_t h hc
      refine zb_iinc E dX12_matches_171 4 rfl (v := (x4 + 1)) rfl (by decide) (lv2 := [(4, .int (x4 + 1)), (0, .ref (C.X.1 + 128)), (1, .int x1), (2, .int x2), (3, .int x3)]) rfl ?_
      refine zb_goto E dX12_matches_174 (tgt := 132) rfl ?_
      refine zb_sub [1, 2, 3, 4, 0] rfl ?_
      exact ih x3 (x4 + 1) h
    · have h := if_f h hc
      refine zb_aload_n E dX12_matches_150 0 rfl rfl ?_
      refine zb_iload_n E dX12_matches_151 1 rfl rfl ?_
      refine zb_iload E dX12_matches_152 4 rfl ?_
      refine zb_iload_n E dX12_matches_154 2 rfl rfl ?_
      obtain ⟨rc9, hc_155, h⟩ := bd1_s h
      refine zb_cVi E [.int x1, .int x4, .int x2] 128 zy_X12_paired zw_1540 (by decide) (zF_128 _ _ _ _) rfl (c_X12_paired v_best rfl v_fits rfl hc_155) (by decide) rfl rfl (by first | decide | simp [Value.category]) dX12_matches_155 (cs2 := (0, 0)) rfl ?_
      refine zb_iload_n E dX12_matches_158 3 rfl rfl ?_
      refine zb_icmp_le E dX12_matches_159 (tgt := 171) rfl (fun hc => ?_) (fun hc => ?_)
      · have h := if_t h hc
        refine zb_iinc E dX12_matches_171 4 rfl (v := (x4 + 1)) rfl (by decide) (lv2 := [(4, .int (x4 + 1)), (0, .ref (C.X.1 + 128)), (1, .int x1), (2, .int x2), (3, .int x3)]) rfl ?_
        refine zb_goto E dX12_matches_174 (tgt := 132) rfl ?_
        refine zb_sub [1, 2, 3, 4, 0] rfl ?_
        exact ih x3 (x4 + 1) h
      · have h := if_f h hc
        refine zb_aload_n E dX12_matches_162 0 rfl rfl ?_
        refine zb_iload_n E dX12_matches_163 1 rfl rfl ?_
        refine zb_iload E dX12_matches_164 4 rfl ?_
        refine zb_iload_n E dX12_matches_166 2 rfl rfl ?_
        obtain ⟨rc10, hc_167, h⟩ := bd1_s h
        refine zb_cVi E [.int x1, .int x4, .int x2] 128 zy_X12_paired zw_1540 (by decide) (zF_128 _ _ _ _) rfl (c_X12_paired v_best rfl v_fits rfl hc_167) (by decide) rfl rfl (by first | decide | simp [Value.category]) dX12_matches_167 (cs2 := (0, 0)) rfl ?_
        refine zb_istore_n E dX12_matches_170 rfl (by decide) (lv2 := [(3, .int rc10), (0, .ref (C.X.1 + 128)), (1, .int x1), (2, .int x2), (4, .int x4)]) rfl ?_
        refine zb_iinc E dX12_matches_171 4 rfl (v := (x4 + 1)) rfl (by decide) (lv2 := [(4, .int (x4 + 1)), (3, .int rc10), (0, .ref (C.X.1 + 128)), (1, .int x1), (2, .int x2)]) rfl ?_
        refine zb_goto E dX12_matches_174 (tgt := 132) rfl ?_
        refine zb_sub [2, 3, 4, 1, 0] rfl ?_
        exact ih rc10 (x4 + 1) h
theorem c_X12_matches_b177 {C : zC} {I : Nat → Nat → Int32} {J : Nat → Nat → Int64} {Rr : Nat → Nat → Option Nat} {D : zD} (N : Nat) (v_grain : Int32) (e_v_grain : I 128 10 = v_grain) (v_limit : Int32) (e_v_limit : I 128 12 = v_limit) (v_lost : Int32) (e_v_lost : I 128 11 = v_lost) (v_cutAt : (Nat → Int32)) (e_v_cutAt : I 136 = v_cutAt) (v_cutWorth : (Nat → Int32)) (e_v_cutWorth : I 137 = v_cutWorth) (v_cuts : (Nat → Int32)) (e_v_cuts : I 135 = v_cuts) (y_v_best : (Nat → Int32)) (y_v_cost : (Nat → Int32)) (y_v_fits : (Nat → Int32)) (y_v_mates : (Nat → Int32)) (E : zE C RX12 cX12_matches 5 none ({ frames := 3, cells := 0, slots := 0, locals := 68 } : Room)) (hQ : C.Q = zQv C ({ frames := 3, cells := 0, slots := 0, locals := 68 } : Room) ((va_up (va_up (va_up (va_up I 139 y_v_cost) 140 y_v_best) 141 y_v_mates) 142 y_v_fits), J, Rr, D)) (x1 : Int32) (x2 : Int32) (x3 : Int32) (v_best : (Nat → Int32)) (v_cost : (Nat → Int32)) (v_fits : (Nat → Int32)) (v_mates : (Nat → Int32)) (self : Int32 → (Nat → Int32) → Option R_pM_matches) (ih : ∀ (x2 : Int32) (v_best : (Nat → Int32)), self x2 v_best = some (y_v_best, y_v_cost, y_v_fits, y_v_mates) → zB C (0, 0) 107 [(0, .ref (C.X.1 + 128)), (1, .int x1), (2, .int x2)] [] ((va_up (va_up (va_up (va_up I 139 v_cost) 140 v_best) 141 v_mates) 142 v_fits), J, Rr, D)) (k196 : (Nat → Int32) → Option R_pM_matches) (hk196 : ∀ (v_best : (Nat → Int32)), k196 v_best = some (y_v_best, y_v_cost, y_v_fits, y_v_mates) → zB C (0, 0) 196 [(0, .ref (C.X.1 + 128)), (1, .int x1)] [] ((va_up (va_up (va_up (va_up I 139 v_cost) 140 v_best) 141 v_mates) 142 v_fits), J, Rr, D)) (h : pM_matches_b177 N v_grain v_limit v_lost v_cutAt v_cutWorth v_cuts self k196 x1 x2 x3 v_best v_cost v_fits v_mates = some (y_v_best, y_v_cost, y_v_fits, y_v_mates)) : zB C (0, 0) 177 [(0, .ref (C.X.1 + 128)), (1, .int x1), (2, .int x2), (3, .int x3)] [] ((va_up (va_up (va_up (va_up I 139 v_cost) 140 v_best) 141 v_mates) 142 v_fits), J, Rr, D) := by
  refine zb_aload_n E dX12_matches_177 0 rfl rfl ?_
  refine zb_get E 128 (by decide) (zF_128 C.X) rfl zin12 14 (by decide) zw_1182 (v := .ref (C.X.1 + 140)) rfl dX12_matches_178 ?_
  refine zb_sipush E dX12_matches_181 (v := 1024) rfl ?_
  refine zb_iload_n E dX12_matches_184 1 rfl rfl ?_
  refine zb_imul E dX12_matches_185 ?_
  refine zb_iload_n E dX12_matches_186 2 rfl rfl ?_
  refine zb_iadd E dX12_matches_187 ?_
  refine zb_iload_n E dX12_matches_188 3 rfl rfl ?_
  obtain ⟨g15, h⟩ := gd_s h
  refine zb_iast E 140 (by decide) zF_140 (f := v_best) rfl (ib_in g15) dX12_matches_189 (I2 := (va_up (va_up (va_up (va_up I 139 v_cost) 140 (upd v_best (ix ((1024 * x1) + x2)) x3)) 141 v_mates) 142 v_fits)) (zn3 (by decide : (142 : Nat) ≠ 140) (by decide : (141 : Nat) ≠ 140)) ?_
  refine zb_iinc E dX12_matches_190 2 rfl (v := (x2 + 1)) rfl (by decide) (lv2 := [(2, .int (x2 + 1)), (0, .ref (C.X.1 + 128)), (1, .int x1), (3, .int x3)]) rfl ?_
  refine zb_goto E dX12_matches_193 (tgt := 107) rfl ?_
  refine zb_sub [1, 2, 0] rfl ?_
  exact ih (x2 + 1) (upd v_best (ix ((1024 * x1) + x2)) x3) h
theorem c_X12_matches_b107 {C : zC} {I : Nat → Nat → Int32} {J : Nat → Nat → Int64} {Rr : Nat → Nat → Option Nat} {D : zD} (N : Nat) (v_grain : Int32) (e_v_grain : I 128 10 = v_grain) (v_limit : Int32) (e_v_limit : I 128 12 = v_limit) (v_lost : Int32) (e_v_lost : I 128 11 = v_lost) (v_cutAt : (Nat → Int32)) (e_v_cutAt : I 136 = v_cutAt) (v_cutWorth : (Nat → Int32)) (e_v_cutWorth : I 137 = v_cutWorth) (v_cuts : (Nat → Int32)) (e_v_cuts : I 135 = v_cuts) (y_v_best : (Nat → Int32)) (y_v_cost : (Nat → Int32)) (y_v_fits : (Nat → Int32)) (y_v_mates : (Nat → Int32)) (E : zE C RX12 cX12_matches 5 none ({ frames := 3, cells := 0, slots := 0, locals := 68 } : Room)) (hQ : C.Q = zQv C ({ frames := 3, cells := 0, slots := 0, locals := 68 } : Room) ((va_up (va_up (va_up (va_up I 139 y_v_cost) 140 y_v_best) 141 y_v_mates) 142 y_v_fits), J, Rr, D)) (x1 : Int32) (v_cost : (Nat → Int32)) (v_fits : (Nat → Int32)) (v_mates : (Nat → Int32)) (k196 : (Nat → Int32) → Option R_pM_matches) (hk196 : ∀ (v_best : (Nat → Int32)), k196 v_best = some (y_v_best, y_v_cost, y_v_fits, y_v_mates) → zB C (0, 0) 196 [(0, .ref (C.X.1 + 128)), (1, .int x1)] [] ((va_up (va_up (va_up (va_up I 139 v_cost) 140 v_best) 141 v_mates) 142 v_fits), J, Rr, D)) : ∀ (n9 : Nat) (x2 : Int32) (v_best : (Nat → Int32)), pM_matches_b107 N v_grain v_limit v_lost v_cutAt v_cutWorth v_cuts x1 v_cost v_fits v_mates k196 n9 x2 v_best = some (y_v_best, y_v_cost, y_v_fits, y_v_mates) → zB C (0, 0) 107 [(0, .ref (C.X.1 + 128)), (1, .int x1), (2, .int x2)] [] ((va_up (va_up (va_up (va_up I 139 v_cost) 140 v_best) 141 v_mates) 142 v_fits), J, Rr, D) := by
  refine zlp2_ind (P := fun (x2 : Int32) (v_best : (Nat → Int32)) => zB C (0, 0) 107 [(0, .ref (C.X.1 + 128)), (1, .int x1), (2, .int x2)] [] ((va_up (va_up (va_up (va_up I 139 v_cost) 140 v_best) 141 v_mates) 142 v_fits), J, Rr, D)) (fun self ih => ?_)
  intro x2 v_best h
  refine zb_iload_n E dX12_matches_107 2 rfl rfl ?_
  refine zb_sipush E dX12_matches_108 (v := 1024) rfl ?_
  refine zb_icmp_ge E dX12_matches_111 (tgt := 196) rfl (fun hc => ?_) (fun hc => ?_)
  · have h := if_t h hc
    refine zb_sub [0, 1] rfl ?_
    exact hk196 v_best h
  · have h := if_f h hc
    refine zb_aload_n E dX12_matches_114 0 rfl rfl ?_
    refine zb_get E 128 (by decide) (zF_128 C.X) rfl zin12 14 (by decide) zw_1182 (v := .ref (C.X.1 + 140)) rfl dX12_matches_115 ?_
    refine zb_sipush E dX12_matches_118 (v := 1024) rfl ?_
    refine zb_iload_n E dX12_matches_121 1 rfl rfl ?_
    refine zb_iconst E dX12_matches_122 (v := 1) rfl ?_
    refine zb_iadd E dX12_matches_123 ?_
    refine zb_imul E dX12_matches_124 ?_
    refine zb_iload_n E dX12_matches_125 2 rfl rfl ?_
    refine zb_iadd E dX12_matches_126 ?_
    obtain ⟨g6, h⟩ := gd_s h
    refine zb_iald E 140 (by decide) zF_140 (f := v_best) rfl (ib_in g6) dX12_matches_127 ?_
    refine zb_istore_n E dX12_matches_128 rfl (by decide) (lv2 := [(3, .int (v_best (ix ((1024 * (x1 + 1)) + x2)))), (0, .ref (C.X.1 + 128)), (1, .int x1), (2, .int x2)]) rfl ?_
    refine zb_iconst E dX12_matches_129 (v := 0) rfl ?_
    refine zb_istore E dX12_matches_130 (by decide) (lv2 := [(4, .int 0), (3, .int (v_best (ix ((1024 * (x1 + 1)) + x2)))), (0, .ref (C.X.1 + 128)), (1, .int x1), (2, .int x2)]) rfl ?_
    refine zb_sub [2, 3, 4, 1, 0] rfl ?_
    exact c_X12_matches_b132 N v_grain e_v_grain v_limit e_v_limit v_lost e_v_lost v_cutAt e_v_cutAt v_cutWorth e_v_cutWorth v_cuts e_v_cuts y_v_best y_v_cost y_v_fits y_v_mates E hQ x1 x2 v_best v_cost v_fits v_mates _ (fun x3_z6 h => c_X12_matches_b177 N v_grain e_v_grain v_limit e_v_limit v_lost e_v_lost v_cutAt e_v_cutAt v_cutWorth e_v_cutWorth v_cuts e_v_cuts y_v_best y_v_cost y_v_fits y_v_mates E hQ x1 x2 x3_z6 v_best v_cost v_fits v_mates self ih k196 hk196 h) _ (v_best (ix ((1024 * (x1 + 1)) + x2))) 0 h
theorem c_X12_matches_b196 {C : zC} {I : Nat → Nat → Int32} {J : Nat → Nat → Int64} {Rr : Nat → Nat → Option Nat} {D : zD} (N : Nat) (v_grain : Int32) (e_v_grain : I 128 10 = v_grain) (v_limit : Int32) (e_v_limit : I 128 12 = v_limit) (v_lost : Int32) (e_v_lost : I 128 11 = v_lost) (v_cutAt : (Nat → Int32)) (e_v_cutAt : I 136 = v_cutAt) (v_cutWorth : (Nat → Int32)) (e_v_cutWorth : I 137 = v_cutWorth) (v_cuts : (Nat → Int32)) (e_v_cuts : I 135 = v_cuts) (y_v_best : (Nat → Int32)) (y_v_cost : (Nat → Int32)) (y_v_fits : (Nat → Int32)) (y_v_mates : (Nat → Int32)) (E : zE C RX12 cX12_matches 5 none ({ frames := 3, cells := 0, slots := 0, locals := 68 } : Room)) (hQ : C.Q = zQv C ({ frames := 3, cells := 0, slots := 0, locals := 68 } : Room) ((va_up (va_up (va_up (va_up I 139 y_v_cost) 140 y_v_best) 141 y_v_mates) 142 y_v_fits), J, Rr, D)) (x1 : Int32) (v_best : (Nat → Int32)) (v_cost : (Nat → Int32)) (v_fits : (Nat → Int32)) (v_mates : (Nat → Int32)) (self : Int32 → (Nat → Int32) → Option R_pM_matches) (ih : ∀ (x1 : Int32) (v_best : (Nat → Int32)), self x1 v_best = some (y_v_best, y_v_cost, y_v_fits, y_v_mates) → zB C (0, 0) 101 [(0, .ref (C.X.1 + 128)), (1, .int x1)] [] ((va_up (va_up (va_up (va_up I 139 v_cost) 140 v_best) 141 v_mates) 142 v_fits), J, Rr, D)) (k202 : (Nat → Int32) → Option R_pM_matches) (hk202 : ∀ (v_best : (Nat → Int32)), k202 v_best = some (y_v_best, y_v_cost, y_v_fits, y_v_mates) → zB C (0, 0) 202 [(0, .ref (C.X.1 + 128))] [] ((va_up (va_up (va_up (va_up I 139 v_cost) 140 v_best) 141 v_mates) 142 v_fits), J, Rr, D)) (h : pM_matches_b196 N v_grain v_limit v_lost v_cutAt v_cutWorth v_cuts self k202 x1 v_best v_cost v_fits v_mates = some (y_v_best, y_v_cost, y_v_fits, y_v_mates)) : zB C (0, 0) 196 [(0, .ref (C.X.1 + 128)), (1, .int x1)] [] ((va_up (va_up (va_up (va_up I 139 v_cost) 140 v_best) 141 v_mates) 142 v_fits), J, Rr, D) := by
  refine zb_iinc E dX12_matches_196 1 rfl (v := (x1 + (-1))) rfl (by decide) (lv2 := [(1, .int (x1 + (-1))), (0, .ref (C.X.1 + 128))]) rfl ?_
  refine zb_goto E dX12_matches_199 (tgt := 101) rfl ?_
  refine zb_sub [1, 0] rfl ?_
  exact ih (x1 + (-1)) v_best h
theorem c_X12_matches_b101 {C : zC} {I : Nat → Nat → Int32} {J : Nat → Nat → Int64} {Rr : Nat → Nat → Option Nat} {D : zD} (N : Nat) (v_grain : Int32) (e_v_grain : I 128 10 = v_grain) (v_limit : Int32) (e_v_limit : I 128 12 = v_limit) (v_lost : Int32) (e_v_lost : I 128 11 = v_lost) (v_cutAt : (Nat → Int32)) (e_v_cutAt : I 136 = v_cutAt) (v_cutWorth : (Nat → Int32)) (e_v_cutWorth : I 137 = v_cutWorth) (v_cuts : (Nat → Int32)) (e_v_cuts : I 135 = v_cuts) (y_v_best : (Nat → Int32)) (y_v_cost : (Nat → Int32)) (y_v_fits : (Nat → Int32)) (y_v_mates : (Nat → Int32)) (E : zE C RX12 cX12_matches 5 none ({ frames := 3, cells := 0, slots := 0, locals := 68 } : Room)) (hQ : C.Q = zQv C ({ frames := 3, cells := 0, slots := 0, locals := 68 } : Room) ((va_up (va_up (va_up (va_up I 139 y_v_cost) 140 y_v_best) 141 y_v_mates) 142 y_v_fits), J, Rr, D)) (v_cost : (Nat → Int32)) (v_fits : (Nat → Int32)) (v_mates : (Nat → Int32)) (k202 : (Nat → Int32) → Option R_pM_matches) (hk202 : ∀ (v_best : (Nat → Int32)), k202 v_best = some (y_v_best, y_v_cost, y_v_fits, y_v_mates) → zB C (0, 0) 202 [(0, .ref (C.X.1 + 128))] [] ((va_up (va_up (va_up (va_up I 139 v_cost) 140 v_best) 141 v_mates) 142 v_fits), J, Rr, D)) : ∀ (n9 : Nat) (x1 : Int32) (v_best : (Nat → Int32)), pM_matches_b101 N v_grain v_limit v_lost v_cutAt v_cutWorth v_cuts v_cost v_fits v_mates k202 n9 x1 v_best = some (y_v_best, y_v_cost, y_v_fits, y_v_mates) → zB C (0, 0) 101 [(0, .ref (C.X.1 + 128)), (1, .int x1)] [] ((va_up (va_up (va_up (va_up I 139 v_cost) 140 v_best) 141 v_mates) 142 v_fits), J, Rr, D) := by
  refine zlp2_ind (P := fun (x1 : Int32) (v_best : (Nat → Int32)) => zB C (0, 0) 101 [(0, .ref (C.X.1 + 128)), (1, .int x1)] [] ((va_up (va_up (va_up (va_up I 139 v_cost) 140 v_best) 141 v_mates) 142 v_fits), J, Rr, D)) (fun self ih => ?_)
  intro x1 v_best h
  refine zb_iload_n E dX12_matches_101 1 rfl rfl ?_
  refine zb_if_lt E dX12_matches_102 (tgt := 202) rfl (fun hc => ?_) (fun hc => ?_)
  · have h := if_t h hc
    refine zb_sub [0] rfl ?_
    exact hk202 v_best h
  · have h := if_f h hc
    refine zb_iconst E dX12_matches_105 (v := 0) rfl ?_
    refine zb_istore_n E dX12_matches_106 rfl (by decide) (lv2 := [(2, .int 0), (0, .ref (C.X.1 + 128)), (1, .int x1)]) rfl ?_
    refine zb_sub [1, 2, 0] rfl ?_
    exact c_X12_matches_b107 N v_grain e_v_grain v_limit e_v_limit v_lost e_v_lost v_cutAt e_v_cutAt v_cutWorth e_v_cutWorth v_cuts e_v_cuts y_v_best y_v_cost y_v_fits y_v_mates E hQ x1 v_cost v_fits v_mates _ (fun v_best_z7 h => c_X12_matches_b196 N v_grain e_v_grain v_limit e_v_limit v_lost e_v_lost v_cutAt e_v_cutAt v_cutWorth e_v_cutWorth v_cuts e_v_cuts y_v_best y_v_cost y_v_fits y_v_mates E hQ x1 v_best_z7 v_cost v_fits v_mates self ih k202 hk202 h) _ 0 v_best h
theorem c_X12_matches_b222 {C : zC} {I : Nat → Nat → Int32} {J : Nat → Nat → Int64} {Rr : Nat → Nat → Option Nat} {D : zD} (N : Nat) (v_grain : Int32) (e_v_grain : I 128 10 = v_grain) (v_limit : Int32) (e_v_limit : I 128 12 = v_limit) (v_lost : Int32) (e_v_lost : I 128 11 = v_lost) (v_cutAt : (Nat → Int32)) (e_v_cutAt : I 136 = v_cutAt) (v_cutWorth : (Nat → Int32)) (e_v_cutWorth : I 137 = v_cutWorth) (v_cuts : (Nat → Int32)) (e_v_cuts : I 135 = v_cuts) (y_v_best : (Nat → Int32)) (y_v_cost : (Nat → Int32)) (y_v_fits : (Nat → Int32)) (y_v_mates : (Nat → Int32)) (E : zE C RX12 cX12_matches 5 none ({ frames := 3, cells := 0, slots := 0, locals := 68 } : Room)) (hQ : C.Q = zQv C ({ frames := 3, cells := 0, slots := 0, locals := 68 } : Room) ((va_up (va_up (va_up (va_up I 139 y_v_cost) 140 y_v_best) 141 y_v_mates) 142 y_v_fits), J, Rr, D)) (x1 : Int32) (x2 : Int32) (v_best : (Nat → Int32)) (v_cost : (Nat → Int32)) (v_fits : (Nat → Int32)) (k271 : (Nat → Int32) → Option R_pM_matches) (hk271 : ∀ (v_mates : (Nat → Int32)), k271 v_mates = some (y_v_best, y_v_cost, y_v_fits, y_v_mates) → zB C (0, 0) 271 [(0, .ref (C.X.1 + 128)), (1, .int x1), (2, .int x2)] [] ((va_up (va_up (va_up (va_up I 139 v_cost) 140 v_best) 141 v_mates) 142 v_fits), J, Rr, D)) : ∀ (n9 : Nat) (x3 : Int32) (v_mates : (Nat → Int32)), pM_matches_b222 N v_grain v_limit v_lost v_cutAt v_cutWorth v_cuts x1 x2 v_best v_cost v_fits k271 n9 x3 v_mates = some (y_v_best, y_v_cost, y_v_fits, y_v_mates) → zB C (0, 0) 222 [(0, .ref (C.X.1 + 128)), (1, .int x1), (2, .int x2), (3, .int x3)] [] ((va_up (va_up (va_up (va_up I 139 v_cost) 140 v_best) 141 v_mates) 142 v_fits), J, Rr, D) := by
  refine zlp2_ind (P := fun (x3 : Int32) (v_mates : (Nat → Int32)) => zB C (0, 0) 222 [(0, .ref (C.X.1 + 128)), (1, .int x1), (2, .int x2), (3, .int x3)] [] ((va_up (va_up (va_up (va_up I 139 v_cost) 140 v_best) 141 v_mates) 142 v_fits), J, Rr, D)) (fun self ih => ?_)
  intro x3 v_mates h
  refine zb_iload_n E dX12_matches_222 3 rfl rfl ?_
  refine zb_if_lt E dX12_matches_223 (tgt := 271) rfl (fun hc => ?_) (fun hc => ?_)
  · have h := if_t h hc
    refine zb_sub [0, 1, 2] rfl ?_
    exact hk271 v_mates h
  · have h := if_f h hc
    refine zb_aload_n E dX12_matches_226 0 rfl rfl ?_
    refine zb_iload_n E dX12_matches_227 2 rfl rfl ?_
    refine zb_iload_n E dX12_matches_228 3 rfl rfl ?_
    refine zb_iload_n E dX12_matches_229 1 rfl rfl ?_
    obtain ⟨rc11, hc_230, h⟩ := bd1_s h
    refine zb_cVi E [.int x2, .int x3, .int x1] 128 zy_X12_canPair zw_1536 (by decide) (zF_128 _ _ _ _) rfl (c_X12_canPair v_limit (by exact e_v_limit) v_fits rfl hc_230) (by decide) rfl rfl (by first | decide | simp [Value.category]) dX12_matches_230 (cs2 := (0, 0)) rfl ?_
    refine zb_if_eq E dX12_matches_233 (tgt := 265) rfl (fun hc => ?_) (fun hc => ?_)
    · have h := if_t h hc
      refine zb_iinc E dX12_matches_265 3 rfl (v := (x3 + (-1))) rfl (by decide) (lv2 := [(3, .int (x3 + (-1))), (0, .ref (C.X.1 + 128)), (1, .int x1), (2, .int x2)]) rfl ?_
      refine zb_goto E dX12_matches_268 (tgt := 222) rfl ?_
      refine zb_sub [1, 2, 3, 0] rfl ?_
      exact ih (x3 + (-1)) v_mates h
    · have h := if_f h hc
      refine zb_aload_n E dX12_matches_236 0 rfl rfl ?_
      refine zb_iload_n E dX12_matches_237 2 rfl rfl ?_
      refine zb_iload_n E dX12_matches_238 3 rfl rfl ?_
      refine zb_iload_n E dX12_matches_239 1 rfl rfl ?_
      obtain ⟨rc12, hc_240, h⟩ := bd1_s h
      refine zb_cVi E [.int x2, .int x3, .int x1] 128 zy_X12_paired zw_1540 (by decide) (zF_128 _ _ _ _) rfl (c_X12_paired v_best rfl v_fits rfl hc_240) (by decide) rfl rfl (by first | decide | simp [Value.category]) dX12_matches_240 (cs2 := (0, 0)) rfl ?_
      refine zb_aload_n E dX12_matches_243 0 rfl rfl ?_
      refine zb_get E 128 (by decide) (zF_128 C.X) rfl zin12 14 (by decide) zw_1182 (v := .ref (C.X.1 + 140)) rfl dX12_matches_244 ?_
      refine zb_sipush E dX12_matches_247 (v := 1024) rfl ?_
      refine zb_iload_n E dX12_matches_250 2 rfl rfl ?_
      refine zb_imul E dX12_matches_251 ?_
      refine zb_iload_n E dX12_matches_252 1 rfl rfl ?_
      refine zb_iadd E dX12_matches_253 ?_
      obtain ⟨g13, h⟩ := gd_s h
      refine zb_iald E 140 (by decide) zF_140 (f := v_best) rfl (ib_in g13) dX12_matches_254 ?_
      refine zb_icmp_ne E dX12_matches_255 (tgt := 265) rfl (fun hc => ?_) (fun hc => ?_)
      · have h := if_f h hc
        refine zb_iinc E dX12_matches_265 3 rfl (v := (x3 + (-1))) rfl (by decide) (lv2 := [(3, .int (x3 + (-1))), (0, .ref (C.X.1 + 128)), (1, .int x1), (2, .int x2)]) rfl ?_
        refine zb_goto E dX12_matches_268 (tgt := 222) rfl ?_
        refine zb_sub [1, 2, 3, 0] rfl ?_
        exact ih (x3 + (-1)) v_mates h
      · have h := if_t h hc
        refine zb_aload_n E dX12_matches_258 0 rfl rfl ?_
        refine zb_get E 128 (by decide) (zF_128 C.X) rfl zin12 15 (by decide) zw_1183 (v := .ref (C.X.1 + 141)) rfl dX12_matches_259 ?_
        refine zb_iload_n E dX12_matches_262 2 rfl rfl ?_
        refine zb_iload_n E dX12_matches_263 3 rfl rfl ?_
        obtain ⟨g14, h⟩ := gd_s h
        refine zb_iast E 141 (by decide) zF_141 (f := v_mates) rfl (ib_in g14) dX12_matches_264 (I2 := (va_up (va_up (va_up (va_up I 139 v_cost) 140 v_best) 141 (upd v_mates (ix x2) x3)) 142 v_fits)) (zn2 (by decide : (142 : Nat) ≠ 141)) ?_
        refine zb_iinc E dX12_matches_265 3 rfl (v := (x3 + (-1))) rfl (by decide) (lv2 := [(3, .int (x3 + (-1))), (0, .ref (C.X.1 + 128)), (1, .int x1), (2, .int x2)]) rfl ?_
        refine zb_goto E dX12_matches_268 (tgt := 222) rfl ?_
        refine zb_sub [1, 2, 3, 0] rfl ?_
        exact ih (x3 + (-1)) (upd v_mates (ix x2) x3) h
theorem c_X12_matches_b271 {C : zC} {I : Nat → Nat → Int32} {J : Nat → Nat → Int64} {Rr : Nat → Nat → Option Nat} {D : zD} (N : Nat) (v_grain : Int32) (e_v_grain : I 128 10 = v_grain) (v_limit : Int32) (e_v_limit : I 128 12 = v_limit) (v_lost : Int32) (e_v_lost : I 128 11 = v_lost) (v_cutAt : (Nat → Int32)) (e_v_cutAt : I 136 = v_cutAt) (v_cutWorth : (Nat → Int32)) (e_v_cutWorth : I 137 = v_cutWorth) (v_cuts : (Nat → Int32)) (e_v_cuts : I 135 = v_cuts) (y_v_best : (Nat → Int32)) (y_v_cost : (Nat → Int32)) (y_v_fits : (Nat → Int32)) (y_v_mates : (Nat → Int32)) (E : zE C RX12 cX12_matches 5 none ({ frames := 3, cells := 0, slots := 0, locals := 68 } : Room)) (hQ : C.Q = zQv C ({ frames := 3, cells := 0, slots := 0, locals := 68 } : Room) ((va_up (va_up (va_up (va_up I 139 y_v_cost) 140 y_v_best) 141 y_v_mates) 142 y_v_fits), J, Rr, D)) (x1 : Int32) (x2 : Int32) (v_best : (Nat → Int32)) (v_cost : (Nat → Int32)) (v_fits : (Nat → Int32)) (v_mates : (Nat → Int32)) (self : Int32 → Int32 → (Nat → Int32) → Option R_pM_matches) (ih : ∀ (x1 : Int32) (x2 : Int32) (v_mates : (Nat → Int32)), self x1 x2 v_mates = some (y_v_best, y_v_cost, y_v_fits, y_v_mates) → zB C (0, 0) 206 [(0, .ref (C.X.1 + 128)), (1, .int x1), (2, .int x2)] [] ((va_up (va_up (va_up (va_up I 139 v_cost) 140 v_best) 141 v_mates) 142 v_fits), J, Rr, D)) (h : pM_matches_b271 N v_grain v_limit v_lost v_cutAt v_cutWorth v_cuts self x1 x2 v_best v_cost v_fits v_mates = some (y_v_best, y_v_cost, y_v_fits, y_v_mates)) : zB C (0, 0) 271 [(0, .ref (C.X.1 + 128)), (1, .int x1), (2, .int x2)] [] ((va_up (va_up (va_up (va_up I 139 v_cost) 140 v_best) 141 v_mates) 142 v_fits), J, Rr, D) := by
  refine zb_aload_n E dX12_matches_271 0 rfl rfl ?_
  refine zb_get E 128 (by decide) (zF_128 C.X) rfl zin12 15 (by decide) zw_1183 (v := .ref (C.X.1 + 141)) rfl dX12_matches_272 ?_
  refine zb_iload_n E dX12_matches_275 2 rfl rfl ?_
  obtain ⟨g16, h⟩ := gd_s h
  refine zb_iald E 141 (by decide) zF_141 (f := v_mates) rfl (ib_in g16) dX12_matches_276 ?_
  refine zb_iconst E dX12_matches_277 (v := (-1)) rfl ?_
  refine zb_icmp_eq E dX12_matches_278 (tgt := 292) rfl (fun hc => ?_) (fun hc => ?_)
  · have h := if_t h hc
    refine zb_iinc E dX12_matches_292 2 rfl (v := (x2 + 1)) rfl (by decide) (lv2 := [(2, .int (x2 + 1)), (0, .ref (C.X.1 + 128)), (1, .int x1)]) rfl ?_
    refine zb_goto E dX12_matches_295 (tgt := 206) rfl ?_
    refine zb_sub [1, 2, 0] rfl ?_
    exact ih x1 (x2 + 1) v_mates h
  · have h := if_f h hc
    refine zb_iload_n E dX12_matches_281 1 rfl rfl ?_
    refine zb_iconst E dX12_matches_282 (v := 1) rfl ?_
    refine zb_aload_n E dX12_matches_283 0 rfl rfl ?_
    refine zb_get E 128 (by decide) (zF_128 C.X) rfl zin12 15 (by decide) zw_1183 (v := .ref (C.X.1 + 141)) rfl dX12_matches_284 ?_
    refine zb_iload_n E dX12_matches_287 2 rfl rfl ?_
    refine zb_iald E 141 (by decide) zF_141 (f := v_mates) rfl (ib_in g16) dX12_matches_288 ?_
    refine zb_ishl E dX12_matches_289 ?_
    refine zb_ior E dX12_matches_290 ?_
    refine zb_istore_n E dX12_matches_291 rfl (by decide) (lv2 := [(1, .int (x1 ||| ((1 : Int32) <<< ((v_mates (ix x2)) &&& 31)))), (0, .ref (C.X.1 + 128)), (2, .int x2)]) rfl ?_
    refine zb_iinc E dX12_matches_292 2 rfl (v := (x2 + 1)) rfl (by decide) (lv2 := [(2, .int (x2 + 1)), (1, .int (x1 ||| ((1 : Int32) <<< ((v_mates (ix x2)) &&& 31)))), (0, .ref (C.X.1 + 128))]) rfl ?_
    refine zb_goto E dX12_matches_295 (tgt := 206) rfl ?_
    refine zb_sub [2, 1, 0] rfl ?_
    exact ih (x1 ||| ((1 : Int32) <<< ((v_mates (ix x2)) &&& 31))) (x2 + 1) v_mates h
theorem c_X12_matches_b206 {C : zC} {I : Nat → Nat → Int32} {J : Nat → Nat → Int64} {Rr : Nat → Nat → Option Nat} {D : zD} (N : Nat) (v_grain : Int32) (e_v_grain : I 128 10 = v_grain) (v_limit : Int32) (e_v_limit : I 128 12 = v_limit) (v_lost : Int32) (e_v_lost : I 128 11 = v_lost) (v_cutAt : (Nat → Int32)) (e_v_cutAt : I 136 = v_cutAt) (v_cutWorth : (Nat → Int32)) (e_v_cutWorth : I 137 = v_cutWorth) (v_cuts : (Nat → Int32)) (e_v_cuts : I 135 = v_cuts) (y_v_best : (Nat → Int32)) (y_v_cost : (Nat → Int32)) (y_v_fits : (Nat → Int32)) (y_v_mates : (Nat → Int32)) (E : zE C RX12 cX12_matches 5 none ({ frames := 3, cells := 0, slots := 0, locals := 68 } : Room)) (hQ : C.Q = zQv C ({ frames := 3, cells := 0, slots := 0, locals := 68 } : Room) ((va_up (va_up (va_up (va_up I 139 y_v_cost) 140 y_v_best) 141 y_v_mates) 142 y_v_fits), J, Rr, D)) (v_best : (Nat → Int32)) (v_cost : (Nat → Int32)) (v_fits : (Nat → Int32))  : ∀ (n9 : Nat) (x1 : Int32) (x2 : Int32) (v_mates : (Nat → Int32)), pM_matches_b206 N v_grain v_limit v_lost v_cutAt v_cutWorth v_cuts v_best v_cost v_fits n9 x1 x2 v_mates = some (y_v_best, y_v_cost, y_v_fits, y_v_mates) → zB C (0, 0) 206 [(0, .ref (C.X.1 + 128)), (1, .int x1), (2, .int x2)] [] ((va_up (va_up (va_up (va_up I 139 v_cost) 140 v_best) 141 v_mates) 142 v_fits), J, Rr, D) := by
  refine zlp3_ind (P := fun (x1 : Int32) (x2 : Int32) (v_mates : (Nat → Int32)) => zB C (0, 0) 206 [(0, .ref (C.X.1 + 128)), (1, .int x1), (2, .int x2)] [] ((va_up (va_up (va_up (va_up I 139 v_cost) 140 v_best) 141 v_mates) 142 v_fits), J, Rr, D)) (fun self ih => ?_)
  intro x1 x2 v_mates h
  refine zb_iload_n E dX12_matches_206 2 rfl rfl ?_
  refine zb_bipush E dX12_matches_207 (v := 10) rfl ?_
  refine zb_icmp_ge E dX12_matches_209 (tgt := 298) rfl (fun hc => ?_) (fun hc => ?_)
  · have h := if_t h hc
    obtain ⟨rfl, rfl, rfl, rfl⟩ := zinj4 h
    exact zb_vret E hQ rfl ⟨Nat.zero_le _, Nat.zero_le _⟩ dX12_matches_298
  · have h := if_f h hc
    refine zb_aload_n E dX12_matches_212 0 rfl rfl ?_
    refine zb_get E 128 (by decide) (zF_128 C.X) rfl zin12 15 (by decide) zw_1183 (v := .ref (C.X.1 + 141)) rfl dX12_matches_213 ?_
    refine zb_iload_n E dX12_matches_216 2 rfl rfl ?_
    refine zb_iconst E dX12_matches_217 (v := (-1)) rfl ?_
    obtain ⟨g7, h⟩ := gd_s h
    refine zb_iast E 141 (by decide) zF_141 (f := v_mates) rfl (ib_in g7) dX12_matches_218 (I2 := (va_up (va_up (va_up (va_up I 139 v_cost) 140 v_best) 141 (upd v_mates (ix x2) (-1))) 142 v_fits)) (zn2 (by decide : (142 : Nat) ≠ 141)) ?_
    refine zb_bipush E dX12_matches_219 (v := 9) rfl ?_
    refine zb_istore_n E dX12_matches_221 rfl (by decide) (lv2 := [(3, .int 9), (0, .ref (C.X.1 + 128)), (1, .int x1), (2, .int x2)]) rfl ?_
    refine zb_sub [1, 2, 3, 0] rfl ?_
    exact c_X12_matches_b222 N v_grain e_v_grain v_limit e_v_limit v_lost e_v_lost v_cutAt e_v_cutAt v_cutWorth e_v_cutWorth v_cuts e_v_cuts y_v_best y_v_cost y_v_fits y_v_mates E hQ x1 x2 v_best v_cost v_fits _ (fun v_mates_z9 h => c_X12_matches_b271 N v_grain e_v_grain v_limit e_v_limit v_lost e_v_lost v_cutAt e_v_cutAt v_cutWorth e_v_cutWorth v_cuts e_v_cuts y_v_best y_v_cost y_v_fits y_v_mates E hQ x1 x2 v_best v_cost v_fits v_mates_z9 self ih h) _ 9 (upd v_mates (ix x2) (-1)) h
theorem c_X12_matches_b202 {C : zC} {I : Nat → Nat → Int32} {J : Nat → Nat → Int64} {Rr : Nat → Nat → Option Nat} {D : zD} (N : Nat) (v_grain : Int32) (e_v_grain : I 128 10 = v_grain) (v_limit : Int32) (e_v_limit : I 128 12 = v_limit) (v_lost : Int32) (e_v_lost : I 128 11 = v_lost) (v_cutAt : (Nat → Int32)) (e_v_cutAt : I 136 = v_cutAt) (v_cutWorth : (Nat → Int32)) (e_v_cutWorth : I 137 = v_cutWorth) (v_cuts : (Nat → Int32)) (e_v_cuts : I 135 = v_cuts) (y_v_best : (Nat → Int32)) (y_v_cost : (Nat → Int32)) (y_v_fits : (Nat → Int32)) (y_v_mates : (Nat → Int32)) (E : zE C RX12 cX12_matches 5 none ({ frames := 3, cells := 0, slots := 0, locals := 68 } : Room)) (hQ : C.Q = zQv C ({ frames := 3, cells := 0, slots := 0, locals := 68 } : Room) ((va_up (va_up (va_up (va_up I 139 y_v_cost) 140 y_v_best) 141 y_v_mates) 142 y_v_fits), J, Rr, D)) (v_best : (Nat → Int32)) (v_cost : (Nat → Int32)) (v_fits : (Nat → Int32)) (v_mates : (Nat → Int32)) (h : pM_matches_b202 N v_grain v_limit v_lost v_cutAt v_cutWorth v_cuts v_best v_cost v_fits v_mates = some (y_v_best, y_v_cost, y_v_fits, y_v_mates)) : zB C (0, 0) 202 [(0, .ref (C.X.1 + 128))] [] ((va_up (va_up (va_up (va_up I 139 v_cost) 140 v_best) 141 v_mates) 142 v_fits), J, Rr, D) := by
  refine zb_iconst E dX12_matches_202 (v := 0) rfl ?_
  refine zb_istore_n E dX12_matches_203 rfl (by decide) (lv2 := [(1, .int 0), (0, .ref (C.X.1 + 128))]) rfl ?_
  refine zb_iconst E dX12_matches_204 (v := 0) rfl ?_
  refine zb_istore_n E dX12_matches_205 rfl (by decide) (lv2 := [(2, .int 0), (1, .int 0), (0, .ref (C.X.1 + 128))]) rfl ?_
  refine zb_sub [2, 1, 0] rfl ?_
  exact c_X12_matches_b206 N v_grain e_v_grain v_limit e_v_limit v_lost e_v_lost v_cutAt e_v_cutAt v_cutWorth e_v_cutWorth v_cuts e_v_cuts y_v_best y_v_cost y_v_fits y_v_mates E hQ v_best v_cost v_fits _ 0 0 v_mates h
theorem c_X12_matches_b98 {C : zC} {I : Nat → Nat → Int32} {J : Nat → Nat → Int64} {Rr : Nat → Nat → Option Nat} {D : zD} (N : Nat) (v_grain : Int32) (e_v_grain : I 128 10 = v_grain) (v_limit : Int32) (e_v_limit : I 128 12 = v_limit) (v_lost : Int32) (e_v_lost : I 128 11 = v_lost) (v_cutAt : (Nat → Int32)) (e_v_cutAt : I 136 = v_cutAt) (v_cutWorth : (Nat → Int32)) (e_v_cutWorth : I 137 = v_cutWorth) (v_cuts : (Nat → Int32)) (e_v_cuts : I 135 = v_cuts) (y_v_best : (Nat → Int32)) (y_v_cost : (Nat → Int32)) (y_v_fits : (Nat → Int32)) (y_v_mates : (Nat → Int32)) (E : zE C RX12 cX12_matches 5 none ({ frames := 3, cells := 0, slots := 0, locals := 68 } : Room)) (hQ : C.Q = zQv C ({ frames := 3, cells := 0, slots := 0, locals := 68 } : Room) ((va_up (va_up (va_up (va_up I 139 y_v_cost) 140 y_v_best) 141 y_v_mates) 142 y_v_fits), J, Rr, D)) (v_best : (Nat → Int32)) (v_cost : (Nat → Int32)) (v_fits : (Nat → Int32)) (v_mates : (Nat → Int32)) (h : pM_matches_b98 N v_grain v_limit v_lost v_cutAt v_cutWorth v_cuts v_best v_cost v_fits v_mates = some (y_v_best, y_v_cost, y_v_fits, y_v_mates)) : zB C (0, 0) 98 [(0, .ref (C.X.1 + 128))] [] ((va_up (va_up (va_up (va_up I 139 v_cost) 140 v_best) 141 v_mates) 142 v_fits), J, Rr, D) := by
  refine zb_bipush E dX12_matches_98 (v := 9) rfl ?_
  refine zb_istore_n E dX12_matches_100 rfl (by decide) (lv2 := [(1, .int 9), (0, .ref (C.X.1 + 128))]) rfl ?_
  refine zb_sub [1, 0] rfl ?_
  exact c_X12_matches_b101 N v_grain e_v_grain v_limit e_v_limit v_lost e_v_lost v_cutAt e_v_cutAt v_cutWorth e_v_cutWorth v_cuts e_v_cuts y_v_best y_v_cost y_v_fits y_v_mates E hQ v_cost v_fits v_mates _ (fun v_best_z8 h => c_X12_matches_b202 N v_grain e_v_grain v_limit e_v_limit v_lost e_v_lost v_cutAt e_v_cutAt v_cutWorth e_v_cutWorth v_cuts e_v_cuts y_v_best y_v_cost y_v_fits y_v_mates E hQ v_best_z8 v_cost v_fits v_mates h) _ 9 v_best h
theorem c_X12_matches_b72 {C : zC} {I : Nat → Nat → Int32} {J : Nat → Nat → Int64} {Rr : Nat → Nat → Option Nat} {D : zD} (N : Nat) (v_grain : Int32) (e_v_grain : I 128 10 = v_grain) (v_limit : Int32) (e_v_limit : I 128 12 = v_limit) (v_lost : Int32) (e_v_lost : I 128 11 = v_lost) (v_cutAt : (Nat → Int32)) (e_v_cutAt : I 136 = v_cutAt) (v_cutWorth : (Nat → Int32)) (e_v_cutWorth : I 137 = v_cutWorth) (v_cuts : (Nat → Int32)) (e_v_cuts : I 135 = v_cuts) (y_v_best : (Nat → Int32)) (y_v_cost : (Nat → Int32)) (y_v_fits : (Nat → Int32)) (y_v_mates : (Nat → Int32)) (E : zE C RX12 cX12_matches 5 none ({ frames := 3, cells := 0, slots := 0, locals := 68 } : Room)) (hQ : C.Q = zQv C ({ frames := 3, cells := 0, slots := 0, locals := 68 } : Room) ((va_up (va_up (va_up (va_up I 139 y_v_cost) 140 y_v_best) 141 y_v_mates) 142 y_v_fits), J, Rr, D)) (v_best : (Nat → Int32)) (v_cost : (Nat → Int32)) (v_fits : (Nat → Int32)) (v_mates : (Nat → Int32)) (h : pM_matches_b72 N v_grain v_limit v_lost v_cutAt v_cutWorth v_cuts v_best v_cost v_fits v_mates = some (y_v_best, y_v_cost, y_v_fits, y_v_mates)) : zB C (0, 0) 72 [(0, .ref (C.X.1 + 128))] [] ((va_up (va_up (va_up (va_up I 139 v_cost) 140 v_best) 141 v_mates) 142 v_fits), J, Rr, D) := by
  refine zb_iconst E dX12_matches_72 (v := 0) rfl ?_
  refine zb_istore_n E dX12_matches_73 rfl (by decide) (lv2 := [(1, .int 0), (0, .ref (C.X.1 + 128))]) rfl ?_
  refine zb_sub [1, 0] rfl ?_
  exact c_X12_matches_b74 N v_grain e_v_grain v_limit e_v_limit v_lost e_v_lost v_cutAt e_v_cutAt v_cutWorth e_v_cutWorth v_cuts e_v_cuts y_v_best y_v_cost y_v_fits y_v_mates E hQ v_cost v_fits v_mates _ (fun v_best_z5 h => c_X12_matches_b98 N v_grain e_v_grain v_limit e_v_limit v_lost e_v_lost v_cutAt e_v_cutAt v_cutWorth e_v_cutWorth v_cuts e_v_cuts y_v_best y_v_cost y_v_fits y_v_mates E hQ v_best_z5 v_cost v_fits v_mates h) _ 0 v_best h
theorem c_X12_matches_0 {C : zC} {I : Nat → Nat → Int32} {J : Nat → Nat → Int64} {Rr : Nat → Nat → Option Nat} {D : zD} (N : Nat) (v_grain : Int32) (e_v_grain : I 128 10 = v_grain) (v_limit : Int32) (e_v_limit : I 128 12 = v_limit) (v_lost : Int32) (e_v_lost : I 128 11 = v_lost) (v_cutAt : (Nat → Int32)) (e_v_cutAt : I 136 = v_cutAt) (v_cutWorth : (Nat → Int32)) (e_v_cutWorth : I 137 = v_cutWorth) (v_cuts : (Nat → Int32)) (e_v_cuts : I 135 = v_cuts) (y_v_best : (Nat → Int32)) (y_v_cost : (Nat → Int32)) (y_v_fits : (Nat → Int32)) (y_v_mates : (Nat → Int32)) (E : zE C RX12 cX12_matches 5 none ({ frames := 3, cells := 0, slots := 0, locals := 68 } : Room)) (hQ : C.Q = zQv C ({ frames := 3, cells := 0, slots := 0, locals := 68 } : Room) ((va_up (va_up (va_up (va_up I 139 y_v_cost) 140 y_v_best) 141 y_v_mates) 142 y_v_fits), J, Rr, D)) (v_best : (Nat → Int32)) (v_cost : (Nat → Int32)) (v_fits : (Nat → Int32)) (v_mates : (Nat → Int32)) (h : pM_matches N v_grain v_limit v_lost v_best v_cost v_cutAt v_cutWorth v_cuts v_fits v_mates = some (y_v_best, y_v_cost, y_v_fits, y_v_mates)) : zB C (0, 0) 0 [(0, .ref (C.X.1 + 128))] [] ((va_up (va_up (va_up (va_up I 139 v_cost) 140 v_best) 141 v_mates) 142 v_fits), J, Rr, D) := by
  refine zb_iconst E dX12_matches_0 (v := 0) rfl ?_
  refine zb_istore_n E dX12_matches_1 rfl (by decide) (lv2 := [(1, .int 0), (0, .ref (C.X.1 + 128))]) rfl ?_
  refine zb_sub [1, 0] rfl ?_
  exact c_X12_matches_b2 N v_grain e_v_grain v_limit e_v_limit v_lost e_v_lost v_cutAt e_v_cutAt v_cutWorth e_v_cutWorth v_cuts e_v_cuts y_v_best y_v_cost y_v_fits y_v_mates E hQ v_best v_mates _ (fun v_cost_z3 v_fits_z4 h => c_X12_matches_b72 N v_grain e_v_grain v_limit e_v_limit v_lost e_v_lost v_cutAt e_v_cutAt v_cutWorth e_v_cutWorth v_cuts e_v_cuts y_v_best y_v_cost y_v_fits y_v_mates E hQ v_best v_cost_z3 v_fits_z4 v_mates h) _ 0 v_cost v_fits h
theorem c_X12_matches {l : Launch} {X : zX} {I : Nat → Nat → Int32} {J : Nat → Nat → Int64} {Rr : Nat → Nat → Option Nat} {D : zD} {N : Nat} (v_grain : Int32) (e_v_grain : I 128 10 = v_grain) (v_limit : Int32) (e_v_limit : I 128 12 = v_limit) (v_lost : Int32) (e_v_lost : I 128 11 = v_lost) (v_cutAt : (Nat → Int32)) (e_v_cutAt : I 136 = v_cutAt) (v_cutWorth : (Nat → Int32)) (e_v_cutWorth : I 137 = v_cutWorth) (v_cuts : (Nat → Int32)) (e_v_cuts : I 135 = v_cuts) (v_best : (Nat → Int32)) (e_v_best : I 140 = v_best) (v_cost : (Nat → Int32)) (e_v_cost : I 139 = v_cost) (v_fits : (Nat → Int32)) (e_v_fits : I 142 = v_fits) (v_mates : (Nat → Int32)) (e_v_mates : I 141 = v_mates) {y_v_best : (Nat → Int32)} {y_v_cost : (Nat → Int32)} {y_v_fits : (Nat → Int32)} {y_v_mates : (Nat → Int32)} (h : pM_matches N v_grain v_limit v_lost v_best v_cost v_cutAt v_cutWorth v_cuts v_fits v_mates = some (y_v_best, y_v_cost, y_v_fits, y_v_mates)) : zMv l yX12_matches cX12_matches 5 none ({ frames := 3, cells := 0, slots := 0, locals := 68 } : Room) X [.ref (X.1 + 128)] (I, J, Rr, D) ((va_up (va_up (va_up (va_up I 139 y_v_cost) 140 y_v_best) 141 y_v_mates) 142 y_v_fits), J, Rr, D) := by
  refine zMv.of (by decide) (Nat.le_of_ble_eq_true rfl) (fun C E hl hX hQ => ?_)
  subst hl
  subst hX
  have eI0 : (va_up (va_up (va_up (va_up I 139 v_cost) 140 v_best) 141 v_mates) 142 v_fits) = I := by rw [zup_idE e_v_cost, zup_idE e_v_best, zup_idE e_v_mates, zup_idE e_v_fits]
  have eJ0 : J = J := rfl
  refine zb_S (S2 := ((va_up (va_up (va_up (va_up I 139 v_cost) 140 v_best) 141 v_mates) 142 v_fits), J, Rr, D)) (zS_eq eI0.symm eJ0.symm) ?_
  exact c_X12_matches_0 N v_grain e_v_grain v_limit e_v_limit v_lost e_v_lost v_cutAt e_v_cutAt v_cutWorth e_v_cutWorth v_cuts e_v_cuts y_v_best y_v_cost y_v_fits y_v_mates E hQ v_best v_cost v_fits v_mates h
-- ChequeredClothModel.mate
theorem dX12_mate_0 : decode cX12_mate 0 = .ok (.iload_n 1, 1) := by decide +kernel
theorem dX12_mate_1 : decode cX12_mate 1 = .ok (.i2l, 1) := by decide +kernel
theorem dX12_mate_2 : decode cX12_mate 2 = .ok (.lconst 0, 1) := by decide +kernel
theorem dX12_mate_3 : decode cX12_mate 3 = .ok (.ldc2_w 229, 3) := by decide +kernel
theorem dX12_mate_6 : decode cX12_mate 6 = .ok (.invokestatic 199, 3) := by decide +kernel
theorem dX12_mate_9 : decode cX12_mate 9 = .ok (.ifCond .ne 5, 3) := by decide +kernel
theorem dX12_mate_12 : decode cX12_mate 12 = .ok (.iconst (-1), 1) := by decide +kernel
theorem dX12_mate_13 : decode cX12_mate 13 = .ok (.ireturn, 1) := by decide +kernel
theorem dX12_mate_14 : decode cX12_mate 14 = .ok (.aload_n 0, 1) := by decide +kernel
theorem dX12_mate_15 : decode cX12_mate 15 = .ok (.invokevirtual 269, 3) := by decide +kernel
theorem dX12_mate_18 : decode cX12_mate 18 = .ok (.aload_n 0, 1) := by decide +kernel
theorem dX12_mate_19 : decode cX12_mate 19 = .ok (.getfield 57, 3) := by decide +kernel
theorem dX12_mate_22 : decode cX12_mate 22 = .ok (.iload_n 1, 1) := by decide +kernel
theorem dX12_mate_23 : decode cX12_mate 23 = .ok (.iaload, 1) := by decide +kernel
theorem dX12_mate_24 : decode cX12_mate 24 = .ok (.ireturn, 1) := by decide +kernel
theorem zy_X12_mate : zYv yX12_mate cX12_mate 2 (some .int) 1 := ⟨zw_1529, zw_1530, zw_12, zw_1531, by decide, by decide, by decide⟩
theorem c_X12_mate_0 {C : zC} {I : Nat → Nat → Int32} {J : Nat → Nat → Int64} {Rr : Nat → Nat → Option Nat} {D : zD} (N : Nat) (a1 : Int32) (v_grain : Int32) (e_v_grain : I 128 10 = v_grain) (v_limit : Int32) (e_v_limit : I 128 12 = v_limit) (v_lost : Int32) (e_v_lost : I 128 11 = v_lost) (v_cutAt : (Nat → Int32)) (e_v_cutAt : I 136 = v_cutAt) (v_cutWorth : (Nat → Int32)) (e_v_cutWorth : I 137 = v_cutWorth) (v_cuts : (Nat → Int32)) (e_v_cuts : I 135 = v_cuts) (rr : Int32) (y_v_best : (Nat → Int32)) (y_v_cost : (Nat → Int32)) (y_v_fits : (Nat → Int32)) (y_v_mates : (Nat → Int32)) (E : zE C RX12 cX12_mate 2 (some .int) ({ frames := 4, cells := 0, slots := 0, locals := 92 } : Room)) (hQ : C.Q = zQi C ({ frames := 4, cells := 0, slots := 0, locals := 92 } : Room) rr ((va_up (va_up (va_up (va_up I 139 y_v_cost) 140 y_v_best) 141 y_v_mates) 142 y_v_fits), J, Rr, D)) (v_best : (Nat → Int32)) (v_cost : (Nat → Int32)) (v_fits : (Nat → Int32)) (v_mates : (Nat → Int32)) (h : pM_mate N a1 v_grain v_limit v_lost v_best v_cost v_cutAt v_cutWorth v_cuts v_fits v_mates = some (rr, y_v_best, y_v_cost, y_v_fits, y_v_mates)) : zB C (0, 0) 0 [(0, .ref (C.X.1 + 128)), (1, .int a1)] [] ((va_up (va_up (va_up (va_up I 139 v_cost) 140 v_best) 141 v_mates) 142 v_fits), J, Rr, D) := by
  refine zb_iload_n E dX12_mate_0 1 rfl rfl ?_
  refine zb_i2l E dX12_mate_1 ?_
  refine zb_lconst E dX12_mate_2 (v := 0) rfl ?_
  refine zb_ldc2 E dX12_mate_3 (v := 9) zw_1490 ?_
  obtain ⟨rc1, hc_6, h⟩ := bd1_s h
  refine zb_cSi E [.long (i2l a1), .long 0, .long 9] zy_X12_isIn zw_1429 (c_X12_isIn hc_6) (by decide) rfl rfl (by first | decide | simp [Value.category]) dX12_mate_6 (cs2 := (0, 0)) rfl ?_
  refine zb_if_ne E dX12_mate_9 (tgt := 14) rfl (fun hc => ?_) (fun hc => ?_)
  · have h := if_f h hc
    refine zb_aload_n E dX12_mate_14 0 rfl rfl ?_
    obtain ⟨v_best_c2, v_cost_c2, v_fits_c2, v_mates_c2, hc_15, h⟩ := bd4_s h
    refine zb_cVv E [] 128 zy_X12_matches zw_1532 (by decide) (zF_128 _ _ _ _) rfl (c_X12_matches v_grain (by exact e_v_grain) v_limit (by exact e_v_limit) v_lost (by exact e_v_lost) v_cutAt (by exact e_v_cutAt) v_cutWorth (by exact e_v_cutWorth) v_cuts (by exact e_v_cuts) v_best rfl v_cost rfl v_fits rfl v_mates rfl hc_15) (by decide) rfl rfl (by first | decide | simp [Value.category]) dX12_mate_15 (cs2 := (0, 0)) rfl ?_
    refine zb_S (S2 := ((va_up (va_up (va_up (va_up I 139 v_cost_c2) 140 v_best_c2) 141 v_mates_c2) 142 v_fits_c2), J, Rr, D)) (zS_eq ((zcgF ((zcgF ((zcgF (zn4 (by decide : (142 : Nat) ≠ 139) (by decide : (141 : Nat) ≠ 139) (by decide : (140 : Nat) ≠ 139))).trans (zn3 (by decide : (142 : Nat) ≠ 140) (by decide : (141 : Nat) ≠ 140)))).trans (zn2 (by decide : (142 : Nat) ≠ 141)))).trans zn1) rfl) ?_
    refine zb_aload_n E dX12_mate_18 0 rfl rfl ?_
    refine zb_get E 128 (by decide) (zF_128 C.X) rfl zin12 15 (by decide) zw_1183 (v := .ref (C.X.1 + 141)) rfl dX12_mate_19 ?_
    refine zb_iload_n E dX12_mate_22 1 rfl rfl ?_
    obtain ⟨g3, h⟩ := gd_s h
    refine zb_iald E 141 (by decide) zF_141 (f := v_mates_c2) rfl (ib_in g3) dX12_mate_23 ?_
    obtain ⟨rfl, rfl, rfl, rfl, rfl⟩ := zinj5 h
    exact zb_iret E hQ rfl ⟨Nat.zero_le _, Nat.zero_le _⟩ dX12_mate_24
  · have h := if_t h hc
    refine zb_iconst E dX12_mate_12 (v := (-1)) rfl ?_
    obtain ⟨rfl, rfl, rfl, rfl, rfl⟩ := zinj5 h
    exact zb_iret E hQ rfl ⟨Nat.zero_le _, Nat.zero_le _⟩ dX12_mate_13
theorem c_X12_mate {l : Launch} {X : zX} {I : Nat → Nat → Int32} {J : Nat → Nat → Int64} {Rr : Nat → Nat → Option Nat} {D : zD} {N : Nat} {a1 : Int32} (v_grain : Int32) (e_v_grain : I 128 10 = v_grain) (v_limit : Int32) (e_v_limit : I 128 12 = v_limit) (v_lost : Int32) (e_v_lost : I 128 11 = v_lost) (v_cutAt : (Nat → Int32)) (e_v_cutAt : I 136 = v_cutAt) (v_cutWorth : (Nat → Int32)) (e_v_cutWorth : I 137 = v_cutWorth) (v_cuts : (Nat → Int32)) (e_v_cuts : I 135 = v_cuts) (v_best : (Nat → Int32)) (e_v_best : I 140 = v_best) (v_cost : (Nat → Int32)) (e_v_cost : I 139 = v_cost) (v_fits : (Nat → Int32)) (e_v_fits : I 142 = v_fits) (v_mates : (Nat → Int32)) (e_v_mates : I 141 = v_mates) {rr : Int32} {y_v_best : (Nat → Int32)} {y_v_cost : (Nat → Int32)} {y_v_fits : (Nat → Int32)} {y_v_mates : (Nat → Int32)} (h : pM_mate N a1 v_grain v_limit v_lost v_best v_cost v_cutAt v_cutWorth v_cuts v_fits v_mates = some (rr, y_v_best, y_v_cost, y_v_fits, y_v_mates)) : zMi l yX12_mate cX12_mate 2 (some .int) ({ frames := 4, cells := 0, slots := 0, locals := 92 } : Room) X [.ref (X.1 + 128), .int a1] (I, J, Rr, D) rr ((va_up (va_up (va_up (va_up I 139 y_v_cost) 140 y_v_best) 141 y_v_mates) 142 y_v_fits), J, Rr, D) := by
  refine zMi.of (by decide) (Nat.le_of_ble_eq_true rfl) (fun C E hl hX hQ => ?_)
  subst hl
  subst hX
  have eI0 : (va_up (va_up (va_up (va_up I 139 v_cost) 140 v_best) 141 v_mates) 142 v_fits) = I := by rw [zup_idE e_v_cost, zup_idE e_v_best, zup_idE e_v_mates, zup_idE e_v_fits]
  have eJ0 : J = J := rfl
  refine zb_S (S2 := ((va_up (va_up (va_up (va_up I 139 v_cost) 140 v_best) 141 v_mates) 142 v_fits), J, Rr, D)) (zS_eq eI0.symm eJ0.symm) ?_
  exact c_X12_mate_0 N a1 v_grain e_v_grain v_limit e_v_limit v_lost e_v_lost v_cutAt e_v_cutAt v_cutWorth e_v_cutWorth v_cuts e_v_cuts rr y_v_best y_v_cost y_v_fits y_v_mates E hQ v_best v_cost v_fits v_mates h
-- ChequeredClothModel.matched
theorem dX12_matched_0 : decode cX12_matched 0 = .ok (.iload_n 1, 1) := by decide +kernel
theorem dX12_matched_1 : decode cX12_matched 1 = .ok (.ifCond .eq 10, 3) := by decide +kernel
theorem dX12_matched_4 : decode cX12_matched 4 = .ok (.iload_n 1, 1) := by decide +kernel
theorem dX12_matched_5 : decode cX12_matched 5 = .ok (.iconst 1, 1) := by decide +kernel
theorem dX12_matched_6 : decode cX12_matched 6 = .ok (.if_icmp .eq 5, 3) := by decide +kernel
theorem dX12_matched_9 : decode cX12_matched 9 = .ok (.iconst (-1), 1) := by decide +kernel
theorem dX12_matched_10 : decode cX12_matched 10 = .ok (.ireturn, 1) := by decide +kernel
theorem dX12_matched_11 : decode cX12_matched 11 = .ok (.aload_n 0, 1) := by decide +kernel
theorem dX12_matched_12 : decode cX12_matched 12 = .ok (.invokevirtual 269, 3) := by decide +kernel
theorem dX12_matched_15 : decode cX12_matched 15 = .ok (.iconst 0, 1) := by decide +kernel
theorem dX12_matched_16 : decode cX12_matched 16 = .ok (.istore_n 2, 1) := by decide +kernel
theorem dX12_matched_17 : decode cX12_matched 17 = .ok (.iconst 0, 1) := by decide +kernel
theorem dX12_matched_18 : decode cX12_matched 18 = .ok (.istore_n 3, 1) := by decide +kernel
theorem dX12_matched_19 : decode cX12_matched 19 = .ok (.iconst 0, 1) := by decide +kernel
theorem dX12_matched_20 : decode cX12_matched 20 = .ok (.istore 4, 2) := by decide +kernel
theorem dX12_matched_22 : decode cX12_matched 22 = .ok (.iload 4, 2) := by decide +kernel
theorem dX12_matched_24 : decode cX12_matched 24 = .ok (.bipush 10, 2) := by decide +kernel
theorem dX12_matched_26 : decode cX12_matched 26 = .ok (.if_icmp .ge 47, 3) := by decide +kernel
theorem dX12_matched_29 : decode cX12_matched 29 = .ok (.aload_n 0, 1) := by decide +kernel
theorem dX12_matched_30 : decode cX12_matched 30 = .ok (.getfield 57, 3) := by decide +kernel
theorem dX12_matched_33 : decode cX12_matched 33 = .ok (.iload 4, 2) := by decide +kernel
theorem dX12_matched_35 : decode cX12_matched 35 = .ok (.iaload, 1) := by decide +kernel
theorem dX12_matched_36 : decode cX12_matched 36 = .ok (.iconst (-1), 1) := by decide +kernel
theorem dX12_matched_37 : decode cX12_matched 37 = .ok (.if_icmp .ne 6, 3) := by decide +kernel
theorem dX12_matched_40 : decode cX12_matched 40 = .ok (.goto 27, 3) := by decide +kernel
theorem dX12_matched_43 : decode cX12_matched 43 = .ok (.iinc 2 1, 3) := by decide +kernel
theorem dX12_matched_46 : decode cX12_matched 46 = .ok (.iload_n 3, 1) := by decide +kernel
theorem dX12_matched_47 : decode cX12_matched 47 = .ok (.aload_n 0, 1) := by decide +kernel
theorem dX12_matched_48 : decode cX12_matched 48 = .ok (.getfield 60, 3) := by decide +kernel
theorem dX12_matched_51 : decode cX12_matched 51 = .ok (.bipush 10, 2) := by decide +kernel
theorem dX12_matched_53 : decode cX12_matched 53 = .ok (.iload 4, 2) := by decide +kernel
theorem dX12_matched_55 : decode cX12_matched 55 = .ok (.imul, 1) := by decide +kernel
theorem dX12_matched_56 : decode cX12_matched 56 = .ok (.aload_n 0, 1) := by decide +kernel
theorem dX12_matched_57 : decode cX12_matched 57 = .ok (.getfield 57, 3) := by decide +kernel
theorem dX12_matched_60 : decode cX12_matched 60 = .ok (.iload 4, 2) := by decide +kernel
theorem dX12_matched_62 : decode cX12_matched 62 = .ok (.iaload, 1) := by decide +kernel
theorem dX12_matched_63 : decode cX12_matched 63 = .ok (.iadd, 1) := by decide +kernel
theorem dX12_matched_64 : decode cX12_matched 64 = .ok (.iaload, 1) := by decide +kernel
theorem dX12_matched_65 : decode cX12_matched 65 = .ok (.iadd, 1) := by decide +kernel
theorem dX12_matched_66 : decode cX12_matched 66 = .ok (.istore_n 3, 1) := by decide +kernel
theorem dX12_matched_67 : decode cX12_matched 67 = .ok (.iinc 4 1, 3) := by decide +kernel
theorem dX12_matched_70 : decode cX12_matched 70 = .ok (.goto (-48), 3) := by decide +kernel
theorem dX12_matched_73 : decode cX12_matched 73 = .ok (.iload_n 1, 1) := by decide +kernel
theorem dX12_matched_74 : decode cX12_matched 74 = .ok (.ifCond .ne 7, 3) := by decide +kernel
theorem dX12_matched_77 : decode cX12_matched 77 = .ok (.iload_n 2, 1) := by decide +kernel
theorem dX12_matched_78 : decode cX12_matched 78 = .ok (.goto 4, 3) := by decide +kernel
theorem dX12_matched_81 : decode cX12_matched 81 = .ok (.iload_n 3, 1) := by decide +kernel
theorem dX12_matched_82 : decode cX12_matched 82 = .ok (.ireturn, 1) := by decide +kernel
theorem zy_X12_matched : zYv yX12_matched cX12_matched 5 (some .int) 1 := ⟨zw_1546, zw_1547, zw_12, zw_1548, by decide, by decide, by decide⟩
theorem c_X12_matched_b22 {C : zC} {I : Nat → Nat → Int32} {J : Nat → Nat → Int64} {Rr : Nat → Nat → Option Nat} {D : zD} (N : Nat) (a1 : Int32) (v_grain : Int32) (e_v_grain : I 128 10 = v_grain) (v_limit : Int32) (e_v_limit : I 128 12 = v_limit) (v_lost : Int32) (e_v_lost : I 128 11 = v_lost) (v_cutAt : (Nat → Int32)) (e_v_cutAt : I 136 = v_cutAt) (v_cutWorth : (Nat → Int32)) (e_v_cutWorth : I 137 = v_cutWorth) (v_cuts : (Nat → Int32)) (e_v_cuts : I 135 = v_cuts) (rr : Int32) (y_v_best : (Nat → Int32)) (y_v_cost : (Nat → Int32)) (y_v_fits : (Nat → Int32)) (y_v_mates : (Nat → Int32)) (E : zE C RX12 cX12_matched 5 (some .int) ({ frames := 4, cells := 0, slots := 0, locals := 92 } : Room)) (hQ : C.Q = zQi C ({ frames := 4, cells := 0, slots := 0, locals := 92 } : Room) rr ((va_up (va_up (va_up (va_up I 139 y_v_cost) 140 y_v_best) 141 y_v_mates) 142 y_v_fits), J, Rr, D)) (v_best : (Nat → Int32)) (v_cost : (Nat → Int32)) (v_fits : (Nat → Int32)) (v_mates : (Nat → Int32)) (k73 : Int32 → Int32 → Option R_pM_matched) (hk73 : ∀ (x2 : Int32) (x3 : Int32), k73 x2 x3 = some (rr, y_v_best, y_v_cost, y_v_fits, y_v_mates) → zB C (0, 0) 73 [(1, .int a1), (2, .int x2), (3, .int x3)] [] ((va_up (va_up (va_up (va_up I 139 v_cost) 140 v_best) 141 v_mates) 142 v_fits), J, Rr, D)) : ∀ (n9 : Nat) (x2 : Int32) (x3 : Int32) (x4 : Int32), pM_matched_b22 N a1 v_grain v_limit v_lost v_cutAt v_cutWorth v_cuts v_best v_cost v_fits v_mates k73 n9 x2 x3 x4 = some (rr, y_v_best, y_v_cost, y_v_fits, y_v_mates) → zB C (0, 0) 22 [(0, .ref (C.X.1 + 128)), (1, .int a1), (2, .int x2), (3, .int x3), (4, .int x4)] [] ((va_up (va_up (va_up (va_up I 139 v_cost) 140 v_best) 141 v_mates) 142 v_fits), J, Rr, D) := by
  refine zlp3_ind (P := fun (x2 : Int32) (x3 : Int32) (x4 : Int32) => zB C (0, 0) 22 [(0, .ref (C.X.1 + 128)), (1, .int a1), (2, .int x2), (3, .int x3), (4, .int x4)] [] ((va_up (va_up (va_up (va_up I 139 v_cost) 140 v_best) 141 v_mates) 142 v_fits), J, Rr, D)) (fun self ih => ?_)
  intro x2 x3 x4 h
  refine zb_iload E dX12_matched_22 4 rfl ?_
  refine zb_bipush E dX12_matched_24 (v := 10) rfl ?_
  refine zb_icmp_ge E dX12_matched_26 (tgt := 73) rfl (fun hc => ?_) (fun hc => ?_)
  · have h := if_t h hc
    refine zb_sub [1, 2, 3] rfl ?_
    exact hk73 x2 x3 h
  · have h := if_f h hc
    refine zb_aload_n E dX12_matched_29 0 rfl rfl ?_
    refine zb_get E 128 (by decide) (zF_128 C.X) rfl zin12 15 (by decide) zw_1183 (v := .ref (C.X.1 + 141)) rfl dX12_matched_30 ?_
    refine zb_iload E dX12_matched_33 4 rfl ?_
    obtain ⟨g2, h⟩ := gd_s h
    refine zb_iald E 141 (by decide) zF_141 (f := v_mates) rfl (ib_in g2) dX12_matched_35 ?_
    refine zb_iconst E dX12_matched_36 (v := (-1)) rfl ?_
    refine zb_icmp_ne E dX12_matched_37 (tgt := 43) rfl (fun hc => ?_) (fun hc => ?_)
    · have h := if_f h hc
      refine zb_iinc E dX12_matched_43 2 rfl (v := (x2 + 1)) rfl (by decide) (lv2 := [(2, .int (x2 + 1)), (0, .ref (C.X.1 + 128)), (1, .int a1), (3, .int x3), (4, .int x4)]) rfl ?_
      refine zb_iload_n E dX12_matched_46 3 rfl rfl ?_
      refine zb_aload_n E dX12_matched_47 1 rfl rfl ?_
      refine zb_get E 128 (by decide) (zF_128 C.X) rfl zin12 16 (by decide) zw_1184 (v := .ref (C.X.1 + 142)) rfl dX12_matched_48 ?_
      refine zb_bipush E dX12_matched_51 (v := 10) rfl ?_
      refine zb_iload E dX12_matched_53 4 rfl ?_
      refine zb_imul E dX12_matched_55 ?_
      refine zb_aload_n E dX12_matched_56 1 rfl rfl ?_
      refine zb_get E 128 (by decide) (zF_128 C.X) rfl zin12 15 (by decide) zw_1183 (v := .ref (C.X.1 + 141)) rfl dX12_matched_57 ?_
      refine zb_iload E dX12_matched_60 4 rfl ?_
      refine zb_iald E 141 (by decide) zF_141 (f := v_mates) rfl (ib_in g2) dX12_matched_62 ?_
      refine zb_iadd E dX12_matched_63 ?_
      obtain ⟨g3, h⟩ := gd_s h
      refine zb_iald E 142 (by decide) zF_142 (f := v_fits) rfl (ib_in g3) dX12_matched_64 ?_
      refine zb_iadd E dX12_matched_65 ?_
      refine zb_istore_n E dX12_matched_66 rfl (by decide) (lv2 := [(3, .int (x3 + (v_fits (ix ((10 * x4) + (v_mates (ix x4))))))), (2, .int (x2 + 1)), (0, .ref (C.X.1 + 128)), (1, .int a1), (4, .int x4)]) rfl ?_
      refine zb_iinc E dX12_matched_67 4 rfl (v := (x4 + 1)) rfl (by decide) (lv2 := [(4, .int (x4 + 1)), (3, .int (x3 + (v_fits (ix ((10 * x4) + (v_mates (ix x4))))))), (2, .int (x2 + 1)), (0, .ref (C.X.1 + 128)), (1, .int a1)]) rfl ?_
      refine zb_goto E dX12_matched_70 (tgt := 22) rfl ?_
      refine zb_sub [3, 4, 2, 1, 0] rfl ?_
      exact ih (x2 + 1) (x3 + (v_fits (ix ((10 * x4) + (v_mates (ix x4)))))) (x4 + 1) h
    · have h := if_t h hc
      refine zb_goto E dX12_matched_40 (tgt := 67) rfl ?_
      refine zb_iinc E dX12_matched_67 4 rfl (v := (x4 + 1)) rfl (by decide) (lv2 := [(4, .int (x4 + 1)), (0, .ref (C.X.1 + 128)), (1, .int a1), (2, .int x2), (3, .int x3)]) rfl ?_
      refine zb_goto E dX12_matched_70 (tgt := 22) rfl ?_
      refine zb_sub [1, 2, 3, 4, 0] rfl ?_
      exact ih x2 x3 (x4 + 1) h
theorem c_X12_matched_b73 {C : zC} {I : Nat → Nat → Int32} {J : Nat → Nat → Int64} {Rr : Nat → Nat → Option Nat} {D : zD} (N : Nat) (a1 : Int32) (v_grain : Int32) (e_v_grain : I 128 10 = v_grain) (v_limit : Int32) (e_v_limit : I 128 12 = v_limit) (v_lost : Int32) (e_v_lost : I 128 11 = v_lost) (v_cutAt : (Nat → Int32)) (e_v_cutAt : I 136 = v_cutAt) (v_cutWorth : (Nat → Int32)) (e_v_cutWorth : I 137 = v_cutWorth) (v_cuts : (Nat → Int32)) (e_v_cuts : I 135 = v_cuts) (rr : Int32) (y_v_best : (Nat → Int32)) (y_v_cost : (Nat → Int32)) (y_v_fits : (Nat → Int32)) (y_v_mates : (Nat → Int32)) (E : zE C RX12 cX12_matched 5 (some .int) ({ frames := 4, cells := 0, slots := 0, locals := 92 } : Room)) (hQ : C.Q = zQi C ({ frames := 4, cells := 0, slots := 0, locals := 92 } : Room) rr ((va_up (va_up (va_up (va_up I 139 y_v_cost) 140 y_v_best) 141 y_v_mates) 142 y_v_fits), J, Rr, D)) (x2 : Int32) (x3 : Int32) (v_best : (Nat → Int32)) (v_cost : (Nat → Int32)) (v_fits : (Nat → Int32)) (v_mates : (Nat → Int32)) (h : pM_matched_b73 N a1 v_grain v_limit v_lost v_cutAt v_cutWorth v_cuts x2 x3 v_best v_cost v_fits v_mates = some (rr, y_v_best, y_v_cost, y_v_fits, y_v_mates)) : zB C (0, 0) 73 [(1, .int a1), (2, .int x2), (3, .int x3)] [] ((va_up (va_up (va_up (va_up I 139 v_cost) 140 v_best) 141 v_mates) 142 v_fits), J, Rr, D) := by
  refine zb_iload_n E dX12_matched_73 0 rfl rfl ?_
  refine zb_if_ne E dX12_matched_74 (tgt := 81) rfl (fun hc => ?_) (fun hc => ?_)
  · have h := if_f h hc
    refine zb_iload_n E dX12_matched_81 2 rfl rfl ?_
    obtain ⟨rfl, rfl, rfl, rfl, rfl⟩ := zinj5 h
    exact zb_iret E hQ rfl ⟨Nat.zero_le _, Nat.zero_le _⟩ dX12_matched_82
  · have h := if_t h hc
    refine zb_iload_n E dX12_matched_77 1 rfl rfl ?_
    refine zb_goto E dX12_matched_78 (tgt := 82) rfl ?_
    obtain ⟨rfl, rfl, rfl, rfl, rfl⟩ := zinj5 h
    exact zb_iret E hQ rfl ⟨Nat.zero_le _, Nat.zero_le _⟩ dX12_matched_82
theorem c_X12_matched_b11 {C : zC} {I : Nat → Nat → Int32} {J : Nat → Nat → Int64} {Rr : Nat → Nat → Option Nat} {D : zD} (N : Nat) (a1 : Int32) (v_grain : Int32) (e_v_grain : I 128 10 = v_grain) (v_limit : Int32) (e_v_limit : I 128 12 = v_limit) (v_lost : Int32) (e_v_lost : I 128 11 = v_lost) (v_cutAt : (Nat → Int32)) (e_v_cutAt : I 136 = v_cutAt) (v_cutWorth : (Nat → Int32)) (e_v_cutWorth : I 137 = v_cutWorth) (v_cuts : (Nat → Int32)) (e_v_cuts : I 135 = v_cuts) (rr : Int32) (y_v_best : (Nat → Int32)) (y_v_cost : (Nat → Int32)) (y_v_fits : (Nat → Int32)) (y_v_mates : (Nat → Int32)) (E : zE C RX12 cX12_matched 5 (some .int) ({ frames := 4, cells := 0, slots := 0, locals := 92 } : Room)) (hQ : C.Q = zQi C ({ frames := 4, cells := 0, slots := 0, locals := 92 } : Room) rr ((va_up (va_up (va_up (va_up I 139 y_v_cost) 140 y_v_best) 141 y_v_mates) 142 y_v_fits), J, Rr, D)) (v_best : (Nat → Int32)) (v_cost : (Nat → Int32)) (v_fits : (Nat → Int32)) (v_mates : (Nat → Int32)) (h : pM_matched_b11 N a1 v_grain v_limit v_lost v_cutAt v_cutWorth v_cuts v_best v_cost v_fits v_mates = some (rr, y_v_best, y_v_cost, y_v_fits, y_v_mates)) : zB C (0, 0) 11 [(0, .ref (C.X.1 + 128)), (1, .int a1)] [] ((va_up (va_up (va_up (va_up I 139 v_cost) 140 v_best) 141 v_mates) 142 v_fits), J, Rr, D) := by
  refine zb_aload_n E dX12_matched_11 0 rfl rfl ?_
  obtain ⟨v_best_c1, v_cost_c1, v_fits_c1, v_mates_c1, hc_12, h⟩ := bd4_s h
  refine zb_cVv E [] 128 zy_X12_matches zw_1532 (by decide) (zF_128 _ _ _ _) rfl (c_X12_matches v_grain (by exact e_v_grain) v_limit (by exact e_v_limit) v_lost (by exact e_v_lost) v_cutAt (by exact e_v_cutAt) v_cutWorth (by exact e_v_cutWorth) v_cuts (by exact e_v_cuts) v_best rfl v_cost rfl v_fits rfl v_mates rfl hc_12) (by decide) rfl rfl (by first | decide | simp [Value.category]) dX12_matched_12 (cs2 := (0, 0)) rfl ?_
  refine zb_S (S2 := ((va_up (va_up (va_up (va_up I 139 v_cost_c1) 140 v_best_c1) 141 v_mates_c1) 142 v_fits_c1), J, Rr, D)) (zS_eq ((zcgF ((zcgF ((zcgF (zn4 (by decide : (142 : Nat) ≠ 139) (by decide : (141 : Nat) ≠ 139) (by decide : (140 : Nat) ≠ 139))).trans (zn3 (by decide : (142 : Nat) ≠ 140) (by decide : (141 : Nat) ≠ 140)))).trans (zn2 (by decide : (142 : Nat) ≠ 141)))).trans zn1) rfl) ?_
  refine zb_iconst E dX12_matched_15 (v := 0) rfl ?_
  refine zb_istore_n E dX12_matched_16 rfl (by decide) (lv2 := [(2, .int 0), (0, .ref (C.X.1 + 128)), (1, .int a1)]) rfl ?_
  refine zb_iconst E dX12_matched_17 (v := 0) rfl ?_
  refine zb_istore_n E dX12_matched_18 rfl (by decide) (lv2 := [(3, .int 0), (2, .int 0), (0, .ref (C.X.1 + 128)), (1, .int a1)]) rfl ?_
  refine zb_iconst E dX12_matched_19 (v := 0) rfl ?_
  refine zb_istore E dX12_matched_20 (by decide) (lv2 := [(4, .int 0), (3, .int 0), (2, .int 0), (0, .ref (C.X.1 + 128)), (1, .int a1)]) rfl ?_
  refine zb_sub [3, 4, 2, 1, 0] rfl ?_
  exact c_X12_matched_b22 N a1 v_grain e_v_grain v_limit e_v_limit v_lost e_v_lost v_cutAt e_v_cutAt v_cutWorth e_v_cutWorth v_cuts e_v_cuts rr y_v_best y_v_cost y_v_fits y_v_mates E hQ v_best_c1 v_cost_c1 v_fits_c1 v_mates_c1 _ (fun x2_z1 x3_z2 h => c_X12_matched_b73 N a1 v_grain e_v_grain v_limit e_v_limit v_lost e_v_lost v_cutAt e_v_cutAt v_cutWorth e_v_cutWorth v_cuts e_v_cuts rr y_v_best y_v_cost y_v_fits y_v_mates E hQ x2_z1 x3_z2 v_best_c1 v_cost_c1 v_fits_c1 v_mates_c1 h) _ 0 0 0 h
theorem c_X12_matched_0 {C : zC} {I : Nat → Nat → Int32} {J : Nat → Nat → Int64} {Rr : Nat → Nat → Option Nat} {D : zD} (N : Nat) (a1 : Int32) (v_grain : Int32) (e_v_grain : I 128 10 = v_grain) (v_limit : Int32) (e_v_limit : I 128 12 = v_limit) (v_lost : Int32) (e_v_lost : I 128 11 = v_lost) (v_cutAt : (Nat → Int32)) (e_v_cutAt : I 136 = v_cutAt) (v_cutWorth : (Nat → Int32)) (e_v_cutWorth : I 137 = v_cutWorth) (v_cuts : (Nat → Int32)) (e_v_cuts : I 135 = v_cuts) (rr : Int32) (y_v_best : (Nat → Int32)) (y_v_cost : (Nat → Int32)) (y_v_fits : (Nat → Int32)) (y_v_mates : (Nat → Int32)) (E : zE C RX12 cX12_matched 5 (some .int) ({ frames := 4, cells := 0, slots := 0, locals := 92 } : Room)) (hQ : C.Q = zQi C ({ frames := 4, cells := 0, slots := 0, locals := 92 } : Room) rr ((va_up (va_up (va_up (va_up I 139 y_v_cost) 140 y_v_best) 141 y_v_mates) 142 y_v_fits), J, Rr, D)) (v_best : (Nat → Int32)) (v_cost : (Nat → Int32)) (v_fits : (Nat → Int32)) (v_mates : (Nat → Int32)) (h : pM_matched N a1 v_grain v_limit v_lost v_best v_cost v_cutAt v_cutWorth v_cuts v_fits v_mates = some (rr, y_v_best, y_v_cost, y_v_fits, y_v_mates)) : zB C (0, 0) 0 [(0, .ref (C.X.1 + 128)), (1, .int a1)] [] ((va_up (va_up (va_up (va_up I 139 v_cost) 140 v_best) 141 v_mates) 142 v_fits), J, Rr, D) := by
  refine zb_iload_n E dX12_matched_0 1 rfl rfl ?_
  refine zb_if_eq E dX12_matched_1 (tgt := 11) rfl (fun hc => ?_) (fun hc => ?_)
  · have h := if_t h hc
    exact c_X12_matched_b11 N a1 v_grain e_v_grain v_limit e_v_limit v_lost e_v_lost v_cutAt e_v_cutAt v_cutWorth e_v_cutWorth v_cuts e_v_cuts rr y_v_best y_v_cost y_v_fits y_v_mates E hQ v_best v_cost v_fits v_mates h
  · have h := if_f h hc
    refine zb_iload_n E dX12_matched_4 1 rfl rfl ?_
    refine zb_iconst E dX12_matched_5 (v := 1) rfl ?_
    refine zb_icmp_eq E dX12_matched_6 (tgt := 11) rfl (fun hc => ?_) (fun hc => ?_)
    · have h := if_t h hc
      exact c_X12_matched_b11 N a1 v_grain e_v_grain v_limit e_v_limit v_lost e_v_lost v_cutAt e_v_cutAt v_cutWorth e_v_cutWorth v_cuts e_v_cuts rr y_v_best y_v_cost y_v_fits y_v_mates E hQ v_best v_cost v_fits v_mates h
    · have h := if_f h hc
      refine zb_iconst E dX12_matched_9 (v := (-1)) rfl ?_
      obtain ⟨rfl, rfl, rfl, rfl, rfl⟩ := zinj5 h
      exact zb_iret E hQ rfl ⟨Nat.zero_le _, Nat.zero_le _⟩ dX12_matched_10
theorem c_X12_matched {l : Launch} {X : zX} {I : Nat → Nat → Int32} {J : Nat → Nat → Int64} {Rr : Nat → Nat → Option Nat} {D : zD} {N : Nat} {a1 : Int32} (v_grain : Int32) (e_v_grain : I 128 10 = v_grain) (v_limit : Int32) (e_v_limit : I 128 12 = v_limit) (v_lost : Int32) (e_v_lost : I 128 11 = v_lost) (v_cutAt : (Nat → Int32)) (e_v_cutAt : I 136 = v_cutAt) (v_cutWorth : (Nat → Int32)) (e_v_cutWorth : I 137 = v_cutWorth) (v_cuts : (Nat → Int32)) (e_v_cuts : I 135 = v_cuts) (v_best : (Nat → Int32)) (e_v_best : I 140 = v_best) (v_cost : (Nat → Int32)) (e_v_cost : I 139 = v_cost) (v_fits : (Nat → Int32)) (e_v_fits : I 142 = v_fits) (v_mates : (Nat → Int32)) (e_v_mates : I 141 = v_mates) {rr : Int32} {y_v_best : (Nat → Int32)} {y_v_cost : (Nat → Int32)} {y_v_fits : (Nat → Int32)} {y_v_mates : (Nat → Int32)} (h : pM_matched N a1 v_grain v_limit v_lost v_best v_cost v_cutAt v_cutWorth v_cuts v_fits v_mates = some (rr, y_v_best, y_v_cost, y_v_fits, y_v_mates)) : zMi l yX12_matched cX12_matched 5 (some .int) ({ frames := 4, cells := 0, slots := 0, locals := 92 } : Room) X [.ref (X.1 + 128), .int a1] (I, J, Rr, D) rr ((va_up (va_up (va_up (va_up I 139 y_v_cost) 140 y_v_best) 141 y_v_mates) 142 y_v_fits), J, Rr, D) := by
  refine zMi.of (by decide) (Nat.le_of_ble_eq_true rfl) (fun C E hl hX hQ => ?_)
  subst hl
  subst hX
  have eI0 : (va_up (va_up (va_up (va_up I 139 v_cost) 140 v_best) 141 v_mates) 142 v_fits) = I := by rw [zup_idE e_v_cost, zup_idE e_v_best, zup_idE e_v_mates, zup_idE e_v_fits]
  have eJ0 : J = J := rfl
  refine zb_S (S2 := ((va_up (va_up (va_up (va_up I 139 v_cost) 140 v_best) 141 v_mates) 142 v_fits), J, Rr, D)) (zS_eq eI0.symm eJ0.symm) ?_
  exact c_X12_matched_0 N a1 v_grain e_v_grain v_limit e_v_limit v_lost e_v_lost v_cutAt e_v_cutAt v_cutWorth e_v_cutWorth v_cuts e_v_cuts rr y_v_best y_v_cost y_v_fits y_v_mates E hQ v_best v_cost v_fits v_mates h
-- ChequeredClothModel.feed
theorem dX12_feed_0 : decode cX12_feed 0 = .ok (.aload_n 0, 1) := by decide +kernel
theorem dX12_feed_1 : decode cX12_feed 1 = .ok (.getfield 272, 3) := by decide +kernel
theorem dX12_feed_4 : decode cX12_feed 4 = .ok (.bipush 20, 2) := by decide +kernel
theorem dX12_feed_6 : decode cX12_feed 6 = .ok (.iadd, 1) := by decide +kernel
theorem dX12_feed_7 : decode cX12_feed 7 = .ok (.sipush 600, 3) := by decide +kernel
theorem dX12_feed_10 : decode cX12_feed 10 = .ok (.if_icmp .le 5, 3) := by decide +kernel
theorem dX12_feed_13 : decode cX12_feed 13 = .ok (.iconst (-1), 1) := by decide +kernel
theorem dX12_feed_14 : decode cX12_feed 14 = .ok (.ireturn, 1) := by decide +kernel
theorem dX12_feed_15 : decode cX12_feed 15 = .ok (.iconst 0, 1) := by decide +kernel
theorem dX12_feed_16 : decode cX12_feed 16 = .ok (.istore 6, 2) := by decide +kernel
theorem dX12_feed_18 : decode cX12_feed 18 = .ok (.iload 6, 2) := by decide +kernel
theorem dX12_feed_20 : decode cX12_feed 20 = .ok (.bipush 20, 2) := by decide +kernel
theorem dX12_feed_22 : decode cX12_feed 22 = .ok (.if_icmp .ge 92, 3) := by decide +kernel
theorem dX12_feed_25 : decode cX12_feed 25 = .ok (.iload 6, 2) := by decide +kernel
theorem dX12_feed_27 : decode cX12_feed 27 = .ok (.iconst 4, 1) := by decide +kernel
theorem dX12_feed_28 : decode cX12_feed 28 = .ok (.if_icmp .ge 7, 3) := by decide +kernel
theorem dX12_feed_31 : decode cX12_feed 31 = .ok (.iload_n 1, 1) := by decide +kernel
theorem dX12_feed_32 : decode cX12_feed 32 = .ok (.goto 39, 3) := by decide +kernel
theorem dX12_feed_35 : decode cX12_feed 35 = .ok (.iload 6, 2) := by decide +kernel
theorem dX12_feed_37 : decode cX12_feed 37 = .ok (.bipush 8, 2) := by decide +kernel
theorem dX12_feed_39 : decode cX12_feed 39 = .ok (.if_icmp .ge 7, 3) := by decide +kernel
theorem dX12_feed_42 : decode cX12_feed 42 = .ok (.iload_n 2, 1) := by decide +kernel
theorem dX12_feed_43 : decode cX12_feed 43 = .ok (.goto 28, 3) := by decide +kernel
theorem dX12_feed_46 : decode cX12_feed 46 = .ok (.iload 6, 2) := by decide +kernel
theorem dX12_feed_48 : decode cX12_feed 48 = .ok (.bipush 12, 2) := by decide +kernel
theorem dX12_feed_50 : decode cX12_feed 50 = .ok (.if_icmp .ge 7, 3) := by decide +kernel
theorem dX12_feed_53 : decode cX12_feed 53 = .ok (.iload_n 3, 1) := by decide +kernel
theorem dX12_feed_54 : decode cX12_feed 54 = .ok (.goto 17, 3) := by decide +kernel
theorem dX12_feed_57 : decode cX12_feed 57 = .ok (.iload 6, 2) := by decide +kernel
theorem dX12_feed_59 : decode cX12_feed 59 = .ok (.bipush 16, 2) := by decide +kernel
theorem dX12_feed_61 : decode cX12_feed 61 = .ok (.if_icmp .ge 8, 3) := by decide +kernel
theorem dX12_feed_64 : decode cX12_feed 64 = .ok (.iload 4, 2) := by decide +kernel
theorem dX12_feed_66 : decode cX12_feed 66 = .ok (.goto 5, 3) := by decide +kernel
theorem dX12_feed_69 : decode cX12_feed 69 = .ok (.iload 5, 2) := by decide +kernel
theorem dX12_feed_71 : decode cX12_feed 71 = .ok (.istore 7, 2) := by decide +kernel
theorem dX12_feed_73 : decode cX12_feed 73 = .ok (.aload_n 0, 1) := by decide +kernel
theorem dX12_feed_74 : decode cX12_feed 74 = .ok (.getfield 63, 3) := by decide +kernel
theorem dX12_feed_77 : decode cX12_feed 77 = .ok (.aload_n 0, 1) := by decide +kernel
theorem dX12_feed_78 : decode cX12_feed 78 = .ok (.getfield 272, 3) := by decide +kernel
theorem dX12_feed_81 : decode cX12_feed 81 = .ok (.iload 7, 2) := by decide +kernel
theorem dX12_feed_83 : decode cX12_feed 83 = .ok (.bipush 8, 2) := by decide +kernel
theorem dX12_feed_85 : decode cX12_feed 85 = .ok (.iconst 3, 1) := by decide +kernel
theorem dX12_feed_86 : decode cX12_feed 86 = .ok (.iload 6, 2) := by decide +kernel
theorem dX12_feed_88 : decode cX12_feed 88 = .ok (.iconst 4, 1) := by decide +kernel
theorem dX12_feed_89 : decode cX12_feed 89 = .ok (.irem, 1) := by decide +kernel
theorem dX12_feed_90 : decode cX12_feed 90 = .ok (.isub, 1) := by decide +kernel
theorem dX12_feed_91 : decode cX12_feed 91 = .ok (.imul, 1) := by decide +kernel
theorem dX12_feed_92 : decode cX12_feed 92 = .ok (.ishr, 1) := by decide +kernel
theorem dX12_feed_93 : decode cX12_feed 93 = .ok (.sipush 255, 3) := by decide +kernel
theorem dX12_feed_96 : decode cX12_feed 96 = .ok (.iand, 1) := by decide +kernel
theorem dX12_feed_97 : decode cX12_feed 97 = .ok (.iastore, 1) := by decide +kernel
theorem dX12_feed_98 : decode cX12_feed 98 = .ok (.aload_n 0, 1) := by decide +kernel
theorem dX12_feed_99 : decode cX12_feed 99 = .ok (.dup, 1) := by decide +kernel
theorem dX12_feed_100 : decode cX12_feed 100 = .ok (.getfield 272, 3) := by decide +kernel
theorem dX12_feed_103 : decode cX12_feed 103 = .ok (.iconst 1, 1) := by decide +kernel
theorem dX12_feed_104 : decode cX12_feed 104 = .ok (.iadd, 1) := by decide +kernel
theorem dX12_feed_105 : decode cX12_feed 105 = .ok (.putfield 272, 3) := by decide +kernel
theorem dX12_feed_108 : decode cX12_feed 108 = .ok (.iinc 6 1, 3) := by decide +kernel
theorem dX12_feed_111 : decode cX12_feed 111 = .ok (.goto (-93), 3) := by decide +kernel
theorem dX12_feed_114 : decode cX12_feed 114 = .ok (.aload_n 0, 1) := by decide +kernel
theorem dX12_feed_115 : decode cX12_feed 115 = .ok (.getfield 272, 3) := by decide +kernel
theorem dX12_feed_118 : decode cX12_feed 118 = .ok (.ireturn, 1) := by decide +kernel
theorem zy_X12_feed : zYv yX12_feed cX12_feed 8 (some .int) 5 := ⟨zw_1550, zw_1551, zw_12, zw_1552, by decide, by decide, by decide⟩
theorem c_X12_feed_b71 {C : zC} {I : Nat → Nat → Int32} {J : Nat → Nat → Int64} {Rr : Nat → Nat → Option Nat} {D : zD} (N : Nat) (a1 : Int32) (a2 : Int32) (a3 : Int32) (a4 : Int32) (a5 : Int32) (rr : Int32) (y_v_taped : Int32) (y_v_tape : (Nat → Int32)) (E : zE C RX12 cX12_feed 8 (some .int) ({ frames := 0, cells := 0, slots := 0, locals := 0 } : Room)) (hQ : C.Q = zQi C ({ frames := 0, cells := 0, slots := 0, locals := 0 } : Room) rr ((va_up (va_up I 128 (va_up (I 128) 18 y_v_taped)) 143 y_v_tape), J, Rr, D)) (x6 : Int32) (s0 : Int32) (v_taped : Int32) (v_tape : (Nat → Int32)) (self : Int32 → Int32 → (Nat → Int32) → Option R_pM_feed) (ih : ∀ (x6 : Int32) (v_taped : Int32) (v_tape : (Nat → Int32)), self x6 v_taped v_tape = some (rr, y_v_taped, y_v_tape) → zB C (0, 0) 18 [(0, .ref (C.X.1 + 128)), (1, .int a1), (2, .int a2), (3, .int a3), (4, .int a4), (5, .int a5), (6, .int x6)] [] ((va_up (va_up I 128 (va_up (I 128) 18 v_taped)) 143 v_tape), J, Rr, D)) (h : pM_feed_b71 N a1 a2 a3 a4 a5 self x6 s0 v_taped v_tape = some (rr, y_v_taped, y_v_tape)) : zB C (0, 0) 71 [(0, .ref (C.X.1 + 128)), (1, .int a1), (2, .int a2), (3, .int a3), (4, .int a4), (5, .int a5), (6, .int x6)] [.int s0] ((va_up (va_up I 128 (va_up (I 128) 18 v_taped)) 143 v_tape), J, Rr, D) := by
  refine zb_istore E dX12_feed_71 (by decide) (lv2 := [(7, .int s0), (0, .ref (C.X.1 + 128)), (1, .int a1), (2, .int a2), (3, .int a3), (4, .int a4), (5, .int a5), (6, .int x6)]) rfl ?_
  refine zb_aload_n E dX12_feed_73 1 rfl rfl ?_
  refine zb_get E 128 (by decide) (zF_128 C.X) rfl zin12 17 (by decide) zw_1185 (v := .ref (C.X.1 + 143)) rfl dX12_feed_74 ?_
  refine zb_aload_n E dX12_feed_77 1 rfl rfl ?_
  refine zb_get E 128 (by decide) (zF_128 C.X) rfl zin12 18 (by decide) zw_1186 (v := .int v_taped) rfl dX12_feed_78 ?_
  refine zb_iload E dX12_feed_81 0 rfl ?_
  refine zb_bipush E dX12_feed_83 (v := 8) rfl ?_
  refine zb_iconst E dX12_feed_85 (v := 3) rfl ?_
  refine zb_iload E dX12_feed_86 7 rfl ?_
  refine zb_iconst E dX12_feed_88 (v := 4) rfl ?_
  refine zb_irem E dX12_feed_89 (by decide) ?_
  refine zb_isub E dX12_feed_90 ?_
  refine zb_imul E dX12_feed_91 ?_
  refine zb_ishr E dX12_feed_92 ?_
  refine zb_sipush E dX12_feed_93 (v := 255) rfl ?_
  refine zb_iand E dX12_feed_96 ?_
  obtain ⟨g1, h⟩ := gd_s h
  refine zb_iast E 143 (by decide) zF_143 (f := v_tape) rfl (ib_in g1) dX12_feed_97 (I2 := (va_up (va_up I 128 (va_up (I 128) 18 v_taped)) 143 (upd v_tape (ix v_taped) ((s0 >>> ((8 * (3 - (x6 - x6 / 4 * 4))) &&& 31)) &&& 255)))) zn1 ?_
  refine zb_aload_n E dX12_feed_98 1 rfl rfl ?_
  refine zb_dup E dX12_feed_99 rfl ?_
  refine zb_get E 128 (by decide) (zF_128 C.X) rfl zin12 18 (by decide) zw_1186 (v := .int v_taped) rfl dX12_feed_100 ?_
  refine zb_iconst E dX12_feed_103 (v := 1) rfl ?_
  refine zb_iadd E dX12_feed_104 ?_
  refine zb_put E 128 (by decide) (zF_128 C.X) rfl zin12 18 (by decide) zw_1186 tyX12 tyX12_ok nmX12 rfl rfl rfl (I2 := (va_up (va_up I 128 (va_up (I 128) 18 (v_taped + 1))) 143 (upd v_tape (ix v_taped) ((s0 >>> ((8 * (3 - (x6 - x6 / 4 * 4))) &&& 31)) &&& 255)))) (J2 := J) ((zset12_18 C.X (va_up (I 128) 18 v_taped) (J 128) (v_taped + 1)).trans (congrArg (fun g => zf12 C.X g (J 128)) zn1)) (by rw [zflen12]; decide) (fun j hj => ⟨zup_cg ((zup_n hj).trans (zup_n hj).symm), rfl⟩) dX12_feed_105 ?_
  refine zb_iinc E dX12_feed_108 7 rfl (v := (x6 + 1)) rfl (by decide) (lv2 := [(6, .int (x6 + 1)), (7, .int s0), (0, .ref (C.X.1 + 128)), (1, .int a1), (2, .int a2), (3, .int a3), (4, .int a4), (5, .int a5)]) rfl ?_
  refine zb_goto E dX12_feed_111 (tgt := 18) rfl ?_
  refine zb_sub [2, 3, 4, 5, 6, 7, 0] rfl ?_
  exact ih (x6 + 1) (v_taped + 1) (upd v_tape (ix v_taped) ((s0 >>> ((8 * (3 - (x6 - x6 / 4 * 4))) &&& 31)) &&& 255)) h
theorem c_X12_feed_b18 {C : zC} {I : Nat → Nat → Int32} {J : Nat → Nat → Int64} {Rr : Nat → Nat → Option Nat} {D : zD} (N : Nat) (a1 : Int32) (a2 : Int32) (a3 : Int32) (a4 : Int32) (a5 : Int32) (rr : Int32) (y_v_taped : Int32) (y_v_tape : (Nat → Int32)) (E : zE C RX12 cX12_feed 8 (some .int) ({ frames := 0, cells := 0, slots := 0, locals := 0 } : Room)) (hQ : C.Q = zQi C ({ frames := 0, cells := 0, slots := 0, locals := 0 } : Room) rr ((va_up (va_up I 128 (va_up (I 128) 18 y_v_taped)) 143 y_v_tape), J, Rr, D))  : ∀ (n9 : Nat) (x6 : Int32) (v_taped : Int32) (v_tape : (Nat → Int32)), pM_feed_b18 N a1 a2 a3 a4 a5 n9 x6 v_taped v_tape = some (rr, y_v_taped, y_v_tape) → zB C (0, 0) 18 [(0, .ref (C.X.1 + 128)), (1, .int a1), (2, .int a2), (3, .int a3), (4, .int a4), (5, .int a5), (6, .int x6)] [] ((va_up (va_up I 128 (va_up (I 128) 18 v_taped)) 143 v_tape), J, Rr, D) := by
  refine zlp3_ind (P := fun (x6 : Int32) (v_taped : Int32) (v_tape : (Nat → Int32)) => zB C (0, 0) 18 [(0, .ref (C.X.1 + 128)), (1, .int a1), (2, .int a2), (3, .int a3), (4, .int a4), (5, .int a5), (6, .int x6)] [] ((va_up (va_up I 128 (va_up (I 128) 18 v_taped)) 143 v_tape), J, Rr, D)) (fun self ih => ?_)
  intro x6 v_taped v_tape h
  refine zb_iload E dX12_feed_18 6 rfl ?_
  refine zb_bipush E dX12_feed_20 (v := 20) rfl ?_
  refine zb_icmp_ge E dX12_feed_22 (tgt := 114) rfl (fun hc => ?_) (fun hc => ?_)
  · have h := if_t h hc
    refine zb_aload_n E dX12_feed_114 0 rfl rfl ?_
    refine zb_get E 128 (by decide) (zF_128 C.X) rfl zin12 18 (by decide) zw_1186 (v := .int v_taped) rfl dX12_feed_115 ?_
    obtain ⟨rfl, rfl, rfl⟩ := zinj3 h
    exact zb_iret E hQ rfl ⟨Nat.zero_le _, Nat.zero_le _⟩ dX12_feed_118
  · have h := if_f h hc
    refine zb_iload E dX12_feed_25 6 rfl ?_
    refine zb_iconst E dX12_feed_27 (v := 4) rfl ?_
    refine zb_icmp_ge E dX12_feed_28 (tgt := 35) rfl (fun hc => ?_) (fun hc => ?_)
    · have h := if_t h hc
      refine zb_iload E dX12_feed_35 6 rfl ?_
      refine zb_bipush E dX12_feed_37 (v := 8) rfl ?_
      refine zb_icmp_ge E dX12_feed_39 (tgt := 46) rfl (fun hc => ?_) (fun hc => ?_)
      · have h := if_t h hc
        refine zb_iload E dX12_feed_46 6 rfl ?_
        refine zb_bipush E dX12_feed_48 (v := 12) rfl ?_
        refine zb_icmp_ge E dX12_feed_50 (tgt := 57) rfl (fun hc => ?_) (fun hc => ?_)
        · have h := if_t h hc
          refine zb_iload E dX12_feed_57 6 rfl ?_
          refine zb_bipush E dX12_feed_59 (v := 16) rfl ?_
          refine zb_icmp_ge E dX12_feed_61 (tgt := 69) rfl (fun hc => ?_) (fun hc => ?_)
          · have h := if_t h hc
            refine zb_iload E dX12_feed_69 5 rfl ?_
            exact c_X12_feed_b71 N a1 a2 a3 a4 a5 rr y_v_taped y_v_tape E hQ x6 a5 v_taped v_tape self ih h
          · have h := if_f h hc
            refine zb_iload E dX12_feed_64 4 rfl ?_
            refine zb_goto E dX12_feed_66 (tgt := 71) rfl ?_
            exact c_X12_feed_b71 N a1 a2 a3 a4 a5 rr y_v_taped y_v_tape E hQ x6 a4 v_taped v_tape self ih h
        · have h := if_f h hc
          refine zb_iload_n E dX12_feed_53 3 rfl rfl ?_
          refine zb_goto E dX12_feed_54 (tgt := 71) rfl ?_
          exact c_X12_feed_b71 N a1 a2 a3 a4 a5 rr y_v_taped y_v_tape E hQ x6 a3 v_taped v_tape self ih h
      · have h := if_f h hc
        refine zb_iload_n E dX12_feed_42 2 rfl rfl ?_
        refine zb_goto E dX12_feed_43 (tgt := 71) rfl ?_
        exact c_X12_feed_b71 N a1 a2 a3 a4 a5 rr y_v_taped y_v_tape E hQ x6 a2 v_taped v_tape self ih h
    · have h := if_f h hc
      refine zb_iload_n E dX12_feed_31 1 rfl rfl ?_
      refine zb_goto E dX12_feed_32 (tgt := 71) rfl ?_
      exact c_X12_feed_b71 N a1 a2 a3 a4 a5 rr y_v_taped y_v_tape E hQ x6 a1 v_taped v_tape self ih h
theorem c_X12_feed_0 {C : zC} {I : Nat → Nat → Int32} {J : Nat → Nat → Int64} {Rr : Nat → Nat → Option Nat} {D : zD} (N : Nat) (a1 : Int32) (a2 : Int32) (a3 : Int32) (a4 : Int32) (a5 : Int32) (rr : Int32) (y_v_taped : Int32) (y_v_tape : (Nat → Int32)) (E : zE C RX12 cX12_feed 8 (some .int) ({ frames := 0, cells := 0, slots := 0, locals := 0 } : Room)) (hQ : C.Q = zQi C ({ frames := 0, cells := 0, slots := 0, locals := 0 } : Room) rr ((va_up (va_up I 128 (va_up (I 128) 18 y_v_taped)) 143 y_v_tape), J, Rr, D)) (v_taped : Int32) (v_tape : (Nat → Int32)) (h : pM_feed N a1 a2 a3 a4 a5 v_taped v_tape = some (rr, y_v_taped, y_v_tape)) : zB C (0, 0) 0 [(0, .ref (C.X.1 + 128)), (1, .int a1), (2, .int a2), (3, .int a3), (4, .int a4), (5, .int a5)] [] ((va_up (va_up I 128 (va_up (I 128) 18 v_taped)) 143 v_tape), J, Rr, D) := by
  refine zb_aload_n E dX12_feed_0 0 rfl rfl ?_
  refine zb_get E 128 (by decide) (zF_128 C.X) rfl zin12 18 (by decide) zw_1186 (v := .int v_taped) rfl dX12_feed_1 ?_
  refine zb_bipush E dX12_feed_4 (v := 20) rfl ?_
  refine zb_iadd E dX12_feed_6 ?_
  refine zb_sipush E dX12_feed_7 (v := 600) rfl ?_
  refine zb_icmp_le E dX12_feed_10 (tgt := 15) rfl (fun hc => ?_) (fun hc => ?_)
  · have h := if_t h hc
    refine zb_iconst E dX12_feed_15 (v := 0) rfl ?_
    refine zb_istore E dX12_feed_16 (by decide) (lv2 := [(6, .int 0), (0, .ref (C.X.1 + 128)), (1, .int a1), (2, .int a2), (3, .int a3), (4, .int a4), (5, .int a5)]) rfl ?_
    refine zb_sub [1, 2, 3, 4, 5, 6, 0] rfl ?_
    exact c_X12_feed_b18 N a1 a2 a3 a4 a5 rr y_v_taped y_v_tape E hQ _ 0 v_taped v_tape h
  · have h := if_f h hc
    refine zb_iconst E dX12_feed_13 (v := (-1)) rfl ?_
    obtain ⟨rfl, rfl, rfl⟩ := zinj3 h
    exact zb_iret E hQ rfl ⟨Nat.zero_le _, Nat.zero_le _⟩ dX12_feed_14
theorem c_X12_feed {l : Launch} {X : zX} {I : Nat → Nat → Int32} {J : Nat → Nat → Int64} {Rr : Nat → Nat → Option Nat} {D : zD} {N : Nat} {a1 : Int32} {a2 : Int32} {a3 : Int32} {a4 : Int32} {a5 : Int32} (oI128 : Nat → Int32) (eoI128 : I 128 = oI128) (v_taped : Int32) (e_v_taped : I 128 18 = v_taped) (v_tape : (Nat → Int32)) (e_v_tape : I 143 = v_tape) {rr : Int32} {y_v_taped : Int32} {y_v_tape : (Nat → Int32)} (h : pM_feed N a1 a2 a3 a4 a5 v_taped v_tape = some (rr, y_v_taped, y_v_tape)) : zMi l yX12_feed cX12_feed 8 (some .int) ({ frames := 0, cells := 0, slots := 0, locals := 0 } : Room) X [.ref (X.1 + 128), .int a1, .int a2, .int a3, .int a4, .int a5] (I, J, Rr, D) rr ((va_up (va_up I 128 (va_up oI128 18 y_v_taped)) 143 y_v_tape), J, Rr, D) := by
  subst eoI128
  refine zMi.of (by decide) (Nat.le_of_ble_eq_true rfl) (fun C E hl hX hQ => ?_)
  subst hl
  subst hX
  have eI0 : (va_up (va_up I 128 (va_up (I 128) 18 v_taped)) 143 v_tape) = I := by rw [zup_idE e_v_taped, zup_id, zup_idE e_v_tape]
  have eJ0 : J = J := rfl
  refine zb_S (S2 := ((va_up (va_up I 128 (va_up (I 128) 18 v_taped)) 143 v_tape), J, Rr, D)) (zS_eq eI0.symm eJ0.symm) ?_
  exact c_X12_feed_0 N a1 a2 a3 a4 a5 rr y_v_taped y_v_tape E hQ v_taped v_tape h
-- ChequeredClothModel.end
theorem dX12_end_0 : decode cX12_end 0 = .ok (.iload_n 1, 1) := by decide +kernel
theorem dX12_end_1 : decode cX12_end 1 = .ok (.ifCond .lt 11, 3) := by decide +kernel
theorem dX12_end_4 : decode cX12_end 4 = .ok (.iload_n 1, 1) := by decide +kernel
theorem dX12_end_5 : decode cX12_end 5 = .ok (.aload_n 0, 1) := by decide +kernel
theorem dX12_end_6 : decode cX12_end 6 = .ok (.getfield 272, 3) := by decide +kernel
theorem dX12_end_9 : decode cX12_end 9 = .ok (.if_icmp .le 5, 3) := by decide +kernel
theorem dX12_end_12 : decode cX12_end 12 = .ok (.iconst 0, 1) := by decide +kernel
theorem dX12_end_13 : decode cX12_end 13 = .ok (.ireturn, 1) := by decide +kernel
theorem dX12_end_14 : decode cX12_end 14 = .ok (.aload_n 0, 1) := by decide +kernel
theorem dX12_end_15 : decode cX12_end 15 = .ok (.iload_n 1, 1) := by decide +kernel
theorem dX12_end_16 : decode cX12_end 16 = .ok (.putfield 272, 3) := by decide +kernel
theorem dX12_end_19 : decode cX12_end 19 = .ok (.iconst 1, 1) := by decide +kernel
theorem dX12_end_20 : decode cX12_end 20 = .ok (.ireturn, 1) := by decide +kernel
theorem zy_X12_end : zYv yX12_end cX12_end 2 (some .boolean) 1 := ⟨zw_1554, zw_1555, zw_12, zw_1556, by decide, by decide, by decide⟩
theorem c_X12_end_0 {C : zC} {I : Nat → Nat → Int32} {J : Nat → Nat → Int64} {Rr : Nat → Nat → Option Nat} {D : zD} (a1 : Int32) (rr : Int32) (y_v_taped : Int32) (E : zE C RX12 cX12_end 2 (some .boolean) ({ frames := 0, cells := 0, slots := 0, locals := 0 } : Room)) (hQ : C.Q = zQi C ({ frames := 0, cells := 0, slots := 0, locals := 0 } : Room) rr ((va_up I 128 (va_up (I 128) 18 y_v_taped)), J, Rr, D)) (v_taped : Int32) (h : pM_end a1 v_taped = some (rr, y_v_taped)) : zB C (0, 0) 0 [(0, .ref (C.X.1 + 128)), (1, .int a1)] [] ((va_up I 128 (va_up (I 128) 18 v_taped)), J, Rr, D) := by
  refine zb_iload_n E dX12_end_0 1 rfl rfl ?_
  refine zb_if_lt E dX12_end_1 (tgt := 12) rfl (fun hc => ?_) (fun hc => ?_)
  · have h := if_t h hc
    refine zb_iconst E dX12_end_12 (v := 0) rfl ?_
    obtain ⟨rfl, rfl⟩ := zinj2 h
    exact zb_zret E hQ (ty := .boolean) rfl rfl ⟨Nat.zero_le _, Nat.zero_le _⟩ dX12_end_13
  · have h := if_f h hc
    refine zb_iload_n E dX12_end_4 1 rfl rfl ?_
    refine zb_aload_n E dX12_end_5 0 rfl rfl ?_
    refine zb_get E 128 (by decide) (zF_128 C.X) rfl zin12 18 (by decide) zw_1186 (v := .int v_taped) rfl dX12_end_6 ?_
    refine zb_icmp_le E dX12_end_9 (tgt := 14) rfl (fun hc => ?_) (fun hc => ?_)
    · have h := if_t h hc
      refine zb_aload_n E dX12_end_14 0 rfl rfl ?_
      refine zb_iload_n E dX12_end_15 1 rfl rfl ?_
      refine zb_put E 128 (by decide) (zF_128 C.X) rfl zin12 18 (by decide) zw_1186 tyX12 tyX12_ok nmX12 rfl rfl rfl (I2 := (va_up I 128 (va_up (I 128) 18 a1))) (J2 := J) ((zset12_18 C.X (va_up (I 128) 18 v_taped) (J 128) a1).trans (congrArg (fun g => zf12 C.X g (J 128)) zn1)) (by rw [zflen12]; decide) (fun j hj => ⟨(zup_n hj).trans (zup_n hj).symm, rfl⟩) dX12_end_16 ?_
      refine zb_iconst E dX12_end_19 (v := 1) rfl ?_
      obtain ⟨rfl, rfl⟩ := zinj2 h
      exact zb_zret E hQ (ty := .boolean) rfl rfl ⟨Nat.zero_le _, Nat.zero_le _⟩ dX12_end_20
    · have h := if_f h hc
      refine zb_iconst E dX12_end_12 (v := 0) rfl ?_
      obtain ⟨rfl, rfl⟩ := zinj2 h
      exact zb_zret E hQ (ty := .boolean) rfl rfl ⟨Nat.zero_le _, Nat.zero_le _⟩ dX12_end_13
theorem c_X12_end {l : Launch} {X : zX} {I : Nat → Nat → Int32} {J : Nat → Nat → Int64} {Rr : Nat → Nat → Option Nat} {D : zD} {a1 : Int32} (oI128 : Nat → Int32) (eoI128 : I 128 = oI128) (v_taped : Int32) (e_v_taped : I 128 18 = v_taped) {rr : Int32} {y_v_taped : Int32} (h : pM_end a1 v_taped = some (rr, y_v_taped)) : zMi l yX12_end cX12_end 2 (some .boolean) ({ frames := 0, cells := 0, slots := 0, locals := 0 } : Room) X [.ref (X.1 + 128), .int a1] (I, J, Rr, D) rr ((va_up I 128 (va_up oI128 18 y_v_taped)), J, Rr, D) := by
  subst eoI128
  refine zMi.of (by decide) (Nat.le_of_ble_eq_true rfl) (fun C E hl hX hQ => ?_)
  subst hl
  subst hX
  have eI0 : (va_up I 128 (va_up (I 128) 18 v_taped)) = I := by rw [zup_idE e_v_taped, zup_id]
  have eJ0 : J = J := rfl
  refine zb_S (S2 := ((va_up I 128 (va_up (I 128) 18 v_taped)), J, Rr, D)) (zS_eq eI0.symm eJ0.symm) ?_
  exact c_X12_end_0 a1 rr y_v_taped E hQ v_taped h
-- ChequeredClothModel.fail
theorem dX12_fail_0 : decode cX12_fail 0 = .ok (.aload_n 0, 1) := by decide +kernel
theorem dX12_fail_1 : decode cX12_fail 1 = .ok (.getfield 275, 3) := by decide +kernel
theorem dX12_fail_4 : decode cX12_fail 4 = .ok (.ifCond .eq 4, 3) := by decide +kernel
theorem dX12_fail_7 : decode cX12_fail 7 = .ok (.return_, 1) := by decide +kernel
theorem dX12_fail_8 : decode cX12_fail 8 = .ok (.aload_n 0, 1) := by decide +kernel
theorem dX12_fail_9 : decode cX12_fail 9 = .ok (.iload_n 1, 1) := by decide +kernel
theorem dX12_fail_10 : decode cX12_fail 10 = .ok (.putfield 275, 3) := by decide +kernel
theorem dX12_fail_13 : decode cX12_fail 13 = .ok (.aload_n 0, 1) := by decide +kernel
theorem dX12_fail_14 : decode cX12_fail 14 = .ok (.iload_n 2, 1) := by decide +kernel
theorem dX12_fail_15 : decode cX12_fail 15 = .ok (.putfield 278, 3) := by decide +kernel
theorem dX12_fail_18 : decode cX12_fail 18 = .ok (.return_, 1) := by decide +kernel
theorem zy_X12_fail : zYv yX12_fail cX12_fail 3 none 2 := ⟨zw_1579, zws_58, zw_12, zw_1580, by decide, by decide, by decide⟩
theorem c_X12_fail_0 {C : zC} {I : Nat → Nat → Int32} {J : Nat → Nat → Int64} {Rr : Nat → Nat → Option Nat} {D : zD} (a1 : Int32) (a2 : Int32) (y_v_bad : Int32) (y_v_badPlace : Int32) (E : zE C RX12 cX12_fail 3 none ({ frames := 0, cells := 0, slots := 0, locals := 0 } : Room)) (hQ : C.Q = zQv C ({ frames := 0, cells := 0, slots := 0, locals := 0 } : Room) ((va_up I 128 (va_up (va_up (I 128) 22 y_v_bad) 23 y_v_badPlace)), J, Rr, D)) (v_bad : Int32) (v_badPlace : Int32) (h : pM_fail a1 a2 v_bad v_badPlace = some (y_v_bad, y_v_badPlace)) : zB C (0, 0) 0 [(0, .ref (C.X.1 + 128)), (1, .int a1), (2, .int a2)] [] ((va_up I 128 (va_up (va_up (I 128) 22 v_bad) 23 v_badPlace)), J, Rr, D) := by
  refine zb_aload_n E dX12_fail_0 0 rfl rfl ?_
  refine zb_get E 128 (by decide) (zF_128 C.X) rfl zin12 22 (by decide) zw_1190 (v := .int v_bad) rfl dX12_fail_1 ?_
  refine zb_if_eq E dX12_fail_4 (tgt := 8) rfl (fun hc => ?_) (fun hc => ?_)
  · have h := if_t h hc
    refine zb_aload_n E dX12_fail_8 0 rfl rfl ?_
    refine zb_iload_n E dX12_fail_9 1 rfl rfl ?_
    refine zb_put E 128 (by decide) (zF_128 C.X) rfl zin12 22 (by decide) zw_1190 tyX12 tyX12_ok nmX12 rfl rfl rfl (I2 := (va_up I 128 (va_up (va_up (I 128) 22 a1) 23 v_badPlace))) (J2 := J) ((zset12_22 C.X (va_up (va_up (I 128) 22 v_bad) 23 v_badPlace) (J 128) a1).trans (congrArg (fun g => zf12 C.X g (J 128)) (zn2 (by decide : (23 : Nat) ≠ 22)))) (by rw [zflen12]; decide) (fun j hj => ⟨(zup_n hj).trans (zup_n hj).symm, rfl⟩) dX12_fail_10 ?_
    refine zb_aload_n E dX12_fail_13 0 rfl rfl ?_
    refine zb_iload_n E dX12_fail_14 2 rfl rfl ?_
    refine zb_put E 128 (by decide) (zF_128 C.X) rfl zin12 23 (by decide) zw_1191 tyX12 tyX12_ok nmX12 rfl rfl rfl (I2 := (va_up I 128 (va_up (va_up (I 128) 22 a1) 23 a2))) (J2 := J) ((zset12_23 C.X (va_up (va_up (I 128) 22 a1) 23 v_badPlace) (J 128) a2).trans (congrArg (fun g => zf12 C.X g (J 128)) zn1)) (by rw [zflen12]; decide) (fun j hj => ⟨(zup_n hj).trans (zup_n hj).symm, rfl⟩) dX12_fail_15 ?_
    obtain ⟨rfl, rfl⟩ := zinj2 h
    exact zb_vret E hQ rfl ⟨Nat.zero_le _, Nat.zero_le _⟩ dX12_fail_18
  · have h := if_f h hc
    obtain ⟨rfl, rfl⟩ := zinj2 h
    exact zb_vret E hQ rfl ⟨Nat.zero_le _, Nat.zero_le _⟩ dX12_fail_7
theorem c_X12_fail {l : Launch} {X : zX} {I : Nat → Nat → Int32} {J : Nat → Nat → Int64} {Rr : Nat → Nat → Option Nat} {D : zD} {a1 : Int32} {a2 : Int32} (oI128 : Nat → Int32) (eoI128 : I 128 = oI128) (v_bad : Int32) (e_v_bad : I 128 22 = v_bad) (v_badPlace : Int32) (e_v_badPlace : I 128 23 = v_badPlace) {y_v_bad : Int32} {y_v_badPlace : Int32} (h : pM_fail a1 a2 v_bad v_badPlace = some (y_v_bad, y_v_badPlace)) : zMv l yX12_fail cX12_fail 3 none ({ frames := 0, cells := 0, slots := 0, locals := 0 } : Room) X [.ref (X.1 + 128), .int a1, .int a2] (I, J, Rr, D) ((va_up I 128 (va_up (va_up oI128 22 y_v_bad) 23 y_v_badPlace)), J, Rr, D) := by
  subst eoI128
  refine zMv.of (by decide) (Nat.le_of_ble_eq_true rfl) (fun C E hl hX hQ => ?_)
  subst hl
  subst hX
  have eI0 : (va_up I 128 (va_up (va_up (I 128) 22 v_bad) 23 v_badPlace)) = I := by rw [zup_idE e_v_bad, zup_idE e_v_badPlace, zup_id]
  have eJ0 : J = J := rfl
  refine zb_S (S2 := ((va_up I 128 (va_up (va_up (I 128) 22 v_bad) 23 v_badPlace)), J, Rr, D)) (zS_eq eI0.symm eJ0.symm) ?_
  exact c_X12_fail_0 a1 a2 y_v_bad y_v_badPlace E hQ v_bad v_badPlace h
-- ChequeredClothModel.isLetter
theorem dX12_isLetter_0 : decode cX12_isLetter 0 = .ok (.iload_n 0, 1) := by decide +kernel
theorem dX12_isLetter_1 : decode cX12_isLetter 1 = .ok (.bipush 97, 2) := by decide +kernel
theorem dX12_isLetter_3 : decode cX12_isLetter 3 = .ok (.if_icmp .lt 13, 3) := by decide +kernel
theorem dX12_isLetter_6 : decode cX12_isLetter 6 = .ok (.iload_n 0, 1) := by decide +kernel
theorem dX12_isLetter_7 : decode cX12_isLetter 7 = .ok (.bipush 122, 2) := by decide +kernel
theorem dX12_isLetter_9 : decode cX12_isLetter 9 = .ok (.if_icmp .gt 7, 3) := by decide +kernel
theorem dX12_isLetter_12 : decode cX12_isLetter 12 = .ok (.iconst 1, 1) := by decide +kernel
theorem dX12_isLetter_13 : decode cX12_isLetter 13 = .ok (.goto 4, 3) := by decide +kernel
theorem dX12_isLetter_16 : decode cX12_isLetter 16 = .ok (.iconst 0, 1) := by decide +kernel
theorem dX12_isLetter_17 : decode cX12_isLetter 17 = .ok (.ireturn, 1) := by decide +kernel
theorem zy_X12_isLetter : zYs yX12_isLetter cX12_isLetter 1 (some .boolean) 1 := ⟨zw_1590, zw_12, zw_1591, by decide, by decide, by decide⟩
theorem c_X12_isLetter_0 {C : zC} {I : Nat → Nat → Int32} {J : Nat → Nat → Int64} {Rr : Nat → Nat → Option Nat} {D : zD} (a0 : Int32) (rr : Int32) (E : zE C RX12 cX12_isLetter 1 (some .boolean) ({ frames := 0, cells := 0, slots := 0, locals := 0 } : Room)) (hQ : C.Q = zQi C ({ frames := 0, cells := 0, slots := 0, locals := 0 } : Room) rr (I, J, Rr, D)) (h : pM_isLetter a0 = some rr) : zB C (0, 0) 0 [(0, .int a0)] [] (I, J, Rr, D) := by
  refine zb_iload_n E dX12_isLetter_0 0 rfl rfl ?_
  refine zb_bipush E dX12_isLetter_1 (v := 97) rfl ?_
  refine zb_icmp_lt E dX12_isLetter_3 (tgt := 16) rfl (fun hc => ?_) (fun hc => ?_)
  · have h := if_t h hc
    refine zb_iconst E dX12_isLetter_16 (v := 0) rfl ?_
    obtain rfl := zinj1 h
    exact zb_zret E hQ (ty := .boolean) rfl rfl ⟨Nat.zero_le _, Nat.zero_le _⟩ dX12_isLetter_17
  · have h := if_f h hc
    refine zb_iload_n E dX12_isLetter_6 0 rfl rfl ?_
    refine zb_bipush E dX12_isLetter_7 (v := 122) rfl ?_
    refine zb_icmp_gt E dX12_isLetter_9 (tgt := 16) rfl (fun hc => ?_) (fun hc => ?_)
    · have h := if_t h hc
      refine zb_iconst E dX12_isLetter_16 (v := 0) rfl ?_
      obtain rfl := zinj1 h
      exact zb_zret E hQ (ty := .boolean) rfl rfl ⟨Nat.zero_le _, Nat.zero_le _⟩ dX12_isLetter_17
    · have h := if_f h hc
      refine zb_iconst E dX12_isLetter_12 (v := 1) rfl ?_
      refine zb_goto E dX12_isLetter_13 (tgt := 17) rfl ?_
      obtain rfl := zinj1 h
      exact zb_zret E hQ (ty := .boolean) rfl rfl ⟨Nat.zero_le _, Nat.zero_le _⟩ dX12_isLetter_17
theorem c_X12_isLetter {l : Launch} {X : zX} {I : Nat → Nat → Int32} {J : Nat → Nat → Int64} {Rr : Nat → Nat → Option Nat} {D : zD} {a0 : Int32} {rr : Int32} (h : pM_isLetter a0 = some rr) : zMi l yX12_isLetter cX12_isLetter 1 (some .boolean) ({ frames := 0, cells := 0, slots := 0, locals := 0 } : Room) X [.int a0] (I, J, Rr, D) rr (I, J, Rr, D) := by
  refine zMi.of (by decide) (Nat.le_of_ble_eq_true rfl) (fun C E hl hX hQ => ?_)
  subst hl
  subst hX
  have eI0 : I = I := rfl
  have eJ0 : J = J := rfl
  refine zb_S (S2 := (I, J, Rr, D)) (zS_eq eI0.symm eJ0.symm) ?_
  exact c_X12_isLetter_0 a0 rr E hQ h
-- ChequeredClothModel.isDigit
theorem dX12_isDigit_0 : decode cX12_isDigit 0 = .ok (.iload_n 0, 1) := by decide +kernel
theorem dX12_isDigit_1 : decode cX12_isDigit 1 = .ok (.bipush 48, 2) := by decide +kernel
theorem dX12_isDigit_3 : decode cX12_isDigit 3 = .ok (.if_icmp .lt 13, 3) := by decide +kernel
theorem dX12_isDigit_6 : decode cX12_isDigit 6 = .ok (.iload_n 0, 1) := by decide +kernel
theorem dX12_isDigit_7 : decode cX12_isDigit 7 = .ok (.bipush 57, 2) := by decide +kernel
theorem dX12_isDigit_9 : decode cX12_isDigit 9 = .ok (.if_icmp .gt 7, 3) := by decide +kernel
theorem dX12_isDigit_12 : decode cX12_isDigit 12 = .ok (.iconst 1, 1) := by decide +kernel
theorem dX12_isDigit_13 : decode cX12_isDigit 13 = .ok (.goto 4, 3) := by decide +kernel
theorem dX12_isDigit_16 : decode cX12_isDigit 16 = .ok (.iconst 0, 1) := by decide +kernel
theorem dX12_isDigit_17 : decode cX12_isDigit 17 = .ok (.ireturn, 1) := by decide +kernel
theorem zy_X12_isDigit : zYs yX12_isDigit cX12_isDigit 1 (some .boolean) 1 := ⟨zw_1630, zw_12, zw_1631, by decide, by decide, by decide⟩
theorem c_X12_isDigit_0 {C : zC} {I : Nat → Nat → Int32} {J : Nat → Nat → Int64} {Rr : Nat → Nat → Option Nat} {D : zD} (a0 : Int32) (rr : Int32) (E : zE C RX12 cX12_isDigit 1 (some .boolean) ({ frames := 0, cells := 0, slots := 0, locals := 0 } : Room)) (hQ : C.Q = zQi C ({ frames := 0, cells := 0, slots := 0, locals := 0 } : Room) rr (I, J, Rr, D)) (h : pM_isDigit a0 = some rr) : zB C (0, 0) 0 [(0, .int a0)] [] (I, J, Rr, D) := by
  refine zb_iload_n E dX12_isDigit_0 0 rfl rfl ?_
  refine zb_bipush E dX12_isDigit_1 (v := 48) rfl ?_
  refine zb_icmp_lt E dX12_isDigit_3 (tgt := 16) rfl (fun hc => ?_) (fun hc => ?_)
  · have h := if_t h hc
    refine zb_iconst E dX12_isDigit_16 (v := 0) rfl ?_
    obtain rfl := zinj1 h
    exact zb_zret E hQ (ty := .boolean) rfl rfl ⟨Nat.zero_le _, Nat.zero_le _⟩ dX12_isDigit_17
  · have h := if_f h hc
    refine zb_iload_n E dX12_isDigit_6 0 rfl rfl ?_
    refine zb_bipush E dX12_isDigit_7 (v := 57) rfl ?_
    refine zb_icmp_gt E dX12_isDigit_9 (tgt := 16) rfl (fun hc => ?_) (fun hc => ?_)
    · have h := if_t h hc
      refine zb_iconst E dX12_isDigit_16 (v := 0) rfl ?_
      obtain rfl := zinj1 h
      exact zb_zret E hQ (ty := .boolean) rfl rfl ⟨Nat.zero_le _, Nat.zero_le _⟩ dX12_isDigit_17
    · have h := if_f h hc
      refine zb_iconst E dX12_isDigit_12 (v := 1) rfl ?_
      refine zb_goto E dX12_isDigit_13 (tgt := 17) rfl ?_
      obtain rfl := zinj1 h
      exact zb_zret E hQ (ty := .boolean) rfl rfl ⟨Nat.zero_le _, Nat.zero_le _⟩ dX12_isDigit_17
theorem c_X12_isDigit {l : Launch} {X : zX} {I : Nat → Nat → Int32} {J : Nat → Nat → Int64} {Rr : Nat → Nat → Option Nat} {D : zD} {a0 : Int32} {rr : Int32} (h : pM_isDigit a0 = some rr) : zMi l yX12_isDigit cX12_isDigit 1 (some .boolean) ({ frames := 0, cells := 0, slots := 0, locals := 0 } : Room) X [.int a0] (I, J, Rr, D) rr (I, J, Rr, D) := by
  refine zMi.of (by decide) (Nat.le_of_ble_eq_true rfl) (fun C E hl hX hQ => ?_)
  subst hl
  subst hX
  have eI0 : I = I := rfl
  have eJ0 : J = J := rfl
  refine zb_S (S2 := (I, J, Rr, D)) (zS_eq eI0.symm eJ0.symm) ?_
  exact c_X12_isDigit_0 a0 rr E hQ h
-- ChequeredClothModel.look
theorem dX12_look_0 : decode cX12_look 0 = .ok (.aload_n 0, 1) := by decide +kernel
theorem dX12_look_1 : decode cX12_look 1 = .ok (.getfield 281, 3) := by decide +kernel
theorem dX12_look_4 : decode cX12_look 4 = .ok (.aload_n 0, 1) := by decide +kernel
theorem dX12_look_5 : decode cX12_look 5 = .ok (.getfield 284, 3) := by decide +kernel
theorem dX12_look_8 : decode cX12_look 8 = .ok (.if_icmp .ge 44, 3) := by decide +kernel
theorem dX12_look_11 : decode cX12_look 11 = .ok (.aload_n 0, 1) := by decide +kernel
theorem dX12_look_12 : decode cX12_look 12 = .ok (.getfield 63, 3) := by decide +kernel
theorem dX12_look_15 : decode cX12_look 15 = .ok (.aload_n 0, 1) := by decide +kernel
theorem dX12_look_16 : decode cX12_look 16 = .ok (.getfield 281, 3) := by decide +kernel
theorem dX12_look_19 : decode cX12_look 19 = .ok (.iaload, 1) := by decide +kernel
theorem dX12_look_20 : decode cX12_look 20 = .ok (.bipush 10, 2) := by decide +kernel
theorem dX12_look_22 : decode cX12_look 22 = .ok (.if_icmp .eq 17, 3) := by decide +kernel
theorem dX12_look_25 : decode cX12_look 25 = .ok (.aload_n 0, 1) := by decide +kernel
theorem dX12_look_26 : decode cX12_look 26 = .ok (.getfield 63, 3) := by decide +kernel
theorem dX12_look_29 : decode cX12_look 29 = .ok (.aload_n 0, 1) := by decide +kernel
theorem dX12_look_30 : decode cX12_look 30 = .ok (.getfield 281, 3) := by decide +kernel
theorem dX12_look_33 : decode cX12_look 33 = .ok (.iaload, 1) := by decide +kernel
theorem dX12_look_34 : decode cX12_look 34 = .ok (.bipush 32, 2) := by decide +kernel
theorem dX12_look_36 : decode cX12_look 36 = .ok (.if_icmp .ne 16, 3) := by decide +kernel
theorem dX12_look_39 : decode cX12_look 39 = .ok (.aload_n 0, 1) := by decide +kernel
theorem dX12_look_40 : decode cX12_look 40 = .ok (.dup, 1) := by decide +kernel
theorem dX12_look_41 : decode cX12_look 41 = .ok (.getfield 281, 3) := by decide +kernel
theorem dX12_look_44 : decode cX12_look 44 = .ok (.iconst 1, 1) := by decide +kernel
theorem dX12_look_45 : decode cX12_look 45 = .ok (.iadd, 1) := by decide +kernel
theorem dX12_look_46 : decode cX12_look 46 = .ok (.putfield 281, 3) := by decide +kernel
theorem dX12_look_49 : decode cX12_look 49 = .ok (.goto (-49), 3) := by decide +kernel
theorem dX12_look_52 : decode cX12_look 52 = .ok (.aload_n 0, 1) := by decide +kernel
theorem dX12_look_53 : decode cX12_look 53 = .ok (.getfield 281, 3) := by decide +kernel
theorem dX12_look_56 : decode cX12_look 56 = .ok (.aload_n 0, 1) := by decide +kernel
theorem dX12_look_57 : decode cX12_look 57 = .ok (.getfield 284, 3) := by decide +kernel
theorem dX12_look_60 : decode cX12_look 60 = .ok (.if_icmp .ge 15, 3) := by decide +kernel
theorem dX12_look_63 : decode cX12_look 63 = .ok (.aload_n 0, 1) := by decide +kernel
theorem dX12_look_64 : decode cX12_look 64 = .ok (.getfield 63, 3) := by decide +kernel
theorem dX12_look_67 : decode cX12_look 67 = .ok (.aload_n 0, 1) := by decide +kernel
theorem dX12_look_68 : decode cX12_look 68 = .ok (.getfield 281, 3) := by decide +kernel
theorem dX12_look_71 : decode cX12_look 71 = .ok (.iaload, 1) := by decide +kernel
theorem dX12_look_72 : decode cX12_look 72 = .ok (.goto 4, 3) := by decide +kernel
theorem dX12_look_75 : decode cX12_look 75 = .ok (.iconst (-1), 1) := by decide +kernel
theorem dX12_look_76 : decode cX12_look 76 = .ok (.ireturn, 1) := by decide +kernel
theorem zy_X12_look : zYv yX12_look cX12_look 1 (some .int) 0 := ⟨zw_1571, zws_56, zw_12, zw_1572, by decide, by decide, by decide⟩
theorem c_X12_look_b39 {C : zC} {I : Nat → Nat → Int32} {J : Nat → Nat → Int64} {Rr : Nat → Nat → Option Nat} {D : zD} (N : Nat) (v_end : Int32) (e_v_end : I 128 20 = v_end) (v_tape : (Nat → Int32)) (e_v_tape : I 143 = v_tape) (rr : Int32) (y_v_at : Int32) (E : zE C RX12 cX12_look 1 (some .int) ({ frames := 0, cells := 0, slots := 0, locals := 0 } : Room)) (hQ : C.Q = zQi C ({ frames := 0, cells := 0, slots := 0, locals := 0 } : Room) rr ((va_up I 128 (va_up (I 128) 19 y_v_at)), J, Rr, D)) (v_at : Int32) (self : Int32 → Option R_pM_look) (ih : ∀ (v_at : Int32), self v_at = some (rr, y_v_at) → zB C (0, 0) 0 [(0, .ref (C.X.1 + 128))] [] ((va_up I 128 (va_up (I 128) 19 v_at)), J, Rr, D)) (k52 : Int32 → Option R_pM_look) (hk52 : ∀ (v_at : Int32), k52 v_at = some (rr, y_v_at) → zB C (0, 0) 52 [(0, .ref (C.X.1 + 128))] [] ((va_up I 128 (va_up (I 128) 19 v_at)), J, Rr, D)) (h : pM_look_b39 N v_end v_tape self k52 v_at = some (rr, y_v_at)) : zB C (0, 0) 39 [(0, .ref (C.X.1 + 128))] [] ((va_up I 128 (va_up (I 128) 19 v_at)), J, Rr, D) := by
  refine zb_aload_n E dX12_look_39 0 rfl rfl ?_
  refine zb_dup E dX12_look_40 rfl ?_
  refine zb_get E 128 (by decide) (zF_128 C.X) rfl zin12 19 (by decide) zw_1187 (v := .int v_at) rfl dX12_look_41 ?_
  refine zb_iconst E dX12_look_44 (v := 1) rfl ?_
  refine zb_iadd E dX12_look_45 ?_
  refine zb_put E 128 (by decide) (zF_128 C.X) rfl zin12 19 (by decide) zw_1187 tyX12 tyX12_ok nmX12 rfl rfl rfl (I2 := (va_up I 128 (va_up (I 128) 19 (v_at + 1)))) (J2 := J) ((zset12_19 C.X (va_up (I 128) 19 v_at) (J 128) (v_at + 1)).trans (congrArg (fun g => zf12 C.X g (J 128)) zn1)) (by rw [zflen12]; decide) (fun j hj => ⟨(zup_n hj).trans (zup_n hj).symm, rfl⟩) dX12_look_46 ?_
  refine zb_goto E dX12_look_49 (tgt := 0) rfl ?_
  exact ih (v_at + 1) h
theorem c_X12_look_b0 {C : zC} {I : Nat → Nat → Int32} {J : Nat → Nat → Int64} {Rr : Nat → Nat → Option Nat} {D : zD} (N : Nat) (v_end : Int32) (e_v_end : I 128 20 = v_end) (v_tape : (Nat → Int32)) (e_v_tape : I 143 = v_tape) (rr : Int32) (y_v_at : Int32) (E : zE C RX12 cX12_look 1 (some .int) ({ frames := 0, cells := 0, slots := 0, locals := 0 } : Room)) (hQ : C.Q = zQi C ({ frames := 0, cells := 0, slots := 0, locals := 0 } : Room) rr ((va_up I 128 (va_up (I 128) 19 y_v_at)), J, Rr, D)) (k52 : Int32 → Option R_pM_look) (hk52 : ∀ (v_at : Int32), k52 v_at = some (rr, y_v_at) → zB C (0, 0) 52 [(0, .ref (C.X.1 + 128))] [] ((va_up I 128 (va_up (I 128) 19 v_at)), J, Rr, D)) : ∀ (n9 : Nat) (v_at : Int32), pM_look_b0 N v_end v_tape k52 n9 v_at = some (rr, y_v_at) → zB C (0, 0) 0 [(0, .ref (C.X.1 + 128))] [] ((va_up I 128 (va_up (I 128) 19 v_at)), J, Rr, D) := by
  refine zlp1_ind (P := fun (v_at : Int32) => zB C (0, 0) 0 [(0, .ref (C.X.1 + 128))] [] ((va_up I 128 (va_up (I 128) 19 v_at)), J, Rr, D)) (fun self ih => ?_)
  intro v_at h
  refine zb_aload_n E dX12_look_0 0 rfl rfl ?_
  refine zb_get E 128 (by decide) (zF_128 C.X) rfl zin12 19 (by decide) zw_1187 (v := .int v_at) rfl dX12_look_1 ?_
  refine zb_aload_n E dX12_look_4 0 rfl rfl ?_
  refine zb_get E 128 (by decide) (zF_128 C.X) rfl zin12 20 (by decide) zw_1188 (v := .int v_end) (by exact congrArg (fun z => some (Value.int z)) e_v_end) dX12_look_5 ?_
  refine zb_icmp_ge E dX12_look_8 (tgt := 52) rfl (fun hc => ?_) (fun hc => ?_)
  · have h := if_t h hc
    exact hk52 v_at h
  · have h := if_f h hc
    refine zb_aload_n E dX12_look_11 0 rfl rfl ?_
    refine zb_get E 128 (by decide) (zF_128 C.X) rfl zin12 17 (by decide) zw_1185 (v := .ref (C.X.1 + 143)) rfl dX12_look_12 ?_
    refine zb_aload_n E dX12_look_15 0 rfl rfl ?_
    refine zb_get E 128 (by decide) (zF_128 C.X) rfl zin12 19 (by decide) zw_1187 (v := .int v_at) rfl dX12_look_16 ?_
    obtain ⟨g1, h⟩ := gd_s h
    refine zb_iald E 143 (by decide) zF_143 (f := v_tape) (by exact e_v_tape) (ib_in g1) dX12_look_19 ?_
    refine zb_bipush E dX12_look_20 (v := 10) rfl ?_
    refine zb_icmp_eq E dX12_look_22 (tgt := 39) rfl (fun hc => ?_) (fun hc => ?_)
    · have h := if_t h hc
      exact c_X12_look_b39 N v_end e_v_end v_tape e_v_tape rr y_v_at E hQ v_at self ih k52 hk52 h
    · have h := if_f h hc
      refine zb_aload_n E dX12_look_25 0 rfl rfl ?_
      refine zb_get E 128 (by decide) (zF_128 C.X) rfl zin12 17 (by decide) zw_1185 (v := .ref (C.X.1 + 143)) rfl dX12_look_26 ?_
      refine zb_aload_n E dX12_look_29 0 rfl rfl ?_
      refine zb_get E 128 (by decide) (zF_128 C.X) rfl zin12 19 (by decide) zw_1187 (v := .int v_at) rfl dX12_look_30 ?_
      refine zb_iald E 143 (by decide) zF_143 (f := v_tape) (by exact e_v_tape) (ib_in g1) dX12_look_33 ?_
      refine zb_bipush E dX12_look_34 (v := 32) rfl ?_
      refine zb_icmp_ne E dX12_look_36 (tgt := 52) rfl (fun hc => ?_) (fun hc => ?_)
      · have h := if_f h hc
        exact hk52 v_at h
      · have h := if_t h hc
        exact c_X12_look_b39 N v_end e_v_end v_tape e_v_tape rr y_v_at E hQ v_at self ih k52 hk52 h
theorem c_X12_look_b52 {C : zC} {I : Nat → Nat → Int32} {J : Nat → Nat → Int64} {Rr : Nat → Nat → Option Nat} {D : zD} (N : Nat) (v_end : Int32) (e_v_end : I 128 20 = v_end) (v_tape : (Nat → Int32)) (e_v_tape : I 143 = v_tape) (rr : Int32) (y_v_at : Int32) (E : zE C RX12 cX12_look 1 (some .int) ({ frames := 0, cells := 0, slots := 0, locals := 0 } : Room)) (hQ : C.Q = zQi C ({ frames := 0, cells := 0, slots := 0, locals := 0 } : Room) rr ((va_up I 128 (va_up (I 128) 19 y_v_at)), J, Rr, D)) (v_at : Int32) (h : pM_look_b52 N v_end v_tape v_at = some (rr, y_v_at)) : zB C (0, 0) 52 [(0, .ref (C.X.1 + 128))] [] ((va_up I 128 (va_up (I 128) 19 v_at)), J, Rr, D) := by
  refine zb_aload_n E dX12_look_52 0 rfl rfl ?_
  refine zb_get E 128 (by decide) (zF_128 C.X) rfl zin12 19 (by decide) zw_1187 (v := .int v_at) rfl dX12_look_53 ?_
  refine zb_aload_n E dX12_look_56 0 rfl rfl ?_
  refine zb_get E 128 (by decide) (zF_128 C.X) rfl zin12 20 (by decide) zw_1188 (v := .int v_end) (by exact congrArg (fun z => some (Value.int z)) e_v_end) dX12_look_57 ?_
  refine zb_icmp_ge E dX12_look_60 (tgt := 75) rfl (fun hc => ?_) (fun hc => ?_)
  · have h := if_t h hc
    refine zb_iconst E dX12_look_75 (v := (-1)) rfl ?_
    obtain ⟨rfl, rfl⟩ := zinj2 h
    exact zb_iret E hQ rfl ⟨Nat.zero_le _, Nat.zero_le _⟩ dX12_look_76
  · have h := if_f h hc
    refine zb_aload_n E dX12_look_63 0 rfl rfl ?_
    refine zb_get E 128 (by decide) (zF_128 C.X) rfl zin12 17 (by decide) zw_1185 (v := .ref (C.X.1 + 143)) rfl dX12_look_64 ?_
    refine zb_aload_n E dX12_look_67 0 rfl rfl ?_
    refine zb_get E 128 (by decide) (zF_128 C.X) rfl zin12 19 (by decide) zw_1187 (v := .int v_at) rfl dX12_look_68 ?_
    obtain ⟨g2, h⟩ := gd_s h
    refine zb_iald E 143 (by decide) zF_143 (f := v_tape) (by exact e_v_tape) (ib_in g2) dX12_look_71 ?_
    refine zb_goto E dX12_look_72 (tgt := 76) rfl ?_
    obtain ⟨rfl, rfl⟩ := zinj2 h
    exact zb_iret E hQ rfl ⟨Nat.zero_le _, Nat.zero_le _⟩ dX12_look_76
theorem c_X12_look_0 {C : zC} {I : Nat → Nat → Int32} {J : Nat → Nat → Int64} {Rr : Nat → Nat → Option Nat} {D : zD} (N : Nat) (v_end : Int32) (e_v_end : I 128 20 = v_end) (v_tape : (Nat → Int32)) (e_v_tape : I 143 = v_tape) (rr : Int32) (y_v_at : Int32) (E : zE C RX12 cX12_look 1 (some .int) ({ frames := 0, cells := 0, slots := 0, locals := 0 } : Room)) (hQ : C.Q = zQi C ({ frames := 0, cells := 0, slots := 0, locals := 0 } : Room) rr ((va_up I 128 (va_up (I 128) 19 y_v_at)), J, Rr, D)) (v_at : Int32) (h : pM_look N v_at v_end v_tape = some (rr, y_v_at)) : zB C (0, 0) 0 [(0, .ref (C.X.1 + 128))] [] ((va_up I 128 (va_up (I 128) 19 v_at)), J, Rr, D) := by
  exact c_X12_look_b0 N v_end e_v_end v_tape e_v_tape rr y_v_at E hQ _ (fun v_at_z1 h => c_X12_look_b52 N v_end e_v_end v_tape e_v_tape rr y_v_at E hQ v_at_z1 h) _ v_at h
theorem c_X12_look {l : Launch} {X : zX} {I : Nat → Nat → Int32} {J : Nat → Nat → Int64} {Rr : Nat → Nat → Option Nat} {D : zD} {N : Nat} (oI128 : Nat → Int32) (eoI128 : I 128 = oI128) (v_end : Int32) (e_v_end : I 128 20 = v_end) (v_tape : (Nat → Int32)) (e_v_tape : I 143 = v_tape) (v_at : Int32) (e_v_at : I 128 19 = v_at) {rr : Int32} {y_v_at : Int32} (h : pM_look N v_at v_end v_tape = some (rr, y_v_at)) : zMi l yX12_look cX12_look 1 (some .int) ({ frames := 0, cells := 0, slots := 0, locals := 0 } : Room) X [.ref (X.1 + 128)] (I, J, Rr, D) rr ((va_up I 128 (va_up oI128 19 y_v_at)), J, Rr, D) := by
  subst eoI128
  refine zMi.of (by decide) (Nat.le_of_ble_eq_true rfl) (fun C E hl hX hQ => ?_)
  subst hl
  subst hX
  have eI0 : (va_up I 128 (va_up (I 128) 19 v_at)) = I := by rw [zup_idE e_v_at, zup_id]
  have eJ0 : J = J := rfl
  refine zb_S (S2 := ((va_up I 128 (va_up (I 128) 19 v_at)), J, Rr, D)) (zS_eq eI0.symm eJ0.symm) ?_
  exact c_X12_look_0 N v_end e_v_end v_tape e_v_tape rr y_v_at E hQ v_at h
-- ChequeredClothModel.isHere
theorem dX12_isHere_0 : decode cX12_isHere 0 = .ok (.aload_n 0, 1) := by decide +kernel
theorem dX12_isHere_1 : decode cX12_isHere 1 = .ok (.getfield 275, 3) := by decide +kernel
theorem dX12_isHere_4 : decode cX12_isHere 4 = .ok (.ifCond .ne 24, 3) := by decide +kernel
theorem dX12_isHere_7 : decode cX12_isHere 7 = .ok (.aload_n 0, 1) := by decide +kernel
theorem dX12_isHere_8 : decode cX12_isHere 8 = .ok (.invokevirtual 287, 3) := by decide +kernel
theorem dX12_isHere_11 : decode cX12_isHere 11 = .ok (.invokestatic 291, 3) := by decide +kernel
theorem dX12_isHere_14 : decode cX12_isHere 14 = .ok (.ifCond .eq 14, 3) := by decide +kernel
theorem dX12_isHere_17 : decode cX12_isHere 17 = .ok (.aload_n 0, 1) := by decide +kernel
theorem dX12_isHere_18 : decode cX12_isHere 18 = .ok (.getfield 281, 3) := by decide +kernel
theorem dX12_isHere_21 : decode cX12_isHere 21 = .ok (.aload_n 0, 1) := by decide +kernel
theorem dX12_isHere_22 : decode cX12_isHere 22 = .ok (.getfield 294, 3) := by decide +kernel
theorem dX12_isHere_25 : decode cX12_isHere 25 = .ok (.if_icmp .ne 5, 3) := by decide +kernel
theorem dX12_isHere_28 : decode cX12_isHere 28 = .ok (.iconst 0, 1) := by decide +kernel
theorem dX12_isHere_29 : decode cX12_isHere 29 = .ok (.ireturn, 1) := by decide +kernel
theorem dX12_isHere_30 : decode cX12_isHere 30 = .ok (.aload_n 0, 1) := by decide +kernel
theorem dX12_isHere_31 : decode cX12_isHere 31 = .ok (.getfield 281, 3) := by decide +kernel
theorem dX12_isHere_34 : decode cX12_isHere 34 = .ok (.istore_n 2, 1) := by decide +kernel
theorem dX12_isHere_35 : decode cX12_isHere 35 = .ok (.iload_n 2, 1) := by decide +kernel
theorem dX12_isHere_36 : decode cX12_isHere 36 = .ok (.aload_n 0, 1) := by decide +kernel
theorem dX12_isHere_37 : decode cX12_isHere 37 = .ok (.getfield 284, 3) := by decide +kernel
theorem dX12_isHere_40 : decode cX12_isHere 40 = .ok (.if_icmp .ge 21, 3) := by decide +kernel
theorem dX12_isHere_43 : decode cX12_isHere 43 = .ok (.aload_n 0, 1) := by decide +kernel
theorem dX12_isHere_44 : decode cX12_isHere 44 = .ok (.getfield 63, 3) := by decide +kernel
theorem dX12_isHere_47 : decode cX12_isHere 47 = .ok (.iload_n 2, 1) := by decide +kernel
theorem dX12_isHere_48 : decode cX12_isHere 48 = .ok (.iaload, 1) := by decide +kernel
theorem dX12_isHere_49 : decode cX12_isHere 49 = .ok (.invokestatic 291, 3) := by decide +kernel
theorem dX12_isHere_52 : decode cX12_isHere 52 = .ok (.ifCond .eq 9, 3) := by decide +kernel
theorem dX12_isHere_55 : decode cX12_isHere 55 = .ok (.iinc 2 1, 3) := by decide +kernel
theorem dX12_isHere_58 : decode cX12_isHere 58 = .ok (.goto (-23), 3) := by decide +kernel
theorem dX12_isHere_61 : decode cX12_isHere 61 = .ok (.iload_n 2, 1) := by decide +kernel
theorem dX12_isHere_62 : decode cX12_isHere 62 = .ok (.aload_n 0, 1) := by decide +kernel
theorem dX12_isHere_63 : decode cX12_isHere 63 = .ok (.getfield 281, 3) := by decide +kernel
theorem dX12_isHere_66 : decode cX12_isHere 66 = .ok (.isub, 1) := by decide +kernel
theorem dX12_isHere_67 : decode cX12_isHere 67 = .ok (.aload_n 1, 1) := by decide +kernel
theorem dX12_isHere_68 : decode cX12_isHere 68 = .ok (.arraylength, 1) := by decide +kernel
theorem dX12_isHere_69 : decode cX12_isHere 69 = .ok (.if_icmp .eq 5, 3) := by decide +kernel
theorem dX12_isHere_72 : decode cX12_isHere 72 = .ok (.iconst 0, 1) := by decide +kernel
theorem dX12_isHere_73 : decode cX12_isHere 73 = .ok (.ireturn, 1) := by decide +kernel
theorem dX12_isHere_74 : decode cX12_isHere 74 = .ok (.iconst 0, 1) := by decide +kernel
theorem dX12_isHere_75 : decode cX12_isHere 75 = .ok (.istore_n 3, 1) := by decide +kernel
theorem dX12_isHere_76 : decode cX12_isHere 76 = .ok (.iload_n 3, 1) := by decide +kernel
theorem dX12_isHere_77 : decode cX12_isHere 77 = .ok (.aload_n 1, 1) := by decide +kernel
theorem dX12_isHere_78 : decode cX12_isHere 78 = .ok (.arraylength, 1) := by decide +kernel
theorem dX12_isHere_79 : decode cX12_isHere 79 = .ok (.if_icmp .ge 28, 3) := by decide +kernel
theorem dX12_isHere_82 : decode cX12_isHere 82 = .ok (.aload_n 0, 1) := by decide +kernel
theorem dX12_isHere_83 : decode cX12_isHere 83 = .ok (.getfield 63, 3) := by decide +kernel
theorem dX12_isHere_86 : decode cX12_isHere 86 = .ok (.aload_n 0, 1) := by decide +kernel
theorem dX12_isHere_87 : decode cX12_isHere 87 = .ok (.getfield 281, 3) := by decide +kernel
theorem dX12_isHere_90 : decode cX12_isHere 90 = .ok (.iload_n 3, 1) := by decide +kernel
theorem dX12_isHere_91 : decode cX12_isHere 91 = .ok (.iadd, 1) := by decide +kernel
theorem dX12_isHere_92 : decode cX12_isHere 92 = .ok (.iaload, 1) := by decide +kernel
theorem dX12_isHere_93 : decode cX12_isHere 93 = .ok (.aload_n 1, 1) := by decide +kernel
theorem dX12_isHere_94 : decode cX12_isHere 94 = .ok (.iload_n 3, 1) := by decide +kernel
theorem dX12_isHere_95 : decode cX12_isHere 95 = .ok (.caload, 1) := by decide +kernel
theorem dX12_isHere_96 : decode cX12_isHere 96 = .ok (.if_icmp .eq 5, 3) := by decide +kernel
theorem dX12_isHere_99 : decode cX12_isHere 99 = .ok (.iconst 0, 1) := by decide +kernel
theorem dX12_isHere_100 : decode cX12_isHere 100 = .ok (.ireturn, 1) := by decide +kernel
theorem dX12_isHere_101 : decode cX12_isHere 101 = .ok (.iinc 3 1, 3) := by decide +kernel
theorem dX12_isHere_104 : decode cX12_isHere 104 = .ok (.goto (-28), 3) := by decide +kernel
theorem dX12_isHere_107 : decode cX12_isHere 107 = .ok (.iconst 1, 1) := by decide +kernel
theorem dX12_isHere_108 : decode cX12_isHere 108 = .ok (.ireturn, 1) := by decide +kernel
theorem zy_X12_isHere : zYv yX12_isHere cX12_isHere 4 (some .boolean) 1 := ⟨zw_1587, zws_60, zw_12, zw_1588, by decide, by decide, by decide⟩
theorem c_X12_isHere_b35 {C : zC} {I : Nat → Nat → Int32} {J : Nat → Nat → Int64} {Rr : Nat → Nat → Option Nat} {D : zD} (N : Nat) (n_a1 : Nat) (ka1 : Nat) (hka1 : ka1 < 182) (hFa1 : ∀ (X : zX) (i : Nat → Int32) (j : Nat → Int64) (r : Nat → Option Nat), zF X ka1 i j r = .inl (X.2.2.1 2, n_a1, .inl i)) (hna1 : ka1 ≠ 128) (v_a1 : (Nat → Int32)) (e_v_a1 : I ka1 = v_a1) (v_bad : Int32) (e_v_bad : I 128 22 = v_bad) (v_end : Int32) (e_v_end : I 128 20 = v_end) (v_ended : Int32) (e_v_ended : I 128 21 = v_ended) (v_tape : (Nat → Int32)) (e_v_tape : I 143 = v_tape) (rr : Int32) (y_v_at : Int32) (E : zE C RX12 cX12_isHere 4 (some .boolean) ({ frames := 1, cells := 0, slots := 0, locals := 20 } : Room)) (hQ : C.Q = zQi C ({ frames := 1, cells := 0, slots := 0, locals := 20 } : Room) rr ((va_up I 128 (va_up (I 128) 19 y_v_at)), J, Rr, D)) (v_at : Int32) (k61 : Int32 → Option R_pM_isHere) (hk61 : ∀ (x2 : Int32), k61 x2 = some (rr, y_v_at) → zB C (0, 0) 61 [(0, .ref (C.X.1 + 128)), (1, .ref (C.X.1 + ka1)), (2, .int x2)] [] ((va_up I 128 (va_up (I 128) 19 v_at)), J, Rr, D)) : ∀ (n9 : Nat) (x2 : Int32), pM_isHere_b35 N n_a1 v_a1 v_bad v_end v_ended v_tape v_at k61 n9 x2 = some (rr, y_v_at) → zB C (0, 0) 35 [(0, .ref (C.X.1 + 128)), (1, .ref (C.X.1 + ka1)), (2, .int x2)] [] ((va_up I 128 (va_up (I 128) 19 v_at)), J, Rr, D) := by
  refine zlp1_ind (P := fun (x2 : Int32) => zB C (0, 0) 35 [(0, .ref (C.X.1 + 128)), (1, .ref (C.X.1 + ka1)), (2, .int x2)] [] ((va_up I 128 (va_up (I 128) 19 v_at)), J, Rr, D)) (fun self ih => ?_)
  intro x2 h
  refine zb_iload_n E dX12_isHere_35 2 rfl rfl ?_
  refine zb_aload_n E dX12_isHere_36 0 rfl rfl ?_
  refine zb_get E 128 (by decide) (zF_128 C.X) rfl zin12 20 (by decide) zw_1188 (v := .int v_end) (by exact congrArg (fun z => some (Value.int z)) e_v_end) dX12_isHere_37 ?_
  refine zb_icmp_ge E dX12_isHere_40 (tgt := 61) rfl (fun hc => ?_) (fun hc => ?_)
  · have h := if_t h hc
    exact hk61 x2 h
  · have h := if_f h hc
    refine zb_aload_n E dX12_isHere_43 0 rfl rfl ?_
    refine zb_get E 128 (by decide) (zF_128 C.X) rfl zin12 17 (by decide) zw_1185 (v := .ref (C.X.1 + 143)) rfl dX12_isHere_44 ?_
    refine zb_iload_n E dX12_isHere_47 2 rfl rfl ?_
    obtain ⟨g3, h⟩ := gd_s h
    refine zb_iald E 143 (by decide) zF_143 (f := v_tape) (by exact e_v_tape) (ib_in g3) dX12_isHere_48 ?_
    obtain ⟨rc4, hc_49, h⟩ := bd1_s h
    refine zb_cSi E [.int (v_tape (ix x2))] zy_X12_isLetter zw_1589 (c_X12_isLetter hc_49) (by decide) rfl rfl (by first | decide | simp [Value.category]) dX12_isHere_49 (cs2 := (0, 0)) rfl ?_
    refine zb_if_eq E dX12_isHere_52 (tgt := 61) rfl (fun hc => ?_) (fun hc => ?_)
    · have h := if_t h hc
      exact hk61 x2 h
    · have h := if_f h hc
      refine zb_iinc E dX12_isHere_55 2 rfl (v := (x2 + 1)) rfl (by decide) (lv2 := [(2, .int (x2 + 1)), (0, .ref (C.X.1 + 128)), (1, .ref (C.X.1 + ka1))]) rfl ?_
      refine zb_goto E dX12_isHere_58 (tgt := 35) rfl ?_
      refine zb_sub [1, 2, 0] rfl ?_
      exact ih (x2 + 1) h
theorem c_X12_isHere_b76 {C : zC} {I : Nat → Nat → Int32} {J : Nat → Nat → Int64} {Rr : Nat → Nat → Option Nat} {D : zD} (N : Nat) (n_a1 : Nat) (ka1 : Nat) (hka1 : ka1 < 182) (hFa1 : ∀ (X : zX) (i : Nat → Int32) (j : Nat → Int64) (r : Nat → Option Nat), zF X ka1 i j r = .inl (X.2.2.1 2, n_a1, .inl i)) (hna1 : ka1 ≠ 128) (v_a1 : (Nat → Int32)) (e_v_a1 : I ka1 = v_a1) (v_bad : Int32) (e_v_bad : I 128 22 = v_bad) (v_end : Int32) (e_v_end : I 128 20 = v_end) (v_ended : Int32) (e_v_ended : I 128 21 = v_ended) (v_tape : (Nat → Int32)) (e_v_tape : I 143 = v_tape) (rr : Int32) (y_v_at : Int32) (E : zE C RX12 cX12_isHere 4 (some .boolean) ({ frames := 1, cells := 0, slots := 0, locals := 20 } : Room)) (hQ : C.Q = zQi C ({ frames := 1, cells := 0, slots := 0, locals := 20 } : Room) rr ((va_up I 128 (va_up (I 128) 19 y_v_at)), J, Rr, D)) (v_at : Int32)  : ∀ (n9 : Nat) (x3 : Int32), pM_isHere_b76 N n_a1 v_a1 v_bad v_end v_ended v_tape v_at n9 x3 = some (rr, y_v_at) → zB C (0, 0) 76 [(0, .ref (C.X.1 + 128)), (1, .ref (C.X.1 + ka1)), (3, .int x3)] [] ((va_up I 128 (va_up (I 128) 19 v_at)), J, Rr, D) := by
  refine zlp1_ind (P := fun (x3 : Int32) => zB C (0, 0) 76 [(0, .ref (C.X.1 + 128)), (1, .ref (C.X.1 + ka1)), (3, .int x3)] [] ((va_up I 128 (va_up (I 128) 19 v_at)), J, Rr, D)) (fun self ih => ?_)
  intro x3 h
  refine zb_iload_n E dX12_isHere_76 2 rfl rfl ?_
  refine zb_aload_n E dX12_isHere_77 1 rfl rfl ?_
  refine zb_alen E ka1 hka1 (hFa1 _ _ _ _) 2 rfl (v := (Int32.ofNat n_a1)) rfl dX12_isHere_78 ?_
  refine zb_icmp_ge E dX12_isHere_79 (tgt := 107) rfl (fun hc => ?_) (fun hc => ?_)
  · have h := if_t h hc
    refine zb_iconst E dX12_isHere_107 (v := 1) rfl ?_
    obtain ⟨rfl, rfl⟩ := zinj2 h
    exact zb_zret E hQ (ty := .boolean) rfl rfl ⟨Nat.zero_le _, Nat.zero_le _⟩ dX12_isHere_108
  · have h := if_f h hc
    refine zb_aload_n E dX12_isHere_82 0 rfl rfl ?_
    refine zb_get E 128 (by decide) (zF_128 C.X) rfl zin12 17 (by decide) zw_1185 (v := .ref (C.X.1 + 143)) rfl dX12_isHere_83 ?_
    refine zb_aload_n E dX12_isHere_86 0 rfl rfl ?_
    refine zb_get E 128 (by decide) (zF_128 C.X) rfl zin12 19 (by decide) zw_1187 (v := .int v_at) rfl dX12_isHere_87 ?_
    refine zb_iload_n E dX12_isHere_90 2 rfl rfl ?_
    refine zb_iadd E dX12_isHere_91 ?_
    obtain ⟨g5, h⟩ := gd_s h
    refine zb_iald E 143 (by decide) zF_143 (f := v_tape) (by exact e_v_tape) (ib_in g5) dX12_isHere_92 ?_
    refine zb_aload_n E dX12_isHere_93 1 rfl rfl ?_
    refine zb_iload_n E dX12_isHere_94 2 rfl rfl ?_
    obtain ⟨g6, h⟩ := gd_s h
    refine zb_cald E ka1 hka1 hFa1 (f := v_a1) (by exact ((zup_n hna1).trans e_v_a1)) (ib_in g6) dX12_isHere_95 ?_
    refine zb_icmp_eq E dX12_isHere_96 (tgt := 101) rfl (fun hc => ?_) (fun hc => ?_)
    · have h := if_t h hc
      refine zb_iinc E dX12_isHere_101 2 rfl (v := (x3 + 1)) rfl (by decide) (lv2 := [(3, .int (x3 + 1)), (0, .ref (C.X.1 + 128)), (1, .ref (C.X.1 + ka1))]) rfl ?_
      refine zb_goto E dX12_isHere_104 (tgt := 76) rfl ?_
      refine zb_sub [1, 2, 0] rfl ?_
      exact ih (x3 + 1) h
    · have h := if_f h hc
      refine zb_iconst E dX12_isHere_99 (v := 0) rfl ?_
      obtain ⟨rfl, rfl⟩ := zinj2 h
      exact zb_zret E hQ (ty := .boolean) rfl rfl ⟨Nat.zero_le _, Nat.zero_le _⟩ dX12_isHere_100
theorem c_X12_isHere_b61 {C : zC} {I : Nat → Nat → Int32} {J : Nat → Nat → Int64} {Rr : Nat → Nat → Option Nat} {D : zD} (N : Nat) (n_a1 : Nat) (ka1 : Nat) (hka1 : ka1 < 182) (hFa1 : ∀ (X : zX) (i : Nat → Int32) (j : Nat → Int64) (r : Nat → Option Nat), zF X ka1 i j r = .inl (X.2.2.1 2, n_a1, .inl i)) (hna1 : ka1 ≠ 128) (v_a1 : (Nat → Int32)) (e_v_a1 : I ka1 = v_a1) (v_bad : Int32) (e_v_bad : I 128 22 = v_bad) (v_end : Int32) (e_v_end : I 128 20 = v_end) (v_ended : Int32) (e_v_ended : I 128 21 = v_ended) (v_tape : (Nat → Int32)) (e_v_tape : I 143 = v_tape) (rr : Int32) (y_v_at : Int32) (E : zE C RX12 cX12_isHere 4 (some .boolean) ({ frames := 1, cells := 0, slots := 0, locals := 20 } : Room)) (hQ : C.Q = zQi C ({ frames := 1, cells := 0, slots := 0, locals := 20 } : Room) rr ((va_up I 128 (va_up (I 128) 19 y_v_at)), J, Rr, D)) (x2 : Int32) (v_at : Int32) (h : pM_isHere_b61 N n_a1 v_a1 v_bad v_end v_ended v_tape x2 v_at = some (rr, y_v_at)) : zB C (0, 0) 61 [(0, .ref (C.X.1 + 128)), (1, .ref (C.X.1 + ka1)), (2, .int x2)] [] ((va_up I 128 (va_up (I 128) 19 v_at)), J, Rr, D) := by
  refine zb_iload_n E dX12_isHere_61 2 rfl rfl ?_
  refine zb_aload_n E dX12_isHere_62 0 rfl rfl ?_
  refine zb_get E 128 (by decide) (zF_128 C.X) rfl zin12 19 (by decide) zw_1187 (v := .int v_at) rfl dX12_isHere_63 ?_
  refine zb_isub E dX12_isHere_66 ?_
  refine zb_aload_n E dX12_isHere_67 1 rfl rfl ?_
  refine zb_alen E ka1 hka1 (hFa1 _ _ _ _) 2 rfl (v := (Int32.ofNat n_a1)) rfl dX12_isHere_68 ?_
  refine zb_icmp_eq E dX12_isHere_69 (tgt := 74) rfl (fun hc => ?_) (fun hc => ?_)
  · have h := if_t h hc
    refine zb_iconst E dX12_isHere_74 (v := 0) rfl ?_
    refine zb_istore_n E dX12_isHere_75 rfl (by decide) (lv2 := [(3, .int 0), (0, .ref (C.X.1 + 128)), (1, .ref (C.X.1 + ka1)), (2, .int x2)]) rfl ?_
    refine zb_sub [1, 2, 0] rfl ?_
    exact c_X12_isHere_b76 N n_a1 ka1 hka1 hFa1 hna1 v_a1 e_v_a1 v_bad e_v_bad v_end e_v_end v_ended e_v_ended v_tape e_v_tape rr y_v_at E hQ v_at _ 0 h
  · have h := if_f h hc
    refine zb_iconst E dX12_isHere_72 (v := 0) rfl ?_
    obtain ⟨rfl, rfl⟩ := zinj2 h
    exact zb_zret E hQ (ty := .boolean) rfl rfl ⟨Nat.zero_le _, Nat.zero_le _⟩ dX12_isHere_73
theorem c_X12_isHere_0 {C : zC} {I : Nat → Nat → Int32} {J : Nat → Nat → Int64} {Rr : Nat → Nat → Option Nat} {D : zD} (N : Nat) (n_a1 : Nat) (ka1 : Nat) (hka1 : ka1 < 182) (hFa1 : ∀ (X : zX) (i : Nat → Int32) (j : Nat → Int64) (r : Nat → Option Nat), zF X ka1 i j r = .inl (X.2.2.1 2, n_a1, .inl i)) (hna1 : ka1 ≠ 128) (v_a1 : (Nat → Int32)) (e_v_a1 : I ka1 = v_a1) (v_bad : Int32) (e_v_bad : I 128 22 = v_bad) (v_end : Int32) (e_v_end : I 128 20 = v_end) (v_ended : Int32) (e_v_ended : I 128 21 = v_ended) (v_tape : (Nat → Int32)) (e_v_tape : I 143 = v_tape) (rr : Int32) (y_v_at : Int32) (E : zE C RX12 cX12_isHere 4 (some .boolean) ({ frames := 1, cells := 0, slots := 0, locals := 20 } : Room)) (hQ : C.Q = zQi C ({ frames := 1, cells := 0, slots := 0, locals := 20 } : Room) rr ((va_up I 128 (va_up (I 128) 19 y_v_at)), J, Rr, D)) (v_at : Int32) (h : pM_isHere N n_a1 v_a1 v_at v_bad v_end v_ended v_tape = some (rr, y_v_at)) : zB C (0, 0) 0 [(0, .ref (C.X.1 + 128)), (1, .ref (C.X.1 + ka1))] [] ((va_up I 128 (va_up (I 128) 19 v_at)), J, Rr, D) := by
  refine zb_aload_n E dX12_isHere_0 0 rfl rfl ?_
  refine zb_get E 128 (by decide) (zF_128 C.X) rfl zin12 22 (by decide) zw_1190 (v := .int v_bad) (by exact congrArg (fun z => some (Value.int z)) e_v_bad) dX12_isHere_1 ?_
  refine zb_if_ne E dX12_isHere_4 (tgt := 28) rfl (fun hc => ?_) (fun hc => ?_)
  · have h := if_f h hc
    refine zb_iconst E dX12_isHere_28 (v := 0) rfl ?_
    obtain ⟨rfl, rfl⟩ := zinj2 h
    exact zb_zret E hQ (ty := .boolean) rfl rfl ⟨Nat.zero_le _, Nat.zero_le _⟩ dX12_isHere_29
  · have h := if_t h hc
    refine zb_aload_n E dX12_isHere_7 0 rfl rfl ?_
    obtain ⟨rc1, v_at_c1, hc_8, h⟩ := bd2_s h
    refine zb_cVi E [] 128 zy_X12_look zw_1569 (by decide) (zF_128 _ _ _ _) rfl (c_X12_look (va_up (I 128) 19 v_at) rfl v_end (by exact e_v_end) v_tape (by exact e_v_tape) v_at rfl hc_8) (by decide) rfl rfl (by first | decide | simp [Value.category]) dX12_isHere_8 (cs2 := (0, 0)) rfl ?_
    refine zb_S (S2 := ((va_up I 128 (va_up (I 128) 19 v_at_c1)), J, Rr, D)) (zS_eq ((zcgV zn1).trans zn1) rfl) ?_
    obtain ⟨rc2, hc_11, h⟩ := bd1_s h
    refine zb_cSi E [.int rc1] zy_X12_isLetter zw_1589 (c_X12_isLetter hc_11) (by decide) rfl rfl (by first | decide | simp [Value.category]) dX12_isHere_11 (cs2 := (0, 0)) rfl ?_
    refine zb_if_eq E dX12_isHere_14 (tgt := 28) rfl (fun hc => ?_) (fun hc => ?_)
    · have h := if_t h hc
      refine zb_iconst E dX12_isHere_28 (v := 0) rfl ?_
      obtain ⟨rfl, rfl⟩ := zinj2 h
      exact zb_zret E hQ (ty := .boolean) rfl rfl ⟨Nat.zero_le _, Nat.zero_le _⟩ dX12_isHere_29
    · have h := if_f h hc
      refine zb_aload_n E dX12_isHere_17 0 rfl rfl ?_
      refine zb_get E 128 (by decide) (zF_128 C.X) rfl zin12 19 (by decide) zw_1187 (v := .int v_at_c1) rfl dX12_isHere_18 ?_
      refine zb_aload_n E dX12_isHere_21 0 rfl rfl ?_
      refine zb_get E 128 (by decide) (zF_128 C.X) rfl zin12 21 (by decide) zw_1189 (v := .int v_ended) (by exact congrArg (fun z => some (Value.int z)) e_v_ended) dX12_isHere_22 ?_
      refine zb_icmp_ne E dX12_isHere_25 (tgt := 30) rfl (fun hc => ?_) (fun hc => ?_)
      · have h := if_f h hc
        refine zb_aload_n E dX12_isHere_30 0 rfl rfl ?_
        refine zb_get E 128 (by decide) (zF_128 C.X) rfl zin12 19 (by decide) zw_1187 (v := .int v_at_c1) rfl dX12_isHere_31 ?_
        refine zb_istore_n E dX12_isHere_34 rfl (by decide) (lv2 := [(2, .int v_at_c1), (0, .ref (C.X.1 + 128)), (1, .ref (C.X.1 + ka1))]) rfl ?_
        refine zb_sub [1, 2, 0] rfl ?_
        exact c_X12_isHere_b35 N n_a1 ka1 hka1 hFa1 hna1 v_a1 e_v_a1 v_bad e_v_bad v_end e_v_end v_ended e_v_ended v_tape e_v_tape rr y_v_at E hQ v_at_c1 _ (fun x2_z1 h => c_X12_isHere_b61 N n_a1 ka1 hka1 hFa1 hna1 v_a1 e_v_a1 v_bad e_v_bad v_end e_v_end v_ended e_v_ended v_tape e_v_tape rr y_v_at E hQ x2_z1 v_at_c1 h) _ v_at_c1 h
      · have h := if_t h hc
        refine zb_iconst E dX12_isHere_28 (v := 0) rfl ?_
        obtain ⟨rfl, rfl⟩ := zinj2 h
        exact zb_zret E hQ (ty := .boolean) rfl rfl ⟨Nat.zero_le _, Nat.zero_le _⟩ dX12_isHere_29
theorem c_X12_isHere {l : Launch} {X : zX} {I : Nat → Nat → Int32} {J : Nat → Nat → Int64} {Rr : Nat → Nat → Option Nat} {D : zD} {N : Nat} {n_a1 : Nat} (ka1 : Nat) (hka1 : ka1 < 182) (hFa1 : ∀ (X : zX) (i : Nat → Int32) (j : Nat → Int64) (r : Nat → Option Nat), zF X ka1 i j r = .inl (X.2.2.1 2, n_a1, .inl i)) (hna1 : ka1 ≠ 128) (oI128 : Nat → Int32) (eoI128 : I 128 = oI128) (v_a1 : (Nat → Int32)) (e_v_a1 : I ka1 = v_a1) (v_bad : Int32) (e_v_bad : I 128 22 = v_bad) (v_end : Int32) (e_v_end : I 128 20 = v_end) (v_ended : Int32) (e_v_ended : I 128 21 = v_ended) (v_tape : (Nat → Int32)) (e_v_tape : I 143 = v_tape) (v_at : Int32) (e_v_at : I 128 19 = v_at) {rr : Int32} {y_v_at : Int32} (h : pM_isHere N n_a1 v_a1 v_at v_bad v_end v_ended v_tape = some (rr, y_v_at)) : zMi l yX12_isHere cX12_isHere 4 (some .boolean) ({ frames := 1, cells := 0, slots := 0, locals := 20 } : Room) X [.ref (X.1 + 128), .ref (X.1 + ka1)] (I, J, Rr, D) rr ((va_up I 128 (va_up oI128 19 y_v_at)), J, Rr, D) := by
  subst eoI128
  refine zMi.of (by decide) (Nat.le_of_ble_eq_true rfl) (fun C E hl hX hQ => ?_)
  subst hl
  subst hX
  have eI0 : (va_up I 128 (va_up (I 128) 19 v_at)) = I := by rw [zup_idE e_v_at, zup_id]
  have eJ0 : J = J := rfl
  refine zb_S (S2 := ((va_up I 128 (va_up (I 128) 19 v_at)), J, Rr, D)) (zS_eq eI0.symm eJ0.symm) ?_
  exact c_X12_isHere_0 N n_a1 ka1 hka1 hFa1 hna1 v_a1 e_v_a1 v_bad e_v_bad v_end e_v_end v_ended e_v_ended v_tape e_v_tape rr y_v_at E hQ v_at h
