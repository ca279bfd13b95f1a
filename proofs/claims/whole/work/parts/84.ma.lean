set_option maxHeartbeats 4000000
set_option maxRecDepth 100000
-- ChequeredClothModel.isIn
theorem dX12_isIn_0 : decode cX12_isIn 0 = .ok (.lload_n 0, 1) := by decide +kernel
theorem dX12_isIn_1 : decode cX12_isIn 1 = .ok (.lload_n 2, 1) := by decide +kernel
theorem dX12_isIn_2 : decode cX12_isIn 2 = .ok (.lcmp, 1) := by decide +kernel
theorem dX12_isIn_3 : decode cX12_isIn 3 = .ok (.ifCond .lt 14, 3) := by decide +kernel
theorem dX12_isIn_6 : decode cX12_isIn 6 = .ok (.lload_n 0, 1) := by decide +kernel
theorem dX12_isIn_7 : decode cX12_isIn 7 = .ok (.lload 4, 2) := by decide +kernel
theorem dX12_isIn_9 : decode cX12_isIn 9 = .ok (.lcmp, 1) := by decide +kernel
theorem dX12_isIn_10 : decode cX12_isIn 10 = .ok (.ifCond .gt 7, 3) := by decide +kernel
theorem dX12_isIn_13 : decode cX12_isIn 13 = .ok (.iconst 1, 1) := by decide +kernel
theorem dX12_isIn_14 : decode cX12_isIn 14 = .ok (.goto 4, 3) := by decide +kernel
theorem dX12_isIn_17 : decode cX12_isIn 17 = .ok (.iconst 0, 1) := by decide +kernel
theorem dX12_isIn_18 : decode cX12_isIn 18 = .ok (.ireturn, 1) := by decide +kernel
theorem zy_X12_isIn : zYs yX12_isIn cX12_isIn 6 (some .boolean) 3 := ⟨zw_1430, zw_12, zw_1431, by decide, by decide, by decide⟩
theorem c_X12_isIn_0 {C : zC} {I : Nat → Nat → Int32} {J : Nat → Nat → Int64} {Rr : Nat → Nat → Option Nat} {D : zD} (a0 : Int64) (a2 : Int64) (a4 : Int64) (rr : Int32) (E : zE C RX12 cX12_isIn 6 (some .boolean) ({ frames := 0, cells := 0, slots := 0, locals := 0 } : Room)) (hQ : C.Q = zQi C ({ frames := 0, cells := 0, slots := 0, locals := 0 } : Room) rr (I, J, Rr, D)) (h : pM_isIn a0 a2 a4 = some rr) : zB C (0, 0) 0 [(0, .long a0), (2, .long a2), (4, .long a4)] [] (I, J, Rr, D) := by
  refine zb_lload_n E dX12_isIn_0 0 rfl rfl ?_
  refine zb_lload_n E dX12_isIn_1 1 rfl rfl ?_
  refine zb_lcmp E dX12_isIn_2 ?_
  refine zb_if_lt E dX12_isIn_3 (tgt := 17) rfl (fun hc => ?_) (fun hc => ?_)
  · have h := if_t h hc
    refine zb_iconst E dX12_isIn_17 (v := 0) rfl ?_
    obtain rfl := zinj1 h
    exact zb_zret E hQ (ty := .boolean) rfl rfl ⟨Nat.zero_le _, Nat.zero_le _⟩ dX12_isIn_18
  · have h := if_f h hc
    refine zb_lload_n E dX12_isIn_6 0 rfl rfl ?_
    refine zb_lload E dX12_isIn_7 2 rfl ?_
    refine zb_lcmp E dX12_isIn_9 ?_
    refine zb_if_gt E dX12_isIn_10 (tgt := 17) rfl (fun hc => ?_) (fun hc => ?_)
    · have h := if_t h hc
      refine zb_iconst E dX12_isIn_17 (v := 0) rfl ?_
      obtain rfl := zinj1 h
      exact zb_zret E hQ (ty := .boolean) rfl rfl ⟨Nat.zero_le _, Nat.zero_le _⟩ dX12_isIn_18
    · have h := if_f h hc
      refine zb_iconst E dX12_isIn_13 (v := 1) rfl ?_
      refine zb_goto E dX12_isIn_14 (tgt := 18) rfl ?_
      obtain rfl := zinj1 h
      exact zb_zret E hQ (ty := .boolean) rfl rfl ⟨Nat.zero_le _, Nat.zero_le _⟩ dX12_isIn_18
theorem c_X12_isIn {l : Launch} {X : zX} {I : Nat → Nat → Int32} {J : Nat → Nat → Int64} {Rr : Nat → Nat → Option Nat} {D : zD} {a0 : Int64} {a2 : Int64} {a4 : Int64} {rr : Int32} (h : pM_isIn a0 a2 a4 = some rr) : zMi l yX12_isIn cX12_isIn 6 (some .boolean) ({ frames := 0, cells := 0, slots := 0, locals := 0 } : Room) X [.long a0, .long a2, .long a4] (I, J, Rr, D) rr (I, J, Rr, D) := by
  refine zMi.of (by decide) (Nat.le_of_ble_eq_true rfl) (fun C E hl hX hQ => ?_)
  subst hl
  subst hX
  have eI0 : I = I := rfl
  have eJ0 : J = J := rfl
  refine zb_S (S2 := (I, J, Rr, D)) (zS_eq eI0.symm eJ0.symm) ?_
  exact c_X12_isIn_0 a0 a2 a4 rr E hQ h
-- ChequeredClothModel.value
theorem dX12_value_0 : decode cX12_value 0 = .ok (.lconst 1, 1) := by decide +kernel
theorem dX12_value_1 : decode cX12_value 1 = .ok (.lstore_n 2, 1) := by decide +kernel
theorem dX12_value_2 : decode cX12_value 2 = .ok (.iconst 0, 1) := by decide +kernel
theorem dX12_value_3 : decode cX12_value 3 = .ok (.istore 4, 2) := by decide +kernel
theorem dX12_value_5 : decode cX12_value 5 = .ok (.iload 4, 2) := by decide +kernel
theorem dX12_value_7 : decode cX12_value 7 = .ok (.iload_n 1, 1) := by decide +kernel
theorem dX12_value_8 : decode cX12_value 8 = .ok (.if_icmp .ge 20, 3) := by decide +kernel
theorem dX12_value_11 : decode cX12_value 11 = .ok (.lload_n 2, 1) := by decide +kernel
theorem dX12_value_12 : decode cX12_value 12 = .ok (.aload_n 0, 1) := by decide +kernel
theorem dX12_value_13 : decode cX12_value 13 = .ok (.getfield 7, 3) := by decide +kernel
theorem dX12_value_16 : decode cX12_value 16 = .ok (.iload 4, 2) := by decide +kernel
theorem dX12_value_18 : decode cX12_value 18 = .ok (.iaload, 1) := by decide +kernel
theorem dX12_value_19 : decode cX12_value 19 = .ok (.i2l, 1) := by decide +kernel
theorem dX12_value_20 : decode cX12_value 20 = .ok (.lmul, 1) := by decide +kernel
theorem dX12_value_21 : decode cX12_value 21 = .ok (.lstore_n 2, 1) := by decide +kernel
theorem dX12_value_22 : decode cX12_value 22 = .ok (.iinc 4 1, 3) := by decide +kernel
theorem dX12_value_25 : decode cX12_value 25 = .ok (.goto (-20), 3) := by decide +kernel
theorem dX12_value_28 : decode cX12_value 28 = .ok (.lload_n 2, 1) := by decide +kernel
theorem dX12_value_29 : decode cX12_value 29 = .ok (.lreturn, 1) := by decide +kernel
theorem zy_X12_value : zYv yX12_value cX12_value 5 (some .long) 1 := ⟨zw_1443, zws_43, zw_12, zw_1444, by decide, by decide, by decide⟩
theorem c_X12_value_b5 {C : zC} {I : Nat → Nat → Int32} {J : Nat → Nat → Int64} {Rr : Nat → Nat → Option Nat} {D : zD} (N : Nat) (a1 : Int32) (v_ratio : (Nat → Int32)) (e_v_ratio : I 129 = v_ratio) (rr : Int64) (E : zE C RX12 cX12_value 5 (some .long) ({ frames := 0, cells := 0, slots := 0, locals := 0 } : Room)) (hQ : C.Q = zQl C ({ frames := 0, cells := 0, slots := 0, locals := 0 } : Room) rr (I, J, Rr, D))  : ∀ (n9 : Nat) (x2 : Int64) (x4 : Int32), pM_value_b5 N a1 v_ratio n9 x2 x4 = some rr → zB C (0, 0) 5 [(0, .ref (C.X.1 + 128)), (1, .int a1), (2, .long x2), (4, .int x4)] [] (I, J, Rr, D) := by
  refine zlp2_ind (P := fun (x2 : Int64) (x4 : Int32) => zB C (0, 0) 5 [(0, .ref (C.X.1 + 128)), (1, .int a1), (2, .long x2), (4, .int x4)] [] (I, J, Rr, D)) (fun self ih => ?_)
  intro x2 x4 h
  refine zb_iload E dX12_value_5 3 rfl ?_
  refine zb_iload_n E dX12_value_7 1 rfl rfl ?_
  refine zb_icmp_ge E dX12_value_8 (tgt := 28) rfl (fun hc => ?_) (fun hc => ?_)
  · have h := if_t h hc
    refine zb_lload_n E dX12_value_28 2 rfl rfl ?_
    obtain rfl := zinj1 h
    exact zb_lret E hQ rfl ⟨Nat.zero_le _, Nat.zero_le _⟩ dX12_value_29
  · have h := if_f h hc
    refine zb_lload_n E dX12_value_11 2 rfl rfl ?_
    refine zb_aload_n E dX12_value_12 0 rfl rfl ?_
    refine zb_get E 128 (by decide) (zF_128 C.X) rfl zin12 0 (by decide) zw_1168 (v := .ref (C.X.1 + 129)) rfl dX12_value_13 ?_
    refine zb_iload E dX12_value_16 3 rfl ?_
    obtain ⟨g1, h⟩ := gd_s h
    refine zb_iald E 129 (by decide) zF_129 (f := v_ratio) (by exact e_v_ratio) (ib_in g1) dX12_value_18 ?_
    refine zb_i2l E dX12_value_19 ?_
    refine zb_lmul E dX12_value_20 ?_
    refine zb_lstore_n E dX12_value_21 rfl (by decide) (lv2 := [(2, .long (x2 * (i2l (v_ratio (ix x4))))), (0, .ref (C.X.1 + 128)), (1, .int a1), (4, .int x4)]) rfl ?_
    refine zb_iinc E dX12_value_22 3 rfl (v := (x4 + 1)) rfl (by decide) (lv2 := [(4, .int (x4 + 1)), (2, .long (x2 * (i2l (v_ratio (ix x4))))), (0, .ref (C.X.1 + 128)), (1, .int a1)]) rfl ?_
    refine zb_goto E dX12_value_25 (tgt := 5) rfl ?_
    refine zb_sub [2, 3, 1, 0] rfl ?_
    exact ih (x2 * (i2l (v_ratio (ix x4)))) (x4 + 1) h
theorem c_X12_value_0 {C : zC} {I : Nat → Nat → Int32} {J : Nat → Nat → Int64} {Rr : Nat → Nat → Option Nat} {D : zD} (N : Nat) (a1 : Int32) (v_ratio : (Nat → Int32)) (e_v_ratio : I 129 = v_ratio) (rr : Int64) (E : zE C RX12 cX12_value 5 (some .long) ({ frames := 0, cells := 0, slots := 0, locals := 0 } : Room)) (hQ : C.Q = zQl C ({ frames := 0, cells := 0, slots := 0, locals := 0 } : Room) rr (I, J, Rr, D)) (h : pM_value N a1 v_ratio = some rr) : zB C (0, 0) 0 [(0, .ref (C.X.1 + 128)), (1, .int a1)] [] (I, J, Rr, D) := by
  refine zb_lconst E dX12_value_0 (v := 1) rfl ?_
  refine zb_lstore_n E dX12_value_1 rfl (by decide) (lv2 := [(2, .long 1), (0, .ref (C.X.1 + 128)), (1, .int a1)]) rfl ?_
  refine zb_iconst E dX12_value_2 (v := 0) rfl ?_
  refine zb_istore E dX12_value_3 (by decide) (lv2 := [(4, .int 0), (2, .long 1), (0, .ref (C.X.1 + 128)), (1, .int a1)]) rfl ?_
  refine zb_sub [2, 3, 1, 0] rfl ?_
  exact c_X12_value_b5 N a1 v_ratio e_v_ratio rr E hQ _ 1 0 h
theorem c_X12_value {l : Launch} {X : zX} {I : Nat → Nat → Int32} {J : Nat → Nat → Int64} {Rr : Nat → Nat → Option Nat} {D : zD} {N : Nat} {a1 : Int32} (v_ratio : (Nat → Int32)) (e_v_ratio : I 129 = v_ratio) {rr : Int64} (h : pM_value N a1 v_ratio = some rr) : zMl l yX12_value cX12_value 5 (some .long) ({ frames := 0, cells := 0, slots := 0, locals := 0 } : Room) X [.ref (X.1 + 128), .int a1] (I, J, Rr, D) rr (I, J, Rr, D) := by
  refine zMl.of (by decide) (Nat.le_of_ble_eq_true rfl) (fun C E hl hX hQ => ?_)
  subst hl
  subst hX
  have eI0 : I = I := rfl
  have eJ0 : J = J := rfl
  refine zb_S (S2 := (I, J, Rr, D)) (zS_eq eI0.symm eJ0.symm) ?_
  exact c_X12_value_0 N a1 v_ratio e_v_ratio rr E hQ h
-- ChequeredClothModel.plains
theorem dX12_plains_0 : decode cX12_plains 0 = .ok (.iload_n 1, 1) := by decide +kernel
theorem dX12_plains_1 : decode cX12_plains 1 = .ok (.i2l, 1) := by decide +kernel
theorem dX12_plains_2 : decode cX12_plains 2 = .ok (.lstore_n 2, 1) := by decide +kernel
theorem dX12_plains_3 : decode cX12_plains 3 = .ok (.bipush 12, 2) := by decide +kernel
theorem dX12_plains_5 : decode cX12_plains 5 = .ok (.istore 4, 2) := by decide +kernel
theorem dX12_plains_7 : decode cX12_plains 7 = .ok (.iload 4, 2) := by decide +kernel
theorem dX12_plains_9 : decode cX12_plains 9 = .ok (.ifCond .lt 34, 3) := by decide +kernel
theorem dX12_plains_12 : decode cX12_plains 12 = .ok (.aload_n 0, 1) := by decide +kernel
theorem dX12_plains_13 : decode cX12_plains 13 = .ok (.getfield 19, 3) := by decide +kernel
theorem dX12_plains_16 : decode cX12_plains 16 = .ok (.iload 4, 2) := by decide +kernel
theorem dX12_plains_18 : decode cX12_plains 18 = .ok (.lload_n 2, 1) := by decide +kernel
theorem dX12_plains_19 : decode cX12_plains 19 = .ok (.aload_n 0, 1) := by decide +kernel
theorem dX12_plains_20 : decode cX12_plains 20 = .ok (.iload 4, 2) := by decide +kernel
theorem dX12_plains_22 : decode cX12_plains 22 = .ok (.invokevirtual 193, 3) := by decide +kernel
theorem dX12_plains_25 : decode cX12_plains 25 = .ok (.ldiv, 1) := by decide +kernel
theorem dX12_plains_26 : decode cX12_plains 26 = .ok (.l2i, 1) := by decide +kernel
theorem dX12_plains_27 : decode cX12_plains 27 = .ok (.iastore, 1) := by decide +kernel
theorem dX12_plains_28 : decode cX12_plains 28 = .ok (.lload_n 2, 1) := by decide +kernel
theorem dX12_plains_29 : decode cX12_plains 29 = .ok (.aload_n 0, 1) := by decide +kernel
theorem dX12_plains_30 : decode cX12_plains 30 = .ok (.iload 4, 2) := by decide +kernel
theorem dX12_plains_32 : decode cX12_plains 32 = .ok (.invokevirtual 193, 3) := by decide +kernel
theorem dX12_plains_35 : decode cX12_plains 35 = .ok (.lrem, 1) := by decide +kernel
theorem dX12_plains_36 : decode cX12_plains 36 = .ok (.lstore_n 2, 1) := by decide +kernel
theorem dX12_plains_37 : decode cX12_plains 37 = .ok (.iinc 4 (-1), 3) := by decide +kernel
theorem dX12_plains_40 : decode cX12_plains 40 = .ok (.goto (-33), 3) := by decide +kernel
theorem dX12_plains_43 : decode cX12_plains 43 = .ok (.return_, 1) := by decide +kernel
theorem zy_X12_plains : zYv yX12_plains cX12_plains 5 none 1 := ⟨zw_1452, zws_44, zw_12, zw_1453, by decide, by decide, by decide⟩
theorem c_X12_plains_b7 {C : zC} {I : Nat → Nat → Int32} {J : Nat → Nat → Int64} {Rr : Nat → Nat → Option Nat} {D : zD} (N : Nat) (a1 : Int32) (v_ratio : (Nat → Int32)) (e_v_ratio : I 129 = v_ratio) (y_v_plain : (Nat → Int32)) (E : zE C RX12 cX12_plains 5 none ({ frames := 1, cells := 0, slots := 0, locals := 24 } : Room)) (hQ : C.Q = zQv C ({ frames := 1, cells := 0, slots := 0, locals := 24 } : Room) ((va_up I 132 y_v_plain), J, Rr, D))  : ∀ (n9 : Nat) (x2 : Int64) (x4 : Int32) (v_plain : (Nat → Int32)), pM_plains_b7 N a1 v_ratio n9 x2 x4 v_plain = some y_v_plain → zB C (0, 0) 7 [(0, .ref (C.X.1 + 128)), (2, .long x2), (4, .int x4)] [] ((va_up I 132 v_plain), J, Rr, D) := by
  refine zlp3_ind (P := fun (x2 : Int64) (x4 : Int32) (v_plain : (Nat → Int32)) => zB C (0, 0) 7 [(0, .ref (C.X.1 + 128)), (2, .long x2), (4, .int x4)] [] ((va_up I 132 v_plain), J, Rr, D)) (fun self ih => ?_)
  intro x2 x4 v_plain h
  refine zb_iload E dX12_plains_7 2 rfl ?_
  refine zb_if_lt E dX12_plains_9 (tgt := 43) rfl (fun hc => ?_) (fun hc => ?_)
  · have h := if_t h hc
    obtain rfl := zinj1 h
    exact zb_vret E hQ rfl ⟨Nat.zero_le _, Nat.zero_le _⟩ dX12_plains_43
  · have h := if_f h hc
    refine zb_aload_n E dX12_plains_12 0 rfl rfl ?_
    refine zb_get E 128 (by decide) (zF_128 C.X) rfl zin12 3 (by decide) zw_1171 (v := .ref (C.X.1 + 132)) rfl dX12_plains_13 ?_
    refine zb_iload E dX12_plains_16 2 rfl ?_
    refine zb_lload_n E dX12_plains_18 1 rfl rfl ?_
    refine zb_aload_n E dX12_plains_19 0 rfl rfl ?_
    refine zb_iload E dX12_plains_20 2 rfl ?_
    obtain ⟨rc1, hc_22, h⟩ := bd1_s h
    refine zb_cVl E [.int x4] 128 zy_X12_value zw_1441 (by decide) (zF_128 _ _ _ _) rfl (c_X12_value v_ratio (by exact e_v_ratio) hc_22) (by decide) rfl rfl (by first | decide | simp [Value.category]) dX12_plains_22 (cs2 := (0, 0)) rfl ?_
    obtain ⟨g2, h⟩ := gd_s h
    refine zb_ldiv E dX12_plains_25 (nz_l g2) ?_
    refine zb_l2i E dX12_plains_26 ?_
    obtain ⟨g3, h⟩ := gd_s h
    refine zb_iast E 132 (by decide) zF_132 (f := v_plain) rfl (ib_in g3) dX12_plains_27 (I2 := (va_up I 132 (upd v_plain (ix x4) (l2i (x2 / rc1))))) zn1 ?_
    refine zb_lload_n E dX12_plains_28 1 rfl rfl ?_
    refine zb_aload_n E dX12_plains_29 0 rfl rfl ?_
    refine zb_iload E dX12_plains_30 2 rfl ?_
    obtain ⟨rc4, hc_32, h⟩ := bd1_s h
    refine zb_cVl E [.int x4] 128 zy_X12_value zw_1441 (by decide) (zF_128 _ _ _ _) rfl (c_X12_value v_ratio (by exact e_v_ratio) hc_32) (by decide) rfl rfl (by first | decide | simp [Value.category]) dX12_plains_32 (cs2 := (0, 0)) rfl ?_
    obtain ⟨g5, h⟩ := gd_s h
    refine zb_lrem E dX12_plains_35 (nz_l g5) ?_
    refine zb_lstore_n E dX12_plains_36 rfl (by decide) (lv2 := [(2, .long (x2 - x2 / rc4 * rc4)), (0, .ref (C.X.1 + 128)), (4, .int x4)]) rfl ?_
    refine zb_iinc E dX12_plains_37 2 rfl (v := (x4 + (-1))) rfl (by decide) (lv2 := [(4, .int (x4 + (-1))), (2, .long (x2 - x2 / rc4 * rc4)), (0, .ref (C.X.1 + 128))]) rfl ?_
    refine zb_goto E dX12_plains_40 (tgt := 7) rfl ?_
    refine zb_sub [2, 1, 0] rfl ?_
    exact ih (x2 - x2 / rc4 * rc4) (x4 + (-1)) (upd v_plain (ix x4) (l2i (x2 / rc1))) h
theorem c_X12_plains_0 {C : zC} {I : Nat → Nat → Int32} {J : Nat → Nat → Int64} {Rr : Nat → Nat → Option Nat} {D : zD} (N : Nat) (a1 : Int32) (v_ratio : (Nat → Int32)) (e_v_ratio : I 129 = v_ratio) (y_v_plain : (Nat → Int32)) (E : zE C RX12 cX12_plains 5 none ({ frames := 1, cells := 0, slots := 0, locals := 24 } : Room)) (hQ : C.Q = zQv C ({ frames := 1, cells := 0, slots := 0, locals := 24 } : Room) ((va_up I 132 y_v_plain), J, Rr, D)) (v_plain : (Nat → Int32)) (h : pM_plains N a1 v_plain v_ratio = some y_v_plain) : zB C (0, 0) 0 [(0, .ref (C.X.1 + 128)), (1, .int a1)] [] ((va_up I 132 v_plain), J, Rr, D) := by
  refine zb_iload_n E dX12_plains_0 1 rfl rfl ?_
  refine zb_i2l E dX12_plains_1 ?_
  refine zb_lstore_n E dX12_plains_2 rfl (by decide) (lv2 := [(2, .long (i2l a1)), (0, .ref (C.X.1 + 128)), (1, .int a1)]) rfl ?_
  refine zb_bipush E dX12_plains_3 (v := 12) rfl ?_
  refine zb_istore E dX12_plains_5 (by decide) (lv2 := [(4, .int 12), (2, .long (i2l a1)), (0, .ref (C.X.1 + 128)), (1, .int a1)]) rfl ?_
  refine zb_sub [2, 1, 0] rfl ?_
  exact c_X12_plains_b7 N a1 v_ratio e_v_ratio y_v_plain E hQ _ (i2l a1) 12 v_plain h
theorem c_X12_plains {l : Launch} {X : zX} {I : Nat → Nat → Int32} {J : Nat → Nat → Int64} {Rr : Nat → Nat → Option Nat} {D : zD} {N : Nat} {a1 : Int32} (v_ratio : (Nat → Int32)) (e_v_ratio : I 129 = v_ratio) (v_plain : (Nat → Int32)) (e_v_plain : I 132 = v_plain) {y_v_plain : (Nat → Int32)} (h : pM_plains N a1 v_plain v_ratio = some y_v_plain) : zMv l yX12_plains cX12_plains 5 none ({ frames := 1, cells := 0, slots := 0, locals := 24 } : Room) X [.ref (X.1 + 128), .int a1] (I, J, Rr, D) ((va_up I 132 y_v_plain), J, Rr, D) := by
  refine zMv.of (by decide) (Nat.le_of_ble_eq_true rfl) (fun C E hl hX hQ => ?_)
  subst hl
  subst hX
  have eI0 : (va_up I 132 v_plain) = I := by rw [zup_idE e_v_plain]
  have eJ0 : J = J := rfl
  refine zb_S (S2 := ((va_up I 132 v_plain), J, Rr, D)) (zS_eq eI0.symm eJ0.symm) ?_
  exact c_X12_plains_0 N a1 v_ratio e_v_ratio y_v_plain E hQ v_plain h
-- ChequeredClothModel.put
theorem dX12_put_0 : decode cX12_put 0 = .ok (.iload_n 1, 1) := by decide +kernel
theorem dX12_put_1 : decode cX12_put 1 = .ok (.i2l, 1) := by decide +kernel
theorem dX12_put_2 : decode cX12_put 2 = .ok (.lconst 0, 1) := by decide +kernel
theorem dX12_put_3 : decode cX12_put 3 = .ok (.ldc2_w 197, 3) := by decide +kernel
theorem dX12_put_6 : decode cX12_put 6 = .ok (.invokestatic 199, 3) := by decide +kernel
theorem dX12_put_9 : decode cX12_put 9 = .ok (.ifCond .eq 15, 3) := by decide +kernel
theorem dX12_put_12 : decode cX12_put 12 = .ok (.iload_n 2, 1) := by decide +kernel
theorem dX12_put_13 : decode cX12_put 13 = .ok (.i2l, 1) := by decide +kernel
theorem dX12_put_14 : decode cX12_put 14 = .ok (.lconst 0, 1) := by decide +kernel
theorem dX12_put_15 : decode cX12_put 15 = .ok (.ldc2_w 203, 3) := by decide +kernel
theorem dX12_put_18 : decode cX12_put 18 = .ok (.invokestatic 199, 3) := by decide +kernel
theorem dX12_put_21 : decode cX12_put 21 = .ok (.ifCond .ne 5, 3) := by decide +kernel
theorem dX12_put_24 : decode cX12_put 24 = .ok (.iconst 0, 1) := by decide +kernel
theorem dX12_put_25 : decode cX12_put 25 = .ok (.ireturn, 1) := by decide +kernel
theorem dX12_put_26 : decode cX12_put 26 = .ok (.aload_n 0, 1) := by decide +kernel
theorem dX12_put_27 : decode cX12_put 27 = .ok (.getfield 13, 3) := by decide +kernel
theorem dX12_put_30 : decode cX12_put 30 = .ok (.iload_n 1, 1) := by decide +kernel
theorem dX12_put_31 : decode cX12_put 31 = .ok (.iload_n 2, 1) := by decide +kernel
theorem dX12_put_32 : decode cX12_put 32 = .ok (.iastore, 1) := by decide +kernel
theorem dX12_put_33 : decode cX12_put 33 = .ok (.iconst 1, 1) := by decide +kernel
theorem dX12_put_34 : decode cX12_put 34 = .ok (.ireturn, 1) := by decide +kernel
theorem zy_X12_put : zYv yX12_put cX12_put 3 (some .boolean) 2 := ⟨zw_1425, zw_1426, zw_12, zw_1427, by decide, by decide, by decide⟩
theorem c_X12_put_0 {C : zC} {I : Nat → Nat → Int32} {J : Nat → Nat → Int64} {Rr : Nat → Nat → Option Nat} {D : zD} (a1 : Int32) (a2 : Int32) (rr : Int32) (y_v_lie : (Nat → Int32)) (E : zE C RX12 cX12_put 3 (some .boolean) ({ frames := 1, cells := 0, slots := 0, locals := 25 } : Room)) (hQ : C.Q = zQi C ({ frames := 1, cells := 0, slots := 0, locals := 25 } : Room) rr ((va_up I 130 y_v_lie), J, Rr, D)) (v_lie : (Nat → Int32)) (h : pM_put a1 a2 v_lie = some (rr, y_v_lie)) : zB C (0, 0) 0 [(0, .ref (C.X.1 + 128)), (1, .int a1), (2, .int a2)] [] ((va_up I 130 v_lie), J, Rr, D) := by
  refine zb_iload_n E dX12_put_0 1 rfl rfl ?_
  refine zb_i2l E dX12_put_1 ?_
  refine zb_lconst E dX12_put_2 (v := 0) rfl ?_
  refine zb_ldc2 E dX12_put_3 (v := 12) zw_1428 ?_
  obtain ⟨rc1, hc_6, h⟩ := bd1_s h
  refine zb_cSi E [.long (i2l a1), .long 0, .long 12] zy_X12_isIn zw_1429 (c_X12_isIn hc_6) (by decide) rfl rfl (by first | decide | simp [Value.category]) dX12_put_6 (cs2 := (0, 0)) rfl ?_
  refine zb_if_eq E dX12_put_9 (tgt := 24) rfl (fun hc => ?_) (fun hc => ?_)
  · have h := if_t h hc
    refine zb_iconst E dX12_put_24 (v := 0) rfl ?_
    obtain ⟨rfl, rfl⟩ := zinj2 h
    exact zb_zret E hQ (ty := .boolean) rfl rfl ⟨Nat.zero_le _, Nat.zero_le _⟩ dX12_put_25
  · have h := if_f h hc
    refine zb_iload_n E dX12_put_12 2 rfl rfl ?_
    refine zb_i2l E dX12_put_13 ?_
    refine zb_lconst E dX12_put_14 (v := 0) rfl ?_
    refine zb_ldc2 E dX12_put_15 (v := 99) zw_1432 ?_
    obtain ⟨rc2, hc_18, h⟩ := bd1_s h
    refine zb_cSi E [.long (i2l a2), .long 0, .long 99] zy_X12_isIn zw_1429 (c_X12_isIn hc_18) (by decide) rfl rfl (by first | decide | simp [Value.category]) dX12_put_18 (cs2 := (0, 0)) rfl ?_
    refine zb_if_ne E dX12_put_21 (tgt := 26) rfl (fun hc => ?_) (fun hc => ?_)
    · have h := if_f h hc
      refine zb_aload_n E dX12_put_26 0 rfl rfl ?_
      refine zb_get E 128 (by decide) (zF_128 C.X) rfl zin12 1 (by decide) zw_1169 (v := .ref (C.X.1 + 130)) rfl dX12_put_27 ?_
      refine zb_iload_n E dX12_put_30 1 rfl rfl ?_
      refine zb_iload_n E dX12_put_31 2 rfl rfl ?_
      obtain ⟨g3, h⟩ := gd_s h
      refine zb_iast E 130 (by decide) zF_130 (f := v_lie) rfl (ib_in g3) dX12_put_32 (I2 := (va_up I 130 (upd v_lie (ix a1) a2))) zn1 ?_
      refine zb_iconst E dX12_put_33 (v := 1) rfl ?_
      obtain ⟨rfl, rfl⟩ := zinj2 h
      exact zb_zret E hQ (ty := .boolean) rfl rfl ⟨Nat.zero_le _, Nat.zero_le _⟩ dX12_put_34
    · have h := if_t h hc
      refine zb_iconst E dX12_put_24 (v := 0) rfl ?_
      obtain ⟨rfl, rfl⟩ := zinj2 h
      exact zb_zret E hQ (ty := .boolean) rfl rfl ⟨Nat.zero_le _, Nat.zero_le _⟩ dX12_put_25
theorem c_X12_put {l : Launch} {X : zX} {I : Nat → Nat → Int32} {J : Nat → Nat → Int64} {Rr : Nat → Nat → Option Nat} {D : zD} {a1 : Int32} {a2 : Int32} (v_lie : (Nat → Int32)) (e_v_lie : I 130 = v_lie) {rr : Int32} {y_v_lie : (Nat → Int32)} (h : pM_put a1 a2 v_lie = some (rr, y_v_lie)) : zMi l yX12_put cX12_put 3 (some .boolean) ({ frames := 1, cells := 0, slots := 0, locals := 25 } : Room) X [.ref (X.1 + 128), .int a1, .int a2] (I, J, Rr, D) rr ((va_up I 130 y_v_lie), J, Rr, D) := by
  refine zMi.of (by decide) (Nat.le_of_ble_eq_true rfl) (fun C E hl hX hQ => ?_)
  subst hl
  subst hX
  have eI0 : (va_up I 130 v_lie) = I := by rw [zup_idE e_v_lie]
  have eJ0 : J = J := rfl
  refine zb_S (S2 := ((va_up I 130 v_lie), J, Rr, D)) (zS_eq eI0.symm eJ0.symm) ?_
  exact c_X12_put_0 a1 a2 rr y_v_lie E hQ v_lie h
-- ChequeredClothModel.lies
theorem dX12_lies_0 : decode cX12_lies 0 = .ok (.iload_n 1, 1) := by decide +kernel
theorem dX12_lies_1 : decode cX12_lies 1 = .ok (.i2l, 1) := by decide +kernel
theorem dX12_lies_2 : decode cX12_lies 2 = .ok (.lconst 0, 1) := by decide +kernel
theorem dX12_lies_3 : decode cX12_lies 3 = .ok (.ldc2_w 197, 3) := by decide +kernel
theorem dX12_lies_6 : decode cX12_lies 6 = .ok (.invokestatic 199, 3) := by decide +kernel
theorem dX12_lies_9 : decode cX12_lies 9 = .ok (.ifCond .eq 12, 3) := by decide +kernel
theorem dX12_lies_12 : decode cX12_lies 12 = .ok (.aload_n 0, 1) := by decide +kernel
theorem dX12_lies_13 : decode cX12_lies 13 = .ok (.getfield 13, 3) := by decide +kernel
theorem dX12_lies_16 : decode cX12_lies 16 = .ok (.iload_n 1, 1) := by decide +kernel
theorem dX12_lies_17 : decode cX12_lies 17 = .ok (.iaload, 1) := by decide +kernel
theorem dX12_lies_18 : decode cX12_lies 18 = .ok (.goto 4, 3) := by decide +kernel
theorem dX12_lies_21 : decode cX12_lies 21 = .ok (.iconst (-1), 1) := by decide +kernel
theorem dX12_lies_22 : decode cX12_lies 22 = .ok (.ireturn, 1) := by decide +kernel
theorem zy_X12_lies : zYv yX12_lies cX12_lies 2 (some .int) 1 := ⟨zw_1434, zw_1435, zw_12, zw_1436, by decide, by decide, by decide⟩
theorem c_X12_lies_0 {C : zC} {I : Nat → Nat → Int32} {J : Nat → Nat → Int64} {Rr : Nat → Nat → Option Nat} {D : zD} (a1 : Int32) (v_lie : (Nat → Int32)) (e_v_lie : I 130 = v_lie) (rr : Int32) (E : zE C RX12 cX12_lies 2 (some .int) ({ frames := 1, cells := 0, slots := 0, locals := 25 } : Room)) (hQ : C.Q = zQi C ({ frames := 1, cells := 0, slots := 0, locals := 25 } : Room) rr (I, J, Rr, D)) (h : pM_lies a1 v_lie = some rr) : zB C (0, 0) 0 [(0, .ref (C.X.1 + 128)), (1, .int a1)] [] (I, J, Rr, D) := by
  refine zb_iload_n E dX12_lies_0 1 rfl rfl ?_
  refine zb_i2l E dX12_lies_1 ?_
  refine zb_lconst E dX12_lies_2 (v := 0) rfl ?_
  refine zb_ldc2 E dX12_lies_3 (v := 12) zw_1428 ?_
  obtain ⟨rc1, hc_6, h⟩ := bd1_s h
  refine zb_cSi E [.long (i2l a1), .long 0, .long 12] zy_X12_isIn zw_1429 (c_X12_isIn hc_6) (by decide) rfl rfl (by first | decide | simp [Value.category]) dX12_lies_6 (cs2 := (0, 0)) rfl ?_
  refine zb_if_eq E dX12_lies_9 (tgt := 21) rfl (fun hc => ?_) (fun hc => ?_)
  · have h := if_t h hc
    refine zb_iconst E dX12_lies_21 (v := (-1)) rfl ?_
    obtain rfl := zinj1 h
    exact zb_iret E hQ rfl ⟨Nat.zero_le _, Nat.zero_le _⟩ dX12_lies_22
  · have h := if_f h hc
    refine zb_aload_n E dX12_lies_12 0 rfl rfl ?_
    refine zb_get E 128 (by decide) (zF_128 C.X) rfl zin12 1 (by decide) zw_1169 (v := .ref (C.X.1 + 130)) rfl dX12_lies_13 ?_
    refine zb_iload_n E dX12_lies_16 1 rfl rfl ?_
    obtain ⟨g2, h⟩ := gd_s h
    refine zb_iald E 130 (by decide) zF_130 (f := v_lie) (by exact e_v_lie) (ib_in g2) dX12_lies_17 ?_
    refine zb_goto E dX12_lies_18 (tgt := 22) rfl ?_
    obtain rfl := zinj1 h
    exact zb_iret E hQ rfl ⟨Nat.zero_le _, Nat.zero_le _⟩ dX12_lies_22
theorem c_X12_lies {l : Launch} {X : zX} {I : Nat → Nat → Int32} {J : Nat → Nat → Int64} {Rr : Nat → Nat → Option Nat} {D : zD} {a1 : Int32} (v_lie : (Nat → Int32)) (e_v_lie : I 130 = v_lie) {rr : Int32} (h : pM_lies a1 v_lie = some rr) : zMi l yX12_lies cX12_lies 2 (some .int) ({ frames := 1, cells := 0, slots := 0, locals := 25 } : Room) X [.ref (X.1 + 128), .int a1] (I, J, Rr, D) rr (I, J, Rr, D) := by
  refine zMi.of (by decide) (Nat.le_of_ble_eq_true rfl) (fun C E hl hX hQ => ?_)
  subst hl
  subst hX
  have eI0 : I = I := rfl
  have eJ0 : J = J := rfl
  refine zb_S (S2 := (I, J, Rr, D)) (zS_eq eI0.symm eJ0.symm) ?_
  exact c_X12_lies_0 a1 v_lie e_v_lie rr E hQ h
-- ChequeredClothModel.worth
theorem dX12_worth_0 : decode cX12_worth 0 = .ok (.lconst 0, 1) := by decide +kernel
theorem dX12_worth_1 : decode cX12_worth 1 = .ok (.lstore_n 1, 1) := by decide +kernel
theorem dX12_worth_2 : decode cX12_worth 2 = .ok (.iconst 0, 1) := by decide +kernel
theorem dX12_worth_3 : decode cX12_worth 3 = .ok (.istore_n 3, 1) := by decide +kernel
theorem dX12_worth_4 : decode cX12_worth 4 = .ok (.iload_n 3, 1) := by decide +kernel
theorem dX12_worth_5 : decode cX12_worth 5 = .ok (.bipush 13, 2) := by decide +kernel
theorem dX12_worth_7 : decode cX12_worth 7 = .ok (.if_icmp .ge 25, 3) := by decide +kernel
theorem dX12_worth_10 : decode cX12_worth 10 = .ok (.lload_n 1, 1) := by decide +kernel
theorem dX12_worth_11 : decode cX12_worth 11 = .ok (.aload_n 0, 1) := by decide +kernel
theorem dX12_worth_12 : decode cX12_worth 12 = .ok (.getfield 13, 3) := by decide +kernel
theorem dX12_worth_15 : decode cX12_worth 15 = .ok (.iload_n 3, 1) := by decide +kernel
theorem dX12_worth_16 : decode cX12_worth 16 = .ok (.iaload, 1) := by decide +kernel
theorem dX12_worth_17 : decode cX12_worth 17 = .ok (.i2l, 1) := by decide +kernel
theorem dX12_worth_18 : decode cX12_worth 18 = .ok (.aload_n 0, 1) := by decide +kernel
theorem dX12_worth_19 : decode cX12_worth 19 = .ok (.iload_n 3, 1) := by decide +kernel
theorem dX12_worth_20 : decode cX12_worth 20 = .ok (.invokevirtual 193, 3) := by decide +kernel
theorem dX12_worth_23 : decode cX12_worth 23 = .ok (.lmul, 1) := by decide +kernel
theorem dX12_worth_24 : decode cX12_worth 24 = .ok (.ladd, 1) := by decide +kernel
theorem dX12_worth_25 : decode cX12_worth 25 = .ok (.lstore_n 1, 1) := by decide +kernel
theorem dX12_worth_26 : decode cX12_worth 26 = .ok (.iinc 3 1, 3) := by decide +kernel
theorem dX12_worth_29 : decode cX12_worth 29 = .ok (.goto (-25), 3) := by decide +kernel
theorem dX12_worth_32 : decode cX12_worth 32 = .ok (.lload_n 1, 1) := by decide +kernel
theorem dX12_worth_33 : decode cX12_worth 33 = .ok (.lreturn, 1) := by decide +kernel
theorem zy_X12_worth : zYv yX12_worth cX12_worth 4 (some .long) 0 := ⟨zw_1438, zw_1439, zw_12, zw_1440, by decide, by decide, by decide⟩
theorem c_X12_worth_b4 {C : zC} {I : Nat → Nat → Int32} {J : Nat → Nat → Int64} {Rr : Nat → Nat → Option Nat} {D : zD} (N : Nat) (v_lie : (Nat → Int32)) (e_v_lie : I 130 = v_lie) (v_ratio : (Nat → Int32)) (e_v_ratio : I 129 = v_ratio) (rr : Int64) (E : zE C RX12 cX12_worth 4 (some .long) ({ frames := 1, cells := 0, slots := 0, locals := 24 } : Room)) (hQ : C.Q = zQl C ({ frames := 1, cells := 0, slots := 0, locals := 24 } : Room) rr (I, J, Rr, D))  : ∀ (n9 : Nat) (x1 : Int64) (x3 : Int32), pM_worth_b4 N v_lie v_ratio n9 x1 x3 = some rr → zB C (0, 0) 4 [(0, .ref (C.X.1 + 128)), (1, .long x1), (3, .int x3)] [] (I, J, Rr, D) := by
  refine zlp2_ind (P := fun (x1 : Int64) (x3 : Int32) => zB C (0, 0) 4 [(0, .ref (C.X.1 + 128)), (1, .long x1), (3, .int x3)] [] (I, J, Rr, D)) (fun self ih => ?_)
  intro x1 x3 h
  refine zb_iload_n E dX12_worth_4 2 rfl rfl ?_
  refine zb_bipush E dX12_worth_5 (v := 13) rfl ?_
  refine zb_icmp_ge E dX12_worth_7 (tgt := 32) rfl (fun hc => ?_) (fun hc => ?_)
  · have h := if_t h hc
    refine zb_lload_n E dX12_worth_32 1 rfl rfl ?_
    obtain rfl := zinj1 h
    exact zb_lret E hQ rfl ⟨Nat.zero_le _, Nat.zero_le _⟩ dX12_worth_33
  · have h := if_f h hc
    refine zb_lload_n E dX12_worth_10 1 rfl rfl ?_
    refine zb_aload_n E dX12_worth_11 0 rfl rfl ?_
    refine zb_get E 128 (by decide) (zF_128 C.X) rfl zin12 1 (by decide) zw_1169 (v := .ref (C.X.1 + 130)) rfl dX12_worth_12 ?_
    refine zb_iload_n E dX12_worth_15 2 rfl rfl ?_
    obtain ⟨g1, h⟩ := gd_s h
    refine zb_iald E 130 (by decide) zF_130 (f := v_lie) (by exact e_v_lie) (ib_in g1) dX12_worth_16 ?_
    refine zb_i2l E dX12_worth_17 ?_
    refine zb_aload_n E dX12_worth_18 0 rfl rfl ?_
    refine zb_iload_n E dX12_worth_19 2 rfl rfl ?_
    obtain ⟨rc2, hc_20, h⟩ := bd1_s h
    refine zb_cVl E [.int x3] 128 zy_X12_value zw_1441 (by decide) (zF_128 _ _ _ _) rfl (c_X12_value v_ratio (by exact e_v_ratio) hc_20) (by decide) rfl rfl (by first | decide | simp [Value.category]) dX12_worth_20 (cs2 := (0, 0)) rfl ?_
    refine zb_lmul E dX12_worth_23 ?_
    refine zb_ladd E dX12_worth_24 ?_
    refine zb_lstore_n E dX12_worth_25 rfl (by decide) (lv2 := [(1, .long (x1 + ((i2l (v_lie (ix x3))) * rc2))), (0, .ref (C.X.1 + 128)), (3, .int x3)]) rfl ?_
    refine zb_iinc E dX12_worth_26 2 rfl (v := (x3 + 1)) rfl (by decide) (lv2 := [(3, .int (x3 + 1)), (1, .long (x1 + ((i2l (v_lie (ix x3))) * rc2))), (0, .ref (C.X.1 + 128))]) rfl ?_
    refine zb_goto E dX12_worth_29 (tgt := 4) rfl ?_
    refine zb_sub [2, 1, 0] rfl ?_
    exact ih (x1 + ((i2l (v_lie (ix x3))) * rc2)) (x3 + 1) h
theorem c_X12_worth_0 {C : zC} {I : Nat → Nat → Int32} {J : Nat → Nat → Int64} {Rr : Nat → Nat → Option Nat} {D : zD} (N : Nat) (v_lie : (Nat → Int32)) (e_v_lie : I 130 = v_lie) (v_ratio : (Nat → Int32)) (e_v_ratio : I 129 = v_ratio) (rr : Int64) (E : zE C RX12 cX12_worth 4 (some .long) ({ frames := 1, cells := 0, slots := 0, locals := 24 } : Room)) (hQ : C.Q = zQl C ({ frames := 1, cells := 0, slots := 0, locals := 24 } : Room) rr (I, J, Rr, D)) (h : pM_worth N v_lie v_ratio = some rr) : zB C (0, 0) 0 [(0, .ref (C.X.1 + 128))] [] (I, J, Rr, D) := by
  refine zb_lconst E dX12_worth_0 (v := 0) rfl ?_
  refine zb_lstore_n E dX12_worth_1 rfl (by decide) (lv2 := [(1, .long 0), (0, .ref (C.X.1 + 128))]) rfl ?_
  refine zb_iconst E dX12_worth_2 (v := 0) rfl ?_
  refine zb_istore_n E dX12_worth_3 rfl (by decide) (lv2 := [(3, .int 0), (1, .long 0), (0, .ref (C.X.1 + 128))]) rfl ?_
  refine zb_sub [2, 1, 0] rfl ?_
  exact c_X12_worth_b4 N v_lie e_v_lie v_ratio e_v_ratio rr E hQ _ 0 0 h
theorem c_X12_worth {l : Launch} {X : zX} {I : Nat → Nat → Int32} {J : Nat → Nat → Int64} {Rr : Nat → Nat → Option Nat} {D : zD} {N : Nat} (v_lie : (Nat → Int32)) (e_v_lie : I 130 = v_lie) (v_ratio : (Nat → Int32)) (e_v_ratio : I 129 = v_ratio) {rr : Int64} (h : pM_worth N v_lie v_ratio = some rr) : zMl l yX12_worth cX12_worth 4 (some .long) ({ frames := 1, cells := 0, slots := 0, locals := 24 } : Room) X [.ref (X.1 + 128)] (I, J, Rr, D) rr (I, J, Rr, D) := by
  refine zMl.of (by decide) (Nat.le_of_ble_eq_true rfl) (fun C E hl hX hQ => ?_)
  subst hl
  subst hX
  have eI0 : I = I := rfl
  have eJ0 : J = J := rfl
  refine zb_S (S2 := (I, J, Rr, D)) (zS_eq eI0.symm eJ0.symm) ?_
  exact c_X12_worth_0 N v_lie e_v_lie v_ratio e_v_ratio rr E hQ h
-- ChequeredClothModel.plain
theorem dX12_plain_0 : decode cX12_plain 0 = .ok (.iload_n 1, 1) := by decide +kernel
theorem dX12_plain_1 : decode cX12_plain 1 = .ok (.i2l, 1) := by decide +kernel
theorem dX12_plain_2 : decode cX12_plain 2 = .ok (.lconst 0, 1) := by decide +kernel
theorem dX12_plain_3 : decode cX12_plain 3 = .ok (.ldc2_w 205, 3) := by decide +kernel
theorem dX12_plain_6 : decode cX12_plain 6 = .ok (.invokestatic 199, 3) := by decide +kernel
theorem dX12_plain_9 : decode cX12_plain 9 = .ok (.ifCond .eq 15, 3) := by decide +kernel
theorem dX12_plain_12 : decode cX12_plain 12 = .ok (.iload_n 2, 1) := by decide +kernel
theorem dX12_plain_13 : decode cX12_plain 13 = .ok (.i2l, 1) := by decide +kernel
theorem dX12_plain_14 : decode cX12_plain 14 = .ok (.lconst 0, 1) := by decide +kernel
theorem dX12_plain_15 : decode cX12_plain 15 = .ok (.ldc2_w 197, 3) := by decide +kernel
theorem dX12_plain_18 : decode cX12_plain 18 = .ok (.invokestatic 199, 3) := by decide +kernel
theorem dX12_plain_21 : decode cX12_plain 21 = .ok (.ifCond .ne 5, 3) := by decide +kernel
theorem dX12_plain_24 : decode cX12_plain 24 = .ok (.iconst (-1), 1) := by decide +kernel
theorem dX12_plain_25 : decode cX12_plain 25 = .ok (.ireturn, 1) := by decide +kernel
theorem dX12_plain_26 : decode cX12_plain 26 = .ok (.aload_n 0, 1) := by decide +kernel
theorem dX12_plain_27 : decode cX12_plain 27 = .ok (.iload_n 1, 1) := by decide +kernel
theorem dX12_plain_28 : decode cX12_plain 28 = .ok (.invokevirtual 207, 3) := by decide +kernel
theorem dX12_plain_31 : decode cX12_plain 31 = .ok (.aload_n 0, 1) := by decide +kernel
theorem dX12_plain_32 : decode cX12_plain 32 = .ok (.getfield 19, 3) := by decide +kernel
theorem dX12_plain_35 : decode cX12_plain 35 = .ok (.iload_n 2, 1) := by decide +kernel
theorem dX12_plain_36 : decode cX12_plain 36 = .ok (.iaload, 1) := by decide +kernel
theorem dX12_plain_37 : decode cX12_plain 37 = .ok (.ireturn, 1) := by decide +kernel
theorem zy_X12_plain : zYv yX12_plain cX12_plain 3 (some .int) 2 := ⟨zw_1446, zw_1447, zw_12, zw_1448, by decide, by decide, by decide⟩
theorem c_X12_plain_0 {C : zC} {I : Nat → Nat → Int32} {J : Nat → Nat → Int64} {Rr : Nat → Nat → Option Nat} {D : zD} (N : Nat) (a1 : Int32) (a2 : Int32) (v_ratio : (Nat → Int32)) (e_v_ratio : I 129 = v_ratio) (rr : Int32) (y_v_plain : (Nat → Int32)) (E : zE C RX12 cX12_plain 3 (some .int) ({ frames := 2, cells := 0, slots := 0, locals := 48 } : Room)) (hQ : C.Q = zQi C ({ frames := 2, cells := 0, slots := 0, locals := 48 } : Room) rr ((va_up I 132 y_v_plain), J, Rr, D)) (v_plain : (Nat → Int32)) (h : pM_plain N a1 a2 v_plain v_ratio = some (rr, y_v_plain)) : zB C (0, 0) 0 [(0, .ref (C.X.1 + 128)), (1, .int a1), (2, .int a2)] [] ((va_up I 132 v_plain), J, Rr, D) := by
  refine zb_iload_n E dX12_plain_0 1 rfl rfl ?_
  refine zb_i2l E dX12_plain_1 ?_
  refine zb_lconst E dX12_plain_2 (v := 0) rfl ?_
  refine zb_ldc2 E dX12_plain_3 (v := 1000000000) zw_1449 ?_
  obtain ⟨rc1, hc_6, h⟩ := bd1_s h
  refine zb_cSi E [.long (i2l a1), .long 0, .long 1000000000] zy_X12_isIn zw_1429 (c_X12_isIn hc_6) (by decide) rfl rfl (by first | decide | simp [Value.category]) dX12_plain_6 (cs2 := (0, 0)) rfl ?_
  refine zb_if_eq E dX12_plain_9 (tgt := 24) rfl (fun hc => ?_) (fun hc => ?_)
  · have h := if_t h hc
    refine zb_iconst E dX12_plain_24 (v := (-1)) rfl ?_
    obtain ⟨rfl, rfl⟩ := zinj2 h
    exact zb_iret E hQ rfl ⟨Nat.zero_le _, Nat.zero_le _⟩ dX12_plain_25
  · have h := if_f h hc
    refine zb_iload_n E dX12_plain_12 2 rfl rfl ?_
    refine zb_i2l E dX12_plain_13 ?_
    refine zb_lconst E dX12_plain_14 (v := 0) rfl ?_
    refine zb_ldc2 E dX12_plain_15 (v := 12) zw_1428 ?_
    obtain ⟨rc2, hc_18, h⟩ := bd1_s h
    refine zb_cSi E [.long (i2l a2), .long 0, .long 12] zy_X12_isIn zw_1429 (c_X12_isIn hc_18) (by decide) rfl rfl (by first | decide | simp [Value.category]) dX12_plain_18 (cs2 := (0, 0)) rfl ?_
    refine zb_if_ne E dX12_plain_21 (tgt := 26) rfl (fun hc => ?_) (fun hc => ?_)
    · have h := if_f h hc
      refine zb_aload_n E dX12_plain_26 0 rfl rfl ?_
      refine zb_iload_n E dX12_plain_27 1 rfl rfl ?_
      obtain ⟨v_plain_c3, hc_28, h⟩ := bd1_s h
      refine zb_cVv E [.int a1] 128 zy_X12_plains zw_1450 (by decide) (zF_128 _ _ _ _) rfl (c_X12_plains v_ratio (by exact e_v_ratio) v_plain rfl hc_28) (by decide) rfl rfl (by first | decide | simp [Value.category]) dX12_plain_28 (cs2 := (0, 0)) rfl ?_
      refine zb_S (S2 := ((va_up I 132 v_plain_c3), J, Rr, D)) (zS_eq zn1 rfl) ?_
      refine zb_aload_n E dX12_plain_31 0 rfl rfl ?_
      refine zb_get E 128 (by decide) (zF_128 C.X) rfl zin12 3 (by decide) zw_1171 (v := .ref (C.X.1 + 132)) rfl dX12_plain_32 ?_
      refine zb_iload_n E dX12_plain_35 2 rfl rfl ?_
      obtain ⟨g4, h⟩ := gd_s h
      refine zb_iald E 132 (by decide) zF_132 (f := v_plain_c3) rfl (ib_in g4) dX12_plain_36 ?_
      obtain ⟨rfl, rfl⟩ := zinj2 h
      exact zb_iret E hQ rfl ⟨Nat.zero_le _, Nat.zero_le _⟩ dX12_plain_37
    · have h := if_t h hc
      refine zb_iconst E dX12_plain_24 (v := (-1)) rfl ?_
      obtain ⟨rfl, rfl⟩ := zinj2 h
      exact zb_iret E hQ rfl ⟨Nat.zero_le _, Nat.zero_le _⟩ dX12_plain_25
theorem c_X12_plain {l : Launch} {X : zX} {I : Nat → Nat → Int32} {J : Nat → Nat → Int64} {Rr : Nat → Nat → Option Nat} {D : zD} {N : Nat} {a1 : Int32} {a2 : Int32} (v_ratio : (Nat → Int32)) (e_v_ratio : I 129 = v_ratio) (v_plain : (Nat → Int32)) (e_v_plain : I 132 = v_plain) {rr : Int32} {y_v_plain : (Nat → Int32)} (h : pM_plain N a1 a2 v_plain v_ratio = some (rr, y_v_plain)) : zMi l yX12_plain cX12_plain 3 (some .int) ({ frames := 2, cells := 0, slots := 0, locals := 48 } : Room) X [.ref (X.1 + 128), .int a1, .int a2] (I, J, Rr, D) rr ((va_up I 132 y_v_plain), J, Rr, D) := by
  refine zMi.of (by decide) (Nat.le_of_ble_eq_true rfl) (fun C E hl hX hQ => ?_)
  subst hl
  subst hX
  have eI0 : (va_up I 132 v_plain) = I := by rw [zup_idE e_v_plain]
  have eJ0 : J = J := rfl
  refine zb_S (S2 := ((va_up I 132 v_plain), J, Rr, D)) (zS_eq eI0.symm eJ0.symm) ?_
  exact c_X12_plain_0 N a1 a2 v_ratio e_v_ratio rr y_v_plain E hQ v_plain h
-- ChequeredClothModel.works
theorem dX12_works_0 : decode cX12_works 0 = .ok (.iconst 0, 1) := by decide +kernel
theorem dX12_works_1 : decode cX12_works 1 = .ok (.istore_n 1, 1) := by decide +kernel
theorem dX12_works_2 : decode cX12_works 2 = .ok (.iload_n 1, 1) := by decide +kernel
theorem dX12_works_3 : decode cX12_works 3 = .ok (.bipush 13, 2) := by decide +kernel
theorem dX12_works_5 : decode cX12_works 5 = .ok (.if_icmp .ge 21, 3) := by decide +kernel
theorem dX12_works_8 : decode cX12_works 8 = .ok (.aload_n 0, 1) := by decide +kernel
theorem dX12_works_9 : decode cX12_works 9 = .ok (.getfield 16, 3) := by decide +kernel
theorem dX12_works_12 : decode cX12_works 12 = .ok (.iload_n 1, 1) := by decide +kernel
theorem dX12_works_13 : decode cX12_works 13 = .ok (.aload_n 0, 1) := by decide +kernel
theorem dX12_works_14 : decode cX12_works 14 = .ok (.getfield 13, 3) := by decide +kernel
theorem dX12_works_17 : decode cX12_works 17 = .ok (.iload_n 1, 1) := by decide +kernel
theorem dX12_works_18 : decode cX12_works 18 = .ok (.iaload, 1) := by decide +kernel
theorem dX12_works_19 : decode cX12_works 19 = .ok (.iastore, 1) := by decide +kernel
theorem dX12_works_20 : decode cX12_works 20 = .ok (.iinc 1 1, 3) := by decide +kernel
theorem dX12_works_23 : decode cX12_works 23 = .ok (.goto (-21), 3) := by decide +kernel
theorem dX12_works_26 : decode cX12_works 26 = .ok (.return_, 1) := by decide +kernel
theorem zy_X12_works : zYv yX12_works cX12_works 2 none 0 := ⟨zw_1460, zws_45, zw_12, zw_1461, by decide, by decide, by decide⟩
theorem c_X12_works_b2 {C : zC} {I : Nat → Nat → Int32} {J : Nat → Nat → Int64} {Rr : Nat → Nat → Option Nat} {D : zD} (N : Nat) (v_lie : (Nat → Int32)) (e_v_lie : I 130 = v_lie) (y_v_work : (Nat → Int32)) (E : zE C RX12 cX12_works 2 none ({ frames := 0, cells := 0, slots := 0, locals := 0 } : Room)) (hQ : C.Q = zQv C ({ frames := 0, cells := 0, slots := 0, locals := 0 } : Room) ((va_up I 131 y_v_work), J, Rr, D))  : ∀ (n9 : Nat) (x1 : Int32) (v_work : (Nat → Int32)), pM_works_b2 N v_lie n9 x1 v_work = some y_v_work → zB C (0, 0) 2 [(0, .ref (C.X.1 + 128)), (1, .int x1)] [] ((va_up I 131 v_work), J, Rr, D) := by
  refine zlp2_ind (P := fun (x1 : Int32) (v_work : (Nat → Int32)) => zB C (0, 0) 2 [(0, .ref (C.X.1 + 128)), (1, .int x1)] [] ((va_up I 131 v_work), J, Rr, D)) (fun self ih => ?_)
  intro x1 v_work h
  refine zb_iload_n E dX12_works_2 1 rfl rfl ?_
  refine zb_bipush E dX12_works_3 (v := 13) rfl ?_
  refine zb_icmp_ge E dX12_works_5 (tgt := 26) rfl (fun hc => ?_) (fun hc => ?_)
  · have h := if_t h hc
    obtain rfl := zinj1 h
    exact zb_vret E hQ rfl ⟨Nat.zero_le _, Nat.zero_le _⟩ dX12_works_26
  · have h := if_f h hc
    refine zb_aload_n E dX12_works_8 0 rfl rfl ?_
    refine zb_get E 128 (by decide) (zF_128 C.X) rfl zin12 2 (by decide) zw_1170 (v := .ref (C.X.1 + 131)) rfl dX12_works_9 ?_
    refine zb_iload_n E dX12_works_12 1 rfl rfl ?_
    refine zb_aload_n E dX12_works_13 0 rfl rfl ?_
    refine zb_get E 128 (by decide) (zF_128 C.X) rfl zin12 1 (by decide) zw_1169 (v := .ref (C.X.1 + 130)) rfl dX12_works_14 ?_
    refine zb_iload_n E dX12_works_17 1 rfl rfl ?_
    obtain ⟨g1, h⟩ := gd_s h
    refine zb_iald E 130 (by decide) zF_130 (f := v_lie) (by exact e_v_lie) (ib_in g1) dX12_works_18 ?_
    refine zb_iast E 131 (by decide) zF_131 (f := v_work) rfl (ib_in g1) dX12_works_19 (I2 := (va_up I 131 (upd v_work (ix x1) (v_lie (ix x1))))) zn1 ?_
    refine zb_iinc E dX12_works_20 1 rfl (v := (x1 + 1)) rfl (by decide) (lv2 := [(1, .int (x1 + 1)), (0, .ref (C.X.1 + 128))]) rfl ?_
    refine zb_goto E dX12_works_23 (tgt := 2) rfl ?_
    refine zb_sub [1, 0] rfl ?_
    exact ih (x1 + 1) (upd v_work (ix x1) (v_lie (ix x1))) h
theorem c_X12_works_0 {C : zC} {I : Nat → Nat → Int32} {J : Nat → Nat → Int64} {Rr : Nat → Nat → Option Nat} {D : zD} (N : Nat) (v_lie : (Nat → Int32)) (e_v_lie : I 130 = v_lie) (y_v_work : (Nat → Int32)) (E : zE C RX12 cX12_works 2 none ({ frames := 0, cells := 0, slots := 0, locals := 0 } : Room)) (hQ : C.Q = zQv C ({ frames := 0, cells := 0, slots := 0, locals := 0 } : Room) ((va_up I 131 y_v_work), J, Rr, D)) (v_work : (Nat → Int32)) (h : pM_works N v_lie v_work = some y_v_work) : zB C (0, 0) 0 [(0, .ref (C.X.1 + 128))] [] ((va_up I 131 v_work), J, Rr, D) := by
  refine zb_iconst E dX12_works_0 (v := 0) rfl ?_
  refine zb_istore_n E dX12_works_1 rfl (by decide) (lv2 := [(1, .int 0), (0, .ref (C.X.1 + 128))]) rfl ?_
  refine zb_sub [1, 0] rfl ?_
  exact c_X12_works_b2 N v_lie e_v_lie y_v_work E hQ _ 0 v_work h
theorem c_X12_works {l : Launch} {X : zX} {I : Nat → Nat → Int32} {J : Nat → Nat → Int64} {Rr : Nat → Nat → Option Nat} {D : zD} {N : Nat} (v_lie : (Nat → Int32)) (e_v_lie : I 130 = v_lie) (v_work : (Nat → Int32)) (e_v_work : I 131 = v_work) {y_v_work : (Nat → Int32)} (h : pM_works N v_lie v_work = some y_v_work) : zMv l yX12_works cX12_works 2 none ({ frames := 0, cells := 0, slots := 0, locals := 0 } : Room) X [.ref (X.1 + 128)] (I, J, Rr, D) ((va_up I 131 y_v_work), J, Rr, D) := by
  refine zMv.of (by decide) (Nat.le_of_ble_eq_true rfl) (fun C E hl hX hQ => ?_)
  subst hl
  subst hX
  have eI0 : (va_up I 131 v_work) = I := by rw [zup_idE e_v_work]
  have eJ0 : J = J := rfl
  refine zb_S (S2 := ((va_up I 131 v_work), J, Rr, D)) (zS_eq eI0.symm eJ0.symm) ?_
  exact c_X12_works_0 N v_lie e_v_lie y_v_work E hQ v_work h
-- ChequeredClothModel.stays
theorem dX12_stays_0 : decode cX12_stays 0 = .ok (.iconst 0, 1) := by decide +kernel
theorem dX12_stays_1 : decode cX12_stays 1 = .ok (.istore_n 1, 1) := by decide +kernel
theorem dX12_stays_2 : decode cX12_stays 2 = .ok (.iload_n 1, 1) := by decide +kernel
theorem dX12_stays_3 : decode cX12_stays 3 = .ok (.bipush 13, 2) := by decide +kernel
theorem dX12_stays_5 : decode cX12_stays 5 = .ok (.if_icmp .ge 21, 3) := by decide +kernel
theorem dX12_stays_8 : decode cX12_stays 8 = .ok (.aload_n 0, 1) := by decide +kernel
theorem dX12_stays_9 : decode cX12_stays 9 = .ok (.getfield 13, 3) := by decide +kernel
theorem dX12_stays_12 : decode cX12_stays 12 = .ok (.iload_n 1, 1) := by decide +kernel
theorem dX12_stays_13 : decode cX12_stays 13 = .ok (.aload_n 0, 1) := by decide +kernel
theorem dX12_stays_14 : decode cX12_stays 14 = .ok (.getfield 16, 3) := by decide +kernel
theorem dX12_stays_17 : decode cX12_stays 17 = .ok (.iload_n 1, 1) := by decide +kernel
theorem dX12_stays_18 : decode cX12_stays 18 = .ok (.iaload, 1) := by decide +kernel
theorem dX12_stays_19 : decode cX12_stays 19 = .ok (.iastore, 1) := by decide +kernel
theorem dX12_stays_20 : decode cX12_stays 20 = .ok (.iinc 1 1, 3) := by decide +kernel
theorem dX12_stays_23 : decode cX12_stays 23 = .ok (.goto (-21), 3) := by decide +kernel
theorem dX12_stays_26 : decode cX12_stays 26 = .ok (.return_, 1) := by decide +kernel
theorem zy_X12_stays : zYv yX12_stays cX12_stays 2 none 0 := ⟨zw_1464, zws_46, zw_12, zw_1465, by decide, by decide, by decide⟩
theorem c_X12_stays_b2 {C : zC} {I : Nat → Nat → Int32} {J : Nat → Nat → Int64} {Rr : Nat → Nat → Option Nat} {D : zD} (N : Nat) (v_work : (Nat → Int32)) (e_v_work : I 131 = v_work) (y_v_lie : (Nat → Int32)) (E : zE C RX12 cX12_stays 2 none ({ frames := 0, cells := 0, slots := 0, locals := 0 } : Room)) (hQ : C.Q = zQv C ({ frames := 0, cells := 0, slots := 0, locals := 0 } : Room) ((va_up I 130 y_v_lie), J, Rr, D))  : ∀ (n9 : Nat) (x1 : Int32) (v_lie : (Nat → Int32)), pM_stays_b2 N v_work n9 x1 v_lie = some y_v_lie → zB C (0, 0) 2 [(0, .ref (C.X.1 + 128)), (1, .int x1)] [] ((va_up I 130 v_lie), J, Rr, D) := by
  refine zlp2_ind (P := fun (x1 : Int32) (v_lie : (Nat → Int32)) => zB C (0, 0) 2 [(0, .ref (C.X.1 + 128)), (1, .int x1)] [] ((va_up I 130 v_lie), J, Rr, D)) (fun self ih => ?_)
  intro x1 v_lie h
  refine zb_iload_n E dX12_stays_2 1 rfl rfl ?_
  refine zb_bipush E dX12_stays_3 (v := 13) rfl ?_
  refine zb_icmp_ge E dX12_stays_5 (tgt := 26) rfl (fun hc => ?_) (fun hc => ?_)
  · have h := if_t h hc
    obtain rfl := zinj1 h
    exact zb_vret E hQ rfl ⟨Nat.zero_le _, Nat.zero_le _⟩ dX12_stays_26
  · have h := if_f h hc
    refine zb_aload_n E dX12_stays_8 0 rfl rfl ?_
    refine zb_get E 128 (by decide) (zF_128 C.X) rfl zin12 1 (by decide) zw_1169 (v := .ref (C.X.1 + 130)) rfl dX12_stays_9 ?_
    refine zb_iload_n E dX12_stays_12 1 rfl rfl ?_
    refine zb_aload_n E dX12_stays_13 0 rfl rfl ?_
    refine zb_get E 128 (by decide) (zF_128 C.X) rfl zin12 2 (by decide) zw_1170 (v := .ref (C.X.1 + 131)) rfl dX12_stays_14 ?_
    refine zb_iload_n E dX12_stays_17 1 rfl rfl ?_
    obtain ⟨g1, h⟩ := gd_s h
    refine zb_iald E 131 (by decide) zF_131 (f := v_work) (by exact e_v_work) (ib_in g1) dX12_stays_18 ?_
    refine zb_iast E 130 (by decide) zF_130 (f := v_lie) rfl (ib_in g1) dX12_stays_19 (I2 := (va_up I 130 (upd v_lie (ix x1) (v_work (ix x1))))) zn1 ?_
    refine zb_iinc E dX12_stays_20 1 rfl (v := (x1 + 1)) rfl (by decide) (lv2 := [(1, .int (x1 + 1)), (0, .ref (C.X.1 + 128))]) rfl ?_
    refine zb_goto E dX12_stays_23 (tgt := 2) rfl ?_
    refine zb_sub [1, 0] rfl ?_
    exact ih (x1 + 1) (upd v_lie (ix x1) (v_work (ix x1))) h
theorem c_X12_stays_0 {C : zC} {I : Nat → Nat → Int32} {J : Nat → Nat → Int64} {Rr : Nat → Nat → Option Nat} {D : zD} (N : Nat) (v_work : (Nat → Int32)) (e_v_work : I 131 = v_work) (y_v_lie : (Nat → Int32)) (E : zE C RX12 cX12_stays 2 none ({ frames := 0, cells := 0, slots := 0, locals := 0 } : Room)) (hQ : C.Q = zQv C ({ frames := 0, cells := 0, slots := 0, locals := 0 } : Room) ((va_up I 130 y_v_lie), J, Rr, D)) (v_lie : (Nat → Int32)) (h : pM_stays N v_lie v_work = some y_v_lie) : zB C (0, 0) 0 [(0, .ref (C.X.1 + 128))] [] ((va_up I 130 v_lie), J, Rr, D) := by
  refine zb_iconst E dX12_stays_0 (v := 0) rfl ?_
  refine zb_istore_n E dX12_stays_1 rfl (by decide) (lv2 := [(1, .int 0), (0, .ref (C.X.1 + 128))]) rfl ?_
  refine zb_sub [1, 0] rfl ?_
  exact c_X12_stays_b2 N v_work e_v_work y_v_lie E hQ _ 0 v_lie h
theorem c_X12_stays {l : Launch} {X : zX} {I : Nat → Nat → Int32} {J : Nat → Nat → Int64} {Rr : Nat → Nat → Option Nat} {D : zD} {N : Nat} (v_work : (Nat → Int32)) (e_v_work : I 131 = v_work) (v_lie : (Nat → Int32)) (e_v_lie : I 130 = v_lie) {y_v_lie : (Nat → Int32)} (h : pM_stays N v_lie v_work = some y_v_lie) : zMv l yX12_stays cX12_stays 2 none ({ frames := 0, cells := 0, slots := 0, locals := 0 } : Room) X [.ref (X.1 + 128)] (I, J, Rr, D) ((va_up I 130 y_v_lie), J, Rr, D) := by
  refine zMv.of (by decide) (Nat.le_of_ble_eq_true rfl) (fun C E hl hX hQ => ?_)
  subst hl
  subst hX
  have eI0 : (va_up I 130 v_lie) = I := by rw [zup_idE e_v_lie]
  have eJ0 : J = J := rfl
  refine zb_S (S2 := ((va_up I 130 v_lie), J, Rr, D)) (zS_eq eI0.symm eJ0.symm) ?_
  exact c_X12_stays_0 N v_work e_v_work y_v_lie E hQ v_lie h
-- ChequeredClothModel.lay
theorem dX12_lay_0 : decode cX12_lay 0 = .ok (.iload_n 1, 1) := by decide +kernel
theorem dX12_lay_1 : decode cX12_lay 1 = .ok (.i2l, 1) := by decide +kernel
theorem dX12_lay_2 : decode cX12_lay 2 = .ok (.lconst 0, 1) := by decide +kernel
theorem dX12_lay_3 : decode cX12_lay 3 = .ok (.ldc2_w 205, 3) := by decide +kernel
theorem dX12_lay_6 : decode cX12_lay 6 = .ok (.invokestatic 199, 3) := by decide +kernel
theorem dX12_lay_9 : decode cX12_lay 9 = .ok (.ifCond .ne 5, 3) := by decide +kernel
theorem dX12_lay_12 : decode cX12_lay 12 = .ok (.iconst (-1), 1) := by decide +kernel
theorem dX12_lay_13 : decode cX12_lay 13 = .ok (.ireturn, 1) := by decide +kernel
theorem dX12_lay_14 : decode cX12_lay 14 = .ok (.aload_n 0, 1) := by decide +kernel
theorem dX12_lay_15 : decode cX12_lay 15 = .ok (.iload_n 1, 1) := by decide +kernel
theorem dX12_lay_16 : decode cX12_lay 16 = .ok (.invokevirtual 207, 3) := by decide +kernel
theorem dX12_lay_19 : decode cX12_lay 19 = .ok (.aload_n 0, 1) := by decide +kernel
theorem dX12_lay_20 : decode cX12_lay 20 = .ok (.invokevirtual 211, 3) := by decide +kernel
theorem dX12_lay_23 : decode cX12_lay 23 = .ok (.iconst 0, 1) := by decide +kernel
theorem dX12_lay_24 : decode cX12_lay 24 = .ok (.istore_n 2, 1) := by decide +kernel
theorem dX12_lay_25 : decode cX12_lay 25 = .ok (.iload_n 2, 1) := by decide +kernel
theorem dX12_lay_26 : decode cX12_lay 26 = .ok (.bipush 13, 2) := by decide +kernel
theorem dX12_lay_28 : decode cX12_lay 28 = .ok (.if_icmp .ge 37, 3) := by decide +kernel
theorem dX12_lay_31 : decode cX12_lay 31 = .ok (.aload_n 0, 1) := by decide +kernel
theorem dX12_lay_32 : decode cX12_lay 32 = .ok (.getfield 16, 3) := by decide +kernel
theorem dX12_lay_35 : decode cX12_lay 35 = .ok (.iload_n 2, 1) := by decide +kernel
theorem dX12_lay_36 : decode cX12_lay 36 = .ok (.dup2, 1) := by decide +kernel
theorem dX12_lay_37 : decode cX12_lay 37 = .ok (.iaload, 1) := by decide +kernel
theorem dX12_lay_38 : decode cX12_lay 38 = .ok (.aload_n 0, 1) := by decide +kernel
theorem dX12_lay_39 : decode cX12_lay 39 = .ok (.getfield 19, 3) := by decide +kernel
theorem dX12_lay_42 : decode cX12_lay 42 = .ok (.iload_n 2, 1) := by decide +kernel
theorem dX12_lay_43 : decode cX12_lay 43 = .ok (.iaload, 1) := by decide +kernel
theorem dX12_lay_44 : decode cX12_lay 44 = .ok (.iadd, 1) := by decide +kernel
theorem dX12_lay_45 : decode cX12_lay 45 = .ok (.iastore, 1) := by decide +kernel
theorem dX12_lay_46 : decode cX12_lay 46 = .ok (.aload_n 0, 1) := by decide +kernel
theorem dX12_lay_47 : decode cX12_lay 47 = .ok (.getfield 16, 3) := by decide +kernel
theorem dX12_lay_50 : decode cX12_lay 50 = .ok (.iload_n 2, 1) := by decide +kernel
theorem dX12_lay_51 : decode cX12_lay 51 = .ok (.iaload, 1) := by decide +kernel
theorem dX12_lay_52 : decode cX12_lay 52 = .ok (.bipush 99, 2) := by decide +kernel
theorem dX12_lay_54 : decode cX12_lay 54 = .ok (.if_icmp .le 5, 3) := by decide +kernel
theorem dX12_lay_57 : decode cX12_lay 57 = .ok (.iconst (-1), 1) := by decide +kernel
theorem dX12_lay_58 : decode cX12_lay 58 = .ok (.ireturn, 1) := by decide +kernel
theorem dX12_lay_59 : decode cX12_lay 59 = .ok (.iinc 2 1, 3) := by decide +kernel
theorem dX12_lay_62 : decode cX12_lay 62 = .ok (.goto (-37), 3) := by decide +kernel
theorem dX12_lay_65 : decode cX12_lay 65 = .ok (.iconst 0, 1) := by decide +kernel
theorem dX12_lay_66 : decode cX12_lay 66 = .ok (.istore_n 2, 1) := by decide +kernel
theorem dX12_lay_67 : decode cX12_lay 67 = .ok (.iconst 0, 1) := by decide +kernel
theorem dX12_lay_68 : decode cX12_lay 68 = .ok (.istore_n 3, 1) := by decide +kernel
theorem dX12_lay_69 : decode cX12_lay 69 = .ok (.iload_n 3, 1) := by decide +kernel
theorem dX12_lay_70 : decode cX12_lay 70 = .ok (.bipush 12, 2) := by decide +kernel
theorem dX12_lay_72 : decode cX12_lay 72 = .ok (.if_icmp .ge 72, 3) := by decide +kernel
theorem dX12_lay_75 : decode cX12_lay 75 = .ok (.aload_n 0, 1) := by decide +kernel
theorem dX12_lay_76 : decode cX12_lay 76 = .ok (.getfield 16, 3) := by decide +kernel
theorem dX12_lay_79 : decode cX12_lay 79 = .ok (.iload_n 3, 1) := by decide +kernel
theorem dX12_lay_80 : decode cX12_lay 80 = .ok (.iaload, 1) := by decide +kernel
theorem dX12_lay_81 : decode cX12_lay 81 = .ok (.aload_n 0, 1) := by decide +kernel
theorem dX12_lay_82 : decode cX12_lay 82 = .ok (.getfield 7, 3) := by decide +kernel
theorem dX12_lay_85 : decode cX12_lay 85 = .ok (.iload_n 3, 1) := by decide +kernel
theorem dX12_lay_86 : decode cX12_lay 86 = .ok (.iaload, 1) := by decide +kernel
theorem dX12_lay_87 : decode cX12_lay 87 = .ok (.if_icmp .lt 51, 3) := by decide +kernel
theorem dX12_lay_90 : decode cX12_lay 90 = .ok (.aload_n 0, 1) := by decide +kernel
theorem dX12_lay_91 : decode cX12_lay 91 = .ok (.getfield 16, 3) := by decide +kernel
theorem dX12_lay_94 : decode cX12_lay 94 = .ok (.iload_n 3, 1) := by decide +kernel
theorem dX12_lay_95 : decode cX12_lay 95 = .ok (.dup2, 1) := by decide +kernel
theorem dX12_lay_96 : decode cX12_lay 96 = .ok (.iaload, 1) := by decide +kernel
theorem dX12_lay_97 : decode cX12_lay 97 = .ok (.aload_n 0, 1) := by decide +kernel
theorem dX12_lay_98 : decode cX12_lay 98 = .ok (.getfield 7, 3) := by decide +kernel
theorem dX12_lay_101 : decode cX12_lay 101 = .ok (.iload_n 3, 1) := by decide +kernel
theorem dX12_lay_102 : decode cX12_lay 102 = .ok (.iaload, 1) := by decide +kernel
theorem dX12_lay_103 : decode cX12_lay 103 = .ok (.isub, 1) := by decide +kernel
theorem dX12_lay_104 : decode cX12_lay 104 = .ok (.iastore, 1) := by decide +kernel
theorem dX12_lay_105 : decode cX12_lay 105 = .ok (.aload_n 0, 1) := by decide +kernel
theorem dX12_lay_106 : decode cX12_lay 106 = .ok (.getfield 16, 3) := by decide +kernel
theorem dX12_lay_109 : decode cX12_lay 109 = .ok (.iload_n 3, 1) := by decide +kernel
theorem dX12_lay_110 : decode cX12_lay 110 = .ok (.iconst 1, 1) := by decide +kernel
theorem dX12_lay_111 : decode cX12_lay 111 = .ok (.iadd, 1) := by decide +kernel
theorem dX12_lay_112 : decode cX12_lay 112 = .ok (.dup2, 1) := by decide +kernel
theorem dX12_lay_113 : decode cX12_lay 113 = .ok (.iaload, 1) := by decide +kernel
theorem dX12_lay_114 : decode cX12_lay 114 = .ok (.iconst 1, 1) := by decide +kernel
theorem dX12_lay_115 : decode cX12_lay 115 = .ok (.iadd, 1) := by decide +kernel
theorem dX12_lay_116 : decode cX12_lay 116 = .ok (.iastore, 1) := by decide +kernel
theorem dX12_lay_117 : decode cX12_lay 117 = .ok (.aload_n 0, 1) := by decide +kernel
theorem dX12_lay_118 : decode cX12_lay 118 = .ok (.getfield 16, 3) := by decide +kernel
theorem dX12_lay_121 : decode cX12_lay 121 = .ok (.iload_n 3, 1) := by decide +kernel
theorem dX12_lay_122 : decode cX12_lay 122 = .ok (.iconst 1, 1) := by decide +kernel
theorem dX12_lay_123 : decode cX12_lay 123 = .ok (.iadd, 1) := by decide +kernel
theorem dX12_lay_124 : decode cX12_lay 124 = .ok (.iaload, 1) := by decide +kernel
theorem dX12_lay_125 : decode cX12_lay 125 = .ok (.bipush 99, 2) := by decide +kernel
theorem dX12_lay_127 : decode cX12_lay 127 = .ok (.if_icmp .le 5, 3) := by decide +kernel
theorem dX12_lay_130 : decode cX12_lay 130 = .ok (.iconst (-1), 1) := by decide +kernel
theorem dX12_lay_131 : decode cX12_lay 131 = .ok (.ireturn, 1) := by decide +kernel
theorem dX12_lay_132 : decode cX12_lay 132 = .ok (.iinc 2 1, 3) := by decide +kernel
theorem dX12_lay_135 : decode cX12_lay 135 = .ok (.goto (-60), 3) := by decide +kernel
theorem dX12_lay_138 : decode cX12_lay 138 = .ok (.iinc 3 1, 3) := by decide +kernel
theorem dX12_lay_141 : decode cX12_lay 141 = .ok (.goto (-72), 3) := by decide +kernel
theorem dX12_lay_144 : decode cX12_lay 144 = .ok (.aload_n 0, 1) := by decide +kernel
theorem dX12_lay_145 : decode cX12_lay 145 = .ok (.invokevirtual 214, 3) := by decide +kernel
theorem dX12_lay_148 : decode cX12_lay 148 = .ok (.iload_n 2, 1) := by decide +kernel
theorem dX12_lay_149 : decode cX12_lay 149 = .ok (.ireturn, 1) := by decide +kernel
theorem zy_X12_lay : zYv yX12_lay cX12_lay 4 (some .int) 1 := ⟨zw_1455, zw_1456, zw_12, zw_1457, by decide, by decide, by decide⟩
theorem c_X12_lay_b25 {C : zC} {I : Nat → Nat → Int32} {J : Nat → Nat → Int64} {Rr : Nat → Nat → Option Nat} {D : zD} (N : Nat) (a1 : Int32) (v_ratio : (Nat → Int32)) (e_v_ratio : I 129 = v_ratio) (rr : Int32) (y_v_lie : (Nat → Int32)) (y_v_plain : (Nat → Int32)) (y_v_work : (Nat → Int32)) (E : zE C RX12 cX12_lay 4 (some .int) ({ frames := 2, cells := 0, slots := 0, locals := 48 } : Room)) (hQ : C.Q = zQi C ({ frames := 2, cells := 0, slots := 0, locals := 48 } : Room) rr ((va_up (va_up (va_up I 130 y_v_lie) 131 y_v_work) 132 y_v_plain), J, Rr, D)) (v_lie : (Nat → Int32)) (v_plain : (Nat → Int32)) (k65 : (Nat → Int32) → Option R_pM_lay) (hk65 : ∀ (v_work : (Nat → Int32)), k65 v_work = some (rr, y_v_lie, y_v_plain, y_v_work) → zB C (0, 0) 65 [(0, .ref (C.X.1 + 128))] [] ((va_up (va_up (va_up I 130 v_lie) 131 v_work) 132 v_plain), J, Rr, D)) : ∀ (n9 : Nat) (x2 : Int32) (v_work : (Nat → Int32)), pM_lay_b25 N a1 v_ratio v_lie v_plain k65 n9 x2 v_work = some (rr, y_v_lie, y_v_plain, y_v_work) → zB C (0, 0) 25 [(0, .ref (C.X.1 + 128)), (2, .int x2)] [] ((va_up (va_up (va_up I 130 v_lie) 131 v_work) 132 v_plain), J, Rr, D) := by
  refine zlp2_ind (P := fun (x2 : Int32) (v_work : (Nat → Int32)) => zB C (0, 0) 25 [(0, .ref (C.X.1 + 128)), (2, .int x2)] [] ((va_up (va_up (va_up I 130 v_lie) 131 v_work) 132 v_plain), J, Rr, D)) (fun self ih => ?_)
  intro x2 v_work h
  refine zb_iload_n E dX12_lay_25 1 rfl rfl ?_
  refine zb_bipush E dX12_lay_26 (v := 13) rfl ?_
  refine zb_icmp_ge E dX12_lay_28 (tgt := 65) rfl (fun hc => ?_) (fun hc => ?_)
  · have h := if_t h hc
    refine zb_sub [0] rfl ?_
    exact hk65 v_work h
  · have h := if_f h hc
    refine zb_aload_n E dX12_lay_31 0 rfl rfl ?_
    refine zb_get E 128 (by decide) (zF_128 C.X) rfl zin12 2 (by decide) zw_1170 (v := .ref (C.X.1 + 131)) rfl dX12_lay_32 ?_
    refine zb_iload_n E dX12_lay_35 1 rfl rfl ?_
    refine zb_dup2_11 E dX12_lay_36 rfl rfl ?_
    obtain ⟨g4, h⟩ := gd_s h
    refine zb_iald E 131 (by decide) zF_131 (f := v_work) rfl (ib_in g4) dX12_lay_37 ?_
    refine zb_aload_n E dX12_lay_38 0 rfl rfl ?_
    refine zb_get E 128 (by decide) (zF_128 C.X) rfl zin12 3 (by decide) zw_1171 (v := .ref (C.X.1 + 132)) rfl dX12_lay_39 ?_
    refine zb_iload_n E dX12_lay_42 1 rfl rfl ?_
    refine zb_iald E 132 (by decide) zF_132 (f := v_plain) rfl (ib_in g4) dX12_lay_43 ?_
    refine zb_iadd E dX12_lay_44 ?_
    refine zb_iast E 131 (by decide) zF_131 (f := v_work) rfl (ib_in g4) dX12_lay_45 (I2 := (va_up (va_up (va_up I 130 v_lie) 131 (upd v_work (ix x2) ((v_work (ix x2)) + (v_plain (ix x2))))) 132 v_plain)) (zn2 (by decide : (132 : Nat) ≠ 131)) ?_
    refine zb_aload_n E dX12_lay_46 0 rfl rfl ?_
    refine zb_get E 128 (by decide) (zF_128 C.X) rfl zin12 2 (by decide) zw_1170 (v := .ref (C.X.1 + 131)) rfl dX12_lay_47 ?_
    refine zb_iload_n E dX12_lay_50 1 rfl rfl ?_
    refine zb_iald E 131 (by decide) zF_131 (f := (upd v_work (ix x2) ((v_work (ix x2)) + (v_plain (ix x2))))) rfl (ib_in g4) dX12_lay_51 ?_
    refine zb_bipush E dX12_lay_52 (v := 99) rfl ?_
    refine zb_icmp_le E dX12_lay_54 (tgt := 59) rfl (fun hc => ?_) (fun hc => ?_)
    · have h := if_t h hc
      refine zb_iinc E dX12_lay_59 1 rfl (v := (x2 + 1)) rfl (by decide) (lv2 := [(2, .int (x2 + 1)), (0, .ref (C.X.1 + 128))]) rfl ?_
      refine zb_goto E dX12_lay_62 (tgt := 25) rfl ?_
      refine zb_sub [1, 0] rfl ?_
      exact ih (x2 + 1) (upd v_work (ix x2) ((v_work (ix x2)) + (v_plain (ix x2)))) h
    · have h := if_f h hc
      refine zb_iconst E dX12_lay_57 (v := (-1)) rfl ?_
      obtain ⟨rfl, rfl, rfl, rfl⟩ := zinj4 h
      exact zb_iret E hQ rfl ⟨Nat.zero_le _, Nat.zero_le _⟩ dX12_lay_58
theorem c_X12_lay_b75 {C : zC} {I : Nat → Nat → Int32} {J : Nat → Nat → Int64} {Rr : Nat → Nat → Option Nat} {D : zD} (N : Nat) (a1 : Int32) (v_ratio : (Nat → Int32)) (e_v_ratio : I 129 = v_ratio) (rr : Int32) (y_v_lie : (Nat → Int32)) (y_v_plain : (Nat → Int32)) (y_v_work : (Nat → Int32)) (E : zE C RX12 cX12_lay 4 (some .int) ({ frames := 2, cells := 0, slots := 0, locals := 48 } : Room)) (hQ : C.Q = zQi C ({ frames := 2, cells := 0, slots := 0, locals := 48 } : Room) rr ((va_up (va_up (va_up I 130 y_v_lie) 131 y_v_work) 132 y_v_plain), J, Rr, D)) (x3 : Int32) (v_lie : (Nat → Int32)) (v_plain : (Nat → Int32)) (k138 : Int32 → (Nat → Int32) → Option R_pM_lay) (hk138 : ∀ (x2 : Int32) (v_work : (Nat → Int32)), k138 x2 v_work = some (rr, y_v_lie, y_v_plain, y_v_work) → zB C (0, 0) 138 [(0, .ref (C.X.1 + 128)), (2, .int x2), (3, .int x3)] [] ((va_up (va_up (va_up I 130 v_lie) 131 v_work) 132 v_plain), J, Rr, D)) : ∀ (n9 : Nat) (x2 : Int32) (v_work : (Nat → Int32)), pM_lay_b75 N a1 v_ratio x3 v_lie v_plain k138 n9 x2 v_work = some (rr, y_v_lie, y_v_plain, y_v_work) → zB C (0, 0) 75 [(0, .ref (C.X.1 + 128)), (2, .int x2), (3, .int x3)] [] ((va_up (va_up (va_up I 130 v_lie) 131 v_work) 132 v_plain), J, Rr, D) := by
  refine zlp2_ind (P := fun (x2 : Int32) (v_work : (Nat → Int32)) => zB C (0, 0) 75 [(0, .ref (C.X.1 + 128)), (2, .int x2), (3, .int x3)] [] ((va_up (va_up (va_up I 130 v_lie) 131 v_work) 132 v_plain), J, Rr, D)) (fun self ih => ?_)
  intro x2 v_work h
  refine zb_aload_n E dX12_lay_75 0 rfl rfl ?_
  refine zb_get E 128 (by decide) (zF_128 C.X) rfl zin12 2 (by decide) zw_1170 (v := .ref (C.X.1 + 131)) rfl dX12_lay_76 ?_
  refine zb_iload_n E dX12_lay_79 2 rfl rfl ?_
  obtain ⟨g6, h⟩ := gd_s h
  refine zb_iald E 131 (by decide) zF_131 (f := v_work) rfl (ib_in g6) dX12_lay_80 ?_
  refine zb_aload_n E dX12_lay_81 0 rfl rfl ?_
  refine zb_get E 128 (by decide) (zF_128 C.X) rfl zin12 0 (by decide) zw_1168 (v := .ref (C.X.1 + 129)) rfl dX12_lay_82 ?_
  refine zb_iload_n E dX12_lay_85 2 rfl rfl ?_
  obtain ⟨g7, h⟩ := gd_s h
  refine zb_iald E 129 (by decide) zF_129 (f := v_ratio) (by exact e_v_ratio) (ib_in g7) dX12_lay_86 ?_
  refine zb_icmp_lt E dX12_lay_87 (tgt := 138) rfl (fun hc => ?_) (fun hc => ?_)
  · have h := if_t h hc
    exact hk138 x2 v_work h
  · have h := if_f h hc
    refine zb_aload_n E dX12_lay_90 0 rfl rfl ?_
    refine zb_get E 128 (by decide) (zF_128 C.X) rfl zin12 2 (by decide) zw_1170 (v := .ref (C.X.1 + 131)) rfl dX12_lay_91 ?_
    refine zb_iload_n E dX12_lay_94 2 rfl rfl ?_
    refine zb_dup2_11 E dX12_lay_95 rfl rfl ?_
    refine zb_iald E 131 (by decide) zF_131 (f := v_work) rfl (ib_in g6) dX12_lay_96 ?_
    refine zb_aload_n E dX12_lay_97 0 rfl rfl ?_
    refine zb_get E 128 (by decide) (zF_128 C.X) rfl zin12 0 (by decide) zw_1168 (v := .ref (C.X.1 + 129)) rfl dX12_lay_98 ?_
    refine zb_iload_n E dX12_lay_101 2 rfl rfl ?_
    refine zb_iald E 129 (by decide) zF_129 (f := v_ratio) (by exact e_v_ratio) (ib_in g7) dX12_lay_102 ?_
    refine zb_isub E dX12_lay_103 ?_
    refine zb_iast E 131 (by decide) zF_131 (f := v_work) rfl (ib_in g6) dX12_lay_104 (I2 := (va_up (va_up (va_up I 130 v_lie) 131 (upd v_work (ix x3) ((v_work (ix x3)) - (v_ratio (ix x3))))) 132 v_plain)) (zn2 (by decide : (132 : Nat) ≠ 131)) ?_
    refine zb_aload_n E dX12_lay_105 0 rfl rfl ?_
    refine zb_get E 128 (by decide) (zF_128 C.X) rfl zin12 2 (by decide) zw_1170 (v := .ref (C.X.1 + 131)) rfl dX12_lay_106 ?_
    refine zb_iload_n E dX12_lay_109 2 rfl rfl ?_
    refine zb_iconst E dX12_lay_110 (v := 1) rfl ?_
    refine zb_iadd E dX12_lay_111 ?_
    refine zb_dup2_11 E dX12_lay_112 rfl rfl ?_
    obtain ⟨g8, h⟩ := gd_s h
    refine zb_iald E 131 (by decide) zF_131 (f := (upd v_work (ix x3) ((v_work (ix x3)) - (v_ratio (ix x3))))) rfl (ib_in g8) dX12_lay_113 ?_
    refine zb_iconst E dX12_lay_114 (v := 1) rfl ?_
    refine zb_iadd E dX12_lay_115 ?_
    refine zb_iast E 131 (by decide) zF_131 (f := (upd v_work (ix x3) ((v_work (ix x3)) - (v_ratio (ix x3))))) rfl (ib_in g8) dX12_lay_116 (I2 := (va_up (va_up (va_up I 130 v_lie) 131 (upd (upd v_work (ix x3) ((v_work (ix x3)) - (v_ratio (ix x3)))) (ix (x3 + 1)) (((upd v_work (ix x3) ((v_work (ix x3)) - (v_ratio (ix x3)))) (ix (x3 + 1))) + 1))) 132 v_plain)) (zn2 (by decide : (132 : Nat) ≠ 131)) ?_
    refine zb_aload_n E dX12_lay_117 0 rfl rfl ?_
    refine zb_get E 128 (by decide) (zF_128 C.X) rfl zin12 2 (by decide) zw_1170 (v := .ref (C.X.1 + 131)) rfl dX12_lay_118 ?_
    refine zb_iload_n E dX12_lay_121 2 rfl rfl ?_
    refine zb_iconst E dX12_lay_122 (v := 1) rfl ?_
    refine zb_iadd E dX12_lay_123 ?_
    refine zb_iald E 131 (by decide) zF_131 (f := (upd (upd v_work (ix x3) ((v_work (ix x3)) - (v_ratio (ix x3)))) (ix (x3 + 1)) (((upd v_work (ix x3) ((v_work (ix x3)) - (v_ratio (ix x3)))) (ix (x3 + 1))) + 1))) rfl (ib_in g8) dX12_lay_124 ?_
    refine zb_bipush E dX12_lay_125 (v := 99) rfl ?_
    refine zb_icmp_le E dX12_lay_127 (tgt := 132) rfl (fun hc => ?_) (fun hc => ?_)
    · have h := if_t h hc
      refine zb_iinc E dX12_lay_132 1 rfl (v := (x2 + 1)) rfl (by decide) (lv2 := [(2, .int (x2 + 1)), (0, .ref (C.X.1 + 128)), (3, .int x3)]) rfl ?_
      refine zb_goto E dX12_lay_135 (tgt := 75) rfl ?_
      refine zb_sub [1, 0, 2] rfl ?_
      exact ih (x2 + 1) (upd (upd v_work (ix x3) ((v_work (ix x3)) - (v_ratio (ix x3)))) (ix (x3 + 1)) (((upd v_work (ix x3) ((v_work (ix x3)) - (v_ratio (ix x3)))) (ix (x3 + 1))) + 1)) h
    · have h := if_f h hc
      refine zb_iconst E dX12_lay_130 (v := (-1)) rfl ?_
      obtain ⟨rfl, rfl, rfl, rfl⟩ := zinj4 h
      exact zb_iret E hQ rfl ⟨Nat.zero_le _, Nat.zero_le _⟩ dX12_lay_131
theorem c_X12_lay_b138 {C : zC} {I : Nat → Nat → Int32} {J : Nat → Nat → Int64} {Rr : Nat → Nat → Option Nat} {D : zD} (N : Nat) (a1 : Int32) (v_ratio : (Nat → Int32)) (e_v_ratio : I 129 = v_ratio) (rr : Int32) (y_v_lie : (Nat → Int32)) (y_v_plain : (Nat → Int32)) (y_v_work : (Nat → Int32)) (E : zE C RX12 cX12_lay 4 (some .int) ({ frames := 2, cells := 0, slots := 0, locals := 48 } : Room)) (hQ : C.Q = zQi C ({ frames := 2, cells := 0, slots := 0, locals := 48 } : Room) rr ((va_up (va_up (va_up I 130 y_v_lie) 131 y_v_work) 132 y_v_plain), J, Rr, D)) (x2 : Int32) (x3 : Int32) (v_lie : (Nat → Int32)) (v_plain : (Nat → Int32)) (v_work : (Nat → Int32)) (self : Int32 → Int32 → (Nat → Int32) → Option R_pM_lay) (ih : ∀ (x2 : Int32) (x3 : Int32) (v_work : (Nat → Int32)), self x2 x3 v_work = some (rr, y_v_lie, y_v_plain, y_v_work) → zB C (0, 0) 69 [(0, .ref (C.X.1 + 128)), (2, .int x2), (3, .int x3)] [] ((va_up (va_up (va_up I 130 v_lie) 131 v_work) 132 v_plain), J, Rr, D)) (k144 : Int32 → (Nat → Int32) → Option R_pM_lay) (hk144 : ∀ (x2 : Int32) (v_work : (Nat → Int32)), k144 x2 v_work = some (rr, y_v_lie, y_v_plain, y_v_work) → zB C (0, 0) 144 [(0, .ref (C.X.1 + 128)), (2, .int x2)] [] ((va_up (va_up (va_up I 130 v_lie) 131 v_work) 132 v_plain), J, Rr, D)) (h : pM_lay_b138 N a1 v_ratio self k144 x2 x3 v_lie v_plain v_work = some (rr, y_v_lie, y_v_plain, y_v_work)) : zB C (0, 0) 138 [(0, .ref (C.X.1 + 128)), (2, .int x2), (3, .int x3)] [] ((va_up (va_up (va_up I 130 v_lie) 131 v_work) 132 v_plain), J, Rr, D) := by
  refine zb_iinc E dX12_lay_138 2 rfl (v := (x3 + 1)) rfl (by decide) (lv2 := [(3, .int (x3 + 1)), (0, .ref (C.X.1 + 128)), (2, .int x2)]) rfl ?_
  refine zb_goto E dX12_lay_141 (tgt := 69) rfl ?_
  refine zb_sub [1, 2, 0] rfl ?_
  exact ih x2 (x3 + 1) v_work h
theorem c_X12_lay_b69 {C : zC} {I : Nat → Nat → Int32} {J : Nat → Nat → Int64} {Rr : Nat → Nat → Option Nat} {D : zD} (N : Nat) (a1 : Int32) (v_ratio : (Nat → Int32)) (e_v_ratio : I 129 = v_ratio) (rr : Int32) (y_v_lie : (Nat → Int32)) (y_v_plain : (Nat → Int32)) (y_v_work : (Nat → Int32)) (E : zE C RX12 cX12_lay 4 (some .int) ({ frames := 2, cells := 0, slots := 0, locals := 48 } : Room)) (hQ : C.Q = zQi C ({ frames := 2, cells := 0, slots := 0, locals := 48 } : Room) rr ((va_up (va_up (va_up I 130 y_v_lie) 131 y_v_work) 132 y_v_plain), J, Rr, D)) (v_lie : (Nat → Int32)) (v_plain : (Nat → Int32)) (k144 : Int32 → (Nat → Int32) → Option R_pM_lay) (hk144 : ∀ (x2 : Int32) (v_work : (Nat → Int32)), k144 x2 v_work = some (rr, y_v_lie, y_v_plain, y_v_work) → zB C (0, 0) 144 [(0, .ref (C.X.1 + 128)), (2, .int x2)] [] ((va_up (va_up (va_up I 130 v_lie) 131 v_work) 132 v_plain), J, Rr, D)) : ∀ (n9 : Nat) (x2 : Int32) (x3 : Int32) (v_work : (Nat → Int32)), pM_lay_b69 N a1 v_ratio v_lie v_plain k144 n9 x2 x3 v_work = some (rr, y_v_lie, y_v_plain, y_v_work) → zB C (0, 0) 69 [(0, .ref (C.X.1 + 128)), (2, .int x2), (3, .int x3)] [] ((va_up (va_up (va_up I 130 v_lie) 131 v_work) 132 v_plain), J, Rr, D) := by
  refine zlp3_ind (P := fun (x2 : Int32) (x3 : Int32) (v_work : (Nat → Int32)) => zB C (0, 0) 69 [(0, .ref (C.X.1 + 128)), (2, .int x2), (3, .int x3)] [] ((va_up (va_up (va_up I 130 v_lie) 131 v_work) 132 v_plain), J, Rr, D)) (fun self ih => ?_)
  intro x2 x3 v_work h
  refine zb_iload_n E dX12_lay_69 2 rfl rfl ?_
  refine zb_bipush E dX12_lay_70 (v := 12) rfl ?_
  refine zb_icmp_ge E dX12_lay_72 (tgt := 144) rfl (fun hc => ?_) (fun hc => ?_)
  · have h := if_t h hc
    refine zb_sub [0, 1] rfl ?_
    exact hk144 x2 v_work h
  · have h := if_f h hc
    exact c_X12_lay_b75 N a1 v_ratio e_v_ratio rr y_v_lie y_v_plain y_v_work E hQ x3 v_lie v_plain _ (fun x2_z2 v_work_z3 h => c_X12_lay_b138 N a1 v_ratio e_v_ratio rr y_v_lie y_v_plain y_v_work E hQ x2_z2 x3 v_lie v_plain v_work_z3 self ih k144 hk144 h) _ x2 v_work h
theorem c_X12_lay_b144 {C : zC} {I : Nat → Nat → Int32} {J : Nat → Nat → Int64} {Rr : Nat → Nat → Option Nat} {D : zD} (N : Nat) (a1 : Int32) (v_ratio : (Nat → Int32)) (e_v_ratio : I 129 = v_ratio) (rr : Int32) (y_v_lie : (Nat → Int32)) (y_v_plain : (Nat → Int32)) (y_v_work : (Nat → Int32)) (E : zE C RX12 cX12_lay 4 (some .int) ({ frames := 2, cells := 0, slots := 0, locals := 48 } : Room)) (hQ : C.Q = zQi C ({ frames := 2, cells := 0, slots := 0, locals := 48 } : Room) rr ((va_up (va_up (va_up I 130 y_v_lie) 131 y_v_work) 132 y_v_plain), J, Rr, D)) (x2 : Int32) (v_lie : (Nat → Int32)) (v_plain : (Nat → Int32)) (v_work : (Nat → Int32)) (h : pM_lay_b144 N a1 v_ratio x2 v_lie v_plain v_work = some (rr, y_v_lie, y_v_plain, y_v_work)) : zB C (0, 0) 144 [(0, .ref (C.X.1 + 128)), (2, .int x2)] [] ((va_up (va_up (va_up I 130 v_lie) 131 v_work) 132 v_plain), J, Rr, D) := by
  refine zb_aload_n E dX12_lay_144 0 rfl rfl ?_
  obtain ⟨v_lie_c5, hc_145, h⟩ := bd1_s h
  refine zb_cVv E [] 128 zy_X12_stays zw_1462 (by decide) (zF_128 _ _ _ _) rfl (c_X12_stays v_work rfl v_lie rfl hc_145) (by decide) rfl rfl (by first | decide | simp [Value.category]) dX12_lay_145 (cs2 := (0, 0)) rfl ?_
  refine zb_S (S2 := ((va_up (va_up (va_up I 130 v_lie_c5) 131 v_work) 132 v_plain), J, Rr, D)) (zS_eq (zn3 (by decide : (132 : Nat) ≠ 130) (by decide : (131 : Nat) ≠ 130)) rfl) ?_
  refine zb_iload_n E dX12_lay_148 1 rfl rfl ?_
  obtain ⟨rfl, rfl, rfl, rfl⟩ := zinj4 h
  exact zb_iret E hQ rfl ⟨Nat.zero_le _, Nat.zero_le _⟩ dX12_lay_149
theorem c_X12_lay_b65 {C : zC} {I : Nat → Nat → Int32} {J : Nat → Nat → Int64} {Rr : Nat → Nat → Option Nat} {D : zD} (N : Nat) (a1 : Int32) (v_ratio : (Nat → Int32)) (e_v_ratio : I 129 = v_ratio) (rr : Int32) (y_v_lie : (Nat → Int32)) (y_v_plain : (Nat → Int32)) (y_v_work : (Nat → Int32)) (E : zE C RX12 cX12_lay 4 (some .int) ({ frames := 2, cells := 0, slots := 0, locals := 48 } : Room)) (hQ : C.Q = zQi C ({ frames := 2, cells := 0, slots := 0, locals := 48 } : Room) rr ((va_up (va_up (va_up I 130 y_v_lie) 131 y_v_work) 132 y_v_plain), J, Rr, D)) (v_lie : (Nat → Int32)) (v_plain : (Nat → Int32)) (v_work : (Nat → Int32)) (h : pM_lay_b65 N a1 v_ratio v_lie v_plain v_work = some (rr, y_v_lie, y_v_plain, y_v_work)) : zB C (0, 0) 65 [(0, .ref (C.X.1 + 128))] [] ((va_up (va_up (va_up I 130 v_lie) 131 v_work) 132 v_plain), J, Rr, D) := by
  refine zb_iconst E dX12_lay_65 (v := 0) rfl ?_
  refine zb_istore_n E dX12_lay_66 rfl (by decide) (lv2 := [(2, .int 0), (0, .ref (C.X.1 + 128))]) rfl ?_
  refine zb_iconst E dX12_lay_67 (v := 0) rfl ?_
  refine zb_istore_n E dX12_lay_68 rfl (by decide) (lv2 := [(3, .int 0), (2, .int 0), (0, .ref (C.X.1 + 128))]) rfl ?_
  refine zb_sub [2, 1, 0] rfl ?_
  exact c_X12_lay_b69 N a1 v_ratio e_v_ratio rr y_v_lie y_v_plain y_v_work E hQ v_lie v_plain _ (fun x2_z4 v_work_z5 h => c_X12_lay_b144 N a1 v_ratio e_v_ratio rr y_v_lie y_v_plain y_v_work E hQ x2_z4 v_lie v_plain v_work_z5 h) _ 0 0 v_work h
theorem c_X12_lay_0 {C : zC} {I : Nat → Nat → Int32} {J : Nat → Nat → Int64} {Rr : Nat → Nat → Option Nat} {D : zD} (N : Nat) (a1 : Int32) (v_ratio : (Nat → Int32)) (e_v_ratio : I 129 = v_ratio) (rr : Int32) (y_v_lie : (Nat → Int32)) (y_v_plain : (Nat → Int32)) (y_v_work : (Nat → Int32)) (E : zE C RX12 cX12_lay 4 (some .int) ({ frames := 2, cells := 0, slots := 0, locals := 48 } : Room)) (hQ : C.Q = zQi C ({ frames := 2, cells := 0, slots := 0, locals := 48 } : Room) rr ((va_up (va_up (va_up I 130 y_v_lie) 131 y_v_work) 132 y_v_plain), J, Rr, D)) (v_lie : (Nat → Int32)) (v_plain : (Nat → Int32)) (v_work : (Nat → Int32)) (h : pM_lay N a1 v_lie v_plain v_ratio v_work = some (rr, y_v_lie, y_v_plain, y_v_work)) : zB C (0, 0) 0 [(0, .ref (C.X.1 + 128)), (1, .int a1)] [] ((va_up (va_up (va_up I 130 v_lie) 131 v_work) 132 v_plain), J, Rr, D) := by
  refine zb_iload_n E dX12_lay_0 1 rfl rfl ?_
  refine zb_i2l E dX12_lay_1 ?_
  refine zb_lconst E dX12_lay_2 (v := 0) rfl ?_
  refine zb_ldc2 E dX12_lay_3 (v := 1000000000) zw_1449 ?_
  obtain ⟨rc1, hc_6, h⟩ := bd1_s h
  refine zb_cSi E [.long (i2l a1), .long 0, .long 1000000000] zy_X12_isIn zw_1429 (c_X12_isIn hc_6) (by decide) rfl rfl (by first | decide | simp [Value.category]) dX12_lay_6 (cs2 := (0, 0)) rfl ?_
  refine zb_if_ne E dX12_lay_9 (tgt := 14) rfl (fun hc => ?_) (fun hc => ?_)
  · have h := if_f h hc
    refine zb_aload_n E dX12_lay_14 0 rfl rfl ?_
    refine zb_iload_n E dX12_lay_15 1 rfl rfl ?_
    obtain ⟨v_plain_c2, hc_16, h⟩ := bd1_s h
    refine zb_cVv E [.int a1] 128 zy_X12_plains zw_1450 (by decide) (zF_128 _ _ _ _) rfl (c_X12_plains v_ratio (by exact e_v_ratio) v_plain rfl hc_16) (by decide) rfl rfl (by first | decide | simp [Value.category]) dX12_lay_16 (cs2 := (0, 0)) rfl ?_
    refine zb_S (S2 := ((va_up (va_up (va_up I 130 v_lie) 131 v_work) 132 v_plain_c2), J, Rr, D)) (zS_eq zn1 rfl) ?_
    refine zb_aload_n E dX12_lay_19 0 rfl rfl ?_
    obtain ⟨v_work_c3, hc_20, h⟩ := bd1_s h
    refine zb_cVv E [] 128 zy_X12_works zw_1458 (by decide) (zF_128 _ _ _ _) rfl (c_X12_works v_lie rfl v_work rfl hc_20) (by decide) rfl rfl (by first | decide | simp [Value.category]) dX12_lay_20 (cs2 := (0, 0)) rfl ?_
    refine zb_S (S2 := ((va_up (va_up (va_up I 130 v_lie) 131 v_work_c3) 132 v_plain_c2), J, Rr, D)) (zS_eq (zn2 (by decide : (132 : Nat) ≠ 131)) rfl) ?_
    refine zb_iconst E dX12_lay_23 (v := 0) rfl ?_
    refine zb_istore_n E dX12_lay_24 rfl (by decide) (lv2 := [(2, .int 0), (0, .ref (C.X.1 + 128)), (1, .int a1)]) rfl ?_
    refine zb_sub [1, 0] rfl ?_
    exact c_X12_lay_b25 N a1 v_ratio e_v_ratio rr y_v_lie y_v_plain y_v_work E hQ v_lie v_plain_c2 _ (fun v_work_z1 h => c_X12_lay_b65 N a1 v_ratio e_v_ratio rr y_v_lie y_v_plain y_v_work E hQ v_lie v_plain_c2 v_work_z1 h) _ 0 v_work_c3 h
  · have h := if_t h hc
    refine zb_iconst E dX12_lay_12 (v := (-1)) rfl ?_
    obtain ⟨rfl, rfl, rfl, rfl⟩ := zinj4 h
    exact zb_iret E hQ rfl ⟨Nat.zero_le _, Nat.zero_le _⟩ dX12_lay_13
theorem c_X12_lay {l : Launch} {X : zX} {I : Nat → Nat → Int32} {J : Nat → Nat → Int64} {Rr : Nat → Nat → Option Nat} {D : zD} {N : Nat} {a1 : Int32} (v_ratio : (Nat → Int32)) (e_v_ratio : I 129 = v_ratio) (v_lie : (Nat → Int32)) (e_v_lie : I 130 = v_lie) (v_plain : (Nat → Int32)) (e_v_plain : I 132 = v_plain) (v_work : (Nat → Int32)) (e_v_work : I 131 = v_work) {rr : Int32} {y_v_lie : (Nat → Int32)} {y_v_plain : (Nat → Int32)} {y_v_work : (Nat → Int32)} (h : pM_lay N a1 v_lie v_plain v_ratio v_work = some (rr, y_v_lie, y_v_plain, y_v_work)) : zMi l yX12_lay cX12_lay 4 (some .int) ({ frames := 2, cells := 0, slots := 0, locals := 48 } : Room) X [.ref (X.1 + 128), .int a1] (I, J, Rr, D) rr ((va_up (va_up (va_up I 130 y_v_lie) 131 y_v_work) 132 y_v_plain), J, Rr, D) := by
  refine zMi.of (by decide) (Nat.le_of_ble_eq_true rfl) (fun C E hl hX hQ => ?_)
  subst hl
  subst hX
  have eI0 : (va_up (va_up (va_up I 130 v_lie) 131 v_work) 132 v_plain) = I := by rw [zup_idE e_v_lie, zup_idE e_v_work, zup_idE e_v_plain]
  have eJ0 : J = J := rfl
  refine zb_S (S2 := ((va_up (va_up (va_up I 130 v_lie) 131 v_work) 132 v_plain), J, Rr, D)) (zS_eq eI0.symm eJ0.symm) ?_
  exact c_X12_lay_0 N a1 v_ratio e_v_ratio rr y_v_lie y_v_plain y_v_work E hQ v_lie v_plain v_work h
-- ChequeredClothModel.above
theorem dX12_above_0 : decode cX12_above 0 = .ok (.iload_n 1, 1) := by decide +kernel
theorem dX12_above_1 : decode cX12_above 1 = .ok (.iconst 1, 1) := by decide +kernel
theorem dX12_above_2 : decode cX12_above 2 = .ok (.iadd, 1) := by decide +kernel
theorem dX12_above_3 : decode cX12_above 3 = .ok (.istore_n 2, 1) := by decide +kernel
theorem dX12_above_4 : decode cX12_above 4 = .ok (.iload_n 2, 1) := by decide +kernel
theorem dX12_above_5 : decode cX12_above 5 = .ok (.bipush 13, 2) := by decide +kernel
theorem dX12_above_7 : decode cX12_above 7 = .ok (.if_icmp .ge 18, 3) := by decide +kernel
theorem dX12_above_10 : decode cX12_above 10 = .ok (.aload_n 0, 1) := by decide +kernel
theorem dX12_above_11 : decode cX12_above 11 = .ok (.getfield 16, 3) := by decide +kernel
theorem dX12_above_14 : decode cX12_above 14 = .ok (.iload_n 2, 1) := by decide +kernel
theorem dX12_above_15 : decode cX12_above 15 = .ok (.iaload, 1) := by decide +kernel
theorem dX12_above_16 : decode cX12_above 16 = .ok (.ifCond .ne 9, 3) := by decide +kernel
theorem dX12_above_19 : decode cX12_above 19 = .ok (.iinc 2 1, 3) := by decide +kernel
theorem dX12_above_22 : decode cX12_above 22 = .ok (.goto (-18), 3) := by decide +kernel
theorem dX12_above_25 : decode cX12_above 25 = .ok (.iload_n 2, 1) := by decide +kernel
theorem dX12_above_26 : decode cX12_above 26 = .ok (.bipush 13, 2) := by decide +kernel
theorem dX12_above_28 : decode cX12_above 28 = .ok (.if_icmp .ge 7, 3) := by decide +kernel
theorem dX12_above_31 : decode cX12_above 31 = .ok (.iload_n 2, 1) := by decide +kernel
theorem dX12_above_32 : decode cX12_above 32 = .ok (.goto 4, 3) := by decide +kernel
theorem dX12_above_35 : decode cX12_above 35 = .ok (.iconst (-1), 1) := by decide +kernel
theorem dX12_above_36 : decode cX12_above 36 = .ok (.ireturn, 1) := by decide +kernel
theorem zy_X12_above : zYv yX12_above cX12_above 3 (some .int) 1 := ⟨zw_1473, zws_47, zw_12, zw_1474, by decide, by decide, by decide⟩
theorem c_X12_above_b4 {C : zC} {I : Nat → Nat → Int32} {J : Nat → Nat → Int64} {Rr : Nat → Nat → Option Nat} {D : zD} (N : Nat) (a1 : Int32) (v_work : (Nat → Int32)) (e_v_work : I 131 = v_work) (rr : Int32) (E : zE C RX12 cX12_above 3 (some .int) ({ frames := 0, cells := 0, slots := 0, locals := 0 } : Room)) (hQ : C.Q = zQi C ({ frames := 0, cells := 0, slots := 0, locals := 0 } : Room) rr (I, J, Rr, D)) (k25 : Int32 → Option R_pM_above) (hk25 : ∀ (x2 : Int32), k25 x2 = some rr → zB C (0, 0) 25 [(2, .int x2)] [] (I, J, Rr, D)) : ∀ (n9 : Nat) (x2 : Int32), pM_above_b4 N a1 v_work k25 n9 x2 = some rr → zB C (0, 0) 4 [(0, .ref (C.X.1 + 128)), (2, .int x2)] [] (I, J, Rr, D) := by
  refine zlp1_ind (P := fun (x2 : Int32) => zB C (0, 0) 4 [(0, .ref (C.X.1 + 128)), (2, .int x2)] [] (I, J, Rr, D)) (fun self ih => ?_)
  intro x2 h
  refine zb_iload_n E dX12_above_4 1 rfl rfl ?_
  refine zb_bipush E dX12_above_5 (v := 13) rfl ?_
  refine zb_icmp_ge E dX12_above_7 (tgt := 25) rfl (fun hc => ?_) (fun hc => ?_)
  · have h := if_t h hc
    refine zb_sub [1] rfl ?_
    exact hk25 x2 h
  · have h := if_f h hc
    refine zb_aload_n E dX12_above_10 0 rfl rfl ?_
    refine zb_get E 128 (by decide) (zF_128 C.X) rfl zin12 2 (by decide) zw_1170 (v := .ref (C.X.1 + 131)) rfl dX12_above_11 ?_
    refine zb_iload_n E dX12_above_14 1 rfl rfl ?_
    obtain ⟨g1, h⟩ := gd_s h
    refine zb_iald E 131 (by decide) zF_131 (f := v_work) (by exact e_v_work) (ib_in g1) dX12_above_15 ?_
    refine zb_if_ne E dX12_above_16 (tgt := 25) rfl (fun hc => ?_) (fun hc => ?_)
    · have h := if_f h hc
      refine zb_sub [1] rfl ?_
      exact hk25 x2 h
    · have h := if_t h hc
      refine zb_iinc E dX12_above_19 1 rfl (v := (x2 + 1)) rfl (by decide) (lv2 := [(2, .int (x2 + 1)), (0, .ref (C.X.1 + 128))]) rfl ?_
      refine zb_goto E dX12_above_22 (tgt := 4) rfl ?_
      refine zb_sub [1, 0] rfl ?_
      exact ih (x2 + 1) h
theorem c_X12_above_b25 {C : zC} {I : Nat → Nat → Int32} {J : Nat → Nat → Int64} {Rr : Nat → Nat → Option Nat} {D : zD} (N : Nat) (a1 : Int32) (v_work : (Nat → Int32)) (e_v_work : I 131 = v_work) (rr : Int32) (E : zE C RX12 cX12_above 3 (some .int) ({ frames := 0, cells := 0, slots := 0, locals := 0 } : Room)) (hQ : C.Q = zQi C ({ frames := 0, cells := 0, slots := 0, locals := 0 } : Room) rr (I, J, Rr, D)) (x2 : Int32) (h : pM_above_b25 N a1 v_work x2 = some rr) : zB C (0, 0) 25 [(2, .int x2)] [] (I, J, Rr, D) := by
  refine zb_iload_n E dX12_above_25 0 rfl rfl ?_
  refine zb_bipush E dX12_above_26 (v := 13) rfl ?_
  refine zb_icmp_ge E dX12_above_28 (tgt := 35) rfl (fun hc => ?_) (fun hc => ?_)
  · have h := if_t h hc
    refine zb_iconst E dX12_above_35 (v := (-1)) rfl ?_
    obtain rfl := zinj1 h
    exact zb_iret E hQ rfl ⟨Nat.zero_le _, Nat.zero_le _⟩ dX12_above_36
  · have h := if_f h hc
    refine zb_iload_n E dX12_above_31 0 rfl rfl ?_
    refine zb_goto E dX12_above_32 (tgt := 36) rfl ?_
    obtain rfl := zinj1 h
    exact zb_iret E hQ rfl ⟨Nat.zero_le _, Nat.zero_le _⟩ dX12_above_36
theorem c_X12_above_0 {C : zC} {I : Nat → Nat → Int32} {J : Nat → Nat → Int64} {Rr : Nat → Nat → Option Nat} {D : zD} (N : Nat) (a1 : Int32) (v_work : (Nat → Int32)) (e_v_work : I 131 = v_work) (rr : Int32) (E : zE C RX12 cX12_above 3 (some .int) ({ frames := 0, cells := 0, slots := 0, locals := 0 } : Room)) (hQ : C.Q = zQi C ({ frames := 0, cells := 0, slots := 0, locals := 0 } : Room) rr (I, J, Rr, D)) (h : pM_above N a1 v_work = some rr) : zB C (0, 0) 0 [(0, .ref (C.X.1 + 128)), (1, .int a1)] [] (I, J, Rr, D) := by
  refine zb_iload_n E dX12_above_0 1 rfl rfl ?_
  refine zb_iconst E dX12_above_1 (v := 1) rfl ?_
  refine zb_iadd E dX12_above_2 ?_
  refine zb_istore_n E dX12_above_3 rfl (by decide) (lv2 := [(2, .int (a1 + 1)), (0, .ref (C.X.1 + 128)), (1, .int a1)]) rfl ?_
  refine zb_sub [1, 0] rfl ?_
  exact c_X12_above_b4 N a1 v_work e_v_work rr E hQ _ (fun x2_z1 h => c_X12_above_b25 N a1 v_work e_v_work rr E hQ x2_z1 h) _ (a1 + 1) h
theorem c_X12_above {l : Launch} {X : zX} {I : Nat → Nat → Int32} {J : Nat → Nat → Int64} {Rr : Nat → Nat → Option Nat} {D : zD} {N : Nat} {a1 : Int32} (v_work : (Nat → Int32)) (e_v_work : I 131 = v_work) {rr : Int32} (h : pM_above N a1 v_work = some rr) : zMi l yX12_above cX12_above 3 (some .int) ({ frames := 0, cells := 0, slots := 0, locals := 0 } : Room) X [.ref (X.1 + 128), .int a1] (I, J, Rr, D) rr (I, J, Rr, D) := by
  refine zMi.of (by decide) (Nat.le_of_ble_eq_true rfl) (fun C E hl hX hQ => ?_)
  subst hl
  subst hX
  have eI0 : I = I := rfl
  have eJ0 : J = J := rfl
  refine zb_S (S2 := (I, J, Rr, D)) (zS_eq eI0.symm eJ0.symm) ?_
  exact c_X12_above_0 N a1 v_work e_v_work rr E hQ h
-- ChequeredClothModel.draw
theorem dX12_draw_0 : decode cX12_draw 0 = .ok (.iload_n 1, 1) := by decide +kernel
theorem dX12_draw_1 : decode cX12_draw 1 = .ok (.i2l, 1) := by decide +kernel
theorem dX12_draw_2 : decode cX12_draw 2 = .ok (.lconst 0, 1) := by decide +kernel
theorem dX12_draw_3 : decode cX12_draw 3 = .ok (.ldc2_w 205, 3) := by decide +kernel
theorem dX12_draw_6 : decode cX12_draw 6 = .ok (.invokestatic 199, 3) := by decide +kernel
theorem dX12_draw_9 : decode cX12_draw 9 = .ok (.ifCond .eq 13, 3) := by decide +kernel
theorem dX12_draw_12 : decode cX12_draw 12 = .ok (.iload_n 1, 1) := by decide +kernel
theorem dX12_draw_13 : decode cX12_draw 13 = .ok (.i2l, 1) := by decide +kernel
theorem dX12_draw_14 : decode cX12_draw 14 = .ok (.aload_n 0, 1) := by decide +kernel
theorem dX12_draw_15 : decode cX12_draw 15 = .ok (.invokevirtual 217, 3) := by decide +kernel
theorem dX12_draw_18 : decode cX12_draw 18 = .ok (.lcmp, 1) := by decide +kernel
theorem dX12_draw_19 : decode cX12_draw 19 = .ok (.ifCond .le 5, 3) := by decide +kernel
theorem dX12_draw_22 : decode cX12_draw 22 = .ok (.iconst (-1), 1) := by decide +kernel
theorem dX12_draw_23 : decode cX12_draw 23 = .ok (.ireturn, 1) := by decide +kernel
theorem dX12_draw_24 : decode cX12_draw 24 = .ok (.aload_n 0, 1) := by decide +kernel
theorem dX12_draw_25 : decode cX12_draw 25 = .ok (.iload_n 1, 1) := by decide +kernel
theorem dX12_draw_26 : decode cX12_draw 26 = .ok (.invokevirtual 207, 3) := by decide +kernel
theorem dX12_draw_29 : decode cX12_draw 29 = .ok (.aload_n 0, 1) := by decide +kernel
theorem dX12_draw_30 : decode cX12_draw 30 = .ok (.invokevirtual 211, 3) := by decide +kernel
theorem dX12_draw_33 : decode cX12_draw 33 = .ok (.iconst 0, 1) := by decide +kernel
theorem dX12_draw_34 : decode cX12_draw 34 = .ok (.istore_n 2, 1) := by decide +kernel
theorem dX12_draw_35 : decode cX12_draw 35 = .ok (.iconst 0, 1) := by decide +kernel
theorem dX12_draw_36 : decode cX12_draw 36 = .ok (.istore_n 3, 1) := by decide +kernel
theorem dX12_draw_37 : decode cX12_draw 37 = .ok (.iload_n 3, 1) := by decide +kernel
theorem dX12_draw_38 : decode cX12_draw 38 = .ok (.bipush 13, 2) := by decide +kernel
theorem dX12_draw_40 : decode cX12_draw 40 = .ok (.if_icmp .ge 108, 3) := by decide +kernel
theorem dX12_draw_43 : decode cX12_draw 43 = .ok (.aload_n 0, 1) := by decide +kernel
theorem dX12_draw_44 : decode cX12_draw 44 = .ok (.getfield 16, 3) := by decide +kernel
theorem dX12_draw_47 : decode cX12_draw 47 = .ok (.iload_n 3, 1) := by decide +kernel
theorem dX12_draw_48 : decode cX12_draw 48 = .ok (.iaload, 1) := by decide +kernel
theorem dX12_draw_49 : decode cX12_draw 49 = .ok (.aload_n 0, 1) := by decide +kernel
theorem dX12_draw_50 : decode cX12_draw 50 = .ok (.getfield 19, 3) := by decide +kernel
theorem dX12_draw_53 : decode cX12_draw 53 = .ok (.iload_n 3, 1) := by decide +kernel
theorem dX12_draw_54 : decode cX12_draw 54 = .ok (.iaload, 1) := by decide +kernel
theorem dX12_draw_55 : decode cX12_draw 55 = .ok (.if_icmp .ge 72, 3) := by decide +kernel
theorem dX12_draw_58 : decode cX12_draw 58 = .ok (.aload_n 0, 1) := by decide +kernel
theorem dX12_draw_59 : decode cX12_draw 59 = .ok (.iload_n 3, 1) := by decide +kernel
theorem dX12_draw_60 : decode cX12_draw 60 = .ok (.invokevirtual 221, 3) := by decide +kernel
theorem dX12_draw_63 : decode cX12_draw 63 = .ok (.istore 4, 2) := by decide +kernel
theorem dX12_draw_65 : decode cX12_draw 65 = .ok (.iload 4, 2) := by decide +kernel
theorem dX12_draw_67 : decode cX12_draw 67 = .ok (.iconst (-1), 1) := by decide +kernel
theorem dX12_draw_68 : decode cX12_draw 68 = .ok (.if_icmp .ne 5, 3) := by decide +kernel
theorem dX12_draw_71 : decode cX12_draw 71 = .ok (.iconst (-1), 1) := by decide +kernel
theorem dX12_draw_72 : decode cX12_draw 72 = .ok (.ireturn, 1) := by decide +kernel
theorem dX12_draw_73 : decode cX12_draw 73 = .ok (.iload 4, 2) := by decide +kernel
theorem dX12_draw_75 : decode cX12_draw 75 = .ok (.istore 5, 2) := by decide +kernel
theorem dX12_draw_77 : decode cX12_draw 77 = .ok (.iload 5, 2) := by decide +kernel
theorem dX12_draw_79 : decode cX12_draw 79 = .ok (.iload_n 3, 1) := by decide +kernel
theorem dX12_draw_80 : decode cX12_draw 80 = .ok (.if_icmp .le 44, 3) := by decide +kernel
theorem dX12_draw_83 : decode cX12_draw 83 = .ok (.aload_n 0, 1) := by decide +kernel
theorem dX12_draw_84 : decode cX12_draw 84 = .ok (.getfield 16, 3) := by decide +kernel
theorem dX12_draw_87 : decode cX12_draw 87 = .ok (.iload 5, 2) := by decide +kernel
theorem dX12_draw_89 : decode cX12_draw 89 = .ok (.dup2, 1) := by decide +kernel
theorem dX12_draw_90 : decode cX12_draw 90 = .ok (.iaload, 1) := by decide +kernel
theorem dX12_draw_91 : decode cX12_draw 91 = .ok (.iconst 1, 1) := by decide +kernel
theorem dX12_draw_92 : decode cX12_draw 92 = .ok (.isub, 1) := by decide +kernel
theorem dX12_draw_93 : decode cX12_draw 93 = .ok (.iastore, 1) := by decide +kernel
theorem dX12_draw_94 : decode cX12_draw 94 = .ok (.aload_n 0, 1) := by decide +kernel
theorem dX12_draw_95 : decode cX12_draw 95 = .ok (.getfield 16, 3) := by decide +kernel
theorem dX12_draw_98 : decode cX12_draw 98 = .ok (.iload 5, 2) := by decide +kernel
theorem dX12_draw_100 : decode cX12_draw 100 = .ok (.iconst 1, 1) := by decide +kernel
theorem dX12_draw_101 : decode cX12_draw 101 = .ok (.isub, 1) := by decide +kernel
theorem dX12_draw_102 : decode cX12_draw 102 = .ok (.dup2, 1) := by decide +kernel
theorem dX12_draw_103 : decode cX12_draw 103 = .ok (.iaload, 1) := by decide +kernel
theorem dX12_draw_104 : decode cX12_draw 104 = .ok (.aload_n 0, 1) := by decide +kernel
theorem dX12_draw_105 : decode cX12_draw 105 = .ok (.getfield 7, 3) := by decide +kernel
theorem dX12_draw_108 : decode cX12_draw 108 = .ok (.iload 5, 2) := by decide +kernel
theorem dX12_draw_110 : decode cX12_draw 110 = .ok (.iconst 1, 1) := by decide +kernel
theorem dX12_draw_111 : decode cX12_draw 111 = .ok (.isub, 1) := by decide +kernel
theorem dX12_draw_112 : decode cX12_draw 112 = .ok (.iaload, 1) := by decide +kernel
theorem dX12_draw_113 : decode cX12_draw 113 = .ok (.iadd, 1) := by decide +kernel
theorem dX12_draw_114 : decode cX12_draw 114 = .ok (.iastore, 1) := by decide +kernel
theorem dX12_draw_115 : decode cX12_draw 115 = .ok (.iinc 2 1, 3) := by decide +kernel
theorem dX12_draw_118 : decode cX12_draw 118 = .ok (.iinc 5 (-1), 3) := by decide +kernel
theorem dX12_draw_121 : decode cX12_draw 121 = .ok (.goto (-44), 3) := by decide +kernel
theorem dX12_draw_124 : decode cX12_draw 124 = .ok (.goto (-81), 3) := by decide +kernel
theorem dX12_draw_127 : decode cX12_draw 127 = .ok (.aload_n 0, 1) := by decide +kernel
theorem dX12_draw_128 : decode cX12_draw 128 = .ok (.getfield 16, 3) := by decide +kernel
theorem dX12_draw_131 : decode cX12_draw 131 = .ok (.iload_n 3, 1) := by decide +kernel
theorem dX12_draw_132 : decode cX12_draw 132 = .ok (.dup2, 1) := by decide +kernel
theorem dX12_draw_133 : decode cX12_draw 133 = .ok (.iaload, 1) := by decide +kernel
theorem dX12_draw_134 : decode cX12_draw 134 = .ok (.aload_n 0, 1) := by decide +kernel
theorem dX12_draw_135 : decode cX12_draw 135 = .ok (.getfield 19, 3) := by decide +kernel
theorem dX12_draw_138 : decode cX12_draw 138 = .ok (.iload_n 3, 1) := by decide +kernel
theorem dX12_draw_139 : decode cX12_draw 139 = .ok (.iaload, 1) := by decide +kernel
theorem dX12_draw_140 : decode cX12_draw 140 = .ok (.isub, 1) := by decide +kernel
theorem dX12_draw_141 : decode cX12_draw 141 = .ok (.iastore, 1) := by decide +kernel
theorem dX12_draw_142 : decode cX12_draw 142 = .ok (.iinc 3 1, 3) := by decide +kernel
theorem dX12_draw_145 : decode cX12_draw 145 = .ok (.goto (-108), 3) := by decide +kernel
theorem dX12_draw_148 : decode cX12_draw 148 = .ok (.aload_n 0, 1) := by decide +kernel
theorem dX12_draw_149 : decode cX12_draw 149 = .ok (.invokevirtual 214, 3) := by decide +kernel
theorem dX12_draw_152 : decode cX12_draw 152 = .ok (.iload_n 2, 1) := by decide +kernel
theorem dX12_draw_153 : decode cX12_draw 153 = .ok (.ireturn, 1) := by decide +kernel
theorem zy_X12_draw : zYv yX12_draw cX12_draw 6 (some .int) 1 := ⟨zw_1467, zw_1468, zw_12, zw_1469, by decide, by decide, by decide⟩
theorem c_X12_draw_b77 {C : zC} {I : Nat → Nat → Int32} {J : Nat → Nat → Int64} {Rr : Nat → Nat → Option Nat} {D : zD} (N : Nat) (a1 : Int32) (v_ratio : (Nat → Int32)) (e_v_ratio : I 129 = v_ratio) (rr : Int32) (y_v_lie : (Nat → Int32)) (y_v_plain : (Nat → Int32)) (y_v_work : (Nat → Int32)) (E : zE C RX12 cX12_draw 6 (some .int) ({ frames := 2, cells := 0, slots := 0, locals := 48 } : Room)) (hQ : C.Q = zQi C ({ frames := 2, cells := 0, slots := 0, locals := 48 } : Room) rr ((va_up (va_up (va_up I 130 y_v_lie) 131 y_v_work) 132 y_v_plain), J, Rr, D)) (x3 : Int32) (v_lie : (Nat → Int32)) (v_plain : (Nat → Int32)) (k124 : Int32 → (Nat → Int32) → Option R_pM_draw) (hk124 : ∀ (x2 : Int32) (v_work : (Nat → Int32)), k124 x2 v_work = some (rr, y_v_lie, y_v_plain, y_v_work) → zB C (0, 0) 124 [(0, .ref (C.X.1 + 128)), (2, .int x2), (3, .int x3)] [] ((va_up (va_up (va_up I 130 v_lie) 131 v_work) 132 v_plain), J, Rr, D)) : ∀ (n9 : Nat) (x2 : Int32) (x5 : Int32) (v_work : (Nat → Int32)), pM_draw_b77 N a1 v_ratio x3 v_lie v_plain k124 n9 x2 x5 v_work = some (rr, y_v_lie, y_v_plain, y_v_work) → zB C (0, 0) 77 [(0, .ref (C.X.1 + 128)), (2, .int x2), (3, .int x3), (5, .int x5)] [] ((va_up (va_up (va_up I 130 v_lie) 131 v_work) 132 v_plain), J, Rr, D) := by
  refine zlp3_ind (P := fun (x2 : Int32) (x5 : Int32) (v_work : (Nat → Int32)) => zB C (0, 0) 77 [(0, .ref (C.X.1 + 128)), (2, .int x2), (3, .int x3), (5, .int x5)] [] ((va_up (va_up (va_up I 130 v_lie) 131 v_work) 132 v_plain), J, Rr, D)) (fun self ih => ?_)
  intro x2 x5 v_work h
  refine zb_iload E dX12_draw_77 3 rfl ?_
  refine zb_iload_n E dX12_draw_79 2 rfl rfl ?_
  refine zb_icmp_le E dX12_draw_80 (tgt := 124) rfl (fun hc => ?_) (fun hc => ?_)
  · have h := if_t h hc
    refine zb_sub [0, 1, 2] rfl ?_
    exact hk124 x2 v_work h
  · have h := if_f h hc
    refine zb_aload_n E dX12_draw_83 0 rfl rfl ?_
    refine zb_get E 128 (by decide) (zF_128 C.X) rfl zin12 2 (by decide) zw_1170 (v := .ref (C.X.1 + 131)) rfl dX12_draw_84 ?_
    refine zb_iload E dX12_draw_87 3 rfl ?_
    refine zb_dup2_11 E dX12_draw_89 rfl rfl ?_
    obtain ⟨g9, h⟩ := gd_s h
    refine zb_iald E 131 (by decide) zF_131 (f := v_work) rfl (ib_in g9) dX12_draw_90 ?_
    refine zb_iconst E dX12_draw_91 (v := 1) rfl ?_
    refine zb_isub E dX12_draw_92 ?_
    refine zb_iast E 131 (by decide) zF_131 (f := v_work) rfl (ib_in g9) dX12_draw_93 (I2 := (va_up (va_up (va_up I 130 v_lie) 131 (upd v_work (ix x5) ((v_work (ix x5)) - 1))) 132 v_plain)) (zn2 (by decide : (132 : Nat) ≠ 131)) ?_
    refine zb_aload_n E dX12_draw_94 0 rfl rfl ?_
    refine zb_get E 128 (by decide) (zF_128 C.X) rfl zin12 2 (by decide) zw_1170 (v := .ref (C.X.1 + 131)) rfl dX12_draw_95 ?_
    refine zb_iload E dX12_draw_98 3 rfl ?_
    refine zb_iconst E dX12_draw_100 (v := 1) rfl ?_
    refine zb_isub E dX12_draw_101 ?_
    refine zb_dup2_11 E dX12_draw_102 rfl rfl ?_
    obtain ⟨g10, h⟩ := gd_s h
    refine zb_iald E 131 (by decide) zF_131 (f := (upd v_work (ix x5) ((v_work (ix x5)) - 1))) rfl (ib_in g10) dX12_draw_103 ?_
    refine zb_aload_n E dX12_draw_104 0 rfl rfl ?_
    refine zb_get E 128 (by decide) (zF_128 C.X) rfl zin12 0 (by decide) zw_1168 (v := .ref (C.X.1 + 129)) rfl dX12_draw_105 ?_
    refine zb_iload E dX12_draw_108 3 rfl ?_
    refine zb_iconst E dX12_draw_110 (v := 1) rfl ?_
    refine zb_isub E dX12_draw_111 ?_
    obtain ⟨g11, h⟩ := gd_s h
    refine zb_iald E 129 (by decide) zF_129 (f := v_ratio) (by exact e_v_ratio) (ib_in g11) dX12_draw_112 ?_
    refine zb_iadd E dX12_draw_113 ?_
    refine zb_iast E 131 (by decide) zF_131 (f := (upd v_work (ix x5) ((v_work (ix x5)) - 1))) rfl (ib_in g10) dX12_draw_114 (I2 := (va_up (va_up (va_up I 130 v_lie) 131 (upd (upd v_work (ix x5) ((v_work (ix x5)) - 1)) (ix (x5 - 1)) (((upd v_work (ix x5) ((v_work (ix x5)) - 1)) (ix (x5 - 1))) + (v_ratio (ix (x5 - 1)))))) 132 v_plain)) (zn2 (by decide : (132 : Nat) ≠ 131)) ?_
    refine zb_iinc E dX12_draw_115 1 rfl (v := (x2 + 1)) rfl (by decide) (lv2 := [(2, .int (x2 + 1)), (0, .ref (C.X.1 + 128)), (3, .int x3), (5, .int x5)]) rfl ?_
    refine zb_iinc E dX12_draw_118 3 rfl (v := (x5 + (-1))) rfl (by decide) (lv2 := [(5, .int (x5 + (-1))), (2, .int (x2 + 1)), (0, .ref (C.X.1 + 128)), (3, .int x3)]) rfl ?_
    refine zb_goto E dX12_draw_121 (tgt := 77) rfl ?_
    refine zb_sub [2, 1, 3, 0] rfl ?_
    exact ih (x2 + 1) (x5 + (-1)) (upd (upd v_work (ix x5) ((v_work (ix x5)) - 1)) (ix (x5 - 1)) (((upd v_work (ix x5) ((v_work (ix x5)) - 1)) (ix (x5 - 1))) + (v_ratio (ix (x5 - 1))))) h
theorem c_X12_draw_b124 {C : zC} {I : Nat → Nat → Int32} {J : Nat → Nat → Int64} {Rr : Nat → Nat → Option Nat} {D : zD} (N : Nat) (a1 : Int32) (v_ratio : (Nat → Int32)) (e_v_ratio : I 129 = v_ratio) (rr : Int32) (y_v_lie : (Nat → Int32)) (y_v_plain : (Nat → Int32)) (y_v_work : (Nat → Int32)) (E : zE C RX12 cX12_draw 6 (some .int) ({ frames := 2, cells := 0, slots := 0, locals := 48 } : Room)) (hQ : C.Q = zQi C ({ frames := 2, cells := 0, slots := 0, locals := 48 } : Room) rr ((va_up (va_up (va_up I 130 y_v_lie) 131 y_v_work) 132 y_v_plain), J, Rr, D)) (x2 : Int32) (x3 : Int32) (v_lie : (Nat → Int32)) (v_plain : (Nat → Int32)) (v_work : (Nat → Int32)) (self : Int32 → (Nat → Int32) → Option R_pM_draw) (ih : ∀ (x2 : Int32) (v_work : (Nat → Int32)), self x2 v_work = some (rr, y_v_lie, y_v_plain, y_v_work) → zB C (0, 0) 43 [(0, .ref (C.X.1 + 128)), (2, .int x2), (3, .int x3)] [] ((va_up (va_up (va_up I 130 v_lie) 131 v_work) 132 v_plain), J, Rr, D)) (k127 : Int32 → (Nat → Int32) → Option R_pM_draw) (hk127 : ∀ (x2 : Int32) (v_work : (Nat → Int32)), k127 x2 v_work = some (rr, y_v_lie, y_v_plain, y_v_work) → zB C (0, 0) 127 [(0, .ref (C.X.1 + 128)), (2, .int x2), (3, .int x3)] [] ((va_up (va_up (va_up I 130 v_lie) 131 v_work) 132 v_plain), J, Rr, D)) (h : pM_draw_b124 N a1 v_ratio self k127 x2 x3 v_lie v_plain v_work = some (rr, y_v_lie, y_v_plain, y_v_work)) : zB C (0, 0) 124 [(0, .ref (C.X.1 + 128)), (2, .int x2), (3, .int x3)] [] ((va_up (va_up (va_up I 130 v_lie) 131 v_work) 132 v_plain), J, Rr, D) := by
  refine zb_goto E dX12_draw_124 (tgt := 43) rfl ?_
  exact ih x2 v_work h
theorem c_X12_draw_b43 {C : zC} {I : Nat → Nat → Int32} {J : Nat → Nat → Int64} {Rr : Nat → Nat → Option Nat} {D : zD} (N : Nat) (a1 : Int32) (v_ratio : (Nat → Int32)) (e_v_ratio : I 129 = v_ratio) (rr : Int32) (y_v_lie : (Nat → Int32)) (y_v_plain : (Nat → Int32)) (y_v_work : (Nat → Int32)) (E : zE C RX12 cX12_draw 6 (some .int) ({ frames := 2, cells := 0, slots := 0, locals := 48 } : Room)) (hQ : C.Q = zQi C ({ frames := 2, cells := 0, slots := 0, locals := 48 } : Room) rr ((va_up (va_up (va_up I 130 y_v_lie) 131 y_v_work) 132 y_v_plain), J, Rr, D)) (x3 : Int32) (v_lie : (Nat → Int32)) (v_plain : (Nat → Int32)) (k127 : Int32 → (Nat → Int32) → Option R_pM_draw) (hk127 : ∀ (x2 : Int32) (v_work : (Nat → Int32)), k127 x2 v_work = some (rr, y_v_lie, y_v_plain, y_v_work) → zB C (0, 0) 127 [(0, .ref (C.X.1 + 128)), (2, .int x2), (3, .int x3)] [] ((va_up (va_up (va_up I 130 v_lie) 131 v_work) 132 v_plain), J, Rr, D)) : ∀ (n9 : Nat) (x2 : Int32) (v_work : (Nat → Int32)), pM_draw_b43 N a1 v_ratio x3 v_lie v_plain k127 n9 x2 v_work = some (rr, y_v_lie, y_v_plain, y_v_work) → zB C (0, 0) 43 [(0, .ref (C.X.1 + 128)), (2, .int x2), (3, .int x3)] [] ((va_up (va_up (va_up I 130 v_lie) 131 v_work) 132 v_plain), J, Rr, D) := by
  refine zlp2_ind (P := fun (x2 : Int32) (v_work : (Nat → Int32)) => zB C (0, 0) 43 [(0, .ref (C.X.1 + 128)), (2, .int x2), (3, .int x3)] [] ((va_up (va_up (va_up I 130 v_lie) 131 v_work) 132 v_plain), J, Rr, D)) (fun self ih => ?_)
  intro x2 v_work h
  refine zb_aload_n E dX12_draw_43 0 rfl rfl ?_
  refine zb_get E 128 (by decide) (zF_128 C.X) rfl zin12 2 (by decide) zw_1170 (v := .ref (C.X.1 + 131)) rfl dX12_draw_44 ?_
  refine zb_iload_n E dX12_draw_47 2 rfl rfl ?_
  obtain ⟨g6, h⟩ := gd_s h
  refine zb_iald E 131 (by decide) zF_131 (f := v_work) rfl (ib_in g6) dX12_draw_48 ?_
  refine zb_aload_n E dX12_draw_49 0 rfl rfl ?_
  refine zb_get E 128 (by decide) (zF_128 C.X) rfl zin12 3 (by decide) zw_1171 (v := .ref (C.X.1 + 132)) rfl dX12_draw_50 ?_
  refine zb_iload_n E dX12_draw_53 2 rfl rfl ?_
  refine zb_iald E 132 (by decide) zF_132 (f := v_plain) rfl (ib_in g6) dX12_draw_54 ?_
  refine zb_icmp_ge E dX12_draw_55 (tgt := 127) rfl (fun hc => ?_) (fun hc => ?_)
  · have h := if_t h hc
    exact hk127 x2 v_work h
  · have h := if_f h hc
    refine zb_aload_n E dX12_draw_58 0 rfl rfl ?_
    refine zb_iload_n E dX12_draw_59 2 rfl rfl ?_
    obtain ⟨rc7, hc_60, h⟩ := bd1_s h
    refine zb_cVi E [.int x3] 128 zy_X12_above zw_1471 (by decide) (zF_128 _ _ _ _) rfl (c_X12_above v_work rfl hc_60) (by decide) rfl rfl (by first | decide | simp [Value.category]) dX12_draw_60 (cs2 := (0, 0)) rfl ?_
    refine zb_istore E dX12_draw_63 (by decide) (lv2 := [(4, .int rc7), (0, .ref (C.X.1 + 128)), (2, .int x2), (3, .int x3)]) rfl ?_
    refine zb_iload E dX12_draw_65 0 rfl ?_
    refine zb_iconst E dX12_draw_67 (v := (-1)) rfl ?_
    refine zb_icmp_ne E dX12_draw_68 (tgt := 73) rfl (fun hc => ?_) (fun hc => ?_)
    · have h := if_f h hc
      refine zb_iload E dX12_draw_73 0 rfl ?_
      refine zb_istore E dX12_draw_75 (by decide) (lv2 := [(5, .int rc7), (4, .int rc7), (0, .ref (C.X.1 + 128)), (2, .int x2), (3, .int x3)]) rfl ?_
      refine zb_sub [2, 3, 4, 0] rfl ?_
      exact c_X12_draw_b77 N a1 v_ratio e_v_ratio rr y_v_lie y_v_plain y_v_work E hQ x3 v_lie v_plain _ (fun x2_z1 v_work_z2 h => c_X12_draw_b124 N a1 v_ratio e_v_ratio rr y_v_lie y_v_plain y_v_work E hQ x2_z1 x3 v_lie v_plain v_work_z2 self ih k127 hk127 h) _ x2 rc7 v_work h
    · have h := if_t h hc
      refine zb_iconst E dX12_draw_71 (v := (-1)) rfl ?_
      obtain ⟨rfl, rfl, rfl, rfl⟩ := zinj4 h
      exact zb_iret E hQ rfl ⟨Nat.zero_le _, Nat.zero_le _⟩ dX12_draw_72
theorem c_X12_draw_b127 {C : zC} {I : Nat → Nat → Int32} {J : Nat → Nat → Int64} {Rr : Nat → Nat → Option Nat} {D : zD} (N : Nat) (a1 : Int32) (v_ratio : (Nat → Int32)) (e_v_ratio : I 129 = v_ratio) (rr : Int32) (y_v_lie : (Nat → Int32)) (y_v_plain : (Nat → Int32)) (y_v_work : (Nat → Int32)) (E : zE C RX12 cX12_draw 6 (some .int) ({ frames := 2, cells := 0, slots := 0, locals := 48 } : Room)) (hQ : C.Q = zQi C ({ frames := 2, cells := 0, slots := 0, locals := 48 } : Room) rr ((va_up (va_up (va_up I 130 y_v_lie) 131 y_v_work) 132 y_v_plain), J, Rr, D)) (x2 : Int32) (x3 : Int32) (v_lie : (Nat → Int32)) (v_plain : (Nat → Int32)) (v_work : (Nat → Int32)) (self : Int32 → Int32 → (Nat → Int32) → Option R_pM_draw) (ih : ∀ (x2 : Int32) (x3 : Int32) (v_work : (Nat → Int32)), self x2 x3 v_work = some (rr, y_v_lie, y_v_plain, y_v_work) → zB C (0, 0) 37 [(0, .ref (C.X.1 + 128)), (2, .int x2), (3, .int x3)] [] ((va_up (va_up (va_up I 130 v_lie) 131 v_work) 132 v_plain), J, Rr, D)) (k148 : Int32 → (Nat → Int32) → Option R_pM_draw) (hk148 : ∀ (x2 : Int32) (v_work : (Nat → Int32)), k148 x2 v_work = some (rr, y_v_lie, y_v_plain, y_v_work) → zB C (0, 0) 148 [(0, .ref (C.X.1 + 128)), (2, .int x2)] [] ((va_up (va_up (va_up I 130 v_lie) 131 v_work) 132 v_plain), J, Rr, D)) (h : pM_draw_b127 N a1 v_ratio self k148 x2 x3 v_lie v_plain v_work = some (rr, y_v_lie, y_v_plain, y_v_work)) : zB C (0, 0) 127 [(0, .ref (C.X.1 + 128)), (2, .int x2), (3, .int x3)] [] ((va_up (va_up (va_up I 130 v_lie) 131 v_work) 132 v_plain), J, Rr, D) := by
  refine zb_aload_n E dX12_draw_127 0 rfl rfl ?_
  refine zb_get E 128 (by decide) (zF_128 C.X) rfl zin12 2 (by decide) zw_1170 (v := .ref (C.X.1 + 131)) rfl dX12_draw_128 ?_
  refine zb_iload_n E dX12_draw_131 2 rfl rfl ?_
  refine zb_dup2_11 E dX12_draw_132 rfl rfl ?_
  obtain ⟨g8, h⟩ := gd_s h
  refine zb_iald E 131 (by decide) zF_131 (f := v_work) rfl (ib_in g8) dX12_draw_133 ?_
  refine zb_aload_n E dX12_draw_134 0 rfl rfl ?_
  refine zb_get E 128 (by decide) (zF_128 C.X) rfl zin12 3 (by decide) zw_1171 (v := .ref (C.X.1 + 132)) rfl dX12_draw_135 ?_
  refine zb_iload_n E dX12_draw_138 2 rfl rfl ?_
  refine zb_iald E 132 (by decide) zF_132 (f := v_plain) rfl (ib_in g8) dX12_draw_139 ?_
  refine zb_isub E dX12_draw_140 ?_
  refine zb_iast E 131 (by decide) zF_131 (f := v_work) rfl (ib_in g8) dX12_draw_141 (I2 := (va_up (va_up (va_up I 130 v_lie) 131 (upd v_work (ix x3) ((v_work (ix x3)) - (v_plain (ix x3))))) 132 v_plain)) (zn2 (by decide : (132 : Nat) ≠ 131)) ?_
  refine zb_iinc E dX12_draw_142 2 rfl (v := (x3 + 1)) rfl (by decide) (lv2 := [(3, .int (x3 + 1)), (0, .ref (C.X.1 + 128)), (2, .int x2)]) rfl ?_
  refine zb_goto E dX12_draw_145 (tgt := 37) rfl ?_
  refine zb_sub [1, 2, 0] rfl ?_
  exact ih x2 (x3 + 1) (upd v_work (ix x3) ((v_work (ix x3)) - (v_plain (ix x3)))) h
theorem c_X12_draw_b37 {C : zC} {I : Nat → Nat → Int32} {J : Nat → Nat → Int64} {Rr : Nat → Nat → Option Nat} {D : zD} (N : Nat) (a1 : Int32) (v_ratio : (Nat → Int32)) (e_v_ratio : I 129 = v_ratio) (rr : Int32) (y_v_lie : (Nat → Int32)) (y_v_plain : (Nat → Int32)) (y_v_work : (Nat → Int32)) (E : zE C RX12 cX12_draw 6 (some .int) ({ frames := 2, cells := 0, slots := 0, locals := 48 } : Room)) (hQ : C.Q = zQi C ({ frames := 2, cells := 0, slots := 0, locals := 48 } : Room) rr ((va_up (va_up (va_up I 130 y_v_lie) 131 y_v_work) 132 y_v_plain), J, Rr, D)) (v_lie : (Nat → Int32)) (v_plain : (Nat → Int32)) (k148 : Int32 → (Nat → Int32) → Option R_pM_draw) (hk148 : ∀ (x2 : Int32) (v_work : (Nat → Int32)), k148 x2 v_work = some (rr, y_v_lie, y_v_plain, y_v_work) → zB C (0, 0) 148 [(0, .ref (C.X.1 + 128)), (2, .int x2)] [] ((va_up (va_up (va_up I 130 v_lie) 131 v_work) 132 v_plain), J, Rr, D)) : ∀ (n9 : Nat) (x2 : Int32) (x3 : Int32) (v_work : (Nat → Int32)), pM_draw_b37 N a1 v_ratio v_lie v_plain k148 n9 x2 x3 v_work = some (rr, y_v_lie, y_v_plain, y_v_work) → zB C (0, 0) 37 [(0, .ref (C.X.1 + 128)), (2, .int x2), (3, .int x3)] [] ((va_up (va_up (va_up I 130 v_lie) 131 v_work) 132 v_plain), J, Rr, D) := by
  refine zlp3_ind (P := fun (x2 : Int32) (x3 : Int32) (v_work : (Nat → Int32)) => zB C (0, 0) 37 [(0, .ref (C.X.1 + 128)), (2, .int x2), (3, .int x3)] [] ((va_up (va_up (va_up I 130 v_lie) 131 v_work) 132 v_plain), J, Rr, D)) (fun self ih => ?_)
  intro x2 x3 v_work h
  refine zb_iload_n E dX12_draw_37 2 rfl rfl ?_
  refine zb_bipush E dX12_draw_38 (v := 13) rfl ?_
  refine zb_icmp_ge E dX12_draw_40 (tgt := 148) rfl (fun hc => ?_) (fun hc => ?_)
  · have h := if_t h hc
    refine zb_sub [0, 1] rfl ?_
    exact hk148 x2 v_work h
  · have h := if_f h hc
    exact c_X12_draw_b43 N a1 v_ratio e_v_ratio rr y_v_lie y_v_plain y_v_work E hQ x3 v_lie v_plain _ (fun x2_z3 v_work_z4 h => c_X12_draw_b127 N a1 v_ratio e_v_ratio rr y_v_lie y_v_plain y_v_work E hQ x2_z3 x3 v_lie v_plain v_work_z4 self ih k148 hk148 h) _ x2 v_work h
theorem c_X12_draw_b148 {C : zC} {I : Nat → Nat → Int32} {J : Nat → Nat → Int64} {Rr : Nat → Nat → Option Nat} {D : zD} (N : Nat) (a1 : Int32) (v_ratio : (Nat → Int32)) (e_v_ratio : I 129 = v_ratio) (rr : Int32) (y_v_lie : (Nat → Int32)) (y_v_plain : (Nat → Int32)) (y_v_work : (Nat → Int32)) (E : zE C RX12 cX12_draw 6 (some .int) ({ frames := 2, cells := 0, slots := 0, locals := 48 } : Room)) (hQ : C.Q = zQi C ({ frames := 2, cells := 0, slots := 0, locals := 48 } : Room) rr ((va_up (va_up (va_up I 130 y_v_lie) 131 y_v_work) 132 y_v_plain), J, Rr, D)) (x2 : Int32) (v_lie : (Nat → Int32)) (v_plain : (Nat → Int32)) (v_work : (Nat → Int32)) (h : pM_draw_b148 N a1 v_ratio x2 v_lie v_plain v_work = some (rr, y_v_lie, y_v_plain, y_v_work)) : zB C (0, 0) 148 [(0, .ref (C.X.1 + 128)), (2, .int x2)] [] ((va_up (va_up (va_up I 130 v_lie) 131 v_work) 132 v_plain), J, Rr, D) := by
  refine zb_aload_n E dX12_draw_148 0 rfl rfl ?_
  obtain ⟨v_lie_c5, hc_149, h⟩ := bd1_s h
  refine zb_cVv E [] 128 zy_X12_stays zw_1462 (by decide) (zF_128 _ _ _ _) rfl (c_X12_stays v_work rfl v_lie rfl hc_149) (by decide) rfl rfl (by first | decide | simp [Value.category]) dX12_draw_149 (cs2 := (0, 0)) rfl ?_
  refine zb_S (S2 := ((va_up (va_up (va_up I 130 v_lie_c5) 131 v_work) 132 v_plain), J, Rr, D)) (zS_eq (zn3 (by decide : (132 : Nat) ≠ 130) (by decide : (131 : Nat) ≠ 130)) rfl) ?_
  refine zb_iload_n E dX12_draw_152 1 rfl rfl ?_
  obtain ⟨rfl, rfl, rfl, rfl⟩ := zinj4 h
  exact zb_iret E hQ rfl ⟨Nat.zero_le _, Nat.zero_le _⟩ dX12_draw_153
theorem c_X12_draw_0 {C : zC} {I : Nat → Nat → Int32} {J : Nat → Nat → Int64} {Rr : Nat → Nat → Option Nat} {D : zD} (N : Nat) (a1 : Int32) (v_ratio : (Nat → Int32)) (e_v_ratio : I 129 = v_ratio) (rr : Int32) (y_v_lie : (Nat → Int32)) (y_v_plain : (Nat → Int32)) (y_v_work : (Nat → Int32)) (E : zE C RX12 cX12_draw 6 (some .int) ({ frames := 2, cells := 0, slots := 0, locals := 48 } : Room)) (hQ : C.Q = zQi C ({ frames := 2, cells := 0, slots := 0, locals := 48 } : Room) rr ((va_up (va_up (va_up I 130 y_v_lie) 131 y_v_work) 132 y_v_plain), J, Rr, D)) (v_lie : (Nat → Int32)) (v_plain : (Nat → Int32)) (v_work : (Nat → Int32)) (h : pM_draw N a1 v_lie v_plain v_ratio v_work = some (rr, y_v_lie, y_v_plain, y_v_work)) : zB C (0, 0) 0 [(0, .ref (C.X.1 + 128)), (1, .int a1)] [] ((va_up (va_up (va_up I 130 v_lie) 131 v_work) 132 v_plain), J, Rr, D) := by
  refine zb_iload_n E dX12_draw_0 1 rfl rfl ?_
  refine zb_i2l E dX12_draw_1 ?_
  refine zb_lconst E dX12_draw_2 (v := 0) rfl ?_
  refine zb_ldc2 E dX12_draw_3 (v := 1000000000) zw_1449 ?_
  obtain ⟨rc1, hc_6, h⟩ := bd1_s h
  refine zb_cSi E [.long (i2l a1), .long 0, .long 1000000000] zy_X12_isIn zw_1429 (c_X12_isIn hc_6) (by decide) rfl rfl (by first | decide | simp [Value.category]) dX12_draw_6 (cs2 := (0, 0)) rfl ?_
  refine zb_if_eq E dX12_draw_9 (tgt := 22) rfl (fun hc => ?_) (fun hc => ?_)
  · have h := if_t h hc
    refine zb_iconst E dX12_draw_22 (v := (-1)) rfl ?_
    obtain ⟨rfl, rfl, rfl, rfl⟩ := zinj4 h
    exact zb_iret E hQ rfl ⟨Nat.zero_le _, Nat.zero_le _⟩ dX12_draw_23
  · have h := if_f h hc
    refine zb_iload_n E dX12_draw_12 1 rfl rfl ?_
    refine zb_i2l E dX12_draw_13 ?_
    refine zb_aload_n E dX12_draw_14 0 rfl rfl ?_
    obtain ⟨rc2, hc_15, h⟩ := bd1_s h
    refine zb_cVl E [] 128 zy_X12_worth zw_1470 (by decide) (zF_128 _ _ _ _) rfl (c_X12_worth v_lie rfl v_ratio (by exact e_v_ratio) hc_15) (by decide) rfl rfl (by first | decide | simp [Value.category]) dX12_draw_15 (cs2 := (0, 0)) rfl ?_
    refine zb_lcmp E dX12_draw_18 ?_
    refine zb_if_le E dX12_draw_19 (tgt := 24) rfl (fun hc => ?_) (fun hc => ?_)
    · have h := if_t h hc
      refine zb_aload_n E dX12_draw_24 0 rfl rfl ?_
      refine zb_iload_n E dX12_draw_25 1 rfl rfl ?_
      obtain ⟨v_plain_c3, hc_26, h⟩ := bd1_s h
      refine zb_cVv E [.int a1] 128 zy_X12_plains zw_1450 (by decide) (zF_128 _ _ _ _) rfl (c_X12_plains v_ratio (by exact e_v_ratio) v_plain rfl hc_26) (by decide) rfl rfl (by first | decide | simp [Value.category]) dX12_draw_26 (cs2 := (0, 0)) rfl ?_
      refine zb_S (S2 := ((va_up (va_up (va_up I 130 v_lie) 131 v_work) 132 v_plain_c3), J, Rr, D)) (zS_eq zn1 rfl) ?_
      refine zb_aload_n E dX12_draw_29 0 rfl rfl ?_
      obtain ⟨v_work_c4, hc_30, h⟩ := bd1_s h
      refine zb_cVv E [] 128 zy_X12_works zw_1458 (by decide) (zF_128 _ _ _ _) rfl (c_X12_works v_lie rfl v_work rfl hc_30) (by decide) rfl rfl (by first | decide | simp [Value.category]) dX12_draw_30 (cs2 := (0, 0)) rfl ?_
      refine zb_S (S2 := ((va_up (va_up (va_up I 130 v_lie) 131 v_work_c4) 132 v_plain_c3), J, Rr, D)) (zS_eq (zn2 (by decide : (132 : Nat) ≠ 131)) rfl) ?_
      refine zb_iconst E dX12_draw_33 (v := 0) rfl ?_
      refine zb_istore_n E dX12_draw_34 rfl (by decide) (lv2 := [(2, .int 0), (0, .ref (C.X.1 + 128)), (1, .int a1)]) rfl ?_
      refine zb_iconst E dX12_draw_35 (v := 0) rfl ?_
      refine zb_istore_n E dX12_draw_36 rfl (by decide) (lv2 := [(3, .int 0), (2, .int 0), (0, .ref (C.X.1 + 128)), (1, .int a1)]) rfl ?_
      refine zb_sub [2, 1, 0] rfl ?_
      exact c_X12_draw_b37 N a1 v_ratio e_v_ratio rr y_v_lie y_v_plain y_v_work E hQ v_lie v_plain_c3 _ (fun x2_z5 v_work_z6 h => c_X12_draw_b148 N a1 v_ratio e_v_ratio rr y_v_lie y_v_plain y_v_work E hQ x2_z5 v_lie v_plain_c3 v_work_z6 h) _ 0 0 v_work_c4 h
    · have h := if_f h hc
      refine zb_iconst E dX12_draw_22 (v := (-1)) rfl ?_
      obtain ⟨rfl, rfl, rfl, rfl⟩ := zinj4 h
      exact zb_iret E hQ rfl ⟨Nat.zero_le _, Nat.zero_le _⟩ dX12_draw_23
theorem c_X12_draw {l : Launch} {X : zX} {I : Nat → Nat → Int32} {J : Nat → Nat → Int64} {Rr : Nat → Nat → Option Nat} {D : zD} {N : Nat} {a1 : Int32} (v_ratio : (Nat → Int32)) (e_v_ratio : I 129 = v_ratio) (v_lie : (Nat → Int32)) (e_v_lie : I 130 = v_lie) (v_plain : (Nat → Int32)) (e_v_plain : I 132 = v_plain) (v_work : (Nat → Int32)) (e_v_work : I 131 = v_work) {rr : Int32} {y_v_lie : (Nat → Int32)} {y_v_plain : (Nat → Int32)} {y_v_work : (Nat → Int32)} (h : pM_draw N a1 v_lie v_plain v_ratio v_work = some (rr, y_v_lie, y_v_plain, y_v_work)) : zMi l yX12_draw cX12_draw 6 (some .int) ({ frames := 2, cells := 0, slots := 0, locals := 48 } : Room) X [.ref (X.1 + 128), .int a1] (I, J, Rr, D) rr ((va_up (va_up (va_up I 130 y_v_lie) 131 y_v_work) 132 y_v_plain), J, Rr, D) := by
  refine zMi.of (by decide) (Nat.le_of_ble_eq_true rfl) (fun C E hl hX hQ => ?_)
  subst hl
  subst hX
  have eI0 : (va_up (va_up (va_up I 130 v_lie) 131 v_work) 132 v_plain) = I := by rw [zup_idE e_v_lie, zup_idE e_v_work, zup_idE e_v_plain]
  have eJ0 : J = J := rfl
  refine zb_S (S2 := ((va_up (va_up (va_up I 130 v_lie) 131 v_work) 132 v_plain), J, Rr, D)) (zS_eq eI0.symm eJ0.symm) ?_
  exact c_X12_draw_0 N a1 v_ratio e_v_ratio rr y_v_lie y_v_plain y_v_work E hQ v_lie v_plain v_work h
-- ChequeredClothModel.size
theorem dX12_size_0 : decode cX12_size 0 = .ok (.iload_n 0, 1) := by decide +kernel
theorem dX12_size_1 : decode cX12_size 1 = .ok (.ifCond .ge 8, 3) := by decide +kernel
theorem dX12_size_4 : decode cX12_size 4 = .ok (.iload_n 0, 1) := by decide +kernel
theorem dX12_size_5 : decode cX12_size 5 = .ok (.ineg, 1) := by decide +kernel
theorem dX12_size_6 : decode cX12_size 6 = .ok (.goto 4, 3) := by decide +kernel
theorem dX12_size_9 : decode cX12_size 9 = .ok (.iload_n 0, 1) := by decide +kernel
theorem dX12_size_10 : decode cX12_size 10 = .ok (.ireturn, 1) := by decide +kernel
theorem zy_X12_size : zYs yX12_size cX12_size 1 (some .int) 1 := ⟨zw_1481, zw_12, zw_1482, by decide, by decide, by decide⟩
theorem c_X12_size_0 {C : zC} {I : Nat → Nat → Int32} {J : Nat → Nat → Int64} {Rr : Nat → Nat → Option Nat} {D : zD} (a0 : Int32) (rr : Int32) (E : zE C RX12 cX12_size 1 (some .int) ({ frames := 0, cells := 0, slots := 0, locals := 0 } : Room)) (hQ : C.Q = zQi C ({ frames := 0, cells := 0, slots := 0, locals := 0 } : Room) rr (I, J, Rr, D)) (h : pM_size a0 = some rr) : zB C (0, 0) 0 [(0, .int a0)] [] (I, J, Rr, D) := by
  refine zb_iload_n E dX12_size_0 0 rfl rfl ?_
  refine zb_if_ge E dX12_size_1 (tgt := 9) rfl (fun hc => ?_) (fun hc => ?_)
  · have h := if_t h hc
    refine zb_iload_n E dX12_size_9 0 rfl rfl ?_
    obtain rfl := zinj1 h
    exact zb_iret E hQ rfl ⟨Nat.zero_le _, Nat.zero_le _⟩ dX12_size_10
  · have h := if_f h hc
    refine zb_iload_n E dX12_size_4 0 rfl rfl ?_
    refine zb_ineg E dX12_size_5 ?_
    refine zb_goto E dX12_size_6 (tgt := 10) rfl ?_
    obtain rfl := zinj1 h
    exact zb_iret E hQ rfl ⟨Nat.zero_le _, Nat.zero_le _⟩ dX12_size_10
theorem c_X12_size {l : Launch} {X : zX} {I : Nat → Nat → Int32} {J : Nat → Nat → Int64} {Rr : Nat → Nat → Option Nat} {D : zD} {a0 : Int32} {rr : Int32} (h : pM_size a0 = some rr) : zMi l yX12_size cX12_size 1 (some .int) ({ frames := 0, cells := 0, slots := 0, locals := 0 } : Room) X [.int a0] (I, J, Rr, D) rr (I, J, Rr, D) := by
  refine zMi.of (by decide) (Nat.le_of_ble_eq_true rfl) (fun C E hl hX hQ => ?_)
  subst hl
  subst hX
  have eI0 : I = I := rfl
  have eJ0 : J = J := rfl
  refine zb_S (S2 := (I, J, Rr, D)) (zS_eq eI0.symm eJ0.symm) ?_
  exact c_X12_size_0 a0 rr E hQ h
-- ChequeredClothModel.steps
theorem dX12_steps_0 : decode cX12_steps 0 = .ok (.iload_n 1, 1) := by decide +kernel
theorem dX12_steps_1 : decode cX12_steps 1 = .ok (.i2l, 1) := by decide +kernel
theorem dX12_steps_2 : decode cX12_steps 2 = .ok (.lconst 0, 1) := by decide +kernel
theorem dX12_steps_3 : decode cX12_steps 3 = .ok (.ldc2_w 205, 3) := by decide +kernel
theorem dX12_steps_6 : decode cX12_steps 6 = .ok (.invokestatic 199, 3) := by decide +kernel
theorem dX12_steps_9 : decode cX12_steps 9 = .ok (.ifCond .ne 5, 3) := by decide +kernel
theorem dX12_steps_12 : decode cX12_steps 12 = .ok (.iconst (-1), 1) := by decide +kernel
theorem dX12_steps_13 : decode cX12_steps 13 = .ok (.ireturn, 1) := by decide +kernel
theorem dX12_steps_14 : decode cX12_steps 14 = .ok (.aload_n 0, 1) := by decide +kernel
theorem dX12_steps_15 : decode cX12_steps 15 = .ok (.iload_n 1, 1) := by decide +kernel
theorem dX12_steps_16 : decode cX12_steps 16 = .ok (.invokevirtual 207, 3) := by decide +kernel
theorem dX12_steps_19 : decode cX12_steps 19 = .ok (.iconst 0, 1) := by decide +kernel
theorem dX12_steps_20 : decode cX12_steps 20 = .ok (.istore_n 2, 1) := by decide +kernel
theorem dX12_steps_21 : decode cX12_steps 21 = .ok (.iload_n 2, 1) := by decide +kernel
theorem dX12_steps_22 : decode cX12_steps 22 = .ok (.sipush 600, 3) := by decide +kernel
theorem dX12_steps_25 : decode cX12_steps 25 = .ok (.if_icmp .gt 28, 3) := by decide +kernel
theorem dX12_steps_28 : decode cX12_steps 28 = .ok (.aload_n 0, 1) := by decide +kernel
theorem dX12_steps_29 : decode cX12_steps 29 = .ok (.getfield 22, 3) := by decide +kernel
theorem dX12_steps_32 : decode cX12_steps 32 = .ok (.iload_n 2, 1) := by decide +kernel
theorem dX12_steps_33 : decode cX12_steps 33 = .ok (.iload_n 2, 1) := by decide +kernel
theorem dX12_steps_34 : decode cX12_steps 34 = .ok (.sipush 300, 3) := by decide +kernel
theorem dX12_steps_37 : decode cX12_steps 37 = .ok (.if_icmp .ne 7, 3) := by decide +kernel
theorem dX12_steps_40 : decode cX12_steps 40 = .ok (.iconst 0, 1) := by decide +kernel
theorem dX12_steps_41 : decode cX12_steps 41 = .ok (.goto 5, 3) := by decide +kernel
theorem dX12_steps_44 : decode cX12_steps 44 = .ok (.ldc 225, 2) := by decide +kernel
theorem dX12_steps_46 : decode cX12_steps 46 = .ok (.iastore, 1) := by decide +kernel
theorem dX12_steps_47 : decode cX12_steps 47 = .ok (.iinc 2 1, 3) := by decide +kernel
theorem dX12_steps_50 : decode cX12_steps 50 = .ok (.goto (-29), 3) := by decide +kernel
theorem dX12_steps_53 : decode cX12_steps 53 = .ok (.iconst 0, 1) := by decide +kernel
theorem dX12_steps_54 : decode cX12_steps 54 = .ok (.istore_n 2, 1) := by decide +kernel
theorem dX12_steps_55 : decode cX12_steps 55 = .ok (.iload_n 2, 1) := by decide +kernel
theorem dX12_steps_56 : decode cX12_steps 56 = .ok (.bipush 12, 2) := by decide +kernel
theorem dX12_steps_58 : decode cX12_steps 58 = .ok (.if_icmp .ge 187, 3) := by decide +kernel
theorem dX12_steps_61 : decode cX12_steps 61 = .ok (.iconst 0, 1) := by decide +kernel
theorem dX12_steps_62 : decode cX12_steps 62 = .ok (.istore_n 3, 1) := by decide +kernel
theorem dX12_steps_63 : decode cX12_steps 63 = .ok (.iload_n 3, 1) := by decide +kernel
theorem dX12_steps_64 : decode cX12_steps 64 = .ok (.sipush 600, 3) := by decide +kernel
theorem dX12_steps_67 : decode cX12_steps 67 = .ok (.if_icmp .gt 17, 3) := by decide +kernel
theorem dX12_steps_70 : decode cX12_steps 70 = .ok (.aload_n 0, 1) := by decide +kernel
theorem dX12_steps_71 : decode cX12_steps 71 = .ok (.getfield 25, 3) := by decide +kernel
theorem dX12_steps_74 : decode cX12_steps 74 = .ok (.iload_n 3, 1) := by decide +kernel
theorem dX12_steps_75 : decode cX12_steps 75 = .ok (.ldc 225, 2) := by decide +kernel
theorem dX12_steps_77 : decode cX12_steps 77 = .ok (.iastore, 1) := by decide +kernel
theorem dX12_steps_78 : decode cX12_steps 78 = .ok (.iinc 3 1, 3) := by decide +kernel
theorem dX12_steps_81 : decode cX12_steps 81 = .ok (.goto (-18), 3) := by decide +kernel
theorem dX12_steps_84 : decode cX12_steps 84 = .ok (.iconst 0, 1) := by decide +kernel
theorem dX12_steps_85 : decode cX12_steps 85 = .ok (.istore_n 3, 1) := by decide +kernel
theorem dX12_steps_86 : decode cX12_steps 86 = .ok (.iload_n 3, 1) := by decide +kernel
theorem dX12_steps_87 : decode cX12_steps 87 = .ok (.sipush 600, 3) := by decide +kernel
theorem dX12_steps_90 : decode cX12_steps 90 = .ok (.if_icmp .gt 122, 3) := by decide +kernel
theorem dX12_steps_93 : decode cX12_steps 93 = .ok (.aload_n 0, 1) := by decide +kernel
theorem dX12_steps_94 : decode cX12_steps 94 = .ok (.getfield 22, 3) := by decide +kernel
theorem dX12_steps_97 : decode cX12_steps 97 = .ok (.iload_n 3, 1) := by decide +kernel
theorem dX12_steps_98 : decode cX12_steps 98 = .ok (.iaload, 1) := by decide +kernel
theorem dX12_steps_99 : decode cX12_steps 99 = .ok (.ldc 225, 2) := by decide +kernel
theorem dX12_steps_101 : decode cX12_steps 101 = .ok (.if_icmp .ne 6, 3) := by decide +kernel
theorem dX12_steps_104 : decode cX12_steps 104 = .ok (.goto 102, 3) := by decide +kernel
theorem dX12_steps_107 : decode cX12_steps 107 = .ok (.aload_n 0, 1) := by decide +kernel
theorem dX12_steps_108 : decode cX12_steps 108 = .ok (.getfield 13, 3) := by decide +kernel
theorem dX12_steps_111 : decode cX12_steps 111 = .ok (.iload_n 2, 1) := by decide +kernel
theorem dX12_steps_112 : decode cX12_steps 112 = .ok (.iaload, 1) := by decide +kernel
theorem dX12_steps_113 : decode cX12_steps 113 = .ok (.iload_n 3, 1) := by decide +kernel
theorem dX12_steps_114 : decode cX12_steps 114 = .ok (.iadd, 1) := by decide +kernel
theorem dX12_steps_115 : decode cX12_steps 115 = .ok (.sipush 300, 3) := by decide +kernel
theorem dX12_steps_118 : decode cX12_steps 118 = .ok (.isub, 1) := by decide +kernel
theorem dX12_steps_119 : decode cX12_steps 119 = .ok (.aload_n 0, 1) := by decide +kernel
theorem dX12_steps_120 : decode cX12_steps 120 = .ok (.getfield 19, 3) := by decide +kernel
theorem dX12_steps_123 : decode cX12_steps 123 = .ok (.iload_n 2, 1) := by decide +kernel
theorem dX12_steps_124 : decode cX12_steps 124 = .ok (.iaload, 1) := by decide +kernel
theorem dX12_steps_125 : decode cX12_steps 125 = .ok (.isub, 1) := by decide +kernel
theorem dX12_steps_126 : decode cX12_steps 126 = .ok (.istore 4, 2) := by decide +kernel
theorem dX12_steps_128 : decode cX12_steps 128 = .ok (.sipush (-300), 3) := by decide +kernel
theorem dX12_steps_131 : decode cX12_steps 131 = .ok (.istore 5, 2) := by decide +kernel
theorem dX12_steps_133 : decode cX12_steps 133 = .ok (.iload 5, 2) := by decide +kernel
theorem dX12_steps_135 : decode cX12_steps 135 = .ok (.sipush 300, 3) := by decide +kernel
theorem dX12_steps_138 : decode cX12_steps 138 = .ok (.if_icmp .gt 68, 3) := by decide +kernel
theorem dX12_steps_141 : decode cX12_steps 141 = .ok (.aload_n 0, 1) := by decide +kernel
theorem dX12_steps_142 : decode cX12_steps 142 = .ok (.getfield 22, 3) := by decide +kernel
theorem dX12_steps_145 : decode cX12_steps 145 = .ok (.iload_n 3, 1) := by decide +kernel
theorem dX12_steps_146 : decode cX12_steps 146 = .ok (.iaload, 1) := by decide +kernel
theorem dX12_steps_147 : decode cX12_steps 147 = .ok (.iload 5, 2) := by decide +kernel
theorem dX12_steps_149 : decode cX12_steps 149 = .ok (.invokestatic 226, 3) := by decide +kernel
theorem dX12_steps_152 : decode cX12_steps 152 = .ok (.iadd, 1) := by decide +kernel
theorem dX12_steps_153 : decode cX12_steps 153 = .ok (.iload 4, 2) := by decide +kernel
theorem dX12_steps_155 : decode cX12_steps 155 = .ok (.aload_n 0, 1) := by decide +kernel
theorem dX12_steps_156 : decode cX12_steps 156 = .ok (.getfield 7, 3) := by decide +kernel
theorem dX12_steps_159 : decode cX12_steps 159 = .ok (.iload_n 2, 1) := by decide +kernel
theorem dX12_steps_160 : decode cX12_steps 160 = .ok (.iaload, 1) := by decide +kernel
theorem dX12_steps_161 : decode cX12_steps 161 = .ok (.iload 5, 2) := by decide +kernel
theorem dX12_steps_163 : decode cX12_steps 163 = .ok (.imul, 1) := by decide +kernel
theorem dX12_steps_164 : decode cX12_steps 164 = .ok (.isub, 1) := by decide +kernel
theorem dX12_steps_165 : decode cX12_steps 165 = .ok (.invokestatic 226, 3) := by decide +kernel
theorem dX12_steps_168 : decode cX12_steps 168 = .ok (.iadd, 1) := by decide +kernel
theorem dX12_steps_169 : decode cX12_steps 169 = .ok (.istore 6, 2) := by decide +kernel
theorem dX12_steps_171 : decode cX12_steps 171 = .ok (.iload 6, 2) := by decide +kernel
theorem dX12_steps_173 : decode cX12_steps 173 = .ok (.aload_n 0, 1) := by decide +kernel
theorem dX12_steps_174 : decode cX12_steps 174 = .ok (.getfield 25, 3) := by decide +kernel
theorem dX12_steps_177 : decode cX12_steps 177 = .ok (.iload 5, 2) := by decide +kernel
theorem dX12_steps_179 : decode cX12_steps 179 = .ok (.sipush 300, 3) := by decide +kernel
theorem dX12_steps_182 : decode cX12_steps 182 = .ok (.iadd, 1) := by decide +kernel
theorem dX12_steps_183 : decode cX12_steps 183 = .ok (.iaload, 1) := by decide +kernel
theorem dX12_steps_184 : decode cX12_steps 184 = .ok (.if_icmp .ge 16, 3) := by decide +kernel
theorem dX12_steps_187 : decode cX12_steps 187 = .ok (.aload_n 0, 1) := by decide +kernel
theorem dX12_steps_188 : decode cX12_steps 188 = .ok (.getfield 25, 3) := by decide +kernel
theorem dX12_steps_191 : decode cX12_steps 191 = .ok (.iload 5, 2) := by decide +kernel
theorem dX12_steps_193 : decode cX12_steps 193 = .ok (.sipush 300, 3) := by decide +kernel
theorem dX12_steps_196 : decode cX12_steps 196 = .ok (.iadd, 1) := by decide +kernel
theorem dX12_steps_197 : decode cX12_steps 197 = .ok (.iload 6, 2) := by decide +kernel
theorem dX12_steps_199 : decode cX12_steps 199 = .ok (.iastore, 1) := by decide +kernel
theorem dX12_steps_200 : decode cX12_steps 200 = .ok (.iinc 5 1, 3) := by decide +kernel
theorem dX12_steps_203 : decode cX12_steps 203 = .ok (.goto (-70), 3) := by decide +kernel
theorem dX12_steps_206 : decode cX12_steps 206 = .ok (.iinc 3 1, 3) := by decide +kernel
theorem dX12_steps_209 : decode cX12_steps 209 = .ok (.goto (-123), 3) := by decide +kernel
theorem dX12_steps_212 : decode cX12_steps 212 = .ok (.iconst 0, 1) := by decide +kernel
theorem dX12_steps_213 : decode cX12_steps 213 = .ok (.istore_n 3, 1) := by decide +kernel
theorem dX12_steps_214 : decode cX12_steps 214 = .ok (.iload_n 3, 1) := by decide +kernel
theorem dX12_steps_215 : decode cX12_steps 215 = .ok (.sipush 600, 3) := by decide +kernel
theorem dX12_steps_218 : decode cX12_steps 218 = .ok (.if_icmp .gt 21, 3) := by decide +kernel
theorem dX12_steps_221 : decode cX12_steps 221 = .ok (.aload_n 0, 1) := by decide +kernel
theorem dX12_steps_222 : decode cX12_steps 222 = .ok (.getfield 22, 3) := by decide +kernel
theorem dX12_steps_225 : decode cX12_steps 225 = .ok (.iload_n 3, 1) := by decide +kernel
theorem dX12_steps_226 : decode cX12_steps 226 = .ok (.aload_n 0, 1) := by decide +kernel
theorem dX12_steps_227 : decode cX12_steps 227 = .ok (.getfield 25, 3) := by decide +kernel
theorem dX12_steps_230 : decode cX12_steps 230 = .ok (.iload_n 3, 1) := by decide +kernel
theorem dX12_steps_231 : decode cX12_steps 231 = .ok (.iaload, 1) := by decide +kernel
theorem dX12_steps_232 : decode cX12_steps 232 = .ok (.iastore, 1) := by decide +kernel
theorem dX12_steps_233 : decode cX12_steps 233 = .ok (.iinc 3 1, 3) := by decide +kernel
theorem dX12_steps_236 : decode cX12_steps 236 = .ok (.goto (-22), 3) := by decide +kernel
theorem dX12_steps_239 : decode cX12_steps 239 = .ok (.iinc 2 1, 3) := by decide +kernel
theorem dX12_steps_242 : decode cX12_steps 242 = .ok (.goto (-187), 3) := by decide +kernel
theorem dX12_steps_245 : decode cX12_steps 245 = .ok (.ldc 225, 2) := by decide +kernel
theorem dX12_steps_247 : decode cX12_steps 247 = .ok (.istore_n 2, 1) := by decide +kernel
theorem dX12_steps_248 : decode cX12_steps 248 = .ok (.iconst 0, 1) := by decide +kernel
theorem dX12_steps_249 : decode cX12_steps 249 = .ok (.istore_n 3, 1) := by decide +kernel
theorem dX12_steps_250 : decode cX12_steps 250 = .ok (.iload_n 3, 1) := by decide +kernel
theorem dX12_steps_251 : decode cX12_steps 251 = .ok (.sipush 600, 3) := by decide +kernel
theorem dX12_steps_254 : decode cX12_steps 254 = .ok (.if_icmp .gt 51, 3) := by decide +kernel
theorem dX12_steps_257 : decode cX12_steps 257 = .ok (.aload_n 0, 1) := by decide +kernel
theorem dX12_steps_258 : decode cX12_steps 258 = .ok (.getfield 22, 3) := by decide +kernel
theorem dX12_steps_261 : decode cX12_steps 261 = .ok (.iload_n 3, 1) := by decide +kernel
theorem dX12_steps_262 : decode cX12_steps 262 = .ok (.iaload, 1) := by decide +kernel
theorem dX12_steps_263 : decode cX12_steps 263 = .ok (.aload_n 0, 1) := by decide +kernel
theorem dX12_steps_264 : decode cX12_steps 264 = .ok (.getfield 13, 3) := by decide +kernel
theorem dX12_steps_267 : decode cX12_steps 267 = .ok (.bipush 12, 2) := by decide +kernel
theorem dX12_steps_269 : decode cX12_steps 269 = .ok (.iaload, 1) := by decide +kernel
theorem dX12_steps_270 : decode cX12_steps 270 = .ok (.iload_n 3, 1) := by decide +kernel
theorem dX12_steps_271 : decode cX12_steps 271 = .ok (.iadd, 1) := by decide +kernel
theorem dX12_steps_272 : decode cX12_steps 272 = .ok (.sipush 300, 3) := by decide +kernel
theorem dX12_steps_275 : decode cX12_steps 275 = .ok (.isub, 1) := by decide +kernel
theorem dX12_steps_276 : decode cX12_steps 276 = .ok (.aload_n 0, 1) := by decide +kernel
theorem dX12_steps_277 : decode cX12_steps 277 = .ok (.getfield 19, 3) := by decide +kernel
theorem dX12_steps_280 : decode cX12_steps 280 = .ok (.bipush 12, 2) := by decide +kernel
theorem dX12_steps_282 : decode cX12_steps 282 = .ok (.iaload, 1) := by decide +kernel
theorem dX12_steps_283 : decode cX12_steps 283 = .ok (.isub, 1) := by decide +kernel
theorem dX12_steps_284 : decode cX12_steps 284 = .ok (.invokestatic 226, 3) := by decide +kernel
theorem dX12_steps_287 : decode cX12_steps 287 = .ok (.iadd, 1) := by decide +kernel
theorem dX12_steps_288 : decode cX12_steps 288 = .ok (.istore 4, 2) := by decide +kernel
theorem dX12_steps_290 : decode cX12_steps 290 = .ok (.iload 4, 2) := by decide +kernel
theorem dX12_steps_292 : decode cX12_steps 292 = .ok (.iload_n 2, 1) := by decide +kernel
theorem dX12_steps_293 : decode cX12_steps 293 = .ok (.if_icmp .ge 6, 3) := by decide +kernel
theorem dX12_steps_296 : decode cX12_steps 296 = .ok (.iload 4, 2) := by decide +kernel
theorem dX12_steps_298 : decode cX12_steps 298 = .ok (.istore_n 2, 1) := by decide +kernel
theorem dX12_steps_299 : decode cX12_steps 299 = .ok (.iinc 3 1, 3) := by decide +kernel
theorem dX12_steps_302 : decode cX12_steps 302 = .ok (.goto (-52), 3) := by decide +kernel
theorem dX12_steps_305 : decode cX12_steps 305 = .ok (.iload_n 2, 1) := by decide +kernel
theorem dX12_steps_306 : decode cX12_steps 306 = .ok (.ireturn, 1) := by decide +kernel
theorem zy_X12_steps : zYv yX12_steps cX12_steps 7 (some .int) 1 := ⟨zw_1476, zw_1477, zw_12, zw_1478, by decide, by decide, by decide⟩
theorem c_X12_steps_b46 {C : zC} {I : Nat → Nat → Int32} {J : Nat → Nat → Int64} {Rr : Nat → Nat → Option Nat} {D : zD} (N : Nat) (a1 : Int32) (v_lie : (Nat → Int32)) (e_v_lie : I 130 = v_lie) (v_ratio : (Nat → Int32)) (e_v_ratio : I 129 = v_ratio) (rr : Int32) (y_v_fewest : (Nat → Int32)) (y_v_next : (Nat → Int32)) (y_v_plain : (Nat → Int32)) (E : zE C RX12 cX12_steps 7 (some .int) ({ frames := 2, cells := 0, slots := 0, locals := 48 } : Room)) (hQ : C.Q = zQi C ({ frames := 2, cells := 0, slots := 0, locals := 48 } : Room) rr ((va_up (va_up (va_up I 132 y_v_plain) 133 y_v_fewest) 134 y_v_next), J, Rr, D)) (x2 : Int32) (s1 : Int32) (s2 : Int32) (v_fewest : (Nat → Int32)) (v_next : (Nat → Int32)) (v_plain : (Nat → Int32)) (self : Int32 → (Nat → Int32) → Option R_pM_steps) (ih : ∀ (x2 : Int32) (v_fewest : (Nat → Int32)), self x2 v_fewest = some (rr, y_v_fewest, y_v_next, y_v_plain) → zB C (0, 0) 21 [(0, .ref (C.X.1 + 128)), (2, .int x2)] [] ((va_up (va_up (va_up I 132 v_plain) 133 v_fewest) 134 v_next), J, Rr, D)) (k53 : (Nat → Int32) → Option R_pM_steps) (hk53 : ∀ (v_fewest : (Nat → Int32)), k53 v_fewest = some (rr, y_v_fewest, y_v_next, y_v_plain) → zB C (0, 0) 53 [(0, .ref (C.X.1 + 128))] [] ((va_up (va_up (va_up I 132 v_plain) 133 v_fewest) 134 v_next), J, Rr, D)) (h : pM_steps_b46 N a1 v_lie v_ratio self k53 x2 s1 s2 v_fewest v_next v_plain = some (rr, y_v_fewest, y_v_next, y_v_plain)) : zB C (0, 0) 46 [(0, .ref (C.X.1 + 128)), (2, .int x2)] [.int s2, .int s1, .ref (C.X.1 + 133)] ((va_up (va_up (va_up I 132 v_plain) 133 v_fewest) 134 v_next), J, Rr, D) := by
  obtain ⟨g3, h⟩ := gd_s h
  refine zb_iast E 133 (by decide) zF_133 (f := v_fewest) rfl (ib_in g3) dX12_steps_46 (I2 := (va_up (va_up (va_up I 132 v_plain) 133 (upd v_fewest (ix s1) s2)) 134 v_next)) (zn2 (by decide : (134 : Nat) ≠ 133)) ?_
  refine zb_iinc E dX12_steps_47 1 rfl (v := (x2 + 1)) rfl (by decide) (lv2 := [(2, .int (x2 + 1)), (0, .ref (C.X.1 + 128))]) rfl ?_
  refine zb_goto E dX12_steps_50 (tgt := 21) rfl ?_
  refine zb_sub [1, 0] rfl ?_
  exact ih (x2 + 1) (upd v_fewest (ix s1) s2) h
theorem c_X12_steps_b21 {C : zC} {I : Nat → Nat → Int32} {J : Nat → Nat → Int64} {Rr : Nat → Nat → Option Nat} {D : zD} (N : Nat) (a1 : Int32) (v_lie : (Nat → Int32)) (e_v_lie : I 130 = v_lie) (v_ratio : (Nat → Int32)) (e_v_ratio : I 129 = v_ratio) (rr : Int32) (y_v_fewest : (Nat → Int32)) (y_v_next : (Nat → Int32)) (y_v_plain : (Nat → Int32)) (E : zE C RX12 cX12_steps 7 (some .int) ({ frames := 2, cells := 0, slots := 0, locals := 48 } : Room)) (hQ : C.Q = zQi C ({ frames := 2, cells := 0, slots := 0, locals := 48 } : Room) rr ((va_up (va_up (va_up I 132 y_v_plain) 133 y_v_fewest) 134 y_v_next), J, Rr, D)) (v_next : (Nat → Int32)) (v_plain : (Nat → Int32)) (k53 : (Nat → Int32) → Option R_pM_steps) (hk53 : ∀ (v_fewest : (Nat → Int32)), k53 v_fewest = some (rr, y_v_fewest, y_v_next, y_v_plain) → zB C (0, 0) 53 [(0, .ref (C.X.1 + 128))] [] ((va_up (va_up (va_up I 132 v_plain) 133 v_fewest) 134 v_next), J, Rr, D)) : ∀ (n9 : Nat) (x2 : Int32) (v_fewest : (Nat → Int32)), pM_steps_b21 N a1 v_lie v_ratio v_next v_plain k53 n9 x2 v_fewest = some (rr, y_v_fewest, y_v_next, y_v_plain) → zB C (0, 0) 21 [(0, .ref (C.X.1 + 128)), (2, .int x2)] [] ((va_up (va_up (va_up I 132 v_plain) 133 v_fewest) 134 v_next), J, Rr, D) := by
  refine zlp2_ind (P := fun (x2 : Int32) (v_fewest : (Nat → Int32)) => zB C (0, 0) 21 [(0, .ref (C.X.1 + 128)), (2, .int x2)] [] ((va_up (va_up (va_up I 132 v_plain) 133 v_fewest) 134 v_next), J, Rr, D)) (fun self ih => ?_)
  intro x2 v_fewest h
  refine zb_iload_n E dX12_steps_21 1 rfl rfl ?_
  refine zb_sipush E dX12_steps_22 (v := 600) rfl ?_
  refine zb_icmp_gt E dX12_steps_25 (tgt := 53) rfl (fun hc => ?_) (fun hc => ?_)
  · have h := if_t h hc
    refine zb_sub [0] rfl ?_
    exact hk53 v_fewest h
  · have h := if_f h hc
    refine zb_aload_n E dX12_steps_28 0 rfl rfl ?_
    refine zb_get E 128 (by decide) (zF_128 C.X) rfl zin12 4 (by decide) zw_1172 (v := .ref (C.X.1 + 133)) rfl dX12_steps_29 ?_
    refine zb_iload_n E dX12_steps_32 1 rfl rfl ?_
    refine zb_iload_n E dX12_steps_33 1 rfl rfl ?_
    refine zb_sipush E dX12_steps_34 (v := 300) rfl ?_
    refine zb_icmp_ne E dX12_steps_37 (tgt := 44) rfl (fun hc => ?_) (fun hc => ?_)
    · have h := if_f h hc
      refine zb_ldc E dX12_steps_44 (v := 100000000) zw_1479 ?_
      exact c_X12_steps_b46 N a1 v_lie e_v_lie v_ratio e_v_ratio rr y_v_fewest y_v_next y_v_plain E hQ x2 x2 100000000 v_fewest v_next v_plain self ih k53 hk53 h
    · have h := if_t h hc
      refine zb_iconst E dX12_steps_40 (v := 0) rfl ?_
      refine zb_goto E dX12_steps_41 (tgt := 46) rfl ?_
      exact c_X12_steps_b46 N a1 v_lie e_v_lie v_ratio e_v_ratio rr y_v_fewest y_v_next y_v_plain E hQ x2 x2 0 v_fewest v_next v_plain self ih k53 hk53 h
theorem c_X12_steps_b63 {C : zC} {I : Nat → Nat → Int32} {J : Nat → Nat → Int64} {Rr : Nat → Nat → Option Nat} {D : zD} (N : Nat) (a1 : Int32) (v_lie : (Nat → Int32)) (e_v_lie : I 130 = v_lie) (v_ratio : (Nat → Int32)) (e_v_ratio : I 129 = v_ratio) (rr : Int32) (y_v_fewest : (Nat → Int32)) (y_v_next : (Nat → Int32)) (y_v_plain : (Nat → Int32)) (E : zE C RX12 cX12_steps 7 (some .int) ({ frames := 2, cells := 0, slots := 0, locals := 48 } : Room)) (hQ : C.Q = zQi C ({ frames := 2, cells := 0, slots := 0, locals := 48 } : Room) rr ((va_up (va_up (va_up I 132 y_v_plain) 133 y_v_fewest) 134 y_v_next), J, Rr, D)) (x2 : Int32) (v_fewest : (Nat → Int32)) (v_plain : (Nat → Int32)) (k84 : (Nat → Int32) → Option R_pM_steps) (hk84 : ∀ (v_next : (Nat → Int32)), k84 v_next = some (rr, y_v_fewest, y_v_next, y_v_plain) → zB C (0, 0) 84 [(0, .ref (C.X.1 + 128)), (2, .int x2)] [] ((va_up (va_up (va_up I 132 v_plain) 133 v_fewest) 134 v_next), J, Rr, D)) : ∀ (n9 : Nat) (x3 : Int32) (v_next : (Nat → Int32)), pM_steps_b63 N a1 v_lie v_ratio x2 v_fewest v_plain k84 n9 x3 v_next = some (rr, y_v_fewest, y_v_next, y_v_plain) → zB C (0, 0) 63 [(0, .ref (C.X.1 + 128)), (2, .int x2), (3, .int x3)] [] ((va_up (va_up (va_up I 132 v_plain) 133 v_fewest) 134 v_next), J, Rr, D) := by
  refine zlp2_ind (P := fun (x3 : Int32) (v_next : (Nat → Int32)) => zB C (0, 0) 63 [(0, .ref (C.X.1 + 128)), (2, .int x2), (3, .int x3)] [] ((va_up (va_up (va_up I 132 v_plain) 133 v_fewest) 134 v_next), J, Rr, D)) (fun self ih => ?_)
  intro x3 v_next h
  refine zb_iload_n E dX12_steps_63 2 rfl rfl ?_
  refine zb_sipush E dX12_steps_64 (v := 600) rfl ?_
  refine zb_icmp_gt E dX12_steps_67 (tgt := 84) rfl (fun hc => ?_) (fun hc => ?_)
  · have h := if_t h hc
    refine zb_sub [0, 1] rfl ?_
    exact hk84 v_next h
  · have h := if_f h hc
    refine zb_aload_n E dX12_steps_70 0 rfl rfl ?_
    refine zb_get E 128 (by decide) (zF_128 C.X) rfl zin12 5 (by decide) zw_1173 (v := .ref (C.X.1 + 134)) rfl dX12_steps_71 ?_
    refine zb_iload_n E dX12_steps_74 2 rfl rfl ?_
    refine zb_ldc E dX12_steps_75 (v := 100000000) zw_1479 ?_
    obtain ⟨g4, h⟩ := gd_s h
    refine zb_iast E 134 (by decide) zF_134 (f := v_next) rfl (ib_in g4) dX12_steps_77 (I2 := (va_up (va_up (va_up I 132 v_plain) 133 v_fewest) 134 (upd v_next (ix x3) 100000000))) zn1 ?_
    refine zb_iinc E dX12_steps_78 2 rfl (v := (x3 + 1)) rfl (by decide) (lv2 := [(3, .int (x3 + 1)), (0, .ref (C.X.1 + 128)), (2, .int x2)]) rfl ?_
    refine zb_goto E dX12_steps_81 (tgt := 63) rfl ?_
    refine zb_sub [1, 2, 0] rfl ?_
    exact ih (x3 + 1) (upd v_next (ix x3) 100000000) h
theorem c_X12_steps_b133 {C : zC} {I : Nat → Nat → Int32} {J : Nat → Nat → Int64} {Rr : Nat → Nat → Option Nat} {D : zD} (N : Nat) (a1 : Int32) (v_lie : (Nat → Int32)) (e_v_lie : I 130 = v_lie) (v_ratio : (Nat → Int32)) (e_v_ratio : I 129 = v_ratio) (rr : Int32) (y_v_fewest : (Nat → Int32)) (y_v_next : (Nat → Int32)) (y_v_plain : (Nat → Int32)) (E : zE C RX12 cX12_steps 7 (some .int) ({ frames := 2, cells := 0, slots := 0, locals := 48 } : Room)) (hQ : C.Q = zQi C ({ frames := 2, cells := 0, slots := 0, locals := 48 } : Room) rr ((va_up (va_up (va_up I 132 y_v_plain) 133 y_v_fewest) 134 y_v_next), J, Rr, D)) (x2 : Int32) (x3 : Int32) (x4 : Int32) (v_fewest : (Nat → Int32)) (v_plain : (Nat → Int32)) (k206 : (Nat → Int32) → Option R_pM_steps) (hk206 : ∀ (v_next : (Nat → Int32)), k206 v_next = some (rr, y_v_fewest, y_v_next, y_v_plain) → zB C (0, 0) 206 [(0, .ref (C.X.1 + 128)), (2, .int x2), (3, .int x3)] [] ((va_up (va_up (va_up I 132 v_plain) 133 v_fewest) 134 v_next), J, Rr, D)) : ∀ (n9 : Nat) (x5 : Int32) (v_next : (Nat → Int32)), pM_steps_b133 N a1 v_lie v_ratio x2 x3 x4 v_fewest v_plain k206 n9 x5 v_next = some (rr, y_v_fewest, y_v_next, y_v_plain) → zB C (0, 0) 133 [(0, .ref (C.X.1 + 128)), (2, .int x2), (3, .int x3), (4, .int x4), (5, .int x5)] [] ((va_up (va_up (va_up I 132 v_plain) 133 v_fewest) 134 v_next), J, Rr, D) := by
  refine zlp2_ind (P := fun (x5 : Int32) (v_next : (Nat → Int32)) => zB C (0, 0) 133 [(0, .ref (C.X.1 + 128)), (2, .int x2), (3, .int x3), (4, .int x4), (5, .int x5)] [] ((va_up (va_up (va_up I 132 v_plain) 133 v_fewest) 134 v_next), J, Rr, D)) (fun self ih => ?_)
  intro x5 v_next h
  refine zb_iload E dX12_steps_133 4 rfl ?_
  refine zb_sipush E dX12_steps_135 (v := 300) rfl ?_
  refine zb_icmp_gt E dX12_steps_138 (tgt := 206) rfl (fun hc => ?_) (fun hc => ?_)
  · have h := if_t h hc
    refine zb_sub [0, 1, 2] rfl ?_
    exact hk206 v_next h
  · have h := if_f h hc
    refine zb_aload_n E dX12_steps_141 0 rfl rfl ?_
    refine zb_get E 128 (by decide) (zF_128 C.X) rfl zin12 4 (by decide) zw_1172 (v := .ref (C.X.1 + 133)) rfl dX12_steps_142 ?_
    refine zb_iload_n E dX12_steps_145 2 rfl rfl ?_
    obtain ⟨g9, h⟩ := gd_s h
    refine zb_iald E 133 (by decide) zF_133 (f := v_fewest) rfl (ib_in g9) dX12_steps_146 ?_
    refine zb_iload E dX12_steps_147 4 rfl ?_
    obtain ⟨rc10, hc_149, h⟩ := bd1_s h
    refine zb_cSi E [.int x5] zy_X12_size zw_1480 (c_X12_size hc_149) (by decide) rfl rfl (by first | decide | simp [Value.category]) dX12_steps_149 (cs2 := (0, 0)) rfl ?_
    refine zb_iadd E dX12_steps_152 ?_
    refine zb_iload E dX12_steps_153 3 rfl ?_
    refine zb_aload_n E dX12_steps_155 0 rfl rfl ?_
    refine zb_get E 128 (by decide) (zF_128 C.X) rfl zin12 0 (by decide) zw_1168 (v := .ref (C.X.1 + 129)) rfl dX12_steps_156 ?_
    refine zb_iload_n E dX12_steps_159 1 rfl rfl ?_
    obtain ⟨g11, h⟩ := gd_s h
    refine zb_iald E 129 (by decide) zF_129 (f := v_ratio) (by exact e_v_ratio) (ib_in g11) dX12_steps_160 ?_
    refine zb_iload E dX12_steps_161 4 rfl ?_
    refine zb_imul E dX12_steps_163 ?_
    refine zb_isub E dX12_steps_164 ?_
    obtain ⟨rc12, hc_165, h⟩ := bd1_s h
    refine zb_cSi E [.int (x4 - ((v_ratio (ix x2)) * x5))] zy_X12_size zw_1480 (c_X12_size hc_165) (by decide) rfl rfl (by first | decide | simp [Value.category]) dX12_steps_165 (cs2 := (0, 0)) rfl ?_
    refine zb_iadd E dX12_steps_168 ?_
    refine zb_istore E dX12_steps_169 (by decide) (lv2 := [(6, .int (((v_fewest (ix x3)) + rc10) + rc12)), (0, .ref (C.X.1 + 128)), (2, .int x2), (3, .int x3), (4, .int x4), (5, .int x5)]) rfl ?_
    refine zb_iload E dX12_steps_171 0 rfl ?_
    refine zb_aload_n E dX12_steps_173 1 rfl rfl ?_
    refine zb_get E 128 (by decide) (zF_128 C.X) rfl zin12 5 (by decide) zw_1173 (v := .ref (C.X.1 + 134)) rfl dX12_steps_174 ?_
    refine zb_iload E dX12_steps_177 5 rfl ?_
    refine zb_sipush E dX12_steps_179 (v := 300) rfl ?_
    refine zb_iadd E dX12_steps_182 ?_
    obtain ⟨g13, h⟩ := gd_s h
    refine zb_iald E 134 (by decide) zF_134 (f := v_next) rfl (ib_in g13) dX12_steps_183 ?_
    refine zb_icmp_ge E dX12_steps_184 (tgt := 200) rfl (fun hc => ?_) (fun hc => ?_)
    · have h := if_t h hc
      refine zb_iinc E dX12_steps_200 5 rfl (v := (x5 + 1)) rfl (by decide) (lv2 := [(5, .int (x5 + 1)), (6, .int (((v_fewest (ix x3)) + rc10) + rc12)), (0, .ref (C.X.1 + 128)), (2, .int x2), (3, .int x3), (4, .int x4)]) rfl ?_
      refine zb_goto E dX12_steps_203 (tgt := 133) rfl ?_
      refine zb_sub [2, 3, 4, 5, 0] rfl ?_
      exact ih (x5 + 1) v_next h
    · have h := if_f h hc
      refine zb_aload_n E dX12_steps_187 1 rfl rfl ?_
      refine zb_get E 128 (by decide) (zF_128 C.X) rfl zin12 5 (by decide) zw_1173 (v := .ref (C.X.1 + 134)) rfl dX12_steps_188 ?_
      refine zb_iload E dX12_steps_191 5 rfl ?_
      refine zb_sipush E dX12_steps_193 (v := 300) rfl ?_
      refine zb_iadd E dX12_steps_196 ?_
      refine zb_iload E dX12_steps_197 0 rfl ?_
      refine zb_iast E 134 (by decide) zF_134 (f := v_next) rfl (ib_in g13) dX12_steps_199 (I2 := (va_up (va_up (va_up I 132 v_plain) 133 v_fewest) 134 (upd v_next (ix (x5 + 300)) (((v_fewest (ix x3)) + rc10) + rc12)))) zn1 ?_
      refine zb_iinc E dX12_steps_200 5 rfl (v := (x5 + 1)) rfl (by decide) (lv2 := [(5, .int (x5 + 1)), (6, .int (((v_fewest (ix x3)) + rc10) + rc12)), (0, .ref (C.X.1 + 128)), (2, .int x2), (3, .int x3), (4, .int x4)]) rfl ?_
      refine zb_goto E dX12_steps_203 (tgt := 133) rfl ?_
      refine zb_sub [2, 3, 4, 5, 0] rfl ?_
      exact ih (x5 + 1) (upd v_next (ix (x5 + 300)) (((v_fewest (ix x3)) + rc10) + rc12)) h
theorem c_X12_steps_b206 {C : zC} {I : Nat → Nat → Int32} {J : Nat → Nat → Int64} {Rr : Nat → Nat → Option Nat} {D : zD} (N : Nat) (a1 : Int32) (v_lie : (Nat → Int32)) (e_v_lie : I 130 = v_lie) (v_ratio : (Nat → Int32)) (e_v_ratio : I 129 = v_ratio) (rr : Int32) (y_v_fewest : (Nat → Int32)) (y_v_next : (Nat → Int32)) (y_v_plain : (Nat → Int32)) (E : zE C RX12 cX12_steps 7 (some .int) ({ frames := 2, cells := 0, slots := 0, locals := 48 } : Room)) (hQ : C.Q = zQi C ({ frames := 2, cells := 0, slots := 0, locals := 48 } : Room) rr ((va_up (va_up (va_up I 132 y_v_plain) 133 y_v_fewest) 134 y_v_next), J, Rr, D)) (x2 : Int32) (x3 : Int32) (v_fewest : (Nat → Int32)) (v_next : (Nat → Int32)) (v_plain : (Nat → Int32)) (self : Int32 → (Nat → Int32) → Option R_pM_steps) (ih : ∀ (x3 : Int32) (v_next : (Nat → Int32)), self x3 v_next = some (rr, y_v_fewest, y_v_next, y_v_plain) → zB C (0, 0) 86 [(0, .ref (C.X.1 + 128)), (2, .int x2), (3, .int x3)] [] ((va_up (va_up (va_up I 132 v_plain) 133 v_fewest) 134 v_next), J, Rr, D)) (k212 : (Nat → Int32) → Option R_pM_steps) (hk212 : ∀ (v_next : (Nat → Int32)), k212 v_next = some (rr, y_v_fewest, y_v_next, y_v_plain) → zB C (0, 0) 212 [(0, .ref (C.X.1 + 128)), (2, .int x2)] [] ((va_up (va_up (va_up I 132 v_plain) 133 v_fewest) 134 v_next), J, Rr, D)) (h : pM_steps_b206 N a1 v_lie v_ratio self k212 x2 x3 v_fewest v_next v_plain = some (rr, y_v_fewest, y_v_next, y_v_plain)) : zB C (0, 0) 206 [(0, .ref (C.X.1 + 128)), (2, .int x2), (3, .int x3)] [] ((va_up (va_up (va_up I 132 v_plain) 133 v_fewest) 134 v_next), J, Rr, D) := by
  refine zb_iinc E dX12_steps_206 2 rfl (v := (x3 + 1)) rfl (by decide) (lv2 := [(3, .int (x3 + 1)), (0, .ref (C.X.1 + 128)), (2, .int x2)]) rfl ?_
  refine zb_goto E dX12_steps_209 (tgt := 86) rfl ?_
  refine zb_sub [1, 2, 0] rfl ?_
  exact ih (x3 + 1) v_next h
theorem c_X12_steps_b86 {C : zC} {I : Nat → Nat → Int32} {J : Nat → Nat → Int64} {Rr : Nat → Nat → Option Nat} {D : zD} (N : Nat) (a1 : Int32) (v_lie : (Nat → Int32)) (e_v_lie : I 130 = v_lie) (v_ratio : (Nat → Int32)) (e_v_ratio : I 129 = v_ratio) (rr : Int32) (y_v_fewest : (Nat → Int32)) (y_v_next : (Nat → Int32)) (y_v_plain : (Nat → Int32)) (E : zE C RX12 cX12_steps 7 (some .int) ({ frames := 2, cells := 0, slots := 0, locals := 48 } : Room)) (hQ : C.Q = zQi C ({ frames := 2, cells := 0, slots := 0, locals := 48 } : Room) rr ((va_up (va_up (va_up I 132 y_v_plain) 133 y_v_fewest) 134 y_v_next), J, Rr, D)) (x2 : Int32) (v_fewest : (Nat → Int32)) (v_plain : (Nat → Int32)) (k212 : (Nat → Int32) → Option R_pM_steps) (hk212 : ∀ (v_next : (Nat → Int32)), k212 v_next = some (rr, y_v_fewest, y_v_next, y_v_plain) → zB C (0, 0) 212 [(0, .ref (C.X.1 + 128)), (2, .int x2)] [] ((va_up (va_up (va_up I 132 v_plain) 133 v_fewest) 134 v_next), J, Rr, D)) : ∀ (n9 : Nat) (x3 : Int32) (v_next : (Nat → Int32)), pM_steps_b86 N a1 v_lie v_ratio x2 v_fewest v_plain k212 n9 x3 v_next = some (rr, y_v_fewest, y_v_next, y_v_plain) → zB C (0, 0) 86 [(0, .ref (C.X.1 + 128)), (2, .int x2), (3, .int x3)] [] ((va_up (va_up (va_up I 132 v_plain) 133 v_fewest) 134 v_next), J, Rr, D) := by
  refine zlp2_ind (P := fun (x3 : Int32) (v_next : (Nat → Int32)) => zB C (0, 0) 86 [(0, .ref (C.X.1 + 128)), (2, .int x2), (3, .int x3)] [] ((va_up (va_up (va_up I 132 v_plain) 133 v_fewest) 134 v_next), J, Rr, D)) (fun self ih => ?_)
  intro x3 v_next h
  refine zb_iload_n E dX12_steps_86 2 rfl rfl ?_
  refine zb_sipush E dX12_steps_87 (v := 600) rfl ?_
  refine zb_icmp_gt E dX12_steps_90 (tgt := 212) rfl (fun hc => ?_) (fun hc => ?_)
  · have h := if_t h hc
    refine zb_sub [0, 1] rfl ?_
    exact hk212 v_next h
  · have h := if_f h hc
    refine zb_aload_n E dX12_steps_93 0 rfl rfl ?_
    refine zb_get E 128 (by decide) (zF_128 C.X) rfl zin12 4 (by decide) zw_1172 (v := .ref (C.X.1 + 133)) rfl dX12_steps_94 ?_
    refine zb_iload_n E dX12_steps_97 2 rfl rfl ?_
    obtain ⟨g7, h⟩ := gd_s h
    refine zb_iald E 133 (by decide) zF_133 (f := v_fewest) rfl (ib_in g7) dX12_steps_98 ?_
    refine zb_ldc E dX12_steps_99 (v := 100000000) zw_1479 ?_
    refine zb_icmp_ne E dX12_steps_101 (tgt := 107) rfl (fun hc => ?_) (fun hc => ?_)
    · have h := if_f h hc
      refine zb_aload_n E dX12_steps_107 0 rfl rfl ?_
      refine zb_get E 128 (by decide) (zF_128 C.X) rfl zin12 1 (by decide) zw_1169 (v := .ref (C.X.1 + 130)) rfl dX12_steps_108 ?_
      refine zb_iload_n E dX12_steps_111 1 rfl rfl ?_
      obtain ⟨g8, h⟩ := gd_s h
      refine zb_iald E 130 (by decide) zF_130 (f := v_lie) (by exact e_v_lie) (ib_in g8) dX12_steps_112 ?_
      refine zb_iload_n E dX12_steps_113 2 rfl rfl ?_
      refine zb_iadd E dX12_steps_114 ?_
      refine zb_sipush E dX12_steps_115 (v := 300) rfl ?_
      refine zb_isub E dX12_steps_118 ?_
      refine zb_aload_n E dX12_steps_119 0 rfl rfl ?_
      refine zb_get E 128 (by decide) (zF_128 C.X) rfl zin12 3 (by decide) zw_1171 (v := .ref (C.X.1 + 132)) rfl dX12_steps_120 ?_
      refine zb_iload_n E dX12_steps_123 1 rfl rfl ?_
      refine zb_iald E 132 (by decide) zF_132 (f := v_plain) rfl (ib_in g8) dX12_steps_124 ?_
      refine zb_isub E dX12_steps_125 ?_
      refine zb_istore E dX12_steps_126 (by decide) (lv2 := [(4, .int ((((v_lie (ix x2)) + x3) - 300) - (v_plain (ix x2)))), (0, .ref (C.X.1 + 128)), (2, .int x2), (3, .int x3)]) rfl ?_
      refine zb_sipush E dX12_steps_128 (v := (-300)) rfl ?_
      refine zb_istore E dX12_steps_131 (by decide) (lv2 := [(5, .int (-300)), (4, .int ((((v_lie (ix x2)) + x3) - 300) - (v_plain (ix x2)))), (0, .ref (C.X.1 + 128)), (2, .int x2), (3, .int x3)]) rfl ?_
      refine zb_sub [2, 3, 4, 1, 0] rfl ?_
      exact c_X12_steps_b133 N a1 v_lie e_v_lie v_ratio e_v_ratio rr y_v_fewest y_v_next y_v_plain E hQ x2 x3 ((((v_lie (ix x2)) + x3) - 300) - (v_plain (ix x2))) v_fewest v_plain _ (fun v_next_z3 h => c_X12_steps_b206 N a1 v_lie e_v_lie v_ratio e_v_ratio rr y_v_fewest y_v_next y_v_plain E hQ x2 x3 v_fewest v_next_z3 v_plain self ih k212 hk212 h) _ (-300) v_next h
    · have h := if_t h hc
      refine zb_goto E dX12_steps_104 (tgt := 206) rfl ?_
      exact c_X12_steps_b206 N a1 v_lie e_v_lie v_ratio e_v_ratio rr y_v_fewest y_v_next y_v_plain E hQ x2 x3 v_fewest v_next v_plain self ih k212 hk212 h
theorem c_X12_steps_b214 {C : zC} {I : Nat → Nat → Int32} {J : Nat → Nat → Int64} {Rr : Nat → Nat → Option Nat} {D : zD} (N : Nat) (a1 : Int32) (v_lie : (Nat → Int32)) (e_v_lie : I 130 = v_lie) (v_ratio : (Nat → Int32)) (e_v_ratio : I 129 = v_ratio) (rr : Int32) (y_v_fewest : (Nat → Int32)) (y_v_next : (Nat → Int32)) (y_v_plain : (Nat → Int32)) (E : zE C RX12 cX12_steps 7 (some .int) ({ frames := 2, cells := 0, slots := 0, locals := 48 } : Room)) (hQ : C.Q = zQi C ({ frames := 2, cells := 0, slots := 0, locals := 48 } : Room) rr ((va_up (va_up (va_up I 132 y_v_plain) 133 y_v_fewest) 134 y_v_next), J, Rr, D)) (x2 : Int32) (v_next : (Nat → Int32)) (v_plain : (Nat → Int32)) (k239 : (Nat → Int32) → Option R_pM_steps) (hk239 : ∀ (v_fewest : (Nat → Int32)), k239 v_fewest = some (rr, y_v_fewest, y_v_next, y_v_plain) → zB C (0, 0) 239 [(0, .ref (C.X.1 + 128)), (2, .int x2)] [] ((va_up (va_up (va_up I 132 v_plain) 133 v_fewest) 134 v_next), J, Rr, D)) : ∀ (n9 : Nat) (x3 : Int32) (v_fewest : (Nat → Int32)), pM_steps_b214 N a1 v_lie v_ratio x2 v_next v_plain k239 n9 x3 v_fewest = some (rr, y_v_fewest, y_v_next, y_v_plain) → zB C (0, 0) 214 [(0, .ref (C.X.1 + 128)), (2, .int x2), (3, .int x3)] [] ((va_up (va_up (va_up I 132 v_plain) 133 v_fewest) 134 v_next), J, Rr, D) := by
  refine zlp2_ind (P := fun (x3 : Int32) (v_fewest : (Nat → Int32)) => zB C (0, 0) 214 [(0, .ref (C.X.1 + 128)), (2, .int x2), (3, .int x3)] [] ((va_up (va_up (va_up I 132 v_plain) 133 v_fewest) 134 v_next), J, Rr, D)) (fun self ih => ?_)
  intro x3 v_fewest h
  refine zb_iload_n E dX12_steps_214 2 rfl rfl ?_
  refine zb_sipush E dX12_steps_215 (v := 600) rfl ?_
  refine zb_icmp_gt E dX12_steps_218 (tgt := 239) rfl (fun hc => ?_) (fun hc => ?_)
  · have h := if_t h hc
    refine zb_sub [0, 1] rfl ?_
    exact hk239 v_fewest h
  · have h := if_f h hc
    refine zb_aload_n E dX12_steps_221 0 rfl rfl ?_
    refine zb_get E 128 (by decide) (zF_128 C.X) rfl zin12 4 (by decide) zw_1172 (v := .ref (C.X.1 + 133)) rfl dX12_steps_222 ?_
    refine zb_iload_n E dX12_steps_225 2 rfl rfl ?_
    refine zb_aload_n E dX12_steps_226 0 rfl rfl ?_
    refine zb_get E 128 (by decide) (zF_128 C.X) rfl zin12 5 (by decide) zw_1173 (v := .ref (C.X.1 + 134)) rfl dX12_steps_227 ?_
    refine zb_iload_n E dX12_steps_230 2 rfl rfl ?_
    obtain ⟨g14, h⟩ := gd_s h
    refine zb_iald E 134 (by decide) zF_134 (f := v_next) rfl (ib_in g14) dX12_steps_231 ?_
    refine zb_iast E 133 (by decide) zF_133 (f := v_fewest) rfl (ib_in g14) dX12_steps_232 (I2 := (va_up (va_up (va_up I 132 v_plain) 133 (upd v_fewest (ix x3) (v_next (ix x3)))) 134 v_next)) (zn2 (by decide : (134 : Nat) ≠ 133)) ?_
    refine zb_iinc E dX12_steps_233 2 rfl (v := (x3 + 1)) rfl (by decide) (lv2 := [(3, .int (x3 + 1)), (0, .ref (C.X.1 + 128)), (2, .int x2)]) rfl ?_
    refine zb_goto E dX12_steps_236 (tgt := 214) rfl ?_
    refine zb_sub [1, 2, 0] rfl ?_
    exact ih (x3 + 1) (upd v_fewest (ix x3) (v_next (ix x3))) h
theorem c_X12_steps_b239 {C : zC} {I : Nat → Nat → Int32} {J : Nat → Nat → Int64} {Rr : Nat → Nat → Option Nat} {D : zD} (N : Nat) (a1 : Int32) (v_lie : (Nat → Int32)) (e_v_lie : I 130 = v_lie) (v_ratio : (Nat → Int32)) (e_v_ratio : I 129 = v_ratio) (rr : Int32) (y_v_fewest : (Nat → Int32)) (y_v_next : (Nat → Int32)) (y_v_plain : (Nat → Int32)) (E : zE C RX12 cX12_steps 7 (some .int) ({ frames := 2, cells := 0, slots := 0, locals := 48 } : Room)) (hQ : C.Q = zQi C ({ frames := 2, cells := 0, slots := 0, locals := 48 } : Room) rr ((va_up (va_up (va_up I 132 y_v_plain) 133 y_v_fewest) 134 y_v_next), J, Rr, D)) (x2 : Int32) (v_fewest : (Nat → Int32)) (v_next : (Nat → Int32)) (v_plain : (Nat → Int32)) (self : Int32 → (Nat → Int32) → (Nat → Int32) → Option R_pM_steps) (ih : ∀ (x2 : Int32) (v_fewest : (Nat → Int32)) (v_next : (Nat → Int32)), self x2 v_fewest v_next = some (rr, y_v_fewest, y_v_next, y_v_plain) → zB C (0, 0) 55 [(0, .ref (C.X.1 + 128)), (2, .int x2)] [] ((va_up (va_up (va_up I 132 v_plain) 133 v_fewest) 134 v_next), J, Rr, D)) (k245 : (Nat → Int32) → (Nat → Int32) → Option R_pM_steps) (hk245 : ∀ (v_fewest : (Nat → Int32)) (v_next : (Nat → Int32)), k245 v_fewest v_next = some (rr, y_v_fewest, y_v_next, y_v_plain) → zB C (0, 0) 245 [(0, .ref (C.X.1 + 128))] [] ((va_up (va_up (va_up I 132 v_plain) 133 v_fewest) 134 v_next), J, Rr, D)) (h : pM_steps_b239 N a1 v_lie v_ratio self k245 x2 v_fewest v_next v_plain = some (rr, y_v_fewest, y_v_next, y_v_plain)) : zB C (0, 0) 239 [(0, .ref (C.X.1 + 128)), (2, .int x2)] [] ((va_up (va_up (va_up I 132 v_plain) 133 v_fewest) 134 v_next), J, Rr, D) := by
  refine zb_iinc E dX12_steps_239 1 rfl (v := (x2 + 1)) rfl (by decide) (lv2 := [(2, .int (x2 + 1)), (0, .ref (C.X.1 + 128))]) rfl ?_
  refine zb_goto E dX12_steps_242 (tgt := 55) rfl ?_
  refine zb_sub [1, 0] rfl ?_
  exact ih (x2 + 1) v_fewest v_next h
theorem c_X12_steps_b212 {C : zC} {I : Nat → Nat → Int32} {J : Nat → Nat → Int64} {Rr : Nat → Nat → Option Nat} {D : zD} (N : Nat) (a1 : Int32) (v_lie : (Nat → Int32)) (e_v_lie : I 130 = v_lie) (v_ratio : (Nat → Int32)) (e_v_ratio : I 129 = v_ratio) (rr : Int32) (y_v_fewest : (Nat → Int32)) (y_v_next : (Nat → Int32)) (y_v_plain : (Nat → Int32)) (E : zE C RX12 cX12_steps 7 (some .int) ({ frames := 2, cells := 0, slots := 0, locals := 48 } : Room)) (hQ : C.Q = zQi C ({ frames := 2, cells := 0, slots := 0, locals := 48 } : Room) rr ((va_up (va_up (va_up I 132 y_v_plain) 133 y_v_fewest) 134 y_v_next), J, Rr, D)) (x2 : Int32) (v_fewest : (Nat → Int32)) (v_next : (Nat → Int32)) (v_plain : (Nat → Int32)) (self : Int32 → (Nat → Int32) → (Nat → Int32) → Option R_pM_steps) (ih : ∀ (x2 : Int32) (v_fewest : (Nat → Int32)) (v_next : (Nat → Int32)), self x2 v_fewest v_next = some (rr, y_v_fewest, y_v_next, y_v_plain) → zB C (0, 0) 55 [(0, .ref (C.X.1 + 128)), (2, .int x2)] [] ((va_up (va_up (va_up I 132 v_plain) 133 v_fewest) 134 v_next), J, Rr, D)) (k245 : (Nat → Int32) → (Nat → Int32) → Option R_pM_steps) (hk245 : ∀ (v_fewest : (Nat → Int32)) (v_next : (Nat → Int32)), k245 v_fewest v_next = some (rr, y_v_fewest, y_v_next, y_v_plain) → zB C (0, 0) 245 [(0, .ref (C.X.1 + 128))] [] ((va_up (va_up (va_up I 132 v_plain) 133 v_fewest) 134 v_next), J, Rr, D)) (h : pM_steps_b212 N a1 v_lie v_ratio self k245 x2 v_fewest v_next v_plain = some (rr, y_v_fewest, y_v_next, y_v_plain)) : zB C (0, 0) 212 [(0, .ref (C.X.1 + 128)), (2, .int x2)] [] ((va_up (va_up (va_up I 132 v_plain) 133 v_fewest) 134 v_next), J, Rr, D) := by
  refine zb_iconst E dX12_steps_212 (v := 0) rfl ?_
  refine zb_istore_n E dX12_steps_213 rfl (by decide) (lv2 := [(3, .int 0), (0, .ref (C.X.1 + 128)), (2, .int x2)]) rfl ?_
  refine zb_sub [1, 2, 0] rfl ?_
  exact c_X12_steps_b214 N a1 v_lie e_v_lie v_ratio e_v_ratio rr y_v_fewest y_v_next y_v_plain E hQ x2 v_next v_plain _ (fun v_fewest_z5 h => c_X12_steps_b239 N a1 v_lie e_v_lie v_ratio e_v_ratio rr y_v_fewest y_v_next y_v_plain E hQ x2 v_fewest_z5 v_next v_plain self ih k245 hk245 h) _ 0 v_fewest h
theorem c_X12_steps_b84 {C : zC} {I : Nat → Nat → Int32} {J : Nat → Nat → Int64} {Rr : Nat → Nat → Option Nat} {D : zD} (N : Nat) (a1 : Int32) (v_lie : (Nat → Int32)) (e_v_lie : I 130 = v_lie) (v_ratio : (Nat → Int32)) (e_v_ratio : I 129 = v_ratio) (rr : Int32) (y_v_fewest : (Nat → Int32)) (y_v_next : (Nat → Int32)) (y_v_plain : (Nat → Int32)) (E : zE C RX12 cX12_steps 7 (some .int) ({ frames := 2, cells := 0, slots := 0, locals := 48 } : Room)) (hQ : C.Q = zQi C ({ frames := 2, cells := 0, slots := 0, locals := 48 } : Room) rr ((va_up (va_up (va_up I 132 y_v_plain) 133 y_v_fewest) 134 y_v_next), J, Rr, D)) (x2 : Int32) (v_fewest : (Nat → Int32)) (v_next : (Nat → Int32)) (v_plain : (Nat → Int32)) (self : Int32 → (Nat → Int32) → (Nat → Int32) → Option R_pM_steps) (ih : ∀ (x2 : Int32) (v_fewest : (Nat → Int32)) (v_next : (Nat → Int32)), self x2 v_fewest v_next = some (rr, y_v_fewest, y_v_next, y_v_plain) → zB C (0, 0) 55 [(0, .ref (C.X.1 + 128)), (2, .int x2)] [] ((va_up (va_up (va_up I 132 v_plain) 133 v_fewest) 134 v_next), J, Rr, D)) (k245 : (Nat → Int32) → (Nat → Int32) → Option R_pM_steps) (hk245 : ∀ (v_fewest : (Nat → Int32)) (v_next : (Nat → Int32)), k245 v_fewest v_next = some (rr, y_v_fewest, y_v_next, y_v_plain) → zB C (0, 0) 245 [(0, .ref (C.X.1 + 128))] [] ((va_up (va_up (va_up I 132 v_plain) 133 v_fewest) 134 v_next), J, Rr, D)) (h : pM_steps_b84 N a1 v_lie v_ratio self k245 x2 v_fewest v_next v_plain = some (rr, y_v_fewest, y_v_next, y_v_plain)) : zB C (0, 0) 84 [(0, .ref (C.X.1 + 128)), (2, .int x2)] [] ((va_up (va_up (va_up I 132 v_plain) 133 v_fewest) 134 v_next), J, Rr, D) := by
  refine zb_iconst E dX12_steps_84 (v := 0) rfl ?_
  refine zb_istore_n E dX12_steps_85 rfl (by decide) (lv2 := [(3, .int 0), (0, .ref (C.X.1 + 128)), (2, .int x2)]) rfl ?_
  refine zb_sub [1, 2, 0] rfl ?_
  exact c_X12_steps_b86 N a1 v_lie e_v_lie v_ratio e_v_ratio rr y_v_fewest y_v_next y_v_plain E hQ x2 v_fewest v_plain _ (fun v_next_z4 h => c_X12_steps_b212 N a1 v_lie e_v_lie v_ratio e_v_ratio rr y_v_fewest y_v_next y_v_plain E hQ x2 v_fewest v_next_z4 v_plain self ih k245 hk245 h) _ 0 v_next h
theorem c_X12_steps_b55 {C : zC} {I : Nat → Nat → Int32} {J : Nat → Nat → Int64} {Rr : Nat → Nat → Option Nat} {D : zD} (N : Nat) (a1 : Int32) (v_lie : (Nat → Int32)) (e_v_lie : I 130 = v_lie) (v_ratio : (Nat → Int32)) (e_v_ratio : I 129 = v_ratio) (rr : Int32) (y_v_fewest : (Nat → Int32)) (y_v_next : (Nat → Int32)) (y_v_plain : (Nat → Int32)) (E : zE C RX12 cX12_steps 7 (some .int) ({ frames := 2, cells := 0, slots := 0, locals := 48 } : Room)) (hQ : C.Q = zQi C ({ frames := 2, cells := 0, slots := 0, locals := 48 } : Room) rr ((va_up (va_up (va_up I 132 y_v_plain) 133 y_v_fewest) 134 y_v_next), J, Rr, D)) (v_plain : (Nat → Int32)) (k245 : (Nat → Int32) → (Nat → Int32) → Option R_pM_steps) (hk245 : ∀ (v_fewest : (Nat → Int32)) (v_next : (Nat → Int32)), k245 v_fewest v_next = some (rr, y_v_fewest, y_v_next, y_v_plain) → zB C (0, 0) 245 [(0, .ref (C.X.1 + 128))] [] ((va_up (va_up (va_up I 132 v_plain) 133 v_fewest) 134 v_next), J, Rr, D)) : ∀ (n9 : Nat) (x2 : Int32) (v_fewest : (Nat → Int32)) (v_next : (Nat → Int32)), pM_steps_b55 N a1 v_lie v_ratio v_plain k245 n9 x2 v_fewest v_next = some (rr, y_v_fewest, y_v_next, y_v_plain) → zB C (0, 0) 55 [(0, .ref (C.X.1 + 128)), (2, .int x2)] [] ((va_up (va_up (va_up I 132 v_plain) 133 v_fewest) 134 v_next), J, Rr, D) := by
  refine zlp3_ind (P := fun (x2 : Int32) (v_fewest : (Nat → Int32)) (v_next : (Nat → Int32)) => zB C (0, 0) 55 [(0, .ref (C.X.1 + 128)), (2, .int x2)] [] ((va_up (va_up (va_up I 132 v_plain) 133 v_fewest) 134 v_next), J, Rr, D)) (fun self ih => ?_)
  intro x2 v_fewest v_next h
  refine zb_iload_n E dX12_steps_55 1 rfl rfl ?_
  refine zb_bipush E dX12_steps_56 (v := 12) rfl ?_
  refine zb_icmp_ge E dX12_steps_58 (tgt := 245) rfl (fun hc => ?_) (fun hc => ?_)
  · have h := if_t h hc
    refine zb_sub [0] rfl ?_
    exact hk245 v_fewest v_next h
  · have h := if_f h hc
    refine zb_iconst E dX12_steps_61 (v := 0) rfl ?_
    refine zb_istore_n E dX12_steps_62 rfl (by decide) (lv2 := [(3, .int 0), (0, .ref (C.X.1 + 128)), (2, .int x2)]) rfl ?_
    refine zb_sub [1, 2, 0] rfl ?_
    exact c_X12_steps_b63 N a1 v_lie e_v_lie v_ratio e_v_ratio rr y_v_fewest y_v_next y_v_plain E hQ x2 v_fewest v_plain _ (fun v_next_z2 h => c_X12_steps_b84 N a1 v_lie e_v_lie v_ratio e_v_ratio rr y_v_fewest y_v_next y_v_plain E hQ x2 v_fewest v_next_z2 v_plain self ih k245 hk245 h) _ 0 v_next h
theorem c_X12_steps_b250 {C : zC} {I : Nat → Nat → Int32} {J : Nat → Nat → Int64} {Rr : Nat → Nat → Option Nat} {D : zD} (N : Nat) (a1 : Int32) (v_lie : (Nat → Int32)) (e_v_lie : I 130 = v_lie) (v_ratio : (Nat → Int32)) (e_v_ratio : I 129 = v_ratio) (rr : Int32) (y_v_fewest : (Nat → Int32)) (y_v_next : (Nat → Int32)) (y_v_plain : (Nat → Int32)) (E : zE C RX12 cX12_steps 7 (some .int) ({ frames := 2, cells := 0, slots := 0, locals := 48 } : Room)) (hQ : C.Q = zQi C ({ frames := 2, cells := 0, slots := 0, locals := 48 } : Room) rr ((va_up (va_up (va_up I 132 y_v_plain) 133 y_v_fewest) 134 y_v_next), J, Rr, D)) (v_fewest : (Nat → Int32)) (v_next : (Nat → Int32)) (v_plain : (Nat → Int32))  : ∀ (n9 : Nat) (x2 : Int32) (x3 : Int32), pM_steps_b250 N a1 v_lie v_ratio v_fewest v_next v_plain n9 x2 x3 = some (rr, y_v_fewest, y_v_next, y_v_plain) → zB C (0, 0) 250 [(0, .ref (C.X.1 + 128)), (2, .int x2), (3, .int x3)] [] ((va_up (va_up (va_up I 132 v_plain) 133 v_fewest) 134 v_next), J, Rr, D) := by
  refine zlp2_ind (P := fun (x2 : Int32) (x3 : Int32) => zB C (0, 0) 250 [(0, .ref (C.X.1 + 128)), (2, .int x2), (3, .int x3)] [] ((va_up (va_up (va_up I 132 v_plain) 133 v_fewest) 134 v_next), J, Rr, D)) (fun self ih => ?_)
  intro x2 x3 h
  refine zb_iload_n E dX12_steps_250 2 rfl rfl ?_
  refine zb_sipush E dX12_steps_251 (v := 600) rfl ?_
  refine zb_icmp_gt E dX12_steps_254 (tgt := 305) rfl (fun hc => ?_) (fun hc => ?_)
  · have h := if_t h hc
    refine zb_iload_n E dX12_steps_305 1 rfl rfl ?_
    obtain ⟨rfl, rfl, rfl, rfl⟩ := zinj4 h
    exact zb_iret E hQ rfl ⟨Nat.zero_le _, Nat.zero_le _⟩ dX12_steps_306
  · have h := if_f h hc
    refine zb_aload_n E dX12_steps_257 0 rfl rfl ?_
    refine zb_get E 128 (by decide) (zF_128 C.X) rfl zin12 4 (by decide) zw_1172 (v := .ref (C.X.1 + 133)) rfl dX12_steps_258 ?_
    refine zb_iload_n E dX12_steps_261 2 rfl rfl ?_
    obtain ⟨g5, h⟩ := gd_s h
    refine zb_iald E 133 (by decide) zF_133 (f := v_fewest) rfl (ib_in g5) dX12_steps_262 ?_
    refine zb_aload_n E dX12_steps_263 0 rfl rfl ?_
    refine zb_get E 128 (by decide) (zF_128 C.X) rfl zin12 1 (by decide) zw_1169 (v := .ref (C.X.1 + 130)) rfl dX12_steps_264 ?_
    refine zb_bipush E dX12_steps_267 (v := 12) rfl ?_
    refine zb_iald E 130 (by decide) zF_130 (f := v_lie) (by exact e_v_lie) (ib_in (by decide)) dX12_steps_269 ?_
    refine zb_iload_n E dX12_steps_270 2 rfl rfl ?_
    refine zb_iadd E dX12_steps_271 ?_
    refine zb_sipush E dX12_steps_272 (v := 300) rfl ?_
    refine zb_isub E dX12_steps_275 ?_
    refine zb_aload_n E dX12_steps_276 0 rfl rfl ?_
    refine zb_get E 128 (by decide) (zF_128 C.X) rfl zin12 3 (by decide) zw_1171 (v := .ref (C.X.1 + 132)) rfl dX12_steps_277 ?_
    refine zb_bipush E dX12_steps_280 (v := 12) rfl ?_
    refine zb_iald E 132 (by decide) zF_132 (f := v_plain) rfl (ib_in (by decide)) dX12_steps_282 ?_
    refine zb_isub E dX12_steps_283 ?_
    obtain ⟨rc6, hc_284, h⟩ := bd1_s h
    refine zb_cSi E [.int ((((v_lie (ix 12)) + x3) - 300) - (v_plain (ix 12)))] zy_X12_size zw_1480 (c_X12_size hc_284) (by decide) rfl rfl (by first | decide | simp [Value.category]) dX12_steps_284 (cs2 := (0, 0)) rfl ?_
    refine zb_iadd E dX12_steps_287 ?_
    refine zb_istore E dX12_steps_288 (by decide) (lv2 := [(4, .int ((v_fewest (ix x3)) + rc6)), (0, .ref (C.X.1 + 128)), (2, .int x2), (3, .int x3)]) rfl ?_
    refine zb_iload E dX12_steps_290 0 rfl ?_
    refine zb_iload_n E dX12_steps_292 2 rfl rfl ?_
    refine zb_icmp_ge E dX12_steps_293 (tgt := 299) rfl (fun hc => ?_) (fun hc => ?_)
    · have h := if_t h hc
      refine zb_iinc E dX12_steps_299 3 rfl (v := (x3 + 1)) rfl (by decide) (lv2 := [(3, .int (x3 + 1)), (4, .int ((v_fewest (ix x3)) + rc6)), (0, .ref (C.X.1 + 128)), (2, .int x2)]) rfl ?_
      refine zb_goto E dX12_steps_302 (tgt := 250) rfl ?_
      refine zb_sub [2, 3, 0] rfl ?_
      exact ih x2 (x3 + 1) h
    · have h := if_f h hc
      refine zb_iload E dX12_steps_296 0 rfl ?_
      refine zb_istore_n E dX12_steps_298 rfl (by decide) (lv2 := [(2, .int ((v_fewest (ix x3)) + rc6)), (4, .int ((v_fewest (ix x3)) + rc6)), (0, .ref (C.X.1 + 128)), (3, .int x3)]) rfl ?_
      refine zb_iinc E dX12_steps_299 3 rfl (v := (x3 + 1)) rfl (by decide) (lv2 := [(3, .int (x3 + 1)), (2, .int ((v_fewest (ix x3)) + rc6)), (4, .int ((v_fewest (ix x3)) + rc6)), (0, .ref (C.X.1 + 128))]) rfl ?_
      refine zb_goto E dX12_steps_302 (tgt := 250) rfl ?_
      refine zb_sub [3, 1, 0] rfl ?_
      exact ih ((v_fewest (ix x3)) + rc6) (x3 + 1) h
theorem c_X12_steps_b245 {C : zC} {I : Nat → Nat → Int32} {J : Nat → Nat → Int64} {Rr : Nat → Nat → Option Nat} {D : zD} (N : Nat) (a1 : Int32) (v_lie : (Nat → Int32)) (e_v_lie : I 130 = v_lie) (v_ratio : (Nat → Int32)) (e_v_ratio : I 129 = v_ratio) (rr : Int32) (y_v_fewest : (Nat → Int32)) (y_v_next : (Nat → Int32)) (y_v_plain : (Nat → Int32)) (E : zE C RX12 cX12_steps 7 (some .int) ({ frames := 2, cells := 0, slots := 0, locals := 48 } : Room)) (hQ : C.Q = zQi C ({ frames := 2, cells := 0, slots := 0, locals := 48 } : Room) rr ((va_up (va_up (va_up I 132 y_v_plain) 133 y_v_fewest) 134 y_v_next), J, Rr, D)) (v_fewest : (Nat → Int32)) (v_next : (Nat → Int32)) (v_plain : (Nat → Int32)) (h : pM_steps_b245 N a1 v_lie v_ratio v_fewest v_next v_plain = some (rr, y_v_fewest, y_v_next, y_v_plain)) : zB C (0, 0) 245 [(0, .ref (C.X.1 + 128))] [] ((va_up (va_up (va_up I 132 v_plain) 133 v_fewest) 134 v_next), J, Rr, D) := by
  refine zb_ldc E dX12_steps_245 (v := 100000000) zw_1479 ?_
  refine zb_istore_n E dX12_steps_247 rfl (by decide) (lv2 := [(2, .int 100000000), (0, .ref (C.X.1 + 128))]) rfl ?_
  refine zb_iconst E dX12_steps_248 (v := 0) rfl ?_
  refine zb_istore_n E dX12_steps_249 rfl (by decide) (lv2 := [(3, .int 0), (2, .int 100000000), (0, .ref (C.X.1 + 128))]) rfl ?_
  refine zb_sub [2, 1, 0] rfl ?_
  exact c_X12_steps_b250 N a1 v_lie e_v_lie v_ratio e_v_ratio rr y_v_fewest y_v_next y_v_plain E hQ v_fewest v_next v_plain _ 100000000 0 h
theorem c_X12_steps_b53 {C : zC} {I : Nat → Nat → Int32} {J : Nat → Nat → Int64} {Rr : Nat → Nat → Option Nat} {D : zD} (N : Nat) (a1 : Int32) (v_lie : (Nat → Int32)) (e_v_lie : I 130 = v_lie) (v_ratio : (Nat → Int32)) (e_v_ratio : I 129 = v_ratio) (rr : Int32) (y_v_fewest : (Nat → Int32)) (y_v_next : (Nat → Int32)) (y_v_plain : (Nat → Int32)) (E : zE C RX12 cX12_steps 7 (some .int) ({ frames := 2, cells := 0, slots := 0, locals := 48 } : Room)) (hQ : C.Q = zQi C ({ frames := 2, cells := 0, slots := 0, locals := 48 } : Room) rr ((va_up (va_up (va_up I 132 y_v_plain) 133 y_v_fewest) 134 y_v_next), J, Rr, D)) (v_fewest : (Nat → Int32)) (v_next : (Nat → Int32)) (v_plain : (Nat → Int32)) (h : pM_steps_b53 N a1 v_lie v_ratio v_fewest v_next v_plain = some (rr, y_v_fewest, y_v_next, y_v_plain)) : zB C (0, 0) 53 [(0, .ref (C.X.1 + 128))] [] ((va_up (va_up (va_up I 132 v_plain) 133 v_fewest) 134 v_next), J, Rr, D) := by
  refine zb_iconst E dX12_steps_53 (v := 0) rfl ?_
  refine zb_istore_n E dX12_steps_54 rfl (by decide) (lv2 := [(2, .int 0), (0, .ref (C.X.1 + 128))]) rfl ?_
  refine zb_sub [1, 0] rfl ?_
  exact c_X12_steps_b55 N a1 v_lie e_v_lie v_ratio e_v_ratio rr y_v_fewest y_v_next y_v_plain E hQ v_plain _ (fun v_fewest_z6 v_next_z7 h => c_X12_steps_b245 N a1 v_lie e_v_lie v_ratio e_v_ratio rr y_v_fewest y_v_next y_v_plain E hQ v_fewest_z6 v_next_z7 v_plain h) _ 0 v_fewest v_next h
theorem c_X12_steps_0 {C : zC} {I : Nat → Nat → Int32} {J : Nat → Nat → Int64} {Rr : Nat → Nat → Option Nat} {D : zD} (N : Nat) (a1 : Int32) (v_lie : (Nat → Int32)) (e_v_lie : I 130 = v_lie) (v_ratio : (Nat → Int32)) (e_v_ratio : I 129 = v_ratio) (rr : Int32) (y_v_fewest : (Nat → Int32)) (y_v_next : (Nat → Int32)) (y_v_plain : (Nat → Int32)) (E : zE C RX12 cX12_steps 7 (some .int) ({ frames := 2, cells := 0, slots := 0, locals := 48 } : Room)) (hQ : C.Q = zQi C ({ frames := 2, cells := 0, slots := 0, locals := 48 } : Room) rr ((va_up (va_up (va_up I 132 y_v_plain) 133 y_v_fewest) 134 y_v_next), J, Rr, D)) (v_fewest : (Nat → Int32)) (v_next : (Nat → Int32)) (v_plain : (Nat → Int32)) (h : pM_steps N a1 v_fewest v_lie v_next v_plain v_ratio = some (rr, y_v_fewest, y_v_next, y_v_plain)) : zB C (0, 0) 0 [(0, .ref (C.X.1 + 128)), (1, .int a1)] [] ((va_up (va_up (va_up I 132 v_plain) 133 v_fewest) 134 v_next), J, Rr, D) := by
  refine zb_iload_n E dX12_steps_0 1 rfl rfl ?_
  refine zb_i2l E dX12_steps_1 ?_
  refine zb_lconst E dX12_steps_2 (v := 0) rfl ?_
  refine zb_ldc2 E dX12_steps_3 (v := 1000000000) zw_1449 ?_
  obtain ⟨rc1, hc_6, h⟩ := bd1_s h
  refine zb_cSi E [.long (i2l a1), .long 0, .long 1000000000] zy_X12_isIn zw_1429 (c_X12_isIn hc_6) (by decide) rfl rfl (by first | decide | simp [Value.category]) dX12_steps_6 (cs2 := (0, 0)) rfl ?_
  refine zb_if_ne E dX12_steps_9 (tgt := 14) rfl (fun hc => ?_) (fun hc => ?_)
  · have h := if_f h hc
    refine zb_aload_n E dX12_steps_14 0 rfl rfl ?_
    refine zb_iload_n E dX12_steps_15 1 rfl rfl ?_
    obtain ⟨v_plain_c2, hc_16, h⟩ := bd1_s h
    refine zb_cVv E [.int a1] 128 zy_X12_plains zw_1450 (by decide) (zF_128 _ _ _ _) rfl (c_X12_plains v_ratio (by exact e_v_ratio) v_plain rfl hc_16) (by decide) rfl rfl (by first | decide | simp [Value.category]) dX12_steps_16 (cs2 := (0, 0)) rfl ?_
    refine zb_S (S2 := ((va_up (va_up (va_up I 132 v_plain_c2) 133 v_fewest) 134 v_next), J, Rr, D)) (zS_eq (zn3 (by decide : (134 : Nat) ≠ 132) (by decide : (133 : Nat) ≠ 132)) rfl) ?_
    refine zb_iconst E dX12_steps_19 (v := 0) rfl ?_
    refine zb_istore_n E dX12_steps_20 rfl (by decide) (lv2 := [(2, .int 0), (0, .ref (C.X.1 + 128)), (1, .int a1)]) rfl ?_
    refine zb_sub [1, 0] rfl ?_
    exact c_X12_steps_b21 N a1 v_lie e_v_lie v_ratio e_v_ratio rr y_v_fewest y_v_next y_v_plain E hQ v_next v_plain_c2 _ (fun v_fewest_z1 h => c_X12_steps_b53 N a1 v_lie e_v_lie v_ratio e_v_ratio rr y_v_fewest y_v_next y_v_plain E hQ v_fewest_z1 v_next v_plain_c2 h) _ 0 v_fewest h
  · have h := if_t h hc
    refine zb_iconst E dX12_steps_12 (v := (-1)) rfl ?_
    obtain ⟨rfl, rfl, rfl, rfl⟩ := zinj4 h
    exact zb_iret E hQ rfl ⟨Nat.zero_le _, Nat.zero_le _⟩ dX12_steps_13
theorem c_X12_steps {l : Launch} {X : zX} {I : Nat → Nat → Int32} {J : Nat → Nat → Int64} {Rr : Nat → Nat → Option Nat} {D : zD} {N : Nat} {a1 : Int32} (v_lie : (Nat → Int32)) (e_v_lie : I 130 = v_lie) (v_ratio : (Nat → Int32)) (e_v_ratio : I 129 = v_ratio) (v_fewest : (Nat → Int32)) (e_v_fewest : I 133 = v_fewest) (v_next : (Nat → Int32)) (e_v_next : I 134 = v_next) (v_plain : (Nat → Int32)) (e_v_plain : I 132 = v_plain) {rr : Int32} {y_v_fewest : (Nat → Int32)} {y_v_next : (Nat → Int32)} {y_v_plain : (Nat → Int32)} (h : pM_steps N a1 v_fewest v_lie v_next v_plain v_ratio = some (rr, y_v_fewest, y_v_next, y_v_plain)) : zMi l yX12_steps cX12_steps 7 (some .int) ({ frames := 2, cells := 0, slots := 0, locals := 48 } : Room) X [.ref (X.1 + 128), .int a1] (I, J, Rr, D) rr ((va_up (va_up (va_up I 132 y_v_plain) 133 y_v_fewest) 134 y_v_next), J, Rr, D) := by
  refine zMi.of (by decide) (Nat.le_of_ble_eq_true rfl) (fun C E hl hX hQ => ?_)
  subst hl
  subst hX
  have eI0 : (va_up (va_up (va_up I 132 v_plain) 133 v_fewest) 134 v_next) = I := by rw [zup_idE e_v_plain, zup_idE e_v_fewest, zup_idE e_v_next]
  have eJ0 : J = J := rfl
  refine zb_S (S2 := ((va_up (va_up (va_up I 132 v_plain) 133 v_fewest) 134 v_next), J, Rr, D)) (zS_eq eI0.symm eJ0.symm) ?_
  exact c_X12_steps_0 N a1 v_lie e_v_lie v_ratio e_v_ratio rr y_v_fewest y_v_next y_v_plain E hQ v_fewest v_next v_plain h
-- ChequeredClothModel.half
theorem dX12_half_0 : decode cX12_half 0 = .ok (.iload_n 1, 1) := by decide +kernel
theorem dX12_half_1 : decode cX12_half 1 = .ok (.i2l, 1) := by decide +kernel
theorem dX12_half_2 : decode cX12_half 2 = .ok (.lconst 0, 1) := by decide +kernel
theorem dX12_half_3 : decode cX12_half 3 = .ok (.ldc2_w 229, 3) := by decide +kernel
theorem dX12_half_6 : decode cX12_half 6 = .ok (.invokestatic 199, 3) := by decide +kernel
theorem dX12_half_9 : decode cX12_half 9 = .ok (.ifCond .ne 7, 3) := by decide +kernel
theorem dX12_half_12 : decode cX12_half 12 = .ok (.iconst (-1), 1) := by decide +kernel
theorem dX12_half_13 : decode cX12_half 13 = .ok (.goto 15, 3) := by decide +kernel
theorem dX12_half_16 : decode cX12_half 16 = .ok (.iload_n 0, 1) := by decide +kernel
theorem dX12_half_17 : decode cX12_half 17 = .ok (.ifCond .eq 10, 3) := by decide +kernel
theorem dX12_half_20 : decode cX12_half 20 = .ok (.bipush 10, 2) := by decide +kernel
theorem dX12_half_22 : decode cX12_half 22 = .ok (.iload_n 1, 1) := by decide +kernel
theorem dX12_half_23 : decode cX12_half 23 = .ok (.iadd, 1) := by decide +kernel
theorem dX12_half_24 : decode cX12_half 24 = .ok (.goto 4, 3) := by decide +kernel
theorem dX12_half_27 : decode cX12_half 27 = .ok (.iload_n 1, 1) := by decide +kernel
theorem dX12_half_28 : decode cX12_half 28 = .ok (.ireturn, 1) := by decide +kernel
theorem zy_X12_half : zYs yX12_half cX12_half 2 (some .int) 2 := ⟨zw_1488, zw_12, zw_1489, by decide, by decide, by decide⟩
theorem c_X12_half_0 {C : zC} {I : Nat → Nat → Int32} {J : Nat → Nat → Int64} {Rr : Nat → Nat → Option Nat} {D : zD} (a0 : Int32) (a1 : Int32) (rr : Int32) (E : zE C RX12 cX12_half 2 (some .int) ({ frames := 1, cells := 0, slots := 0, locals := 25 } : Room)) (hQ : C.Q = zQi C ({ frames := 1, cells := 0, slots := 0, locals := 25 } : Room) rr (I, J, Rr, D)) (h : pM_half a0 a1 = some rr) : zB C (0, 0) 0 [(0, .int a0), (1, .int a1)] [] (I, J, Rr, D) := by
  refine zb_iload_n E dX12_half_0 1 rfl rfl ?_
  refine zb_i2l E dX12_half_1 ?_
  refine zb_lconst E dX12_half_2 (v := 0) rfl ?_
  refine zb_ldc2 E dX12_half_3 (v := 9) zw_1490 ?_
  obtain ⟨rc1, hc_6, h⟩ := bd1_s h
  refine zb_cSi E [.long (i2l a1), .long 0, .long 9] zy_X12_isIn zw_1429 (c_X12_isIn hc_6) (by decide) rfl rfl (by first | decide | simp [Value.category]) dX12_half_6 (cs2 := (0, 0)) rfl ?_
  refine zb_if_ne E dX12_half_9 (tgt := 16) rfl (fun hc => ?_) (fun hc => ?_)
  · have h := if_f h hc
    refine zb_iload_n E dX12_half_16 0 rfl rfl ?_
    refine zb_if_eq E dX12_half_17 (tgt := 27) rfl (fun hc => ?_) (fun hc => ?_)
    · have h := if_t h hc
      refine zb_iload_n E dX12_half_27 1 rfl rfl ?_
      obtain rfl := zinj1 h
      exact zb_iret E hQ rfl ⟨Nat.zero_le _, Nat.zero_le _⟩ dX12_half_28
    · have h := if_f h hc
      refine zb_bipush E dX12_half_20 (v := 10) rfl ?_
      refine zb_iload_n E dX12_half_22 1 rfl rfl ?_
      refine zb_iadd E dX12_half_23 ?_
      refine zb_goto E dX12_half_24 (tgt := 28) rfl ?_
      obtain rfl := zinj1 h
      exact zb_iret E hQ rfl ⟨Nat.zero_le _, Nat.zero_le _⟩ dX12_half_28
  · have h := if_t h hc
    refine zb_iconst E dX12_half_12 (v := (-1)) rfl ?_
    refine zb_goto E dX12_half_13 (tgt := 28) rfl ?_
    obtain rfl := zinj1 h
    exact zb_iret E hQ rfl ⟨Nat.zero_le _, Nat.zero_le _⟩ dX12_half_28
theorem c_X12_half {l : Launch} {X : zX} {I : Nat → Nat → Int32} {J : Nat → Nat → Int64} {Rr : Nat → Nat → Option Nat} {D : zD} {a0 : Int32} {a1 : Int32} {rr : Int32} (h : pM_half a0 a1 = some rr) : zMi l yX12_half cX12_half 2 (some .int) ({ frames := 1, cells := 0, slots := 0, locals := 25 } : Room) X [.int a0, .int a1] (I, J, Rr, D) rr (I, J, Rr, D) := by
  refine zMi.of (by decide) (Nat.le_of_ble_eq_true rfl) (fun C E hl hX hQ => ?_)
  subst hl
  subst hX
  have eI0 : I = I := rfl
  have eJ0 : J = J := rfl
  refine zb_S (S2 := (I, J, Rr, D)) (zS_eq eI0.symm eJ0.symm) ?_
  exact c_X12_half_0 a0 a1 rr E hQ h
-- ChequeredClothModel.cut
theorem dX12_cut_0 : decode cX12_cut 0 = .ok (.iload_n 1, 1) := by decide +kernel
theorem dX12_cut_1 : decode cX12_cut 1 = .ok (.iload_n 2, 1) := by decide +kernel
theorem dX12_cut_2 : decode cX12_cut 2 = .ok (.invokestatic 231, 3) := by decide +kernel
theorem dX12_cut_5 : decode cX12_cut 5 = .ok (.istore 5, 2) := by decide +kernel
theorem dX12_cut_7 : decode cX12_cut 7 = .ok (.iload 5, 2) := by decide +kernel
theorem dX12_cut_9 : decode cX12_cut 9 = .ok (.iconst (-1), 1) := by decide +kernel
theorem dX12_cut_10 : decode cX12_cut 10 = .ok (.if_icmp .eq 40, 3) := by decide +kernel
theorem dX12_cut_13 : decode cX12_cut 13 = .ok (.iload_n 3, 1) := by decide +kernel
theorem dX12_cut_14 : decode cX12_cut 14 = .ok (.i2l, 1) := by decide +kernel
theorem dX12_cut_15 : decode cX12_cut 15 = .ok (.lconst 0, 1) := by decide +kernel
theorem dX12_cut_16 : decode cX12_cut 16 = .ok (.ldc2_w 235, 3) := by decide +kernel
theorem dX12_cut_19 : decode cX12_cut 19 = .ok (.invokestatic 199, 3) := by decide +kernel
theorem dX12_cut_22 : decode cX12_cut 22 = .ok (.ifCond .eq 28, 3) := by decide +kernel
theorem dX12_cut_25 : decode cX12_cut 25 = .ok (.iload 4, 2) := by decide +kernel
theorem dX12_cut_27 : decode cX12_cut 27 = .ok (.i2l, 1) := by decide +kernel
theorem dX12_cut_28 : decode cX12_cut 28 = .ok (.lconst 0, 1) := by decide +kernel
theorem dX12_cut_29 : decode cX12_cut 29 = .ok (.ldc2_w 237, 3) := by decide +kernel
theorem dX12_cut_32 : decode cX12_cut 32 = .ok (.invokestatic 199, 3) := by decide +kernel
theorem dX12_cut_35 : decode cX12_cut 35 = .ok (.ifCond .eq 15, 3) := by decide +kernel
theorem dX12_cut_38 : decode cX12_cut 38 = .ok (.aload_n 0, 1) := by decide +kernel
theorem dX12_cut_39 : decode cX12_cut 39 = .ok (.getfield 28, 3) := by decide +kernel
theorem dX12_cut_42 : decode cX12_cut 42 = .ok (.iload 5, 2) := by decide +kernel
theorem dX12_cut_44 : decode cX12_cut 44 = .ok (.iaload, 1) := by decide +kernel
theorem dX12_cut_45 : decode cX12_cut 45 = .ok (.bipush 12, 2) := by decide +kernel
theorem dX12_cut_47 : decode cX12_cut 47 = .ok (.if_icmp .ne 5, 3) := by decide +kernel
theorem dX12_cut_50 : decode cX12_cut 50 = .ok (.iconst (-1), 1) := by decide +kernel
theorem dX12_cut_51 : decode cX12_cut 51 = .ok (.ireturn, 1) := by decide +kernel
theorem dX12_cut_52 : decode cX12_cut 52 = .ok (.aload_n 0, 1) := by decide +kernel
theorem dX12_cut_53 : decode cX12_cut 53 = .ok (.getfield 28, 3) := by decide +kernel
theorem dX12_cut_56 : decode cX12_cut 56 = .ok (.iload 5, 2) := by decide +kernel
theorem dX12_cut_58 : decode cX12_cut 58 = .ok (.iaload, 1) := by decide +kernel
theorem dX12_cut_59 : decode cX12_cut 59 = .ok (.ifCond .le 29, 3) := by decide +kernel
theorem dX12_cut_62 : decode cX12_cut 62 = .ok (.aload_n 0, 1) := by decide +kernel
theorem dX12_cut_63 : decode cX12_cut 63 = .ok (.getfield 31, 3) := by decide +kernel
theorem dX12_cut_66 : decode cX12_cut 66 = .ok (.bipush 12, 2) := by decide +kernel
theorem dX12_cut_68 : decode cX12_cut 68 = .ok (.iload 5, 2) := by decide +kernel
theorem dX12_cut_70 : decode cX12_cut 70 = .ok (.imul, 1) := by decide +kernel
theorem dX12_cut_71 : decode cX12_cut 71 = .ok (.aload_n 0, 1) := by decide +kernel
theorem dX12_cut_72 : decode cX12_cut 72 = .ok (.getfield 28, 3) := by decide +kernel
theorem dX12_cut_75 : decode cX12_cut 75 = .ok (.iload 5, 2) := by decide +kernel
theorem dX12_cut_77 : decode cX12_cut 77 = .ok (.iaload, 1) := by decide +kernel
theorem dX12_cut_78 : decode cX12_cut 78 = .ok (.iadd, 1) := by decide +kernel
theorem dX12_cut_79 : decode cX12_cut 79 = .ok (.iconst 1, 1) := by decide +kernel
theorem dX12_cut_80 : decode cX12_cut 80 = .ok (.isub, 1) := by decide +kernel
theorem dX12_cut_81 : decode cX12_cut 81 = .ok (.iaload, 1) := by decide +kernel
theorem dX12_cut_82 : decode cX12_cut 82 = .ok (.iload_n 3, 1) := by decide +kernel
theorem dX12_cut_83 : decode cX12_cut 83 = .ok (.if_icmp .lt 5, 3) := by decide +kernel
theorem dX12_cut_86 : decode cX12_cut 86 = .ok (.iconst (-1), 1) := by decide +kernel
theorem dX12_cut_87 : decode cX12_cut 87 = .ok (.ireturn, 1) := by decide +kernel
theorem dX12_cut_88 : decode cX12_cut 88 = .ok (.aload_n 0, 1) := by decide +kernel
theorem dX12_cut_89 : decode cX12_cut 89 = .ok (.getfield 31, 3) := by decide +kernel
theorem dX12_cut_92 : decode cX12_cut 92 = .ok (.bipush 12, 2) := by decide +kernel
theorem dX12_cut_94 : decode cX12_cut 94 = .ok (.iload 5, 2) := by decide +kernel
theorem dX12_cut_96 : decode cX12_cut 96 = .ok (.imul, 1) := by decide +kernel
theorem dX12_cut_97 : decode cX12_cut 97 = .ok (.aload_n 0, 1) := by decide +kernel
theorem dX12_cut_98 : decode cX12_cut 98 = .ok (.getfield 28, 3) := by decide +kernel
theorem dX12_cut_101 : decode cX12_cut 101 = .ok (.iload 5, 2) := by decide +kernel
theorem dX12_cut_103 : decode cX12_cut 103 = .ok (.iaload, 1) := by decide +kernel
theorem dX12_cut_104 : decode cX12_cut 104 = .ok (.iadd, 1) := by decide +kernel
theorem dX12_cut_105 : decode cX12_cut 105 = .ok (.iload_n 3, 1) := by decide +kernel
theorem dX12_cut_106 : decode cX12_cut 106 = .ok (.iastore, 1) := by decide +kernel
theorem dX12_cut_107 : decode cX12_cut 107 = .ok (.aload_n 0, 1) := by decide +kernel
theorem dX12_cut_108 : decode cX12_cut 108 = .ok (.getfield 34, 3) := by decide +kernel
theorem dX12_cut_111 : decode cX12_cut 111 = .ok (.bipush 12, 2) := by decide +kernel
theorem dX12_cut_113 : decode cX12_cut 113 = .ok (.iload 5, 2) := by decide +kernel
theorem dX12_cut_115 : decode cX12_cut 115 = .ok (.imul, 1) := by decide +kernel
theorem dX12_cut_116 : decode cX12_cut 116 = .ok (.aload_n 0, 1) := by decide +kernel
theorem dX12_cut_117 : decode cX12_cut 117 = .ok (.getfield 28, 3) := by decide +kernel
theorem dX12_cut_120 : decode cX12_cut 120 = .ok (.iload 5, 2) := by decide +kernel
theorem dX12_cut_122 : decode cX12_cut 122 = .ok (.iaload, 1) := by decide +kernel
theorem dX12_cut_123 : decode cX12_cut 123 = .ok (.iadd, 1) := by decide +kernel
theorem dX12_cut_124 : decode cX12_cut 124 = .ok (.iload 4, 2) := by decide +kernel
theorem dX12_cut_126 : decode cX12_cut 126 = .ok (.iastore, 1) := by decide +kernel
theorem dX12_cut_127 : decode cX12_cut 127 = .ok (.aload_n 0, 1) := by decide +kernel
theorem dX12_cut_128 : decode cX12_cut 128 = .ok (.getfield 28, 3) := by decide +kernel
theorem dX12_cut_131 : decode cX12_cut 131 = .ok (.iload 5, 2) := by decide +kernel
theorem dX12_cut_133 : decode cX12_cut 133 = .ok (.dup2, 1) := by decide +kernel
theorem dX12_cut_134 : decode cX12_cut 134 = .ok (.iaload, 1) := by decide +kernel
theorem dX12_cut_135 : decode cX12_cut 135 = .ok (.iconst 1, 1) := by decide +kernel
theorem dX12_cut_136 : decode cX12_cut 136 = .ok (.iadd, 1) := by decide +kernel
theorem dX12_cut_137 : decode cX12_cut 137 = .ok (.iastore, 1) := by decide +kernel
theorem dX12_cut_138 : decode cX12_cut 138 = .ok (.aload_n 0, 1) := by decide +kernel
theorem dX12_cut_139 : decode cX12_cut 139 = .ok (.getfield 28, 3) := by decide +kernel
theorem dX12_cut_142 : decode cX12_cut 142 = .ok (.iload 5, 2) := by decide +kernel
theorem dX12_cut_144 : decode cX12_cut 144 = .ok (.iaload, 1) := by decide +kernel
theorem dX12_cut_145 : decode cX12_cut 145 = .ok (.ireturn, 1) := by decide +kernel
theorem zy_X12_cut : zYv yX12_cut cX12_cut 6 (some .int) 4 := ⟨zw_1484, zw_1485, zw_12, zw_1486, by decide, by decide, by decide⟩
theorem c_X12_cut_b88 {C : zC} {I : Nat → Nat → Int32} {J : Nat → Nat → Int64} {Rr : Nat → Nat → Option Nat} {D : zD} (a1 : Int32) (a2 : Int32) (a3 : Int32) (a4 : Int32) (rr : Int32) (y_v_cutAt : (Nat → Int32)) (y_v_cutWorth : (Nat → Int32)) (y_v_cuts : (Nat → Int32)) (E : zE C RX12 cX12_cut 6 (some .int) ({ frames := 2, cells := 0, slots := 0, locals := 46 } : Room)) (hQ : C.Q = zQi C ({ frames := 2, cells := 0, slots := 0, locals := 46 } : Room) rr ((va_up (va_up (va_up I 135 y_v_cuts) 136 y_v_cutAt) 137 y_v_cutWorth), J, Rr, D)) (x5 : Int32) (v_cutAt : (Nat → Int32)) (v_cutWorth : (Nat → Int32)) (v_cuts : (Nat → Int32)) (h : pM_cut_b88 a1 a2 a3 a4 x5 v_cutAt v_cutWorth v_cuts = some (rr, y_v_cutAt, y_v_cutWorth, y_v_cuts)) : zB C (0, 0) 88 [(0, .ref (C.X.1 + 128)), (3, .int a3), (4, .int a4), (5, .int x5)] [] ((va_up (va_up (va_up I 135 v_cuts) 136 v_cutAt) 137 v_cutWorth), J, Rr, D) := by
  refine zb_aload_n E dX12_cut_88 0 rfl rfl ?_
  refine zb_get E 128 (by decide) (zF_128 C.X) rfl zin12 7 (by decide) zw_1175 (v := .ref (C.X.1 + 136)) rfl dX12_cut_89 ?_
  refine zb_bipush E dX12_cut_92 (v := 12) rfl ?_
  refine zb_iload E dX12_cut_94 3 rfl ?_
  refine zb_imul E dX12_cut_96 ?_
  refine zb_aload_n E dX12_cut_97 0 rfl rfl ?_
  refine zb_get E 128 (by decide) (zF_128 C.X) rfl zin12 6 (by decide) zw_1174 (v := .ref (C.X.1 + 135)) rfl dX12_cut_98 ?_
  refine zb_iload E dX12_cut_101 3 rfl ?_
  obtain ⟨g6, h⟩ := gd_s h
  refine zb_iald E 135 (by decide) zF_135 (f := v_cuts) rfl (ib_in g6) dX12_cut_103 ?_
  refine zb_iadd E dX12_cut_104 ?_
  refine zb_iload_n E dX12_cut_105 1 rfl rfl ?_
  obtain ⟨g7, h⟩ := gd_s h
  refine zb_iast E 136 (by decide) zF_136 (f := v_cutAt) rfl (ib_in g7) dX12_cut_106 (I2 := (va_up (va_up (va_up I 135 v_cuts) 136 (upd v_cutAt (ix ((12 * x5) + (v_cuts (ix x5)))) a3)) 137 v_cutWorth)) (zn2 (by decide : (137 : Nat) ≠ 136)) ?_
  refine zb_aload_n E dX12_cut_107 0 rfl rfl ?_
  refine zb_get E 128 (by decide) (zF_128 C.X) rfl zin12 8 (by decide) zw_1176 (v := .ref (C.X.1 + 137)) rfl dX12_cut_108 ?_
  refine zb_bipush E dX12_cut_111 (v := 12) rfl ?_
  refine zb_iload E dX12_cut_113 3 rfl ?_
  refine zb_imul E dX12_cut_115 ?_
  refine zb_aload_n E dX12_cut_116 0 rfl rfl ?_
  refine zb_get E 128 (by decide) (zF_128 C.X) rfl zin12 6 (by decide) zw_1174 (v := .ref (C.X.1 + 135)) rfl dX12_cut_117 ?_
  refine zb_iload E dX12_cut_120 3 rfl ?_
  refine zb_iald E 135 (by decide) zF_135 (f := v_cuts) rfl (ib_in g6) dX12_cut_122 ?_
  refine zb_iadd E dX12_cut_123 ?_
  refine zb_iload E dX12_cut_124 2 rfl ?_
  refine zb_iast E 137 (by decide) zF_137 (f := v_cutWorth) rfl (ib_in g7) dX12_cut_126 (I2 := (va_up (va_up (va_up I 135 v_cuts) 136 (upd v_cutAt (ix ((12 * x5) + (v_cuts (ix x5)))) a3)) 137 (upd v_cutWorth (ix ((12 * x5) + (v_cuts (ix x5)))) a4))) zn1 ?_
  refine zb_aload_n E dX12_cut_127 0 rfl rfl ?_
  refine zb_get E 128 (by decide) (zF_128 C.X) rfl zin12 6 (by decide) zw_1174 (v := .ref (C.X.1 + 135)) rfl dX12_cut_128 ?_
  refine zb_iload E dX12_cut_131 3 rfl ?_
  refine zb_dup2_11 E dX12_cut_133 rfl rfl ?_
  refine zb_iald E 135 (by decide) zF_135 (f := v_cuts) rfl (ib_in g6) dX12_cut_134 ?_
  refine zb_iconst E dX12_cut_135 (v := 1) rfl ?_
  refine zb_iadd E dX12_cut_136 ?_
  refine zb_iast E 135 (by decide) zF_135 (f := v_cuts) rfl (ib_in g6) dX12_cut_137 (I2 := (va_up (va_up (va_up I 135 (upd v_cuts (ix x5) ((v_cuts (ix x5)) + 1))) 136 (upd v_cutAt (ix ((12 * x5) + (v_cuts (ix x5)))) a3)) 137 (upd v_cutWorth (ix ((12 * x5) + (v_cuts (ix x5)))) a4))) (zn3 (by decide : (137 : Nat) ≠ 135) (by decide : (136 : Nat) ≠ 135)) ?_
  refine zb_aload_n E dX12_cut_138 0 rfl rfl ?_
  refine zb_get E 128 (by decide) (zF_128 C.X) rfl zin12 6 (by decide) zw_1174 (v := .ref (C.X.1 + 135)) rfl dX12_cut_139 ?_
  refine zb_iload E dX12_cut_142 3 rfl ?_
  refine zb_iald E 135 (by decide) zF_135 (f := (upd v_cuts (ix x5) ((v_cuts (ix x5)) + 1))) rfl (ib_in g6) dX12_cut_144 ?_
  obtain ⟨rfl, rfl, rfl, rfl⟩ := zinj4 h
  exact zb_iret E hQ rfl ⟨Nat.zero_le _, Nat.zero_le _⟩ dX12_cut_145
theorem c_X12_cut_0 {C : zC} {I : Nat → Nat → Int32} {J : Nat → Nat → Int64} {Rr : Nat → Nat → Option Nat} {D : zD} (a1 : Int32) (a2 : Int32) (a3 : Int32) (a4 : Int32) (rr : Int32) (y_v_cutAt : (Nat → Int32)) (y_v_cutWorth : (Nat → Int32)) (y_v_cuts : (Nat → Int32)) (E : zE C RX12 cX12_cut 6 (some .int) ({ frames := 2, cells := 0, slots := 0, locals := 46 } : Room)) (hQ : C.Q = zQi C ({ frames := 2, cells := 0, slots := 0, locals := 46 } : Room) rr ((va_up (va_up (va_up I 135 y_v_cuts) 136 y_v_cutAt) 137 y_v_cutWorth), J, Rr, D)) (v_cutAt : (Nat → Int32)) (v_cutWorth : (Nat → Int32)) (v_cuts : (Nat → Int32)) (h : pM_cut a1 a2 a3 a4 v_cutAt v_cutWorth v_cuts = some (rr, y_v_cutAt, y_v_cutWorth, y_v_cuts)) : zB C (0, 0) 0 [(0, .ref (C.X.1 + 128)), (1, .int a1), (2, .int a2), (3, .int a3), (4, .int a4)] [] ((va_up (va_up (va_up I 135 v_cuts) 136 v_cutAt) 137 v_cutWorth), J, Rr, D) := by
  refine zb_iload_n E dX12_cut_0 1 rfl rfl ?_
  refine zb_iload_n E dX12_cut_1 2 rfl rfl ?_
  obtain ⟨rc1, hc_2, h⟩ := bd1_s h
  refine zb_cSi E [.int a1, .int a2] zy_X12_half zw_1487 (c_X12_half hc_2) (by decide) rfl rfl (by first | decide | simp [Value.category]) dX12_cut_2 (cs2 := (0, 0)) rfl ?_
  refine zb_istore E dX12_cut_5 (by decide) (lv2 := [(5, .int rc1), (0, .ref (C.X.1 + 128)), (1, .int a1), (2, .int a2), (3, .int a3), (4, .int a4)]) rfl ?_
  refine zb_iload E dX12_cut_7 0 rfl ?_
  refine zb_iconst E dX12_cut_9 (v := (-1)) rfl ?_
  refine zb_icmp_eq E dX12_cut_10 (tgt := 50) rfl (fun hc => ?_) (fun hc => ?_)
  · have h := if_t h hc
    refine zb_iconst E dX12_cut_50 (v := (-1)) rfl ?_
    obtain ⟨rfl, rfl, rfl, rfl⟩ := zinj4 h
    exact zb_iret E hQ rfl ⟨Nat.zero_le _, Nat.zero_le _⟩ dX12_cut_51
  · have h := if_f h hc
    refine zb_iload_n E dX12_cut_13 4 rfl rfl ?_
    refine zb_i2l E dX12_cut_14 ?_
    refine zb_lconst E dX12_cut_15 (v := 0) rfl ?_
    refine zb_ldc2 E dX12_cut_16 (v := 240) zw_1491 ?_
    obtain ⟨rc2, hc_19, h⟩ := bd1_s h
    refine zb_cSi E [.long (i2l a3), .long 0, .long 240] zy_X12_isIn zw_1429 (c_X12_isIn hc_19) (by decide) rfl rfl (by first | decide | simp [Value.category]) dX12_cut_19 (cs2 := (0, 0)) rfl ?_
    refine zb_if_eq E dX12_cut_22 (tgt := 50) rfl (fun hc => ?_) (fun hc => ?_)
    · have h := if_t h hc
      refine zb_iconst E dX12_cut_50 (v := (-1)) rfl ?_
      obtain ⟨rfl, rfl, rfl, rfl⟩ := zinj4 h
      exact zb_iret E hQ rfl ⟨Nat.zero_le _, Nat.zero_le _⟩ dX12_cut_51
    · have h := if_f h hc
      refine zb_iload E dX12_cut_25 5 rfl ?_
      refine zb_i2l E dX12_cut_27 ?_
      refine zb_lconst E dX12_cut_28 (v := 0) rfl ?_
      refine zb_ldc2 E dX12_cut_29 (v := 5) zw_1492 ?_
      obtain ⟨rc3, hc_32, h⟩ := bd1_s h
      refine zb_cSi E [.long (i2l a4), .long 0, .long 5] zy_X12_isIn zw_1429 (c_X12_isIn hc_32) (by decide) rfl rfl (by first | decide | simp [Value.category]) dX12_cut_32 (cs2 := (0, 0)) rfl ?_
      refine zb_if_eq E dX12_cut_35 (tgt := 50) rfl (fun hc => ?_) (fun hc => ?_)
      · have h := if_t h hc
        refine zb_iconst E dX12_cut_50 (v := (-1)) rfl ?_
        obtain ⟨rfl, rfl, rfl, rfl⟩ := zinj4 h
        exact zb_iret E hQ rfl ⟨Nat.zero_le _, Nat.zero_le _⟩ dX12_cut_51
      · have h := if_f h hc
        refine zb_aload_n E dX12_cut_38 1 rfl rfl ?_
        refine zb_get E 128 (by decide) (zF_128 C.X) rfl zin12 6 (by decide) zw_1174 (v := .ref (C.X.1 + 135)) rfl dX12_cut_39 ?_
        refine zb_iload E dX12_cut_42 0 rfl ?_
        obtain ⟨g4, h⟩ := gd_s h
        refine zb_iald E 135 (by decide) zF_135 (f := v_cuts) rfl (ib_in g4) dX12_cut_44 ?_
        refine zb_bipush E dX12_cut_45 (v := 12) rfl ?_
        refine zb_icmp_ne E dX12_cut_47 (tgt := 52) rfl (fun hc => ?_) (fun hc => ?_)
        · have h := if_f h hc
          refine zb_aload_n E dX12_cut_52 1 rfl rfl ?_
          refine zb_get E 128 (by decide) (zF_128 C.X) rfl zin12 6 (by decide) zw_1174 (v := .ref (C.X.1 + 135)) rfl dX12_cut_53 ?_
          refine zb_iload E dX12_cut_56 0 rfl ?_
          refine zb_iald E 135 (by decide) zF_135 (f := v_cuts) rfl (ib_in g4) dX12_cut_58 ?_
          refine zb_if_le E dX12_cut_59 (tgt := 88) rfl (fun hc => ?_) (fun hc => ?_)
          · have h := if_t h hc
            refine zb_sub [1, 4, 5, 0] rfl ?_
            exact c_X12_cut_b88 a1 a2 a3 a4 rr y_v_cutAt y_v_cutWorth y_v_cuts E hQ rc1 v_cutAt v_cutWorth v_cuts h
          · have h := if_f h hc
            refine zb_aload_n E dX12_cut_62 1 rfl rfl ?_
            refine zb_get E 128 (by decide) (zF_128 C.X) rfl zin12 7 (by decide) zw_1175 (v := .ref (C.X.1 + 136)) rfl dX12_cut_63 ?_
            refine zb_bipush E dX12_cut_66 (v := 12) rfl ?_
            refine zb_iload E dX12_cut_68 0 rfl ?_
            refine zb_imul E dX12_cut_70 ?_
            refine zb_aload_n E dX12_cut_71 1 rfl rfl ?_
            refine zb_get E 128 (by decide) (zF_128 C.X) rfl zin12 6 (by decide) zw_1174 (v := .ref (C.X.1 + 135)) rfl dX12_cut_72 ?_
            refine zb_iload E dX12_cut_75 0 rfl ?_
            refine zb_iald E 135 (by decide) zF_135 (f := v_cuts) rfl (ib_in g4) dX12_cut_77 ?_
            refine zb_iadd E dX12_cut_78 ?_
            refine zb_iconst E dX12_cut_79 (v := 1) rfl ?_
            refine zb_isub E dX12_cut_80 ?_
            obtain ⟨g5, h⟩ := gd_s h
            refine zb_iald E 136 (by decide) zF_136 (f := v_cutAt) rfl (ib_in g5) dX12_cut_81 ?_
            refine zb_iload_n E dX12_cut_82 4 rfl rfl ?_
            refine zb_icmp_lt E dX12_cut_83 (tgt := 88) rfl (fun hc => ?_) (fun hc => ?_)
            · have h := if_t h hc
              refine zb_sub [1, 4, 5, 0] rfl ?_
              exact c_X12_cut_b88 a1 a2 a3 a4 rr y_v_cutAt y_v_cutWorth y_v_cuts E hQ rc1 v_cutAt v_cutWorth v_cuts h
            · have h := if_f h hc
              refine zb_iconst E dX12_cut_86 (v := (-1)) rfl ?_
              obtain ⟨rfl, rfl, rfl, rfl⟩ := zinj4 h
              exact zb_iret E hQ rfl ⟨Nat.zero_le _, Nat.zero_le _⟩ dX12_cut_87
        · have h := if_t h hc
          refine zb_iconst E dX12_cut_50 (v := (-1)) rfl ?_
          obtain ⟨rfl, rfl, rfl, rfl⟩ := zinj4 h
          exact zb_iret E hQ rfl ⟨Nat.zero_le _, Nat.zero_le _⟩ dX12_cut_51
theorem c_X12_cut {l : Launch} {X : zX} {I : Nat → Nat → Int32} {J : Nat → Nat → Int64} {Rr : Nat → Nat → Option Nat} {D : zD} {a1 : Int32} {a2 : Int32} {a3 : Int32} {a4 : Int32} (v_cutAt : (Nat → Int32)) (e_v_cutAt : I 136 = v_cutAt) (v_cutWorth : (Nat → Int32)) (e_v_cutWorth : I 137 = v_cutWorth) (v_cuts : (Nat → Int32)) (e_v_cuts : I 135 = v_cuts) {rr : Int32} {y_v_cutAt : (Nat → Int32)} {y_v_cutWorth : (Nat → Int32)} {y_v_cuts : (Nat → Int32)} (h : pM_cut a1 a2 a3 a4 v_cutAt v_cutWorth v_cuts = some (rr, y_v_cutAt, y_v_cutWorth, y_v_cuts)) : zMi l yX12_cut cX12_cut 6 (some .int) ({ frames := 2, cells := 0, slots := 0, locals := 46 } : Room) X [.ref (X.1 + 128), .int a1, .int a2, .int a3, .int a4] (I, J, Rr, D) rr ((va_up (va_up (va_up I 135 y_v_cuts) 136 y_v_cutAt) 137 y_v_cutWorth), J, Rr, D) := by
  refine zMi.of (by decide) (Nat.le_of_ble_eq_true rfl) (fun C E hl hX hQ => ?_)
  subst hl
  subst hX
  have eI0 : (va_up (va_up (va_up I 135 v_cuts) 136 v_cutAt) 137 v_cutWorth) = I := by rw [zup_idE e_v_cuts, zup_idE e_v_cutAt, zup_idE e_v_cutWorth]
  have eJ0 : J = J := rfl
  refine zb_S (S2 := ((va_up (va_up (va_up I 135 v_cuts) 136 v_cutAt) 137 v_cutWorth), J, Rr, D)) (zS_eq eI0.symm eJ0.symm) ?_
  exact c_X12_cut_0 a1 a2 a3 a4 rr y_v_cutAt y_v_cutWorth y_v_cuts E hQ v_cutAt v_cutWorth v_cuts h
-- ChequeredClothModel.isThere
theorem dX12_isThere_0 : decode cX12_isThere 0 = .ok (.iload_n 1, 1) := by decide +kernel
theorem dX12_isThere_1 : decode cX12_isThere 1 = .ok (.iconst (-1), 1) := by decide +kernel
theorem dX12_isThere_2 : decode cX12_isThere 2 = .ok (.if_icmp .eq 16, 3) := by decide +kernel
theorem dX12_isThere_5 : decode cX12_isThere 5 = .ok (.aload_n 0, 1) := by decide +kernel
theorem dX12_isThere_6 : decode cX12_isThere 6 = .ok (.getfield 28, 3) := by decide +kernel
theorem dX12_isThere_9 : decode cX12_isThere 9 = .ok (.iload_n 1, 1) := by decide +kernel
theorem dX12_isThere_10 : decode cX12_isThere 10 = .ok (.iaload, 1) := by decide +kernel
theorem dX12_isThere_11 : decode cX12_isThere 11 = .ok (.ifCond .le 7, 3) := by decide +kernel
theorem dX12_isThere_14 : decode cX12_isThere 14 = .ok (.iconst 1, 1) := by decide +kernel
theorem dX12_isThere_15 : decode cX12_isThere 15 = .ok (.goto 4, 3) := by decide +kernel
theorem dX12_isThere_18 : decode cX12_isThere 18 = .ok (.iconst 0, 1) := by decide +kernel
theorem dX12_isThere_19 : decode cX12_isThere 19 = .ok (.ireturn, 1) := by decide +kernel
theorem zy_X12_isThere : zYv yX12_isThere cX12_isThere 2 (some .boolean) 1 := ⟨zw_1499, zws_48, zw_12, zw_1500, by decide, by decide, by decide⟩
theorem c_X12_isThere_0 {C : zC} {I : Nat → Nat → Int32} {J : Nat → Nat → Int64} {Rr : Nat → Nat → Option Nat} {D : zD} (a1 : Int32) (v_cuts : (Nat → Int32)) (e_v_cuts : I 135 = v_cuts) (rr : Int32) (E : zE C RX12 cX12_isThere 2 (some .boolean) ({ frames := 0, cells := 0, slots := 0, locals := 0 } : Room)) (hQ : C.Q = zQi C ({ frames := 0, cells := 0, slots := 0, locals := 0 } : Room) rr (I, J, Rr, D)) (h : pM_isThere a1 v_cuts = some rr) : zB C (0, 0) 0 [(0, .ref (C.X.1 + 128)), (1, .int a1)] [] (I, J, Rr, D) := by
  refine zb_iload_n E dX12_isThere_0 1 rfl rfl ?_
  refine zb_iconst E dX12_isThere_1 (v := (-1)) rfl ?_
  refine zb_icmp_eq E dX12_isThere_2 (tgt := 18) rfl (fun hc => ?_) (fun hc => ?_)
  · have h := if_t h hc
    refine zb_iconst E dX12_isThere_18 (v := 0) rfl ?_
    obtain rfl := zinj1 h
    exact zb_zret E hQ (ty := .boolean) rfl rfl ⟨Nat.zero_le _, Nat.zero_le _⟩ dX12_isThere_19
  · have h := if_f h hc
    refine zb_aload_n E dX12_isThere_5 0 rfl rfl ?_
    refine zb_get E 128 (by decide) (zF_128 C.X) rfl zin12 6 (by decide) zw_1174 (v := .ref (C.X.1 + 135)) rfl dX12_isThere_6 ?_
    refine zb_iload_n E dX12_isThere_9 1 rfl rfl ?_
    obtain ⟨g1, h⟩ := gd_s h
    refine zb_iald E 135 (by decide) zF_135 (f := v_cuts) (by exact e_v_cuts) (ib_in g1) dX12_isThere_10 ?_
    refine zb_if_le E dX12_isThere_11 (tgt := 18) rfl (fun hc => ?_) (fun hc => ?_)
    · have h := if_t h hc
      refine zb_iconst E dX12_isThere_18 (v := 0) rfl ?_
      obtain rfl := zinj1 h
      exact zb_zret E hQ (ty := .boolean) rfl rfl ⟨Nat.zero_le _, Nat.zero_le _⟩ dX12_isThere_19
    · have h := if_f h hc
      refine zb_iconst E dX12_isThere_14 (v := 1) rfl ?_
      refine zb_goto E dX12_isThere_15 (tgt := 19) rfl ?_
      obtain rfl := zinj1 h
      exact zb_zret E hQ (ty := .boolean) rfl rfl ⟨Nat.zero_le _, Nat.zero_le _⟩ dX12_isThere_19
theorem c_X12_isThere {l : Launch} {X : zX} {I : Nat → Nat → Int32} {J : Nat → Nat → Int64} {Rr : Nat → Nat → Option Nat} {D : zD} {a1 : Int32} (v_cuts : (Nat → Int32)) (e_v_cuts : I 135 = v_cuts) {rr : Int32} (h : pM_isThere a1 v_cuts = some rr) : zMi l yX12_isThere cX12_isThere 2 (some .boolean) ({ frames := 0, cells := 0, slots := 0, locals := 0 } : Room) X [.ref (X.1 + 128), .int a1] (I, J, Rr, D) rr (I, J, Rr, D) := by
  refine zMi.of (by decide) (Nat.le_of_ble_eq_true rfl) (fun C E hl hX hQ => ?_)
  subst hl
  subst hX
  have eI0 : I = I := rfl
  have eJ0 : J = J := rfl
  refine zb_S (S2 := (I, J, Rr, D)) (zS_eq eI0.symm eJ0.symm) ?_
  exact c_X12_isThere_0 a1 v_cuts e_v_cuts rr E hQ h
-- ChequeredClothModel.burn
theorem dX12_burn_0 : decode cX12_burn 0 = .ok (.iload_n 1, 1) := by decide +kernel
theorem dX12_burn_1 : decode cX12_burn 1 = .ok (.iload_n 2, 1) := by decide +kernel
theorem dX12_burn_2 : decode cX12_burn 2 = .ok (.invokestatic 231, 3) := by decide +kernel
theorem dX12_burn_5 : decode cX12_burn 5 = .ok (.istore_n 3, 1) := by decide +kernel
theorem dX12_burn_6 : decode cX12_burn 6 = .ok (.aload_n 0, 1) := by decide +kernel
theorem dX12_burn_7 : decode cX12_burn 7 = .ok (.iload_n 3, 1) := by decide +kernel
theorem dX12_burn_8 : decode cX12_burn 8 = .ok (.invokevirtual 239, 3) := by decide +kernel
theorem dX12_burn_11 : decode cX12_burn 11 = .ok (.ifCond .ne 5, 3) := by decide +kernel
theorem dX12_burn_14 : decode cX12_burn 14 = .ok (.iconst 0, 1) := by decide +kernel
theorem dX12_burn_15 : decode cX12_burn 15 = .ok (.ireturn, 1) := by decide +kernel
theorem dX12_burn_16 : decode cX12_burn 16 = .ok (.aload_n 0, 1) := by decide +kernel
theorem dX12_burn_17 : decode cX12_burn 17 = .ok (.getfield 28, 3) := by decide +kernel
theorem dX12_burn_20 : decode cX12_burn 20 = .ok (.iload_n 3, 1) := by decide +kernel
theorem dX12_burn_21 : decode cX12_burn 21 = .ok (.iconst 0, 1) := by decide +kernel
theorem dX12_burn_22 : decode cX12_burn 22 = .ok (.iastore, 1) := by decide +kernel
theorem dX12_burn_23 : decode cX12_burn 23 = .ok (.iconst 1, 1) := by decide +kernel
theorem dX12_burn_24 : decode cX12_burn 24 = .ok (.ireturn, 1) := by decide +kernel
theorem zy_X12_burn : zYv yX12_burn cX12_burn 4 (some .boolean) 2 := ⟨zw_1494, zw_1495, zw_12, zw_1496, by decide, by decide, by decide⟩
theorem c_X12_burn_0 {C : zC} {I : Nat → Nat → Int32} {J : Nat → Nat → Int64} {Rr : Nat → Nat → Option Nat} {D : zD} (a1 : Int32) (a2 : Int32) (rr : Int32) (y_v_cuts : (Nat → Int32)) (E : zE C RX12 cX12_burn 4 (some .boolean) ({ frames := 2, cells := 0, slots := 0, locals := 46 } : Room)) (hQ : C.Q = zQi C ({ frames := 2, cells := 0, slots := 0, locals := 46 } : Room) rr ((va_up I 135 y_v_cuts), J, Rr, D)) (v_cuts : (Nat → Int32)) (h : pM_burn a1 a2 v_cuts = some (rr, y_v_cuts)) : zB C (0, 0) 0 [(0, .ref (C.X.1 + 128)), (1, .int a1), (2, .int a2)] [] ((va_up I 135 v_cuts), J, Rr, D) := by
  refine zb_iload_n E dX12_burn_0 1 rfl rfl ?_
  refine zb_iload_n E dX12_burn_1 2 rfl rfl ?_
  obtain ⟨rc1, hc_2, h⟩ := bd1_s h
  refine zb_cSi E [.int a1, .int a2] zy_X12_half zw_1487 (c_X12_half hc_2) (by decide) rfl rfl (by first | decide | simp [Value.category]) dX12_burn_2 (cs2 := (0, 0)) rfl ?_
  refine zb_istore_n E dX12_burn_5 rfl (by decide) (lv2 := [(3, .int rc1), (0, .ref (C.X.1 + 128)), (1, .int a1), (2, .int a2)]) rfl ?_
  refine zb_aload_n E dX12_burn_6 1 rfl rfl ?_
  refine zb_iload_n E dX12_burn_7 0 rfl rfl ?_
  obtain ⟨rc2, hc_8, h⟩ := bd1_s h
  refine zb_cVi E [.int rc1] 128 zy_X12_isThere zw_1497 (by decide) (zF_128 _ _ _ _) rfl (c_X12_isThere v_cuts rfl hc_8) (by decide) rfl rfl (by first | decide | simp [Value.category]) dX12_burn_8 (cs2 := (0, 0)) rfl ?_
  refine zb_if_ne E dX12_burn_11 (tgt := 16) rfl (fun hc => ?_) (fun hc => ?_)
  · have h := if_f h hc
    refine zb_aload_n E dX12_burn_16 1 rfl rfl ?_
    refine zb_get E 128 (by decide) (zF_128 C.X) rfl zin12 6 (by decide) zw_1174 (v := .ref (C.X.1 + 135)) rfl dX12_burn_17 ?_
    refine zb_iload_n E dX12_burn_20 0 rfl rfl ?_
    refine zb_iconst E dX12_burn_21 (v := 0) rfl ?_
    obtain ⟨g3, h⟩ := gd_s h
    refine zb_iast E 135 (by decide) zF_135 (f := v_cuts) rfl (ib_in g3) dX12_burn_22 (I2 := (va_up I 135 (upd v_cuts (ix rc1) 0))) zn1 ?_
    refine zb_iconst E dX12_burn_23 (v := 1) rfl ?_
    obtain ⟨rfl, rfl⟩ := zinj2 h
    exact zb_zret E hQ (ty := .boolean) rfl rfl ⟨Nat.zero_le _, Nat.zero_le _⟩ dX12_burn_24
  · have h := if_t h hc
    refine zb_iconst E dX12_burn_14 (v := 0) rfl ?_
    obtain ⟨rfl, rfl⟩ := zinj2 h
    exact zb_zret E hQ (ty := .boolean) rfl rfl ⟨Nat.zero_le _, Nat.zero_le _⟩ dX12_burn_15
theorem c_X12_burn {l : Launch} {X : zX} {I : Nat → Nat → Int32} {J : Nat → Nat → Int64} {Rr : Nat → Nat → Option Nat} {D : zD} {a1 : Int32} {a2 : Int32} (v_cuts : (Nat → Int32)) (e_v_cuts : I 135 = v_cuts) {rr : Int32} {y_v_cuts : (Nat → Int32)} (h : pM_burn a1 a2 v_cuts = some (rr, y_v_cuts)) : zMi l yX12_burn cX12_burn 4 (some .boolean) ({ frames := 2, cells := 0, slots := 0, locals := 46 } : Room) X [.ref (X.1 + 128), .int a1, .int a2] (I, J, Rr, D) rr ((va_up I 135 y_v_cuts), J, Rr, D) := by
  refine zMi.of (by decide) (Nat.le_of_ble_eq_true rfl) (fun C E hl hX hQ => ?_)
  subst hl
  subst hX
  have eI0 : (va_up I 135 v_cuts) = I := by rw [zup_idE e_v_cuts]
  have eJ0 : J = J := rfl
  refine zb_S (S2 := ((va_up I 135 v_cuts), J, Rr, D)) (zS_eq eI0.symm eJ0.symm) ?_
  exact c_X12_burn_0 a1 a2 rr y_v_cuts E hQ v_cuts h
-- ChequeredClothModel.sumOf
theorem dX12_sumOf_0 : decode cX12_sumOf 0 = .ok (.iconst 0, 1) := by decide +kernel
theorem dX12_sumOf_1 : decode cX12_sumOf 1 = .ok (.istore_n 2, 1) := by decide +kernel
theorem dX12_sumOf_2 : decode cX12_sumOf 2 = .ok (.iconst 0, 1) := by decide +kernel
theorem dX12_sumOf_3 : decode cX12_sumOf 3 = .ok (.istore_n 3, 1) := by decide +kernel
theorem dX12_sumOf_4 : decode cX12_sumOf 4 = .ok (.iload_n 3, 1) := by decide +kernel
theorem dX12_sumOf_5 : decode cX12_sumOf 5 = .ok (.aload_n 0, 1) := by decide +kernel
theorem dX12_sumOf_6 : decode cX12_sumOf 6 = .ok (.getfield 28, 3) := by decide +kernel
theorem dX12_sumOf_9 : decode cX12_sumOf 9 = .ok (.iload_n 1, 1) := by decide +kernel
theorem dX12_sumOf_10 : decode cX12_sumOf 10 = .ok (.iaload, 1) := by decide +kernel
theorem dX12_sumOf_11 : decode cX12_sumOf 11 = .ok (.if_icmp .ge 28, 3) := by decide +kernel
theorem dX12_sumOf_14 : decode cX12_sumOf 14 = .ok (.iload_n 2, 1) := by decide +kernel
theorem dX12_sumOf_15 : decode cX12_sumOf 15 = .ok (.aload_n 0, 1) := by decide +kernel
theorem dX12_sumOf_16 : decode cX12_sumOf 16 = .ok (.getfield 38, 3) := by decide +kernel
theorem dX12_sumOf_19 : decode cX12_sumOf 19 = .ok (.aload_n 0, 1) := by decide +kernel
theorem dX12_sumOf_20 : decode cX12_sumOf 20 = .ok (.getfield 34, 3) := by decide +kernel
theorem dX12_sumOf_23 : decode cX12_sumOf 23 = .ok (.bipush 12, 2) := by decide +kernel
theorem dX12_sumOf_25 : decode cX12_sumOf 25 = .ok (.iload_n 1, 1) := by decide +kernel
theorem dX12_sumOf_26 : decode cX12_sumOf 26 = .ok (.imul, 1) := by decide +kernel
theorem dX12_sumOf_27 : decode cX12_sumOf 27 = .ok (.iload_n 3, 1) := by decide +kernel
theorem dX12_sumOf_28 : decode cX12_sumOf 28 = .ok (.iadd, 1) := by decide +kernel
theorem dX12_sumOf_29 : decode cX12_sumOf 29 = .ok (.iaload, 1) := by decide +kernel
theorem dX12_sumOf_30 : decode cX12_sumOf 30 = .ok (.iaload, 1) := by decide +kernel
theorem dX12_sumOf_31 : decode cX12_sumOf 31 = .ok (.iadd, 1) := by decide +kernel
theorem dX12_sumOf_32 : decode cX12_sumOf 32 = .ok (.istore_n 2, 1) := by decide +kernel
theorem dX12_sumOf_33 : decode cX12_sumOf 33 = .ok (.iinc 3 1, 3) := by decide +kernel
theorem dX12_sumOf_36 : decode cX12_sumOf 36 = .ok (.goto (-32), 3) := by decide +kernel
theorem dX12_sumOf_39 : decode cX12_sumOf 39 = .ok (.iload_n 2, 1) := by decide +kernel
theorem dX12_sumOf_40 : decode cX12_sumOf 40 = .ok (.ireturn, 1) := by decide +kernel
theorem zy_X12_sumOf : zYv yX12_sumOf cX12_sumOf 4 (some .int) 1 := ⟨zw_1507, zws_49, zw_12, zw_1508, by decide, by decide, by decide⟩
theorem c_X12_sumOf_b4 {C : zC} {I : Nat → Nat → Int32} {J : Nat → Nat → Int64} {Rr : Nat → Nat → Option Nat} {D : zD} (N : Nat) (a1 : Int32) (v_cutWorth : (Nat → Int32)) (e_v_cutWorth : I 137 = v_cutWorth) (v_cuts : (Nat → Int32)) (e_v_cuts : I 135 = v_cuts) (v_pence : (Nat → Int32)) (e_v_pence : I 138 = v_pence) (rr : Int32) (E : zE C RX12 cX12_sumOf 4 (some .int) ({ frames := 0, cells := 0, slots := 0, locals := 0 } : Room)) (hQ : C.Q = zQi C ({ frames := 0, cells := 0, slots := 0, locals := 0 } : Room) rr (I, J, Rr, D))  : ∀ (n9 : Nat) (x2 : Int32) (x3 : Int32), pM_sumOf_b4 N a1 v_cutWorth v_cuts v_pence n9 x2 x3 = some rr → zB C (0, 0) 4 [(0, .ref (C.X.1 + 128)), (1, .int a1), (2, .int x2), (3, .int x3)] [] (I, J, Rr, D) := by
  refine zlp2_ind (P := fun (x2 : Int32) (x3 : Int32) => zB C (0, 0) 4 [(0, .ref (C.X.1 + 128)), (1, .int a1), (2, .int x2), (3, .int x3)] [] (I, J, Rr, D)) (fun self ih => ?_)
  intro x2 x3 h
  refine zb_iload_n E dX12_sumOf_4 3 rfl rfl ?_
  refine zb_aload_n E dX12_sumOf_5 0 rfl rfl ?_
  refine zb_get E 128 (by decide) (zF_128 C.X) rfl zin12 6 (by decide) zw_1174 (v := .ref (C.X.1 + 135)) rfl dX12_sumOf_6 ?_
  refine zb_iload_n E dX12_sumOf_9 1 rfl rfl ?_
  obtain ⟨g1, h⟩ := gd_s h
  refine zb_iald E 135 (by decide) zF_135 (f := v_cuts) (by exact e_v_cuts) (ib_in g1) dX12_sumOf_10 ?_
  refine zb_icmp_ge E dX12_sumOf_11 (tgt := 39) rfl (fun hc => ?_) (fun hc => ?_)
  · have h := if_t h hc
    refine zb_iload_n E dX12_sumOf_39 2 rfl rfl ?_
    obtain rfl := zinj1 h
    exact zb_iret E hQ rfl ⟨Nat.zero_le _, Nat.zero_le _⟩ dX12_sumOf_40
  · have h := if_f h hc
    refine zb_iload_n E dX12_sumOf_14 2 rfl rfl ?_
    refine zb_aload_n E dX12_sumOf_15 0 rfl rfl ?_
    refine zb_get E 128 (by decide) (zF_128 C.X) rfl zin12 9 (by decide) zw_1177 (v := .ref (C.X.1 + 138)) rfl dX12_sumOf_16 ?_
    refine zb_aload_n E dX12_sumOf_19 0 rfl rfl ?_
    refine zb_get E 128 (by decide) (zF_128 C.X) rfl zin12 8 (by decide) zw_1176 (v := .ref (C.X.1 + 137)) rfl dX12_sumOf_20 ?_
    refine zb_bipush E dX12_sumOf_23 (v := 12) rfl ?_
    refine zb_iload_n E dX12_sumOf_25 1 rfl rfl ?_
    refine zb_imul E dX12_sumOf_26 ?_
    refine zb_iload_n E dX12_sumOf_27 3 rfl rfl ?_
    refine zb_iadd E dX12_sumOf_28 ?_
    obtain ⟨g2, h⟩ := gd_s h
    refine zb_iald E 137 (by decide) zF_137 (f := v_cutWorth) (by exact e_v_cutWorth) (ib_in g2) dX12_sumOf_29 ?_
    obtain ⟨g3, h⟩ := gd_s h
    refine zb_iald E 138 (by decide) zF_138 (f := v_pence) (by exact e_v_pence) (ib_in g3) dX12_sumOf_30 ?_
    refine zb_iadd E dX12_sumOf_31 ?_
    refine zb_istore_n E dX12_sumOf_32 rfl (by decide) (lv2 := [(2, .int (x2 + (v_pence (ix (v_cutWorth (ix ((12 * a1) + x3))))))), (0, .ref (C.X.1 + 128)), (1, .int a1), (3, .int x3)]) rfl ?_
    refine zb_iinc E dX12_sumOf_33 3 rfl (v := (x3 + 1)) rfl (by decide) (lv2 := [(3, .int (x3 + 1)), (2, .int (x2 + (v_pence (ix (v_cutWorth (ix ((12 * a1) + x3))))))), (0, .ref (C.X.1 + 128)), (1, .int a1)]) rfl ?_
    refine zb_goto E dX12_sumOf_36 (tgt := 4) rfl ?_
    refine zb_sub [2, 3, 1, 0] rfl ?_
    exact ih (x2 + (v_pence (ix (v_cutWorth (ix ((12 * a1) + x3)))))) (x3 + 1) h
theorem c_X12_sumOf_0 {C : zC} {I : Nat → Nat → Int32} {J : Nat → Nat → Int64} {Rr : Nat → Nat → Option Nat} {D : zD} (N : Nat) (a1 : Int32) (v_cutWorth : (Nat → Int32)) (e_v_cutWorth : I 137 = v_cutWorth) (v_cuts : (Nat → Int32)) (e_v_cuts : I 135 = v_cuts) (v_pence : (Nat → Int32)) (e_v_pence : I 138 = v_pence) (rr : Int32) (E : zE C RX12 cX12_sumOf 4 (some .int) ({ frames := 0, cells := 0, slots := 0, locals := 0 } : Room)) (hQ : C.Q = zQi C ({ frames := 0, cells := 0, slots := 0, locals := 0 } : Room) rr (I, J, Rr, D)) (h : pM_sumOf N a1 v_cutWorth v_cuts v_pence = some rr) : zB C (0, 0) 0 [(0, .ref (C.X.1 + 128)), (1, .int a1)] [] (I, J, Rr, D) := by
  refine zb_iconst E dX12_sumOf_0 (v := 0) rfl ?_
  refine zb_istore_n E dX12_sumOf_1 rfl (by decide) (lv2 := [(2, .int 0), (0, .ref (C.X.1 + 128)), (1, .int a1)]) rfl ?_
  refine zb_iconst E dX12_sumOf_2 (v := 0) rfl ?_
  refine zb_istore_n E dX12_sumOf_3 rfl (by decide) (lv2 := [(3, .int 0), (2, .int 0), (0, .ref (C.X.1 + 128)), (1, .int a1)]) rfl ?_
  refine zb_sub [2, 3, 1, 0] rfl ?_
  exact c_X12_sumOf_b4 N a1 v_cutWorth e_v_cutWorth v_cuts e_v_cuts v_pence e_v_pence rr E hQ _ 0 0 h
theorem c_X12_sumOf {l : Launch} {X : zX} {I : Nat → Nat → Int32} {J : Nat → Nat → Int64} {Rr : Nat → Nat → Option Nat} {D : zD} {N : Nat} {a1 : Int32} (v_cutWorth : (Nat → Int32)) (e_v_cutWorth : I 137 = v_cutWorth) (v_cuts : (Nat → Int32)) (e_v_cuts : I 135 = v_cuts) (v_pence : (Nat → Int32)) (e_v_pence : I 138 = v_pence) {rr : Int32} (h : pM_sumOf N a1 v_cutWorth v_cuts v_pence = some rr) : zMi l yX12_sumOf cX12_sumOf 4 (some .int) ({ frames := 0, cells := 0, slots := 0, locals := 0 } : Room) X [.ref (X.1 + 128), .int a1] (I, J, Rr, D) rr (I, J, Rr, D) := by
  refine zMi.of (by decide) (Nat.le_of_ble_eq_true rfl) (fun C E hl hX hQ => ?_)
  subst hl
  subst hX
  have eI0 : I = I := rfl
  have eJ0 : J = J := rfl
  refine zb_S (S2 := (I, J, Rr, D)) (zS_eq eI0.symm eJ0.symm) ?_
  exact c_X12_sumOf_0 N a1 v_cutWorth e_v_cutWorth v_cuts e_v_cuts v_pence e_v_pence rr E hQ h
