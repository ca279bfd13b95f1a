set_option maxHeartbeats 4000000
set_option maxRecDepth 100000
-- ChequeredClothModel.hasSquare
theorem dX12_hasSquare_0 : decode cX12_hasSquare 0 = .ok (.iconst 0, 1) := by decide +kernel
theorem dX12_hasSquare_1 : decode cX12_hasSquare 1 = .ok (.istore_n 1, 1) := by decide +kernel
theorem dX12_hasSquare_2 : decode cX12_hasSquare 2 = .ok (.iload_n 1, 1) := by decide +kernel
theorem dX12_hasSquare_3 : decode cX12_hasSquare 3 = .ok (.aload_n 0, 1) := by decide +kernel
theorem dX12_hasSquare_4 : decode cX12_hasSquare 4 = .ok (.getfield 320, 3) := by decide +kernel
theorem dX12_hasSquare_7 : decode cX12_hasSquare 7 = .ok (.if_icmp .ge 22, 3) := by decide +kernel
theorem dX12_hasSquare_10 : decode cX12_hasSquare 10 = .ok (.aload_n 0, 1) := by decide +kernel
theorem dX12_hasSquare_11 : decode cX12_hasSquare 11 = .ok (.getfield 162, 3) := by decide +kernel
theorem dX12_hasSquare_14 : decode cX12_hasSquare 14 = .ok (.iload_n 1, 1) := by decide +kernel
theorem dX12_hasSquare_15 : decode cX12_hasSquare 15 = .ok (.iaload, 1) := by decide +kernel
theorem dX12_hasSquare_16 : decode cX12_hasSquare 16 = .ok (.bipush 25, 2) := by decide +kernel
theorem dX12_hasSquare_18 : decode cX12_hasSquare 18 = .ok (.if_icmp .ne 5, 3) := by decide +kernel
theorem dX12_hasSquare_21 : decode cX12_hasSquare 21 = .ok (.iconst 1, 1) := by decide +kernel
theorem dX12_hasSquare_22 : decode cX12_hasSquare 22 = .ok (.ireturn, 1) := by decide +kernel
theorem dX12_hasSquare_23 : decode cX12_hasSquare 23 = .ok (.iinc 1 1, 3) := by decide +kernel
theorem dX12_hasSquare_26 : decode cX12_hasSquare 26 = .ok (.goto (-24), 3) := by decide +kernel
theorem dX12_hasSquare_29 : decode cX12_hasSquare 29 = .ok (.iconst 0, 1) := by decide +kernel
theorem dX12_hasSquare_30 : decode cX12_hasSquare 30 = .ok (.ireturn, 1) := by decide +kernel
theorem zy_X12_hasSquare : zYv yX12_hasSquare cX12_hasSquare 2 (some .boolean) 0 := ⟨zw_1674, zws_80, zw_12, zw_1675, by decide, by decide, by decide⟩
theorem c_X12_hasSquare_b2 {C : zC} {I : Nat → Nat → Int32} {J : Nat → Nat → Int64} {Rr : Nat → Nat → Option Nat} {D : zD} (N : Nat) (v_waits : Int32) (e_v_waits : I 128 58 = v_waits) (v_wait : (Nat → Int32)) (e_v_wait : I 174 = v_wait) (rr : Int32) (E : zE C RX12 cX12_hasSquare 2 (some .boolean) ({ frames := 0, cells := 0, slots := 0, locals := 0 } : Room)) (hQ : C.Q = zQi C ({ frames := 0, cells := 0, slots := 0, locals := 0 } : Room) rr (I, J, Rr, D))  : ∀ (n9 : Nat) (x1 : Int32), pM_hasSquare_b2 N v_waits v_wait n9 x1 = some rr → zB C (0, 0) 2 [(0, .ref (C.X.1 + 128)), (1, .int x1)] [] (I, J, Rr, D) := by
  refine zlp1_ind (P := fun (x1 : Int32) => zB C (0, 0) 2 [(0, .ref (C.X.1 + 128)), (1, .int x1)] [] (I, J, Rr, D)) (fun self ih => ?_)
  intro x1 h
  refine zb_iload_n E dX12_hasSquare_2 1 rfl rfl ?_
  refine zb_aload_n E dX12_hasSquare_3 0 rfl rfl ?_
  refine zb_get E 128 (by decide) (zF_128 C.X) rfl zin12 58 (by decide) zw_1226 (v := .int v_waits) (by exact congrArg (fun z => some (Value.int z)) e_v_waits) dX12_hasSquare_4 ?_
  refine zb_icmp_ge E dX12_hasSquare_7 (tgt := 29) rfl (fun hc => ?_) (fun hc => ?_)
  · have h := if_t h hc
    refine zb_iconst E dX12_hasSquare_29 (v := 0) rfl ?_
    obtain rfl := zinj1 h
    exact zb_zret E hQ (ty := .boolean) rfl rfl ⟨Nat.zero_le _, Nat.zero_le _⟩ dX12_hasSquare_30
  · have h := if_f h hc
    refine zb_aload_n E dX12_hasSquare_10 0 rfl rfl ?_
    refine zb_get E 128 (by decide) (zF_128 C.X) rfl zin12 57 (by decide) zw_1225 (v := .ref (C.X.1 + 174)) rfl dX12_hasSquare_11 ?_
    refine zb_iload_n E dX12_hasSquare_14 1 rfl rfl ?_
    obtain ⟨g1, h⟩ := gd_s h
    refine zb_iald E 174 (by decide) zF_174 (f := v_wait) (by exact e_v_wait) (ib_in g1) dX12_hasSquare_15 ?_
    refine zb_bipush E dX12_hasSquare_16 (v := 25) rfl ?_
    refine zb_icmp_ne E dX12_hasSquare_18 (tgt := 23) rfl (fun hc => ?_) (fun hc => ?_)
    · have h := if_f h hc
      refine zb_iinc E dX12_hasSquare_23 1 rfl (v := (x1 + 1)) rfl (by decide) (lv2 := [(1, .int (x1 + 1)), (0, .ref (C.X.1 + 128))]) rfl ?_
      refine zb_goto E dX12_hasSquare_26 (tgt := 2) rfl ?_
      refine zb_sub [1, 0] rfl ?_
      exact ih (x1 + 1) h
    · have h := if_t h hc
      refine zb_iconst E dX12_hasSquare_21 (v := 1) rfl ?_
      obtain rfl := zinj1 h
      exact zb_zret E hQ (ty := .boolean) rfl rfl ⟨Nat.zero_le _, Nat.zero_le _⟩ dX12_hasSquare_22
theorem c_X12_hasSquare_0 {C : zC} {I : Nat → Nat → Int32} {J : Nat → Nat → Int64} {Rr : Nat → Nat → Option Nat} {D : zD} (N : Nat) (v_waits : Int32) (e_v_waits : I 128 58 = v_waits) (v_wait : (Nat → Int32)) (e_v_wait : I 174 = v_wait) (rr : Int32) (E : zE C RX12 cX12_hasSquare 2 (some .boolean) ({ frames := 0, cells := 0, slots := 0, locals := 0 } : Room)) (hQ : C.Q = zQi C ({ frames := 0, cells := 0, slots := 0, locals := 0 } : Room) rr (I, J, Rr, D)) (h : pM_hasSquare N v_waits v_wait = some rr) : zB C (0, 0) 0 [(0, .ref (C.X.1 + 128))] [] (I, J, Rr, D) := by
  refine zb_iconst E dX12_hasSquare_0 (v := 0) rfl ?_
  refine zb_istore_n E dX12_hasSquare_1 rfl (by decide) (lv2 := [(1, .int 0), (0, .ref (C.X.1 + 128))]) rfl ?_
  refine zb_sub [1, 0] rfl ?_
  exact c_X12_hasSquare_b2 N v_waits e_v_waits v_wait e_v_wait rr E hQ _ 0 h
theorem c_X12_hasSquare {l : Launch} {X : zX} {I : Nat → Nat → Int32} {J : Nat → Nat → Int64} {Rr : Nat → Nat → Option Nat} {D : zD} {N : Nat} (v_waits : Int32) (e_v_waits : I 128 58 = v_waits) (v_wait : (Nat → Int32)) (e_v_wait : I 174 = v_wait) {rr : Int32} (h : pM_hasSquare N v_waits v_wait = some rr) : zMi l yX12_hasSquare cX12_hasSquare 2 (some .boolean) ({ frames := 0, cells := 0, slots := 0, locals := 0 } : Room) X [.ref (X.1 + 128)] (I, J, Rr, D) rr (I, J, Rr, D) := by
  refine zMi.of (by decide) (Nat.le_of_ble_eq_true rfl) (fun C E hl hX hQ => ?_)
  subst hl
  subst hX
  have eI0 : I = I := rfl
  have eJ0 : J = J := rfl
  refine zb_S (S2 := (I, J, Rr, D)) (zS_eq eI0.symm eJ0.symm) ?_
  exact c_X12_hasSquare_0 N v_waits e_v_waits v_wait e_v_wait rr E hQ h
-- ChequeredClothModel.dropsNots
theorem dX12_dropsNots_0 : decode cX12_dropsNots 0 = .ok (.aload_n 0, 1) := by decide +kernel
theorem dX12_dropsNots_1 : decode cX12_dropsNots 1 = .ok (.getfield 275, 3) := by decide +kernel
theorem dX12_dropsNots_4 : decode cX12_dropsNots 4 = .ok (.ifCond .ne 29, 3) := by decide +kernel
theorem dX12_dropsNots_7 : decode cX12_dropsNots 7 = .ok (.aload_n 0, 1) := by decide +kernel
theorem dX12_dropsNots_8 : decode cX12_dropsNots 8 = .ok (.bipush 16, 2) := by decide +kernel
theorem dX12_dropsNots_10 : decode cX12_dropsNots 10 = .ok (.invokevirtual 358, 3) := by decide +kernel
theorem dX12_dropsNots_13 : decode cX12_dropsNots 13 = .ok (.ifCond .eq 20, 3) := by decide +kernel
theorem dX12_dropsNots_16 : decode cX12_dropsNots 16 = .ok (.aload_n 0, 1) := by decide +kernel
theorem dX12_dropsNots_17 : decode cX12_dropsNots 17 = .ok (.dup, 1) := by decide +kernel
theorem dX12_dropsNots_18 : decode cX12_dropsNots 18 = .ok (.getfield 317, 3) := by decide +kernel
theorem dX12_dropsNots_21 : decode cX12_dropsNots 21 = .ok (.iconst 1, 1) := by decide +kernel
theorem dX12_dropsNots_22 : decode cX12_dropsNots 22 = .ok (.isub, 1) := by decide +kernel
theorem dX12_dropsNots_23 : decode cX12_dropsNots 23 = .ok (.putfield 317, 3) := by decide +kernel
theorem dX12_dropsNots_26 : decode cX12_dropsNots 26 = .ok (.aload_n 0, 1) := by decide +kernel
theorem dX12_dropsNots_27 : decode cX12_dropsNots 27 = .ok (.invokevirtual 332, 3) := by decide +kernel
theorem dX12_dropsNots_30 : decode cX12_dropsNots 30 = .ok (.goto (-30), 3) := by decide +kernel
theorem dX12_dropsNots_33 : decode cX12_dropsNots 33 = .ok (.return_, 1) := by decide +kernel
theorem zy_X12_dropsNots : zYv yX12_dropsNots cX12_dropsNots 1 none 0 := ⟨zw_1666, zws_78, zw_12, zw_1667, by decide, by decide, by decide⟩
theorem c_X12_dropsNots_b0 {C : zC} {I : Nat → Nat → Int32} {J : Nat → Nat → Int64} {Rr : Nat → Nat → Option Nat} {D : zD} (N : Nat) (v_bad : Int32) (e_v_bad : I 128 22 = v_bad) (v_wait : (Nat → Int32)) (e_v_wait : I 174 = v_wait) (y_v_coded : Int32) (y_v_open : Int32) (y_v_waits : Int32) (y_v_codes : (Nat → Int32)) (E : zE C RX12 cX12_dropsNots 1 none ({ frames := 2, cells := 0, slots := 0, locals := 41 } : Room)) (hQ : C.Q = zQv C ({ frames := 2, cells := 0, slots := 0, locals := 41 } : Room) ((va_up (va_up I 128 (va_up (va_up (va_up (I 128) 56 y_v_coded) 58 y_v_waits) 59 y_v_open)) 173 y_v_codes), J, Rr, D))  : ∀ (n9 : Nat) (v_coded : Int32) (v_open : Int32) (v_waits : Int32) (v_codes : (Nat → Int32)), pM_dropsNots_b0 N v_bad v_wait n9 v_coded v_open v_waits v_codes = some (y_v_coded, y_v_open, y_v_waits, y_v_codes) → zB C (0, 0) 0 [(0, .ref (C.X.1 + 128))] [] ((va_up (va_up I 128 (va_up (va_up (va_up (I 128) 56 v_coded) 58 v_waits) 59 v_open)) 173 v_codes), J, Rr, D) := by
  refine zlp4_ind (P := fun (v_coded : Int32) (v_open : Int32) (v_waits : Int32) (v_codes : (Nat → Int32)) => zB C (0, 0) 0 [(0, .ref (C.X.1 + 128))] [] ((va_up (va_up I 128 (va_up (va_up (va_up (I 128) 56 v_coded) 58 v_waits) 59 v_open)) 173 v_codes), J, Rr, D)) (fun self ih => ?_)
  intro v_coded v_open v_waits v_codes h
  refine zb_aload_n E dX12_dropsNots_0 0 rfl rfl ?_
  refine zb_get E 128 (by decide) (zF_128 C.X) rfl zin12 22 (by decide) zw_1190 (v := .int v_bad) (by exact congrArg (fun z => some (Value.int z)) e_v_bad) dX12_dropsNots_1 ?_
  refine zb_if_ne E dX12_dropsNots_4 (tgt := 33) rfl (fun hc => ?_) (fun hc => ?_)
  · have h := if_f h hc
    obtain ⟨rfl, rfl, rfl, rfl⟩ := zinj4 h
    exact zb_vret E hQ rfl ⟨Nat.zero_le _, Nat.zero_le _⟩ dX12_dropsNots_33
  · have h := if_t h hc
    refine zb_aload_n E dX12_dropsNots_7 0 rfl rfl ?_
    refine zb_bipush E dX12_dropsNots_8 (v := 16) rfl ?_
    obtain ⟨rc1, hc_10, h⟩ := bd1_s h
    refine zb_cVi E [.int 16] 128 zy_X12_isOn zw_1652 (by decide) (zF_128 _ _ _ _) rfl (c_X12_isOn v_waits rfl v_wait (by exact e_v_wait) hc_10) (by decide) rfl rfl (by first | decide | simp [Value.category]) dX12_dropsNots_10 (cs2 := (0, 0)) rfl ?_
    refine zb_if_eq E dX12_dropsNots_13 (tgt := 33) rfl (fun hc => ?_) (fun hc => ?_)
    · have h := if_t h hc
      obtain ⟨rfl, rfl, rfl, rfl⟩ := zinj4 h
      exact zb_vret E hQ rfl ⟨Nat.zero_le _, Nat.zero_le _⟩ dX12_dropsNots_33
    · have h := if_f h hc
      refine zb_aload_n E dX12_dropsNots_16 0 rfl rfl ?_
      refine zb_dup E dX12_dropsNots_17 rfl ?_
      refine zb_get E 128 (by decide) (zF_128 C.X) rfl zin12 59 (by decide) zw_1227 (v := .int v_open) rfl dX12_dropsNots_18 ?_
      refine zb_iconst E dX12_dropsNots_21 (v := 1) rfl ?_
      refine zb_isub E dX12_dropsNots_22 ?_
      refine zb_put E 128 (by decide) (zF_128 C.X) rfl zin12 59 (by decide) zw_1227 tyX12 tyX12_ok nmX12 rfl rfl rfl (I2 := (va_up (va_up I 128 (va_up (va_up (va_up (I 128) 56 v_coded) 58 v_waits) 59 (v_open - 1))) 173 v_codes)) (J2 := J) ((zset12_59 C.X (va_up (va_up (va_up (I 128) 56 v_coded) 58 v_waits) 59 v_open) (J 128) (v_open - 1)).trans (congrArg (fun g => zf12 C.X g (J 128)) zn1)) (by rw [zflen12]; decide) (fun j hj => ⟨zup_cg ((zup_n hj).trans (zup_n hj).symm), rfl⟩) dX12_dropsNots_23 ?_
      refine zb_aload_n E dX12_dropsNots_26 0 rfl rfl ?_
      obtain ⟨v_coded_c2, v_waits_c2, v_codes_c2, hc_27, h⟩ := bd3_s h
      refine zb_cVv E [] 128 zy_X12_drops zw_1648 (by decide) (zF_128 _ _ _ _) rfl (c_X12_drops (va_up (va_up (va_up (I 128) 56 v_coded) 58 v_waits) 59 (v_open - 1)) rfl v_wait (by exact e_v_wait) v_coded rfl v_waits rfl v_codes rfl hc_27) (by decide) rfl rfl (by first | decide | simp [Value.category]) dX12_dropsNots_27 (cs2 := (0, 0)) rfl ?_
      refine zb_S (S2 := ((va_up (va_up I 128 (va_up (va_up (va_up (I 128) 56 v_coded_c2) 58 v_waits_c2) 59 (v_open - 1))) 173 v_codes_c2), J, Rr, D)) (zS_eq ((zcgF ((zcgV ((zcgF (zn3 (by decide : (59 : Nat) ≠ 56) (by decide : (58 : Nat) ≠ 56))).trans (zn2 (by decide : (59 : Nat) ≠ 58)))).trans (zn2 (by decide : (173 : Nat) ≠ 128)))).trans zn1) rfl) ?_
      refine zb_goto E dX12_dropsNots_30 (tgt := 0) rfl ?_
      exact ih v_coded_c2 (v_open - 1) v_waits_c2 v_codes_c2 h
theorem c_X12_dropsNots_0 {C : zC} {I : Nat → Nat → Int32} {J : Nat → Nat → Int64} {Rr : Nat → Nat → Option Nat} {D : zD} (N : Nat) (v_bad : Int32) (e_v_bad : I 128 22 = v_bad) (v_wait : (Nat → Int32)) (e_v_wait : I 174 = v_wait) (y_v_coded : Int32) (y_v_open : Int32) (y_v_waits : Int32) (y_v_codes : (Nat → Int32)) (E : zE C RX12 cX12_dropsNots 1 none ({ frames := 2, cells := 0, slots := 0, locals := 41 } : Room)) (hQ : C.Q = zQv C ({ frames := 2, cells := 0, slots := 0, locals := 41 } : Room) ((va_up (va_up I 128 (va_up (va_up (va_up (I 128) 56 y_v_coded) 58 y_v_waits) 59 y_v_open)) 173 y_v_codes), J, Rr, D)) (v_coded : Int32) (v_open : Int32) (v_waits : Int32) (v_codes : (Nat → Int32)) (h : pM_dropsNots N v_bad v_coded v_open v_waits v_codes v_wait = some (y_v_coded, y_v_open, y_v_waits, y_v_codes)) : zB C (0, 0) 0 [(0, .ref (C.X.1 + 128))] [] ((va_up (va_up I 128 (va_up (va_up (va_up (I 128) 56 v_coded) 58 v_waits) 59 v_open)) 173 v_codes), J, Rr, D) := by
  exact c_X12_dropsNots_b0 N v_bad e_v_bad v_wait e_v_wait y_v_coded y_v_open y_v_waits y_v_codes E hQ _ v_coded v_open v_waits v_codes h
theorem c_X12_dropsNots {l : Launch} {X : zX} {I : Nat → Nat → Int32} {J : Nat → Nat → Int64} {Rr : Nat → Nat → Option Nat} {D : zD} {N : Nat} (oI128 : Nat → Int32) (eoI128 : I 128 = oI128) (v_bad : Int32) (e_v_bad : I 128 22 = v_bad) (v_wait : (Nat → Int32)) (e_v_wait : I 174 = v_wait) (v_coded : Int32) (e_v_coded : I 128 56 = v_coded) (v_open : Int32) (e_v_open : I 128 59 = v_open) (v_waits : Int32) (e_v_waits : I 128 58 = v_waits) (v_codes : (Nat → Int32)) (e_v_codes : I 173 = v_codes) {y_v_coded : Int32} {y_v_open : Int32} {y_v_waits : Int32} {y_v_codes : (Nat → Int32)} (h : pM_dropsNots N v_bad v_coded v_open v_waits v_codes v_wait = some (y_v_coded, y_v_open, y_v_waits, y_v_codes)) : zMv l yX12_dropsNots cX12_dropsNots 1 none ({ frames := 2, cells := 0, slots := 0, locals := 41 } : Room) X [.ref (X.1 + 128)] (I, J, Rr, D) ((va_up (va_up I 128 (va_up (va_up (va_up oI128 56 y_v_coded) 58 y_v_waits) 59 y_v_open)) 173 y_v_codes), J, Rr, D) := by
  subst eoI128
  refine zMv.of (by decide) (Nat.le_of_ble_eq_true rfl) (fun C E hl hX hQ => ?_)
  subst hl
  subst hX
  have eI0 : (va_up (va_up I 128 (va_up (va_up (va_up (I 128) 56 v_coded) 58 v_waits) 59 v_open)) 173 v_codes) = I := by rw [zup_idE e_v_coded, zup_idE e_v_waits, zup_idE e_v_open, zup_id, zup_idE e_v_codes]
  have eJ0 : J = J := rfl
  refine zb_S (S2 := ((va_up (va_up I 128 (va_up (va_up (va_up (I 128) 56 v_coded) 58 v_waits) 59 v_open)) 173 v_codes), J, Rr, D)) (zS_eq eI0.symm eJ0.symm) ?_
  exact c_X12_dropsNots_0 N v_bad e_v_bad v_wait e_v_wait y_v_coded y_v_open y_v_waits y_v_codes E hQ v_coded v_open v_waits v_codes h
-- ChequeredClothModel.goesOnTest
theorem dX12_goesOnTest_0 : decode cX12_goesOnTest 0 = .ok (.aload_n 0, 1) := by decide +kernel
theorem dX12_goesOnTest_1 : decode cX12_goesOnTest 1 = .ok (.getfield 275, 3) := by decide +kernel
theorem dX12_goesOnTest_4 : decode cX12_goesOnTest 4 = .ok (.ifCond .ne 72, 3) := by decide +kernel
theorem dX12_goesOnTest_7 : decode cX12_goesOnTest 7 = .ok (.aload_n 0, 1) := by decide +kernel
theorem dX12_goesOnTest_8 : decode cX12_goesOnTest 8 = .ok (.invokevirtual 287, 3) := by decide +kernel
theorem dX12_goesOnTest_11 : decode cX12_goesOnTest 11 = .ok (.bipush 93, 2) := by decide +kernel
theorem dX12_goesOnTest_13 : decode cX12_goesOnTest 13 = .ok (.if_icmp .ne 63, 3) := by decide +kernel
theorem dX12_goesOnTest_16 : decode cX12_goesOnTest 16 = .ok (.aload_n 0, 1) := by decide +kernel
theorem dX12_goesOnTest_17 : decode cX12_goesOnTest 17 = .ok (.invokevirtual 380, 3) := by decide +kernel
theorem dX12_goesOnTest_20 : decode cX12_goesOnTest 20 = .ok (.ifCond .eq 56, 3) := by decide +kernel
theorem dX12_goesOnTest_23 : decode cX12_goesOnTest 23 = .ok (.aload_n 0, 1) := by decide +kernel
theorem dX12_goesOnTest_24 : decode cX12_goesOnTest 24 = .ok (.dup, 1) := by decide +kernel
theorem dX12_goesOnTest_25 : decode cX12_goesOnTest 25 = .ok (.getfield 281, 3) := by decide +kernel
theorem dX12_goesOnTest_28 : decode cX12_goesOnTest 28 = .ok (.iconst 1, 1) := by decide +kernel
theorem dX12_goesOnTest_29 : decode cX12_goesOnTest 29 = .ok (.iadd, 1) := by decide +kernel
theorem dX12_goesOnTest_30 : decode cX12_goesOnTest 30 = .ok (.putfield 281, 3) := by decide +kernel
theorem dX12_goesOnTest_33 : decode cX12_goesOnTest 33 = .ok (.aload_n 0, 1) := by decide +kernel
theorem dX12_goesOnTest_34 : decode cX12_goesOnTest 34 = .ok (.bipush 25, 2) := by decide +kernel
theorem dX12_goesOnTest_36 : decode cX12_goesOnTest 36 = .ok (.invokevirtual 358, 3) := by decide +kernel
theorem dX12_goesOnTest_39 : decode cX12_goesOnTest 39 = .ok (.ifCond .ne 10, 3) := by decide +kernel
theorem dX12_goesOnTest_42 : decode cX12_goesOnTest 42 = .ok (.aload_n 0, 1) := by decide +kernel
theorem dX12_goesOnTest_43 : decode cX12_goesOnTest 43 = .ok (.invokevirtual 332, 3) := by decide +kernel
theorem dX12_goesOnTest_46 : decode cX12_goesOnTest 46 = .ok (.goto (-13), 3) := by decide +kernel
theorem dX12_goesOnTest_49 : decode cX12_goesOnTest 49 = .ok (.aload_n 0, 1) := by decide +kernel
theorem dX12_goesOnTest_50 : decode cX12_goesOnTest 50 = .ok (.dup, 1) := by decide +kernel
theorem dX12_goesOnTest_51 : decode cX12_goesOnTest 51 = .ok (.getfield 320, 3) := by decide +kernel
theorem dX12_goesOnTest_54 : decode cX12_goesOnTest 54 = .ok (.iconst 1, 1) := by decide +kernel
theorem dX12_goesOnTest_55 : decode cX12_goesOnTest 55 = .ok (.isub, 1) := by decide +kernel
theorem dX12_goesOnTest_56 : decode cX12_goesOnTest 56 = .ok (.putfield 320, 3) := by decide +kernel
theorem dX12_goesOnTest_59 : decode cX12_goesOnTest 59 = .ok (.aload_n 0, 1) := by decide +kernel
theorem dX12_goesOnTest_60 : decode cX12_goesOnTest 60 = .ok (.dup, 1) := by decide +kernel
theorem dX12_goesOnTest_61 : decode cX12_goesOnTest 61 = .ok (.getfield 317, 3) := by decide +kernel
theorem dX12_goesOnTest_64 : decode cX12_goesOnTest 64 = .ok (.iconst 1, 1) := by decide +kernel
theorem dX12_goesOnTest_65 : decode cX12_goesOnTest 65 = .ok (.isub, 1) := by decide +kernel
theorem dX12_goesOnTest_66 : decode cX12_goesOnTest 66 = .ok (.putfield 317, 3) := by decide +kernel
theorem dX12_goesOnTest_69 : decode cX12_goesOnTest 69 = .ok (.aload_n 0, 1) := by decide +kernel
theorem dX12_goesOnTest_70 : decode cX12_goesOnTest 70 = .ok (.invokevirtual 374, 3) := by decide +kernel
theorem dX12_goesOnTest_73 : decode cX12_goesOnTest 73 = .ok (.goto (-73), 3) := by decide +kernel
theorem dX12_goesOnTest_76 : decode cX12_goesOnTest 76 = .ok (.aload_n 0, 1) := by decide +kernel
theorem dX12_goesOnTest_77 : decode cX12_goesOnTest 77 = .ok (.aload_n 0, 1) := by decide +kernel
theorem dX12_goesOnTest_78 : decode cX12_goesOnTest 78 = .ok (.getfield 94, 3) := by decide +kernel
theorem dX12_goesOnTest_81 : decode cX12_goesOnTest 81 = .ok (.invokevirtual 301, 3) := by decide +kernel
theorem dX12_goesOnTest_84 : decode cX12_goesOnTest 84 = .ok (.ifCond .eq 42, 3) := by decide +kernel
theorem dX12_goesOnTest_87 : decode cX12_goesOnTest 87 = .ok (.aload_n 0, 1) := by decide +kernel
theorem dX12_goesOnTest_88 : decode cX12_goesOnTest 88 = .ok (.bipush 14, 2) := by decide +kernel
theorem dX12_goesOnTest_90 : decode cX12_goesOnTest 90 = .ok (.invokevirtual 358, 3) := by decide +kernel
theorem dX12_goesOnTest_93 : decode cX12_goesOnTest 93 = .ok (.ifCond .eq 10, 3) := by decide +kernel
theorem dX12_goesOnTest_96 : decode cX12_goesOnTest 96 = .ok (.aload_n 0, 1) := by decide +kernel
theorem dX12_goesOnTest_97 : decode cX12_goesOnTest 97 = .ok (.invokevirtual 332, 3) := by decide +kernel
theorem dX12_goesOnTest_100 : decode cX12_goesOnTest 100 = .ok (.goto (-13), 3) := by decide +kernel
theorem dX12_goesOnTest_103 : decode cX12_goesOnTest 103 = .ok (.aload_n 0, 1) := by decide +kernel
theorem dX12_goesOnTest_104 : decode cX12_goesOnTest 104 = .ok (.getfield 162, 3) := by decide +kernel
theorem dX12_goesOnTest_107 : decode cX12_goesOnTest 107 = .ok (.aload_n 0, 1) := by decide +kernel
theorem dX12_goesOnTest_108 : decode cX12_goesOnTest 108 = .ok (.getfield 320, 3) := by decide +kernel
theorem dX12_goesOnTest_111 : decode cX12_goesOnTest 111 = .ok (.bipush 14, 2) := by decide +kernel
theorem dX12_goesOnTest_113 : decode cX12_goesOnTest 113 = .ok (.iastore, 1) := by decide +kernel
theorem dX12_goesOnTest_114 : decode cX12_goesOnTest 114 = .ok (.aload_n 0, 1) := by decide +kernel
theorem dX12_goesOnTest_115 : decode cX12_goesOnTest 115 = .ok (.dup, 1) := by decide +kernel
theorem dX12_goesOnTest_116 : decode cX12_goesOnTest 116 = .ok (.getfield 320, 3) := by decide +kernel
theorem dX12_goesOnTest_119 : decode cX12_goesOnTest 119 = .ok (.iconst 1, 1) := by decide +kernel
theorem dX12_goesOnTest_120 : decode cX12_goesOnTest 120 = .ok (.iadd, 1) := by decide +kernel
theorem dX12_goesOnTest_121 : decode cX12_goesOnTest 121 = .ok (.putfield 320, 3) := by decide +kernel
theorem dX12_goesOnTest_124 : decode cX12_goesOnTest 124 = .ok (.iconst 1, 1) := by decide +kernel
theorem dX12_goesOnTest_125 : decode cX12_goesOnTest 125 = .ok (.ireturn, 1) := by decide +kernel
theorem dX12_goesOnTest_126 : decode cX12_goesOnTest 126 = .ok (.aload_n 0, 1) := by decide +kernel
theorem dX12_goesOnTest_127 : decode cX12_goesOnTest 127 = .ok (.aload_n 0, 1) := by decide +kernel
theorem dX12_goesOnTest_128 : decode cX12_goesOnTest 128 = .ok (.getfield 91, 3) := by decide +kernel
theorem dX12_goesOnTest_131 : decode cX12_goesOnTest 131 = .ok (.invokevirtual 301, 3) := by decide +kernel
theorem dX12_goesOnTest_134 : decode cX12_goesOnTest 134 = .ok (.ifCond .eq 51, 3) := by decide +kernel
theorem dX12_goesOnTest_137 : decode cX12_goesOnTest 137 = .ok (.aload_n 0, 1) := by decide +kernel
theorem dX12_goesOnTest_138 : decode cX12_goesOnTest 138 = .ok (.bipush 14, 2) := by decide +kernel
theorem dX12_goesOnTest_140 : decode cX12_goesOnTest 140 = .ok (.invokevirtual 358, 3) := by decide +kernel
theorem dX12_goesOnTest_143 : decode cX12_goesOnTest 143 = .ok (.ifCond .ne 12, 3) := by decide +kernel
theorem dX12_goesOnTest_146 : decode cX12_goesOnTest 146 = .ok (.aload_n 0, 1) := by decide +kernel
theorem dX12_goesOnTest_147 : decode cX12_goesOnTest 147 = .ok (.bipush 15, 2) := by decide +kernel
theorem dX12_goesOnTest_149 : decode cX12_goesOnTest 149 = .ok (.invokevirtual 358, 3) := by decide +kernel
theorem dX12_goesOnTest_152 : decode cX12_goesOnTest 152 = .ok (.ifCond .eq 10, 3) := by decide +kernel
theorem dX12_goesOnTest_155 : decode cX12_goesOnTest 155 = .ok (.aload_n 0, 1) := by decide +kernel
theorem dX12_goesOnTest_156 : decode cX12_goesOnTest 156 = .ok (.invokevirtual 332, 3) := by decide +kernel
theorem dX12_goesOnTest_159 : decode cX12_goesOnTest 159 = .ok (.goto (-22), 3) := by decide +kernel
theorem dX12_goesOnTest_162 : decode cX12_goesOnTest 162 = .ok (.aload_n 0, 1) := by decide +kernel
theorem dX12_goesOnTest_163 : decode cX12_goesOnTest 163 = .ok (.getfield 162, 3) := by decide +kernel
theorem dX12_goesOnTest_166 : decode cX12_goesOnTest 166 = .ok (.aload_n 0, 1) := by decide +kernel
theorem dX12_goesOnTest_167 : decode cX12_goesOnTest 167 = .ok (.getfield 320, 3) := by decide +kernel
theorem dX12_goesOnTest_170 : decode cX12_goesOnTest 170 = .ok (.bipush 15, 2) := by decide +kernel
theorem dX12_goesOnTest_172 : decode cX12_goesOnTest 172 = .ok (.iastore, 1) := by decide +kernel
theorem dX12_goesOnTest_173 : decode cX12_goesOnTest 173 = .ok (.aload_n 0, 1) := by decide +kernel
theorem dX12_goesOnTest_174 : decode cX12_goesOnTest 174 = .ok (.dup, 1) := by decide +kernel
theorem dX12_goesOnTest_175 : decode cX12_goesOnTest 175 = .ok (.getfield 320, 3) := by decide +kernel
theorem dX12_goesOnTest_178 : decode cX12_goesOnTest 178 = .ok (.iconst 1, 1) := by decide +kernel
theorem dX12_goesOnTest_179 : decode cX12_goesOnTest 179 = .ok (.iadd, 1) := by decide +kernel
theorem dX12_goesOnTest_180 : decode cX12_goesOnTest 180 = .ok (.putfield 320, 3) := by decide +kernel
theorem dX12_goesOnTest_183 : decode cX12_goesOnTest 183 = .ok (.iconst 1, 1) := by decide +kernel
theorem dX12_goesOnTest_184 : decode cX12_goesOnTest 184 = .ok (.ireturn, 1) := by decide +kernel
theorem dX12_goesOnTest_185 : decode cX12_goesOnTest 185 = .ok (.aload_n 0, 1) := by decide +kernel
theorem dX12_goesOnTest_186 : decode cX12_goesOnTest 186 = .ok (.getfield 275, 3) := by decide +kernel
theorem dX12_goesOnTest_189 : decode cX12_goesOnTest 189 = .ok (.ifCond .ne 19, 3) := by decide +kernel
theorem dX12_goesOnTest_192 : decode cX12_goesOnTest 192 = .ok (.aload_n 0, 1) := by decide +kernel
theorem dX12_goesOnTest_193 : decode cX12_goesOnTest 193 = .ok (.invokevirtual 380, 3) := by decide +kernel
theorem dX12_goesOnTest_196 : decode cX12_goesOnTest 196 = .ok (.ifCond .eq 12, 3) := by decide +kernel
theorem dX12_goesOnTest_199 : decode cX12_goesOnTest 199 = .ok (.aload_n 0, 1) := by decide +kernel
theorem dX12_goesOnTest_200 : decode cX12_goesOnTest 200 = .ok (.iconst 1, 1) := by decide +kernel
theorem dX12_goesOnTest_201 : decode cX12_goesOnTest 201 = .ok (.aload_n 0, 1) := by decide +kernel
theorem dX12_goesOnTest_202 : decode cX12_goesOnTest 202 = .ok (.getfield 281, 3) := by decide +kernel
theorem dX12_goesOnTest_205 : decode cX12_goesOnTest 205 = .ok (.invokevirtual 304, 3) := by decide +kernel
theorem dX12_goesOnTest_208 : decode cX12_goesOnTest 208 = .ok (.iconst 0, 1) := by decide +kernel
theorem dX12_goesOnTest_209 : decode cX12_goesOnTest 209 = .ok (.ireturn, 1) := by decide +kernel
theorem zy_X12_goesOnTest : zYv yX12_goesOnTest cX12_goesOnTest 1 (some .boolean) 0 := ⟨zw_1670, zws_79, zw_12, zw_1671, by decide, by decide, by decide⟩
theorem c_X12_goesOnTest_b33 {C : zC} {I : Nat → Nat → Int32} {J : Nat → Nat → Int64} {Rr : Nat → Nat → Option Nat} {D : zD} (N : Nat) (v_end : Int32) (e_v_end : I 128 20 = v_end) (v_andWord : (Nat → Int32)) (e_v_andWord : I 152 = v_andWord) (v_orWord : (Nat → Int32)) (e_v_orWord : I 151 = v_orWord) (v_tape : (Nat → Int32)) (e_v_tape : I 143 = v_tape) (rr : Int32) (y_v_at : Int32) (y_v_bad : Int32) (y_v_badPlace : Int32) (y_v_coded : Int32) (y_v_ended : Int32) (y_v_open : Int32) (y_v_waits : Int32) (y_v_codes : (Nat → Int32)) (y_v_wait : (Nat → Int32)) (E : zE C RX12 cX12_goesOnTest 1 (some .boolean) ({ frames := 3, cells := 0, slots := 0, locals := 64 } : Room)) (hQ : C.Q = zQi C ({ frames := 3, cells := 0, slots := 0, locals := 64 } : Room) rr ((va_up (va_up (va_up I 128 (va_up (va_up (va_up (va_up (va_up (va_up (va_up (I 128) 19 y_v_at) 21 y_v_ended) 22 y_v_bad) 23 y_v_badPlace) 56 y_v_coded) 58 y_v_waits) 59 y_v_open)) 173 y_v_codes) 174 y_v_wait), J, Rr, D)) (v_at : Int32) (v_bad : Int32) (v_badPlace : Int32) (v_ended : Int32) (v_open : Int32) (v_wait : (Nat → Int32)) (k49 : Int32 → Int32 → (Nat → Int32) → Option R_pM_goesOnTest) (hk49 : ∀ (v_coded : Int32) (v_waits : Int32) (v_codes : (Nat → Int32)), k49 v_coded v_waits v_codes = some (rr, y_v_at, y_v_bad, y_v_badPlace, y_v_coded, y_v_ended, y_v_open, y_v_waits, y_v_codes, y_v_wait) → zB C (0, 0) 49 [(0, .ref (C.X.1 + 128))] [] ((va_up (va_up (va_up I 128 (va_up (va_up (va_up (va_up (va_up (va_up (va_up (I 128) 19 v_at) 21 v_ended) 22 v_bad) 23 v_badPlace) 56 v_coded) 58 v_waits) 59 v_open)) 173 v_codes) 174 v_wait), J, Rr, D)) : ∀ (n9 : Nat) (v_coded : Int32) (v_waits : Int32) (v_codes : (Nat → Int32)), pM_goesOnTest_b33 N v_end v_andWord v_orWord v_tape v_at v_bad v_badPlace v_ended v_open v_wait k49 n9 v_coded v_waits v_codes = some (rr, y_v_at, y_v_bad, y_v_badPlace, y_v_coded, y_v_ended, y_v_open, y_v_waits, y_v_codes, y_v_wait) → zB C (0, 0) 33 [(0, .ref (C.X.1 + 128))] [] ((va_up (va_up (va_up I 128 (va_up (va_up (va_up (va_up (va_up (va_up (va_up (I 128) 19 v_at) 21 v_ended) 22 v_bad) 23 v_badPlace) 56 v_coded) 58 v_waits) 59 v_open)) 173 v_codes) 174 v_wait), J, Rr, D) := by
  refine zlp3_ind (P := fun (v_coded : Int32) (v_waits : Int32) (v_codes : (Nat → Int32)) => zB C (0, 0) 33 [(0, .ref (C.X.1 + 128))] [] ((va_up (va_up (va_up I 128 (va_up (va_up (va_up (va_up (va_up (va_up (va_up (I 128) 19 v_at) 21 v_ended) 22 v_bad) 23 v_badPlace) 56 v_coded) 58 v_waits) 59 v_open)) 173 v_codes) 174 v_wait), J, Rr, D)) (fun self ih => ?_)
  intro v_coded v_waits v_codes h
  refine zb_aload_n E dX12_goesOnTest_33 0 rfl rfl ?_
  refine zb_bipush E dX12_goesOnTest_34 (v := 25) rfl ?_
  obtain ⟨rc7, hc_36, h⟩ := bd1_s h
  refine zb_cVi E [.int 25] 128 zy_X12_isOn zw_1652 (by decide) (zF_128 _ _ _ _) rfl (c_X12_isOn v_waits rfl v_wait rfl hc_36) (by decide) rfl rfl (by first | decide | simp [Value.category]) dX12_goesOnTest_36 (cs2 := (0, 0)) rfl ?_
  refine zb_if_ne E dX12_goesOnTest_39 (tgt := 49) rfl (fun hc => ?_) (fun hc => ?_)
  · have h := if_f h hc
    exact hk49 v_coded v_waits v_codes h
  · have h := if_t h hc
    refine zb_aload_n E dX12_goesOnTest_42 0 rfl rfl ?_
    obtain ⟨v_coded_c8, v_waits_c8, v_codes_c8, hc_43, h⟩ := bd3_s h
    refine zb_cVv E [] 128 zy_X12_drops zw_1648 (by decide) (zF_128 _ _ _ _) rfl (c_X12_drops (va_up (va_up (va_up (va_up (va_up (va_up (va_up (I 128) 19 v_at) 21 v_ended) 22 v_bad) 23 v_badPlace) 56 v_coded) 58 v_waits) 59 v_open) rfl v_wait rfl v_coded rfl v_waits rfl v_codes rfl hc_43) (by decide) rfl rfl (by first | decide | simp [Value.category]) dX12_goesOnTest_43 (cs2 := (0, 0)) rfl ?_
    refine zb_S (S2 := ((va_up (va_up (va_up I 128 (va_up (va_up (va_up (va_up (va_up (va_up (va_up (I 128) 19 v_at) 21 v_ended) 22 v_bad) 23 v_badPlace) 56 v_coded_c8) 58 v_waits_c8) 59 v_open)) 173 v_codes_c8) 174 v_wait), J, Rr, D)) (zS_eq ((zcgF ((zcgV ((zcgF (zn3 (by decide : (59 : Nat) ≠ 56) (by decide : (58 : Nat) ≠ 56))).trans (zn2 (by decide : (59 : Nat) ≠ 58)))).trans (zn3 (by decide : (174 : Nat) ≠ 128) (by decide : (173 : Nat) ≠ 128)))).trans (zn2 (by decide : (174 : Nat) ≠ 173))) rfl) ?_
    refine zb_goto E dX12_goesOnTest_46 (tgt := 33) rfl ?_
    exact ih v_coded_c8 v_waits_c8 v_codes_c8 h
theorem c_X12_goesOnTest_b49 {C : zC} {I : Nat → Nat → Int32} {J : Nat → Nat → Int64} {Rr : Nat → Nat → Option Nat} {D : zD} (N : Nat) (v_end : Int32) (e_v_end : I 128 20 = v_end) (v_andWord : (Nat → Int32)) (e_v_andWord : I 152 = v_andWord) (v_orWord : (Nat → Int32)) (e_v_orWord : I 151 = v_orWord) (v_tape : (Nat → Int32)) (e_v_tape : I 143 = v_tape) (rr : Int32) (y_v_at : Int32) (y_v_bad : Int32) (y_v_badPlace : Int32) (y_v_coded : Int32) (y_v_ended : Int32) (y_v_open : Int32) (y_v_waits : Int32) (y_v_codes : (Nat → Int32)) (y_v_wait : (Nat → Int32)) (E : zE C RX12 cX12_goesOnTest 1 (some .boolean) ({ frames := 3, cells := 0, slots := 0, locals := 64 } : Room)) (hQ : C.Q = zQi C ({ frames := 3, cells := 0, slots := 0, locals := 64 } : Room) rr ((va_up (va_up (va_up I 128 (va_up (va_up (va_up (va_up (va_up (va_up (va_up (I 128) 19 y_v_at) 21 y_v_ended) 22 y_v_bad) 23 y_v_badPlace) 56 y_v_coded) 58 y_v_waits) 59 y_v_open)) 173 y_v_codes) 174 y_v_wait), J, Rr, D)) (v_at : Int32) (v_bad : Int32) (v_badPlace : Int32) (v_coded : Int32) (v_ended : Int32) (v_open : Int32) (v_waits : Int32) (v_codes : (Nat → Int32)) (v_wait : (Nat → Int32)) (self : Int32 → Int32 → Int32 → Int32 → (Nat → Int32) → Option R_pM_goesOnTest) (ih : ∀ (v_at : Int32) (v_coded : Int32) (v_open : Int32) (v_waits : Int32) (v_codes : (Nat → Int32)), self v_at v_coded v_open v_waits v_codes = some (rr, y_v_at, y_v_bad, y_v_badPlace, y_v_coded, y_v_ended, y_v_open, y_v_waits, y_v_codes, y_v_wait) → zB C (0, 0) 0 [(0, .ref (C.X.1 + 128))] [] ((va_up (va_up (va_up I 128 (va_up (va_up (va_up (va_up (va_up (va_up (va_up (I 128) 19 v_at) 21 v_ended) 22 v_bad) 23 v_badPlace) 56 v_coded) 58 v_waits) 59 v_open)) 173 v_codes) 174 v_wait), J, Rr, D)) (k76 : Int32 → Int32 → Int32 → Int32 → (Nat → Int32) → Option R_pM_goesOnTest) (hk76 : ∀ (v_at : Int32) (v_coded : Int32) (v_open : Int32) (v_waits : Int32) (v_codes : (Nat → Int32)), k76 v_at v_coded v_open v_waits v_codes = some (rr, y_v_at, y_v_bad, y_v_badPlace, y_v_coded, y_v_ended, y_v_open, y_v_waits, y_v_codes, y_v_wait) → zB C (0, 0) 76 [(0, .ref (C.X.1 + 128))] [] ((va_up (va_up (va_up I 128 (va_up (va_up (va_up (va_up (va_up (va_up (va_up (I 128) 19 v_at) 21 v_ended) 22 v_bad) 23 v_badPlace) 56 v_coded) 58 v_waits) 59 v_open)) 173 v_codes) 174 v_wait), J, Rr, D)) (h : pM_goesOnTest_b49 N v_end v_andWord v_orWord v_tape self k76 v_at v_bad v_badPlace v_coded v_ended v_open v_waits v_codes v_wait = some (rr, y_v_at, y_v_bad, y_v_badPlace, y_v_coded, y_v_ended, y_v_open, y_v_waits, y_v_codes, y_v_wait)) : zB C (0, 0) 49 [(0, .ref (C.X.1 + 128))] [] ((va_up (va_up (va_up I 128 (va_up (va_up (va_up (va_up (va_up (va_up (va_up (I 128) 19 v_at) 21 v_ended) 22 v_bad) 23 v_badPlace) 56 v_coded) 58 v_waits) 59 v_open)) 173 v_codes) 174 v_wait), J, Rr, D) := by
  refine zb_aload_n E dX12_goesOnTest_49 0 rfl rfl ?_
  refine zb_dup E dX12_goesOnTest_50 rfl ?_
  refine zb_get E 128 (by decide) (zF_128 C.X) rfl zin12 58 (by decide) zw_1226 (v := .int v_waits) rfl dX12_goesOnTest_51 ?_
  refine zb_iconst E dX12_goesOnTest_54 (v := 1) rfl ?_
  refine zb_isub E dX12_goesOnTest_55 ?_
  refine zb_put E 128 (by decide) (zF_128 C.X) rfl zin12 58 (by decide) zw_1226 tyX12 tyX12_ok nmX12 rfl rfl rfl (I2 := (va_up (va_up (va_up I 128 (va_up (va_up (va_up (va_up (va_up (va_up (va_up (I 128) 19 v_at) 21 v_ended) 22 v_bad) 23 v_badPlace) 56 v_coded) 58 (v_waits - 1)) 59 v_open)) 173 v_codes) 174 v_wait)) (J2 := J) ((zset12_58 C.X (va_up (va_up (va_up (va_up (va_up (va_up (va_up (I 128) 19 v_at) 21 v_ended) 22 v_bad) 23 v_badPlace) 56 v_coded) 58 v_waits) 59 v_open) (J 128) (v_waits - 1)).trans (congrArg (fun g => zf12 C.X g (J 128)) (zn2 (by decide : (59 : Nat) ≠ 58)))) (by rw [zflen12]; decide) (fun j hj => ⟨zup_cg (zup_cg ((zup_n hj).trans (zup_n hj).symm)), rfl⟩) dX12_goesOnTest_56 ?_
  refine zb_aload_n E dX12_goesOnTest_59 0 rfl rfl ?_
  refine zb_dup E dX12_goesOnTest_60 rfl ?_
  refine zb_get E 128 (by decide) (zF_128 C.X) rfl zin12 59 (by decide) zw_1227 (v := .int v_open) rfl dX12_goesOnTest_61 ?_
  refine zb_iconst E dX12_goesOnTest_64 (v := 1) rfl ?_
  refine zb_isub E dX12_goesOnTest_65 ?_
  refine zb_put E 128 (by decide) (zF_128 C.X) rfl zin12 59 (by decide) zw_1227 tyX12 tyX12_ok nmX12 rfl rfl rfl (I2 := (va_up (va_up (va_up I 128 (va_up (va_up (va_up (va_up (va_up (va_up (va_up (I 128) 19 v_at) 21 v_ended) 22 v_bad) 23 v_badPlace) 56 v_coded) 58 (v_waits - 1)) 59 (v_open - 1))) 173 v_codes) 174 v_wait)) (J2 := J) ((zset12_59 C.X (va_up (va_up (va_up (va_up (va_up (va_up (va_up (I 128) 19 v_at) 21 v_ended) 22 v_bad) 23 v_badPlace) 56 v_coded) 58 (v_waits - 1)) 59 v_open) (J 128) (v_open - 1)).trans (congrArg (fun g => zf12 C.X g (J 128)) zn1)) (by rw [zflen12]; decide) (fun j hj => ⟨zup_cg (zup_cg ((zup_n hj).trans (zup_n hj).symm)), rfl⟩) dX12_goesOnTest_66 ?_
  refine zb_aload_n E dX12_goesOnTest_69 0 rfl rfl ?_
  obtain ⟨v_coded_c15, v_open_c15, v_waits_c15, v_codes_c15, hc_70, h⟩ := bd4_s h
  refine zb_cVv E [] 128 zy_X12_dropsNots zw_1664 (by decide) (zF_128 _ _ _ _) rfl (c_X12_dropsNots (va_up (va_up (va_up (va_up (va_up (va_up (va_up (I 128) 19 v_at) 21 v_ended) 22 v_bad) 23 v_badPlace) 56 v_coded) 58 (v_waits - 1)) 59 (v_open - 1)) rfl v_bad rfl v_wait rfl v_coded rfl (v_open - 1) rfl (v_waits - 1) rfl v_codes rfl hc_70) (by decide) rfl rfl (by first | decide | simp [Value.category]) dX12_goesOnTest_70 (cs2 := (0, 0)) rfl ?_
  refine zb_S (S2 := ((va_up (va_up (va_up I 128 (va_up (va_up (va_up (va_up (va_up (va_up (va_up (I 128) 19 v_at) 21 v_ended) 22 v_bad) 23 v_badPlace) 56 v_coded_c15) 58 v_waits_c15) 59 v_open_c15)) 173 v_codes_c15) 174 v_wait), J, Rr, D)) (zS_eq ((zcgF ((zcgV ((zcgF ((zcgF (zn3 (by decide : (59 : Nat) ≠ 56) (by decide : (58 : Nat) ≠ 56))).trans (zn2 (by decide : (59 : Nat) ≠ 58)))).trans zn1)).trans (zn3 (by decide : (174 : Nat) ≠ 128) (by decide : (173 : Nat) ≠ 128)))).trans (zn2 (by decide : (174 : Nat) ≠ 173))) rfl) ?_
  refine zb_goto E dX12_goesOnTest_73 (tgt := 0) rfl ?_
  exact ih v_at v_coded_c15 v_open_c15 v_waits_c15 v_codes_c15 h
theorem c_X12_goesOnTest_b0 {C : zC} {I : Nat → Nat → Int32} {J : Nat → Nat → Int64} {Rr : Nat → Nat → Option Nat} {D : zD} (N : Nat) (v_end : Int32) (e_v_end : I 128 20 = v_end) (v_andWord : (Nat → Int32)) (e_v_andWord : I 152 = v_andWord) (v_orWord : (Nat → Int32)) (e_v_orWord : I 151 = v_orWord) (v_tape : (Nat → Int32)) (e_v_tape : I 143 = v_tape) (rr : Int32) (y_v_at : Int32) (y_v_bad : Int32) (y_v_badPlace : Int32) (y_v_coded : Int32) (y_v_ended : Int32) (y_v_open : Int32) (y_v_waits : Int32) (y_v_codes : (Nat → Int32)) (y_v_wait : (Nat → Int32)) (E : zE C RX12 cX12_goesOnTest 1 (some .boolean) ({ frames := 3, cells := 0, slots := 0, locals := 64 } : Room)) (hQ : C.Q = zQi C ({ frames := 3, cells := 0, slots := 0, locals := 64 } : Room) rr ((va_up (va_up (va_up I 128 (va_up (va_up (va_up (va_up (va_up (va_up (va_up (I 128) 19 y_v_at) 21 y_v_ended) 22 y_v_bad) 23 y_v_badPlace) 56 y_v_coded) 58 y_v_waits) 59 y_v_open)) 173 y_v_codes) 174 y_v_wait), J, Rr, D)) (v_bad : Int32) (v_badPlace : Int32) (v_ended : Int32) (v_wait : (Nat → Int32)) (k76 : Int32 → Int32 → Int32 → Int32 → (Nat → Int32) → Option R_pM_goesOnTest) (hk76 : ∀ (v_at : Int32) (v_coded : Int32) (v_open : Int32) (v_waits : Int32) (v_codes : (Nat → Int32)), k76 v_at v_coded v_open v_waits v_codes = some (rr, y_v_at, y_v_bad, y_v_badPlace, y_v_coded, y_v_ended, y_v_open, y_v_waits, y_v_codes, y_v_wait) → zB C (0, 0) 76 [(0, .ref (C.X.1 + 128))] [] ((va_up (va_up (va_up I 128 (va_up (va_up (va_up (va_up (va_up (va_up (va_up (I 128) 19 v_at) 21 v_ended) 22 v_bad) 23 v_badPlace) 56 v_coded) 58 v_waits) 59 v_open)) 173 v_codes) 174 v_wait), J, Rr, D)) : ∀ (n9 : Nat) (v_at : Int32) (v_coded : Int32) (v_open : Int32) (v_waits : Int32) (v_codes : (Nat → Int32)), pM_goesOnTest_b0 N v_end v_andWord v_orWord v_tape v_bad v_badPlace v_ended v_wait k76 n9 v_at v_coded v_open v_waits v_codes = some (rr, y_v_at, y_v_bad, y_v_badPlace, y_v_coded, y_v_ended, y_v_open, y_v_waits, y_v_codes, y_v_wait) → zB C (0, 0) 0 [(0, .ref (C.X.1 + 128))] [] ((va_up (va_up (va_up I 128 (va_up (va_up (va_up (va_up (va_up (va_up (va_up (I 128) 19 v_at) 21 v_ended) 22 v_bad) 23 v_badPlace) 56 v_coded) 58 v_waits) 59 v_open)) 173 v_codes) 174 v_wait), J, Rr, D) := by
  refine zlp5_ind (P := fun (v_at : Int32) (v_coded : Int32) (v_open : Int32) (v_waits : Int32) (v_codes : (Nat → Int32)) => zB C (0, 0) 0 [(0, .ref (C.X.1 + 128))] [] ((va_up (va_up (va_up I 128 (va_up (va_up (va_up (va_up (va_up (va_up (va_up (I 128) 19 v_at) 21 v_ended) 22 v_bad) 23 v_badPlace) 56 v_coded) 58 v_waits) 59 v_open)) 173 v_codes) 174 v_wait), J, Rr, D)) (fun self ih => ?_)
  intro v_at v_coded v_open v_waits v_codes h
  refine zb_aload_n E dX12_goesOnTest_0 0 rfl rfl ?_
  refine zb_get E 128 (by decide) (zF_128 C.X) rfl zin12 22 (by decide) zw_1190 (v := .int v_bad) rfl dX12_goesOnTest_1 ?_
  refine zb_if_ne E dX12_goesOnTest_4 (tgt := 76) rfl (fun hc => ?_) (fun hc => ?_)
  · have h := if_f h hc
    exact hk76 v_at v_coded v_open v_waits v_codes h
  · have h := if_t h hc
    refine zb_aload_n E dX12_goesOnTest_7 0 rfl rfl ?_
    obtain ⟨rc1, v_at_c1, hc_8, h⟩ := bd2_s h
    refine zb_cVi E [] 128 zy_X12_look zw_1569 (by decide) (zF_128 _ _ _ _) rfl (c_X12_look (va_up (va_up (va_up (va_up (va_up (va_up (va_up (I 128) 19 v_at) 21 v_ended) 22 v_bad) 23 v_badPlace) 56 v_coded) 58 v_waits) 59 v_open) rfl v_end (by exact e_v_end) v_tape (by exact e_v_tape) v_at rfl hc_8) (by decide) rfl rfl (by first | decide | simp [Value.category]) dX12_goesOnTest_8 (cs2 := (0, 0)) rfl ?_
    refine zb_S (S2 := ((va_up (va_up (va_up I 128 (va_up (va_up (va_up (va_up (va_up (va_up (va_up (I 128) 19 v_at_c1) 21 v_ended) 22 v_bad) 23 v_badPlace) 56 v_coded) 58 v_waits) 59 v_open)) 173 v_codes) 174 v_wait), J, Rr, D)) (zS_eq ((zcgV (zn7 (by decide : (59 : Nat) ≠ 19) (by decide : (58 : Nat) ≠ 19) (by decide : (56 : Nat) ≠ 19) (by decide : (23 : Nat) ≠ 19) (by decide : (22 : Nat) ≠ 19) (by decide : (21 : Nat) ≠ 19))).trans (zn3 (by decide : (174 : Nat) ≠ 128) (by decide : (173 : Nat) ≠ 128))) rfl) ?_
    refine zb_bipush E dX12_goesOnTest_11 (v := 93) rfl ?_
    refine zb_icmp_ne E dX12_goesOnTest_13 (tgt := 76) rfl (fun hc => ?_) (fun hc => ?_)
    · have h := if_f h hc
      exact hk76 v_at_c1 v_coded v_open v_waits v_codes h
    · have h := if_t h hc
      refine zb_aload_n E dX12_goesOnTest_16 0 rfl rfl ?_
      obtain ⟨rc2, hc_17, h⟩ := bd1_s h
      refine zb_cVi E [] 128 zy_X12_hasSquare zw_1672 (by decide) (zF_128 _ _ _ _) rfl (c_X12_hasSquare v_waits rfl v_wait rfl hc_17) (by decide) rfl rfl (by first | decide | simp [Value.category]) dX12_goesOnTest_17 (cs2 := (0, 0)) rfl ?_
      refine zb_if_eq E dX12_goesOnTest_20 (tgt := 76) rfl (fun hc => ?_) (fun hc => ?_)
      · have h := if_t h hc
        exact hk76 v_at_c1 v_coded v_open v_waits v_codes h
      · have h := if_f h hc
        refine zb_aload_n E dX12_goesOnTest_23 0 rfl rfl ?_
        refine zb_dup E dX12_goesOnTest_24 rfl ?_
        refine zb_get E 128 (by decide) (zF_128 C.X) rfl zin12 19 (by decide) zw_1187 (v := .int v_at_c1) rfl dX12_goesOnTest_25 ?_
        refine zb_iconst E dX12_goesOnTest_28 (v := 1) rfl ?_
        refine zb_iadd E dX12_goesOnTest_29 ?_
        refine zb_put E 128 (by decide) (zF_128 C.X) rfl zin12 19 (by decide) zw_1187 tyX12 tyX12_ok nmX12 rfl rfl rfl (I2 := (va_up (va_up (va_up I 128 (va_up (va_up (va_up (va_up (va_up (va_up (va_up (I 128) 19 (v_at_c1 + 1)) 21 v_ended) 22 v_bad) 23 v_badPlace) 56 v_coded) 58 v_waits) 59 v_open)) 173 v_codes) 174 v_wait)) (J2 := J) ((zset12_19 C.X (va_up (va_up (va_up (va_up (va_up (va_up (va_up (I 128) 19 v_at_c1) 21 v_ended) 22 v_bad) 23 v_badPlace) 56 v_coded) 58 v_waits) 59 v_open) (J 128) (v_at_c1 + 1)).trans (congrArg (fun g => zf12 C.X g (J 128)) (zn7 (by decide : (59 : Nat) ≠ 19) (by decide : (58 : Nat) ≠ 19) (by decide : (56 : Nat) ≠ 19) (by decide : (23 : Nat) ≠ 19) (by decide : (22 : Nat) ≠ 19) (by decide : (21 : Nat) ≠ 19)))) (by rw [zflen12]; decide) (fun j hj => ⟨zup_cg (zup_cg ((zup_n hj).trans (zup_n hj).symm)), rfl⟩) dX12_goesOnTest_30 ?_
        exact c_X12_goesOnTest_b33 N v_end e_v_end v_andWord e_v_andWord v_orWord e_v_orWord v_tape e_v_tape rr y_v_at y_v_bad y_v_badPlace y_v_coded y_v_ended y_v_open y_v_waits y_v_codes y_v_wait E hQ (v_at_c1 + 1) v_bad v_badPlace v_ended v_open v_wait _ (fun v_coded_z1 v_waits_z2 v_codes_z3 h => c_X12_goesOnTest_b49 N v_end e_v_end v_andWord e_v_andWord v_orWord e_v_orWord v_tape e_v_tape rr y_v_at y_v_bad y_v_badPlace y_v_coded y_v_ended y_v_open y_v_waits y_v_codes y_v_wait E hQ (v_at_c1 + 1) v_bad v_badPlace v_coded_z1 v_ended v_open v_waits_z2 v_codes_z3 v_wait self ih k76 hk76 h) _ v_coded v_waits v_codes h
theorem c_X12_goesOnTest_b155 {C : zC} {I : Nat → Nat → Int32} {J : Nat → Nat → Int64} {Rr : Nat → Nat → Option Nat} {D : zD} (N : Nat) (v_end : Int32) (e_v_end : I 128 20 = v_end) (v_andWord : (Nat → Int32)) (e_v_andWord : I 152 = v_andWord) (v_orWord : (Nat → Int32)) (e_v_orWord : I 151 = v_orWord) (v_tape : (Nat → Int32)) (e_v_tape : I 143 = v_tape) (rr : Int32) (y_v_at : Int32) (y_v_bad : Int32) (y_v_badPlace : Int32) (y_v_coded : Int32) (y_v_ended : Int32) (y_v_open : Int32) (y_v_waits : Int32) (y_v_codes : (Nat → Int32)) (y_v_wait : (Nat → Int32)) (E : zE C RX12 cX12_goesOnTest 1 (some .boolean) ({ frames := 3, cells := 0, slots := 0, locals := 64 } : Room)) (hQ : C.Q = zQi C ({ frames := 3, cells := 0, slots := 0, locals := 64 } : Room) rr ((va_up (va_up (va_up I 128 (va_up (va_up (va_up (va_up (va_up (va_up (va_up (I 128) 19 y_v_at) 21 y_v_ended) 22 y_v_bad) 23 y_v_badPlace) 56 y_v_coded) 58 y_v_waits) 59 y_v_open)) 173 y_v_codes) 174 y_v_wait), J, Rr, D)) (v_at : Int32) (v_bad : Int32) (v_badPlace : Int32) (v_coded : Int32) (v_ended : Int32) (v_open : Int32) (v_waits : Int32) (v_codes : (Nat → Int32)) (v_wait : (Nat → Int32)) (self : Int32 → Int32 → (Nat → Int32) → Option R_pM_goesOnTest) (ih : ∀ (v_coded : Int32) (v_waits : Int32) (v_codes : (Nat → Int32)), self v_coded v_waits v_codes = some (rr, y_v_at, y_v_bad, y_v_badPlace, y_v_coded, y_v_ended, y_v_open, y_v_waits, y_v_codes, y_v_wait) → zB C (0, 0) 137 [(0, .ref (C.X.1 + 128))] [] ((va_up (va_up (va_up I 128 (va_up (va_up (va_up (va_up (va_up (va_up (va_up (I 128) 19 v_at) 21 v_ended) 22 v_bad) 23 v_badPlace) 56 v_coded) 58 v_waits) 59 v_open)) 173 v_codes) 174 v_wait), J, Rr, D)) (h : pM_goesOnTest_b155 N v_end v_andWord v_orWord v_tape self v_at v_bad v_badPlace v_coded v_ended v_open v_waits v_codes v_wait = some (rr, y_v_at, y_v_bad, y_v_badPlace, y_v_coded, y_v_ended, y_v_open, y_v_waits, y_v_codes, y_v_wait)) : zB C (0, 0) 155 [(0, .ref (C.X.1 + 128))] [] ((va_up (va_up (va_up I 128 (va_up (va_up (va_up (va_up (va_up (va_up (va_up (I 128) 19 v_at) 21 v_ended) 22 v_bad) 23 v_badPlace) 56 v_coded) 58 v_waits) 59 v_open)) 173 v_codes) 174 v_wait), J, Rr, D) := by
  refine zb_aload_n E dX12_goesOnTest_155 0 rfl rfl ?_
  obtain ⟨v_coded_c16, v_waits_c16, v_codes_c16, hc_156, h⟩ := bd3_s h
  refine zb_cVv E [] 128 zy_X12_drops zw_1648 (by decide) (zF_128 _ _ _ _) rfl (c_X12_drops (va_up (va_up (va_up (va_up (va_up (va_up (va_up (I 128) 19 v_at) 21 v_ended) 22 v_bad) 23 v_badPlace) 56 v_coded) 58 v_waits) 59 v_open) rfl v_wait rfl v_coded rfl v_waits rfl v_codes rfl hc_156) (by decide) rfl rfl (by first | decide | simp [Value.category]) dX12_goesOnTest_156 (cs2 := (0, 0)) rfl ?_
  refine zb_S (S2 := ((va_up (va_up (va_up I 128 (va_up (va_up (va_up (va_up (va_up (va_up (va_up (I 128) 19 v_at) 21 v_ended) 22 v_bad) 23 v_badPlace) 56 v_coded_c16) 58 v_waits_c16) 59 v_open)) 173 v_codes_c16) 174 v_wait), J, Rr, D)) (zS_eq ((zcgF ((zcgV ((zcgF (zn3 (by decide : (59 : Nat) ≠ 56) (by decide : (58 : Nat) ≠ 56))).trans (zn2 (by decide : (59 : Nat) ≠ 58)))).trans (zn3 (by decide : (174 : Nat) ≠ 128) (by decide : (173 : Nat) ≠ 128)))).trans (zn2 (by decide : (174 : Nat) ≠ 173))) rfl) ?_
  refine zb_goto E dX12_goesOnTest_159 (tgt := 137) rfl ?_
  exact ih v_coded_c16 v_waits_c16 v_codes_c16 h
theorem c_X12_goesOnTest_b137 {C : zC} {I : Nat → Nat → Int32} {J : Nat → Nat → Int64} {Rr : Nat → Nat → Option Nat} {D : zD} (N : Nat) (v_end : Int32) (e_v_end : I 128 20 = v_end) (v_andWord : (Nat → Int32)) (e_v_andWord : I 152 = v_andWord) (v_orWord : (Nat → Int32)) (e_v_orWord : I 151 = v_orWord) (v_tape : (Nat → Int32)) (e_v_tape : I 143 = v_tape) (rr : Int32) (y_v_at : Int32) (y_v_bad : Int32) (y_v_badPlace : Int32) (y_v_coded : Int32) (y_v_ended : Int32) (y_v_open : Int32) (y_v_waits : Int32) (y_v_codes : (Nat → Int32)) (y_v_wait : (Nat → Int32)) (E : zE C RX12 cX12_goesOnTest 1 (some .boolean) ({ frames := 3, cells := 0, slots := 0, locals := 64 } : Room)) (hQ : C.Q = zQi C ({ frames := 3, cells := 0, slots := 0, locals := 64 } : Room) rr ((va_up (va_up (va_up I 128 (va_up (va_up (va_up (va_up (va_up (va_up (va_up (I 128) 19 y_v_at) 21 y_v_ended) 22 y_v_bad) 23 y_v_badPlace) 56 y_v_coded) 58 y_v_waits) 59 y_v_open)) 173 y_v_codes) 174 y_v_wait), J, Rr, D)) (v_at : Int32) (v_bad : Int32) (v_badPlace : Int32) (v_ended : Int32) (v_open : Int32) (v_wait : (Nat → Int32))  : ∀ (n9 : Nat) (v_coded : Int32) (v_waits : Int32) (v_codes : (Nat → Int32)), pM_goesOnTest_b137 N v_end v_andWord v_orWord v_tape v_at v_bad v_badPlace v_ended v_open v_wait n9 v_coded v_waits v_codes = some (rr, y_v_at, y_v_bad, y_v_badPlace, y_v_coded, y_v_ended, y_v_open, y_v_waits, y_v_codes, y_v_wait) → zB C (0, 0) 137 [(0, .ref (C.X.1 + 128))] [] ((va_up (va_up (va_up I 128 (va_up (va_up (va_up (va_up (va_up (va_up (va_up (I 128) 19 v_at) 21 v_ended) 22 v_bad) 23 v_badPlace) 56 v_coded) 58 v_waits) 59 v_open)) 173 v_codes) 174 v_wait), J, Rr, D) := by
  refine zlp3_ind (P := fun (v_coded : Int32) (v_waits : Int32) (v_codes : (Nat → Int32)) => zB C (0, 0) 137 [(0, .ref (C.X.1 + 128))] [] ((va_up (va_up (va_up I 128 (va_up (va_up (va_up (va_up (va_up (va_up (va_up (I 128) 19 v_at) 21 v_ended) 22 v_bad) 23 v_badPlace) 56 v_coded) 58 v_waits) 59 v_open)) 173 v_codes) 174 v_wait), J, Rr, D)) (fun self ih => ?_)
  intro v_coded v_waits v_codes h
  refine zb_aload_n E dX12_goesOnTest_137 0 rfl rfl ?_
  refine zb_bipush E dX12_goesOnTest_138 (v := 14) rfl ?_
  obtain ⟨rc9, hc_140, h⟩ := bd1_s h
  refine zb_cVi E [.int 14] 128 zy_X12_isOn zw_1652 (by decide) (zF_128 _ _ _ _) rfl (c_X12_isOn v_waits rfl v_wait rfl hc_140) (by decide) rfl rfl (by first | decide | simp [Value.category]) dX12_goesOnTest_140 (cs2 := (0, 0)) rfl ?_
  refine zb_if_ne E dX12_goesOnTest_143 (tgt := 155) rfl (fun hc => ?_) (fun hc => ?_)
  · have h := if_f h hc
    exact c_X12_goesOnTest_b155 N v_end e_v_end v_andWord e_v_andWord v_orWord e_v_orWord v_tape e_v_tape rr y_v_at y_v_bad y_v_badPlace y_v_coded y_v_ended y_v_open y_v_waits y_v_codes y_v_wait E hQ v_at v_bad v_badPlace v_coded v_ended v_open v_waits v_codes v_wait self ih h
  · have h := if_t h hc
    refine zb_aload_n E dX12_goesOnTest_146 0 rfl rfl ?_
    refine zb_bipush E dX12_goesOnTest_147 (v := 15) rfl ?_
    obtain ⟨rc10, hc_149, h⟩ := bd1_s h
    refine zb_cVi E [.int 15] 128 zy_X12_isOn zw_1652 (by decide) (zF_128 _ _ _ _) rfl (c_X12_isOn v_waits rfl v_wait rfl hc_149) (by decide) rfl rfl (by first | decide | simp [Value.category]) dX12_goesOnTest_149 (cs2 := (0, 0)) rfl ?_
    refine zb_if_eq E dX12_goesOnTest_152 (tgt := 162) rfl (fun hc => ?_) (fun hc => ?_)
    · have h := if_t h hc
      refine zb_aload_n E dX12_goesOnTest_162 0 rfl rfl ?_
      refine zb_get E 128 (by decide) (zF_128 C.X) rfl zin12 57 (by decide) zw_1225 (v := .ref (C.X.1 + 174)) rfl dX12_goesOnTest_163 ?_
      refine zb_aload_n E dX12_goesOnTest_166 0 rfl rfl ?_
      refine zb_get E 128 (by decide) (zF_128 C.X) rfl zin12 58 (by decide) zw_1226 (v := .int v_waits) rfl dX12_goesOnTest_167 ?_
      refine zb_bipush E dX12_goesOnTest_170 (v := 15) rfl ?_
      obtain ⟨g11, h⟩ := gd_s h
      refine zb_iast E 174 (by decide) zF_174 (f := v_wait) rfl (ib_in g11) dX12_goesOnTest_172 (I2 := (va_up (va_up (va_up I 128 (va_up (va_up (va_up (va_up (va_up (va_up (va_up (I 128) 19 v_at) 21 v_ended) 22 v_bad) 23 v_badPlace) 56 v_coded) 58 v_waits) 59 v_open)) 173 v_codes) 174 (upd v_wait (ix v_waits) 15))) zn1 ?_
      refine zb_aload_n E dX12_goesOnTest_173 0 rfl rfl ?_
      refine zb_dup E dX12_goesOnTest_174 rfl ?_
      refine zb_get E 128 (by decide) (zF_128 C.X) rfl zin12 58 (by decide) zw_1226 (v := .int v_waits) rfl dX12_goesOnTest_175 ?_
      refine zb_iconst E dX12_goesOnTest_178 (v := 1) rfl ?_
      refine zb_iadd E dX12_goesOnTest_179 ?_
      refine zb_put E 128 (by decide) (zF_128 C.X) rfl zin12 58 (by decide) zw_1226 tyX12 tyX12_ok nmX12 rfl rfl rfl (I2 := (va_up (va_up (va_up I 128 (va_up (va_up (va_up (va_up (va_up (va_up (va_up (I 128) 19 v_at) 21 v_ended) 22 v_bad) 23 v_badPlace) 56 v_coded) 58 (v_waits + 1)) 59 v_open)) 173 v_codes) 174 (upd v_wait (ix v_waits) 15))) (J2 := J) ((zset12_58 C.X (va_up (va_up (va_up (va_up (va_up (va_up (va_up (I 128) 19 v_at) 21 v_ended) 22 v_bad) 23 v_badPlace) 56 v_coded) 58 v_waits) 59 v_open) (J 128) (v_waits + 1)).trans (congrArg (fun g => zf12 C.X g (J 128)) (zn2 (by decide : (59 : Nat) ≠ 58)))) (by rw [zflen12]; decide) (fun j hj => ⟨zup_cg (zup_cg ((zup_n hj).trans (zup_n hj).symm)), rfl⟩) dX12_goesOnTest_180 ?_
      refine zb_iconst E dX12_goesOnTest_183 (v := 1) rfl ?_
      obtain ⟨rfl, rfl, rfl, rfl, rfl, rfl, rfl, rfl, rfl, rfl⟩ := zinj10 h
      exact zb_zret E hQ (ty := .boolean) rfl rfl ⟨Nat.zero_le _, Nat.zero_le _⟩ dX12_goesOnTest_184
    · have h := if_f h hc
      exact c_X12_goesOnTest_b155 N v_end e_v_end v_andWord e_v_andWord v_orWord e_v_orWord v_tape e_v_tape rr y_v_at y_v_bad y_v_badPlace y_v_coded y_v_ended y_v_open y_v_waits y_v_codes y_v_wait E hQ v_at v_bad v_badPlace v_coded v_ended v_open v_waits v_codes v_wait self ih h
theorem c_X12_goesOnTest_b87 {C : zC} {I : Nat → Nat → Int32} {J : Nat → Nat → Int64} {Rr : Nat → Nat → Option Nat} {D : zD} (N : Nat) (v_end : Int32) (e_v_end : I 128 20 = v_end) (v_andWord : (Nat → Int32)) (e_v_andWord : I 152 = v_andWord) (v_orWord : (Nat → Int32)) (e_v_orWord : I 151 = v_orWord) (v_tape : (Nat → Int32)) (e_v_tape : I 143 = v_tape) (rr : Int32) (y_v_at : Int32) (y_v_bad : Int32) (y_v_badPlace : Int32) (y_v_coded : Int32) (y_v_ended : Int32) (y_v_open : Int32) (y_v_waits : Int32) (y_v_codes : (Nat → Int32)) (y_v_wait : (Nat → Int32)) (E : zE C RX12 cX12_goesOnTest 1 (some .boolean) ({ frames := 3, cells := 0, slots := 0, locals := 64 } : Room)) (hQ : C.Q = zQi C ({ frames := 3, cells := 0, slots := 0, locals := 64 } : Room) rr ((va_up (va_up (va_up I 128 (va_up (va_up (va_up (va_up (va_up (va_up (va_up (I 128) 19 y_v_at) 21 y_v_ended) 22 y_v_bad) 23 y_v_badPlace) 56 y_v_coded) 58 y_v_waits) 59 y_v_open)) 173 y_v_codes) 174 y_v_wait), J, Rr, D)) (v_at : Int32) (v_bad : Int32) (v_badPlace : Int32) (v_ended : Int32) (v_open : Int32) (v_wait : (Nat → Int32))  : ∀ (n9 : Nat) (v_coded : Int32) (v_waits : Int32) (v_codes : (Nat → Int32)), pM_goesOnTest_b87 N v_end v_andWord v_orWord v_tape v_at v_bad v_badPlace v_ended v_open v_wait n9 v_coded v_waits v_codes = some (rr, y_v_at, y_v_bad, y_v_badPlace, y_v_coded, y_v_ended, y_v_open, y_v_waits, y_v_codes, y_v_wait) → zB C (0, 0) 87 [(0, .ref (C.X.1 + 128))] [] ((va_up (va_up (va_up I 128 (va_up (va_up (va_up (va_up (va_up (va_up (va_up (I 128) 19 v_at) 21 v_ended) 22 v_bad) 23 v_badPlace) 56 v_coded) 58 v_waits) 59 v_open)) 173 v_codes) 174 v_wait), J, Rr, D) := by
  refine zlp3_ind (P := fun (v_coded : Int32) (v_waits : Int32) (v_codes : (Nat → Int32)) => zB C (0, 0) 87 [(0, .ref (C.X.1 + 128))] [] ((va_up (va_up (va_up I 128 (va_up (va_up (va_up (va_up (va_up (va_up (va_up (I 128) 19 v_at) 21 v_ended) 22 v_bad) 23 v_badPlace) 56 v_coded) 58 v_waits) 59 v_open)) 173 v_codes) 174 v_wait), J, Rr, D)) (fun self ih => ?_)
  intro v_coded v_waits v_codes h
  refine zb_aload_n E dX12_goesOnTest_87 0 rfl rfl ?_
  refine zb_bipush E dX12_goesOnTest_88 (v := 14) rfl ?_
  obtain ⟨rc12, hc_90, h⟩ := bd1_s h
  refine zb_cVi E [.int 14] 128 zy_X12_isOn zw_1652 (by decide) (zF_128 _ _ _ _) rfl (c_X12_isOn v_waits rfl v_wait rfl hc_90) (by decide) rfl rfl (by first | decide | simp [Value.category]) dX12_goesOnTest_90 (cs2 := (0, 0)) rfl ?_
  refine zb_if_eq E dX12_goesOnTest_93 (tgt := 103) rfl (fun hc => ?_) (fun hc => ?_)
  · have h := if_t h hc
    refine zb_aload_n E dX12_goesOnTest_103 0 rfl rfl ?_
    refine zb_get E 128 (by decide) (zF_128 C.X) rfl zin12 57 (by decide) zw_1225 (v := .ref (C.X.1 + 174)) rfl dX12_goesOnTest_104 ?_
    refine zb_aload_n E dX12_goesOnTest_107 0 rfl rfl ?_
    refine zb_get E 128 (by decide) (zF_128 C.X) rfl zin12 58 (by decide) zw_1226 (v := .int v_waits) rfl dX12_goesOnTest_108 ?_
    refine zb_bipush E dX12_goesOnTest_111 (v := 14) rfl ?_
    obtain ⟨g13, h⟩ := gd_s h
    refine zb_iast E 174 (by decide) zF_174 (f := v_wait) rfl (ib_in g13) dX12_goesOnTest_113 (I2 := (va_up (va_up (va_up I 128 (va_up (va_up (va_up (va_up (va_up (va_up (va_up (I 128) 19 v_at) 21 v_ended) 22 v_bad) 23 v_badPlace) 56 v_coded) 58 v_waits) 59 v_open)) 173 v_codes) 174 (upd v_wait (ix v_waits) 14))) zn1 ?_
    refine zb_aload_n E dX12_goesOnTest_114 0 rfl rfl ?_
    refine zb_dup E dX12_goesOnTest_115 rfl ?_
    refine zb_get E 128 (by decide) (zF_128 C.X) rfl zin12 58 (by decide) zw_1226 (v := .int v_waits) rfl dX12_goesOnTest_116 ?_
    refine zb_iconst E dX12_goesOnTest_119 (v := 1) rfl ?_
    refine zb_iadd E dX12_goesOnTest_120 ?_
    refine zb_put E 128 (by decide) (zF_128 C.X) rfl zin12 58 (by decide) zw_1226 tyX12 tyX12_ok nmX12 rfl rfl rfl (I2 := (va_up (va_up (va_up I 128 (va_up (va_up (va_up (va_up (va_up (va_up (va_up (I 128) 19 v_at) 21 v_ended) 22 v_bad) 23 v_badPlace) 56 v_coded) 58 (v_waits + 1)) 59 v_open)) 173 v_codes) 174 (upd v_wait (ix v_waits) 14))) (J2 := J) ((zset12_58 C.X (va_up (va_up (va_up (va_up (va_up (va_up (va_up (I 128) 19 v_at) 21 v_ended) 22 v_bad) 23 v_badPlace) 56 v_coded) 58 v_waits) 59 v_open) (J 128) (v_waits + 1)).trans (congrArg (fun g => zf12 C.X g (J 128)) (zn2 (by decide : (59 : Nat) ≠ 58)))) (by rw [zflen12]; decide) (fun j hj => ⟨zup_cg (zup_cg ((zup_n hj).trans (zup_n hj).symm)), rfl⟩) dX12_goesOnTest_121 ?_
    refine zb_iconst E dX12_goesOnTest_124 (v := 1) rfl ?_
    obtain ⟨rfl, rfl, rfl, rfl, rfl, rfl, rfl, rfl, rfl, rfl⟩ := zinj10 h
    exact zb_zret E hQ (ty := .boolean) rfl rfl ⟨Nat.zero_le _, Nat.zero_le _⟩ dX12_goesOnTest_125
  · have h := if_f h hc
    refine zb_aload_n E dX12_goesOnTest_96 0 rfl rfl ?_
    obtain ⟨v_coded_c14, v_waits_c14, v_codes_c14, hc_97, h⟩ := bd3_s h
    refine zb_cVv E [] 128 zy_X12_drops zw_1648 (by decide) (zF_128 _ _ _ _) rfl (c_X12_drops (va_up (va_up (va_up (va_up (va_up (va_up (va_up (I 128) 19 v_at) 21 v_ended) 22 v_bad) 23 v_badPlace) 56 v_coded) 58 v_waits) 59 v_open) rfl v_wait rfl v_coded rfl v_waits rfl v_codes rfl hc_97) (by decide) rfl rfl (by first | decide | simp [Value.category]) dX12_goesOnTest_97 (cs2 := (0, 0)) rfl ?_
    refine zb_S (S2 := ((va_up (va_up (va_up I 128 (va_up (va_up (va_up (va_up (va_up (va_up (va_up (I 128) 19 v_at) 21 v_ended) 22 v_bad) 23 v_badPlace) 56 v_coded_c14) 58 v_waits_c14) 59 v_open)) 173 v_codes_c14) 174 v_wait), J, Rr, D)) (zS_eq ((zcgF ((zcgV ((zcgF (zn3 (by decide : (59 : Nat) ≠ 56) (by decide : (58 : Nat) ≠ 56))).trans (zn2 (by decide : (59 : Nat) ≠ 58)))).trans (zn3 (by decide : (174 : Nat) ≠ 128) (by decide : (173 : Nat) ≠ 128)))).trans (zn2 (by decide : (174 : Nat) ≠ 173))) rfl) ?_
    refine zb_goto E dX12_goesOnTest_100 (tgt := 87) rfl ?_
    exact ih v_coded_c14 v_waits_c14 v_codes_c14 h
theorem c_X12_goesOnTest_b76 {C : zC} {I : Nat → Nat → Int32} {J : Nat → Nat → Int64} {Rr : Nat → Nat → Option Nat} {D : zD} (N : Nat) (v_end : Int32) (e_v_end : I 128 20 = v_end) (v_andWord : (Nat → Int32)) (e_v_andWord : I 152 = v_andWord) (v_orWord : (Nat → Int32)) (e_v_orWord : I 151 = v_orWord) (v_tape : (Nat → Int32)) (e_v_tape : I 143 = v_tape) (rr : Int32) (y_v_at : Int32) (y_v_bad : Int32) (y_v_badPlace : Int32) (y_v_coded : Int32) (y_v_ended : Int32) (y_v_open : Int32) (y_v_waits : Int32) (y_v_codes : (Nat → Int32)) (y_v_wait : (Nat → Int32)) (E : zE C RX12 cX12_goesOnTest 1 (some .boolean) ({ frames := 3, cells := 0, slots := 0, locals := 64 } : Room)) (hQ : C.Q = zQi C ({ frames := 3, cells := 0, slots := 0, locals := 64 } : Room) rr ((va_up (va_up (va_up I 128 (va_up (va_up (va_up (va_up (va_up (va_up (va_up (I 128) 19 y_v_at) 21 y_v_ended) 22 y_v_bad) 23 y_v_badPlace) 56 y_v_coded) 58 y_v_waits) 59 y_v_open)) 173 y_v_codes) 174 y_v_wait), J, Rr, D)) (v_at : Int32) (v_bad : Int32) (v_badPlace : Int32) (v_coded : Int32) (v_ended : Int32) (v_open : Int32) (v_waits : Int32) (v_codes : (Nat → Int32)) (v_wait : (Nat → Int32)) (h : pM_goesOnTest_b76 N v_end v_andWord v_orWord v_tape v_at v_bad v_badPlace v_coded v_ended v_open v_waits v_codes v_wait = some (rr, y_v_at, y_v_bad, y_v_badPlace, y_v_coded, y_v_ended, y_v_open, y_v_waits, y_v_codes, y_v_wait)) : zB C (0, 0) 76 [(0, .ref (C.X.1 + 128))] [] ((va_up (va_up (va_up I 128 (va_up (va_up (va_up (va_up (va_up (va_up (va_up (I 128) 19 v_at) 21 v_ended) 22 v_bad) 23 v_badPlace) 56 v_coded) 58 v_waits) 59 v_open)) 173 v_codes) 174 v_wait), J, Rr, D) := by
  refine zb_aload_n E dX12_goesOnTest_76 0 rfl rfl ?_
  refine zb_aload_n E dX12_goesOnTest_77 0 rfl rfl ?_
  refine zb_get E 128 (by decide) (zF_128 C.X) rfl zin12 34 (by decide) zw_1202 (v := .ref (C.X.1 + 152)) rfl dX12_goesOnTest_78 ?_
  obtain ⟨rc3, v_at_c3, v_ended_c3, hc_81, h⟩ := bd3_s h
  refine zb_cVi E [.ref (C.X.1 + 152)] 128 zy_X12_takes zw_1581 (by decide) (zF_128 _ _ _ _) rfl (c_X12_takes 152 (by decide) zF_152 (by decide) (va_up (va_up (va_up (va_up (va_up (va_up (va_up (I 128) 19 v_at) 21 v_ended) 22 v_bad) 23 v_badPlace) 56 v_coded) 58 v_waits) 59 v_open) rfl v_andWord (by exact e_v_andWord) v_bad rfl v_end (by exact e_v_end) v_tape (by exact e_v_tape) v_at rfl v_ended rfl hc_81) (by decide) rfl rfl (by first | decide | simp [Value.category]) dX12_goesOnTest_81 (cs2 := (0, 0)) rfl ?_
  refine zb_S (S2 := ((va_up (va_up (va_up I 128 (va_up (va_up (va_up (va_up (va_up (va_up (va_up (I 128) 19 v_at_c3) 21 v_ended_c3) 22 v_bad) 23 v_badPlace) 56 v_coded) 58 v_waits) 59 v_open)) 173 v_codes) 174 v_wait), J, Rr, D)) (zS_eq ((zcgV ((zcgF (zn7 (by decide : (59 : Nat) ≠ 19) (by decide : (58 : Nat) ≠ 19) (by decide : (56 : Nat) ≠ 19) (by decide : (23 : Nat) ≠ 19) (by decide : (22 : Nat) ≠ 19) (by decide : (21 : Nat) ≠ 19))).trans (zn6 (by decide : (59 : Nat) ≠ 21) (by decide : (58 : Nat) ≠ 21) (by decide : (56 : Nat) ≠ 21) (by decide : (23 : Nat) ≠ 21) (by decide : (22 : Nat) ≠ 21)))).trans (zn3 (by decide : (174 : Nat) ≠ 128) (by decide : (173 : Nat) ≠ 128))) rfl) ?_
  refine zb_if_eq E dX12_goesOnTest_84 (tgt := 126) rfl (fun hc => ?_) (fun hc => ?_)
  · have h := if_t h hc
    refine zb_aload_n E dX12_goesOnTest_126 0 rfl rfl ?_
    refine zb_aload_n E dX12_goesOnTest_127 0 rfl rfl ?_
    refine zb_get E 128 (by decide) (zF_128 C.X) rfl zin12 33 (by decide) zw_1201 (v := .ref (C.X.1 + 151)) rfl dX12_goesOnTest_128 ?_
    obtain ⟨rc4, v_at_c4, v_ended_c4, hc_131, h⟩ := bd3_s h
    refine zb_cVi E [.ref (C.X.1 + 151)] 128 zy_X12_takes zw_1581 (by decide) (zF_128 _ _ _ _) rfl (c_X12_takes 151 (by decide) zF_151 (by decide) (va_up (va_up (va_up (va_up (va_up (va_up (va_up (I 128) 19 v_at_c3) 21 v_ended_c3) 22 v_bad) 23 v_badPlace) 56 v_coded) 58 v_waits) 59 v_open) rfl v_orWord (by exact e_v_orWord) v_bad rfl v_end (by exact e_v_end) v_tape (by exact e_v_tape) v_at_c3 rfl v_ended_c3 rfl hc_131) (by decide) rfl rfl (by first | decide | simp [Value.category]) dX12_goesOnTest_131 (cs2 := (0, 0)) rfl ?_
    refine zb_S (S2 := ((va_up (va_up (va_up I 128 (va_up (va_up (va_up (va_up (va_up (va_up (va_up (I 128) 19 v_at_c4) 21 v_ended_c4) 22 v_bad) 23 v_badPlace) 56 v_coded) 58 v_waits) 59 v_open)) 173 v_codes) 174 v_wait), J, Rr, D)) (zS_eq ((zcgV ((zcgF (zn7 (by decide : (59 : Nat) ≠ 19) (by decide : (58 : Nat) ≠ 19) (by decide : (56 : Nat) ≠ 19) (by decide : (23 : Nat) ≠ 19) (by decide : (22 : Nat) ≠ 19) (by decide : (21 : Nat) ≠ 19))).trans (zn6 (by decide : (59 : Nat) ≠ 21) (by decide : (58 : Nat) ≠ 21) (by decide : (56 : Nat) ≠ 21) (by decide : (23 : Nat) ≠ 21) (by decide : (22 : Nat) ≠ 21)))).trans (zn3 (by decide : (174 : Nat) ≠ 128) (by decide : (173 : Nat) ≠ 128))) rfl) ?_
    refine zb_if_eq E dX12_goesOnTest_134 (tgt := 185) rfl (fun hc => ?_) (fun hc => ?_)
    · have h := if_t h hc
      refine zb_aload_n E dX12_goesOnTest_185 0 rfl rfl ?_
      refine zb_get E 128 (by decide) (zF_128 C.X) rfl zin12 22 (by decide) zw_1190 (v := .int v_bad) rfl dX12_goesOnTest_186 ?_
      refine zb_if_ne E dX12_goesOnTest_189 (tgt := 208) rfl (fun hc => ?_) (fun hc => ?_)
      · have h := if_f h hc
        refine zb_iconst E dX12_goesOnTest_208 (v := 0) rfl ?_
        obtain ⟨rfl, rfl, rfl, rfl, rfl, rfl, rfl, rfl, rfl, rfl⟩ := zinj10 h
        exact zb_zret E hQ (ty := .boolean) rfl rfl ⟨Nat.zero_le _, Nat.zero_le _⟩ dX12_goesOnTest_209
      · have h := if_t h hc
        refine zb_aload_n E dX12_goesOnTest_192 0 rfl rfl ?_
        obtain ⟨rc5, hc_193, h⟩ := bd1_s h
        refine zb_cVi E [] 128 zy_X12_hasSquare zw_1672 (by decide) (zF_128 _ _ _ _) rfl (c_X12_hasSquare v_waits rfl v_wait rfl hc_193) (by decide) rfl rfl (by first | decide | simp [Value.category]) dX12_goesOnTest_193 (cs2 := (0, 0)) rfl ?_
        refine zb_if_eq E dX12_goesOnTest_196 (tgt := 208) rfl (fun hc => ?_) (fun hc => ?_)
        · have h := if_t h hc
          refine zb_iconst E dX12_goesOnTest_208 (v := 0) rfl ?_
          obtain ⟨rfl, rfl, rfl, rfl, rfl, rfl, rfl, rfl, rfl, rfl⟩ := zinj10 h
          exact zb_zret E hQ (ty := .boolean) rfl rfl ⟨Nat.zero_le _, Nat.zero_le _⟩ dX12_goesOnTest_209
        · have h := if_f h hc
          refine zb_aload_n E dX12_goesOnTest_199 0 rfl rfl ?_
          refine zb_iconst E dX12_goesOnTest_200 (v := 1) rfl ?_
          refine zb_aload_n E dX12_goesOnTest_201 0 rfl rfl ?_
          refine zb_get E 128 (by decide) (zF_128 C.X) rfl zin12 19 (by decide) zw_1187 (v := .int v_at_c4) rfl dX12_goesOnTest_202 ?_
          obtain ⟨v_bad_c6, v_badPlace_c6, hc_205, h⟩ := bd2_s h
          refine zb_cVv E [.int 1, .int v_at_c4] 128 zy_X12_fail zw_1577 (by decide) (zF_128 _ _ _ _) rfl (c_X12_fail (va_up (va_up (va_up (va_up (va_up (va_up (va_up (I 128) 19 v_at_c4) 21 v_ended_c4) 22 v_bad) 23 v_badPlace) 56 v_coded) 58 v_waits) 59 v_open) rfl v_bad rfl v_badPlace rfl hc_205) (by decide) rfl rfl (by first | decide | simp [Value.category]) dX12_goesOnTest_205 (cs2 := (0, 0)) rfl ?_
          refine zb_S (S2 := ((va_up (va_up (va_up I 128 (va_up (va_up (va_up (va_up (va_up (va_up (va_up (I 128) 19 v_at_c4) 21 v_ended_c4) 22 v_bad_c6) 23 v_badPlace_c6) 56 v_coded) 58 v_waits) 59 v_open)) 173 v_codes) 174 v_wait), J, Rr, D)) (zS_eq ((zcgV ((zcgF (zn5 (by decide : (59 : Nat) ≠ 22) (by decide : (58 : Nat) ≠ 22) (by decide : (56 : Nat) ≠ 22) (by decide : (23 : Nat) ≠ 22))).trans (zn4 (by decide : (59 : Nat) ≠ 23) (by decide : (58 : Nat) ≠ 23) (by decide : (56 : Nat) ≠ 23)))).trans (zn3 (by decide : (174 : Nat) ≠ 128) (by decide : (173 : Nat) ≠ 128))) rfl) ?_
          refine zb_iconst E dX12_goesOnTest_208 (v := 0) rfl ?_
          obtain ⟨rfl, rfl, rfl, rfl, rfl, rfl, rfl, rfl, rfl, rfl⟩ := zinj10 h
          exact zb_zret E hQ (ty := .boolean) rfl rfl ⟨Nat.zero_le _, Nat.zero_le _⟩ dX12_goesOnTest_209
    · have h := if_f h hc
      exact c_X12_goesOnTest_b137 N v_end e_v_end v_andWord e_v_andWord v_orWord e_v_orWord v_tape e_v_tape rr y_v_at y_v_bad y_v_badPlace y_v_coded y_v_ended y_v_open y_v_waits y_v_codes y_v_wait E hQ v_at_c4 v_bad v_badPlace v_ended_c4 v_open v_wait _ v_coded v_waits v_codes h
  · have h := if_f h hc
    exact c_X12_goesOnTest_b87 N v_end e_v_end v_andWord e_v_andWord v_orWord e_v_orWord v_tape e_v_tape rr y_v_at y_v_bad y_v_badPlace y_v_coded y_v_ended y_v_open y_v_waits y_v_codes y_v_wait E hQ v_at_c3 v_bad v_badPlace v_ended_c3 v_open v_wait _ v_coded v_waits v_codes h
theorem c_X12_goesOnTest_0 {C : zC} {I : Nat → Nat → Int32} {J : Nat → Nat → Int64} {Rr : Nat → Nat → Option Nat} {D : zD} (N : Nat) (v_end : Int32) (e_v_end : I 128 20 = v_end) (v_andWord : (Nat → Int32)) (e_v_andWord : I 152 = v_andWord) (v_orWord : (Nat → Int32)) (e_v_orWord : I 151 = v_orWord) (v_tape : (Nat → Int32)) (e_v_tape : I 143 = v_tape) (rr : Int32) (y_v_at : Int32) (y_v_bad : Int32) (y_v_badPlace : Int32) (y_v_coded : Int32) (y_v_ended : Int32) (y_v_open : Int32) (y_v_waits : Int32) (y_v_codes : (Nat → Int32)) (y_v_wait : (Nat → Int32)) (E : zE C RX12 cX12_goesOnTest 1 (some .boolean) ({ frames := 3, cells := 0, slots := 0, locals := 64 } : Room)) (hQ : C.Q = zQi C ({ frames := 3, cells := 0, slots := 0, locals := 64 } : Room) rr ((va_up (va_up (va_up I 128 (va_up (va_up (va_up (va_up (va_up (va_up (va_up (I 128) 19 y_v_at) 21 y_v_ended) 22 y_v_bad) 23 y_v_badPlace) 56 y_v_coded) 58 y_v_waits) 59 y_v_open)) 173 y_v_codes) 174 y_v_wait), J, Rr, D)) (v_at : Int32) (v_bad : Int32) (v_badPlace : Int32) (v_coded : Int32) (v_ended : Int32) (v_open : Int32) (v_waits : Int32) (v_codes : (Nat → Int32)) (v_wait : (Nat → Int32)) (h : pM_goesOnTest N v_at v_bad v_badPlace v_coded v_end v_ended v_open v_waits v_andWord v_codes v_orWord v_tape v_wait = some (rr, y_v_at, y_v_bad, y_v_badPlace, y_v_coded, y_v_ended, y_v_open, y_v_waits, y_v_codes, y_v_wait)) : zB C (0, 0) 0 [(0, .ref (C.X.1 + 128))] [] ((va_up (va_up (va_up I 128 (va_up (va_up (va_up (va_up (va_up (va_up (va_up (I 128) 19 v_at) 21 v_ended) 22 v_bad) 23 v_badPlace) 56 v_coded) 58 v_waits) 59 v_open)) 173 v_codes) 174 v_wait), J, Rr, D) := by
  exact c_X12_goesOnTest_b0 N v_end e_v_end v_andWord e_v_andWord v_orWord e_v_orWord v_tape e_v_tape rr y_v_at y_v_bad y_v_badPlace y_v_coded y_v_ended y_v_open y_v_waits y_v_codes y_v_wait E hQ v_bad v_badPlace v_ended v_wait _ (fun v_at_z4 v_coded_z5 v_open_z6 v_waits_z7 v_codes_z8 h => c_X12_goesOnTest_b76 N v_end e_v_end v_andWord e_v_andWord v_orWord e_v_orWord v_tape e_v_tape rr y_v_at y_v_bad y_v_badPlace y_v_coded y_v_ended y_v_open y_v_waits y_v_codes y_v_wait E hQ v_at_z4 v_bad v_badPlace v_coded_z5 v_ended v_open_z6 v_waits_z7 v_codes_z8 v_wait h) _ v_at v_coded v_open v_waits v_codes h
theorem c_X12_goesOnTest {l : Launch} {X : zX} {I : Nat → Nat → Int32} {J : Nat → Nat → Int64} {Rr : Nat → Nat → Option Nat} {D : zD} {N : Nat} (oI128 : Nat → Int32) (eoI128 : I 128 = oI128) (v_end : Int32) (e_v_end : I 128 20 = v_end) (v_andWord : (Nat → Int32)) (e_v_andWord : I 152 = v_andWord) (v_orWord : (Nat → Int32)) (e_v_orWord : I 151 = v_orWord) (v_tape : (Nat → Int32)) (e_v_tape : I 143 = v_tape) (v_at : Int32) (e_v_at : I 128 19 = v_at) (v_bad : Int32) (e_v_bad : I 128 22 = v_bad) (v_badPlace : Int32) (e_v_badPlace : I 128 23 = v_badPlace) (v_coded : Int32) (e_v_coded : I 128 56 = v_coded) (v_ended : Int32) (e_v_ended : I 128 21 = v_ended) (v_open : Int32) (e_v_open : I 128 59 = v_open) (v_waits : Int32) (e_v_waits : I 128 58 = v_waits) (v_codes : (Nat → Int32)) (e_v_codes : I 173 = v_codes) (v_wait : (Nat → Int32)) (e_v_wait : I 174 = v_wait) {rr : Int32} {y_v_at : Int32} {y_v_bad : Int32} {y_v_badPlace : Int32} {y_v_coded : Int32} {y_v_ended : Int32} {y_v_open : Int32} {y_v_waits : Int32} {y_v_codes : (Nat → Int32)} {y_v_wait : (Nat → Int32)} (h : pM_goesOnTest N v_at v_bad v_badPlace v_coded v_end v_ended v_open v_waits v_andWord v_codes v_orWord v_tape v_wait = some (rr, y_v_at, y_v_bad, y_v_badPlace, y_v_coded, y_v_ended, y_v_open, y_v_waits, y_v_codes, y_v_wait)) : zMi l yX12_goesOnTest cX12_goesOnTest 1 (some .boolean) ({ frames := 3, cells := 0, slots := 0, locals := 64 } : Room) X [.ref (X.1 + 128)] (I, J, Rr, D) rr ((va_up (va_up (va_up I 128 (va_up (va_up (va_up (va_up (va_up (va_up (va_up oI128 19 y_v_at) 21 y_v_ended) 22 y_v_bad) 23 y_v_badPlace) 56 y_v_coded) 58 y_v_waits) 59 y_v_open)) 173 y_v_codes) 174 y_v_wait), J, Rr, D) := by
  subst eoI128
  refine zMi.of (by decide) (Nat.le_of_ble_eq_true rfl) (fun C E hl hX hQ => ?_)
  subst hl
  subst hX
  have eI0 : (va_up (va_up (va_up I 128 (va_up (va_up (va_up (va_up (va_up (va_up (va_up (I 128) 19 v_at) 21 v_ended) 22 v_bad) 23 v_badPlace) 56 v_coded) 58 v_waits) 59 v_open)) 173 v_codes) 174 v_wait) = I := by rw [zup_idE e_v_at, zup_idE e_v_ended, zup_idE e_v_bad, zup_idE e_v_badPlace, zup_idE e_v_coded, zup_idE e_v_waits, zup_idE e_v_open, zup_id, zup_idE e_v_codes, zup_idE e_v_wait]
  have eJ0 : J = J := rfl
  refine zb_S (S2 := ((va_up (va_up (va_up I 128 (va_up (va_up (va_up (va_up (va_up (va_up (va_up (I 128) 19 v_at) 21 v_ended) 22 v_bad) 23 v_badPlace) 56 v_coded) 58 v_waits) 59 v_open)) 173 v_codes) 174 v_wait), J, Rr, D)) (zS_eq eI0.symm eJ0.symm) ?_
  exact c_X12_goesOnTest_0 N v_end e_v_end v_andWord e_v_andWord v_orWord e_v_orWord v_tape e_v_tape rr y_v_at y_v_bad y_v_badPlace y_v_coded y_v_ended y_v_open y_v_waits y_v_codes y_v_wait E hQ v_at v_bad v_badPlace v_coded v_ended v_open v_waits v_codes v_wait h
-- ChequeredClothModel.test
theorem dX12_test_0 : decode cX12_test 0 = .ok (.iconst 1, 1) := by decide +kernel
theorem dX12_test_1 : decode cX12_test 1 = .ok (.istore_n 1, 1) := by decide +kernel
theorem dX12_test_2 : decode cX12_test 2 = .ok (.iload_n 1, 1) := by decide +kernel
theorem dX12_test_3 : decode cX12_test 3 = .ok (.ifCond .eq 107, 3) := by decide +kernel
theorem dX12_test_6 : decode cX12_test 6 = .ok (.aload_n 0, 1) := by decide +kernel
theorem dX12_test_7 : decode cX12_test 7 = .ok (.getfield 275, 3) := by decide +kernel
theorem dX12_test_10 : decode cX12_test 10 = .ok (.ifCond .ne 100, 3) := by decide +kernel
theorem dX12_test_13 : decode cX12_test 13 = .ok (.aload_n 0, 1) := by decide +kernel
theorem dX12_test_14 : decode cX12_test 14 = .ok (.invokevirtual 287, 3) := by decide +kernel
theorem dX12_test_17 : decode cX12_test 17 = .ok (.istore_n 2, 1) := by decide +kernel
theorem dX12_test_18 : decode cX12_test 18 = .ok (.iload_n 2, 1) := by decide +kernel
theorem dX12_test_19 : decode cX12_test 19 = .ok (.bipush 91, 2) := by decide +kernel
theorem dX12_test_21 : decode cX12_test 21 = .ok (.if_icmp .ne 26, 3) := by decide +kernel
theorem dX12_test_24 : decode cX12_test 24 = .ok (.aload_n 0, 1) := by decide +kernel
theorem dX12_test_25 : decode cX12_test 25 = .ok (.bipush 25, 2) := by decide +kernel
theorem dX12_test_27 : decode cX12_test 27 = .ok (.aload_n 0, 1) := by decide +kernel
theorem dX12_test_28 : decode cX12_test 28 = .ok (.getfield 281, 3) := by decide +kernel
theorem dX12_test_31 : decode cX12_test 31 = .ok (.invokevirtual 335, 3) := by decide +kernel
theorem dX12_test_34 : decode cX12_test 34 = .ok (.aload_n 0, 1) := by decide +kernel
theorem dX12_test_35 : decode cX12_test 35 = .ok (.dup, 1) := by decide +kernel
theorem dX12_test_36 : decode cX12_test 36 = .ok (.getfield 281, 3) := by decide +kernel
theorem dX12_test_39 : decode cX12_test 39 = .ok (.iconst 1, 1) := by decide +kernel
theorem dX12_test_40 : decode cX12_test 40 = .ok (.iadd, 1) := by decide +kernel
theorem dX12_test_41 : decode cX12_test 41 = .ok (.putfield 281, 3) := by decide +kernel
theorem dX12_test_44 : decode cX12_test 44 = .ok (.goto (-42), 3) := by decide +kernel
theorem dX12_test_47 : decode cX12_test 47 = .ok (.aload_n 0, 1) := by decide +kernel
theorem dX12_test_48 : decode cX12_test 48 = .ok (.aload_n 0, 1) := by decide +kernel
theorem dX12_test_49 : decode cX12_test 49 = .ok (.getfield 97, 3) := by decide +kernel
theorem dX12_test_52 : decode cX12_test 52 = .ok (.invokevirtual 297, 3) := by decide +kernel
theorem dX12_test_55 : decode cX12_test 55 = .ok (.ifCond .eq 24, 3) := by decide +kernel
theorem dX12_test_58 : decode cX12_test 58 = .ok (.aload_n 0, 1) := by decide +kernel
theorem dX12_test_59 : decode cX12_test 59 = .ok (.bipush 16, 2) := by decide +kernel
theorem dX12_test_61 : decode cX12_test 61 = .ok (.aload_n 0, 1) := by decide +kernel
theorem dX12_test_62 : decode cX12_test 62 = .ok (.getfield 281, 3) := by decide +kernel
theorem dX12_test_65 : decode cX12_test 65 = .ok (.invokevirtual 335, 3) := by decide +kernel
theorem dX12_test_68 : decode cX12_test 68 = .ok (.aload_n 0, 1) := by decide +kernel
theorem dX12_test_69 : decode cX12_test 69 = .ok (.aload_n 0, 1) := by decide +kernel
theorem dX12_test_70 : decode cX12_test 70 = .ok (.getfield 97, 3) := by decide +kernel
theorem dX12_test_73 : decode cX12_test 73 = .ok (.invokevirtual 338, 3) := by decide +kernel
theorem dX12_test_76 : decode cX12_test 76 = .ok (.goto (-74), 3) := by decide +kernel
theorem dX12_test_79 : decode cX12_test 79 = .ok (.aload_n 0, 1) := by decide +kernel
theorem dX12_test_80 : decode cX12_test 80 = .ok (.invokevirtual 371, 3) := by decide +kernel
theorem dX12_test_83 : decode cX12_test 83 = .ok (.aload_n 0, 1) := by decide +kernel
theorem dX12_test_84 : decode cX12_test 84 = .ok (.invokevirtual 374, 3) := by decide +kernel
theorem dX12_test_87 : decode cX12_test 87 = .ok (.aload_n 0, 1) := by decide +kernel
theorem dX12_test_88 : decode cX12_test 88 = .ok (.getfield 275, 3) := by decide +kernel
theorem dX12_test_91 : decode cX12_test 91 = .ok (.ifCond .ne 14, 3) := by decide +kernel
theorem dX12_test_94 : decode cX12_test 94 = .ok (.aload_n 0, 1) := by decide +kernel
theorem dX12_test_95 : decode cX12_test 95 = .ok (.invokevirtual 377, 3) := by decide +kernel
theorem dX12_test_98 : decode cX12_test 98 = .ok (.ifCond .eq 7, 3) := by decide +kernel
theorem dX12_test_101 : decode cX12_test 101 = .ok (.iconst 1, 1) := by decide +kernel
theorem dX12_test_102 : decode cX12_test 102 = .ok (.goto 4, 3) := by decide +kernel
theorem dX12_test_105 : decode cX12_test 105 = .ok (.iconst 0, 1) := by decide +kernel
theorem dX12_test_106 : decode cX12_test 106 = .ok (.istore_n 1, 1) := by decide +kernel
theorem dX12_test_107 : decode cX12_test 107 = .ok (.goto (-105), 3) := by decide +kernel
theorem dX12_test_110 : decode cX12_test 110 = .ok (.aload_n 0, 1) := by decide +kernel
theorem dX12_test_111 : decode cX12_test 111 = .ok (.getfield 275, 3) := by decide +kernel
theorem dX12_test_114 : decode cX12_test 114 = .ok (.ifCond .ne 17, 3) := by decide +kernel
theorem dX12_test_117 : decode cX12_test 117 = .ok (.aload_n 0, 1) := by decide +kernel
theorem dX12_test_118 : decode cX12_test 118 = .ok (.getfield 320, 3) := by decide +kernel
theorem dX12_test_121 : decode cX12_test 121 = .ok (.ifCond .le 10, 3) := by decide +kernel
theorem dX12_test_124 : decode cX12_test 124 = .ok (.aload_n 0, 1) := by decide +kernel
theorem dX12_test_125 : decode cX12_test 125 = .ok (.invokevirtual 332, 3) := by decide +kernel
theorem dX12_test_128 : decode cX12_test 128 = .ok (.goto (-18), 3) := by decide +kernel
theorem dX12_test_131 : decode cX12_test 131 = .ok (.return_, 1) := by decide +kernel
theorem zy_X12_test : zYv yX12_test cX12_test 3 none 0 := ⟨zw_1658, zws_76, zw_12, zw_1659, by decide, by decide, by decide⟩
theorem c_X12_test_b2 {C : zC} {I : Nat → Nat → Int32} {J : Nat → Nat → Int64} {Rr : Nat → Nat → Option Nat} {D : zD} (N : Nat) (v_end : Int32) (e_v_end : I 128 20 = v_end) (v_allWord : (Nat → Int32)) (e_v_allWord : I 154 = v_allWord) (v_andWord : (Nat → Int32)) (e_v_andWord : I 152 = v_andWord) (v_debtWord : (Nat → Int32)) (e_v_debtWord : I 161 = v_debtWord) (v_maxWord : (Nat → Int32)) (e_v_maxWord : I 164 = v_maxWord) (v_minWord : (Nat → Int32)) (e_v_minWord : I 163 = v_minWord) (v_notWord : (Nat → Int32)) (e_v_notWord : I 153 = v_notWord) (v_orWord : (Nat → Int32)) (e_v_orWord : I 151 = v_orWord) (v_paidWord : (Nat → Int32)) (e_v_paidWord : I 162 = v_paidWord) (v_penceWord : (Nat → Int32)) (e_v_penceWord : I 156 = v_penceWord) (v_poundsWord : (Nat → Int32)) (e_v_poundsWord : I 158 = v_poundsWord) (v_shillingsWord : (Nat → Int32)) (e_v_shillingsWord : I 157 = v_shillingsWord) (v_shireWord : (Nat → Int32)) (e_v_shireWord : I 155 = v_shireWord) (v_tape : (Nat → Int32)) (e_v_tape : I 143 = v_tape) (v_termWord : (Nat → Int32)) (e_v_termWord : I 159 = v_termWord) (v_yearWord : (Nat → Int32)) (e_v_yearWord : I 160 = v_yearWord) (y_v_at : Int32) (y_v_bad : Int32) (y_v_badPlace : Int32) (y_v_base : Int32) (y_v_coded : Int32) (y_v_ended : Int32) (y_v_open : Int32) (y_v_waits : Int32) (y_v_codes : (Nat → Int32)) (y_v_wait : (Nat → Int32)) (E : zE C RX12 cX12_test 3 none ({ frames := 7, cells := 0, slots := 0, locals := 153 } : Room)) (hQ : C.Q = zQv C ({ frames := 7, cells := 0, slots := 0, locals := 153 } : Room) ((va_up (va_up (va_up I 128 (va_up (va_up (va_up (va_up (va_up (va_up (va_up (va_up (I 128) 19 y_v_at) 21 y_v_ended) 22 y_v_bad) 23 y_v_badPlace) 56 y_v_coded) 58 y_v_waits) 59 y_v_open) 60 y_v_base)) 173 y_v_codes) 174 y_v_wait), J, Rr, D)) (k110 : Int32 → Int32 → Int32 → Int32 → Int32 → Int32 → Int32 → Int32 → (Nat → Int32) → (Nat → Int32) → Option R_pM_test) (hk110 : ∀ (v_at : Int32) (v_bad : Int32) (v_badPlace : Int32) (v_base : Int32) (v_coded : Int32) (v_ended : Int32) (v_open : Int32) (v_waits : Int32) (v_codes : (Nat → Int32)) (v_wait : (Nat → Int32)), k110 v_at v_bad v_badPlace v_base v_coded v_ended v_open v_waits v_codes v_wait = some (y_v_at, y_v_bad, y_v_badPlace, y_v_base, y_v_coded, y_v_ended, y_v_open, y_v_waits, y_v_codes, y_v_wait) → zB C (0, 0) 110 [(0, .ref (C.X.1 + 128))] [] ((va_up (va_up (va_up I 128 (va_up (va_up (va_up (va_up (va_up (va_up (va_up (va_up (I 128) 19 v_at) 21 v_ended) 22 v_bad) 23 v_badPlace) 56 v_coded) 58 v_waits) 59 v_open) 60 v_base)) 173 v_codes) 174 v_wait), J, Rr, D)) : ∀ (n9 : Nat) (x1 : Int32) (v_at : Int32) (v_bad : Int32) (v_badPlace : Int32) (v_base : Int32) (v_coded : Int32) (v_ended : Int32) (v_open : Int32) (v_waits : Int32) (v_codes : (Nat → Int32)) (v_wait : (Nat → Int32)), pM_test_b2 N v_end v_allWord v_andWord v_debtWord v_maxWord v_minWord v_notWord v_orWord v_paidWord v_penceWord v_poundsWord v_shillingsWord v_shireWord v_tape v_termWord v_yearWord k110 n9 x1 v_at v_bad v_badPlace v_base v_coded v_ended v_open v_waits v_codes v_wait = some (y_v_at, y_v_bad, y_v_badPlace, y_v_base, y_v_coded, y_v_ended, y_v_open, y_v_waits, y_v_codes, y_v_wait) → zB C (0, 0) 2 [(0, .ref (C.X.1 + 128)), (1, .int x1)] [] ((va_up (va_up (va_up I 128 (va_up (va_up (va_up (va_up (va_up (va_up (va_up (va_up (I 128) 19 v_at) 21 v_ended) 22 v_bad) 23 v_badPlace) 56 v_coded) 58 v_waits) 59 v_open) 60 v_base)) 173 v_codes) 174 v_wait), J, Rr, D) := by
  refine zlp11_ind (P := fun (x1 : Int32) (v_at : Int32) (v_bad : Int32) (v_badPlace : Int32) (v_base : Int32) (v_coded : Int32) (v_ended : Int32) (v_open : Int32) (v_waits : Int32) (v_codes : (Nat → Int32)) (v_wait : (Nat → Int32)) => zB C (0, 0) 2 [(0, .ref (C.X.1 + 128)), (1, .int x1)] [] ((va_up (va_up (va_up I 128 (va_up (va_up (va_up (va_up (va_up (va_up (va_up (va_up (I 128) 19 v_at) 21 v_ended) 22 v_bad) 23 v_badPlace) 56 v_coded) 58 v_waits) 59 v_open) 60 v_base)) 173 v_codes) 174 v_wait), J, Rr, D)) (fun self ih => ?_)
  intro x1 v_at v_bad v_badPlace v_base v_coded v_ended v_open v_waits v_codes v_wait h
  refine zb_iload_n E dX12_test_2 1 rfl rfl ?_
  refine zb_if_eq E dX12_test_3 (tgt := 110) rfl (fun hc => ?_) (fun hc => ?_)
  · have h := if_t h hc
    refine zb_sub [0] rfl ?_
    exact hk110 v_at v_bad v_badPlace v_base v_coded v_ended v_open v_waits v_codes v_wait h
  · have h := if_f h hc
    refine zb_aload_n E dX12_test_6 0 rfl rfl ?_
    refine zb_get E 128 (by decide) (zF_128 C.X) rfl zin12 22 (by decide) zw_1190 (v := .int v_bad) rfl dX12_test_7 ?_
    refine zb_if_ne E dX12_test_10 (tgt := 110) rfl (fun hc => ?_) (fun hc => ?_)
    · have h := if_f h hc
      refine zb_sub [0] rfl ?_
      exact hk110 v_at v_bad v_badPlace v_base v_coded v_ended v_open v_waits v_codes v_wait h
    · have h := if_t h hc
      refine zb_aload_n E dX12_test_13 0 rfl rfl ?_
      obtain ⟨rc1, v_at_c1, hc_14, h⟩ := bd2_s h
      refine zb_cVi E [] 128 zy_X12_look zw_1569 (by decide) (zF_128 _ _ _ _) rfl (c_X12_look (va_up (va_up (va_up (va_up (va_up (va_up (va_up (va_up (I 128) 19 v_at) 21 v_ended) 22 v_bad) 23 v_badPlace) 56 v_coded) 58 v_waits) 59 v_open) 60 v_base) rfl v_end (by exact e_v_end) v_tape (by exact e_v_tape) v_at rfl hc_14) (by decide) rfl rfl (by first | decide | simp [Value.category]) dX12_test_14 (cs2 := (0, 0)) rfl ?_
      refine zb_S (S2 := ((va_up (va_up (va_up I 128 (va_up (va_up (va_up (va_up (va_up (va_up (va_up (va_up (I 128) 19 v_at_c1) 21 v_ended) 22 v_bad) 23 v_badPlace) 56 v_coded) 58 v_waits) 59 v_open) 60 v_base)) 173 v_codes) 174 v_wait), J, Rr, D)) (zS_eq ((zcgV (zn8 (by decide : (60 : Nat) ≠ 19) (by decide : (59 : Nat) ≠ 19) (by decide : (58 : Nat) ≠ 19) (by decide : (56 : Nat) ≠ 19) (by decide : (23 : Nat) ≠ 19) (by decide : (22 : Nat) ≠ 19) (by decide : (21 : Nat) ≠ 19))).trans (zn3 (by decide : (174 : Nat) ≠ 128) (by decide : (173 : Nat) ≠ 128))) rfl) ?_
      refine zb_istore_n E dX12_test_17 rfl (by decide) (lv2 := [(2, .int rc1), (0, .ref (C.X.1 + 128)), (1, .int x1)]) rfl ?_
      refine zb_iload_n E dX12_test_18 0 rfl rfl ?_
      refine zb_bipush E dX12_test_19 (v := 91) rfl ?_
      refine zb_icmp_ne E dX12_test_21 (tgt := 47) rfl (fun hc => ?_) (fun hc => ?_)
      · have h := if_f h hc
        refine zb_aload_n E dX12_test_47 1 rfl rfl ?_
        refine zb_aload_n E dX12_test_48 1 rfl rfl ?_
        refine zb_get E 128 (by decide) (zF_128 C.X) rfl zin12 35 (by decide) zw_1203 (v := .ref (C.X.1 + 153)) rfl dX12_test_49 ?_
        obtain ⟨rc2, v_at_c2, hc_52, h⟩ := bd2_s h
        refine zb_cVi E [.ref (C.X.1 + 153)] 128 zy_X12_isHere zw_1585 (by decide) (zF_128 _ _ _ _) rfl (c_X12_isHere 153 (by decide) zF_153 (by decide) (va_up (va_up (va_up (va_up (va_up (va_up (va_up (va_up (I 128) 19 v_at_c1) 21 v_ended) 22 v_bad) 23 v_badPlace) 56 v_coded) 58 v_waits) 59 v_open) 60 v_base) rfl v_notWord (by exact e_v_notWord) v_bad rfl v_end (by exact e_v_end) v_ended rfl v_tape (by exact e_v_tape) v_at_c1 rfl hc_52) (by decide) rfl rfl (by first | decide | simp [Value.category]) dX12_test_52 (cs2 := (0, 0)) rfl ?_
        refine zb_S (S2 := ((va_up (va_up (va_up I 128 (va_up (va_up (va_up (va_up (va_up (va_up (va_up (va_up (I 128) 19 v_at_c2) 21 v_ended) 22 v_bad) 23 v_badPlace) 56 v_coded) 58 v_waits) 59 v_open) 60 v_base)) 173 v_codes) 174 v_wait), J, Rr, D)) (zS_eq ((zcgV (zn8 (by decide : (60 : Nat) ≠ 19) (by decide : (59 : Nat) ≠ 19) (by decide : (58 : Nat) ≠ 19) (by decide : (56 : Nat) ≠ 19) (by decide : (23 : Nat) ≠ 19) (by decide : (22 : Nat) ≠ 19) (by decide : (21 : Nat) ≠ 19))).trans (zn3 (by decide : (174 : Nat) ≠ 128) (by decide : (173 : Nat) ≠ 128))) rfl) ?_
        refine zb_if_eq E dX12_test_55 (tgt := 79) rfl (fun hc => ?_) (fun hc => ?_)
        · have h := if_t h hc
          refine zb_aload_n E dX12_test_79 1 rfl rfl ?_
          obtain ⟨v_at_c3, v_bad_c3, v_badPlace_c3, v_base_c3, v_coded_c3, v_ended_c3, v_open_c3, v_waits_c3, v_codes_c3, v_wait_c3, hc_80, h⟩ := bd10_s h
          refine zb_cVv E [] 128 zy_X12_fact zw_1660 (by decide) (zF_128 _ _ _ _) rfl (c_X12_fact (va_up (va_up (va_up (va_up (va_up (va_up (va_up (va_up (I 128) 19 v_at_c2) 21 v_ended) 22 v_bad) 23 v_badPlace) 56 v_coded) 58 v_waits) 59 v_open) 60 v_base) rfl v_end (by exact e_v_end) v_allWord (by exact e_v_allWord) v_debtWord (by exact e_v_debtWord) v_maxWord (by exact e_v_maxWord) v_minWord (by exact e_v_minWord) v_paidWord (by exact e_v_paidWord) v_penceWord (by exact e_v_penceWord) v_poundsWord (by exact e_v_poundsWord) v_shillingsWord (by exact e_v_shillingsWord) v_shireWord (by exact e_v_shireWord) v_tape (by exact e_v_tape) v_termWord (by exact e_v_termWord) v_yearWord (by exact e_v_yearWord) v_at_c2 rfl v_bad rfl v_badPlace rfl v_base rfl v_coded rfl v_ended rfl v_open rfl v_waits rfl v_codes rfl v_wait rfl hc_80) (by decide) rfl rfl (by first | decide | simp [Value.category]) dX12_test_80 (cs2 := (0, 0)) rfl ?_
          refine zb_S (S2 := ((va_up (va_up (va_up I 128 (va_up (va_up (va_up (va_up (va_up (va_up (va_up (va_up (I 128) 19 v_at_c3) 21 v_ended_c3) 22 v_bad_c3) 23 v_badPlace_c3) 56 v_coded_c3) 58 v_waits_c3) 59 v_open_c3) 60 v_base_c3)) 173 v_codes_c3) 174 v_wait_c3), J, Rr, D)) (zS_eq ((zcgF ((zcgF ((zcgV ((zcgF ((zcgF ((zcgF ((zcgF ((zcgF ((zcgF ((zcgF (zn8 (by decide : (60 : Nat) ≠ 19) (by decide : (59 : Nat) ≠ 19) (by decide : (58 : Nat) ≠ 19) (by decide : (56 : Nat) ≠ 19) (by decide : (23 : Nat) ≠ 19) (by decide : (22 : Nat) ≠ 19) (by decide : (21 : Nat) ≠ 19))).trans (zn7 (by decide : (60 : Nat) ≠ 21) (by decide : (59 : Nat) ≠ 21) (by decide : (58 : Nat) ≠ 21) (by decide : (56 : Nat) ≠ 21) (by decide : (23 : Nat) ≠ 21) (by decide : (22 : Nat) ≠ 21)))).trans (zn6 (by decide : (60 : Nat) ≠ 22) (by decide : (59 : Nat) ≠ 22) (by decide : (58 : Nat) ≠ 22) (by decide : (56 : Nat) ≠ 22) (by decide : (23 : Nat) ≠ 22)))).trans (zn5 (by decide : (60 : Nat) ≠ 23) (by decide : (59 : Nat) ≠ 23) (by decide : (58 : Nat) ≠ 23) (by decide : (56 : Nat) ≠ 23)))).trans (zn4 (by decide : (60 : Nat) ≠ 56) (by decide : (59 : Nat) ≠ 56) (by decide : (58 : Nat) ≠ 56)))).trans (zn3 (by decide : (60 : Nat) ≠ 58) (by decide : (59 : Nat) ≠ 58)))).trans (zn2 (by decide : (60 : Nat) ≠ 59)))).trans zn1)).trans (zn3 (by decide : (174 : Nat) ≠ 128) (by decide : (173 : Nat) ≠ 128)))).trans (zn2 (by decide : (174 : Nat) ≠ 173)))).trans zn1) rfl) ?_
          refine zb_aload_n E dX12_test_83 1 rfl rfl ?_
          obtain ⟨v_coded_c4, v_open_c4, v_waits_c4, v_codes_c4, hc_84, h⟩ := bd4_s h
          refine zb_cVv E [] 128 zy_X12_dropsNots zw_1664 (by decide) (zF_128 _ _ _ _) rfl (c_X12_dropsNots (va_up (va_up (va_up (va_up (va_up (va_up (va_up (va_up (I 128) 19 v_at_c3) 21 v_ended_c3) 22 v_bad_c3) 23 v_badPlace_c3) 56 v_coded_c3) 58 v_waits_c3) 59 v_open_c3) 60 v_base_c3) rfl v_bad_c3 rfl v_wait_c3 rfl v_coded_c3 rfl v_open_c3 rfl v_waits_c3 rfl v_codes_c3 rfl hc_84) (by decide) rfl rfl (by first | decide | simp [Value.category]) dX12_test_84 (cs2 := (0, 0)) rfl ?_
          refine zb_S (S2 := ((va_up (va_up (va_up I 128 (va_up (va_up (va_up (va_up (va_up (va_up (va_up (va_up (I 128) 19 v_at_c3) 21 v_ended_c3) 22 v_bad_c3) 23 v_badPlace_c3) 56 v_coded_c4) 58 v_waits_c4) 59 v_open_c4) 60 v_base_c3)) 173 v_codes_c4) 174 v_wait_c3), J, Rr, D)) (zS_eq ((zcgF ((zcgV ((zcgF ((zcgF (zn4 (by decide : (60 : Nat) ≠ 56) (by decide : (59 : Nat) ≠ 56) (by decide : (58 : Nat) ≠ 56))).trans (zn3 (by decide : (60 : Nat) ≠ 58) (by decide : (59 : Nat) ≠ 58)))).trans (zn2 (by decide : (60 : Nat) ≠ 59)))).trans (zn3 (by decide : (174 : Nat) ≠ 128) (by decide : (173 : Nat) ≠ 128)))).trans (zn2 (by decide : (174 : Nat) ≠ 173))) rfl) ?_
          refine zb_aload_n E dX12_test_87 1 rfl rfl ?_
          refine zb_get E 128 (by decide) (zF_128 C.X) rfl zin12 22 (by decide) zw_1190 (v := .int v_bad_c3) rfl dX12_test_88 ?_
          refine zb_if_ne E dX12_test_91 (tgt := 105) rfl (fun hc => ?_) (fun hc => ?_)
          · have h := if_f h hc
            refine zb_iconst E dX12_test_105 (v := 0) rfl ?_
            refine zb_istore_n E dX12_test_106 rfl (by decide) (lv2 := [(1, .int 0), (2, .int rc1), (0, .ref (C.X.1 + 128))]) rfl ?_
            refine zb_goto E dX12_test_107 (tgt := 2) rfl ?_
            refine zb_sub [2, 0] rfl ?_
            exact ih 0 v_at_c3 v_bad_c3 v_badPlace_c3 v_base_c3 v_coded_c4 v_ended_c3 v_open_c4 v_waits_c4 v_codes_c4 v_wait_c3 h
          · have h := if_t h hc
            refine zb_aload_n E dX12_test_94 1 rfl rfl ?_
            obtain ⟨rc5, v_at_c5, v_bad_c5, v_badPlace_c5, v_coded_c5, v_ended_c5, v_open_c5, v_waits_c5, v_codes_c5, v_wait_c5, hc_95, h⟩ := bd10_s h
            refine zb_cVi E [] 128 zy_X12_goesOnTest zw_1668 (by decide) (zF_128 _ _ _ _) rfl (c_X12_goesOnTest (va_up (va_up (va_up (va_up (va_up (va_up (va_up (va_up (I 128) 19 v_at_c3) 21 v_ended_c3) 22 v_bad_c3) 23 v_badPlace_c3) 56 v_coded_c4) 58 v_waits_c4) 59 v_open_c4) 60 v_base_c3) rfl v_end (by exact e_v_end) v_andWord (by exact e_v_andWord) v_orWord (by exact e_v_orWord) v_tape (by exact e_v_tape) v_at_c3 rfl v_bad_c3 rfl v_badPlace_c3 rfl v_coded_c4 rfl v_ended_c3 rfl v_open_c4 rfl v_waits_c4 rfl v_codes_c4 rfl v_wait_c3 rfl hc_95) (by decide) rfl rfl (by first | decide | simp [Value.category]) dX12_test_95 (cs2 := (0, 0)) rfl ?_
            refine zb_S (S2 := ((va_up (va_up (va_up I 128 (va_up (va_up (va_up (va_up (va_up (va_up (va_up (va_up (I 128) 19 v_at_c5) 21 v_ended_c5) 22 v_bad_c5) 23 v_badPlace_c5) 56 v_coded_c5) 58 v_waits_c5) 59 v_open_c5) 60 v_base_c3)) 173 v_codes_c5) 174 v_wait_c5), J, Rr, D)) (zS_eq ((zcgF ((zcgF ((zcgV ((zcgF ((zcgF ((zcgF ((zcgF ((zcgF ((zcgF (zn8 (by decide : (60 : Nat) ≠ 19) (by decide : (59 : Nat) ≠ 19) (by decide : (58 : Nat) ≠ 19) (by decide : (56 : Nat) ≠ 19) (by decide : (23 : Nat) ≠ 19) (by decide : (22 : Nat) ≠ 19) (by decide : (21 : Nat) ≠ 19))).trans (zn7 (by decide : (60 : Nat) ≠ 21) (by decide : (59 : Nat) ≠ 21) (by decide : (58 : Nat) ≠ 21) (by decide : (56 : Nat) ≠ 21) (by decide : (23 : Nat) ≠ 21) (by decide : (22 : Nat) ≠ 21)))).trans (zn6 (by decide : (60 : Nat) ≠ 22) (by decide : (59 : Nat) ≠ 22) (by decide : (58 : Nat) ≠ 22) (by decide : (56 : Nat) ≠ 22) (by decide : (23 : Nat) ≠ 22)))).trans (zn5 (by decide : (60 : Nat) ≠ 23) (by decide : (59 : Nat) ≠ 23) (by decide : (58 : Nat) ≠ 23) (by decide : (56 : Nat) ≠ 23)))).trans (zn4 (by decide : (60 : Nat) ≠ 56) (by decide : (59 : Nat) ≠ 56) (by decide : (58 : Nat) ≠ 56)))).trans (zn3 (by decide : (60 : Nat) ≠ 58) (by decide : (59 : Nat) ≠ 58)))).trans (zn2 (by decide : (60 : Nat) ≠ 59)))).trans (zn3 (by decide : (174 : Nat) ≠ 128) (by decide : (173 : Nat) ≠ 128)))).trans (zn2 (by decide : (174 : Nat) ≠ 173)))).trans zn1) rfl) ?_
            refine zb_if_eq E dX12_test_98 (tgt := 105) rfl (fun hc => ?_) (fun hc => ?_)
            · have h := if_t h hc
              refine zb_iconst E dX12_test_105 (v := 0) rfl ?_
              refine zb_istore_n E dX12_test_106 rfl (by decide) (lv2 := [(1, .int 0), (2, .int rc1), (0, .ref (C.X.1 + 128))]) rfl ?_
              refine zb_goto E dX12_test_107 (tgt := 2) rfl ?_
              refine zb_sub [2, 0] rfl ?_
              exact ih 0 v_at_c5 v_bad_c5 v_badPlace_c5 v_base_c3 v_coded_c5 v_ended_c5 v_open_c5 v_waits_c5 v_codes_c5 v_wait_c5 h
            · have h := if_f h hc
              refine zb_iconst E dX12_test_101 (v := 1) rfl ?_
              refine zb_goto E dX12_test_102 (tgt := 106) rfl ?_
              refine zb_istore_n E dX12_test_106 rfl (by decide) (lv2 := [(1, .int 1), (2, .int rc1), (0, .ref (C.X.1 + 128))]) rfl ?_
              refine zb_goto E dX12_test_107 (tgt := 2) rfl ?_
              refine zb_sub [2, 0] rfl ?_
              exact ih 1 v_at_c5 v_bad_c5 v_badPlace_c5 v_base_c3 v_coded_c5 v_ended_c5 v_open_c5 v_waits_c5 v_codes_c5 v_wait_c5 h
        · have h := if_f h hc
          refine zb_aload_n E dX12_test_58 1 rfl rfl ?_
          refine zb_bipush E dX12_test_59 (v := 16) rfl ?_
          refine zb_aload_n E dX12_test_61 1 rfl rfl ?_
          refine zb_get E 128 (by decide) (zF_128 C.X) rfl zin12 19 (by decide) zw_1187 (v := .int v_at_c2) rfl dX12_test_62 ?_
          obtain ⟨v_bad_c6, v_badPlace_c6, v_open_c6, v_waits_c6, v_wait_c6, hc_65, h⟩ := bd5_s h
          refine zb_cVv E [.int 16, .int v_at_c2] 128 zy_X12_opens zw_1600 (by decide) (zF_128 _ _ _ _) rfl (c_X12_opens (va_up (va_up (va_up (va_up (va_up (va_up (va_up (va_up (I 128) 19 v_at_c2) 21 v_ended) 22 v_bad) 23 v_badPlace) 56 v_coded) 58 v_waits) 59 v_open) 60 v_base) rfl v_bad rfl v_badPlace rfl v_open rfl v_waits rfl v_wait rfl hc_65) (by decide) rfl rfl (by first | decide | simp [Value.category]) dX12_test_65 (cs2 := (0, 0)) rfl ?_
          refine zb_S (S2 := ((va_up (va_up (va_up I 128 (va_up (va_up (va_up (va_up (va_up (va_up (va_up (va_up (I 128) 19 v_at_c2) 21 v_ended) 22 v_bad_c6) 23 v_badPlace_c6) 56 v_coded) 58 v_waits_c6) 59 v_open_c6) 60 v_base)) 173 v_codes) 174 v_wait_c6), J, Rr, D)) (zS_eq ((zcgF ((zcgV ((zcgF ((zcgF ((zcgF (zn6 (by decide : (60 : Nat) ≠ 22) (by decide : (59 : Nat) ≠ 22) (by decide : (58 : Nat) ≠ 22) (by decide : (56 : Nat) ≠ 22) (by decide : (23 : Nat) ≠ 22))).trans (zn5 (by decide : (60 : Nat) ≠ 23) (by decide : (59 : Nat) ≠ 23) (by decide : (58 : Nat) ≠ 23) (by decide : (56 : Nat) ≠ 23)))).trans (zn3 (by decide : (60 : Nat) ≠ 58) (by decide : (59 : Nat) ≠ 58)))).trans (zn2 (by decide : (60 : Nat) ≠ 59)))).trans (zn3 (by decide : (174 : Nat) ≠ 128) (by decide : (173 : Nat) ≠ 128)))).trans zn1) rfl) ?_
          refine zb_aload_n E dX12_test_68 1 rfl rfl ?_
          refine zb_aload_n E dX12_test_69 1 rfl rfl ?_
          refine zb_get E 128 (by decide) (zF_128 C.X) rfl zin12 35 (by decide) zw_1203 (v := .ref (C.X.1 + 153)) rfl dX12_test_70 ?_
          obtain ⟨v_at_c7, v_bad_c7, v_badPlace_c7, v_ended_c7, hc_73, h⟩ := bd4_s h
          refine zb_cVv E [.ref (C.X.1 + 153)] 128 zy_X12_asks zw_1604 (by decide) (zF_128 _ _ _ _) rfl (c_X12_asks 153 (by decide) zF_153 (by decide) (va_up (va_up (va_up (va_up (va_up (va_up (va_up (va_up (I 128) 19 v_at_c2) 21 v_ended) 22 v_bad_c6) 23 v_badPlace_c6) 56 v_coded) 58 v_waits_c6) 59 v_open_c6) 60 v_base) rfl v_notWord (by exact e_v_notWord) v_end (by exact e_v_end) v_tape (by exact e_v_tape) v_at_c2 rfl v_bad_c6 rfl v_badPlace_c6 rfl v_ended rfl hc_73) (by decide) rfl rfl (by first | decide | simp [Value.category]) dX12_test_73 (cs2 := (0, 0)) rfl ?_
          refine zb_S (S2 := ((va_up (va_up (va_up I 128 (va_up (va_up (va_up (va_up (va_up (va_up (va_up (va_up (I 128) 19 v_at_c7) 21 v_ended_c7) 22 v_bad_c7) 23 v_badPlace_c7) 56 v_coded) 58 v_waits_c6) 59 v_open_c6) 60 v_base)) 173 v_codes) 174 v_wait_c6), J, Rr, D)) (zS_eq ((zcgV ((zcgF ((zcgF ((zcgF (zn8 (by decide : (60 : Nat) ≠ 19) (by decide : (59 : Nat) ≠ 19) (by decide : (58 : Nat) ≠ 19) (by decide : (56 : Nat) ≠ 19) (by decide : (23 : Nat) ≠ 19) (by decide : (22 : Nat) ≠ 19) (by decide : (21 : Nat) ≠ 19))).trans (zn7 (by decide : (60 : Nat) ≠ 21) (by decide : (59 : Nat) ≠ 21) (by decide : (58 : Nat) ≠ 21) (by decide : (56 : Nat) ≠ 21) (by decide : (23 : Nat) ≠ 21) (by decide : (22 : Nat) ≠ 21)))).trans (zn6 (by decide : (60 : Nat) ≠ 22) (by decide : (59 : Nat) ≠ 22) (by decide : (58 : Nat) ≠ 22) (by decide : (56 : Nat) ≠ 22) (by decide : (23 : Nat) ≠ 22)))).trans (zn5 (by decide : (60 : Nat) ≠ 23) (by decide : (59 : Nat) ≠ 23) (by decide : (58 : Nat) ≠ 23) (by decide : (56 : Nat) ≠ 23)))).trans (zn3 (by decide : (174 : Nat) ≠ 128) (by decide : (173 : Nat) ≠ 128))) rfl) ?_
          refine zb_goto E dX12_test_76 (tgt := 2) rfl ?_
          refine zb_sub [1, 2] rfl ?_
          exact ih x1 v_at_c7 v_bad_c7 v_badPlace_c7 v_base v_coded v_ended_c7 v_open_c6 v_waits_c6 v_codes v_wait_c6 h
      · have h := if_t h hc
        refine zb_aload_n E dX12_test_24 1 rfl rfl ?_
        refine zb_bipush E dX12_test_25 (v := 25) rfl ?_
        refine zb_aload_n E dX12_test_27 1 rfl rfl ?_
        refine zb_get E 128 (by decide) (zF_128 C.X) rfl zin12 19 (by decide) zw_1187 (v := .int v_at_c1) rfl dX12_test_28 ?_
        obtain ⟨v_bad_c8, v_badPlace_c8, v_open_c8, v_waits_c8, v_wait_c8, hc_31, h⟩ := bd5_s h
        refine zb_cVv E [.int 25, .int v_at_c1] 128 zy_X12_opens zw_1600 (by decide) (zF_128 _ _ _ _) rfl (c_X12_opens (va_up (va_up (va_up (va_up (va_up (va_up (va_up (va_up (I 128) 19 v_at_c1) 21 v_ended) 22 v_bad) 23 v_badPlace) 56 v_coded) 58 v_waits) 59 v_open) 60 v_base) rfl v_bad rfl v_badPlace rfl v_open rfl v_waits rfl v_wait rfl hc_31) (by decide) rfl rfl (by first | decide | simp [Value.category]) dX12_test_31 (cs2 := (0, 0)) rfl ?_
        refine zb_S (S2 := ((va_up (va_up (va_up I 128 (va_up (va_up (va_up (va_up (va_up (va_up (va_up (va_up (I 128) 19 v_at_c1) 21 v_ended) 22 v_bad_c8) 23 v_badPlace_c8) 56 v_coded) 58 v_waits_c8) 59 v_open_c8) 60 v_base)) 173 v_codes) 174 v_wait_c8), J, Rr, D)) (zS_eq ((zcgF ((zcgV ((zcgF ((zcgF ((zcgF (zn6 (by decide : (60 : Nat) ≠ 22) (by decide : (59 : Nat) ≠ 22) (by decide : (58 : Nat) ≠ 22) (by decide : (56 : Nat) ≠ 22) (by decide : (23 : Nat) ≠ 22))).trans (zn5 (by decide : (60 : Nat) ≠ 23) (by decide : (59 : Nat) ≠ 23) (by decide : (58 : Nat) ≠ 23) (by decide : (56 : Nat) ≠ 23)))).trans (zn3 (by decide : (60 : Nat) ≠ 58) (by decide : (59 : Nat) ≠ 58)))).trans (zn2 (by decide : (60 : Nat) ≠ 59)))).trans (zn3 (by decide : (174 : Nat) ≠ 128) (by decide : (173 : Nat) ≠ 128)))).trans zn1) rfl) ?_
        refine zb_aload_n E dX12_test_34 1 rfl rfl ?_
        refine zb_dup E dX12_test_35 rfl ?_
        refine zb_get E 128 (by decide) (zF_128 C.X) rfl zin12 19 (by decide) zw_1187 (v := .int v_at_c1) rfl dX12_test_36 ?_
        refine zb_iconst E dX12_test_39 (v := 1) rfl ?_
        refine zb_iadd E dX12_test_40 ?_
        refine zb_put E 128 (by decide) (zF_128 C.X) rfl zin12 19 (by decide) zw_1187 tyX12 tyX12_ok nmX12 rfl rfl rfl (I2 := (va_up (va_up (va_up I 128 (va_up (va_up (va_up (va_up (va_up (va_up (va_up (va_up (I 128) 19 (v_at_c1 + 1)) 21 v_ended) 22 v_bad_c8) 23 v_badPlace_c8) 56 v_coded) 58 v_waits_c8) 59 v_open_c8) 60 v_base)) 173 v_codes) 174 v_wait_c8)) (J2 := J) ((zset12_19 C.X (va_up (va_up (va_up (va_up (va_up (va_up (va_up (va_up (I 128) 19 v_at_c1) 21 v_ended) 22 v_bad_c8) 23 v_badPlace_c8) 56 v_coded) 58 v_waits_c8) 59 v_open_c8) 60 v_base) (J 128) (v_at_c1 + 1)).trans (congrArg (fun g => zf12 C.X g (J 128)) (zn8 (by decide : (60 : Nat) ≠ 19) (by decide : (59 : Nat) ≠ 19) (by decide : (58 : Nat) ≠ 19) (by decide : (56 : Nat) ≠ 19) (by decide : (23 : Nat) ≠ 19) (by decide : (22 : Nat) ≠ 19) (by decide : (21 : Nat) ≠ 19)))) (by rw [zflen12]; decide) (fun j hj => ⟨zup_cg (zup_cg ((zup_n hj).trans (zup_n hj).symm)), rfl⟩) dX12_test_41 ?_
        refine zb_goto E dX12_test_44 (tgt := 2) rfl ?_
        refine zb_sub [1, 2] rfl ?_
        exact ih x1 (v_at_c1 + 1) v_bad_c8 v_badPlace_c8 v_base v_coded v_ended v_open_c8 v_waits_c8 v_codes v_wait_c8 h
theorem c_X12_test_b110 {C : zC} {I : Nat → Nat → Int32} {J : Nat → Nat → Int64} {Rr : Nat → Nat → Option Nat} {D : zD} (N : Nat) (v_end : Int32) (e_v_end : I 128 20 = v_end) (v_allWord : (Nat → Int32)) (e_v_allWord : I 154 = v_allWord) (v_andWord : (Nat → Int32)) (e_v_andWord : I 152 = v_andWord) (v_debtWord : (Nat → Int32)) (e_v_debtWord : I 161 = v_debtWord) (v_maxWord : (Nat → Int32)) (e_v_maxWord : I 164 = v_maxWord) (v_minWord : (Nat → Int32)) (e_v_minWord : I 163 = v_minWord) (v_notWord : (Nat → Int32)) (e_v_notWord : I 153 = v_notWord) (v_orWord : (Nat → Int32)) (e_v_orWord : I 151 = v_orWord) (v_paidWord : (Nat → Int32)) (e_v_paidWord : I 162 = v_paidWord) (v_penceWord : (Nat → Int32)) (e_v_penceWord : I 156 = v_penceWord) (v_poundsWord : (Nat → Int32)) (e_v_poundsWord : I 158 = v_poundsWord) (v_shillingsWord : (Nat → Int32)) (e_v_shillingsWord : I 157 = v_shillingsWord) (v_shireWord : (Nat → Int32)) (e_v_shireWord : I 155 = v_shireWord) (v_tape : (Nat → Int32)) (e_v_tape : I 143 = v_tape) (v_termWord : (Nat → Int32)) (e_v_termWord : I 159 = v_termWord) (v_yearWord : (Nat → Int32)) (e_v_yearWord : I 160 = v_yearWord) (y_v_at : Int32) (y_v_bad : Int32) (y_v_badPlace : Int32) (y_v_base : Int32) (y_v_coded : Int32) (y_v_ended : Int32) (y_v_open : Int32) (y_v_waits : Int32) (y_v_codes : (Nat → Int32)) (y_v_wait : (Nat → Int32)) (E : zE C RX12 cX12_test 3 none ({ frames := 7, cells := 0, slots := 0, locals := 153 } : Room)) (hQ : C.Q = zQv C ({ frames := 7, cells := 0, slots := 0, locals := 153 } : Room) ((va_up (va_up (va_up I 128 (va_up (va_up (va_up (va_up (va_up (va_up (va_up (va_up (I 128) 19 y_v_at) 21 y_v_ended) 22 y_v_bad) 23 y_v_badPlace) 56 y_v_coded) 58 y_v_waits) 59 y_v_open) 60 y_v_base)) 173 y_v_codes) 174 y_v_wait), J, Rr, D)) (v_at : Int32) (v_bad : Int32) (v_badPlace : Int32) (v_base : Int32) (v_ended : Int32) (v_open : Int32) (v_wait : (Nat → Int32))  : ∀ (n9 : Nat) (v_coded : Int32) (v_waits : Int32) (v_codes : (Nat → Int32)), pM_test_b110 N v_end v_allWord v_andWord v_debtWord v_maxWord v_minWord v_notWord v_orWord v_paidWord v_penceWord v_poundsWord v_shillingsWord v_shireWord v_tape v_termWord v_yearWord v_at v_bad v_badPlace v_base v_ended v_open v_wait n9 v_coded v_waits v_codes = some (y_v_at, y_v_bad, y_v_badPlace, y_v_base, y_v_coded, y_v_ended, y_v_open, y_v_waits, y_v_codes, y_v_wait) → zB C (0, 0) 110 [(0, .ref (C.X.1 + 128))] [] ((va_up (va_up (va_up I 128 (va_up (va_up (va_up (va_up (va_up (va_up (va_up (va_up (I 128) 19 v_at) 21 v_ended) 22 v_bad) 23 v_badPlace) 56 v_coded) 58 v_waits) 59 v_open) 60 v_base)) 173 v_codes) 174 v_wait), J, Rr, D) := by
  refine zlp3_ind (P := fun (v_coded : Int32) (v_waits : Int32) (v_codes : (Nat → Int32)) => zB C (0, 0) 110 [(0, .ref (C.X.1 + 128))] [] ((va_up (va_up (va_up I 128 (va_up (va_up (va_up (va_up (va_up (va_up (va_up (va_up (I 128) 19 v_at) 21 v_ended) 22 v_bad) 23 v_badPlace) 56 v_coded) 58 v_waits) 59 v_open) 60 v_base)) 173 v_codes) 174 v_wait), J, Rr, D)) (fun self ih => ?_)
  intro v_coded v_waits v_codes h
  refine zb_aload_n E dX12_test_110 0 rfl rfl ?_
  refine zb_get E 128 (by decide) (zF_128 C.X) rfl zin12 22 (by decide) zw_1190 (v := .int v_bad) rfl dX12_test_111 ?_
  refine zb_if_ne E dX12_test_114 (tgt := 131) rfl (fun hc => ?_) (fun hc => ?_)
  · have h := if_f h hc
    obtain ⟨rfl, rfl, rfl, rfl, rfl, rfl, rfl, rfl, rfl, rfl⟩ := zinj10 h
    exact zb_vret E hQ rfl ⟨Nat.zero_le _, Nat.zero_le _⟩ dX12_test_131
  · have h := if_t h hc
    refine zb_aload_n E dX12_test_117 0 rfl rfl ?_
    refine zb_get E 128 (by decide) (zF_128 C.X) rfl zin12 58 (by decide) zw_1226 (v := .int v_waits) rfl dX12_test_118 ?_
    refine zb_if_le E dX12_test_121 (tgt := 131) rfl (fun hc => ?_) (fun hc => ?_)
    · have h := if_t h hc
      obtain ⟨rfl, rfl, rfl, rfl, rfl, rfl, rfl, rfl, rfl, rfl⟩ := zinj10 h
      exact zb_vret E hQ rfl ⟨Nat.zero_le _, Nat.zero_le _⟩ dX12_test_131
    · have h := if_f h hc
      refine zb_aload_n E dX12_test_124 0 rfl rfl ?_
      obtain ⟨v_coded_c9, v_waits_c9, v_codes_c9, hc_125, h⟩ := bd3_s h
      refine zb_cVv E [] 128 zy_X12_drops zw_1648 (by decide) (zF_128 _ _ _ _) rfl (c_X12_drops (va_up (va_up (va_up (va_up (va_up (va_up (va_up (va_up (I 128) 19 v_at) 21 v_ended) 22 v_bad) 23 v_badPlace) 56 v_coded) 58 v_waits) 59 v_open) 60 v_base) rfl v_wait rfl v_coded rfl v_waits rfl v_codes rfl hc_125) (by decide) rfl rfl (by first | decide | simp [Value.category]) dX12_test_125 (cs2 := (0, 0)) rfl ?_
      refine zb_S (S2 := ((va_up (va_up (va_up I 128 (va_up (va_up (va_up (va_up (va_up (va_up (va_up (va_up (I 128) 19 v_at) 21 v_ended) 22 v_bad) 23 v_badPlace) 56 v_coded_c9) 58 v_waits_c9) 59 v_open) 60 v_base)) 173 v_codes_c9) 174 v_wait), J, Rr, D)) (zS_eq ((zcgF ((zcgV ((zcgF (zn4 (by decide : (60 : Nat) ≠ 56) (by decide : (59 : Nat) ≠ 56) (by decide : (58 : Nat) ≠ 56))).trans (zn3 (by decide : (60 : Nat) ≠ 58) (by decide : (59 : Nat) ≠ 58)))).trans (zn3 (by decide : (174 : Nat) ≠ 128) (by decide : (173 : Nat) ≠ 128)))).trans (zn2 (by decide : (174 : Nat) ≠ 173))) rfl) ?_
      refine zb_goto E dX12_test_128 (tgt := 110) rfl ?_
      exact ih v_coded_c9 v_waits_c9 v_codes_c9 h
theorem c_X12_test_0 {C : zC} {I : Nat → Nat → Int32} {J : Nat → Nat → Int64} {Rr : Nat → Nat → Option Nat} {D : zD} (N : Nat) (v_end : Int32) (e_v_end : I 128 20 = v_end) (v_allWord : (Nat → Int32)) (e_v_allWord : I 154 = v_allWord) (v_andWord : (Nat → Int32)) (e_v_andWord : I 152 = v_andWord) (v_debtWord : (Nat → Int32)) (e_v_debtWord : I 161 = v_debtWord) (v_maxWord : (Nat → Int32)) (e_v_maxWord : I 164 = v_maxWord) (v_minWord : (Nat → Int32)) (e_v_minWord : I 163 = v_minWord) (v_notWord : (Nat → Int32)) (e_v_notWord : I 153 = v_notWord) (v_orWord : (Nat → Int32)) (e_v_orWord : I 151 = v_orWord) (v_paidWord : (Nat → Int32)) (e_v_paidWord : I 162 = v_paidWord) (v_penceWord : (Nat → Int32)) (e_v_penceWord : I 156 = v_penceWord) (v_poundsWord : (Nat → Int32)) (e_v_poundsWord : I 158 = v_poundsWord) (v_shillingsWord : (Nat → Int32)) (e_v_shillingsWord : I 157 = v_shillingsWord) (v_shireWord : (Nat → Int32)) (e_v_shireWord : I 155 = v_shireWord) (v_tape : (Nat → Int32)) (e_v_tape : I 143 = v_tape) (v_termWord : (Nat → Int32)) (e_v_termWord : I 159 = v_termWord) (v_yearWord : (Nat → Int32)) (e_v_yearWord : I 160 = v_yearWord) (y_v_at : Int32) (y_v_bad : Int32) (y_v_badPlace : Int32) (y_v_base : Int32) (y_v_coded : Int32) (y_v_ended : Int32) (y_v_open : Int32) (y_v_waits : Int32) (y_v_codes : (Nat → Int32)) (y_v_wait : (Nat → Int32)) (E : zE C RX12 cX12_test 3 none ({ frames := 7, cells := 0, slots := 0, locals := 153 } : Room)) (hQ : C.Q = zQv C ({ frames := 7, cells := 0, slots := 0, locals := 153 } : Room) ((va_up (va_up (va_up I 128 (va_up (va_up (va_up (va_up (va_up (va_up (va_up (va_up (I 128) 19 y_v_at) 21 y_v_ended) 22 y_v_bad) 23 y_v_badPlace) 56 y_v_coded) 58 y_v_waits) 59 y_v_open) 60 y_v_base)) 173 y_v_codes) 174 y_v_wait), J, Rr, D)) (v_at : Int32) (v_bad : Int32) (v_badPlace : Int32) (v_base : Int32) (v_coded : Int32) (v_ended : Int32) (v_open : Int32) (v_waits : Int32) (v_codes : (Nat → Int32)) (v_wait : (Nat → Int32)) (h : pM_test N v_at v_bad v_badPlace v_base v_coded v_end v_ended v_open v_waits v_allWord v_andWord v_codes v_debtWord v_maxWord v_minWord v_notWord v_orWord v_paidWord v_penceWord v_poundsWord v_shillingsWord v_shireWord v_tape v_termWord v_wait v_yearWord = some (y_v_at, y_v_bad, y_v_badPlace, y_v_base, y_v_coded, y_v_ended, y_v_open, y_v_waits, y_v_codes, y_v_wait)) : zB C (0, 0) 0 [(0, .ref (C.X.1 + 128))] [] ((va_up (va_up (va_up I 128 (va_up (va_up (va_up (va_up (va_up (va_up (va_up (va_up (I 128) 19 v_at) 21 v_ended) 22 v_bad) 23 v_badPlace) 56 v_coded) 58 v_waits) 59 v_open) 60 v_base)) 173 v_codes) 174 v_wait), J, Rr, D) := by
  refine zb_iconst E dX12_test_0 (v := 1) rfl ?_
  refine zb_istore_n E dX12_test_1 rfl (by decide) (lv2 := [(1, .int 1), (0, .ref (C.X.1 + 128))]) rfl ?_
  refine zb_sub [1, 0] rfl ?_
  exact c_X12_test_b2 N v_end e_v_end v_allWord e_v_allWord v_andWord e_v_andWord v_debtWord e_v_debtWord v_maxWord e_v_maxWord v_minWord e_v_minWord v_notWord e_v_notWord v_orWord e_v_orWord v_paidWord e_v_paidWord v_penceWord e_v_penceWord v_poundsWord e_v_poundsWord v_shillingsWord e_v_shillingsWord v_shireWord e_v_shireWord v_tape e_v_tape v_termWord e_v_termWord v_yearWord e_v_yearWord y_v_at y_v_bad y_v_badPlace y_v_base y_v_coded y_v_ended y_v_open y_v_waits y_v_codes y_v_wait E hQ _ (fun v_at_z1 v_bad_z2 v_badPlace_z3 v_base_z4 v_coded_z5 v_ended_z6 v_open_z7 v_waits_z8 v_codes_z9 v_wait_z10 h => c_X12_test_b110 N v_end e_v_end v_allWord e_v_allWord v_andWord e_v_andWord v_debtWord e_v_debtWord v_maxWord e_v_maxWord v_minWord e_v_minWord v_notWord e_v_notWord v_orWord e_v_orWord v_paidWord e_v_paidWord v_penceWord e_v_penceWord v_poundsWord e_v_poundsWord v_shillingsWord e_v_shillingsWord v_shireWord e_v_shireWord v_tape e_v_tape v_termWord e_v_termWord v_yearWord e_v_yearWord y_v_at y_v_bad y_v_badPlace y_v_base y_v_coded y_v_ended y_v_open y_v_waits y_v_codes y_v_wait E hQ v_at_z1 v_bad_z2 v_badPlace_z3 v_base_z4 v_ended_z6 v_open_z7 v_wait_z10 _ v_coded_z5 v_waits_z8 v_codes_z9 h) _ 1 v_at v_bad v_badPlace v_base v_coded v_ended v_open v_waits v_codes v_wait h
theorem c_X12_test {l : Launch} {X : zX} {I : Nat → Nat → Int32} {J : Nat → Nat → Int64} {Rr : Nat → Nat → Option Nat} {D : zD} {N : Nat} (oI128 : Nat → Int32) (eoI128 : I 128 = oI128) (v_end : Int32) (e_v_end : I 128 20 = v_end) (v_allWord : (Nat → Int32)) (e_v_allWord : I 154 = v_allWord) (v_andWord : (Nat → Int32)) (e_v_andWord : I 152 = v_andWord) (v_debtWord : (Nat → Int32)) (e_v_debtWord : I 161 = v_debtWord) (v_maxWord : (Nat → Int32)) (e_v_maxWord : I 164 = v_maxWord) (v_minWord : (Nat → Int32)) (e_v_minWord : I 163 = v_minWord) (v_notWord : (Nat → Int32)) (e_v_notWord : I 153 = v_notWord) (v_orWord : (Nat → Int32)) (e_v_orWord : I 151 = v_orWord) (v_paidWord : (Nat → Int32)) (e_v_paidWord : I 162 = v_paidWord) (v_penceWord : (Nat → Int32)) (e_v_penceWord : I 156 = v_penceWord) (v_poundsWord : (Nat → Int32)) (e_v_poundsWord : I 158 = v_poundsWord) (v_shillingsWord : (Nat → Int32)) (e_v_shillingsWord : I 157 = v_shillingsWord) (v_shireWord : (Nat → Int32)) (e_v_shireWord : I 155 = v_shireWord) (v_tape : (Nat → Int32)) (e_v_tape : I 143 = v_tape) (v_termWord : (Nat → Int32)) (e_v_termWord : I 159 = v_termWord) (v_yearWord : (Nat → Int32)) (e_v_yearWord : I 160 = v_yearWord) (v_at : Int32) (e_v_at : I 128 19 = v_at) (v_bad : Int32) (e_v_bad : I 128 22 = v_bad) (v_badPlace : Int32) (e_v_badPlace : I 128 23 = v_badPlace) (v_base : Int32) (e_v_base : I 128 60 = v_base) (v_coded : Int32) (e_v_coded : I 128 56 = v_coded) (v_ended : Int32) (e_v_ended : I 128 21 = v_ended) (v_open : Int32) (e_v_open : I 128 59 = v_open) (v_waits : Int32) (e_v_waits : I 128 58 = v_waits) (v_codes : (Nat → Int32)) (e_v_codes : I 173 = v_codes) (v_wait : (Nat → Int32)) (e_v_wait : I 174 = v_wait) {y_v_at : Int32} {y_v_bad : Int32} {y_v_badPlace : Int32} {y_v_base : Int32} {y_v_coded : Int32} {y_v_ended : Int32} {y_v_open : Int32} {y_v_waits : Int32} {y_v_codes : (Nat → Int32)} {y_v_wait : (Nat → Int32)} (h : pM_test N v_at v_bad v_badPlace v_base v_coded v_end v_ended v_open v_waits v_allWord v_andWord v_codes v_debtWord v_maxWord v_minWord v_notWord v_orWord v_paidWord v_penceWord v_poundsWord v_shillingsWord v_shireWord v_tape v_termWord v_wait v_yearWord = some (y_v_at, y_v_bad, y_v_badPlace, y_v_base, y_v_coded, y_v_ended, y_v_open, y_v_waits, y_v_codes, y_v_wait)) : zMv l yX12_test cX12_test 3 none ({ frames := 7, cells := 0, slots := 0, locals := 153 } : Room) X [.ref (X.1 + 128)] (I, J, Rr, D) ((va_up (va_up (va_up I 128 (va_up (va_up (va_up (va_up (va_up (va_up (va_up (va_up oI128 19 y_v_at) 21 y_v_ended) 22 y_v_bad) 23 y_v_badPlace) 56 y_v_coded) 58 y_v_waits) 59 y_v_open) 60 y_v_base)) 173 y_v_codes) 174 y_v_wait), J, Rr, D) := by
  subst eoI128
  refine zMv.of (by decide) (Nat.le_of_ble_eq_true rfl) (fun C E hl hX hQ => ?_)
  subst hl
  subst hX
  have eI0 : (va_up (va_up (va_up I 128 (va_up (va_up (va_up (va_up (va_up (va_up (va_up (va_up (I 128) 19 v_at) 21 v_ended) 22 v_bad) 23 v_badPlace) 56 v_coded) 58 v_waits) 59 v_open) 60 v_base)) 173 v_codes) 174 v_wait) = I := by rw [zup_idE e_v_at, zup_idE e_v_ended, zup_idE e_v_bad, zup_idE e_v_badPlace, zup_idE e_v_coded, zup_idE e_v_waits, zup_idE e_v_open, zup_idE e_v_base, zup_id, zup_idE e_v_codes, zup_idE e_v_wait]
  have eJ0 : J = J := rfl
  refine zb_S (S2 := ((va_up (va_up (va_up I 128 (va_up (va_up (va_up (va_up (va_up (va_up (va_up (va_up (I 128) 19 v_at) 21 v_ended) 22 v_bad) 23 v_badPlace) 56 v_coded) 58 v_waits) 59 v_open) 60 v_base)) 173 v_codes) 174 v_wait), J, Rr, D)) (zS_eq eI0.symm eJ0.symm) ?_
  exact c_X12_test_0 N v_end e_v_end v_allWord e_v_allWord v_andWord e_v_andWord v_debtWord e_v_debtWord v_maxWord e_v_maxWord v_minWord e_v_minWord v_notWord e_v_notWord v_orWord e_v_orWord v_paidWord e_v_paidWord v_penceWord e_v_penceWord v_poundsWord e_v_poundsWord v_shillingsWord e_v_shillingsWord v_shireWord e_v_shireWord v_tape e_v_tape v_termWord e_v_termWord v_yearWord e_v_yearWord y_v_at y_v_bad y_v_badPlace y_v_base y_v_coded y_v_ended y_v_open y_v_waits y_v_codes y_v_wait E hQ v_at v_bad v_badPlace v_base v_coded v_ended v_open v_waits v_codes v_wait h
-- ChequeredClothModel.statement
theorem dX12_statement_0 : decode cX12_statement 0 = .ok (.iconst 0, 1) := by decide +kernel
theorem dX12_statement_1 : decode cX12_statement 1 = .ok (.aload_n 0, 1) := by decide +kernel
theorem dX12_statement_2 : decode cX12_statement 2 = .ok (.getfield 133, 3) := by decide +kernel
theorem dX12_statement_5 : decode cX12_statement 5 = .ok (.iconst 0, 1) := by decide +kernel
theorem dX12_statement_6 : decode cX12_statement 6 = .ok (.iaload, 1) := by decide +kernel
theorem dX12_statement_7 : decode cX12_statement 7 = .ok (.iadd, 1) := by decide +kernel
theorem dX12_statement_8 : decode cX12_statement 8 = .ok (.istore_n 1, 1) := by decide +kernel
theorem dX12_statement_9 : decode cX12_statement 9 = .ok (.aload_n 0, 1) := by decide +kernel
theorem dX12_statement_10 : decode cX12_statement 10 = .ok (.invokevirtual 287, 3) := by decide +kernel
theorem dX12_statement_13 : decode cX12_statement 13 = .ok (.pop, 1) := by decide +kernel
theorem dX12_statement_14 : decode cX12_statement 14 = .ok (.aload_n 0, 1) := by decide +kernel
theorem dX12_statement_15 : decode cX12_statement 15 = .ok (.getfield 133, 3) := by decide +kernel
theorem dX12_statement_18 : decode cX12_statement 18 = .ok (.iconst 0, 1) := by decide +kernel
theorem dX12_statement_19 : decode cX12_statement 19 = .ok (.iaload, 1) := by decide +kernel
theorem dX12_statement_20 : decode cX12_statement 20 = .ok (.bipush 24, 2) := by decide +kernel
theorem dX12_statement_22 : decode cX12_statement 22 = .ok (.if_icmp .ne 13, 3) := by decide +kernel
theorem dX12_statement_25 : decode cX12_statement 25 = .ok (.aload_n 0, 1) := by decide +kernel
theorem dX12_statement_26 : decode cX12_statement 26 = .ok (.iconst 4, 1) := by decide +kernel
theorem dX12_statement_27 : decode cX12_statement 27 = .ok (.aload_n 0, 1) := by decide +kernel
theorem dX12_statement_28 : decode cX12_statement 28 = .ok (.getfield 281, 3) := by decide +kernel
theorem dX12_statement_31 : decode cX12_statement 31 = .ok (.invokevirtual 304, 3) := by decide +kernel
theorem dX12_statement_34 : decode cX12_statement 34 = .ok (.return_, 1) := by decide +kernel
theorem dX12_statement_35 : decode cX12_statement 35 = .ok (.aload_n 0, 1) := by decide +kernel
theorem dX12_statement_36 : decode cX12_statement 36 = .ok (.getfield 139, 3) := by decide +kernel
theorem dX12_statement_39 : decode cX12_statement 39 = .ok (.iload_n 1, 1) := by decide +kernel
theorem dX12_statement_40 : decode cX12_statement 40 = .ok (.iconst 0, 1) := by decide +kernel
theorem dX12_statement_41 : decode cX12_statement 41 = .ok (.bastore, 1) := by decide +kernel
theorem dX12_statement_42 : decode cX12_statement 42 = .ok (.aload_n 0, 1) := by decide +kernel
theorem dX12_statement_43 : decode cX12_statement 43 = .ok (.getfield 143, 3) := by decide +kernel
theorem dX12_statement_46 : decode cX12_statement 46 = .ok (.iload_n 1, 1) := by decide +kernel
theorem dX12_statement_47 : decode cX12_statement 47 = .ok (.iconst 0, 1) := by decide +kernel
theorem dX12_statement_48 : decode cX12_statement 48 = .ok (.iastore, 1) := by decide +kernel
theorem dX12_statement_49 : decode cX12_statement 49 = .ok (.aload_n 0, 1) := by decide +kernel
theorem dX12_statement_50 : decode cX12_statement 50 = .ok (.getfield 146, 3) := by decide +kernel
theorem dX12_statement_53 : decode cX12_statement 53 = .ok (.iload_n 1, 1) := by decide +kernel
theorem dX12_statement_54 : decode cX12_statement 54 = .ok (.iconst 0, 1) := by decide +kernel
theorem dX12_statement_55 : decode cX12_statement 55 = .ok (.iastore, 1) := by decide +kernel
theorem dX12_statement_56 : decode cX12_statement 56 = .ok (.aload_n 0, 1) := by decide +kernel
theorem dX12_statement_57 : decode cX12_statement 57 = .ok (.getfield 149, 3) := by decide +kernel
theorem dX12_statement_60 : decode cX12_statement 60 = .ok (.iload_n 1, 1) := by decide +kernel
theorem dX12_statement_61 : decode cX12_statement 61 = .ok (.aload_n 0, 1) := by decide +kernel
theorem dX12_statement_62 : decode cX12_statement 62 = .ok (.getfield 314, 3) := by decide +kernel
theorem dX12_statement_65 : decode cX12_statement 65 = .ok (.iastore, 1) := by decide +kernel
theorem dX12_statement_66 : decode cX12_statement 66 = .ok (.aload_n 0, 1) := by decide +kernel
theorem dX12_statement_67 : decode cX12_statement 67 = .ok (.iconst 0, 1) := by decide +kernel
theorem dX12_statement_68 : decode cX12_statement 68 = .ok (.putfield 320, 3) := by decide +kernel
theorem dX12_statement_71 : decode cX12_statement 71 = .ok (.aload_n 0, 1) := by decide +kernel
theorem dX12_statement_72 : decode cX12_statement 72 = .ok (.iconst 0, 1) := by decide +kernel
theorem dX12_statement_73 : decode cX12_statement 73 = .ok (.putfield 317, 3) := by decide +kernel
theorem dX12_statement_76 : decode cX12_statement 76 = .ok (.aload_n 0, 1) := by decide +kernel
theorem dX12_statement_77 : decode cX12_statement 77 = .ok (.iconst 0, 1) := by decide +kernel
theorem dX12_statement_78 : decode cX12_statement 78 = .ok (.putfield 326, 3) := by decide +kernel
theorem dX12_statement_81 : decode cX12_statement 81 = .ok (.aload_n 0, 1) := by decide +kernel
theorem dX12_statement_82 : decode cX12_statement 82 = .ok (.aload_n 0, 1) := by decide +kernel
theorem dX12_statement_83 : decode cX12_statement 83 = .ok (.getfield 69, 3) := by decide +kernel
theorem dX12_statement_86 : decode cX12_statement 86 = .ok (.invokevirtual 301, 3) := by decide +kernel
theorem dX12_statement_89 : decode cX12_statement 89 = .ok (.ifCond .eq 31, 3) := by decide +kernel
theorem dX12_statement_92 : decode cX12_statement 92 = .ok (.aload_n 0, 1) := by decide +kernel
theorem dX12_statement_93 : decode cX12_statement 93 = .ok (.getfield 136, 3) := by decide +kernel
theorem dX12_statement_96 : decode cX12_statement 96 = .ok (.iload_n 1, 1) := by decide +kernel
theorem dX12_statement_97 : decode cX12_statement 97 = .ok (.iconst 0, 1) := by decide +kernel
theorem dX12_statement_98 : decode cX12_statement 98 = .ok (.iastore, 1) := by decide +kernel
theorem dX12_statement_99 : decode cX12_statement 99 = .ok (.aload_n 0, 1) := by decide +kernel
theorem dX12_statement_100 : decode cX12_statement 100 = .ok (.invokevirtual 368, 3) := by decide +kernel
theorem dX12_statement_103 : decode cX12_statement 103 = .ok (.aload_n 0, 1) := by decide +kernel
theorem dX12_statement_104 : decode cX12_statement 104 = .ok (.getfield 139, 3) := by decide +kernel
theorem dX12_statement_107 : decode cX12_statement 107 = .ok (.iload_n 1, 1) := by decide +kernel
theorem dX12_statement_108 : decode cX12_statement 108 = .ok (.aload_n 0, 1) := by decide +kernel
theorem dX12_statement_109 : decode cX12_statement 109 = .ok (.aload_n 0, 1) := by decide +kernel
theorem dX12_statement_110 : decode cX12_statement 110 = .ok (.getfield 73, 3) := by decide +kernel
theorem dX12_statement_113 : decode cX12_statement 113 = .ok (.invokevirtual 301, 3) := by decide +kernel
theorem dX12_statement_116 : decode cX12_statement 116 = .ok (.bastore, 1) := by decide +kernel
theorem dX12_statement_117 : decode cX12_statement 117 = .ok (.goto 133, 3) := by decide +kernel
theorem dX12_statement_120 : decode cX12_statement 120 = .ok (.aload_n 0, 1) := by decide +kernel
theorem dX12_statement_121 : decode cX12_statement 121 = .ok (.aload_n 0, 1) := by decide +kernel
theorem dX12_statement_122 : decode cX12_statement 122 = .ok (.getfield 76, 3) := by decide +kernel
theorem dX12_statement_125 : decode cX12_statement 125 = .ok (.invokevirtual 301, 3) := by decide +kernel
theorem dX12_statement_128 : decode cX12_statement 128 = .ok (.ifCond .eq 17, 3) := by decide +kernel
theorem dX12_statement_131 : decode cX12_statement 131 = .ok (.aload_n 0, 1) := by decide +kernel
theorem dX12_statement_132 : decode cX12_statement 132 = .ok (.getfield 136, 3) := by decide +kernel
theorem dX12_statement_135 : decode cX12_statement 135 = .ok (.iload_n 1, 1) := by decide +kernel
theorem dX12_statement_136 : decode cX12_statement 136 = .ok (.iconst 1, 1) := by decide +kernel
theorem dX12_statement_137 : decode cX12_statement 137 = .ok (.iastore, 1) := by decide +kernel
theorem dX12_statement_138 : decode cX12_statement 138 = .ok (.aload_n 0, 1) := by decide +kernel
theorem dX12_statement_139 : decode cX12_statement 139 = .ok (.invokevirtual 368, 3) := by decide +kernel
theorem dX12_statement_142 : decode cX12_statement 142 = .ok (.goto 108, 3) := by decide +kernel
theorem dX12_statement_145 : decode cX12_statement 145 = .ok (.aload_n 0, 1) := by decide +kernel
theorem dX12_statement_146 : decode cX12_statement 146 = .ok (.aload_n 0, 1) := by decide +kernel
theorem dX12_statement_147 : decode cX12_statement 147 = .ok (.getfield 79, 3) := by decide +kernel
theorem dX12_statement_150 : decode cX12_statement 150 = .ok (.invokevirtual 301, 3) := by decide +kernel
theorem dX12_statement_153 : decode cX12_statement 153 = .ok (.ifCond .eq 54, 3) := by decide +kernel
theorem dX12_statement_156 : decode cX12_statement 156 = .ok (.aload_n 0, 1) := by decide +kernel
theorem dX12_statement_157 : decode cX12_statement 157 = .ok (.getfield 136, 3) := by decide +kernel
theorem dX12_statement_160 : decode cX12_statement 160 = .ok (.iload_n 1, 1) := by decide +kernel
theorem dX12_statement_161 : decode cX12_statement 161 = .ok (.iconst 2, 1) := by decide +kernel
theorem dX12_statement_162 : decode cX12_statement 162 = .ok (.iastore, 1) := by decide +kernel
theorem dX12_statement_163 : decode cX12_statement 163 = .ok (.aload_n 0, 1) := by decide +kernel
theorem dX12_statement_164 : decode cX12_statement 164 = .ok (.getfield 143, 3) := by decide +kernel
theorem dX12_statement_167 : decode cX12_statement 167 = .ok (.iload_n 1, 1) := by decide +kernel
theorem dX12_statement_168 : decode cX12_statement 168 = .ok (.aload_n 0, 1) := by decide +kernel
theorem dX12_statement_169 : decode cX12_statement 169 = .ok (.iconst 1, 1) := by decide +kernel
theorem dX12_statement_170 : decode cX12_statement 170 = .ok (.sipush 999, 3) := by decide +kernel
theorem dX12_statement_173 : decode cX12_statement 173 = .ok (.invokevirtual 349, 3) := by decide +kernel
theorem dX12_statement_176 : decode cX12_statement 176 = .ok (.iastore, 1) := by decide +kernel
theorem dX12_statement_177 : decode cX12_statement 177 = .ok (.aload_n 0, 1) := by decide +kernel
theorem dX12_statement_178 : decode cX12_statement 178 = .ok (.aload_n 0, 1) := by decide +kernel
theorem dX12_statement_179 : decode cX12_statement 179 = .ok (.getfield 85, 3) := by decide +kernel
theorem dX12_statement_182 : decode cX12_statement 182 = .ok (.invokevirtual 338, 3) := by decide +kernel
theorem dX12_statement_185 : decode cX12_statement 185 = .ok (.aload_n 0, 1) := by decide +kernel
theorem dX12_statement_186 : decode cX12_statement 186 = .ok (.getfield 146, 3) := by decide +kernel
theorem dX12_statement_189 : decode cX12_statement 189 = .ok (.iload_n 1, 1) := by decide +kernel
theorem dX12_statement_190 : decode cX12_statement 190 = .ok (.aload_n 0, 1) := by decide +kernel
theorem dX12_statement_191 : decode cX12_statement 191 = .ok (.aload_n 0, 1) := by decide +kernel
theorem dX12_statement_192 : decode cX12_statement 192 = .ok (.getfield 143, 3) := by decide +kernel
theorem dX12_statement_195 : decode cX12_statement 195 = .ok (.iload_n 1, 1) := by decide +kernel
theorem dX12_statement_196 : decode cX12_statement 196 = .ok (.iaload, 1) := by decide +kernel
theorem dX12_statement_197 : decode cX12_statement 197 = .ok (.sipush 999, 3) := by decide +kernel
theorem dX12_statement_200 : decode cX12_statement 200 = .ok (.invokevirtual 349, 3) := by decide +kernel
theorem dX12_statement_203 : decode cX12_statement 203 = .ok (.iastore, 1) := by decide +kernel
theorem dX12_statement_204 : decode cX12_statement 204 = .ok (.goto 46, 3) := by decide +kernel
theorem dX12_statement_207 : decode cX12_statement 207 = .ok (.aload_n 0, 1) := by decide +kernel
theorem dX12_statement_208 : decode cX12_statement 208 = .ok (.aload_n 0, 1) := by decide +kernel
theorem dX12_statement_209 : decode cX12_statement 209 = .ok (.getfield 82, 3) := by decide +kernel
theorem dX12_statement_212 : decode cX12_statement 212 = .ok (.invokevirtual 301, 3) := by decide +kernel
theorem dX12_statement_215 : decode cX12_statement 215 = .ok (.ifCond .eq 26, 3) := by decide +kernel
theorem dX12_statement_218 : decode cX12_statement 218 = .ok (.aload_n 0, 1) := by decide +kernel
theorem dX12_statement_219 : decode cX12_statement 219 = .ok (.getfield 136, 3) := by decide +kernel
theorem dX12_statement_222 : decode cX12_statement 222 = .ok (.iload_n 1, 1) := by decide +kernel
theorem dX12_statement_223 : decode cX12_statement 223 = .ok (.iconst 3, 1) := by decide +kernel
theorem dX12_statement_224 : decode cX12_statement 224 = .ok (.iastore, 1) := by decide +kernel
theorem dX12_statement_225 : decode cX12_statement 225 = .ok (.aload_n 0, 1) := by decide +kernel
theorem dX12_statement_226 : decode cX12_statement 226 = .ok (.getfield 143, 3) := by decide +kernel
theorem dX12_statement_229 : decode cX12_statement 229 = .ok (.iload_n 1, 1) := by decide +kernel
theorem dX12_statement_230 : decode cX12_statement 230 = .ok (.aload_n 0, 1) := by decide +kernel
theorem dX12_statement_231 : decode cX12_statement 231 = .ok (.iconst 2, 1) := by decide +kernel
theorem dX12_statement_232 : decode cX12_statement 232 = .ok (.bipush 20, 2) := by decide +kernel
theorem dX12_statement_234 : decode cX12_statement 234 = .ok (.invokevirtual 349, 3) := by decide +kernel
theorem dX12_statement_237 : decode cX12_statement 237 = .ok (.iastore, 1) := by decide +kernel
theorem dX12_statement_238 : decode cX12_statement 238 = .ok (.goto 12, 3) := by decide +kernel
theorem dX12_statement_241 : decode cX12_statement 241 = .ok (.aload_n 0, 1) := by decide +kernel
theorem dX12_statement_242 : decode cX12_statement 242 = .ok (.iconst 1, 1) := by decide +kernel
theorem dX12_statement_243 : decode cX12_statement 243 = .ok (.aload_n 0, 1) := by decide +kernel
theorem dX12_statement_244 : decode cX12_statement 244 = .ok (.getfield 281, 3) := by decide +kernel
theorem dX12_statement_247 : decode cX12_statement 247 = .ok (.invokevirtual 304, 3) := by decide +kernel
theorem dX12_statement_250 : decode cX12_statement 250 = .ok (.aload_n 0, 1) := by decide +kernel
theorem dX12_statement_251 : decode cX12_statement 251 = .ok (.getfield 152, 3) := by decide +kernel
theorem dX12_statement_254 : decode cX12_statement 254 = .ok (.iload_n 1, 1) := by decide +kernel
theorem dX12_statement_255 : decode cX12_statement 255 = .ok (.aload_n 0, 1) := by decide +kernel
theorem dX12_statement_256 : decode cX12_statement 256 = .ok (.getfield 314, 3) := by decide +kernel
theorem dX12_statement_259 : decode cX12_statement 259 = .ok (.iastore, 1) := by decide +kernel
theorem dX12_statement_260 : decode cX12_statement 260 = .ok (.aload_n 0, 1) := by decide +kernel
theorem dX12_statement_261 : decode cX12_statement 261 = .ok (.aload_n 0, 1) := by decide +kernel
theorem dX12_statement_262 : decode cX12_statement 262 = .ok (.getfield 88, 3) := by decide +kernel
theorem dX12_statement_265 : decode cX12_statement 265 = .ok (.invokevirtual 338, 3) := by decide +kernel
theorem dX12_statement_268 : decode cX12_statement 268 = .ok (.aload_n 0, 1) := by decide +kernel
theorem dX12_statement_269 : decode cX12_statement 269 = .ok (.getfield 275, 3) := by decide +kernel
theorem dX12_statement_272 : decode cX12_statement 272 = .ok (.ifCond .ne 7, 3) := by decide +kernel
theorem dX12_statement_275 : decode cX12_statement 275 = .ok (.aload_n 0, 1) := by decide +kernel
theorem dX12_statement_276 : decode cX12_statement 276 = .ok (.invokevirtual 383, 3) := by decide +kernel
theorem dX12_statement_279 : decode cX12_statement 279 = .ok (.aload_n 0, 1) := by decide +kernel
theorem dX12_statement_280 : decode cX12_statement 280 = .ok (.getfield 155, 3) := by decide +kernel
theorem dX12_statement_283 : decode cX12_statement 283 = .ok (.iload_n 1, 1) := by decide +kernel
theorem dX12_statement_284 : decode cX12_statement 284 = .ok (.aload_n 0, 1) := by decide +kernel
theorem dX12_statement_285 : decode cX12_statement 285 = .ok (.getfield 314, 3) := by decide +kernel
theorem dX12_statement_288 : decode cX12_statement 288 = .ok (.iastore, 1) := by decide +kernel
theorem dX12_statement_289 : decode cX12_statement 289 = .ok (.aload_n 0, 1) := by decide +kernel
theorem dX12_statement_290 : decode cX12_statement 290 = .ok (.bipush 59, 2) := by decide +kernel
theorem dX12_statement_292 : decode cX12_statement 292 = .ok (.invokevirtual 342, 3) := by decide +kernel
theorem dX12_statement_295 : decode cX12_statement 295 = .ok (.aload_n 0, 1) := by decide +kernel
theorem dX12_statement_296 : decode cX12_statement 296 = .ok (.getfield 133, 3) := by decide +kernel
theorem dX12_statement_299 : decode cX12_statement 299 = .ok (.iconst 0, 1) := by decide +kernel
theorem dX12_statement_300 : decode cX12_statement 300 = .ok (.dup2, 1) := by decide +kernel
theorem dX12_statement_301 : decode cX12_statement 301 = .ok (.iaload, 1) := by decide +kernel
theorem dX12_statement_302 : decode cX12_statement 302 = .ok (.iconst 1, 1) := by decide +kernel
theorem dX12_statement_303 : decode cX12_statement 303 = .ok (.iadd, 1) := by decide +kernel
theorem dX12_statement_304 : decode cX12_statement 304 = .ok (.iastore, 1) := by decide +kernel
theorem dX12_statement_305 : decode cX12_statement 305 = .ok (.return_, 1) := by decide +kernel
theorem zy_X12_statement : zYv yX12_statement cX12_statement 2 none 0 := ⟨zw_1575, zws_57, zw_12, zw_1576, by decide, by decide, by decide⟩
theorem c_X12_statement_b279 {C : zC} {I : Nat → Nat → Int32} {J : Nat → Nat → Int64} {Rr : Nat → Nat → Option Nat} {D : zD} (N : Nat) (v_end : Int32) (e_v_end : I 128 20 = v_end) (v_allWord : (Nat → Int32)) (e_v_allWord : I 154 = v_allWord) (v_allowWord : (Nat → Int32)) (e_v_allowWord : I 146 = v_allowWord) (v_andWord : (Nat → Int32)) (e_v_andWord : I 152 = v_andWord) (v_blanchedWord : (Nat → Int32)) (e_v_blanchedWord : I 145 = v_blanchedWord) (v_debtWord : (Nat → Int32)) (e_v_debtWord : I 161 = v_debtWord) (v_farmWord : (Nat → Int32)) (e_v_farmWord : I 144 = v_farmWord) (v_forWord : (Nat → Int32)) (e_v_forWord : I 150 = v_forWord) (v_inWord : (Nat → Int32)) (e_v_inWord : I 149 = v_inWord) (v_maxWord : (Nat → Int32)) (e_v_maxWord : I 164 = v_maxWord) (v_minWord : (Nat → Int32)) (e_v_minWord : I 163 = v_minWord) (v_notWord : (Nat → Int32)) (e_v_notWord : I 153 = v_notWord) (v_orWord : (Nat → Int32)) (e_v_orWord : I 151 = v_orWord) (v_paidWord : (Nat → Int32)) (e_v_paidWord : I 162 = v_paidWord) (v_pardonWord : (Nat → Int32)) (e_v_pardonWord : I 147 = v_pardonWord) (v_penceWord : (Nat → Int32)) (e_v_penceWord : I 156 = v_penceWord) (v_poundsWord : (Nat → Int32)) (e_v_poundsWord : I 158 = v_poundsWord) (v_shillingsWord : (Nat → Int32)) (e_v_shillingsWord : I 157 = v_shillingsWord) (v_shireWord : (Nat → Int32)) (e_v_shireWord : I 155 = v_shireWord) (v_splitWord : (Nat → Int32)) (e_v_splitWord : I 148 = v_splitWord) (v_tape : (Nat → Int32)) (e_v_tape : I 143 = v_tape) (v_termWord : (Nat → Int32)) (e_v_termWord : I 159 = v_termWord) (v_yearWord : (Nat → Int32)) (e_v_yearWord : I 160 = v_yearWord) (y_v_at : Int32) (y_v_bad : Int32) (y_v_badPlace : Int32) (y_v_base : Int32) (y_v_coded : Int32) (y_v_ended : Int32) (y_v_open : Int32) (y_v_waits : Int32) (y_v_codes : (Nat → Int32)) (y_v_first : (Nat → Int32)) (y_v_isBlanched : (Nat → Int32)) (y_v_many : (Nat → Int32)) (y_v_second : (Nat → Int32)) (y_v_sort : (Nat → Int32)) (y_v_sumEnd : (Nat → Int32)) (y_v_sumFrom : (Nat → Int32)) (y_v_testEnd : (Nat → Int32)) (y_v_wait : (Nat → Int32)) (E : zE C RX12 cX12_statement 2 none ({ frames := 8, cells := 0, slots := 0, locals := 175 } : Room)) (hQ : C.Q = zQv C ({ frames := 8, cells := 0, slots := 0, locals := 175 } : Room) ((va_up (va_up (va_up (va_up (va_up (va_up (va_up (va_up (va_up (va_up (va_up I 128 (va_up (va_up (va_up (va_up (va_up (va_up (va_up (va_up (I 128) 19 y_v_at) 21 y_v_ended) 22 y_v_bad) 23 y_v_badPlace) 56 y_v_coded) 58 y_v_waits) 59 y_v_open) 60 y_v_base)) 165 y_v_many) 166 y_v_sort) 167 y_v_isBlanched) 168 y_v_first) 169 y_v_second) 170 y_v_sumFrom) 171 y_v_sumEnd) 172 y_v_testEnd) 173 y_v_codes) 174 y_v_wait), J, Rr, D)) (x1 : Int32) (v_at : Int32) (v_bad : Int32) (v_badPlace : Int32) (v_base : Int32) (v_coded : Int32) (v_ended : Int32) (v_open : Int32) (v_waits : Int32) (v_codes : (Nat → Int32)) (v_first : (Nat → Int32)) (v_isBlanched : (Nat → Int32)) (v_many : (Nat → Int32)) (v_second : (Nat → Int32)) (v_sort : (Nat → Int32)) (v_sumEnd : (Nat → Int32)) (v_sumFrom : (Nat → Int32)) (v_testEnd : (Nat → Int32)) (v_wait : (Nat → Int32)) (h : pM_statement_b279 N v_end v_allWord v_allowWord v_andWord v_blanchedWord v_debtWord v_farmWord v_forWord v_inWord v_maxWord v_minWord v_notWord v_orWord v_paidWord v_pardonWord v_penceWord v_poundsWord v_shillingsWord v_shireWord v_splitWord v_tape v_termWord v_yearWord x1 v_at v_bad v_badPlace v_base v_coded v_ended v_open v_waits v_codes v_first v_isBlanched v_many v_second v_sort v_sumEnd v_sumFrom v_testEnd v_wait = some (y_v_at, y_v_bad, y_v_badPlace, y_v_base, y_v_coded, y_v_ended, y_v_open, y_v_waits, y_v_codes, y_v_first, y_v_isBlanched, y_v_many, y_v_second, y_v_sort, y_v_sumEnd, y_v_sumFrom, y_v_testEnd, y_v_wait)) : zB C (0, 0) 279 [(0, .ref (C.X.1 + 128)), (1, .int x1)] [] ((va_up (va_up (va_up (va_up (va_up (va_up (va_up (va_up (va_up (va_up (va_up I 128 (va_up (va_up (va_up (va_up (va_up (va_up (va_up (va_up (I 128) 19 v_at) 21 v_ended) 22 v_bad) 23 v_badPlace) 56 v_coded) 58 v_waits) 59 v_open) 60 v_base)) 165 v_many) 166 v_sort) 167 v_isBlanched) 168 v_first) 169 v_second) 170 v_sumFrom) 171 v_sumEnd) 172 v_testEnd) 173 v_codes) 174 v_wait), J, Rr, D) := by
  refine zb_aload_n E dX12_statement_279 0 rfl rfl ?_
  refine zb_get E 128 (by decide) (zF_128 C.X) rfl zin12 54 (by decide) zw_1222 (v := .ref (C.X.1 + 172)) rfl dX12_statement_280 ?_
  refine zb_iload_n E dX12_statement_283 1 rfl rfl ?_
  refine zb_aload_n E dX12_statement_284 0 rfl rfl ?_
  refine zb_get E 128 (by decide) (zF_128 C.X) rfl zin12 56 (by decide) zw_1224 (v := .int v_coded) rfl dX12_statement_285 ?_
  obtain ⟨g19, h⟩ := gd_s h
  refine zb_iast E 172 (by decide) zF_172 (f := v_testEnd) rfl (ib_in g19) dX12_statement_288 (I2 := (va_up (va_up (va_up (va_up (va_up (va_up (va_up (va_up (va_up (va_up (va_up I 128 (va_up (va_up (va_up (va_up (va_up (va_up (va_up (va_up (I 128) 19 v_at) 21 v_ended) 22 v_bad) 23 v_badPlace) 56 v_coded) 58 v_waits) 59 v_open) 60 v_base)) 165 v_many) 166 v_sort) 167 v_isBlanched) 168 v_first) 169 v_second) 170 v_sumFrom) 171 v_sumEnd) 172 (upd v_testEnd (ix x1) v_coded)) 173 v_codes) 174 v_wait)) (zn3 (by decide : (174 : Nat) ≠ 172) (by decide : (173 : Nat) ≠ 172)) ?_
  refine zb_aload_n E dX12_statement_289 0 rfl rfl ?_
  refine zb_bipush E dX12_statement_290 (v := 59) rfl ?_
  obtain ⟨v_at_c20, v_bad_c20, v_badPlace_c20, hc_292, h⟩ := bd3_s h
  refine zb_cVv E [.int 59] 128 zy_X12_asksSign zw_1608 (by decide) (zF_128 _ _ _ _) rfl (c_X12_asksSign (va_up (va_up (va_up (va_up (va_up (va_up (va_up (va_up (I 128) 19 v_at) 21 v_ended) 22 v_bad) 23 v_badPlace) 56 v_coded) 58 v_waits) 59 v_open) 60 v_base) rfl v_end (by exact e_v_end) v_tape (by exact e_v_tape) v_at rfl v_bad rfl v_badPlace rfl hc_292) (by decide) rfl rfl (by first | decide | simp [Value.category]) dX12_statement_292 (cs2 := (0, 0)) rfl ?_
  refine zb_S (S2 := ((va_up (va_up (va_up (va_up (va_up (va_up (va_up (va_up (va_up (va_up (va_up I 128 (va_up (va_up (va_up (va_up (va_up (va_up (va_up (va_up (I 128) 19 v_at_c20) 21 v_ended) 22 v_bad_c20) 23 v_badPlace_c20) 56 v_coded) 58 v_waits) 59 v_open) 60 v_base)) 165 v_many) 166 v_sort) 167 v_isBlanched) 168 v_first) 169 v_second) 170 v_sumFrom) 171 v_sumEnd) 172 (upd v_testEnd (ix x1) v_coded)) 173 v_codes) 174 v_wait), J, Rr, D)) (zS_eq ((zcgV ((zcgF ((zcgF (zn8 (by decide : (60 : Nat) ≠ 19) (by decide : (59 : Nat) ≠ 19) (by decide : (58 : Nat) ≠ 19) (by decide : (56 : Nat) ≠ 19) (by decide : (23 : Nat) ≠ 19) (by decide : (22 : Nat) ≠ 19) (by decide : (21 : Nat) ≠ 19))).trans (zn6 (by decide : (60 : Nat) ≠ 22) (by decide : (59 : Nat) ≠ 22) (by decide : (58 : Nat) ≠ 22) (by decide : (56 : Nat) ≠ 22) (by decide : (23 : Nat) ≠ 22)))).trans (zn5 (by decide : (60 : Nat) ≠ 23) (by decide : (59 : Nat) ≠ 23) (by decide : (58 : Nat) ≠ 23) (by decide : (56 : Nat) ≠ 23)))).trans (zn11 (by decide : (174 : Nat) ≠ 128) (by decide : (173 : Nat) ≠ 128) (by decide : (172 : Nat) ≠ 128) (by decide : (171 : Nat) ≠ 128) (by decide : (170 : Nat) ≠ 128) (by decide : (169 : Nat) ≠ 128) (by decide : (168 : Nat) ≠ 128) (by decide : (167 : Nat) ≠ 128) (by decide : (166 : Nat) ≠ 128) (by decide : (165 : Nat) ≠ 128))) rfl) ?_
  refine zb_aload_n E dX12_statement_295 0 rfl rfl ?_
  refine zb_get E 128 (by decide) (zF_128 C.X) rfl zin12 47 (by decide) zw_1215 (v := .ref (C.X.1 + 165)) rfl dX12_statement_296 ?_
  refine zb_iconst E dX12_statement_299 (v := 0) rfl ?_
  refine zb_dup2_11 E dX12_statement_300 rfl rfl ?_
  refine zb_iald E 165 (by decide) zF_165 (f := v_many) rfl (ib_in (by decide)) dX12_statement_301 ?_
  refine zb_iconst E dX12_statement_302 (v := 1) rfl ?_
  refine zb_iadd E dX12_statement_303 ?_
  refine zb_iast E 165 (by decide) zF_165 (f := v_many) rfl (ib_in (by decide)) dX12_statement_304 (I2 := (va_up (va_up (va_up (va_up (va_up (va_up (va_up (va_up (va_up (va_up (va_up I 128 (va_up (va_up (va_up (va_up (va_up (va_up (va_up (va_up (I 128) 19 v_at_c20) 21 v_ended) 22 v_bad_c20) 23 v_badPlace_c20) 56 v_coded) 58 v_waits) 59 v_open) 60 v_base)) 165 (upd v_many (ix 0) ((v_many (ix 0)) + 1))) 166 v_sort) 167 v_isBlanched) 168 v_first) 169 v_second) 170 v_sumFrom) 171 v_sumEnd) 172 (upd v_testEnd (ix x1) v_coded)) 173 v_codes) 174 v_wait)) (zn10 (by decide : (174 : Nat) ≠ 165) (by decide : (173 : Nat) ≠ 165) (by decide : (172 : Nat) ≠ 165) (by decide : (171 : Nat) ≠ 165) (by decide : (170 : Nat) ≠ 165) (by decide : (169 : Nat) ≠ 165) (by decide : (168 : Nat) ≠ 165) (by decide : (167 : Nat) ≠ 165) (by decide : (166 : Nat) ≠ 165)) ?_
  obtain ⟨rfl, rfl, rfl, rfl, rfl, rfl, rfl, rfl, rfl, rfl, rfl, rfl, rfl, rfl, rfl, rfl, rfl, rfl⟩ := zinj18 h
  exact zb_vret E hQ rfl ⟨Nat.zero_le _, Nat.zero_le _⟩ dX12_statement_305
theorem c_X12_statement_b250 {C : zC} {I : Nat → Nat → Int32} {J : Nat → Nat → Int64} {Rr : Nat → Nat → Option Nat} {D : zD} (N : Nat) (v_end : Int32) (e_v_end : I 128 20 = v_end) (v_allWord : (Nat → Int32)) (e_v_allWord : I 154 = v_allWord) (v_allowWord : (Nat → Int32)) (e_v_allowWord : I 146 = v_allowWord) (v_andWord : (Nat → Int32)) (e_v_andWord : I 152 = v_andWord) (v_blanchedWord : (Nat → Int32)) (e_v_blanchedWord : I 145 = v_blanchedWord) (v_debtWord : (Nat → Int32)) (e_v_debtWord : I 161 = v_debtWord) (v_farmWord : (Nat → Int32)) (e_v_farmWord : I 144 = v_farmWord) (v_forWord : (Nat → Int32)) (e_v_forWord : I 150 = v_forWord) (v_inWord : (Nat → Int32)) (e_v_inWord : I 149 = v_inWord) (v_maxWord : (Nat → Int32)) (e_v_maxWord : I 164 = v_maxWord) (v_minWord : (Nat → Int32)) (e_v_minWord : I 163 = v_minWord) (v_notWord : (Nat → Int32)) (e_v_notWord : I 153 = v_notWord) (v_orWord : (Nat → Int32)) (e_v_orWord : I 151 = v_orWord) (v_paidWord : (Nat → Int32)) (e_v_paidWord : I 162 = v_paidWord) (v_pardonWord : (Nat → Int32)) (e_v_pardonWord : I 147 = v_pardonWord) (v_penceWord : (Nat → Int32)) (e_v_penceWord : I 156 = v_penceWord) (v_poundsWord : (Nat → Int32)) (e_v_poundsWord : I 158 = v_poundsWord) (v_shillingsWord : (Nat → Int32)) (e_v_shillingsWord : I 157 = v_shillingsWord) (v_shireWord : (Nat → Int32)) (e_v_shireWord : I 155 = v_shireWord) (v_splitWord : (Nat → Int32)) (e_v_splitWord : I 148 = v_splitWord) (v_tape : (Nat → Int32)) (e_v_tape : I 143 = v_tape) (v_termWord : (Nat → Int32)) (e_v_termWord : I 159 = v_termWord) (v_yearWord : (Nat → Int32)) (e_v_yearWord : I 160 = v_yearWord) (y_v_at : Int32) (y_v_bad : Int32) (y_v_badPlace : Int32) (y_v_base : Int32) (y_v_coded : Int32) (y_v_ended : Int32) (y_v_open : Int32) (y_v_waits : Int32) (y_v_codes : (Nat → Int32)) (y_v_first : (Nat → Int32)) (y_v_isBlanched : (Nat → Int32)) (y_v_many : (Nat → Int32)) (y_v_second : (Nat → Int32)) (y_v_sort : (Nat → Int32)) (y_v_sumEnd : (Nat → Int32)) (y_v_sumFrom : (Nat → Int32)) (y_v_testEnd : (Nat → Int32)) (y_v_wait : (Nat → Int32)) (E : zE C RX12 cX12_statement 2 none ({ frames := 8, cells := 0, slots := 0, locals := 175 } : Room)) (hQ : C.Q = zQv C ({ frames := 8, cells := 0, slots := 0, locals := 175 } : Room) ((va_up (va_up (va_up (va_up (va_up (va_up (va_up (va_up (va_up (va_up (va_up I 128 (va_up (va_up (va_up (va_up (va_up (va_up (va_up (va_up (I 128) 19 y_v_at) 21 y_v_ended) 22 y_v_bad) 23 y_v_badPlace) 56 y_v_coded) 58 y_v_waits) 59 y_v_open) 60 y_v_base)) 165 y_v_many) 166 y_v_sort) 167 y_v_isBlanched) 168 y_v_first) 169 y_v_second) 170 y_v_sumFrom) 171 y_v_sumEnd) 172 y_v_testEnd) 173 y_v_codes) 174 y_v_wait), J, Rr, D)) (x1 : Int32) (v_at : Int32) (v_bad : Int32) (v_badPlace : Int32) (v_base : Int32) (v_coded : Int32) (v_ended : Int32) (v_open : Int32) (v_waits : Int32) (v_codes : (Nat → Int32)) (v_first : (Nat → Int32)) (v_isBlanched : (Nat → Int32)) (v_many : (Nat → Int32)) (v_second : (Nat → Int32)) (v_sort : (Nat → Int32)) (v_sumEnd : (Nat → Int32)) (v_sumFrom : (Nat → Int32)) (v_testEnd : (Nat → Int32)) (v_wait : (Nat → Int32)) (h : pM_statement_b250 N v_end v_allWord v_allowWord v_andWord v_blanchedWord v_debtWord v_farmWord v_forWord v_inWord v_maxWord v_minWord v_notWord v_orWord v_paidWord v_pardonWord v_penceWord v_poundsWord v_shillingsWord v_shireWord v_splitWord v_tape v_termWord v_yearWord x1 v_at v_bad v_badPlace v_base v_coded v_ended v_open v_waits v_codes v_first v_isBlanched v_many v_second v_sort v_sumEnd v_sumFrom v_testEnd v_wait = some (y_v_at, y_v_bad, y_v_badPlace, y_v_base, y_v_coded, y_v_ended, y_v_open, y_v_waits, y_v_codes, y_v_first, y_v_isBlanched, y_v_many, y_v_second, y_v_sort, y_v_sumEnd, y_v_sumFrom, y_v_testEnd, y_v_wait)) : zB C (0, 0) 250 [(0, .ref (C.X.1 + 128)), (1, .int x1)] [] ((va_up (va_up (va_up (va_up (va_up (va_up (va_up (va_up (va_up (va_up (va_up I 128 (va_up (va_up (va_up (va_up (va_up (va_up (va_up (va_up (I 128) 19 v_at) 21 v_ended) 22 v_bad) 23 v_badPlace) 56 v_coded) 58 v_waits) 59 v_open) 60 v_base)) 165 v_many) 166 v_sort) 167 v_isBlanched) 168 v_first) 169 v_second) 170 v_sumFrom) 171 v_sumEnd) 172 v_testEnd) 173 v_codes) 174 v_wait), J, Rr, D) := by
  refine zb_aload_n E dX12_statement_250 0 rfl rfl ?_
  refine zb_get E 128 (by decide) (zF_128 C.X) rfl zin12 53 (by decide) zw_1221 (v := .ref (C.X.1 + 171)) rfl dX12_statement_251 ?_
  refine zb_iload_n E dX12_statement_254 1 rfl rfl ?_
  refine zb_aload_n E dX12_statement_255 0 rfl rfl ?_
  refine zb_get E 128 (by decide) (zF_128 C.X) rfl zin12 56 (by decide) zw_1224 (v := .int v_coded) rfl dX12_statement_256 ?_
  obtain ⟨g16, h⟩ := gd_s h
  refine zb_iast E 171 (by decide) zF_171 (f := v_sumEnd) rfl (ib_in g16) dX12_statement_259 (I2 := (va_up (va_up (va_up (va_up (va_up (va_up (va_up (va_up (va_up (va_up (va_up I 128 (va_up (va_up (va_up (va_up (va_up (va_up (va_up (va_up (I 128) 19 v_at) 21 v_ended) 22 v_bad) 23 v_badPlace) 56 v_coded) 58 v_waits) 59 v_open) 60 v_base)) 165 v_many) 166 v_sort) 167 v_isBlanched) 168 v_first) 169 v_second) 170 v_sumFrom) 171 (upd v_sumEnd (ix x1) v_coded)) 172 v_testEnd) 173 v_codes) 174 v_wait)) (zn4 (by decide : (174 : Nat) ≠ 171) (by decide : (173 : Nat) ≠ 171) (by decide : (172 : Nat) ≠ 171)) ?_
  refine zb_aload_n E dX12_statement_260 0 rfl rfl ?_
  refine zb_aload_n E dX12_statement_261 0 rfl rfl ?_
  refine zb_get E 128 (by decide) (zF_128 C.X) rfl zin12 32 (by decide) zw_1200 (v := .ref (C.X.1 + 150)) rfl dX12_statement_262 ?_
  obtain ⟨v_at_c17, v_bad_c17, v_badPlace_c17, v_ended_c17, hc_265, h⟩ := bd4_s h
  refine zb_cVv E [.ref (C.X.1 + 150)] 128 zy_X12_asks zw_1604 (by decide) (zF_128 _ _ _ _) rfl (c_X12_asks 150 (by decide) zF_150 (by decide) (va_up (va_up (va_up (va_up (va_up (va_up (va_up (va_up (I 128) 19 v_at) 21 v_ended) 22 v_bad) 23 v_badPlace) 56 v_coded) 58 v_waits) 59 v_open) 60 v_base) rfl v_forWord (by exact e_v_forWord) v_end (by exact e_v_end) v_tape (by exact e_v_tape) v_at rfl v_bad rfl v_badPlace rfl v_ended rfl hc_265) (by decide) rfl rfl (by first | decide | simp [Value.category]) dX12_statement_265 (cs2 := (0, 0)) rfl ?_
  refine zb_S (S2 := ((va_up (va_up (va_up (va_up (va_up (va_up (va_up (va_up (va_up (va_up (va_up I 128 (va_up (va_up (va_up (va_up (va_up (va_up (va_up (va_up (I 128) 19 v_at_c17) 21 v_ended_c17) 22 v_bad_c17) 23 v_badPlace_c17) 56 v_coded) 58 v_waits) 59 v_open) 60 v_base)) 165 v_many) 166 v_sort) 167 v_isBlanched) 168 v_first) 169 v_second) 170 v_sumFrom) 171 (upd v_sumEnd (ix x1) v_coded)) 172 v_testEnd) 173 v_codes) 174 v_wait), J, Rr, D)) (zS_eq ((zcgV ((zcgF ((zcgF ((zcgF (zn8 (by decide : (60 : Nat) ≠ 19) (by decide : (59 : Nat) ≠ 19) (by decide : (58 : Nat) ≠ 19) (by decide : (56 : Nat) ≠ 19) (by decide : (23 : Nat) ≠ 19) (by decide : (22 : Nat) ≠ 19) (by decide : (21 : Nat) ≠ 19))).trans (zn7 (by decide : (60 : Nat) ≠ 21) (by decide : (59 : Nat) ≠ 21) (by decide : (58 : Nat) ≠ 21) (by decide : (56 : Nat) ≠ 21) (by decide : (23 : Nat) ≠ 21) (by decide : (22 : Nat) ≠ 21)))).trans (zn6 (by decide : (60 : Nat) ≠ 22) (by decide : (59 : Nat) ≠ 22) (by decide : (58 : Nat) ≠ 22) (by decide : (56 : Nat) ≠ 22) (by decide : (23 : Nat) ≠ 22)))).trans (zn5 (by decide : (60 : Nat) ≠ 23) (by decide : (59 : Nat) ≠ 23) (by decide : (58 : Nat) ≠ 23) (by decide : (56 : Nat) ≠ 23)))).trans (zn11 (by decide : (174 : Nat) ≠ 128) (by decide : (173 : Nat) ≠ 128) (by decide : (172 : Nat) ≠ 128) (by decide : (171 : Nat) ≠ 128) (by decide : (170 : Nat) ≠ 128) (by decide : (169 : Nat) ≠ 128) (by decide : (168 : Nat) ≠ 128) (by decide : (167 : Nat) ≠ 128) (by decide : (166 : Nat) ≠ 128) (by decide : (165 : Nat) ≠ 128))) rfl) ?_
  refine zb_aload_n E dX12_statement_268 0 rfl rfl ?_
  refine zb_get E 128 (by decide) (zF_128 C.X) rfl zin12 22 (by decide) zw_1190 (v := .int v_bad_c17) rfl dX12_statement_269 ?_
  refine zb_if_ne E dX12_statement_272 (tgt := 279) rfl (fun hc => ?_) (fun hc => ?_)
  · have h := if_f h hc
    exact c_X12_statement_b279 N v_end e_v_end v_allWord e_v_allWord v_allowWord e_v_allowWord v_andWord e_v_andWord v_blanchedWord e_v_blanchedWord v_debtWord e_v_debtWord v_farmWord e_v_farmWord v_forWord e_v_forWord v_inWord e_v_inWord v_maxWord e_v_maxWord v_minWord e_v_minWord v_notWord e_v_notWord v_orWord e_v_orWord v_paidWord e_v_paidWord v_pardonWord e_v_pardonWord v_penceWord e_v_penceWord v_poundsWord e_v_poundsWord v_shillingsWord e_v_shillingsWord v_shireWord e_v_shireWord v_splitWord e_v_splitWord v_tape e_v_tape v_termWord e_v_termWord v_yearWord e_v_yearWord y_v_at y_v_bad y_v_badPlace y_v_base y_v_coded y_v_ended y_v_open y_v_waits y_v_codes y_v_first y_v_isBlanched y_v_many y_v_second y_v_sort y_v_sumEnd y_v_sumFrom y_v_testEnd y_v_wait E hQ x1 v_at_c17 v_bad_c17 v_badPlace_c17 v_base v_coded v_ended_c17 v_open v_waits v_codes v_first v_isBlanched v_many v_second v_sort (upd v_sumEnd (ix x1) v_coded) v_sumFrom v_testEnd v_wait h
  · have h := if_t h hc
    refine zb_aload_n E dX12_statement_275 0 rfl rfl ?_
    obtain ⟨v_at_c18, v_bad_c18, v_badPlace_c18, v_base_c18, v_coded_c18, v_ended_c18, v_open_c18, v_waits_c18, v_codes_c18, v_wait_c18, hc_276, h⟩ := bd10_s h
    refine zb_cVv E [] 128 zy_X12_test zw_1656 (by decide) (zF_128 _ _ _ _) rfl (c_X12_test (va_up (va_up (va_up (va_up (va_up (va_up (va_up (va_up (I 128) 19 v_at_c17) 21 v_ended_c17) 22 v_bad_c17) 23 v_badPlace_c17) 56 v_coded) 58 v_waits) 59 v_open) 60 v_base) rfl v_end (by exact e_v_end) v_allWord (by exact e_v_allWord) v_andWord (by exact e_v_andWord) v_debtWord (by exact e_v_debtWord) v_maxWord (by exact e_v_maxWord) v_minWord (by exact e_v_minWord) v_notWord (by exact e_v_notWord) v_orWord (by exact e_v_orWord) v_paidWord (by exact e_v_paidWord) v_penceWord (by exact e_v_penceWord) v_poundsWord (by exact e_v_poundsWord) v_shillingsWord (by exact e_v_shillingsWord) v_shireWord (by exact e_v_shireWord) v_tape (by exact e_v_tape) v_termWord (by exact e_v_termWord) v_yearWord (by exact e_v_yearWord) v_at_c17 rfl v_bad_c17 rfl v_badPlace_c17 rfl v_base rfl v_coded rfl v_ended_c17 rfl v_open rfl v_waits rfl v_codes rfl v_wait rfl hc_276) (by decide) rfl rfl (by first | decide | simp [Value.category]) dX12_statement_276 (cs2 := (0, 0)) rfl ?_
    refine zb_S (S2 := ((va_up (va_up (va_up (va_up (va_up (va_up (va_up (va_up (va_up (va_up (va_up I 128 (va_up (va_up (va_up (va_up (va_up (va_up (va_up (va_up (I 128) 19 v_at_c18) 21 v_ended_c18) 22 v_bad_c18) 23 v_badPlace_c18) 56 v_coded_c18) 58 v_waits_c18) 59 v_open_c18) 60 v_base_c18)) 165 v_many) 166 v_sort) 167 v_isBlanched) 168 v_first) 169 v_second) 170 v_sumFrom) 171 (upd v_sumEnd (ix x1) v_coded)) 172 v_testEnd) 173 v_codes_c18) 174 v_wait_c18), J, Rr, D)) (zS_eq ((zcgF ((zcgF ((zcgV ((zcgF ((zcgF ((zcgF ((zcgF ((zcgF ((zcgF ((zcgF (zn8 (by decide : (60 : Nat) ≠ 19) (by decide : (59 : Nat) ≠ 19) (by decide : (58 : Nat) ≠ 19) (by decide : (56 : Nat) ≠ 19) (by decide : (23 : Nat) ≠ 19) (by decide : (22 : Nat) ≠ 19) (by decide : (21 : Nat) ≠ 19))).trans (zn7 (by decide : (60 : Nat) ≠ 21) (by decide : (59 : Nat) ≠ 21) (by decide : (58 : Nat) ≠ 21) (by decide : (56 : Nat) ≠ 21) (by decide : (23 : Nat) ≠ 21) (by decide : (22 : Nat) ≠ 21)))).trans (zn6 (by decide : (60 : Nat) ≠ 22) (by decide : (59 : Nat) ≠ 22) (by decide : (58 : Nat) ≠ 22) (by decide : (56 : Nat) ≠ 22) (by decide : (23 : Nat) ≠ 22)))).trans (zn5 (by decide : (60 : Nat) ≠ 23) (by decide : (59 : Nat) ≠ 23) (by decide : (58 : Nat) ≠ 23) (by decide : (56 : Nat) ≠ 23)))).trans (zn4 (by decide : (60 : Nat) ≠ 56) (by decide : (59 : Nat) ≠ 56) (by decide : (58 : Nat) ≠ 56)))).trans (zn3 (by decide : (60 : Nat) ≠ 58) (by decide : (59 : Nat) ≠ 58)))).trans (zn2 (by decide : (60 : Nat) ≠ 59)))).trans zn1)).trans (zn11 (by decide : (174 : Nat) ≠ 128) (by decide : (173 : Nat) ≠ 128) (by decide : (172 : Nat) ≠ 128) (by decide : (171 : Nat) ≠ 128) (by decide : (170 : Nat) ≠ 128) (by decide : (169 : Nat) ≠ 128) (by decide : (168 : Nat) ≠ 128) (by decide : (167 : Nat) ≠ 128) (by decide : (166 : Nat) ≠ 128) (by decide : (165 : Nat) ≠ 128)))).trans (zn2 (by decide : (174 : Nat) ≠ 173)))).trans zn1) rfl) ?_
    exact c_X12_statement_b279 N v_end e_v_end v_allWord e_v_allWord v_allowWord e_v_allowWord v_andWord e_v_andWord v_blanchedWord e_v_blanchedWord v_debtWord e_v_debtWord v_farmWord e_v_farmWord v_forWord e_v_forWord v_inWord e_v_inWord v_maxWord e_v_maxWord v_minWord e_v_minWord v_notWord e_v_notWord v_orWord e_v_orWord v_paidWord e_v_paidWord v_pardonWord e_v_pardonWord v_penceWord e_v_penceWord v_poundsWord e_v_poundsWord v_shillingsWord e_v_shillingsWord v_shireWord e_v_shireWord v_splitWord e_v_splitWord v_tape e_v_tape v_termWord e_v_termWord v_yearWord e_v_yearWord y_v_at y_v_bad y_v_badPlace y_v_base y_v_coded y_v_ended y_v_open y_v_waits y_v_codes y_v_first y_v_isBlanched y_v_many y_v_second y_v_sort y_v_sumEnd y_v_sumFrom y_v_testEnd y_v_wait E hQ x1 v_at_c18 v_bad_c18 v_badPlace_c18 v_base_c18 v_coded_c18 v_ended_c18 v_open_c18 v_waits_c18 v_codes_c18 v_first v_isBlanched v_many v_second v_sort (upd v_sumEnd (ix x1) v_coded) v_sumFrom v_testEnd v_wait_c18 h
theorem c_X12_statement_0 {C : zC} {I : Nat → Nat → Int32} {J : Nat → Nat → Int64} {Rr : Nat → Nat → Option Nat} {D : zD} (N : Nat) (v_end : Int32) (e_v_end : I 128 20 = v_end) (v_allWord : (Nat → Int32)) (e_v_allWord : I 154 = v_allWord) (v_allowWord : (Nat → Int32)) (e_v_allowWord : I 146 = v_allowWord) (v_andWord : (Nat → Int32)) (e_v_andWord : I 152 = v_andWord) (v_blanchedWord : (Nat → Int32)) (e_v_blanchedWord : I 145 = v_blanchedWord) (v_debtWord : (Nat → Int32)) (e_v_debtWord : I 161 = v_debtWord) (v_farmWord : (Nat → Int32)) (e_v_farmWord : I 144 = v_farmWord) (v_forWord : (Nat → Int32)) (e_v_forWord : I 150 = v_forWord) (v_inWord : (Nat → Int32)) (e_v_inWord : I 149 = v_inWord) (v_maxWord : (Nat → Int32)) (e_v_maxWord : I 164 = v_maxWord) (v_minWord : (Nat → Int32)) (e_v_minWord : I 163 = v_minWord) (v_notWord : (Nat → Int32)) (e_v_notWord : I 153 = v_notWord) (v_orWord : (Nat → Int32)) (e_v_orWord : I 151 = v_orWord) (v_paidWord : (Nat → Int32)) (e_v_paidWord : I 162 = v_paidWord) (v_pardonWord : (Nat → Int32)) (e_v_pardonWord : I 147 = v_pardonWord) (v_penceWord : (Nat → Int32)) (e_v_penceWord : I 156 = v_penceWord) (v_poundsWord : (Nat → Int32)) (e_v_poundsWord : I 158 = v_poundsWord) (v_shillingsWord : (Nat → Int32)) (e_v_shillingsWord : I 157 = v_shillingsWord) (v_shireWord : (Nat → Int32)) (e_v_shireWord : I 155 = v_shireWord) (v_splitWord : (Nat → Int32)) (e_v_splitWord : I 148 = v_splitWord) (v_tape : (Nat → Int32)) (e_v_tape : I 143 = v_tape) (v_termWord : (Nat → Int32)) (e_v_termWord : I 159 = v_termWord) (v_yearWord : (Nat → Int32)) (e_v_yearWord : I 160 = v_yearWord) (y_v_at : Int32) (y_v_bad : Int32) (y_v_badPlace : Int32) (y_v_base : Int32) (y_v_coded : Int32) (y_v_ended : Int32) (y_v_open : Int32) (y_v_waits : Int32) (y_v_codes : (Nat → Int32)) (y_v_first : (Nat → Int32)) (y_v_isBlanched : (Nat → Int32)) (y_v_many : (Nat → Int32)) (y_v_second : (Nat → Int32)) (y_v_sort : (Nat → Int32)) (y_v_sumEnd : (Nat → Int32)) (y_v_sumFrom : (Nat → Int32)) (y_v_testEnd : (Nat → Int32)) (y_v_wait : (Nat → Int32)) (E : zE C RX12 cX12_statement 2 none ({ frames := 8, cells := 0, slots := 0, locals := 175 } : Room)) (hQ : C.Q = zQv C ({ frames := 8, cells := 0, slots := 0, locals := 175 } : Room) ((va_up (va_up (va_up (va_up (va_up (va_up (va_up (va_up (va_up (va_up (va_up I 128 (va_up (va_up (va_up (va_up (va_up (va_up (va_up (va_up (I 128) 19 y_v_at) 21 y_v_ended) 22 y_v_bad) 23 y_v_badPlace) 56 y_v_coded) 58 y_v_waits) 59 y_v_open) 60 y_v_base)) 165 y_v_many) 166 y_v_sort) 167 y_v_isBlanched) 168 y_v_first) 169 y_v_second) 170 y_v_sumFrom) 171 y_v_sumEnd) 172 y_v_testEnd) 173 y_v_codes) 174 y_v_wait), J, Rr, D)) (v_at : Int32) (v_bad : Int32) (v_badPlace : Int32) (v_base : Int32) (v_coded : Int32) (v_ended : Int32) (v_open : Int32) (v_waits : Int32) (v_codes : (Nat → Int32)) (v_first : (Nat → Int32)) (v_isBlanched : (Nat → Int32)) (v_many : (Nat → Int32)) (v_second : (Nat → Int32)) (v_sort : (Nat → Int32)) (v_sumEnd : (Nat → Int32)) (v_sumFrom : (Nat → Int32)) (v_testEnd : (Nat → Int32)) (v_wait : (Nat → Int32)) (h : pM_statement N v_at v_bad v_badPlace v_base v_coded v_end v_ended v_open v_waits v_allWord v_allowWord v_andWord v_blanchedWord v_codes v_debtWord v_farmWord v_first v_forWord v_inWord v_isBlanched v_many v_maxWord v_minWord v_notWord v_orWord v_paidWord v_pardonWord v_penceWord v_poundsWord v_second v_shillingsWord v_shireWord v_sort v_splitWord v_sumEnd v_sumFrom v_tape v_termWord v_testEnd v_wait v_yearWord = some (y_v_at, y_v_bad, y_v_badPlace, y_v_base, y_v_coded, y_v_ended, y_v_open, y_v_waits, y_v_codes, y_v_first, y_v_isBlanched, y_v_many, y_v_second, y_v_sort, y_v_sumEnd, y_v_sumFrom, y_v_testEnd, y_v_wait)) : zB C (0, 0) 0 [(0, .ref (C.X.1 + 128))] [] ((va_up (va_up (va_up (va_up (va_up (va_up (va_up (va_up (va_up (va_up (va_up I 128 (va_up (va_up (va_up (va_up (va_up (va_up (va_up (va_up (I 128) 19 v_at) 21 v_ended) 22 v_bad) 23 v_badPlace) 56 v_coded) 58 v_waits) 59 v_open) 60 v_base)) 165 v_many) 166 v_sort) 167 v_isBlanched) 168 v_first) 169 v_second) 170 v_sumFrom) 171 v_sumEnd) 172 v_testEnd) 173 v_codes) 174 v_wait), J, Rr, D) := by
  refine zb_iconst E dX12_statement_0 (v := 0) rfl ?_
  refine zb_aload_n E dX12_statement_1 0 rfl rfl ?_
  refine zb_get E 128 (by decide) (zF_128 C.X) rfl zin12 47 (by decide) zw_1215 (v := .ref (C.X.1 + 165)) rfl dX12_statement_2 ?_
  refine zb_iconst E dX12_statement_5 (v := 0) rfl ?_
  refine zb_iald E 165 (by decide) zF_165 (f := v_many) rfl (ib_in (by decide)) dX12_statement_6 ?_
  refine zb_iadd E dX12_statement_7 ?_
  refine zb_istore_n E dX12_statement_8 rfl (by decide) (lv2 := [(1, .int (0 + (v_many (ix 0)))), (0, .ref (C.X.1 + 128))]) rfl ?_
  refine zb_aload_n E dX12_statement_9 1 rfl rfl ?_
  obtain ⟨rc1, v_at_c1, hc_10, h⟩ := bd2_s h
  refine zb_cVi E [] 128 zy_X12_look zw_1569 (by decide) (zF_128 _ _ _ _) rfl (c_X12_look (va_up (va_up (va_up (va_up (va_up (va_up (va_up (va_up (I 128) 19 v_at) 21 v_ended) 22 v_bad) 23 v_badPlace) 56 v_coded) 58 v_waits) 59 v_open) 60 v_base) rfl v_end (by exact e_v_end) v_tape (by exact e_v_tape) v_at rfl hc_10) (by decide) rfl rfl (by first | decide | simp [Value.category]) dX12_statement_10 (cs2 := (0, 0)) rfl ?_
  refine zb_S (S2 := ((va_up (va_up (va_up (va_up (va_up (va_up (va_up (va_up (va_up (va_up (va_up I 128 (va_up (va_up (va_up (va_up (va_up (va_up (va_up (va_up (I 128) 19 v_at_c1) 21 v_ended) 22 v_bad) 23 v_badPlace) 56 v_coded) 58 v_waits) 59 v_open) 60 v_base)) 165 v_many) 166 v_sort) 167 v_isBlanched) 168 v_first) 169 v_second) 170 v_sumFrom) 171 v_sumEnd) 172 v_testEnd) 173 v_codes) 174 v_wait), J, Rr, D)) (zS_eq ((zcgV (zn8 (by decide : (60 : Nat) ≠ 19) (by decide : (59 : Nat) ≠ 19) (by decide : (58 : Nat) ≠ 19) (by decide : (56 : Nat) ≠ 19) (by decide : (23 : Nat) ≠ 19) (by decide : (22 : Nat) ≠ 19) (by decide : (21 : Nat) ≠ 19))).trans (zn11 (by decide : (174 : Nat) ≠ 128) (by decide : (173 : Nat) ≠ 128) (by decide : (172 : Nat) ≠ 128) (by decide : (171 : Nat) ≠ 128) (by decide : (170 : Nat) ≠ 128) (by decide : (169 : Nat) ≠ 128) (by decide : (168 : Nat) ≠ 128) (by decide : (167 : Nat) ≠ 128) (by decide : (166 : Nat) ≠ 128) (by decide : (165 : Nat) ≠ 128))) rfl) ?_
  refine zb_pop E dX12_statement_13 rfl ?_
  refine zb_aload_n E dX12_statement_14 1 rfl rfl ?_
  refine zb_get E 128 (by decide) (zF_128 C.X) rfl zin12 47 (by decide) zw_1215 (v := .ref (C.X.1 + 165)) rfl dX12_statement_15 ?_
  refine zb_iconst E dX12_statement_18 (v := 0) rfl ?_
  refine zb_iald E 165 (by decide) zF_165 (f := v_many) rfl (ib_in (by decide)) dX12_statement_19 ?_
  refine zb_bipush E dX12_statement_20 (v := 24) rfl ?_
  refine zb_icmp_ne E dX12_statement_22 (tgt := 35) rfl (fun hc => ?_) (fun hc => ?_)
  · have h := if_f h hc
    refine zb_aload_n E dX12_statement_35 1 rfl rfl ?_
    refine zb_get E 128 (by decide) (zF_128 C.X) rfl zin12 49 (by decide) zw_1217 (v := .ref (C.X.1 + 167)) rfl dX12_statement_36 ?_
    refine zb_iload_n E dX12_statement_39 0 rfl rfl ?_
    refine zb_iconst E dX12_statement_40 (v := 0) rfl ?_
    obtain ⟨g2, h⟩ := gd_s h
    refine zb_zast E 167 (by decide) zF_167 (f := v_isBlanched) rfl (ib_in g2) dX12_statement_41 (I2 := (va_up (va_up (va_up (va_up (va_up (va_up (va_up (va_up (va_up (va_up (va_up I 128 (va_up (va_up (va_up (va_up (va_up (va_up (va_up (va_up (I 128) 19 v_at_c1) 21 v_ended) 22 v_bad) 23 v_badPlace) 56 v_coded) 58 v_waits) 59 v_open) 60 v_base)) 165 v_many) 166 v_sort) 167 (upd v_isBlanched (ix (0 + (v_many (ix 0)))) 0)) 168 v_first) 169 v_second) 170 v_sumFrom) 171 v_sumEnd) 172 v_testEnd) 173 v_codes) 174 v_wait)) (zn8 (by decide : (174 : Nat) ≠ 167) (by decide : (173 : Nat) ≠ 167) (by decide : (172 : Nat) ≠ 167) (by decide : (171 : Nat) ≠ 167) (by decide : (170 : Nat) ≠ 167) (by decide : (169 : Nat) ≠ 167) (by decide : (168 : Nat) ≠ 167)) ?_
    refine zb_aload_n E dX12_statement_42 1 rfl rfl ?_
    refine zb_get E 128 (by decide) (zF_128 C.X) rfl zin12 50 (by decide) zw_1218 (v := .ref (C.X.1 + 168)) rfl dX12_statement_43 ?_
    refine zb_iload_n E dX12_statement_46 0 rfl rfl ?_
    refine zb_iconst E dX12_statement_47 (v := 0) rfl ?_
    refine zb_iast E 168 (by decide) zF_168 (f := v_first) rfl (ib_in g2) dX12_statement_48 (I2 := (va_up (va_up (va_up (va_up (va_up (va_up (va_up (va_up (va_up (va_up (va_up I 128 (va_up (va_up (va_up (va_up (va_up (va_up (va_up (va_up (I 128) 19 v_at_c1) 21 v_ended) 22 v_bad) 23 v_badPlace) 56 v_coded) 58 v_waits) 59 v_open) 60 v_base)) 165 v_many) 166 v_sort) 167 (upd v_isBlanched (ix (0 + (v_many (ix 0)))) 0)) 168 (upd v_first (ix (0 + (v_many (ix 0)))) 0)) 169 v_second) 170 v_sumFrom) 171 v_sumEnd) 172 v_testEnd) 173 v_codes) 174 v_wait)) (zn7 (by decide : (174 : Nat) ≠ 168) (by decide : (173 : Nat) ≠ 168) (by decide : (172 : Nat) ≠ 168) (by decide : (171 : Nat) ≠ 168) (by decide : (170 : Nat) ≠ 168) (by decide : (169 : Nat) ≠ 168)) ?_
    refine zb_aload_n E dX12_statement_49 1 rfl rfl ?_
    refine zb_get E 128 (by decide) (zF_128 C.X) rfl zin12 51 (by decide) zw_1219 (v := .ref (C.X.1 + 169)) rfl dX12_statement_50 ?_
    refine zb_iload_n E dX12_statement_53 0 rfl rfl ?_
    refine zb_iconst E dX12_statement_54 (v := 0) rfl ?_
    refine zb_iast E 169 (by decide) zF_169 (f := v_second) rfl (ib_in g2) dX12_statement_55 (I2 := (va_up (va_up (va_up (va_up (va_up (va_up (va_up (va_up (va_up (va_up (va_up I 128 (va_up (va_up (va_up (va_up (va_up (va_up (va_up (va_up (I 128) 19 v_at_c1) 21 v_ended) 22 v_bad) 23 v_badPlace) 56 v_coded) 58 v_waits) 59 v_open) 60 v_base)) 165 v_many) 166 v_sort) 167 (upd v_isBlanched (ix (0 + (v_many (ix 0)))) 0)) 168 (upd v_first (ix (0 + (v_many (ix 0)))) 0)) 169 (upd v_second (ix (0 + (v_many (ix 0)))) 0)) 170 v_sumFrom) 171 v_sumEnd) 172 v_testEnd) 173 v_codes) 174 v_wait)) (zn6 (by decide : (174 : Nat) ≠ 169) (by decide : (173 : Nat) ≠ 169) (by decide : (172 : Nat) ≠ 169) (by decide : (171 : Nat) ≠ 169) (by decide : (170 : Nat) ≠ 169)) ?_
    refine zb_aload_n E dX12_statement_56 1 rfl rfl ?_
    refine zb_get E 128 (by decide) (zF_128 C.X) rfl zin12 52 (by decide) zw_1220 (v := .ref (C.X.1 + 170)) rfl dX12_statement_57 ?_
    refine zb_iload_n E dX12_statement_60 0 rfl rfl ?_
    refine zb_aload_n E dX12_statement_61 1 rfl rfl ?_
    refine zb_get E 128 (by decide) (zF_128 C.X) rfl zin12 56 (by decide) zw_1224 (v := .int v_coded) rfl dX12_statement_62 ?_
    refine zb_iast E 170 (by decide) zF_170 (f := v_sumFrom) rfl (ib_in g2) dX12_statement_65 (I2 := (va_up (va_up (va_up (va_up (va_up (va_up (va_up (va_up (va_up (va_up (va_up I 128 (va_up (va_up (va_up (va_up (va_up (va_up (va_up (va_up (I 128) 19 v_at_c1) 21 v_ended) 22 v_bad) 23 v_badPlace) 56 v_coded) 58 v_waits) 59 v_open) 60 v_base)) 165 v_many) 166 v_sort) 167 (upd v_isBlanched (ix (0 + (v_many (ix 0)))) 0)) 168 (upd v_first (ix (0 + (v_many (ix 0)))) 0)) 169 (upd v_second (ix (0 + (v_many (ix 0)))) 0)) 170 (upd v_sumFrom (ix (0 + (v_many (ix 0)))) v_coded)) 171 v_sumEnd) 172 v_testEnd) 173 v_codes) 174 v_wait)) (zn5 (by decide : (174 : Nat) ≠ 170) (by decide : (173 : Nat) ≠ 170) (by decide : (172 : Nat) ≠ 170) (by decide : (171 : Nat) ≠ 170)) ?_
    refine zb_aload_n E dX12_statement_66 1 rfl rfl ?_
    refine zb_iconst E dX12_statement_67 (v := 0) rfl ?_
    refine zb_put E 128 (by decide) (zF_128 C.X) rfl zin12 58 (by decide) zw_1226 tyX12 tyX12_ok nmX12 rfl rfl rfl (I2 := (va_up (va_up (va_up (va_up (va_up (va_up (va_up (va_up (va_up (va_up (va_up I 128 (va_up (va_up (va_up (va_up (va_up (va_up (va_up (va_up (I 128) 19 v_at_c1) 21 v_ended) 22 v_bad) 23 v_badPlace) 56 v_coded) 58 0) 59 v_open) 60 v_base)) 165 v_many) 166 v_sort) 167 (upd v_isBlanched (ix (0 + (v_many (ix 0)))) 0)) 168 (upd v_first (ix (0 + (v_many (ix 0)))) 0)) 169 (upd v_second (ix (0 + (v_many (ix 0)))) 0)) 170 (upd v_sumFrom (ix (0 + (v_many (ix 0)))) v_coded)) 171 v_sumEnd) 172 v_testEnd) 173 v_codes) 174 v_wait)) (J2 := J) ((zset12_58 C.X (va_up (va_up (va_up (va_up (va_up (va_up (va_up (va_up (I 128) 19 v_at_c1) 21 v_ended) 22 v_bad) 23 v_badPlace) 56 v_coded) 58 v_waits) 59 v_open) 60 v_base) (J 128) 0).trans (congrArg (fun g => zf12 C.X g (J 128)) (zn3 (by decide : (60 : Nat) ≠ 58) (by decide : (59 : Nat) ≠ 58)))) (by rw [zflen12]; decide) (fun j hj => ⟨zup_cg (zup_cg (zup_cg (zup_cg (zup_cg (zup_cg (zup_cg (zup_cg (zup_cg (zup_cg ((zup_n hj).trans (zup_n hj).symm)))))))))), rfl⟩) dX12_statement_68 ?_
    refine zb_aload_n E dX12_statement_71 1 rfl rfl ?_
    refine zb_iconst E dX12_statement_72 (v := 0) rfl ?_
    refine zb_put E 128 (by decide) (zF_128 C.X) rfl zin12 59 (by decide) zw_1227 tyX12 tyX12_ok nmX12 rfl rfl rfl (I2 := (va_up (va_up (va_up (va_up (va_up (va_up (va_up (va_up (va_up (va_up (va_up I 128 (va_up (va_up (va_up (va_up (va_up (va_up (va_up (va_up (I 128) 19 v_at_c1) 21 v_ended) 22 v_bad) 23 v_badPlace) 56 v_coded) 58 0) 59 0) 60 v_base)) 165 v_many) 166 v_sort) 167 (upd v_isBlanched (ix (0 + (v_many (ix 0)))) 0)) 168 (upd v_first (ix (0 + (v_many (ix 0)))) 0)) 169 (upd v_second (ix (0 + (v_many (ix 0)))) 0)) 170 (upd v_sumFrom (ix (0 + (v_many (ix 0)))) v_coded)) 171 v_sumEnd) 172 v_testEnd) 173 v_codes) 174 v_wait)) (J2 := J) ((zset12_59 C.X (va_up (va_up (va_up (va_up (va_up (va_up (va_up (va_up (I 128) 19 v_at_c1) 21 v_ended) 22 v_bad) 23 v_badPlace) 56 v_coded) 58 0) 59 v_open) 60 v_base) (J 128) 0).trans (congrArg (fun g => zf12 C.X g (J 128)) (zn2 (by decide : (60 : Nat) ≠ 59)))) (by rw [zflen12]; decide) (fun j hj => ⟨zup_cg (zup_cg (zup_cg (zup_cg (zup_cg (zup_cg (zup_cg (zup_cg (zup_cg (zup_cg ((zup_n hj).trans (zup_n hj).symm)))))))))), rfl⟩) dX12_statement_73 ?_
    refine zb_aload_n E dX12_statement_76 1 rfl rfl ?_
    refine zb_iconst E dX12_statement_77 (v := 0) rfl ?_
    refine zb_put E 128 (by decide) (zF_128 C.X) rfl zin12 60 (by decide) zw_1228 tyX12 tyX12_ok nmX12 rfl rfl rfl (I2 := (va_up (va_up (va_up (va_up (va_up (va_up (va_up (va_up (va_up (va_up (va_up I 128 (va_up (va_up (va_up (va_up (va_up (va_up (va_up (va_up (I 128) 19 v_at_c1) 21 v_ended) 22 v_bad) 23 v_badPlace) 56 v_coded) 58 0) 59 0) 60 0)) 165 v_many) 166 v_sort) 167 (upd v_isBlanched (ix (0 + (v_many (ix 0)))) 0)) 168 (upd v_first (ix (0 + (v_many (ix 0)))) 0)) 169 (upd v_second (ix (0 + (v_many (ix 0)))) 0)) 170 (upd v_sumFrom (ix (0 + (v_many (ix 0)))) v_coded)) 171 v_sumEnd) 172 v_testEnd) 173 v_codes) 174 v_wait)) (J2 := J) ((zset12_60 C.X (va_up (va_up (va_up (va_up (va_up (va_up (va_up (va_up (I 128) 19 v_at_c1) 21 v_ended) 22 v_bad) 23 v_badPlace) 56 v_coded) 58 0) 59 0) 60 v_base) (J 128) 0).trans (congrArg (fun g => zf12 C.X g (J 128)) zn1)) (by rw [zflen12]; decide) (fun j hj => ⟨zup_cg (zup_cg (zup_cg (zup_cg (zup_cg (zup_cg (zup_cg (zup_cg (zup_cg (zup_cg ((zup_n hj).trans (zup_n hj).symm)))))))))), rfl⟩) dX12_statement_78 ?_
    refine zb_aload_n E dX12_statement_81 1 rfl rfl ?_
    refine zb_aload_n E dX12_statement_82 1 rfl rfl ?_
    refine zb_get E 128 (by decide) (zF_128 C.X) rfl zin12 26 (by decide) zw_1194 (v := .ref (C.X.1 + 144)) rfl dX12_statement_83 ?_
    obtain ⟨rc3, v_at_c3, v_ended_c3, hc_86, h⟩ := bd3_s h
    refine zb_cVi E [.ref (C.X.1 + 144)] 128 zy_X12_takes zw_1581 (by decide) (zF_128 _ _ _ _) rfl (c_X12_takes 144 (by decide) zF_144 (by decide) (va_up (va_up (va_up (va_up (va_up (va_up (va_up (va_up (I 128) 19 v_at_c1) 21 v_ended) 22 v_bad) 23 v_badPlace) 56 v_coded) 58 0) 59 0) 60 0) rfl v_farmWord (by exact e_v_farmWord) v_bad rfl v_end (by exact e_v_end) v_tape (by exact e_v_tape) v_at_c1 rfl v_ended rfl hc_86) (by decide) rfl rfl (by first | decide | simp [Value.category]) dX12_statement_86 (cs2 := (0, 0)) rfl ?_
    refine zb_S (S2 := ((va_up (va_up (va_up (va_up (va_up (va_up (va_up (va_up (va_up (va_up (va_up I 128 (va_up (va_up (va_up (va_up (va_up (va_up (va_up (va_up (I 128) 19 v_at_c3) 21 v_ended_c3) 22 v_bad) 23 v_badPlace) 56 v_coded) 58 0) 59 0) 60 0)) 165 v_many) 166 v_sort) 167 (upd v_isBlanched (ix (0 + (v_many (ix 0)))) 0)) 168 (upd v_first (ix (0 + (v_many (ix 0)))) 0)) 169 (upd v_second (ix (0 + (v_many (ix 0)))) 0)) 170 (upd v_sumFrom (ix (0 + (v_many (ix 0)))) v_coded)) 171 v_sumEnd) 172 v_testEnd) 173 v_codes) 174 v_wait), J, Rr, D)) (zS_eq ((zcgV ((zcgF (zn8 (by decide : (60 : Nat) ≠ 19) (by decide : (59 : Nat) ≠ 19) (by decide : (58 : Nat) ≠ 19) (by decide : (56 : Nat) ≠ 19) (by decide : (23 : Nat) ≠ 19) (by decide : (22 : Nat) ≠ 19) (by decide : (21 : Nat) ≠ 19))).trans (zn7 (by decide : (60 : Nat) ≠ 21) (by decide : (59 : Nat) ≠ 21) (by decide : (58 : Nat) ≠ 21) (by decide : (56 : Nat) ≠ 21) (by decide : (23 : Nat) ≠ 21) (by decide : (22 : Nat) ≠ 21)))).trans (zn11 (by decide : (174 : Nat) ≠ 128) (by decide : (173 : Nat) ≠ 128) (by decide : (172 : Nat) ≠ 128) (by decide : (171 : Nat) ≠ 128) (by decide : (170 : Nat) ≠ 128) (by decide : (169 : Nat) ≠ 128) (by decide : (168 : Nat) ≠ 128) (by decide : (167 : Nat) ≠ 128) (by decide : (166 : Nat) ≠ 128) (by decide : (165 : Nat) ≠ 128))) rfl) ?_
    refine zb_if_eq E dX12_statement_89 (tgt := 120) rfl (fun hc => ?_) (fun hc => ?_)
    · have h := if_t h hc
      refine zb_aload_n E dX12_statement_120 1 rfl rfl ?_
      refine zb_aload_n E dX12_statement_121 1 rfl rfl ?_
      refine zb_get E 128 (by decide) (zF_128 C.X) rfl zin12 28 (by decide) zw_1196 (v := .ref (C.X.1 + 146)) rfl dX12_statement_122 ?_
      obtain ⟨rc4, v_at_c4, v_ended_c4, hc_125, h⟩ := bd3_s h
      refine zb_cVi E [.ref (C.X.1 + 146)] 128 zy_X12_takes zw_1581 (by decide) (zF_128 _ _ _ _) rfl (c_X12_takes 146 (by decide) zF_146 (by decide) (va_up (va_up (va_up (va_up (va_up (va_up (va_up (va_up (I 128) 19 v_at_c3) 21 v_ended_c3) 22 v_bad) 23 v_badPlace) 56 v_coded) 58 0) 59 0) 60 0) rfl v_allowWord (by exact e_v_allowWord) v_bad rfl v_end (by exact e_v_end) v_tape (by exact e_v_tape) v_at_c3 rfl v_ended_c3 rfl hc_125) (by decide) rfl rfl (by first | decide | simp [Value.category]) dX12_statement_125 (cs2 := (0, 0)) rfl ?_
      refine zb_S (S2 := ((va_up (va_up (va_up (va_up (va_up (va_up (va_up (va_up (va_up (va_up (va_up I 128 (va_up (va_up (va_up (va_up (va_up (va_up (va_up (va_up (I 128) 19 v_at_c4) 21 v_ended_c4) 22 v_bad) 23 v_badPlace) 56 v_coded) 58 0) 59 0) 60 0)) 165 v_many) 166 v_sort) 167 (upd v_isBlanched (ix (0 + (v_many (ix 0)))) 0)) 168 (upd v_first (ix (0 + (v_many (ix 0)))) 0)) 169 (upd v_second (ix (0 + (v_many (ix 0)))) 0)) 170 (upd v_sumFrom (ix (0 + (v_many (ix 0)))) v_coded)) 171 v_sumEnd) 172 v_testEnd) 173 v_codes) 174 v_wait), J, Rr, D)) (zS_eq ((zcgV ((zcgF (zn8 (by decide : (60 : Nat) ≠ 19) (by decide : (59 : Nat) ≠ 19) (by decide : (58 : Nat) ≠ 19) (by decide : (56 : Nat) ≠ 19) (by decide : (23 : Nat) ≠ 19) (by decide : (22 : Nat) ≠ 19) (by decide : (21 : Nat) ≠ 19))).trans (zn7 (by decide : (60 : Nat) ≠ 21) (by decide : (59 : Nat) ≠ 21) (by decide : (58 : Nat) ≠ 21) (by decide : (56 : Nat) ≠ 21) (by decide : (23 : Nat) ≠ 21) (by decide : (22 : Nat) ≠ 21)))).trans (zn11 (by decide : (174 : Nat) ≠ 128) (by decide : (173 : Nat) ≠ 128) (by decide : (172 : Nat) ≠ 128) (by decide : (171 : Nat) ≠ 128) (by decide : (170 : Nat) ≠ 128) (by decide : (169 : Nat) ≠ 128) (by decide : (168 : Nat) ≠ 128) (by decide : (167 : Nat) ≠ 128) (by decide : (166 : Nat) ≠ 128) (by decide : (165 : Nat) ≠ 128))) rfl) ?_
      refine zb_if_eq E dX12_statement_128 (tgt := 145) rfl (fun hc => ?_) (fun hc => ?_)
      · have h := if_t h hc
        refine zb_aload_n E dX12_statement_145 1 rfl rfl ?_
        refine zb_aload_n E dX12_statement_146 1 rfl rfl ?_
        refine zb_get E 128 (by decide) (zF_128 C.X) rfl zin12 29 (by decide) zw_1197 (v := .ref (C.X.1 + 147)) rfl dX12_statement_147 ?_
        obtain ⟨rc5, v_at_c5, v_ended_c5, hc_150, h⟩ := bd3_s h
        refine zb_cVi E [.ref (C.X.1 + 147)] 128 zy_X12_takes zw_1581 (by decide) (zF_128 _ _ _ _) rfl (c_X12_takes 147 (by decide) zF_147 (by decide) (va_up (va_up (va_up (va_up (va_up (va_up (va_up (va_up (I 128) 19 v_at_c4) 21 v_ended_c4) 22 v_bad) 23 v_badPlace) 56 v_coded) 58 0) 59 0) 60 0) rfl v_pardonWord (by exact e_v_pardonWord) v_bad rfl v_end (by exact e_v_end) v_tape (by exact e_v_tape) v_at_c4 rfl v_ended_c4 rfl hc_150) (by decide) rfl rfl (by first | decide | simp [Value.category]) dX12_statement_150 (cs2 := (0, 0)) rfl ?_
        refine zb_S (S2 := ((va_up (va_up (va_up (va_up (va_up (va_up (va_up (va_up (va_up (va_up (va_up I 128 (va_up (va_up (va_up (va_up (va_up (va_up (va_up (va_up (I 128) 19 v_at_c5) 21 v_ended_c5) 22 v_bad) 23 v_badPlace) 56 v_coded) 58 0) 59 0) 60 0)) 165 v_many) 166 v_sort) 167 (upd v_isBlanched (ix (0 + (v_many (ix 0)))) 0)) 168 (upd v_first (ix (0 + (v_many (ix 0)))) 0)) 169 (upd v_second (ix (0 + (v_many (ix 0)))) 0)) 170 (upd v_sumFrom (ix (0 + (v_many (ix 0)))) v_coded)) 171 v_sumEnd) 172 v_testEnd) 173 v_codes) 174 v_wait), J, Rr, D)) (zS_eq ((zcgV ((zcgF (zn8 (by decide : (60 : Nat) ≠ 19) (by decide : (59 : Nat) ≠ 19) (by decide : (58 : Nat) ≠ 19) (by decide : (56 : Nat) ≠ 19) (by decide : (23 : Nat) ≠ 19) (by decide : (22 : Nat) ≠ 19) (by decide : (21 : Nat) ≠ 19))).trans (zn7 (by decide : (60 : Nat) ≠ 21) (by decide : (59 : Nat) ≠ 21) (by decide : (58 : Nat) ≠ 21) (by decide : (56 : Nat) ≠ 21) (by decide : (23 : Nat) ≠ 21) (by decide : (22 : Nat) ≠ 21)))).trans (zn11 (by decide : (174 : Nat) ≠ 128) (by decide : (173 : Nat) ≠ 128) (by decide : (172 : Nat) ≠ 128) (by decide : (171 : Nat) ≠ 128) (by decide : (170 : Nat) ≠ 128) (by decide : (169 : Nat) ≠ 128) (by decide : (168 : Nat) ≠ 128) (by decide : (167 : Nat) ≠ 128) (by decide : (166 : Nat) ≠ 128) (by decide : (165 : Nat) ≠ 128))) rfl) ?_
        refine zb_if_eq E dX12_statement_153 (tgt := 207) rfl (fun hc => ?_) (fun hc => ?_)
        · have h := if_t h hc
          refine zb_aload_n E dX12_statement_207 1 rfl rfl ?_
          refine zb_aload_n E dX12_statement_208 1 rfl rfl ?_
          refine zb_get E 128 (by decide) (zF_128 C.X) rfl zin12 30 (by decide) zw_1198 (v := .ref (C.X.1 + 148)) rfl dX12_statement_209 ?_
          obtain ⟨rc6, v_at_c6, v_ended_c6, hc_212, h⟩ := bd3_s h
          refine zb_cVi E [.ref (C.X.1 + 148)] 128 zy_X12_takes zw_1581 (by decide) (zF_128 _ _ _ _) rfl (c_X12_takes 148 (by decide) zF_148 (by decide) (va_up (va_up (va_up (va_up (va_up (va_up (va_up (va_up (I 128) 19 v_at_c5) 21 v_ended_c5) 22 v_bad) 23 v_badPlace) 56 v_coded) 58 0) 59 0) 60 0) rfl v_splitWord (by exact e_v_splitWord) v_bad rfl v_end (by exact e_v_end) v_tape (by exact e_v_tape) v_at_c5 rfl v_ended_c5 rfl hc_212) (by decide) rfl rfl (by first | decide | simp [Value.category]) dX12_statement_212 (cs2 := (0, 0)) rfl ?_
          refine zb_S (S2 := ((va_up (va_up (va_up (va_up (va_up (va_up (va_up (va_up (va_up (va_up (va_up I 128 (va_up (va_up (va_up (va_up (va_up (va_up (va_up (va_up (I 128) 19 v_at_c6) 21 v_ended_c6) 22 v_bad) 23 v_badPlace) 56 v_coded) 58 0) 59 0) 60 0)) 165 v_many) 166 v_sort) 167 (upd v_isBlanched (ix (0 + (v_many (ix 0)))) 0)) 168 (upd v_first (ix (0 + (v_many (ix 0)))) 0)) 169 (upd v_second (ix (0 + (v_many (ix 0)))) 0)) 170 (upd v_sumFrom (ix (0 + (v_many (ix 0)))) v_coded)) 171 v_sumEnd) 172 v_testEnd) 173 v_codes) 174 v_wait), J, Rr, D)) (zS_eq ((zcgV ((zcgF (zn8 (by decide : (60 : Nat) ≠ 19) (by decide : (59 : Nat) ≠ 19) (by decide : (58 : Nat) ≠ 19) (by decide : (56 : Nat) ≠ 19) (by decide : (23 : Nat) ≠ 19) (by decide : (22 : Nat) ≠ 19) (by decide : (21 : Nat) ≠ 19))).trans (zn7 (by decide : (60 : Nat) ≠ 21) (by decide : (59 : Nat) ≠ 21) (by decide : (58 : Nat) ≠ 21) (by decide : (56 : Nat) ≠ 21) (by decide : (23 : Nat) ≠ 21) (by decide : (22 : Nat) ≠ 21)))).trans (zn11 (by decide : (174 : Nat) ≠ 128) (by decide : (173 : Nat) ≠ 128) (by decide : (172 : Nat) ≠ 128) (by decide : (171 : Nat) ≠ 128) (by decide : (170 : Nat) ≠ 128) (by decide : (169 : Nat) ≠ 128) (by decide : (168 : Nat) ≠ 128) (by decide : (167 : Nat) ≠ 128) (by decide : (166 : Nat) ≠ 128) (by decide : (165 : Nat) ≠ 128))) rfl) ?_
          refine zb_if_eq E dX12_statement_215 (tgt := 241) rfl (fun hc => ?_) (fun hc => ?_)
          · have h := if_t h hc
            refine zb_aload_n E dX12_statement_241 1 rfl rfl ?_
            refine zb_iconst E dX12_statement_242 (v := 1) rfl ?_
            refine zb_aload_n E dX12_statement_243 1 rfl rfl ?_
            refine zb_get E 128 (by decide) (zF_128 C.X) rfl zin12 19 (by decide) zw_1187 (v := .int v_at_c6) rfl dX12_statement_244 ?_
            obtain ⟨v_bad_c7, v_badPlace_c7, hc_247, h⟩ := bd2_s h
            refine zb_cVv E [.int 1, .int v_at_c6] 128 zy_X12_fail zw_1577 (by decide) (zF_128 _ _ _ _) rfl (c_X12_fail (va_up (va_up (va_up (va_up (va_up (va_up (va_up (va_up (I 128) 19 v_at_c6) 21 v_ended_c6) 22 v_bad) 23 v_badPlace) 56 v_coded) 58 0) 59 0) 60 0) rfl v_bad rfl v_badPlace rfl hc_247) (by decide) rfl rfl (by first | decide | simp [Value.category]) dX12_statement_247 (cs2 := (0, 0)) rfl ?_
            refine zb_S (S2 := ((va_up (va_up (va_up (va_up (va_up (va_up (va_up (va_up (va_up (va_up (va_up I 128 (va_up (va_up (va_up (va_up (va_up (va_up (va_up (va_up (I 128) 19 v_at_c6) 21 v_ended_c6) 22 v_bad_c7) 23 v_badPlace_c7) 56 v_coded) 58 0) 59 0) 60 0)) 165 v_many) 166 v_sort) 167 (upd v_isBlanched (ix (0 + (v_many (ix 0)))) 0)) 168 (upd v_first (ix (0 + (v_many (ix 0)))) 0)) 169 (upd v_second (ix (0 + (v_many (ix 0)))) 0)) 170 (upd v_sumFrom (ix (0 + (v_many (ix 0)))) v_coded)) 171 v_sumEnd) 172 v_testEnd) 173 v_codes) 174 v_wait), J, Rr, D)) (zS_eq ((zcgV ((zcgF (zn6 (by decide : (60 : Nat) ≠ 22) (by decide : (59 : Nat) ≠ 22) (by decide : (58 : Nat) ≠ 22) (by decide : (56 : Nat) ≠ 22) (by decide : (23 : Nat) ≠ 22))).trans (zn5 (by decide : (60 : Nat) ≠ 23) (by decide : (59 : Nat) ≠ 23) (by decide : (58 : Nat) ≠ 23) (by decide : (56 : Nat) ≠ 23)))).trans (zn11 (by decide : (174 : Nat) ≠ 128) (by decide : (173 : Nat) ≠ 128) (by decide : (172 : Nat) ≠ 128) (by decide : (171 : Nat) ≠ 128) (by decide : (170 : Nat) ≠ 128) (by decide : (169 : Nat) ≠ 128) (by decide : (168 : Nat) ≠ 128) (by decide : (167 : Nat) ≠ 128) (by decide : (166 : Nat) ≠ 128) (by decide : (165 : Nat) ≠ 128))) rfl) ?_
            refine zb_sub [1, 0] rfl ?_
            exact c_X12_statement_b250 N v_end e_v_end v_allWord e_v_allWord v_allowWord e_v_allowWord v_andWord e_v_andWord v_blanchedWord e_v_blanchedWord v_debtWord e_v_debtWord v_farmWord e_v_farmWord v_forWord e_v_forWord v_inWord e_v_inWord v_maxWord e_v_maxWord v_minWord e_v_minWord v_notWord e_v_notWord v_orWord e_v_orWord v_paidWord e_v_paidWord v_pardonWord e_v_pardonWord v_penceWord e_v_penceWord v_poundsWord e_v_poundsWord v_shillingsWord e_v_shillingsWord v_shireWord e_v_shireWord v_splitWord e_v_splitWord v_tape e_v_tape v_termWord e_v_termWord v_yearWord e_v_yearWord y_v_at y_v_bad y_v_badPlace y_v_base y_v_coded y_v_ended y_v_open y_v_waits y_v_codes y_v_first y_v_isBlanched y_v_many y_v_second y_v_sort y_v_sumEnd y_v_sumFrom y_v_testEnd y_v_wait E hQ (0 + (v_many (ix 0))) v_at_c6 v_bad_c7 v_badPlace_c7 0 v_coded v_ended_c6 0 0 v_codes (upd v_first (ix (0 + (v_many (ix 0)))) 0) (upd v_isBlanched (ix (0 + (v_many (ix 0)))) 0) v_many (upd v_second (ix (0 + (v_many (ix 0)))) 0) v_sort v_sumEnd (upd v_sumFrom (ix (0 + (v_many (ix 0)))) v_coded) v_testEnd v_wait h
          · have h := if_f h hc
            refine zb_aload_n E dX12_statement_218 1 rfl rfl ?_
            refine zb_get E 128 (by decide) (zF_128 C.X) rfl zin12 48 (by decide) zw_1216 (v := .ref (C.X.1 + 166)) rfl dX12_statement_219 ?_
            refine zb_iload_n E dX12_statement_222 0 rfl rfl ?_
            refine zb_iconst E dX12_statement_223 (v := 3) rfl ?_
            refine zb_iast E 166 (by decide) zF_166 (f := v_sort) rfl (ib_in g2) dX12_statement_224 (I2 := (va_up (va_up (va_up (va_up (va_up (va_up (va_up (va_up (va_up (va_up (va_up I 128 (va_up (va_up (va_up (va_up (va_up (va_up (va_up (va_up (I 128) 19 v_at_c6) 21 v_ended_c6) 22 v_bad) 23 v_badPlace) 56 v_coded) 58 0) 59 0) 60 0)) 165 v_many) 166 (upd v_sort (ix (0 + (v_many (ix 0)))) 3)) 167 (upd v_isBlanched (ix (0 + (v_many (ix 0)))) 0)) 168 (upd v_first (ix (0 + (v_many (ix 0)))) 0)) 169 (upd v_second (ix (0 + (v_many (ix 0)))) 0)) 170 (upd v_sumFrom (ix (0 + (v_many (ix 0)))) v_coded)) 171 v_sumEnd) 172 v_testEnd) 173 v_codes) 174 v_wait)) (zn9 (by decide : (174 : Nat) ≠ 166) (by decide : (173 : Nat) ≠ 166) (by decide : (172 : Nat) ≠ 166) (by decide : (171 : Nat) ≠ 166) (by decide : (170 : Nat) ≠ 166) (by decide : (169 : Nat) ≠ 166) (by decide : (168 : Nat) ≠ 166) (by decide : (167 : Nat) ≠ 166)) ?_
            refine zb_aload_n E dX12_statement_225 1 rfl rfl ?_
            refine zb_get E 128 (by decide) (zF_128 C.X) rfl zin12 50 (by decide) zw_1218 (v := .ref (C.X.1 + 168)) rfl dX12_statement_226 ?_
            refine zb_iload_n E dX12_statement_229 0 rfl rfl ?_
            refine zb_aload_n E dX12_statement_230 1 rfl rfl ?_
            refine zb_iconst E dX12_statement_231 (v := 2) rfl ?_
            refine zb_bipush E dX12_statement_232 (v := 20) rfl ?_
            obtain ⟨rc8, v_at_c8, v_bad_c8, v_badPlace_c8, v_ended_c8, hc_234, h⟩ := bd5_s h
            refine zb_cVi E [.int 2, .int 20] 128 zy_X12_number zw_1625 (by decide) (zF_128 _ _ _ _) rfl (c_X12_number (va_up (va_up (va_up (va_up (va_up (va_up (va_up (va_up (I 128) 19 v_at_c6) 21 v_ended_c6) 22 v_bad) 23 v_badPlace) 56 v_coded) 58 0) 59 0) 60 0) rfl v_end (by exact e_v_end) v_tape (by exact e_v_tape) v_at_c6 rfl v_bad rfl v_badPlace rfl v_ended_c6 rfl hc_234) (by decide) rfl rfl (by first | decide | simp [Value.category]) dX12_statement_234 (cs2 := (0, 0)) rfl ?_
            refine zb_S (S2 := ((va_up (va_up (va_up (va_up (va_up (va_up (va_up (va_up (va_up (va_up (va_up I 128 (va_up (va_up (va_up (va_up (va_up (va_up (va_up (va_up (I 128) 19 v_at_c8) 21 v_ended_c8) 22 v_bad_c8) 23 v_badPlace_c8) 56 v_coded) 58 0) 59 0) 60 0)) 165 v_many) 166 (upd v_sort (ix (0 + (v_many (ix 0)))) 3)) 167 (upd v_isBlanched (ix (0 + (v_many (ix 0)))) 0)) 168 (upd v_first (ix (0 + (v_many (ix 0)))) 0)) 169 (upd v_second (ix (0 + (v_many (ix 0)))) 0)) 170 (upd v_sumFrom (ix (0 + (v_many (ix 0)))) v_coded)) 171 v_sumEnd) 172 v_testEnd) 173 v_codes) 174 v_wait), J, Rr, D)) (zS_eq ((zcgV ((zcgF ((zcgF ((zcgF (zn8 (by decide : (60 : Nat) ≠ 19) (by decide : (59 : Nat) ≠ 19) (by decide : (58 : Nat) ≠ 19) (by decide : (56 : Nat) ≠ 19) (by decide : (23 : Nat) ≠ 19) (by decide : (22 : Nat) ≠ 19) (by decide : (21 : Nat) ≠ 19))).trans (zn7 (by decide : (60 : Nat) ≠ 21) (by decide : (59 : Nat) ≠ 21) (by decide : (58 : Nat) ≠ 21) (by decide : (56 : Nat) ≠ 21) (by decide : (23 : Nat) ≠ 21) (by decide : (22 : Nat) ≠ 21)))).trans (zn6 (by decide : (60 : Nat) ≠ 22) (by decide : (59 : Nat) ≠ 22) (by decide : (58 : Nat) ≠ 22) (by decide : (56 : Nat) ≠ 22) (by decide : (23 : Nat) ≠ 22)))).trans (zn5 (by decide : (60 : Nat) ≠ 23) (by decide : (59 : Nat) ≠ 23) (by decide : (58 : Nat) ≠ 23) (by decide : (56 : Nat) ≠ 23)))).trans (zn11 (by decide : (174 : Nat) ≠ 128) (by decide : (173 : Nat) ≠ 128) (by decide : (172 : Nat) ≠ 128) (by decide : (171 : Nat) ≠ 128) (by decide : (170 : Nat) ≠ 128) (by decide : (169 : Nat) ≠ 128) (by decide : (168 : Nat) ≠ 128) (by decide : (167 : Nat) ≠ 128) (by decide : (166 : Nat) ≠ 128) (by decide : (165 : Nat) ≠ 128))) rfl) ?_
            refine zb_iast E 168 (by decide) zF_168 (f := (upd v_first (ix (0 + (v_many (ix 0)))) 0)) rfl (ib_in g2) dX12_statement_237 (I2 := (va_up (va_up (va_up (va_up (va_up (va_up (va_up (va_up (va_up (va_up (va_up I 128 (va_up (va_up (va_up (va_up (va_up (va_up (va_up (va_up (I 128) 19 v_at_c8) 21 v_ended_c8) 22 v_bad_c8) 23 v_badPlace_c8) 56 v_coded) 58 0) 59 0) 60 0)) 165 v_many) 166 (upd v_sort (ix (0 + (v_many (ix 0)))) 3)) 167 (upd v_isBlanched (ix (0 + (v_many (ix 0)))) 0)) 168 (upd (upd v_first (ix (0 + (v_many (ix 0)))) 0) (ix (0 + (v_many (ix 0)))) rc8)) 169 (upd v_second (ix (0 + (v_many (ix 0)))) 0)) 170 (upd v_sumFrom (ix (0 + (v_many (ix 0)))) v_coded)) 171 v_sumEnd) 172 v_testEnd) 173 v_codes) 174 v_wait)) (zn7 (by decide : (174 : Nat) ≠ 168) (by decide : (173 : Nat) ≠ 168) (by decide : (172 : Nat) ≠ 168) (by decide : (171 : Nat) ≠ 168) (by decide : (170 : Nat) ≠ 168) (by decide : (169 : Nat) ≠ 168)) ?_
            refine zb_goto E dX12_statement_238 (tgt := 250) rfl ?_
            refine zb_sub [1, 0] rfl ?_
            exact c_X12_statement_b250 N v_end e_v_end v_allWord e_v_allWord v_allowWord e_v_allowWord v_andWord e_v_andWord v_blanchedWord e_v_blanchedWord v_debtWord e_v_debtWord v_farmWord e_v_farmWord v_forWord e_v_forWord v_inWord e_v_inWord v_maxWord e_v_maxWord v_minWord e_v_minWord v_notWord e_v_notWord v_orWord e_v_orWord v_paidWord e_v_paidWord v_pardonWord e_v_pardonWord v_penceWord e_v_penceWord v_poundsWord e_v_poundsWord v_shillingsWord e_v_shillingsWord v_shireWord e_v_shireWord v_splitWord e_v_splitWord v_tape e_v_tape v_termWord e_v_termWord v_yearWord e_v_yearWord y_v_at y_v_bad y_v_badPlace y_v_base y_v_coded y_v_ended y_v_open y_v_waits y_v_codes y_v_first y_v_isBlanched y_v_many y_v_second y_v_sort y_v_sumEnd y_v_sumFrom y_v_testEnd y_v_wait E hQ (0 + (v_many (ix 0))) v_at_c8 v_bad_c8 v_badPlace_c8 0 v_coded v_ended_c8 0 0 v_codes (upd (upd v_first (ix (0 + (v_many (ix 0)))) 0) (ix (0 + (v_many (ix 0)))) rc8) (upd v_isBlanched (ix (0 + (v_many (ix 0)))) 0) v_many (upd v_second (ix (0 + (v_many (ix 0)))) 0) (upd v_sort (ix (0 + (v_many (ix 0)))) 3) v_sumEnd (upd v_sumFrom (ix (0 + (v_many (ix 0)))) v_coded) v_testEnd v_wait h
        · have h := if_f h hc
          refine zb_aload_n E dX12_statement_156 1 rfl rfl ?_
          refine zb_get E 128 (by decide) (zF_128 C.X) rfl zin12 48 (by decide) zw_1216 (v := .ref (C.X.1 + 166)) rfl dX12_statement_157 ?_
          refine zb_iload_n E dX12_statement_160 0 rfl rfl ?_
          refine zb_iconst E dX12_statement_161 (v := 2) rfl ?_
          refine zb_iast E 166 (by decide) zF_166 (f := v_sort) rfl (ib_in g2) dX12_statement_162 (I2 := (va_up (va_up (va_up (va_up (va_up (va_up (va_up (va_up (va_up (va_up (va_up I 128 (va_up (va_up (va_up (va_up (va_up (va_up (va_up (va_up (I 128) 19 v_at_c5) 21 v_ended_c5) 22 v_bad) 23 v_badPlace) 56 v_coded) 58 0) 59 0) 60 0)) 165 v_many) 166 (upd v_sort (ix (0 + (v_many (ix 0)))) 2)) 167 (upd v_isBlanched (ix (0 + (v_many (ix 0)))) 0)) 168 (upd v_first (ix (0 + (v_many (ix 0)))) 0)) 169 (upd v_second (ix (0 + (v_many (ix 0)))) 0)) 170 (upd v_sumFrom (ix (0 + (v_many (ix 0)))) v_coded)) 171 v_sumEnd) 172 v_testEnd) 173 v_codes) 174 v_wait)) (zn9 (by decide : (174 : Nat) ≠ 166) (by decide : (173 : Nat) ≠ 166) (by decide : (172 : Nat) ≠ 166) (by decide : (171 : Nat) ≠ 166) (by decide : (170 : Nat) ≠ 166) (by decide : (169 : Nat) ≠ 166) (by decide : (168 : Nat) ≠ 166) (by decide : (167 : Nat) ≠ 166)) ?_
          refine zb_aload_n E dX12_statement_163 1 rfl rfl ?_
          refine zb_get E 128 (by decide) (zF_128 C.X) rfl zin12 50 (by decide) zw_1218 (v := .ref (C.X.1 + 168)) rfl dX12_statement_164 ?_
          refine zb_iload_n E dX12_statement_167 0 rfl rfl ?_
          refine zb_aload_n E dX12_statement_168 1 rfl rfl ?_
          refine zb_iconst E dX12_statement_169 (v := 1) rfl ?_
          refine zb_sipush E dX12_statement_170 (v := 999) rfl ?_
          obtain ⟨rc9, v_at_c9, v_bad_c9, v_badPlace_c9, v_ended_c9, hc_173, h⟩ := bd5_s h
          refine zb_cVi E [.int 1, .int 999] 128 zy_X12_number zw_1625 (by decide) (zF_128 _ _ _ _) rfl (c_X12_number (va_up (va_up (va_up (va_up (va_up (va_up (va_up (va_up (I 128) 19 v_at_c5) 21 v_ended_c5) 22 v_bad) 23 v_badPlace) 56 v_coded) 58 0) 59 0) 60 0) rfl v_end (by exact e_v_end) v_tape (by exact e_v_tape) v_at_c5 rfl v_bad rfl v_badPlace rfl v_ended_c5 rfl hc_173) (by decide) rfl rfl (by first | decide | simp [Value.category]) dX12_statement_173 (cs2 := (0, 0)) rfl ?_
          refine zb_S (S2 := ((va_up (va_up (va_up (va_up (va_up (va_up (va_up (va_up (va_up (va_up (va_up I 128 (va_up (va_up (va_up (va_up (va_up (va_up (va_up (va_up (I 128) 19 v_at_c9) 21 v_ended_c9) 22 v_bad_c9) 23 v_badPlace_c9) 56 v_coded) 58 0) 59 0) 60 0)) 165 v_many) 166 (upd v_sort (ix (0 + (v_many (ix 0)))) 2)) 167 (upd v_isBlanched (ix (0 + (v_many (ix 0)))) 0)) 168 (upd v_first (ix (0 + (v_many (ix 0)))) 0)) 169 (upd v_second (ix (0 + (v_many (ix 0)))) 0)) 170 (upd v_sumFrom (ix (0 + (v_many (ix 0)))) v_coded)) 171 v_sumEnd) 172 v_testEnd) 173 v_codes) 174 v_wait), J, Rr, D)) (zS_eq ((zcgV ((zcgF ((zcgF ((zcgF (zn8 (by decide : (60 : Nat) ≠ 19) (by decide : (59 : Nat) ≠ 19) (by decide : (58 : Nat) ≠ 19) (by decide : (56 : Nat) ≠ 19) (by decide : (23 : Nat) ≠ 19) (by decide : (22 : Nat) ≠ 19) (by decide : (21 : Nat) ≠ 19))).trans (zn7 (by decide : (60 : Nat) ≠ 21) (by decide : (59 : Nat) ≠ 21) (by decide : (58 : Nat) ≠ 21) (by decide : (56 : Nat) ≠ 21) (by decide : (23 : Nat) ≠ 21) (by decide : (22 : Nat) ≠ 21)))).trans (zn6 (by decide : (60 : Nat) ≠ 22) (by decide : (59 : Nat) ≠ 22) (by decide : (58 : Nat) ≠ 22) (by decide : (56 : Nat) ≠ 22) (by decide : (23 : Nat) ≠ 22)))).trans (zn5 (by decide : (60 : Nat) ≠ 23) (by decide : (59 : Nat) ≠ 23) (by decide : (58 : Nat) ≠ 23) (by decide : (56 : Nat) ≠ 23)))).trans (zn11 (by decide : (174 : Nat) ≠ 128) (by decide : (173 : Nat) ≠ 128) (by decide : (172 : Nat) ≠ 128) (by decide : (171 : Nat) ≠ 128) (by decide : (170 : Nat) ≠ 128) (by decide : (169 : Nat) ≠ 128) (by decide : (168 : Nat) ≠ 128) (by decide : (167 : Nat) ≠ 128) (by decide : (166 : Nat) ≠ 128) (by decide : (165 : Nat) ≠ 128))) rfl) ?_
          refine zb_iast E 168 (by decide) zF_168 (f := (upd v_first (ix (0 + (v_many (ix 0)))) 0)) rfl (ib_in g2) dX12_statement_176 (I2 := (va_up (va_up (va_up (va_up (va_up (va_up (va_up (va_up (va_up (va_up (va_up I 128 (va_up (va_up (va_up (va_up (va_up (va_up (va_up (va_up (I 128) 19 v_at_c9) 21 v_ended_c9) 22 v_bad_c9) 23 v_badPlace_c9) 56 v_coded) 58 0) 59 0) 60 0)) 165 v_many) 166 (upd v_sort (ix (0 + (v_many (ix 0)))) 2)) 167 (upd v_isBlanched (ix (0 + (v_many (ix 0)))) 0)) 168 (upd (upd v_first (ix (0 + (v_many (ix 0)))) 0) (ix (0 + (v_many (ix 0)))) rc9)) 169 (upd v_second (ix (0 + (v_many (ix 0)))) 0)) 170 (upd v_sumFrom (ix (0 + (v_many (ix 0)))) v_coded)) 171 v_sumEnd) 172 v_testEnd) 173 v_codes) 174 v_wait)) (zn7 (by decide : (174 : Nat) ≠ 168) (by decide : (173 : Nat) ≠ 168) (by decide : (172 : Nat) ≠ 168) (by decide : (171 : Nat) ≠ 168) (by decide : (170 : Nat) ≠ 168) (by decide : (169 : Nat) ≠ 168)) ?_
          refine zb_aload_n E dX12_statement_177 1 rfl rfl ?_
          refine zb_aload_n E dX12_statement_178 1 rfl rfl ?_
          refine zb_get E 128 (by decide) (zF_128 C.X) rfl zin12 31 (by decide) zw_1199 (v := .ref (C.X.1 + 149)) rfl dX12_statement_179 ?_
          obtain ⟨v_at_c10, v_bad_c10, v_badPlace_c10, v_ended_c10, hc_182, h⟩ := bd4_s h
          refine zb_cVv E [.ref (C.X.1 + 149)] 128 zy_X12_asks zw_1604 (by decide) (zF_128 _ _ _ _) rfl (c_X12_asks 149 (by decide) zF_149 (by decide) (va_up (va_up (va_up (va_up (va_up (va_up (va_up (va_up (I 128) 19 v_at_c9) 21 v_ended_c9) 22 v_bad_c9) 23 v_badPlace_c9) 56 v_coded) 58 0) 59 0) 60 0) rfl v_inWord (by exact e_v_inWord) v_end (by exact e_v_end) v_tape (by exact e_v_tape) v_at_c9 rfl v_bad_c9 rfl v_badPlace_c9 rfl v_ended_c9 rfl hc_182) (by decide) rfl rfl (by first | decide | simp [Value.category]) dX12_statement_182 (cs2 := (0, 0)) rfl ?_
          refine zb_S (S2 := ((va_up (va_up (va_up (va_up (va_up (va_up (va_up (va_up (va_up (va_up (va_up I 128 (va_up (va_up (va_up (va_up (va_up (va_up (va_up (va_up (I 128) 19 v_at_c10) 21 v_ended_c10) 22 v_bad_c10) 23 v_badPlace_c10) 56 v_coded) 58 0) 59 0) 60 0)) 165 v_many) 166 (upd v_sort (ix (0 + (v_many (ix 0)))) 2)) 167 (upd v_isBlanched (ix (0 + (v_many (ix 0)))) 0)) 168 (upd (upd v_first (ix (0 + (v_many (ix 0)))) 0) (ix (0 + (v_many (ix 0)))) rc9)) 169 (upd v_second (ix (0 + (v_many (ix 0)))) 0)) 170 (upd v_sumFrom (ix (0 + (v_many (ix 0)))) v_coded)) 171 v_sumEnd) 172 v_testEnd) 173 v_codes) 174 v_wait), J, Rr, D)) (zS_eq ((zcgV ((zcgF ((zcgF ((zcgF (zn8 (by decide : (60 : Nat) ≠ 19) (by decide : (59 : Nat) ≠ 19) (by decide : (58 : Nat) ≠ 19) (by decide : (56 : Nat) ≠ 19) (by decide : (23 : Nat) ≠ 19) (by decide : (22 : Nat) ≠ 19) (by decide : (21 : Nat) ≠ 19))).trans (zn7 (by decide : (60 : Nat) ≠ 21) (by decide : (59 : Nat) ≠ 21) (by decide : (58 : Nat) ≠ 21) (by decide : (56 : Nat) ≠ 21) (by decide : (23 : Nat) ≠ 21) (by decide : (22 : Nat) ≠ 21)))).trans (zn6 (by decide : (60 : Nat) ≠ 22) (by decide : (59 : Nat) ≠ 22) (by decide : (58 : Nat) ≠ 22) (by decide : (56 : Nat) ≠ 22) (by decide : (23 : Nat) ≠ 22)))).trans (zn5 (by decide : (60 : Nat) ≠ 23) (by decide : (59 : Nat) ≠ 23) (by decide : (58 : Nat) ≠ 23) (by decide : (56 : Nat) ≠ 23)))).trans (zn11 (by decide : (174 : Nat) ≠ 128) (by decide : (173 : Nat) ≠ 128) (by decide : (172 : Nat) ≠ 128) (by decide : (171 : Nat) ≠ 128) (by decide : (170 : Nat) ≠ 128) (by decide : (169 : Nat) ≠ 128) (by decide : (168 : Nat) ≠ 128) (by decide : (167 : Nat) ≠ 128) (by decide : (166 : Nat) ≠ 128) (by decide : (165 : Nat) ≠ 128))) rfl) ?_
          refine zb_aload_n E dX12_statement_185 1 rfl rfl ?_
          refine zb_get E 128 (by decide) (zF_128 C.X) rfl zin12 51 (by decide) zw_1219 (v := .ref (C.X.1 + 169)) rfl dX12_statement_186 ?_
          refine zb_iload_n E dX12_statement_189 0 rfl rfl ?_
          refine zb_aload_n E dX12_statement_190 1 rfl rfl ?_
          refine zb_aload_n E dX12_statement_191 1 rfl rfl ?_
          refine zb_get E 128 (by decide) (zF_128 C.X) rfl zin12 50 (by decide) zw_1218 (v := .ref (C.X.1 + 168)) rfl dX12_statement_192 ?_
          refine zb_iload_n E dX12_statement_195 0 rfl rfl ?_
          refine zb_iald E 168 (by decide) zF_168 (f := (upd (upd v_first (ix (0 + (v_many (ix 0)))) 0) (ix (0 + (v_many (ix 0)))) rc9)) rfl (ib_in g2) dX12_statement_196 ?_
          refine zb_sipush E dX12_statement_197 (v := 999) rfl ?_
          obtain ⟨rc11, v_at_c11, v_bad_c11, v_badPlace_c11, v_ended_c11, hc_200, h⟩ := bd5_s h
          refine zb_cVi E [.int ((upd (upd v_first (ix (0 + (v_many (ix 0)))) 0) (ix (0 + (v_many (ix 0)))) rc9) (ix (0 + (v_many (ix 0))))), .int 999] 128 zy_X12_number zw_1625 (by decide) (zF_128 _ _ _ _) rfl (c_X12_number (va_up (va_up (va_up (va_up (va_up (va_up (va_up (va_up (I 128) 19 v_at_c10) 21 v_ended_c10) 22 v_bad_c10) 23 v_badPlace_c10) 56 v_coded) 58 0) 59 0) 60 0) rfl v_end (by exact e_v_end) v_tape (by exact e_v_tape) v_at_c10 rfl v_bad_c10 rfl v_badPlace_c10 rfl v_ended_c10 rfl hc_200) (by decide) rfl rfl (by first | decide | simp [Value.category]) dX12_statement_200 (cs2 := (0, 0)) rfl ?_
          refine zb_S (S2 := ((va_up (va_up (va_up (va_up (va_up (va_up (va_up (va_up (va_up (va_up (va_up I 128 (va_up (va_up (va_up (va_up (va_up (va_up (va_up (va_up (I 128) 19 v_at_c11) 21 v_ended_c11) 22 v_bad_c11) 23 v_badPlace_c11) 56 v_coded) 58 0) 59 0) 60 0)) 165 v_many) 166 (upd v_sort (ix (0 + (v_many (ix 0)))) 2)) 167 (upd v_isBlanched (ix (0 + (v_many (ix 0)))) 0)) 168 (upd (upd v_first (ix (0 + (v_many (ix 0)))) 0) (ix (0 + (v_many (ix 0)))) rc9)) 169 (upd v_second (ix (0 + (v_many (ix 0)))) 0)) 170 (upd v_sumFrom (ix (0 + (v_many (ix 0)))) v_coded)) 171 v_sumEnd) 172 v_testEnd) 173 v_codes) 174 v_wait), J, Rr, D)) (zS_eq ((zcgV ((zcgF ((zcgF ((zcgF (zn8 (by decide : (60 : Nat) ≠ 19) (by decide : (59 : Nat) ≠ 19) (by decide : (58 : Nat) ≠ 19) (by decide : (56 : Nat) ≠ 19) (by decide : (23 : Nat) ≠ 19) (by decide : (22 : Nat) ≠ 19) (by decide : (21 : Nat) ≠ 19))).trans (zn7 (by decide : (60 : Nat) ≠ 21) (by decide : (59 : Nat) ≠ 21) (by decide : (58 : Nat) ≠ 21) (by decide : (56 : Nat) ≠ 21) (by decide : (23 : Nat) ≠ 21) (by decide : (22 : Nat) ≠ 21)))).trans (zn6 (by decide : (60 : Nat) ≠ 22) (by decide : (59 : Nat) ≠ 22) (by decide : (58 : Nat) ≠ 22) (by decide : (56 : Nat) ≠ 22) (by decide : (23 : Nat) ≠ 22)))).trans (zn5 (by decide : (60 : Nat) ≠ 23) (by decide : (59 : Nat) ≠ 23) (by decide : (58 : Nat) ≠ 23) (by decide : (56 : Nat) ≠ 23)))).trans (zn11 (by decide : (174 : Nat) ≠ 128) (by decide : (173 : Nat) ≠ 128) (by decide : (172 : Nat) ≠ 128) (by decide : (171 : Nat) ≠ 128) (by decide : (170 : Nat) ≠ 128) (by decide : (169 : Nat) ≠ 128) (by decide : (168 : Nat) ≠ 128) (by decide : (167 : Nat) ≠ 128) (by decide : (166 : Nat) ≠ 128) (by decide : (165 : Nat) ≠ 128))) rfl) ?_
          refine zb_iast E 169 (by decide) zF_169 (f := (upd v_second (ix (0 + (v_many (ix 0)))) 0)) rfl (ib_in g2) dX12_statement_203 (I2 := (va_up (va_up (va_up (va_up (va_up (va_up (va_up (va_up (va_up (va_up (va_up I 128 (va_up (va_up (va_up (va_up (va_up (va_up (va_up (va_up (I 128) 19 v_at_c11) 21 v_ended_c11) 22 v_bad_c11) 23 v_badPlace_c11) 56 v_coded) 58 0) 59 0) 60 0)) 165 v_many) 166 (upd v_sort (ix (0 + (v_many (ix 0)))) 2)) 167 (upd v_isBlanched (ix (0 + (v_many (ix 0)))) 0)) 168 (upd (upd v_first (ix (0 + (v_many (ix 0)))) 0) (ix (0 + (v_many (ix 0)))) rc9)) 169 (upd (upd v_second (ix (0 + (v_many (ix 0)))) 0) (ix (0 + (v_many (ix 0)))) rc11)) 170 (upd v_sumFrom (ix (0 + (v_many (ix 0)))) v_coded)) 171 v_sumEnd) 172 v_testEnd) 173 v_codes) 174 v_wait)) (zn6 (by decide : (174 : Nat) ≠ 169) (by decide : (173 : Nat) ≠ 169) (by decide : (172 : Nat) ≠ 169) (by decide : (171 : Nat) ≠ 169) (by decide : (170 : Nat) ≠ 169)) ?_
          refine zb_goto E dX12_statement_204 (tgt := 250) rfl ?_
          refine zb_sub [1, 0] rfl ?_
          exact c_X12_statement_b250 N v_end e_v_end v_allWord e_v_allWord v_allowWord e_v_allowWord v_andWord e_v_andWord v_blanchedWord e_v_blanchedWord v_debtWord e_v_debtWord v_farmWord e_v_farmWord v_forWord e_v_forWord v_inWord e_v_inWord v_maxWord e_v_maxWord v_minWord e_v_minWord v_notWord e_v_notWord v_orWord e_v_orWord v_paidWord e_v_paidWord v_pardonWord e_v_pardonWord v_penceWord e_v_penceWord v_poundsWord e_v_poundsWord v_shillingsWord e_v_shillingsWord v_shireWord e_v_shireWord v_splitWord e_v_splitWord v_tape e_v_tape v_termWord e_v_termWord v_yearWord e_v_yearWord y_v_at y_v_bad y_v_badPlace y_v_base y_v_coded y_v_ended y_v_open y_v_waits y_v_codes y_v_first y_v_isBlanched y_v_many y_v_second y_v_sort y_v_sumEnd y_v_sumFrom y_v_testEnd y_v_wait E hQ (0 + (v_many (ix 0))) v_at_c11 v_bad_c11 v_badPlace_c11 0 v_coded v_ended_c11 0 0 v_codes (upd (upd v_first (ix (0 + (v_many (ix 0)))) 0) (ix (0 + (v_many (ix 0)))) rc9) (upd v_isBlanched (ix (0 + (v_many (ix 0)))) 0) v_many (upd (upd v_second (ix (0 + (v_many (ix 0)))) 0) (ix (0 + (v_many (ix 0)))) rc11) (upd v_sort (ix (0 + (v_many (ix 0)))) 2) v_sumEnd (upd v_sumFrom (ix (0 + (v_many (ix 0)))) v_coded) v_testEnd v_wait h
      · have h := if_f h hc
        refine zb_aload_n E dX12_statement_131 1 rfl rfl ?_
        refine zb_get E 128 (by decide) (zF_128 C.X) rfl zin12 48 (by decide) zw_1216 (v := .ref (C.X.1 + 166)) rfl dX12_statement_132 ?_
        refine zb_iload_n E dX12_statement_135 0 rfl rfl ?_
        refine zb_iconst E dX12_statement_136 (v := 1) rfl ?_
        refine zb_iast E 166 (by decide) zF_166 (f := v_sort) rfl (ib_in g2) dX12_statement_137 (I2 := (va_up (va_up (va_up (va_up (va_up (va_up (va_up (va_up (va_up (va_up (va_up I 128 (va_up (va_up (va_up (va_up (va_up (va_up (va_up (va_up (I 128) 19 v_at_c4) 21 v_ended_c4) 22 v_bad) 23 v_badPlace) 56 v_coded) 58 0) 59 0) 60 0)) 165 v_many) 166 (upd v_sort (ix (0 + (v_many (ix 0)))) 1)) 167 (upd v_isBlanched (ix (0 + (v_many (ix 0)))) 0)) 168 (upd v_first (ix (0 + (v_many (ix 0)))) 0)) 169 (upd v_second (ix (0 + (v_many (ix 0)))) 0)) 170 (upd v_sumFrom (ix (0 + (v_many (ix 0)))) v_coded)) 171 v_sumEnd) 172 v_testEnd) 173 v_codes) 174 v_wait)) (zn9 (by decide : (174 : Nat) ≠ 166) (by decide : (173 : Nat) ≠ 166) (by decide : (172 : Nat) ≠ 166) (by decide : (171 : Nat) ≠ 166) (by decide : (170 : Nat) ≠ 166) (by decide : (169 : Nat) ≠ 166) (by decide : (168 : Nat) ≠ 166) (by decide : (167 : Nat) ≠ 166)) ?_
        refine zb_aload_n E dX12_statement_138 1 rfl rfl ?_
        obtain ⟨v_at_c12, v_bad_c12, v_badPlace_c12, v_base_c12, v_coded_c12, v_ended_c12, v_open_c12, v_waits_c12, v_codes_c12, v_wait_c12, hc_139, h⟩ := bd10_s h
        refine zb_cVv E [] 128 zy_X12_sums zw_1592 (by decide) (zF_128 _ _ _ _) rfl (c_X12_sums (va_up (va_up (va_up (va_up (va_up (va_up (va_up (va_up (I 128) 19 v_at_c4) 21 v_ended_c4) 22 v_bad) 23 v_badPlace) 56 v_coded) 58 0) 59 0) 60 0) rfl v_end (by exact e_v_end) v_debtWord (by exact e_v_debtWord) v_maxWord (by exact e_v_maxWord) v_minWord (by exact e_v_minWord) v_paidWord (by exact e_v_paidWord) v_penceWord (by exact e_v_penceWord) v_poundsWord (by exact e_v_poundsWord) v_shillingsWord (by exact e_v_shillingsWord) v_tape (by exact e_v_tape) v_termWord (by exact e_v_termWord) v_yearWord (by exact e_v_yearWord) v_at_c4 rfl v_bad rfl v_badPlace rfl 0 rfl v_coded rfl v_ended_c4 rfl 0 rfl 0 rfl v_codes rfl v_wait rfl hc_139) (by decide) rfl rfl (by first | decide | simp [Value.category]) dX12_statement_139 (cs2 := (0, 0)) rfl ?_
        refine zb_S (S2 := ((va_up (va_up (va_up (va_up (va_up (va_up (va_up (va_up (va_up (va_up (va_up I 128 (va_up (va_up (va_up (va_up (va_up (va_up (va_up (va_up (I 128) 19 v_at_c12) 21 v_ended_c12) 22 v_bad_c12) 23 v_badPlace_c12) 56 v_coded_c12) 58 v_waits_c12) 59 v_open_c12) 60 v_base_c12)) 165 v_many) 166 (upd v_sort (ix (0 + (v_many (ix 0)))) 1)) 167 (upd v_isBlanched (ix (0 + (v_many (ix 0)))) 0)) 168 (upd v_first (ix (0 + (v_many (ix 0)))) 0)) 169 (upd v_second (ix (0 + (v_many (ix 0)))) 0)) 170 (upd v_sumFrom (ix (0 + (v_many (ix 0)))) v_coded)) 171 v_sumEnd) 172 v_testEnd) 173 v_codes_c12) 174 v_wait_c12), J, Rr, D)) (zS_eq ((zcgF ((zcgF ((zcgV ((zcgF ((zcgF ((zcgF ((zcgF ((zcgF ((zcgF ((zcgF (zn8 (by decide : (60 : Nat) ≠ 19) (by decide : (59 : Nat) ≠ 19) (by decide : (58 : Nat) ≠ 19) (by decide : (56 : Nat) ≠ 19) (by decide : (23 : Nat) ≠ 19) (by decide : (22 : Nat) ≠ 19) (by decide : (21 : Nat) ≠ 19))).trans (zn7 (by decide : (60 : Nat) ≠ 21) (by decide : (59 : Nat) ≠ 21) (by decide : (58 : Nat) ≠ 21) (by decide : (56 : Nat) ≠ 21) (by decide : (23 : Nat) ≠ 21) (by decide : (22 : Nat) ≠ 21)))).trans (zn6 (by decide : (60 : Nat) ≠ 22) (by decide : (59 : Nat) ≠ 22) (by decide : (58 : Nat) ≠ 22) (by decide : (56 : Nat) ≠ 22) (by decide : (23 : Nat) ≠ 22)))).trans (zn5 (by decide : (60 : Nat) ≠ 23) (by decide : (59 : Nat) ≠ 23) (by decide : (58 : Nat) ≠ 23) (by decide : (56 : Nat) ≠ 23)))).trans (zn4 (by decide : (60 : Nat) ≠ 56) (by decide : (59 : Nat) ≠ 56) (by decide : (58 : Nat) ≠ 56)))).trans (zn3 (by decide : (60 : Nat) ≠ 58) (by decide : (59 : Nat) ≠ 58)))).trans (zn2 (by decide : (60 : Nat) ≠ 59)))).trans zn1)).trans (zn11 (by decide : (174 : Nat) ≠ 128) (by decide : (173 : Nat) ≠ 128) (by decide : (172 : Nat) ≠ 128) (by decide : (171 : Nat) ≠ 128) (by decide : (170 : Nat) ≠ 128) (by decide : (169 : Nat) ≠ 128) (by decide : (168 : Nat) ≠ 128) (by decide : (167 : Nat) ≠ 128) (by decide : (166 : Nat) ≠ 128) (by decide : (165 : Nat) ≠ 128)))).trans (zn2 (by decide : (174 : Nat) ≠ 173)))).trans zn1) rfl) ?_
        refine zb_goto E dX12_statement_142 (tgt := 250) rfl ?_
        refine zb_sub [1, 0] rfl ?_
        exact c_X12_statement_b250 N v_end e_v_end v_allWord e_v_allWord v_allowWord e_v_allowWord v_andWord e_v_andWord v_blanchedWord e_v_blanchedWord v_debtWord e_v_debtWord v_farmWord e_v_farmWord v_forWord e_v_forWord v_inWord e_v_inWord v_maxWord e_v_maxWord v_minWord e_v_minWord v_notWord e_v_notWord v_orWord e_v_orWord v_paidWord e_v_paidWord v_pardonWord e_v_pardonWord v_penceWord e_v_penceWord v_poundsWord e_v_poundsWord v_shillingsWord e_v_shillingsWord v_shireWord e_v_shireWord v_splitWord e_v_splitWord v_tape e_v_tape v_termWord e_v_termWord v_yearWord e_v_yearWord y_v_at y_v_bad y_v_badPlace y_v_base y_v_coded y_v_ended y_v_open y_v_waits y_v_codes y_v_first y_v_isBlanched y_v_many y_v_second y_v_sort y_v_sumEnd y_v_sumFrom y_v_testEnd y_v_wait E hQ (0 + (v_many (ix 0))) v_at_c12 v_bad_c12 v_badPlace_c12 v_base_c12 v_coded_c12 v_ended_c12 v_open_c12 v_waits_c12 v_codes_c12 (upd v_first (ix (0 + (v_many (ix 0)))) 0) (upd v_isBlanched (ix (0 + (v_many (ix 0)))) 0) v_many (upd v_second (ix (0 + (v_many (ix 0)))) 0) (upd v_sort (ix (0 + (v_many (ix 0)))) 1) v_sumEnd (upd v_sumFrom (ix (0 + (v_many (ix 0)))) v_coded) v_testEnd v_wait_c12 h
    · have h := if_f h hc
      refine zb_aload_n E dX12_statement_92 1 rfl rfl ?_
      refine zb_get E 128 (by decide) (zF_128 C.X) rfl zin12 48 (by decide) zw_1216 (v := .ref (C.X.1 + 166)) rfl dX12_statement_93 ?_
      refine zb_iload_n E dX12_statement_96 0 rfl rfl ?_
      refine zb_iconst E dX12_statement_97 (v := 0) rfl ?_
      refine zb_iast E 166 (by decide) zF_166 (f := v_sort) rfl (ib_in g2) dX12_statement_98 (I2 := (va_up (va_up (va_up (va_up (va_up (va_up (va_up (va_up (va_up (va_up (va_up I 128 (va_up (va_up (va_up (va_up (va_up (va_up (va_up (va_up (I 128) 19 v_at_c3) 21 v_ended_c3) 22 v_bad) 23 v_badPlace) 56 v_coded) 58 0) 59 0) 60 0)) 165 v_many) 166 (upd v_sort (ix (0 + (v_many (ix 0)))) 0)) 167 (upd v_isBlanched (ix (0 + (v_many (ix 0)))) 0)) 168 (upd v_first (ix (0 + (v_many (ix 0)))) 0)) 169 (upd v_second (ix (0 + (v_many (ix 0)))) 0)) 170 (upd v_sumFrom (ix (0 + (v_many (ix 0)))) v_coded)) 171 v_sumEnd) 172 v_testEnd) 173 v_codes) 174 v_wait)) (zn9 (by decide : (174 : Nat) ≠ 166) (by decide : (173 : Nat) ≠ 166) (by decide : (172 : Nat) ≠ 166) (by decide : (171 : Nat) ≠ 166) (by decide : (170 : Nat) ≠ 166) (by decide : (169 : Nat) ≠ 166) (by decide : (168 : Nat) ≠ 166) (by decide : (167 : Nat) ≠ 166)) ?_
      refine zb_aload_n E dX12_statement_99 1 rfl rfl ?_
      obtain ⟨v_at_c13, v_bad_c13, v_badPlace_c13, v_base_c13, v_coded_c13, v_ended_c13, v_open_c13, v_waits_c13, v_codes_c13, v_wait_c13, hc_100, h⟩ := bd10_s h
      refine zb_cVv E [] 128 zy_X12_sums zw_1592 (by decide) (zF_128 _ _ _ _) rfl (c_X12_sums (va_up (va_up (va_up (va_up (va_up (va_up (va_up (va_up (I 128) 19 v_at_c3) 21 v_ended_c3) 22 v_bad) 23 v_badPlace) 56 v_coded) 58 0) 59 0) 60 0) rfl v_end (by exact e_v_end) v_debtWord (by exact e_v_debtWord) v_maxWord (by exact e_v_maxWord) v_minWord (by exact e_v_minWord) v_paidWord (by exact e_v_paidWord) v_penceWord (by exact e_v_penceWord) v_poundsWord (by exact e_v_poundsWord) v_shillingsWord (by exact e_v_shillingsWord) v_tape (by exact e_v_tape) v_termWord (by exact e_v_termWord) v_yearWord (by exact e_v_yearWord) v_at_c3 rfl v_bad rfl v_badPlace rfl 0 rfl v_coded rfl v_ended_c3 rfl 0 rfl 0 rfl v_codes rfl v_wait rfl hc_100) (by decide) rfl rfl (by first | decide | simp [Value.category]) dX12_statement_100 (cs2 := (0, 0)) rfl ?_
      refine zb_S (S2 := ((va_up (va_up (va_up (va_up (va_up (va_up (va_up (va_up (va_up (va_up (va_up I 128 (va_up (va_up (va_up (va_up (va_up (va_up (va_up (va_up (I 128) 19 v_at_c13) 21 v_ended_c13) 22 v_bad_c13) 23 v_badPlace_c13) 56 v_coded_c13) 58 v_waits_c13) 59 v_open_c13) 60 v_base_c13)) 165 v_many) 166 (upd v_sort (ix (0 + (v_many (ix 0)))) 0)) 167 (upd v_isBlanched (ix (0 + (v_many (ix 0)))) 0)) 168 (upd v_first (ix (0 + (v_many (ix 0)))) 0)) 169 (upd v_second (ix (0 + (v_many (ix 0)))) 0)) 170 (upd v_sumFrom (ix (0 + (v_many (ix 0)))) v_coded)) 171 v_sumEnd) 172 v_testEnd) 173 v_codes_c13) 174 v_wait_c13), J, Rr, D)) (zS_eq ((zcgF ((zcgF ((zcgV ((zcgF ((zcgF ((zcgF ((zcgF ((zcgF ((zcgF ((zcgF (zn8 (by decide : (60 : Nat) ≠ 19) (by decide : (59 : Nat) ≠ 19) (by decide : (58 : Nat) ≠ 19) (by decide : (56 : Nat) ≠ 19) (by decide : (23 : Nat) ≠ 19) (by decide : (22 : Nat) ≠ 19) (by decide : (21 : Nat) ≠ 19))).trans (zn7 (by decide : (60 : Nat) ≠ 21) (by decide : (59 : Nat) ≠ 21) (by decide : (58 : Nat) ≠ 21) (by decide : (56 : Nat) ≠ 21) (by decide : (23 : Nat) ≠ 21) (by decide : (22 : Nat) ≠ 21)))).trans (zn6 (by decide : (60 : Nat) ≠ 22) (by decide : (59 : Nat) ≠ 22) (by decide : (58 : Nat) ≠ 22) (by decide : (56 : Nat) ≠ 22) (by decide : (23 : Nat) ≠ 22)))).trans (zn5 (by decide : (60 : Nat) ≠ 23) (by decide : (59 : Nat) ≠ 23) (by decide : (58 : Nat) ≠ 23) (by decide : (56 : Nat) ≠ 23)))).trans (zn4 (by decide : (60 : Nat) ≠ 56) (by decide : (59 : Nat) ≠ 56) (by decide : (58 : Nat) ≠ 56)))).trans (zn3 (by decide : (60 : Nat) ≠ 58) (by decide : (59 : Nat) ≠ 58)))).trans (zn2 (by decide : (60 : Nat) ≠ 59)))).trans zn1)).trans (zn11 (by decide : (174 : Nat) ≠ 128) (by decide : (173 : Nat) ≠ 128) (by decide : (172 : Nat) ≠ 128) (by decide : (171 : Nat) ≠ 128) (by decide : (170 : Nat) ≠ 128) (by decide : (169 : Nat) ≠ 128) (by decide : (168 : Nat) ≠ 128) (by decide : (167 : Nat) ≠ 128) (by decide : (166 : Nat) ≠ 128) (by decide : (165 : Nat) ≠ 128)))).trans (zn2 (by decide : (174 : Nat) ≠ 173)))).trans zn1) rfl) ?_
      refine zb_aload_n E dX12_statement_103 1 rfl rfl ?_
      refine zb_get E 128 (by decide) (zF_128 C.X) rfl zin12 49 (by decide) zw_1217 (v := .ref (C.X.1 + 167)) rfl dX12_statement_104 ?_
      refine zb_iload_n E dX12_statement_107 0 rfl rfl ?_
      refine zb_aload_n E dX12_statement_108 1 rfl rfl ?_
      refine zb_aload_n E dX12_statement_109 1 rfl rfl ?_
      refine zb_get E 128 (by decide) (zF_128 C.X) rfl zin12 27 (by decide) zw_1195 (v := .ref (C.X.1 + 145)) rfl dX12_statement_110 ?_
      obtain ⟨rc14, v_at_c14, v_ended_c14, hc_113, h⟩ := bd3_s h
      refine zb_cVi E [.ref (C.X.1 + 145)] 128 zy_X12_takes zw_1581 (by decide) (zF_128 _ _ _ _) rfl (c_X12_takes 145 (by decide) zF_145 (by decide) (va_up (va_up (va_up (va_up (va_up (va_up (va_up (va_up (I 128) 19 v_at_c13) 21 v_ended_c13) 22 v_bad_c13) 23 v_badPlace_c13) 56 v_coded_c13) 58 v_waits_c13) 59 v_open_c13) 60 v_base_c13) rfl v_blanchedWord (by exact e_v_blanchedWord) v_bad_c13 rfl v_end (by exact e_v_end) v_tape (by exact e_v_tape) v_at_c13 rfl v_ended_c13 rfl hc_113) (by decide) rfl rfl (by first | decide | simp [Value.category]) dX12_statement_113 (cs2 := (0, 0)) rfl ?_
      refine zb_S (S2 := ((va_up (va_up (va_up (va_up (va_up (va_up (va_up (va_up (va_up (va_up (va_up I 128 (va_up (va_up (va_up (va_up (va_up (va_up (va_up (va_up (I 128) 19 v_at_c14) 21 v_ended_c14) 22 v_bad_c13) 23 v_badPlace_c13) 56 v_coded_c13) 58 v_waits_c13) 59 v_open_c13) 60 v_base_c13)) 165 v_many) 166 (upd v_sort (ix (0 + (v_many (ix 0)))) 0)) 167 (upd v_isBlanched (ix (0 + (v_many (ix 0)))) 0)) 168 (upd v_first (ix (0 + (v_many (ix 0)))) 0)) 169 (upd v_second (ix (0 + (v_many (ix 0)))) 0)) 170 (upd v_sumFrom (ix (0 + (v_many (ix 0)))) v_coded)) 171 v_sumEnd) 172 v_testEnd) 173 v_codes_c13) 174 v_wait_c13), J, Rr, D)) (zS_eq ((zcgV ((zcgF (zn8 (by decide : (60 : Nat) ≠ 19) (by decide : (59 : Nat) ≠ 19) (by decide : (58 : Nat) ≠ 19) (by decide : (56 : Nat) ≠ 19) (by decide : (23 : Nat) ≠ 19) (by decide : (22 : Nat) ≠ 19) (by decide : (21 : Nat) ≠ 19))).trans (zn7 (by decide : (60 : Nat) ≠ 21) (by decide : (59 : Nat) ≠ 21) (by decide : (58 : Nat) ≠ 21) (by decide : (56 : Nat) ≠ 21) (by decide : (23 : Nat) ≠ 21) (by decide : (22 : Nat) ≠ 21)))).trans (zn11 (by decide : (174 : Nat) ≠ 128) (by decide : (173 : Nat) ≠ 128) (by decide : (172 : Nat) ≠ 128) (by decide : (171 : Nat) ≠ 128) (by decide : (170 : Nat) ≠ 128) (by decide : (169 : Nat) ≠ 128) (by decide : (168 : Nat) ≠ 128) (by decide : (167 : Nat) ≠ 128) (by decide : (166 : Nat) ≠ 128) (by decide : (165 : Nat) ≠ 128))) rfl) ?_
      refine zb_zast E 167 (by decide) zF_167 (f := (upd v_isBlanched (ix (0 + (v_many (ix 0)))) 0)) rfl (ib_in g2) dX12_statement_116 (I2 := (va_up (va_up (va_up (va_up (va_up (va_up (va_up (va_up (va_up (va_up (va_up I 128 (va_up (va_up (va_up (va_up (va_up (va_up (va_up (va_up (I 128) 19 v_at_c14) 21 v_ended_c14) 22 v_bad_c13) 23 v_badPlace_c13) 56 v_coded_c13) 58 v_waits_c13) 59 v_open_c13) 60 v_base_c13)) 165 v_many) 166 (upd v_sort (ix (0 + (v_many (ix 0)))) 0)) 167 (upd (upd v_isBlanched (ix (0 + (v_many (ix 0)))) 0) (ix (0 + (v_many (ix 0)))) (nZ rc14))) 168 (upd v_first (ix (0 + (v_many (ix 0)))) 0)) 169 (upd v_second (ix (0 + (v_many (ix 0)))) 0)) 170 (upd v_sumFrom (ix (0 + (v_many (ix 0)))) v_coded)) 171 v_sumEnd) 172 v_testEnd) 173 v_codes_c13) 174 v_wait_c13)) (zn8 (by decide : (174 : Nat) ≠ 167) (by decide : (173 : Nat) ≠ 167) (by decide : (172 : Nat) ≠ 167) (by decide : (171 : Nat) ≠ 167) (by decide : (170 : Nat) ≠ 167) (by decide : (169 : Nat) ≠ 167) (by decide : (168 : Nat) ≠ 167)) ?_
      refine zb_goto E dX12_statement_117 (tgt := 250) rfl ?_
      refine zb_sub [1, 0] rfl ?_
      exact c_X12_statement_b250 N v_end e_v_end v_allWord e_v_allWord v_allowWord e_v_allowWord v_andWord e_v_andWord v_blanchedWord e_v_blanchedWord v_debtWord e_v_debtWord v_farmWord e_v_farmWord v_forWord e_v_forWord v_inWord e_v_inWord v_maxWord e_v_maxWord v_minWord e_v_minWord v_notWord e_v_notWord v_orWord e_v_orWord v_paidWord e_v_paidWord v_pardonWord e_v_pardonWord v_penceWord e_v_penceWord v_poundsWord e_v_poundsWord v_shillingsWord e_v_shillingsWord v_shireWord e_v_shireWord v_splitWord e_v_splitWord v_tape e_v_tape v_termWord e_v_termWord v_yearWord e_v_yearWord y_v_at y_v_bad y_v_badPlace y_v_base y_v_coded y_v_ended y_v_open y_v_waits y_v_codes y_v_first y_v_isBlanched y_v_many y_v_second y_v_sort y_v_sumEnd y_v_sumFrom y_v_testEnd y_v_wait E hQ (0 + (v_many (ix 0))) v_at_c14 v_bad_c13 v_badPlace_c13 v_base_c13 v_coded_c13 v_ended_c14 v_open_c13 v_waits_c13 v_codes_c13 (upd v_first (ix (0 + (v_many (ix 0)))) 0) (upd (upd v_isBlanched (ix (0 + (v_many (ix 0)))) 0) (ix (0 + (v_many (ix 0)))) (nZ rc14)) v_many (upd v_second (ix (0 + (v_many (ix 0)))) 0) (upd v_sort (ix (0 + (v_many (ix 0)))) 0) v_sumEnd (upd v_sumFrom (ix (0 + (v_many (ix 0)))) v_coded) v_testEnd v_wait_c13 h
  · have h := if_t h hc
    refine zb_aload_n E dX12_statement_25 1 rfl rfl ?_
    refine zb_iconst E dX12_statement_26 (v := 4) rfl ?_
    refine zb_aload_n E dX12_statement_27 1 rfl rfl ?_
    refine zb_get E 128 (by decide) (zF_128 C.X) rfl zin12 19 (by decide) zw_1187 (v := .int v_at_c1) rfl dX12_statement_28 ?_
    obtain ⟨v_bad_c15, v_badPlace_c15, hc_31, h⟩ := bd2_s h
    refine zb_cVv E [.int 4, .int v_at_c1] 128 zy_X12_fail zw_1577 (by decide) (zF_128 _ _ _ _) rfl (c_X12_fail (va_up (va_up (va_up (va_up (va_up (va_up (va_up (va_up (I 128) 19 v_at_c1) 21 v_ended) 22 v_bad) 23 v_badPlace) 56 v_coded) 58 v_waits) 59 v_open) 60 v_base) rfl v_bad rfl v_badPlace rfl hc_31) (by decide) rfl rfl (by first | decide | simp [Value.category]) dX12_statement_31 (cs2 := (0, 0)) rfl ?_
    refine zb_S (S2 := ((va_up (va_up (va_up (va_up (va_up (va_up (va_up (va_up (va_up (va_up (va_up I 128 (va_up (va_up (va_up (va_up (va_up (va_up (va_up (va_up (I 128) 19 v_at_c1) 21 v_ended) 22 v_bad_c15) 23 v_badPlace_c15) 56 v_coded) 58 v_waits) 59 v_open) 60 v_base)) 165 v_many) 166 v_sort) 167 v_isBlanched) 168 v_first) 169 v_second) 170 v_sumFrom) 171 v_sumEnd) 172 v_testEnd) 173 v_codes) 174 v_wait), J, Rr, D)) (zS_eq ((zcgV ((zcgF (zn6 (by decide : (60 : Nat) ≠ 22) (by decide : (59 : Nat) ≠ 22) (by decide : (58 : Nat) ≠ 22) (by decide : (56 : Nat) ≠ 22) (by decide : (23 : Nat) ≠ 22))).trans (zn5 (by decide : (60 : Nat) ≠ 23) (by decide : (59 : Nat) ≠ 23) (by decide : (58 : Nat) ≠ 23) (by decide : (56 : Nat) ≠ 23)))).trans (zn11 (by decide : (174 : Nat) ≠ 128) (by decide : (173 : Nat) ≠ 128) (by decide : (172 : Nat) ≠ 128) (by decide : (171 : Nat) ≠ 128) (by decide : (170 : Nat) ≠ 128) (by decide : (169 : Nat) ≠ 128) (by decide : (168 : Nat) ≠ 128) (by decide : (167 : Nat) ≠ 128) (by decide : (166 : Nat) ≠ 128) (by decide : (165 : Nat) ≠ 128))) rfl) ?_
    obtain ⟨rfl, rfl, rfl, rfl, rfl, rfl, rfl, rfl, rfl, rfl, rfl, rfl, rfl, rfl, rfl, rfl, rfl, rfl⟩ := zinj18 h
    exact zb_vret E hQ rfl ⟨Nat.zero_le _, Nat.zero_le _⟩ dX12_statement_34
theorem c_X12_statement {l : Launch} {X : zX} {I : Nat → Nat → Int32} {J : Nat → Nat → Int64} {Rr : Nat → Nat → Option Nat} {D : zD} {N : Nat} (oI128 : Nat → Int32) (eoI128 : I 128 = oI128) (v_end : Int32) (e_v_end : I 128 20 = v_end) (v_allWord : (Nat → Int32)) (e_v_allWord : I 154 = v_allWord) (v_allowWord : (Nat → Int32)) (e_v_allowWord : I 146 = v_allowWord) (v_andWord : (Nat → Int32)) (e_v_andWord : I 152 = v_andWord) (v_blanchedWord : (Nat → Int32)) (e_v_blanchedWord : I 145 = v_blanchedWord) (v_debtWord : (Nat → Int32)) (e_v_debtWord : I 161 = v_debtWord) (v_farmWord : (Nat → Int32)) (e_v_farmWord : I 144 = v_farmWord) (v_forWord : (Nat → Int32)) (e_v_forWord : I 150 = v_forWord) (v_inWord : (Nat → Int32)) (e_v_inWord : I 149 = v_inWord) (v_maxWord : (Nat → Int32)) (e_v_maxWord : I 164 = v_maxWord) (v_minWord : (Nat → Int32)) (e_v_minWord : I 163 = v_minWord) (v_notWord : (Nat → Int32)) (e_v_notWord : I 153 = v_notWord) (v_orWord : (Nat → Int32)) (e_v_orWord : I 151 = v_orWord) (v_paidWord : (Nat → Int32)) (e_v_paidWord : I 162 = v_paidWord) (v_pardonWord : (Nat → Int32)) (e_v_pardonWord : I 147 = v_pardonWord) (v_penceWord : (Nat → Int32)) (e_v_penceWord : I 156 = v_penceWord) (v_poundsWord : (Nat → Int32)) (e_v_poundsWord : I 158 = v_poundsWord) (v_shillingsWord : (Nat → Int32)) (e_v_shillingsWord : I 157 = v_shillingsWord) (v_shireWord : (Nat → Int32)) (e_v_shireWord : I 155 = v_shireWord) (v_splitWord : (Nat → Int32)) (e_v_splitWord : I 148 = v_splitWord) (v_tape : (Nat → Int32)) (e_v_tape : I 143 = v_tape) (v_termWord : (Nat → Int32)) (e_v_termWord : I 159 = v_termWord) (v_yearWord : (Nat → Int32)) (e_v_yearWord : I 160 = v_yearWord) (v_at : Int32) (e_v_at : I 128 19 = v_at) (v_bad : Int32) (e_v_bad : I 128 22 = v_bad) (v_badPlace : Int32) (e_v_badPlace : I 128 23 = v_badPlace) (v_base : Int32) (e_v_base : I 128 60 = v_base) (v_coded : Int32) (e_v_coded : I 128 56 = v_coded) (v_ended : Int32) (e_v_ended : I 128 21 = v_ended) (v_open : Int32) (e_v_open : I 128 59 = v_open) (v_waits : Int32) (e_v_waits : I 128 58 = v_waits) (v_codes : (Nat → Int32)) (e_v_codes : I 173 = v_codes) (v_first : (Nat → Int32)) (e_v_first : I 168 = v_first) (v_isBlanched : (Nat → Int32)) (e_v_isBlanched : I 167 = v_isBlanched) (v_many : (Nat → Int32)) (e_v_many : I 165 = v_many) (v_second : (Nat → Int32)) (e_v_second : I 169 = v_second) (v_sort : (Nat → Int32)) (e_v_sort : I 166 = v_sort) (v_sumEnd : (Nat → Int32)) (e_v_sumEnd : I 171 = v_sumEnd) (v_sumFrom : (Nat → Int32)) (e_v_sumFrom : I 170 = v_sumFrom) (v_testEnd : (Nat → Int32)) (e_v_testEnd : I 172 = v_testEnd) (v_wait : (Nat → Int32)) (e_v_wait : I 174 = v_wait) {y_v_at : Int32} {y_v_bad : Int32} {y_v_badPlace : Int32} {y_v_base : Int32} {y_v_coded : Int32} {y_v_ended : Int32} {y_v_open : Int32} {y_v_waits : Int32} {y_v_codes : (Nat → Int32)} {y_v_first : (Nat → Int32)} {y_v_isBlanched : (Nat → Int32)} {y_v_many : (Nat → Int32)} {y_v_second : (Nat → Int32)} {y_v_sort : (Nat → Int32)} {y_v_sumEnd : (Nat → Int32)} {y_v_sumFrom : (Nat → Int32)} {y_v_testEnd : (Nat → Int32)} {y_v_wait : (Nat → Int32)} (h : pM_statement N v_at v_bad v_badPlace v_base v_coded v_end v_ended v_open v_waits v_allWord v_allowWord v_andWord v_blanchedWord v_codes v_debtWord v_farmWord v_first v_forWord v_inWord v_isBlanched v_many v_maxWord v_minWord v_notWord v_orWord v_paidWord v_pardonWord v_penceWord v_poundsWord v_second v_shillingsWord v_shireWord v_sort v_splitWord v_sumEnd v_sumFrom v_tape v_termWord v_testEnd v_wait v_yearWord = some (y_v_at, y_v_bad, y_v_badPlace, y_v_base, y_v_coded, y_v_ended, y_v_open, y_v_waits, y_v_codes, y_v_first, y_v_isBlanched, y_v_many, y_v_second, y_v_sort, y_v_sumEnd, y_v_sumFrom, y_v_testEnd, y_v_wait)) : zMv l yX12_statement cX12_statement 2 none ({ frames := 8, cells := 0, slots := 0, locals := 175 } : Room) X [.ref (X.1 + 128)] (I, J, Rr, D) ((va_up (va_up (va_up (va_up (va_up (va_up (va_up (va_up (va_up (va_up (va_up I 128 (va_up (va_up (va_up (va_up (va_up (va_up (va_up (va_up oI128 19 y_v_at) 21 y_v_ended) 22 y_v_bad) 23 y_v_badPlace) 56 y_v_coded) 58 y_v_waits) 59 y_v_open) 60 y_v_base)) 165 y_v_many) 166 y_v_sort) 167 y_v_isBlanched) 168 y_v_first) 169 y_v_second) 170 y_v_sumFrom) 171 y_v_sumEnd) 172 y_v_testEnd) 173 y_v_codes) 174 y_v_wait), J, Rr, D) := by
  subst eoI128
  refine zMv.of (by decide) (Nat.le_of_ble_eq_true rfl) (fun C E hl hX hQ => ?_)
  subst hl
  subst hX
  have eI0 : (va_up (va_up (va_up (va_up (va_up (va_up (va_up (va_up (va_up (va_up (va_up I 128 (va_up (va_up (va_up (va_up (va_up (va_up (va_up (va_up (I 128) 19 v_at) 21 v_ended) 22 v_bad) 23 v_badPlace) 56 v_coded) 58 v_waits) 59 v_open) 60 v_base)) 165 v_many) 166 v_sort) 167 v_isBlanched) 168 v_first) 169 v_second) 170 v_sumFrom) 171 v_sumEnd) 172 v_testEnd) 173 v_codes) 174 v_wait) = I := by rw [zup_idE e_v_at, zup_idE e_v_ended, zup_idE e_v_bad, zup_idE e_v_badPlace, zup_idE e_v_coded, zup_idE e_v_waits, zup_idE e_v_open, zup_idE e_v_base, zup_id, zup_idE e_v_many, zup_idE e_v_sort, zup_idE e_v_isBlanched, zup_idE e_v_first, zup_idE e_v_second, zup_idE e_v_sumFrom, zup_idE e_v_sumEnd, zup_idE e_v_testEnd, zup_idE e_v_codes, zup_idE e_v_wait]
  have eJ0 : J = J := rfl
  refine zb_S (S2 := ((va_up (va_up (va_up (va_up (va_up (va_up (va_up (va_up (va_up (va_up (va_up I 128 (va_up (va_up (va_up (va_up (va_up (va_up (va_up (va_up (I 128) 19 v_at) 21 v_ended) 22 v_bad) 23 v_badPlace) 56 v_coded) 58 v_waits) 59 v_open) 60 v_base)) 165 v_many) 166 v_sort) 167 v_isBlanched) 168 v_first) 169 v_second) 170 v_sumFrom) 171 v_sumEnd) 172 v_testEnd) 173 v_codes) 174 v_wait), J, Rr, D)) (zS_eq eI0.symm eJ0.symm) ?_
  exact c_X12_statement_0 N v_end e_v_end v_allWord e_v_allWord v_allowWord e_v_allowWord v_andWord e_v_andWord v_blanchedWord e_v_blanchedWord v_debtWord e_v_debtWord v_farmWord e_v_farmWord v_forWord e_v_forWord v_inWord e_v_inWord v_maxWord e_v_maxWord v_minWord e_v_minWord v_notWord e_v_notWord v_orWord e_v_orWord v_paidWord e_v_paidWord v_pardonWord e_v_pardonWord v_penceWord e_v_penceWord v_poundsWord e_v_poundsWord v_shillingsWord e_v_shillingsWord v_shireWord e_v_shireWord v_splitWord e_v_splitWord v_tape e_v_tape v_termWord e_v_termWord v_yearWord e_v_yearWord y_v_at y_v_bad y_v_badPlace y_v_base y_v_coded y_v_ended y_v_open y_v_waits y_v_codes y_v_first y_v_isBlanched y_v_many y_v_second y_v_sort y_v_sumEnd y_v_sumFrom y_v_testEnd y_v_wait E hQ v_at v_bad v_badPlace v_base v_coded v_ended v_open v_waits v_codes v_first v_isBlanched v_many v_second v_sort v_sumEnd v_sumFrom v_testEnd v_wait h
-- ChequeredClothModel.reads
theorem dX12_reads_0 : decode cX12_reads 0 = .ok (.aload_n 0, 1) := by decide +kernel
theorem dX12_reads_1 : decode cX12_reads 1 = .ok (.aload_n 0, 1) := by decide +kernel
theorem dX12_reads_2 : decode cX12_reads 2 = .ok (.getfield 272, 3) := by decide +kernel
theorem dX12_reads_5 : decode cX12_reads 5 = .ok (.putfield 284, 3) := by decide +kernel
theorem dX12_reads_8 : decode cX12_reads 8 = .ok (.aload_n 0, 1) := by decide +kernel
theorem dX12_reads_9 : decode cX12_reads 9 = .ok (.iconst 0, 1) := by decide +kernel
theorem dX12_reads_10 : decode cX12_reads 10 = .ok (.putfield 272, 3) := by decide +kernel
theorem dX12_reads_13 : decode cX12_reads 13 = .ok (.aload_n 0, 1) := by decide +kernel
theorem dX12_reads_14 : decode cX12_reads 14 = .ok (.iconst 0, 1) := by decide +kernel
theorem dX12_reads_15 : decode cX12_reads 15 = .ok (.putfield 281, 3) := by decide +kernel
theorem dX12_reads_18 : decode cX12_reads 18 = .ok (.aload_n 0, 1) := by decide +kernel
theorem dX12_reads_19 : decode cX12_reads 19 = .ok (.iconst (-1), 1) := by decide +kernel
theorem dX12_reads_20 : decode cX12_reads 20 = .ok (.putfield 294, 3) := by decide +kernel
theorem dX12_reads_23 : decode cX12_reads 23 = .ok (.aload_n 0, 1) := by decide +kernel
theorem dX12_reads_24 : decode cX12_reads 24 = .ok (.iconst 0, 1) := by decide +kernel
theorem dX12_reads_25 : decode cX12_reads 25 = .ok (.putfield 275, 3) := by decide +kernel
theorem dX12_reads_28 : decode cX12_reads 28 = .ok (.aload_n 0, 1) := by decide +kernel
theorem dX12_reads_29 : decode cX12_reads 29 = .ok (.iconst (-1), 1) := by decide +kernel
theorem dX12_reads_30 : decode cX12_reads 30 = .ok (.putfield 278, 3) := by decide +kernel
theorem dX12_reads_33 : decode cX12_reads 33 = .ok (.aload_n 0, 1) := by decide +kernel
theorem dX12_reads_34 : decode cX12_reads 34 = .ok (.getfield 133, 3) := by decide +kernel
theorem dX12_reads_37 : decode cX12_reads 37 = .ok (.iconst 0, 1) := by decide +kernel
theorem dX12_reads_38 : decode cX12_reads 38 = .ok (.iconst 0, 1) := by decide +kernel
theorem dX12_reads_39 : decode cX12_reads 39 = .ok (.iastore, 1) := by decide +kernel
theorem dX12_reads_40 : decode cX12_reads 40 = .ok (.aload_n 0, 1) := by decide +kernel
theorem dX12_reads_41 : decode cX12_reads 41 = .ok (.iconst 0, 1) := by decide +kernel
theorem dX12_reads_42 : decode cX12_reads 42 = .ok (.putfield 314, 3) := by decide +kernel
theorem dX12_reads_45 : decode cX12_reads 45 = .ok (.aload_n 0, 1) := by decide +kernel
theorem dX12_reads_46 : decode cX12_reads 46 = .ok (.getfield 275, 3) := by decide +kernel
theorem dX12_reads_49 : decode cX12_reads 49 = .ok (.ifCond .ne 18, 3) := by decide +kernel
theorem dX12_reads_52 : decode cX12_reads 52 = .ok (.aload_n 0, 1) := by decide +kernel
theorem dX12_reads_53 : decode cX12_reads 53 = .ok (.invokevirtual 287, 3) := by decide +kernel
theorem dX12_reads_56 : decode cX12_reads 56 = .ok (.iconst (-1), 1) := by decide +kernel
theorem dX12_reads_57 : decode cX12_reads 57 = .ok (.if_icmp .eq 10, 3) := by decide +kernel
theorem dX12_reads_60 : decode cX12_reads 60 = .ok (.aload_n 0, 1) := by decide +kernel
theorem dX12_reads_61 : decode cX12_reads 61 = .ok (.invokevirtual 386, 3) := by decide +kernel
theorem dX12_reads_64 : decode cX12_reads 64 = .ok (.goto (-19), 3) := by decide +kernel
theorem dX12_reads_67 : decode cX12_reads 67 = .ok (.aload_n 0, 1) := by decide +kernel
theorem dX12_reads_68 : decode cX12_reads 68 = .ok (.aload_n 0, 1) := by decide +kernel
theorem dX12_reads_69 : decode cX12_reads 69 = .ok (.getfield 275, 3) := by decide +kernel
theorem dX12_reads_72 : decode cX12_reads 72 = .ok (.putfield 389, 3) := by decide +kernel
theorem dX12_reads_75 : decode cX12_reads 75 = .ok (.aload_n 0, 1) := by decide +kernel
theorem dX12_reads_76 : decode cX12_reads 76 = .ok (.aload_n 0, 1) := by decide +kernel
theorem dX12_reads_77 : decode cX12_reads 77 = .ok (.getfield 278, 3) := by decide +kernel
theorem dX12_reads_80 : decode cX12_reads 80 = .ok (.putfield 66, 3) := by decide +kernel
theorem dX12_reads_83 : decode cX12_reads 83 = .ok (.aload_n 0, 1) := by decide +kernel
theorem dX12_reads_84 : decode cX12_reads 84 = .ok (.getfield 275, 3) := by decide +kernel
theorem dX12_reads_87 : decode cX12_reads 87 = .ok (.ifCond .ne 7, 3) := by decide +kernel
theorem dX12_reads_90 : decode cX12_reads 90 = .ok (.iconst 1, 1) := by decide +kernel
theorem dX12_reads_91 : decode cX12_reads 91 = .ok (.goto 4, 3) := by decide +kernel
theorem dX12_reads_94 : decode cX12_reads 94 = .ok (.iconst 0, 1) := by decide +kernel
theorem dX12_reads_95 : decode cX12_reads 95 = .ok (.ireturn, 1) := by decide +kernel
theorem zy_X12_reads : zYv yX12_reads cX12_reads 1 (some .boolean) 0 := ⟨zw_1567, zws_55, zw_12, zw_1568, by decide, by decide, by decide⟩
theorem c_X12_reads_b45 {C : zC} {I : Nat → Nat → Int32} {J : Nat → Nat → Int64} {Rr : Nat → Nat → Option Nat} {D : zD} (N : Nat) (v_allWord : (Nat → Int32)) (e_v_allWord : I 154 = v_allWord) (v_allowWord : (Nat → Int32)) (e_v_allowWord : I 146 = v_allowWord) (v_andWord : (Nat → Int32)) (e_v_andWord : I 152 = v_andWord) (v_blanchedWord : (Nat → Int32)) (e_v_blanchedWord : I 145 = v_blanchedWord) (v_debtWord : (Nat → Int32)) (e_v_debtWord : I 161 = v_debtWord) (v_farmWord : (Nat → Int32)) (e_v_farmWord : I 144 = v_farmWord) (v_forWord : (Nat → Int32)) (e_v_forWord : I 150 = v_forWord) (v_inWord : (Nat → Int32)) (e_v_inWord : I 149 = v_inWord) (v_maxWord : (Nat → Int32)) (e_v_maxWord : I 164 = v_maxWord) (v_minWord : (Nat → Int32)) (e_v_minWord : I 163 = v_minWord) (v_notWord : (Nat → Int32)) (e_v_notWord : I 153 = v_notWord) (v_orWord : (Nat → Int32)) (e_v_orWord : I 151 = v_orWord) (v_paidWord : (Nat → Int32)) (e_v_paidWord : I 162 = v_paidWord) (v_pardonWord : (Nat → Int32)) (e_v_pardonWord : I 147 = v_pardonWord) (v_penceWord : (Nat → Int32)) (e_v_penceWord : I 156 = v_penceWord) (v_poundsWord : (Nat → Int32)) (e_v_poundsWord : I 158 = v_poundsWord) (v_shillingsWord : (Nat → Int32)) (e_v_shillingsWord : I 157 = v_shillingsWord) (v_shireWord : (Nat → Int32)) (e_v_shireWord : I 155 = v_shireWord) (v_splitWord : (Nat → Int32)) (e_v_splitWord : I 148 = v_splitWord) (v_tape : (Nat → Int32)) (e_v_tape : I 143 = v_tape) (v_termWord : (Nat → Int32)) (e_v_termWord : I 159 = v_termWord) (v_yearWord : (Nat → Int32)) (e_v_yearWord : I 160 = v_yearWord) (rr : Int32) (y_v_at : Int32) (y_v_bad : Int32) (y_v_badPlace : Int32) (y_v_base : Int32) (y_v_coded : Int32) (y_v_end : Int32) (y_v_ended : Int32) (y_v_fault : Int32) (y_v_faultPlace : Int32) (y_v_open : Int32) (y_v_taped : Int32) (y_v_waits : Int32) (y_v_codes : (Nat → Int32)) (y_v_first : (Nat → Int32)) (y_v_isBlanched : (Nat → Int32)) (y_v_many : (Nat → Int32)) (y_v_second : (Nat → Int32)) (y_v_sort : (Nat → Int32)) (y_v_sumEnd : (Nat → Int32)) (y_v_sumFrom : (Nat → Int32)) (y_v_testEnd : (Nat → Int32)) (y_v_wait : (Nat → Int32)) (E : zE C RX12 cX12_reads 1 (some .boolean) ({ frames := 9, cells := 0, slots := 0, locals := 196 } : Room)) (hQ : C.Q = zQi C ({ frames := 9, cells := 0, slots := 0, locals := 196 } : Room) rr ((va_up (va_up (va_up (va_up (va_up (va_up (va_up (va_up (va_up (va_up (va_up I 128 (va_up (va_up (va_up (va_up (va_up (va_up (va_up (va_up (va_up (va_up (va_up (va_up (I 128) 18 y_v_taped) 19 y_v_at) 20 y_v_end) 21 y_v_ended) 22 y_v_bad) 23 y_v_badPlace) 24 y_v_fault) 25 y_v_faultPlace) 56 y_v_coded) 58 y_v_waits) 59 y_v_open) 60 y_v_base)) 165 y_v_many) 166 y_v_sort) 167 y_v_isBlanched) 168 y_v_first) 169 y_v_second) 170 y_v_sumFrom) 171 y_v_sumEnd) 172 y_v_testEnd) 173 y_v_codes) 174 y_v_wait), J, Rr, D)) (v_end : Int32) (v_fault : Int32) (v_faultPlace : Int32) (v_taped : Int32) (k67 : Int32 → Int32 → Int32 → Int32 → Int32 → Int32 → Int32 → Int32 → (Nat → Int32) → (Nat → Int32) → (Nat → Int32) → (Nat → Int32) → (Nat → Int32) → (Nat → Int32) → (Nat → Int32) → (Nat → Int32) → (Nat → Int32) → (Nat → Int32) → Option R_pM_reads) (hk67 : ∀ (v_at : Int32) (v_bad : Int32) (v_badPlace : Int32) (v_base : Int32) (v_coded : Int32) (v_ended : Int32) (v_open : Int32) (v_waits : Int32) (v_codes : (Nat → Int32)) (v_first : (Nat → Int32)) (v_isBlanched : (Nat → Int32)) (v_many : (Nat → Int32)) (v_second : (Nat → Int32)) (v_sort : (Nat → Int32)) (v_sumEnd : (Nat → Int32)) (v_sumFrom : (Nat → Int32)) (v_testEnd : (Nat → Int32)) (v_wait : (Nat → Int32)), k67 v_at v_bad v_badPlace v_base v_coded v_ended v_open v_waits v_codes v_first v_isBlanched v_many v_second v_sort v_sumEnd v_sumFrom v_testEnd v_wait = some (rr, y_v_at, y_v_bad, y_v_badPlace, y_v_base, y_v_coded, y_v_end, y_v_ended, y_v_fault, y_v_faultPlace, y_v_open, y_v_taped, y_v_waits, y_v_codes, y_v_first, y_v_isBlanched, y_v_many, y_v_second, y_v_sort, y_v_sumEnd, y_v_sumFrom, y_v_testEnd, y_v_wait) → zB C (0, 0) 67 [(0, .ref (C.X.1 + 128))] [] ((va_up (va_up (va_up (va_up (va_up (va_up (va_up (va_up (va_up (va_up (va_up I 128 (va_up (va_up (va_up (va_up (va_up (va_up (va_up (va_up (va_up (va_up (va_up (va_up (I 128) 18 v_taped) 19 v_at) 20 v_end) 21 v_ended) 22 v_bad) 23 v_badPlace) 24 v_fault) 25 v_faultPlace) 56 v_coded) 58 v_waits) 59 v_open) 60 v_base)) 165 v_many) 166 v_sort) 167 v_isBlanched) 168 v_first) 169 v_second) 170 v_sumFrom) 171 v_sumEnd) 172 v_testEnd) 173 v_codes) 174 v_wait), J, Rr, D)) : ∀ (n9 : Nat) (v_at : Int32) (v_bad : Int32) (v_badPlace : Int32) (v_base : Int32) (v_coded : Int32) (v_ended : Int32) (v_open : Int32) (v_waits : Int32) (v_codes : (Nat → Int32)) (v_first : (Nat → Int32)) (v_isBlanched : (Nat → Int32)) (v_many : (Nat → Int32)) (v_second : (Nat → Int32)) (v_sort : (Nat → Int32)) (v_sumEnd : (Nat → Int32)) (v_sumFrom : (Nat → Int32)) (v_testEnd : (Nat → Int32)) (v_wait : (Nat → Int32)), pM_reads_b45 N v_allWord v_allowWord v_andWord v_blanchedWord v_debtWord v_farmWord v_forWord v_inWord v_maxWord v_minWord v_notWord v_orWord v_paidWord v_pardonWord v_penceWord v_poundsWord v_shillingsWord v_shireWord v_splitWord v_tape v_termWord v_yearWord v_end v_fault v_faultPlace v_taped k67 n9 v_at v_bad v_badPlace v_base v_coded v_ended v_open v_waits v_codes v_first v_isBlanched v_many v_second v_sort v_sumEnd v_sumFrom v_testEnd v_wait = some (rr, y_v_at, y_v_bad, y_v_badPlace, y_v_base, y_v_coded, y_v_end, y_v_ended, y_v_fault, y_v_faultPlace, y_v_open, y_v_taped, y_v_waits, y_v_codes, y_v_first, y_v_isBlanched, y_v_many, y_v_second, y_v_sort, y_v_sumEnd, y_v_sumFrom, y_v_testEnd, y_v_wait) → zB C (0, 0) 45 [(0, .ref (C.X.1 + 128))] [] ((va_up (va_up (va_up (va_up (va_up (va_up (va_up (va_up (va_up (va_up (va_up I 128 (va_up (va_up (va_up (va_up (va_up (va_up (va_up (va_up (va_up (va_up (va_up (va_up (I 128) 18 v_taped) 19 v_at) 20 v_end) 21 v_ended) 22 v_bad) 23 v_badPlace) 24 v_fault) 25 v_faultPlace) 56 v_coded) 58 v_waits) 59 v_open) 60 v_base)) 165 v_many) 166 v_sort) 167 v_isBlanched) 168 v_first) 169 v_second) 170 v_sumFrom) 171 v_sumEnd) 172 v_testEnd) 173 v_codes) 174 v_wait), J, Rr, D) := by
  refine zlp18_ind (P := fun (v_at : Int32) (v_bad : Int32) (v_badPlace : Int32) (v_base : Int32) (v_coded : Int32) (v_ended : Int32) (v_open : Int32) (v_waits : Int32) (v_codes : (Nat → Int32)) (v_first : (Nat → Int32)) (v_isBlanched : (Nat → Int32)) (v_many : (Nat → Int32)) (v_second : (Nat → Int32)) (v_sort : (Nat → Int32)) (v_sumEnd : (Nat → Int32)) (v_sumFrom : (Nat → Int32)) (v_testEnd : (Nat → Int32)) (v_wait : (Nat → Int32)) => zB C (0, 0) 45 [(0, .ref (C.X.1 + 128))] [] ((va_up (va_up (va_up (va_up (va_up (va_up (va_up (va_up (va_up (va_up (va_up I 128 (va_up (va_up (va_up (va_up (va_up (va_up (va_up (va_up (va_up (va_up (va_up (va_up (I 128) 18 v_taped) 19 v_at) 20 v_end) 21 v_ended) 22 v_bad) 23 v_badPlace) 24 v_fault) 25 v_faultPlace) 56 v_coded) 58 v_waits) 59 v_open) 60 v_base)) 165 v_many) 166 v_sort) 167 v_isBlanched) 168 v_first) 169 v_second) 170 v_sumFrom) 171 v_sumEnd) 172 v_testEnd) 173 v_codes) 174 v_wait), J, Rr, D)) (fun self ih => ?_)
  intro v_at v_bad v_badPlace v_base v_coded v_ended v_open v_waits v_codes v_first v_isBlanched v_many v_second v_sort v_sumEnd v_sumFrom v_testEnd v_wait h
  refine zb_aload_n E dX12_reads_45 0 rfl rfl ?_
  refine zb_get E 128 (by decide) (zF_128 C.X) rfl zin12 22 (by decide) zw_1190 (v := .int v_bad) rfl dX12_reads_46 ?_
  refine zb_if_ne E dX12_reads_49 (tgt := 67) rfl (fun hc => ?_) (fun hc => ?_)
  · have h := if_f h hc
    exact hk67 v_at v_bad v_badPlace v_base v_coded v_ended v_open v_waits v_codes v_first v_isBlanched v_many v_second v_sort v_sumEnd v_sumFrom v_testEnd v_wait h
  · have h := if_t h hc
    refine zb_aload_n E dX12_reads_52 0 rfl rfl ?_
    obtain ⟨rc1, v_at_c1, hc_53, h⟩ := bd2_s h
    refine zb_cVi E [] 128 zy_X12_look zw_1569 (by decide) (zF_128 _ _ _ _) rfl (c_X12_look (va_up (va_up (va_up (va_up (va_up (va_up (va_up (va_up (va_up (va_up (va_up (va_up (I 128) 18 v_taped) 19 v_at) 20 v_end) 21 v_ended) 22 v_bad) 23 v_badPlace) 24 v_fault) 25 v_faultPlace) 56 v_coded) 58 v_waits) 59 v_open) 60 v_base) rfl v_end rfl v_tape (by exact e_v_tape) v_at rfl hc_53) (by decide) rfl rfl (by first | decide | simp [Value.category]) dX12_reads_53 (cs2 := (0, 0)) rfl ?_
    refine zb_S (S2 := ((va_up (va_up (va_up (va_up (va_up (va_up (va_up (va_up (va_up (va_up (va_up I 128 (va_up (va_up (va_up (va_up (va_up (va_up (va_up (va_up (va_up (va_up (va_up (va_up (I 128) 18 v_taped) 19 v_at_c1) 20 v_end) 21 v_ended) 22 v_bad) 23 v_badPlace) 24 v_fault) 25 v_faultPlace) 56 v_coded) 58 v_waits) 59 v_open) 60 v_base)) 165 v_many) 166 v_sort) 167 v_isBlanched) 168 v_first) 169 v_second) 170 v_sumFrom) 171 v_sumEnd) 172 v_testEnd) 173 v_codes) 174 v_wait), J, Rr, D)) (zS_eq ((zcgV (zn11 (by decide : (60 : Nat) ≠ 19) (by decide : (59 : Nat) ≠ 19) (by decide : (58 : Nat) ≠ 19) (by decide : (56 : Nat) ≠ 19) (by decide : (25 : Nat) ≠ 19) (by decide : (24 : Nat) ≠ 19) (by decide : (23 : Nat) ≠ 19) (by decide : (22 : Nat) ≠ 19) (by decide : (21 : Nat) ≠ 19) (by decide : (20 : Nat) ≠ 19))).trans (zn11 (by decide : (174 : Nat) ≠ 128) (by decide : (173 : Nat) ≠ 128) (by decide : (172 : Nat) ≠ 128) (by decide : (171 : Nat) ≠ 128) (by decide : (170 : Nat) ≠ 128) (by decide : (169 : Nat) ≠ 128) (by decide : (168 : Nat) ≠ 128) (by decide : (167 : Nat) ≠ 128) (by decide : (166 : Nat) ≠ 128) (by decide : (165 : Nat) ≠ 128))) rfl) ?_
    refine zb_iconst E dX12_reads_56 (v := (-1)) rfl ?_
    refine zb_icmp_eq E dX12_reads_57 (tgt := 67) rfl (fun hc => ?_) (fun hc => ?_)
    · have h := if_t h hc
      exact hk67 v_at_c1 v_bad v_badPlace v_base v_coded v_ended v_open v_waits v_codes v_first v_isBlanched v_many v_second v_sort v_sumEnd v_sumFrom v_testEnd v_wait h
    · have h := if_f h hc
      refine zb_aload_n E dX12_reads_60 0 rfl rfl ?_
      obtain ⟨v_at_c2, v_bad_c2, v_badPlace_c2, v_base_c2, v_coded_c2, v_ended_c2, v_open_c2, v_waits_c2, v_codes_c2, v_first_c2, v_isBlanched_c2, v_many_c2, v_second_c2, v_sort_c2, v_sumEnd_c2, v_sumFrom_c2, v_testEnd_c2, v_wait_c2, hc_61, h⟩ := bd18_s h
      refine zb_cVv E [] 128 zy_X12_statement zw_1573 (by decide) (zF_128 _ _ _ _) rfl (c_X12_statement (va_up (va_up (va_up (va_up (va_up (va_up (va_up (va_up (va_up (va_up (va_up (va_up (I 128) 18 v_taped) 19 v_at_c1) 20 v_end) 21 v_ended) 22 v_bad) 23 v_badPlace) 24 v_fault) 25 v_faultPlace) 56 v_coded) 58 v_waits) 59 v_open) 60 v_base) rfl v_end rfl v_allWord (by exact e_v_allWord) v_allowWord (by exact e_v_allowWord) v_andWord (by exact e_v_andWord) v_blanchedWord (by exact e_v_blanchedWord) v_debtWord (by exact e_v_debtWord) v_farmWord (by exact e_v_farmWord) v_forWord (by exact e_v_forWord) v_inWord (by exact e_v_inWord) v_maxWord (by exact e_v_maxWord) v_minWord (by exact e_v_minWord) v_notWord (by exact e_v_notWord) v_orWord (by exact e_v_orWord) v_paidWord (by exact e_v_paidWord) v_pardonWord (by exact e_v_pardonWord) v_penceWord (by exact e_v_penceWord) v_poundsWord (by exact e_v_poundsWord) v_shillingsWord (by exact e_v_shillingsWord) v_shireWord (by exact e_v_shireWord) v_splitWord (by exact e_v_splitWord) v_tape (by exact e_v_tape) v_termWord (by exact e_v_termWord) v_yearWord (by exact e_v_yearWord) v_at_c1 rfl v_bad rfl v_badPlace rfl v_base rfl v_coded rfl v_ended rfl v_open rfl v_waits rfl v_codes rfl v_first rfl v_isBlanched rfl v_many rfl v_second rfl v_sort rfl v_sumEnd rfl v_sumFrom rfl v_testEnd rfl v_wait rfl hc_61) (by decide) rfl rfl (by first | decide | simp [Value.category]) dX12_reads_61 (cs2 := (0, 0)) rfl ?_
      refine zb_S (S2 := ((va_up (va_up (va_up (va_up (va_up (va_up (va_up (va_up (va_up (va_up (va_up I 128 (va_up (va_up (va_up (va_up (va_up (va_up (va_up (va_up (va_up (va_up (va_up (va_up (I 128) 18 v_taped) 19 v_at_c2) 20 v_end) 21 v_ended_c2) 22 v_bad_c2) 23 v_badPlace_c2) 24 v_fault) 25 v_faultPlace) 56 v_coded_c2) 58 v_waits_c2) 59 v_open_c2) 60 v_base_c2)) 165 v_many_c2) 166 v_sort_c2) 167 v_isBlanched_c2) 168 v_first_c2) 169 v_second_c2) 170 v_sumFrom_c2) 171 v_sumEnd_c2) 172 v_testEnd_c2) 173 v_codes_c2) 174 v_wait_c2), J, Rr, D)) (zS_eq ((zcgF ((zcgF ((zcgF ((zcgF ((zcgF ((zcgF ((zcgF ((zcgF ((zcgF ((zcgF ((zcgV ((zcgF ((zcgF ((zcgF ((zcgF ((zcgF ((zcgF ((zcgF (zn11 (by decide : (60 : Nat) ≠ 19) (by decide : (59 : Nat) ≠ 19) (by decide : (58 : Nat) ≠ 19) (by decide : (56 : Nat) ≠ 19) (by decide : (25 : Nat) ≠ 19) (by decide : (24 : Nat) ≠ 19) (by decide : (23 : Nat) ≠ 19) (by decide : (22 : Nat) ≠ 19) (by decide : (21 : Nat) ≠ 19) (by decide : (20 : Nat) ≠ 19))).trans (zn9 (by decide : (60 : Nat) ≠ 21) (by decide : (59 : Nat) ≠ 21) (by decide : (58 : Nat) ≠ 21) (by decide : (56 : Nat) ≠ 21) (by decide : (25 : Nat) ≠ 21) (by decide : (24 : Nat) ≠ 21) (by decide : (23 : Nat) ≠ 21) (by decide : (22 : Nat) ≠ 21)))).trans (zn8 (by decide : (60 : Nat) ≠ 22) (by decide : (59 : Nat) ≠ 22) (by decide : (58 : Nat) ≠ 22) (by decide : (56 : Nat) ≠ 22) (by decide : (25 : Nat) ≠ 22) (by decide : (24 : Nat) ≠ 22) (by decide : (23 : Nat) ≠ 22)))).trans (zn7 (by decide : (60 : Nat) ≠ 23) (by decide : (59 : Nat) ≠ 23) (by decide : (58 : Nat) ≠ 23) (by decide : (56 : Nat) ≠ 23) (by decide : (25 : Nat) ≠ 23) (by decide : (24 : Nat) ≠ 23)))).trans (zn4 (by decide : (60 : Nat) ≠ 56) (by decide : (59 : Nat) ≠ 56) (by decide : (58 : Nat) ≠ 56)))).trans (zn3 (by decide : (60 : Nat) ≠ 58) (by decide : (59 : Nat) ≠ 58)))).trans (zn2 (by decide : (60 : Nat) ≠ 59)))).trans zn1)).trans (zn11 (by decide : (174 : Nat) ≠ 128) (by decide : (173 : Nat) ≠ 128) (by decide : (172 : Nat) ≠ 128) (by decide : (171 : Nat) ≠ 128) (by decide : (170 : Nat) ≠ 128) (by decide : (169 : Nat) ≠ 128) (by decide : (168 : Nat) ≠ 128) (by decide : (167 : Nat) ≠ 128) (by decide : (166 : Nat) ≠ 128) (by decide : (165 : Nat) ≠ 128)))).trans (zn10 (by decide : (174 : Nat) ≠ 165) (by decide : (173 : Nat) ≠ 165) (by decide : (172 : Nat) ≠ 165) (by decide : (171 : Nat) ≠ 165) (by decide : (170 : Nat) ≠ 165) (by decide : (169 : Nat) ≠ 165) (by decide : (168 : Nat) ≠ 165) (by decide : (167 : Nat) ≠ 165) (by decide : (166 : Nat) ≠ 165)))).trans (zn9 (by decide : (174 : Nat) ≠ 166) (by decide : (173 : Nat) ≠ 166) (by decide : (172 : Nat) ≠ 166) (by decide : (171 : Nat) ≠ 166) (by decide : (170 : Nat) ≠ 166) (by decide : (169 : Nat) ≠ 166) (by decide : (168 : Nat) ≠ 166) (by decide : (167 : Nat) ≠ 166)))).trans (zn8 (by decide : (174 : Nat) ≠ 167) (by decide : (173 : Nat) ≠ 167) (by decide : (172 : Nat) ≠ 167) (by decide : (171 : Nat) ≠ 167) (by decide : (170 : Nat) ≠ 167) (by decide : (169 : Nat) ≠ 167) (by decide : (168 : Nat) ≠ 167)))).trans (zn7 (by decide : (174 : Nat) ≠ 168) (by decide : (173 : Nat) ≠ 168) (by decide : (172 : Nat) ≠ 168) (by decide : (171 : Nat) ≠ 168) (by decide : (170 : Nat) ≠ 168) (by decide : (169 : Nat) ≠ 168)))).trans (zn6 (by decide : (174 : Nat) ≠ 169) (by decide : (173 : Nat) ≠ 169) (by decide : (172 : Nat) ≠ 169) (by decide : (171 : Nat) ≠ 169) (by decide : (170 : Nat) ≠ 169)))).trans (zn5 (by decide : (174 : Nat) ≠ 170) (by decide : (173 : Nat) ≠ 170) (by decide : (172 : Nat) ≠ 170) (by decide : (171 : Nat) ≠ 170)))).trans (zn4 (by decide : (174 : Nat) ≠ 171) (by decide : (173 : Nat) ≠ 171) (by decide : (172 : Nat) ≠ 171)))).trans (zn3 (by decide : (174 : Nat) ≠ 172) (by decide : (173 : Nat) ≠ 172)))).trans (zn2 (by decide : (174 : Nat) ≠ 173)))).trans zn1) rfl) ?_
      refine zb_goto E dX12_reads_64 (tgt := 45) rfl ?_
      exact ih v_at_c2 v_bad_c2 v_badPlace_c2 v_base_c2 v_coded_c2 v_ended_c2 v_open_c2 v_waits_c2 v_codes_c2 v_first_c2 v_isBlanched_c2 v_many_c2 v_second_c2 v_sort_c2 v_sumEnd_c2 v_sumFrom_c2 v_testEnd_c2 v_wait_c2 h
theorem c_X12_reads_b67 {C : zC} {I : Nat → Nat → Int32} {J : Nat → Nat → Int64} {Rr : Nat → Nat → Option Nat} {D : zD} (N : Nat) (v_allWord : (Nat → Int32)) (e_v_allWord : I 154 = v_allWord) (v_allowWord : (Nat → Int32)) (e_v_allowWord : I 146 = v_allowWord) (v_andWord : (Nat → Int32)) (e_v_andWord : I 152 = v_andWord) (v_blanchedWord : (Nat → Int32)) (e_v_blanchedWord : I 145 = v_blanchedWord) (v_debtWord : (Nat → Int32)) (e_v_debtWord : I 161 = v_debtWord) (v_farmWord : (Nat → Int32)) (e_v_farmWord : I 144 = v_farmWord) (v_forWord : (Nat → Int32)) (e_v_forWord : I 150 = v_forWord) (v_inWord : (Nat → Int32)) (e_v_inWord : I 149 = v_inWord) (v_maxWord : (Nat → Int32)) (e_v_maxWord : I 164 = v_maxWord) (v_minWord : (Nat → Int32)) (e_v_minWord : I 163 = v_minWord) (v_notWord : (Nat → Int32)) (e_v_notWord : I 153 = v_notWord) (v_orWord : (Nat → Int32)) (e_v_orWord : I 151 = v_orWord) (v_paidWord : (Nat → Int32)) (e_v_paidWord : I 162 = v_paidWord) (v_pardonWord : (Nat → Int32)) (e_v_pardonWord : I 147 = v_pardonWord) (v_penceWord : (Nat → Int32)) (e_v_penceWord : I 156 = v_penceWord) (v_poundsWord : (Nat → Int32)) (e_v_poundsWord : I 158 = v_poundsWord) (v_shillingsWord : (Nat → Int32)) (e_v_shillingsWord : I 157 = v_shillingsWord) (v_shireWord : (Nat → Int32)) (e_v_shireWord : I 155 = v_shireWord) (v_splitWord : (Nat → Int32)) (e_v_splitWord : I 148 = v_splitWord) (v_tape : (Nat → Int32)) (e_v_tape : I 143 = v_tape) (v_termWord : (Nat → Int32)) (e_v_termWord : I 159 = v_termWord) (v_yearWord : (Nat → Int32)) (e_v_yearWord : I 160 = v_yearWord) (rr : Int32) (y_v_at : Int32) (y_v_bad : Int32) (y_v_badPlace : Int32) (y_v_base : Int32) (y_v_coded : Int32) (y_v_end : Int32) (y_v_ended : Int32) (y_v_fault : Int32) (y_v_faultPlace : Int32) (y_v_open : Int32) (y_v_taped : Int32) (y_v_waits : Int32) (y_v_codes : (Nat → Int32)) (y_v_first : (Nat → Int32)) (y_v_isBlanched : (Nat → Int32)) (y_v_many : (Nat → Int32)) (y_v_second : (Nat → Int32)) (y_v_sort : (Nat → Int32)) (y_v_sumEnd : (Nat → Int32)) (y_v_sumFrom : (Nat → Int32)) (y_v_testEnd : (Nat → Int32)) (y_v_wait : (Nat → Int32)) (E : zE C RX12 cX12_reads 1 (some .boolean) ({ frames := 9, cells := 0, slots := 0, locals := 196 } : Room)) (hQ : C.Q = zQi C ({ frames := 9, cells := 0, slots := 0, locals := 196 } : Room) rr ((va_up (va_up (va_up (va_up (va_up (va_up (va_up (va_up (va_up (va_up (va_up I 128 (va_up (va_up (va_up (va_up (va_up (va_up (va_up (va_up (va_up (va_up (va_up (va_up (I 128) 18 y_v_taped) 19 y_v_at) 20 y_v_end) 21 y_v_ended) 22 y_v_bad) 23 y_v_badPlace) 24 y_v_fault) 25 y_v_faultPlace) 56 y_v_coded) 58 y_v_waits) 59 y_v_open) 60 y_v_base)) 165 y_v_many) 166 y_v_sort) 167 y_v_isBlanched) 168 y_v_first) 169 y_v_second) 170 y_v_sumFrom) 171 y_v_sumEnd) 172 y_v_testEnd) 173 y_v_codes) 174 y_v_wait), J, Rr, D)) (v_at : Int32) (v_bad : Int32) (v_badPlace : Int32) (v_base : Int32) (v_coded : Int32) (v_end : Int32) (v_ended : Int32) (v_fault : Int32) (v_faultPlace : Int32) (v_open : Int32) (v_taped : Int32) (v_waits : Int32) (v_codes : (Nat → Int32)) (v_first : (Nat → Int32)) (v_isBlanched : (Nat → Int32)) (v_many : (Nat → Int32)) (v_second : (Nat → Int32)) (v_sort : (Nat → Int32)) (v_sumEnd : (Nat → Int32)) (v_sumFrom : (Nat → Int32)) (v_testEnd : (Nat → Int32)) (v_wait : (Nat → Int32)) (h : pM_reads_b67 N v_allWord v_allowWord v_andWord v_blanchedWord v_debtWord v_farmWord v_forWord v_inWord v_maxWord v_minWord v_notWord v_orWord v_paidWord v_pardonWord v_penceWord v_poundsWord v_shillingsWord v_shireWord v_splitWord v_tape v_termWord v_yearWord v_at v_bad v_badPlace v_base v_coded v_end v_ended v_fault v_faultPlace v_open v_taped v_waits v_codes v_first v_isBlanched v_many v_second v_sort v_sumEnd v_sumFrom v_testEnd v_wait = some (rr, y_v_at, y_v_bad, y_v_badPlace, y_v_base, y_v_coded, y_v_end, y_v_ended, y_v_fault, y_v_faultPlace, y_v_open, y_v_taped, y_v_waits, y_v_codes, y_v_first, y_v_isBlanched, y_v_many, y_v_second, y_v_sort, y_v_sumEnd, y_v_sumFrom, y_v_testEnd, y_v_wait)) : zB C (0, 0) 67 [(0, .ref (C.X.1 + 128))] [] ((va_up (va_up (va_up (va_up (va_up (va_up (va_up (va_up (va_up (va_up (va_up I 128 (va_up (va_up (va_up (va_up (va_up (va_up (va_up (va_up (va_up (va_up (va_up (va_up (I 128) 18 v_taped) 19 v_at) 20 v_end) 21 v_ended) 22 v_bad) 23 v_badPlace) 24 v_fault) 25 v_faultPlace) 56 v_coded) 58 v_waits) 59 v_open) 60 v_base)) 165 v_many) 166 v_sort) 167 v_isBlanched) 168 v_first) 169 v_second) 170 v_sumFrom) 171 v_sumEnd) 172 v_testEnd) 173 v_codes) 174 v_wait), J, Rr, D) := by
  refine zb_aload_n E dX12_reads_67 0 rfl rfl ?_
  refine zb_aload_n E dX12_reads_68 0 rfl rfl ?_
  refine zb_get E 128 (by decide) (zF_128 C.X) rfl zin12 22 (by decide) zw_1190 (v := .int v_bad) rfl dX12_reads_69 ?_
  refine zb_put E 128 (by decide) (zF_128 C.X) rfl zin12 24 (by decide) zw_1192 tyX12 tyX12_ok nmX12 rfl rfl rfl (I2 := (va_up (va_up (va_up (va_up (va_up (va_up (va_up (va_up (va_up (va_up (va_up I 128 (va_up (va_up (va_up (va_up (va_up (va_up (va_up (va_up (va_up (va_up (va_up (va_up (I 128) 18 v_taped) 19 v_at) 20 v_end) 21 v_ended) 22 v_bad) 23 v_badPlace) 24 v_bad) 25 v_faultPlace) 56 v_coded) 58 v_waits) 59 v_open) 60 v_base)) 165 v_many) 166 v_sort) 167 v_isBlanched) 168 v_first) 169 v_second) 170 v_sumFrom) 171 v_sumEnd) 172 v_testEnd) 173 v_codes) 174 v_wait)) (J2 := J) ((zset12_24 C.X (va_up (va_up (va_up (va_up (va_up (va_up (va_up (va_up (va_up (va_up (va_up (va_up (I 128) 18 v_taped) 19 v_at) 20 v_end) 21 v_ended) 22 v_bad) 23 v_badPlace) 24 v_fault) 25 v_faultPlace) 56 v_coded) 58 v_waits) 59 v_open) 60 v_base) (J 128) v_bad).trans (congrArg (fun g => zf12 C.X g (J 128)) (zn6 (by decide : (60 : Nat) ≠ 24) (by decide : (59 : Nat) ≠ 24) (by decide : (58 : Nat) ≠ 24) (by decide : (56 : Nat) ≠ 24) (by decide : (25 : Nat) ≠ 24)))) (by rw [zflen12]; decide) (fun j hj => ⟨zup_cg (zup_cg (zup_cg (zup_cg (zup_cg (zup_cg (zup_cg (zup_cg (zup_cg (zup_cg ((zup_n hj).trans (zup_n hj).symm)))))))))), rfl⟩) dX12_reads_72 ?_
  refine zb_aload_n E dX12_reads_75 0 rfl rfl ?_
  refine zb_aload_n E dX12_reads_76 0 rfl rfl ?_
  refine zb_get E 128 (by decide) (zF_128 C.X) rfl zin12 23 (by decide) zw_1191 (v := .int v_badPlace) rfl dX12_reads_77 ?_
  refine zb_put E 128 (by decide) (zF_128 C.X) rfl zin12 25 (by decide) zw_1193 tyX12 tyX12_ok nmX12 rfl rfl rfl (I2 := (va_up (va_up (va_up (va_up (va_up (va_up (va_up (va_up (va_up (va_up (va_up I 128 (va_up (va_up (va_up (va_up (va_up (va_up (va_up (va_up (va_up (va_up (va_up (va_up (I 128) 18 v_taped) 19 v_at) 20 v_end) 21 v_ended) 22 v_bad) 23 v_badPlace) 24 v_bad) 25 v_badPlace) 56 v_coded) 58 v_waits) 59 v_open) 60 v_base)) 165 v_many) 166 v_sort) 167 v_isBlanched) 168 v_first) 169 v_second) 170 v_sumFrom) 171 v_sumEnd) 172 v_testEnd) 173 v_codes) 174 v_wait)) (J2 := J) ((zset12_25 C.X (va_up (va_up (va_up (va_up (va_up (va_up (va_up (va_up (va_up (va_up (va_up (va_up (I 128) 18 v_taped) 19 v_at) 20 v_end) 21 v_ended) 22 v_bad) 23 v_badPlace) 24 v_bad) 25 v_faultPlace) 56 v_coded) 58 v_waits) 59 v_open) 60 v_base) (J 128) v_badPlace).trans (congrArg (fun g => zf12 C.X g (J 128)) (zn5 (by decide : (60 : Nat) ≠ 25) (by decide : (59 : Nat) ≠ 25) (by decide : (58 : Nat) ≠ 25) (by decide : (56 : Nat) ≠ 25)))) (by rw [zflen12]; decide) (fun j hj => ⟨zup_cg (zup_cg (zup_cg (zup_cg (zup_cg (zup_cg (zup_cg (zup_cg (zup_cg (zup_cg ((zup_n hj).trans (zup_n hj).symm)))))))))), rfl⟩) dX12_reads_80 ?_
  refine zb_aload_n E dX12_reads_83 0 rfl rfl ?_
  refine zb_get E 128 (by decide) (zF_128 C.X) rfl zin12 22 (by decide) zw_1190 (v := .int v_bad) rfl dX12_reads_84 ?_
  refine zb_if_ne E dX12_reads_87 (tgt := 94) rfl (fun hc => ?_) (fun hc => ?_)
  · have h := if_f h hc
    refine zb_iconst E dX12_reads_94 (v := 0) rfl ?_
    obtain ⟨rfl, rfl, rfl, rfl, rfl, rfl, rfl, rfl, rfl, rfl, rfl, rfl, rfl, rfl, rfl, rfl, rfl, rfl, rfl, rfl, rfl, rfl, rfl⟩ := zinj23 h
    exact zb_zret E hQ (ty := .boolean) rfl rfl ⟨Nat.zero_le _, Nat.zero_le _⟩ dX12_reads_95
  · have h := if_t h hc
    refine zb_iconst E dX12_reads_90 (v := 1) rfl ?_
    refine zb_goto E dX12_reads_91 (tgt := 95) rfl ?_
    obtain ⟨rfl, rfl, rfl, rfl, rfl, rfl, rfl, rfl, rfl, rfl, rfl, rfl, rfl, rfl, rfl, rfl, rfl, rfl, rfl, rfl, rfl, rfl, rfl⟩ := zinj23 h
    exact zb_zret E hQ (ty := .boolean) rfl rfl ⟨Nat.zero_le _, Nat.zero_le _⟩ dX12_reads_95
theorem c_X12_reads_0 {C : zC} {I : Nat → Nat → Int32} {J : Nat → Nat → Int64} {Rr : Nat → Nat → Option Nat} {D : zD} (N : Nat) (v_allWord : (Nat → Int32)) (e_v_allWord : I 154 = v_allWord) (v_allowWord : (Nat → Int32)) (e_v_allowWord : I 146 = v_allowWord) (v_andWord : (Nat → Int32)) (e_v_andWord : I 152 = v_andWord) (v_blanchedWord : (Nat → Int32)) (e_v_blanchedWord : I 145 = v_blanchedWord) (v_debtWord : (Nat → Int32)) (e_v_debtWord : I 161 = v_debtWord) (v_farmWord : (Nat → Int32)) (e_v_farmWord : I 144 = v_farmWord) (v_forWord : (Nat → Int32)) (e_v_forWord : I 150 = v_forWord) (v_inWord : (Nat → Int32)) (e_v_inWord : I 149 = v_inWord) (v_maxWord : (Nat → Int32)) (e_v_maxWord : I 164 = v_maxWord) (v_minWord : (Nat → Int32)) (e_v_minWord : I 163 = v_minWord) (v_notWord : (Nat → Int32)) (e_v_notWord : I 153 = v_notWord) (v_orWord : (Nat → Int32)) (e_v_orWord : I 151 = v_orWord) (v_paidWord : (Nat → Int32)) (e_v_paidWord : I 162 = v_paidWord) (v_pardonWord : (Nat → Int32)) (e_v_pardonWord : I 147 = v_pardonWord) (v_penceWord : (Nat → Int32)) (e_v_penceWord : I 156 = v_penceWord) (v_poundsWord : (Nat → Int32)) (e_v_poundsWord : I 158 = v_poundsWord) (v_shillingsWord : (Nat → Int32)) (e_v_shillingsWord : I 157 = v_shillingsWord) (v_shireWord : (Nat → Int32)) (e_v_shireWord : I 155 = v_shireWord) (v_splitWord : (Nat → Int32)) (e_v_splitWord : I 148 = v_splitWord) (v_tape : (Nat → Int32)) (e_v_tape : I 143 = v_tape) (v_termWord : (Nat → Int32)) (e_v_termWord : I 159 = v_termWord) (v_yearWord : (Nat → Int32)) (e_v_yearWord : I 160 = v_yearWord) (rr : Int32) (y_v_at : Int32) (y_v_bad : Int32) (y_v_badPlace : Int32) (y_v_base : Int32) (y_v_coded : Int32) (y_v_end : Int32) (y_v_ended : Int32) (y_v_fault : Int32) (y_v_faultPlace : Int32) (y_v_open : Int32) (y_v_taped : Int32) (y_v_waits : Int32) (y_v_codes : (Nat → Int32)) (y_v_first : (Nat → Int32)) (y_v_isBlanched : (Nat → Int32)) (y_v_many : (Nat → Int32)) (y_v_second : (Nat → Int32)) (y_v_sort : (Nat → Int32)) (y_v_sumEnd : (Nat → Int32)) (y_v_sumFrom : (Nat → Int32)) (y_v_testEnd : (Nat → Int32)) (y_v_wait : (Nat → Int32)) (E : zE C RX12 cX12_reads 1 (some .boolean) ({ frames := 9, cells := 0, slots := 0, locals := 196 } : Room)) (hQ : C.Q = zQi C ({ frames := 9, cells := 0, slots := 0, locals := 196 } : Room) rr ((va_up (va_up (va_up (va_up (va_up (va_up (va_up (va_up (va_up (va_up (va_up I 128 (va_up (va_up (va_up (va_up (va_up (va_up (va_up (va_up (va_up (va_up (va_up (va_up (I 128) 18 y_v_taped) 19 y_v_at) 20 y_v_end) 21 y_v_ended) 22 y_v_bad) 23 y_v_badPlace) 24 y_v_fault) 25 y_v_faultPlace) 56 y_v_coded) 58 y_v_waits) 59 y_v_open) 60 y_v_base)) 165 y_v_many) 166 y_v_sort) 167 y_v_isBlanched) 168 y_v_first) 169 y_v_second) 170 y_v_sumFrom) 171 y_v_sumEnd) 172 y_v_testEnd) 173 y_v_codes) 174 y_v_wait), J, Rr, D)) (v_at : Int32) (v_bad : Int32) (v_badPlace : Int32) (v_base : Int32) (v_coded : Int32) (v_end : Int32) (v_ended : Int32) (v_fault : Int32) (v_faultPlace : Int32) (v_open : Int32) (v_taped : Int32) (v_waits : Int32) (v_codes : (Nat → Int32)) (v_first : (Nat → Int32)) (v_isBlanched : (Nat → Int32)) (v_many : (Nat → Int32)) (v_second : (Nat → Int32)) (v_sort : (Nat → Int32)) (v_sumEnd : (Nat → Int32)) (v_sumFrom : (Nat → Int32)) (v_testEnd : (Nat → Int32)) (v_wait : (Nat → Int32)) (h : pM_reads N v_at v_bad v_badPlace v_base v_coded v_end v_ended v_fault v_faultPlace v_open v_taped v_waits v_allWord v_allowWord v_andWord v_blanchedWord v_codes v_debtWord v_farmWord v_first v_forWord v_inWord v_isBlanched v_many v_maxWord v_minWord v_notWord v_orWord v_paidWord v_pardonWord v_penceWord v_poundsWord v_second v_shillingsWord v_shireWord v_sort v_splitWord v_sumEnd v_sumFrom v_tape v_termWord v_testEnd v_wait v_yearWord = some (rr, y_v_at, y_v_bad, y_v_badPlace, y_v_base, y_v_coded, y_v_end, y_v_ended, y_v_fault, y_v_faultPlace, y_v_open, y_v_taped, y_v_waits, y_v_codes, y_v_first, y_v_isBlanched, y_v_many, y_v_second, y_v_sort, y_v_sumEnd, y_v_sumFrom, y_v_testEnd, y_v_wait)) : zB C (0, 0) 0 [(0, .ref (C.X.1 + 128))] [] ((va_up (va_up (va_up (va_up (va_up (va_up (va_up (va_up (va_up (va_up (va_up I 128 (va_up (va_up (va_up (va_up (va_up (va_up (va_up (va_up (va_up (va_up (va_up (va_up (I 128) 18 v_taped) 19 v_at) 20 v_end) 21 v_ended) 22 v_bad) 23 v_badPlace) 24 v_fault) 25 v_faultPlace) 56 v_coded) 58 v_waits) 59 v_open) 60 v_base)) 165 v_many) 166 v_sort) 167 v_isBlanched) 168 v_first) 169 v_second) 170 v_sumFrom) 171 v_sumEnd) 172 v_testEnd) 173 v_codes) 174 v_wait), J, Rr, D) := by
  refine zb_aload_n E dX12_reads_0 0 rfl rfl ?_
  refine zb_aload_n E dX12_reads_1 0 rfl rfl ?_
  refine zb_get E 128 (by decide) (zF_128 C.X) rfl zin12 18 (by decide) zw_1186 (v := .int v_taped) rfl dX12_reads_2 ?_
  refine zb_put E 128 (by decide) (zF_128 C.X) rfl zin12 20 (by decide) zw_1188 tyX12 tyX12_ok nmX12 rfl rfl rfl (I2 := (va_up (va_up (va_up (va_up (va_up (va_up (va_up (va_up (va_up (va_up (va_up I 128 (va_up (va_up (va_up (va_up (va_up (va_up (va_up (va_up (va_up (va_up (va_up (va_up (I 128) 18 v_taped) 19 v_at) 20 v_taped) 21 v_ended) 22 v_bad) 23 v_badPlace) 24 v_fault) 25 v_faultPlace) 56 v_coded) 58 v_waits) 59 v_open) 60 v_base)) 165 v_many) 166 v_sort) 167 v_isBlanched) 168 v_first) 169 v_second) 170 v_sumFrom) 171 v_sumEnd) 172 v_testEnd) 173 v_codes) 174 v_wait)) (J2 := J) ((zset12_20 C.X (va_up (va_up (va_up (va_up (va_up (va_up (va_up (va_up (va_up (va_up (va_up (va_up (I 128) 18 v_taped) 19 v_at) 20 v_end) 21 v_ended) 22 v_bad) 23 v_badPlace) 24 v_fault) 25 v_faultPlace) 56 v_coded) 58 v_waits) 59 v_open) 60 v_base) (J 128) v_taped).trans (congrArg (fun g => zf12 C.X g (J 128)) (zn10 (by decide : (60 : Nat) ≠ 20) (by decide : (59 : Nat) ≠ 20) (by decide : (58 : Nat) ≠ 20) (by decide : (56 : Nat) ≠ 20) (by decide : (25 : Nat) ≠ 20) (by decide : (24 : Nat) ≠ 20) (by decide : (23 : Nat) ≠ 20) (by decide : (22 : Nat) ≠ 20) (by decide : (21 : Nat) ≠ 20)))) (by rw [zflen12]; decide) (fun j hj => ⟨zup_cg (zup_cg (zup_cg (zup_cg (zup_cg (zup_cg (zup_cg (zup_cg (zup_cg (zup_cg ((zup_n hj).trans (zup_n hj).symm)))))))))), rfl⟩) dX12_reads_5 ?_
  refine zb_aload_n E dX12_reads_8 0 rfl rfl ?_
  refine zb_iconst E dX12_reads_9 (v := 0) rfl ?_
  refine zb_put E 128 (by decide) (zF_128 C.X) rfl zin12 18 (by decide) zw_1186 tyX12 tyX12_ok nmX12 rfl rfl rfl (I2 := (va_up (va_up (va_up (va_up (va_up (va_up (va_up (va_up (va_up (va_up (va_up I 128 (va_up (va_up (va_up (va_up (va_up (va_up (va_up (va_up (va_up (va_up (va_up (va_up (I 128) 18 0) 19 v_at) 20 v_taped) 21 v_ended) 22 v_bad) 23 v_badPlace) 24 v_fault) 25 v_faultPlace) 56 v_coded) 58 v_waits) 59 v_open) 60 v_base)) 165 v_many) 166 v_sort) 167 v_isBlanched) 168 v_first) 169 v_second) 170 v_sumFrom) 171 v_sumEnd) 172 v_testEnd) 173 v_codes) 174 v_wait)) (J2 := J) ((zset12_18 C.X (va_up (va_up (va_up (va_up (va_up (va_up (va_up (va_up (va_up (va_up (va_up (va_up (I 128) 18 v_taped) 19 v_at) 20 v_taped) 21 v_ended) 22 v_bad) 23 v_badPlace) 24 v_fault) 25 v_faultPlace) 56 v_coded) 58 v_waits) 59 v_open) 60 v_base) (J 128) 0).trans (congrArg (fun g => zf12 C.X g (J 128)) (zn12 (by decide : (60 : Nat) ≠ 18) (by decide : (59 : Nat) ≠ 18) (by decide : (58 : Nat) ≠ 18) (by decide : (56 : Nat) ≠ 18) (by decide : (25 : Nat) ≠ 18) (by decide : (24 : Nat) ≠ 18) (by decide : (23 : Nat) ≠ 18) (by decide : (22 : Nat) ≠ 18) (by decide : (21 : Nat) ≠ 18) (by decide : (20 : Nat) ≠ 18) (by decide : (19 : Nat) ≠ 18)))) (by rw [zflen12]; decide) (fun j hj => ⟨zup_cg (zup_cg (zup_cg (zup_cg (zup_cg (zup_cg (zup_cg (zup_cg (zup_cg (zup_cg ((zup_n hj).trans (zup_n hj).symm)))))))))), rfl⟩) dX12_reads_10 ?_
  refine zb_aload_n E dX12_reads_13 0 rfl rfl ?_
  refine zb_iconst E dX12_reads_14 (v := 0) rfl ?_
  refine zb_put E 128 (by decide) (zF_128 C.X) rfl zin12 19 (by decide) zw_1187 tyX12 tyX12_ok nmX12 rfl rfl rfl (I2 := (va_up (va_up (va_up (va_up (va_up (va_up (va_up (va_up (va_up (va_up (va_up I 128 (va_up (va_up (va_up (va_up (va_up (va_up (va_up (va_up (va_up (va_up (va_up (va_up (I 128) 18 0) 19 0) 20 v_taped) 21 v_ended) 22 v_bad) 23 v_badPlace) 24 v_fault) 25 v_faultPlace) 56 v_coded) 58 v_waits) 59 v_open) 60 v_base)) 165 v_many) 166 v_sort) 167 v_isBlanched) 168 v_first) 169 v_second) 170 v_sumFrom) 171 v_sumEnd) 172 v_testEnd) 173 v_codes) 174 v_wait)) (J2 := J) ((zset12_19 C.X (va_up (va_up (va_up (va_up (va_up (va_up (va_up (va_up (va_up (va_up (va_up (va_up (I 128) 18 0) 19 v_at) 20 v_taped) 21 v_ended) 22 v_bad) 23 v_badPlace) 24 v_fault) 25 v_faultPlace) 56 v_coded) 58 v_waits) 59 v_open) 60 v_base) (J 128) 0).trans (congrArg (fun g => zf12 C.X g (J 128)) (zn11 (by decide : (60 : Nat) ≠ 19) (by decide : (59 : Nat) ≠ 19) (by decide : (58 : Nat) ≠ 19) (by decide : (56 : Nat) ≠ 19) (by decide : (25 : Nat) ≠ 19) (by decide : (24 : Nat) ≠ 19) (by decide : (23 : Nat) ≠ 19) (by decide : (22 : Nat) ≠ 19) (by decide : (21 : Nat) ≠ 19) (by decide : (20 : Nat) ≠ 19)))) (by rw [zflen12]; decide) (fun j hj => ⟨zup_cg (zup_cg (zup_cg (zup_cg (zup_cg (zup_cg (zup_cg (zup_cg (zup_cg (zup_cg ((zup_n hj).trans (zup_n hj).symm)))))))))), rfl⟩) dX12_reads_15 ?_
  refine zb_aload_n E dX12_reads_18 0 rfl rfl ?_
  refine zb_iconst E dX12_reads_19 (v := (-1)) rfl ?_
  refine zb_put E 128 (by decide) (zF_128 C.X) rfl zin12 21 (by decide) zw_1189 tyX12 tyX12_ok nmX12 rfl rfl rfl (I2 := (va_up (va_up (va_up (va_up (va_up (va_up (va_up (va_up (va_up (va_up (va_up I 128 (va_up (va_up (va_up (va_up (va_up (va_up (va_up (va_up (va_up (va_up (va_up (va_up (I 128) 18 0) 19 0) 20 v_taped) 21 (-1)) 22 v_bad) 23 v_badPlace) 24 v_fault) 25 v_faultPlace) 56 v_coded) 58 v_waits) 59 v_open) 60 v_base)) 165 v_many) 166 v_sort) 167 v_isBlanched) 168 v_first) 169 v_second) 170 v_sumFrom) 171 v_sumEnd) 172 v_testEnd) 173 v_codes) 174 v_wait)) (J2 := J) ((zset12_21 C.X (va_up (va_up (va_up (va_up (va_up (va_up (va_up (va_up (va_up (va_up (va_up (va_up (I 128) 18 0) 19 0) 20 v_taped) 21 v_ended) 22 v_bad) 23 v_badPlace) 24 v_fault) 25 v_faultPlace) 56 v_coded) 58 v_waits) 59 v_open) 60 v_base) (J 128) (-1)).trans (congrArg (fun g => zf12 C.X g (J 128)) (zn9 (by decide : (60 : Nat) ≠ 21) (by decide : (59 : Nat) ≠ 21) (by decide : (58 : Nat) ≠ 21) (by decide : (56 : Nat) ≠ 21) (by decide : (25 : Nat) ≠ 21) (by decide : (24 : Nat) ≠ 21) (by decide : (23 : Nat) ≠ 21) (by decide : (22 : Nat) ≠ 21)))) (by rw [zflen12]; decide) (fun j hj => ⟨zup_cg (zup_cg (zup_cg (zup_cg (zup_cg (zup_cg (zup_cg (zup_cg (zup_cg (zup_cg ((zup_n hj).trans (zup_n hj).symm)))))))))), rfl⟩) dX12_reads_20 ?_
  refine zb_aload_n E dX12_reads_23 0 rfl rfl ?_
  refine zb_iconst E dX12_reads_24 (v := 0) rfl ?_
  refine zb_put E 128 (by decide) (zF_128 C.X) rfl zin12 22 (by decide) zw_1190 tyX12 tyX12_ok nmX12 rfl rfl rfl (I2 := (va_up (va_up (va_up (va_up (va_up (va_up (va_up (va_up (va_up (va_up (va_up I 128 (va_up (va_up (va_up (va_up (va_up (va_up (va_up (va_up (va_up (va_up (va_up (va_up (I 128) 18 0) 19 0) 20 v_taped) 21 (-1)) 22 0) 23 v_badPlace) 24 v_fault) 25 v_faultPlace) 56 v_coded) 58 v_waits) 59 v_open) 60 v_base)) 165 v_many) 166 v_sort) 167 v_isBlanched) 168 v_first) 169 v_second) 170 v_sumFrom) 171 v_sumEnd) 172 v_testEnd) 173 v_codes) 174 v_wait)) (J2 := J) ((zset12_22 C.X (va_up (va_up (va_up (va_up (va_up (va_up (va_up (va_up (va_up (va_up (va_up (va_up (I 128) 18 0) 19 0) 20 v_taped) 21 (-1)) 22 v_bad) 23 v_badPlace) 24 v_fault) 25 v_faultPlace) 56 v_coded) 58 v_waits) 59 v_open) 60 v_base) (J 128) 0).trans (congrArg (fun g => zf12 C.X g (J 128)) (zn8 (by decide : (60 : Nat) ≠ 22) (by decide : (59 : Nat) ≠ 22) (by decide : (58 : Nat) ≠ 22) (by decide : (56 : Nat) ≠ 22) (by decide : (25 : Nat) ≠ 22) (by decide : (24 : Nat) ≠ 22) (by decide : (23 : Nat) ≠ 22)))) (by rw [zflen12]; decide) (fun j hj => ⟨zup_cg (zup_cg (zup_cg (zup_cg (zup_cg (zup_cg (zup_cg (zup_cg (zup_cg (zup_cg ((zup_n hj).trans (zup_n hj).symm)))))))))), rfl⟩) dX12_reads_25 ?_
  refine zb_aload_n E dX12_reads_28 0 rfl rfl ?_
  refine zb_iconst E dX12_reads_29 (v := (-1)) rfl ?_
  refine zb_put E 128 (by decide) (zF_128 C.X) rfl zin12 23 (by decide) zw_1191 tyX12 tyX12_ok nmX12 rfl rfl rfl (I2 := (va_up (va_up (va_up (va_up (va_up (va_up (va_up (va_up (va_up (va_up (va_up I 128 (va_up (va_up (va_up (va_up (va_up (va_up (va_up (va_up (va_up (va_up (va_up (va_up (I 128) 18 0) 19 0) 20 v_taped) 21 (-1)) 22 0) 23 (-1)) 24 v_fault) 25 v_faultPlace) 56 v_coded) 58 v_waits) 59 v_open) 60 v_base)) 165 v_many) 166 v_sort) 167 v_isBlanched) 168 v_first) 169 v_second) 170 v_sumFrom) 171 v_sumEnd) 172 v_testEnd) 173 v_codes) 174 v_wait)) (J2 := J) ((zset12_23 C.X (va_up (va_up (va_up (va_up (va_up (va_up (va_up (va_up (va_up (va_up (va_up (va_up (I 128) 18 0) 19 0) 20 v_taped) 21 (-1)) 22 0) 23 v_badPlace) 24 v_fault) 25 v_faultPlace) 56 v_coded) 58 v_waits) 59 v_open) 60 v_base) (J 128) (-1)).trans (congrArg (fun g => zf12 C.X g (J 128)) (zn7 (by decide : (60 : Nat) ≠ 23) (by decide : (59 : Nat) ≠ 23) (by decide : (58 : Nat) ≠ 23) (by decide : (56 : Nat) ≠ 23) (by decide : (25 : Nat) ≠ 23) (by decide : (24 : Nat) ≠ 23)))) (by rw [zflen12]; decide) (fun j hj => ⟨zup_cg (zup_cg (zup_cg (zup_cg (zup_cg (zup_cg (zup_cg (zup_cg (zup_cg (zup_cg ((zup_n hj).trans (zup_n hj).symm)))))))))), rfl⟩) dX12_reads_30 ?_
  refine zb_aload_n E dX12_reads_33 0 rfl rfl ?_
  refine zb_get E 128 (by decide) (zF_128 C.X) rfl zin12 47 (by decide) zw_1215 (v := .ref (C.X.1 + 165)) rfl dX12_reads_34 ?_
  refine zb_iconst E dX12_reads_37 (v := 0) rfl ?_
  refine zb_iconst E dX12_reads_38 (v := 0) rfl ?_
  refine zb_iast E 165 (by decide) zF_165 (f := v_many) rfl (ib_in (by decide)) dX12_reads_39 (I2 := (va_up (va_up (va_up (va_up (va_up (va_up (va_up (va_up (va_up (va_up (va_up I 128 (va_up (va_up (va_up (va_up (va_up (va_up (va_up (va_up (va_up (va_up (va_up (va_up (I 128) 18 0) 19 0) 20 v_taped) 21 (-1)) 22 0) 23 (-1)) 24 v_fault) 25 v_faultPlace) 56 v_coded) 58 v_waits) 59 v_open) 60 v_base)) 165 (upd v_many (ix 0) 0)) 166 v_sort) 167 v_isBlanched) 168 v_first) 169 v_second) 170 v_sumFrom) 171 v_sumEnd) 172 v_testEnd) 173 v_codes) 174 v_wait)) (zn10 (by decide : (174 : Nat) ≠ 165) (by decide : (173 : Nat) ≠ 165) (by decide : (172 : Nat) ≠ 165) (by decide : (171 : Nat) ≠ 165) (by decide : (170 : Nat) ≠ 165) (by decide : (169 : Nat) ≠ 165) (by decide : (168 : Nat) ≠ 165) (by decide : (167 : Nat) ≠ 165) (by decide : (166 : Nat) ≠ 165)) ?_
  refine zb_aload_n E dX12_reads_40 0 rfl rfl ?_
  refine zb_iconst E dX12_reads_41 (v := 0) rfl ?_
  refine zb_put E 128 (by decide) (zF_128 C.X) rfl zin12 56 (by decide) zw_1224 tyX12 tyX12_ok nmX12 rfl rfl rfl (I2 := (va_up (va_up (va_up (va_up (va_up (va_up (va_up (va_up (va_up (va_up (va_up I 128 (va_up (va_up (va_up (va_up (va_up (va_up (va_up (va_up (va_up (va_up (va_up (va_up (I 128) 18 0) 19 0) 20 v_taped) 21 (-1)) 22 0) 23 (-1)) 24 v_fault) 25 v_faultPlace) 56 0) 58 v_waits) 59 v_open) 60 v_base)) 165 (upd v_many (ix 0) 0)) 166 v_sort) 167 v_isBlanched) 168 v_first) 169 v_second) 170 v_sumFrom) 171 v_sumEnd) 172 v_testEnd) 173 v_codes) 174 v_wait)) (J2 := J) ((zset12_56 C.X (va_up (va_up (va_up (va_up (va_up (va_up (va_up (va_up (va_up (va_up (va_up (va_up (I 128) 18 0) 19 0) 20 v_taped) 21 (-1)) 22 0) 23 (-1)) 24 v_fault) 25 v_faultPlace) 56 v_coded) 58 v_waits) 59 v_open) 60 v_base) (J 128) 0).trans (congrArg (fun g => zf12 C.X g (J 128)) (zn4 (by decide : (60 : Nat) ≠ 56) (by decide : (59 : Nat) ≠ 56) (by decide : (58 : Nat) ≠ 56)))) (by rw [zflen12]; decide) (fun j hj => ⟨zup_cg (zup_cg (zup_cg (zup_cg (zup_cg (zup_cg (zup_cg (zup_cg (zup_cg (zup_cg ((zup_n hj).trans (zup_n hj).symm)))))))))), rfl⟩) dX12_reads_42 ?_
  exact c_X12_reads_b45 N v_allWord e_v_allWord v_allowWord e_v_allowWord v_andWord e_v_andWord v_blanchedWord e_v_blanchedWord v_debtWord e_v_debtWord v_farmWord e_v_farmWord v_forWord e_v_forWord v_inWord e_v_inWord v_maxWord e_v_maxWord v_minWord e_v_minWord v_notWord e_v_notWord v_orWord e_v_orWord v_paidWord e_v_paidWord v_pardonWord e_v_pardonWord v_penceWord e_v_penceWord v_poundsWord e_v_poundsWord v_shillingsWord e_v_shillingsWord v_shireWord e_v_shireWord v_splitWord e_v_splitWord v_tape e_v_tape v_termWord e_v_termWord v_yearWord e_v_yearWord rr y_v_at y_v_bad y_v_badPlace y_v_base y_v_coded y_v_end y_v_ended y_v_fault y_v_faultPlace y_v_open y_v_taped y_v_waits y_v_codes y_v_first y_v_isBlanched y_v_many y_v_second y_v_sort y_v_sumEnd y_v_sumFrom y_v_testEnd y_v_wait E hQ v_taped v_fault v_faultPlace 0 _ (fun v_at_z1 v_bad_z2 v_badPlace_z3 v_base_z4 v_coded_z5 v_ended_z6 v_open_z7 v_waits_z8 v_codes_z9 v_first_z10 v_isBlanched_z11 v_many_z12 v_second_z13 v_sort_z14 v_sumEnd_z15 v_sumFrom_z16 v_testEnd_z17 v_wait_z18 h => c_X12_reads_b67 N v_allWord e_v_allWord v_allowWord e_v_allowWord v_andWord e_v_andWord v_blanchedWord e_v_blanchedWord v_debtWord e_v_debtWord v_farmWord e_v_farmWord v_forWord e_v_forWord v_inWord e_v_inWord v_maxWord e_v_maxWord v_minWord e_v_minWord v_notWord e_v_notWord v_orWord e_v_orWord v_paidWord e_v_paidWord v_pardonWord e_v_pardonWord v_penceWord e_v_penceWord v_poundsWord e_v_poundsWord v_shillingsWord e_v_shillingsWord v_shireWord e_v_shireWord v_splitWord e_v_splitWord v_tape e_v_tape v_termWord e_v_termWord v_yearWord e_v_yearWord rr y_v_at y_v_bad y_v_badPlace y_v_base y_v_coded y_v_end y_v_ended y_v_fault y_v_faultPlace y_v_open y_v_taped y_v_waits y_v_codes y_v_first y_v_isBlanched y_v_many y_v_second y_v_sort y_v_sumEnd y_v_sumFrom y_v_testEnd y_v_wait E hQ v_at_z1 v_bad_z2 v_badPlace_z3 v_base_z4 v_coded_z5 v_taped v_ended_z6 v_fault v_faultPlace v_open_z7 0 v_waits_z8 v_codes_z9 v_first_z10 v_isBlanched_z11 v_many_z12 v_second_z13 v_sort_z14 v_sumEnd_z15 v_sumFrom_z16 v_testEnd_z17 v_wait_z18 h) _ 0 0 (-1) v_base 0 (-1) v_open v_waits v_codes v_first v_isBlanched (upd v_many (ix 0) 0) v_second v_sort v_sumEnd v_sumFrom v_testEnd v_wait h
theorem c_X12_reads {l : Launch} {X : zX} {I : Nat → Nat → Int32} {J : Nat → Nat → Int64} {Rr : Nat → Nat → Option Nat} {D : zD} {N : Nat} (oI128 : Nat → Int32) (eoI128 : I 128 = oI128) (v_allWord : (Nat → Int32)) (e_v_allWord : I 154 = v_allWord) (v_allowWord : (Nat → Int32)) (e_v_allowWord : I 146 = v_allowWord) (v_andWord : (Nat → Int32)) (e_v_andWord : I 152 = v_andWord) (v_blanchedWord : (Nat → Int32)) (e_v_blanchedWord : I 145 = v_blanchedWord) (v_debtWord : (Nat → Int32)) (e_v_debtWord : I 161 = v_debtWord) (v_farmWord : (Nat → Int32)) (e_v_farmWord : I 144 = v_farmWord) (v_forWord : (Nat → Int32)) (e_v_forWord : I 150 = v_forWord) (v_inWord : (Nat → Int32)) (e_v_inWord : I 149 = v_inWord) (v_maxWord : (Nat → Int32)) (e_v_maxWord : I 164 = v_maxWord) (v_minWord : (Nat → Int32)) (e_v_minWord : I 163 = v_minWord) (v_notWord : (Nat → Int32)) (e_v_notWord : I 153 = v_notWord) (v_orWord : (Nat → Int32)) (e_v_orWord : I 151 = v_orWord) (v_paidWord : (Nat → Int32)) (e_v_paidWord : I 162 = v_paidWord) (v_pardonWord : (Nat → Int32)) (e_v_pardonWord : I 147 = v_pardonWord) (v_penceWord : (Nat → Int32)) (e_v_penceWord : I 156 = v_penceWord) (v_poundsWord : (Nat → Int32)) (e_v_poundsWord : I 158 = v_poundsWord) (v_shillingsWord : (Nat → Int32)) (e_v_shillingsWord : I 157 = v_shillingsWord) (v_shireWord : (Nat → Int32)) (e_v_shireWord : I 155 = v_shireWord) (v_splitWord : (Nat → Int32)) (e_v_splitWord : I 148 = v_splitWord) (v_tape : (Nat → Int32)) (e_v_tape : I 143 = v_tape) (v_termWord : (Nat → Int32)) (e_v_termWord : I 159 = v_termWord) (v_yearWord : (Nat → Int32)) (e_v_yearWord : I 160 = v_yearWord) (v_at : Int32) (e_v_at : I 128 19 = v_at) (v_bad : Int32) (e_v_bad : I 128 22 = v_bad) (v_badPlace : Int32) (e_v_badPlace : I 128 23 = v_badPlace) (v_base : Int32) (e_v_base : I 128 60 = v_base) (v_coded : Int32) (e_v_coded : I 128 56 = v_coded) (v_end : Int32) (e_v_end : I 128 20 = v_end) (v_ended : Int32) (e_v_ended : I 128 21 = v_ended) (v_fault : Int32) (e_v_fault : I 128 24 = v_fault) (v_faultPlace : Int32) (e_v_faultPlace : I 128 25 = v_faultPlace) (v_open : Int32) (e_v_open : I 128 59 = v_open) (v_taped : Int32) (e_v_taped : I 128 18 = v_taped) (v_waits : Int32) (e_v_waits : I 128 58 = v_waits) (v_codes : (Nat → Int32)) (e_v_codes : I 173 = v_codes) (v_first : (Nat → Int32)) (e_v_first : I 168 = v_first) (v_isBlanched : (Nat → Int32)) (e_v_isBlanched : I 167 = v_isBlanched) (v_many : (Nat → Int32)) (e_v_many : I 165 = v_many) (v_second : (Nat → Int32)) (e_v_second : I 169 = v_second) (v_sort : (Nat → Int32)) (e_v_sort : I 166 = v_sort) (v_sumEnd : (Nat → Int32)) (e_v_sumEnd : I 171 = v_sumEnd) (v_sumFrom : (Nat → Int32)) (e_v_sumFrom : I 170 = v_sumFrom) (v_testEnd : (Nat → Int32)) (e_v_testEnd : I 172 = v_testEnd) (v_wait : (Nat → Int32)) (e_v_wait : I 174 = v_wait) {rr : Int32} {y_v_at : Int32} {y_v_bad : Int32} {y_v_badPlace : Int32} {y_v_base : Int32} {y_v_coded : Int32} {y_v_end : Int32} {y_v_ended : Int32} {y_v_fault : Int32} {y_v_faultPlace : Int32} {y_v_open : Int32} {y_v_taped : Int32} {y_v_waits : Int32} {y_v_codes : (Nat → Int32)} {y_v_first : (Nat → Int32)} {y_v_isBlanched : (Nat → Int32)} {y_v_many : (Nat → Int32)} {y_v_second : (Nat → Int32)} {y_v_sort : (Nat → Int32)} {y_v_sumEnd : (Nat → Int32)} {y_v_sumFrom : (Nat → Int32)} {y_v_testEnd : (Nat → Int32)} {y_v_wait : (Nat → Int32)} (h : pM_reads N v_at v_bad v_badPlace v_base v_coded v_end v_ended v_fault v_faultPlace v_open v_taped v_waits v_allWord v_allowWord v_andWord v_blanchedWord v_codes v_debtWord v_farmWord v_first v_forWord v_inWord v_isBlanched v_many v_maxWord v_minWord v_notWord v_orWord v_paidWord v_pardonWord v_penceWord v_poundsWord v_second v_shillingsWord v_shireWord v_sort v_splitWord v_sumEnd v_sumFrom v_tape v_termWord v_testEnd v_wait v_yearWord = some (rr, y_v_at, y_v_bad, y_v_badPlace, y_v_base, y_v_coded, y_v_end, y_v_ended, y_v_fault, y_v_faultPlace, y_v_open, y_v_taped, y_v_waits, y_v_codes, y_v_first, y_v_isBlanched, y_v_many, y_v_second, y_v_sort, y_v_sumEnd, y_v_sumFrom, y_v_testEnd, y_v_wait)) : zMi l yX12_reads cX12_reads 1 (some .boolean) ({ frames := 9, cells := 0, slots := 0, locals := 196 } : Room) X [.ref (X.1 + 128)] (I, J, Rr, D) rr ((va_up (va_up (va_up (va_up (va_up (va_up (va_up (va_up (va_up (va_up (va_up I 128 (va_up (va_up (va_up (va_up (va_up (va_up (va_up (va_up (va_up (va_up (va_up (va_up oI128 18 y_v_taped) 19 y_v_at) 20 y_v_end) 21 y_v_ended) 22 y_v_bad) 23 y_v_badPlace) 24 y_v_fault) 25 y_v_faultPlace) 56 y_v_coded) 58 y_v_waits) 59 y_v_open) 60 y_v_base)) 165 y_v_many) 166 y_v_sort) 167 y_v_isBlanched) 168 y_v_first) 169 y_v_second) 170 y_v_sumFrom) 171 y_v_sumEnd) 172 y_v_testEnd) 173 y_v_codes) 174 y_v_wait), J, Rr, D) := by
  subst eoI128
  refine zMi.of (by decide) (Nat.le_of_ble_eq_true rfl) (fun C E hl hX hQ => ?_)
  subst hl
  subst hX
  have eI0 : (va_up (va_up (va_up (va_up (va_up (va_up (va_up (va_up (va_up (va_up (va_up I 128 (va_up (va_up (va_up (va_up (va_up (va_up (va_up (va_up (va_up (va_up (va_up (va_up (I 128) 18 v_taped) 19 v_at) 20 v_end) 21 v_ended) 22 v_bad) 23 v_badPlace) 24 v_fault) 25 v_faultPlace) 56 v_coded) 58 v_waits) 59 v_open) 60 v_base)) 165 v_many) 166 v_sort) 167 v_isBlanched) 168 v_first) 169 v_second) 170 v_sumFrom) 171 v_sumEnd) 172 v_testEnd) 173 v_codes) 174 v_wait) = I := by rw [zup_idE e_v_taped, zup_idE e_v_at, zup_idE e_v_end, zup_idE e_v_ended, zup_idE e_v_bad, zup_idE e_v_badPlace, zup_idE e_v_fault, zup_idE e_v_faultPlace, zup_idE e_v_coded, zup_idE e_v_waits, zup_idE e_v_open, zup_idE e_v_base, zup_id, zup_idE e_v_many, zup_idE e_v_sort, zup_idE e_v_isBlanched, zup_idE e_v_first, zup_idE e_v_second, zup_idE e_v_sumFrom, zup_idE e_v_sumEnd, zup_idE e_v_testEnd, zup_idE e_v_codes, zup_idE e_v_wait]
  have eJ0 : J = J := rfl
  refine zb_S (S2 := ((va_up (va_up (va_up (va_up (va_up (va_up (va_up (va_up (va_up (va_up (va_up I 128 (va_up (va_up (va_up (va_up (va_up (va_up (va_up (va_up (va_up (va_up (va_up (va_up (I 128) 18 v_taped) 19 v_at) 20 v_end) 21 v_ended) 22 v_bad) 23 v_badPlace) 24 v_fault) 25 v_faultPlace) 56 v_coded) 58 v_waits) 59 v_open) 60 v_base)) 165 v_many) 166 v_sort) 167 v_isBlanched) 168 v_first) 169 v_second) 170 v_sumFrom) 171 v_sumEnd) 172 v_testEnd) 173 v_codes) 174 v_wait), J, Rr, D)) (zS_eq eI0.symm eJ0.symm) ?_
  exact c_X12_reads_0 N v_allWord e_v_allWord v_allowWord e_v_allowWord v_andWord e_v_andWord v_blanchedWord e_v_blanchedWord v_debtWord e_v_debtWord v_farmWord e_v_farmWord v_forWord e_v_forWord v_inWord e_v_inWord v_maxWord e_v_maxWord v_minWord e_v_minWord v_notWord e_v_notWord v_orWord e_v_orWord v_paidWord e_v_paidWord v_pardonWord e_v_pardonWord v_penceWord e_v_penceWord v_poundsWord e_v_poundsWord v_shillingsWord e_v_shillingsWord v_shireWord e_v_shireWord v_splitWord e_v_splitWord v_tape e_v_tape v_termWord e_v_termWord v_yearWord e_v_yearWord rr y_v_at y_v_bad y_v_badPlace y_v_base y_v_coded y_v_end y_v_ended y_v_fault y_v_faultPlace y_v_open y_v_taped y_v_waits y_v_codes y_v_first y_v_isBlanched y_v_many y_v_second y_v_sort y_v_sumEnd y_v_sumFrom y_v_testEnd y_v_wait E hQ v_at v_bad v_badPlace v_base v_coded v_end v_ended v_fault v_faultPlace v_open v_taped v_waits v_codes v_first v_isBlanched v_many v_second v_sort v_sumEnd v_sumFrom v_testEnd v_wait h
-- ChequeredClothModel.copies
theorem dX12_copies_0 : decode cX12_copies 0 = .ok (.aload_n 0, 1) := by decide +kernel
theorem dX12_copies_1 : decode cX12_copies 1 = .ok (.getfield 133, 3) := by decide +kernel
theorem dX12_copies_4 : decode cX12_copies 4 = .ok (.iload_n 1, 1) := by decide +kernel
theorem dX12_copies_5 : decode cX12_copies 5 = .ok (.aload_n 0, 1) := by decide +kernel
theorem dX12_copies_6 : decode cX12_copies 6 = .ok (.getfield 133, 3) := by decide +kernel
theorem dX12_copies_9 : decode cX12_copies 9 = .ok (.iconst 0, 1) := by decide +kernel
theorem dX12_copies_10 : decode cX12_copies 10 = .ok (.iaload, 1) := by decide +kernel
theorem dX12_copies_11 : decode cX12_copies 11 = .ok (.iastore, 1) := by decide +kernel
theorem dX12_copies_12 : decode cX12_copies 12 = .ok (.iconst 0, 1) := by decide +kernel
theorem dX12_copies_13 : decode cX12_copies 13 = .ok (.istore_n 2, 1) := by decide +kernel
theorem dX12_copies_14 : decode cX12_copies 14 = .ok (.iload_n 2, 1) := by decide +kernel
theorem dX12_copies_15 : decode cX12_copies 15 = .ok (.aload_n 0, 1) := by decide +kernel
theorem dX12_copies_16 : decode cX12_copies 16 = .ok (.getfield 133, 3) := by decide +kernel
theorem dX12_copies_19 : decode cX12_copies 19 = .ok (.iconst 0, 1) := by decide +kernel
theorem dX12_copies_20 : decode cX12_copies 20 = .ok (.iaload, 1) := by decide +kernel
theorem dX12_copies_21 : decode cX12_copies 21 = .ok (.if_icmp .ge 112, 3) := by decide +kernel
theorem dX12_copies_24 : decode cX12_copies 24 = .ok (.bipush 24, 2) := by decide +kernel
theorem dX12_copies_26 : decode cX12_copies 26 = .ok (.iload_n 1, 1) := by decide +kernel
theorem dX12_copies_27 : decode cX12_copies 27 = .ok (.imul, 1) := by decide +kernel
theorem dX12_copies_28 : decode cX12_copies 28 = .ok (.iload_n 2, 1) := by decide +kernel
theorem dX12_copies_29 : decode cX12_copies 29 = .ok (.iadd, 1) := by decide +kernel
theorem dX12_copies_30 : decode cX12_copies 30 = .ok (.istore_n 3, 1) := by decide +kernel
theorem dX12_copies_31 : decode cX12_copies 31 = .ok (.iconst 0, 1) := by decide +kernel
theorem dX12_copies_32 : decode cX12_copies 32 = .ok (.iload_n 2, 1) := by decide +kernel
theorem dX12_copies_33 : decode cX12_copies 33 = .ok (.iadd, 1) := by decide +kernel
theorem dX12_copies_34 : decode cX12_copies 34 = .ok (.istore 4, 2) := by decide +kernel
theorem dX12_copies_36 : decode cX12_copies 36 = .ok (.aload_n 0, 1) := by decide +kernel
theorem dX12_copies_37 : decode cX12_copies 37 = .ok (.getfield 136, 3) := by decide +kernel
theorem dX12_copies_40 : decode cX12_copies 40 = .ok (.iload_n 3, 1) := by decide +kernel
theorem dX12_copies_41 : decode cX12_copies 41 = .ok (.aload_n 0, 1) := by decide +kernel
theorem dX12_copies_42 : decode cX12_copies 42 = .ok (.getfield 136, 3) := by decide +kernel
theorem dX12_copies_45 : decode cX12_copies 45 = .ok (.iload 4, 2) := by decide +kernel
theorem dX12_copies_47 : decode cX12_copies 47 = .ok (.iaload, 1) := by decide +kernel
theorem dX12_copies_48 : decode cX12_copies 48 = .ok (.iastore, 1) := by decide +kernel
theorem dX12_copies_49 : decode cX12_copies 49 = .ok (.aload_n 0, 1) := by decide +kernel
theorem dX12_copies_50 : decode cX12_copies 50 = .ok (.getfield 139, 3) := by decide +kernel
theorem dX12_copies_53 : decode cX12_copies 53 = .ok (.iload_n 3, 1) := by decide +kernel
theorem dX12_copies_54 : decode cX12_copies 54 = .ok (.aload_n 0, 1) := by decide +kernel
theorem dX12_copies_55 : decode cX12_copies 55 = .ok (.getfield 139, 3) := by decide +kernel
theorem dX12_copies_58 : decode cX12_copies 58 = .ok (.iload 4, 2) := by decide +kernel
theorem dX12_copies_60 : decode cX12_copies 60 = .ok (.baload, 1) := by decide +kernel
theorem dX12_copies_61 : decode cX12_copies 61 = .ok (.bastore, 1) := by decide +kernel
theorem dX12_copies_62 : decode cX12_copies 62 = .ok (.aload_n 0, 1) := by decide +kernel
theorem dX12_copies_63 : decode cX12_copies 63 = .ok (.getfield 143, 3) := by decide +kernel
theorem dX12_copies_66 : decode cX12_copies 66 = .ok (.iload_n 3, 1) := by decide +kernel
theorem dX12_copies_67 : decode cX12_copies 67 = .ok (.aload_n 0, 1) := by decide +kernel
theorem dX12_copies_68 : decode cX12_copies 68 = .ok (.getfield 143, 3) := by decide +kernel
theorem dX12_copies_71 : decode cX12_copies 71 = .ok (.iload 4, 2) := by decide +kernel
theorem dX12_copies_73 : decode cX12_copies 73 = .ok (.iaload, 1) := by decide +kernel
theorem dX12_copies_74 : decode cX12_copies 74 = .ok (.iastore, 1) := by decide +kernel
theorem dX12_copies_75 : decode cX12_copies 75 = .ok (.aload_n 0, 1) := by decide +kernel
theorem dX12_copies_76 : decode cX12_copies 76 = .ok (.getfield 146, 3) := by decide +kernel
theorem dX12_copies_79 : decode cX12_copies 79 = .ok (.iload_n 3, 1) := by decide +kernel
theorem dX12_copies_80 : decode cX12_copies 80 = .ok (.aload_n 0, 1) := by decide +kernel
theorem dX12_copies_81 : decode cX12_copies 81 = .ok (.getfield 146, 3) := by decide +kernel
theorem dX12_copies_84 : decode cX12_copies 84 = .ok (.iload 4, 2) := by decide +kernel
theorem dX12_copies_86 : decode cX12_copies 86 = .ok (.iaload, 1) := by decide +kernel
theorem dX12_copies_87 : decode cX12_copies 87 = .ok (.iastore, 1) := by decide +kernel
theorem dX12_copies_88 : decode cX12_copies 88 = .ok (.aload_n 0, 1) := by decide +kernel
theorem dX12_copies_89 : decode cX12_copies 89 = .ok (.getfield 149, 3) := by decide +kernel
theorem dX12_copies_92 : decode cX12_copies 92 = .ok (.iload_n 3, 1) := by decide +kernel
theorem dX12_copies_93 : decode cX12_copies 93 = .ok (.aload_n 0, 1) := by decide +kernel
theorem dX12_copies_94 : decode cX12_copies 94 = .ok (.getfield 149, 3) := by decide +kernel
theorem dX12_copies_97 : decode cX12_copies 97 = .ok (.iload 4, 2) := by decide +kernel
theorem dX12_copies_99 : decode cX12_copies 99 = .ok (.iaload, 1) := by decide +kernel
theorem dX12_copies_100 : decode cX12_copies 100 = .ok (.iastore, 1) := by decide +kernel
theorem dX12_copies_101 : decode cX12_copies 101 = .ok (.aload_n 0, 1) := by decide +kernel
theorem dX12_copies_102 : decode cX12_copies 102 = .ok (.getfield 152, 3) := by decide +kernel
theorem dX12_copies_105 : decode cX12_copies 105 = .ok (.iload_n 3, 1) := by decide +kernel
theorem dX12_copies_106 : decode cX12_copies 106 = .ok (.aload_n 0, 1) := by decide +kernel
theorem dX12_copies_107 : decode cX12_copies 107 = .ok (.getfield 152, 3) := by decide +kernel
theorem dX12_copies_110 : decode cX12_copies 110 = .ok (.iload 4, 2) := by decide +kernel
theorem dX12_copies_112 : decode cX12_copies 112 = .ok (.iaload, 1) := by decide +kernel
theorem dX12_copies_113 : decode cX12_copies 113 = .ok (.iastore, 1) := by decide +kernel
theorem dX12_copies_114 : decode cX12_copies 114 = .ok (.aload_n 0, 1) := by decide +kernel
theorem dX12_copies_115 : decode cX12_copies 115 = .ok (.getfield 155, 3) := by decide +kernel
theorem dX12_copies_118 : decode cX12_copies 118 = .ok (.iload_n 3, 1) := by decide +kernel
theorem dX12_copies_119 : decode cX12_copies 119 = .ok (.aload_n 0, 1) := by decide +kernel
theorem dX12_copies_120 : decode cX12_copies 120 = .ok (.getfield 155, 3) := by decide +kernel
theorem dX12_copies_123 : decode cX12_copies 123 = .ok (.iload 4, 2) := by decide +kernel
theorem dX12_copies_125 : decode cX12_copies 125 = .ok (.iaload, 1) := by decide +kernel
theorem dX12_copies_126 : decode cX12_copies 126 = .ok (.iastore, 1) := by decide +kernel
theorem dX12_copies_127 : decode cX12_copies 127 = .ok (.iinc 2 1, 3) := by decide +kernel
theorem dX12_copies_130 : decode cX12_copies 130 = .ok (.goto (-116), 3) := by decide +kernel
theorem dX12_copies_133 : decode cX12_copies 133 = .ok (.iconst 0, 1) := by decide +kernel
theorem dX12_copies_134 : decode cX12_copies 134 = .ok (.istore_n 2, 1) := by decide +kernel
theorem dX12_copies_135 : decode cX12_copies 135 = .ok (.iload_n 2, 1) := by decide +kernel
theorem dX12_copies_136 : decode cX12_copies 136 = .ok (.aload_n 0, 1) := by decide +kernel
theorem dX12_copies_137 : decode cX12_copies 137 = .ok (.getfield 314, 3) := by decide +kernel
theorem dX12_copies_140 : decode cX12_copies 140 = .ok (.if_icmp .ge 29, 3) := by decide +kernel
theorem dX12_copies_143 : decode cX12_copies 143 = .ok (.aload_n 0, 1) := by decide +kernel
theorem dX12_copies_144 : decode cX12_copies 144 = .ok (.getfield 159, 3) := by decide +kernel
theorem dX12_copies_147 : decode cX12_copies 147 = .ok (.sipush 640, 3) := by decide +kernel
theorem dX12_copies_150 : decode cX12_copies 150 = .ok (.iload_n 1, 1) := by decide +kernel
theorem dX12_copies_151 : decode cX12_copies 151 = .ok (.imul, 1) := by decide +kernel
theorem dX12_copies_152 : decode cX12_copies 152 = .ok (.iload_n 2, 1) := by decide +kernel
theorem dX12_copies_153 : decode cX12_copies 153 = .ok (.iadd, 1) := by decide +kernel
theorem dX12_copies_154 : decode cX12_copies 154 = .ok (.aload_n 0, 1) := by decide +kernel
theorem dX12_copies_155 : decode cX12_copies 155 = .ok (.getfield 159, 3) := by decide +kernel
theorem dX12_copies_158 : decode cX12_copies 158 = .ok (.iconst 0, 1) := by decide +kernel
theorem dX12_copies_159 : decode cX12_copies 159 = .ok (.iload_n 2, 1) := by decide +kernel
theorem dX12_copies_160 : decode cX12_copies 160 = .ok (.iadd, 1) := by decide +kernel
theorem dX12_copies_161 : decode cX12_copies 161 = .ok (.iaload, 1) := by decide +kernel
theorem dX12_copies_162 : decode cX12_copies 162 = .ok (.iastore, 1) := by decide +kernel
theorem dX12_copies_163 : decode cX12_copies 163 = .ok (.iinc 2 1, 3) := by decide +kernel
theorem dX12_copies_166 : decode cX12_copies 166 = .ok (.goto (-31), 3) := by decide +kernel
theorem dX12_copies_169 : decode cX12_copies 169 = .ok (.return_, 1) := by decide +kernel
theorem zy_X12_copies : zYv yX12_copies cX12_copies 5 none 1 := ⟨zw_1682, zws_82, zw_12, zw_1683, by decide, by decide, by decide⟩
theorem c_X12_copies_b14 {C : zC} {I : Nat → Nat → Int32} {J : Nat → Nat → Int64} {Rr : Nat → Nat → Option Nat} {D : zD} (N : Nat) (a1 : Int32) (v_coded : Int32) (e_v_coded : I 128 56 = v_coded) (y_v_codes : (Nat → Int32)) (y_v_first : (Nat → Int32)) (y_v_isBlanched : (Nat → Int32)) (y_v_many : (Nat → Int32)) (y_v_second : (Nat → Int32)) (y_v_sort : (Nat → Int32)) (y_v_sumEnd : (Nat → Int32)) (y_v_sumFrom : (Nat → Int32)) (y_v_testEnd : (Nat → Int32)) (E : zE C RX12 cX12_copies 5 none ({ frames := 0, cells := 0, slots := 0, locals := 0 } : Room)) (hQ : C.Q = zQv C ({ frames := 0, cells := 0, slots := 0, locals := 0 } : Room) ((va_up (va_up (va_up (va_up (va_up (va_up (va_up (va_up (va_up I 165 y_v_many) 166 y_v_sort) 167 y_v_isBlanched) 168 y_v_first) 169 y_v_second) 170 y_v_sumFrom) 171 y_v_sumEnd) 172 y_v_testEnd) 173 y_v_codes), J, Rr, D)) (v_codes : (Nat → Int32)) (v_many : (Nat → Int32)) (k133 : (Nat → Int32) → (Nat → Int32) → (Nat → Int32) → (Nat → Int32) → (Nat → Int32) → (Nat → Int32) → (Nat → Int32) → Option R_pM_copies) (hk133 : ∀ (v_first : (Nat → Int32)) (v_isBlanched : (Nat → Int32)) (v_second : (Nat → Int32)) (v_sort : (Nat → Int32)) (v_sumEnd : (Nat → Int32)) (v_sumFrom : (Nat → Int32)) (v_testEnd : (Nat → Int32)), k133 v_first v_isBlanched v_second v_sort v_sumEnd v_sumFrom v_testEnd = some (y_v_codes, y_v_first, y_v_isBlanched, y_v_many, y_v_second, y_v_sort, y_v_sumEnd, y_v_sumFrom, y_v_testEnd) → zB C (0, 0) 133 [(0, .ref (C.X.1 + 128)), (1, .int a1)] [] ((va_up (va_up (va_up (va_up (va_up (va_up (va_up (va_up (va_up I 165 v_many) 166 v_sort) 167 v_isBlanched) 168 v_first) 169 v_second) 170 v_sumFrom) 171 v_sumEnd) 172 v_testEnd) 173 v_codes), J, Rr, D)) : ∀ (n9 : Nat) (x2 : Int32) (v_first : (Nat → Int32)) (v_isBlanched : (Nat → Int32)) (v_second : (Nat → Int32)) (v_sort : (Nat → Int32)) (v_sumEnd : (Nat → Int32)) (v_sumFrom : (Nat → Int32)) (v_testEnd : (Nat → Int32)), pM_copies_b14 N a1 v_coded v_codes v_many k133 n9 x2 v_first v_isBlanched v_second v_sort v_sumEnd v_sumFrom v_testEnd = some (y_v_codes, y_v_first, y_v_isBlanched, y_v_many, y_v_second, y_v_sort, y_v_sumEnd, y_v_sumFrom, y_v_testEnd) → zB C (0, 0) 14 [(0, .ref (C.X.1 + 128)), (1, .int a1), (2, .int x2)] [] ((va_up (va_up (va_up (va_up (va_up (va_up (va_up (va_up (va_up I 165 v_many) 166 v_sort) 167 v_isBlanched) 168 v_first) 169 v_second) 170 v_sumFrom) 171 v_sumEnd) 172 v_testEnd) 173 v_codes), J, Rr, D) := by
  refine zlp8_ind (P := fun (x2 : Int32) (v_first : (Nat → Int32)) (v_isBlanched : (Nat → Int32)) (v_second : (Nat → Int32)) (v_sort : (Nat → Int32)) (v_sumEnd : (Nat → Int32)) (v_sumFrom : (Nat → Int32)) (v_testEnd : (Nat → Int32)) => zB C (0, 0) 14 [(0, .ref (C.X.1 + 128)), (1, .int a1), (2, .int x2)] [] ((va_up (va_up (va_up (va_up (va_up (va_up (va_up (va_up (va_up I 165 v_many) 166 v_sort) 167 v_isBlanched) 168 v_first) 169 v_second) 170 v_sumFrom) 171 v_sumEnd) 172 v_testEnd) 173 v_codes), J, Rr, D)) (fun self ih => ?_)
  intro x2 v_first v_isBlanched v_second v_sort v_sumEnd v_sumFrom v_testEnd h
  refine zb_iload_n E dX12_copies_14 2 rfl rfl ?_
  refine zb_aload_n E dX12_copies_15 0 rfl rfl ?_
  refine zb_get E 128 (by decide) (zF_128 C.X) rfl zin12 47 (by decide) zw_1215 (v := .ref (C.X.1 + 165)) rfl dX12_copies_16 ?_
  refine zb_iconst E dX12_copies_19 (v := 0) rfl ?_
  refine zb_iald E 165 (by decide) zF_165 (f := v_many) rfl (ib_in (by decide)) dX12_copies_20 ?_
  refine zb_icmp_ge E dX12_copies_21 (tgt := 133) rfl (fun hc => ?_) (fun hc => ?_)
  · have h := if_t h hc
    refine zb_sub [0, 1] rfl ?_
    exact hk133 v_first v_isBlanched v_second v_sort v_sumEnd v_sumFrom v_testEnd h
  · have h := if_f h hc
    refine zb_bipush E dX12_copies_24 (v := 24) rfl ?_
    refine zb_iload_n E dX12_copies_26 1 rfl rfl ?_
    refine zb_imul E dX12_copies_27 ?_
    refine zb_iload_n E dX12_copies_28 2 rfl rfl ?_
    refine zb_iadd E dX12_copies_29 ?_
    refine zb_istore_n E dX12_copies_30 rfl (by decide) (lv2 := [(3, .int ((24 * a1) + x2)), (0, .ref (C.X.1 + 128)), (1, .int a1), (2, .int x2)]) rfl ?_
    refine zb_iconst E dX12_copies_31 (v := 0) rfl ?_
    refine zb_iload_n E dX12_copies_32 3 rfl rfl ?_
    refine zb_iadd E dX12_copies_33 ?_
    refine zb_istore E dX12_copies_34 (by decide) (lv2 := [(4, .int (0 + x2)), (3, .int ((24 * a1) + x2)), (0, .ref (C.X.1 + 128)), (1, .int a1), (2, .int x2)]) rfl ?_
    refine zb_aload_n E dX12_copies_36 2 rfl rfl ?_
    refine zb_get E 128 (by decide) (zF_128 C.X) rfl zin12 48 (by decide) zw_1216 (v := .ref (C.X.1 + 166)) rfl dX12_copies_37 ?_
    refine zb_iload_n E dX12_copies_40 1 rfl rfl ?_
    refine zb_aload_n E dX12_copies_41 2 rfl rfl ?_
    refine zb_get E 128 (by decide) (zF_128 C.X) rfl zin12 48 (by decide) zw_1216 (v := .ref (C.X.1 + 166)) rfl dX12_copies_42 ?_
    refine zb_iload E dX12_copies_45 0 rfl ?_
    obtain ⟨g2, h⟩ := gd_s h
    refine zb_iald E 166 (by decide) zF_166 (f := v_sort) rfl (ib_in g2) dX12_copies_47 ?_
    obtain ⟨g3, h⟩ := gd_s h
    refine zb_iast E 166 (by decide) zF_166 (f := v_sort) rfl (ib_in g3) dX12_copies_48 (I2 := (va_up (va_up (va_up (va_up (va_up (va_up (va_up (va_up (va_up I 165 v_many) 166 (upd v_sort (ix ((24 * a1) + x2)) (v_sort (ix (0 + x2))))) 167 v_isBlanched) 168 v_first) 169 v_second) 170 v_sumFrom) 171 v_sumEnd) 172 v_testEnd) 173 v_codes)) (zn8 (by decide : (173 : Nat) ≠ 166) (by decide : (172 : Nat) ≠ 166) (by decide : (171 : Nat) ≠ 166) (by decide : (170 : Nat) ≠ 166) (by decide : (169 : Nat) ≠ 166) (by decide : (168 : Nat) ≠ 166) (by decide : (167 : Nat) ≠ 166)) ?_
    refine zb_aload_n E dX12_copies_49 2 rfl rfl ?_
    refine zb_get E 128 (by decide) (zF_128 C.X) rfl zin12 49 (by decide) zw_1217 (v := .ref (C.X.1 + 167)) rfl dX12_copies_50 ?_
    refine zb_iload_n E dX12_copies_53 1 rfl rfl ?_
    refine zb_aload_n E dX12_copies_54 2 rfl rfl ?_
    refine zb_get E 128 (by decide) (zF_128 C.X) rfl zin12 49 (by decide) zw_1217 (v := .ref (C.X.1 + 167)) rfl dX12_copies_55 ?_
    refine zb_iload E dX12_copies_58 0 rfl ?_
    refine zb_zald E 167 (by decide) zF_167 (f := v_isBlanched) rfl (ib_in g2) dX12_copies_60 ?_
    refine zb_zast E 167 (by decide) zF_167 (f := v_isBlanched) rfl (ib_in g3) dX12_copies_61 (I2 := (va_up (va_up (va_up (va_up (va_up (va_up (va_up (va_up (va_up I 165 v_many) 166 (upd v_sort (ix ((24 * a1) + x2)) (v_sort (ix (0 + x2))))) 167 (upd v_isBlanched (ix ((24 * a1) + x2)) (nZ (v_isBlanched (ix (0 + x2)))))) 168 v_first) 169 v_second) 170 v_sumFrom) 171 v_sumEnd) 172 v_testEnd) 173 v_codes)) (zn7 (by decide : (173 : Nat) ≠ 167) (by decide : (172 : Nat) ≠ 167) (by decide : (171 : Nat) ≠ 167) (by decide : (170 : Nat) ≠ 167) (by decide : (169 : Nat) ≠ 167) (by decide : (168 : Nat) ≠ 167)) ?_
    refine zb_aload_n E dX12_copies_62 2 rfl rfl ?_
    refine zb_get E 128 (by decide) (zF_128 C.X) rfl zin12 50 (by decide) zw_1218 (v := .ref (C.X.1 + 168)) rfl dX12_copies_63 ?_
    refine zb_iload_n E dX12_copies_66 1 rfl rfl ?_
    refine zb_aload_n E dX12_copies_67 2 rfl rfl ?_
    refine zb_get E 128 (by decide) (zF_128 C.X) rfl zin12 50 (by decide) zw_1218 (v := .ref (C.X.1 + 168)) rfl dX12_copies_68 ?_
    refine zb_iload E dX12_copies_71 0 rfl ?_
    refine zb_iald E 168 (by decide) zF_168 (f := v_first) rfl (ib_in g2) dX12_copies_73 ?_
    refine zb_iast E 168 (by decide) zF_168 (f := v_first) rfl (ib_in g3) dX12_copies_74 (I2 := (va_up (va_up (va_up (va_up (va_up (va_up (va_up (va_up (va_up I 165 v_many) 166 (upd v_sort (ix ((24 * a1) + x2)) (v_sort (ix (0 + x2))))) 167 (upd v_isBlanched (ix ((24 * a1) + x2)) (nZ (v_isBlanched (ix (0 + x2)))))) 168 (upd v_first (ix ((24 * a1) + x2)) (v_first (ix (0 + x2))))) 169 v_second) 170 v_sumFrom) 171 v_sumEnd) 172 v_testEnd) 173 v_codes)) (zn6 (by decide : (173 : Nat) ≠ 168) (by decide : (172 : Nat) ≠ 168) (by decide : (171 : Nat) ≠ 168) (by decide : (170 : Nat) ≠ 168) (by decide : (169 : Nat) ≠ 168)) ?_
    refine zb_aload_n E dX12_copies_75 2 rfl rfl ?_
    refine zb_get E 128 (by decide) (zF_128 C.X) rfl zin12 51 (by decide) zw_1219 (v := .ref (C.X.1 + 169)) rfl dX12_copies_76 ?_
    refine zb_iload_n E dX12_copies_79 1 rfl rfl ?_
    refine zb_aload_n E dX12_copies_80 2 rfl rfl ?_
    refine zb_get E 128 (by decide) (zF_128 C.X) rfl zin12 51 (by decide) zw_1219 (v := .ref (C.X.1 + 169)) rfl dX12_copies_81 ?_
    refine zb_iload E dX12_copies_84 0 rfl ?_
    refine zb_iald E 169 (by decide) zF_169 (f := v_second) rfl (ib_in g2) dX12_copies_86 ?_
    refine zb_iast E 169 (by decide) zF_169 (f := v_second) rfl (ib_in g3) dX12_copies_87 (I2 := (va_up (va_up (va_up (va_up (va_up (va_up (va_up (va_up (va_up I 165 v_many) 166 (upd v_sort (ix ((24 * a1) + x2)) (v_sort (ix (0 + x2))))) 167 (upd v_isBlanched (ix ((24 * a1) + x2)) (nZ (v_isBlanched (ix (0 + x2)))))) 168 (upd v_first (ix ((24 * a1) + x2)) (v_first (ix (0 + x2))))) 169 (upd v_second (ix ((24 * a1) + x2)) (v_second (ix (0 + x2))))) 170 v_sumFrom) 171 v_sumEnd) 172 v_testEnd) 173 v_codes)) (zn5 (by decide : (173 : Nat) ≠ 169) (by decide : (172 : Nat) ≠ 169) (by decide : (171 : Nat) ≠ 169) (by decide : (170 : Nat) ≠ 169)) ?_
    refine zb_aload_n E dX12_copies_88 2 rfl rfl ?_
    refine zb_get E 128 (by decide) (zF_128 C.X) rfl zin12 52 (by decide) zw_1220 (v := .ref (C.X.1 + 170)) rfl dX12_copies_89 ?_
    refine zb_iload_n E dX12_copies_92 1 rfl rfl ?_
    refine zb_aload_n E dX12_copies_93 2 rfl rfl ?_
    refine zb_get E 128 (by decide) (zF_128 C.X) rfl zin12 52 (by decide) zw_1220 (v := .ref (C.X.1 + 170)) rfl dX12_copies_94 ?_
    refine zb_iload E dX12_copies_97 0 rfl ?_
    refine zb_iald E 170 (by decide) zF_170 (f := v_sumFrom) rfl (ib_in g2) dX12_copies_99 ?_
    refine zb_iast E 170 (by decide) zF_170 (f := v_sumFrom) rfl (ib_in g3) dX12_copies_100 (I2 := (va_up (va_up (va_up (va_up (va_up (va_up (va_up (va_up (va_up I 165 v_many) 166 (upd v_sort (ix ((24 * a1) + x2)) (v_sort (ix (0 + x2))))) 167 (upd v_isBlanched (ix ((24 * a1) + x2)) (nZ (v_isBlanched (ix (0 + x2)))))) 168 (upd v_first (ix ((24 * a1) + x2)) (v_first (ix (0 + x2))))) 169 (upd v_second (ix ((24 * a1) + x2)) (v_second (ix (0 + x2))))) 170 (upd v_sumFrom (ix ((24 * a1) + x2)) (v_sumFrom (ix (0 + x2))))) 171 v_sumEnd) 172 v_testEnd) 173 v_codes)) (zn4 (by decide : (173 : Nat) ≠ 170) (by decide : (172 : Nat) ≠ 170) (by decide : (171 : Nat) ≠ 170)) ?_
    refine zb_aload_n E dX12_copies_101 2 rfl rfl ?_
    refine zb_get E 128 (by decide) (zF_128 C.X) rfl zin12 53 (by decide) zw_1221 (v := .ref (C.X.1 + 171)) rfl dX12_copies_102 ?_
    refine zb_iload_n E dX12_copies_105 1 rfl rfl ?_
    refine zb_aload_n E dX12_copies_106 2 rfl rfl ?_
    refine zb_get E 128 (by decide) (zF_128 C.X) rfl zin12 53 (by decide) zw_1221 (v := .ref (C.X.1 + 171)) rfl dX12_copies_107 ?_
    refine zb_iload E dX12_copies_110 0 rfl ?_
    refine zb_iald E 171 (by decide) zF_171 (f := v_sumEnd) rfl (ib_in g2) dX12_copies_112 ?_
    refine zb_iast E 171 (by decide) zF_171 (f := v_sumEnd) rfl (ib_in g3) dX12_copies_113 (I2 := (va_up (va_up (va_up (va_up (va_up (va_up (va_up (va_up (va_up I 165 v_many) 166 (upd v_sort (ix ((24 * a1) + x2)) (v_sort (ix (0 + x2))))) 167 (upd v_isBlanched (ix ((24 * a1) + x2)) (nZ (v_isBlanched (ix (0 + x2)))))) 168 (upd v_first (ix ((24 * a1) + x2)) (v_first (ix (0 + x2))))) 169 (upd v_second (ix ((24 * a1) + x2)) (v_second (ix (0 + x2))))) 170 (upd v_sumFrom (ix ((24 * a1) + x2)) (v_sumFrom (ix (0 + x2))))) 171 (upd v_sumEnd (ix ((24 * a1) + x2)) (v_sumEnd (ix (0 + x2))))) 172 v_testEnd) 173 v_codes)) (zn3 (by decide : (173 : Nat) ≠ 171) (by decide : (172 : Nat) ≠ 171)) ?_
    refine zb_aload_n E dX12_copies_114 2 rfl rfl ?_
    refine zb_get E 128 (by decide) (zF_128 C.X) rfl zin12 54 (by decide) zw_1222 (v := .ref (C.X.1 + 172)) rfl dX12_copies_115 ?_
    refine zb_iload_n E dX12_copies_118 1 rfl rfl ?_
    refine zb_aload_n E dX12_copies_119 2 rfl rfl ?_
    refine zb_get E 128 (by decide) (zF_128 C.X) rfl zin12 54 (by decide) zw_1222 (v := .ref (C.X.1 + 172)) rfl dX12_copies_120 ?_
    refine zb_iload E dX12_copies_123 0 rfl ?_
    refine zb_iald E 172 (by decide) zF_172 (f := v_testEnd) rfl (ib_in g2) dX12_copies_125 ?_
    refine zb_iast E 172 (by decide) zF_172 (f := v_testEnd) rfl (ib_in g3) dX12_copies_126 (I2 := (va_up (va_up (va_up (va_up (va_up (va_up (va_up (va_up (va_up I 165 v_many) 166 (upd v_sort (ix ((24 * a1) + x2)) (v_sort (ix (0 + x2))))) 167 (upd v_isBlanched (ix ((24 * a1) + x2)) (nZ (v_isBlanched (ix (0 + x2)))))) 168 (upd v_first (ix ((24 * a1) + x2)) (v_first (ix (0 + x2))))) 169 (upd v_second (ix ((24 * a1) + x2)) (v_second (ix (0 + x2))))) 170 (upd v_sumFrom (ix ((24 * a1) + x2)) (v_sumFrom (ix (0 + x2))))) 171 (upd v_sumEnd (ix ((24 * a1) + x2)) (v_sumEnd (ix (0 + x2))))) 172 (upd v_testEnd (ix ((24 * a1) + x2)) (v_testEnd (ix (0 + x2))))) 173 v_codes)) (zn2 (by decide : (173 : Nat) ≠ 172)) ?_
    refine zb_iinc E dX12_copies_127 4 rfl (v := (x2 + 1)) rfl (by decide) (lv2 := [(2, .int (x2 + 1)), (4, .int (0 + x2)), (3, .int ((24 * a1) + x2)), (0, .ref (C.X.1 + 128)), (1, .int a1)]) rfl ?_
    refine zb_goto E dX12_copies_130 (tgt := 14) rfl ?_
    refine zb_sub [3, 4, 0] rfl ?_
    exact ih (x2 + 1) (upd v_first (ix ((24 * a1) + x2)) (v_first (ix (0 + x2)))) (upd v_isBlanched (ix ((24 * a1) + x2)) (nZ (v_isBlanched (ix (0 + x2))))) (upd v_second (ix ((24 * a1) + x2)) (v_second (ix (0 + x2)))) (upd v_sort (ix ((24 * a1) + x2)) (v_sort (ix (0 + x2)))) (upd v_sumEnd (ix ((24 * a1) + x2)) (v_sumEnd (ix (0 + x2)))) (upd v_sumFrom (ix ((24 * a1) + x2)) (v_sumFrom (ix (0 + x2)))) (upd v_testEnd (ix ((24 * a1) + x2)) (v_testEnd (ix (0 + x2)))) h
theorem c_X12_copies_b135 {C : zC} {I : Nat → Nat → Int32} {J : Nat → Nat → Int64} {Rr : Nat → Nat → Option Nat} {D : zD} (N : Nat) (a1 : Int32) (v_coded : Int32) (e_v_coded : I 128 56 = v_coded) (y_v_codes : (Nat → Int32)) (y_v_first : (Nat → Int32)) (y_v_isBlanched : (Nat → Int32)) (y_v_many : (Nat → Int32)) (y_v_second : (Nat → Int32)) (y_v_sort : (Nat → Int32)) (y_v_sumEnd : (Nat → Int32)) (y_v_sumFrom : (Nat → Int32)) (y_v_testEnd : (Nat → Int32)) (E : zE C RX12 cX12_copies 5 none ({ frames := 0, cells := 0, slots := 0, locals := 0 } : Room)) (hQ : C.Q = zQv C ({ frames := 0, cells := 0, slots := 0, locals := 0 } : Room) ((va_up (va_up (va_up (va_up (va_up (va_up (va_up (va_up (va_up I 165 y_v_many) 166 y_v_sort) 167 y_v_isBlanched) 168 y_v_first) 169 y_v_second) 170 y_v_sumFrom) 171 y_v_sumEnd) 172 y_v_testEnd) 173 y_v_codes), J, Rr, D)) (v_first : (Nat → Int32)) (v_isBlanched : (Nat → Int32)) (v_many : (Nat → Int32)) (v_second : (Nat → Int32)) (v_sort : (Nat → Int32)) (v_sumEnd : (Nat → Int32)) (v_sumFrom : (Nat → Int32)) (v_testEnd : (Nat → Int32))  : ∀ (n9 : Nat) (x2 : Int32) (v_codes : (Nat → Int32)), pM_copies_b135 N a1 v_coded v_first v_isBlanched v_many v_second v_sort v_sumEnd v_sumFrom v_testEnd n9 x2 v_codes = some (y_v_codes, y_v_first, y_v_isBlanched, y_v_many, y_v_second, y_v_sort, y_v_sumEnd, y_v_sumFrom, y_v_testEnd) → zB C (0, 0) 135 [(0, .ref (C.X.1 + 128)), (1, .int a1), (2, .int x2)] [] ((va_up (va_up (va_up (va_up (va_up (va_up (va_up (va_up (va_up I 165 v_many) 166 v_sort) 167 v_isBlanched) 168 v_first) 169 v_second) 170 v_sumFrom) 171 v_sumEnd) 172 v_testEnd) 173 v_codes), J, Rr, D) := by
  refine zlp2_ind (P := fun (x2 : Int32) (v_codes : (Nat → Int32)) => zB C (0, 0) 135 [(0, .ref (C.X.1 + 128)), (1, .int a1), (2, .int x2)] [] ((va_up (va_up (va_up (va_up (va_up (va_up (va_up (va_up (va_up I 165 v_many) 166 v_sort) 167 v_isBlanched) 168 v_first) 169 v_second) 170 v_sumFrom) 171 v_sumEnd) 172 v_testEnd) 173 v_codes), J, Rr, D)) (fun self ih => ?_)
  intro x2 v_codes h
  refine zb_iload_n E dX12_copies_135 2 rfl rfl ?_
  refine zb_aload_n E dX12_copies_136 0 rfl rfl ?_
  refine zb_get E 128 (by decide) (zF_128 C.X) rfl zin12 56 (by decide) zw_1224 (v := .int v_coded) (by exact congrArg (fun z => some (Value.int z)) e_v_coded) dX12_copies_137 ?_
  refine zb_icmp_ge E dX12_copies_140 (tgt := 169) rfl (fun hc => ?_) (fun hc => ?_)
  · have h := if_t h hc
    obtain ⟨rfl, rfl, rfl, rfl, rfl, rfl, rfl, rfl, rfl⟩ := zinj9 h
    exact zb_vret E hQ rfl ⟨Nat.zero_le _, Nat.zero_le _⟩ dX12_copies_169
  · have h := if_f h hc
    refine zb_aload_n E dX12_copies_143 0 rfl rfl ?_
    refine zb_get E 128 (by decide) (zF_128 C.X) rfl zin12 55 (by decide) zw_1223 (v := .ref (C.X.1 + 173)) rfl dX12_copies_144 ?_
    refine zb_sipush E dX12_copies_147 (v := 640) rfl ?_
    refine zb_iload_n E dX12_copies_150 1 rfl rfl ?_
    refine zb_imul E dX12_copies_151 ?_
    refine zb_iload_n E dX12_copies_152 2 rfl rfl ?_
    refine zb_iadd E dX12_copies_153 ?_
    refine zb_aload_n E dX12_copies_154 0 rfl rfl ?_
    refine zb_get E 128 (by decide) (zF_128 C.X) rfl zin12 55 (by decide) zw_1223 (v := .ref (C.X.1 + 173)) rfl dX12_copies_155 ?_
    refine zb_iconst E dX12_copies_158 (v := 0) rfl ?_
    refine zb_iload_n E dX12_copies_159 2 rfl rfl ?_
    refine zb_iadd E dX12_copies_160 ?_
    obtain ⟨g4, h⟩ := gd_s h
    refine zb_iald E 173 (by decide) zF_173 (f := v_codes) rfl (ib_in g4) dX12_copies_161 ?_
    obtain ⟨g5, h⟩ := gd_s h
    refine zb_iast E 173 (by decide) zF_173 (f := v_codes) rfl (ib_in g5) dX12_copies_162 (I2 := (va_up (va_up (va_up (va_up (va_up (va_up (va_up (va_up (va_up I 165 v_many) 166 v_sort) 167 v_isBlanched) 168 v_first) 169 v_second) 170 v_sumFrom) 171 v_sumEnd) 172 v_testEnd) 173 (upd v_codes (ix ((640 * a1) + x2)) (v_codes (ix (0 + x2)))))) zn1 ?_
    refine zb_iinc E dX12_copies_163 2 rfl (v := (x2 + 1)) rfl (by decide) (lv2 := [(2, .int (x2 + 1)), (0, .ref (C.X.1 + 128)), (1, .int a1)]) rfl ?_
    refine zb_goto E dX12_copies_166 (tgt := 135) rfl ?_
    refine zb_sub [1, 2, 0] rfl ?_
    exact ih (x2 + 1) (upd v_codes (ix ((640 * a1) + x2)) (v_codes (ix (0 + x2)))) h
theorem c_X12_copies_b133 {C : zC} {I : Nat → Nat → Int32} {J : Nat → Nat → Int64} {Rr : Nat → Nat → Option Nat} {D : zD} (N : Nat) (a1 : Int32) (v_coded : Int32) (e_v_coded : I 128 56 = v_coded) (y_v_codes : (Nat → Int32)) (y_v_first : (Nat → Int32)) (y_v_isBlanched : (Nat → Int32)) (y_v_many : (Nat → Int32)) (y_v_second : (Nat → Int32)) (y_v_sort : (Nat → Int32)) (y_v_sumEnd : (Nat → Int32)) (y_v_sumFrom : (Nat → Int32)) (y_v_testEnd : (Nat → Int32)) (E : zE C RX12 cX12_copies 5 none ({ frames := 0, cells := 0, slots := 0, locals := 0 } : Room)) (hQ : C.Q = zQv C ({ frames := 0, cells := 0, slots := 0, locals := 0 } : Room) ((va_up (va_up (va_up (va_up (va_up (va_up (va_up (va_up (va_up I 165 y_v_many) 166 y_v_sort) 167 y_v_isBlanched) 168 y_v_first) 169 y_v_second) 170 y_v_sumFrom) 171 y_v_sumEnd) 172 y_v_testEnd) 173 y_v_codes), J, Rr, D)) (v_codes : (Nat → Int32)) (v_first : (Nat → Int32)) (v_isBlanched : (Nat → Int32)) (v_many : (Nat → Int32)) (v_second : (Nat → Int32)) (v_sort : (Nat → Int32)) (v_sumEnd : (Nat → Int32)) (v_sumFrom : (Nat → Int32)) (v_testEnd : (Nat → Int32)) (h : pM_copies_b133 N a1 v_coded v_codes v_first v_isBlanched v_many v_second v_sort v_sumEnd v_sumFrom v_testEnd = some (y_v_codes, y_v_first, y_v_isBlanched, y_v_many, y_v_second, y_v_sort, y_v_sumEnd, y_v_sumFrom, y_v_testEnd)) : zB C (0, 0) 133 [(0, .ref (C.X.1 + 128)), (1, .int a1)] [] ((va_up (va_up (va_up (va_up (va_up (va_up (va_up (va_up (va_up I 165 v_many) 166 v_sort) 167 v_isBlanched) 168 v_first) 169 v_second) 170 v_sumFrom) 171 v_sumEnd) 172 v_testEnd) 173 v_codes), J, Rr, D) := by
  refine zb_iconst E dX12_copies_133 (v := 0) rfl ?_
  refine zb_istore_n E dX12_copies_134 rfl (by decide) (lv2 := [(2, .int 0), (0, .ref (C.X.1 + 128)), (1, .int a1)]) rfl ?_
  refine zb_sub [1, 2, 0] rfl ?_
  exact c_X12_copies_b135 N a1 v_coded e_v_coded y_v_codes y_v_first y_v_isBlanched y_v_many y_v_second y_v_sort y_v_sumEnd y_v_sumFrom y_v_testEnd E hQ v_first v_isBlanched v_many v_second v_sort v_sumEnd v_sumFrom v_testEnd _ 0 v_codes h
theorem c_X12_copies_0 {C : zC} {I : Nat → Nat → Int32} {J : Nat → Nat → Int64} {Rr : Nat → Nat → Option Nat} {D : zD} (N : Nat) (a1 : Int32) (v_coded : Int32) (e_v_coded : I 128 56 = v_coded) (y_v_codes : (Nat → Int32)) (y_v_first : (Nat → Int32)) (y_v_isBlanched : (Nat → Int32)) (y_v_many : (Nat → Int32)) (y_v_second : (Nat → Int32)) (y_v_sort : (Nat → Int32)) (y_v_sumEnd : (Nat → Int32)) (y_v_sumFrom : (Nat → Int32)) (y_v_testEnd : (Nat → Int32)) (E : zE C RX12 cX12_copies 5 none ({ frames := 0, cells := 0, slots := 0, locals := 0 } : Room)) (hQ : C.Q = zQv C ({ frames := 0, cells := 0, slots := 0, locals := 0 } : Room) ((va_up (va_up (va_up (va_up (va_up (va_up (va_up (va_up (va_up I 165 y_v_many) 166 y_v_sort) 167 y_v_isBlanched) 168 y_v_first) 169 y_v_second) 170 y_v_sumFrom) 171 y_v_sumEnd) 172 y_v_testEnd) 173 y_v_codes), J, Rr, D)) (v_codes : (Nat → Int32)) (v_first : (Nat → Int32)) (v_isBlanched : (Nat → Int32)) (v_many : (Nat → Int32)) (v_second : (Nat → Int32)) (v_sort : (Nat → Int32)) (v_sumEnd : (Nat → Int32)) (v_sumFrom : (Nat → Int32)) (v_testEnd : (Nat → Int32)) (h : pM_copies N a1 v_coded v_codes v_first v_isBlanched v_many v_second v_sort v_sumEnd v_sumFrom v_testEnd = some (y_v_codes, y_v_first, y_v_isBlanched, y_v_many, y_v_second, y_v_sort, y_v_sumEnd, y_v_sumFrom, y_v_testEnd)) : zB C (0, 0) 0 [(0, .ref (C.X.1 + 128)), (1, .int a1)] [] ((va_up (va_up (va_up (va_up (va_up (va_up (va_up (va_up (va_up I 165 v_many) 166 v_sort) 167 v_isBlanched) 168 v_first) 169 v_second) 170 v_sumFrom) 171 v_sumEnd) 172 v_testEnd) 173 v_codes), J, Rr, D) := by
  refine zb_aload_n E dX12_copies_0 0 rfl rfl ?_
  refine zb_get E 128 (by decide) (zF_128 C.X) rfl zin12 47 (by decide) zw_1215 (v := .ref (C.X.1 + 165)) rfl dX12_copies_1 ?_
  refine zb_iload_n E dX12_copies_4 1 rfl rfl ?_
  refine zb_aload_n E dX12_copies_5 0 rfl rfl ?_
  refine zb_get E 128 (by decide) (zF_128 C.X) rfl zin12 47 (by decide) zw_1215 (v := .ref (C.X.1 + 165)) rfl dX12_copies_6 ?_
  refine zb_iconst E dX12_copies_9 (v := 0) rfl ?_
  refine zb_iald E 165 (by decide) zF_165 (f := v_many) rfl (ib_in (by decide)) dX12_copies_10 ?_
  obtain ⟨g1, h⟩ := gd_s h
  refine zb_iast E 165 (by decide) zF_165 (f := v_many) rfl (ib_in g1) dX12_copies_11 (I2 := (va_up (va_up (va_up (va_up (va_up (va_up (va_up (va_up (va_up I 165 (upd v_many (ix a1) (v_many (ix 0)))) 166 v_sort) 167 v_isBlanched) 168 v_first) 169 v_second) 170 v_sumFrom) 171 v_sumEnd) 172 v_testEnd) 173 v_codes)) (zn9 (by decide : (173 : Nat) ≠ 165) (by decide : (172 : Nat) ≠ 165) (by decide : (171 : Nat) ≠ 165) (by decide : (170 : Nat) ≠ 165) (by decide : (169 : Nat) ≠ 165) (by decide : (168 : Nat) ≠ 165) (by decide : (167 : Nat) ≠ 165) (by decide : (166 : Nat) ≠ 165)) ?_
  refine zb_iconst E dX12_copies_12 (v := 0) rfl ?_
  refine zb_istore_n E dX12_copies_13 rfl (by decide) (lv2 := [(2, .int 0), (0, .ref (C.X.1 + 128)), (1, .int a1)]) rfl ?_
  refine zb_sub [1, 2, 0] rfl ?_
  exact c_X12_copies_b14 N a1 v_coded e_v_coded y_v_codes y_v_first y_v_isBlanched y_v_many y_v_second y_v_sort y_v_sumEnd y_v_sumFrom y_v_testEnd E hQ v_codes (upd v_many (ix a1) (v_many (ix 0))) _ (fun v_first_z1 v_isBlanched_z2 v_second_z3 v_sort_z4 v_sumEnd_z5 v_sumFrom_z6 v_testEnd_z7 h => c_X12_copies_b133 N a1 v_coded e_v_coded y_v_codes y_v_first y_v_isBlanched y_v_many y_v_second y_v_sort y_v_sumEnd y_v_sumFrom y_v_testEnd E hQ v_codes v_first_z1 v_isBlanched_z2 (upd v_many (ix a1) (v_many (ix 0))) v_second_z3 v_sort_z4 v_sumEnd_z5 v_sumFrom_z6 v_testEnd_z7 h) _ 0 v_first v_isBlanched v_second v_sort v_sumEnd v_sumFrom v_testEnd h
theorem c_X12_copies {l : Launch} {X : zX} {I : Nat → Nat → Int32} {J : Nat → Nat → Int64} {Rr : Nat → Nat → Option Nat} {D : zD} {N : Nat} {a1 : Int32} (v_coded : Int32) (e_v_coded : I 128 56 = v_coded) (v_codes : (Nat → Int32)) (e_v_codes : I 173 = v_codes) (v_first : (Nat → Int32)) (e_v_first : I 168 = v_first) (v_isBlanched : (Nat → Int32)) (e_v_isBlanched : I 167 = v_isBlanched) (v_many : (Nat → Int32)) (e_v_many : I 165 = v_many) (v_second : (Nat → Int32)) (e_v_second : I 169 = v_second) (v_sort : (Nat → Int32)) (e_v_sort : I 166 = v_sort) (v_sumEnd : (Nat → Int32)) (e_v_sumEnd : I 171 = v_sumEnd) (v_sumFrom : (Nat → Int32)) (e_v_sumFrom : I 170 = v_sumFrom) (v_testEnd : (Nat → Int32)) (e_v_testEnd : I 172 = v_testEnd) {y_v_codes : (Nat → Int32)} {y_v_first : (Nat → Int32)} {y_v_isBlanched : (Nat → Int32)} {y_v_many : (Nat → Int32)} {y_v_second : (Nat → Int32)} {y_v_sort : (Nat → Int32)} {y_v_sumEnd : (Nat → Int32)} {y_v_sumFrom : (Nat → Int32)} {y_v_testEnd : (Nat → Int32)} (h : pM_copies N a1 v_coded v_codes v_first v_isBlanched v_many v_second v_sort v_sumEnd v_sumFrom v_testEnd = some (y_v_codes, y_v_first, y_v_isBlanched, y_v_many, y_v_second, y_v_sort, y_v_sumEnd, y_v_sumFrom, y_v_testEnd)) : zMv l yX12_copies cX12_copies 5 none ({ frames := 0, cells := 0, slots := 0, locals := 0 } : Room) X [.ref (X.1 + 128), .int a1] (I, J, Rr, D) ((va_up (va_up (va_up (va_up (va_up (va_up (va_up (va_up (va_up I 165 y_v_many) 166 y_v_sort) 167 y_v_isBlanched) 168 y_v_first) 169 y_v_second) 170 y_v_sumFrom) 171 y_v_sumEnd) 172 y_v_testEnd) 173 y_v_codes), J, Rr, D) := by
  refine zMv.of (by decide) (Nat.le_of_ble_eq_true rfl) (fun C E hl hX hQ => ?_)
  subst hl
  subst hX
  have eI0 : (va_up (va_up (va_up (va_up (va_up (va_up (va_up (va_up (va_up I 165 v_many) 166 v_sort) 167 v_isBlanched) 168 v_first) 169 v_second) 170 v_sumFrom) 171 v_sumEnd) 172 v_testEnd) 173 v_codes) = I := by rw [zup_idE e_v_many, zup_idE e_v_sort, zup_idE e_v_isBlanched, zup_idE e_v_first, zup_idE e_v_second, zup_idE e_v_sumFrom, zup_idE e_v_sumEnd, zup_idE e_v_testEnd, zup_idE e_v_codes]
  have eJ0 : J = J := rfl
  refine zb_S (S2 := ((va_up (va_up (va_up (va_up (va_up (va_up (va_up (va_up (va_up I 165 v_many) 166 v_sort) 167 v_isBlanched) 168 v_first) 169 v_second) 170 v_sumFrom) 171 v_sumEnd) 172 v_testEnd) 173 v_codes), J, Rr, D)) (zS_eq eI0.symm eJ0.symm) ?_
  exact c_X12_copies_0 N a1 v_coded e_v_coded y_v_codes y_v_first y_v_isBlanched y_v_many y_v_second y_v_sort y_v_sumEnd y_v_sumFrom y_v_testEnd E hQ v_codes v_first v_isBlanched v_many v_second v_sort v_sumEnd v_sumFrom v_testEnd h
-- ChequeredClothModel.clip
theorem dX12_clip_0 : decode cX12_clip 0 = .ok (.lload_n 0, 1) := by decide +kernel
theorem dX12_clip_1 : decode cX12_clip 1 = .ok (.ldc2_w 205, 3) := by decide +kernel
theorem dX12_clip_4 : decode cX12_clip 4 = .ok (.lcmp, 1) := by decide +kernel
theorem dX12_clip_5 : decode cX12_clip 5 = .ok (.ifCond .le 9, 3) := by decide +kernel
theorem dX12_clip_8 : decode cX12_clip 8 = .ok (.ldc2_w 205, 3) := by decide +kernel
theorem dX12_clip_11 : decode cX12_clip 11 = .ok (.goto 18, 3) := by decide +kernel
theorem dX12_clip_14 : decode cX12_clip 14 = .ok (.lload_n 0, 1) := by decide +kernel
theorem dX12_clip_15 : decode cX12_clip 15 = .ok (.ldc2_w 392, 3) := by decide +kernel
theorem dX12_clip_18 : decode cX12_clip 18 = .ok (.lcmp, 1) := by decide +kernel
theorem dX12_clip_19 : decode cX12_clip 19 = .ok (.ifCond .ge 9, 3) := by decide +kernel
theorem dX12_clip_22 : decode cX12_clip 22 = .ok (.ldc2_w 392, 3) := by decide +kernel
theorem dX12_clip_25 : decode cX12_clip 25 = .ok (.goto 4, 3) := by decide +kernel
theorem dX12_clip_28 : decode cX12_clip 28 = .ok (.lload_n 0, 1) := by decide +kernel
theorem dX12_clip_29 : decode cX12_clip 29 = .ok (.lreturn, 1) := by decide +kernel
theorem zy_X12_clip : zYs yX12_clip cX12_clip 2 (some .long) 1 := ⟨zw_1770, zw_12, zw_1771, by decide, by decide, by decide⟩
theorem c_X12_clip_0 {C : zC} {I : Nat → Nat → Int32} {J : Nat → Nat → Int64} {Rr : Nat → Nat → Option Nat} {D : zD} (a0 : Int64) (rr : Int64) (E : zE C RX12 cX12_clip 2 (some .long) ({ frames := 0, cells := 0, slots := 0, locals := 0 } : Room)) (hQ : C.Q = zQl C ({ frames := 0, cells := 0, slots := 0, locals := 0 } : Room) rr (I, J, Rr, D)) (h : pM_clip a0 = some rr) : zB C (0, 0) 0 [(0, .long a0)] [] (I, J, Rr, D) := by
  refine zb_lload_n E dX12_clip_0 0 rfl rfl ?_
  refine zb_ldc2 E dX12_clip_1 (v := 1000000000) zw_1449 ?_
  refine zb_lcmp E dX12_clip_4 ?_
  refine zb_if_le E dX12_clip_5 (tgt := 14) rfl (fun hc => ?_) (fun hc => ?_)
  · have h := if_t h hc
    refine zb_lload_n E dX12_clip_14 0 rfl rfl ?_
    refine zb_ldc2 E dX12_clip_15 (v := (-1000000000)) zw_1772 ?_
    refine zb_lcmp E dX12_clip_18 ?_
    refine zb_if_ge E dX12_clip_19 (tgt := 28) rfl (fun hc => ?_) (fun hc => ?_)
    · have h := if_t h hc
      refine zb_lload_n E dX12_clip_28 0 rfl rfl ?_
      obtain rfl := zinj1 h
      exact zb_lret E hQ rfl ⟨Nat.zero_le _, Nat.zero_le _⟩ dX12_clip_29
    · have h := if_f h hc
      refine zb_ldc2 E dX12_clip_22 (v := (-1000000000)) zw_1772 ?_
      refine zb_goto E dX12_clip_25 (tgt := 29) rfl ?_
      obtain rfl := zinj1 h
      exact zb_lret E hQ rfl ⟨Nat.zero_le _, Nat.zero_le _⟩ dX12_clip_29
  · have h := if_f h hc
    refine zb_ldc2 E dX12_clip_8 (v := 1000000000) zw_1449 ?_
    refine zb_goto E dX12_clip_11 (tgt := 29) rfl ?_
    obtain rfl := zinj1 h
    exact zb_lret E hQ rfl ⟨Nat.zero_le _, Nat.zero_le _⟩ dX12_clip_29
theorem c_X12_clip {l : Launch} {X : zX} {I : Nat → Nat → Int32} {J : Nat → Nat → Int64} {Rr : Nat → Nat → Option Nat} {D : zD} {a0 : Int64} {rr : Int64} (h : pM_clip a0 = some rr) : zMl l yX12_clip cX12_clip 2 (some .long) ({ frames := 0, cells := 0, slots := 0, locals := 0 } : Room) X [.long a0] (I, J, Rr, D) rr (I, J, Rr, D) := by
  refine zMl.of (by decide) (Nat.le_of_ble_eq_true rfl) (fun C E hl hX hQ => ?_)
  subst hl
  subst hX
  have eI0 : I = I := rfl
  have eJ0 : J = J := rfl
  refine zb_S (S2 := (I, J, Rr, D)) (zS_eq eI0.symm eJ0.symm) ?_
  exact c_X12_clip_0 a0 rr E hQ h
-- ChequeredClothModel.floor
theorem dX12_floor_0 : decode cX12_floor 0 = .ok (.lload_n 2, 1) := by decide +kernel
theorem dX12_floor_1 : decode cX12_floor 1 = .ok (.lconst 0, 1) := by decide +kernel
theorem dX12_floor_2 : decode cX12_floor 2 = .ok (.lcmp, 1) := by decide +kernel
theorem dX12_floor_3 : decode cX12_floor 3 = .ok (.ifCond .ne 5, 3) := by decide +kernel
theorem dX12_floor_6 : decode cX12_floor 6 = .ok (.lconst 0, 1) := by decide +kernel
theorem dX12_floor_7 : decode cX12_floor 7 = .ok (.lreturn, 1) := by decide +kernel
theorem dX12_floor_8 : decode cX12_floor 8 = .ok (.lload_n 0, 1) := by decide +kernel
theorem dX12_floor_9 : decode cX12_floor 9 = .ok (.lload_n 2, 1) := by decide +kernel
theorem dX12_floor_10 : decode cX12_floor 10 = .ok (.ldiv, 1) := by decide +kernel
theorem dX12_floor_11 : decode cX12_floor 11 = .ok (.lstore 4, 2) := by decide +kernel
theorem dX12_floor_13 : decode cX12_floor 13 = .ok (.lload_n 0, 1) := by decide +kernel
theorem dX12_floor_14 : decode cX12_floor 14 = .ok (.lload_n 2, 1) := by decide +kernel
theorem dX12_floor_15 : decode cX12_floor 15 = .ok (.lrem, 1) := by decide +kernel
theorem dX12_floor_16 : decode cX12_floor 16 = .ok (.lconst 0, 1) := by decide +kernel
theorem dX12_floor_17 : decode cX12_floor 17 = .ok (.lcmp, 1) := by decide +kernel
theorem dX12_floor_18 : decode cX12_floor 18 = .ok (.ifCond .eq 35, 3) := by decide +kernel
theorem dX12_floor_21 : decode cX12_floor 21 = .ok (.lload_n 0, 1) := by decide +kernel
theorem dX12_floor_22 : decode cX12_floor 22 = .ok (.lconst 0, 1) := by decide +kernel
theorem dX12_floor_23 : decode cX12_floor 23 = .ok (.lcmp, 1) := by decide +kernel
theorem dX12_floor_24 : decode cX12_floor 24 = .ok (.ifCond .ge 7, 3) := by decide +kernel
theorem dX12_floor_27 : decode cX12_floor 27 = .ok (.iconst 1, 1) := by decide +kernel
theorem dX12_floor_28 : decode cX12_floor 28 = .ok (.goto 4, 3) := by decide +kernel
theorem dX12_floor_31 : decode cX12_floor 31 = .ok (.iconst 0, 1) := by decide +kernel
theorem dX12_floor_32 : decode cX12_floor 32 = .ok (.lload_n 2, 1) := by decide +kernel
theorem dX12_floor_33 : decode cX12_floor 33 = .ok (.lconst 0, 1) := by decide +kernel
theorem dX12_floor_34 : decode cX12_floor 34 = .ok (.lcmp, 1) := by decide +kernel
theorem dX12_floor_35 : decode cX12_floor 35 = .ok (.ifCond .ge 7, 3) := by decide +kernel
theorem dX12_floor_38 : decode cX12_floor 38 = .ok (.iconst 1, 1) := by decide +kernel
theorem dX12_floor_39 : decode cX12_floor 39 = .ok (.goto 4, 3) := by decide +kernel
theorem dX12_floor_42 : decode cX12_floor 42 = .ok (.iconst 0, 1) := by decide +kernel
theorem dX12_floor_43 : decode cX12_floor 43 = .ok (.if_icmp .eq 10, 3) := by decide +kernel
theorem dX12_floor_46 : decode cX12_floor 46 = .ok (.lload 4, 2) := by decide +kernel
theorem dX12_floor_48 : decode cX12_floor 48 = .ok (.lconst 1, 1) := by decide +kernel
theorem dX12_floor_49 : decode cX12_floor 49 = .ok (.lsub, 1) := by decide +kernel
theorem dX12_floor_50 : decode cX12_floor 50 = .ok (.goto 5, 3) := by decide +kernel
theorem dX12_floor_53 : decode cX12_floor 53 = .ok (.lload 4, 2) := by decide +kernel
theorem dX12_floor_55 : decode cX12_floor 55 = .ok (.lreturn, 1) := by decide +kernel
theorem zy_X12_floor : zYs yX12_floor cX12_floor 6 (some .long) 2 := ⟨zw_1778, zw_12, zw_1779, by decide, by decide, by decide⟩
theorem c_X12_floor_b43 {C : zC} {I : Nat → Nat → Int32} {J : Nat → Nat → Int64} {Rr : Nat → Nat → Option Nat} {D : zD} (a0 : Int64) (a2 : Int64) (rr : Int64) (E : zE C RX12 cX12_floor 6 (some .long) ({ frames := 0, cells := 0, slots := 0, locals := 0 } : Room)) (hQ : C.Q = zQl C ({ frames := 0, cells := 0, slots := 0, locals := 0 } : Room) rr (I, J, Rr, D)) (x4 : Int64) (s0 : Int32) (s1 : Int32) (h : pM_floor_b43 a0 a2 x4 s0 s1 = some rr) : zB C (0, 0) 43 [(4, .long x4)] [.int s1, .int s0] (I, J, Rr, D) := by
  refine zb_icmp_eq E dX12_floor_43 (tgt := 53) rfl (fun hc => ?_) (fun hc => ?_)
  · have h := if_t h hc
    refine zb_lload E dX12_floor_53 0 rfl ?_
    obtain rfl := zinj1 h
    exact zb_lret E hQ rfl ⟨Nat.zero_le _, Nat.zero_le _⟩ dX12_floor_55
  · have h := if_f h hc
    refine zb_lload E dX12_floor_46 0 rfl ?_
    refine zb_lconst E dX12_floor_48 (v := 1) rfl ?_
    refine zb_lsub E dX12_floor_49 ?_
    refine zb_goto E dX12_floor_50 (tgt := 55) rfl ?_
    obtain rfl := zinj1 h
    exact zb_lret E hQ rfl ⟨Nat.zero_le _, Nat.zero_le _⟩ dX12_floor_55
theorem c_X12_floor_b32 {C : zC} {I : Nat → Nat → Int32} {J : Nat → Nat → Int64} {Rr : Nat → Nat → Option Nat} {D : zD} (a0 : Int64) (a2 : Int64) (rr : Int64) (E : zE C RX12 cX12_floor 6 (some .long) ({ frames := 0, cells := 0, slots := 0, locals := 0 } : Room)) (hQ : C.Q = zQl C ({ frames := 0, cells := 0, slots := 0, locals := 0 } : Room) rr (I, J, Rr, D)) (x4 : Int64) (s0 : Int32) (h : pM_floor_b32 a0 a2 x4 s0 = some rr) : zB C (0, 0) 32 [(2, .long a2), (4, .long x4)] [.int s0] (I, J, Rr, D) := by
  refine zb_lload_n E dX12_floor_32 0 rfl rfl ?_
  refine zb_lconst E dX12_floor_33 (v := 0) rfl ?_
  refine zb_lcmp E dX12_floor_34 ?_
  refine zb_if_ge E dX12_floor_35 (tgt := 42) rfl (fun hc => ?_) (fun hc => ?_)
  · have h := if_t h hc
    refine zb_iconst E dX12_floor_42 (v := 0) rfl ?_
    refine zb_sub [1] rfl ?_
    exact c_X12_floor_b43 a0 a2 rr E hQ x4 s0 0 h
  · have h := if_f h hc
    refine zb_iconst E dX12_floor_38 (v := 1) rfl ?_
    refine zb_goto E dX12_floor_39 (tgt := 43) rfl ?_
    refine zb_sub [1] rfl ?_
    exact c_X12_floor_b43 a0 a2 rr E hQ x4 s0 1 h
theorem c_X12_floor_0 {C : zC} {I : Nat → Nat → Int32} {J : Nat → Nat → Int64} {Rr : Nat → Nat → Option Nat} {D : zD} (a0 : Int64) (a2 : Int64) (rr : Int64) (E : zE C RX12 cX12_floor 6 (some .long) ({ frames := 0, cells := 0, slots := 0, locals := 0 } : Room)) (hQ : C.Q = zQl C ({ frames := 0, cells := 0, slots := 0, locals := 0 } : Room) rr (I, J, Rr, D)) (h : pM_floor a0 a2 = some rr) : zB C (0, 0) 0 [(0, .long a0), (2, .long a2)] [] (I, J, Rr, D) := by
  refine zb_lload_n E dX12_floor_0 1 rfl rfl ?_
  refine zb_lconst E dX12_floor_1 (v := 0) rfl ?_
  refine zb_lcmp E dX12_floor_2 ?_
  refine zb_if_ne E dX12_floor_3 (tgt := 8) rfl (fun hc => ?_) (fun hc => ?_)
  · have h := if_f h hc
    refine zb_lload_n E dX12_floor_8 0 rfl rfl ?_
    refine zb_lload_n E dX12_floor_9 1 rfl rfl ?_
    obtain ⟨g1, h⟩ := gd_s h
    refine zb_ldiv E dX12_floor_10 (nz_l g1) ?_
    refine zb_lstore E dX12_floor_11 (by decide) (lv2 := [(4, .long (a0 / a2)), (0, .long a0), (2, .long a2)]) rfl ?_
    refine zb_lload_n E dX12_floor_13 1 rfl rfl ?_
    refine zb_lload_n E dX12_floor_14 2 rfl rfl ?_
    refine zb_lrem E dX12_floor_15 (nz_l g1) ?_
    refine zb_lconst E dX12_floor_16 (v := 0) rfl ?_
    refine zb_lcmp E dX12_floor_17 ?_
    refine zb_if_eq E dX12_floor_18 (tgt := 53) rfl (fun hc => ?_) (fun hc => ?_)
    · have h := if_t h hc
      refine zb_lload E dX12_floor_53 0 rfl ?_
      obtain rfl := zinj1 h
      exact zb_lret E hQ rfl ⟨Nat.zero_le _, Nat.zero_le _⟩ dX12_floor_55
    · have h := if_f h hc
      refine zb_lload_n E dX12_floor_21 1 rfl rfl ?_
      refine zb_lconst E dX12_floor_22 (v := 0) rfl ?_
      refine zb_lcmp E dX12_floor_23 ?_
      refine zb_if_ge E dX12_floor_24 (tgt := 31) rfl (fun hc => ?_) (fun hc => ?_)
      · have h := if_t h hc
        refine zb_iconst E dX12_floor_31 (v := 0) rfl ?_
        refine zb_sub [2, 0] rfl ?_
        exact c_X12_floor_b32 a0 a2 rr E hQ (a0 / a2) 0 h
      · have h := if_f h hc
        refine zb_iconst E dX12_floor_27 (v := 1) rfl ?_
        refine zb_goto E dX12_floor_28 (tgt := 32) rfl ?_
        refine zb_sub [2, 0] rfl ?_
        exact c_X12_floor_b32 a0 a2 rr E hQ (a0 / a2) 1 h
  · have h := if_t h hc
    refine zb_lconst E dX12_floor_6 (v := 0) rfl ?_
    obtain rfl := zinj1 h
    exact zb_lret E hQ rfl ⟨Nat.zero_le _, Nat.zero_le _⟩ dX12_floor_7
theorem c_X12_floor {l : Launch} {X : zX} {I : Nat → Nat → Int32} {J : Nat → Nat → Int64} {Rr : Nat → Nat → Option Nat} {D : zD} {a0 : Int64} {a2 : Int64} {rr : Int64} (h : pM_floor a0 a2 = some rr) : zMl l yX12_floor cX12_floor 6 (some .long) ({ frames := 0, cells := 0, slots := 0, locals := 0 } : Room) X [.long a0, .long a2] (I, J, Rr, D) rr (I, J, Rr, D) := by
  refine zMl.of (by decide) (Nat.le_of_ble_eq_true rfl) (fun C E hl hX hQ => ?_)
  subst hl
  subst hX
  have eI0 : I = I := rfl
  have eJ0 : J = J := rfl
  refine zb_S (S2 := (I, J, Rr, D)) (zS_eq eI0.symm eJ0.symm) ?_
  exact c_X12_floor_0 a0 a2 rr E hQ h
-- ChequeredClothModel.puts
theorem dX12_puts_0 : decode cX12_puts 0 = .ok (.aload_n 0, 1) := by decide +kernel
theorem dX12_puts_1 : decode cX12_puts 1 = .ok (.getfield 165, 3) := by decide +kernel
theorem dX12_puts_4 : decode cX12_puts 4 = .ok (.aload_n 0, 1) := by decide +kernel
theorem dX12_puts_5 : decode cX12_puts 5 = .ok (.getfield 394, 3) := by decide +kernel
theorem dX12_puts_8 : decode cX12_puts 8 = .ok (.lload_n 1, 1) := by decide +kernel
theorem dX12_puts_9 : decode cX12_puts 9 = .ok (.lastore, 1) := by decide +kernel
theorem dX12_puts_10 : decode cX12_puts 10 = .ok (.aload_n 0, 1) := by decide +kernel
theorem dX12_puts_11 : decode cX12_puts 11 = .ok (.dup, 1) := by decide +kernel
theorem dX12_puts_12 : decode cX12_puts 12 = .ok (.getfield 394, 3) := by decide +kernel
theorem dX12_puts_15 : decode cX12_puts 15 = .ok (.iconst 1, 1) := by decide +kernel
theorem dX12_puts_16 : decode cX12_puts 16 = .ok (.iadd, 1) := by decide +kernel
theorem dX12_puts_17 : decode cX12_puts 17 = .ok (.putfield 394, 3) := by decide +kernel
theorem dX12_puts_20 : decode cX12_puts 20 = .ok (.return_, 1) := by decide +kernel
theorem zy_X12_puts : zYv yX12_puts cX12_puts 3 none 1 := ⟨zw_1767, zws_93, zw_12, zw_1768, by decide, by decide, by decide⟩
theorem c_X12_puts_0 {C : zC} {I : Nat → Nat → Int32} {J : Nat → Nat → Int64} {Rr : Nat → Nat → Option Nat} {D : zD} (a1 : Int64) (y_v_piled : Int32) (y_v_pile : (Nat → Int64)) (E : zE C RX12 cX12_puts 3 none ({ frames := 0, cells := 0, slots := 0, locals := 0 } : Room)) (hQ : C.Q = zQv C ({ frames := 0, cells := 0, slots := 0, locals := 0 } : Room) ((va_up I 128 (va_up (I 128) 62 y_v_piled)), (va_up J 175 y_v_pile), Rr, D)) (v_piled : Int32) (v_pile : (Nat → Int64)) (h : pM_puts a1 v_piled v_pile = some (y_v_piled, y_v_pile)) : zB C (0, 0) 0 [(0, .ref (C.X.1 + 128)), (1, .long a1)] [] ((va_up I 128 (va_up (I 128) 62 v_piled)), (va_up J 175 v_pile), Rr, D) := by
  refine zb_aload_n E dX12_puts_0 0 rfl rfl ?_
  refine zb_get E 128 (by decide) (zF_128 C.X) rfl zin12 61 (by decide) zw_1229 (v := .ref (C.X.1 + 175)) rfl dX12_puts_1 ?_
  refine zb_aload_n E dX12_puts_4 0 rfl rfl ?_
  refine zb_get E 128 (by decide) (zF_128 C.X) rfl zin12 62 (by decide) zw_1230 (v := .int v_piled) rfl dX12_puts_5 ?_
  refine zb_lload_n E dX12_puts_8 1 rfl rfl ?_
  obtain ⟨g1, h⟩ := gd_s h
  refine zb_last E 175 (by decide) zF_175 (f := v_pile) rfl (ib_in g1) dX12_puts_9 (J2 := (va_up J 175 (vp_updL v_pile (ix v_piled) a1))) zn1 ?_
  refine zb_aload_n E dX12_puts_10 0 rfl rfl ?_
  refine zb_dup E dX12_puts_11 rfl ?_
  refine zb_get E 128 (by decide) (zF_128 C.X) rfl zin12 62 (by decide) zw_1230 (v := .int v_piled) rfl dX12_puts_12 ?_
  refine zb_iconst E dX12_puts_15 (v := 1) rfl ?_
  refine zb_iadd E dX12_puts_16 ?_
  refine zb_put E 128 (by decide) (zF_128 C.X) rfl zin12 62 (by decide) zw_1230 tyX12 tyX12_ok nmX12 rfl rfl rfl (I2 := (va_up I 128 (va_up (I 128) 62 (v_piled + 1)))) (J2 := (va_up J 175 (vp_updL v_pile (ix v_piled) a1))) ((zset12_62 C.X (va_up (I 128) 62 v_piled) (J 128) (v_piled + 1)).trans (congrArg (fun g => zf12 C.X g (J 128)) zn1)) (by rw [zflen12]; decide) (fun j hj => ⟨(zup_n hj).trans (zup_n hj).symm, rfl⟩) dX12_puts_17 ?_
  obtain ⟨rfl, rfl⟩ := zinj2 h
  exact zb_vret E hQ rfl ⟨Nat.zero_le _, Nat.zero_le _⟩ dX12_puts_20
theorem c_X12_puts {l : Launch} {X : zX} {I : Nat → Nat → Int32} {J : Nat → Nat → Int64} {Rr : Nat → Nat → Option Nat} {D : zD} {a1 : Int64} (oI128 : Nat → Int32) (eoI128 : I 128 = oI128) (v_piled : Int32) (e_v_piled : I 128 62 = v_piled) (v_pile : (Nat → Int64)) (e_v_pile : J 175 = v_pile) {y_v_piled : Int32} {y_v_pile : (Nat → Int64)} (h : pM_puts a1 v_piled v_pile = some (y_v_piled, y_v_pile)) : zMv l yX12_puts cX12_puts 3 none ({ frames := 0, cells := 0, slots := 0, locals := 0 } : Room) X [.ref (X.1 + 128), .long a1] (I, J, Rr, D) ((va_up I 128 (va_up oI128 62 y_v_piled)), (va_up J 175 y_v_pile), Rr, D) := by
  subst eoI128
  refine zMv.of (by decide) (Nat.le_of_ble_eq_true rfl) (fun C E hl hX hQ => ?_)
  subst hl
  subst hX
  have eI0 : (va_up I 128 (va_up (I 128) 62 v_piled)) = I := by rw [zup_idE e_v_piled, zup_id]
  have eJ0 : (va_up J 175 v_pile) = J := by rw [zup_idE e_v_pile]
  refine zb_S (S2 := ((va_up I 128 (va_up (I 128) 62 v_piled)), (va_up J 175 v_pile), Rr, D)) (zS_eq eI0.symm eJ0.symm) ?_
  exact c_X12_puts_0 a1 y_v_piled y_v_pile E hQ v_piled v_pile h
-- ChequeredClothModel.joins
theorem dX12_joins_0 : decode cX12_joins 0 = .ok (.aload_n 0, 1) := by decide +kernel
theorem dX12_joins_1 : decode cX12_joins 1 = .ok (.getfield 165, 3) := by decide +kernel
theorem dX12_joins_4 : decode cX12_joins 4 = .ok (.aload_n 0, 1) := by decide +kernel
theorem dX12_joins_5 : decode cX12_joins 5 = .ok (.getfield 394, 3) := by decide +kernel
theorem dX12_joins_8 : decode cX12_joins 8 = .ok (.iconst 1, 1) := by decide +kernel
theorem dX12_joins_9 : decode cX12_joins 9 = .ok (.isub, 1) := by decide +kernel
theorem dX12_joins_10 : decode cX12_joins 10 = .ok (.laload, 1) := by decide +kernel
theorem dX12_joins_11 : decode cX12_joins 11 = .ok (.lstore_n 2, 1) := by decide +kernel
theorem dX12_joins_12 : decode cX12_joins 12 = .ok (.aload_n 0, 1) := by decide +kernel
theorem dX12_joins_13 : decode cX12_joins 13 = .ok (.getfield 165, 3) := by decide +kernel
theorem dX12_joins_16 : decode cX12_joins 16 = .ok (.aload_n 0, 1) := by decide +kernel
theorem dX12_joins_17 : decode cX12_joins 17 = .ok (.getfield 394, 3) := by decide +kernel
theorem dX12_joins_20 : decode cX12_joins 20 = .ok (.iconst 2, 1) := by decide +kernel
theorem dX12_joins_21 : decode cX12_joins 21 = .ok (.isub, 1) := by decide +kernel
theorem dX12_joins_22 : decode cX12_joins 22 = .ok (.laload, 1) := by decide +kernel
theorem dX12_joins_23 : decode cX12_joins 23 = .ok (.lstore 4, 2) := by decide +kernel
theorem dX12_joins_25 : decode cX12_joins 25 = .ok (.aload_n 0, 1) := by decide +kernel
theorem dX12_joins_26 : decode cX12_joins 26 = .ok (.dup, 1) := by decide +kernel
theorem dX12_joins_27 : decode cX12_joins 27 = .ok (.getfield 394, 3) := by decide +kernel
theorem dX12_joins_30 : decode cX12_joins 30 = .ok (.iconst 2, 1) := by decide +kernel
theorem dX12_joins_31 : decode cX12_joins 31 = .ok (.isub, 1) := by decide +kernel
theorem dX12_joins_32 : decode cX12_joins 32 = .ok (.putfield 394, 3) := by decide +kernel
theorem dX12_joins_35 : decode cX12_joins 35 = .ok (.iload_n 1, 1) := by decide +kernel
theorem dX12_joins_36 : decode cX12_joins 36 = .ok (.tableswitch 235 1 14 #[72, 86, 100, 114, 127, 147, 235, 235, 235, 235, 167, 186, 205, 224], 72) := by decide +kernel
theorem dX12_joins_108 : decode cX12_joins 108 = .ok (.aload_n 0, 1) := by decide +kernel
theorem dX12_joins_109 : decode cX12_joins 109 = .ok (.lload 4, 2) := by decide +kernel
theorem dX12_joins_111 : decode cX12_joins 111 = .ok (.lload_n 2, 1) := by decide +kernel
theorem dX12_joins_112 : decode cX12_joins 112 = .ok (.ladd, 1) := by decide +kernel
theorem dX12_joins_113 : decode cX12_joins 113 = .ok (.invokestatic 397, 3) := by decide +kernel
theorem dX12_joins_116 : decode cX12_joins 116 = .ok (.invokevirtual 401, 3) := by decide +kernel
theorem dX12_joins_119 : decode cX12_joins 119 = .ok (.goto 170, 3) := by decide +kernel
theorem dX12_joins_122 : decode cX12_joins 122 = .ok (.aload_n 0, 1) := by decide +kernel
theorem dX12_joins_123 : decode cX12_joins 123 = .ok (.lload 4, 2) := by decide +kernel
theorem dX12_joins_125 : decode cX12_joins 125 = .ok (.lload_n 2, 1) := by decide +kernel
theorem dX12_joins_126 : decode cX12_joins 126 = .ok (.lsub, 1) := by decide +kernel
theorem dX12_joins_127 : decode cX12_joins 127 = .ok (.invokestatic 397, 3) := by decide +kernel
theorem dX12_joins_130 : decode cX12_joins 130 = .ok (.invokevirtual 401, 3) := by decide +kernel
theorem dX12_joins_133 : decode cX12_joins 133 = .ok (.goto 156, 3) := by decide +kernel
theorem dX12_joins_136 : decode cX12_joins 136 = .ok (.aload_n 0, 1) := by decide +kernel
theorem dX12_joins_137 : decode cX12_joins 137 = .ok (.lload 4, 2) := by decide +kernel
theorem dX12_joins_139 : decode cX12_joins 139 = .ok (.lload_n 2, 1) := by decide +kernel
theorem dX12_joins_140 : decode cX12_joins 140 = .ok (.lmul, 1) := by decide +kernel
theorem dX12_joins_141 : decode cX12_joins 141 = .ok (.invokestatic 397, 3) := by decide +kernel
theorem dX12_joins_144 : decode cX12_joins 144 = .ok (.invokevirtual 401, 3) := by decide +kernel
theorem dX12_joins_147 : decode cX12_joins 147 = .ok (.goto 142, 3) := by decide +kernel
theorem dX12_joins_150 : decode cX12_joins 150 = .ok (.aload_n 0, 1) := by decide +kernel
theorem dX12_joins_151 : decode cX12_joins 151 = .ok (.lload 4, 2) := by decide +kernel
theorem dX12_joins_153 : decode cX12_joins 153 = .ok (.lload_n 2, 1) := by decide +kernel
theorem dX12_joins_154 : decode cX12_joins 154 = .ok (.invokestatic 405, 3) := by decide +kernel
theorem dX12_joins_157 : decode cX12_joins 157 = .ok (.invokevirtual 401, 3) := by decide +kernel
theorem dX12_joins_160 : decode cX12_joins 160 = .ok (.goto 129, 3) := by decide +kernel
theorem dX12_joins_163 : decode cX12_joins 163 = .ok (.aload_n 0, 1) := by decide +kernel
theorem dX12_joins_164 : decode cX12_joins 164 = .ok (.lload 4, 2) := by decide +kernel
theorem dX12_joins_166 : decode cX12_joins 166 = .ok (.lload_n 2, 1) := by decide +kernel
theorem dX12_joins_167 : decode cX12_joins 167 = .ok (.lcmp, 1) := by decide +kernel
theorem dX12_joins_168 : decode cX12_joins 168 = .ok (.ifCond .ge 8, 3) := by decide +kernel
theorem dX12_joins_171 : decode cX12_joins 171 = .ok (.lload 4, 2) := by decide +kernel
theorem dX12_joins_173 : decode cX12_joins 173 = .ok (.goto 4, 3) := by decide +kernel
theorem dX12_joins_176 : decode cX12_joins 176 = .ok (.lload_n 2, 1) := by decide +kernel
theorem dX12_joins_177 : decode cX12_joins 177 = .ok (.invokevirtual 401, 3) := by decide +kernel
theorem dX12_joins_180 : decode cX12_joins 180 = .ok (.goto 109, 3) := by decide +kernel
theorem dX12_joins_183 : decode cX12_joins 183 = .ok (.aload_n 0, 1) := by decide +kernel
theorem dX12_joins_184 : decode cX12_joins 184 = .ok (.lload 4, 2) := by decide +kernel
theorem dX12_joins_186 : decode cX12_joins 186 = .ok (.lload_n 2, 1) := by decide +kernel
theorem dX12_joins_187 : decode cX12_joins 187 = .ok (.lcmp, 1) := by decide +kernel
theorem dX12_joins_188 : decode cX12_joins 188 = .ok (.ifCond .le 8, 3) := by decide +kernel
theorem dX12_joins_191 : decode cX12_joins 191 = .ok (.lload 4, 2) := by decide +kernel
theorem dX12_joins_193 : decode cX12_joins 193 = .ok (.goto 4, 3) := by decide +kernel
theorem dX12_joins_196 : decode cX12_joins 196 = .ok (.lload_n 2, 1) := by decide +kernel
theorem dX12_joins_197 : decode cX12_joins 197 = .ok (.invokevirtual 401, 3) := by decide +kernel
theorem dX12_joins_200 : decode cX12_joins 200 = .ok (.goto 89, 3) := by decide +kernel
theorem dX12_joins_203 : decode cX12_joins 203 = .ok (.aload_n 0, 1) := by decide +kernel
theorem dX12_joins_204 : decode cX12_joins 204 = .ok (.lload 4, 2) := by decide +kernel
theorem dX12_joins_206 : decode cX12_joins 206 = .ok (.lload_n 2, 1) := by decide +kernel
theorem dX12_joins_207 : decode cX12_joins 207 = .ok (.lcmp, 1) := by decide +kernel
theorem dX12_joins_208 : decode cX12_joins 208 = .ok (.ifCond .ge 7, 3) := by decide +kernel
theorem dX12_joins_211 : decode cX12_joins 211 = .ok (.lconst 1, 1) := by decide +kernel
theorem dX12_joins_212 : decode cX12_joins 212 = .ok (.goto 4, 3) := by decide +kernel
theorem dX12_joins_215 : decode cX12_joins 215 = .ok (.lconst 0, 1) := by decide +kernel
theorem dX12_joins_216 : decode cX12_joins 216 = .ok (.invokevirtual 401, 3) := by decide +kernel
theorem dX12_joins_219 : decode cX12_joins 219 = .ok (.goto 70, 3) := by decide +kernel
theorem dX12_joins_222 : decode cX12_joins 222 = .ok (.aload_n 0, 1) := by decide +kernel
theorem dX12_joins_223 : decode cX12_joins 223 = .ok (.lload 4, 2) := by decide +kernel
theorem dX12_joins_225 : decode cX12_joins 225 = .ok (.lload_n 2, 1) := by decide +kernel
theorem dX12_joins_226 : decode cX12_joins 226 = .ok (.lcmp, 1) := by decide +kernel
theorem dX12_joins_227 : decode cX12_joins 227 = .ok (.ifCond .le 7, 3) := by decide +kernel
theorem dX12_joins_230 : decode cX12_joins 230 = .ok (.lconst 1, 1) := by decide +kernel
theorem dX12_joins_231 : decode cX12_joins 231 = .ok (.goto 4, 3) := by decide +kernel
theorem dX12_joins_234 : decode cX12_joins 234 = .ok (.lconst 0, 1) := by decide +kernel
theorem dX12_joins_235 : decode cX12_joins 235 = .ok (.invokevirtual 401, 3) := by decide +kernel
theorem dX12_joins_238 : decode cX12_joins 238 = .ok (.goto 51, 3) := by decide +kernel
theorem dX12_joins_241 : decode cX12_joins 241 = .ok (.aload_n 0, 1) := by decide +kernel
theorem dX12_joins_242 : decode cX12_joins 242 = .ok (.lload 4, 2) := by decide +kernel
theorem dX12_joins_244 : decode cX12_joins 244 = .ok (.lload_n 2, 1) := by decide +kernel
theorem dX12_joins_245 : decode cX12_joins 245 = .ok (.lcmp, 1) := by decide +kernel
theorem dX12_joins_246 : decode cX12_joins 246 = .ok (.ifCond .ne 7, 3) := by decide +kernel
theorem dX12_joins_249 : decode cX12_joins 249 = .ok (.lconst 1, 1) := by decide +kernel
theorem dX12_joins_250 : decode cX12_joins 250 = .ok (.goto 4, 3) := by decide +kernel
theorem dX12_joins_253 : decode cX12_joins 253 = .ok (.lconst 0, 1) := by decide +kernel
theorem dX12_joins_254 : decode cX12_joins 254 = .ok (.invokevirtual 401, 3) := by decide +kernel
theorem dX12_joins_257 : decode cX12_joins 257 = .ok (.goto 32, 3) := by decide +kernel
theorem dX12_joins_260 : decode cX12_joins 260 = .ok (.aload_n 0, 1) := by decide +kernel
theorem dX12_joins_261 : decode cX12_joins 261 = .ok (.lload 4, 2) := by decide +kernel
theorem dX12_joins_263 : decode cX12_joins 263 = .ok (.lload_n 2, 1) := by decide +kernel
theorem dX12_joins_264 : decode cX12_joins 264 = .ok (.lmul, 1) := by decide +kernel
theorem dX12_joins_265 : decode cX12_joins 265 = .ok (.invokevirtual 401, 3) := by decide +kernel
theorem dX12_joins_268 : decode cX12_joins 268 = .ok (.goto 21, 3) := by decide +kernel
theorem dX12_joins_271 : decode cX12_joins 271 = .ok (.aload_n 0, 1) := by decide +kernel
theorem dX12_joins_272 : decode cX12_joins 272 = .ok (.lload 4, 2) := by decide +kernel
theorem dX12_joins_274 : decode cX12_joins 274 = .ok (.lload_n 2, 1) := by decide +kernel
theorem dX12_joins_275 : decode cX12_joins 275 = .ok (.ladd, 1) := by decide +kernel
theorem dX12_joins_276 : decode cX12_joins 276 = .ok (.lconst 0, 1) := by decide +kernel
theorem dX12_joins_277 : decode cX12_joins 277 = .ok (.lcmp, 1) := by decide +kernel
theorem dX12_joins_278 : decode cX12_joins 278 = .ok (.ifCond .le 7, 3) := by decide +kernel
theorem dX12_joins_281 : decode cX12_joins 281 = .ok (.lconst 1, 1) := by decide +kernel
theorem dX12_joins_282 : decode cX12_joins 282 = .ok (.goto 4, 3) := by decide +kernel
theorem dX12_joins_285 : decode cX12_joins 285 = .ok (.lconst 0, 1) := by decide +kernel
theorem dX12_joins_286 : decode cX12_joins 286 = .ok (.invokevirtual 401, 3) := by decide +kernel
theorem dX12_joins_289 : decode cX12_joins 289 = .ok (.return_, 1) := by decide +kernel
theorem zy_X12_joins : zYv yX12_joins cX12_joins 6 none 1 := ⟨zw_1775, zws_94, zw_12, zw_1776, by decide, by decide, by decide⟩
theorem c_X12_joins_b177 {C : zC} {I : Nat → Nat → Int32} {J : Nat → Nat → Int64} {Rr : Nat → Nat → Option Nat} {D : zD} (a1 : Int32) (y_v_piled : Int32) (y_v_pile : (Nat → Int64)) (E : zE C RX12 cX12_joins 6 none ({ frames := 1, cells := 0, slots := 0, locals := 25 } : Room)) (hQ : C.Q = zQv C ({ frames := 1, cells := 0, slots := 0, locals := 25 } : Room) ((va_up I 128 (va_up (I 128) 62 y_v_piled)), (va_up J 175 y_v_pile), Rr, D)) (s1 : Int64) (v_piled : Int32) (v_pile : (Nat → Int64)) (h : pM_joins_b177 a1 s1 v_piled v_pile = some (y_v_piled, y_v_pile)) : zB C (0, 0) 177 [] [.long s1, .ref (C.X.1 + 128)] ((va_up I 128 (va_up (I 128) 62 v_piled)), (va_up J 175 v_pile), Rr, D) := by
  obtain ⟨v_piled_c12, v_pile_c12, hc_177, h⟩ := bd2_s h
  refine zb_cVv E [.long s1] 128 zy_X12_puts zw_1765 (by decide) (zF_128 _ _ _ _) rfl (c_X12_puts (va_up (I 128) 62 v_piled) rfl v_piled rfl v_pile rfl hc_177) (by decide) rfl rfl (by first | decide | simp [Value.category]) dX12_joins_177 (cs2 := (0, 0)) rfl ?_
  refine zb_S (S2 := ((va_up I 128 (va_up (I 128) 62 v_piled_c12)), (va_up J 175 v_pile_c12), Rr, D)) (zS_eq ((zcgV zn1).trans zn1) zn1) ?_
  refine zb_goto E dX12_joins_180 (tgt := 289) rfl ?_
  obtain ⟨rfl, rfl⟩ := zinj2 h
  exact zb_vret E hQ rfl ⟨Nat.zero_le _, Nat.zero_le _⟩ dX12_joins_289
theorem c_X12_joins_b197 {C : zC} {I : Nat → Nat → Int32} {J : Nat → Nat → Int64} {Rr : Nat → Nat → Option Nat} {D : zD} (a1 : Int32) (y_v_piled : Int32) (y_v_pile : (Nat → Int64)) (E : zE C RX12 cX12_joins 6 none ({ frames := 1, cells := 0, slots := 0, locals := 25 } : Room)) (hQ : C.Q = zQv C ({ frames := 1, cells := 0, slots := 0, locals := 25 } : Room) ((va_up I 128 (va_up (I 128) 62 y_v_piled)), (va_up J 175 y_v_pile), Rr, D)) (s1 : Int64) (v_piled : Int32) (v_pile : (Nat → Int64)) (h : pM_joins_b197 a1 s1 v_piled v_pile = some (y_v_piled, y_v_pile)) : zB C (0, 0) 197 [] [.long s1, .ref (C.X.1 + 128)] ((va_up I 128 (va_up (I 128) 62 v_piled)), (va_up J 175 v_pile), Rr, D) := by
  obtain ⟨v_piled_c13, v_pile_c13, hc_197, h⟩ := bd2_s h
  refine zb_cVv E [.long s1] 128 zy_X12_puts zw_1765 (by decide) (zF_128 _ _ _ _) rfl (c_X12_puts (va_up (I 128) 62 v_piled) rfl v_piled rfl v_pile rfl hc_197) (by decide) rfl rfl (by first | decide | simp [Value.category]) dX12_joins_197 (cs2 := (0, 0)) rfl ?_
  refine zb_S (S2 := ((va_up I 128 (va_up (I 128) 62 v_piled_c13)), (va_up J 175 v_pile_c13), Rr, D)) (zS_eq ((zcgV zn1).trans zn1) zn1) ?_
  refine zb_goto E dX12_joins_200 (tgt := 289) rfl ?_
  obtain ⟨rfl, rfl⟩ := zinj2 h
  exact zb_vret E hQ rfl ⟨Nat.zero_le _, Nat.zero_le _⟩ dX12_joins_289
theorem c_X12_joins_b216 {C : zC} {I : Nat → Nat → Int32} {J : Nat → Nat → Int64} {Rr : Nat → Nat → Option Nat} {D : zD} (a1 : Int32) (y_v_piled : Int32) (y_v_pile : (Nat → Int64)) (E : zE C RX12 cX12_joins 6 none ({ frames := 1, cells := 0, slots := 0, locals := 25 } : Room)) (hQ : C.Q = zQv C ({ frames := 1, cells := 0, slots := 0, locals := 25 } : Room) ((va_up I 128 (va_up (I 128) 62 y_v_piled)), (va_up J 175 y_v_pile), Rr, D)) (s1 : Int64) (v_piled : Int32) (v_pile : (Nat → Int64)) (h : pM_joins_b216 a1 s1 v_piled v_pile = some (y_v_piled, y_v_pile)) : zB C (0, 0) 216 [] [.long s1, .ref (C.X.1 + 128)] ((va_up I 128 (va_up (I 128) 62 v_piled)), (va_up J 175 v_pile), Rr, D) := by
  obtain ⟨v_piled_c14, v_pile_c14, hc_216, h⟩ := bd2_s h
  refine zb_cVv E [.long s1] 128 zy_X12_puts zw_1765 (by decide) (zF_128 _ _ _ _) rfl (c_X12_puts (va_up (I 128) 62 v_piled) rfl v_piled rfl v_pile rfl hc_216) (by decide) rfl rfl (by first | decide | simp [Value.category]) dX12_joins_216 (cs2 := (0, 0)) rfl ?_
  refine zb_S (S2 := ((va_up I 128 (va_up (I 128) 62 v_piled_c14)), (va_up J 175 v_pile_c14), Rr, D)) (zS_eq ((zcgV zn1).trans zn1) zn1) ?_
  refine zb_goto E dX12_joins_219 (tgt := 289) rfl ?_
  obtain ⟨rfl, rfl⟩ := zinj2 h
  exact zb_vret E hQ rfl ⟨Nat.zero_le _, Nat.zero_le _⟩ dX12_joins_289
theorem c_X12_joins_b235 {C : zC} {I : Nat → Nat → Int32} {J : Nat → Nat → Int64} {Rr : Nat → Nat → Option Nat} {D : zD} (a1 : Int32) (y_v_piled : Int32) (y_v_pile : (Nat → Int64)) (E : zE C RX12 cX12_joins 6 none ({ frames := 1, cells := 0, slots := 0, locals := 25 } : Room)) (hQ : C.Q = zQv C ({ frames := 1, cells := 0, slots := 0, locals := 25 } : Room) ((va_up I 128 (va_up (I 128) 62 y_v_piled)), (va_up J 175 y_v_pile), Rr, D)) (s1 : Int64) (v_piled : Int32) (v_pile : (Nat → Int64)) (h : pM_joins_b235 a1 s1 v_piled v_pile = some (y_v_piled, y_v_pile)) : zB C (0, 0) 235 [] [.long s1, .ref (C.X.1 + 128)] ((va_up I 128 (va_up (I 128) 62 v_piled)), (va_up J 175 v_pile), Rr, D) := by
  obtain ⟨v_piled_c15, v_pile_c15, hc_235, h⟩ := bd2_s h
  refine zb_cVv E [.long s1] 128 zy_X12_puts zw_1765 (by decide) (zF_128 _ _ _ _) rfl (c_X12_puts (va_up (I 128) 62 v_piled) rfl v_piled rfl v_pile rfl hc_235) (by decide) rfl rfl (by first | decide | simp [Value.category]) dX12_joins_235 (cs2 := (0, 0)) rfl ?_
  refine zb_S (S2 := ((va_up I 128 (va_up (I 128) 62 v_piled_c15)), (va_up J 175 v_pile_c15), Rr, D)) (zS_eq ((zcgV zn1).trans zn1) zn1) ?_
  refine zb_goto E dX12_joins_238 (tgt := 289) rfl ?_
  obtain ⟨rfl, rfl⟩ := zinj2 h
  exact zb_vret E hQ rfl ⟨Nat.zero_le _, Nat.zero_le _⟩ dX12_joins_289
theorem c_X12_joins_b254 {C : zC} {I : Nat → Nat → Int32} {J : Nat → Nat → Int64} {Rr : Nat → Nat → Option Nat} {D : zD} (a1 : Int32) (y_v_piled : Int32) (y_v_pile : (Nat → Int64)) (E : zE C RX12 cX12_joins 6 none ({ frames := 1, cells := 0, slots := 0, locals := 25 } : Room)) (hQ : C.Q = zQv C ({ frames := 1, cells := 0, slots := 0, locals := 25 } : Room) ((va_up I 128 (va_up (I 128) 62 y_v_piled)), (va_up J 175 y_v_pile), Rr, D)) (s1 : Int64) (v_piled : Int32) (v_pile : (Nat → Int64)) (h : pM_joins_b254 a1 s1 v_piled v_pile = some (y_v_piled, y_v_pile)) : zB C (0, 0) 254 [] [.long s1, .ref (C.X.1 + 128)] ((va_up I 128 (va_up (I 128) 62 v_piled)), (va_up J 175 v_pile), Rr, D) := by
  obtain ⟨v_piled_c16, v_pile_c16, hc_254, h⟩ := bd2_s h
  refine zb_cVv E [.long s1] 128 zy_X12_puts zw_1765 (by decide) (zF_128 _ _ _ _) rfl (c_X12_puts (va_up (I 128) 62 v_piled) rfl v_piled rfl v_pile rfl hc_254) (by decide) rfl rfl (by first | decide | simp [Value.category]) dX12_joins_254 (cs2 := (0, 0)) rfl ?_
  refine zb_S (S2 := ((va_up I 128 (va_up (I 128) 62 v_piled_c16)), (va_up J 175 v_pile_c16), Rr, D)) (zS_eq ((zcgV zn1).trans zn1) zn1) ?_
  refine zb_goto E dX12_joins_257 (tgt := 289) rfl ?_
  obtain ⟨rfl, rfl⟩ := zinj2 h
  exact zb_vret E hQ rfl ⟨Nat.zero_le _, Nat.zero_le _⟩ dX12_joins_289
theorem c_X12_joins_b286 {C : zC} {I : Nat → Nat → Int32} {J : Nat → Nat → Int64} {Rr : Nat → Nat → Option Nat} {D : zD} (a1 : Int32) (y_v_piled : Int32) (y_v_pile : (Nat → Int64)) (E : zE C RX12 cX12_joins 6 none ({ frames := 1, cells := 0, slots := 0, locals := 25 } : Room)) (hQ : C.Q = zQv C ({ frames := 1, cells := 0, slots := 0, locals := 25 } : Room) ((va_up I 128 (va_up (I 128) 62 y_v_piled)), (va_up J 175 y_v_pile), Rr, D)) (s1 : Int64) (v_piled : Int32) (v_pile : (Nat → Int64)) (h : pM_joins_b286 a1 s1 v_piled v_pile = some (y_v_piled, y_v_pile)) : zB C (0, 0) 286 [] [.long s1, .ref (C.X.1 + 128)] ((va_up I 128 (va_up (I 128) 62 v_piled)), (va_up J 175 v_pile), Rr, D) := by
  obtain ⟨v_piled_c17, v_pile_c17, hc_286, h⟩ := bd2_s h
  refine zb_cVv E [.long s1] 128 zy_X12_puts zw_1765 (by decide) (zF_128 _ _ _ _) rfl (c_X12_puts (va_up (I 128) 62 v_piled) rfl v_piled rfl v_pile rfl hc_286) (by decide) rfl rfl (by first | decide | simp [Value.category]) dX12_joins_286 (cs2 := (0, 0)) rfl ?_
  refine zb_S (S2 := ((va_up I 128 (va_up (I 128) 62 v_piled_c17)), (va_up J 175 v_pile_c17), Rr, D)) (zS_eq ((zcgV zn1).trans zn1) zn1) ?_
  obtain ⟨rfl, rfl⟩ := zinj2 h
  exact zb_vret E hQ rfl ⟨Nat.zero_le _, Nat.zero_le _⟩ dX12_joins_289
theorem c_X12_joins_0 {C : zC} {I : Nat → Nat → Int32} {J : Nat → Nat → Int64} {Rr : Nat → Nat → Option Nat} {D : zD} (a1 : Int32) (y_v_piled : Int32) (y_v_pile : (Nat → Int64)) (E : zE C RX12 cX12_joins 6 none ({ frames := 1, cells := 0, slots := 0, locals := 25 } : Room)) (hQ : C.Q = zQv C ({ frames := 1, cells := 0, slots := 0, locals := 25 } : Room) ((va_up I 128 (va_up (I 128) 62 y_v_piled)), (va_up J 175 y_v_pile), Rr, D)) (v_piled : Int32) (v_pile : (Nat → Int64)) (h : pM_joins a1 v_piled v_pile = some (y_v_piled, y_v_pile)) : zB C (0, 0) 0 [(0, .ref (C.X.1 + 128)), (1, .int a1)] [] ((va_up I 128 (va_up (I 128) 62 v_piled)), (va_up J 175 v_pile), Rr, D) := by
  refine zb_aload_n E dX12_joins_0 0 rfl rfl ?_
  refine zb_get E 128 (by decide) (zF_128 C.X) rfl zin12 61 (by decide) zw_1229 (v := .ref (C.X.1 + 175)) rfl dX12_joins_1 ?_
  refine zb_aload_n E dX12_joins_4 0 rfl rfl ?_
  refine zb_get E 128 (by decide) (zF_128 C.X) rfl zin12 62 (by decide) zw_1230 (v := .int v_piled) rfl dX12_joins_5 ?_
  refine zb_iconst E dX12_joins_8 (v := 1) rfl ?_
  refine zb_isub E dX12_joins_9 ?_
  obtain ⟨g1, h⟩ := gd_s h
  refine zb_lald E 175 (by decide) zF_175 (f := v_pile) rfl (ib_in g1) dX12_joins_10 ?_
  refine zb_lstore_n E dX12_joins_11 rfl (by decide) (lv2 := [(2, .long (v_pile (ix (v_piled - 1)))), (0, .ref (C.X.1 + 128)), (1, .int a1)]) rfl ?_
  refine zb_aload_n E dX12_joins_12 1 rfl rfl ?_
  refine zb_get E 128 (by decide) (zF_128 C.X) rfl zin12 61 (by decide) zw_1229 (v := .ref (C.X.1 + 175)) rfl dX12_joins_13 ?_
  refine zb_aload_n E dX12_joins_16 1 rfl rfl ?_
  refine zb_get E 128 (by decide) (zF_128 C.X) rfl zin12 62 (by decide) zw_1230 (v := .int v_piled) rfl dX12_joins_17 ?_
  refine zb_iconst E dX12_joins_20 (v := 2) rfl ?_
  refine zb_isub E dX12_joins_21 ?_
  obtain ⟨g2, h⟩ := gd_s h
  refine zb_lald E 175 (by decide) zF_175 (f := v_pile) rfl (ib_in g2) dX12_joins_22 ?_
  refine zb_lstore E dX12_joins_23 (by decide) (lv2 := [(4, .long (v_pile (ix (v_piled - 2)))), (2, .long (v_pile (ix (v_piled - 1)))), (0, .ref (C.X.1 + 128)), (1, .int a1)]) rfl ?_
  refine zb_aload_n E dX12_joins_25 2 rfl rfl ?_
  refine zb_dup E dX12_joins_26 rfl ?_
  refine zb_get E 128 (by decide) (zF_128 C.X) rfl zin12 62 (by decide) zw_1230 (v := .int v_piled) rfl dX12_joins_27 ?_
  refine zb_iconst E dX12_joins_30 (v := 2) rfl ?_
  refine zb_isub E dX12_joins_31 ?_
  refine zb_put E 128 (by decide) (zF_128 C.X) rfl zin12 62 (by decide) zw_1230 tyX12 tyX12_ok nmX12 rfl rfl rfl (I2 := (va_up I 128 (va_up (I 128) 62 (v_piled - 2)))) (J2 := (va_up J 175 v_pile)) ((zset12_62 C.X (va_up (I 128) 62 v_piled) (J 128) (v_piled - 2)).trans (congrArg (fun g => zf12 C.X g (J 128)) zn1)) (by rw [zflen12]; decide) (fun j hj => ⟨(zup_n hj).trans (zup_n hj).symm, rfl⟩) dX12_joins_32 ?_
  refine zb_iload_n E dX12_joins_35 3 rfl rfl ?_
  by_cases hc0 : a1 = 1
  · have h := if_t h hc0
    refine zb_tableIn E dX12_joins_36 (tgt := 108) (by rw [hc0]; decide) (by rw [hc0]; decide) (by rw [hc0]; rfl) rfl ?_
    refine zb_aload_n E dX12_joins_108 2 rfl rfl ?_
    refine zb_lload E dX12_joins_109 0 rfl ?_
    refine zb_lload_n E dX12_joins_111 1 rfl rfl ?_
    refine zb_ladd E dX12_joins_112 ?_
    obtain ⟨rc3, hc_113, h⟩ := bd1_s h
    refine zb_cSl E [.long ((v_pile (ix (v_piled - 2))) + (v_pile (ix (v_piled - 1))))] zy_X12_clip zw_1769 (c_X12_clip hc_113) (by decide) rfl rfl (by first | decide | simp [Value.category]) dX12_joins_113 (cs2 := (0, 0)) rfl ?_
    obtain ⟨v_piled_c4, v_pile_c4, hc_116, h⟩ := bd2_s h
    refine zb_cVv E [.long rc3] 128 zy_X12_puts zw_1765 (by decide) (zF_128 _ _ _ _) rfl (c_X12_puts (va_up (I 128) 62 (v_piled - 2)) rfl (v_piled - 2) rfl v_pile rfl hc_116) (by decide) rfl rfl (by first | decide | simp [Value.category]) dX12_joins_116 (cs2 := (0, 0)) rfl ?_
    refine zb_S (S2 := ((va_up I 128 (va_up (I 128) 62 v_piled_c4)), (va_up J 175 v_pile_c4), Rr, D)) (zS_eq ((zcgV zn1).trans zn1) zn1) ?_
    refine zb_goto E dX12_joins_119 (tgt := 289) rfl ?_
    obtain ⟨rfl, rfl⟩ := zinj2 h
    exact zb_vret E hQ rfl ⟨Nat.zero_le _, Nat.zero_le _⟩ dX12_joins_289
  have h := if_f h hc0
  by_cases hc1 : a1 = 2
  · have h := if_t h hc1
    refine zb_tableIn E dX12_joins_36 (tgt := 122) (by rw [hc1]; decide) (by rw [hc1]; decide) (by rw [hc1]; rfl) rfl ?_
    refine zb_aload_n E dX12_joins_122 2 rfl rfl ?_
    refine zb_lload E dX12_joins_123 0 rfl ?_
    refine zb_lload_n E dX12_joins_125 1 rfl rfl ?_
    refine zb_lsub E dX12_joins_126 ?_
    obtain ⟨rc5, hc_127, h⟩ := bd1_s h
    refine zb_cSl E [.long ((v_pile (ix (v_piled - 2))) - (v_pile (ix (v_piled - 1))))] zy_X12_clip zw_1769 (c_X12_clip hc_127) (by decide) rfl rfl (by first | decide | simp [Value.category]) dX12_joins_127 (cs2 := (0, 0)) rfl ?_
    obtain ⟨v_piled_c6, v_pile_c6, hc_130, h⟩ := bd2_s h
    refine zb_cVv E [.long rc5] 128 zy_X12_puts zw_1765 (by decide) (zF_128 _ _ _ _) rfl (c_X12_puts (va_up (I 128) 62 (v_piled - 2)) rfl (v_piled - 2) rfl v_pile rfl hc_130) (by decide) rfl rfl (by first | decide | simp [Value.category]) dX12_joins_130 (cs2 := (0, 0)) rfl ?_
    refine zb_S (S2 := ((va_up I 128 (va_up (I 128) 62 v_piled_c6)), (va_up J 175 v_pile_c6), Rr, D)) (zS_eq ((zcgV zn1).trans zn1) zn1) ?_
    refine zb_goto E dX12_joins_133 (tgt := 289) rfl ?_
    obtain ⟨rfl, rfl⟩ := zinj2 h
    exact zb_vret E hQ rfl ⟨Nat.zero_le _, Nat.zero_le _⟩ dX12_joins_289
  have h := if_f h hc1
  by_cases hc2 : a1 = 3
  · have h := if_t h hc2
    refine zb_tableIn E dX12_joins_36 (tgt := 136) (by rw [hc2]; decide) (by rw [hc2]; decide) (by rw [hc2]; rfl) rfl ?_
    refine zb_aload_n E dX12_joins_136 2 rfl rfl ?_
    refine zb_lload E dX12_joins_137 0 rfl ?_
    refine zb_lload_n E dX12_joins_139 1 rfl rfl ?_
    refine zb_lmul E dX12_joins_140 ?_
    obtain ⟨rc7, hc_141, h⟩ := bd1_s h
    refine zb_cSl E [.long ((v_pile (ix (v_piled - 2))) * (v_pile (ix (v_piled - 1))))] zy_X12_clip zw_1769 (c_X12_clip hc_141) (by decide) rfl rfl (by first | decide | simp [Value.category]) dX12_joins_141 (cs2 := (0, 0)) rfl ?_
    obtain ⟨v_piled_c8, v_pile_c8, hc_144, h⟩ := bd2_s h
    refine zb_cVv E [.long rc7] 128 zy_X12_puts zw_1765 (by decide) (zF_128 _ _ _ _) rfl (c_X12_puts (va_up (I 128) 62 (v_piled - 2)) rfl (v_piled - 2) rfl v_pile rfl hc_144) (by decide) rfl rfl (by first | decide | simp [Value.category]) dX12_joins_144 (cs2 := (0, 0)) rfl ?_
    refine zb_S (S2 := ((va_up I 128 (va_up (I 128) 62 v_piled_c8)), (va_up J 175 v_pile_c8), Rr, D)) (zS_eq ((zcgV zn1).trans zn1) zn1) ?_
    refine zb_goto E dX12_joins_147 (tgt := 289) rfl ?_
    obtain ⟨rfl, rfl⟩ := zinj2 h
    exact zb_vret E hQ rfl ⟨Nat.zero_le _, Nat.zero_le _⟩ dX12_joins_289
  have h := if_f h hc2
  by_cases hc3 : a1 = 4
  · have h := if_t h hc3
    refine zb_tableIn E dX12_joins_36 (tgt := 150) (by rw [hc3]; decide) (by rw [hc3]; decide) (by rw [hc3]; rfl) rfl ?_
    refine zb_aload_n E dX12_joins_150 2 rfl rfl ?_
    refine zb_lload E dX12_joins_151 0 rfl ?_
    refine zb_lload_n E dX12_joins_153 1 rfl rfl ?_
    obtain ⟨rc9, hc_154, h⟩ := bd1_s h
    refine zb_cSl E [.long (v_pile (ix (v_piled - 2))), .long (v_pile (ix (v_piled - 1)))] zy_X12_floor zw_1777 (c_X12_floor hc_154) (by decide) rfl rfl (by first | decide | simp [Value.category]) dX12_joins_154 (cs2 := (0, 0)) rfl ?_
    obtain ⟨v_piled_c10, v_pile_c10, hc_157, h⟩ := bd2_s h
    refine zb_cVv E [.long rc9] 128 zy_X12_puts zw_1765 (by decide) (zF_128 _ _ _ _) rfl (c_X12_puts (va_up (I 128) 62 (v_piled - 2)) rfl (v_piled - 2) rfl v_pile rfl hc_157) (by decide) rfl rfl (by first | decide | simp [Value.category]) dX12_joins_157 (cs2 := (0, 0)) rfl ?_
    refine zb_S (S2 := ((va_up I 128 (va_up (I 128) 62 v_piled_c10)), (va_up J 175 v_pile_c10), Rr, D)) (zS_eq ((zcgV zn1).trans zn1) zn1) ?_
    refine zb_goto E dX12_joins_160 (tgt := 289) rfl ?_
    obtain ⟨rfl, rfl⟩ := zinj2 h
    exact zb_vret E hQ rfl ⟨Nat.zero_le _, Nat.zero_le _⟩ dX12_joins_289
  have h := if_f h hc3
  by_cases hc4 : a1 = 5
  · have h := if_t h hc4
    refine zb_tableIn E dX12_joins_36 (tgt := 163) (by rw [hc4]; decide) (by rw [hc4]; decide) (by rw [hc4]; rfl) rfl ?_
    refine zb_aload_n E dX12_joins_163 2 rfl rfl ?_
    refine zb_lload E dX12_joins_164 0 rfl ?_
    refine zb_lload_n E dX12_joins_166 1 rfl rfl ?_
    refine zb_lcmp E dX12_joins_167 ?_
    refine zb_if_ge E dX12_joins_168 (tgt := 176) rfl (fun hc => ?_) (fun hc => ?_)
    · have h := if_t h hc
      refine zb_lload_n E dX12_joins_176 1 rfl rfl ?_
      refine zb_sub [] rfl ?_
      exact c_X12_joins_b177 a1 y_v_piled y_v_pile E hQ (v_pile (ix (v_piled - 1))) (v_piled - 2) v_pile h
    · have h := if_f h hc
      refine zb_lload E dX12_joins_171 0 rfl ?_
      refine zb_goto E dX12_joins_173 (tgt := 177) rfl ?_
      refine zb_sub [] rfl ?_
      exact c_X12_joins_b177 a1 y_v_piled y_v_pile E hQ (v_pile (ix (v_piled - 2))) (v_piled - 2) v_pile h
  have h := if_f h hc4
  by_cases hc5 : a1 = 6
  · have h := if_t h hc5
    refine zb_tableIn E dX12_joins_36 (tgt := 183) (by rw [hc5]; decide) (by rw [hc5]; decide) (by rw [hc5]; rfl) rfl ?_
    refine zb_aload_n E dX12_joins_183 2 rfl rfl ?_
    refine zb_lload E dX12_joins_184 0 rfl ?_
    refine zb_lload_n E dX12_joins_186 1 rfl rfl ?_
    refine zb_lcmp E dX12_joins_187 ?_
    refine zb_if_le E dX12_joins_188 (tgt := 196) rfl (fun hc => ?_) (fun hc => ?_)
    · have h := if_t h hc
      refine zb_lload_n E dX12_joins_196 1 rfl rfl ?_
      refine zb_sub [] rfl ?_
      exact c_X12_joins_b197 a1 y_v_piled y_v_pile E hQ (v_pile (ix (v_piled - 1))) (v_piled - 2) v_pile h
    · have h := if_f h hc
      refine zb_lload E dX12_joins_191 0 rfl ?_
      refine zb_goto E dX12_joins_193 (tgt := 197) rfl ?_
      refine zb_sub [] rfl ?_
      exact c_X12_joins_b197 a1 y_v_piled y_v_pile E hQ (v_pile (ix (v_piled - 2))) (v_piled - 2) v_pile h
  have h := if_f h hc5
  by_cases hc6 : a1 = 11
  · have h := if_t h hc6
    refine zb_tableIn E dX12_joins_36 (tgt := 203) (by rw [hc6]; decide) (by rw [hc6]; decide) (by rw [hc6]; rfl) rfl ?_
    refine zb_aload_n E dX12_joins_203 2 rfl rfl ?_
    refine zb_lload E dX12_joins_204 0 rfl ?_
    refine zb_lload_n E dX12_joins_206 1 rfl rfl ?_
    refine zb_lcmp E dX12_joins_207 ?_
    refine zb_if_ge E dX12_joins_208 (tgt := 215) rfl (fun hc => ?_) (fun hc => ?_)
    · have h := if_t h hc
      refine zb_lconst E dX12_joins_215 (v := 0) rfl ?_
      refine zb_sub [] rfl ?_
      exact c_X12_joins_b216 a1 y_v_piled y_v_pile E hQ 0 (v_piled - 2) v_pile h
    · have h := if_f h hc
      refine zb_lconst E dX12_joins_211 (v := 1) rfl ?_
      refine zb_goto E dX12_joins_212 (tgt := 216) rfl ?_
      refine zb_sub [] rfl ?_
      exact c_X12_joins_b216 a1 y_v_piled y_v_pile E hQ 1 (v_piled - 2) v_pile h
  have h := if_f h hc6
  by_cases hc7 : a1 = 12
  · have h := if_t h hc7
    refine zb_tableIn E dX12_joins_36 (tgt := 222) (by rw [hc7]; decide) (by rw [hc7]; decide) (by rw [hc7]; rfl) rfl ?_
    refine zb_aload_n E dX12_joins_222 2 rfl rfl ?_
    refine zb_lload E dX12_joins_223 0 rfl ?_
    refine zb_lload_n E dX12_joins_225 1 rfl rfl ?_
    refine zb_lcmp E dX12_joins_226 ?_
    refine zb_if_le E dX12_joins_227 (tgt := 234) rfl (fun hc => ?_) (fun hc => ?_)
    · have h := if_t h hc
      refine zb_lconst E dX12_joins_234 (v := 0) rfl ?_
      refine zb_sub [] rfl ?_
      exact c_X12_joins_b235 a1 y_v_piled y_v_pile E hQ 0 (v_piled - 2) v_pile h
    · have h := if_f h hc
      refine zb_lconst E dX12_joins_230 (v := 1) rfl ?_
      refine zb_goto E dX12_joins_231 (tgt := 235) rfl ?_
      refine zb_sub [] rfl ?_
      exact c_X12_joins_b235 a1 y_v_piled y_v_pile E hQ 1 (v_piled - 2) v_pile h
  have h := if_f h hc7
  by_cases hc8 : a1 = 13
  · have h := if_t h hc8
    refine zb_tableIn E dX12_joins_36 (tgt := 241) (by rw [hc8]; decide) (by rw [hc8]; decide) (by rw [hc8]; rfl) rfl ?_
    refine zb_aload_n E dX12_joins_241 2 rfl rfl ?_
    refine zb_lload E dX12_joins_242 0 rfl ?_
    refine zb_lload_n E dX12_joins_244 1 rfl rfl ?_
    refine zb_lcmp E dX12_joins_245 ?_
    refine zb_if_ne E dX12_joins_246 (tgt := 253) rfl (fun hc => ?_) (fun hc => ?_)
    · have h := if_f h hc
      refine zb_lconst E dX12_joins_253 (v := 0) rfl ?_
      refine zb_sub [] rfl ?_
      exact c_X12_joins_b254 a1 y_v_piled y_v_pile E hQ 0 (v_piled - 2) v_pile h
    · have h := if_t h hc
      refine zb_lconst E dX12_joins_249 (v := 1) rfl ?_
      refine zb_goto E dX12_joins_250 (tgt := 254) rfl ?_
      refine zb_sub [] rfl ?_
      exact c_X12_joins_b254 a1 y_v_piled y_v_pile E hQ 1 (v_piled - 2) v_pile h
  have h := if_f h hc8
  by_cases hc9 : a1 = 14
  · have h := if_t h hc9
    refine zb_tableIn E dX12_joins_36 (tgt := 260) (by rw [hc9]; decide) (by rw [hc9]; decide) (by rw [hc9]; rfl) rfl ?_
    refine zb_aload_n E dX12_joins_260 2 rfl rfl ?_
    refine zb_lload E dX12_joins_261 0 rfl ?_
    refine zb_lload_n E dX12_joins_263 1 rfl rfl ?_
    refine zb_lmul E dX12_joins_264 ?_
    obtain ⟨v_piled_c11, v_pile_c11, hc_265, h⟩ := bd2_s h
    refine zb_cVv E [.long ((v_pile (ix (v_piled - 2))) * (v_pile (ix (v_piled - 1))))] 128 zy_X12_puts zw_1765 (by decide) (zF_128 _ _ _ _) rfl (c_X12_puts (va_up (I 128) 62 (v_piled - 2)) rfl (v_piled - 2) rfl v_pile rfl hc_265) (by decide) rfl rfl (by first | decide | simp [Value.category]) dX12_joins_265 (cs2 := (0, 0)) rfl ?_
    refine zb_S (S2 := ((va_up I 128 (va_up (I 128) 62 v_piled_c11)), (va_up J 175 v_pile_c11), Rr, D)) (zS_eq ((zcgV zn1).trans zn1) zn1) ?_
    refine zb_goto E dX12_joins_268 (tgt := 289) rfl ?_
    obtain ⟨rfl, rfl⟩ := zinj2 h
    exact zb_vret E hQ rfl ⟨Nat.zero_le _, Nat.zero_le _⟩ dX12_joins_289
  have h := if_f h hc9
  have hd : zB C (0, 0) 271 [(4, .long (v_pile (ix (v_piled - 2)))), (2, .long (v_pile (ix (v_piled - 1)))), (0, .ref (C.X.1 + 128)), (1, .int a1)] [] ((va_up I 128 (va_up (I 128) 62 (v_piled - 2))), (va_up J 175 v_pile), Rr, D) := by
    refine zb_aload_n E dX12_joins_271 2 rfl rfl ?_
    refine zb_lload E dX12_joins_272 0 rfl ?_
    refine zb_lload_n E dX12_joins_274 1 rfl rfl ?_
    refine zb_ladd E dX12_joins_275 ?_
    refine zb_lconst E dX12_joins_276 (v := 0) rfl ?_
    refine zb_lcmp E dX12_joins_277 ?_
    refine zb_if_le E dX12_joins_278 (tgt := 285) rfl (fun hc => ?_) (fun hc => ?_)
    · have h := if_t h hc
      refine zb_lconst E dX12_joins_285 (v := 0) rfl ?_
      refine zb_sub [] rfl ?_
      exact c_X12_joins_b286 a1 y_v_piled y_v_pile E hQ 0 (v_piled - 2) v_pile h
    · have h := if_f h hc
      refine zb_lconst E dX12_joins_281 (v := 1) rfl ?_
      refine zb_goto E dX12_joins_282 (tgt := 286) rfl ?_
      refine zb_sub [] rfl ?_
      exact c_X12_joins_b286 a1 y_v_piled y_v_pile E hQ 1 (v_piled - 2) v_pile h
  by_cases hg7 : a1 = 7
  · exact zb_tableIn E dX12_joins_36 (tgt := 271) (by rw [hg7]; decide) (by rw [hg7]; decide) (by rw [hg7]; rfl) rfl hd
  have hzg7 : ¬ (a1).toInt = (7 : Int) := fun e => hg7 (Int32.toInt_inj.mp (e.trans (by decide)))
  by_cases hg8 : a1 = 8
  · exact zb_tableIn E dX12_joins_36 (tgt := 271) (by rw [hg8]; decide) (by rw [hg8]; decide) (by rw [hg8]; rfl) rfl hd
  have hzg8 : ¬ (a1).toInt = (8 : Int) := fun e => hg8 (Int32.toInt_inj.mp (e.trans (by decide)))
  by_cases hg9 : a1 = 9
  · exact zb_tableIn E dX12_joins_36 (tgt := 271) (by rw [hg9]; decide) (by rw [hg9]; decide) (by rw [hg9]; rfl) rfl hd
  have hzg9 : ¬ (a1).toInt = (9 : Int) := fun e => hg9 (Int32.toInt_inj.mp (e.trans (by decide)))
  by_cases hg10 : a1 = 10
  · exact zb_tableIn E dX12_joins_36 (tgt := 271) (by rw [hg10]; decide) (by rw [hg10]; decide) (by rw [hg10]; rfl) rfl hd
  have hzg10 : ¬ (a1).toInt = (10 : Int) := fun e => hg10 (Int32.toInt_inj.mp (e.trans (by decide)))
  have hz0 : ¬ (a1).toInt = (1 : Int) := fun e => hc0 (Int32.toInt_inj.mp (e.trans (by decide)))
  have hz1 : ¬ (a1).toInt = (2 : Int) := fun e => hc1 (Int32.toInt_inj.mp (e.trans (by decide)))
  have hz2 : ¬ (a1).toInt = (3 : Int) := fun e => hc2 (Int32.toInt_inj.mp (e.trans (by decide)))
  have hz3 : ¬ (a1).toInt = (4 : Int) := fun e => hc3 (Int32.toInt_inj.mp (e.trans (by decide)))
  have hz4 : ¬ (a1).toInt = (5 : Int) := fun e => hc4 (Int32.toInt_inj.mp (e.trans (by decide)))
  have hz5 : ¬ (a1).toInt = (6 : Int) := fun e => hc5 (Int32.toInt_inj.mp (e.trans (by decide)))
  have hz6 : ¬ (a1).toInt = (11 : Int) := fun e => hc6 (Int32.toInt_inj.mp (e.trans (by decide)))
  have hz7 : ¬ (a1).toInt = (12 : Int) := fun e => hc7 (Int32.toInt_inj.mp (e.trans (by decide)))
  have hz8 : ¬ (a1).toInt = (13 : Int) := fun e => hc8 (Int32.toInt_inj.mp (e.trans (by decide)))
  have hz9 : ¬ (a1).toInt = (14 : Int) := fun e => hc9 (Int32.toInt_inj.mp (e.trans (by decide)))
  exact zb_tableOut E dX12_joins_36 (tgt := 271) (by omega) rfl hd
theorem c_X12_joins {l : Launch} {X : zX} {I : Nat → Nat → Int32} {J : Nat → Nat → Int64} {Rr : Nat → Nat → Option Nat} {D : zD} {a1 : Int32} (oI128 : Nat → Int32) (eoI128 : I 128 = oI128) (v_piled : Int32) (e_v_piled : I 128 62 = v_piled) (v_pile : (Nat → Int64)) (e_v_pile : J 175 = v_pile) {y_v_piled : Int32} {y_v_pile : (Nat → Int64)} (h : pM_joins a1 v_piled v_pile = some (y_v_piled, y_v_pile)) : zMv l yX12_joins cX12_joins 6 none ({ frames := 1, cells := 0, slots := 0, locals := 25 } : Room) X [.ref (X.1 + 128), .int a1] (I, J, Rr, D) ((va_up I 128 (va_up oI128 62 y_v_piled)), (va_up J 175 y_v_pile), Rr, D) := by
  subst eoI128
  refine zMv.of (by decide) (Nat.le_of_ble_eq_true rfl) (fun C E hl hX hQ => ?_)
  subst hl
  subst hX
  have eI0 : (va_up I 128 (va_up (I 128) 62 v_piled)) = I := by rw [zup_idE e_v_piled, zup_id]
  have eJ0 : (va_up J 175 v_pile) = J := by rw [zup_idE e_v_pile]
  refine zb_S (S2 := ((va_up I 128 (va_up (I 128) 62 v_piled)), (va_up J 175 v_pile), Rr, D)) (zS_eq eI0.symm eJ0.symm) ?_
  exact c_X12_joins_0 a1 y_v_piled y_v_pile E hQ v_piled v_pile h
