set_option maxHeartbeats 4000000
set_option maxRecDepth 100000
-- ChequeredCloth$Chest.isHalf
theorem dX2_isHalf_0 : decode cX2_isHalf 0 = .ok (.iload_n 0, 1) := by decide +kernel
theorem dX2_isHalf_1 : decode cX2_isHalf 1 = .ok (.ifCond .lt 13, 3) := by decide +kernel
theorem dX2_isHalf_4 : decode cX2_isHalf 4 = .ok (.iload_n 0, 1) := by decide +kernel
theorem dX2_isHalf_5 : decode cX2_isHalf 5 = .ok (.bipush 20, 2) := by decide +kernel
theorem dX2_isHalf_7 : decode cX2_isHalf 7 = .ok (.if_icmp .ge 7, 3) := by decide +kernel
theorem dX2_isHalf_10 : decode cX2_isHalf 10 = .ok (.iconst 1, 1) := by decide +kernel
theorem dX2_isHalf_11 : decode cX2_isHalf 11 = .ok (.goto 4, 3) := by decide +kernel
theorem dX2_isHalf_14 : decode cX2_isHalf 14 = .ok (.iconst 0, 1) := by decide +kernel
theorem dX2_isHalf_15 : decode cX2_isHalf 15 = .ok (.ireturn, 1) := by decide +kernel
theorem zy_X2_isHalf : zYs yX2_isHalf cX2_isHalf 1 (some .boolean) 1 := ⟨zw_498, zw_3, zw_499, by decide, by decide, by decide⟩
theorem c_X2_isHalf_0 {C : zC} {I : Nat → Nat → Int32} {J : Nat → Nat → Int64} {Rr : Nat → Nat → Option Nat} {D : zD} (a0 : Int32) (rr : Int32) (E : zE C RX2 cX2_isHalf 1 (some .boolean) ({ frames := 0, cells := 0, slots := 0, locals := 0 } : Room)) (hQ : C.Q = zQi C ({ frames := 0, cells := 0, slots := 0, locals := 0 } : Room) rr (I, J, Rr, D)) (h : pChest_isHalf a0 = some rr) : zB C (0, 0) 0 [(0, .int a0)] [] (I, J, Rr, D) := by
  refine zb_iload_n E dX2_isHalf_0 0 rfl rfl ?_
  refine zb_if_lt E dX2_isHalf_1 (tgt := 14) rfl (fun hc => ?_) (fun hc => ?_)
  · have h := if_t h hc
    refine zb_iconst E dX2_isHalf_14 (v := 0) rfl ?_
    obtain rfl := zinj1 h
    exact zb_zret E hQ (ty := .boolean) rfl rfl ⟨Nat.zero_le _, Nat.zero_le _⟩ dX2_isHalf_15
  · have h := if_f h hc
    refine zb_iload_n E dX2_isHalf_4 0 rfl rfl ?_
    refine zb_bipush E dX2_isHalf_5 (v := 20) rfl ?_
    refine zb_icmp_ge E dX2_isHalf_7 (tgt := 14) rfl (fun hc => ?_) (fun hc => ?_)
    · have h := if_t h hc
      refine zb_iconst E dX2_isHalf_14 (v := 0) rfl ?_
      obtain rfl := zinj1 h
      exact zb_zret E hQ (ty := .boolean) rfl rfl ⟨Nat.zero_le _, Nat.zero_le _⟩ dX2_isHalf_15
    · have h := if_f h hc
      refine zb_iconst E dX2_isHalf_10 (v := 1) rfl ?_
      refine zb_goto E dX2_isHalf_11 (tgt := 15) rfl ?_
      obtain rfl := zinj1 h
      exact zb_zret E hQ (ty := .boolean) rfl rfl ⟨Nat.zero_le _, Nat.zero_le _⟩ dX2_isHalf_15
theorem c_X2_isHalf {l : Launch} {X : zX} {I : Nat → Nat → Int32} {J : Nat → Nat → Int64} {Rr : Nat → Nat → Option Nat} {D : zD} {a0 : Int32} {rr : Int32} (h : pChest_isHalf a0 = some rr) : zMi l yX2_isHalf cX2_isHalf 1 (some .boolean) ({ frames := 0, cells := 0, slots := 0, locals := 0 } : Room) X [.int a0] (I, J, Rr, D) rr (I, J, Rr, D) := by
  refine zMi.of (by decide) (Nat.le_of_ble_eq_true rfl) (fun C E hl hX hQ => ?_)
  subst hl
  subst hX
  have eI0 : I = I := rfl
  have eJ0 : J = J := rfl
  refine zb_S (S2 := (I, J, Rr, D)) (zS_eq eI0.symm eJ0.symm) ?_
  exact c_X2_isHalf_0 a0 rr E hQ h
-- ChequeredCloth$Chest.forget
theorem dX2_forget_0 : decode cX2_forget 0 = .ok (.iconst 0, 1) := by decide +kernel
theorem dX2_forget_1 : decode cX2_forget 1 = .ok (.istore_n 2, 1) := by decide +kernel
theorem dX2_forget_2 : decode cX2_forget 2 = .ok (.iload_n 2, 1) := by decide +kernel
theorem dX2_forget_3 : decode cX2_forget 3 = .ok (.bipush 10, 2) := by decide +kernel
theorem dX2_forget_5 : decode cX2_forget 5 = .ok (.if_icmp .ge 40, 3) := by decide +kernel
theorem dX2_forget_8 : decode cX2_forget 8 = .ok (.aload_n 0, 1) := by decide +kernel
theorem dX2_forget_9 : decode cX2_forget 9 = .ok (.getfield 21, 3) := by decide +kernel
theorem dX2_forget_12 : decode cX2_forget 12 = .ok (.iload_n 1, 1) := by decide +kernel
theorem dX2_forget_13 : decode cX2_forget 13 = .ok (.bipush 10, 2) := by decide +kernel
theorem dX2_forget_15 : decode cX2_forget 15 = .ok (.if_icmp .ge 12, 3) := by decide +kernel
theorem dX2_forget_18 : decode cX2_forget 18 = .ok (.iload_n 1, 1) := by decide +kernel
theorem dX2_forget_19 : decode cX2_forget 19 = .ok (.bipush 10, 2) := by decide +kernel
theorem dX2_forget_21 : decode cX2_forget 21 = .ok (.imul, 1) := by decide +kernel
theorem dX2_forget_22 : decode cX2_forget 22 = .ok (.iload_n 2, 1) := by decide +kernel
theorem dX2_forget_23 : decode cX2_forget 23 = .ok (.iadd, 1) := by decide +kernel
theorem dX2_forget_24 : decode cX2_forget 24 = .ok (.goto 12, 3) := by decide +kernel
theorem dX2_forget_27 : decode cX2_forget 27 = .ok (.iload_n 2, 1) := by decide +kernel
theorem dX2_forget_28 : decode cX2_forget 28 = .ok (.bipush 10, 2) := by decide +kernel
theorem dX2_forget_30 : decode cX2_forget 30 = .ok (.imul, 1) := by decide +kernel
theorem dX2_forget_31 : decode cX2_forget 31 = .ok (.iload_n 1, 1) := by decide +kernel
theorem dX2_forget_32 : decode cX2_forget 32 = .ok (.iadd, 1) := by decide +kernel
theorem dX2_forget_33 : decode cX2_forget 33 = .ok (.bipush 10, 2) := by decide +kernel
theorem dX2_forget_35 : decode cX2_forget 35 = .ok (.isub, 1) := by decide +kernel
theorem dX2_forget_36 : decode cX2_forget 36 = .ok (.bipush (-2), 2) := by decide +kernel
theorem dX2_forget_38 : decode cX2_forget 38 = .ok (.iastore, 1) := by decide +kernel
theorem dX2_forget_39 : decode cX2_forget 39 = .ok (.iinc 2 1, 3) := by decide +kernel
theorem dX2_forget_42 : decode cX2_forget 42 = .ok (.goto (-40), 3) := by decide +kernel
theorem dX2_forget_45 : decode cX2_forget 45 = .ok (.aload_n 0, 1) := by decide +kernel
theorem dX2_forget_46 : decode cX2_forget 46 = .ok (.iconst 0, 1) := by decide +kernel
theorem dX2_forget_47 : decode cX2_forget 47 = .ok (.putfield 70, 3) := by decide +kernel
theorem dX2_forget_50 : decode cX2_forget 50 = .ok (.aload_n 0, 1) := by decide +kernel
theorem dX2_forget_51 : decode cX2_forget 51 = .ok (.dup, 1) := by decide +kernel
theorem dX2_forget_52 : decode cX2_forget 52 = .ok (.getfield 74, 3) := by decide +kernel
theorem dX2_forget_55 : decode cX2_forget 55 = .ok (.iconst 1, 1) := by decide +kernel
theorem dX2_forget_56 : decode cX2_forget 56 = .ok (.iadd, 1) := by decide +kernel
theorem dX2_forget_57 : decode cX2_forget 57 = .ok (.putfield 74, 3) := by decide +kernel
theorem dX2_forget_60 : decode cX2_forget 60 = .ok (.return_, 1) := by decide +kernel
theorem zy_X2_forget : zYv yX2_forget cX2_forget 3 none 1 := ⟨zw_504, zws_3, zw_3, zw_505, by decide, by decide, by decide⟩
theorem c_X2_forget_b36 {C : zC} {I : Nat → Nat → Int32} {J : Nat → Nat → Int64} {Rr : Nat → Nat → Option Nat} {D : zD} (N : Nat) (a1 : Int32) (y_v_changes : Int32) (y_v_isMatched : Int32) (y_v_fits : (Nat → Int32)) (E : zE C RX2 cX2_forget 3 none ({ frames := 0, cells := 0, slots := 0, locals := 0 } : Room)) (hQ : C.Q = zQv C ({ frames := 0, cells := 0, slots := 0, locals := 0 } : Room) ((va_up (va_up I 5 (va_up (va_up (I 5) 11 y_v_isMatched) 12 y_v_changes)) 9 y_v_fits), J, Rr, D)) (x2 : Int32) (s1 : Int32) (v_changes : Int32) (v_isMatched : Int32) (v_fits : (Nat → Int32)) (self : Int32 → (Nat → Int32) → Option R_pChest_forget) (ih : ∀ (x2 : Int32) (v_fits : (Nat → Int32)), self x2 v_fits = some (y_v_changes, y_v_isMatched, y_v_fits) → zB C (0, 0) 2 [(0, .ref (C.X.1 + 5)), (1, .int a1), (2, .int x2)] [] ((va_up (va_up I 5 (va_up (va_up (I 5) 11 v_isMatched) 12 v_changes)) 9 v_fits), J, Rr, D)) (h : pChest_forget_b36 N a1 self x2 s1 v_changes v_isMatched v_fits = some (y_v_changes, y_v_isMatched, y_v_fits)) : zB C (0, 0) 36 [(0, .ref (C.X.1 + 5)), (1, .int a1), (2, .int x2)] [.int s1, .ref (C.X.1 + 9)] ((va_up (va_up I 5 (va_up (va_up (I 5) 11 v_isMatched) 12 v_changes)) 9 v_fits), J, Rr, D) := by
  refine zb_bipush E dX2_forget_36 (v := (-2)) rfl ?_
  obtain ⟨g1, h⟩ := gd_s h
  refine zb_iast E 9 (by decide) zF_9 (f := v_fits) rfl (ib_in g1) dX2_forget_38 (I2 := (va_up (va_up I 5 (va_up (va_up (I 5) 11 v_isMatched) 12 v_changes)) 9 (upd v_fits (ix s1) (-2)))) zn1 ?_
  refine zb_iinc E dX2_forget_39 2 rfl (v := (x2 + 1)) rfl (by decide) (lv2 := [(2, .int (x2 + 1)), (0, .ref (C.X.1 + 5)), (1, .int a1)]) rfl ?_
  refine zb_goto E dX2_forget_42 (tgt := 2) rfl ?_
  refine zb_sub [1, 2, 0] rfl ?_
  exact ih (x2 + 1) (upd v_fits (ix s1) (-2)) h
theorem c_X2_forget_b2 {C : zC} {I : Nat → Nat → Int32} {J : Nat → Nat → Int64} {Rr : Nat → Nat → Option Nat} {D : zD} (N : Nat) (a1 : Int32) (y_v_changes : Int32) (y_v_isMatched : Int32) (y_v_fits : (Nat → Int32)) (E : zE C RX2 cX2_forget 3 none ({ frames := 0, cells := 0, slots := 0, locals := 0 } : Room)) (hQ : C.Q = zQv C ({ frames := 0, cells := 0, slots := 0, locals := 0 } : Room) ((va_up (va_up I 5 (va_up (va_up (I 5) 11 y_v_isMatched) 12 y_v_changes)) 9 y_v_fits), J, Rr, D)) (v_changes : Int32) (v_isMatched : Int32)  : ∀ (n9 : Nat) (x2 : Int32) (v_fits : (Nat → Int32)), pChest_forget_b2 N a1 v_changes v_isMatched n9 x2 v_fits = some (y_v_changes, y_v_isMatched, y_v_fits) → zB C (0, 0) 2 [(0, .ref (C.X.1 + 5)), (1, .int a1), (2, .int x2)] [] ((va_up (va_up I 5 (va_up (va_up (I 5) 11 v_isMatched) 12 v_changes)) 9 v_fits), J, Rr, D) := by
  refine zlp2_ind (P := fun (x2 : Int32) (v_fits : (Nat → Int32)) => zB C (0, 0) 2 [(0, .ref (C.X.1 + 5)), (1, .int a1), (2, .int x2)] [] ((va_up (va_up I 5 (va_up (va_up (I 5) 11 v_isMatched) 12 v_changes)) 9 v_fits), J, Rr, D)) (fun self ih => ?_)
  intro x2 v_fits h
  refine zb_iload_n E dX2_forget_2 2 rfl rfl ?_
  refine zb_bipush E dX2_forget_3 (v := 10) rfl ?_
  refine zb_icmp_ge E dX2_forget_5 (tgt := 45) rfl (fun hc => ?_) (fun hc => ?_)
  · have h := if_t h hc
    refine zb_aload_n E dX2_forget_45 0 rfl rfl ?_
    refine zb_iconst E dX2_forget_46 (v := 0) rfl ?_
    refine zb_put E 5 (by decide) (zF_5 C.X) rfl zin2 11 (by decide) zw_101 tyX2 tyX2_ok nmX2 rfl rfl rfl (I2 := (va_up (va_up I 5 (va_up (va_up (I 5) 11 0) 12 v_changes)) 9 v_fits)) (J2 := J) ((zset2_11 C.X (va_up (va_up (I 5) 11 v_isMatched) 12 v_changes) (J 5) 0).trans (congrArg (fun g => zf2 C.X g (J 5)) (zn2 (by decide : (12 : Nat) ≠ 11)))) (by rw [zflen2]; decide) (fun j hj => ⟨zup_cg ((zup_n hj).trans (zup_n hj).symm), rfl⟩) dX2_forget_47 ?_
    refine zb_aload_n E dX2_forget_50 0 rfl rfl ?_
    refine zb_dup E dX2_forget_51 rfl ?_
    refine zb_get E 5 (by decide) (zF_5 C.X) rfl zin2 12 (by decide) zw_102 (v := .int v_changes) rfl dX2_forget_52 ?_
    refine zb_iconst E dX2_forget_55 (v := 1) rfl ?_
    refine zb_iadd E dX2_forget_56 ?_
    refine zb_put E 5 (by decide) (zF_5 C.X) rfl zin2 12 (by decide) zw_102 tyX2 tyX2_ok nmX2 rfl rfl rfl (I2 := (va_up (va_up I 5 (va_up (va_up (I 5) 11 0) 12 (v_changes + 1))) 9 v_fits)) (J2 := J) ((zset2_12 C.X (va_up (va_up (I 5) 11 0) 12 v_changes) (J 5) (v_changes + 1)).trans (congrArg (fun g => zf2 C.X g (J 5)) zn1)) (by rw [zflen2]; decide) (fun j hj => ⟨zup_cg ((zup_n hj).trans (zup_n hj).symm), rfl⟩) dX2_forget_57 ?_
    obtain ⟨rfl, rfl, rfl⟩ := zinj3 h
    exact zb_vret E hQ rfl ⟨Nat.zero_le _, Nat.zero_le _⟩ dX2_forget_60
  · have h := if_f h hc
    refine zb_aload_n E dX2_forget_8 0 rfl rfl ?_
    refine zb_get E 5 (by decide) (zF_5 C.X) rfl zin2 3 (by decide) zw_93 (v := .ref (C.X.1 + 9)) rfl dX2_forget_9 ?_
    refine zb_iload_n E dX2_forget_12 1 rfl rfl ?_
    refine zb_bipush E dX2_forget_13 (v := 10) rfl ?_
    refine zb_icmp_ge E dX2_forget_15 (tgt := 27) rfl (fun hc => ?_) (fun hc => ?_)
    · have h := if_t h hc
      refine zb_iload_n E dX2_forget_27 2 rfl rfl ?_
      refine zb_bipush E dX2_forget_28 (v := 10) rfl ?_
      refine zb_imul E dX2_forget_30 ?_
      refine zb_iload_n E dX2_forget_31 1 rfl rfl ?_
      refine zb_iadd E dX2_forget_32 ?_
      refine zb_bipush E dX2_forget_33 (v := 10) rfl ?_
      refine zb_isub E dX2_forget_35 ?_
      exact c_X2_forget_b36 N a1 y_v_changes y_v_isMatched y_v_fits E hQ x2 (((x2 * 10) + a1) - 10) v_changes v_isMatched v_fits self ih h
    · have h := if_f h hc
      refine zb_iload_n E dX2_forget_18 1 rfl rfl ?_
      refine zb_bipush E dX2_forget_19 (v := 10) rfl ?_
      refine zb_imul E dX2_forget_21 ?_
      refine zb_iload_n E dX2_forget_22 2 rfl rfl ?_
      refine zb_iadd E dX2_forget_23 ?_
      refine zb_goto E dX2_forget_24 (tgt := 36) rfl ?_
      exact c_X2_forget_b36 N a1 y_v_changes y_v_isMatched y_v_fits E hQ x2 ((a1 * 10) + x2) v_changes v_isMatched v_fits self ih h
theorem c_X2_forget_0 {C : zC} {I : Nat → Nat → Int32} {J : Nat → Nat → Int64} {Rr : Nat → Nat → Option Nat} {D : zD} (N : Nat) (a1 : Int32) (y_v_changes : Int32) (y_v_isMatched : Int32) (y_v_fits : (Nat → Int32)) (E : zE C RX2 cX2_forget 3 none ({ frames := 0, cells := 0, slots := 0, locals := 0 } : Room)) (hQ : C.Q = zQv C ({ frames := 0, cells := 0, slots := 0, locals := 0 } : Room) ((va_up (va_up I 5 (va_up (va_up (I 5) 11 y_v_isMatched) 12 y_v_changes)) 9 y_v_fits), J, Rr, D)) (v_changes : Int32) (v_isMatched : Int32) (v_fits : (Nat → Int32)) (h : pChest_forget N a1 v_changes v_isMatched v_fits = some (y_v_changes, y_v_isMatched, y_v_fits)) : zB C (0, 0) 0 [(0, .ref (C.X.1 + 5)), (1, .int a1)] [] ((va_up (va_up I 5 (va_up (va_up (I 5) 11 v_isMatched) 12 v_changes)) 9 v_fits), J, Rr, D) := by
  refine zb_iconst E dX2_forget_0 (v := 0) rfl ?_
  refine zb_istore_n E dX2_forget_1 rfl (by decide) (lv2 := [(2, .int 0), (0, .ref (C.X.1 + 5)), (1, .int a1)]) rfl ?_
  refine zb_sub [1, 2, 0] rfl ?_
  exact c_X2_forget_b2 N a1 y_v_changes y_v_isMatched y_v_fits E hQ v_changes v_isMatched _ 0 v_fits h
theorem c_X2_forget {l : Launch} {X : zX} {I : Nat → Nat → Int32} {J : Nat → Nat → Int64} {Rr : Nat → Nat → Option Nat} {D : zD} {N : Nat} {a1 : Int32} (oI5 : Nat → Int32) (eoI5 : I 5 = oI5) (v_changes : Int32) (e_v_changes : I 5 12 = v_changes) (v_isMatched : Int32) (e_v_isMatched : I 5 11 = v_isMatched) (v_fits : (Nat → Int32)) (e_v_fits : I 9 = v_fits) {y_v_changes : Int32} {y_v_isMatched : Int32} {y_v_fits : (Nat → Int32)} (h : pChest_forget N a1 v_changes v_isMatched v_fits = some (y_v_changes, y_v_isMatched, y_v_fits)) : zMv l yX2_forget cX2_forget 3 none ({ frames := 0, cells := 0, slots := 0, locals := 0 } : Room) X [.ref (X.1 + 5), .int a1] (I, J, Rr, D) ((va_up (va_up I 5 (va_up (va_up oI5 11 y_v_isMatched) 12 y_v_changes)) 9 y_v_fits), J, Rr, D) := by
  subst eoI5
  refine zMv.of (by decide) (Nat.le_of_ble_eq_true rfl) (fun C E hl hX hQ => ?_)
  subst hl
  subst hX
  have eI0 : (va_up (va_up I 5 (va_up (va_up (I 5) 11 v_isMatched) 12 v_changes)) 9 v_fits) = I := by rw [zup_idE e_v_isMatched, zup_idE e_v_changes, zup_id, zup_idE e_v_fits]
  have eJ0 : J = J := rfl
  refine zb_S (S2 := ((va_up (va_up I 5 (va_up (va_up (I 5) 11 v_isMatched) 12 v_changes)) 9 v_fits), J, Rr, D)) (zS_eq eI0.symm eJ0.symm) ?_
  exact c_X2_forget_0 N a1 y_v_changes y_v_isMatched y_v_fits E hQ v_changes v_isMatched v_fits h
-- ChequeredCloth$Chest.addCut
theorem dX2_addCut_0 : decode cX2_addCut 0 = .ok (.iload_n 1, 1) := by decide +kernel
theorem dX2_addCut_1 : decode cX2_addCut 1 = .ok (.invokestatic 56, 3) := by decide +kernel
theorem dX2_addCut_4 : decode cX2_addCut 4 = .ok (.ifCond .eq 26, 3) := by decide +kernel
theorem dX2_addCut_7 : decode cX2_addCut 7 = .ok (.iload_n 2, 1) := by decide +kernel
theorem dX2_addCut_8 : decode cX2_addCut 8 = .ok (.ifCond .lt 22, 3) := by decide +kernel
theorem dX2_addCut_11 : decode cX2_addCut 11 = .ok (.iload_n 2, 1) := by decide +kernel
theorem dX2_addCut_12 : decode cX2_addCut 12 = .ok (.sipush 240, 3) := by decide +kernel
theorem dX2_addCut_15 : decode cX2_addCut 15 = .ok (.if_icmp .gt 15, 3) := by decide +kernel
theorem dX2_addCut_18 : decode cX2_addCut 18 = .ok (.iload_n 3, 1) := by decide +kernel
theorem dX2_addCut_19 : decode cX2_addCut 19 = .ok (.ifCond .lt 11, 3) := by decide +kernel
theorem dX2_addCut_22 : decode cX2_addCut 22 = .ok (.iload_n 3, 1) := by decide +kernel
theorem dX2_addCut_23 : decode cX2_addCut 23 = .ok (.getstatic 60, 3) := by decide +kernel
theorem dX2_addCut_26 : decode cX2_addCut 26 = .ok (.arraylength, 1) := by decide +kernel
theorem dX2_addCut_27 : decode cX2_addCut 27 = .ok (.if_icmp .lt 5, 3) := by decide +kernel
theorem dX2_addCut_30 : decode cX2_addCut 30 = .ok (.iconst (-1), 1) := by decide +kernel
theorem dX2_addCut_31 : decode cX2_addCut 31 = .ok (.ireturn, 1) := by decide +kernel
theorem dX2_addCut_32 : decode cX2_addCut 32 = .ok (.aload_n 0, 1) := by decide +kernel
theorem dX2_addCut_33 : decode cX2_addCut 33 = .ok (.getfield 18, 3) := by decide +kernel
theorem dX2_addCut_36 : decode cX2_addCut 36 = .ok (.iload_n 1, 1) := by decide +kernel
theorem dX2_addCut_37 : decode cX2_addCut 37 = .ok (.iaload, 1) := by decide +kernel
theorem dX2_addCut_38 : decode cX2_addCut 38 = .ok (.istore 4, 2) := by decide +kernel
theorem dX2_addCut_40 : decode cX2_addCut 40 = .ok (.iload_n 1, 1) := by decide +kernel
theorem dX2_addCut_41 : decode cX2_addCut 41 = .ok (.bipush 12, 2) := by decide +kernel
theorem dX2_addCut_43 : decode cX2_addCut 43 = .ok (.imul, 1) := by decide +kernel
theorem dX2_addCut_44 : decode cX2_addCut 44 = .ok (.iload 4, 2) := by decide +kernel
theorem dX2_addCut_46 : decode cX2_addCut 46 = .ok (.iadd, 1) := by decide +kernel
theorem dX2_addCut_47 : decode cX2_addCut 47 = .ok (.istore 5, 2) := by decide +kernel
theorem dX2_addCut_49 : decode cX2_addCut 49 = .ok (.iload 4, 2) := by decide +kernel
theorem dX2_addCut_51 : decode cX2_addCut 51 = .ok (.bipush 12, 2) := by decide +kernel
theorem dX2_addCut_53 : decode cX2_addCut 53 = .ok (.if_icmp .ge 21, 3) := by decide +kernel
theorem dX2_addCut_56 : decode cX2_addCut 56 = .ok (.iload 4, 2) := by decide +kernel
theorem dX2_addCut_58 : decode cX2_addCut 58 = .ok (.ifCond .le 18, 3) := by decide +kernel
theorem dX2_addCut_61 : decode cX2_addCut 61 = .ok (.aload_n 0, 1) := by decide +kernel
theorem dX2_addCut_62 : decode cX2_addCut 62 = .ok (.getfield 11, 3) := by decide +kernel
theorem dX2_addCut_65 : decode cX2_addCut 65 = .ok (.iload 5, 2) := by decide +kernel
theorem dX2_addCut_67 : decode cX2_addCut 67 = .ok (.iconst 1, 1) := by decide +kernel
theorem dX2_addCut_68 : decode cX2_addCut 68 = .ok (.isub, 1) := by decide +kernel
theorem dX2_addCut_69 : decode cX2_addCut 69 = .ok (.iaload, 1) := by decide +kernel
theorem dX2_addCut_70 : decode cX2_addCut 70 = .ok (.iload_n 2, 1) := by decide +kernel
theorem dX2_addCut_71 : decode cX2_addCut 71 = .ok (.if_icmp .lt 5, 3) := by decide +kernel
theorem dX2_addCut_74 : decode cX2_addCut 74 = .ok (.iconst (-1), 1) := by decide +kernel
theorem dX2_addCut_75 : decode cX2_addCut 75 = .ok (.ireturn, 1) := by decide +kernel
theorem dX2_addCut_76 : decode cX2_addCut 76 = .ok (.aload_n 0, 1) := by decide +kernel
theorem dX2_addCut_77 : decode cX2_addCut 77 = .ok (.getfield 11, 3) := by decide +kernel
theorem dX2_addCut_80 : decode cX2_addCut 80 = .ok (.iload 5, 2) := by decide +kernel
theorem dX2_addCut_82 : decode cX2_addCut 82 = .ok (.iload_n 2, 1) := by decide +kernel
theorem dX2_addCut_83 : decode cX2_addCut 83 = .ok (.iastore, 1) := by decide +kernel
theorem dX2_addCut_84 : decode cX2_addCut 84 = .ok (.aload_n 0, 1) := by decide +kernel
theorem dX2_addCut_85 : decode cX2_addCut 85 = .ok (.getfield 15, 3) := by decide +kernel
theorem dX2_addCut_88 : decode cX2_addCut 88 = .ok (.iload 5, 2) := by decide +kernel
theorem dX2_addCut_90 : decode cX2_addCut 90 = .ok (.iload_n 3, 1) := by decide +kernel
theorem dX2_addCut_91 : decode cX2_addCut 91 = .ok (.iastore, 1) := by decide +kernel
theorem dX2_addCut_92 : decode cX2_addCut 92 = .ok (.aload_n 0, 1) := by decide +kernel
theorem dX2_addCut_93 : decode cX2_addCut 93 = .ok (.getfield 18, 3) := by decide +kernel
theorem dX2_addCut_96 : decode cX2_addCut 96 = .ok (.iload_n 1, 1) := by decide +kernel
theorem dX2_addCut_97 : decode cX2_addCut 97 = .ok (.iload 4, 2) := by decide +kernel
theorem dX2_addCut_99 : decode cX2_addCut 99 = .ok (.iconst 1, 1) := by decide +kernel
theorem dX2_addCut_100 : decode cX2_addCut 100 = .ok (.iadd, 1) := by decide +kernel
theorem dX2_addCut_101 : decode cX2_addCut 101 = .ok (.iastore, 1) := by decide +kernel
theorem dX2_addCut_102 : decode cX2_addCut 102 = .ok (.aload_n 0, 1) := by decide +kernel
theorem dX2_addCut_103 : decode cX2_addCut 103 = .ok (.iload_n 1, 1) := by decide +kernel
theorem dX2_addCut_104 : decode cX2_addCut 104 = .ok (.invokevirtual 63, 3) := by decide +kernel
theorem dX2_addCut_107 : decode cX2_addCut 107 = .ok (.iload 4, 2) := by decide +kernel
theorem dX2_addCut_109 : decode cX2_addCut 109 = .ok (.iconst 1, 1) := by decide +kernel
theorem dX2_addCut_110 : decode cX2_addCut 110 = .ok (.iadd, 1) := by decide +kernel
theorem dX2_addCut_111 : decode cX2_addCut 111 = .ok (.ireturn, 1) := by decide +kernel
theorem zy_X2_addCut : zYv yX2_addCut cX2_addCut 6 (some .int) 3 := ⟨zw_494, zw_495, zw_3, zw_496, by decide, by decide, by decide⟩
theorem c_X2_addCut_b76 {C : zC} {I : Nat → Nat → Int32} {J : Nat → Nat → Int64} {Rr : Nat → Nat → Option Nat} {D : zD} (N : Nat) (a1 : Int32) (a2 : Int32) (a3 : Int32) (rr : Int32) (y_v_changes : Int32) (y_v_isMatched : Int32) (y_v_fits : (Nat → Int32)) (y_v_places : (Nat → Int32)) (y_v_sizes : (Nat → Int32)) (y_v_worths : (Nat → Int32)) (E : zE C RX2 cX2_addCut 6 (some .int) ({ frames := 1, cells := 0, slots := 0, locals := 22 } : Room)) (hQ : C.Q = zQi C ({ frames := 1, cells := 0, slots := 0, locals := 22 } : Room) rr ((va_up (va_up (va_up (va_up (va_up I 5 (va_up (va_up (I 5) 11 y_v_isMatched) 12 y_v_changes)) 6 y_v_places) 7 y_v_worths) 8 y_v_sizes) 9 y_v_fits), J, Rr, D)) (x4 : Int32) (x5 : Int32) (v_changes : Int32) (v_isMatched : Int32) (v_fits : (Nat → Int32)) (v_places : (Nat → Int32)) (v_sizes : (Nat → Int32)) (v_worths : (Nat → Int32)) (h : pChest_addCut_b76 N a1 a2 a3 x4 x5 v_changes v_isMatched v_fits v_places v_sizes v_worths = some (rr, y_v_changes, y_v_isMatched, y_v_fits, y_v_places, y_v_sizes, y_v_worths)) : zB C (0, 0) 76 [(0, .ref (C.X.1 + 5)), (1, .int a1), (2, .int a2), (3, .int a3), (4, .int x4), (5, .int x5)] [] ((va_up (va_up (va_up (va_up (va_up I 5 (va_up (va_up (I 5) 11 v_isMatched) 12 v_changes)) 6 v_places) 7 v_worths) 8 v_sizes) 9 v_fits), J, Rr, D) := by
  refine zb_aload_n E dX2_addCut_76 0 rfl rfl ?_
  refine zb_get E 5 (by decide) (zF_5 C.X) rfl zin2 0 (by decide) zw_90 (v := .ref (C.X.1 + 6)) rfl dX2_addCut_77 ?_
  refine zb_iload E dX2_addCut_80 5 rfl ?_
  refine zb_iload_n E dX2_addCut_82 2 rfl rfl ?_
  obtain ⟨g4, h⟩ := gd_s h
  refine zb_iast E 6 (by decide) zF_6 (f := v_places) rfl (ib_in g4) dX2_addCut_83 (I2 := (va_up (va_up (va_up (va_up (va_up I 5 (va_up (va_up (I 5) 11 v_isMatched) 12 v_changes)) 6 (upd v_places (ix x5) a2)) 7 v_worths) 8 v_sizes) 9 v_fits)) (zn4 (by decide : (9 : Nat) ≠ 6) (by decide : (8 : Nat) ≠ 6) (by decide : (7 : Nat) ≠ 6)) ?_
  refine zb_aload_n E dX2_addCut_84 0 rfl rfl ?_
  refine zb_get E 5 (by decide) (zF_5 C.X) rfl zin2 1 (by decide) zw_91 (v := .ref (C.X.1 + 7)) rfl dX2_addCut_85 ?_
  refine zb_iload E dX2_addCut_88 5 rfl ?_
  refine zb_iload_n E dX2_addCut_90 3 rfl rfl ?_
  refine zb_iast E 7 (by decide) zF_7 (f := v_worths) rfl (ib_in g4) dX2_addCut_91 (I2 := (va_up (va_up (va_up (va_up (va_up I 5 (va_up (va_up (I 5) 11 v_isMatched) 12 v_changes)) 6 (upd v_places (ix x5) a2)) 7 (upd v_worths (ix x5) a3)) 8 v_sizes) 9 v_fits)) (zn3 (by decide : (9 : Nat) ≠ 7) (by decide : (8 : Nat) ≠ 7)) ?_
  refine zb_aload_n E dX2_addCut_92 0 rfl rfl ?_
  refine zb_get E 5 (by decide) (zF_5 C.X) rfl zin2 2 (by decide) zw_92 (v := .ref (C.X.1 + 8)) rfl dX2_addCut_93 ?_
  refine zb_iload_n E dX2_addCut_96 1 rfl rfl ?_
  refine zb_iload E dX2_addCut_97 4 rfl ?_
  refine zb_iconst E dX2_addCut_99 (v := 1) rfl ?_
  refine zb_iadd E dX2_addCut_100 ?_
  obtain ⟨g5, h⟩ := gd_s h
  refine zb_iast E 8 (by decide) zF_8 (f := v_sizes) rfl (ib_in g5) dX2_addCut_101 (I2 := (va_up (va_up (va_up (va_up (va_up I 5 (va_up (va_up (I 5) 11 v_isMatched) 12 v_changes)) 6 (upd v_places (ix x5) a2)) 7 (upd v_worths (ix x5) a3)) 8 (upd v_sizes (ix a1) (x4 + 1))) 9 v_fits)) (zn2 (by decide : (9 : Nat) ≠ 8)) ?_
  refine zb_aload_n E dX2_addCut_102 0 rfl rfl ?_
  refine zb_iload_n E dX2_addCut_103 1 rfl rfl ?_
  obtain ⟨v_changes_c6, v_isMatched_c6, v_fits_c6, hc_104, h⟩ := bd3_s h
  refine zb_cVv E [.int a1] 5 zy_X2_forget zw_502 (by decide) (zF_5 _ _ _ _) rfl (c_X2_forget (va_up (va_up (I 5) 11 v_isMatched) 12 v_changes) rfl v_changes rfl v_isMatched rfl v_fits rfl hc_104) (by decide) rfl rfl (by first | decide | simp [Value.category]) dX2_addCut_104 (cs2 := (0, 0)) rfl ?_
  refine zb_S (S2 := ((va_up (va_up (va_up (va_up (va_up I 5 (va_up (va_up (I 5) 11 v_isMatched_c6) 12 v_changes_c6)) 6 (upd v_places (ix x5) a2)) 7 (upd v_worths (ix x5) a3)) 8 (upd v_sizes (ix a1) (x4 + 1))) 9 v_fits_c6), J, Rr, D)) (zS_eq ((zcgF ((zcgV ((zcgF (zn2 (by decide : (12 : Nat) ≠ 11))).trans zn1)).trans (zn5 (by decide : (9 : Nat) ≠ 5) (by decide : (8 : Nat) ≠ 5) (by decide : (7 : Nat) ≠ 5) (by decide : (6 : Nat) ≠ 5)))).trans zn1) rfl) ?_
  refine zb_iload E dX2_addCut_107 4 rfl ?_
  refine zb_iconst E dX2_addCut_109 (v := 1) rfl ?_
  refine zb_iadd E dX2_addCut_110 ?_
  obtain ⟨rfl, rfl, rfl, rfl, rfl, rfl, rfl⟩ := zinj7 h
  exact zb_iret E hQ rfl ⟨Nat.zero_le _, Nat.zero_le _⟩ dX2_addCut_111
theorem c_X2_addCut_0 {C : zC} {I : Nat → Nat → Int32} {J : Nat → Nat → Int64} {Rr : Nat → Nat → Option Nat} {D : zD} (N : Nat) (a1 : Int32) (a2 : Int32) (a3 : Int32) (rr : Int32) (y_v_changes : Int32) (y_v_isMatched : Int32) (y_v_fits : (Nat → Int32)) (y_v_places : (Nat → Int32)) (y_v_sizes : (Nat → Int32)) (y_v_worths : (Nat → Int32)) (E : zE C RX2 cX2_addCut 6 (some .int) ({ frames := 1, cells := 0, slots := 0, locals := 22 } : Room)) (hQ : C.Q = zQi C ({ frames := 1, cells := 0, slots := 0, locals := 22 } : Room) rr ((va_up (va_up (va_up (va_up (va_up I 5 (va_up (va_up (I 5) 11 y_v_isMatched) 12 y_v_changes)) 6 y_v_places) 7 y_v_worths) 8 y_v_sizes) 9 y_v_fits), J, Rr, D)) (v_changes : Int32) (v_isMatched : Int32) (v_fits : (Nat → Int32)) (v_places : (Nat → Int32)) (v_sizes : (Nat → Int32)) (v_worths : (Nat → Int32)) (h : pChest_addCut N a1 a2 a3 v_changes v_isMatched v_fits v_places v_sizes v_worths = some (rr, y_v_changes, y_v_isMatched, y_v_fits, y_v_places, y_v_sizes, y_v_worths)) : zB C (0, 0) 0 [(0, .ref (C.X.1 + 5)), (1, .int a1), (2, .int a2), (3, .int a3)] [] ((va_up (va_up (va_up (va_up (va_up I 5 (va_up (va_up (I 5) 11 v_isMatched) 12 v_changes)) 6 v_places) 7 v_worths) 8 v_sizes) 9 v_fits), J, Rr, D) := by
  refine zb_iload_n E dX2_addCut_0 1 rfl rfl ?_
  obtain ⟨rc1, hc_1, h⟩ := bd1_s h
  refine zb_cSi E [.int a1] zy_X2_isHalf zw_497 (c_X2_isHalf hc_1) (by decide) rfl rfl (by first | decide | simp [Value.category]) dX2_addCut_1 (cs2 := (0, 0)) rfl ?_
  refine zb_if_eq E dX2_addCut_4 (tgt := 30) rfl (fun hc => ?_) (fun hc => ?_)
  · have h := if_t h hc
    refine zb_iconst E dX2_addCut_30 (v := (-1)) rfl ?_
    obtain ⟨rfl, rfl, rfl, rfl, rfl, rfl, rfl⟩ := zinj7 h
    exact zb_iret E hQ rfl ⟨Nat.zero_le _, Nat.zero_le _⟩ dX2_addCut_31
  · have h := if_f h hc
    refine zb_iload_n E dX2_addCut_7 2 rfl rfl ?_
    refine zb_if_lt E dX2_addCut_8 (tgt := 30) rfl (fun hc => ?_) (fun hc => ?_)
    · have h := if_t h hc
      refine zb_iconst E dX2_addCut_30 (v := (-1)) rfl ?_
      obtain ⟨rfl, rfl, rfl, rfl, rfl, rfl, rfl⟩ := zinj7 h
      exact zb_iret E hQ rfl ⟨Nat.zero_le _, Nat.zero_le _⟩ dX2_addCut_31
    · have h := if_f h hc
      refine zb_iload_n E dX2_addCut_11 2 rfl rfl ?_
      refine zb_sipush E dX2_addCut_12 (v := 240) rfl ?_
      refine zb_icmp_gt E dX2_addCut_15 (tgt := 30) rfl (fun hc => ?_) (fun hc => ?_)
      · have h := if_t h hc
        refine zb_iconst E dX2_addCut_30 (v := (-1)) rfl ?_
        obtain ⟨rfl, rfl, rfl, rfl, rfl, rfl, rfl⟩ := zinj7 h
        exact zb_iret E hQ rfl ⟨Nat.zero_le _, Nat.zero_le _⟩ dX2_addCut_31
      · have h := if_f h hc
        refine zb_iload_n E dX2_addCut_18 3 rfl rfl ?_
        refine zb_if_lt E dX2_addCut_19 (tgt := 30) rfl (fun hc => ?_) (fun hc => ?_)
        · have h := if_t h hc
          refine zb_iconst E dX2_addCut_30 (v := (-1)) rfl ?_
          obtain ⟨rfl, rfl, rfl, rfl, rfl, rfl, rfl⟩ := zinj7 h
          exact zb_iret E hQ rfl ⟨Nat.zero_le _, Nat.zero_le _⟩ dX2_addCut_31
        · have h := if_f h hc
          refine zb_iload_n E dX2_addCut_22 3 rfl rfl ?_
          refine zb_gets2 E zw_500 dX2_addCut_23 ?_
          refine zb_tlen2 E dX2_addCut_26 ?_
          refine zb_icmp_lt E dX2_addCut_27 (tgt := 32) rfl (fun hc => ?_) (fun hc => ?_)
          · have h := if_t h hc
            refine zb_aload_n E dX2_addCut_32 0 rfl rfl ?_
            refine zb_get E 5 (by decide) (zF_5 C.X) rfl zin2 2 (by decide) zw_92 (v := .ref (C.X.1 + 8)) rfl dX2_addCut_33 ?_
            refine zb_iload_n E dX2_addCut_36 1 rfl rfl ?_
            obtain ⟨g2, h⟩ := gd_s h
            refine zb_iald E 8 (by decide) zF_8 (f := v_sizes) rfl (ib_in g2) dX2_addCut_37 ?_
            refine zb_istore E dX2_addCut_38 (by decide) (lv2 := [(4, .int (v_sizes (ix a1))), (0, .ref (C.X.1 + 5)), (1, .int a1), (2, .int a2), (3, .int a3)]) rfl ?_
            refine zb_iload_n E dX2_addCut_40 2 rfl rfl ?_
            refine zb_bipush E dX2_addCut_41 (v := 12) rfl ?_
            refine zb_imul E dX2_addCut_43 ?_
            refine zb_iload E dX2_addCut_44 0 rfl ?_
            refine zb_iadd E dX2_addCut_46 ?_
            refine zb_istore E dX2_addCut_47 (by decide) (lv2 := [(5, .int ((a1 * 12) + (v_sizes (ix a1)))), (4, .int (v_sizes (ix a1))), (0, .ref (C.X.1 + 5)), (1, .int a1), (2, .int a2), (3, .int a3)]) rfl ?_
            refine zb_iload E dX2_addCut_49 1 rfl ?_
            refine zb_bipush E dX2_addCut_51 (v := 12) rfl ?_
            refine zb_icmp_ge E dX2_addCut_53 (tgt := 74) rfl (fun hc => ?_) (fun hc => ?_)
            · have h := if_t h hc
              refine zb_iconst E dX2_addCut_74 (v := (-1)) rfl ?_
              obtain ⟨rfl, rfl, rfl, rfl, rfl, rfl, rfl⟩ := zinj7 h
              exact zb_iret E hQ rfl ⟨Nat.zero_le _, Nat.zero_le _⟩ dX2_addCut_75
            · have h := if_f h hc
              refine zb_iload E dX2_addCut_56 1 rfl ?_
              refine zb_if_le E dX2_addCut_58 (tgt := 76) rfl (fun hc => ?_) (fun hc => ?_)
              · have h := if_t h hc
                refine zb_sub [2, 3, 4, 5, 1, 0] rfl ?_
                exact c_X2_addCut_b76 N a1 a2 a3 rr y_v_changes y_v_isMatched y_v_fits y_v_places y_v_sizes y_v_worths E hQ (v_sizes (ix a1)) ((a1 * 12) + (v_sizes (ix a1))) v_changes v_isMatched v_fits v_places v_sizes v_worths h
              · have h := if_f h hc
                refine zb_aload_n E dX2_addCut_61 2 rfl rfl ?_
                refine zb_get E 5 (by decide) (zF_5 C.X) rfl zin2 0 (by decide) zw_90 (v := .ref (C.X.1 + 6)) rfl dX2_addCut_62 ?_
                refine zb_iload E dX2_addCut_65 0 rfl ?_
                refine zb_iconst E dX2_addCut_67 (v := 1) rfl ?_
                refine zb_isub E dX2_addCut_68 ?_
                obtain ⟨g3, h⟩ := gd_s h
                refine zb_iald E 6 (by decide) zF_6 (f := v_places) rfl (ib_in g3) dX2_addCut_69 ?_
                refine zb_iload_n E dX2_addCut_70 4 rfl rfl ?_
                refine zb_icmp_lt E dX2_addCut_71 (tgt := 76) rfl (fun hc => ?_) (fun hc => ?_)
                · have h := if_t h hc
                  refine zb_sub [2, 3, 4, 5, 1, 0] rfl ?_
                  exact c_X2_addCut_b76 N a1 a2 a3 rr y_v_changes y_v_isMatched y_v_fits y_v_places y_v_sizes y_v_worths E hQ (v_sizes (ix a1)) ((a1 * 12) + (v_sizes (ix a1))) v_changes v_isMatched v_fits v_places v_sizes v_worths h
                · have h := if_f h hc
                  refine zb_iconst E dX2_addCut_74 (v := (-1)) rfl ?_
                  obtain ⟨rfl, rfl, rfl, rfl, rfl, rfl, rfl⟩ := zinj7 h
                  exact zb_iret E hQ rfl ⟨Nat.zero_le _, Nat.zero_le _⟩ dX2_addCut_75
          · have h := if_f h hc
            refine zb_iconst E dX2_addCut_30 (v := (-1)) rfl ?_
            obtain ⟨rfl, rfl, rfl, rfl, rfl, rfl, rfl⟩ := zinj7 h
            exact zb_iret E hQ rfl ⟨Nat.zero_le _, Nat.zero_le _⟩ dX2_addCut_31
theorem c_X2_addCut {l : Launch} {X : zX} {I : Nat → Nat → Int32} {J : Nat → Nat → Int64} {Rr : Nat → Nat → Option Nat} {D : zD} {N : Nat} {a1 : Int32} {a2 : Int32} {a3 : Int32} (oI5 : Nat → Int32) (eoI5 : I 5 = oI5) (v_changes : Int32) (e_v_changes : I 5 12 = v_changes) (v_isMatched : Int32) (e_v_isMatched : I 5 11 = v_isMatched) (v_fits : (Nat → Int32)) (e_v_fits : I 9 = v_fits) (v_places : (Nat → Int32)) (e_v_places : I 6 = v_places) (v_sizes : (Nat → Int32)) (e_v_sizes : I 8 = v_sizes) (v_worths : (Nat → Int32)) (e_v_worths : I 7 = v_worths) {rr : Int32} {y_v_changes : Int32} {y_v_isMatched : Int32} {y_v_fits : (Nat → Int32)} {y_v_places : (Nat → Int32)} {y_v_sizes : (Nat → Int32)} {y_v_worths : (Nat → Int32)} (h : pChest_addCut N a1 a2 a3 v_changes v_isMatched v_fits v_places v_sizes v_worths = some (rr, y_v_changes, y_v_isMatched, y_v_fits, y_v_places, y_v_sizes, y_v_worths)) : zMi l yX2_addCut cX2_addCut 6 (some .int) ({ frames := 1, cells := 0, slots := 0, locals := 22 } : Room) X [.ref (X.1 + 5), .int a1, .int a2, .int a3] (I, J, Rr, D) rr ((va_up (va_up (va_up (va_up (va_up I 5 (va_up (va_up oI5 11 y_v_isMatched) 12 y_v_changes)) 6 y_v_places) 7 y_v_worths) 8 y_v_sizes) 9 y_v_fits), J, Rr, D) := by
  subst eoI5
  refine zMi.of (by decide) (Nat.le_of_ble_eq_true rfl) (fun C E hl hX hQ => ?_)
  subst hl
  subst hX
  have eI0 : (va_up (va_up (va_up (va_up (va_up I 5 (va_up (va_up (I 5) 11 v_isMatched) 12 v_changes)) 6 v_places) 7 v_worths) 8 v_sizes) 9 v_fits) = I := by rw [zup_idE e_v_isMatched, zup_idE e_v_changes, zup_id, zup_idE e_v_places, zup_idE e_v_worths, zup_idE e_v_sizes, zup_idE e_v_fits]
  have eJ0 : J = J := rfl
  refine zb_S (S2 := ((va_up (va_up (va_up (va_up (va_up I 5 (va_up (va_up (I 5) 11 v_isMatched) 12 v_changes)) 6 v_places) 7 v_worths) 8 v_sizes) 9 v_fits), J, Rr, D)) (zS_eq eI0.symm eJ0.symm) ?_
  exact c_X2_addCut_0 N a1 a2 a3 rr y_v_changes y_v_isMatched y_v_fits y_v_places y_v_sizes y_v_worths E hQ v_changes v_isMatched v_fits v_places v_sizes v_worths h
-- ChequeredCloth$Chest.isThere
theorem dX2_isThere_0 : decode cX2_isThere 0 = .ok (.iload_n 1, 1) := by decide +kernel
theorem dX2_isThere_1 : decode cX2_isThere 1 = .ok (.invokestatic 56, 3) := by decide +kernel
theorem dX2_isThere_4 : decode cX2_isThere 4 = .ok (.ifCond .eq 16, 3) := by decide +kernel
theorem dX2_isThere_7 : decode cX2_isThere 7 = .ok (.aload_n 0, 1) := by decide +kernel
theorem dX2_isThere_8 : decode cX2_isThere 8 = .ok (.getfield 18, 3) := by decide +kernel
theorem dX2_isThere_11 : decode cX2_isThere 11 = .ok (.iload_n 1, 1) := by decide +kernel
theorem dX2_isThere_12 : decode cX2_isThere 12 = .ok (.iaload, 1) := by decide +kernel
theorem dX2_isThere_13 : decode cX2_isThere 13 = .ok (.ifCond .le 7, 3) := by decide +kernel
theorem dX2_isThere_16 : decode cX2_isThere 16 = .ok (.iconst 1, 1) := by decide +kernel
theorem dX2_isThere_17 : decode cX2_isThere 17 = .ok (.goto 4, 3) := by decide +kernel
theorem dX2_isThere_20 : decode cX2_isThere 20 = .ok (.iconst 0, 1) := by decide +kernel
theorem dX2_isThere_21 : decode cX2_isThere 21 = .ok (.ireturn, 1) := by decide +kernel
theorem zy_X2_isThere : zYv yX2_isThere cX2_isThere 2 (some .boolean) 1 := ⟨zw_516, zws_4, zw_3, zw_517, by decide, by decide, by decide⟩
theorem c_X2_isThere_0 {C : zC} {I : Nat → Nat → Int32} {J : Nat → Nat → Int64} {Rr : Nat → Nat → Option Nat} {D : zD} (a1 : Int32) (v_sizes : (Nat → Int32)) (e_v_sizes : I 8 = v_sizes) (rr : Int32) (E : zE C RX2 cX2_isThere 2 (some .boolean) ({ frames := 1, cells := 0, slots := 0, locals := 20 } : Room)) (hQ : C.Q = zQi C ({ frames := 1, cells := 0, slots := 0, locals := 20 } : Room) rr (I, J, Rr, D)) (h : pChest_isThere a1 v_sizes = some rr) : zB C (0, 0) 0 [(0, .ref (C.X.1 + 5)), (1, .int a1)] [] (I, J, Rr, D) := by
  refine zb_iload_n E dX2_isThere_0 1 rfl rfl ?_
  obtain ⟨rc1, hc_1, h⟩ := bd1_s h
  refine zb_cSi E [.int a1] zy_X2_isHalf zw_497 (c_X2_isHalf hc_1) (by decide) rfl rfl (by first | decide | simp [Value.category]) dX2_isThere_1 (cs2 := (0, 0)) rfl ?_
  refine zb_if_eq E dX2_isThere_4 (tgt := 20) rfl (fun hc => ?_) (fun hc => ?_)
  · have h := if_t h hc
    refine zb_iconst E dX2_isThere_20 (v := 0) rfl ?_
    obtain rfl := zinj1 h
    exact zb_zret E hQ (ty := .boolean) rfl rfl ⟨Nat.zero_le _, Nat.zero_le _⟩ dX2_isThere_21
  · have h := if_f h hc
    refine zb_aload_n E dX2_isThere_7 0 rfl rfl ?_
    refine zb_get E 5 (by decide) (zF_5 C.X) rfl zin2 2 (by decide) zw_92 (v := .ref (C.X.1 + 8)) rfl dX2_isThere_8 ?_
    refine zb_iload_n E dX2_isThere_11 1 rfl rfl ?_
    obtain ⟨g2, h⟩ := gd_s h
    refine zb_iald E 8 (by decide) zF_8 (f := v_sizes) (by exact e_v_sizes) (ib_in g2) dX2_isThere_12 ?_
    refine zb_if_le E dX2_isThere_13 (tgt := 20) rfl (fun hc => ?_) (fun hc => ?_)
    · have h := if_t h hc
      refine zb_iconst E dX2_isThere_20 (v := 0) rfl ?_
      obtain rfl := zinj1 h
      exact zb_zret E hQ (ty := .boolean) rfl rfl ⟨Nat.zero_le _, Nat.zero_le _⟩ dX2_isThere_21
    · have h := if_f h hc
      refine zb_iconst E dX2_isThere_16 (v := 1) rfl ?_
      refine zb_goto E dX2_isThere_17 (tgt := 21) rfl ?_
      obtain rfl := zinj1 h
      exact zb_zret E hQ (ty := .boolean) rfl rfl ⟨Nat.zero_le _, Nat.zero_le _⟩ dX2_isThere_21
theorem c_X2_isThere {l : Launch} {X : zX} {I : Nat → Nat → Int32} {J : Nat → Nat → Int64} {Rr : Nat → Nat → Option Nat} {D : zD} {a1 : Int32} (v_sizes : (Nat → Int32)) (e_v_sizes : I 8 = v_sizes) {rr : Int32} (h : pChest_isThere a1 v_sizes = some rr) : zMi l yX2_isThere cX2_isThere 2 (some .boolean) ({ frames := 1, cells := 0, slots := 0, locals := 20 } : Room) X [.ref (X.1 + 5), .int a1] (I, J, Rr, D) rr (I, J, Rr, D) := by
  refine zMi.of (by decide) (Nat.le_of_ble_eq_true rfl) (fun C E hl hX hQ => ?_)
  subst hl
  subst hX
  have eI0 : I = I := rfl
  have eJ0 : J = J := rfl
  refine zb_S (S2 := (I, J, Rr, D)) (zS_eq eI0.symm eJ0.symm) ?_
  exact c_X2_isThere_0 a1 v_sizes e_v_sizes rr E hQ h
-- ChequeredCloth$Chest.clear
theorem dX2_clear_0 : decode cX2_clear 0 = .ok (.aload_n 0, 1) := by decide +kernel
theorem dX2_clear_1 : decode cX2_clear 1 = .ok (.iload_n 1, 1) := by decide +kernel
theorem dX2_clear_2 : decode cX2_clear 2 = .ok (.invokevirtual 67, 3) := by decide +kernel
theorem dX2_clear_5 : decode cX2_clear 5 = .ok (.ifCond .ne 5, 3) := by decide +kernel
theorem dX2_clear_8 : decode cX2_clear 8 = .ok (.iconst 0, 1) := by decide +kernel
theorem dX2_clear_9 : decode cX2_clear 9 = .ok (.ireturn, 1) := by decide +kernel
theorem dX2_clear_10 : decode cX2_clear 10 = .ok (.aload_n 0, 1) := by decide +kernel
theorem dX2_clear_11 : decode cX2_clear 11 = .ok (.getfield 18, 3) := by decide +kernel
theorem dX2_clear_14 : decode cX2_clear 14 = .ok (.iload_n 1, 1) := by decide +kernel
theorem dX2_clear_15 : decode cX2_clear 15 = .ok (.iconst 0, 1) := by decide +kernel
theorem dX2_clear_16 : decode cX2_clear 16 = .ok (.iastore, 1) := by decide +kernel
theorem dX2_clear_17 : decode cX2_clear 17 = .ok (.aload_n 0, 1) := by decide +kernel
theorem dX2_clear_18 : decode cX2_clear 18 = .ok (.iload_n 1, 1) := by decide +kernel
theorem dX2_clear_19 : decode cX2_clear 19 = .ok (.invokevirtual 63, 3) := by decide +kernel
theorem dX2_clear_22 : decode cX2_clear 22 = .ok (.iconst 1, 1) := by decide +kernel
theorem dX2_clear_23 : decode cX2_clear 23 = .ok (.ireturn, 1) := by decide +kernel
theorem zy_X2_clear : zYv yX2_clear cX2_clear 2 (some .boolean) 1 := ⟨zw_511, zw_512, zw_3, zw_513, by decide, by decide, by decide⟩
theorem c_X2_clear_0 {C : zC} {I : Nat → Nat → Int32} {J : Nat → Nat → Int64} {Rr : Nat → Nat → Option Nat} {D : zD} (N : Nat) (a1 : Int32) (rr : Int32) (y_v_changes : Int32) (y_v_isMatched : Int32) (y_v_fits : (Nat → Int32)) (y_v_sizes : (Nat → Int32)) (E : zE C RX2 cX2_clear 2 (some .boolean) ({ frames := 2, cells := 0, slots := 0, locals := 41 } : Room)) (hQ : C.Q = zQi C ({ frames := 2, cells := 0, slots := 0, locals := 41 } : Room) rr ((va_up (va_up (va_up I 5 (va_up (va_up (I 5) 11 y_v_isMatched) 12 y_v_changes)) 8 y_v_sizes) 9 y_v_fits), J, Rr, D)) (v_changes : Int32) (v_isMatched : Int32) (v_fits : (Nat → Int32)) (v_sizes : (Nat → Int32)) (h : pChest_clear N a1 v_changes v_isMatched v_fits v_sizes = some (rr, y_v_changes, y_v_isMatched, y_v_fits, y_v_sizes)) : zB C (0, 0) 0 [(0, .ref (C.X.1 + 5)), (1, .int a1)] [] ((va_up (va_up (va_up I 5 (va_up (va_up (I 5) 11 v_isMatched) 12 v_changes)) 8 v_sizes) 9 v_fits), J, Rr, D) := by
  refine zb_aload_n E dX2_clear_0 0 rfl rfl ?_
  refine zb_iload_n E dX2_clear_1 1 rfl rfl ?_
  obtain ⟨rc1, hc_2, h⟩ := bd1_s h
  refine zb_cVi E [.int a1] 5 zy_X2_isThere zw_514 (by decide) (zF_5 _ _ _ _) rfl (c_X2_isThere v_sizes rfl hc_2) (by decide) rfl rfl (by first | decide | simp [Value.category]) dX2_clear_2 (cs2 := (0, 0)) rfl ?_
  refine zb_if_ne E dX2_clear_5 (tgt := 10) rfl (fun hc => ?_) (fun hc => ?_)
  · have h := if_f h hc
    refine zb_aload_n E dX2_clear_10 0 rfl rfl ?_
    refine zb_get E 5 (by decide) (zF_5 C.X) rfl zin2 2 (by decide) zw_92 (v := .ref (C.X.1 + 8)) rfl dX2_clear_11 ?_
    refine zb_iload_n E dX2_clear_14 1 rfl rfl ?_
    refine zb_iconst E dX2_clear_15 (v := 0) rfl ?_
    obtain ⟨g2, h⟩ := gd_s h
    refine zb_iast E 8 (by decide) zF_8 (f := v_sizes) rfl (ib_in g2) dX2_clear_16 (I2 := (va_up (va_up (va_up I 5 (va_up (va_up (I 5) 11 v_isMatched) 12 v_changes)) 8 (upd v_sizes (ix a1) 0)) 9 v_fits)) (zn2 (by decide : (9 : Nat) ≠ 8)) ?_
    refine zb_aload_n E dX2_clear_17 0 rfl rfl ?_
    refine zb_iload_n E dX2_clear_18 1 rfl rfl ?_
    obtain ⟨v_changes_c3, v_isMatched_c3, v_fits_c3, hc_19, h⟩ := bd3_s h
    refine zb_cVv E [.int a1] 5 zy_X2_forget zw_502 (by decide) (zF_5 _ _ _ _) rfl (c_X2_forget (va_up (va_up (I 5) 11 v_isMatched) 12 v_changes) rfl v_changes rfl v_isMatched rfl v_fits rfl hc_19) (by decide) rfl rfl (by first | decide | simp [Value.category]) dX2_clear_19 (cs2 := (0, 0)) rfl ?_
    refine zb_S (S2 := ((va_up (va_up (va_up I 5 (va_up (va_up (I 5) 11 v_isMatched_c3) 12 v_changes_c3)) 8 (upd v_sizes (ix a1) 0)) 9 v_fits_c3), J, Rr, D)) (zS_eq ((zcgF ((zcgV ((zcgF (zn2 (by decide : (12 : Nat) ≠ 11))).trans zn1)).trans (zn3 (by decide : (9 : Nat) ≠ 5) (by decide : (8 : Nat) ≠ 5)))).trans zn1) rfl) ?_
    refine zb_iconst E dX2_clear_22 (v := 1) rfl ?_
    obtain ⟨rfl, rfl, rfl, rfl, rfl⟩ := zinj5 h
    exact zb_zret E hQ (ty := .boolean) rfl rfl ⟨Nat.zero_le _, Nat.zero_le _⟩ dX2_clear_23
  · have h := if_t h hc
    refine zb_iconst E dX2_clear_8 (v := 0) rfl ?_
    obtain ⟨rfl, rfl, rfl, rfl, rfl⟩ := zinj5 h
    exact zb_zret E hQ (ty := .boolean) rfl rfl ⟨Nat.zero_le _, Nat.zero_le _⟩ dX2_clear_9
theorem c_X2_clear {l : Launch} {X : zX} {I : Nat → Nat → Int32} {J : Nat → Nat → Int64} {Rr : Nat → Nat → Option Nat} {D : zD} {N : Nat} {a1 : Int32} (oI5 : Nat → Int32) (eoI5 : I 5 = oI5) (v_changes : Int32) (e_v_changes : I 5 12 = v_changes) (v_isMatched : Int32) (e_v_isMatched : I 5 11 = v_isMatched) (v_fits : (Nat → Int32)) (e_v_fits : I 9 = v_fits) (v_sizes : (Nat → Int32)) (e_v_sizes : I 8 = v_sizes) {rr : Int32} {y_v_changes : Int32} {y_v_isMatched : Int32} {y_v_fits : (Nat → Int32)} {y_v_sizes : (Nat → Int32)} (h : pChest_clear N a1 v_changes v_isMatched v_fits v_sizes = some (rr, y_v_changes, y_v_isMatched, y_v_fits, y_v_sizes)) : zMi l yX2_clear cX2_clear 2 (some .boolean) ({ frames := 2, cells := 0, slots := 0, locals := 41 } : Room) X [.ref (X.1 + 5), .int a1] (I, J, Rr, D) rr ((va_up (va_up (va_up I 5 (va_up (va_up oI5 11 y_v_isMatched) 12 y_v_changes)) 8 y_v_sizes) 9 y_v_fits), J, Rr, D) := by
  subst eoI5
  refine zMi.of (by decide) (Nat.le_of_ble_eq_true rfl) (fun C E hl hX hQ => ?_)
  subst hl
  subst hX
  have eI0 : (va_up (va_up (va_up I 5 (va_up (va_up (I 5) 11 v_isMatched) 12 v_changes)) 8 v_sizes) 9 v_fits) = I := by rw [zup_idE e_v_isMatched, zup_idE e_v_changes, zup_id, zup_idE e_v_sizes, zup_idE e_v_fits]
  have eJ0 : J = J := rfl
  refine zb_S (S2 := ((va_up (va_up (va_up I 5 (va_up (va_up (I 5) 11 v_isMatched) 12 v_changes)) 8 v_sizes) 9 v_fits), J, Rr, D)) (zS_eq eI0.symm eJ0.symm) ?_
  exact c_X2_clear_0 N a1 rr y_v_changes y_v_isMatched y_v_fits y_v_sizes E hQ v_changes v_isMatched v_fits v_sizes h
-- ChequeredCloth$Chest.worthOf
theorem dX2_worthOf_0 : decode cX2_worthOf 0 = .ok (.aload_n 0, 1) := by decide +kernel
theorem dX2_worthOf_1 : decode cX2_worthOf 1 = .ok (.iload_n 1, 1) := by decide +kernel
theorem dX2_worthOf_2 : decode cX2_worthOf 2 = .ok (.invokevirtual 67, 3) := by decide +kernel
theorem dX2_worthOf_5 : decode cX2_worthOf 5 = .ok (.ifCond .ne 5, 3) := by decide +kernel
theorem dX2_worthOf_8 : decode cX2_worthOf 8 = .ok (.iconst (-1), 1) := by decide +kernel
theorem dX2_worthOf_9 : decode cX2_worthOf 9 = .ok (.ireturn, 1) := by decide +kernel
theorem dX2_worthOf_10 : decode cX2_worthOf 10 = .ok (.iconst 0, 1) := by decide +kernel
theorem dX2_worthOf_11 : decode cX2_worthOf 11 = .ok (.istore_n 2, 1) := by decide +kernel
theorem dX2_worthOf_12 : decode cX2_worthOf 12 = .ok (.iconst 0, 1) := by decide +kernel
theorem dX2_worthOf_13 : decode cX2_worthOf 13 = .ok (.istore_n 3, 1) := by decide +kernel
theorem dX2_worthOf_14 : decode cX2_worthOf 14 = .ok (.iload_n 3, 1) := by decide +kernel
theorem dX2_worthOf_15 : decode cX2_worthOf 15 = .ok (.aload_n 0, 1) := by decide +kernel
theorem dX2_worthOf_16 : decode cX2_worthOf 16 = .ok (.getfield 18, 3) := by decide +kernel
theorem dX2_worthOf_19 : decode cX2_worthOf 19 = .ok (.iload_n 1, 1) := by decide +kernel
theorem dX2_worthOf_20 : decode cX2_worthOf 20 = .ok (.iaload, 1) := by decide +kernel
theorem dX2_worthOf_21 : decode cX2_worthOf 21 = .ok (.if_icmp .ge 27, 3) := by decide +kernel
theorem dX2_worthOf_24 : decode cX2_worthOf 24 = .ok (.iload_n 2, 1) := by decide +kernel
theorem dX2_worthOf_25 : decode cX2_worthOf 25 = .ok (.getstatic 60, 3) := by decide +kernel
theorem dX2_worthOf_28 : decode cX2_worthOf 28 = .ok (.aload_n 0, 1) := by decide +kernel
theorem dX2_worthOf_29 : decode cX2_worthOf 29 = .ok (.getfield 15, 3) := by decide +kernel
theorem dX2_worthOf_32 : decode cX2_worthOf 32 = .ok (.iload_n 1, 1) := by decide +kernel
theorem dX2_worthOf_33 : decode cX2_worthOf 33 = .ok (.bipush 12, 2) := by decide +kernel
theorem dX2_worthOf_35 : decode cX2_worthOf 35 = .ok (.imul, 1) := by decide +kernel
theorem dX2_worthOf_36 : decode cX2_worthOf 36 = .ok (.iload_n 3, 1) := by decide +kernel
theorem dX2_worthOf_37 : decode cX2_worthOf 37 = .ok (.iadd, 1) := by decide +kernel
theorem dX2_worthOf_38 : decode cX2_worthOf 38 = .ok (.iaload, 1) := by decide +kernel
theorem dX2_worthOf_39 : decode cX2_worthOf 39 = .ok (.iaload, 1) := by decide +kernel
theorem dX2_worthOf_40 : decode cX2_worthOf 40 = .ok (.iadd, 1) := by decide +kernel
theorem dX2_worthOf_41 : decode cX2_worthOf 41 = .ok (.istore_n 2, 1) := by decide +kernel
theorem dX2_worthOf_42 : decode cX2_worthOf 42 = .ok (.iinc 3 1, 3) := by decide +kernel
theorem dX2_worthOf_45 : decode cX2_worthOf 45 = .ok (.goto (-31), 3) := by decide +kernel
theorem dX2_worthOf_48 : decode cX2_worthOf 48 = .ok (.iload_n 2, 1) := by decide +kernel
theorem dX2_worthOf_49 : decode cX2_worthOf 49 = .ok (.ireturn, 1) := by decide +kernel
theorem zy_X2_worthOf : zYv yX2_worthOf cX2_worthOf 4 (some .int) 1 := ⟨zw_523, zw_524, zw_3, zw_525, by decide, by decide, by decide⟩
theorem c_X2_worthOf_b14 {C : zC} {I : Nat → Nat → Int32} {J : Nat → Nat → Int64} {Rr : Nat → Nat → Option Nat} {D : zD} (N : Nat) (a1 : Int32) (v_sizes : (Nat → Int32)) (e_v_sizes : I 8 = v_sizes) (v_worths : (Nat → Int32)) (e_v_worths : I 7 = v_worths) (rr : Int32) (E : zE C RX2 cX2_worthOf 4 (some .int) ({ frames := 2, cells := 0, slots := 0, locals := 41 } : Room)) (hQ : C.Q = zQi C ({ frames := 2, cells := 0, slots := 0, locals := 41 } : Room) rr (I, J, Rr, D))  : ∀ (n9 : Nat) (x2 : Int32) (x3 : Int32), pChest_worthOf_b14 N a1 v_sizes v_worths n9 x2 x3 = some rr → zB C (0, 0) 14 [(0, .ref (C.X.1 + 5)), (1, .int a1), (2, .int x2), (3, .int x3)] [] (I, J, Rr, D) := by
  refine zlp2_ind (P := fun (x2 : Int32) (x3 : Int32) => zB C (0, 0) 14 [(0, .ref (C.X.1 + 5)), (1, .int a1), (2, .int x2), (3, .int x3)] [] (I, J, Rr, D)) (fun self ih => ?_)
  intro x2 x3 h
  refine zb_iload_n E dX2_worthOf_14 3 rfl rfl ?_
  refine zb_aload_n E dX2_worthOf_15 0 rfl rfl ?_
  refine zb_get E 5 (by decide) (zF_5 C.X) rfl zin2 2 (by decide) zw_92 (v := .ref (C.X.1 + 8)) rfl dX2_worthOf_16 ?_
  refine zb_iload_n E dX2_worthOf_19 1 rfl rfl ?_
  obtain ⟨g2, h⟩ := gd_s h
  refine zb_iald E 8 (by decide) zF_8 (f := v_sizes) (by exact e_v_sizes) (ib_in g2) dX2_worthOf_20 ?_
  refine zb_icmp_ge E dX2_worthOf_21 (tgt := 48) rfl (fun hc => ?_) (fun hc => ?_)
  · have h := if_t h hc
    refine zb_iload_n E dX2_worthOf_48 2 rfl rfl ?_
    obtain rfl := zinj1 h
    exact zb_iret E hQ rfl ⟨Nat.zero_le _, Nat.zero_le _⟩ dX2_worthOf_49
  · have h := if_f h hc
    refine zb_iload_n E dX2_worthOf_24 2 rfl rfl ?_
    refine zb_gets2 E zw_500 dX2_worthOf_25 ?_
    refine zb_aload_n E dX2_worthOf_28 0 rfl rfl ?_
    refine zb_get E 5 (by decide) (zF_5 C.X) rfl zin2 1 (by decide) zw_91 (v := .ref (C.X.1 + 7)) rfl dX2_worthOf_29 ?_
    refine zb_iload_n E dX2_worthOf_32 1 rfl rfl ?_
    refine zb_bipush E dX2_worthOf_33 (v := 12) rfl ?_
    refine zb_imul E dX2_worthOf_35 ?_
    refine zb_iload_n E dX2_worthOf_36 3 rfl rfl ?_
    refine zb_iadd E dX2_worthOf_37 ?_
    obtain ⟨g3, h⟩ := gd_s h
    refine zb_iald E 7 (by decide) zF_7 (f := v_worths) (by exact e_v_worths) (ib_in g3) dX2_worthOf_38 ?_
    obtain ⟨g4, h⟩ := gd_s h
    refine zb_tald2 E (ib_in g4) dX2_worthOf_39 ?_
    refine zb_iadd E dX2_worthOf_40 ?_
    refine zb_istore_n E dX2_worthOf_41 rfl (by decide) (lv2 := [(2, .int (x2 + (zc2.getD (ix (v_worths (ix ((a1 * 12) + x3)))) 0))), (0, .ref (C.X.1 + 5)), (1, .int a1), (3, .int x3)]) rfl ?_
    refine zb_iinc E dX2_worthOf_42 3 rfl (v := (x3 + 1)) rfl (by decide) (lv2 := [(3, .int (x3 + 1)), (2, .int (x2 + (zc2.getD (ix (v_worths (ix ((a1 * 12) + x3)))) 0))), (0, .ref (C.X.1 + 5)), (1, .int a1)]) rfl ?_
    refine zb_goto E dX2_worthOf_45 (tgt := 14) rfl ?_
    refine zb_sub [2, 3, 1, 0] rfl ?_
    exact ih (x2 + (zc2.getD (ix (v_worths (ix ((a1 * 12) + x3)))) 0)) (x3 + 1) h
theorem c_X2_worthOf_0 {C : zC} {I : Nat → Nat → Int32} {J : Nat → Nat → Int64} {Rr : Nat → Nat → Option Nat} {D : zD} (N : Nat) (a1 : Int32) (v_sizes : (Nat → Int32)) (e_v_sizes : I 8 = v_sizes) (v_worths : (Nat → Int32)) (e_v_worths : I 7 = v_worths) (rr : Int32) (E : zE C RX2 cX2_worthOf 4 (some .int) ({ frames := 2, cells := 0, slots := 0, locals := 41 } : Room)) (hQ : C.Q = zQi C ({ frames := 2, cells := 0, slots := 0, locals := 41 } : Room) rr (I, J, Rr, D)) (h : pChest_worthOf N a1 v_sizes v_worths = some rr) : zB C (0, 0) 0 [(0, .ref (C.X.1 + 5)), (1, .int a1)] [] (I, J, Rr, D) := by
  refine zb_aload_n E dX2_worthOf_0 0 rfl rfl ?_
  refine zb_iload_n E dX2_worthOf_1 1 rfl rfl ?_
  obtain ⟨rc1, hc_2, h⟩ := bd1_s h
  refine zb_cVi E [.int a1] 5 zy_X2_isThere zw_514 (by decide) (zF_5 _ _ _ _) rfl (c_X2_isThere v_sizes (by exact e_v_sizes) hc_2) (by decide) rfl rfl (by first | decide | simp [Value.category]) dX2_worthOf_2 (cs2 := (0, 0)) rfl ?_
  refine zb_if_ne E dX2_worthOf_5 (tgt := 10) rfl (fun hc => ?_) (fun hc => ?_)
  · have h := if_f h hc
    refine zb_iconst E dX2_worthOf_10 (v := 0) rfl ?_
    refine zb_istore_n E dX2_worthOf_11 rfl (by decide) (lv2 := [(2, .int 0), (0, .ref (C.X.1 + 5)), (1, .int a1)]) rfl ?_
    refine zb_iconst E dX2_worthOf_12 (v := 0) rfl ?_
    refine zb_istore_n E dX2_worthOf_13 rfl (by decide) (lv2 := [(3, .int 0), (2, .int 0), (0, .ref (C.X.1 + 5)), (1, .int a1)]) rfl ?_
    refine zb_sub [2, 3, 1, 0] rfl ?_
    exact c_X2_worthOf_b14 N a1 v_sizes e_v_sizes v_worths e_v_worths rr E hQ _ 0 0 h
  · have h := if_t h hc
    refine zb_iconst E dX2_worthOf_8 (v := (-1)) rfl ?_
    obtain rfl := zinj1 h
    exact zb_iret E hQ rfl ⟨Nat.zero_le _, Nat.zero_le _⟩ dX2_worthOf_9
theorem c_X2_worthOf {l : Launch} {X : zX} {I : Nat → Nat → Int32} {J : Nat → Nat → Int64} {Rr : Nat → Nat → Option Nat} {D : zD} {N : Nat} {a1 : Int32} (v_sizes : (Nat → Int32)) (e_v_sizes : I 8 = v_sizes) (v_worths : (Nat → Int32)) (e_v_worths : I 7 = v_worths) {rr : Int32} (h : pChest_worthOf N a1 v_sizes v_worths = some rr) : zMi l yX2_worthOf cX2_worthOf 4 (some .int) ({ frames := 2, cells := 0, slots := 0, locals := 41 } : Room) X [.ref (X.1 + 5), .int a1] (I, J, Rr, D) rr (I, J, Rr, D) := by
  refine zMi.of (by decide) (Nat.le_of_ble_eq_true rfl) (fun C E hl hX hQ => ?_)
  subst hl
  subst hX
  have eI0 : I = I := rfl
  have eJ0 : J = J := rfl
  refine zb_S (S2 := (I, J, Rr, D)) (zS_eq eI0.symm eJ0.symm) ?_
  exact c_X2_worthOf_0 N a1 v_sizes e_v_sizes v_worths e_v_worths rr E hQ h
-- ChequeredCloth$Chest.setWear
theorem dX2_setWear_0 : decode cX2_setWear 0 = .ok (.iload_n 1, 1) := by decide +kernel
theorem dX2_setWear_1 : decode cX2_setWear 1 = .ok (.ifCond .lt 31, 3) := by decide +kernel
theorem dX2_setWear_4 : decode cX2_setWear 4 = .ok (.iload_n 1, 1) := by decide +kernel
theorem dX2_setWear_5 : decode cX2_setWear 5 = .ok (.bipush 20, 2) := by decide +kernel
theorem dX2_setWear_7 : decode cX2_setWear 7 = .ok (.if_icmp .gt 25, 3) := by decide +kernel
theorem dX2_setWear_10 : decode cX2_setWear 10 = .ok (.iload_n 2, 1) := by decide +kernel
theorem dX2_setWear_11 : decode cX2_setWear 11 = .ok (.iconst 1, 1) := by decide +kernel
theorem dX2_setWear_12 : decode cX2_setWear 12 = .ok (.if_icmp .lt 20, 3) := by decide +kernel
theorem dX2_setWear_15 : decode cX2_setWear 15 = .ok (.iload_n 2, 1) := by decide +kernel
theorem dX2_setWear_16 : decode cX2_setWear 16 = .ok (.bipush 100, 2) := by decide +kernel
theorem dX2_setWear_18 : decode cX2_setWear 18 = .ok (.if_icmp .gt 14, 3) := by decide +kernel
theorem dX2_setWear_21 : decode cX2_setWear 21 = .ok (.iload_n 3, 1) := by decide +kernel
theorem dX2_setWear_22 : decode cX2_setWear 22 = .ok (.ifCond .lt 10, 3) := by decide +kernel
theorem dX2_setWear_25 : decode cX2_setWear 25 = .ok (.iload_n 3, 1) := by decide +kernel
theorem dX2_setWear_26 : decode cX2_setWear 26 = .ok (.sipush 500, 3) := by decide +kernel
theorem dX2_setWear_29 : decode cX2_setWear 29 = .ok (.if_icmp .le 5, 3) := by decide +kernel
theorem dX2_setWear_32 : decode cX2_setWear 32 = .ok (.iconst 0, 1) := by decide +kernel
theorem dX2_setWear_33 : decode cX2_setWear 33 = .ok (.ireturn, 1) := by decide +kernel
theorem dX2_setWear_34 : decode cX2_setWear 34 = .ok (.iload_n 1, 1) := by decide +kernel
theorem dX2_setWear_35 : decode cX2_setWear 35 = .ok (.aload_n 0, 1) := by decide +kernel
theorem dX2_setWear_36 : decode cX2_setWear 36 = .ok (.getfield 40, 3) := by decide +kernel
theorem dX2_setWear_39 : decode cX2_setWear 39 = .ok (.if_icmp .ne 11, 3) := by decide +kernel
theorem dX2_setWear_42 : decode cX2_setWear 42 = .ok (.iload_n 2, 1) := by decide +kernel
theorem dX2_setWear_43 : decode cX2_setWear 43 = .ok (.aload_n 0, 1) := by decide +kernel
theorem dX2_setWear_44 : decode cX2_setWear 44 = .ok (.getfield 44, 3) := by decide +kernel
theorem dX2_setWear_47 : decode cX2_setWear 47 = .ok (.if_icmp .eq 12, 3) := by decide +kernel
theorem dX2_setWear_50 : decode cX2_setWear 50 = .ok (.aload_n 0, 1) := by decide +kernel
theorem dX2_setWear_51 : decode cX2_setWear 51 = .ok (.getfield 21, 3) := by decide +kernel
theorem dX2_setWear_54 : decode cX2_setWear 54 = .ok (.bipush (-2), 2) := by decide +kernel
theorem dX2_setWear_56 : decode cX2_setWear 56 = .ok (.invokestatic 50, 3) := by decide +kernel
theorem dX2_setWear_59 : decode cX2_setWear 59 = .ok (.aload_n 0, 1) := by decide +kernel
theorem dX2_setWear_60 : decode cX2_setWear 60 = .ok (.iload_n 1, 1) := by decide +kernel
theorem dX2_setWear_61 : decode cX2_setWear 61 = .ok (.putfield 40, 3) := by decide +kernel
theorem dX2_setWear_64 : decode cX2_setWear 64 = .ok (.aload_n 0, 1) := by decide +kernel
theorem dX2_setWear_65 : decode cX2_setWear 65 = .ok (.iload_n 2, 1) := by decide +kernel
theorem dX2_setWear_66 : decode cX2_setWear 66 = .ok (.putfield 44, 3) := by decide +kernel
theorem dX2_setWear_69 : decode cX2_setWear 69 = .ok (.aload_n 0, 1) := by decide +kernel
theorem dX2_setWear_70 : decode cX2_setWear 70 = .ok (.iload_n 3, 1) := by decide +kernel
theorem dX2_setWear_71 : decode cX2_setWear 71 = .ok (.putfield 47, 3) := by decide +kernel
theorem dX2_setWear_74 : decode cX2_setWear 74 = .ok (.aload_n 0, 1) := by decide +kernel
theorem dX2_setWear_75 : decode cX2_setWear 75 = .ok (.iconst 0, 1) := by decide +kernel
theorem dX2_setWear_76 : decode cX2_setWear 76 = .ok (.putfield 70, 3) := by decide +kernel
theorem dX2_setWear_79 : decode cX2_setWear 79 = .ok (.aload_n 0, 1) := by decide +kernel
theorem dX2_setWear_80 : decode cX2_setWear 80 = .ok (.dup, 1) := by decide +kernel
theorem dX2_setWear_81 : decode cX2_setWear 81 = .ok (.getfield 74, 3) := by decide +kernel
theorem dX2_setWear_84 : decode cX2_setWear 84 = .ok (.iconst 1, 1) := by decide +kernel
theorem dX2_setWear_85 : decode cX2_setWear 85 = .ok (.iadd, 1) := by decide +kernel
theorem dX2_setWear_86 : decode cX2_setWear 86 = .ok (.putfield 74, 3) := by decide +kernel
theorem dX2_setWear_89 : decode cX2_setWear 89 = .ok (.iconst 1, 1) := by decide +kernel
theorem dX2_setWear_90 : decode cX2_setWear 90 = .ok (.ireturn, 1) := by decide +kernel
theorem zy_X2_setWear : zYv yX2_setWear cX2_setWear 4 (some .boolean) 3 := ⟨zw_531, zw_532, zw_3, zw_533, by decide, by decide, by decide⟩
theorem c_X2_setWear_b59 {C : zC} {I : Nat → Nat → Int32} {J : Nat → Nat → Int64} {Rr : Nat → Nat → Option Nat} {D : zD} (a1 : Int32) (a2 : Int32) (a3 : Int32) (rr : Int32) (y_v_changes : Int32) (y_v_grain : Int32) (y_v_isMatched : Int32) (y_v_limit : Int32) (y_v_lost : Int32) (y_v_fits : (Nat → Int32)) (E : zE C RX2 cX2_setWear 4 (some .boolean) ({ frames := 1, cells := 0, slots := 0, locals := 24 } : Room)) (hQ : C.Q = zQi C ({ frames := 1, cells := 0, slots := 0, locals := 24 } : Room) rr ((va_up (va_up I 5 (va_up (va_up (va_up (va_up (va_up (I 5) 8 y_v_grain) 9 y_v_lost) 10 y_v_limit) 11 y_v_isMatched) 12 y_v_changes)) 9 y_v_fits), J, Rr, D)) (v_changes : Int32) (v_grain : Int32) (v_isMatched : Int32) (v_limit : Int32) (v_lost : Int32) (v_fits : (Nat → Int32)) (h : pChest_setWear_b59 a1 a2 a3 v_changes v_grain v_isMatched v_limit v_lost v_fits = some (rr, y_v_changes, y_v_grain, y_v_isMatched, y_v_limit, y_v_lost, y_v_fits)) : zB C (0, 0) 59 [(0, .ref (C.X.1 + 5)), (1, .int a1), (2, .int a2), (3, .int a3)] [] ((va_up (va_up I 5 (va_up (va_up (va_up (va_up (va_up (I 5) 8 v_grain) 9 v_lost) 10 v_limit) 11 v_isMatched) 12 v_changes)) 9 v_fits), J, Rr, D) := by
  refine zb_aload_n E dX2_setWear_59 0 rfl rfl ?_
  refine zb_iload_n E dX2_setWear_60 1 rfl rfl ?_
  refine zb_put E 5 (by decide) (zF_5 C.X) rfl zin2 8 (by decide) zw_98 tyX2 tyX2_ok nmX2 rfl rfl rfl (I2 := (va_up (va_up I 5 (va_up (va_up (va_up (va_up (va_up (I 5) 8 a1) 9 v_lost) 10 v_limit) 11 v_isMatched) 12 v_changes)) 9 v_fits)) (J2 := J) ((zset2_8 C.X (va_up (va_up (va_up (va_up (va_up (I 5) 8 v_grain) 9 v_lost) 10 v_limit) 11 v_isMatched) 12 v_changes) (J 5) a1).trans (congrArg (fun g => zf2 C.X g (J 5)) (zn5 (by decide : (12 : Nat) ≠ 8) (by decide : (11 : Nat) ≠ 8) (by decide : (10 : Nat) ≠ 8) (by decide : (9 : Nat) ≠ 8)))) (by rw [zflen2]; decide) (fun j hj => ⟨zup_cg ((zup_n hj).trans (zup_n hj).symm), rfl⟩) dX2_setWear_61 ?_
  refine zb_aload_n E dX2_setWear_64 0 rfl rfl ?_
  refine zb_iload_n E dX2_setWear_65 2 rfl rfl ?_
  refine zb_put E 5 (by decide) (zF_5 C.X) rfl zin2 9 (by decide) zw_99 tyX2 tyX2_ok nmX2 rfl rfl rfl (I2 := (va_up (va_up I 5 (va_up (va_up (va_up (va_up (va_up (I 5) 8 a1) 9 a2) 10 v_limit) 11 v_isMatched) 12 v_changes)) 9 v_fits)) (J2 := J) ((zset2_9 C.X (va_up (va_up (va_up (va_up (va_up (I 5) 8 a1) 9 v_lost) 10 v_limit) 11 v_isMatched) 12 v_changes) (J 5) a2).trans (congrArg (fun g => zf2 C.X g (J 5)) (zn4 (by decide : (12 : Nat) ≠ 9) (by decide : (11 : Nat) ≠ 9) (by decide : (10 : Nat) ≠ 9)))) (by rw [zflen2]; decide) (fun j hj => ⟨zup_cg ((zup_n hj).trans (zup_n hj).symm), rfl⟩) dX2_setWear_66 ?_
  refine zb_aload_n E dX2_setWear_69 0 rfl rfl ?_
  refine zb_iload_n E dX2_setWear_70 3 rfl rfl ?_
  refine zb_put E 5 (by decide) (zF_5 C.X) rfl zin2 10 (by decide) zw_100 tyX2 tyX2_ok nmX2 rfl rfl rfl (I2 := (va_up (va_up I 5 (va_up (va_up (va_up (va_up (va_up (I 5) 8 a1) 9 a2) 10 a3) 11 v_isMatched) 12 v_changes)) 9 v_fits)) (J2 := J) ((zset2_10 C.X (va_up (va_up (va_up (va_up (va_up (I 5) 8 a1) 9 a2) 10 v_limit) 11 v_isMatched) 12 v_changes) (J 5) a3).trans (congrArg (fun g => zf2 C.X g (J 5)) (zn3 (by decide : (12 : Nat) ≠ 10) (by decide : (11 : Nat) ≠ 10)))) (by rw [zflen2]; decide) (fun j hj => ⟨zup_cg ((zup_n hj).trans (zup_n hj).symm), rfl⟩) dX2_setWear_71 ?_
  refine zb_aload_n E dX2_setWear_74 0 rfl rfl ?_
  refine zb_iconst E dX2_setWear_75 (v := 0) rfl ?_
  refine zb_put E 5 (by decide) (zF_5 C.X) rfl zin2 11 (by decide) zw_101 tyX2 tyX2_ok nmX2 rfl rfl rfl (I2 := (va_up (va_up I 5 (va_up (va_up (va_up (va_up (va_up (I 5) 8 a1) 9 a2) 10 a3) 11 0) 12 v_changes)) 9 v_fits)) (J2 := J) ((zset2_11 C.X (va_up (va_up (va_up (va_up (va_up (I 5) 8 a1) 9 a2) 10 a3) 11 v_isMatched) 12 v_changes) (J 5) 0).trans (congrArg (fun g => zf2 C.X g (J 5)) (zn2 (by decide : (12 : Nat) ≠ 11)))) (by rw [zflen2]; decide) (fun j hj => ⟨zup_cg ((zup_n hj).trans (zup_n hj).symm), rfl⟩) dX2_setWear_76 ?_
  refine zb_aload_n E dX2_setWear_79 0 rfl rfl ?_
  refine zb_dup E dX2_setWear_80 rfl ?_
  refine zb_get E 5 (by decide) (zF_5 C.X) rfl zin2 12 (by decide) zw_102 (v := .int v_changes) rfl dX2_setWear_81 ?_
  refine zb_iconst E dX2_setWear_84 (v := 1) rfl ?_
  refine zb_iadd E dX2_setWear_85 ?_
  refine zb_put E 5 (by decide) (zF_5 C.X) rfl zin2 12 (by decide) zw_102 tyX2 tyX2_ok nmX2 rfl rfl rfl (I2 := (va_up (va_up I 5 (va_up (va_up (va_up (va_up (va_up (I 5) 8 a1) 9 a2) 10 a3) 11 0) 12 (v_changes + 1))) 9 v_fits)) (J2 := J) ((zset2_12 C.X (va_up (va_up (va_up (va_up (va_up (I 5) 8 a1) 9 a2) 10 a3) 11 0) 12 v_changes) (J 5) (v_changes + 1)).trans (congrArg (fun g => zf2 C.X g (J 5)) zn1)) (by rw [zflen2]; decide) (fun j hj => ⟨zup_cg ((zup_n hj).trans (zup_n hj).symm), rfl⟩) dX2_setWear_86 ?_
  refine zb_iconst E dX2_setWear_89 (v := 1) rfl ?_
  obtain ⟨rfl, rfl, rfl, rfl, rfl, rfl, rfl⟩ := zinj7 h
  exact zb_zret E hQ (ty := .boolean) rfl rfl ⟨Nat.zero_le _, Nat.zero_le _⟩ dX2_setWear_90
theorem c_X2_setWear_b50 {C : zC} {I : Nat → Nat → Int32} {J : Nat → Nat → Int64} {Rr : Nat → Nat → Option Nat} {D : zD} (a1 : Int32) (a2 : Int32) (a3 : Int32) (rr : Int32) (y_v_changes : Int32) (y_v_grain : Int32) (y_v_isMatched : Int32) (y_v_limit : Int32) (y_v_lost : Int32) (y_v_fits : (Nat → Int32)) (E : zE C RX2 cX2_setWear 4 (some .boolean) ({ frames := 1, cells := 0, slots := 0, locals := 24 } : Room)) (hQ : C.Q = zQi C ({ frames := 1, cells := 0, slots := 0, locals := 24 } : Room) rr ((va_up (va_up I 5 (va_up (va_up (va_up (va_up (va_up (I 5) 8 y_v_grain) 9 y_v_lost) 10 y_v_limit) 11 y_v_isMatched) 12 y_v_changes)) 9 y_v_fits), J, Rr, D)) (v_changes : Int32) (v_grain : Int32) (v_isMatched : Int32) (v_limit : Int32) (v_lost : Int32) (v_fits : (Nat → Int32)) (h : pChest_setWear_b50 a1 a2 a3 v_changes v_grain v_isMatched v_limit v_lost v_fits = some (rr, y_v_changes, y_v_grain, y_v_isMatched, y_v_limit, y_v_lost, y_v_fits)) : zB C (0, 0) 50 [(0, .ref (C.X.1 + 5)), (1, .int a1), (2, .int a2), (3, .int a3)] [] ((va_up (va_up I 5 (va_up (va_up (va_up (va_up (va_up (I 5) 8 v_grain) 9 v_lost) 10 v_limit) 11 v_isMatched) 12 v_changes)) 9 v_fits), J, Rr, D) := by
  refine zb_aload_n E dX2_setWear_50 0 rfl rfl ?_
  refine zb_get E 5 (by decide) (zF_5 C.X) rfl zin2 3 (by decide) zw_93 (v := .ref (C.X.1 + 9)) rfl dX2_setWear_51 ?_
  refine zb_bipush E dX2_setWear_54 (v := (-2)) rfl ?_
  refine zb_cSv E [.ref (C.X.1 + 9), .int (-2)] zy_J7_fill_53178 zw_87 (c_J7_fill_53178 9 (by decide) zF_9 (by decide)) (by decide) rfl rfl (by first | decide | simp [Value.category]) dX2_setWear_56 (cs2 := (0, 0)) rfl ?_
  refine zb_S (S2 := ((va_up (va_up I 5 (va_up (va_up (va_up (va_up (va_up (I 5) 8 v_grain) 9 v_lost) 10 v_limit) 11 v_isMatched) 12 v_changes)) 9 (fun _ => (-2))), J, Rr, D)) (zS_eq zn1 rfl) ?_
  exact c_X2_setWear_b59 a1 a2 a3 rr y_v_changes y_v_grain y_v_isMatched y_v_limit y_v_lost y_v_fits E hQ v_changes v_grain v_isMatched v_limit v_lost (fun _ => (-2)) h
theorem c_X2_setWear_0 {C : zC} {I : Nat → Nat → Int32} {J : Nat → Nat → Int64} {Rr : Nat → Nat → Option Nat} {D : zD} (a1 : Int32) (a2 : Int32) (a3 : Int32) (rr : Int32) (y_v_changes : Int32) (y_v_grain : Int32) (y_v_isMatched : Int32) (y_v_limit : Int32) (y_v_lost : Int32) (y_v_fits : (Nat → Int32)) (E : zE C RX2 cX2_setWear 4 (some .boolean) ({ frames := 1, cells := 0, slots := 0, locals := 24 } : Room)) (hQ : C.Q = zQi C ({ frames := 1, cells := 0, slots := 0, locals := 24 } : Room) rr ((va_up (va_up I 5 (va_up (va_up (va_up (va_up (va_up (I 5) 8 y_v_grain) 9 y_v_lost) 10 y_v_limit) 11 y_v_isMatched) 12 y_v_changes)) 9 y_v_fits), J, Rr, D)) (v_changes : Int32) (v_grain : Int32) (v_isMatched : Int32) (v_limit : Int32) (v_lost : Int32) (v_fits : (Nat → Int32)) (h : pChest_setWear a1 a2 a3 v_changes v_grain v_isMatched v_limit v_lost v_fits = some (rr, y_v_changes, y_v_grain, y_v_isMatched, y_v_limit, y_v_lost, y_v_fits)) : zB C (0, 0) 0 [(0, .ref (C.X.1 + 5)), (1, .int a1), (2, .int a2), (3, .int a3)] [] ((va_up (va_up I 5 (va_up (va_up (va_up (va_up (va_up (I 5) 8 v_grain) 9 v_lost) 10 v_limit) 11 v_isMatched) 12 v_changes)) 9 v_fits), J, Rr, D) := by
  refine zb_iload_n E dX2_setWear_0 1 rfl rfl ?_
  refine zb_if_lt E dX2_setWear_1 (tgt := 32) rfl (fun hc => ?_) (fun hc => ?_)
  · have h := if_t h hc
    refine zb_iconst E dX2_setWear_32 (v := 0) rfl ?_
    obtain ⟨rfl, rfl, rfl, rfl, rfl, rfl, rfl⟩ := zinj7 h
    exact zb_zret E hQ (ty := .boolean) rfl rfl ⟨Nat.zero_le _, Nat.zero_le _⟩ dX2_setWear_33
  · have h := if_f h hc
    refine zb_iload_n E dX2_setWear_4 1 rfl rfl ?_
    refine zb_bipush E dX2_setWear_5 (v := 20) rfl ?_
    refine zb_icmp_gt E dX2_setWear_7 (tgt := 32) rfl (fun hc => ?_) (fun hc => ?_)
    · have h := if_t h hc
      refine zb_iconst E dX2_setWear_32 (v := 0) rfl ?_
      obtain ⟨rfl, rfl, rfl, rfl, rfl, rfl, rfl⟩ := zinj7 h
      exact zb_zret E hQ (ty := .boolean) rfl rfl ⟨Nat.zero_le _, Nat.zero_le _⟩ dX2_setWear_33
    · have h := if_f h hc
      refine zb_iload_n E dX2_setWear_10 2 rfl rfl ?_
      refine zb_iconst E dX2_setWear_11 (v := 1) rfl ?_
      refine zb_icmp_lt E dX2_setWear_12 (tgt := 32) rfl (fun hc => ?_) (fun hc => ?_)
      · have h := if_t h hc
        refine zb_iconst E dX2_setWear_32 (v := 0) rfl ?_
        obtain ⟨rfl, rfl, rfl, rfl, rfl, rfl, rfl⟩ := zinj7 h
        exact zb_zret E hQ (ty := .boolean) rfl rfl ⟨Nat.zero_le _, Nat.zero_le _⟩ dX2_setWear_33
      · have h := if_f h hc
        refine zb_iload_n E dX2_setWear_15 2 rfl rfl ?_
        refine zb_bipush E dX2_setWear_16 (v := 100) rfl ?_
        refine zb_icmp_gt E dX2_setWear_18 (tgt := 32) rfl (fun hc => ?_) (fun hc => ?_)
        · have h := if_t h hc
          refine zb_iconst E dX2_setWear_32 (v := 0) rfl ?_
          obtain ⟨rfl, rfl, rfl, rfl, rfl, rfl, rfl⟩ := zinj7 h
          exact zb_zret E hQ (ty := .boolean) rfl rfl ⟨Nat.zero_le _, Nat.zero_le _⟩ dX2_setWear_33
        · have h := if_f h hc
          refine zb_iload_n E dX2_setWear_21 3 rfl rfl ?_
          refine zb_if_lt E dX2_setWear_22 (tgt := 32) rfl (fun hc => ?_) (fun hc => ?_)
          · have h := if_t h hc
            refine zb_iconst E dX2_setWear_32 (v := 0) rfl ?_
            obtain ⟨rfl, rfl, rfl, rfl, rfl, rfl, rfl⟩ := zinj7 h
            exact zb_zret E hQ (ty := .boolean) rfl rfl ⟨Nat.zero_le _, Nat.zero_le _⟩ dX2_setWear_33
          · have h := if_f h hc
            refine zb_iload_n E dX2_setWear_25 3 rfl rfl ?_
            refine zb_sipush E dX2_setWear_26 (v := 500) rfl ?_
            refine zb_icmp_le E dX2_setWear_29 (tgt := 34) rfl (fun hc => ?_) (fun hc => ?_)
            · have h := if_t h hc
              refine zb_iload_n E dX2_setWear_34 1 rfl rfl ?_
              refine zb_aload_n E dX2_setWear_35 0 rfl rfl ?_
              refine zb_get E 5 (by decide) (zF_5 C.X) rfl zin2 8 (by decide) zw_98 (v := .int v_grain) rfl dX2_setWear_36 ?_
              refine zb_icmp_ne E dX2_setWear_39 (tgt := 50) rfl (fun hc => ?_) (fun hc => ?_)
              · have h := if_f h hc
                exact c_X2_setWear_b50 a1 a2 a3 rr y_v_changes y_v_grain y_v_isMatched y_v_limit y_v_lost y_v_fits E hQ v_changes v_grain v_isMatched v_limit v_lost v_fits h
              · have h := if_t h hc
                refine zb_iload_n E dX2_setWear_42 2 rfl rfl ?_
                refine zb_aload_n E dX2_setWear_43 0 rfl rfl ?_
                refine zb_get E 5 (by decide) (zF_5 C.X) rfl zin2 9 (by decide) zw_99 (v := .int v_lost) rfl dX2_setWear_44 ?_
                refine zb_icmp_eq E dX2_setWear_47 (tgt := 59) rfl (fun hc => ?_) (fun hc => ?_)
                · have h := if_t h hc
                  exact c_X2_setWear_b59 a1 a2 a3 rr y_v_changes y_v_grain y_v_isMatched y_v_limit y_v_lost y_v_fits E hQ v_changes v_grain v_isMatched v_limit v_lost v_fits h
                · have h := if_f h hc
                  exact c_X2_setWear_b50 a1 a2 a3 rr y_v_changes y_v_grain y_v_isMatched y_v_limit y_v_lost y_v_fits E hQ v_changes v_grain v_isMatched v_limit v_lost v_fits h
            · have h := if_f h hc
              refine zb_iconst E dX2_setWear_32 (v := 0) rfl ?_
              obtain ⟨rfl, rfl, rfl, rfl, rfl, rfl, rfl⟩ := zinj7 h
              exact zb_zret E hQ (ty := .boolean) rfl rfl ⟨Nat.zero_le _, Nat.zero_le _⟩ dX2_setWear_33
theorem c_X2_setWear {l : Launch} {X : zX} {I : Nat → Nat → Int32} {J : Nat → Nat → Int64} {Rr : Nat → Nat → Option Nat} {D : zD} {a1 : Int32} {a2 : Int32} {a3 : Int32} (oI5 : Nat → Int32) (eoI5 : I 5 = oI5) (v_changes : Int32) (e_v_changes : I 5 12 = v_changes) (v_grain : Int32) (e_v_grain : I 5 8 = v_grain) (v_isMatched : Int32) (e_v_isMatched : I 5 11 = v_isMatched) (v_limit : Int32) (e_v_limit : I 5 10 = v_limit) (v_lost : Int32) (e_v_lost : I 5 9 = v_lost) (v_fits : (Nat → Int32)) (e_v_fits : I 9 = v_fits) {rr : Int32} {y_v_changes : Int32} {y_v_grain : Int32} {y_v_isMatched : Int32} {y_v_limit : Int32} {y_v_lost : Int32} {y_v_fits : (Nat → Int32)} (h : pChest_setWear a1 a2 a3 v_changes v_grain v_isMatched v_limit v_lost v_fits = some (rr, y_v_changes, y_v_grain, y_v_isMatched, y_v_limit, y_v_lost, y_v_fits)) : zMi l yX2_setWear cX2_setWear 4 (some .boolean) ({ frames := 1, cells := 0, slots := 0, locals := 24 } : Room) X [.ref (X.1 + 5), .int a1, .int a2, .int a3] (I, J, Rr, D) rr ((va_up (va_up I 5 (va_up (va_up (va_up (va_up (va_up oI5 8 y_v_grain) 9 y_v_lost) 10 y_v_limit) 11 y_v_isMatched) 12 y_v_changes)) 9 y_v_fits), J, Rr, D) := by
  subst eoI5
  refine zMi.of (by decide) (Nat.le_of_ble_eq_true rfl) (fun C E hl hX hQ => ?_)
  subst hl
  subst hX
  have eI0 : (va_up (va_up I 5 (va_up (va_up (va_up (va_up (va_up (I 5) 8 v_grain) 9 v_lost) 10 v_limit) 11 v_isMatched) 12 v_changes)) 9 v_fits) = I := by rw [zup_idE e_v_grain, zup_idE e_v_lost, zup_idE e_v_limit, zup_idE e_v_isMatched, zup_idE e_v_changes, zup_id, zup_idE e_v_fits]
  have eJ0 : J = J := rfl
  refine zb_S (S2 := ((va_up (va_up I 5 (va_up (va_up (va_up (va_up (va_up (I 5) 8 v_grain) 9 v_lost) 10 v_limit) 11 v_isMatched) 12 v_changes)) 9 v_fits), J, Rr, D)) (zS_eq eI0.symm eJ0.symm) ?_
  exact c_X2_setWear_0 a1 a2 a3 rr y_v_changes y_v_grain y_v_isMatched y_v_limit y_v_lost y_v_fits E hQ v_changes v_grain v_isMatched v_limit v_lost v_fits h
-- ChequeredCloth$Chest.pairCost
theorem dX2_pairCost_0 : decode cX2_pairCost 0 = .ok (.aload_n 0, 1) := by decide +kernel
theorem dX2_pairCost_1 : decode cX2_pairCost 1 = .ok (.getfield 11, 3) := by decide +kernel
theorem dX2_pairCost_4 : decode cX2_pairCost 4 = .ok (.iload_n 1, 1) := by decide +kernel
theorem dX2_pairCost_5 : decode cX2_pairCost 5 = .ok (.iaload, 1) := by decide +kernel
theorem dX2_pairCost_6 : decode cX2_pairCost 6 = .ok (.aload_n 0, 1) := by decide +kernel
theorem dX2_pairCost_7 : decode cX2_pairCost 7 = .ok (.getfield 11, 3) := by decide +kernel
theorem dX2_pairCost_10 : decode cX2_pairCost 10 = .ok (.iload_n 2, 1) := by decide +kernel
theorem dX2_pairCost_11 : decode cX2_pairCost 11 = .ok (.iaload, 1) := by decide +kernel
theorem dX2_pairCost_12 : decode cX2_pairCost 12 = .ok (.isub, 1) := by decide +kernel
theorem dX2_pairCost_13 : decode cX2_pairCost 13 = .ok (.invokestatic 108, 3) := by decide +kernel
theorem dX2_pairCost_16 : decode cX2_pairCost 16 = .ok (.istore_n 3, 1) := by decide +kernel
theorem dX2_pairCost_17 : decode cX2_pairCost 17 = .ok (.aload_n 0, 1) := by decide +kernel
theorem dX2_pairCost_18 : decode cX2_pairCost 18 = .ok (.getfield 15, 3) := by decide +kernel
theorem dX2_pairCost_21 : decode cX2_pairCost 21 = .ok (.iload_n 1, 1) := by decide +kernel
theorem dX2_pairCost_22 : decode cX2_pairCost 22 = .ok (.iaload, 1) := by decide +kernel
theorem dX2_pairCost_23 : decode cX2_pairCost 23 = .ok (.aload_n 0, 1) := by decide +kernel
theorem dX2_pairCost_24 : decode cX2_pairCost 24 = .ok (.getfield 15, 3) := by decide +kernel
theorem dX2_pairCost_27 : decode cX2_pairCost 27 = .ok (.iload_n 2, 1) := by decide +kernel
theorem dX2_pairCost_28 : decode cX2_pairCost 28 = .ok (.iaload, 1) := by decide +kernel
theorem dX2_pairCost_29 : decode cX2_pairCost 29 = .ok (.if_icmp .ne 15, 3) := by decide +kernel
theorem dX2_pairCost_32 : decode cX2_pairCost 32 = .ok (.iload_n 3, 1) := by decide +kernel
theorem dX2_pairCost_33 : decode cX2_pairCost 33 = .ok (.aload_n 0, 1) := by decide +kernel
theorem dX2_pairCost_34 : decode cX2_pairCost 34 = .ok (.getfield 40, 3) := by decide +kernel
theorem dX2_pairCost_37 : decode cX2_pairCost 37 = .ok (.if_icmp .gt 7, 3) := by decide +kernel
theorem dX2_pairCost_40 : decode cX2_pairCost 40 = .ok (.iload_n 3, 1) := by decide +kernel
theorem dX2_pairCost_41 : decode cX2_pairCost 41 = .ok (.goto 4, 3) := by decide +kernel
theorem dX2_pairCost_44 : decode cX2_pairCost 44 = .ok (.iconst (-1), 1) := by decide +kernel
theorem dX2_pairCost_45 : decode cX2_pairCost 45 = .ok (.ireturn, 1) := by decide +kernel
theorem zy_X2_pairCost : zYv yX2_pairCost cX2_pairCost 4 (some .int) 2 := ⟨zw_551, zws_6, zw_3, zw_552, by decide, by decide, by decide⟩
theorem c_X2_pairCost_0 {C : zC} {I : Nat → Nat → Int32} {J : Nat → Nat → Int64} {Rr : Nat → Nat → Option Nat} {D : zD} (a1 : Int32) (a2 : Int32) (v_grain : Int32) (e_v_grain : I 5 8 = v_grain) (v_places : (Nat → Int32)) (e_v_places : I 6 = v_places) (v_worths : (Nat → Int32)) (e_v_worths : I 7 = v_worths) (rr : Int32) (E : zE C RX2 cX2_pairCost 4 (some .int) ({ frames := 1, cells := 0, slots := 0, locals := 31 } : Room)) (hQ : C.Q = zQi C ({ frames := 1, cells := 0, slots := 0, locals := 31 } : Room) rr (I, J, Rr, D)) (h : pChest_pairCost a1 a2 v_grain v_places v_worths = some rr) : zB C (0, 0) 0 [(0, .ref (C.X.1 + 5)), (1, .int a1), (2, .int a2)] [] (I, J, Rr, D) := by
  refine zb_aload_n E dX2_pairCost_0 0 rfl rfl ?_
  refine zb_get E 5 (by decide) (zF_5 C.X) rfl zin2 0 (by decide) zw_90 (v := .ref (C.X.1 + 6)) rfl dX2_pairCost_1 ?_
  refine zb_iload_n E dX2_pairCost_4 1 rfl rfl ?_
  obtain ⟨g1, h⟩ := gd_s h
  refine zb_iald E 6 (by decide) zF_6 (f := v_places) (by exact e_v_places) (ib_in g1) dX2_pairCost_5 ?_
  refine zb_aload_n E dX2_pairCost_6 0 rfl rfl ?_
  refine zb_get E 5 (by decide) (zF_5 C.X) rfl zin2 0 (by decide) zw_90 (v := .ref (C.X.1 + 6)) rfl dX2_pairCost_7 ?_
  refine zb_iload_n E dX2_pairCost_10 2 rfl rfl ?_
  obtain ⟨g2, h⟩ := gd_s h
  refine zb_iald E 6 (by decide) zF_6 (f := v_places) (by exact e_v_places) (ib_in g2) dX2_pairCost_11 ?_
  refine zb_isub E dX2_pairCost_12 ?_
  refine zb_mabs E zYm_mabs zw_553 (by decide) (by first | decide | simp [Value.category]) dX2_pairCost_13 ?_
  refine zb_istore_n E dX2_pairCost_16 rfl (by decide) (lv2 := [(3, .int (m_abs ((v_places (ix a1)) - (v_places (ix a2))))), (0, .ref (C.X.1 + 5)), (1, .int a1), (2, .int a2)]) rfl ?_
  refine zb_aload_n E dX2_pairCost_17 1 rfl rfl ?_
  refine zb_get E 5 (by decide) (zF_5 C.X) rfl zin2 1 (by decide) zw_91 (v := .ref (C.X.1 + 7)) rfl dX2_pairCost_18 ?_
  refine zb_iload_n E dX2_pairCost_21 2 rfl rfl ?_
  refine zb_iald E 7 (by decide) zF_7 (f := v_worths) (by exact e_v_worths) (ib_in g1) dX2_pairCost_22 ?_
  refine zb_aload_n E dX2_pairCost_23 1 rfl rfl ?_
  refine zb_get E 5 (by decide) (zF_5 C.X) rfl zin2 1 (by decide) zw_91 (v := .ref (C.X.1 + 7)) rfl dX2_pairCost_24 ?_
  refine zb_iload_n E dX2_pairCost_27 3 rfl rfl ?_
  refine zb_iald E 7 (by decide) zF_7 (f := v_worths) (by exact e_v_worths) (ib_in g2) dX2_pairCost_28 ?_
  refine zb_icmp_ne E dX2_pairCost_29 (tgt := 44) rfl (fun hc => ?_) (fun hc => ?_)
  · have h := if_f h hc
    refine zb_iconst E dX2_pairCost_44 (v := (-1)) rfl ?_
    obtain rfl := zinj1 h
    exact zb_iret E hQ rfl ⟨Nat.zero_le _, Nat.zero_le _⟩ dX2_pairCost_45
  · have h := if_t h hc
    refine zb_iload_n E dX2_pairCost_32 0 rfl rfl ?_
    refine zb_aload_n E dX2_pairCost_33 1 rfl rfl ?_
    refine zb_get E 5 (by decide) (zF_5 C.X) rfl zin2 8 (by decide) zw_98 (v := .int v_grain) (by exact congrArg (fun z => some (Value.int z)) e_v_grain) dX2_pairCost_34 ?_
    refine zb_icmp_gt E dX2_pairCost_37 (tgt := 44) rfl (fun hc => ?_) (fun hc => ?_)
    · have h := if_t h hc
      refine zb_iconst E dX2_pairCost_44 (v := (-1)) rfl ?_
      obtain rfl := zinj1 h
      exact zb_iret E hQ rfl ⟨Nat.zero_le _, Nat.zero_le _⟩ dX2_pairCost_45
    · have h := if_f h hc
      refine zb_iload_n E dX2_pairCost_40 0 rfl rfl ?_
      refine zb_goto E dX2_pairCost_41 (tgt := 45) rfl ?_
      obtain rfl := zinj1 h
      exact zb_iret E hQ rfl ⟨Nat.zero_le _, Nat.zero_le _⟩ dX2_pairCost_45
theorem c_X2_pairCost {l : Launch} {X : zX} {I : Nat → Nat → Int32} {J : Nat → Nat → Int64} {Rr : Nat → Nat → Option Nat} {D : zD} {a1 : Int32} {a2 : Int32} (v_grain : Int32) (e_v_grain : I 5 8 = v_grain) (v_places : (Nat → Int32)) (e_v_places : I 6 = v_places) (v_worths : (Nat → Int32)) (e_v_worths : I 7 = v_worths) {rr : Int32} (h : pChest_pairCost a1 a2 v_grain v_places v_worths = some rr) : zMi l yX2_pairCost cX2_pairCost 4 (some .int) ({ frames := 1, cells := 0, slots := 0, locals := 31 } : Room) X [.ref (X.1 + 5), .int a1, .int a2] (I, J, Rr, D) rr (I, J, Rr, D) := by
  refine zMi.of (by decide) (Nat.le_of_ble_eq_true rfl) (fun C E hl hX hQ => ?_)
  subst hl
  subst hX
  have eI0 : I = I := rfl
  have eJ0 : J = J := rfl
  refine zb_S (S2 := (I, J, Rr, D)) (zS_eq eI0.symm eJ0.symm) ?_
  exact c_X2_pairCost_0 a1 a2 v_grain e_v_grain v_places e_v_places v_worths e_v_worths rr E hQ h
-- ChequeredCloth$Chest.leastCost
theorem dX2_leastCost_0 : decode cX2_leastCost 0 = .ok (.iconst 0, 1) := by decide +kernel
theorem dX2_leastCost_1 : decode cX2_leastCost 1 = .ok (.istore_n 3, 1) := by decide +kernel
theorem dX2_leastCost_2 : decode cX2_leastCost 2 = .ok (.iload_n 3, 1) := by decide +kernel
theorem dX2_leastCost_3 : decode cX2_leastCost 3 = .ok (.aload_n 0, 1) := by decide +kernel
theorem dX2_leastCost_4 : decode cX2_leastCost 4 = .ok (.getfield 18, 3) := by decide +kernel
theorem dX2_leastCost_7 : decode cX2_leastCost 7 = .ok (.iload_n 2, 1) := by decide +kernel
theorem dX2_leastCost_8 : decode cX2_leastCost 8 = .ok (.iaload, 1) := by decide +kernel
theorem dX2_leastCost_9 : decode cX2_leastCost 9 = .ok (.if_icmp .gt 21, 3) := by decide +kernel
theorem dX2_leastCost_12 : decode cX2_leastCost 12 = .ok (.aload_n 0, 1) := by decide +kernel
theorem dX2_leastCost_13 : decode cX2_leastCost 13 = .ok (.getfield 27, 3) := by decide +kernel
theorem dX2_leastCost_16 : decode cX2_leastCost 16 = .ok (.iload_n 3, 1) := by decide +kernel
theorem dX2_leastCost_17 : decode cX2_leastCost 17 = .ok (.iload_n 3, 1) := by decide +kernel
theorem dX2_leastCost_18 : decode cX2_leastCost 18 = .ok (.aload_n 0, 1) := by decide +kernel
theorem dX2_leastCost_19 : decode cX2_leastCost 19 = .ok (.getfield 44, 3) := by decide +kernel
theorem dX2_leastCost_22 : decode cX2_leastCost 22 = .ok (.imul, 1) := by decide +kernel
theorem dX2_leastCost_23 : decode cX2_leastCost 23 = .ok (.iastore, 1) := by decide +kernel
theorem dX2_leastCost_24 : decode cX2_leastCost 24 = .ok (.iinc 3 1, 3) := by decide +kernel
theorem dX2_leastCost_27 : decode cX2_leastCost 27 = .ok (.goto (-25), 3) := by decide +kernel
theorem dX2_leastCost_30 : decode cX2_leastCost 30 = .ok (.iconst 0, 1) := by decide +kernel
theorem dX2_leastCost_31 : decode cX2_leastCost 31 = .ok (.istore_n 3, 1) := by decide +kernel
theorem dX2_leastCost_32 : decode cX2_leastCost 32 = .ok (.iload_n 3, 1) := by decide +kernel
theorem dX2_leastCost_33 : decode cX2_leastCost 33 = .ok (.aload_n 0, 1) := by decide +kernel
theorem dX2_leastCost_34 : decode cX2_leastCost 34 = .ok (.getfield 18, 3) := by decide +kernel
theorem dX2_leastCost_37 : decode cX2_leastCost 37 = .ok (.iload_n 1, 1) := by decide +kernel
theorem dX2_leastCost_38 : decode cX2_leastCost 38 = .ok (.iaload, 1) := by decide +kernel
theorem dX2_leastCost_39 : decode cX2_leastCost 39 = .ok (.if_icmp .ge 144, 3) := by decide +kernel
theorem dX2_leastCost_42 : decode cX2_leastCost 42 = .ok (.aload_n 0, 1) := by decide +kernel
theorem dX2_leastCost_43 : decode cX2_leastCost 43 = .ok (.getfield 27, 3) := by decide +kernel
theorem dX2_leastCost_46 : decode cX2_leastCost 46 = .ok (.iconst 0, 1) := by decide +kernel
theorem dX2_leastCost_47 : decode cX2_leastCost 47 = .ok (.aload_n 0, 1) := by decide +kernel
theorem dX2_leastCost_48 : decode cX2_leastCost 48 = .ok (.getfield 24, 3) := by decide +kernel
theorem dX2_leastCost_51 : decode cX2_leastCost 51 = .ok (.iconst 0, 1) := by decide +kernel
theorem dX2_leastCost_52 : decode cX2_leastCost 52 = .ok (.aload_n 0, 1) := by decide +kernel
theorem dX2_leastCost_53 : decode cX2_leastCost 53 = .ok (.getfield 27, 3) := by decide +kernel
theorem dX2_leastCost_56 : decode cX2_leastCost 56 = .ok (.arraylength, 1) := by decide +kernel
theorem dX2_leastCost_57 : decode cX2_leastCost 57 = .ok (.invokestatic 94, 3) := by decide +kernel
theorem dX2_leastCost_60 : decode cX2_leastCost 60 = .ok (.aload_n 0, 1) := by decide +kernel
theorem dX2_leastCost_61 : decode cX2_leastCost 61 = .ok (.getfield 27, 3) := by decide +kernel
theorem dX2_leastCost_64 : decode cX2_leastCost 64 = .ok (.iconst 0, 1) := by decide +kernel
theorem dX2_leastCost_65 : decode cX2_leastCost 65 = .ok (.aload_n 0, 1) := by decide +kernel
theorem dX2_leastCost_66 : decode cX2_leastCost 66 = .ok (.getfield 24, 3) := by decide +kernel
theorem dX2_leastCost_69 : decode cX2_leastCost 69 = .ok (.iconst 0, 1) := by decide +kernel
theorem dX2_leastCost_70 : decode cX2_leastCost 70 = .ok (.iaload, 1) := by decide +kernel
theorem dX2_leastCost_71 : decode cX2_leastCost 71 = .ok (.aload_n 0, 1) := by decide +kernel
theorem dX2_leastCost_72 : decode cX2_leastCost 72 = .ok (.getfield 44, 3) := by decide +kernel
theorem dX2_leastCost_75 : decode cX2_leastCost 75 = .ok (.iadd, 1) := by decide +kernel
theorem dX2_leastCost_76 : decode cX2_leastCost 76 = .ok (.iastore, 1) := by decide +kernel
theorem dX2_leastCost_77 : decode cX2_leastCost 77 = .ok (.iconst 0, 1) := by decide +kernel
theorem dX2_leastCost_78 : decode cX2_leastCost 78 = .ok (.istore 4, 2) := by decide +kernel
theorem dX2_leastCost_80 : decode cX2_leastCost 80 = .ok (.iload 4, 2) := by decide +kernel
theorem dX2_leastCost_82 : decode cX2_leastCost 82 = .ok (.aload_n 0, 1) := by decide +kernel
theorem dX2_leastCost_83 : decode cX2_leastCost 83 = .ok (.getfield 18, 3) := by decide +kernel
theorem dX2_leastCost_86 : decode cX2_leastCost 86 = .ok (.iload_n 2, 1) := by decide +kernel
theorem dX2_leastCost_87 : decode cX2_leastCost 87 = .ok (.iaload, 1) := by decide +kernel
theorem dX2_leastCost_88 : decode cX2_leastCost 88 = .ok (.if_icmp .ge 89, 3) := by decide +kernel
theorem dX2_leastCost_91 : decode cX2_leastCost 91 = .ok (.aload_n 0, 1) := by decide +kernel
theorem dX2_leastCost_92 : decode cX2_leastCost 92 = .ok (.getfield 24, 3) := by decide +kernel
theorem dX2_leastCost_95 : decode cX2_leastCost 95 = .ok (.iload 4, 2) := by decide +kernel
theorem dX2_leastCost_97 : decode cX2_leastCost 97 = .ok (.iconst 1, 1) := by decide +kernel
theorem dX2_leastCost_98 : decode cX2_leastCost 98 = .ok (.iadd, 1) := by decide +kernel
theorem dX2_leastCost_99 : decode cX2_leastCost 99 = .ok (.iaload, 1) := by decide +kernel
theorem dX2_leastCost_100 : decode cX2_leastCost 100 = .ok (.aload_n 0, 1) := by decide +kernel
theorem dX2_leastCost_101 : decode cX2_leastCost 101 = .ok (.getfield 27, 3) := by decide +kernel
theorem dX2_leastCost_104 : decode cX2_leastCost 104 = .ok (.iload 4, 2) := by decide +kernel
theorem dX2_leastCost_106 : decode cX2_leastCost 106 = .ok (.iaload, 1) := by decide +kernel
theorem dX2_leastCost_107 : decode cX2_leastCost 107 = .ok (.invokestatic 100, 3) := by decide +kernel
theorem dX2_leastCost_110 : decode cX2_leastCost 110 = .ok (.aload_n 0, 1) := by decide +kernel
theorem dX2_leastCost_111 : decode cX2_leastCost 111 = .ok (.getfield 44, 3) := by decide +kernel
theorem dX2_leastCost_114 : decode cX2_leastCost 114 = .ok (.iadd, 1) := by decide +kernel
theorem dX2_leastCost_115 : decode cX2_leastCost 115 = .ok (.istore 5, 2) := by decide +kernel
theorem dX2_leastCost_117 : decode cX2_leastCost 117 = .ok (.aload_n 0, 1) := by decide +kernel
theorem dX2_leastCost_118 : decode cX2_leastCost 118 = .ok (.iload_n 1, 1) := by decide +kernel
theorem dX2_leastCost_119 : decode cX2_leastCost 119 = .ok (.bipush 12, 2) := by decide +kernel
theorem dX2_leastCost_121 : decode cX2_leastCost 121 = .ok (.imul, 1) := by decide +kernel
theorem dX2_leastCost_122 : decode cX2_leastCost 122 = .ok (.iload_n 3, 1) := by decide +kernel
theorem dX2_leastCost_123 : decode cX2_leastCost 123 = .ok (.iadd, 1) := by decide +kernel
theorem dX2_leastCost_124 : decode cX2_leastCost 124 = .ok (.iload_n 2, 1) := by decide +kernel
theorem dX2_leastCost_125 : decode cX2_leastCost 125 = .ok (.bipush 12, 2) := by decide +kernel
theorem dX2_leastCost_127 : decode cX2_leastCost 127 = .ok (.imul, 1) := by decide +kernel
theorem dX2_leastCost_128 : decode cX2_leastCost 128 = .ok (.iload 4, 2) := by decide +kernel
theorem dX2_leastCost_130 : decode cX2_leastCost 130 = .ok (.iadd, 1) := by decide +kernel
theorem dX2_leastCost_131 : decode cX2_leastCost 131 = .ok (.invokevirtual 105, 3) := by decide +kernel
theorem dX2_leastCost_134 : decode cX2_leastCost 134 = .ok (.istore 6, 2) := by decide +kernel
theorem dX2_leastCost_136 : decode cX2_leastCost 136 = .ok (.aload_n 0, 1) := by decide +kernel
theorem dX2_leastCost_137 : decode cX2_leastCost 137 = .ok (.getfield 27, 3) := by decide +kernel
theorem dX2_leastCost_140 : decode cX2_leastCost 140 = .ok (.iload 4, 2) := by decide +kernel
theorem dX2_leastCost_142 : decode cX2_leastCost 142 = .ok (.iconst 1, 1) := by decide +kernel
theorem dX2_leastCost_143 : decode cX2_leastCost 143 = .ok (.iadd, 1) := by decide +kernel
theorem dX2_leastCost_144 : decode cX2_leastCost 144 = .ok (.iload 6, 2) := by decide +kernel
theorem dX2_leastCost_146 : decode cX2_leastCost 146 = .ok (.iconst (-1), 1) := by decide +kernel
theorem dX2_leastCost_147 : decode cX2_leastCost 147 = .ok (.if_icmp .ne 8, 3) := by decide +kernel
theorem dX2_leastCost_150 : decode cX2_leastCost 150 = .ok (.iload 5, 2) := by decide +kernel
theorem dX2_leastCost_152 : decode cX2_leastCost 152 = .ok (.goto 18, 3) := by decide +kernel
theorem dX2_leastCost_155 : decode cX2_leastCost 155 = .ok (.iload 5, 2) := by decide +kernel
theorem dX2_leastCost_157 : decode cX2_leastCost 157 = .ok (.aload_n 0, 1) := by decide +kernel
theorem dX2_leastCost_158 : decode cX2_leastCost 158 = .ok (.getfield 24, 3) := by decide +kernel
theorem dX2_leastCost_161 : decode cX2_leastCost 161 = .ok (.iload 4, 2) := by decide +kernel
theorem dX2_leastCost_163 : decode cX2_leastCost 163 = .ok (.iaload, 1) := by decide +kernel
theorem dX2_leastCost_164 : decode cX2_leastCost 164 = .ok (.iload 6, 2) := by decide +kernel
theorem dX2_leastCost_166 : decode cX2_leastCost 166 = .ok (.iadd, 1) := by decide +kernel
theorem dX2_leastCost_167 : decode cX2_leastCost 167 = .ok (.invokestatic 100, 3) := by decide +kernel
theorem dX2_leastCost_170 : decode cX2_leastCost 170 = .ok (.iastore, 1) := by decide +kernel
theorem dX2_leastCost_171 : decode cX2_leastCost 171 = .ok (.iinc 4 1, 3) := by decide +kernel
theorem dX2_leastCost_174 : decode cX2_leastCost 174 = .ok (.goto (-94), 3) := by decide +kernel
theorem dX2_leastCost_177 : decode cX2_leastCost 177 = .ok (.iinc 3 1, 3) := by decide +kernel
theorem dX2_leastCost_180 : decode cX2_leastCost 180 = .ok (.goto (-148), 3) := by decide +kernel
theorem dX2_leastCost_183 : decode cX2_leastCost 183 = .ok (.aload_n 0, 1) := by decide +kernel
theorem dX2_leastCost_184 : decode cX2_leastCost 184 = .ok (.getfield 27, 3) := by decide +kernel
theorem dX2_leastCost_187 : decode cX2_leastCost 187 = .ok (.aload_n 0, 1) := by decide +kernel
theorem dX2_leastCost_188 : decode cX2_leastCost 188 = .ok (.getfield 18, 3) := by decide +kernel
theorem dX2_leastCost_191 : decode cX2_leastCost 191 = .ok (.iload_n 2, 1) := by decide +kernel
theorem dX2_leastCost_192 : decode cX2_leastCost 192 = .ok (.iaload, 1) := by decide +kernel
theorem dX2_leastCost_193 : decode cX2_leastCost 193 = .ok (.iaload, 1) := by decide +kernel
theorem dX2_leastCost_194 : decode cX2_leastCost 194 = .ok (.ireturn, 1) := by decide +kernel
theorem zy_X2_leastCost : zYv yX2_leastCost cX2_leastCost 7 (some .int) 2 := ⟨zw_545, zws_5, zw_3, zw_546, by decide, by decide, by decide⟩
theorem c_X2_leastCost_b2 {C : zC} {I : Nat → Nat → Int32} {J : Nat → Nat → Int64} {Rr : Nat → Nat → Option Nat} {D : zD} (N : Nat) (a1 : Int32) (a2 : Int32) (v_grain : Int32) (e_v_grain : I 5 8 = v_grain) (v_lost : Int32) (e_v_lost : I 5 9 = v_lost) (v_places : (Nat → Int32)) (e_v_places : I 6 = v_places) (v_sizes : (Nat → Int32)) (e_v_sizes : I 8 = v_sizes) (v_worths : (Nat → Int32)) (e_v_worths : I 7 = v_worths) (rr : Int32) (y_v_above : (Nat → Int32)) (y_v_row : (Nat → Int32)) (E : zE C RX2 cX2_leastCost 7 (some .int) ({ frames := 2, cells := 0, slots := 0, locals := 72 } : Room)) (hQ : C.Q = zQi C ({ frames := 2, cells := 0, slots := 0, locals := 72 } : Room) rr ((va_up (va_up I 10 y_v_above) 11 y_v_row), J, Rr, D)) (v_above : (Nat → Int32)) (k30 : (Nat → Int32) → Option R_pChest_leastCost) (hk30 : ∀ (v_row : (Nat → Int32)), k30 v_row = some (rr, y_v_above, y_v_row) → zB C (0, 0) 30 [(0, .ref (C.X.1 + 5)), (1, .int a1), (2, .int a2)] [] ((va_up (va_up I 10 v_above) 11 v_row), J, Rr, D)) : ∀ (n9 : Nat) (x3 : Int32) (v_row : (Nat → Int32)), pChest_leastCost_b2 N a1 a2 v_grain v_lost v_places v_sizes v_worths v_above k30 n9 x3 v_row = some (rr, y_v_above, y_v_row) → zB C (0, 0) 2 [(0, .ref (C.X.1 + 5)), (1, .int a1), (2, .int a2), (3, .int x3)] [] ((va_up (va_up I 10 v_above) 11 v_row), J, Rr, D) := by
  refine zlp2_ind (P := fun (x3 : Int32) (v_row : (Nat → Int32)) => zB C (0, 0) 2 [(0, .ref (C.X.1 + 5)), (1, .int a1), (2, .int a2), (3, .int x3)] [] ((va_up (va_up I 10 v_above) 11 v_row), J, Rr, D)) (fun self ih => ?_)
  intro x3 v_row h
  refine zb_iload_n E dX2_leastCost_2 3 rfl rfl ?_
  refine zb_aload_n E dX2_leastCost_3 0 rfl rfl ?_
  refine zb_get E 5 (by decide) (zF_5 C.X) rfl zin2 2 (by decide) zw_92 (v := .ref (C.X.1 + 8)) rfl dX2_leastCost_4 ?_
  refine zb_iload_n E dX2_leastCost_7 2 rfl rfl ?_
  obtain ⟨g1, h⟩ := gd_s h
  refine zb_iald E 8 (by decide) zF_8 (f := v_sizes) (by exact e_v_sizes) (ib_in g1) dX2_leastCost_8 ?_
  refine zb_icmp_gt E dX2_leastCost_9 (tgt := 30) rfl (fun hc => ?_) (fun hc => ?_)
  · have h := if_t h hc
    refine zb_sub [0, 1, 2] rfl ?_
    exact hk30 v_row h
  · have h := if_f h hc
    refine zb_aload_n E dX2_leastCost_12 0 rfl rfl ?_
    refine zb_get E 5 (by decide) (zF_5 C.X) rfl zin2 5 (by decide) zw_95 (v := .ref (C.X.1 + 11)) rfl dX2_leastCost_13 ?_
    refine zb_iload_n E dX2_leastCost_16 3 rfl rfl ?_
    refine zb_iload_n E dX2_leastCost_17 3 rfl rfl ?_
    refine zb_aload_n E dX2_leastCost_18 0 rfl rfl ?_
    refine zb_get E 5 (by decide) (zF_5 C.X) rfl zin2 9 (by decide) zw_99 (v := .int v_lost) (by exact congrArg (fun z => some (Value.int z)) e_v_lost) dX2_leastCost_19 ?_
    refine zb_imul E dX2_leastCost_22 ?_
    obtain ⟨g2, h⟩ := gd_s h
    refine zb_iast E 11 (by decide) zF_11 (f := v_row) rfl (ib_in g2) dX2_leastCost_23 (I2 := (va_up (va_up I 10 v_above) 11 (upd v_row (ix x3) (x3 * v_lost)))) zn1 ?_
    refine zb_iinc E dX2_leastCost_24 3 rfl (v := (x3 + 1)) rfl (by decide) (lv2 := [(3, .int (x3 + 1)), (0, .ref (C.X.1 + 5)), (1, .int a1), (2, .int a2)]) rfl ?_
    refine zb_goto E dX2_leastCost_27 (tgt := 2) rfl ?_
    refine zb_sub [1, 2, 3, 0] rfl ?_
    exact ih (x3 + 1) (upd v_row (ix x3) (x3 * v_lost)) h
theorem c_X2_leastCost_b170 {C : zC} {I : Nat → Nat → Int32} {J : Nat → Nat → Int64} {Rr : Nat → Nat → Option Nat} {D : zD} (N : Nat) (a1 : Int32) (a2 : Int32) (v_grain : Int32) (e_v_grain : I 5 8 = v_grain) (v_lost : Int32) (e_v_lost : I 5 9 = v_lost) (v_places : (Nat → Int32)) (e_v_places : I 6 = v_places) (v_sizes : (Nat → Int32)) (e_v_sizes : I 8 = v_sizes) (v_worths : (Nat → Int32)) (e_v_worths : I 7 = v_worths) (rr : Int32) (y_v_above : (Nat → Int32)) (y_v_row : (Nat → Int32)) (E : zE C RX2 cX2_leastCost 7 (some .int) ({ frames := 2, cells := 0, slots := 0, locals := 72 } : Room)) (hQ : C.Q = zQi C ({ frames := 2, cells := 0, slots := 0, locals := 72 } : Room) rr ((va_up (va_up I 10 y_v_above) 11 y_v_row), J, Rr, D)) (x3 : Int32) (x4 : Int32) (s1 : Int32) (s2 : Int32) (v_above : (Nat → Int32)) (v_row : (Nat → Int32)) (self : Int32 → (Nat → Int32) → Option R_pChest_leastCost) (ih : ∀ (x4 : Int32) (v_row : (Nat → Int32)), self x4 v_row = some (rr, y_v_above, y_v_row) → zB C (0, 0) 80 [(0, .ref (C.X.1 + 5)), (1, .int a1), (2, .int a2), (3, .int x3), (4, .int x4)] [] ((va_up (va_up I 10 v_above) 11 v_row), J, Rr, D)) (k177 : (Nat → Int32) → Option R_pChest_leastCost) (hk177 : ∀ (v_row : (Nat → Int32)), k177 v_row = some (rr, y_v_above, y_v_row) → zB C (0, 0) 177 [(0, .ref (C.X.1 + 5)), (1, .int a1), (2, .int a2), (3, .int x3)] [] ((va_up (va_up I 10 v_above) 11 v_row), J, Rr, D)) (h : pChest_leastCost_b170 N a1 a2 v_grain v_lost v_places v_sizes v_worths self k177 x3 x4 s1 s2 v_above v_row = some (rr, y_v_above, y_v_row)) : zB C (0, 0) 170 [(0, .ref (C.X.1 + 5)), (1, .int a1), (2, .int a2), (3, .int x3), (4, .int x4)] [.int s2, .int s1, .ref (C.X.1 + 11)] ((va_up (va_up I 10 v_above) 11 v_row), J, Rr, D) := by
  obtain ⟨g10, h⟩ := gd_s h
  refine zb_iast E 11 (by decide) zF_11 (f := v_row) rfl (ib_in g10) dX2_leastCost_170 (I2 := (va_up (va_up I 10 v_above) 11 (upd v_row (ix s1) s2))) zn1 ?_
  refine zb_iinc E dX2_leastCost_171 4 rfl (v := (x4 + 1)) rfl (by decide) (lv2 := [(4, .int (x4 + 1)), (0, .ref (C.X.1 + 5)), (1, .int a1), (2, .int a2), (3, .int x3)]) rfl ?_
  refine zb_goto E dX2_leastCost_174 (tgt := 80) rfl ?_
  refine zb_sub [1, 2, 3, 4, 0] rfl ?_
  exact ih (x4 + 1) (upd v_row (ix s1) s2) h
theorem c_X2_leastCost_b80 {C : zC} {I : Nat → Nat → Int32} {J : Nat → Nat → Int64} {Rr : Nat → Nat → Option Nat} {D : zD} (N : Nat) (a1 : Int32) (a2 : Int32) (v_grain : Int32) (e_v_grain : I 5 8 = v_grain) (v_lost : Int32) (e_v_lost : I 5 9 = v_lost) (v_places : (Nat → Int32)) (e_v_places : I 6 = v_places) (v_sizes : (Nat → Int32)) (e_v_sizes : I 8 = v_sizes) (v_worths : (Nat → Int32)) (e_v_worths : I 7 = v_worths) (rr : Int32) (y_v_above : (Nat → Int32)) (y_v_row : (Nat → Int32)) (E : zE C RX2 cX2_leastCost 7 (some .int) ({ frames := 2, cells := 0, slots := 0, locals := 72 } : Room)) (hQ : C.Q = zQi C ({ frames := 2, cells := 0, slots := 0, locals := 72 } : Room) rr ((va_up (va_up I 10 y_v_above) 11 y_v_row), J, Rr, D)) (x3 : Int32) (v_above : (Nat → Int32)) (k177 : (Nat → Int32) → Option R_pChest_leastCost) (hk177 : ∀ (v_row : (Nat → Int32)), k177 v_row = some (rr, y_v_above, y_v_row) → zB C (0, 0) 177 [(0, .ref (C.X.1 + 5)), (1, .int a1), (2, .int a2), (3, .int x3)] [] ((va_up (va_up I 10 v_above) 11 v_row), J, Rr, D)) : ∀ (n9 : Nat) (x4 : Int32) (v_row : (Nat → Int32)), pChest_leastCost_b80 N a1 a2 v_grain v_lost v_places v_sizes v_worths x3 v_above k177 n9 x4 v_row = some (rr, y_v_above, y_v_row) → zB C (0, 0) 80 [(0, .ref (C.X.1 + 5)), (1, .int a1), (2, .int a2), (3, .int x3), (4, .int x4)] [] ((va_up (va_up I 10 v_above) 11 v_row), J, Rr, D) := by
  refine zlp2_ind (P := fun (x4 : Int32) (v_row : (Nat → Int32)) => zB C (0, 0) 80 [(0, .ref (C.X.1 + 5)), (1, .int a1), (2, .int a2), (3, .int x3), (4, .int x4)] [] ((va_up (va_up I 10 v_above) 11 v_row), J, Rr, D)) (fun self ih => ?_)
  intro x4 v_row h
  refine zb_iload E dX2_leastCost_80 4 rfl ?_
  refine zb_aload_n E dX2_leastCost_82 0 rfl rfl ?_
  refine zb_get E 5 (by decide) (zF_5 C.X) rfl zin2 2 (by decide) zw_92 (v := .ref (C.X.1 + 8)) rfl dX2_leastCost_83 ?_
  refine zb_iload_n E dX2_leastCost_86 2 rfl rfl ?_
  obtain ⟨g6, h⟩ := gd_s h
  refine zb_iald E 8 (by decide) zF_8 (f := v_sizes) (by exact e_v_sizes) (ib_in g6) dX2_leastCost_87 ?_
  refine zb_icmp_ge E dX2_leastCost_88 (tgt := 177) rfl (fun hc => ?_) (fun hc => ?_)
  · have h := if_t h hc
    refine zb_sub [0, 1, 2, 3] rfl ?_
    exact hk177 v_row h
  · have h := if_f h hc
    refine zb_aload_n E dX2_leastCost_91 0 rfl rfl ?_
    refine zb_get E 5 (by decide) (zF_5 C.X) rfl zin2 4 (by decide) zw_94 (v := .ref (C.X.1 + 10)) rfl dX2_leastCost_92 ?_
    refine zb_iload E dX2_leastCost_95 4 rfl ?_
    refine zb_iconst E dX2_leastCost_97 (v := 1) rfl ?_
    refine zb_iadd E dX2_leastCost_98 ?_
    obtain ⟨g7, h⟩ := gd_s h
    refine zb_iald E 10 (by decide) zF_10 (f := v_above) rfl (ib_in g7) dX2_leastCost_99 ?_
    refine zb_aload_n E dX2_leastCost_100 0 rfl rfl ?_
    refine zb_get E 5 (by decide) (zF_5 C.X) rfl zin2 5 (by decide) zw_95 (v := .ref (C.X.1 + 11)) rfl dX2_leastCost_101 ?_
    refine zb_iload E dX2_leastCost_104 4 rfl ?_
    obtain ⟨g8, h⟩ := gd_s h
    refine zb_iald E 11 (by decide) zF_11 (f := v_row) rfl (ib_in g8) dX2_leastCost_106 ?_
    refine zb_mmin E zYm_mmin zw_548 (by decide) (by first | decide | simp [Value.category]) dX2_leastCost_107 ?_
    refine zb_aload_n E dX2_leastCost_110 0 rfl rfl ?_
    refine zb_get E 5 (by decide) (zF_5 C.X) rfl zin2 9 (by decide) zw_99 (v := .int v_lost) (by exact congrArg (fun z => some (Value.int z)) e_v_lost) dX2_leastCost_111 ?_
    refine zb_iadd E dX2_leastCost_114 ?_
    refine zb_istore E dX2_leastCost_115 (by decide) (lv2 := [(5, .int ((m_min (v_above (ix (x4 + 1))) (v_row (ix x4))) + v_lost)), (0, .ref (C.X.1 + 5)), (1, .int a1), (2, .int a2), (3, .int x3), (4, .int x4)]) rfl ?_
    refine zb_aload_n E dX2_leastCost_117 1 rfl rfl ?_
    refine zb_iload_n E dX2_leastCost_118 2 rfl rfl ?_
    refine zb_bipush E dX2_leastCost_119 (v := 12) rfl ?_
    refine zb_imul E dX2_leastCost_121 ?_
    refine zb_iload_n E dX2_leastCost_122 4 rfl rfl ?_
    refine zb_iadd E dX2_leastCost_123 ?_
    refine zb_iload_n E dX2_leastCost_124 3 rfl rfl ?_
    refine zb_bipush E dX2_leastCost_125 (v := 12) rfl ?_
    refine zb_imul E dX2_leastCost_127 ?_
    refine zb_iload E dX2_leastCost_128 5 rfl ?_
    refine zb_iadd E dX2_leastCost_130 ?_
    obtain ⟨rc9, hc_131, h⟩ := bd1_s h
    refine zb_cVi E [.int ((a1 * 12) + x3), .int ((a2 * 12) + x4)] 5 zy_X2_pairCost zw_549 (by decide) (zF_5 _ _ _ _) rfl (c_X2_pairCost v_grain (by exact e_v_grain) v_places (by exact e_v_places) v_worths (by exact e_v_worths) hc_131) (by decide) rfl rfl (by first | decide | simp [Value.category]) dX2_leastCost_131 (cs2 := (0, 0)) rfl ?_
    refine zb_istore E dX2_leastCost_134 (by decide) (lv2 := [(6, .int rc9), (5, .int ((m_min (v_above (ix (x4 + 1))) (v_row (ix x4))) + v_lost)), (0, .ref (C.X.1 + 5)), (1, .int a1), (2, .int a2), (3, .int x3), (4, .int x4)]) rfl ?_
    refine zb_aload_n E dX2_leastCost_136 2 rfl rfl ?_
    refine zb_get E 5 (by decide) (zF_5 C.X) rfl zin2 5 (by decide) zw_95 (v := .ref (C.X.1 + 11)) rfl dX2_leastCost_137 ?_
    refine zb_iload E dX2_leastCost_140 6 rfl ?_
    refine zb_iconst E dX2_leastCost_142 (v := 1) rfl ?_
    refine zb_iadd E dX2_leastCost_143 ?_
    refine zb_iload E dX2_leastCost_144 0 rfl ?_
    refine zb_iconst E dX2_leastCost_146 (v := (-1)) rfl ?_
    refine zb_icmp_ne E dX2_leastCost_147 (tgt := 155) rfl (fun hc => ?_) (fun hc => ?_)
    · have h := if_f h hc
      refine zb_iload E dX2_leastCost_155 1 rfl ?_
      refine zb_aload_n E dX2_leastCost_157 2 rfl rfl ?_
      refine zb_get E 5 (by decide) (zF_5 C.X) rfl zin2 4 (by decide) zw_94 (v := .ref (C.X.1 + 10)) rfl dX2_leastCost_158 ?_
      refine zb_iload E dX2_leastCost_161 6 rfl ?_
      refine zb_iald E 10 (by decide) zF_10 (f := v_above) rfl (ib_in g8) dX2_leastCost_163 ?_
      refine zb_iload E dX2_leastCost_164 0 rfl ?_
      refine zb_iadd E dX2_leastCost_166 ?_
      refine zb_mmin E zYm_mmin zw_548 (by decide) (by first | decide | simp [Value.category]) dX2_leastCost_167 ?_
      refine zb_sub [2, 3, 4, 5, 6] rfl ?_
      exact c_X2_leastCost_b170 N a1 a2 v_grain e_v_grain v_lost e_v_lost v_places e_v_places v_sizes e_v_sizes v_worths e_v_worths rr y_v_above y_v_row E hQ x3 x4 (x4 + 1) (m_min ((m_min (v_above (ix (x4 + 1))) (v_row (ix x4))) + v_lost) ((v_above (ix x4)) + rc9)) v_above v_row self ih k177 hk177 h
    · have h := if_t h hc
      refine zb_iload E dX2_leastCost_150 1 rfl ?_
      refine zb_goto E dX2_leastCost_152 (tgt := 170) rfl ?_
      refine zb_sub [2, 3, 4, 5, 6] rfl ?_
      exact c_X2_leastCost_b170 N a1 a2 v_grain e_v_grain v_lost e_v_lost v_places e_v_places v_sizes e_v_sizes v_worths e_v_worths rr y_v_above y_v_row E hQ x3 x4 (x4 + 1) ((m_min (v_above (ix (x4 + 1))) (v_row (ix x4))) + v_lost) v_above v_row self ih k177 hk177 h
theorem c_X2_leastCost_b177 {C : zC} {I : Nat → Nat → Int32} {J : Nat → Nat → Int64} {Rr : Nat → Nat → Option Nat} {D : zD} (N : Nat) (a1 : Int32) (a2 : Int32) (v_grain : Int32) (e_v_grain : I 5 8 = v_grain) (v_lost : Int32) (e_v_lost : I 5 9 = v_lost) (v_places : (Nat → Int32)) (e_v_places : I 6 = v_places) (v_sizes : (Nat → Int32)) (e_v_sizes : I 8 = v_sizes) (v_worths : (Nat → Int32)) (e_v_worths : I 7 = v_worths) (rr : Int32) (y_v_above : (Nat → Int32)) (y_v_row : (Nat → Int32)) (E : zE C RX2 cX2_leastCost 7 (some .int) ({ frames := 2, cells := 0, slots := 0, locals := 72 } : Room)) (hQ : C.Q = zQi C ({ frames := 2, cells := 0, slots := 0, locals := 72 } : Room) rr ((va_up (va_up I 10 y_v_above) 11 y_v_row), J, Rr, D)) (x3 : Int32) (v_above : (Nat → Int32)) (v_row : (Nat → Int32)) (self : Int32 → (Nat → Int32) → (Nat → Int32) → Option R_pChest_leastCost) (ih : ∀ (x3 : Int32) (v_above : (Nat → Int32)) (v_row : (Nat → Int32)), self x3 v_above v_row = some (rr, y_v_above, y_v_row) → zB C (0, 0) 32 [(0, .ref (C.X.1 + 5)), (1, .int a1), (2, .int a2), (3, .int x3)] [] ((va_up (va_up I 10 v_above) 11 v_row), J, Rr, D)) (h : pChest_leastCost_b177 N a1 a2 v_grain v_lost v_places v_sizes v_worths self x3 v_above v_row = some (rr, y_v_above, y_v_row)) : zB C (0, 0) 177 [(0, .ref (C.X.1 + 5)), (1, .int a1), (2, .int a2), (3, .int x3)] [] ((va_up (va_up I 10 v_above) 11 v_row), J, Rr, D) := by
  refine zb_iinc E dX2_leastCost_177 3 rfl (v := (x3 + 1)) rfl (by decide) (lv2 := [(3, .int (x3 + 1)), (0, .ref (C.X.1 + 5)), (1, .int a1), (2, .int a2)]) rfl ?_
  refine zb_goto E dX2_leastCost_180 (tgt := 32) rfl ?_
  refine zb_sub [1, 2, 3, 0] rfl ?_
  exact ih (x3 + 1) v_above v_row h
theorem c_X2_leastCost_b32 {C : zC} {I : Nat → Nat → Int32} {J : Nat → Nat → Int64} {Rr : Nat → Nat → Option Nat} {D : zD} (N : Nat) (a1 : Int32) (a2 : Int32) (v_grain : Int32) (e_v_grain : I 5 8 = v_grain) (v_lost : Int32) (e_v_lost : I 5 9 = v_lost) (v_places : (Nat → Int32)) (e_v_places : I 6 = v_places) (v_sizes : (Nat → Int32)) (e_v_sizes : I 8 = v_sizes) (v_worths : (Nat → Int32)) (e_v_worths : I 7 = v_worths) (rr : Int32) (y_v_above : (Nat → Int32)) (y_v_row : (Nat → Int32)) (E : zE C RX2 cX2_leastCost 7 (some .int) ({ frames := 2, cells := 0, slots := 0, locals := 72 } : Room)) (hQ : C.Q = zQi C ({ frames := 2, cells := 0, slots := 0, locals := 72 } : Room) rr ((va_up (va_up I 10 y_v_above) 11 y_v_row), J, Rr, D))  : ∀ (n9 : Nat) (x3 : Int32) (v_above : (Nat → Int32)) (v_row : (Nat → Int32)), pChest_leastCost_b32 N a1 a2 v_grain v_lost v_places v_sizes v_worths n9 x3 v_above v_row = some (rr, y_v_above, y_v_row) → zB C (0, 0) 32 [(0, .ref (C.X.1 + 5)), (1, .int a1), (2, .int a2), (3, .int x3)] [] ((va_up (va_up I 10 v_above) 11 v_row), J, Rr, D) := by
  refine zlp3_ind (P := fun (x3 : Int32) (v_above : (Nat → Int32)) (v_row : (Nat → Int32)) => zB C (0, 0) 32 [(0, .ref (C.X.1 + 5)), (1, .int a1), (2, .int a2), (3, .int x3)] [] ((va_up (va_up I 10 v_above) 11 v_row), J, Rr, D)) (fun self ih => ?_)
  intro x3 v_above v_row h
  refine zb_iload_n E dX2_leastCost_32 3 rfl rfl ?_
  refine zb_aload_n E dX2_leastCost_33 0 rfl rfl ?_
  refine zb_get E 5 (by decide) (zF_5 C.X) rfl zin2 2 (by decide) zw_92 (v := .ref (C.X.1 + 8)) rfl dX2_leastCost_34 ?_
  refine zb_iload_n E dX2_leastCost_37 1 rfl rfl ?_
  obtain ⟨g3, h⟩ := gd_s h
  refine zb_iald E 8 (by decide) zF_8 (f := v_sizes) (by exact e_v_sizes) (ib_in g3) dX2_leastCost_38 ?_
  refine zb_icmp_ge E dX2_leastCost_39 (tgt := 183) rfl (fun hc => ?_) (fun hc => ?_)
  · have h := if_t h hc
    refine zb_aload_n E dX2_leastCost_183 0 rfl rfl ?_
    refine zb_get E 5 (by decide) (zF_5 C.X) rfl zin2 5 (by decide) zw_95 (v := .ref (C.X.1 + 11)) rfl dX2_leastCost_184 ?_
    refine zb_aload_n E dX2_leastCost_187 0 rfl rfl ?_
    refine zb_get E 5 (by decide) (zF_5 C.X) rfl zin2 2 (by decide) zw_92 (v := .ref (C.X.1 + 8)) rfl dX2_leastCost_188 ?_
    refine zb_iload_n E dX2_leastCost_191 2 rfl rfl ?_
    obtain ⟨g4, h⟩ := gd_s h
    refine zb_iald E 8 (by decide) zF_8 (f := v_sizes) (by exact e_v_sizes) (ib_in g4) dX2_leastCost_192 ?_
    obtain ⟨g5, h⟩ := gd_s h
    refine zb_iald E 11 (by decide) zF_11 (f := v_row) rfl (ib_in g5) dX2_leastCost_193 ?_
    obtain ⟨rfl, rfl, rfl⟩ := zinj3 h
    exact zb_iret E hQ rfl ⟨Nat.zero_le _, Nat.zero_le _⟩ dX2_leastCost_194
  · have h := if_f h hc
    refine zb_aload_n E dX2_leastCost_42 0 rfl rfl ?_
    refine zb_get E 5 (by decide) (zF_5 C.X) rfl zin2 5 (by decide) zw_95 (v := .ref (C.X.1 + 11)) rfl dX2_leastCost_43 ?_
    refine zb_iconst E dX2_leastCost_46 (v := 0) rfl ?_
    refine zb_aload_n E dX2_leastCost_47 0 rfl rfl ?_
    refine zb_get E 5 (by decide) (zF_5 C.X) rfl zin2 4 (by decide) zw_94 (v := .ref (C.X.1 + 10)) rfl dX2_leastCost_48 ?_
    refine zb_iconst E dX2_leastCost_51 (v := 0) rfl ?_
    refine zb_aload_n E dX2_leastCost_52 0 rfl rfl ?_
    refine zb_get E 5 (by decide) (zF_5 C.X) rfl zin2 5 (by decide) zw_95 (v := .ref (C.X.1 + 11)) rfl dX2_leastCost_53 ?_
    refine zb_alen E 11 (by decide) (zF_11 _ _ _ _) 0 rfl (v := 13) rfl dX2_leastCost_56 ?_
    refine zb_copyI E 11 10 (by decide) (by decide) zF_11 zF_10 (f := v_row) rfl (g := v_above) rfl (by decide) zw_547 (by decide) (by first | decide | simp [Value.category]) dX2_leastCost_57 (I2 := (va_up (va_up I 10 (va_cpy v_row v_above (ix 0) (ix 0) (ix 13))) 11 v_row)) (zn2 (by decide : (11 : Nat) ≠ 10)) ?_
    refine zb_aload_n E dX2_leastCost_60 0 rfl rfl ?_
    refine zb_get E 5 (by decide) (zF_5 C.X) rfl zin2 5 (by decide) zw_95 (v := .ref (C.X.1 + 11)) rfl dX2_leastCost_61 ?_
    refine zb_iconst E dX2_leastCost_64 (v := 0) rfl ?_
    refine zb_aload_n E dX2_leastCost_65 0 rfl rfl ?_
    refine zb_get E 5 (by decide) (zF_5 C.X) rfl zin2 4 (by decide) zw_94 (v := .ref (C.X.1 + 10)) rfl dX2_leastCost_66 ?_
    refine zb_iconst E dX2_leastCost_69 (v := 0) rfl ?_
    refine zb_iald E 10 (by decide) zF_10 (f := (va_cpy v_row v_above (ix 0) (ix 0) (ix 13))) rfl (ib_in (by decide)) dX2_leastCost_70 ?_
    refine zb_aload_n E dX2_leastCost_71 0 rfl rfl ?_
    refine zb_get E 5 (by decide) (zF_5 C.X) rfl zin2 9 (by decide) zw_99 (v := .int v_lost) (by exact congrArg (fun z => some (Value.int z)) e_v_lost) dX2_leastCost_72 ?_
    refine zb_iadd E dX2_leastCost_75 ?_
    refine zb_iast E 11 (by decide) zF_11 (f := v_row) rfl (ib_in (by decide)) dX2_leastCost_76 (I2 := (va_up (va_up I 10 (va_cpy v_row v_above (ix 0) (ix 0) (ix 13))) 11 (upd v_row (ix 0) (((va_cpy v_row v_above (ix 0) (ix 0) (ix 13)) (ix 0)) + v_lost)))) zn1 ?_
    refine zb_iconst E dX2_leastCost_77 (v := 0) rfl ?_
    refine zb_istore E dX2_leastCost_78 (by decide) (lv2 := [(4, .int 0), (0, .ref (C.X.1 + 5)), (1, .int a1), (2, .int a2), (3, .int x3)]) rfl ?_
    refine zb_sub [1, 2, 3, 4, 0] rfl ?_
    exact c_X2_leastCost_b80 N a1 a2 v_grain e_v_grain v_lost e_v_lost v_places e_v_places v_sizes e_v_sizes v_worths e_v_worths rr y_v_above y_v_row E hQ x3 (va_cpy v_row v_above (ix 0) (ix 0) (ix 13)) _ (fun v_row_z2 h => c_X2_leastCost_b177 N a1 a2 v_grain e_v_grain v_lost e_v_lost v_places e_v_places v_sizes e_v_sizes v_worths e_v_worths rr y_v_above y_v_row E hQ x3 (va_cpy v_row v_above (ix 0) (ix 0) (ix 13)) v_row_z2 self ih h) _ 0 (upd v_row (ix 0) (((va_cpy v_row v_above (ix 0) (ix 0) (ix 13)) (ix 0)) + v_lost)) h
theorem c_X2_leastCost_b30 {C : zC} {I : Nat → Nat → Int32} {J : Nat → Nat → Int64} {Rr : Nat → Nat → Option Nat} {D : zD} (N : Nat) (a1 : Int32) (a2 : Int32) (v_grain : Int32) (e_v_grain : I 5 8 = v_grain) (v_lost : Int32) (e_v_lost : I 5 9 = v_lost) (v_places : (Nat → Int32)) (e_v_places : I 6 = v_places) (v_sizes : (Nat → Int32)) (e_v_sizes : I 8 = v_sizes) (v_worths : (Nat → Int32)) (e_v_worths : I 7 = v_worths) (rr : Int32) (y_v_above : (Nat → Int32)) (y_v_row : (Nat → Int32)) (E : zE C RX2 cX2_leastCost 7 (some .int) ({ frames := 2, cells := 0, slots := 0, locals := 72 } : Room)) (hQ : C.Q = zQi C ({ frames := 2, cells := 0, slots := 0, locals := 72 } : Room) rr ((va_up (va_up I 10 y_v_above) 11 y_v_row), J, Rr, D)) (v_above : (Nat → Int32)) (v_row : (Nat → Int32)) (h : pChest_leastCost_b30 N a1 a2 v_grain v_lost v_places v_sizes v_worths v_above v_row = some (rr, y_v_above, y_v_row)) : zB C (0, 0) 30 [(0, .ref (C.X.1 + 5)), (1, .int a1), (2, .int a2)] [] ((va_up (va_up I 10 v_above) 11 v_row), J, Rr, D) := by
  refine zb_iconst E dX2_leastCost_30 (v := 0) rfl ?_
  refine zb_istore_n E dX2_leastCost_31 rfl (by decide) (lv2 := [(3, .int 0), (0, .ref (C.X.1 + 5)), (1, .int a1), (2, .int a2)]) rfl ?_
  refine zb_sub [1, 2, 3, 0] rfl ?_
  exact c_X2_leastCost_b32 N a1 a2 v_grain e_v_grain v_lost e_v_lost v_places e_v_places v_sizes e_v_sizes v_worths e_v_worths rr y_v_above y_v_row E hQ _ 0 v_above v_row h
theorem c_X2_leastCost_0 {C : zC} {I : Nat → Nat → Int32} {J : Nat → Nat → Int64} {Rr : Nat → Nat → Option Nat} {D : zD} (N : Nat) (a1 : Int32) (a2 : Int32) (v_grain : Int32) (e_v_grain : I 5 8 = v_grain) (v_lost : Int32) (e_v_lost : I 5 9 = v_lost) (v_places : (Nat → Int32)) (e_v_places : I 6 = v_places) (v_sizes : (Nat → Int32)) (e_v_sizes : I 8 = v_sizes) (v_worths : (Nat → Int32)) (e_v_worths : I 7 = v_worths) (rr : Int32) (y_v_above : (Nat → Int32)) (y_v_row : (Nat → Int32)) (E : zE C RX2 cX2_leastCost 7 (some .int) ({ frames := 2, cells := 0, slots := 0, locals := 72 } : Room)) (hQ : C.Q = zQi C ({ frames := 2, cells := 0, slots := 0, locals := 72 } : Room) rr ((va_up (va_up I 10 y_v_above) 11 y_v_row), J, Rr, D)) (v_above : (Nat → Int32)) (v_row : (Nat → Int32)) (h : pChest_leastCost N a1 a2 v_grain v_lost v_above v_places v_row v_sizes v_worths = some (rr, y_v_above, y_v_row)) : zB C (0, 0) 0 [(0, .ref (C.X.1 + 5)), (1, .int a1), (2, .int a2)] [] ((va_up (va_up I 10 v_above) 11 v_row), J, Rr, D) := by
  refine zb_iconst E dX2_leastCost_0 (v := 0) rfl ?_
  refine zb_istore_n E dX2_leastCost_1 rfl (by decide) (lv2 := [(3, .int 0), (0, .ref (C.X.1 + 5)), (1, .int a1), (2, .int a2)]) rfl ?_
  refine zb_sub [1, 2, 3, 0] rfl ?_
  exact c_X2_leastCost_b2 N a1 a2 v_grain e_v_grain v_lost e_v_lost v_places e_v_places v_sizes e_v_sizes v_worths e_v_worths rr y_v_above y_v_row E hQ v_above _ (fun v_row_z1 h => c_X2_leastCost_b30 N a1 a2 v_grain e_v_grain v_lost e_v_lost v_places e_v_places v_sizes e_v_sizes v_worths e_v_worths rr y_v_above y_v_row E hQ v_above v_row_z1 h) _ 0 v_row h
theorem c_X2_leastCost {l : Launch} {X : zX} {I : Nat → Nat → Int32} {J : Nat → Nat → Int64} {Rr : Nat → Nat → Option Nat} {D : zD} {N : Nat} {a1 : Int32} {a2 : Int32} (v_grain : Int32) (e_v_grain : I 5 8 = v_grain) (v_lost : Int32) (e_v_lost : I 5 9 = v_lost) (v_places : (Nat → Int32)) (e_v_places : I 6 = v_places) (v_sizes : (Nat → Int32)) (e_v_sizes : I 8 = v_sizes) (v_worths : (Nat → Int32)) (e_v_worths : I 7 = v_worths) (v_above : (Nat → Int32)) (e_v_above : I 10 = v_above) (v_row : (Nat → Int32)) (e_v_row : I 11 = v_row) {rr : Int32} {y_v_above : (Nat → Int32)} {y_v_row : (Nat → Int32)} (h : pChest_leastCost N a1 a2 v_grain v_lost v_above v_places v_row v_sizes v_worths = some (rr, y_v_above, y_v_row)) : zMi l yX2_leastCost cX2_leastCost 7 (some .int) ({ frames := 2, cells := 0, slots := 0, locals := 72 } : Room) X [.ref (X.1 + 5), .int a1, .int a2] (I, J, Rr, D) rr ((va_up (va_up I 10 y_v_above) 11 y_v_row), J, Rr, D) := by
  refine zMi.of (by decide) (Nat.le_of_ble_eq_true rfl) (fun C E hl hX hQ => ?_)
  subst hl
  subst hX
  have eI0 : (va_up (va_up I 10 v_above) 11 v_row) = I := by rw [zup_idE e_v_above, zup_idE e_v_row]
  have eJ0 : J = J := rfl
  refine zb_S (S2 := ((va_up (va_up I 10 v_above) 11 v_row), J, Rr, D)) (zS_eq eI0.symm eJ0.symm) ?_
  exact c_X2_leastCost_0 N a1 a2 v_grain e_v_grain v_lost e_v_lost v_places e_v_places v_sizes e_v_sizes v_worths e_v_worths rr y_v_above y_v_row E hQ v_above v_row h
-- ChequeredCloth$Chest.fitOf
theorem dX2_fitOf_0 : decode cX2_fitOf 0 = .ok (.iload_n 1, 1) := by decide +kernel
theorem dX2_fitOf_1 : decode cX2_fitOf 1 = .ok (.invokestatic 77, 3) := by decide +kernel
theorem dX2_fitOf_4 : decode cX2_fitOf 4 = .ok (.ifCond .eq 29, 3) := by decide +kernel
theorem dX2_fitOf_7 : decode cX2_fitOf 7 = .ok (.iload_n 2, 1) := by decide +kernel
theorem dX2_fitOf_8 : decode cX2_fitOf 8 = .ok (.invokestatic 77, 3) := by decide +kernel
theorem dX2_fitOf_11 : decode cX2_fitOf 11 = .ok (.ifCond .eq 22, 3) := by decide +kernel
theorem dX2_fitOf_14 : decode cX2_fitOf 14 = .ok (.aload_n 0, 1) := by decide +kernel
theorem dX2_fitOf_15 : decode cX2_fitOf 15 = .ok (.iload_n 1, 1) := by decide +kernel
theorem dX2_fitOf_16 : decode cX2_fitOf 16 = .ok (.invokevirtual 67, 3) := by decide +kernel
theorem dX2_fitOf_19 : decode cX2_fitOf 19 = .ok (.ifCond .eq 14, 3) := by decide +kernel
theorem dX2_fitOf_22 : decode cX2_fitOf 22 = .ok (.aload_n 0, 1) := by decide +kernel
theorem dX2_fitOf_23 : decode cX2_fitOf 23 = .ok (.bipush 10, 2) := by decide +kernel
theorem dX2_fitOf_25 : decode cX2_fitOf 25 = .ok (.iload_n 2, 1) := by decide +kernel
theorem dX2_fitOf_26 : decode cX2_fitOf 26 = .ok (.iadd, 1) := by decide +kernel
theorem dX2_fitOf_27 : decode cX2_fitOf 27 = .ok (.invokevirtual 67, 3) := by decide +kernel
theorem dX2_fitOf_30 : decode cX2_fitOf 30 = .ok (.ifCond .ne 5, 3) := by decide +kernel
theorem dX2_fitOf_33 : decode cX2_fitOf 33 = .ok (.iconst (-1), 1) := by decide +kernel
theorem dX2_fitOf_34 : decode cX2_fitOf 34 = .ok (.ireturn, 1) := by decide +kernel
theorem dX2_fitOf_35 : decode cX2_fitOf 35 = .ok (.iload_n 1, 1) := by decide +kernel
theorem dX2_fitOf_36 : decode cX2_fitOf 36 = .ok (.bipush 10, 2) := by decide +kernel
theorem dX2_fitOf_38 : decode cX2_fitOf 38 = .ok (.imul, 1) := by decide +kernel
theorem dX2_fitOf_39 : decode cX2_fitOf 39 = .ok (.iload_n 2, 1) := by decide +kernel
theorem dX2_fitOf_40 : decode cX2_fitOf 40 = .ok (.iadd, 1) := by decide +kernel
theorem dX2_fitOf_41 : decode cX2_fitOf 41 = .ok (.istore_n 3, 1) := by decide +kernel
theorem dX2_fitOf_42 : decode cX2_fitOf 42 = .ok (.aload_n 0, 1) := by decide +kernel
theorem dX2_fitOf_43 : decode cX2_fitOf 43 = .ok (.getfield 21, 3) := by decide +kernel
theorem dX2_fitOf_46 : decode cX2_fitOf 46 = .ok (.iload_n 3, 1) := by decide +kernel
theorem dX2_fitOf_47 : decode cX2_fitOf 47 = .ok (.iaload, 1) := by decide +kernel
theorem dX2_fitOf_48 : decode cX2_fitOf 48 = .ok (.bipush (-2), 2) := by decide +kernel
theorem dX2_fitOf_50 : decode cX2_fitOf 50 = .ok (.if_icmp .ne 18, 3) := by decide +kernel
theorem dX2_fitOf_53 : decode cX2_fitOf 53 = .ok (.aload_n 0, 1) := by decide +kernel
theorem dX2_fitOf_54 : decode cX2_fitOf 54 = .ok (.getfield 21, 3) := by decide +kernel
theorem dX2_fitOf_57 : decode cX2_fitOf 57 = .ok (.iload_n 3, 1) := by decide +kernel
theorem dX2_fitOf_58 : decode cX2_fitOf 58 = .ok (.aload_n 0, 1) := by decide +kernel
theorem dX2_fitOf_59 : decode cX2_fitOf 59 = .ok (.iload_n 1, 1) := by decide +kernel
theorem dX2_fitOf_60 : decode cX2_fitOf 60 = .ok (.bipush 10, 2) := by decide +kernel
theorem dX2_fitOf_62 : decode cX2_fitOf 62 = .ok (.iload_n 2, 1) := by decide +kernel
theorem dX2_fitOf_63 : decode cX2_fitOf 63 = .ok (.iadd, 1) := by decide +kernel
theorem dX2_fitOf_64 : decode cX2_fitOf 64 = .ok (.invokevirtual 80, 3) := by decide +kernel
theorem dX2_fitOf_67 : decode cX2_fitOf 67 = .ok (.iastore, 1) := by decide +kernel
theorem dX2_fitOf_68 : decode cX2_fitOf 68 = .ok (.aload_n 0, 1) := by decide +kernel
theorem dX2_fitOf_69 : decode cX2_fitOf 69 = .ok (.getfield 21, 3) := by decide +kernel
theorem dX2_fitOf_72 : decode cX2_fitOf 72 = .ok (.iload_n 3, 1) := by decide +kernel
theorem dX2_fitOf_73 : decode cX2_fitOf 73 = .ok (.iaload, 1) := by decide +kernel
theorem dX2_fitOf_74 : decode cX2_fitOf 74 = .ok (.ireturn, 1) := by decide +kernel
theorem zy_X2_fitOf : zYv yX2_fitOf cX2_fitOf 4 (some .int) 2 := ⟨zw_539, zw_540, zw_3, zw_541, by decide, by decide, by decide⟩
theorem c_X2_fitOf_b68 {C : zC} {I : Nat → Nat → Int32} {J : Nat → Nat → Int64} {Rr : Nat → Nat → Option Nat} {D : zD} (N : Nat) (a1 : Int32) (a2 : Int32) (v_grain : Int32) (e_v_grain : I 5 8 = v_grain) (v_lost : Int32) (e_v_lost : I 5 9 = v_lost) (v_places : (Nat → Int32)) (e_v_places : I 6 = v_places) (v_sizes : (Nat → Int32)) (e_v_sizes : I 8 = v_sizes) (v_worths : (Nat → Int32)) (e_v_worths : I 7 = v_worths) (rr : Int32) (y_v_above : (Nat → Int32)) (y_v_fits : (Nat → Int32)) (y_v_row : (Nat → Int32)) (E : zE C RX2 cX2_fitOf 4 (some .int) ({ frames := 3, cells := 0, slots := 0, locals := 98 } : Room)) (hQ : C.Q = zQi C ({ frames := 3, cells := 0, slots := 0, locals := 98 } : Room) rr ((va_up (va_up (va_up I 10 y_v_above) 11 y_v_row) 9 y_v_fits), J, Rr, D)) (x3 : Int32) (v_above : (Nat → Int32)) (v_fits : (Nat → Int32)) (v_row : (Nat → Int32)) (h : pChest_fitOf_b68 N a1 a2 v_grain v_lost v_places v_sizes v_worths x3 v_above v_fits v_row = some (rr, y_v_above, y_v_fits, y_v_row)) : zB C (0, 0) 68 [(0, .ref (C.X.1 + 5)), (3, .int x3)] [] ((va_up (va_up (va_up I 10 v_above) 11 v_row) 9 v_fits), J, Rr, D) := by
  refine zb_aload_n E dX2_fitOf_68 0 rfl rfl ?_
  refine zb_get E 5 (by decide) (zF_5 C.X) rfl zin2 3 (by decide) zw_93 (v := .ref (C.X.1 + 9)) rfl dX2_fitOf_69 ?_
  refine zb_iload_n E dX2_fitOf_72 1 rfl rfl ?_
  obtain ⟨g7, h⟩ := gd_s h
  refine zb_iald E 9 (by decide) zF_9 (f := v_fits) rfl (ib_in g7) dX2_fitOf_73 ?_
  obtain ⟨rfl, rfl, rfl, rfl⟩ := zinj4 h
  exact zb_iret E hQ rfl ⟨Nat.zero_le _, Nat.zero_le _⟩ dX2_fitOf_74
theorem c_X2_fitOf_0 {C : zC} {I : Nat → Nat → Int32} {J : Nat → Nat → Int64} {Rr : Nat → Nat → Option Nat} {D : zD} (N : Nat) (a1 : Int32) (a2 : Int32) (v_grain : Int32) (e_v_grain : I 5 8 = v_grain) (v_lost : Int32) (e_v_lost : I 5 9 = v_lost) (v_places : (Nat → Int32)) (e_v_places : I 6 = v_places) (v_sizes : (Nat → Int32)) (e_v_sizes : I 8 = v_sizes) (v_worths : (Nat → Int32)) (e_v_worths : I 7 = v_worths) (rr : Int32) (y_v_above : (Nat → Int32)) (y_v_fits : (Nat → Int32)) (y_v_row : (Nat → Int32)) (E : zE C RX2 cX2_fitOf 4 (some .int) ({ frames := 3, cells := 0, slots := 0, locals := 98 } : Room)) (hQ : C.Q = zQi C ({ frames := 3, cells := 0, slots := 0, locals := 98 } : Room) rr ((va_up (va_up (va_up I 10 y_v_above) 11 y_v_row) 9 y_v_fits), J, Rr, D)) (v_above : (Nat → Int32)) (v_fits : (Nat → Int32)) (v_row : (Nat → Int32)) (h : pChest_fitOf N a1 a2 v_grain v_lost v_above v_fits v_places v_row v_sizes v_worths = some (rr, y_v_above, y_v_fits, y_v_row)) : zB C (0, 0) 0 [(0, .ref (C.X.1 + 5)), (1, .int a1), (2, .int a2)] [] ((va_up (va_up (va_up I 10 v_above) 11 v_row) 9 v_fits), J, Rr, D) := by
  refine zb_iload_n E dX2_fitOf_0 1 rfl rfl ?_
  obtain ⟨rc1, hc_1, h⟩ := bd1_s h
  refine zb_cSNi E [.int a1] zy_X11_isStick znw_15 (c_X11_isStick hc_1) (by decide) rfl rfl (by first | decide | simp [Value.category]) dX2_fitOf_1 (cs2 := (0, 0)) rfl ?_
  refine zb_if_eq E dX2_fitOf_4 (tgt := 33) rfl (fun hc => ?_) (fun hc => ?_)
  · have h := if_t h hc
    refine zb_iconst E dX2_fitOf_33 (v := (-1)) rfl ?_
    obtain ⟨rfl, rfl, rfl, rfl⟩ := zinj4 h
    exact zb_iret E hQ rfl ⟨Nat.zero_le _, Nat.zero_le _⟩ dX2_fitOf_34
  · have h := if_f h hc
    refine zb_iload_n E dX2_fitOf_7 2 rfl rfl ?_
    obtain ⟨rc2, hc_8, h⟩ := bd1_s h
    refine zb_cSNi E [.int a2] zy_X11_isStick znw_15 (c_X11_isStick hc_8) (by decide) rfl rfl (by first | decide | simp [Value.category]) dX2_fitOf_8 (cs2 := (0, 0)) rfl ?_
    refine zb_if_eq E dX2_fitOf_11 (tgt := 33) rfl (fun hc => ?_) (fun hc => ?_)
    · have h := if_t h hc
      refine zb_iconst E dX2_fitOf_33 (v := (-1)) rfl ?_
      obtain ⟨rfl, rfl, rfl, rfl⟩ := zinj4 h
      exact zb_iret E hQ rfl ⟨Nat.zero_le _, Nat.zero_le _⟩ dX2_fitOf_34
    · have h := if_f h hc
      refine zb_aload_n E dX2_fitOf_14 0 rfl rfl ?_
      refine zb_iload_n E dX2_fitOf_15 1 rfl rfl ?_
      obtain ⟨rc3, hc_16, h⟩ := bd1_s h
      refine zb_cVi E [.int a1] 5 zy_X2_isThere zw_514 (by decide) (zF_5 _ _ _ _) rfl (c_X2_isThere v_sizes (by exact e_v_sizes) hc_16) (by decide) rfl rfl (by first | decide | simp [Value.category]) dX2_fitOf_16 (cs2 := (0, 0)) rfl ?_
      refine zb_if_eq E dX2_fitOf_19 (tgt := 33) rfl (fun hc => ?_) (fun hc => ?_)
      · have h := if_t h hc
        refine zb_iconst E dX2_fitOf_33 (v := (-1)) rfl ?_
        obtain ⟨rfl, rfl, rfl, rfl⟩ := zinj4 h
        exact zb_iret E hQ rfl ⟨Nat.zero_le _, Nat.zero_le _⟩ dX2_fitOf_34
      · have h := if_f h hc
        refine zb_aload_n E dX2_fitOf_22 0 rfl rfl ?_
        refine zb_bipush E dX2_fitOf_23 (v := 10) rfl ?_
        refine zb_iload_n E dX2_fitOf_25 2 rfl rfl ?_
        refine zb_iadd E dX2_fitOf_26 ?_
        obtain ⟨rc4, hc_27, h⟩ := bd1_s h
        refine zb_cVi E [.int (10 + a2)] 5 zy_X2_isThere zw_514 (by decide) (zF_5 _ _ _ _) rfl (c_X2_isThere v_sizes (by exact e_v_sizes) hc_27) (by decide) rfl rfl (by first | decide | simp [Value.category]) dX2_fitOf_27 (cs2 := (0, 0)) rfl ?_
        refine zb_if_ne E dX2_fitOf_30 (tgt := 35) rfl (fun hc => ?_) (fun hc => ?_)
        · have h := if_f h hc
          refine zb_iload_n E dX2_fitOf_35 1 rfl rfl ?_
          refine zb_bipush E dX2_fitOf_36 (v := 10) rfl ?_
          refine zb_imul E dX2_fitOf_38 ?_
          refine zb_iload_n E dX2_fitOf_39 2 rfl rfl ?_
          refine zb_iadd E dX2_fitOf_40 ?_
          refine zb_istore_n E dX2_fitOf_41 rfl (by decide) (lv2 := [(3, .int ((a1 * 10) + a2)), (0, .ref (C.X.1 + 5)), (1, .int a1), (2, .int a2)]) rfl ?_
          refine zb_aload_n E dX2_fitOf_42 1 rfl rfl ?_
          refine zb_get E 5 (by decide) (zF_5 C.X) rfl zin2 3 (by decide) zw_93 (v := .ref (C.X.1 + 9)) rfl dX2_fitOf_43 ?_
          refine zb_iload_n E dX2_fitOf_46 0 rfl rfl ?_
          obtain ⟨g5, h⟩ := gd_s h
          refine zb_iald E 9 (by decide) zF_9 (f := v_fits) rfl (ib_in g5) dX2_fitOf_47 ?_
          refine zb_bipush E dX2_fitOf_48 (v := (-2)) rfl ?_
          refine zb_icmp_ne E dX2_fitOf_50 (tgt := 68) rfl (fun hc => ?_) (fun hc => ?_)
          · have h := if_f h hc
            refine zb_sub [1, 0] rfl ?_
            exact c_X2_fitOf_b68 N a1 a2 v_grain e_v_grain v_lost e_v_lost v_places e_v_places v_sizes e_v_sizes v_worths e_v_worths rr y_v_above y_v_fits y_v_row E hQ ((a1 * 10) + a2) v_above v_fits v_row h
          · have h := if_t h hc
            refine zb_aload_n E dX2_fitOf_53 1 rfl rfl ?_
            refine zb_get E 5 (by decide) (zF_5 C.X) rfl zin2 3 (by decide) zw_93 (v := .ref (C.X.1 + 9)) rfl dX2_fitOf_54 ?_
            refine zb_iload_n E dX2_fitOf_57 0 rfl rfl ?_
            refine zb_aload_n E dX2_fitOf_58 1 rfl rfl ?_
            refine zb_iload_n E dX2_fitOf_59 2 rfl rfl ?_
            refine zb_bipush E dX2_fitOf_60 (v := 10) rfl ?_
            refine zb_iload_n E dX2_fitOf_62 3 rfl rfl ?_
            refine zb_iadd E dX2_fitOf_63 ?_
            obtain ⟨rc6, v_above_c6, v_row_c6, hc_64, h⟩ := bd3_s h
            refine zb_cVi E [.int a1, .int (10 + a2)] 5 zy_X2_leastCost zw_543 (by decide) (zF_5 _ _ _ _) rfl (c_X2_leastCost v_grain (by exact e_v_grain) v_lost (by exact e_v_lost) v_places (by exact e_v_places) v_sizes (by exact e_v_sizes) v_worths (by exact e_v_worths) v_above rfl v_row rfl hc_64) (by decide) rfl rfl (by first | decide | simp [Value.category]) dX2_fitOf_64 (cs2 := (0, 0)) rfl ?_
            refine zb_S (S2 := ((va_up (va_up (va_up I 10 v_above_c6) 11 v_row_c6) 9 v_fits), J, Rr, D)) (zS_eq ((zcgF (zn3 (by decide : (9 : Nat) ≠ 10) (by decide : (11 : Nat) ≠ 10))).trans (zn2 (by decide : (9 : Nat) ≠ 11))) rfl) ?_
            refine zb_iast E 9 (by decide) zF_9 (f := v_fits) rfl (ib_in g5) dX2_fitOf_67 (I2 := (va_up (va_up (va_up I 10 v_above_c6) 11 v_row_c6) 9 (upd v_fits (ix ((a1 * 10) + a2)) rc6))) zn1 ?_
            refine zb_sub [1, 0] rfl ?_
            exact c_X2_fitOf_b68 N a1 a2 v_grain e_v_grain v_lost e_v_lost v_places e_v_places v_sizes e_v_sizes v_worths e_v_worths rr y_v_above y_v_fits y_v_row E hQ ((a1 * 10) + a2) v_above_c6 (upd v_fits (ix ((a1 * 10) + a2)) rc6) v_row_c6 h
        · have h := if_t h hc
          refine zb_iconst E dX2_fitOf_33 (v := (-1)) rfl ?_
          obtain ⟨rfl, rfl, rfl, rfl⟩ := zinj4 h
          exact zb_iret E hQ rfl ⟨Nat.zero_le _, Nat.zero_le _⟩ dX2_fitOf_34
theorem c_X2_fitOf {l : Launch} {X : zX} {I : Nat → Nat → Int32} {J : Nat → Nat → Int64} {Rr : Nat → Nat → Option Nat} {D : zD} {N : Nat} {a1 : Int32} {a2 : Int32} (v_grain : Int32) (e_v_grain : I 5 8 = v_grain) (v_lost : Int32) (e_v_lost : I 5 9 = v_lost) (v_places : (Nat → Int32)) (e_v_places : I 6 = v_places) (v_sizes : (Nat → Int32)) (e_v_sizes : I 8 = v_sizes) (v_worths : (Nat → Int32)) (e_v_worths : I 7 = v_worths) (v_above : (Nat → Int32)) (e_v_above : I 10 = v_above) (v_fits : (Nat → Int32)) (e_v_fits : I 9 = v_fits) (v_row : (Nat → Int32)) (e_v_row : I 11 = v_row) {rr : Int32} {y_v_above : (Nat → Int32)} {y_v_fits : (Nat → Int32)} {y_v_row : (Nat → Int32)} (h : pChest_fitOf N a1 a2 v_grain v_lost v_above v_fits v_places v_row v_sizes v_worths = some (rr, y_v_above, y_v_fits, y_v_row)) : zMi l yX2_fitOf cX2_fitOf 4 (some .int) ({ frames := 3, cells := 0, slots := 0, locals := 98 } : Room) X [.ref (X.1 + 5), .int a1, .int a2] (I, J, Rr, D) rr ((va_up (va_up (va_up I 10 y_v_above) 11 y_v_row) 9 y_v_fits), J, Rr, D) := by
  refine zMi.of (by decide) (Nat.le_of_ble_eq_true rfl) (fun C E hl hX hQ => ?_)
  subst hl
  subst hX
  have eI0 : (va_up (va_up (va_up I 10 v_above) 11 v_row) 9 v_fits) = I := by rw [zup_idE e_v_above, zup_idE e_v_row, zup_idE e_v_fits]
  have eJ0 : J = J := rfl
  refine zb_S (S2 := ((va_up (va_up (va_up I 10 v_above) 11 v_row) 9 v_fits), J, Rr, D)) (zS_eq eI0.symm eJ0.symm) ?_
  exact c_X2_fitOf_0 N a1 a2 v_grain e_v_grain v_lost e_v_lost v_places e_v_places v_sizes e_v_sizes v_worths e_v_worths rr y_v_above y_v_fits y_v_row E hQ v_above v_fits v_row h
-- ChequeredCloth$Chest.matchAll
theorem dX2_matchAll_0 : decode cX2_matchAll 0 = .ok (.aload_n 0, 1) := by decide +kernel
theorem dX2_matchAll_1 : decode cX2_matchAll 1 = .ok (.getfield 70, 3) := by decide +kernel
theorem dX2_matchAll_4 : decode cX2_matchAll 4 = .ok (.ifCond .eq 4, 3) := by decide +kernel
theorem dX2_matchAll_7 : decode cX2_matchAll 7 = .ok (.return_, 1) := by decide +kernel
theorem dX2_matchAll_8 : decode cX2_matchAll 8 = .ok (.aload_n 0, 1) := by decide +kernel
theorem dX2_matchAll_9 : decode cX2_matchAll 9 = .ok (.getfield 36, 3) := by decide +kernel
theorem dX2_matchAll_12 : decode cX2_matchAll 12 = .ok (.invokevirtual 111, 3) := by decide +kernel
theorem dX2_matchAll_15 : decode cX2_matchAll 15 = .ok (.iconst 0, 1) := by decide +kernel
theorem dX2_matchAll_16 : decode cX2_matchAll 16 = .ok (.istore_n 1, 1) := by decide +kernel
theorem dX2_matchAll_17 : decode cX2_matchAll 17 = .ok (.iload_n 1, 1) := by decide +kernel
theorem dX2_matchAll_18 : decode cX2_matchAll 18 = .ok (.bipush 10, 2) := by decide +kernel
theorem dX2_matchAll_20 : decode cX2_matchAll 20 = .ok (.if_icmp .ge 53, 3) := by decide +kernel
theorem dX2_matchAll_23 : decode cX2_matchAll 23 = .ok (.iconst 0, 1) := by decide +kernel
theorem dX2_matchAll_24 : decode cX2_matchAll 24 = .ok (.istore_n 2, 1) := by decide +kernel
theorem dX2_matchAll_25 : decode cX2_matchAll 25 = .ok (.iload_n 2, 1) := by decide +kernel
theorem dX2_matchAll_26 : decode cX2_matchAll 26 = .ok (.bipush 10, 2) := by decide +kernel
theorem dX2_matchAll_28 : decode cX2_matchAll 28 = .ok (.if_icmp .ge 39, 3) := by decide +kernel
theorem dX2_matchAll_31 : decode cX2_matchAll 31 = .ok (.aload_n 0, 1) := by decide +kernel
theorem dX2_matchAll_32 : decode cX2_matchAll 32 = .ok (.iload_n 1, 1) := by decide +kernel
theorem dX2_matchAll_33 : decode cX2_matchAll 33 = .ok (.iload_n 2, 1) := by decide +kernel
theorem dX2_matchAll_34 : decode cX2_matchAll 34 = .ok (.invokevirtual 91, 3) := by decide +kernel
theorem dX2_matchAll_37 : decode cX2_matchAll 37 = .ok (.istore_n 3, 1) := by decide +kernel
theorem dX2_matchAll_38 : decode cX2_matchAll 38 = .ok (.iload_n 3, 1) := by decide +kernel
theorem dX2_matchAll_39 : decode cX2_matchAll 39 = .ok (.iconst (-1), 1) := by decide +kernel
theorem dX2_matchAll_40 : decode cX2_matchAll 40 = .ok (.if_icmp .eq 21, 3) := by decide +kernel
theorem dX2_matchAll_43 : decode cX2_matchAll 43 = .ok (.iload_n 3, 1) := by decide +kernel
theorem dX2_matchAll_44 : decode cX2_matchAll 44 = .ok (.aload_n 0, 1) := by decide +kernel
theorem dX2_matchAll_45 : decode cX2_matchAll 45 = .ok (.getfield 47, 3) := by decide +kernel
theorem dX2_matchAll_48 : decode cX2_matchAll 48 = .ok (.if_icmp .gt 13, 3) := by decide +kernel
theorem dX2_matchAll_51 : decode cX2_matchAll 51 = .ok (.aload_n 0, 1) := by decide +kernel
theorem dX2_matchAll_52 : decode cX2_matchAll 52 = .ok (.getfield 36, 3) := by decide +kernel
theorem dX2_matchAll_55 : decode cX2_matchAll 55 = .ok (.iload_n 1, 1) := by decide +kernel
theorem dX2_matchAll_56 : decode cX2_matchAll 56 = .ok (.iload_n 2, 1) := by decide +kernel
theorem dX2_matchAll_57 : decode cX2_matchAll 57 = .ok (.iload_n 3, 1) := by decide +kernel
theorem dX2_matchAll_58 : decode cX2_matchAll 58 = .ok (.invokevirtual 114, 3) := by decide +kernel
theorem dX2_matchAll_61 : decode cX2_matchAll 61 = .ok (.iinc 2 1, 3) := by decide +kernel
theorem dX2_matchAll_64 : decode cX2_matchAll 64 = .ok (.goto (-39), 3) := by decide +kernel
theorem dX2_matchAll_67 : decode cX2_matchAll 67 = .ok (.iinc 1 1, 3) := by decide +kernel
theorem dX2_matchAll_70 : decode cX2_matchAll 70 = .ok (.goto (-53), 3) := by decide +kernel
theorem dX2_matchAll_73 : decode cX2_matchAll 73 = .ok (.aload_n 0, 1) := by decide +kernel
theorem dX2_matchAll_74 : decode cX2_matchAll 74 = .ok (.getfield 36, 3) := by decide +kernel
theorem dX2_matchAll_77 : decode cX2_matchAll 77 = .ok (.invokevirtual 118, 3) := by decide +kernel
theorem dX2_matchAll_80 : decode cX2_matchAll 80 = .ok (.iconst 0, 1) := by decide +kernel
theorem dX2_matchAll_81 : decode cX2_matchAll 81 = .ok (.istore_n 1, 1) := by decide +kernel
theorem dX2_matchAll_82 : decode cX2_matchAll 82 = .ok (.iload_n 1, 1) := by decide +kernel
theorem dX2_matchAll_83 : decode cX2_matchAll 83 = .ok (.bipush 10, 2) := by decide +kernel
theorem dX2_matchAll_85 : decode cX2_matchAll 85 = .ok (.if_icmp .ge 36, 3) := by decide +kernel
theorem dX2_matchAll_88 : decode cX2_matchAll 88 = .ok (.aload_n 0, 1) := by decide +kernel
theorem dX2_matchAll_89 : decode cX2_matchAll 89 = .ok (.getfield 30, 3) := by decide +kernel
theorem dX2_matchAll_92 : decode cX2_matchAll 92 = .ok (.iload_n 1, 1) := by decide +kernel
theorem dX2_matchAll_93 : decode cX2_matchAll 93 = .ok (.aload_n 0, 1) := by decide +kernel
theorem dX2_matchAll_94 : decode cX2_matchAll 94 = .ok (.getfield 36, 3) := by decide +kernel
theorem dX2_matchAll_97 : decode cX2_matchAll 97 = .ok (.iload_n 1, 1) := by decide +kernel
theorem dX2_matchAll_98 : decode cX2_matchAll 98 = .ok (.invokevirtual 87, 3) := by decide +kernel
theorem dX2_matchAll_101 : decode cX2_matchAll 101 = .ok (.iconst (-1), 1) := by decide +kernel
theorem dX2_matchAll_102 : decode cX2_matchAll 102 = .ok (.if_icmp .ne 7, 3) := by decide +kernel
theorem dX2_matchAll_105 : decode cX2_matchAll 105 = .ok (.iconst 0, 1) := by decide +kernel
theorem dX2_matchAll_106 : decode cX2_matchAll 106 = .ok (.goto 8, 3) := by decide +kernel
theorem dX2_matchAll_109 : decode cX2_matchAll 109 = .ok (.aload_n 0, 1) := by decide +kernel
theorem dX2_matchAll_110 : decode cX2_matchAll 110 = .ok (.iload_n 1, 1) := by decide +kernel
theorem dX2_matchAll_111 : decode cX2_matchAll 111 = .ok (.invokevirtual 121, 3) := by decide +kernel
theorem dX2_matchAll_114 : decode cX2_matchAll 114 = .ok (.iastore, 1) := by decide +kernel
theorem dX2_matchAll_115 : decode cX2_matchAll 115 = .ok (.iinc 1 1, 3) := by decide +kernel
theorem dX2_matchAll_118 : decode cX2_matchAll 118 = .ok (.goto (-36), 3) := by decide +kernel
theorem dX2_matchAll_121 : decode cX2_matchAll 121 = .ok (.aload_n 0, 1) := by decide +kernel
theorem dX2_matchAll_122 : decode cX2_matchAll 122 = .ok (.iconst 1, 1) := by decide +kernel
theorem dX2_matchAll_123 : decode cX2_matchAll 123 = .ok (.putfield 70, 3) := by decide +kernel
theorem dX2_matchAll_126 : decode cX2_matchAll 126 = .ok (.return_, 1) := by decide +kernel
theorem zy_X2_matchAll : zYv yX2_matchAll cX2_matchAll 4 none 0 := ⟨zw_563, zw_564, zw_3, zw_565, by decide, by decide, by decide⟩
theorem c_X2_matchAll_b25 {C : zC} {I : Nat → Nat → Int32} {J : Nat → Nat → Int64} {Rr : Nat → Nat → Option Nat} {D : zD} (N : Nat) (v_grain : Int32) (e_v_grain : I 5 8 = v_grain) (v_limit : Int32) (e_v_limit : I 5 10 = v_limit) (v_lost : Int32) (e_v_lost : I 5 9 = v_lost) (v_places : (Nat → Int32)) (e_v_places : I 6 = v_places) (v_sizes : (Nat → Int32)) (e_v_sizes : I 8 = v_sizes) (v_worths : (Nat → Int32)) (e_v_worths : I 7 = v_worths) (y_v_isMatched : Int32) (y_v_above : (Nat → Int32)) (y_v_fits : (Nat → Int32)) (y_v_goodWorths : (Nat → Int32)) (y_v_matcher_cameFrom : (Nat → Int32)) (y_v_matcher_columnPrices : (Nat → Int64)) (y_v_matcher_costs : (Nat → Nat → Int64)) (y_v_matcher_gaps : (Nat → Int64)) (y_v_matcher_isReached : (Nat → Int32)) (y_v_matcher_mates : (Nat → Int32)) (y_v_matcher_rowOf : (Nat → Int32)) (y_v_matcher_rowPrices : (Nat → Int64)) (y_v_row : (Nat → Int32)) (E : zE C RX2 cX2_matchAll 4 none ({ frames := 4, cells := 0, slots := 0, locals := 121 } : Room)) (hQ : C.Q = zQv C ({ frames := 4, cells := 0, slots := 0, locals := 121 } : Room) ((va_up (va_up (va_up (va_up (va_up (va_up (va_up (va_up (va_up I 10 y_v_above) 11 y_v_row) 12 y_v_goodWorths) 29 y_v_matcher_rowOf) 30 y_v_matcher_cameFrom) 31 y_v_matcher_isReached) 32 y_v_matcher_mates) 5 (va_up (I 5) 11 y_v_isMatched)) 9 y_v_fits), (va_up (va_up (va_up (zg J y_v_matcher_costs) 26 y_v_matcher_rowPrices) 27 y_v_matcher_columnPrices) 28 y_v_matcher_gaps), Rr, D)) (x1 : Int32) (v_isMatched : Int32) (v_goodWorths : (Nat → Int32)) (v_matcher_cameFrom : (Nat → Int32)) (v_matcher_columnPrices : (Nat → Int64)) (v_matcher_gaps : (Nat → Int64)) (v_matcher_isReached : (Nat → Int32)) (v_matcher_mates : (Nat → Int32)) (v_matcher_rowOf : (Nat → Int32)) (v_matcher_rowPrices : (Nat → Int64)) (k67 : (Nat → Int32) → (Nat → Int32) → (Nat → Nat → Int64) → (Nat → Int32) → Option R_pChest_matchAll) (hk67 : ∀ (v_above : (Nat → Int32)) (v_fits : (Nat → Int32)) (v_matcher_costs : (Nat → Nat → Int64)) (v_row : (Nat → Int32)), k67 v_above v_fits v_matcher_costs v_row = some (y_v_isMatched, y_v_above, y_v_fits, y_v_goodWorths, y_v_matcher_cameFrom, y_v_matcher_columnPrices, y_v_matcher_costs, y_v_matcher_gaps, y_v_matcher_isReached, y_v_matcher_mates, y_v_matcher_rowOf, y_v_matcher_rowPrices, y_v_row) → zB C (0, 0) 67 [(0, .ref (C.X.1 + 5)), (1, .int x1)] [] ((va_up (va_up (va_up (va_up (va_up (va_up (va_up (va_up (va_up I 10 v_above) 11 v_row) 12 v_goodWorths) 29 v_matcher_rowOf) 30 v_matcher_cameFrom) 31 v_matcher_isReached) 32 v_matcher_mates) 5 (va_up (I 5) 11 v_isMatched)) 9 v_fits), (va_up (va_up (va_up (zg J v_matcher_costs) 26 v_matcher_rowPrices) 27 v_matcher_columnPrices) 28 v_matcher_gaps), Rr, D)) : ∀ (n9 : Nat) (x2 : Int32) (v_above : (Nat → Int32)) (v_fits : (Nat → Int32)) (v_matcher_costs : (Nat → Nat → Int64)) (v_row : (Nat → Int32)), pChest_matchAll_b25 N v_grain v_limit v_lost v_places v_sizes v_worths x1 v_isMatched v_goodWorths v_matcher_cameFrom v_matcher_columnPrices v_matcher_gaps v_matcher_isReached v_matcher_mates v_matcher_rowOf v_matcher_rowPrices k67 n9 x2 v_above v_fits v_matcher_costs v_row = some (y_v_isMatched, y_v_above, y_v_fits, y_v_goodWorths, y_v_matcher_cameFrom, y_v_matcher_columnPrices, y_v_matcher_costs, y_v_matcher_gaps, y_v_matcher_isReached, y_v_matcher_mates, y_v_matcher_rowOf, y_v_matcher_rowPrices, y_v_row) → zB C (0, 0) 25 [(0, .ref (C.X.1 + 5)), (1, .int x1), (2, .int x2)] [] ((va_up (va_up (va_up (va_up (va_up (va_up (va_up (va_up (va_up I 10 v_above) 11 v_row) 12 v_goodWorths) 29 v_matcher_rowOf) 30 v_matcher_cameFrom) 31 v_matcher_isReached) 32 v_matcher_mates) 5 (va_up (I 5) 11 v_isMatched)) 9 v_fits), (va_up (va_up (va_up (zg J v_matcher_costs) 26 v_matcher_rowPrices) 27 v_matcher_columnPrices) 28 v_matcher_gaps), Rr, D) := by
  refine zlp5_ind (P := fun (x2 : Int32) (v_above : (Nat → Int32)) (v_fits : (Nat → Int32)) (v_matcher_costs : (Nat → Nat → Int64)) (v_row : (Nat → Int32)) => zB C (0, 0) 25 [(0, .ref (C.X.1 + 5)), (1, .int x1), (2, .int x2)] [] ((va_up (va_up (va_up (va_up (va_up (va_up (va_up (va_up (va_up I 10 v_above) 11 v_row) 12 v_goodWorths) 29 v_matcher_rowOf) 30 v_matcher_cameFrom) 31 v_matcher_isReached) 32 v_matcher_mates) 5 (va_up (I 5) 11 v_isMatched)) 9 v_fits), (va_up (va_up (va_up (zg J v_matcher_costs) 26 v_matcher_rowPrices) 27 v_matcher_columnPrices) 28 v_matcher_gaps), Rr, D)) (fun self ih => ?_)
  intro x2 v_above v_fits v_matcher_costs v_row h
  refine zb_iload_n E dX2_matchAll_25 2 rfl rfl ?_
  refine zb_bipush E dX2_matchAll_26 (v := 10) rfl ?_
  refine zb_icmp_ge E dX2_matchAll_28 (tgt := 67) rfl (fun hc => ?_) (fun hc => ?_)
  · have h := if_t h hc
    refine zb_sub [0, 1] rfl ?_
    exact hk67 v_above v_fits v_matcher_costs v_row h
  · have h := if_f h hc
    refine zb_aload_n E dX2_matchAll_31 0 rfl rfl ?_
    refine zb_iload_n E dX2_matchAll_32 1 rfl rfl ?_
    refine zb_iload_n E dX2_matchAll_33 2 rfl rfl ?_
    obtain ⟨rc3, v_above_c3, v_fits_c3, v_row_c3, hc_34, h⟩ := bd4_s h
    refine zb_cVi E [.int x1, .int x2] 5 zy_X2_fitOf zw_574 (by decide) (zF_5 _ _ _ _) rfl (c_X2_fitOf v_grain (by exact e_v_grain) v_lost (by exact e_v_lost) v_places (by exact e_v_places) v_sizes (by exact e_v_sizes) v_worths (by exact e_v_worths) v_above rfl v_fits rfl v_row rfl hc_34) (by decide) rfl rfl (by first | decide | simp [Value.category]) dX2_matchAll_34 (cs2 := (0, 0)) rfl ?_
    refine zb_S (S2 := ((va_up (va_up (va_up (va_up (va_up (va_up (va_up (va_up (va_up I 10 v_above_c3) 11 v_row_c3) 12 v_goodWorths) 29 v_matcher_rowOf) 30 v_matcher_cameFrom) 31 v_matcher_isReached) 32 v_matcher_mates) 5 (va_up (I 5) 11 v_isMatched)) 9 v_fits_c3), (va_up (va_up (va_up (zg J v_matcher_costs) 26 v_matcher_rowPrices) 27 v_matcher_columnPrices) 28 v_matcher_gaps), Rr, D)) (zS_eq ((zcgF ((zcgF (zn9 (by decide : (9 : Nat) ≠ 10) (by decide : (5 : Nat) ≠ 10) (by decide : (32 : Nat) ≠ 10) (by decide : (31 : Nat) ≠ 10) (by decide : (30 : Nat) ≠ 10) (by decide : (29 : Nat) ≠ 10) (by decide : (12 : Nat) ≠ 10) (by decide : (11 : Nat) ≠ 10))).trans (zn8 (by decide : (9 : Nat) ≠ 11) (by decide : (5 : Nat) ≠ 11) (by decide : (32 : Nat) ≠ 11) (by decide : (31 : Nat) ≠ 11) (by decide : (30 : Nat) ≠ 11) (by decide : (29 : Nat) ≠ 11) (by decide : (12 : Nat) ≠ 11)))).trans zn1) rfl) ?_
    refine zb_istore_n E dX2_matchAll_37 rfl (by decide) (lv2 := [(3, .int rc3), (0, .ref (C.X.1 + 5)), (1, .int x1), (2, .int x2)]) rfl ?_
    refine zb_iload_n E dX2_matchAll_38 0 rfl rfl ?_
    refine zb_iconst E dX2_matchAll_39 (v := (-1)) rfl ?_
    refine zb_icmp_eq E dX2_matchAll_40 (tgt := 61) rfl (fun hc => ?_) (fun hc => ?_)
    · have h := if_t h hc
      refine zb_iinc E dX2_matchAll_61 3 rfl (v := (x2 + 1)) rfl (by decide) (lv2 := [(2, .int (x2 + 1)), (3, .int rc3), (0, .ref (C.X.1 + 5)), (1, .int x1)]) rfl ?_
      refine zb_goto E dX2_matchAll_64 (tgt := 25) rfl ?_
      refine zb_sub [2, 3, 0] rfl ?_
      exact ih (x2 + 1) v_above_c3 v_fits_c3 v_matcher_costs v_row_c3 h
    · have h := if_f h hc
      refine zb_iload_n E dX2_matchAll_43 0 rfl rfl ?_
      refine zb_aload_n E dX2_matchAll_44 1 rfl rfl ?_
      refine zb_get E 5 (by decide) (zF_5 C.X) rfl zin2 10 (by decide) zw_100 (v := .int v_limit) (by exact congrArg (fun z => some (Value.int z)) e_v_limit) dX2_matchAll_45 ?_
      refine zb_icmp_gt E dX2_matchAll_48 (tgt := 61) rfl (fun hc => ?_) (fun hc => ?_)
      · have h := if_t h hc
        refine zb_iinc E dX2_matchAll_61 3 rfl (v := (x2 + 1)) rfl (by decide) (lv2 := [(2, .int (x2 + 1)), (3, .int rc3), (0, .ref (C.X.1 + 5)), (1, .int x1)]) rfl ?_
        refine zb_goto E dX2_matchAll_64 (tgt := 25) rfl ?_
        refine zb_sub [2, 3, 0] rfl ?_
        exact ih (x2 + 1) v_above_c3 v_fits_c3 v_matcher_costs v_row_c3 h
      · have h := if_f h hc
        refine zb_aload_n E dX2_matchAll_51 1 rfl rfl ?_
        refine zb_get E 5 (by decide) (zF_5 C.X) rfl zin2 7 (by decide) zw_97 (v := .ref (C.X.1 + 13)) rfl dX2_matchAll_52 ?_
        refine zb_iload_n E dX2_matchAll_55 2 rfl rfl ?_
        refine zb_iload_n E dX2_matchAll_56 3 rfl rfl ?_
        refine zb_iload_n E dX2_matchAll_57 0 rfl rfl ?_
        obtain ⟨v_matcher_costs_c4, hc_58, h⟩ := bd1_s h
        refine zb_cVv E [.int x1, .int x2, .int rc3] 13 zy_X6_allow zw_575 (by decide) (zF_13 _ _ _ _) rfl (c_X6_allow v_matcher_costs (by exact fun q hq => (zup_n (zgne hq (by decide : (28 : Nat) < 15 ∨ 26 ≤ (28 : Nat)))).trans ((zup_n (zgne hq (by decide : (27 : Nat) < 15 ∨ 26 ≤ (27 : Nat)))).trans ((zup_n (zgne hq (by decide : (26 : Nat) < 15 ∨ 26 ≤ (26 : Nat)))).trans (zg_at hq)))) hc_58) (by decide) rfl rfl (by first | decide | simp [Value.category]) dX2_matchAll_58 (cs2 := (0, 0)) rfl ?_
        refine zb_S (S2 := ((va_up (va_up (va_up (va_up (va_up (va_up (va_up (va_up (va_up I 10 v_above_c3) 11 v_row_c3) 12 v_goodWorths) 29 v_matcher_rowOf) 30 v_matcher_cameFrom) 31 v_matcher_isReached) 32 v_matcher_mates) 5 (va_up (I 5) 11 v_isMatched)) 9 v_fits_c3), (va_up (va_up (va_up (zg J v_matcher_costs_c4) 26 v_matcher_rowPrices) 27 v_matcher_columnPrices) 28 v_matcher_gaps), Rr, D)) (zS_eq rfl ((zgc (by decide : (28 : Nat) < 15 ∨ 26 ≤ (28 : Nat))).trans (zcgF ((zgc (by decide : (27 : Nat) < 15 ∨ 26 ≤ (27 : Nat))).trans (zcgF ((zgc (by decide : (26 : Nat) < 15 ∨ 26 ≤ (26 : Nat))).trans (zcgF zg_zg))))))) ?_
        refine zb_iinc E dX2_matchAll_61 3 rfl (v := (x2 + 1)) rfl (by decide) (lv2 := [(2, .int (x2 + 1)), (3, .int rc3), (0, .ref (C.X.1 + 5)), (1, .int x1)]) rfl ?_
        refine zb_goto E dX2_matchAll_64 (tgt := 25) rfl ?_
        refine zb_sub [2, 3, 0] rfl ?_
        exact ih (x2 + 1) v_above_c3 v_fits_c3 v_matcher_costs_c4 v_row_c3 h
theorem c_X2_matchAll_b67 {C : zC} {I : Nat → Nat → Int32} {J : Nat → Nat → Int64} {Rr : Nat → Nat → Option Nat} {D : zD} (N : Nat) (v_grain : Int32) (e_v_grain : I 5 8 = v_grain) (v_limit : Int32) (e_v_limit : I 5 10 = v_limit) (v_lost : Int32) (e_v_lost : I 5 9 = v_lost) (v_places : (Nat → Int32)) (e_v_places : I 6 = v_places) (v_sizes : (Nat → Int32)) (e_v_sizes : I 8 = v_sizes) (v_worths : (Nat → Int32)) (e_v_worths : I 7 = v_worths) (y_v_isMatched : Int32) (y_v_above : (Nat → Int32)) (y_v_fits : (Nat → Int32)) (y_v_goodWorths : (Nat → Int32)) (y_v_matcher_cameFrom : (Nat → Int32)) (y_v_matcher_columnPrices : (Nat → Int64)) (y_v_matcher_costs : (Nat → Nat → Int64)) (y_v_matcher_gaps : (Nat → Int64)) (y_v_matcher_isReached : (Nat → Int32)) (y_v_matcher_mates : (Nat → Int32)) (y_v_matcher_rowOf : (Nat → Int32)) (y_v_matcher_rowPrices : (Nat → Int64)) (y_v_row : (Nat → Int32)) (E : zE C RX2 cX2_matchAll 4 none ({ frames := 4, cells := 0, slots := 0, locals := 121 } : Room)) (hQ : C.Q = zQv C ({ frames := 4, cells := 0, slots := 0, locals := 121 } : Room) ((va_up (va_up (va_up (va_up (va_up (va_up (va_up (va_up (va_up I 10 y_v_above) 11 y_v_row) 12 y_v_goodWorths) 29 y_v_matcher_rowOf) 30 y_v_matcher_cameFrom) 31 y_v_matcher_isReached) 32 y_v_matcher_mates) 5 (va_up (I 5) 11 y_v_isMatched)) 9 y_v_fits), (va_up (va_up (va_up (zg J y_v_matcher_costs) 26 y_v_matcher_rowPrices) 27 y_v_matcher_columnPrices) 28 y_v_matcher_gaps), Rr, D)) (x1 : Int32) (v_isMatched : Int32) (v_above : (Nat → Int32)) (v_fits : (Nat → Int32)) (v_goodWorths : (Nat → Int32)) (v_matcher_cameFrom : (Nat → Int32)) (v_matcher_columnPrices : (Nat → Int64)) (v_matcher_costs : (Nat → Nat → Int64)) (v_matcher_gaps : (Nat → Int64)) (v_matcher_isReached : (Nat → Int32)) (v_matcher_mates : (Nat → Int32)) (v_matcher_rowOf : (Nat → Int32)) (v_matcher_rowPrices : (Nat → Int64)) (v_row : (Nat → Int32)) (self : Int32 → (Nat → Int32) → (Nat → Int32) → (Nat → Nat → Int64) → (Nat → Int32) → Option R_pChest_matchAll) (ih : ∀ (x1 : Int32) (v_above : (Nat → Int32)) (v_fits : (Nat → Int32)) (v_matcher_costs : (Nat → Nat → Int64)) (v_row : (Nat → Int32)), self x1 v_above v_fits v_matcher_costs v_row = some (y_v_isMatched, y_v_above, y_v_fits, y_v_goodWorths, y_v_matcher_cameFrom, y_v_matcher_columnPrices, y_v_matcher_costs, y_v_matcher_gaps, y_v_matcher_isReached, y_v_matcher_mates, y_v_matcher_rowOf, y_v_matcher_rowPrices, y_v_row) → zB C (0, 0) 17 [(0, .ref (C.X.1 + 5)), (1, .int x1)] [] ((va_up (va_up (va_up (va_up (va_up (va_up (va_up (va_up (va_up I 10 v_above) 11 v_row) 12 v_goodWorths) 29 v_matcher_rowOf) 30 v_matcher_cameFrom) 31 v_matcher_isReached) 32 v_matcher_mates) 5 (va_up (I 5) 11 v_isMatched)) 9 v_fits), (va_up (va_up (va_up (zg J v_matcher_costs) 26 v_matcher_rowPrices) 27 v_matcher_columnPrices) 28 v_matcher_gaps), Rr, D)) (k73 : (Nat → Int32) → (Nat → Int32) → (Nat → Nat → Int64) → (Nat → Int32) → Option R_pChest_matchAll) (hk73 : ∀ (v_above : (Nat → Int32)) (v_fits : (Nat → Int32)) (v_matcher_costs : (Nat → Nat → Int64)) (v_row : (Nat → Int32)), k73 v_above v_fits v_matcher_costs v_row = some (y_v_isMatched, y_v_above, y_v_fits, y_v_goodWorths, y_v_matcher_cameFrom, y_v_matcher_columnPrices, y_v_matcher_costs, y_v_matcher_gaps, y_v_matcher_isReached, y_v_matcher_mates, y_v_matcher_rowOf, y_v_matcher_rowPrices, y_v_row) → zB C (0, 0) 73 [(0, .ref (C.X.1 + 5))] [] ((va_up (va_up (va_up (va_up (va_up (va_up (va_up (va_up (va_up I 10 v_above) 11 v_row) 12 v_goodWorths) 29 v_matcher_rowOf) 30 v_matcher_cameFrom) 31 v_matcher_isReached) 32 v_matcher_mates) 5 (va_up (I 5) 11 v_isMatched)) 9 v_fits), (va_up (va_up (va_up (zg J v_matcher_costs) 26 v_matcher_rowPrices) 27 v_matcher_columnPrices) 28 v_matcher_gaps), Rr, D)) (h : pChest_matchAll_b67 N v_grain v_limit v_lost v_places v_sizes v_worths self k73 x1 v_isMatched v_above v_fits v_goodWorths v_matcher_cameFrom v_matcher_columnPrices v_matcher_costs v_matcher_gaps v_matcher_isReached v_matcher_mates v_matcher_rowOf v_matcher_rowPrices v_row = some (y_v_isMatched, y_v_above, y_v_fits, y_v_goodWorths, y_v_matcher_cameFrom, y_v_matcher_columnPrices, y_v_matcher_costs, y_v_matcher_gaps, y_v_matcher_isReached, y_v_matcher_mates, y_v_matcher_rowOf, y_v_matcher_rowPrices, y_v_row)) : zB C (0, 0) 67 [(0, .ref (C.X.1 + 5)), (1, .int x1)] [] ((va_up (va_up (va_up (va_up (va_up (va_up (va_up (va_up (va_up I 10 v_above) 11 v_row) 12 v_goodWorths) 29 v_matcher_rowOf) 30 v_matcher_cameFrom) 31 v_matcher_isReached) 32 v_matcher_mates) 5 (va_up (I 5) 11 v_isMatched)) 9 v_fits), (va_up (va_up (va_up (zg J v_matcher_costs) 26 v_matcher_rowPrices) 27 v_matcher_columnPrices) 28 v_matcher_gaps), Rr, D) := by
  refine zb_iinc E dX2_matchAll_67 1 rfl (v := (x1 + 1)) rfl (by decide) (lv2 := [(1, .int (x1 + 1)), (0, .ref (C.X.1 + 5))]) rfl ?_
  refine zb_goto E dX2_matchAll_70 (tgt := 17) rfl ?_
  refine zb_sub [1, 0] rfl ?_
  exact ih (x1 + 1) v_above v_fits v_matcher_costs v_row h
theorem c_X2_matchAll_b17 {C : zC} {I : Nat → Nat → Int32} {J : Nat → Nat → Int64} {Rr : Nat → Nat → Option Nat} {D : zD} (N : Nat) (v_grain : Int32) (e_v_grain : I 5 8 = v_grain) (v_limit : Int32) (e_v_limit : I 5 10 = v_limit) (v_lost : Int32) (e_v_lost : I 5 9 = v_lost) (v_places : (Nat → Int32)) (e_v_places : I 6 = v_places) (v_sizes : (Nat → Int32)) (e_v_sizes : I 8 = v_sizes) (v_worths : (Nat → Int32)) (e_v_worths : I 7 = v_worths) (y_v_isMatched : Int32) (y_v_above : (Nat → Int32)) (y_v_fits : (Nat → Int32)) (y_v_goodWorths : (Nat → Int32)) (y_v_matcher_cameFrom : (Nat → Int32)) (y_v_matcher_columnPrices : (Nat → Int64)) (y_v_matcher_costs : (Nat → Nat → Int64)) (y_v_matcher_gaps : (Nat → Int64)) (y_v_matcher_isReached : (Nat → Int32)) (y_v_matcher_mates : (Nat → Int32)) (y_v_matcher_rowOf : (Nat → Int32)) (y_v_matcher_rowPrices : (Nat → Int64)) (y_v_row : (Nat → Int32)) (E : zE C RX2 cX2_matchAll 4 none ({ frames := 4, cells := 0, slots := 0, locals := 121 } : Room)) (hQ : C.Q = zQv C ({ frames := 4, cells := 0, slots := 0, locals := 121 } : Room) ((va_up (va_up (va_up (va_up (va_up (va_up (va_up (va_up (va_up I 10 y_v_above) 11 y_v_row) 12 y_v_goodWorths) 29 y_v_matcher_rowOf) 30 y_v_matcher_cameFrom) 31 y_v_matcher_isReached) 32 y_v_matcher_mates) 5 (va_up (I 5) 11 y_v_isMatched)) 9 y_v_fits), (va_up (va_up (va_up (zg J y_v_matcher_costs) 26 y_v_matcher_rowPrices) 27 y_v_matcher_columnPrices) 28 y_v_matcher_gaps), Rr, D)) (v_isMatched : Int32) (v_goodWorths : (Nat → Int32)) (v_matcher_cameFrom : (Nat → Int32)) (v_matcher_columnPrices : (Nat → Int64)) (v_matcher_gaps : (Nat → Int64)) (v_matcher_isReached : (Nat → Int32)) (v_matcher_mates : (Nat → Int32)) (v_matcher_rowOf : (Nat → Int32)) (v_matcher_rowPrices : (Nat → Int64)) (k73 : (Nat → Int32) → (Nat → Int32) → (Nat → Nat → Int64) → (Nat → Int32) → Option R_pChest_matchAll) (hk73 : ∀ (v_above : (Nat → Int32)) (v_fits : (Nat → Int32)) (v_matcher_costs : (Nat → Nat → Int64)) (v_row : (Nat → Int32)), k73 v_above v_fits v_matcher_costs v_row = some (y_v_isMatched, y_v_above, y_v_fits, y_v_goodWorths, y_v_matcher_cameFrom, y_v_matcher_columnPrices, y_v_matcher_costs, y_v_matcher_gaps, y_v_matcher_isReached, y_v_matcher_mates, y_v_matcher_rowOf, y_v_matcher_rowPrices, y_v_row) → zB C (0, 0) 73 [(0, .ref (C.X.1 + 5))] [] ((va_up (va_up (va_up (va_up (va_up (va_up (va_up (va_up (va_up I 10 v_above) 11 v_row) 12 v_goodWorths) 29 v_matcher_rowOf) 30 v_matcher_cameFrom) 31 v_matcher_isReached) 32 v_matcher_mates) 5 (va_up (I 5) 11 v_isMatched)) 9 v_fits), (va_up (va_up (va_up (zg J v_matcher_costs) 26 v_matcher_rowPrices) 27 v_matcher_columnPrices) 28 v_matcher_gaps), Rr, D)) : ∀ (n9 : Nat) (x1 : Int32) (v_above : (Nat → Int32)) (v_fits : (Nat → Int32)) (v_matcher_costs : (Nat → Nat → Int64)) (v_row : (Nat → Int32)), pChest_matchAll_b17 N v_grain v_limit v_lost v_places v_sizes v_worths v_isMatched v_goodWorths v_matcher_cameFrom v_matcher_columnPrices v_matcher_gaps v_matcher_isReached v_matcher_mates v_matcher_rowOf v_matcher_rowPrices k73 n9 x1 v_above v_fits v_matcher_costs v_row = some (y_v_isMatched, y_v_above, y_v_fits, y_v_goodWorths, y_v_matcher_cameFrom, y_v_matcher_columnPrices, y_v_matcher_costs, y_v_matcher_gaps, y_v_matcher_isReached, y_v_matcher_mates, y_v_matcher_rowOf, y_v_matcher_rowPrices, y_v_row) → zB C (0, 0) 17 [(0, .ref (C.X.1 + 5)), (1, .int x1)] [] ((va_up (va_up (va_up (va_up (va_up (va_up (va_up (va_up (va_up I 10 v_above) 11 v_row) 12 v_goodWorths) 29 v_matcher_rowOf) 30 v_matcher_cameFrom) 31 v_matcher_isReached) 32 v_matcher_mates) 5 (va_up (I 5) 11 v_isMatched)) 9 v_fits), (va_up (va_up (va_up (zg J v_matcher_costs) 26 v_matcher_rowPrices) 27 v_matcher_columnPrices) 28 v_matcher_gaps), Rr, D) := by
  refine zlp5_ind (P := fun (x1 : Int32) (v_above : (Nat → Int32)) (v_fits : (Nat → Int32)) (v_matcher_costs : (Nat → Nat → Int64)) (v_row : (Nat → Int32)) => zB C (0, 0) 17 [(0, .ref (C.X.1 + 5)), (1, .int x1)] [] ((va_up (va_up (va_up (va_up (va_up (va_up (va_up (va_up (va_up I 10 v_above) 11 v_row) 12 v_goodWorths) 29 v_matcher_rowOf) 30 v_matcher_cameFrom) 31 v_matcher_isReached) 32 v_matcher_mates) 5 (va_up (I 5) 11 v_isMatched)) 9 v_fits), (va_up (va_up (va_up (zg J v_matcher_costs) 26 v_matcher_rowPrices) 27 v_matcher_columnPrices) 28 v_matcher_gaps), Rr, D)) (fun self ih => ?_)
  intro x1 v_above v_fits v_matcher_costs v_row h
  refine zb_iload_n E dX2_matchAll_17 1 rfl rfl ?_
  refine zb_bipush E dX2_matchAll_18 (v := 10) rfl ?_
  refine zb_icmp_ge E dX2_matchAll_20 (tgt := 73) rfl (fun hc => ?_) (fun hc => ?_)
  · have h := if_t h hc
    refine zb_sub [0] rfl ?_
    exact hk73 v_above v_fits v_matcher_costs v_row h
  · have h := if_f h hc
    refine zb_iconst E dX2_matchAll_23 (v := 0) rfl ?_
    refine zb_istore_n E dX2_matchAll_24 rfl (by decide) (lv2 := [(2, .int 0), (0, .ref (C.X.1 + 5)), (1, .int x1)]) rfl ?_
    refine zb_sub [1, 2, 0] rfl ?_
    exact c_X2_matchAll_b25 N v_grain e_v_grain v_limit e_v_limit v_lost e_v_lost v_places e_v_places v_sizes e_v_sizes v_worths e_v_worths y_v_isMatched y_v_above y_v_fits y_v_goodWorths y_v_matcher_cameFrom y_v_matcher_columnPrices y_v_matcher_costs y_v_matcher_gaps y_v_matcher_isReached y_v_matcher_mates y_v_matcher_rowOf y_v_matcher_rowPrices y_v_row E hQ x1 v_isMatched v_goodWorths v_matcher_cameFrom v_matcher_columnPrices v_matcher_gaps v_matcher_isReached v_matcher_mates v_matcher_rowOf v_matcher_rowPrices _ (fun v_above_z1 v_fits_z2 v_matcher_costs_z3 v_row_z4 h => c_X2_matchAll_b67 N v_grain e_v_grain v_limit e_v_limit v_lost e_v_lost v_places e_v_places v_sizes e_v_sizes v_worths e_v_worths y_v_isMatched y_v_above y_v_fits y_v_goodWorths y_v_matcher_cameFrom y_v_matcher_columnPrices y_v_matcher_costs y_v_matcher_gaps y_v_matcher_isReached y_v_matcher_mates y_v_matcher_rowOf y_v_matcher_rowPrices y_v_row E hQ x1 v_isMatched v_above_z1 v_fits_z2 v_goodWorths v_matcher_cameFrom v_matcher_columnPrices v_matcher_costs_z3 v_matcher_gaps v_matcher_isReached v_matcher_mates v_matcher_rowOf v_matcher_rowPrices v_row_z4 self ih k73 hk73 h) _ 0 v_above v_fits v_matcher_costs v_row h
theorem c_X2_matchAll_b114 {C : zC} {I : Nat → Nat → Int32} {J : Nat → Nat → Int64} {Rr : Nat → Nat → Option Nat} {D : zD} (N : Nat) (v_grain : Int32) (e_v_grain : I 5 8 = v_grain) (v_limit : Int32) (e_v_limit : I 5 10 = v_limit) (v_lost : Int32) (e_v_lost : I 5 9 = v_lost) (v_places : (Nat → Int32)) (e_v_places : I 6 = v_places) (v_sizes : (Nat → Int32)) (e_v_sizes : I 8 = v_sizes) (v_worths : (Nat → Int32)) (e_v_worths : I 7 = v_worths) (y_v_isMatched : Int32) (y_v_above : (Nat → Int32)) (y_v_fits : (Nat → Int32)) (y_v_goodWorths : (Nat → Int32)) (y_v_matcher_cameFrom : (Nat → Int32)) (y_v_matcher_columnPrices : (Nat → Int64)) (y_v_matcher_costs : (Nat → Nat → Int64)) (y_v_matcher_gaps : (Nat → Int64)) (y_v_matcher_isReached : (Nat → Int32)) (y_v_matcher_mates : (Nat → Int32)) (y_v_matcher_rowOf : (Nat → Int32)) (y_v_matcher_rowPrices : (Nat → Int64)) (y_v_row : (Nat → Int32)) (E : zE C RX2 cX2_matchAll 4 none ({ frames := 4, cells := 0, slots := 0, locals := 121 } : Room)) (hQ : C.Q = zQv C ({ frames := 4, cells := 0, slots := 0, locals := 121 } : Room) ((va_up (va_up (va_up (va_up (va_up (va_up (va_up (va_up (va_up I 10 y_v_above) 11 y_v_row) 12 y_v_goodWorths) 29 y_v_matcher_rowOf) 30 y_v_matcher_cameFrom) 31 y_v_matcher_isReached) 32 y_v_matcher_mates) 5 (va_up (I 5) 11 y_v_isMatched)) 9 y_v_fits), (va_up (va_up (va_up (zg J y_v_matcher_costs) 26 y_v_matcher_rowPrices) 27 y_v_matcher_columnPrices) 28 y_v_matcher_gaps), Rr, D)) (x1 : Int32) (s1 : Int32) (s2 : Int32) (v_isMatched : Int32) (v_above : (Nat → Int32)) (v_fits : (Nat → Int32)) (v_goodWorths : (Nat → Int32)) (v_matcher_cameFrom : (Nat → Int32)) (v_matcher_columnPrices : (Nat → Int64)) (v_matcher_costs : (Nat → Nat → Int64)) (v_matcher_gaps : (Nat → Int64)) (v_matcher_isReached : (Nat → Int32)) (v_matcher_mates : (Nat → Int32)) (v_matcher_rowOf : (Nat → Int32)) (v_matcher_rowPrices : (Nat → Int64)) (v_row : (Nat → Int32)) (self : Int32 → (Nat → Int32) → Option R_pChest_matchAll) (ih : ∀ (x1 : Int32) (v_goodWorths : (Nat → Int32)), self x1 v_goodWorths = some (y_v_isMatched, y_v_above, y_v_fits, y_v_goodWorths, y_v_matcher_cameFrom, y_v_matcher_columnPrices, y_v_matcher_costs, y_v_matcher_gaps, y_v_matcher_isReached, y_v_matcher_mates, y_v_matcher_rowOf, y_v_matcher_rowPrices, y_v_row) → zB C (0, 0) 82 [(0, .ref (C.X.1 + 5)), (1, .int x1)] [] ((va_up (va_up (va_up (va_up (va_up (va_up (va_up (va_up (va_up I 10 v_above) 11 v_row) 12 v_goodWorths) 29 v_matcher_rowOf) 30 v_matcher_cameFrom) 31 v_matcher_isReached) 32 v_matcher_mates) 5 (va_up (I 5) 11 v_isMatched)) 9 v_fits), (va_up (va_up (va_up (zg J v_matcher_costs) 26 v_matcher_rowPrices) 27 v_matcher_columnPrices) 28 v_matcher_gaps), Rr, D)) (h : pChest_matchAll_b114 N v_grain v_limit v_lost v_places v_sizes v_worths self x1 s1 s2 v_isMatched v_above v_fits v_goodWorths v_matcher_cameFrom v_matcher_columnPrices v_matcher_costs v_matcher_gaps v_matcher_isReached v_matcher_mates v_matcher_rowOf v_matcher_rowPrices v_row = some (y_v_isMatched, y_v_above, y_v_fits, y_v_goodWorths, y_v_matcher_cameFrom, y_v_matcher_columnPrices, y_v_matcher_costs, y_v_matcher_gaps, y_v_matcher_isReached, y_v_matcher_mates, y_v_matcher_rowOf, y_v_matcher_rowPrices, y_v_row)) : zB C (0, 0) 114 [(0, .ref (C.X.1 + 5)), (1, .int x1)] [.int s2, .int s1, .ref (C.X.1 + 12)] ((va_up (va_up (va_up (va_up (va_up (va_up (va_up (va_up (va_up I 10 v_above) 11 v_row) 12 v_goodWorths) 29 v_matcher_rowOf) 30 v_matcher_cameFrom) 31 v_matcher_isReached) 32 v_matcher_mates) 5 (va_up (I 5) 11 v_isMatched)) 9 v_fits), (va_up (va_up (va_up (zg J v_matcher_costs) 26 v_matcher_rowPrices) 27 v_matcher_columnPrices) 28 v_matcher_gaps), Rr, D) := by
  obtain ⟨g7, h⟩ := gd_s h
  refine zb_iast E 12 (by decide) zF_12 (f := v_goodWorths) rfl (ib_in g7) dX2_matchAll_114 (I2 := (va_up (va_up (va_up (va_up (va_up (va_up (va_up (va_up (va_up I 10 v_above) 11 v_row) 12 (upd v_goodWorths (ix s1) s2)) 29 v_matcher_rowOf) 30 v_matcher_cameFrom) 31 v_matcher_isReached) 32 v_matcher_mates) 5 (va_up (I 5) 11 v_isMatched)) 9 v_fits)) (zn7 (by decide : (9 : Nat) ≠ 12) (by decide : (5 : Nat) ≠ 12) (by decide : (32 : Nat) ≠ 12) (by decide : (31 : Nat) ≠ 12) (by decide : (30 : Nat) ≠ 12) (by decide : (29 : Nat) ≠ 12)) ?_
  refine zb_iinc E dX2_matchAll_115 1 rfl (v := (x1 + 1)) rfl (by decide) (lv2 := [(1, .int (x1 + 1)), (0, .ref (C.X.1 + 5))]) rfl ?_
  refine zb_goto E dX2_matchAll_118 (tgt := 82) rfl ?_
  refine zb_sub [1, 0] rfl ?_
  exact ih (x1 + 1) (upd v_goodWorths (ix s1) s2) h
theorem c_X2_matchAll_b82 {C : zC} {I : Nat → Nat → Int32} {J : Nat → Nat → Int64} {Rr : Nat → Nat → Option Nat} {D : zD} (N : Nat) (v_grain : Int32) (e_v_grain : I 5 8 = v_grain) (v_limit : Int32) (e_v_limit : I 5 10 = v_limit) (v_lost : Int32) (e_v_lost : I 5 9 = v_lost) (v_places : (Nat → Int32)) (e_v_places : I 6 = v_places) (v_sizes : (Nat → Int32)) (e_v_sizes : I 8 = v_sizes) (v_worths : (Nat → Int32)) (e_v_worths : I 7 = v_worths) (y_v_isMatched : Int32) (y_v_above : (Nat → Int32)) (y_v_fits : (Nat → Int32)) (y_v_goodWorths : (Nat → Int32)) (y_v_matcher_cameFrom : (Nat → Int32)) (y_v_matcher_columnPrices : (Nat → Int64)) (y_v_matcher_costs : (Nat → Nat → Int64)) (y_v_matcher_gaps : (Nat → Int64)) (y_v_matcher_isReached : (Nat → Int32)) (y_v_matcher_mates : (Nat → Int32)) (y_v_matcher_rowOf : (Nat → Int32)) (y_v_matcher_rowPrices : (Nat → Int64)) (y_v_row : (Nat → Int32)) (E : zE C RX2 cX2_matchAll 4 none ({ frames := 4, cells := 0, slots := 0, locals := 121 } : Room)) (hQ : C.Q = zQv C ({ frames := 4, cells := 0, slots := 0, locals := 121 } : Room) ((va_up (va_up (va_up (va_up (va_up (va_up (va_up (va_up (va_up I 10 y_v_above) 11 y_v_row) 12 y_v_goodWorths) 29 y_v_matcher_rowOf) 30 y_v_matcher_cameFrom) 31 y_v_matcher_isReached) 32 y_v_matcher_mates) 5 (va_up (I 5) 11 y_v_isMatched)) 9 y_v_fits), (va_up (va_up (va_up (zg J y_v_matcher_costs) 26 y_v_matcher_rowPrices) 27 y_v_matcher_columnPrices) 28 y_v_matcher_gaps), Rr, D)) (v_isMatched : Int32) (v_above : (Nat → Int32)) (v_fits : (Nat → Int32)) (v_matcher_cameFrom : (Nat → Int32)) (v_matcher_columnPrices : (Nat → Int64)) (v_matcher_costs : (Nat → Nat → Int64)) (v_matcher_gaps : (Nat → Int64)) (v_matcher_isReached : (Nat → Int32)) (v_matcher_mates : (Nat → Int32)) (v_matcher_rowOf : (Nat → Int32)) (v_matcher_rowPrices : (Nat → Int64)) (v_row : (Nat → Int32))  : ∀ (n9 : Nat) (x1 : Int32) (v_goodWorths : (Nat → Int32)), pChest_matchAll_b82 N v_grain v_limit v_lost v_places v_sizes v_worths v_isMatched v_above v_fits v_matcher_cameFrom v_matcher_columnPrices v_matcher_costs v_matcher_gaps v_matcher_isReached v_matcher_mates v_matcher_rowOf v_matcher_rowPrices v_row n9 x1 v_goodWorths = some (y_v_isMatched, y_v_above, y_v_fits, y_v_goodWorths, y_v_matcher_cameFrom, y_v_matcher_columnPrices, y_v_matcher_costs, y_v_matcher_gaps, y_v_matcher_isReached, y_v_matcher_mates, y_v_matcher_rowOf, y_v_matcher_rowPrices, y_v_row) → zB C (0, 0) 82 [(0, .ref (C.X.1 + 5)), (1, .int x1)] [] ((va_up (va_up (va_up (va_up (va_up (va_up (va_up (va_up (va_up I 10 v_above) 11 v_row) 12 v_goodWorths) 29 v_matcher_rowOf) 30 v_matcher_cameFrom) 31 v_matcher_isReached) 32 v_matcher_mates) 5 (va_up (I 5) 11 v_isMatched)) 9 v_fits), (va_up (va_up (va_up (zg J v_matcher_costs) 26 v_matcher_rowPrices) 27 v_matcher_columnPrices) 28 v_matcher_gaps), Rr, D) := by
  refine zlp2_ind (P := fun (x1 : Int32) (v_goodWorths : (Nat → Int32)) => zB C (0, 0) 82 [(0, .ref (C.X.1 + 5)), (1, .int x1)] [] ((va_up (va_up (va_up (va_up (va_up (va_up (va_up (va_up (va_up I 10 v_above) 11 v_row) 12 v_goodWorths) 29 v_matcher_rowOf) 30 v_matcher_cameFrom) 31 v_matcher_isReached) 32 v_matcher_mates) 5 (va_up (I 5) 11 v_isMatched)) 9 v_fits), (va_up (va_up (va_up (zg J v_matcher_costs) 26 v_matcher_rowPrices) 27 v_matcher_columnPrices) 28 v_matcher_gaps), Rr, D)) (fun self ih => ?_)
  intro x1 v_goodWorths h
  refine zb_iload_n E dX2_matchAll_82 1 rfl rfl ?_
  refine zb_bipush E dX2_matchAll_83 (v := 10) rfl ?_
  refine zb_icmp_ge E dX2_matchAll_85 (tgt := 121) rfl (fun hc => ?_) (fun hc => ?_)
  · have h := if_t h hc
    refine zb_aload_n E dX2_matchAll_121 0 rfl rfl ?_
    refine zb_iconst E dX2_matchAll_122 (v := 1) rfl ?_
    refine zb_put E 5 (by decide) (zF_5 C.X) rfl zin2 11 (by decide) zw_101 tyX2 tyX2_ok nmX2 rfl rfl rfl (I2 := (va_up (va_up (va_up (va_up (va_up (va_up (va_up (va_up (va_up I 10 v_above) 11 v_row) 12 v_goodWorths) 29 v_matcher_rowOf) 30 v_matcher_cameFrom) 31 v_matcher_isReached) 32 v_matcher_mates) 5 (va_up (I 5) 11 1)) 9 v_fits)) (J2 := (va_up (va_up (va_up (zg J v_matcher_costs) 26 v_matcher_rowPrices) 27 v_matcher_columnPrices) 28 v_matcher_gaps)) ((zset2_11 C.X (va_up (I 5) 11 v_isMatched) (J 5) 1).trans (congrArg (fun g => zf2 C.X g (J 5)) zn1)) (by rw [zflen2]; decide) (fun j hj => ⟨zup_cg ((zup_n hj).trans (zup_n hj).symm), rfl⟩) dX2_matchAll_123 ?_
    obtain ⟨rfl, rfl, rfl, rfl, rfl, rfl, rfl, rfl, rfl, rfl, rfl, rfl, rfl⟩ := zinj13 h
    exact zb_vret E hQ rfl ⟨Nat.zero_le _, Nat.zero_le _⟩ dX2_matchAll_126
  · have h := if_f h hc
    refine zb_aload_n E dX2_matchAll_88 0 rfl rfl ?_
    refine zb_get E 5 (by decide) (zF_5 C.X) rfl zin2 6 (by decide) zw_96 (v := .ref (C.X.1 + 12)) rfl dX2_matchAll_89 ?_
    refine zb_iload_n E dX2_matchAll_92 1 rfl rfl ?_
    refine zb_aload_n E dX2_matchAll_93 0 rfl rfl ?_
    refine zb_get E 5 (by decide) (zF_5 C.X) rfl zin2 7 (by decide) zw_97 (v := .ref (C.X.1 + 13)) rfl dX2_matchAll_94 ?_
    refine zb_iload_n E dX2_matchAll_97 1 rfl rfl ?_
    obtain ⟨rc5, hc_98, h⟩ := bd1_s h
    refine zb_cVi E [.int x1] 13 zy_X6_foilOf zw_604 (by decide) (zF_13 _ _ _ _) rfl (c_X6_foilOf v_matcher_mates rfl hc_98) (by decide) rfl rfl (by first | decide | simp [Value.category]) dX2_matchAll_98 (cs2 := (0, 0)) rfl ?_
    refine zb_iconst E dX2_matchAll_101 (v := (-1)) rfl ?_
    refine zb_icmp_ne E dX2_matchAll_102 (tgt := 109) rfl (fun hc => ?_) (fun hc => ?_)
    · have h := if_f h hc
      refine zb_aload_n E dX2_matchAll_109 0 rfl rfl ?_
      refine zb_iload_n E dX2_matchAll_110 1 rfl rfl ?_
      obtain ⟨rc6, hc_111, h⟩ := bd1_s h
      refine zb_cVi E [.int x1] 5 zy_X2_worthOf zw_608 (by decide) (zF_5 _ _ _ _) rfl (c_X2_worthOf v_sizes (by exact e_v_sizes) v_worths (by exact e_v_worths) hc_111) (by decide) rfl rfl (by first | decide | simp [Value.category]) dX2_matchAll_111 (cs2 := (0, 0)) rfl ?_
      exact c_X2_matchAll_b114 N v_grain e_v_grain v_limit e_v_limit v_lost e_v_lost v_places e_v_places v_sizes e_v_sizes v_worths e_v_worths y_v_isMatched y_v_above y_v_fits y_v_goodWorths y_v_matcher_cameFrom y_v_matcher_columnPrices y_v_matcher_costs y_v_matcher_gaps y_v_matcher_isReached y_v_matcher_mates y_v_matcher_rowOf y_v_matcher_rowPrices y_v_row E hQ x1 x1 rc6 v_isMatched v_above v_fits v_goodWorths v_matcher_cameFrom v_matcher_columnPrices v_matcher_costs v_matcher_gaps v_matcher_isReached v_matcher_mates v_matcher_rowOf v_matcher_rowPrices v_row self ih h
    · have h := if_t h hc
      refine zb_iconst E dX2_matchAll_105 (v := 0) rfl ?_
      refine zb_goto E dX2_matchAll_106 (tgt := 114) rfl ?_
      exact c_X2_matchAll_b114 N v_grain e_v_grain v_limit e_v_limit v_lost e_v_lost v_places e_v_places v_sizes e_v_sizes v_worths e_v_worths y_v_isMatched y_v_above y_v_fits y_v_goodWorths y_v_matcher_cameFrom y_v_matcher_columnPrices y_v_matcher_costs y_v_matcher_gaps y_v_matcher_isReached y_v_matcher_mates y_v_matcher_rowOf y_v_matcher_rowPrices y_v_row E hQ x1 x1 0 v_isMatched v_above v_fits v_goodWorths v_matcher_cameFrom v_matcher_columnPrices v_matcher_costs v_matcher_gaps v_matcher_isReached v_matcher_mates v_matcher_rowOf v_matcher_rowPrices v_row self ih h
theorem c_X2_matchAll_b73 {C : zC} {I : Nat → Nat → Int32} {J : Nat → Nat → Int64} {Rr : Nat → Nat → Option Nat} {D : zD} (N : Nat) (v_grain : Int32) (e_v_grain : I 5 8 = v_grain) (v_limit : Int32) (e_v_limit : I 5 10 = v_limit) (v_lost : Int32) (e_v_lost : I 5 9 = v_lost) (v_places : (Nat → Int32)) (e_v_places : I 6 = v_places) (v_sizes : (Nat → Int32)) (e_v_sizes : I 8 = v_sizes) (v_worths : (Nat → Int32)) (e_v_worths : I 7 = v_worths) (y_v_isMatched : Int32) (y_v_above : (Nat → Int32)) (y_v_fits : (Nat → Int32)) (y_v_goodWorths : (Nat → Int32)) (y_v_matcher_cameFrom : (Nat → Int32)) (y_v_matcher_columnPrices : (Nat → Int64)) (y_v_matcher_costs : (Nat → Nat → Int64)) (y_v_matcher_gaps : (Nat → Int64)) (y_v_matcher_isReached : (Nat → Int32)) (y_v_matcher_mates : (Nat → Int32)) (y_v_matcher_rowOf : (Nat → Int32)) (y_v_matcher_rowPrices : (Nat → Int64)) (y_v_row : (Nat → Int32)) (E : zE C RX2 cX2_matchAll 4 none ({ frames := 4, cells := 0, slots := 0, locals := 121 } : Room)) (hQ : C.Q = zQv C ({ frames := 4, cells := 0, slots := 0, locals := 121 } : Room) ((va_up (va_up (va_up (va_up (va_up (va_up (va_up (va_up (va_up I 10 y_v_above) 11 y_v_row) 12 y_v_goodWorths) 29 y_v_matcher_rowOf) 30 y_v_matcher_cameFrom) 31 y_v_matcher_isReached) 32 y_v_matcher_mates) 5 (va_up (I 5) 11 y_v_isMatched)) 9 y_v_fits), (va_up (va_up (va_up (zg J y_v_matcher_costs) 26 y_v_matcher_rowPrices) 27 y_v_matcher_columnPrices) 28 y_v_matcher_gaps), Rr, D)) (v_isMatched : Int32) (v_above : (Nat → Int32)) (v_fits : (Nat → Int32)) (v_goodWorths : (Nat → Int32)) (v_matcher_cameFrom : (Nat → Int32)) (v_matcher_columnPrices : (Nat → Int64)) (v_matcher_costs : (Nat → Nat → Int64)) (v_matcher_gaps : (Nat → Int64)) (v_matcher_isReached : (Nat → Int32)) (v_matcher_mates : (Nat → Int32)) (v_matcher_rowOf : (Nat → Int32)) (v_matcher_rowPrices : (Nat → Int64)) (v_row : (Nat → Int32)) (h : pChest_matchAll_b73 N v_grain v_limit v_lost v_places v_sizes v_worths v_isMatched v_above v_fits v_goodWorths v_matcher_cameFrom v_matcher_columnPrices v_matcher_costs v_matcher_gaps v_matcher_isReached v_matcher_mates v_matcher_rowOf v_matcher_rowPrices v_row = some (y_v_isMatched, y_v_above, y_v_fits, y_v_goodWorths, y_v_matcher_cameFrom, y_v_matcher_columnPrices, y_v_matcher_costs, y_v_matcher_gaps, y_v_matcher_isReached, y_v_matcher_mates, y_v_matcher_rowOf, y_v_matcher_rowPrices, y_v_row)) : zB C (0, 0) 73 [(0, .ref (C.X.1 + 5))] [] ((va_up (va_up (va_up (va_up (va_up (va_up (va_up (va_up (va_up I 10 v_above) 11 v_row) 12 v_goodWorths) 29 v_matcher_rowOf) 30 v_matcher_cameFrom) 31 v_matcher_isReached) 32 v_matcher_mates) 5 (va_up (I 5) 11 v_isMatched)) 9 v_fits), (va_up (va_up (va_up (zg J v_matcher_costs) 26 v_matcher_rowPrices) 27 v_matcher_columnPrices) 28 v_matcher_gaps), Rr, D) := by
  refine zb_aload_n E dX2_matchAll_73 0 rfl rfl ?_
  refine zb_get E 5 (by decide) (zF_5 C.X) rfl zin2 7 (by decide) zw_97 (v := .ref (C.X.1 + 13)) rfl dX2_matchAll_74 ?_
  obtain ⟨v_matcher_cameFrom_c2, v_matcher_columnPrices_c2, v_matcher_gaps_c2, v_matcher_isReached_c2, v_matcher_mates_c2, v_matcher_rowOf_c2, v_matcher_rowPrices_c2, hc_77, h⟩ := bd7_s h
  refine zb_cVv E [] 13 zy_X6_solve zw_583 (by decide) (zF_13 _ _ _ _) rfl (c_X6_solve v_matcher_costs (by exact fun q hq => (zup_n (zgne hq (by decide : (28 : Nat) < 15 ∨ 26 ≤ (28 : Nat)))).trans ((zup_n (zgne hq (by decide : (27 : Nat) < 15 ∨ 26 ≤ (27 : Nat)))).trans ((zup_n (zgne hq (by decide : (26 : Nat) < 15 ∨ 26 ≤ (26 : Nat)))).trans (zg_at hq)))) v_matcher_cameFrom rfl v_matcher_columnPrices rfl v_matcher_gaps rfl v_matcher_isReached rfl v_matcher_mates rfl v_matcher_rowOf rfl v_matcher_rowPrices rfl hc_77) (by decide) rfl rfl (by first | decide | simp [Value.category]) dX2_matchAll_77 (cs2 := (0, 0)) rfl ?_
  refine zb_S (S2 := ((va_up (va_up (va_up (va_up (va_up (va_up (va_up (va_up (va_up I 10 v_above) 11 v_row) 12 v_goodWorths) 29 v_matcher_rowOf_c2) 30 v_matcher_cameFrom_c2) 31 v_matcher_isReached_c2) 32 v_matcher_mates_c2) 5 (va_up (I 5) 11 v_isMatched)) 9 v_fits), (va_up (va_up (va_up (zg J v_matcher_costs) 26 v_matcher_rowPrices_c2) 27 v_matcher_columnPrices_c2) 28 v_matcher_gaps_c2), Rr, D)) (zS_eq ((zcgF ((zcgF ((zcgF (zn6 (by decide : (9 : Nat) ≠ 29) (by decide : (5 : Nat) ≠ 29) (by decide : (32 : Nat) ≠ 29) (by decide : (31 : Nat) ≠ 29) (by decide : (30 : Nat) ≠ 29))).trans (zn5 (by decide : (9 : Nat) ≠ 30) (by decide : (5 : Nat) ≠ 30) (by decide : (32 : Nat) ≠ 30) (by decide : (31 : Nat) ≠ 30)))).trans (zn4 (by decide : (9 : Nat) ≠ 31) (by decide : (5 : Nat) ≠ 31) (by decide : (32 : Nat) ≠ 31)))).trans (zn3 (by decide : (9 : Nat) ≠ 32) (by decide : (5 : Nat) ≠ 32))) ((zcgF ((zcgF (zn3 (by decide : (28 : Nat) ≠ 26) (by decide : (27 : Nat) ≠ 26))).trans (zn2 (by decide : (28 : Nat) ≠ 27)))).trans zn1)) ?_
  refine zb_iconst E dX2_matchAll_80 (v := 0) rfl ?_
  refine zb_istore_n E dX2_matchAll_81 rfl (by decide) (lv2 := [(1, .int 0), (0, .ref (C.X.1 + 5))]) rfl ?_
  refine zb_sub [1, 0] rfl ?_
  exact c_X2_matchAll_b82 N v_grain e_v_grain v_limit e_v_limit v_lost e_v_lost v_places e_v_places v_sizes e_v_sizes v_worths e_v_worths y_v_isMatched y_v_above y_v_fits y_v_goodWorths y_v_matcher_cameFrom y_v_matcher_columnPrices y_v_matcher_costs y_v_matcher_gaps y_v_matcher_isReached y_v_matcher_mates y_v_matcher_rowOf y_v_matcher_rowPrices y_v_row E hQ v_isMatched v_above v_fits v_matcher_cameFrom_c2 v_matcher_columnPrices_c2 v_matcher_costs v_matcher_gaps_c2 v_matcher_isReached_c2 v_matcher_mates_c2 v_matcher_rowOf_c2 v_matcher_rowPrices_c2 v_row _ 0 v_goodWorths h
theorem c_X2_matchAll_0 {C : zC} {I : Nat → Nat → Int32} {J : Nat → Nat → Int64} {Rr : Nat → Nat → Option Nat} {D : zD} (N : Nat) (v_grain : Int32) (e_v_grain : I 5 8 = v_grain) (v_limit : Int32) (e_v_limit : I 5 10 = v_limit) (v_lost : Int32) (e_v_lost : I 5 9 = v_lost) (v_places : (Nat → Int32)) (e_v_places : I 6 = v_places) (v_sizes : (Nat → Int32)) (e_v_sizes : I 8 = v_sizes) (v_worths : (Nat → Int32)) (e_v_worths : I 7 = v_worths) (y_v_isMatched : Int32) (y_v_above : (Nat → Int32)) (y_v_fits : (Nat → Int32)) (y_v_goodWorths : (Nat → Int32)) (y_v_matcher_cameFrom : (Nat → Int32)) (y_v_matcher_columnPrices : (Nat → Int64)) (y_v_matcher_costs : (Nat → Nat → Int64)) (y_v_matcher_gaps : (Nat → Int64)) (y_v_matcher_isReached : (Nat → Int32)) (y_v_matcher_mates : (Nat → Int32)) (y_v_matcher_rowOf : (Nat → Int32)) (y_v_matcher_rowPrices : (Nat → Int64)) (y_v_row : (Nat → Int32)) (E : zE C RX2 cX2_matchAll 4 none ({ frames := 4, cells := 0, slots := 0, locals := 121 } : Room)) (hQ : C.Q = zQv C ({ frames := 4, cells := 0, slots := 0, locals := 121 } : Room) ((va_up (va_up (va_up (va_up (va_up (va_up (va_up (va_up (va_up I 10 y_v_above) 11 y_v_row) 12 y_v_goodWorths) 29 y_v_matcher_rowOf) 30 y_v_matcher_cameFrom) 31 y_v_matcher_isReached) 32 y_v_matcher_mates) 5 (va_up (I 5) 11 y_v_isMatched)) 9 y_v_fits), (va_up (va_up (va_up (zg J y_v_matcher_costs) 26 y_v_matcher_rowPrices) 27 y_v_matcher_columnPrices) 28 y_v_matcher_gaps), Rr, D)) (v_isMatched : Int32) (v_above : (Nat → Int32)) (v_fits : (Nat → Int32)) (v_goodWorths : (Nat → Int32)) (v_matcher_cameFrom : (Nat → Int32)) (v_matcher_columnPrices : (Nat → Int64)) (v_matcher_costs : (Nat → Nat → Int64)) (v_matcher_gaps : (Nat → Int64)) (v_matcher_isReached : (Nat → Int32)) (v_matcher_mates : (Nat → Int32)) (v_matcher_rowOf : (Nat → Int32)) (v_matcher_rowPrices : (Nat → Int64)) (v_row : (Nat → Int32)) (h : pChest_matchAll N v_grain v_isMatched v_limit v_lost v_above v_fits v_goodWorths v_matcher_cameFrom v_matcher_columnPrices v_matcher_costs v_matcher_gaps v_matcher_isReached v_matcher_mates v_matcher_rowOf v_matcher_rowPrices v_places v_row v_sizes v_worths = some (y_v_isMatched, y_v_above, y_v_fits, y_v_goodWorths, y_v_matcher_cameFrom, y_v_matcher_columnPrices, y_v_matcher_costs, y_v_matcher_gaps, y_v_matcher_isReached, y_v_matcher_mates, y_v_matcher_rowOf, y_v_matcher_rowPrices, y_v_row)) : zB C (0, 0) 0 [(0, .ref (C.X.1 + 5))] [] ((va_up (va_up (va_up (va_up (va_up (va_up (va_up (va_up (va_up I 10 v_above) 11 v_row) 12 v_goodWorths) 29 v_matcher_rowOf) 30 v_matcher_cameFrom) 31 v_matcher_isReached) 32 v_matcher_mates) 5 (va_up (I 5) 11 v_isMatched)) 9 v_fits), (va_up (va_up (va_up (zg J v_matcher_costs) 26 v_matcher_rowPrices) 27 v_matcher_columnPrices) 28 v_matcher_gaps), Rr, D) := by
  refine zb_aload_n E dX2_matchAll_0 0 rfl rfl ?_
  refine zb_get E 5 (by decide) (zF_5 C.X) rfl zin2 11 (by decide) zw_101 (v := .int v_isMatched) rfl dX2_matchAll_1 ?_
  refine zb_if_eq E dX2_matchAll_4 (tgt := 8) rfl (fun hc => ?_) (fun hc => ?_)
  · have h := if_t h hc
    refine zb_aload_n E dX2_matchAll_8 0 rfl rfl ?_
    refine zb_get E 5 (by decide) (zF_5 C.X) rfl zin2 7 (by decide) zw_97 (v := .ref (C.X.1 + 13)) rfl dX2_matchAll_9 ?_
    obtain ⟨v_matcher_columnPrices_c1, v_matcher_costs_c1, v_matcher_rowOf_c1, v_matcher_rowPrices_c1, hc_12, h⟩ := bd4_s h
    refine zb_cVv E [] 13 zy_X6_begin zw_566 (by decide) (zF_13 _ _ _ _) rfl (c_X6_begin v_matcher_columnPrices rfl v_matcher_costs (by exact fun q hq => (zup_n (zgne hq (by decide : (28 : Nat) < 15 ∨ 26 ≤ (28 : Nat)))).trans ((zup_n (zgne hq (by decide : (27 : Nat) < 15 ∨ 26 ≤ (27 : Nat)))).trans ((zup_n (zgne hq (by decide : (26 : Nat) < 15 ∨ 26 ≤ (26 : Nat)))).trans (zg_at hq)))) v_matcher_rowOf rfl v_matcher_rowPrices rfl hc_12) (by decide) rfl rfl (by first | decide | simp [Value.category]) dX2_matchAll_12 (cs2 := (0, 0)) rfl ?_
    refine zb_S (S2 := ((va_up (va_up (va_up (va_up (va_up (va_up (va_up (va_up (va_up I 10 v_above) 11 v_row) 12 v_goodWorths) 29 v_matcher_rowOf_c1) 30 v_matcher_cameFrom) 31 v_matcher_isReached) 32 v_matcher_mates) 5 (va_up (I 5) 11 v_isMatched)) 9 v_fits), (va_up (va_up (va_up (zg J v_matcher_costs_c1) 26 v_matcher_rowPrices_c1) 27 v_matcher_columnPrices_c1) 28 v_matcher_gaps), Rr, D)) (zS_eq (zn6 (by decide : (9 : Nat) ≠ 29) (by decide : (5 : Nat) ≠ 29) (by decide : (32 : Nat) ≠ 29) (by decide : (31 : Nat) ≠ 29) (by decide : (30 : Nat) ≠ 29)) ((zcgF ((zcgF ((zgc (by decide : (28 : Nat) < 15 ∨ 26 ≤ (28 : Nat))).trans (zcgF ((zgc (by decide : (27 : Nat) < 15 ∨ 26 ≤ (27 : Nat))).trans (zcgF ((zgc (by decide : (26 : Nat) < 15 ∨ 26 ≤ (26 : Nat))).trans (zcgF zg_zg))))))).trans (zn3 (by decide : (28 : Nat) ≠ 26) (by decide : (27 : Nat) ≠ 26)))).trans (zn2 (by decide : (28 : Nat) ≠ 27)))) ?_
    refine zb_iconst E dX2_matchAll_15 (v := 0) rfl ?_
    refine zb_istore_n E dX2_matchAll_16 rfl (by decide) (lv2 := [(1, .int 0), (0, .ref (C.X.1 + 5))]) rfl ?_
    refine zb_sub [1, 0] rfl ?_
    exact c_X2_matchAll_b17 N v_grain e_v_grain v_limit e_v_limit v_lost e_v_lost v_places e_v_places v_sizes e_v_sizes v_worths e_v_worths y_v_isMatched y_v_above y_v_fits y_v_goodWorths y_v_matcher_cameFrom y_v_matcher_columnPrices y_v_matcher_costs y_v_matcher_gaps y_v_matcher_isReached y_v_matcher_mates y_v_matcher_rowOf y_v_matcher_rowPrices y_v_row E hQ v_isMatched v_goodWorths v_matcher_cameFrom v_matcher_columnPrices_c1 v_matcher_gaps v_matcher_isReached v_matcher_mates v_matcher_rowOf_c1 v_matcher_rowPrices_c1 _ (fun v_above_z5 v_fits_z6 v_matcher_costs_z7 v_row_z8 h => c_X2_matchAll_b73 N v_grain e_v_grain v_limit e_v_limit v_lost e_v_lost v_places e_v_places v_sizes e_v_sizes v_worths e_v_worths y_v_isMatched y_v_above y_v_fits y_v_goodWorths y_v_matcher_cameFrom y_v_matcher_columnPrices y_v_matcher_costs y_v_matcher_gaps y_v_matcher_isReached y_v_matcher_mates y_v_matcher_rowOf y_v_matcher_rowPrices y_v_row E hQ v_isMatched v_above_z5 v_fits_z6 v_goodWorths v_matcher_cameFrom v_matcher_columnPrices_c1 v_matcher_costs_z7 v_matcher_gaps v_matcher_isReached v_matcher_mates v_matcher_rowOf_c1 v_matcher_rowPrices_c1 v_row_z8 h) _ 0 v_above v_fits v_matcher_costs_c1 v_row h
  · have h := if_f h hc
    obtain ⟨rfl, rfl, rfl, rfl, rfl, rfl, rfl, rfl, rfl, rfl, rfl, rfl, rfl⟩ := zinj13 h
    exact zb_vret E hQ rfl ⟨Nat.zero_le _, Nat.zero_le _⟩ dX2_matchAll_7
theorem c_X2_matchAll {l : Launch} {X : zX} {I : Nat → Nat → Int32} {J : Nat → Nat → Int64} {Rr : Nat → Nat → Option Nat} {D : zD} {N : Nat} (oI5 : Nat → Int32) (eoI5 : I 5 = oI5) (v_grain : Int32) (e_v_grain : I 5 8 = v_grain) (v_limit : Int32) (e_v_limit : I 5 10 = v_limit) (v_lost : Int32) (e_v_lost : I 5 9 = v_lost) (v_places : (Nat → Int32)) (e_v_places : I 6 = v_places) (v_sizes : (Nat → Int32)) (e_v_sizes : I 8 = v_sizes) (v_worths : (Nat → Int32)) (e_v_worths : I 7 = v_worths) (v_isMatched : Int32) (e_v_isMatched : I 5 11 = v_isMatched) (v_above : (Nat → Int32)) (e_v_above : I 10 = v_above) (v_fits : (Nat → Int32)) (e_v_fits : I 9 = v_fits) (v_goodWorths : (Nat → Int32)) (e_v_goodWorths : I 12 = v_goodWorths) (v_matcher_cameFrom : (Nat → Int32)) (e_v_matcher_cameFrom : I 30 = v_matcher_cameFrom) (v_matcher_columnPrices : (Nat → Int64)) (e_v_matcher_columnPrices : J 27 = v_matcher_columnPrices) (v_matcher_costs : (Nat → Nat → Int64)) (e_v_matcher_costs : ∀ q, q < 11 → J (15 + q) = v_matcher_costs q) (v_matcher_gaps : (Nat → Int64)) (e_v_matcher_gaps : J 28 = v_matcher_gaps) (v_matcher_isReached : (Nat → Int32)) (e_v_matcher_isReached : I 31 = v_matcher_isReached) (v_matcher_mates : (Nat → Int32)) (e_v_matcher_mates : I 32 = v_matcher_mates) (v_matcher_rowOf : (Nat → Int32)) (e_v_matcher_rowOf : I 29 = v_matcher_rowOf) (v_matcher_rowPrices : (Nat → Int64)) (e_v_matcher_rowPrices : J 26 = v_matcher_rowPrices) (v_row : (Nat → Int32)) (e_v_row : I 11 = v_row) {y_v_isMatched : Int32} {y_v_above : (Nat → Int32)} {y_v_fits : (Nat → Int32)} {y_v_goodWorths : (Nat → Int32)} {y_v_matcher_cameFrom : (Nat → Int32)} {y_v_matcher_columnPrices : (Nat → Int64)} {y_v_matcher_costs : (Nat → Nat → Int64)} {y_v_matcher_gaps : (Nat → Int64)} {y_v_matcher_isReached : (Nat → Int32)} {y_v_matcher_mates : (Nat → Int32)} {y_v_matcher_rowOf : (Nat → Int32)} {y_v_matcher_rowPrices : (Nat → Int64)} {y_v_row : (Nat → Int32)} (h : pChest_matchAll N v_grain v_isMatched v_limit v_lost v_above v_fits v_goodWorths v_matcher_cameFrom v_matcher_columnPrices v_matcher_costs v_matcher_gaps v_matcher_isReached v_matcher_mates v_matcher_rowOf v_matcher_rowPrices v_places v_row v_sizes v_worths = some (y_v_isMatched, y_v_above, y_v_fits, y_v_goodWorths, y_v_matcher_cameFrom, y_v_matcher_columnPrices, y_v_matcher_costs, y_v_matcher_gaps, y_v_matcher_isReached, y_v_matcher_mates, y_v_matcher_rowOf, y_v_matcher_rowPrices, y_v_row)) : zMv l yX2_matchAll cX2_matchAll 4 none ({ frames := 4, cells := 0, slots := 0, locals := 121 } : Room) X [.ref (X.1 + 5)] (I, J, Rr, D) ((va_up (va_up (va_up (va_up (va_up (va_up (va_up (va_up (va_up I 10 y_v_above) 11 y_v_row) 12 y_v_goodWorths) 29 y_v_matcher_rowOf) 30 y_v_matcher_cameFrom) 31 y_v_matcher_isReached) 32 y_v_matcher_mates) 5 (va_up oI5 11 y_v_isMatched)) 9 y_v_fits), (va_up (va_up (va_up (zg J y_v_matcher_costs) 26 y_v_matcher_rowPrices) 27 y_v_matcher_columnPrices) 28 y_v_matcher_gaps), Rr, D) := by
  subst eoI5
  refine zMv.of (by decide) (Nat.le_of_ble_eq_true rfl) (fun C E hl hX hQ => ?_)
  subst hl
  subst hX
  have eI0 : (va_up (va_up (va_up (va_up (va_up (va_up (va_up (va_up (va_up I 10 v_above) 11 v_row) 12 v_goodWorths) 29 v_matcher_rowOf) 30 v_matcher_cameFrom) 31 v_matcher_isReached) 32 v_matcher_mates) 5 (va_up (I 5) 11 v_isMatched)) 9 v_fits) = I := by rw [zup_idE e_v_above, zup_idE e_v_row, zup_idE e_v_goodWorths, zup_idE e_v_matcher_rowOf, zup_idE e_v_matcher_cameFrom, zup_idE e_v_matcher_isReached, zup_idE e_v_matcher_mates, zup_idE e_v_isMatched, zup_id, zup_idE e_v_fits]
  have eJ0 : (va_up (va_up (va_up (zg J v_matcher_costs) 26 v_matcher_rowPrices) 27 v_matcher_columnPrices) 28 v_matcher_gaps) = J := by rw [zg_id e_v_matcher_costs, zup_idE e_v_matcher_rowPrices, zup_idE e_v_matcher_columnPrices, zup_idE e_v_matcher_gaps]
  refine zb_S (S2 := ((va_up (va_up (va_up (va_up (va_up (va_up (va_up (va_up (va_up I 10 v_above) 11 v_row) 12 v_goodWorths) 29 v_matcher_rowOf) 30 v_matcher_cameFrom) 31 v_matcher_isReached) 32 v_matcher_mates) 5 (va_up (I 5) 11 v_isMatched)) 9 v_fits), (va_up (va_up (va_up (zg J v_matcher_costs) 26 v_matcher_rowPrices) 27 v_matcher_columnPrices) 28 v_matcher_gaps), Rr, D)) (zS_eq eI0.symm eJ0.symm) ?_
  exact c_X2_matchAll_0 N v_grain e_v_grain v_limit e_v_limit v_lost e_v_lost v_places e_v_places v_sizes e_v_sizes v_worths e_v_worths y_v_isMatched y_v_above y_v_fits y_v_goodWorths y_v_matcher_cameFrom y_v_matcher_columnPrices y_v_matcher_costs y_v_matcher_gaps y_v_matcher_isReached y_v_matcher_mates y_v_matcher_rowOf y_v_matcher_rowPrices y_v_row E hQ v_isMatched v_above v_fits v_goodWorths v_matcher_cameFrom v_matcher_columnPrices v_matcher_costs v_matcher_gaps v_matcher_isReached v_matcher_mates v_matcher_rowOf v_matcher_rowPrices v_row h
-- ChequeredCloth$Chest.mateOf
theorem dX2_mateOf_0 : decode cX2_mateOf 0 = .ok (.aload_n 0, 1) := by decide +kernel
theorem dX2_mateOf_1 : decode cX2_mateOf 1 = .ok (.invokevirtual 84, 3) := by decide +kernel
theorem dX2_mateOf_4 : decode cX2_mateOf 4 = .ok (.aload_n 0, 1) := by decide +kernel
theorem dX2_mateOf_5 : decode cX2_mateOf 5 = .ok (.getfield 36, 3) := by decide +kernel
theorem dX2_mateOf_8 : decode cX2_mateOf 8 = .ok (.iload_n 1, 1) := by decide +kernel
theorem dX2_mateOf_9 : decode cX2_mateOf 9 = .ok (.invokevirtual 87, 3) := by decide +kernel
theorem dX2_mateOf_12 : decode cX2_mateOf 12 = .ok (.ireturn, 1) := by decide +kernel
theorem zy_X2_mateOf : zYv yX2_mateOf cX2_mateOf 2 (some .int) 1 := ⟨zw_559, zw_560, zw_3, zw_561, by decide, by decide, by decide⟩
theorem c_X2_mateOf_0 {C : zC} {I : Nat → Nat → Int32} {J : Nat → Nat → Int64} {Rr : Nat → Nat → Option Nat} {D : zD} (N : Nat) (a1 : Int32) (v_grain : Int32) (e_v_grain : I 5 8 = v_grain) (v_limit : Int32) (e_v_limit : I 5 10 = v_limit) (v_lost : Int32) (e_v_lost : I 5 9 = v_lost) (v_places : (Nat → Int32)) (e_v_places : I 6 = v_places) (v_sizes : (Nat → Int32)) (e_v_sizes : I 8 = v_sizes) (v_worths : (Nat → Int32)) (e_v_worths : I 7 = v_worths) (rr : Int32) (y_v_isMatched : Int32) (y_v_above : (Nat → Int32)) (y_v_fits : (Nat → Int32)) (y_v_goodWorths : (Nat → Int32)) (y_v_matcher_cameFrom : (Nat → Int32)) (y_v_matcher_columnPrices : (Nat → Int64)) (y_v_matcher_costs : (Nat → Nat → Int64)) (y_v_matcher_gaps : (Nat → Int64)) (y_v_matcher_isReached : (Nat → Int32)) (y_v_matcher_mates : (Nat → Int32)) (y_v_matcher_rowOf : (Nat → Int32)) (y_v_matcher_rowPrices : (Nat → Int64)) (y_v_row : (Nat → Int32)) (E : zE C RX2 cX2_mateOf 2 (some .int) ({ frames := 5, cells := 0, slots := 0, locals := 144 } : Room)) (hQ : C.Q = zQi C ({ frames := 5, cells := 0, slots := 0, locals := 144 } : Room) rr ((va_up (va_up (va_up (va_up (va_up (va_up (va_up (va_up (va_up I 10 y_v_above) 11 y_v_row) 12 y_v_goodWorths) 29 y_v_matcher_rowOf) 30 y_v_matcher_cameFrom) 31 y_v_matcher_isReached) 32 y_v_matcher_mates) 5 (va_up (I 5) 11 y_v_isMatched)) 9 y_v_fits), (va_up (va_up (va_up (zg J y_v_matcher_costs) 26 y_v_matcher_rowPrices) 27 y_v_matcher_columnPrices) 28 y_v_matcher_gaps), Rr, D)) (v_isMatched : Int32) (v_above : (Nat → Int32)) (v_fits : (Nat → Int32)) (v_goodWorths : (Nat → Int32)) (v_matcher_cameFrom : (Nat → Int32)) (v_matcher_columnPrices : (Nat → Int64)) (v_matcher_costs : (Nat → Nat → Int64)) (v_matcher_gaps : (Nat → Int64)) (v_matcher_isReached : (Nat → Int32)) (v_matcher_mates : (Nat → Int32)) (v_matcher_rowOf : (Nat → Int32)) (v_matcher_rowPrices : (Nat → Int64)) (v_row : (Nat → Int32)) (h : pChest_mateOf N a1 v_grain v_isMatched v_limit v_lost v_above v_fits v_goodWorths v_matcher_cameFrom v_matcher_columnPrices v_matcher_costs v_matcher_gaps v_matcher_isReached v_matcher_mates v_matcher_rowOf v_matcher_rowPrices v_places v_row v_sizes v_worths = some (rr, y_v_isMatched, y_v_above, y_v_fits, y_v_goodWorths, y_v_matcher_cameFrom, y_v_matcher_columnPrices, y_v_matcher_costs, y_v_matcher_gaps, y_v_matcher_isReached, y_v_matcher_mates, y_v_matcher_rowOf, y_v_matcher_rowPrices, y_v_row)) : zB C (0, 0) 0 [(0, .ref (C.X.1 + 5)), (1, .int a1)] [] ((va_up (va_up (va_up (va_up (va_up (va_up (va_up (va_up (va_up I 10 v_above) 11 v_row) 12 v_goodWorths) 29 v_matcher_rowOf) 30 v_matcher_cameFrom) 31 v_matcher_isReached) 32 v_matcher_mates) 5 (va_up (I 5) 11 v_isMatched)) 9 v_fits), (va_up (va_up (va_up (zg J v_matcher_costs) 26 v_matcher_rowPrices) 27 v_matcher_columnPrices) 28 v_matcher_gaps), Rr, D) := by
  refine zb_aload_n E dX2_mateOf_0 0 rfl rfl ?_
  obtain ⟨v_isMatched_c1, v_above_c1, v_fits_c1, v_goodWorths_c1, v_matcher_cameFrom_c1, v_matcher_columnPrices_c1, v_matcher_costs_c1, v_matcher_gaps_c1, v_matcher_isReached_c1, v_matcher_mates_c1, v_matcher_rowOf_c1, v_matcher_rowPrices_c1, v_row_c1, hc_1, h⟩ := bd13_s h
  refine zb_cVv E [] 5 zy_X2_matchAll zw_562 (by decide) (zF_5 _ _ _ _) rfl (c_X2_matchAll (va_up (I 5) 11 v_isMatched) rfl v_grain (by exact e_v_grain) v_limit (by exact e_v_limit) v_lost (by exact e_v_lost) v_places (by exact e_v_places) v_sizes (by exact e_v_sizes) v_worths (by exact e_v_worths) v_isMatched rfl v_above rfl v_fits rfl v_goodWorths rfl v_matcher_cameFrom rfl v_matcher_columnPrices rfl v_matcher_costs (by exact fun q hq => (zup_n (zgne hq (by decide : (28 : Nat) < 15 ∨ 26 ≤ (28 : Nat)))).trans ((zup_n (zgne hq (by decide : (27 : Nat) < 15 ∨ 26 ≤ (27 : Nat)))).trans ((zup_n (zgne hq (by decide : (26 : Nat) < 15 ∨ 26 ≤ (26 : Nat)))).trans (zg_at hq)))) v_matcher_gaps rfl v_matcher_isReached rfl v_matcher_mates rfl v_matcher_rowOf rfl v_matcher_rowPrices rfl v_row rfl hc_1) (by decide) rfl rfl (by first | decide | simp [Value.category]) dX2_mateOf_1 (cs2 := (0, 0)) rfl ?_
  refine zb_S (S2 := ((va_up (va_up (va_up (va_up (va_up (va_up (va_up (va_up (va_up I 10 v_above_c1) 11 v_row_c1) 12 v_goodWorths_c1) 29 v_matcher_rowOf_c1) 30 v_matcher_cameFrom_c1) 31 v_matcher_isReached_c1) 32 v_matcher_mates_c1) 5 (va_up (I 5) 11 v_isMatched_c1)) 9 v_fits_c1), (va_up (va_up (va_up (zg J v_matcher_costs_c1) 26 v_matcher_rowPrices_c1) 27 v_matcher_columnPrices_c1) 28 v_matcher_gaps_c1), Rr, D)) (zS_eq ((zcgF ((zcgF ((zcgF ((zcgF ((zcgF ((zcgF ((zcgF ((zcgF (zn9 (by decide : (9 : Nat) ≠ 10) (by decide : (5 : Nat) ≠ 10) (by decide : (32 : Nat) ≠ 10) (by decide : (31 : Nat) ≠ 10) (by decide : (30 : Nat) ≠ 10) (by decide : (29 : Nat) ≠ 10) (by decide : (12 : Nat) ≠ 10) (by decide : (11 : Nat) ≠ 10))).trans (zn8 (by decide : (9 : Nat) ≠ 11) (by decide : (5 : Nat) ≠ 11) (by decide : (32 : Nat) ≠ 11) (by decide : (31 : Nat) ≠ 11) (by decide : (30 : Nat) ≠ 11) (by decide : (29 : Nat) ≠ 11) (by decide : (12 : Nat) ≠ 11)))).trans (zn7 (by decide : (9 : Nat) ≠ 12) (by decide : (5 : Nat) ≠ 12) (by decide : (32 : Nat) ≠ 12) (by decide : (31 : Nat) ≠ 12) (by decide : (30 : Nat) ≠ 12) (by decide : (29 : Nat) ≠ 12)))).trans (zn6 (by decide : (9 : Nat) ≠ 29) (by decide : (5 : Nat) ≠ 29) (by decide : (32 : Nat) ≠ 29) (by decide : (31 : Nat) ≠ 29) (by decide : (30 : Nat) ≠ 29)))).trans (zn5 (by decide : (9 : Nat) ≠ 30) (by decide : (5 : Nat) ≠ 30) (by decide : (32 : Nat) ≠ 30) (by decide : (31 : Nat) ≠ 30)))).trans (zn4 (by decide : (9 : Nat) ≠ 31) (by decide : (5 : Nat) ≠ 31) (by decide : (32 : Nat) ≠ 31)))).trans (zn3 (by decide : (9 : Nat) ≠ 32) (by decide : (5 : Nat) ≠ 32)))).trans ((zcgV zn1).trans (zn2 (by decide : (9 : Nat) ≠ 5))))).trans zn1) ((zcgF ((zcgF ((zcgF ((zgc (by decide : (28 : Nat) < 15 ∨ 26 ≤ (28 : Nat))).trans (zcgF ((zgc (by decide : (27 : Nat) < 15 ∨ 26 ≤ (27 : Nat))).trans (zcgF ((zgc (by decide : (26 : Nat) < 15 ∨ 26 ≤ (26 : Nat))).trans (zcgF zg_zg))))))).trans (zn3 (by decide : (28 : Nat) ≠ 26) (by decide : (27 : Nat) ≠ 26)))).trans (zn2 (by decide : (28 : Nat) ≠ 27)))).trans zn1)) ?_
  refine zb_aload_n E dX2_mateOf_4 0 rfl rfl ?_
  refine zb_get E 5 (by decide) (zF_5 C.X) rfl zin2 7 (by decide) zw_97 (v := .ref (C.X.1 + 13)) rfl dX2_mateOf_5 ?_
  refine zb_iload_n E dX2_mateOf_8 1 rfl rfl ?_
  obtain ⟨rc2, hc_9, h⟩ := bd1_s h
  refine zb_cVi E [.int a1] 13 zy_X6_foilOf zw_604 (by decide) (zF_13 _ _ _ _) rfl (c_X6_foilOf v_matcher_mates_c1 rfl hc_9) (by decide) rfl rfl (by first | decide | simp [Value.category]) dX2_mateOf_9 (cs2 := (0, 0)) rfl ?_
  obtain ⟨rfl, rfl, rfl, rfl, rfl, rfl, rfl, rfl, rfl, rfl, rfl, rfl, rfl, rfl⟩ := zinj14 h
  exact zb_iret E hQ rfl ⟨Nat.zero_le _, Nat.zero_le _⟩ dX2_mateOf_12
theorem c_X2_mateOf {l : Launch} {X : zX} {I : Nat → Nat → Int32} {J : Nat → Nat → Int64} {Rr : Nat → Nat → Option Nat} {D : zD} {N : Nat} {a1 : Int32} (oI5 : Nat → Int32) (eoI5 : I 5 = oI5) (v_grain : Int32) (e_v_grain : I 5 8 = v_grain) (v_limit : Int32) (e_v_limit : I 5 10 = v_limit) (v_lost : Int32) (e_v_lost : I 5 9 = v_lost) (v_places : (Nat → Int32)) (e_v_places : I 6 = v_places) (v_sizes : (Nat → Int32)) (e_v_sizes : I 8 = v_sizes) (v_worths : (Nat → Int32)) (e_v_worths : I 7 = v_worths) (v_isMatched : Int32) (e_v_isMatched : I 5 11 = v_isMatched) (v_above : (Nat → Int32)) (e_v_above : I 10 = v_above) (v_fits : (Nat → Int32)) (e_v_fits : I 9 = v_fits) (v_goodWorths : (Nat → Int32)) (e_v_goodWorths : I 12 = v_goodWorths) (v_matcher_cameFrom : (Nat → Int32)) (e_v_matcher_cameFrom : I 30 = v_matcher_cameFrom) (v_matcher_columnPrices : (Nat → Int64)) (e_v_matcher_columnPrices : J 27 = v_matcher_columnPrices) (v_matcher_costs : (Nat → Nat → Int64)) (e_v_matcher_costs : ∀ q, q < 11 → J (15 + q) = v_matcher_costs q) (v_matcher_gaps : (Nat → Int64)) (e_v_matcher_gaps : J 28 = v_matcher_gaps) (v_matcher_isReached : (Nat → Int32)) (e_v_matcher_isReached : I 31 = v_matcher_isReached) (v_matcher_mates : (Nat → Int32)) (e_v_matcher_mates : I 32 = v_matcher_mates) (v_matcher_rowOf : (Nat → Int32)) (e_v_matcher_rowOf : I 29 = v_matcher_rowOf) (v_matcher_rowPrices : (Nat → Int64)) (e_v_matcher_rowPrices : J 26 = v_matcher_rowPrices) (v_row : (Nat → Int32)) (e_v_row : I 11 = v_row) {rr : Int32} {y_v_isMatched : Int32} {y_v_above : (Nat → Int32)} {y_v_fits : (Nat → Int32)} {y_v_goodWorths : (Nat → Int32)} {y_v_matcher_cameFrom : (Nat → Int32)} {y_v_matcher_columnPrices : (Nat → Int64)} {y_v_matcher_costs : (Nat → Nat → Int64)} {y_v_matcher_gaps : (Nat → Int64)} {y_v_matcher_isReached : (Nat → Int32)} {y_v_matcher_mates : (Nat → Int32)} {y_v_matcher_rowOf : (Nat → Int32)} {y_v_matcher_rowPrices : (Nat → Int64)} {y_v_row : (Nat → Int32)} (h : pChest_mateOf N a1 v_grain v_isMatched v_limit v_lost v_above v_fits v_goodWorths v_matcher_cameFrom v_matcher_columnPrices v_matcher_costs v_matcher_gaps v_matcher_isReached v_matcher_mates v_matcher_rowOf v_matcher_rowPrices v_places v_row v_sizes v_worths = some (rr, y_v_isMatched, y_v_above, y_v_fits, y_v_goodWorths, y_v_matcher_cameFrom, y_v_matcher_columnPrices, y_v_matcher_costs, y_v_matcher_gaps, y_v_matcher_isReached, y_v_matcher_mates, y_v_matcher_rowOf, y_v_matcher_rowPrices, y_v_row)) : zMi l yX2_mateOf cX2_mateOf 2 (some .int) ({ frames := 5, cells := 0, slots := 0, locals := 144 } : Room) X [.ref (X.1 + 5), .int a1] (I, J, Rr, D) rr ((va_up (va_up (va_up (va_up (va_up (va_up (va_up (va_up (va_up I 10 y_v_above) 11 y_v_row) 12 y_v_goodWorths) 29 y_v_matcher_rowOf) 30 y_v_matcher_cameFrom) 31 y_v_matcher_isReached) 32 y_v_matcher_mates) 5 (va_up oI5 11 y_v_isMatched)) 9 y_v_fits), (va_up (va_up (va_up (zg J y_v_matcher_costs) 26 y_v_matcher_rowPrices) 27 y_v_matcher_columnPrices) 28 y_v_matcher_gaps), Rr, D) := by
  subst eoI5
  refine zMi.of (by decide) (Nat.le_of_ble_eq_true rfl) (fun C E hl hX hQ => ?_)
  subst hl
  subst hX
  have eI0 : (va_up (va_up (va_up (va_up (va_up (va_up (va_up (va_up (va_up I 10 v_above) 11 v_row) 12 v_goodWorths) 29 v_matcher_rowOf) 30 v_matcher_cameFrom) 31 v_matcher_isReached) 32 v_matcher_mates) 5 (va_up (I 5) 11 v_isMatched)) 9 v_fits) = I := by rw [zup_idE e_v_above, zup_idE e_v_row, zup_idE e_v_goodWorths, zup_idE e_v_matcher_rowOf, zup_idE e_v_matcher_cameFrom, zup_idE e_v_matcher_isReached, zup_idE e_v_matcher_mates, zup_idE e_v_isMatched, zup_id, zup_idE e_v_fits]
  have eJ0 : (va_up (va_up (va_up (zg J v_matcher_costs) 26 v_matcher_rowPrices) 27 v_matcher_columnPrices) 28 v_matcher_gaps) = J := by rw [zg_id e_v_matcher_costs, zup_idE e_v_matcher_rowPrices, zup_idE e_v_matcher_columnPrices, zup_idE e_v_matcher_gaps]
  refine zb_S (S2 := ((va_up (va_up (va_up (va_up (va_up (va_up (va_up (va_up (va_up I 10 v_above) 11 v_row) 12 v_goodWorths) 29 v_matcher_rowOf) 30 v_matcher_cameFrom) 31 v_matcher_isReached) 32 v_matcher_mates) 5 (va_up (I 5) 11 v_isMatched)) 9 v_fits), (va_up (va_up (va_up (zg J v_matcher_costs) 26 v_matcher_rowPrices) 27 v_matcher_columnPrices) 28 v_matcher_gaps), Rr, D)) (zS_eq eI0.symm eJ0.symm) ?_
  exact c_X2_mateOf_0 N a1 v_grain e_v_grain v_limit e_v_limit v_lost e_v_lost v_places e_v_places v_sizes e_v_sizes v_worths e_v_worths rr y_v_isMatched y_v_above y_v_fits y_v_goodWorths y_v_matcher_cameFrom y_v_matcher_columnPrices y_v_matcher_costs y_v_matcher_gaps y_v_matcher_isReached y_v_matcher_mates y_v_matcher_rowOf y_v_matcher_rowPrices y_v_row E hQ v_isMatched v_above v_fits v_goodWorths v_matcher_cameFrom v_matcher_columnPrices v_matcher_costs v_matcher_gaps v_matcher_isReached v_matcher_mates v_matcher_rowOf v_matcher_rowPrices v_row h
-- ChequeredCloth$Chest.pairsMatched
theorem dX2_pairsMatched_0 : decode cX2_pairsMatched 0 = .ok (.aload_n 0, 1) := by decide +kernel
theorem dX2_pairsMatched_1 : decode cX2_pairsMatched 1 = .ok (.invokevirtual 84, 3) := by decide +kernel
theorem dX2_pairsMatched_4 : decode cX2_pairsMatched 4 = .ok (.iconst 0, 1) := by decide +kernel
theorem dX2_pairsMatched_5 : decode cX2_pairsMatched 5 = .ok (.istore_n 1, 1) := by decide +kernel
theorem dX2_pairsMatched_6 : decode cX2_pairsMatched 6 = .ok (.iconst 0, 1) := by decide +kernel
theorem dX2_pairsMatched_7 : decode cX2_pairsMatched 7 = .ok (.istore_n 2, 1) := by decide +kernel
theorem dX2_pairsMatched_8 : decode cX2_pairsMatched 8 = .ok (.iload_n 2, 1) := by decide +kernel
theorem dX2_pairsMatched_9 : decode cX2_pairsMatched 9 = .ok (.bipush 10, 2) := by decide +kernel
theorem dX2_pairsMatched_11 : decode cX2_pairsMatched 11 = .ok (.if_icmp .ge 29, 3) := by decide +kernel
theorem dX2_pairsMatched_14 : decode cX2_pairsMatched 14 = .ok (.iload_n 1, 1) := by decide +kernel
theorem dX2_pairsMatched_15 : decode cX2_pairsMatched 15 = .ok (.aload_n 0, 1) := by decide +kernel
theorem dX2_pairsMatched_16 : decode cX2_pairsMatched 16 = .ok (.getfield 36, 3) := by decide +kernel
theorem dX2_pairsMatched_19 : decode cX2_pairsMatched 19 = .ok (.iload_n 2, 1) := by decide +kernel
theorem dX2_pairsMatched_20 : decode cX2_pairsMatched 20 = .ok (.invokevirtual 87, 3) := by decide +kernel
theorem dX2_pairsMatched_23 : decode cX2_pairsMatched 23 = .ok (.iconst (-1), 1) := by decide +kernel
theorem dX2_pairsMatched_24 : decode cX2_pairsMatched 24 = .ok (.if_icmp .eq 7, 3) := by decide +kernel
theorem dX2_pairsMatched_27 : decode cX2_pairsMatched 27 = .ok (.iconst 1, 1) := by decide +kernel
theorem dX2_pairsMatched_28 : decode cX2_pairsMatched 28 = .ok (.goto 4, 3) := by decide +kernel
theorem dX2_pairsMatched_31 : decode cX2_pairsMatched 31 = .ok (.iconst 0, 1) := by decide +kernel
theorem dX2_pairsMatched_32 : decode cX2_pairsMatched 32 = .ok (.iadd, 1) := by decide +kernel
theorem dX2_pairsMatched_33 : decode cX2_pairsMatched 33 = .ok (.istore_n 1, 1) := by decide +kernel
theorem dX2_pairsMatched_34 : decode cX2_pairsMatched 34 = .ok (.iinc 2 1, 3) := by decide +kernel
theorem dX2_pairsMatched_37 : decode cX2_pairsMatched 37 = .ok (.goto (-29), 3) := by decide +kernel
theorem dX2_pairsMatched_40 : decode cX2_pairsMatched 40 = .ok (.iload_n 1, 1) := by decide +kernel
theorem dX2_pairsMatched_41 : decode cX2_pairsMatched 41 = .ok (.ireturn, 1) := by decide +kernel
theorem zy_X2_pairsMatched : zYv yX2_pairsMatched cX2_pairsMatched 3 (some .int) 0 := ⟨zw_614, zw_615, zw_3, zw_616, by decide, by decide, by decide⟩
theorem c_X2_pairsMatched_b8 {C : zC} {I : Nat → Nat → Int32} {J : Nat → Nat → Int64} {Rr : Nat → Nat → Option Nat} {D : zD} (N : Nat) (v_grain : Int32) (e_v_grain : I 5 8 = v_grain) (v_limit : Int32) (e_v_limit : I 5 10 = v_limit) (v_lost : Int32) (e_v_lost : I 5 9 = v_lost) (v_places : (Nat → Int32)) (e_v_places : I 6 = v_places) (v_sizes : (Nat → Int32)) (e_v_sizes : I 8 = v_sizes) (v_worths : (Nat → Int32)) (e_v_worths : I 7 = v_worths) (rr : Int32) (y_v_isMatched : Int32) (y_v_above : (Nat → Int32)) (y_v_fits : (Nat → Int32)) (y_v_goodWorths : (Nat → Int32)) (y_v_matcher_cameFrom : (Nat → Int32)) (y_v_matcher_columnPrices : (Nat → Int64)) (y_v_matcher_costs : (Nat → Nat → Int64)) (y_v_matcher_gaps : (Nat → Int64)) (y_v_matcher_isReached : (Nat → Int32)) (y_v_matcher_mates : (Nat → Int32)) (y_v_matcher_rowOf : (Nat → Int32)) (y_v_matcher_rowPrices : (Nat → Int64)) (y_v_row : (Nat → Int32)) (E : zE C RX2 cX2_pairsMatched 3 (some .int) ({ frames := 5, cells := 0, slots := 0, locals := 144 } : Room)) (hQ : C.Q = zQi C ({ frames := 5, cells := 0, slots := 0, locals := 144 } : Room) rr ((va_up (va_up (va_up (va_up (va_up (va_up (va_up (va_up (va_up I 10 y_v_above) 11 y_v_row) 12 y_v_goodWorths) 29 y_v_matcher_rowOf) 30 y_v_matcher_cameFrom) 31 y_v_matcher_isReached) 32 y_v_matcher_mates) 5 (va_up (I 5) 11 y_v_isMatched)) 9 y_v_fits), (va_up (va_up (va_up (zg J y_v_matcher_costs) 26 y_v_matcher_rowPrices) 27 y_v_matcher_columnPrices) 28 y_v_matcher_gaps), Rr, D)) (v_isMatched : Int32) (v_above : (Nat → Int32)) (v_fits : (Nat → Int32)) (v_goodWorths : (Nat → Int32)) (v_matcher_cameFrom : (Nat → Int32)) (v_matcher_columnPrices : (Nat → Int64)) (v_matcher_costs : (Nat → Nat → Int64)) (v_matcher_gaps : (Nat → Int64)) (v_matcher_isReached : (Nat → Int32)) (v_matcher_mates : (Nat → Int32)) (v_matcher_rowOf : (Nat → Int32)) (v_matcher_rowPrices : (Nat → Int64)) (v_row : (Nat → Int32))  : ∀ (n9 : Nat) (x1 : Int32) (x2 : Int32), pChest_pairsMatched_b8 N v_grain v_limit v_lost v_places v_sizes v_worths v_isMatched v_above v_fits v_goodWorths v_matcher_cameFrom v_matcher_columnPrices v_matcher_costs v_matcher_gaps v_matcher_isReached v_matcher_mates v_matcher_rowOf v_matcher_rowPrices v_row n9 x1 x2 = some (rr, y_v_isMatched, y_v_above, y_v_fits, y_v_goodWorths, y_v_matcher_cameFrom, y_v_matcher_columnPrices, y_v_matcher_costs, y_v_matcher_gaps, y_v_matcher_isReached, y_v_matcher_mates, y_v_matcher_rowOf, y_v_matcher_rowPrices, y_v_row) → zB C (0, 0) 8 [(0, .ref (C.X.1 + 5)), (1, .int x1), (2, .int x2)] [] ((va_up (va_up (va_up (va_up (va_up (va_up (va_up (va_up (va_up I 10 v_above) 11 v_row) 12 v_goodWorths) 29 v_matcher_rowOf) 30 v_matcher_cameFrom) 31 v_matcher_isReached) 32 v_matcher_mates) 5 (va_up (I 5) 11 v_isMatched)) 9 v_fits), (va_up (va_up (va_up (zg J v_matcher_costs) 26 v_matcher_rowPrices) 27 v_matcher_columnPrices) 28 v_matcher_gaps), Rr, D) := by
  refine zlp2_ind (P := fun (x1 : Int32) (x2 : Int32) => zB C (0, 0) 8 [(0, .ref (C.X.1 + 5)), (1, .int x1), (2, .int x2)] [] ((va_up (va_up (va_up (va_up (va_up (va_up (va_up (va_up (va_up I 10 v_above) 11 v_row) 12 v_goodWorths) 29 v_matcher_rowOf) 30 v_matcher_cameFrom) 31 v_matcher_isReached) 32 v_matcher_mates) 5 (va_up (I 5) 11 v_isMatched)) 9 v_fits), (va_up (va_up (va_up (zg J v_matcher_costs) 26 v_matcher_rowPrices) 27 v_matcher_columnPrices) 28 v_matcher_gaps), Rr, D)) (fun self ih => ?_)
  intro x1 x2 h
  refine zb_iload_n E dX2_pairsMatched_8 2 rfl rfl ?_
  refine zb_bipush E dX2_pairsMatched_9 (v := 10) rfl ?_
  refine zb_icmp_ge E dX2_pairsMatched_11 (tgt := 40) rfl (fun hc => ?_) (fun hc => ?_)
  · have h := if_t h hc
    refine zb_iload_n E dX2_pairsMatched_40 1 rfl rfl ?_
    obtain ⟨rfl, rfl, rfl, rfl, rfl, rfl, rfl, rfl, rfl, rfl, rfl, rfl, rfl, rfl⟩ := zinj14 h
    exact zb_iret E hQ rfl ⟨Nat.zero_le _, Nat.zero_le _⟩ dX2_pairsMatched_41
  · have h := if_f h hc
    refine zb_iload_n E dX2_pairsMatched_14 1 rfl rfl ?_
    refine zb_aload_n E dX2_pairsMatched_15 0 rfl rfl ?_
    refine zb_get E 5 (by decide) (zF_5 C.X) rfl zin2 7 (by decide) zw_97 (v := .ref (C.X.1 + 13)) rfl dX2_pairsMatched_16 ?_
    refine zb_iload_n E dX2_pairsMatched_19 2 rfl rfl ?_
    obtain ⟨rc2, hc_20, h⟩ := bd1_s h
    refine zb_cVi E [.int x2] 13 zy_X6_foilOf zw_604 (by decide) (zF_13 _ _ _ _) rfl (c_X6_foilOf v_matcher_mates rfl hc_20) (by decide) rfl rfl (by first | decide | simp [Value.category]) dX2_pairsMatched_20 (cs2 := (0, 0)) rfl ?_
    refine zb_iconst E dX2_pairsMatched_23 (v := (-1)) rfl ?_
    refine zb_icmp_eq E dX2_pairsMatched_24 (tgt := 31) rfl (fun hc => ?_) (fun hc => ?_)
    · have h := if_t h hc
      refine zb_iconst E dX2_pairsMatched_31 (v := 0) rfl ?_
      refine zb_iadd E dX2_pairsMatched_32 ?_
      refine zb_istore_n E dX2_pairsMatched_33 rfl (by decide) (lv2 := [(1, .int (x1 + 0)), (0, .ref (C.X.1 + 5)), (2, .int x2)]) rfl ?_
      refine zb_iinc E dX2_pairsMatched_34 2 rfl (v := (x2 + 1)) rfl (by decide) (lv2 := [(2, .int (x2 + 1)), (1, .int (x1 + 0)), (0, .ref (C.X.1 + 5))]) rfl ?_
      refine zb_goto E dX2_pairsMatched_37 (tgt := 8) rfl ?_
      refine zb_sub [2, 1, 0] rfl ?_
      exact ih (x1 + 0) (x2 + 1) h
    · have h := if_f h hc
      refine zb_iconst E dX2_pairsMatched_27 (v := 1) rfl ?_
      refine zb_goto E dX2_pairsMatched_28 (tgt := 32) rfl ?_
      refine zb_iadd E dX2_pairsMatched_32 ?_
      refine zb_istore_n E dX2_pairsMatched_33 rfl (by decide) (lv2 := [(1, .int (x1 + 1)), (0, .ref (C.X.1 + 5)), (2, .int x2)]) rfl ?_
      refine zb_iinc E dX2_pairsMatched_34 2 rfl (v := (x2 + 1)) rfl (by decide) (lv2 := [(2, .int (x2 + 1)), (1, .int (x1 + 1)), (0, .ref (C.X.1 + 5))]) rfl ?_
      refine zb_goto E dX2_pairsMatched_37 (tgt := 8) rfl ?_
      refine zb_sub [2, 1, 0] rfl ?_
      exact ih (x1 + 1) (x2 + 1) h
theorem c_X2_pairsMatched_0 {C : zC} {I : Nat → Nat → Int32} {J : Nat → Nat → Int64} {Rr : Nat → Nat → Option Nat} {D : zD} (N : Nat) (v_grain : Int32) (e_v_grain : I 5 8 = v_grain) (v_limit : Int32) (e_v_limit : I 5 10 = v_limit) (v_lost : Int32) (e_v_lost : I 5 9 = v_lost) (v_places : (Nat → Int32)) (e_v_places : I 6 = v_places) (v_sizes : (Nat → Int32)) (e_v_sizes : I 8 = v_sizes) (v_worths : (Nat → Int32)) (e_v_worths : I 7 = v_worths) (rr : Int32) (y_v_isMatched : Int32) (y_v_above : (Nat → Int32)) (y_v_fits : (Nat → Int32)) (y_v_goodWorths : (Nat → Int32)) (y_v_matcher_cameFrom : (Nat → Int32)) (y_v_matcher_columnPrices : (Nat → Int64)) (y_v_matcher_costs : (Nat → Nat → Int64)) (y_v_matcher_gaps : (Nat → Int64)) (y_v_matcher_isReached : (Nat → Int32)) (y_v_matcher_mates : (Nat → Int32)) (y_v_matcher_rowOf : (Nat → Int32)) (y_v_matcher_rowPrices : (Nat → Int64)) (y_v_row : (Nat → Int32)) (E : zE C RX2 cX2_pairsMatched 3 (some .int) ({ frames := 5, cells := 0, slots := 0, locals := 144 } : Room)) (hQ : C.Q = zQi C ({ frames := 5, cells := 0, slots := 0, locals := 144 } : Room) rr ((va_up (va_up (va_up (va_up (va_up (va_up (va_up (va_up (va_up I 10 y_v_above) 11 y_v_row) 12 y_v_goodWorths) 29 y_v_matcher_rowOf) 30 y_v_matcher_cameFrom) 31 y_v_matcher_isReached) 32 y_v_matcher_mates) 5 (va_up (I 5) 11 y_v_isMatched)) 9 y_v_fits), (va_up (va_up (va_up (zg J y_v_matcher_costs) 26 y_v_matcher_rowPrices) 27 y_v_matcher_columnPrices) 28 y_v_matcher_gaps), Rr, D)) (v_isMatched : Int32) (v_above : (Nat → Int32)) (v_fits : (Nat → Int32)) (v_goodWorths : (Nat → Int32)) (v_matcher_cameFrom : (Nat → Int32)) (v_matcher_columnPrices : (Nat → Int64)) (v_matcher_costs : (Nat → Nat → Int64)) (v_matcher_gaps : (Nat → Int64)) (v_matcher_isReached : (Nat → Int32)) (v_matcher_mates : (Nat → Int32)) (v_matcher_rowOf : (Nat → Int32)) (v_matcher_rowPrices : (Nat → Int64)) (v_row : (Nat → Int32)) (h : pChest_pairsMatched N v_grain v_isMatched v_limit v_lost v_above v_fits v_goodWorths v_matcher_cameFrom v_matcher_columnPrices v_matcher_costs v_matcher_gaps v_matcher_isReached v_matcher_mates v_matcher_rowOf v_matcher_rowPrices v_places v_row v_sizes v_worths = some (rr, y_v_isMatched, y_v_above, y_v_fits, y_v_goodWorths, y_v_matcher_cameFrom, y_v_matcher_columnPrices, y_v_matcher_costs, y_v_matcher_gaps, y_v_matcher_isReached, y_v_matcher_mates, y_v_matcher_rowOf, y_v_matcher_rowPrices, y_v_row)) : zB C (0, 0) 0 [(0, .ref (C.X.1 + 5))] [] ((va_up (va_up (va_up (va_up (va_up (va_up (va_up (va_up (va_up I 10 v_above) 11 v_row) 12 v_goodWorths) 29 v_matcher_rowOf) 30 v_matcher_cameFrom) 31 v_matcher_isReached) 32 v_matcher_mates) 5 (va_up (I 5) 11 v_isMatched)) 9 v_fits), (va_up (va_up (va_up (zg J v_matcher_costs) 26 v_matcher_rowPrices) 27 v_matcher_columnPrices) 28 v_matcher_gaps), Rr, D) := by
  refine zb_aload_n E dX2_pairsMatched_0 0 rfl rfl ?_
  obtain ⟨v_isMatched_c1, v_above_c1, v_fits_c1, v_goodWorths_c1, v_matcher_cameFrom_c1, v_matcher_columnPrices_c1, v_matcher_costs_c1, v_matcher_gaps_c1, v_matcher_isReached_c1, v_matcher_mates_c1, v_matcher_rowOf_c1, v_matcher_rowPrices_c1, v_row_c1, hc_1, h⟩ := bd13_s h
  refine zb_cVv E [] 5 zy_X2_matchAll zw_562 (by decide) (zF_5 _ _ _ _) rfl (c_X2_matchAll (va_up (I 5) 11 v_isMatched) rfl v_grain (by exact e_v_grain) v_limit (by exact e_v_limit) v_lost (by exact e_v_lost) v_places (by exact e_v_places) v_sizes (by exact e_v_sizes) v_worths (by exact e_v_worths) v_isMatched rfl v_above rfl v_fits rfl v_goodWorths rfl v_matcher_cameFrom rfl v_matcher_columnPrices rfl v_matcher_costs (by exact fun q hq => (zup_n (zgne hq (by decide : (28 : Nat) < 15 ∨ 26 ≤ (28 : Nat)))).trans ((zup_n (zgne hq (by decide : (27 : Nat) < 15 ∨ 26 ≤ (27 : Nat)))).trans ((zup_n (zgne hq (by decide : (26 : Nat) < 15 ∨ 26 ≤ (26 : Nat)))).trans (zg_at hq)))) v_matcher_gaps rfl v_matcher_isReached rfl v_matcher_mates rfl v_matcher_rowOf rfl v_matcher_rowPrices rfl v_row rfl hc_1) (by decide) rfl rfl (by first | decide | simp [Value.category]) dX2_pairsMatched_1 (cs2 := (0, 0)) rfl ?_
  refine zb_S (S2 := ((va_up (va_up (va_up (va_up (va_up (va_up (va_up (va_up (va_up I 10 v_above_c1) 11 v_row_c1) 12 v_goodWorths_c1) 29 v_matcher_rowOf_c1) 30 v_matcher_cameFrom_c1) 31 v_matcher_isReached_c1) 32 v_matcher_mates_c1) 5 (va_up (I 5) 11 v_isMatched_c1)) 9 v_fits_c1), (va_up (va_up (va_up (zg J v_matcher_costs_c1) 26 v_matcher_rowPrices_c1) 27 v_matcher_columnPrices_c1) 28 v_matcher_gaps_c1), Rr, D)) (zS_eq ((zcgF ((zcgF ((zcgF ((zcgF ((zcgF ((zcgF ((zcgF ((zcgF (zn9 (by decide : (9 : Nat) ≠ 10) (by decide : (5 : Nat) ≠ 10) (by decide : (32 : Nat) ≠ 10) (by decide : (31 : Nat) ≠ 10) (by decide : (30 : Nat) ≠ 10) (by decide : (29 : Nat) ≠ 10) (by decide : (12 : Nat) ≠ 10) (by decide : (11 : Nat) ≠ 10))).trans (zn8 (by decide : (9 : Nat) ≠ 11) (by decide : (5 : Nat) ≠ 11) (by decide : (32 : Nat) ≠ 11) (by decide : (31 : Nat) ≠ 11) (by decide : (30 : Nat) ≠ 11) (by decide : (29 : Nat) ≠ 11) (by decide : (12 : Nat) ≠ 11)))).trans (zn7 (by decide : (9 : Nat) ≠ 12) (by decide : (5 : Nat) ≠ 12) (by decide : (32 : Nat) ≠ 12) (by decide : (31 : Nat) ≠ 12) (by decide : (30 : Nat) ≠ 12) (by decide : (29 : Nat) ≠ 12)))).trans (zn6 (by decide : (9 : Nat) ≠ 29) (by decide : (5 : Nat) ≠ 29) (by decide : (32 : Nat) ≠ 29) (by decide : (31 : Nat) ≠ 29) (by decide : (30 : Nat) ≠ 29)))).trans (zn5 (by decide : (9 : Nat) ≠ 30) (by decide : (5 : Nat) ≠ 30) (by decide : (32 : Nat) ≠ 30) (by decide : (31 : Nat) ≠ 30)))).trans (zn4 (by decide : (9 : Nat) ≠ 31) (by decide : (5 : Nat) ≠ 31) (by decide : (32 : Nat) ≠ 31)))).trans (zn3 (by decide : (9 : Nat) ≠ 32) (by decide : (5 : Nat) ≠ 32)))).trans ((zcgV zn1).trans (zn2 (by decide : (9 : Nat) ≠ 5))))).trans zn1) ((zcgF ((zcgF ((zcgF ((zgc (by decide : (28 : Nat) < 15 ∨ 26 ≤ (28 : Nat))).trans (zcgF ((zgc (by decide : (27 : Nat) < 15 ∨ 26 ≤ (27 : Nat))).trans (zcgF ((zgc (by decide : (26 : Nat) < 15 ∨ 26 ≤ (26 : Nat))).trans (zcgF zg_zg))))))).trans (zn3 (by decide : (28 : Nat) ≠ 26) (by decide : (27 : Nat) ≠ 26)))).trans (zn2 (by decide : (28 : Nat) ≠ 27)))).trans zn1)) ?_
  refine zb_iconst E dX2_pairsMatched_4 (v := 0) rfl ?_
  refine zb_istore_n E dX2_pairsMatched_5 rfl (by decide) (lv2 := [(1, .int 0), (0, .ref (C.X.1 + 5))]) rfl ?_
  refine zb_iconst E dX2_pairsMatched_6 (v := 0) rfl ?_
  refine zb_istore_n E dX2_pairsMatched_7 rfl (by decide) (lv2 := [(2, .int 0), (1, .int 0), (0, .ref (C.X.1 + 5))]) rfl ?_
  refine zb_sub [2, 1, 0] rfl ?_
  exact c_X2_pairsMatched_b8 N v_grain e_v_grain v_limit e_v_limit v_lost e_v_lost v_places e_v_places v_sizes e_v_sizes v_worths e_v_worths rr y_v_isMatched y_v_above y_v_fits y_v_goodWorths y_v_matcher_cameFrom y_v_matcher_columnPrices y_v_matcher_costs y_v_matcher_gaps y_v_matcher_isReached y_v_matcher_mates y_v_matcher_rowOf y_v_matcher_rowPrices y_v_row E hQ v_isMatched_c1 v_above_c1 v_fits_c1 v_goodWorths_c1 v_matcher_cameFrom_c1 v_matcher_columnPrices_c1 v_matcher_costs_c1 v_matcher_gaps_c1 v_matcher_isReached_c1 v_matcher_mates_c1 v_matcher_rowOf_c1 v_matcher_rowPrices_c1 v_row_c1 _ 0 0 h
theorem c_X2_pairsMatched {l : Launch} {X : zX} {I : Nat → Nat → Int32} {J : Nat → Nat → Int64} {Rr : Nat → Nat → Option Nat} {D : zD} {N : Nat} (oI5 : Nat → Int32) (eoI5 : I 5 = oI5) (v_grain : Int32) (e_v_grain : I 5 8 = v_grain) (v_limit : Int32) (e_v_limit : I 5 10 = v_limit) (v_lost : Int32) (e_v_lost : I 5 9 = v_lost) (v_places : (Nat → Int32)) (e_v_places : I 6 = v_places) (v_sizes : (Nat → Int32)) (e_v_sizes : I 8 = v_sizes) (v_worths : (Nat → Int32)) (e_v_worths : I 7 = v_worths) (v_isMatched : Int32) (e_v_isMatched : I 5 11 = v_isMatched) (v_above : (Nat → Int32)) (e_v_above : I 10 = v_above) (v_fits : (Nat → Int32)) (e_v_fits : I 9 = v_fits) (v_goodWorths : (Nat → Int32)) (e_v_goodWorths : I 12 = v_goodWorths) (v_matcher_cameFrom : (Nat → Int32)) (e_v_matcher_cameFrom : I 30 = v_matcher_cameFrom) (v_matcher_columnPrices : (Nat → Int64)) (e_v_matcher_columnPrices : J 27 = v_matcher_columnPrices) (v_matcher_costs : (Nat → Nat → Int64)) (e_v_matcher_costs : ∀ q, q < 11 → J (15 + q) = v_matcher_costs q) (v_matcher_gaps : (Nat → Int64)) (e_v_matcher_gaps : J 28 = v_matcher_gaps) (v_matcher_isReached : (Nat → Int32)) (e_v_matcher_isReached : I 31 = v_matcher_isReached) (v_matcher_mates : (Nat → Int32)) (e_v_matcher_mates : I 32 = v_matcher_mates) (v_matcher_rowOf : (Nat → Int32)) (e_v_matcher_rowOf : I 29 = v_matcher_rowOf) (v_matcher_rowPrices : (Nat → Int64)) (e_v_matcher_rowPrices : J 26 = v_matcher_rowPrices) (v_row : (Nat → Int32)) (e_v_row : I 11 = v_row) {rr : Int32} {y_v_isMatched : Int32} {y_v_above : (Nat → Int32)} {y_v_fits : (Nat → Int32)} {y_v_goodWorths : (Nat → Int32)} {y_v_matcher_cameFrom : (Nat → Int32)} {y_v_matcher_columnPrices : (Nat → Int64)} {y_v_matcher_costs : (Nat → Nat → Int64)} {y_v_matcher_gaps : (Nat → Int64)} {y_v_matcher_isReached : (Nat → Int32)} {y_v_matcher_mates : (Nat → Int32)} {y_v_matcher_rowOf : (Nat → Int32)} {y_v_matcher_rowPrices : (Nat → Int64)} {y_v_row : (Nat → Int32)} (h : pChest_pairsMatched N v_grain v_isMatched v_limit v_lost v_above v_fits v_goodWorths v_matcher_cameFrom v_matcher_columnPrices v_matcher_costs v_matcher_gaps v_matcher_isReached v_matcher_mates v_matcher_rowOf v_matcher_rowPrices v_places v_row v_sizes v_worths = some (rr, y_v_isMatched, y_v_above, y_v_fits, y_v_goodWorths, y_v_matcher_cameFrom, y_v_matcher_columnPrices, y_v_matcher_costs, y_v_matcher_gaps, y_v_matcher_isReached, y_v_matcher_mates, y_v_matcher_rowOf, y_v_matcher_rowPrices, y_v_row)) : zMi l yX2_pairsMatched cX2_pairsMatched 3 (some .int) ({ frames := 5, cells := 0, slots := 0, locals := 144 } : Room) X [.ref (X.1 + 5)] (I, J, Rr, D) rr ((va_up (va_up (va_up (va_up (va_up (va_up (va_up (va_up (va_up I 10 y_v_above) 11 y_v_row) 12 y_v_goodWorths) 29 y_v_matcher_rowOf) 30 y_v_matcher_cameFrom) 31 y_v_matcher_isReached) 32 y_v_matcher_mates) 5 (va_up oI5 11 y_v_isMatched)) 9 y_v_fits), (va_up (va_up (va_up (zg J y_v_matcher_costs) 26 y_v_matcher_rowPrices) 27 y_v_matcher_columnPrices) 28 y_v_matcher_gaps), Rr, D) := by
  subst eoI5
  refine zMi.of (by decide) (Nat.le_of_ble_eq_true rfl) (fun C E hl hX hQ => ?_)
  subst hl
  subst hX
  have eI0 : (va_up (va_up (va_up (va_up (va_up (va_up (va_up (va_up (va_up I 10 v_above) 11 v_row) 12 v_goodWorths) 29 v_matcher_rowOf) 30 v_matcher_cameFrom) 31 v_matcher_isReached) 32 v_matcher_mates) 5 (va_up (I 5) 11 v_isMatched)) 9 v_fits) = I := by rw [zup_idE e_v_above, zup_idE e_v_row, zup_idE e_v_goodWorths, zup_idE e_v_matcher_rowOf, zup_idE e_v_matcher_cameFrom, zup_idE e_v_matcher_isReached, zup_idE e_v_matcher_mates, zup_idE e_v_isMatched, zup_id, zup_idE e_v_fits]
  have eJ0 : (va_up (va_up (va_up (zg J v_matcher_costs) 26 v_matcher_rowPrices) 27 v_matcher_columnPrices) 28 v_matcher_gaps) = J := by rw [zg_id e_v_matcher_costs, zup_idE e_v_matcher_rowPrices, zup_idE e_v_matcher_columnPrices, zup_idE e_v_matcher_gaps]
  refine zb_S (S2 := ((va_up (va_up (va_up (va_up (va_up (va_up (va_up (va_up (va_up I 10 v_above) 11 v_row) 12 v_goodWorths) 29 v_matcher_rowOf) 30 v_matcher_cameFrom) 31 v_matcher_isReached) 32 v_matcher_mates) 5 (va_up (I 5) 11 v_isMatched)) 9 v_fits), (va_up (va_up (va_up (zg J v_matcher_costs) 26 v_matcher_rowPrices) 27 v_matcher_columnPrices) 28 v_matcher_gaps), Rr, D)) (zS_eq eI0.symm eJ0.symm) ?_
  exact c_X2_pairsMatched_0 N v_grain e_v_grain v_limit e_v_limit v_lost e_v_lost v_places e_v_places v_sizes e_v_sizes v_worths e_v_worths rr y_v_isMatched y_v_above y_v_fits y_v_goodWorths y_v_matcher_cameFrom y_v_matcher_columnPrices y_v_matcher_costs y_v_matcher_gaps y_v_matcher_isReached y_v_matcher_mates y_v_matcher_rowOf y_v_matcher_rowPrices y_v_row E hQ v_isMatched v_above v_fits v_goodWorths v_matcher_cameFrom v_matcher_columnPrices v_matcher_costs v_matcher_gaps v_matcher_isReached v_matcher_mates v_matcher_rowOf v_matcher_rowPrices v_row h
-- ChequeredCloth$Chest.fitMatched
theorem dX2_fitMatched_0 : decode cX2_fitMatched 0 = .ok (.aload_n 0, 1) := by decide +kernel
theorem dX2_fitMatched_1 : decode cX2_fitMatched 1 = .ok (.invokevirtual 84, 3) := by decide +kernel
theorem dX2_fitMatched_4 : decode cX2_fitMatched 4 = .ok (.iconst 0, 1) := by decide +kernel
theorem dX2_fitMatched_5 : decode cX2_fitMatched 5 = .ok (.istore_n 1, 1) := by decide +kernel
theorem dX2_fitMatched_6 : decode cX2_fitMatched 6 = .ok (.iconst 0, 1) := by decide +kernel
theorem dX2_fitMatched_7 : decode cX2_fitMatched 7 = .ok (.istore_n 2, 1) := by decide +kernel
theorem dX2_fitMatched_8 : decode cX2_fitMatched 8 = .ok (.iload_n 2, 1) := by decide +kernel
theorem dX2_fitMatched_9 : decode cX2_fitMatched 9 = .ok (.bipush 10, 2) := by decide +kernel
theorem dX2_fitMatched_11 : decode cX2_fitMatched 11 = .ok (.if_icmp .ge 36, 3) := by decide +kernel
theorem dX2_fitMatched_14 : decode cX2_fitMatched 14 = .ok (.aload_n 0, 1) := by decide +kernel
theorem dX2_fitMatched_15 : decode cX2_fitMatched 15 = .ok (.getfield 36, 3) := by decide +kernel
theorem dX2_fitMatched_18 : decode cX2_fitMatched 18 = .ok (.iload_n 2, 1) := by decide +kernel
theorem dX2_fitMatched_19 : decode cX2_fitMatched 19 = .ok (.invokevirtual 87, 3) := by decide +kernel
theorem dX2_fitMatched_22 : decode cX2_fitMatched 22 = .ok (.istore_n 3, 1) := by decide +kernel
theorem dX2_fitMatched_23 : decode cX2_fitMatched 23 = .ok (.iload_n 1, 1) := by decide +kernel
theorem dX2_fitMatched_24 : decode cX2_fitMatched 24 = .ok (.iload_n 3, 1) := by decide +kernel
theorem dX2_fitMatched_25 : decode cX2_fitMatched 25 = .ok (.iconst (-1), 1) := by decide +kernel
theorem dX2_fitMatched_26 : decode cX2_fitMatched 26 = .ok (.if_icmp .eq 12, 3) := by decide +kernel
theorem dX2_fitMatched_29 : decode cX2_fitMatched 29 = .ok (.aload_n 0, 1) := by decide +kernel
theorem dX2_fitMatched_30 : decode cX2_fitMatched 30 = .ok (.iload_n 2, 1) := by decide +kernel
theorem dX2_fitMatched_31 : decode cX2_fitMatched 31 = .ok (.iload_n 3, 1) := by decide +kernel
theorem dX2_fitMatched_32 : decode cX2_fitMatched 32 = .ok (.invokevirtual 91, 3) := by decide +kernel
theorem dX2_fitMatched_35 : decode cX2_fitMatched 35 = .ok (.goto 4, 3) := by decide +kernel
theorem dX2_fitMatched_38 : decode cX2_fitMatched 38 = .ok (.iconst 0, 1) := by decide +kernel
theorem dX2_fitMatched_39 : decode cX2_fitMatched 39 = .ok (.iadd, 1) := by decide +kernel
theorem dX2_fitMatched_40 : decode cX2_fitMatched 40 = .ok (.istore_n 1, 1) := by decide +kernel
theorem dX2_fitMatched_41 : decode cX2_fitMatched 41 = .ok (.iinc 2 1, 3) := by decide +kernel
theorem dX2_fitMatched_44 : decode cX2_fitMatched 44 = .ok (.goto (-36), 3) := by decide +kernel
theorem dX2_fitMatched_47 : decode cX2_fitMatched 47 = .ok (.iload_n 1, 1) := by decide +kernel
theorem dX2_fitMatched_48 : decode cX2_fitMatched 48 = .ok (.ireturn, 1) := by decide +kernel
theorem zy_X2_fitMatched : zYv yX2_fitMatched cX2_fitMatched 4 (some .int) 0 := ⟨zw_618, zw_619, zw_3, zw_620, by decide, by decide, by decide⟩
theorem c_X2_fitMatched_b8 {C : zC} {I : Nat → Nat → Int32} {J : Nat → Nat → Int64} {Rr : Nat → Nat → Option Nat} {D : zD} (N : Nat) (v_grain : Int32) (e_v_grain : I 5 8 = v_grain) (v_limit : Int32) (e_v_limit : I 5 10 = v_limit) (v_lost : Int32) (e_v_lost : I 5 9 = v_lost) (v_places : (Nat → Int32)) (e_v_places : I 6 = v_places) (v_sizes : (Nat → Int32)) (e_v_sizes : I 8 = v_sizes) (v_worths : (Nat → Int32)) (e_v_worths : I 7 = v_worths) (rr : Int32) (y_v_isMatched : Int32) (y_v_above : (Nat → Int32)) (y_v_fits : (Nat → Int32)) (y_v_goodWorths : (Nat → Int32)) (y_v_matcher_cameFrom : (Nat → Int32)) (y_v_matcher_columnPrices : (Nat → Int64)) (y_v_matcher_costs : (Nat → Nat → Int64)) (y_v_matcher_gaps : (Nat → Int64)) (y_v_matcher_isReached : (Nat → Int32)) (y_v_matcher_mates : (Nat → Int32)) (y_v_matcher_rowOf : (Nat → Int32)) (y_v_matcher_rowPrices : (Nat → Int64)) (y_v_row : (Nat → Int32)) (E : zE C RX2 cX2_fitMatched 4 (some .int) ({ frames := 5, cells := 0, slots := 0, locals := 144 } : Room)) (hQ : C.Q = zQi C ({ frames := 5, cells := 0, slots := 0, locals := 144 } : Room) rr ((va_up (va_up (va_up (va_up (va_up (va_up (va_up (va_up (va_up I 10 y_v_above) 11 y_v_row) 12 y_v_goodWorths) 29 y_v_matcher_rowOf) 30 y_v_matcher_cameFrom) 31 y_v_matcher_isReached) 32 y_v_matcher_mates) 5 (va_up (I 5) 11 y_v_isMatched)) 9 y_v_fits), (va_up (va_up (va_up (zg J y_v_matcher_costs) 26 y_v_matcher_rowPrices) 27 y_v_matcher_columnPrices) 28 y_v_matcher_gaps), Rr, D)) (v_isMatched : Int32) (v_goodWorths : (Nat → Int32)) (v_matcher_cameFrom : (Nat → Int32)) (v_matcher_columnPrices : (Nat → Int64)) (v_matcher_costs : (Nat → Nat → Int64)) (v_matcher_gaps : (Nat → Int64)) (v_matcher_isReached : (Nat → Int32)) (v_matcher_mates : (Nat → Int32)) (v_matcher_rowOf : (Nat → Int32)) (v_matcher_rowPrices : (Nat → Int64))  : ∀ (n9 : Nat) (x1 : Int32) (x2 : Int32) (v_above : (Nat → Int32)) (v_fits : (Nat → Int32)) (v_row : (Nat → Int32)), pChest_fitMatched_b8 N v_grain v_limit v_lost v_places v_sizes v_worths v_isMatched v_goodWorths v_matcher_cameFrom v_matcher_columnPrices v_matcher_costs v_matcher_gaps v_matcher_isReached v_matcher_mates v_matcher_rowOf v_matcher_rowPrices n9 x1 x2 v_above v_fits v_row = some (rr, y_v_isMatched, y_v_above, y_v_fits, y_v_goodWorths, y_v_matcher_cameFrom, y_v_matcher_columnPrices, y_v_matcher_costs, y_v_matcher_gaps, y_v_matcher_isReached, y_v_matcher_mates, y_v_matcher_rowOf, y_v_matcher_rowPrices, y_v_row) → zB C (0, 0) 8 [(0, .ref (C.X.1 + 5)), (1, .int x1), (2, .int x2)] [] ((va_up (va_up (va_up (va_up (va_up (va_up (va_up (va_up (va_up I 10 v_above) 11 v_row) 12 v_goodWorths) 29 v_matcher_rowOf) 30 v_matcher_cameFrom) 31 v_matcher_isReached) 32 v_matcher_mates) 5 (va_up (I 5) 11 v_isMatched)) 9 v_fits), (va_up (va_up (va_up (zg J v_matcher_costs) 26 v_matcher_rowPrices) 27 v_matcher_columnPrices) 28 v_matcher_gaps), Rr, D) := by
  refine zlp5_ind (P := fun (x1 : Int32) (x2 : Int32) (v_above : (Nat → Int32)) (v_fits : (Nat → Int32)) (v_row : (Nat → Int32)) => zB C (0, 0) 8 [(0, .ref (C.X.1 + 5)), (1, .int x1), (2, .int x2)] [] ((va_up (va_up (va_up (va_up (va_up (va_up (va_up (va_up (va_up I 10 v_above) 11 v_row) 12 v_goodWorths) 29 v_matcher_rowOf) 30 v_matcher_cameFrom) 31 v_matcher_isReached) 32 v_matcher_mates) 5 (va_up (I 5) 11 v_isMatched)) 9 v_fits), (va_up (va_up (va_up (zg J v_matcher_costs) 26 v_matcher_rowPrices) 27 v_matcher_columnPrices) 28 v_matcher_gaps), Rr, D)) (fun self ih => ?_)
  intro x1 x2 v_above v_fits v_row h
  refine zb_iload_n E dX2_fitMatched_8 2 rfl rfl ?_
  refine zb_bipush E dX2_fitMatched_9 (v := 10) rfl ?_
  refine zb_icmp_ge E dX2_fitMatched_11 (tgt := 47) rfl (fun hc => ?_) (fun hc => ?_)
  · have h := if_t h hc
    refine zb_iload_n E dX2_fitMatched_47 1 rfl rfl ?_
    obtain ⟨rfl, rfl, rfl, rfl, rfl, rfl, rfl, rfl, rfl, rfl, rfl, rfl, rfl, rfl⟩ := zinj14 h
    exact zb_iret E hQ rfl ⟨Nat.zero_le _, Nat.zero_le _⟩ dX2_fitMatched_48
  · have h := if_f h hc
    refine zb_aload_n E dX2_fitMatched_14 0 rfl rfl ?_
    refine zb_get E 5 (by decide) (zF_5 C.X) rfl zin2 7 (by decide) zw_97 (v := .ref (C.X.1 + 13)) rfl dX2_fitMatched_15 ?_
    refine zb_iload_n E dX2_fitMatched_18 2 rfl rfl ?_
    obtain ⟨rc2, hc_19, h⟩ := bd1_s h
    refine zb_cVi E [.int x2] 13 zy_X6_foilOf zw_604 (by decide) (zF_13 _ _ _ _) rfl (c_X6_foilOf v_matcher_mates rfl hc_19) (by decide) rfl rfl (by first | decide | simp [Value.category]) dX2_fitMatched_19 (cs2 := (0, 0)) rfl ?_
    refine zb_istore_n E dX2_fitMatched_22 rfl (by decide) (lv2 := [(3, .int rc2), (0, .ref (C.X.1 + 5)), (1, .int x1), (2, .int x2)]) rfl ?_
    refine zb_iload_n E dX2_fitMatched_23 2 rfl rfl ?_
    refine zb_iload_n E dX2_fitMatched_24 0 rfl rfl ?_
    refine zb_iconst E dX2_fitMatched_25 (v := (-1)) rfl ?_
    refine zb_icmp_eq E dX2_fitMatched_26 (tgt := 38) rfl (fun hc => ?_) (fun hc => ?_)
    · have h := if_t h hc
      refine zb_iconst E dX2_fitMatched_38 (v := 0) rfl ?_
      refine zb_iadd E dX2_fitMatched_39 ?_
      refine zb_istore_n E dX2_fitMatched_40 rfl (by decide) (lv2 := [(1, .int (x1 + 0)), (3, .int rc2), (0, .ref (C.X.1 + 5)), (2, .int x2)]) rfl ?_
      refine zb_iinc E dX2_fitMatched_41 3 rfl (v := (x2 + 1)) rfl (by decide) (lv2 := [(2, .int (x2 + 1)), (1, .int (x1 + 0)), (3, .int rc2), (0, .ref (C.X.1 + 5))]) rfl ?_
      refine zb_goto E dX2_fitMatched_44 (tgt := 8) rfl ?_
      refine zb_sub [3, 1, 0] rfl ?_
      exact ih (x1 + 0) (x2 + 1) v_above v_fits v_row h
    · have h := if_f h hc
      refine zb_aload_n E dX2_fitMatched_29 1 rfl rfl ?_
      refine zb_iload_n E dX2_fitMatched_30 3 rfl rfl ?_
      refine zb_iload_n E dX2_fitMatched_31 0 rfl rfl ?_
      obtain ⟨rc3, v_above_c3, v_fits_c3, v_row_c3, hc_32, h⟩ := bd4_s h
      refine zb_cVi E [.int x2, .int rc2] 5 zy_X2_fitOf zw_574 (by decide) (zF_5 _ _ _ _) rfl (c_X2_fitOf v_grain (by exact e_v_grain) v_lost (by exact e_v_lost) v_places (by exact e_v_places) v_sizes (by exact e_v_sizes) v_worths (by exact e_v_worths) v_above rfl v_fits rfl v_row rfl hc_32) (by decide) rfl rfl (by first | decide | simp [Value.category]) dX2_fitMatched_32 (cs2 := (0, 0)) rfl ?_
      refine zb_S (S2 := ((va_up (va_up (va_up (va_up (va_up (va_up (va_up (va_up (va_up I 10 v_above_c3) 11 v_row_c3) 12 v_goodWorths) 29 v_matcher_rowOf) 30 v_matcher_cameFrom) 31 v_matcher_isReached) 32 v_matcher_mates) 5 (va_up (I 5) 11 v_isMatched)) 9 v_fits_c3), (va_up (va_up (va_up (zg J v_matcher_costs) 26 v_matcher_rowPrices) 27 v_matcher_columnPrices) 28 v_matcher_gaps), Rr, D)) (zS_eq ((zcgF ((zcgF (zn9 (by decide : (9 : Nat) ≠ 10) (by decide : (5 : Nat) ≠ 10) (by decide : (32 : Nat) ≠ 10) (by decide : (31 : Nat) ≠ 10) (by decide : (30 : Nat) ≠ 10) (by decide : (29 : Nat) ≠ 10) (by decide : (12 : Nat) ≠ 10) (by decide : (11 : Nat) ≠ 10))).trans (zn8 (by decide : (9 : Nat) ≠ 11) (by decide : (5 : Nat) ≠ 11) (by decide : (32 : Nat) ≠ 11) (by decide : (31 : Nat) ≠ 11) (by decide : (30 : Nat) ≠ 11) (by decide : (29 : Nat) ≠ 11) (by decide : (12 : Nat) ≠ 11)))).trans zn1) rfl) ?_
      refine zb_goto E dX2_fitMatched_35 (tgt := 39) rfl ?_
      refine zb_iadd E dX2_fitMatched_39 ?_
      refine zb_istore_n E dX2_fitMatched_40 rfl (by decide) (lv2 := [(1, .int (x1 + rc3)), (3, .int rc2), (0, .ref (C.X.1 + 5)), (2, .int x2)]) rfl ?_
      refine zb_iinc E dX2_fitMatched_41 3 rfl (v := (x2 + 1)) rfl (by decide) (lv2 := [(2, .int (x2 + 1)), (1, .int (x1 + rc3)), (3, .int rc2), (0, .ref (C.X.1 + 5))]) rfl ?_
      refine zb_goto E dX2_fitMatched_44 (tgt := 8) rfl ?_
      refine zb_sub [3, 1, 0] rfl ?_
      exact ih (x1 + rc3) (x2 + 1) v_above_c3 v_fits_c3 v_row_c3 h
theorem c_X2_fitMatched_0 {C : zC} {I : Nat → Nat → Int32} {J : Nat → Nat → Int64} {Rr : Nat → Nat → Option Nat} {D : zD} (N : Nat) (v_grain : Int32) (e_v_grain : I 5 8 = v_grain) (v_limit : Int32) (e_v_limit : I 5 10 = v_limit) (v_lost : Int32) (e_v_lost : I 5 9 = v_lost) (v_places : (Nat → Int32)) (e_v_places : I 6 = v_places) (v_sizes : (Nat → Int32)) (e_v_sizes : I 8 = v_sizes) (v_worths : (Nat → Int32)) (e_v_worths : I 7 = v_worths) (rr : Int32) (y_v_isMatched : Int32) (y_v_above : (Nat → Int32)) (y_v_fits : (Nat → Int32)) (y_v_goodWorths : (Nat → Int32)) (y_v_matcher_cameFrom : (Nat → Int32)) (y_v_matcher_columnPrices : (Nat → Int64)) (y_v_matcher_costs : (Nat → Nat → Int64)) (y_v_matcher_gaps : (Nat → Int64)) (y_v_matcher_isReached : (Nat → Int32)) (y_v_matcher_mates : (Nat → Int32)) (y_v_matcher_rowOf : (Nat → Int32)) (y_v_matcher_rowPrices : (Nat → Int64)) (y_v_row : (Nat → Int32)) (E : zE C RX2 cX2_fitMatched 4 (some .int) ({ frames := 5, cells := 0, slots := 0, locals := 144 } : Room)) (hQ : C.Q = zQi C ({ frames := 5, cells := 0, slots := 0, locals := 144 } : Room) rr ((va_up (va_up (va_up (va_up (va_up (va_up (va_up (va_up (va_up I 10 y_v_above) 11 y_v_row) 12 y_v_goodWorths) 29 y_v_matcher_rowOf) 30 y_v_matcher_cameFrom) 31 y_v_matcher_isReached) 32 y_v_matcher_mates) 5 (va_up (I 5) 11 y_v_isMatched)) 9 y_v_fits), (va_up (va_up (va_up (zg J y_v_matcher_costs) 26 y_v_matcher_rowPrices) 27 y_v_matcher_columnPrices) 28 y_v_matcher_gaps), Rr, D)) (v_isMatched : Int32) (v_above : (Nat → Int32)) (v_fits : (Nat → Int32)) (v_goodWorths : (Nat → Int32)) (v_matcher_cameFrom : (Nat → Int32)) (v_matcher_columnPrices : (Nat → Int64)) (v_matcher_costs : (Nat → Nat → Int64)) (v_matcher_gaps : (Nat → Int64)) (v_matcher_isReached : (Nat → Int32)) (v_matcher_mates : (Nat → Int32)) (v_matcher_rowOf : (Nat → Int32)) (v_matcher_rowPrices : (Nat → Int64)) (v_row : (Nat → Int32)) (h : pChest_fitMatched N v_grain v_isMatched v_limit v_lost v_above v_fits v_goodWorths v_matcher_cameFrom v_matcher_columnPrices v_matcher_costs v_matcher_gaps v_matcher_isReached v_matcher_mates v_matcher_rowOf v_matcher_rowPrices v_places v_row v_sizes v_worths = some (rr, y_v_isMatched, y_v_above, y_v_fits, y_v_goodWorths, y_v_matcher_cameFrom, y_v_matcher_columnPrices, y_v_matcher_costs, y_v_matcher_gaps, y_v_matcher_isReached, y_v_matcher_mates, y_v_matcher_rowOf, y_v_matcher_rowPrices, y_v_row)) : zB C (0, 0) 0 [(0, .ref (C.X.1 + 5))] [] ((va_up (va_up (va_up (va_up (va_up (va_up (va_up (va_up (va_up I 10 v_above) 11 v_row) 12 v_goodWorths) 29 v_matcher_rowOf) 30 v_matcher_cameFrom) 31 v_matcher_isReached) 32 v_matcher_mates) 5 (va_up (I 5) 11 v_isMatched)) 9 v_fits), (va_up (va_up (va_up (zg J v_matcher_costs) 26 v_matcher_rowPrices) 27 v_matcher_columnPrices) 28 v_matcher_gaps), Rr, D) := by
  refine zb_aload_n E dX2_fitMatched_0 0 rfl rfl ?_
  obtain ⟨v_isMatched_c1, v_above_c1, v_fits_c1, v_goodWorths_c1, v_matcher_cameFrom_c1, v_matcher_columnPrices_c1, v_matcher_costs_c1, v_matcher_gaps_c1, v_matcher_isReached_c1, v_matcher_mates_c1, v_matcher_rowOf_c1, v_matcher_rowPrices_c1, v_row_c1, hc_1, h⟩ := bd13_s h
  refine zb_cVv E [] 5 zy_X2_matchAll zw_562 (by decide) (zF_5 _ _ _ _) rfl (c_X2_matchAll (va_up (I 5) 11 v_isMatched) rfl v_grain (by exact e_v_grain) v_limit (by exact e_v_limit) v_lost (by exact e_v_lost) v_places (by exact e_v_places) v_sizes (by exact e_v_sizes) v_worths (by exact e_v_worths) v_isMatched rfl v_above rfl v_fits rfl v_goodWorths rfl v_matcher_cameFrom rfl v_matcher_columnPrices rfl v_matcher_costs (by exact fun q hq => (zup_n (zgne hq (by decide : (28 : Nat) < 15 ∨ 26 ≤ (28 : Nat)))).trans ((zup_n (zgne hq (by decide : (27 : Nat) < 15 ∨ 26 ≤ (27 : Nat)))).trans ((zup_n (zgne hq (by decide : (26 : Nat) < 15 ∨ 26 ≤ (26 : Nat)))).trans (zg_at hq)))) v_matcher_gaps rfl v_matcher_isReached rfl v_matcher_mates rfl v_matcher_rowOf rfl v_matcher_rowPrices rfl v_row rfl hc_1) (by decide) rfl rfl (by first | decide | simp [Value.category]) dX2_fitMatched_1 (cs2 := (0, 0)) rfl ?_
  refine zb_S (S2 := ((va_up (va_up (va_up (va_up (va_up (va_up (va_up (va_up (va_up I 10 v_above_c1) 11 v_row_c1) 12 v_goodWorths_c1) 29 v_matcher_rowOf_c1) 30 v_matcher_cameFrom_c1) 31 v_matcher_isReached_c1) 32 v_matcher_mates_c1) 5 (va_up (I 5) 11 v_isMatched_c1)) 9 v_fits_c1), (va_up (va_up (va_up (zg J v_matcher_costs_c1) 26 v_matcher_rowPrices_c1) 27 v_matcher_columnPrices_c1) 28 v_matcher_gaps_c1), Rr, D)) (zS_eq ((zcgF ((zcgF ((zcgF ((zcgF ((zcgF ((zcgF ((zcgF ((zcgF (zn9 (by decide : (9 : Nat) ≠ 10) (by decide : (5 : Nat) ≠ 10) (by decide : (32 : Nat) ≠ 10) (by decide : (31 : Nat) ≠ 10) (by decide : (30 : Nat) ≠ 10) (by decide : (29 : Nat) ≠ 10) (by decide : (12 : Nat) ≠ 10) (by decide : (11 : Nat) ≠ 10))).trans (zn8 (by decide : (9 : Nat) ≠ 11) (by decide : (5 : Nat) ≠ 11) (by decide : (32 : Nat) ≠ 11) (by decide : (31 : Nat) ≠ 11) (by decide : (30 : Nat) ≠ 11) (by decide : (29 : Nat) ≠ 11) (by decide : (12 : Nat) ≠ 11)))).trans (zn7 (by decide : (9 : Nat) ≠ 12) (by decide : (5 : Nat) ≠ 12) (by decide : (32 : Nat) ≠ 12) (by decide : (31 : Nat) ≠ 12) (by decide : (30 : Nat) ≠ 12) (by decide : (29 : Nat) ≠ 12)))).trans (zn6 (by decide : (9 : Nat) ≠ 29) (by decide : (5 : Nat) ≠ 29) (by decide : (32 : Nat) ≠ 29) (by decide : (31 : Nat) ≠ 29) (by decide : (30 : Nat) ≠ 29)))).trans (zn5 (by decide : (9 : Nat) ≠ 30) (by decide : (5 : Nat) ≠ 30) (by decide : (32 : Nat) ≠ 30) (by decide : (31 : Nat) ≠ 30)))).trans (zn4 (by decide : (9 : Nat) ≠ 31) (by decide : (5 : Nat) ≠ 31) (by decide : (32 : Nat) ≠ 31)))).trans (zn3 (by decide : (9 : Nat) ≠ 32) (by decide : (5 : Nat) ≠ 32)))).trans ((zcgV zn1).trans (zn2 (by decide : (9 : Nat) ≠ 5))))).trans zn1) ((zcgF ((zcgF ((zcgF ((zgc (by decide : (28 : Nat) < 15 ∨ 26 ≤ (28 : Nat))).trans (zcgF ((zgc (by decide : (27 : Nat) < 15 ∨ 26 ≤ (27 : Nat))).trans (zcgF ((zgc (by decide : (26 : Nat) < 15 ∨ 26 ≤ (26 : Nat))).trans (zcgF zg_zg))))))).trans (zn3 (by decide : (28 : Nat) ≠ 26) (by decide : (27 : Nat) ≠ 26)))).trans (zn2 (by decide : (28 : Nat) ≠ 27)))).trans zn1)) ?_
  refine zb_iconst E dX2_fitMatched_4 (v := 0) rfl ?_
  refine zb_istore_n E dX2_fitMatched_5 rfl (by decide) (lv2 := [(1, .int 0), (0, .ref (C.X.1 + 5))]) rfl ?_
  refine zb_iconst E dX2_fitMatched_6 (v := 0) rfl ?_
  refine zb_istore_n E dX2_fitMatched_7 rfl (by decide) (lv2 := [(2, .int 0), (1, .int 0), (0, .ref (C.X.1 + 5))]) rfl ?_
  refine zb_sub [2, 1, 0] rfl ?_
  exact c_X2_fitMatched_b8 N v_grain e_v_grain v_limit e_v_limit v_lost e_v_lost v_places e_v_places v_sizes e_v_sizes v_worths e_v_worths rr y_v_isMatched y_v_above y_v_fits y_v_goodWorths y_v_matcher_cameFrom y_v_matcher_columnPrices y_v_matcher_costs y_v_matcher_gaps y_v_matcher_isReached y_v_matcher_mates y_v_matcher_rowOf y_v_matcher_rowPrices y_v_row E hQ v_isMatched_c1 v_goodWorths_c1 v_matcher_cameFrom_c1 v_matcher_columnPrices_c1 v_matcher_costs_c1 v_matcher_gaps_c1 v_matcher_isReached_c1 v_matcher_mates_c1 v_matcher_rowOf_c1 v_matcher_rowPrices_c1 _ 0 0 v_above_c1 v_fits_c1 v_row_c1 h
theorem c_X2_fitMatched {l : Launch} {X : zX} {I : Nat → Nat → Int32} {J : Nat → Nat → Int64} {Rr : Nat → Nat → Option Nat} {D : zD} {N : Nat} (oI5 : Nat → Int32) (eoI5 : I 5 = oI5) (v_grain : Int32) (e_v_grain : I 5 8 = v_grain) (v_limit : Int32) (e_v_limit : I 5 10 = v_limit) (v_lost : Int32) (e_v_lost : I 5 9 = v_lost) (v_places : (Nat → Int32)) (e_v_places : I 6 = v_places) (v_sizes : (Nat → Int32)) (e_v_sizes : I 8 = v_sizes) (v_worths : (Nat → Int32)) (e_v_worths : I 7 = v_worths) (v_isMatched : Int32) (e_v_isMatched : I 5 11 = v_isMatched) (v_above : (Nat → Int32)) (e_v_above : I 10 = v_above) (v_fits : (Nat → Int32)) (e_v_fits : I 9 = v_fits) (v_goodWorths : (Nat → Int32)) (e_v_goodWorths : I 12 = v_goodWorths) (v_matcher_cameFrom : (Nat → Int32)) (e_v_matcher_cameFrom : I 30 = v_matcher_cameFrom) (v_matcher_columnPrices : (Nat → Int64)) (e_v_matcher_columnPrices : J 27 = v_matcher_columnPrices) (v_matcher_costs : (Nat → Nat → Int64)) (e_v_matcher_costs : ∀ q, q < 11 → J (15 + q) = v_matcher_costs q) (v_matcher_gaps : (Nat → Int64)) (e_v_matcher_gaps : J 28 = v_matcher_gaps) (v_matcher_isReached : (Nat → Int32)) (e_v_matcher_isReached : I 31 = v_matcher_isReached) (v_matcher_mates : (Nat → Int32)) (e_v_matcher_mates : I 32 = v_matcher_mates) (v_matcher_rowOf : (Nat → Int32)) (e_v_matcher_rowOf : I 29 = v_matcher_rowOf) (v_matcher_rowPrices : (Nat → Int64)) (e_v_matcher_rowPrices : J 26 = v_matcher_rowPrices) (v_row : (Nat → Int32)) (e_v_row : I 11 = v_row) {rr : Int32} {y_v_isMatched : Int32} {y_v_above : (Nat → Int32)} {y_v_fits : (Nat → Int32)} {y_v_goodWorths : (Nat → Int32)} {y_v_matcher_cameFrom : (Nat → Int32)} {y_v_matcher_columnPrices : (Nat → Int64)} {y_v_matcher_costs : (Nat → Nat → Int64)} {y_v_matcher_gaps : (Nat → Int64)} {y_v_matcher_isReached : (Nat → Int32)} {y_v_matcher_mates : (Nat → Int32)} {y_v_matcher_rowOf : (Nat → Int32)} {y_v_matcher_rowPrices : (Nat → Int64)} {y_v_row : (Nat → Int32)} (h : pChest_fitMatched N v_grain v_isMatched v_limit v_lost v_above v_fits v_goodWorths v_matcher_cameFrom v_matcher_columnPrices v_matcher_costs v_matcher_gaps v_matcher_isReached v_matcher_mates v_matcher_rowOf v_matcher_rowPrices v_places v_row v_sizes v_worths = some (rr, y_v_isMatched, y_v_above, y_v_fits, y_v_goodWorths, y_v_matcher_cameFrom, y_v_matcher_columnPrices, y_v_matcher_costs, y_v_matcher_gaps, y_v_matcher_isReached, y_v_matcher_mates, y_v_matcher_rowOf, y_v_matcher_rowPrices, y_v_row)) : zMi l yX2_fitMatched cX2_fitMatched 4 (some .int) ({ frames := 5, cells := 0, slots := 0, locals := 144 } : Room) X [.ref (X.1 + 5)] (I, J, Rr, D) rr ((va_up (va_up (va_up (va_up (va_up (va_up (va_up (va_up (va_up I 10 y_v_above) 11 y_v_row) 12 y_v_goodWorths) 29 y_v_matcher_rowOf) 30 y_v_matcher_cameFrom) 31 y_v_matcher_isReached) 32 y_v_matcher_mates) 5 (va_up oI5 11 y_v_isMatched)) 9 y_v_fits), (va_up (va_up (va_up (zg J y_v_matcher_costs) 26 y_v_matcher_rowPrices) 27 y_v_matcher_columnPrices) 28 y_v_matcher_gaps), Rr, D) := by
  subst eoI5
  refine zMi.of (by decide) (Nat.le_of_ble_eq_true rfl) (fun C E hl hX hQ => ?_)
  subst hl
  subst hX
  have eI0 : (va_up (va_up (va_up (va_up (va_up (va_up (va_up (va_up (va_up I 10 v_above) 11 v_row) 12 v_goodWorths) 29 v_matcher_rowOf) 30 v_matcher_cameFrom) 31 v_matcher_isReached) 32 v_matcher_mates) 5 (va_up (I 5) 11 v_isMatched)) 9 v_fits) = I := by rw [zup_idE e_v_above, zup_idE e_v_row, zup_idE e_v_goodWorths, zup_idE e_v_matcher_rowOf, zup_idE e_v_matcher_cameFrom, zup_idE e_v_matcher_isReached, zup_idE e_v_matcher_mates, zup_idE e_v_isMatched, zup_id, zup_idE e_v_fits]
  have eJ0 : (va_up (va_up (va_up (zg J v_matcher_costs) 26 v_matcher_rowPrices) 27 v_matcher_columnPrices) 28 v_matcher_gaps) = J := by rw [zg_id e_v_matcher_costs, zup_idE e_v_matcher_rowPrices, zup_idE e_v_matcher_columnPrices, zup_idE e_v_matcher_gaps]
  refine zb_S (S2 := ((va_up (va_up (va_up (va_up (va_up (va_up (va_up (va_up (va_up I 10 v_above) 11 v_row) 12 v_goodWorths) 29 v_matcher_rowOf) 30 v_matcher_cameFrom) 31 v_matcher_isReached) 32 v_matcher_mates) 5 (va_up (I 5) 11 v_isMatched)) 9 v_fits), (va_up (va_up (va_up (zg J v_matcher_costs) 26 v_matcher_rowPrices) 27 v_matcher_columnPrices) 28 v_matcher_gaps), Rr, D)) (zS_eq eI0.symm eJ0.symm) ?_
  exact c_X2_fitMatched_0 N v_grain e_v_grain v_limit e_v_limit v_lost e_v_lost v_places e_v_places v_sizes e_v_sizes v_worths e_v_worths rr y_v_isMatched y_v_above y_v_fits y_v_goodWorths y_v_matcher_cameFrom y_v_matcher_columnPrices y_v_matcher_costs y_v_matcher_gaps y_v_matcher_isReached y_v_matcher_mates y_v_matcher_rowOf y_v_matcher_rowPrices y_v_row E hQ v_isMatched v_above v_fits v_goodWorths v_matcher_cameFrom v_matcher_columnPrices v_matcher_costs v_matcher_gaps v_matcher_isReached v_matcher_mates v_matcher_rowOf v_matcher_rowPrices v_row h
-- ChequeredCloth$Chest.changeCount
theorem dX2_changeCount_0 : decode cX2_changeCount 0 = .ok (.aload_n 0, 1) := by decide +kernel
theorem dX2_changeCount_1 : decode cX2_changeCount 1 = .ok (.getfield 74, 3) := by decide +kernel
theorem dX2_changeCount_4 : decode cX2_changeCount 4 = .ok (.ireturn, 1) := by decide +kernel
theorem zy_X2_changeCount : zYv yX2_changeCount cX2_changeCount 1 (some .int) 0 := ⟨zw_898, zw_899, zw_3, zw_900, by decide, by decide, by decide⟩
theorem c_X2_changeCount_0 {C : zC} {I : Nat → Nat → Int32} {J : Nat → Nat → Int64} {Rr : Nat → Nat → Option Nat} {D : zD} (v_changes : Int32) (e_v_changes : I 5 12 = v_changes) (rr : Int32) (E : zE C RX2 cX2_changeCount 1 (some .int) ({ frames := 0, cells := 0, slots := 0, locals := 0 } : Room)) (hQ : C.Q = zQi C ({ frames := 0, cells := 0, slots := 0, locals := 0 } : Room) rr (I, J, Rr, D)) (h : pChest_changeCount v_changes = some rr) : zB C (0, 0) 0 [(0, .ref (C.X.1 + 5))] [] (I, J, Rr, D) := by
  refine zb_aload_n E dX2_changeCount_0 0 rfl rfl ?_
  refine zb_get E 5 (by decide) (zF_5 C.X) rfl zin2 12 (by decide) zw_102 (v := .int v_changes) (by exact congrArg (fun z => some (Value.int z)) e_v_changes) dX2_changeCount_1 ?_
  obtain rfl := zinj1 h
  exact zb_iret E hQ rfl ⟨Nat.zero_le _, Nat.zero_le _⟩ dX2_changeCount_4
theorem c_X2_changeCount {l : Launch} {X : zX} {I : Nat → Nat → Int32} {J : Nat → Nat → Int64} {Rr : Nat → Nat → Option Nat} {D : zD} (v_changes : Int32) (e_v_changes : I 5 12 = v_changes) {rr : Int32} (h : pChest_changeCount v_changes = some rr) : zMi l yX2_changeCount cX2_changeCount 1 (some .int) ({ frames := 0, cells := 0, slots := 0, locals := 0 } : Room) X [.ref (X.1 + 5)] (I, J, Rr, D) rr (I, J, Rr, D) := by
  refine zMi.of (by decide) (Nat.le_of_ble_eq_true rfl) (fun C E hl hX hQ => ?_)
  subst hl
  subst hX
  have eI0 : I = I := rfl
  have eJ0 : J = J := rfl
  refine zb_S (S2 := (I, J, Rr, D)) (zS_eq eI0.symm eJ0.symm) ?_
  exact c_X2_changeCount_0 v_changes e_v_changes rr E hQ h
-- ChequeredCloth$Chest.goodWorth
theorem dX2_goodWorth_0 : decode cX2_goodWorth 0 = .ok (.iload_n 1, 1) := by decide +kernel
theorem dX2_goodWorth_1 : decode cX2_goodWorth 1 = .ok (.invokestatic 77, 3) := by decide +kernel
theorem dX2_goodWorth_4 : decode cX2_goodWorth 4 = .ok (.ifCond .eq 12, 3) := by decide +kernel
theorem dX2_goodWorth_7 : decode cX2_goodWorth 7 = .ok (.aload_n 0, 1) := by decide +kernel
theorem dX2_goodWorth_8 : decode cX2_goodWorth 8 = .ok (.getfield 30, 3) := by decide +kernel
theorem dX2_goodWorth_11 : decode cX2_goodWorth 11 = .ok (.iload_n 1, 1) := by decide +kernel
theorem dX2_goodWorth_12 : decode cX2_goodWorth 12 = .ok (.iaload, 1) := by decide +kernel
theorem dX2_goodWorth_13 : decode cX2_goodWorth 13 = .ok (.goto 4, 3) := by decide +kernel
theorem dX2_goodWorth_16 : decode cX2_goodWorth 16 = .ok (.iconst 0, 1) := by decide +kernel
theorem dX2_goodWorth_17 : decode cX2_goodWorth 17 = .ok (.ireturn, 1) := by decide +kernel
theorem zy_X2_goodWorth : zYv yX2_goodWorth cX2_goodWorth 2 (some .int) 1 := ⟨zw_1044, zw_1045, zw_3, zw_1046, by decide, by decide, by decide⟩
theorem c_X2_goodWorth_0 {C : zC} {I : Nat → Nat → Int32} {J : Nat → Nat → Int64} {Rr : Nat → Nat → Option Nat} {D : zD} (a1 : Int32) (v_goodWorths : (Nat → Int32)) (e_v_goodWorths : I 12 = v_goodWorths) (rr : Int32) (E : zE C RX2 cX2_goodWorth 2 (some .int) ({ frames := 1, cells := 0, slots := 0, locals := 20 } : Room)) (hQ : C.Q = zQi C ({ frames := 1, cells := 0, slots := 0, locals := 20 } : Room) rr (I, J, Rr, D)) (h : pChest_goodWorth a1 v_goodWorths = some rr) : zB C (0, 0) 0 [(0, .ref (C.X.1 + 5)), (1, .int a1)] [] (I, J, Rr, D) := by
  refine zb_iload_n E dX2_goodWorth_0 1 rfl rfl ?_
  obtain ⟨rc1, hc_1, h⟩ := bd1_s h
  refine zb_cSNi E [.int a1] zy_X11_isStick znw_15 (c_X11_isStick hc_1) (by decide) rfl rfl (by first | decide | simp [Value.category]) dX2_goodWorth_1 (cs2 := (0, 0)) rfl ?_
  refine zb_if_eq E dX2_goodWorth_4 (tgt := 16) rfl (fun hc => ?_) (fun hc => ?_)
  · have h := if_t h hc
    refine zb_iconst E dX2_goodWorth_16 (v := 0) rfl ?_
    obtain rfl := zinj1 h
    exact zb_iret E hQ rfl ⟨Nat.zero_le _, Nat.zero_le _⟩ dX2_goodWorth_17
  · have h := if_f h hc
    refine zb_aload_n E dX2_goodWorth_7 0 rfl rfl ?_
    refine zb_get E 5 (by decide) (zF_5 C.X) rfl zin2 6 (by decide) zw_96 (v := .ref (C.X.1 + 12)) rfl dX2_goodWorth_8 ?_
    refine zb_iload_n E dX2_goodWorth_11 1 rfl rfl ?_
    obtain ⟨g2, h⟩ := gd_s h
    refine zb_iald E 12 (by decide) zF_12 (f := v_goodWorths) (by exact e_v_goodWorths) (ib_in g2) dX2_goodWorth_12 ?_
    refine zb_goto E dX2_goodWorth_13 (tgt := 17) rfl ?_
    obtain rfl := zinj1 h
    exact zb_iret E hQ rfl ⟨Nat.zero_le _, Nat.zero_le _⟩ dX2_goodWorth_17
theorem c_X2_goodWorth {l : Launch} {X : zX} {I : Nat → Nat → Int32} {J : Nat → Nat → Int64} {Rr : Nat → Nat → Option Nat} {D : zD} {a1 : Int32} (v_goodWorths : (Nat → Int32)) (e_v_goodWorths : I 12 = v_goodWorths) {rr : Int32} (h : pChest_goodWorth a1 v_goodWorths = some rr) : zMi l yX2_goodWorth cX2_goodWorth 2 (some .int) ({ frames := 1, cells := 0, slots := 0, locals := 20 } : Room) X [.ref (X.1 + 5), .int a1] (I, J, Rr, D) rr (I, J, Rr, D) := by
  refine zMi.of (by decide) (Nat.le_of_ble_eq_true rfl) (fun C E hl hX hQ => ?_)
  subst hl
  subst hX
  have eI0 : I = I := rfl
  have eJ0 : J = J := rfl
  refine zb_S (S2 := (I, J, Rr, D)) (zS_eq eI0.symm eJ0.symm) ?_
  exact c_X2_goodWorth_0 a1 v_goodWorths e_v_goodWorths rr E hQ h
-- ChequeredCloth$Chest.halvesFrom
theorem dX2_halvesFrom_0 : decode cX2_halvesFrom 0 = .ok (.iconst 0, 1) := by decide +kernel
theorem dX2_halvesFrom_1 : decode cX2_halvesFrom 1 = .ok (.istore_n 2, 1) := by decide +kernel
theorem dX2_halvesFrom_2 : decode cX2_halvesFrom 2 = .ok (.iload_n 1, 1) := by decide +kernel
theorem dX2_halvesFrom_3 : decode cX2_halvesFrom 3 = .ok (.istore_n 3, 1) := by decide +kernel
theorem dX2_halvesFrom_4 : decode cX2_halvesFrom 4 = .ok (.iload_n 3, 1) := by decide +kernel
theorem dX2_halvesFrom_5 : decode cX2_halvesFrom 5 = .ok (.iload_n 1, 1) := by decide +kernel
theorem dX2_halvesFrom_6 : decode cX2_halvesFrom 6 = .ok (.bipush 10, 2) := by decide +kernel
theorem dX2_halvesFrom_8 : decode cX2_halvesFrom 8 = .ok (.iadd, 1) := by decide +kernel
theorem dX2_halvesFrom_9 : decode cX2_halvesFrom 9 = .ok (.if_icmp .ge 25, 3) := by decide +kernel
theorem dX2_halvesFrom_12 : decode cX2_halvesFrom 12 = .ok (.iload_n 2, 1) := by decide +kernel
theorem dX2_halvesFrom_13 : decode cX2_halvesFrom 13 = .ok (.aload_n 0, 1) := by decide +kernel
theorem dX2_halvesFrom_14 : decode cX2_halvesFrom 14 = .ok (.iload_n 3, 1) := by decide +kernel
theorem dX2_halvesFrom_15 : decode cX2_halvesFrom 15 = .ok (.invokevirtual 67, 3) := by decide +kernel
theorem dX2_halvesFrom_18 : decode cX2_halvesFrom 18 = .ok (.ifCond .eq 7, 3) := by decide +kernel
theorem dX2_halvesFrom_21 : decode cX2_halvesFrom 21 = .ok (.iconst 1, 1) := by decide +kernel
theorem dX2_halvesFrom_22 : decode cX2_halvesFrom 22 = .ok (.goto 4, 3) := by decide +kernel
theorem dX2_halvesFrom_25 : decode cX2_halvesFrom 25 = .ok (.iconst 0, 1) := by decide +kernel
theorem dX2_halvesFrom_26 : decode cX2_halvesFrom 26 = .ok (.iadd, 1) := by decide +kernel
theorem dX2_halvesFrom_27 : decode cX2_halvesFrom 27 = .ok (.istore_n 2, 1) := by decide +kernel
theorem dX2_halvesFrom_28 : decode cX2_halvesFrom 28 = .ok (.iinc 3 1, 3) := by decide +kernel
theorem dX2_halvesFrom_31 : decode cX2_halvesFrom 31 = .ok (.goto (-27), 3) := by decide +kernel
theorem dX2_halvesFrom_34 : decode cX2_halvesFrom 34 = .ok (.iload_n 2, 1) := by decide +kernel
theorem dX2_halvesFrom_35 : decode cX2_halvesFrom 35 = .ok (.ireturn, 1) := by decide +kernel
theorem zy_X2_halvesFrom : zYv yX2_halvesFrom cX2_halvesFrom 4 (some .int) 1 := ⟨zw_1157, zw_1158, zw_3, zw_1159, by decide, by decide, by decide⟩
theorem c_X2_halvesFrom_b4 {C : zC} {I : Nat → Nat → Int32} {J : Nat → Nat → Int64} {Rr : Nat → Nat → Option Nat} {D : zD} (N : Nat) (a1 : Int32) (v_sizes : (Nat → Int32)) (e_v_sizes : I 8 = v_sizes) (rr : Int32) (E : zE C RX2 cX2_halvesFrom 4 (some .int) ({ frames := 2, cells := 0, slots := 0, locals := 41 } : Room)) (hQ : C.Q = zQi C ({ frames := 2, cells := 0, slots := 0, locals := 41 } : Room) rr (I, J, Rr, D))  : ∀ (n9 : Nat) (x2 : Int32) (x3 : Int32), pChest_halvesFrom_b4 N a1 v_sizes n9 x2 x3 = some rr → zB C (0, 0) 4 [(0, .ref (C.X.1 + 5)), (1, .int a1), (2, .int x2), (3, .int x3)] [] (I, J, Rr, D) := by
  refine zlp2_ind (P := fun (x2 : Int32) (x3 : Int32) => zB C (0, 0) 4 [(0, .ref (C.X.1 + 5)), (1, .int a1), (2, .int x2), (3, .int x3)] [] (I, J, Rr, D)) (fun self ih => ?_)
  intro x2 x3 h
  refine zb_iload_n E dX2_halvesFrom_4 3 rfl rfl ?_
  refine zb_iload_n E dX2_halvesFrom_5 1 rfl rfl ?_
  refine zb_bipush E dX2_halvesFrom_6 (v := 10) rfl ?_
  refine zb_iadd E dX2_halvesFrom_8 ?_
  refine zb_icmp_ge E dX2_halvesFrom_9 (tgt := 34) rfl (fun hc => ?_) (fun hc => ?_)
  · have h := if_t h hc
    refine zb_iload_n E dX2_halvesFrom_34 2 rfl rfl ?_
    obtain rfl := zinj1 h
    exact zb_iret E hQ rfl ⟨Nat.zero_le _, Nat.zero_le _⟩ dX2_halvesFrom_35
  · have h := if_f h hc
    refine zb_iload_n E dX2_halvesFrom_12 2 rfl rfl ?_
    refine zb_aload_n E dX2_halvesFrom_13 0 rfl rfl ?_
    refine zb_iload_n E dX2_halvesFrom_14 3 rfl rfl ?_
    obtain ⟨rc1, hc_15, h⟩ := bd1_s h
    refine zb_cVi E [.int x3] 5 zy_X2_isThere zw_514 (by decide) (zF_5 _ _ _ _) rfl (c_X2_isThere v_sizes (by exact e_v_sizes) hc_15) (by decide) rfl rfl (by first | decide | simp [Value.category]) dX2_halvesFrom_15 (cs2 := (0, 0)) rfl ?_
    refine zb_if_eq E dX2_halvesFrom_18 (tgt := 25) rfl (fun hc => ?_) (fun hc => ?_)
    · have h := if_t h hc
      refine zb_iconst E dX2_halvesFrom_25 (v := 0) rfl ?_
      refine zb_iadd E dX2_halvesFrom_26 ?_
      refine zb_istore_n E dX2_halvesFrom_27 rfl (by decide) (lv2 := [(2, .int (x2 + 0)), (0, .ref (C.X.1 + 5)), (1, .int a1), (3, .int x3)]) rfl ?_
      refine zb_iinc E dX2_halvesFrom_28 3 rfl (v := (x3 + 1)) rfl (by decide) (lv2 := [(3, .int (x3 + 1)), (2, .int (x2 + 0)), (0, .ref (C.X.1 + 5)), (1, .int a1)]) rfl ?_
      refine zb_goto E dX2_halvesFrom_31 (tgt := 4) rfl ?_
      refine zb_sub [2, 3, 1, 0] rfl ?_
      exact ih (x2 + 0) (x3 + 1) h
    · have h := if_f h hc
      refine zb_iconst E dX2_halvesFrom_21 (v := 1) rfl ?_
      refine zb_goto E dX2_halvesFrom_22 (tgt := 26) rfl ?_
      refine zb_iadd E dX2_halvesFrom_26 ?_
      refine zb_istore_n E dX2_halvesFrom_27 rfl (by decide) (lv2 := [(2, .int (x2 + 1)), (0, .ref (C.X.1 + 5)), (1, .int a1), (3, .int x3)]) rfl ?_
      refine zb_iinc E dX2_halvesFrom_28 3 rfl (v := (x3 + 1)) rfl (by decide) (lv2 := [(3, .int (x3 + 1)), (2, .int (x2 + 1)), (0, .ref (C.X.1 + 5)), (1, .int a1)]) rfl ?_
      refine zb_goto E dX2_halvesFrom_31 (tgt := 4) rfl ?_
      refine zb_sub [2, 3, 1, 0] rfl ?_
      exact ih (x2 + 1) (x3 + 1) h
theorem c_X2_halvesFrom_0 {C : zC} {I : Nat → Nat → Int32} {J : Nat → Nat → Int64} {Rr : Nat → Nat → Option Nat} {D : zD} (N : Nat) (a1 : Int32) (v_sizes : (Nat → Int32)) (e_v_sizes : I 8 = v_sizes) (rr : Int32) (E : zE C RX2 cX2_halvesFrom 4 (some .int) ({ frames := 2, cells := 0, slots := 0, locals := 41 } : Room)) (hQ : C.Q = zQi C ({ frames := 2, cells := 0, slots := 0, locals := 41 } : Room) rr (I, J, Rr, D)) (h : pChest_halvesFrom N a1 v_sizes = some rr) : zB C (0, 0) 0 [(0, .ref (C.X.1 + 5)), (1, .int a1)] [] (I, J, Rr, D) := by
  refine zb_iconst E dX2_halvesFrom_0 (v := 0) rfl ?_
  refine zb_istore_n E dX2_halvesFrom_1 rfl (by decide) (lv2 := [(2, .int 0), (0, .ref (C.X.1 + 5)), (1, .int a1)]) rfl ?_
  refine zb_iload_n E dX2_halvesFrom_2 2 rfl rfl ?_
  refine zb_istore_n E dX2_halvesFrom_3 rfl (by decide) (lv2 := [(3, .int a1), (2, .int 0), (0, .ref (C.X.1 + 5)), (1, .int a1)]) rfl ?_
  refine zb_sub [2, 3, 1, 0] rfl ?_
  exact c_X2_halvesFrom_b4 N a1 v_sizes e_v_sizes rr E hQ _ 0 a1 h
theorem c_X2_halvesFrom {l : Launch} {X : zX} {I : Nat → Nat → Int32} {J : Nat → Nat → Int64} {Rr : Nat → Nat → Option Nat} {D : zD} {N : Nat} {a1 : Int32} (v_sizes : (Nat → Int32)) (e_v_sizes : I 8 = v_sizes) {rr : Int32} (h : pChest_halvesFrom N a1 v_sizes = some rr) : zMi l yX2_halvesFrom cX2_halvesFrom 4 (some .int) ({ frames := 2, cells := 0, slots := 0, locals := 41 } : Room) X [.ref (X.1 + 5), .int a1] (I, J, Rr, D) rr (I, J, Rr, D) := by
  refine zMi.of (by decide) (Nat.le_of_ble_eq_true rfl) (fun C E hl hX hQ => ?_)
  subst hl
  subst hX
  have eI0 : I = I := rfl
  have eJ0 : J = J := rfl
  refine zb_S (S2 := (I, J, Rr, D)) (zS_eq eI0.symm eJ0.symm) ?_
  exact c_X2_halvesFrom_0 N a1 v_sizes e_v_sizes rr E hQ h
