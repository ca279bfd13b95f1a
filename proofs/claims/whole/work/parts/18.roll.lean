set_option maxHeartbeats 4000000
set_option maxRecDepth 100000
-- ChequeredCloth$Roll.begin
theorem dX8_begin_0 : decode cX8_begin 0 = .ok (.aload_n 0, 1) := by decide +kernel
theorem dX8_begin_1 : decode cX8_begin 1 = .ok (.iload_n 1, 1) := by decide +kernel
theorem dX8_begin_2 : decode cX8_begin 2 = .ok (.putfield 46, 3) := by decide +kernel
theorem dX8_begin_5 : decode cX8_begin 5 = .ok (.aload_n 0, 1) := by decide +kernel
theorem dX8_begin_6 : decode cX8_begin 6 = .ok (.iconst 0, 1) := by decide +kernel
theorem dX8_begin_7 : decode cX8_begin 7 = .ok (.putfield 50, 3) := by decide +kernel
theorem dX8_begin_10 : decode cX8_begin 10 = .ok (.return_, 1) := by decide +kernel
theorem zy_X8_begin : zYv yX8_begin cX8_begin 2 none 1 := ⟨zw_934, zw_935, zw_11, zw_936, by decide, by decide, by decide⟩
theorem c_X8_begin_0 {C : zC} {I : Nat → Nat → Int32} {J : Nat → Nat → Int64} {Rr : Nat → Nat → Option Nat} {D : zD} (i0 : Nat) (hi0 : i0 < 10) (kn : Nat) (hkn : (i0 < 8 ∧ kn = 48) ∨ (8 ≤ i0 ∧ kn = 53)) (a1 : Int32) (y_v_shire : Int32) (y_v_told : Int32) (E : zE C RX8 cX8_begin 2 none ({ frames := 0, cells := 0, slots := 0, locals := 0 } : Room)) (hQ : C.Q = zQv C ({ frames := 0, cells := 0, slots := 0, locals := 0 } : Room) ((va_up I (58 + 7 * i0) (va_up (va_up (I (58 + 7 * i0)) 10 y_v_shire) 11 y_v_told)), J, Rr, D)) (v_shire : Int32) (v_told : Int32) (h : pRoll_begin a1 v_shire v_told = some (y_v_shire, y_v_told)) : zB C (0, 0) 0 [(0, .ref (C.X.1 + (58 + 7 * i0))), (1, .int a1)] [] ((va_up I (58 + 7 * i0) (va_up (va_up (I (58 + 7 * i0)) 10 v_shire) 11 v_told)), J, Rr, D) := by
  refine zb_aload_n E dX8_begin_0 0 rfl rfl ?_
  refine zb_iload_n E dX8_begin_1 1 rfl rfl ?_
  refine zb_putXI E (58 + 7 * i0) (by omega) (zFr C.X hi0 hkn) rfl zin8 10 (by decide) zw_286 tyX8 tyX8_ok nmX8 rfl rfl rfl zup_s rfl (zset8_10 C.X (58 + 7 * i0) kn _ _ a1) (by rw [zflen8]; decide) (I2 := (va_up I (58 + 7 * i0) (va_up (va_up (I (58 + 7 * i0)) 10 a1) 11 v_told))) ((zcgV (zn2 (by decide : (11 : Nat) ≠ 10))).trans zn1) dX8_begin_2 ?_
  refine zb_aload_n E dX8_begin_5 0 rfl rfl ?_
  refine zb_iconst E dX8_begin_6 (v := 0) rfl ?_
  refine zb_putXI E (58 + 7 * i0) (by omega) (zFr C.X hi0 hkn) rfl zin8 11 (by decide) zw_287 tyX8 tyX8_ok nmX8 rfl rfl rfl zup_s rfl (zset8_11 C.X (58 + 7 * i0) kn _ _ 0) (by rw [zflen8]; decide) (I2 := (va_up I (58 + 7 * i0) (va_up (va_up (I (58 + 7 * i0)) 10 a1) 11 0))) ((zcgV zn1).trans zn1) dX8_begin_7 ?_
  obtain ⟨rfl, rfl⟩ := zinj2 h
  exact zb_vret E hQ rfl ⟨Nat.zero_le _, Nat.zero_le _⟩ dX8_begin_10
theorem c_X8_begin {l : Launch} {X : zX} {I : Nat → Nat → Int32} {J : Nat → Nat → Int64} {Rr : Nat → Nat → Option Nat} {D : zD} (i0 : Nat) (hi0 : i0 < 10) (kn : Nat) (hkn : (i0 < 8 ∧ kn = 48) ∨ (8 ≤ i0 ∧ kn = 53)) {a1 : Int32} (oI58_7_i0 : Nat → Int32) (eoI58_7_i0 : I (58 + 7 * i0) = oI58_7_i0) (v_shire : Int32) (e_v_shire : I (58 + 7 * i0) 10 = v_shire) (v_told : Int32) (e_v_told : I (58 + 7 * i0) 11 = v_told) {y_v_shire : Int32} {y_v_told : Int32} (h : pRoll_begin a1 v_shire v_told = some (y_v_shire, y_v_told)) : zMv l yX8_begin cX8_begin 2 none ({ frames := 0, cells := 0, slots := 0, locals := 0 } : Room) X [.ref (X.1 + (58 + 7 * i0)), .int a1] (I, J, Rr, D) ((va_up I (58 + 7 * i0) (va_up (va_up oI58_7_i0 10 y_v_shire) 11 y_v_told)), J, Rr, D) := by
  subst eoI58_7_i0
  refine zMv.of (by decide) (Nat.le_of_ble_eq_true rfl) (fun C E hl hX hQ => ?_)
  subst hl
  subst hX
  have eI0 : (va_up I (58 + 7 * i0) (va_up (va_up (I (58 + 7 * i0)) 10 v_shire) 11 v_told)) = I := by rw [zup_idE e_v_shire, zup_idE e_v_told, zup_id]
  have eJ0 : J = J := rfl
  refine zb_S (S2 := ((va_up I (58 + 7 * i0) (va_up (va_up (I (58 + 7 * i0)) 10 v_shire) 11 v_told)), J, Rr, D)) (zS_eq eI0.symm eJ0.symm) ?_
  exact c_X8_begin_0 i0 hi0 kn hkn a1 y_v_shire y_v_told E hQ v_shire v_told h
-- ChequeredCloth$Roll.comeDue
theorem dX8_comeDue_0 : decode cX8_comeDue 0 = .ok (.iload_n 1, 1) := by decide +kernel
theorem dX8_comeDue_1 : decode cX8_comeDue 1 = .ok (.bipush 19, 2) := by decide +kernel
theorem dX8_comeDue_3 : decode cX8_comeDue 3 = .ok (.imul, 1) := by decide +kernel
theorem dX8_comeDue_4 : decode cX8_comeDue 4 = .ok (.istore_n 2, 1) := by decide +kernel
theorem dX8_comeDue_5 : decode cX8_comeDue 5 = .ok (.iload_n 1, 1) := by decide +kernel
theorem dX8_comeDue_6 : decode cX8_comeDue 6 = .ok (.ifCond .ne 32, 3) := by decide +kernel
theorem dX8_comeDue_9 : decode cX8_comeDue 9 = .ok (.aload_n 0, 1) := by decide +kernel
theorem dX8_comeDue_10 : decode cX8_comeDue 10 = .ok (.lconst 0, 1) := by decide +kernel
theorem dX8_comeDue_11 : decode cX8_comeDue 11 = .ok (.putfield 99, 3) := by decide +kernel
theorem dX8_comeDue_14 : decode cX8_comeDue 14 = .ok (.iconst 0, 1) := by decide +kernel
theorem dX8_comeDue_15 : decode cX8_comeDue 15 = .ok (.istore_n 3, 1) := by decide +kernel
theorem dX8_comeDue_16 : decode cX8_comeDue 16 = .ok (.iload_n 3, 1) := by decide +kernel
theorem dX8_comeDue_17 : decode cX8_comeDue 17 = .ok (.bipush 19, 2) := by decide +kernel
theorem dX8_comeDue_19 : decode cX8_comeDue 19 = .ok (.if_icmp .ge 16, 3) := by decide +kernel
theorem dX8_comeDue_22 : decode cX8_comeDue 22 = .ok (.aload_n 0, 1) := by decide +kernel
theorem dX8_comeDue_23 : decode cX8_comeDue 23 = .ok (.getfield 27, 3) := by decide +kernel
theorem dX8_comeDue_26 : decode cX8_comeDue 26 = .ok (.iload_n 3, 1) := by decide +kernel
theorem dX8_comeDue_27 : decode cX8_comeDue 27 = .ok (.lconst 0, 1) := by decide +kernel
theorem dX8_comeDue_28 : decode cX8_comeDue 28 = .ok (.lastore, 1) := by decide +kernel
theorem dX8_comeDue_29 : decode cX8_comeDue 29 = .ok (.iinc 3 1, 3) := by decide +kernel
theorem dX8_comeDue_32 : decode cX8_comeDue 32 = .ok (.goto (-16), 3) := by decide +kernel
theorem dX8_comeDue_35 : decode cX8_comeDue 35 = .ok (.goto 57, 3) := by decide +kernel
theorem dX8_comeDue_38 : decode cX8_comeDue 38 = .ok (.aload_n 0, 1) := by decide +kernel
theorem dX8_comeDue_39 : decode cX8_comeDue 39 = .ok (.aload_n 0, 1) := by decide +kernel
theorem dX8_comeDue_40 : decode cX8_comeDue 40 = .ok (.getfield 9, 3) := by decide +kernel
theorem dX8_comeDue_43 : decode cX8_comeDue 43 = .ok (.iload_n 1, 1) := by decide +kernel
theorem dX8_comeDue_44 : decode cX8_comeDue 44 = .ok (.iconst 1, 1) := by decide +kernel
theorem dX8_comeDue_45 : decode cX8_comeDue 45 = .ok (.isub, 1) := by decide +kernel
theorem dX8_comeDue_46 : decode cX8_comeDue 46 = .ok (.laload, 1) := by decide +kernel
theorem dX8_comeDue_47 : decode cX8_comeDue 47 = .ok (.aload_n 0, 1) := by decide +kernel
theorem dX8_comeDue_48 : decode cX8_comeDue 48 = .ok (.getfield 27, 3) := by decide +kernel
theorem dX8_comeDue_51 : decode cX8_comeDue 51 = .ok (.iload_n 2, 1) := by decide +kernel
theorem dX8_comeDue_52 : decode cX8_comeDue 52 = .ok (.bipush 19, 2) := by decide +kernel
theorem dX8_comeDue_54 : decode cX8_comeDue 54 = .ok (.isub, 1) := by decide +kernel
theorem dX8_comeDue_55 : decode cX8_comeDue 55 = .ok (.laload, 1) := by decide +kernel
theorem dX8_comeDue_56 : decode cX8_comeDue 56 = .ok (.ladd, 1) := by decide +kernel
theorem dX8_comeDue_57 : decode cX8_comeDue 57 = .ok (.putfield 99, 3) := by decide +kernel
theorem dX8_comeDue_60 : decode cX8_comeDue 60 = .ok (.aload_n 0, 1) := by decide +kernel
theorem dX8_comeDue_61 : decode cX8_comeDue 61 = .ok (.getfield 27, 3) := by decide +kernel
theorem dX8_comeDue_64 : decode cX8_comeDue 64 = .ok (.iload_n 2, 1) := by decide +kernel
theorem dX8_comeDue_65 : decode cX8_comeDue 65 = .ok (.bipush 19, 2) := by decide +kernel
theorem dX8_comeDue_67 : decode cX8_comeDue 67 = .ok (.isub, 1) := by decide +kernel
theorem dX8_comeDue_68 : decode cX8_comeDue 68 = .ok (.iconst 1, 1) := by decide +kernel
theorem dX8_comeDue_69 : decode cX8_comeDue 69 = .ok (.iadd, 1) := by decide +kernel
theorem dX8_comeDue_70 : decode cX8_comeDue 70 = .ok (.aload_n 0, 1) := by decide +kernel
theorem dX8_comeDue_71 : decode cX8_comeDue 71 = .ok (.getfield 27, 3) := by decide +kernel
theorem dX8_comeDue_74 : decode cX8_comeDue 74 = .ok (.iload_n 2, 1) := by decide +kernel
theorem dX8_comeDue_75 : decode cX8_comeDue 75 = .ok (.bipush 18, 2) := by decide +kernel
theorem dX8_comeDue_77 : decode cX8_comeDue 77 = .ok (.invokestatic 62, 3) := by decide +kernel
theorem dX8_comeDue_80 : decode cX8_comeDue 80 = .ok (.aload_n 0, 1) := by decide +kernel
theorem dX8_comeDue_81 : decode cX8_comeDue 81 = .ok (.getfield 27, 3) := by decide +kernel
theorem dX8_comeDue_84 : decode cX8_comeDue 84 = .ok (.iload_n 2, 1) := by decide +kernel
theorem dX8_comeDue_85 : decode cX8_comeDue 85 = .ok (.bipush 19, 2) := by decide +kernel
theorem dX8_comeDue_87 : decode cX8_comeDue 87 = .ok (.iadd, 1) := by decide +kernel
theorem dX8_comeDue_88 : decode cX8_comeDue 88 = .ok (.iconst 1, 1) := by decide +kernel
theorem dX8_comeDue_89 : decode cX8_comeDue 89 = .ok (.isub, 1) := by decide +kernel
theorem dX8_comeDue_90 : decode cX8_comeDue 90 = .ok (.lconst 0, 1) := by decide +kernel
theorem dX8_comeDue_91 : decode cX8_comeDue 91 = .ok (.lastore, 1) := by decide +kernel
theorem dX8_comeDue_92 : decode cX8_comeDue 92 = .ok (.return_, 1) := by decide +kernel
theorem zy_X8_comeDue : zYv yX8_comeDue cX8_comeDue 4 none 1 := ⟨zw_991, zws_34, zw_11, zw_992, by decide, by decide, by decide⟩
theorem c_X8_comeDue_b16 {C : zC} {I : Nat → Nat → Int32} {J : Nat → Nat → Int64} {Rr : Nat → Nat → Option Nat} {D : zD} (i0 : Nat) (hi0 : i0 < 10) (kn : Nat) (hkn : (i0 < 8 ∧ kn = 48) ∨ (8 ≤ i0 ∧ kn = 53)) (N : Nat) (a1 : Int32) (v_debts : (Nat → Int64)) (e_v_debts : J (58 + 7 * i0 + 1) = v_debts) (y_v_debt : Int64) (y_v_putOff : (Nat → Int64)) (E : zE C RX8 cX8_comeDue 4 none ({ frames := 1, cells := 0, slots := 0, locals := 72 } : Room)) (hQ : C.Q = zQv C ({ frames := 1, cells := 0, slots := 0, locals := 72 } : Room) (I, (va_up (va_up J (58 + 7 * i0 + 6) y_v_putOff) (58 + 7 * i0) (va_up (J (58 + 7 * i0)) 12 y_v_debt)), Rr, D)) (v_debt : Int64) (k35 : (Nat → Int64) → Option R_pRoll_comeDue) (hk35 : ∀ (v_putOff : (Nat → Int64)), k35 v_putOff = some (y_v_debt, y_v_putOff) → zB C (0, 0) 35 [] [] (I, (va_up (va_up J (58 + 7 * i0 + 6) v_putOff) (58 + 7 * i0) (va_up (J (58 + 7 * i0)) 12 v_debt)), Rr, D)) : ∀ (n9 : Nat) (x3 : Int32) (v_putOff : (Nat → Int64)), pRoll_comeDue_b16 N a1 v_debts v_debt k35 n9 x3 v_putOff = some (y_v_debt, y_v_putOff) → zB C (0, 0) 16 [(0, .ref (C.X.1 + (58 + 7 * i0))), (3, .int x3)] [] (I, (va_up (va_up J (58 + 7 * i0 + 6) v_putOff) (58 + 7 * i0) (va_up (J (58 + 7 * i0)) 12 v_debt)), Rr, D) := by
  refine zlp2_ind (P := fun (x3 : Int32) (v_putOff : (Nat → Int64)) => zB C (0, 0) 16 [(0, .ref (C.X.1 + (58 + 7 * i0))), (3, .int x3)] [] (I, (va_up (va_up J (58 + 7 * i0 + 6) v_putOff) (58 + 7 * i0) (va_up (J (58 + 7 * i0)) 12 v_debt)), Rr, D)) (fun self ih => ?_)
  intro x3 v_putOff h
  refine zb_iload_n E dX8_comeDue_16 1 rfl rfl ?_
  refine zb_bipush E dX8_comeDue_17 (v := 19) rfl ?_
  refine zb_icmp_ge E dX8_comeDue_19 (tgt := 35) rfl (fun hc => ?_) (fun hc => ?_)
  · have h := if_t h hc
    refine zb_sub [] rfl ?_
    exact hk35 v_putOff h
  · have h := if_f h hc
    refine zb_aload_n E dX8_comeDue_22 0 rfl rfl ?_
    refine zb_getX E (58 + 7 * i0) (by omega) (zFr C.X hi0 hkn) rfl zin8 9 (by decide) zw_285 rfl zup_s (v := .ref (C.X.1 + (58 + 7 * i0 + 6))) rfl dX8_comeDue_23 ?_
    refine zb_iload_n E dX8_comeDue_26 1 rfl rfl ?_
    refine zb_lconst E dX8_comeDue_27 (v := 0) rfl ?_
    obtain ⟨g5, h⟩ := gd_s h
    refine zb_last E (58 + 7 * i0 + 6) (by omega) (zFrA_6 hi0) (f := v_putOff) (((zup_n (by omega : ((58 + 7 * i0 + 6) : Nat) ≠ (58 + 7 * i0))).trans zup_s)) (ib_in g5) dX8_comeDue_28 (J2 := (va_up (va_up J (58 + 7 * i0 + 6) (vp_updL v_putOff (ix x3) 0)) (58 + 7 * i0) (va_up (J (58 + 7 * i0)) 12 v_debt))) (zn2 (by omega : ((58 + 7 * i0) : Nat) ≠ (58 + 7 * i0 + 6))) ?_
    refine zb_iinc E dX8_comeDue_29 1 rfl (v := (x3 + 1)) rfl (by decide) (lv2 := [(3, .int (x3 + 1)), (0, .ref (C.X.1 + (58 + 7 * i0)))]) rfl ?_
    refine zb_goto E dX8_comeDue_32 (tgt := 16) rfl ?_
    refine zb_sub [1, 0] rfl ?_
    exact ih (x3 + 1) (vp_updL v_putOff (ix x3) 0) h
theorem c_X8_comeDue_b35 {C : zC} {I : Nat → Nat → Int32} {J : Nat → Nat → Int64} {Rr : Nat → Nat → Option Nat} {D : zD} (i0 : Nat) (hi0 : i0 < 10) (kn : Nat) (hkn : (i0 < 8 ∧ kn = 48) ∨ (8 ≤ i0 ∧ kn = 53)) (N : Nat) (a1 : Int32) (v_debts : (Nat → Int64)) (e_v_debts : J (58 + 7 * i0 + 1) = v_debts) (y_v_debt : Int64) (y_v_putOff : (Nat → Int64)) (E : zE C RX8 cX8_comeDue 4 none ({ frames := 1, cells := 0, slots := 0, locals := 72 } : Room)) (hQ : C.Q = zQv C ({ frames := 1, cells := 0, slots := 0, locals := 72 } : Room) (I, (va_up (va_up J (58 + 7 * i0 + 6) y_v_putOff) (58 + 7 * i0) (va_up (J (58 + 7 * i0)) 12 y_v_debt)), Rr, D)) (v_debt : Int64) (v_putOff : (Nat → Int64)) (h : pRoll_comeDue_b35 N a1 v_debts v_debt v_putOff = some (y_v_debt, y_v_putOff)) : zB C (0, 0) 35 [] [] (I, (va_up (va_up J (58 + 7 * i0 + 6) v_putOff) (58 + 7 * i0) (va_up (J (58 + 7 * i0)) 12 v_debt)), Rr, D) := by
  refine zb_goto E dX8_comeDue_35 (tgt := 92) rfl ?_
  obtain ⟨rfl, rfl⟩ := zinj2 h
  exact zb_vret E hQ rfl ⟨Nat.zero_le _, Nat.zero_le _⟩ dX8_comeDue_92
theorem c_X8_comeDue_0 {C : zC} {I : Nat → Nat → Int32} {J : Nat → Nat → Int64} {Rr : Nat → Nat → Option Nat} {D : zD} (i0 : Nat) (hi0 : i0 < 10) (kn : Nat) (hkn : (i0 < 8 ∧ kn = 48) ∨ (8 ≤ i0 ∧ kn = 53)) (N : Nat) (a1 : Int32) (v_debts : (Nat → Int64)) (e_v_debts : J (58 + 7 * i0 + 1) = v_debts) (y_v_debt : Int64) (y_v_putOff : (Nat → Int64)) (E : zE C RX8 cX8_comeDue 4 none ({ frames := 1, cells := 0, slots := 0, locals := 72 } : Room)) (hQ : C.Q = zQv C ({ frames := 1, cells := 0, slots := 0, locals := 72 } : Room) (I, (va_up (va_up J (58 + 7 * i0 + 6) y_v_putOff) (58 + 7 * i0) (va_up (J (58 + 7 * i0)) 12 y_v_debt)), Rr, D)) (v_debt : Int64) (v_putOff : (Nat → Int64)) (h : pRoll_comeDue N a1 v_debt v_debts v_putOff = some (y_v_debt, y_v_putOff)) : zB C (0, 0) 0 [(0, .ref (C.X.1 + (58 + 7 * i0))), (1, .int a1)] [] (I, (va_up (va_up J (58 + 7 * i0 + 6) v_putOff) (58 + 7 * i0) (va_up (J (58 + 7 * i0)) 12 v_debt)), Rr, D) := by
  refine zb_iload_n E dX8_comeDue_0 1 rfl rfl ?_
  refine zb_bipush E dX8_comeDue_1 (v := 19) rfl ?_
  refine zb_imul E dX8_comeDue_3 ?_
  refine zb_istore_n E dX8_comeDue_4 rfl (by decide) (lv2 := [(2, .int (a1 * 19)), (0, .ref (C.X.1 + (58 + 7 * i0))), (1, .int a1)]) rfl ?_
  refine zb_iload_n E dX8_comeDue_5 2 rfl rfl ?_
  refine zb_if_ne E dX8_comeDue_6 (tgt := 38) rfl (fun hc => ?_) (fun hc => ?_)
  · have h := if_f h hc
    refine zb_aload_n E dX8_comeDue_38 1 rfl rfl ?_
    refine zb_aload_n E dX8_comeDue_39 1 rfl rfl ?_
    refine zb_getX E (58 + 7 * i0) (by omega) (zFr C.X hi0 hkn) rfl zin8 4 (by decide) zw_280 rfl zup_s (v := .ref (C.X.1 + (58 + 7 * i0 + 1))) rfl dX8_comeDue_40 ?_
    refine zb_iload_n E dX8_comeDue_43 2 rfl rfl ?_
    refine zb_iconst E dX8_comeDue_44 (v := 1) rfl ?_
    refine zb_isub E dX8_comeDue_45 ?_
    obtain ⟨g1, h⟩ := gd_s h
    refine zb_lald E (58 + 7 * i0 + 1) (by omega) (zFrA_1 hi0) (f := v_debts) (((zup_n (by omega : ((58 + 7 * i0 + 1) : Nat) ≠ (58 + 7 * i0))).trans (zup_n (by omega : ((58 + 7 * i0 + 1) : Nat) ≠ (58 + 7 * i0 + 6)))).trans e_v_debts) (ib_in g1) dX8_comeDue_46 ?_
    refine zb_aload_n E dX8_comeDue_47 1 rfl rfl ?_
    refine zb_getX E (58 + 7 * i0) (by omega) (zFr C.X hi0 hkn) rfl zin8 9 (by decide) zw_285 rfl zup_s (v := .ref (C.X.1 + (58 + 7 * i0 + 6))) rfl dX8_comeDue_48 ?_
    refine zb_iload_n E dX8_comeDue_51 0 rfl rfl ?_
    refine zb_bipush E dX8_comeDue_52 (v := 19) rfl ?_
    refine zb_isub E dX8_comeDue_54 ?_
    obtain ⟨g2, h⟩ := gd_s h
    refine zb_lald E (58 + 7 * i0 + 6) (by omega) (zFrA_6 hi0) (f := v_putOff) (((zup_n (by omega : ((58 + 7 * i0 + 6) : Nat) ≠ (58 + 7 * i0))).trans zup_s)) (ib_in g2) dX8_comeDue_55 ?_
    refine zb_ladd E dX8_comeDue_56 ?_
    refine zb_putXJ E (58 + 7 * i0) (by omega) (zFr C.X hi0 hkn) rfl zin8 12 (by decide) zw_288 tyX8 tyX8_ok nmX8 rfl rfl rfl rfl zup_s (zset8_12 C.X (58 + 7 * i0) kn _ _ ((v_debts (ix (a1 - 1))) + (v_putOff (ix ((a1 * 19) - 19))))) (by rw [zflen8]; decide) (J2 := (va_up (va_up J (58 + 7 * i0 + 6) v_putOff) (58 + 7 * i0) (va_up (J (58 + 7 * i0)) 12 ((v_debts (ix (a1 - 1))) + (v_putOff (ix ((a1 * 19) - 19))))))) ((zcgV zn1).trans zn1) dX8_comeDue_57 ?_
    refine zb_aload_n E dX8_comeDue_60 1 rfl rfl ?_
    refine zb_getX E (58 + 7 * i0) (by omega) (zFr C.X hi0 hkn) rfl zin8 9 (by decide) zw_285 rfl zup_s (v := .ref (C.X.1 + (58 + 7 * i0 + 6))) rfl dX8_comeDue_61 ?_
    refine zb_iload_n E dX8_comeDue_64 0 rfl rfl ?_
    refine zb_bipush E dX8_comeDue_65 (v := 19) rfl ?_
    refine zb_isub E dX8_comeDue_67 ?_
    refine zb_iconst E dX8_comeDue_68 (v := 1) rfl ?_
    refine zb_iadd E dX8_comeDue_69 ?_
    refine zb_aload_n E dX8_comeDue_70 1 rfl rfl ?_
    refine zb_getX E (58 + 7 * i0) (by omega) (zFr C.X hi0 hkn) rfl zin8 9 (by decide) zw_285 rfl zup_s (v := .ref (C.X.1 + (58 + 7 * i0 + 6))) rfl dX8_comeDue_71 ?_
    refine zb_iload_n E dX8_comeDue_74 0 rfl rfl ?_
    refine zb_bipush E dX8_comeDue_75 (v := 18) rfl ?_
    obtain ⟨g3, h⟩ := gd_s h
    refine zb_copyJ E (58 + 7 * i0 + 6) (58 + 7 * i0 + 6) (by omega) (by omega) (zFrA_6 hi0) (zFrA_6 hi0) (f := v_putOff) (((zup_n (by omega : ((58 + 7 * i0 + 6) : Nat) ≠ (58 + 7 * i0))).trans zup_s)) (g := v_putOff) (((zup_n (by omega : ((58 + 7 * i0 + 6) : Nat) ≠ (58 + 7 * i0))).trans zup_s)) g3 zw_993 (by decide) (by first | decide | simp [Value.category]) dX8_comeDue_77 (J2 := (va_up (va_up J (58 + 7 * i0 + 6) (va_cpy v_putOff v_putOff (ix (((a1 * 19) - 19) + 1)) (ix (a1 * 19)) (ix 18))) (58 + 7 * i0) (va_up (J (58 + 7 * i0)) 12 ((v_debts (ix (a1 - 1))) + (v_putOff (ix ((a1 * 19) - 19))))))) (zn2 (by omega : ((58 + 7 * i0) : Nat) ≠ (58 + 7 * i0 + 6))) ?_
    refine zb_aload_n E dX8_comeDue_80 1 rfl rfl ?_
    refine zb_getX E (58 + 7 * i0) (by omega) (zFr C.X hi0 hkn) rfl zin8 9 (by decide) zw_285 rfl zup_s (v := .ref (C.X.1 + (58 + 7 * i0 + 6))) rfl dX8_comeDue_81 ?_
    refine zb_iload_n E dX8_comeDue_84 0 rfl rfl ?_
    refine zb_bipush E dX8_comeDue_85 (v := 19) rfl ?_
    refine zb_iadd E dX8_comeDue_87 ?_
    refine zb_iconst E dX8_comeDue_88 (v := 1) rfl ?_
    refine zb_isub E dX8_comeDue_89 ?_
    refine zb_lconst E dX8_comeDue_90 (v := 0) rfl ?_
    obtain ⟨g4, h⟩ := gd_s h
    refine zb_last E (58 + 7 * i0 + 6) (by omega) (zFrA_6 hi0) (f := (va_cpy v_putOff v_putOff (ix (((a1 * 19) - 19) + 1)) (ix (a1 * 19)) (ix 18))) (((zup_n (by omega : ((58 + 7 * i0 + 6) : Nat) ≠ (58 + 7 * i0))).trans zup_s)) (ib_in g4) dX8_comeDue_91 (J2 := (va_up (va_up J (58 + 7 * i0 + 6) (vp_updL (va_cpy v_putOff v_putOff (ix (((a1 * 19) - 19) + 1)) (ix (a1 * 19)) (ix 18)) (ix (((a1 * 19) + 19) - 1)) 0)) (58 + 7 * i0) (va_up (J (58 + 7 * i0)) 12 ((v_debts (ix (a1 - 1))) + (v_putOff (ix ((a1 * 19) - 19))))))) (zn2 (by omega : ((58 + 7 * i0) : Nat) ≠ (58 + 7 * i0 + 6))) ?_
    obtain ⟨rfl, rfl⟩ := zinj2 h
    exact zb_vret E hQ rfl ⟨Nat.zero_le _, Nat.zero_le _⟩ dX8_comeDue_92
  · have h := if_t h hc
    refine zb_aload_n E dX8_comeDue_9 1 rfl rfl ?_
    refine zb_lconst E dX8_comeDue_10 (v := 0) rfl ?_
    refine zb_putXJ E (58 + 7 * i0) (by omega) (zFr C.X hi0 hkn) rfl zin8 12 (by decide) zw_288 tyX8 tyX8_ok nmX8 rfl rfl rfl rfl zup_s (zset8_12 C.X (58 + 7 * i0) kn _ _ 0) (by rw [zflen8]; decide) (J2 := (va_up (va_up J (58 + 7 * i0 + 6) v_putOff) (58 + 7 * i0) (va_up (J (58 + 7 * i0)) 12 0))) ((zcgV zn1).trans zn1) dX8_comeDue_11 ?_
    refine zb_iconst E dX8_comeDue_14 (v := 0) rfl ?_
    refine zb_istore_n E dX8_comeDue_15 rfl (by decide) (lv2 := [(3, .int 0), (2, .int (a1 * 19)), (0, .ref (C.X.1 + (58 + 7 * i0))), (1, .int a1)]) rfl ?_
    refine zb_sub [2, 0] rfl ?_
    exact c_X8_comeDue_b16 i0 hi0 kn hkn N a1 v_debts e_v_debts y_v_debt y_v_putOff E hQ 0 _ (fun v_putOff_z1 h => c_X8_comeDue_b35 i0 hi0 kn hkn N a1 v_debts e_v_debts y_v_debt y_v_putOff E hQ 0 v_putOff_z1 h) _ 0 v_putOff h
theorem c_X8_comeDue {l : Launch} {X : zX} {I : Nat → Nat → Int32} {J : Nat → Nat → Int64} {Rr : Nat → Nat → Option Nat} {D : zD} (i0 : Nat) (hi0 : i0 < 10) (kn : Nat) (hkn : (i0 < 8 ∧ kn = 48) ∨ (8 ≤ i0 ∧ kn = 53)) {N : Nat} {a1 : Int32} (oJ58_7_i0 : Nat → Int64) (eoJ58_7_i0 : J (58 + 7 * i0) = oJ58_7_i0) (v_debts : (Nat → Int64)) (e_v_debts : J (58 + 7 * i0 + 1) = v_debts) (v_debt : Int64) (e_v_debt : J (58 + 7 * i0) 12 = v_debt) (v_putOff : (Nat → Int64)) (e_v_putOff : J (58 + 7 * i0 + 6) = v_putOff) {y_v_debt : Int64} {y_v_putOff : (Nat → Int64)} (h : pRoll_comeDue N a1 v_debt v_debts v_putOff = some (y_v_debt, y_v_putOff)) : zMv l yX8_comeDue cX8_comeDue 4 none ({ frames := 1, cells := 0, slots := 0, locals := 72 } : Room) X [.ref (X.1 + (58 + 7 * i0)), .int a1] (I, J, Rr, D) (I, (va_up (va_up J (58 + 7 * i0 + 6) y_v_putOff) (58 + 7 * i0) (va_up oJ58_7_i0 12 y_v_debt)), Rr, D) := by
  subst eoJ58_7_i0
  refine zMv.of (by decide) (Nat.le_of_ble_eq_true rfl) (fun C E hl hX hQ => ?_)
  subst hl
  subst hX
  have eI0 : I = I := rfl
  have eJ0 : (va_up (va_up J (58 + 7 * i0 + 6) v_putOff) (58 + 7 * i0) (va_up (J (58 + 7 * i0)) 12 v_debt)) = J := by rw [zup_idE e_v_putOff, zup_idE e_v_debt, zup_id]
  refine zb_S (S2 := (I, (va_up (va_up J (58 + 7 * i0 + 6) v_putOff) (58 + 7 * i0) (va_up (J (58 + 7 * i0)) 12 v_debt)), Rr, D)) (zS_eq eI0.symm eJ0.symm) ?_
  exact c_X8_comeDue_0 i0 hi0 kn hkn N a1 v_debts e_v_debts y_v_debt y_v_putOff E hQ v_debt v_putOff h
-- ChequeredCloth$Roll.pardoned
theorem dX8_pardoned_0 : decode cX8_pardoned 0 = .ok (.aload_n 0, 1) := by decide +kernel
theorem dX8_pardoned_1 : decode cX8_pardoned 1 = .ok (.getfield 99, 3) := by decide +kernel
theorem dX8_pardoned_4 : decode cX8_pardoned 4 = .ok (.lconst 0, 1) := by decide +kernel
theorem dX8_pardoned_5 : decode cX8_pardoned 5 = .ok (.lcmp, 1) := by decide +kernel
theorem dX8_pardoned_6 : decode cX8_pardoned 6 = .ok (.ifCond .le 14, 3) := by decide +kernel
theorem dX8_pardoned_9 : decode cX8_pardoned 9 = .ok (.aload_n 1, 1) := by decide +kernel
theorem dX8_pardoned_10 : decode cX8_pardoned 10 = .ok (.getfield 152, 3) := by decide +kernel
theorem dX8_pardoned_13 : decode cX8_pardoned 13 = .ok (.ifCond .le 7, 3) := by decide +kernel
theorem dX8_pardoned_16 : decode cX8_pardoned 16 = .ok (.iconst 1, 1) := by decide +kernel
theorem dX8_pardoned_17 : decode cX8_pardoned 17 = .ok (.goto 4, 3) := by decide +kernel
theorem dX8_pardoned_20 : decode cX8_pardoned 20 = .ok (.iconst 0, 1) := by decide +kernel
theorem dX8_pardoned_21 : decode cX8_pardoned 21 = .ok (.istore_n 2, 1) := by decide +kernel
theorem dX8_pardoned_22 : decode cX8_pardoned 22 = .ok (.iload_n 2, 1) := by decide +kernel
theorem dX8_pardoned_23 : decode cX8_pardoned 23 = .ok (.ifCond .eq 22, 3) := by decide +kernel
theorem dX8_pardoned_26 : decode cX8_pardoned 26 = .ok (.aload_n 0, 1) := by decide +kernel
theorem dX8_pardoned_27 : decode cX8_pardoned 27 = .ok (.getfield 99, 3) := by decide +kernel
theorem dX8_pardoned_30 : decode cX8_pardoned 30 = .ok (.aload_n 1, 1) := by decide +kernel
theorem dX8_pardoned_31 : decode cX8_pardoned 31 = .ok (.getfield 155, 3) := by decide +kernel
theorem dX8_pardoned_34 : decode cX8_pardoned 34 = .ok (.i2l, 1) := by decide +kernel
theorem dX8_pardoned_35 : decode cX8_pardoned 35 = .ok (.lmul, 1) := by decide +kernel
theorem dX8_pardoned_36 : decode cX8_pardoned 36 = .ok (.aload_n 1, 1) := by decide +kernel
theorem dX8_pardoned_37 : decode cX8_pardoned 37 = .ok (.getfield 152, 3) := by decide +kernel
theorem dX8_pardoned_40 : decode cX8_pardoned 40 = .ok (.i2l, 1) := by decide +kernel
theorem dX8_pardoned_41 : decode cX8_pardoned 41 = .ok (.ldiv, 1) := by decide +kernel
theorem dX8_pardoned_42 : decode cX8_pardoned 42 = .ok (.goto 4, 3) := by decide +kernel
theorem dX8_pardoned_45 : decode cX8_pardoned 45 = .ok (.lconst 0, 1) := by decide +kernel
theorem dX8_pardoned_46 : decode cX8_pardoned 46 = .ok (.lreturn, 1) := by decide +kernel
theorem zy_X8_pardoned : zYv yX8_pardoned cX8_pardoned 3 (some .long) 1 := ⟨zw_1027, zws_37, zw_11, zw_1028, by decide, by decide, by decide⟩
theorem c_X8_pardoned_b21 {C : zC} {I : Nat → Nat → Int32} {J : Nat → Nat → Int64} {Rr : Nat → Nat → Option Nat} {v_D : zD} (i0 : Nat) (hi0 : i0 < 10) (kn : Nat) (hkn : (i0 < 8 ∧ kn = 48) ∨ (8 ≤ i0 ∧ kn = 53)) (a1 : (Option Nat)) (v_debt : Int64) (e_v_debt : J (58 + 7 * i0) 12 = v_debt) (rr : Int64) (E : zE C RX8 cX8_pardoned 3 (some .long) ({ frames := 0, cells := 0, slots := 0, locals := 0 } : Room)) (hQ : C.Q = zQl C ({ frames := 0, cells := 0, slots := 0, locals := 0 } : Room) rr (I, J, Rr, v_D)) (s0 : Int32) (h : pRoll_pardoned_b21 a1 v_D v_debt s0 = some rr) : zB C (0, 0) 21 [(0, .ref (C.X.1 + (58 + 7 * i0))), (1, va_rf (zq C.X a1))] [.int s0] (I, J, Rr, v_D) := by
  refine zb_istore_n E dX8_pardoned_21 rfl (by decide) (lv2 := [(2, .int s0), (0, .ref (C.X.1 + (58 + 7 * i0))), (1, va_rf (zq C.X a1))]) (by generalize zq C.X a1 = z9; cases z9 <;> rfl) ?_
  refine zb_iload_n E dX8_pardoned_22 0 rfl rfl ?_
  refine zb_if_eq E dX8_pardoned_23 (tgt := 45) rfl (fun hc => ?_) (fun hc => ?_)
  · have h := if_t h hc
    refine zb_lconst E dX8_pardoned_45 (v := 0) rfl ?_
    obtain rfl := zinj1 h
    exact zb_lret E hQ rfl ⟨Nat.zero_le _, Nat.zero_le _⟩ dX8_pardoned_46
  · have h := if_f h hc
    refine zb_aload_n E dX8_pardoned_26 1 rfl rfl ?_
    refine zb_getX E (58 + 7 * i0) (by omega) (zFr C.X hi0 hkn) rfl zin8 12 (by decide) zw_288 rfl rfl (v := .long v_debt) (by exact congrArg (fun z => some (Value.long z)) e_v_debt) dX8_pardoned_27 ?_
    refine zb_aload_nQ E dX8_pardoned_30 2 rfl rfl ?_
    obtain ⟨y3, hq_y3, h⟩ := bd1_s h
    refine zb_LS (lv2 := [(2, .int s0), (0, .ref (C.X.1 + (58 + 7 * i0))), (1, .ref (C.X.1 + 182 + y3))]) (st2 := [.ref (C.X.1 + 182 + y3), .long v_debt]) (by first | rfl | (rw [hq_y3]; rfl)) (by first | rfl | (rw [hq_y3]; rfl)) ?_
    obtain ⟨d4, hb_d4, h⟩ := bd1_s h
    obtain ⟨⟨hy_d4, hz_d4⟩, hv_d4⟩ := dGI_s hb_d4
    refine zb_dgetN E y3 hy_d4 (zDe_0 hz_d4) rfl zin9 2 (by decide) znw_23 (v := .int d4) (by exact congrArg (fun z => some (Value.int z)) hv_d4) dX8_pardoned_31 ?_
    refine zb_i2l E dX8_pardoned_34 ?_
    refine zb_lmul E dX8_pardoned_35 ?_
    refine zb_aload_n E dX8_pardoned_36 2 rfl rfl ?_
    obtain ⟨d5, hb_d5, h⟩ := bd1_s h
    obtain ⟨⟨hy_d5, hz_d5⟩, hv_d5⟩ := dGI_s hb_d5
    refine zb_dgetN E y3 hy_d5 (zDe_0 hz_d5) rfl zin9 3 (by decide) znw_25 (v := .int d5) (by exact congrArg (fun z => some (Value.int z)) hv_d5) dX8_pardoned_37 ?_
    refine zb_i2l E dX8_pardoned_40 ?_
    obtain ⟨g6, h⟩ := gd_s h
    refine zb_ldiv E dX8_pardoned_41 (nz_l g6) ?_
    refine zb_goto E dX8_pardoned_42 (tgt := 46) rfl ?_
    obtain rfl := zinj1 h
    exact zb_lret E hQ rfl ⟨Nat.zero_le _, Nat.zero_le _⟩ dX8_pardoned_46
theorem c_X8_pardoned_0 {C : zC} {I : Nat → Nat → Int32} {J : Nat → Nat → Int64} {Rr : Nat → Nat → Option Nat} {v_D : zD} (i0 : Nat) (hi0 : i0 < 10) (kn : Nat) (hkn : (i0 < 8 ∧ kn = 48) ∨ (8 ≤ i0 ∧ kn = 53)) (a1 : (Option Nat)) (v_debt : Int64) (e_v_debt : J (58 + 7 * i0) 12 = v_debt) (rr : Int64) (E : zE C RX8 cX8_pardoned 3 (some .long) ({ frames := 0, cells := 0, slots := 0, locals := 0 } : Room)) (hQ : C.Q = zQl C ({ frames := 0, cells := 0, slots := 0, locals := 0 } : Room) rr (I, J, Rr, v_D)) (h : pRoll_pardoned a1 v_D v_debt = some rr) : zB C (0, 0) 0 [(0, .ref (C.X.1 + (58 + 7 * i0))), (1, va_rf (zq C.X a1))] [] (I, J, Rr, v_D) := by
  refine zb_aload_n E dX8_pardoned_0 0 rfl rfl ?_
  refine zb_getX E (58 + 7 * i0) (by omega) (zFr C.X hi0 hkn) rfl zin8 12 (by decide) zw_288 rfl rfl (v := .long v_debt) (by exact congrArg (fun z => some (Value.long z)) e_v_debt) dX8_pardoned_1 ?_
  refine zb_lconst E dX8_pardoned_4 (v := 0) rfl ?_
  refine zb_lcmp E dX8_pardoned_5 ?_
  refine zb_if_le E dX8_pardoned_6 (tgt := 20) rfl (fun hc => ?_) (fun hc => ?_)
  · have h := if_t h hc
    refine zb_iconst E dX8_pardoned_20 (v := 0) rfl ?_
    exact c_X8_pardoned_b21 i0 hi0 kn hkn a1 v_debt e_v_debt rr E hQ 0 h
  · have h := if_f h hc
    refine zb_aload_nQ E dX8_pardoned_9 1 rfl rfl ?_
    obtain ⟨y1, hq_y1, h⟩ := bd1_s h
    refine zb_LS (lv2 := [(0, .ref (C.X.1 + (58 + 7 * i0))), (1, .ref (C.X.1 + 182 + y1))]) (st2 := [.ref (C.X.1 + 182 + y1)]) (by first | rfl | (rw [hq_y1]; rfl)) (by first | rfl | (rw [hq_y1]; rfl)) ?_
    obtain ⟨d2, hb_d2, h⟩ := bd1_s h
    obtain ⟨⟨hy_d2, hz_d2⟩, hv_d2⟩ := dGI_s hb_d2
    refine zb_dgetN E y1 hy_d2 (zDe_0 hz_d2) rfl zin9 3 (by decide) znw_25 (v := .int d2) (by exact congrArg (fun z => some (Value.int z)) hv_d2) dX8_pardoned_10 ?_
    refine zb_if_le E dX8_pardoned_13 (tgt := 20) rfl (fun hc => ?_) (fun hc => ?_)
    · have h := if_t h hc
      refine zb_iconst E dX8_pardoned_20 (v := 0) rfl ?_
      refine zb_LS (lv2 := [(0, .ref (C.X.1 + (58 + 7 * i0))), (1, va_rf (zq C.X a1))]) (by first | (rw [hq_y1]; done) | (rw [hq_y1]; rfl)) rfl ?_
      exact c_X8_pardoned_b21 i0 hi0 kn hkn a1 v_debt e_v_debt rr E hQ 0 h
    · have h := if_f h hc
      refine zb_iconst E dX8_pardoned_16 (v := 1) rfl ?_
      refine zb_goto E dX8_pardoned_17 (tgt := 21) rfl ?_
      refine zb_LS (lv2 := [(0, .ref (C.X.1 + (58 + 7 * i0))), (1, va_rf (zq C.X a1))]) (by first | (rw [hq_y1]; done) | (rw [hq_y1]; rfl)) rfl ?_
      exact c_X8_pardoned_b21 i0 hi0 kn hkn a1 v_debt e_v_debt rr E hQ 1 h
theorem c_X8_pardoned {l : Launch} {X : zX} {I : Nat → Nat → Int32} {J : Nat → Nat → Int64} {Rr : Nat → Nat → Option Nat} {v_D : zD} (i0 : Nat) (hi0 : i0 < 10) (kn : Nat) (hkn : (i0 < 8 ∧ kn = 48) ∨ (8 ≤ i0 ∧ kn = 53)) {a1 : (Option Nat)} (v_debt : Int64) (e_v_debt : J (58 + 7 * i0) 12 = v_debt) {rr : Int64} (h : pRoll_pardoned a1 v_D v_debt = some rr) : zMl l yX8_pardoned cX8_pardoned 3 (some .long) ({ frames := 0, cells := 0, slots := 0, locals := 0 } : Room) X [.ref (X.1 + (58 + 7 * i0)), va_rf (zq X a1)] (I, J, Rr, v_D) rr (I, J, Rr, v_D) := by
  refine zMl.of (by decide) (by generalize zq X a1 = z9; cases z9 <;> exact Nat.le_of_ble_eq_true rfl) (fun C E hl hX hQ => ?_)
  subst hl
  subst hX
  refine zb_LS (lv2 := [(0, .ref (C.X.1 + (58 + 7 * i0))), (1, va_rf (zq C.X a1))]) (by generalize zq C.X a1 = z9; cases z9 <;> rfl) rfl ?_
  have eI0 : I = I := rfl
  have eJ0 : J = J := rfl
  refine zb_S (S2 := (I, J, Rr, v_D)) (zS_eq eI0.symm eJ0.symm) ?_
  exact c_X8_pardoned_0 i0 hi0 kn hkn a1 v_debt e_v_debt rr E hQ h
-- ChequeredCloth$Roll.reckon
theorem dX8_reckon_0 : decode cX8_reckon 0 = .ok (.aload_n 1, 1) := by decide +kernel
theorem dX8_reckon_1 : decode cX8_reckon 1 = .ok (.ifnonnull 5, 3) := by decide +kernel
theorem dX8_reckon_4 : decode cX8_reckon 4 = .ok (.lconst 0, 1) := by decide +kernel
theorem dX8_reckon_5 : decode cX8_reckon 5 = .ok (.lreturn, 1) := by decide +kernel
theorem dX8_reckon_6 : decode cX8_reckon 6 = .ok (.lconst 0, 1) := by decide +kernel
theorem dX8_reckon_7 : decode cX8_reckon 7 = .ok (.lstore 4, 2) := by decide +kernel
theorem dX8_reckon_9 : decode cX8_reckon 9 = .ok (.aload_n 1, 1) := by decide +kernel
theorem dX8_reckon_10 : decode cX8_reckon 10 = .ok (.getfield 112, 3) := by decide +kernel
theorem dX8_reckon_13 : decode cX8_reckon 13 = .ok (.astore 6, 2) := by decide +kernel
theorem dX8_reckon_15 : decode cX8_reckon 15 = .ok (.aload 6, 2) := by decide +kernel
theorem dX8_reckon_17 : decode cX8_reckon 17 = .ok (.arraylength, 1) := by decide +kernel
theorem dX8_reckon_18 : decode cX8_reckon 18 = .ok (.istore 7, 2) := by decide +kernel
theorem dX8_reckon_20 : decode cX8_reckon 20 = .ok (.iconst 0, 1) := by decide +kernel
theorem dX8_reckon_21 : decode cX8_reckon 21 = .ok (.istore 8, 2) := by decide +kernel
theorem dX8_reckon_23 : decode cX8_reckon 23 = .ok (.iload 8, 2) := by decide +kernel
theorem dX8_reckon_25 : decode cX8_reckon 25 = .ok (.iload 7, 2) := by decide +kernel
theorem dX8_reckon_27 : decode cX8_reckon 27 = .ok (.if_icmp .ge 168, 3) := by decide +kernel
theorem dX8_reckon_30 : decode cX8_reckon 30 = .ok (.aload 6, 2) := by decide +kernel
theorem dX8_reckon_32 : decode cX8_reckon 32 = .ok (.iload 8, 2) := by decide +kernel
theorem dX8_reckon_34 : decode cX8_reckon 34 = .ok (.aaload, 1) := by decide +kernel
theorem dX8_reckon_35 : decode cX8_reckon 35 = .ok (.astore 9, 2) := by decide +kernel
theorem dX8_reckon_37 : decode cX8_reckon 37 = .ok (.aload 9, 2) := by decide +kernel
theorem dX8_reckon_39 : decode cX8_reckon 39 = .ok (.getfield 118, 3) := by decide +kernel
theorem dX8_reckon_42 : decode cX8_reckon 42 = .ok (.iload_n 3, 1) := by decide +kernel
theorem dX8_reckon_43 : decode cX8_reckon 43 = .ok (.if_icmp .eq 6, 3) := by decide +kernel
theorem dX8_reckon_46 : decode cX8_reckon 46 = .ok (.goto 143, 3) := by decide +kernel
theorem dX8_reckon_49 : decode cX8_reckon 49 = .ok (.aload_n 0, 1) := by decide +kernel
theorem dX8_reckon_50 : decode cX8_reckon 50 = .ok (.getfield 42, 3) := by decide +kernel
theorem dX8_reckon_53 : decode cX8_reckon 53 = .ok (.aload_n 0, 1) := by decide +kernel
theorem dX8_reckon_54 : decode cX8_reckon 54 = .ok (.getfield 46, 3) := by decide +kernel
theorem dX8_reckon_57 : decode cX8_reckon 57 = .ok (.iload_n 2, 1) := by decide +kernel
theorem dX8_reckon_58 : decode cX8_reckon 58 = .ok (.aload_n 0, 1) := by decide +kernel
theorem dX8_reckon_59 : decode cX8_reckon 59 = .ok (.getfield 99, 3) := by decide +kernel
theorem dX8_reckon_62 : decode cX8_reckon 62 = .ok (.aload_n 0, 1) := by decide +kernel
theorem dX8_reckon_63 : decode cX8_reckon 63 = .ok (.getfield 74, 3) := by decide +kernel
theorem dX8_reckon_66 : decode cX8_reckon 66 = .ok (.invokevirtual 121, 3) := by decide +kernel
theorem dX8_reckon_69 : decode cX8_reckon 69 = .ok (.aload_n 0, 1) := by decide +kernel
theorem dX8_reckon_70 : decode cX8_reckon 70 = .ok (.getfield 42, 3) := by decide +kernel
theorem dX8_reckon_73 : decode cX8_reckon 73 = .ok (.aload_n 1, 1) := by decide +kernel
theorem dX8_reckon_74 : decode cX8_reckon 74 = .ok (.getfield 127, 3) := by decide +kernel
theorem dX8_reckon_77 : decode cX8_reckon 77 = .ok (.aload 9, 2) := by decide +kernel
theorem dX8_reckon_79 : decode cX8_reckon 79 = .ok (.getfield 131, 3) := by decide +kernel
theorem dX8_reckon_82 : decode cX8_reckon 82 = .ok (.aload 9, 2) := by decide +kernel
theorem dX8_reckon_84 : decode cX8_reckon 84 = .ok (.getfield 134, 3) := by decide +kernel
theorem dX8_reckon_87 : decode cX8_reckon 87 = .ok (.invokevirtual 137, 3) := by decide +kernel
theorem dX8_reckon_90 : decode cX8_reckon 90 = .ok (.lconst 0, 1) := by decide +kernel
theorem dX8_reckon_91 : decode cX8_reckon 91 = .ok (.lcmp, 1) := by decide +kernel
theorem dX8_reckon_92 : decode cX8_reckon 92 = .ok (.ifCond .eq 97, 3) := by decide +kernel
theorem dX8_reckon_95 : decode cX8_reckon 95 = .ok (.iload_n 3, 1) := by decide +kernel
theorem dX8_reckon_96 : decode cX8_reckon 96 = .ok (.iconst 3, 1) := by decide +kernel
theorem dX8_reckon_97 : decode cX8_reckon 97 = .ok (.if_icmp .ne 12, 3) := by decide +kernel
theorem dX8_reckon_100 : decode cX8_reckon 100 = .ok (.aload_n 0, 1) := by decide +kernel
theorem dX8_reckon_101 : decode cX8_reckon 101 = .ok (.aload 9, 2) := by decide +kernel
theorem dX8_reckon_103 : decode cX8_reckon 103 = .ok (.invokevirtual 141, 3) := by decide +kernel
theorem dX8_reckon_106 : decode cX8_reckon 106 = .ok (.goto 28, 3) := by decide +kernel
theorem dX8_reckon_109 : decode cX8_reckon 109 = .ok (.lconst 0, 1) := by decide +kernel
theorem dX8_reckon_110 : decode cX8_reckon 110 = .ok (.aload_n 0, 1) := by decide +kernel
theorem dX8_reckon_111 : decode cX8_reckon 111 = .ok (.getfield 42, 3) := by decide +kernel
theorem dX8_reckon_114 : decode cX8_reckon 114 = .ok (.aload_n 1, 1) := by decide +kernel
theorem dX8_reckon_115 : decode cX8_reckon 115 = .ok (.getfield 127, 3) := by decide +kernel
theorem dX8_reckon_118 : decode cX8_reckon 118 = .ok (.aload 9, 2) := by decide +kernel
theorem dX8_reckon_120 : decode cX8_reckon 120 = .ok (.getfield 145, 3) := by decide +kernel
theorem dX8_reckon_123 : decode cX8_reckon 123 = .ok (.aload 9, 2) := by decide +kernel
theorem dX8_reckon_125 : decode cX8_reckon 125 = .ok (.getfield 131, 3) := by decide +kernel
theorem dX8_reckon_128 : decode cX8_reckon 128 = .ok (.invokevirtual 137, 3) := by decide +kernel
theorem dX8_reckon_131 : decode cX8_reckon 131 = .ok (.invokestatic 148, 3) := by decide +kernel
theorem dX8_reckon_134 : decode cX8_reckon 134 = .ok (.lstore 10, 2) := by decide +kernel
theorem dX8_reckon_136 : decode cX8_reckon 136 = .ok (.lload 4, 2) := by decide +kernel
theorem dX8_reckon_138 : decode cX8_reckon 138 = .ok (.lload 10, 2) := by decide +kernel
theorem dX8_reckon_140 : decode cX8_reckon 140 = .ok (.ladd, 1) := by decide +kernel
theorem dX8_reckon_141 : decode cX8_reckon 141 = .ok (.lstore 4, 2) := by decide +kernel
theorem dX8_reckon_143 : decode cX8_reckon 143 = .ok (.aload_n 0, 1) := by decide +kernel
theorem dX8_reckon_144 : decode cX8_reckon 144 = .ok (.dup, 1) := by decide +kernel
theorem dX8_reckon_145 : decode cX8_reckon 145 = .ok (.getfield 99, 3) := by decide +kernel
theorem dX8_reckon_148 : decode cX8_reckon 148 = .ok (.iload_n 3, 1) := by decide +kernel
theorem dX8_reckon_149 : decode cX8_reckon 149 = .ok (.iconst 1, 1) := by decide +kernel
theorem dX8_reckon_150 : decode cX8_reckon 150 = .ok (.if_icmp .ne 8, 3) := by decide +kernel
theorem dX8_reckon_153 : decode cX8_reckon 153 = .ok (.lload 10, 2) := by decide +kernel
theorem dX8_reckon_155 : decode cX8_reckon 155 = .ok (.goto 6, 3) := by decide +kernel
theorem dX8_reckon_158 : decode cX8_reckon 158 = .ok (.lload 10, 2) := by decide +kernel
theorem dX8_reckon_160 : decode cX8_reckon 160 = .ok (.lneg, 1) := by decide +kernel
theorem dX8_reckon_161 : decode cX8_reckon 161 = .ok (.ladd, 1) := by decide +kernel
theorem dX8_reckon_162 : decode cX8_reckon 162 = .ok (.putfield 99, 3) := by decide +kernel
theorem dX8_reckon_165 : decode cX8_reckon 165 = .ok (.aload_n 0, 1) := by decide +kernel
theorem dX8_reckon_166 : decode cX8_reckon 166 = .ok (.aload_n 0, 1) := by decide +kernel
theorem dX8_reckon_167 : decode cX8_reckon 167 = .ok (.getfield 78, 3) := by decide +kernel
theorem dX8_reckon_170 : decode cX8_reckon 170 = .ok (.ifCond .ne 11, 3) := by decide +kernel
theorem dX8_reckon_173 : decode cX8_reckon 173 = .ok (.aload 9, 2) := by decide +kernel
theorem dX8_reckon_175 : decode cX8_reckon 175 = .ok (.getfield 151, 3) := by decide +kernel
theorem dX8_reckon_178 : decode cX8_reckon 178 = .ok (.ifCond .eq 7, 3) := by decide +kernel
theorem dX8_reckon_181 : decode cX8_reckon 181 = .ok (.iconst 1, 1) := by decide +kernel
theorem dX8_reckon_182 : decode cX8_reckon 182 = .ok (.goto 4, 3) := by decide +kernel
theorem dX8_reckon_185 : decode cX8_reckon 185 = .ok (.iconst 0, 1) := by decide +kernel
theorem dX8_reckon_186 : decode cX8_reckon 186 = .ok (.putfield 78, 3) := by decide +kernel
theorem dX8_reckon_189 : decode cX8_reckon 189 = .ok (.iinc 8 1, 3) := by decide +kernel
theorem dX8_reckon_192 : decode cX8_reckon 192 = .ok (.goto (-169), 3) := by decide +kernel
theorem dX8_reckon_195 : decode cX8_reckon 195 = .ok (.lload 4, 2) := by decide +kernel
theorem dX8_reckon_197 : decode cX8_reckon 197 = .ok (.lreturn, 1) := by decide +kernel
theorem zy_X8_reckon : zYv yX8_reckon cX8_reckon 12 (some .long) 3 := ⟨zw_996, zws_35, zw_11, zw_997, by decide, by decide, by decide⟩
theorem c_X8_reckon_b186 {C : zC} {I : Nat → Nat → Int32} {J : Nat → Nat → Int64} {Rr : Nat → Nat → Option Nat} {v_D : zD} (i0 : Nat) (hi0 : i0 < 10) (kn : Nat) (hkn : (i0 < 8 ∧ kn = 48) ∨ (8 ≤ i0 ∧ kn = 53)) (N : Nat) (a1 : (Option Nat)) (a2 : Int32) (a3 : Int32) (v_paid : Int64) (e_v_paid : J (58 + 7 * i0) 13 = v_paid) (v_shire : Int32) (e_v_shire : I (58 + 7 * i0) 10 = v_shire) (rr : Int64) (y_v_judge_debt : Int64) (y_v_judge_paid : Int64) (y_v_judge_shire : Int32) (y_v_judge_term : Int32) (y_v_judge_stack : (Nat → Int64)) (y_v_blanched : Int32) (y_v_debt : Int64) (E : zE C RX8 cX8_reckon 12 (some .long) ({ frames := 3, cells := 0, slots := 0, locals := 81 } : Room)) (hQ : C.Q = zQl C ({ frames := 3, cells := 0, slots := 0, locals := 81 } : Room) rr ((va_up (va_up I (58 + 7 * i0) (va_up (I (58 + 7 * i0)) 14 y_v_blanched)) 46 (va_up (va_up (I 46) 1 y_v_judge_shire) 2 y_v_judge_term)), (va_up (va_up (va_up J (58 + 7 * i0) (va_up (J (58 + 7 * i0)) 12 y_v_debt)) 46 (va_up (va_up (J 46) 3 y_v_judge_debt) 4 y_v_judge_paid)) 47 y_v_judge_stack), Rr, v_D)) (x4 : Int64) (x6 : Nat) (x7 : Int32) (x8 : Int32) (s1 : Int32) (v_judge_debt : Int64) (v_judge_paid : Int64) (v_judge_shire : Int32) (v_judge_term : Int32) (v_judge_stack : (Nat → Int64)) (v_blanched : Int32) (v_debt : Int64) (self : Int64 → Int32 → Int64 → Int64 → Int32 → Int32 → (Nat → Int64) → Int32 → Int64 → Option R_pRoll_reckon) (ih : ∀ (x4 : Int64) (x8 : Int32) (v_judge_debt : Int64) (v_judge_paid : Int64) (v_judge_shire : Int32) (v_judge_term : Int32) (v_judge_stack : (Nat → Int64)) (v_blanched : Int32) (v_debt : Int64), self x4 x8 v_judge_debt v_judge_paid v_judge_shire v_judge_term v_judge_stack v_blanched v_debt = some (rr, y_v_judge_debt, y_v_judge_paid, y_v_judge_shire, y_v_judge_term, y_v_judge_stack, y_v_blanched, y_v_debt) → zB C (0, 0) 23 [(0, .ref (C.X.1 + (58 + 7 * i0))), (1, va_rf (zq C.X a1)), (2, .int a2), (3, .int a3), (4, .long x4), (6, .ref (C.X.1 + 182 + x6)), (7, .int x7), (8, .int x8)] [] ((va_up (va_up I (58 + 7 * i0) (va_up (I (58 + 7 * i0)) 14 v_blanched)) 46 (va_up (va_up (I 46) 1 v_judge_shire) 2 v_judge_term)), (va_up (va_up (va_up J (58 + 7 * i0) (va_up (J (58 + 7 * i0)) 12 v_debt)) 46 (va_up (va_up (J 46) 3 v_judge_debt) 4 v_judge_paid)) 47 v_judge_stack), Rr, v_D)) (h : pRoll_reckon_b186 N a1 a2 a3 v_D v_paid v_shire self x4 x6 x7 x8 s1 v_judge_debt v_judge_paid v_judge_shire v_judge_term v_judge_stack v_blanched v_debt = some (rr, y_v_judge_debt, y_v_judge_paid, y_v_judge_shire, y_v_judge_term, y_v_judge_stack, y_v_blanched, y_v_debt)) : zB C (0, 0) 186 [(0, .ref (C.X.1 + (58 + 7 * i0))), (1, va_rf (zq C.X a1)), (2, .int a2), (3, .int a3), (4, .long x4), (6, .ref (C.X.1 + 182 + x6)), (7, .int x7), (8, .int x8)] [.int s1, .ref (C.X.1 + (58 + 7 * i0))] ((va_up (va_up I (58 + 7 * i0) (va_up (I (58 + 7 * i0)) 14 v_blanched)) 46 (va_up (va_up (I 46) 1 v_judge_shire) 2 v_judge_term)), (va_up (va_up (va_up J (58 + 7 * i0) (va_up (J (58 + 7 * i0)) 12 v_debt)) 46 (va_up (va_up (J 46) 3 v_judge_debt) 4 v_judge_paid)) 47 v_judge_stack), Rr, v_D) := by
  obtain ⟨g20, h⟩ := gd_s h
  refine zb_putXI E (58 + 7 * i0) (by omega) (zFr C.X hi0 hkn) rfl zin8 14 (by decide) zw_290 tyX8 tyX8_ok nmX8 rfl (isB_n g20) (isB_f g20) ((zup_n (zneL0 (by decide : (46 : Nat) < 58))).trans zup_s) ((zup_n (zneL0 (by decide : (47 : Nat) < 58))).trans ((zup_n (zneL0 (by decide : (46 : Nat) < 58))).trans zup_s)) (zset8_14 C.X (58 + 7 * i0) kn _ _ s1) (by rw [zflen8]; decide) (I2 := (va_up (va_up I (58 + 7 * i0) (va_up (I (58 + 7 * i0)) 14 s1)) 46 (va_up (va_up (I 46) 1 v_judge_shire) 2 v_judge_term))) ((zcgV zn1).trans (zn2 (Ne.symm (zneL0 (by decide : (46 : Nat) < 58))))) dX8_reckon_186 ?_
  refine zb_iinc E dX8_reckon_189 7 rfl (v := (x8 + 1)) rfl (by decide) (lv2 := [(8, .int (x8 + 1)), (0, .ref (C.X.1 + (58 + 7 * i0))), (1, va_rf (zq C.X a1)), (2, .int a2), (3, .int a3), (4, .long x4), (6, .ref (C.X.1 + 182 + x6)), (7, .int x7)]) rfl ?_
  refine zb_goto E dX8_reckon_192 (tgt := 23) rfl ?_
  refine zb_sub [1, 2, 3, 4, 5, 6, 7, 0] rfl ?_
  exact ih x4 (x8 + 1) v_judge_debt v_judge_paid v_judge_shire v_judge_term v_judge_stack s1 v_debt h
theorem c_X8_reckon_b161 {C : zC} {I : Nat → Nat → Int32} {J : Nat → Nat → Int64} {Rr : Nat → Nat → Option Nat} {v_D : zD} (i0 : Nat) (hi0 : i0 < 10) (kn : Nat) (hkn : (i0 < 8 ∧ kn = 48) ∨ (8 ≤ i0 ∧ kn = 53)) (N : Nat) (a1 : (Option Nat)) (a2 : Int32) (a3 : Int32) (v_paid : Int64) (e_v_paid : J (58 + 7 * i0) 13 = v_paid) (v_shire : Int32) (e_v_shire : I (58 + 7 * i0) 10 = v_shire) (rr : Int64) (y_v_judge_debt : Int64) (y_v_judge_paid : Int64) (y_v_judge_shire : Int32) (y_v_judge_term : Int32) (y_v_judge_stack : (Nat → Int64)) (y_v_blanched : Int32) (y_v_debt : Int64) (E : zE C RX8 cX8_reckon 12 (some .long) ({ frames := 3, cells := 0, slots := 0, locals := 81 } : Room)) (hQ : C.Q = zQl C ({ frames := 3, cells := 0, slots := 0, locals := 81 } : Room) rr ((va_up (va_up I (58 + 7 * i0) (va_up (I (58 + 7 * i0)) 14 y_v_blanched)) 46 (va_up (va_up (I 46) 1 y_v_judge_shire) 2 y_v_judge_term)), (va_up (va_up (va_up J (58 + 7 * i0) (va_up (J (58 + 7 * i0)) 12 y_v_debt)) 46 (va_up (va_up (J 46) 3 y_v_judge_debt) 4 y_v_judge_paid)) 47 y_v_judge_stack), Rr, v_D)) (x4 : Int64) (x6 : Nat) (x7 : Int32) (x8 : Int32) (x9 : Nat) (s1 : Int64) (s2 : Int64) (v_judge_debt : Int64) (v_judge_paid : Int64) (v_judge_shire : Int32) (v_judge_term : Int32) (v_judge_stack : (Nat → Int64)) (v_blanched : Int32) (v_debt : Int64) (self : Int64 → Int32 → Int64 → Int64 → Int32 → Int32 → (Nat → Int64) → Int32 → Int64 → Option R_pRoll_reckon) (ih : ∀ (x4 : Int64) (x8 : Int32) (v_judge_debt : Int64) (v_judge_paid : Int64) (v_judge_shire : Int32) (v_judge_term : Int32) (v_judge_stack : (Nat → Int64)) (v_blanched : Int32) (v_debt : Int64), self x4 x8 v_judge_debt v_judge_paid v_judge_shire v_judge_term v_judge_stack v_blanched v_debt = some (rr, y_v_judge_debt, y_v_judge_paid, y_v_judge_shire, y_v_judge_term, y_v_judge_stack, y_v_blanched, y_v_debt) → zB C (0, 0) 23 [(0, .ref (C.X.1 + (58 + 7 * i0))), (1, va_rf (zq C.X a1)), (2, .int a2), (3, .int a3), (4, .long x4), (6, .ref (C.X.1 + 182 + x6)), (7, .int x7), (8, .int x8)] [] ((va_up (va_up I (58 + 7 * i0) (va_up (I (58 + 7 * i0)) 14 v_blanched)) 46 (va_up (va_up (I 46) 1 v_judge_shire) 2 v_judge_term)), (va_up (va_up (va_up J (58 + 7 * i0) (va_up (J (58 + 7 * i0)) 12 v_debt)) 46 (va_up (va_up (J 46) 3 v_judge_debt) 4 v_judge_paid)) 47 v_judge_stack), Rr, v_D)) (h : pRoll_reckon_b161 N a1 a2 a3 v_D v_paid v_shire self x4 x6 x7 x8 x9 s1 s2 v_judge_debt v_judge_paid v_judge_shire v_judge_term v_judge_stack v_blanched v_debt = some (rr, y_v_judge_debt, y_v_judge_paid, y_v_judge_shire, y_v_judge_term, y_v_judge_stack, y_v_blanched, y_v_debt)) : zB C (0, 0) 161 [(0, .ref (C.X.1 + (58 + 7 * i0))), (1, va_rf (zq C.X a1)), (2, .int a2), (3, .int a3), (4, .long x4), (6, .ref (C.X.1 + 182 + x6)), (7, .int x7), (8, .int x8), (9, .ref (C.X.1 + 182 + x9))] [.long s2, .long s1, .ref (C.X.1 + (58 + 7 * i0))] ((va_up (va_up I (58 + 7 * i0) (va_up (I (58 + 7 * i0)) 14 v_blanched)) 46 (va_up (va_up (I 46) 1 v_judge_shire) 2 v_judge_term)), (va_up (va_up (va_up J (58 + 7 * i0) (va_up (J (58 + 7 * i0)) 12 v_debt)) 46 (va_up (va_up (J 46) 3 v_judge_debt) 4 v_judge_paid)) 47 v_judge_stack), Rr, v_D) := by
  refine zb_ladd E dX8_reckon_161 ?_
  refine zb_putXJ E (58 + 7 * i0) (by omega) (zFr C.X hi0 hkn) rfl zin8 12 (by decide) zw_288 tyX8 tyX8_ok nmX8 rfl rfl rfl ((zup_n (zneL0 (by decide : (46 : Nat) < 58))).trans zup_s) ((zup_n (zneL0 (by decide : (47 : Nat) < 58))).trans ((zup_n (zneL0 (by decide : (46 : Nat) < 58))).trans zup_s)) (zset8_12 C.X (58 + 7 * i0) kn _ _ (s1 + s2)) (by rw [zflen8]; decide) (J2 := (va_up (va_up (va_up J (58 + 7 * i0) (va_up (J (58 + 7 * i0)) 12 (s1 + s2))) 46 (va_up (va_up (J 46) 3 v_judge_debt) 4 v_judge_paid)) 47 v_judge_stack)) ((zcgV zn1).trans (zn3 (Ne.symm (zneL0 (by decide : (47 : Nat) < 58))) (Ne.symm (zneL0 (by decide : (46 : Nat) < 58))))) dX8_reckon_162 ?_
  refine zb_aload_n E dX8_reckon_165 0 rfl rfl ?_
  refine zb_aload_n E dX8_reckon_166 0 rfl rfl ?_
  refine zb_getX E (58 + 7 * i0) (by omega) (zFr C.X hi0 hkn) rfl zin8 14 (by decide) zw_290 ((zup_n (zneL0 (by decide : (46 : Nat) < 58))).trans zup_s) ((zup_n (zneL0 (by decide : (47 : Nat) < 58))).trans ((zup_n (zneL0 (by decide : (46 : Nat) < 58))).trans zup_s)) (v := .int v_blanched) rfl dX8_reckon_167 ?_
  refine zb_if_ne E dX8_reckon_170 (tgt := 181) rfl (fun hc => ?_) (fun hc => ?_)
  · have h := if_f h hc
    refine zb_iconst E dX8_reckon_181 (v := 1) rfl ?_
    refine zb_goto E dX8_reckon_182 (tgt := 186) rfl ?_
    refine zb_sub [0, 1, 2, 3, 4, 5, 6, 7] rfl ?_
    exact c_X8_reckon_b186 i0 hi0 kn hkn N a1 a2 a3 v_paid e_v_paid v_shire e_v_shire rr y_v_judge_debt y_v_judge_paid y_v_judge_shire y_v_judge_term y_v_judge_stack y_v_blanched y_v_debt E hQ x4 x6 x7 x8 1 v_judge_debt v_judge_paid v_judge_shire v_judge_term v_judge_stack v_blanched (s1 + s2) self ih h
  · have h := if_t h hc
    refine zb_aload E dX8_reckon_173 8 rfl ?_
    obtain ⟨d19, hb_d19, h⟩ := bd1_s h
    obtain ⟨⟨hy_d19, hz_d19⟩, hv_d19⟩ := dGI_s hb_d19
    refine zb_dgetN E x9 hy_d19 (zDe_0 hz_d19) rfl zin9 1 (by decide) znw_21 (v := .int d19) (by exact congrArg (fun z => some (Value.int z)) hv_d19) dX8_reckon_175 ?_
    refine zb_if_eq E dX8_reckon_178 (tgt := 185) rfl (fun hc => ?_) (fun hc => ?_)
    · have h := if_t h hc
      refine zb_iconst E dX8_reckon_185 (v := 0) rfl ?_
      refine zb_sub [0, 1, 2, 3, 4, 5, 6, 7] rfl ?_
      exact c_X8_reckon_b186 i0 hi0 kn hkn N a1 a2 a3 v_paid e_v_paid v_shire e_v_shire rr y_v_judge_debt y_v_judge_paid y_v_judge_shire y_v_judge_term y_v_judge_stack y_v_blanched y_v_debt E hQ x4 x6 x7 x8 0 v_judge_debt v_judge_paid v_judge_shire v_judge_term v_judge_stack v_blanched (s1 + s2) self ih h
    · have h := if_f h hc
      refine zb_iconst E dX8_reckon_181 (v := 1) rfl ?_
      refine zb_goto E dX8_reckon_182 (tgt := 186) rfl ?_
      refine zb_sub [0, 1, 2, 3, 4, 5, 6, 7] rfl ?_
      exact c_X8_reckon_b186 i0 hi0 kn hkn N a1 a2 a3 v_paid e_v_paid v_shire e_v_shire rr y_v_judge_debt y_v_judge_paid y_v_judge_shire y_v_judge_term y_v_judge_stack y_v_blanched y_v_debt E hQ x4 x6 x7 x8 1 v_judge_debt v_judge_paid v_judge_shire v_judge_term v_judge_stack v_blanched (s1 + s2) self ih h
theorem c_X8_reckon_b134 {C : zC} {I : Nat → Nat → Int32} {J : Nat → Nat → Int64} {Rr : Nat → Nat → Option Nat} {v_D : zD} (i0 : Nat) (hi0 : i0 < 10) (kn : Nat) (hkn : (i0 < 8 ∧ kn = 48) ∨ (8 ≤ i0 ∧ kn = 53)) (N : Nat) (a1 : (Option Nat)) (a2 : Int32) (a3 : Int32) (v_paid : Int64) (e_v_paid : J (58 + 7 * i0) 13 = v_paid) (v_shire : Int32) (e_v_shire : I (58 + 7 * i0) 10 = v_shire) (rr : Int64) (y_v_judge_debt : Int64) (y_v_judge_paid : Int64) (y_v_judge_shire : Int32) (y_v_judge_term : Int32) (y_v_judge_stack : (Nat → Int64)) (y_v_blanched : Int32) (y_v_debt : Int64) (E : zE C RX8 cX8_reckon 12 (some .long) ({ frames := 3, cells := 0, slots := 0, locals := 81 } : Room)) (hQ : C.Q = zQl C ({ frames := 3, cells := 0, slots := 0, locals := 81 } : Room) rr ((va_up (va_up I (58 + 7 * i0) (va_up (I (58 + 7 * i0)) 14 y_v_blanched)) 46 (va_up (va_up (I 46) 1 y_v_judge_shire) 2 y_v_judge_term)), (va_up (va_up (va_up J (58 + 7 * i0) (va_up (J (58 + 7 * i0)) 12 y_v_debt)) 46 (va_up (va_up (J 46) 3 y_v_judge_debt) 4 y_v_judge_paid)) 47 y_v_judge_stack), Rr, v_D)) (x4 : Int64) (x6 : Nat) (x7 : Int32) (x8 : Int32) (x9 : Nat) (s0 : Int64) (v_judge_debt : Int64) (v_judge_paid : Int64) (v_judge_shire : Int32) (v_judge_term : Int32) (v_judge_stack : (Nat → Int64)) (v_blanched : Int32) (v_debt : Int64) (self : Int64 → Int32 → Int64 → Int64 → Int32 → Int32 → (Nat → Int64) → Int32 → Int64 → Option R_pRoll_reckon) (ih : ∀ (x4 : Int64) (x8 : Int32) (v_judge_debt : Int64) (v_judge_paid : Int64) (v_judge_shire : Int32) (v_judge_term : Int32) (v_judge_stack : (Nat → Int64)) (v_blanched : Int32) (v_debt : Int64), self x4 x8 v_judge_debt v_judge_paid v_judge_shire v_judge_term v_judge_stack v_blanched v_debt = some (rr, y_v_judge_debt, y_v_judge_paid, y_v_judge_shire, y_v_judge_term, y_v_judge_stack, y_v_blanched, y_v_debt) → zB C (0, 0) 23 [(0, .ref (C.X.1 + (58 + 7 * i0))), (1, va_rf (zq C.X a1)), (2, .int a2), (3, .int a3), (4, .long x4), (6, .ref (C.X.1 + 182 + x6)), (7, .int x7), (8, .int x8)] [] ((va_up (va_up I (58 + 7 * i0) (va_up (I (58 + 7 * i0)) 14 v_blanched)) 46 (va_up (va_up (I 46) 1 v_judge_shire) 2 v_judge_term)), (va_up (va_up (va_up J (58 + 7 * i0) (va_up (J (58 + 7 * i0)) 12 v_debt)) 46 (va_up (va_up (J 46) 3 v_judge_debt) 4 v_judge_paid)) 47 v_judge_stack), Rr, v_D)) (h : pRoll_reckon_b134 N a1 a2 a3 v_D v_paid v_shire self x4 x6 x7 x8 x9 s0 v_judge_debt v_judge_paid v_judge_shire v_judge_term v_judge_stack v_blanched v_debt = some (rr, y_v_judge_debt, y_v_judge_paid, y_v_judge_shire, y_v_judge_term, y_v_judge_stack, y_v_blanched, y_v_debt)) : zB C (0, 0) 134 [(0, .ref (C.X.1 + (58 + 7 * i0))), (1, va_rf (zq C.X a1)), (2, .int a2), (3, .int a3), (4, .long x4), (6, .ref (C.X.1 + 182 + x6)), (7, .int x7), (8, .int x8), (9, .ref (C.X.1 + 182 + x9))] [.long s0] ((va_up (va_up I (58 + 7 * i0) (va_up (I (58 + 7 * i0)) 14 v_blanched)) 46 (va_up (va_up (I 46) 1 v_judge_shire) 2 v_judge_term)), (va_up (va_up (va_up J (58 + 7 * i0) (va_up (J (58 + 7 * i0)) 12 v_debt)) 46 (va_up (va_up (J 46) 3 v_judge_debt) 4 v_judge_paid)) 47 v_judge_stack), Rr, v_D) := by
  refine zb_lstore E dX8_reckon_134 (by decide) (lv2 := [(10, .long s0), (0, .ref (C.X.1 + (58 + 7 * i0))), (1, va_rf (zq C.X a1)), (2, .int a2), (3, .int a3), (4, .long x4), (6, .ref (C.X.1 + 182 + x6)), (7, .int x7), (8, .int x8), (9, .ref (C.X.1 + 182 + x9))]) rfl ?_
  refine zb_lload E dX8_reckon_136 5 rfl ?_
  refine zb_lload E dX8_reckon_138 0 rfl ?_
  refine zb_ladd E dX8_reckon_140 ?_
  refine zb_lstore E dX8_reckon_141 (by decide) (lv2 := [(4, .long (x4 + s0)), (10, .long s0), (0, .ref (C.X.1 + (58 + 7 * i0))), (1, va_rf (zq C.X a1)), (2, .int a2), (3, .int a3), (6, .ref (C.X.1 + 182 + x6)), (7, .int x7), (8, .int x8), (9, .ref (C.X.1 + 182 + x9))]) rfl ?_
  refine zb_aload_n E dX8_reckon_143 2 rfl rfl ?_
  refine zb_dup E dX8_reckon_144 rfl ?_
  refine zb_getX E (58 + 7 * i0) (by omega) (zFr C.X hi0 hkn) rfl zin8 12 (by decide) zw_288 ((zup_n (zneL0 (by decide : (46 : Nat) < 58))).trans zup_s) ((zup_n (zneL0 (by decide : (47 : Nat) < 58))).trans ((zup_n (zneL0 (by decide : (46 : Nat) < 58))).trans zup_s)) (v := .long v_debt) rfl dX8_reckon_145 ?_
  refine zb_iload_n E dX8_reckon_148 5 rfl rfl ?_
  refine zb_iconst E dX8_reckon_149 (v := 1) rfl ?_
  refine zb_icmp_ne E dX8_reckon_150 (tgt := 158) rfl (fun hc => ?_) (fun hc => ?_)
  · have h := if_f h hc
    refine zb_lload E dX8_reckon_158 1 rfl ?_
    refine zb_lneg E dX8_reckon_160 ?_
    refine zb_sub [2, 3, 4, 5, 0, 6, 7, 8, 9] rfl ?_
    exact c_X8_reckon_b161 i0 hi0 kn hkn N a1 a2 a3 v_paid e_v_paid v_shire e_v_shire rr y_v_judge_debt y_v_judge_paid y_v_judge_shire y_v_judge_term y_v_judge_stack y_v_blanched y_v_debt E hQ (x4 + s0) x6 x7 x8 x9 v_debt (-s0) v_judge_debt v_judge_paid v_judge_shire v_judge_term v_judge_stack v_blanched v_debt self ih h
  · have h := if_t h hc
    refine zb_lload E dX8_reckon_153 1 rfl ?_
    refine zb_goto E dX8_reckon_155 (tgt := 161) rfl ?_
    refine zb_sub [2, 3, 4, 5, 0, 6, 7, 8, 9] rfl ?_
    exact c_X8_reckon_b161 i0 hi0 kn hkn N a1 a2 a3 v_paid e_v_paid v_shire e_v_shire rr y_v_judge_debt y_v_judge_paid y_v_judge_shire y_v_judge_term y_v_judge_stack y_v_blanched y_v_debt E hQ (x4 + s0) x6 x7 x8 x9 v_debt s0 v_judge_debt v_judge_paid v_judge_shire v_judge_term v_judge_stack v_blanched v_debt self ih h
theorem c_X8_reckon_b23 {C : zC} {I : Nat → Nat → Int32} {J : Nat → Nat → Int64} {Rr : Nat → Nat → Option Nat} {v_D : zD} (i0 : Nat) (hi0 : i0 < 10) (kn : Nat) (hkn : (i0 < 8 ∧ kn = 48) ∨ (8 ≤ i0 ∧ kn = 53)) (N : Nat) (a1 : (Option Nat)) (a2 : Int32) (a3 : Int32) (v_paid : Int64) (e_v_paid : J (58 + 7 * i0) 13 = v_paid) (v_shire : Int32) (e_v_shire : I (58 + 7 * i0) 10 = v_shire) (rr : Int64) (y_v_judge_debt : Int64) (y_v_judge_paid : Int64) (y_v_judge_shire : Int32) (y_v_judge_term : Int32) (y_v_judge_stack : (Nat → Int64)) (y_v_blanched : Int32) (y_v_debt : Int64) (E : zE C RX8 cX8_reckon 12 (some .long) ({ frames := 3, cells := 0, slots := 0, locals := 81 } : Room)) (hQ : C.Q = zQl C ({ frames := 3, cells := 0, slots := 0, locals := 81 } : Room) rr ((va_up (va_up I (58 + 7 * i0) (va_up (I (58 + 7 * i0)) 14 y_v_blanched)) 46 (va_up (va_up (I 46) 1 y_v_judge_shire) 2 y_v_judge_term)), (va_up (va_up (va_up J (58 + 7 * i0) (va_up (J (58 + 7 * i0)) 12 y_v_debt)) 46 (va_up (va_up (J 46) 3 y_v_judge_debt) 4 y_v_judge_paid)) 47 y_v_judge_stack), Rr, v_D)) (x6 : Nat) (x7 : Int32)  : ∀ (n9 : Nat) (x4 : Int64) (x8 : Int32) (v_judge_debt : Int64) (v_judge_paid : Int64) (v_judge_shire : Int32) (v_judge_term : Int32) (v_judge_stack : (Nat → Int64)) (v_blanched : Int32) (v_debt : Int64), pRoll_reckon_b23 N a1 a2 a3 v_D v_paid v_shire x6 x7 n9 x4 x8 v_judge_debt v_judge_paid v_judge_shire v_judge_term v_judge_stack v_blanched v_debt = some (rr, y_v_judge_debt, y_v_judge_paid, y_v_judge_shire, y_v_judge_term, y_v_judge_stack, y_v_blanched, y_v_debt) → zB C (0, 0) 23 [(0, .ref (C.X.1 + (58 + 7 * i0))), (1, va_rf (zq C.X a1)), (2, .int a2), (3, .int a3), (4, .long x4), (6, .ref (C.X.1 + 182 + x6)), (7, .int x7), (8, .int x8)] [] ((va_up (va_up I (58 + 7 * i0) (va_up (I (58 + 7 * i0)) 14 v_blanched)) 46 (va_up (va_up (I 46) 1 v_judge_shire) 2 v_judge_term)), (va_up (va_up (va_up J (58 + 7 * i0) (va_up (J (58 + 7 * i0)) 12 v_debt)) 46 (va_up (va_up (J 46) 3 v_judge_debt) 4 v_judge_paid)) 47 v_judge_stack), Rr, v_D) := by
  refine zlp9_ind (P := fun (x4 : Int64) (x8 : Int32) (v_judge_debt : Int64) (v_judge_paid : Int64) (v_judge_shire : Int32) (v_judge_term : Int32) (v_judge_stack : (Nat → Int64)) (v_blanched : Int32) (v_debt : Int64) => zB C (0, 0) 23 [(0, .ref (C.X.1 + (58 + 7 * i0))), (1, va_rf (zq C.X a1)), (2, .int a2), (3, .int a3), (4, .long x4), (6, .ref (C.X.1 + 182 + x6)), (7, .int x7), (8, .int x8)] [] ((va_up (va_up I (58 + 7 * i0) (va_up (I (58 + 7 * i0)) 14 v_blanched)) 46 (va_up (va_up (I 46) 1 v_judge_shire) 2 v_judge_term)), (va_up (va_up (va_up J (58 + 7 * i0) (va_up (J (58 + 7 * i0)) 12 v_debt)) 46 (va_up (va_up (J 46) 3 v_judge_debt) 4 v_judge_paid)) 47 v_judge_stack), Rr, v_D)) (fun self ih => ?_)
  intro x4 x8 v_judge_debt v_judge_paid v_judge_shire v_judge_term v_judge_stack v_blanched v_debt h
  refine zb_iload E dX8_reckon_23 7 rfl ?_
  refine zb_iload E dX8_reckon_25 6 rfl ?_
  refine zb_icmp_ge E dX8_reckon_27 (tgt := 195) rfl (fun hc => ?_) (fun hc => ?_)
  · have h := if_t h hc
    refine zb_lload E dX8_reckon_195 4 rfl ?_
    obtain ⟨rfl, rfl, rfl, rfl, rfl, rfl, rfl, rfl⟩ := zinj8 h
    exact zb_lret E hQ rfl ⟨Nat.zero_le _, Nat.zero_le _⟩ dX8_reckon_197
  · have h := if_f h hc
    refine zb_aload E dX8_reckon_30 5 rfl ?_
    refine zb_iload E dX8_reckon_32 7 rfl ?_
    obtain ⟨d5, hb_d5, h⟩ := bd1_s h
    refine zb_drld E hb_d5 dX8_reckon_34 ?_
    refine zb_astoreQ E dX8_reckon_35 (by decide) (lv2 := [(9, va_rf (zq C.X d5)), (0, .ref (C.X.1 + (58 + 7 * i0))), (1, va_rf (zq C.X a1)), (2, .int a2), (3, .int a3), (4, .long x4), (6, .ref (C.X.1 + 182 + x6)), (7, .int x7), (8, .int x8)]) rfl ?_
    refine zb_aloadQ E dX8_reckon_37 0 rfl ?_
    obtain ⟨y6, hq_y6, h⟩ := bd1_s h
    refine zb_LS (lv2 := [(9, .ref (C.X.1 + 182 + y6)), (0, .ref (C.X.1 + (58 + 7 * i0))), (1, va_rf (zq C.X a1)), (2, .int a2), (3, .int a3), (4, .long x4), (6, .ref (C.X.1 + 182 + x6)), (7, .int x7), (8, .int x8)]) (st2 := [.ref (C.X.1 + 182 + y6)]) (by first | rfl | (rw [hq_y6]; rfl)) (by first | rfl | (rw [hq_y6]; rfl)) ?_
    obtain ⟨d7, hb_d7, h⟩ := bd1_s h
    obtain ⟨⟨hy_d7, hz_d7⟩, hv_d7⟩ := dGI_s hb_d7
    refine zb_dgetN E y6 hy_d7 (zDe_0 hz_d7) rfl zin9 0 (by decide) znw_19 (v := .int d7) (by exact congrArg (fun z => some (Value.int z)) hv_d7) dX8_reckon_39 ?_
    refine zb_iload_n E dX8_reckon_42 4 rfl rfl ?_
    refine zb_icmp_eq E dX8_reckon_43 (tgt := 49) rfl (fun hc => ?_) (fun hc => ?_)
    · have h := if_t h hc
      refine zb_aload_n E dX8_reckon_49 1 rfl rfl ?_
      refine zb_getX E (58 + 7 * i0) (by omega) (zFr C.X hi0 hkn) rfl zin8 3 (by decide) zw_279 ((zup_n (zneL0 (by decide : (46 : Nat) < 58))).trans zup_s) ((zup_n (zneL0 (by decide : (47 : Nat) < 58))).trans ((zup_n (zneL0 (by decide : (46 : Nat) < 58))).trans zup_s)) (v := .ref (C.X.1 + 46)) rfl dX8_reckon_50 ?_
      refine zb_aload_n E dX8_reckon_53 1 rfl rfl ?_
      refine zb_getX E (58 + 7 * i0) (by omega) (zFr C.X hi0 hkn) rfl zin8 10 (by decide) zw_286 ((zup_n (zneL0 (by decide : (46 : Nat) < 58))).trans zup_s) ((zup_n (zneL0 (by decide : (47 : Nat) < 58))).trans ((zup_n (zneL0 (by decide : (46 : Nat) < 58))).trans zup_s)) (v := .int v_shire) (by exact congrArg (fun z => some (Value.int z)) e_v_shire) dX8_reckon_54 ?_
      refine zb_iload_n E dX8_reckon_57 3 rfl rfl ?_
      refine zb_aload_n E dX8_reckon_58 1 rfl rfl ?_
      refine zb_getX E (58 + 7 * i0) (by omega) (zFr C.X hi0 hkn) rfl zin8 12 (by decide) zw_288 ((zup_n (zneL0 (by decide : (46 : Nat) < 58))).trans zup_s) ((zup_n (zneL0 (by decide : (47 : Nat) < 58))).trans ((zup_n (zneL0 (by decide : (46 : Nat) < 58))).trans zup_s)) (v := .long v_debt) rfl dX8_reckon_59 ?_
      refine zb_aload_n E dX8_reckon_62 1 rfl rfl ?_
      refine zb_getX E (58 + 7 * i0) (by omega) (zFr C.X hi0 hkn) rfl zin8 13 (by decide) zw_289 ((zup_n (zneL0 (by decide : (46 : Nat) < 58))).trans zup_s) ((zup_n (zneL0 (by decide : (47 : Nat) < 58))).trans ((zup_n (zneL0 (by decide : (46 : Nat) < 58))).trans zup_s)) (v := .long v_paid) (by exact congrArg (fun z => some (Value.long z)) e_v_paid) dX8_reckon_63 ?_
      obtain ⟨v_judge_debt_c8, v_judge_paid_c8, v_judge_shire_c8, v_judge_term_c8, hc_66, h⟩ := bd4_s h
      refine zb_cVv E [.int v_shire, .int a2, .long v_debt, .long v_paid] 46 zy_X4_setMoment zw_998 (by decide) (zF_46 _ _ _ _) rfl (c_X4_setMoment (va_up (va_up (I 46) 1 v_judge_shire) 2 v_judge_term) zup_s (va_up (va_up (J 46) 3 v_judge_debt) 4 v_judge_paid) ((zup_n (by decide : (46 : Nat) ≠ 47)).trans zup_s) v_judge_debt (zcf (f := ((va_up (va_up (va_up J (58 + 7 * i0) (va_up (J (58 + 7 * i0)) 12 v_debt)) 46 (va_up (va_up (J 46) 3 v_judge_debt) 4 v_judge_paid)) 47 v_judge_stack) 46)) ((zup_n (by decide : (46 : Nat) ≠ 47)).trans zup_s) rfl) v_judge_paid (zcf (f := ((va_up (va_up (va_up J (58 + 7 * i0) (va_up (J (58 + 7 * i0)) 12 v_debt)) 46 (va_up (va_up (J 46) 3 v_judge_debt) 4 v_judge_paid)) 47 v_judge_stack) 46)) ((zup_n (by decide : (46 : Nat) ≠ 47)).trans zup_s) rfl) v_judge_shire (zcf (f := ((va_up (va_up I (58 + 7 * i0) (va_up (I (58 + 7 * i0)) 14 v_blanched)) 46 (va_up (va_up (I 46) 1 v_judge_shire) 2 v_judge_term)) 46)) zup_s rfl) v_judge_term (zcf (f := ((va_up (va_up I (58 + 7 * i0) (va_up (I (58 + 7 * i0)) 14 v_blanched)) 46 (va_up (va_up (I 46) 1 v_judge_shire) 2 v_judge_term)) 46)) zup_s rfl) hc_66) (by decide) rfl rfl (by first | decide | simp [Value.category, zva_cat]) dX8_reckon_66 (cs2 := (0, 0)) rfl ?_
      refine zb_S (S2 := ((va_up (va_up I (58 + 7 * i0) (va_up (I (58 + 7 * i0)) 14 v_blanched)) 46 (va_up (va_up (I 46) 1 v_judge_shire_c8) 2 v_judge_term_c8)), (va_up (va_up (va_up J (58 + 7 * i0) (va_up (J (58 + 7 * i0)) 12 v_debt)) 46 (va_up (va_up (J 46) 3 v_judge_debt_c8) 4 v_judge_paid_c8)) 47 v_judge_stack), Rr, v_D)) (zS_eq3 ((zcgV ((zcgF (zn2 (by decide : (2 : Nat) ≠ 1))).trans zn1)).trans zn1) ((zcgV ((zcgF (zn2 (by decide : (4 : Nat) ≠ 3))).trans zn1)).trans (zn2 (by decide : (47 : Nat) ≠ 46))) rfl) ?_
      refine zb_aload_n E dX8_reckon_69 1 rfl rfl ?_
      refine zb_getX E (58 + 7 * i0) (by omega) (zFr C.X hi0 hkn) rfl zin8 3 (by decide) zw_279 ((zup_n (zneL0 (by decide : (46 : Nat) < 58))).trans zup_s) ((zup_n (zneL0 (by decide : (47 : Nat) < 58))).trans ((zup_n (zneL0 (by decide : (46 : Nat) < 58))).trans zup_s)) (v := .ref (C.X.1 + 46)) rfl dX8_reckon_70 ?_
      refine zb_aload_nQ E dX8_reckon_73 2 rfl rfl ?_
      obtain ⟨y9, hq_y9, h⟩ := bd1_s h
      refine zb_LS (lv2 := [(9, .ref (C.X.1 + 182 + y6)), (0, .ref (C.X.1 + (58 + 7 * i0))), (1, .ref (C.X.1 + 182 + y9)), (2, .int a2), (3, .int a3), (4, .long x4), (6, .ref (C.X.1 + 182 + x6)), (7, .int x7), (8, .int x8)]) (st2 := [.ref (C.X.1 + 182 + y9), .ref (C.X.1 + 46)]) (by first | rfl | (rw [hq_y9]; rfl)) (by first | rfl | (rw [hq_y9]; rfl)) ?_
      obtain ⟨d10, hb_d10, h⟩ := bd1_s h
      obtain ⟨⟨hy_d10, hz_d10⟩, hv_d10⟩ := dGR_s hb_d10
      refine zb_dgetN E y9 hy_d10 (zDe_1 hz_d10) rfl zin10 1 (by decide) znw_34 (v := va_rf (zq C.X d10)) (by exact congrArg (fun z => some (va_rf (zq C.X z))) hv_d10) dX8_reckon_74 ?_
      refine zb_aload E dX8_reckon_77 0 rfl ?_
      obtain ⟨d11, hb_d11, h⟩ := bd1_s h
      obtain ⟨⟨hy_d11, hz_d11⟩, hv_d11⟩ := dGI_s hb_d11
      refine zb_dgetN E y6 hy_d11 (zDe_0 hz_d11) rfl zin9 5 (by decide) znw_29 (v := .int d11) (by exact congrArg (fun z => some (Value.int z)) hv_d11) dX8_reckon_79 ?_
      refine zb_aload E dX8_reckon_82 0 rfl ?_
      obtain ⟨d12, hb_d12, h⟩ := bd1_s h
      obtain ⟨⟨hy_d12, hz_d12⟩, hv_d12⟩ := dGI_s hb_d12
      refine zb_dgetN E y6 hy_d12 (zDe_0 hz_d12) rfl zin9 6 (by decide) znw_31 (v := .int d12) (by exact congrArg (fun z => some (Value.int z)) hv_d12) dX8_reckon_84 ?_
      obtain ⟨rc13, v_judge_stack_c13, hc_87, h⟩ := bd2_s h
      refine zb_cVl E [va_rf (zq C.X d10), .int d11, .int d12] 46 zy_X4_valueOf zw_1010 (by decide) (zF_46 _ _ _ _) rfl (c_X4_valueOf v_judge_debt_c8 (zcf (f := ((va_up (va_up (va_up J (58 + 7 * i0) (va_up (J (58 + 7 * i0)) 12 v_debt)) 46 (va_up (va_up (J 46) 3 v_judge_debt_c8) 4 v_judge_paid_c8)) 47 v_judge_stack) 46)) ((zup_n (by decide : (46 : Nat) ≠ 47)).trans zup_s) rfl) v_judge_paid_c8 (zcf (f := ((va_up (va_up (va_up J (58 + 7 * i0) (va_up (J (58 + 7 * i0)) 12 v_debt)) 46 (va_up (va_up (J 46) 3 v_judge_debt_c8) 4 v_judge_paid_c8)) 47 v_judge_stack) 46)) ((zup_n (by decide : (46 : Nat) ≠ 47)).trans zup_s) rfl) v_judge_shire_c8 (zcf (f := ((va_up (va_up I (58 + 7 * i0) (va_up (I (58 + 7 * i0)) 14 v_blanched)) 46 (va_up (va_up (I 46) 1 v_judge_shire_c8) 2 v_judge_term_c8)) 46)) zup_s rfl) v_judge_term_c8 (zcf (f := ((va_up (va_up I (58 + 7 * i0) (va_up (I (58 + 7 * i0)) 14 v_blanched)) 46 (va_up (va_up (I 46) 1 v_judge_shire_c8) 2 v_judge_term_c8)) 46)) zup_s rfl) v_judge_stack zup_s hc_87) (by decide) rfl rfl (by first | decide | simp [Value.category, zva_cat]) dX8_reckon_87 (cs2 := (0, 0)) rfl ?_
      refine zb_S (S2 := ((va_up (va_up I (58 + 7 * i0) (va_up (I (58 + 7 * i0)) 14 v_blanched)) 46 (va_up (va_up (I 46) 1 v_judge_shire_c8) 2 v_judge_term_c8)), (va_up (va_up (va_up J (58 + 7 * i0) (va_up (J (58 + 7 * i0)) 12 v_debt)) 46 (va_up (va_up (J 46) 3 v_judge_debt_c8) 4 v_judge_paid_c8)) 47 v_judge_stack_c13), Rr, v_D)) (zS_eq3 rfl zn1 rfl) ?_
      refine zb_lconst E dX8_reckon_90 (v := 0) rfl ?_
      refine zb_lcmp E dX8_reckon_91 ?_
      refine zb_if_eq E dX8_reckon_92 (tgt := 189) rfl (fun hc => ?_) (fun hc => ?_)
      · have h := if_t h hc
        refine zb_iinc E dX8_reckon_189 8 rfl (v := (x8 + 1)) rfl (by decide) (lv2 := [(8, .int (x8 + 1)), (9, .ref (C.X.1 + 182 + y6)), (0, .ref (C.X.1 + (58 + 7 * i0))), (1, .ref (C.X.1 + 182 + y9)), (2, .int a2), (3, .int a3), (4, .long x4), (6, .ref (C.X.1 + 182 + x6)), (7, .int x7)]) rfl ?_
        refine zb_goto E dX8_reckon_192 (tgt := 23) rfl ?_
        refine zb_sub [2, 3, 4, 5, 6, 7, 8, 0] rfl ?_
        refine zb_LS (lv2 := [(0, .ref (C.X.1 + (58 + 7 * i0))), (1, va_rf (zq C.X a1)), (2, .int a2), (3, .int a3), (4, .long x4), (6, .ref (C.X.1 + 182 + x6)), (7, .int x7), (8, .int (x8 + 1))]) (by first | (rw [hq_y9]; done) | (rw [hq_y9]; rfl)) rfl ?_
        exact ih x4 (x8 + 1) v_judge_debt_c8 v_judge_paid_c8 v_judge_shire_c8 v_judge_term_c8 v_judge_stack_c13 v_blanched v_debt h
      · have h := if_f h hc
        refine zb_iload_n E dX8_reckon_95 4 rfl rfl ?_
        refine zb_iconst E dX8_reckon_96 (v := 3) rfl ?_
        refine zb_icmp_ne E dX8_reckon_97 (tgt := 109) rfl (fun hc => ?_) (fun hc => ?_)
        · have h := if_f h hc
          refine zb_lconst E dX8_reckon_109 (v := 0) rfl ?_
          refine zb_aload_n E dX8_reckon_110 1 rfl rfl ?_
          refine zb_getX E (58 + 7 * i0) (by omega) (zFr C.X hi0 hkn) rfl zin8 3 (by decide) zw_279 ((zup_n (zneL0 (by decide : (46 : Nat) < 58))).trans zup_s) ((zup_n (zneL0 (by decide : (47 : Nat) < 58))).trans ((zup_n (zneL0 (by decide : (46 : Nat) < 58))).trans zup_s)) (v := .ref (C.X.1 + 46)) rfl dX8_reckon_111 ?_
          refine zb_aload_n E dX8_reckon_114 2 rfl rfl ?_
          obtain ⟨d14, hb_d14, h⟩ := bd1_s h
          obtain ⟨⟨hy_d14, hz_d14⟩, hv_d14⟩ := dGR_s hb_d14
          refine zb_dgetN E y9 hy_d14 (zDe_1 hz_d14) rfl zin10 1 (by decide) znw_34 (v := va_rf (zq C.X d14)) (by exact congrArg (fun z => some (va_rf (zq C.X z))) hv_d14) dX8_reckon_115 ?_
          refine zb_aload E dX8_reckon_118 0 rfl ?_
          obtain ⟨d15, hb_d15, h⟩ := bd1_s h
          obtain ⟨⟨hy_d15, hz_d15⟩, hv_d15⟩ := dGI_s hb_d15
          refine zb_dgetN E y6 hy_d15 (zDe_0 hz_d15) rfl zin9 4 (by decide) znw_27 (v := .int d15) (by exact congrArg (fun z => some (Value.int z)) hv_d15) dX8_reckon_120 ?_
          refine zb_aload E dX8_reckon_123 0 rfl ?_
          obtain ⟨d16, hb_d16, h⟩ := bd1_s h
          obtain ⟨⟨hy_d16, hz_d16⟩, hv_d16⟩ := dGI_s hb_d16
          refine zb_dgetN E y6 hy_d16 (zDe_0 hz_d16) rfl zin9 5 (by decide) znw_29 (v := .int d16) (by exact congrArg (fun z => some (Value.int z)) hv_d16) dX8_reckon_125 ?_
          obtain ⟨rc17, v_judge_stack_c17, hc_128, h⟩ := bd2_s h
          refine zb_cVl E [va_rf (zq C.X d14), .int d15, .int d16] 46 zy_X4_valueOf zw_1010 (by decide) (zF_46 _ _ _ _) rfl (c_X4_valueOf v_judge_debt_c8 (zcf (f := ((va_up (va_up (va_up J (58 + 7 * i0) (va_up (J (58 + 7 * i0)) 12 v_debt)) 46 (va_up (va_up (J 46) 3 v_judge_debt_c8) 4 v_judge_paid_c8)) 47 v_judge_stack_c13) 46)) ((zup_n (by decide : (46 : Nat) ≠ 47)).trans zup_s) rfl) v_judge_paid_c8 (zcf (f := ((va_up (va_up (va_up J (58 + 7 * i0) (va_up (J (58 + 7 * i0)) 12 v_debt)) 46 (va_up (va_up (J 46) 3 v_judge_debt_c8) 4 v_judge_paid_c8)) 47 v_judge_stack_c13) 46)) ((zup_n (by decide : (46 : Nat) ≠ 47)).trans zup_s) rfl) v_judge_shire_c8 (zcf (f := ((va_up (va_up I (58 + 7 * i0) (va_up (I (58 + 7 * i0)) 14 v_blanched)) 46 (va_up (va_up (I 46) 1 v_judge_shire_c8) 2 v_judge_term_c8)) 46)) zup_s rfl) v_judge_term_c8 (zcf (f := ((va_up (va_up I (58 + 7 * i0) (va_up (I (58 + 7 * i0)) 14 v_blanched)) 46 (va_up (va_up (I 46) 1 v_judge_shire_c8) 2 v_judge_term_c8)) 46)) zup_s rfl) v_judge_stack_c13 zup_s hc_128) (by decide) rfl rfl (by first | decide | simp [Value.category, zva_cat]) dX8_reckon_128 (cs2 := (0, 0)) rfl ?_
          refine zb_S (S2 := ((va_up (va_up I (58 + 7 * i0) (va_up (I (58 + 7 * i0)) 14 v_blanched)) 46 (va_up (va_up (I 46) 1 v_judge_shire_c8) 2 v_judge_term_c8)), (va_up (va_up (va_up J (58 + 7 * i0) (va_up (J (58 + 7 * i0)) 12 v_debt)) 46 (va_up (va_up (J 46) 3 v_judge_debt_c8) 4 v_judge_paid_c8)) 47 v_judge_stack_c17), Rr, v_D)) (zS_eq3 rfl zn1 rfl) ?_
          refine zb_mmaxL E zYm_mmaxL zw_1029 (by decide) (by first | decide | simp [Value.category, zva_cat]) dX8_reckon_131 ?_
          refine zb_sub [1, 2, 3, 4, 5, 6, 7, 8, 0] rfl ?_
          refine zb_LS (lv2 := [(0, .ref (C.X.1 + (58 + 7 * i0))), (1, va_rf (zq C.X a1)), (2, .int a2), (3, .int a3), (4, .long x4), (6, .ref (C.X.1 + 182 + x6)), (7, .int x7), (8, .int x8), (9, .ref (C.X.1 + 182 + y6))]) (by first | (rw [hq_y9]; done) | (rw [hq_y9]; rfl)) rfl ?_
          exact c_X8_reckon_b134 i0 hi0 kn hkn N a1 a2 a3 v_paid e_v_paid v_shire e_v_shire rr y_v_judge_debt y_v_judge_paid y_v_judge_shire y_v_judge_term y_v_judge_stack y_v_blanched y_v_debt E hQ x4 x6 x7 x8 y6 (m_maxL 0 rc17) v_judge_debt_c8 v_judge_paid_c8 v_judge_shire_c8 v_judge_term_c8 v_judge_stack_c17 v_blanched v_debt self ih h
        · have h := if_t h hc
          refine zb_aload_n E dX8_reckon_100 1 rfl rfl ?_
          refine zb_aload E dX8_reckon_101 0 rfl ?_
          obtain ⟨rc18, hc_103, h⟩ := bd1_s h
          refine zb_cVl E [.ref (C.X.1 + 182 + y6)] (58 + 7 * i0) zy_X8_pardoned zw_1025 (by omega) (zFr _ hi0 hkn _ _ _) rfl (c_X8_pardoned i0 hi0 kn hkn v_debt (zcf (f := ((va_up (va_up (va_up J (58 + 7 * i0) (va_up (J (58 + 7 * i0)) 12 v_debt)) 46 (va_up (va_up (J 46) 3 v_judge_debt_c8) 4 v_judge_paid_c8)) 47 v_judge_stack_c13) (58 + 7 * i0))) ((zup_n (zneL0 (by decide : (47 : Nat) < 58))).trans ((zup_n (zneL0 (by decide : (46 : Nat) < 58))).trans zup_s)) rfl) hc_103) (by decide) rfl rfl (by first | decide | simp [Value.category, zva_cat]) dX8_reckon_103 (cs2 := (0, 0)) rfl ?_
          refine zb_goto E dX8_reckon_106 (tgt := 134) rfl ?_
          refine zb_sub [1, 2, 3, 4, 5, 6, 7, 8, 0] rfl ?_
          refine zb_LS (lv2 := [(0, .ref (C.X.1 + (58 + 7 * i0))), (1, va_rf (zq C.X a1)), (2, .int a2), (3, .int a3), (4, .long x4), (6, .ref (C.X.1 + 182 + x6)), (7, .int x7), (8, .int x8), (9, .ref (C.X.1 + 182 + y6))]) (by first | (rw [hq_y9]; done) | (rw [hq_y9]; rfl)) rfl ?_
          exact c_X8_reckon_b134 i0 hi0 kn hkn N a1 a2 a3 v_paid e_v_paid v_shire e_v_shire rr y_v_judge_debt y_v_judge_paid y_v_judge_shire y_v_judge_term y_v_judge_stack y_v_blanched y_v_debt E hQ x4 x6 x7 x8 y6 rc18 v_judge_debt_c8 v_judge_paid_c8 v_judge_shire_c8 v_judge_term_c8 v_judge_stack_c13 v_blanched v_debt self ih h
    · have h := if_f h hc
      refine zb_goto E dX8_reckon_46 (tgt := 189) rfl ?_
      refine zb_iinc E dX8_reckon_189 8 rfl (v := (x8 + 1)) rfl (by decide) (lv2 := [(8, .int (x8 + 1)), (9, .ref (C.X.1 + 182 + y6)), (0, .ref (C.X.1 + (58 + 7 * i0))), (1, va_rf (zq C.X a1)), (2, .int a2), (3, .int a3), (4, .long x4), (6, .ref (C.X.1 + 182 + x6)), (7, .int x7)]) rfl ?_
      refine zb_goto E dX8_reckon_192 (tgt := 23) rfl ?_
      refine zb_sub [2, 3, 4, 5, 6, 7, 8, 0] rfl ?_
      exact ih x4 (x8 + 1) v_judge_debt v_judge_paid v_judge_shire v_judge_term v_judge_stack v_blanched v_debt h
theorem c_X8_reckon_0 {C : zC} {I : Nat → Nat → Int32} {J : Nat → Nat → Int64} {Rr : Nat → Nat → Option Nat} {v_D : zD} (i0 : Nat) (hi0 : i0 < 10) (kn : Nat) (hkn : (i0 < 8 ∧ kn = 48) ∨ (8 ≤ i0 ∧ kn = 53)) (N : Nat) (a1 : (Option Nat)) (a2 : Int32) (a3 : Int32) (v_paid : Int64) (e_v_paid : J (58 + 7 * i0) 13 = v_paid) (v_shire : Int32) (e_v_shire : I (58 + 7 * i0) 10 = v_shire) (rr : Int64) (y_v_judge_debt : Int64) (y_v_judge_paid : Int64) (y_v_judge_shire : Int32) (y_v_judge_term : Int32) (y_v_judge_stack : (Nat → Int64)) (y_v_blanched : Int32) (y_v_debt : Int64) (E : zE C RX8 cX8_reckon 12 (some .long) ({ frames := 3, cells := 0, slots := 0, locals := 81 } : Room)) (hQ : C.Q = zQl C ({ frames := 3, cells := 0, slots := 0, locals := 81 } : Room) rr ((va_up (va_up I (58 + 7 * i0) (va_up (I (58 + 7 * i0)) 14 y_v_blanched)) 46 (va_up (va_up (I 46) 1 y_v_judge_shire) 2 y_v_judge_term)), (va_up (va_up (va_up J (58 + 7 * i0) (va_up (J (58 + 7 * i0)) 12 y_v_debt)) 46 (va_up (va_up (J 46) 3 y_v_judge_debt) 4 y_v_judge_paid)) 47 y_v_judge_stack), Rr, v_D)) (v_judge_debt : Int64) (v_judge_paid : Int64) (v_judge_shire : Int32) (v_judge_term : Int32) (v_judge_stack : (Nat → Int64)) (v_blanched : Int32) (v_debt : Int64) (h : pRoll_reckon N a1 a2 a3 v_D v_judge_debt v_judge_paid v_judge_shire v_judge_term v_judge_stack v_blanched v_debt v_paid v_shire = some (rr, y_v_judge_debt, y_v_judge_paid, y_v_judge_shire, y_v_judge_term, y_v_judge_stack, y_v_blanched, y_v_debt)) : zB C (0, 0) 0 [(0, .ref (C.X.1 + (58 + 7 * i0))), (1, va_rf (zq C.X a1)), (2, .int a2), (3, .int a3)] [] ((va_up (va_up I (58 + 7 * i0) (va_up (I (58 + 7 * i0)) 14 v_blanched)) 46 (va_up (va_up (I 46) 1 v_judge_shire) 2 v_judge_term)), (va_up (va_up (va_up J (58 + 7 * i0) (va_up (J (58 + 7 * i0)) 12 v_debt)) 46 (va_up (va_up (J 46) 3 v_judge_debt) 4 v_judge_paid)) 47 v_judge_stack), Rr, v_D) := by
  refine zb_aload_nQ E dX8_reckon_0 1 rfl rfl ?_
  rcases opn_s h with ⟨hq_y1, h⟩ | ⟨y1, hq_y1, h⟩
  · refine zb_LS (lv2 := [(0, .ref (C.X.1 + (58 + 7 * i0))), (1, .null), (2, .int a2), (3, .int a3)]) (st2 := [.null]) (by first | rfl | (rw [hq_y1]; rfl)) (by first | rfl | (rw [hq_y1]; rfl)) ?_
    refine zb_ifnonnullN E dX8_reckon_1 ?_
    refine zb_lconst E dX8_reckon_4 (v := 0) rfl ?_
    obtain ⟨rfl, rfl, rfl, rfl, rfl, rfl, rfl, rfl⟩ := zinj8 h
    exact zb_lret E hQ rfl ⟨Nat.zero_le _, Nat.zero_le _⟩ dX8_reckon_5
  · refine zb_LS (lv2 := [(0, .ref (C.X.1 + (58 + 7 * i0))), (1, .ref (C.X.1 + 182 + y1)), (2, .int a2), (3, .int a3)]) (st2 := [.ref (C.X.1 + 182 + y1)]) (by first | rfl | (rw [hq_y1]; rfl)) (by first | rfl | (rw [hq_y1]; rfl)) ?_
    refine zb_ifnonnullS E dX8_reckon_1 (tgt := 6) rfl ?_
    refine zb_lconst E dX8_reckon_6 (v := 0) rfl ?_
    refine zb_lstore E dX8_reckon_7 (by decide) (lv2 := [(4, .long 0), (0, .ref (C.X.1 + (58 + 7 * i0))), (1, .ref (C.X.1 + 182 + y1)), (2, .int a2), (3, .int a3)]) rfl ?_
    refine zb_aload_n E dX8_reckon_9 2 rfl rfl ?_
    obtain ⟨d2, hb_d2, h⟩ := bd1_s h
    obtain ⟨⟨hy_d2, hz_d2⟩, hv_d2⟩ := dGR_s hb_d2
    refine zb_dgetN E y1 hy_d2 (zDe_1 hz_d2) rfl zin10 0 (by decide) znw_33 (v := va_rf (zq C.X d2)) (by exact congrArg (fun z => some (va_rf (zq C.X z))) hv_d2) dX8_reckon_10 ?_
    refine zb_astoreQ E dX8_reckon_13 (by decide) (lv2 := [(6, va_rf (zq C.X d2)), (4, .long 0), (0, .ref (C.X.1 + (58 + 7 * i0))), (1, .ref (C.X.1 + 182 + y1)), (2, .int a2), (3, .int a3)]) rfl ?_
    refine zb_aloadQ E dX8_reckon_15 0 rfl ?_
    obtain ⟨y3, hq_y3, h⟩ := bd1_s h
    refine zb_LS (lv2 := [(6, .ref (C.X.1 + 182 + y3)), (4, .long 0), (0, .ref (C.X.1 + (58 + 7 * i0))), (1, .ref (C.X.1 + 182 + y1)), (2, .int a2), (3, .int a3)]) (st2 := [.ref (C.X.1 + 182 + y3)]) (by first | rfl | (rw [hq_y3]; rfl)) (by first | rfl | (rw [hq_y3]; rfl)) ?_
    obtain ⟨n4, hb_n4, h⟩ := bd1_s h
    refine zb_dlenR E hb_n4 dX8_reckon_17 ?_
    refine zb_istore E dX8_reckon_18 (by decide) (lv2 := [(7, .int (Int32.ofNat n4)), (6, .ref (C.X.1 + 182 + y3)), (4, .long 0), (0, .ref (C.X.1 + (58 + 7 * i0))), (1, .ref (C.X.1 + 182 + y1)), (2, .int a2), (3, .int a3)]) rfl ?_
    refine zb_iconst E dX8_reckon_20 (v := 0) rfl ?_
    refine zb_istore E dX8_reckon_21 (by decide) (lv2 := [(8, .int 0), (7, .int (Int32.ofNat n4)), (6, .ref (C.X.1 + 182 + y3)), (4, .long 0), (0, .ref (C.X.1 + (58 + 7 * i0))), (1, .ref (C.X.1 + 182 + y1)), (2, .int a2), (3, .int a3)]) rfl ?_
    refine zb_sub [4, 5, 6, 7, 3, 2, 1, 0] rfl ?_
    refine zb_LS (lv2 := [(0, .ref (C.X.1 + (58 + 7 * i0))), (1, va_rf (zq C.X a1)), (2, .int a2), (3, .int a3), (4, .long 0), (6, .ref (C.X.1 + 182 + y3)), (7, .int (Int32.ofNat n4)), (8, .int 0)]) (by first | (rw [hq_y1]; done) | (rw [hq_y1]; rfl)) rfl ?_
    exact c_X8_reckon_b23 i0 hi0 kn hkn N a1 a2 a3 v_paid e_v_paid v_shire e_v_shire rr y_v_judge_debt y_v_judge_paid y_v_judge_shire y_v_judge_term y_v_judge_stack y_v_blanched y_v_debt E hQ y3 (Int32.ofNat n4) _ 0 0 v_judge_debt v_judge_paid v_judge_shire v_judge_term v_judge_stack v_blanched v_debt h
theorem c_X8_reckon {l : Launch} {X : zX} {I : Nat → Nat → Int32} {J : Nat → Nat → Int64} {Rr : Nat → Nat → Option Nat} {v_D : zD} (i0 : Nat) (hi0 : i0 < 10) (kn : Nat) (hkn : (i0 < 8 ∧ kn = 48) ∨ (8 ≤ i0 ∧ kn = 53)) {N : Nat} {a1 : (Option Nat)} {a2 : Int32} {a3 : Int32} (oI58_7_i0 : Nat → Int32) (eoI58_7_i0 : I (58 + 7 * i0) = oI58_7_i0) (oI46 : Nat → Int32) (eoI46 : I 46 = oI46) (oJ58_7_i0 : Nat → Int64) (eoJ58_7_i0 : J (58 + 7 * i0) = oJ58_7_i0) (oJ46 : Nat → Int64) (eoJ46 : J 46 = oJ46) (v_paid : Int64) (e_v_paid : J (58 + 7 * i0) 13 = v_paid) (v_shire : Int32) (e_v_shire : I (58 + 7 * i0) 10 = v_shire) (v_judge_debt : Int64) (e_v_judge_debt : J 46 3 = v_judge_debt) (v_judge_paid : Int64) (e_v_judge_paid : J 46 4 = v_judge_paid) (v_judge_shire : Int32) (e_v_judge_shire : I 46 1 = v_judge_shire) (v_judge_term : Int32) (e_v_judge_term : I 46 2 = v_judge_term) (v_judge_stack : (Nat → Int64)) (e_v_judge_stack : J 47 = v_judge_stack) (v_blanched : Int32) (e_v_blanched : I (58 + 7 * i0) 14 = v_blanched) (v_debt : Int64) (e_v_debt : J (58 + 7 * i0) 12 = v_debt) {rr : Int64} {y_v_judge_debt : Int64} {y_v_judge_paid : Int64} {y_v_judge_shire : Int32} {y_v_judge_term : Int32} {y_v_judge_stack : (Nat → Int64)} {y_v_blanched : Int32} {y_v_debt : Int64} (h : pRoll_reckon N a1 a2 a3 v_D v_judge_debt v_judge_paid v_judge_shire v_judge_term v_judge_stack v_blanched v_debt v_paid v_shire = some (rr, y_v_judge_debt, y_v_judge_paid, y_v_judge_shire, y_v_judge_term, y_v_judge_stack, y_v_blanched, y_v_debt)) : zMl l yX8_reckon cX8_reckon 12 (some .long) ({ frames := 3, cells := 0, slots := 0, locals := 81 } : Room) X [.ref (X.1 + (58 + 7 * i0)), va_rf (zq X a1), .int a2, .int a3] (I, J, Rr, v_D) rr ((va_up (va_up I (58 + 7 * i0) (va_up oI58_7_i0 14 y_v_blanched)) 46 (va_up (va_up oI46 1 y_v_judge_shire) 2 y_v_judge_term)), (va_up (va_up (va_up J (58 + 7 * i0) (va_up oJ58_7_i0 12 y_v_debt)) 46 (va_up (va_up oJ46 3 y_v_judge_debt) 4 y_v_judge_paid)) 47 y_v_judge_stack), Rr, v_D) := by
  subst eoI58_7_i0
  subst eoI46
  subst eoJ58_7_i0
  subst eoJ46
  refine zMl.of (by decide) (by generalize zq X a1 = z9; cases z9 <;> exact Nat.le_of_ble_eq_true rfl) (fun C E hl hX hQ => ?_)
  subst hl
  subst hX
  refine zb_LS (lv2 := [(0, .ref (C.X.1 + (58 + 7 * i0))), (1, va_rf (zq C.X a1)), (2, .int a2), (3, .int a3)]) (by generalize zq C.X a1 = z9; cases z9 <;> rfl) rfl ?_
  have eI0 : (va_up (va_up I (58 + 7 * i0) (va_up (I (58 + 7 * i0)) 14 v_blanched)) 46 (va_up (va_up (I 46) 1 v_judge_shire) 2 v_judge_term)) = I := by rw [zup_idE e_v_blanched, zup_id, zup_idE e_v_judge_shire, zup_idE e_v_judge_term, zup_id]
  have eJ0 : (va_up (va_up (va_up J (58 + 7 * i0) (va_up (J (58 + 7 * i0)) 12 v_debt)) 46 (va_up (va_up (J 46) 3 v_judge_debt) 4 v_judge_paid)) 47 v_judge_stack) = J := by rw [zup_idE e_v_debt, zup_id, zup_idE e_v_judge_debt, zup_idE e_v_judge_paid, zup_id, zup_idE e_v_judge_stack]
  refine zb_S (S2 := ((va_up (va_up I (58 + 7 * i0) (va_up (I (58 + 7 * i0)) 14 v_blanched)) 46 (va_up (va_up (I 46) 1 v_judge_shire) 2 v_judge_term)), (va_up (va_up (va_up J (58 + 7 * i0) (va_up (J (58 + 7 * i0)) 12 v_debt)) 46 (va_up (va_up (J 46) 3 v_judge_debt) 4 v_judge_paid)) 47 v_judge_stack), Rr, v_D)) (zS_eq eI0.symm eJ0.symm) ?_
  exact c_X8_reckon_0 i0 hi0 kn hkn N a1 a2 a3 v_paid e_v_paid v_shire e_v_shire rr y_v_judge_debt y_v_judge_paid y_v_judge_shire y_v_judge_term y_v_judge_stack y_v_blanched y_v_debt E hQ v_judge_debt v_judge_paid v_judge_shire v_judge_term v_judge_stack v_blanched v_debt h
-- ChequeredCloth$Roll.worthOf
theorem dX8_worthOf_0 : decode cX8_worthOf 0 = .ok (.aload_n 0, 1) := by decide +kernel
theorem dX8_worthOf_1 : decode cX8_worthOf 1 = .ok (.getfield 30, 3) := by decide +kernel
theorem dX8_worthOf_4 : decode cX8_worthOf 4 = .ok (.getfield 177, 3) := by decide +kernel
theorem dX8_worthOf_7 : decode cX8_worthOf 7 = .ok (.iload_n 1, 1) := by decide +kernel
theorem dX8_worthOf_8 : decode cX8_worthOf 8 = .ok (.iaload, 1) := by decide +kernel
theorem dX8_worthOf_9 : decode cX8_worthOf 9 = .ok (.istore_n 3, 1) := by decide +kernel
theorem dX8_worthOf_10 : decode cX8_worthOf 10 = .ok (.aload_n 0, 1) := by decide +kernel
theorem dX8_worthOf_11 : decode cX8_worthOf 11 = .ok (.getfield 30, 3) := by decide +kernel
theorem dX8_worthOf_14 : decode cX8_worthOf 14 = .ok (.getfield 180, 3) := by decide +kernel
theorem dX8_worthOf_17 : decode cX8_worthOf 17 = .ok (.iload_n 1, 1) := by decide +kernel
theorem dX8_worthOf_18 : decode cX8_worthOf 18 = .ok (.iaload, 1) := by decide +kernel
theorem dX8_worthOf_19 : decode cX8_worthOf 19 = .ok (.iconst 3, 1) := by decide +kernel
theorem dX8_worthOf_20 : decode cX8_worthOf 20 = .ok (.if_icmp .ne 13, 3) := by decide +kernel
theorem dX8_worthOf_23 : decode cX8_worthOf 23 = .ok (.aload_n 0, 1) := by decide +kernel
theorem dX8_worthOf_24 : decode cX8_worthOf 24 = .ok (.getfield 34, 3) := by decide +kernel
theorem dX8_worthOf_27 : decode cX8_worthOf 27 = .ok (.iload_n 3, 1) := by decide +kernel
theorem dX8_worthOf_28 : decode cX8_worthOf 28 = .ok (.invokevirtual 183, 3) := by decide +kernel
theorem dX8_worthOf_31 : decode cX8_worthOf 31 = .ok (.i2l, 1) := by decide +kernel
theorem dX8_worthOf_32 : decode cX8_worthOf 32 = .ok (.lreturn, 1) := by decide +kernel
theorem dX8_worthOf_33 : decode cX8_worthOf 33 = .ok (.aload_n 0, 1) := by decide +kernel
theorem dX8_worthOf_34 : decode cX8_worthOf 34 = .ok (.getfield 78, 3) := by decide +kernel
theorem dX8_worthOf_37 : decode cX8_worthOf 37 = .ok (.ifCond .eq 25, 3) := by decide +kernel
theorem dX8_worthOf_40 : decode cX8_worthOf 40 = .ok (.iload_n 3, 1) := by decide +kernel
theorem dX8_worthOf_41 : decode cX8_worthOf 41 = .ok (.i2l, 1) := by decide +kernel
theorem dX8_worthOf_42 : decode cX8_worthOf 42 = .ok (.iload_n 3, 1) := by decide +kernel
theorem dX8_worthOf_43 : decode cX8_worthOf 43 = .ok (.i2l, 1) := by decide +kernel
theorem dX8_worthOf_44 : decode cX8_worthOf 44 = .ok (.aload_n 0, 1) := by decide +kernel
theorem dX8_worthOf_45 : decode cX8_worthOf 45 = .ok (.getfield 38, 3) := by decide +kernel
theorem dX8_worthOf_48 : decode cX8_worthOf 48 = .ok (.iload_n 2, 1) := by decide +kernel
theorem dX8_worthOf_49 : decode cX8_worthOf 49 = .ok (.invokevirtual 188, 3) := by decide +kernel
theorem dX8_worthOf_52 : decode cX8_worthOf 52 = .ok (.i2l, 1) := by decide +kernel
theorem dX8_worthOf_53 : decode cX8_worthOf 53 = .ok (.lmul, 1) := by decide +kernel
theorem dX8_worthOf_54 : decode cX8_worthOf 54 = .ok (.ldc2_w 191, 3) := by decide +kernel
theorem dX8_worthOf_57 : decode cX8_worthOf 57 = .ok (.ldiv, 1) := by decide +kernel
theorem dX8_worthOf_58 : decode cX8_worthOf 58 = .ok (.lsub, 1) := by decide +kernel
theorem dX8_worthOf_59 : decode cX8_worthOf 59 = .ok (.goto 5, 3) := by decide +kernel
theorem dX8_worthOf_62 : decode cX8_worthOf 62 = .ok (.iload_n 3, 1) := by decide +kernel
theorem dX8_worthOf_63 : decode cX8_worthOf 63 = .ok (.i2l, 1) := by decide +kernel
theorem dX8_worthOf_64 : decode cX8_worthOf 64 = .ok (.lreturn, 1) := by decide +kernel
theorem zy_X8_worthOf : zYv yX8_worthOf cX8_worthOf 4 (some .long) 2 := ⟨zw_1041, zws_39, zw_11, zw_1042, by decide, by decide, by decide⟩
theorem c_X8_worthOf_0 {C : zC} {I : Nat → Nat → Int32} {J : Nat → Nat → Int64} {Rr : Nat → Nat → Option Nat} {D : zD} (i0 : Nat) (hi0 : i0 < 10) (kn : Nat) (hkn : (i0 < 8 ∧ kn = 48) ∨ (8 ≤ i0 ∧ kn = 53)) (a1 : Int32) (a2 : Int32) (v_acts_amounts : (Nat → Int32)) (e_v_acts_amounts : I 41 = v_acts_amounts) (v_acts_kinds : (Nat → Int32)) (e_v_acts_kinds : I 38 = v_acts_kinds) (v_chest_goodWorths : (Nat → Int32)) (e_v_chest_goodWorths : I 12 = v_chest_goodWorths) (v_known_fires : (Nat → Int32)) (e_v_known_fires : I (kn + 2) = v_known_fires) (v_blanched : Int32) (e_v_blanched : I (58 + 7 * i0) 14 = v_blanched) (rr : Int64) (E : zE C RX8 cX8_worthOf 4 (some .long) ({ frames := 2, cells := 0, slots := 0, locals := 41 } : Room)) (hQ : C.Q = zQl C ({ frames := 2, cells := 0, slots := 0, locals := 41 } : Room) rr (I, J, Rr, D)) (h : pRoll_worthOf a1 a2 v_acts_amounts v_acts_kinds v_chest_goodWorths v_known_fires v_blanched = some rr) : zB C (0, 0) 0 [(0, .ref (C.X.1 + (58 + 7 * i0))), (1, .int a1), (2, .int a2)] [] (I, J, Rr, D) := by
  refine zb_aload_n E dX8_worthOf_0 0 rfl rfl ?_
  refine zb_getX E (58 + 7 * i0) (by omega) (zFr C.X hi0 hkn) rfl zin8 0 (by decide) zw_276 rfl rfl (v := .ref (C.X.1 + 37)) rfl dX8_worthOf_1 ?_
  refine zb_getNX E 37 (by decide) (zF_37 C.X) rfl zin0 3 (by decide) znw_12 rfl rfl (v := .ref (C.X.1 + 41)) rfl dX8_worthOf_4 ?_
  refine zb_iload_n E dX8_worthOf_7 1 rfl rfl ?_
  obtain ⟨g1, h⟩ := gd_s h
  refine zb_iald E 41 (by decide) zF_41 (f := v_acts_amounts) e_v_acts_amounts (ib_in g1) dX8_worthOf_8 ?_
  refine zb_istore_n E dX8_worthOf_9 rfl (by decide) (lv2 := [(3, .int (v_acts_amounts (ix a1))), (0, .ref (C.X.1 + (58 + 7 * i0))), (1, .int a1), (2, .int a2)]) rfl ?_
  refine zb_aload_n E dX8_worthOf_10 1 rfl rfl ?_
  refine zb_getX E (58 + 7 * i0) (by omega) (zFr C.X hi0 hkn) rfl zin8 0 (by decide) zw_276 rfl rfl (v := .ref (C.X.1 + 37)) rfl dX8_worthOf_11 ?_
  refine zb_getNX E 37 (by decide) (zF_37 C.X) rfl zin0 0 (by decide) znw_6 rfl rfl (v := .ref (C.X.1 + 38)) rfl dX8_worthOf_14 ?_
  refine zb_iload_n E dX8_worthOf_17 2 rfl rfl ?_
  refine zb_iald E 38 (by decide) zF_38 (f := v_acts_kinds) e_v_acts_kinds (ib_in g1) dX8_worthOf_18 ?_
  refine zb_iconst E dX8_worthOf_19 (v := 3) rfl ?_
  refine zb_icmp_ne E dX8_worthOf_20 (tgt := 33) rfl (fun hc => ?_) (fun hc => ?_)
  · have h := if_f h hc
    refine zb_aload_n E dX8_worthOf_33 1 rfl rfl ?_
    refine zb_getX E (58 + 7 * i0) (by omega) (zFr C.X hi0 hkn) rfl zin8 14 (by decide) zw_290 rfl rfl (v := .int v_blanched) (by exact congrArg (fun z => some (Value.int z)) e_v_blanched) dX8_worthOf_34 ?_
    refine zb_if_eq E dX8_worthOf_37 (tgt := 62) rfl (fun hc => ?_) (fun hc => ?_)
    · have h := if_t h hc
      refine zb_iload_n E dX8_worthOf_62 0 rfl rfl ?_
      refine zb_i2l E dX8_worthOf_63 ?_
      obtain rfl := zinj1 h
      exact zb_lret E hQ rfl ⟨Nat.zero_le _, Nat.zero_le _⟩ dX8_worthOf_64
    · have h := if_f h hc
      refine zb_iload_n E dX8_worthOf_40 0 rfl rfl ?_
      refine zb_i2l E dX8_worthOf_41 ?_
      refine zb_iload_n E dX8_worthOf_42 0 rfl rfl ?_
      refine zb_i2l E dX8_worthOf_43 ?_
      refine zb_aload_n E dX8_worthOf_44 1 rfl rfl ?_
      refine zb_getX E (58 + 7 * i0) (by omega) (zFr C.X hi0 hkn) rfl zin8 2 (by decide) zw_278 rfl rfl (v := .ref (C.X.1 + kn)) rfl dX8_worthOf_45 ?_
      refine zb_iload_n E dX8_worthOf_48 3 rfl rfl ?_
      obtain ⟨rc2, hc_49, h⟩ := bd1_s h
      refine zb_cVi E [.int a2] kn zy_X5_fireOf zw_1047 (by omega) (zFk _ (zkn hkn) _ _ _) rfl (c_X5_fireOf kn (zkn hkn) v_acts_amounts e_v_acts_amounts v_known_fires e_v_known_fires hc_49) (by decide) rfl rfl (by first | decide | simp [Value.category]) dX8_worthOf_49 (cs2 := (0, 0)) rfl ?_
      refine zb_i2l E dX8_worthOf_52 ?_
      refine zb_lmul E dX8_worthOf_53 ?_
      refine zb_ldc2 E dX8_worthOf_54 (v := 240) zw_1051 ?_
      refine zb_ldiv E dX8_worthOf_57 (by decide) ?_
      refine zb_lsub E dX8_worthOf_58 ?_
      refine zb_goto E dX8_worthOf_59 (tgt := 64) rfl ?_
      obtain rfl := zinj1 h
      exact zb_lret E hQ rfl ⟨Nat.zero_le _, Nat.zero_le _⟩ dX8_worthOf_64
  · have h := if_t h hc
    refine zb_aload_n E dX8_worthOf_23 1 rfl rfl ?_
    refine zb_getX E (58 + 7 * i0) (by omega) (zFr C.X hi0 hkn) rfl zin8 1 (by decide) zw_277 rfl rfl (v := .ref (C.X.1 + 5)) rfl dX8_worthOf_24 ?_
    refine zb_iload_n E dX8_worthOf_27 0 rfl rfl ?_
    obtain ⟨rc3, hc_28, h⟩ := bd1_s h
    refine zb_cVi E [.int (v_acts_amounts (ix a1))] 5 zy_X2_goodWorth zw_1043 (by decide) (zF_5 _ _ _ _) rfl (c_X2_goodWorth v_chest_goodWorths e_v_chest_goodWorths hc_28) (by decide) rfl rfl (by first | decide | simp [Value.category]) dX8_worthOf_28 (cs2 := (0, 0)) rfl ?_
    refine zb_i2l E dX8_worthOf_31 ?_
    obtain rfl := zinj1 h
    exact zb_lret E hQ rfl ⟨Nat.zero_le _, Nat.zero_le _⟩ dX8_worthOf_32
theorem c_X8_worthOf {l : Launch} {X : zX} {I : Nat → Nat → Int32} {J : Nat → Nat → Int64} {Rr : Nat → Nat → Option Nat} {D : zD} (i0 : Nat) (hi0 : i0 < 10) (kn : Nat) (hkn : (i0 < 8 ∧ kn = 48) ∨ (8 ≤ i0 ∧ kn = 53)) {a1 : Int32} {a2 : Int32} (v_acts_amounts : (Nat → Int32)) (e_v_acts_amounts : I 41 = v_acts_amounts) (v_acts_kinds : (Nat → Int32)) (e_v_acts_kinds : I 38 = v_acts_kinds) (v_chest_goodWorths : (Nat → Int32)) (e_v_chest_goodWorths : I 12 = v_chest_goodWorths) (v_known_fires : (Nat → Int32)) (e_v_known_fires : I (kn + 2) = v_known_fires) (v_blanched : Int32) (e_v_blanched : I (58 + 7 * i0) 14 = v_blanched) {rr : Int64} (h : pRoll_worthOf a1 a2 v_acts_amounts v_acts_kinds v_chest_goodWorths v_known_fires v_blanched = some rr) : zMl l yX8_worthOf cX8_worthOf 4 (some .long) ({ frames := 2, cells := 0, slots := 0, locals := 41 } : Room) X [.ref (X.1 + (58 + 7 * i0)), .int a1, .int a2] (I, J, Rr, D) rr (I, J, Rr, D) := by
  refine zMl.of (by decide) (Nat.le_of_ble_eq_true rfl) (fun C E hl hX hQ => ?_)
  subst hl
  subst hX
  have eI0 : I = I := rfl
  have eJ0 : J = J := rfl
  refine zb_S (S2 := (I, J, Rr, D)) (zS_eq eI0.symm eJ0.symm) ?_
  exact c_X8_worthOf_0 i0 hi0 kn hkn a1 a2 v_acts_amounts e_v_acts_amounts v_acts_kinds e_v_acts_kinds v_chest_goodWorths e_v_chest_goodWorths v_known_fires e_v_known_fires v_blanched e_v_blanched rr E hQ h
-- ChequeredCloth$Roll.takeIn
theorem dX8_takeIn_0 : decode cX8_takeIn 0 = .ok (.aload_n 0, 1) := by decide +kernel
theorem dX8_takeIn_1 : decode cX8_takeIn 1 = .ok (.getfield 38, 3) := by decide +kernel
theorem dX8_takeIn_4 : decode cX8_takeIn 4 = .ok (.iload_n 1, 1) := by decide +kernel
theorem dX8_takeIn_5 : decode cX8_takeIn 5 = .ok (.invokevirtual 158, 3) := by decide +kernel
theorem dX8_takeIn_8 : decode cX8_takeIn 8 = .ok (.istore_n 2, 1) := by decide +kernel
theorem dX8_takeIn_9 : decode cX8_takeIn 9 = .ok (.iconst 0, 1) := by decide +kernel
theorem dX8_takeIn_10 : decode cX8_takeIn 10 = .ok (.istore_n 3, 1) := by decide +kernel
theorem dX8_takeIn_11 : decode cX8_takeIn 11 = .ok (.iload_n 3, 1) := by decide +kernel
theorem dX8_takeIn_12 : decode cX8_takeIn 12 = .ok (.sipush 200, 3) := by decide +kernel
theorem dX8_takeIn_15 : decode cX8_takeIn 15 = .ok (.if_icmp .ge 60, 3) := by decide +kernel
theorem dX8_takeIn_18 : decode cX8_takeIn 18 = .ok (.aload_n 0, 1) := by decide +kernel
theorem dX8_takeIn_19 : decode cX8_takeIn 19 = .ok (.getfield 30, 3) := by decide +kernel
theorem dX8_takeIn_22 : decode cX8_takeIn 22 = .ok (.iload_n 2, 1) := by decide +kernel
theorem dX8_takeIn_23 : decode cX8_takeIn 23 = .ok (.invokevirtual 162, 3) := by decide +kernel
theorem dX8_takeIn_26 : decode cX8_takeIn 26 = .ok (.ifCond .eq 49, 3) := by decide +kernel
theorem dX8_takeIn_29 : decode cX8_takeIn 29 = .ok (.aload_n 0, 1) := by decide +kernel
theorem dX8_takeIn_30 : decode cX8_takeIn 30 = .ok (.getfield 30, 3) := by decide +kernel
theorem dX8_takeIn_33 : decode cX8_takeIn 33 = .ok (.getfield 167, 3) := by decide +kernel
theorem dX8_takeIn_36 : decode cX8_takeIn 36 = .ok (.iload_n 2, 1) := by decide +kernel
theorem dX8_takeIn_37 : decode cX8_takeIn 37 = .ok (.iaload, 1) := by decide +kernel
theorem dX8_takeIn_38 : decode cX8_takeIn 38 = .ok (.aload_n 0, 1) := by decide +kernel
theorem dX8_takeIn_39 : decode cX8_takeIn 39 = .ok (.getfield 46, 3) := by decide +kernel
theorem dX8_takeIn_42 : decode cX8_takeIn 42 = .ok (.if_icmp .ne 18, 3) := by decide +kernel
theorem dX8_takeIn_45 : decode cX8_takeIn 45 = .ok (.aload_n 0, 1) := by decide +kernel
theorem dX8_takeIn_46 : decode cX8_takeIn 46 = .ok (.dup, 1) := by decide +kernel
theorem dX8_takeIn_47 : decode cX8_takeIn 47 = .ok (.getfield 74, 3) := by decide +kernel
theorem dX8_takeIn_50 : decode cX8_takeIn 50 = .ok (.aload_n 0, 1) := by decide +kernel
theorem dX8_takeIn_51 : decode cX8_takeIn 51 = .ok (.iload_n 2, 1) := by decide +kernel
theorem dX8_takeIn_52 : decode cX8_takeIn 52 = .ok (.iload_n 1, 1) := by decide +kernel
theorem dX8_takeIn_53 : decode cX8_takeIn 53 = .ok (.invokevirtual 170, 3) := by decide +kernel
theorem dX8_takeIn_56 : decode cX8_takeIn 56 = .ok (.ladd, 1) := by decide +kernel
theorem dX8_takeIn_57 : decode cX8_takeIn 57 = .ok (.putfield 74, 3) := by decide +kernel
theorem dX8_takeIn_60 : decode cX8_takeIn 60 = .ok (.aload_n 0, 1) := by decide +kernel
theorem dX8_takeIn_61 : decode cX8_takeIn 61 = .ok (.getfield 38, 3) := by decide +kernel
theorem dX8_takeIn_64 : decode cX8_takeIn 64 = .ok (.iload_n 2, 1) := by decide +kernel
theorem dX8_takeIn_65 : decode cX8_takeIn 65 = .ok (.invokevirtual 174, 3) := by decide +kernel
theorem dX8_takeIn_68 : decode cX8_takeIn 68 = .ok (.istore_n 2, 1) := by decide +kernel
theorem dX8_takeIn_69 : decode cX8_takeIn 69 = .ok (.iinc 3 1, 3) := by decide +kernel
theorem dX8_takeIn_72 : decode cX8_takeIn 72 = .ok (.goto (-61), 3) := by decide +kernel
theorem dX8_takeIn_75 : decode cX8_takeIn 75 = .ok (.aload_n 0, 1) := by decide +kernel
theorem dX8_takeIn_76 : decode cX8_takeIn 76 = .ok (.dup, 1) := by decide +kernel
theorem dX8_takeIn_77 : decode cX8_takeIn 77 = .ok (.getfield 99, 3) := by decide +kernel
theorem dX8_takeIn_80 : decode cX8_takeIn 80 = .ok (.aload_n 0, 1) := by decide +kernel
theorem dX8_takeIn_81 : decode cX8_takeIn 81 = .ok (.getfield 74, 3) := by decide +kernel
theorem dX8_takeIn_84 : decode cX8_takeIn 84 = .ok (.lsub, 1) := by decide +kernel
theorem dX8_takeIn_85 : decode cX8_takeIn 85 = .ok (.putfield 99, 3) := by decide +kernel
theorem dX8_takeIn_88 : decode cX8_takeIn 88 = .ok (.return_, 1) := by decide +kernel
theorem zy_X8_takeIn : zYv yX8_takeIn cX8_takeIn 4 none 1 := ⟨zw_1032, zws_38, zw_11, zw_1033, by decide, by decide, by decide⟩
theorem c_X8_takeIn_b60 {C : zC} {I : Nat → Nat → Int32} {J : Nat → Nat → Int64} {Rr : Nat → Nat → Option Nat} {D : zD} (i0 : Nat) (hi0 : i0 < 10) (kn : Nat) (hkn : (i0 < 8 ∧ kn = 48) ∨ (8 ≤ i0 ∧ kn = 53)) (N : Nat) (a1 : Int32) (v_acts_count : Int32) (e_v_acts_count : I 37 6 = v_acts_count) (v_acts_amounts : (Nat → Int32)) (e_v_acts_amounts : I 41 = v_acts_amounts) (v_acts_kinds : (Nat → Int32)) (e_v_acts_kinds : I 38 = v_acts_kinds) (v_acts_shires : (Nat → Int32)) (e_v_acts_shires : I 39 = v_acts_shires) (v_chest_goodWorths : (Nat → Int32)) (e_v_chest_goodWorths : I 12 = v_chest_goodWorths) (v_known_fires : (Nat → Int32)) (e_v_known_fires : I (kn + 2) = v_known_fires) (v_known_firstPayments : (Nat → Int32)) (e_v_known_firstPayments : I (kn + 3) = v_known_firstPayments) (v_known_nextPayments : (Nat → Int32)) (e_v_known_nextPayments : I (kn + 4) = v_known_nextPayments) (v_blanched : Int32) (e_v_blanched : I (58 + 7 * i0) 14 = v_blanched) (v_shire : Int32) (e_v_shire : I (58 + 7 * i0) 10 = v_shire) (y_v_debt : Int64) (y_v_paid : Int64) (E : zE C RX8 cX8_takeIn 4 none ({ frames := 3, cells := 0, slots := 0, locals := 64 } : Room)) (hQ : C.Q = zQv C ({ frames := 3, cells := 0, slots := 0, locals := 64 } : Room) (I, (va_up J (58 + 7 * i0) (va_up (va_up (J (58 + 7 * i0)) 12 y_v_debt) 13 y_v_paid)), Rr, D)) (x2 : Int32) (x3 : Int32) (v_debt : Int64) (v_paid : Int64) (self : Int32 → Int32 → Int64 → Option R_pRoll_takeIn) (ih : ∀ (x2 : Int32) (x3 : Int32) (v_paid : Int64), self x2 x3 v_paid = some (y_v_debt, y_v_paid) → zB C (0, 0) 11 [(0, .ref (C.X.1 + (58 + 7 * i0))), (1, .int a1), (2, .int x2), (3, .int x3)] [] (I, (va_up J (58 + 7 * i0) (va_up (va_up (J (58 + 7 * i0)) 12 v_debt) 13 v_paid)), Rr, D)) (k75 : Int64 → Option R_pRoll_takeIn) (hk75 : ∀ (v_paid : Int64), k75 v_paid = some (y_v_debt, y_v_paid) → zB C (0, 0) 75 [(0, .ref (C.X.1 + (58 + 7 * i0)))] [] (I, (va_up J (58 + 7 * i0) (va_up (va_up (J (58 + 7 * i0)) 12 v_debt) 13 v_paid)), Rr, D)) (h : pRoll_takeIn_b60 N a1 v_acts_count v_acts_amounts v_acts_kinds v_acts_shires v_chest_goodWorths v_known_fires v_known_firstPayments v_known_nextPayments v_blanched v_shire self k75 x2 x3 v_debt v_paid = some (y_v_debt, y_v_paid)) : zB C (0, 0) 60 [(0, .ref (C.X.1 + (58 + 7 * i0))), (1, .int a1), (2, .int x2), (3, .int x3)] [] (I, (va_up J (58 + 7 * i0) (va_up (va_up (J (58 + 7 * i0)) 12 v_debt) 13 v_paid)), Rr, D) := by
  refine zb_aload_n E dX8_takeIn_60 0 rfl rfl ?_
  refine zb_getX E (58 + 7 * i0) (by omega) (zFr C.X hi0 hkn) rfl zin8 2 (by decide) zw_278 rfl zup_s (v := .ref (C.X.1 + kn)) rfl dX8_takeIn_61 ?_
  refine zb_iload_n E dX8_takeIn_64 2 rfl rfl ?_
  obtain ⟨rc5, hc_65, h⟩ := bd1_s h
  refine zb_cVi E [.int x2] kn zy_X5_nextPayment zw_1052 (by omega) (zFk _ (zkn hkn) _ _ _) rfl (c_X5_nextPayment kn (zkn hkn) v_known_nextPayments e_v_known_nextPayments hc_65) (by decide) rfl rfl (by first | decide | simp [Value.category]) dX8_takeIn_65 (cs2 := (0, 0)) rfl ?_
  refine zb_istore_n E dX8_takeIn_68 rfl (by decide) (lv2 := [(2, .int rc5), (0, .ref (C.X.1 + (58 + 7 * i0))), (1, .int a1), (3, .int x3)]) rfl ?_
  refine zb_iinc E dX8_takeIn_69 3 rfl (v := (x3 + 1)) rfl (by decide) (lv2 := [(3, .int (x3 + 1)), (2, .int rc5), (0, .ref (C.X.1 + (58 + 7 * i0))), (1, .int a1)]) rfl ?_
  refine zb_goto E dX8_takeIn_72 (tgt := 11) rfl ?_
  refine zb_sub [2, 3, 1, 0] rfl ?_
  exact ih rc5 (x3 + 1) v_paid h
theorem c_X8_takeIn_b11 {C : zC} {I : Nat → Nat → Int32} {J : Nat → Nat → Int64} {Rr : Nat → Nat → Option Nat} {D : zD} (i0 : Nat) (hi0 : i0 < 10) (kn : Nat) (hkn : (i0 < 8 ∧ kn = 48) ∨ (8 ≤ i0 ∧ kn = 53)) (N : Nat) (a1 : Int32) (v_acts_count : Int32) (e_v_acts_count : I 37 6 = v_acts_count) (v_acts_amounts : (Nat → Int32)) (e_v_acts_amounts : I 41 = v_acts_amounts) (v_acts_kinds : (Nat → Int32)) (e_v_acts_kinds : I 38 = v_acts_kinds) (v_acts_shires : (Nat → Int32)) (e_v_acts_shires : I 39 = v_acts_shires) (v_chest_goodWorths : (Nat → Int32)) (e_v_chest_goodWorths : I 12 = v_chest_goodWorths) (v_known_fires : (Nat → Int32)) (e_v_known_fires : I (kn + 2) = v_known_fires) (v_known_firstPayments : (Nat → Int32)) (e_v_known_firstPayments : I (kn + 3) = v_known_firstPayments) (v_known_nextPayments : (Nat → Int32)) (e_v_known_nextPayments : I (kn + 4) = v_known_nextPayments) (v_blanched : Int32) (e_v_blanched : I (58 + 7 * i0) 14 = v_blanched) (v_shire : Int32) (e_v_shire : I (58 + 7 * i0) 10 = v_shire) (y_v_debt : Int64) (y_v_paid : Int64) (E : zE C RX8 cX8_takeIn 4 none ({ frames := 3, cells := 0, slots := 0, locals := 64 } : Room)) (hQ : C.Q = zQv C ({ frames := 3, cells := 0, slots := 0, locals := 64 } : Room) (I, (va_up J (58 + 7 * i0) (va_up (va_up (J (58 + 7 * i0)) 12 y_v_debt) 13 y_v_paid)), Rr, D)) (v_debt : Int64) (k75 : Int64 → Option R_pRoll_takeIn) (hk75 : ∀ (v_paid : Int64), k75 v_paid = some (y_v_debt, y_v_paid) → zB C (0, 0) 75 [(0, .ref (C.X.1 + (58 + 7 * i0)))] [] (I, (va_up J (58 + 7 * i0) (va_up (va_up (J (58 + 7 * i0)) 12 v_debt) 13 v_paid)), Rr, D)) : ∀ (n9 : Nat) (x2 : Int32) (x3 : Int32) (v_paid : Int64), pRoll_takeIn_b11 N a1 v_acts_count v_acts_amounts v_acts_kinds v_acts_shires v_chest_goodWorths v_known_fires v_known_firstPayments v_known_nextPayments v_blanched v_shire v_debt k75 n9 x2 x3 v_paid = some (y_v_debt, y_v_paid) → zB C (0, 0) 11 [(0, .ref (C.X.1 + (58 + 7 * i0))), (1, .int a1), (2, .int x2), (3, .int x3)] [] (I, (va_up J (58 + 7 * i0) (va_up (va_up (J (58 + 7 * i0)) 12 v_debt) 13 v_paid)), Rr, D) := by
  refine zlp3_ind (P := fun (x2 : Int32) (x3 : Int32) (v_paid : Int64) => zB C (0, 0) 11 [(0, .ref (C.X.1 + (58 + 7 * i0))), (1, .int a1), (2, .int x2), (3, .int x3)] [] (I, (va_up J (58 + 7 * i0) (va_up (va_up (J (58 + 7 * i0)) 12 v_debt) 13 v_paid)), Rr, D)) (fun self ih => ?_)
  intro x2 x3 v_paid h
  refine zb_iload_n E dX8_takeIn_11 3 rfl rfl ?_
  refine zb_sipush E dX8_takeIn_12 (v := 200) rfl ?_
  refine zb_icmp_ge E dX8_takeIn_15 (tgt := 75) rfl (fun hc => ?_) (fun hc => ?_)
  · have h := if_t h hc
    refine zb_sub [0] rfl ?_
    exact hk75 v_paid h
  · have h := if_f h hc
    refine zb_aload_n E dX8_takeIn_18 0 rfl rfl ?_
    refine zb_getX E (58 + 7 * i0) (by omega) (zFr C.X hi0 hkn) rfl zin8 0 (by decide) zw_276 rfl zup_s (v := .ref (C.X.1 + 37)) rfl dX8_takeIn_19 ?_
    refine zb_iload_n E dX8_takeIn_22 2 rfl rfl ?_
    obtain ⟨rc2, hc_23, h⟩ := bd1_s h
    refine zb_cVi E [.int x2] 37 zy_X0_isPayment zw_1038 (by decide) (zF_37 _ _ _ _) rfl (c_X0_isPayment v_acts_count (zcf (f := (I 37)) rfl (by exact e_v_acts_count)) v_acts_kinds e_v_acts_kinds hc_23) (by decide) rfl rfl (by first | decide | simp [Value.category]) dX8_takeIn_23 (cs2 := (0, 0)) rfl ?_
    refine zb_if_eq E dX8_takeIn_26 (tgt := 75) rfl (fun hc => ?_) (fun hc => ?_)
    · have h := if_t h hc
      refine zb_sub [0] rfl ?_
      exact hk75 v_paid h
    · have h := if_f h hc
      refine zb_aload_n E dX8_takeIn_29 0 rfl rfl ?_
      refine zb_getX E (58 + 7 * i0) (by omega) (zFr C.X hi0 hkn) rfl zin8 0 (by decide) zw_276 rfl zup_s (v := .ref (C.X.1 + 37)) rfl dX8_takeIn_30 ?_
      refine zb_getNX E 37 (by decide) (zF_37 C.X) rfl zin0 1 (by decide) znw_8 rfl (zup_n (Ne.symm (zneL0 (by decide : (37 : Nat) < 58)))) (v := .ref (C.X.1 + 39)) rfl dX8_takeIn_33 ?_
      refine zb_iload_n E dX8_takeIn_36 2 rfl rfl ?_
      obtain ⟨g3, h⟩ := gd_s h
      refine zb_iald E 39 (by decide) zF_39 (f := v_acts_shires) e_v_acts_shires (ib_in g3) dX8_takeIn_37 ?_
      refine zb_aload_n E dX8_takeIn_38 0 rfl rfl ?_
      refine zb_getX E (58 + 7 * i0) (by omega) (zFr C.X hi0 hkn) rfl zin8 10 (by decide) zw_286 rfl zup_s (v := .int v_shire) (by exact congrArg (fun z => some (Value.int z)) e_v_shire) dX8_takeIn_39 ?_
      refine zb_icmp_ne E dX8_takeIn_42 (tgt := 60) rfl (fun hc => ?_) (fun hc => ?_)
      · have h := if_f h hc
        exact c_X8_takeIn_b60 i0 hi0 kn hkn N a1 v_acts_count e_v_acts_count v_acts_amounts e_v_acts_amounts v_acts_kinds e_v_acts_kinds v_acts_shires e_v_acts_shires v_chest_goodWorths e_v_chest_goodWorths v_known_fires e_v_known_fires v_known_firstPayments e_v_known_firstPayments v_known_nextPayments e_v_known_nextPayments v_blanched e_v_blanched v_shire e_v_shire y_v_debt y_v_paid E hQ x2 x3 v_debt v_paid self ih k75 hk75 h
      · have h := if_t h hc
        refine zb_aload_n E dX8_takeIn_45 0 rfl rfl ?_
        refine zb_dup E dX8_takeIn_46 rfl ?_
        refine zb_getX E (58 + 7 * i0) (by omega) (zFr C.X hi0 hkn) rfl zin8 13 (by decide) zw_289 rfl zup_s (v := .long v_paid) rfl dX8_takeIn_47 ?_
        refine zb_aload_n E dX8_takeIn_50 0 rfl rfl ?_
        refine zb_iload_n E dX8_takeIn_51 2 rfl rfl ?_
        refine zb_iload_n E dX8_takeIn_52 1 rfl rfl ?_
        obtain ⟨rc4, hc_53, h⟩ := bd1_s h
        refine zb_cVl E [.int x2, .int a1] (58 + 7 * i0) zy_X8_worthOf zw_1039 (by omega) (zFr _ hi0 hkn _ _ _) rfl (c_X8_worthOf i0 hi0 kn hkn v_acts_amounts e_v_acts_amounts v_acts_kinds e_v_acts_kinds v_chest_goodWorths e_v_chest_goodWorths v_known_fires e_v_known_fires v_blanched (zcf (f := (I (58 + 7 * i0))) rfl (by exact e_v_blanched)) hc_53) (by decide) rfl rfl (by first | decide | simp [Value.category]) dX8_takeIn_53 (cs2 := (0, 0)) rfl ?_
        refine zb_ladd E dX8_takeIn_56 ?_
        refine zb_putXJ E (58 + 7 * i0) (by omega) (zFr C.X hi0 hkn) rfl zin8 13 (by decide) zw_289 tyX8 tyX8_ok nmX8 rfl rfl rfl rfl zup_s (zset8_13 C.X (58 + 7 * i0) kn _ _ (v_paid + rc4)) (by rw [zflen8]; decide) (J2 := (va_up J (58 + 7 * i0) (va_up (va_up (J (58 + 7 * i0)) 12 v_debt) 13 (v_paid + rc4)))) ((zcgV zn1).trans zn1) dX8_takeIn_57 ?_
        exact c_X8_takeIn_b60 i0 hi0 kn hkn N a1 v_acts_count e_v_acts_count v_acts_amounts e_v_acts_amounts v_acts_kinds e_v_acts_kinds v_acts_shires e_v_acts_shires v_chest_goodWorths e_v_chest_goodWorths v_known_fires e_v_known_fires v_known_firstPayments e_v_known_firstPayments v_known_nextPayments e_v_known_nextPayments v_blanched e_v_blanched v_shire e_v_shire y_v_debt y_v_paid E hQ x2 x3 v_debt (v_paid + rc4) self ih k75 hk75 h
theorem c_X8_takeIn_b75 {C : zC} {I : Nat → Nat → Int32} {J : Nat → Nat → Int64} {Rr : Nat → Nat → Option Nat} {D : zD} (i0 : Nat) (hi0 : i0 < 10) (kn : Nat) (hkn : (i0 < 8 ∧ kn = 48) ∨ (8 ≤ i0 ∧ kn = 53)) (N : Nat) (a1 : Int32) (v_acts_count : Int32) (e_v_acts_count : I 37 6 = v_acts_count) (v_acts_amounts : (Nat → Int32)) (e_v_acts_amounts : I 41 = v_acts_amounts) (v_acts_kinds : (Nat → Int32)) (e_v_acts_kinds : I 38 = v_acts_kinds) (v_acts_shires : (Nat → Int32)) (e_v_acts_shires : I 39 = v_acts_shires) (v_chest_goodWorths : (Nat → Int32)) (e_v_chest_goodWorths : I 12 = v_chest_goodWorths) (v_known_fires : (Nat → Int32)) (e_v_known_fires : I (kn + 2) = v_known_fires) (v_known_firstPayments : (Nat → Int32)) (e_v_known_firstPayments : I (kn + 3) = v_known_firstPayments) (v_known_nextPayments : (Nat → Int32)) (e_v_known_nextPayments : I (kn + 4) = v_known_nextPayments) (v_blanched : Int32) (e_v_blanched : I (58 + 7 * i0) 14 = v_blanched) (v_shire : Int32) (e_v_shire : I (58 + 7 * i0) 10 = v_shire) (y_v_debt : Int64) (y_v_paid : Int64) (E : zE C RX8 cX8_takeIn 4 none ({ frames := 3, cells := 0, slots := 0, locals := 64 } : Room)) (hQ : C.Q = zQv C ({ frames := 3, cells := 0, slots := 0, locals := 64 } : Room) (I, (va_up J (58 + 7 * i0) (va_up (va_up (J (58 + 7 * i0)) 12 y_v_debt) 13 y_v_paid)), Rr, D)) (v_debt : Int64) (v_paid : Int64) (h : pRoll_takeIn_b75 N a1 v_acts_count v_acts_amounts v_acts_kinds v_acts_shires v_chest_goodWorths v_known_fires v_known_firstPayments v_known_nextPayments v_blanched v_shire v_debt v_paid = some (y_v_debt, y_v_paid)) : zB C (0, 0) 75 [(0, .ref (C.X.1 + (58 + 7 * i0)))] [] (I, (va_up J (58 + 7 * i0) (va_up (va_up (J (58 + 7 * i0)) 12 v_debt) 13 v_paid)), Rr, D) := by
  refine zb_aload_n E dX8_takeIn_75 0 rfl rfl ?_
  refine zb_dup E dX8_takeIn_76 rfl ?_
  refine zb_getX E (58 + 7 * i0) (by omega) (zFr C.X hi0 hkn) rfl zin8 12 (by decide) zw_288 rfl zup_s (v := .long v_debt) rfl dX8_takeIn_77 ?_
  refine zb_aload_n E dX8_takeIn_80 0 rfl rfl ?_
  refine zb_getX E (58 + 7 * i0) (by omega) (zFr C.X hi0 hkn) rfl zin8 13 (by decide) zw_289 rfl zup_s (v := .long v_paid) rfl dX8_takeIn_81 ?_
  refine zb_lsub E dX8_takeIn_84 ?_
  refine zb_putXJ E (58 + 7 * i0) (by omega) (zFr C.X hi0 hkn) rfl zin8 12 (by decide) zw_288 tyX8 tyX8_ok nmX8 rfl rfl rfl rfl zup_s (zset8_12 C.X (58 + 7 * i0) kn _ _ (v_debt - v_paid)) (by rw [zflen8]; decide) (J2 := (va_up J (58 + 7 * i0) (va_up (va_up (J (58 + 7 * i0)) 12 (v_debt - v_paid)) 13 v_paid))) ((zcgV (zn2 (by decide : (13 : Nat) ≠ 12))).trans zn1) dX8_takeIn_85 ?_
  obtain ⟨rfl, rfl⟩ := zinj2 h
  exact zb_vret E hQ rfl ⟨Nat.zero_le _, Nat.zero_le _⟩ dX8_takeIn_88
theorem c_X8_takeIn_0 {C : zC} {I : Nat → Nat → Int32} {J : Nat → Nat → Int64} {Rr : Nat → Nat → Option Nat} {D : zD} (i0 : Nat) (hi0 : i0 < 10) (kn : Nat) (hkn : (i0 < 8 ∧ kn = 48) ∨ (8 ≤ i0 ∧ kn = 53)) (N : Nat) (a1 : Int32) (v_acts_count : Int32) (e_v_acts_count : I 37 6 = v_acts_count) (v_acts_amounts : (Nat → Int32)) (e_v_acts_amounts : I 41 = v_acts_amounts) (v_acts_kinds : (Nat → Int32)) (e_v_acts_kinds : I 38 = v_acts_kinds) (v_acts_shires : (Nat → Int32)) (e_v_acts_shires : I 39 = v_acts_shires) (v_chest_goodWorths : (Nat → Int32)) (e_v_chest_goodWorths : I 12 = v_chest_goodWorths) (v_known_fires : (Nat → Int32)) (e_v_known_fires : I (kn + 2) = v_known_fires) (v_known_firstPayments : (Nat → Int32)) (e_v_known_firstPayments : I (kn + 3) = v_known_firstPayments) (v_known_nextPayments : (Nat → Int32)) (e_v_known_nextPayments : I (kn + 4) = v_known_nextPayments) (v_blanched : Int32) (e_v_blanched : I (58 + 7 * i0) 14 = v_blanched) (v_shire : Int32) (e_v_shire : I (58 + 7 * i0) 10 = v_shire) (y_v_debt : Int64) (y_v_paid : Int64) (E : zE C RX8 cX8_takeIn 4 none ({ frames := 3, cells := 0, slots := 0, locals := 64 } : Room)) (hQ : C.Q = zQv C ({ frames := 3, cells := 0, slots := 0, locals := 64 } : Room) (I, (va_up J (58 + 7 * i0) (va_up (va_up (J (58 + 7 * i0)) 12 y_v_debt) 13 y_v_paid)), Rr, D)) (v_debt : Int64) (v_paid : Int64) (h : pRoll_takeIn N a1 v_acts_count v_acts_amounts v_acts_kinds v_acts_shires v_chest_goodWorths v_known_fires v_known_firstPayments v_known_nextPayments v_blanched v_debt v_paid v_shire = some (y_v_debt, y_v_paid)) : zB C (0, 0) 0 [(0, .ref (C.X.1 + (58 + 7 * i0))), (1, .int a1)] [] (I, (va_up J (58 + 7 * i0) (va_up (va_up (J (58 + 7 * i0)) 12 v_debt) 13 v_paid)), Rr, D) := by
  refine zb_aload_n E dX8_takeIn_0 0 rfl rfl ?_
  refine zb_getX E (58 + 7 * i0) (by omega) (zFr C.X hi0 hkn) rfl zin8 2 (by decide) zw_278 rfl zup_s (v := .ref (C.X.1 + kn)) rfl dX8_takeIn_1 ?_
  refine zb_iload_n E dX8_takeIn_4 1 rfl rfl ?_
  obtain ⟨rc1, hc_5, h⟩ := bd1_s h
  refine zb_cVi E [.int a1] kn zy_X5_firstPayment zw_1034 (by omega) (zFk _ (zkn hkn) _ _ _) rfl (c_X5_firstPayment kn (zkn hkn) v_known_firstPayments e_v_known_firstPayments hc_5) (by decide) rfl rfl (by first | decide | simp [Value.category]) dX8_takeIn_5 (cs2 := (0, 0)) rfl ?_
  refine zb_istore_n E dX8_takeIn_8 rfl (by decide) (lv2 := [(2, .int rc1), (0, .ref (C.X.1 + (58 + 7 * i0))), (1, .int a1)]) rfl ?_
  refine zb_iconst E dX8_takeIn_9 (v := 0) rfl ?_
  refine zb_istore_n E dX8_takeIn_10 rfl (by decide) (lv2 := [(3, .int 0), (2, .int rc1), (0, .ref (C.X.1 + (58 + 7 * i0))), (1, .int a1)]) rfl ?_
  refine zb_sub [2, 3, 1, 0] rfl ?_
  exact c_X8_takeIn_b11 i0 hi0 kn hkn N a1 v_acts_count e_v_acts_count v_acts_amounts e_v_acts_amounts v_acts_kinds e_v_acts_kinds v_acts_shires e_v_acts_shires v_chest_goodWorths e_v_chest_goodWorths v_known_fires e_v_known_fires v_known_firstPayments e_v_known_firstPayments v_known_nextPayments e_v_known_nextPayments v_blanched e_v_blanched v_shire e_v_shire y_v_debt y_v_paid E hQ v_debt _ (fun v_paid_z1 h => c_X8_takeIn_b75 i0 hi0 kn hkn N a1 v_acts_count e_v_acts_count v_acts_amounts e_v_acts_amounts v_acts_kinds e_v_acts_kinds v_acts_shires e_v_acts_shires v_chest_goodWorths e_v_chest_goodWorths v_known_fires e_v_known_fires v_known_firstPayments e_v_known_firstPayments v_known_nextPayments e_v_known_nextPayments v_blanched e_v_blanched v_shire e_v_shire y_v_debt y_v_paid E hQ v_debt v_paid_z1 h) _ rc1 0 v_paid h
theorem c_X8_takeIn {l : Launch} {X : zX} {I : Nat → Nat → Int32} {J : Nat → Nat → Int64} {Rr : Nat → Nat → Option Nat} {D : zD} (i0 : Nat) (hi0 : i0 < 10) (kn : Nat) (hkn : (i0 < 8 ∧ kn = 48) ∨ (8 ≤ i0 ∧ kn = 53)) {N : Nat} {a1 : Int32} (oJ58_7_i0 : Nat → Int64) (eoJ58_7_i0 : J (58 + 7 * i0) = oJ58_7_i0) (v_acts_count : Int32) (e_v_acts_count : I 37 6 = v_acts_count) (v_acts_amounts : (Nat → Int32)) (e_v_acts_amounts : I 41 = v_acts_amounts) (v_acts_kinds : (Nat → Int32)) (e_v_acts_kinds : I 38 = v_acts_kinds) (v_acts_shires : (Nat → Int32)) (e_v_acts_shires : I 39 = v_acts_shires) (v_chest_goodWorths : (Nat → Int32)) (e_v_chest_goodWorths : I 12 = v_chest_goodWorths) (v_known_fires : (Nat → Int32)) (e_v_known_fires : I (kn + 2) = v_known_fires) (v_known_firstPayments : (Nat → Int32)) (e_v_known_firstPayments : I (kn + 3) = v_known_firstPayments) (v_known_nextPayments : (Nat → Int32)) (e_v_known_nextPayments : I (kn + 4) = v_known_nextPayments) (v_blanched : Int32) (e_v_blanched : I (58 + 7 * i0) 14 = v_blanched) (v_shire : Int32) (e_v_shire : I (58 + 7 * i0) 10 = v_shire) (v_debt : Int64) (e_v_debt : J (58 + 7 * i0) 12 = v_debt) (v_paid : Int64) (e_v_paid : J (58 + 7 * i0) 13 = v_paid) {y_v_debt : Int64} {y_v_paid : Int64} (h : pRoll_takeIn N a1 v_acts_count v_acts_amounts v_acts_kinds v_acts_shires v_chest_goodWorths v_known_fires v_known_firstPayments v_known_nextPayments v_blanched v_debt v_paid v_shire = some (y_v_debt, y_v_paid)) : zMv l yX8_takeIn cX8_takeIn 4 none ({ frames := 3, cells := 0, slots := 0, locals := 64 } : Room) X [.ref (X.1 + (58 + 7 * i0)), .int a1] (I, J, Rr, D) (I, (va_up J (58 + 7 * i0) (va_up (va_up oJ58_7_i0 12 y_v_debt) 13 y_v_paid)), Rr, D) := by
  subst eoJ58_7_i0
  refine zMv.of (by decide) (Nat.le_of_ble_eq_true rfl) (fun C E hl hX hQ => ?_)
  subst hl
  subst hX
  have eI0 : I = I := rfl
  have eJ0 : (va_up J (58 + 7 * i0) (va_up (va_up (J (58 + 7 * i0)) 12 v_debt) 13 v_paid)) = J := by rw [zup_idE e_v_debt, zup_idE e_v_paid, zup_id]
  refine zb_S (S2 := (I, (va_up J (58 + 7 * i0) (va_up (va_up (J (58 + 7 * i0)) 12 v_debt) 13 v_paid)), Rr, D)) (zS_eq eI0.symm eJ0.symm) ?_
  exact c_X8_takeIn_0 i0 hi0 kn hkn N a1 v_acts_count e_v_acts_count v_acts_amounts e_v_acts_amounts v_acts_kinds e_v_acts_kinds v_acts_shires e_v_acts_shires v_chest_goodWorths e_v_chest_goodWorths v_known_fires e_v_known_fires v_known_firstPayments e_v_known_firstPayments v_known_nextPayments e_v_known_nextPayments v_blanched e_v_blanched v_shire e_v_shire y_v_debt y_v_paid E hQ v_debt v_paid h
-- ChequeredCloth$Roll.splitDebt
theorem dX8_splitDebt_0 : decode cX8_splitDebt 0 = .ok (.aload_n 1, 1) := by decide +kernel
theorem dX8_splitDebt_1 : decode cX8_splitDebt 1 = .ok (.ifnonnull 4, 3) := by decide +kernel
theorem dX8_splitDebt_4 : decode cX8_splitDebt 4 = .ok (.return_, 1) := by decide +kernel
theorem dX8_splitDebt_5 : decode cX8_splitDebt 5 = .ok (.aload_n 1, 1) := by decide +kernel
theorem dX8_splitDebt_6 : decode cX8_splitDebt 6 = .ok (.getfield 112, 3) := by decide +kernel
theorem dX8_splitDebt_9 : decode cX8_splitDebt 9 = .ok (.astore_n 3, 1) := by decide +kernel
theorem dX8_splitDebt_10 : decode cX8_splitDebt 10 = .ok (.aload_n 3, 1) := by decide +kernel
theorem dX8_splitDebt_11 : decode cX8_splitDebt 11 = .ok (.arraylength, 1) := by decide +kernel
theorem dX8_splitDebt_12 : decode cX8_splitDebt 12 = .ok (.istore 4, 2) := by decide +kernel
theorem dX8_splitDebt_14 : decode cX8_splitDebt 14 = .ok (.iconst 0, 1) := by decide +kernel
theorem dX8_splitDebt_15 : decode cX8_splitDebt 15 = .ok (.istore 5, 2) := by decide +kernel
theorem dX8_splitDebt_17 : decode cX8_splitDebt 17 = .ok (.iload 5, 2) := by decide +kernel
theorem dX8_splitDebt_19 : decode cX8_splitDebt 19 = .ok (.iload 4, 2) := by decide +kernel
theorem dX8_splitDebt_21 : decode cX8_splitDebt 21 = .ok (.if_icmp .ge 165, 3) := by decide +kernel
theorem dX8_splitDebt_24 : decode cX8_splitDebt 24 = .ok (.aload_n 3, 1) := by decide +kernel
theorem dX8_splitDebt_25 : decode cX8_splitDebt 25 = .ok (.iload 5, 2) := by decide +kernel
theorem dX8_splitDebt_27 : decode cX8_splitDebt 27 = .ok (.aaload, 1) := by decide +kernel
theorem dX8_splitDebt_28 : decode cX8_splitDebt 28 = .ok (.astore 6, 2) := by decide +kernel
theorem dX8_splitDebt_30 : decode cX8_splitDebt 30 = .ok (.aload 6, 2) := by decide +kernel
theorem dX8_splitDebt_32 : decode cX8_splitDebt 32 = .ok (.getfield 118, 3) := by decide +kernel
theorem dX8_splitDebt_35 : decode cX8_splitDebt 35 = .ok (.iconst 4, 1) := by decide +kernel
theorem dX8_splitDebt_36 : decode cX8_splitDebt 36 = .ok (.if_icmp .ne 144, 3) := by decide +kernel
theorem dX8_splitDebt_39 : decode cX8_splitDebt 39 = .ok (.aload_n 0, 1) := by decide +kernel
theorem dX8_splitDebt_40 : decode cX8_splitDebt 40 = .ok (.getfield 99, 3) := by decide +kernel
theorem dX8_splitDebt_43 : decode cX8_splitDebt 43 = .ok (.lconst 0, 1) := by decide +kernel
theorem dX8_splitDebt_44 : decode cX8_splitDebt 44 = .ok (.lcmp, 1) := by decide +kernel
theorem dX8_splitDebt_45 : decode cX8_splitDebt 45 = .ok (.ifCond .le 135, 3) := by decide +kernel
theorem dX8_splitDebt_48 : decode cX8_splitDebt 48 = .ok (.aload 6, 2) := by decide +kernel
theorem dX8_splitDebt_50 : decode cX8_splitDebt 50 = .ok (.getfield 155, 3) := by decide +kernel
theorem dX8_splitDebt_53 : decode cX8_splitDebt 53 = .ok (.ifCond .gt 6, 3) := by decide +kernel
theorem dX8_splitDebt_56 : decode cX8_splitDebt 56 = .ok (.goto 124, 3) := by decide +kernel
theorem dX8_splitDebt_59 : decode cX8_splitDebt 59 = .ok (.aload_n 0, 1) := by decide +kernel
theorem dX8_splitDebt_60 : decode cX8_splitDebt 60 = .ok (.getfield 42, 3) := by decide +kernel
theorem dX8_splitDebt_63 : decode cX8_splitDebt 63 = .ok (.aload_n 0, 1) := by decide +kernel
theorem dX8_splitDebt_64 : decode cX8_splitDebt 64 = .ok (.getfield 46, 3) := by decide +kernel
theorem dX8_splitDebt_67 : decode cX8_splitDebt 67 = .ok (.iload_n 2, 1) := by decide +kernel
theorem dX8_splitDebt_68 : decode cX8_splitDebt 68 = .ok (.aload_n 0, 1) := by decide +kernel
theorem dX8_splitDebt_69 : decode cX8_splitDebt 69 = .ok (.getfield 99, 3) := by decide +kernel
theorem dX8_splitDebt_72 : decode cX8_splitDebt 72 = .ok (.aload_n 0, 1) := by decide +kernel
theorem dX8_splitDebt_73 : decode cX8_splitDebt 73 = .ok (.getfield 74, 3) := by decide +kernel
theorem dX8_splitDebt_76 : decode cX8_splitDebt 76 = .ok (.invokevirtual 121, 3) := by decide +kernel
theorem dX8_splitDebt_79 : decode cX8_splitDebt 79 = .ok (.aload_n 0, 1) := by decide +kernel
theorem dX8_splitDebt_80 : decode cX8_splitDebt 80 = .ok (.getfield 42, 3) := by decide +kernel
theorem dX8_splitDebt_83 : decode cX8_splitDebt 83 = .ok (.aload_n 1, 1) := by decide +kernel
theorem dX8_splitDebt_84 : decode cX8_splitDebt 84 = .ok (.getfield 127, 3) := by decide +kernel
theorem dX8_splitDebt_87 : decode cX8_splitDebt 87 = .ok (.aload 6, 2) := by decide +kernel
theorem dX8_splitDebt_89 : decode cX8_splitDebt 89 = .ok (.getfield 131, 3) := by decide +kernel
theorem dX8_splitDebt_92 : decode cX8_splitDebt 92 = .ok (.aload 6, 2) := by decide +kernel
theorem dX8_splitDebt_94 : decode cX8_splitDebt 94 = .ok (.getfield 134, 3) := by decide +kernel
theorem dX8_splitDebt_97 : decode cX8_splitDebt 97 = .ok (.invokevirtual 137, 3) := by decide +kernel
theorem dX8_splitDebt_100 : decode cX8_splitDebt 100 = .ok (.lconst 0, 1) := by decide +kernel
theorem dX8_splitDebt_101 : decode cX8_splitDebt 101 = .ok (.lcmp, 1) := by decide +kernel
theorem dX8_splitDebt_102 : decode cX8_splitDebt 102 = .ok (.ifCond .eq 78, 3) := by decide +kernel
theorem dX8_splitDebt_105 : decode cX8_splitDebt 105 = .ok (.aload 6, 2) := by decide +kernel
theorem dX8_splitDebt_107 : decode cX8_splitDebt 107 = .ok (.getfield 155, 3) := by decide +kernel
theorem dX8_splitDebt_110 : decode cX8_splitDebt 110 = .ok (.iconst 1, 1) := by decide +kernel
theorem dX8_splitDebt_111 : decode cX8_splitDebt 111 = .ok (.isub, 1) := by decide +kernel
theorem dX8_splitDebt_112 : decode cX8_splitDebt 112 = .ok (.bipush 19, 2) := by decide +kernel
theorem dX8_splitDebt_114 : decode cX8_splitDebt 114 = .ok (.invokestatic 53, 3) := by decide +kernel
theorem dX8_splitDebt_117 : decode cX8_splitDebt 117 = .ok (.istore 7, 2) := by decide +kernel
theorem dX8_splitDebt_119 : decode cX8_splitDebt 119 = .ok (.aload_n 0, 1) := by decide +kernel
theorem dX8_splitDebt_120 : decode cX8_splitDebt 120 = .ok (.getfield 99, 3) := by decide +kernel
theorem dX8_splitDebt_123 : decode cX8_splitDebt 123 = .ok (.aload 6, 2) := by decide +kernel
theorem dX8_splitDebt_125 : decode cX8_splitDebt 125 = .ok (.getfield 155, 3) := by decide +kernel
theorem dX8_splitDebt_128 : decode cX8_splitDebt 128 = .ok (.i2l, 1) := by decide +kernel
theorem dX8_splitDebt_129 : decode cX8_splitDebt 129 = .ok (.ldiv, 1) := by decide +kernel
theorem dX8_splitDebt_130 : decode cX8_splitDebt 130 = .ok (.lstore 8, 2) := by decide +kernel
theorem dX8_splitDebt_132 : decode cX8_splitDebt 132 = .ok (.iconst 0, 1) := by decide +kernel
theorem dX8_splitDebt_133 : decode cX8_splitDebt 133 = .ok (.istore 10, 2) := by decide +kernel
theorem dX8_splitDebt_135 : decode cX8_splitDebt 135 = .ok (.iload 10, 2) := by decide +kernel
theorem dX8_splitDebt_137 : decode cX8_splitDebt 137 = .ok (.iload 7, 2) := by decide +kernel
theorem dX8_splitDebt_139 : decode cX8_splitDebt 139 = .ok (.if_icmp .ge 26, 3) := by decide +kernel
theorem dX8_splitDebt_142 : decode cX8_splitDebt 142 = .ok (.aload_n 0, 1) := by decide +kernel
theorem dX8_splitDebt_143 : decode cX8_splitDebt 143 = .ok (.getfield 27, 3) := by decide +kernel
theorem dX8_splitDebt_146 : decode cX8_splitDebt 146 = .ok (.iload_n 2, 1) := by decide +kernel
theorem dX8_splitDebt_147 : decode cX8_splitDebt 147 = .ok (.bipush 19, 2) := by decide +kernel
theorem dX8_splitDebt_149 : decode cX8_splitDebt 149 = .ok (.imul, 1) := by decide +kernel
theorem dX8_splitDebt_150 : decode cX8_splitDebt 150 = .ok (.iload 10, 2) := by decide +kernel
theorem dX8_splitDebt_152 : decode cX8_splitDebt 152 = .ok (.iadd, 1) := by decide +kernel
theorem dX8_splitDebt_153 : decode cX8_splitDebt 153 = .ok (.dup2, 1) := by decide +kernel
theorem dX8_splitDebt_154 : decode cX8_splitDebt 154 = .ok (.laload, 1) := by decide +kernel
theorem dX8_splitDebt_155 : decode cX8_splitDebt 155 = .ok (.lload 8, 2) := by decide +kernel
theorem dX8_splitDebt_157 : decode cX8_splitDebt 157 = .ok (.ladd, 1) := by decide +kernel
theorem dX8_splitDebt_158 : decode cX8_splitDebt 158 = .ok (.lastore, 1) := by decide +kernel
theorem dX8_splitDebt_159 : decode cX8_splitDebt 159 = .ok (.iinc 10 1, 3) := by decide +kernel
theorem dX8_splitDebt_162 : decode cX8_splitDebt 162 = .ok (.goto (-27), 3) := by decide +kernel
theorem dX8_splitDebt_165 : decode cX8_splitDebt 165 = .ok (.aload_n 0, 1) := by decide +kernel
theorem dX8_splitDebt_166 : decode cX8_splitDebt 166 = .ok (.dup, 1) := by decide +kernel
theorem dX8_splitDebt_167 : decode cX8_splitDebt 167 = .ok (.getfield 99, 3) := by decide +kernel
theorem dX8_splitDebt_170 : decode cX8_splitDebt 170 = .ok (.lload 8, 2) := by decide +kernel
theorem dX8_splitDebt_172 : decode cX8_splitDebt 172 = .ok (.iload 7, 2) := by decide +kernel
theorem dX8_splitDebt_174 : decode cX8_splitDebt 174 = .ok (.i2l, 1) := by decide +kernel
theorem dX8_splitDebt_175 : decode cX8_splitDebt 175 = .ok (.lmul, 1) := by decide +kernel
theorem dX8_splitDebt_176 : decode cX8_splitDebt 176 = .ok (.lsub, 1) := by decide +kernel
theorem dX8_splitDebt_177 : decode cX8_splitDebt 177 = .ok (.putfield 99, 3) := by decide +kernel
theorem dX8_splitDebt_180 : decode cX8_splitDebt 180 = .ok (.iinc 5 1, 3) := by decide +kernel
theorem dX8_splitDebt_183 : decode cX8_splitDebt 183 = .ok (.goto (-166), 3) := by decide +kernel
theorem dX8_splitDebt_186 : decode cX8_splitDebt 186 = .ok (.return_, 1) := by decide +kernel
theorem zy_X8_splitDebt : zYv yX8_splitDebt cX8_splitDebt 11 none 2 := ⟨zw_1058, zws_40, zw_11, zw_1059, by decide, by decide, by decide⟩
theorem c_X8_splitDebt_b135 {C : zC} {I : Nat → Nat → Int32} {J : Nat → Nat → Int64} {Rr : Nat → Nat → Option Nat} {v_D : zD} (i0 : Nat) (hi0 : i0 < 10) (kn : Nat) (hkn : (i0 < 8 ∧ kn = 48) ∨ (8 ≤ i0 ∧ kn = 53)) (N : Nat) (a1 : (Option Nat)) (a2 : Int32) (v_paid : Int64) (e_v_paid : J (58 + 7 * i0) 13 = v_paid) (v_shire : Int32) (e_v_shire : I (58 + 7 * i0) 10 = v_shire) (y_v_judge_debt : Int64) (y_v_judge_paid : Int64) (y_v_judge_shire : Int32) (y_v_judge_term : Int32) (y_v_judge_stack : (Nat → Int64)) (y_v_debt : Int64) (y_v_putOff : (Nat → Int64)) (E : zE C RX8 cX8_splitDebt 11 none ({ frames := 3, cells := 0, slots := 0, locals := 81 } : Room)) (hQ : C.Q = zQv C ({ frames := 3, cells := 0, slots := 0, locals := 81 } : Room) ((va_up I 46 (va_up (va_up (I 46) 1 y_v_judge_shire) 2 y_v_judge_term)), (va_up (va_up (va_up (va_up J (58 + 7 * i0 + 6) y_v_putOff) (58 + 7 * i0) (va_up (J (58 + 7 * i0)) 12 y_v_debt)) 46 (va_up (va_up (J 46) 3 y_v_judge_debt) 4 y_v_judge_paid)) 47 y_v_judge_stack), Rr, v_D)) (x3 : Nat) (x4 : Int32) (x5 : Int32) (x7 : Int32) (x8 : Int64) (v_judge_debt : Int64) (v_judge_paid : Int64) (v_judge_shire : Int32) (v_judge_term : Int32) (v_judge_stack : (Nat → Int64)) (v_debt : Int64) (k165 : (Nat → Int64) → Option R_pRoll_splitDebt) (hk165 : ∀ (v_putOff : (Nat → Int64)), k165 v_putOff = some (y_v_judge_debt, y_v_judge_paid, y_v_judge_shire, y_v_judge_term, y_v_judge_stack, y_v_debt, y_v_putOff) → zB C (0, 0) 165 [(0, .ref (C.X.1 + (58 + 7 * i0))), (1, va_rf (zq C.X a1)), (2, .int a2), (3, .ref (C.X.1 + 182 + x3)), (4, .int x4), (5, .int x5), (7, .int x7), (8, .long x8)] [] ((va_up I 46 (va_up (va_up (I 46) 1 v_judge_shire) 2 v_judge_term)), (va_up (va_up (va_up (va_up J (58 + 7 * i0 + 6) v_putOff) (58 + 7 * i0) (va_up (J (58 + 7 * i0)) 12 v_debt)) 46 (va_up (va_up (J 46) 3 v_judge_debt) 4 v_judge_paid)) 47 v_judge_stack), Rr, v_D)) : ∀ (n9 : Nat) (x10 : Int32) (v_putOff : (Nat → Int64)), pRoll_splitDebt_b135 N a1 a2 v_D v_paid v_shire x3 x4 x5 x7 x8 v_judge_debt v_judge_paid v_judge_shire v_judge_term v_judge_stack v_debt k165 n9 x10 v_putOff = some (y_v_judge_debt, y_v_judge_paid, y_v_judge_shire, y_v_judge_term, y_v_judge_stack, y_v_debt, y_v_putOff) → zB C (0, 0) 135 [(0, .ref (C.X.1 + (58 + 7 * i0))), (1, va_rf (zq C.X a1)), (2, .int a2), (3, .ref (C.X.1 + 182 + x3)), (4, .int x4), (5, .int x5), (7, .int x7), (8, .long x8), (10, .int x10)] [] ((va_up I 46 (va_up (va_up (I 46) 1 v_judge_shire) 2 v_judge_term)), (va_up (va_up (va_up (va_up J (58 + 7 * i0 + 6) v_putOff) (58 + 7 * i0) (va_up (J (58 + 7 * i0)) 12 v_debt)) 46 (va_up (va_up (J 46) 3 v_judge_debt) 4 v_judge_paid)) 47 v_judge_stack), Rr, v_D) := by
  refine zlp2_ind (P := fun (x10 : Int32) (v_putOff : (Nat → Int64)) => zB C (0, 0) 135 [(0, .ref (C.X.1 + (58 + 7 * i0))), (1, va_rf (zq C.X a1)), (2, .int a2), (3, .ref (C.X.1 + 182 + x3)), (4, .int x4), (5, .int x5), (7, .int x7), (8, .long x8), (10, .int x10)] [] ((va_up I 46 (va_up (va_up (I 46) 1 v_judge_shire) 2 v_judge_term)), (va_up (va_up (va_up (va_up J (58 + 7 * i0 + 6) v_putOff) (58 + 7 * i0) (va_up (J (58 + 7 * i0)) 12 v_debt)) 46 (va_up (va_up (J 46) 3 v_judge_debt) 4 v_judge_paid)) 47 v_judge_stack), Rr, v_D)) (fun self ih => ?_)
  intro x10 v_putOff h
  refine zb_iload E dX8_splitDebt_135 8 rfl ?_
  refine zb_iload E dX8_splitDebt_137 6 rfl ?_
  refine zb_icmp_ge E dX8_splitDebt_139 (tgt := 165) rfl (fun hc => ?_) (fun hc => ?_)
  · have h := if_t h hc
    refine zb_sub [0, 1, 2, 3, 4, 5, 6, 7] rfl ?_
    exact hk165 v_putOff h
  · have h := if_f h hc
    refine zb_aload_n E dX8_splitDebt_142 0 rfl rfl ?_
    refine zb_getX E (58 + 7 * i0) (by omega) (zFr C.X hi0 hkn) rfl zin8 9 (by decide) zw_285 (zup_n (zneL0 (by decide : (46 : Nat) < 58))) ((zup_n (zneL0 (by decide : (47 : Nat) < 58))).trans ((zup_n (zneL0 (by decide : (46 : Nat) < 58))).trans zup_s)) (v := .ref (C.X.1 + (58 + 7 * i0 + 6))) rfl dX8_splitDebt_143 ?_
    refine zb_iload_n E dX8_splitDebt_146 2 rfl rfl ?_
    refine zb_bipush E dX8_splitDebt_147 (v := 19) rfl ?_
    refine zb_imul E dX8_splitDebt_149 ?_
    refine zb_iload E dX8_splitDebt_150 8 rfl ?_
    refine zb_iadd E dX8_splitDebt_152 ?_
    refine zb_dup2_11 E dX8_splitDebt_153 rfl rfl ?_
    obtain ⟨g18, h⟩ := gd_s h
    refine zb_lald E (58 + 7 * i0 + 6) (by omega) (zFrA_6 hi0) (f := v_putOff) (((zup_n (zneL (by decide : (47 : Nat) < 58))).trans ((zup_n (zneL (by decide : (46 : Nat) < 58))).trans ((zup_n (by omega : ((58 + 7 * i0 + 6) : Nat) ≠ (58 + 7 * i0))).trans zup_s)))) (ib_in g18) dX8_splitDebt_154 ?_
    refine zb_lload E dX8_splitDebt_155 7 rfl ?_
    refine zb_ladd E dX8_splitDebt_157 ?_
    refine zb_last E (58 + 7 * i0 + 6) (by omega) (zFrA_6 hi0) (f := v_putOff) (((zup_n (zneL (by decide : (47 : Nat) < 58))).trans ((zup_n (zneL (by decide : (46 : Nat) < 58))).trans ((zup_n (by omega : ((58 + 7 * i0 + 6) : Nat) ≠ (58 + 7 * i0))).trans zup_s)))) (ib_in g18) dX8_splitDebt_158 (J2 := (va_up (va_up (va_up (va_up J (58 + 7 * i0 + 6) (vp_updL v_putOff (ix ((a2 * 19) + x10)) ((v_putOff (ix ((a2 * 19) + x10))) + x8))) (58 + 7 * i0) (va_up (J (58 + 7 * i0)) 12 v_debt)) 46 (va_up (va_up (J 46) 3 v_judge_debt) 4 v_judge_paid)) 47 v_judge_stack)) (zn4 (Ne.symm (zneL (by decide : (47 : Nat) < 58))) (Ne.symm (zneL (by decide : (46 : Nat) < 58))) (by omega : ((58 + 7 * i0) : Nat) ≠ (58 + 7 * i0 + 6))) ?_
    refine zb_iinc E dX8_splitDebt_159 8 rfl (v := (x10 + 1)) rfl (by decide) (lv2 := [(10, .int (x10 + 1)), (0, .ref (C.X.1 + (58 + 7 * i0))), (1, va_rf (zq C.X a1)), (2, .int a2), (3, .ref (C.X.1 + 182 + x3)), (4, .int x4), (5, .int x5), (7, .int x7), (8, .long x8)]) rfl ?_
    refine zb_goto E dX8_splitDebt_162 (tgt := 135) rfl ?_
    refine zb_sub [1, 2, 3, 4, 5, 6, 7, 8, 0] rfl ?_
    exact ih (x10 + 1) (vp_updL v_putOff (ix ((a2 * 19) + x10)) ((v_putOff (ix ((a2 * 19) + x10))) + x8)) h
theorem c_X8_splitDebt_b165 {C : zC} {I : Nat → Nat → Int32} {J : Nat → Nat → Int64} {Rr : Nat → Nat → Option Nat} {v_D : zD} (i0 : Nat) (hi0 : i0 < 10) (kn : Nat) (hkn : (i0 < 8 ∧ kn = 48) ∨ (8 ≤ i0 ∧ kn = 53)) (N : Nat) (a1 : (Option Nat)) (a2 : Int32) (v_paid : Int64) (e_v_paid : J (58 + 7 * i0) 13 = v_paid) (v_shire : Int32) (e_v_shire : I (58 + 7 * i0) 10 = v_shire) (y_v_judge_debt : Int64) (y_v_judge_paid : Int64) (y_v_judge_shire : Int32) (y_v_judge_term : Int32) (y_v_judge_stack : (Nat → Int64)) (y_v_debt : Int64) (y_v_putOff : (Nat → Int64)) (E : zE C RX8 cX8_splitDebt 11 none ({ frames := 3, cells := 0, slots := 0, locals := 81 } : Room)) (hQ : C.Q = zQv C ({ frames := 3, cells := 0, slots := 0, locals := 81 } : Room) ((va_up I 46 (va_up (va_up (I 46) 1 y_v_judge_shire) 2 y_v_judge_term)), (va_up (va_up (va_up (va_up J (58 + 7 * i0 + 6) y_v_putOff) (58 + 7 * i0) (va_up (J (58 + 7 * i0)) 12 y_v_debt)) 46 (va_up (va_up (J 46) 3 y_v_judge_debt) 4 y_v_judge_paid)) 47 y_v_judge_stack), Rr, v_D)) (x3 : Nat) (x4 : Int32) (x5 : Int32) (x7 : Int32) (x8 : Int64) (v_judge_debt : Int64) (v_judge_paid : Int64) (v_judge_shire : Int32) (v_judge_term : Int32) (v_judge_stack : (Nat → Int64)) (v_debt : Int64) (v_putOff : (Nat → Int64)) (self : Int32 → Int64 → Int64 → Int32 → Int32 → (Nat → Int64) → Int64 → (Nat → Int64) → Option R_pRoll_splitDebt) (ih : ∀ (x5 : Int32) (v_judge_debt : Int64) (v_judge_paid : Int64) (v_judge_shire : Int32) (v_judge_term : Int32) (v_judge_stack : (Nat → Int64)) (v_debt : Int64) (v_putOff : (Nat → Int64)), self x5 v_judge_debt v_judge_paid v_judge_shire v_judge_term v_judge_stack v_debt v_putOff = some (y_v_judge_debt, y_v_judge_paid, y_v_judge_shire, y_v_judge_term, y_v_judge_stack, y_v_debt, y_v_putOff) → zB C (0, 0) 17 [(0, .ref (C.X.1 + (58 + 7 * i0))), (1, va_rf (zq C.X a1)), (2, .int a2), (3, .ref (C.X.1 + 182 + x3)), (4, .int x4), (5, .int x5)] [] ((va_up I 46 (va_up (va_up (I 46) 1 v_judge_shire) 2 v_judge_term)), (va_up (va_up (va_up (va_up J (58 + 7 * i0 + 6) v_putOff) (58 + 7 * i0) (va_up (J (58 + 7 * i0)) 12 v_debt)) 46 (va_up (va_up (J 46) 3 v_judge_debt) 4 v_judge_paid)) 47 v_judge_stack), Rr, v_D)) (h : pRoll_splitDebt_b165 N a1 a2 v_D v_paid v_shire self x3 x4 x5 x7 x8 v_judge_debt v_judge_paid v_judge_shire v_judge_term v_judge_stack v_debt v_putOff = some (y_v_judge_debt, y_v_judge_paid, y_v_judge_shire, y_v_judge_term, y_v_judge_stack, y_v_debt, y_v_putOff)) : zB C (0, 0) 165 [(0, .ref (C.X.1 + (58 + 7 * i0))), (1, va_rf (zq C.X a1)), (2, .int a2), (3, .ref (C.X.1 + 182 + x3)), (4, .int x4), (5, .int x5), (7, .int x7), (8, .long x8)] [] ((va_up I 46 (va_up (va_up (I 46) 1 v_judge_shire) 2 v_judge_term)), (va_up (va_up (va_up (va_up J (58 + 7 * i0 + 6) v_putOff) (58 + 7 * i0) (va_up (J (58 + 7 * i0)) 12 v_debt)) 46 (va_up (va_up (J 46) 3 v_judge_debt) 4 v_judge_paid)) 47 v_judge_stack), Rr, v_D) := by
  refine zb_aload_n E dX8_splitDebt_165 0 rfl rfl ?_
  refine zb_dup E dX8_splitDebt_166 rfl ?_
  refine zb_getX E (58 + 7 * i0) (by omega) (zFr C.X hi0 hkn) rfl zin8 12 (by decide) zw_288 (zup_n (zneL0 (by decide : (46 : Nat) < 58))) ((zup_n (zneL0 (by decide : (47 : Nat) < 58))).trans ((zup_n (zneL0 (by decide : (46 : Nat) < 58))).trans zup_s)) (v := .long v_debt) rfl dX8_splitDebt_167 ?_
  refine zb_lload E dX8_splitDebt_170 7 rfl ?_
  refine zb_iload E dX8_splitDebt_172 6 rfl ?_
  refine zb_i2l E dX8_splitDebt_174 ?_
  refine zb_lmul E dX8_splitDebt_175 ?_
  refine zb_lsub E dX8_splitDebt_176 ?_
  refine zb_putXJ E (58 + 7 * i0) (by omega) (zFr C.X hi0 hkn) rfl zin8 12 (by decide) zw_288 tyX8 tyX8_ok nmX8 rfl rfl rfl (zup_n (zneL0 (by decide : (46 : Nat) < 58))) ((zup_n (zneL0 (by decide : (47 : Nat) < 58))).trans ((zup_n (zneL0 (by decide : (46 : Nat) < 58))).trans zup_s)) (zset8_12 C.X (58 + 7 * i0) kn _ _ (v_debt - (x8 * (i2l x7)))) (by rw [zflen8]; decide) (J2 := (va_up (va_up (va_up (va_up J (58 + 7 * i0 + 6) v_putOff) (58 + 7 * i0) (va_up (J (58 + 7 * i0)) 12 (v_debt - (x8 * (i2l x7))))) 46 (va_up (va_up (J 46) 3 v_judge_debt) 4 v_judge_paid)) 47 v_judge_stack)) ((zcgV zn1).trans (zn3 (Ne.symm (zneL0 (by decide : (47 : Nat) < 58))) (Ne.symm (zneL0 (by decide : (46 : Nat) < 58))))) dX8_splitDebt_177 ?_
  refine zb_iinc E dX8_splitDebt_180 5 rfl (v := (x5 + 1)) rfl (by decide) (lv2 := [(5, .int (x5 + 1)), (0, .ref (C.X.1 + (58 + 7 * i0))), (1, va_rf (zq C.X a1)), (2, .int a2), (3, .ref (C.X.1 + 182 + x3)), (4, .int x4), (7, .int x7), (8, .long x8)]) rfl ?_
  refine zb_goto E dX8_splitDebt_183 (tgt := 17) rfl ?_
  refine zb_sub [1, 2, 3, 4, 5, 0] rfl ?_
  exact ih (x5 + 1) v_judge_debt v_judge_paid v_judge_shire v_judge_term v_judge_stack (v_debt - (x8 * (i2l x7))) v_putOff h
theorem c_X8_splitDebt_b17 {C : zC} {I : Nat → Nat → Int32} {J : Nat → Nat → Int64} {Rr : Nat → Nat → Option Nat} {v_D : zD} (i0 : Nat) (hi0 : i0 < 10) (kn : Nat) (hkn : (i0 < 8 ∧ kn = 48) ∨ (8 ≤ i0 ∧ kn = 53)) (N : Nat) (a1 : (Option Nat)) (a2 : Int32) (v_paid : Int64) (e_v_paid : J (58 + 7 * i0) 13 = v_paid) (v_shire : Int32) (e_v_shire : I (58 + 7 * i0) 10 = v_shire) (y_v_judge_debt : Int64) (y_v_judge_paid : Int64) (y_v_judge_shire : Int32) (y_v_judge_term : Int32) (y_v_judge_stack : (Nat → Int64)) (y_v_debt : Int64) (y_v_putOff : (Nat → Int64)) (E : zE C RX8 cX8_splitDebt 11 none ({ frames := 3, cells := 0, slots := 0, locals := 81 } : Room)) (hQ : C.Q = zQv C ({ frames := 3, cells := 0, slots := 0, locals := 81 } : Room) ((va_up I 46 (va_up (va_up (I 46) 1 y_v_judge_shire) 2 y_v_judge_term)), (va_up (va_up (va_up (va_up J (58 + 7 * i0 + 6) y_v_putOff) (58 + 7 * i0) (va_up (J (58 + 7 * i0)) 12 y_v_debt)) 46 (va_up (va_up (J 46) 3 y_v_judge_debt) 4 y_v_judge_paid)) 47 y_v_judge_stack), Rr, v_D)) (x3 : Nat) (x4 : Int32)  : ∀ (n9 : Nat) (x5 : Int32) (v_judge_debt : Int64) (v_judge_paid : Int64) (v_judge_shire : Int32) (v_judge_term : Int32) (v_judge_stack : (Nat → Int64)) (v_debt : Int64) (v_putOff : (Nat → Int64)), pRoll_splitDebt_b17 N a1 a2 v_D v_paid v_shire x3 x4 n9 x5 v_judge_debt v_judge_paid v_judge_shire v_judge_term v_judge_stack v_debt v_putOff = some (y_v_judge_debt, y_v_judge_paid, y_v_judge_shire, y_v_judge_term, y_v_judge_stack, y_v_debt, y_v_putOff) → zB C (0, 0) 17 [(0, .ref (C.X.1 + (58 + 7 * i0))), (1, va_rf (zq C.X a1)), (2, .int a2), (3, .ref (C.X.1 + 182 + x3)), (4, .int x4), (5, .int x5)] [] ((va_up I 46 (va_up (va_up (I 46) 1 v_judge_shire) 2 v_judge_term)), (va_up (va_up (va_up (va_up J (58 + 7 * i0 + 6) v_putOff) (58 + 7 * i0) (va_up (J (58 + 7 * i0)) 12 v_debt)) 46 (va_up (va_up (J 46) 3 v_judge_debt) 4 v_judge_paid)) 47 v_judge_stack), Rr, v_D) := by
  refine zlp8_ind (P := fun (x5 : Int32) (v_judge_debt : Int64) (v_judge_paid : Int64) (v_judge_shire : Int32) (v_judge_term : Int32) (v_judge_stack : (Nat → Int64)) (v_debt : Int64) (v_putOff : (Nat → Int64)) => zB C (0, 0) 17 [(0, .ref (C.X.1 + (58 + 7 * i0))), (1, va_rf (zq C.X a1)), (2, .int a2), (3, .ref (C.X.1 + 182 + x3)), (4, .int x4), (5, .int x5)] [] ((va_up I 46 (va_up (va_up (I 46) 1 v_judge_shire) 2 v_judge_term)), (va_up (va_up (va_up (va_up J (58 + 7 * i0 + 6) v_putOff) (58 + 7 * i0) (va_up (J (58 + 7 * i0)) 12 v_debt)) 46 (va_up (va_up (J 46) 3 v_judge_debt) 4 v_judge_paid)) 47 v_judge_stack), Rr, v_D)) (fun self ih => ?_)
  intro x5 v_judge_debt v_judge_paid v_judge_shire v_judge_term v_judge_stack v_debt v_putOff h
  refine zb_iload E dX8_splitDebt_17 5 rfl ?_
  refine zb_iload E dX8_splitDebt_19 4 rfl ?_
  refine zb_icmp_ge E dX8_splitDebt_21 (tgt := 186) rfl (fun hc => ?_) (fun hc => ?_)
  · have h := if_t h hc
    obtain ⟨rfl, rfl, rfl, rfl, rfl, rfl, rfl⟩ := zinj7 h
    exact zb_vret E hQ rfl ⟨Nat.zero_le _, Nat.zero_le _⟩ dX8_splitDebt_186
  · have h := if_f h hc
    refine zb_aload_n E dX8_splitDebt_24 3 rfl rfl ?_
    refine zb_iload E dX8_splitDebt_25 5 rfl ?_
    obtain ⟨d5, hb_d5, h⟩ := bd1_s h
    refine zb_drld E hb_d5 dX8_splitDebt_27 ?_
    refine zb_astoreQ E dX8_splitDebt_28 (by decide) (lv2 := [(6, va_rf (zq C.X d5)), (0, .ref (C.X.1 + (58 + 7 * i0))), (1, va_rf (zq C.X a1)), (2, .int a2), (3, .ref (C.X.1 + 182 + x3)), (4, .int x4), (5, .int x5)]) rfl ?_
    refine zb_aloadQ E dX8_splitDebt_30 0 rfl ?_
    obtain ⟨y6, hq_y6, h⟩ := bd1_s h
    refine zb_LS (lv2 := [(6, .ref (C.X.1 + 182 + y6)), (0, .ref (C.X.1 + (58 + 7 * i0))), (1, va_rf (zq C.X a1)), (2, .int a2), (3, .ref (C.X.1 + 182 + x3)), (4, .int x4), (5, .int x5)]) (st2 := [.ref (C.X.1 + 182 + y6)]) (by first | rfl | (rw [hq_y6]; rfl)) (by first | rfl | (rw [hq_y6]; rfl)) ?_
    obtain ⟨d7, hb_d7, h⟩ := bd1_s h
    obtain ⟨⟨hy_d7, hz_d7⟩, hv_d7⟩ := dGI_s hb_d7
    refine zb_dgetN E y6 hy_d7 (zDe_0 hz_d7) rfl zin9 0 (by decide) znw_19 (v := .int d7) (by exact congrArg (fun z => some (Value.int z)) hv_d7) dX8_splitDebt_32 ?_
    refine zb_iconst E dX8_splitDebt_35 (v := 4) rfl ?_
    refine zb_icmp_ne E dX8_splitDebt_36 (tgt := 180) rfl (fun hc => ?_) (fun hc => ?_)
    · have h := if_f h hc
      refine zb_iinc E dX8_splitDebt_180 6 rfl (v := (x5 + 1)) rfl (by decide) (lv2 := [(5, .int (x5 + 1)), (6, .ref (C.X.1 + 182 + y6)), (0, .ref (C.X.1 + (58 + 7 * i0))), (1, va_rf (zq C.X a1)), (2, .int a2), (3, .ref (C.X.1 + 182 + x3)), (4, .int x4)]) rfl ?_
      refine zb_goto E dX8_splitDebt_183 (tgt := 17) rfl ?_
      refine zb_sub [2, 3, 4, 5, 6, 0] rfl ?_
      exact ih (x5 + 1) v_judge_debt v_judge_paid v_judge_shire v_judge_term v_judge_stack v_debt v_putOff h
    · have h := if_t h hc
      refine zb_aload_n E dX8_splitDebt_39 1 rfl rfl ?_
      refine zb_getX E (58 + 7 * i0) (by omega) (zFr C.X hi0 hkn) rfl zin8 12 (by decide) zw_288 (zup_n (zneL0 (by decide : (46 : Nat) < 58))) ((zup_n (zneL0 (by decide : (47 : Nat) < 58))).trans ((zup_n (zneL0 (by decide : (46 : Nat) < 58))).trans zup_s)) (v := .long v_debt) rfl dX8_splitDebt_40 ?_
      refine zb_lconst E dX8_splitDebt_43 (v := 0) rfl ?_
      refine zb_lcmp E dX8_splitDebt_44 ?_
      refine zb_if_le E dX8_splitDebt_45 (tgt := 180) rfl (fun hc => ?_) (fun hc => ?_)
      · have h := if_t h hc
        refine zb_iinc E dX8_splitDebt_180 6 rfl (v := (x5 + 1)) rfl (by decide) (lv2 := [(5, .int (x5 + 1)), (6, .ref (C.X.1 + 182 + y6)), (0, .ref (C.X.1 + (58 + 7 * i0))), (1, va_rf (zq C.X a1)), (2, .int a2), (3, .ref (C.X.1 + 182 + x3)), (4, .int x4)]) rfl ?_
        refine zb_goto E dX8_splitDebt_183 (tgt := 17) rfl ?_
        refine zb_sub [2, 3, 4, 5, 6, 0] rfl ?_
        exact ih (x5 + 1) v_judge_debt v_judge_paid v_judge_shire v_judge_term v_judge_stack v_debt v_putOff h
      · have h := if_f h hc
        refine zb_aload E dX8_splitDebt_48 0 rfl ?_
        obtain ⟨d8, hb_d8, h⟩ := bd1_s h
        obtain ⟨⟨hy_d8, hz_d8⟩, hv_d8⟩ := dGI_s hb_d8
        refine zb_dgetN E y6 hy_d8 (zDe_0 hz_d8) rfl zin9 2 (by decide) znw_23 (v := .int d8) (by exact congrArg (fun z => some (Value.int z)) hv_d8) dX8_splitDebt_50 ?_
        refine zb_if_gt E dX8_splitDebt_53 (tgt := 59) rfl (fun hc => ?_) (fun hc => ?_)
        · have h := if_t h hc
          refine zb_aload_n E dX8_splitDebt_59 1 rfl rfl ?_
          refine zb_getX E (58 + 7 * i0) (by omega) (zFr C.X hi0 hkn) rfl zin8 3 (by decide) zw_279 (zup_n (zneL0 (by decide : (46 : Nat) < 58))) ((zup_n (zneL0 (by decide : (47 : Nat) < 58))).trans ((zup_n (zneL0 (by decide : (46 : Nat) < 58))).trans zup_s)) (v := .ref (C.X.1 + 46)) rfl dX8_splitDebt_60 ?_
          refine zb_aload_n E dX8_splitDebt_63 1 rfl rfl ?_
          refine zb_getX E (58 + 7 * i0) (by omega) (zFr C.X hi0 hkn) rfl zin8 10 (by decide) zw_286 (zup_n (zneL0 (by decide : (46 : Nat) < 58))) ((zup_n (zneL0 (by decide : (47 : Nat) < 58))).trans ((zup_n (zneL0 (by decide : (46 : Nat) < 58))).trans zup_s)) (v := .int v_shire) (by exact congrArg (fun z => some (Value.int z)) e_v_shire) dX8_splitDebt_64 ?_
          refine zb_iload_n E dX8_splitDebt_67 3 rfl rfl ?_
          refine zb_aload_n E dX8_splitDebt_68 1 rfl rfl ?_
          refine zb_getX E (58 + 7 * i0) (by omega) (zFr C.X hi0 hkn) rfl zin8 12 (by decide) zw_288 (zup_n (zneL0 (by decide : (46 : Nat) < 58))) ((zup_n (zneL0 (by decide : (47 : Nat) < 58))).trans ((zup_n (zneL0 (by decide : (46 : Nat) < 58))).trans zup_s)) (v := .long v_debt) rfl dX8_splitDebt_69 ?_
          refine zb_aload_n E dX8_splitDebt_72 1 rfl rfl ?_
          refine zb_getX E (58 + 7 * i0) (by omega) (zFr C.X hi0 hkn) rfl zin8 13 (by decide) zw_289 (zup_n (zneL0 (by decide : (46 : Nat) < 58))) ((zup_n (zneL0 (by decide : (47 : Nat) < 58))).trans ((zup_n (zneL0 (by decide : (46 : Nat) < 58))).trans zup_s)) (v := .long v_paid) (by exact congrArg (fun z => some (Value.long z)) e_v_paid) dX8_splitDebt_73 ?_
          obtain ⟨v_judge_debt_c9, v_judge_paid_c9, v_judge_shire_c9, v_judge_term_c9, hc_76, h⟩ := bd4_s h
          refine zb_cVv E [.int v_shire, .int a2, .long v_debt, .long v_paid] 46 zy_X4_setMoment zw_998 (by decide) (zF_46 _ _ _ _) rfl (c_X4_setMoment (va_up (va_up (I 46) 1 v_judge_shire) 2 v_judge_term) zup_s (va_up (va_up (J 46) 3 v_judge_debt) 4 v_judge_paid) ((zup_n (by decide : (46 : Nat) ≠ 47)).trans zup_s) v_judge_debt (zcf (f := ((va_up (va_up (va_up (va_up J (58 + 7 * i0 + 6) v_putOff) (58 + 7 * i0) (va_up (J (58 + 7 * i0)) 12 v_debt)) 46 (va_up (va_up (J 46) 3 v_judge_debt) 4 v_judge_paid)) 47 v_judge_stack) 46)) ((zup_n (by decide : (46 : Nat) ≠ 47)).trans zup_s) rfl) v_judge_paid (zcf (f := ((va_up (va_up (va_up (va_up J (58 + 7 * i0 + 6) v_putOff) (58 + 7 * i0) (va_up (J (58 + 7 * i0)) 12 v_debt)) 46 (va_up (va_up (J 46) 3 v_judge_debt) 4 v_judge_paid)) 47 v_judge_stack) 46)) ((zup_n (by decide : (46 : Nat) ≠ 47)).trans zup_s) rfl) v_judge_shire (zcf (f := ((va_up I 46 (va_up (va_up (I 46) 1 v_judge_shire) 2 v_judge_term)) 46)) zup_s rfl) v_judge_term (zcf (f := ((va_up I 46 (va_up (va_up (I 46) 1 v_judge_shire) 2 v_judge_term)) 46)) zup_s rfl) hc_76) (by decide) rfl rfl (by first | decide | simp [Value.category, zva_cat]) dX8_splitDebt_76 (cs2 := (0, 0)) rfl ?_
          refine zb_S (S2 := ((va_up I 46 (va_up (va_up (I 46) 1 v_judge_shire_c9) 2 v_judge_term_c9)), (va_up (va_up (va_up (va_up J (58 + 7 * i0 + 6) v_putOff) (58 + 7 * i0) (va_up (J (58 + 7 * i0)) 12 v_debt)) 46 (va_up (va_up (J 46) 3 v_judge_debt_c9) 4 v_judge_paid_c9)) 47 v_judge_stack), Rr, v_D)) (zS_eq3 ((zcgV ((zcgF (zn2 (by decide : (2 : Nat) ≠ 1))).trans zn1)).trans zn1) ((zcgV ((zcgF (zn2 (by decide : (4 : Nat) ≠ 3))).trans zn1)).trans (zn2 (by decide : (47 : Nat) ≠ 46))) rfl) ?_
          refine zb_aload_n E dX8_splitDebt_79 1 rfl rfl ?_
          refine zb_getX E (58 + 7 * i0) (by omega) (zFr C.X hi0 hkn) rfl zin8 3 (by decide) zw_279 (zup_n (zneL0 (by decide : (46 : Nat) < 58))) ((zup_n (zneL0 (by decide : (47 : Nat) < 58))).trans ((zup_n (zneL0 (by decide : (46 : Nat) < 58))).trans zup_s)) (v := .ref (C.X.1 + 46)) rfl dX8_splitDebt_80 ?_
          refine zb_aload_nQ E dX8_splitDebt_83 2 rfl rfl ?_
          obtain ⟨y10, hq_y10, h⟩ := bd1_s h
          refine zb_LS (lv2 := [(6, .ref (C.X.1 + 182 + y6)), (0, .ref (C.X.1 + (58 + 7 * i0))), (1, .ref (C.X.1 + 182 + y10)), (2, .int a2), (3, .ref (C.X.1 + 182 + x3)), (4, .int x4), (5, .int x5)]) (st2 := [.ref (C.X.1 + 182 + y10), .ref (C.X.1 + 46)]) (by first | rfl | (rw [hq_y10]; rfl)) (by first | rfl | (rw [hq_y10]; rfl)) ?_
          obtain ⟨d11, hb_d11, h⟩ := bd1_s h
          obtain ⟨⟨hy_d11, hz_d11⟩, hv_d11⟩ := dGR_s hb_d11
          refine zb_dgetN E y10 hy_d11 (zDe_1 hz_d11) rfl zin10 1 (by decide) znw_34 (v := va_rf (zq C.X d11)) (by exact congrArg (fun z => some (va_rf (zq C.X z))) hv_d11) dX8_splitDebt_84 ?_
          refine zb_aload E dX8_splitDebt_87 0 rfl ?_
          obtain ⟨d12, hb_d12, h⟩ := bd1_s h
          obtain ⟨⟨hy_d12, hz_d12⟩, hv_d12⟩ := dGI_s hb_d12
          refine zb_dgetN E y6 hy_d12 (zDe_0 hz_d12) rfl zin9 5 (by decide) znw_29 (v := .int d12) (by exact congrArg (fun z => some (Value.int z)) hv_d12) dX8_splitDebt_89 ?_
          refine zb_aload E dX8_splitDebt_92 0 rfl ?_
          obtain ⟨d13, hb_d13, h⟩ := bd1_s h
          obtain ⟨⟨hy_d13, hz_d13⟩, hv_d13⟩ := dGI_s hb_d13
          refine zb_dgetN E y6 hy_d13 (zDe_0 hz_d13) rfl zin9 6 (by decide) znw_31 (v := .int d13) (by exact congrArg (fun z => some (Value.int z)) hv_d13) dX8_splitDebt_94 ?_
          obtain ⟨rc14, v_judge_stack_c14, hc_97, h⟩ := bd2_s h
          refine zb_cVl E [va_rf (zq C.X d11), .int d12, .int d13] 46 zy_X4_valueOf zw_1010 (by decide) (zF_46 _ _ _ _) rfl (c_X4_valueOf v_judge_debt_c9 (zcf (f := ((va_up (va_up (va_up (va_up J (58 + 7 * i0 + 6) v_putOff) (58 + 7 * i0) (va_up (J (58 + 7 * i0)) 12 v_debt)) 46 (va_up (va_up (J 46) 3 v_judge_debt_c9) 4 v_judge_paid_c9)) 47 v_judge_stack) 46)) ((zup_n (by decide : (46 : Nat) ≠ 47)).trans zup_s) rfl) v_judge_paid_c9 (zcf (f := ((va_up (va_up (va_up (va_up J (58 + 7 * i0 + 6) v_putOff) (58 + 7 * i0) (va_up (J (58 + 7 * i0)) 12 v_debt)) 46 (va_up (va_up (J 46) 3 v_judge_debt_c9) 4 v_judge_paid_c9)) 47 v_judge_stack) 46)) ((zup_n (by decide : (46 : Nat) ≠ 47)).trans zup_s) rfl) v_judge_shire_c9 (zcf (f := ((va_up I 46 (va_up (va_up (I 46) 1 v_judge_shire_c9) 2 v_judge_term_c9)) 46)) zup_s rfl) v_judge_term_c9 (zcf (f := ((va_up I 46 (va_up (va_up (I 46) 1 v_judge_shire_c9) 2 v_judge_term_c9)) 46)) zup_s rfl) v_judge_stack zup_s hc_97) (by decide) rfl rfl (by first | decide | simp [Value.category, zva_cat]) dX8_splitDebt_97 (cs2 := (0, 0)) rfl ?_
          refine zb_S (S2 := ((va_up I 46 (va_up (va_up (I 46) 1 v_judge_shire_c9) 2 v_judge_term_c9)), (va_up (va_up (va_up (va_up J (58 + 7 * i0 + 6) v_putOff) (58 + 7 * i0) (va_up (J (58 + 7 * i0)) 12 v_debt)) 46 (va_up (va_up (J 46) 3 v_judge_debt_c9) 4 v_judge_paid_c9)) 47 v_judge_stack_c14), Rr, v_D)) (zS_eq3 rfl zn1 rfl) ?_
          refine zb_lconst E dX8_splitDebt_100 (v := 0) rfl ?_
          refine zb_lcmp E dX8_splitDebt_101 ?_
          refine zb_if_eq E dX8_splitDebt_102 (tgt := 180) rfl (fun hc => ?_) (fun hc => ?_)
          · have h := if_t h hc
            refine zb_iinc E dX8_splitDebt_180 6 rfl (v := (x5 + 1)) rfl (by decide) (lv2 := [(5, .int (x5 + 1)), (6, .ref (C.X.1 + 182 + y6)), (0, .ref (C.X.1 + (58 + 7 * i0))), (1, .ref (C.X.1 + 182 + y10)), (2, .int a2), (3, .ref (C.X.1 + 182 + x3)), (4, .int x4)]) rfl ?_
            refine zb_goto E dX8_splitDebt_183 (tgt := 17) rfl ?_
            refine zb_sub [2, 3, 4, 5, 6, 0] rfl ?_
            refine zb_LS (lv2 := [(0, .ref (C.X.1 + (58 + 7 * i0))), (1, va_rf (zq C.X a1)), (2, .int a2), (3, .ref (C.X.1 + 182 + x3)), (4, .int x4), (5, .int (x5 + 1))]) (by first | (rw [hq_y10]; done) | (rw [hq_y10]; rfl)) rfl ?_
            exact ih (x5 + 1) v_judge_debt_c9 v_judge_paid_c9 v_judge_shire_c9 v_judge_term_c9 v_judge_stack_c14 v_debt v_putOff h
          · have h := if_f h hc
            refine zb_aload E dX8_splitDebt_105 0 rfl ?_
            obtain ⟨d15, hb_d15, h⟩ := bd1_s h
            obtain ⟨⟨hy_d15, hz_d15⟩, hv_d15⟩ := dGI_s hb_d15
            refine zb_dgetN E y6 hy_d15 (zDe_0 hz_d15) rfl zin9 2 (by decide) znw_23 (v := .int d15) (by exact congrArg (fun z => some (Value.int z)) hv_d15) dX8_splitDebt_107 ?_
            refine zb_iconst E dX8_splitDebt_110 (v := 1) rfl ?_
            refine zb_isub E dX8_splitDebt_111 ?_
            refine zb_bipush E dX8_splitDebt_112 (v := 19) rfl ?_
            refine zb_mmin E zYm_mmin zw_1060 (by decide) (by first | decide | simp [Value.category, zva_cat]) dX8_splitDebt_114 ?_
            refine zb_istore E dX8_splitDebt_117 (by decide) (lv2 := [(7, .int (m_min (d15 - 1) 19)), (6, .ref (C.X.1 + 182 + y6)), (0, .ref (C.X.1 + (58 + 7 * i0))), (1, .ref (C.X.1 + 182 + y10)), (2, .int a2), (3, .ref (C.X.1 + 182 + x3)), (4, .int x4), (5, .int x5)]) rfl ?_
            refine zb_aload_n E dX8_splitDebt_119 2 rfl rfl ?_
            refine zb_getX E (58 + 7 * i0) (by omega) (zFr C.X hi0 hkn) rfl zin8 12 (by decide) zw_288 (zup_n (zneL0 (by decide : (46 : Nat) < 58))) ((zup_n (zneL0 (by decide : (47 : Nat) < 58))).trans ((zup_n (zneL0 (by decide : (46 : Nat) < 58))).trans zup_s)) (v := .long v_debt) rfl dX8_splitDebt_120 ?_
            refine zb_aload E dX8_splitDebt_123 1 rfl ?_
            obtain ⟨d16, hb_d16, h⟩ := bd1_s h
            obtain ⟨⟨hy_d16, hz_d16⟩, hv_d16⟩ := dGI_s hb_d16
            refine zb_dgetN E y6 hy_d16 (zDe_0 hz_d16) rfl zin9 2 (by decide) znw_23 (v := .int d16) (by exact congrArg (fun z => some (Value.int z)) hv_d16) dX8_splitDebt_125 ?_
            refine zb_i2l E dX8_splitDebt_128 ?_
            obtain ⟨g17, h⟩ := gd_s h
            refine zb_ldiv E dX8_splitDebt_129 (nz_l g17) ?_
            refine zb_lstore E dX8_splitDebt_130 (by decide) (lv2 := [(8, .long (v_debt / (i2l d16))), (7, .int (m_min (d15 - 1) 19)), (6, .ref (C.X.1 + 182 + y6)), (0, .ref (C.X.1 + (58 + 7 * i0))), (1, .ref (C.X.1 + 182 + y10)), (2, .int a2), (3, .ref (C.X.1 + 182 + x3)), (4, .int x4), (5, .int x5)]) rfl ?_
            refine zb_iconst E dX8_splitDebt_132 (v := 0) rfl ?_
            refine zb_istore E dX8_splitDebt_133 (by decide) (lv2 := [(10, .int 0), (8, .long (v_debt / (i2l d16))), (7, .int (m_min (d15 - 1) 19)), (6, .ref (C.X.1 + 182 + y6)), (0, .ref (C.X.1 + (58 + 7 * i0))), (1, .ref (C.X.1 + 182 + y10)), (2, .int a2), (3, .ref (C.X.1 + 182 + x3)), (4, .int x4), (5, .int x5)]) rfl ?_
            refine zb_sub [4, 5, 6, 7, 8, 9, 2, 1, 0] rfl ?_
            refine zb_LS (lv2 := [(0, .ref (C.X.1 + (58 + 7 * i0))), (1, va_rf (zq C.X a1)), (2, .int a2), (3, .ref (C.X.1 + 182 + x3)), (4, .int x4), (5, .int x5), (7, .int (m_min (d15 - 1) 19)), (8, .long (v_debt / (i2l d16))), (10, .int 0)]) (by first | (rw [hq_y10]; done) | (rw [hq_y10]; rfl)) rfl ?_
            exact c_X8_splitDebt_b135 i0 hi0 kn hkn N a1 a2 v_paid e_v_paid v_shire e_v_shire y_v_judge_debt y_v_judge_paid y_v_judge_shire y_v_judge_term y_v_judge_stack y_v_debt y_v_putOff E hQ x3 x4 x5 (m_min (d15 - 1) 19) (v_debt / (i2l d16)) v_judge_debt_c9 v_judge_paid_c9 v_judge_shire_c9 v_judge_term_c9 v_judge_stack_c14 v_debt _ (fun v_putOff_z1 h => c_X8_splitDebt_b165 i0 hi0 kn hkn N a1 a2 v_paid e_v_paid v_shire e_v_shire y_v_judge_debt y_v_judge_paid y_v_judge_shire y_v_judge_term y_v_judge_stack y_v_debt y_v_putOff E hQ x3 x4 x5 (m_min (d15 - 1) 19) (v_debt / (i2l d16)) v_judge_debt_c9 v_judge_paid_c9 v_judge_shire_c9 v_judge_term_c9 v_judge_stack_c14 v_debt v_putOff_z1 self ih h) _ 0 v_putOff h
        · have h := if_f h hc
          refine zb_goto E dX8_splitDebt_56 (tgt := 180) rfl ?_
          refine zb_iinc E dX8_splitDebt_180 6 rfl (v := (x5 + 1)) rfl (by decide) (lv2 := [(5, .int (x5 + 1)), (6, .ref (C.X.1 + 182 + y6)), (0, .ref (C.X.1 + (58 + 7 * i0))), (1, va_rf (zq C.X a1)), (2, .int a2), (3, .ref (C.X.1 + 182 + x3)), (4, .int x4)]) rfl ?_
          refine zb_goto E dX8_splitDebt_183 (tgt := 17) rfl ?_
          refine zb_sub [2, 3, 4, 5, 6, 0] rfl ?_
          exact ih (x5 + 1) v_judge_debt v_judge_paid v_judge_shire v_judge_term v_judge_stack v_debt v_putOff h
theorem c_X8_splitDebt_0 {C : zC} {I : Nat → Nat → Int32} {J : Nat → Nat → Int64} {Rr : Nat → Nat → Option Nat} {v_D : zD} (i0 : Nat) (hi0 : i0 < 10) (kn : Nat) (hkn : (i0 < 8 ∧ kn = 48) ∨ (8 ≤ i0 ∧ kn = 53)) (N : Nat) (a1 : (Option Nat)) (a2 : Int32) (v_paid : Int64) (e_v_paid : J (58 + 7 * i0) 13 = v_paid) (v_shire : Int32) (e_v_shire : I (58 + 7 * i0) 10 = v_shire) (y_v_judge_debt : Int64) (y_v_judge_paid : Int64) (y_v_judge_shire : Int32) (y_v_judge_term : Int32) (y_v_judge_stack : (Nat → Int64)) (y_v_debt : Int64) (y_v_putOff : (Nat → Int64)) (E : zE C RX8 cX8_splitDebt 11 none ({ frames := 3, cells := 0, slots := 0, locals := 81 } : Room)) (hQ : C.Q = zQv C ({ frames := 3, cells := 0, slots := 0, locals := 81 } : Room) ((va_up I 46 (va_up (va_up (I 46) 1 y_v_judge_shire) 2 y_v_judge_term)), (va_up (va_up (va_up (va_up J (58 + 7 * i0 + 6) y_v_putOff) (58 + 7 * i0) (va_up (J (58 + 7 * i0)) 12 y_v_debt)) 46 (va_up (va_up (J 46) 3 y_v_judge_debt) 4 y_v_judge_paid)) 47 y_v_judge_stack), Rr, v_D)) (v_judge_debt : Int64) (v_judge_paid : Int64) (v_judge_shire : Int32) (v_judge_term : Int32) (v_judge_stack : (Nat → Int64)) (v_debt : Int64) (v_putOff : (Nat → Int64)) (h : pRoll_splitDebt N a1 a2 v_D v_judge_debt v_judge_paid v_judge_shire v_judge_term v_judge_stack v_debt v_paid v_shire v_putOff = some (y_v_judge_debt, y_v_judge_paid, y_v_judge_shire, y_v_judge_term, y_v_judge_stack, y_v_debt, y_v_putOff)) : zB C (0, 0) 0 [(0, .ref (C.X.1 + (58 + 7 * i0))), (1, va_rf (zq C.X a1)), (2, .int a2)] [] ((va_up I 46 (va_up (va_up (I 46) 1 v_judge_shire) 2 v_judge_term)), (va_up (va_up (va_up (va_up J (58 + 7 * i0 + 6) v_putOff) (58 + 7 * i0) (va_up (J (58 + 7 * i0)) 12 v_debt)) 46 (va_up (va_up (J 46) 3 v_judge_debt) 4 v_judge_paid)) 47 v_judge_stack), Rr, v_D) := by
  refine zb_aload_nQ E dX8_splitDebt_0 1 rfl rfl ?_
  rcases opn_s h with ⟨hq_y1, h⟩ | ⟨y1, hq_y1, h⟩
  · refine zb_LS (lv2 := [(0, .ref (C.X.1 + (58 + 7 * i0))), (1, .null), (2, .int a2)]) (st2 := [.null]) (by first | rfl | (rw [hq_y1]; rfl)) (by first | rfl | (rw [hq_y1]; rfl)) ?_
    refine zb_ifnonnullN E dX8_splitDebt_1 ?_
    obtain ⟨rfl, rfl, rfl, rfl, rfl, rfl, rfl⟩ := zinj7 h
    exact zb_vret E hQ rfl ⟨Nat.zero_le _, Nat.zero_le _⟩ dX8_splitDebt_4
  · refine zb_LS (lv2 := [(0, .ref (C.X.1 + (58 + 7 * i0))), (1, .ref (C.X.1 + 182 + y1)), (2, .int a2)]) (st2 := [.ref (C.X.1 + 182 + y1)]) (by first | rfl | (rw [hq_y1]; rfl)) (by first | rfl | (rw [hq_y1]; rfl)) ?_
    refine zb_ifnonnullS E dX8_splitDebt_1 (tgt := 5) rfl ?_
    refine zb_aload_n E dX8_splitDebt_5 1 rfl rfl ?_
    obtain ⟨d2, hb_d2, h⟩ := bd1_s h
    obtain ⟨⟨hy_d2, hz_d2⟩, hv_d2⟩ := dGR_s hb_d2
    refine zb_dgetN E y1 hy_d2 (zDe_1 hz_d2) rfl zin10 0 (by decide) znw_33 (v := va_rf (zq C.X d2)) (by exact congrArg (fun z => some (va_rf (zq C.X z))) hv_d2) dX8_splitDebt_6 ?_
    refine zb_astore_nQ E dX8_splitDebt_9 rfl (by decide) (lv2 := [(3, va_rf (zq C.X d2)), (0, .ref (C.X.1 + (58 + 7 * i0))), (1, .ref (C.X.1 + 182 + y1)), (2, .int a2)]) rfl ?_
    refine zb_aload_nQ E dX8_splitDebt_10 0 rfl rfl ?_
    obtain ⟨y3, hq_y3, h⟩ := bd1_s h
    refine zb_LS (lv2 := [(3, .ref (C.X.1 + 182 + y3)), (0, .ref (C.X.1 + (58 + 7 * i0))), (1, .ref (C.X.1 + 182 + y1)), (2, .int a2)]) (st2 := [.ref (C.X.1 + 182 + y3)]) (by first | rfl | (rw [hq_y3]; rfl)) (by first | rfl | (rw [hq_y3]; rfl)) ?_
    obtain ⟨n4, hb_n4, h⟩ := bd1_s h
    refine zb_dlenR E hb_n4 dX8_splitDebt_11 ?_
    refine zb_istore E dX8_splitDebt_12 (by decide) (lv2 := [(4, .int (Int32.ofNat n4)), (3, .ref (C.X.1 + 182 + y3)), (0, .ref (C.X.1 + (58 + 7 * i0))), (1, .ref (C.X.1 + 182 + y1)), (2, .int a2)]) rfl ?_
    refine zb_iconst E dX8_splitDebt_14 (v := 0) rfl ?_
    refine zb_istore E dX8_splitDebt_15 (by decide) (lv2 := [(5, .int 0), (4, .int (Int32.ofNat n4)), (3, .ref (C.X.1 + 182 + y3)), (0, .ref (C.X.1 + (58 + 7 * i0))), (1, .ref (C.X.1 + 182 + y1)), (2, .int a2)]) rfl ?_
    refine zb_sub [3, 4, 5, 2, 1, 0] rfl ?_
    refine zb_LS (lv2 := [(0, .ref (C.X.1 + (58 + 7 * i0))), (1, va_rf (zq C.X a1)), (2, .int a2), (3, .ref (C.X.1 + 182 + y3)), (4, .int (Int32.ofNat n4)), (5, .int 0)]) (by first | (rw [hq_y1]; done) | (rw [hq_y1]; rfl)) rfl ?_
    exact c_X8_splitDebt_b17 i0 hi0 kn hkn N a1 a2 v_paid e_v_paid v_shire e_v_shire y_v_judge_debt y_v_judge_paid y_v_judge_shire y_v_judge_term y_v_judge_stack y_v_debt y_v_putOff E hQ y3 (Int32.ofNat n4) _ 0 v_judge_debt v_judge_paid v_judge_shire v_judge_term v_judge_stack v_debt v_putOff h
theorem c_X8_splitDebt {l : Launch} {X : zX} {I : Nat → Nat → Int32} {J : Nat → Nat → Int64} {Rr : Nat → Nat → Option Nat} {v_D : zD} (i0 : Nat) (hi0 : i0 < 10) (kn : Nat) (hkn : (i0 < 8 ∧ kn = 48) ∨ (8 ≤ i0 ∧ kn = 53)) {N : Nat} {a1 : (Option Nat)} {a2 : Int32} (oI46 : Nat → Int32) (eoI46 : I 46 = oI46) (oJ58_7_i0 : Nat → Int64) (eoJ58_7_i0 : J (58 + 7 * i0) = oJ58_7_i0) (oJ46 : Nat → Int64) (eoJ46 : J 46 = oJ46) (v_paid : Int64) (e_v_paid : J (58 + 7 * i0) 13 = v_paid) (v_shire : Int32) (e_v_shire : I (58 + 7 * i0) 10 = v_shire) (v_judge_debt : Int64) (e_v_judge_debt : J 46 3 = v_judge_debt) (v_judge_paid : Int64) (e_v_judge_paid : J 46 4 = v_judge_paid) (v_judge_shire : Int32) (e_v_judge_shire : I 46 1 = v_judge_shire) (v_judge_term : Int32) (e_v_judge_term : I 46 2 = v_judge_term) (v_judge_stack : (Nat → Int64)) (e_v_judge_stack : J 47 = v_judge_stack) (v_debt : Int64) (e_v_debt : J (58 + 7 * i0) 12 = v_debt) (v_putOff : (Nat → Int64)) (e_v_putOff : J (58 + 7 * i0 + 6) = v_putOff) {y_v_judge_debt : Int64} {y_v_judge_paid : Int64} {y_v_judge_shire : Int32} {y_v_judge_term : Int32} {y_v_judge_stack : (Nat → Int64)} {y_v_debt : Int64} {y_v_putOff : (Nat → Int64)} (h : pRoll_splitDebt N a1 a2 v_D v_judge_debt v_judge_paid v_judge_shire v_judge_term v_judge_stack v_debt v_paid v_shire v_putOff = some (y_v_judge_debt, y_v_judge_paid, y_v_judge_shire, y_v_judge_term, y_v_judge_stack, y_v_debt, y_v_putOff)) : zMv l yX8_splitDebt cX8_splitDebt 11 none ({ frames := 3, cells := 0, slots := 0, locals := 81 } : Room) X [.ref (X.1 + (58 + 7 * i0)), va_rf (zq X a1), .int a2] (I, J, Rr, v_D) ((va_up I 46 (va_up (va_up oI46 1 y_v_judge_shire) 2 y_v_judge_term)), (va_up (va_up (va_up (va_up J (58 + 7 * i0 + 6) y_v_putOff) (58 + 7 * i0) (va_up oJ58_7_i0 12 y_v_debt)) 46 (va_up (va_up oJ46 3 y_v_judge_debt) 4 y_v_judge_paid)) 47 y_v_judge_stack), Rr, v_D) := by
  subst eoI46
  subst eoJ58_7_i0
  subst eoJ46
  refine zMv.of (by decide) (by generalize zq X a1 = z9; cases z9 <;> exact Nat.le_of_ble_eq_true rfl) (fun C E hl hX hQ => ?_)
  subst hl
  subst hX
  refine zb_LS (lv2 := [(0, .ref (C.X.1 + (58 + 7 * i0))), (1, va_rf (zq C.X a1)), (2, .int a2)]) (by generalize zq C.X a1 = z9; cases z9 <;> rfl) rfl ?_
  have eI0 : (va_up I 46 (va_up (va_up (I 46) 1 v_judge_shire) 2 v_judge_term)) = I := by rw [zup_idE e_v_judge_shire, zup_idE e_v_judge_term, zup_id]
  have eJ0 : (va_up (va_up (va_up (va_up J (58 + 7 * i0 + 6) v_putOff) (58 + 7 * i0) (va_up (J (58 + 7 * i0)) 12 v_debt)) 46 (va_up (va_up (J 46) 3 v_judge_debt) 4 v_judge_paid)) 47 v_judge_stack) = J := by rw [zup_idE e_v_putOff, zup_idE e_v_debt, zup_id, zup_idE e_v_judge_debt, zup_idE e_v_judge_paid, zup_id, zup_idE e_v_judge_stack]
  refine zb_S (S2 := ((va_up I 46 (va_up (va_up (I 46) 1 v_judge_shire) 2 v_judge_term)), (va_up (va_up (va_up (va_up J (58 + 7 * i0 + 6) v_putOff) (58 + 7 * i0) (va_up (J (58 + 7 * i0)) 12 v_debt)) 46 (va_up (va_up (J 46) 3 v_judge_debt) 4 v_judge_paid)) 47 v_judge_stack), Rr, v_D)) (zS_eq eI0.symm eJ0.symm) ?_
  exact c_X8_splitDebt_0 i0 hi0 kn hkn N a1 a2 v_paid e_v_paid v_shire e_v_shire y_v_judge_debt y_v_judge_paid y_v_judge_shire y_v_judge_term y_v_judge_stack y_v_debt y_v_putOff E hQ v_judge_debt v_judge_paid v_judge_shire v_judge_term v_judge_stack v_debt v_putOff h
-- ChequeredCloth$Roll.goTo
theorem dX8_goTo_0 : decode cX8_goTo 0 = .ok (.aload_n 0, 1) := by decide +kernel
theorem dX8_goTo_1 : decode cX8_goTo 1 = .ok (.getfield 50, 3) := by decide +kernel
theorem dX8_goTo_4 : decode cX8_goTo 4 = .ok (.istore_n 2, 1) := by decide +kernel
theorem dX8_goTo_5 : decode cX8_goTo 5 = .ok (.iload_n 2, 1) := by decide +kernel
theorem dX8_goTo_6 : decode cX8_goTo 6 = .ok (.iload_n 1, 1) := by decide +kernel
theorem dX8_goTo_7 : decode cX8_goTo 7 = .ok (.if_icmp .gt 116, 3) := by decide +kernel
theorem dX8_goTo_10 : decode cX8_goTo 10 = .ok (.iload_n 2, 1) := by decide +kernel
theorem dX8_goTo_11 : decode cX8_goTo 11 = .ok (.bipush 40, 2) := by decide +kernel
theorem dX8_goTo_13 : decode cX8_goTo 13 = .ok (.if_icmp .ge 110, 3) := by decide +kernel
theorem dX8_goTo_16 : decode cX8_goTo 16 = .ok (.aload_n 0, 1) := by decide +kernel
theorem dX8_goTo_17 : decode cX8_goTo 17 = .ok (.getfield 38, 3) := by decide +kernel
theorem dX8_goTo_20 : decode cX8_goTo 20 = .ok (.iload_n 2, 1) := by decide +kernel
theorem dX8_goTo_21 : decode cX8_goTo 21 = .ok (.invokevirtual 68, 3) := by decide +kernel
theorem dX8_goTo_24 : decode cX8_goTo 24 = .ok (.astore_n 3, 1) := by decide +kernel
theorem dX8_goTo_25 : decode cX8_goTo 25 = .ok (.aload_n 0, 1) := by decide +kernel
theorem dX8_goTo_26 : decode cX8_goTo 26 = .ok (.lconst 0, 1) := by decide +kernel
theorem dX8_goTo_27 : decode cX8_goTo 27 = .ok (.putfield 74, 3) := by decide +kernel
theorem dX8_goTo_30 : decode cX8_goTo 30 = .ok (.aload_n 0, 1) := by decide +kernel
theorem dX8_goTo_31 : decode cX8_goTo 31 = .ok (.iconst 0, 1) := by decide +kernel
theorem dX8_goTo_32 : decode cX8_goTo 32 = .ok (.putfield 78, 3) := by decide +kernel
theorem dX8_goTo_35 : decode cX8_goTo 35 = .ok (.aload_n 0, 1) := by decide +kernel
theorem dX8_goTo_36 : decode cX8_goTo 36 = .ok (.iload_n 2, 1) := by decide +kernel
theorem dX8_goTo_37 : decode cX8_goTo 37 = .ok (.invokevirtual 82, 3) := by decide +kernel
theorem dX8_goTo_40 : decode cX8_goTo 40 = .ok (.aload_n 0, 1) := by decide +kernel
theorem dX8_goTo_41 : decode cX8_goTo 41 = .ok (.getfield 15, 3) := by decide +kernel
theorem dX8_goTo_44 : decode cX8_goTo 44 = .ok (.iload_n 2, 1) := by decide +kernel
theorem dX8_goTo_45 : decode cX8_goTo 45 = .ok (.aload_n 0, 1) := by decide +kernel
theorem dX8_goTo_46 : decode cX8_goTo 46 = .ok (.aload_n 3, 1) := by decide +kernel
theorem dX8_goTo_47 : decode cX8_goTo 47 = .ok (.iload_n 2, 1) := by decide +kernel
theorem dX8_goTo_48 : decode cX8_goTo 48 = .ok (.iconst 1, 1) := by decide +kernel
theorem dX8_goTo_49 : decode cX8_goTo 49 = .ok (.invokevirtual 88, 3) := by decide +kernel
theorem dX8_goTo_52 : decode cX8_goTo 52 = .ok (.lastore, 1) := by decide +kernel
theorem dX8_goTo_53 : decode cX8_goTo 53 = .ok (.aload_n 0, 1) := by decide +kernel
theorem dX8_goTo_54 : decode cX8_goTo 54 = .ok (.getfield 18, 3) := by decide +kernel
theorem dX8_goTo_57 : decode cX8_goTo 57 = .ok (.iload_n 2, 1) := by decide +kernel
theorem dX8_goTo_58 : decode cX8_goTo 58 = .ok (.aload_n 0, 1) := by decide +kernel
theorem dX8_goTo_59 : decode cX8_goTo 59 = .ok (.aload_n 3, 1) := by decide +kernel
theorem dX8_goTo_60 : decode cX8_goTo 60 = .ok (.iload_n 2, 1) := by decide +kernel
theorem dX8_goTo_61 : decode cX8_goTo 61 = .ok (.iconst 2, 1) := by decide +kernel
theorem dX8_goTo_62 : decode cX8_goTo 62 = .ok (.invokevirtual 88, 3) := by decide +kernel
theorem dX8_goTo_65 : decode cX8_goTo 65 = .ok (.lastore, 1) := by decide +kernel
theorem dX8_goTo_66 : decode cX8_goTo 66 = .ok (.aload_n 0, 1) := by decide +kernel
theorem dX8_goTo_67 : decode cX8_goTo 67 = .ok (.getfield 21, 3) := by decide +kernel
theorem dX8_goTo_70 : decode cX8_goTo 70 = .ok (.iload_n 2, 1) := by decide +kernel
theorem dX8_goTo_71 : decode cX8_goTo 71 = .ok (.aload_n 0, 1) := by decide +kernel
theorem dX8_goTo_72 : decode cX8_goTo 72 = .ok (.aload_n 3, 1) := by decide +kernel
theorem dX8_goTo_73 : decode cX8_goTo 73 = .ok (.iload_n 2, 1) := by decide +kernel
theorem dX8_goTo_74 : decode cX8_goTo 74 = .ok (.iconst 3, 1) := by decide +kernel
theorem dX8_goTo_75 : decode cX8_goTo 75 = .ok (.invokevirtual 88, 3) := by decide +kernel
theorem dX8_goTo_78 : decode cX8_goTo 78 = .ok (.lastore, 1) := by decide +kernel
theorem dX8_goTo_79 : decode cX8_goTo 79 = .ok (.aload_n 0, 1) := by decide +kernel
theorem dX8_goTo_80 : decode cX8_goTo 80 = .ok (.iload_n 2, 1) := by decide +kernel
theorem dX8_goTo_81 : decode cX8_goTo 81 = .ok (.invokevirtual 92, 3) := by decide +kernel
theorem dX8_goTo_84 : decode cX8_goTo 84 = .ok (.aload_n 0, 1) := by decide +kernel
theorem dX8_goTo_85 : decode cX8_goTo 85 = .ok (.getfield 24, 3) := by decide +kernel
theorem dX8_goTo_88 : decode cX8_goTo 88 = .ok (.iload_n 2, 1) := by decide +kernel
theorem dX8_goTo_89 : decode cX8_goTo 89 = .ok (.aload_n 0, 1) := by decide +kernel
theorem dX8_goTo_90 : decode cX8_goTo 90 = .ok (.getfield 74, 3) := by decide +kernel
theorem dX8_goTo_93 : decode cX8_goTo 93 = .ok (.lastore, 1) := by decide +kernel
theorem dX8_goTo_94 : decode cX8_goTo 94 = .ok (.aload_n 0, 1) := by decide +kernel
theorem dX8_goTo_95 : decode cX8_goTo 95 = .ok (.aload_n 3, 1) := by decide +kernel
theorem dX8_goTo_96 : decode cX8_goTo 96 = .ok (.iload_n 2, 1) := by decide +kernel
theorem dX8_goTo_97 : decode cX8_goTo 97 = .ok (.invokevirtual 95, 3) := by decide +kernel
theorem dX8_goTo_100 : decode cX8_goTo 100 = .ok (.aload_n 0, 1) := by decide +kernel
theorem dX8_goTo_101 : decode cX8_goTo 101 = .ok (.getfield 9, 3) := by decide +kernel
theorem dX8_goTo_104 : decode cX8_goTo 104 = .ok (.iload_n 2, 1) := by decide +kernel
theorem dX8_goTo_105 : decode cX8_goTo 105 = .ok (.aload_n 0, 1) := by decide +kernel
theorem dX8_goTo_106 : decode cX8_goTo 106 = .ok (.getfield 99, 3) := by decide +kernel
theorem dX8_goTo_109 : decode cX8_goTo 109 = .ok (.lastore, 1) := by decide +kernel
theorem dX8_goTo_110 : decode cX8_goTo 110 = .ok (.aload_n 0, 1) := by decide +kernel
theorem dX8_goTo_111 : decode cX8_goTo 111 = .ok (.iload_n 2, 1) := by decide +kernel
theorem dX8_goTo_112 : decode cX8_goTo 112 = .ok (.iconst 1, 1) := by decide +kernel
theorem dX8_goTo_113 : decode cX8_goTo 113 = .ok (.iadd, 1) := by decide +kernel
theorem dX8_goTo_114 : decode cX8_goTo 114 = .ok (.putfield 50, 3) := by decide +kernel
theorem dX8_goTo_117 : decode cX8_goTo 117 = .ok (.iinc 2 1, 3) := by decide +kernel
theorem dX8_goTo_120 : decode cX8_goTo 120 = .ok (.goto (-115), 3) := by decide +kernel
theorem dX8_goTo_123 : decode cX8_goTo 123 = .ok (.return_, 1) := by decide +kernel
theorem zy_X8_goTo : zYv yX8_goTo cX8_goTo 4 none 1 := ⟨zw_985, zw_986, zw_11, zw_987, by decide, by decide, by decide⟩
theorem c_X8_goTo_b5 {C : zC} {I : Nat → Nat → Int32} {J : Nat → Nat → Int64} {Rr : Nat → Nat → Option Nat} {v_D : zD} (i0 : Nat) (hi0 : i0 < 10) (kn : Nat) (hkn : (i0 < 8 ∧ kn = 48) ∨ (8 ≤ i0 ∧ kn = 53)) (N : Nat) (a1 : Int32) (v_acts_count : Int32) (e_v_acts_count : I 37 6 = v_acts_count) (v_acts_amounts : (Nat → Int32)) (e_v_acts_amounts : I 41 = v_acts_amounts) (v_acts_kinds : (Nat → Int32)) (e_v_acts_kinds : I 38 = v_acts_kinds) (v_acts_shires : (Nat → Int32)) (e_v_acts_shires : I 39 = v_acts_shires) (v_acts_writs : (Nat → Option Nat)) (e_v_acts_writs : Rr 43 = v_acts_writs) (v_chest_goodWorths : (Nat → Int32)) (e_v_chest_goodWorths : I 12 = v_chest_goodWorths) (v_known_fires : (Nat → Int32)) (e_v_known_fires : I (kn + 2) = v_known_fires) (v_known_firstPayments : (Nat → Int32)) (e_v_known_firstPayments : I (kn + 3) = v_known_firstPayments) (v_known_nextPayments : (Nat → Int32)) (e_v_known_nextPayments : I (kn + 4) = v_known_nextPayments) (v_known_writs : (Nat → Int32)) (e_v_known_writs : I (kn + 1) = v_known_writs) (v_shire : Int32) (e_v_shire : I (58 + 7 * i0) 10 = v_shire) (y_v_judge_debt : Int64) (y_v_judge_paid : Int64) (y_v_judge_shire : Int32) (y_v_judge_term : Int32) (y_v_judge_stack : (Nat → Int64)) (y_v_blanched : Int32) (y_v_debt : Int64) (y_v_paid : Int64) (y_v_told : Int32) (y_v_allowances : (Nat → Int64)) (y_v_debts : (Nat → Int64)) (y_v_farms : (Nat → Int64)) (y_v_pardons : (Nat → Int64)) (y_v_payments : (Nat → Int64)) (y_v_putOff : (Nat → Int64)) (E : zE C RX8 cX8_goTo 4 none ({ frames := 4, cells := 0, slots := 0, locals := 112 } : Room)) (hQ : C.Q = zQv C ({ frames := 4, cells := 0, slots := 0, locals := 112 } : Room) ((va_up (va_up I (58 + 7 * i0) (va_up (va_up (I (58 + 7 * i0)) 11 y_v_told) 14 y_v_blanched)) 46 (va_up (va_up (I 46) 1 y_v_judge_shire) 2 y_v_judge_term)), (va_up (va_up (va_up (va_up (va_up (va_up (va_up (va_up (va_up J (58 + 7 * i0 + 1) y_v_debts) (58 + 7 * i0 + 2) y_v_farms) (58 + 7 * i0 + 3) y_v_allowances) (58 + 7 * i0 + 4) y_v_pardons) (58 + 7 * i0 + 5) y_v_payments) (58 + 7 * i0 + 6) y_v_putOff) (58 + 7 * i0) (va_up (va_up (J (58 + 7 * i0)) 12 y_v_debt) 13 y_v_paid)) 46 (va_up (va_up (J 46) 3 y_v_judge_debt) 4 y_v_judge_paid)) 47 y_v_judge_stack), Rr, v_D))  : ∀ (n9 : Nat) (x2 : Int32) (v_judge_debt : Int64) (v_judge_paid : Int64) (v_judge_shire : Int32) (v_judge_term : Int32) (v_judge_stack : (Nat → Int64)) (v_blanched : Int32) (v_debt : Int64) (v_paid : Int64) (v_told : Int32) (v_allowances : (Nat → Int64)) (v_debts : (Nat → Int64)) (v_farms : (Nat → Int64)) (v_pardons : (Nat → Int64)) (v_payments : (Nat → Int64)) (v_putOff : (Nat → Int64)), pRoll_goTo_b5 N a1 v_acts_count v_acts_amounts v_acts_kinds v_acts_shires v_acts_writs v_chest_goodWorths v_D v_known_fires v_known_firstPayments v_known_nextPayments v_known_writs v_shire n9 x2 v_judge_debt v_judge_paid v_judge_shire v_judge_term v_judge_stack v_blanched v_debt v_paid v_told v_allowances v_debts v_farms v_pardons v_payments v_putOff = some (y_v_judge_debt, y_v_judge_paid, y_v_judge_shire, y_v_judge_term, y_v_judge_stack, y_v_blanched, y_v_debt, y_v_paid, y_v_told, y_v_allowances, y_v_debts, y_v_farms, y_v_pardons, y_v_payments, y_v_putOff) → zB C (0, 0) 5 [(0, .ref (C.X.1 + (58 + 7 * i0))), (1, .int a1), (2, .int x2)] [] ((va_up (va_up I (58 + 7 * i0) (va_up (va_up (I (58 + 7 * i0)) 11 v_told) 14 v_blanched)) 46 (va_up (va_up (I 46) 1 v_judge_shire) 2 v_judge_term)), (va_up (va_up (va_up (va_up (va_up (va_up (va_up (va_up (va_up J (58 + 7 * i0 + 1) v_debts) (58 + 7 * i0 + 2) v_farms) (58 + 7 * i0 + 3) v_allowances) (58 + 7 * i0 + 4) v_pardons) (58 + 7 * i0 + 5) v_payments) (58 + 7 * i0 + 6) v_putOff) (58 + 7 * i0) (va_up (va_up (J (58 + 7 * i0)) 12 v_debt) 13 v_paid)) 46 (va_up (va_up (J 46) 3 v_judge_debt) 4 v_judge_paid)) 47 v_judge_stack), Rr, v_D) := by
  refine zlp16_ind (P := fun (x2 : Int32) (v_judge_debt : Int64) (v_judge_paid : Int64) (v_judge_shire : Int32) (v_judge_term : Int32) (v_judge_stack : (Nat → Int64)) (v_blanched : Int32) (v_debt : Int64) (v_paid : Int64) (v_told : Int32) (v_allowances : (Nat → Int64)) (v_debts : (Nat → Int64)) (v_farms : (Nat → Int64)) (v_pardons : (Nat → Int64)) (v_payments : (Nat → Int64)) (v_putOff : (Nat → Int64)) => zB C (0, 0) 5 [(0, .ref (C.X.1 + (58 + 7 * i0))), (1, .int a1), (2, .int x2)] [] ((va_up (va_up I (58 + 7 * i0) (va_up (va_up (I (58 + 7 * i0)) 11 v_told) 14 v_blanched)) 46 (va_up (va_up (I 46) 1 v_judge_shire) 2 v_judge_term)), (va_up (va_up (va_up (va_up (va_up (va_up (va_up (va_up (va_up J (58 + 7 * i0 + 1) v_debts) (58 + 7 * i0 + 2) v_farms) (58 + 7 * i0 + 3) v_allowances) (58 + 7 * i0 + 4) v_pardons) (58 + 7 * i0 + 5) v_payments) (58 + 7 * i0 + 6) v_putOff) (58 + 7 * i0) (va_up (va_up (J (58 + 7 * i0)) 12 v_debt) 13 v_paid)) 46 (va_up (va_up (J 46) 3 v_judge_debt) 4 v_judge_paid)) 47 v_judge_stack), Rr, v_D)) (fun self ih => ?_)
  intro x2 v_judge_debt v_judge_paid v_judge_shire v_judge_term v_judge_stack v_blanched v_debt v_paid v_told v_allowances v_debts v_farms v_pardons v_payments v_putOff h
  refine zb_iload_n E dX8_goTo_5 2 rfl rfl ?_
  refine zb_iload_n E dX8_goTo_6 1 rfl rfl ?_
  refine zb_icmp_gt E dX8_goTo_7 (tgt := 123) rfl (fun hc => ?_) (fun hc => ?_)
  · have h := if_t h hc
    obtain ⟨rfl, rfl, rfl, rfl, rfl, rfl, rfl, rfl, rfl, rfl, rfl, rfl, rfl, rfl, rfl⟩ := zinj15 h
    exact zb_vret E hQ rfl ⟨Nat.zero_le _, Nat.zero_le _⟩ dX8_goTo_123
  · have h := if_f h hc
    refine zb_iload_n E dX8_goTo_10 2 rfl rfl ?_
    refine zb_bipush E dX8_goTo_11 (v := 40) rfl ?_
    refine zb_icmp_ge E dX8_goTo_13 (tgt := 123) rfl (fun hc => ?_) (fun hc => ?_)
    · have h := if_t h hc
      obtain ⟨rfl, rfl, rfl, rfl, rfl, rfl, rfl, rfl, rfl, rfl, rfl, rfl, rfl, rfl, rfl⟩ := zinj15 h
      exact zb_vret E hQ rfl ⟨Nat.zero_le _, Nat.zero_le _⟩ dX8_goTo_123
    · have h := if_f h hc
      refine zb_aload_n E dX8_goTo_16 0 rfl rfl ?_
      refine zb_getX E (58 + 7 * i0) (by omega) (zFr C.X hi0 hkn) rfl zin8 2 (by decide) zw_278 ((zup_n (zneL0 (by decide : (46 : Nat) < 58))).trans zup_s) ((zup_n (zneL0 (by decide : (47 : Nat) < 58))).trans ((zup_n (zneL0 (by decide : (46 : Nat) < 58))).trans zup_s)) (v := .ref (C.X.1 + kn)) rfl dX8_goTo_17 ?_
      refine zb_iload_n E dX8_goTo_20 2 rfl rfl ?_
      obtain ⟨rc1, hc_21, h⟩ := bd1_s h
      refine zb_cVq E [.int x2] kn zy_X5_writOf zw_988 (by omega) (zFk _ (zkn hkn) _ _ _) rfl (c_X5_writOf kn (zkn hkn) v_acts_writs e_v_acts_writs v_known_writs (((zup_n (by omega : ((kn + 1) : Nat) ≠ 46)).trans (zup_n (by omega : ((kn + 1) : Nat) ≠ (58 + 7 * i0)))).trans e_v_known_writs) hc_21) (by decide) rfl rfl (by first | decide | simp [Value.category, zva_cat]) dX8_goTo_21 (cs2 := (0, 0)) rfl ?_
      refine zb_astore_nQ E dX8_goTo_24 rfl (by decide) (lv2 := [(3, va_rf (zq C.X rc1)), (0, .ref (C.X.1 + (58 + 7 * i0))), (1, .int a1), (2, .int x2)]) rfl ?_
      refine zb_aload_n E dX8_goTo_25 1 rfl rfl ?_
      refine zb_lconst E dX8_goTo_26 (v := 0) rfl ?_
      refine zb_putXJ E (58 + 7 * i0) (by omega) (zFr C.X hi0 hkn) rfl zin8 13 (by decide) zw_289 tyX8 tyX8_ok nmX8 rfl rfl rfl ((zup_n (zneL0 (by decide : (46 : Nat) < 58))).trans zup_s) ((zup_n (zneL0 (by decide : (47 : Nat) < 58))).trans ((zup_n (zneL0 (by decide : (46 : Nat) < 58))).trans zup_s)) (zset8_13 C.X (58 + 7 * i0) kn _ _ 0) (by rw [zflen8]; decide) (J2 := (va_up (va_up (va_up (va_up (va_up (va_up (va_up (va_up (va_up J (58 + 7 * i0 + 1) v_debts) (58 + 7 * i0 + 2) v_farms) (58 + 7 * i0 + 3) v_allowances) (58 + 7 * i0 + 4) v_pardons) (58 + 7 * i0 + 5) v_payments) (58 + 7 * i0 + 6) v_putOff) (58 + 7 * i0) (va_up (va_up (J (58 + 7 * i0)) 12 v_debt) 13 0)) 46 (va_up (va_up (J 46) 3 v_judge_debt) 4 v_judge_paid)) 47 v_judge_stack)) ((zcgV zn1).trans (zn3 (Ne.symm (zneL0 (by decide : (47 : Nat) < 58))) (Ne.symm (zneL0 (by decide : (46 : Nat) < 58))))) dX8_goTo_27 ?_
      refine zb_aload_n E dX8_goTo_30 1 rfl rfl ?_
      refine zb_iconst E dX8_goTo_31 (v := 0) rfl ?_
      refine zb_putXI E (58 + 7 * i0) (by omega) (zFr C.X hi0 hkn) rfl zin8 14 (by decide) zw_290 tyX8 tyX8_ok nmX8 rfl rfl rfl ((zup_n (zneL0 (by decide : (46 : Nat) < 58))).trans zup_s) ((zup_n (zneL0 (by decide : (47 : Nat) < 58))).trans ((zup_n (zneL0 (by decide : (46 : Nat) < 58))).trans zup_s)) (zset8_14 C.X (58 + 7 * i0) kn _ _ 0) (by rw [zflen8]; decide) (I2 := (va_up (va_up I (58 + 7 * i0) (va_up (va_up (I (58 + 7 * i0)) 11 v_told) 14 0)) 46 (va_up (va_up (I 46) 1 v_judge_shire) 2 v_judge_term))) ((zcgV zn1).trans (zn2 (Ne.symm (zneL0 (by decide : (46 : Nat) < 58))))) dX8_goTo_32 ?_
      refine zb_aload_n E dX8_goTo_35 1 rfl rfl ?_
      refine zb_iload_n E dX8_goTo_36 3 rfl rfl ?_
      obtain ⟨v_debt_c2, v_putOff_c2, hc_37, h⟩ := bd2_s h
      refine zb_cVv E [.int x2] (58 + 7 * i0) zy_X8_comeDue zw_989 (by omega) (zFr _ hi0 hkn _ _ _) rfl (c_X8_comeDue i0 hi0 kn hkn (va_up (va_up (J (58 + 7 * i0)) 12 v_debt) 13 0) ((zup_n (zneL0 (by decide : (47 : Nat) < 58))).trans ((zup_n (zneL0 (by decide : (46 : Nat) < 58))).trans zup_s)) v_debts ((zup_n (zneL (by decide : (47 : Nat) < 58))).trans ((zup_n (zneL (by decide : (46 : Nat) < 58))).trans ((zup_n (by omega : ((58 + 7 * i0 + 1) : Nat) ≠ (58 + 7 * i0))).trans ((zup_n (by omega : ((58 + 7 * i0 + 1) : Nat) ≠ (58 + 7 * i0 + 6))).trans ((zup_n (by omega : ((58 + 7 * i0 + 1) : Nat) ≠ (58 + 7 * i0 + 5))).trans ((zup_n (by omega : ((58 + 7 * i0 + 1) : Nat) ≠ (58 + 7 * i0 + 4))).trans ((zup_n (by omega : ((58 + 7 * i0 + 1) : Nat) ≠ (58 + 7 * i0 + 3))).trans ((zup_n (by omega : ((58 + 7 * i0 + 1) : Nat) ≠ (58 + 7 * i0 + 2))).trans zup_s)))))))) v_debt (zcf (f := ((va_up (va_up (va_up (va_up (va_up (va_up (va_up (va_up (va_up J (58 + 7 * i0 + 1) v_debts) (58 + 7 * i0 + 2) v_farms) (58 + 7 * i0 + 3) v_allowances) (58 + 7 * i0 + 4) v_pardons) (58 + 7 * i0 + 5) v_payments) (58 + 7 * i0 + 6) v_putOff) (58 + 7 * i0) (va_up (va_up (J (58 + 7 * i0)) 12 v_debt) 13 0)) 46 (va_up (va_up (J 46) 3 v_judge_debt) 4 v_judge_paid)) 47 v_judge_stack) (58 + 7 * i0))) ((zup_n (zneL0 (by decide : (47 : Nat) < 58))).trans ((zup_n (zneL0 (by decide : (46 : Nat) < 58))).trans zup_s)) rfl) v_putOff ((zup_n (zneL (by decide : (47 : Nat) < 58))).trans ((zup_n (zneL (by decide : (46 : Nat) < 58))).trans ((zup_n (by omega : ((58 + 7 * i0 + 6) : Nat) ≠ (58 + 7 * i0))).trans zup_s))) hc_37) (by decide) rfl rfl (by first | decide | simp [Value.category, zva_cat]) dX8_goTo_37 (cs2 := (0, 0)) rfl ?_
      refine zb_S (S2 := ((va_up (va_up I (58 + 7 * i0) (va_up (va_up (I (58 + 7 * i0)) 11 v_told) 14 0)) 46 (va_up (va_up (I 46) 1 v_judge_shire) 2 v_judge_term)), (va_up (va_up (va_up (va_up (va_up (va_up (va_up (va_up (va_up J (58 + 7 * i0 + 1) v_debts) (58 + 7 * i0 + 2) v_farms) (58 + 7 * i0 + 3) v_allowances) (58 + 7 * i0 + 4) v_pardons) (58 + 7 * i0 + 5) v_payments) (58 + 7 * i0 + 6) v_putOff_c2) (58 + 7 * i0) (va_up (va_up (J (58 + 7 * i0)) 12 v_debt_c2) 13 0)) 46 (va_up (va_up (J 46) 3 v_judge_debt) 4 v_judge_paid)) 47 v_judge_stack), Rr, v_D)) (zS_eq3 rfl ((zcgF (zn4 (Ne.symm (zneL (by decide : (47 : Nat) < 58))) (Ne.symm (zneL (by decide : (46 : Nat) < 58))) (by omega : ((58 + 7 * i0) : Nat) ≠ (58 + 7 * i0 + 6)))).trans ((zcgV (zn2 (by decide : (13 : Nat) ≠ 12))).trans (zn3 (Ne.symm (zneL0 (by decide : (47 : Nat) < 58))) (Ne.symm (zneL0 (by decide : (46 : Nat) < 58)))))) rfl) ?_
      refine zb_aload_n E dX8_goTo_40 1 rfl rfl ?_
      refine zb_getX E (58 + 7 * i0) (by omega) (zFr C.X hi0 hkn) rfl zin8 5 (by decide) zw_281 ((zup_n (zneL0 (by decide : (46 : Nat) < 58))).trans zup_s) ((zup_n (zneL0 (by decide : (47 : Nat) < 58))).trans ((zup_n (zneL0 (by decide : (46 : Nat) < 58))).trans zup_s)) (v := .ref (C.X.1 + (58 + 7 * i0 + 2))) rfl dX8_goTo_41 ?_
      refine zb_iload_n E dX8_goTo_44 3 rfl rfl ?_
      refine zb_aload_n E dX8_goTo_45 1 rfl rfl ?_
      refine zb_aload_nQ E dX8_goTo_46 0 rfl rfl ?_
      refine zb_iload_n E dX8_goTo_47 3 rfl rfl ?_
      refine zb_iconst E dX8_goTo_48 (v := 1) rfl ?_
      obtain ⟨rc3, v_judge_debt_c3, v_judge_paid_c3, v_judge_shire_c3, v_judge_term_c3, v_judge_stack_c3, v_blanched_c3, v_debt_c3, hc_49, h⟩ := bd8_s h
      refine zb_cVl E [va_rf (zq C.X rc1), .int x2, .int 1] (58 + 7 * i0) zy_X8_reckon zw_994 (by omega) (zFr _ hi0 hkn _ _ _) rfl (c_X8_reckon i0 hi0 kn hkn (va_up (va_up (I (58 + 7 * i0)) 11 v_told) 14 0) ((zup_n (zneL0 (by decide : (46 : Nat) < 58))).trans zup_s) (va_up (va_up (I 46) 1 v_judge_shire) 2 v_judge_term) zup_s (va_up (va_up (J (58 + 7 * i0)) 12 v_debt_c2) 13 0) ((zup_n (zneL0 (by decide : (47 : Nat) < 58))).trans ((zup_n (zneL0 (by decide : (46 : Nat) < 58))).trans zup_s)) (va_up (va_up (J 46) 3 v_judge_debt) 4 v_judge_paid) ((zup_n (by decide : (46 : Nat) ≠ 47)).trans zup_s) 0 (zcf (f := ((va_up (va_up (va_up (va_up (va_up (va_up (va_up (va_up (va_up J (58 + 7 * i0 + 1) v_debts) (58 + 7 * i0 + 2) v_farms) (58 + 7 * i0 + 3) v_allowances) (58 + 7 * i0 + 4) v_pardons) (58 + 7 * i0 + 5) v_payments) (58 + 7 * i0 + 6) v_putOff_c2) (58 + 7 * i0) (va_up (va_up (J (58 + 7 * i0)) 12 v_debt_c2) 13 0)) 46 (va_up (va_up (J 46) 3 v_judge_debt) 4 v_judge_paid)) 47 v_judge_stack) (58 + 7 * i0))) ((zup_n (zneL0 (by decide : (47 : Nat) < 58))).trans ((zup_n (zneL0 (by decide : (46 : Nat) < 58))).trans zup_s)) rfl) v_shire (zcf (f := ((va_up (va_up I (58 + 7 * i0) (va_up (va_up (I (58 + 7 * i0)) 11 v_told) 14 0)) 46 (va_up (va_up (I 46) 1 v_judge_shire) 2 v_judge_term)) (58 + 7 * i0))) ((zup_n (zneL0 (by decide : (46 : Nat) < 58))).trans zup_s) (by exact e_v_shire)) v_judge_debt (zcf (f := ((va_up (va_up (va_up (va_up (va_up (va_up (va_up (va_up (va_up J (58 + 7 * i0 + 1) v_debts) (58 + 7 * i0 + 2) v_farms) (58 + 7 * i0 + 3) v_allowances) (58 + 7 * i0 + 4) v_pardons) (58 + 7 * i0 + 5) v_payments) (58 + 7 * i0 + 6) v_putOff_c2) (58 + 7 * i0) (va_up (va_up (J (58 + 7 * i0)) 12 v_debt_c2) 13 0)) 46 (va_up (va_up (J 46) 3 v_judge_debt) 4 v_judge_paid)) 47 v_judge_stack) 46)) ((zup_n (by decide : (46 : Nat) ≠ 47)).trans zup_s) rfl) v_judge_paid (zcf (f := ((va_up (va_up (va_up (va_up (va_up (va_up (va_up (va_up (va_up J (58 + 7 * i0 + 1) v_debts) (58 + 7 * i0 + 2) v_farms) (58 + 7 * i0 + 3) v_allowances) (58 + 7 * i0 + 4) v_pardons) (58 + 7 * i0 + 5) v_payments) (58 + 7 * i0 + 6) v_putOff_c2) (58 + 7 * i0) (va_up (va_up (J (58 + 7 * i0)) 12 v_debt_c2) 13 0)) 46 (va_up (va_up (J 46) 3 v_judge_debt) 4 v_judge_paid)) 47 v_judge_stack) 46)) ((zup_n (by decide : (46 : Nat) ≠ 47)).trans zup_s) rfl) v_judge_shire (zcf (f := ((va_up (va_up I (58 + 7 * i0) (va_up (va_up (I (58 + 7 * i0)) 11 v_told) 14 0)) 46 (va_up (va_up (I 46) 1 v_judge_shire) 2 v_judge_term)) 46)) zup_s rfl) v_judge_term (zcf (f := ((va_up (va_up I (58 + 7 * i0) (va_up (va_up (I (58 + 7 * i0)) 11 v_told) 14 0)) 46 (va_up (va_up (I 46) 1 v_judge_shire) 2 v_judge_term)) 46)) zup_s rfl) v_judge_stack zup_s 0 (zcf (f := ((va_up (va_up I (58 + 7 * i0) (va_up (va_up (I (58 + 7 * i0)) 11 v_told) 14 0)) 46 (va_up (va_up (I 46) 1 v_judge_shire) 2 v_judge_term)) (58 + 7 * i0))) ((zup_n (zneL0 (by decide : (46 : Nat) < 58))).trans zup_s) rfl) v_debt_c2 (zcf (f := ((va_up (va_up (va_up (va_up (va_up (va_up (va_up (va_up (va_up J (58 + 7 * i0 + 1) v_debts) (58 + 7 * i0 + 2) v_farms) (58 + 7 * i0 + 3) v_allowances) (58 + 7 * i0 + 4) v_pardons) (58 + 7 * i0 + 5) v_payments) (58 + 7 * i0 + 6) v_putOff_c2) (58 + 7 * i0) (va_up (va_up (J (58 + 7 * i0)) 12 v_debt_c2) 13 0)) 46 (va_up (va_up (J 46) 3 v_judge_debt) 4 v_judge_paid)) 47 v_judge_stack) (58 + 7 * i0))) ((zup_n (zneL0 (by decide : (47 : Nat) < 58))).trans ((zup_n (zneL0 (by decide : (46 : Nat) < 58))).trans zup_s)) rfl) hc_49) (by decide) rfl rfl (by first | decide | simp [Value.category, zva_cat]) dX8_goTo_49 (cs2 := (0, 0)) rfl ?_
      refine zb_S (S2 := ((va_up (va_up I (58 + 7 * i0) (va_up (va_up (I (58 + 7 * i0)) 11 v_told) 14 v_blanched_c3)) 46 (va_up (va_up (I 46) 1 v_judge_shire_c3) 2 v_judge_term_c3)), (va_up (va_up (va_up (va_up (va_up (va_up (va_up (va_up (va_up J (58 + 7 * i0 + 1) v_debts) (58 + 7 * i0 + 2) v_farms) (58 + 7 * i0 + 3) v_allowances) (58 + 7 * i0 + 4) v_pardons) (58 + 7 * i0 + 5) v_payments) (58 + 7 * i0 + 6) v_putOff_c2) (58 + 7 * i0) (va_up (va_up (J (58 + 7 * i0)) 12 v_debt_c3) 13 0)) 46 (va_up (va_up (J 46) 3 v_judge_debt_c3) 4 v_judge_paid_c3)) 47 v_judge_stack_c3), Rr, v_D)) (zS_eq3 ((zcgF ((zcgV zn1).trans (zn2 (Ne.symm (zneL0 (by decide : (46 : Nat) < 58)))))).trans ((zcgV ((zcgF (zn2 (by decide : (2 : Nat) ≠ 1))).trans zn1)).trans zn1)) ((zcgF ((zcgF ((zcgV (zn2 (by decide : (13 : Nat) ≠ 12))).trans (zn3 (Ne.symm (zneL0 (by decide : (47 : Nat) < 58))) (Ne.symm (zneL0 (by decide : (46 : Nat) < 58)))))).trans ((zcgV ((zcgF (zn2 (by decide : (4 : Nat) ≠ 3))).trans zn1)).trans (zn2 (by decide : (47 : Nat) ≠ 46))))).trans zn1) rfl) ?_
      obtain ⟨g4, h⟩ := gd_s h
      refine zb_last E (58 + 7 * i0 + 2) (by omega) (zFrA_2 hi0) (f := v_farms) (((zup_n (zneL (by decide : (47 : Nat) < 58))).trans ((zup_n (zneL (by decide : (46 : Nat) < 58))).trans ((zup_n (by omega : ((58 + 7 * i0 + 2) : Nat) ≠ (58 + 7 * i0))).trans ((zup_n (by omega : ((58 + 7 * i0 + 2) : Nat) ≠ (58 + 7 * i0 + 6))).trans ((zup_n (by omega : ((58 + 7 * i0 + 2) : Nat) ≠ (58 + 7 * i0 + 5))).trans ((zup_n (by omega : ((58 + 7 * i0 + 2) : Nat) ≠ (58 + 7 * i0 + 4))).trans ((zup_n (by omega : ((58 + 7 * i0 + 2) : Nat) ≠ (58 + 7 * i0 + 3))).trans zup_s)))))))) (ib_in g4) dX8_goTo_52 (J2 := (va_up (va_up (va_up (va_up (va_up (va_up (va_up (va_up (va_up J (58 + 7 * i0 + 1) v_debts) (58 + 7 * i0 + 2) (vp_updL v_farms (ix x2) rc3)) (58 + 7 * i0 + 3) v_allowances) (58 + 7 * i0 + 4) v_pardons) (58 + 7 * i0 + 5) v_payments) (58 + 7 * i0 + 6) v_putOff_c2) (58 + 7 * i0) (va_up (va_up (J (58 + 7 * i0)) 12 v_debt_c3) 13 0)) 46 (va_up (va_up (J 46) 3 v_judge_debt_c3) 4 v_judge_paid_c3)) 47 v_judge_stack_c3)) (zn8 (Ne.symm (zneL (by decide : (47 : Nat) < 58))) (Ne.symm (zneL (by decide : (46 : Nat) < 58))) (by omega : ((58 + 7 * i0) : Nat) ≠ (58 + 7 * i0 + 2)) (by omega : ((58 + 7 * i0 + 6) : Nat) ≠ (58 + 7 * i0 + 2)) (by omega : ((58 + 7 * i0 + 5) : Nat) ≠ (58 + 7 * i0 + 2)) (by omega : ((58 + 7 * i0 + 4) : Nat) ≠ (58 + 7 * i0 + 2)) (by omega : ((58 + 7 * i0 + 3) : Nat) ≠ (58 + 7 * i0 + 2))) ?_
      refine zb_aload_n E dX8_goTo_53 1 rfl rfl ?_
      refine zb_getX E (58 + 7 * i0) (by omega) (zFr C.X hi0 hkn) rfl zin8 6 (by decide) zw_282 ((zup_n (zneL0 (by decide : (46 : Nat) < 58))).trans zup_s) ((zup_n (zneL0 (by decide : (47 : Nat) < 58))).trans ((zup_n (zneL0 (by decide : (46 : Nat) < 58))).trans zup_s)) (v := .ref (C.X.1 + (58 + 7 * i0 + 3))) rfl dX8_goTo_54 ?_
      refine zb_iload_n E dX8_goTo_57 3 rfl rfl ?_
      refine zb_aload_n E dX8_goTo_58 1 rfl rfl ?_
      refine zb_aload_nQ E dX8_goTo_59 0 rfl rfl ?_
      refine zb_iload_n E dX8_goTo_60 3 rfl rfl ?_
      refine zb_iconst E dX8_goTo_61 (v := 2) rfl ?_
      obtain ⟨rc5, v_judge_debt_c5, v_judge_paid_c5, v_judge_shire_c5, v_judge_term_c5, v_judge_stack_c5, v_blanched_c5, v_debt_c5, hc_62, h⟩ := bd8_s h
      refine zb_cVl E [va_rf (zq C.X rc1), .int x2, .int 2] (58 + 7 * i0) zy_X8_reckon zw_994 (by omega) (zFr _ hi0 hkn _ _ _) rfl (c_X8_reckon i0 hi0 kn hkn (va_up (va_up (I (58 + 7 * i0)) 11 v_told) 14 v_blanched_c3) ((zup_n (zneL0 (by decide : (46 : Nat) < 58))).trans zup_s) (va_up (va_up (I 46) 1 v_judge_shire_c3) 2 v_judge_term_c3) zup_s (va_up (va_up (J (58 + 7 * i0)) 12 v_debt_c3) 13 0) ((zup_n (zneL0 (by decide : (47 : Nat) < 58))).trans ((zup_n (zneL0 (by decide : (46 : Nat) < 58))).trans zup_s)) (va_up (va_up (J 46) 3 v_judge_debt_c3) 4 v_judge_paid_c3) ((zup_n (by decide : (46 : Nat) ≠ 47)).trans zup_s) 0 (zcf (f := ((va_up (va_up (va_up (va_up (va_up (va_up (va_up (va_up (va_up J (58 + 7 * i0 + 1) v_debts) (58 + 7 * i0 + 2) (vp_updL v_farms (ix x2) rc3)) (58 + 7 * i0 + 3) v_allowances) (58 + 7 * i0 + 4) v_pardons) (58 + 7 * i0 + 5) v_payments) (58 + 7 * i0 + 6) v_putOff_c2) (58 + 7 * i0) (va_up (va_up (J (58 + 7 * i0)) 12 v_debt_c3) 13 0)) 46 (va_up (va_up (J 46) 3 v_judge_debt_c3) 4 v_judge_paid_c3)) 47 v_judge_stack_c3) (58 + 7 * i0))) ((zup_n (zneL0 (by decide : (47 : Nat) < 58))).trans ((zup_n (zneL0 (by decide : (46 : Nat) < 58))).trans zup_s)) rfl) v_shire (zcf (f := ((va_up (va_up I (58 + 7 * i0) (va_up (va_up (I (58 + 7 * i0)) 11 v_told) 14 v_blanched_c3)) 46 (va_up (va_up (I 46) 1 v_judge_shire_c3) 2 v_judge_term_c3)) (58 + 7 * i0))) ((zup_n (zneL0 (by decide : (46 : Nat) < 58))).trans zup_s) (by exact e_v_shire)) v_judge_debt_c3 (zcf (f := ((va_up (va_up (va_up (va_up (va_up (va_up (va_up (va_up (va_up J (58 + 7 * i0 + 1) v_debts) (58 + 7 * i0 + 2) (vp_updL v_farms (ix x2) rc3)) (58 + 7 * i0 + 3) v_allowances) (58 + 7 * i0 + 4) v_pardons) (58 + 7 * i0 + 5) v_payments) (58 + 7 * i0 + 6) v_putOff_c2) (58 + 7 * i0) (va_up (va_up (J (58 + 7 * i0)) 12 v_debt_c3) 13 0)) 46 (va_up (va_up (J 46) 3 v_judge_debt_c3) 4 v_judge_paid_c3)) 47 v_judge_stack_c3) 46)) ((zup_n (by decide : (46 : Nat) ≠ 47)).trans zup_s) rfl) v_judge_paid_c3 (zcf (f := ((va_up (va_up (va_up (va_up (va_up (va_up (va_up (va_up (va_up J (58 + 7 * i0 + 1) v_debts) (58 + 7 * i0 + 2) (vp_updL v_farms (ix x2) rc3)) (58 + 7 * i0 + 3) v_allowances) (58 + 7 * i0 + 4) v_pardons) (58 + 7 * i0 + 5) v_payments) (58 + 7 * i0 + 6) v_putOff_c2) (58 + 7 * i0) (va_up (va_up (J (58 + 7 * i0)) 12 v_debt_c3) 13 0)) 46 (va_up (va_up (J 46) 3 v_judge_debt_c3) 4 v_judge_paid_c3)) 47 v_judge_stack_c3) 46)) ((zup_n (by decide : (46 : Nat) ≠ 47)).trans zup_s) rfl) v_judge_shire_c3 (zcf (f := ((va_up (va_up I (58 + 7 * i0) (va_up (va_up (I (58 + 7 * i0)) 11 v_told) 14 v_blanched_c3)) 46 (va_up (va_up (I 46) 1 v_judge_shire_c3) 2 v_judge_term_c3)) 46)) zup_s rfl) v_judge_term_c3 (zcf (f := ((va_up (va_up I (58 + 7 * i0) (va_up (va_up (I (58 + 7 * i0)) 11 v_told) 14 v_blanched_c3)) 46 (va_up (va_up (I 46) 1 v_judge_shire_c3) 2 v_judge_term_c3)) 46)) zup_s rfl) v_judge_stack_c3 zup_s v_blanched_c3 (zcf (f := ((va_up (va_up I (58 + 7 * i0) (va_up (va_up (I (58 + 7 * i0)) 11 v_told) 14 v_blanched_c3)) 46 (va_up (va_up (I 46) 1 v_judge_shire_c3) 2 v_judge_term_c3)) (58 + 7 * i0))) ((zup_n (zneL0 (by decide : (46 : Nat) < 58))).trans zup_s) rfl) v_debt_c3 (zcf (f := ((va_up (va_up (va_up (va_up (va_up (va_up (va_up (va_up (va_up J (58 + 7 * i0 + 1) v_debts) (58 + 7 * i0 + 2) (vp_updL v_farms (ix x2) rc3)) (58 + 7 * i0 + 3) v_allowances) (58 + 7 * i0 + 4) v_pardons) (58 + 7 * i0 + 5) v_payments) (58 + 7 * i0 + 6) v_putOff_c2) (58 + 7 * i0) (va_up (va_up (J (58 + 7 * i0)) 12 v_debt_c3) 13 0)) 46 (va_up (va_up (J 46) 3 v_judge_debt_c3) 4 v_judge_paid_c3)) 47 v_judge_stack_c3) (58 + 7 * i0))) ((zup_n (zneL0 (by decide : (47 : Nat) < 58))).trans ((zup_n (zneL0 (by decide : (46 : Nat) < 58))).trans zup_s)) rfl) hc_62) (by decide) rfl rfl (by first | decide | simp [Value.category, zva_cat]) dX8_goTo_62 (cs2 := (0, 0)) rfl ?_
      refine zb_S (S2 := ((va_up (va_up I (58 + 7 * i0) (va_up (va_up (I (58 + 7 * i0)) 11 v_told) 14 v_blanched_c5)) 46 (va_up (va_up (I 46) 1 v_judge_shire_c5) 2 v_judge_term_c5)), (va_up (va_up (va_up (va_up (va_up (va_up (va_up (va_up (va_up J (58 + 7 * i0 + 1) v_debts) (58 + 7 * i0 + 2) (vp_updL v_farms (ix x2) rc3)) (58 + 7 * i0 + 3) v_allowances) (58 + 7 * i0 + 4) v_pardons) (58 + 7 * i0 + 5) v_payments) (58 + 7 * i0 + 6) v_putOff_c2) (58 + 7 * i0) (va_up (va_up (J (58 + 7 * i0)) 12 v_debt_c5) 13 0)) 46 (va_up (va_up (J 46) 3 v_judge_debt_c5) 4 v_judge_paid_c5)) 47 v_judge_stack_c5), Rr, v_D)) (zS_eq3 ((zcgF ((zcgV zn1).trans (zn2 (Ne.symm (zneL0 (by decide : (46 : Nat) < 58)))))).trans ((zcgV ((zcgF (zn2 (by decide : (2 : Nat) ≠ 1))).trans zn1)).trans zn1)) ((zcgF ((zcgF ((zcgV (zn2 (by decide : (13 : Nat) ≠ 12))).trans (zn3 (Ne.symm (zneL0 (by decide : (47 : Nat) < 58))) (Ne.symm (zneL0 (by decide : (46 : Nat) < 58)))))).trans ((zcgV ((zcgF (zn2 (by decide : (4 : Nat) ≠ 3))).trans zn1)).trans (zn2 (by decide : (47 : Nat) ≠ 46))))).trans zn1) rfl) ?_
      refine zb_last E (58 + 7 * i0 + 3) (by omega) (zFrA_3 hi0) (f := v_allowances) (((zup_n (zneL (by decide : (47 : Nat) < 58))).trans ((zup_n (zneL (by decide : (46 : Nat) < 58))).trans ((zup_n (by omega : ((58 + 7 * i0 + 3) : Nat) ≠ (58 + 7 * i0))).trans ((zup_n (by omega : ((58 + 7 * i0 + 3) : Nat) ≠ (58 + 7 * i0 + 6))).trans ((zup_n (by omega : ((58 + 7 * i0 + 3) : Nat) ≠ (58 + 7 * i0 + 5))).trans ((zup_n (by omega : ((58 + 7 * i0 + 3) : Nat) ≠ (58 + 7 * i0 + 4))).trans zup_s))))))) (ib_in g4) dX8_goTo_65 (J2 := (va_up (va_up (va_up (va_up (va_up (va_up (va_up (va_up (va_up J (58 + 7 * i0 + 1) v_debts) (58 + 7 * i0 + 2) (vp_updL v_farms (ix x2) rc3)) (58 + 7 * i0 + 3) (vp_updL v_allowances (ix x2) rc5)) (58 + 7 * i0 + 4) v_pardons) (58 + 7 * i0 + 5) v_payments) (58 + 7 * i0 + 6) v_putOff_c2) (58 + 7 * i0) (va_up (va_up (J (58 + 7 * i0)) 12 v_debt_c5) 13 0)) 46 (va_up (va_up (J 46) 3 v_judge_debt_c5) 4 v_judge_paid_c5)) 47 v_judge_stack_c5)) (zn7 (Ne.symm (zneL (by decide : (47 : Nat) < 58))) (Ne.symm (zneL (by decide : (46 : Nat) < 58))) (by omega : ((58 + 7 * i0) : Nat) ≠ (58 + 7 * i0 + 3)) (by omega : ((58 + 7 * i0 + 6) : Nat) ≠ (58 + 7 * i0 + 3)) (by omega : ((58 + 7 * i0 + 5) : Nat) ≠ (58 + 7 * i0 + 3)) (by omega : ((58 + 7 * i0 + 4) : Nat) ≠ (58 + 7 * i0 + 3))) ?_
      refine zb_aload_n E dX8_goTo_66 1 rfl rfl ?_
      refine zb_getX E (58 + 7 * i0) (by omega) (zFr C.X hi0 hkn) rfl zin8 7 (by decide) zw_283 ((zup_n (zneL0 (by decide : (46 : Nat) < 58))).trans zup_s) ((zup_n (zneL0 (by decide : (47 : Nat) < 58))).trans ((zup_n (zneL0 (by decide : (46 : Nat) < 58))).trans zup_s)) (v := .ref (C.X.1 + (58 + 7 * i0 + 4))) rfl dX8_goTo_67 ?_
      refine zb_iload_n E dX8_goTo_70 3 rfl rfl ?_
      refine zb_aload_n E dX8_goTo_71 1 rfl rfl ?_
      refine zb_aload_nQ E dX8_goTo_72 0 rfl rfl ?_
      refine zb_iload_n E dX8_goTo_73 3 rfl rfl ?_
      refine zb_iconst E dX8_goTo_74 (v := 3) rfl ?_
      obtain ⟨rc6, v_judge_debt_c6, v_judge_paid_c6, v_judge_shire_c6, v_judge_term_c6, v_judge_stack_c6, v_blanched_c6, v_debt_c6, hc_75, h⟩ := bd8_s h
      refine zb_cVl E [va_rf (zq C.X rc1), .int x2, .int 3] (58 + 7 * i0) zy_X8_reckon zw_994 (by omega) (zFr _ hi0 hkn _ _ _) rfl (c_X8_reckon i0 hi0 kn hkn (va_up (va_up (I (58 + 7 * i0)) 11 v_told) 14 v_blanched_c5) ((zup_n (zneL0 (by decide : (46 : Nat) < 58))).trans zup_s) (va_up (va_up (I 46) 1 v_judge_shire_c5) 2 v_judge_term_c5) zup_s (va_up (va_up (J (58 + 7 * i0)) 12 v_debt_c5) 13 0) ((zup_n (zneL0 (by decide : (47 : Nat) < 58))).trans ((zup_n (zneL0 (by decide : (46 : Nat) < 58))).trans zup_s)) (va_up (va_up (J 46) 3 v_judge_debt_c5) 4 v_judge_paid_c5) ((zup_n (by decide : (46 : Nat) ≠ 47)).trans zup_s) 0 (zcf (f := ((va_up (va_up (va_up (va_up (va_up (va_up (va_up (va_up (va_up J (58 + 7 * i0 + 1) v_debts) (58 + 7 * i0 + 2) (vp_updL v_farms (ix x2) rc3)) (58 + 7 * i0 + 3) (vp_updL v_allowances (ix x2) rc5)) (58 + 7 * i0 + 4) v_pardons) (58 + 7 * i0 + 5) v_payments) (58 + 7 * i0 + 6) v_putOff_c2) (58 + 7 * i0) (va_up (va_up (J (58 + 7 * i0)) 12 v_debt_c5) 13 0)) 46 (va_up (va_up (J 46) 3 v_judge_debt_c5) 4 v_judge_paid_c5)) 47 v_judge_stack_c5) (58 + 7 * i0))) ((zup_n (zneL0 (by decide : (47 : Nat) < 58))).trans ((zup_n (zneL0 (by decide : (46 : Nat) < 58))).trans zup_s)) rfl) v_shire (zcf (f := ((va_up (va_up I (58 + 7 * i0) (va_up (va_up (I (58 + 7 * i0)) 11 v_told) 14 v_blanched_c5)) 46 (va_up (va_up (I 46) 1 v_judge_shire_c5) 2 v_judge_term_c5)) (58 + 7 * i0))) ((zup_n (zneL0 (by decide : (46 : Nat) < 58))).trans zup_s) (by exact e_v_shire)) v_judge_debt_c5 (zcf (f := ((va_up (va_up (va_up (va_up (va_up (va_up (va_up (va_up (va_up J (58 + 7 * i0 + 1) v_debts) (58 + 7 * i0 + 2) (vp_updL v_farms (ix x2) rc3)) (58 + 7 * i0 + 3) (vp_updL v_allowances (ix x2) rc5)) (58 + 7 * i0 + 4) v_pardons) (58 + 7 * i0 + 5) v_payments) (58 + 7 * i0 + 6) v_putOff_c2) (58 + 7 * i0) (va_up (va_up (J (58 + 7 * i0)) 12 v_debt_c5) 13 0)) 46 (va_up (va_up (J 46) 3 v_judge_debt_c5) 4 v_judge_paid_c5)) 47 v_judge_stack_c5) 46)) ((zup_n (by decide : (46 : Nat) ≠ 47)).trans zup_s) rfl) v_judge_paid_c5 (zcf (f := ((va_up (va_up (va_up (va_up (va_up (va_up (va_up (va_up (va_up J (58 + 7 * i0 + 1) v_debts) (58 + 7 * i0 + 2) (vp_updL v_farms (ix x2) rc3)) (58 + 7 * i0 + 3) (vp_updL v_allowances (ix x2) rc5)) (58 + 7 * i0 + 4) v_pardons) (58 + 7 * i0 + 5) v_payments) (58 + 7 * i0 + 6) v_putOff_c2) (58 + 7 * i0) (va_up (va_up (J (58 + 7 * i0)) 12 v_debt_c5) 13 0)) 46 (va_up (va_up (J 46) 3 v_judge_debt_c5) 4 v_judge_paid_c5)) 47 v_judge_stack_c5) 46)) ((zup_n (by decide : (46 : Nat) ≠ 47)).trans zup_s) rfl) v_judge_shire_c5 (zcf (f := ((va_up (va_up I (58 + 7 * i0) (va_up (va_up (I (58 + 7 * i0)) 11 v_told) 14 v_blanched_c5)) 46 (va_up (va_up (I 46) 1 v_judge_shire_c5) 2 v_judge_term_c5)) 46)) zup_s rfl) v_judge_term_c5 (zcf (f := ((va_up (va_up I (58 + 7 * i0) (va_up (va_up (I (58 + 7 * i0)) 11 v_told) 14 v_blanched_c5)) 46 (va_up (va_up (I 46) 1 v_judge_shire_c5) 2 v_judge_term_c5)) 46)) zup_s rfl) v_judge_stack_c5 zup_s v_blanched_c5 (zcf (f := ((va_up (va_up I (58 + 7 * i0) (va_up (va_up (I (58 + 7 * i0)) 11 v_told) 14 v_blanched_c5)) 46 (va_up (va_up (I 46) 1 v_judge_shire_c5) 2 v_judge_term_c5)) (58 + 7 * i0))) ((zup_n (zneL0 (by decide : (46 : Nat) < 58))).trans zup_s) rfl) v_debt_c5 (zcf (f := ((va_up (va_up (va_up (va_up (va_up (va_up (va_up (va_up (va_up J (58 + 7 * i0 + 1) v_debts) (58 + 7 * i0 + 2) (vp_updL v_farms (ix x2) rc3)) (58 + 7 * i0 + 3) (vp_updL v_allowances (ix x2) rc5)) (58 + 7 * i0 + 4) v_pardons) (58 + 7 * i0 + 5) v_payments) (58 + 7 * i0 + 6) v_putOff_c2) (58 + 7 * i0) (va_up (va_up (J (58 + 7 * i0)) 12 v_debt_c5) 13 0)) 46 (va_up (va_up (J 46) 3 v_judge_debt_c5) 4 v_judge_paid_c5)) 47 v_judge_stack_c5) (58 + 7 * i0))) ((zup_n (zneL0 (by decide : (47 : Nat) < 58))).trans ((zup_n (zneL0 (by decide : (46 : Nat) < 58))).trans zup_s)) rfl) hc_75) (by decide) rfl rfl (by first | decide | simp [Value.category, zva_cat]) dX8_goTo_75 (cs2 := (0, 0)) rfl ?_
      refine zb_S (S2 := ((va_up (va_up I (58 + 7 * i0) (va_up (va_up (I (58 + 7 * i0)) 11 v_told) 14 v_blanched_c6)) 46 (va_up (va_up (I 46) 1 v_judge_shire_c6) 2 v_judge_term_c6)), (va_up (va_up (va_up (va_up (va_up (va_up (va_up (va_up (va_up J (58 + 7 * i0 + 1) v_debts) (58 + 7 * i0 + 2) (vp_updL v_farms (ix x2) rc3)) (58 + 7 * i0 + 3) (vp_updL v_allowances (ix x2) rc5)) (58 + 7 * i0 + 4) v_pardons) (58 + 7 * i0 + 5) v_payments) (58 + 7 * i0 + 6) v_putOff_c2) (58 + 7 * i0) (va_up (va_up (J (58 + 7 * i0)) 12 v_debt_c6) 13 0)) 46 (va_up (va_up (J 46) 3 v_judge_debt_c6) 4 v_judge_paid_c6)) 47 v_judge_stack_c6), Rr, v_D)) (zS_eq3 ((zcgF ((zcgV zn1).trans (zn2 (Ne.symm (zneL0 (by decide : (46 : Nat) < 58)))))).trans ((zcgV ((zcgF (zn2 (by decide : (2 : Nat) ≠ 1))).trans zn1)).trans zn1)) ((zcgF ((zcgF ((zcgV (zn2 (by decide : (13 : Nat) ≠ 12))).trans (zn3 (Ne.symm (zneL0 (by decide : (47 : Nat) < 58))) (Ne.symm (zneL0 (by decide : (46 : Nat) < 58)))))).trans ((zcgV ((zcgF (zn2 (by decide : (4 : Nat) ≠ 3))).trans zn1)).trans (zn2 (by decide : (47 : Nat) ≠ 46))))).trans zn1) rfl) ?_
      refine zb_last E (58 + 7 * i0 + 4) (by omega) (zFrA_4 hi0) (f := v_pardons) (((zup_n (zneL (by decide : (47 : Nat) < 58))).trans ((zup_n (zneL (by decide : (46 : Nat) < 58))).trans ((zup_n (by omega : ((58 + 7 * i0 + 4) : Nat) ≠ (58 + 7 * i0))).trans ((zup_n (by omega : ((58 + 7 * i0 + 4) : Nat) ≠ (58 + 7 * i0 + 6))).trans ((zup_n (by omega : ((58 + 7 * i0 + 4) : Nat) ≠ (58 + 7 * i0 + 5))).trans zup_s)))))) (ib_in g4) dX8_goTo_78 (J2 := (va_up (va_up (va_up (va_up (va_up (va_up (va_up (va_up (va_up J (58 + 7 * i0 + 1) v_debts) (58 + 7 * i0 + 2) (vp_updL v_farms (ix x2) rc3)) (58 + 7 * i0 + 3) (vp_updL v_allowances (ix x2) rc5)) (58 + 7 * i0 + 4) (vp_updL v_pardons (ix x2) rc6)) (58 + 7 * i0 + 5) v_payments) (58 + 7 * i0 + 6) v_putOff_c2) (58 + 7 * i0) (va_up (va_up (J (58 + 7 * i0)) 12 v_debt_c6) 13 0)) 46 (va_up (va_up (J 46) 3 v_judge_debt_c6) 4 v_judge_paid_c6)) 47 v_judge_stack_c6)) (zn6 (Ne.symm (zneL (by decide : (47 : Nat) < 58))) (Ne.symm (zneL (by decide : (46 : Nat) < 58))) (by omega : ((58 + 7 * i0) : Nat) ≠ (58 + 7 * i0 + 4)) (by omega : ((58 + 7 * i0 + 6) : Nat) ≠ (58 + 7 * i0 + 4)) (by omega : ((58 + 7 * i0 + 5) : Nat) ≠ (58 + 7 * i0 + 4))) ?_
      refine zb_aload_n E dX8_goTo_79 1 rfl rfl ?_
      refine zb_iload_n E dX8_goTo_80 3 rfl rfl ?_
      obtain ⟨v_debt_c7, v_paid_c7, hc_81, h⟩ := bd2_s h
      refine zb_cVv E [.int x2] (58 + 7 * i0) zy_X8_takeIn zw_1030 (by omega) (zFr _ hi0 hkn _ _ _) rfl (c_X8_takeIn i0 hi0 kn hkn (va_up (va_up (J (58 + 7 * i0)) 12 v_debt_c6) 13 0) ((zup_n (zneL0 (by decide : (47 : Nat) < 58))).trans ((zup_n (zneL0 (by decide : (46 : Nat) < 58))).trans zup_s)) v_acts_count (zcf (f := ((va_up (va_up I (58 + 7 * i0) (va_up (va_up (I (58 + 7 * i0)) 11 v_told) 14 v_blanched_c6)) 46 (va_up (va_up (I 46) 1 v_judge_shire_c6) 2 v_judge_term_c6)) 37)) ((zup_n (by decide : (37 : Nat) ≠ 46)).trans (zup_n (Ne.symm (zneL0 (by decide : (37 : Nat) < 58))))) (by exact e_v_acts_count)) v_acts_amounts (((zup_n (by decide : (41 : Nat) ≠ 46)).trans (zup_n (Ne.symm (zneL0 (by decide : (41 : Nat) < 58))))).trans e_v_acts_amounts) v_acts_kinds (((zup_n (by decide : (38 : Nat) ≠ 46)).trans (zup_n (Ne.symm (zneL0 (by decide : (38 : Nat) < 58))))).trans e_v_acts_kinds) v_acts_shires (((zup_n (by decide : (39 : Nat) ≠ 46)).trans (zup_n (Ne.symm (zneL0 (by decide : (39 : Nat) < 58))))).trans e_v_acts_shires) v_chest_goodWorths (((zup_n (by decide : (12 : Nat) ≠ 46)).trans (zup_n (Ne.symm (zneL0 (by decide : (12 : Nat) < 58))))).trans e_v_chest_goodWorths) v_known_fires (((zup_n (by omega : ((kn + 2) : Nat) ≠ 46)).trans (zup_n (by omega : ((kn + 2) : Nat) ≠ (58 + 7 * i0)))).trans e_v_known_fires) v_known_firstPayments (((zup_n (by omega : ((kn + 3) : Nat) ≠ 46)).trans (zup_n (by omega : ((kn + 3) : Nat) ≠ (58 + 7 * i0)))).trans e_v_known_firstPayments) v_known_nextPayments (((zup_n (by omega : ((kn + 4) : Nat) ≠ 46)).trans (zup_n (by omega : ((kn + 4) : Nat) ≠ (58 + 7 * i0)))).trans e_v_known_nextPayments) v_blanched_c6 (zcf (f := ((va_up (va_up I (58 + 7 * i0) (va_up (va_up (I (58 + 7 * i0)) 11 v_told) 14 v_blanched_c6)) 46 (va_up (va_up (I 46) 1 v_judge_shire_c6) 2 v_judge_term_c6)) (58 + 7 * i0))) ((zup_n (zneL0 (by decide : (46 : Nat) < 58))).trans zup_s) rfl) v_shire (zcf (f := ((va_up (va_up I (58 + 7 * i0) (va_up (va_up (I (58 + 7 * i0)) 11 v_told) 14 v_blanched_c6)) 46 (va_up (va_up (I 46) 1 v_judge_shire_c6) 2 v_judge_term_c6)) (58 + 7 * i0))) ((zup_n (zneL0 (by decide : (46 : Nat) < 58))).trans zup_s) (by exact e_v_shire)) v_debt_c6 (zcf (f := ((va_up (va_up (va_up (va_up (va_up (va_up (va_up (va_up (va_up J (58 + 7 * i0 + 1) v_debts) (58 + 7 * i0 + 2) (vp_updL v_farms (ix x2) rc3)) (58 + 7 * i0 + 3) (vp_updL v_allowances (ix x2) rc5)) (58 + 7 * i0 + 4) (vp_updL v_pardons (ix x2) rc6)) (58 + 7 * i0 + 5) v_payments) (58 + 7 * i0 + 6) v_putOff_c2) (58 + 7 * i0) (va_up (va_up (J (58 + 7 * i0)) 12 v_debt_c6) 13 0)) 46 (va_up (va_up (J 46) 3 v_judge_debt_c6) 4 v_judge_paid_c6)) 47 v_judge_stack_c6) (58 + 7 * i0))) ((zup_n (zneL0 (by decide : (47 : Nat) < 58))).trans ((zup_n (zneL0 (by decide : (46 : Nat) < 58))).trans zup_s)) rfl) 0 (zcf (f := ((va_up (va_up (va_up (va_up (va_up (va_up (va_up (va_up (va_up J (58 + 7 * i0 + 1) v_debts) (58 + 7 * i0 + 2) (vp_updL v_farms (ix x2) rc3)) (58 + 7 * i0 + 3) (vp_updL v_allowances (ix x2) rc5)) (58 + 7 * i0 + 4) (vp_updL v_pardons (ix x2) rc6)) (58 + 7 * i0 + 5) v_payments) (58 + 7 * i0 + 6) v_putOff_c2) (58 + 7 * i0) (va_up (va_up (J (58 + 7 * i0)) 12 v_debt_c6) 13 0)) 46 (va_up (va_up (J 46) 3 v_judge_debt_c6) 4 v_judge_paid_c6)) 47 v_judge_stack_c6) (58 + 7 * i0))) ((zup_n (zneL0 (by decide : (47 : Nat) < 58))).trans ((zup_n (zneL0 (by decide : (46 : Nat) < 58))).trans zup_s)) rfl) hc_81) (by decide) rfl rfl (by first | decide | simp [Value.category, zva_cat]) dX8_goTo_81 (cs2 := (0, 0)) rfl ?_
      refine zb_S (S2 := ((va_up (va_up I (58 + 7 * i0) (va_up (va_up (I (58 + 7 * i0)) 11 v_told) 14 v_blanched_c6)) 46 (va_up (va_up (I 46) 1 v_judge_shire_c6) 2 v_judge_term_c6)), (va_up (va_up (va_up (va_up (va_up (va_up (va_up (va_up (va_up J (58 + 7 * i0 + 1) v_debts) (58 + 7 * i0 + 2) (vp_updL v_farms (ix x2) rc3)) (58 + 7 * i0 + 3) (vp_updL v_allowances (ix x2) rc5)) (58 + 7 * i0 + 4) (vp_updL v_pardons (ix x2) rc6)) (58 + 7 * i0 + 5) v_payments) (58 + 7 * i0 + 6) v_putOff_c2) (58 + 7 * i0) (va_up (va_up (J (58 + 7 * i0)) 12 v_debt_c7) 13 v_paid_c7)) 46 (va_up (va_up (J 46) 3 v_judge_debt_c6) 4 v_judge_paid_c6)) 47 v_judge_stack_c6), Rr, v_D)) (zS_eq3 rfl ((zcgV ((zcgF (zn2 (by decide : (13 : Nat) ≠ 12))).trans zn1)).trans (zn3 (Ne.symm (zneL0 (by decide : (47 : Nat) < 58))) (Ne.symm (zneL0 (by decide : (46 : Nat) < 58))))) rfl) ?_
      refine zb_aload_n E dX8_goTo_84 1 rfl rfl ?_
      refine zb_getX E (58 + 7 * i0) (by omega) (zFr C.X hi0 hkn) rfl zin8 8 (by decide) zw_284 ((zup_n (zneL0 (by decide : (46 : Nat) < 58))).trans zup_s) ((zup_n (zneL0 (by decide : (47 : Nat) < 58))).trans ((zup_n (zneL0 (by decide : (46 : Nat) < 58))).trans zup_s)) (v := .ref (C.X.1 + (58 + 7 * i0 + 5))) rfl dX8_goTo_85 ?_
      refine zb_iload_n E dX8_goTo_88 3 rfl rfl ?_
      refine zb_aload_n E dX8_goTo_89 1 rfl rfl ?_
      refine zb_getX E (58 + 7 * i0) (by omega) (zFr C.X hi0 hkn) rfl zin8 13 (by decide) zw_289 ((zup_n (zneL0 (by decide : (46 : Nat) < 58))).trans zup_s) ((zup_n (zneL0 (by decide : (47 : Nat) < 58))).trans ((zup_n (zneL0 (by decide : (46 : Nat) < 58))).trans zup_s)) (v := .long v_paid_c7) rfl dX8_goTo_90 ?_
      refine zb_last E (58 + 7 * i0 + 5) (by omega) (zFrA_5 hi0) (f := v_payments) (((zup_n (zneL (by decide : (47 : Nat) < 58))).trans ((zup_n (zneL (by decide : (46 : Nat) < 58))).trans ((zup_n (by omega : ((58 + 7 * i0 + 5) : Nat) ≠ (58 + 7 * i0))).trans ((zup_n (by omega : ((58 + 7 * i0 + 5) : Nat) ≠ (58 + 7 * i0 + 6))).trans zup_s))))) (ib_in g4) dX8_goTo_93 (J2 := (va_up (va_up (va_up (va_up (va_up (va_up (va_up (va_up (va_up J (58 + 7 * i0 + 1) v_debts) (58 + 7 * i0 + 2) (vp_updL v_farms (ix x2) rc3)) (58 + 7 * i0 + 3) (vp_updL v_allowances (ix x2) rc5)) (58 + 7 * i0 + 4) (vp_updL v_pardons (ix x2) rc6)) (58 + 7 * i0 + 5) (vp_updL v_payments (ix x2) v_paid_c7)) (58 + 7 * i0 + 6) v_putOff_c2) (58 + 7 * i0) (va_up (va_up (J (58 + 7 * i0)) 12 v_debt_c7) 13 v_paid_c7)) 46 (va_up (va_up (J 46) 3 v_judge_debt_c6) 4 v_judge_paid_c6)) 47 v_judge_stack_c6)) (zn5 (Ne.symm (zneL (by decide : (47 : Nat) < 58))) (Ne.symm (zneL (by decide : (46 : Nat) < 58))) (by omega : ((58 + 7 * i0) : Nat) ≠ (58 + 7 * i0 + 5)) (by omega : ((58 + 7 * i0 + 6) : Nat) ≠ (58 + 7 * i0 + 5))) ?_
      refine zb_aload_n E dX8_goTo_94 1 rfl rfl ?_
      refine zb_aload_nQ E dX8_goTo_95 0 rfl rfl ?_
      refine zb_iload_n E dX8_goTo_96 3 rfl rfl ?_
      obtain ⟨v_judge_debt_c8, v_judge_paid_c8, v_judge_shire_c8, v_judge_term_c8, v_judge_stack_c8, v_debt_c8, v_putOff_c8, hc_97, h⟩ := bd7_s h
      refine zb_cVv E [va_rf (zq C.X rc1), .int x2] (58 + 7 * i0) zy_X8_splitDebt zw_1056 (by omega) (zFr _ hi0 hkn _ _ _) rfl (c_X8_splitDebt i0 hi0 kn hkn (va_up (va_up (I 46) 1 v_judge_shire_c6) 2 v_judge_term_c6) zup_s (va_up (va_up (J (58 + 7 * i0)) 12 v_debt_c7) 13 v_paid_c7) ((zup_n (zneL0 (by decide : (47 : Nat) < 58))).trans ((zup_n (zneL0 (by decide : (46 : Nat) < 58))).trans zup_s)) (va_up (va_up (J 46) 3 v_judge_debt_c6) 4 v_judge_paid_c6) ((zup_n (by decide : (46 : Nat) ≠ 47)).trans zup_s) v_paid_c7 (zcf (f := ((va_up (va_up (va_up (va_up (va_up (va_up (va_up (va_up (va_up J (58 + 7 * i0 + 1) v_debts) (58 + 7 * i0 + 2) (vp_updL v_farms (ix x2) rc3)) (58 + 7 * i0 + 3) (vp_updL v_allowances (ix x2) rc5)) (58 + 7 * i0 + 4) (vp_updL v_pardons (ix x2) rc6)) (58 + 7 * i0 + 5) (vp_updL v_payments (ix x2) v_paid_c7)) (58 + 7 * i0 + 6) v_putOff_c2) (58 + 7 * i0) (va_up (va_up (J (58 + 7 * i0)) 12 v_debt_c7) 13 v_paid_c7)) 46 (va_up (va_up (J 46) 3 v_judge_debt_c6) 4 v_judge_paid_c6)) 47 v_judge_stack_c6) (58 + 7 * i0))) ((zup_n (zneL0 (by decide : (47 : Nat) < 58))).trans ((zup_n (zneL0 (by decide : (46 : Nat) < 58))).trans zup_s)) rfl) v_shire (zcf (f := ((va_up (va_up I (58 + 7 * i0) (va_up (va_up (I (58 + 7 * i0)) 11 v_told) 14 v_blanched_c6)) 46 (va_up (va_up (I 46) 1 v_judge_shire_c6) 2 v_judge_term_c6)) (58 + 7 * i0))) ((zup_n (zneL0 (by decide : (46 : Nat) < 58))).trans zup_s) (by exact e_v_shire)) v_judge_debt_c6 (zcf (f := ((va_up (va_up (va_up (va_up (va_up (va_up (va_up (va_up (va_up J (58 + 7 * i0 + 1) v_debts) (58 + 7 * i0 + 2) (vp_updL v_farms (ix x2) rc3)) (58 + 7 * i0 + 3) (vp_updL v_allowances (ix x2) rc5)) (58 + 7 * i0 + 4) (vp_updL v_pardons (ix x2) rc6)) (58 + 7 * i0 + 5) (vp_updL v_payments (ix x2) v_paid_c7)) (58 + 7 * i0 + 6) v_putOff_c2) (58 + 7 * i0) (va_up (va_up (J (58 + 7 * i0)) 12 v_debt_c7) 13 v_paid_c7)) 46 (va_up (va_up (J 46) 3 v_judge_debt_c6) 4 v_judge_paid_c6)) 47 v_judge_stack_c6) 46)) ((zup_n (by decide : (46 : Nat) ≠ 47)).trans zup_s) rfl) v_judge_paid_c6 (zcf (f := ((va_up (va_up (va_up (va_up (va_up (va_up (va_up (va_up (va_up J (58 + 7 * i0 + 1) v_debts) (58 + 7 * i0 + 2) (vp_updL v_farms (ix x2) rc3)) (58 + 7 * i0 + 3) (vp_updL v_allowances (ix x2) rc5)) (58 + 7 * i0 + 4) (vp_updL v_pardons (ix x2) rc6)) (58 + 7 * i0 + 5) (vp_updL v_payments (ix x2) v_paid_c7)) (58 + 7 * i0 + 6) v_putOff_c2) (58 + 7 * i0) (va_up (va_up (J (58 + 7 * i0)) 12 v_debt_c7) 13 v_paid_c7)) 46 (va_up (va_up (J 46) 3 v_judge_debt_c6) 4 v_judge_paid_c6)) 47 v_judge_stack_c6) 46)) ((zup_n (by decide : (46 : Nat) ≠ 47)).trans zup_s) rfl) v_judge_shire_c6 (zcf (f := ((va_up (va_up I (58 + 7 * i0) (va_up (va_up (I (58 + 7 * i0)) 11 v_told) 14 v_blanched_c6)) 46 (va_up (va_up (I 46) 1 v_judge_shire_c6) 2 v_judge_term_c6)) 46)) zup_s rfl) v_judge_term_c6 (zcf (f := ((va_up (va_up I (58 + 7 * i0) (va_up (va_up (I (58 + 7 * i0)) 11 v_told) 14 v_blanched_c6)) 46 (va_up (va_up (I 46) 1 v_judge_shire_c6) 2 v_judge_term_c6)) 46)) zup_s rfl) v_judge_stack_c6 zup_s v_debt_c7 (zcf (f := ((va_up (va_up (va_up (va_up (va_up (va_up (va_up (va_up (va_up J (58 + 7 * i0 + 1) v_debts) (58 + 7 * i0 + 2) (vp_updL v_farms (ix x2) rc3)) (58 + 7 * i0 + 3) (vp_updL v_allowances (ix x2) rc5)) (58 + 7 * i0 + 4) (vp_updL v_pardons (ix x2) rc6)) (58 + 7 * i0 + 5) (vp_updL v_payments (ix x2) v_paid_c7)) (58 + 7 * i0 + 6) v_putOff_c2) (58 + 7 * i0) (va_up (va_up (J (58 + 7 * i0)) 12 v_debt_c7) 13 v_paid_c7)) 46 (va_up (va_up (J 46) 3 v_judge_debt_c6) 4 v_judge_paid_c6)) 47 v_judge_stack_c6) (58 + 7 * i0))) ((zup_n (zneL0 (by decide : (47 : Nat) < 58))).trans ((zup_n (zneL0 (by decide : (46 : Nat) < 58))).trans zup_s)) rfl) v_putOff_c2 ((zup_n (zneL (by decide : (47 : Nat) < 58))).trans ((zup_n (zneL (by decide : (46 : Nat) < 58))).trans ((zup_n (by omega : ((58 + 7 * i0 + 6) : Nat) ≠ (58 + 7 * i0))).trans zup_s))) hc_97) (by decide) rfl rfl (by first | decide | simp [Value.category, zva_cat]) dX8_goTo_97 (cs2 := (0, 0)) rfl ?_
      refine zb_S (S2 := ((va_up (va_up I (58 + 7 * i0) (va_up (va_up (I (58 + 7 * i0)) 11 v_told) 14 v_blanched_c6)) 46 (va_up (va_up (I 46) 1 v_judge_shire_c8) 2 v_judge_term_c8)), (va_up (va_up (va_up (va_up (va_up (va_up (va_up (va_up (va_up J (58 + 7 * i0 + 1) v_debts) (58 + 7 * i0 + 2) (vp_updL v_farms (ix x2) rc3)) (58 + 7 * i0 + 3) (vp_updL v_allowances (ix x2) rc5)) (58 + 7 * i0 + 4) (vp_updL v_pardons (ix x2) rc6)) (58 + 7 * i0 + 5) (vp_updL v_payments (ix x2) v_paid_c7)) (58 + 7 * i0 + 6) v_putOff_c8) (58 + 7 * i0) (va_up (va_up (J (58 + 7 * i0)) 12 v_debt_c8) 13 v_paid_c7)) 46 (va_up (va_up (J 46) 3 v_judge_debt_c8) 4 v_judge_paid_c8)) 47 v_judge_stack_c8), Rr, v_D)) (zS_eq3 ((zcgV ((zcgF (zn2 (by decide : (2 : Nat) ≠ 1))).trans zn1)).trans zn1) ((zcgF ((zcgF ((zcgF (zn4 (Ne.symm (zneL (by decide : (47 : Nat) < 58))) (Ne.symm (zneL (by decide : (46 : Nat) < 58))) (by omega : ((58 + 7 * i0) : Nat) ≠ (58 + 7 * i0 + 6)))).trans ((zcgV (zn2 (by decide : (13 : Nat) ≠ 12))).trans (zn3 (Ne.symm (zneL0 (by decide : (47 : Nat) < 58))) (Ne.symm (zneL0 (by decide : (46 : Nat) < 58))))))).trans ((zcgV ((zcgF (zn2 (by decide : (4 : Nat) ≠ 3))).trans zn1)).trans (zn2 (by decide : (47 : Nat) ≠ 46))))).trans zn1) rfl) ?_
      refine zb_aload_n E dX8_goTo_100 1 rfl rfl ?_
      refine zb_getX E (58 + 7 * i0) (by omega) (zFr C.X hi0 hkn) rfl zin8 4 (by decide) zw_280 ((zup_n (zneL0 (by decide : (46 : Nat) < 58))).trans zup_s) ((zup_n (zneL0 (by decide : (47 : Nat) < 58))).trans ((zup_n (zneL0 (by decide : (46 : Nat) < 58))).trans zup_s)) (v := .ref (C.X.1 + (58 + 7 * i0 + 1))) rfl dX8_goTo_101 ?_
      refine zb_iload_n E dX8_goTo_104 3 rfl rfl ?_
      refine zb_aload_n E dX8_goTo_105 1 rfl rfl ?_
      refine zb_getX E (58 + 7 * i0) (by omega) (zFr C.X hi0 hkn) rfl zin8 12 (by decide) zw_288 ((zup_n (zneL0 (by decide : (46 : Nat) < 58))).trans zup_s) ((zup_n (zneL0 (by decide : (47 : Nat) < 58))).trans ((zup_n (zneL0 (by decide : (46 : Nat) < 58))).trans zup_s)) (v := .long v_debt_c8) rfl dX8_goTo_106 ?_
      refine zb_last E (58 + 7 * i0 + 1) (by omega) (zFrA_1 hi0) (f := v_debts) (((zup_n (zneL (by decide : (47 : Nat) < 58))).trans ((zup_n (zneL (by decide : (46 : Nat) < 58))).trans ((zup_n (by omega : ((58 + 7 * i0 + 1) : Nat) ≠ (58 + 7 * i0))).trans ((zup_n (by omega : ((58 + 7 * i0 + 1) : Nat) ≠ (58 + 7 * i0 + 6))).trans ((zup_n (by omega : ((58 + 7 * i0 + 1) : Nat) ≠ (58 + 7 * i0 + 5))).trans ((zup_n (by omega : ((58 + 7 * i0 + 1) : Nat) ≠ (58 + 7 * i0 + 4))).trans ((zup_n (by omega : ((58 + 7 * i0 + 1) : Nat) ≠ (58 + 7 * i0 + 3))).trans ((zup_n (by omega : ((58 + 7 * i0 + 1) : Nat) ≠ (58 + 7 * i0 + 2))).trans zup_s))))))))) (ib_in g4) dX8_goTo_109 (J2 := (va_up (va_up (va_up (va_up (va_up (va_up (va_up (va_up (va_up J (58 + 7 * i0 + 1) (vp_updL v_debts (ix x2) v_debt_c8)) (58 + 7 * i0 + 2) (vp_updL v_farms (ix x2) rc3)) (58 + 7 * i0 + 3) (vp_updL v_allowances (ix x2) rc5)) (58 + 7 * i0 + 4) (vp_updL v_pardons (ix x2) rc6)) (58 + 7 * i0 + 5) (vp_updL v_payments (ix x2) v_paid_c7)) (58 + 7 * i0 + 6) v_putOff_c8) (58 + 7 * i0) (va_up (va_up (J (58 + 7 * i0)) 12 v_debt_c8) 13 v_paid_c7)) 46 (va_up (va_up (J 46) 3 v_judge_debt_c8) 4 v_judge_paid_c8)) 47 v_judge_stack_c8)) (zn9 (Ne.symm (zneL (by decide : (47 : Nat) < 58))) (Ne.symm (zneL (by decide : (46 : Nat) < 58))) (by omega : ((58 + 7 * i0) : Nat) ≠ (58 + 7 * i0 + 1)) (by omega : ((58 + 7 * i0 + 6) : Nat) ≠ (58 + 7 * i0 + 1)) (by omega : ((58 + 7 * i0 + 5) : Nat) ≠ (58 + 7 * i0 + 1)) (by omega : ((58 + 7 * i0 + 4) : Nat) ≠ (58 + 7 * i0 + 1)) (by omega : ((58 + 7 * i0 + 3) : Nat) ≠ (58 + 7 * i0 + 1)) (by omega : ((58 + 7 * i0 + 2) : Nat) ≠ (58 + 7 * i0 + 1))) ?_
      refine zb_aload_n E dX8_goTo_110 1 rfl rfl ?_
      refine zb_iload_n E dX8_goTo_111 3 rfl rfl ?_
      refine zb_iconst E dX8_goTo_112 (v := 1) rfl ?_
      refine zb_iadd E dX8_goTo_113 ?_
      refine zb_putXI E (58 + 7 * i0) (by omega) (zFr C.X hi0 hkn) rfl zin8 11 (by decide) zw_287 tyX8 tyX8_ok nmX8 rfl rfl rfl ((zup_n (zneL0 (by decide : (46 : Nat) < 58))).trans zup_s) ((zup_n (zneL0 (by decide : (47 : Nat) < 58))).trans ((zup_n (zneL0 (by decide : (46 : Nat) < 58))).trans zup_s)) (zset8_11 C.X (58 + 7 * i0) kn _ _ (x2 + 1)) (by rw [zflen8]; decide) (I2 := (va_up (va_up I (58 + 7 * i0) (va_up (va_up (I (58 + 7 * i0)) 11 (x2 + 1)) 14 v_blanched_c6)) 46 (va_up (va_up (I 46) 1 v_judge_shire_c8) 2 v_judge_term_c8))) ((zcgV (zn2 (by decide : (14 : Nat) ≠ 11))).trans (zn2 (Ne.symm (zneL0 (by decide : (46 : Nat) < 58))))) dX8_goTo_114 ?_
      refine zb_iinc E dX8_goTo_117 3 rfl (v := (x2 + 1)) rfl (by decide) (lv2 := [(2, .int (x2 + 1)), (3, va_rf (zq C.X rc1)), (0, .ref (C.X.1 + (58 + 7 * i0))), (1, .int a1)]) rfl ?_
      refine zb_goto E dX8_goTo_120 (tgt := 5) rfl ?_
      refine zb_sub [2, 3, 0] rfl ?_
      exact ih (x2 + 1) v_judge_debt_c8 v_judge_paid_c8 v_judge_shire_c8 v_judge_term_c8 v_judge_stack_c8 v_blanched_c6 v_debt_c8 v_paid_c7 (x2 + 1) (vp_updL v_allowances (ix x2) rc5) (vp_updL v_debts (ix x2) v_debt_c8) (vp_updL v_farms (ix x2) rc3) (vp_updL v_pardons (ix x2) rc6) (vp_updL v_payments (ix x2) v_paid_c7) v_putOff_c8 h
theorem c_X8_goTo_0 {C : zC} {I : Nat → Nat → Int32} {J : Nat → Nat → Int64} {Rr : Nat → Nat → Option Nat} {v_D : zD} (i0 : Nat) (hi0 : i0 < 10) (kn : Nat) (hkn : (i0 < 8 ∧ kn = 48) ∨ (8 ≤ i0 ∧ kn = 53)) (N : Nat) (a1 : Int32) (v_acts_count : Int32) (e_v_acts_count : I 37 6 = v_acts_count) (v_acts_amounts : (Nat → Int32)) (e_v_acts_amounts : I 41 = v_acts_amounts) (v_acts_kinds : (Nat → Int32)) (e_v_acts_kinds : I 38 = v_acts_kinds) (v_acts_shires : (Nat → Int32)) (e_v_acts_shires : I 39 = v_acts_shires) (v_acts_writs : (Nat → Option Nat)) (e_v_acts_writs : Rr 43 = v_acts_writs) (v_chest_goodWorths : (Nat → Int32)) (e_v_chest_goodWorths : I 12 = v_chest_goodWorths) (v_known_fires : (Nat → Int32)) (e_v_known_fires : I (kn + 2) = v_known_fires) (v_known_firstPayments : (Nat → Int32)) (e_v_known_firstPayments : I (kn + 3) = v_known_firstPayments) (v_known_nextPayments : (Nat → Int32)) (e_v_known_nextPayments : I (kn + 4) = v_known_nextPayments) (v_known_writs : (Nat → Int32)) (e_v_known_writs : I (kn + 1) = v_known_writs) (v_shire : Int32) (e_v_shire : I (58 + 7 * i0) 10 = v_shire) (y_v_judge_debt : Int64) (y_v_judge_paid : Int64) (y_v_judge_shire : Int32) (y_v_judge_term : Int32) (y_v_judge_stack : (Nat → Int64)) (y_v_blanched : Int32) (y_v_debt : Int64) (y_v_paid : Int64) (y_v_told : Int32) (y_v_allowances : (Nat → Int64)) (y_v_debts : (Nat → Int64)) (y_v_farms : (Nat → Int64)) (y_v_pardons : (Nat → Int64)) (y_v_payments : (Nat → Int64)) (y_v_putOff : (Nat → Int64)) (E : zE C RX8 cX8_goTo 4 none ({ frames := 4, cells := 0, slots := 0, locals := 112 } : Room)) (hQ : C.Q = zQv C ({ frames := 4, cells := 0, slots := 0, locals := 112 } : Room) ((va_up (va_up I (58 + 7 * i0) (va_up (va_up (I (58 + 7 * i0)) 11 y_v_told) 14 y_v_blanched)) 46 (va_up (va_up (I 46) 1 y_v_judge_shire) 2 y_v_judge_term)), (va_up (va_up (va_up (va_up (va_up (va_up (va_up (va_up (va_up J (58 + 7 * i0 + 1) y_v_debts) (58 + 7 * i0 + 2) y_v_farms) (58 + 7 * i0 + 3) y_v_allowances) (58 + 7 * i0 + 4) y_v_pardons) (58 + 7 * i0 + 5) y_v_payments) (58 + 7 * i0 + 6) y_v_putOff) (58 + 7 * i0) (va_up (va_up (J (58 + 7 * i0)) 12 y_v_debt) 13 y_v_paid)) 46 (va_up (va_up (J 46) 3 y_v_judge_debt) 4 y_v_judge_paid)) 47 y_v_judge_stack), Rr, v_D)) (v_judge_debt : Int64) (v_judge_paid : Int64) (v_judge_shire : Int32) (v_judge_term : Int32) (v_judge_stack : (Nat → Int64)) (v_blanched : Int32) (v_debt : Int64) (v_paid : Int64) (v_told : Int32) (v_allowances : (Nat → Int64)) (v_debts : (Nat → Int64)) (v_farms : (Nat → Int64)) (v_pardons : (Nat → Int64)) (v_payments : (Nat → Int64)) (v_putOff : (Nat → Int64)) (h : pRoll_goTo N a1 v_acts_count v_acts_amounts v_acts_kinds v_acts_shires v_acts_writs v_chest_goodWorths v_D v_judge_debt v_judge_paid v_judge_shire v_judge_term v_judge_stack v_known_fires v_known_firstPayments v_known_nextPayments v_known_writs v_blanched v_debt v_paid v_shire v_told v_allowances v_debts v_farms v_pardons v_payments v_putOff = some (y_v_judge_debt, y_v_judge_paid, y_v_judge_shire, y_v_judge_term, y_v_judge_stack, y_v_blanched, y_v_debt, y_v_paid, y_v_told, y_v_allowances, y_v_debts, y_v_farms, y_v_pardons, y_v_payments, y_v_putOff)) : zB C (0, 0) 0 [(0, .ref (C.X.1 + (58 + 7 * i0))), (1, .int a1)] [] ((va_up (va_up I (58 + 7 * i0) (va_up (va_up (I (58 + 7 * i0)) 11 v_told) 14 v_blanched)) 46 (va_up (va_up (I 46) 1 v_judge_shire) 2 v_judge_term)), (va_up (va_up (va_up (va_up (va_up (va_up (va_up (va_up (va_up J (58 + 7 * i0 + 1) v_debts) (58 + 7 * i0 + 2) v_farms) (58 + 7 * i0 + 3) v_allowances) (58 + 7 * i0 + 4) v_pardons) (58 + 7 * i0 + 5) v_payments) (58 + 7 * i0 + 6) v_putOff) (58 + 7 * i0) (va_up (va_up (J (58 + 7 * i0)) 12 v_debt) 13 v_paid)) 46 (va_up (va_up (J 46) 3 v_judge_debt) 4 v_judge_paid)) 47 v_judge_stack), Rr, v_D) := by
  refine zb_aload_n E dX8_goTo_0 0 rfl rfl ?_
  refine zb_getX E (58 + 7 * i0) (by omega) (zFr C.X hi0 hkn) rfl zin8 11 (by decide) zw_287 ((zup_n (zneL0 (by decide : (46 : Nat) < 58))).trans zup_s) ((zup_n (zneL0 (by decide : (47 : Nat) < 58))).trans ((zup_n (zneL0 (by decide : (46 : Nat) < 58))).trans zup_s)) (v := .int v_told) rfl dX8_goTo_1 ?_
  refine zb_istore_n E dX8_goTo_4 rfl (by decide) (lv2 := [(2, .int v_told), (0, .ref (C.X.1 + (58 + 7 * i0))), (1, .int a1)]) rfl ?_
  refine zb_sub [1, 2, 0] rfl ?_
  exact c_X8_goTo_b5 i0 hi0 kn hkn N a1 v_acts_count e_v_acts_count v_acts_amounts e_v_acts_amounts v_acts_kinds e_v_acts_kinds v_acts_shires e_v_acts_shires v_acts_writs e_v_acts_writs v_chest_goodWorths e_v_chest_goodWorths v_known_fires e_v_known_fires v_known_firstPayments e_v_known_firstPayments v_known_nextPayments e_v_known_nextPayments v_known_writs e_v_known_writs v_shire e_v_shire y_v_judge_debt y_v_judge_paid y_v_judge_shire y_v_judge_term y_v_judge_stack y_v_blanched y_v_debt y_v_paid y_v_told y_v_allowances y_v_debts y_v_farms y_v_pardons y_v_payments y_v_putOff E hQ _ v_told v_judge_debt v_judge_paid v_judge_shire v_judge_term v_judge_stack v_blanched v_debt v_paid v_told v_allowances v_debts v_farms v_pardons v_payments v_putOff h
theorem c_X8_goTo {l : Launch} {X : zX} {I : Nat → Nat → Int32} {J : Nat → Nat → Int64} {Rr : Nat → Nat → Option Nat} {v_D : zD} (i0 : Nat) (hi0 : i0 < 10) (kn : Nat) (hkn : (i0 < 8 ∧ kn = 48) ∨ (8 ≤ i0 ∧ kn = 53)) {N : Nat} {a1 : Int32} (oI58_7_i0 : Nat → Int32) (eoI58_7_i0 : I (58 + 7 * i0) = oI58_7_i0) (oI46 : Nat → Int32) (eoI46 : I 46 = oI46) (oJ58_7_i0 : Nat → Int64) (eoJ58_7_i0 : J (58 + 7 * i0) = oJ58_7_i0) (oJ46 : Nat → Int64) (eoJ46 : J 46 = oJ46) (v_acts_count : Int32) (e_v_acts_count : I 37 6 = v_acts_count) (v_acts_amounts : (Nat → Int32)) (e_v_acts_amounts : I 41 = v_acts_amounts) (v_acts_kinds : (Nat → Int32)) (e_v_acts_kinds : I 38 = v_acts_kinds) (v_acts_shires : (Nat → Int32)) (e_v_acts_shires : I 39 = v_acts_shires) (v_acts_writs : (Nat → Option Nat)) (e_v_acts_writs : Rr 43 = v_acts_writs) (v_chest_goodWorths : (Nat → Int32)) (e_v_chest_goodWorths : I 12 = v_chest_goodWorths) (v_known_fires : (Nat → Int32)) (e_v_known_fires : I (kn + 2) = v_known_fires) (v_known_firstPayments : (Nat → Int32)) (e_v_known_firstPayments : I (kn + 3) = v_known_firstPayments) (v_known_nextPayments : (Nat → Int32)) (e_v_known_nextPayments : I (kn + 4) = v_known_nextPayments) (v_known_writs : (Nat → Int32)) (e_v_known_writs : I (kn + 1) = v_known_writs) (v_shire : Int32) (e_v_shire : I (58 + 7 * i0) 10 = v_shire) (v_judge_debt : Int64) (e_v_judge_debt : J 46 3 = v_judge_debt) (v_judge_paid : Int64) (e_v_judge_paid : J 46 4 = v_judge_paid) (v_judge_shire : Int32) (e_v_judge_shire : I 46 1 = v_judge_shire) (v_judge_term : Int32) (e_v_judge_term : I 46 2 = v_judge_term) (v_judge_stack : (Nat → Int64)) (e_v_judge_stack : J 47 = v_judge_stack) (v_blanched : Int32) (e_v_blanched : I (58 + 7 * i0) 14 = v_blanched) (v_debt : Int64) (e_v_debt : J (58 + 7 * i0) 12 = v_debt) (v_paid : Int64) (e_v_paid : J (58 + 7 * i0) 13 = v_paid) (v_told : Int32) (e_v_told : I (58 + 7 * i0) 11 = v_told) (v_allowances : (Nat → Int64)) (e_v_allowances : J (58 + 7 * i0 + 3) = v_allowances) (v_debts : (Nat → Int64)) (e_v_debts : J (58 + 7 * i0 + 1) = v_debts) (v_farms : (Nat → Int64)) (e_v_farms : J (58 + 7 * i0 + 2) = v_farms) (v_pardons : (Nat → Int64)) (e_v_pardons : J (58 + 7 * i0 + 4) = v_pardons) (v_payments : (Nat → Int64)) (e_v_payments : J (58 + 7 * i0 + 5) = v_payments) (v_putOff : (Nat → Int64)) (e_v_putOff : J (58 + 7 * i0 + 6) = v_putOff) {y_v_judge_debt : Int64} {y_v_judge_paid : Int64} {y_v_judge_shire : Int32} {y_v_judge_term : Int32} {y_v_judge_stack : (Nat → Int64)} {y_v_blanched : Int32} {y_v_debt : Int64} {y_v_paid : Int64} {y_v_told : Int32} {y_v_allowances : (Nat → Int64)} {y_v_debts : (Nat → Int64)} {y_v_farms : (Nat → Int64)} {y_v_pardons : (Nat → Int64)} {y_v_payments : (Nat → Int64)} {y_v_putOff : (Nat → Int64)} (h : pRoll_goTo N a1 v_acts_count v_acts_amounts v_acts_kinds v_acts_shires v_acts_writs v_chest_goodWorths v_D v_judge_debt v_judge_paid v_judge_shire v_judge_term v_judge_stack v_known_fires v_known_firstPayments v_known_nextPayments v_known_writs v_blanched v_debt v_paid v_shire v_told v_allowances v_debts v_farms v_pardons v_payments v_putOff = some (y_v_judge_debt, y_v_judge_paid, y_v_judge_shire, y_v_judge_term, y_v_judge_stack, y_v_blanched, y_v_debt, y_v_paid, y_v_told, y_v_allowances, y_v_debts, y_v_farms, y_v_pardons, y_v_payments, y_v_putOff)) : zMv l yX8_goTo cX8_goTo 4 none ({ frames := 4, cells := 0, slots := 0, locals := 112 } : Room) X [.ref (X.1 + (58 + 7 * i0)), .int a1] (I, J, Rr, v_D) ((va_up (va_up I (58 + 7 * i0) (va_up (va_up oI58_7_i0 11 y_v_told) 14 y_v_blanched)) 46 (va_up (va_up oI46 1 y_v_judge_shire) 2 y_v_judge_term)), (va_up (va_up (va_up (va_up (va_up (va_up (va_up (va_up (va_up J (58 + 7 * i0 + 1) y_v_debts) (58 + 7 * i0 + 2) y_v_farms) (58 + 7 * i0 + 3) y_v_allowances) (58 + 7 * i0 + 4) y_v_pardons) (58 + 7 * i0 + 5) y_v_payments) (58 + 7 * i0 + 6) y_v_putOff) (58 + 7 * i0) (va_up (va_up oJ58_7_i0 12 y_v_debt) 13 y_v_paid)) 46 (va_up (va_up oJ46 3 y_v_judge_debt) 4 y_v_judge_paid)) 47 y_v_judge_stack), Rr, v_D) := by
  subst eoI58_7_i0
  subst eoI46
  subst eoJ58_7_i0
  subst eoJ46
  refine zMv.of (by decide) (Nat.le_of_ble_eq_true rfl) (fun C E hl hX hQ => ?_)
  subst hl
  subst hX
  have eI0 : (va_up (va_up I (58 + 7 * i0) (va_up (va_up (I (58 + 7 * i0)) 11 v_told) 14 v_blanched)) 46 (va_up (va_up (I 46) 1 v_judge_shire) 2 v_judge_term)) = I := by rw [zup_idE e_v_told, zup_idE e_v_blanched, zup_id, zup_idE e_v_judge_shire, zup_idE e_v_judge_term, zup_id]
  have eJ0 : (va_up (va_up (va_up (va_up (va_up (va_up (va_up (va_up (va_up J (58 + 7 * i0 + 1) v_debts) (58 + 7 * i0 + 2) v_farms) (58 + 7 * i0 + 3) v_allowances) (58 + 7 * i0 + 4) v_pardons) (58 + 7 * i0 + 5) v_payments) (58 + 7 * i0 + 6) v_putOff) (58 + 7 * i0) (va_up (va_up (J (58 + 7 * i0)) 12 v_debt) 13 v_paid)) 46 (va_up (va_up (J 46) 3 v_judge_debt) 4 v_judge_paid)) 47 v_judge_stack) = J := by rw [zup_idE e_v_debts, zup_idE e_v_farms, zup_idE e_v_allowances, zup_idE e_v_pardons, zup_idE e_v_payments, zup_idE e_v_putOff, zup_idE e_v_debt, zup_idE e_v_paid, zup_id, zup_idE e_v_judge_debt, zup_idE e_v_judge_paid, zup_id, zup_idE e_v_judge_stack]
  refine zb_S (S2 := ((va_up (va_up I (58 + 7 * i0) (va_up (va_up (I (58 + 7 * i0)) 11 v_told) 14 v_blanched)) 46 (va_up (va_up (I 46) 1 v_judge_shire) 2 v_judge_term)), (va_up (va_up (va_up (va_up (va_up (va_up (va_up (va_up (va_up J (58 + 7 * i0 + 1) v_debts) (58 + 7 * i0 + 2) v_farms) (58 + 7 * i0 + 3) v_allowances) (58 + 7 * i0 + 4) v_pardons) (58 + 7 * i0 + 5) v_payments) (58 + 7 * i0 + 6) v_putOff) (58 + 7 * i0) (va_up (va_up (J (58 + 7 * i0)) 12 v_debt) 13 v_paid)) 46 (va_up (va_up (J 46) 3 v_judge_debt) 4 v_judge_paid)) 47 v_judge_stack), Rr, v_D)) (zS_eq eI0.symm eJ0.symm) ?_
  exact c_X8_goTo_0 i0 hi0 kn hkn N a1 v_acts_count e_v_acts_count v_acts_amounts e_v_acts_amounts v_acts_kinds e_v_acts_kinds v_acts_shires e_v_acts_shires v_acts_writs e_v_acts_writs v_chest_goodWorths e_v_chest_goodWorths v_known_fires e_v_known_fires v_known_firstPayments e_v_known_firstPayments v_known_nextPayments e_v_known_nextPayments v_known_writs e_v_known_writs v_shire e_v_shire y_v_judge_debt y_v_judge_paid y_v_judge_shire y_v_judge_term y_v_judge_stack y_v_blanched y_v_debt y_v_paid y_v_told y_v_allowances y_v_debts y_v_farms y_v_pardons y_v_payments y_v_putOff E hQ v_judge_debt v_judge_paid v_judge_shire v_judge_term v_judge_stack v_blanched v_debt v_paid v_told v_allowances v_debts v_farms v_pardons v_payments v_putOff h
-- ChequeredCloth$Roll.putOffAfter
theorem dX8_putOffAfter_0 : decode cX8_putOffAfter 0 = .ok (.lconst 0, 1) := by decide +kernel
theorem dX8_putOffAfter_1 : decode cX8_putOffAfter 1 = .ok (.lstore_n 2, 1) := by decide +kernel
theorem dX8_putOffAfter_2 : decode cX8_putOffAfter 2 = .ok (.iload_n 1, 1) := by decide +kernel
theorem dX8_putOffAfter_3 : decode cX8_putOffAfter 3 = .ok (.bipush 19, 2) := by decide +kernel
theorem dX8_putOffAfter_5 : decode cX8_putOffAfter 5 = .ok (.imul, 1) := by decide +kernel
theorem dX8_putOffAfter_6 : decode cX8_putOffAfter 6 = .ok (.istore 4, 2) := by decide +kernel
theorem dX8_putOffAfter_8 : decode cX8_putOffAfter 8 = .ok (.iload 4, 2) := by decide +kernel
theorem dX8_putOffAfter_10 : decode cX8_putOffAfter 10 = .ok (.iload_n 1, 1) := by decide +kernel
theorem dX8_putOffAfter_11 : decode cX8_putOffAfter 11 = .ok (.iconst 1, 1) := by decide +kernel
theorem dX8_putOffAfter_12 : decode cX8_putOffAfter 12 = .ok (.iadd, 1) := by decide +kernel
theorem dX8_putOffAfter_13 : decode cX8_putOffAfter 13 = .ok (.bipush 19, 2) := by decide +kernel
theorem dX8_putOffAfter_15 : decode cX8_putOffAfter 15 = .ok (.imul, 1) := by decide +kernel
theorem dX8_putOffAfter_16 : decode cX8_putOffAfter 16 = .ok (.if_icmp .ge 19, 3) := by decide +kernel
theorem dX8_putOffAfter_19 : decode cX8_putOffAfter 19 = .ok (.lload_n 2, 1) := by decide +kernel
theorem dX8_putOffAfter_20 : decode cX8_putOffAfter 20 = .ok (.aload_n 0, 1) := by decide +kernel
theorem dX8_putOffAfter_21 : decode cX8_putOffAfter 21 = .ok (.getfield 27, 3) := by decide +kernel
theorem dX8_putOffAfter_24 : decode cX8_putOffAfter 24 = .ok (.iload 4, 2) := by decide +kernel
theorem dX8_putOffAfter_26 : decode cX8_putOffAfter 26 = .ok (.laload, 1) := by decide +kernel
theorem dX8_putOffAfter_27 : decode cX8_putOffAfter 27 = .ok (.ladd, 1) := by decide +kernel
theorem dX8_putOffAfter_28 : decode cX8_putOffAfter 28 = .ok (.lstore_n 2, 1) := by decide +kernel
theorem dX8_putOffAfter_29 : decode cX8_putOffAfter 29 = .ok (.iinc 4 1, 3) := by decide +kernel
theorem dX8_putOffAfter_32 : decode cX8_putOffAfter 32 = .ok (.goto (-24), 3) := by decide +kernel
theorem dX8_putOffAfter_35 : decode cX8_putOffAfter 35 = .ok (.lload_n 2, 1) := by decide +kernel
theorem dX8_putOffAfter_36 : decode cX8_putOffAfter 36 = .ok (.lreturn, 1) := by decide +kernel
theorem zy_X8_putOffAfter : zYv yX8_putOffAfter cX8_putOffAfter 5 (some .long) 1 := ⟨zw_1069, zws_41, zw_11, zw_1070, by decide, by decide, by decide⟩
theorem c_X8_putOffAfter_b8 {C : zC} {I : Nat → Nat → Int32} {J : Nat → Nat → Int64} {Rr : Nat → Nat → Option Nat} {D : zD} (i0 : Nat) (hi0 : i0 < 10) (kn : Nat) (hkn : (i0 < 8 ∧ kn = 48) ∨ (8 ≤ i0 ∧ kn = 53)) (N : Nat) (a1 : Int32) (v_putOff : (Nat → Int64)) (e_v_putOff : J (58 + 7 * i0 + 6) = v_putOff) (rr : Int64) (E : zE C RX8 cX8_putOffAfter 5 (some .long) ({ frames := 0, cells := 0, slots := 0, locals := 0 } : Room)) (hQ : C.Q = zQl C ({ frames := 0, cells := 0, slots := 0, locals := 0 } : Room) rr (I, J, Rr, D))  : ∀ (n9 : Nat) (x2 : Int64) (x4 : Int32), pRoll_putOffAfter_b8 N a1 v_putOff n9 x2 x4 = some rr → zB C (0, 0) 8 [(0, .ref (C.X.1 + (58 + 7 * i0))), (1, .int a1), (2, .long x2), (4, .int x4)] [] (I, J, Rr, D) := by
  refine zlp2_ind (P := fun (x2 : Int64) (x4 : Int32) => zB C (0, 0) 8 [(0, .ref (C.X.1 + (58 + 7 * i0))), (1, .int a1), (2, .long x2), (4, .int x4)] [] (I, J, Rr, D)) (fun self ih => ?_)
  intro x2 x4 h
  refine zb_iload E dX8_putOffAfter_8 3 rfl ?_
  refine zb_iload_n E dX8_putOffAfter_10 1 rfl rfl ?_
  refine zb_iconst E dX8_putOffAfter_11 (v := 1) rfl ?_
  refine zb_iadd E dX8_putOffAfter_12 ?_
  refine zb_bipush E dX8_putOffAfter_13 (v := 19) rfl ?_
  refine zb_imul E dX8_putOffAfter_15 ?_
  refine zb_icmp_ge E dX8_putOffAfter_16 (tgt := 35) rfl (fun hc => ?_) (fun hc => ?_)
  · have h := if_t h hc
    refine zb_lload_n E dX8_putOffAfter_35 2 rfl rfl ?_
    obtain rfl := zinj1 h
    exact zb_lret E hQ rfl ⟨Nat.zero_le _, Nat.zero_le _⟩ dX8_putOffAfter_36
  · have h := if_f h hc
    refine zb_lload_n E dX8_putOffAfter_19 2 rfl rfl ?_
    refine zb_aload_n E dX8_putOffAfter_20 0 rfl rfl ?_
    refine zb_getX E (58 + 7 * i0) (by omega) (zFr C.X hi0 hkn) rfl zin8 9 (by decide) zw_285 rfl rfl (v := .ref (C.X.1 + (58 + 7 * i0 + 6))) rfl dX8_putOffAfter_21 ?_
    refine zb_iload E dX8_putOffAfter_24 3 rfl ?_
    obtain ⟨g1, h⟩ := gd_s h
    refine zb_lald E (58 + 7 * i0 + 6) (by omega) (zFrA_6 hi0) (f := v_putOff) e_v_putOff (ib_in g1) dX8_putOffAfter_26 ?_
    refine zb_ladd E dX8_putOffAfter_27 ?_
    refine zb_lstore_n E dX8_putOffAfter_28 rfl (by decide) (lv2 := [(2, .long (x2 + (v_putOff (ix x4)))), (0, .ref (C.X.1 + (58 + 7 * i0))), (1, .int a1), (4, .int x4)]) rfl ?_
    refine zb_iinc E dX8_putOffAfter_29 3 rfl (v := (x4 + 1)) rfl (by decide) (lv2 := [(4, .int (x4 + 1)), (2, .long (x2 + (v_putOff (ix x4)))), (0, .ref (C.X.1 + (58 + 7 * i0))), (1, .int a1)]) rfl ?_
    refine zb_goto E dX8_putOffAfter_32 (tgt := 8) rfl ?_
    refine zb_sub [2, 3, 1, 0] rfl ?_
    exact ih (x2 + (v_putOff (ix x4))) (x4 + 1) h
theorem c_X8_putOffAfter_0 {C : zC} {I : Nat → Nat → Int32} {J : Nat → Nat → Int64} {Rr : Nat → Nat → Option Nat} {D : zD} (i0 : Nat) (hi0 : i0 < 10) (kn : Nat) (hkn : (i0 < 8 ∧ kn = 48) ∨ (8 ≤ i0 ∧ kn = 53)) (N : Nat) (a1 : Int32) (v_putOff : (Nat → Int64)) (e_v_putOff : J (58 + 7 * i0 + 6) = v_putOff) (rr : Int64) (E : zE C RX8 cX8_putOffAfter 5 (some .long) ({ frames := 0, cells := 0, slots := 0, locals := 0 } : Room)) (hQ : C.Q = zQl C ({ frames := 0, cells := 0, slots := 0, locals := 0 } : Room) rr (I, J, Rr, D)) (h : pRoll_putOffAfter N a1 v_putOff = some rr) : zB C (0, 0) 0 [(0, .ref (C.X.1 + (58 + 7 * i0))), (1, .int a1)] [] (I, J, Rr, D) := by
  refine zb_lconst E dX8_putOffAfter_0 (v := 0) rfl ?_
  refine zb_lstore_n E dX8_putOffAfter_1 rfl (by decide) (lv2 := [(2, .long 0), (0, .ref (C.X.1 + (58 + 7 * i0))), (1, .int a1)]) rfl ?_
  refine zb_iload_n E dX8_putOffAfter_2 2 rfl rfl ?_
  refine zb_bipush E dX8_putOffAfter_3 (v := 19) rfl ?_
  refine zb_imul E dX8_putOffAfter_5 ?_
  refine zb_istore E dX8_putOffAfter_6 (by decide) (lv2 := [(4, .int (a1 * 19)), (2, .long 0), (0, .ref (C.X.1 + (58 + 7 * i0))), (1, .int a1)]) rfl ?_
  refine zb_sub [2, 3, 1, 0] rfl ?_
  exact c_X8_putOffAfter_b8 i0 hi0 kn hkn N a1 v_putOff e_v_putOff rr E hQ _ 0 (a1 * 19) h
theorem c_X8_putOffAfter {l : Launch} {X : zX} {I : Nat → Nat → Int32} {J : Nat → Nat → Int64} {Rr : Nat → Nat → Option Nat} {D : zD} (i0 : Nat) (hi0 : i0 < 10) (kn : Nat) (hkn : (i0 < 8 ∧ kn = 48) ∨ (8 ≤ i0 ∧ kn = 53)) {N : Nat} {a1 : Int32} (v_putOff : (Nat → Int64)) (e_v_putOff : J (58 + 7 * i0 + 6) = v_putOff) {rr : Int64} (h : pRoll_putOffAfter N a1 v_putOff = some rr) : zMl l yX8_putOffAfter cX8_putOffAfter 5 (some .long) ({ frames := 0, cells := 0, slots := 0, locals := 0 } : Room) X [.ref (X.1 + (58 + 7 * i0)), .int a1] (I, J, Rr, D) rr (I, J, Rr, D) := by
  refine zMl.of (by decide) (Nat.le_of_ble_eq_true rfl) (fun C E hl hX hQ => ?_)
  subst hl
  subst hX
  have eI0 : I = I := rfl
  have eJ0 : J = J := rfl
  refine zb_S (S2 := (I, J, Rr, D)) (zS_eq eI0.symm eJ0.symm) ?_
  exact c_X8_putOffAfter_0 i0 hi0 kn hkn N a1 v_putOff e_v_putOff rr E hQ h
-- ChequeredCloth$Roll.entry
theorem dX8_entry_0 : decode cX8_entry 0 = .ok (.iload_n 1, 1) := by decide +kernel
theorem dX8_entry_1 : decode cX8_entry 1 = .ok (.invokestatic 102, 3) := by decide +kernel
theorem dX8_entry_4 : decode cX8_entry 4 = .ok (.ifCond .ne 7, 3) := by decide +kernel
theorem dX8_entry_7 : decode cX8_entry 7 = .ok (.ldc2_w 106, 3) := by decide +kernel
theorem dX8_entry_10 : decode cX8_entry 10 = .ok (.lreturn, 1) := by decide +kernel
theorem dX8_entry_11 : decode cX8_entry 11 = .ok (.iload_n 2, 1) := by decide +kernel
theorem dX8_entry_12 : decode cX8_entry 12 = .ok (.tableswitch 112 0 6 #[44, 51, 57, 64, 71, 78, 85], 44) := by decide +kernel
theorem dX8_entry_56 : decode cX8_entry 56 = .ok (.aload_n 0, 1) := by decide +kernel
theorem dX8_entry_57 : decode cX8_entry 57 = .ok (.getfield 9, 3) := by decide +kernel
theorem dX8_entry_60 : decode cX8_entry 60 = .ok (.iload_n 1, 1) := by decide +kernel
theorem dX8_entry_61 : decode cX8_entry 61 = .ok (.laload, 1) := by decide +kernel
theorem dX8_entry_62 : decode cX8_entry 62 = .ok (.lreturn, 1) := by decide +kernel
theorem dX8_entry_63 : decode cX8_entry 63 = .ok (.aload_n 0, 1) := by decide +kernel
theorem dX8_entry_64 : decode cX8_entry 64 = .ok (.iload_n 1, 1) := by decide +kernel
theorem dX8_entry_65 : decode cX8_entry 65 = .ok (.invokevirtual 108, 3) := by decide +kernel
theorem dX8_entry_68 : decode cX8_entry 68 = .ok (.lreturn, 1) := by decide +kernel
theorem dX8_entry_69 : decode cX8_entry 69 = .ok (.aload_n 0, 1) := by decide +kernel
theorem dX8_entry_70 : decode cX8_entry 70 = .ok (.getfield 15, 3) := by decide +kernel
theorem dX8_entry_73 : decode cX8_entry 73 = .ok (.iload_n 1, 1) := by decide +kernel
theorem dX8_entry_74 : decode cX8_entry 74 = .ok (.laload, 1) := by decide +kernel
theorem dX8_entry_75 : decode cX8_entry 75 = .ok (.lreturn, 1) := by decide +kernel
theorem dX8_entry_76 : decode cX8_entry 76 = .ok (.aload_n 0, 1) := by decide +kernel
theorem dX8_entry_77 : decode cX8_entry 77 = .ok (.getfield 18, 3) := by decide +kernel
theorem dX8_entry_80 : decode cX8_entry 80 = .ok (.iload_n 1, 1) := by decide +kernel
theorem dX8_entry_81 : decode cX8_entry 81 = .ok (.laload, 1) := by decide +kernel
theorem dX8_entry_82 : decode cX8_entry 82 = .ok (.lreturn, 1) := by decide +kernel
theorem dX8_entry_83 : decode cX8_entry 83 = .ok (.aload_n 0, 1) := by decide +kernel
theorem dX8_entry_84 : decode cX8_entry 84 = .ok (.getfield 21, 3) := by decide +kernel
theorem dX8_entry_87 : decode cX8_entry 87 = .ok (.iload_n 1, 1) := by decide +kernel
theorem dX8_entry_88 : decode cX8_entry 88 = .ok (.laload, 1) := by decide +kernel
theorem dX8_entry_89 : decode cX8_entry 89 = .ok (.lreturn, 1) := by decide +kernel
theorem dX8_entry_90 : decode cX8_entry 90 = .ok (.aload_n 0, 1) := by decide +kernel
theorem dX8_entry_91 : decode cX8_entry 91 = .ok (.getfield 24, 3) := by decide +kernel
theorem dX8_entry_94 : decode cX8_entry 94 = .ok (.iload_n 1, 1) := by decide +kernel
theorem dX8_entry_95 : decode cX8_entry 95 = .ok (.laload, 1) := by decide +kernel
theorem dX8_entry_96 : decode cX8_entry 96 = .ok (.lreturn, 1) := by decide +kernel
theorem dX8_entry_97 : decode cX8_entry 97 = .ok (.aload_n 0, 1) := by decide +kernel
theorem dX8_entry_98 : decode cX8_entry 98 = .ok (.getfield 9, 3) := by decide +kernel
theorem dX8_entry_101 : decode cX8_entry 101 = .ok (.iload_n 1, 1) := by decide +kernel
theorem dX8_entry_102 : decode cX8_entry 102 = .ok (.laload, 1) := by decide +kernel
theorem dX8_entry_103 : decode cX8_entry 103 = .ok (.lconst 0, 1) := by decide +kernel
theorem dX8_entry_104 : decode cX8_entry 104 = .ok (.lcmp, 1) := by decide +kernel
theorem dX8_entry_105 : decode cX8_entry 105 = .ok (.ifCond .gt 17, 3) := by decide +kernel
theorem dX8_entry_108 : decode cX8_entry 108 = .ok (.aload_n 0, 1) := by decide +kernel
theorem dX8_entry_109 : decode cX8_entry 109 = .ok (.iload_n 1, 1) := by decide +kernel
theorem dX8_entry_110 : decode cX8_entry 110 = .ok (.invokevirtual 108, 3) := by decide +kernel
theorem dX8_entry_113 : decode cX8_entry 113 = .ok (.lconst 0, 1) := by decide +kernel
theorem dX8_entry_114 : decode cX8_entry 114 = .ok (.lcmp, 1) := by decide +kernel
theorem dX8_entry_115 : decode cX8_entry 115 = .ok (.ifCond .ne 7, 3) := by decide +kernel
theorem dX8_entry_118 : decode cX8_entry 118 = .ok (.lconst 1, 1) := by decide +kernel
theorem dX8_entry_119 : decode cX8_entry 119 = .ok (.goto 4, 3) := by decide +kernel
theorem dX8_entry_122 : decode cX8_entry 122 = .ok (.lconst 0, 1) := by decide +kernel
theorem dX8_entry_123 : decode cX8_entry 123 = .ok (.lreturn, 1) := by decide +kernel
theorem dX8_entry_124 : decode cX8_entry 124 = .ok (.ldc2_w 106, 3) := by decide +kernel
theorem dX8_entry_127 : decode cX8_entry 127 = .ok (.lreturn, 1) := by decide +kernel
theorem zy_X8_entry : zYv yX8_entry cX8_entry 3 (some .long) 2 := ⟨zw_1062, zw_1063, zw_11, zw_1064, by decide, by decide, by decide⟩
theorem c_X8_entry_0 {C : zC} {I : Nat → Nat → Int32} {J : Nat → Nat → Int64} {Rr : Nat → Nat → Option Nat} {D : zD} (i0 : Nat) (hi0 : i0 < 10) (kn : Nat) (hkn : (i0 < 8 ∧ kn = 48) ∨ (8 ≤ i0 ∧ kn = 53)) (N : Nat) (a1 : Int32) (a2 : Int32) (v_allowances : (Nat → Int64)) (e_v_allowances : J (58 + 7 * i0 + 3) = v_allowances) (v_debts : (Nat → Int64)) (e_v_debts : J (58 + 7 * i0 + 1) = v_debts) (v_farms : (Nat → Int64)) (e_v_farms : J (58 + 7 * i0 + 2) = v_farms) (v_pardons : (Nat → Int64)) (e_v_pardons : J (58 + 7 * i0 + 4) = v_pardons) (v_payments : (Nat → Int64)) (e_v_payments : J (58 + 7 * i0 + 5) = v_payments) (v_putOff : (Nat → Int64)) (e_v_putOff : J (58 + 7 * i0 + 6) = v_putOff) (rr : Int64) (E : zE C RX8 cX8_entry 3 (some .long) ({ frames := 1, cells := 0, slots := 0, locals := 24 } : Room)) (hQ : C.Q = zQl C ({ frames := 1, cells := 0, slots := 0, locals := 24 } : Room) rr (I, J, Rr, D)) (h : pRoll_entry N a1 a2 v_allowances v_debts v_farms v_pardons v_payments v_putOff = some rr) : zB C (0, 0) 0 [(0, .ref (C.X.1 + (58 + 7 * i0))), (1, .int a1), (2, .int a2)] [] (I, J, Rr, D) := by
  refine zb_iload_n E dX8_entry_0 1 rfl rfl ?_
  obtain ⟨rc1, hc_1, h⟩ := bd1_s h
  refine zb_cSNi E [.int a1] zy_X11_isTerm znw_37 (c_X11_isTerm hc_1) (by decide) rfl rfl (by first | decide | simp [Value.category]) dX8_entry_1 (cs2 := (0, 0)) rfl ?_
  refine zb_if_ne E dX8_entry_4 (tgt := 11) rfl (fun hc => ?_) (fun hc => ?_)
  · have h := if_f h hc
    refine zb_iload_n E dX8_entry_11 2 rfl rfl ?_
    by_cases hc0 : a2 = 0
    · have h := if_t h hc0
      refine zb_tableIn E dX8_entry_12 (tgt := 56) (by rw [hc0]; decide) (by rw [hc0]; decide) (by rw [hc0]; rfl) rfl ?_
      refine zb_aload_n E dX8_entry_56 0 rfl rfl ?_
      refine zb_getX E (58 + 7 * i0) (by omega) (zFr C.X hi0 hkn) rfl zin8 4 (by decide) zw_280 rfl rfl (v := .ref (C.X.1 + (58 + 7 * i0 + 1))) rfl dX8_entry_57 ?_
      refine zb_iload_n E dX8_entry_60 1 rfl rfl ?_
      obtain ⟨g2, h⟩ := gd_s h
      refine zb_lald E (58 + 7 * i0 + 1) (by omega) (zFrA_1 hi0) (f := v_debts) e_v_debts (ib_in g2) dX8_entry_61 ?_
      obtain rfl := zinj1 h
      exact zb_lret E hQ rfl ⟨Nat.zero_le _, Nat.zero_le _⟩ dX8_entry_62
    have h := if_f h hc0
    by_cases hc1 : a2 = 1
    · have h := if_t h hc1
      refine zb_tableIn E dX8_entry_12 (tgt := 63) (by rw [hc1]; decide) (by rw [hc1]; decide) (by rw [hc1]; rfl) rfl ?_
      refine zb_aload_n E dX8_entry_63 0 rfl rfl ?_
      refine zb_iload_n E dX8_entry_64 1 rfl rfl ?_
      obtain ⟨rc3, hc_65, h⟩ := bd1_s h
      refine zb_cVl E [.int a1] (58 + 7 * i0) zy_X8_putOffAfter zw_1067 (by omega) (zFr _ hi0 hkn _ _ _) rfl (c_X8_putOffAfter i0 hi0 kn hkn v_putOff e_v_putOff hc_65) (by decide) rfl rfl (by first | decide | simp [Value.category]) dX8_entry_65 (cs2 := (0, 0)) rfl ?_
      obtain rfl := zinj1 h
      exact zb_lret E hQ rfl ⟨Nat.zero_le _, Nat.zero_le _⟩ dX8_entry_68
    have h := if_f h hc1
    by_cases hc2 : a2 = 2
    · have h := if_t h hc2
      refine zb_tableIn E dX8_entry_12 (tgt := 69) (by rw [hc2]; decide) (by rw [hc2]; decide) (by rw [hc2]; rfl) rfl ?_
      refine zb_aload_n E dX8_entry_69 0 rfl rfl ?_
      refine zb_getX E (58 + 7 * i0) (by omega) (zFr C.X hi0 hkn) rfl zin8 5 (by decide) zw_281 rfl rfl (v := .ref (C.X.1 + (58 + 7 * i0 + 2))) rfl dX8_entry_70 ?_
      refine zb_iload_n E dX8_entry_73 1 rfl rfl ?_
      obtain ⟨g4, h⟩ := gd_s h
      refine zb_lald E (58 + 7 * i0 + 2) (by omega) (zFrA_2 hi0) (f := v_farms) e_v_farms (ib_in g4) dX8_entry_74 ?_
      obtain rfl := zinj1 h
      exact zb_lret E hQ rfl ⟨Nat.zero_le _, Nat.zero_le _⟩ dX8_entry_75
    have h := if_f h hc2
    by_cases hc3 : a2 = 3
    · have h := if_t h hc3
      refine zb_tableIn E dX8_entry_12 (tgt := 76) (by rw [hc3]; decide) (by rw [hc3]; decide) (by rw [hc3]; rfl) rfl ?_
      refine zb_aload_n E dX8_entry_76 0 rfl rfl ?_
      refine zb_getX E (58 + 7 * i0) (by omega) (zFr C.X hi0 hkn) rfl zin8 6 (by decide) zw_282 rfl rfl (v := .ref (C.X.1 + (58 + 7 * i0 + 3))) rfl dX8_entry_77 ?_
      refine zb_iload_n E dX8_entry_80 1 rfl rfl ?_
      obtain ⟨g5, h⟩ := gd_s h
      refine zb_lald E (58 + 7 * i0 + 3) (by omega) (zFrA_3 hi0) (f := v_allowances) e_v_allowances (ib_in g5) dX8_entry_81 ?_
      obtain rfl := zinj1 h
      exact zb_lret E hQ rfl ⟨Nat.zero_le _, Nat.zero_le _⟩ dX8_entry_82
    have h := if_f h hc3
    by_cases hc4 : a2 = 4
    · have h := if_t h hc4
      refine zb_tableIn E dX8_entry_12 (tgt := 83) (by rw [hc4]; decide) (by rw [hc4]; decide) (by rw [hc4]; rfl) rfl ?_
      refine zb_aload_n E dX8_entry_83 0 rfl rfl ?_
      refine zb_getX E (58 + 7 * i0) (by omega) (zFr C.X hi0 hkn) rfl zin8 7 (by decide) zw_283 rfl rfl (v := .ref (C.X.1 + (58 + 7 * i0 + 4))) rfl dX8_entry_84 ?_
      refine zb_iload_n E dX8_entry_87 1 rfl rfl ?_
      obtain ⟨g6, h⟩ := gd_s h
      refine zb_lald E (58 + 7 * i0 + 4) (by omega) (zFrA_4 hi0) (f := v_pardons) e_v_pardons (ib_in g6) dX8_entry_88 ?_
      obtain rfl := zinj1 h
      exact zb_lret E hQ rfl ⟨Nat.zero_le _, Nat.zero_le _⟩ dX8_entry_89
    have h := if_f h hc4
    by_cases hc5 : a2 = 5
    · have h := if_t h hc5
      refine zb_tableIn E dX8_entry_12 (tgt := 90) (by rw [hc5]; decide) (by rw [hc5]; decide) (by rw [hc5]; rfl) rfl ?_
      refine zb_aload_n E dX8_entry_90 0 rfl rfl ?_
      refine zb_getX E (58 + 7 * i0) (by omega) (zFr C.X hi0 hkn) rfl zin8 8 (by decide) zw_284 rfl rfl (v := .ref (C.X.1 + (58 + 7 * i0 + 5))) rfl dX8_entry_91 ?_
      refine zb_iload_n E dX8_entry_94 1 rfl rfl ?_
      obtain ⟨g7, h⟩ := gd_s h
      refine zb_lald E (58 + 7 * i0 + 5) (by omega) (zFrA_5 hi0) (f := v_payments) e_v_payments (ib_in g7) dX8_entry_95 ?_
      obtain rfl := zinj1 h
      exact zb_lret E hQ rfl ⟨Nat.zero_le _, Nat.zero_le _⟩ dX8_entry_96
    have h := if_f h hc5
    by_cases hc6 : a2 = 6
    · have h := if_t h hc6
      refine zb_tableIn E dX8_entry_12 (tgt := 97) (by rw [hc6]; decide) (by rw [hc6]; decide) (by rw [hc6]; rfl) rfl ?_
      refine zb_aload_n E dX8_entry_97 0 rfl rfl ?_
      refine zb_getX E (58 + 7 * i0) (by omega) (zFr C.X hi0 hkn) rfl zin8 4 (by decide) zw_280 rfl rfl (v := .ref (C.X.1 + (58 + 7 * i0 + 1))) rfl dX8_entry_98 ?_
      refine zb_iload_n E dX8_entry_101 1 rfl rfl ?_
      obtain ⟨g8, h⟩ := gd_s h
      refine zb_lald E (58 + 7 * i0 + 1) (by omega) (zFrA_1 hi0) (f := v_debts) e_v_debts (ib_in g8) dX8_entry_102 ?_
      refine zb_lconst E dX8_entry_103 (v := 0) rfl ?_
      refine zb_lcmp E dX8_entry_104 ?_
      refine zb_if_gt E dX8_entry_105 (tgt := 122) rfl (fun hc => ?_) (fun hc => ?_)
      · have h := if_t h hc
        refine zb_lconst E dX8_entry_122 (v := 0) rfl ?_
        obtain rfl := zinj1 h
        exact zb_lret E hQ rfl ⟨Nat.zero_le _, Nat.zero_le _⟩ dX8_entry_123
      · have h := if_f h hc
        refine zb_aload_n E dX8_entry_108 0 rfl rfl ?_
        refine zb_iload_n E dX8_entry_109 1 rfl rfl ?_
        obtain ⟨rc9, hc_110, h⟩ := bd1_s h
        refine zb_cVl E [.int a1] (58 + 7 * i0) zy_X8_putOffAfter zw_1067 (by omega) (zFr _ hi0 hkn _ _ _) rfl (c_X8_putOffAfter i0 hi0 kn hkn v_putOff e_v_putOff hc_110) (by decide) rfl rfl (by first | decide | simp [Value.category]) dX8_entry_110 (cs2 := (0, 0)) rfl ?_
        refine zb_lconst E dX8_entry_113 (v := 0) rfl ?_
        refine zb_lcmp E dX8_entry_114 ?_
        refine zb_if_ne E dX8_entry_115 (tgt := 122) rfl (fun hc => ?_) (fun hc => ?_)
        · have h := if_f h hc
          refine zb_lconst E dX8_entry_122 (v := 0) rfl ?_
          obtain rfl := zinj1 h
          exact zb_lret E hQ rfl ⟨Nat.zero_le _, Nat.zero_le _⟩ dX8_entry_123
        · have h := if_t h hc
          refine zb_lconst E dX8_entry_118 (v := 1) rfl ?_
          refine zb_goto E dX8_entry_119 (tgt := 123) rfl ?_
          obtain rfl := zinj1 h
          exact zb_lret E hQ rfl ⟨Nat.zero_le _, Nat.zero_le _⟩ dX8_entry_123
    have h := if_f h hc6
    have hz0 : ¬ (a2).toInt = (0 : Int) := fun e => hc0 (Int32.toInt_inj.mp (e.trans (by decide)))
    have hz1 : ¬ (a2).toInt = (1 : Int) := fun e => hc1 (Int32.toInt_inj.mp (e.trans (by decide)))
    have hz2 : ¬ (a2).toInt = (2 : Int) := fun e => hc2 (Int32.toInt_inj.mp (e.trans (by decide)))
    have hz3 : ¬ (a2).toInt = (3 : Int) := fun e => hc3 (Int32.toInt_inj.mp (e.trans (by decide)))
    have hz4 : ¬ (a2).toInt = (4 : Int) := fun e => hc4 (Int32.toInt_inj.mp (e.trans (by decide)))
    have hz5 : ¬ (a2).toInt = (5 : Int) := fun e => hc5 (Int32.toInt_inj.mp (e.trans (by decide)))
    have hz6 : ¬ (a2).toInt = (6 : Int) := fun e => hc6 (Int32.toInt_inj.mp (e.trans (by decide)))
    refine zb_tableOut E dX8_entry_12 (tgt := 124) (by omega) rfl ?_
    refine zb_ldc2 E dX8_entry_124 (v := (-2000000000000)) zw_1066 ?_
    obtain rfl := zinj1 h
    exact zb_lret E hQ rfl ⟨Nat.zero_le _, Nat.zero_le _⟩ dX8_entry_127
  · have h := if_t h hc
    refine zb_ldc2 E dX8_entry_7 (v := (-2000000000000)) zw_1066 ?_
    obtain rfl := zinj1 h
    exact zb_lret E hQ rfl ⟨Nat.zero_le _, Nat.zero_le _⟩ dX8_entry_10
theorem c_X8_entry {l : Launch} {X : zX} {I : Nat → Nat → Int32} {J : Nat → Nat → Int64} {Rr : Nat → Nat → Option Nat} {D : zD} (i0 : Nat) (hi0 : i0 < 10) (kn : Nat) (hkn : (i0 < 8 ∧ kn = 48) ∨ (8 ≤ i0 ∧ kn = 53)) {N : Nat} {a1 : Int32} {a2 : Int32} (v_allowances : (Nat → Int64)) (e_v_allowances : J (58 + 7 * i0 + 3) = v_allowances) (v_debts : (Nat → Int64)) (e_v_debts : J (58 + 7 * i0 + 1) = v_debts) (v_farms : (Nat → Int64)) (e_v_farms : J (58 + 7 * i0 + 2) = v_farms) (v_pardons : (Nat → Int64)) (e_v_pardons : J (58 + 7 * i0 + 4) = v_pardons) (v_payments : (Nat → Int64)) (e_v_payments : J (58 + 7 * i0 + 5) = v_payments) (v_putOff : (Nat → Int64)) (e_v_putOff : J (58 + 7 * i0 + 6) = v_putOff) {rr : Int64} (h : pRoll_entry N a1 a2 v_allowances v_debts v_farms v_pardons v_payments v_putOff = some rr) : zMl l yX8_entry cX8_entry 3 (some .long) ({ frames := 1, cells := 0, slots := 0, locals := 24 } : Room) X [.ref (X.1 + (58 + 7 * i0)), .int a1, .int a2] (I, J, Rr, D) rr (I, J, Rr, D) := by
  refine zMl.of (by decide) (Nat.le_of_ble_eq_true rfl) (fun C E hl hX hQ => ?_)
  subst hl
  subst hX
  have eI0 : I = I := rfl
  have eJ0 : J = J := rfl
  refine zb_S (S2 := (I, J, Rr, D)) (zS_eq eI0.symm eJ0.symm) ?_
  exact c_X8_entry_0 i0 hi0 kn hkn N a1 a2 v_allowances e_v_allowances v_debts e_v_debts v_farms e_v_farms v_pardons e_v_pardons v_payments e_v_payments v_putOff e_v_putOff rr E hQ h
-- ChequeredCloth$Roll.shireOf
theorem dX8_shireOf_0 : decode cX8_shireOf 0 = .ok (.aload_n 0, 1) := by decide +kernel
theorem dX8_shireOf_1 : decode cX8_shireOf 1 = .ok (.getfield 46, 3) := by decide +kernel
theorem dX8_shireOf_4 : decode cX8_shireOf 4 = .ok (.ireturn, 1) := by decide +kernel
theorem zy_X8_shireOf : zYv yX8_shireOf cX8_shireOf 1 (some .int) 0 := ⟨zw_1096, zw_1097, zw_11, zw_1098, by decide, by decide, by decide⟩
theorem c_X8_shireOf_0 {C : zC} {I : Nat → Nat → Int32} {J : Nat → Nat → Int64} {Rr : Nat → Nat → Option Nat} {D : zD} (i0 : Nat) (hi0 : i0 < 10) (kn : Nat) (hkn : (i0 < 8 ∧ kn = 48) ∨ (8 ≤ i0 ∧ kn = 53)) (v_shire : Int32) (e_v_shire : I (58 + 7 * i0) 10 = v_shire) (rr : Int32) (E : zE C RX8 cX8_shireOf 1 (some .int) ({ frames := 0, cells := 0, slots := 0, locals := 0 } : Room)) (hQ : C.Q = zQi C ({ frames := 0, cells := 0, slots := 0, locals := 0 } : Room) rr (I, J, Rr, D)) (h : pRoll_shireOf v_shire = some rr) : zB C (0, 0) 0 [(0, .ref (C.X.1 + (58 + 7 * i0)))] [] (I, J, Rr, D) := by
  refine zb_aload_n E dX8_shireOf_0 0 rfl rfl ?_
  refine zb_getX E (58 + 7 * i0) (by omega) (zFr C.X hi0 hkn) rfl zin8 10 (by decide) zw_286 rfl rfl (v := .int v_shire) (by exact congrArg (fun z => some (Value.int z)) e_v_shire) dX8_shireOf_1 ?_
  obtain rfl := zinj1 h
  exact zb_iret E hQ rfl ⟨Nat.zero_le _, Nat.zero_le _⟩ dX8_shireOf_4
theorem c_X8_shireOf {l : Launch} {X : zX} {I : Nat → Nat → Int32} {J : Nat → Nat → Int64} {Rr : Nat → Nat → Option Nat} {D : zD} (i0 : Nat) (hi0 : i0 < 10) (kn : Nat) (hkn : (i0 < 8 ∧ kn = 48) ∨ (8 ≤ i0 ∧ kn = 53)) (v_shire : Int32) (e_v_shire : I (58 + 7 * i0) 10 = v_shire) {rr : Int32} (h : pRoll_shireOf v_shire = some rr) : zMi l yX8_shireOf cX8_shireOf 1 (some .int) ({ frames := 0, cells := 0, slots := 0, locals := 0 } : Room) X [.ref (X.1 + (58 + 7 * i0))] (I, J, Rr, D) rr (I, J, Rr, D) := by
  refine zMi.of (by decide) (Nat.le_of_ble_eq_true rfl) (fun C E hl hX hQ => ?_)
  subst hl
  subst hX
  have eI0 : I = I := rfl
  have eJ0 : J = J := rfl
  refine zb_S (S2 := (I, J, Rr, D)) (zS_eq eI0.symm eJ0.symm) ?_
  exact c_X8_shireOf_0 i0 hi0 kn hkn v_shire e_v_shire rr E hQ h
-- ChequeredCloth$Roll.beginLike
theorem dX8_beginLike_0 : decode cX8_beginLike 0 = .ok (.aload_n 0, 1) := by decide +kernel
theorem dX8_beginLike_1 : decode cX8_beginLike 1 = .ok (.aload_n 1, 1) := by decide +kernel
theorem dX8_beginLike_2 : decode cX8_beginLike 2 = .ok (.getfield 46, 3) := by decide +kernel
theorem dX8_beginLike_5 : decode cX8_beginLike 5 = .ok (.putfield 46, 3) := by decide +kernel
theorem dX8_beginLike_8 : decode cX8_beginLike 8 = .ok (.aload_n 0, 1) := by decide +kernel
theorem dX8_beginLike_9 : decode cX8_beginLike 9 = .ok (.iconst 0, 1) := by decide +kernel
theorem dX8_beginLike_10 : decode cX8_beginLike 10 = .ok (.iload_n 2, 1) := by decide +kernel
theorem dX8_beginLike_11 : decode cX8_beginLike 11 = .ok (.aload_n 1, 1) := by decide +kernel
theorem dX8_beginLike_12 : decode cX8_beginLike 12 = .ok (.getfield 50, 3) := by decide +kernel
theorem dX8_beginLike_15 : decode cX8_beginLike 15 = .ok (.invokestatic 53, 3) := by decide +kernel
theorem dX8_beginLike_18 : decode cX8_beginLike 18 = .ok (.invokestatic 59, 3) := by decide +kernel
theorem dX8_beginLike_21 : decode cX8_beginLike 21 = .ok (.putfield 50, 3) := by decide +kernel
theorem dX8_beginLike_24 : decode cX8_beginLike 24 = .ok (.aload_n 1, 1) := by decide +kernel
theorem dX8_beginLike_25 : decode cX8_beginLike 25 = .ok (.getfield 9, 3) := by decide +kernel
theorem dX8_beginLike_28 : decode cX8_beginLike 28 = .ok (.iconst 0, 1) := by decide +kernel
theorem dX8_beginLike_29 : decode cX8_beginLike 29 = .ok (.aload_n 0, 1) := by decide +kernel
theorem dX8_beginLike_30 : decode cX8_beginLike 30 = .ok (.getfield 9, 3) := by decide +kernel
theorem dX8_beginLike_33 : decode cX8_beginLike 33 = .ok (.iconst 0, 1) := by decide +kernel
theorem dX8_beginLike_34 : decode cX8_beginLike 34 = .ok (.aload_n 0, 1) := by decide +kernel
theorem dX8_beginLike_35 : decode cX8_beginLike 35 = .ok (.getfield 50, 3) := by decide +kernel
theorem dX8_beginLike_38 : decode cX8_beginLike 38 = .ok (.invokestatic 62, 3) := by decide +kernel
theorem dX8_beginLike_41 : decode cX8_beginLike 41 = .ok (.aload_n 1, 1) := by decide +kernel
theorem dX8_beginLike_42 : decode cX8_beginLike 42 = .ok (.getfield 27, 3) := by decide +kernel
theorem dX8_beginLike_45 : decode cX8_beginLike 45 = .ok (.iconst 0, 1) := by decide +kernel
theorem dX8_beginLike_46 : decode cX8_beginLike 46 = .ok (.aload_n 0, 1) := by decide +kernel
theorem dX8_beginLike_47 : decode cX8_beginLike 47 = .ok (.getfield 27, 3) := by decide +kernel
theorem dX8_beginLike_50 : decode cX8_beginLike 50 = .ok (.iconst 0, 1) := by decide +kernel
theorem dX8_beginLike_51 : decode cX8_beginLike 51 = .ok (.aload_n 0, 1) := by decide +kernel
theorem dX8_beginLike_52 : decode cX8_beginLike 52 = .ok (.getfield 50, 3) := by decide +kernel
theorem dX8_beginLike_55 : decode cX8_beginLike 55 = .ok (.bipush 19, 2) := by decide +kernel
theorem dX8_beginLike_57 : decode cX8_beginLike 57 = .ok (.imul, 1) := by decide +kernel
theorem dX8_beginLike_58 : decode cX8_beginLike 58 = .ok (.invokestatic 62, 3) := by decide +kernel
theorem dX8_beginLike_61 : decode cX8_beginLike 61 = .ok (.return_, 1) := by decide +kernel
theorem zy_X8_beginLike : zYv yX8_beginLike cX8_beginLike 3 none 2 := ⟨zw_1104, zw_1105, zw_11, zw_1106, by decide, by decide, by decide⟩
theorem c_X8_beginLike_0 {C : zC} {I : Nat → Nat → Int32} {J : Nat → Nat → Int64} {Rr : Nat → Nat → Option Nat} {D : zD} (i0 : Nat) (hi0 : i0 < 10) (kn : Nat) (hkn : (i0 < 8 ∧ kn = 48) ∨ (8 ≤ i0 ∧ kn = 53)) (j0 : Nat) (hj0 : j0 < 10) (hij : i0 ≠ j0) (a2 : Int32) (v_a1_shire : Int32) (e_v_a1_shire : I (58 + 7 * j0) 10 = v_a1_shire) (v_a1_told : Int32) (e_v_a1_told : I (58 + 7 * j0) 11 = v_a1_told) (v_a1_debts : (Nat → Int64)) (e_v_a1_debts : J (58 + 7 * j0 + 1) = v_a1_debts) (v_a1_putOff : (Nat → Int64)) (e_v_a1_putOff : J (58 + 7 * j0 + 6) = v_a1_putOff) (y_v_shire : Int32) (y_v_told : Int32) (y_v_debts : (Nat → Int64)) (y_v_putOff : (Nat → Int64)) (E : zE C RX8 cX8_beginLike 3 none ({ frames := 1, cells := 0, slots := 0, locals := 72 } : Room)) (hQ : C.Q = zQv C ({ frames := 1, cells := 0, slots := 0, locals := 72 } : Room) ((va_up I (58 + 7 * i0) (va_up (va_up (I (58 + 7 * i0)) 10 y_v_shire) 11 y_v_told)), (va_up (va_up J (58 + 7 * i0 + 1) y_v_debts) (58 + 7 * i0 + 6) y_v_putOff), Rr, D)) (v_shire : Int32) (v_told : Int32) (v_debts : (Nat → Int64)) (v_putOff : (Nat → Int64)) (h : pRoll_beginLike a2 v_a1_shire v_a1_told v_a1_debts v_a1_putOff v_shire v_told v_debts v_putOff = some (y_v_shire, y_v_told, y_v_debts, y_v_putOff)) : zB C (0, 0) 0 [(0, .ref (C.X.1 + (58 + 7 * i0))), (1, .ref (C.X.1 + (58 + 7 * j0))), (2, .int a2)] [] ((va_up I (58 + 7 * i0) (va_up (va_up (I (58 + 7 * i0)) 10 v_shire) 11 v_told)), (va_up (va_up J (58 + 7 * i0 + 1) v_debts) (58 + 7 * i0 + 6) v_putOff), Rr, D) := by
  refine zb_aload_n E dX8_beginLike_0 0 rfl rfl ?_
  refine zb_aload_n E dX8_beginLike_1 1 rfl rfl ?_
  refine zb_getX E (58 + 7 * j0) (by omega) (zFr C.X hj0 (zkj j0)) rfl zin8 10 (by decide) zw_286 (zup_n (by omega : ((58 + 7 * j0) : Nat) ≠ (58 + 7 * i0))) ((zup_n (by omega : ((58 + 7 * j0) : Nat) ≠ (58 + 7 * i0 + 6))).trans (zup_n (by omega : ((58 + 7 * j0) : Nat) ≠ (58 + 7 * i0 + 1)))) (v := .int v_a1_shire) (by exact congrArg (fun z => some (Value.int z)) e_v_a1_shire) dX8_beginLike_2 ?_
  refine zb_putXI E (58 + 7 * i0) (by omega) (zFr C.X hi0 hkn) rfl zin8 10 (by decide) zw_286 tyX8 tyX8_ok nmX8 rfl rfl rfl zup_s ((zup_n (by omega : ((58 + 7 * i0) : Nat) ≠ (58 + 7 * i0 + 6))).trans (zup_n (by omega : ((58 + 7 * i0) : Nat) ≠ (58 + 7 * i0 + 1)))) (zset8_10 C.X (58 + 7 * i0) kn _ _ v_a1_shire) (by rw [zflen8]; decide) (I2 := (va_up I (58 + 7 * i0) (va_up (va_up (I (58 + 7 * i0)) 10 v_a1_shire) 11 v_told))) ((zcgV (zn2 (by decide : (11 : Nat) ≠ 10))).trans zn1) dX8_beginLike_5 ?_
  refine zb_aload_n E dX8_beginLike_8 0 rfl rfl ?_
  refine zb_iconst E dX8_beginLike_9 (v := 0) rfl ?_
  refine zb_iload_n E dX8_beginLike_10 2 rfl rfl ?_
  refine zb_aload_n E dX8_beginLike_11 1 rfl rfl ?_
  refine zb_getX E (58 + 7 * j0) (by omega) (zFr C.X hj0 (zkj j0)) rfl zin8 11 (by decide) zw_287 (zup_n (by omega : ((58 + 7 * j0) : Nat) ≠ (58 + 7 * i0))) ((zup_n (by omega : ((58 + 7 * j0) : Nat) ≠ (58 + 7 * i0 + 6))).trans (zup_n (by omega : ((58 + 7 * j0) : Nat) ≠ (58 + 7 * i0 + 1)))) (v := .int v_a1_told) (by exact congrArg (fun z => some (Value.int z)) e_v_a1_told) dX8_beginLike_12 ?_
  refine zb_mmin E zYm_mmin zw_1060 (by decide) (by first | decide | simp [Value.category]) dX8_beginLike_15 ?_
  refine zb_mmax E zYm_mmax zw_1107 (by decide) (by first | decide | simp [Value.category]) dX8_beginLike_18 ?_
  refine zb_putXI E (58 + 7 * i0) (by omega) (zFr C.X hi0 hkn) rfl zin8 11 (by decide) zw_287 tyX8 tyX8_ok nmX8 rfl rfl rfl zup_s ((zup_n (by omega : ((58 + 7 * i0) : Nat) ≠ (58 + 7 * i0 + 6))).trans (zup_n (by omega : ((58 + 7 * i0) : Nat) ≠ (58 + 7 * i0 + 1)))) (zset8_11 C.X (58 + 7 * i0) kn _ _ (m_max 0 (m_min a2 v_a1_told))) (by rw [zflen8]; decide) (I2 := (va_up I (58 + 7 * i0) (va_up (va_up (I (58 + 7 * i0)) 10 v_a1_shire) 11 (m_max 0 (m_min a2 v_a1_told))))) ((zcgV zn1).trans zn1) dX8_beginLike_21 ?_
  refine zb_aload_n E dX8_beginLike_24 1 rfl rfl ?_
  refine zb_getX E (58 + 7 * j0) (by omega) (zFr C.X hj0 (zkj j0)) rfl zin8 4 (by decide) zw_280 (zup_n (by omega : ((58 + 7 * j0) : Nat) ≠ (58 + 7 * i0))) ((zup_n (by omega : ((58 + 7 * j0) : Nat) ≠ (58 + 7 * i0 + 6))).trans (zup_n (by omega : ((58 + 7 * j0) : Nat) ≠ (58 + 7 * i0 + 1)))) (v := .ref (C.X.1 + (58 + 7 * j0 + 1))) rfl dX8_beginLike_25 ?_
  refine zb_iconst E dX8_beginLike_28 (v := 0) rfl ?_
  refine zb_aload_n E dX8_beginLike_29 0 rfl rfl ?_
  refine zb_getX E (58 + 7 * i0) (by omega) (zFr C.X hi0 hkn) rfl zin8 4 (by decide) zw_280 zup_s ((zup_n (by omega : ((58 + 7 * i0) : Nat) ≠ (58 + 7 * i0 + 6))).trans (zup_n (by omega : ((58 + 7 * i0) : Nat) ≠ (58 + 7 * i0 + 1)))) (v := .ref (C.X.1 + (58 + 7 * i0 + 1))) rfl dX8_beginLike_30 ?_
  refine zb_iconst E dX8_beginLike_33 (v := 0) rfl ?_
  refine zb_aload_n E dX8_beginLike_34 0 rfl rfl ?_
  refine zb_getX E (58 + 7 * i0) (by omega) (zFr C.X hi0 hkn) rfl zin8 11 (by decide) zw_287 zup_s ((zup_n (by omega : ((58 + 7 * i0) : Nat) ≠ (58 + 7 * i0 + 6))).trans (zup_n (by omega : ((58 + 7 * i0) : Nat) ≠ (58 + 7 * i0 + 1)))) (v := .int (m_max 0 (m_min a2 v_a1_told))) rfl dX8_beginLike_35 ?_
  obtain ⟨g1, h⟩ := gd_s h
  refine zb_copyJ E (58 + 7 * j0 + 1) (58 + 7 * i0 + 1) (by omega) (by omega) (zFrA_1 hj0) (zFrA_1 hi0) (f := v_a1_debts) (((zup_n (by omega : ((58 + 7 * j0 + 1) : Nat) ≠ (58 + 7 * i0 + 6))).trans (zup_n (by omega : ((58 + 7 * j0 + 1) : Nat) ≠ (58 + 7 * i0 + 1)))).trans e_v_a1_debts) (g := v_debts) (((zup_n (by omega : ((58 + 7 * i0 + 1) : Nat) ≠ (58 + 7 * i0 + 6))).trans zup_s)) g1 zw_993 (by decide) (by first | decide | simp [Value.category]) dX8_beginLike_38 (J2 := (va_up (va_up J (58 + 7 * i0 + 1) (va_cpy v_a1_debts v_debts (ix 0) (ix 0) (ix (m_max 0 (m_min a2 v_a1_told))))) (58 + 7 * i0 + 6) v_putOff)) (zn2 (by omega : ((58 + 7 * i0 + 6) : Nat) ≠ (58 + 7 * i0 + 1))) ?_
  refine zb_aload_n E dX8_beginLike_41 1 rfl rfl ?_
  refine zb_getX E (58 + 7 * j0) (by omega) (zFr C.X hj0 (zkj j0)) rfl zin8 9 (by decide) zw_285 (zup_n (by omega : ((58 + 7 * j0) : Nat) ≠ (58 + 7 * i0))) ((zup_n (by omega : ((58 + 7 * j0) : Nat) ≠ (58 + 7 * i0 + 6))).trans (zup_n (by omega : ((58 + 7 * j0) : Nat) ≠ (58 + 7 * i0 + 1)))) (v := .ref (C.X.1 + (58 + 7 * j0 + 6))) rfl dX8_beginLike_42 ?_
  refine zb_iconst E dX8_beginLike_45 (v := 0) rfl ?_
  refine zb_aload_n E dX8_beginLike_46 0 rfl rfl ?_
  refine zb_getX E (58 + 7 * i0) (by omega) (zFr C.X hi0 hkn) rfl zin8 9 (by decide) zw_285 zup_s ((zup_n (by omega : ((58 + 7 * i0) : Nat) ≠ (58 + 7 * i0 + 6))).trans (zup_n (by omega : ((58 + 7 * i0) : Nat) ≠ (58 + 7 * i0 + 1)))) (v := .ref (C.X.1 + (58 + 7 * i0 + 6))) rfl dX8_beginLike_47 ?_
  refine zb_iconst E dX8_beginLike_50 (v := 0) rfl ?_
  refine zb_aload_n E dX8_beginLike_51 0 rfl rfl ?_
  refine zb_getX E (58 + 7 * i0) (by omega) (zFr C.X hi0 hkn) rfl zin8 11 (by decide) zw_287 zup_s ((zup_n (by omega : ((58 + 7 * i0) : Nat) ≠ (58 + 7 * i0 + 6))).trans (zup_n (by omega : ((58 + 7 * i0) : Nat) ≠ (58 + 7 * i0 + 1)))) (v := .int (m_max 0 (m_min a2 v_a1_told))) rfl dX8_beginLike_52 ?_
  refine zb_bipush E dX8_beginLike_55 (v := 19) rfl ?_
  refine zb_imul E dX8_beginLike_57 ?_
  obtain ⟨g2, h⟩ := gd_s h
  refine zb_copyJ E (58 + 7 * j0 + 6) (58 + 7 * i0 + 6) (by omega) (by omega) (zFrA_6 hj0) (zFrA_6 hi0) (f := v_a1_putOff) (((zup_n (by omega : ((58 + 7 * j0 + 6) : Nat) ≠ (58 + 7 * i0 + 6))).trans (zup_n (by omega : ((58 + 7 * j0 + 6) : Nat) ≠ (58 + 7 * i0 + 1)))).trans e_v_a1_putOff) (g := v_putOff) (zup_s) g2 zw_993 (by decide) (by first | decide | simp [Value.category]) dX8_beginLike_58 (J2 := (va_up (va_up J (58 + 7 * i0 + 1) (va_cpy v_a1_debts v_debts (ix 0) (ix 0) (ix (m_max 0 (m_min a2 v_a1_told))))) (58 + 7 * i0 + 6) (va_cpy v_a1_putOff v_putOff (ix 0) (ix 0) (ix ((m_max 0 (m_min a2 v_a1_told)) * 19))))) zn1 ?_
  obtain ⟨rfl, rfl, rfl, rfl⟩ := zinj4 h
  exact zb_vret E hQ rfl ⟨Nat.zero_le _, Nat.zero_le _⟩ dX8_beginLike_61
theorem c_X8_beginLike {l : Launch} {X : zX} {I : Nat → Nat → Int32} {J : Nat → Nat → Int64} {Rr : Nat → Nat → Option Nat} {D : zD} (i0 : Nat) (hi0 : i0 < 10) (kn : Nat) (hkn : (i0 < 8 ∧ kn = 48) ∨ (8 ≤ i0 ∧ kn = 53)) (j0 : Nat) (hj0 : j0 < 10) (hij : i0 ≠ j0) {a2 : Int32} (oI58_7_i0 : Nat → Int32) (eoI58_7_i0 : I (58 + 7 * i0) = oI58_7_i0) (v_a1_shire : Int32) (e_v_a1_shire : I (58 + 7 * j0) 10 = v_a1_shire) (v_a1_told : Int32) (e_v_a1_told : I (58 + 7 * j0) 11 = v_a1_told) (v_a1_debts : (Nat → Int64)) (e_v_a1_debts : J (58 + 7 * j0 + 1) = v_a1_debts) (v_a1_putOff : (Nat → Int64)) (e_v_a1_putOff : J (58 + 7 * j0 + 6) = v_a1_putOff) (v_shire : Int32) (e_v_shire : I (58 + 7 * i0) 10 = v_shire) (v_told : Int32) (e_v_told : I (58 + 7 * i0) 11 = v_told) (v_debts : (Nat → Int64)) (e_v_debts : J (58 + 7 * i0 + 1) = v_debts) (v_putOff : (Nat → Int64)) (e_v_putOff : J (58 + 7 * i0 + 6) = v_putOff) {y_v_shire : Int32} {y_v_told : Int32} {y_v_debts : (Nat → Int64)} {y_v_putOff : (Nat → Int64)} (h : pRoll_beginLike a2 v_a1_shire v_a1_told v_a1_debts v_a1_putOff v_shire v_told v_debts v_putOff = some (y_v_shire, y_v_told, y_v_debts, y_v_putOff)) : zMv l yX8_beginLike cX8_beginLike 3 none ({ frames := 1, cells := 0, slots := 0, locals := 72 } : Room) X [.ref (X.1 + (58 + 7 * i0)), .ref (X.1 + (58 + 7 * j0)), .int a2] (I, J, Rr, D) ((va_up I (58 + 7 * i0) (va_up (va_up oI58_7_i0 10 y_v_shire) 11 y_v_told)), (va_up (va_up J (58 + 7 * i0 + 1) y_v_debts) (58 + 7 * i0 + 6) y_v_putOff), Rr, D) := by
  subst eoI58_7_i0
  refine zMv.of (by decide) (Nat.le_of_ble_eq_true rfl) (fun C E hl hX hQ => ?_)
  subst hl
  subst hX
  have eI0 : (va_up I (58 + 7 * i0) (va_up (va_up (I (58 + 7 * i0)) 10 v_shire) 11 v_told)) = I := by rw [zup_idE e_v_shire, zup_idE e_v_told, zup_id]
  have eJ0 : (va_up (va_up J (58 + 7 * i0 + 1) v_debts) (58 + 7 * i0 + 6) v_putOff) = J := by rw [zup_idE e_v_debts, zup_idE e_v_putOff]
  refine zb_S (S2 := ((va_up I (58 + 7 * i0) (va_up (va_up (I (58 + 7 * i0)) 10 v_shire) 11 v_told)), (va_up (va_up J (58 + 7 * i0 + 1) v_debts) (58 + 7 * i0 + 6) v_putOff), Rr, D)) (zS_eq eI0.symm eJ0.symm) ?_
  exact c_X8_beginLike_0 i0 hi0 kn hkn j0 hj0 hij a2 v_a1_shire e_v_a1_shire v_a1_told e_v_a1_told v_a1_debts e_v_a1_debts v_a1_putOff e_v_a1_putOff y_v_shire y_v_told y_v_debts y_v_putOff E hQ v_shire v_told v_debts v_putOff h
-- ChequeredCloth$Roll.nextTerm
theorem dX8_nextTerm_0 : decode cX8_nextTerm 0 = .ok (.aload_n 0, 1) := by decide +kernel
theorem dX8_nextTerm_1 : decode cX8_nextTerm 1 = .ok (.getfield 50, 3) := by decide +kernel
theorem dX8_nextTerm_4 : decode cX8_nextTerm 4 = .ok (.ireturn, 1) := by decide +kernel
theorem zy_X8_nextTerm : zYv yX8_nextTerm cX8_nextTerm 1 (some .int) 0 := ⟨zw_1113, zw_1114, zw_11, zw_1115, by decide, by decide, by decide⟩
theorem c_X8_nextTerm_0 {C : zC} {I : Nat → Nat → Int32} {J : Nat → Nat → Int64} {Rr : Nat → Nat → Option Nat} {D : zD} (i0 : Nat) (hi0 : i0 < 10) (kn : Nat) (hkn : (i0 < 8 ∧ kn = 48) ∨ (8 ≤ i0 ∧ kn = 53)) (v_told : Int32) (e_v_told : I (58 + 7 * i0) 11 = v_told) (rr : Int32) (E : zE C RX8 cX8_nextTerm 1 (some .int) ({ frames := 0, cells := 0, slots := 0, locals := 0 } : Room)) (hQ : C.Q = zQi C ({ frames := 0, cells := 0, slots := 0, locals := 0 } : Room) rr (I, J, Rr, D)) (h : pRoll_nextTerm v_told = some rr) : zB C (0, 0) 0 [(0, .ref (C.X.1 + (58 + 7 * i0)))] [] (I, J, Rr, D) := by
  refine zb_aload_n E dX8_nextTerm_0 0 rfl rfl ?_
  refine zb_getX E (58 + 7 * i0) (by omega) (zFr C.X hi0 hkn) rfl zin8 11 (by decide) zw_287 rfl rfl (v := .int v_told) (by exact congrArg (fun z => some (Value.int z)) e_v_told) dX8_nextTerm_1 ?_
  obtain rfl := zinj1 h
  exact zb_iret E hQ rfl ⟨Nat.zero_le _, Nat.zero_le _⟩ dX8_nextTerm_4
theorem c_X8_nextTerm {l : Launch} {X : zX} {I : Nat → Nat → Int32} {J : Nat → Nat → Int64} {Rr : Nat → Nat → Option Nat} {D : zD} (i0 : Nat) (hi0 : i0 < 10) (kn : Nat) (hkn : (i0 < 8 ∧ kn = 48) ∨ (8 ≤ i0 ∧ kn = 53)) (v_told : Int32) (e_v_told : I (58 + 7 * i0) 11 = v_told) {rr : Int32} (h : pRoll_nextTerm v_told = some rr) : zMi l yX8_nextTerm cX8_nextTerm 1 (some .int) ({ frames := 0, cells := 0, slots := 0, locals := 0 } : Room) X [.ref (X.1 + (58 + 7 * i0))] (I, J, Rr, D) rr (I, J, Rr, D) := by
  refine zMi.of (by decide) (Nat.le_of_ble_eq_true rfl) (fun C E hl hX hQ => ?_)
  subst hl
  subst hX
  have eI0 : I = I := rfl
  have eJ0 : J = J := rfl
  refine zb_S (S2 := (I, J, Rr, D)) (zS_eq eI0.symm eJ0.symm) ?_
  exact c_X8_nextTerm_0 i0 hi0 kn hkn v_told e_v_told rr E hQ h
-- ChequeredCloth$Roll.isLike
theorem dX8_isLike_0 : decode cX8_isLike 0 = .ok (.iload_n 2, 1) := by decide +kernel
theorem dX8_isLike_1 : decode cX8_isLike 1 = .ok (.invokestatic 102, 3) := by decide +kernel
theorem dX8_isLike_4 : decode cX8_isLike 4 = .ok (.ifCond .eq 19, 3) := by decide +kernel
theorem dX8_isLike_7 : decode cX8_isLike 7 = .ok (.aload_n 0, 1) := by decide +kernel
theorem dX8_isLike_8 : decode cX8_isLike 8 = .ok (.getfield 9, 3) := by decide +kernel
theorem dX8_isLike_11 : decode cX8_isLike 11 = .ok (.iload_n 2, 1) := by decide +kernel
theorem dX8_isLike_12 : decode cX8_isLike 12 = .ok (.laload, 1) := by decide +kernel
theorem dX8_isLike_13 : decode cX8_isLike 13 = .ok (.aload_n 1, 1) := by decide +kernel
theorem dX8_isLike_14 : decode cX8_isLike 14 = .ok (.getfield 9, 3) := by decide +kernel
theorem dX8_isLike_17 : decode cX8_isLike 17 = .ok (.iload_n 2, 1) := by decide +kernel
theorem dX8_isLike_18 : decode cX8_isLike 18 = .ok (.laload, 1) := by decide +kernel
theorem dX8_isLike_19 : decode cX8_isLike 19 = .ok (.lcmp, 1) := by decide +kernel
theorem dX8_isLike_20 : decode cX8_isLike 20 = .ok (.ifCond .eq 5, 3) := by decide +kernel
theorem dX8_isLike_23 : decode cX8_isLike 23 = .ok (.iconst 0, 1) := by decide +kernel
theorem dX8_isLike_24 : decode cX8_isLike 24 = .ok (.ireturn, 1) := by decide +kernel
theorem dX8_isLike_25 : decode cX8_isLike 25 = .ok (.iload_n 2, 1) := by decide +kernel
theorem dX8_isLike_26 : decode cX8_isLike 26 = .ok (.bipush 19, 2) := by decide +kernel
theorem dX8_isLike_28 : decode cX8_isLike 28 = .ok (.imul, 1) := by decide +kernel
theorem dX8_isLike_29 : decode cX8_isLike 29 = .ok (.istore_n 3, 1) := by decide +kernel
theorem dX8_isLike_30 : decode cX8_isLike 30 = .ok (.iload_n 3, 1) := by decide +kernel
theorem dX8_isLike_31 : decode cX8_isLike 31 = .ok (.iload_n 2, 1) := by decide +kernel
theorem dX8_isLike_32 : decode cX8_isLike 32 = .ok (.iconst 1, 1) := by decide +kernel
theorem dX8_isLike_33 : decode cX8_isLike 33 = .ok (.iadd, 1) := by decide +kernel
theorem dX8_isLike_34 : decode cX8_isLike 34 = .ok (.bipush 19, 2) := by decide +kernel
theorem dX8_isLike_36 : decode cX8_isLike 36 = .ok (.imul, 1) := by decide +kernel
theorem dX8_isLike_37 : decode cX8_isLike 37 = .ok (.if_icmp .ge 27, 3) := by decide +kernel
theorem dX8_isLike_40 : decode cX8_isLike 40 = .ok (.aload_n 0, 1) := by decide +kernel
theorem dX8_isLike_41 : decode cX8_isLike 41 = .ok (.getfield 27, 3) := by decide +kernel
theorem dX8_isLike_44 : decode cX8_isLike 44 = .ok (.iload_n 3, 1) := by decide +kernel
theorem dX8_isLike_45 : decode cX8_isLike 45 = .ok (.laload, 1) := by decide +kernel
theorem dX8_isLike_46 : decode cX8_isLike 46 = .ok (.aload_n 1, 1) := by decide +kernel
theorem dX8_isLike_47 : decode cX8_isLike 47 = .ok (.getfield 27, 3) := by decide +kernel
theorem dX8_isLike_50 : decode cX8_isLike 50 = .ok (.iload_n 3, 1) := by decide +kernel
theorem dX8_isLike_51 : decode cX8_isLike 51 = .ok (.laload, 1) := by decide +kernel
theorem dX8_isLike_52 : decode cX8_isLike 52 = .ok (.lcmp, 1) := by decide +kernel
theorem dX8_isLike_53 : decode cX8_isLike 53 = .ok (.ifCond .eq 5, 3) := by decide +kernel
theorem dX8_isLike_56 : decode cX8_isLike 56 = .ok (.iconst 0, 1) := by decide +kernel
theorem dX8_isLike_57 : decode cX8_isLike 57 = .ok (.ireturn, 1) := by decide +kernel
theorem dX8_isLike_58 : decode cX8_isLike 58 = .ok (.iinc 3 1, 3) := by decide +kernel
theorem dX8_isLike_61 : decode cX8_isLike 61 = .ok (.goto (-31), 3) := by decide +kernel
theorem dX8_isLike_64 : decode cX8_isLike 64 = .ok (.iconst 1, 1) := by decide +kernel
theorem dX8_isLike_65 : decode cX8_isLike 65 = .ok (.ireturn, 1) := by decide +kernel
theorem zy_X8_isLike : zYv yX8_isLike cX8_isLike 4 (some .boolean) 2 := ⟨zw_1117, zw_1118, zw_11, zw_1119, by decide, by decide, by decide⟩
theorem c_X8_isLike_b30 {C : zC} {I : Nat → Nat → Int32} {J : Nat → Nat → Int64} {Rr : Nat → Nat → Option Nat} {D : zD} (i0 : Nat) (hi0 : i0 < 10) (kn : Nat) (hkn : (i0 < 8 ∧ kn = 48) ∨ (8 ≤ i0 ∧ kn = 53)) (j0 : Nat) (hj0 : j0 < 10) (hij : i0 ≠ j0) (N : Nat) (a2 : Int32) (v_a1_debts : (Nat → Int64)) (e_v_a1_debts : J (58 + 7 * j0 + 1) = v_a1_debts) (v_a1_putOff : (Nat → Int64)) (e_v_a1_putOff : J (58 + 7 * j0 + 6) = v_a1_putOff) (v_debts : (Nat → Int64)) (e_v_debts : J (58 + 7 * i0 + 1) = v_debts) (v_putOff : (Nat → Int64)) (e_v_putOff : J (58 + 7 * i0 + 6) = v_putOff) (rr : Int32) (E : zE C RX8 cX8_isLike 4 (some .boolean) ({ frames := 1, cells := 0, slots := 0, locals := 20 } : Room)) (hQ : C.Q = zQi C ({ frames := 1, cells := 0, slots := 0, locals := 20 } : Room) rr (I, J, Rr, D))  : ∀ (n9 : Nat) (x3 : Int32), pRoll_isLike_b30 N a2 v_a1_debts v_a1_putOff v_debts v_putOff n9 x3 = some rr → zB C (0, 0) 30 [(0, .ref (C.X.1 + (58 + 7 * i0))), (1, .ref (C.X.1 + (58 + 7 * j0))), (2, .int a2), (3, .int x3)] [] (I, J, Rr, D) := by
  refine zlp1_ind (P := fun (x3 : Int32) => zB C (0, 0) 30 [(0, .ref (C.X.1 + (58 + 7 * i0))), (1, .ref (C.X.1 + (58 + 7 * j0))), (2, .int a2), (3, .int x3)] [] (I, J, Rr, D)) (fun self ih => ?_)
  intro x3 h
  refine zb_iload_n E dX8_isLike_30 3 rfl rfl ?_
  refine zb_iload_n E dX8_isLike_31 2 rfl rfl ?_
  refine zb_iconst E dX8_isLike_32 (v := 1) rfl ?_
  refine zb_iadd E dX8_isLike_33 ?_
  refine zb_bipush E dX8_isLike_34 (v := 19) rfl ?_
  refine zb_imul E dX8_isLike_36 ?_
  refine zb_icmp_ge E dX8_isLike_37 (tgt := 64) rfl (fun hc => ?_) (fun hc => ?_)
  · have h := if_t h hc
    refine zb_iconst E dX8_isLike_64 (v := 1) rfl ?_
    obtain rfl := zinj1 h
    exact zb_zret E hQ (ty := .boolean) rfl rfl ⟨Nat.zero_le _, Nat.zero_le _⟩ dX8_isLike_65
  · have h := if_f h hc
    refine zb_aload_n E dX8_isLike_40 0 rfl rfl ?_
    refine zb_getX E (58 + 7 * i0) (by omega) (zFr C.X hi0 hkn) rfl zin8 9 (by decide) zw_285 rfl rfl (v := .ref (C.X.1 + (58 + 7 * i0 + 6))) rfl dX8_isLike_41 ?_
    refine zb_iload_n E dX8_isLike_44 3 rfl rfl ?_
    obtain ⟨g3, h⟩ := gd_s h
    refine zb_lald E (58 + 7 * i0 + 6) (by omega) (zFrA_6 hi0) (f := v_putOff) e_v_putOff (ib_in g3) dX8_isLike_45 ?_
    refine zb_aload_n E dX8_isLike_46 1 rfl rfl ?_
    refine zb_getX E (58 + 7 * j0) (by omega) (zFr C.X hj0 (zkj j0)) rfl zin8 9 (by decide) zw_285 rfl rfl (v := .ref (C.X.1 + (58 + 7 * j0 + 6))) rfl dX8_isLike_47 ?_
    refine zb_iload_n E dX8_isLike_50 3 rfl rfl ?_
    refine zb_lald E (58 + 7 * j0 + 6) (by omega) (zFrA_6 hj0) (f := v_a1_putOff) e_v_a1_putOff (ib_in g3) dX8_isLike_51 ?_
    refine zb_lcmp E dX8_isLike_52 ?_
    refine zb_if_eq E dX8_isLike_53 (tgt := 58) rfl (fun hc => ?_) (fun hc => ?_)
    · have h := if_t h hc
      refine zb_iinc E dX8_isLike_58 3 rfl (v := (x3 + 1)) rfl (by decide) (lv2 := [(3, .int (x3 + 1)), (0, .ref (C.X.1 + (58 + 7 * i0))), (1, .ref (C.X.1 + (58 + 7 * j0))), (2, .int a2)]) rfl ?_
      refine zb_goto E dX8_isLike_61 (tgt := 30) rfl ?_
      refine zb_sub [1, 2, 3, 0] rfl ?_
      exact ih (x3 + 1) h
    · have h := if_f h hc
      refine zb_iconst E dX8_isLike_56 (v := 0) rfl ?_
      obtain rfl := zinj1 h
      exact zb_zret E hQ (ty := .boolean) rfl rfl ⟨Nat.zero_le _, Nat.zero_le _⟩ dX8_isLike_57
theorem c_X8_isLike_0 {C : zC} {I : Nat → Nat → Int32} {J : Nat → Nat → Int64} {Rr : Nat → Nat → Option Nat} {D : zD} (i0 : Nat) (hi0 : i0 < 10) (kn : Nat) (hkn : (i0 < 8 ∧ kn = 48) ∨ (8 ≤ i0 ∧ kn = 53)) (j0 : Nat) (hj0 : j0 < 10) (hij : i0 ≠ j0) (N : Nat) (a2 : Int32) (v_a1_debts : (Nat → Int64)) (e_v_a1_debts : J (58 + 7 * j0 + 1) = v_a1_debts) (v_a1_putOff : (Nat → Int64)) (e_v_a1_putOff : J (58 + 7 * j0 + 6) = v_a1_putOff) (v_debts : (Nat → Int64)) (e_v_debts : J (58 + 7 * i0 + 1) = v_debts) (v_putOff : (Nat → Int64)) (e_v_putOff : J (58 + 7 * i0 + 6) = v_putOff) (rr : Int32) (E : zE C RX8 cX8_isLike 4 (some .boolean) ({ frames := 1, cells := 0, slots := 0, locals := 20 } : Room)) (hQ : C.Q = zQi C ({ frames := 1, cells := 0, slots := 0, locals := 20 } : Room) rr (I, J, Rr, D)) (h : pRoll_isLike N a2 v_a1_debts v_a1_putOff v_debts v_putOff = some rr) : zB C (0, 0) 0 [(0, .ref (C.X.1 + (58 + 7 * i0))), (1, .ref (C.X.1 + (58 + 7 * j0))), (2, .int a2)] [] (I, J, Rr, D) := by
  refine zb_iload_n E dX8_isLike_0 2 rfl rfl ?_
  obtain ⟨rc1, hc_1, h⟩ := bd1_s h
  refine zb_cSNi E [.int a2] zy_X11_isTerm znw_37 (c_X11_isTerm hc_1) (by decide) rfl rfl (by first | decide | simp [Value.category]) dX8_isLike_1 (cs2 := (0, 0)) rfl ?_
  refine zb_if_eq E dX8_isLike_4 (tgt := 23) rfl (fun hc => ?_) (fun hc => ?_)
  · have h := if_t h hc
    refine zb_iconst E dX8_isLike_23 (v := 0) rfl ?_
    obtain rfl := zinj1 h
    exact zb_zret E hQ (ty := .boolean) rfl rfl ⟨Nat.zero_le _, Nat.zero_le _⟩ dX8_isLike_24
  · have h := if_f h hc
    refine zb_aload_n E dX8_isLike_7 0 rfl rfl ?_
    refine zb_getX E (58 + 7 * i0) (by omega) (zFr C.X hi0 hkn) rfl zin8 4 (by decide) zw_280 rfl rfl (v := .ref (C.X.1 + (58 + 7 * i0 + 1))) rfl dX8_isLike_8 ?_
    refine zb_iload_n E dX8_isLike_11 2 rfl rfl ?_
    obtain ⟨g2, h⟩ := gd_s h
    refine zb_lald E (58 + 7 * i0 + 1) (by omega) (zFrA_1 hi0) (f := v_debts) e_v_debts (ib_in g2) dX8_isLike_12 ?_
    refine zb_aload_n E dX8_isLike_13 1 rfl rfl ?_
    refine zb_getX E (58 + 7 * j0) (by omega) (zFr C.X hj0 (zkj j0)) rfl zin8 4 (by decide) zw_280 rfl rfl (v := .ref (C.X.1 + (58 + 7 * j0 + 1))) rfl dX8_isLike_14 ?_
    refine zb_iload_n E dX8_isLike_17 2 rfl rfl ?_
    refine zb_lald E (58 + 7 * j0 + 1) (by omega) (zFrA_1 hj0) (f := v_a1_debts) e_v_a1_debts (ib_in g2) dX8_isLike_18 ?_
    refine zb_lcmp E dX8_isLike_19 ?_
    refine zb_if_eq E dX8_isLike_20 (tgt := 25) rfl (fun hc => ?_) (fun hc => ?_)
    · have h := if_t h hc
      refine zb_iload_n E dX8_isLike_25 2 rfl rfl ?_
      refine zb_bipush E dX8_isLike_26 (v := 19) rfl ?_
      refine zb_imul E dX8_isLike_28 ?_
      refine zb_istore_n E dX8_isLike_29 rfl (by decide) (lv2 := [(3, .int (a2 * 19)), (0, .ref (C.X.1 + (58 + 7 * i0))), (1, .ref (C.X.1 + (58 + 7 * j0))), (2, .int a2)]) rfl ?_
      refine zb_sub [1, 2, 3, 0] rfl ?_
      exact c_X8_isLike_b30 i0 hi0 kn hkn j0 hj0 hij N a2 v_a1_debts e_v_a1_debts v_a1_putOff e_v_a1_putOff v_debts e_v_debts v_putOff e_v_putOff rr E hQ _ (a2 * 19) h
    · have h := if_f h hc
      refine zb_iconst E dX8_isLike_23 (v := 0) rfl ?_
      obtain rfl := zinj1 h
      exact zb_zret E hQ (ty := .boolean) rfl rfl ⟨Nat.zero_le _, Nat.zero_le _⟩ dX8_isLike_24
theorem c_X8_isLike {l : Launch} {X : zX} {I : Nat → Nat → Int32} {J : Nat → Nat → Int64} {Rr : Nat → Nat → Option Nat} {D : zD} (i0 : Nat) (hi0 : i0 < 10) (kn : Nat) (hkn : (i0 < 8 ∧ kn = 48) ∨ (8 ≤ i0 ∧ kn = 53)) (j0 : Nat) (hj0 : j0 < 10) (hij : i0 ≠ j0) {N : Nat} {a2 : Int32} (v_a1_debts : (Nat → Int64)) (e_v_a1_debts : J (58 + 7 * j0 + 1) = v_a1_debts) (v_a1_putOff : (Nat → Int64)) (e_v_a1_putOff : J (58 + 7 * j0 + 6) = v_a1_putOff) (v_debts : (Nat → Int64)) (e_v_debts : J (58 + 7 * i0 + 1) = v_debts) (v_putOff : (Nat → Int64)) (e_v_putOff : J (58 + 7 * i0 + 6) = v_putOff) {rr : Int32} (h : pRoll_isLike N a2 v_a1_debts v_a1_putOff v_debts v_putOff = some rr) : zMi l yX8_isLike cX8_isLike 4 (some .boolean) ({ frames := 1, cells := 0, slots := 0, locals := 20 } : Room) X [.ref (X.1 + (58 + 7 * i0)), .ref (X.1 + (58 + 7 * j0)), .int a2] (I, J, Rr, D) rr (I, J, Rr, D) := by
  refine zMi.of (by decide) (Nat.le_of_ble_eq_true rfl) (fun C E hl hX hQ => ?_)
  subst hl
  subst hX
  have eI0 : I = I := rfl
  have eJ0 : J = J := rfl
  refine zb_S (S2 := (I, J, Rr, D)) (zS_eq eI0.symm eJ0.symm) ?_
  exact c_X8_isLike_0 i0 hi0 kn hkn j0 hj0 hij N a2 v_a1_debts e_v_a1_debts v_a1_putOff e_v_a1_putOff v_debts e_v_debts v_putOff e_v_putOff rr E hQ h
-- ChequeredCloth$Roll.goBack
theorem dX8_goBack_0 : decode cX8_goBack 0 = .ok (.aload_n 0, 1) := by decide +kernel
theorem dX8_goBack_1 : decode cX8_goBack 1 = .ok (.iconst 0, 1) := by decide +kernel
theorem dX8_goBack_2 : decode cX8_goBack 2 = .ok (.iload_n 1, 1) := by decide +kernel
theorem dX8_goBack_3 : decode cX8_goBack 3 = .ok (.aload_n 0, 1) := by decide +kernel
theorem dX8_goBack_4 : decode cX8_goBack 4 = .ok (.getfield 50, 3) := by decide +kernel
theorem dX8_goBack_7 : decode cX8_goBack 7 = .ok (.invokestatic 53, 3) := by decide +kernel
theorem dX8_goBack_10 : decode cX8_goBack 10 = .ok (.invokestatic 59, 3) := by decide +kernel
theorem dX8_goBack_13 : decode cX8_goBack 13 = .ok (.putfield 50, 3) := by decide +kernel
theorem dX8_goBack_16 : decode cX8_goBack 16 = .ok (.return_, 1) := by decide +kernel
theorem zy_X8_goBack : zYv yX8_goBack cX8_goBack 2 none 1 := ⟨zw_1149, zw_1150, zw_11, zw_1151, by decide, by decide, by decide⟩
theorem c_X8_goBack_0 {C : zC} {I : Nat → Nat → Int32} {J : Nat → Nat → Int64} {Rr : Nat → Nat → Option Nat} {D : zD} (i0 : Nat) (hi0 : i0 < 10) (kn : Nat) (hkn : (i0 < 8 ∧ kn = 48) ∨ (8 ≤ i0 ∧ kn = 53)) (a1 : Int32) (y_v_told : Int32) (E : zE C RX8 cX8_goBack 2 none ({ frames := 1, cells := 0, slots := 0, locals := 31 } : Room)) (hQ : C.Q = zQv C ({ frames := 1, cells := 0, slots := 0, locals := 31 } : Room) ((va_up I (58 + 7 * i0) (va_up (I (58 + 7 * i0)) 11 y_v_told)), J, Rr, D)) (v_told : Int32) (h : pRoll_goBack a1 v_told = some y_v_told) : zB C (0, 0) 0 [(0, .ref (C.X.1 + (58 + 7 * i0))), (1, .int a1)] [] ((va_up I (58 + 7 * i0) (va_up (I (58 + 7 * i0)) 11 v_told)), J, Rr, D) := by
  refine zb_aload_n E dX8_goBack_0 0 rfl rfl ?_
  refine zb_iconst E dX8_goBack_1 (v := 0) rfl ?_
  refine zb_iload_n E dX8_goBack_2 1 rfl rfl ?_
  refine zb_aload_n E dX8_goBack_3 0 rfl rfl ?_
  refine zb_getX E (58 + 7 * i0) (by omega) (zFr C.X hi0 hkn) rfl zin8 11 (by decide) zw_287 zup_s rfl (v := .int v_told) rfl dX8_goBack_4 ?_
  refine zb_mmin E zYm_mmin zw_1060 (by decide) (by first | decide | simp [Value.category]) dX8_goBack_7 ?_
  refine zb_mmax E zYm_mmax zw_1107 (by decide) (by first | decide | simp [Value.category]) dX8_goBack_10 ?_
  refine zb_putXI E (58 + 7 * i0) (by omega) (zFr C.X hi0 hkn) rfl zin8 11 (by decide) zw_287 tyX8 tyX8_ok nmX8 rfl rfl rfl zup_s rfl (zset8_11 C.X (58 + 7 * i0) kn _ _ (m_max 0 (m_min a1 v_told))) (by rw [zflen8]; decide) (I2 := (va_up I (58 + 7 * i0) (va_up (I (58 + 7 * i0)) 11 (m_max 0 (m_min a1 v_told))))) ((zcgV zn1).trans zn1) dX8_goBack_13 ?_
  obtain rfl := zinj1 h
  exact zb_vret E hQ rfl ⟨Nat.zero_le _, Nat.zero_le _⟩ dX8_goBack_16
theorem c_X8_goBack {l : Launch} {X : zX} {I : Nat → Nat → Int32} {J : Nat → Nat → Int64} {Rr : Nat → Nat → Option Nat} {D : zD} (i0 : Nat) (hi0 : i0 < 10) (kn : Nat) (hkn : (i0 < 8 ∧ kn = 48) ∨ (8 ≤ i0 ∧ kn = 53)) {a1 : Int32} (oI58_7_i0 : Nat → Int32) (eoI58_7_i0 : I (58 + 7 * i0) = oI58_7_i0) (v_told : Int32) (e_v_told : I (58 + 7 * i0) 11 = v_told) {y_v_told : Int32} (h : pRoll_goBack a1 v_told = some y_v_told) : zMv l yX8_goBack cX8_goBack 2 none ({ frames := 1, cells := 0, slots := 0, locals := 31 } : Room) X [.ref (X.1 + (58 + 7 * i0)), .int a1] (I, J, Rr, D) ((va_up I (58 + 7 * i0) (va_up oI58_7_i0 11 y_v_told)), J, Rr, D) := by
  subst eoI58_7_i0
  refine zMv.of (by decide) (Nat.le_of_ble_eq_true rfl) (fun C E hl hX hQ => ?_)
  subst hl
  subst hX
  have eI0 : (va_up I (58 + 7 * i0) (va_up (I (58 + 7 * i0)) 11 v_told)) = I := by rw [zup_idE e_v_told, zup_id]
  have eJ0 : J = J := rfl
  refine zb_S (S2 := ((va_up I (58 + 7 * i0) (va_up (I (58 + 7 * i0)) 11 v_told)), J, Rr, D)) (zS_eq eI0.symm eJ0.symm) ?_
  exact c_X8_goBack_0 i0 hi0 kn hkn a1 y_v_told E hQ v_told h
